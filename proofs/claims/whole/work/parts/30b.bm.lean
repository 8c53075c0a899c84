set_option maxHeartbeats 1000000 in
set_option maxRecDepth 100000 in
theorem bm_push (l : Launch) (D : va_G) (k : Nat → ClassId) (mm : Nat) (t : Int) (B : Bd) (S : List Bd) (K : Nat → Option Bd) (T : List Int) (xs : va_W) (hG : goodS (B, S, K, T)) (hx : isM k mm t (B, S, K, T) xs) (x1 x2 : Int) (h1 : 0 ≤ x1 ∧ x1 ≤ 2) (h2 : 1 ≤ x2 ∧ x2 ≤ 150) : ∀ sz, Met l yX7_push (zW yX7_push cX7_push 5 (some .int)) zRN (va_Pc [.ref mm, .int (nZ x1), .int (nZ x2)] (zIn D k sz xs)) (va_Qi (fun (r : Int32) (u : va_W) => r = nZ (if B.1 3 = 0 then nudS (B.1 0) x2 (B.2 x1.toNat) else -1) ∧ isMg k mm 0 (pushF B x1.toNat x2, saveL S B, K, T) u) (fun u => zOut D (va_A xs sz) u) (va_A xs sz)) 0 0 (va_A xs sz) := by
  obtain ⟨ms, mk, mb, vsv, vty, ven, vsp, vla, vpc, s, kp, bf, rfl, hr⟩ := hx
  obtain ⟨r1, r2, r3, r4, r5, r6, r7⟩ := id hr
  have r2 : vsv = (S.length : Int) := r2
  have r3 : S.length ≤ 6 := r3
  have r7 : textOk bf vty T := r7
  have r1 : blkOk s 0 B := r1
  have hgB : bdGood B := hG.1
  obtain ⟨w0, w1, w2, w3, w4, hC0, hC1, hC2⟩ := id hgB
  obtain ⟨j, rfl⟩ := Int.eq_ofNat_of_zero_le (h1.1)
  rw [Int.toNat_natCast]
  by_cases c3 : B.1 3 = 0
  · rw [if_pos c3]
    refine zBundlei0 (S := (Nat → Int) × Int × Int) (ws := mW k mm ms mk mb vsv vty t ven vsp vla vpc s kp bf) (wc := [(mm, .inr (7, [.ref ms, .int (nZ vsv), .ref mk, .ref mb, .int (nZ vty), .int (nZ t), .int (nZ ven), .int (nZ vsp), .int (nZ vla), .int (nZ vpc)])), (ms, .inl (k 0, 900, .inl (zA s)))]) (w1 := fun (uz : (Nat → Int) × Int × Int) => ([(mm, .inr (7, [.ref ms, .int (nZ (uz.2.1)), .ref mk, .ref mb, .int (nZ vty), .int (nZ 0), .int (nZ (uz.2.2)), .int (nZ vsp), .int (nZ vla), .int (nZ vpc)])), (ms, .inl (k 0, 900, .inl (zA (uz.1))))] : va_W)) (fun sz => c_X7_push_play l D k sz mm ms mk mb vsv vty t ven vsp vla vpc s j B S.length x2 (r1) (hgB) (r2) (r3) (by omega) (h2) (c3)) (by decide) (List.Perm.refl _) [0, 1] rfl rfl (fun _ => rfl) ?_
    rintro r ⟨s2, sv2, ve2⟩ ⟨hr9, hB2, hv, hsv⟩
    try dsimp only at hr9 hB2 hv hsv
    simp only [zput, mW, List.set_cons_zero, List.set_cons_succ]
    exact ⟨hr9, hG.save (push_good hgB (by omega) h2), ms, mk, mb, sv2, vty, ve2, vsp, vla, vpc, s2, kp, bf, rfl, hr.save hB2 (fun k h1 _ => hv k h1) hsv (by exact r7)⟩
  · rw [if_neg c3]
    refine zBundlei0 (S := (Nat → Int) × Int × Int) (ws := mW k mm ms mk mb vsv vty t ven vsp vla vpc s kp bf) (wc := [(mm, .inr (7, [.ref ms, .int (nZ vsv), .ref mk, .ref mb, .int (nZ vty), .int (nZ t), .int (nZ ven), .int (nZ vsp), .int (nZ vla), .int (nZ vpc)])), (ms, .inl (k 0, 900, .inl (zA s)))]) (w1 := fun (uz : (Nat → Int) × Int × Int) => ([(mm, .inr (7, [.ref ms, .int (nZ (uz.2.1)), .ref mk, .ref mb, .int (nZ vty), .int (nZ 0), .int (nZ (uz.2.2)), .int (nZ vsp), .int (nZ vla), .int (nZ vpc)])), (ms, .inl (k 0, 900, .inl (zA (uz.1))))] : va_W)) (fun sz => c_X7_push_over l D k sz mm ms mk mb vsv vty t ven vsp vla vpc s j B S.length x2 (r1) (hgB) (r2) (r3) (by omega) (h2) (⟨by omega, by omega⟩)) (by decide) (List.Perm.refl _) [0, 1] rfl rfl (fun _ => rfl) ?_
    rintro r ⟨s2, sv2, ve2⟩ ⟨hr9, hB2, hv, hsv⟩
    try dsimp only at hr9 hB2 hv hsv
    simp only [zput, mW, List.set_cons_zero, List.set_cons_succ]
    exact ⟨hr9, hG.save (push_good hgB (by omega) h2), ms, mk, mb, sv2, vty, ve2, vsp, vla, vpc, s2, kp, bf, rfl, hr.save hB2 (fun k h1 _ => hv k h1) hsv (by exact r7)⟩
set_option maxHeartbeats 1000000 in
set_option maxRecDepth 100000 in
theorem bm_endTurn (l : Launch) (D : va_G) (k : Nat → ClassId) (mm : Nat) (t : Int) (B : Bd) (S : List Bd) (K : Nat → Option Bd) (T : List Int) (xs : va_W) (hG : goodS (B, S, K, T)) (hx : isM k mm t (B, S, K, T) xs)  : ∀ sz, Met l yX7_endTurn (zW yX7_endTurn cX7_endTurn 1 (some .int)) zRN (va_Pc [.ref mm] (zIn D k sz xs)) (va_Qi (fun (r : Int32) (u : va_W) => r = nZ (if B.1 3 = 0 then madeB B else -1) ∧ isMg k mm 0 (endF B, saveL S B, K, T) u) (fun u => zOut D (va_A xs sz) u) (va_A xs sz)) 0 0 (va_A xs sz) := by
  obtain ⟨ms, mk, mb, vsv, vty, ven, vsp, vla, vpc, s, kp, bf, rfl, hr⟩ := hx
  obtain ⟨r1, r2, r3, r4, r5, r6, r7⟩ := id hr
  have r2 : vsv = (S.length : Int) := r2
  have r3 : S.length ≤ 6 := r3
  have r7 : textOk bf vty T := r7
  have r1 : blkOk s 0 B := r1
  have hgB : bdGood B := hG.1
  obtain ⟨w0, w1, w2, w3, w4, hC0, hC1, hC2⟩ := id hgB
  by_cases c3 : B.1 3 = 0
  · rw [if_pos c3]
    refine zBundlei0 (S := (Nat → Int) × Int) (ws := mW k mm ms mk mb vsv vty t ven vsp vla vpc s kp bf) (wc := [(mm, .inr (7, [.ref ms, .int (nZ vsv), .ref mk, .ref mb, .int (nZ vty), .int (nZ t), .int (nZ ven), .int (nZ vsp), .int (nZ vla), .int (nZ vpc)])), (ms, .inl (k 0, 900, .inl (zA s)))]) (w1 := fun (uz : (Nat → Int) × Int) => ([(mm, .inr (7, [.ref ms, .int (nZ (uz.2)), .ref mk, .ref mb, .int (nZ vty), .int (nZ 0), .int (nZ ven), .int (nZ vsp), .int (nZ vla), .int (nZ vpc)])), (ms, .inl (k 0, 900, .inl (zA (uz.1))))] : va_W)) (fun sz => c_X7_endTurn_play l D k sz mm ms mk mb vsv vty t ven vsp vla vpc s B S.length (r1) (hgB) (r2) (r3) (c3)) (by decide) (List.Perm.refl _) [0, 1] rfl rfl (fun _ => rfl) ?_
    rintro r ⟨s2, sv2⟩ ⟨hr9, hB2, hv, hsv⟩
    try dsimp only at hr9 hB2 hv hsv
    simp only [zput, mW, List.set_cons_zero, List.set_cons_succ]
    exact ⟨hr9, hG.save (end_good hgB), ms, mk, mb, sv2, vty, ven, vsp, vla, vpc, s2, kp, bf, rfl, hr.save hB2 (fun k h1 _ => hv k h1) hsv (by exact r7)⟩
  · rw [if_neg c3]
    refine zBundlei0 (S := (Nat → Int) × Int) (ws := mW k mm ms mk mb vsv vty t ven vsp vla vpc s kp bf) (wc := [(mm, .inr (7, [.ref ms, .int (nZ vsv), .ref mk, .ref mb, .int (nZ vty), .int (nZ t), .int (nZ ven), .int (nZ vsp), .int (nZ vla), .int (nZ vpc)])), (ms, .inl (k 0, 900, .inl (zA s)))]) (w1 := fun (uz : (Nat → Int) × Int) => ([(mm, .inr (7, [.ref ms, .int (nZ (uz.2)), .ref mk, .ref mb, .int (nZ vty), .int (nZ 0), .int (nZ ven), .int (nZ vsp), .int (nZ vla), .int (nZ vpc)])), (ms, .inl (k 0, 900, .inl (zA (uz.1))))] : va_W)) (fun sz => c_X7_endTurn_over l D k sz mm ms mk mb vsv vty t ven vsp vla vpc s B S.length (r1) (hgB) (r2) (r3) (⟨by omega, by omega⟩)) (by decide) (List.Perm.refl _) [0, 1] rfl rfl (fun _ => rfl) ?_
    rintro r ⟨s2, sv2⟩ ⟨hr9, hB2, hv, hsv⟩
    try dsimp only at hr9 hB2 hv hsv
    simp only [zput, mW, List.set_cons_zero, List.set_cons_succ]
    exact ⟨hr9, hG.save (end_good hgB), ms, mk, mb, sv2, vty, ven, vsp, vla, vpc, s2, kp, bf, rfl, hr.save hB2 (fun k h1 _ => hv k h1) hsv (by exact r7)⟩
set_option maxHeartbeats 1000000 in
set_option maxRecDepth 100000 in
theorem bm_begin (l : Launch) (D : va_G) (k : Nat → ClassId) (mm : Nat) (t : Int) (B : Bd) (S : List Bd) (K : Nat → Option Bd) (T : List Int) (xs : va_W) (hG : goodS (B, S, K, T)) (hx : isM k mm t (B, S, K, T) xs)  : ∀ sz, Met l yX7_begin (zW yX7_begin cX7_begin 3 (some .int)) zRN (va_Pc [.ref mm] (zIn D k sz xs)) (va_Qi (fun (r : Int32) (u : va_W) => r = nZ (chalksB B) ∧ isMg k mm 0 (beginB B, saveL S B, K, T) u) (fun u => zOut D (va_A xs sz) u) (va_A xs sz)) 0 0 (va_A xs sz) := by
  obtain ⟨ms, mk, mb, vsv, vty, ven, vsp, vla, vpc, s, kp, bf, rfl, hr⟩ := hx
  obtain ⟨r1, r2, r3, r4, r5, r6, r7⟩ := id hr
  have r2 : vsv = (S.length : Int) := r2
  have r3 : S.length ≤ 6 := r3
  have r7 : textOk bf vty T := r7
  have r1 : blkOk s 0 B := r1
  have hgB : bdGood B := hG.1
  obtain ⟨w0, w1, w2, w3, w4, hC0, hC1, hC2⟩ := id hgB
  refine zBundlei0 (S := (Nat → Int) × Int) (ws := mW k mm ms mk mb vsv vty t ven vsp vla vpc s kp bf) (wc := [(mm, .inr (7, [.ref ms, .int (nZ vsv), .ref mk, .ref mb, .int (nZ vty), .int (nZ t), .int (nZ ven), .int (nZ vsp), .int (nZ vla), .int (nZ vpc)])), (ms, .inl (k 0, 900, .inl (zA s)))]) (w1 := fun (uz : (Nat → Int) × Int) => ([(mm, .inr (7, [.ref ms, .int (nZ (uz.2)), .ref mk, .ref mb, .int (nZ vty), .int (nZ 0), .int (nZ ven), .int (nZ vsp), .int (nZ vla), .int (nZ vpc)])), (ms, .inl (k 0, 900, .inl (zA (uz.1))))] : va_W)) (fun sz => c_X7_begin l D k sz mm ms mk mb vsv vty t ven vsp vla vpc s B S.length (r1) (hgB) (r2) (r3)) (by decide) (List.Perm.refl _) [0, 1] rfl rfl (fun _ => rfl) ?_
  rintro r ⟨s2, sv2⟩ ⟨hr9, hB2, hv, hsv⟩
  try dsimp only at hr9 hB2 hv hsv
  simp only [zput, mW, List.set_cons_zero, List.set_cons_succ]
  exact ⟨hr9, hG.save (begin_good hgB), ms, mk, mb, sv2, vty, ven, vsp, vla, vpc, s2, kp, bf, rfl, hr.save hB2 (fun k h1 _ => hv k h1) hsv (by exact r7)⟩
set_option maxHeartbeats 1000000 in
set_option maxRecDepth 100000 in
theorem bm_set (l : Launch) (D : va_G) (k : Nat → ClassId) (mm : Nat) (t : Int) (B : Bd) (S : List Bd) (K : Nat → Option Bd) (T : List Int) (xs : va_W) (hG : goodS (B, S, K, T)) (hx : isM k mm t (B, S, K, T) xs) (x1 : Int) (h1 : 0 ≤ x1 ∧ x1 ≤ 20) : ∀ sz, Met l yX7_set (zW yX7_set cX7_set 3 (some .int)) zRN (va_Pc [.ref mm, .int (nZ x1)] (zIn D k sz xs)) (va_Qi (fun (r : Int32) (u : va_W) => r = nZ (B.1 0) ∧ isMg k mm 0 (setB B x1, saveL S B, K, T) u) (fun u => zOut D (va_A xs sz) u) (va_A xs sz)) 0 0 (va_A xs sz) := by
  obtain ⟨ms, mk, mb, vsv, vty, ven, vsp, vla, vpc, s, kp, bf, rfl, hr⟩ := hx
  obtain ⟨r1, r2, r3, r4, r5, r6, r7⟩ := id hr
  have r2 : vsv = (S.length : Int) := r2
  have r3 : S.length ≤ 6 := r3
  have r7 : textOk bf vty T := r7
  have r1 : blkOk s 0 B := r1
  have hgB : bdGood B := hG.1
  obtain ⟨w0, w1, w2, w3, w4, hC0, hC1, hC2⟩ := id hgB
  refine zBundlei0 (S := (Nat → Int) × Int) (ws := mW k mm ms mk mb vsv vty t ven vsp vla vpc s kp bf) (wc := [(mm, .inr (7, [.ref ms, .int (nZ vsv), .ref mk, .ref mb, .int (nZ vty), .int (nZ t), .int (nZ ven), .int (nZ vsp), .int (nZ vla), .int (nZ vpc)])), (ms, .inl (k 0, 900, .inl (zA s)))]) (w1 := fun (uz : (Nat → Int) × Int) => ([(mm, .inr (7, [.ref ms, .int (nZ (uz.2)), .ref mk, .ref mb, .int (nZ vty), .int (nZ 0), .int (nZ ven), .int (nZ vsp), .int (nZ vla), .int (nZ vpc)])), (ms, .inl (k 0, 900, .inl (zA (uz.1))))] : va_W)) (fun sz => c_X7_set l D k sz mm ms mk mb vsv vty t ven vsp vla vpc s B S.length x1 (r1) (hgB) (r2) (r3) (h1)) (by decide) (List.Perm.refl _) [0, 1] rfl rfl (fun _ => rfl) ?_
  rintro r ⟨s2, sv2⟩ ⟨hr9, hB2, hv, hsv⟩
  try dsimp only at hr9 hB2 hv hsv
  simp only [zput, mW, List.set_cons_zero, List.set_cons_succ]
  exact ⟨hr9, hG.save (set_good hgB h1), ms, mk, mb, sv2, vty, ven, vsp, vla, vpc, s2, kp, bf, rfl, hr.save hB2 (fun k h1 _ => hv k h1) hsv (by exact r7)⟩
set_option maxHeartbeats 1000000 in
set_option maxRecDepth 100000 in
theorem bm_lay (l : Launch) (D : va_G) (k : Nat → ClassId) (mm : Nat) (t : Int) (B : Bd) (S : List Bd) (K : Nat → Option Bd) (T : List Int) (xs : va_W) (hG : goodS (B, S, K, T)) (hx : isM k mm t (B, S, K, T) xs) (hw : wholeS T) : ∀ sz, Met l yX7_lay (zW yX7_lay cX7_lay 2 (some .int)) zRN (va_Pc [.ref mm] (zIn D k sz xs)) (va_Qi (fun (r : Int32) (u : va_W) => r = nZ (layN T) ∧ isMg k mm 0 (layF B T, saveL S B, K, []) u) (fun u => zOut D (va_A xs sz) u) (va_A xs sz)) 0 0 (va_A xs sz) := by
  obtain ⟨ms, mk, mb, vsv, vty, ven, vsp, vla, vpc, s, kp, bf, rfl, hr⟩ := hx
  obtain ⟨r1, r2, r3, r4, r5, r6, r7⟩ := id hr
  have r2 : vsv = (S.length : Int) := r2
  have r3 : S.length ≤ 6 := r3
  have r7 : textOk bf vty T := r7
  have r1 : blkOk s 0 B := r1
  have hgB : bdGood B := hG.1
  obtain ⟨w0, w1, w2, w3, w4, hC0, hC1, hC2⟩ := id hgB
  refine zBundlei0 (S := (Nat → Int) × Int × Nat × Int × Int) (ws := mW k mm ms mk mb vsv vty t ven vsp vla vpc s kp bf) (wc := [(mm, .inr (7, [.ref ms, .int (nZ vsv), .ref mk, .ref mb, .int (nZ vty), .int (nZ t), .int (nZ ven), .int (nZ vsp), .int (nZ vla), .int (nZ vpc)])), (ms, .inl (k 0, 900, .inl (zA s))), (mb, .inl (k 2, 60, .inl (zA bf)))]) (w1 := fun (uz : (Nat → Int) × Int × Nat × Int × Int) => ([(mm, .inr (7, [.ref ms, .int (nZ (uz.2.1)), .ref mk, .ref mb, .int (nZ 0), .int (nZ 0), .int (nZ ven), .int (nZ (↑(uz.2.2.1))), .int (nZ (uz.2.2.2.1)), .int (nZ (uz.2.2.2.2))])), (ms, .inl (k 0, 900, .inl (zA (uz.1)))), (mb, .inl (k 2, 60, .inl (zA bf)))] : va_W)) (fun sz => c_X7_lay l D k sz mm ms mk mb vsv vty t ven vsp vla vpc s bf T B S.length (r7) (r1) (hgB) (r2) (r3) (hw)) (by decide) (List.Perm.refl _) [0, 1, 3] rfl rfl (fun _ => rfl) ?_
  rintro r ⟨s2, sv2, sp2, la2, pl2⟩ ⟨hr9, hB2, hv, hsv, hLg⟩
  try dsimp only at hr9 hB2 hv hsv hLg
  simp only [zput, mW, List.set_cons_zero, List.set_cons_succ]
  exact ⟨hr9, hG.save (lay_good hgB hLg), ms, mk, mb, sv2, 0, ven, _, _, _, s2, kp, bf, rfl, hr.save hB2 hv hsv (by exact textOk.nil _)⟩
set_option maxHeartbeats 1000000 in
set_option maxRecDepth 100000 in
theorem bm_goBack (l : Launch) (D : va_G) (k : Nat → ClassId) (mm : Nat) (t : Int) (B : Bd) (S : List Bd) (K : Nat → Option Bd) (T : List Int) (xs : va_W) (hG : goodS (B, S, K, T)) (hx : isM k mm t (B, S, K, T) xs) (x1 : Int) (h1 : 0 ≤ x1 ∧ x1 ≤ 1) (C : Bd) (hk : K x1.toNat = some C) : ∀ sz, Met l yX7_goBack (zW yX7_goBack cX7_goBack 2 (some .int)) zRN (va_Pc [.ref mm, .int (nZ x1)] (zIn D k sz xs)) (va_Qi (fun (r : Int32) (u : va_W) => r = nZ (coinsB C) ∧ isMg k mm 0 (C, saveL S B, K, T) u) (fun u => zOut D (va_A xs sz) u) (va_A xs sz)) 0 0 (va_A xs sz) := by
  obtain ⟨ms, mk, mb, vsv, vty, ven, vsp, vla, vpc, s, kp, bf, rfl, hr⟩ := hx
  obtain ⟨r1, r2, r3, r4, r5, r6, r7⟩ := id hr
  have r2 : vsv = (S.length : Int) := r2
  have r3 : S.length ≤ 6 := r3
  have r7 : textOk bf vty T := r7
  have r1 : blkOk s 0 B := r1
  have hgB : bdGood B := hG.1
  obtain ⟨w0, w1, w2, w3, w4, hC0, hC1, hC2⟩ := id hgB
  obtain ⟨j, rfl⟩ := Int.eq_ofNat_of_zero_le (h1.1)
  rw [Int.toNat_natCast] at hk
  obtain ⟨k1, k2⟩ := r6 j C (by omega) hk
  refine zBundlei0 (S := (Nat → Int) × Int) (ws := mW k mm ms mk mb vsv vty t ven vsp vla vpc s kp bf) (wc := [(mm, .inr (7, [.ref ms, .int (nZ vsv), .ref mk, .ref mb, .int (nZ vty), .int (nZ t), .int (nZ ven), .int (nZ vsp), .int (nZ vla), .int (nZ vpc)])), (ms, .inl (k 0, 900, .inl (zA s))), (mk, .inl (k 1, 2, .inl (zA kp)))]) (w1 := fun (uz : (Nat → Int) × Int) => ([(mm, .inr (7, [.ref ms, .int (nZ (uz.2)), .ref mk, .ref mb, .int (nZ vty), .int (nZ 0), .int (nZ ven), .int (nZ vsp), .int (nZ vla), .int (nZ vpc)])), (ms, .inl (k 0, 900, .inl (zA (uz.1)))), (mk, .inl (k 1, 2, .inl (zA kp)))] : va_W)) (fun sz => c_X7_goBack l D k sz mm ms mk mb vsv vty t ven vsp vla vpc s kp B C S.length j (r1) (k2) (r2) (r3) (by omega) (k1)) (by decide) (List.Perm.refl _) [0, 1, 2] rfl rfl (fun _ => rfl) ?_
  rintro r ⟨s2, sv2⟩ ⟨hr9, hB2, hv, hsv⟩
  try dsimp only at hr9 hB2 hv hsv
  simp only [zput, mW, List.set_cons_zero, List.set_cons_succ]
  exact ⟨hr9, hG.save (hG.2.2.1 _ C (by omega) hk), ms, mk, mb, sv2, vty, ven, vsp, vla, vpc, s2, kp, bf, rfl, hr.save hB2 (fun k h1 _ => hv k h1) hsv (by exact r7)⟩
set_option maxHeartbeats 1000000 in
set_option maxRecDepth 100000 in
theorem bm_undo (l : Launch) (D : va_G) (k : Nat → ClassId) (mm : Nat) (t : Int) (B : Bd) (S : List Bd) (K : Nat → Option Bd) (T : List Int) (xs : va_W) (hG : goodS (B, S, K, T)) (hx : isM k mm t (B, S, K, T) xs) (C : Bd) (hC : S.getLast? = some C) : ∀ sz, Met l yX7_undo (zW yX7_undo cX7_undo 1 (some .int)) zRN (va_Pc [.ref mm] (zIn D k sz xs)) (va_Qi (fun (r : Int32) (u : va_W) => r = nZ ((S.length : Int) - 1) ∧ isMg k mm 0 (C, S.dropLast, K, T) u) (fun u => zOut D (va_A xs sz) u) (va_A xs sz)) 0 0 (va_A xs sz) := by
  obtain ⟨ms, mk, mb, vsv, vty, ven, vsp, vla, vpc, s, kp, bf, rfl, hr⟩ := hx
  obtain ⟨r1, r2, r3, r4, r5, r6, r7⟩ := id hr
  have r2 : vsv = (S.length : Int) := r2
  have r3 : S.length ≤ 6 := r3
  have r7 : textOk bf vty T := r7
  have r1 : blkOk s 0 B := r1
  have hgB : bdGood B := hG.1
  obtain ⟨w0, w1, w2, w3, w4, hC0, hC1, hC2⟩ := id hgB
  have hS0 : S ≠ [] := by intro q; rw [q] at hC; cases hC
  have hlen := List.length_pos_iff.mpr hS0
  have hq : S[S.length - 1]? = some C := by rw [← List.getLast?_eq_getElem?]; exact hC
  have hKK := r4 _ _ hq
  rw [show S.length - 1 + 1 = S.length by omega] at hKK
  refine zBundlei0 (S := (Nat → Int)) (ws := mW k mm ms mk mb vsv vty t ven vsp vla vpc s kp bf) (wc := [(mm, .inr (7, [.ref ms, .int (nZ vsv), .ref mk, .ref mb, .int (nZ vty), .int (nZ t), .int (nZ ven), .int (nZ vsp), .int (nZ vla), .int (nZ vpc)])), (ms, .inl (k 0, 900, .inl (zA s)))]) (w1 := fun (uz : (Nat → Int)) => ([(mm, .inr (7, [.ref ms, .int (nZ (vsv - 1)), .ref mk, .ref mb, .int (nZ vty), .int (nZ 0), .int (nZ ven), .int (nZ vsp), .int (nZ vla), .int (nZ vpc)])), (ms, .inl (k 0, 900, .inl (zA (uz))))] : va_W)) (fun sz => c_X7_undo l D k sz mm ms mk mb vsv vty t ven vsp vla vpc s B C S.length (r1) (hKK) (r2) (⟨by omega, r3⟩)) (by decide) (List.Perm.refl _) [0, 1] rfl rfl (fun _ => rfl) ?_
  rintro r s2 ⟨hr9, hB2, hf2⟩
  try dsimp only at hr9 hB2 hf2
  simp only [zput, mW, List.set_cons_zero, List.set_cons_succ]
  exact ⟨by rw [hr9, r2], hG.undo (List.mem_of_getLast? hC), ms, mk, mb, vsv - 1, vty, ven, vsp, vla, vpc, s2, kp, bf, rfl, hr.undo hS0 hB2 hf2⟩
set_option maxHeartbeats 1000000 in
set_option maxRecDepth 100000 in
theorem bm_keep (l : Launch) (D : va_G) (k : Nat → ClassId) (mm : Nat) (t : Int) (B : Bd) (S : List Bd) (K : Nat → Option Bd) (T : List Int) (xs : va_W) (hG : goodS (B, S, K, T)) (hx : isM k mm t (B, S, K, T) xs) (x1 : Int) (h1 : 0 ≤ x1 ∧ x1 ≤ 1) : ∀ sz, Met l yX7_keep (zW yX7_keep cX7_keep 2 (some .int)) zRN (va_Pc [.ref mm, .int (nZ x1)] (zIn D k sz xs)) (va_Qi (fun (r : Int32) (u : va_W) => r = nZ (coinsB B) ∧ isMg k mm 0 (B, S, zU K x1.toNat (some B), T) u) (fun u => zOut D (va_A xs sz) u) (va_A xs sz)) 0 0 (va_A xs sz) := by
  obtain ⟨ms, mk, mb, vsv, vty, ven, vsp, vla, vpc, s, kp, bf, rfl, hr⟩ := hx
  obtain ⟨r1, r2, r3, r4, r5, r6, r7⟩ := id hr
  have r2 : vsv = (S.length : Int) := r2
  have r3 : S.length ≤ 6 := r3
  have r7 : textOk bf vty T := r7
  have r1 : blkOk s 0 B := r1
  have hgB : bdGood B := hG.1
  obtain ⟨w0, w1, w2, w3, w4, hC0, hC1, hC2⟩ := id hgB
  obtain ⟨j, rfl⟩ := Int.eq_ofNat_of_zero_le (h1.1)
  rw [Int.toNat_natCast]
  refine zBundlei0 (S := (Nat → Int)) (ws := mW k mm ms mk mb vsv vty t ven vsp vla vpc s kp bf) (wc := [(mm, .inr (7, [.ref ms, .int (nZ vsv), .ref mk, .ref mb, .int (nZ vty), .int (nZ t), .int (nZ ven), .int (nZ vsp), .int (nZ vla), .int (nZ vpc)])), (ms, .inl (k 0, 900, .inl (zA s))), (mk, .inl (k 1, 2, .inl (zA kp)))]) (w1 := fun (uz : (Nat → Int)) => ([(mm, .inr (7, [.ref ms, .int (nZ vsv), .ref mk, .ref mb, .int (nZ vty), .int (nZ 0), .int (nZ ven), .int (nZ vsp), .int (nZ vla), .int (nZ vpc)])), (ms, .inl (k 0, 900, .inl (zA (uz)))), (mk, .inl (k 1, 2, .inl (zA (zU kp j 1))))] : va_W)) (fun sz => c_X7_keep l D k sz mm ms mk mb vsv vty t ven vsp vla vpc s kp B j (r1) (by omega)) (by decide) (List.Perm.refl _) [0, 1, 2] rfl rfl (fun _ => rfl) ?_
  rintro r s2 ⟨hr9, hc⟩
  try dsimp only at hr9 hc
  simp only [zput, mW, List.set_cons_zero, List.set_cons_succ]
  exact ⟨hr9, hG.keep _, ms, mk, mb, vsv, vty, ven, vsp, vla, vpc, s2, zU kp j 1, bf, rfl, hr.keep (by omega) hc⟩
