set_option maxHeartbeats 1000000 in
set_option maxRecDepth 100000 in
theorem bm_push_e1 (l : Launch) (D : va_G) (k : Nat → ClassId) (mm : Nat) (t : Int) (B : Bd) (S : List Bd) (K : Nat → Option Bd) (T : List Int) (xs : va_W) (hG : goodS (B, S, K, T)) (hx : isM k mm t (B, S, K, T) xs) (x1 x2 : Int) (hz1 : zR x1) (hz2 : zR x2) (h1 : x1 < 0 ∨ 2 < x1) : ∀ sz, Met l yX7_push (zW yX7_push cX7_push 5 (some .int)) zRN (va_Pc [.ref mm, .int (nZ x1), .int (nZ x2)] (zIn D k sz xs)) (va_Qi (fun (r : Int32) (u : va_W) => r = nZ 0 ∧ isMg k mm 1 (B, S, K, T) u) (fun u => zOut D (va_A xs sz) u) (va_A xs sz)) 0 0 (va_A xs sz) := by
  obtain ⟨ms, mk, mb, vsv, vty, ven, vsp, vla, vpc, s, kp, bf, rfl, hr⟩ := hx
  obtain ⟨r1, r2, r3, r4, r5, r6, r7⟩ := id hr
  have r2 : vsv = (S.length : Int) := r2
  have r3 : S.length ≤ 6 := r3
  have r7 : textOk bf vty T := r7
  have r1 : blkOk s 0 B := r1
  have hgB : bdGood B := hG.1
  obtain ⟨w0, w1, w2, w3, w4, hC0, hC1, hC2⟩ := id hgB
  refine zBundlei0 (S := Unit) (ws := mW k mm ms mk mb vsv vty t ven vsp vla vpc s kp bf) (wc := [(mm, .inr (7, [.ref ms, .int (nZ vsv), .ref mk, .ref mb, .int (nZ vty), .int (nZ t), .int (nZ ven), .int (nZ vsp), .int (nZ vla), .int (nZ vpc)]))]) (w1 := fun (uz : Unit) => ([(mm, .inr (7, [.ref ms, .int (nZ vsv), .ref mk, .ref mb, .int (nZ vty), .int (nZ 1), .int (nZ ven), .int (nZ vsp), .int (nZ vla), .int (nZ vpc)]))] : va_W)) (fun sz => c_X7_push_e1 l D k sz mm ms mk mb vsv vty t ven vsp vla vpc x1 x2 (hz1) (hz2) (h1)) (by decide) (List.Perm.refl _) [0] rfl rfl (fun _ => rfl) ?_
  rintro r _ hr9
  try dsimp only at hr9
  simp only [zput, mW, List.set_cons_zero, List.set_cons_succ]
  exact ⟨hr9, hG, ms, mk, mb, vsv, vty, ven, vsp, vla, vpc, s, kp, bf, rfl, hr⟩
set_option maxHeartbeats 1000000 in
set_option maxRecDepth 100000 in
theorem bm_push_e2 (l : Launch) (D : va_G) (k : Nat → ClassId) (mm : Nat) (t : Int) (B : Bd) (S : List Bd) (K : Nat → Option Bd) (T : List Int) (xs : va_W) (hG : goodS (B, S, K, T)) (hx : isM k mm t (B, S, K, T) xs) (x1 x2 : Int) (hz1 : zR x1) (hz2 : zR x2) (h1 : 0 ≤ x1 ∧ x1 ≤ 2) (h2 : x2 < 1 ∨ 150 < x2) : ∀ sz, Met l yX7_push (zW yX7_push cX7_push 5 (some .int)) zRN (va_Pc [.ref mm, .int (nZ x1), .int (nZ x2)] (zIn D k sz xs)) (va_Qi (fun (r : Int32) (u : va_W) => r = nZ 0 ∧ isMg k mm 2 (B, S, K, T) u) (fun u => zOut D (va_A xs sz) u) (va_A xs sz)) 0 0 (va_A xs sz) := by
  obtain ⟨ms, mk, mb, vsv, vty, ven, vsp, vla, vpc, s, kp, bf, rfl, hr⟩ := hx
  obtain ⟨r1, r2, r3, r4, r5, r6, r7⟩ := id hr
  have r2 : vsv = (S.length : Int) := r2
  have r3 : S.length ≤ 6 := r3
  have r7 : textOk bf vty T := r7
  have r1 : blkOk s 0 B := r1
  have hgB : bdGood B := hG.1
  obtain ⟨w0, w1, w2, w3, w4, hC0, hC1, hC2⟩ := id hgB
  refine zBundlei0 (S := Unit) (ws := mW k mm ms mk mb vsv vty t ven vsp vla vpc s kp bf) (wc := [(mm, .inr (7, [.ref ms, .int (nZ vsv), .ref mk, .ref mb, .int (nZ vty), .int (nZ t), .int (nZ ven), .int (nZ vsp), .int (nZ vla), .int (nZ vpc)]))]) (w1 := fun (uz : Unit) => ([(mm, .inr (7, [.ref ms, .int (nZ vsv), .ref mk, .ref mb, .int (nZ vty), .int (nZ 2), .int (nZ ven), .int (nZ vsp), .int (nZ vla), .int (nZ vpc)]))] : va_W)) (fun sz => c_X7_push_e2 l D k sz mm ms mk mb vsv vty t ven vsp vla vpc x1 x2 (hz1) (hz2) (h1) (h2)) (by decide) (List.Perm.refl _) [0] rfl rfl (fun _ => rfl) ?_
  rintro r _ hr9
  try dsimp only at hr9
  simp only [zput, mW, List.set_cons_zero, List.set_cons_succ]
  exact ⟨hr9, hG, ms, mk, mb, vsv, vty, ven, vsp, vla, vpc, s, kp, bf, rfl, hr⟩
set_option maxHeartbeats 1000000 in
set_option maxRecDepth 100000 in
theorem bm_set_e1 (l : Launch) (D : va_G) (k : Nat → ClassId) (mm : Nat) (t : Int) (B : Bd) (S : List Bd) (K : Nat → Option Bd) (T : List Int) (xs : va_W) (hG : goodS (B, S, K, T)) (hx : isM k mm t (B, S, K, T) xs) (x1 : Int) (hz1 : zR x1) (h1 : x1 < 0 ∨ 20 < x1) : ∀ sz, Met l yX7_set (zW yX7_set cX7_set 3 (some .int)) zRN (va_Pc [.ref mm, .int (nZ x1)] (zIn D k sz xs)) (va_Qi (fun (r : Int32) (u : va_W) => r = nZ 0 ∧ isMg k mm 1 (B, S, K, T) u) (fun u => zOut D (va_A xs sz) u) (va_A xs sz)) 0 0 (va_A xs sz) := by
  obtain ⟨ms, mk, mb, vsv, vty, ven, vsp, vla, vpc, s, kp, bf, rfl, hr⟩ := hx
  obtain ⟨r1, r2, r3, r4, r5, r6, r7⟩ := id hr
  have r2 : vsv = (S.length : Int) := r2
  have r3 : S.length ≤ 6 := r3
  have r7 : textOk bf vty T := r7
  have r1 : blkOk s 0 B := r1
  have hgB : bdGood B := hG.1
  obtain ⟨w0, w1, w2, w3, w4, hC0, hC1, hC2⟩ := id hgB
  refine zBundlei0 (S := Unit) (ws := mW k mm ms mk mb vsv vty t ven vsp vla vpc s kp bf) (wc := [(mm, .inr (7, [.ref ms, .int (nZ vsv), .ref mk, .ref mb, .int (nZ vty), .int (nZ t), .int (nZ ven), .int (nZ vsp), .int (nZ vla), .int (nZ vpc)]))]) (w1 := fun (uz : Unit) => ([(mm, .inr (7, [.ref ms, .int (nZ vsv), .ref mk, .ref mb, .int (nZ vty), .int (nZ 1), .int (nZ ven), .int (nZ vsp), .int (nZ vla), .int (nZ vpc)]))] : va_W)) (fun sz => c_X7_set_e1 l D k sz mm ms mk mb vsv vty t ven vsp vla vpc x1 (hz1) (h1)) (by decide) (List.Perm.refl _) [0] rfl rfl (fun _ => rfl) ?_
  rintro r _ hr9
  try dsimp only at hr9
  simp only [zput, mW, List.set_cons_zero, List.set_cons_succ]
  exact ⟨hr9, hG, ms, mk, mb, vsv, vty, ven, vsp, vla, vpc, s, kp, bf, rfl, hr⟩
set_option maxHeartbeats 1000000 in
set_option maxRecDepth 100000 in
theorem bm_keep_e1 (l : Launch) (D : va_G) (k : Nat → ClassId) (mm : Nat) (t : Int) (B : Bd) (S : List Bd) (K : Nat → Option Bd) (T : List Int) (xs : va_W) (hG : goodS (B, S, K, T)) (hx : isM k mm t (B, S, K, T) xs) (x1 : Int) (hz1 : zR x1) (h1 : x1 < 0 ∨ 1 < x1) : ∀ sz, Met l yX7_keep (zW yX7_keep cX7_keep 2 (some .int)) zRN (va_Pc [.ref mm, .int (nZ x1)] (zIn D k sz xs)) (va_Qi (fun (r : Int32) (u : va_W) => r = nZ 0 ∧ isMg k mm 1 (B, S, K, T) u) (fun u => zOut D (va_A xs sz) u) (va_A xs sz)) 0 0 (va_A xs sz) := by
  obtain ⟨ms, mk, mb, vsv, vty, ven, vsp, vla, vpc, s, kp, bf, rfl, hr⟩ := hx
  obtain ⟨r1, r2, r3, r4, r5, r6, r7⟩ := id hr
  have r2 : vsv = (S.length : Int) := r2
  have r3 : S.length ≤ 6 := r3
  have r7 : textOk bf vty T := r7
  have r1 : blkOk s 0 B := r1
  have hgB : bdGood B := hG.1
  obtain ⟨w0, w1, w2, w3, w4, hC0, hC1, hC2⟩ := id hgB
  refine zBundlei0 (S := Unit) (ws := mW k mm ms mk mb vsv vty t ven vsp vla vpc s kp bf) (wc := [(mm, .inr (7, [.ref ms, .int (nZ vsv), .ref mk, .ref mb, .int (nZ vty), .int (nZ t), .int (nZ ven), .int (nZ vsp), .int (nZ vla), .int (nZ vpc)]))]) (w1 := fun (uz : Unit) => ([(mm, .inr (7, [.ref ms, .int (nZ vsv), .ref mk, .ref mb, .int (nZ vty), .int (nZ 1), .int (nZ ven), .int (nZ vsp), .int (nZ vla), .int (nZ vpc)]))] : va_W)) (fun sz => c_X7_keep_e1 l D k sz mm ms mk mb vsv vty t ven vsp vla vpc x1 (hz1) (h1)) (by decide) (List.Perm.refl _) [0] rfl rfl (fun _ => rfl) ?_
  rintro r _ hr9
  try dsimp only at hr9
  simp only [zput, mW, List.set_cons_zero, List.set_cons_succ]
  exact ⟨hr9, hG, ms, mk, mb, vsv, vty, ven, vsp, vla, vpc, s, kp, bf, rfl, hr⟩
set_option maxHeartbeats 1000000 in
set_option maxRecDepth 100000 in
theorem bm_goBack_e1 (l : Launch) (D : va_G) (k : Nat → ClassId) (mm : Nat) (t : Int) (B : Bd) (S : List Bd) (K : Nat → Option Bd) (T : List Int) (xs : va_W) (hG : goodS (B, S, K, T)) (hx : isM k mm t (B, S, K, T) xs) (x1 : Int) (hz1 : zR x1) (h1 : x1 < 0 ∨ 1 < x1) : ∀ sz, Met l yX7_goBack (zW yX7_goBack cX7_goBack 2 (some .int)) zRN (va_Pc [.ref mm, .int (nZ x1)] (zIn D k sz xs)) (va_Qi (fun (r : Int32) (u : va_W) => r = nZ 0 ∧ isMg k mm 1 (B, S, K, T) u) (fun u => zOut D (va_A xs sz) u) (va_A xs sz)) 0 0 (va_A xs sz) := by
  obtain ⟨ms, mk, mb, vsv, vty, ven, vsp, vla, vpc, s, kp, bf, rfl, hr⟩ := hx
  obtain ⟨r1, r2, r3, r4, r5, r6, r7⟩ := id hr
  have r2 : vsv = (S.length : Int) := r2
  have r3 : S.length ≤ 6 := r3
  have r7 : textOk bf vty T := r7
  have r1 : blkOk s 0 B := r1
  have hgB : bdGood B := hG.1
  obtain ⟨w0, w1, w2, w3, w4, hC0, hC1, hC2⟩ := id hgB
  refine zBundlei0 (S := Unit) (ws := mW k mm ms mk mb vsv vty t ven vsp vla vpc s kp bf) (wc := [(mm, .inr (7, [.ref ms, .int (nZ vsv), .ref mk, .ref mb, .int (nZ vty), .int (nZ t), .int (nZ ven), .int (nZ vsp), .int (nZ vla), .int (nZ vpc)]))]) (w1 := fun (uz : Unit) => ([(mm, .inr (7, [.ref ms, .int (nZ vsv), .ref mk, .ref mb, .int (nZ vty), .int (nZ 1), .int (nZ ven), .int (nZ vsp), .int (nZ vla), .int (nZ vpc)]))] : va_W)) (fun sz => c_X7_goBack_e1 l D k sz mm ms mk mb vsv vty t ven vsp vla vpc x1 (hz1) (h1)) (by decide) (List.Perm.refl _) [0] rfl rfl (fun _ => rfl) ?_
  rintro r _ hr9
  try dsimp only at hr9
  simp only [zput, mW, List.set_cons_zero, List.set_cons_succ]
  exact ⟨hr9, hG, ms, mk, mb, vsv, vty, ven, vsp, vla, vpc, s, kp, bf, rfl, hr⟩
set_option maxHeartbeats 1000000 in
set_option maxRecDepth 100000 in
theorem bm_goBack_e2 (l : Launch) (D : va_G) (k : Nat → ClassId) (mm : Nat) (t : Int) (B : Bd) (S : List Bd) (K : Nat → Option Bd) (T : List Int) (xs : va_W) (hG : goodS (B, S, K, T)) (hx : isM k mm t (B, S, K, T) xs) (x1 : Int) (h1 : 0 ≤ x1 ∧ x1 ≤ 1) (hk : K x1.toNat = none) : ∀ sz, Met l yX7_goBack (zW yX7_goBack cX7_goBack 2 (some .int)) zRN (va_Pc [.ref mm, .int (nZ x1)] (zIn D k sz xs)) (va_Qi (fun (r : Int32) (u : va_W) => r = nZ 0 ∧ isMg k mm 2 (B, S, K, T) u) (fun u => zOut D (va_A xs sz) u) (va_A xs sz)) 0 0 (va_A xs sz) := by
  obtain ⟨ms, mk, mb, vsv, vty, ven, vsp, vla, vpc, s, kp, bf, rfl, hr⟩ := hx
  obtain ⟨r1, r2, r3, r4, r5, r6, r7⟩ := id hr
  have r2 : vsv = (S.length : Int) := r2
  have r3 : S.length ≤ 6 := r3
  have r7 : textOk bf vty T := r7
  have r1 : blkOk s 0 B := r1
  have hgB : bdGood B := hG.1
  obtain ⟨w0, w1, w2, w3, w4, hC0, hC1, hC2⟩ := id hgB
  obtain ⟨j, rfl⟩ := Int.eq_ofNat_of_zero_le (h1.1)
  rw [Int.toNat_natCast] at hk
  refine zBundlei0 (S := Unit) (ws := mW k mm ms mk mb vsv vty t ven vsp vla vpc s kp bf) (wc := [(mm, .inr (7, [.ref ms, .int (nZ vsv), .ref mk, .ref mb, .int (nZ vty), .int (nZ t), .int (nZ ven), .int (nZ vsp), .int (nZ vla), .int (nZ vpc)])), (ms, .inl (k 0, 900, .inl (zA s))), (mk, .inl (k 1, 2, .inl (zA kp)))]) (w1 := fun (uz : Unit) => ([(mm, .inr (7, [.ref ms, .int (nZ vsv), .ref mk, .ref mb, .int (nZ vty), .int (nZ 2), .int (nZ ven), .int (nZ vsp), .int (nZ vla), .int (nZ vpc)])), (ms, .inl (k 0, 900, .inl (zA s))), (mk, .inl (k 1, 2, .inl (zA kp)))] : va_W)) (fun sz => c_X7_goBack_e2 l D k sz mm ms mk mb vsv vty t ven vsp vla vpc s kp j (by omega) (r5 j (by omega) hk)) (by decide) (List.Perm.refl _) [0, 1, 2] rfl rfl (fun _ => rfl) ?_
  rintro r _ hr9
  try dsimp only at hr9
  simp only [zput, mW, List.set_cons_zero, List.set_cons_succ]
  exact ⟨hr9, hG, ms, mk, mb, vsv, vty, ven, vsp, vla, vpc, s, kp, bf, rfl, hr⟩
set_option maxHeartbeats 1000000 in
set_option maxRecDepth 100000 in
theorem bm_undo_e1 (l : Launch) (D : va_G) (k : Nat → ClassId) (mm : Nat) (t : Int) (B : Bd) (S : List Bd) (K : Nat → Option Bd) (T : List Int) (xs : va_W) (hG : goodS (B, S, K, T)) (hx : isM k mm t (B, S, K, T) xs) (hS : S = []) : ∀ sz, Met l yX7_undo (zW yX7_undo cX7_undo 1 (some .int)) zRN (va_Pc [.ref mm] (zIn D k sz xs)) (va_Qi (fun (r : Int32) (u : va_W) => r = nZ 0 ∧ isMg k mm 1 (B, S, K, T) u) (fun u => zOut D (va_A xs sz) u) (va_A xs sz)) 0 0 (va_A xs sz) := by
  obtain ⟨ms, mk, mb, vsv, vty, ven, vsp, vla, vpc, s, kp, bf, rfl, hr⟩ := hx
  obtain ⟨r1, r2, r3, r4, r5, r6, r7⟩ := id hr
  have r2 : vsv = (S.length : Int) := r2
  have r3 : S.length ≤ 6 := r3
  have r7 : textOk bf vty T := r7
  have r1 : blkOk s 0 B := r1
  have hgB : bdGood B := hG.1
  obtain ⟨w0, w1, w2, w3, w4, hC0, hC1, hC2⟩ := id hgB
  refine zBundlei0 (S := Unit) (ws := mW k mm ms mk mb vsv vty t ven vsp vla vpc s kp bf) (wc := [(mm, .inr (7, [.ref ms, .int (nZ vsv), .ref mk, .ref mb, .int (nZ vty), .int (nZ t), .int (nZ ven), .int (nZ vsp), .int (nZ vla), .int (nZ vpc)]))]) (w1 := fun (uz : Unit) => ([(mm, .inr (7, [.ref ms, .int (nZ vsv), .ref mk, .ref mb, .int (nZ vty), .int (nZ 1), .int (nZ ven), .int (nZ vsp), .int (nZ vla), .int (nZ vpc)]))] : va_W)) (fun sz => c_X7_undo_e1 l D k sz mm ms mk mb vsv vty t ven vsp vla vpc (by rw [r2, hS]; rfl)) (by decide) (List.Perm.refl _) [0] rfl rfl (fun _ => rfl) ?_
  rintro r _ hr9
  try dsimp only at hr9
  simp only [zput, mW, List.set_cons_zero, List.set_cons_succ]
  exact ⟨hr9, hG, ms, mk, mb, vsv, vty, ven, vsp, vla, vpc, s, kp, bf, rfl, hr⟩
set_option maxHeartbeats 1000000 in
set_option maxRecDepth 100000 in
theorem bm_coin_e1 (l : Launch) (D : va_G) (k : Nat → ClassId) (mm : Nat) (t : Int) (B : Bd) (S : List Bd) (K : Nat → Option Bd) (T : List Int) (xs : va_W) (hG : goodS (B, S, K, T)) (hx : isM k mm t (B, S, K, T) xs) (x1 x2 : Int) (hz1 : zR x1) (hz2 : zR x2) (h1 : x1 < 0 ∨ 2 < x1) : ∀ sz, Met l yX7_coin (zW yX7_coin cX7_coin 3 (some .int)) zRN (va_Pc [.ref mm, .int (nZ x1), .int (nZ x2)] (zIn D k sz xs)) (va_Qi (fun (r : Int32) (u : va_W) => r = nZ 0 ∧ isMg k mm 1 (B, S, K, T) u) (fun u => zOut D (va_A xs sz) u) (va_A xs sz)) 0 0 (va_A xs sz) := by
  obtain ⟨ms, mk, mb, vsv, vty, ven, vsp, vla, vpc, s, kp, bf, rfl, hr⟩ := hx
  obtain ⟨r1, r2, r3, r4, r5, r6, r7⟩ := id hr
  have r2 : vsv = (S.length : Int) := r2
  have r3 : S.length ≤ 6 := r3
  have r7 : textOk bf vty T := r7
  have r1 : blkOk s 0 B := r1
  have hgB : bdGood B := hG.1
  obtain ⟨w0, w1, w2, w3, w4, hC0, hC1, hC2⟩ := id hgB
  refine zBundlei0 (S := Unit) (ws := mW k mm ms mk mb vsv vty t ven vsp vla vpc s kp bf) (wc := [(mm, .inr (7, [.ref ms, .int (nZ vsv), .ref mk, .ref mb, .int (nZ vty), .int (nZ t), .int (nZ ven), .int (nZ vsp), .int (nZ vla), .int (nZ vpc)]))]) (w1 := fun (uz : Unit) => ([(mm, .inr (7, [.ref ms, .int (nZ vsv), .ref mk, .ref mb, .int (nZ vty), .int (nZ 1), .int (nZ ven), .int (nZ vsp), .int (nZ vla), .int (nZ vpc)]))] : va_W)) (fun sz => c_X7_coin_e1 l D k sz mm ms mk mb vsv vty t ven vsp vla vpc x1 x2 (hz1) (hz2) (h1)) (by decide) (List.Perm.refl _) [0] rfl rfl (fun _ => rfl) ?_
  rintro r _ hr9
  try dsimp only at hr9
  simp only [zput, mW, List.set_cons_zero, List.set_cons_succ]
  exact ⟨hr9, hG, ms, mk, mb, vsv, vty, ven, vsp, vla, vpc, s, kp, bf, rfl, hr⟩
set_option maxHeartbeats 1000000 in
set_option maxRecDepth 100000 in
theorem bm_coin_e2 (l : Launch) (D : va_G) (k : Nat → ClassId) (mm : Nat) (t : Int) (B : Bd) (S : List Bd) (K : Nat → Option Bd) (T : List Int) (xs : va_W) (hG : goodS (B, S, K, T)) (hx : isM k mm t (B, S, K, T) xs) (x1 x2 : Int) (hz1 : zR x1) (hz2 : zR x2) (h1 : 0 ≤ x1 ∧ x1 ≤ 2) (h2 : x2 < 0) : ∀ sz, Met l yX7_coin (zW yX7_coin cX7_coin 3 (some .int)) zRN (va_Pc [.ref mm, .int (nZ x1), .int (nZ x2)] (zIn D k sz xs)) (va_Qi (fun (r : Int32) (u : va_W) => r = nZ 0 ∧ isMg k mm 2 (B, S, K, T) u) (fun u => zOut D (va_A xs sz) u) (va_A xs sz)) 0 0 (va_A xs sz) := by
  obtain ⟨ms, mk, mb, vsv, vty, ven, vsp, vla, vpc, s, kp, bf, rfl, hr⟩ := hx
  obtain ⟨r1, r2, r3, r4, r5, r6, r7⟩ := id hr
  have r2 : vsv = (S.length : Int) := r2
  have r3 : S.length ≤ 6 := r3
  have r7 : textOk bf vty T := r7
  have r1 : blkOk s 0 B := r1
  have hgB : bdGood B := hG.1
  obtain ⟨w0, w1, w2, w3, w4, hC0, hC1, hC2⟩ := id hgB
  refine zBundlei0 (S := Unit) (ws := mW k mm ms mk mb vsv vty t ven vsp vla vpc s kp bf) (wc := [(mm, .inr (7, [.ref ms, .int (nZ vsv), .ref mk, .ref mb, .int (nZ vty), .int (nZ t), .int (nZ ven), .int (nZ vsp), .int (nZ vla), .int (nZ vpc)]))]) (w1 := fun (uz : Unit) => ([(mm, .inr (7, [.ref ms, .int (nZ vsv), .ref mk, .ref mb, .int (nZ vty), .int (nZ 2), .int (nZ ven), .int (nZ vsp), .int (nZ vla), .int (nZ vpc)]))] : va_W)) (fun sz => c_X7_coin_e2 l D k sz mm ms mk mb vsv vty t ven vsp vla vpc x1 x2 (hz1) (hz2) (h1) (h2)) (by decide) (List.Perm.refl _) [0] rfl rfl (fun _ => rfl) ?_
  rintro r _ hr9
  try dsimp only at hr9
  simp only [zput, mW, List.set_cons_zero, List.set_cons_succ]
  exact ⟨hr9, hG, ms, mk, mb, vsv, vty, ven, vsp, vla, vpc, s, kp, bf, rfl, hr⟩
set_option maxHeartbeats 1000000 in
set_option maxRecDepth 100000 in
theorem bm_bedOf_e1 (l : Launch) (D : va_G) (k : Nat → ClassId) (mm : Nat) (t : Int) (B : Bd) (S : List Bd) (K : Nat → Option Bd) (T : List Int) (xs : va_W) (hG : goodS (B, S, K, T)) (hx : isM k mm t (B, S, K, T) xs) (x1 x2 : Int) (hz1 : zR x1) (hz2 : zR x2) (h1 : x1 < 0 ∨ 8 < x1) : ∀ sz, Met l yX7_bedOf (zW yX7_bedOf cX7_bedOf 3 (some .int)) zRN (va_Pc [.ref mm, .int (nZ x1), .int (nZ x2)] (zIn D k sz xs)) (va_Qi (fun (r : Int32) (u : va_W) => r = nZ 0 ∧ isMg k mm 1 (B, S, K, T) u) (fun u => zOut D (va_A xs sz) u) (va_A xs sz)) 0 0 (va_A xs sz) := by
  obtain ⟨ms, mk, mb, vsv, vty, ven, vsp, vla, vpc, s, kp, bf, rfl, hr⟩ := hx
  obtain ⟨r1, r2, r3, r4, r5, r6, r7⟩ := id hr
  have r2 : vsv = (S.length : Int) := r2
  have r3 : S.length ≤ 6 := r3
  have r7 : textOk bf vty T := r7
  have r1 : blkOk s 0 B := r1
  have hgB : bdGood B := hG.1
  obtain ⟨w0, w1, w2, w3, w4, hC0, hC1, hC2⟩ := id hgB
  refine zBundlei0 (S := Unit) (ws := mW k mm ms mk mb vsv vty t ven vsp vla vpc s kp bf) (wc := [(mm, .inr (7, [.ref ms, .int (nZ vsv), .ref mk, .ref mb, .int (nZ vty), .int (nZ t), .int (nZ ven), .int (nZ vsp), .int (nZ vla), .int (nZ vpc)]))]) (w1 := fun (uz : Unit) => ([(mm, .inr (7, [.ref ms, .int (nZ vsv), .ref mk, .ref mb, .int (nZ vty), .int (nZ 1), .int (nZ ven), .int (nZ vsp), .int (nZ vla), .int (nZ vpc)]))] : va_W)) (fun sz => c_X7_bedOf_e1 l D k sz mm ms mk mb vsv vty t ven vsp vla vpc x1 x2 (hz1) (hz2) (h1)) (by decide) (List.Perm.refl _) [0] rfl rfl (fun _ => rfl) ?_
  rintro r _ hr9
  try dsimp only at hr9
  simp only [zput, mW, List.set_cons_zero, List.set_cons_succ]
  exact ⟨hr9, hG, ms, mk, mb, vsv, vty, ven, vsp, vla, vpc, s, kp, bf, rfl, hr⟩
set_option maxHeartbeats 1000000 in
set_option maxRecDepth 100000 in
theorem bm_bedOf_e2 (l : Launch) (D : va_G) (k : Nat → ClassId) (mm : Nat) (t : Int) (B : Bd) (S : List Bd) (K : Nat → Option Bd) (T : List Int) (xs : va_W) (hG : goodS (B, S, K, T)) (hx : isM k mm t (B, S, K, T) xs) (x1 x2 : Int) (hz1 : zR x1) (hz2 : zR x2) (h1 : 0 ≤ x1 ∧ x1 ≤ 8) (h2 : x2 < 0 ∨ 4 < x2) : ∀ sz, Met l yX7_bedOf (zW yX7_bedOf cX7_bedOf 3 (some .int)) zRN (va_Pc [.ref mm, .int (nZ x1), .int (nZ x2)] (zIn D k sz xs)) (va_Qi (fun (r : Int32) (u : va_W) => r = nZ 0 ∧ isMg k mm 2 (B, S, K, T) u) (fun u => zOut D (va_A xs sz) u) (va_A xs sz)) 0 0 (va_A xs sz) := by
  obtain ⟨ms, mk, mb, vsv, vty, ven, vsp, vla, vpc, s, kp, bf, rfl, hr⟩ := hx
  obtain ⟨r1, r2, r3, r4, r5, r6, r7⟩ := id hr
  have r2 : vsv = (S.length : Int) := r2
  have r3 : S.length ≤ 6 := r3
  have r7 : textOk bf vty T := r7
  have r1 : blkOk s 0 B := r1
  have hgB : bdGood B := hG.1
  obtain ⟨w0, w1, w2, w3, w4, hC0, hC1, hC2⟩ := id hgB
  refine zBundlei0 (S := Unit) (ws := mW k mm ms mk mb vsv vty t ven vsp vla vpc s kp bf) (wc := [(mm, .inr (7, [.ref ms, .int (nZ vsv), .ref mk, .ref mb, .int (nZ vty), .int (nZ t), .int (nZ ven), .int (nZ vsp), .int (nZ vla), .int (nZ vpc)]))]) (w1 := fun (uz : Unit) => ([(mm, .inr (7, [.ref ms, .int (nZ vsv), .ref mk, .ref mb, .int (nZ vty), .int (nZ 2), .int (nZ ven), .int (nZ vsp), .int (nZ vla), .int (nZ vpc)]))] : va_W)) (fun sz => c_X7_bedOf_e2 l D k sz mm ms mk mb vsv vty t ven vsp vla vpc x1 x2 (hz1) (hz2) (h1) (h2)) (by decide) (List.Perm.refl _) [0] rfl rfl (fun _ => rfl) ?_
  rintro r _ hr9
  try dsimp only at hr9
  simp only [zput, mW, List.set_cons_zero, List.set_cons_succ]
  exact ⟨hr9, hG, ms, mk, mb, vsv, vty, ven, vsp, vla, vpc, s, kp, bf, rfl, hr⟩
set_option maxHeartbeats 1000000 in
set_option maxRecDepth 100000 in
theorem bm_count_e1 (l : Launch) (D : va_G) (k : Nat → ClassId) (mm : Nat) (t : Int) (B : Bd) (S : List Bd) (K : Nat → Option Bd) (T : List Int) (xs : va_W) (hG : goodS (B, S, K, T)) (hx : isM k mm t (B, S, K, T) xs) (x1 : Int) (hz1 : zR x1) (h1 : x1 < 0 ∨ 12 < x1) : ∀ sz, Met l yX7_count (zW yX7_count cX7_count 2 (some .int)) zRN (va_Pc [.ref mm, .int (nZ x1)] (zIn D k sz xs)) (va_Qi (fun (r : Int32) (u : va_W) => r = nZ 0 ∧ isMg k mm 1 (B, S, K, T) u) (fun u => zOut D (va_A xs sz) u) (va_A xs sz)) 0 0 (va_A xs sz) := by
  obtain ⟨ms, mk, mb, vsv, vty, ven, vsp, vla, vpc, s, kp, bf, rfl, hr⟩ := hx
  obtain ⟨r1, r2, r3, r4, r5, r6, r7⟩ := id hr
  have r2 : vsv = (S.length : Int) := r2
  have r3 : S.length ≤ 6 := r3
  have r7 : textOk bf vty T := r7
  have r1 : blkOk s 0 B := r1
  have hgB : bdGood B := hG.1
  obtain ⟨w0, w1, w2, w3, w4, hC0, hC1, hC2⟩ := id hgB
  refine zBundlei0 (S := Unit) (ws := mW k mm ms mk mb vsv vty t ven vsp vla vpc s kp bf) (wc := [(mm, .inr (7, [.ref ms, .int (nZ vsv), .ref mk, .ref mb, .int (nZ vty), .int (nZ t), .int (nZ ven), .int (nZ vsp), .int (nZ vla), .int (nZ vpc)]))]) (w1 := fun (uz : Unit) => ([(mm, .inr (7, [.ref ms, .int (nZ vsv), .ref mk, .ref mb, .int (nZ vty), .int (nZ 1), .int (nZ ven), .int (nZ vsp), .int (nZ vla), .int (nZ vpc)]))] : va_W)) (fun sz => c_X7_count_e1 l D k sz mm ms mk mb vsv vty t ven vsp vla vpc x1 (hz1) (h1)) (by decide) (List.Perm.refl _) [0] rfl rfl (fun _ => rfl) ?_
  rintro r _ hr9
  try dsimp only at hr9
  simp only [zput, mW, List.set_cons_zero, List.set_cons_succ]
  exact ⟨hr9, hG, ms, mk, mb, vsv, vty, ven, vsp, vla, vpc, s, kp, bf, rfl, hr⟩
set_option maxHeartbeats 1000000 in
set_option maxRecDepth 100000 in
theorem bm_ends_e1 (l : Launch) (D : va_G) (k : Nat → ClassId) (mm : Nat) (t : Int) (B : Bd) (S : List Bd) (K : Nat → Option Bd) (T : List Int) (xs : va_W) (hG : goodS (B, S, K, T)) (hx : isM k mm t (B, S, K, T) xs) (x1 x2 x3 : Int) (hz1 : zR x1) (hz2 : zR x2) (hz3 : zR x3) (h1 : x1 < 0 ∨ 2 < x1) : ∀ sz, Met l yX7_ends_ (zW yX7_ends_ cX7_ends_ 4 (some .int)) zRN (va_Pc [.ref mm, .int (nZ x1), .int (nZ x2), .int (nZ x3)] (zIn D k sz xs)) (va_Qi (fun (r : Int32) (u : va_W) => r = nZ 0 ∧ isMg k mm 1 (B, S, K, T) u) (fun u => zOut D (va_A xs sz) u) (va_A xs sz)) 0 0 (va_A xs sz) := by
  obtain ⟨ms, mk, mb, vsv, vty, ven, vsp, vla, vpc, s, kp, bf, rfl, hr⟩ := hx
  obtain ⟨r1, r2, r3, r4, r5, r6, r7⟩ := id hr
  have r2 : vsv = (S.length : Int) := r2
  have r3 : S.length ≤ 6 := r3
  have r7 : textOk bf vty T := r7
  have r1 : blkOk s 0 B := r1
  have hgB : bdGood B := hG.1
  obtain ⟨w0, w1, w2, w3, w4, hC0, hC1, hC2⟩ := id hgB
  refine zBundlei0 (S := Unit) (ws := mW k mm ms mk mb vsv vty t ven vsp vla vpc s kp bf) (wc := [(mm, .inr (7, [.ref ms, .int (nZ vsv), .ref mk, .ref mb, .int (nZ vty), .int (nZ t), .int (nZ ven), .int (nZ vsp), .int (nZ vla), .int (nZ vpc)]))]) (w1 := fun (uz : Unit) => ([(mm, .inr (7, [.ref ms, .int (nZ vsv), .ref mk, .ref mb, .int (nZ vty), .int (nZ 1), .int (nZ ven), .int (nZ vsp), .int (nZ vla), .int (nZ vpc)]))] : va_W)) (fun sz => c_X7_ends__e1 l D k sz mm ms mk mb vsv vty t ven vsp vla vpc x1 x2 x3 (hz1) (hz2) (hz3) (h1)) (by decide) (List.Perm.refl _) [0] rfl rfl (fun _ => rfl) ?_
  rintro r _ hr9
  try dsimp only at hr9
  simp only [zput, mW, List.set_cons_zero, List.set_cons_succ]
  exact ⟨hr9, hG, ms, mk, mb, vsv, vty, ven, vsp, vla, vpc, s, kp, bf, rfl, hr⟩
set_option maxHeartbeats 1000000 in
set_option maxRecDepth 100000 in
theorem bm_ends_e2s (l : Launch) (D : va_G) (k : Nat → ClassId) (mm : Nat) (t : Int) (B : Bd) (S : List Bd) (K : Nat → Option Bd) (T : List Int) (xs : va_W) (hG : goodS (B, S, K, T)) (hx : isM k mm t (B, S, K, T) xs) (x1 x2 x3 : Int) (hz1 : zR x1) (hz2 : zR x2) (hz3 : zR x3) (h1 : 0 ≤ x1 ∧ x1 ≤ 2) (h2 : x2 < 1 ∨ 150 < x2) : ∀ sz, Met l yX7_ends_ (zW yX7_ends_ cX7_ends_ 4 (some .int)) zRN (va_Pc [.ref mm, .int (nZ x1), .int (nZ x2), .int (nZ x3)] (zIn D k sz xs)) (va_Qi (fun (r : Int32) (u : va_W) => r = nZ 0 ∧ isMg k mm 2 (B, S, K, T) u) (fun u => zOut D (va_A xs sz) u) (va_A xs sz)) 0 0 (va_A xs sz) := by
  obtain ⟨ms, mk, mb, vsv, vty, ven, vsp, vla, vpc, s, kp, bf, rfl, hr⟩ := hx
  obtain ⟨r1, r2, r3, r4, r5, r6, r7⟩ := id hr
  have r2 : vsv = (S.length : Int) := r2
  have r3 : S.length ≤ 6 := r3
  have r7 : textOk bf vty T := r7
  have r1 : blkOk s 0 B := r1
  have hgB : bdGood B := hG.1
  obtain ⟨w0, w1, w2, w3, w4, hC0, hC1, hC2⟩ := id hgB
  refine zBundlei0 (S := Unit) (ws := mW k mm ms mk mb vsv vty t ven vsp vla vpc s kp bf) (wc := [(mm, .inr (7, [.ref ms, .int (nZ vsv), .ref mk, .ref mb, .int (nZ vty), .int (nZ t), .int (nZ ven), .int (nZ vsp), .int (nZ vla), .int (nZ vpc)]))]) (w1 := fun (uz : Unit) => ([(mm, .inr (7, [.ref ms, .int (nZ vsv), .ref mk, .ref mb, .int (nZ vty), .int (nZ 2), .int (nZ ven), .int (nZ vsp), .int (nZ vla), .int (nZ vpc)]))] : va_W)) (fun sz => c_X7_ends__e2s l D k sz mm ms mk mb vsv vty t ven vsp vla vpc x1 x2 x3 (hz1) (hz2) (hz3) (h1) (h2)) (by decide) (List.Perm.refl _) [0] rfl rfl (fun _ => rfl) ?_
  rintro r _ hr9
  try dsimp only at hr9
  simp only [zput, mW, List.set_cons_zero, List.set_cons_succ]
  exact ⟨hr9, hG, ms, mk, mb, vsv, vty, ven, vsp, vla, vpc, s, kp, bf, rfl, hr⟩
set_option maxHeartbeats 1000000 in
set_option maxRecDepth 100000 in
theorem bm_ends_e2w (l : Launch) (D : va_G) (k : Nat → ClassId) (mm : Nat) (t : Int) (B : Bd) (S : List Bd) (K : Nat → Option Bd) (T : List Int) (xs : va_W) (hG : goodS (B, S, K, T)) (hx : isM k mm t (B, S, K, T) xs) (x1 x2 x3 : Int) (hz1 : zR x1) (hz2 : zR x2) (hz3 : zR x3) (h1 : 0 ≤ x1 ∧ x1 ≤ 2) (h2 : 1 ≤ x2 ∧ x2 ≤ 150) (h3 : x3 < 0 ∨ 1 < x3) : ∀ sz, Met l yX7_ends_ (zW yX7_ends_ cX7_ends_ 4 (some .int)) zRN (va_Pc [.ref mm, .int (nZ x1), .int (nZ x2), .int (nZ x3)] (zIn D k sz xs)) (va_Qi (fun (r : Int32) (u : va_W) => r = nZ 0 ∧ isMg k mm 2 (B, S, K, T) u) (fun u => zOut D (va_A xs sz) u) (va_A xs sz)) 0 0 (va_A xs sz) := by
  obtain ⟨ms, mk, mb, vsv, vty, ven, vsp, vla, vpc, s, kp, bf, rfl, hr⟩ := hx
  obtain ⟨r1, r2, r3, r4, r5, r6, r7⟩ := id hr
  have r2 : vsv = (S.length : Int) := r2
  have r3 : S.length ≤ 6 := r3
  have r7 : textOk bf vty T := r7
  have r1 : blkOk s 0 B := r1
  have hgB : bdGood B := hG.1
  obtain ⟨w0, w1, w2, w3, w4, hC0, hC1, hC2⟩ := id hgB
  refine zBundlei0 (S := Unit) (ws := mW k mm ms mk mb vsv vty t ven vsp vla vpc s kp bf) (wc := [(mm, .inr (7, [.ref ms, .int (nZ vsv), .ref mk, .ref mb, .int (nZ vty), .int (nZ t), .int (nZ ven), .int (nZ vsp), .int (nZ vla), .int (nZ vpc)]))]) (w1 := fun (uz : Unit) => ([(mm, .inr (7, [.ref ms, .int (nZ vsv), .ref mk, .ref mb, .int (nZ vty), .int (nZ 2), .int (nZ ven), .int (nZ vsp), .int (nZ vla), .int (nZ vpc)]))] : va_W)) (fun sz => c_X7_ends__e2w l D k sz mm ms mk mb vsv vty t ven vsp vla vpc x1 x2 x3 (hz1) (hz2) (hz3) (h1) (h2) (h3)) (by decide) (List.Perm.refl _) [0] rfl rfl (fun _ => rfl) ?_
  rintro r _ hr9
  try dsimp only at hr9
  simp only [zput, mW, List.set_cons_zero, List.set_cons_succ]
  exact ⟨hr9, hG, ms, mk, mb, vsv, vty, ven, vsp, vla, vpc, s, kp, bf, rfl, hr⟩
set_option maxHeartbeats 1000000 in
set_option maxRecDepth 100000 in
theorem bm_ifPushed_e1 (l : Launch) (D : va_G) (k : Nat → ClassId) (mm : Nat) (t : Int) (B : Bd) (S : List Bd) (K : Nat → Option Bd) (T : List Int) (xs : va_W) (hG : goodS (B, S, K, T)) (hx : isM k mm t (B, S, K, T) xs) (x1 x2 : Int) (hz1 : zR x1) (hz2 : zR x2) (h1 : x1 < 0 ∨ 2 < x1) : ∀ sz, Met l yX7_ifPushed (zW yX7_ifPushed cX7_ifPushed 3 (some .int)) zRN (va_Pc [.ref mm, .int (nZ x1), .int (nZ x2)] (zIn D k sz xs)) (va_Qi (fun (r : Int32) (u : va_W) => r = nZ 0 ∧ isMg k mm 1 (B, S, K, T) u) (fun u => zOut D (va_A xs sz) u) (va_A xs sz)) 0 0 (va_A xs sz) := by
  obtain ⟨ms, mk, mb, vsv, vty, ven, vsp, vla, vpc, s, kp, bf, rfl, hr⟩ := hx
  obtain ⟨r1, r2, r3, r4, r5, r6, r7⟩ := id hr
  have r2 : vsv = (S.length : Int) := r2
  have r3 : S.length ≤ 6 := r3
  have r7 : textOk bf vty T := r7
  have r1 : blkOk s 0 B := r1
  have hgB : bdGood B := hG.1
  obtain ⟨w0, w1, w2, w3, w4, hC0, hC1, hC2⟩ := id hgB
  refine zBundlei0 (S := Unit) (ws := mW k mm ms mk mb vsv vty t ven vsp vla vpc s kp bf) (wc := [(mm, .inr (7, [.ref ms, .int (nZ vsv), .ref mk, .ref mb, .int (nZ vty), .int (nZ t), .int (nZ ven), .int (nZ vsp), .int (nZ vla), .int (nZ vpc)]))]) (w1 := fun (uz : Unit) => ([(mm, .inr (7, [.ref ms, .int (nZ vsv), .ref mk, .ref mb, .int (nZ vty), .int (nZ 1), .int (nZ ven), .int (nZ vsp), .int (nZ vla), .int (nZ vpc)]))] : va_W)) (fun sz => c_X7_ifPushed_e1 l D k sz mm ms mk mb vsv vty t ven vsp vla vpc x1 x2 (hz1) (hz2) (h1)) (by decide) (List.Perm.refl _) [0] rfl rfl (fun _ => rfl) ?_
  rintro r _ hr9
  try dsimp only at hr9
  simp only [zput, mW, List.set_cons_zero, List.set_cons_succ]
  exact ⟨hr9, hG, ms, mk, mb, vsv, vty, ven, vsp, vla, vpc, s, kp, bf, rfl, hr⟩
set_option maxHeartbeats 1000000 in
set_option maxRecDepth 100000 in
theorem bm_ifPushed_e2 (l : Launch) (D : va_G) (k : Nat → ClassId) (mm : Nat) (t : Int) (B : Bd) (S : List Bd) (K : Nat → Option Bd) (T : List Int) (xs : va_W) (hG : goodS (B, S, K, T)) (hx : isM k mm t (B, S, K, T) xs) (x1 x2 : Int) (hz1 : zR x1) (hz2 : zR x2) (h1 : 0 ≤ x1 ∧ x1 ≤ 2) (h2 : x2 < 1 ∨ 150 < x2) : ∀ sz, Met l yX7_ifPushed (zW yX7_ifPushed cX7_ifPushed 3 (some .int)) zRN (va_Pc [.ref mm, .int (nZ x1), .int (nZ x2)] (zIn D k sz xs)) (va_Qi (fun (r : Int32) (u : va_W) => r = nZ 0 ∧ isMg k mm 2 (B, S, K, T) u) (fun u => zOut D (va_A xs sz) u) (va_A xs sz)) 0 0 (va_A xs sz) := by
  obtain ⟨ms, mk, mb, vsv, vty, ven, vsp, vla, vpc, s, kp, bf, rfl, hr⟩ := hx
  obtain ⟨r1, r2, r3, r4, r5, r6, r7⟩ := id hr
  have r2 : vsv = (S.length : Int) := r2
  have r3 : S.length ≤ 6 := r3
  have r7 : textOk bf vty T := r7
  have r1 : blkOk s 0 B := r1
  have hgB : bdGood B := hG.1
  obtain ⟨w0, w1, w2, w3, w4, hC0, hC1, hC2⟩ := id hgB
  refine zBundlei0 (S := Unit) (ws := mW k mm ms mk mb vsv vty t ven vsp vla vpc s kp bf) (wc := [(mm, .inr (7, [.ref ms, .int (nZ vsv), .ref mk, .ref mb, .int (nZ vty), .int (nZ t), .int (nZ ven), .int (nZ vsp), .int (nZ vla), .int (nZ vpc)]))]) (w1 := fun (uz : Unit) => ([(mm, .inr (7, [.ref ms, .int (nZ vsv), .ref mk, .ref mb, .int (nZ vty), .int (nZ 2), .int (nZ ven), .int (nZ vsp), .int (nZ vla), .int (nZ vpc)]))] : va_W)) (fun sz => c_X7_ifPushed_e2 l D k sz mm ms mk mb vsv vty t ven vsp vla vpc x1 x2 (hz1) (hz2) (h1) (h2)) (by decide) (List.Perm.refl _) [0] rfl rfl (fun _ => rfl) ?_
  rintro r _ hr9
  try dsimp only at hr9
  simp only [zput, mW, List.set_cons_zero, List.set_cons_succ]
  exact ⟨hr9, hG, ms, mk, mb, vsv, vty, ven, vsp, vla, vpc, s, kp, bf, rfl, hr⟩
set_option maxHeartbeats 1000000 in
set_option maxRecDepth 100000 in
theorem bm_strengthFor_e1a (l : Launch) (D : va_G) (k : Nat → ClassId) (mm : Nat) (t : Int) (B : Bd) (S : List Bd) (K : Nat → Option Bd) (T : List Int) (xs : va_W) (hG : goodS (B, S, K, T)) (hx : isM k mm t (B, S, K, T) xs) (x1 x2 : Int) (hz1 : zR x1) (hz2 : zR x2) (h1 : x1 < 0 ∨ 2 < x1) : ∀ sz, Met l yX7_strengthFor (zW yX7_strengthFor cX7_strengthFor 3 (some .int)) zRN (va_Pc [.ref mm, .int (nZ x1), .int (nZ x2)] (zIn D k sz xs)) (va_Qi (fun (r : Int32) (u : va_W) => r = nZ 0 ∧ isMg k mm 1 (B, S, K, T) u) (fun u => zOut D (va_A xs sz) u) (va_A xs sz)) 0 0 (va_A xs sz) := by
  obtain ⟨ms, mk, mb, vsv, vty, ven, vsp, vla, vpc, s, kp, bf, rfl, hr⟩ := hx
  obtain ⟨r1, r2, r3, r4, r5, r6, r7⟩ := id hr
  have r2 : vsv = (S.length : Int) := r2
  have r3 : S.length ≤ 6 := r3
  have r7 : textOk bf vty T := r7
  have r1 : blkOk s 0 B := r1
  have hgB : bdGood B := hG.1
  obtain ⟨w0, w1, w2, w3, w4, hC0, hC1, hC2⟩ := id hgB
  refine zBundlei0 (S := Unit) (ws := mW k mm ms mk mb vsv vty t ven vsp vla vpc s kp bf) (wc := [(mm, .inr (7, [.ref ms, .int (nZ vsv), .ref mk, .ref mb, .int (nZ vty), .int (nZ t), .int (nZ ven), .int (nZ vsp), .int (nZ vla), .int (nZ vpc)]))]) (w1 := fun (uz : Unit) => ([(mm, .inr (7, [.ref ms, .int (nZ vsv), .ref mk, .ref mb, .int (nZ vty), .int (nZ 1), .int (nZ ven), .int (nZ vsp), .int (nZ vla), .int (nZ vpc)]))] : va_W)) (fun sz => c_X7_strengthFor_e1a l D k sz mm ms mk mb vsv vty t ven vsp vla vpc x1 x2 (hz1) (hz2) (h1)) (by decide) (List.Perm.refl _) [0] rfl rfl (fun _ => rfl) ?_
  rintro r _ hr9
  try dsimp only at hr9
  simp only [zput, mW, List.set_cons_zero, List.set_cons_succ]
  exact ⟨hr9, hG, ms, mk, mb, vsv, vty, ven, vsp, vla, vpc, s, kp, bf, rfl, hr⟩
set_option maxHeartbeats 1000000 in
set_option maxRecDepth 100000 in
theorem bm_strengthFor_e1b (l : Launch) (D : va_G) (k : Nat → ClassId) (mm : Nat) (t : Int) (B : Bd) (S : List Bd) (K : Nat → Option Bd) (T : List Int) (xs : va_W) (hG : goodS (B, S, K, T)) (hx : isM k mm t (B, S, K, T) xs) (x1 x2 : Int) (hz1 : zR x1) (hz2 : zR x2) (h1 : 0 ≤ x1 ∧ x1 ≤ 2) (h2 : x2 < 0 ∨ 8 < x2) : ∀ sz, Met l yX7_strengthFor (zW yX7_strengthFor cX7_strengthFor 3 (some .int)) zRN (va_Pc [.ref mm, .int (nZ x1), .int (nZ x2)] (zIn D k sz xs)) (va_Qi (fun (r : Int32) (u : va_W) => r = nZ 0 ∧ isMg k mm 1 (B, S, K, T) u) (fun u => zOut D (va_A xs sz) u) (va_A xs sz)) 0 0 (va_A xs sz) := by
  obtain ⟨ms, mk, mb, vsv, vty, ven, vsp, vla, vpc, s, kp, bf, rfl, hr⟩ := hx
  obtain ⟨r1, r2, r3, r4, r5, r6, r7⟩ := id hr
  have r2 : vsv = (S.length : Int) := r2
  have r3 : S.length ≤ 6 := r3
  have r7 : textOk bf vty T := r7
  have r1 : blkOk s 0 B := r1
  have hgB : bdGood B := hG.1
  obtain ⟨w0, w1, w2, w3, w4, hC0, hC1, hC2⟩ := id hgB
  refine zBundlei0 (S := Unit) (ws := mW k mm ms mk mb vsv vty t ven vsp vla vpc s kp bf) (wc := [(mm, .inr (7, [.ref ms, .int (nZ vsv), .ref mk, .ref mb, .int (nZ vty), .int (nZ t), .int (nZ ven), .int (nZ vsp), .int (nZ vla), .int (nZ vpc)]))]) (w1 := fun (uz : Unit) => ([(mm, .inr (7, [.ref ms, .int (nZ vsv), .ref mk, .ref mb, .int (nZ vty), .int (nZ 1), .int (nZ ven), .int (nZ vsp), .int (nZ vla), .int (nZ vpc)]))] : va_W)) (fun sz => c_X7_strengthFor_e1b l D k sz mm ms mk mb vsv vty t ven vsp vla vpc x1 x2 (hz1) (hz2) (h1) (h2)) (by decide) (List.Perm.refl _) [0] rfl rfl (fun _ => rfl) ?_
  rintro r _ hr9
  try dsimp only at hr9
  simp only [zput, mW, List.set_cons_zero, List.set_cons_succ]
  exact ⟨hr9, hG, ms, mk, mb, vsv, vty, ven, vsp, vla, vpc, s, kp, bf, rfl, hr⟩
set_option maxHeartbeats 1000000 in
set_option maxRecDepth 100000 in
theorem bm_append_e1 (l : Launch) (D : va_G) (k : Nat → ClassId) (mm : Nat) (t : Int) (B : Bd) (S : List Bd) (K : Nat → Option Bd) (T : List Int) (xs : va_W) (hG : goodS (B, S, K, T)) (hx : isM k mm t (B, S, K, T) xs) (x1 : Int) (hz1 : zR x1) (h1 : x1 < 33 ∨ 126 < x1) : ∀ sz, Met l yX7_append (zW yX7_append cX7_append 2 (some .int)) zRN (va_Pc [.ref mm, .int (nZ x1)] (zIn D k sz xs)) (va_Qi (fun (r : Int32) (u : va_W) => r = nZ 0 ∧ isMg k mm 1 (B, S, K, T) u) (fun u => zOut D (va_A xs sz) u) (va_A xs sz)) 0 0 (va_A xs sz) := by
  obtain ⟨ms, mk, mb, vsv, vty, ven, vsp, vla, vpc, s, kp, bf, rfl, hr⟩ := hx
  obtain ⟨r1, r2, r3, r4, r5, r6, r7⟩ := id hr
  have r2 : vsv = (S.length : Int) := r2
  have r3 : S.length ≤ 6 := r3
  have r7 : textOk bf vty T := r7
  have r1 : blkOk s 0 B := r1
  have hgB : bdGood B := hG.1
  obtain ⟨w0, w1, w2, w3, w4, hC0, hC1, hC2⟩ := id hgB
  refine zBundlei0 (S := Unit) (ws := mW k mm ms mk mb vsv vty t ven vsp vla vpc s kp bf) (wc := [(mm, .inr (7, [.ref ms, .int (nZ vsv), .ref mk, .ref mb, .int (nZ vty), .int (nZ t), .int (nZ ven), .int (nZ vsp), .int (nZ vla), .int (nZ vpc)]))]) (w1 := fun (uz : Unit) => ([(mm, .inr (7, [.ref ms, .int (nZ vsv), .ref mk, .ref mb, .int (nZ vty), .int (nZ 1), .int (nZ ven), .int (nZ vsp), .int (nZ vla), .int (nZ vpc)]))] : va_W)) (fun sz => c_X7_append_e1 l D k sz mm ms mk mb vsv vty t ven vsp vla vpc x1 (hz1) (h1) (by have := r7.len; omega)) (by decide) (List.Perm.refl _) [0] rfl rfl (fun _ => rfl) ?_
  rintro r _ hr9
  try dsimp only at hr9
  simp only [zput, mW, List.set_cons_zero, List.set_cons_succ]
  exact ⟨hr9, hG, ms, mk, mb, vsv, vty, ven, vsp, vla, vpc, s, kp, bf, rfl, hr⟩
set_option maxHeartbeats 1000000 in
set_option maxRecDepth 100000 in
theorem bm_append_e2 (l : Launch) (D : va_G) (k : Nat → ClassId) (mm : Nat) (t : Int) (B : Bd) (S : List Bd) (K : Nat → Option Bd) (T : List Int) (xs : va_W) (hG : goodS (B, S, K, T)) (hx : isM k mm t (B, S, K, T) xs) (x1 : Int) (hz1 : zR x1) (h1 : 33 ≤ x1 ∧ x1 ≤ 126) (h60 : T.length = 60) : ∀ sz, Met l yX7_append (zW yX7_append cX7_append 2 (some .int)) zRN (va_Pc [.ref mm, .int (nZ x1)] (zIn D k sz xs)) (va_Qi (fun (r : Int32) (u : va_W) => r = nZ 0 ∧ isMg k mm 2 (B, S, K, T) u) (fun u => zOut D (va_A xs sz) u) (va_A xs sz)) 0 0 (va_A xs sz) := by
  obtain ⟨ms, mk, mb, vsv, vty, ven, vsp, vla, vpc, s, kp, bf, rfl, hr⟩ := hx
  obtain ⟨r1, r2, r3, r4, r5, r6, r7⟩ := id hr
  have r2 : vsv = (S.length : Int) := r2
  have r3 : S.length ≤ 6 := r3
  have r7 : textOk bf vty T := r7
  have r1 : blkOk s 0 B := r1
  have hgB : bdGood B := hG.1
  obtain ⟨w0, w1, w2, w3, w4, hC0, hC1, hC2⟩ := id hgB
  refine zBundlei0 (S := Unit) (ws := mW k mm ms mk mb vsv vty t ven vsp vla vpc s kp bf) (wc := [(mm, .inr (7, [.ref ms, .int (nZ vsv), .ref mk, .ref mb, .int (nZ vty), .int (nZ t), .int (nZ ven), .int (nZ vsp), .int (nZ vla), .int (nZ vpc)]))]) (w1 := fun (uz : Unit) => ([(mm, .inr (7, [.ref ms, .int (nZ vsv), .ref mk, .ref mb, .int (nZ vty), .int (nZ 2), .int (nZ ven), .int (nZ vsp), .int (nZ vla), .int (nZ vpc)]))] : va_W)) (fun sz => c_X7_append_e2 l D k sz mm ms mk mb vsv vty t ven vsp vla vpc x1 (hz1) (h1) (by have := r7.len; omega)) (by decide) (List.Perm.refl _) [0] rfl rfl (fun _ => rfl) ?_
  rintro r _ hr9
  try dsimp only at hr9
  simp only [zput, mW, List.set_cons_zero, List.set_cons_succ]
  exact ⟨hr9, hG, ms, mk, mb, vsv, vty, ven, vsp, vla, vpc, s, kp, bf, rfl, hr⟩
set_option maxHeartbeats 1000000 in
set_option maxRecDepth 100000 in
theorem bm_lay_e1 (l : Launch) (D : va_G) (k : Nat → ClassId) (mm : Nat) (t : Int) (B : Bd) (S : List Bd) (K : Nat → Option Bd) (T : List Int) (xs : va_W) (hG : goodS (B, S, K, T)) (hx : isM k mm t (B, S, K, T) xs) (hw : ¬ wholeS T) : ∀ sz, Met l yX7_lay (zW yX7_lay cX7_lay 2 (some .int)) zRN (va_Pc [.ref mm] (zIn D k sz xs)) (va_Qi (fun (r : Int32) (u : va_W) => r = nZ 0 ∧ isMg k mm 1 (B, S, K, T) u) (fun u => zOut D (va_A xs sz) u) (va_A xs sz)) 0 0 (va_A xs sz) := by
  obtain ⟨ms, mk, mb, vsv, vty, ven, vsp, vla, vpc, s, kp, bf, rfl, hr⟩ := hx
  obtain ⟨r1, r2, r3, r4, r5, r6, r7⟩ := id hr
  have r2 : vsv = (S.length : Int) := r2
  have r3 : S.length ≤ 6 := r3
  have r7 : textOk bf vty T := r7
  have r1 : blkOk s 0 B := r1
  have hgB : bdGood B := hG.1
  obtain ⟨w0, w1, w2, w3, w4, hC0, hC1, hC2⟩ := id hgB
  refine zBundlei0 (S := Nat × Int × Int) (ws := mW k mm ms mk mb vsv vty t ven vsp vla vpc s kp bf) (wc := [(mm, .inr (7, [.ref ms, .int (nZ vsv), .ref mk, .ref mb, .int (nZ vty), .int (nZ t), .int (nZ ven), .int (nZ vsp), .int (nZ vla), .int (nZ vpc)])), (mb, .inl (k 2, 60, .inl (zA bf)))]) (w1 := fun (uz : Nat × Int × Int) => ([(mm, .inr (7, [.ref ms, .int (nZ vsv), .ref mk, .ref mb, .int (nZ vty), .int (nZ 1), .int (nZ ven), .int (nZ (↑(uz.1))), .int (nZ (uz.2.1)), .int (nZ (uz.2.2))])), (mb, .inl (k 2, 60, .inl (zA bf)))] : va_W)) (fun sz => c_X7_lay_e1 l D k sz mm ms mk mb vsv vty t ven vsp vla vpc bf T (r7) (hw)) (by decide) (List.Perm.refl _) [0, 3] rfl rfl (fun _ => rfl) ?_
  rintro r ⟨sp2, la2, pl2⟩ hr9
  try dsimp only at hr9
  simp only [zput, mW, List.set_cons_zero, List.set_cons_succ]
  exact ⟨hr9, hG, ms, mk, mb, vsv, vty, ven, _, _, _, s, kp, bf, rfl, hr⟩
