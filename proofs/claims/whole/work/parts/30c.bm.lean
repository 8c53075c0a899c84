set_option maxHeartbeats 1000000 in
set_option maxRecDepth 100000 in
theorem bm_append (l : Launch) (D : va_G) (k : Nat → ClassId) (mm : Nat) (t : Int) (B : Bd) (S : List Bd) (K : Nat → Option Bd) (T : List Int) (xs : va_W) (hG : goodS (B, S, K, T)) (hx : isM k mm t (B, S, K, T) xs) (x1 : Int) (h1 : 33 ≤ x1 ∧ x1 ≤ 126) (h60 : T.length < 60) : ∀ sz, Met l yX7_append (zW yX7_append cX7_append 2 (some .int)) zRN (va_Pc [.ref mm, .int (nZ x1)] (zIn D k sz xs)) (va_Qi (fun (r : Int32) (u : va_W) => r = nZ ((T.length : Int) + 1) ∧ isMg k mm 0 (B, S, K, T ++ [x1]) u) (fun u => zOut D (va_A xs sz) u) (va_A xs sz)) 0 0 (va_A xs sz) := by
  obtain ⟨ms, mk, mb, vsv, vty, ven, vsp, vla, vpc, s, kp, bf, rfl, hr⟩ := hx
  obtain ⟨r1, r2, r3, r4, r5, r6, r7⟩ := id hr
  have r2 : vsv = (S.length : Int) := r2
  have r3 : S.length ≤ 6 := r3
  have r7 : textOk bf vty T := r7
  have r1 : blkOk s 0 B := r1
  have hgB : bdGood B := hG.1
  obtain ⟨w0, w1, w2, w3, w4, hC0, hC1, hC2⟩ := id hgB
  refine zBundlei0 (S := Unit) (ws := mW k mm ms mk mb vsv vty t ven vsp vla vpc s kp bf) (wc := [(mm, .inr (7, [.ref ms, .int (nZ vsv), .ref mk, .ref mb, .int (nZ vty), .int (nZ t), .int (nZ ven), .int (nZ vsp), .int (nZ vla), .int (nZ vpc)])), (mb, .inl (k 2, 60, .inl (zA bf)))]) (w1 := fun (uz : Unit) => ([(mm, .inr (7, [.ref ms, .int (nZ vsv), .ref mk, .ref mb, .int (nZ (vty + 1)), .int (nZ 0), .int (nZ ven), .int (nZ vsp), .int (nZ vla), .int (nZ vpc)])), (mb, .inl (k 2, 60, .inl (zA (zU bf T.length x1))))] : va_W)) (fun sz => c_X7_append l D k sz mm ms mk mb vsv vty t ven vsp vla vpc bf T x1 (r7) (h60) (h1)) (by decide) (List.Perm.refl _) [0, 3] rfl rfl (fun _ => rfl) ?_
  rintro r _ ⟨hr9, hT2⟩
  try dsimp only at hr9 hT2
  simp only [zput, mW, List.set_cons_zero, List.set_cons_succ]
  exact ⟨hr9, hG, ms, mk, mb, vsv, vty + 1, ven, vsp, vla, vpc, s, kp, zU bf T.length x1, rfl, hr.scr (frOk.refl _ _) hT2⟩
set_option maxHeartbeats 1000000 in
set_option maxRecDepth 100000 in
theorem bm_clearBuffer (l : Launch) (D : va_G) (k : Nat → ClassId) (mm : Nat) (t : Int) (B : Bd) (S : List Bd) (K : Nat → Option Bd) (T : List Int) (xs : va_W) (hG : goodS (B, S, K, T)) (hx : isM k mm t (B, S, K, T) xs)  : ∀ sz, Met l yX7_clearBuffer (zW yX7_clearBuffer cX7_clearBuffer 2 (some .int)) zRN (va_Pc [.ref mm] (zIn D k sz xs)) (va_Qi (fun (r : Int32) (u : va_W) => r = nZ (T.length : Int) ∧ isMg k mm 0 (B, S, K, []) u) (fun u => zOut D (va_A xs sz) u) (va_A xs sz)) 0 0 (va_A xs sz) := by
  obtain ⟨ms, mk, mb, vsv, vty, ven, vsp, vla, vpc, s, kp, bf, rfl, hr⟩ := hx
  obtain ⟨r1, r2, r3, r4, r5, r6, r7⟩ := id hr
  have r2 : vsv = (S.length : Int) := r2
  have r3 : S.length ≤ 6 := r3
  have r7 : textOk bf vty T := r7
  have r1 : blkOk s 0 B := r1
  have hgB : bdGood B := hG.1
  obtain ⟨w0, w1, w2, w3, w4, hC0, hC1, hC2⟩ := id hgB
  refine zBundlei0 (S := Unit) (ws := mW k mm ms mk mb vsv vty t ven vsp vla vpc s kp bf) (wc := [(mm, .inr (7, [.ref ms, .int (nZ vsv), .ref mk, .ref mb, .int (nZ vty), .int (nZ t), .int (nZ ven), .int (nZ vsp), .int (nZ vla), .int (nZ vpc)])), (mb, .inl (k 2, 60, .inl (zA bf)))]) (w1 := fun (uz : Unit) => ([(mm, .inr (7, [.ref ms, .int (nZ vsv), .ref mk, .ref mb, .int (nZ 0), .int (nZ 0), .int (nZ ven), .int (nZ vsp), .int (nZ vla), .int (nZ vpc)])), (mb, .inl (k 2, 60, .inl (zA bf)))] : va_W)) (fun sz => c_X7_clearBuffer l D k sz mm ms mk mb vsv vty t ven vsp vla vpc bf T (r7)) (by decide) (List.Perm.refl _) [0, 3] rfl rfl (fun _ => rfl) ?_
  rintro r _ hr9
  try dsimp only at hr9
  simp only [zput, mW, List.set_cons_zero, List.set_cons_succ]
  exact ⟨hr9, hG, ms, mk, mb, vsv, 0, ven, vsp, vla, vpc, s, kp, bf, rfl, hr.scr (frOk.refl _ _) (textOk.nil _)⟩
set_option maxHeartbeats 1000000 in
set_option maxRecDepth 100000 in
theorem bm_firstError (l : Launch) (D : va_G) (k : Nat → ClassId) (mm : Nat) (t : Int) (B : Bd) (S : List Bd) (K : Nat → Option Bd) (T : List Int) (xs : va_W) (hG : goodS (B, S, K, T)) (hx : isM k mm t (B, S, K, T) xs)  : ∀ sz, Met l yX7_firstError (zW yX7_firstError cX7_firstError 2 (some .int)) zRN (va_Pc [.ref mm] (zIn D k sz xs)) (va_Qi (fun (r : Int32) (u : va_W) => r = nZ (errS 0 T : Int) ∧ isMg k mm 0 (B, S, K, T) u) (fun u => zOut D (va_A xs sz) u) (va_A xs sz)) 0 0 (va_A xs sz) := by
  obtain ⟨ms, mk, mb, vsv, vty, ven, vsp, vla, vpc, s, kp, bf, rfl, hr⟩ := hx
  obtain ⟨r1, r2, r3, r4, r5, r6, r7⟩ := id hr
  have r2 : vsv = (S.length : Int) := r2
  have r3 : S.length ≤ 6 := r3
  have r7 : textOk bf vty T := r7
  have r1 : blkOk s 0 B := r1
  have hgB : bdGood B := hG.1
  obtain ⟨w0, w1, w2, w3, w4, hC0, hC1, hC2⟩ := id hgB
  refine zBundlei0 (S := Nat × Int × Int) (ws := mW k mm ms mk mb vsv vty t ven vsp vla vpc s kp bf) (wc := [(mm, .inr (7, [.ref ms, .int (nZ vsv), .ref mk, .ref mb, .int (nZ vty), .int (nZ t), .int (nZ ven), .int (nZ vsp), .int (nZ vla), .int (nZ vpc)])), (mb, .inl (k 2, 60, .inl (zA bf)))]) (w1 := fun (uz : Nat × Int × Int) => ([(mm, .inr (7, [.ref ms, .int (nZ vsv), .ref mk, .ref mb, .int (nZ vty), .int (nZ 0), .int (nZ ven), .int (nZ (↑(uz.1))), .int (nZ (uz.2.1)), .int (nZ (uz.2.2))])), (mb, .inl (k 2, 60, .inl (zA bf)))] : va_W)) (fun sz => c_X7_firstError l D k sz mm ms mk mb vsv vty t ven vsp vla vpc bf T (r7)) (by decide) (List.Perm.refl _) [0, 3] rfl rfl (fun _ => rfl) ?_
  rintro r ⟨sp2, la2, pl2⟩ hr9
  try dsimp only at hr9
  simp only [zput, mW, List.set_cons_zero, List.set_cons_succ]
  exact ⟨hr9, hG, ms, mk, mb, vsv, vty, ven, _, _, _, s, kp, bf, rfl, hr⟩
set_option maxHeartbeats 1000000 in
set_option maxRecDepth 100000 in
theorem bm_coin (l : Launch) (D : va_G) (k : Nat → ClassId) (mm : Nat) (t : Int) (B : Bd) (S : List Bd) (K : Nat → Option Bd) (T : List Int) (xs : va_W) (hG : goodS (B, S, K, T)) (hx : isM k mm t (B, S, K, T) xs) (x1 x2 : Int) (h1 : 0 ≤ x1 ∧ x1 ≤ 2) (h2 : 0 ≤ x2 ∧ x2 < 2147483648) : ∀ sz, Met l yX7_coin (zW yX7_coin cX7_coin 3 (some .int)) zRN (va_Pc [.ref mm, .int (nZ x1), .int (nZ x2)] (zIn D k sz xs)) (va_Qi (fun (r : Int32) (u : va_W) => r = nZ (placeAtS (B.2 x1.toNat) x2) ∧ isMg k mm 0 (B, S, K, T) u) (fun u => zOut D (va_A xs sz) u) (va_A xs sz)) 0 0 (va_A xs sz) := by
  obtain ⟨ms, mk, mb, vsv, vty, ven, vsp, vla, vpc, s, kp, bf, rfl, hr⟩ := hx
  obtain ⟨r1, r2, r3, r4, r5, r6, r7⟩ := id hr
  have r2 : vsv = (S.length : Int) := r2
  have r3 : S.length ≤ 6 := r3
  have r7 : textOk bf vty T := r7
  have r1 : blkOk s 0 B := r1
  have hgB : bdGood B := hG.1
  obtain ⟨w0, w1, w2, w3, w4, hC0, hC1, hC2⟩ := id hgB
  obtain ⟨j, rfl⟩ := Int.eq_ofNat_of_zero_le (h1.1)
  rw [Int.toNat_natCast]
  obtain ⟨r, rfl⟩ := Int.eq_ofNat_of_zero_le h2.1
  refine zBundlei0 (S := Unit) (ws := mW k mm ms mk mb vsv vty t ven vsp vla vpc s kp bf) (wc := [(mm, .inr (7, [.ref ms, .int (nZ vsv), .ref mk, .ref mb, .int (nZ vty), .int (nZ t), .int (nZ ven), .int (nZ vsp), .int (nZ vla), .int (nZ vpc)])), (ms, .inl (k 0, 900, .inl (zA s)))]) (w1 := fun (uz : Unit) => ([(mm, .inr (7, [.ref ms, .int (nZ vsv), .ref mk, .ref mb, .int (nZ vty), .int (nZ 0), .int (nZ ven), .int (nZ vsp), .int (nZ vla), .int (nZ vpc)])), (ms, .inl (k 0, 900, .inl (zA s)))] : va_W)) (fun sz => c_X7_coin l D k sz mm ms mk mb vsv vty t ven vsp vla vpc s j B r (r1) (by omega) (by omega)) (by decide) (List.Perm.refl _) [0, 1] rfl rfl (fun _ => rfl) ?_
  rintro r _ hr9
  try dsimp only at hr9
  simp only [zput, mW, List.set_cons_zero, List.set_cons_succ]
  exact ⟨hr9, hG, ms, mk, mb, vsv, vty, ven, vsp, vla, vpc, s, kp, bf, rfl, hr⟩
set_option maxHeartbeats 1000000 in
set_option maxRecDepth 100000 in
theorem bm_bedOf (l : Launch) (D : va_G) (k : Nat → ClassId) (mm : Nat) (t : Int) (B : Bd) (S : List Bd) (K : Nat → Option Bd) (T : List Int) (xs : va_W) (hG : goodS (B, S, K, T)) (hx : isM k mm t (B, S, K, T) xs) (x1 x2 : Int) (h1 : 0 ≤ x1 ∧ x1 ≤ 8) (h2 : 0 ≤ x2 ∧ x2 ≤ 4) : ∀ sz, Met l yX7_bedOf (zW yX7_bedOf cX7_bedOf 3 (some .int)) zRN (va_Pc [.ref mm, .int (nZ x1), .int (nZ x2)] (zIn D k sz xs)) (va_Qi (fun (r : Int32) (u : va_W) => r = nZ (bedOfS (chB B) (B.1 1) x1 (cleanB B x1) x2) ∧ isMg k mm 0 (B, S, K, T) u) (fun u => zOut D (va_A xs sz) u) (va_A xs sz)) 0 0 (va_A xs sz) := by
  obtain ⟨ms, mk, mb, vsv, vty, ven, vsp, vla, vpc, s, kp, bf, rfl, hr⟩ := hx
  obtain ⟨r1, r2, r3, r4, r5, r6, r7⟩ := id hr
  have r2 : vsv = (S.length : Int) := r2
  have r3 : S.length ≤ 6 := r3
  have r7 : textOk bf vty T := r7
  have r1 : blkOk s 0 B := r1
  have hgB : bdGood B := hG.1
  obtain ⟨w0, w1, w2, w3, w4, hC0, hC1, hC2⟩ := id hgB
  refine zBundlei0 (S := Unit) (ws := mW k mm ms mk mb vsv vty t ven vsp vla vpc s kp bf) (wc := [(mm, .inr (7, [.ref ms, .int (nZ vsv), .ref mk, .ref mb, .int (nZ vty), .int (nZ t), .int (nZ ven), .int (nZ vsp), .int (nZ vla), .int (nZ vpc)])), (ms, .inl (k 0, 900, .inl (zA s)))]) (w1 := fun (uz : Unit) => ([(mm, .inr (7, [.ref ms, .int (nZ vsv), .ref mk, .ref mb, .int (nZ vty), .int (nZ 0), .int (nZ ven), .int (nZ vsp), .int (nZ vla), .int (nZ vpc)])), (ms, .inl (k 0, 900, .inl (zA s)))] : va_W)) (fun sz => c_X7_bedOf l D k sz mm ms mk mb vsv vty t ven vsp vla vpc s B x1 x2 (r1) (w1) (w4) (⟨h1.1, by omega⟩) (h2)) (by decide) (List.Perm.refl _) [0, 1] rfl rfl (fun _ => rfl) ?_
  rintro r _ hr9
  try dsimp only at hr9
  simp only [zput, mW, List.set_cons_zero, List.set_cons_succ]
  exact ⟨hr9, hG, ms, mk, mb, vsv, vty, ven, vsp, vla, vpc, s, kp, bf, rfl, hr⟩
set_option maxHeartbeats 1000000 in
set_option maxRecDepth 100000 in
theorem bm_count (l : Launch) (D : va_G) (k : Nat → ClassId) (mm : Nat) (t : Int) (B : Bd) (S : List Bd) (K : Nat → Option Bd) (T : List Int) (xs : va_W) (hG : goodS (B, S, K, T)) (hx : isM k mm t (B, S, K, T) xs) (x1 : Int) (h1 : 0 ≤ x1 ∧ x1 ≤ 12) : ∀ sz, Met l yX7_count (zW yX7_count cX7_count 2 (some .int)) zRN (va_Pc [.ref mm, .int (nZ x1)] (zIn D k sz xs)) (va_Qi (fun (r : Int32) (u : va_W) => r = nZ (countB B (S.length : Int) x1) ∧ isMg k mm 0 (B, S, K, T) u) (fun u => zOut D (va_A xs sz) u) (va_A xs sz)) 0 0 (va_A xs sz) := by
  obtain ⟨ms, mk, mb, vsv, vty, ven, vsp, vla, vpc, s, kp, bf, rfl, hr⟩ := hx
  obtain ⟨r1, r2, r3, r4, r5, r6, r7⟩ := id hr
  have r2 : vsv = (S.length : Int) := r2
  have r3 : S.length ≤ 6 := r3
  have r7 : textOk bf vty T := r7
  have r1 : blkOk s 0 B := r1
  have hgB : bdGood B := hG.1
  obtain ⟨w0, w1, w2, w3, w4, hC0, hC1, hC2⟩ := id hgB
  refine zBundlei0 (S := Unit) (ws := mW k mm ms mk mb vsv vty t ven vsp vla vpc s kp bf) (wc := [(mm, .inr (7, [.ref ms, .int (nZ vsv), .ref mk, .ref mb, .int (nZ vty), .int (nZ t), .int (nZ ven), .int (nZ vsp), .int (nZ vla), .int (nZ vpc)])), (ms, .inl (k 0, 900, .inl (zA s)))]) (w1 := fun (uz : Unit) => ([(mm, .inr (7, [.ref ms, .int (nZ vsv), .ref mk, .ref mb, .int (nZ vty), .int (nZ 0), .int (nZ ven), .int (nZ vsp), .int (nZ vla), .int (nZ vpc)])), (ms, .inl (k 0, 900, .inl (zA s)))] : va_W)) (fun sz => c_X7_count l D k sz mm ms mk mb vsv vty t ven vsp vla vpc s B x1 (r1) (h1)) (by decide) (List.Perm.refl _) [0, 1] rfl rfl (fun _ => rfl) ?_
  rintro r _ hr9
  try dsimp only at hr9
  simp only [zput, mW, List.set_cons_zero, List.set_cons_succ]
  exact ⟨by rw [hr9, r2]; rfl, hG, ms, mk, mb, vsv, vty, ven, vsp, vla, vpc, s, kp, bf, rfl, hr⟩
set_option maxHeartbeats 1000000 in
set_option maxRecDepth 100000 in
theorem bm_setting (l : Launch) (D : va_G) (k : Nat → ClassId) (mm : Nat) (t : Int) (B : Bd) (S : List Bd) (K : Nat → Option Bd) (T : List Int) (xs : va_W) (hG : goodS (B, S, K, T)) (hx : isM k mm t (B, S, K, T) xs)  : ∀ sz, Met l yX7_setting (zW yX7_setting cX7_setting 1 (some .int)) zRN (va_Pc [.ref mm] (zIn D k sz xs)) (va_Qi (fun (r : Int32) (u : va_W) => r = nZ (B.1 0) ∧ isMg k mm 0 (B, S, K, T) u) (fun u => zOut D (va_A xs sz) u) (va_A xs sz)) 0 0 (va_A xs sz) := by
  obtain ⟨ms, mk, mb, vsv, vty, ven, vsp, vla, vpc, s, kp, bf, rfl, hr⟩ := hx
  obtain ⟨r1, r2, r3, r4, r5, r6, r7⟩ := id hr
  have r2 : vsv = (S.length : Int) := r2
  have r3 : S.length ≤ 6 := r3
  have r7 : textOk bf vty T := r7
  have r1 : blkOk s 0 B := r1
  have hgB : bdGood B := hG.1
  obtain ⟨w0, w1, w2, w3, w4, hC0, hC1, hC2⟩ := id hgB
  refine zBundlei0 (S := Unit) (ws := mW k mm ms mk mb vsv vty t ven vsp vla vpc s kp bf) (wc := [(mm, .inr (7, [.ref ms, .int (nZ vsv), .ref mk, .ref mb, .int (nZ vty), .int (nZ t), .int (nZ ven), .int (nZ vsp), .int (nZ vla), .int (nZ vpc)])), (ms, .inl (k 0, 900, .inl (zA s)))]) (w1 := fun (uz : Unit) => ([(mm, .inr (7, [.ref ms, .int (nZ vsv), .ref mk, .ref mb, .int (nZ vty), .int (nZ 0), .int (nZ ven), .int (nZ vsp), .int (nZ vla), .int (nZ vpc)])), (ms, .inl (k 0, 900, .inl (zA s)))] : va_W)) (fun sz => c_X7_setting l D k sz mm ms mk mb vsv vty t ven vsp vla vpc s B (r1)) (by decide) (List.Perm.refl _) [0, 1] rfl rfl (fun _ => rfl) ?_
  rintro r _ hr9
  try dsimp only at hr9
  simp only [zput, mW, List.set_cons_zero, List.set_cons_succ]
  exact ⟨hr9, hG, ms, mk, mb, vsv, vty, ven, vsp, vla, vpc, s, kp, bf, rfl, hr⟩
set_option maxHeartbeats 1000000 in
set_option maxRecDepth 100000 in
theorem bm_ends (l : Launch) (D : va_G) (k : Nat → ClassId) (mm : Nat) (t : Int) (B : Bd) (S : List Bd) (K : Nat → Option Bd) (T : List Int) (xs : va_W) (hG : goodS (B, S, K, T)) (hx : isM k mm t (B, S, K, T) xs) (x1 x2 x3 : Int) (h1 : 0 ≤ x1 ∧ x1 ≤ 2) (h2 : 1 ≤ x2 ∧ x2 ≤ 150) (h3 : 0 ≤ x3 ∧ x3 ≤ 1) : ∀ sz, Met l yX7_ends_ (zW yX7_ends_ cX7_ends_ 4 (some .int)) zRN (va_Pc [.ref mm, .int (nZ x1), .int (nZ x2), .int (nZ x3)] (zIn D k sz xs)) (va_Qi (fun (r : Int32) (u : va_W) => r = nZ (lastL (B.1 0) x2 (B.2 x1.toNat)) ∧ isMg k mm 0 (B, S, K, T) u) (fun u => zOut D (va_A xs sz) u) (va_A xs sz)) 0 0 (va_A xs sz) := by
  obtain ⟨ms, mk, mb, vsv, vty, ven, vsp, vla, vpc, s, kp, bf, rfl, hr⟩ := hx
  obtain ⟨r1, r2, r3, r4, r5, r6, r7⟩ := id hr
  have r2 : vsv = (S.length : Int) := r2
  have r3 : S.length ≤ 6 := r3
  have r7 : textOk bf vty T := r7
  have r1 : blkOk s 0 B := r1
  have hgB : bdGood B := hG.1
  obtain ⟨w0, w1, w2, w3, w4, hC0, hC1, hC2⟩ := id hgB
  obtain ⟨j, rfl⟩ := Int.eq_ofNat_of_zero_le (h1.1)
  rw [Int.toNat_natCast]
  rcases (by omega : x3 = 0 ∨ x3 = 1) with rfl | rfl
  · refine zBundlei0 (S := Unit) (ws := mW k mm ms mk mb vsv vty t ven vsp vla vpc s kp bf) (wc := [(mm, .inr (7, [.ref ms, .int (nZ vsv), .ref mk, .ref mb, .int (nZ vty), .int (nZ t), .int (nZ ven), .int (nZ vsp), .int (nZ vla), .int (nZ vpc)])), (ms, .inl (k 0, 900, .inl (zA s)))]) (w1 := fun (uz : Unit) => ([(mm, .inr (7, [.ref ms, .int (nZ vsv), .ref mk, .ref mb, .int (nZ vty), .int (nZ 0), .int (nZ ven), .int (nZ vsp), .int (nZ vla), .int (nZ vpc)])), (ms, .inl (k 0, 900, .inl (zA s)))] : va_W)) (fun sz => c_X7_ends__0 l D k sz mm ms mk mb vsv vty t ven vsp vla vpc s j B x2 (r1) (by omega) (good_ch hgB (by omega)) (w0) (h2)) (by decide) (List.Perm.refl _) [0, 1] rfl rfl (fun _ => rfl) ?_
    rintro r _ hr9
    try dsimp only at hr9
    simp only [zput, mW, List.set_cons_zero, List.set_cons_succ]
    exact ⟨hr9, hG, ms, mk, mb, vsv, vty, ven, vsp, vla, vpc, s, kp, bf, rfl, hr⟩
  · refine zBundlei0 (S := (Nat → Int) × Int) (ws := mW k mm ms mk mb vsv vty t ven vsp vla vpc s kp bf) (wc := [(mm, .inr (7, [.ref ms, .int (nZ vsv), .ref mk, .ref mb, .int (nZ vty), .int (nZ t), .int (nZ ven), .int (nZ vsp), .int (nZ vla), .int (nZ vpc)])), (ms, .inl (k 0, 900, .inl (zA s)))]) (w1 := fun (uz : (Nat → Int) × Int) => ([(mm, .inr (7, [.ref ms, .int (nZ vsv), .ref mk, .ref mb, .int (nZ vty), .int (nZ 0), .int (nZ (uz.2)), .int (nZ vsp), .int (nZ vla), .int (nZ vpc)])), (ms, .inl (k 0, 900, .inl (zA (uz.1))))] : va_W)) (fun sz => c_X7_ends__1 l D k sz mm ms mk mb vsv vty t ven vsp vla vpc s j B x2 (r1) (by omega) (good_ch hgB (by omega)) (w0) (h2)) (by decide) (List.Perm.refl _) [0, 1] rfl rfl (fun _ => rfl) ?_
    rintro r ⟨s2, ve2⟩ ⟨hr9, hf2⟩
    try dsimp only at hr9 hf2
    simp only [zput, mW, List.set_cons_zero, List.set_cons_succ]
    exact ⟨hr9, hG, ms, mk, mb, vsv, vty, ve2, vsp, vla, vpc, s2, kp, bf, rfl, hr.scr hf2 r7⟩
set_option maxHeartbeats 1000000 in
set_option maxRecDepth 100000 in
theorem bm_ifPushed (l : Launch) (D : va_G) (k : Nat → ClassId) (mm : Nat) (t : Int) (B : Bd) (S : List Bd) (K : Nat → Option Bd) (T : List Int) (xs : va_W) (hG : goodS (B, S, K, T)) (hx : isM k mm t (B, S, K, T) xs) (x1 x2 : Int) (h1 : 0 ≤ x1 ∧ x1 ≤ 2) (h2 : 1 ≤ x2 ∧ x2 ≤ 150) : ∀ sz, Met l yX7_ifPushed (zW yX7_ifPushed cX7_ifPushed 3 (some .int)) zRN (va_Pc [.ref mm, .int (nZ x1), .int (nZ x2)] (zIn D k sz xs)) (va_Qi (fun (r : Int32) (u : va_W) => r = nZ (cleanAllB (push0 B x1.toNat x2)) ∧ isMg k mm 0 (B, S, K, T) u) (fun u => zOut D (va_A xs sz) u) (va_A xs sz)) 0 0 (va_A xs sz) := by
  obtain ⟨ms, mk, mb, vsv, vty, ven, vsp, vla, vpc, s, kp, bf, rfl, hr⟩ := hx
  obtain ⟨r1, r2, r3, r4, r5, r6, r7⟩ := id hr
  have r2 : vsv = (S.length : Int) := r2
  have r3 : S.length ≤ 6 := r3
  have r7 : textOk bf vty T := r7
  have r1 : blkOk s 0 B := r1
  have hgB : bdGood B := hG.1
  obtain ⟨w0, w1, w2, w3, w4, hC0, hC1, hC2⟩ := id hgB
  obtain ⟨j, rfl⟩ := Int.eq_ofNat_of_zero_le (h1.1)
  rw [Int.toNat_natCast]
  refine zBundlei0 (S := (Nat → Int) × Int) (ws := mW k mm ms mk mb vsv vty t ven vsp vla vpc s kp bf) (wc := [(mm, .inr (7, [.ref ms, .int (nZ vsv), .ref mk, .ref mb, .int (nZ vty), .int (nZ t), .int (nZ ven), .int (nZ vsp), .int (nZ vla), .int (nZ vpc)])), (ms, .inl (k 0, 900, .inl (zA s)))]) (w1 := fun (uz : (Nat → Int) × Int) => ([(mm, .inr (7, [.ref ms, .int (nZ vsv), .ref mk, .ref mb, .int (nZ vty), .int (nZ 0), .int (nZ (uz.2)), .int (nZ vsp), .int (nZ vla), .int (nZ vpc)])), (ms, .inl (k 0, 900, .inl (zA (uz.1))))] : va_W)) (fun sz => c_X7_ifPushed l D k sz mm ms mk mb vsv vty t ven vsp vla vpc s j B x2 (r1) (by omega) (good_ch hgB (by omega)) (w0) (h2)) (by decide) (List.Perm.refl _) [0, 1] rfl rfl (fun _ => rfl) ?_
  rintro r ⟨s2, ve2⟩ ⟨hr9, hf2⟩
  try dsimp only at hr9 hf2
  simp only [zput, mW, List.set_cons_zero, List.set_cons_succ]
  exact ⟨hr9, hG, ms, mk, mb, vsv, vty, ve2, vsp, vla, vpc, s2, kp, bf, rfl, hr.scr hf2 r7⟩
set_option maxHeartbeats 1000000 in
set_option maxRecDepth 100000 in
theorem bm_strengthFor (l : Launch) (D : va_G) (k : Nat → ClassId) (mm : Nat) (t : Int) (B : Bd) (S : List Bd) (K : Nat → Option Bd) (T : List Int) (xs : va_W) (hG : goodS (B, S, K, T)) (hx : isM k mm t (B, S, K, T) xs) (x1 x2 : Int) (h1 : 0 ≤ x1 ∧ x1 ≤ 2) (h2 : 0 ≤ x2 ∧ x2 ≤ 8) : ∀ sz, Met l yX7_strengthFor (zW yX7_strengthFor cX7_strengthFor 3 (some .int)) zRN (va_Pc [.ref mm, .int (nZ x1), .int (nZ x2)] (zIn D k sz xs)) (va_Qi (fun (r : Int32) (u : va_W) => r = nZ (strS (B.1 0) (B.2 x1.toNat) x2) ∧ isMg k mm 0 (B, S, K, T) u) (fun u => zOut D (va_A xs sz) u) (va_A xs sz)) 0 0 (va_A xs sz) := by
  obtain ⟨ms, mk, mb, vsv, vty, ven, vsp, vla, vpc, s, kp, bf, rfl, hr⟩ := hx
  obtain ⟨r1, r2, r3, r4, r5, r6, r7⟩ := id hr
  have r2 : vsv = (S.length : Int) := r2
  have r3 : S.length ≤ 6 := r3
  have r7 : textOk bf vty T := r7
  have r1 : blkOk s 0 B := r1
  have hgB : bdGood B := hG.1
  obtain ⟨w0, w1, w2, w3, w4, hC0, hC1, hC2⟩ := id hgB
  obtain ⟨j, rfl⟩ := Int.eq_ofNat_of_zero_le (h1.1)
  rw [Int.toNat_natCast]
  refine zBundlei0 (S := (Nat → Int) × Int) (ws := mW k mm ms mk mb vsv vty t ven vsp vla vpc s kp bf) (wc := [(mm, .inr (7, [.ref ms, .int (nZ vsv), .ref mk, .ref mb, .int (nZ vty), .int (nZ t), .int (nZ ven), .int (nZ vsp), .int (nZ vla), .int (nZ vpc)])), (ms, .inl (k 0, 900, .inl (zA s)))]) (w1 := fun (uz : (Nat → Int) × Int) => ([(mm, .inr (7, [.ref ms, .int (nZ vsv), .ref mk, .ref mb, .int (nZ vty), .int (nZ 0), .int (nZ (uz.2)), .int (nZ vsp), .int (nZ vla), .int (nZ vpc)])), (ms, .inl (k 0, 900, .inl (zA (uz.1))))] : va_W)) (fun sz => c_X7_strengthFor l D k sz mm ms mk mb vsv vty t ven vsp vla vpc s j B x2 (r1) (by omega) (good_ch hgB (by omega)) (w0) (⟨h2.1, by omega⟩)) (by decide) (List.Perm.refl _) [0, 1] rfl rfl (fun _ => rfl) ?_
  rintro r ⟨s2, ve2⟩ ⟨hr9, hf2⟩
  try dsimp only at hr9 hf2
  simp only [zput, mW, List.set_cons_zero, List.set_cons_succ]
  exact ⟨hr9, hG, ms, mk, mb, vsv, vty, ve2, vsp, vla, vpc, s2, kp, bf, rfl, hr.scr hf2 r7⟩
set_option maxHeartbeats 1000000 in
set_option maxRecDepth 100000 in
theorem bm_bestPush (l : Launch) (D : va_G) (k : Nat → ClassId) (mm : Nat) (t : Int) (B : Bd) (S : List Bd) (K : Nat → Option Bd) (T : List Int) (xs : va_W) (hG : goodS (B, S, K, T)) (hx : isM k mm t (B, S, K, T) xs)  : ∀ sz, Met l yX7_bestPush (zW yX7_bestPush cX7_bestPush 1 (some .int)) zRN (va_Pc [.ref mm] (zIn D k sz xs)) (va_Qi (fun (r : Int32) (u : va_W) => r = nZ (bestB B) ∧ isMg k mm 0 (B, S, K, T) u) (fun u => zOut D (va_A xs sz) u) (va_A xs sz)) 0 0 (va_A xs sz) := by
  obtain ⟨ms, mk, mb, vsv, vty, ven, vsp, vla, vpc, s, kp, bf, rfl, hr⟩ := hx
  obtain ⟨r1, r2, r3, r4, r5, r6, r7⟩ := id hr
  have r2 : vsv = (S.length : Int) := r2
  have r3 : S.length ≤ 6 := r3
  have r7 : textOk bf vty T := r7
  have r1 : blkOk s 0 B := r1
  have hgB : bdGood B := hG.1
  obtain ⟨w0, w1, w2, w3, w4, hC0, hC1, hC2⟩ := id hgB
  refine zBundlei0 (S := (Nat → Int) × Int) (ws := mW k mm ms mk mb vsv vty t ven vsp vla vpc s kp bf) (wc := [(mm, .inr (7, [.ref ms, .int (nZ vsv), .ref mk, .ref mb, .int (nZ vty), .int (nZ t), .int (nZ ven), .int (nZ vsp), .int (nZ vla), .int (nZ vpc)])), (ms, .inl (k 0, 900, .inl (zA s)))]) (w1 := fun (uz : (Nat → Int) × Int) => ([(mm, .inr (7, [.ref ms, .int (nZ vsv), .ref mk, .ref mb, .int (nZ vty), .int (nZ 0), .int (nZ (uz.2)), .int (nZ vsp), .int (nZ vla), .int (nZ vpc)])), (ms, .inl (k 0, 900, .inl (zA (uz.1))))] : va_W)) (fun sz => c_X7_bestPush l D k sz mm ms mk mb vsv vty t ven vsp vla vpc s B (r1) (hgB)) (by decide) (List.Perm.refl _) [0, 1] rfl rfl (fun _ => rfl) ?_
  rintro r ⟨s2, ve2⟩ ⟨hr9, hf2⟩
  try dsimp only at hr9 hf2
  simp only [zput, mW, List.set_cons_zero, List.set_cons_succ]
  exact ⟨hr9, hG, ms, mk, mb, vsv, vty, ve2, vsp, vla, vpc, s2, kp, bf, rfl, hr.scr hf2 r7⟩
set_option maxHeartbeats 1000000 in
set_option maxRecDepth 100000 in
theorem bm_fullness (l : Launch) (D : va_G) (k : Nat → ClassId) (mm : Nat) (t : Int) (B : Bd) (S : List Bd) (K : Nat → Option Bd) (T : List Int) (xs : va_W) (hG : goodS (B, S, K, T)) (hx : isM k mm t (B, S, K, T) xs)  : ∀ sz, Met l yX7_fullness (zW yX7_fullness cX7_fullness 1 (some .double)) zRN (va_Pc [.ref mm] (zIn D k sz xs)) (va_Qd (fun (r : UInt64) (u : va_W) => r = zShare (chalksB B) ∧ isMg k mm 0 (B, S, K, T) u) (fun u => zOut D (va_A xs sz) u) (va_A xs sz)) 0 0 (va_A xs sz) := by
  obtain ⟨ms, mk, mb, vsv, vty, ven, vsp, vla, vpc, s, kp, bf, rfl, hr⟩ := hx
  obtain ⟨r1, r2, r3, r4, r5, r6, r7⟩ := id hr
  have r2 : vsv = (S.length : Int) := r2
  have r3 : S.length ≤ 6 := r3
  have r7 : textOk bf vty T := r7
  have r1 : blkOk s 0 B := r1
  have hgB : bdGood B := hG.1
  obtain ⟨w0, w1, w2, w3, w4, hC0, hC1, hC2⟩ := id hgB
  refine zBundled0 (S := Unit) (ws := mW k mm ms mk mb vsv vty t ven vsp vla vpc s kp bf) (wc := [(mm, .inr (7, [.ref ms, .int (nZ vsv), .ref mk, .ref mb, .int (nZ vty), .int (nZ t), .int (nZ ven), .int (nZ vsp), .int (nZ vla), .int (nZ vpc)])), (ms, .inl (k 0, 900, .inl (zA s)))]) (w1 := fun (uz : Unit) => ([(mm, .inr (7, [.ref ms, .int (nZ vsv), .ref mk, .ref mb, .int (nZ vty), .int (nZ 0), .int (nZ ven), .int (nZ vsp), .int (nZ vla), .int (nZ vpc)])), (ms, .inl (k 0, 900, .inl (zA s)))] : va_W)) (fun sz => c_X7_fullness l D k sz mm ms mk mb vsv vty t ven vsp vla vpc s B (r1) (w4)) (by decide) (List.Perm.refl _) [0, 1] rfl rfl (fun _ => rfl) ?_
  rintro r _ hr9
  try dsimp only at hr9
  simp only [zput, mW, List.set_cons_zero, List.set_cons_succ]
  exact ⟨hr9, hG, ms, mk, mb, vsv, vty, ven, vsp, vla, vpc, s, kp, bf, rfl, hr⟩
set_option maxHeartbeats 1000000 in
set_option maxRecDepth 100000 in
theorem bm_digest (l : Launch) (D : va_G) (k : Nat → ClassId) (mm : Nat) (t : Int) (B : Bd) (S : List Bd) (K : Nat → Option Bd) (T : List Int) (xs : va_W) (hG : goodS (B, S, K, T)) (hx : isM k mm t (B, S, K, T) xs)  : ∀ sz, Met l yX7_digest (zW yX7_digest cX7_digest 5 (some .long)) zRN (va_Pc [.ref mm] (zIn D k sz xs)) (va_Ql (fun (r : Int64) (u : va_W) => r = nL (digB B (S.length : Int) (kS ((K 0).map (fun _ => 0))) (kS ((K 1).map (fun _ => 0))) T) ∧ isMg k mm 0 (B, S, K, T) u) (fun u => zOut D (va_A xs sz) u) (va_A xs sz)) 0 0 (va_A xs sz) := by
  obtain ⟨ms, mk, mb, vsv, vty, ven, vsp, vla, vpc, s, kp, bf, rfl, hr⟩ := hx
  obtain ⟨r1, r2, r3, r4, r5, r6, r7⟩ := id hr
  have r2 : vsv = (S.length : Int) := r2
  have r3 : S.length ≤ 6 := r3
  have r7 : textOk bf vty T := r7
  have r1 : blkOk s 0 B := r1
  have hgB : bdGood B := hG.1
  obtain ⟨w0, w1, w2, w3, w4, hC0, hC1, hC2⟩ := id hgB
  refine zBundlel0 (S := (Nat → Int) × Int) (ws := mW k mm ms mk mb vsv vty t ven vsp vla vpc s kp bf) (wc := [(mm, .inr (7, [.ref ms, .int (nZ vsv), .ref mk, .ref mb, .int (nZ vty), .int (nZ t), .int (nZ ven), .int (nZ vsp), .int (nZ vla), .int (nZ vpc)])), (ms, .inl (k 0, 900, .inl (zA s))), (mk, .inl (k 1, 2, .inl (zA kp))), (mb, .inl (k 2, 60, .inl (zA bf)))]) (w1 := fun (uz : (Nat → Int) × Int) => ([(mm, .inr (7, [.ref ms, .int (nZ vsv), .ref mk, .ref mb, .int (nZ vty), .int (nZ 0), .int (nZ (uz.2)), .int (nZ vsp), .int (nZ vla), .int (nZ vpc)])), (ms, .inl (k 0, 900, .inl (zA (uz.1)))), (mk, .inl (k 1, 2, .inl (zA kp))), (mb, .inl (k 2, 60, .inl (zA bf)))] : va_W)) (fun sz => c_X7_digest l D k sz mm ms mk mb vsv vty t ven vsp vla vpc s kp bf T B (r7) (r1) (hgB) (by rw [hr.kp0 (by omega)]; cases (K 0) <;> first | exact Or.inl rfl | exact Or.inr rfl) (by rw [hr.kp0 (by omega)]; cases (K 1) <;> first | exact Or.inl rfl | exact Or.inr rfl)) (by decide) (List.Perm.refl _) [0, 1, 2, 3] rfl rfl (fun _ => rfl) ?_
  rintro r ⟨s2, ve2⟩ ⟨hr9, hf2⟩
  try dsimp only at hr9 hf2
  simp only [zput, mW, List.set_cons_zero, List.set_cons_succ]
  exact ⟨by rw [hr9, r2, hr.kp0 (by omega : 0 < 2), hr.kp0 (by omega : 1 < 2)], hG, ms, mk, mb, vsv, vty, ve2, vsp, vla, vpc, s2, kp, bf, rfl, hr.scr hf2 r7⟩
set_option maxHeartbeats 1000000 in
set_option maxRecDepth 100000 in
theorem bm_thrown (l : Launch) (D : va_G) (k : Nat → ClassId) (mm : Nat) (t : Int) (B : Bd) (S : List Bd) (K : Nat → Option Bd) (T : List Int) (xs : va_W) (hG : goodS (B, S, K, T)) (hx : isM k mm t (B, S, K, T) xs)  : ∀ sz, Met l yX7_thrown (zW yX7_thrown cX7_thrown 1 (some .int)) zRN (va_Pc [.ref mm] (zIn D k sz xs)) (va_Qi (fun (r : Int32) (u : va_W) => r = nZ t ∧ isMg k mm t (B, S, K, T) u) (fun u => zOut D (va_A xs sz) u) (va_A xs sz)) 0 0 (va_A xs sz) := by
  obtain ⟨ms, mk, mb, vsv, vty, ven, vsp, vla, vpc, s, kp, bf, rfl, hr⟩ := hx
  obtain ⟨r1, r2, r3, r4, r5, r6, r7⟩ := id hr
  have r2 : vsv = (S.length : Int) := r2
  have r3 : S.length ≤ 6 := r3
  have r7 : textOk bf vty T := r7
  have r1 : blkOk s 0 B := r1
  have hgB : bdGood B := hG.1
  obtain ⟨w0, w1, w2, w3, w4, hC0, hC1, hC2⟩ := id hgB
  refine zBundlei0 (S := Unit) (ws := mW k mm ms mk mb vsv vty t ven vsp vla vpc s kp bf) (wc := [(mm, .inr (7, [.ref ms, .int (nZ vsv), .ref mk, .ref mb, .int (nZ vty), .int (nZ t), .int (nZ ven), .int (nZ vsp), .int (nZ vla), .int (nZ vpc)]))]) (w1 := fun (uz : Unit) => ([(mm, .inr (7, [.ref ms, .int (nZ vsv), .ref mk, .ref mb, .int (nZ vty), .int (nZ t), .int (nZ ven), .int (nZ vsp), .int (nZ vla), .int (nZ vpc)]))] : va_W)) (fun sz => c_X7_thrown l D k sz mm ms mk mb vsv vty t ven vsp vla vpc ) (by decide) (List.Perm.refl _) [0] rfl rfl (fun _ => rfl) ?_
  rintro r _ hr9
  try dsimp only at hr9
  simp only [zput, mW, List.set_cons_zero, List.set_cons_succ]
  exact ⟨hr9, hG, ms, mk, mb, vsv, vty, ven, vsp, vla, vpc, s, kp, bf, rfl, hr⟩
