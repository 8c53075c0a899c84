/-! the calls that throw, on a state -/
set_option maxHeartbeats 1000000 in
set_option maxRecDepth 100000 in
theorem bt_push_e1 (l : Launch) (hst : l.stackTraces = false) (D : va_G) (k : Nat → ClassId) (h : Nat) (B : Bd) (S : List Bd) (K : Nat → Option Bd) (T : List Int) (xs : va_W) (hx : isX k h (B, S, K, T) xs) (x1 : Int) (x2 : Int) (hz1 : zR x1) (hz2 : zR x2) (h1 : x1 < 0 ∨ 2 < x1) : ∀ sz, vx_Met l yX6_push (zW yX6_push cX6_push 3 (some .int)) zRB (va_Pc [.ref h, .int (nZ x1), .int (nZ x2)] (zInT D k sz xs)) (va_Qi (fun (_ : Int32) (_ : Unit) => False) (fun (_ : Unit) (_ : State) => True) (va_A xs sz)) (zXC D zIO xs (va_A xs sz)) 10 110 (va_A xs sz) := by
  obtain ⟨b, a, n, g, sf, slf, f, hp, hr⟩ := hx
  obtain ⟨r1, r2, r3, r4, r5, r6, r7, r8, r9, r10⟩ := id hr
  have r3 : n 1 = (S.length : Int) := r3
  exact zBundleX (Qc := fun A => va_Qi (fun (_ : Int32) (_ : Unit) => False) (fun (_ : Unit) (_ : State) => True) A) (Qc' := fun A => va_Qi (fun (_ : Int32) (_ : Unit) => False) (fun (_ : Unit) (_ : State) => True) A) (wc := [(h, .inr (6, [.ref (b.1 0), .ref (a 0), .ref (a 1), .ref (a 2), .ref (a 3), .ref (a 4), .ref (a 5)]))]) (fun sz => c_X6_push_e1 l D k sz h (b.1 0) (a 0) (a 1) (a 2) (a 3) (a 4) (a 5) x1 x2 (hst) (hz1) (hz2) (h1)) (fun A a s o t hq => by obtain ⟨⟨r, u, _, hf, _⟩, _⟩ := hq; exact hf) (by decide) hp [0] rfl rfl
set_option maxHeartbeats 1000000 in
set_option maxRecDepth 100000 in
theorem bt_push_e2 (l : Launch) (hst : l.stackTraces = false) (D : va_G) (k : Nat → ClassId) (h : Nat) (B : Bd) (S : List Bd) (K : Nat → Option Bd) (T : List Int) (xs : va_W) (hx : isX k h (B, S, K, T) xs) (x1 : Int) (x2 : Int) (hz1 : zR x1) (hz2 : zR x2) (h1 : 0 ≤ x1 ∧ x1 ≤ 2) (h2 : x2 < 1 ∨ 150 < x2) : ∀ sz, vx_Met l yX6_push (zW yX6_push cX6_push 3 (some .int)) zRB (va_Pc [.ref h, .int (nZ x1), .int (nZ x2)] (zInT D k sz xs)) (va_Qi (fun (_ : Int32) (_ : Unit) => False) (fun (_ : Unit) (_ : State) => True) (va_A xs sz)) (zXC D zIA xs (va_A xs sz)) 10 110 (va_A xs sz) := by
  obtain ⟨b, a, n, g, sf, slf, f, hp, hr⟩ := hx
  obtain ⟨r1, r2, r3, r4, r5, r6, r7, r8, r9, r10⟩ := id hr
  have r3 : n 1 = (S.length : Int) := r3
  exact zBundleX (Qc := fun A => va_Qi (fun (_ : Int32) (_ : Unit) => False) (fun (_ : Unit) (_ : State) => True) A) (Qc' := fun A => va_Qi (fun (_ : Int32) (_ : Unit) => False) (fun (_ : Unit) (_ : State) => True) A) (wc := [(h, .inr (6, [.ref (b.1 0), .ref (a 0), .ref (a 1), .ref (a 2), .ref (a 3), .ref (a 4), .ref (a 5)]))]) (fun sz => c_X6_push_e2 l D k sz h (b.1 0) (a 0) (a 1) (a 2) (a 3) (a 4) (a 5) x1 x2 (hst) (hz1) (hz2) (h1) (h2)) (fun A a s o t hq => by obtain ⟨⟨r, u, _, hf, _⟩, _⟩ := hq; exact hf) (by decide) hp [0] rfl rfl
set_option maxHeartbeats 1000000 in
set_option maxRecDepth 100000 in
theorem bt_set_e1 (l : Launch) (hst : l.stackTraces = false) (D : va_G) (k : Nat → ClassId) (h : Nat) (B : Bd) (S : List Bd) (K : Nat → Option Bd) (T : List Int) (xs : va_W) (hx : isX k h (B, S, K, T) xs) (x1 : Int) (hz1 : zR x1) (h1 : x1 < 0 ∨ 20 < x1) : ∀ sz, vx_Met l yX6_set (zW yX6_set cX6_set 3 (some .int)) zRB (va_Pc [.ref h, .int (nZ x1)] (zInT D k sz xs)) (va_Qi (fun (_ : Int32) (_ : Unit) => False) (fun (_ : Unit) (_ : State) => True) (va_A xs sz)) (zXC D zIA xs (va_A xs sz)) 10 110 (va_A xs sz) := by
  obtain ⟨b, a, n, g, sf, slf, f, hp, hr⟩ := hx
  obtain ⟨r1, r2, r3, r4, r5, r6, r7, r8, r9, r10⟩ := id hr
  have r3 : n 1 = (S.length : Int) := r3
  exact zBundleX (Qc := fun A => va_Qi (fun (_ : Int32) (_ : Unit) => False) (fun (_ : Unit) (_ : State) => True) A) (Qc' := fun A => va_Qi (fun (_ : Int32) (_ : Unit) => False) (fun (_ : Unit) (_ : State) => True) A) (wc := [(h, .inr (6, [.ref (b.1 0), .ref (a 0), .ref (a 1), .ref (a 2), .ref (a 3), .ref (a 4), .ref (a 5)]))]) (fun sz => c_X6_set_e1 l D k sz h (b.1 0) (a 0) (a 1) (a 2) (a 3) (a 4) (a 5) x1 (hst) (hz1) (h1)) (fun A a s o t hq => by obtain ⟨⟨r, u, _, hf, _⟩, _⟩ := hq; exact hf) (by decide) hp [0] rfl rfl
set_option maxHeartbeats 1000000 in
set_option maxRecDepth 100000 in
theorem bt_append_e1 (l : Launch) (hst : l.stackTraces = false) (D : va_G) (k : Nat → ClassId) (h : Nat) (B : Bd) (S : List Bd) (K : Nat → Option Bd) (T : List Int) (xs : va_W) (hx : isX k h (B, S, K, T) xs) (x1 : Int) (hz1 : zR x1) (h1 : x1 < 33 ∨ 126 < x1) : ∀ sz, vx_Met l yX6_append (zW yX6_append cX6_append 2 (some .int)) zRB (va_Pc [.ref h, .int (nZ x1)] (zInT D k sz xs)) (va_Qi (fun (_ : Int32) (_ : Unit) => False) (fun (_ : Unit) (_ : State) => True) (va_A xs sz)) (zXC D zIA xs (va_A xs sz)) 10 110 (va_A xs sz) := by
  obtain ⟨b, a, n, g, sf, slf, f, hp, hr⟩ := hx
  obtain ⟨r1, r2, r3, r4, r5, r6, r7, r8, r9, r10⟩ := id hr
  have r3 : n 1 = (S.length : Int) := r3
  exact zBundleX (Qc := fun A => va_Qi (fun (_ : Int32) (_ : Unit) => False) (fun (_ : Unit) (_ : State) => True) A) (Qc' := fun A => va_Qi (fun (_ : Int32) (_ : Unit) => False) (fun (_ : Unit) (_ : State) => True) A) (wc := [(h, .inr (6, [.ref (b.1 0), .ref (a 0), .ref (a 1), .ref (a 2), .ref (a 3), .ref (a 4), .ref (a 5)]))]) (fun sz => c_X6_append_e1 l D k sz h (b.1 0) (a 0) (a 1) (a 2) (a 3) (a 4) (a 5) x1 (hst) (hz1) (h1)) (fun A a s o t hq => by obtain ⟨⟨r, u, _, hf, _⟩, _⟩ := hq; exact hf) (by decide) hp [0] rfl rfl
set_option maxHeartbeats 1000000 in
set_option maxRecDepth 100000 in
theorem bt_append_e2 (l : Launch) (hst : l.stackTraces = false) (D : va_G) (k : Nat → ClassId) (h : Nat) (B : Bd) (S : List Bd) (K : Nat → Option Bd) (T : List Int) (xs : va_W) (hx : isX k h (B, S, K, T) xs) (x1 : Int) (hz1 : zR x1) (h1 : 33 ≤ x1 ∧ x1 ≤ 126) (h60 : T.length = 60) : ∀ sz, vx_Met l yX6_append (zW yX6_append cX6_append 2 (some .int)) zRB (va_Pc [.ref h, .int (nZ x1)] (zInT D k sz xs)) (va_Qi (fun (_ : Int32) (_ : Unit) => False) (fun (_ : Unit) (_ : State) => True) (va_A xs sz)) (zXC D zIS xs (va_A xs sz)) 10 110 (va_A xs sz) := by
  obtain ⟨b, a, n, g, sf, slf, f, hp, hr⟩ := hx
  obtain ⟨r1, r2, r3, r4, r5, r6, r7, r8, r9, r10⟩ := id hr
  have r3 : n 1 = (S.length : Int) := r3
  exact zBundleX (Qc := fun A => va_Qi (fun (_ : Int32) (_ : Unit) => False) (fun (_ : Unit) (_ : State) => True) A) (Qc' := fun A => va_Qi (fun (_ : Int32) (_ : Unit) => False) (fun (_ : Unit) (_ : State) => True) A) (wc := [(h, .inr (6, [.ref (b.1 0), .ref (a 0), .ref (a 1), .ref (a 2), .ref (a 3), .ref (a 4), .ref (a 5)])), ((a 2), .inr (1, [.ref (a 7), .int (nZ (n 2))])), ((a 7), .inl (k 0, 60, .inl (zA (g 0))))]) (fun sz => c_X6_append_e2 l D k sz h (b.1 0) (a 0) (a 1) (a 2) (a 3) (a 4) (a 5) (a 7) (n 2) (g 0) T x1 (hst) (r5) (hz1) (h1) (h60)) (fun A a s o t hq => by obtain ⟨⟨r, u, _, hf, _⟩, _⟩ := hq; exact hf) (by decide) hp [0, 12, 13] rfl rfl
set_option maxHeartbeats 1000000 in
set_option maxRecDepth 100000 in
theorem bt_lay_e1 (l : Launch) (hst : l.stackTraces = false) (D : va_G) (k : Nat → ClassId) (h : Nat) (B : Bd) (S : List Bd) (K : Nat → Option Bd) (T : List Int) (xs : va_W) (hx : isX k h (B, S, K, T) xs) (hw : ¬ wholeS T) : ∀ sz, vx_Met l yX6_lay (zW yX6_lay cX6_lay 2 (some .int)) zRB (va_Pc [.ref h] (zInT D k sz xs)) (va_Qi (fun (_ : Int32) (_ : Unit) => False) (fun (_ : Unit) (_ : State) => True) (va_A xs sz)) (zXC D zIA xs (va_A xs sz)) 10 110 (va_A xs sz) := by
  obtain ⟨b, a, n, g, sf, slf, f, hp, hr⟩ := hx
  obtain ⟨r1, r2, r3, r4, r5, r6, r7, r8, r9, r10⟩ := id hr
  have r3 : n 1 = (S.length : Int) := r3
  exact zBundleX (Qc := fun A => va_Qi (fun (_ : Int32) (_ : Unit) => False) (fun (_ : Unit) (_ : State) => True) A) (Qc' := fun A => va_Qi (fun (_ : Int32) (_ : Unit) => False) (fun (_ : Unit) (_ : State) => True) A) (wc := [(h, .inr (6, [.ref (b.1 0), .ref (a 0), .ref (a 1), .ref (a 2), .ref (a 3), .ref (a 4), .ref (a 5)])), ((a 2), .inr (1, [.ref (a 7), .int (nZ (n 2))])), ((a 7), .inl (k 0, 60, .inl (zA (g 0))))]) (fun sz => c_X6_lay_e1 l D k sz h (b.1 0) (a 0) (a 1) (a 2) (a 3) (a 4) (a 5) (a 7) (n 2) (g 0) T (hst) (r5) (hw)) (fun A a s o t hq => by obtain ⟨⟨r, u, _, hf, _⟩, _⟩ := hq; exact hf) (by decide) hp [0, 12, 13] rfl rfl
set_option maxHeartbeats 1000000 in
set_option maxRecDepth 100000 in
theorem bt_keep_e1 (l : Launch) (hst : l.stackTraces = false) (D : va_G) (k : Nat → ClassId) (h : Nat) (B : Bd) (S : List Bd) (K : Nat → Option Bd) (T : List Int) (xs : va_W) (hx : isX k h (B, S, K, T) xs) (x1 : Int) (hz1 : zR x1) (h1 : x1 < 0 ∨ 1 < x1) : ∀ sz, vx_Met l yX6_keep (zW yX6_keep cX6_keep 3 (some .int)) zRB (va_Pc [.ref h, .int (nZ x1)] (zInT D k sz xs)) (va_Qi (fun (_ : Int32) (_ : Unit) => False) (fun (_ : Unit) (_ : State) => True) (va_A xs sz)) (zXC D zIA xs (va_A xs sz)) 10 110 (va_A xs sz) := by
  obtain ⟨b, a, n, g, sf, slf, f, hp, hr⟩ := hx
  obtain ⟨r1, r2, r3, r4, r5, r6, r7, r8, r9, r10⟩ := id hr
  have r3 : n 1 = (S.length : Int) := r3
  exact zBundleX (Qc := fun A => va_Qi (fun (_ : Int32) (_ : Unit) => False) (fun (_ : Unit) (_ : State) => True) A) (Qc' := fun A => va_Qi (fun (_ : Int32) (_ : Unit) => False) (fun (_ : Unit) (_ : State) => True) A) (wc := [(h, .inr (6, [.ref (b.1 0), .ref (a 0), .ref (a 1), .ref (a 2), .ref (a 3), .ref (a 4), .ref (a 5)]))]) (fun sz => c_X6_keep_e1 l D k sz h (b.1 0) (a 0) (a 1) (a 2) (a 3) (a 4) (a 5) x1 (hst) (hz1) (h1)) (fun A a s o t hq => by obtain ⟨⟨r, u, _, hf, _⟩, _⟩ := hq; exact hf) (by decide) hp [0] rfl rfl
set_option maxHeartbeats 1000000 in
set_option maxRecDepth 100000 in
theorem bt_goBack_e1 (l : Launch) (hst : l.stackTraces = false) (D : va_G) (k : Nat → ClassId) (h : Nat) (B : Bd) (S : List Bd) (K : Nat → Option Bd) (T : List Int) (xs : va_W) (hx : isX k h (B, S, K, T) xs) (x1 : Int) (hz1 : zR x1) (h1 : x1 < 0 ∨ 1 < x1) : ∀ sz, vx_Met l yX6_goBack (zW yX6_goBack cX6_goBack 3 (some .int)) zRB (va_Pc [.ref h, .int (nZ x1)] (zInT D k sz xs)) (va_Qi (fun (_ : Int32) (_ : Unit) => False) (fun (_ : Unit) (_ : State) => True) (va_A xs sz)) (zXC D zIA xs (va_A xs sz)) 10 110 (va_A xs sz) := by
  obtain ⟨b, a, n, g, sf, slf, f, hp, hr⟩ := hx
  obtain ⟨r1, r2, r3, r4, r5, r6, r7, r8, r9, r10⟩ := id hr
  have r3 : n 1 = (S.length : Int) := r3
  exact zBundleX (Qc := fun A => va_Qi (fun (_ : Int32) (_ : Unit) => False) (fun (_ : Unit) (_ : State) => True) A) (Qc' := fun A => va_Qi (fun (_ : Int32) (_ : Unit) => False) (fun (_ : Unit) (_ : State) => True) A) (wc := [(h, .inr (6, [.ref (b.1 0), .ref (a 0), .ref (a 1), .ref (a 2), .ref (a 3), .ref (a 4), .ref (a 5)]))]) (fun sz => c_X6_goBack_e1 l D k sz h (b.1 0) (a 0) (a 1) (a 2) (a 3) (a 4) (a 5) x1 (hst) (hz1) (h1)) (fun A a s o t hq => by obtain ⟨⟨r, u, _, hf, _⟩, _⟩ := hq; exact hf) (by decide) hp [0] rfl rfl
set_option maxHeartbeats 1000000 in
set_option maxRecDepth 100000 in
theorem bt_goBack_e2 (l : Launch) (hst : l.stackTraces = false) (D : va_G) (k : Nat → ClassId) (h : Nat) (B : Bd) (S : List Bd) (K : Nat → Option Bd) (T : List Int) (xs : va_W) (hx : isX k h (B, S, K, T) xs) (x1 : Int) (hz1 : zR x1) (h1 : 0 ≤ x1 ∧ x1 ≤ 1) (hk : K x1.toNat = none) : ∀ sz, vx_Met l yX6_goBack (zW yX6_goBack cX6_goBack 3 (some .int)) zRB (va_Pc [.ref h, .int (nZ x1)] (zInT D k sz xs)) (va_Qi (fun (_ : Int32) (_ : Unit) => False) (fun (_ : Unit) (_ : State) => True) (va_A xs sz)) (zXC D zIS xs (va_A xs sz)) 10 110 (va_A xs sz) := by
  obtain ⟨b, a, n, g, sf, slf, f, hp, hr⟩ := hx
  obtain ⟨r1, r2, r3, r4, r5, r6, r7, r8, r9, r10⟩ := id hr
  have r3 : n 1 = (S.length : Int) := r3
  exact zBundleX (Qc := fun A => va_Qi (fun (_ : Int32) (_ : Unit) => False) (fun (_ : Unit) (_ : State) => True) A) (Qc' := fun A => va_Qi (fun (_ : Int32) (_ : Unit) => False) (fun (_ : Unit) (_ : State) => True) A) (wc := [(h, .inr (6, [.ref (b.1 0), .ref (a 0), .ref (a 1), .ref (a 2), .ref (a 3), .ref (a 4), .ref (a 5)])), ((a 0), .inl (k 4, 2, .inr (.inr (.inr (.inr slf)))))]) (fun sz => c_X6_goBack_e2 l D k sz h (b.1 0) (a 0) (a 1) (a 2) (a 3) (a 4) (a 5) slf x1 (hst) (h1) (by rw [r7 _ (by omega), r9 _ (by omega) hk]; rfl)) (fun A a s o t hq => by obtain ⟨⟨r, u, _, hf, _⟩, _⟩ := hq; exact hf) (by decide) hp [0, 25] rfl rfl
set_option maxHeartbeats 1000000 in
set_option maxRecDepth 100000 in
theorem bt_undo_e1 (l : Launch) (hst : l.stackTraces = false) (D : va_G) (k : Nat → ClassId) (h : Nat) (B : Bd) (S : List Bd) (K : Nat → Option Bd) (T : List Int) (xs : va_W) (hx : isX k h (B, S, K, T) xs) (hS : S = []) : ∀ sz, vx_Met l yX6_undo (zW yX6_undo cX6_undo 1 (some .int)) zRB (va_Pc [.ref h] (zInT D k sz xs)) (va_Qi (fun (_ : Int32) (_ : Unit) => False) (fun (_ : Unit) (_ : State) => True) (va_A xs sz)) (zXC D zIS xs (va_A xs sz)) 10 110 (va_A xs sz) := by
  obtain ⟨b, a, n, g, sf, slf, f, hp, hr⟩ := hx
  obtain ⟨r1, r2, r3, r4, r5, r6, r7, r8, r9, r10⟩ := id hr
  have r3 : n 1 = (S.length : Int) := r3
  exact zBundleX (Qc := fun A => va_Qi (fun (_ : Int32) (_ : Unit) => False) (fun (_ : Unit) (_ : State) => True) A) (Qc' := fun A => va_Qi (fun (_ : Int32) (_ : Unit) => False) (fun (_ : Unit) (_ : State) => True) A) (wc := [(h, .inr (6, [.ref (b.1 0), .ref (a 0), .ref (a 1), .ref (a 2), .ref (a 3), .ref (a 4), .ref (a 5)])), ((a 1), .inr (4, [.ref (a 6), .int (nZ (n 0)), .int (nZ (n 1))]))]) (fun sz => c_X6_undo_e1 l D k sz h (b.1 0) (a 0) (a 1) (a 2) (a 3) (a 4) (a 5) (a 6) (n 0) (n 1) (hst) (by rw [r3, hS]; rfl)) (fun A a s o t hq => by obtain ⟨⟨r, u, _, hf, _⟩, _⟩ := hq; exact hf) (by decide) hp [0, 10] rfl rfl
set_option maxHeartbeats 1000000 in
set_option maxRecDepth 100000 in
theorem bt_coin_e1 (l : Launch) (hst : l.stackTraces = false) (D : va_G) (k : Nat → ClassId) (h : Nat) (B : Bd) (S : List Bd) (K : Nat → Option Bd) (T : List Int) (xs : va_W) (hx : isX k h (B, S, K, T) xs) (x1 : Int) (x2 : Int) (hz1 : zR x1) (hz2 : zR x2) (h1 : x1 < 0 ∨ 2 < x1) : ∀ sz, vx_Met l yX6_coin (zW yX6_coin cX6_coin 3 (some .int)) zRB (va_Pc [.ref h, .int (nZ x1), .int (nZ x2)] (zInT D k sz xs)) (va_Qi (fun (_ : Int32) (_ : Unit) => False) (fun (_ : Unit) (_ : State) => True) (va_A xs sz)) (zXC D zIO xs (va_A xs sz)) 10 110 (va_A xs sz) := by
  obtain ⟨b, a, n, g, sf, slf, f, hp, hr⟩ := hx
  obtain ⟨r1, r2, r3, r4, r5, r6, r7, r8, r9, r10⟩ := id hr
  have r3 : n 1 = (S.length : Int) := r3
  exact zBundleX (Qc := fun A => va_Qi (fun (_ : Int32) (_ : Unit) => False) (fun (_ : Unit) (_ : State) => True) A) (Qc' := fun A => va_Qi (fun (_ : Int32) (_ : Unit) => False) (fun (_ : Unit) (_ : State) => True) A) (wc := [(h, .inr (6, [.ref (b.1 0), .ref (a 0), .ref (a 1), .ref (a 2), .ref (a 3), .ref (a 4), .ref (a 5)]))]) (fun sz => c_X6_coin_e1 l D k sz h (b.1 0) (a 0) (a 1) (a 2) (a 3) (a 4) (a 5) x1 x2 (hst) (hz1) (hz2) (h1)) (fun A a s o t hq => by obtain ⟨⟨r, u, _, hf, _⟩, _⟩ := hq; exact hf) (by decide) hp [0] rfl rfl
set_option maxHeartbeats 1000000 in
set_option maxRecDepth 100000 in
theorem bt_coin_e2 (l : Launch) (hst : l.stackTraces = false) (D : va_G) (k : Nat → ClassId) (h : Nat) (B : Bd) (S : List Bd) (K : Nat → Option Bd) (T : List Int) (xs : va_W) (hx : isX k h (B, S, K, T) xs) (x1 : Int) (x2 : Int) (hz1 : zR x1) (hz2 : zR x2) (h1 : 0 ≤ x1 ∧ x1 ≤ 2) (h2 : x2 < 0) : ∀ sz, vx_Met l yX6_coin (zW yX6_coin cX6_coin 3 (some .int)) zRB (va_Pc [.ref h, .int (nZ x1), .int (nZ x2)] (zInT D k sz xs)) (va_Qi (fun (_ : Int32) (_ : Unit) => False) (fun (_ : Unit) (_ : State) => True) (va_A xs sz)) (zXC D zIA xs (va_A xs sz)) 10 110 (va_A xs sz) := by
  obtain ⟨b, a, n, g, sf, slf, f, hp, hr⟩ := hx
  obtain ⟨r1, r2, r3, r4, r5, r6, r7, r8, r9, r10⟩ := id hr
  have r3 : n 1 = (S.length : Int) := r3
  exact zBundleX (Qc := fun A => va_Qi (fun (_ : Int32) (_ : Unit) => False) (fun (_ : Unit) (_ : State) => True) A) (Qc' := fun A => va_Qi (fun (_ : Int32) (_ : Unit) => False) (fun (_ : Unit) (_ : State) => True) A) (wc := [(h, .inr (6, [.ref (b.1 0), .ref (a 0), .ref (a 1), .ref (a 2), .ref (a 3), .ref (a 4), .ref (a 5)]))]) (fun sz => c_X6_coin_e2 l D k sz h (b.1 0) (a 0) (a 1) (a 2) (a 3) (a 4) (a 5) x1 x2 (hst) (hz1) (hz2) (h1) (h2)) (fun A a s o t hq => by obtain ⟨⟨r, u, _, hf, _⟩, _⟩ := hq; exact hf) (by decide) hp [0] rfl rfl
set_option maxHeartbeats 1000000 in
set_option maxRecDepth 100000 in
theorem bt_bedOf_e1 (l : Launch) (hst : l.stackTraces = false) (D : va_G) (k : Nat → ClassId) (h : Nat) (B : Bd) (S : List Bd) (K : Nat → Option Bd) (T : List Int) (xs : va_W) (hx : isX k h (B, S, K, T) xs) (x1 : Int) (x2 : Int) (hz1 : zR x1) (hz2 : zR x2) (h1 : x1 < 0 ∨ 8 < x1) : ∀ sz, vx_Met l yX6_bedOf (zW yX6_bedOf cX6_bedOf 4 (some .int)) zRB (va_Pc [.ref h, .int (nZ x1), .int (nZ x2)] (zInT D k sz xs)) (va_Qi (fun (_ : Int32) (_ : Unit) => False) (fun (_ : Unit) (_ : State) => True) (va_A xs sz)) (zXC D zIO xs (va_A xs sz)) 10 110 (va_A xs sz) := by
  obtain ⟨b, a, n, g, sf, slf, f, hp, hr⟩ := hx
  obtain ⟨r1, r2, r3, r4, r5, r6, r7, r8, r9, r10⟩ := id hr
  have r3 : n 1 = (S.length : Int) := r3
  exact zBundleX (Qc := fun A => va_Qi (fun (_ : Int32) (_ : Unit) => False) (fun (_ : Unit) (_ : State) => True) A) (Qc' := fun A => va_Qi (fun (_ : Int32) (_ : Unit) => False) (fun (_ : Unit) (_ : State) => True) A) (wc := [(h, .inr (6, [.ref (b.1 0), .ref (a 0), .ref (a 1), .ref (a 2), .ref (a 3), .ref (a 4), .ref (a 5)]))]) (fun sz => c_X6_bedOf_e1 l D k sz h (b.1 0) (a 0) (a 1) (a 2) (a 3) (a 4) (a 5) x1 x2 (hst) (hz1) (hz2) (h1)) (fun A a s o t hq => by obtain ⟨⟨r, u, _, hf, _⟩, _⟩ := hq; exact hf) (by decide) hp [0] rfl rfl
set_option maxHeartbeats 1000000 in
set_option maxRecDepth 100000 in
theorem bt_bedOf_e2 (l : Launch) (hst : l.stackTraces = false) (D : va_G) (k : Nat → ClassId) (h : Nat) (B : Bd) (S : List Bd) (K : Nat → Option Bd) (T : List Int) (xs : va_W) (hx : isX k h (B, S, K, T) xs) (x1 : Int) (x2 : Int) (hz1 : zR x1) (hz2 : zR x2) (h1 : 0 ≤ x1 ∧ x1 ≤ 8) (h2 : x2 < 0 ∨ 4 < x2) : ∀ sz, vx_Met l yX6_bedOf (zW yX6_bedOf cX6_bedOf 4 (some .int)) zRB (va_Pc [.ref h, .int (nZ x1), .int (nZ x2)] (zInT D k sz xs)) (va_Qi (fun (_ : Int32) (_ : Unit) => False) (fun (_ : Unit) (_ : State) => True) (va_A xs sz)) (zXC D zIA xs (va_A xs sz)) 10 110 (va_A xs sz) := by
  obtain ⟨b, a, n, g, sf, slf, f, hp, hr⟩ := hx
  obtain ⟨r1, r2, r3, r4, r5, r6, r7, r8, r9, r10⟩ := id hr
  have r3 : n 1 = (S.length : Int) := r3
  exact zBundleX (Qc := fun A => va_Qi (fun (_ : Int32) (_ : Unit) => False) (fun (_ : Unit) (_ : State) => True) A) (Qc' := fun A => va_Qi (fun (_ : Int32) (_ : Unit) => False) (fun (_ : Unit) (_ : State) => True) A) (wc := [(h, .inr (6, [.ref (b.1 0), .ref (a 0), .ref (a 1), .ref (a 2), .ref (a 3), .ref (a 4), .ref (a 5)]))]) (fun sz => c_X6_bedOf_e2 l D k sz h (b.1 0) (a 0) (a 1) (a 2) (a 3) (a 4) (a 5) x1 x2 (hst) (hz1) (hz2) (h1) (h2)) (fun A a s o t hq => by obtain ⟨⟨r, u, _, hf, _⟩, _⟩ := hq; exact hf) (by decide) hp [0] rfl rfl
set_option maxHeartbeats 1000000 in
set_option maxRecDepth 100000 in
theorem bt_count_e1 (l : Launch) (hst : l.stackTraces = false) (D : va_G) (k : Nat → ClassId) (h : Nat) (B : Bd) (S : List Bd) (K : Nat → Option Bd) (T : List Int) (xs : va_W) (hx : isX k h (B, S, K, T) xs) (x1 : Int) (hz1 : zR x1) (h1 : x1 < 0 ∨ 12 < x1) : ∀ sz, vx_Met l yX6_count (zW yX6_count cX6_count 2 (some .int)) zRB (va_Pc [.ref h, .int (nZ x1)] (zInT D k sz xs)) (va_Qi (fun (_ : Int32) (_ : Unit) => False) (fun (_ : Unit) (_ : State) => True) (va_A xs sz)) (zXC D zIA xs (va_A xs sz)) 10 110 (va_A xs sz) := by
  obtain ⟨b, a, n, g, sf, slf, f, hp, hr⟩ := hx
  obtain ⟨r1, r2, r3, r4, r5, r6, r7, r8, r9, r10⟩ := id hr
  have r3 : n 1 = (S.length : Int) := r3
  exact zBundleX (Qc := fun A => va_Qi (fun (_ : Int32) (_ : Unit) => False) (fun (_ : Unit) (_ : State) => True) A) (Qc' := fun A => va_Qi (fun (_ : Int32) (_ : Unit) => False) (fun (_ : Unit) (_ : State) => True) A) (wc := [(h, .inr (6, [.ref (b.1 0), .ref (a 0), .ref (a 1), .ref (a 2), .ref (a 3), .ref (a 4), .ref (a 5)]))]) (fun sz => c_X6_count_e1 l D k sz h (b.1 0) (a 0) (a 1) (a 2) (a 3) (a 4) (a 5) x1 (hst) (hz1) (h1)) (fun A a s o t hq => by obtain ⟨⟨r, u, _, hf, _⟩, _⟩ := hq; exact hf) (by decide) hp [0] rfl rfl
set_option maxHeartbeats 1000000 in
set_option maxRecDepth 100000 in
theorem bt_ends_e1 (l : Launch) (hst : l.stackTraces = false) (D : va_G) (k : Nat → ClassId) (h : Nat) (B : Bd) (S : List Bd) (K : Nat → Option Bd) (T : List Int) (xs : va_W) (hx : isX k h (B, S, K, T) xs) (x1 : Int) (x2 : Int) (x3 : Int) (hz1 : zR x1) (hz2 : zR x2) (hz3 : zR x3) (h1 : x1 < 0 ∨ 2 < x1) : ∀ sz, vx_Met l yX6_ends (zW yX6_ends cX6_ends 4 (some .int)) zRB (va_Pc [.ref h, .int (nZ x1), .int (nZ x2), .int (nZ x3)] (zInT D k sz xs)) (va_Qi (fun (_ : Int32) (_ : Unit) => False) (fun (_ : Unit) (_ : State) => True) (va_A xs sz)) (zXC D zIO xs (va_A xs sz)) 10 110 (va_A xs sz) := by
  obtain ⟨b, a, n, g, sf, slf, f, hp, hr⟩ := hx
  obtain ⟨r1, r2, r3, r4, r5, r6, r7, r8, r9, r10⟩ := id hr
  have r3 : n 1 = (S.length : Int) := r3
  exact zBundleX (Qc := fun A => va_Qi (fun (_ : Int32) (_ : Unit) => False) (fun (_ : Unit) (_ : State) => True) A) (Qc' := fun A => va_Qi (fun (_ : Int32) (_ : Unit) => False) (fun (_ : Unit) (_ : State) => True) A) (wc := [(h, .inr (6, [.ref (b.1 0), .ref (a 0), .ref (a 1), .ref (a 2), .ref (a 3), .ref (a 4), .ref (a 5)]))]) (fun sz => c_X6_ends_e1 l D k sz h (b.1 0) (a 0) (a 1) (a 2) (a 3) (a 4) (a 5) x1 x2 x3 (hst) (hz1) (hz2) (h1)) (fun A a s o t hq => by obtain ⟨⟨r, u, _, hf, _⟩, _⟩ := hq; exact hf) (by decide) hp [0] rfl rfl
set_option maxHeartbeats 1000000 in
set_option maxRecDepth 100000 in
theorem bt_ends_e2s (l : Launch) (hst : l.stackTraces = false) (D : va_G) (k : Nat → ClassId) (h : Nat) (B : Bd) (S : List Bd) (K : Nat → Option Bd) (T : List Int) (xs : va_W) (hx : isX k h (B, S, K, T) xs) (x1 : Int) (x2 : Int) (x3 : Int) (hz1 : zR x1) (hz2 : zR x2) (hz3 : zR x3) (h1 : 0 ≤ x1 ∧ x1 ≤ 2) (h2 : x2 < 1 ∨ 150 < x2) : ∀ sz, vx_Met l yX6_ends (zW yX6_ends cX6_ends 4 (some .int)) zRB (va_Pc [.ref h, .int (nZ x1), .int (nZ x2), .int (nZ x3)] (zInT D k sz xs)) (va_Qi (fun (_ : Int32) (_ : Unit) => False) (fun (_ : Unit) (_ : State) => True) (va_A xs sz)) (zXC D zIA xs (va_A xs sz)) 10 110 (va_A xs sz) := by
  obtain ⟨b, a, n, g, sf, slf, f, hp, hr⟩ := hx
  obtain ⟨r1, r2, r3, r4, r5, r6, r7, r8, r9, r10⟩ := id hr
  have r3 : n 1 = (S.length : Int) := r3
  exact zBundleX (Qc := fun A => va_Qi (fun (_ : Int32) (_ : Unit) => False) (fun (_ : Unit) (_ : State) => True) A) (Qc' := fun A => va_Qi (fun (_ : Int32) (_ : Unit) => False) (fun (_ : Unit) (_ : State) => True) A) (wc := [(h, .inr (6, [.ref (b.1 0), .ref (a 0), .ref (a 1), .ref (a 2), .ref (a 3), .ref (a 4), .ref (a 5)]))]) (fun sz => c_X6_ends_e2s l D k sz h (b.1 0) (a 0) (a 1) (a 2) (a 3) (a 4) (a 5) x1 x2 x3 (hst) (hz1) (hz2) (h1) (h2)) (fun A a s o t hq => by obtain ⟨⟨r, u, _, hf, _⟩, _⟩ := hq; exact hf) (by decide) hp [0] rfl rfl
set_option maxHeartbeats 1000000 in
set_option maxRecDepth 100000 in
theorem bt_ends_e2w (l : Launch) (hst : l.stackTraces = false) (D : va_G) (k : Nat → ClassId) (h : Nat) (B : Bd) (S : List Bd) (K : Nat → Option Bd) (T : List Int) (xs : va_W) (hx : isX k h (B, S, K, T) xs) (x1 : Int) (x2 : Int) (x3 : Int) (hz1 : zR x1) (hz2 : zR x2) (hz3 : zR x3) (h1 : 0 ≤ x1 ∧ x1 ≤ 2) (h2 : 1 ≤ x2 ∧ x2 ≤ 150) (h3 : x3 < 0 ∨ 1 < x3) : ∀ sz, vx_Met l yX6_ends (zW yX6_ends cX6_ends 4 (some .int)) zRB (va_Pc [.ref h, .int (nZ x1), .int (nZ x2), .int (nZ x3)] (zInT D k sz xs)) (va_Qi (fun (_ : Int32) (_ : Unit) => False) (fun (_ : Unit) (_ : State) => True) (va_A xs sz)) (zXC D zIA xs (va_A xs sz)) 10 110 (va_A xs sz) := by
  obtain ⟨b, a, n, g, sf, slf, f, hp, hr⟩ := hx
  obtain ⟨r1, r2, r3, r4, r5, r6, r7, r8, r9, r10⟩ := id hr
  have r3 : n 1 = (S.length : Int) := r3
  exact zBundleX (Qc := fun A => va_Qi (fun (_ : Int32) (_ : Unit) => False) (fun (_ : Unit) (_ : State) => True) A) (Qc' := fun A => va_Qi (fun (_ : Int32) (_ : Unit) => False) (fun (_ : Unit) (_ : State) => True) A) (wc := [(h, .inr (6, [.ref (b.1 0), .ref (a 0), .ref (a 1), .ref (a 2), .ref (a 3), .ref (a 4), .ref (a 5)]))]) (fun sz => c_X6_ends_e2w l D k sz h (b.1 0) (a 0) (a 1) (a 2) (a 3) (a 4) (a 5) x1 x2 x3 (hst) (hz1) (hz2) (hz3) (h1) (h2) (h3)) (fun A a s o t hq => by obtain ⟨⟨r, u, _, hf, _⟩, _⟩ := hq; exact hf) (by decide) hp [0] rfl rfl
set_option maxHeartbeats 1000000 in
set_option maxRecDepth 100000 in
theorem bt_ifPushed_e1 (l : Launch) (hst : l.stackTraces = false) (D : va_G) (k : Nat → ClassId) (h : Nat) (B : Bd) (S : List Bd) (K : Nat → Option Bd) (T : List Int) (xs : va_W) (hx : isX k h (B, S, K, T) xs) (x1 : Int) (x2 : Int) (hz1 : zR x1) (hz2 : zR x2) (h1 : x1 < 0 ∨ 2 < x1) : ∀ sz, vx_Met l yX6_ifPushed (zW yX6_ifPushed cX6_ifPushed 4 (some .int)) zRB (va_Pc [.ref h, .int (nZ x1), .int (nZ x2)] (zInT D k sz xs)) (va_Qi (fun (_ : Int32) (_ : Unit) => False) (fun (_ : Unit) (_ : State) => True) (va_A xs sz)) (zXC D zIO xs (va_A xs sz)) 10 110 (va_A xs sz) := by
  obtain ⟨b, a, n, g, sf, slf, f, hp, hr⟩ := hx
  obtain ⟨r1, r2, r3, r4, r5, r6, r7, r8, r9, r10⟩ := id hr
  have r3 : n 1 = (S.length : Int) := r3
  exact zBundleX (Qc := fun A => va_Qi (fun (_ : Int32) (_ : Unit) => False) (fun (_ : Unit) (_ : State) => True) A) (Qc' := fun A => va_Qi (fun (_ : Int32) (_ : Unit) => False) (fun (_ : Unit) (_ : State) => True) A) (wc := [(h, .inr (6, [.ref (b.1 0), .ref (a 0), .ref (a 1), .ref (a 2), .ref (a 3), .ref (a 4), .ref (a 5)]))]) (fun sz => c_X6_ifPushed_e1 l D k sz h (b.1 0) (a 0) (a 1) (a 2) (a 3) (a 4) (a 5) x1 x2 (hst) (hz1) (hz2) (h1)) (fun A a s o t hq => by obtain ⟨⟨r, u, _, hf, _⟩, _⟩ := hq; exact hf) (by decide) hp [0] rfl rfl
set_option maxHeartbeats 1000000 in
set_option maxRecDepth 100000 in
theorem bt_ifPushed_e2 (l : Launch) (hst : l.stackTraces = false) (D : va_G) (k : Nat → ClassId) (h : Nat) (B : Bd) (S : List Bd) (K : Nat → Option Bd) (T : List Int) (xs : va_W) (hx : isX k h (B, S, K, T) xs) (x1 : Int) (x2 : Int) (hz1 : zR x1) (hz2 : zR x2) (h1 : 0 ≤ x1 ∧ x1 ≤ 2) (h2 : x2 < 1 ∨ 150 < x2) : ∀ sz, vx_Met l yX6_ifPushed (zW yX6_ifPushed cX6_ifPushed 4 (some .int)) zRB (va_Pc [.ref h, .int (nZ x1), .int (nZ x2)] (zInT D k sz xs)) (va_Qi (fun (_ : Int32) (_ : Unit) => False) (fun (_ : Unit) (_ : State) => True) (va_A xs sz)) (zXC D zIA xs (va_A xs sz)) 10 110 (va_A xs sz) := by
  obtain ⟨b, a, n, g, sf, slf, f, hp, hr⟩ := hx
  obtain ⟨r1, r2, r3, r4, r5, r6, r7, r8, r9, r10⟩ := id hr
  have r3 : n 1 = (S.length : Int) := r3
  exact zBundleX (Qc := fun A => va_Qi (fun (_ : Int32) (_ : Unit) => False) (fun (_ : Unit) (_ : State) => True) A) (Qc' := fun A => va_Qi (fun (_ : Int32) (_ : Unit) => False) (fun (_ : Unit) (_ : State) => True) A) (wc := [(h, .inr (6, [.ref (b.1 0), .ref (a 0), .ref (a 1), .ref (a 2), .ref (a 3), .ref (a 4), .ref (a 5)]))]) (fun sz => c_X6_ifPushed_e2 l D k sz h (b.1 0) (a 0) (a 1) (a 2) (a 3) (a 4) (a 5) x1 x2 (hst) (hz1) (hz2) (h1) (h2)) (fun A a s o t hq => by obtain ⟨⟨r, u, _, hf, _⟩, _⟩ := hq; exact hf) (by decide) hp [0] rfl rfl
set_option maxHeartbeats 1000000 in
set_option maxRecDepth 100000 in
theorem bt_strengthFor_e1a (l : Launch) (hst : l.stackTraces = false) (D : va_G) (k : Nat → ClassId) (h : Nat) (B : Bd) (S : List Bd) (K : Nat → Option Bd) (T : List Int) (xs : va_W) (hx : isX k h (B, S, K, T) xs) (x1 : Int) (x2 : Int) (hz1 : zR x1) (hz2 : zR x2) (h1 : x1 < 0 ∨ 2 < x1) : ∀ sz, vx_Met l yX6_strengthFor (zW yX6_strengthFor cX6_strengthFor 5 (some .int)) zRB (va_Pc [.ref h, .int (nZ x1), .int (nZ x2)] (zInT D k sz xs)) (va_Qi (fun (_ : Int32) (_ : Unit) => False) (fun (_ : Unit) (_ : State) => True) (va_A xs sz)) (zXC D zIO xs (va_A xs sz)) 10 110 (va_A xs sz) := by
  obtain ⟨b, a, n, g, sf, slf, f, hp, hr⟩ := hx
  obtain ⟨r1, r2, r3, r4, r5, r6, r7, r8, r9, r10⟩ := id hr
  have r3 : n 1 = (S.length : Int) := r3
  exact zBundleX (Qc := fun A => va_Qi (fun (_ : Int32) (_ : Unit) => False) (fun (_ : Unit) (_ : State) => True) A) (Qc' := fun A => va_Qi (fun (_ : Int32) (_ : Unit) => False) (fun (_ : Unit) (_ : State) => True) A) (wc := [(h, .inr (6, [.ref (b.1 0), .ref (a 0), .ref (a 1), .ref (a 2), .ref (a 3), .ref (a 4), .ref (a 5)]))]) (fun sz => c_X6_strengthFor_e1a l D k sz h (b.1 0) (a 0) (a 1) (a 2) (a 3) (a 4) (a 5) x1 x2 (hst) (hz1) (hz2) (h1)) (fun A a s o t hq => by obtain ⟨⟨r, u, _, hf, _⟩, _⟩ := hq; exact hf) (by decide) hp [0] rfl rfl
set_option maxHeartbeats 1000000 in
set_option maxRecDepth 100000 in
theorem bt_strengthFor_e1b (l : Launch) (hst : l.stackTraces = false) (D : va_G) (k : Nat → ClassId) (h : Nat) (B : Bd) (S : List Bd) (K : Nat → Option Bd) (T : List Int) (xs : va_W) (hx : isX k h (B, S, K, T) xs) (x1 : Int) (x2 : Int) (hz1 : zR x1) (hz2 : zR x2) (h1 : 0 ≤ x1 ∧ x1 ≤ 2) (h2 : x2 < 0 ∨ 8 < x2) : ∀ sz, vx_Met l yX6_strengthFor (zW yX6_strengthFor cX6_strengthFor 5 (some .int)) zRB (va_Pc [.ref h, .int (nZ x1), .int (nZ x2)] (zInT D k sz xs)) (va_Qi (fun (_ : Int32) (_ : Unit) => False) (fun (_ : Unit) (_ : State) => True) (va_A xs sz)) (zXC D zIO xs (va_A xs sz)) 10 110 (va_A xs sz) := by
  obtain ⟨b, a, n, g, sf, slf, f, hp, hr⟩ := hx
  obtain ⟨r1, r2, r3, r4, r5, r6, r7, r8, r9, r10⟩ := id hr
  have r3 : n 1 = (S.length : Int) := r3
  exact zBundleX (Qc := fun A => va_Qi (fun (_ : Int32) (_ : Unit) => False) (fun (_ : Unit) (_ : State) => True) A) (Qc' := fun A => va_Qi (fun (_ : Int32) (_ : Unit) => False) (fun (_ : Unit) (_ : State) => True) A) (wc := [(h, .inr (6, [.ref (b.1 0), .ref (a 0), .ref (a 1), .ref (a 2), .ref (a 3), .ref (a 4), .ref (a 5)]))]) (fun sz => c_X6_strengthFor_e1b l D k sz h (b.1 0) (a 0) (a 1) (a 2) (a 3) (a 4) (a 5) x1 x2 (hst) (hz1) (hz2) (h1) (h2)) (fun A a s o t hq => by obtain ⟨⟨r, u, _, hf, _⟩, _⟩ := hq; exact hf) (by decide) hp [0] rfl rfl
