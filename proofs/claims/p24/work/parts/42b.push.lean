/-! a push: what it leaves -/
theorem goS_len (cost : Int) : ∀ (p lf : Int) (L : List Int), (goS cost p lf L).1.length = L.length + 1
  | p, lf, [] => by simp only [goS, List.length_cons]
  | p, lf, c :: cs => by
    simp only [goS]
    split
    · rfl
    · split
      · rfl
      · simp only [List.length_cons]
        rw [goS_len cost c _ cs]
theorem goS_nud (cost : Int) : ∀ (p lf : Int) (L : List Int), 0 ≤ (goS cost p lf L).2.2 ∧ (goS cost p lf L).2.2 ≤ L.length
  | p, lf, [] => by simp [goS]
  | p, lf, c :: cs => by
    simp only [goS]
    split
    · simp only [List.length_cons]
      omega
    · split
      · simp only [List.length_cons]
        omega
      · have := goS_nud cost c (lf - (c - 5 - p) - cost) cs
        simp only [List.length_cons]
        omega
theorem goS_mem (cost : Int) : ∀ (p lf : Int) (L : List Int), (goS cost p lf L).2.1 ∈ (goS cost p lf L).1
  | p, lf, [] => by simp [goS]
  | p, lf, c :: cs => by
    simp only [goS]
    split
    · simp
    · split
      · simp
      · exact List.mem_cons_of_mem _ (goS_mem cost c _ cs)
theorem goS_low {cost : Int} (hc : 0 ≤ cost) : ∀ {p lf : Int} {L : List Int}, chainS p L → 0 < lf → p < 100 → p ≤ (goS cost p lf L).2.1
  | p, lf, [], _, h0, h1 => by
    simp only [goS]
    omega
  | p, lf, c :: cs, h, h0, h1 => by
    obtain ⟨a1, a2, a3⟩ := h
    simp only [goS]
    split
    · simp only
      omega
    · split
      · simp only
        omega
      · rename_i q1 q2
        have := goS_low hc a3 (show 0 < lf - (c - 5 - p) - cost by omega) (by omega)
        simp only
        omega
theorem last_rng {cost st : Int} {L : List Int} (hL : chainS (-5) L) (hc : 0 ≤ cost) (hs : 1 ≤ st) : -5 ≤ lastL cost st L ∧ lastL cost st L ≤ 100 :=
  goS_rng hc hL (by omega) (by omega) (by omega)
theorem last_neg {cost st : Int} {L : List Int} (hL : chainS (-5) L) (hc : 0 ≤ cost) (hs : 1 ≤ st) (h : lastL cost st L < 0) : backS (goS cost (-5) st L).1 (lastL cost st L) := by
  unfold lastL at h ⊢
  unfold backS
  rw [dropS_b (by omega)]
  refine ⟨by rw [goS_len]; omega, ?_⟩
  cases L with
  | nil =>
    simp only [goS] at h ⊢
    simpa using h
  | cons c cs =>
    obtain ⟨a1, a2, a3⟩ := hL
    simp only [goS] at h ⊢
    by_cases e1 : st ≤ c - 5 - -5
    · rw [if_pos e1] at h ⊢
      simpa using h
    · rw [if_neg e1] at h ⊢
      by_cases e2 : st - (c - 5 - -5) - cost ≤ 0
      · rw [if_pos e2] at h ⊢
        simp only at h
        omega
      · rw [if_neg e2] at h ⊢
        have := goS_low hc a3 (show 0 < st - (c - 5 - -5) - cost by omega) (by omega)
        simp only at h
        omega
theorem last_mem {cost st : Int} {L : List Int} (h0 : 0 ≤ lastL cost st L) (h1 : lastL cost st L < 100) : lastL cost st L ∈ restL cost st L := by
  have hm := goS_mem cost (-5) st L
  unfold lastL at h0 h1 ⊢
  unfold restL restS backS
  rw [dropS_b h1]
  split
  · rename_i q
    obtain ⟨q1, q2⟩ := q
    revert hm q1 q2 h0
    generalize (goS cost (-5) st L).1 = ps
    generalize (goS cost (-5) st L).2.1 = la
    intro h0 hm q1 q2
    cases ps with
    | nil => exact hm
    | cons a as =>
      rw [List.getD_cons_zero] at q2
      rcases List.mem_cons.mp hm with e | e
      · omega
      · exact e
  · exact hm
theorem rest_len (cost st : Int) (L : List Int) : ((restL cost st L).length : Int) + (if 100 ≤ lastL cost st L then 1 else 0) + (if backS (goS cost (-5) st L).1 (lastL cost st L) then 1 else 0) = (L.length : Int) + 1 := by
  have hl := goS_len cost (-5) st L
  show ((restS (goS cost (-5) st L).1 (lastL cost st L)).length : Int) + _ + _ = _
  revert hl
  generalize (goS cost (-5) st L).1 = ps
  generalize lastL cost st L = la
  intro hl
  have hd : ((dropS ps la).length : Int) + (if 100 ≤ la then 1 else 0) = (L.length : Int) + 1 := by
    unfold dropS
    split
    · rw [List.length_dropLast]
      omega
    · omega
  unfold restS
  by_cases q : backS ps la
  · rw [if_pos q, if_pos q, List.length_tail]
    have := q.1
    omega
  · rw [if_neg q, if_neg q]
    omega
theorem push1_coins {B : Bd} {j : Nat} (hj : j < 3) (st : Int) : coinsB (push1 B j st) + ((push1 B j st).1 5 - B.1 5 + (push1 B j st).1 6 - B.1 6) = coinsB B + 1 := by
  have h := rest_len (B.1 0) st (B.2 j)
  have e5 : (push1 B j st).1 5 = B.1 5 + (if 100 ≤ lastL (B.1 0) st (B.2 j) then 1 else 0) := rfl
  have e6 : (push1 B j st).1 6 = B.1 6 + (if backS (goS (B.1 0) (-5) st (B.2 j)).1 (lastL (B.1 0) st (B.2 j)) then 1 else 0) := rfl
  rw [e5, e6]
  unfold coinsB
  show ((((zU B.2 j (restL (B.1 0) st (B.2 j)) 0).length : Int) + ((zU B.2 j (restL (B.1 0) st (B.2 j)) 1).length : Int)) + ((zU B.2 j (restL (B.1 0) st (B.2 j)) 2).length : Int)) + _ = _
  rcases (by omega : j = 0 ∨ j = 1 ∨ j = 2) with rfl | rfl | rfl
  · rw [zU_same, zU_ne _ _ (by omega), zU_ne _ _ (by omega)]
    omega
  · rw [zU_same, zU_ne _ _ (by omega), zU_ne _ _ (by omega)]
    omega
  · rw [zU_same, zU_ne _ _ (by omega), zU_ne _ _ (by omega)]
    omega
theorem push1_all (B : Bd) (j : Nat) (st : Int) : cleanAllB (push1 B j st) = cleanAllB (push0 B j st) := rfl
theorem push1_clean {B : Bd} {j : Nat} (hj : j < 3) (st bed : Int) : cleanB (push1 B j st) bed = cleanB B bed - cleanS bed (B.2 j) + cleanS bed (restL (B.1 0) st (B.2 j)) := push0_clean hj st bed
theorem push1_lead (B : Bd) (j : Nat) (st : Int) : leadG (push1 B j st) = leadG (push0 B j st) := by
  unfold leadG
  rw [push1_ch, push0_ch, push0_nums B j st (k := 1) (by omega)]
  rfl
theorem pushF_go {B : Bd} (h3 : B.1 3 = 0) (h2 : B.1 2 < 4) (j : Nat) (st : Int) : pushF B j st = push1 B j st := by
  unfold pushF pushB
  rw [if_pos h3, if_neg (by omega)]
theorem pushF_last {B : Bd} (h3 : B.1 3 = 0) (h2 : B.1 2 = 4) (j : Nat) (st : Int) : pushF B j st = closeB (push1 B j st) := by
  unfold pushF pushB
  rw [if_pos h3, if_pos (by omega)]
theorem pushF_over {B : Bd} (h3 : B.1 3 ≠ 0) (j : Nat) (st : Int) : pushF B j st = refuseB B := by
  unfold pushF
  rw [if_neg h3]
theorem nud_rng {B : Bd} (h : bdGood B) {j : Nat} (hj : j < 3) (st : Int) : 0 ≤ nudS (B.1 0) st (B.2 j) ∧ nudS (B.1 0) st (B.2 j) ≤ 20 := by
  have h1 := goS_nud (B.1 0) (-5) st (B.2 j)
  have h2 := chain_len (good_ch h hj)
  unfold nudS
  omega
/-- the place where a push ends, in its lane -/
theorem end_at {B : Bd} (h : bdGood B) {j : Nat} (hj : j < 3) {st e : Int} (hs : 1 ≤ st) (he : lastL (B.1 0) st (B.2 j) = e) : (-5 ≤ e ∧ e ≤ 100) ∧ (e < 0 ∨ e = 100 ∨ ∃ r : Nat, r < 20 ∧ placeAtS ((push1 B j st).2 j) (r : Int) = e) ∧ ((push1 B j st).1 5 = B.1 5 + (if e = 100 then 1 else 0)) ∧ (e < 0 → (push1 B j st).1 6 = B.1 6 + 1) := by
  have hr := last_rng (good_ch h hj) h.1.1 hs
  have hx : (push1 B j st).2 j = restL (B.1 0) st (B.2 j) := zU_same _ _ _
  subst he
  refine ⟨hr, ?_, ?_, fun hn => ?_⟩
  · by_cases h0 : lastL (B.1 0) st (B.2 j) < 0
    · exact Or.inl h0
    · by_cases h1 : lastL (B.1 0) st (B.2 j) = 100
      · exact Or.inr (Or.inl h1)
      · have hm := last_mem (cost := B.1 0) (st := st) (L := B.2 j) (by omega) (by omega)
        have hl := chain_len (restL_chain (st := st) (good_ch h hj) h.1.1 hs)
        obtain ⟨r, hr1, hr2⟩ := List.getElem_of_mem hm
        refine Or.inr (Or.inr ⟨r, by omega, ?_⟩)
        rw [hx, placeAtS_nat hr1]
        simp [List.getD, hr1, hr2]
  · show B.1 5 + (if 100 ≤ lastL (B.1 0) st (B.2 j) then 1 else 0) = _
    by_cases q : 100 ≤ lastL (B.1 0) st (B.2 j)
    · rw [if_pos q, if_pos (by omega)]
    · rw [if_neg q, if_neg (by omega)]
  · show B.1 6 + (if backS (goS (B.1 0) (-5) st (B.2 j)).1 (lastL (B.1 0) st (B.2 j)) then 1 else 0) = _
    rw [if_pos (last_neg (good_ch h hj) h.1.1 hs hn)]
/-! the least of some strengths -/
theorem firstS_spec (P : Nat → Bool) : ∀ (k i : Nat), (firstS P i k = -1 ∧ ∀ j, i ≤ j → j < i + k → P j = false) ∨ (∃ j : Nat, firstS P i k = (j : Int) ∧ i ≤ j ∧ j < i + k ∧ P j = true ∧ ∀ t, i ≤ t → t < j → P t = false)
  | 0, i => Or.inl ⟨rfl, fun j h1 h2 => absurd h2 (by omega)⟩
  | k + 1, i => by
    rw [firstS]
    by_cases h : P i = true
    · rw [if_pos h]
      exact Or.inr ⟨i, rfl, Nat.le_refl _, by omega, h, fun t h1 h2 => absurd h2 (by omega)⟩
    · rw [if_neg h]
      have hi : P i = false := by simpa using h
      rcases firstS_spec P k (i + 1) with ⟨e, q⟩ | ⟨j, e, q1, q2, q3, q4⟩
      · refine Or.inl ⟨e, fun j h1 h2 => ?_⟩
        by_cases c : j = i
        · rw [c]; exact hi
        · exact q j (by omega) (by omega)
      · refine Or.inr ⟨j, e, by omega, by omega, q3, fun t h1 h2 => ?_⟩
        by_cases c : t = i
        · rw [c]; exact hi
        · exact q4 t (by omega) h2
theorem str_spec {cost : Int} {L : List Int} {bed : Int} : (strS cost L bed = -1 ∧ ∀ v : Int, 1 ≤ v → v ≤ 150 → cleanS bed (restL cost v L) ≤ cleanS bed L) ∨ (1 ≤ strS cost L bed ∧ strS cost L bed ≤ 150 ∧ cleanS bed L < cleanS bed (restL cost (strS cost L bed) L) ∧ ∀ v : Int, 1 ≤ v → v < strS cost L bed → cleanS bed (restL cost v L) ≤ cleanS bed L) := by
  unfold strS
  rcases firstS_spec (fun st => decide (cleanS bed L < cleanS bed (restL cost (st : Nat) L))) 150 1 with ⟨e, q⟩ | ⟨j, e, q1, q2, q3, q4⟩
  · refine Or.inl ⟨e, fun v h1 h2 => ?_⟩
    obtain ⟨n, rfl⟩ := Int.eq_ofNat_of_zero_le (show 0 ≤ v by omega)
    have := q n (by omega) (by omega)
    have := of_decide_eq_false this
    omega
  · rw [e]
    refine Or.inr ⟨by omega, by omega, of_decide_eq_true q3, fun v h1 h2 => ?_⟩
    obtain ⟨n, rfl⟩ := Int.eq_ofNat_of_zero_le (show 0 ≤ v by omega)
    have := of_decide_eq_false (q4 n (by omega) (by omega))
    omega
/-! the best push -/
def codeP (c : Int) : Prop := 1 ≤ c ∧ c ≤ 2150 ∧ 1 ≤ c % 1000 ∧ c % 1000 ≤ 150
def bestG (F : Int → Int) (X b m : Int) : Prop := (b = -1 ∧ ∀ c, codeP c → ¬ c < X) ∨ (codeP b ∧ b < X ∧ m = F b ∧ ∀ c, codeP c → c < X → F c ≤ m ∧ (c < b → F c < m))
theorem bestG_step {F : Int → Int} {X b m : Int} (h : bestG F X b m) (hX : codeP X) : if b = -1 ∨ m < F X then bestG F (X + 1) X (F X) else bestG F (X + 1) b m := by
  rcases h with ⟨rfl, h⟩ | ⟨h1, h2, h3, h4⟩
  · rw [if_pos (Or.inl rfl)]
    refine Or.inr ⟨hX, by omega, rfl, fun c hc hl => ?_⟩
    have := h c hc
    have e : c = X := by omega
    subst e
    exact ⟨Int.le_refl _, fun q => by omega⟩
  · have hb : b ≠ -1 := by have := h1.1; omega
    by_cases q : m < F X
    · rw [if_pos (Or.inr q)]
      refine Or.inr ⟨hX, by omega, rfl, fun c hc hl => ?_⟩
      by_cases e : c = X
      · subst e
        exact ⟨Int.le_refl _, fun q => by omega⟩
      · have := (h4 c hc (by omega)).1
        exact ⟨by omega, fun _ => by omega⟩
    · rw [if_neg (fun q2 => q2.elim hb q)]
      refine Or.inr ⟨h1, by omega, h3, fun c hc hl => ?_⟩
      by_cases e : c = X
      · subst e
        exact ⟨by omega, fun q => by omega⟩
      · exact h4 c hc (by omega)
theorem bestIn_spec (F : Int → Int) (f : Nat → Int) (base : Int) (hb : base = 0 ∨ base = 1000 ∨ base = 2000) (hf : ∀ i : Nat, 1 ≤ i → i ≤ 150 → f i = F (base + (i : Int))) : ∀ (k i : Nat) (b m : Int), 1 ≤ i → i + k ≤ 151 → bestG F (base + (i : Int)) b m → bestG F (base + ((i + k : Nat) : Int)) (bestIn f base i k b m).1 (bestIn f base i k b m).2
  | 0, i, b, m, _, _, h => h
  | k + 1, i, b, m, h1, h2, h => by
    have hs := bestG_step h (show codeP (base + (i : Int)) from ⟨by omega, by omega, by omega, by omega⟩)
    have e : base + (i : Int) + 1 = base + ((i + 1 : Nat) : Int) := by omega
    have e2 : ((i + (k + 1) : Nat) : Int) = ((i + 1 + k : Nat) : Int) := by omega
    rw [bestIn, hf i h1 (by omega), e2]
    rw [e] at hs
    split
    · rename_i q
      rw [if_pos q] at hs
      exact bestIn_spec F f base hb hf k (i + 1) _ _ (by omega) (by omega) hs
    · rename_i q
      rw [if_neg q] at hs
      exact bestIn_spec F f base hb hf k (i + 1) _ _ (by omega) (by omega) hs
theorem bestG_skip {F : Int → Int} {X Y b m : Int} (h : bestG F X b m) (hXY : ∀ c, codeP c → (c < X ↔ c < Y)) : bestG F Y b m := by
  rcases h with ⟨rfl, h⟩ | ⟨h1, h2, h3, h4⟩
  · exact Or.inl ⟨rfl, fun c hc q => h c hc ((hXY c hc).mpr q)⟩
  · exact Or.inr ⟨h1, (hXY b h1).mp h2, h3, fun c hc q => h4 c hc ((hXY c hc).mpr q)⟩
def leadC (B : Bd) (c : Int) : Int := leadG (push0 B (c / 1000).toNat (c % 1000))
theorem leadC_at (B : Bd) {j i : Nat} (hj : j < 3) (h1 : 1 ≤ i) (h2 : i ≤ 150) : leadF B j i = leadC B ((1000 * (j : Int)) + (i : Int)) := by
  show leadG (push0 B j (i : Int)) = leadG (push0 B ((1000 * (j : Int) + (i : Int)) / 1000).toNat ((1000 * (j : Int) + (i : Int)) % 1000))
  rw [show ((1000 * (j : Int) + (i : Int)) / 1000).toNat = j by omega, show (1000 * (j : Int) + (i : Int)) % 1000 = (i : Int) by omega]
theorem best_spec (B : Bd) : codeP (bestB B) ∧ ∀ c, codeP c → leadC B c ≤ leadC B (bestB B) ∧ (c < bestB B → leadC B c < leadC B (bestB B)) := by
  have s0 : bestG (leadC B) (0 + ((1 : Nat) : Int)) (-1) 0 := Or.inl ⟨rfl, fun c hc q => by have := hc.1; omega⟩
  have s1 := bestIn_spec (leadC B) (leadF B 0) 0 (Or.inl rfl) (fun i h1 h2 => by rw [leadC_at B (by omega) h1 h2]; congr 1) 150 1 _ _ (by omega) (by omega) s0
  have s1b : bestG (leadC B) (1000 + ((1 : Nat) : Int)) (bestIn (leadF B 0) 0 1 150 (-1) 0).1 (bestIn (leadF B 0) 0 1 150 (-1) 0).2 := bestG_skip s1 (fun c hc => by obtain ⟨a1, a2, a3, a4⟩ := hc; omega)
  have s2 := bestIn_spec (leadC B) (leadF B 1) 1000 (Or.inr (Or.inl rfl)) (fun i h1 h2 => by rw [leadC_at B (by omega) h1 h2]; congr 1) 150 1 _ _ (by omega) (by omega) s1b
  have s2b := bestG_skip (Y := 2000 + ((1 : Nat) : Int)) s2 (fun c hc => by obtain ⟨a1, a2, a3, a4⟩ := hc; omega)
  have s3 := bestIn_spec (leadC B) (leadF B 2) 2000 (Or.inr (Or.inr rfl)) (fun i h1 h2 => by rw [leadC_at B (by omega) h1 h2]; congr 1) 150 1 _ _ (by omega) (by omega) s2b
  have s4 : bestG (leadC B) (2000 + ((1 + 150 : Nat) : Int)) (bestB B) _ := s3
  rcases s4 with ⟨_, h⟩ | ⟨h1, h2, h3, h4⟩
  · exact absurd (show (1 : Int) < 2000 + ((1 + 150 : Nat) : Int) by decide) (h 1 ⟨by decide, by decide, by decide, by decide⟩)
  · refine ⟨h1, fun c hc => ?_⟩
    rw [← h3]
    have := hc.2.1
    exact h4 c hc (by omega)
/-! the chalks of a turn's end -/
theorem close_sum {ch : Nat → Int} {pl : Int} (hp : 0 ≤ pl ∧ pl ≤ 1) (c : Int → Int) : chSum (closeCh ch pl c) 0 + chSum (closeCh ch pl c) 1 = chSum ch 0 + chSum ch 1 + madeR ch pl c 9 := by
  unfold chSum madeR
  rw [← sumTo_sum, ← sumTo_sum, ← sumTo_sum]
  refine sumTo_cong (fun i hi => ?_)
  have a0 : (0 * 9 + (i : Int)).toNat / 9 = 0 := by omega
  have a1 : (1 * 9 + (i : Int)).toNat / 9 = 1 := by omega
  have b0 : (0 * 9 + (i : Int)).toNat % 9 = i := by omega
  have b1 : (1 * 9 + (i : Int)).toNat % 9 = i := by omega
  unfold closeCh
  rw [a0, a1, b0, b1]
  rcases (by omega : pl = 0 ∨ pl = 1) with rfl | rfl
  · rw [if_pos (by decide), if_neg (by decide)]
    omega
  · rw [if_neg (by decide), if_pos (by decide)]
    omega
theorem close_made {B : Bd} (hp : 0 ≤ B.1 1 ∧ B.1 1 ≤ 1) : chSum (chB (closeB B)) 0 + chSum (chB (closeB B)) 1 = chSum (chB B) 0 + chSum (chB B) 1 + madeB B := by
  rw [closeB_ch]
  exact close_sum hp _
theorem made_rng {B : Bd} (h : bdGood B) : 0 ≤ madeB B ∧ madeB B ≤ 54 := by
  have := sumTo_rng (f := fun b => ownR (chB B) (B.1 1) b (cleanB B b) + othR (chB B) (B.1 1) b (cleanB B b)) (a := 0) (b := 6) (n := 9) (fun i hi => by
    have h1 := ownR_rng h.2.2.2.2.1 h.2.1 (bed := i) (by omega) (cleanB_pos B i)
    have h2 := othR_rng h.2.2.2.2.1 h.2.1 (bed := i) (by omega) (cleanB_pos B i)
    have h3 := h.2.2.2.2.1 (B.1 1 * 9 + (i : Int)).toNat (by have := h.2.1; omega)
    have h4 := h.2.2.2.2.1 ((1 - B.1 1) * 9 + (i : Int)).toNat (by have := h.2.1; omega)
    omega)
  unfold madeB madeR
  omega
