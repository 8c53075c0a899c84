/-! what stays good -/
theorem goS_chain {cost : Int} : ∀ {p lf : Int} {cs : List Int}, 0 ≤ cost → 0 < lf → -5 ≤ p → p ≤ 99 → chainS p cs → ∀ x : Int, x + 5 ≤ p → chainS x (dropS (goS cost p lf cs).1 (goS cost p lf cs).2.1)
  | p, lf, [], _, h0, h1, h2, _, x, hx => by
    simp only [goS]
    unfold dropS
    by_cases e : 100 ≤ min (p + lf) 100
    · rw [if_pos e]
      trivial
    · rw [if_neg e]
      exact ⟨by omega, by omega, trivial⟩
  | p, lf, c :: cs, hc, h0, h1, h2, h, x, hx => by
    obtain ⟨a1, a2, a3⟩ := h
    simp only [goS]
    by_cases e1 : lf ≤ c - 5 - p
    · rw [if_pos e1]
      dsimp only
      unfold dropS
      rw [if_neg (by omega)]
      exact ⟨by omega, by omega, by omega, a2, a3⟩
    · rw [if_neg e1]
      by_cases e2 : lf - (c - 5 - p) - cost ≤ 0
      · rw [if_pos e2]
        dsimp only
        unfold dropS
        rw [if_neg (by omega)]
        exact ⟨by omega, by omega, by omega, a2, a3⟩
      · rw [if_neg e2]
        dsimp only
        rw [dropS_cons (goS_ne _ _ _ _)]
        exact ⟨by omega, by omega, goS_chain hc (by omega) (by omega) (by omega) a3 (c - 5) (by omega)⟩
theorem restL_chain {cost st : Int} {L : List Int} (hL : chainS (-5) L) (hc : 0 ≤ cost) (hst : 1 ≤ st) : chainS (-5) (restL cost st L) := by
  have h := goS_chain (lf := st) hc (by omega) (by omega) (by omega) hL (-10) (by omega)
  unfold restL restS
  by_cases e : backS (goS cost (-5) st L).1 (goS cost (-5) st L).2.1
  · rw [if_pos e]
    obtain ⟨e1, e2⟩ := e
    revert h e1 e2
    generalize dropS (goS cost (-5) st L).1 (goS cost (-5) st L).2.1 = D
    intro h e1 e2
    cases D with
    | nil => trivial
    | cons d ds =>
      rw [List.getD_cons_zero] at e2
      exact chain_le h.2.2 (by have := h.1; omega)
  · rw [if_neg e]
    unfold backS at e
    revert h e
    generalize dropS (goS cost (-5) st L).1 (goS cost (-5) st L).2.1 = D
    intro h e
    cases D with
    | nil => trivial
    | cons d ds =>
      rw [List.getD_cons_zero] at e
      simp only [List.length_cons] at e
      exact ⟨by omega, h.2.1, h.2.2⟩
theorem closeB_ch (B : Bd) : chB (closeB B) = closeCh (chB B) (B.1 1) (cleanB B) := by
  funext i
  show (if 9 + i = 1 then _ else if 9 + i = 2 then _ else if 9 + i = 3 then _ else if 9 + i = 4 then _ else if 9 + i < 9 then _ else closeCh (chB B) (B.1 1) (cleanB B) (9 + i - 9)) = _
  rw [if_neg (by omega), if_neg (by omega), if_neg (by omega), if_neg (by omega), if_neg (by omega), show 9 + i - 9 = i by omega]
theorem winR_rng (ch : Nat → Int) {pl : Int} (hp : 0 ≤ pl ∧ pl ≤ 1) : 0 ≤ winR ch pl ∧ winR ch pl ≤ 2 := by
  unfold winR
  split
  · omega
  · split <;> omega
theorem cleanB_pos (B : Bd) (b : Int) : 0 ≤ cleanB B b := by
  unfold cleanB
  have h0 := cleanS_rng b (B.2 0)
  have h1 := cleanS_rng b (B.2 1)
  have h2 := cleanS_rng b (B.2 2)
  omega
theorem close_good {B : Bd} (h0 : 0 ≤ B.1 0 ∧ B.1 0 ≤ 20) (h1 : 0 ≤ B.1 1 ∧ B.1 1 ≤ 1) (hc : chOk (chB B)) : bdGood (closeB B) := by
  have hw := winR_rng (closeCh (chB B) (B.1 1) (cleanB B)) h1
  refine ⟨h0, ?_, ⟨Int.le_refl _, by show (0 : Int) ≤ 4; decide⟩, hw, ?_, trivial, trivial, trivial⟩
  · show 0 ≤ (if winR (closeCh (chB B) (B.1 1) (cleanB B)) (B.1 1) = 0 then 1 - B.1 1 else B.1 1) ∧ (if winR (closeCh (chB B) (B.1 1) (cleanB B)) (B.1 1) = 0 then 1 - B.1 1 else B.1 1) ≤ 1
    split <;> omega
  · rw [closeB_ch]
    exact closeCh_ok hc h1 (fun b => cleanB_pos B b)
theorem refuse_good {B : Bd} (h : bdGood B) : bdGood (refuseB B) := by
  obtain ⟨h0, h1, h2, h3, h4, h5, h6, h7⟩ := h
  refine ⟨h0, h1, h2, h3, fun i hi => ?_, h5, h6, h7⟩
  show 0 ≤ zU B.1 8 _ (9 + i) ∧ zU B.1 8 _ (9 + i) ≤ 3
  rw [zU_ne _ _ (by omega)]
  exact h4 i hi
theorem push_good {B : Bd} (h : bdGood B) {j : Nat} (hj : j < 3) {st : Int} (hst : 1 ≤ st ∧ st ≤ 150) : bdGood (pushF B j st) := by
  have hB := h
  obtain ⟨h0, h1, h2, h3, h4, h5, h6, h7⟩ := h
  unfold pushF
  split
  · unfold pushB
    have hch : chOk (chB (push1 B j st)) := by rw [push1_ch]; exact h4
    split
    · exact close_good h0 h1 hch
    · rename_i e
      have hc : ∀ i : Nat, i < 3 → chainS (-5) ((push1 B j st).2 i) := fun i hi => by
        show chainS (-5) (zU B.2 j (restL (B.1 0) st (B.2 j)) i)
        by_cases q : i = j
        · subst q
          rw [zU_same]
          exact restL_chain (good_ch hB hj) h0.1 hst.1
        · rw [zU_ne _ _ q]
          exact good_ch hB hi
      exact ⟨h0, h1, ⟨by show 0 ≤ B.1 2 + 1; omega, by show B.1 2 + 1 ≤ 4; omega⟩, h3, hch, hc 0 (by omega), hc 1 (by omega), hc 2 (by omega)⟩
  · exact refuse_good hB
theorem end_good {B : Bd} (h : bdGood B) : bdGood (endF B) := by
  unfold endF
  split
  · exact close_good h.1 h.2.1 h.2.2.2.2.1
  · exact refuse_good h
theorem begin_good {B : Bd} (h : bdGood B) : bdGood (beginB B) := by
  refine ⟨h.1, ⟨Int.le_refl _, by show (0 : Int) ≤ 1; decide⟩, ⟨Int.le_refl _, by show (0 : Int) ≤ 4; decide⟩, ⟨Int.le_refl _, by show (0 : Int) ≤ 2; decide⟩, fun i hi => ?_, trivial, trivial, trivial⟩
  have e : chB (beginB B) i = 0 := by
    show (if 9 + i = 1 then (0 : Int) else if 9 + i = 2 then 0 else if 9 + i = 3 then 0 else if 9 + i = 4 then 0 else if 9 + i < 9 then B.1 (9 + i) else 0) = 0
    rw [if_neg (by omega), if_neg (by omega), if_neg (by omega), if_neg (by omega), if_neg (by omega)]
  rw [e]
  omega
theorem set_good {B : Bd} (h : bdGood B) {v : Int} (hv : 0 ≤ v ∧ v ≤ 20) : bdGood (setB B v) := by
  obtain ⟨h0, h1, h2, h3, h4, h5, h6, h7⟩ := h
  refine ⟨hv, h1, h2, h3, fun i hi => ?_, h5, h6, h7⟩
  show 0 ≤ zU B.1 0 v (9 + i) ∧ zU B.1 0 v (9 + i) ≤ 3
  rw [zU_ne _ _ (by omega)]
  exact h4 i hi
theorem lay_good {B : Bd} (h : bdGood B) {T : List Int} (hL : ∀ Ls : Nat → List Int, putS 0 0 0 (fun _ => []) T = some Ls → ∀ j : Nat, j < 3 → chainS (-5) (Ls j)) : bdGood (layF B T) := by
  unfold layF
  cases e : putS 0 0 0 (fun _ => []) T with
  | none => exact refuse_good h
  | some Ls =>
    have := hL Ls e
    exact ⟨h.1, h.2.1, h.2.2.1, h.2.2.2.1, h.2.2.2.2.1, this 0 (by omega), this 1 (by omega), this 2 (by omega)⟩
theorem goodS.save {B B' : Bd} {S : List Bd} {K : Nat → Option Bd} {T T' : List Int} (h : goodS (B, S, K, T)) (h' : bdGood B') : goodS (B', saveL S B, K, T') :=
  ⟨h', fun C hC => by
    rcases saveL_mem hC with q | q
    · exact h.2.1 C q
    · rw [q]
      exact h.1, h.2.2.1, by
    have h4 : S.length ≤ 6 := h.2.2.2
    show (saveL S B).length ≤ 6
    rw [saveL_len h4]
    split <;> omega⟩
theorem goodS.text {B : Bd} {S : List Bd} {K : Nat → Option Bd} {T T' : List Int} (h : goodS (B, S, K, T)) : goodS (B, S, K, T') := h
theorem goodS.keep {B : Bd} {S : List Bd} {K : Nat → Option Bd} {T : List Int} (h : goodS (B, S, K, T)) (x : Nat) : goodS (B, S, zU K x (some B), T) :=
  ⟨h.1, h.2.1, fun i C hi hs => by
    have hs : zU K x (some B) i = some C := hs
    by_cases e : i = x
    · subst e
      rw [zU_same] at hs
      cases hs
      exact h.1
    · rw [zU_ne _ _ e] at hs
      exact h.2.2.1 i C hi hs, h.2.2.2⟩
theorem goodS.undo {B C : Bd} {S : List Bd} {K : Nat → Option Bd} {T : List Int} (h : goodS (B, S, K, T)) (hC : C ∈ S) : goodS (C, S.dropLast, K, T) :=
  ⟨h.2.1 C hC, fun E hE => h.2.1 E ((List.dropLast_sublist S).subset hE), h.2.2.1, by
    have h4 : S.length ≤ 6 := h.2.2.2
    show S.dropLast.length ≤ 6
    rw [List.length_dropLast]
    omega⟩

