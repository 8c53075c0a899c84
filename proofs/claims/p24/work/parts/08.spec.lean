/-! what the class and its reference compute, in whole numbers and lists -/
/-- a lane's coins in an array: n of them, L -/
def laneOk (g : Nat → Int) (n : Int) (L : List Int) : Prop := n = (L.length : Int) ∧ L.length ≤ 21 ∧ ∀ i : Nat, i < L.length → g i = L.getD i 0 ∧ -5 ≤ g i ∧ g i ≤ 100
/-- the bed in which a coin at x lies clean, or -1 -/
def bedAtS (x : Int) : Int := if x - 8 < 0 ∨ 4 < (x - 8) % 10 then -1 else if (x - 8) / 10 < 9 then (x - 8) / 10 else -1
theorem bedAtS_rng (x : Int) : -1 ≤ bedAtS x ∧ bedAtS x ≤ 8 := by
  unfold bedAtS
  split
  · omega
  · split <;> omega
theorem bedAtS_iff {x bed : Int} (h0 : 0 ≤ bed) (h1 : bed < 9) : bedAtS x = bed ↔ 10 * bed + 8 ≤ x ∧ x ≤ 10 * bed + 12 := by
  unfold bedAtS
  split
  · omega
  · split <;> omega
/-- how many coins of a lane lie clean in a bed -/
def cleanS (bed : Int) (L : List Int) : Int := (L.countP (fun x => decide (bedAtS x = bed)) : Nat)
/-- how many lie clean at all -/
def cleanAllS (L : List Int) : Int := (L.countP (fun x => decide (bedAtS x ≠ -1)) : Nat)
theorem take_succ_getD (L : List Int) (i : Nat) (h : i < L.length) : L.take (i + 1) = L.take i ++ [L.getD i 0] := by
  rw [List.take_succ_eq_append_getElem h]
  simp [List.getD, h]
theorem cleanS_take (bed : Int) (L : List Int) (i : Nat) (h : i < L.length) : cleanS bed (L.take (i + 1)) = cleanS bed (L.take i) + (if bedAtS (L.getD i 0) = bed then 1 else 0) := by
  unfold cleanS
  rw [take_succ_getD L i h, List.countP_append, List.countP_singleton]
  split <;> simp_all
theorem cleanAllS_take (L : List Int) (i : Nat) (h : i < L.length) : cleanAllS (L.take (i + 1)) = cleanAllS (L.take i) + (if bedAtS (L.getD i 0) = -1 then 0 else 1) := by
  unfold cleanAllS
  rw [take_succ_getD L i h, List.countP_append, List.countP_singleton]
  split <;> simp_all
theorem cleanS_rng (bed : Int) (L : List Int) : 0 ≤ cleanS bed L ∧ cleanS bed L ≤ L.length := by
  unfold cleanS
  have := List.countP_le_length (p := fun x => decide (bedAtS x = bed)) (l := L)
  omega
theorem cleanAllS_rng (L : List Int) : 0 ≤ cleanAllS L ∧ cleanAllS L ≤ L.length := by
  unfold cleanAllS
  have := List.countP_le_length (p := fun x => decide (bedAtS x ≠ -1)) (l := L)
  omega
theorem laneOk.len {g : Nat → Int} {n : Int} {L : List Int} (h : laneOk g n L) : n = (L.length : Int) ∧ L.length ≤ 21 := ⟨h.1, h.2.1⟩
theorem laneOk.at {g : Nat → Int} {n : Int} {L : List Int} (h : laneOk g n L) {i : Nat} (hi : i < L.length) : g i = L.getD i 0 ∧ -5 ≤ g i ∧ g i ≤ 100 := h.2.2 i hi
/-- the place of the coin with a rank -/
def placeAtS (L : List Int) (r : Int) : Int := if 0 ≤ r ∧ r < (L.length : Int) then L.getD r.toNat 0 else -1
theorem laneOk.nil (g : Nat → Int) : laneOk g 0 [] := ⟨rfl, by decide, fun i h => absurd h (Nat.not_lt_zero _)⟩
theorem laneOk.set {g : Nat → Int} {n : Int} {L : List Int} (h : laneOk g n L) {r : Nat} (hr : r < L.length) {p : Int} (hp : -5 ≤ p ∧ p ≤ 100) : laneOk (zU g r p) n (L.set r p) := by
  refine ⟨by rw [List.length_set]; exact h.1, by rw [List.length_set]; exact h.2.1, fun i hi => ?_⟩
  rw [List.length_set] at hi
  by_cases e : i = r
  · subst e
    simp [zU, List.getD, hi, hp]
  · have := h.2.2 i hi
    simp only [zU, if_neg e]
    refine ⟨?_, this.2⟩
    rw [this.1]
    simp [List.getD, List.getElem?_set_ne (Ne.symm e)]
/-- a coin put in at a rank -/
def insS (r : Nat) (p : Int) (L : List Int) : List Int := L.take r ++ p :: L.drop r
theorem insS_len (r : Nat) (p : Int) (L : List Int) (h : r ≤ L.length) : (insS r p L).length = L.length + 1 := by
  simp [insS]
  omega
theorem insS_getD (r : Nat) (p : Int) (L : List Int) (h : r ≤ L.length) (i : Nat) : (insS r p L).getD i 0 = if i < r then L.getD i 0 else if i = r then p else L.getD (i - 1) 0 := by
  unfold insS
  simp only [List.getD]
  by_cases h1 : i < r
  · rw [if_pos h1, List.getElem?_append_left (by simp; omega), List.getElem?_take_of_lt h1]
  · rw [if_neg h1, List.getElem?_append_right (by simp; omega)]
    have e : (List.take r L).length = r := by simp; omega
    rw [e]
    by_cases h2 : i = r
    · subst h2
      simp
    · rw [if_neg h2]
      obtain ⟨d, hd⟩ : ∃ d, i - r = d + 1 := ⟨i - r - 1, by omega⟩
      rw [hd, List.getElem?_cons_succ, List.getElem?_drop, show r + d = i - 1 by omega]
theorem laneOk.ins {g g2 : Nat → Int} {n : Int} {L : List Int} (h : laneOk g n L) {r : Nat} (hr : r ≤ L.length) (hl : L.length ≤ 20) {p : Int} (hp : -5 ≤ p ∧ p ≤ 100) (h1 : ∀ i, i < r → g2 i = g i) (h2 : g2 r = p) (h3 : ∀ i, r < i → i ≤ L.length → g2 i = g (i - 1)) : laneOk g2 (n + 1) (insS r p L) := by
  have hlen := insS_len r p L hr
  refine ⟨by rw [hlen, h.1]; omega, by omega, fun i hi => ?_⟩
  rw [insS_getD r p L hr]
  by_cases a : i < r
  · rw [if_pos a, h1 i a]
    exact h.2.2 i (by omega)
  · rw [if_neg a]
    by_cases b : i = r
    · subst b
      rw [if_pos rfl, h2]
      exact ⟨rfl, hp⟩
    · rw [if_neg b, h3 i (by omega) (by omega)]
      exact h.2.2 (i - 1) (by omega)
theorem laneOk.tail {g g2 : Nat → Int} {n : Int} {L : List Int} (h : laneOk g n L) (h0 : 0 < L.length) (h1 : ∀ i, i + 1 < L.length → g2 i = g (i + 1)) : laneOk g2 (n - 1) L.tail := by
  cases L with
  | nil => exact absurd h0 (Nat.lt_irrefl _)
  | cons a L =>
    refine ⟨by have := h.1; simp at this ⊢; omega, by have := h.2.1; simp at this ⊢; omega, fun i hi => ?_⟩
    simp only [List.tail_cons] at hi ⊢
    rw [h1 i (by simp; omega)]
    exact h.2.2 (i + 1) (by simp; omega)
theorem laneOk.dropLast {g : Nat → Int} {n : Int} {L : List Int} (h : laneOk g n L) (h0 : 0 < L.length) : laneOk g (n - 1) L.dropLast := by
  have e : L.dropLast.length = L.length - 1 := List.length_dropLast
  refine ⟨by rw [e, h.1]; omega, by have := h.2.1; omega, fun i hi => ?_⟩
  have := h.2.2 i (by omega)
  refine ⟨?_, this.2⟩
  rw [this.1]
  simp only [List.getD]
  rw [List.getElem?_dropLast, if_pos (by omega)]
theorem laneOk.copy {g g2 : Nat → Int} {n : Int} {L : List Int} (h : laneOk g n L) (h1 : ∀ i, i < L.length → g2 i = g i) : laneOk g2 n L := ⟨h.1, h.2.1, fun i hi => by rw [h1 i hi]; exact h.2.2 i hi⟩
/-- the rank at which a coin goes among sorted ones -/
def rankS (p : Int) : List Int → Nat
  | [] => 0
  | x :: L => if x < p then rankS p L + 1 else 0
/-- is a coin too near to one of them -/
def nearS (p : Int) (L : List Int) : Bool := L.any (fun x => decide ((p - x).natAbs < 5))
theorem zU_run {α : Type} {g g2 : Nat → α} {i : Nat} {v : α} (hc : ∀ j : Nat, j < i → g j = g2 j) (hv : v = g2 i) : ∀ j : Nat, j < i + 1 → zU g i v j = g2 j := by
  intro j hj
  by_cases e : j = i
  · rw [e, zU_same, hv]
  · rw [zU_ne _ _ e]
    exact hc j (by omega)
theorem addC_step {q cs : Nat → Int} {L : List Int} {i : Nat} {x : Int} (hi : i < L.length) (hx : x = L.getD i 0) (hq : ∀ b : Nat, b < 9 → q b = cs b + cleanS b (L.take i)) (h0 : 0 ≤ bedAtS x) : ∀ b : Nat, b < 9 → zU q (bedAtS x).toNat (q (bedAtS x).toNat + 1) b = cs b + cleanS b (L.take (i + 1)) := by
  intro b hb
  rw [cleanS_take _ _ _ hi, ← hx]
  by_cases e : b = (bedAtS x).toNat
  · rw [← e, zU_same, hq b hb, if_pos (by omega)]
    omega
  · rw [zU_ne _ _ e, hq b hb, if_neg (by omega)]
    omega
theorem addC_skip {q cs : Nat → Int} {L : List Int} {i : Nat} {x : Int} (hi : i < L.length) (hx : x = L.getD i 0) (hq : ∀ b : Nat, b < 9 → q b = cs b + cleanS b (L.take i)) (h0 : bedAtS x < 0) : ∀ b : Nat, b < 9 → q b = cs b + cleanS b (L.take (i + 1)) := by
  intro b hb
  rw [cleanS_take _ _ _ hi, ← hx, hq b hb, if_neg (by omega)]
  omega
theorem rankS_le (p : Int) : ∀ L : List Int, rankS p L ≤ L.length
  | [] => Nat.le_refl _
  | x :: L => by
    unfold rankS
    split
    · have := rankS_le p L
      simp
      omega
    · exact Nat.zero_le _
theorem rankS_snoc (p x : Int) : ∀ L : List Int, rankS p (L ++ [x]) = if rankS p L = L.length then (if x < p then L.length + 1 else L.length) else rankS p L
  | [] => by simp [rankS]
  | y :: L => by
    have ih := rankS_snoc p x L
    simp only [List.cons_append, rankS, List.length_cons]
    by_cases h : y < p
    · simp only [h, if_true, ih]
      have := rankS_le p L
      by_cases e : rankS p L = L.length
      · simp only [e, if_true]
        split <;> rfl
      · simp only [e, if_false]
        rw [if_neg (by omega)]
    · simp [h]
theorem rankS_all (p : Int) : ∀ L : List Int, (∀ x ∈ L, x < p) → rankS p L = L.length
  | [], _ => rfl
  | x :: L, h => by
    simp only [rankS, h x List.mem_cons_self, if_true, List.length_cons, rankS_all p L (fun y hy => h y (List.mem_cons_of_mem _ hy))]
theorem rankS_take {p : Int} {L : List Int} (hs : List.Pairwise (fun (x y : Int) => x < y) L) {i : Nat} (hi : i < L.length) : rankS p (L.take (i + 1)) = if L.getD i 0 < p then i + 1 else rankS p (L.take i) := by
  rw [take_succ_getD L i hi, rankS_snoc]
  have hl : (L.take i).length = i := by simp; omega
  rw [hl]
  by_cases h : L.getD i 0 < p
  · have : rankS p (L.take i) = i := by
      rw [rankS_all p (L.take i) ?_, hl]
      intro x hx
      have h1 : List.Pairwise (fun (x y : Int) => x < y) (L.take (i + 1)) := hs.sublist (List.take_sublist _ _)
      rw [take_succ_getD L i hi, List.pairwise_append] at h1
      have := h1.2.2 x hx (L.getD i 0) (by simp)
      omega
    rw [if_pos this, if_pos h, if_pos h]
  · rw [if_neg h, if_neg h]
    split
    · omega
    · rfl
theorem nearS_take {p : Int} {L : List Int} {i : Nat} (hi : i < L.length) : nearS p (L.take (i + 1)) = (nearS p (L.take i) || decide ((p - L.getD i 0).natAbs < 5)) := by
  unfold nearS
  rw [take_succ_getD L i hi, List.any_append]
  simp
theorem nearS_of {p : Int} {L : List Int} {i : Nat} (hi : i < L.length) (h : (p - L.getD i 0).natAbs < 5) : nearS p L = true := by
  unfold nearS
  rw [List.any_eq_true]
  refine ⟨L[i], List.getElem_mem hi, ?_⟩
  have e : L.getD i 0 = L[i] := by simp [List.getD, hi]
  rw [← e]
  simpa using h

