/-! the law's own deeds: a text of six coins, a setting, a turn's end, a new game, a push -/
theorem runS_snoc (c : Int) : ∀ (A : List Int) (st : Int), runS st (A ++ [c]) = nextS (runS st A) c
  | [], st => rfl
  | a :: A, st => runS_snoc c A (nextS st a)
def lnK (x : Int) (k : Nat) : Int := lowS (zshr x (4 + (k : Int))) 3
def atK (y : Int) (k : Nat) : Int := lowS (zshr y (3 * (k : Int))) 7 + 8 * (k : Int)
def txA (x : Int) (k : Nat) (T : List Int) : List Int := ((if k = 0 then T else T ++ [59]) ++ [48 + lnK x k]) ++ [58]
def txB (x y : Int) (k : Nat) (T : List Int) : List Int := (if 9 < atK y k then txA x k T ++ [48 + atK y k / 10] else txA x k T) ++ [48 + atK y k % 10]
def textK (x y : Int) : Nat → List Int
  | 0 => []
  | k + 1 => txB x y k (textK x y k)
theorem lnK_rng (x : Int) (k : Nat) : 0 ≤ lnK x k ∧ lnK x k ≤ 2 := by
  have := lowS_rng (zshr x (4 + (k : Int))) (n := 3) (by omega)
  unfold lnK
  omega
theorem atK_rng (y : Int) {k : Nat} (hk : k ≤ 5) : 0 ≤ atK y k ∧ atK y k ≤ 46 := by
  have := lowS_rng (zshr y (3 * (k : Int))) (n := 7) (by omega)
  unfold atK
  omega
theorem txA_len (x : Int) (k : Nat) (T : List Int) : (txA x k T).length ≤ T.length + 3 := by
  unfold txA
  split <;> simp only [List.length_append, List.length_cons, List.length_nil] <;> omega
theorem txB_len (x y : Int) (k : Nat) (T : List Int) : (txB x y k T).length ≤ T.length + 5 := by
  have := txA_len x k T
  unfold txB
  split <;> simp only [List.length_append, List.length_cons, List.length_nil] <;> omega
theorem textK_len (x y : Int) : ∀ k : Nat, (textK x y k).length ≤ 5 * k
  | 0 => Nat.le_refl _
  | k + 1 => by
    have h1 := textK_len x y k
    have h2 := txB_len x y k (textK x y k)
    show (txB x y k (textK x y k)).length ≤ _
    omega
theorem txB_run (x y : Int) {k : Nat} {T : List Int} (hk : k ≤ 5) (h : (k = 0 ∧ T = []) ∨ (k ≠ 0 ∧ (runS 0 T = 3 ∨ runS 0 T = 4))) : runS 0 (txB x y k T) = 3 ∨ runS 0 (txB x y k T) = 4 := by
  have hl := lnK_rng x k
  have ha := atK_rng y hk
  have hA : runS 0 (if k = 0 then T else T ++ [59]) = 0 := by
    rcases h with ⟨rfl, rfl⟩ | ⟨h0, h1 | h1⟩
    · rfl
    · rw [if_neg h0, runS_snoc, h1]
      decide
    · rw [if_neg h0, runS_snoc, h1]
      decide
  have hC : runS 0 (txA x k T) = 2 := by
    unfold txA
    rw [runS_snoc, runS_snoc, hA, nextS_0, if_pos ⟨by omega, by omega⟩]
    decide
  unfold txB
  by_cases q : 9 < atK y k
  · rw [if_pos q, runS_snoc, runS_snoc, hC, nextS_2, if_neg (by omega), if_pos ⟨by omega, by omega⟩, nextS_3, if_pos ⟨by omega, by omega⟩]
    exact Or.inr rfl
  · rw [if_neg q, runS_snoc, hC, nextS_2]
    by_cases q2 : 48 + atK y k % 10 = 48
    · rw [if_pos q2]
      exact Or.inr rfl
    · rw [if_neg q2, if_pos ⟨by omega, by omega⟩]
      exact Or.inl rfl
theorem textK_run (x y : Int) : ∀ k : Nat, k ≤ 5 → runS 0 (textK x y (k + 1)) = 3 ∨ runS 0 (textK x y (k + 1)) = 4
  | 0, h => txB_run x y h (Or.inl ⟨rfl, rfl⟩)
  | k + 1, h => txB_run x y h (Or.inr ⟨by omega, textK_run x y k (by omega)⟩)
theorem ins_all {Ls : Nat → List Int} {ln pl : Int} (h : ∀ j : Nat, j < 3 → chainS (-5) (Ls j)) (hl : 0 ≤ ln ∧ ln ≤ 2) (hp : 0 ≤ pl ∧ pl ≤ 99) (hn : ¬ nearS pl (Ls ln.toNat) = true) : ∀ j : Nat, j < 3 → chainS (-5) (zU Ls ln.toNat (insS (rankS pl (Ls ln.toNat)) pl (Ls ln.toNat)) j) := by
  intro j hj
  by_cases e : j = ln.toNat
  · rw [e, zU_same]
    exact ins_chain (h _ (by omega)) (by omega) hp.2 (by simpa using hn)
  · rw [zU_ne _ _ e]
    exact h j hj
theorem putS_chain : ∀ (T : List Int) (st ln pl : Int) (Ls Ls' : Nat → List Int), (0 ≤ st ∧ st ≤ 4) → (st = 0 ∨ (0 ≤ ln ∧ ln ≤ 2)) → ((st = 1 ∨ st = 2) → pl = 0) → (st = 3 → 1 ≤ pl ∧ pl ≤ 9) → (st = 4 → 0 ≤ pl ∧ pl ≤ 99) → (∀ j : Nat, j < 3 → chainS (-5) (Ls j)) → (runS st T = 3 ∨ runS st T = 4) → putS st ln pl Ls T = some Ls' → ∀ j : Nat, j < 3 → chainS (-5) (Ls' j)
  | [], st, ln, pl, Ls, Ls', h0, h1, h2, h3, h4, hc, hr, hp => by
    have hr : st = 3 ∨ st = 4 := hr
    have hp : layS ln pl Ls = some Ls' := hp
    unfold layS at hp
    by_cases q : nearS pl (Ls ln.toNat) = true
    · rw [if_pos q] at hp
      cases hp
    · rw [if_neg q] at hp
      cases hp
      exact ins_all hc (by omega) (by omega) q
  | c :: cs, st, ln, pl, Ls, Ls', h0, h1, h2, h3, h4, hc, hr, hp => by
    have hr : runS (nextS st c) cs = 3 ∨ runS (nextS st c) cs = 4 := hr
    have hne : nextS st c ≠ -1 := by
      intro e
      rw [e, runS_bad] at hr
      omega
    rw [putS] at hp
    rcases nextS_cases h0 hne with ⟨e, c1, c2, n⟩ | ⟨e, c1, n⟩ | ⟨e, c1, n⟩ | ⟨e, c1, c2, n⟩ | ⟨e, c1, c2, n⟩ | ⟨e, c1, n⟩ | ⟨e, c1, n⟩
    · rw [if_pos e, n] at hp
      rw [n] at hr
      exact putS_chain cs 1 (c - 48) 0 Ls Ls' (by omega) (by omega) (by omega) (by omega) (by omega) hc hr hp
    · rw [if_neg (by omega), if_neg (by omega), if_neg (by omega), n] at hp
      rw [n] at hr
      exact putS_chain cs 2 ln pl Ls Ls' (by omega) (by omega) (by omega) (by omega) (by omega) hc hr hp
    · rw [if_neg (by omega), if_pos (by omega), n] at hp
      rw [n] at hr
      exact putS_chain cs 4 ln _ Ls Ls' (by omega) (by omega) (by omega) (by omega) (by omega) hc hr hp
    · rw [if_neg (by omega), if_pos (by omega), n] at hp
      rw [n] at hr
      exact putS_chain cs 3 ln _ Ls Ls' (by omega) (by omega) (by omega) (by omega) (by omega) hc hr hp
    · rw [if_neg (by omega), if_pos (by omega), n] at hp
      rw [n] at hr
      exact putS_chain cs 4 ln _ Ls Ls' (by omega) (by omega) (by omega) (by omega) (by omega) hc hr hp
    · rw [if_neg (by omega), if_neg (by omega), if_pos c1, n] at hp
      rw [n] at hr
      by_cases q : nearS pl (Ls ln.toNat) = true
      · rw [if_pos q] at hp
        cases hp
      · rw [if_neg q] at hp
        exact putS_chain cs 0 ln pl _ Ls' (by omega) (by omega) (by omega) (by omega) (by omega) (ins_all hc (by omega) (by omega) q) hr hp
    · rw [if_neg (by omega), if_neg (by omega), if_pos c1, n] at hp
      rw [n] at hr
      by_cases q : nearS pl (Ls ln.toNat) = true
      · rw [if_pos q] at hp
        cases hp
      · rw [if_neg q] at hp
        exact putS_chain cs 0 ln pl _ Ls' (by omega) (by omega) (by omega) (by omega) (by omega) (ins_all hc (by omega) (by omega) q) hr hp
theorem lay_chain {T : List Int} (hw : wholeS T) {Ls : Nat → List Int} (h : putS 0 0 0 (fun _ => []) T = some Ls) : ∀ j : Nat, j < 3 → chainS (-5) (Ls j) :=
  putS_chain T 0 0 0 (fun _ => []) Ls (by omega) (Or.inl rfl) (by omega) (by omega) (by omega) (fun _ _ => trivial) hw h
theorem lay_ok {B : Bd} (h : bdGood B) {T : List Int} (hw : wholeS T) : bdGood (layF B T) := lay_good h (fun _ e => lay_chain hw e)
theorem layN_rng {T : List Int} (hw : wholeS T) : -1 ≤ layN T ∧ layN T ≤ 60 := by
  unfold layN
  split
  · rename_i Ls e
    have hc := lay_chain hw e
    have h0 := chain_len (hc 0 (by omega))
    have h1 := chain_len (hc 1 (by omega))
    have h2 := chain_len (hc 2 (by omega))
    omega
  · omega
theorem textK_whole (x y : Int) : wholeS (textK x y 6) := textK_run x y 5 (by omega)
def strP (y : Int) : Int := 1 + lowS y (if lowS (zshr y 9) 3 = 0 then 150 else 100)
def actF (x y : Int) (B : Bd) : Bd := if lowS x 16 ≤ 1 then layF B (textK x y 6) else if lowS x 16 = 2 then setB B (lowS y 21) else if lowS x 16 = 3 then (if lowS y 6 = 0 then beginB B else endF B) else pushF B (lowS (zshr x 4) 3).toNat (strP y)
def actR (x y : Int) (B : Bd) : Int := if lowS x 16 ≤ 1 then layN (textK x y 6) else if lowS x 16 = 2 then B.1 0 else if lowS x 16 = 3 then (if lowS y 6 = 0 then chalksB B else if B.1 3 = 0 then madeB B else -1) else if B.1 3 = 0 then nudS (B.1 0) (strP y) (B.2 (lowS (zshr x 4) 3).toNat) else -1
theorem strP_rng (y : Int) : 1 ≤ strP y ∧ strP y ≤ 150 := by
  have h1 := lowS_rng y (n := 150) (by omega)
  have h2 := lowS_rng y (n := 100) (by omega)
  unfold strP
  split <;> omega
theorem act_good (x y : Int) {N : Int} {B : Bd} (h : bdGood B) (hx : xtraB N B) (hN : 0 ≤ N) : bdGood (actF x y B) ∧ xtraB (N + 1) (actF x y B) := by
  have hl := lowS_rng (zshr x 4) (n := 3) (by omega)
  have hs := lowS_rng y (n := 21) (by omega)
  unfold actF
  split
  · exact ⟨lay_ok h (textK_whole x y), (xtra_lay hx _).mono (by omega)⟩
  · split
    · exact ⟨set_good h (by omega), (xtra_set hx _).mono (by omega)⟩
    · split
      · split
        · exact ⟨begin_good h, xtra_begin (by omega)⟩
        · exact ⟨end_good h, xtra_end hx h.2.1⟩
      · exact ⟨push_good h (by omega) (strP_rng y), xtra_push hx h.2.1 _ _⟩
theorem act_rng (x y : Int) {B : Bd} (h : bdGood B) : -1 ≤ actR x y B ∧ actR x y B ≤ 100 := by
  have hl := lowS_rng (zshr x 4) (n := 3) (by omega)
  have h1 := layN_rng (textK_whole x y)
  have h2 := h.1
  have h3 := chalks_rng h.2.2.2.2.1
  have h4 := made_rng h
  have h5 := nud_rng h (j := (lowS (zshr x 4) 3).toNat) (by omega) (strP y)
  unfold actR
  split
  · omega
  · split
    · omega
    · split
      · split
        · omega
        · split <;> omega
      · split <;> omega
