/-! coins as a text -/
def textOk (ct : Nat → Int) (n : Int) (T : List Int) : Prop := n = (T.length : Int) ∧ T.length ≤ 60 ∧ ∀ i : Nat, i < T.length → ct i = T.getD i 0 ∧ 33 ≤ ct i ∧ ct i ≤ 126
theorem textOk.len {ct : Nat → Int} {n : Int} {T : List Int} (h : textOk ct n T) : n = (T.length : Int) ∧ T.length ≤ 60 := ⟨h.1, h.2.1⟩
theorem textOk.at {ct : Nat → Int} {n : Int} {T : List Int} (h : textOk ct n T) {i : Nat} (hi : i < T.length) : ct i = T.getD i 0 ∧ 33 ≤ ct i ∧ ct i ≤ 126 := h.2.2 i hi
theorem textOk.push {ct : Nat → Int} {n : Int} {T : List Int} (h : textOk ct n T) (hl : T.length < 60) {c : Int} (hc : 33 ≤ c ∧ c ≤ 126) : textOk (zU ct T.length c) (n + 1) (T ++ [c]) := by
  refine ⟨by rw [h.1]; simp, by simp; omega, fun i hi => ?_⟩
  simp only [List.length_append, List.length_cons, List.length_nil] at hi
  by_cases e : i = T.length
  · subst e
    rw [zU_same]
    simp [List.getD, hc]
  · rw [zU_ne _ _ e]
    have h1 := h.2.2 i (by omega)
    refine ⟨?_, h1.2⟩
    rw [h1.1]
    simp only [List.getD]
    rw [List.getElem?_append_left (by omega)]
def nextS (st c : Int) : Int :=
  if st = 0 then (if 48 ≤ c ∧ c < 51 then 1 else -1) else if st = 1 then (if c = 58 then 2 else -1) else if st = 2 then (if c = 48 then 4 else if 48 ≤ c ∧ c ≤ 57 then 3 else -1) else if st = 3 then (if 48 ≤ c ∧ c ≤ 57 then 4 else if c = 59 then 0 else -1) else if st = 4 then (if c = 59 then 0 else -1) else -1
theorem nextS_rng (st c : Int) : -1 ≤ nextS st c ∧ nextS st c ≤ 4 := by
  unfold nextS
  repeat (first | omega | split)
def codeS (T : List Int) (i : Int) : Int := if 0 ≤ i ∧ i < (T.length : Int) then T.getD i.toNat 0 else -1
theorem codeS_nat {T : List Int} {i : Nat} (h : i < T.length) : codeS T (i : Int) = T.getD i 0 := by
  unfold codeS
  rw [if_pos ⟨by omega, by omega⟩]
  rfl
def errS : Int → List Int → Nat
  | _, [] => 0
  | st, c :: cs => if nextS st c = -1 then 0 else errS (nextS st c) cs + 1
def runS : Int → List Int → Int
  | st, [] => st
  | st, c :: cs => runS (nextS st c) cs
theorem errS_step {T : List Int} {i : Nat} {st : Int} (h : i < T.length) : errS st (T.drop i) = if nextS st (T.getD i 0) = -1 then 0 else errS (nextS st (T.getD i 0)) (T.drop (i + 1)) + 1 := by
  rw [drop_cons h, errS]
theorem runS_step {T : List Int} {i : Nat} {st : Int} (h : i < T.length) : runS st (T.drop i) = runS (nextS st (T.getD i 0)) (T.drop (i + 1)) := by
  rw [drop_cons h, runS]
theorem runS_bad : ∀ T : List Int, runS (-1) T = -1
  | [] => rfl
  | c :: cs => by
    have e : nextS (-1) c = -1 := by unfold nextS; simp
    rw [runS, e]
    exact runS_bad cs
abbrev wholeS (T : List Int) : Prop := runS 0 T = 3 ∨ runS 0 T = 4
def layS (ln pl : Int) (Ls : Nat → List Int) : Option (Nat → List Int) := if nearS pl (Ls ln.toNat) then none else some (zU Ls ln.toNat (insS (rankS pl (Ls ln.toNat)) pl (Ls ln.toNat)))
def putS : Int → Int → Int → (Nat → List Int) → List Int → Option (Nat → List Int)
  | _, ln, pl, Ls, [] => layS ln pl Ls
  | st, ln, pl, Ls, c :: cs => if st = 0 then putS (nextS st c) (c - 48) 0 Ls cs else if 48 ≤ c ∧ c ≤ 57 then putS (nextS st c) ln (10 * pl + c - 48) Ls cs else if c = 59 then (if nearS pl (Ls ln.toNat) then none else putS (nextS st c) ln pl (zU Ls ln.toNat (insS (rankS pl (Ls ln.toNat)) pl (Ls ln.toNat))) cs) else putS (nextS st c) ln pl Ls cs
theorem putS_step {T : List Int} {i : Nat} {st ln pl : Int} {Ls : Nat → List Int} (h : i < T.length) : putS st ln pl Ls (T.drop i) = (if st = 0 then putS (nextS st (T.getD i 0)) (T.getD i 0 - 48) 0 Ls (T.drop (i + 1)) else if 48 ≤ T.getD i 0 ∧ T.getD i 0 ≤ 57 then putS (nextS st (T.getD i 0)) ln (10 * pl + T.getD i 0 - 48) Ls (T.drop (i + 1)) else if T.getD i 0 = 59 then (if nearS pl (Ls ln.toNat) then none else putS (nextS st (T.getD i 0)) ln pl (zU Ls ln.toNat (insS (rankS pl (Ls ln.toNat)) pl (Ls ln.toNat))) (T.drop (i + 1))) else putS (nextS st (T.getD i 0)) ln pl Ls (T.drop (i + 1))) := by
  rw [drop_cons h, putS]
theorem chain_get : ∀ {x : Int} {L : List Int}, chainS x L → ∀ i : Nat, i < L.length → x + 5 * (i + 1 : Nat) ≤ L.getD i 0 ∧ L.getD i 0 ≤ 99
  | _, [], _, i, hi => absurd hi (Nat.not_lt_zero _)
  | x, c :: cs, h, 0, _ => by
    have h1 := h.1
    have h2 := h.2.1
    simp only [List.getD_cons_zero]
    omega
  | x, c :: cs, h, i + 1, hi => by
    have h1 := h.1
    have h2 := chain_get h.2.2 i (by simpa using hi)
    simp only [List.getD_cons_succ]
    omega
theorem chain_len {L : List Int} (h : chainS (-5) L) : L.length ≤ 20 := by
  rcases Nat.lt_or_ge 20 L.length with q | q
  · have := chain_get h (L.length - 1) (by omega)
    omega
  · exact q
theorem chain_lt : ∀ {x : Int} {L : List Int}, chainS x L → ∀ y ∈ L, x + 5 ≤ y
  | _, [], _, y, hy => by cases hy
  | x, c :: cs, h, y, hy => by
    have h1 := h.1
    rcases List.mem_cons.mp hy with rfl | h2
    · exact h1
    · have := chain_lt h.2.2 y h2
      omega
theorem chain_sorted : ∀ {x : Int} {L : List Int}, chainS x L → List.Pairwise (fun (x y : Int) => x < y) L
  | _, [], _ => List.Pairwise.nil
  | x, c :: cs, h => List.Pairwise.cons (fun y hy => by have := chain_lt h.2.2 y hy; omega) (chain_sorted h.2.2)
theorem insS_cons (p c : Int) (cs : List Int) : insS (rankS p (c :: cs)) p (c :: cs) = if c < p then c :: insS (rankS p cs) p cs else p :: c :: cs := by
  simp only [rankS]
  split
  · simp [insS]
  · simp [insS]
theorem ins_chain : ∀ {x : Int} {L : List Int} {p : Int}, chainS x L → x + 5 ≤ p → p ≤ 99 → nearS p L = false → chainS x (insS (rankS p L) p L)
  | x, [], p, _, h1, h2, _ => ⟨h1, h2, trivial⟩
  | x, c :: cs, p, h, h1, h2, h3 => by
    unfold nearS at h3
    rw [List.any_cons, Bool.or_eq_false_iff] at h3
    have h4 : ¬ (p - c).natAbs < 5 := by simpa using h3.1
    rw [insS_cons]
    split
    · exact ⟨h.1, h.2.1, ins_chain h.2.2 (by omega) h2 h3.2⟩
    · exact ⟨h1, h2, by omega, h.2.1, h.2.2⟩
theorem zU0 {α : Type} (f : Nat → α) (v : α) : zU f 0 v 0 = v ∧ zU f 0 v 1 = f 1 ∧ zU f 0 v 2 = f 2 := ⟨rfl, rfl, rfl⟩
theorem zU1 {α : Type} (f : Nat → α) (v : α) : zU f 1 v 0 = f 0 ∧ zU f 1 v 1 = v ∧ zU f 1 v 2 = f 2 := ⟨rfl, rfl, rfl⟩
theorem zU2 {α : Type} (f : Nat → α) (v : α) : zU f 2 v 0 = f 0 ∧ zU f 2 v 1 = f 1 ∧ zU f 2 v 2 = v := ⟨rfl, rfl, rfl⟩
theorem nextS_0 (c : Int) : nextS 0 c = if 48 ≤ c ∧ c < 51 then 1 else -1 := rfl
theorem nextS_1 (c : Int) : nextS 1 c = if c = 58 then 2 else -1 := rfl
theorem nextS_2 (c : Int) : nextS 2 c = if c = 48 then 4 else if 48 ≤ c ∧ c ≤ 57 then 3 else -1 := rfl
theorem nextS_3 (c : Int) : nextS 3 c = if 48 ≤ c ∧ c ≤ 57 then 4 else if c = 59 then 0 else -1 := rfl
theorem nextS_4 (c : Int) : nextS 4 c = if c = 59 then 0 else -1 := rfl
theorem nextS_cases {st c : Int} (h : 0 ≤ st ∧ st ≤ 4) (hn : nextS st c ≠ -1) : (st = 0 ∧ 48 ≤ c ∧ c < 51 ∧ nextS st c = 1) ∨ (st = 1 ∧ c = 58 ∧ nextS st c = 2) ∨ (st = 2 ∧ c = 48 ∧ nextS st c = 4) ∨ (st = 2 ∧ 49 ≤ c ∧ c ≤ 57 ∧ nextS st c = 3) ∨ (st = 3 ∧ 48 ≤ c ∧ c ≤ 57 ∧ nextS st c = 4) ∨ (st = 3 ∧ c = 59 ∧ nextS st c = 0) ∨ (st = 4 ∧ c = 59 ∧ nextS st c = 0) := by
  rcases (by omega : st = 0 ∨ st = 1 ∨ st = 2 ∨ st = 3 ∨ st = 4) with rfl | rfl | rfl | rfl | rfl
  · rw [nextS_0] at hn ⊢
    by_cases a : 48 ≤ c ∧ c < 51
    · exact Or.inl ⟨rfl, a.1, a.2, if_pos a⟩
    · rw [if_neg a] at hn
      exact absurd rfl hn
  · rw [nextS_1] at hn ⊢
    by_cases a : c = 58
    · exact Or.inr (Or.inl ⟨rfl, a, if_pos a⟩)
    · rw [if_neg a] at hn
      exact absurd rfl hn
  · rw [nextS_2] at hn ⊢
    by_cases a : c = 48
    · exact Or.inr (Or.inr (Or.inl ⟨rfl, a, if_pos a⟩))
    · rw [if_neg a] at hn ⊢
      by_cases b : 48 ≤ c ∧ c ≤ 57
      · exact Or.inr (Or.inr (Or.inr (Or.inl ⟨rfl, by omega, b.2, if_pos b⟩)))
      · rw [if_neg b] at hn
        exact absurd rfl hn
  · rw [nextS_3] at hn ⊢
    by_cases b : 48 ≤ c ∧ c ≤ 57
    · exact Or.inr (Or.inr (Or.inr (Or.inr (Or.inl ⟨rfl, b.1, b.2, if_pos b⟩))))
    · rw [if_neg b] at hn ⊢
      by_cases a : c = 59
      · exact Or.inr (Or.inr (Or.inr (Or.inr (Or.inr (Or.inl ⟨rfl, a, if_pos a⟩)))))
      · rw [if_neg a] at hn
        exact absurd rfl hn
  · rw [nextS_4] at hn ⊢
    by_cases a : c = 59
    · exact Or.inr (Or.inr (Or.inr (Or.inr (Or.inr (Or.inr ⟨rfl, a, if_pos a⟩)))))
    · rw [if_neg a] at hn
      exact absurd rfl hn
theorem putS_a {T : List Int} {i : Nat} {st ln pl c : Int} {Ls : Nat → List Int} (h : i < T.length) (hc : c = T.getD i 0) (hs : st = 0) : putS st ln pl Ls (T.drop i) = putS (nextS st c) (c - 48) 0 Ls (T.drop (i + 1)) := by
  subst hc
  rw [putS_step h, if_pos hs]
theorem putS_b {T : List Int} {i : Nat} {st ln pl c : Int} {Ls : Nat → List Int} (h : i < T.length) (hc : c = T.getD i 0) (hs : ¬ st = 0) (hd : 48 ≤ c ∧ c ≤ 57) : putS st ln pl Ls (T.drop i) = putS (nextS st c) ln (10 * pl + c - 48) Ls (T.drop (i + 1)) := by
  subst hc
  rw [putS_step h, if_neg hs, if_pos hd]
theorem putS_c {T : List Int} {i : Nat} {st pl c : Int} {Ls : Nat → List Int} (j : Nat) (h : i < T.length) (hc : c = T.getD i 0) (hs : ¬ st = 0) (hd : c = 59) (hn : ¬ nearS pl (Ls j) = true) : putS st (j : Int) pl Ls (T.drop i) = putS (nextS st c) (j : Int) pl (zU Ls j (insS (rankS pl (Ls j)) pl (Ls j))) (T.drop (i + 1)) := by
  subst hc
  rw [putS_step h, if_neg hs, if_neg (by omega), if_pos hd, Int.toNat_natCast, if_neg hn]
theorem putS_n {T : List Int} {i : Nat} {st pl c : Int} {Ls : Nat → List Int} (j : Nat) (h : i < T.length) (hc : c = T.getD i 0) (hs : ¬ st = 0) (hd : c = 59) (hn : nearS pl (Ls j) = true) : putS st (j : Int) pl Ls (T.drop i) = none := by
  subst hc
  rw [putS_step h, if_neg hs, if_neg (by omega), if_pos hd, Int.toNat_natCast, if_pos hn]
theorem putS_d {T : List Int} {i : Nat} {st ln pl c : Int} {Ls : Nat → List Int} (h : i < T.length) (hc : c = T.getD i 0) (hs : ¬ st = 0) (hd : ¬ (48 ≤ c ∧ c ≤ 57)) (h9 : ¬ c = 59) : putS st ln pl Ls (T.drop i) = putS (nextS st c) ln pl Ls (T.drop (i + 1)) := by
  subst hc
  rw [putS_step h, if_neg hs, if_neg hd, if_neg h9]
theorem ins_no {p : Int} {L : List Int} (h : (if nearS p L then (0 : Int) else 1) ≠ 0) : ¬ nearS p L = true := by
  intro h2
  rw [if_pos h2] at h
  exact h rfl
theorem ins_yes {p : Int} {L : List Int} (h : (if nearS p L then (0 : Int) else 1) = 0) : nearS p L = true := by
  by_cases h2 : nearS p L = true
  · exact h2
  · rw [if_neg h2] at h
    cases h
theorem ins_fact {p n : Int} {L : List Int} {g : Nat → Int} (h : (if nearS p L then (0 : Int) else 1) ≠ 0) (h2 : laneOk g n (if nearS p L then L else insS (rankS p L) p L)) : laneOk g n (insS (rankS p L) p L) := by
  rw [if_neg (ins_no h)] at h2
  exact h2
theorem ins_chn {p : Int} {L : List Int} (hc : chainS (-5) L) (hp : 0 ≤ p ∧ p ≤ 99) (h : (if nearS p L then (0 : Int) else 1) ≠ 0) : chainS (-5) (insS (rankS p L) p L) :=
  ins_chain hc (by omega) hp.2 (by have := ins_no h; simpa using this)
theorem lay_res (j : Nat) (pl : Int) (Ls : Nat → List Int) : (if nearS pl (Ls j) then (0 : Int) else 1) = if (layS (j : Int) pl Ls).isSome then 1 else 0 := by
  unfold layS
  rw [Int.toNat_natCast]
  by_cases h : nearS pl (Ls j) = true
  · rw [if_pos h, if_pos h]
    rfl
  · rw [if_neg h, if_neg h]
    rfl
theorem lay_some {j : Nat} {pl : Int} {Ls Ls' : Nat → List Int} (h : layS (j : Int) pl Ls = some Ls') : (if nearS pl (Ls j) then (0 : Int) else 1) ≠ 0 ∧ Ls' = zU Ls j (insS (rankS pl (Ls j)) pl (Ls j)) := by
  unfold layS at h
  rw [Int.toNat_natCast] at h
  by_cases h2 : nearS pl (Ls j) = true
  · rw [if_pos h2] at h
    cases h
  · rw [if_neg h2] at h
    rw [if_neg h2]
    exact ⟨by decide, (Option.some.inj h).symm⟩

