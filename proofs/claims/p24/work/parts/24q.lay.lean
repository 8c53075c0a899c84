/-! the reference lays coins -/
/-- where the laying stands: i characters read, the lanes Ls so far, 1 while all fit -/
def layI (T : List Int) (i : Nat) (cn : Int) (Ls : Nat → List Int) : Prop :=
  (cn = 1 ∧ ((rdAt T i ∧ ∀ ln pl : Int, putS 0 0 0 (fun _ => []) T = putS 0 ln pl Ls (T.drop i)) ∨ (i = T.length + 1 ∧ putS 0 0 0 (fun _ => []) T = some Ls))) ∨ (cn = 0 ∧ i ≤ T.length + 1 ∧ putS 0 0 0 (fun _ => []) T = none)
theorem putS_0 (ln pl ln2 pl2 : Int) (Ls : Nat → List Int) : ∀ T : List Int, T ≠ [] → putS 0 ln pl Ls T = putS 0 ln2 pl2 Ls T
  | [], h => absurd rfl h
  | c :: cs, _ => by rw [putS, putS, if_pos rfl, if_pos rfl]
theorem layI_0 {T : List Int} (h : wholeS T) : layI T 0 1 (fun _ => []) := by
  refine Or.inl ⟨rfl, Or.inl ⟨rdAt_0 T, fun ln pl => ?_⟩⟩
  rw [List.drop_zero]
  refine putS_0 _ _ _ _ _ _ (fun e => ?_)
  subst e
  unfold wholeS at h
  simp [runS] at h
theorem layI_le {T : List Int} {i : Nat} {cn : Int} {Ls : Nat → List Int} (h : layI T i cn Ls) : i ≤ T.length + 1 := by
  rcases h with ⟨_, ⟨h, _⟩ | ⟨h, _⟩⟩ | ⟨_, h, _⟩
  · have := h.1
    omega
  · omega
  · exact h
theorem layI_cn {T : List Int} {i : Nat} {cn : Int} {Ls : Nat → List Int} (h : layI T i cn Ls) : cn = 0 ∨ cn = 1 := by
  rcases h with ⟨h, _⟩ | ⟨h, _⟩
  · exact Or.inr h
  · exact Or.inl h
theorem layI_no {T : List Int} {i : Nat} {cn : Int} {Ls : Nat → List Int} (h : layI T i cn Ls) (h0 : cn = 0) : putS 0 0 0 (fun _ => []) T = none := by
  rcases h with ⟨h, _⟩ | ⟨_, _, h⟩
  · omega
  · exact h
theorem layI_end {T : List Int} {i sp : Nat} {cn rd la pl : Int} {Ls : Nat → List Int} (hw : wholeS T) (h : layI T i cn Ls) (h0 : cn ≠ 0) (hr : rdOk T i rd sp la pl) (h1 : rd = 0) : putS 0 0 0 (fun _ => []) T = some Ls := by
  rcases h with ⟨_, ⟨h, _⟩ | ⟨_, h⟩⟩ | ⟨h, _⟩
  · exact absurd hw (rdAt_no h hr h1).2
  · exact h
  · omega
theorem rdOk_1 {T : List Int} {i sp : Nat} {rd la pl : Int} (hr : rdOk T i rd sp la pl) (h1 : rd ≠ 0) : i + 3 ≤ sp ∧ sp ≤ T.length ∧ (0 ≤ la ∧ la ≤ 2) ∧ (0 ≤ pl ∧ pl ≤ 99) := by
  rcases hr with ⟨h, _⟩ | ⟨_, r1, r2, r3, r4, _⟩
  · omega
  · exact ⟨r1, r2, r3, r4⟩
theorem layI_go {T : List Int} {i sp j : Nat} {cn rd pl : Int} {Ls Ls2 : Nat → List Int} (hw : wholeS T) (h : layI T i cn Ls) (h0 : cn ≠ 0) (hr : rdOk T i rd sp (j : Int) pl) (h1 : rd ≠ 0)
    (h2 : Ls2 = zU Ls j (if nearS pl (Ls j) then Ls j else insS (rankS pl (Ls j)) pl (Ls j))) : layI T (sp + 1) (canS pl (Ls j)) Ls2 := by
  subst h2
  rcases h with ⟨_, ⟨hA, hp⟩ | ⟨h, _⟩⟩ | ⟨h, _⟩
  · have hr0 := hr
    rcases hr with ⟨h, _⟩ | ⟨_, r1, r2, r3, r4, st, s1, s2, s3, s4, s5⟩
    · omega
    · have hst : st ≠ 0 := by omega
      have hp2 := (hp 0 0).trans (s4 0 0 Ls)
      by_cases hn : nearS pl (Ls j) = true
      · have e : canS pl (Ls j) = 0 := by unfold canS; rw [if_pos hn]
        rw [e]
        refine Or.inr ⟨rfl, by omega, ?_⟩
        rw [hp2]
        by_cases hl : sp < T.length
        · by_cases hc : T.getD sp 0 = 59
          · exact putS_n j hl rfl hst hc hn
          · exact absurd hw (rdAt_bad hA hr0 h1 (by omega) (by omega)).2
        · rw [List.drop_eq_nil_of_le (by omega), putS]
          unfold layS
          rw [Int.toNat_natCast, if_pos hn]
      · have e : canS pl (Ls j) = 1 := by unfold canS; rw [if_neg hn]
        rw [e]
        refine Or.inl ⟨rfl, ?_⟩
        rw [if_neg hn]
        by_cases hl : sp < T.length
        · by_cases hc : T.getD sp 0 = 59
          · refine Or.inl ⟨rdAt_go hA hr0 h1 ⟨hl, hc⟩, fun ln q => ?_⟩
            have e0 := s5 hl
            rw [if_pos hc] at e0
            rw [hp2, putS_c j hl rfl hst hc hn, e0]
            by_cases hl2 : sp + 1 < T.length
            · exact putS_0 _ _ _ _ _ _ (by rw [drop_cons hl2]; simp)
            · exfalso
              have hz := (rdAt_go hA hr0 h1 ⟨hl, hc⟩).2.2
              rw [List.drop_eq_nil_of_le (by omega)] at hz
              unfold wholeS at hw
              rw [hz] at hw
              simp [runS] at hw
          · exact absurd hw (rdAt_bad hA hr0 h1 (by omega) (by omega)).2
        · refine Or.inr ⟨by omega, ?_⟩
          rw [hp2, List.drop_eq_nil_of_le (by omega), putS]
          unfold layS
          rw [Int.toNat_natCast, if_neg hn]
  · have := rdOk_1 hr h1
    omega
  · omega
theorem putB_chain {B : Bd} {j : Nat} {pl : Int} (hp : 0 ≤ pl ∧ pl ≤ 99) (h : ∀ i : Nat, i < 3 → chainS (-5) (B.2 i)) : ∀ i : Nat, i < 3 → chainS (-5) ((putB B j pl).2 i) := by
  intro i hi
  show chainS (-5) (zU B.2 j _ i)
  by_cases e : i = j
  · subst e
    rw [zU_same]
    by_cases hn : nearS pl (B.2 i) = true
    · rw [if_pos hn]
      exact h i hi
    · rw [if_neg hn]
      exact ins_chain (h i hi) (by omega) hp.2 (by simpa using hn)
  · rw [zU_ne _ _ e]
    exact h i hi
theorem textOk.nil (ct : Nat → Int) : textOk ct 0 [] := ⟨rfl, by decide, fun i h => absurd h (Nat.not_lt_zero _)⟩

