/-! the reference reads coins -/
theorem zi2c {v : Int} (h : 0 ≤ v ∧ v < 65536) : ((nZ v).toUInt32 % 65536).toInt32 = nZ v := by
  obtain ⟨m, rfl⟩ := Int.eq_ofNat_of_zero_le h.1
  rw [show nZ ((m : Nat) : Int) = nI m from (nZ_nI m).symm, pk_char, pk_tn (by omega), Nat.mod_eq_of_lt (by omega)]
theorem errS_all : ∀ {T : List Int} {st : Int}, runS st T ≠ -1 → errS st T = T.length
  | [], _, _ => rfl
  | c :: cs, st, h => by
    rw [runS] at h
    have e : nextS st c ≠ -1 := by
      intro q
      rw [q, runS_bad] at h
      exact h rfl
    rw [errS, if_neg e, errS_all h]
    rfl
def rdOk (T : List Int) (i : Nat) (rd : Int) (sp : Nat) (la pl : Int) : Prop :=
  (rd = 0 ∧ (i ≤ T.length → i ≤ sp ∧ sp ≤ T.length ∧ errS 0 (T.drop i) = sp - i ∧ runS 0 (T.drop i) ≠ 3 ∧ runS 0 (T.drop i) ≠ 4) ∧ (T.length < i → sp = i)) ∨
  (rd = 1 ∧ i + 3 ≤ sp ∧ sp ≤ T.length ∧ (0 ≤ la ∧ la ≤ 2) ∧ (0 ≤ pl ∧ pl ≤ 99) ∧ ∃ st : Int, (st = 3 ∨ st = 4) ∧ errS 0 (T.drop i) = (sp - i) + errS st (T.drop sp) ∧ runS 0 (T.drop i) = runS st (T.drop sp) ∧ (∀ (ln p : Int) (Ls : Nat → List Int), putS 0 ln p Ls (T.drop i) = putS st la pl Ls (T.drop sp)) ∧ (sp < T.length → nextS st (T.getD sp 0) = if T.getD sp 0 = 59 then 0 else -1))
theorem bad_step {T : List Int} {i : Nat} {st : Int} (hi : i ≤ T.length) (h : i < T.length → nextS st (T.getD i 0) = -1) (hs : st ≠ 3 ∧ st ≠ 4) : errS st (T.drop i) = 0 ∧ runS st (T.drop i) ≠ 3 ∧ runS st (T.drop i) ≠ 4 := by
  by_cases q : i < T.length
  · have e := h q
    rw [errS_step q, runS_step q, e, if_pos rfl, runS_bad]
    exact ⟨rfl, by decide, by decide⟩
  · rw [List.drop_eq_nil_of_le (by omega)]
    exact ⟨rfl, hs.1, hs.2⟩
theorem go_step {T : List Int} {i : Nat} {st st2 : Int} (hi : i < T.length) (h : nextS st (T.getD i 0) = st2) (h2 : st2 ≠ -1) : errS st (T.drop i) = errS st2 (T.drop (i + 1)) + 1 ∧ runS st (T.drop i) = runS st2 (T.drop (i + 1)) := by
  rw [errS_step hi, runS_step hi, h, if_neg h2]
  exact ⟨rfl, rfl⟩
theorem rd_no0 {T : List Int} {i : Nat} (la pl : Int) (h : ¬ (i < T.length ∧ 48 ≤ T.getD i 0 ∧ T.getD i 0 ≤ 50)) : rdOk T i 0 i la pl := by
  refine Or.inl ⟨rfl, fun hi => ?_, fun _ => rfl⟩
  obtain ⟨e1, e2, e3⟩ := bad_step (st := 0) hi (fun q => by rw [nextS_0, if_neg (by omega)]) (by decide)
  exact ⟨Nat.le_refl _, hi, by rw [e1]; omega, e2, e3⟩
theorem rd_no1 {T : List Int} {i : Nat} (la pl : Int) (h0 : i < T.length ∧ 48 ≤ T.getD i 0 ∧ T.getD i 0 ≤ 50) (h : ¬ (i + 1 < T.length ∧ T.getD (i + 1) 0 = 58)) : rdOk T i 0 (i + 1) la pl := by
  obtain ⟨a1, a2⟩ := go_step (st := 0) (st2 := 1) h0.1 (by rw [nextS_0, if_pos (by omega)]) (by decide)
  refine Or.inl ⟨rfl, fun hi => ?_, fun _ => by omega⟩
  obtain ⟨e1, e2, e3⟩ := bad_step (T := T) (i := i + 1) (st := 1) (by omega) (fun q => by rw [nextS_1, if_neg (by omega)]) (by decide)
  exact ⟨by omega, by omega, by rw [a1, e1]; omega, by rw [a2]; exact e2, by rw [a2]; exact e3⟩
theorem rd_no2 {T : List Int} {i : Nat} (la pl : Int) (h0 : i < T.length ∧ 48 ≤ T.getD i 0 ∧ T.getD i 0 ≤ 50) (h1 : i + 1 < T.length ∧ T.getD (i + 1) 0 = 58) (h : ¬ (i + 2 < T.length ∧ 48 ≤ T.getD (i + 2) 0 ∧ T.getD (i + 2) 0 ≤ 57)) : rdOk T i 0 (i + 2) la pl := by
  obtain ⟨a1, a2⟩ := go_step (st := 0) (st2 := 1) h0.1 (by rw [nextS_0, if_pos (by omega)]) (by decide)
  obtain ⟨b1, b2⟩ := go_step (st := 1) (st2 := 2) h1.1 (by rw [nextS_1, if_pos (by omega)]) (by decide)
  refine Or.inl ⟨rfl, fun hi => ?_, fun _ => by omega⟩
  obtain ⟨e1, e2, e3⟩ := bad_step (T := T) (i := i + 2) (st := 2) (by omega) (fun q => by rw [nextS_2, if_neg (by omega), if_neg (by omega)]) (by decide)
  exact ⟨by omega, by omega, by rw [a1, b1, e1]; omega, by rw [a2, b2]; exact e2, by rw [a2, b2]; exact e3⟩
theorem rd_p2 {T : List Int} {i : Nat} (h0 : i < T.length ∧ 48 ≤ T.getD i 0 ∧ T.getD i 0 ≤ 50) (h1 : i + 1 < T.length ∧ T.getD (i + 1) 0 = 58) (h2 : i + 2 < T.length ∧ 48 ≤ T.getD (i + 2) 0 ∧ T.getD (i + 2) 0 ≤ 57) (ln p : Int) (Ls : Nat → List Int) : putS 0 ln p Ls (T.drop i) = putS (nextS 2 (T.getD (i + 2) 0)) (T.getD i 0 - 48) (T.getD (i + 2) 0 - 48) Ls (T.drop (i + 3)) := by
  rw [putS_a h0.1 rfl rfl, nextS_0, if_pos (by omega), putS_d h1.1 rfl (by decide) (by omega) (by omega), nextS_1, if_pos (by omega), putS_b h2.1 rfl (by decide) (by omega)]
  rw [show 10 * 0 + T.getD (i + 2) 0 - 48 = T.getD (i + 2) 0 - 48 by omega]
theorem rd_one {T : List Int} {i : Nat} (h0 : i < T.length ∧ 48 ≤ T.getD i 0 ∧ T.getD i 0 ≤ 50) (h1 : i + 1 < T.length ∧ T.getD (i + 1) 0 = 58) (h2 : i + 2 < T.length ∧ 48 ≤ T.getD (i + 2) 0 ∧ T.getD (i + 2) 0 ≤ 57) (h3 : T.getD (i + 2) 0 - 48 ≤ 0 ∨ ¬ (i + 3 < T.length ∧ 48 ≤ T.getD (i + 3) 0 ∧ T.getD (i + 3) 0 ≤ 57)) : rdOk T i 1 (i + 3) (T.getD i 0 - 48) (T.getD (i + 2) 0 - 48) := by
  obtain ⟨a1, a2⟩ := go_step (st := 0) (st2 := 1) h0.1 (by rw [nextS_0, if_pos (by omega)]) (by decide)
  obtain ⟨b1, b2⟩ := go_step (st := 1) (st2 := 2) h1.1 (by rw [nextS_1, if_pos (by omega)]) (by decide)
  have hn : nextS 2 (T.getD (i + 2) 0) = if T.getD (i + 2) 0 = 48 then 4 else 3 := by
    rw [nextS_2]
    by_cases q : T.getD (i + 2) 0 = 48
    · rw [if_pos q, if_pos q]
    · rw [if_neg q, if_neg q, if_pos (by omega)]
  have hne : (if T.getD (i + 2) 0 = 48 then (4 : Int) else 3) ≠ -1 := by split <;> decide
  obtain ⟨c1, c2⟩ := go_step (st := 2) h2.1 hn hne
  refine Or.inr ⟨rfl, Nat.le_refl _, by omega, by omega, by omega, _, ?_, ?_, by rw [a2, b2, c2], fun ln p Ls => by rw [rd_p2 h0 h1 h2, hn], ?_⟩
  · split
    · exact Or.inr rfl
    · exact Or.inl rfl
  · rw [show i + 1 + 1 = i + 2 from rfl] at b1
    rw [show i + 2 + 1 = i + 3 from rfl] at c1
    rw [a1, b1, c1]
    omega
  · intro hl
    by_cases q : T.getD (i + 2) 0 = 48
    · rw [if_pos q, nextS_4]
    · rw [if_neg q, nextS_3, if_neg (by omega)]
theorem rd_two {T : List Int} {i : Nat} (h0 : i < T.length ∧ 48 ≤ T.getD i 0 ∧ T.getD i 0 ≤ 50) (h1 : i + 1 < T.length ∧ T.getD (i + 1) 0 = 58) (h2 : i + 2 < T.length ∧ 48 ≤ T.getD (i + 2) 0 ∧ T.getD (i + 2) 0 ≤ 57) (h3 : 0 < T.getD (i + 2) 0 - 48) (h4 : i + 3 < T.length ∧ 48 ≤ T.getD (i + 3) 0 ∧ T.getD (i + 3) 0 ≤ 57) : rdOk T i 1 (i + 4) (T.getD i 0 - 48) (10 * (T.getD (i + 2) 0 - 48) + T.getD (i + 3) 0 - 48) := by
  obtain ⟨a1, a2⟩ := go_step (st := 0) (st2 := 1) h0.1 (by rw [nextS_0, if_pos (by omega)]) (by decide)
  obtain ⟨b1, b2⟩ := go_step (st := 1) (st2 := 2) h1.1 (by rw [nextS_1, if_pos (by omega)]) (by decide)
  have hn : nextS 2 (T.getD (i + 2) 0) = 3 := by rw [nextS_2, if_neg (by omega), if_pos (by omega)]
  obtain ⟨c1, c2⟩ := go_step (st := 2) h2.1 hn (by decide)
  have hn3 : nextS 3 (T.getD (i + 3) 0) = 4 := by rw [nextS_3, if_pos (by omega)]
  obtain ⟨d1, d2⟩ := go_step (st := 3) h4.1 hn3 (by decide)
  refine Or.inr ⟨rfl, by omega, by omega, by omega, by omega, 4, Or.inr rfl, by (rw [show i + 1 + 1 = i + 2 from rfl] at b1; rw [show i + 2 + 1 = i + 3 from rfl] at c1; rw [show i + 3 + 1 = i + 4 from rfl] at d1; rw [a1, b1, c1, d1]; omega), by rw [a2, b2, c2, d2], fun ln p Ls => ?_, fun _ => nextS_4 _⟩
  rw [rd_p2 h0 h1 h2, hn, putS_b h4.1 rfl (by decide) (by omega), hn3]
/-- the text up to i is coins, and the next one is to come -/
def rdAt (T : List Int) (i : Nat) : Prop := i ≤ T.length ∧ errS 0 T = i + errS 0 (T.drop i) ∧ runS 0 T = runS 0 (T.drop i)
theorem rdAt_0 (T : List Int) : rdAt T 0 := ⟨Nat.zero_le _, by simp, rfl⟩
theorem rdAt_no {T : List Int} {i sp : Nat} {rd la pl : Int} (h : rdAt T i) (hr : rdOk T i rd sp la pl) (h0 : rd = 0) : errS 0 T = sp ∧ ¬ wholeS T := by
  obtain ⟨h1, h2, h3⟩ := h
  rcases hr with ⟨_, r1, _⟩ | ⟨r0, _⟩
  · obtain ⟨e1, e2, e3, e4, e5⟩ := r1 h1
    refine ⟨by rw [h2, e3]; omega, ?_⟩
    unfold wholeS
    rw [h3]
    exact fun q => q.elim e4 e5
  · omega
theorem rdAt_end {T : List Int} {i sp : Nat} {rd la pl : Int} (h : rdAt T i) (hr : rdOk T i rd sp la pl) (h0 : rd ≠ 0) (he : sp = T.length) : wholeS T ∧ errS 0 T = T.length := by
  obtain ⟨h1, h2, h3⟩ := h
  rcases hr with ⟨r0, _⟩ | ⟨_, r1, r2, r3, r4, st, s1, s2, s3, s4, s5⟩
  · omega
  · have e : T.drop sp = [] := List.drop_eq_nil_of_le (by omega)
    rw [e] at s2 s3
    have hw : wholeS T := by
      unfold wholeS
      rw [h3, s3]
      exact s1
    refine ⟨hw, errS_all ?_⟩
    intro q
    unfold wholeS at hw
    rw [q] at hw
    exact absurd hw (by decide)
theorem rdAt_bad {T : List Int} {i sp : Nat} {rd la pl : Int} (h : rdAt T i) (hr : rdOk T i rd sp la pl) (h0 : rd ≠ 0) (he : sp ≠ T.length) (hc : ¬ (sp < T.length ∧ T.getD sp 0 = 59)) : errS 0 T = sp ∧ ¬ wholeS T := by
  obtain ⟨h1, h2, h3⟩ := h
  rcases hr with ⟨r0, _⟩ | ⟨_, r1, r2, r3, r4, st, s1, s2, s3, s4, s5⟩
  · omega
  · have hl : sp < T.length := by omega
    have e := s5 hl
    rw [if_neg (by omega)] at e
    rw [errS_step hl, e, if_pos rfl] at s2
    rw [runS_step hl, e, runS_bad] at s3
    refine ⟨by rw [h2, s2]; omega, ?_⟩
    unfold wholeS
    rw [h3, s3]
    decide
theorem rdAt_go {T : List Int} {i sp : Nat} {rd la pl : Int} (h : rdAt T i) (hr : rdOk T i rd sp la pl) (h0 : rd ≠ 0) (hc : sp < T.length ∧ T.getD sp 0 = 59) : rdAt T (sp + 1) := by
  obtain ⟨h1, h2, h3⟩ := h
  rcases hr with ⟨r0, _⟩ | ⟨_, r1, r2, r3, r4, st, s1, s2, s3, s4, s5⟩
  · omega
  · have e := s5 hc.1
    rw [if_pos hc.2] at e
    obtain ⟨a1, a2⟩ := go_step hc.1 e (by decide)
    exact ⟨by omega, by rw [h2, s2, a1]; omega, by rw [h3, s3, a2]⟩

