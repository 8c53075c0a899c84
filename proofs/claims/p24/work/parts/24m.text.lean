theorem rdOk_lt {T : List Int} {i sp : Nat} {rd la pl : Int} (h : rdOk T i rd sp la pl) (h0 : rd ≠ 0) : i + 3 ≤ sp ∧ sp ≤ T.length := by
  rcases h with ⟨r0, _⟩ | ⟨_, r1, r2, _⟩
  · omega
  · exact ⟨r1, r2⟩
theorem errS_whole {T : List Int} (h : wholeS T) : errS 0 T = T.length := errS_all (by
  intro q
  unfold wholeS at h
  rw [q] at h
  exact absurd h (by decide))
theorem errS_le' : ∀ (T : List Int) (st : Int), errS st T ≤ T.length
  | [], _ => Nat.le_refl _
  | c :: cs, st => by
    rw [errS]
    have := errS_le' cs (nextS st c)
    split <;> simp <;> omega
theorem errS_le (T : List Int) : errS 0 T ≤ T.length := errS_le' T 0

