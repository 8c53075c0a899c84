/-! the reference's calls that change a board -/
theorem sv_lo {s s2 : Nat → Int} {n : Nat} {B : Bd} (h : blkOk s 0 B) (hv : ∀ k : Nat, s2 k = svS s n k) : blkOk s2 0 B :=
  h.frame (fun k _ h2 => by
    rw [hv]
    unfold svS
    split
    · rw [if_neg (by omega)]
    · rw [if_neg (by omega), if_neg (by omega)])
theorem sv_hi {s s2 : Nat → Int} {n i : Nat} {K : Bd} (hn : n ≤ 6) (hi : 7 ≤ i) (h : blkOk s (90 * i) K) (hv : ∀ k : Nat, s2 k = svS s n k) : blkOk s2 (90 * i) K :=
  h.frame (fun k h1 h2 => by
    rw [hv]
    unfold svS
    split
    · rw [if_neg (by omega)]
    · rw [if_neg (by omega), if_neg (by omega)])
theorem fr_sv {s s1 s2 : Nat → Int} {n : Nat} (hf : frOk s1 s2 0) (hv : ∀ k : Nat, s1 k = svS s n k) : ∀ k : Nat, 90 ≤ k → s2 k = svS s n k := fun k hk => (hf k (by omega)).trans (hv k)
theorem push1_ch (B : Bd) (j : Nat) (st : Int) : chB (push1 B j st) = chB B := by
  funext i
  show (if 9 + i = 2 then _ else if 9 + i = 5 then _ else if 9 + i = 6 then _ else if 9 + i = 7 then _ else B.1 (9 + i)) = _
  rw [if_neg (by omega), if_neg (by omega), if_neg (by omega), if_neg (by omega)]
  rfl
theorem push1_blk {s : Nat → Int} {B : Bd} {j : Nat} {st : Int} (h : blkOk s 0 (push0 B j st)) : blkOk (zU s 2 (s 2 + 1)) 0 (push1 B j st) := by
  have h1 := h.setN (k := 2) (by omega) (s 2 + 1)
  have e : s 2 = B.1 2 := h.num (k := 2) (by omega)
  rw [e] at h1 ⊢
  refine h1.eqB (fun k hk => ?_) (fun _ _ => rfl)
  show (if k = 2 then _ else if k = 5 then _ else if k = 6 then _ else if k = 7 then _ else B.1 k) = zU (zU (zU (zU B.1 5 _) 6 _) 7 _) 2 _ k
  by_cases e2 : k = 2
  · rw [if_pos e2, e2, zU_same]
  · rw [if_neg e2, zU_ne _ _ e2]
    by_cases e7 : k = 7
    · rw [if_neg (by omega), if_neg (by omega), if_pos e7, e7, zU_same]
    · rw [zU_ne _ _ e7]
      by_cases e6 : k = 6
      · rw [if_neg (by omega), if_pos e6, e6, zU_same]
      · rw [zU_ne _ _ e6]
        by_cases e5 : k = 5
        · rw [if_pos e5, e5, zU_same]
        · rw [if_neg e5, if_neg e6, if_neg e7, zU_ne _ _ e5]
theorem begin_blk {q : Nat → Int} {B : Bd} (h : blkOk q 0 (B.1, fun _ => [])) {p : Nat → Int} (hp : ∀ k : Nat, p k = if 9 ≤ k ∧ k < 27 then 0 else q k) : blkOk (zU (zU (zU (zU p 1 0) 2 0) 3 0) 4 0) 0 (beginB B) := by
  have h0 : blkOk p 0 (fun k => if 9 ≤ k then 0 else B.1 k, fun _ => []) := by
    refine ⟨fun k hk => ?_, fun j hj => ?_⟩
    · rw [hp]
      by_cases e : 9 ≤ k
      · rw [if_pos (by omega)]
        exact (if_pos e).symm
      · rw [if_neg (by omega), h.1 k hk]
        exact (if_neg e).symm
    · obtain ⟨a0, a1, a2, a3⟩ := h.2 j hj
      exact ⟨a0, by rw [hp, if_neg (by omega)]; exact a1, a2, fun i hi => absurd hi (by simp)⟩
  have h1 := (((h0.setN (k := 1) (by omega) 0).setN (k := 2) (by omega) 0).setN (k := 3) (by omega) 0).setN (k := 4) (by omega) 0
  refine h1.eqB (fun k hk => ?_) (fun _ _ => rfl)
  show (if k = 1 then 0 else if k = 2 then 0 else if k = 3 then 0 else if k = 4 then 0 else if k < 9 then B.1 k else 0) = zU (zU (zU (zU (fun k => if 9 ≤ k then 0 else B.1 k) 1 0) 2 0) 3 0) 4 0 k
  by_cases e4 : k = 4
  · rw [e4, zU_same]; rfl
  · rw [zU_ne _ _ e4]
    by_cases e3 : k = 3
    · rw [e3, zU_same]; rfl
    · rw [zU_ne _ _ e3]
      by_cases e2 : k = 2
      · rw [e2, zU_same]; rfl
      · rw [zU_ne _ _ e2]
        by_cases e1 : k = 1
        · rw [e1, zU_same]; rfl
        · rw [zU_ne _ _ e1, if_neg e1, if_neg e2, if_neg e3, if_neg e4]
          (try dsimp only)
          by_cases e : k < 9
          · rw [if_pos e, if_neg (by omega)]
          · rw [if_neg e, if_pos (by omega)]
theorem begin_step {p q : Nat → Int} {i : Nat} (h : ∀ k : Nat, p k = if 9 ≤ k ∧ k < 9 + i then 0 else q k) : ∀ k : Nat, zU p (9 + i) 0 k = if 9 ≤ k ∧ k < 9 + (i + 1) then 0 else q k := by
  intro k
  by_cases e : k = 9 + i
  · rw [e, zU_same, if_pos (by omega)]
  · rw [zU_ne _ _ e, h]
    by_cases h2 : 9 ≤ k ∧ k < 9 + i
    · rw [if_pos h2, if_pos (by omega)]
    · rw [if_neg h2, if_neg (by omega)]
theorem begin_fr {p q : Nat → Int} (h : ∀ k : Nat, p k = if 9 ≤ k ∧ k < 27 then 0 else q k) : frOk q p 0 := fun k hk => by rw [h, if_neg (by omega)]
theorem set_blk {s : Nat → Int} {B : Bd} (h : blkOk s 0 B) (v : Int) : blkOk (zU s 0 v) 0 (setB B v) := h.setN (k := 0) (by omega) v

