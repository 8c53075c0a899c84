/-! a push, from coin to coin: the coins from the moving one on, the last place, how many are nudged -/
def goS (cost : Int) : Int → Int → List Int → List Int × Int × Int
  | p, lf, [] => ([min (p + lf) 100], min (p + lf) 100, 0)
  | p, lf, c :: cs => if lf ≤ c - 5 - p then ((p + lf) :: c :: cs, p + lf, 0) else if lf - (c - 5 - p) - cost ≤ 0 then ((c - 5) :: c :: cs, c, 1) else ((c - 5) :: (goS cost c (lf - (c - 5 - p) - cost) cs).1, (goS cost c (lf - (c - 5 - p) - cost) cs).2.1, (goS cost c (lf - (c - 5 - p) - cost) cs).2.2 + 1)
def dropS (ps : List Int) (la : Int) : List Int := if 100 ≤ la then ps.dropLast else ps
abbrev backS (ps : List Int) (la : Int) : Prop := 0 < (dropS ps la).length ∧ (dropS ps la).getD 0 0 < 0
def restS (ps : List Int) (la : Int) : List Int := if backS ps la then (dropS ps la).tail else dropS ps la
/-- the coins behind x are 5 or more apart and on the board -/
def chainS : Int → List Int → Prop
  | _, [] => True
  | x, c :: cs => x + 5 ≤ c ∧ c ≤ 99 ∧ chainS c cs
def roomS (M : List Int) (r : Nat) (p : Int) : Int := (if r + 1 < M.length then M.getD (r + 1) 0 - 5 else 100) - p
theorem placeAtS_nat {L : List Int} {r : Nat} (h : r < L.length) : placeAtS L (r : Int) = L.getD r 0 := by
  unfold placeAtS
  rw [if_pos ⟨by omega, by omega⟩]
  rfl
def finM (cost : Int) (M : List Int) (r : Nat) (p lf nd : Int) : List Int × Int × Int :=
  if 0 < lf then (M.take r ++ (goS cost p lf (M.drop (r + 1))).1, (goS cost p lf (M.drop (r + 1))).2.1, nd + (goS cost p lf (M.drop (r + 1))).2.2) else (M.set r p, p, nd)
theorem set_split {M : List Int} {r : Nat} (h : r < M.length) (p : Int) : M.set r p = M.take r ++ p :: M.drop (r + 1) := by
  rw [List.set_eq_take_append_cons_drop, if_pos h]
theorem drop_cons {M : List Int} {r : Nat} (h : r < M.length) : M.drop r = M.getD r 0 :: M.drop (r + 1) := by
  rw [List.drop_eq_getElem_cons h]
  simp [List.getD, h]
theorem finM_stop {cost : Int} {M : List Int} {r : Nat} {p lf nd : Int} (hr : r < M.length) (h0 : 0 < lf) (h : lf ≤ roomS M r p) : finM cost M r p lf nd = (M.set r (p + lf), p + lf, nd) := by
  unfold finM
  rw [if_pos h0, set_split hr]
  unfold roomS at h
  by_cases e : r + 1 < M.length
  · rw [if_pos e] at h
    rw [drop_cons e, goS, if_pos (by omega)]
    simp
  · have hd : M.drop (r + 1) = [] := List.drop_eq_nil_of_le (by omega)
    rw [if_neg e] at h
    rw [hd, goS, show min (p + lf) 100 = p + lf by omega]
    simp
theorem finM_fall {cost : Int} {M : List Int} {r : Nat} {p lf nd : Int} (hr : r + 1 = M.length) (h0 : 0 < lf) (h : 100 ≤ p + lf) : finM cost M r p lf nd = (M.set r 100, 100, nd) := by
  unfold finM
  have hd : M.drop (r + 1) = [] := List.drop_eq_nil_of_le (by omega)
  rw [if_pos h0, set_split (by omega), hd, goS, show min (p + lf) 100 = 100 by omega]
  simp
theorem finM_nudge {cost : Int} {M : List Int} {r : Nat} {p lf nd : Int} (hr : r + 1 < M.length) (h0 : 0 < lf) (h : roomS M r p < lf) : finM cost M r p lf nd = finM cost (M.set r (p + roomS M r p)) (r + 1) (M.getD (r + 1) 0) (lf - roomS M r p - cost) (nd + 1) := by
  have e : roomS M r p = M.getD (r + 1) 0 - 5 - p := by unfold roomS; rw [if_pos hr]
  have e3 : (M.set r (p + roomS M r p)).drop (r + 1 + 1) = M.drop (r + 1 + 1) := by
    exact List.drop_set_of_lt (by omega)
  have e4 : (M.set r (p + roomS M r p)).take (r + 1) = M.take r ++ [M.getD (r + 1) 0 - 5] := by
    rw [set_split (by omega), List.take_append, List.take_of_length_le (by simp; omega)]
    have : r + 1 - (List.take r M).length = 1 := by simp; omega
    rw [this, e]
    simp
    omega
  unfold finM
  rw [if_pos h0, drop_cons hr, goS, if_neg (by omega), ← e]
  by_cases h1 : 0 < lf - roomS M r p - cost
  · rw [if_neg (by omega), if_pos h1, e3, e4]
    simp only [List.append_assoc, List.singleton_append]
    refine Prod.ext rfl (Prod.ext rfl ?_)
    simp only
    omega
  · rw [if_pos (by omega), if_neg h1]
    have hl : r + 1 < (M.set r (p + roomS M r p)).length := by rw [List.length_set]; exact hr
    rw [set_split hl, e4, e3]
    simp
theorem goS_one {cost p lf : Int} {A : List Int} (h : 1 < lf) (hr : ∀ c cs, A = c :: cs → 0 < c - 5 - p) : goS cost p lf A = goS cost (p + 1) (lf - 1) A := by
  cases A with
  | nil => simp only [goS, show p + 1 + (lf - 1) = p + lf by omega]
  | cons c cs =>
    have h0 := hr c cs rfl
    simp only [goS, show p + 1 + (lf - 1) = p + lf by omega, show lf - 1 - (c - 5 - (p + 1)) = lf - (c - 5 - p) by omega]
    by_cases h1 : lf ≤ c - 5 - p
    · rw [if_pos h1, if_pos (by omega)]
    · rw [if_neg h1, if_neg (show ¬ lf - 1 ≤ c - 5 - (p + 1) by omega)]
theorem goS_last {cost p : Int} {A : List Int} (hp : p < 100) (hr : ∀ c cs, A = c :: cs → 0 < c - 5 - p) : goS cost p 1 A = ((p + 1) :: A, p + 1, 0) := by
  cases A with
  | nil => simp only [goS, show min (p + 1) 100 = p + 1 by omega]
  | cons c cs =>
    have h0 := hr c cs rfl
    rw [goS, if_pos (by omega)]
theorem finM_one {cost : Int} {M : List Int} {r : Nat} {p lf nd : Int} (hr : r < M.length) (h0 : 0 < lf) (h1 : 0 < roomS M r p) (hp : p < 100) (hc : chainS p (M.drop (r + 1))) : finM cost M r p lf nd = finM cost M r (p + 1) (if 100 ≤ p + 1 then 0 else lf - 1) nd := by
  have hd : ∀ c cs, M.drop (r + 1) = c :: cs → 0 < c - 5 - p := by
    intro c cs h
    have e : r + 1 < M.length := by
      rcases Nat.lt_or_ge (r + 1) M.length with q | q
      · exact q
      · rw [List.drop_eq_nil_of_le q] at h
        cases h
    rw [drop_cons e] at h
    injection h with h3 h4
    unfold roomS at h1
    rw [if_pos e, h3] at h1
    exact h1
  by_cases h5 : 100 ≤ p + 1
  · rw [if_pos h5]
    have e : ¬ r + 1 < M.length → r + 1 = M.length := by omega
    by_cases e2 : r + 1 < M.length
    · rw [drop_cons e2] at hc
      have h7 := hd _ _ (drop_cons e2)
      have h8 := hc.2.1
      omega
    · rw [finM_fall (e e2) h0 (by omega)]
      unfold finM
      rw [if_neg (by omega), show p + 1 = 100 by omega]
  · rw [if_neg h5]
    unfold finM
    rw [if_pos h0]
    by_cases h6 : lf = 1
    · subst h6
      rw [goS_last hp hd, if_neg (by omega), set_split hr]
      simp
    · rw [if_pos (show 0 < lf - 1 by omega), goS_one (by omega) hd]
/-- what a push leaves behind: place, nudges, fell off, taken back, the lane -/
def shoved (cost st : Int) (L : List Int) (p nd fe ta : Int) (g : Nat → Int) (n : Int) : Prop :=
  p = (goS cost (-5) st L).2.1 ∧ nd = (goS cost (-5) st L).2.2 ∧ fe = (if 100 ≤ (goS cost (-5) st L).2.1 then 1 else 0) ∧ ta = (if backS (goS cost (-5) st L).1 (goS cost (-5) st L).2.1 then 1 else 0) ∧ laneOk g n (restS (goS cost (-5) st L).1 (goS cost (-5) st L).2.1)
theorem shoved_of {cost st : Int} {L M : List Int} {r : Nat} {p nd lf fe ta n : Int} {g : Nat → Int} (h0 : 0 < st) (hf : finM cost M r p lf nd = finM cost (-5 :: L) 0 (-5) st 0) (hl : lf ≤ 0) (h1 : fe = (if 100 ≤ p then 1 else 0)) (h2 : ta = (if backS (M.set r p) p then 1 else 0)) (h3 : laneOk g n (restS (M.set r p) p)) : shoved cost st L p nd fe ta g n := by
  unfold finM at hf
  rw [if_neg (by omega), if_pos h0] at hf
  simp only [List.take_zero, List.nil_append, List.drop_succ_cons, List.drop_zero, Int.zero_add, Nat.zero_add, Prod.mk.injEq] at hf
  obtain ⟨e1, e2, e3⟩ := hf
  unfold shoved
  rw [← e1, ← e2, ← e3]
  exact ⟨rfl, rfl, h1, h2, h3⟩
theorem chain_step {M : List Int} {r : Nat} {p v : Int} (h : r + 1 < M.length) (hc : chainS p (M.drop (r + 1))) : M.getD (r + 1) 0 ≤ 99 ∧ p + 5 ≤ M.getD (r + 1) 0 ∧ chainS (M.getD (r + 1) 0) ((M.set r v).drop (r + 1 + 1)) := by
  rw [drop_cons h] at hc
  have e3 : (M.set r v).drop (r + 1 + 1) = M.drop (r + 1 + 1) := List.drop_set_of_lt (by omega)
  rw [e3]
  exact ⟨hc.2.1, hc.1, hc.2.2⟩
theorem chain_le {x y : Int} {L : List Int} (h : chainS y L) (hx : x ≤ y) : chainS x L := by
  cases L with
  | nil => trivial
  | cons c cs => exact ⟨by have := h.1; omega, h.2⟩
theorem chain_room {M : List Int} {r : Nat} {p : Int} (hc : chainS p (M.drop (r + 1))) (hp : p < 100) : 0 ≤ roomS M r p := by
  unfold roomS
  split
  · rename_i h
    rw [drop_cons h] at hc
    have := hc.1
    omega
  · omega
theorem room_on {M : List Int} {r : Nat} {p d : Int} (h : d ≤ roomS M r p) (hc : chainS p (M.drop (r + 1))) : chainS (p + d) (M.drop (r + 1)) := by
  by_cases e : r + 1 < M.length
  · rw [drop_cons e] at hc ⊢
    unfold roomS at h
    rw [if_pos e] at h
    exact ⟨by omega, hc.2⟩
  · rw [List.drop_eq_nil_of_le (by omega)]
    trivial
theorem room_lt {M : List Int} {r : Nat} {p : Int} (hp : -5 ≤ p) (hM : ∀ i : Nat, i < M.length → M.getD i 0 ≤ 100) : roomS M r p ≤ 105 := by
  unfold roomS
  split
  · rename_i h
    have := hM _ h
    omega
  · omega
theorem laneOk.pl {g : Nat → Int} {n : Int} {L : List Int} (h : laneOk g n L) (r : Int) : -5 ≤ placeAtS L r ∧ placeAtS L r ≤ 100 := by
  unfold placeAtS
  split
  · have := h.2.2 r.toNat (by omega)
    omega
  · omega
theorem placeAtS_0 {L : List Int} (h : 0 < L.length) : placeAtS L 0 = L.getD 0 0 := placeAtS_nat (r := 0) h
theorem dropS_a {ps : List Int} {la : Int} (h : 100 ≤ la) : dropS ps la = ps.dropLast := if_pos h
theorem dropS_b {ps : List Int} {la : Int} (h : la < 100) : dropS ps la = ps := if_neg (by omega)
theorem backS_yes {ps L : List Int} {la : Int} (hd : dropS ps la = L) (h : 0 < L.length) (h2 : placeAtS L 0 < 0) : backS ps la := by
  subst hd
  exact ⟨h, by rw [← placeAtS_0 h]; exact h2⟩
theorem backS_no1 {ps L : List Int} {la : Int} (hd : dropS ps la = L) (h : ¬ 0 < L.length) : ¬ backS ps la := by
  subst hd
  exact fun x => h x.1
theorem backS_no2 {ps L : List Int} {la : Int} (hd : dropS ps la = L) (h : 0 < L.length) (h2 : 0 ≤ placeAtS L 0) : ¬ backS ps la := by
  subst hd
  rw [placeAtS_0 h] at h2
  exact fun x => absurd x.2 (by omega)
theorem restS_yes {ps L : List Int} {la : Int} (hd : dropS ps la = L) (h : backS ps la) : restS ps la = L.tail := by
  subst hd
  exact if_pos h
theorem restS_no {ps L : List Int} {la : Int} (hd : dropS ps la = L) (h : ¬ backS ps la) : restS ps la = L := by
  subst hd
  exact if_neg h
theorem room_more {M : List Int} {r : Nat} {p : Int} (h : p + roomS M r p < 100) : r + 1 < M.length := by
  unfold roomS at h
  split at h
  · assumption
  · omega
theorem coin_stop {cost : Int} {M : List Int} {r : Nat} {p lf lf2 nd : Int} (h0 : 0 < lf) (hr : r < M.length) (h2 : lf2 = (if 100 ≤ p + min lf (roomS M r p) then 0 else lf - min lf (roomS M r p))) (h : lf2 ≤ 0) (hc : chainS p (M.drop (r + 1))) : finM cost M r (p + min lf (roomS M r p)) lf2 nd = finM cost M r p lf nd := by
  have e : finM cost M r (p + min lf (roomS M r p)) lf2 nd = (M.set r (p + min lf (roomS M r p)), p + min lf (roomS M r p), nd) := by
    unfold finM
    rw [if_neg (by omega)]
  rw [e]
  by_cases h1 : lf ≤ roomS M r p
  · rw [finM_stop hr h0 h1, show min lf (roomS M r p) = lf by omega]
  · have hm : min lf (roomS M r p) = roomS M r p := by omega
    rw [hm] at h2 ⊢
    by_cases h3 : 100 ≤ p + roomS M r p
    · have h4 : ¬ r + 1 < M.length := by
        intro h5
        rw [drop_cons h5] at hc
        unfold roomS at h3
        rw [if_pos h5] at h3
        have := hc.2.1
        omega
      have h6 : roomS M r p = 100 - p := by unfold roomS; rw [if_neg h4]
      rw [finM_fall (by omega) h0 (by omega), h6, show p + (100 - p) = 100 by omega]
    · rw [if_neg h3] at h2
      omega
theorem coin_go {cost : Int} {M : List Int} {r : Nat} {p lf lf2 nd : Int} (h0 : 0 < lf) (h2 : lf2 = (if 100 ≤ p + min lf (roomS M r p) then 0 else lf - min lf (roomS M r p))) (h : 0 < lf2) : r + 1 < M.length ∧ finM cost (M.set r (p + min lf (roomS M r p))) (r + 1) (M.getD (r + 1) 0) (lf2 - cost) (nd + 1) = finM cost M r p lf nd := by
  by_cases h3 : 100 ≤ p + min lf (roomS M r p)
  · rw [if_pos h3] at h2
    omega
  · rw [if_neg h3] at h2
    have hm : min lf (roomS M r p) = roomS M r p := by omega
    rw [hm] at h2 h3 ⊢
    have hr : r + 1 < M.length := room_more (p := p) (by omega)
    refine ⟨hr, ?_⟩
    rw [finM_nudge hr h0 (by omega), h2]
theorem place_go {cost : Int} {M : List Int} {r : Nat} {p lf nd : Int} (h0 : 0 < lf) (hr : r + 1 < M.length) (hz : roomS M r p = 0) : finM cost (M.set r p) (r + 1) (M.getD (r + 1) 0) (lf - cost) (nd + 1) = finM cost M r p lf nd := by
  rw [finM_nudge hr h0 (by omega), hz, show p + 0 = p by omega, show lf - 0 - cost = lf - cost by omega]
theorem room_100 {M : List Int} {r : Nat} {p : Int} (hM : ∀ i : Nat, i < M.length → M.getD i 0 ≤ 100) : p + roomS M r p ≤ 100 := by
  unfold roomS
  split
  · rename_i h
    have := hM _ h
    omega
  · omega

