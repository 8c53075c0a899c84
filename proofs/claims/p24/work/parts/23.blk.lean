/-! the reference's rows: a board in a block of 90 numbers -/
def blkOk (s : Nat → Int) (b : Nat) (B : Bd) : Prop := (∀ k : Nat, k < 27 → s (b + k) = B.1 k) ∧ ∀ j : Nat, j < 3 → (B.2 j).length ≤ 20 ∧ laneOk (fun k => s (b + 27 + 21 * j + 1 + k)) (s (b + 27 + 21 * j)) (B.2 j)
def frOk (s s2 : Nat → Int) (b : Nat) : Prop := ∀ k : Nat, k < b ∨ b + 90 ≤ k → s2 k = s k
theorem frOk.refl (s : Nat → Int) (b : Nat) : frOk s s b := fun _ _ => rfl
theorem frOk.trans {s s2 s3 : Nat → Int} {b : Nat} (h : frOk s s2 b) (h2 : frOk s2 s3 b) : frOk s s3 b := fun k hk => (h2 k hk).trans (h k hk)
theorem frOk.zU {s s2 : Nat → Int} {b k : Nat} {v : Int} (h : frOk s s2 b) (h1 : b ≤ k) (h2 : k < b + 90) : frOk s (zU s2 k v) b := fun i hi => (zU_ne _ _ (by omega)).trans (h i hi)
theorem blkOk.num {s : Nat → Int} {b : Nat} {B : Bd} (h : blkOk s b B) {k : Nat} (hk : k < 27) : s (b + k) = B.1 k := h.1 k hk
theorem blkOk.lane {s : Nat → Int} {b j : Nat} {B : Bd} (h : blkOk s b B) (hj : j < 3) : laneOk (fun k => s (b + 27 + 21 * j + 1 + k)) (s (b + 27 + 21 * j)) (B.2 j) := (h.2 j hj).2
theorem blkOk.len {s : Nat → Int} {b j : Nat} {B : Bd} (h : blkOk s b B) (hj : j < 3) : s (b + 27 + 21 * j) = ((B.2 j).length : Int) ∧ (B.2 j).length ≤ 20 := ⟨(h.2 j hj).2.1, (h.2 j hj).1⟩
theorem blkOk.at {s : Nat → Int} {b j : Nat} {B : Bd} (h : blkOk s b B) (hj : j < 3) {i : Nat} (hi : i < (B.2 j).length) : s (b + 27 + 21 * j + 1 + i) = (B.2 j).getD i 0 ∧ -5 ≤ s (b + 27 + 21 * j + 1 + i) ∧ s (b + 27 + 21 * j + 1 + i) ≤ 100 := (h.2 j hj).2.2.2 i hi
theorem blkOk.frame {s s2 : Nat → Int} {b : Nat} {B : Bd} (h : blkOk s b B) (hf : ∀ k : Nat, b ≤ k → k < b + 90 → s2 k = s k) : blkOk s2 b B := by
  refine ⟨fun k hk => by rw [hf _ (by omega) (by omega)]; exact h.1 k hk, fun j hj => ?_⟩
  obtain ⟨a0, a1, a2, a3⟩ := h.2 j hj
  refine ⟨a0, by rw [hf _ (by omega) (by omega)]; exact a1, a2, fun i hi => ?_⟩
  have e := hf (b + 27 + 21 * j + 1 + i) (by omega) (by omega)
  dsimp only
  rw [e]
  exact a3 i hi
theorem blkOk.other {s s2 : Nat → Int} {b c : Nat} {B : Bd} (h : blkOk s b B) (hf : frOk s s2 c) (hd : b + 90 ≤ c ∨ c + 90 ≤ b) : blkOk s2 b B := h.frame (fun k h1 h2 => hf k (by omega))
/-- a block moved: copied from one place to another -/
theorem blkOk.move {s s2 : Nat → Int} {b c : Nat} {B : Bd} (h : blkOk s b B) (hf : ∀ k : Nat, k < 90 → s2 (c + k) = s (b + k)) : blkOk s2 c B := by
  have e : ∀ k : Nat, k < 90 → s2 (c + k) = s (b + k) := hf
  refine ⟨fun k hk => (e k (by omega)).trans (h.1 k hk), fun j hj => ?_⟩
  obtain ⟨a0, a1, a2, a3⟩ := h.2 j hj
  have e1 : s2 (c + 27 + 21 * j) = s (b + 27 + 21 * j) := by
    have := e (27 + 21 * j) (by omega)
    rw [show c + (27 + 21 * j) = c + 27 + 21 * j by omega, show b + (27 + 21 * j) = b + 27 + 21 * j by omega] at this
    exact this
  refine ⟨a0, by rw [e1]; exact a1, a2, fun i hi => ?_⟩
  have e2 := e (27 + 21 * j + 1 + i) (by omega)
  rw [show c + (27 + 21 * j + 1 + i) = c + 27 + 21 * j + 1 + i by omega, show b + (27 + 21 * j + 1 + i) = b + 27 + 21 * j + 1 + i by omega] at e2
  dsimp only
  rw [e2]
  exact a3 i hi
theorem blkOk.setN {s : Nat → Int} {b : Nat} {B : Bd} (h : blkOk s b B) {k : Nat} (hk : k < 27) (v : Int) : blkOk (zU s (b + k) v) b (zU B.1 k v, B.2) := by
  refine ⟨fun i hi => ?_, fun j hj => ?_⟩
  all_goals dsimp only
  · by_cases e : i = k
    · subst e
      rw [zU_same, zU_same]
    · rw [zU_ne _ _ (by omega), zU_ne _ _ e]
      exact h.1 i hi
  · obtain ⟨a0, a1, a2, a3⟩ := h.2 j hj
    refine ⟨a0, by rw [zU_ne _ _ (by omega)]; exact a1, a2, fun i hi => ?_⟩
    dsimp only
    rw [zU_ne _ _ (by omega)]
    exact a3 i hi
theorem blkOk.setL {s s2 : Nat → Int} {b j : Nat} {B : Bd} {M : List Int} (h : blkOk s b B) (hj : j < 3) (hM : M.length ≤ 20) (hL : laneOk (fun k => s2 (b + 27 + 21 * j + 1 + k)) (s2 (b + 27 + 21 * j)) M) (hf : ∀ k : Nat, k < b + 27 + 21 * j ∨ b + 27 + 21 * j + 21 ≤ k → s2 k = s k) : blkOk s2 b (B.1, zU B.2 j M) := by
  refine ⟨fun k hk => by rw [hf _ (by omega)]; exact h.1 k hk, fun i hi => ?_⟩
  by_cases e : i = j
  · subst e
    dsimp only
    rw [zU_same]
    exact ⟨hM, hL⟩
  · obtain ⟨a0, a1, a2, a3⟩ := h.2 i hi
    dsimp only
    rw [zU_ne _ _ e]
    have h21 : 21 * i + 21 ≤ 21 * j ∨ 21 * j + 21 ≤ 21 * i := by omega
    refine ⟨a0, by rw [hf _ (by omega)]; exact a1, a2, fun t ht => ?_⟩
    dsimp only
    rw [hf _ (by omega)]
    exact a3 t ht
theorem blkOk.eqB {s : Nat → Int} {b : Nat} {B C : Bd} (h : blkOk s b B) (h1 : ∀ k : Nat, k < 27 → C.1 k = B.1 k) (h2 : ∀ j : Nat, j < 3 → C.2 j = B.2 j) : blkOk s b C :=
  ⟨fun k hk => (h.1 k hk).trans (h1 k hk).symm, fun j hj => by rw [h2 j hj]; exact h.2 j hj⟩
/-- the place of a coin, far beyond the board if there is none -/
def coinS (L : List Int) (r : Nat) : Int := if r < L.length then L.getD r 0 else 1000
theorem coinS_lt {L : List Int} {r : Nat} (h : r < L.length) : coinS L r = L.getD r 0 := if_pos h
theorem coinS_ge {L : List Int} {r : Nat} (h : ¬ r < L.length) : coinS L r = 1000 := if_neg h
theorem blkOk.coin {s : Nat → Int} {b j : Nat} {B : Bd} (h : blkOk s b B) (hj : j < 3) (r : Nat) : -5 ≤ coinS (B.2 j) r ∧ coinS (B.2 j) r ≤ 1000 := by
  unfold coinS
  split
  · rename_i q
    have := h.at hj q
    omega
  · omega
/-- a block copied -/
def cpS (s : Nat → Int) (f t : Nat) : Nat → Int := fun k => if 90 * t ≤ k ∧ k < 90 * t + 90 then s (90 * f + (k - 90 * t)) else s k
/-- the states behind a call that saves the present one -/
def svS (s : Nat → Int) (n : Nat) : Nat → Int := fun k => if n < 6 then (if 90 * (n + 1) ≤ k ∧ k < 90 * (n + 1) + 90 then s (k - 90 * (n + 1)) else s k) else if 90 ≤ k ∧ k < 540 then s (k + 90) else if 540 ≤ k ∧ k < 630 then s (k - 540) else s k
theorem cp_step {q s : Nat → Int} {f t i : Nat} (hq : ∀ k : Nat, q k = if 90 * t ≤ k ∧ k < 90 * t + i then s (90 * f + (k - 90 * t)) else s k) (hi : i < 90) : ∀ k : Nat, zU q (90 * t + i) (q (90 * f + i)) k = if 90 * t ≤ k ∧ k < 90 * t + (i + 1) then s (90 * f + (k - 90 * t)) else s k := by
  intro k
  by_cases e : k = 90 * t + i
  · subst e
    have e1 := hq (90 * f + i)
    rw [if_neg (by omega)] at e1
    rw [zU_same, e1, if_pos (by omega)]
    congr 1
    omega
  · rw [zU_ne _ _ e, hq]
    by_cases h : 90 * t ≤ k ∧ k < 90 * t + i
    · rw [if_pos h, if_pos (by omega)]
    · rw [if_neg h, if_neg (by omega)]
theorem blk_front {s q : Nat → Int} {b j : Nat} {B : Bd} {x : Int} {i : Nat} (h : blkOk s b B) (hj : j < 3) (hl : (B.2 j).length ≤ 19) (hx : -5 ≤ x ∧ x ≤ 100) (hi : i = 0) (h1 : ∀ m : Nat, m ≤ b + 27 + 21 * j + 1 + i ∨ b + 27 + 21 * j + 1 + (B.2 j).length < m → q m = s m) (h2 : ∀ m : Nat, i < m → m ≤ (B.2 j).length → q (b + 27 + 21 * j + 1 + m) = s (b + 27 + 21 * j + m)) :
    blkOk (zU (zU q (b + 27 + 21 * j + 1) x) (b + 27 + 21 * j) (zU q (b + 27 + 21 * j + 1) x (b + 27 + 21 * j) + 1)) b (B.1, zU B.2 j (x :: B.2 j)) := by
  subst hi
  have hlen := h.len hj
  refine h.setL hj (by simp; omega) ⟨?_, by simp; omega, fun t ht => ?_⟩ (fun k hk => by rw [zU_ne _ _ (by omega), zU_ne _ _ (by omega)]; exact h1 k (by omega))
  · rw [zU_same, zU_ne _ _ (by omega), h1 _ (by omega), hlen.1]
    simp
  · simp only [List.length_cons] at ht
    dsimp only
    rw [zU_ne _ _ (by omega)]
    cases t with
    | zero =>
      rw [show b + 27 + 21 * j + 1 + 0 = b + 27 + 21 * j + 1 by omega, zU_same]
      exact ⟨rfl, hx⟩
    | succ t =>
      rw [zU_ne _ _ (by omega), h2 (t + 1) (by omega) (by omega), show b + 27 + 21 * j + (t + 1) = b + 27 + 21 * j + 1 + t by omega]
      have := h.at hj (i := t) (by omega)
      rw [List.getD_cons_succ]
      exact this
theorem blk_frontF {s q : Nat → Int} {b j : Nat} {B : Bd} {x y : Int} {i : Nat} (h : blkOk s b B) (hj : j < 3) (hl : (B.2 j).length ≤ 19) (hi : i = 0) (h1 : ∀ m : Nat, m ≤ b + 27 + 21 * j + 1 + i ∨ b + 27 + 21 * j + 1 + (B.2 j).length < m → q m = s m) (h2 : ∀ m : Nat, i < m → m ≤ (B.2 j).length → q (b + 27 + 21 * j + 1 + m) = s (b + 27 + 21 * j + m)) :
    frOk s (zU (zU q (b + 27 + 21 * j + 1) x) (b + 27 + 21 * j) y) b := by
  subst hi
  intro k hk
  rw [zU_ne _ _ (by omega), zU_ne _ _ (by omega)]
  exact h1 k (by omega)
/-! a coin stops -/
def midB (B : Bd) (j : Nat) (M : List Int) (fo tb : Int) : Bd := (zU (zU B.1 5 fo) 6 tb, zU B.2 j M)
def stopB (B : Bd) (j : Nat) (M : List Int) (x : Int) : Bd := midB B j M (B.1 5 + (if x = 100 then 1 else 0)) (B.1 6 + (if x < 0 then 1 else 0))
def stopN (L : List Int) (x : Int) : List Int := if 0 ≤ x ∧ x ≤ 99 then x :: L else L
def stopR (M : List Int) (r : Nat) (x : Int) : List Int := if x = 100 then (M.set r x).dropLast else M.set r x
theorem blkOk.stop {s2 : Nat → Int} {b j : Nat} {B : Bd} {M : List Int} {x : Int} (h : blkOk s2 b (B.1, zU B.2 j M)) : blkOk (zU (zU s2 (b + 5) (s2 (b + 5) + (if x = 100 then 1 else 0))) (b + 6) (zU s2 (b + 5) (s2 (b + 5) + (if x = 100 then 1 else 0)) (b + 6) + (if x < 0 then 1 else 0))) b (stopB B j M x) := by
  have h1 := h.setN (k := 5) (by omega) (s2 (b + 5) + (if x = 100 then 1 else 0))
  have h2 := h1.setN (k := 6) (by omega) (zU s2 (b + 5) (s2 (b + 5) + (if x = 100 then 1 else 0)) (b + 6) + (if x < 0 then 1 else 0))
  have e5 : s2 (b + 5) = B.1 5 := h.num (by omega)
  have e6 : zU s2 (b + 5) (s2 (b + 5) + (if x = 100 then 1 else 0)) (b + 6) = B.1 6 := by
    rw [zU_ne _ _ (by omega)]
    exact h.num (by omega)
  rw [e6] at h2 ⊢
  rw [e5] at h2 ⊢
  exact h2
theorem ifz_ne {P : Prop} [Decidable P] (h : (if P then (1 : Int) else 0) ≠ 0) : P := by
  by_cases q : P
  · exact q
  · rw [if_neg q] at h
    exact absurd rfl h
theorem ifz_eq {P : Prop} [Decidable P] (h : (if P then (1 : Int) else 0) = 0) : ¬ P := by
  intro q
  rw [if_pos q] at h
  cases h
theorem blk_stopN1 {s : Nat → Int} {b j : Nat} {B : Bd} {x : Int} (h : blkOk s b (B.1, zU B.2 j (x :: B.2 j))) (hi : 0 ≤ x ∧ x ≤ 99) : blkOk s b (B.1, zU B.2 j (stopN (B.2 j) x)) := by
  unfold stopN
  rw [if_pos hi]
  exact h
theorem blk_stopN0 {s : Nat → Int} {b j : Nat} {B : Bd} {x : Int} (h : blkOk s b B) (hi : ¬ (0 ≤ x ∧ x ≤ 99)) : blkOk s b (B.1, zU B.2 j (stopN (B.2 j) x)) := by
  unfold stopN
  rw [if_neg hi]
  refine h.eqB (fun _ _ => rfl) (fun i _ => ?_)
  by_cases e : i = j
  · subst e
    exact zU_same _ _ _
  · exact zU_ne _ _ e
theorem blk_setR {s : Nat → Int} {b j : Nat} {B : Bd} {x : Int} {r : Nat} (h : blkOk s b B) (hj : j < 3) (hr : r < (B.2 j).length) (hx : 0 ≤ x ∧ x ≤ 100) : blkOk (zU (zU s (b + 27 + 21 * j + 1 + r) x) (b + 27 + 21 * j) (zU s (b + 27 + 21 * j + 1 + r) x (b + 27 + 21 * j) - (if x = 100 then 1 else 0))) b (B.1, zU B.2 j (stopR (B.2 j) r x)) := by
  have hlen := h.len hj
  have hL := (h.lane hj).set hr (p := x) (by omega)
  have hp : ∀ v : Int, ∀ i : Nat, zU (zU s (b + 27 + 21 * j + 1 + r) x) (b + 27 + 21 * j) v (b + 27 + 21 * j + 1 + i) = zU (fun k => s (b + 27 + 21 * j + 1 + k)) r x i := by
    intro v i
    rw [zU_ne _ _ (by omega)]
    by_cases e : i = r
    · subst e
      rw [zU_same, zU_same]
    · rw [zU_ne _ _ (by omega), zU_ne _ _ e]
  have hll : (stopR (B.2 j) r x).length ≤ 20 := by
    unfold stopR
    split <;> simp <;> omega
  have he : zU s (b + 27 + 21 * j + 1 + r) x (b + 27 + 21 * j) = ((B.2 j).length : Int) := by
    rw [zU_ne _ _ (by omega)]
    exact hlen.1
  refine h.setL hj hll ?_ (fun k hk => by rw [zU_ne _ _ (by omega), zU_ne _ _ (by omega)])
  rw [zU_same]
  have hX : laneOk (zU (fun k => s (b + 27 + 21 * j + 1 + k)) r x) (zU s (b + 27 + 21 * j + 1 + r) x (b + 27 + 21 * j) - (if x = 100 then 1 else 0)) (stopR (B.2 j) r x) := by
    rw [he]
    rw [hlen.1] at hL
    unfold stopR
    by_cases e : x = 100
    · rw [if_pos e, if_pos e]
      exact hL.dropLast (by rw [List.length_set]; omega)
    · rw [if_neg e, if_neg e, Int.sub_zero]
      exact hL
  exact hX.copy (fun i _ => hp _ i)
theorem mid_mid {s : Nat → Int} {b j : Nat} {B : Bd} {M M2 : List Int} {fo tb x : Int} (h : blkOk s b (stopB (midB B j M fo tb) j M2 x)) : blkOk s b (midB B j M2 (fo + (if x = 100 then 1 else 0)) (tb + (if x < 0 then 1 else 0))) := by
  refine h.eqB (fun k hk => ?_) (fun i hi => ?_)
  · show zU (zU B.1 5 _) 6 _ k = zU (zU (zU (zU B.1 5 fo) 6 tb) 5 _) 6 _ k
    by_cases e6 : k = 6
    · subst e6
      rw [zU_same, zU_same]
      rfl
    · rw [zU_ne _ _ e6, zU_ne _ _ e6]
      by_cases e5 : k = 5
      · subst e5
        rw [zU_same, zU_same]
        rfl
      · rw [zU_ne _ _ e5, zU_ne _ _ e5, zU_ne _ _ e6, zU_ne _ _ e5]
  · show zU B.2 j M2 i = zU (zU B.2 j M) j M2 i
    by_cases e : i = j
    · subst e
      rw [zU_same, zU_same]
    · rw [zU_ne _ _ e, zU_ne _ _ e, zU_ne _ _ e]
theorem mid_lane (B : Bd) (j : Nat) (M : List Int) (fo tb : Int) : (midB B j M fo tb).2 j = M := zU_same _ _ _
def push0 (B : Bd) (j : Nat) (st : Int) : Bd := (zU (midB B j (restL (B.1 0) st (B.2 j)) (B.1 5 + (if 100 ≤ lastL (B.1 0) st (B.2 j) then 1 else 0)) (B.1 6 + (if backS (goS (B.1 0) (-5) st (B.2 j)).1 (lastL (B.1 0) st (B.2 j)) then 1 else 0))).1 7 (B.1 7 + nudS (B.1 0) st (B.2 j)), zU B.2 j (restL (B.1 0) st (B.2 j)))
/-! the reference's push, from coin to coin -/
def pushI (cost st : Int) (L M : List Int) (r : Nat) (ap lf nd tb : Int) : Prop :=
  (r < M.length ∧ M.length ≤ 20 ∧ ap = M.getD r 0 ∧ chainS ap (M.drop (r + 1)) ∧ 0 ≤ ap ∧ ap ≤ 99 ∧ 0 ≤ cost) ∧ restL cost st L = dropS (finM cost M r ap lf nd).1 (finM cost M r ap lf nd).2.1 ∧ lastL cost st L = (finM cost M r ap lf nd).2.1 ∧ nudS cost st L = (finM cost M r ap lf nd).2.2 ∧ tb = (if backS (goS cost (-5) st L).1 (lastL cost st L) then 1 else 0)
def pushD (cost st : Int) (L M : List Int) (x nd fe tb : Int) : Prop := restL cost st L = M ∧ lastL cost st L = x ∧ nudS cost st L = nd ∧ fe = (if 100 ≤ lastL cost st L then 1 else 0) ∧ tb = (if backS (goS cost (-5) st L).1 (lastL cost st L) then 1 else 0)
theorem goS_ne (cost : Int) : ∀ (p lf : Int) (A : List Int), (goS cost p lf A).1 ≠ []
  | p, lf, [] => by simp [goS]
  | p, lf, c :: cs => by
    simp only [goS]
    split
    · simp
    · split <;> simp
theorem goS_fin {cost st c : Int} {cs : List Int} (h : ¬ st ≤ c - 5 - -5) : goS cost (-5) st (c :: cs) = ((c - 5) :: (finM cost (c :: cs) 0 c (st - (c - 5 - -5) - cost) 1).1, (finM cost (c :: cs) 0 c (st - (c - 5 - -5) - cost) 1).2.1, (finM cost (c :: cs) 0 c (st - (c - 5 - -5) - cost) 1).2.2) := by
  rw [goS, if_neg h]
  unfold finM
  by_cases h1 : 0 < st - (c - 5 - -5) - cost
  · rw [if_neg (by omega), if_pos h1]
    simp only [List.take_zero, List.nil_append, List.drop_succ_cons, List.drop_zero, Nat.zero_add]
    all_goals first | done | (refine Prod.ext rfl (Prod.ext rfl ?_); show _ + (1 : Int) = 1 + _; omega) | skip
  · rw [if_pos (by omega), if_neg h1]
    simp
theorem finM_ne {cost : Int} {M : List Int} {r : Nat} {p lf nd : Int} (hr : r < M.length) : (finM cost M r p lf nd).1 ≠ [] := by
  unfold finM
  split
  · simp only [ne_eq, List.append_eq_nil_iff, not_and]
    intro _
    exact goS_ne _ _ _ _
  · intro h
    have := congrArg List.length h
    simp at this
    simp [this] at hr
theorem dropS_cons {x la : Int} {A : List Int} (h : A ≠ []) : dropS (x :: A) la = x :: dropS A la := by
  unfold dropS
  split
  · exact List.dropLast_cons_of_ne_nil h
  · rfl
theorem chain_19 {x : Int} {L : List Int} (h : chainS x L) (h0 : 0 ≤ x) : L.length ≤ 19 := by
  rcases Nat.lt_or_ge 19 L.length with q | q
  · have := chain_get h (L.length - 1) (by omega)
    omega
  · exact q
theorem pushI_init {cost st c : Int} {L : List Int} (hL : chainS (-5) L) (hcost : 0 ≤ cost) (h0 : 0 < L.length) (hc : c = L.getD 0 0) (h : ¬ st ≤ c - 5 - -5) :
    (c - 5 < 0 → pushI cost st L L 0 c (st - (c - 5 - -5) - cost) 1 1) ∧ (0 ≤ c - 5 → pushI cost st L ((c - 5) :: L) 1 c (st - (c - 5 - -5) - cost) 1 0) := by
  cases L with
  | nil => exact absurd h0 (Nat.lt_irrefl _)
  | cons c1 cs =>
    rw [List.getD_cons_zero] at hc
    subst hc
    have hl := chain_len hL
    obtain ⟨a1, a2, a3⟩ := hL
    have eg := goS_fin (cost := cost) (cs := cs) h
    have hne : (finM cost (c :: cs) 0 c (st - (c - 5 - -5) - cost) 1).1 ≠ [] := finM_ne (by simp)
    have hlast : lastL cost st (c :: cs) = (finM cost (c :: cs) 0 c (st - (c - 5 - -5) - cost) 1).2.1 := by unfold lastL; rw [eg]
    have hd : dropS ((c - 5) :: (finM cost (c :: cs) 0 c (st - (c - 5 - -5) - cost) 1).1) (finM cost (c :: cs) 0 c (st - (c - 5 - -5) - cost) 1).2.1 = (c - 5) :: dropS (finM cost (c :: cs) 0 c (st - (c - 5 - -5) - cost) 1).1 (finM cost (c :: cs) 0 c (st - (c - 5 - -5) - cost) 1).2.1 := dropS_cons hne
    have hb : backS (goS cost (-5) st (c :: cs)).1 (lastL cost st (c :: cs)) ↔ c - 5 < 0 := by
      rw [hlast, eg]
      unfold backS
      simp only [hd, List.length_cons, List.getD_cons_zero]
      omega
    refine ⟨fun hx => ⟨⟨by simp, hl, by simp, by simpa using a3, by omega, a2, hcost⟩, ?_, hlast, by unfold nudS; rw [eg], by rw [if_pos (hb.mpr hx)]⟩, fun hx => ?_⟩
    · unfold restL restS
      have : backS (goS cost (-5) st (c :: cs)).1 (goS cost (-5) st (c :: cs)).2.1 := hb.mpr hx
      rw [if_pos this, eg]
      simp only [hd, List.tail_cons]
    · have ef : finM cost ((c - 5) :: c :: cs) 1 c (st - (c - 5 - -5) - cost) 1 = ((c - 5) :: (finM cost (c :: cs) 0 c (st - (c - 5 - -5) - cost) 1).1, (finM cost (c :: cs) 0 c (st - (c - 5 - -5) - cost) 1).2.1, (finM cost (c :: cs) 0 c (st - (c - 5 - -5) - cost) 1).2.2) := by
        unfold finM
        split <;> simp
      have h19 : (c :: cs).length ≤ 19 := chain_19 (x := c - 5) ⟨by omega, a2, a3⟩ hx
      refine ⟨⟨by simp, by simp at h19 ⊢; omega, by simp, by simpa using a3, by omega, a2, hcost⟩, ?_, by rw [ef]; exact hlast, by rw [ef]; unfold nudS; rw [eg], by rw [if_neg (fun q => absurd (hb.mp q) (by omega))]⟩
      unfold restL restS
      have : ¬ backS (goS cost (-5) st (c :: cs)).1 (goS cost (-5) st (c :: cs)).2.1 := fun q => absurd (hb.mp q) (by omega)
      rw [if_neg this, eg, ef]
      first | done | (simp only; rw [hd, dropS_cons hne])
theorem push_first {cost st x : Int} {L : List Int} (hL : chainS (-5) L) (h : st ≤ coinS L 0 - 5 - -5) (hs : 1 ≤ st) (hx : x = min (-5 + st) 100) : pushD cost st L (stopN L x) x 0 (if x = 100 then 1 else 0) (if x < 0 then 1 else 0) := by
  cases L with
  | nil =>
    have eg : goS cost (-5) st [] = ([x], x, 0) := by rw [goS, hx]
    have hl : lastL cost st [] = x := by unfold lastL; rw [eg]
    have hd : dropS [x] x = if x = 100 then [] else [x] := by
      unfold dropS
      by_cases e : x = 100
      · rw [if_pos e, if_pos (by omega)]
        rfl
      · rw [if_neg e, if_neg (by omega)]
    have hb : backS (goS cost (-5) st []).1 (lastL cost st []) ↔ x < 0 := by
      rw [hl, eg]
      unfold backS
      simp only [hd]
      split
      · simp
        omega
      · simp
    refine ⟨?_, hl, by unfold nudS; rw [eg], by rw [hl]; (split <;> split <;> first | rfl | omega), ?_⟩
    · unfold restL restS
      rw [eg]
      unfold stopN
      by_cases e : x < 0
      · have : backS [x] x := by have := hb.mpr e; rw [hl, eg] at this; exact this
        rw [if_pos this, if_neg (by omega), hd, if_neg (by omega)]
        rfl
      · have : ¬ backS [x] x := fun q => e (hb.mp (by rw [hl, eg]; exact q))
        rw [if_neg this, hd]
        by_cases e2 : x = 100
        · rw [if_pos e2, if_neg (by omega)]
        · rw [if_neg e2, if_pos (by omega)]
    · by_cases e : x < 0
      · rw [if_pos e, if_pos (hb.mpr e)]
      · rw [if_neg e, if_neg (fun q => e (hb.mp q))]
  | cons c cs =>
    have h2 : st ≤ c - 5 - -5 := h
    obtain ⟨a1, a2, a3⟩ := hL
    have hx1 : x = -5 + st := by omega
    have eg : goS cost (-5) st (c :: cs) = (x :: c :: cs, x, 0) := by rw [goS, if_pos h2, hx1]
    have hl : lastL cost st (c :: cs) = x := by unfold lastL; rw [eg]
    have hd : dropS (x :: c :: cs) x = x :: c :: cs := by
      unfold dropS
      rw [if_neg (by omega)]
    have hb : backS (goS cost (-5) st (c :: cs)).1 (lastL cost st (c :: cs)) ↔ x < 0 := by
      rw [hl, eg]
      unfold backS
      simp only [hd]
      simp
    refine ⟨?_, hl, by unfold nudS; rw [eg], by rw [hl]; (split <;> split <;> first | rfl | omega), ?_⟩
    · unfold restL restS
      rw [eg]
      unfold stopN
      by_cases e : x < 0
      · have : backS (x :: c :: cs) x := by have := hb.mpr e; rw [hl, eg] at this; exact this
        rw [if_pos this, if_neg (by omega), hd]
        rfl
      · have : ¬ backS (x :: c :: cs) x := fun q => e (hb.mp (by rw [hl, eg]; exact q))
        rw [if_neg this, hd, if_pos (by omega)]
    · by_cases e : x < 0
      · rw [if_pos e, if_pos (hb.mpr e)]
      · rw [if_neg e, if_neg (fun q => e (hb.mp q))]
theorem pushI_room {M : List Int} {r : Nat} {ap : Int} (h : r < M.length) (hc : chainS ap (M.drop (r + 1))) : (r + 1 < M.length → coinS M (r + 1) - 5 - ap = roomS M r ap ∧ coinS M (r + 1) = M.getD (r + 1) 0 ∧ M.getD (r + 1) 0 ≤ 99 ∧ ap + 5 ≤ M.getD (r + 1) 0) ∧ (¬ r + 1 < M.length → coinS M (r + 1) = 1000) := by
  refine ⟨fun q => ?_, fun q => coinS_ge q⟩
  have h2 := chain_step (v := 0) q hc
  refine ⟨?_, coinS_lt q, h2.1, h2.2.1⟩
  unfold roomS
  rw [if_pos q, coinS_lt q]
theorem pushI_stop {cost st : Int} {L M : List Int} {r : Nat} {ap lf nd tb x : Int} (h : pushI cost st L M r ap lf nd tb) (h0 : 0 < lf ∧ lf ≤ 150) (hs : lf ≤ coinS M (r + 1) - 5 - ap) (hx : x = min (ap + lf) 100) : pushD cost st L (stopR M r x) x nd (if x = 100 then 1 else 0) (tb + (if x < 0 then 1 else 0)) ∧ 0 ≤ x ∧ (x = 100 → r + 1 = M.length) := by
  obtain ⟨⟨a1, a2, a3, a4, a5, a6, a7⟩, b1, b2, b3, b4⟩ := h
  obtain ⟨c1, c2⟩ := pushI_room a1 a4
  by_cases q : r + 1 < M.length
  · obtain ⟨d1, d2, d3, d4⟩ := c1 q
    have hx1 : x = ap + lf := by omega
    have e := finM_stop (cost := cost) (p := ap) (lf := lf) (nd := nd) a1 h0.1 (by omega)
    rw [e] at b1 b2 b3
    have b2 : lastL cost st L = ap + lf := b2
    have b3 : nudS cost st L = nd := b3
    have b1 : restL cost st L = dropS (M.set r (ap + lf)) (ap + lf) := b1
    refine ⟨⟨?_, by rw [hx1, b2], b3, by rw [b2, if_neg (by omega), if_neg (by omega)], by rw [if_neg (by omega), Int.add_zero]; exact b4⟩, by omega, by omega⟩
    rw [b1, ← hx1]
    unfold dropS stopR
    rw [if_neg (by omega), if_neg (by omega)]
  · have hd : M.drop (r + 1) = [] := List.drop_eq_nil_of_le (by omega)
    have e : finM cost M r ap lf nd = (M.set r x, x, nd) := by
      unfold finM
      rw [if_pos h0.1, set_split a1, hd, goS, hx]
      simp
    rw [e] at b1 b2 b3
    have b2 : lastL cost st L = x := b2
    have b3 : nudS cost st L = nd := b3
    have b1 : restL cost st L = dropS (M.set r x) x := b1
    refine ⟨⟨?_, b2, b3, by rw [b2]; (split <;> split <;> first | rfl | omega), by rw [if_neg (by omega), Int.add_zero]; exact b4⟩, by omega, by omega⟩
    rw [b1]
    unfold dropS stopR
    by_cases e : x = 100
    · rw [if_pos e, if_pos (by omega)]
    · rw [if_neg e, if_neg (by omega)]
theorem pushI_step {cost st : Int} {L M : List Int} {r : Nat} {ap lf nd tb x : Int} (h : pushI cost st L M r ap lf nd tb) (h0 : 0 < lf ∧ lf ≤ 150) (hs : coinS M (r + 1) - 5 - ap < lf) (hx : x = ap + (coinS M (r + 1) - 5 - ap)) :
    0 ≤ x ∧ x ≤ 94 ∧ 0 ≤ coinS M (r + 1) - 5 - ap ∧ r + 1 < M.length ∧ stopR M r x = M.set r x ∧ coinS (stopR M r x) (r + 1) = coinS M (r + 1) ∧ (stopR M r x).length = M.length ∧ pushI cost st L (stopR M r x) (r + 1) (coinS (stopR M r x) (r + 1)) (lf - ((coinS M (r + 1) - 5 - ap) + cost)) (nd + 1) tb := by
  obtain ⟨⟨a1, a2, a3, a4, a5, a6, a7⟩, b1, b2, b3, b4⟩ := h
  obtain ⟨c1, c2⟩ := pushI_room a1 a4
  have q : r + 1 < M.length := by
    rcases Nat.lt_or_ge (r + 1) M.length with q | q
    · exact q
    · have := c2 (by omega)
      omega
  obtain ⟨d1, d2, d3, d4⟩ := c1 q
  have hx2 : stopR M r x = M.set r x := by
    unfold stopR
    rw [if_neg (by omega)]
  have hg : (M.set r x).getD (r + 1) 0 = M.getD (r + 1) 0 := by
    simp only [List.getD]
    rw [List.getElem?_set_ne (by omega)]
  have hc2 : coinS (M.set r x) (r + 1) = M.getD (r + 1) 0 := by
    rw [coinS_lt (by rw [List.length_set]; exact q), hg]
  have hch := chain_step (v := x) q a4
  have e := finM_nudge (cost := cost) (p := ap) (lf := lf) (nd := nd) q h0.1 (by omega)
  rw [← d1, ← hx] at e
  have e2 : lf - (coinS M (r + 1) - 5 - ap) - cost = lf - (coinS M (r + 1) - 5 - ap + cost) := by omega
  rw [e2] at e
  refine ⟨by omega, by omega, by omega, q, hx2, by rw [hx2, hc2, d2], by rw [hx2, List.length_set], ?_⟩
  rw [hx2, hc2]
  refine ⟨⟨by rw [List.length_set]; exact q, by rw [List.length_set]; exact a2, hg.symm, hch.2.2, by omega, d3, a7⟩, ?_⟩
  rw [← e]
  exact ⟨b1, b2, b3, b4⟩
theorem set_self {M : List Int} {r : Nat} (h : r < M.length) : M.set r (M.getD r 0) = M := by
  have e : M.getD r 0 = M[r] := by simp [List.getD, h]
  rw [e]
  exact List.set_getElem_self h
theorem pushI_done {cost st : Int} {L M : List Int} {r : Nat} {ap lf nd tb : Int} (h : pushI cost st L M r ap lf nd tb) (h0 : lf ≤ 0) : pushD cost st L M ap nd 0 tb := by
  obtain ⟨⟨a1, a2, a3, a4, a5, a6, a7⟩, b1, b2, b3, b4⟩ := h
  have e : finM cost M r ap lf nd = (M, ap, nd) := by
    unfold finM
    rw [if_neg (by omega), a3, set_self a1]
  rw [e] at b1 b2 b3
  have b2 : lastL cost st L = ap := b2
  refine ⟨?_, b2, b3, by rw [b2, if_neg (by omega)], b4⟩
  rw [b1]
  unfold dropS
  rw [if_neg (by dsimp only; omega)]
theorem push_end {s : Nat → Int} {b j : Nat} {B : Bd} {M : List Int} {st x nd fe tb fo2 tb2 : Int} (h : blkOk s b (midB B j M fo2 tb2)) (hd : pushD (B.1 0) st (B.2 j) M x nd fe tb) (hf : fo2 = B.1 5 + fe) (ht : tb2 = B.1 6 + tb) : blkOk (zU s (b + 7) (s (b + 7) + nd)) b (push0 B j st) := by
  obtain ⟨d1, d2, d3, d4, d5⟩ := hd
  have h1 := h.setN (k := 7) (by omega) (s (b + 7) + nd)
  have e7 : s (b + 7) = B.1 7 := h.num (by omega)
  rw [e7] at h1 ⊢
  subst hf; subst ht; subst d1; subst d3; subst d4; subst d5
  exact h1
theorem push_end0 {s : Nat → Int} {b j : Nat} {B : Bd} {st x : Int} (h : blkOk s b (stopB B j (stopN (B.2 j) x) x)) (hd : pushD (B.1 0) st (B.2 j) (stopN (B.2 j) x) x 0 (if x = 100 then 1 else 0) (if x < 0 then 1 else 0)) : blkOk (zU s (b + 7) (s (b + 7))) b (push0 B j st) := by
  have := push_end h hd rfl rfl
  rw [Int.add_zero] at this
  exact this
theorem coinS_cons (x : Int) (L : List Int) (r : Nat) : coinS (x :: L) (r + 1) = coinS L r := by
  unfold coinS
  simp
theorem first_19 {L : List Int} {x : Int} (hL : chainS (-5) L) (hx : x ≤ coinS L 0 - 5) : 0 ≤ x → x ≤ 99 → L.length ≤ 19 := by
  intro h0 _
  cases L with
  | nil => simp
  | cons c cs =>
    have e : coinS (c :: cs) 0 = c := rfl
    rw [e] at hx
    exact chain_19 (x := x) ⟨by omega, hL.2.1, hL.2.2⟩ h0
theorem coin0_lt {L : List Int} (hL : chainS (-5) L) : (0 < L.length ∧ coinS L 0 = L.getD 0 0 ∧ 0 ≤ coinS L 0 ∧ coinS L 0 ≤ 99) ∨ coinS L 0 = 1000 := by
  cases L with
  | nil => exact Or.inr rfl
  | cons c cs => exact Or.inl ⟨by simp, rfl, by have := hL.1; show 0 ≤ c; omega, hL.2.1⟩
theorem pushI_first {cost st x a lf : Int} {L : List Int} {r : Nat} (hL : chainS (-5) L) (hcost : 0 ≤ cost) (hst : st ≤ 150) (h : ¬ st ≤ coinS L 0 - 5 - -5) (hx : x = coinS L 0 - 5) (hr : r = if 0 ≤ x then 1 else 0) (ha : a = coinS (stopN L x) r) (hlf : lf = st - (coinS L 0 - 5 - -5) - cost) : pushI cost st L (stopN L x) r a lf 1 (if x < 0 then 1 else 0) := by
  rcases coin0_lt hL with ⟨h1, h2, h3, h4⟩ | h5
  · obtain ⟨p1, p2⟩ := pushI_init hL hcost h1 h2 h
    subst hlf; subst hr; subst ha
    by_cases q : x < 0
    · have e : stopN L x = L := if_neg (by omega)
      rw [e, if_neg (by omega), if_pos q]
      exact p1 (by omega)
    · have e : stopN L x = x :: L := if_pos (by omega)
      rw [e, if_pos (by omega), if_neg q, coinS_cons, hx]
      exact p2 (by omega)
  · omega
theorem stopN_gt {L : List Int} {x : Int} (h : (L.length : Int) < ((stopN L x).length : Int)) : 0 ≤ x ∧ x ≤ 99 := by
  unfold stopN at h
  by_cases q : 0 ≤ x ∧ x ≤ 99
  · exact q
  · rw [if_neg q] at h
    omega
theorem stopN_le {L : List Int} {x : Int} (h : ((stopN L x).length : Int) ≤ (L.length : Int)) : ¬ (0 ≤ x ∧ x ≤ 99) := by
  intro q
  unfold stopN at h
  rw [if_pos q] at h
  simp at h
  omega
theorem sv_step {q q2 s : Nat → Int} {i : Nat} (hi : 1 ≤ i) (hq : ∀ k : Nat, q k = if 90 ≤ k ∧ k < 90 * i then s (k + 90) else s k) (h2 : ∀ k : Nat, q2 k = cpS q (i + 1) i k) : ∀ k : Nat, q2 k = if 90 ≤ k ∧ k < 90 * (i + 1) then s (k + 90) else s k := by
  intro k
  rw [h2 k]
  unfold cpS
  by_cases h : 90 * i ≤ k ∧ k < 90 * i + 90
  · rw [if_pos h]
    have e := hq (90 * (i + 1) + (k - 90 * i))
    rw [if_neg (by omega)] at e
    rw [e]
    rw [if_pos (by omega)]
    congr 1
    omega
  · rw [if_neg h, hq k]
    by_cases h3 : 90 ≤ k ∧ k < 90 * i
    · rw [if_pos h3, if_pos (by omega)]
    · rw [if_neg h3, if_neg (by omega)]
theorem sv_end6 {q q2 s : Nat → Int} {i n : Nat} (hq : ∀ k : Nat, q k = if 90 ≤ k ∧ k < 90 * i then s (k + 90) else s k) (hi : i = 6) (hn : n = 6) (h2 : ∀ k : Nat, q2 k = cpS q 0 6 k) : ∀ k : Nat, q2 k = svS s n k := by
  subst hi; subst hn
  intro k
  rw [h2 k]
  unfold cpS svS
  rw [if_neg (by decide : ¬ 6 < 6)]
  by_cases h : 540 ≤ k ∧ k < 630
  · have e := hq (k - 540)
    rw [if_pos (by omega), show 90 * 0 + (k - 90 * 6) = k - 540 by omega]
    rw [e, if_neg (by omega : ¬ (90 ≤ k ∧ k < 540)), if_pos h]
    exact if_neg (by omega)
  · rw [if_neg (by omega), hq k]
    by_cases h3 : 90 ≤ k ∧ k < 540
    · rw [if_pos (by omega), if_pos h3]
    · rw [if_neg (by omega), if_neg h3, if_neg h]
theorem sv_end0 {q2 s : Nat → Int} {n : Nat} (hn : n < 6) (h2 : ∀ k : Nat, q2 k = cpS s 0 (n + 1) k) : ∀ k : Nat, q2 k = svS s n k := by
  intro k
  rw [h2 k]
  unfold cpS svS
  rw [if_pos (by omega : n < 6)]
  by_cases h : 90 * (n + 1) ≤ k ∧ k < 90 * (n + 1) + 90
  · rw [if_pos h, if_pos h]
    congr 1
    omega
  · rw [if_neg h, if_neg h]

