/-! the reference puts a coin among others -/
def canS (pl : Int) (M : List Int) : Int := if nearS pl M then 0 else 1
theorem canS_0 {pl : Int} {M : List Int} (h : canS pl M = 0) : nearS pl M = true := ins_yes h
theorem canS_n {pl : Int} {M : List Int} (h : canS pl M ≠ 0) : nearS pl M = false := by
  have := ins_no h
  simpa using this
theorem canS_rng (pl : Int) (M : List Int) : canS pl M = 0 ∨ canS pl M = 1 := by
  unfold canS
  split
  · exact Or.inl rfl
  · exact Or.inr rfl
theorem can_go {pl : Int} {L : List Int} {k : Nat} (hk : k < L.length) (h0 : canS pl (L.take k) ≠ 0) (h : 5 ≤ L.getD k 0 - pl ∨ L.getD k 0 - pl ≤ -5) : canS pl (L.take (k + 1)) = 1 := by
  unfold canS
  rw [nearS_take hk, canS_n h0]
  rw [if_neg]
  rw [Bool.false_or, decide_eq_true_iff]
  omega
theorem can_no {pl : Int} {L : List Int} {k : Nat} (hk : k < L.length) (h : canS pl (L.take k) = 0 ∨ (L.getD k 0 - pl < 5 ∧ -5 < L.getD k 0 - pl)) : canS pl (L.take (k + 1)) = 0 := by
  unfold canS
  rw [nearS_take hk]
  rw [if_pos]
  rcases h with h | h
  · rw [canS_0 h]
    rfl
  · rw [Bool.or_eq_true, decide_eq_true_iff]
    exact Or.inr (by omega)
theorem far_of {pl : Int} {L : List Int} (h : nearS pl L = false) {i : Nat} (hi : i < L.length) : 5 ≤ L.getD i 0 - pl ∨ L.getD i 0 - pl ≤ -5 := by
  by_cases q : (pl - L.getD i 0).natAbs < 5
  · have := nearS_of hi q
    rw [h] at this
    cases this
  · omega
theorem rank_at {pl : Int} : ∀ {L : List Int} {a : Nat}, List.Pairwise (fun (x y : Int) => x < y) L → a ≤ L.length → (∀ m : Nat, a ≤ m → m < L.length → pl < L.getD m 0) → (a = 0 ∨ L.getD (a - 1) 0 < pl) → rankS pl L = a
  | [], a, _, h, _, _ => by
    have : a = 0 := by simpa using h
    rw [this]
    rfl
  | x :: L, 0, _, _, h, _ => by
    have := h 0 (Nat.le_refl _) (by simp)
    rw [List.getD_cons_zero] at this
    rw [rankS, if_neg (by omega)]
  | x :: L, a + 1, hs, hl, h, h2 => by
    obtain ⟨hx, hs2⟩ := List.pairwise_cons.mp hs
    have hl2 : a ≤ L.length := by simpa using hl
    have ha : (x :: L).getD a 0 < pl := by
      rcases h2 with q | q
      · cases q
      · exact q
    have hxp : x < pl := by
      cases a with
      | zero => simpa using ha
      | succ a =>
        rw [List.getD_cons_succ] at ha
        have hm : L.getD a 0 ∈ L := by
          have e : L.getD a 0 = L[a]'(by omega) := by simp [List.getD, (by omega : a < L.length)]
          rw [e]
          exact List.getElem_mem _
        have := hx _ hm
        omega
    rw [rankS, if_pos hxp, rank_at hs2 hl2 (fun m h1 h3 => by
      have := h (m + 1) (by omega) (by simp; omega)
      rwa [List.getD_cons_succ] at this) (by
      cases a with
      | zero => exact Or.inl rfl
      | succ a =>
        rw [List.getD_cons_succ] at ha
        exact Or.inr ha)]
theorem put_len {pl : Int} {L : List Int} (hc : chainS (-5) L) (hp : 0 ≤ pl ∧ pl ≤ 99) (h : nearS pl L = false) : L.length ≤ 19 := by
  have h1 := chain_len (ins_chain hc (by omega) hp.2 h)
  rw [insS_len _ _ _ (rankS_le _ _)] at h1
  omega
theorem put_end {s q : Nat → Int} {b j a : Nat} {B : Bd} {pl : Int} (h : blkOk s b B) (hj : j < 3) (hc : chainS (-5) (B.2 j)) (hp : 0 ≤ pl ∧ pl ≤ 99) (hn : nearS pl (B.2 j) = false) (ha : a ≤ (B.2 j).length)
    (h1 : ∀ m : Nat, m ≤ b + 27 + 21 * j + a ∨ b + 27 + 21 * j + 1 + (B.2 j).length < m → q m = s m) (h2 : ∀ m : Nat, a < m → m ≤ (B.2 j).length → q (b + 27 + 21 * j + 1 + m) = s (b + 27 + 21 * j + m)) (h3 : ∀ m : Nat, a ≤ m → m < (B.2 j).length → pl < (B.2 j).getD m 0) (h4 : a = 0 ∨ (B.2 j).getD (a - 1) 0 ≤ pl) :
    blkOk (zU (zU q (b + 27 + 21 * j + 1 + a) pl) (b + 27 + 21 * j) (zU q (b + 27 + 21 * j + 1 + a) pl (b + 27 + 21 * j) + 1)) b (B.1, zU B.2 j (insS (rankS pl (B.2 j)) pl (B.2 j))) ∧ frOk s (zU (zU q (b + 27 + 21 * j + 1 + a) pl) (b + 27 + 21 * j) (zU q (b + 27 + 21 * j + 1 + a) pl (b + 27 + 21 * j) + 1)) b := by
  have hl := h.len hj
  have h19 := put_len hc hp hn
  have hr : rankS pl (B.2 j) = a := by
    refine rank_at (chain_sorted hc) ha h3 ?_
    rcases h4 with e | e
    · exact Or.inl e
    · by_cases e0 : a = 0
      · exact Or.inl e0
      · have := far_of hn (i := a - 1) (by omega)
        exact Or.inr (by omega)
  have hv : zU q (b + 27 + 21 * j + 1 + a) pl (b + 27 + 21 * j) = ((B.2 j).length : Int) := by
    rw [zU_ne _ _ (by omega), h1 _ (by omega)]
    exact hl.1
  rw [hv, hr]
  have hi := insS_len a pl (B.2 j) ha
  have hL := h.lane hj
  rw [hl.1] at hL
  refine ⟨h.setL hj (by omega) ?_ (fun k hk => by rw [zU_ne _ _ (by omega), zU_ne _ _ (by omega)]; exact h1 k (by omega)), fun k hk => by rw [zU_ne _ _ (by omega), zU_ne _ _ (by omega)]; exact h1 k (by omega)⟩
  rw [zU_same]
  refine hL.ins ha (by omega) (by omega) (fun i hi => ?_) ?_ (fun i hi hi2 => ?_)
  · (try dsimp only)
    rw [zU_ne _ _ (by omega), zU_ne _ _ (by omega)]
    exact h1 _ (by omega)
  · (try dsimp only)
    rw [zU_ne _ _ (by omega), zU_same]
  · (try dsimp only)
    rw [zU_ne _ _ (by omega), zU_ne _ _ (by omega), h2 i hi hi2, show b + 27 + 21 * j + 1 + (i - 1) = b + 27 + 21 * j + i by omega]
def putB (B : Bd) (j : Nat) (pl : Int) : Bd := (B.1, zU B.2 j (if nearS pl (B.2 j) then B.2 j else insS (rankS pl (B.2 j)) pl (B.2 j)))
theorem putB_no {s : Nat → Int} {b j : Nat} {B : Bd} {pl : Int} (h : blkOk s b B) (hn : nearS pl (B.2 j) = true) : blkOk s b (putB B j pl) := by
  refine h.eqB (fun _ _ => rfl) (fun i _ => ?_)
  show zU B.2 j _ i = _
  rw [if_pos hn, zU_self]
theorem putB_yes {s : Nat → Int} {b j : Nat} {B : Bd} {pl : Int} (h : blkOk s b (B.1, zU B.2 j (insS (rankS pl (B.2 j)) pl (B.2 j)))) (hn : nearS pl (B.2 j) = false) : blkOk s b (putB B j pl) := by
  unfold putB
  rw [if_neg (by rw [hn]; decide)]
  exact h

