/-! what a game's board holds beside: won just if chalked full; the player by the turns -/
def xtraB (N : Int) (B : Bd) : Prop := (0 ≤ B.1 4 ∧ B.1 4 ≤ N) ∧ (B.1 3 = 0 → chSum (chB B) 0 ≠ 27 ∧ chSum (chB B) 1 ≠ 27 ∧ B.1 1 = B.1 4 % 2) ∧ (B.1 3 = 1 → chSum (chB B) 0 = 27) ∧ (B.1 3 = 2 → chSum (chB B) 1 = 27)
def goodT (N : Int) (σ : Sv) : Prop := goodS σ ∧ xtraB N σ.1 ∧ ∀ B ∈ σ.2.1, xtraB N B
theorem xtraB.mono {M N : Int} {B : Bd} (h : xtraB M B) (hn : M ≤ N) : xtraB N B := ⟨⟨h.1.1, by have := h.1.2; omega⟩, h.2⟩
theorem goodT.mono {M N : Int} {σ : Sv} (h : goodT M σ) (hn : M ≤ N) : goodT N σ := ⟨h.1, h.2.1.mono hn, fun B hB => (h.2.2 B hB).mono hn⟩
theorem refuse_chB (B : Bd) : chB (refuseB B) = chB B := by
  funext i
  exact zU_ne _ _ (by omega)
theorem set_chB (B : Bd) (v : Int) : chB (setB B v) = chB B := by
  funext i
  exact zU_ne _ _ (by omega)
theorem begin_chB (B : Bd) (i : Nat) : chB (beginB B) i = 0 := by
  show (if 9 + i = 1 then (0 : Int) else if 9 + i = 2 then 0 else if 9 + i = 3 then 0 else if 9 + i = 4 then 0 else if 9 + i < 9 then B.1 (9 + i) else 0) = 0
  rw [if_neg (by omega), if_neg (by omega), if_neg (by omega), if_neg (by omega), if_neg (by omega)]
theorem xtra_refuse {N : Int} {B : Bd} (h : xtraB N B) : xtraB N (refuseB B) := by
  unfold xtraB
  rw [refuse_chB]
  exact h
theorem xtra_set {N : Int} {B : Bd} (h : xtraB N B) (v : Int) : xtraB N (setB B v) := by
  unfold xtraB
  rw [set_chB]
  exact h
theorem xtra_lay {N : Int} {B : Bd} (h : xtraB N B) (T : List Int) : xtraB N (layF B T) := by
  unfold layF
  cases putS 0 0 0 (fun _ => []) T with
  | none => exact xtra_refuse h
  | some Ls => exact h
theorem xtra_begin {N : Int} {B : Bd} (hN : 0 ≤ N) : xtraB N (beginB B) := by
  have e0 : chSum (chB (beginB B)) 0 = 0 := (chSum_cong (ch := fun _ => 0) (fun i _ => begin_chB B i) (by omega)).trans rfl
  have e1 : chSum (chB (beginB B)) 1 = 0 := (chSum_cong (ch := fun _ => 0) (fun i _ => begin_chB B i) (by omega)).trans rfl
  unfold xtraB
  rw [e0, e1]
  exact ⟨⟨Int.le_refl _, hN⟩, fun _ => ⟨by decide, by decide, rfl⟩, fun h => absurd h (by show ¬ (0 : Int) = 1; decide), fun h => absurd h (by show ¬ (0 : Int) = 2; decide)⟩
theorem winR_facts (ch : Nat → Int) {pl : Int} (hp : 0 ≤ pl ∧ pl ≤ 1) : (winR ch pl = 0 → chSum ch 0 ≠ 27 ∧ chSum ch 1 ≠ 27) ∧ (winR ch pl = 1 → chSum ch 0 = 27) ∧ (winR ch pl = 2 → chSum ch 1 = 27) := by
  rcases (by omega : pl = 0 ∨ pl = 1) with rfl | rfl
  · have e : winR ch 0 = if chSum ch 0 = 27 then 1 else if chSum ch 1 = 27 then 2 else 0 := rfl
    rw [e]
    by_cases h1 : chSum ch 0 = 27
    · rw [if_pos h1]
      exact ⟨fun h => by omega, fun _ => h1, fun h => by omega⟩
    · rw [if_neg h1]
      by_cases h2 : chSum ch 1 = 27
      · rw [if_pos h2]
        exact ⟨fun h => by omega, fun h => by omega, fun _ => h2⟩
      · rw [if_neg h2]
        exact ⟨fun _ => ⟨h1, h2⟩, fun h => by omega, fun h => by omega⟩
  · have e : winR ch 1 = if chSum ch 1 = 27 then 2 else if chSum ch 0 = 27 then 1 else 0 := rfl
    rw [e]
    by_cases h1 : chSum ch 1 = 27
    · rw [if_pos h1]
      exact ⟨fun h => by omega, fun h => by omega, fun _ => h1⟩
    · rw [if_neg h1]
      by_cases h2 : chSum ch 0 = 27
      · rw [if_pos h2]
        exact ⟨fun h => by omega, fun _ => h2, fun h => by omega⟩
      · rw [if_neg h2]
        exact ⟨fun _ => ⟨h2, h1⟩, fun h => by omega, fun h => by omega⟩
theorem xtra_close {N : Int} {B C : Bd} (h : xtraB N B) (h3 : B.1 3 = 0) (hp : 0 ≤ B.1 1 ∧ B.1 1 ≤ 1) (e1 : C.1 1 = B.1 1) (e4 : C.1 4 = B.1 4) : xtraB (N + 1) (closeB C) := by
  obtain ⟨a, b, -, -⟩ := h
  obtain ⟨-, -, b3⟩ := b h3
  have hf := winR_facts (closeCh (chB C) (C.1 1) (cleanB C)) (pl := C.1 1) (by omega)
  unfold xtraB
  rw [closeB_ch]
  show (0 ≤ C.1 4 + 1 ∧ C.1 4 + 1 ≤ N + 1) ∧ (winR (closeCh (chB C) (C.1 1) (cleanB C)) (C.1 1) = 0 → chSum (closeCh (chB C) (C.1 1) (cleanB C)) 0 ≠ 27 ∧ chSum (closeCh (chB C) (C.1 1) (cleanB C)) 1 ≠ 27 ∧ (if winR (closeCh (chB C) (C.1 1) (cleanB C)) (C.1 1) = 0 then 1 - C.1 1 else C.1 1) = (C.1 4 + 1) % 2) ∧ (winR (closeCh (chB C) (C.1 1) (cleanB C)) (C.1 1) = 1 → chSum (closeCh (chB C) (C.1 1) (cleanB C)) 0 = 27) ∧ (winR (closeCh (chB C) (C.1 1) (cleanB C)) (C.1 1) = 2 → chSum (closeCh (chB C) (C.1 1) (cleanB C)) 1 = 27)
  refine ⟨by omega, fun hw => ⟨(hf.1 hw).1, (hf.1 hw).2, ?_⟩, hf.2.1, hf.2.2⟩
  rw [if_pos hw]
  omega
theorem xtra_push {N : Int} {B : Bd} (h : xtraB N B) (hp : 0 ≤ B.1 1 ∧ B.1 1 ≤ 1) (j : Nat) (st : Int) : xtraB (N + 1) (pushF B j st) := by
  unfold pushF
  split
  · rename_i h3
    unfold pushB
    split
    · exact xtra_close h h3 hp rfl rfl
    · have e : xtraB N (push1 B j st) := by
        unfold xtraB
        rw [push1_ch]
        exact h
      exact e.mono (by omega)
  · exact (xtra_refuse h).mono (by omega)
theorem xtra_end {N : Int} {B : Bd} (h : xtraB N B) (hp : 0 ≤ B.1 1 ∧ B.1 1 ≤ 1) : xtraB (N + 1) (endF B) := by
  unfold endF
  split
  · rename_i h3
    exact xtra_close h h3 hp rfl rfl
  · exact (xtra_refuse h).mono (by omega)
theorem goodT.save {N : Int} {B B' : Bd} {S : List Bd} {K : Nat → Option Bd} {T T' : List Int} (h : goodT N (B, S, K, T)) (h' : bdGood B') (hx : xtraB (N + 1) B') : goodT (N + 1) (B', saveL S B, K, T') :=
  ⟨h.1.save h', hx, fun C hC => by
    rcases saveL_mem hC with q | q
    · exact (h.2.2 C q).mono (by omega)
    · rw [q]
      exact h.2.1.mono (by omega)⟩
theorem saveL_last (S : List Bd) (B : Bd) : (saveL S B).getLast? = some B := by
  unfold saveL
  split <;> simp
theorem saveL_drop {S : List Bd} {B : Bd} : (saveL S B).dropLast = if S.length < 6 then S else S.tail := by
  unfold saveL
  split <;> simp
theorem saveL_drop_lt {S : List Bd} {B : Bd} (h : S.length < 6) : (saveL S B).dropLast = S := by rw [saveL_drop, if_pos h]
/-- behind a call that saved, and undo -/
theorem goodT.back {N : Int} {B : Bd} {S : List Bd} {K : Nat → Option Bd} {T T' : List Int} (h : goodT N (B, S, K, T)) : goodT N (B, (saveL S B).dropLast, K, T') := by
  have hm : ∀ C ∈ (saveL S B).dropLast, C ∈ S := by
    intro C hC
    rw [saveL_drop] at hC
    split at hC
    · exact hC
    · exact List.mem_of_mem_tail hC
  refine ⟨⟨h.1.1, fun C hC => h.1.2.1 C (hm C hC), h.1.2.2.1, ?_⟩, h.2.1, fun C hC => h.2.2 C (hm C hC)⟩
  have h4 : S.length ≤ 6 := h.1.2.2.2
  show (saveL S B).dropLast.length ≤ 6
  rw [saveL_drop]
  split
  · exact h4
  · rw [List.length_tail]
    omega
theorem saveL_pos (S : List Bd) (B : Bd) : 0 < (saveL S B).length := by
  unfold saveL
  split <;> simp
/-! clean coins: one of a lane in a bed at most -/
theorem clean_none {x b : Int} {L : List Int} (hb : 0 ≤ b ∧ b < 9) (h : chainS x L) (hx : 10 * b + 8 ≤ x) : cleanS b L = 0 := by
  unfold cleanS
  have e : L.countP (fun y => decide (bedAtS y = b)) = 0 := List.countP_eq_zero.mpr (fun y hy => by
    have h1 := chain_lt h y hy
    simp only [decide_eq_true_eq]
    intro e
    have := (bedAtS_iff hb.1 hb.2).mp e
    omega)
  rw [e]
  rfl
theorem clean_one {b : Int} (hb : 0 ≤ b ∧ b < 9) : ∀ {x : Int} {L : List Int}, chainS x L → cleanS b L ≤ 1
  | _, [], _ => by show (0 : Int) ≤ 1; decide
  | x, c :: cs, h => by
    rw [cleanS_cons]
    by_cases e : bedAtS c = b
    · have h1 := (bedAtS_iff hb.1 hb.2).mp e
      rw [if_pos e, clean_none hb h.2.2 h1.1]
      decide
    · rw [if_neg e]
      have := clean_one hb h.2.2
      omega
theorem clean_three {B : Bd} (h : bdGood B) {b : Int} (hb : 0 ≤ b ∧ b < 9) : 0 ≤ cleanB B b ∧ cleanB B b ≤ 3 := by
  have h0 := clean_one hb (good_ch h (j := 0) (by omega))
  have h1 := clean_one hb (good_ch h (j := 1) (by omega))
  have h2 := clean_one hb (good_ch h (j := 2) (by omega))
  have := cleanB_pos B b
  unfold cleanB at this ⊢
  omega
theorem law_in {x : Int} (h : 0 ≤ x ∧ x ≤ 99) (h1 : (x + 2) % 10 < 5) (h2 : 0 ≤ (x + 2) / 10 - 1) (h3 : (x + 2) / 10 - 1 < 9) : bedAtS x = (x + 2) / 10 - 1 := by
  unfold bedAtS
  rw [if_neg (by omega), if_pos (by omega)]
  omega
theorem law_out {x : Int} (h : 0 ≤ x ∧ x ≤ 99) (h1 : ¬ ((x + 2) % 10 < 5 ∧ 0 ≤ (x + 2) / 10 - 1 ∧ (x + 2) / 10 - 1 < 9)) : bedAtS x = -1 := by
  unfold bedAtS
  by_cases h2 : x - 8 < 0 ∨ 4 < (x - 8) % 10
  · rw [if_pos h2]
  · rw [if_neg h2, if_neg (by omega)]
theorem coin_cases {L : List Int} {r : Nat} {pl : Int} (hc : chainS (-5) L) (h : placeAtS L (r : Int) = pl) : (r < L.length ∧ pl = L.getD r 0 ∧ 0 ≤ pl ∧ pl ≤ 99) ∨ (¬ r < L.length ∧ pl = -1) := by
  by_cases e : r < L.length
  · rw [placeAtS_nat e] at h
    have := chain_get hc r e
    exact Or.inl ⟨e, h.symm, by omega, by omega⟩
  · unfold placeAtS at h
    rw [if_neg (by omega)] at h
    exact Or.inr ⟨e, h.symm⟩
theorem chain_gap : ∀ {x : Int} {L : List Int}, chainS x L → ∀ {r : Nat}, r + 1 < L.length → L.getD r 0 + 5 ≤ L.getD (r + 1) 0
  | _, [], _, r, h => absurd h (Nat.not_lt_zero _)
  | x, [c], h, r, hr => by simp at hr
  | x, c :: d :: cs, h, 0, _ => h.2.2.1
  | x, c :: d :: cs, h, r + 1, hr => by
    simp only [List.getD_cons_succ]
    exact chain_gap h.2.2 (by simpa using hr)
theorem chain_before {L : List Int} (hc : chainS (-5) L) {r : Nat} (h0 : 0 < r) (hr : r < L.length) : 0 ≤ L.getD (r - 1) 0 ∧ L.getD (r - 1) 0 + 5 ≤ L.getD r 0 := by
  have h1 := chain_get hc (r - 1) (by omega)
  have h2 := chain_gap hc (r := r - 1) (by omega)
  rw [show r - 1 + 1 = r by omega] at h2
  omega
theorem beds_in {g s : Nat → Int} {L : List Int} {r : Nat} {pl : Int} (hg : ∀ b : Nat, b < 9 → g b = s b + cleanS (b : Int) (L.take r)) (hr : r < L.length) (hp : pl = L.getD r 0) (hin : bedAtS pl = (pl + 2) / 10 - 1) (h0 : 0 ≤ (pl + 2) / 10 - 1) : ∀ b : Nat, b < 9 → zU g ((pl + 2) / 10 - 1).toNat (g ((pl + 2) / 10 - 1).toNat + 1) b = s b + cleanS (b : Int) (L.take (r + 1)) := by
  intro b hb
  rw [cleanS_take _ _ _ hr, ← hp, hin]
  by_cases e : b = ((pl + 2) / 10 - 1).toNat
  · rw [← e, zU_same, hg b hb, if_pos (by omega)]
    omega
  · rw [zU_ne _ _ e, hg b hb, if_neg (by omega)]
    omega
theorem beds_out {g s : Nat → Int} {L : List Int} {r : Nat} {pl : Int} (hg : ∀ b : Nat, b < 9 → g b = s b + cleanS (b : Int) (L.take r)) (hr : r < L.length) (hp : pl = L.getD r 0) (hout : bedAtS pl = -1) : ∀ b : Nat, b < 9 → zU g 0 (g 0) b = s b + cleanS (b : Int) (L.take (r + 1)) := by
  intro b hb
  rw [zU_self, cleanS_take _ _ _ hr, ← hp, hout, if_neg (by omega), hg b hb]
  omega
theorem own_0 {ch : Nat → Int} {pl b cl c1 : Int} (hp : pl = 0) (h1 : ch (0 * 9 + b).toNat = c1) : ownR ch pl b cl = min cl (3 - c1) := by
  subst hp
  unfold ownR
  rw [h1]
theorem oth_0 {ch : Nat → Int} {pl b cl c1 c2 : Int} (hp : pl = 0) (h1 : ch (0 * 9 + b).toNat = c1) (h2 : ch (1 * 9 + b).toNat = c2) : othR ch pl b cl = min (cl - min cl (3 - c1)) (3 - c2) := by
  unfold othR
  rw [own_0 hp h1, hp, show (1 - 0 : Int) = 1 from rfl, h2]
theorem own_1 {ch : Nat → Int} {pl b cl c2 : Int} (hp : pl = 1) (h1 : ch (1 * 9 + b).toNat = c2) : ownR ch pl b cl = min cl (3 - c2) := by
  subst hp
  unfold ownR
  rw [h1]
theorem oth_1 {ch : Nat → Int} {pl b cl c1 c2 : Int} (hp : pl = 1) (h1 : ch (0 * 9 + b).toNat = c1) (h2 : ch (1 * 9 + b).toNat = c2) : othR ch pl b cl = min (cl - min cl (3 - c2)) (3 - c1) := by
  unfold othR
  rw [own_1 hp h2, hp, show (1 - 1 : Int) = 0 from rfl, h1]
theorem count_any {B : Bd} {a b : Int} {n : Nat} (h : n < 12) : countB B a n = countB B b n := by
  rcases (by omega : n = 0 ∨ n = 1 ∨ n = 2 ∨ n = 3 ∨ n = 4 ∨ n = 5 ∨ n = 6 ∨ n = 7 ∨ n = 8 ∨ n = 9 ∨ n = 10 ∨ n = 11) with rfl | rfl | rfl | rfl | rfl | rfl | rfl | rfl | rfl | rfl | rfl | rfl <;> rfl
/-- what the law prints of a board -/
def printB (B : Bd) : Int := foldH (fun k => bedOfS (chB B) (B.1 1) ((k : Int) / 2) (cleanB B ((k : Int) / 2)) (1 + (k : Int) % 2)) (foldH (fun k => placeAtS (B.2 ((k : Int) / 20).toNat) ((k : Int) % 20)) (foldH (fun k => countB B 0 k) (zw32 (B.1 0)) 12) 60) 18
