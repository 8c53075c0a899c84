/-! what the reference sums over a block -/
theorem sumTo_add (f : Nat → Int) (a : Nat) : ∀ n : Nat, sumTo f (a + n) = sumTo f a + sumTo (fun i => f (a + i)) n
  | 0 => by simp [sumTo]
  | n + 1 => by
    show sumTo f (a + n) + f (a + n) = sumTo f a + (sumTo (fun i => f (a + i)) n + f (a + n))
    rw [sumTo_add f a n]
    omega
def inBed (bed x : Int) : Int := if 10 * bed + 8 ≤ x ∧ x ≤ 10 * bed + 12 then 1 else 0
def pcl (B : Bd) (bed : Int) (k : Nat) : Int := sumTo (fun i => inBed bed (coinS (B.2 (i / 20)) (i % 20))) k
theorem pcl_in {B : Bd} {bed : Int} {k : Nat} (h : (if 10 * bed + 8 ≤ coinS (B.2 (k / 20)) (k % 20) ∧ coinS (B.2 (k / 20)) (k % 20) ≤ 10 * bed + 12 then (1 : Int) else 0) ≠ 0) : pcl B bed (k + 1) = pcl B bed k + 1 := by
  show pcl B bed k + inBed bed _ = _
  rw [show inBed bed (coinS (B.2 (k / 20)) (k % 20)) = 1 from if_pos (ifz_ne h)]
theorem pcl_out {B : Bd} {bed : Int} {k : Nat} (h : (if 10 * bed + 8 ≤ coinS (B.2 (k / 20)) (k % 20) ∧ coinS (B.2 (k / 20)) (k % 20) ≤ 10 * bed + 12 then (1 : Int) else 0) = 0) : pcl B bed (k + 1) = pcl B bed k := by
  show pcl B bed k + inBed bed _ = _
  rw [show inBed bed (coinS (B.2 (k / 20)) (k % 20)) = 0 from if_neg (ifz_eq h), Int.add_zero]
theorem pcl_rng (B : Bd) (bed : Int) : ∀ k : Nat, 0 ≤ pcl B bed k ∧ pcl B bed k ≤ k
  | 0 => by simp [pcl, sumTo]
  | k + 1 => by
    have := pcl_rng B bed k
    show 0 ≤ pcl B bed k + inBed bed _ ∧ pcl B bed k + inBed bed _ ≤ _
    unfold inBed
    split <;> omega
theorem lane20 {L : List Int} {bed : Int} (hb : 0 ≤ bed ∧ bed < 9) : ∀ n : Nat, sumTo (fun i => inBed bed (coinS L i)) n = cleanS bed (L.take n)
  | 0 => by simp [sumTo, cleanS]
  | n + 1 => by
    rw [sumTo, lane20 hb n]
    by_cases h : n < L.length
    · rw [cleanS_take bed L n h, coinS_lt h]
      congr 1
      unfold inBed
      by_cases q : bedAtS (L.getD n 0) = bed
      · rw [if_pos q, if_pos ((bedAtS_iff hb.1 hb.2).mp q)]
      · rw [if_neg q, if_neg (fun x => q ((bedAtS_iff hb.1 hb.2).mpr x))]
    · rw [coinS_ge h]
      unfold inBed
      rw [if_neg (by omega), List.take_of_length_le (by omega), List.take_of_length_le (by omega), Int.add_zero]
theorem pcl_60 {B : Bd} {bed : Int} (hb : 0 ≤ bed ∧ bed < 9) (hl : ∀ j : Nat, j < 3 → (B.2 j).length ≤ 20) : pcl B bed 60 = cleanB B bed := by
  unfold pcl cleanB
  have e0 : sumTo (fun i => inBed bed (coinS (B.2 (i / 20)) (i % 20))) 20 = cleanS bed (B.2 0) := by
    rw [sumTo_cong (g := fun i => inBed bed (coinS (B.2 0) i)) (fun i hi => by rw [show i / 20 = 0 by omega, show i % 20 = i by omega]), lane20 hb, List.take_of_length_le (hl 0 (by omega))]
  have e1 : sumTo (fun i => inBed bed (coinS (B.2 ((20 + i) / 20)) ((20 + i) % 20))) 20 = cleanS bed (B.2 1) := by
    rw [sumTo_cong (g := fun i => inBed bed (coinS (B.2 1) i)) (fun i hi => by rw [show (20 + i) / 20 = 1 by omega, show (20 + i) % 20 = i by omega]), lane20 hb, List.take_of_length_le (hl 1 (by omega))]
  have e2 : sumTo (fun i => inBed bed (coinS (B.2 ((40 + i) / 20)) ((40 + i) % 20))) 20 = cleanS bed (B.2 2) := by
    rw [sumTo_cong (g := fun i => inBed bed (coinS (B.2 2) i)) (fun i hi => by rw [show (40 + i) / 20 = 2 by omega, show (40 + i) % 20 = i by omega]), lane20 hb, List.take_of_length_le (hl 2 (by omega))]
  rw [show (60 : Nat) = 40 + 20 from rfl, sumTo_add, show (40 : Nat) = 20 + 20 from rfl, sumTo_add, e0, e1]
  rw [show (20 : Nat) + 20 = 40 from rfl, e2]
theorem blkOk.l20 {s : Nat → Int} {b : Nat} {B : Bd} (h : blkOk s b B) : ∀ j : Nat, j < 3 → (B.2 j).length ≤ 20 := fun j hj => (h.2 j hj).1
theorem cleanB_rng {B : Bd} (hl : ∀ j : Nat, j < 3 → (B.2 j).length ≤ 20) (bed : Int) : 0 ≤ cleanB B bed ∧ cleanB B bed ≤ 60 := by
  have h0 := hl 0 (by omega)
  have h1 := hl 1 (by omega)
  have h2 := hl 2 (by omega)
  have y0 := cleanS_rng bed (B.2 0)
  have y1 := cleanS_rng bed (B.2 1)
  have y2 := cleanS_rng bed (B.2 2)
  unfold cleanB
  omega
theorem one_of (v : Int) : ∀ n : Nat, sumTo (fun b => if v = (b : Int) then 1 else 0) n = if 0 ≤ v ∧ v < n then 1 else 0
  | 0 => by
    rw [if_neg (by omega)]
    rfl
  | n + 1 => by
    rw [sumTo, one_of v n]
    by_cases h : v = (n : Int)
    · rw [if_pos h, if_neg (by omega), if_pos (by omega), Int.zero_add]
    · rw [if_neg h, Int.add_zero]
      by_cases h2 : 0 ≤ v ∧ v < (n : Int)
      · rw [if_pos h2, if_pos (by omega)]
      · rw [if_neg h2, if_neg (by omega)]
theorem sumTo_sum (f g : Nat → Int) : ∀ n : Nat, sumTo (fun i => f i + g i) n = sumTo f n + sumTo g n
  | 0 => rfl
  | n + 1 => by
    rw [sumTo, sumTo, sumTo, sumTo_sum f g n]
    omega
theorem cleanS_cons (bed x : Int) (L : List Int) : cleanS bed (x :: L) = cleanS bed L + (if bedAtS x = bed then 1 else 0) := by
  unfold cleanS
  rw [List.countP_cons]
  split <;> simp_all
theorem cleanAllS_cons (x : Int) (L : List Int) : cleanAllS (x :: L) = cleanAllS L + (if bedAtS x = -1 then 0 else 1) := by
  unfold cleanAllS
  rw [List.countP_cons]
  split <;> simp_all
theorem sumTo_0 : ∀ n : Nat, sumTo (fun _ => 0) n = 0
  | 0 => rfl
  | n + 1 => by rw [sumTo, sumTo_0 n]; rfl
theorem cleanAll_sum : ∀ L : List Int, sumTo (fun b => cleanS b L) 9 = cleanAllS L
  | [] => by
    rw [sumTo_cong (g := fun _ => 0) (fun i _ => by simp [cleanS]), sumTo_0]
    simp [cleanAllS]
  | x :: L => by
    rw [sumTo_cong (g := fun b => cleanS b L + (if bedAtS x = (b : Int) then 1 else 0)) (fun i _ => cleanS_cons _ _ _), sumTo_sum, cleanAll_sum L, cleanAllS_cons, one_of]
    have := bedAtS_rng x
    by_cases h : bedAtS x = -1
    · rw [if_pos h, if_neg (by omega)]
    · rw [if_neg h, if_pos (by omega)]
def cleanAllB (B : Bd) : Int := (cleanAllS (B.2 0) + cleanAllS (B.2 1)) + cleanAllS (B.2 2)
theorem cleanAllB_sum (B : Bd) : sumTo (fun b => cleanB B b) 9 = cleanAllB B := by
  unfold cleanB cleanAllB
  rw [sumTo_sum (fun b => cleanS b (B.2 0) + cleanS b (B.2 1)), sumTo_sum, cleanAll_sum, cleanAll_sum, cleanAll_sum]
theorem chalk_at {s : Nat → Int} {b : Nat} {B : Bd} (h : blkOk s b B) {pl bed : Int} (hp : 0 ≤ pl ∧ pl ≤ 1) (hb : 0 ≤ bed ∧ bed < 9) {i : Nat} (hi : (i : Int) = b + 9 + 9 * pl + bed) : s i = chB B (pl * 9 + bed).toNat := by
  have e : i = b + (9 + (pl * 9 + bed).toNat) := by omega
  rw [e]
  exact h.num (by omega)
def allP (B : Bd) (pl : Int) (n : Nat) : Int := if sumTo (fun b => chB B (pl * 9 + (b : Int)).toNat) n = 3 * n then 1 else 0
theorem allP_step {B : Bd} (h : chOk (chB B)) {pl : Int} (hp : 0 ≤ pl ∧ pl ≤ 1) {n : Nat} (hn : n < 9) : (allP B pl n ≠ 0 → chB B (pl * 9 + (n : Int)).toNat = 3 → allP B pl (n + 1) = 1) ∧ (allP B pl n = 0 → allP B pl (n + 1) = 0) ∧ (chB B (pl * 9 + (n : Int)).toNat ≠ 3 → allP B pl (n + 1) = 0) := by
  have h1 := sumTo_rng (f := fun b => chB B (pl * 9 + (b : Int)).toNat) (a := 0) (b := 3) (n := n) (fun i hi => h _ (by omega))
  have h2 := h (pl * 9 + (n : Int)).toNat (by omega)
  have e : sumTo (fun b => chB B (pl * 9 + (b : Int)).toNat) (n + 1) = sumTo (fun b => chB B (pl * 9 + (b : Int)).toNat) n + chB B (pl * 9 + (n : Int)).toNat := rfl
  unfold allP
  rw [e]
  refine ⟨fun a c => ?_, fun a => ?_, fun a => ?_⟩
  · have := ifz_ne a
    rw [if_pos (by omega)]
  · have := ifz_eq a
    rw [if_neg (by omega)]
  · rw [if_neg (by omega)]
theorem allP_9 (B : Bd) (pl : Int) : allP B pl 9 = if chSum (chB B) pl = 27 then 1 else 0 := rfl
theorem blk_clear {s : Nat → Int} {B : Bd} (h : blkOk s 0 B) : blkOk (zU (zU (zU s (0 + 27 + 21 * 0) 0) (0 + 27 + 21 * 1) 0) (0 + 27 + 21 * 2) 0) 0 (B.1, fun _ => []) := by
  refine ⟨fun k hk => ?_, fun j hj => ⟨by simp, ?_⟩⟩
  · rw [zU_ne _ _ (by omega), zU_ne _ _ (by omega), zU_ne _ _ (by omega)]
    exact h.1 k hk
  · have e : ∀ g : Nat → Int, (zU (zU (zU s (0 + 27 + 21 * 0) 0) (0 + 27 + 21 * 1) 0) (0 + 27 + 21 * 2) 0) (0 + 27 + 21 * j) = 0 := by
      intro _
      rcases (by omega : j = 0 ∨ j = 1 ∨ j = 2) with rfl | rfl | rfl
      · rw [zU_ne _ _ (by omega), zU_ne _ _ (by omega), zU_same]
      · rw [zU_ne _ _ (by omega), zU_same]
      · rw [zU_same]
    rw [e (fun _ => 0)]
    exact laneOk.nil _
/-- the board while a turn's end is at a bed -/
def clB (B : Bd) (i : Nat) : Bd := (fun k => if k < 9 then B.1 k else closeAt (chB B) (B.1 1) (cleanB B) i (k - 9), B.2)
theorem clB_ch (B : Bd) (i k : Nat) : chB (clB B i) k = closeAt (chB B) (B.1 1) (cleanB B) i k := by
  show (if 9 + k < 9 then _ else closeAt (chB B) (B.1 1) (cleanB B) i (9 + k - 9)) = _
  rw [if_neg (by omega), show 9 + k - 9 = k by omega]
theorem clB_0 {s : Nat → Int} {B : Bd} (h : blkOk s 0 B) : blkOk s 0 (clB B 0) := by
  refine h.eqB (fun k hk => ?_) (fun _ _ => rfl)
  show (if k < 9 then _ else closeAt (chB B) (B.1 1) (cleanB B) 0 (k - 9)) = _
  by_cases e : k < 9
  · rw [if_pos e]
  · rw [if_neg e, closeAt_0]
    show B.1 (9 + (k - 9)) = B.1 k
    rw [show 9 + (k - 9) = k by omega]
theorem clB_own {B : Bd} {i : Nat} (hi : i < 9) (hp : 0 ≤ B.1 1 ∧ B.1 1 ≤ 1) : ownR (chB (clB B i)) ((clB B i).1 1) i (cleanB (clB B i) i) = ownR (chB B) (B.1 1) i (cleanB B i) := by
  refine ownR_cong ?_
  rw [clB_ch]
  exact closeAt_same hi hp
theorem clB_oth {B : Bd} {i : Nat} (hi : i < 9) (hp : 0 ≤ B.1 1 ∧ B.1 1 ≤ 1) : othR (chB (clB B i)) ((clB B i).1 1) i (cleanB (clB B i) i) = othR (chB B) (B.1 1) i (cleanB B i) := by
  refine othR_cong ?_ ?_
  · rw [clB_ch]
    exact closeAt_same hi hp
  · rw [clB_ch]
    exact closeAt_same hi (o := 1 - B.1 1) (by omega)
theorem clB_ok {B : Bd} (h : chOk (chB B)) (hp : 0 ≤ B.1 1 ∧ B.1 1 ≤ 1) (hc : ∀ b, 0 ≤ cleanB B b) (i : Nat) : chOk (chB (clB B i)) := by
  intro k hk
  rw [clB_ch]
  exact closeAt_ok h hp hc i k hk
theorem clB_step {q : Nat → Int} {B : Bd} {i : Nat} (hi : i < 9) (h : blkOk q 0 (clB B i)) (hp : 0 ≤ B.1 1 ∧ B.1 1 ≤ 1) {x y : Int} (hx : x = ownR (chB B) (B.1 1) i (cleanB B i)) (hy : y = othR (chB B) (B.1 1) i (cleanB B i)) {m n : Nat} (hm : (m : Int) = 9 + 9 * B.1 1 + i) (hn : (n : Int) = 9 + 9 * (1 - B.1 1) + i) :
    blkOk (zU (zU q m (q m + x)) n (zU q m (q m + x) n + y)) 0 (clB B (i + 1)) := by
  have hst := closeAt_step (ch := chB B) (q := closeAt (chB B) (B.1 1) (cleanB B) i) hp (c := cleanB B) hi (fun k _ => rfl) x y hx hy
  have em : m = 0 + (9 + (B.1 1 * 9 + (i : Int)).toNat) := by omega
  have en : n = 0 + (9 + ((1 - B.1 1) * 9 + (i : Int)).toNat) := by omega
  have v1 : q m = closeAt (chB B) (B.1 1) (cleanB B) i (B.1 1 * 9 + (i : Int)).toNat := by
    rw [em, h.num (by omega)]
    exact clB_ch B i _
  have v2 : q n = closeAt (chB B) (B.1 1) (cleanB B) i ((1 - B.1 1) * 9 + (i : Int)).toNat := by
    rw [en, h.num (by omega)]
    exact clB_ch B i _
  have hmn : m ≠ n := by omega
  rw [zU_ne _ _ hmn.symm, v1, v2]
  rw [zU_ne _ _ (by omega)] at hst
  have h1 := (h.setN (k := 9 + (B.1 1 * 9 + (i : Int)).toNat) (by omega) (closeAt (chB B) (B.1 1) (cleanB B) i (B.1 1 * 9 + (i : Int)).toNat + x)).setN (k := 9 + ((1 - B.1 1) * 9 + (i : Int)).toNat) (by omega) (closeAt (chB B) (B.1 1) (cleanB B) i ((1 - B.1 1) * 9 + (i : Int)).toNat + y)
  rw [em, en]
  refine h1.eqB (fun k hk => ?_) (fun _ _ => rfl)
  show (if k < 9 then B.1 k else closeAt (chB B) (B.1 1) (cleanB B) (i + 1) (k - 9)) = zU (zU (clB B i).1 _ _) _ _ k
  by_cases e : k < 9
  · rw [if_pos e, zU_ne _ _ (by omega), zU_ne _ _ (by omega)]
    show _ = (if k < 9 then B.1 k else _)
    rw [if_pos e]
  · rw [if_neg e, ← hst (k - 9) (by omega)]
    by_cases e2 : k = 9 + ((1 - B.1 1) * 9 + (i : Int)).toNat
    · rw [e2, zU_same, show 9 + ((1 - B.1 1) * 9 + (i : Int)).toNat - 9 = ((1 - B.1 1) * 9 + (i : Int)).toNat by omega, zU_same]
    · rw [zU_ne _ _ e2, zU_ne _ _ (by omega)]
      by_cases e1 : k = 9 + (B.1 1 * 9 + (i : Int)).toNat
      · rw [e1, zU_same, show 9 + (B.1 1 * 9 + (i : Int)).toNat - 9 = (B.1 1 * 9 + (i : Int)).toNat by omega, zU_same]
      · rw [zU_ne _ _ e1, zU_ne _ _ (by omega)]
        show _ = (if k < 9 then B.1 k else _)
        rw [if_neg e]
theorem cl_fin {s4 : Nat → Int} {B : Bd} {V w p : Int} (h : blkOk s4 0 (zU (zU (clB B 9).1 2 0) 4 V, fun _ => [])) (hV : V = B.1 4 + 1) (hw : w = winR (closeCh (chB B) (B.1 1) (cleanB B)) (B.1 1)) (hp : p = if w = 0 then 1 - B.1 1 else B.1 1) : blkOk (zU (zU s4 3 w) 1 p) 0 (closeB B) := by
  have h1 := (h.setN (k := 3) (by omega) w).setN (k := 1) (by omega) p
  refine h1.eqB (fun k hk => ?_) (fun _ _ => rfl)
  subst hw; subst hp; subst hV
  show (if k = 1 then (if winR (closeCh (chB B) (B.1 1) (cleanB B)) (B.1 1) = 0 then 1 - B.1 1 else B.1 1) else if k = 2 then 0 else if k = 3 then winR (closeCh (chB B) (B.1 1) (cleanB B)) (B.1 1) else if k = 4 then B.1 4 + 1 else if k < 9 then B.1 k else closeCh (chB B) (B.1 1) (cleanB B) (k - 9)) = zU (zU (zU (zU (clB B 9).1 2 0) 4 _) 3 _) 1 _ k
  by_cases e1 : k = 1
  · rw [if_pos e1, e1, zU_same]
  · rw [if_neg e1, zU_ne _ _ e1]
    by_cases e3 : k = 3
    · rw [if_neg (by omega), if_pos e3, e3, zU_same]
    · rw [zU_ne _ _ e3]
      by_cases e4 : k = 4
      · rw [if_neg (by omega), if_neg e3, if_pos e4, e4, zU_same]
      · rw [zU_ne _ _ e4]
        by_cases e2 : k = 2
        · rw [if_pos e2, e2, zU_same]
        · rw [if_neg e2, if_neg e3, if_neg e4, zU_ne _ _ e2]
          show _ = (if k < 9 then B.1 k else closeAt (chB B) (B.1 1) (cleanB B) 9 (k - 9))
          by_cases e : k < 9
          · rw [if_pos e, if_pos e]
          · rw [if_neg e, if_neg e, closeAt_9]
theorem cl_ch {B : Bd} {V : Int} {L : Nat → List Int} : ∀ i : Nat, i < 18 → chB (zU (zU (clB B 9).1 2 0) 4 V, L) i = closeCh (chB B) (B.1 1) (cleanB B) i := by
  intro i _
  show zU (zU (clB B 9).1 2 0) 4 V (9 + i) = _
  rw [zU_ne _ _ (by omega), zU_ne _ _ (by omega)]
  exact (clB_ch B 9 i).trans (closeAt_9 _ _ _ _)
theorem cl_win {B C : Bd} {w : Int} (hp : 0 ≤ B.1 1 ∧ B.1 1 ≤ 1) (h : ∀ i : Nat, i < 18 → chB C i = closeCh (chB B) (B.1 1) (cleanB B) i) (hw : w = winR (chB C) (B.1 1)) : w = winR (closeCh (chB B) (B.1 1) (cleanB B)) (B.1 1) := hw.trans (winR_c h hp)
theorem refuse_blk {s : Nat → Int} {B : Bd} (h : blkOk s 0 B) : blkOk (zU s 8 (s 8 + 1)) 0 (refuseB B) := by
  have h1 := h.setN (k := 8) (by omega) (s 8 + 1)
  have e : s 8 = B.1 8 := h.num (k := 8) (by omega)
  rw [e] at h1 ⊢
  exact h1
theorem zU_self {α : Type} (f : Nat → α) (k : Nat) : zU f k (f k) = f := by
  funext i
  by_cases e : i = k
  · subst e; exact zU_same _ _ _
  · exact zU_ne _ _ e
theorem cp_blk {s s2 : Nat → Int} {f t : Nat} {B : Bd} (h : blkOk s (90 * f) B) (hc : ∀ k : Nat, s2 k = cpS s f t k) : blkOk s2 (90 * t) B :=
  h.move (fun k hk => by rw [hc]; unfold cpS; rw [if_pos (by omega), show 90 * t + k - 90 * t = k by omega])
theorem cp_fr {s s2 : Nat → Int} {f t : Nat} (hc : ∀ k : Nat, s2 k = cpS s f t k) : frOk s s2 (90 * t) := fun k hk => by
  rw [hc]
  unfold cpS
  rw [if_neg (by omega)]
theorem push0_nums (B : Bd) (j : Nat) (st : Int) {k : Nat} (h : k < 5 ∨ 7 < k) : (push0 B j st).1 k = B.1 k := by
  show zU (zU (zU B.1 5 _) 6 _) 7 _ k = _
  rw [zU_ne _ _ (by omega), zU_ne _ _ (by omega), zU_ne _ _ (by omega)]
theorem push0_ch (B : Bd) (j : Nat) (st : Int) : chB (push0 B j st) = chB B := by
  funext i
  exact push0_nums B j st (by omega)
theorem push0_lane (B : Bd) (j : Nat) (st : Int) : (push0 B j st).2 = zU B.2 j (restL (B.1 0) st (B.2 j)) := rfl
theorem push0_clean {B : Bd} {j : Nat} (hj : j < 3) (st bed : Int) : cleanB (push0 B j st) bed = cleanB B bed - cleanS bed (B.2 j) + cleanS bed (restL (B.1 0) st (B.2 j)) := by
  unfold cleanB
  rw [push0_lane]
  rcases (by omega : j = 0 ∨ j = 1 ∨ j = 2) with rfl | rfl | rfl
  · rw [zU_same, zU_ne _ _ (by omega), zU_ne _ _ (by omega)]
    omega
  · rw [zU_same, zU_ne _ _ (by omega), zU_ne _ _ (by omega)]
    omega
  · rw [zU_same, zU_ne _ _ (by omega), zU_ne _ _ (by omega)]
    omega
theorem push0_all {B : Bd} {j : Nat} (hj : j < 3) (st : Int) : cleanAllB (push0 B j st) = (cleanAllB B - cleanAllS (B.2 j)) + cleanAllS (restL (B.1 0) st (B.2 j)) := by
  unfold cleanAllB
  rw [push0_lane]
  rcases (by omega : j = 0 ∨ j = 1 ∨ j = 2) with rfl | rfl | rfl
  · rw [zU_same, zU_ne _ _ (by omega), zU_ne _ _ (by omega)]
    omega
  · rw [zU_same, zU_ne _ _ (by omega), zU_ne _ _ (by omega)]
    omega
  · rw [zU_same, zU_ne _ _ (by omega), zU_ne _ _ (by omega)]
    omega
def leadG (C : Bd) : Int := leadR (chB C) (C.1 1) (fun b => cleanB C b)
abbrev leadF (B : Bd) (j : Nat) : Nat → Int := fun st => leadG (push0 B j (st : Int))
theorem leadG_rng {C : Bd} (hc : chOk (chB C)) (hp : 0 ≤ C.1 1 ∧ C.1 1 ≤ 1) (hl : ∀ j : Nat, j < 3 → (C.2 j).length ≤ 20) : -9000 ≤ leadG C ∧ leadG C ≤ 9000 :=
  lead_rng hc hp (fun b _ => by have := cleanB_rng hl b; omega)
theorem good_ch {B : Bd} (h : bdGood B) {j : Nat} (hj : j < 3) : chainS (-5) (B.2 j) := by
  obtain ⟨-, -, -, -, -, h0, h1, h2⟩ := h
  rcases (by omega : j = 0 ∨ j = 1 ∨ j = 2) with rfl | rfl | rfl
  · exact h0
  · exact h1
  · exact h2
/-! where the last coin ends, place by place -/
def endI (cost ap lf : Int) (L : List Int) (r : Nat) : Int := if 0 < lf ∧ ap < 100 then (goS cost ap lf (L.drop r)).2.1 else ap
theorem endI_nudge {cost ap lf : Int} {L : List Int} {r : Nat} (hc : chainS ap (L.drop r)) (h0 : 0 < lf) (h1 : ap < 100) (h : coinS L r - ap - 1 < 5) : r < L.length ∧ coinS L r = L.getD r 0 ∧ coinS L r = ap + 5 ∧ coinS L r ≤ 99 ∧ chainS (coinS L r) (L.drop (r + 1)) ∧ endI cost ap lf L r = endI cost (coinS L r) (lf - cost) L (r + 1) := by
  have hr : r < L.length := by
    rcases Nat.lt_or_ge r L.length with q | q
    · exact q
    · have := coinS_ge (L := L) (r := r) (by omega)
      omega
  have e := coinS_lt hr
  rw [drop_cons hr] at hc
  obtain ⟨a1, a2, a3⟩ := hc
  refine ⟨hr, e, by omega, by omega, by rw [e]; exact a3, ?_⟩
  unfold endI
  rw [if_pos ⟨h0, h1⟩, drop_cons hr, goS, if_neg (by omega), ← e, show lf - (coinS L r - 5 - ap) - cost = lf - cost by omega]
  by_cases q : lf - cost ≤ 0
  · rw [if_pos q, if_neg (by omega)]
  · rw [if_neg q, if_pos (by omega)]
theorem endI_on {cost ap lf : Int} {L : List Int} {r : Nat} (hc : chainS ap (L.drop r)) (h0 : 0 < lf) (h1 : ap < 100) (h : 5 ≤ coinS L r - ap - 1) : chainS (ap + 1) (L.drop r) ∧ endI cost ap lf L r = endI cost (ap + 1) (lf - 1) L r := by
  have hd : ∀ c cs, L.drop r = c :: cs → 0 < c - 5 - ap ∧ c ≤ 99 ∧ chainS c cs := by
    intro c cs h9
    have hr : r < L.length := by
      rcases Nat.lt_or_ge r L.length with q | q
      · exact q
      · rw [List.drop_eq_nil_of_le q] at h9
        cases h9
    rw [drop_cons hr] at h9 hc
    cases h9
    rw [coinS_lt hr] at h
    exact ⟨by omega, hc.2.1, hc.2.2⟩
  refine ⟨?_, ?_⟩
  · cases e : L.drop r with
    | nil => trivial
    | cons c cs =>
      have := hd c cs e
      exact ⟨by omega, this.2.1, this.2.2⟩
  · unfold endI
    rw [if_pos ⟨h0, h1⟩]
    by_cases q : 1 < lf
    · rw [goS_one q (fun c cs h9 => (hd c cs h9).1)]
      by_cases q2 : ap + 1 < 100
      · rw [if_pos ⟨by omega, q2⟩]
      · rw [if_neg (by omega)]
        cases e : L.drop r with
        | nil => simp only [goS]; omega
        | cons c cs => have := hd c cs e; omega
    · rw [if_neg (by omega), show lf = 1 by omega, goS_last h1 (fun c cs h9 => (hd c cs h9).1)]

