/-! a board: its numbers (as the rows are laid: what a nudge takes, player, pushes, winner, turns, fell off, taken back, nudges, refused, chalks) and its lanes -/
abbrev Bd : Type := (Nat → Int) × (Nat → List Int)
def bdOk (nc pl pu wi tu fo tb nu rf : Int) (ch : Nat → Int) (n0 n1 n2 : Int) (g0 g1 g2 : Nat → Int) (B : Bd) : Prop :=
  (nc = B.1 0 ∧ pl = B.1 1 ∧ pu = B.1 2 ∧ wi = B.1 3 ∧ tu = B.1 4 ∧ fo = B.1 5 ∧ tb = B.1 6 ∧ nu = B.1 7 ∧ rf = B.1 8) ∧ (∀ i : Nat, i < 18 → ch i = B.1 (9 + i)) ∧ laneOk g0 n0 (B.2 0) ∧ laneOk g1 n1 (B.2 1) ∧ laneOk g2 n2 (B.2 2)
def chB (B : Bd) : Nat → Int := fun i => B.1 (9 + i)
def bdGood (B : Bd) : Prop := (0 ≤ B.1 0 ∧ B.1 0 ≤ 20) ∧ (0 ≤ B.1 1 ∧ B.1 1 ≤ 1) ∧ (0 ≤ B.1 2 ∧ B.1 2 ≤ 4) ∧ (0 ≤ B.1 3 ∧ B.1 3 ≤ 2) ∧ chOk (chB B) ∧ chainS (-5) (B.2 0) ∧ chainS (-5) (B.2 1) ∧ chainS (-5) (B.2 2)
theorem bdOk.ch {nc pl pu wi tu fo tb nu rf : Int} {ch : Nat → Int} {n0 n1 n2 : Int} {g0 g1 g2 : Nat → Int} {B : Bd} (h : bdOk nc pl pu wi tu fo tb nu rf ch n0 n1 n2 g0 g1 g2 B) : ∀ i : Nat, i < 18 → ch i = chB B i := h.2.1
theorem chOk_of {ch ch2 : Nat → Int} (h : ∀ i : Nat, i < 18 → ch i = ch2 i) (h2 : chOk ch2) : chOk ch := fun i hi => by rw [h i hi]; exact h2 i hi
def cleanB (B : Bd) (b : Int) : Int := (cleanS b (B.2 0) + cleanS b (B.2 1)) + cleanS b (B.2 2)
def closeB (B : Bd) : Bd :=
  (fun i => if i = 1 then (if winR (closeCh (chB B) (B.1 1) (cleanB B)) (B.1 1) = 0 then 1 - B.1 1 else B.1 1) else if i = 2 then 0 else if i = 3 then winR (closeCh (chB B) (B.1 1) (cleanB B)) (B.1 1) else if i = 4 then B.1 4 + 1 else if i < 9 then B.1 i else closeCh (chB B) (B.1 1) (cleanB B) (i - 9), fun _ => [])
def madeB (B : Bd) : Int := madeR (chB B) (B.1 1) (cleanB B) 9
def refuseB (B : Bd) : Bd := (zU B.1 8 (B.1 8 + 1), B.2)
def nudS (cost st : Int) (L : List Int) : Int := (goS cost (-5) st L).2.2
def push1 (B : Bd) (j : Nat) (st : Int) : Bd :=
  (fun i => if i = 2 then B.1 2 + 1 else if i = 5 then B.1 5 + (if 100 ≤ lastL (B.1 0) st (B.2 j) then 1 else 0) else if i = 6 then B.1 6 + (if backS (goS (B.1 0) (-5) st (B.2 j)).1 (lastL (B.1 0) st (B.2 j)) then 1 else 0) else if i = 7 then B.1 7 + nudS (B.1 0) st (B.2 j) else B.1 i, zU B.2 j (restL (B.1 0) st (B.2 j)))
def pushB (B : Bd) (j : Nat) (st : Int) : Bd := if 5 ≤ B.1 2 + 1 then closeB (push1 B j st) else push1 B j st
def beginB (B : Bd) : Bd := (fun i => if i = 1 then 0 else if i = 2 then 0 else if i = 3 then 0 else if i = 4 then 0 else if i < 9 then B.1 i else 0, fun _ => [])
def setB (B : Bd) (v : Int) : Bd := (zU B.1 0 v, B.2)
def chalksB (B : Bd) : Int := chSum (chB B) 0 + chSum (chB B) 1
theorem ownR_c {ch ch2 : Nat → Int} (h : ∀ i : Nat, i < 18 → ch i = ch2 i) {pl bed cl : Int} (hp : 0 ≤ pl ∧ pl ≤ 1) (hb : 0 ≤ bed ∧ bed < 9) : ownR ch pl bed cl = ownR ch2 pl bed cl := ownR_cong (h _ (by omega))
theorem othR_c {ch ch2 : Nat → Int} (h : ∀ i : Nat, i < 18 → ch i = ch2 i) {pl bed cl : Int} (hp : 0 ≤ pl ∧ pl ≤ 1) (hb : 0 ≤ bed ∧ bed < 9) : othR ch pl bed cl = othR ch2 pl bed cl := othR_cong (h _ (by omega)) (h _ (by omega))
theorem closeCh_c {ch ch2 : Nat → Int} (h : ∀ i : Nat, i < 18 → ch i = ch2 i) {pl : Int} (hp : 0 ≤ pl ∧ pl ≤ 1) {c : Int → Int} {i : Nat} (hi : i < 18) : closeCh ch pl c i = closeCh ch2 pl c i := by
  unfold closeCh
  rw [h i hi, ownR_c h hp (by omega), othR_c h hp (by omega)]
theorem madeR_c {ch ch2 : Nat → Int} (h : ∀ i : Nat, i < 18 → ch i = ch2 i) {pl : Int} (hp : 0 ≤ pl ∧ pl ≤ 1) {c : Int → Int} : madeR ch pl c 9 = madeR ch2 pl c 9 :=
  sumTo_cong (fun i hi => by rw [ownR_c h hp (by omega), othR_c h hp (by omega)])
theorem winR_c {ch ch2 : Nat → Int} (h : ∀ i : Nat, i < 18 → ch i = ch2 i) {pl : Int} (hp : 0 ≤ pl ∧ pl ≤ 1) : winR ch pl = winR ch2 pl := by
  unfold winR
  rw [chSum_cong h hp, chSum_cong h (o := 1 - pl) (by omega)]
theorem leadR_c {ch ch2 cs : Nat → Int} (h : ∀ i : Nat, i < 18 → ch i = ch2 i) {pl : Int} (hp : 0 ≤ pl ∧ pl ≤ 1) : leadR ch pl cs = leadR ch2 pl cs :=
  sumTo_cong (fun i hi => by rw [ownR_c h hp (by omega), othR_c h hp (by omega)])
theorem bestIn_c {f f2 : Nat → Int} (h : ∀ i, f i = f2 i) (base : Int) (i k : Nat) (b m : Int) : bestIn f base i k b m = bestIn f2 base i k b m := by rw [show f = f2 from funext h]
theorem bestS_c {ch ch2 : Nat → Int} (h : ∀ i : Nat, i < 18 → ch i = ch2 i) {pl : Int} (hp : 0 ≤ pl ∧ pl ≤ 1) {cost : Int} {A B C : List Int} : bestS ch pl cost A B C = bestS ch2 pl cost A B C := by
  unfold bestS
  have e : ∀ X Y Z : List Int, leadB ch pl X Y Z = leadB ch2 pl X Y Z := fun X Y Z => leadR_c h hp
  simp only [e]
theorem bedOfS_c {ch ch2 : Nat → Int} (h : ∀ i : Nat, i < 18 → ch i = ch2 i) {pl bed c w : Int} (hp : 0 ≤ pl ∧ pl ≤ 1) (hb : 0 ≤ bed ∧ bed < 9) : bedOfS ch pl bed c w = bedOfS ch2 pl bed c w := by
  unfold bedOfS
  rw [ownR_c h hp hb, othR_c h hp hb, h (0 * 9 + bed).toNat (by omega), h (1 * 9 + bed).toNat (by omega)]
theorem bd_close {nc pl pu wi tu fo tb nu rf : Int} {ch : Nat → Int} {n0 n1 n2 : Int} {g0 g1 g2 : Nat → Int} {B : Bd} (h : bdOk nc pl pu wi tu fo tb nu rf ch n0 n1 n2 g0 g1 g2 B) {A0 A1 A2 : List Int} (e0 : A0 = B.2 0) (e1 : A1 = B.2 1) (e2 : A2 = B.2 2) (hp : 0 ≤ pl ∧ pl ≤ 1) {pl2 wi2 : Int} {ch2 : Nat → Int}
    (hc2 : ∀ i : Nat, i < 18 → ch2 i = closeCh ch pl (fun b => (cleanS b A0 + cleanS b A1) + cleanS b A2) i) (hw2 : wi2 = winR (closeCh ch pl (fun b => (cleanS b A0 + cleanS b A1) + cleanS b A2)) pl) (hp2 : pl2 = (if winR (closeCh ch pl (fun b => (cleanS b A0 + cleanS b A1) + cleanS b A2)) pl = 0 then 1 - pl else pl)) :
    bdOk nc pl2 0 wi2 (tu + 1) fo tb nu rf ch2 0 0 0 g0 g1 g2 (closeB B) := by
  subst e0; subst e1; subst e2
  obtain ⟨⟨a0, a1, a2, a3, a4, a5, a6, a7, a8⟩, hch, -, -, -⟩ := h
  have ec : ∀ i : Nat, i < 18 → closeCh ch pl (cleanB B) i = closeCh (chB B) (B.1 1) (cleanB B) i := fun i hi => by rw [← a1]; exact closeCh_c hch hp hi
  have ew : winR (closeCh ch pl (cleanB B)) pl = winR (closeCh (chB B) (B.1 1) (cleanB B)) (B.1 1) := by rw [winR_c ec hp, a1]
  have hw3 : wi2 = winR (closeCh (chB B) (B.1 1) (cleanB B)) (B.1 1) := hw2.trans ew
  have hp3 : pl2 = (if winR (closeCh (chB B) (B.1 1) (cleanB B)) (B.1 1) = 0 then 1 - B.1 1 else B.1 1) := by rw [hp2, ← ew, ← a1]; rfl
  refine ⟨⟨a0, hp3, rfl, hw3, by rw [a4]; rfl, a5, a6, a7, a8⟩, fun i hi => ?_, laneOk.nil _, laneOk.nil _, laneOk.nil _⟩
  rw [hc2 i hi]
  show _ = (if (9 + i) = 1 then _ else if (9 + i) = 2 then _ else if (9 + i) = 3 then _ else if (9 + i) = 4 then _ else if (9 + i) < 9 then _ else closeCh (chB B) (B.1 1) (cleanB B) (9 + i - 9))
  rw [if_neg (by omega), if_neg (by omega), if_neg (by omega), if_neg (by omega), if_neg (by omega), show 9 + i - 9 = i by omega]
  exact ec i hi
theorem bd_refuse {nc pl pu wi tu fo tb nu rf : Int} {ch : Nat → Int} {n0 n1 n2 : Int} {g0 g1 g2 : Nat → Int} {B : Bd} (h : bdOk nc pl pu wi tu fo tb nu rf ch n0 n1 n2 g0 g1 g2 B) : bdOk nc pl pu wi tu fo tb nu (rf + 1) ch n0 n1 n2 g0 g1 g2 (refuseB B) := by
  obtain ⟨⟨a0, a1, a2, a3, a4, a5, a6, a7, a8⟩, hch, h0, h1, h2⟩ := h
  exact ⟨⟨a0, a1, a2, a3, a4, a5, a6, a7, by rw [a8]; rfl⟩, fun i hi => by rw [hch i hi]; exact (zU_ne _ _ (by omega)).symm, h0, h1, h2⟩
theorem bd_set {nc pl pu wi tu fo tb nu rf : Int} {ch : Nat → Int} {n0 n1 n2 : Int} {g0 g1 g2 : Nat → Int} {B : Bd} (h : bdOk nc pl pu wi tu fo tb nu rf ch n0 n1 n2 g0 g1 g2 B) (v : Int) : bdOk v pl pu wi tu fo tb nu rf ch n0 n1 n2 g0 g1 g2 (setB B v) := by
  obtain ⟨⟨a0, a1, a2, a3, a4, a5, a6, a7, a8⟩, hch, h0, h1, h2⟩ := h
  exact ⟨⟨rfl, a1, a2, a3, a4, a5, a6, a7, a8⟩, fun i hi => by rw [hch i hi]; exact (zU_ne _ _ (by omega)).symm, h0, h1, h2⟩
theorem bd_begin {nc pl pu wi tu fo tb nu rf : Int} {ch ch2 : Nat → Int} {n0 n1 n2 : Int} {g0 g1 g2 : Nat → Int} {B : Bd} (h : bdOk nc pl pu wi tu fo tb nu rf ch n0 n1 n2 g0 g1 g2 B) (hc : ∀ i : Nat, i < 18 → ch2 i = 0) : bdOk nc 0 0 0 0 fo tb nu rf ch2 0 0 0 g0 g1 g2 (beginB B) := by
  obtain ⟨⟨a0, a1, a2, a3, a4, a5, a6, a7, a8⟩, hch, h0, h1, h2⟩ := h
  refine ⟨⟨a0, rfl, rfl, rfl, rfl, a5, a6, a7, a8⟩, fun i hi => ?_, laneOk.nil _, laneOk.nil _, laneOk.nil _⟩
  rw [hc i hi]
  show _ = (if (9 + i) = 1 then _ else if (9 + i) = 2 then _ else if (9 + i) = 3 then _ else if (9 + i) = 4 then _ else if (9 + i) < 9 then _ else (0 : Int))
  rw [if_neg (by omega), if_neg (by omega), if_neg (by omega), if_neg (by omega), if_neg (by omega)]
theorem bd_lay {nc pl pu wi tu fo tb nu rf : Int} {ch : Nat → Int} {n0 n1 n2 m0 m1 m2 : Int} {g0 g1 g2 h0 h1 h2 : Nat → Int} {B : Bd} (h : bdOk nc pl pu wi tu fo tb nu rf ch n0 n1 n2 g0 g1 g2 B) {Ls : Nat → List Int} (e0 : laneOk h0 m0 (Ls 0)) (e1 : laneOk h1 m1 (Ls 1)) (e2 : laneOk h2 m2 (Ls 2)) : bdOk nc pl pu wi tu fo tb nu rf ch m0 m1 m2 h0 h1 h2 (B.1, Ls) := ⟨h.1, h.2.1, e0, e1, e2⟩
theorem bd_copy {nc pl pu wi tu fo tb nu rf : Int} {ch ch2 : Nat → Int} {n0 n1 n2 : Int} {g0 g1 g2 h0 h1 h2 : Nat → Int} {B : Bd} (h : bdOk nc pl pu wi tu fo tb nu rf ch n0 n1 n2 g0 g1 g2 B) (e0 : laneOk h0 n0 (B.2 0)) (e1 : laneOk h1 n1 (B.2 1)) (e2 : laneOk h2 n2 (B.2 2)) (hc : ∀ i : Nat, i < 18 → ch2 i = ch i) : bdOk nc pl pu wi tu fo tb nu rf ch2 n0 n1 n2 h0 h1 h2 B := ⟨h.1, fun i hi => (hc i hi).trans (h.2.1 i hi), e0, e1, e2⟩
theorem bd_push_0 {nc pl pu wi tu fo tb nu rf : Int} {ch : Nat → Int} {n0 n1 n2 n : Int} {g0 g1 g2 g h : Nat → Int} {B : Bd} (hB : bdOk nc pl pu wi tu fo tb nu rf ch n0 n1 n2 g0 g1 g2 B) {st p nd fe ta fo2 tb2 : Int} (hs : shoved nc st (B.2 0) p nd fe ta g n) (hM : laneOk h n (restL nc st (B.2 0))) (hfo : fo2 = fo + fe) (htb : tb2 = tb + ta) : bdOk nc pl (pu + 1) wi tu fo2 tb2 (nu + nd) rf ch n n1 n2 h g1 g2 (push1 B 0 st) := by
  obtain ⟨⟨a0, a1, a2, a3, a4, a5, a6, a7, a8⟩, hch, h0, h1, h2⟩ := hB
  obtain ⟨b1, b2, b3, b4, -⟩ := hs
  subst a0
  refine ⟨⟨rfl, a1, by rw [a2]; rfl, a3, a4, by rw [hfo, a5, b3]; rfl, by rw [htb, a6, b4]; rfl, by rw [a7, b2]; rfl, a8⟩, fun i hi => ?_, hM, h1, h2⟩
  rw [hch i hi]
  show _ = (if (9 + i) = 2 then _ else if (9 + i) = 5 then _ else if (9 + i) = 6 then _ else if (9 + i) = 7 then _ else B.1 (9 + i))
  rw [if_neg (by omega), if_neg (by omega), if_neg (by omega), if_neg (by omega)]
theorem bd_push_1 {nc pl pu wi tu fo tb nu rf : Int} {ch : Nat → Int} {n0 n1 n2 n : Int} {g0 g1 g2 g h : Nat → Int} {B : Bd} (hB : bdOk nc pl pu wi tu fo tb nu rf ch n0 n1 n2 g0 g1 g2 B) {st p nd fe ta fo2 tb2 : Int} (hs : shoved nc st (B.2 1) p nd fe ta g n) (hM : laneOk h n (restL nc st (B.2 1))) (hfo : fo2 = fo + fe) (htb : tb2 = tb + ta) : bdOk nc pl (pu + 1) wi tu fo2 tb2 (nu + nd) rf ch n0 n n2 g0 h g2 (push1 B 1 st) := by
  obtain ⟨⟨a0, a1, a2, a3, a4, a5, a6, a7, a8⟩, hch, h0, h1, h2⟩ := hB
  obtain ⟨b1, b2, b3, b4, -⟩ := hs
  subst a0
  refine ⟨⟨rfl, a1, by rw [a2]; rfl, a3, a4, by rw [hfo, a5, b3]; rfl, by rw [htb, a6, b4]; rfl, by rw [a7, b2]; rfl, a8⟩, fun i hi => ?_, h0, hM, h2⟩
  rw [hch i hi]
  show _ = (if (9 + i) = 2 then _ else if (9 + i) = 5 then _ else if (9 + i) = 6 then _ else if (9 + i) = 7 then _ else B.1 (9 + i))
  rw [if_neg (by omega), if_neg (by omega), if_neg (by omega), if_neg (by omega)]
theorem bd_push_2 {nc pl pu wi tu fo tb nu rf : Int} {ch : Nat → Int} {n0 n1 n2 n : Int} {g0 g1 g2 g h : Nat → Int} {B : Bd} (hB : bdOk nc pl pu wi tu fo tb nu rf ch n0 n1 n2 g0 g1 g2 B) {st p nd fe ta fo2 tb2 : Int} (hs : shoved nc st (B.2 2) p nd fe ta g n) (hM : laneOk h n (restL nc st (B.2 2))) (hfo : fo2 = fo + fe) (htb : tb2 = tb + ta) : bdOk nc pl (pu + 1) wi tu fo2 tb2 (nu + nd) rf ch n0 n1 n g0 g1 h (push1 B 2 st) := by
  obtain ⟨⟨a0, a1, a2, a3, a4, a5, a6, a7, a8⟩, hch, h0, h1, h2⟩ := hB
  obtain ⟨b1, b2, b3, b4, -⟩ := hs
  subst a0
  refine ⟨⟨rfl, a1, by rw [a2]; rfl, a3, a4, by rw [hfo, a5, b3]; rfl, by rw [htb, a6, b4]; rfl, by rw [a7, b2]; rfl, a8⟩, fun i hi => ?_, h0, h1, hM⟩
  rw [hch i hi]
  show _ = (if (9 + i) = 2 then _ else if (9 + i) = 5 then _ else if (9 + i) = 6 then _ else if (9 + i) = 7 then _ else B.1 (9 + i))
  rw [if_neg (by omega), if_neg (by omega), if_neg (by omega), if_neg (by omega)]
def pushF (B : Bd) (j : Nat) (st : Int) : Bd := if B.1 3 = 0 then pushB B j st else refuseB B
def endF (B : Bd) : Bd := if B.1 3 = 0 then closeB B else refuseB B
def coinsB (B : Bd) : Int := (((B.2 0).length : Int) + ((B.2 1).length : Int)) + ((B.2 2).length : Int)
def layF (B : Bd) (T : List Int) : Bd := match putS 0 0 0 (fun _ => []) T with
  | some Ls => (B.1, Ls)
  | none => refuseB B
def layN (T : List Int) : Int := match putS 0 0 0 (fun _ => []) T with
  | some Ls => (((Ls 0).length : Int) + ((Ls 1).length : Int)) + ((Ls 2).length : Int)
  | none => -1
theorem bd_made {nc pl pu wi tu fo tb nu rf : Int} {ch : Nat → Int} {n0 n1 n2 : Int} {g0 g1 g2 : Nat → Int} {B : Bd} (h : bdOk nc pl pu wi tu fo tb nu rf ch n0 n1 n2 g0 g1 g2 B) (hp : 0 ≤ pl ∧ pl ≤ 1) : madeR ch pl (fun b => (cleanS b (B.2 0) + cleanS b (B.2 1)) + cleanS b (B.2 2)) 9 = madeB B := by
  unfold madeB
  rw [← h.1.2.1]
  exact madeR_c h.2.1 hp
theorem bd_chalks {nc pl pu wi tu fo tb nu rf : Int} {ch : Nat → Int} {n0 n1 n2 : Int} {g0 g1 g2 : Nat → Int} {B : Bd} (h : bdOk nc pl pu wi tu fo tb nu rf ch n0 n1 n2 g0 g1 g2 B) : chSum ch 0 + chSum ch 1 = chalksB B := by
  unfold chalksB
  rw [chSum_cong h.2.1 (o := 0) (by omega), chSum_cong h.2.1 (o := 1) (by omega)]
  rfl
theorem bd_coins {nc pl pu wi tu fo tb nu rf : Int} {ch : Nat → Int} {n0 n1 n2 : Int} {g0 g1 g2 : Nat → Int} {B : Bd} (h : bdOk nc pl pu wi tu fo tb nu rf ch n0 n1 n2 g0 g1 g2 B) : n0 + n1 + n2 = coinsB B := by
  obtain ⟨-, -, h0, h1, h2⟩ := h
  rw [h0.1, h1.1, h2.1]
  rfl

