/-! chalks: what a player and the other one would get in a bed; what a turn's end makes -/
def sumTo (f : Nat → Int) : Nat → Int
  | 0 => 0
  | n + 1 => sumTo f n + f n
theorem sumTo_cong {f g : Nat → Int} : ∀ {n : Nat}, (∀ i, i < n → f i = g i) → sumTo f n = sumTo g n
  | 0, _ => rfl
  | n + 1, h => by rw [sumTo, sumTo, sumTo_cong (fun i hi => h i (by omega)), h n (by omega)]
theorem sumTo_rng {f : Nat → Int} {a b : Int} : ∀ {n : Nat}, (∀ i, i < n → a ≤ f i ∧ f i ≤ b) → a * n ≤ sumTo f n ∧ sumTo f n ≤ b * n
  | 0, _ => by simp [sumTo]
  | n + 1, h => by
    have h1 := sumTo_rng (n := n) (fun i hi => h i (by omega))
    have h2 := h n (by omega)
    rw [sumTo]
    have e1 : a * ((n + 1 : Nat) : Int) = a * n + a := by rw [Int.natCast_succ, Int.mul_add, Int.mul_one]
    have e2 : b * ((n + 1 : Nat) : Int) = b * n + b := by rw [Int.natCast_succ, Int.mul_add, Int.mul_one]
    omega
def chOk (ch : Nat → Int) : Prop := ∀ i : Nat, i < 18 → 0 ≤ ch i ∧ ch i ≤ 3
def ownR (ch : Nat → Int) (pl bed cl : Int) : Int := min cl (3 - ch (pl * 9 + bed).toNat)
def othR (ch : Nat → Int) (pl bed cl : Int) : Int := min (cl - ownR ch pl bed cl) (3 - ch ((1 - pl) * 9 + bed).toNat)
def chSum (ch : Nat → Int) (owner : Int) : Int := sumTo (fun b => ch (owner * 9 + (b : Int)).toNat) 9
def leadR (ch : Nat → Int) (pl : Int) (cs : Nat → Int) : Int := sumTo (fun b => ownR ch pl b (cs b) - othR ch pl b (cs b)) 9
def closeCh (ch : Nat → Int) (pl : Int) (c : Int → Int) : Nat → Int := fun i => if ((i / 9 : Nat) : Int) = pl then ch i + ownR ch pl ((i % 9 : Nat) : Int) (c ((i % 9 : Nat) : Int)) else ch i + othR ch pl ((i % 9 : Nat) : Int) (c ((i % 9 : Nat) : Int))
def madeR (ch : Nat → Int) (pl : Int) (c : Int → Int) (n : Nat) : Int := sumTo (fun b => ownR ch pl b (c b) + othR ch pl b (c b)) n
def winR (ch : Nat → Int) (pl : Int) : Int := if chSum ch pl = 27 then pl + 1 else if chSum ch (1 - pl) = 27 then 2 - pl else 0
theorem chSum_rng {ch : Nat → Int} (h : chOk ch) {o : Int} (ho : 0 ≤ o ∧ o ≤ 1) : 0 ≤ chSum ch o ∧ chSum ch o ≤ 27 := by
  have := sumTo_rng (f := fun b => ch (o * 9 + (b : Int)).toNat) (a := 0) (b := 3) (n := 9) (fun i hi => h _ (by omega))
  unfold chSum
  omega
theorem chSum_cong {ch ch2 : Nat → Int} (h : ∀ i : Nat, i < 18 → ch2 i = ch i) {o : Int} (ho : 0 ≤ o ∧ o ≤ 1) : chSum ch2 o = chSum ch o :=
  sumTo_cong (fun i hi => h _ (by omega))
theorem ownR_rng {ch : Nat → Int} (h : chOk ch) {pl bed cl : Int} (hp : 0 ≤ pl ∧ pl ≤ 1) (hb : 0 ≤ bed ∧ bed < 9) (hc : 0 ≤ cl) : 0 ≤ ownR ch pl bed cl ∧ ownR ch pl bed cl ≤ cl ∧ ch (pl * 9 + bed).toNat + ownR ch pl bed cl ≤ 3 := by
  have := h (pl * 9 + bed).toNat (by omega)
  unfold ownR
  omega
theorem othR_rng {ch : Nat → Int} (h : chOk ch) {pl bed cl : Int} (hp : 0 ≤ pl ∧ pl ≤ 1) (hb : 0 ≤ bed ∧ bed < 9) (hc : 0 ≤ cl) : 0 ≤ othR ch pl bed cl ∧ othR ch pl bed cl ≤ cl ∧ ch ((1 - pl) * 9 + bed).toNat + othR ch pl bed cl ≤ 3 := by
  have h1 := h ((1 - pl) * 9 + bed).toNat (by omega)
  have h2 := ownR_rng h hp hb hc
  unfold othR
  omega
theorem ownR_cong {ch ch2 : Nat → Int} {pl bed cl : Int} (h : ch2 (pl * 9 + bed).toNat = ch (pl * 9 + bed).toNat) : ownR ch2 pl bed cl = ownR ch pl bed cl := by
  unfold ownR
  rw [h]
theorem othR_cong {ch ch2 : Nat → Int} {pl bed cl : Int} (h : ch2 (pl * 9 + bed).toNat = ch (pl * 9 + bed).toNat) (h2 : ch2 ((1 - pl) * 9 + bed).toNat = ch ((1 - pl) * 9 + bed).toNat) : othR ch2 pl bed cl = othR ch pl bed cl := by
  unfold othR
  rw [ownR_cong h, h2]
theorem closeCh_ok {ch : Nat → Int} (h : chOk ch) {pl : Int} (hp : 0 ≤ pl ∧ pl ≤ 1) {c : Int → Int} (hc : ∀ b, 0 ≤ c b) : chOk (closeCh ch pl c) := by
  intro i hi
  have h0 := h i hi
  have hb : 0 ≤ ((i % 9 : Nat) : Int) ∧ ((i % 9 : Nat) : Int) < 9 := by omega
  unfold closeCh
  split
  · rename_i e
    have h1 := ownR_rng h hp hb (hc ((i % 9 : Nat) : Int))
    rw [show (pl * 9 + ((i % 9 : Nat) : Int)).toNat = i by omega] at h1
    omega
  · rename_i e
    have h1 := othR_rng h hp hb (hc ((i % 9 : Nat) : Int))
    rw [show ((1 - pl) * 9 + ((i % 9 : Nat) : Int)).toNat = i by omega] at h1
    omega
/-- the chalks while a turn's end is at the bed b -/
def closeAt (ch : Nat → Int) (pl : Int) (c : Int → Int) (b : Nat) : Nat → Int := fun i => if i % 9 < b then closeCh ch pl c i else ch i
theorem closeAt_0 (ch : Nat → Int) (pl : Int) (c : Int → Int) : closeAt ch pl c 0 = ch := by
  funext i
  simp [closeAt]
theorem closeAt_9 (ch : Nat → Int) (pl : Int) (c : Int → Int) (i : Nat) : closeAt ch pl c 9 i = closeCh ch pl c i := by
  unfold closeAt
  rw [if_pos (Nat.mod_lt _ (by omega))]
theorem closeAt_ok {ch : Nat → Int} (h : chOk ch) {pl : Int} (hp : 0 ≤ pl ∧ pl ≤ 1) {c : Int → Int} (hc : ∀ b, 0 ≤ c b) (b : Nat) : chOk (closeAt ch pl c b) := by
  intro i hi
  unfold closeAt
  split
  · exact closeCh_ok h hp hc i hi
  · exact h i hi
theorem closeAt_same {ch : Nat → Int} {pl : Int} {c : Int → Int} {b : Nat} (hb : b < 9) {o : Int} (ho : 0 ≤ o ∧ o ≤ 1) : closeAt ch pl c b (o * 9 + (b : Int)).toNat = ch (o * 9 + (b : Int)).toNat := by
  unfold closeAt
  rw [if_neg (by omega)]
theorem closeAt_step {ch q : Nat → Int} {pl : Int} (hp : 0 ≤ pl ∧ pl ≤ 1) {c : Int → Int} {b : Nat} (hb : b < 9) (hq : ∀ i : Nat, i < 18 → q i = closeAt ch pl c b i) (x y : Int) (hx : x = ownR ch pl b (c b)) (hy : y = othR ch pl b (c b)) :
    ∀ i : Nat, i < 18 → zU (zU q (pl * 9 + (b : Int)).toNat (q (pl * 9 + (b : Int)).toNat + x)) ((1 - pl) * 9 + (b : Int)).toNat (zU q (pl * 9 + (b : Int)).toNat (q (pl * 9 + (b : Int)).toNat + x) ((1 - pl) * 9 + (b : Int)).toNat + y) i = closeAt ch pl c (b + 1) i := by
  intro i hi
  have e1 := closeAt_same (ch := ch) (pl := pl) (c := c) hb hp
  have e2 := closeAt_same (ch := ch) (pl := pl) (c := c) hb (o := 1 - pl) (by omega)
  by_cases h2 : i = ((1 - pl) * 9 + (b : Int)).toNat
  · subst h2
    rw [zU_same, zU_ne _ _ (by omega), hq _ (by omega), e2]
    unfold closeAt closeCh
    rw [if_pos (by omega), if_neg (by omega), hy, show ((((1 - pl) * 9 + (b : Int)).toNat % 9 : Nat) : Int) = (b : Int) by omega]
  · rw [zU_ne _ _ h2]
    by_cases h1 : i = (pl * 9 + (b : Int)).toNat
    · subst h1
      rw [zU_same, hq _ (by omega), e1]
      unfold closeAt closeCh
      rw [if_pos (by omega), if_pos (by omega), hx, show (((pl * 9 + (b : Int)).toNat % 9 : Nat) : Int) = (b : Int) by omega]
    · rw [zU_ne _ _ h1, hq _ hi]
      unfold closeAt
      by_cases h3 : i % 9 < b
      · rw [if_pos h3, if_pos (by omega)]
      · rw [if_neg h3, if_neg (by omega)]
/-- a whole copy of a row's first n -/
def zCp (f g : Nat → Int) (n : Nat) : Nat → Int := fun j => if j < n then f j else g j
theorem zCp_lt {f g : Nat → Int} {n j : Nat} (h : j < n) : zCp f g n j = f j := if_pos h
theorem zA_cpy (f g : Nat → Int) (n : Nat) : va_cpy (zA f) (zA g) 0 0 n = zA (zCp f g n) := by
  funext j
  unfold va_cpy zA zCp
  by_cases h : j < n
  · rw [if_pos (by omega), if_pos h]
    simp
  · rw [if_neg (by omega), if_neg h]
section ZC
variable {p : Program} {l : Launch} {e : Env} {R : Room} {s : State} {m : MethodId} {args : Array Value} {below : List Frame} {meth : Method} {c : Code} {H : Heap} {locs : List Loc} {cells slots : Nat} {Q : State → Prop}
variable {D : va_G} {k : Nat → ClassId} {cc : ByteArray} {pc nL index : Nat} {own : String} {ret : Option FieldType} {ls : Array Slot} {rest : List Value} {A : Nat → Prop} {ws : va_W} {H0 : Heap} {lv : List (Nat × Value)}
theorem zz_copy (X : zCx p s m args meth c cc nL ret own D k) (hl : lv_has ls nL lv) (hlink : Cond.methodLink own index arraycopyName ∈ wsL_law) (hnat : Cond.native arraycopyName ∈ wsL_law) (hstat : Cond.static arraycopyName ∈ wsL_law) (hini : Cond.initialized "java/lang/System" ∈ wsL_law)
    (hP : va_P D vwCl ws H) (hD : va_D A ws) (hS : va_S A H0 H locs) (q0 q1 : Nat) {a a0 : Nat} {N : Nat} {f g : Nat → Int} (ha0 : ws[q0]? = some (a0, .inl (k 0, N, .inl (zA f)))) (ha1 : ws[q1]? = some (a, .inl (k 0, N, .inl (zA g)))) (hN : N ≤ 1000)
    (hR : 1 ≤ R.frames ∧ (rest.map fun v => v.category).sum + (nativeFrameWords "java/lang/System" "arraycopy" 5 + 11) ≤ R.locals) (hdg : decode cc pc = .ok (.invokestatic index, 3))
    (kk : ∀ (H1 : Heap) (locs1 : List Loc), va_P D vwCl (ws.set q1 (a, .inl (k 0, N, .inl (zA (zCp f g N))))) H1 → va_D A (ws.set q1 (a, .inl (k 0, N, .inl (zA (zCp f g N))))) → va_S A H0 H1 locs1 → W p l e R s m args below meth c H1 locs1 cells slots Q (F0 m (pc + 3) ls rest)) : W p l e R s m args below meth c H locs cells slots Q (F0 m pc ls (.int (nZ (N : Int)) :: .int (nZ 0) :: .ref a :: .int (nZ 0) :: .ref a0 :: rest)) := by
  have hts := X.2.2.2.2.1
  have z0 : (nZ 0).toNatClampNeg = 0 := nZ_clamp ⟨by omega, by omega⟩
  have zN : (nZ (N : Int)).toNatClampNeg = N := nZ_clamp ⟨by omega, by omega⟩
  have h0 : ¬ nZ 0 < 0 := by
    have e : (0 : Int32) = nZ 0 := rfl
    rw [e, nZ_lt ⟨by omega, by omega⟩ ⟨by omega, by omega⟩]
    omega
  have hn0 : ¬ nZ (N : Int) < 0 := by
    have e : (0 : Int32) = nZ 0 := rfl
    rw [e, nZ_lt ⟨by omega, by omega⟩ ⟨by omega, by omega⟩]
    omega
  refine va_copyi X.1 X.2.1 (X.2.2.2.1.trans hl.1.symm) X.2.2.2.2.2.1 (hts _ hlink) (hts _ hnat) (hts _ hstat) (hts _ hini) X.2.2.2.2.2.2.2.1 hP hD hS q0 q1 0 0 ha0 ha1 rfl rfl rfl h0 h0 hn0 (by rw [z0, zN]; omega) (by rw [z0, zN]; omega) (fun i _ => rfl) hR.1 hR.2 hdg (fun H1 locs1 h1 h2 h3 => ?_)
  rw [z0, zN, zA_cpy] at h1 h2
  exact kk H1 locs1 h1 h2 h3
end ZC

