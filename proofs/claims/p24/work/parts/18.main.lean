/-! longs of whole numbers; what the class's methods answer -/
def nL (z : Int) : Int64 := Int64.ofInt z
def zw32 (z : Int) : Int := (nZ z).toInt
theorem zi2l (z : Int) : (nZ z).toInt64 = nL (zw32 z) := by
  unfold nL zw32
  apply Int64.toInt_inj.mp
  rw [Int32.toInt_toInt64, Int64.toInt_ofInt_of_le (by have := nZ_rng (nZ z); omega) (by have := nZ_rng (nZ z); omega)]
theorem nL_add (a b : Int) : nL a + nL b = nL (a + b) := (Int64.ofInt_add a b).symm
theorem nL_mul (a b : Int) : nL a * nL b = nL (a * b) := (Int64.ofInt_mul a b).symm
section ZLL
variable {p : Program} {l : Launch} {e : Env} {R : Room} {s : State} {m : MethodId} {args : Array Value} {below : List Frame} {meth : Method} {c : Code} {H : Heap} {locs : List Loc} {cells slots : Nat} {Q : State → Prop}
variable {D : va_G} {k : Nat → ClassId} {cc : ByteArray} {pc nL0 index : Nat} {own : String} {ret : Option FieldType} {ls : Array Slot} {rest : List Value} {lv : List (Nat × Value)}
theorem zz_ladd (X : zCx p s m args meth c cc nL0 ret own D k) {x y : Int} (hdg : decode cc pc = .ok (.ladd, 1)) (kk : W p l e R s m args below meth c H locs cells slots Q (F0 m (pc + 1) ls (.long (nL (x + y)) :: rest))) : W p l e R s m args below meth c H locs cells slots Q (F0 m pc ls (.long (nL y) :: .long (nL x) :: rest)) :=
  lv_ladd X.1 X.2.1 hdg (by rw [nL_add]; exact kk)
theorem zz_lmul (X : zCx p s m args meth c cc nL0 ret own D k) {x y : Int} (hdg : decode cc pc = .ok (.lmul, 1)) (kk : W p l e R s m args below meth c H locs cells slots Q (F0 m (pc + 1) ls (.long (nL (x * y)) :: rest))) : W p l e R s m args below meth c H locs cells slots Q (F0 m pc ls (.long (nL y) :: .long (nL x) :: rest)) :=
  lv_lmul X.1 X.2.1 hdg (by rw [nL_mul]; exact kk)
end ZLL
/-- the lane behind a push, and the place of the coin that was pushed or nudged last -/
def restL (cost st : Int) (L : List Int) : List Int := restS (goS cost (-5) st L).1 (goS cost (-5) st L).2.1
def lastL (cost st : Int) (L : List Int) : Int := (goS cost (-5) st L).2.1
theorem shoved.last {cost st : Int} {L : List Int} {p nd fe ta n : Int} {g : Nat → Int} (h : shoved cost st L p nd fe ta g n) : p = lastL cost st L := h.1
theorem shoved.rest {cost st : Int} {L : List Int} {p nd fe ta n : Int} {g : Nat → Int} (h : shoved cost st L p nd fe ta g n) : laneOk g n (restL cost st L) := h.2.2.2.2
theorem goS_rng {cost : Int} : ∀ {p lf : Int} {L : List Int}, 0 ≤ cost → chainS p L → 0 < lf → -5 ≤ p → p < 100 → -5 ≤ (goS cost p lf L).2.1 ∧ (goS cost p lf L).2.1 ≤ 100
  | p, lf, [], _, _, h0, h1, h2 => by
    simp only [goS]
    omega
  | p, lf, c :: cs, hc, h, h0, h1, h2 => by
    obtain ⟨a1, a2, a3⟩ := h
    simp only [goS]
    split
    · simp only
      omega
    · split
      · simp only
        omega
      · exact goS_rng hc a3 (by omega) (by omega) (by omega)
/-- the least of some strengths, or -1 -/
def firstS (P : Nat → Bool) : Nat → Nat → Int
  | _, 0 => -1
  | i, k + 1 => if P i then (i : Int) else firstS P (i + 1) k
def strS (cost : Int) (L : List Int) (bed : Int) : Int := firstS (fun st => decide (cleanS bed L < cleanS bed (restL cost st L))) 1 150
def leadB (ch : Nat → Int) (pl : Int) (A B C : List Int) : Int := leadR ch pl (fun b => cleanS b A + cleanS b B + cleanS b C)
theorem leadR_cong {ch cs cs2 : Nat → Int} {pl : Int} (h : ∀ b : Nat, b < 9 → cs b = cs2 b) : leadR ch pl cs = leadR ch pl cs2 :=
  sumTo_cong (fun i hi => by rw [h i hi])
/-- the best of some strengths on a lane -/
def bestIn (f : Nat → Int) (base : Int) : Nat → Nat → Int → Int → Int × Int
  | _, 0, b, m => (b, m)
  | i, k + 1, b, m => if b = -1 ∨ m < f i then bestIn f base (i + 1) k (base + (i : Int)) (f i) else bestIn f base (i + 1) k b m
def best3 (f0 f1 f2 : Nat → Int) : Int :=
  (bestIn f2 2000 1 150 (bestIn f1 1000 1 150 (bestIn f0 0 1 150 (-1) 0).1 (bestIn f0 0 1 150 (-1) 0).2).1 (bestIn f1 1000 1 150 (bestIn f0 0 1 150 (-1) 0).1 (bestIn f0 0 1 150 (-1) 0).2).2).1
def bestS (ch : Nat → Int) (pl cost : Int) (A B C : List Int) : Int :=
  best3 (fun st => leadB ch pl (restL cost st A) B C) (fun st => leadB ch pl A (restL cost st B) C) (fun st => leadB ch pl A B (restL cost st C))
def bedOfS (ch : Nat → Int) (pl bed c what : Int) : Int := if what = 0 then c else if what = 1 then ch (0 * 9 + bed).toNat else if what = 2 then ch (1 * 9 + bed).toNat else if what = 3 then ownR ch pl bed c else othR ch pl bed c
def countS (a0 a1 a2 a3 a4 a5 a6 a7 a8 a9 a10 a11 a12 : Int) (w : Int) : Int := if w = 0 then a0 else if w = 1 then a1 else if w = 2 then a2 else if w = 3 then a3 else if w = 4 then a4 else if w = 5 then a5 else if w = 6 then a6 else if w = 7 then a7 else if w = 8 then a8 else if w = 9 then a9 else if w = 10 then a10 else if w = 11 then a11 else a12
theorem ownR_rng2 {ch : Nat → Int} (h : chOk ch) {pl bed cl : Int} (hp : 0 ≤ pl ∧ pl ≤ 1) (hb : 0 ≤ bed ∧ bed < 9) (hc : 0 ≤ cl ∧ cl ≤ 1000) : 0 ≤ ownR ch pl bed cl ∧ ownR ch pl bed cl ≤ 1000 := by
  have := ownR_rng h hp hb hc.1
  omega
theorem lead_rng {ch cs : Nat → Int} (h : chOk ch) {pl : Int} (hp : 0 ≤ pl ∧ pl ≤ 1) (hc : ∀ b : Nat, b < 9 → 0 ≤ cs b ∧ cs b ≤ 1000) : -9000 ≤ leadR ch pl cs ∧ leadR ch pl cs ≤ 9000 := by
  have := sumTo_rng (f := fun b => ownR ch pl b (cs b) - othR ch pl b (cs b)) (a := -1000) (b := 1000) (n := 9) (fun i hi => by
    have h1 := ownR_rng h hp (bed := i) (by omega) (hc i hi).1
    have h2 := othR_rng h hp (bed := i) (by omega) (hc i hi).1
    have h3 := (hc i hi).2
    omega)
  unfold leadR
  omega
section ZQ
variable {D : va_G} {k : Nat → ClassId}
variable {p : Program} {l : Launch} {e : Env} {R : Room} {s : State} {m : MethodId} {args : Array Value} {below : List Frame} {meth : Method} {c : Code} {H : Heap} {locs : List Loc} {cells slots : Nat} {Q : State → Prop}
variable {cc : ByteArray} {pc nL0 : Nat} {own : String} {ret : Option FieldType} {ls : Array Slot} {rest st0 : List Value} {A : Nat → Prop} {ws wc : va_W} {H0 : Heap} {a : Array Value}
theorem zRetQ {S : Type} {post : Option Nat → S → Prop} {w1 : S → va_W} {r : Option Nat} (u : S) {C : String} (X : zCx p s m args meth c cc nL0 (some (.object C)) own D k) (hP : va_P D vwCl ws H) (hD : va_D A ws) (hS : va_S A s.heap H locs) (hw : w1 u = ws) (hq : post r u) (hdg : decode cc pc = .ok (.areturn, 1)) :
    W p l e R s m args below meth c H locs cells slots (MQ below (va_Qq post (fun u => zOut D A (w1 u)) A) args s cells slots A) (F0 m pc ls [va_rf r]) :=
  W.aret X.1 X.2.1 X.2.2.1 (Or.inl ⟨_, rfl⟩) (by cases r with | none => exact Or.inl rfl | some q => exact Or.inr ⟨q, rfl⟩) (fun t ht hW => ⟨⟨r, u, rfl, hq, by show zOut D A _ t; rw [hw]; exact ⟨by rw [ht]; exact hP, hD⟩⟩, hS.F ht⟩) hS.2.2 hdg X.2.2.2.2.2.2.1
theorem zCallQ0 {S : Type} {post : Option Nat → S → Prop} {w1 : S → va_W} (hr : va_Run p l e R s m args below meth c H locs cells slots 0 0 (F0 m pc ls st0) rest (va_Qq post (fun u => zOut D (va_A wc H.size) (w1 u)) (va_A wc H.size) a) (va_A wc H.size))
    (hS : va_S A H0 H locs) (hP : va_P D vwCl ws H) (hD : va_D A ws) (hA : ∀ q, H0.size ≤ q → A q) (is : List Nat) (hC : is.map (fun i => ws[i]?) = wc.map some) (hf : ∀ u, (w1 u).map Prod.fst = wc.map Prod.fst)
    (kk : ∀ (r : Option Nat) (u : S) (H1 : Heap) (locs1 : List Loc), post r u → va_P D vwCl (zput ws is (w1 u)) H1 → va_D A (zput ws is (w1 u)) → va_S A H0 H1 locs1 → W p l e R s m args below meth c H1 locs1 cells slots Q (F0 m (pc + 3) ls (va_rf r :: rest))) : W p l e R s m args below meth c H locs cells slots Q (F0 m pc ls st0) := by
  have hF := va_free hD hS hA is hC
  refine va_callq hr hS (fun q _ h => hF q h) hF (fun r u t H1 locs1 ht _ hpost hB hz hk hS1 => ?_)
  obtain ⟨hB1, hB2⟩ := hB
  rw [ht] at hB1
  obtain ⟨h1, h2⟩ := zJoin (wn := []) hP hD is hC (hf u) hk hF (by rw [List.append_nil]; exact hB1) (by rw [List.append_nil]; exact hB2)
  rw [List.append_nil] at h1 h2
  exact kk r u H1 locs1 hpost h1 h2 hS1
end ZQ
/-! hashes -/
def hm (h v : Int) : Int := 31 * h + zw32 v
def hashL : Int → List Int → Int
  | h, [] => h
  | h, c :: cs => hashL (hm h c) cs
theorem hashL_step {h : Int} {L : List Int} {i : Nat} (hi : i < L.length) : hashL h (L.drop i) = hashL (hm h (L.getD i 0)) (L.drop (i + 1)) := by
  rw [drop_cons hi, hashL]
def foldH (f : Nat → Int) (h : Int) : Nat → Int
  | 0 => h
  | n + 1 => hm (foldH f h n) (f n)
def laneH (h nc : Int) (L : List Int) (ot : Int) : Int :=
  hm (hm (hm (hm (hm (hm (hm (hm (hashL h L) (lastL nc 30 L)) (lastL nc 30 L)) (lastL nc 75 L)) (lastL nc 75 L)) (lastL nc 120 L)) (lastL nc 120 L)) (ot + cleanAllS (restL nc 50 L))) (ot + cleanAllS (restL nc 100 L))
def bedH (ch : Nat → Int) (pl nc : Int) (A B C : List Int) (h bed : Int) : Int :=
  hm (hm (hm (foldH (fun w => bedOfS ch pl bed ((cleanS bed A + cleanS bed B) + cleanS bed C) w) h 5) (strS nc A bed)) (strS nc B bed)) (strS nc C bed)
def bedsH (F : Int → Int → Int) (h : Int) : Nat → Int
  | 0 => h
  | n + 1 => F (bedsH F h n) n
def textH (h : Int) (T : List Int) : Int := hashL (hm h (T.length : Int)) T
theorem bestIn_0 (f : Nat → Int) (base : Int) (i : Nat) (b m : Int) : bestIn f base i 0 b m = (b, m) := rfl

