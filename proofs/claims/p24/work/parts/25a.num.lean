/-! doubles: shares, their bits; the digest's words -/
section ZD
variable {p : Program} {l : Launch} {e : Env} {R : Room} {s : State} {m : MethodId} {args : Array Value} {below : List Frame} {meth : Method} {c : Code} {H : Heap} {locs : List Loc} {cells slots : Nat} {Q : State → Prop}
variable {D : va_G} {k : Nat → ClassId} {cc : ByteArray} {pc nL0 index : Nat} {own : String} {ret : Option FieldType} {ls : Array Slot} {rest st0 : List Value} {lv : List (Nat × Value)} {A : Nat → Prop} {ws wc : va_W} {H0 : Heap} {a : Array Value}
theorem zCallD0 {S : Type} {post : UInt64 → S → Prop} {w1 : S → va_W} (hr : va_Run p l e R s m args below meth c H locs cells slots 0 0 (F0 m pc ls st0) rest (va_Qd post (fun u => zOut D (va_A wc H.size) (w1 u)) (va_A wc H.size) a) (va_A wc H.size))
    (hS : va_S A H0 H locs) (hP : va_P D vwCl ws H) (hD : va_D A ws) (hA : ∀ q, H0.size ≤ q → A q) (is : List Nat) (hC : is.map (fun i => ws[i]?) = wc.map some) (hf : ∀ u, (w1 u).map Prod.fst = wc.map Prod.fst)
    (kk : ∀ (r : UInt64) (u : S) (H1 : Heap) (locs1 : List Loc), post r u → va_P D vwCl (zput ws is (w1 u)) H1 → va_D A (zput ws is (w1 u)) → va_S A H0 H1 locs1 → W p l e R s m args below meth c H1 locs1 cells slots Q (F0 m (pc + 3) ls (.double r :: rest))) : W p l e R s m args below meth c H locs cells slots Q (F0 m pc ls st0) := by
  have e1 : (fun u => zOut D (va_A wc H.size) (w1 u)) = (fun u => zOut D (va_A wc H.size) (w1 u ++ (fun _ : S => ([] : va_W)) u)) := by funext u; simp
  rw [e1] at hr
  refine zCallD (wn := fun _ : S => ([] : va_W)) hr hS hP hD hA is hC hf (fun r u H1 locs1 h1 h2 h3 h4 => ?_)
  rw [List.append_nil] at h2 h3
  exact kk r u H1 locs1 h1 h2 h3 h4
def zcmp (op : CmpOp) (x y : UInt64) : Int := (Op.cmpValue (FP.dcmp x y) op).toInt
theorem zcmp_rng (op : CmpOp) (x y : UInt64) : zR (zcmp op x y) := nZ_rng _
theorem zz_dcmp (X : zCx p s m args meth c cc nL0 ret own D k) {x y : UInt64} {op : CmpOp} (hdg : decode cc pc = .ok (.dcmp op, 1)) (kk : W p l e R s m args below meth c H locs cells slots Q (F0 m (pc + 1) ls (.int (nZ (zcmp op x y)) :: rest))) : W p l e R s m args below meth c H locs cells slots Q (F0 m pc ls (.double y :: .double x :: rest)) := by
  refine lv_dcmp X.1 X.2.1 hdg ?_
  unfold zcmp at kk
  rw [nZ_as] at kk
  exact kk
theorem nL_as (x : Int64) : nL x.toInt = x := Int64.ofInt_toInt x
theorem zz_d2l (X : zCx p s m args meth c cc nL0 ret own D k) {x : UInt64} (hdg : decode cc pc = .ok (.d2l, 1)) (kk : W p l e R s m args below meth c H locs cells slots Q (F0 m (pc + 1) ls (.long (nL (FP.d2l x).toInt) :: rest))) : W p l e R s m args below meth c H locs cells slots Q (F0 m pc ls (.double x :: rest)) := by
  refine lv_d2l X.1 X.2.1 hdg ?_
  rw [nL_as] at kk
  exact kk
theorem zz_lsub (X : zCx p s m args meth c cc nL0 ret own D k) {x y z : Int} (hdg : decode cc pc = .ok (.lsub, 1)) (hz : x - y = z) (kk : W p l e R s m args below meth c H locs cells slots Q (F0 m (pc + 1) ls (.long (nL z) :: rest))) : W p l e R s m args below meth c H locs cells slots Q (F0 m pc ls (.long (nL y) :: .long (nL x) :: rest)) := by
  subst hz
  refine lv_lsub X.1 X.2.1 hdg ?_
  rw [show nL x - nL y = nL (x - y) from (Int64.ofInt_sub x y).symm]
  exact kk
abbrev zL (a : Int) : Prop := -9223372036854775808 ≤ a ∧ a < 9223372036854775808
theorem nL_toInt {a : Int} (h : zL a) : (nL a).toInt = a := Int64.toInt_ofInt_of_le (by obtain ⟨h1, h2⟩ := h; omega) (by obtain ⟨h1, h2⟩ := h; omega)
def zlc (x y : Int) : Int := if x < y then -1 else if x = y then 0 else 1
theorem zlc_rng (x y : Int) : zR (zlc x y) := by
  unfold zlc
  split
  · exact ⟨by decide, by decide⟩
  · split <;> exact ⟨by decide, by decide⟩
theorem zz_lcmp (X : zCx p s m args meth c cc nL0 ret own D k) {x y : Int} (hx : zL x) (hy : zL y) (hdg : decode cc pc = .ok (.lcmp, 1)) (kk : W p l e R s m args below meth c H locs cells slots Q (F0 m (pc + 1) ls (.int (nZ (zlc x y)) :: rest))) : W p l e R s m args below meth c H locs cells slots Q (F0 m pc ls (.long (nL y) :: .long (nL x) :: rest)) := by
  refine W.lcmp X.1 X.2.1 hdg ?_
  have e : lg_cmp (nL x) (nL y) = nZ (zlc x y) := by
    unfold lg_cmp zlc
    have e1 : nL y < nL x ↔ y < x := by rw [Int64.lt_iff_toInt_lt, nL_toInt hx, nL_toInt hy]
    have e2 : nL x = nL y ↔ x = y := by rw [← Int64.toInt_inj, nL_toInt hx, nL_toInt hy]
    simp only [e1, e2]
    by_cases h1 : y < x
    · have h2 : ¬ x < y := by omega
      have h3 : ¬ x = y := by omega
      simp only [h1, h2, h3, if_true, if_false]
      rfl
    · by_cases h2 : x = y
      · have h3 : ¬ x < y := by omega
        subst h2
        simp only [h1, if_true, if_false]
        rfl
      · have h3 : x < y := by omega
        simp only [h1, h2, h3, if_true, if_false]
        rfl
  rw [e]
  exact kk
def zsh52 (x : Int) : Int := (nL x <<< (52 : Int64)).toInt
theorem zz_lshl (X : zCx p s m args meth c cc nL0 ret own D k) {x : Int} (hdg : decode cc pc = .ok (.lshl, 1)) (kk : W p l e R s m args below meth c H locs cells slots Q (F0 m (pc + 1) ls (.long (nL (zsh52 x)) :: rest))) : W p l e R s m args below meth c H locs cells slots Q (F0 m pc ls (.int (nZ 52) :: .long (nL x) :: rest)) := by
  refine lv_lshl (v := nL (zsh52 x)) X.1 X.2.1 hdg ?_ kk
  unfold zsh52
  rw [nL_as]
  rfl
end ZD
/-- the share of n chalks, in bits -/
def zShare (n : Int) : UInt64 := FP.ddiv (FP.i2d (nZ n)) 4632796641680687104
def zTwo : UInt64 := 4611686018427387904
def zMant : UInt64 := 4841369599423283200
/-- the class's own way from a double to its bits, where nothing is a NaN -/
def shOk : Nat → UInt64 → Int → Int → Bool
  | 0, _, _, _ => false
  | f + 1, y, i, r => if zcmp .g y FP.dconst1 < 0 then decide (FP.dmul y zTwo &&& 0x7fffffffffffffff ≤ 0x7ff0000000000000) && shOk f (FP.dmul y zTwo) (i + 1) r
    else decide (FP.dsub y FP.dconst1 &&& 0x7fffffffffffffff ≤ 0x7ff0000000000000) && (decide (FP.dmul (FP.dsub y FP.dconst1) zMant &&& 0x7fffffffffffffff ≤ 0x7ff0000000000000) && decide (zsh52 (1023 - i) + (FP.d2l (FP.dmul (FP.dsub y FP.dconst1) zMant)).toInt = r))
theorem shOk_go {f : Nat} {y : UInt64} {i r : Int} (h : shOk f y i r = true) (h1 : zcmp .g y FP.dconst1 < 0) : 0 < f ∧ vf_n64 (FP.dmul y zTwo) ∧ shOk (f - 1) (FP.dmul y zTwo) (i + 1) r = true := by
  cases f with
  | zero => cases h
  | succ f =>
    rw [shOk, if_pos h1, Bool.and_eq_true, decide_eq_true_iff] at h
    exact ⟨by omega, h.1, h.2⟩
theorem shOk_end {f : Nat} {y : UInt64} {i r : Int} (h : shOk f y i r = true) (h1 : 0 ≤ zcmp .g y FP.dconst1) : vf_n64 (FP.dsub y FP.dconst1) ∧ vf_n64 (FP.dmul (FP.dsub y FP.dconst1) zMant) ∧ zsh52 (1023 - i) + (FP.d2l (FP.dmul (FP.dsub y FP.dconst1) zMant)).toInt = r := by
  cases f with
  | zero => cases h
  | succ f =>
    rw [shOk, if_neg (by omega), Bool.and_eq_true, Bool.and_eq_true, decide_eq_true_iff, decide_eq_true_iff, decide_eq_true_iff] at h
    exact ⟨h.1, h.2.1, h.2.2⟩
theorem shOk_pos {f : Nat} {y : UInt64} {i r : Int} (h : shOk f y i r = true) : 0 < f := by
  cases f with
  | zero => cases h
  | succ f => exact Nat.succ_pos f
def bitsOk (x : UInt64) (r : Int) : Bool := if 0 < zcmp .g x FP.dconst0 then shOk 10 x 0 r else decide (r = 0)
/-- all that is asked of the shares of 0 to 54 chalks -/
def shareT (n : Nat) : Bool := decide (zShare (n : Int) &&& 0x7fffffffffffffff ≤ 0x7ff0000000000000) && (decide (zcmp .l (zShare (n : Int)) (zShare (n : Int)) = 0) && bitsOk (zShare (n : Int)) (zShare (n : Int)).toInt64.toInt)
set_option maxRecDepth 100000 in
theorem share_all : (List.range 55).all shareT = true := by decide +kernel
theorem share_at {n : Int} (h : 0 ≤ n ∧ n ≤ 54) : vf_n64 (zShare n) ∧ zcmp .l (zShare n) (zShare n) = 0 ∧ bitsOk (zShare n) (zShare n).toInt64.toInt = true := by
  obtain ⟨k, rfl⟩ := Int.eq_ofNat_of_zero_le h.1
  have h1 := List.all_eq_true.mp share_all k (List.mem_range.mpr (by omega))
  unfold shareT at h1
  rw [Bool.and_eq_true, Bool.and_eq_true, decide_eq_true_iff, decide_eq_true_iff] at h1
  exact ⟨h1.1, h1.2.1, h1.2.2⟩
theorem zw32_id {a : Int} (h : zR a) : zw32 a = a := nZ_toInt h
/-! the digest of a board, with the rest of an object -/
def countB (B : Bd) (size w : Int) : Int := countS (B.1 1) (B.1 2) (coinsB B) (cleanAllB B) (chSum (chB B) 0) (chSum (chB B) 1) (B.1 3) (B.1 4) (B.1 5) (B.1 6) (B.1 7) (B.1 8) size w
def laneB (B : Bd) (h : Int) (j : Nat) : Int := laneH h (B.1 0) (B.2 j) (cleanAllB B - cleanAllS (B.2 j))
def bedB (B : Bd) (h bed : Int) : Int := bedH (chB B) (B.1 1) (B.1 0) (B.2 0) (B.2 1) (B.2 2) h bed
def bitsB (B : Bd) : Int := (zShare (chalksB B)).toInt64.toInt
def bestB (B : Bd) : Int := best3 (leadF B 0) (leadF B 1) (leadF B 2)
def digC (B : Bd) (size : Int) : Int := hm (foldH (fun w => countB B size w) 3637 13) (B.1 0)
def digL (B : Bd) (size : Int) : Int := laneB B (laneB B (laneB B (digC B size) 0) 1) 2
def digB (B : Bd) (size k0 k1 : Int) (T : List Int) : Int := textH (31 * (31 * (31 * hm (bedsH (bedB B) (digL B size) 9) (bestB B) + bitsB B) + k0) + k1) T
theorem chalks_rng {B : Bd} (h : chOk (chB B)) : 0 ≤ chalksB B ∧ chalksB B ≤ 54 := by
  have h0 := chSum_rng h (o := 0) (by omega)
  have h1 := chSum_rng h (o := 1) (by omega)
  unfold chalksB
  omega
theorem best_B (B : Bd) : bestS (chB B) (B.1 1) (B.1 0) (B.2 0) (B.2 1) (B.2 2) = bestB B := by
  have e0 : (fun st : Nat => leadB (chB B) (B.1 1) (restL (B.1 0) st (B.2 0)) (B.2 1) (B.2 2)) = leadF B 0 := by
    funext st
    show _ = leadR (chB (push0 B 0 st)) ((push0 B 0 st).1 1) (fun b => cleanB (push0 B 0 st) b)
    rw [push0_ch, push0_nums B 0 st (by omega)]
    rfl
  have e1 : (fun st : Nat => leadB (chB B) (B.1 1) (B.2 0) (restL (B.1 0) st (B.2 1)) (B.2 2)) = leadF B 1 := by
    funext st
    show _ = leadR (chB (push0 B 1 st)) ((push0 B 1 st).1 1) (fun b => cleanB (push0 B 1 st) b)
    rw [push0_ch, push0_nums B 1 st (by omega)]
    rfl
  have e2 : (fun st : Nat => leadB (chB B) (B.1 1) (B.2 0) (B.2 1) (restL (B.1 0) st (B.2 2))) = leadF B 2 := by
    funext st
    show _ = leadR (chB (push0 B 2 st)) ((push0 B 2 st).1 1) (fun b => cleanB (push0 B 2 st) b)
    rw [push0_ch, push0_nums B 2 st (by omega)]
    rfl
  unfold bestB bestS
  rw [← e0, ← e1, ← e2]
section ZD2
variable {p : Program} {l : Launch} {e : Env} {R : Room} {s : State} {m : MethodId} {args : Array Value} {below : List Frame} {meth : Method} {c : Code} {H : Heap} {locs : List Loc} {cells slots : Nat} {Q : State → Prop}
variable {D : va_G} {k : Nat → ClassId} {cc : ByteArray} {pc nL0 index : Nat} {own : String} {ret : Option FieldType} {ls : Array Slot} {rest : List Value} {lv : List (Nat × Value)}
theorem zz_rawbits (X : zCx p s m args meth c cc nL0 ret own D k) (hl : lv_has ls nL0 lv) (hlink : (Cond.methodLink own index ⟨"java/lang/Double", "doubleToRawLongBits", "(D)J"⟩) ∈ wsL_law) (hnat : (Cond.native ⟨"java/lang/Double", "doubleToRawLongBits", "(D)J"⟩) ∈ wsL_law) (hstat : (Cond.static ⟨"java/lang/Double", "doubleToRawLongBits", "(D)J"⟩) ∈ wsL_law) (hinit : (Cond.initialized "java/lang/Double") ∈ wsL_law) {b : UInt64}
    (hframes : 1 ≤ R.frames) (hlocals : (rest.map fun v => v.category).sum + 15 ≤ R.locals) (hdg : decode cc pc = .ok (.invokestatic index, 3))
    (kk : W p l e R s m args below meth c H locs cells slots Q (F0 m (pc + 3) ls (.long (nL b.toInt64.toInt) :: rest))) : W p l e R s m args below meth c H locs cells slots Q (F0 m pc ls (.double b :: rest)) := by
  have hts := X.2.2.2.2.1
  refine vn_d2l X.1 X.2.1 (X.2.2.2.1.trans hl.1.symm) X.2.2.2.2.2.1 (hts _ hlink) (hts _ hnat) (hts _ hstat) (hts _ hinit) hframes hlocals hdg ?_
  rw [nL_as] at kk
  exact kk
end ZD2

