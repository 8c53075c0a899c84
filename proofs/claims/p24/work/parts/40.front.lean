/-! calls on an object's world, alone or behind an array of the law's own -/
section ZC9
variable {p : Program} {l : Launch} {e : Env} {R : Room} {s : State} {m : MethodId} {args : Array Value} {below : List Frame} {meth : Method} {c : Code} {H : Heap} {locs : List Loc} {cells slots : Nat} {Q : State → Prop}
variable {D : va_G} {k : Nat → ClassId} {cc : ByteArray} {pc nLo : Nat} {own : String} {ret : Option FieldType} {ls : Array Slot} {rest st0 : List Value} {A : Nat → Prop} {xs : va_W} {ar : Nat × va_E} {H0 : Heap} {a : Array Value} {mc ms : Nat} {av As : List Value} {h : Nat} {σ : Sv}
theorem zn1 : xs.Perm (xs ++ []) := by rw [List.append_nil]
theorem zn2 : (ar :: xs).Perm (xs ++ [ar]) := (List.perm_append_singleton _ _).symm
theorem zPre1 (hP : va_P D vwCl xs H) (hD : va_D A xs) (hK : zK D k s) : PreS s H (va_Pc av (zIn D k H.size xs)) av := zPreSO hP hD hK zn1
theorem zPre2 (hP : va_P D vwCl (ar :: xs) H) (hD : va_D A (ar :: xs)) (hK : zK D k s) : PreS s H (va_Pc av (zIn D k H.size xs)) av := zPreSO hP hD hK zn2
theorem zPreV1 (hP : va_P D vwCl xs H) (hD : va_D A xs) (hK : zK D k s) (hx : isX k h σ xs) {C : String} (hC : RX6 = C) : PreV s H C h (va_Pc (.ref h :: As) (zIn D k H.size xs)) As := by
  obtain ⟨fs, he⟩ := hx.recv
  exact zPreVO hP hD hK zn1 he rfl hC
theorem zPreV2 (hP : va_P D vwCl (ar :: xs) H) (hD : va_D A (ar :: xs)) (hK : zK D k s) (hx : isX k h σ xs) {C : String} (hC : RX6 = C) : PreV s H C h (va_Pc (.ref h :: As) (zIn D k H.size xs)) As := by
  obtain ⟨fs, he⟩ := hx.recv
  exact zPreVO hP hD hK zn2 he rfl hC
theorem zc1 {post : Int32 → va_W → Prop} (hr : va_Run p l e R s m args below meth c H locs cells slots mc ms (F0 m pc ls st0) rest (va_Qi post (fun u => zOut D (va_A xs H.size) u) (va_A xs H.size) a) (va_A xs H.size))
    (hS : va_S A H0 H locs) (hP : va_P D vwCl xs H) (hD : va_D A xs) (hA : ∀ q, H0.size ≤ q → A q)
    (kk : ∀ (r : Int32) (u : va_W) (H1 : Heap) (locs1 : List Loc), post r u → va_P D vwCl u H1 → va_D A u → va_S A H0 H1 locs1 → W p l e R s m args below meth c H1 locs1 (cells + mc) (slots + ms) Q (F0 m (pc + 3) ls (.int r :: rest))) : W p l e R s m args below meth c H locs cells slots Q (F0 m pc ls st0) :=
  zCallIO hr hS hP hD hA zn1 (fun r u H1 l1 hp hP hD hS => kk r u H1 l1 hp (by rwa [List.append_nil] at hP) (by rwa [List.append_nil] at hD) hS)
theorem zc1n {post : Int32 → va_W → Prop} (hr : va_Run p l e R s m args below meth c H locs cells slots 0 0 (F0 m pc ls st0) rest (va_Qi post (fun u => zOut D (va_A xs H.size) u) (va_A xs H.size) a) (va_A xs H.size))
    (hS : va_S A H0 H locs) (hP : va_P D vwCl xs H) (hD : va_D A xs) (hA : ∀ q, H0.size ≤ q → A q)
    (kk : ∀ (r : Int32) (u : va_W) (H1 : Heap) (locs1 : List Loc), post r u → va_P D vwCl u H1 → va_D A u → va_S A H0 H1 locs1 → W p l e R s m args below meth c H1 locs1 cells slots Q (F0 m (pc + 3) ls (.int r :: rest))) : W p l e R s m args below meth c H locs cells slots Q (F0 m pc ls st0) :=
  zc1 hr hS hP hD hA kk
theorem zc2 {post : Int32 → va_W → Prop} (hr : va_Run p l e R s m args below meth c H locs cells slots mc ms (F0 m pc ls st0) rest (va_Qi post (fun u => zOut D (va_A xs H.size) u) (va_A xs H.size) a) (va_A xs H.size))
    (hS : va_S A H0 H locs) (hP : va_P D vwCl (ar :: xs) H) (hD : va_D A (ar :: xs)) (hA : ∀ q, H0.size ≤ q → A q)
    (kk : ∀ (r : Int32) (u : va_W) (H1 : Heap) (locs1 : List Loc), post r u → va_P D vwCl (ar :: u) H1 → va_D A (ar :: u) → va_S A H0 H1 locs1 → W p l e R s m args below meth c H1 locs1 (cells + mc) (slots + ms) Q (F0 m (pc + 3) ls (.int r :: rest))) : W p l e R s m args below meth c H locs cells slots Q (F0 m pc ls st0) :=
  zCallIO hr hS hP hD hA zn2 (fun r u H1 l1 hp hP hD hS => kk r u H1 l1 hp (zPerm_P hP zn2.symm) (zPerm_D hD zn2.symm) hS)
theorem zc2n {post : Int32 → va_W → Prop} (hr : va_Run p l e R s m args below meth c H locs cells slots 0 0 (F0 m pc ls st0) rest (va_Qi post (fun u => zOut D (va_A xs H.size) u) (va_A xs H.size) a) (va_A xs H.size))
    (hS : va_S A H0 H locs) (hP : va_P D vwCl (ar :: xs) H) (hD : va_D A (ar :: xs)) (hA : ∀ q, H0.size ≤ q → A q)
    (kk : ∀ (r : Int32) (u : va_W) (H1 : Heap) (locs1 : List Loc), post r u → va_P D vwCl (ar :: u) H1 → va_D A (ar :: u) → va_S A H0 H1 locs1 → W p l e R s m args below meth c H1 locs1 cells slots Q (F0 m (pc + 3) ls (.int r :: rest))) : W p l e R s m args below meth c H locs cells slots Q (F0 m pc ls st0) :=
  zc2 hr hS hP hD hA kk
theorem zcL1n {post : Int64 → va_W → Prop} (hr : va_Run p l e R s m args below meth c H locs cells slots 0 0 (F0 m pc ls st0) rest (va_Ql post (fun u => zOut D (va_A xs H.size) u) (va_A xs H.size) a) (va_A xs H.size))
    (hS : va_S A H0 H locs) (hP : va_P D vwCl xs H) (hD : va_D A xs) (hA : ∀ q, H0.size ≤ q → A q)
    (kk : ∀ (r : Int64) (u : va_W) (H1 : Heap) (locs1 : List Loc), post r u → va_P D vwCl u H1 → va_D A u → va_S A H0 H1 locs1 → W p l e R s m args below meth c H1 locs1 cells slots Q (F0 m (pc + 3) ls (.long r :: rest))) : W p l e R s m args below meth c H locs cells slots Q (F0 m pc ls st0) :=
  zCallLO hr hS hP hD hA zn1 (fun r u H1 l1 hp hP hD hS => kk r u H1 l1 hp (by rwa [List.append_nil] at hP) (by rwa [List.append_nil] at hD) hS)
theorem zcD2n {post : UInt64 → va_W → Prop} (hr : va_Run p l e R s m args below meth c H locs cells slots 0 0 (F0 m pc ls st0) rest (va_Qd post (fun u => zOut D (va_A xs H.size) u) (va_A xs H.size) a) (va_A xs H.size))
    (hS : va_S A H0 H locs) (hP : va_P D vwCl (ar :: xs) H) (hD : va_D A (ar :: xs)) (hA : ∀ q, H0.size ≤ q → A q)
    (kk : ∀ (r : UInt64) (u : va_W) (H1 : Heap) (locs1 : List Loc), post r u → va_P D vwCl (ar :: u) H1 → va_D A (ar :: u) → va_S A H0 H1 locs1 → W p l e R s m args below meth c H1 locs1 cells slots Q (F0 m (pc + 3) ls (.double r :: rest))) : W p l e R s m args below meth c H locs cells slots Q (F0 m pc ls st0) :=
  zCallDO hr hS hP hD hA zn2 (fun r u H1 l1 hp hP hD hS => kk r u H1 l1 hp (zPerm_P hP zn2.symm) (zPerm_D hD zn2.symm) hS)
theorem zDrop (hP : va_P D vwCl (ar :: xs) H) (hD : va_D A (ar :: xs)) : va_P D vwCl xs H ∧ va_D A xs :=
  ⟨zP_iff.mpr (fun q hq => zP_iff.mp hP q (List.mem_cons_of_mem _ hq)), zD_iff.mpr ⟨(List.nodup_cons.mp (by simpa using (zD_iff.mp hD).1)).2, fun q hq => (zD_iff.mp hD).2 q (List.mem_cons_of_mem _ hq)⟩⟩
theorem zs_eq (X : zCx p s m args meth c cc nLo ret own D k) {x y : Int} (he : x = y) {off : Int} {tgt : Nat} (hdg : decode cc pc = .ok (.if_icmp .eq off, 3)) (ht : (pc : Int) + off = (tgt : Int)) (kk : W p l e R s m args below meth c H locs cells slots Q (F0 m tgt ls rest)) : W p l e R s m args below meth c H locs cells slots Q (F0 m pc ls (.int (nZ y) :: .int (nZ x) :: rest)) := by
  subst he
  exact lv_icmp_eq X.1 X.2.1 hdg ht (fun _ => kk) (fun h => absurd rfl h)
theorem zs_ne (X : zCx p s m args meth c cc nLo ret own D k) {x y : Int} (he : x = y) {off : Int} {tgt : Nat} (hdg : decode cc pc = .ok (.if_icmp .ne off, 3)) (ht : (pc : Int) + off = (tgt : Int)) (kk : W p l e R s m args below meth c H locs cells slots Q (F0 m (pc + 3) ls rest)) : W p l e R s m args below meth c H locs cells slots Q (F0 m pc ls (.int (nZ y) :: .int (nZ x) :: rest)) := by
  subst he
  exact lv_icmp_ne X.1 X.2.1 hdg ht (fun h => absurd rfl h) (fun _ => kk)
theorem zs_lcmp (X : zCx p s m args meth c cc nLo ret own D k) {x y : Int} (he : x = y) (hdg : decode cc pc = .ok (.lcmp, 1)) (kk : W p l e R s m args below meth c H locs cells slots Q (F0 m (pc + 1) ls (.int (nZ 0) :: rest))) : W p l e R s m args below meth c H locs cells slots Q (F0 m pc ls (.long (nL y) :: .long (nL x) :: rest)) := by
  subst he
  refine W.lcmp X.1 X.2.1 hdg ?_
  have e : lg_cmp (nL x) (nL x) = nZ 0 := by
    unfold lg_cmp
    rw [if_neg (by show ¬ nL x < nL x; rw [Int64.lt_iff_toInt_lt]; omega)]
    simp
    rfl
  rw [e]
  exact kk
end ZC9
/-! the law's numbers: low bits, shifts -/
theorem and_rng (x : Int32) : 0 ≤ (x &&& 2147483647).toInt ∧ (x &&& 2147483647).toInt < 2147483648 := by
  have h : (x &&& 2147483647).toBitVec.toNat < 2147483648 := by
    rw [Int32.toBitVec_and, BitVec.toNat_and]
    exact Nat.lt_of_le_of_lt Nat.and_le_right (by decide)
  rw [show (x &&& 2147483647).toInt = (x &&& 2147483647).toBitVec.toInt from rfl, BitVec.toInt_eq_toNat_of_lt (by omega)]
  omega
def andS (x : Int) : Int := (nZ x &&& 2147483647).toInt
def lowS (x n : Int) : Int := andS x % n
theorem lowS_rng (x : Int) {n : Int} (h : 0 < n) : 0 ≤ lowS x n ∧ lowS x n < n := ⟨Int.emod_nonneg _ (by omega), Int.emod_lt_of_pos _ h⟩
def zshr (x m : Int) : Int := (nZ x >>> (nZ m &&& 31)).toInt
theorem zshr_rng (x m : Int) : zR (zshr x m) := nZ_rng _
section ZSH
variable {p : Program} {l : Launch} {e : Env} {R : Room} {s : State} {m : MethodId} {args : Array Value} {below : List Frame} {meth : Method} {c : Code} {H : Heap} {locs : List Loc} {cells slots : Nat} {Q : State → Prop}
variable {D : va_G} {k : Nat → ClassId} {cc : ByteArray} {pc nLo : Nat} {own : String} {ret : Option FieldType} {ls : Array Slot} {rest : List Value}
theorem zz_ishr (X : zCx p s m args meth c cc nLo ret own D k) {x y : Int} (hdg : decode cc pc = .ok (.ishr, 1)) (kk : W p l e R s m args below meth c H locs cells slots Q (F0 m (pc + 1) ls (.int (nZ (zshr x y)) :: rest))) : W p l e R s m args below meth c H locs cells slots Q (F0 m pc ls (.int (nZ y) :: .int (nZ x) :: rest)) := by
  refine lv_ishr X.1 X.2.1 hdg ?_
  unfold zshr at kk
  rw [nZ_as] at kk
  exact kk
theorem zz_iand (X : zCx p s m args meth c cc nLo ret own D k) {x : Int} (hdg : decode cc pc = .ok (.iand, 1)) (kk : W p l e R s m args below meth c H locs cells slots Q (F0 m (pc + 1) ls (.int (nZ (andS x)) :: rest))) : W p l e R s m args below meth c H locs cells slots Q (F0 m pc ls (.int 2147483647 :: .int (nZ x) :: rest)) := by
  refine lv_iand X.1 X.2.1 hdg ?_
  unfold andS at kk
  rw [nZ_as] at kk
  exact kk
end ZSH
