/-! a method of a class that the machine may take over: by the method's own name (the road of Met.ofW, with the law MetFree.of_bodySF) -/
theorem zMet_ofWF {l : Launch} {y : MethodName} {ws ws' : List Cond} {rm : Room} {Pc : Array Value → State → Prop} {Qc : Array Value → State → Outcome → State → Prop} {mc ms : Nat} {free : Addr → Prop} {cc : ByteArray} {maxL : Nat} {ret : Option FieldType}
    (hy : plainFor y = true) (hw : ws = Cond.code y cc maxL ret :: ws')
    (body : ∀ p e s m args below meth c s₁, BodyLoose p l y (headSpec ws rm) cc maxL ret e s m args below meth c s₁ → c.maxLocals = maxL → Pc args s →
      W p l e (headSpec ws rm).room s m args below meth c s.heap [] 0 0 (MQ below Qc args s mc ms free) (entryFrame m args maxL)) : Met l y ws rm Pc Qc mc ms free := by
  refine MetFree.of_bodySF (code := cc) (maxLocals := maxL) (ret := ret) hy ?_ ?_
  · intro args s m h hn
    obtain ⟨meth, c, h1, h2, h3, h4, h5, h6, -, -⟩ := Cond.code_spec hn (atoms_spec (ws := ws) h _ (by rw [hw]; exact List.mem_cons_self))
    exact ⟨meth, c, h1, h2, h3, h4, h5, h6⟩
  · intro p e s m args below meth c s₁ B hml hP _
    have hh0 : s₁.heap = s.heap := by rw [B.state]; rfl
    obtain ⟨t, a1, o, b1, b2, b3⟩ := body p e s m args below meth c s₁ B hml hP s₁ hh0 (Stand.of_body B)
    exact ⟨t, o, a1, b1, b2, ⟨b3.1, b3.2⟩⟩
section ZE
variable {D : va_G} {k : Nat → ClassId}
theorem zEnterF {l : Launch} {sz : Nat} {w0 : va_W} {y : MethodName} {rm : Room} {mc ms : Nat} {cc : ByteArray} {maxL : Nat} {ret : Option FieldType} {av : List Value} {Qf : (Nat → Prop) → Array Value → State → Outcome → State → Prop} (own : String) (hy : plainFor y = true) (hown : y.cls = own) (hlen : (lg_sl av).length ≤ maxL)
    (body : ∀ (p : Program) (e : Env) (s : State) (m : MethodId) (below : List Frame) (meth : Method) (c : Code) (ls : Array Slot) (A : Nat → Prop), zCx p s m av.toArray meth c cc maxL ret own D k → (y.name = "<init>" → meth.name = "<init>") →
      va_P D vwCl w0 s.heap → va_D A w0 → va_S A s.heap s.heap [] → (∀ q, s.heap.size ≤ q → A q) → A = va_A w0 s.heap.size → lv_has ls maxL (lv_args 0 av) →
      W p l e rm s m av.toArray below meth c s.heap [] 0 0 (MQ below (Qf A) av.toArray s mc ms A) (F0 m 0 ls [])) :
    Met l y (zW y cc maxL ret) rm (va_Pc av (zIn D k sz w0)) (Qf (va_A w0 sz)) mc ms (va_A w0 sz) := by
  refine zMet_ofWF (cc := cc) (maxL := maxL) (ret := ret) hy rfl ?_
  intro p e s m args below meth c s₁ B hml hv
  obtain ⟨rfl, hsz, hP, hK, hD0⟩ := hv
  have hts := atoms_spec (ws := zW y cc maxL ret) B.pre
  have hf : s.vm.findClass own = some m.cls := by rw [← hown]; exact findClass_of_methodNamed B.named
  subst hsz
  rw [lg_entry_eq]
  exact body p e s m below meth c _ _ ⟨B.exec, B.bytes, B.returns, hml, fun w hw => hts w (List.mem_cons_of_mem _ hw), hf, B.notSynchronized, hK⟩ (fun h => (name_of_methodNamed B.named B.method).1.trans h) hP hD0.self va_S.rf (fun q h => Or.inr h) rfl (lv_entry av hlen)
end ZE
theorem ms_J9_floorMod_7cf53 : zMS yJ9_floorMod_7cf53 cJ9_floorMod_7cf53 3 (some .int) 2 := ⟨zw_258, zw_257, ⟨by decide +kernel, by decide +kernel, by decide +kernel⟩, zw_256⟩
set_option maxHeartbeats 4000000 in
set_option maxRecDepth 100000 in
theorem c_J9_floorMod_7cf53 (l : Launch) (D : va_G) (k : Nat → ClassId) (sz : Nat) (x : Int) (hx : 0 ≤ x ∧ x < 12) : Met l yJ9_floorMod_7cf53 (zW yJ9_floorMod_7cf53 cJ9_floorMod_7cf53 3 (some .int)) ({ frames := 0, cells := 0, slots := 0, locals := 0 } : Room) (va_Pc [.int (nZ x), .int (nZ 6)] (zIn D k sz [])) (va_Qi (fun (rz : Int32) (uz : Unit) => rz = nZ (x % 6)) (fun (uz : Unit) => zOut D (va_A [] sz) []) (va_A [] sz)) 0 0 (va_A [] sz) := by
  refine zEnterF (Qf := fun A => va_Qi (fun (rz : Int32) (uz : Unit) => rz = nZ (x % 6)) (fun (uz : Unit) => zOut D A []) A) RJ9 (by decide +kernel) rfl (Nat.le_of_ble_eq_true rfl) ?_
  intro p9 e9 s9 m9 be9 me9 c9 ls A X hin hP hD hS hA hAe hl
  have hX := X.1; have hB := X.2.1; have hz := X.2.2.2.2.1; have hW := X.2.2.2.2.2.1; have hK := X.2.2.2.2.2.2.2; clear hAe
  clear hin
  have hl : lv_has ls 3 [(0, .int (nZ x)), (1, .int (nZ 6))] := hl
  refine lv_iload_n hX hB dJ9_floorMod_7cf53_0 rfl (lv_at hl 0 rfl) ?_
  refine lv_iload_n hX hB dJ9_floorMod_7cf53_1 rfl (lv_at hl 1 rfl) ?_
  refine zz_irem X dJ9_floorMod_7cf53_2 (z := (x % 6)) (by first | rfl | omega) ⟨by omega, by omega, by omega, by omega⟩ ?_
  refine lv_istore_n (lv' := [(2, .int (nZ (x % 6))), (0, .int (nZ x)), (1, .int (nZ 6))]) hX hB dJ9_floorMod_7cf53_3 rfl hl (by decide) rfl (fun ls hl => ?_)
  refine lv_iload_n hX hB dJ9_floorMod_7cf53_4 rfl (lv_at hl 1 rfl) ?_
  refine lv_iload_n hX hB dJ9_floorMod_7cf53_5 rfl (lv_at hl 2 rfl) ?_
  refine zz_ixor X ⟨by omega, by omega⟩ (tgt := 18) dJ9_floorMod_7cf53_6 dJ9_floorMod_7cf53_7 (by decide) ?_
  refine lv_iload_n hX hB dJ9_floorMod_7cf53_18 rfl (lv_at hl 0 rfl) ?_
  exact zRetI () X hP hD hS rfl (by first | rfl | (congr 1; omega) | (dsimp only; congr 1; omega)) dJ9_floorMod_7cf53_19

