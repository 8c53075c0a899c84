/-! exceptions: what a throw stands on, and what a caller sees of it -/
abbrev zIO : String := "java/lang/IndexOutOfBoundsException"
abbrev zIA : String := "java/lang/IllegalArgumentException"
abbrev zIS : String := "java/lang/IllegalStateException"
abbrev zNames : List String := ["java/lang/RuntimeException", "java/lang/Exception"]
def wB : List Cond := [.declares (Bundle.initS "java/lang/RuntimeException"), .declares (Bundle.initS "java/lang/Exception"), .declares (Bundle.initS Bundle.tN), .castable zIO zIO, .castable zIA zIA, .castable zIS zIS]
def zStr : List (Nat × String) := [(112, "a character code is 33 to 126"), (119, "the buffer has 60 characters"), (183, "a number of a bed is 0 to 4"), (172, "a rank is from 0"), (198, "a number of the board is 0 to 12"), (224, "a push is told in the way 0 or 1"), (162, "there is no snapshot in the slot"), (136, "the buffer does not tell coins"), (318, "a bed is 0 to 8"), (315, "a lane is 0 to 2"), (322, "a slot is 0 or 1"), (320, "a strength is 1 to 150"), (107, "a setting is 0 to 20"), (167, "there is no saved state")]
theorem wB_face : ∀ w ∈ wB, w.faceAtom = true := by
  have h : wB.all Cond.faceAtom = true := by decide +kernel
  exact List.all_eq_true.mp h
theorem wB_tab : ∀ w ∈ wB, w.onTables = true := by
  have h : wB.all Cond.onTables = true := by decide +kernel
  exact List.all_eq_true.mp h
def zT (U : State) : Prop := (∀ w ∈ wB, w.before #[] U = true) ∧ (∀ q ∈ zStr, ∃ a, vk_R RX6 q.1 q.2 a U) ∧ va_Nc zIA zIO U ∧ va_Nc zIS zIA U
def zZ (A : Nat → Prop) (U : State) (H : Heap) : Prop := vx_Zq Bundle.tN "UNASSIGNED_STACK" Bundle.steD A U H ∧ vx_Zq Bundle.tN "SUPPRESSED_SENTINEL" Bundle.listD A U H
theorem zT.warm {s U : State} (hW : s.WarmedH U.vm) (h : zT s) : zT U :=
  ⟨fun w hw => va_tabs (A := #[]) (u := s.setVm U.vm) (wB_tab w hw) rfl (Cond.faceAtom_setVm hW.alike w (wB_face w hw) (h.1 w hw)), fun q hq => (h.2.1 q hq).imp (fun a ha => vk_R.warm hW ha), va_Nc.moved hW.alike h.2.2.1, va_Nc.moved hW.alike h.2.2.2⟩
theorem zT.same {u U : State} (e : U.vm = u.vm) (h : zT u) : zT U :=
  ⟨fun w hw => va_tabs (A := #[]) (wB_tab w hw) e.symm (h.1 w hw), fun q hq => (h.2.1 q hq).imp (fun a ha => vk_R.same e ha), va_Nc.moved (by rw [e]; exact Vm.Alike.refl _) h.2.2.1, va_Nc.moved (by rw [e]; exact Vm.Alike.refl _) h.2.2.2⟩
theorem zT.use {U : State} (h : zT U) {args : Array Value} : ∀ w ∈ wB, w.before args U = true := fun w hw => va_any (wB_tab w hw) (h.1 w hw)
theorem zZ.moved {A : Nat → Prop} {u U : State} {H : Heap} (hvm : u.vm.Alike U.vm) (h : zZ A u H) : zZ A U H := ⟨h.1.moved hvm, h.2.moved hvm⟩
theorem zZ.kept {A : Nat → Prop} {U : State} {H H1 : Heap} (h : zZ A U H) (hq : ∀ a : Nat, a < H.size → ¬ A a → H1[a]? = H[a]?) : zZ A U H1 := ⟨h.1.kept hq, h.2.kept hq⟩
theorem zZ.narrow {A B : Nat → Prop} {U : State} {H : Heap} (h : zZ A U H) (hAB : ∀ q, B q → A q) : zZ B U H := ⟨h.1.narrow hAB, h.2.narrow hAB⟩
def zInT (D : va_G) (k : Nat → ClassId) (sz : Nat) (ws : va_W) : State → Prop := fun U => zIn D k sz ws U ∧ zT U ∧ zZ (va_A ws sz) U U.heap
theorem zBlindT (D : va_G) (k : Nat → ClassId) (sz : Nat) (ws : va_W) (av : List Value) : FrameBlind (va_Pc av (zInT D k sz ws)) := by
  intro a U g mk h
  obtain ⟨h1, ⟨h2, h3, h4, h5⟩, hT, hZ⟩ := h
  exact ⟨h1, ⟨h2, h3, zK.same (u := U) (U := U.calling g mk a) rfl h4, h5⟩, hT.same (u := U) (U := U.calling g mk a) rfl, hZ.moved (u := U) (U := U.calling g mk a) (Vm.Alike.refl _)⟩
theorem zPreST {D : va_G} {k : Nat → ClassId} {s : State} {H : Heap} {ws wc : va_W} {A : Nat → Prop} {av : List Value} {locs : List Loc} (hP : va_P D vwCl ws H) (hD : va_D A ws) (hK : zK D k s) (hS : va_S A s.heap H locs) (hA : ∀ q, s.heap.size ≤ q → A q) (hT : zT s) (hZ : zZ A s s.heap) (is : List Nat) (hC : is.map (fun i => ws[i]?) = wc.map some) (hn : va_nd is = true) : PreS s H (va_Pc av (zInT D k H.size wc)) av :=
  ⟨zBlindT _ _ _ _ _, fun U hU hW => ⟨rfl, ⟨by rw [hU], by rw [hU]; exact hP.sub is (zfm hC), hK.warm hW, (hD.sub is hn hC).weaken (fun _ _ _ _ => trivial)⟩, hT.warm hW, by rw [hU]; exact ((hZ.kept hS.2.1).narrow (va_free hD hS hA is hC)).moved hW.alike⟩⟩
theorem zPreVT {D : va_G} {k : Nat → ClassId} {s : State} {H : Heap} {ws wc : va_W} {A : Nat → Prop} {b : Nat} {As : List Value} {C : String} {locs : List Loc} (hP : va_P D vwCl ws H) (hD : va_D A ws) (hK : zK D k s) (hS : va_S A s.heap H locs) (hA : ∀ q, s.heap.size ≤ q → A q) (hT : zT s) (hZ : zZ A s s.heap) (is : List Nat) (hC : is.map (fun i => ws[i]?) = wc.map some) (hn : va_nd is = true) (q0 ci : Nat) {fs : List Value} {r : vw_C} (he : ws[q0]? = some (b, .inr (ci, fs))) (hc : vwCl[ci]? = some r) (hr : r.1 = C) : PreV s H C b (va_Pc (.ref b :: As) (zInT D k H.size wc)) As := by
  subst hr
  exact ⟨zBlindT _ _ _ _ _, va_recv hK.1 hP hc he, (zPreST hP hD hK hS hA hT hZ is hC hn).2⟩
/-- the class by its name, and a world that is as it was -/
def zXC (D : va_G) (cls : String) (ws : va_W) (A : Nat → Prop) : String → State → State → Prop := vx_X (fun _ : Unit => True) (fun E _ t => E = cls ∧ va_P D vwCl ws t.heap ∧ va_D A ws) A
def zAt (ic : Nat) (cls : String) : Prop := (∀ w ∈ (vx_atS RX6 ic cls zNames).filter goodWord, w ∈ wsL_law) ∧ (∀ w ∈ (vx_atS RX6 ic cls zNames).filter (fun w => !goodWord w), w ∈ wB) ∧ (∀ w ∈ vx_atS RX6 ic cls zNames, vx_ot w = true) ∧ Bundle.fit cls = true
theorem zsub_of {L B : List Cond} (h : L.all (fun w => decide (w ∈ B)) = true) : ∀ w ∈ L, w ∈ B := fun w hw => of_decide_eq_true (List.all_eq_true.mp h w hw)
theorem zAt_IO : zAt 317 zIO := ⟨fun _ h => List.mem_append_left _ (List.mem_append_left _ (List.mem_append_right _ h)), zsub_of (by decide +kernel), List.all_eq_true.mp (by decide +kernel), by decide +kernel⟩
theorem zAt_IA : zAt 109 zIA := ⟨fun _ h => List.mem_append_left _ (List.mem_append_right _ h), zsub_of (by decide +kernel), List.all_eq_true.mp (by decide +kernel), by decide +kernel⟩
theorem zAt_IS : zAt 121 zIS := ⟨fun _ h => List.mem_append_right _ h, zsub_of (by decide +kernel), List.all_eq_true.mp (by decide +kernel), by decide +kernel⟩
theorem zNames_fit : ∀ n ∈ zNames, Bundle.fit n = true := by
  have h : zNames.all Bundle.fit = true := by decide +kernel
  exact List.all_eq_true.mp h
section ZX
variable {D : va_G} {k : Nat → ClassId}
theorem zEnterX {l : Launch} {sz : Nat} {w0 : va_W} {y : MethodName} {rm : Room} {mc ms : Nat} {cc : ByteArray} {maxL : Nat} {ret : Option FieldType} {av : List Value} {Qf : (Nat → Prop) → Array Value → State → Outcome → State → Prop} {XC : (Nat → Prop) → String → State → State → Prop} (own : String) (hy : plainName y.cls = true) (hown : y.cls = own) (hlen : (lg_sl av).length ≤ maxL)
    (body : ∀ (p : Program) (e : Env) (s : State) (m : MethodId) (below : List Frame) (meth : Method) (c : Code) (ls : Array Slot) (A : Nat → Prop), zCx p s m av.toArray meth c cc maxL ret own D k → (∀ x ∈ c.exceptionTable.toList, False) → zT s → zZ A s s.heap →
      va_P D vwCl w0 s.heap → va_D A w0 → va_S A s.heap s.heap [] → (∀ q, s.heap.size ≤ q → A q) → A = va_A w0 s.heap.size → lv_has ls maxL (lv_args 0 av) →
      W p l e rm s m av.toArray below meth c s.heap [] 0 0 (vx_MQ below (Qf A) (XC A) av.toArray s mc ms A) (F0 m 0 ls [])) :
    vx_Met l y (zW y cc maxL ret) rm (va_Pc av (zInT D k sz w0)) (Qf (va_A w0 sz)) (XC (va_A w0 sz)) mc ms (va_A w0 sz) := by
  refine vx_ofW (cc := cc) (maxL := maxL) (ret := ret) hy rfl ?_
  intro p e s m args below meth c s₁ B hml ht hv
  obtain ⟨rfl, ⟨hsz, hP, hK, hD0⟩, hT, hZ⟩ := hv
  have hts := atoms_spec (ws := zW y cc maxL ret) B.pre
  have hf : s.vm.findClass own = some m.cls := by rw [← hown]; exact findClass_of_methodNamed B.named
  subst hsz
  rw [lg_entry_eq]
  exact body p e s m below meth c _ _ ⟨B.exec, B.bytes, B.returns, hml, fun w hw => hts w (List.mem_cons_of_mem _ hw), hf, B.notSynchronized, hK⟩ ht hT hZ hP hD0.self va_S.rf (fun q h => Or.inr h) rfl (lv_entry av hlen)
variable {p : Program} {l : Launch} {e : Env} {R : Room} {s : State} {m : MethodId} {args : Array Value} {below : List Frame} {meth : Method} {c : Code} {H : Heap} {locs : List Loc} {cells slots : Nat} {Q : State → Prop}
variable {cc : ByteArray} {pc nL : Nat} {own : String} {ret : Option FieldType} {ls : Array Slot} {rest st0 : List Value} {A : Nat → Prop} {ws wc : va_W} {lv : List (Nat × Value)} {Qc : Array Value → State → Outcome → State → Prop}
theorem zXC_of {cls : String} (hP : va_P D vwCl ws H) (hD : va_D A ws) (hS : va_S A s.heap H locs) {t : State} (h1 : H.size ≤ t.heap.size) (h2 : ∀ q : Nat, q < H.size → t.heap[q]? = H[q]?) : zXC D cls ws A cls s t :=
  ⟨(), trivial, ⟨rfl, fun j q hj => (hP j q hj).kept (h2 q.1 (hP j q hj).lt), hD⟩, Nat.le_trans hS.1 h1, fun q hq hA => by rw [h2 q (Nat.lt_of_lt_of_le hq hS.1)]; exact hS.2.1 q hq hA⟩
theorem zThrow {ik is ic : Nat} {cls text : String} (X : zCx p s m args meth c cc nL ret RX6 D k) (ht : ∀ x ∈ c.exceptionTable.toList, False) (hst : l.stackTraces = false) (hT : zT s) (hZ : zZ A s s.heap) (hP : va_P D vwCl ws H) (hD : va_D A ws) (hS : va_S A s.heap H locs) (hl : lv_has ls nL lv)
    (hq : (is, text) ∈ zStr) (hw : Cond.classLink RX6 ik cls ∈ wsL_law) (hi : Cond.initialized cls ∈ wsL_law) (hat : zAt ic cls)
    (d0 : decode cc pc = .ok (.new ik, 3)) (d3 : decode cc (pc + 3) = .ok (.dup, 1)) (d4 : decode cc (pc + 4) = .ok (.ldc is, 2)) (d6 : decode cc (pc + 6) = .ok (.invokespecial ic, 3)) (d9 : decode cc (pc + 9) = .ok (.athrow, 1))
    (hR : 6 ≤ R.frames ∧ (rest.map fun v => v.category).sum + 82 ≤ R.locals ∧ 1 ≤ R.cells ∧ 6 ≤ R.slots) :
    W p l e R s m args below meth c H locs 0 0 (vx_MQ below Qc (zXC D cls ws A) args s 1 6 A) (F0 m pc ls rest) := by
  obtain ⟨sa, hsa⟩ := hT.2.1 _ hq
  have hz := X.2.2.2.2.1
  exact vx_throwS (names := zNames) X.1 X.2.1 hst X.2.2.2.2.2.1 hat.2.2.2 zNames_fit (hz _ hw) (hz _ hi) hsa (vx_hat (fun w h => hz _ (hat.1 w h)) hat.2.1 (hT.use))
    (fun w h => by
      rcases List.mem_cons.mp h with rfl | h
      · rfl
      · rcases List.mem_cons.mp h with rfl | h
        · rfl
        · exact hat.2.2.1 w h) hZ.1 hZ.2 hS (hl.1.trans X.2.2.2.1.symm) d0 d3 d4 d6 d9 (fun x hx => (ht x hx).elim) (by have := hR.1; show 2 + 3 < _; omega) (by have := hR.2.1; show _ + (13 * (2 + 1) + 43) ≤ _; omega) hR.2.2.1 hR.2.2.2 X.2.2.2.2.2.2.1
    (fun t _ h1 h2 => zXC_of hP hD hS h1 h2) hS.2.2 (Nat.le_refl _) (Nat.le_refl _)
theorem zThrowW {ik is ic : Nat} {cls text : String} (X : zCx p s m args meth c cc nL ret RX6 D k) (ht : ∀ x ∈ c.exceptionTable.toList, False) (hst : l.stackTraces = false) (hT : zT s) (hZ : zZ A s s.heap) (hP : va_P D vwCl ws H) (hD : va_D A ws) (hS : va_S A s.heap H locs) (hl : lv_has ls nL lv)
    (hq : (is, text) ∈ zStr) (hw : Cond.classLink RX6 ik cls ∈ wsL_law) (hi : Cond.initialized cls ∈ wsL_law) (hat : zAt ic cls)
    (d0 : decode cc pc = .ok (.new ik, 3)) (d3 : decode cc (pc + 3) = .ok (.dup, 1)) (d4 : decode cc (pc + 4) = .ok (.ldc_w is, 3)) (d7 : decode cc (pc + 7) = .ok (.invokespecial ic, 3)) (d10 : decode cc (pc + 10) = .ok (.athrow, 1))
    (hR : 6 ≤ R.frames ∧ (rest.map fun v => v.category).sum + 82 ≤ R.locals ∧ 1 ≤ R.cells ∧ 6 ≤ R.slots) :
    W p l e R s m args below meth c H locs 0 0 (vx_MQ below Qc (zXC D cls ws A) args s 1 6 A) (F0 m pc ls rest) := by
  obtain ⟨sa, hsa⟩ := hT.2.1 _ hq
  have hz := X.2.2.2.2.1
  exact vx_throwSW (names := zNames) X.1 X.2.1 hst X.2.2.2.2.2.1 hat.2.2.2 zNames_fit (hz _ hw) (hz _ hi) hsa (vx_hat (fun w h => hz _ (hat.1 w h)) hat.2.1 (hT.use))
    (fun w h => by
      rcases List.mem_cons.mp h with rfl | h
      · rfl
      · rcases List.mem_cons.mp h with rfl | h
        · rfl
        · exact hat.2.2.1 w h) hZ.1 hZ.2 hS (hl.1.trans X.2.2.2.1.symm) d0 d3 d4 d7 d10 (fun x hx => (ht x hx).elim) (by have := hR.1; show 2 + 3 < _; omega) (by have := hR.2.1; show _ + (13 * (2 + 1) + 43) ≤ _; omega) hR.2.2.1 hR.2.2.2 X.2.2.2.2.2.2.1
    (fun t _ h1 h2 => zXC_of hP hD hS h1 h2) hS.2.2 (Nat.le_refl _) (Nat.le_refl _)
variable {y : MethodName} {bytes : ByteArray} {maxL n index : Nat} {rety : Option FieldType} {rm : Room} {As : List Value}
/-- a call of a checking method that throws, in a method without handlers -/
theorem zCallT {cls : String} (X : zCx p s m args meth c cc nL ret own D k) (ht : ∀ x ∈ c.exceptionTable.toList, False) (hT : zT s) (hZ : zZ A s s.heap) (M : zMS y bytes maxL none n)
    (hM : vx_Met l y (zW y bytes maxL none) rm (va_Pc As (zInT D k H.size [])) (va_Qv (fun _ : Unit => False) (fun _ _ => True) (va_A [] H.size)) (zXC D cls [] (va_A [] H.size)) 1 6 (va_A [] H.size)) (hlink : Cond.methodLink own index y ∈ wsL_law)
    (hP : va_P D vwCl ws H) (hD : va_D A ws) (hS : va_S A s.heap H locs) (hA : ∀ q, s.heap.size ≤ q → A q) (hn : As.length = n) (hl : lv_has ls nL lv) (hr : (rest.map fun v => v.category).sum ≤ 8) (hdg : decode cc pc = .ok (.invokestatic index, 3)) (hrm : zRm rm R maxL 1 6 0 0) (hst : st0 = As.reverse ++ rest) :
    W p l e R s m args below meth c H locs 0 0 (vx_MQ below Qc (zXC D cls ws A) args s 1 6 A) (F0 m pc ls st0) := by
  have hz := X.2.2.2.2.1
  have hF : ∀ q, va_A ([] : va_W) H.size q → A q := va_free hD hS hA [] rfl
  have hp : PreS s H (va_Pc As (zInT D k H.size [])) As := zPreST hP hD X.2.2.2.2.2.2.2 hS hA hT hZ [] rfl rfl
  refine vx_callv (vx_runS (Ts := wsL_law) ⟨X.1, X.2.1, X.2.2.2.1, X.2.2.2.2.2.1, hz⟩ hM ⟨callB_of n hz (zGoodL M.1) rfl hrm.1 hrm.2.1 (hz _ M.2.1) (hz _ hlink) M.2.2.1 hrm.2.2.1, hz _ M.2.2.2⟩ hp rfl hn hl.1 hst (lv_room hr) hdg hrm.2.2.2) hS (fun q _ h => hF q h) hF (fun q _ h => hF q h) ?_ (fun u t H1 locs1 _ _ h => h.elim)
  intro E ce q9 u t H1 locs1 ht1 _ _ hb hsz hk hS1 hce hcv hcl
  obtain ⟨rfl, -, -⟩ := hb
  have h2 : ∀ q : Nat, q < H.size → H1[q]? = H[q]? := fun q hq => hk q hq (by
    rintro (⟨j, e, hj⟩ | hge)
    · cases hj
    · exact absurd hq (Nat.not_lt.mpr hge))
  refine vx_out (fun x hx => (ht x hx).elim) X.2.2.2.2.2.2.1 hce hcv hcl (fun t2 ht2 _ => ?_) hS1.2.2 (Nat.le_refl _) (Nat.le_refl _)
  exact zXC_of (locs := locs) hP hD hS (by rw [ht2]; exact hsz) (fun q hq => by rw [ht2]; exact h2 q hq)
end ZX
