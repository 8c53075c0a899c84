/-! the script, read by the law -/
section ZAT
variable {p : Program} {l : Launch} {e : Env} {R : Room} {s : State} {m : MethodId} {args : Array Value} {below : List Frame} {meth : Method} {c : Code} {Q : State → Prop}
variable {D : va_G} {k : Nat → ClassId} {h b L : Nat} {sc : Nat → Int32} {A : Nat → Prop} {cells slots : Nat}
variable {cc : ByteArray} {pc nLo : Nat} {own : String} {ret : Option FieldType} {ls : Array Slot} {rest : List Value} {H : Heap} {locs : List Loc} {xs : va_W} {av : List Value}
theorem zz_sld (X : zCx p s m args meth c cc nLo ret own D k) {H0 : Heap} (hC : va_X b L sc s H0) (hbl : b < H0.size) (hbA : ¬ A b) (hS : va_S A H0 H locs) {z : Int} (h0 : 0 ≤ z) (h1 : z < L) (h2 : L ≤ 2048) (hdg : decode cc pc = .ok (.iaload, 1)) (kk : W p l e R s m args below meth c H locs cells slots Q (F0 m (pc + 1) ls (.int (sc (nZ z).toNatClampNeg) :: rest))) : W p l e R s m args below meth c H locs cells slots Q (F0 m pc ls (.int (nZ z) :: .ref b :: rest)) :=
  va_sld X.1 X.2.1 hC hbl hbA hS (nZ_in h0 h1 (by omega)) hdg kk
def zAtP (D : va_G) (k : Nat → ClassId) (b L : Nat) (sc : Nat → Int32) (sz : Nat) : State → Prop := fun U => zIn D k sz [] U ∧ va_X b L sc U U.heap
theorem zPreAt (hP : va_P D vwCl xs H) (hD : va_D A xs) (hK : zK D k s) (hS : va_S A s.heap H locs) (hC : va_X b L sc s s.heap) (hbl : b < s.heap.size) (hbA : ¬ A b) : PreS s H (va_Pc av (zAtP D k b L sc H.size)) av := by
  refine ⟨?_, fun U hU hW => ⟨rfl, (zPre0 (av := av) hP hD hK).2 U hU hW |>.2, ?_⟩⟩
  · intro a U g mk h
    obtain ⟨h1, ⟨h2, h3, h4, h5⟩, h6⟩ := h
    exact ⟨h1, ⟨h2, h3, zK.same (u := U) (U := U.calling g mk a) rfl h4, h5⟩, va_X.moved (u := U) (U := U.calling g mk a) (Vm.Alike.refl _) h6⟩
  · rw [hU]
    exact (hC.kept (hS.2.1 b hbl hbA)).moved hW.alike
end ZAT
theorem ms_L_at : zMS yL_at cL_at 2 (some .int) 2 := ⟨zw_314, zw_68, ⟨by decide +kernel, by decide +kernel, by decide +kernel⟩, zw_313⟩
set_option maxHeartbeats 1000000 in
theorem c_L_at (l : Launch) (D : va_G) (k : Nat → ClassId) (b L : Nat) (sc : Nat → Int32) (i : Int) (hi : 0 ≤ i ∧ i < 1000) (hL : L ≤ 260) (sz : Nat) (hb : b < sz) : Met l yL_at (zW yL_at cL_at 2 (some .int)) ({ frames := 0, cells := 0, slots := 0, locals := 0 } : Room) (va_Pc [.ref b, .int (nZ i)] (zAtP D k b L sc sz)) (va_Qi (fun (r : Int32) (u : va_W) => True ∧ u = []) (fun u => zOut D (va_A [] sz) u) (va_A [] sz)) 0 0 (va_A [] sz) := by
  refine Met.ofW (cc := cL_at) (maxL := 2) (ret := some .int) (by decide) rfl ?_
  intro p e s m args below meth c s₁ B hml hv
  obtain ⟨rfl, ⟨hsz, hP, hK, hD0⟩, hX0⟩ := hv
  have hts := atoms_spec (ws := zW yL_at cL_at 2 (some .int)) B.pre
  have hf : s.vm.findClass RL = some m.cls := findClass_of_methodNamed B.named
  subst hsz
  rw [lg_entry_eq]
  have X : zCx p s m ([.ref b, .int (nZ i)] : List Value).toArray meth c cL_at 2 (some .int) RL D k := ⟨B.exec, B.bytes, B.returns, hml, fun w hw => hts w (List.mem_cons_of_mem _ hw), hf, B.notSynchronized, hK⟩
  have hX := X.1; have hB := X.2.1; have hz := X.2.2.2.2.1; have hW := X.2.2.2.2.2.1
  have hbA : ¬ va_A [] s.heap.size b := fun h => by
    rcases zA_iff.mp h with ⟨e, he⟩ | hge
    · cases he
    · exact absurd hb (Nat.not_lt.mpr hge)
  have hS : va_S (va_A [] s.heap.size) s.heap s.heap [] := va_S.rf
  have hD : va_D (va_A [] s.heap.size) [] := hD0.self
  have hl := lv_entry ([.ref b, .int (nZ i)]) (n := 2) (Nat.le_of_ble_eq_true rfl)
  revert hl
  generalize (lg_sl ([.ref b, .int (nZ i)]) ++ List.replicate (2 - (lg_sl ([.ref b, .int (nZ i)])).length) Slot.unset).toArray = ls
  intro hl
  have hl : lv_has ls 2 [(0, .ref b), (1, .int (nZ i))] := hl
  refine lv_iload_n hX hB dL_at_0 rfl (lv_at hl 1 rfl) ?_
  refine lv_aload_n hX hB dL_at_1 rfl (lv_at hl 0 rfl) ?_
  refine va_slen hX hB hX0 hb hbA hS dL_at_2 ?_
  rw [nZ_ofNat]
  refine zz_icmp_ge X (tgt := 12) dL_at_3 (by decide) ⟨by omega, by omega⟩ ⟨by omega, by omega⟩ (fun c9 => ?_) (fun c9 => ?_)
  · refine lv_ldc (v := 1063353747) hX hB hW (hz _ zw_315) dL_at_12 ?_
    refine lv_iload_n hX hB dL_at_14 rfl (lv_at hl 1 rfl) ?_
    refine lv_iconst (v := nZ 1) hX hB dL_at_15 rfl ?_
    refine zz_iadd X dL_at_16 (z := i + 1) rfl ?_
    refine lv_imul hX hB dL_at_17 ?_
    refine lv_ldc (v := 726495105) hX hB hW (hz _ zw_316) dL_at_18 ?_
    refine lv_iadd hX hB dL_at_20 ?_
    exact zRetI [] X hP hD hS rfl ⟨trivial, rfl⟩ dL_at_21
  · refine lv_aload_n hX hB dL_at_6 rfl (lv_at hl 0 rfl) ?_
    refine lv_iload_n hX hB dL_at_7 rfl (lv_at hl 1 rfl) ?_
    refine zz_sld X hX0 hb hbA hS hi.1 c9 (by omega) dL_at_8 ?_
    refine lv_goto (tgt := 21) hX hB dL_at_9 (by decide) ?_
    exact zRetI [] X hP hD hS rfl ⟨trivial, rfl⟩ dL_at_21
