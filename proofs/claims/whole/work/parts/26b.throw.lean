set_option maxHeartbeats 4000000 in
set_option maxRecDepth 100000 in
theorem c_X6_requireLane_x (l : Launch) (D : va_G) (k : Nat → ClassId) (sz : Nat) (x : Int) (hst : l.stackTraces = false) (hzx : zR x) (hb : x < 0 ∨ 2 < x) : vx_Met l yX6_requireLane (zW yX6_requireLane cX6_requireLane 1 none) ({ frames := 6, cells := 1, slots := 6, locals := 90 } : Room) (va_Pc [.int (nZ x)] (zInT D k sz [])) (va_Qv (fun (_ : Unit) => False) (fun (_ : Unit) (_ : State) => True) (va_A [] sz)) (zXC D zIO [] (va_A [] sz)) 1 6 (va_A [] sz) := by
  refine zEnterX (Qf := fun A => va_Qv (fun (_ : Unit) => False) (fun (_ : Unit) (_ : State) => True) A) (XC := fun A => zXC D zIO [] A) RX6 (by decide) rfl (Nat.le_of_ble_eq_true rfl) ?_
  intro p9 e9 s9 m9 be9 me9 c9 ls A X hxt hxT hxZ hP hD hS hA hAe hl
  have hX := X.1; have hB := X.2.1; have hz := X.2.2.2.2.1; have hW := X.2.2.2.2.2.1; have hK := X.2.2.2.2.2.2.2; clear hAe
  have hl : lv_has ls 1 [(0, .int (nZ x))] := hl
  refine lv_iload_n hX hB dX6_requireLane_0 rfl (lv_at hl 0 rfl) ?_
  refine zz_if_lt X (tgt := 9) dX6_requireLane_1 (by decide) ⟨by omega, by omega⟩ (fun c_1 => ?_) (fun c_1 => ?_)
  · exact zThrowW X hxt hst hxT hxZ hP hD hS hl (List.mem_of_getElem? (i := 9) rfl) zw_92 zw_93 zAt_IO dX6_requireLane_9 dX6_requireLane_12 dX6_requireLane_13 dX6_requireLane_16 dX6_requireLane_19 ⟨Nat.le_of_ble_eq_true rfl, Nat.le_of_ble_eq_true rfl, Nat.le_of_ble_eq_true rfl, Nat.le_of_ble_eq_true rfl⟩
  · refine lv_iload_n hX hB dX6_requireLane_4 rfl (lv_at hl 0 rfl) ?_
    refine lv_iconst (v := nZ 3) hX hB dX6_requireLane_5 rfl ?_
    refine zz_icmp_lt X (tgt := 20) dX6_requireLane_6 (by decide) ⟨by omega, by omega⟩ ⟨by omega, by omega⟩ (fun c_6 => ?_) (fun c_6 => ?_)
    · exfalso; omega
    · exact zThrowW X hxt hst hxT hxZ hP hD hS hl (List.mem_of_getElem? (i := 9) rfl) zw_92 zw_93 zAt_IO dX6_requireLane_9 dX6_requireLane_12 dX6_requireLane_13 dX6_requireLane_16 dX6_requireLane_19 ⟨Nat.le_of_ble_eq_true rfl, Nat.le_of_ble_eq_true rfl, Nat.le_of_ble_eq_true rfl, Nat.le_of_ble_eq_true rfl⟩
set_option maxHeartbeats 4000000 in
set_option maxRecDepth 100000 in
theorem c_X6_requireBed_x (l : Launch) (D : va_G) (k : Nat → ClassId) (sz : Nat) (x : Int) (hst : l.stackTraces = false) (hzx : zR x) (hb : x < 0 ∨ 8 < x) : vx_Met l yX6_requireBed (zW yX6_requireBed cX6_requireBed 1 none) ({ frames := 6, cells := 1, slots := 6, locals := 90 } : Room) (va_Pc [.int (nZ x)] (zInT D k sz [])) (va_Qv (fun (_ : Unit) => False) (fun (_ : Unit) (_ : State) => True) (va_A [] sz)) (zXC D zIO [] (va_A [] sz)) 1 6 (va_A [] sz) := by
  refine zEnterX (Qf := fun A => va_Qv (fun (_ : Unit) => False) (fun (_ : Unit) (_ : State) => True) A) (XC := fun A => zXC D zIO [] A) RX6 (by decide) rfl (Nat.le_of_ble_eq_true rfl) ?_
  intro p9 e9 s9 m9 be9 me9 c9 ls A X hxt hxT hxZ hP hD hS hA hAe hl
  have hX := X.1; have hB := X.2.1; have hz := X.2.2.2.2.1; have hW := X.2.2.2.2.2.1; have hK := X.2.2.2.2.2.2.2; clear hAe
  have hl : lv_has ls 1 [(0, .int (nZ x))] := hl
  refine lv_iload_n hX hB dX6_requireBed_0 rfl (lv_at hl 0 rfl) ?_
  refine zz_if_lt X (tgt := 10) dX6_requireBed_1 (by decide) ⟨by omega, by omega⟩ (fun c_1 => ?_) (fun c_1 => ?_)
  · exact zThrowW X hxt hst hxT hxZ hP hD hS hl (List.mem_of_getElem? (i := 8) rfl) zw_92 zw_93 zAt_IO dX6_requireBed_10 dX6_requireBed_13 dX6_requireBed_14 dX6_requireBed_17 dX6_requireBed_20 ⟨Nat.le_of_ble_eq_true rfl, Nat.le_of_ble_eq_true rfl, Nat.le_of_ble_eq_true rfl, Nat.le_of_ble_eq_true rfl⟩
  · refine lv_iload_n hX hB dX6_requireBed_4 rfl (lv_at hl 0 rfl) ?_
    refine lv_bipush (v := nZ 9) hX hB dX6_requireBed_5 (by decide) ?_
    refine zz_icmp_lt X (tgt := 21) dX6_requireBed_7 (by decide) ⟨by omega, by omega⟩ ⟨by omega, by omega⟩ (fun c_7 => ?_) (fun c_7 => ?_)
    · exfalso; omega
    · exact zThrowW X hxt hst hxT hxZ hP hD hS hl (List.mem_of_getElem? (i := 8) rfl) zw_92 zw_93 zAt_IO dX6_requireBed_10 dX6_requireBed_13 dX6_requireBed_14 dX6_requireBed_17 dX6_requireBed_20 ⟨Nat.le_of_ble_eq_true rfl, Nat.le_of_ble_eq_true rfl, Nat.le_of_ble_eq_true rfl, Nat.le_of_ble_eq_true rfl⟩
set_option maxHeartbeats 4000000 in
set_option maxRecDepth 100000 in
theorem c_X6_requireStrength_x (l : Launch) (D : va_G) (k : Nat → ClassId) (sz : Nat) (x : Int) (hst : l.stackTraces = false) (hzx : zR x) (hb : x < 1 ∨ 150 < x) : vx_Met l yX6_requireStrength (zW yX6_requireStrength cX6_requireStrength 1 none) ({ frames := 6, cells := 1, slots := 6, locals := 90 } : Room) (va_Pc [.int (nZ x)] (zInT D k sz [])) (va_Qv (fun (_ : Unit) => False) (fun (_ : Unit) (_ : State) => True) (va_A [] sz)) (zXC D zIA [] (va_A [] sz)) 1 6 (va_A [] sz) := by
  refine zEnterX (Qf := fun A => va_Qv (fun (_ : Unit) => False) (fun (_ : Unit) (_ : State) => True) A) (XC := fun A => zXC D zIA [] A) RX6 (by decide) rfl (Nat.le_of_ble_eq_true rfl) ?_
  intro p9 e9 s9 m9 be9 me9 c9 ls A X hxt hxT hxZ hP hD hS hA hAe hl
  have hX := X.1; have hB := X.2.1; have hz := X.2.2.2.2.1; have hW := X.2.2.2.2.2.1; have hK := X.2.2.2.2.2.2.2; clear hAe
  have hl : lv_has ls 1 [(0, .int (nZ x))] := hl
  refine lv_iload_n hX hB dX6_requireStrength_0 rfl (lv_at hl 0 rfl) ?_
  refine lv_iconst (v := nZ 1) hX hB dX6_requireStrength_1 rfl ?_
  refine zz_icmp_lt X (tgt := 12) dX6_requireStrength_2 (by decide) ⟨by omega, by omega⟩ ⟨by omega, by omega⟩ (fun c_2 => ?_) (fun c_2 => ?_)
  · exact zThrowW X hxt hst hxT hxZ hP hD hS hl (List.mem_of_getElem? (i := 11) rfl) zw_97 zw_98 zAt_IA dX6_requireStrength_12 dX6_requireStrength_15 dX6_requireStrength_16 dX6_requireStrength_19 dX6_requireStrength_22 ⟨Nat.le_of_ble_eq_true rfl, Nat.le_of_ble_eq_true rfl, Nat.le_of_ble_eq_true rfl, Nat.le_of_ble_eq_true rfl⟩
  · refine lv_iload_n hX hB dX6_requireStrength_5 rfl (lv_at hl 0 rfl) ?_
    refine lv_sipush (v := nZ 150) hX hB dX6_requireStrength_6 (by decide) ?_
    refine zz_icmp_le X (tgt := 23) dX6_requireStrength_9 (by decide) ⟨by omega, by omega⟩ ⟨by omega, by omega⟩ (fun c_9 => ?_) (fun c_9 => ?_)
    · exfalso; omega
    · exact zThrowW X hxt hst hxT hxZ hP hD hS hl (List.mem_of_getElem? (i := 11) rfl) zw_97 zw_98 zAt_IA dX6_requireStrength_12 dX6_requireStrength_15 dX6_requireStrength_16 dX6_requireStrength_19 dX6_requireStrength_22 ⟨Nat.le_of_ble_eq_true rfl, Nat.le_of_ble_eq_true rfl, Nat.le_of_ble_eq_true rfl, Nat.le_of_ble_eq_true rfl⟩
set_option maxHeartbeats 4000000 in
set_option maxRecDepth 100000 in
theorem c_X6_requireSlot_x (l : Launch) (D : va_G) (k : Nat → ClassId) (sz : Nat) (x : Int) (hst : l.stackTraces = false) (hzx : zR x) (hb : x < 0 ∨ 1 < x) : vx_Met l yX6_requireSlot (zW yX6_requireSlot cX6_requireSlot 1 none) ({ frames := 6, cells := 1, slots := 6, locals := 90 } : Room) (va_Pc [.int (nZ x)] (zInT D k sz [])) (va_Qv (fun (_ : Unit) => False) (fun (_ : Unit) (_ : State) => True) (va_A [] sz)) (zXC D zIA [] (va_A [] sz)) 1 6 (va_A [] sz) := by
  refine zEnterX (Qf := fun A => va_Qv (fun (_ : Unit) => False) (fun (_ : Unit) (_ : State) => True) A) (XC := fun A => zXC D zIA [] A) RX6 (by decide) rfl (Nat.le_of_ble_eq_true rfl) ?_
  intro p9 e9 s9 m9 be9 me9 c9 ls A X hxt hxT hxZ hP hD hS hA hAe hl
  have hX := X.1; have hB := X.2.1; have hz := X.2.2.2.2.1; have hW := X.2.2.2.2.2.1; have hK := X.2.2.2.2.2.2.2; clear hAe
  have hl : lv_has ls 1 [(0, .int (nZ x))] := hl
  refine lv_iload_n hX hB dX6_requireSlot_0 rfl (lv_at hl 0 rfl) ?_
  refine zz_if_lt X (tgt := 9) dX6_requireSlot_1 (by decide) ⟨by omega, by omega⟩ (fun c_1 => ?_) (fun c_1 => ?_)
  · exact zThrowW X hxt hst hxT hxZ hP hD hS hl (List.mem_of_getElem? (i := 10) rfl) zw_97 zw_98 zAt_IA dX6_requireSlot_9 dX6_requireSlot_12 dX6_requireSlot_13 dX6_requireSlot_16 dX6_requireSlot_19 ⟨Nat.le_of_ble_eq_true rfl, Nat.le_of_ble_eq_true rfl, Nat.le_of_ble_eq_true rfl, Nat.le_of_ble_eq_true rfl⟩
  · refine lv_iload_n hX hB dX6_requireSlot_4 rfl (lv_at hl 0 rfl) ?_
    refine lv_iconst (v := nZ 2) hX hB dX6_requireSlot_5 rfl ?_
    refine zz_icmp_lt X (tgt := 20) dX6_requireSlot_6 (by decide) ⟨by omega, by omega⟩ ⟨by omega, by omega⟩ (fun c_6 => ?_) (fun c_6 => ?_)
    · exfalso; omega
    · exact zThrowW X hxt hst hxT hxZ hP hD hS hl (List.mem_of_getElem? (i := 10) rfl) zw_97 zw_98 zAt_IA dX6_requireSlot_9 dX6_requireSlot_12 dX6_requireSlot_13 dX6_requireSlot_16 dX6_requireSlot_19 ⟨Nat.le_of_ble_eq_true rfl, Nat.le_of_ble_eq_true rfl, Nat.le_of_ble_eq_true rfl, Nat.le_of_ble_eq_true rfl⟩
set_option maxHeartbeats 4000000 in
set_option maxRecDepth 100000 in
theorem c_X6_push_e1 (l : Launch) (D : va_G) (k : Nat → ClassId) (sz : Nat) (h o sl sv tx sh ld cc : Nat) (a c : Int) (hst : l.stackTraces = false) (hza : zR a) (hzc : zR c) (hb : a < 0 ∨ 2 < a) : vx_Met l yX6_push (zW yX6_push cX6_push 3 (some .int)) ({ frames := 7, cells := 1, slots := 6, locals := 117 } : Room) (va_Pc [.ref h, .int (nZ a), .int (nZ c)] (zInT D k sz [(h, .inr (6, [.ref o, .ref sl, .ref sv, .ref tx, .ref sh, .ref ld, .ref cc]))])) (va_Qi (fun (_ : Int32) (_ : Unit) => False) (fun (_ : Unit) (_ : State) => True) (va_A [(h, .inr (6, [.ref o, .ref sl, .ref sv, .ref tx, .ref sh, .ref ld, .ref cc]))] sz)) (zXC D zIO [(h, .inr (6, [.ref o, .ref sl, .ref sv, .ref tx, .ref sh, .ref ld, .ref cc]))] (va_A [(h, .inr (6, [.ref o, .ref sl, .ref sv, .ref tx, .ref sh, .ref ld, .ref cc]))] sz)) 1 6 (va_A [(h, .inr (6, [.ref o, .ref sl, .ref sv, .ref tx, .ref sh, .ref ld, .ref cc]))] sz) := by
  refine zEnterX (Qf := fun A => va_Qi (fun (_ : Int32) (_ : Unit) => False) (fun (_ : Unit) (_ : State) => True) A) (XC := fun A => zXC D zIO [(h, .inr (6, [.ref o, .ref sl, .ref sv, .ref tx, .ref sh, .ref ld, .ref cc]))] A) RX6 (by decide) rfl (Nat.le_of_ble_eq_true rfl) ?_
  intro p9 e9 s9 m9 be9 me9 c9 ls A X hxt hxT hxZ hP hD hS hA hAe hl
  have hX := X.1; have hB := X.2.1; have hz := X.2.2.2.2.1; have hW := X.2.2.2.2.2.1; have hK := X.2.2.2.2.2.2.2; clear hAe
  have hl : lv_has ls 3 [(0, .ref h), (1, .int (nZ a)), (2, .int (nZ c))] := hl
  refine lv_iload_n hX hB dX6_push_0 rfl (lv_at hl 1 rfl) ?_
  exact zCallT X hxt hxT hxZ ms_X6_requireLane (c_X6_requireLane_x l D k _ a hst hza hb) zw_89 hP hD hS hA rfl hl (Nat.le_of_ble_eq_true rfl) dX6_push_1 ⟨rfl, rfl, ⟨Nat.le_of_ble_eq_true rfl, Nat.le_of_ble_eq_true rfl⟩, Nat.le_of_ble_eq_true rfl, Nat.le_of_ble_eq_true rfl⟩ rfl
set_option maxHeartbeats 4000000 in
set_option maxRecDepth 100000 in
theorem c_X6_push_e2 (l : Launch) (D : va_G) (k : Nat → ClassId) (sz : Nat) (h o sl sv tx sh ld cc : Nat) (a c : Int) (hst : l.stackTraces = false) (hza : zR a) (hzc : zR c) (ha : 0 ≤ a ∧ a ≤ 2) (hb : c < 1 ∨ 150 < c) : vx_Met l yX6_push (zW yX6_push cX6_push 3 (some .int)) ({ frames := 7, cells := 1, slots := 6, locals := 117 } : Room) (va_Pc [.ref h, .int (nZ a), .int (nZ c)] (zInT D k sz [(h, .inr (6, [.ref o, .ref sl, .ref sv, .ref tx, .ref sh, .ref ld, .ref cc]))])) (va_Qi (fun (_ : Int32) (_ : Unit) => False) (fun (_ : Unit) (_ : State) => True) (va_A [(h, .inr (6, [.ref o, .ref sl, .ref sv, .ref tx, .ref sh, .ref ld, .ref cc]))] sz)) (zXC D zIA [(h, .inr (6, [.ref o, .ref sl, .ref sv, .ref tx, .ref sh, .ref ld, .ref cc]))] (va_A [(h, .inr (6, [.ref o, .ref sl, .ref sv, .ref tx, .ref sh, .ref ld, .ref cc]))] sz)) 1 6 (va_A [(h, .inr (6, [.ref o, .ref sl, .ref sv, .ref tx, .ref sh, .ref ld, .ref cc]))] sz) := by
  refine zEnterX (Qf := fun A => va_Qi (fun (_ : Int32) (_ : Unit) => False) (fun (_ : Unit) (_ : State) => True) A) (XC := fun A => zXC D zIA [(h, .inr (6, [.ref o, .ref sl, .ref sv, .ref tx, .ref sh, .ref ld, .ref cc]))] A) RX6 (by decide) rfl (Nat.le_of_ble_eq_true rfl) ?_
  intro p9 e9 s9 m9 be9 me9 c9 ls A X hxt hxT hxZ hP hD hS hA hAe hl
  have hX := X.1; have hB := X.2.1; have hz := X.2.2.2.2.1; have hW := X.2.2.2.2.2.1; have hK := X.2.2.2.2.2.2.2; clear hAe
  have hl : lv_has ls 3 [(0, .ref h), (1, .int (nZ a)), (2, .int (nZ c))] := hl
  refine lv_iload_n hX hB dX6_push_0 rfl (lv_at hl 1 rfl) ?_
  refine zCallV0 (zRunS X ms_X6_requireLane (c_X6_requireLane l D k _ a ha) zw_89 (zPreS hP hD hK [] rfl rfl) rfl hl (Nat.le_of_ble_eq_true rfl) dX6_push_1 ⟨rfl, rfl, ⟨Nat.le_of_ble_eq_true rfl, Nat.le_of_ble_eq_true rfl⟩, Nat.le_of_ble_eq_true rfl, Nat.le_of_ble_eq_true rfl⟩ rfl) hS hP hD hA [] rfl (fun _ => rfl) (fun u_1 H locs hq_1 hP hD hS => ?_)
  have hP : va_P D vwCl [(h, .inr (6, [.ref o, .ref sl, .ref sv, .ref tx, .ref sh, .ref ld, .ref cc]))] H := hP
  have hD : va_D A [(h, .inr (6, [.ref o, .ref sl, .ref sv, .ref tx, .ref sh, .ref ld, .ref cc]))] := hD
  refine lv_iload_n hX hB dX6_push_4 rfl (lv_at hl 2 rfl) ?_
  exact zCallT X hxt hxT hxZ ms_X6_requireStrength (c_X6_requireStrength_x l D k _ c hst hzc hb) zw_94 hP hD hS hA rfl hl (Nat.le_of_ble_eq_true rfl) dX6_push_5 ⟨rfl, rfl, ⟨Nat.le_of_ble_eq_true rfl, Nat.le_of_ble_eq_true rfl⟩, Nat.le_of_ble_eq_true rfl, Nat.le_of_ble_eq_true rfl⟩ rfl
set_option maxHeartbeats 4000000 in
set_option maxRecDepth 100000 in
theorem c_X6_set_e1 (l : Launch) (D : va_G) (k : Nat → ClassId) (sz : Nat) (h o sl sv tx sh ld cc : Nat) (a : Int) (hst : l.stackTraces = false) (hza : zR a) (hb : a < 0 ∨ 20 < a) : vx_Met l yX6_set (zW yX6_set cX6_set 3 (some .int)) ({ frames := 6, cells := 1, slots := 6, locals := 117 } : Room) (va_Pc [.ref h, .int (nZ a)] (zInT D k sz [(h, .inr (6, [.ref o, .ref sl, .ref sv, .ref tx, .ref sh, .ref ld, .ref cc]))])) (va_Qi (fun (_ : Int32) (_ : Unit) => False) (fun (_ : Unit) (_ : State) => True) (va_A [(h, .inr (6, [.ref o, .ref sl, .ref sv, .ref tx, .ref sh, .ref ld, .ref cc]))] sz)) (zXC D zIA [(h, .inr (6, [.ref o, .ref sl, .ref sv, .ref tx, .ref sh, .ref ld, .ref cc]))] (va_A [(h, .inr (6, [.ref o, .ref sl, .ref sv, .ref tx, .ref sh, .ref ld, .ref cc]))] sz)) 1 6 (va_A [(h, .inr (6, [.ref o, .ref sl, .ref sv, .ref tx, .ref sh, .ref ld, .ref cc]))] sz) := by
  refine zEnterX (Qf := fun A => va_Qi (fun (_ : Int32) (_ : Unit) => False) (fun (_ : Unit) (_ : State) => True) A) (XC := fun A => zXC D zIA [(h, .inr (6, [.ref o, .ref sl, .ref sv, .ref tx, .ref sh, .ref ld, .ref cc]))] A) RX6 (by decide) rfl (Nat.le_of_ble_eq_true rfl) ?_
  intro p9 e9 s9 m9 be9 me9 c9 ls A X hxt hxT hxZ hP hD hS hA hAe hl
  have hX := X.1; have hB := X.2.1; have hz := X.2.2.2.2.1; have hW := X.2.2.2.2.2.1; have hK := X.2.2.2.2.2.2.2; clear hAe
  have hl : lv_has ls 3 [(0, .ref h), (1, .int (nZ a))] := hl
  refine lv_iload_n hX hB dX6_set_0 rfl (lv_at hl 1 rfl) ?_
  refine zz_if_lt X (tgt := 10) dX6_set_1 (by decide) ⟨by omega, by omega⟩ (fun c_1 => ?_) (fun c_1 => ?_)
  · exact zThrow X hxt hst hxT hxZ hP hD hS hl (List.mem_of_getElem? (i := 12) rfl) zw_97 zw_98 zAt_IA dX6_set_10 dX6_set_13 dX6_set_14 dX6_set_16 dX6_set_19 ⟨Nat.le_of_ble_eq_true rfl, Nat.le_of_ble_eq_true rfl, Nat.le_of_ble_eq_true rfl, Nat.le_of_ble_eq_true rfl⟩
  · refine lv_iload_n hX hB dX6_set_4 rfl (lv_at hl 1 rfl) ?_
    refine lv_bipush (v := nZ 20) hX hB dX6_set_5 (by decide) ?_
    refine zz_icmp_le X (tgt := 20) dX6_set_7 (by decide) ⟨by omega, by omega⟩ ⟨by omega, by omega⟩ (fun c_7 => ?_) (fun c_7 => ?_)
    · exfalso; omega
    · exact zThrow X hxt hst hxT hxZ hP hD hS hl (List.mem_of_getElem? (i := 12) rfl) zw_97 zw_98 zAt_IA dX6_set_10 dX6_set_13 dX6_set_14 dX6_set_16 dX6_set_19 ⟨Nat.le_of_ble_eq_true rfl, Nat.le_of_ble_eq_true rfl, Nat.le_of_ble_eq_true rfl, Nat.le_of_ble_eq_true rfl⟩
set_option maxHeartbeats 4000000 in
set_option maxRecDepth 100000 in
theorem c_X6_append_e1 (l : Launch) (D : va_G) (k : Nat → ClassId) (sz : Nat) (h o sl sv tx sh ld cc : Nat) (a : Int) (hst : l.stackTraces = false) (hza : zR a) (hb : a < 33 ∨ 126 < a) : vx_Met l yX6_append (zW yX6_append cX6_append 2 (some .int)) ({ frames := 6, cells := 1, slots := 6, locals := 90 } : Room) (va_Pc [.ref h, .int (nZ a)] (zInT D k sz [(h, .inr (6, [.ref o, .ref sl, .ref sv, .ref tx, .ref sh, .ref ld, .ref cc]))])) (va_Qi (fun (_ : Int32) (_ : Unit) => False) (fun (_ : Unit) (_ : State) => True) (va_A [(h, .inr (6, [.ref o, .ref sl, .ref sv, .ref tx, .ref sh, .ref ld, .ref cc]))] sz)) (zXC D zIA [(h, .inr (6, [.ref o, .ref sl, .ref sv, .ref tx, .ref sh, .ref ld, .ref cc]))] (va_A [(h, .inr (6, [.ref o, .ref sl, .ref sv, .ref tx, .ref sh, .ref ld, .ref cc]))] sz)) 1 6 (va_A [(h, .inr (6, [.ref o, .ref sl, .ref sv, .ref tx, .ref sh, .ref ld, .ref cc]))] sz) := by
  refine zEnterX (Qf := fun A => va_Qi (fun (_ : Int32) (_ : Unit) => False) (fun (_ : Unit) (_ : State) => True) A) (XC := fun A => zXC D zIA [(h, .inr (6, [.ref o, .ref sl, .ref sv, .ref tx, .ref sh, .ref ld, .ref cc]))] A) RX6 (by decide) rfl (Nat.le_of_ble_eq_true rfl) ?_
  intro p9 e9 s9 m9 be9 me9 c9 ls A X hxt hxT hxZ hP hD hS hA hAe hl
  have hX := X.1; have hB := X.2.1; have hz := X.2.2.2.2.1; have hW := X.2.2.2.2.2.1; have hK := X.2.2.2.2.2.2.2; clear hAe
  have hl : lv_has ls 2 [(0, .ref h), (1, .int (nZ a))] := hl
  refine lv_iload_n hX hB dX6_append_0 rfl (lv_at hl 1 rfl) ?_
  refine lv_bipush (v := nZ 33) hX hB dX6_append_1 (by decide) ?_
  refine zz_icmp_lt X (tgt := 12) dX6_append_3 (by decide) ⟨by omega, by omega⟩ ⟨by omega, by omega⟩ (fun c_3 => ?_) (fun c_3 => ?_)
  · exact zThrow X hxt hst hxT hxZ hP hD hS hl (List.mem_of_getElem? (i := 0) rfl) zw_97 zw_98 zAt_IA dX6_append_12 dX6_append_15 dX6_append_16 dX6_append_18 dX6_append_21 ⟨Nat.le_of_ble_eq_true rfl, Nat.le_of_ble_eq_true rfl, Nat.le_of_ble_eq_true rfl, Nat.le_of_ble_eq_true rfl⟩
  · refine lv_iload_n hX hB dX6_append_6 rfl (lv_at hl 1 rfl) ?_
    refine lv_bipush (v := nZ 126) hX hB dX6_append_7 (by decide) ?_
    refine zz_icmp_le X (tgt := 22) dX6_append_9 (by decide) ⟨by omega, by omega⟩ ⟨by omega, by omega⟩ (fun c_9 => ?_) (fun c_9 => ?_)
    · exfalso; omega
    · exact zThrow X hxt hst hxT hxZ hP hD hS hl (List.mem_of_getElem? (i := 0) rfl) zw_97 zw_98 zAt_IA dX6_append_12 dX6_append_15 dX6_append_16 dX6_append_18 dX6_append_21 ⟨Nat.le_of_ble_eq_true rfl, Nat.le_of_ble_eq_true rfl, Nat.le_of_ble_eq_true rfl, Nat.le_of_ble_eq_true rfl⟩
set_option maxHeartbeats 4000000 in
set_option maxRecDepth 100000 in
theorem c_X6_append_e2 (l : Launch) (D : va_G) (k : Nat → ClassId) (sz : Nat) (h o sl sv tx sh ld cc : Nat) (cd : Nat) (n : Int) (ct : Nat → Int) (T : List Int) (a : Int) (hst : l.stackTraces = false) (hT : textOk ct n T) (hza : zR a) (ha : 33 ≤ a ∧ a ≤ 126) (hl60 : T.length = 60) : vx_Met l yX6_append (zW yX6_append cX6_append 2 (some .int)) ({ frames := 6, cells := 1, slots := 6, locals := 90 } : Room) (va_Pc [.ref h, .int (nZ a)] (zInT D k sz [(h, .inr (6, [.ref o, .ref sl, .ref sv, .ref tx, .ref sh, .ref ld, .ref cc])), (tx, .inr (1, [.ref cd, .int (nZ n)])), (cd, .inl (k 0, 60, .inl (zA ct)))])) (va_Qi (fun (_ : Int32) (_ : Unit) => False) (fun (_ : Unit) (_ : State) => True) (va_A [(h, .inr (6, [.ref o, .ref sl, .ref sv, .ref tx, .ref sh, .ref ld, .ref cc])), (tx, .inr (1, [.ref cd, .int (nZ n)])), (cd, .inl (k 0, 60, .inl (zA ct)))] sz)) (zXC D zIS [(h, .inr (6, [.ref o, .ref sl, .ref sv, .ref tx, .ref sh, .ref ld, .ref cc])), (tx, .inr (1, [.ref cd, .int (nZ n)])), (cd, .inl (k 0, 60, .inl (zA ct)))] (va_A [(h, .inr (6, [.ref o, .ref sl, .ref sv, .ref tx, .ref sh, .ref ld, .ref cc])), (tx, .inr (1, [.ref cd, .int (nZ n)])), (cd, .inl (k 0, 60, .inl (zA ct)))] sz)) 1 6 (va_A [(h, .inr (6, [.ref o, .ref sl, .ref sv, .ref tx, .ref sh, .ref ld, .ref cc])), (tx, .inr (1, [.ref cd, .int (nZ n)])), (cd, .inl (k 0, 60, .inl (zA ct)))] sz) := by
  refine zEnterX (Qf := fun A => va_Qi (fun (_ : Int32) (_ : Unit) => False) (fun (_ : Unit) (_ : State) => True) A) (XC := fun A => zXC D zIS [(h, .inr (6, [.ref o, .ref sl, .ref sv, .ref tx, .ref sh, .ref ld, .ref cc])), (tx, .inr (1, [.ref cd, .int (nZ n)])), (cd, .inl (k 0, 60, .inl (zA ct)))] A) RX6 (by decide) rfl (Nat.le_of_ble_eq_true rfl) ?_
  intro p9 e9 s9 m9 be9 me9 c9 ls A X hxt hxT hxZ hP hD hS hA hAe hl
  have hX := X.1; have hB := X.2.1; have hz := X.2.2.2.2.1; have hW := X.2.2.2.2.2.1; have hK := X.2.2.2.2.2.2.2; clear hAe
  have hl : lv_has ls 2 [(0, .ref h), (1, .int (nZ a))] := hl
  refine lv_iload_n hX hB dX6_append_0 rfl (lv_at hl 1 rfl) ?_
  refine lv_bipush (v := nZ 33) hX hB dX6_append_1 (by decide) ?_
  refine zz_icmp_lt X (tgt := 12) dX6_append_3 (by decide) ⟨by omega, by omega⟩ ⟨by omega, by omega⟩ (fun c_3 => ?_) (fun c_3 => ?_)
  · exfalso; omega
  · refine lv_iload_n hX hB dX6_append_6 rfl (lv_at hl 1 rfl) ?_
    refine lv_bipush (v := nZ 126) hX hB dX6_append_7 (by decide) ?_
    refine zz_icmp_le X (tgt := 22) dX6_append_9 (by decide) ⟨by omega, by omega⟩ ⟨by omega, by omega⟩ (fun c_9 => ?_) (fun c_9 => ?_)
    · refine lv_aload_n hX hB dX6_append_22 rfl (lv_at hl 0 rfl) ?_
      refine va_get hX hB hz inlX6 hW hK.1 hP 0 rfl rfl 3 (by decide) (hz _ zw_25) (fun _ h9 => h9) rfl dX6_append_23 ?_
      refine zCallI0 (zRunVN (As := []) X mv_X1_isFull (c_X1_isFull l D k _ tx cd n ct T hT) (zn_X6_114 hK.2.1) (zPreV hP hD hK [1, 2] rfl rfl 1 1 rfl rfl rfl) rfl hl (Nat.le_of_ble_eq_true rfl) dX6_append_26 ⟨rfl, rfl, ⟨Nat.le_of_ble_eq_true rfl, Nat.le_of_ble_eq_true rfl⟩, Nat.le_of_ble_eq_true rfl, Nat.le_of_ble_eq_true rfl⟩ rfl) hS hP hD hA [1, 2] rfl (fun _ => rfl) (fun r_26 u_26 H locs hq_26 hP hD hS => ?_)
      subst hq_26
      have hP : va_P D vwCl [(h, .inr (6, [.ref o, .ref sl, .ref sv, .ref tx, .ref sh, .ref ld, .ref cc])), (tx, .inr (1, [.ref cd, .int (nZ n)])), (cd, .inl (k 0, 60, .inl (zA ct)))] H := hP
      have hD : va_D A [(h, .inr (6, [.ref o, .ref sl, .ref sv, .ref tx, .ref sh, .ref ld, .ref cc])), (tx, .inr (1, [.ref cd, .int (nZ n)])), (cd, .inl (k 0, 60, .inl (zA ct)))] := hD
      refine zz_if_eq X (tgt := 42) dX6_append_29 (by decide) ⟨by (split <;> omega), by (split <;> omega)⟩ (fun c_29 => ?_) (fun c_29 => ?_)
      · exact absurd (ifz_eq c_29) (by omega)
      · exact zThrow X hxt hst hxT hxZ hP hD hS hl (List.mem_of_getElem? (i := 1) rfl) zw_359 zw_360 zAt_IS dX6_append_32 dX6_append_35 dX6_append_36 dX6_append_38 dX6_append_41 ⟨Nat.le_of_ble_eq_true rfl, Nat.le_of_ble_eq_true rfl, Nat.le_of_ble_eq_true rfl, Nat.le_of_ble_eq_true rfl⟩
    · exfalso; omega
set_option maxHeartbeats 4000000 in
set_option maxRecDepth 100000 in
theorem c_X6_lay_e1 (l : Launch) (D : va_G) (k : Nat → ClassId) (sz : Nat) (h o sl sv tx sh ld cc : Nat) (cd : Nat) (n : Int) (ct : Nat → Int) (T : List Int) (hst : l.stackTraces = false) (hT : textOk ct n T) (hw : ¬ wholeS T) : vx_Met l yX6_lay (zW yX6_lay cX6_lay 2 (some .int)) ({ frames := 6, cells := 1, slots := 6, locals := 117 } : Room) (va_Pc [.ref h] (zInT D k sz [(h, .inr (6, [.ref o, .ref sl, .ref sv, .ref tx, .ref sh, .ref ld, .ref cc])), (tx, .inr (1, [.ref cd, .int (nZ n)])), (cd, .inl (k 0, 60, .inl (zA ct)))])) (va_Qi (fun (_ : Int32) (_ : Unit) => False) (fun (_ : Unit) (_ : State) => True) (va_A [(h, .inr (6, [.ref o, .ref sl, .ref sv, .ref tx, .ref sh, .ref ld, .ref cc])), (tx, .inr (1, [.ref cd, .int (nZ n)])), (cd, .inl (k 0, 60, .inl (zA ct)))] sz)) (zXC D zIA [(h, .inr (6, [.ref o, .ref sl, .ref sv, .ref tx, .ref sh, .ref ld, .ref cc])), (tx, .inr (1, [.ref cd, .int (nZ n)])), (cd, .inl (k 0, 60, .inl (zA ct)))] (va_A [(h, .inr (6, [.ref o, .ref sl, .ref sv, .ref tx, .ref sh, .ref ld, .ref cc])), (tx, .inr (1, [.ref cd, .int (nZ n)])), (cd, .inl (k 0, 60, .inl (zA ct)))] sz)) 1 6 (va_A [(h, .inr (6, [.ref o, .ref sl, .ref sv, .ref tx, .ref sh, .ref ld, .ref cc])), (tx, .inr (1, [.ref cd, .int (nZ n)])), (cd, .inl (k 0, 60, .inl (zA ct)))] sz) := by
  refine zEnterX (Qf := fun A => va_Qi (fun (_ : Int32) (_ : Unit) => False) (fun (_ : Unit) (_ : State) => True) A) (XC := fun A => zXC D zIA [(h, .inr (6, [.ref o, .ref sl, .ref sv, .ref tx, .ref sh, .ref ld, .ref cc])), (tx, .inr (1, [.ref cd, .int (nZ n)])), (cd, .inl (k 0, 60, .inl (zA ct)))] A) RX6 (by decide) rfl (Nat.le_of_ble_eq_true rfl) ?_
  intro p9 e9 s9 m9 be9 me9 c9 ls A X hxt hxT hxZ hP hD hS hA hAe hl
  have hX := X.1; have hB := X.2.1; have hz := X.2.2.2.2.1; have hW := X.2.2.2.2.2.1; have hK := X.2.2.2.2.2.2.2; clear hAe
  have hl : lv_has ls 2 [(0, .ref h)] := hl
  refine lv_aload_n hX hB dX6_lay_0 rfl (lv_at hl 0 rfl) ?_
  refine va_get hX hB hz inlX6 hW hK.1 hP 0 rfl rfl 3 (by decide) (hz _ zw_25) (fun _ h9 => h9) rfl dX6_lay_1 ?_
  refine zCallI0 (zRunVN (As := []) X mv_X1_isWhole (c_X1_isWhole l D k _ tx cd n ct T hT) (zn_X6_133 hK.2.1) (zPreV hP hD hK [1, 2] rfl rfl 1 1 rfl rfl rfl) rfl hl (Nat.le_of_ble_eq_true rfl) dX6_lay_4 ⟨rfl, rfl, ⟨Nat.le_of_ble_eq_true rfl, Nat.le_of_ble_eq_true rfl⟩, Nat.le_of_ble_eq_true rfl, Nat.le_of_ble_eq_true rfl⟩ rfl) hS hP hD hA [1, 2] rfl (fun _ => rfl) (fun r_4 u_4 H locs hq_4 hP hD hS => ?_)
  subst hq_4
  have hP : va_P D vwCl [(h, .inr (6, [.ref o, .ref sl, .ref sv, .ref tx, .ref sh, .ref ld, .ref cc])), (tx, .inr (1, [.ref cd, .int (nZ n)])), (cd, .inl (k 0, 60, .inl (zA ct)))] H := hP
  have hD : va_D A [(h, .inr (6, [.ref o, .ref sl, .ref sv, .ref tx, .ref sh, .ref ld, .ref cc])), (tx, .inr (1, [.ref cd, .int (nZ n)])), (cd, .inl (k 0, 60, .inl (zA ct)))] := hD
  refine zz_if_ne X (tgt := 20) dX6_lay_7 (by decide) ⟨by (split <;> omega), by (split <;> omega)⟩ (fun c_7 => ?_) (fun c_7 => ?_)
  · exact absurd (ifz_ne c_7) hw
  · exact zThrow X hxt hst hxT hxZ hP hD hS hl (List.mem_of_getElem? (i := 7) rfl) zw_97 zw_98 zAt_IA dX6_lay_10 dX6_lay_13 dX6_lay_14 dX6_lay_16 dX6_lay_19 ⟨Nat.le_of_ble_eq_true rfl, Nat.le_of_ble_eq_true rfl, Nat.le_of_ble_eq_true rfl, Nat.le_of_ble_eq_true rfl⟩
set_option maxHeartbeats 4000000 in
set_option maxRecDepth 100000 in
theorem c_X6_keep_e1 (l : Launch) (D : va_G) (k : Nat → ClassId) (sz : Nat) (h o sl sv tx sh ld cc : Nat) (a : Int) (hst : l.stackTraces = false) (hza : zR a) (hb : a < 0 ∨ 1 < a) : vx_Met l yX6_keep (zW yX6_keep cX6_keep 3 (some .int)) ({ frames := 7, cells := 1, slots := 6, locals := 110 } : Room) (va_Pc [.ref h, .int (nZ a)] (zInT D k sz [(h, .inr (6, [.ref o, .ref sl, .ref sv, .ref tx, .ref sh, .ref ld, .ref cc]))])) (va_Qi (fun (_ : Int32) (_ : Unit) => False) (fun (_ : Unit) (_ : State) => True) (va_A [(h, .inr (6, [.ref o, .ref sl, .ref sv, .ref tx, .ref sh, .ref ld, .ref cc]))] sz)) (zXC D zIA [(h, .inr (6, [.ref o, .ref sl, .ref sv, .ref tx, .ref sh, .ref ld, .ref cc]))] (va_A [(h, .inr (6, [.ref o, .ref sl, .ref sv, .ref tx, .ref sh, .ref ld, .ref cc]))] sz)) 1 6 (va_A [(h, .inr (6, [.ref o, .ref sl, .ref sv, .ref tx, .ref sh, .ref ld, .ref cc]))] sz) := by
  refine zEnterX (Qf := fun A => va_Qi (fun (_ : Int32) (_ : Unit) => False) (fun (_ : Unit) (_ : State) => True) A) (XC := fun A => zXC D zIA [(h, .inr (6, [.ref o, .ref sl, .ref sv, .ref tx, .ref sh, .ref ld, .ref cc]))] A) RX6 (by decide) rfl (Nat.le_of_ble_eq_true rfl) ?_
  intro p9 e9 s9 m9 be9 me9 c9 ls A X hxt hxT hxZ hP hD hS hA hAe hl
  have hX := X.1; have hB := X.2.1; have hz := X.2.2.2.2.1; have hW := X.2.2.2.2.2.1; have hK := X.2.2.2.2.2.2.2; clear hAe
  have hl : lv_has ls 3 [(0, .ref h), (1, .int (nZ a))] := hl
  refine lv_iload_n hX hB dX6_keep_0 rfl (lv_at hl 1 rfl) ?_
  exact zCallT X hxt hxT hxZ ms_X6_requireSlot (c_X6_requireSlot_x l D k _ a hst hza hb) zw_466 hP hD hS hA rfl hl (Nat.le_of_ble_eq_true rfl) dX6_keep_1 ⟨rfl, rfl, ⟨Nat.le_of_ble_eq_true rfl, Nat.le_of_ble_eq_true rfl⟩, Nat.le_of_ble_eq_true rfl, Nat.le_of_ble_eq_true rfl⟩ rfl
set_option maxHeartbeats 4000000 in
set_option maxRecDepth 100000 in
theorem c_X6_goBack_e1 (l : Launch) (D : va_G) (k : Nat → ClassId) (sz : Nat) (h o sl sv tx sh ld cc : Nat) (a : Int) (hst : l.stackTraces = false) (hza : zR a) (hb : a < 0 ∨ 1 < a) : vx_Met l yX6_goBack (zW yX6_goBack cX6_goBack 3 (some .int)) ({ frames := 7, cells := 1, slots := 6, locals := 117 } : Room) (va_Pc [.ref h, .int (nZ a)] (zInT D k sz [(h, .inr (6, [.ref o, .ref sl, .ref sv, .ref tx, .ref sh, .ref ld, .ref cc]))])) (va_Qi (fun (_ : Int32) (_ : Unit) => False) (fun (_ : Unit) (_ : State) => True) (va_A [(h, .inr (6, [.ref o, .ref sl, .ref sv, .ref tx, .ref sh, .ref ld, .ref cc]))] sz)) (zXC D zIA [(h, .inr (6, [.ref o, .ref sl, .ref sv, .ref tx, .ref sh, .ref ld, .ref cc]))] (va_A [(h, .inr (6, [.ref o, .ref sl, .ref sv, .ref tx, .ref sh, .ref ld, .ref cc]))] sz)) 1 6 (va_A [(h, .inr (6, [.ref o, .ref sl, .ref sv, .ref tx, .ref sh, .ref ld, .ref cc]))] sz) := by
  refine zEnterX (Qf := fun A => va_Qi (fun (_ : Int32) (_ : Unit) => False) (fun (_ : Unit) (_ : State) => True) A) (XC := fun A => zXC D zIA [(h, .inr (6, [.ref o, .ref sl, .ref sv, .ref tx, .ref sh, .ref ld, .ref cc]))] A) RX6 (by decide) rfl (Nat.le_of_ble_eq_true rfl) ?_
  intro p9 e9 s9 m9 be9 me9 c9 ls A X hxt hxT hxZ hP hD hS hA hAe hl
  have hX := X.1; have hB := X.2.1; have hz := X.2.2.2.2.1; have hW := X.2.2.2.2.2.1; have hK := X.2.2.2.2.2.2.2; clear hAe
  have hl : lv_has ls 3 [(0, .ref h), (1, .int (nZ a))] := hl
  refine lv_iload_n hX hB dX6_goBack_0 rfl (lv_at hl 1 rfl) ?_
  exact zCallT X hxt hxT hxZ ms_X6_requireSlot (c_X6_requireSlot_x l D k _ a hst hza hb) zw_466 hP hD hS hA rfl hl (Nat.le_of_ble_eq_true rfl) dX6_goBack_1 ⟨rfl, rfl, ⟨Nat.le_of_ble_eq_true rfl, Nat.le_of_ble_eq_true rfl⟩, Nat.le_of_ble_eq_true rfl, Nat.le_of_ble_eq_true rfl⟩ rfl
set_option maxHeartbeats 4000000 in
set_option maxRecDepth 100000 in
theorem c_X6_goBack_e2 (l : Launch) (D : va_G) (k : Nat → ClassId) (sz : Nat) (h o sl sv tx sh ld cc : Nat) (slf : Nat → Option Nat) (x : Int) (hst : l.stackTraces = false) (hx : 0 ≤ x ∧ x ≤ 1) (hf : slf (x).toNat = none) : vx_Met l yX6_goBack (zW yX6_goBack cX6_goBack 3 (some .int)) ({ frames := 7, cells := 1, slots := 6, locals := 117 } : Room) (va_Pc [.ref h, .int (nZ x)] (zInT D k sz [(h, .inr (6, [.ref o, .ref sl, .ref sv, .ref tx, .ref sh, .ref ld, .ref cc])), (sl, .inl (k 4, 2, .inr (.inr (.inr (.inr slf)))))])) (va_Qi (fun (_ : Int32) (_ : Unit) => False) (fun (_ : Unit) (_ : State) => True) (va_A [(h, .inr (6, [.ref o, .ref sl, .ref sv, .ref tx, .ref sh, .ref ld, .ref cc])), (sl, .inl (k 4, 2, .inr (.inr (.inr (.inr slf)))))] sz)) (zXC D zIS [(h, .inr (6, [.ref o, .ref sl, .ref sv, .ref tx, .ref sh, .ref ld, .ref cc])), (sl, .inl (k 4, 2, .inr (.inr (.inr (.inr slf)))))] (va_A [(h, .inr (6, [.ref o, .ref sl, .ref sv, .ref tx, .ref sh, .ref ld, .ref cc])), (sl, .inl (k 4, 2, .inr (.inr (.inr (.inr slf)))))] sz)) 1 6 (va_A [(h, .inr (6, [.ref o, .ref sl, .ref sv, .ref tx, .ref sh, .ref ld, .ref cc])), (sl, .inl (k 4, 2, .inr (.inr (.inr (.inr slf)))))] sz) := by
  refine zEnterX (Qf := fun A => va_Qi (fun (_ : Int32) (_ : Unit) => False) (fun (_ : Unit) (_ : State) => True) A) (XC := fun A => zXC D zIS [(h, .inr (6, [.ref o, .ref sl, .ref sv, .ref tx, .ref sh, .ref ld, .ref cc])), (sl, .inl (k 4, 2, .inr (.inr (.inr (.inr slf)))))] A) RX6 (by decide) rfl (Nat.le_of_ble_eq_true rfl) ?_
  intro p9 e9 s9 m9 be9 me9 c9 ls A X hxt hxT hxZ hP hD hS hA hAe hl
  have hX := X.1; have hB := X.2.1; have hz := X.2.2.2.2.1; have hW := X.2.2.2.2.2.1; have hK := X.2.2.2.2.2.2.2; clear hAe
  have hl : lv_has ls 3 [(0, .ref h), (1, .int (nZ x))] := hl
  refine lv_iload_n hX hB dX6_goBack_0 rfl (lv_at hl 1 rfl) ?_
  refine zCallV0 (zRunS X ms_X6_requireSlot (c_X6_requireSlot l D k _ x hx) zw_466 (zPreS hP hD hK [] rfl rfl) rfl hl (Nat.le_of_ble_eq_true rfl) dX6_goBack_1 ⟨rfl, rfl, ⟨Nat.le_of_ble_eq_true rfl, Nat.le_of_ble_eq_true rfl⟩, Nat.le_of_ble_eq_true rfl, Nat.le_of_ble_eq_true rfl⟩ rfl) hS hP hD hA [] rfl (fun _ => rfl) (fun u_1 H locs hq_1 hP hD hS => ?_)
  have hP : va_P D vwCl [(h, .inr (6, [.ref o, .ref sl, .ref sv, .ref tx, .ref sh, .ref ld, .ref cc])), (sl, .inl (k 4, 2, .inr (.inr (.inr (.inr slf)))))] H := hP
  have hD : va_D A [(h, .inr (6, [.ref o, .ref sl, .ref sv, .ref tx, .ref sh, .ref ld, .ref cc])), (sl, .inl (k 4, 2, .inr (.inr (.inr (.inr slf)))))] := hD
  refine lv_aload_n hX hB dX6_goBack_4 rfl (lv_at hl 0 rfl) ?_
  refine lv_iload_n hX hB dX6_goBack_5 rfl (lv_at hl 1 rfl) ?_
  refine zCallQ0 (zRunV (As := [.int (nZ x)]) X mv_X6_snapshotIn (c_X6_snapshotIn_n l D k _ h o sl sv tx sh ld cc slf x hx hf) zw_469 (zPreV hP hD hK [0, 1] rfl rfl 0 6 rfl rfl rfl) rfl hl (Nat.le_of_ble_eq_true rfl) dX6_goBack_6 ⟨rfl, rfl, ⟨Nat.le_of_ble_eq_true rfl, Nat.le_of_ble_eq_true rfl⟩, Nat.le_of_ble_eq_true rfl, Nat.le_of_ble_eq_true rfl⟩ rfl) hS hP hD hA [0, 1] rfl (fun _ => rfl) (fun r_6 u_6 H locs hq_6 hP hD hS => ?_)
  subst hq_6
  have hP : va_P D vwCl [(h, .inr (6, [.ref o, .ref sl, .ref sv, .ref tx, .ref sh, .ref ld, .ref cc])), (sl, .inl (k 4, 2, .inr (.inr (.inr (.inr slf)))))] H := hP
  have hD : va_D A [(h, .inr (6, [.ref o, .ref sl, .ref sv, .ref tx, .ref sh, .ref ld, .ref cc])), (sl, .inl (k 4, 2, .inr (.inr (.inr (.inr slf)))))] := hD
  refine lv_astore_nN (lv' := [(2, .null), (0, .ref h), (1, .int (nZ x))]) hX hB dX6_goBack_9 rfl hl (by decide) rfl (fun ls hl => ?_)
  refine lv_aload_nN hX hB dX6_goBack_10 rfl (lv_at hl 0 rfl) ?_
  refine lv_ifnonnullN hX hB dX6_goBack_11 ?_
  exact zThrow X hxt hst hxT hxZ hP hD hS hl (List.mem_of_getElem? (i := 6) rfl) zw_359 zw_360 zAt_IS dX6_goBack_14 dX6_goBack_17 dX6_goBack_18 dX6_goBack_20 dX6_goBack_23 ⟨Nat.le_of_ble_eq_true rfl, Nat.le_of_ble_eq_true rfl, Nat.le_of_ble_eq_true rfl, Nat.le_of_ble_eq_true rfl⟩
set_option maxHeartbeats 4000000 in
set_option maxRecDepth 100000 in
theorem c_X6_undo_e1 (l : Launch) (D : va_G) (k : Nat → ClassId) (sz : Nat) (h o sl sv tx sh ld cc : Nat) (st : Nat) (old size : Int) (hst : l.stackTraces = false) (hsz : size = 0) : vx_Met l yX6_undo (zW yX6_undo cX6_undo 1 (some .int)) ({ frames := 6, cells := 1, slots := 6, locals := 116 } : Room) (va_Pc [.ref h] (zInT D k sz [(h, .inr (6, [.ref o, .ref sl, .ref sv, .ref tx, .ref sh, .ref ld, .ref cc])), (sv, .inr (4, [.ref st, .int (nZ old), .int (nZ size)]))])) (va_Qi (fun (_ : Int32) (_ : Unit) => False) (fun (_ : Unit) (_ : State) => True) (va_A [(h, .inr (6, [.ref o, .ref sl, .ref sv, .ref tx, .ref sh, .ref ld, .ref cc])), (sv, .inr (4, [.ref st, .int (nZ old), .int (nZ size)]))] sz)) (zXC D zIS [(h, .inr (6, [.ref o, .ref sl, .ref sv, .ref tx, .ref sh, .ref ld, .ref cc])), (sv, .inr (4, [.ref st, .int (nZ old), .int (nZ size)]))] (va_A [(h, .inr (6, [.ref o, .ref sl, .ref sv, .ref tx, .ref sh, .ref ld, .ref cc])), (sv, .inr (4, [.ref st, .int (nZ old), .int (nZ size)]))] sz)) 1 6 (va_A [(h, .inr (6, [.ref o, .ref sl, .ref sv, .ref tx, .ref sh, .ref ld, .ref cc])), (sv, .inr (4, [.ref st, .int (nZ old), .int (nZ size)]))] sz) := by
  refine zEnterX (Qf := fun A => va_Qi (fun (_ : Int32) (_ : Unit) => False) (fun (_ : Unit) (_ : State) => True) A) (XC := fun A => zXC D zIS [(h, .inr (6, [.ref o, .ref sl, .ref sv, .ref tx, .ref sh, .ref ld, .ref cc])), (sv, .inr (4, [.ref st, .int (nZ old), .int (nZ size)]))] A) RX6 (by decide) rfl (Nat.le_of_ble_eq_true rfl) ?_
  intro p9 e9 s9 m9 be9 me9 c9 ls A X hxt hxT hxZ hP hD hS hA hAe hl
  have hX := X.1; have hB := X.2.1; have hz := X.2.2.2.2.1; have hW := X.2.2.2.2.2.1; have hK := X.2.2.2.2.2.2.2; clear hAe
  have hl : lv_has ls 1 [(0, .ref h)] := hl
  refine lv_aload_n hX hB dX6_undo_0 rfl (lv_at hl 0 rfl) ?_
  refine va_get hX hB hz inlX6 hW hK.1 hP 0 rfl rfl 2 (by decide) (hz _ zw_21) (fun _ h9 => h9) rfl dX6_undo_1 ?_
  refine va_getN (host := "ShoveBeds") hX hB hz inlX4 hW hK.1 hP 1 rfl rfl 2 (by decide) (zn_X6_164 hK.2.1) (fun _ h9 => h9) rfl dX6_undo_4 ?_
  refine zz_if_ne X (tgt := 20) dX6_undo_7 (by decide) ⟨by omega, by omega⟩ (fun c_7 => ?_) (fun c_7 => ?_)
  · exfalso; omega
  · exact zThrow X hxt hst hxT hxZ hP hD hS hl (List.mem_of_getElem? (i := 13) rfl) zw_359 zw_360 zAt_IS dX6_undo_10 dX6_undo_13 dX6_undo_14 dX6_undo_16 dX6_undo_19 ⟨Nat.le_of_ble_eq_true rfl, Nat.le_of_ble_eq_true rfl, Nat.le_of_ble_eq_true rfl, Nat.le_of_ble_eq_true rfl⟩
set_option maxHeartbeats 4000000 in
set_option maxRecDepth 100000 in
theorem c_X6_coin_e1 (l : Launch) (D : va_G) (k : Nat → ClassId) (sz : Nat) (h o sl sv tx sh ld cc : Nat) (a c : Int) (hst : l.stackTraces = false) (hza : zR a) (hzc : zR c) (hb : a < 0 ∨ 2 < a) : vx_Met l yX6_coin (zW yX6_coin cX6_coin 3 (some .int)) ({ frames := 7, cells := 1, slots := 6, locals := 110 } : Room) (va_Pc [.ref h, .int (nZ a), .int (nZ c)] (zInT D k sz [(h, .inr (6, [.ref o, .ref sl, .ref sv, .ref tx, .ref sh, .ref ld, .ref cc]))])) (va_Qi (fun (_ : Int32) (_ : Unit) => False) (fun (_ : Unit) (_ : State) => True) (va_A [(h, .inr (6, [.ref o, .ref sl, .ref sv, .ref tx, .ref sh, .ref ld, .ref cc]))] sz)) (zXC D zIO [(h, .inr (6, [.ref o, .ref sl, .ref sv, .ref tx, .ref sh, .ref ld, .ref cc]))] (va_A [(h, .inr (6, [.ref o, .ref sl, .ref sv, .ref tx, .ref sh, .ref ld, .ref cc]))] sz)) 1 6 (va_A [(h, .inr (6, [.ref o, .ref sl, .ref sv, .ref tx, .ref sh, .ref ld, .ref cc]))] sz) := by
  refine zEnterX (Qf := fun A => va_Qi (fun (_ : Int32) (_ : Unit) => False) (fun (_ : Unit) (_ : State) => True) A) (XC := fun A => zXC D zIO [(h, .inr (6, [.ref o, .ref sl, .ref sv, .ref tx, .ref sh, .ref ld, .ref cc]))] A) RX6 (by decide) rfl (Nat.le_of_ble_eq_true rfl) ?_
  intro p9 e9 s9 m9 be9 me9 c9 ls A X hxt hxT hxZ hP hD hS hA hAe hl
  have hX := X.1; have hB := X.2.1; have hz := X.2.2.2.2.1; have hW := X.2.2.2.2.2.1; have hK := X.2.2.2.2.2.2.2; clear hAe
  have hl : lv_has ls 3 [(0, .ref h), (1, .int (nZ a)), (2, .int (nZ c))] := hl
  refine lv_iload_n hX hB dX6_coin_0 rfl (lv_at hl 1 rfl) ?_
  exact zCallT X hxt hxT hxZ ms_X6_requireLane (c_X6_requireLane_x l D k _ a hst hza hb) zw_89 hP hD hS hA rfl hl (Nat.le_of_ble_eq_true rfl) dX6_coin_1 ⟨rfl, rfl, ⟨Nat.le_of_ble_eq_true rfl, Nat.le_of_ble_eq_true rfl⟩, Nat.le_of_ble_eq_true rfl, Nat.le_of_ble_eq_true rfl⟩ rfl
set_option maxHeartbeats 4000000 in
set_option maxRecDepth 100000 in
theorem c_X6_coin_e2 (l : Launch) (D : va_G) (k : Nat → ClassId) (sz : Nat) (h o sl sv tx sh ld cc : Nat) (a c : Int) (hst : l.stackTraces = false) (hza : zR a) (hzc : zR c) (ha : 0 ≤ a ∧ a ≤ 2) (hb : c < 0) : vx_Met l yX6_coin (zW yX6_coin cX6_coin 3 (some .int)) ({ frames := 7, cells := 1, slots := 6, locals := 110 } : Room) (va_Pc [.ref h, .int (nZ a), .int (nZ c)] (zInT D k sz [(h, .inr (6, [.ref o, .ref sl, .ref sv, .ref tx, .ref sh, .ref ld, .ref cc]))])) (va_Qi (fun (_ : Int32) (_ : Unit) => False) (fun (_ : Unit) (_ : State) => True) (va_A [(h, .inr (6, [.ref o, .ref sl, .ref sv, .ref tx, .ref sh, .ref ld, .ref cc]))] sz)) (zXC D zIA [(h, .inr (6, [.ref o, .ref sl, .ref sv, .ref tx, .ref sh, .ref ld, .ref cc]))] (va_A [(h, .inr (6, [.ref o, .ref sl, .ref sv, .ref tx, .ref sh, .ref ld, .ref cc]))] sz)) 1 6 (va_A [(h, .inr (6, [.ref o, .ref sl, .ref sv, .ref tx, .ref sh, .ref ld, .ref cc]))] sz) := by
  refine zEnterX (Qf := fun A => va_Qi (fun (_ : Int32) (_ : Unit) => False) (fun (_ : Unit) (_ : State) => True) A) (XC := fun A => zXC D zIA [(h, .inr (6, [.ref o, .ref sl, .ref sv, .ref tx, .ref sh, .ref ld, .ref cc]))] A) RX6 (by decide) rfl (Nat.le_of_ble_eq_true rfl) ?_
  intro p9 e9 s9 m9 be9 me9 c9 ls A X hxt hxT hxZ hP hD hS hA hAe hl
  have hX := X.1; have hB := X.2.1; have hz := X.2.2.2.2.1; have hW := X.2.2.2.2.2.1; have hK := X.2.2.2.2.2.2.2; clear hAe
  have hl : lv_has ls 3 [(0, .ref h), (1, .int (nZ a)), (2, .int (nZ c))] := hl
  refine lv_iload_n hX hB dX6_coin_0 rfl (lv_at hl 1 rfl) ?_
  refine zCallV0 (zRunS X ms_X6_requireLane (c_X6_requireLane l D k _ a ha) zw_89 (zPreS hP hD hK [] rfl rfl) rfl hl (Nat.le_of_ble_eq_true rfl) dX6_coin_1 ⟨rfl, rfl, ⟨Nat.le_of_ble_eq_true rfl, Nat.le_of_ble_eq_true rfl⟩, Nat.le_of_ble_eq_true rfl, Nat.le_of_ble_eq_true rfl⟩ rfl) hS hP hD hA [] rfl (fun _ => rfl) (fun u_1 H locs hq_1 hP hD hS => ?_)
  have hP : va_P D vwCl [(h, .inr (6, [.ref o, .ref sl, .ref sv, .ref tx, .ref sh, .ref ld, .ref cc]))] H := hP
  have hD : va_D A [(h, .inr (6, [.ref o, .ref sl, .ref sv, .ref tx, .ref sh, .ref ld, .ref cc]))] := hD
  refine lv_iload_n hX hB dX6_coin_4 rfl (lv_at hl 2 rfl) ?_
  refine zz_if_ge X (tgt := 18) dX6_coin_5 (by decide) ⟨by omega, by omega⟩ (fun c_5 => ?_) (fun c_5 => ?_)
  · exfalso; omega
  · exact zThrow X hxt hst hxT hxZ hP hD hS hl (List.mem_of_getElem? (i := 3) rfl) zw_97 zw_98 zAt_IA dX6_coin_8 dX6_coin_11 dX6_coin_12 dX6_coin_14 dX6_coin_17 ⟨Nat.le_of_ble_eq_true rfl, Nat.le_of_ble_eq_true rfl, Nat.le_of_ble_eq_true rfl, Nat.le_of_ble_eq_true rfl⟩
set_option maxHeartbeats 4000000 in
set_option maxRecDepth 100000 in
theorem c_X6_bedOf_e1 (l : Launch) (D : va_G) (k : Nat → ClassId) (sz : Nat) (h o sl sv tx sh ld cc : Nat) (a c : Int) (hst : l.stackTraces = false) (hza : zR a) (hzc : zR c) (hb : a < 0 ∨ 8 < a) : vx_Met l yX6_bedOf (zW yX6_bedOf cX6_bedOf 4 (some .int)) ({ frames := 7, cells := 1, slots := 6, locals := 110 } : Room) (va_Pc [.ref h, .int (nZ a), .int (nZ c)] (zInT D k sz [(h, .inr (6, [.ref o, .ref sl, .ref sv, .ref tx, .ref sh, .ref ld, .ref cc]))])) (va_Qi (fun (_ : Int32) (_ : Unit) => False) (fun (_ : Unit) (_ : State) => True) (va_A [(h, .inr (6, [.ref o, .ref sl, .ref sv, .ref tx, .ref sh, .ref ld, .ref cc]))] sz)) (zXC D zIO [(h, .inr (6, [.ref o, .ref sl, .ref sv, .ref tx, .ref sh, .ref ld, .ref cc]))] (va_A [(h, .inr (6, [.ref o, .ref sl, .ref sv, .ref tx, .ref sh, .ref ld, .ref cc]))] sz)) 1 6 (va_A [(h, .inr (6, [.ref o, .ref sl, .ref sv, .ref tx, .ref sh, .ref ld, .ref cc]))] sz) := by
  refine zEnterX (Qf := fun A => va_Qi (fun (_ : Int32) (_ : Unit) => False) (fun (_ : Unit) (_ : State) => True) A) (XC := fun A => zXC D zIO [(h, .inr (6, [.ref o, .ref sl, .ref sv, .ref tx, .ref sh, .ref ld, .ref cc]))] A) RX6 (by decide) rfl (Nat.le_of_ble_eq_true rfl) ?_
  intro p9 e9 s9 m9 be9 me9 c9 ls A X hxt hxT hxZ hP hD hS hA hAe hl
  have hX := X.1; have hB := X.2.1; have hz := X.2.2.2.2.1; have hW := X.2.2.2.2.2.1; have hK := X.2.2.2.2.2.2.2; clear hAe
  have hl : lv_has ls 4 [(0, .ref h), (1, .int (nZ a)), (2, .int (nZ c))] := hl
  refine lv_iload_n hX hB dX6_bedOf_0 rfl (lv_at hl 1 rfl) ?_
  exact zCallT X hxt hxT hxZ ms_X6_requireBed (c_X6_requireBed_x l D k _ a hst hza hb) zw_527 hP hD hS hA rfl hl (Nat.le_of_ble_eq_true rfl) dX6_bedOf_1 ⟨rfl, rfl, ⟨Nat.le_of_ble_eq_true rfl, Nat.le_of_ble_eq_true rfl⟩, Nat.le_of_ble_eq_true rfl, Nat.le_of_ble_eq_true rfl⟩ rfl
set_option maxHeartbeats 4000000 in
set_option maxRecDepth 100000 in
theorem c_X6_bedOf_e2 (l : Launch) (D : va_G) (k : Nat → ClassId) (sz : Nat) (h o sl sv tx sh ld cc : Nat) (a c : Int) (hst : l.stackTraces = false) (hza : zR a) (hzc : zR c) (ha : 0 ≤ a ∧ a ≤ 8) (hb : c < 0 ∨ 4 < c) : vx_Met l yX6_bedOf (zW yX6_bedOf cX6_bedOf 4 (some .int)) ({ frames := 7, cells := 1, slots := 6, locals := 110 } : Room) (va_Pc [.ref h, .int (nZ a), .int (nZ c)] (zInT D k sz [(h, .inr (6, [.ref o, .ref sl, .ref sv, .ref tx, .ref sh, .ref ld, .ref cc]))])) (va_Qi (fun (_ : Int32) (_ : Unit) => False) (fun (_ : Unit) (_ : State) => True) (va_A [(h, .inr (6, [.ref o, .ref sl, .ref sv, .ref tx, .ref sh, .ref ld, .ref cc]))] sz)) (zXC D zIA [(h, .inr (6, [.ref o, .ref sl, .ref sv, .ref tx, .ref sh, .ref ld, .ref cc]))] (va_A [(h, .inr (6, [.ref o, .ref sl, .ref sv, .ref tx, .ref sh, .ref ld, .ref cc]))] sz)) 1 6 (va_A [(h, .inr (6, [.ref o, .ref sl, .ref sv, .ref tx, .ref sh, .ref ld, .ref cc]))] sz) := by
  refine zEnterX (Qf := fun A => va_Qi (fun (_ : Int32) (_ : Unit) => False) (fun (_ : Unit) (_ : State) => True) A) (XC := fun A => zXC D zIA [(h, .inr (6, [.ref o, .ref sl, .ref sv, .ref tx, .ref sh, .ref ld, .ref cc]))] A) RX6 (by decide) rfl (Nat.le_of_ble_eq_true rfl) ?_
  intro p9 e9 s9 m9 be9 me9 c9 ls A X hxt hxT hxZ hP hD hS hA hAe hl
  have hX := X.1; have hB := X.2.1; have hz := X.2.2.2.2.1; have hW := X.2.2.2.2.2.1; have hK := X.2.2.2.2.2.2.2; clear hAe
  have hl : lv_has ls 4 [(0, .ref h), (1, .int (nZ a)), (2, .int (nZ c))] := hl
  refine lv_iload_n hX hB dX6_bedOf_0 rfl (lv_at hl 1 rfl) ?_
  refine zCallV0 (zRunS X ms_X6_requireBed (c_X6_requireBed l D k _ a ha) zw_527 (zPreS hP hD hK [] rfl rfl) rfl hl (Nat.le_of_ble_eq_true rfl) dX6_bedOf_1 ⟨rfl, rfl, ⟨Nat.le_of_ble_eq_true rfl, Nat.le_of_ble_eq_true rfl⟩, Nat.le_of_ble_eq_true rfl, Nat.le_of_ble_eq_true rfl⟩ rfl) hS hP hD hA [] rfl (fun _ => rfl) (fun u_1 H locs hq_1 hP hD hS => ?_)
  have hP : va_P D vwCl [(h, .inr (6, [.ref o, .ref sl, .ref sv, .ref tx, .ref sh, .ref ld, .ref cc]))] H := hP
  have hD : va_D A [(h, .inr (6, [.ref o, .ref sl, .ref sv, .ref tx, .ref sh, .ref ld, .ref cc]))] := hD
  refine lv_iload_n hX hB dX6_bedOf_4 rfl (lv_at hl 2 rfl) ?_
  refine zz_if_lt X (tgt := 13) dX6_bedOf_5 (by decide) ⟨by omega, by omega⟩ (fun c_5 => ?_) (fun c_5 => ?_)
  · exact zThrow X hxt hst hxT hxZ hP hD hS hl (List.mem_of_getElem? (i := 2) rfl) zw_97 zw_98 zAt_IA dX6_bedOf_13 dX6_bedOf_16 dX6_bedOf_17 dX6_bedOf_19 dX6_bedOf_22 ⟨Nat.le_of_ble_eq_true rfl, Nat.le_of_ble_eq_true rfl, Nat.le_of_ble_eq_true rfl, Nat.le_of_ble_eq_true rfl⟩
  · refine lv_iload_n hX hB dX6_bedOf_8 rfl (lv_at hl 2 rfl) ?_
    refine lv_iconst (v := nZ 5) hX hB dX6_bedOf_9 rfl ?_
    refine zz_icmp_lt X (tgt := 23) dX6_bedOf_10 (by decide) ⟨by omega, by omega⟩ ⟨by omega, by omega⟩ (fun c_10 => ?_) (fun c_10 => ?_)
    · exfalso; omega
    · exact zThrow X hxt hst hxT hxZ hP hD hS hl (List.mem_of_getElem? (i := 2) rfl) zw_97 zw_98 zAt_IA dX6_bedOf_13 dX6_bedOf_16 dX6_bedOf_17 dX6_bedOf_19 dX6_bedOf_22 ⟨Nat.le_of_ble_eq_true rfl, Nat.le_of_ble_eq_true rfl, Nat.le_of_ble_eq_true rfl, Nat.le_of_ble_eq_true rfl⟩
set_option maxHeartbeats 4000000 in
set_option maxRecDepth 100000 in
theorem c_X6_count_e1 (l : Launch) (D : va_G) (k : Nat → ClassId) (sz : Nat) (h o sl sv tx sh ld cc : Nat) (a : Int) (hst : l.stackTraces = false) (hza : zR a) (hb : a < 0 ∨ 12 < a) : vx_Met l yX6_count (zW yX6_count cX6_count 2 (some .int)) ({ frames := 6, cells := 1, slots := 6, locals := 90 } : Room) (va_Pc [.ref h, .int (nZ a)] (zInT D k sz [(h, .inr (6, [.ref o, .ref sl, .ref sv, .ref tx, .ref sh, .ref ld, .ref cc]))])) (va_Qi (fun (_ : Int32) (_ : Unit) => False) (fun (_ : Unit) (_ : State) => True) (va_A [(h, .inr (6, [.ref o, .ref sl, .ref sv, .ref tx, .ref sh, .ref ld, .ref cc]))] sz)) (zXC D zIA [(h, .inr (6, [.ref o, .ref sl, .ref sv, .ref tx, .ref sh, .ref ld, .ref cc]))] (va_A [(h, .inr (6, [.ref o, .ref sl, .ref sv, .ref tx, .ref sh, .ref ld, .ref cc]))] sz)) 1 6 (va_A [(h, .inr (6, [.ref o, .ref sl, .ref sv, .ref tx, .ref sh, .ref ld, .ref cc]))] sz) := by
  refine zEnterX (Qf := fun A => va_Qi (fun (_ : Int32) (_ : Unit) => False) (fun (_ : Unit) (_ : State) => True) A) (XC := fun A => zXC D zIA [(h, .inr (6, [.ref o, .ref sl, .ref sv, .ref tx, .ref sh, .ref ld, .ref cc]))] A) RX6 (by decide) rfl (Nat.le_of_ble_eq_true rfl) ?_
  intro p9 e9 s9 m9 be9 me9 c9 ls A X hxt hxT hxZ hP hD hS hA hAe hl
  have hX := X.1; have hB := X.2.1; have hz := X.2.2.2.2.1; have hW := X.2.2.2.2.2.1; have hK := X.2.2.2.2.2.2.2; clear hAe
  have hl : lv_has ls 2 [(0, .ref h), (1, .int (nZ a))] := hl
  refine lv_iload_n hX hB dX6_count_0 rfl (lv_at hl 1 rfl) ?_
  refine zz_if_lt X (tgt := 10) dX6_count_1 (by decide) ⟨by omega, by omega⟩ (fun c_1 => ?_) (fun c_1 => ?_)
  · exact zThrow X hxt hst hxT hxZ hP hD hS hl (List.mem_of_getElem? (i := 4) rfl) zw_97 zw_98 zAt_IA dX6_count_10 dX6_count_13 dX6_count_14 dX6_count_16 dX6_count_19 ⟨Nat.le_of_ble_eq_true rfl, Nat.le_of_ble_eq_true rfl, Nat.le_of_ble_eq_true rfl, Nat.le_of_ble_eq_true rfl⟩
  · refine lv_iload_n hX hB dX6_count_4 rfl (lv_at hl 1 rfl) ?_
    refine lv_bipush (v := nZ 13) hX hB dX6_count_5 (by decide) ?_
    refine zz_icmp_lt X (tgt := 20) dX6_count_7 (by decide) ⟨by omega, by omega⟩ ⟨by omega, by omega⟩ (fun c_7 => ?_) (fun c_7 => ?_)
    · exfalso; omega
    · exact zThrow X hxt hst hxT hxZ hP hD hS hl (List.mem_of_getElem? (i := 4) rfl) zw_97 zw_98 zAt_IA dX6_count_10 dX6_count_13 dX6_count_14 dX6_count_16 dX6_count_19 ⟨Nat.le_of_ble_eq_true rfl, Nat.le_of_ble_eq_true rfl, Nat.le_of_ble_eq_true rfl, Nat.le_of_ble_eq_true rfl⟩
set_option maxHeartbeats 4000000 in
set_option maxRecDepth 100000 in
theorem c_X6_ends_e1 (l : Launch) (D : va_G) (k : Nat → ClassId) (sz : Nat) (h o sl sv tx sh ld cc : Nat) (a c d : Int) (hst : l.stackTraces = false) (hza : zR a) (hzc : zR c) (hb : a < 0 ∨ 2 < a) : vx_Met l yX6_ends (zW yX6_ends cX6_ends 4 (some .int)) ({ frames := 7, cells := 1, slots := 6, locals := 110 } : Room) (va_Pc [.ref h, .int (nZ a), .int (nZ c), .int (nZ d)] (zInT D k sz [(h, .inr (6, [.ref o, .ref sl, .ref sv, .ref tx, .ref sh, .ref ld, .ref cc]))])) (va_Qi (fun (_ : Int32) (_ : Unit) => False) (fun (_ : Unit) (_ : State) => True) (va_A [(h, .inr (6, [.ref o, .ref sl, .ref sv, .ref tx, .ref sh, .ref ld, .ref cc]))] sz)) (zXC D zIO [(h, .inr (6, [.ref o, .ref sl, .ref sv, .ref tx, .ref sh, .ref ld, .ref cc]))] (va_A [(h, .inr (6, [.ref o, .ref sl, .ref sv, .ref tx, .ref sh, .ref ld, .ref cc]))] sz)) 1 6 (va_A [(h, .inr (6, [.ref o, .ref sl, .ref sv, .ref tx, .ref sh, .ref ld, .ref cc]))] sz) := by
  refine zEnterX (Qf := fun A => va_Qi (fun (_ : Int32) (_ : Unit) => False) (fun (_ : Unit) (_ : State) => True) A) (XC := fun A => zXC D zIO [(h, .inr (6, [.ref o, .ref sl, .ref sv, .ref tx, .ref sh, .ref ld, .ref cc]))] A) RX6 (by decide) rfl (Nat.le_of_ble_eq_true rfl) ?_
  intro p9 e9 s9 m9 be9 me9 c9 ls A X hxt hxT hxZ hP hD hS hA hAe hl
  have hX := X.1; have hB := X.2.1; have hz := X.2.2.2.2.1; have hW := X.2.2.2.2.2.1; have hK := X.2.2.2.2.2.2.2; clear hAe
  have hl : lv_has ls 4 [(0, .ref h), (1, .int (nZ a)), (2, .int (nZ c)), (3, .int (nZ d))] := hl
  refine lv_iload_n hX hB dX6_ends_0 rfl (lv_at hl 1 rfl) ?_
  exact zCallT X hxt hxT hxZ ms_X6_requireLane (c_X6_requireLane_x l D k _ a hst hza hb) zw_89 hP hD hS hA rfl hl (Nat.le_of_ble_eq_true rfl) dX6_ends_1 ⟨rfl, rfl, ⟨Nat.le_of_ble_eq_true rfl, Nat.le_of_ble_eq_true rfl⟩, Nat.le_of_ble_eq_true rfl, Nat.le_of_ble_eq_true rfl⟩ rfl
set_option maxHeartbeats 4000000 in
set_option maxRecDepth 100000 in
theorem c_X6_ends_e2s (l : Launch) (D : va_G) (k : Nat → ClassId) (sz : Nat) (h o sl sv tx sh ld cc : Nat) (a c d : Int) (hst : l.stackTraces = false) (hza : zR a) (hzc : zR c) (ha : 0 ≤ a ∧ a ≤ 2) (hb : c < 1 ∨ 150 < c) : vx_Met l yX6_ends (zW yX6_ends cX6_ends 4 (some .int)) ({ frames := 7, cells := 1, slots := 6, locals := 110 } : Room) (va_Pc [.ref h, .int (nZ a), .int (nZ c), .int (nZ d)] (zInT D k sz [(h, .inr (6, [.ref o, .ref sl, .ref sv, .ref tx, .ref sh, .ref ld, .ref cc]))])) (va_Qi (fun (_ : Int32) (_ : Unit) => False) (fun (_ : Unit) (_ : State) => True) (va_A [(h, .inr (6, [.ref o, .ref sl, .ref sv, .ref tx, .ref sh, .ref ld, .ref cc]))] sz)) (zXC D zIA [(h, .inr (6, [.ref o, .ref sl, .ref sv, .ref tx, .ref sh, .ref ld, .ref cc]))] (va_A [(h, .inr (6, [.ref o, .ref sl, .ref sv, .ref tx, .ref sh, .ref ld, .ref cc]))] sz)) 1 6 (va_A [(h, .inr (6, [.ref o, .ref sl, .ref sv, .ref tx, .ref sh, .ref ld, .ref cc]))] sz) := by
  refine zEnterX (Qf := fun A => va_Qi (fun (_ : Int32) (_ : Unit) => False) (fun (_ : Unit) (_ : State) => True) A) (XC := fun A => zXC D zIA [(h, .inr (6, [.ref o, .ref sl, .ref sv, .ref tx, .ref sh, .ref ld, .ref cc]))] A) RX6 (by decide) rfl (Nat.le_of_ble_eq_true rfl) ?_
  intro p9 e9 s9 m9 be9 me9 c9 ls A X hxt hxT hxZ hP hD hS hA hAe hl
  have hX := X.1; have hB := X.2.1; have hz := X.2.2.2.2.1; have hW := X.2.2.2.2.2.1; have hK := X.2.2.2.2.2.2.2; clear hAe
  have hl : lv_has ls 4 [(0, .ref h), (1, .int (nZ a)), (2, .int (nZ c)), (3, .int (nZ d))] := hl
  refine lv_iload_n hX hB dX6_ends_0 rfl (lv_at hl 1 rfl) ?_
  refine zCallV0 (zRunS X ms_X6_requireLane (c_X6_requireLane l D k _ a ha) zw_89 (zPreS hP hD hK [] rfl rfl) rfl hl (Nat.le_of_ble_eq_true rfl) dX6_ends_1 ⟨rfl, rfl, ⟨Nat.le_of_ble_eq_true rfl, Nat.le_of_ble_eq_true rfl⟩, Nat.le_of_ble_eq_true rfl, Nat.le_of_ble_eq_true rfl⟩ rfl) hS hP hD hA [] rfl (fun _ => rfl) (fun u_1 H locs hq_1 hP hD hS => ?_)
  have hP : va_P D vwCl [(h, .inr (6, [.ref o, .ref sl, .ref sv, .ref tx, .ref sh, .ref ld, .ref cc]))] H := hP
  have hD : va_D A [(h, .inr (6, [.ref o, .ref sl, .ref sv, .ref tx, .ref sh, .ref ld, .ref cc]))] := hD
  refine lv_iload_n hX hB dX6_ends_4 rfl (lv_at hl 2 rfl) ?_
  exact zCallT X hxt hxT hxZ ms_X6_requireStrength (c_X6_requireStrength_x l D k _ c hst hzc hb) zw_94 hP hD hS hA rfl hl (Nat.le_of_ble_eq_true rfl) dX6_ends_5 ⟨rfl, rfl, ⟨Nat.le_of_ble_eq_true rfl, Nat.le_of_ble_eq_true rfl⟩, Nat.le_of_ble_eq_true rfl, Nat.le_of_ble_eq_true rfl⟩ rfl
set_option maxHeartbeats 4000000 in
set_option maxRecDepth 100000 in
theorem c_X6_ends_e2w (l : Launch) (D : va_G) (k : Nat → ClassId) (sz : Nat) (h o sl sv tx sh ld cc : Nat) (a c d : Int) (hst : l.stackTraces = false) (hza : zR a) (hzc : zR c) (hzd : zR d) (ha : 0 ≤ a ∧ a ≤ 2) (hc : 1 ≤ c ∧ c ≤ 150) (hb : d < 0 ∨ 1 < d) : vx_Met l yX6_ends (zW yX6_ends cX6_ends 4 (some .int)) ({ frames := 7, cells := 1, slots := 6, locals := 110 } : Room) (va_Pc [.ref h, .int (nZ a), .int (nZ c), .int (nZ d)] (zInT D k sz [(h, .inr (6, [.ref o, .ref sl, .ref sv, .ref tx, .ref sh, .ref ld, .ref cc]))])) (va_Qi (fun (_ : Int32) (_ : Unit) => False) (fun (_ : Unit) (_ : State) => True) (va_A [(h, .inr (6, [.ref o, .ref sl, .ref sv, .ref tx, .ref sh, .ref ld, .ref cc]))] sz)) (zXC D zIA [(h, .inr (6, [.ref o, .ref sl, .ref sv, .ref tx, .ref sh, .ref ld, .ref cc]))] (va_A [(h, .inr (6, [.ref o, .ref sl, .ref sv, .ref tx, .ref sh, .ref ld, .ref cc]))] sz)) 1 6 (va_A [(h, .inr (6, [.ref o, .ref sl, .ref sv, .ref tx, .ref sh, .ref ld, .ref cc]))] sz) := by
  refine zEnterX (Qf := fun A => va_Qi (fun (_ : Int32) (_ : Unit) => False) (fun (_ : Unit) (_ : State) => True) A) (XC := fun A => zXC D zIA [(h, .inr (6, [.ref o, .ref sl, .ref sv, .ref tx, .ref sh, .ref ld, .ref cc]))] A) RX6 (by decide) rfl (Nat.le_of_ble_eq_true rfl) ?_
  intro p9 e9 s9 m9 be9 me9 c9 ls A X hxt hxT hxZ hP hD hS hA hAe hl
  have hX := X.1; have hB := X.2.1; have hz := X.2.2.2.2.1; have hW := X.2.2.2.2.2.1; have hK := X.2.2.2.2.2.2.2; clear hAe
  have hl : lv_has ls 4 [(0, .ref h), (1, .int (nZ a)), (2, .int (nZ c)), (3, .int (nZ d))] := hl
  refine lv_iload_n hX hB dX6_ends_0 rfl (lv_at hl 1 rfl) ?_
  refine zCallV0 (zRunS X ms_X6_requireLane (c_X6_requireLane l D k _ a ha) zw_89 (zPreS hP hD hK [] rfl rfl) rfl hl (Nat.le_of_ble_eq_true rfl) dX6_ends_1 ⟨rfl, rfl, ⟨Nat.le_of_ble_eq_true rfl, Nat.le_of_ble_eq_true rfl⟩, Nat.le_of_ble_eq_true rfl, Nat.le_of_ble_eq_true rfl⟩ rfl) hS hP hD hA [] rfl (fun _ => rfl) (fun u_1 H locs hq_1 hP hD hS => ?_)
  have hP : va_P D vwCl [(h, .inr (6, [.ref o, .ref sl, .ref sv, .ref tx, .ref sh, .ref ld, .ref cc]))] H := hP
  have hD : va_D A [(h, .inr (6, [.ref o, .ref sl, .ref sv, .ref tx, .ref sh, .ref ld, .ref cc]))] := hD
  refine lv_iload_n hX hB dX6_ends_4 rfl (lv_at hl 2 rfl) ?_
  refine zCallV0 (zRunS X ms_X6_requireStrength (c_X6_requireStrength l D k _ c hc) zw_94 (zPreS hP hD hK [] rfl rfl) rfl hl (Nat.le_of_ble_eq_true rfl) dX6_ends_5 ⟨rfl, rfl, ⟨Nat.le_of_ble_eq_true rfl, Nat.le_of_ble_eq_true rfl⟩, Nat.le_of_ble_eq_true rfl, Nat.le_of_ble_eq_true rfl⟩ rfl) hS hP hD hA [] rfl (fun _ => rfl) (fun u_5 H locs hq_5 hP hD hS => ?_)
  have hP : va_P D vwCl [(h, .inr (6, [.ref o, .ref sl, .ref sv, .ref tx, .ref sh, .ref ld, .ref cc]))] H := hP
  have hD : va_D A [(h, .inr (6, [.ref o, .ref sl, .ref sv, .ref tx, .ref sh, .ref ld, .ref cc]))] := hD
  refine lv_iload_n hX hB dX6_ends_8 rfl (lv_at hl 3 rfl) ?_
  refine zz_if_lt X (tgt := 17) dX6_ends_9 (by decide) ⟨by omega, by omega⟩ (fun c_9 => ?_) (fun c_9 => ?_)
  · exact zThrow X hxt hst hxT hxZ hP hD hS hl (List.mem_of_getElem? (i := 5) rfl) zw_97 zw_98 zAt_IA dX6_ends_17 dX6_ends_20 dX6_ends_21 dX6_ends_23 dX6_ends_26 ⟨Nat.le_of_ble_eq_true rfl, Nat.le_of_ble_eq_true rfl, Nat.le_of_ble_eq_true rfl, Nat.le_of_ble_eq_true rfl⟩
  · refine lv_iload_n hX hB dX6_ends_12 rfl (lv_at hl 3 rfl) ?_
    refine lv_iconst (v := nZ 1) hX hB dX6_ends_13 rfl ?_
    refine zz_icmp_le X (tgt := 27) dX6_ends_14 (by decide) ⟨by omega, by omega⟩ ⟨by omega, by omega⟩ (fun c_14 => ?_) (fun c_14 => ?_)
    · exfalso; omega
    · exact zThrow X hxt hst hxT hxZ hP hD hS hl (List.mem_of_getElem? (i := 5) rfl) zw_97 zw_98 zAt_IA dX6_ends_17 dX6_ends_20 dX6_ends_21 dX6_ends_23 dX6_ends_26 ⟨Nat.le_of_ble_eq_true rfl, Nat.le_of_ble_eq_true rfl, Nat.le_of_ble_eq_true rfl, Nat.le_of_ble_eq_true rfl⟩
set_option maxHeartbeats 4000000 in
set_option maxRecDepth 100000 in
theorem c_X6_ifPushed_e1 (l : Launch) (D : va_G) (k : Nat → ClassId) (sz : Nat) (h o sl sv tx sh ld cc : Nat) (a c : Int) (hst : l.stackTraces = false) (hza : zR a) (hzc : zR c) (hb : a < 0 ∨ 2 < a) : vx_Met l yX6_ifPushed (zW yX6_ifPushed cX6_ifPushed 4 (some .int)) ({ frames := 7, cells := 1, slots := 6, locals := 110 } : Room) (va_Pc [.ref h, .int (nZ a), .int (nZ c)] (zInT D k sz [(h, .inr (6, [.ref o, .ref sl, .ref sv, .ref tx, .ref sh, .ref ld, .ref cc]))])) (va_Qi (fun (_ : Int32) (_ : Unit) => False) (fun (_ : Unit) (_ : State) => True) (va_A [(h, .inr (6, [.ref o, .ref sl, .ref sv, .ref tx, .ref sh, .ref ld, .ref cc]))] sz)) (zXC D zIO [(h, .inr (6, [.ref o, .ref sl, .ref sv, .ref tx, .ref sh, .ref ld, .ref cc]))] (va_A [(h, .inr (6, [.ref o, .ref sl, .ref sv, .ref tx, .ref sh, .ref ld, .ref cc]))] sz)) 1 6 (va_A [(h, .inr (6, [.ref o, .ref sl, .ref sv, .ref tx, .ref sh, .ref ld, .ref cc]))] sz) := by
  refine zEnterX (Qf := fun A => va_Qi (fun (_ : Int32) (_ : Unit) => False) (fun (_ : Unit) (_ : State) => True) A) (XC := fun A => zXC D zIO [(h, .inr (6, [.ref o, .ref sl, .ref sv, .ref tx, .ref sh, .ref ld, .ref cc]))] A) RX6 (by decide) rfl (Nat.le_of_ble_eq_true rfl) ?_
  intro p9 e9 s9 m9 be9 me9 c9 ls A X hxt hxT hxZ hP hD hS hA hAe hl
  have hX := X.1; have hB := X.2.1; have hz := X.2.2.2.2.1; have hW := X.2.2.2.2.2.1; have hK := X.2.2.2.2.2.2.2; clear hAe
  have hl : lv_has ls 4 [(0, .ref h), (1, .int (nZ a)), (2, .int (nZ c))] := hl
  refine lv_iload_n hX hB dX6_ifPushed_0 rfl (lv_at hl 1 rfl) ?_
  exact zCallT X hxt hxT hxZ ms_X6_requireLane (c_X6_requireLane_x l D k _ a hst hza hb) zw_89 hP hD hS hA rfl hl (Nat.le_of_ble_eq_true rfl) dX6_ifPushed_1 ⟨rfl, rfl, ⟨Nat.le_of_ble_eq_true rfl, Nat.le_of_ble_eq_true rfl⟩, Nat.le_of_ble_eq_true rfl, Nat.le_of_ble_eq_true rfl⟩ rfl
set_option maxHeartbeats 4000000 in
set_option maxRecDepth 100000 in
theorem c_X6_ifPushed_e2 (l : Launch) (D : va_G) (k : Nat → ClassId) (sz : Nat) (h o sl sv tx sh ld cc : Nat) (a c : Int) (hst : l.stackTraces = false) (hza : zR a) (hzc : zR c) (ha : 0 ≤ a ∧ a ≤ 2) (hb : c < 1 ∨ 150 < c) : vx_Met l yX6_ifPushed (zW yX6_ifPushed cX6_ifPushed 4 (some .int)) ({ frames := 7, cells := 1, slots := 6, locals := 110 } : Room) (va_Pc [.ref h, .int (nZ a), .int (nZ c)] (zInT D k sz [(h, .inr (6, [.ref o, .ref sl, .ref sv, .ref tx, .ref sh, .ref ld, .ref cc]))])) (va_Qi (fun (_ : Int32) (_ : Unit) => False) (fun (_ : Unit) (_ : State) => True) (va_A [(h, .inr (6, [.ref o, .ref sl, .ref sv, .ref tx, .ref sh, .ref ld, .ref cc]))] sz)) (zXC D zIA [(h, .inr (6, [.ref o, .ref sl, .ref sv, .ref tx, .ref sh, .ref ld, .ref cc]))] (va_A [(h, .inr (6, [.ref o, .ref sl, .ref sv, .ref tx, .ref sh, .ref ld, .ref cc]))] sz)) 1 6 (va_A [(h, .inr (6, [.ref o, .ref sl, .ref sv, .ref tx, .ref sh, .ref ld, .ref cc]))] sz) := by
  refine zEnterX (Qf := fun A => va_Qi (fun (_ : Int32) (_ : Unit) => False) (fun (_ : Unit) (_ : State) => True) A) (XC := fun A => zXC D zIA [(h, .inr (6, [.ref o, .ref sl, .ref sv, .ref tx, .ref sh, .ref ld, .ref cc]))] A) RX6 (by decide) rfl (Nat.le_of_ble_eq_true rfl) ?_
  intro p9 e9 s9 m9 be9 me9 c9 ls A X hxt hxT hxZ hP hD hS hA hAe hl
  have hX := X.1; have hB := X.2.1; have hz := X.2.2.2.2.1; have hW := X.2.2.2.2.2.1; have hK := X.2.2.2.2.2.2.2; clear hAe
  have hl : lv_has ls 4 [(0, .ref h), (1, .int (nZ a)), (2, .int (nZ c))] := hl
  refine lv_iload_n hX hB dX6_ifPushed_0 rfl (lv_at hl 1 rfl) ?_
  refine zCallV0 (zRunS X ms_X6_requireLane (c_X6_requireLane l D k _ a ha) zw_89 (zPreS hP hD hK [] rfl rfl) rfl hl (Nat.le_of_ble_eq_true rfl) dX6_ifPushed_1 ⟨rfl, rfl, ⟨Nat.le_of_ble_eq_true rfl, Nat.le_of_ble_eq_true rfl⟩, Nat.le_of_ble_eq_true rfl, Nat.le_of_ble_eq_true rfl⟩ rfl) hS hP hD hA [] rfl (fun _ => rfl) (fun u_1 H locs hq_1 hP hD hS => ?_)
  have hP : va_P D vwCl [(h, .inr (6, [.ref o, .ref sl, .ref sv, .ref tx, .ref sh, .ref ld, .ref cc]))] H := hP
  have hD : va_D A [(h, .inr (6, [.ref o, .ref sl, .ref sv, .ref tx, .ref sh, .ref ld, .ref cc]))] := hD
  refine lv_iload_n hX hB dX6_ifPushed_4 rfl (lv_at hl 2 rfl) ?_
  exact zCallT X hxt hxT hxZ ms_X6_requireStrength (c_X6_requireStrength_x l D k _ c hst hzc hb) zw_94 hP hD hS hA rfl hl (Nat.le_of_ble_eq_true rfl) dX6_ifPushed_5 ⟨rfl, rfl, ⟨Nat.le_of_ble_eq_true rfl, Nat.le_of_ble_eq_true rfl⟩, Nat.le_of_ble_eq_true rfl, Nat.le_of_ble_eq_true rfl⟩ rfl
set_option maxHeartbeats 4000000 in
set_option maxRecDepth 100000 in
theorem c_X6_strengthFor_e1a (l : Launch) (D : va_G) (k : Nat → ClassId) (sz : Nat) (h o sl sv tx sh ld cc : Nat) (a c : Int) (hst : l.stackTraces = false) (hza : zR a) (hzc : zR c) (hb : a < 0 ∨ 2 < a) : vx_Met l yX6_strengthFor (zW yX6_strengthFor cX6_strengthFor 5 (some .int)) ({ frames := 7, cells := 1, slots := 6, locals := 110 } : Room) (va_Pc [.ref h, .int (nZ a), .int (nZ c)] (zInT D k sz [(h, .inr (6, [.ref o, .ref sl, .ref sv, .ref tx, .ref sh, .ref ld, .ref cc]))])) (va_Qi (fun (_ : Int32) (_ : Unit) => False) (fun (_ : Unit) (_ : State) => True) (va_A [(h, .inr (6, [.ref o, .ref sl, .ref sv, .ref tx, .ref sh, .ref ld, .ref cc]))] sz)) (zXC D zIO [(h, .inr (6, [.ref o, .ref sl, .ref sv, .ref tx, .ref sh, .ref ld, .ref cc]))] (va_A [(h, .inr (6, [.ref o, .ref sl, .ref sv, .ref tx, .ref sh, .ref ld, .ref cc]))] sz)) 1 6 (va_A [(h, .inr (6, [.ref o, .ref sl, .ref sv, .ref tx, .ref sh, .ref ld, .ref cc]))] sz) := by
  refine zEnterX (Qf := fun A => va_Qi (fun (_ : Int32) (_ : Unit) => False) (fun (_ : Unit) (_ : State) => True) A) (XC := fun A => zXC D zIO [(h, .inr (6, [.ref o, .ref sl, .ref sv, .ref tx, .ref sh, .ref ld, .ref cc]))] A) RX6 (by decide) rfl (Nat.le_of_ble_eq_true rfl) ?_
  intro p9 e9 s9 m9 be9 me9 c9 ls A X hxt hxT hxZ hP hD hS hA hAe hl
  have hX := X.1; have hB := X.2.1; have hz := X.2.2.2.2.1; have hW := X.2.2.2.2.2.1; have hK := X.2.2.2.2.2.2.2; clear hAe
  have hl : lv_has ls 5 [(0, .ref h), (1, .int (nZ a)), (2, .int (nZ c))] := hl
  refine lv_iload_n hX hB dX6_strengthFor_0 rfl (lv_at hl 1 rfl) ?_
  exact zCallT X hxt hxT hxZ ms_X6_requireLane (c_X6_requireLane_x l D k _ a hst hza hb) zw_89 hP hD hS hA rfl hl (Nat.le_of_ble_eq_true rfl) dX6_strengthFor_1 ⟨rfl, rfl, ⟨Nat.le_of_ble_eq_true rfl, Nat.le_of_ble_eq_true rfl⟩, Nat.le_of_ble_eq_true rfl, Nat.le_of_ble_eq_true rfl⟩ rfl
set_option maxHeartbeats 4000000 in
set_option maxRecDepth 100000 in
theorem c_X6_strengthFor_e1b (l : Launch) (D : va_G) (k : Nat → ClassId) (sz : Nat) (h o sl sv tx sh ld cc : Nat) (a c : Int) (hst : l.stackTraces = false) (hza : zR a) (hzc : zR c) (ha : 0 ≤ a ∧ a ≤ 2) (hb : c < 0 ∨ 8 < c) : vx_Met l yX6_strengthFor (zW yX6_strengthFor cX6_strengthFor 5 (some .int)) ({ frames := 7, cells := 1, slots := 6, locals := 110 } : Room) (va_Pc [.ref h, .int (nZ a), .int (nZ c)] (zInT D k sz [(h, .inr (6, [.ref o, .ref sl, .ref sv, .ref tx, .ref sh, .ref ld, .ref cc]))])) (va_Qi (fun (_ : Int32) (_ : Unit) => False) (fun (_ : Unit) (_ : State) => True) (va_A [(h, .inr (6, [.ref o, .ref sl, .ref sv, .ref tx, .ref sh, .ref ld, .ref cc]))] sz)) (zXC D zIO [(h, .inr (6, [.ref o, .ref sl, .ref sv, .ref tx, .ref sh, .ref ld, .ref cc]))] (va_A [(h, .inr (6, [.ref o, .ref sl, .ref sv, .ref tx, .ref sh, .ref ld, .ref cc]))] sz)) 1 6 (va_A [(h, .inr (6, [.ref o, .ref sl, .ref sv, .ref tx, .ref sh, .ref ld, .ref cc]))] sz) := by
  refine zEnterX (Qf := fun A => va_Qi (fun (_ : Int32) (_ : Unit) => False) (fun (_ : Unit) (_ : State) => True) A) (XC := fun A => zXC D zIO [(h, .inr (6, [.ref o, .ref sl, .ref sv, .ref tx, .ref sh, .ref ld, .ref cc]))] A) RX6 (by decide) rfl (Nat.le_of_ble_eq_true rfl) ?_
  intro p9 e9 s9 m9 be9 me9 c9 ls A X hxt hxT hxZ hP hD hS hA hAe hl
  have hX := X.1; have hB := X.2.1; have hz := X.2.2.2.2.1; have hW := X.2.2.2.2.2.1; have hK := X.2.2.2.2.2.2.2; clear hAe
  have hl : lv_has ls 5 [(0, .ref h), (1, .int (nZ a)), (2, .int (nZ c))] := hl
  refine lv_iload_n hX hB dX6_strengthFor_0 rfl (lv_at hl 1 rfl) ?_
  refine zCallV0 (zRunS X ms_X6_requireLane (c_X6_requireLane l D k _ a ha) zw_89 (zPreS hP hD hK [] rfl rfl) rfl hl (Nat.le_of_ble_eq_true rfl) dX6_strengthFor_1 ⟨rfl, rfl, ⟨Nat.le_of_ble_eq_true rfl, Nat.le_of_ble_eq_true rfl⟩, Nat.le_of_ble_eq_true rfl, Nat.le_of_ble_eq_true rfl⟩ rfl) hS hP hD hA [] rfl (fun _ => rfl) (fun u_1 H locs hq_1 hP hD hS => ?_)
  have hP : va_P D vwCl [(h, .inr (6, [.ref o, .ref sl, .ref sv, .ref tx, .ref sh, .ref ld, .ref cc]))] H := hP
  have hD : va_D A [(h, .inr (6, [.ref o, .ref sl, .ref sv, .ref tx, .ref sh, .ref ld, .ref cc]))] := hD
  refine lv_iload_n hX hB dX6_strengthFor_4 rfl (lv_at hl 2 rfl) ?_
  exact zCallT X hxt hxT hxZ ms_X6_requireBed (c_X6_requireBed_x l D k _ c hst hzc hb) zw_527 hP hD hS hA rfl hl (Nat.le_of_ble_eq_true rfl) dX6_strengthFor_5 ⟨rfl, rfl, ⟨Nat.le_of_ble_eq_true rfl, Nat.le_of_ble_eq_true rfl⟩, Nat.le_of_ble_eq_true rfl, Nat.le_of_ble_eq_true rfl⟩ rfl
