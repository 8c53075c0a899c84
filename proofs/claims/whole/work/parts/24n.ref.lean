theorem mv_X7_error : zMV yX7_error cX7_error 1 (some .int) 0 := ⟨zw_408, zw_5, ⟨by decide +kernel, by decide +kernel, by decide +kernel⟩, zw_406, zw_407⟩
theorem mv_X7_firstError : zMV yX7_firstError cX7_firstError 2 (some .int) 0 := ⟨zw_404, zw_5, ⟨by decide +kernel, by decide +kernel, by decide +kernel⟩, zw_402, zw_403⟩
theorem mv_X7_clearBuffer : zMV yX7_clearBuffer cX7_clearBuffer 2 (some .int) 0 := ⟨zw_383, zw_5, ⟨by decide +kernel, by decide +kernel, by decide +kernel⟩, zw_381, zw_382⟩
theorem mv_X7_append : zMV yX7_append cX7_append 2 (some .int) 1 := ⟨zw_371, zw_5, ⟨by decide +kernel, by decide +kernel, by decide +kernel⟩, zw_369, zw_370⟩
set_option maxHeartbeats 4000000 in
set_option maxRecDepth 100000 in
theorem c_X7_error (l : Launch) (D : va_G) (k : Nat → ClassId) (sz : Nat) (mm ms mk mb : Nat) (vsv vty vth ven vsp vla vpc : Int) (bf : Nat → Int) (T : List Int) (hT : textOk bf vty T) : Met l yX7_error (zW yX7_error cX7_error 1 (some .int)) ({ frames := 4, cells := 0, slots := 0, locals := 86 } : Room) (va_Pc [.ref mm] (zIn D k sz [(mm, .inr (7, [.ref ms, .int (nZ vsv), .ref mk, .ref mb, .int (nZ vty), .int (nZ vth), .int (nZ ven), .int (nZ vsp), .int (nZ vla), .int (nZ vpc)])), (mb, .inl (k 2, 60, .inl (zA bf)))])) (va_Qi (fun (rz : Int32) (uz : Nat × Int × Int) => rz = nZ (if wholeS T then (-1) else (↑(errS 0 T) : Int))) (fun (uz : Nat × Int × Int) => zOut D (va_A [(mm, .inr (7, [.ref ms, .int (nZ vsv), .ref mk, .ref mb, .int (nZ vty), .int (nZ vth), .int (nZ ven), .int (nZ vsp), .int (nZ vla), .int (nZ vpc)])), (mb, .inl (k 2, 60, .inl (zA bf)))] sz) [(mm, .inr (7, [.ref ms, .int (nZ vsv), .ref mk, .ref mb, .int (nZ vty), .int (nZ vth), .int (nZ ven), .int (nZ ↑uz.1), .int (nZ uz.2.1), .int (nZ uz.2.2)])), (mb, .inl (k 2, 60, .inl (zA bf)))]) (va_A [(mm, .inr (7, [.ref ms, .int (nZ vsv), .ref mk, .ref mb, .int (nZ vty), .int (nZ vth), .int (nZ ven), .int (nZ vsp), .int (nZ vla), .int (nZ vpc)])), (mb, .inl (k 2, 60, .inl (zA bf)))] sz)) 0 0 (va_A [(mm, .inr (7, [.ref ms, .int (nZ vsv), .ref mk, .ref mb, .int (nZ vty), .int (nZ vth), .int (nZ ven), .int (nZ vsp), .int (nZ vla), .int (nZ vpc)])), (mb, .inl (k 2, 60, .inl (zA bf)))] sz) := by
  refine zEnter (Qf := fun A => va_Qi (fun (rz : Int32) (uz : Nat × Int × Int) => rz = nZ (if wholeS T then (-1) else (↑(errS 0 T) : Int))) (fun (uz : Nat × Int × Int) => zOut D A [(mm, .inr (7, [.ref ms, .int (nZ vsv), .ref mk, .ref mb, .int (nZ vty), .int (nZ vth), .int (nZ ven), .int (nZ ↑uz.1), .int (nZ uz.2.1), .int (nZ uz.2.2)])), (mb, .inl (k 2, 60, .inl (zA bf)))]) A) RX7 (by decide) rfl (Nat.le_of_ble_eq_true rfl) ?_
  intro p9 e9 s9 m9 be9 me9 c9 ls A X hin hP hD hS hA hAe hl
  have hX := X.1; have hB := X.2.1; have hz := X.2.2.2.2.1; have hW := X.2.2.2.2.2.1; have hK := X.2.2.2.2.2.2.2; clear hAe
  clear hin
  have hl : lv_has ls 1 [(0, .ref mm)] := hl
  obtain ⟨hn9, hlen9⟩ := hT.len
  refine lv_aload_n hX hB dX7_error_0 rfl (lv_at hl 0 rfl) ?_
  refine lv_iconst (v := nZ 0) hX hB dX7_error_1 rfl ?_
  refine va_put (v := .int (nZ 0)) (ty := tyX7 7) hX hB hz inlX7 tyX7 tyX7_ok nmX7 hW hK.1 hP hD hS 0 rfl rfl 7 (by decide) (hz _ zw_409) (fun _ h9 => h9) rfl (by decide +kernel) rfl rfl (Nat.le_of_ble_eq_true rfl) dX7_error_2 (fun H locs hP hD hS => ?_)
  have hP : va_P D vwCl [(mm, .inr (7, [.ref ms, .int (nZ vsv), .ref mk, .ref mb, .int (nZ vty), .int (nZ vth), .int (nZ ven), .int (nZ 0), .int (nZ vla), .int (nZ vpc)])), (mb, .inl (k 2, 60, .inl (zA bf)))] H := hP
  have hD : va_D A [(mm, .inr (7, [.ref ms, .int (nZ vsv), .ref mk, .ref mb, .int (nZ vty), .int (nZ vth), .int (nZ ven), .int (nZ 0), .int (nZ vla), .int (nZ vpc)])), (mb, .inl (k 2, 60, .inl (zA bf)))] := hD
  refine zLoop (σ := Nat × Int × Int) (fun (x : Nat × Int × Int) (H : Heap) (locs : List Loc) (ls : Array Slot) => match x with | (i, la, pl) => (rdAt T i) ∧ va_P D vwCl [(mm, .inr (7, [.ref ms, .int (nZ vsv), .ref mk, .ref mb, .int (nZ vty), .int (nZ vth), .int (nZ ven), .int (nZ ↑i), .int (nZ la), .int (nZ pl)])), (mb, .inl (k 2, 60, .inl (zA bf)))] H ∧ va_D A [(mm, .inr (7, [.ref ms, .int (nZ vsv), .ref mk, .ref mb, .int (nZ vty), .int (nZ vth), .int (nZ ven), .int (nZ ↑i), .int (nZ la), .int (nZ pl)])), (mb, .inl (k 2, 60, .inl (zA bf)))] ∧ va_S A s9.heap H locs ∧ lv_has ls 1 [(0, .ref mm)]) (fun (x : Nat × Int × Int) => match x with | (i, la, pl) => T.length + 1 - i) ?_ (0, vla, vpc) ⟨(by exact rdAt_0 T), hP, hD, hS, (lv_sub hl [0] rfl)⟩
  rintro ⟨i, la, pl⟩ H locs ls ⟨hAt, hP, hD, hS, hl⟩ ih_5
  have hle := hAt.1
  refine lv_aload_n hX hB dX7_error_5 rfl (lv_at hl 0 rfl) ?_
  refine zCallI0 (zRunV (As := []) X mv_X7_readsCoin (c_X7_readsCoin l D k _ mm ms mk mb vsv vty vth ven la pl bf T i hT (by first | assumption | omega | exact ⟨by omega, by omega⟩)) zw_410 (zPreV hP hD hK [0, 1] rfl rfl 0 7 rfl rfl rfl) rfl hl (Nat.le_of_ble_eq_true rfl) dX7_error_6 ⟨rfl, rfl, ⟨Nat.le_of_ble_eq_true rfl, Nat.le_of_ble_eq_true rfl⟩, Nat.le_of_ble_eq_true rfl, Nat.le_of_ble_eq_true rfl⟩ rfl) hS hP hD hA [0, 1] rfl (fun _ => rfl) (fun r_6 u_6 H locs hq_6 hP hD hS => ?_)
  obtain ⟨rd_6, sp2_6, la2_6, pl2_6⟩ := u_6
  obtain ⟨rfl, hh_6, hrd_6⟩ := hq_6
  try dsimp only at hh_6 hrd_6
  have hP : va_P D vwCl [(mm, .inr (7, [.ref ms, .int (nZ vsv), .ref mk, .ref mb, .int (nZ vty), .int (nZ vth), .int (nZ ven), .int (nZ ↑sp2_6), .int (nZ la2_6), .int (nZ pl2_6)])), (mb, .inl (k 2, 60, .inl (zA bf)))] H := hP
  have hD : va_D A [(mm, .inr (7, [.ref ms, .int (nZ vsv), .ref mk, .ref mb, .int (nZ vty), .int (nZ vth), .int (nZ ven), .int (nZ ↑sp2_6), .int (nZ la2_6), .int (nZ pl2_6)])), (mb, .inl (k 2, 60, .inl (zA bf)))] := hD
  refine zz_if_eq X (tgt := 39) dX7_error_9 (by decide) ⟨by omega, by omega⟩ (fun c_9 => ?_) (fun c_9 => ?_)
  · refine lv_aload_n hX hB dX7_error_39 rfl (lv_at hl 0 rfl) ?_
    refine va_get hX hB hz inlX7 hW hK.1 hP 0 rfl rfl 7 (by decide) (hz _ zw_409) (fun _ h9 => h9) rfl dX7_error_40 ?_
    exact zRetI (sp2_6, la2_6, pl2_6) X hP hD hS rfl (by have h9 := rdAt_no hAt hh_6 (by omega); rw [if_neg h9.2, h9.1]) dX7_error_43
  · have hs8 := rdOk_lt hh_6 c_9
    refine lv_aload_n hX hB dX7_error_12 rfl (lv_at hl 0 rfl) ?_
    refine va_get hX hB hz inlX7 hW hK.1 hP 0 rfl rfl 7 (by decide) (hz _ zw_409) (fun _ h9 => h9) rfl dX7_error_13 ?_
    refine lv_aload_n hX hB dX7_error_16 rfl (lv_at hl 0 rfl) ?_
    refine va_get hX hB hz inlX7 hW hK.1 hP 0 rfl rfl 4 (by decide) (hz _ zw_372) (fun _ h9 => h9) rfl dX7_error_17 ?_
    refine zz_icmp_ne X (tgt := 25) dX7_error_20 (by decide) ⟨by omega, by omega⟩ ⟨by omega, by omega⟩ (fun c_20 => ?_) (fun c_20 => ?_)
    · refine lv_aload_n hX hB dX7_error_25 rfl (lv_at hl 0 rfl) ?_
      refine lv_bipush (v := nZ 59) hX hB dX7_error_26 (by decide) ?_
      refine zCallI0 (zRunV (As := [.int (nZ 59)]) X mv_X7_takes (c_X7_takes l D k _ mm ms mk mb vsv vty vth ven la2_6 pl2_6 bf T sp2_6 59 hT (by first | assumption | omega | exact ⟨by omega, by omega⟩) (by first | assumption | omega | exact ⟨by omega, by omega⟩)) zw_420 (zPreV hP hD hK [0, 1] rfl rfl 0 7 rfl rfl rfl) rfl hl (Nat.le_of_ble_eq_true rfl) dX7_error_28 ⟨rfl, rfl, ⟨Nat.le_of_ble_eq_true rfl, Nat.le_of_ble_eq_true rfl⟩, Nat.le_of_ble_eq_true rfl, Nat.le_of_ble_eq_true rfl⟩ rfl) hS hP hD hA [0, 1] rfl (fun _ => rfl) (fun r_28 u_28 H locs hq_28 hP hD hS => ?_)
      obtain ⟨rd_28, i2_28⟩ := u_28
      obtain ⟨rfl, hh_28⟩ := hq_28
      try dsimp only at hh_28
      have hP : va_P D vwCl [(mm, .inr (7, [.ref ms, .int (nZ vsv), .ref mk, .ref mb, .int (nZ vty), .int (nZ vth), .int (nZ ven), .int (nZ ↑i2_28), .int (nZ la2_6), .int (nZ pl2_6)])), (mb, .inl (k 2, 60, .inl (zA bf)))] H := hP
      have hD : va_D A [(mm, .inr (7, [.ref ms, .int (nZ vsv), .ref mk, .ref mb, .int (nZ vty), .int (nZ vth), .int (nZ ven), .int (nZ ↑i2_28), .int (nZ la2_6), .int (nZ pl2_6)])), (mb, .inl (k 2, 60, .inl (zA bf)))] := hD
      refine zz_if_ne X (tgt := 5) dX7_error_31 (by decide) ⟨by omega, by omega⟩ (fun c_31 => ?_) (fun c_31 => ?_)
      · exact ih_5 (i2_28, la2_6, pl2_6) _ _ _ ⟨(by have h9 : i2_28 = sp2_6 + 1 := (by omega); rw [h9]; exact rdAt_go hAt hh_6 c_9 (by omega)), hP, hD, hS, (lv_sub hl [0] rfl)⟩ (by dsimp only; omega)
      · refine lv_aload_n hX hB dX7_error_34 rfl (lv_at hl 0 rfl) ?_
        refine va_get hX hB hz inlX7 hW hK.1 hP 0 rfl rfl 7 (by decide) (hz _ zw_409) (fun _ h9 => h9) rfl dX7_error_35 ?_
        exact zRetI (i2_28, la2_6, pl2_6) X hP hD hS rfl (by have h9 := rdAt_bad hAt hh_6 c_9 (by omega) (by omega); rw [if_neg h9.2, h9.1]; congr 1; omega) dX7_error_38
    · refine lv_iconst (v := nZ (-1)) hX hB dX7_error_23 rfl ?_
      exact zRetI (sp2_6, la2_6, pl2_6) X hP hD hS rfl (by rw [if_pos (rdAt_end hAt hh_6 c_9 (by omega)).1]) dX7_error_24
set_option maxHeartbeats 4000000 in
set_option maxRecDepth 100000 in
theorem c_X7_firstError (l : Launch) (D : va_G) (k : Nat → ClassId) (sz : Nat) (mm ms mk mb : Nat) (vsv vty vth ven vsp vla vpc : Int) (bf : Nat → Int) (T : List Int) (hT : textOk bf vty T) : Met l yX7_firstError (zW yX7_firstError cX7_firstError 2 (some .int)) ({ frames := 5, cells := 0, slots := 0, locals := 106 } : Room) (va_Pc [.ref mm] (zIn D k sz [(mm, .inr (7, [.ref ms, .int (nZ vsv), .ref mk, .ref mb, .int (nZ vty), .int (nZ vth), .int (nZ ven), .int (nZ vsp), .int (nZ vla), .int (nZ vpc)])), (mb, .inl (k 2, 60, .inl (zA bf)))])) (va_Qi (fun (rz : Int32) (uz : Nat × Int × Int) => rz = nZ (↑(errS 0 T) : Int)) (fun (uz : Nat × Int × Int) => zOut D (va_A [(mm, .inr (7, [.ref ms, .int (nZ vsv), .ref mk, .ref mb, .int (nZ vty), .int (nZ vth), .int (nZ ven), .int (nZ vsp), .int (nZ vla), .int (nZ vpc)])), (mb, .inl (k 2, 60, .inl (zA bf)))] sz) [(mm, .inr (7, [.ref ms, .int (nZ vsv), .ref mk, .ref mb, .int (nZ vty), .int (nZ 0), .int (nZ ven), .int (nZ ↑uz.1), .int (nZ uz.2.1), .int (nZ uz.2.2)])), (mb, .inl (k 2, 60, .inl (zA bf)))]) (va_A [(mm, .inr (7, [.ref ms, .int (nZ vsv), .ref mk, .ref mb, .int (nZ vty), .int (nZ vth), .int (nZ ven), .int (nZ vsp), .int (nZ vla), .int (nZ vpc)])), (mb, .inl (k 2, 60, .inl (zA bf)))] sz)) 0 0 (va_A [(mm, .inr (7, [.ref ms, .int (nZ vsv), .ref mk, .ref mb, .int (nZ vty), .int (nZ vth), .int (nZ ven), .int (nZ vsp), .int (nZ vla), .int (nZ vpc)])), (mb, .inl (k 2, 60, .inl (zA bf)))] sz) := by
  refine zEnter (Qf := fun A => va_Qi (fun (rz : Int32) (uz : Nat × Int × Int) => rz = nZ (↑(errS 0 T) : Int)) (fun (uz : Nat × Int × Int) => zOut D A [(mm, .inr (7, [.ref ms, .int (nZ vsv), .ref mk, .ref mb, .int (nZ vty), .int (nZ 0), .int (nZ ven), .int (nZ ↑uz.1), .int (nZ uz.2.1), .int (nZ uz.2.2)])), (mb, .inl (k 2, 60, .inl (zA bf)))]) A) RX7 (by decide) rfl (Nat.le_of_ble_eq_true rfl) ?_
  intro p9 e9 s9 m9 be9 me9 c9 ls A X hin hP hD hS hA hAe hl
  have hX := X.1; have hB := X.2.1; have hz := X.2.2.2.2.1; have hW := X.2.2.2.2.2.1; have hK := X.2.2.2.2.2.2.2; clear hAe
  clear hin
  have hl : lv_has ls 2 [(0, .ref mm)] := hl
  obtain ⟨hn9, hlen9⟩ := hT.len
  have hel := errS_le T
  refine lv_aload_n hX hB dX7_firstError_0 rfl (lv_at hl 0 rfl) ?_
  refine lv_iconst (v := nZ 0) hX hB dX7_firstError_1 rfl ?_
  refine va_put (v := .int (nZ 0)) (ty := tyX7 5) hX hB hz inlX7 tyX7 tyX7_ok nmX7 hW hK.1 hP hD hS 0 rfl rfl 5 (by decide) (hz _ zw_249) (fun _ h9 => h9) rfl (by decide +kernel) rfl rfl (Nat.le_of_ble_eq_true rfl) dX7_firstError_2 (fun H locs hP hD hS => ?_)
  have hP : va_P D vwCl [(mm, .inr (7, [.ref ms, .int (nZ vsv), .ref mk, .ref mb, .int (nZ vty), .int (nZ 0), .int (nZ ven), .int (nZ vsp), .int (nZ vla), .int (nZ vpc)])), (mb, .inl (k 2, 60, .inl (zA bf)))] H := hP
  have hD : va_D A [(mm, .inr (7, [.ref ms, .int (nZ vsv), .ref mk, .ref mb, .int (nZ vty), .int (nZ 0), .int (nZ ven), .int (nZ vsp), .int (nZ vla), .int (nZ vpc)])), (mb, .inl (k 2, 60, .inl (zA bf)))] := hD
  refine lv_aload_n hX hB dX7_firstError_5 rfl (lv_at hl 0 rfl) ?_
  refine zCallI0 (zRunV (As := []) X mv_X7_error (c_X7_error l D k _ mm ms mk mb vsv vty 0 ven vsp vla vpc bf T hT) zw_405 (zPreV hP hD hK [0, 1] rfl rfl 0 7 rfl rfl rfl) rfl hl (Nat.le_of_ble_eq_true rfl) dX7_firstError_6 ⟨rfl, rfl, ⟨Nat.le_of_ble_eq_true rfl, Nat.le_of_ble_eq_true rfl⟩, Nat.le_of_ble_eq_true rfl, Nat.le_of_ble_eq_true rfl⟩ rfl) hS hP hD hA [0, 1] rfl (fun _ => rfl) (fun r_6 u_6 H locs hq_6 hP hD hS => ?_)
  obtain ⟨sp2_6, la2_6, pl2_6⟩ := u_6
  subst hq_6
  have hP : va_P D vwCl [(mm, .inr (7, [.ref ms, .int (nZ vsv), .ref mk, .ref mb, .int (nZ vty), .int (nZ 0), .int (nZ ven), .int (nZ ↑sp2_6), .int (nZ la2_6), .int (nZ pl2_6)])), (mb, .inl (k 2, 60, .inl (zA bf)))] H := hP
  have hD : va_D A [(mm, .inr (7, [.ref ms, .int (nZ vsv), .ref mk, .ref mb, .int (nZ vty), .int (nZ 0), .int (nZ ven), .int (nZ ↑sp2_6), .int (nZ la2_6), .int (nZ pl2_6)])), (mb, .inl (k 2, 60, .inl (zA bf)))] := hD
  refine lv_istore_n (lv' := [(1, .int (nZ (if wholeS T then (-1) else (↑(errS 0 T) : Int)))), (0, .ref mm)]) hX hB dX7_firstError_9 rfl hl (by decide) rfl (fun ls hl => ?_)
  refine lv_iload_n hX hB dX7_firstError_10 rfl (lv_at hl 0 rfl) ?_
  refine lv_iconst (v := nZ (-1)) hX hB dX7_firstError_11 rfl ?_
  refine zz_icmp_ne X (tgt := 22) dX7_firstError_12 (by decide) ⟨by (first | omega | (split <;> omega)), by (first | omega | (split <;> omega))⟩ ⟨by (first | omega | (split <;> omega)), by (first | omega | (split <;> omega))⟩ (fun c_12 => ?_) (fun c_12 => ?_)
  · refine lv_iload_n hX hB dX7_firstError_22 rfl (lv_at hl 0 rfl) ?_
    exact zRetI (sp2_6, la2_6, pl2_6) X hP hD hS rfl (by congr 1; by_cases hw9 : wholeS T; { first | (rw [hn9, errS_whole hw9]) | (exfalso; rw [if_pos hw9] at c_12; exact c_12 rfl) }; { first | rw [if_neg hw9] | (exfalso; rw [if_neg hw9] at c_12; omega) }) dX7_firstError_23
  · refine lv_aload_n hX hB dX7_firstError_15 rfl (lv_at hl 1 rfl) ?_
    refine va_get hX hB hz inlX7 hW hK.1 hP 0 rfl rfl 4 (by decide) (hz _ zw_372) (fun _ h9 => h9) rfl dX7_firstError_16 ?_
    refine lv_goto (tgt := 23) hX hB dX7_firstError_19 (by decide) ?_
    exact zRetI (sp2_6, la2_6, pl2_6) X hP hD hS rfl (by congr 1; by_cases hw9 : wholeS T; { first | (rw [hn9, errS_whole hw9]) | (exfalso; rw [if_pos hw9] at c_12; exact c_12 rfl) }; { first | rw [if_neg hw9] | (exfalso; rw [if_neg hw9] at c_12; omega) }) dX7_firstError_23
set_option maxHeartbeats 4000000 in
set_option maxRecDepth 100000 in
theorem c_X7_clearBuffer (l : Launch) (D : va_G) (k : Nat → ClassId) (sz : Nat) (mm ms mk mb : Nat) (vsv vty vth ven vsp vla vpc : Int) (bf : Nat → Int) (T : List Int) (hT : textOk bf vty T) : Met l yX7_clearBuffer (zW yX7_clearBuffer cX7_clearBuffer 2 (some .int)) ({ frames := 0, cells := 0, slots := 0, locals := 0 } : Room) (va_Pc [.ref mm] (zIn D k sz [(mm, .inr (7, [.ref ms, .int (nZ vsv), .ref mk, .ref mb, .int (nZ vty), .int (nZ vth), .int (nZ ven), .int (nZ vsp), .int (nZ vla), .int (nZ vpc)])), (mb, .inl (k 2, 60, .inl (zA bf)))])) (va_Qi (fun (rz : Int32) (uz : Unit) => rz = nZ ((T.length : Int))) (fun (uz : Unit) => zOut D (va_A [(mm, .inr (7, [.ref ms, .int (nZ vsv), .ref mk, .ref mb, .int (nZ vty), .int (nZ vth), .int (nZ ven), .int (nZ vsp), .int (nZ vla), .int (nZ vpc)])), (mb, .inl (k 2, 60, .inl (zA bf)))] sz) [(mm, .inr (7, [.ref ms, .int (nZ vsv), .ref mk, .ref mb, .int (nZ 0), .int (nZ 0), .int (nZ ven), .int (nZ vsp), .int (nZ vla), .int (nZ vpc)])), (mb, .inl (k 2, 60, .inl (zA bf)))]) (va_A [(mm, .inr (7, [.ref ms, .int (nZ vsv), .ref mk, .ref mb, .int (nZ vty), .int (nZ vth), .int (nZ ven), .int (nZ vsp), .int (nZ vla), .int (nZ vpc)])), (mb, .inl (k 2, 60, .inl (zA bf)))] sz)) 0 0 (va_A [(mm, .inr (7, [.ref ms, .int (nZ vsv), .ref mk, .ref mb, .int (nZ vty), .int (nZ vth), .int (nZ ven), .int (nZ vsp), .int (nZ vla), .int (nZ vpc)])), (mb, .inl (k 2, 60, .inl (zA bf)))] sz) := by
  refine zEnter (Qf := fun A => va_Qi (fun (rz : Int32) (uz : Unit) => rz = nZ ((T.length : Int))) (fun (uz : Unit) => zOut D A [(mm, .inr (7, [.ref ms, .int (nZ vsv), .ref mk, .ref mb, .int (nZ 0), .int (nZ 0), .int (nZ ven), .int (nZ vsp), .int (nZ vla), .int (nZ vpc)])), (mb, .inl (k 2, 60, .inl (zA bf)))]) A) RX7 (by decide) rfl (Nat.le_of_ble_eq_true rfl) ?_
  intro p9 e9 s9 m9 be9 me9 c9 ls A X hin hP hD hS hA hAe hl
  have hX := X.1; have hB := X.2.1; have hz := X.2.2.2.2.1; have hW := X.2.2.2.2.2.1; have hK := X.2.2.2.2.2.2.2; clear hAe
  clear hin
  have hl : lv_has ls 2 [(0, .ref mm)] := hl
  obtain ⟨hn9, hlen9⟩ := hT.len
  refine lv_aload_n hX hB dX7_clearBuffer_0 rfl (lv_at hl 0 rfl) ?_
  refine lv_iconst (v := nZ 0) hX hB dX7_clearBuffer_1 rfl ?_
  refine va_put (v := .int (nZ 0)) (ty := tyX7 5) hX hB hz inlX7 tyX7 tyX7_ok nmX7 hW hK.1 hP hD hS 0 rfl rfl 5 (by decide) (hz _ zw_249) (fun _ h9 => h9) rfl (by decide +kernel) rfl rfl (Nat.le_of_ble_eq_true rfl) dX7_clearBuffer_2 (fun H locs hP hD hS => ?_)
  have hP : va_P D vwCl [(mm, .inr (7, [.ref ms, .int (nZ vsv), .ref mk, .ref mb, .int (nZ vty), .int (nZ 0), .int (nZ ven), .int (nZ vsp), .int (nZ vla), .int (nZ vpc)])), (mb, .inl (k 2, 60, .inl (zA bf)))] H := hP
  have hD : va_D A [(mm, .inr (7, [.ref ms, .int (nZ vsv), .ref mk, .ref mb, .int (nZ vty), .int (nZ 0), .int (nZ ven), .int (nZ vsp), .int (nZ vla), .int (nZ vpc)])), (mb, .inl (k 2, 60, .inl (zA bf)))] := hD
  refine lv_aload_n hX hB dX7_clearBuffer_5 rfl (lv_at hl 0 rfl) ?_
  refine va_get hX hB hz inlX7 hW hK.1 hP 0 rfl rfl 4 (by decide) (hz _ zw_372) (fun _ h9 => h9) rfl dX7_clearBuffer_6 ?_
  refine lv_istore_n (lv' := [(1, .int (nZ vty)), (0, .ref mm)]) hX hB dX7_clearBuffer_9 rfl hl (by decide) rfl (fun ls hl => ?_)
  refine lv_aload_n hX hB dX7_clearBuffer_10 rfl (lv_at hl 1 rfl) ?_
  refine lv_iconst (v := nZ 0) hX hB dX7_clearBuffer_11 rfl ?_
  refine va_put (v := .int (nZ 0)) (ty := tyX7 4) hX hB hz inlX7 tyX7 tyX7_ok nmX7 hW hK.1 hP hD hS 0 rfl rfl 4 (by decide) (hz _ zw_372) (fun _ h9 => h9) rfl (by decide +kernel) rfl rfl (Nat.le_of_ble_eq_true rfl) dX7_clearBuffer_12 (fun H locs hP hD hS => ?_)
  have hP : va_P D vwCl [(mm, .inr (7, [.ref ms, .int (nZ vsv), .ref mk, .ref mb, .int (nZ 0), .int (nZ 0), .int (nZ ven), .int (nZ vsp), .int (nZ vla), .int (nZ vpc)])), (mb, .inl (k 2, 60, .inl (zA bf)))] H := hP
  have hD : va_D A [(mm, .inr (7, [.ref ms, .int (nZ vsv), .ref mk, .ref mb, .int (nZ 0), .int (nZ 0), .int (nZ ven), .int (nZ vsp), .int (nZ vla), .int (nZ vpc)])), (mb, .inl (k 2, 60, .inl (zA bf)))] := hD
  refine lv_iload_n hX hB dX7_clearBuffer_15 rfl (lv_at hl 0 rfl) ?_
  exact zRetI () X hP hD hS rfl (by rw [hn9]) dX7_clearBuffer_16
set_option maxHeartbeats 4000000 in
set_option maxRecDepth 100000 in
theorem c_X7_append (l : Launch) (D : va_G) (k : Nat → ClassId) (sz : Nat) (mm ms mk mb : Nat) (vsv vty vth ven vsp vla vpc : Int) (bf : Nat → Int) (T : List Int) (c : Int) (hT : textOk bf vty T) (hl60 : T.length < 60) (hcc : 33 ≤ c ∧ c ≤ 126) : Met l yX7_append (zW yX7_append cX7_append 2 (some .int)) ({ frames := 1, cells := 0, slots := 0, locals := 22 } : Room) (va_Pc [.ref mm, .int (nZ c)] (zIn D k sz [(mm, .inr (7, [.ref ms, .int (nZ vsv), .ref mk, .ref mb, .int (nZ vty), .int (nZ vth), .int (nZ ven), .int (nZ vsp), .int (nZ vla), .int (nZ vpc)])), (mb, .inl (k 2, 60, .inl (zA bf)))])) (va_Qi (fun (rz : Int32) (uz : Unit) => rz = nZ ((T.length : Int) + 1) ∧ textOk (zU bf T.length c) (vty + 1) (T ++ [c])) (fun (uz : Unit) => zOut D (va_A [(mm, .inr (7, [.ref ms, .int (nZ vsv), .ref mk, .ref mb, .int (nZ vty), .int (nZ vth), .int (nZ ven), .int (nZ vsp), .int (nZ vla), .int (nZ vpc)])), (mb, .inl (k 2, 60, .inl (zA bf)))] sz) [(mm, .inr (7, [.ref ms, .int (nZ vsv), .ref mk, .ref mb, .int (nZ (vty + 1)), .int (nZ 0), .int (nZ ven), .int (nZ vsp), .int (nZ vla), .int (nZ vpc)])), (mb, .inl (k 2, 60, .inl (zA (zU bf T.length c))))]) (va_A [(mm, .inr (7, [.ref ms, .int (nZ vsv), .ref mk, .ref mb, .int (nZ vty), .int (nZ vth), .int (nZ ven), .int (nZ vsp), .int (nZ vla), .int (nZ vpc)])), (mb, .inl (k 2, 60, .inl (zA bf)))] sz)) 0 0 (va_A [(mm, .inr (7, [.ref ms, .int (nZ vsv), .ref mk, .ref mb, .int (nZ vty), .int (nZ vth), .int (nZ ven), .int (nZ vsp), .int (nZ vla), .int (nZ vpc)])), (mb, .inl (k 2, 60, .inl (zA bf)))] sz) := by
  refine zEnter (Qf := fun A => va_Qi (fun (rz : Int32) (uz : Unit) => rz = nZ ((T.length : Int) + 1) ∧ textOk (zU bf T.length c) (vty + 1) (T ++ [c])) (fun (uz : Unit) => zOut D A [(mm, .inr (7, [.ref ms, .int (nZ vsv), .ref mk, .ref mb, .int (nZ (vty + 1)), .int (nZ 0), .int (nZ ven), .int (nZ vsp), .int (nZ vla), .int (nZ vpc)])), (mb, .inl (k 2, 60, .inl (zA (zU bf T.length c))))]) A) RX7 (by decide) rfl (Nat.le_of_ble_eq_true rfl) ?_
  intro p9 e9 s9 m9 be9 me9 c9 ls A X hin hP hD hS hA hAe hl
  have hX := X.1; have hB := X.2.1; have hz := X.2.2.2.2.1; have hW := X.2.2.2.2.2.1; have hK := X.2.2.2.2.2.2.2; clear hAe
  clear hin
  have hl : lv_has ls 2 [(0, .ref mm), (1, .int (nZ c))] := hl
  obtain ⟨hn9, hlen9⟩ := hT.len
  refine lv_aload_n hX hB dX7_append_0 rfl (lv_at hl 0 rfl) ?_
  refine lv_iload_n hX hB dX7_append_1 rfl (lv_at hl 1 rfl) ?_
  refine lv_bipush (v := nZ 33) hX hB dX7_append_2 (by decide) ?_
  refine lv_bipush (v := nZ 126) hX hB dX7_append_4 (by decide) ?_
  refine zCallI0 (zRunS X ms_X7_in (c_X7_in_t l D k _ c 33 126 (by first | assumption | omega | exact ⟨by omega, by omega⟩) (by first | assumption | omega | exact ⟨by omega, by omega⟩) (by first | assumption | omega | exact ⟨by omega, by omega⟩) hcc) zw_239 (zPreS hP hD hK [] rfl rfl) rfl hl (Nat.le_of_ble_eq_true rfl) dX7_append_6 ⟨rfl, rfl, ⟨Nat.le_of_ble_eq_true rfl, Nat.le_of_ble_eq_true rfl⟩, Nat.le_of_ble_eq_true rfl, Nat.le_of_ble_eq_true rfl⟩ rfl) hS hP hD hA [] rfl (fun _ => rfl) (fun r_6 u_6 H locs hq_6 hP hD hS => ?_)
  subst hq_6
  have hP : va_P D vwCl [(mm, .inr (7, [.ref ms, .int (nZ vsv), .ref mk, .ref mb, .int (nZ vty), .int (nZ vth), .int (nZ ven), .int (nZ vsp), .int (nZ vla), .int (nZ vpc)])), (mb, .inl (k 2, 60, .inl (zA bf)))] H := hP
  have hD : va_D A [(mm, .inr (7, [.ref ms, .int (nZ vsv), .ref mk, .ref mb, .int (nZ vty), .int (nZ vth), .int (nZ ven), .int (nZ vsp), .int (nZ vla), .int (nZ vpc)])), (mb, .inl (k 2, 60, .inl (zA bf)))] := hD
  refine lv_aload_n hX hB dX7_append_9 rfl (lv_at hl 0 rfl) ?_
  refine va_get hX hB hz inlX7 hW hK.1 hP 0 rfl rfl 4 (by decide) (hz _ zw_372) (fun _ h9 => h9) rfl dX7_append_10 ?_
  refine lv_bipush (v := nZ 60) hX hB dX7_append_13 (by decide) ?_
  refine zz_icmp_ge X (tgt := 22) dX7_append_15 (by decide) ⟨by omega, by omega⟩ ⟨by omega, by omega⟩ (fun c_15 => ?_) (fun c_15 => ?_)
  · exfalso; omega
  · refine lv_iconst (v := nZ 1) hX hB dX7_append_18 rfl ?_
    refine lv_goto (tgt := 23) hX hB dX7_append_19 (by decide) ?_
    refine zCallI0 (zRunV (As := [.int (nZ 1), .int (nZ 1)]) X mv_X7_goes (c_X7_goes_11 l D k _ mm ms mk mb vsv vty vth ven vsp vla vpc ) zw_245 (zPreV hP hD hK [0] rfl rfl 0 7 rfl rfl rfl) rfl hl (Nat.le_of_ble_eq_true rfl) dX7_append_23 ⟨rfl, rfl, ⟨Nat.le_of_ble_eq_true rfl, Nat.le_of_ble_eq_true rfl⟩, Nat.le_of_ble_eq_true rfl, Nat.le_of_ble_eq_true rfl⟩ rfl) hS hP hD hA [0] rfl (fun _ => rfl) (fun r_23 u_23 H locs hq_23 hP hD hS => ?_)
    subst hq_23
    have hP : va_P D vwCl [(mm, .inr (7, [.ref ms, .int (nZ vsv), .ref mk, .ref mb, .int (nZ vty), .int (nZ 0), .int (nZ ven), .int (nZ vsp), .int (nZ vla), .int (nZ vpc)])), (mb, .inl (k 2, 60, .inl (zA bf)))] H := hP
    have hD : va_D A [(mm, .inr (7, [.ref ms, .int (nZ vsv), .ref mk, .ref mb, .int (nZ vty), .int (nZ 0), .int (nZ ven), .int (nZ vsp), .int (nZ vla), .int (nZ vpc)])), (mb, .inl (k 2, 60, .inl (zA bf)))] := hD
    refine zz_if_ne X (tgt := 31) dX7_append_26 (by decide) ⟨by omega, by omega⟩ (fun c_26 => ?_) (fun c_26 => ?_)
    · refine lv_aload_n hX hB dX7_append_31 rfl (lv_at hl 0 rfl) ?_
      refine va_get hX hB hz inlX7 hW hK.1 hP 0 rfl rfl 3 (by decide) (hz _ zw_78) (fun _ h9 => h9) rfl dX7_append_32 ?_
      refine lv_aload_n hX hB dX7_append_35 rfl (lv_at hl 0 rfl) ?_
      refine va_get hX hB hz inlX7 hW hK.1 hP 0 rfl rfl 4 (by decide) (hz _ zw_372) (fun _ h9 => h9) rfl dX7_append_36 ?_
      refine lv_iload_n hX hB dX7_append_39 rfl (lv_at hl 1 rfl) ?_
      refine lv_i2c (v := nZ c) hX hB dX7_append_40 (zi2c ⟨by omega, by omega⟩) ?_
      refine zz_cast X hP hD hS 1 2 rfl rfl T.length (by omega) (by omega) (by first | decide | omega) (by omega) dX7_append_41 (fun H locs hP hD hS => ?_)
      have hP : va_P D vwCl [(mm, .inr (7, [.ref ms, .int (nZ vsv), .ref mk, .ref mb, .int (nZ vty), .int (nZ 0), .int (nZ ven), .int (nZ vsp), .int (nZ vla), .int (nZ vpc)])), (mb, .inl (k 2, 60, .inl (zA (zU bf T.length c))))] H := hP
      have hD : va_D A [(mm, .inr (7, [.ref ms, .int (nZ vsv), .ref mk, .ref mb, .int (nZ vty), .int (nZ 0), .int (nZ ven), .int (nZ vsp), .int (nZ vla), .int (nZ vpc)])), (mb, .inl (k 2, 60, .inl (zA (zU bf T.length c))))] := hD
      refine lv_aload_n hX hB dX7_append_42 rfl (lv_at hl 0 rfl) ?_
      refine lv_dup hX hB dX7_append_43 rfl ?_
      refine va_get hX hB hz inlX7 hW hK.1 hP 0 rfl rfl 4 (by decide) (hz _ zw_372) (fun _ h9 => h9) rfl dX7_append_44 ?_
      refine lv_iconst (v := nZ 1) hX hB dX7_append_47 rfl ?_
      refine zz_iadd X dX7_append_48 (z := (vty + 1)) (by first | rfl | omega) ?_
      refine va_put (v := .int (nZ (vty + 1))) (ty := tyX7 4) hX hB hz inlX7 tyX7 tyX7_ok nmX7 hW hK.1 hP hD hS 0 rfl rfl 4 (by decide) (hz _ zw_372) (fun _ h9 => h9) rfl (by decide +kernel) rfl rfl (Nat.le_of_ble_eq_true rfl) dX7_append_49 (fun H locs hP hD hS => ?_)
      have hP : va_P D vwCl [(mm, .inr (7, [.ref ms, .int (nZ vsv), .ref mk, .ref mb, .int (nZ (vty + 1)), .int (nZ 0), .int (nZ ven), .int (nZ vsp), .int (nZ vla), .int (nZ vpc)])), (mb, .inl (k 2, 60, .inl (zA (zU bf T.length c))))] H := hP
      have hD : va_D A [(mm, .inr (7, [.ref ms, .int (nZ vsv), .ref mk, .ref mb, .int (nZ (vty + 1)), .int (nZ 0), .int (nZ ven), .int (nZ vsp), .int (nZ vla), .int (nZ vpc)])), (mb, .inl (k 2, 60, .inl (zA (zU bf T.length c))))] := hD
      refine lv_aload_n hX hB dX7_append_52 rfl (lv_at hl 0 rfl) ?_
      refine va_get hX hB hz inlX7 hW hK.1 hP 0 rfl rfl 4 (by decide) (hz _ zw_372) (fun _ h9 => h9) rfl dX7_append_53 ?_
      exact zRetI () X hP hD hS rfl ⟨by congr 1; omega, hT.push hl60 hcc⟩ dX7_append_56
    · exfalso; omega
set_option maxHeartbeats 4000000 in
set_option maxRecDepth 100000 in
theorem c_X7_append_e1 (l : Launch) (D : va_G) (k : Nat → ClassId) (sz : Nat) (mm ms mk mb : Nat) (vsv vty vth ven vsp vla vpc : Int) (a : Int) (hza : zR a) (hb : a < 33 ∨ 126 < a) (ht0 : 0 ≤ vty ∧ vty ≤ 60) : Met l yX7_append (zW yX7_append cX7_append 2 (some .int)) ({ frames := 1, cells := 0, slots := 0, locals := 22 } : Room) (va_Pc [.ref mm, .int (nZ a)] (zIn D k sz [(mm, .inr (7, [.ref ms, .int (nZ vsv), .ref mk, .ref mb, .int (nZ vty), .int (nZ vth), .int (nZ ven), .int (nZ vsp), .int (nZ vla), .int (nZ vpc)]))])) (va_Qi (fun (rz : Int32) (uz : Unit) => rz = nZ 0) (fun (uz : Unit) => zOut D (va_A [(mm, .inr (7, [.ref ms, .int (nZ vsv), .ref mk, .ref mb, .int (nZ vty), .int (nZ vth), .int (nZ ven), .int (nZ vsp), .int (nZ vla), .int (nZ vpc)]))] sz) [(mm, .inr (7, [.ref ms, .int (nZ vsv), .ref mk, .ref mb, .int (nZ vty), .int (nZ 1), .int (nZ ven), .int (nZ vsp), .int (nZ vla), .int (nZ vpc)]))]) (va_A [(mm, .inr (7, [.ref ms, .int (nZ vsv), .ref mk, .ref mb, .int (nZ vty), .int (nZ vth), .int (nZ ven), .int (nZ vsp), .int (nZ vla), .int (nZ vpc)]))] sz)) 0 0 (va_A [(mm, .inr (7, [.ref ms, .int (nZ vsv), .ref mk, .ref mb, .int (nZ vty), .int (nZ vth), .int (nZ ven), .int (nZ vsp), .int (nZ vla), .int (nZ vpc)]))] sz) := by
  refine zEnter (Qf := fun A => va_Qi (fun (rz : Int32) (uz : Unit) => rz = nZ 0) (fun (uz : Unit) => zOut D A [(mm, .inr (7, [.ref ms, .int (nZ vsv), .ref mk, .ref mb, .int (nZ vty), .int (nZ 1), .int (nZ ven), .int (nZ vsp), .int (nZ vla), .int (nZ vpc)]))]) A) RX7 (by decide) rfl (Nat.le_of_ble_eq_true rfl) ?_
  intro p9 e9 s9 m9 be9 me9 c9 ls A X hin hP hD hS hA hAe hl
  have hX := X.1; have hB := X.2.1; have hz := X.2.2.2.2.1; have hW := X.2.2.2.2.2.1; have hK := X.2.2.2.2.2.2.2; clear hAe
  clear hin
  have hl : lv_has ls 2 [(0, .ref mm), (1, .int (nZ a))] := hl
  refine lv_aload_n hX hB dX7_append_0 rfl (lv_at hl 0 rfl) ?_
  refine lv_iload_n hX hB dX7_append_1 rfl (lv_at hl 1 rfl) ?_
  refine lv_bipush (v := nZ 33) hX hB dX7_append_2 (by decide) ?_
  refine lv_bipush (v := nZ 126) hX hB dX7_append_4 (by decide) ?_
  refine zCallI0 (zRunS X ms_X7_in (c_X7_in_f l D k _ a 33 126 hza (by first | assumption | omega | exact ⟨by omega, by omega⟩) (by first | assumption | omega | exact ⟨by omega, by omega⟩) hb) zw_239 (zPreS hP hD hK [] rfl rfl) rfl hl (Nat.le_of_ble_eq_true rfl) dX7_append_6 ⟨rfl, rfl, ⟨Nat.le_of_ble_eq_true rfl, Nat.le_of_ble_eq_true rfl⟩, Nat.le_of_ble_eq_true rfl, Nat.le_of_ble_eq_true rfl⟩ rfl) hS hP hD hA [] rfl (fun _ => rfl) (fun r_6 u_6 H locs hq_6 hP hD hS => ?_)
  subst hq_6
  have hP : va_P D vwCl [(mm, .inr (7, [.ref ms, .int (nZ vsv), .ref mk, .ref mb, .int (nZ vty), .int (nZ vth), .int (nZ ven), .int (nZ vsp), .int (nZ vla), .int (nZ vpc)]))] H := hP
  have hD : va_D A [(mm, .inr (7, [.ref ms, .int (nZ vsv), .ref mk, .ref mb, .int (nZ vty), .int (nZ vth), .int (nZ ven), .int (nZ vsp), .int (nZ vla), .int (nZ vpc)]))] := hD
  refine lv_aload_n hX hB dX7_append_9 rfl (lv_at hl 0 rfl) ?_
  refine va_get hX hB hz inlX7 hW hK.1 hP 0 rfl rfl 4 (by decide) (hz _ zw_372) (fun _ h9 => h9) rfl dX7_append_10 ?_
  refine lv_bipush (v := nZ 60) hX hB dX7_append_13 (by decide) ?_
  refine zz_icmp_ge X (tgt := 22) dX7_append_15 (by decide) ⟨by omega, by omega⟩ ⟨by omega, by omega⟩ (fun c_15 => ?_) (fun c_15 => ?_)
  · refine lv_iconst (v := nZ 0) hX hB dX7_append_22 rfl ?_
    refine zCallI0 (zRunV (As := [.int (nZ 0), .int (nZ 0)]) X mv_X7_goes (c_X7_goes_0 l D k _ mm ms mk mb vsv vty vth ven vsp vla vpc 0 ) zw_245 (zPreV hP hD hK [0] rfl rfl 0 7 rfl rfl rfl) rfl hl (Nat.le_of_ble_eq_true rfl) dX7_append_23 ⟨rfl, rfl, ⟨Nat.le_of_ble_eq_true rfl, Nat.le_of_ble_eq_true rfl⟩, Nat.le_of_ble_eq_true rfl, Nat.le_of_ble_eq_true rfl⟩ rfl) hS hP hD hA [0] rfl (fun _ => rfl) (fun r_23 u_23 H locs hq_23 hP hD hS => ?_)
    subst hq_23
    have hP : va_P D vwCl [(mm, .inr (7, [.ref ms, .int (nZ vsv), .ref mk, .ref mb, .int (nZ vty), .int (nZ 1), .int (nZ ven), .int (nZ vsp), .int (nZ vla), .int (nZ vpc)]))] H := hP
    have hD : va_D A [(mm, .inr (7, [.ref ms, .int (nZ vsv), .ref mk, .ref mb, .int (nZ vty), .int (nZ 1), .int (nZ ven), .int (nZ vsp), .int (nZ vla), .int (nZ vpc)]))] := hD
    refine zz_if_ne X (tgt := 31) dX7_append_26 (by decide) ⟨by omega, by omega⟩ (fun c_26 => ?_) (fun c_26 => ?_)
    · exfalso; omega
    · refine lv_iconst (v := nZ 0) hX hB dX7_append_29 rfl ?_
      exact zRetI () X hP hD hS rfl (by first | rfl | (congr 1; omega) | (dsimp only; congr 1; omega)) dX7_append_30
  · refine lv_iconst (v := nZ 1) hX hB dX7_append_18 rfl ?_
    refine lv_goto (tgt := 23) hX hB dX7_append_19 (by decide) ?_
    refine zCallI0 (zRunV (As := [.int (nZ 0), .int (nZ 1)]) X mv_X7_goes (c_X7_goes_0 l D k _ mm ms mk mb vsv vty vth ven vsp vla vpc 1 ) zw_245 (zPreV hP hD hK [0] rfl rfl 0 7 rfl rfl rfl) rfl hl (Nat.le_of_ble_eq_true rfl) dX7_append_23 ⟨rfl, rfl, ⟨Nat.le_of_ble_eq_true rfl, Nat.le_of_ble_eq_true rfl⟩, Nat.le_of_ble_eq_true rfl, Nat.le_of_ble_eq_true rfl⟩ rfl) hS hP hD hA [0] rfl (fun _ => rfl) (fun r_23 u_23 H locs hq_23 hP hD hS => ?_)
    subst hq_23
    have hP : va_P D vwCl [(mm, .inr (7, [.ref ms, .int (nZ vsv), .ref mk, .ref mb, .int (nZ vty), .int (nZ 1), .int (nZ ven), .int (nZ vsp), .int (nZ vla), .int (nZ vpc)]))] H := hP
    have hD : va_D A [(mm, .inr (7, [.ref ms, .int (nZ vsv), .ref mk, .ref mb, .int (nZ vty), .int (nZ 1), .int (nZ ven), .int (nZ vsp), .int (nZ vla), .int (nZ vpc)]))] := hD
    refine zz_if_ne X (tgt := 31) dX7_append_26 (by decide) ⟨by omega, by omega⟩ (fun c_26 => ?_) (fun c_26 => ?_)
    · exfalso; omega
    · refine lv_iconst (v := nZ 0) hX hB dX7_append_29 rfl ?_
      exact zRetI () X hP hD hS rfl (by first | rfl | (congr 1; omega) | (dsimp only; congr 1; omega)) dX7_append_30
set_option maxHeartbeats 4000000 in
set_option maxRecDepth 100000 in
theorem c_X7_append_e2 (l : Launch) (D : va_G) (k : Nat → ClassId) (sz : Nat) (mm ms mk mb : Nat) (vsv vty vth ven vsp vla vpc : Int) (a : Int) (hza : zR a) (ha : 33 ≤ a ∧ a ≤ 126) (ht0 : vty = 60) : Met l yX7_append (zW yX7_append cX7_append 2 (some .int)) ({ frames := 1, cells := 0, slots := 0, locals := 22 } : Room) (va_Pc [.ref mm, .int (nZ a)] (zIn D k sz [(mm, .inr (7, [.ref ms, .int (nZ vsv), .ref mk, .ref mb, .int (nZ vty), .int (nZ vth), .int (nZ ven), .int (nZ vsp), .int (nZ vla), .int (nZ vpc)]))])) (va_Qi (fun (rz : Int32) (uz : Unit) => rz = nZ 0) (fun (uz : Unit) => zOut D (va_A [(mm, .inr (7, [.ref ms, .int (nZ vsv), .ref mk, .ref mb, .int (nZ vty), .int (nZ vth), .int (nZ ven), .int (nZ vsp), .int (nZ vla), .int (nZ vpc)]))] sz) [(mm, .inr (7, [.ref ms, .int (nZ vsv), .ref mk, .ref mb, .int (nZ vty), .int (nZ 2), .int (nZ ven), .int (nZ vsp), .int (nZ vla), .int (nZ vpc)]))]) (va_A [(mm, .inr (7, [.ref ms, .int (nZ vsv), .ref mk, .ref mb, .int (nZ vty), .int (nZ vth), .int (nZ ven), .int (nZ vsp), .int (nZ vla), .int (nZ vpc)]))] sz)) 0 0 (va_A [(mm, .inr (7, [.ref ms, .int (nZ vsv), .ref mk, .ref mb, .int (nZ vty), .int (nZ vth), .int (nZ ven), .int (nZ vsp), .int (nZ vla), .int (nZ vpc)]))] sz) := by
  refine zEnter (Qf := fun A => va_Qi (fun (rz : Int32) (uz : Unit) => rz = nZ 0) (fun (uz : Unit) => zOut D A [(mm, .inr (7, [.ref ms, .int (nZ vsv), .ref mk, .ref mb, .int (nZ vty), .int (nZ 2), .int (nZ ven), .int (nZ vsp), .int (nZ vla), .int (nZ vpc)]))]) A) RX7 (by decide) rfl (Nat.le_of_ble_eq_true rfl) ?_
  intro p9 e9 s9 m9 be9 me9 c9 ls A X hin hP hD hS hA hAe hl
  have hX := X.1; have hB := X.2.1; have hz := X.2.2.2.2.1; have hW := X.2.2.2.2.2.1; have hK := X.2.2.2.2.2.2.2; clear hAe
  clear hin
  have hl : lv_has ls 2 [(0, .ref mm), (1, .int (nZ a))] := hl
  refine lv_aload_n hX hB dX7_append_0 rfl (lv_at hl 0 rfl) ?_
  refine lv_iload_n hX hB dX7_append_1 rfl (lv_at hl 1 rfl) ?_
  refine lv_bipush (v := nZ 33) hX hB dX7_append_2 (by decide) ?_
  refine lv_bipush (v := nZ 126) hX hB dX7_append_4 (by decide) ?_
  refine zCallI0 (zRunS X ms_X7_in (c_X7_in_t l D k _ a 33 126 hza (by first | assumption | omega | exact ⟨by omega, by omega⟩) (by first | assumption | omega | exact ⟨by omega, by omega⟩) ha) zw_239 (zPreS hP hD hK [] rfl rfl) rfl hl (Nat.le_of_ble_eq_true rfl) dX7_append_6 ⟨rfl, rfl, ⟨Nat.le_of_ble_eq_true rfl, Nat.le_of_ble_eq_true rfl⟩, Nat.le_of_ble_eq_true rfl, Nat.le_of_ble_eq_true rfl⟩ rfl) hS hP hD hA [] rfl (fun _ => rfl) (fun r_6 u_6 H locs hq_6 hP hD hS => ?_)
  subst hq_6
  have hP : va_P D vwCl [(mm, .inr (7, [.ref ms, .int (nZ vsv), .ref mk, .ref mb, .int (nZ vty), .int (nZ vth), .int (nZ ven), .int (nZ vsp), .int (nZ vla), .int (nZ vpc)]))] H := hP
  have hD : va_D A [(mm, .inr (7, [.ref ms, .int (nZ vsv), .ref mk, .ref mb, .int (nZ vty), .int (nZ vth), .int (nZ ven), .int (nZ vsp), .int (nZ vla), .int (nZ vpc)]))] := hD
  refine lv_aload_n hX hB dX7_append_9 rfl (lv_at hl 0 rfl) ?_
  refine va_get hX hB hz inlX7 hW hK.1 hP 0 rfl rfl 4 (by decide) (hz _ zw_372) (fun _ h9 => h9) rfl dX7_append_10 ?_
  refine lv_bipush (v := nZ 60) hX hB dX7_append_13 (by decide) ?_
  refine zz_icmp_ge X (tgt := 22) dX7_append_15 (by decide) ⟨by omega, by omega⟩ ⟨by omega, by omega⟩ (fun c_15 => ?_) (fun c_15 => ?_)
  · refine lv_iconst (v := nZ 0) hX hB dX7_append_22 rfl ?_
    refine zCallI0 (zRunV (As := [.int (nZ 1), .int (nZ 0)]) X mv_X7_goes (c_X7_goes_10 l D k _ mm ms mk mb vsv vty vth ven vsp vla vpc ) zw_245 (zPreV hP hD hK [0] rfl rfl 0 7 rfl rfl rfl) rfl hl (Nat.le_of_ble_eq_true rfl) dX7_append_23 ⟨rfl, rfl, ⟨Nat.le_of_ble_eq_true rfl, Nat.le_of_ble_eq_true rfl⟩, Nat.le_of_ble_eq_true rfl, Nat.le_of_ble_eq_true rfl⟩ rfl) hS hP hD hA [0] rfl (fun _ => rfl) (fun r_23 u_23 H locs hq_23 hP hD hS => ?_)
    subst hq_23
    have hP : va_P D vwCl [(mm, .inr (7, [.ref ms, .int (nZ vsv), .ref mk, .ref mb, .int (nZ vty), .int (nZ 2), .int (nZ ven), .int (nZ vsp), .int (nZ vla), .int (nZ vpc)]))] H := hP
    have hD : va_D A [(mm, .inr (7, [.ref ms, .int (nZ vsv), .ref mk, .ref mb, .int (nZ vty), .int (nZ 2), .int (nZ ven), .int (nZ vsp), .int (nZ vla), .int (nZ vpc)]))] := hD
    refine zz_if_ne X (tgt := 31) dX7_append_26 (by decide) ⟨by omega, by omega⟩ (fun c_26 => ?_) (fun c_26 => ?_)
    · exfalso; omega
    · refine lv_iconst (v := nZ 0) hX hB dX7_append_29 rfl ?_
      exact zRetI () X hP hD hS rfl (by first | rfl | (congr 1; omega) | (dsimp only; congr 1; omega)) dX7_append_30
  · exfalso; omega
