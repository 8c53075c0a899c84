theorem mv_X7_keep : zMV yX7_keep cX7_keep 2 (some .int) 1 := ⟨zw_480, zw_5, ⟨by decide +kernel, by decide +kernel, by decide +kernel⟩, zw_478, zw_479⟩
theorem mv_X7_goBack : zMV yX7_goBack cX7_goBack 2 (some .int) 1 := ⟨zw_494, zw_5, ⟨by decide +kernel, by decide +kernel, by decide +kernel⟩, zw_492, zw_493⟩
theorem mv_X7_undo : zMV yX7_undo cX7_undo 1 (some .int) 0 := ⟨zw_508, zw_5, ⟨by decide +kernel, by decide +kernel, by decide +kernel⟩, zw_506, zw_507⟩
theorem mv_X7_coin : zMV yX7_coin cX7_coin 3 (some .int) 2 := ⟨zw_519, zw_5, ⟨by decide +kernel, by decide +kernel, by decide +kernel⟩, zw_517, zw_518⟩
theorem mv_X7_ofBed : zMV yX7_ofBed cX7_ofBed 3 (some .int) 2 := ⟨zw_537, zw_5, ⟨by decide +kernel, by decide +kernel, by decide +kernel⟩, zw_535, zw_536⟩
theorem mv_X7_bedOf : zMV yX7_bedOf cX7_bedOf 3 (some .int) 2 := ⟨zw_533, zw_5, ⟨by decide +kernel, by decide +kernel, by decide +kernel⟩, zw_531, zw_532⟩
theorem mv_X7_counted : zMV yX7_counted cX7_counted 2 (some .int) 1 := ⟨zw_558, zw_5, ⟨by decide +kernel, by decide +kernel, by decide +kernel⟩, zw_556, zw_557⟩
theorem mv_X7_count : zMV yX7_count cX7_count 2 (some .int) 1 := ⟨zw_554, zw_5, ⟨by decide +kernel, by decide +kernel, by decide +kernel⟩, zw_552, zw_553⟩
theorem mv_X7_setting : zMV yX7_setting cX7_setting 1 (some .int) 0 := ⟨zw_570, zw_5, ⟨by decide +kernel, by decide +kernel, by decide +kernel⟩, zw_568, zw_569⟩
theorem mv_X7_ends_ : zMV yX7_ends_ cX7_ends_ 4 (some .int) 3 := ⟨zw_589, zw_5, ⟨by decide +kernel, by decide +kernel, by decide +kernel⟩, zw_587, zw_588⟩
theorem mv_X7_ifPushed : zMV yX7_ifPushed cX7_ifPushed 3 (some .int) 2 := ⟨zw_612, zw_5, ⟨by decide +kernel, by decide +kernel, by decide +kernel⟩, zw_610, zw_611⟩
theorem mv_X7_strengthFor : zMV yX7_strengthFor cX7_strengthFor 3 (some .int) 2 := ⟨zw_627, zw_5, ⟨by decide +kernel, by decide +kernel, by decide +kernel⟩, zw_625, zw_626⟩
theorem mv_X7_bestPush : zMV yX7_bestPush cX7_bestPush 1 (some .int) 0 := ⟨zw_649, zw_5, ⟨by decide +kernel, by decide +kernel, by decide +kernel⟩, zw_647, zw_648⟩
theorem mv_X7_thrown : zMV yX7_thrown cX7_thrown 1 (some .int) 0 := ⟨zw_313, zw_5, ⟨by decide +kernel, by decide +kernel, by decide +kernel⟩, zw_311, zw_312⟩
set_option maxHeartbeats 4000000 in
set_option maxRecDepth 100000 in
theorem c_X7_keep (l : Launch) (D : va_G) (k : Nat → ClassId) (sz : Nat) (mm ms mk mb : Nat) (vsv vty vth ven vsp vla vpc : Int) (s : Nat → Int) (kp : Nat → Int) (B : Bd) (i : Nat) (hBk : blkOk s 0 B) (hi1 : i ≤ 1) : Met l yX7_keep (zW yX7_keep cX7_keep 2 (some .int)) ({ frames := 2, cells := 0, slots := 0, locals := 42 } : Room) (va_Pc [.ref mm, .int (nZ ↑i)] (zIn D k sz [(mm, .inr (7, [.ref ms, .int (nZ vsv), .ref mk, .ref mb, .int (nZ vty), .int (nZ vth), .int (nZ ven), .int (nZ vsp), .int (nZ vla), .int (nZ vpc)])), (ms, .inl (k 0, 900, .inl (zA s))), (mk, .inl (k 1, 2, .inl (zA kp)))])) (va_Qi (fun (rz : Int32) (uz : (Nat → Int)) => rz = nZ (coinsB B) ∧ (∀ k : Nat, uz k = cpS s 0 (7 + i) k)) (fun (uz : (Nat → Int)) => zOut D (va_A [(mm, .inr (7, [.ref ms, .int (nZ vsv), .ref mk, .ref mb, .int (nZ vty), .int (nZ vth), .int (nZ ven), .int (nZ vsp), .int (nZ vla), .int (nZ vpc)])), (ms, .inl (k 0, 900, .inl (zA s))), (mk, .inl (k 1, 2, .inl (zA kp)))] sz) [(mm, .inr (7, [.ref ms, .int (nZ vsv), .ref mk, .ref mb, .int (nZ vty), .int (nZ 0), .int (nZ ven), .int (nZ vsp), .int (nZ vla), .int (nZ vpc)])), (ms, .inl (k 0, 900, .inl (zA uz))), (mk, .inl (k 1, 2, .inl (zA (zU kp i 1))))]) (va_A [(mm, .inr (7, [.ref ms, .int (nZ vsv), .ref mk, .ref mb, .int (nZ vty), .int (nZ vth), .int (nZ ven), .int (nZ vsp), .int (nZ vla), .int (nZ vpc)])), (ms, .inl (k 0, 900, .inl (zA s))), (mk, .inl (k 1, 2, .inl (zA kp)))] sz)) 0 0 (va_A [(mm, .inr (7, [.ref ms, .int (nZ vsv), .ref mk, .ref mb, .int (nZ vty), .int (nZ vth), .int (nZ ven), .int (nZ vsp), .int (nZ vla), .int (nZ vpc)])), (ms, .inl (k 0, 900, .inl (zA s))), (mk, .inl (k 1, 2, .inl (zA kp)))] sz) := by
  refine zEnter (Qf := fun A => va_Qi (fun (rz : Int32) (uz : (Nat → Int)) => rz = nZ (coinsB B) ∧ (∀ k : Nat, uz k = cpS s 0 (7 + i) k)) (fun (uz : (Nat → Int)) => zOut D A [(mm, .inr (7, [.ref ms, .int (nZ vsv), .ref mk, .ref mb, .int (nZ vty), .int (nZ 0), .int (nZ ven), .int (nZ vsp), .int (nZ vla), .int (nZ vpc)])), (ms, .inl (k 0, 900, .inl (zA uz))), (mk, .inl (k 1, 2, .inl (zA (zU kp i 1))))]) A) RX7 (by decide) rfl (Nat.le_of_ble_eq_true rfl) ?_
  intro p9 e9 s9 m9 be9 me9 c9 ls A X hin hP hD hS hA hAe hl
  have hX := X.1; have hB := X.2.1; have hz := X.2.2.2.2.1; have hW := X.2.2.2.2.2.1; have hK := X.2.2.2.2.2.2.2; clear hAe
  clear hin
  have hl : lv_has ls 2 [(0, .ref mm), (1, .int (nZ ↑i))] := hl
  refine lv_aload_n hX hB dX7_keep_0 rfl (lv_at hl 0 rfl) ?_
  refine lv_iload_n hX hB dX7_keep_1 rfl (lv_at hl 1 rfl) ?_
  refine zCallI0 (zRunS X ms_X7_isSlot (c_X7_isSlot_t l D k _ ↑i (⟨by omega, by omega⟩) (by first | assumption | omega | exact ⟨by omega, by omega⟩)) zw_481 (zPreS hP hD hK [] rfl rfl) rfl hl (Nat.le_of_ble_eq_true rfl) dX7_keep_2 ⟨rfl, rfl, ⟨Nat.le_of_ble_eq_true rfl, Nat.le_of_ble_eq_true rfl⟩, Nat.le_of_ble_eq_true rfl, Nat.le_of_ble_eq_true rfl⟩ rfl) hS hP hD hA [] rfl (fun _ => rfl) (fun r_2 u_2 H locs hq_2 hP hD hS => ?_)
  subst hq_2
  have hP : va_P D vwCl [(mm, .inr (7, [.ref ms, .int (nZ vsv), .ref mk, .ref mb, .int (nZ vty), .int (nZ vth), .int (nZ ven), .int (nZ vsp), .int (nZ vla), .int (nZ vpc)])), (ms, .inl (k 0, 900, .inl (zA s))), (mk, .inl (k 1, 2, .inl (zA kp)))] H := hP
  have hD : va_D A [(mm, .inr (7, [.ref ms, .int (nZ vsv), .ref mk, .ref mb, .int (nZ vty), .int (nZ vth), .int (nZ ven), .int (nZ vsp), .int (nZ vla), .int (nZ vpc)])), (ms, .inl (k 0, 900, .inl (zA s))), (mk, .inl (k 1, 2, .inl (zA kp)))] := hD
  refine lv_iconst (v := nZ 1) hX hB dX7_keep_5 rfl ?_
  refine zCallI0 (zRunV (As := [.int (nZ 1), .int (nZ 1)]) X mv_X7_goes (c_X7_goes_11 l D k _ mm ms mk mb vsv vty vth ven vsp vla vpc ) zw_245 (zPreV hP hD hK [0] rfl rfl 0 7 rfl rfl rfl) rfl hl (Nat.le_of_ble_eq_true rfl) dX7_keep_6 ⟨rfl, rfl, ⟨Nat.le_of_ble_eq_true rfl, Nat.le_of_ble_eq_true rfl⟩, Nat.le_of_ble_eq_true rfl, Nat.le_of_ble_eq_true rfl⟩ rfl) hS hP hD hA [0] rfl (fun _ => rfl) (fun r_6 u_6 H locs hq_6 hP hD hS => ?_)
  subst hq_6
  have hP : va_P D vwCl [(mm, .inr (7, [.ref ms, .int (nZ vsv), .ref mk, .ref mb, .int (nZ vty), .int (nZ 0), .int (nZ ven), .int (nZ vsp), .int (nZ vla), .int (nZ vpc)])), (ms, .inl (k 0, 900, .inl (zA s))), (mk, .inl (k 1, 2, .inl (zA kp)))] H := hP
  have hD : va_D A [(mm, .inr (7, [.ref ms, .int (nZ vsv), .ref mk, .ref mb, .int (nZ vty), .int (nZ 0), .int (nZ ven), .int (nZ vsp), .int (nZ vla), .int (nZ vpc)])), (ms, .inl (k 0, 900, .inl (zA s))), (mk, .inl (k 1, 2, .inl (zA kp)))] := hD
  refine zz_if_ne X (tgt := 14) dX7_keep_9 (by decide) ⟨by omega, by omega⟩ (fun c_9 => ?_) (fun c_9 => ?_)
  · refine lv_aload_n hX hB dX7_keep_14 rfl (lv_at hl 0 rfl) ?_
    refine lv_iconst (v := nZ 0) hX hB dX7_keep_15 rfl ?_
    refine lv_bipush (v := nZ 7) hX hB dX7_keep_16 (by decide) ?_
    refine lv_iload_n hX hB dX7_keep_18 rfl (lv_at hl 1 rfl) ?_
    refine zz_iadd X dX7_keep_19 (z := (↑(7 + i) : Int)) (by first | rfl | omega) ?_
    refine zCallV0 (zRunV (As := [.int (nZ 0), .int (nZ (↑(7 + i) : Int))]) X mv_X7_copies (c_X7_copies l D k _ mm ms mk mb vsv vty 0 ven vsp vla vpc s 0 (7 + i) (by first | assumption | omega | exact ⟨by omega, by omega⟩) (by first | assumption | omega | exact ⟨by omega, by omega⟩)) zw_255 (zPreV hP hD hK [0, 1] rfl rfl 0 7 rfl rfl rfl) rfl hl (Nat.le_of_ble_eq_true rfl) dX7_keep_20 ⟨rfl, rfl, ⟨Nat.le_of_ble_eq_true rfl, Nat.le_of_ble_eq_true rfl⟩, Nat.le_of_ble_eq_true rfl, Nat.le_of_ble_eq_true rfl⟩ rfl) hS hP hD hA [0, 1] rfl (fun _ => rfl) (fun u_20 H locs hq_20 hP hD hS => ?_)
    obtain ⟨s2_20, e9⟩ : ∃ z9, z9 = u_20 := ⟨_, rfl⟩; subst e9
    have hc_20 := hq_20
    try dsimp only at hc_20
    have hP : va_P D vwCl [(mm, .inr (7, [.ref ms, .int (nZ vsv), .ref mk, .ref mb, .int (nZ vty), .int (nZ 0), .int (nZ ven), .int (nZ vsp), .int (nZ vla), .int (nZ vpc)])), (ms, .inl (k 0, 900, .inl (zA s2_20))), (mk, .inl (k 1, 2, .inl (zA kp)))] H := hP
    have hD : va_D A [(mm, .inr (7, [.ref ms, .int (nZ vsv), .ref mk, .ref mb, .int (nZ vty), .int (nZ 0), .int (nZ ven), .int (nZ vsp), .int (nZ vla), .int (nZ vpc)])), (ms, .inl (k 0, 900, .inl (zA s2_20))), (mk, .inl (k 1, 2, .inl (zA kp)))] := hD
    have hb1 : blkOk s2_20 0 B := hBk.other (cp_fr hc_20) (by omega)
    refine lv_aload_n hX hB dX7_keep_23 rfl (lv_at hl 0 rfl) ?_
    refine va_get hX hB hz inlX7 hW hK.1 hP 0 rfl rfl 2 (by decide) (hz _ zw_76) (fun _ h9 => h9) rfl dX7_keep_24 ?_
    refine lv_iload_n hX hB dX7_keep_27 rfl (lv_at hl 1 rfl) ?_
    refine lv_iconst (v := nZ 1) hX hB dX7_keep_28 rfl ?_
    refine zz_zast X hP hD hS 2 1 rfl rfl i (by omega) (by omega) (by first | decide | omega) (rfl) dX7_keep_29 (fun H locs hP hD hS => ?_)
    have hP : va_P D vwCl [(mm, .inr (7, [.ref ms, .int (nZ vsv), .ref mk, .ref mb, .int (nZ vty), .int (nZ 0), .int (nZ ven), .int (nZ vsp), .int (nZ vla), .int (nZ vpc)])), (ms, .inl (k 0, 900, .inl (zA s2_20))), (mk, .inl (k 1, 2, .inl (zA (zU kp i 1))))] H := hP
    have hD : va_D A [(mm, .inr (7, [.ref ms, .int (nZ vsv), .ref mk, .ref mb, .int (nZ vty), .int (nZ 0), .int (nZ ven), .int (nZ vsp), .int (nZ vla), .int (nZ vpc)])), (ms, .inl (k 0, 900, .inl (zA s2_20))), (mk, .inl (k 1, 2, .inl (zA (zU kp i 1))))] := hD
    refine lv_aload_n hX hB dX7_keep_30 rfl (lv_at hl 0 rfl) ?_
    refine lv_iconst (v := nZ 0) hX hB dX7_keep_31 rfl ?_
    refine zCallI0 (zRunV (As := [.int (nZ 0)]) X mv_X7_coins (c_X7_coins l D k _ mm ms mk mb vsv vty 0 ven vsp vla vpc s2_20 0 B hb1 (by first | assumption | omega | exact ⟨by omega, by omega⟩)) zw_455 (zPreV hP hD hK [0, 1] rfl rfl 0 7 rfl rfl rfl) rfl hl (Nat.le_of_ble_eq_true rfl) dX7_keep_32 ⟨rfl, rfl, ⟨Nat.le_of_ble_eq_true rfl, Nat.le_of_ble_eq_true rfl⟩, Nat.le_of_ble_eq_true rfl, Nat.le_of_ble_eq_true rfl⟩ rfl) hS hP hD hA [0, 1] rfl (fun _ => rfl) (fun r_32 u_32 H locs hq_32 hP hD hS => ?_)
    subst hq_32
    have hP : va_P D vwCl [(mm, .inr (7, [.ref ms, .int (nZ vsv), .ref mk, .ref mb, .int (nZ vty), .int (nZ 0), .int (nZ ven), .int (nZ vsp), .int (nZ vla), .int (nZ vpc)])), (ms, .inl (k 0, 900, .inl (zA s2_20))), (mk, .inl (k 1, 2, .inl (zA (zU kp i 1))))] H := hP
    have hD : va_D A [(mm, .inr (7, [.ref ms, .int (nZ vsv), .ref mk, .ref mb, .int (nZ vty), .int (nZ 0), .int (nZ ven), .int (nZ vsp), .int (nZ vla), .int (nZ vpc)])), (ms, .inl (k 0, 900, .inl (zA s2_20))), (mk, .inl (k 1, 2, .inl (zA (zU kp i 1))))] := hD
    exact zRetI s2_20 X hP hD hS rfl ⟨by first | rfl | (congr 1; omega) | (dsimp only; congr 1; omega), hc_20⟩ dX7_keep_35
  · exfalso; omega
set_option maxHeartbeats 4000000 in
set_option maxRecDepth 100000 in
theorem c_X7_keep_e1 (l : Launch) (D : va_G) (k : Nat → ClassId) (sz : Nat) (mm ms mk mb : Nat) (vsv vty vth ven vsp vla vpc : Int) (a : Int) (hza : zR a) (hb : a < 0 ∨ 1 < a) : Met l yX7_keep (zW yX7_keep cX7_keep 2 (some .int)) ({ frames := 2, cells := 0, slots := 0, locals := 42 } : Room) (va_Pc [.ref mm, .int (nZ a)] (zIn D k sz [(mm, .inr (7, [.ref ms, .int (nZ vsv), .ref mk, .ref mb, .int (nZ vty), .int (nZ vth), .int (nZ ven), .int (nZ vsp), .int (nZ vla), .int (nZ vpc)]))])) (va_Qi (fun (rz : Int32) (uz : Unit) => rz = nZ 0) (fun (uz : Unit) => zOut D (va_A [(mm, .inr (7, [.ref ms, .int (nZ vsv), .ref mk, .ref mb, .int (nZ vty), .int (nZ vth), .int (nZ ven), .int (nZ vsp), .int (nZ vla), .int (nZ vpc)]))] sz) [(mm, .inr (7, [.ref ms, .int (nZ vsv), .ref mk, .ref mb, .int (nZ vty), .int (nZ 1), .int (nZ ven), .int (nZ vsp), .int (nZ vla), .int (nZ vpc)]))]) (va_A [(mm, .inr (7, [.ref ms, .int (nZ vsv), .ref mk, .ref mb, .int (nZ vty), .int (nZ vth), .int (nZ ven), .int (nZ vsp), .int (nZ vla), .int (nZ vpc)]))] sz)) 0 0 (va_A [(mm, .inr (7, [.ref ms, .int (nZ vsv), .ref mk, .ref mb, .int (nZ vty), .int (nZ vth), .int (nZ ven), .int (nZ vsp), .int (nZ vla), .int (nZ vpc)]))] sz) := by
  refine zEnter (Qf := fun A => va_Qi (fun (rz : Int32) (uz : Unit) => rz = nZ 0) (fun (uz : Unit) => zOut D A [(mm, .inr (7, [.ref ms, .int (nZ vsv), .ref mk, .ref mb, .int (nZ vty), .int (nZ 1), .int (nZ ven), .int (nZ vsp), .int (nZ vla), .int (nZ vpc)]))]) A) RX7 (by decide) rfl (Nat.le_of_ble_eq_true rfl) ?_
  intro p9 e9 s9 m9 be9 me9 c9 ls A X hin hP hD hS hA hAe hl
  have hX := X.1; have hB := X.2.1; have hz := X.2.2.2.2.1; have hW := X.2.2.2.2.2.1; have hK := X.2.2.2.2.2.2.2; clear hAe
  clear hin
  have hl : lv_has ls 2 [(0, .ref mm), (1, .int (nZ a))] := hl
  refine lv_aload_n hX hB dX7_keep_0 rfl (lv_at hl 0 rfl) ?_
  refine lv_iload_n hX hB dX7_keep_1 rfl (lv_at hl 1 rfl) ?_
  refine zCallI0 (zRunS X ms_X7_isSlot (c_X7_isSlot_f l D k _ a hza hb) zw_481 (zPreS hP hD hK [] rfl rfl) rfl hl (Nat.le_of_ble_eq_true rfl) dX7_keep_2 ⟨rfl, rfl, ⟨Nat.le_of_ble_eq_true rfl, Nat.le_of_ble_eq_true rfl⟩, Nat.le_of_ble_eq_true rfl, Nat.le_of_ble_eq_true rfl⟩ rfl) hS hP hD hA [] rfl (fun _ => rfl) (fun r_2 u_2 H locs hq_2 hP hD hS => ?_)
  subst hq_2
  have hP : va_P D vwCl [(mm, .inr (7, [.ref ms, .int (nZ vsv), .ref mk, .ref mb, .int (nZ vty), .int (nZ vth), .int (nZ ven), .int (nZ vsp), .int (nZ vla), .int (nZ vpc)]))] H := hP
  have hD : va_D A [(mm, .inr (7, [.ref ms, .int (nZ vsv), .ref mk, .ref mb, .int (nZ vty), .int (nZ vth), .int (nZ ven), .int (nZ vsp), .int (nZ vla), .int (nZ vpc)]))] := hD
  refine lv_iconst (v := nZ 1) hX hB dX7_keep_5 rfl ?_
  refine zCallI0 (zRunV (As := [.int (nZ 0), .int (nZ 1)]) X mv_X7_goes (c_X7_goes_0 l D k _ mm ms mk mb vsv vty vth ven vsp vla vpc 1 ) zw_245 (zPreV hP hD hK [0] rfl rfl 0 7 rfl rfl rfl) rfl hl (Nat.le_of_ble_eq_true rfl) dX7_keep_6 ⟨rfl, rfl, ⟨Nat.le_of_ble_eq_true rfl, Nat.le_of_ble_eq_true rfl⟩, Nat.le_of_ble_eq_true rfl, Nat.le_of_ble_eq_true rfl⟩ rfl) hS hP hD hA [0] rfl (fun _ => rfl) (fun r_6 u_6 H locs hq_6 hP hD hS => ?_)
  subst hq_6
  have hP : va_P D vwCl [(mm, .inr (7, [.ref ms, .int (nZ vsv), .ref mk, .ref mb, .int (nZ vty), .int (nZ 1), .int (nZ ven), .int (nZ vsp), .int (nZ vla), .int (nZ vpc)]))] H := hP
  have hD : va_D A [(mm, .inr (7, [.ref ms, .int (nZ vsv), .ref mk, .ref mb, .int (nZ vty), .int (nZ 1), .int (nZ ven), .int (nZ vsp), .int (nZ vla), .int (nZ vpc)]))] := hD
  refine zz_if_ne X (tgt := 14) dX7_keep_9 (by decide) ⟨by omega, by omega⟩ (fun c_9 => ?_) (fun c_9 => ?_)
  · exfalso; omega
  · refine lv_iconst (v := nZ 0) hX hB dX7_keep_12 rfl ?_
    exact zRetI () X hP hD hS rfl (by first | rfl | (congr 1; omega) | (dsimp only; congr 1; omega)) dX7_keep_13
set_option maxHeartbeats 4000000 in
set_option maxRecDepth 100000 in
theorem c_X7_goBack (l : Launch) (D : va_G) (k : Nat → ClassId) (sz : Nat) (mm ms mk mb : Nat) (vsv vty vth ven vsp vla vpc : Int) (s : Nat → Int) (kp : Nat → Int) (B K : Bd) (n : Nat) (i : Nat) (hBk : blkOk s 0 B) (hKK : blkOk s (90 * (7 + i)) K) (hn : vsv = ↑n) (hs : n ≤ 6) (hi1 : i ≤ 1) (hkp : kp i = 1) : Met l yX7_goBack (zW yX7_goBack cX7_goBack 2 (some .int)) ({ frames := 2, cells := 0, slots := 0, locals := 44 } : Room) (va_Pc [.ref mm, .int (nZ ↑i)] (zIn D k sz [(mm, .inr (7, [.ref ms, .int (nZ vsv), .ref mk, .ref mb, .int (nZ vty), .int (nZ vth), .int (nZ ven), .int (nZ vsp), .int (nZ vla), .int (nZ vpc)])), (ms, .inl (k 0, 900, .inl (zA s))), (mk, .inl (k 1, 2, .inl (zA kp)))])) (va_Qi (fun (rz : Int32) (uz : (Nat → Int) × Int) => rz = nZ (coinsB K) ∧ blkOk uz.1 0 K ∧ (∀ k : Nat, 90 ≤ k → uz.1 k = svS s n k) ∧ uz.2 = (↑(if n < 6 then n + 1 else 6) : Int)) (fun (uz : (Nat → Int) × Int) => zOut D (va_A [(mm, .inr (7, [.ref ms, .int (nZ vsv), .ref mk, .ref mb, .int (nZ vty), .int (nZ vth), .int (nZ ven), .int (nZ vsp), .int (nZ vla), .int (nZ vpc)])), (ms, .inl (k 0, 900, .inl (zA s))), (mk, .inl (k 1, 2, .inl (zA kp)))] sz) [(mm, .inr (7, [.ref ms, .int (nZ uz.2), .ref mk, .ref mb, .int (nZ vty), .int (nZ 0), .int (nZ ven), .int (nZ vsp), .int (nZ vla), .int (nZ vpc)])), (ms, .inl (k 0, 900, .inl (zA uz.1))), (mk, .inl (k 1, 2, .inl (zA kp)))]) (va_A [(mm, .inr (7, [.ref ms, .int (nZ vsv), .ref mk, .ref mb, .int (nZ vty), .int (nZ vth), .int (nZ ven), .int (nZ vsp), .int (nZ vla), .int (nZ vpc)])), (ms, .inl (k 0, 900, .inl (zA s))), (mk, .inl (k 1, 2, .inl (zA kp)))] sz)) 0 0 (va_A [(mm, .inr (7, [.ref ms, .int (nZ vsv), .ref mk, .ref mb, .int (nZ vty), .int (nZ vth), .int (nZ ven), .int (nZ vsp), .int (nZ vla), .int (nZ vpc)])), (ms, .inl (k 0, 900, .inl (zA s))), (mk, .inl (k 1, 2, .inl (zA kp)))] sz) := by
  refine zEnter (Qf := fun A => va_Qi (fun (rz : Int32) (uz : (Nat → Int) × Int) => rz = nZ (coinsB K) ∧ blkOk uz.1 0 K ∧ (∀ k : Nat, 90 ≤ k → uz.1 k = svS s n k) ∧ uz.2 = (↑(if n < 6 then n + 1 else 6) : Int)) (fun (uz : (Nat → Int) × Int) => zOut D A [(mm, .inr (7, [.ref ms, .int (nZ uz.2), .ref mk, .ref mb, .int (nZ vty), .int (nZ 0), .int (nZ ven), .int (nZ vsp), .int (nZ vla), .int (nZ vpc)])), (ms, .inl (k 0, 900, .inl (zA uz.1))), (mk, .inl (k 1, 2, .inl (zA kp)))]) A) RX7 (by decide) rfl (Nat.le_of_ble_eq_true rfl) ?_
  intro p9 e9 s9 m9 be9 me9 c9 ls A X hin hP hD hS hA hAe hl
  have hX := X.1; have hB := X.2.1; have hz := X.2.2.2.2.1; have hW := X.2.2.2.2.2.1; have hK := X.2.2.2.2.2.2.2; clear hAe
  clear hin
  have hl : lv_has ls 2 [(0, .ref mm), (1, .int (nZ ↑i))] := hl
  refine lv_aload_n hX hB dX7_goBack_0 rfl (lv_at hl 0 rfl) ?_
  refine lv_iload_n hX hB dX7_goBack_1 rfl (lv_at hl 1 rfl) ?_
  refine zCallI0 (zRunS X ms_X7_isSlot (c_X7_isSlot_t l D k _ ↑i (⟨by omega, by omega⟩) (by first | assumption | omega | exact ⟨by omega, by omega⟩)) zw_481 (zPreS hP hD hK [] rfl rfl) rfl hl (Nat.le_of_ble_eq_true rfl) dX7_goBack_2 ⟨rfl, rfl, ⟨Nat.le_of_ble_eq_true rfl, Nat.le_of_ble_eq_true rfl⟩, Nat.le_of_ble_eq_true rfl, Nat.le_of_ble_eq_true rfl⟩ rfl) hS hP hD hA [] rfl (fun _ => rfl) (fun r_2 u_2 H locs hq_2 hP hD hS => ?_)
  subst hq_2
  have hP : va_P D vwCl [(mm, .inr (7, [.ref ms, .int (nZ vsv), .ref mk, .ref mb, .int (nZ vty), .int (nZ vth), .int (nZ ven), .int (nZ vsp), .int (nZ vla), .int (nZ vpc)])), (ms, .inl (k 0, 900, .inl (zA s))), (mk, .inl (k 1, 2, .inl (zA kp)))] H := hP
  have hD : va_D A [(mm, .inr (7, [.ref ms, .int (nZ vsv), .ref mk, .ref mb, .int (nZ vty), .int (nZ vth), .int (nZ ven), .int (nZ vsp), .int (nZ vla), .int (nZ vpc)])), (ms, .inl (k 0, 900, .inl (zA s))), (mk, .inl (k 1, 2, .inl (zA kp)))] := hD
  refine lv_iload_n hX hB dX7_goBack_5 rfl (lv_at hl 1 rfl) ?_
  refine zCallI0 (zRunS X ms_X7_isSlot (c_X7_isSlot_t l D k _ ↑i (⟨by omega, by omega⟩) (by first | assumption | omega | exact ⟨by omega, by omega⟩)) zw_481 (zPreS hP hD hK [] rfl rfl) rfl hl (Nat.le_of_ble_eq_true rfl) dX7_goBack_6 ⟨rfl, rfl, ⟨Nat.le_of_ble_eq_true rfl, Nat.le_of_ble_eq_true rfl⟩, Nat.le_of_ble_eq_true rfl, Nat.le_of_ble_eq_true rfl⟩ rfl) hS hP hD hA [] rfl (fun _ => rfl) (fun r_6 u_6 H locs hq_6 hP hD hS => ?_)
  subst hq_6
  have hP : va_P D vwCl [(mm, .inr (7, [.ref ms, .int (nZ vsv), .ref mk, .ref mb, .int (nZ vty), .int (nZ vth), .int (nZ ven), .int (nZ vsp), .int (nZ vla), .int (nZ vpc)])), (ms, .inl (k 0, 900, .inl (zA s))), (mk, .inl (k 1, 2, .inl (zA kp)))] H := hP
  have hD : va_D A [(mm, .inr (7, [.ref ms, .int (nZ vsv), .ref mk, .ref mb, .int (nZ vty), .int (nZ vth), .int (nZ ven), .int (nZ vsp), .int (nZ vla), .int (nZ vpc)])), (ms, .inl (k 0, 900, .inl (zA s))), (mk, .inl (k 1, 2, .inl (zA kp)))] := hD
  refine zz_if_eq X (tgt := 25) dX7_goBack_9 (by decide) ⟨by omega, by omega⟩ (fun c_9 => ?_) (fun c_9 => ?_)
  · exfalso; omega
  · refine lv_aload_n hX hB dX7_goBack_12 rfl (lv_at hl 0 rfl) ?_
    refine va_get hX hB hz inlX7 hW hK.1 hP 0 rfl rfl 2 (by decide) (hz _ zw_76) (fun _ h9 => h9) rfl dX7_goBack_13 ?_
    refine lv_iload_n hX hB dX7_goBack_16 rfl (lv_at hl 1 rfl) ?_
    refine zz_zald X hP 2 1 rfl rfl i (by omega) (by omega) (by first | decide | omega) dX7_goBack_17 ?_
    refine zz_if_eq X (tgt := 25) dX7_goBack_18 (by decide) ⟨by omega, by omega⟩ (fun c_18 => ?_) (fun c_18 => ?_)
    · exfalso; omega
    · refine lv_iconst (v := nZ 1) hX hB dX7_goBack_21 rfl ?_
      refine lv_goto (tgt := 26) hX hB dX7_goBack_22 (by decide) ?_
      refine zCallI0 (zRunV (As := [.int (nZ 1), .int (nZ 1)]) X mv_X7_goes (c_X7_goes_11 l D k _ mm ms mk mb vsv vty vth ven vsp vla vpc ) zw_245 (zPreV hP hD hK [0] rfl rfl 0 7 rfl rfl rfl) rfl hl (Nat.le_of_ble_eq_true rfl) dX7_goBack_26 ⟨rfl, rfl, ⟨Nat.le_of_ble_eq_true rfl, Nat.le_of_ble_eq_true rfl⟩, Nat.le_of_ble_eq_true rfl, Nat.le_of_ble_eq_true rfl⟩ rfl) hS hP hD hA [0] rfl (fun _ => rfl) (fun r_26 u_26 H locs hq_26 hP hD hS => ?_)
      subst hq_26
      have hP : va_P D vwCl [(mm, .inr (7, [.ref ms, .int (nZ vsv), .ref mk, .ref mb, .int (nZ vty), .int (nZ 0), .int (nZ ven), .int (nZ vsp), .int (nZ vla), .int (nZ vpc)])), (ms, .inl (k 0, 900, .inl (zA s))), (mk, .inl (k 1, 2, .inl (zA kp)))] H := hP
      have hD : va_D A [(mm, .inr (7, [.ref ms, .int (nZ vsv), .ref mk, .ref mb, .int (nZ vty), .int (nZ 0), .int (nZ ven), .int (nZ vsp), .int (nZ vla), .int (nZ vpc)])), (ms, .inl (k 0, 900, .inl (zA s))), (mk, .inl (k 1, 2, .inl (zA kp)))] := hD
      refine zz_if_ne X (tgt := 34) dX7_goBack_29 (by decide) ⟨by omega, by omega⟩ (fun c_29 => ?_) (fun c_29 => ?_)
      · refine lv_aload_n hX hB dX7_goBack_34 rfl (lv_at hl 0 rfl) ?_
        refine zCallV0 (zRunV (As := []) X mv_X7_saves (c_X7_saves l D k _ mm ms mk mb vsv vty 0 ven vsp vla vpc s n hn hs) zw_250 (zPreV hP hD hK [0, 1] rfl rfl 0 7 rfl rfl rfl) rfl hl (Nat.le_of_ble_eq_true rfl) dX7_goBack_35 ⟨rfl, rfl, ⟨Nat.le_of_ble_eq_true rfl, Nat.le_of_ble_eq_true rfl⟩, Nat.le_of_ble_eq_true rfl, Nat.le_of_ble_eq_true rfl⟩ rfl) hS hP hD hA [0, 1] rfl (fun _ => rfl) (fun u_35 H locs hq_35 hP hD hS => ?_)
        obtain ⟨s2_35, sv2_35⟩ := u_35
        obtain ⟨hv_35, hsv_35⟩ := hq_35
        try dsimp only at hv_35 hsv_35
        have hP : va_P D vwCl [(mm, .inr (7, [.ref ms, .int (nZ sv2_35), .ref mk, .ref mb, .int (nZ vty), .int (nZ 0), .int (nZ ven), .int (nZ vsp), .int (nZ vla), .int (nZ vpc)])), (ms, .inl (k 0, 900, .inl (zA s2_35))), (mk, .inl (k 1, 2, .inl (zA kp)))] H := hP
        have hD : va_D A [(mm, .inr (7, [.ref ms, .int (nZ sv2_35), .ref mk, .ref mb, .int (nZ vty), .int (nZ 0), .int (nZ ven), .int (nZ vsp), .int (nZ vla), .int (nZ vpc)])), (ms, .inl (k 0, 900, .inl (zA s2_35))), (mk, .inl (k 1, 2, .inl (zA kp)))] := hD
        refine lv_aload_n hX hB dX7_goBack_38 rfl (lv_at hl 0 rfl) ?_
        refine lv_bipush (v := nZ 7) hX hB dX7_goBack_39 (by decide) ?_
        refine lv_iload_n hX hB dX7_goBack_41 rfl (lv_at hl 1 rfl) ?_
        refine zz_iadd X dX7_goBack_42 (z := (↑(7 + i) : Int)) (by first | rfl | omega) ?_
        refine lv_iconst (v := nZ 0) hX hB dX7_goBack_43 rfl ?_
        refine zCallV0 (zRunV (As := [.int (nZ (↑(7 + i) : Int)), .int (nZ 0)]) X mv_X7_copies (c_X7_copies l D k _ mm ms mk mb sv2_35 vty 0 ven vsp vla vpc s2_35 (7 + i) 0 (by first | assumption | omega | exact ⟨by omega, by omega⟩) (by first | assumption | omega | exact ⟨by omega, by omega⟩)) zw_255 (zPreV hP hD hK [0, 1] rfl rfl 0 7 rfl rfl rfl) rfl hl (Nat.le_of_ble_eq_true rfl) dX7_goBack_44 ⟨rfl, rfl, ⟨Nat.le_of_ble_eq_true rfl, Nat.le_of_ble_eq_true rfl⟩, Nat.le_of_ble_eq_true rfl, Nat.le_of_ble_eq_true rfl⟩ rfl) hS hP hD hA [0, 1] rfl (fun _ => rfl) (fun u_44 H locs hq_44 hP hD hS => ?_)
        obtain ⟨s2_44, e9⟩ : ∃ z9, z9 = u_44 := ⟨_, rfl⟩; subst e9
        have hc_44 := hq_44
        try dsimp only at hc_44
        have hP : va_P D vwCl [(mm, .inr (7, [.ref ms, .int (nZ sv2_35), .ref mk, .ref mb, .int (nZ vty), .int (nZ 0), .int (nZ ven), .int (nZ vsp), .int (nZ vla), .int (nZ vpc)])), (ms, .inl (k 0, 900, .inl (zA s2_44))), (mk, .inl (k 1, 2, .inl (zA kp)))] H := hP
        have hD : va_D A [(mm, .inr (7, [.ref ms, .int (nZ sv2_35), .ref mk, .ref mb, .int (nZ vty), .int (nZ 0), .int (nZ ven), .int (nZ vsp), .int (nZ vla), .int (nZ vpc)])), (ms, .inl (k 0, 900, .inl (zA s2_44))), (mk, .inl (k 1, 2, .inl (zA kp)))] := hD
        have hk1 : blkOk s2_35 (90 * (7 + i)) K := sv_hi hs (by omega) hKK hv_35
        have hb2 : blkOk s2_44 0 K := cp_blk (t := 0) hk1 hc_44
        refine lv_aload_n hX hB dX7_goBack_47 rfl (lv_at hl 0 rfl) ?_
        refine lv_iconst (v := nZ 0) hX hB dX7_goBack_48 rfl ?_
        refine zCallI0 (zRunV (As := [.int (nZ 0)]) X mv_X7_coins (c_X7_coins l D k _ mm ms mk mb sv2_35 vty 0 ven vsp vla vpc s2_44 0 K hb2 (by first | assumption | omega | exact ⟨by omega, by omega⟩)) zw_455 (zPreV hP hD hK [0, 1] rfl rfl 0 7 rfl rfl rfl) rfl hl (Nat.le_of_ble_eq_true rfl) dX7_goBack_49 ⟨rfl, rfl, ⟨Nat.le_of_ble_eq_true rfl, Nat.le_of_ble_eq_true rfl⟩, Nat.le_of_ble_eq_true rfl, Nat.le_of_ble_eq_true rfl⟩ rfl) hS hP hD hA [0, 1] rfl (fun _ => rfl) (fun r_49 u_49 H locs hq_49 hP hD hS => ?_)
        subst hq_49
        have hP : va_P D vwCl [(mm, .inr (7, [.ref ms, .int (nZ sv2_35), .ref mk, .ref mb, .int (nZ vty), .int (nZ 0), .int (nZ ven), .int (nZ vsp), .int (nZ vla), .int (nZ vpc)])), (ms, .inl (k 0, 900, .inl (zA s2_44))), (mk, .inl (k 1, 2, .inl (zA kp)))] H := hP
        have hD : va_D A [(mm, .inr (7, [.ref ms, .int (nZ sv2_35), .ref mk, .ref mb, .int (nZ vty), .int (nZ 0), .int (nZ ven), .int (nZ vsp), .int (nZ vla), .int (nZ vpc)])), (ms, .inl (k 0, 900, .inl (zA s2_44))), (mk, .inl (k 1, 2, .inl (zA kp)))] := hD
        exact zRetI (s2_44, sv2_35) X hP hD hS rfl ⟨by first | rfl | (congr 1; omega) | (dsimp only; congr 1; omega), hb2, fr_sv (cp_fr (t := 0) hc_44) hv_35, hsv_35⟩ dX7_goBack_52
      · exfalso; omega
set_option maxHeartbeats 4000000 in
set_option maxRecDepth 100000 in
theorem c_X7_goBack_e1 (l : Launch) (D : va_G) (k : Nat → ClassId) (sz : Nat) (mm ms mk mb : Nat) (vsv vty vth ven vsp vla vpc : Int) (a : Int) (hza : zR a) (hb : a < 0 ∨ 1 < a) : Met l yX7_goBack (zW yX7_goBack cX7_goBack 2 (some .int)) ({ frames := 2, cells := 0, slots := 0, locals := 44 } : Room) (va_Pc [.ref mm, .int (nZ a)] (zIn D k sz [(mm, .inr (7, [.ref ms, .int (nZ vsv), .ref mk, .ref mb, .int (nZ vty), .int (nZ vth), .int (nZ ven), .int (nZ vsp), .int (nZ vla), .int (nZ vpc)]))])) (va_Qi (fun (rz : Int32) (uz : Unit) => rz = nZ 0) (fun (uz : Unit) => zOut D (va_A [(mm, .inr (7, [.ref ms, .int (nZ vsv), .ref mk, .ref mb, .int (nZ vty), .int (nZ vth), .int (nZ ven), .int (nZ vsp), .int (nZ vla), .int (nZ vpc)]))] sz) [(mm, .inr (7, [.ref ms, .int (nZ vsv), .ref mk, .ref mb, .int (nZ vty), .int (nZ 1), .int (nZ ven), .int (nZ vsp), .int (nZ vla), .int (nZ vpc)]))]) (va_A [(mm, .inr (7, [.ref ms, .int (nZ vsv), .ref mk, .ref mb, .int (nZ vty), .int (nZ vth), .int (nZ ven), .int (nZ vsp), .int (nZ vla), .int (nZ vpc)]))] sz)) 0 0 (va_A [(mm, .inr (7, [.ref ms, .int (nZ vsv), .ref mk, .ref mb, .int (nZ vty), .int (nZ vth), .int (nZ ven), .int (nZ vsp), .int (nZ vla), .int (nZ vpc)]))] sz) := by
  refine zEnter (Qf := fun A => va_Qi (fun (rz : Int32) (uz : Unit) => rz = nZ 0) (fun (uz : Unit) => zOut D A [(mm, .inr (7, [.ref ms, .int (nZ vsv), .ref mk, .ref mb, .int (nZ vty), .int (nZ 1), .int (nZ ven), .int (nZ vsp), .int (nZ vla), .int (nZ vpc)]))]) A) RX7 (by decide) rfl (Nat.le_of_ble_eq_true rfl) ?_
  intro p9 e9 s9 m9 be9 me9 c9 ls A X hin hP hD hS hA hAe hl
  have hX := X.1; have hB := X.2.1; have hz := X.2.2.2.2.1; have hW := X.2.2.2.2.2.1; have hK := X.2.2.2.2.2.2.2; clear hAe
  clear hin
  have hl : lv_has ls 2 [(0, .ref mm), (1, .int (nZ a))] := hl
  refine lv_aload_n hX hB dX7_goBack_0 rfl (lv_at hl 0 rfl) ?_
  refine lv_iload_n hX hB dX7_goBack_1 rfl (lv_at hl 1 rfl) ?_
  refine zCallI0 (zRunS X ms_X7_isSlot (c_X7_isSlot_f l D k _ a hza hb) zw_481 (zPreS hP hD hK [] rfl rfl) rfl hl (Nat.le_of_ble_eq_true rfl) dX7_goBack_2 ⟨rfl, rfl, ⟨Nat.le_of_ble_eq_true rfl, Nat.le_of_ble_eq_true rfl⟩, Nat.le_of_ble_eq_true rfl, Nat.le_of_ble_eq_true rfl⟩ rfl) hS hP hD hA [] rfl (fun _ => rfl) (fun r_2 u_2 H locs hq_2 hP hD hS => ?_)
  subst hq_2
  have hP : va_P D vwCl [(mm, .inr (7, [.ref ms, .int (nZ vsv), .ref mk, .ref mb, .int (nZ vty), .int (nZ vth), .int (nZ ven), .int (nZ vsp), .int (nZ vla), .int (nZ vpc)]))] H := hP
  have hD : va_D A [(mm, .inr (7, [.ref ms, .int (nZ vsv), .ref mk, .ref mb, .int (nZ vty), .int (nZ vth), .int (nZ ven), .int (nZ vsp), .int (nZ vla), .int (nZ vpc)]))] := hD
  refine lv_iload_n hX hB dX7_goBack_5 rfl (lv_at hl 1 rfl) ?_
  refine zCallI0 (zRunS X ms_X7_isSlot (c_X7_isSlot_f l D k _ a hza hb) zw_481 (zPreS hP hD hK [] rfl rfl) rfl hl (Nat.le_of_ble_eq_true rfl) dX7_goBack_6 ⟨rfl, rfl, ⟨Nat.le_of_ble_eq_true rfl, Nat.le_of_ble_eq_true rfl⟩, Nat.le_of_ble_eq_true rfl, Nat.le_of_ble_eq_true rfl⟩ rfl) hS hP hD hA [] rfl (fun _ => rfl) (fun r_6 u_6 H locs hq_6 hP hD hS => ?_)
  subst hq_6
  have hP : va_P D vwCl [(mm, .inr (7, [.ref ms, .int (nZ vsv), .ref mk, .ref mb, .int (nZ vty), .int (nZ vth), .int (nZ ven), .int (nZ vsp), .int (nZ vla), .int (nZ vpc)]))] H := hP
  have hD : va_D A [(mm, .inr (7, [.ref ms, .int (nZ vsv), .ref mk, .ref mb, .int (nZ vty), .int (nZ vth), .int (nZ ven), .int (nZ vsp), .int (nZ vla), .int (nZ vpc)]))] := hD
  refine zz_if_eq X (tgt := 25) dX7_goBack_9 (by decide) ⟨by omega, by omega⟩ (fun c_9 => ?_) (fun c_9 => ?_)
  · refine lv_iconst (v := nZ 0) hX hB dX7_goBack_25 rfl ?_
    refine zCallI0 (zRunV (As := [.int (nZ 0), .int (nZ 0)]) X mv_X7_goes (c_X7_goes_0 l D k _ mm ms mk mb vsv vty vth ven vsp vla vpc 0 ) zw_245 (zPreV hP hD hK [0] rfl rfl 0 7 rfl rfl rfl) rfl hl (Nat.le_of_ble_eq_true rfl) dX7_goBack_26 ⟨rfl, rfl, ⟨Nat.le_of_ble_eq_true rfl, Nat.le_of_ble_eq_true rfl⟩, Nat.le_of_ble_eq_true rfl, Nat.le_of_ble_eq_true rfl⟩ rfl) hS hP hD hA [0] rfl (fun _ => rfl) (fun r_26 u_26 H locs hq_26 hP hD hS => ?_)
    subst hq_26
    have hP : va_P D vwCl [(mm, .inr (7, [.ref ms, .int (nZ vsv), .ref mk, .ref mb, .int (nZ vty), .int (nZ 1), .int (nZ ven), .int (nZ vsp), .int (nZ vla), .int (nZ vpc)]))] H := hP
    have hD : va_D A [(mm, .inr (7, [.ref ms, .int (nZ vsv), .ref mk, .ref mb, .int (nZ vty), .int (nZ 1), .int (nZ ven), .int (nZ vsp), .int (nZ vla), .int (nZ vpc)]))] := hD
    refine zz_if_ne X (tgt := 34) dX7_goBack_29 (by decide) ⟨by omega, by omega⟩ (fun c_29 => ?_) (fun c_29 => ?_)
    · exfalso; omega
    · refine lv_iconst (v := nZ 0) hX hB dX7_goBack_32 rfl ?_
      exact zRetI () X hP hD hS rfl (by first | rfl | (congr 1; omega) | (dsimp only; congr 1; omega)) dX7_goBack_33
  · exfalso; omega
set_option maxHeartbeats 4000000 in
set_option maxRecDepth 100000 in
theorem c_X7_goBack_e2 (l : Launch) (D : va_G) (k : Nat → ClassId) (sz : Nat) (mm ms mk mb : Nat) (vsv vty vth ven vsp vla vpc : Int) (s : Nat → Int) (kp : Nat → Int) (i : Nat) (hi1 : i ≤ 1) (hkp : kp i = 0) : Met l yX7_goBack (zW yX7_goBack cX7_goBack 2 (some .int)) ({ frames := 2, cells := 0, slots := 0, locals := 44 } : Room) (va_Pc [.ref mm, .int (nZ ↑i)] (zIn D k sz [(mm, .inr (7, [.ref ms, .int (nZ vsv), .ref mk, .ref mb, .int (nZ vty), .int (nZ vth), .int (nZ ven), .int (nZ vsp), .int (nZ vla), .int (nZ vpc)])), (ms, .inl (k 0, 900, .inl (zA s))), (mk, .inl (k 1, 2, .inl (zA kp)))])) (va_Qi (fun (rz : Int32) (uz : Unit) => rz = nZ 0) (fun (uz : Unit) => zOut D (va_A [(mm, .inr (7, [.ref ms, .int (nZ vsv), .ref mk, .ref mb, .int (nZ vty), .int (nZ vth), .int (nZ ven), .int (nZ vsp), .int (nZ vla), .int (nZ vpc)])), (ms, .inl (k 0, 900, .inl (zA s))), (mk, .inl (k 1, 2, .inl (zA kp)))] sz) [(mm, .inr (7, [.ref ms, .int (nZ vsv), .ref mk, .ref mb, .int (nZ vty), .int (nZ 2), .int (nZ ven), .int (nZ vsp), .int (nZ vla), .int (nZ vpc)])), (ms, .inl (k 0, 900, .inl (zA s))), (mk, .inl (k 1, 2, .inl (zA kp)))]) (va_A [(mm, .inr (7, [.ref ms, .int (nZ vsv), .ref mk, .ref mb, .int (nZ vty), .int (nZ vth), .int (nZ ven), .int (nZ vsp), .int (nZ vla), .int (nZ vpc)])), (ms, .inl (k 0, 900, .inl (zA s))), (mk, .inl (k 1, 2, .inl (zA kp)))] sz)) 0 0 (va_A [(mm, .inr (7, [.ref ms, .int (nZ vsv), .ref mk, .ref mb, .int (nZ vty), .int (nZ vth), .int (nZ ven), .int (nZ vsp), .int (nZ vla), .int (nZ vpc)])), (ms, .inl (k 0, 900, .inl (zA s))), (mk, .inl (k 1, 2, .inl (zA kp)))] sz) := by
  refine zEnter (Qf := fun A => va_Qi (fun (rz : Int32) (uz : Unit) => rz = nZ 0) (fun (uz : Unit) => zOut D A [(mm, .inr (7, [.ref ms, .int (nZ vsv), .ref mk, .ref mb, .int (nZ vty), .int (nZ 2), .int (nZ ven), .int (nZ vsp), .int (nZ vla), .int (nZ vpc)])), (ms, .inl (k 0, 900, .inl (zA s))), (mk, .inl (k 1, 2, .inl (zA kp)))]) A) RX7 (by decide) rfl (Nat.le_of_ble_eq_true rfl) ?_
  intro p9 e9 s9 m9 be9 me9 c9 ls A X hin hP hD hS hA hAe hl
  have hX := X.1; have hB := X.2.1; have hz := X.2.2.2.2.1; have hW := X.2.2.2.2.2.1; have hK := X.2.2.2.2.2.2.2; clear hAe
  clear hin
  have hl : lv_has ls 2 [(0, .ref mm), (1, .int (nZ ↑i))] := hl
  refine lv_aload_n hX hB dX7_goBack_0 rfl (lv_at hl 0 rfl) ?_
  refine lv_iload_n hX hB dX7_goBack_1 rfl (lv_at hl 1 rfl) ?_
  refine zCallI0 (zRunS X ms_X7_isSlot (c_X7_isSlot_t l D k _ ↑i (⟨by omega, by omega⟩) (by first | assumption | omega | exact ⟨by omega, by omega⟩)) zw_481 (zPreS hP hD hK [] rfl rfl) rfl hl (Nat.le_of_ble_eq_true rfl) dX7_goBack_2 ⟨rfl, rfl, ⟨Nat.le_of_ble_eq_true rfl, Nat.le_of_ble_eq_true rfl⟩, Nat.le_of_ble_eq_true rfl, Nat.le_of_ble_eq_true rfl⟩ rfl) hS hP hD hA [] rfl (fun _ => rfl) (fun r_2 u_2 H locs hq_2 hP hD hS => ?_)
  subst hq_2
  have hP : va_P D vwCl [(mm, .inr (7, [.ref ms, .int (nZ vsv), .ref mk, .ref mb, .int (nZ vty), .int (nZ vth), .int (nZ ven), .int (nZ vsp), .int (nZ vla), .int (nZ vpc)])), (ms, .inl (k 0, 900, .inl (zA s))), (mk, .inl (k 1, 2, .inl (zA kp)))] H := hP
  have hD : va_D A [(mm, .inr (7, [.ref ms, .int (nZ vsv), .ref mk, .ref mb, .int (nZ vty), .int (nZ vth), .int (nZ ven), .int (nZ vsp), .int (nZ vla), .int (nZ vpc)])), (ms, .inl (k 0, 900, .inl (zA s))), (mk, .inl (k 1, 2, .inl (zA kp)))] := hD
  refine lv_iload_n hX hB dX7_goBack_5 rfl (lv_at hl 1 rfl) ?_
  refine zCallI0 (zRunS X ms_X7_isSlot (c_X7_isSlot_t l D k _ ↑i (⟨by omega, by omega⟩) (by first | assumption | omega | exact ⟨by omega, by omega⟩)) zw_481 (zPreS hP hD hK [] rfl rfl) rfl hl (Nat.le_of_ble_eq_true rfl) dX7_goBack_6 ⟨rfl, rfl, ⟨Nat.le_of_ble_eq_true rfl, Nat.le_of_ble_eq_true rfl⟩, Nat.le_of_ble_eq_true rfl, Nat.le_of_ble_eq_true rfl⟩ rfl) hS hP hD hA [] rfl (fun _ => rfl) (fun r_6 u_6 H locs hq_6 hP hD hS => ?_)
  subst hq_6
  have hP : va_P D vwCl [(mm, .inr (7, [.ref ms, .int (nZ vsv), .ref mk, .ref mb, .int (nZ vty), .int (nZ vth), .int (nZ ven), .int (nZ vsp), .int (nZ vla), .int (nZ vpc)])), (ms, .inl (k 0, 900, .inl (zA s))), (mk, .inl (k 1, 2, .inl (zA kp)))] H := hP
  have hD : va_D A [(mm, .inr (7, [.ref ms, .int (nZ vsv), .ref mk, .ref mb, .int (nZ vty), .int (nZ vth), .int (nZ ven), .int (nZ vsp), .int (nZ vla), .int (nZ vpc)])), (ms, .inl (k 0, 900, .inl (zA s))), (mk, .inl (k 1, 2, .inl (zA kp)))] := hD
  refine zz_if_eq X (tgt := 25) dX7_goBack_9 (by decide) ⟨by omega, by omega⟩ (fun c_9 => ?_) (fun c_9 => ?_)
  · exfalso; omega
  · refine lv_aload_n hX hB dX7_goBack_12 rfl (lv_at hl 0 rfl) ?_
    refine va_get hX hB hz inlX7 hW hK.1 hP 0 rfl rfl 2 (by decide) (hz _ zw_76) (fun _ h9 => h9) rfl dX7_goBack_13 ?_
    refine lv_iload_n hX hB dX7_goBack_16 rfl (lv_at hl 1 rfl) ?_
    refine zz_zald X hP 2 1 rfl rfl i (by omega) (by omega) (by first | decide | omega) dX7_goBack_17 ?_
    refine zz_if_eq X (tgt := 25) dX7_goBack_18 (by decide) ⟨by omega, by omega⟩ (fun c_18 => ?_) (fun c_18 => ?_)
    · refine lv_iconst (v := nZ 0) hX hB dX7_goBack_25 rfl ?_
      refine zCallI0 (zRunV (As := [.int (nZ 1), .int (nZ 0)]) X mv_X7_goes (c_X7_goes_10 l D k _ mm ms mk mb vsv vty vth ven vsp vla vpc ) zw_245 (zPreV hP hD hK [0] rfl rfl 0 7 rfl rfl rfl) rfl hl (Nat.le_of_ble_eq_true rfl) dX7_goBack_26 ⟨rfl, rfl, ⟨Nat.le_of_ble_eq_true rfl, Nat.le_of_ble_eq_true rfl⟩, Nat.le_of_ble_eq_true rfl, Nat.le_of_ble_eq_true rfl⟩ rfl) hS hP hD hA [0] rfl (fun _ => rfl) (fun r_26 u_26 H locs hq_26 hP hD hS => ?_)
      subst hq_26
      have hP : va_P D vwCl [(mm, .inr (7, [.ref ms, .int (nZ vsv), .ref mk, .ref mb, .int (nZ vty), .int (nZ 2), .int (nZ ven), .int (nZ vsp), .int (nZ vla), .int (nZ vpc)])), (ms, .inl (k 0, 900, .inl (zA s))), (mk, .inl (k 1, 2, .inl (zA kp)))] H := hP
      have hD : va_D A [(mm, .inr (7, [.ref ms, .int (nZ vsv), .ref mk, .ref mb, .int (nZ vty), .int (nZ 2), .int (nZ ven), .int (nZ vsp), .int (nZ vla), .int (nZ vpc)])), (ms, .inl (k 0, 900, .inl (zA s))), (mk, .inl (k 1, 2, .inl (zA kp)))] := hD
      refine zz_if_ne X (tgt := 34) dX7_goBack_29 (by decide) ⟨by omega, by omega⟩ (fun c_29 => ?_) (fun c_29 => ?_)
      · exfalso; omega
      · refine lv_iconst (v := nZ 0) hX hB dX7_goBack_32 rfl ?_
        exact zRetI () X hP hD hS rfl (by first | rfl | (congr 1; omega) | (dsimp only; congr 1; omega)) dX7_goBack_33
    · exfalso; omega
set_option maxHeartbeats 4000000 in
set_option maxRecDepth 100000 in
theorem c_X7_undo (l : Launch) (D : va_G) (k : Nat → ClassId) (sz : Nat) (mm ms mk mb : Nat) (vsv vty vth ven vsp vla vpc : Int) (s : Nat → Int) (B K : Bd) (n : Nat) (hBk : blkOk s 0 B) (hKK : blkOk s (90 * n) K) (hn : vsv = ↑n) (hs : 1 ≤ n ∧ n ≤ 6) : Met l yX7_undo (zW yX7_undo cX7_undo 1 (some .int)) ({ frames := 1, cells := 0, slots := 0, locals := 23 } : Room) (va_Pc [.ref mm] (zIn D k sz [(mm, .inr (7, [.ref ms, .int (nZ vsv), .ref mk, .ref mb, .int (nZ vty), .int (nZ vth), .int (nZ ven), .int (nZ vsp), .int (nZ vla), .int (nZ vpc)])), (ms, .inl (k 0, 900, .inl (zA s)))])) (va_Qi (fun (rz : Int32) (uz : (Nat → Int)) => rz = nZ (vsv - 1) ∧ blkOk uz 0 K ∧ frOk s uz 0) (fun (uz : (Nat → Int)) => zOut D (va_A [(mm, .inr (7, [.ref ms, .int (nZ vsv), .ref mk, .ref mb, .int (nZ vty), .int (nZ vth), .int (nZ ven), .int (nZ vsp), .int (nZ vla), .int (nZ vpc)])), (ms, .inl (k 0, 900, .inl (zA s)))] sz) [(mm, .inr (7, [.ref ms, .int (nZ (vsv - 1)), .ref mk, .ref mb, .int (nZ vty), .int (nZ 0), .int (nZ ven), .int (nZ vsp), .int (nZ vla), .int (nZ vpc)])), (ms, .inl (k 0, 900, .inl (zA uz)))]) (va_A [(mm, .inr (7, [.ref ms, .int (nZ vsv), .ref mk, .ref mb, .int (nZ vty), .int (nZ vth), .int (nZ ven), .int (nZ vsp), .int (nZ vla), .int (nZ vpc)])), (ms, .inl (k 0, 900, .inl (zA s)))] sz)) 0 0 (va_A [(mm, .inr (7, [.ref ms, .int (nZ vsv), .ref mk, .ref mb, .int (nZ vty), .int (nZ vth), .int (nZ ven), .int (nZ vsp), .int (nZ vla), .int (nZ vpc)])), (ms, .inl (k 0, 900, .inl (zA s)))] sz) := by
  refine zEnter (Qf := fun A => va_Qi (fun (rz : Int32) (uz : (Nat → Int)) => rz = nZ (vsv - 1) ∧ blkOk uz 0 K ∧ frOk s uz 0) (fun (uz : (Nat → Int)) => zOut D A [(mm, .inr (7, [.ref ms, .int (nZ (vsv - 1)), .ref mk, .ref mb, .int (nZ vty), .int (nZ 0), .int (nZ ven), .int (nZ vsp), .int (nZ vla), .int (nZ vpc)])), (ms, .inl (k 0, 900, .inl (zA uz)))]) A) RX7 (by decide) rfl (Nat.le_of_ble_eq_true rfl) ?_
  intro p9 e9 s9 m9 be9 me9 c9 ls A X hin hP hD hS hA hAe hl
  have hX := X.1; have hB := X.2.1; have hz := X.2.2.2.2.1; have hW := X.2.2.2.2.2.1; have hK := X.2.2.2.2.2.2.2; clear hAe
  clear hin
  have hl : lv_has ls 1 [(0, .ref mm)] := hl
  subst hn
  refine lv_aload_n hX hB dX7_undo_0 rfl (lv_at hl 0 rfl) ?_
  refine lv_aload_n hX hB dX7_undo_1 rfl (lv_at hl 0 rfl) ?_
  refine va_get hX hB hz inlX7 hW hK.1 hP 0 rfl rfl 1 (by decide) (hz _ zw_254) (fun _ h9 => h9) rfl dX7_undo_2 ?_
  refine zz_if_le X (tgt := 12) dX7_undo_5 (by decide) ⟨by omega, by omega⟩ (fun c_5 => ?_) (fun c_5 => ?_)
  · exfalso; omega
  · refine lv_iconst (v := nZ 1) hX hB dX7_undo_8 rfl ?_
    refine lv_goto (tgt := 13) hX hB dX7_undo_9 (by decide) ?_
    refine lv_iconst (v := nZ 1) hX hB dX7_undo_13 rfl ?_
    refine zCallI0 (zRunV (As := [.int (nZ 1), .int (nZ 1)]) X mv_X7_goes (c_X7_goes_11 l D k _ mm ms mk mb (↑n : Int) vty vth ven vsp vla vpc ) zw_245 (zPreV hP hD hK [0] rfl rfl 0 7 rfl rfl rfl) rfl hl (Nat.le_of_ble_eq_true rfl) dX7_undo_14 ⟨rfl, rfl, ⟨Nat.le_of_ble_eq_true rfl, Nat.le_of_ble_eq_true rfl⟩, Nat.le_of_ble_eq_true rfl, Nat.le_of_ble_eq_true rfl⟩ rfl) hS hP hD hA [0] rfl (fun _ => rfl) (fun r_14 u_14 H locs hq_14 hP hD hS => ?_)
    subst hq_14
    have hP : va_P D vwCl [(mm, .inr (7, [.ref ms, .int (nZ (↑n : Int)), .ref mk, .ref mb, .int (nZ vty), .int (nZ 0), .int (nZ ven), .int (nZ vsp), .int (nZ vla), .int (nZ vpc)])), (ms, .inl (k 0, 900, .inl (zA s)))] H := hP
    have hD : va_D A [(mm, .inr (7, [.ref ms, .int (nZ (↑n : Int)), .ref mk, .ref mb, .int (nZ vty), .int (nZ 0), .int (nZ ven), .int (nZ vsp), .int (nZ vla), .int (nZ vpc)])), (ms, .inl (k 0, 900, .inl (zA s)))] := hD
    refine zz_if_ne X (tgt := 22) dX7_undo_17 (by decide) ⟨by omega, by omega⟩ (fun c_17 => ?_) (fun c_17 => ?_)
    · refine lv_aload_n hX hB dX7_undo_22 rfl (lv_at hl 0 rfl) ?_
      refine lv_aload_n hX hB dX7_undo_23 rfl (lv_at hl 0 rfl) ?_
      refine va_get hX hB hz inlX7 hW hK.1 hP 0 rfl rfl 1 (by decide) (hz _ zw_254) (fun _ h9 => h9) rfl dX7_undo_24 ?_
      refine lv_iconst (v := nZ 0) hX hB dX7_undo_27 rfl ?_
      refine zCallV0 (zRunV (As := [.int (nZ (↑n : Int)), .int (nZ 0)]) X mv_X7_copies (c_X7_copies l D k _ mm ms mk mb (↑n : Int) vty 0 ven vsp vla vpc s n 0 (by first | assumption | omega | exact ⟨by omega, by omega⟩) (by first | assumption | omega | exact ⟨by omega, by omega⟩)) zw_255 (zPreV hP hD hK [0, 1] rfl rfl 0 7 rfl rfl rfl) rfl hl (Nat.le_of_ble_eq_true rfl) dX7_undo_28 ⟨rfl, rfl, ⟨Nat.le_of_ble_eq_true rfl, Nat.le_of_ble_eq_true rfl⟩, Nat.le_of_ble_eq_true rfl, Nat.le_of_ble_eq_true rfl⟩ rfl) hS hP hD hA [0, 1] rfl (fun _ => rfl) (fun u_28 H locs hq_28 hP hD hS => ?_)
      obtain ⟨s2_28, e9⟩ : ∃ z9, z9 = u_28 := ⟨_, rfl⟩; subst e9
      have hc_28 := hq_28
      try dsimp only at hc_28
      have hP : va_P D vwCl [(mm, .inr (7, [.ref ms, .int (nZ (↑n : Int)), .ref mk, .ref mb, .int (nZ vty), .int (nZ 0), .int (nZ ven), .int (nZ vsp), .int (nZ vla), .int (nZ vpc)])), (ms, .inl (k 0, 900, .inl (zA s2_28)))] H := hP
      have hD : va_D A [(mm, .inr (7, [.ref ms, .int (nZ (↑n : Int)), .ref mk, .ref mb, .int (nZ vty), .int (nZ 0), .int (nZ ven), .int (nZ vsp), .int (nZ vla), .int (nZ vpc)])), (ms, .inl (k 0, 900, .inl (zA s2_28)))] := hD
      refine lv_aload_n hX hB dX7_undo_31 rfl (lv_at hl 0 rfl) ?_
      refine lv_dup hX hB dX7_undo_32 rfl ?_
      refine va_get hX hB hz inlX7 hW hK.1 hP 0 rfl rfl 1 (by decide) (hz _ zw_254) (fun _ h9 => h9) rfl dX7_undo_33 ?_
      refine lv_iconst (v := nZ 1) hX hB dX7_undo_36 rfl ?_
      refine zz_isub X dX7_undo_37 (z := (↑n - 1)) (by first | rfl | omega) ?_
      refine va_put (v := .int (nZ (↑n - 1))) (ty := tyX7 1) hX hB hz inlX7 tyX7 tyX7_ok nmX7 hW hK.1 hP hD hS 0 rfl rfl 1 (by decide) (hz _ zw_254) (fun _ h9 => h9) rfl (by decide +kernel) rfl rfl (Nat.le_of_ble_eq_true rfl) dX7_undo_38 (fun H locs hP hD hS => ?_)
      have hP : va_P D vwCl [(mm, .inr (7, [.ref ms, .int (nZ (↑n - 1)), .ref mk, .ref mb, .int (nZ vty), .int (nZ 0), .int (nZ ven), .int (nZ vsp), .int (nZ vla), .int (nZ vpc)])), (ms, .inl (k 0, 900, .inl (zA s2_28)))] H := hP
      have hD : va_D A [(mm, .inr (7, [.ref ms, .int (nZ (↑n - 1)), .ref mk, .ref mb, .int (nZ vty), .int (nZ 0), .int (nZ ven), .int (nZ vsp), .int (nZ vla), .int (nZ vpc)])), (ms, .inl (k 0, 900, .inl (zA s2_28)))] := hD
      refine lv_aload_n hX hB dX7_undo_41 rfl (lv_at hl 0 rfl) ?_
      refine va_get hX hB hz inlX7 hW hK.1 hP 0 rfl rfl 1 (by decide) (hz _ zw_254) (fun _ h9 => h9) rfl dX7_undo_42 ?_
      exact zRetI s2_28 X hP hD hS rfl ⟨by first | rfl | (congr 1; omega) | (dsimp only; congr 1; omega), cp_blk (t := 0) hKK hc_28, cp_fr (t := 0) hc_28⟩ dX7_undo_45
    · exfalso; omega
set_option maxHeartbeats 4000000 in
set_option maxRecDepth 100000 in
theorem c_X7_undo_e1 (l : Launch) (D : va_G) (k : Nat → ClassId) (sz : Nat) (mm ms mk mb : Nat) (vsv vty vth ven vsp vla vpc : Int)  (hn : vsv = 0) : Met l yX7_undo (zW yX7_undo cX7_undo 1 (some .int)) ({ frames := 1, cells := 0, slots := 0, locals := 23 } : Room) (va_Pc [.ref mm] (zIn D k sz [(mm, .inr (7, [.ref ms, .int (nZ vsv), .ref mk, .ref mb, .int (nZ vty), .int (nZ vth), .int (nZ ven), .int (nZ vsp), .int (nZ vla), .int (nZ vpc)]))])) (va_Qi (fun (rz : Int32) (uz : Unit) => rz = nZ 0) (fun (uz : Unit) => zOut D (va_A [(mm, .inr (7, [.ref ms, .int (nZ vsv), .ref mk, .ref mb, .int (nZ vty), .int (nZ vth), .int (nZ ven), .int (nZ vsp), .int (nZ vla), .int (nZ vpc)]))] sz) [(mm, .inr (7, [.ref ms, .int (nZ vsv), .ref mk, .ref mb, .int (nZ vty), .int (nZ 1), .int (nZ ven), .int (nZ vsp), .int (nZ vla), .int (nZ vpc)]))]) (va_A [(mm, .inr (7, [.ref ms, .int (nZ vsv), .ref mk, .ref mb, .int (nZ vty), .int (nZ vth), .int (nZ ven), .int (nZ vsp), .int (nZ vla), .int (nZ vpc)]))] sz)) 0 0 (va_A [(mm, .inr (7, [.ref ms, .int (nZ vsv), .ref mk, .ref mb, .int (nZ vty), .int (nZ vth), .int (nZ ven), .int (nZ vsp), .int (nZ vla), .int (nZ vpc)]))] sz) := by
  refine zEnter (Qf := fun A => va_Qi (fun (rz : Int32) (uz : Unit) => rz = nZ 0) (fun (uz : Unit) => zOut D A [(mm, .inr (7, [.ref ms, .int (nZ vsv), .ref mk, .ref mb, .int (nZ vty), .int (nZ 1), .int (nZ ven), .int (nZ vsp), .int (nZ vla), .int (nZ vpc)]))]) A) RX7 (by decide) rfl (Nat.le_of_ble_eq_true rfl) ?_
  intro p9 e9 s9 m9 be9 me9 c9 ls A X hin hP hD hS hA hAe hl
  have hX := X.1; have hB := X.2.1; have hz := X.2.2.2.2.1; have hW := X.2.2.2.2.2.1; have hK := X.2.2.2.2.2.2.2; clear hAe
  clear hin
  have hl : lv_has ls 1 [(0, .ref mm)] := hl
  refine lv_aload_n hX hB dX7_undo_0 rfl (lv_at hl 0 rfl) ?_
  refine lv_aload_n hX hB dX7_undo_1 rfl (lv_at hl 0 rfl) ?_
  refine va_get hX hB hz inlX7 hW hK.1 hP 0 rfl rfl 1 (by decide) (hz _ zw_254) (fun _ h9 => h9) rfl dX7_undo_2 ?_
  refine zz_if_le X (tgt := 12) dX7_undo_5 (by decide) ⟨by omega, by omega⟩ (fun c_5 => ?_) (fun c_5 => ?_)
  · refine lv_iconst (v := nZ 0) hX hB dX7_undo_12 rfl ?_
    refine lv_iconst (v := nZ 1) hX hB dX7_undo_13 rfl ?_
    refine zCallI0 (zRunV (As := [.int (nZ 0), .int (nZ 1)]) X mv_X7_goes (c_X7_goes_0 l D k _ mm ms mk mb vsv vty vth ven vsp vla vpc 1 ) zw_245 (zPreV hP hD hK [0] rfl rfl 0 7 rfl rfl rfl) rfl hl (Nat.le_of_ble_eq_true rfl) dX7_undo_14 ⟨rfl, rfl, ⟨Nat.le_of_ble_eq_true rfl, Nat.le_of_ble_eq_true rfl⟩, Nat.le_of_ble_eq_true rfl, Nat.le_of_ble_eq_true rfl⟩ rfl) hS hP hD hA [0] rfl (fun _ => rfl) (fun r_14 u_14 H locs hq_14 hP hD hS => ?_)
    subst hq_14
    have hP : va_P D vwCl [(mm, .inr (7, [.ref ms, .int (nZ vsv), .ref mk, .ref mb, .int (nZ vty), .int (nZ 1), .int (nZ ven), .int (nZ vsp), .int (nZ vla), .int (nZ vpc)]))] H := hP
    have hD : va_D A [(mm, .inr (7, [.ref ms, .int (nZ vsv), .ref mk, .ref mb, .int (nZ vty), .int (nZ 1), .int (nZ ven), .int (nZ vsp), .int (nZ vla), .int (nZ vpc)]))] := hD
    refine zz_if_ne X (tgt := 22) dX7_undo_17 (by decide) ⟨by omega, by omega⟩ (fun c_17 => ?_) (fun c_17 => ?_)
    · exfalso; omega
    · refine lv_iconst (v := nZ 0) hX hB dX7_undo_20 rfl ?_
      exact zRetI () X hP hD hS rfl (by first | rfl | (congr 1; omega) | (dsimp only; congr 1; omega)) dX7_undo_21
  · exfalso; omega
set_option maxHeartbeats 4000000 in
set_option maxRecDepth 100000 in
theorem c_X7_coin (l : Launch) (D : va_G) (k : Nat → ClassId) (sz : Nat) (mm ms mk mb : Nat) (vsv vty vth ven vsp vla vpc : Int) (s : Nat → Int) (j : Nat) (B : Bd) (r : Nat) (hBk : blkOk s 0 B) (hjj : j < 3) (hr : r < 2147483648) : Met l yX7_coin (zW yX7_coin cX7_coin 3 (some .int)) ({ frames := 2, cells := 0, slots := 0, locals := 45 } : Room) (va_Pc [.ref mm, .int (nZ ↑j), .int (nZ ↑r)] (zIn D k sz [(mm, .inr (7, [.ref ms, .int (nZ vsv), .ref mk, .ref mb, .int (nZ vty), .int (nZ vth), .int (nZ ven), .int (nZ vsp), .int (nZ vla), .int (nZ vpc)])), (ms, .inl (k 0, 900, .inl (zA s)))])) (va_Qi (fun (rz : Int32) (uz : Unit) => rz = nZ (placeAtS (B.2 j) ↑r)) (fun (uz : Unit) => zOut D (va_A [(mm, .inr (7, [.ref ms, .int (nZ vsv), .ref mk, .ref mb, .int (nZ vty), .int (nZ vth), .int (nZ ven), .int (nZ vsp), .int (nZ vla), .int (nZ vpc)])), (ms, .inl (k 0, 900, .inl (zA s)))] sz) [(mm, .inr (7, [.ref ms, .int (nZ vsv), .ref mk, .ref mb, .int (nZ vty), .int (nZ 0), .int (nZ ven), .int (nZ vsp), .int (nZ vla), .int (nZ vpc)])), (ms, .inl (k 0, 900, .inl (zA s)))]) (va_A [(mm, .inr (7, [.ref ms, .int (nZ vsv), .ref mk, .ref mb, .int (nZ vty), .int (nZ vth), .int (nZ ven), .int (nZ vsp), .int (nZ vla), .int (nZ vpc)])), (ms, .inl (k 0, 900, .inl (zA s)))] sz)) 0 0 (va_A [(mm, .inr (7, [.ref ms, .int (nZ vsv), .ref mk, .ref mb, .int (nZ vty), .int (nZ vth), .int (nZ ven), .int (nZ vsp), .int (nZ vla), .int (nZ vpc)])), (ms, .inl (k 0, 900, .inl (zA s)))] sz) := by
  refine zEnter (Qf := fun A => va_Qi (fun (rz : Int32) (uz : Unit) => rz = nZ (placeAtS (B.2 j) ↑r)) (fun (uz : Unit) => zOut D A [(mm, .inr (7, [.ref ms, .int (nZ vsv), .ref mk, .ref mb, .int (nZ vty), .int (nZ 0), .int (nZ ven), .int (nZ vsp), .int (nZ vla), .int (nZ vpc)])), (ms, .inl (k 0, 900, .inl (zA s)))]) A) RX7 (by decide) rfl (Nat.le_of_ble_eq_true rfl) ?_
  intro p9 e9 s9 m9 be9 me9 c9 ls A X hin hP hD hS hA hAe hl
  have hX := X.1; have hB := X.2.1; have hz := X.2.2.2.2.1; have hW := X.2.2.2.2.2.1; have hK := X.2.2.2.2.2.2.2; clear hAe
  clear hin
  have hl : lv_has ls 3 [(0, .ref mm), (1, .int (nZ ↑j)), (2, .int (nZ ↑r))] := hl
  have hl9 := hBk.len hjj
  have hLB : B.2 j = (B.2 j) := rfl
  refine lv_aload_n hX hB dX7_coin_0 rfl (lv_at hl 0 rfl) ?_
  refine lv_iload_n hX hB dX7_coin_1 rfl (lv_at hl 1 rfl) ?_
  refine zCallI0 (zRunS X ms_X7_isLane (c_X7_isLane_t l D k _ ↑j (⟨by omega, by omega⟩) (by first | assumption | omega | exact ⟨by omega, by omega⟩)) zw_236 (zPreS hP hD hK [] rfl rfl) rfl hl (Nat.le_of_ble_eq_true rfl) dX7_coin_2 ⟨rfl, rfl, ⟨Nat.le_of_ble_eq_true rfl, Nat.le_of_ble_eq_true rfl⟩, Nat.le_of_ble_eq_true rfl, Nat.le_of_ble_eq_true rfl⟩ rfl) hS hP hD hA [] rfl (fun _ => rfl) (fun r_2 u_2 H locs hq_2 hP hD hS => ?_)
  subst hq_2
  have hP : va_P D vwCl [(mm, .inr (7, [.ref ms, .int (nZ vsv), .ref mk, .ref mb, .int (nZ vty), .int (nZ vth), .int (nZ ven), .int (nZ vsp), .int (nZ vla), .int (nZ vpc)])), (ms, .inl (k 0, 900, .inl (zA s)))] H := hP
  have hD : va_D A [(mm, .inr (7, [.ref ms, .int (nZ vsv), .ref mk, .ref mb, .int (nZ vty), .int (nZ vth), .int (nZ ven), .int (nZ vsp), .int (nZ vla), .int (nZ vpc)])), (ms, .inl (k 0, 900, .inl (zA s)))] := hD
  refine lv_iload_n hX hB dX7_coin_5 rfl (lv_at hl 2 rfl) ?_
  refine zz_if_lt X (tgt := 13) dX7_coin_6 (by decide) ⟨by omega, by omega⟩ (fun c_6 => ?_) (fun c_6 => ?_)
  · exfalso; omega
  · refine lv_iconst (v := nZ 1) hX hB dX7_coin_9 rfl ?_
    refine lv_goto (tgt := 14) hX hB dX7_coin_10 (by decide) ?_
    refine zCallI0 (zRunV (As := [.int (nZ 1), .int (nZ 1)]) X mv_X7_goes (c_X7_goes_11 l D k _ mm ms mk mb vsv vty vth ven vsp vla vpc ) zw_245 (zPreV hP hD hK [0] rfl rfl 0 7 rfl rfl rfl) rfl hl (Nat.le_of_ble_eq_true rfl) dX7_coin_14 ⟨rfl, rfl, ⟨Nat.le_of_ble_eq_true rfl, Nat.le_of_ble_eq_true rfl⟩, Nat.le_of_ble_eq_true rfl, Nat.le_of_ble_eq_true rfl⟩ rfl) hS hP hD hA [0] rfl (fun _ => rfl) (fun r_14 u_14 H locs hq_14 hP hD hS => ?_)
    subst hq_14
    have hP : va_P D vwCl [(mm, .inr (7, [.ref ms, .int (nZ vsv), .ref mk, .ref mb, .int (nZ vty), .int (nZ 0), .int (nZ ven), .int (nZ vsp), .int (nZ vla), .int (nZ vpc)])), (ms, .inl (k 0, 900, .inl (zA s)))] H := hP
    have hD : va_D A [(mm, .inr (7, [.ref ms, .int (nZ vsv), .ref mk, .ref mb, .int (nZ vty), .int (nZ 0), .int (nZ ven), .int (nZ vsp), .int (nZ vla), .int (nZ vpc)])), (ms, .inl (k 0, 900, .inl (zA s)))] := hD
    refine zz_if_ne X (tgt := 22) dX7_coin_17 (by decide) ⟨by omega, by omega⟩ (fun c_17 => ?_) (fun c_17 => ?_)
    · refine lv_iload_n hX hB dX7_coin_22 rfl (lv_at hl 2 rfl) ?_
      refine lv_aload_n hX hB dX7_coin_23 rfl (lv_at hl 0 rfl) ?_
      refine va_get hX hB hz inlX7 hW hK.1 hP 0 rfl rfl 0 (by decide) (hz _ zw_74) (fun _ h9 => h9) rfl dX7_coin_24 ?_
      refine lv_iconst (v := nZ 0) hX hB dX7_coin_27 rfl ?_
      refine lv_iload_n hX hB dX7_coin_28 rfl (lv_at hl 1 rfl) ?_
      refine zCallI0 (zRunS X ms_X7_laneAt (c_X7_laneAt l D k _ 0 j ) zw_272 (zPreS hP hD hK [] rfl rfl) rfl hl (Nat.le_of_ble_eq_true rfl) dX7_coin_29 ⟨rfl, rfl, ⟨Nat.le_of_ble_eq_true rfl, Nat.le_of_ble_eq_true rfl⟩, Nat.le_of_ble_eq_true rfl, Nat.le_of_ble_eq_true rfl⟩ rfl) hS hP hD hA [] rfl (fun _ => rfl) (fun r_29 u_29 H locs hq_29 hP hD hS => ?_)
      subst hq_29
      have hP : va_P D vwCl [(mm, .inr (7, [.ref ms, .int (nZ vsv), .ref mk, .ref mb, .int (nZ vty), .int (nZ 0), .int (nZ ven), .int (nZ vsp), .int (nZ vla), .int (nZ vpc)])), (ms, .inl (k 0, 900, .inl (zA s)))] H := hP
      have hD : va_D A [(mm, .inr (7, [.ref ms, .int (nZ vsv), .ref mk, .ref mb, .int (nZ vty), .int (nZ 0), .int (nZ ven), .int (nZ vsp), .int (nZ vla), .int (nZ vpc)])), (ms, .inl (k 0, 900, .inl (zA s)))] := hD
      refine zz_iald X hP 1 0 rfl rfl (((0 + 27)) + (21 * j)) (by omega) (by omega) (by first | decide | omega) dX7_coin_32 ?_
      refine zz_icmp_ge X (tgt := 46) dX7_coin_33 (by decide) ⟨by omega, by omega⟩ ⟨by omega, by omega⟩ (fun c_33 => ?_) (fun c_33 => ?_)
      · refine lv_iconst (v := nZ (-1)) hX hB dX7_coin_46 rfl ?_
        exact zRetI () X hP hD hS rfl (by congr 1; unfold placeAtS; first | (rw [if_pos ⟨by omega, by omega⟩, coinS_lt (by omega)]; rfl) | rw [if_neg (by omega)]) dX7_coin_47
      · refine lv_aload_n hX hB dX7_coin_36 rfl (lv_at hl 0 rfl) ?_
        refine lv_iconst (v := nZ 0) hX hB dX7_coin_37 rfl ?_
        refine lv_iload_n hX hB dX7_coin_38 rfl (lv_at hl 1 rfl) ?_
        refine lv_iload_n hX hB dX7_coin_39 rfl (lv_at hl 2 rfl) ?_
        refine zCallI0 (zRunV (As := [.int (nZ 0), .int (nZ ↑j), .int (nZ ↑r)]) X mv_X7_coinAt (c_X7_coinAt l D k _ mm ms mk mb vsv vty 0 ven vsp vla vpc s 0 j B r (B.2 j) hBk (by first | assumption | omega | exact ⟨by omega, by omega⟩) hjj hLB (by first | assumption | omega | exact ⟨by omega, by omega⟩)) zw_268 (zPreV hP hD hK [0, 1] rfl rfl 0 7 rfl rfl rfl) rfl hl (Nat.le_of_ble_eq_true rfl) dX7_coin_40 ⟨rfl, rfl, ⟨Nat.le_of_ble_eq_true rfl, Nat.le_of_ble_eq_true rfl⟩, Nat.le_of_ble_eq_true rfl, Nat.le_of_ble_eq_true rfl⟩ rfl) hS hP hD hA [0, 1] rfl (fun _ => rfl) (fun r_40 u_40 H locs hq_40 hP hD hS => ?_)
        subst hq_40
        have hP : va_P D vwCl [(mm, .inr (7, [.ref ms, .int (nZ vsv), .ref mk, .ref mb, .int (nZ vty), .int (nZ 0), .int (nZ ven), .int (nZ vsp), .int (nZ vla), .int (nZ vpc)])), (ms, .inl (k 0, 900, .inl (zA s)))] H := hP
        have hD : va_D A [(mm, .inr (7, [.ref ms, .int (nZ vsv), .ref mk, .ref mb, .int (nZ vty), .int (nZ 0), .int (nZ ven), .int (nZ vsp), .int (nZ vla), .int (nZ vpc)])), (ms, .inl (k 0, 900, .inl (zA s)))] := hD
        refine lv_goto (tgt := 47) hX hB dX7_coin_43 (by decide) ?_
        exact zRetI () X hP hD hS rfl (by congr 1; unfold placeAtS; first | (rw [if_pos ⟨by omega, by omega⟩, coinS_lt (by omega)]; rfl) | rw [if_neg (by omega)]) dX7_coin_47
    · exfalso; omega
set_option maxHeartbeats 4000000 in
set_option maxRecDepth 100000 in
theorem c_X7_coin_e1 (l : Launch) (D : va_G) (k : Nat → ClassId) (sz : Nat) (mm ms mk mb : Nat) (vsv vty vth ven vsp vla vpc : Int) (a c : Int) (hza : zR a) (hzc : zR c) (hb : a < 0 ∨ 2 < a) : Met l yX7_coin (zW yX7_coin cX7_coin 3 (some .int)) ({ frames := 2, cells := 0, slots := 0, locals := 45 } : Room) (va_Pc [.ref mm, .int (nZ a), .int (nZ c)] (zIn D k sz [(mm, .inr (7, [.ref ms, .int (nZ vsv), .ref mk, .ref mb, .int (nZ vty), .int (nZ vth), .int (nZ ven), .int (nZ vsp), .int (nZ vla), .int (nZ vpc)]))])) (va_Qi (fun (rz : Int32) (uz : Unit) => rz = nZ 0) (fun (uz : Unit) => zOut D (va_A [(mm, .inr (7, [.ref ms, .int (nZ vsv), .ref mk, .ref mb, .int (nZ vty), .int (nZ vth), .int (nZ ven), .int (nZ vsp), .int (nZ vla), .int (nZ vpc)]))] sz) [(mm, .inr (7, [.ref ms, .int (nZ vsv), .ref mk, .ref mb, .int (nZ vty), .int (nZ 1), .int (nZ ven), .int (nZ vsp), .int (nZ vla), .int (nZ vpc)]))]) (va_A [(mm, .inr (7, [.ref ms, .int (nZ vsv), .ref mk, .ref mb, .int (nZ vty), .int (nZ vth), .int (nZ ven), .int (nZ vsp), .int (nZ vla), .int (nZ vpc)]))] sz)) 0 0 (va_A [(mm, .inr (7, [.ref ms, .int (nZ vsv), .ref mk, .ref mb, .int (nZ vty), .int (nZ vth), .int (nZ ven), .int (nZ vsp), .int (nZ vla), .int (nZ vpc)]))] sz) := by
  refine zEnter (Qf := fun A => va_Qi (fun (rz : Int32) (uz : Unit) => rz = nZ 0) (fun (uz : Unit) => zOut D A [(mm, .inr (7, [.ref ms, .int (nZ vsv), .ref mk, .ref mb, .int (nZ vty), .int (nZ 1), .int (nZ ven), .int (nZ vsp), .int (nZ vla), .int (nZ vpc)]))]) A) RX7 (by decide) rfl (Nat.le_of_ble_eq_true rfl) ?_
  intro p9 e9 s9 m9 be9 me9 c9 ls A X hin hP hD hS hA hAe hl
  have hX := X.1; have hB := X.2.1; have hz := X.2.2.2.2.1; have hW := X.2.2.2.2.2.1; have hK := X.2.2.2.2.2.2.2; clear hAe
  clear hin
  have hl : lv_has ls 3 [(0, .ref mm), (1, .int (nZ a)), (2, .int (nZ c))] := hl
  refine lv_aload_n hX hB dX7_coin_0 rfl (lv_at hl 0 rfl) ?_
  refine lv_iload_n hX hB dX7_coin_1 rfl (lv_at hl 1 rfl) ?_
  refine zCallI0 (zRunS X ms_X7_isLane (c_X7_isLane_f l D k _ a hza hb) zw_236 (zPreS hP hD hK [] rfl rfl) rfl hl (Nat.le_of_ble_eq_true rfl) dX7_coin_2 ⟨rfl, rfl, ⟨Nat.le_of_ble_eq_true rfl, Nat.le_of_ble_eq_true rfl⟩, Nat.le_of_ble_eq_true rfl, Nat.le_of_ble_eq_true rfl⟩ rfl) hS hP hD hA [] rfl (fun _ => rfl) (fun r_2 u_2 H locs hq_2 hP hD hS => ?_)
  subst hq_2
  have hP : va_P D vwCl [(mm, .inr (7, [.ref ms, .int (nZ vsv), .ref mk, .ref mb, .int (nZ vty), .int (nZ vth), .int (nZ ven), .int (nZ vsp), .int (nZ vla), .int (nZ vpc)]))] H := hP
  have hD : va_D A [(mm, .inr (7, [.ref ms, .int (nZ vsv), .ref mk, .ref mb, .int (nZ vty), .int (nZ vth), .int (nZ ven), .int (nZ vsp), .int (nZ vla), .int (nZ vpc)]))] := hD
  refine lv_iload_n hX hB dX7_coin_5 rfl (lv_at hl 2 rfl) ?_
  refine zz_if_lt X (tgt := 13) dX7_coin_6 (by decide) ⟨by (first | exact hzc.1 | exact hzc.2), by (first | exact hzc.1 | exact hzc.2)⟩ (fun c_6 => ?_) (fun c_6 => ?_)
  · refine lv_iconst (v := nZ 0) hX hB dX7_coin_13 rfl ?_
    refine zCallI0 (zRunV (As := [.int (nZ 0), .int (nZ 0)]) X mv_X7_goes (c_X7_goes_0 l D k _ mm ms mk mb vsv vty vth ven vsp vla vpc 0 ) zw_245 (zPreV hP hD hK [0] rfl rfl 0 7 rfl rfl rfl) rfl hl (Nat.le_of_ble_eq_true rfl) dX7_coin_14 ⟨rfl, rfl, ⟨Nat.le_of_ble_eq_true rfl, Nat.le_of_ble_eq_true rfl⟩, Nat.le_of_ble_eq_true rfl, Nat.le_of_ble_eq_true rfl⟩ rfl) hS hP hD hA [0] rfl (fun _ => rfl) (fun r_14 u_14 H locs hq_14 hP hD hS => ?_)
    subst hq_14
    have hP : va_P D vwCl [(mm, .inr (7, [.ref ms, .int (nZ vsv), .ref mk, .ref mb, .int (nZ vty), .int (nZ 1), .int (nZ ven), .int (nZ vsp), .int (nZ vla), .int (nZ vpc)]))] H := hP
    have hD : va_D A [(mm, .inr (7, [.ref ms, .int (nZ vsv), .ref mk, .ref mb, .int (nZ vty), .int (nZ 1), .int (nZ ven), .int (nZ vsp), .int (nZ vla), .int (nZ vpc)]))] := hD
    refine zz_if_ne X (tgt := 22) dX7_coin_17 (by decide) ⟨by omega, by omega⟩ (fun c_17 => ?_) (fun c_17 => ?_)
    · exfalso; omega
    · refine lv_iconst (v := nZ 0) hX hB dX7_coin_20 rfl ?_
      exact zRetI () X hP hD hS rfl (by first | rfl | (congr 1; omega) | (dsimp only; congr 1; omega)) dX7_coin_21
  · refine lv_iconst (v := nZ 1) hX hB dX7_coin_9 rfl ?_
    refine lv_goto (tgt := 14) hX hB dX7_coin_10 (by decide) ?_
    refine zCallI0 (zRunV (As := [.int (nZ 0), .int (nZ 1)]) X mv_X7_goes (c_X7_goes_0 l D k _ mm ms mk mb vsv vty vth ven vsp vla vpc 1 ) zw_245 (zPreV hP hD hK [0] rfl rfl 0 7 rfl rfl rfl) rfl hl (Nat.le_of_ble_eq_true rfl) dX7_coin_14 ⟨rfl, rfl, ⟨Nat.le_of_ble_eq_true rfl, Nat.le_of_ble_eq_true rfl⟩, Nat.le_of_ble_eq_true rfl, Nat.le_of_ble_eq_true rfl⟩ rfl) hS hP hD hA [0] rfl (fun _ => rfl) (fun r_14 u_14 H locs hq_14 hP hD hS => ?_)
    subst hq_14
    have hP : va_P D vwCl [(mm, .inr (7, [.ref ms, .int (nZ vsv), .ref mk, .ref mb, .int (nZ vty), .int (nZ 1), .int (nZ ven), .int (nZ vsp), .int (nZ vla), .int (nZ vpc)]))] H := hP
    have hD : va_D A [(mm, .inr (7, [.ref ms, .int (nZ vsv), .ref mk, .ref mb, .int (nZ vty), .int (nZ 1), .int (nZ ven), .int (nZ vsp), .int (nZ vla), .int (nZ vpc)]))] := hD
    refine zz_if_ne X (tgt := 22) dX7_coin_17 (by decide) ⟨by omega, by omega⟩ (fun c_17 => ?_) (fun c_17 => ?_)
    · exfalso; omega
    · refine lv_iconst (v := nZ 0) hX hB dX7_coin_20 rfl ?_
      exact zRetI () X hP hD hS rfl (by first | rfl | (congr 1; omega) | (dsimp only; congr 1; omega)) dX7_coin_21
set_option maxHeartbeats 4000000 in
set_option maxRecDepth 100000 in
theorem c_X7_coin_e2 (l : Launch) (D : va_G) (k : Nat → ClassId) (sz : Nat) (mm ms mk mb : Nat) (vsv vty vth ven vsp vla vpc : Int) (a c : Int) (hza : zR a) (hzc : zR c) (ha : 0 ≤ a ∧ a ≤ 2) (hb : c < 0) : Met l yX7_coin (zW yX7_coin cX7_coin 3 (some .int)) ({ frames := 2, cells := 0, slots := 0, locals := 45 } : Room) (va_Pc [.ref mm, .int (nZ a), .int (nZ c)] (zIn D k sz [(mm, .inr (7, [.ref ms, .int (nZ vsv), .ref mk, .ref mb, .int (nZ vty), .int (nZ vth), .int (nZ ven), .int (nZ vsp), .int (nZ vla), .int (nZ vpc)]))])) (va_Qi (fun (rz : Int32) (uz : Unit) => rz = nZ 0) (fun (uz : Unit) => zOut D (va_A [(mm, .inr (7, [.ref ms, .int (nZ vsv), .ref mk, .ref mb, .int (nZ vty), .int (nZ vth), .int (nZ ven), .int (nZ vsp), .int (nZ vla), .int (nZ vpc)]))] sz) [(mm, .inr (7, [.ref ms, .int (nZ vsv), .ref mk, .ref mb, .int (nZ vty), .int (nZ 2), .int (nZ ven), .int (nZ vsp), .int (nZ vla), .int (nZ vpc)]))]) (va_A [(mm, .inr (7, [.ref ms, .int (nZ vsv), .ref mk, .ref mb, .int (nZ vty), .int (nZ vth), .int (nZ ven), .int (nZ vsp), .int (nZ vla), .int (nZ vpc)]))] sz)) 0 0 (va_A [(mm, .inr (7, [.ref ms, .int (nZ vsv), .ref mk, .ref mb, .int (nZ vty), .int (nZ vth), .int (nZ ven), .int (nZ vsp), .int (nZ vla), .int (nZ vpc)]))] sz) := by
  refine zEnter (Qf := fun A => va_Qi (fun (rz : Int32) (uz : Unit) => rz = nZ 0) (fun (uz : Unit) => zOut D A [(mm, .inr (7, [.ref ms, .int (nZ vsv), .ref mk, .ref mb, .int (nZ vty), .int (nZ 2), .int (nZ ven), .int (nZ vsp), .int (nZ vla), .int (nZ vpc)]))]) A) RX7 (by decide) rfl (Nat.le_of_ble_eq_true rfl) ?_
  intro p9 e9 s9 m9 be9 me9 c9 ls A X hin hP hD hS hA hAe hl
  have hX := X.1; have hB := X.2.1; have hz := X.2.2.2.2.1; have hW := X.2.2.2.2.2.1; have hK := X.2.2.2.2.2.2.2; clear hAe
  clear hin
  have hl : lv_has ls 3 [(0, .ref mm), (1, .int (nZ a)), (2, .int (nZ c))] := hl
  refine lv_aload_n hX hB dX7_coin_0 rfl (lv_at hl 0 rfl) ?_
  refine lv_iload_n hX hB dX7_coin_1 rfl (lv_at hl 1 rfl) ?_
  refine zCallI0 (zRunS X ms_X7_isLane (c_X7_isLane_t l D k _ a hza ha) zw_236 (zPreS hP hD hK [] rfl rfl) rfl hl (Nat.le_of_ble_eq_true rfl) dX7_coin_2 ⟨rfl, rfl, ⟨Nat.le_of_ble_eq_true rfl, Nat.le_of_ble_eq_true rfl⟩, Nat.le_of_ble_eq_true rfl, Nat.le_of_ble_eq_true rfl⟩ rfl) hS hP hD hA [] rfl (fun _ => rfl) (fun r_2 u_2 H locs hq_2 hP hD hS => ?_)
  subst hq_2
  have hP : va_P D vwCl [(mm, .inr (7, [.ref ms, .int (nZ vsv), .ref mk, .ref mb, .int (nZ vty), .int (nZ vth), .int (nZ ven), .int (nZ vsp), .int (nZ vla), .int (nZ vpc)]))] H := hP
  have hD : va_D A [(mm, .inr (7, [.ref ms, .int (nZ vsv), .ref mk, .ref mb, .int (nZ vty), .int (nZ vth), .int (nZ ven), .int (nZ vsp), .int (nZ vla), .int (nZ vpc)]))] := hD
  refine lv_iload_n hX hB dX7_coin_5 rfl (lv_at hl 2 rfl) ?_
  refine zz_if_lt X (tgt := 13) dX7_coin_6 (by decide) ⟨by (first | exact hzc.1 | exact hzc.2), by (first | exact hzc.1 | exact hzc.2)⟩ (fun c_6 => ?_) (fun c_6 => ?_)
  · refine lv_iconst (v := nZ 0) hX hB dX7_coin_13 rfl ?_
    refine zCallI0 (zRunV (As := [.int (nZ 1), .int (nZ 0)]) X mv_X7_goes (c_X7_goes_10 l D k _ mm ms mk mb vsv vty vth ven vsp vla vpc ) zw_245 (zPreV hP hD hK [0] rfl rfl 0 7 rfl rfl rfl) rfl hl (Nat.le_of_ble_eq_true rfl) dX7_coin_14 ⟨rfl, rfl, ⟨Nat.le_of_ble_eq_true rfl, Nat.le_of_ble_eq_true rfl⟩, Nat.le_of_ble_eq_true rfl, Nat.le_of_ble_eq_true rfl⟩ rfl) hS hP hD hA [0] rfl (fun _ => rfl) (fun r_14 u_14 H locs hq_14 hP hD hS => ?_)
    subst hq_14
    have hP : va_P D vwCl [(mm, .inr (7, [.ref ms, .int (nZ vsv), .ref mk, .ref mb, .int (nZ vty), .int (nZ 2), .int (nZ ven), .int (nZ vsp), .int (nZ vla), .int (nZ vpc)]))] H := hP
    have hD : va_D A [(mm, .inr (7, [.ref ms, .int (nZ vsv), .ref mk, .ref mb, .int (nZ vty), .int (nZ 2), .int (nZ ven), .int (nZ vsp), .int (nZ vla), .int (nZ vpc)]))] := hD
    refine zz_if_ne X (tgt := 22) dX7_coin_17 (by decide) ⟨by omega, by omega⟩ (fun c_17 => ?_) (fun c_17 => ?_)
    · exfalso; omega
    · refine lv_iconst (v := nZ 0) hX hB dX7_coin_20 rfl ?_
      exact zRetI () X hP hD hS rfl (by first | rfl | (congr 1; omega) | (dsimp only; congr 1; omega)) dX7_coin_21
  · exfalso; omega
set_option maxHeartbeats 4000000 in
set_option maxRecDepth 100000 in
theorem c_X7_ofBed (l : Launch) (D : va_G) (k : Nat → ClassId) (sz : Nat) (mm ms mk mb : Nat) (vsv vty vth ven vsp vla vpc : Int) (s : Nat → Int) (B : Bd) (bed w : Int) (hBk : blkOk s 0 B) (hpl : 0 ≤ B.1 1 ∧ B.1 1 ≤ 1) (hch : chOk (chB B)) (hb : 0 ≤ bed ∧ bed < 9) (hw : 0 ≤ w ∧ w ≤ 4) : Met l yX7_ofBed (zW yX7_ofBed cX7_ofBed 3 (some .int)) ({ frames := 4, cells := 0, slots := 0, locals := 95 } : Room) (va_Pc [.ref mm, .int (nZ bed), .int (nZ w)] (zIn D k sz [(mm, .inr (7, [.ref ms, .int (nZ vsv), .ref mk, .ref mb, .int (nZ vty), .int (nZ vth), .int (nZ ven), .int (nZ vsp), .int (nZ vla), .int (nZ vpc)])), (ms, .inl (k 0, 900, .inl (zA s)))])) (va_Qi (fun (rz : Int32) (uz : Unit) => rz = nZ (bedOfS (chB B) (B.1 1) bed (cleanB B bed) w)) (fun (uz : Unit) => zOut D (va_A [(mm, .inr (7, [.ref ms, .int (nZ vsv), .ref mk, .ref mb, .int (nZ vty), .int (nZ vth), .int (nZ ven), .int (nZ vsp), .int (nZ vla), .int (nZ vpc)])), (ms, .inl (k 0, 900, .inl (zA s)))] sz) [(mm, .inr (7, [.ref ms, .int (nZ vsv), .ref mk, .ref mb, .int (nZ vty), .int (nZ vth), .int (nZ ven), .int (nZ vsp), .int (nZ vla), .int (nZ vpc)])), (ms, .inl (k 0, 900, .inl (zA s)))]) (va_A [(mm, .inr (7, [.ref ms, .int (nZ vsv), .ref mk, .ref mb, .int (nZ vty), .int (nZ vth), .int (nZ ven), .int (nZ vsp), .int (nZ vla), .int (nZ vpc)])), (ms, .inl (k 0, 900, .inl (zA s)))] sz)) 0 0 (va_A [(mm, .inr (7, [.ref ms, .int (nZ vsv), .ref mk, .ref mb, .int (nZ vty), .int (nZ vth), .int (nZ ven), .int (nZ vsp), .int (nZ vla), .int (nZ vpc)])), (ms, .inl (k 0, 900, .inl (zA s)))] sz) := by
  refine zEnter (Qf := fun A => va_Qi (fun (rz : Int32) (uz : Unit) => rz = nZ (bedOfS (chB B) (B.1 1) bed (cleanB B bed) w)) (fun (uz : Unit) => zOut D A [(mm, .inr (7, [.ref ms, .int (nZ vsv), .ref mk, .ref mb, .int (nZ vty), .int (nZ vth), .int (nZ ven), .int (nZ vsp), .int (nZ vla), .int (nZ vpc)])), (ms, .inl (k 0, 900, .inl (zA s)))]) A) RX7 (by decide) rfl (Nat.le_of_ble_eq_true rfl) ?_
  intro p9 e9 s9 m9 be9 me9 c9 ls A X hin hP hD hS hA hAe hl
  have hX := X.1; have hB := X.2.1; have hz := X.2.2.2.2.1; have hW := X.2.2.2.2.2.1; have hK := X.2.2.2.2.2.2.2; clear hAe
  clear hin
  have hl : lv_has ls 3 [(0, .ref mm), (1, .int (nZ bed)), (2, .int (nZ w))] := hl
  refine lv_iload_n hX hB dX7_ofBed_0 rfl (lv_at hl 2 rfl) ?_
  have hsw : (nZ w).toInt = w := nZ_toInt ⟨by omega, by omega⟩
  by_cases s_1_0 : w = 0
  · refine lv_tableIn (tgt := 28) hX hB dX7_ofBed_1 (by rw [hsw]; omega) (by rw [hsw]; omega) (by rw [hsw, s_1_0]; rfl) (by decide) ?_
    refine lv_aload_n hX hB dX7_ofBed_28 rfl (lv_at hl 0 rfl) ?_
    refine lv_iconst (v := nZ 0) hX hB dX7_ofBed_29 rfl ?_
    refine lv_iload_n hX hB dX7_ofBed_30 rfl (lv_at hl 1 rfl) ?_
    refine zCallI0 (zRunV (As := [.int (nZ 0), .int (nZ bed)]) X mv_X7_clean (c_X7_clean l D k _ mm ms mk mb vsv vty vth ven vsp vla vpc s 0 B bed hBk (by first | assumption | omega | exact ⟨by omega, by omega⟩) hb) zw_291 (zPreV hP hD hK [0, 1] rfl rfl 0 7 rfl rfl rfl) rfl hl (Nat.le_of_ble_eq_true rfl) dX7_ofBed_31 ⟨rfl, rfl, ⟨Nat.le_of_ble_eq_true rfl, Nat.le_of_ble_eq_true rfl⟩, Nat.le_of_ble_eq_true rfl, Nat.le_of_ble_eq_true rfl⟩ rfl) hS hP hD hA [0, 1] rfl (fun _ => rfl) (fun r_31 u_31 H locs hq_31 hP hD hS => ?_)
    subst hq_31
    have hP : va_P D vwCl [(mm, .inr (7, [.ref ms, .int (nZ vsv), .ref mk, .ref mb, .int (nZ vty), .int (nZ vth), .int (nZ ven), .int (nZ vsp), .int (nZ vla), .int (nZ vpc)])), (ms, .inl (k 0, 900, .inl (zA s)))] H := hP
    have hD : va_D A [(mm, .inr (7, [.ref ms, .int (nZ vsv), .ref mk, .ref mb, .int (nZ vty), .int (nZ vth), .int (nZ ven), .int (nZ vsp), .int (nZ vla), .int (nZ vpc)])), (ms, .inl (k 0, 900, .inl (zA s)))] := hD
    exact zRetI () X hP hD hS rfl (by congr 1; unfold bedOfS; first | (subst s_1_0; rfl) | (subst s_1_1; rfl) | (subst s_1_2; rfl) | (subst c_50; rfl) | (have h9 : w = 3 := by omega); subst h9; rfl) dX7_ofBed_34
  by_cases s_1_1 : w = 1
  · refine lv_tableIn (tgt := 35) hX hB dX7_ofBed_1 (by rw [hsw]; omega) (by rw [hsw]; omega) (by rw [hsw, s_1_1]; rfl) (by decide) ?_
    refine lv_aload_n hX hB dX7_ofBed_35 rfl (lv_at hl 0 rfl) ?_
    refine lv_iconst (v := nZ 0) hX hB dX7_ofBed_36 rfl ?_
    refine lv_iload_n hX hB dX7_ofBed_37 rfl (lv_at hl 2 rfl) ?_
    refine lv_iconst (v := nZ 1) hX hB dX7_ofBed_38 rfl ?_
    refine zz_isub X dX7_ofBed_39 (z := (w - 1)) (by first | rfl | omega) ?_
    refine lv_iload_n hX hB dX7_ofBed_40 rfl (lv_at hl 1 rfl) ?_
    refine zCallI0 (zRunV (As := [.int (nZ 0), .int (nZ (w - 1)), .int (nZ bed)]) X mv_X7_chalks (c_X7_chalks l D k _ mm ms mk mb vsv vty vth ven vsp vla vpc s 0 B (w - 1) bed hBk (by first | assumption | omega | exact ⟨by omega, by omega⟩) (by first | assumption | omega | exact ⟨by omega, by omega⟩) hb) zw_295 (zPreV hP hD hK [0, 1] rfl rfl 0 7 rfl rfl rfl) rfl hl (Nat.le_of_ble_eq_true rfl) dX7_ofBed_41 ⟨rfl, rfl, ⟨Nat.le_of_ble_eq_true rfl, Nat.le_of_ble_eq_true rfl⟩, Nat.le_of_ble_eq_true rfl, Nat.le_of_ble_eq_true rfl⟩ rfl) hS hP hD hA [0, 1] rfl (fun _ => rfl) (fun r_41 u_41 H locs hq_41 hP hD hS => ?_)
    subst hq_41
    have hP : va_P D vwCl [(mm, .inr (7, [.ref ms, .int (nZ vsv), .ref mk, .ref mb, .int (nZ vty), .int (nZ vth), .int (nZ ven), .int (nZ vsp), .int (nZ vla), .int (nZ vpc)])), (ms, .inl (k 0, 900, .inl (zA s)))] H := hP
    have hD : va_D A [(mm, .inr (7, [.ref ms, .int (nZ vsv), .ref mk, .ref mb, .int (nZ vty), .int (nZ vth), .int (nZ ven), .int (nZ vsp), .int (nZ vla), .int (nZ vpc)])), (ms, .inl (k 0, 900, .inl (zA s)))] := hD
    exact zRetI () X hP hD hS rfl (by congr 1; unfold bedOfS; first | (subst s_1_0; rfl) | (subst s_1_1; rfl) | (subst s_1_2; rfl) | (subst c_50; rfl) | (have h9 : w = 3 := by omega); subst h9; rfl) dX7_ofBed_44
  by_cases s_1_2 : w = 2
  · refine lv_tableIn (tgt := 35) hX hB dX7_ofBed_1 (by rw [hsw]; omega) (by rw [hsw]; omega) (by rw [hsw, s_1_2]; rfl) (by decide) ?_
    refine lv_aload_n hX hB dX7_ofBed_35 rfl (lv_at hl 0 rfl) ?_
    refine lv_iconst (v := nZ 0) hX hB dX7_ofBed_36 rfl ?_
    refine lv_iload_n hX hB dX7_ofBed_37 rfl (lv_at hl 2 rfl) ?_
    refine lv_iconst (v := nZ 1) hX hB dX7_ofBed_38 rfl ?_
    refine zz_isub X dX7_ofBed_39 (z := (w - 1)) (by first | rfl | omega) ?_
    refine lv_iload_n hX hB dX7_ofBed_40 rfl (lv_at hl 1 rfl) ?_
    refine zCallI0 (zRunV (As := [.int (nZ 0), .int (nZ (w - 1)), .int (nZ bed)]) X mv_X7_chalks (c_X7_chalks l D k _ mm ms mk mb vsv vty vth ven vsp vla vpc s 0 B (w - 1) bed hBk (by first | assumption | omega | exact ⟨by omega, by omega⟩) (by first | assumption | omega | exact ⟨by omega, by omega⟩) hb) zw_295 (zPreV hP hD hK [0, 1] rfl rfl 0 7 rfl rfl rfl) rfl hl (Nat.le_of_ble_eq_true rfl) dX7_ofBed_41 ⟨rfl, rfl, ⟨Nat.le_of_ble_eq_true rfl, Nat.le_of_ble_eq_true rfl⟩, Nat.le_of_ble_eq_true rfl, Nat.le_of_ble_eq_true rfl⟩ rfl) hS hP hD hA [0, 1] rfl (fun _ => rfl) (fun r_41 u_41 H locs hq_41 hP hD hS => ?_)
    subst hq_41
    have hP : va_P D vwCl [(mm, .inr (7, [.ref ms, .int (nZ vsv), .ref mk, .ref mb, .int (nZ vty), .int (nZ vth), .int (nZ ven), .int (nZ vsp), .int (nZ vla), .int (nZ vpc)])), (ms, .inl (k 0, 900, .inl (zA s)))] H := hP
    have hD : va_D A [(mm, .inr (7, [.ref ms, .int (nZ vsv), .ref mk, .ref mb, .int (nZ vty), .int (nZ vth), .int (nZ ven), .int (nZ vsp), .int (nZ vla), .int (nZ vpc)])), (ms, .inl (k 0, 900, .inl (zA s)))] := hD
    exact zRetI () X hP hD hS rfl (by congr 1; unfold bedOfS; first | (subst s_1_0; rfl) | (subst s_1_1; rfl) | (subst s_1_2; rfl) | (subst c_50; rfl) | (have h9 : w = 3 := by omega); subst h9; rfl) dX7_ofBed_44
  refine lv_tableOut (tgt := 45) hX hB dX7_ofBed_1 (by rw [hsw]; omega) (by decide) ?_
  refine lv_aload_n hX hB dX7_ofBed_45 rfl (lv_at hl 0 rfl) ?_
  refine lv_iconst (v := nZ 0) hX hB dX7_ofBed_46 rfl ?_
  refine lv_iload_n hX hB dX7_ofBed_47 rfl (lv_at hl 1 rfl) ?_
  refine lv_iload_n hX hB dX7_ofBed_48 rfl (lv_at hl 2 rfl) ?_
  refine lv_iconst (v := nZ 4) hX hB dX7_ofBed_49 rfl ?_
  refine zz_icmp_ne X (tgt := 57) dX7_ofBed_50 (by decide) ⟨by omega, by omega⟩ ⟨by omega, by omega⟩ (fun c_50 => ?_) (fun c_50 => ?_)
  · refine lv_iconst (v := nZ 0) hX hB dX7_ofBed_57 rfl ?_
    refine zCallI0 (zRunV (As := [.int (nZ 0), .int (nZ bed), .int (nZ 0)]) X mv_X7_wouldGet (c_X7_wouldGet_0 l D k _ mm ms mk mb vsv vty vth ven vsp vla vpc s 0 B bed hBk (by first | assumption | omega | exact ⟨by omega, by omega⟩) hpl hch hb) zw_287 (zPreV hP hD hK [0, 1] rfl rfl 0 7 rfl rfl rfl) rfl hl (Nat.le_of_ble_eq_true rfl) dX7_ofBed_58 ⟨rfl, rfl, ⟨Nat.le_of_ble_eq_true rfl, Nat.le_of_ble_eq_true rfl⟩, Nat.le_of_ble_eq_true rfl, Nat.le_of_ble_eq_true rfl⟩ rfl) hS hP hD hA [0, 1] rfl (fun _ => rfl) (fun r_58 u_58 H locs hq_58 hP hD hS => ?_)
    subst hq_58
    have hP : va_P D vwCl [(mm, .inr (7, [.ref ms, .int (nZ vsv), .ref mk, .ref mb, .int (nZ vty), .int (nZ vth), .int (nZ ven), .int (nZ vsp), .int (nZ vla), .int (nZ vpc)])), (ms, .inl (k 0, 900, .inl (zA s)))] H := hP
    have hD : va_D A [(mm, .inr (7, [.ref ms, .int (nZ vsv), .ref mk, .ref mb, .int (nZ vty), .int (nZ vth), .int (nZ ven), .int (nZ vsp), .int (nZ vla), .int (nZ vpc)])), (ms, .inl (k 0, 900, .inl (zA s)))] := hD
    exact zRetI () X hP hD hS rfl (by congr 1; unfold bedOfS; first | (subst s_1_0; rfl) | (subst s_1_1; rfl) | (subst s_1_2; rfl) | (subst c_50; rfl) | (have h9 : w = 3 := by omega); subst h9; rfl) dX7_ofBed_61
  · refine lv_iconst (v := nZ 1) hX hB dX7_ofBed_53 rfl ?_
    refine lv_goto (tgt := 58) hX hB dX7_ofBed_54 (by decide) ?_
    refine zCallI0 (zRunV (As := [.int (nZ 0), .int (nZ bed), .int (nZ 1)]) X mv_X7_wouldGet (c_X7_wouldGet_1 l D k _ mm ms mk mb vsv vty vth ven vsp vla vpc s 0 B bed hBk (by first | assumption | omega | exact ⟨by omega, by omega⟩) hpl hch hb) zw_287 (zPreV hP hD hK [0, 1] rfl rfl 0 7 rfl rfl rfl) rfl hl (Nat.le_of_ble_eq_true rfl) dX7_ofBed_58 ⟨rfl, rfl, ⟨Nat.le_of_ble_eq_true rfl, Nat.le_of_ble_eq_true rfl⟩, Nat.le_of_ble_eq_true rfl, Nat.le_of_ble_eq_true rfl⟩ rfl) hS hP hD hA [0, 1] rfl (fun _ => rfl) (fun r_58 u_58 H locs hq_58 hP hD hS => ?_)
    subst hq_58
    have hP : va_P D vwCl [(mm, .inr (7, [.ref ms, .int (nZ vsv), .ref mk, .ref mb, .int (nZ vty), .int (nZ vth), .int (nZ ven), .int (nZ vsp), .int (nZ vla), .int (nZ vpc)])), (ms, .inl (k 0, 900, .inl (zA s)))] H := hP
    have hD : va_D A [(mm, .inr (7, [.ref ms, .int (nZ vsv), .ref mk, .ref mb, .int (nZ vty), .int (nZ vth), .int (nZ ven), .int (nZ vsp), .int (nZ vla), .int (nZ vpc)])), (ms, .inl (k 0, 900, .inl (zA s)))] := hD
    exact zRetI () X hP hD hS rfl (by congr 1; unfold bedOfS; first | (subst s_1_0; rfl) | (subst s_1_1; rfl) | (subst s_1_2; rfl) | (subst c_50; rfl) | (have h9 : w = 3 := by omega); subst h9; rfl) dX7_ofBed_61
set_option maxHeartbeats 4000000 in
set_option maxRecDepth 100000 in
theorem c_X7_bedOf (l : Launch) (D : va_G) (k : Nat → ClassId) (sz : Nat) (mm ms mk mb : Nat) (vsv vty vth ven vsp vla vpc : Int) (s : Nat → Int) (B : Bd) (bed w : Int) (hBk : blkOk s 0 B) (hpl : 0 ≤ B.1 1 ∧ B.1 1 ≤ 1) (hch : chOk (chB B)) (hb : 0 ≤ bed ∧ bed < 9) (hw : 0 ≤ w ∧ w ≤ 4) : Met l yX7_bedOf (zW yX7_bedOf cX7_bedOf 3 (some .int)) ({ frames := 5, cells := 0, slots := 0, locals := 117 } : Room) (va_Pc [.ref mm, .int (nZ bed), .int (nZ w)] (zIn D k sz [(mm, .inr (7, [.ref ms, .int (nZ vsv), .ref mk, .ref mb, .int (nZ vty), .int (nZ vth), .int (nZ ven), .int (nZ vsp), .int (nZ vla), .int (nZ vpc)])), (ms, .inl (k 0, 900, .inl (zA s)))])) (va_Qi (fun (rz : Int32) (uz : Unit) => rz = nZ (bedOfS (chB B) (B.1 1) bed (cleanB B bed) w)) (fun (uz : Unit) => zOut D (va_A [(mm, .inr (7, [.ref ms, .int (nZ vsv), .ref mk, .ref mb, .int (nZ vty), .int (nZ vth), .int (nZ ven), .int (nZ vsp), .int (nZ vla), .int (nZ vpc)])), (ms, .inl (k 0, 900, .inl (zA s)))] sz) [(mm, .inr (7, [.ref ms, .int (nZ vsv), .ref mk, .ref mb, .int (nZ vty), .int (nZ 0), .int (nZ ven), .int (nZ vsp), .int (nZ vla), .int (nZ vpc)])), (ms, .inl (k 0, 900, .inl (zA s)))]) (va_A [(mm, .inr (7, [.ref ms, .int (nZ vsv), .ref mk, .ref mb, .int (nZ vty), .int (nZ vth), .int (nZ ven), .int (nZ vsp), .int (nZ vla), .int (nZ vpc)])), (ms, .inl (k 0, 900, .inl (zA s)))] sz)) 0 0 (va_A [(mm, .inr (7, [.ref ms, .int (nZ vsv), .ref mk, .ref mb, .int (nZ vty), .int (nZ vth), .int (nZ ven), .int (nZ vsp), .int (nZ vla), .int (nZ vpc)])), (ms, .inl (k 0, 900, .inl (zA s)))] sz) := by
  refine zEnter (Qf := fun A => va_Qi (fun (rz : Int32) (uz : Unit) => rz = nZ (bedOfS (chB B) (B.1 1) bed (cleanB B bed) w)) (fun (uz : Unit) => zOut D A [(mm, .inr (7, [.ref ms, .int (nZ vsv), .ref mk, .ref mb, .int (nZ vty), .int (nZ 0), .int (nZ ven), .int (nZ vsp), .int (nZ vla), .int (nZ vpc)])), (ms, .inl (k 0, 900, .inl (zA s)))]) A) RX7 (by decide) rfl (Nat.le_of_ble_eq_true rfl) ?_
  intro p9 e9 s9 m9 be9 me9 c9 ls A X hin hP hD hS hA hAe hl
  have hX := X.1; have hB := X.2.1; have hz := X.2.2.2.2.1; have hW := X.2.2.2.2.2.1; have hK := X.2.2.2.2.2.2.2; clear hAe
  clear hin
  have hl : lv_has ls 3 [(0, .ref mm), (1, .int (nZ bed)), (2, .int (nZ w))] := hl
  refine lv_aload_n hX hB dX7_bedOf_0 rfl (lv_at hl 0 rfl) ?_
  refine lv_iload_n hX hB dX7_bedOf_1 rfl (lv_at hl 1 rfl) ?_
  refine lv_iconst (v := nZ 0) hX hB dX7_bedOf_2 rfl ?_
  refine lv_bipush (v := nZ 8) hX hB dX7_bedOf_3 (by decide) ?_
  refine zCallI0 (zRunS X ms_X7_in (c_X7_in_t l D k _ bed 0 8 (by first | assumption | omega | exact ⟨by omega, by omega⟩) (by first | assumption | omega | exact ⟨by omega, by omega⟩) (by first | assumption | omega | exact ⟨by omega, by omega⟩) (by first | assumption | omega | exact ⟨by omega, by omega⟩)) zw_239 (zPreS hP hD hK [] rfl rfl) rfl hl (Nat.le_of_ble_eq_true rfl) dX7_bedOf_5 ⟨rfl, rfl, ⟨Nat.le_of_ble_eq_true rfl, Nat.le_of_ble_eq_true rfl⟩, Nat.le_of_ble_eq_true rfl, Nat.le_of_ble_eq_true rfl⟩ rfl) hS hP hD hA [] rfl (fun _ => rfl) (fun r_5 u_5 H locs hq_5 hP hD hS => ?_)
  subst hq_5
  have hP : va_P D vwCl [(mm, .inr (7, [.ref ms, .int (nZ vsv), .ref mk, .ref mb, .int (nZ vty), .int (nZ vth), .int (nZ ven), .int (nZ vsp), .int (nZ vla), .int (nZ vpc)])), (ms, .inl (k 0, 900, .inl (zA s)))] H := hP
  have hD : va_D A [(mm, .inr (7, [.ref ms, .int (nZ vsv), .ref mk, .ref mb, .int (nZ vty), .int (nZ vth), .int (nZ ven), .int (nZ vsp), .int (nZ vla), .int (nZ vpc)])), (ms, .inl (k 0, 900, .inl (zA s)))] := hD
  refine lv_iload_n hX hB dX7_bedOf_8 rfl (lv_at hl 2 rfl) ?_
  refine lv_iconst (v := nZ 0) hX hB dX7_bedOf_9 rfl ?_
  refine lv_iconst (v := nZ 4) hX hB dX7_bedOf_10 rfl ?_
  refine zCallI0 (zRunS X ms_X7_in (c_X7_in_t l D k _ w 0 4 (by first | assumption | omega | exact ⟨by omega, by omega⟩) (by first | assumption | omega | exact ⟨by omega, by omega⟩) (by first | assumption | omega | exact ⟨by omega, by omega⟩) hw) zw_239 (zPreS hP hD hK [] rfl rfl) rfl hl (Nat.le_of_ble_eq_true rfl) dX7_bedOf_11 ⟨rfl, rfl, ⟨Nat.le_of_ble_eq_true rfl, Nat.le_of_ble_eq_true rfl⟩, Nat.le_of_ble_eq_true rfl, Nat.le_of_ble_eq_true rfl⟩ rfl) hS hP hD hA [] rfl (fun _ => rfl) (fun r_11 u_11 H locs hq_11 hP hD hS => ?_)
  subst hq_11
  have hP : va_P D vwCl [(mm, .inr (7, [.ref ms, .int (nZ vsv), .ref mk, .ref mb, .int (nZ vty), .int (nZ vth), .int (nZ ven), .int (nZ vsp), .int (nZ vla), .int (nZ vpc)])), (ms, .inl (k 0, 900, .inl (zA s)))] H := hP
  have hD : va_D A [(mm, .inr (7, [.ref ms, .int (nZ vsv), .ref mk, .ref mb, .int (nZ vty), .int (nZ vth), .int (nZ ven), .int (nZ vsp), .int (nZ vla), .int (nZ vpc)])), (ms, .inl (k 0, 900, .inl (zA s)))] := hD
  refine zCallI0 (zRunV (As := [.int (nZ 1), .int (nZ 1)]) X mv_X7_goes (c_X7_goes_11 l D k _ mm ms mk mb vsv vty vth ven vsp vla vpc ) zw_245 (zPreV hP hD hK [0] rfl rfl 0 7 rfl rfl rfl) rfl hl (Nat.le_of_ble_eq_true rfl) dX7_bedOf_14 ⟨rfl, rfl, ⟨Nat.le_of_ble_eq_true rfl, Nat.le_of_ble_eq_true rfl⟩, Nat.le_of_ble_eq_true rfl, Nat.le_of_ble_eq_true rfl⟩ rfl) hS hP hD hA [0] rfl (fun _ => rfl) (fun r_14 u_14 H locs hq_14 hP hD hS => ?_)
  subst hq_14
  have hP : va_P D vwCl [(mm, .inr (7, [.ref ms, .int (nZ vsv), .ref mk, .ref mb, .int (nZ vty), .int (nZ 0), .int (nZ ven), .int (nZ vsp), .int (nZ vla), .int (nZ vpc)])), (ms, .inl (k 0, 900, .inl (zA s)))] H := hP
  have hD : va_D A [(mm, .inr (7, [.ref ms, .int (nZ vsv), .ref mk, .ref mb, .int (nZ vty), .int (nZ 0), .int (nZ ven), .int (nZ vsp), .int (nZ vla), .int (nZ vpc)])), (ms, .inl (k 0, 900, .inl (zA s)))] := hD
  refine zz_if_eq X (tgt := 29) dX7_bedOf_17 (by decide) ⟨by omega, by omega⟩ (fun c_17 => ?_) (fun c_17 => ?_)
  · exfalso; omega
  · refine lv_aload_n hX hB dX7_bedOf_20 rfl (lv_at hl 0 rfl) ?_
    refine lv_iload_n hX hB dX7_bedOf_21 rfl (lv_at hl 1 rfl) ?_
    refine lv_iload_n hX hB dX7_bedOf_22 rfl (lv_at hl 2 rfl) ?_
    refine zCallI0 (zRunV (As := [.int (nZ bed), .int (nZ w)]) X mv_X7_ofBed (c_X7_ofBed l D k _ mm ms mk mb vsv vty 0 ven vsp vla vpc s B bed w hBk hpl hch hb hw) zw_534 (zPreV hP hD hK [0, 1] rfl rfl 0 7 rfl rfl rfl) rfl hl (Nat.le_of_ble_eq_true rfl) dX7_bedOf_23 ⟨rfl, rfl, ⟨Nat.le_of_ble_eq_true rfl, Nat.le_of_ble_eq_true rfl⟩, Nat.le_of_ble_eq_true rfl, Nat.le_of_ble_eq_true rfl⟩ rfl) hS hP hD hA [0, 1] rfl (fun _ => rfl) (fun r_23 u_23 H locs hq_23 hP hD hS => ?_)
    subst hq_23
    have hP : va_P D vwCl [(mm, .inr (7, [.ref ms, .int (nZ vsv), .ref mk, .ref mb, .int (nZ vty), .int (nZ 0), .int (nZ ven), .int (nZ vsp), .int (nZ vla), .int (nZ vpc)])), (ms, .inl (k 0, 900, .inl (zA s)))] H := hP
    have hD : va_D A [(mm, .inr (7, [.ref ms, .int (nZ vsv), .ref mk, .ref mb, .int (nZ vty), .int (nZ 0), .int (nZ ven), .int (nZ vsp), .int (nZ vla), .int (nZ vpc)])), (ms, .inl (k 0, 900, .inl (zA s)))] := hD
    refine lv_goto (tgt := 30) hX hB dX7_bedOf_26 (by decide) ?_
    exact zRetI () X hP hD hS rfl (by first | rfl | (congr 1; omega) | (dsimp only; congr 1; omega)) dX7_bedOf_30
set_option maxHeartbeats 4000000 in
set_option maxRecDepth 100000 in
theorem c_X7_bedOf_e1 (l : Launch) (D : va_G) (k : Nat → ClassId) (sz : Nat) (mm ms mk mb : Nat) (vsv vty vth ven vsp vla vpc : Int) (a c : Int) (hza : zR a) (hzc : zR c) (hb : a < 0 ∨ 8 < a) : Met l yX7_bedOf (zW yX7_bedOf cX7_bedOf 3 (some .int)) ({ frames := 5, cells := 0, slots := 0, locals := 117 } : Room) (va_Pc [.ref mm, .int (nZ a), .int (nZ c)] (zIn D k sz [(mm, .inr (7, [.ref ms, .int (nZ vsv), .ref mk, .ref mb, .int (nZ vty), .int (nZ vth), .int (nZ ven), .int (nZ vsp), .int (nZ vla), .int (nZ vpc)]))])) (va_Qi (fun (rz : Int32) (uz : Unit) => rz = nZ 0) (fun (uz : Unit) => zOut D (va_A [(mm, .inr (7, [.ref ms, .int (nZ vsv), .ref mk, .ref mb, .int (nZ vty), .int (nZ vth), .int (nZ ven), .int (nZ vsp), .int (nZ vla), .int (nZ vpc)]))] sz) [(mm, .inr (7, [.ref ms, .int (nZ vsv), .ref mk, .ref mb, .int (nZ vty), .int (nZ 1), .int (nZ ven), .int (nZ vsp), .int (nZ vla), .int (nZ vpc)]))]) (va_A [(mm, .inr (7, [.ref ms, .int (nZ vsv), .ref mk, .ref mb, .int (nZ vty), .int (nZ vth), .int (nZ ven), .int (nZ vsp), .int (nZ vla), .int (nZ vpc)]))] sz)) 0 0 (va_A [(mm, .inr (7, [.ref ms, .int (nZ vsv), .ref mk, .ref mb, .int (nZ vty), .int (nZ vth), .int (nZ ven), .int (nZ vsp), .int (nZ vla), .int (nZ vpc)]))] sz) := by
  refine zEnter (Qf := fun A => va_Qi (fun (rz : Int32) (uz : Unit) => rz = nZ 0) (fun (uz : Unit) => zOut D A [(mm, .inr (7, [.ref ms, .int (nZ vsv), .ref mk, .ref mb, .int (nZ vty), .int (nZ 1), .int (nZ ven), .int (nZ vsp), .int (nZ vla), .int (nZ vpc)]))]) A) RX7 (by decide) rfl (Nat.le_of_ble_eq_true rfl) ?_
  intro p9 e9 s9 m9 be9 me9 c9 ls A X hin hP hD hS hA hAe hl
  have hX := X.1; have hB := X.2.1; have hz := X.2.2.2.2.1; have hW := X.2.2.2.2.2.1; have hK := X.2.2.2.2.2.2.2; clear hAe
  clear hin
  have hl : lv_has ls 3 [(0, .ref mm), (1, .int (nZ a)), (2, .int (nZ c))] := hl
  refine lv_aload_n hX hB dX7_bedOf_0 rfl (lv_at hl 0 rfl) ?_
  refine lv_iload_n hX hB dX7_bedOf_1 rfl (lv_at hl 1 rfl) ?_
  refine lv_iconst (v := nZ 0) hX hB dX7_bedOf_2 rfl ?_
  refine lv_bipush (v := nZ 8) hX hB dX7_bedOf_3 (by decide) ?_
  refine zCallI0 (zRunS X ms_X7_in (c_X7_in_f l D k _ a 0 8 hza (by first | assumption | omega | exact ⟨by omega, by omega⟩) (by first | assumption | omega | exact ⟨by omega, by omega⟩) hb) zw_239 (zPreS hP hD hK [] rfl rfl) rfl hl (Nat.le_of_ble_eq_true rfl) dX7_bedOf_5 ⟨rfl, rfl, ⟨Nat.le_of_ble_eq_true rfl, Nat.le_of_ble_eq_true rfl⟩, Nat.le_of_ble_eq_true rfl, Nat.le_of_ble_eq_true rfl⟩ rfl) hS hP hD hA [] rfl (fun _ => rfl) (fun r_5 u_5 H locs hq_5 hP hD hS => ?_)
  subst hq_5
  have hP : va_P D vwCl [(mm, .inr (7, [.ref ms, .int (nZ vsv), .ref mk, .ref mb, .int (nZ vty), .int (nZ vth), .int (nZ ven), .int (nZ vsp), .int (nZ vla), .int (nZ vpc)]))] H := hP
  have hD : va_D A [(mm, .inr (7, [.ref ms, .int (nZ vsv), .ref mk, .ref mb, .int (nZ vty), .int (nZ vth), .int (nZ ven), .int (nZ vsp), .int (nZ vla), .int (nZ vpc)]))] := hD
  refine lv_iload_n hX hB dX7_bedOf_8 rfl (lv_at hl 2 rfl) ?_
  refine lv_iconst (v := nZ 0) hX hB dX7_bedOf_9 rfl ?_
  refine lv_iconst (v := nZ 4) hX hB dX7_bedOf_10 rfl ?_
  refine zCallI0 (zRunS X ms_X7_in (c_X7_in_g l D k _ c 0 4 hzc (by first | assumption | omega | exact ⟨by omega, by omega⟩) (by first | assumption | omega | exact ⟨by omega, by omega⟩)) zw_239 (zPreS hP hD hK [] rfl rfl) rfl hl (Nat.le_of_ble_eq_true rfl) dX7_bedOf_11 ⟨rfl, rfl, ⟨Nat.le_of_ble_eq_true rfl, Nat.le_of_ble_eq_true rfl⟩, Nat.le_of_ble_eq_true rfl, Nat.le_of_ble_eq_true rfl⟩ rfl) hS hP hD hA [] rfl (fun _ => rfl) (fun r_11 u_11 H locs hq_11 hP hD hS => ?_)
  subst hq_11
  have hP : va_P D vwCl [(mm, .inr (7, [.ref ms, .int (nZ vsv), .ref mk, .ref mb, .int (nZ vty), .int (nZ vth), .int (nZ ven), .int (nZ vsp), .int (nZ vla), .int (nZ vpc)]))] H := hP
  have hD : va_D A [(mm, .inr (7, [.ref ms, .int (nZ vsv), .ref mk, .ref mb, .int (nZ vty), .int (nZ vth), .int (nZ ven), .int (nZ vsp), .int (nZ vla), .int (nZ vpc)]))] := hD
  refine zCallI0 (zRunV (As := [.int (nZ 0), .int (nZ (if 0 ≤ c ∧ c ≤ 4 then 1 else 0))]) X mv_X7_goes (c_X7_goes_0 l D k _ mm ms mk mb vsv vty vth ven vsp vla vpc (if 0 ≤ c ∧ c ≤ 4 then 1 else 0) ) zw_245 (zPreV hP hD hK [0] rfl rfl 0 7 rfl rfl rfl) rfl hl (Nat.le_of_ble_eq_true rfl) dX7_bedOf_14 ⟨rfl, rfl, ⟨Nat.le_of_ble_eq_true rfl, Nat.le_of_ble_eq_true rfl⟩, Nat.le_of_ble_eq_true rfl, Nat.le_of_ble_eq_true rfl⟩ rfl) hS hP hD hA [0] rfl (fun _ => rfl) (fun r_14 u_14 H locs hq_14 hP hD hS => ?_)
  subst hq_14
  have hP : va_P D vwCl [(mm, .inr (7, [.ref ms, .int (nZ vsv), .ref mk, .ref mb, .int (nZ vty), .int (nZ 1), .int (nZ ven), .int (nZ vsp), .int (nZ vla), .int (nZ vpc)]))] H := hP
  have hD : va_D A [(mm, .inr (7, [.ref ms, .int (nZ vsv), .ref mk, .ref mb, .int (nZ vty), .int (nZ 1), .int (nZ ven), .int (nZ vsp), .int (nZ vla), .int (nZ vpc)]))] := hD
  refine zz_if_eq X (tgt := 29) dX7_bedOf_17 (by decide) ⟨by omega, by omega⟩ (fun c_17 => ?_) (fun c_17 => ?_)
  · refine lv_iconst (v := nZ 0) hX hB dX7_bedOf_29 rfl ?_
    exact zRetI () X hP hD hS rfl (by first | rfl | (congr 1; omega) | (dsimp only; congr 1; omega)) dX7_bedOf_30
  · exfalso; omega
set_option maxHeartbeats 4000000 in
set_option maxRecDepth 100000 in
theorem c_X7_bedOf_e2 (l : Launch) (D : va_G) (k : Nat → ClassId) (sz : Nat) (mm ms mk mb : Nat) (vsv vty vth ven vsp vla vpc : Int) (a c : Int) (hza : zR a) (hzc : zR c) (ha : 0 ≤ a ∧ a ≤ 8) (hb : c < 0 ∨ 4 < c) : Met l yX7_bedOf (zW yX7_bedOf cX7_bedOf 3 (some .int)) ({ frames := 5, cells := 0, slots := 0, locals := 117 } : Room) (va_Pc [.ref mm, .int (nZ a), .int (nZ c)] (zIn D k sz [(mm, .inr (7, [.ref ms, .int (nZ vsv), .ref mk, .ref mb, .int (nZ vty), .int (nZ vth), .int (nZ ven), .int (nZ vsp), .int (nZ vla), .int (nZ vpc)]))])) (va_Qi (fun (rz : Int32) (uz : Unit) => rz = nZ 0) (fun (uz : Unit) => zOut D (va_A [(mm, .inr (7, [.ref ms, .int (nZ vsv), .ref mk, .ref mb, .int (nZ vty), .int (nZ vth), .int (nZ ven), .int (nZ vsp), .int (nZ vla), .int (nZ vpc)]))] sz) [(mm, .inr (7, [.ref ms, .int (nZ vsv), .ref mk, .ref mb, .int (nZ vty), .int (nZ 2), .int (nZ ven), .int (nZ vsp), .int (nZ vla), .int (nZ vpc)]))]) (va_A [(mm, .inr (7, [.ref ms, .int (nZ vsv), .ref mk, .ref mb, .int (nZ vty), .int (nZ vth), .int (nZ ven), .int (nZ vsp), .int (nZ vla), .int (nZ vpc)]))] sz)) 0 0 (va_A [(mm, .inr (7, [.ref ms, .int (nZ vsv), .ref mk, .ref mb, .int (nZ vty), .int (nZ vth), .int (nZ ven), .int (nZ vsp), .int (nZ vla), .int (nZ vpc)]))] sz) := by
  refine zEnter (Qf := fun A => va_Qi (fun (rz : Int32) (uz : Unit) => rz = nZ 0) (fun (uz : Unit) => zOut D A [(mm, .inr (7, [.ref ms, .int (nZ vsv), .ref mk, .ref mb, .int (nZ vty), .int (nZ 2), .int (nZ ven), .int (nZ vsp), .int (nZ vla), .int (nZ vpc)]))]) A) RX7 (by decide) rfl (Nat.le_of_ble_eq_true rfl) ?_
  intro p9 e9 s9 m9 be9 me9 c9 ls A X hin hP hD hS hA hAe hl
  have hX := X.1; have hB := X.2.1; have hz := X.2.2.2.2.1; have hW := X.2.2.2.2.2.1; have hK := X.2.2.2.2.2.2.2; clear hAe
  clear hin
  have hl : lv_has ls 3 [(0, .ref mm), (1, .int (nZ a)), (2, .int (nZ c))] := hl
  refine lv_aload_n hX hB dX7_bedOf_0 rfl (lv_at hl 0 rfl) ?_
  refine lv_iload_n hX hB dX7_bedOf_1 rfl (lv_at hl 1 rfl) ?_
  refine lv_iconst (v := nZ 0) hX hB dX7_bedOf_2 rfl ?_
  refine lv_bipush (v := nZ 8) hX hB dX7_bedOf_3 (by decide) ?_
  refine zCallI0 (zRunS X ms_X7_in (c_X7_in_t l D k _ a 0 8 hza (by first | assumption | omega | exact ⟨by omega, by omega⟩) (by first | assumption | omega | exact ⟨by omega, by omega⟩) ha) zw_239 (zPreS hP hD hK [] rfl rfl) rfl hl (Nat.le_of_ble_eq_true rfl) dX7_bedOf_5 ⟨rfl, rfl, ⟨Nat.le_of_ble_eq_true rfl, Nat.le_of_ble_eq_true rfl⟩, Nat.le_of_ble_eq_true rfl, Nat.le_of_ble_eq_true rfl⟩ rfl) hS hP hD hA [] rfl (fun _ => rfl) (fun r_5 u_5 H locs hq_5 hP hD hS => ?_)
  subst hq_5
  have hP : va_P D vwCl [(mm, .inr (7, [.ref ms, .int (nZ vsv), .ref mk, .ref mb, .int (nZ vty), .int (nZ vth), .int (nZ ven), .int (nZ vsp), .int (nZ vla), .int (nZ vpc)]))] H := hP
  have hD : va_D A [(mm, .inr (7, [.ref ms, .int (nZ vsv), .ref mk, .ref mb, .int (nZ vty), .int (nZ vth), .int (nZ ven), .int (nZ vsp), .int (nZ vla), .int (nZ vpc)]))] := hD
  refine lv_iload_n hX hB dX7_bedOf_8 rfl (lv_at hl 2 rfl) ?_
  refine lv_iconst (v := nZ 0) hX hB dX7_bedOf_9 rfl ?_
  refine lv_iconst (v := nZ 4) hX hB dX7_bedOf_10 rfl ?_
  refine zCallI0 (zRunS X ms_X7_in (c_X7_in_f l D k _ c 0 4 hzc (by first | assumption | omega | exact ⟨by omega, by omega⟩) (by first | assumption | omega | exact ⟨by omega, by omega⟩) hb) zw_239 (zPreS hP hD hK [] rfl rfl) rfl hl (Nat.le_of_ble_eq_true rfl) dX7_bedOf_11 ⟨rfl, rfl, ⟨Nat.le_of_ble_eq_true rfl, Nat.le_of_ble_eq_true rfl⟩, Nat.le_of_ble_eq_true rfl, Nat.le_of_ble_eq_true rfl⟩ rfl) hS hP hD hA [] rfl (fun _ => rfl) (fun r_11 u_11 H locs hq_11 hP hD hS => ?_)
  subst hq_11
  have hP : va_P D vwCl [(mm, .inr (7, [.ref ms, .int (nZ vsv), .ref mk, .ref mb, .int (nZ vty), .int (nZ vth), .int (nZ ven), .int (nZ vsp), .int (nZ vla), .int (nZ vpc)]))] H := hP
  have hD : va_D A [(mm, .inr (7, [.ref ms, .int (nZ vsv), .ref mk, .ref mb, .int (nZ vty), .int (nZ vth), .int (nZ ven), .int (nZ vsp), .int (nZ vla), .int (nZ vpc)]))] := hD
  refine zCallI0 (zRunV (As := [.int (nZ 1), .int (nZ 0)]) X mv_X7_goes (c_X7_goes_10 l D k _ mm ms mk mb vsv vty vth ven vsp vla vpc ) zw_245 (zPreV hP hD hK [0] rfl rfl 0 7 rfl rfl rfl) rfl hl (Nat.le_of_ble_eq_true rfl) dX7_bedOf_14 ⟨rfl, rfl, ⟨Nat.le_of_ble_eq_true rfl, Nat.le_of_ble_eq_true rfl⟩, Nat.le_of_ble_eq_true rfl, Nat.le_of_ble_eq_true rfl⟩ rfl) hS hP hD hA [0] rfl (fun _ => rfl) (fun r_14 u_14 H locs hq_14 hP hD hS => ?_)
  subst hq_14
  have hP : va_P D vwCl [(mm, .inr (7, [.ref ms, .int (nZ vsv), .ref mk, .ref mb, .int (nZ vty), .int (nZ 2), .int (nZ ven), .int (nZ vsp), .int (nZ vla), .int (nZ vpc)]))] H := hP
  have hD : va_D A [(mm, .inr (7, [.ref ms, .int (nZ vsv), .ref mk, .ref mb, .int (nZ vty), .int (nZ 2), .int (nZ ven), .int (nZ vsp), .int (nZ vla), .int (nZ vpc)]))] := hD
  refine zz_if_eq X (tgt := 29) dX7_bedOf_17 (by decide) ⟨by omega, by omega⟩ (fun c_17 => ?_) (fun c_17 => ?_)
  · refine lv_iconst (v := nZ 0) hX hB dX7_bedOf_29 rfl ?_
    exact zRetI () X hP hD hS rfl (by first | rfl | (congr 1; omega) | (dsimp only; congr 1; omega)) dX7_bedOf_30
  · exfalso; omega
set_option maxHeartbeats 4000000 in
set_option maxRecDepth 100000 in
theorem c_X7_counted (l : Launch) (D : va_G) (k : Nat → ClassId) (sz : Nat) (mm ms mk mb : Nat) (vsv vty vth ven vsp vla vpc : Int) (s : Nat → Int) (B : Bd) (w : Int) (hBk : blkOk s 0 B) (hw : 0 ≤ w ∧ w ≤ 12) : Met l yX7_counted (zW yX7_counted cX7_counted 2 (some .int)) ({ frames := 4, cells := 0, slots := 0, locals := 92 } : Room) (va_Pc [.ref mm, .int (nZ w)] (zIn D k sz [(mm, .inr (7, [.ref ms, .int (nZ vsv), .ref mk, .ref mb, .int (nZ vty), .int (nZ vth), .int (nZ ven), .int (nZ vsp), .int (nZ vla), .int (nZ vpc)])), (ms, .inl (k 0, 900, .inl (zA s)))])) (va_Qi (fun (rz : Int32) (uz : Unit) => rz = nZ (countS (B.1 1) (B.1 2) (coinsB B) (cleanAllB B) (chSum (chB B) 0) (chSum (chB B) 1) (B.1 3) (B.1 4) (B.1 5) (B.1 6) (B.1 7) (B.1 8) vsv w)) (fun (uz : Unit) => zOut D (va_A [(mm, .inr (7, [.ref ms, .int (nZ vsv), .ref mk, .ref mb, .int (nZ vty), .int (nZ vth), .int (nZ ven), .int (nZ vsp), .int (nZ vla), .int (nZ vpc)])), (ms, .inl (k 0, 900, .inl (zA s)))] sz) [(mm, .inr (7, [.ref ms, .int (nZ vsv), .ref mk, .ref mb, .int (nZ vty), .int (nZ vth), .int (nZ ven), .int (nZ vsp), .int (nZ vla), .int (nZ vpc)])), (ms, .inl (k 0, 900, .inl (zA s)))]) (va_A [(mm, .inr (7, [.ref ms, .int (nZ vsv), .ref mk, .ref mb, .int (nZ vty), .int (nZ vth), .int (nZ ven), .int (nZ vsp), .int (nZ vla), .int (nZ vpc)])), (ms, .inl (k 0, 900, .inl (zA s)))] sz)) 0 0 (va_A [(mm, .inr (7, [.ref ms, .int (nZ vsv), .ref mk, .ref mb, .int (nZ vty), .int (nZ vth), .int (nZ ven), .int (nZ vsp), .int (nZ vla), .int (nZ vpc)])), (ms, .inl (k 0, 900, .inl (zA s)))] sz) := by
  refine zEnter (Qf := fun A => va_Qi (fun (rz : Int32) (uz : Unit) => rz = nZ (countS (B.1 1) (B.1 2) (coinsB B) (cleanAllB B) (chSum (chB B) 0) (chSum (chB B) 1) (B.1 3) (B.1 4) (B.1 5) (B.1 6) (B.1 7) (B.1 8) vsv w)) (fun (uz : Unit) => zOut D A [(mm, .inr (7, [.ref ms, .int (nZ vsv), .ref mk, .ref mb, .int (nZ vty), .int (nZ vth), .int (nZ ven), .int (nZ vsp), .int (nZ vla), .int (nZ vpc)])), (ms, .inl (k 0, 900, .inl (zA s)))]) A) RX7 (by decide) rfl (Nat.le_of_ble_eq_true rfl) ?_
  intro p9 e9 s9 m9 be9 me9 c9 ls A X hin hP hD hS hA hAe hl
  have hX := X.1; have hB := X.2.1; have hz := X.2.2.2.2.1; have hW := X.2.2.2.2.2.1; have hK := X.2.2.2.2.2.2.2; clear hAe
  clear hin
  have hl : lv_has ls 2 [(0, .ref mm), (1, .int (nZ w))] := hl
  refine lv_iload_n hX hB dX7_counted_0 rfl (lv_at hl 1 rfl) ?_
  have hsw : (nZ w).toInt = w := nZ_toInt ⟨by omega, by omega⟩
  by_cases s_1_0 : w = 0
  · refine lv_tableIn (tgt := 68) hX hB dX7_counted_1 (by rw [hsw]; omega) (by rw [hsw]; omega) (by rw [hsw, s_1_0]; rfl) (by decide) ?_
    refine lv_aload_n hX hB dX7_counted_68 rfl (lv_at hl 0 rfl) ?_
    refine va_get hX hB hz inlX7 hW hK.1 hP 0 rfl rfl 0 (by decide) (hz _ zw_74) (fun _ h9 => h9) rfl dX7_counted_69 ?_
    refine lv_iconst (v := nZ 1) hX hB dX7_counted_72 rfl ?_
    refine zz_iald X hP 1 0 rfl rfl 1 (by omega) (by omega) (by first | decide | omega) dX7_counted_73 ?_
    exact zRetI () X hP hD hS rfl (by congr 1; first | (subst s_1_0; exact hBk.num (k := 1) (by omega)) | (subst s_1_1; exact hBk.num (k := 2) (by omega)) | (subst s_1_6; exact hBk.num (k := 3) (by omega)) | (subst s_1_7; exact hBk.num (k := 4) (by omega)) | (subst s_1_8; exact hBk.num (k := 5) (by omega)) | (subst s_1_9; exact hBk.num (k := 6) (by omega)) | (subst s_1_10; exact hBk.num (k := 7) (by omega)) | (subst s_1_11; exact hBk.num (k := 8) (by omega)) | (subst s_1_2; rfl) | (subst s_1_3; rfl) | (subst s_1_4; rfl) | (subst s_1_5; rfl) | (subst s_1_12; rfl)) dX7_counted_74
  by_cases s_1_1 : w = 1
  · refine lv_tableIn (tgt := 75) hX hB dX7_counted_1 (by rw [hsw]; omega) (by rw [hsw]; omega) (by rw [hsw, s_1_1]; rfl) (by decide) ?_
    refine lv_aload_n hX hB dX7_counted_75 rfl (lv_at hl 0 rfl) ?_
    refine va_get hX hB hz inlX7 hW hK.1 hP 0 rfl rfl 0 (by decide) (hz _ zw_74) (fun _ h9 => h9) rfl dX7_counted_76 ?_
    refine lv_iconst (v := nZ 2) hX hB dX7_counted_79 rfl ?_
    refine zz_iald X hP 1 0 rfl rfl 2 (by omega) (by omega) (by first | decide | omega) dX7_counted_80 ?_
    exact zRetI () X hP hD hS rfl (by congr 1; first | (subst s_1_0; exact hBk.num (k := 1) (by omega)) | (subst s_1_1; exact hBk.num (k := 2) (by omega)) | (subst s_1_6; exact hBk.num (k := 3) (by omega)) | (subst s_1_7; exact hBk.num (k := 4) (by omega)) | (subst s_1_8; exact hBk.num (k := 5) (by omega)) | (subst s_1_9; exact hBk.num (k := 6) (by omega)) | (subst s_1_10; exact hBk.num (k := 7) (by omega)) | (subst s_1_11; exact hBk.num (k := 8) (by omega)) | (subst s_1_2; rfl) | (subst s_1_3; rfl) | (subst s_1_4; rfl) | (subst s_1_5; rfl) | (subst s_1_12; rfl)) dX7_counted_81
  by_cases s_1_2 : w = 2
  · refine lv_tableIn (tgt := 82) hX hB dX7_counted_1 (by rw [hsw]; omega) (by rw [hsw]; omega) (by rw [hsw, s_1_2]; rfl) (by decide) ?_
    refine lv_aload_n hX hB dX7_counted_82 rfl (lv_at hl 0 rfl) ?_
    refine lv_iconst (v := nZ 0) hX hB dX7_counted_83 rfl ?_
    refine zCallI0 (zRunV (As := [.int (nZ 0)]) X mv_X7_coins (c_X7_coins l D k _ mm ms mk mb vsv vty vth ven vsp vla vpc s 0 B hBk (by first | assumption | omega | exact ⟨by omega, by omega⟩)) zw_455 (zPreV hP hD hK [0, 1] rfl rfl 0 7 rfl rfl rfl) rfl hl (Nat.le_of_ble_eq_true rfl) dX7_counted_84 ⟨rfl, rfl, ⟨Nat.le_of_ble_eq_true rfl, Nat.le_of_ble_eq_true rfl⟩, Nat.le_of_ble_eq_true rfl, Nat.le_of_ble_eq_true rfl⟩ rfl) hS hP hD hA [0, 1] rfl (fun _ => rfl) (fun r_84 u_84 H locs hq_84 hP hD hS => ?_)
    subst hq_84
    have hP : va_P D vwCl [(mm, .inr (7, [.ref ms, .int (nZ vsv), .ref mk, .ref mb, .int (nZ vty), .int (nZ vth), .int (nZ ven), .int (nZ vsp), .int (nZ vla), .int (nZ vpc)])), (ms, .inl (k 0, 900, .inl (zA s)))] H := hP
    have hD : va_D A [(mm, .inr (7, [.ref ms, .int (nZ vsv), .ref mk, .ref mb, .int (nZ vty), .int (nZ vth), .int (nZ ven), .int (nZ vsp), .int (nZ vla), .int (nZ vpc)])), (ms, .inl (k 0, 900, .inl (zA s)))] := hD
    exact zRetI () X hP hD hS rfl (by congr 1; first | (subst s_1_0; exact hBk.num (k := 1) (by omega)) | (subst s_1_1; exact hBk.num (k := 2) (by omega)) | (subst s_1_6; exact hBk.num (k := 3) (by omega)) | (subst s_1_7; exact hBk.num (k := 4) (by omega)) | (subst s_1_8; exact hBk.num (k := 5) (by omega)) | (subst s_1_9; exact hBk.num (k := 6) (by omega)) | (subst s_1_10; exact hBk.num (k := 7) (by omega)) | (subst s_1_11; exact hBk.num (k := 8) (by omega)) | (subst s_1_2; rfl) | (subst s_1_3; rfl) | (subst s_1_4; rfl) | (subst s_1_5; rfl) | (subst s_1_12; rfl)) dX7_counted_87
  by_cases s_1_3 : w = 3
  · refine lv_tableIn (tgt := 88) hX hB dX7_counted_1 (by rw [hsw]; omega) (by rw [hsw]; omega) (by rw [hsw, s_1_3]; rfl) (by decide) ?_
    refine lv_aload_n hX hB dX7_counted_88 rfl (lv_at hl 0 rfl) ?_
    refine lv_iconst (v := nZ 0) hX hB dX7_counted_89 rfl ?_
    refine zCallI0 (zRunV (As := [.int (nZ 0)]) X mv_X7_allClean (c_X7_allClean l D k _ mm ms mk mb vsv vty vth ven vsp vla vpc s 0 B hBk (by first | assumption | omega | exact ⟨by omega, by omega⟩)) zw_559 (zPreV hP hD hK [0, 1] rfl rfl 0 7 rfl rfl rfl) rfl hl (Nat.le_of_ble_eq_true rfl) dX7_counted_90 ⟨rfl, rfl, ⟨Nat.le_of_ble_eq_true rfl, Nat.le_of_ble_eq_true rfl⟩, Nat.le_of_ble_eq_true rfl, Nat.le_of_ble_eq_true rfl⟩ rfl) hS hP hD hA [0, 1] rfl (fun _ => rfl) (fun r_90 u_90 H locs hq_90 hP hD hS => ?_)
    subst hq_90
    have hP : va_P D vwCl [(mm, .inr (7, [.ref ms, .int (nZ vsv), .ref mk, .ref mb, .int (nZ vty), .int (nZ vth), .int (nZ ven), .int (nZ vsp), .int (nZ vla), .int (nZ vpc)])), (ms, .inl (k 0, 900, .inl (zA s)))] H := hP
    have hD : va_D A [(mm, .inr (7, [.ref ms, .int (nZ vsv), .ref mk, .ref mb, .int (nZ vty), .int (nZ vth), .int (nZ ven), .int (nZ vsp), .int (nZ vla), .int (nZ vpc)])), (ms, .inl (k 0, 900, .inl (zA s)))] := hD
    exact zRetI () X hP hD hS rfl (by congr 1; first | (subst s_1_0; exact hBk.num (k := 1) (by omega)) | (subst s_1_1; exact hBk.num (k := 2) (by omega)) | (subst s_1_6; exact hBk.num (k := 3) (by omega)) | (subst s_1_7; exact hBk.num (k := 4) (by omega)) | (subst s_1_8; exact hBk.num (k := 5) (by omega)) | (subst s_1_9; exact hBk.num (k := 6) (by omega)) | (subst s_1_10; exact hBk.num (k := 7) (by omega)) | (subst s_1_11; exact hBk.num (k := 8) (by omega)) | (subst s_1_2; rfl) | (subst s_1_3; rfl) | (subst s_1_4; rfl) | (subst s_1_5; rfl) | (subst s_1_12; rfl)) dX7_counted_93
  by_cases s_1_4 : w = 4
  · refine lv_tableIn (tgt := 94) hX hB dX7_counted_1 (by rw [hsw]; omega) (by rw [hsw]; omega) (by rw [hsw, s_1_4]; rfl) (by decide) ?_
    refine lv_aload_n hX hB dX7_counted_94 rfl (lv_at hl 0 rfl) ?_
    refine lv_iload_n hX hB dX7_counted_95 rfl (lv_at hl 1 rfl) ?_
    refine lv_iconst (v := nZ 4) hX hB dX7_counted_96 rfl ?_
    refine zz_isub X dX7_counted_97 (z := (w - 4)) (by first | rfl | omega) ?_
    refine zCallI0 (zRunV (As := [.int (nZ (w - 4))]) X mv_X7_chalksOf (c_X7_chalksOf l D k _ mm ms mk mb vsv vty vth ven vsp vla vpc s B (w - 4) hBk (by first | assumption | omega | exact ⟨by omega, by omega⟩)) zw_336 (zPreV hP hD hK [0, 1] rfl rfl 0 7 rfl rfl rfl) rfl hl (Nat.le_of_ble_eq_true rfl) dX7_counted_98 ⟨rfl, rfl, ⟨Nat.le_of_ble_eq_true rfl, Nat.le_of_ble_eq_true rfl⟩, Nat.le_of_ble_eq_true rfl, Nat.le_of_ble_eq_true rfl⟩ rfl) hS hP hD hA [0, 1] rfl (fun _ => rfl) (fun r_98 u_98 H locs hq_98 hP hD hS => ?_)
    subst hq_98
    have hP : va_P D vwCl [(mm, .inr (7, [.ref ms, .int (nZ vsv), .ref mk, .ref mb, .int (nZ vty), .int (nZ vth), .int (nZ ven), .int (nZ vsp), .int (nZ vla), .int (nZ vpc)])), (ms, .inl (k 0, 900, .inl (zA s)))] H := hP
    have hD : va_D A [(mm, .inr (7, [.ref ms, .int (nZ vsv), .ref mk, .ref mb, .int (nZ vty), .int (nZ vth), .int (nZ ven), .int (nZ vsp), .int (nZ vla), .int (nZ vpc)])), (ms, .inl (k 0, 900, .inl (zA s)))] := hD
    exact zRetI () X hP hD hS rfl (by congr 1; first | (subst s_1_0; exact hBk.num (k := 1) (by omega)) | (subst s_1_1; exact hBk.num (k := 2) (by omega)) | (subst s_1_6; exact hBk.num (k := 3) (by omega)) | (subst s_1_7; exact hBk.num (k := 4) (by omega)) | (subst s_1_8; exact hBk.num (k := 5) (by omega)) | (subst s_1_9; exact hBk.num (k := 6) (by omega)) | (subst s_1_10; exact hBk.num (k := 7) (by omega)) | (subst s_1_11; exact hBk.num (k := 8) (by omega)) | (subst s_1_2; rfl) | (subst s_1_3; rfl) | (subst s_1_4; rfl) | (subst s_1_5; rfl) | (subst s_1_12; rfl)) dX7_counted_101
  by_cases s_1_5 : w = 5
  · refine lv_tableIn (tgt := 94) hX hB dX7_counted_1 (by rw [hsw]; omega) (by rw [hsw]; omega) (by rw [hsw, s_1_5]; rfl) (by decide) ?_
    refine lv_aload_n hX hB dX7_counted_94 rfl (lv_at hl 0 rfl) ?_
    refine lv_iload_n hX hB dX7_counted_95 rfl (lv_at hl 1 rfl) ?_
    refine lv_iconst (v := nZ 4) hX hB dX7_counted_96 rfl ?_
    refine zz_isub X dX7_counted_97 (z := (w - 4)) (by first | rfl | omega) ?_
    refine zCallI0 (zRunV (As := [.int (nZ (w - 4))]) X mv_X7_chalksOf (c_X7_chalksOf l D k _ mm ms mk mb vsv vty vth ven vsp vla vpc s B (w - 4) hBk (by first | assumption | omega | exact ⟨by omega, by omega⟩)) zw_336 (zPreV hP hD hK [0, 1] rfl rfl 0 7 rfl rfl rfl) rfl hl (Nat.le_of_ble_eq_true rfl) dX7_counted_98 ⟨rfl, rfl, ⟨Nat.le_of_ble_eq_true rfl, Nat.le_of_ble_eq_true rfl⟩, Nat.le_of_ble_eq_true rfl, Nat.le_of_ble_eq_true rfl⟩ rfl) hS hP hD hA [0, 1] rfl (fun _ => rfl) (fun r_98 u_98 H locs hq_98 hP hD hS => ?_)
    subst hq_98
    have hP : va_P D vwCl [(mm, .inr (7, [.ref ms, .int (nZ vsv), .ref mk, .ref mb, .int (nZ vty), .int (nZ vth), .int (nZ ven), .int (nZ vsp), .int (nZ vla), .int (nZ vpc)])), (ms, .inl (k 0, 900, .inl (zA s)))] H := hP
    have hD : va_D A [(mm, .inr (7, [.ref ms, .int (nZ vsv), .ref mk, .ref mb, .int (nZ vty), .int (nZ vth), .int (nZ ven), .int (nZ vsp), .int (nZ vla), .int (nZ vpc)])), (ms, .inl (k 0, 900, .inl (zA s)))] := hD
    exact zRetI () X hP hD hS rfl (by congr 1; first | (subst s_1_0; exact hBk.num (k := 1) (by omega)) | (subst s_1_1; exact hBk.num (k := 2) (by omega)) | (subst s_1_6; exact hBk.num (k := 3) (by omega)) | (subst s_1_7; exact hBk.num (k := 4) (by omega)) | (subst s_1_8; exact hBk.num (k := 5) (by omega)) | (subst s_1_9; exact hBk.num (k := 6) (by omega)) | (subst s_1_10; exact hBk.num (k := 7) (by omega)) | (subst s_1_11; exact hBk.num (k := 8) (by omega)) | (subst s_1_2; rfl) | (subst s_1_3; rfl) | (subst s_1_4; rfl) | (subst s_1_5; rfl) | (subst s_1_12; rfl)) dX7_counted_101
  by_cases s_1_6 : w = 6
  · refine lv_tableIn (tgt := 107) hX hB dX7_counted_1 (by rw [hsw]; omega) (by rw [hsw]; omega) (by rw [hsw, s_1_6]; rfl) (by decide) ?_
    refine lv_aload_n hX hB dX7_counted_107 rfl (lv_at hl 0 rfl) ?_
    refine va_get hX hB hz inlX7 hW hK.1 hP 0 rfl rfl 0 (by decide) (hz _ zw_74) (fun _ h9 => h9) rfl dX7_counted_108 ?_
    refine lv_iconst (v := nZ 3) hX hB dX7_counted_111 rfl ?_
    refine lv_iload_n hX hB dX7_counted_112 rfl (lv_at hl 1 rfl) ?_
    refine zz_iadd X dX7_counted_113 (z := (3 + w)) (by first | rfl | omega) ?_
    refine lv_bipush (v := nZ 6) hX hB dX7_counted_114 (by decide) ?_
    refine zz_isub X dX7_counted_116 (z := ((3 + w) - 6)) (by first | rfl | omega) ?_
    refine zz_iald X hP 1 0 rfl rfl (((3 + w) - 6).toNat) (by omega) (by omega) (by first | decide | omega) dX7_counted_117 ?_
    exact zRetI () X hP hD hS rfl (by congr 1; first | (subst s_1_0; exact hBk.num (k := 1) (by omega)) | (subst s_1_1; exact hBk.num (k := 2) (by omega)) | (subst s_1_6; exact hBk.num (k := 3) (by omega)) | (subst s_1_7; exact hBk.num (k := 4) (by omega)) | (subst s_1_8; exact hBk.num (k := 5) (by omega)) | (subst s_1_9; exact hBk.num (k := 6) (by omega)) | (subst s_1_10; exact hBk.num (k := 7) (by omega)) | (subst s_1_11; exact hBk.num (k := 8) (by omega)) | (subst s_1_2; rfl) | (subst s_1_3; rfl) | (subst s_1_4; rfl) | (subst s_1_5; rfl) | (subst s_1_12; rfl)) dX7_counted_118
  by_cases s_1_7 : w = 7
  · refine lv_tableIn (tgt := 107) hX hB dX7_counted_1 (by rw [hsw]; omega) (by rw [hsw]; omega) (by rw [hsw, s_1_7]; rfl) (by decide) ?_
    refine lv_aload_n hX hB dX7_counted_107 rfl (lv_at hl 0 rfl) ?_
    refine va_get hX hB hz inlX7 hW hK.1 hP 0 rfl rfl 0 (by decide) (hz _ zw_74) (fun _ h9 => h9) rfl dX7_counted_108 ?_
    refine lv_iconst (v := nZ 3) hX hB dX7_counted_111 rfl ?_
    refine lv_iload_n hX hB dX7_counted_112 rfl (lv_at hl 1 rfl) ?_
    refine zz_iadd X dX7_counted_113 (z := (3 + w)) (by first | rfl | omega) ?_
    refine lv_bipush (v := nZ 6) hX hB dX7_counted_114 (by decide) ?_
    refine zz_isub X dX7_counted_116 (z := ((3 + w) - 6)) (by first | rfl | omega) ?_
    refine zz_iald X hP 1 0 rfl rfl (((3 + w) - 6).toNat) (by omega) (by omega) (by first | decide | omega) dX7_counted_117 ?_
    exact zRetI () X hP hD hS rfl (by congr 1; first | (subst s_1_0; exact hBk.num (k := 1) (by omega)) | (subst s_1_1; exact hBk.num (k := 2) (by omega)) | (subst s_1_6; exact hBk.num (k := 3) (by omega)) | (subst s_1_7; exact hBk.num (k := 4) (by omega)) | (subst s_1_8; exact hBk.num (k := 5) (by omega)) | (subst s_1_9; exact hBk.num (k := 6) (by omega)) | (subst s_1_10; exact hBk.num (k := 7) (by omega)) | (subst s_1_11; exact hBk.num (k := 8) (by omega)) | (subst s_1_2; rfl) | (subst s_1_3; rfl) | (subst s_1_4; rfl) | (subst s_1_5; rfl) | (subst s_1_12; rfl)) dX7_counted_118
  by_cases s_1_8 : w = 8
  · refine lv_tableIn (tgt := 107) hX hB dX7_counted_1 (by rw [hsw]; omega) (by rw [hsw]; omega) (by rw [hsw, s_1_8]; rfl) (by decide) ?_
    refine lv_aload_n hX hB dX7_counted_107 rfl (lv_at hl 0 rfl) ?_
    refine va_get hX hB hz inlX7 hW hK.1 hP 0 rfl rfl 0 (by decide) (hz _ zw_74) (fun _ h9 => h9) rfl dX7_counted_108 ?_
    refine lv_iconst (v := nZ 3) hX hB dX7_counted_111 rfl ?_
    refine lv_iload_n hX hB dX7_counted_112 rfl (lv_at hl 1 rfl) ?_
    refine zz_iadd X dX7_counted_113 (z := (3 + w)) (by first | rfl | omega) ?_
    refine lv_bipush (v := nZ 6) hX hB dX7_counted_114 (by decide) ?_
    refine zz_isub X dX7_counted_116 (z := ((3 + w) - 6)) (by first | rfl | omega) ?_
    refine zz_iald X hP 1 0 rfl rfl (((3 + w) - 6).toNat) (by omega) (by omega) (by first | decide | omega) dX7_counted_117 ?_
    exact zRetI () X hP hD hS rfl (by congr 1; first | (subst s_1_0; exact hBk.num (k := 1) (by omega)) | (subst s_1_1; exact hBk.num (k := 2) (by omega)) | (subst s_1_6; exact hBk.num (k := 3) (by omega)) | (subst s_1_7; exact hBk.num (k := 4) (by omega)) | (subst s_1_8; exact hBk.num (k := 5) (by omega)) | (subst s_1_9; exact hBk.num (k := 6) (by omega)) | (subst s_1_10; exact hBk.num (k := 7) (by omega)) | (subst s_1_11; exact hBk.num (k := 8) (by omega)) | (subst s_1_2; rfl) | (subst s_1_3; rfl) | (subst s_1_4; rfl) | (subst s_1_5; rfl) | (subst s_1_12; rfl)) dX7_counted_118
  by_cases s_1_9 : w = 9
  · refine lv_tableIn (tgt := 107) hX hB dX7_counted_1 (by rw [hsw]; omega) (by rw [hsw]; omega) (by rw [hsw, s_1_9]; rfl) (by decide) ?_
    refine lv_aload_n hX hB dX7_counted_107 rfl (lv_at hl 0 rfl) ?_
    refine va_get hX hB hz inlX7 hW hK.1 hP 0 rfl rfl 0 (by decide) (hz _ zw_74) (fun _ h9 => h9) rfl dX7_counted_108 ?_
    refine lv_iconst (v := nZ 3) hX hB dX7_counted_111 rfl ?_
    refine lv_iload_n hX hB dX7_counted_112 rfl (lv_at hl 1 rfl) ?_
    refine zz_iadd X dX7_counted_113 (z := (3 + w)) (by first | rfl | omega) ?_
    refine lv_bipush (v := nZ 6) hX hB dX7_counted_114 (by decide) ?_
    refine zz_isub X dX7_counted_116 (z := ((3 + w) - 6)) (by first | rfl | omega) ?_
    refine zz_iald X hP 1 0 rfl rfl (((3 + w) - 6).toNat) (by omega) (by omega) (by first | decide | omega) dX7_counted_117 ?_
    exact zRetI () X hP hD hS rfl (by congr 1; first | (subst s_1_0; exact hBk.num (k := 1) (by omega)) | (subst s_1_1; exact hBk.num (k := 2) (by omega)) | (subst s_1_6; exact hBk.num (k := 3) (by omega)) | (subst s_1_7; exact hBk.num (k := 4) (by omega)) | (subst s_1_8; exact hBk.num (k := 5) (by omega)) | (subst s_1_9; exact hBk.num (k := 6) (by omega)) | (subst s_1_10; exact hBk.num (k := 7) (by omega)) | (subst s_1_11; exact hBk.num (k := 8) (by omega)) | (subst s_1_2; rfl) | (subst s_1_3; rfl) | (subst s_1_4; rfl) | (subst s_1_5; rfl) | (subst s_1_12; rfl)) dX7_counted_118
  by_cases s_1_10 : w = 10
  · refine lv_tableIn (tgt := 107) hX hB dX7_counted_1 (by rw [hsw]; omega) (by rw [hsw]; omega) (by rw [hsw, s_1_10]; rfl) (by decide) ?_
    refine lv_aload_n hX hB dX7_counted_107 rfl (lv_at hl 0 rfl) ?_
    refine va_get hX hB hz inlX7 hW hK.1 hP 0 rfl rfl 0 (by decide) (hz _ zw_74) (fun _ h9 => h9) rfl dX7_counted_108 ?_
    refine lv_iconst (v := nZ 3) hX hB dX7_counted_111 rfl ?_
    refine lv_iload_n hX hB dX7_counted_112 rfl (lv_at hl 1 rfl) ?_
    refine zz_iadd X dX7_counted_113 (z := (3 + w)) (by first | rfl | omega) ?_
    refine lv_bipush (v := nZ 6) hX hB dX7_counted_114 (by decide) ?_
    refine zz_isub X dX7_counted_116 (z := ((3 + w) - 6)) (by first | rfl | omega) ?_
    refine zz_iald X hP 1 0 rfl rfl (((3 + w) - 6).toNat) (by omega) (by omega) (by first | decide | omega) dX7_counted_117 ?_
    exact zRetI () X hP hD hS rfl (by congr 1; first | (subst s_1_0; exact hBk.num (k := 1) (by omega)) | (subst s_1_1; exact hBk.num (k := 2) (by omega)) | (subst s_1_6; exact hBk.num (k := 3) (by omega)) | (subst s_1_7; exact hBk.num (k := 4) (by omega)) | (subst s_1_8; exact hBk.num (k := 5) (by omega)) | (subst s_1_9; exact hBk.num (k := 6) (by omega)) | (subst s_1_10; exact hBk.num (k := 7) (by omega)) | (subst s_1_11; exact hBk.num (k := 8) (by omega)) | (subst s_1_2; rfl) | (subst s_1_3; rfl) | (subst s_1_4; rfl) | (subst s_1_5; rfl) | (subst s_1_12; rfl)) dX7_counted_118
  by_cases s_1_11 : w = 11
  · refine lv_tableIn (tgt := 107) hX hB dX7_counted_1 (by rw [hsw]; omega) (by rw [hsw]; omega) (by rw [hsw, s_1_11]; rfl) (by decide) ?_
    refine lv_aload_n hX hB dX7_counted_107 rfl (lv_at hl 0 rfl) ?_
    refine va_get hX hB hz inlX7 hW hK.1 hP 0 rfl rfl 0 (by decide) (hz _ zw_74) (fun _ h9 => h9) rfl dX7_counted_108 ?_
    refine lv_iconst (v := nZ 3) hX hB dX7_counted_111 rfl ?_
    refine lv_iload_n hX hB dX7_counted_112 rfl (lv_at hl 1 rfl) ?_
    refine zz_iadd X dX7_counted_113 (z := (3 + w)) (by first | rfl | omega) ?_
    refine lv_bipush (v := nZ 6) hX hB dX7_counted_114 (by decide) ?_
    refine zz_isub X dX7_counted_116 (z := ((3 + w) - 6)) (by first | rfl | omega) ?_
    refine zz_iald X hP 1 0 rfl rfl (((3 + w) - 6).toNat) (by omega) (by omega) (by first | decide | omega) dX7_counted_117 ?_
    exact zRetI () X hP hD hS rfl (by congr 1; first | (subst s_1_0; exact hBk.num (k := 1) (by omega)) | (subst s_1_1; exact hBk.num (k := 2) (by omega)) | (subst s_1_6; exact hBk.num (k := 3) (by omega)) | (subst s_1_7; exact hBk.num (k := 4) (by omega)) | (subst s_1_8; exact hBk.num (k := 5) (by omega)) | (subst s_1_9; exact hBk.num (k := 6) (by omega)) | (subst s_1_10; exact hBk.num (k := 7) (by omega)) | (subst s_1_11; exact hBk.num (k := 8) (by omega)) | (subst s_1_2; rfl) | (subst s_1_3; rfl) | (subst s_1_4; rfl) | (subst s_1_5; rfl) | (subst s_1_12; rfl)) dX7_counted_118
  by_cases s_1_12 : w = 12
  · refine lv_tableIn (tgt := 102) hX hB dX7_counted_1 (by rw [hsw]; omega) (by rw [hsw]; omega) (by rw [hsw, s_1_12]; rfl) (by decide) ?_
    refine lv_aload_n hX hB dX7_counted_102 rfl (lv_at hl 0 rfl) ?_
    refine va_get hX hB hz inlX7 hW hK.1 hP 0 rfl rfl 1 (by decide) (hz _ zw_254) (fun _ h9 => h9) rfl dX7_counted_103 ?_
    exact zRetI () X hP hD hS rfl (by congr 1; first | (subst s_1_0; exact hBk.num (k := 1) (by omega)) | (subst s_1_1; exact hBk.num (k := 2) (by omega)) | (subst s_1_6; exact hBk.num (k := 3) (by omega)) | (subst s_1_7; exact hBk.num (k := 4) (by omega)) | (subst s_1_8; exact hBk.num (k := 5) (by omega)) | (subst s_1_9; exact hBk.num (k := 6) (by omega)) | (subst s_1_10; exact hBk.num (k := 7) (by omega)) | (subst s_1_11; exact hBk.num (k := 8) (by omega)) | (subst s_1_2; rfl) | (subst s_1_3; rfl) | (subst s_1_4; rfl) | (subst s_1_5; rfl) | (subst s_1_12; rfl)) dX7_counted_106
  exfalso; omega
set_option maxHeartbeats 4000000 in
set_option maxRecDepth 100000 in
theorem c_X7_count (l : Launch) (D : va_G) (k : Nat → ClassId) (sz : Nat) (mm ms mk mb : Nat) (vsv vty vth ven vsp vla vpc : Int) (s : Nat → Int) (B : Bd) (w : Int) (hBk : blkOk s 0 B) (hw : 0 ≤ w ∧ w ≤ 12) : Met l yX7_count (zW yX7_count cX7_count 2 (some .int)) ({ frames := 5, cells := 0, slots := 0, locals := 113 } : Room) (va_Pc [.ref mm, .int (nZ w)] (zIn D k sz [(mm, .inr (7, [.ref ms, .int (nZ vsv), .ref mk, .ref mb, .int (nZ vty), .int (nZ vth), .int (nZ ven), .int (nZ vsp), .int (nZ vla), .int (nZ vpc)])), (ms, .inl (k 0, 900, .inl (zA s)))])) (va_Qi (fun (rz : Int32) (uz : Unit) => rz = nZ (countS (B.1 1) (B.1 2) (coinsB B) (cleanAllB B) (chSum (chB B) 0) (chSum (chB B) 1) (B.1 3) (B.1 4) (B.1 5) (B.1 6) (B.1 7) (B.1 8) vsv w)) (fun (uz : Unit) => zOut D (va_A [(mm, .inr (7, [.ref ms, .int (nZ vsv), .ref mk, .ref mb, .int (nZ vty), .int (nZ vth), .int (nZ ven), .int (nZ vsp), .int (nZ vla), .int (nZ vpc)])), (ms, .inl (k 0, 900, .inl (zA s)))] sz) [(mm, .inr (7, [.ref ms, .int (nZ vsv), .ref mk, .ref mb, .int (nZ vty), .int (nZ 0), .int (nZ ven), .int (nZ vsp), .int (nZ vla), .int (nZ vpc)])), (ms, .inl (k 0, 900, .inl (zA s)))]) (va_A [(mm, .inr (7, [.ref ms, .int (nZ vsv), .ref mk, .ref mb, .int (nZ vty), .int (nZ vth), .int (nZ ven), .int (nZ vsp), .int (nZ vla), .int (nZ vpc)])), (ms, .inl (k 0, 900, .inl (zA s)))] sz)) 0 0 (va_A [(mm, .inr (7, [.ref ms, .int (nZ vsv), .ref mk, .ref mb, .int (nZ vty), .int (nZ vth), .int (nZ ven), .int (nZ vsp), .int (nZ vla), .int (nZ vpc)])), (ms, .inl (k 0, 900, .inl (zA s)))] sz) := by
  refine zEnter (Qf := fun A => va_Qi (fun (rz : Int32) (uz : Unit) => rz = nZ (countS (B.1 1) (B.1 2) (coinsB B) (cleanAllB B) (chSum (chB B) 0) (chSum (chB B) 1) (B.1 3) (B.1 4) (B.1 5) (B.1 6) (B.1 7) (B.1 8) vsv w)) (fun (uz : Unit) => zOut D A [(mm, .inr (7, [.ref ms, .int (nZ vsv), .ref mk, .ref mb, .int (nZ vty), .int (nZ 0), .int (nZ ven), .int (nZ vsp), .int (nZ vla), .int (nZ vpc)])), (ms, .inl (k 0, 900, .inl (zA s)))]) A) RX7 (by decide) rfl (Nat.le_of_ble_eq_true rfl) ?_
  intro p9 e9 s9 m9 be9 me9 c9 ls A X hin hP hD hS hA hAe hl
  have hX := X.1; have hB := X.2.1; have hz := X.2.2.2.2.1; have hW := X.2.2.2.2.2.1; have hK := X.2.2.2.2.2.2.2; clear hAe
  clear hin
  have hl : lv_has ls 2 [(0, .ref mm), (1, .int (nZ w))] := hl
  refine lv_aload_n hX hB dX7_count_0 rfl (lv_at hl 0 rfl) ?_
  refine lv_iload_n hX hB dX7_count_1 rfl (lv_at hl 1 rfl) ?_
  refine lv_iconst (v := nZ 0) hX hB dX7_count_2 rfl ?_
  refine lv_bipush (v := nZ 12) hX hB dX7_count_3 (by decide) ?_
  refine zCallI0 (zRunS X ms_X7_in (c_X7_in_t l D k _ w 0 12 (by first | assumption | omega | exact ⟨by omega, by omega⟩) (by first | assumption | omega | exact ⟨by omega, by omega⟩) (by first | assumption | omega | exact ⟨by omega, by omega⟩) hw) zw_239 (zPreS hP hD hK [] rfl rfl) rfl hl (Nat.le_of_ble_eq_true rfl) dX7_count_5 ⟨rfl, rfl, ⟨Nat.le_of_ble_eq_true rfl, Nat.le_of_ble_eq_true rfl⟩, Nat.le_of_ble_eq_true rfl, Nat.le_of_ble_eq_true rfl⟩ rfl) hS hP hD hA [] rfl (fun _ => rfl) (fun r_5 u_5 H locs hq_5 hP hD hS => ?_)
  subst hq_5
  have hP : va_P D vwCl [(mm, .inr (7, [.ref ms, .int (nZ vsv), .ref mk, .ref mb, .int (nZ vty), .int (nZ vth), .int (nZ ven), .int (nZ vsp), .int (nZ vla), .int (nZ vpc)])), (ms, .inl (k 0, 900, .inl (zA s)))] H := hP
  have hD : va_D A [(mm, .inr (7, [.ref ms, .int (nZ vsv), .ref mk, .ref mb, .int (nZ vty), .int (nZ vth), .int (nZ ven), .int (nZ vsp), .int (nZ vla), .int (nZ vpc)])), (ms, .inl (k 0, 900, .inl (zA s)))] := hD
  refine lv_iconst (v := nZ 1) hX hB dX7_count_8 rfl ?_
  refine zCallI0 (zRunV (As := [.int (nZ 1), .int (nZ 1)]) X mv_X7_goes (c_X7_goes_11 l D k _ mm ms mk mb vsv vty vth ven vsp vla vpc ) zw_245 (zPreV hP hD hK [0] rfl rfl 0 7 rfl rfl rfl) rfl hl (Nat.le_of_ble_eq_true rfl) dX7_count_9 ⟨rfl, rfl, ⟨Nat.le_of_ble_eq_true rfl, Nat.le_of_ble_eq_true rfl⟩, Nat.le_of_ble_eq_true rfl, Nat.le_of_ble_eq_true rfl⟩ rfl) hS hP hD hA [0] rfl (fun _ => rfl) (fun r_9 u_9 H locs hq_9 hP hD hS => ?_)
  subst hq_9
  have hP : va_P D vwCl [(mm, .inr (7, [.ref ms, .int (nZ vsv), .ref mk, .ref mb, .int (nZ vty), .int (nZ 0), .int (nZ ven), .int (nZ vsp), .int (nZ vla), .int (nZ vpc)])), (ms, .inl (k 0, 900, .inl (zA s)))] H := hP
  have hD : va_D A [(mm, .inr (7, [.ref ms, .int (nZ vsv), .ref mk, .ref mb, .int (nZ vty), .int (nZ 0), .int (nZ ven), .int (nZ vsp), .int (nZ vla), .int (nZ vpc)])), (ms, .inl (k 0, 900, .inl (zA s)))] := hD
  refine zz_if_eq X (tgt := 23) dX7_count_12 (by decide) ⟨by omega, by omega⟩ (fun c_12 => ?_) (fun c_12 => ?_)
  · exfalso; omega
  · refine lv_aload_n hX hB dX7_count_15 rfl (lv_at hl 0 rfl) ?_
    refine lv_iload_n hX hB dX7_count_16 rfl (lv_at hl 1 rfl) ?_
    refine zCallI0 (zRunV (As := [.int (nZ w)]) X mv_X7_counted (c_X7_counted l D k _ mm ms mk mb vsv vty 0 ven vsp vla vpc s B w hBk hw) zw_555 (zPreV hP hD hK [0, 1] rfl rfl 0 7 rfl rfl rfl) rfl hl (Nat.le_of_ble_eq_true rfl) dX7_count_17 ⟨rfl, rfl, ⟨Nat.le_of_ble_eq_true rfl, Nat.le_of_ble_eq_true rfl⟩, Nat.le_of_ble_eq_true rfl, Nat.le_of_ble_eq_true rfl⟩ rfl) hS hP hD hA [0, 1] rfl (fun _ => rfl) (fun r_17 u_17 H locs hq_17 hP hD hS => ?_)
    subst hq_17
    have hP : va_P D vwCl [(mm, .inr (7, [.ref ms, .int (nZ vsv), .ref mk, .ref mb, .int (nZ vty), .int (nZ 0), .int (nZ ven), .int (nZ vsp), .int (nZ vla), .int (nZ vpc)])), (ms, .inl (k 0, 900, .inl (zA s)))] H := hP
    have hD : va_D A [(mm, .inr (7, [.ref ms, .int (nZ vsv), .ref mk, .ref mb, .int (nZ vty), .int (nZ 0), .int (nZ ven), .int (nZ vsp), .int (nZ vla), .int (nZ vpc)])), (ms, .inl (k 0, 900, .inl (zA s)))] := hD
    refine lv_goto (tgt := 24) hX hB dX7_count_20 (by decide) ?_
    exact zRetI () X hP hD hS rfl (by first | rfl | (congr 1; omega) | (dsimp only; congr 1; omega)) dX7_count_24
set_option maxHeartbeats 4000000 in
set_option maxRecDepth 100000 in
theorem c_X7_count_e1 (l : Launch) (D : va_G) (k : Nat → ClassId) (sz : Nat) (mm ms mk mb : Nat) (vsv vty vth ven vsp vla vpc : Int) (a : Int) (hza : zR a) (hb : a < 0 ∨ 12 < a) : Met l yX7_count (zW yX7_count cX7_count 2 (some .int)) ({ frames := 5, cells := 0, slots := 0, locals := 113 } : Room) (va_Pc [.ref mm, .int (nZ a)] (zIn D k sz [(mm, .inr (7, [.ref ms, .int (nZ vsv), .ref mk, .ref mb, .int (nZ vty), .int (nZ vth), .int (nZ ven), .int (nZ vsp), .int (nZ vla), .int (nZ vpc)]))])) (va_Qi (fun (rz : Int32) (uz : Unit) => rz = nZ 0) (fun (uz : Unit) => zOut D (va_A [(mm, .inr (7, [.ref ms, .int (nZ vsv), .ref mk, .ref mb, .int (nZ vty), .int (nZ vth), .int (nZ ven), .int (nZ vsp), .int (nZ vla), .int (nZ vpc)]))] sz) [(mm, .inr (7, [.ref ms, .int (nZ vsv), .ref mk, .ref mb, .int (nZ vty), .int (nZ 1), .int (nZ ven), .int (nZ vsp), .int (nZ vla), .int (nZ vpc)]))]) (va_A [(mm, .inr (7, [.ref ms, .int (nZ vsv), .ref mk, .ref mb, .int (nZ vty), .int (nZ vth), .int (nZ ven), .int (nZ vsp), .int (nZ vla), .int (nZ vpc)]))] sz)) 0 0 (va_A [(mm, .inr (7, [.ref ms, .int (nZ vsv), .ref mk, .ref mb, .int (nZ vty), .int (nZ vth), .int (nZ ven), .int (nZ vsp), .int (nZ vla), .int (nZ vpc)]))] sz) := by
  refine zEnter (Qf := fun A => va_Qi (fun (rz : Int32) (uz : Unit) => rz = nZ 0) (fun (uz : Unit) => zOut D A [(mm, .inr (7, [.ref ms, .int (nZ vsv), .ref mk, .ref mb, .int (nZ vty), .int (nZ 1), .int (nZ ven), .int (nZ vsp), .int (nZ vla), .int (nZ vpc)]))]) A) RX7 (by decide) rfl (Nat.le_of_ble_eq_true rfl) ?_
  intro p9 e9 s9 m9 be9 me9 c9 ls A X hin hP hD hS hA hAe hl
  have hX := X.1; have hB := X.2.1; have hz := X.2.2.2.2.1; have hW := X.2.2.2.2.2.1; have hK := X.2.2.2.2.2.2.2; clear hAe
  clear hin
  have hl : lv_has ls 2 [(0, .ref mm), (1, .int (nZ a))] := hl
  refine lv_aload_n hX hB dX7_count_0 rfl (lv_at hl 0 rfl) ?_
  refine lv_iload_n hX hB dX7_count_1 rfl (lv_at hl 1 rfl) ?_
  refine lv_iconst (v := nZ 0) hX hB dX7_count_2 rfl ?_
  refine lv_bipush (v := nZ 12) hX hB dX7_count_3 (by decide) ?_
  refine zCallI0 (zRunS X ms_X7_in (c_X7_in_f l D k _ a 0 12 hza (by first | assumption | omega | exact ⟨by omega, by omega⟩) (by first | assumption | omega | exact ⟨by omega, by omega⟩) hb) zw_239 (zPreS hP hD hK [] rfl rfl) rfl hl (Nat.le_of_ble_eq_true rfl) dX7_count_5 ⟨rfl, rfl, ⟨Nat.le_of_ble_eq_true rfl, Nat.le_of_ble_eq_true rfl⟩, Nat.le_of_ble_eq_true rfl, Nat.le_of_ble_eq_true rfl⟩ rfl) hS hP hD hA [] rfl (fun _ => rfl) (fun r_5 u_5 H locs hq_5 hP hD hS => ?_)
  subst hq_5
  have hP : va_P D vwCl [(mm, .inr (7, [.ref ms, .int (nZ vsv), .ref mk, .ref mb, .int (nZ vty), .int (nZ vth), .int (nZ ven), .int (nZ vsp), .int (nZ vla), .int (nZ vpc)]))] H := hP
  have hD : va_D A [(mm, .inr (7, [.ref ms, .int (nZ vsv), .ref mk, .ref mb, .int (nZ vty), .int (nZ vth), .int (nZ ven), .int (nZ vsp), .int (nZ vla), .int (nZ vpc)]))] := hD
  refine lv_iconst (v := nZ 1) hX hB dX7_count_8 rfl ?_
  refine zCallI0 (zRunV (As := [.int (nZ 0), .int (nZ 1)]) X mv_X7_goes (c_X7_goes_0 l D k _ mm ms mk mb vsv vty vth ven vsp vla vpc 1 ) zw_245 (zPreV hP hD hK [0] rfl rfl 0 7 rfl rfl rfl) rfl hl (Nat.le_of_ble_eq_true rfl) dX7_count_9 ⟨rfl, rfl, ⟨Nat.le_of_ble_eq_true rfl, Nat.le_of_ble_eq_true rfl⟩, Nat.le_of_ble_eq_true rfl, Nat.le_of_ble_eq_true rfl⟩ rfl) hS hP hD hA [0] rfl (fun _ => rfl) (fun r_9 u_9 H locs hq_9 hP hD hS => ?_)
  subst hq_9
  have hP : va_P D vwCl [(mm, .inr (7, [.ref ms, .int (nZ vsv), .ref mk, .ref mb, .int (nZ vty), .int (nZ 1), .int (nZ ven), .int (nZ vsp), .int (nZ vla), .int (nZ vpc)]))] H := hP
  have hD : va_D A [(mm, .inr (7, [.ref ms, .int (nZ vsv), .ref mk, .ref mb, .int (nZ vty), .int (nZ 1), .int (nZ ven), .int (nZ vsp), .int (nZ vla), .int (nZ vpc)]))] := hD
  refine zz_if_eq X (tgt := 23) dX7_count_12 (by decide) ⟨by omega, by omega⟩ (fun c_12 => ?_) (fun c_12 => ?_)
  · refine lv_iconst (v := nZ 0) hX hB dX7_count_23 rfl ?_
    exact zRetI () X hP hD hS rfl (by first | rfl | (congr 1; omega) | (dsimp only; congr 1; omega)) dX7_count_24
  · exfalso; omega
set_option maxHeartbeats 4000000 in
set_option maxRecDepth 100000 in
theorem c_X7_setting (l : Launch) (D : va_G) (k : Nat → ClassId) (sz : Nat) (mm ms mk mb : Nat) (vsv vty vth ven vsp vla vpc : Int) (s : Nat → Int) (B : Bd) (hBk : blkOk s 0 B) : Met l yX7_setting (zW yX7_setting cX7_setting 1 (some .int)) ({ frames := 0, cells := 0, slots := 0, locals := 0 } : Room) (va_Pc [.ref mm] (zIn D k sz [(mm, .inr (7, [.ref ms, .int (nZ vsv), .ref mk, .ref mb, .int (nZ vty), .int (nZ vth), .int (nZ ven), .int (nZ vsp), .int (nZ vla), .int (nZ vpc)])), (ms, .inl (k 0, 900, .inl (zA s)))])) (va_Qi (fun (rz : Int32) (uz : Unit) => rz = nZ (B.1 0)) (fun (uz : Unit) => zOut D (va_A [(mm, .inr (7, [.ref ms, .int (nZ vsv), .ref mk, .ref mb, .int (nZ vty), .int (nZ vth), .int (nZ ven), .int (nZ vsp), .int (nZ vla), .int (nZ vpc)])), (ms, .inl (k 0, 900, .inl (zA s)))] sz) [(mm, .inr (7, [.ref ms, .int (nZ vsv), .ref mk, .ref mb, .int (nZ vty), .int (nZ 0), .int (nZ ven), .int (nZ vsp), .int (nZ vla), .int (nZ vpc)])), (ms, .inl (k 0, 900, .inl (zA s)))]) (va_A [(mm, .inr (7, [.ref ms, .int (nZ vsv), .ref mk, .ref mb, .int (nZ vty), .int (nZ vth), .int (nZ ven), .int (nZ vsp), .int (nZ vla), .int (nZ vpc)])), (ms, .inl (k 0, 900, .inl (zA s)))] sz)) 0 0 (va_A [(mm, .inr (7, [.ref ms, .int (nZ vsv), .ref mk, .ref mb, .int (nZ vty), .int (nZ vth), .int (nZ ven), .int (nZ vsp), .int (nZ vla), .int (nZ vpc)])), (ms, .inl (k 0, 900, .inl (zA s)))] sz) := by
  refine zEnter (Qf := fun A => va_Qi (fun (rz : Int32) (uz : Unit) => rz = nZ (B.1 0)) (fun (uz : Unit) => zOut D A [(mm, .inr (7, [.ref ms, .int (nZ vsv), .ref mk, .ref mb, .int (nZ vty), .int (nZ 0), .int (nZ ven), .int (nZ vsp), .int (nZ vla), .int (nZ vpc)])), (ms, .inl (k 0, 900, .inl (zA s)))]) A) RX7 (by decide) rfl (Nat.le_of_ble_eq_true rfl) ?_
  intro p9 e9 s9 m9 be9 me9 c9 ls A X hin hP hD hS hA hAe hl
  have hX := X.1; have hB := X.2.1; have hz := X.2.2.2.2.1; have hW := X.2.2.2.2.2.1; have hK := X.2.2.2.2.2.2.2; clear hAe
  clear hin
  have hl : lv_has ls 1 [(0, .ref mm)] := hl
  refine lv_aload_n hX hB dX7_setting_0 rfl (lv_at hl 0 rfl) ?_
  refine lv_iconst (v := nZ 0) hX hB dX7_setting_1 rfl ?_
  refine va_put (v := .int (nZ 0)) (ty := tyX7 5) hX hB hz inlX7 tyX7 tyX7_ok nmX7 hW hK.1 hP hD hS 0 rfl rfl 5 (by decide) (hz _ zw_249) (fun _ h9 => h9) rfl (by decide +kernel) rfl rfl (Nat.le_of_ble_eq_true rfl) dX7_setting_2 (fun H locs hP hD hS => ?_)
  have hP : va_P D vwCl [(mm, .inr (7, [.ref ms, .int (nZ vsv), .ref mk, .ref mb, .int (nZ vty), .int (nZ 0), .int (nZ ven), .int (nZ vsp), .int (nZ vla), .int (nZ vpc)])), (ms, .inl (k 0, 900, .inl (zA s)))] H := hP
  have hD : va_D A [(mm, .inr (7, [.ref ms, .int (nZ vsv), .ref mk, .ref mb, .int (nZ vty), .int (nZ 0), .int (nZ ven), .int (nZ vsp), .int (nZ vla), .int (nZ vpc)])), (ms, .inl (k 0, 900, .inl (zA s)))] := hD
  refine lv_aload_n hX hB dX7_setting_5 rfl (lv_at hl 0 rfl) ?_
  refine va_get hX hB hz inlX7 hW hK.1 hP 0 rfl rfl 0 (by decide) (hz _ zw_74) (fun _ h9 => h9) rfl dX7_setting_6 ?_
  refine lv_iconst (v := nZ 0) hX hB dX7_setting_9 rfl ?_
  refine zz_iald X hP 1 0 rfl rfl 0 (by omega) (by omega) (by first | decide | omega) dX7_setting_10 ?_
  exact zRetI () X hP hD hS rfl (by congr 1; exact hBk.num (k := 0) (by omega)) dX7_setting_11
set_option maxHeartbeats 4000000 in
set_option maxRecDepth 100000 in
theorem c_X7_ends__0 (l : Launch) (D : va_G) (k : Nat → ClassId) (sz : Nat) (mm ms mk mb : Nat) (vsv vty vth ven vsp vla vpc : Int) (s : Nat → Int) (j : Nat) (B : Bd) (st : Int) (hBk : blkOk s 0 B) (hjj : j < 3) (hCh : chainS (-5) (B.2 j)) (hcost : 0 ≤ B.1 0 ∧ B.1 0 ≤ 20) (hst : 1 ≤ st ∧ st ≤ 150) : Met l yX7_ends_ (zW yX7_ends_ cX7_ends_ 4 (some .int)) ({ frames := 6, cells := 0, slots := 0, locals := 151 } : Room) (va_Pc [.ref mm, .int (nZ ↑j), .int (nZ st), .int (nZ 0)] (zIn D k sz [(mm, .inr (7, [.ref ms, .int (nZ vsv), .ref mk, .ref mb, .int (nZ vty), .int (nZ vth), .int (nZ ven), .int (nZ vsp), .int (nZ vla), .int (nZ vpc)])), (ms, .inl (k 0, 900, .inl (zA s)))])) (va_Qi (fun (rz : Int32) (uz : Unit) => rz = nZ (lastL (B.1 0) st (B.2 j))) (fun (uz : Unit) => zOut D (va_A [(mm, .inr (7, [.ref ms, .int (nZ vsv), .ref mk, .ref mb, .int (nZ vty), .int (nZ vth), .int (nZ ven), .int (nZ vsp), .int (nZ vla), .int (nZ vpc)])), (ms, .inl (k 0, 900, .inl (zA s)))] sz) [(mm, .inr (7, [.ref ms, .int (nZ vsv), .ref mk, .ref mb, .int (nZ vty), .int (nZ 0), .int (nZ ven), .int (nZ vsp), .int (nZ vla), .int (nZ vpc)])), (ms, .inl (k 0, 900, .inl (zA s)))]) (va_A [(mm, .inr (7, [.ref ms, .int (nZ vsv), .ref mk, .ref mb, .int (nZ vty), .int (nZ vth), .int (nZ ven), .int (nZ vsp), .int (nZ vla), .int (nZ vpc)])), (ms, .inl (k 0, 900, .inl (zA s)))] sz)) 0 0 (va_A [(mm, .inr (7, [.ref ms, .int (nZ vsv), .ref mk, .ref mb, .int (nZ vty), .int (nZ vth), .int (nZ ven), .int (nZ vsp), .int (nZ vla), .int (nZ vpc)])), (ms, .inl (k 0, 900, .inl (zA s)))] sz) := by
  refine zEnter (Qf := fun A => va_Qi (fun (rz : Int32) (uz : Unit) => rz = nZ (lastL (B.1 0) st (B.2 j))) (fun (uz : Unit) => zOut D A [(mm, .inr (7, [.ref ms, .int (nZ vsv), .ref mk, .ref mb, .int (nZ vty), .int (nZ 0), .int (nZ ven), .int (nZ vsp), .int (nZ vla), .int (nZ vpc)])), (ms, .inl (k 0, 900, .inl (zA s)))]) A) RX7 (by decide) rfl (Nat.le_of_ble_eq_true rfl) ?_
  intro p9 e9 s9 m9 be9 me9 c9 ls A X hin hP hD hS hA hAe hl
  have hX := X.1; have hB := X.2.1; have hz := X.2.2.2.2.1; have hW := X.2.2.2.2.2.1; have hK := X.2.2.2.2.2.2.2; clear hAe
  clear hin
  have hl : lv_has ls 4 [(0, .ref mm), (1, .int (nZ ↑j)), (2, .int (nZ st)), (3, .int (nZ 0))] := hl
  refine lv_aload_n hX hB dX7_ends__0 rfl (lv_at hl 0 rfl) ?_
  refine lv_iload_n hX hB dX7_ends__1 rfl (lv_at hl 1 rfl) ?_
  refine zCallI0 (zRunS X ms_X7_isLane (c_X7_isLane_t l D k _ ↑j (⟨by omega, by omega⟩) (by first | assumption | omega | exact ⟨by omega, by omega⟩)) zw_236 (zPreS hP hD hK [] rfl rfl) rfl hl (Nat.le_of_ble_eq_true rfl) dX7_ends__2 ⟨rfl, rfl, ⟨Nat.le_of_ble_eq_true rfl, Nat.le_of_ble_eq_true rfl⟩, Nat.le_of_ble_eq_true rfl, Nat.le_of_ble_eq_true rfl⟩ rfl) hS hP hD hA [] rfl (fun _ => rfl) (fun r_2 u_2 H locs hq_2 hP hD hS => ?_)
  subst hq_2
  have hP : va_P D vwCl [(mm, .inr (7, [.ref ms, .int (nZ vsv), .ref mk, .ref mb, .int (nZ vty), .int (nZ vth), .int (nZ ven), .int (nZ vsp), .int (nZ vla), .int (nZ vpc)])), (ms, .inl (k 0, 900, .inl (zA s)))] H := hP
  have hD : va_D A [(mm, .inr (7, [.ref ms, .int (nZ vsv), .ref mk, .ref mb, .int (nZ vty), .int (nZ vth), .int (nZ ven), .int (nZ vsp), .int (nZ vla), .int (nZ vpc)])), (ms, .inl (k 0, 900, .inl (zA s)))] := hD
  refine lv_iload_n hX hB dX7_ends__5 rfl (lv_at hl 2 rfl) ?_
  refine zCallI0 (zRunS X ms_X7_isStrength (c_X7_isStrength_t l D k _ st (⟨by omega, by omega⟩) hst) zw_242 (zPreS hP hD hK [] rfl rfl) rfl hl (Nat.le_of_ble_eq_true rfl) dX7_ends__6 ⟨rfl, rfl, ⟨Nat.le_of_ble_eq_true rfl, Nat.le_of_ble_eq_true rfl⟩, Nat.le_of_ble_eq_true rfl, Nat.le_of_ble_eq_true rfl⟩ rfl) hS hP hD hA [] rfl (fun _ => rfl) (fun r_6 u_6 H locs hq_6 hP hD hS => ?_)
  subst hq_6
  have hP : va_P D vwCl [(mm, .inr (7, [.ref ms, .int (nZ vsv), .ref mk, .ref mb, .int (nZ vty), .int (nZ vth), .int (nZ ven), .int (nZ vsp), .int (nZ vla), .int (nZ vpc)])), (ms, .inl (k 0, 900, .inl (zA s)))] H := hP
  have hD : va_D A [(mm, .inr (7, [.ref ms, .int (nZ vsv), .ref mk, .ref mb, .int (nZ vty), .int (nZ vth), .int (nZ ven), .int (nZ vsp), .int (nZ vla), .int (nZ vpc)])), (ms, .inl (k 0, 900, .inl (zA s)))] := hD
  refine zz_if_eq X (tgt := 25) dX7_ends__9 (by decide) ⟨by omega, by omega⟩ (fun c_9 => ?_) (fun c_9 => ?_)
  · exfalso; omega
  · refine lv_iload_n hX hB dX7_ends__12 rfl (lv_at hl 3 rfl) ?_
    refine lv_iconst (v := nZ 0) hX hB dX7_ends__13 rfl ?_
    refine lv_iconst (v := nZ 1) hX hB dX7_ends__14 rfl ?_
    refine zCallI0 (zRunS X ms_X7_in (c_X7_in_t l D k _ 0 0 1 (by first | assumption | omega | exact ⟨by omega, by omega⟩) (by first | assumption | omega | exact ⟨by omega, by omega⟩) (by first | assumption | omega | exact ⟨by omega, by omega⟩) (by first | assumption | omega | exact ⟨by omega, by omega⟩)) zw_239 (zPreS hP hD hK [] rfl rfl) rfl hl (Nat.le_of_ble_eq_true rfl) dX7_ends__15 ⟨rfl, rfl, ⟨Nat.le_of_ble_eq_true rfl, Nat.le_of_ble_eq_true rfl⟩, Nat.le_of_ble_eq_true rfl, Nat.le_of_ble_eq_true rfl⟩ rfl) hS hP hD hA [] rfl (fun _ => rfl) (fun r_15 u_15 H locs hq_15 hP hD hS => ?_)
    subst hq_15
    have hP : va_P D vwCl [(mm, .inr (7, [.ref ms, .int (nZ vsv), .ref mk, .ref mb, .int (nZ vty), .int (nZ vth), .int (nZ ven), .int (nZ vsp), .int (nZ vla), .int (nZ vpc)])), (ms, .inl (k 0, 900, .inl (zA s)))] H := hP
    have hD : va_D A [(mm, .inr (7, [.ref ms, .int (nZ vsv), .ref mk, .ref mb, .int (nZ vty), .int (nZ vth), .int (nZ ven), .int (nZ vsp), .int (nZ vla), .int (nZ vpc)])), (ms, .inl (k 0, 900, .inl (zA s)))] := hD
    refine zz_if_eq X (tgt := 25) dX7_ends__18 (by decide) ⟨by omega, by omega⟩ (fun c_18 => ?_) (fun c_18 => ?_)
    · exfalso; omega
    · refine lv_iconst (v := nZ 1) hX hB dX7_ends__21 rfl ?_
      refine lv_goto (tgt := 26) hX hB dX7_ends__22 (by decide) ?_
      refine zCallI0 (zRunV (As := [.int (nZ 1), .int (nZ 1)]) X mv_X7_goes (c_X7_goes_11 l D k _ mm ms mk mb vsv vty vth ven vsp vla vpc ) zw_245 (zPreV hP hD hK [0] rfl rfl 0 7 rfl rfl rfl) rfl hl (Nat.le_of_ble_eq_true rfl) dX7_ends__26 ⟨rfl, rfl, ⟨Nat.le_of_ble_eq_true rfl, Nat.le_of_ble_eq_true rfl⟩, Nat.le_of_ble_eq_true rfl, Nat.le_of_ble_eq_true rfl⟩ rfl) hS hP hD hA [0] rfl (fun _ => rfl) (fun r_26 u_26 H locs hq_26 hP hD hS => ?_)
      subst hq_26
      have hP : va_P D vwCl [(mm, .inr (7, [.ref ms, .int (nZ vsv), .ref mk, .ref mb, .int (nZ vty), .int (nZ 0), .int (nZ ven), .int (nZ vsp), .int (nZ vla), .int (nZ vpc)])), (ms, .inl (k 0, 900, .inl (zA s)))] H := hP
      have hD : va_D A [(mm, .inr (7, [.ref ms, .int (nZ vsv), .ref mk, .ref mb, .int (nZ vty), .int (nZ 0), .int (nZ ven), .int (nZ vsp), .int (nZ vla), .int (nZ vpc)])), (ms, .inl (k 0, 900, .inl (zA s)))] := hD
      refine zz_if_eq X (tgt := 42) dX7_ends__29 (by decide) ⟨by omega, by omega⟩ (fun c_29 => ?_) (fun c_29 => ?_)
      · exfalso; omega
      · refine lv_aload_n hX hB dX7_ends__32 rfl (lv_at hl 0 rfl) ?_
        refine lv_iload_n hX hB dX7_ends__33 rfl (lv_at hl 1 rfl) ?_
        refine lv_iload_n hX hB dX7_ends__34 rfl (lv_at hl 2 rfl) ?_
        refine lv_iload_n hX hB dX7_ends__35 rfl (lv_at hl 3 rfl) ?_
        refine zCallI0 (zRunV (As := [.int (nZ ↑j), .int (nZ st), .int (nZ 0)]) X mv_X7_endBy (c_X7_endBy_0 l D k _ mm ms mk mb vsv vty 0 ven vsp vla vpc s j B st hBk hjj hCh hcost hst) zw_590 (zPreV hP hD hK [0, 1] rfl rfl 0 7 rfl rfl rfl) rfl hl (Nat.le_of_ble_eq_true rfl) dX7_ends__36 ⟨rfl, rfl, ⟨Nat.le_of_ble_eq_true rfl, Nat.le_of_ble_eq_true rfl⟩, Nat.le_of_ble_eq_true rfl, Nat.le_of_ble_eq_true rfl⟩ rfl) hS hP hD hA [0, 1] rfl (fun _ => rfl) (fun r_36 u_36 H locs hq_36 hP hD hS => ?_)
        subst hq_36
        have hP : va_P D vwCl [(mm, .inr (7, [.ref ms, .int (nZ vsv), .ref mk, .ref mb, .int (nZ vty), .int (nZ 0), .int (nZ ven), .int (nZ vsp), .int (nZ vla), .int (nZ vpc)])), (ms, .inl (k 0, 900, .inl (zA s)))] H := hP
        have hD : va_D A [(mm, .inr (7, [.ref ms, .int (nZ vsv), .ref mk, .ref mb, .int (nZ vty), .int (nZ 0), .int (nZ ven), .int (nZ vsp), .int (nZ vla), .int (nZ vpc)])), (ms, .inl (k 0, 900, .inl (zA s)))] := hD
        refine lv_goto (tgt := 43) hX hB dX7_ends__39 (by decide) ?_
        exact zRetI () X hP hD hS rfl (by first | rfl | (congr 1; omega) | (dsimp only; congr 1; omega)) dX7_ends__43
set_option maxHeartbeats 4000000 in
set_option maxRecDepth 100000 in
theorem c_X7_ends__1 (l : Launch) (D : va_G) (k : Nat → ClassId) (sz : Nat) (mm ms mk mb : Nat) (vsv vty vth ven vsp vla vpc : Int) (s : Nat → Int) (j : Nat) (B : Bd) (st : Int) (hBk : blkOk s 0 B) (hjj : j < 3) (hCh : chainS (-5) (B.2 j)) (hcost : 0 ≤ B.1 0 ∧ B.1 0 ≤ 20) (hst : 1 ≤ st ∧ st ≤ 150) : Met l yX7_ends_ (zW yX7_ends_ cX7_ends_ 4 (some .int)) ({ frames := 6, cells := 0, slots := 0, locals := 151 } : Room) (va_Pc [.ref mm, .int (nZ ↑j), .int (nZ st), .int (nZ 1)] (zIn D k sz [(mm, .inr (7, [.ref ms, .int (nZ vsv), .ref mk, .ref mb, .int (nZ vty), .int (nZ vth), .int (nZ ven), .int (nZ vsp), .int (nZ vla), .int (nZ vpc)])), (ms, .inl (k 0, 900, .inl (zA s)))])) (va_Qi (fun (rz : Int32) (uz : (Nat → Int) × Int) => rz = nZ (lastL (B.1 0) st (B.2 j)) ∧ frOk s uz.1 810) (fun (uz : (Nat → Int) × Int) => zOut D (va_A [(mm, .inr (7, [.ref ms, .int (nZ vsv), .ref mk, .ref mb, .int (nZ vty), .int (nZ vth), .int (nZ ven), .int (nZ vsp), .int (nZ vla), .int (nZ vpc)])), (ms, .inl (k 0, 900, .inl (zA s)))] sz) [(mm, .inr (7, [.ref ms, .int (nZ vsv), .ref mk, .ref mb, .int (nZ vty), .int (nZ 0), .int (nZ uz.2), .int (nZ vsp), .int (nZ vla), .int (nZ vpc)])), (ms, .inl (k 0, 900, .inl (zA uz.1)))]) (va_A [(mm, .inr (7, [.ref ms, .int (nZ vsv), .ref mk, .ref mb, .int (nZ vty), .int (nZ vth), .int (nZ ven), .int (nZ vsp), .int (nZ vla), .int (nZ vpc)])), (ms, .inl (k 0, 900, .inl (zA s)))] sz)) 0 0 (va_A [(mm, .inr (7, [.ref ms, .int (nZ vsv), .ref mk, .ref mb, .int (nZ vty), .int (nZ vth), .int (nZ ven), .int (nZ vsp), .int (nZ vla), .int (nZ vpc)])), (ms, .inl (k 0, 900, .inl (zA s)))] sz) := by
  refine zEnter (Qf := fun A => va_Qi (fun (rz : Int32) (uz : (Nat → Int) × Int) => rz = nZ (lastL (B.1 0) st (B.2 j)) ∧ frOk s uz.1 810) (fun (uz : (Nat → Int) × Int) => zOut D A [(mm, .inr (7, [.ref ms, .int (nZ vsv), .ref mk, .ref mb, .int (nZ vty), .int (nZ 0), .int (nZ uz.2), .int (nZ vsp), .int (nZ vla), .int (nZ vpc)])), (ms, .inl (k 0, 900, .inl (zA uz.1)))]) A) RX7 (by decide) rfl (Nat.le_of_ble_eq_true rfl) ?_
  intro p9 e9 s9 m9 be9 me9 c9 ls A X hin hP hD hS hA hAe hl
  have hX := X.1; have hB := X.2.1; have hz := X.2.2.2.2.1; have hW := X.2.2.2.2.2.1; have hK := X.2.2.2.2.2.2.2; clear hAe
  clear hin
  have hl : lv_has ls 4 [(0, .ref mm), (1, .int (nZ ↑j)), (2, .int (nZ st)), (3, .int (nZ 1))] := hl
  refine lv_aload_n hX hB dX7_ends__0 rfl (lv_at hl 0 rfl) ?_
  refine lv_iload_n hX hB dX7_ends__1 rfl (lv_at hl 1 rfl) ?_
  refine zCallI0 (zRunS X ms_X7_isLane (c_X7_isLane_t l D k _ ↑j (⟨by omega, by omega⟩) (by first | assumption | omega | exact ⟨by omega, by omega⟩)) zw_236 (zPreS hP hD hK [] rfl rfl) rfl hl (Nat.le_of_ble_eq_true rfl) dX7_ends__2 ⟨rfl, rfl, ⟨Nat.le_of_ble_eq_true rfl, Nat.le_of_ble_eq_true rfl⟩, Nat.le_of_ble_eq_true rfl, Nat.le_of_ble_eq_true rfl⟩ rfl) hS hP hD hA [] rfl (fun _ => rfl) (fun r_2 u_2 H locs hq_2 hP hD hS => ?_)
  subst hq_2
  have hP : va_P D vwCl [(mm, .inr (7, [.ref ms, .int (nZ vsv), .ref mk, .ref mb, .int (nZ vty), .int (nZ vth), .int (nZ ven), .int (nZ vsp), .int (nZ vla), .int (nZ vpc)])), (ms, .inl (k 0, 900, .inl (zA s)))] H := hP
  have hD : va_D A [(mm, .inr (7, [.ref ms, .int (nZ vsv), .ref mk, .ref mb, .int (nZ vty), .int (nZ vth), .int (nZ ven), .int (nZ vsp), .int (nZ vla), .int (nZ vpc)])), (ms, .inl (k 0, 900, .inl (zA s)))] := hD
  refine lv_iload_n hX hB dX7_ends__5 rfl (lv_at hl 2 rfl) ?_
  refine zCallI0 (zRunS X ms_X7_isStrength (c_X7_isStrength_t l D k _ st (⟨by omega, by omega⟩) hst) zw_242 (zPreS hP hD hK [] rfl rfl) rfl hl (Nat.le_of_ble_eq_true rfl) dX7_ends__6 ⟨rfl, rfl, ⟨Nat.le_of_ble_eq_true rfl, Nat.le_of_ble_eq_true rfl⟩, Nat.le_of_ble_eq_true rfl, Nat.le_of_ble_eq_true rfl⟩ rfl) hS hP hD hA [] rfl (fun _ => rfl) (fun r_6 u_6 H locs hq_6 hP hD hS => ?_)
  subst hq_6
  have hP : va_P D vwCl [(mm, .inr (7, [.ref ms, .int (nZ vsv), .ref mk, .ref mb, .int (nZ vty), .int (nZ vth), .int (nZ ven), .int (nZ vsp), .int (nZ vla), .int (nZ vpc)])), (ms, .inl (k 0, 900, .inl (zA s)))] H := hP
  have hD : va_D A [(mm, .inr (7, [.ref ms, .int (nZ vsv), .ref mk, .ref mb, .int (nZ vty), .int (nZ vth), .int (nZ ven), .int (nZ vsp), .int (nZ vla), .int (nZ vpc)])), (ms, .inl (k 0, 900, .inl (zA s)))] := hD
  refine zz_if_eq X (tgt := 25) dX7_ends__9 (by decide) ⟨by omega, by omega⟩ (fun c_9 => ?_) (fun c_9 => ?_)
  · exfalso; omega
  · refine lv_iload_n hX hB dX7_ends__12 rfl (lv_at hl 3 rfl) ?_
    refine lv_iconst (v := nZ 0) hX hB dX7_ends__13 rfl ?_
    refine lv_iconst (v := nZ 1) hX hB dX7_ends__14 rfl ?_
    refine zCallI0 (zRunS X ms_X7_in (c_X7_in_t l D k _ 1 0 1 (by first | assumption | omega | exact ⟨by omega, by omega⟩) (by first | assumption | omega | exact ⟨by omega, by omega⟩) (by first | assumption | omega | exact ⟨by omega, by omega⟩) (by first | assumption | omega | exact ⟨by omega, by omega⟩)) zw_239 (zPreS hP hD hK [] rfl rfl) rfl hl (Nat.le_of_ble_eq_true rfl) dX7_ends__15 ⟨rfl, rfl, ⟨Nat.le_of_ble_eq_true rfl, Nat.le_of_ble_eq_true rfl⟩, Nat.le_of_ble_eq_true rfl, Nat.le_of_ble_eq_true rfl⟩ rfl) hS hP hD hA [] rfl (fun _ => rfl) (fun r_15 u_15 H locs hq_15 hP hD hS => ?_)
    subst hq_15
    have hP : va_P D vwCl [(mm, .inr (7, [.ref ms, .int (nZ vsv), .ref mk, .ref mb, .int (nZ vty), .int (nZ vth), .int (nZ ven), .int (nZ vsp), .int (nZ vla), .int (nZ vpc)])), (ms, .inl (k 0, 900, .inl (zA s)))] H := hP
    have hD : va_D A [(mm, .inr (7, [.ref ms, .int (nZ vsv), .ref mk, .ref mb, .int (nZ vty), .int (nZ vth), .int (nZ ven), .int (nZ vsp), .int (nZ vla), .int (nZ vpc)])), (ms, .inl (k 0, 900, .inl (zA s)))] := hD
    refine zz_if_eq X (tgt := 25) dX7_ends__18 (by decide) ⟨by omega, by omega⟩ (fun c_18 => ?_) (fun c_18 => ?_)
    · exfalso; omega
    · refine lv_iconst (v := nZ 1) hX hB dX7_ends__21 rfl ?_
      refine lv_goto (tgt := 26) hX hB dX7_ends__22 (by decide) ?_
      refine zCallI0 (zRunV (As := [.int (nZ 1), .int (nZ 1)]) X mv_X7_goes (c_X7_goes_11 l D k _ mm ms mk mb vsv vty vth ven vsp vla vpc ) zw_245 (zPreV hP hD hK [0] rfl rfl 0 7 rfl rfl rfl) rfl hl (Nat.le_of_ble_eq_true rfl) dX7_ends__26 ⟨rfl, rfl, ⟨Nat.le_of_ble_eq_true rfl, Nat.le_of_ble_eq_true rfl⟩, Nat.le_of_ble_eq_true rfl, Nat.le_of_ble_eq_true rfl⟩ rfl) hS hP hD hA [0] rfl (fun _ => rfl) (fun r_26 u_26 H locs hq_26 hP hD hS => ?_)
      subst hq_26
      have hP : va_P D vwCl [(mm, .inr (7, [.ref ms, .int (nZ vsv), .ref mk, .ref mb, .int (nZ vty), .int (nZ 0), .int (nZ ven), .int (nZ vsp), .int (nZ vla), .int (nZ vpc)])), (ms, .inl (k 0, 900, .inl (zA s)))] H := hP
      have hD : va_D A [(mm, .inr (7, [.ref ms, .int (nZ vsv), .ref mk, .ref mb, .int (nZ vty), .int (nZ 0), .int (nZ ven), .int (nZ vsp), .int (nZ vla), .int (nZ vpc)])), (ms, .inl (k 0, 900, .inl (zA s)))] := hD
      refine zz_if_eq X (tgt := 42) dX7_ends__29 (by decide) ⟨by omega, by omega⟩ (fun c_29 => ?_) (fun c_29 => ?_)
      · exfalso; omega
      · refine lv_aload_n hX hB dX7_ends__32 rfl (lv_at hl 0 rfl) ?_
        refine lv_iload_n hX hB dX7_ends__33 rfl (lv_at hl 1 rfl) ?_
        refine lv_iload_n hX hB dX7_ends__34 rfl (lv_at hl 2 rfl) ?_
        refine lv_iload_n hX hB dX7_ends__35 rfl (lv_at hl 3 rfl) ?_
        refine zCallI0 (zRunV (As := [.int (nZ ↑j), .int (nZ st), .int (nZ 1)]) X mv_X7_endBy (c_X7_endBy_1 l D k _ mm ms mk mb vsv vty 0 ven vsp vla vpc s j B st hBk hjj hCh hcost hst) zw_590 (zPreV hP hD hK [0, 1] rfl rfl 0 7 rfl rfl rfl) rfl hl (Nat.le_of_ble_eq_true rfl) dX7_ends__36 ⟨rfl, rfl, ⟨Nat.le_of_ble_eq_true rfl, Nat.le_of_ble_eq_true rfl⟩, Nat.le_of_ble_eq_true rfl, Nat.le_of_ble_eq_true rfl⟩ rfl) hS hP hD hA [0, 1] rfl (fun _ => rfl) (fun r_36 u_36 H locs hq_36 hP hD hS => ?_)
        obtain ⟨s2_36, ve2_36⟩ := u_36
        obtain ⟨rfl, hf2_36⟩ := hq_36
        try dsimp only at hf2_36
        have hP : va_P D vwCl [(mm, .inr (7, [.ref ms, .int (nZ vsv), .ref mk, .ref mb, .int (nZ vty), .int (nZ 0), .int (nZ ve2_36), .int (nZ vsp), .int (nZ vla), .int (nZ vpc)])), (ms, .inl (k 0, 900, .inl (zA s2_36)))] H := hP
        have hD : va_D A [(mm, .inr (7, [.ref ms, .int (nZ vsv), .ref mk, .ref mb, .int (nZ vty), .int (nZ 0), .int (nZ ve2_36), .int (nZ vsp), .int (nZ vla), .int (nZ vpc)])), (ms, .inl (k 0, 900, .inl (zA s2_36)))] := hD
        refine lv_goto (tgt := 43) hX hB dX7_ends__39 (by decide) ?_
        exact zRetI (s2_36, ve2_36) X hP hD hS rfl ⟨by first | rfl | (congr 1; omega) | (dsimp only; congr 1; omega), by first | assumption | omega | (dsimp only; omega) | rfl⟩ dX7_ends__43
set_option maxHeartbeats 4000000 in
set_option maxRecDepth 100000 in
theorem c_X7_ends__e1 (l : Launch) (D : va_G) (k : Nat → ClassId) (sz : Nat) (mm ms mk mb : Nat) (vsv vty vth ven vsp vla vpc : Int) (a c d : Int) (hza : zR a) (hzc : zR c) (hzd : zR d) (hb : a < 0 ∨ 2 < a) : Met l yX7_ends_ (zW yX7_ends_ cX7_ends_ 4 (some .int)) ({ frames := 6, cells := 0, slots := 0, locals := 151 } : Room) (va_Pc [.ref mm, .int (nZ a), .int (nZ c), .int (nZ d)] (zIn D k sz [(mm, .inr (7, [.ref ms, .int (nZ vsv), .ref mk, .ref mb, .int (nZ vty), .int (nZ vth), .int (nZ ven), .int (nZ vsp), .int (nZ vla), .int (nZ vpc)]))])) (va_Qi (fun (rz : Int32) (uz : Unit) => rz = nZ 0) (fun (uz : Unit) => zOut D (va_A [(mm, .inr (7, [.ref ms, .int (nZ vsv), .ref mk, .ref mb, .int (nZ vty), .int (nZ vth), .int (nZ ven), .int (nZ vsp), .int (nZ vla), .int (nZ vpc)]))] sz) [(mm, .inr (7, [.ref ms, .int (nZ vsv), .ref mk, .ref mb, .int (nZ vty), .int (nZ 1), .int (nZ ven), .int (nZ vsp), .int (nZ vla), .int (nZ vpc)]))]) (va_A [(mm, .inr (7, [.ref ms, .int (nZ vsv), .ref mk, .ref mb, .int (nZ vty), .int (nZ vth), .int (nZ ven), .int (nZ vsp), .int (nZ vla), .int (nZ vpc)]))] sz)) 0 0 (va_A [(mm, .inr (7, [.ref ms, .int (nZ vsv), .ref mk, .ref mb, .int (nZ vty), .int (nZ vth), .int (nZ ven), .int (nZ vsp), .int (nZ vla), .int (nZ vpc)]))] sz) := by
  refine zEnter (Qf := fun A => va_Qi (fun (rz : Int32) (uz : Unit) => rz = nZ 0) (fun (uz : Unit) => zOut D A [(mm, .inr (7, [.ref ms, .int (nZ vsv), .ref mk, .ref mb, .int (nZ vty), .int (nZ 1), .int (nZ ven), .int (nZ vsp), .int (nZ vla), .int (nZ vpc)]))]) A) RX7 (by decide) rfl (Nat.le_of_ble_eq_true rfl) ?_
  intro p9 e9 s9 m9 be9 me9 c9 ls A X hin hP hD hS hA hAe hl
  have hX := X.1; have hB := X.2.1; have hz := X.2.2.2.2.1; have hW := X.2.2.2.2.2.1; have hK := X.2.2.2.2.2.2.2; clear hAe
  clear hin
  have hl : lv_has ls 4 [(0, .ref mm), (1, .int (nZ a)), (2, .int (nZ c)), (3, .int (nZ d))] := hl
  refine lv_aload_n hX hB dX7_ends__0 rfl (lv_at hl 0 rfl) ?_
  refine lv_iload_n hX hB dX7_ends__1 rfl (lv_at hl 1 rfl) ?_
  refine zCallI0 (zRunS X ms_X7_isLane (c_X7_isLane_f l D k _ a hza hb) zw_236 (zPreS hP hD hK [] rfl rfl) rfl hl (Nat.le_of_ble_eq_true rfl) dX7_ends__2 ⟨rfl, rfl, ⟨Nat.le_of_ble_eq_true rfl, Nat.le_of_ble_eq_true rfl⟩, Nat.le_of_ble_eq_true rfl, Nat.le_of_ble_eq_true rfl⟩ rfl) hS hP hD hA [] rfl (fun _ => rfl) (fun r_2 u_2 H locs hq_2 hP hD hS => ?_)
  subst hq_2
  have hP : va_P D vwCl [(mm, .inr (7, [.ref ms, .int (nZ vsv), .ref mk, .ref mb, .int (nZ vty), .int (nZ vth), .int (nZ ven), .int (nZ vsp), .int (nZ vla), .int (nZ vpc)]))] H := hP
  have hD : va_D A [(mm, .inr (7, [.ref ms, .int (nZ vsv), .ref mk, .ref mb, .int (nZ vty), .int (nZ vth), .int (nZ ven), .int (nZ vsp), .int (nZ vla), .int (nZ vpc)]))] := hD
  refine lv_iload_n hX hB dX7_ends__5 rfl (lv_at hl 2 rfl) ?_
  refine zCallI0 (zRunS X ms_X7_isStrength (c_X7_isStrength_g l D k _ c hzc) zw_242 (zPreS hP hD hK [] rfl rfl) rfl hl (Nat.le_of_ble_eq_true rfl) dX7_ends__6 ⟨rfl, rfl, ⟨Nat.le_of_ble_eq_true rfl, Nat.le_of_ble_eq_true rfl⟩, Nat.le_of_ble_eq_true rfl, Nat.le_of_ble_eq_true rfl⟩ rfl) hS hP hD hA [] rfl (fun _ => rfl) (fun r_6 u_6 H locs hq_6 hP hD hS => ?_)
  subst hq_6
  have hP : va_P D vwCl [(mm, .inr (7, [.ref ms, .int (nZ vsv), .ref mk, .ref mb, .int (nZ vty), .int (nZ vth), .int (nZ ven), .int (nZ vsp), .int (nZ vla), .int (nZ vpc)]))] H := hP
  have hD : va_D A [(mm, .inr (7, [.ref ms, .int (nZ vsv), .ref mk, .ref mb, .int (nZ vty), .int (nZ vth), .int (nZ ven), .int (nZ vsp), .int (nZ vla), .int (nZ vpc)]))] := hD
  refine zz_if_eq X (tgt := 25) dX7_ends__9 (by decide) ⟨by (split <;> omega), by (split <;> omega)⟩ (fun c_9 => ?_) (fun c_9 => ?_)
  · refine lv_iconst (v := nZ 0) hX hB dX7_ends__25 rfl ?_
    refine zCallI0 (zRunV (As := [.int (nZ 0), .int (nZ 0)]) X mv_X7_goes (c_X7_goes_0 l D k _ mm ms mk mb vsv vty vth ven vsp vla vpc 0 ) zw_245 (zPreV hP hD hK [0] rfl rfl 0 7 rfl rfl rfl) rfl hl (Nat.le_of_ble_eq_true rfl) dX7_ends__26 ⟨rfl, rfl, ⟨Nat.le_of_ble_eq_true rfl, Nat.le_of_ble_eq_true rfl⟩, Nat.le_of_ble_eq_true rfl, Nat.le_of_ble_eq_true rfl⟩ rfl) hS hP hD hA [0] rfl (fun _ => rfl) (fun r_26 u_26 H locs hq_26 hP hD hS => ?_)
    subst hq_26
    have hP : va_P D vwCl [(mm, .inr (7, [.ref ms, .int (nZ vsv), .ref mk, .ref mb, .int (nZ vty), .int (nZ 1), .int (nZ ven), .int (nZ vsp), .int (nZ vla), .int (nZ vpc)]))] H := hP
    have hD : va_D A [(mm, .inr (7, [.ref ms, .int (nZ vsv), .ref mk, .ref mb, .int (nZ vty), .int (nZ 1), .int (nZ ven), .int (nZ vsp), .int (nZ vla), .int (nZ vpc)]))] := hD
    refine zz_if_eq X (tgt := 42) dX7_ends__29 (by decide) ⟨by omega, by omega⟩ (fun c_29 => ?_) (fun c_29 => ?_)
    · refine lv_iconst (v := nZ 0) hX hB dX7_ends__42 rfl ?_
      exact zRetI () X hP hD hS rfl (by first | rfl | (congr 1; omega) | (dsimp only; congr 1; omega)) dX7_ends__43
    · exfalso; omega
  · refine lv_iload_n hX hB dX7_ends__12 rfl (lv_at hl 3 rfl) ?_
    refine lv_iconst (v := nZ 0) hX hB dX7_ends__13 rfl ?_
    refine lv_iconst (v := nZ 1) hX hB dX7_ends__14 rfl ?_
    refine zCallI0 (zRunS X ms_X7_in (c_X7_in_g l D k _ d 0 1 hzd (by first | assumption | omega | exact ⟨by omega, by omega⟩) (by first | assumption | omega | exact ⟨by omega, by omega⟩)) zw_239 (zPreS hP hD hK [] rfl rfl) rfl hl (Nat.le_of_ble_eq_true rfl) dX7_ends__15 ⟨rfl, rfl, ⟨Nat.le_of_ble_eq_true rfl, Nat.le_of_ble_eq_true rfl⟩, Nat.le_of_ble_eq_true rfl, Nat.le_of_ble_eq_true rfl⟩ rfl) hS hP hD hA [] rfl (fun _ => rfl) (fun r_15 u_15 H locs hq_15 hP hD hS => ?_)
    subst hq_15
    have hP : va_P D vwCl [(mm, .inr (7, [.ref ms, .int (nZ vsv), .ref mk, .ref mb, .int (nZ vty), .int (nZ vth), .int (nZ ven), .int (nZ vsp), .int (nZ vla), .int (nZ vpc)]))] H := hP
    have hD : va_D A [(mm, .inr (7, [.ref ms, .int (nZ vsv), .ref mk, .ref mb, .int (nZ vty), .int (nZ vth), .int (nZ ven), .int (nZ vsp), .int (nZ vla), .int (nZ vpc)]))] := hD
    refine zz_if_eq X (tgt := 25) dX7_ends__18 (by decide) ⟨by (split <;> omega), by (split <;> omega)⟩ (fun c_18 => ?_) (fun c_18 => ?_)
    · refine lv_iconst (v := nZ 0) hX hB dX7_ends__25 rfl ?_
      refine zCallI0 (zRunV (As := [.int (nZ 0), .int (nZ 0)]) X mv_X7_goes (c_X7_goes_0 l D k _ mm ms mk mb vsv vty vth ven vsp vla vpc 0 ) zw_245 (zPreV hP hD hK [0] rfl rfl 0 7 rfl rfl rfl) rfl hl (Nat.le_of_ble_eq_true rfl) dX7_ends__26 ⟨rfl, rfl, ⟨Nat.le_of_ble_eq_true rfl, Nat.le_of_ble_eq_true rfl⟩, Nat.le_of_ble_eq_true rfl, Nat.le_of_ble_eq_true rfl⟩ rfl) hS hP hD hA [0] rfl (fun _ => rfl) (fun r_26 u_26 H locs hq_26 hP hD hS => ?_)
      subst hq_26
      have hP : va_P D vwCl [(mm, .inr (7, [.ref ms, .int (nZ vsv), .ref mk, .ref mb, .int (nZ vty), .int (nZ 1), .int (nZ ven), .int (nZ vsp), .int (nZ vla), .int (nZ vpc)]))] H := hP
      have hD : va_D A [(mm, .inr (7, [.ref ms, .int (nZ vsv), .ref mk, .ref mb, .int (nZ vty), .int (nZ 1), .int (nZ ven), .int (nZ vsp), .int (nZ vla), .int (nZ vpc)]))] := hD
      refine zz_if_eq X (tgt := 42) dX7_ends__29 (by decide) ⟨by omega, by omega⟩ (fun c_29 => ?_) (fun c_29 => ?_)
      · refine lv_iconst (v := nZ 0) hX hB dX7_ends__42 rfl ?_
        exact zRetI () X hP hD hS rfl (by first | rfl | (congr 1; omega) | (dsimp only; congr 1; omega)) dX7_ends__43
      · exfalso; omega
    · refine lv_iconst (v := nZ 1) hX hB dX7_ends__21 rfl ?_
      refine lv_goto (tgt := 26) hX hB dX7_ends__22 (by decide) ?_
      refine zCallI0 (zRunV (As := [.int (nZ 0), .int (nZ 1)]) X mv_X7_goes (c_X7_goes_0 l D k _ mm ms mk mb vsv vty vth ven vsp vla vpc 1 ) zw_245 (zPreV hP hD hK [0] rfl rfl 0 7 rfl rfl rfl) rfl hl (Nat.le_of_ble_eq_true rfl) dX7_ends__26 ⟨rfl, rfl, ⟨Nat.le_of_ble_eq_true rfl, Nat.le_of_ble_eq_true rfl⟩, Nat.le_of_ble_eq_true rfl, Nat.le_of_ble_eq_true rfl⟩ rfl) hS hP hD hA [0] rfl (fun _ => rfl) (fun r_26 u_26 H locs hq_26 hP hD hS => ?_)
      subst hq_26
      have hP : va_P D vwCl [(mm, .inr (7, [.ref ms, .int (nZ vsv), .ref mk, .ref mb, .int (nZ vty), .int (nZ 1), .int (nZ ven), .int (nZ vsp), .int (nZ vla), .int (nZ vpc)]))] H := hP
      have hD : va_D A [(mm, .inr (7, [.ref ms, .int (nZ vsv), .ref mk, .ref mb, .int (nZ vty), .int (nZ 1), .int (nZ ven), .int (nZ vsp), .int (nZ vla), .int (nZ vpc)]))] := hD
      refine zz_if_eq X (tgt := 42) dX7_ends__29 (by decide) ⟨by omega, by omega⟩ (fun c_29 => ?_) (fun c_29 => ?_)
      · refine lv_iconst (v := nZ 0) hX hB dX7_ends__42 rfl ?_
        exact zRetI () X hP hD hS rfl (by first | rfl | (congr 1; omega) | (dsimp only; congr 1; omega)) dX7_ends__43
      · exfalso; omega
set_option maxHeartbeats 4000000 in
set_option maxRecDepth 100000 in
theorem c_X7_ends__e2s (l : Launch) (D : va_G) (k : Nat → ClassId) (sz : Nat) (mm ms mk mb : Nat) (vsv vty vth ven vsp vla vpc : Int) (a c d : Int) (hza : zR a) (hzc : zR c) (hzd : zR d) (ha : 0 ≤ a ∧ a ≤ 2) (hb : c < 1 ∨ 150 < c) : Met l yX7_ends_ (zW yX7_ends_ cX7_ends_ 4 (some .int)) ({ frames := 6, cells := 0, slots := 0, locals := 151 } : Room) (va_Pc [.ref mm, .int (nZ a), .int (nZ c), .int (nZ d)] (zIn D k sz [(mm, .inr (7, [.ref ms, .int (nZ vsv), .ref mk, .ref mb, .int (nZ vty), .int (nZ vth), .int (nZ ven), .int (nZ vsp), .int (nZ vla), .int (nZ vpc)]))])) (va_Qi (fun (rz : Int32) (uz : Unit) => rz = nZ 0) (fun (uz : Unit) => zOut D (va_A [(mm, .inr (7, [.ref ms, .int (nZ vsv), .ref mk, .ref mb, .int (nZ vty), .int (nZ vth), .int (nZ ven), .int (nZ vsp), .int (nZ vla), .int (nZ vpc)]))] sz) [(mm, .inr (7, [.ref ms, .int (nZ vsv), .ref mk, .ref mb, .int (nZ vty), .int (nZ 2), .int (nZ ven), .int (nZ vsp), .int (nZ vla), .int (nZ vpc)]))]) (va_A [(mm, .inr (7, [.ref ms, .int (nZ vsv), .ref mk, .ref mb, .int (nZ vty), .int (nZ vth), .int (nZ ven), .int (nZ vsp), .int (nZ vla), .int (nZ vpc)]))] sz)) 0 0 (va_A [(mm, .inr (7, [.ref ms, .int (nZ vsv), .ref mk, .ref mb, .int (nZ vty), .int (nZ vth), .int (nZ ven), .int (nZ vsp), .int (nZ vla), .int (nZ vpc)]))] sz) := by
  refine zEnter (Qf := fun A => va_Qi (fun (rz : Int32) (uz : Unit) => rz = nZ 0) (fun (uz : Unit) => zOut D A [(mm, .inr (7, [.ref ms, .int (nZ vsv), .ref mk, .ref mb, .int (nZ vty), .int (nZ 2), .int (nZ ven), .int (nZ vsp), .int (nZ vla), .int (nZ vpc)]))]) A) RX7 (by decide) rfl (Nat.le_of_ble_eq_true rfl) ?_
  intro p9 e9 s9 m9 be9 me9 c9 ls A X hin hP hD hS hA hAe hl
  have hX := X.1; have hB := X.2.1; have hz := X.2.2.2.2.1; have hW := X.2.2.2.2.2.1; have hK := X.2.2.2.2.2.2.2; clear hAe
  clear hin
  have hl : lv_has ls 4 [(0, .ref mm), (1, .int (nZ a)), (2, .int (nZ c)), (3, .int (nZ d))] := hl
  refine lv_aload_n hX hB dX7_ends__0 rfl (lv_at hl 0 rfl) ?_
  refine lv_iload_n hX hB dX7_ends__1 rfl (lv_at hl 1 rfl) ?_
  refine zCallI0 (zRunS X ms_X7_isLane (c_X7_isLane_t l D k _ a hza ha) zw_236 (zPreS hP hD hK [] rfl rfl) rfl hl (Nat.le_of_ble_eq_true rfl) dX7_ends__2 ⟨rfl, rfl, ⟨Nat.le_of_ble_eq_true rfl, Nat.le_of_ble_eq_true rfl⟩, Nat.le_of_ble_eq_true rfl, Nat.le_of_ble_eq_true rfl⟩ rfl) hS hP hD hA [] rfl (fun _ => rfl) (fun r_2 u_2 H locs hq_2 hP hD hS => ?_)
  subst hq_2
  have hP : va_P D vwCl [(mm, .inr (7, [.ref ms, .int (nZ vsv), .ref mk, .ref mb, .int (nZ vty), .int (nZ vth), .int (nZ ven), .int (nZ vsp), .int (nZ vla), .int (nZ vpc)]))] H := hP
  have hD : va_D A [(mm, .inr (7, [.ref ms, .int (nZ vsv), .ref mk, .ref mb, .int (nZ vty), .int (nZ vth), .int (nZ ven), .int (nZ vsp), .int (nZ vla), .int (nZ vpc)]))] := hD
  refine lv_iload_n hX hB dX7_ends__5 rfl (lv_at hl 2 rfl) ?_
  refine zCallI0 (zRunS X ms_X7_isStrength (c_X7_isStrength_f l D k _ c hzc hb) zw_242 (zPreS hP hD hK [] rfl rfl) rfl hl (Nat.le_of_ble_eq_true rfl) dX7_ends__6 ⟨rfl, rfl, ⟨Nat.le_of_ble_eq_true rfl, Nat.le_of_ble_eq_true rfl⟩, Nat.le_of_ble_eq_true rfl, Nat.le_of_ble_eq_true rfl⟩ rfl) hS hP hD hA [] rfl (fun _ => rfl) (fun r_6 u_6 H locs hq_6 hP hD hS => ?_)
  subst hq_6
  have hP : va_P D vwCl [(mm, .inr (7, [.ref ms, .int (nZ vsv), .ref mk, .ref mb, .int (nZ vty), .int (nZ vth), .int (nZ ven), .int (nZ vsp), .int (nZ vla), .int (nZ vpc)]))] H := hP
  have hD : va_D A [(mm, .inr (7, [.ref ms, .int (nZ vsv), .ref mk, .ref mb, .int (nZ vty), .int (nZ vth), .int (nZ ven), .int (nZ vsp), .int (nZ vla), .int (nZ vpc)]))] := hD
  refine zz_if_eq X (tgt := 25) dX7_ends__9 (by decide) ⟨by omega, by omega⟩ (fun c_9 => ?_) (fun c_9 => ?_)
  · refine lv_iconst (v := nZ 0) hX hB dX7_ends__25 rfl ?_
    refine zCallI0 (zRunV (As := [.int (nZ 1), .int (nZ 0)]) X mv_X7_goes (c_X7_goes_10 l D k _ mm ms mk mb vsv vty vth ven vsp vla vpc ) zw_245 (zPreV hP hD hK [0] rfl rfl 0 7 rfl rfl rfl) rfl hl (Nat.le_of_ble_eq_true rfl) dX7_ends__26 ⟨rfl, rfl, ⟨Nat.le_of_ble_eq_true rfl, Nat.le_of_ble_eq_true rfl⟩, Nat.le_of_ble_eq_true rfl, Nat.le_of_ble_eq_true rfl⟩ rfl) hS hP hD hA [0] rfl (fun _ => rfl) (fun r_26 u_26 H locs hq_26 hP hD hS => ?_)
    subst hq_26
    have hP : va_P D vwCl [(mm, .inr (7, [.ref ms, .int (nZ vsv), .ref mk, .ref mb, .int (nZ vty), .int (nZ 2), .int (nZ ven), .int (nZ vsp), .int (nZ vla), .int (nZ vpc)]))] H := hP
    have hD : va_D A [(mm, .inr (7, [.ref ms, .int (nZ vsv), .ref mk, .ref mb, .int (nZ vty), .int (nZ 2), .int (nZ ven), .int (nZ vsp), .int (nZ vla), .int (nZ vpc)]))] := hD
    refine zz_if_eq X (tgt := 42) dX7_ends__29 (by decide) ⟨by omega, by omega⟩ (fun c_29 => ?_) (fun c_29 => ?_)
    · refine lv_iconst (v := nZ 0) hX hB dX7_ends__42 rfl ?_
      exact zRetI () X hP hD hS rfl (by first | rfl | (congr 1; omega) | (dsimp only; congr 1; omega)) dX7_ends__43
    · exfalso; omega
  · exfalso; omega
set_option maxHeartbeats 4000000 in
set_option maxRecDepth 100000 in
theorem c_X7_ends__e2w (l : Launch) (D : va_G) (k : Nat → ClassId) (sz : Nat) (mm ms mk mb : Nat) (vsv vty vth ven vsp vla vpc : Int) (a c d : Int) (hza : zR a) (hzc : zR c) (hzd : zR d) (ha : 0 ≤ a ∧ a ≤ 2) (hc : 1 ≤ c ∧ c ≤ 150) (hb : d < 0 ∨ 1 < d) : Met l yX7_ends_ (zW yX7_ends_ cX7_ends_ 4 (some .int)) ({ frames := 6, cells := 0, slots := 0, locals := 151 } : Room) (va_Pc [.ref mm, .int (nZ a), .int (nZ c), .int (nZ d)] (zIn D k sz [(mm, .inr (7, [.ref ms, .int (nZ vsv), .ref mk, .ref mb, .int (nZ vty), .int (nZ vth), .int (nZ ven), .int (nZ vsp), .int (nZ vla), .int (nZ vpc)]))])) (va_Qi (fun (rz : Int32) (uz : Unit) => rz = nZ 0) (fun (uz : Unit) => zOut D (va_A [(mm, .inr (7, [.ref ms, .int (nZ vsv), .ref mk, .ref mb, .int (nZ vty), .int (nZ vth), .int (nZ ven), .int (nZ vsp), .int (nZ vla), .int (nZ vpc)]))] sz) [(mm, .inr (7, [.ref ms, .int (nZ vsv), .ref mk, .ref mb, .int (nZ vty), .int (nZ 2), .int (nZ ven), .int (nZ vsp), .int (nZ vla), .int (nZ vpc)]))]) (va_A [(mm, .inr (7, [.ref ms, .int (nZ vsv), .ref mk, .ref mb, .int (nZ vty), .int (nZ vth), .int (nZ ven), .int (nZ vsp), .int (nZ vla), .int (nZ vpc)]))] sz)) 0 0 (va_A [(mm, .inr (7, [.ref ms, .int (nZ vsv), .ref mk, .ref mb, .int (nZ vty), .int (nZ vth), .int (nZ ven), .int (nZ vsp), .int (nZ vla), .int (nZ vpc)]))] sz) := by
  refine zEnter (Qf := fun A => va_Qi (fun (rz : Int32) (uz : Unit) => rz = nZ 0) (fun (uz : Unit) => zOut D A [(mm, .inr (7, [.ref ms, .int (nZ vsv), .ref mk, .ref mb, .int (nZ vty), .int (nZ 2), .int (nZ ven), .int (nZ vsp), .int (nZ vla), .int (nZ vpc)]))]) A) RX7 (by decide) rfl (Nat.le_of_ble_eq_true rfl) ?_
  intro p9 e9 s9 m9 be9 me9 c9 ls A X hin hP hD hS hA hAe hl
  have hX := X.1; have hB := X.2.1; have hz := X.2.2.2.2.1; have hW := X.2.2.2.2.2.1; have hK := X.2.2.2.2.2.2.2; clear hAe
  clear hin
  have hl : lv_has ls 4 [(0, .ref mm), (1, .int (nZ a)), (2, .int (nZ c)), (3, .int (nZ d))] := hl
  refine lv_aload_n hX hB dX7_ends__0 rfl (lv_at hl 0 rfl) ?_
  refine lv_iload_n hX hB dX7_ends__1 rfl (lv_at hl 1 rfl) ?_
  refine zCallI0 (zRunS X ms_X7_isLane (c_X7_isLane_t l D k _ a hza ha) zw_236 (zPreS hP hD hK [] rfl rfl) rfl hl (Nat.le_of_ble_eq_true rfl) dX7_ends__2 ⟨rfl, rfl, ⟨Nat.le_of_ble_eq_true rfl, Nat.le_of_ble_eq_true rfl⟩, Nat.le_of_ble_eq_true rfl, Nat.le_of_ble_eq_true rfl⟩ rfl) hS hP hD hA [] rfl (fun _ => rfl) (fun r_2 u_2 H locs hq_2 hP hD hS => ?_)
  subst hq_2
  have hP : va_P D vwCl [(mm, .inr (7, [.ref ms, .int (nZ vsv), .ref mk, .ref mb, .int (nZ vty), .int (nZ vth), .int (nZ ven), .int (nZ vsp), .int (nZ vla), .int (nZ vpc)]))] H := hP
  have hD : va_D A [(mm, .inr (7, [.ref ms, .int (nZ vsv), .ref mk, .ref mb, .int (nZ vty), .int (nZ vth), .int (nZ ven), .int (nZ vsp), .int (nZ vla), .int (nZ vpc)]))] := hD
  refine lv_iload_n hX hB dX7_ends__5 rfl (lv_at hl 2 rfl) ?_
  refine zCallI0 (zRunS X ms_X7_isStrength (c_X7_isStrength_t l D k _ c hzc hc) zw_242 (zPreS hP hD hK [] rfl rfl) rfl hl (Nat.le_of_ble_eq_true rfl) dX7_ends__6 ⟨rfl, rfl, ⟨Nat.le_of_ble_eq_true rfl, Nat.le_of_ble_eq_true rfl⟩, Nat.le_of_ble_eq_true rfl, Nat.le_of_ble_eq_true rfl⟩ rfl) hS hP hD hA [] rfl (fun _ => rfl) (fun r_6 u_6 H locs hq_6 hP hD hS => ?_)
  subst hq_6
  have hP : va_P D vwCl [(mm, .inr (7, [.ref ms, .int (nZ vsv), .ref mk, .ref mb, .int (nZ vty), .int (nZ vth), .int (nZ ven), .int (nZ vsp), .int (nZ vla), .int (nZ vpc)]))] H := hP
  have hD : va_D A [(mm, .inr (7, [.ref ms, .int (nZ vsv), .ref mk, .ref mb, .int (nZ vty), .int (nZ vth), .int (nZ ven), .int (nZ vsp), .int (nZ vla), .int (nZ vpc)]))] := hD
  refine zz_if_eq X (tgt := 25) dX7_ends__9 (by decide) ⟨by omega, by omega⟩ (fun c_9 => ?_) (fun c_9 => ?_)
  · exfalso; omega
  · refine lv_iload_n hX hB dX7_ends__12 rfl (lv_at hl 3 rfl) ?_
    refine lv_iconst (v := nZ 0) hX hB dX7_ends__13 rfl ?_
    refine lv_iconst (v := nZ 1) hX hB dX7_ends__14 rfl ?_
    refine zCallI0 (zRunS X ms_X7_in (c_X7_in_f l D k _ d 0 1 hzd (by first | assumption | omega | exact ⟨by omega, by omega⟩) (by first | assumption | omega | exact ⟨by omega, by omega⟩) hb) zw_239 (zPreS hP hD hK [] rfl rfl) rfl hl (Nat.le_of_ble_eq_true rfl) dX7_ends__15 ⟨rfl, rfl, ⟨Nat.le_of_ble_eq_true rfl, Nat.le_of_ble_eq_true rfl⟩, Nat.le_of_ble_eq_true rfl, Nat.le_of_ble_eq_true rfl⟩ rfl) hS hP hD hA [] rfl (fun _ => rfl) (fun r_15 u_15 H locs hq_15 hP hD hS => ?_)
    subst hq_15
    have hP : va_P D vwCl [(mm, .inr (7, [.ref ms, .int (nZ vsv), .ref mk, .ref mb, .int (nZ vty), .int (nZ vth), .int (nZ ven), .int (nZ vsp), .int (nZ vla), .int (nZ vpc)]))] H := hP
    have hD : va_D A [(mm, .inr (7, [.ref ms, .int (nZ vsv), .ref mk, .ref mb, .int (nZ vty), .int (nZ vth), .int (nZ ven), .int (nZ vsp), .int (nZ vla), .int (nZ vpc)]))] := hD
    refine zz_if_eq X (tgt := 25) dX7_ends__18 (by decide) ⟨by omega, by omega⟩ (fun c_18 => ?_) (fun c_18 => ?_)
    · refine lv_iconst (v := nZ 0) hX hB dX7_ends__25 rfl ?_
      refine zCallI0 (zRunV (As := [.int (nZ 1), .int (nZ 0)]) X mv_X7_goes (c_X7_goes_10 l D k _ mm ms mk mb vsv vty vth ven vsp vla vpc ) zw_245 (zPreV hP hD hK [0] rfl rfl 0 7 rfl rfl rfl) rfl hl (Nat.le_of_ble_eq_true rfl) dX7_ends__26 ⟨rfl, rfl, ⟨Nat.le_of_ble_eq_true rfl, Nat.le_of_ble_eq_true rfl⟩, Nat.le_of_ble_eq_true rfl, Nat.le_of_ble_eq_true rfl⟩ rfl) hS hP hD hA [0] rfl (fun _ => rfl) (fun r_26 u_26 H locs hq_26 hP hD hS => ?_)
      subst hq_26
      have hP : va_P D vwCl [(mm, .inr (7, [.ref ms, .int (nZ vsv), .ref mk, .ref mb, .int (nZ vty), .int (nZ 2), .int (nZ ven), .int (nZ vsp), .int (nZ vla), .int (nZ vpc)]))] H := hP
      have hD : va_D A [(mm, .inr (7, [.ref ms, .int (nZ vsv), .ref mk, .ref mb, .int (nZ vty), .int (nZ 2), .int (nZ ven), .int (nZ vsp), .int (nZ vla), .int (nZ vpc)]))] := hD
      refine zz_if_eq X (tgt := 42) dX7_ends__29 (by decide) ⟨by omega, by omega⟩ (fun c_29 => ?_) (fun c_29 => ?_)
      · refine lv_iconst (v := nZ 0) hX hB dX7_ends__42 rfl ?_
        exact zRetI () X hP hD hS rfl (by first | rfl | (congr 1; omega) | (dsimp only; congr 1; omega)) dX7_ends__43
      · exfalso; omega
    · exfalso; omega
set_option maxHeartbeats 4000000 in
set_option maxRecDepth 100000 in
theorem c_X7_ifPushed (l : Launch) (D : va_G) (k : Nat → ClassId) (sz : Nat) (mm ms mk mb : Nat) (vsv vty vth ven vsp vla vpc : Int) (s : Nat → Int) (j : Nat) (B : Bd) (st : Int) (hBk : blkOk s 0 B) (hjj : j < 3) (hCh : chainS (-5) (B.2 j)) (hcost : 0 ≤ B.1 0 ∧ B.1 0 ≤ 20) (hst : 1 ≤ st ∧ st ≤ 150) : Met l yX7_ifPushed (zW yX7_ifPushed cX7_ifPushed 3 (some .int)) ({ frames := 6, cells := 0, slots := 0, locals := 150 } : Room) (va_Pc [.ref mm, .int (nZ ↑j), .int (nZ st)] (zIn D k sz [(mm, .inr (7, [.ref ms, .int (nZ vsv), .ref mk, .ref mb, .int (nZ vty), .int (nZ vth), .int (nZ ven), .int (nZ vsp), .int (nZ vla), .int (nZ vpc)])), (ms, .inl (k 0, 900, .inl (zA s)))])) (va_Qi (fun (rz : Int32) (uz : (Nat → Int) × Int) => rz = nZ (cleanAllB (push0 B j st)) ∧ frOk s uz.1 810) (fun (uz : (Nat → Int) × Int) => zOut D (va_A [(mm, .inr (7, [.ref ms, .int (nZ vsv), .ref mk, .ref mb, .int (nZ vty), .int (nZ vth), .int (nZ ven), .int (nZ vsp), .int (nZ vla), .int (nZ vpc)])), (ms, .inl (k 0, 900, .inl (zA s)))] sz) [(mm, .inr (7, [.ref ms, .int (nZ vsv), .ref mk, .ref mb, .int (nZ vty), .int (nZ 0), .int (nZ uz.2), .int (nZ vsp), .int (nZ vla), .int (nZ vpc)])), (ms, .inl (k 0, 900, .inl (zA uz.1)))]) (va_A [(mm, .inr (7, [.ref ms, .int (nZ vsv), .ref mk, .ref mb, .int (nZ vty), .int (nZ vth), .int (nZ ven), .int (nZ vsp), .int (nZ vla), .int (nZ vpc)])), (ms, .inl (k 0, 900, .inl (zA s)))] sz)) 0 0 (va_A [(mm, .inr (7, [.ref ms, .int (nZ vsv), .ref mk, .ref mb, .int (nZ vty), .int (nZ vth), .int (nZ ven), .int (nZ vsp), .int (nZ vla), .int (nZ vpc)])), (ms, .inl (k 0, 900, .inl (zA s)))] sz) := by
  refine zEnter (Qf := fun A => va_Qi (fun (rz : Int32) (uz : (Nat → Int) × Int) => rz = nZ (cleanAllB (push0 B j st)) ∧ frOk s uz.1 810) (fun (uz : (Nat → Int) × Int) => zOut D A [(mm, .inr (7, [.ref ms, .int (nZ vsv), .ref mk, .ref mb, .int (nZ vty), .int (nZ 0), .int (nZ uz.2), .int (nZ vsp), .int (nZ vla), .int (nZ vpc)])), (ms, .inl (k 0, 900, .inl (zA uz.1)))]) A) RX7 (by decide) rfl (Nat.le_of_ble_eq_true rfl) ?_
  intro p9 e9 s9 m9 be9 me9 c9 ls A X hin hP hD hS hA hAe hl
  have hX := X.1; have hB := X.2.1; have hz := X.2.2.2.2.1; have hW := X.2.2.2.2.2.1; have hK := X.2.2.2.2.2.2.2; clear hAe
  clear hin
  have hl : lv_has ls 3 [(0, .ref mm), (1, .int (nZ ↑j)), (2, .int (nZ st))] := hl
  refine lv_aload_n hX hB dX7_ifPushed_0 rfl (lv_at hl 0 rfl) ?_
  refine lv_iload_n hX hB dX7_ifPushed_1 rfl (lv_at hl 1 rfl) ?_
  refine zCallI0 (zRunS X ms_X7_isLane (c_X7_isLane_t l D k _ ↑j (⟨by omega, by omega⟩) (by first | assumption | omega | exact ⟨by omega, by omega⟩)) zw_236 (zPreS hP hD hK [] rfl rfl) rfl hl (Nat.le_of_ble_eq_true rfl) dX7_ifPushed_2 ⟨rfl, rfl, ⟨Nat.le_of_ble_eq_true rfl, Nat.le_of_ble_eq_true rfl⟩, Nat.le_of_ble_eq_true rfl, Nat.le_of_ble_eq_true rfl⟩ rfl) hS hP hD hA [] rfl (fun _ => rfl) (fun r_2 u_2 H locs hq_2 hP hD hS => ?_)
  subst hq_2
  have hP : va_P D vwCl [(mm, .inr (7, [.ref ms, .int (nZ vsv), .ref mk, .ref mb, .int (nZ vty), .int (nZ vth), .int (nZ ven), .int (nZ vsp), .int (nZ vla), .int (nZ vpc)])), (ms, .inl (k 0, 900, .inl (zA s)))] H := hP
  have hD : va_D A [(mm, .inr (7, [.ref ms, .int (nZ vsv), .ref mk, .ref mb, .int (nZ vty), .int (nZ vth), .int (nZ ven), .int (nZ vsp), .int (nZ vla), .int (nZ vpc)])), (ms, .inl (k 0, 900, .inl (zA s)))] := hD
  refine lv_iload_n hX hB dX7_ifPushed_5 rfl (lv_at hl 2 rfl) ?_
  refine zCallI0 (zRunS X ms_X7_isStrength (c_X7_isStrength_t l D k _ st (⟨by omega, by omega⟩) hst) zw_242 (zPreS hP hD hK [] rfl rfl) rfl hl (Nat.le_of_ble_eq_true rfl) dX7_ifPushed_6 ⟨rfl, rfl, ⟨Nat.le_of_ble_eq_true rfl, Nat.le_of_ble_eq_true rfl⟩, Nat.le_of_ble_eq_true rfl, Nat.le_of_ble_eq_true rfl⟩ rfl) hS hP hD hA [] rfl (fun _ => rfl) (fun r_6 u_6 H locs hq_6 hP hD hS => ?_)
  subst hq_6
  have hP : va_P D vwCl [(mm, .inr (7, [.ref ms, .int (nZ vsv), .ref mk, .ref mb, .int (nZ vty), .int (nZ vth), .int (nZ ven), .int (nZ vsp), .int (nZ vla), .int (nZ vpc)])), (ms, .inl (k 0, 900, .inl (zA s)))] H := hP
  have hD : va_D A [(mm, .inr (7, [.ref ms, .int (nZ vsv), .ref mk, .ref mb, .int (nZ vty), .int (nZ vth), .int (nZ ven), .int (nZ vsp), .int (nZ vla), .int (nZ vpc)])), (ms, .inl (k 0, 900, .inl (zA s)))] := hD
  refine zCallI0 (zRunV (As := [.int (nZ 1), .int (nZ 1)]) X mv_X7_goes (c_X7_goes_11 l D k _ mm ms mk mb vsv vty vth ven vsp vla vpc ) zw_245 (zPreV hP hD hK [0] rfl rfl 0 7 rfl rfl rfl) rfl hl (Nat.le_of_ble_eq_true rfl) dX7_ifPushed_9 ⟨rfl, rfl, ⟨Nat.le_of_ble_eq_true rfl, Nat.le_of_ble_eq_true rfl⟩, Nat.le_of_ble_eq_true rfl, Nat.le_of_ble_eq_true rfl⟩ rfl) hS hP hD hA [0] rfl (fun _ => rfl) (fun r_9 u_9 H locs hq_9 hP hD hS => ?_)
  subst hq_9
  have hP : va_P D vwCl [(mm, .inr (7, [.ref ms, .int (nZ vsv), .ref mk, .ref mb, .int (nZ vty), .int (nZ 0), .int (nZ ven), .int (nZ vsp), .int (nZ vla), .int (nZ vpc)])), (ms, .inl (k 0, 900, .inl (zA s)))] H := hP
  have hD : va_D A [(mm, .inr (7, [.ref ms, .int (nZ vsv), .ref mk, .ref mb, .int (nZ vty), .int (nZ 0), .int (nZ ven), .int (nZ vsp), .int (nZ vla), .int (nZ vpc)])), (ms, .inl (k 0, 900, .inl (zA s)))] := hD
  refine zz_if_eq X (tgt := 24) dX7_ifPushed_12 (by decide) ⟨by omega, by omega⟩ (fun c_12 => ?_) (fun c_12 => ?_)
  · exfalso; omega
  · refine lv_aload_n hX hB dX7_ifPushed_15 rfl (lv_at hl 0 rfl) ?_
    refine lv_iload_n hX hB dX7_ifPushed_16 rfl (lv_at hl 1 rfl) ?_
    refine lv_iload_n hX hB dX7_ifPushed_17 rfl (lv_at hl 2 rfl) ?_
    refine zCallI0 (zRunV (As := [.int (nZ ↑j), .int (nZ st)]) X mv_X7_cleanBehind (c_X7_cleanBehind l D k _ mm ms mk mb vsv vty 0 ven vsp vla vpc s j B st hBk hjj hCh hcost hst) zw_613 (zPreV hP hD hK [0, 1] rfl rfl 0 7 rfl rfl rfl) rfl hl (Nat.le_of_ble_eq_true rfl) dX7_ifPushed_18 ⟨rfl, rfl, ⟨Nat.le_of_ble_eq_true rfl, Nat.le_of_ble_eq_true rfl⟩, Nat.le_of_ble_eq_true rfl, Nat.le_of_ble_eq_true rfl⟩ rfl) hS hP hD hA [0, 1] rfl (fun _ => rfl) (fun r_18 u_18 H locs hq_18 hP hD hS => ?_)
    obtain ⟨s2_18, ve2_18⟩ := u_18
    obtain ⟨rfl, hf2_18⟩ := hq_18
    try dsimp only at hf2_18
    have hP : va_P D vwCl [(mm, .inr (7, [.ref ms, .int (nZ vsv), .ref mk, .ref mb, .int (nZ vty), .int (nZ 0), .int (nZ ve2_18), .int (nZ vsp), .int (nZ vla), .int (nZ vpc)])), (ms, .inl (k 0, 900, .inl (zA s2_18)))] H := hP
    have hD : va_D A [(mm, .inr (7, [.ref ms, .int (nZ vsv), .ref mk, .ref mb, .int (nZ vty), .int (nZ 0), .int (nZ ve2_18), .int (nZ vsp), .int (nZ vla), .int (nZ vpc)])), (ms, .inl (k 0, 900, .inl (zA s2_18)))] := hD
    refine lv_goto (tgt := 25) hX hB dX7_ifPushed_21 (by decide) ?_
    exact zRetI (s2_18, ve2_18) X hP hD hS rfl ⟨by first | rfl | (congr 1; omega) | (dsimp only; congr 1; omega), by first | assumption | omega | (dsimp only; omega) | rfl⟩ dX7_ifPushed_25
set_option maxHeartbeats 4000000 in
set_option maxRecDepth 100000 in
theorem c_X7_ifPushed_e1 (l : Launch) (D : va_G) (k : Nat → ClassId) (sz : Nat) (mm ms mk mb : Nat) (vsv vty vth ven vsp vla vpc : Int) (a c : Int) (hza : zR a) (hzc : zR c) (hb : a < 0 ∨ 2 < a) : Met l yX7_ifPushed (zW yX7_ifPushed cX7_ifPushed 3 (some .int)) ({ frames := 6, cells := 0, slots := 0, locals := 150 } : Room) (va_Pc [.ref mm, .int (nZ a), .int (nZ c)] (zIn D k sz [(mm, .inr (7, [.ref ms, .int (nZ vsv), .ref mk, .ref mb, .int (nZ vty), .int (nZ vth), .int (nZ ven), .int (nZ vsp), .int (nZ vla), .int (nZ vpc)]))])) (va_Qi (fun (rz : Int32) (uz : Unit) => rz = nZ 0) (fun (uz : Unit) => zOut D (va_A [(mm, .inr (7, [.ref ms, .int (nZ vsv), .ref mk, .ref mb, .int (nZ vty), .int (nZ vth), .int (nZ ven), .int (nZ vsp), .int (nZ vla), .int (nZ vpc)]))] sz) [(mm, .inr (7, [.ref ms, .int (nZ vsv), .ref mk, .ref mb, .int (nZ vty), .int (nZ 1), .int (nZ ven), .int (nZ vsp), .int (nZ vla), .int (nZ vpc)]))]) (va_A [(mm, .inr (7, [.ref ms, .int (nZ vsv), .ref mk, .ref mb, .int (nZ vty), .int (nZ vth), .int (nZ ven), .int (nZ vsp), .int (nZ vla), .int (nZ vpc)]))] sz)) 0 0 (va_A [(mm, .inr (7, [.ref ms, .int (nZ vsv), .ref mk, .ref mb, .int (nZ vty), .int (nZ vth), .int (nZ ven), .int (nZ vsp), .int (nZ vla), .int (nZ vpc)]))] sz) := by
  refine zEnter (Qf := fun A => va_Qi (fun (rz : Int32) (uz : Unit) => rz = nZ 0) (fun (uz : Unit) => zOut D A [(mm, .inr (7, [.ref ms, .int (nZ vsv), .ref mk, .ref mb, .int (nZ vty), .int (nZ 1), .int (nZ ven), .int (nZ vsp), .int (nZ vla), .int (nZ vpc)]))]) A) RX7 (by decide) rfl (Nat.le_of_ble_eq_true rfl) ?_
  intro p9 e9 s9 m9 be9 me9 c9 ls A X hin hP hD hS hA hAe hl
  have hX := X.1; have hB := X.2.1; have hz := X.2.2.2.2.1; have hW := X.2.2.2.2.2.1; have hK := X.2.2.2.2.2.2.2; clear hAe
  clear hin
  have hl : lv_has ls 3 [(0, .ref mm), (1, .int (nZ a)), (2, .int (nZ c))] := hl
  refine lv_aload_n hX hB dX7_ifPushed_0 rfl (lv_at hl 0 rfl) ?_
  refine lv_iload_n hX hB dX7_ifPushed_1 rfl (lv_at hl 1 rfl) ?_
  refine zCallI0 (zRunS X ms_X7_isLane (c_X7_isLane_f l D k _ a hza hb) zw_236 (zPreS hP hD hK [] rfl rfl) rfl hl (Nat.le_of_ble_eq_true rfl) dX7_ifPushed_2 ⟨rfl, rfl, ⟨Nat.le_of_ble_eq_true rfl, Nat.le_of_ble_eq_true rfl⟩, Nat.le_of_ble_eq_true rfl, Nat.le_of_ble_eq_true rfl⟩ rfl) hS hP hD hA [] rfl (fun _ => rfl) (fun r_2 u_2 H locs hq_2 hP hD hS => ?_)
  subst hq_2
  have hP : va_P D vwCl [(mm, .inr (7, [.ref ms, .int (nZ vsv), .ref mk, .ref mb, .int (nZ vty), .int (nZ vth), .int (nZ ven), .int (nZ vsp), .int (nZ vla), .int (nZ vpc)]))] H := hP
  have hD : va_D A [(mm, .inr (7, [.ref ms, .int (nZ vsv), .ref mk, .ref mb, .int (nZ vty), .int (nZ vth), .int (nZ ven), .int (nZ vsp), .int (nZ vla), .int (nZ vpc)]))] := hD
  refine lv_iload_n hX hB dX7_ifPushed_5 rfl (lv_at hl 2 rfl) ?_
  refine zCallI0 (zRunS X ms_X7_isStrength (c_X7_isStrength_g l D k _ c hzc) zw_242 (zPreS hP hD hK [] rfl rfl) rfl hl (Nat.le_of_ble_eq_true rfl) dX7_ifPushed_6 ⟨rfl, rfl, ⟨Nat.le_of_ble_eq_true rfl, Nat.le_of_ble_eq_true rfl⟩, Nat.le_of_ble_eq_true rfl, Nat.le_of_ble_eq_true rfl⟩ rfl) hS hP hD hA [] rfl (fun _ => rfl) (fun r_6 u_6 H locs hq_6 hP hD hS => ?_)
  subst hq_6
  have hP : va_P D vwCl [(mm, .inr (7, [.ref ms, .int (nZ vsv), .ref mk, .ref mb, .int (nZ vty), .int (nZ vth), .int (nZ ven), .int (nZ vsp), .int (nZ vla), .int (nZ vpc)]))] H := hP
  have hD : va_D A [(mm, .inr (7, [.ref ms, .int (nZ vsv), .ref mk, .ref mb, .int (nZ vty), .int (nZ vth), .int (nZ ven), .int (nZ vsp), .int (nZ vla), .int (nZ vpc)]))] := hD
  refine zCallI0 (zRunV (As := [.int (nZ 0), .int (nZ (if 1 ≤ c ∧ c ≤ 150 then 1 else 0))]) X mv_X7_goes (c_X7_goes_0 l D k _ mm ms mk mb vsv vty vth ven vsp vla vpc (if 1 ≤ c ∧ c ≤ 150 then 1 else 0) ) zw_245 (zPreV hP hD hK [0] rfl rfl 0 7 rfl rfl rfl) rfl hl (Nat.le_of_ble_eq_true rfl) dX7_ifPushed_9 ⟨rfl, rfl, ⟨Nat.le_of_ble_eq_true rfl, Nat.le_of_ble_eq_true rfl⟩, Nat.le_of_ble_eq_true rfl, Nat.le_of_ble_eq_true rfl⟩ rfl) hS hP hD hA [0] rfl (fun _ => rfl) (fun r_9 u_9 H locs hq_9 hP hD hS => ?_)
  subst hq_9
  have hP : va_P D vwCl [(mm, .inr (7, [.ref ms, .int (nZ vsv), .ref mk, .ref mb, .int (nZ vty), .int (nZ 1), .int (nZ ven), .int (nZ vsp), .int (nZ vla), .int (nZ vpc)]))] H := hP
  have hD : va_D A [(mm, .inr (7, [.ref ms, .int (nZ vsv), .ref mk, .ref mb, .int (nZ vty), .int (nZ 1), .int (nZ ven), .int (nZ vsp), .int (nZ vla), .int (nZ vpc)]))] := hD
  refine zz_if_eq X (tgt := 24) dX7_ifPushed_12 (by decide) ⟨by omega, by omega⟩ (fun c_12 => ?_) (fun c_12 => ?_)
  · refine lv_iconst (v := nZ 0) hX hB dX7_ifPushed_24 rfl ?_
    exact zRetI () X hP hD hS rfl (by first | rfl | (congr 1; omega) | (dsimp only; congr 1; omega)) dX7_ifPushed_25
  · exfalso; omega
set_option maxHeartbeats 4000000 in
set_option maxRecDepth 100000 in
theorem c_X7_ifPushed_e2 (l : Launch) (D : va_G) (k : Nat → ClassId) (sz : Nat) (mm ms mk mb : Nat) (vsv vty vth ven vsp vla vpc : Int) (a c : Int) (hza : zR a) (hzc : zR c) (ha : 0 ≤ a ∧ a ≤ 2) (hb : c < 1 ∨ 150 < c) : Met l yX7_ifPushed (zW yX7_ifPushed cX7_ifPushed 3 (some .int)) ({ frames := 6, cells := 0, slots := 0, locals := 150 } : Room) (va_Pc [.ref mm, .int (nZ a), .int (nZ c)] (zIn D k sz [(mm, .inr (7, [.ref ms, .int (nZ vsv), .ref mk, .ref mb, .int (nZ vty), .int (nZ vth), .int (nZ ven), .int (nZ vsp), .int (nZ vla), .int (nZ vpc)]))])) (va_Qi (fun (rz : Int32) (uz : Unit) => rz = nZ 0) (fun (uz : Unit) => zOut D (va_A [(mm, .inr (7, [.ref ms, .int (nZ vsv), .ref mk, .ref mb, .int (nZ vty), .int (nZ vth), .int (nZ ven), .int (nZ vsp), .int (nZ vla), .int (nZ vpc)]))] sz) [(mm, .inr (7, [.ref ms, .int (nZ vsv), .ref mk, .ref mb, .int (nZ vty), .int (nZ 2), .int (nZ ven), .int (nZ vsp), .int (nZ vla), .int (nZ vpc)]))]) (va_A [(mm, .inr (7, [.ref ms, .int (nZ vsv), .ref mk, .ref mb, .int (nZ vty), .int (nZ vth), .int (nZ ven), .int (nZ vsp), .int (nZ vla), .int (nZ vpc)]))] sz)) 0 0 (va_A [(mm, .inr (7, [.ref ms, .int (nZ vsv), .ref mk, .ref mb, .int (nZ vty), .int (nZ vth), .int (nZ ven), .int (nZ vsp), .int (nZ vla), .int (nZ vpc)]))] sz) := by
  refine zEnter (Qf := fun A => va_Qi (fun (rz : Int32) (uz : Unit) => rz = nZ 0) (fun (uz : Unit) => zOut D A [(mm, .inr (7, [.ref ms, .int (nZ vsv), .ref mk, .ref mb, .int (nZ vty), .int (nZ 2), .int (nZ ven), .int (nZ vsp), .int (nZ vla), .int (nZ vpc)]))]) A) RX7 (by decide) rfl (Nat.le_of_ble_eq_true rfl) ?_
  intro p9 e9 s9 m9 be9 me9 c9 ls A X hin hP hD hS hA hAe hl
  have hX := X.1; have hB := X.2.1; have hz := X.2.2.2.2.1; have hW := X.2.2.2.2.2.1; have hK := X.2.2.2.2.2.2.2; clear hAe
  clear hin
  have hl : lv_has ls 3 [(0, .ref mm), (1, .int (nZ a)), (2, .int (nZ c))] := hl
  refine lv_aload_n hX hB dX7_ifPushed_0 rfl (lv_at hl 0 rfl) ?_
  refine lv_iload_n hX hB dX7_ifPushed_1 rfl (lv_at hl 1 rfl) ?_
  refine zCallI0 (zRunS X ms_X7_isLane (c_X7_isLane_t l D k _ a hza ha) zw_236 (zPreS hP hD hK [] rfl rfl) rfl hl (Nat.le_of_ble_eq_true rfl) dX7_ifPushed_2 ⟨rfl, rfl, ⟨Nat.le_of_ble_eq_true rfl, Nat.le_of_ble_eq_true rfl⟩, Nat.le_of_ble_eq_true rfl, Nat.le_of_ble_eq_true rfl⟩ rfl) hS hP hD hA [] rfl (fun _ => rfl) (fun r_2 u_2 H locs hq_2 hP hD hS => ?_)
  subst hq_2
  have hP : va_P D vwCl [(mm, .inr (7, [.ref ms, .int (nZ vsv), .ref mk, .ref mb, .int (nZ vty), .int (nZ vth), .int (nZ ven), .int (nZ vsp), .int (nZ vla), .int (nZ vpc)]))] H := hP
  have hD : va_D A [(mm, .inr (7, [.ref ms, .int (nZ vsv), .ref mk, .ref mb, .int (nZ vty), .int (nZ vth), .int (nZ ven), .int (nZ vsp), .int (nZ vla), .int (nZ vpc)]))] := hD
  refine lv_iload_n hX hB dX7_ifPushed_5 rfl (lv_at hl 2 rfl) ?_
  refine zCallI0 (zRunS X ms_X7_isStrength (c_X7_isStrength_f l D k _ c hzc hb) zw_242 (zPreS hP hD hK [] rfl rfl) rfl hl (Nat.le_of_ble_eq_true rfl) dX7_ifPushed_6 ⟨rfl, rfl, ⟨Nat.le_of_ble_eq_true rfl, Nat.le_of_ble_eq_true rfl⟩, Nat.le_of_ble_eq_true rfl, Nat.le_of_ble_eq_true rfl⟩ rfl) hS hP hD hA [] rfl (fun _ => rfl) (fun r_6 u_6 H locs hq_6 hP hD hS => ?_)
  subst hq_6
  have hP : va_P D vwCl [(mm, .inr (7, [.ref ms, .int (nZ vsv), .ref mk, .ref mb, .int (nZ vty), .int (nZ vth), .int (nZ ven), .int (nZ vsp), .int (nZ vla), .int (nZ vpc)]))] H := hP
  have hD : va_D A [(mm, .inr (7, [.ref ms, .int (nZ vsv), .ref mk, .ref mb, .int (nZ vty), .int (nZ vth), .int (nZ ven), .int (nZ vsp), .int (nZ vla), .int (nZ vpc)]))] := hD
  refine zCallI0 (zRunV (As := [.int (nZ 1), .int (nZ 0)]) X mv_X7_goes (c_X7_goes_10 l D k _ mm ms mk mb vsv vty vth ven vsp vla vpc ) zw_245 (zPreV hP hD hK [0] rfl rfl 0 7 rfl rfl rfl) rfl hl (Nat.le_of_ble_eq_true rfl) dX7_ifPushed_9 ⟨rfl, rfl, ⟨Nat.le_of_ble_eq_true rfl, Nat.le_of_ble_eq_true rfl⟩, Nat.le_of_ble_eq_true rfl, Nat.le_of_ble_eq_true rfl⟩ rfl) hS hP hD hA [0] rfl (fun _ => rfl) (fun r_9 u_9 H locs hq_9 hP hD hS => ?_)
  subst hq_9
  have hP : va_P D vwCl [(mm, .inr (7, [.ref ms, .int (nZ vsv), .ref mk, .ref mb, .int (nZ vty), .int (nZ 2), .int (nZ ven), .int (nZ vsp), .int (nZ vla), .int (nZ vpc)]))] H := hP
  have hD : va_D A [(mm, .inr (7, [.ref ms, .int (nZ vsv), .ref mk, .ref mb, .int (nZ vty), .int (nZ 2), .int (nZ ven), .int (nZ vsp), .int (nZ vla), .int (nZ vpc)]))] := hD
  refine zz_if_eq X (tgt := 24) dX7_ifPushed_12 (by decide) ⟨by omega, by omega⟩ (fun c_12 => ?_) (fun c_12 => ?_)
  · refine lv_iconst (v := nZ 0) hX hB dX7_ifPushed_24 rfl ?_
    exact zRetI () X hP hD hS rfl (by first | rfl | (congr 1; omega) | (dsimp only; congr 1; omega)) dX7_ifPushed_25
  · exfalso; omega
set_option maxHeartbeats 4000000 in
set_option maxRecDepth 100000 in
theorem c_X7_strengthFor (l : Launch) (D : va_G) (k : Nat → ClassId) (sz : Nat) (mm ms mk mb : Nat) (vsv vty vth ven vsp vla vpc : Int) (s : Nat → Int) (j : Nat) (B : Bd) (bed : Int) (hBk : blkOk s 0 B) (hjj : j < 3) (hCh : chainS (-5) (B.2 j)) (hcost : 0 ≤ B.1 0 ∧ B.1 0 ≤ 20) (hb : 0 ≤ bed ∧ bed < 9) : Met l yX7_strengthFor (zW yX7_strengthFor cX7_strengthFor 3 (some .int)) ({ frames := 6, cells := 0, slots := 0, locals := 151 } : Room) (va_Pc [.ref mm, .int (nZ ↑j), .int (nZ bed)] (zIn D k sz [(mm, .inr (7, [.ref ms, .int (nZ vsv), .ref mk, .ref mb, .int (nZ vty), .int (nZ vth), .int (nZ ven), .int (nZ vsp), .int (nZ vla), .int (nZ vpc)])), (ms, .inl (k 0, 900, .inl (zA s)))])) (va_Qi (fun (rz : Int32) (uz : (Nat → Int) × Int) => rz = nZ (strS (B.1 0) (B.2 j) bed) ∧ frOk s uz.1 810) (fun (uz : (Nat → Int) × Int) => zOut D (va_A [(mm, .inr (7, [.ref ms, .int (nZ vsv), .ref mk, .ref mb, .int (nZ vty), .int (nZ vth), .int (nZ ven), .int (nZ vsp), .int (nZ vla), .int (nZ vpc)])), (ms, .inl (k 0, 900, .inl (zA s)))] sz) [(mm, .inr (7, [.ref ms, .int (nZ vsv), .ref mk, .ref mb, .int (nZ vty), .int (nZ 0), .int (nZ uz.2), .int (nZ vsp), .int (nZ vla), .int (nZ vpc)])), (ms, .inl (k 0, 900, .inl (zA uz.1)))]) (va_A [(mm, .inr (7, [.ref ms, .int (nZ vsv), .ref mk, .ref mb, .int (nZ vty), .int (nZ vth), .int (nZ ven), .int (nZ vsp), .int (nZ vla), .int (nZ vpc)])), (ms, .inl (k 0, 900, .inl (zA s)))] sz)) 0 0 (va_A [(mm, .inr (7, [.ref ms, .int (nZ vsv), .ref mk, .ref mb, .int (nZ vty), .int (nZ vth), .int (nZ ven), .int (nZ vsp), .int (nZ vla), .int (nZ vpc)])), (ms, .inl (k 0, 900, .inl (zA s)))] sz) := by
  refine zEnter (Qf := fun A => va_Qi (fun (rz : Int32) (uz : (Nat → Int) × Int) => rz = nZ (strS (B.1 0) (B.2 j) bed) ∧ frOk s uz.1 810) (fun (uz : (Nat → Int) × Int) => zOut D A [(mm, .inr (7, [.ref ms, .int (nZ vsv), .ref mk, .ref mb, .int (nZ vty), .int (nZ 0), .int (nZ uz.2), .int (nZ vsp), .int (nZ vla), .int (nZ vpc)])), (ms, .inl (k 0, 900, .inl (zA uz.1)))]) A) RX7 (by decide) rfl (Nat.le_of_ble_eq_true rfl) ?_
  intro p9 e9 s9 m9 be9 me9 c9 ls A X hin hP hD hS hA hAe hl
  have hX := X.1; have hB := X.2.1; have hz := X.2.2.2.2.1; have hW := X.2.2.2.2.2.1; have hK := X.2.2.2.2.2.2.2; clear hAe
  clear hin
  have hl : lv_has ls 3 [(0, .ref mm), (1, .int (nZ ↑j)), (2, .int (nZ bed))] := hl
  refine lv_aload_n hX hB dX7_strengthFor_0 rfl (lv_at hl 0 rfl) ?_
  refine lv_iload_n hX hB dX7_strengthFor_1 rfl (lv_at hl 1 rfl) ?_
  refine zCallI0 (zRunS X ms_X7_isLane (c_X7_isLane_t l D k _ ↑j (⟨by omega, by omega⟩) (by first | assumption | omega | exact ⟨by omega, by omega⟩)) zw_236 (zPreS hP hD hK [] rfl rfl) rfl hl (Nat.le_of_ble_eq_true rfl) dX7_strengthFor_2 ⟨rfl, rfl, ⟨Nat.le_of_ble_eq_true rfl, Nat.le_of_ble_eq_true rfl⟩, Nat.le_of_ble_eq_true rfl, Nat.le_of_ble_eq_true rfl⟩ rfl) hS hP hD hA [] rfl (fun _ => rfl) (fun r_2 u_2 H locs hq_2 hP hD hS => ?_)
  subst hq_2
  have hP : va_P D vwCl [(mm, .inr (7, [.ref ms, .int (nZ vsv), .ref mk, .ref mb, .int (nZ vty), .int (nZ vth), .int (nZ ven), .int (nZ vsp), .int (nZ vla), .int (nZ vpc)])), (ms, .inl (k 0, 900, .inl (zA s)))] H := hP
  have hD : va_D A [(mm, .inr (7, [.ref ms, .int (nZ vsv), .ref mk, .ref mb, .int (nZ vty), .int (nZ vth), .int (nZ ven), .int (nZ vsp), .int (nZ vla), .int (nZ vpc)])), (ms, .inl (k 0, 900, .inl (zA s)))] := hD
  refine zz_if_eq X (tgt := 22) dX7_strengthFor_5 (by decide) ⟨by omega, by omega⟩ (fun c_5 => ?_) (fun c_5 => ?_)
  · exfalso; omega
  · refine lv_iload_n hX hB dX7_strengthFor_8 rfl (lv_at hl 2 rfl) ?_
    refine lv_iconst (v := nZ 0) hX hB dX7_strengthFor_9 rfl ?_
    refine lv_bipush (v := nZ 8) hX hB dX7_strengthFor_10 (by decide) ?_
    refine zCallI0 (zRunS X ms_X7_in (c_X7_in_t l D k _ bed 0 8 (by first | assumption | omega | exact ⟨by omega, by omega⟩) (by first | assumption | omega | exact ⟨by omega, by omega⟩) (by first | assumption | omega | exact ⟨by omega, by omega⟩) (by first | assumption | omega | exact ⟨by omega, by omega⟩)) zw_239 (zPreS hP hD hK [] rfl rfl) rfl hl (Nat.le_of_ble_eq_true rfl) dX7_strengthFor_12 ⟨rfl, rfl, ⟨Nat.le_of_ble_eq_true rfl, Nat.le_of_ble_eq_true rfl⟩, Nat.le_of_ble_eq_true rfl, Nat.le_of_ble_eq_true rfl⟩ rfl) hS hP hD hA [] rfl (fun _ => rfl) (fun r_12 u_12 H locs hq_12 hP hD hS => ?_)
    subst hq_12
    have hP : va_P D vwCl [(mm, .inr (7, [.ref ms, .int (nZ vsv), .ref mk, .ref mb, .int (nZ vty), .int (nZ vth), .int (nZ ven), .int (nZ vsp), .int (nZ vla), .int (nZ vpc)])), (ms, .inl (k 0, 900, .inl (zA s)))] H := hP
    have hD : va_D A [(mm, .inr (7, [.ref ms, .int (nZ vsv), .ref mk, .ref mb, .int (nZ vty), .int (nZ vth), .int (nZ ven), .int (nZ vsp), .int (nZ vla), .int (nZ vpc)])), (ms, .inl (k 0, 900, .inl (zA s)))] := hD
    refine zz_if_eq X (tgt := 22) dX7_strengthFor_15 (by decide) ⟨by omega, by omega⟩ (fun c_15 => ?_) (fun c_15 => ?_)
    · exfalso; omega
    · refine lv_iconst (v := nZ 1) hX hB dX7_strengthFor_18 rfl ?_
      refine lv_goto (tgt := 23) hX hB dX7_strengthFor_19 (by decide) ?_
      refine lv_iconst (v := nZ 1) hX hB dX7_strengthFor_23 rfl ?_
      refine zCallI0 (zRunV (As := [.int (nZ 1), .int (nZ 1)]) X mv_X7_goes (c_X7_goes_11 l D k _ mm ms mk mb vsv vty vth ven vsp vla vpc ) zw_245 (zPreV hP hD hK [0] rfl rfl 0 7 rfl rfl rfl) rfl hl (Nat.le_of_ble_eq_true rfl) dX7_strengthFor_24 ⟨rfl, rfl, ⟨Nat.le_of_ble_eq_true rfl, Nat.le_of_ble_eq_true rfl⟩, Nat.le_of_ble_eq_true rfl, Nat.le_of_ble_eq_true rfl⟩ rfl) hS hP hD hA [0] rfl (fun _ => rfl) (fun r_24 u_24 H locs hq_24 hP hD hS => ?_)
      subst hq_24
      have hP : va_P D vwCl [(mm, .inr (7, [.ref ms, .int (nZ vsv), .ref mk, .ref mb, .int (nZ vty), .int (nZ 0), .int (nZ ven), .int (nZ vsp), .int (nZ vla), .int (nZ vpc)])), (ms, .inl (k 0, 900, .inl (zA s)))] H := hP
      have hD : va_D A [(mm, .inr (7, [.ref ms, .int (nZ vsv), .ref mk, .ref mb, .int (nZ vty), .int (nZ 0), .int (nZ ven), .int (nZ vsp), .int (nZ vla), .int (nZ vpc)])), (ms, .inl (k 0, 900, .inl (zA s)))] := hD
      refine zz_if_eq X (tgt := 39) dX7_strengthFor_27 (by decide) ⟨by omega, by omega⟩ (fun c_27 => ?_) (fun c_27 => ?_)
      · exfalso; omega
      · refine lv_aload_n hX hB dX7_strengthFor_30 rfl (lv_at hl 0 rfl) ?_
        refine lv_iload_n hX hB dX7_strengthFor_31 rfl (lv_at hl 1 rfl) ?_
        refine lv_iload_n hX hB dX7_strengthFor_32 rfl (lv_at hl 2 rfl) ?_
        refine zCallI0 (zRunV (As := [.int (nZ ↑j), .int (nZ bed)]) X mv_X7_leastStrength (c_X7_leastStrength l D k _ mm ms mk mb vsv vty 0 ven vsp vla vpc s j B bed hBk hjj hCh hcost hb) zw_628 (zPreV hP hD hK [0, 1] rfl rfl 0 7 rfl rfl rfl) rfl hl (Nat.le_of_ble_eq_true rfl) dX7_strengthFor_33 ⟨rfl, rfl, ⟨Nat.le_of_ble_eq_true rfl, Nat.le_of_ble_eq_true rfl⟩, Nat.le_of_ble_eq_true rfl, Nat.le_of_ble_eq_true rfl⟩ rfl) hS hP hD hA [0, 1] rfl (fun _ => rfl) (fun r_33 u_33 H locs hq_33 hP hD hS => ?_)
        obtain ⟨s2_33, ve2_33⟩ := u_33
        obtain ⟨rfl, hf2_33⟩ := hq_33
        try dsimp only at hf2_33
        have hP : va_P D vwCl [(mm, .inr (7, [.ref ms, .int (nZ vsv), .ref mk, .ref mb, .int (nZ vty), .int (nZ 0), .int (nZ ve2_33), .int (nZ vsp), .int (nZ vla), .int (nZ vpc)])), (ms, .inl (k 0, 900, .inl (zA s2_33)))] H := hP
        have hD : va_D A [(mm, .inr (7, [.ref ms, .int (nZ vsv), .ref mk, .ref mb, .int (nZ vty), .int (nZ 0), .int (nZ ve2_33), .int (nZ vsp), .int (nZ vla), .int (nZ vpc)])), (ms, .inl (k 0, 900, .inl (zA s2_33)))] := hD
        refine lv_goto (tgt := 40) hX hB dX7_strengthFor_36 (by decide) ?_
        exact zRetI (s2_33, ve2_33) X hP hD hS rfl ⟨by first | rfl | (congr 1; omega) | (dsimp only; congr 1; omega), by first | assumption | omega | (dsimp only; omega) | rfl⟩ dX7_strengthFor_40
set_option maxHeartbeats 4000000 in
set_option maxRecDepth 100000 in
theorem c_X7_strengthFor_e1a (l : Launch) (D : va_G) (k : Nat → ClassId) (sz : Nat) (mm ms mk mb : Nat) (vsv vty vth ven vsp vla vpc : Int) (a c : Int) (hza : zR a) (hzc : zR c) (hb : a < 0 ∨ 2 < a) : Met l yX7_strengthFor (zW yX7_strengthFor cX7_strengthFor 3 (some .int)) ({ frames := 6, cells := 0, slots := 0, locals := 151 } : Room) (va_Pc [.ref mm, .int (nZ a), .int (nZ c)] (zIn D k sz [(mm, .inr (7, [.ref ms, .int (nZ vsv), .ref mk, .ref mb, .int (nZ vty), .int (nZ vth), .int (nZ ven), .int (nZ vsp), .int (nZ vla), .int (nZ vpc)]))])) (va_Qi (fun (rz : Int32) (uz : Unit) => rz = nZ 0) (fun (uz : Unit) => zOut D (va_A [(mm, .inr (7, [.ref ms, .int (nZ vsv), .ref mk, .ref mb, .int (nZ vty), .int (nZ vth), .int (nZ ven), .int (nZ vsp), .int (nZ vla), .int (nZ vpc)]))] sz) [(mm, .inr (7, [.ref ms, .int (nZ vsv), .ref mk, .ref mb, .int (nZ vty), .int (nZ 1), .int (nZ ven), .int (nZ vsp), .int (nZ vla), .int (nZ vpc)]))]) (va_A [(mm, .inr (7, [.ref ms, .int (nZ vsv), .ref mk, .ref mb, .int (nZ vty), .int (nZ vth), .int (nZ ven), .int (nZ vsp), .int (nZ vla), .int (nZ vpc)]))] sz)) 0 0 (va_A [(mm, .inr (7, [.ref ms, .int (nZ vsv), .ref mk, .ref mb, .int (nZ vty), .int (nZ vth), .int (nZ ven), .int (nZ vsp), .int (nZ vla), .int (nZ vpc)]))] sz) := by
  refine zEnter (Qf := fun A => va_Qi (fun (rz : Int32) (uz : Unit) => rz = nZ 0) (fun (uz : Unit) => zOut D A [(mm, .inr (7, [.ref ms, .int (nZ vsv), .ref mk, .ref mb, .int (nZ vty), .int (nZ 1), .int (nZ ven), .int (nZ vsp), .int (nZ vla), .int (nZ vpc)]))]) A) RX7 (by decide) rfl (Nat.le_of_ble_eq_true rfl) ?_
  intro p9 e9 s9 m9 be9 me9 c9 ls A X hin hP hD hS hA hAe hl
  have hX := X.1; have hB := X.2.1; have hz := X.2.2.2.2.1; have hW := X.2.2.2.2.2.1; have hK := X.2.2.2.2.2.2.2; clear hAe
  clear hin
  have hl : lv_has ls 3 [(0, .ref mm), (1, .int (nZ a)), (2, .int (nZ c))] := hl
  refine lv_aload_n hX hB dX7_strengthFor_0 rfl (lv_at hl 0 rfl) ?_
  refine lv_iload_n hX hB dX7_strengthFor_1 rfl (lv_at hl 1 rfl) ?_
  refine zCallI0 (zRunS X ms_X7_isLane (c_X7_isLane_f l D k _ a hza hb) zw_236 (zPreS hP hD hK [] rfl rfl) rfl hl (Nat.le_of_ble_eq_true rfl) dX7_strengthFor_2 ⟨rfl, rfl, ⟨Nat.le_of_ble_eq_true rfl, Nat.le_of_ble_eq_true rfl⟩, Nat.le_of_ble_eq_true rfl, Nat.le_of_ble_eq_true rfl⟩ rfl) hS hP hD hA [] rfl (fun _ => rfl) (fun r_2 u_2 H locs hq_2 hP hD hS => ?_)
  subst hq_2
  have hP : va_P D vwCl [(mm, .inr (7, [.ref ms, .int (nZ vsv), .ref mk, .ref mb, .int (nZ vty), .int (nZ vth), .int (nZ ven), .int (nZ vsp), .int (nZ vla), .int (nZ vpc)]))] H := hP
  have hD : va_D A [(mm, .inr (7, [.ref ms, .int (nZ vsv), .ref mk, .ref mb, .int (nZ vty), .int (nZ vth), .int (nZ ven), .int (nZ vsp), .int (nZ vla), .int (nZ vpc)]))] := hD
  refine zz_if_eq X (tgt := 22) dX7_strengthFor_5 (by decide) ⟨by omega, by omega⟩ (fun c_5 => ?_) (fun c_5 => ?_)
  · refine lv_iconst (v := nZ 0) hX hB dX7_strengthFor_22 rfl ?_
    refine lv_iconst (v := nZ 1) hX hB dX7_strengthFor_23 rfl ?_
    refine zCallI0 (zRunV (As := [.int (nZ 0), .int (nZ 1)]) X mv_X7_goes (c_X7_goes_0 l D k _ mm ms mk mb vsv vty vth ven vsp vla vpc 1 ) zw_245 (zPreV hP hD hK [0] rfl rfl 0 7 rfl rfl rfl) rfl hl (Nat.le_of_ble_eq_true rfl) dX7_strengthFor_24 ⟨rfl, rfl, ⟨Nat.le_of_ble_eq_true rfl, Nat.le_of_ble_eq_true rfl⟩, Nat.le_of_ble_eq_true rfl, Nat.le_of_ble_eq_true rfl⟩ rfl) hS hP hD hA [0] rfl (fun _ => rfl) (fun r_24 u_24 H locs hq_24 hP hD hS => ?_)
    subst hq_24
    have hP : va_P D vwCl [(mm, .inr (7, [.ref ms, .int (nZ vsv), .ref mk, .ref mb, .int (nZ vty), .int (nZ 1), .int (nZ ven), .int (nZ vsp), .int (nZ vla), .int (nZ vpc)]))] H := hP
    have hD : va_D A [(mm, .inr (7, [.ref ms, .int (nZ vsv), .ref mk, .ref mb, .int (nZ vty), .int (nZ 1), .int (nZ ven), .int (nZ vsp), .int (nZ vla), .int (nZ vpc)]))] := hD
    refine zz_if_eq X (tgt := 39) dX7_strengthFor_27 (by decide) ⟨by omega, by omega⟩ (fun c_27 => ?_) (fun c_27 => ?_)
    · refine lv_iconst (v := nZ 0) hX hB dX7_strengthFor_39 rfl ?_
      exact zRetI () X hP hD hS rfl (by first | rfl | (congr 1; omega) | (dsimp only; congr 1; omega)) dX7_strengthFor_40
    · exfalso; omega
  · exfalso; omega
set_option maxHeartbeats 4000000 in
set_option maxRecDepth 100000 in
theorem c_X7_strengthFor_e1b (l : Launch) (D : va_G) (k : Nat → ClassId) (sz : Nat) (mm ms mk mb : Nat) (vsv vty vth ven vsp vla vpc : Int) (a c : Int) (hza : zR a) (hzc : zR c) (ha : 0 ≤ a ∧ a ≤ 2) (hb : c < 0 ∨ 8 < c) : Met l yX7_strengthFor (zW yX7_strengthFor cX7_strengthFor 3 (some .int)) ({ frames := 6, cells := 0, slots := 0, locals := 151 } : Room) (va_Pc [.ref mm, .int (nZ a), .int (nZ c)] (zIn D k sz [(mm, .inr (7, [.ref ms, .int (nZ vsv), .ref mk, .ref mb, .int (nZ vty), .int (nZ vth), .int (nZ ven), .int (nZ vsp), .int (nZ vla), .int (nZ vpc)]))])) (va_Qi (fun (rz : Int32) (uz : Unit) => rz = nZ 0) (fun (uz : Unit) => zOut D (va_A [(mm, .inr (7, [.ref ms, .int (nZ vsv), .ref mk, .ref mb, .int (nZ vty), .int (nZ vth), .int (nZ ven), .int (nZ vsp), .int (nZ vla), .int (nZ vpc)]))] sz) [(mm, .inr (7, [.ref ms, .int (nZ vsv), .ref mk, .ref mb, .int (nZ vty), .int (nZ 1), .int (nZ ven), .int (nZ vsp), .int (nZ vla), .int (nZ vpc)]))]) (va_A [(mm, .inr (7, [.ref ms, .int (nZ vsv), .ref mk, .ref mb, .int (nZ vty), .int (nZ vth), .int (nZ ven), .int (nZ vsp), .int (nZ vla), .int (nZ vpc)]))] sz)) 0 0 (va_A [(mm, .inr (7, [.ref ms, .int (nZ vsv), .ref mk, .ref mb, .int (nZ vty), .int (nZ vth), .int (nZ ven), .int (nZ vsp), .int (nZ vla), .int (nZ vpc)]))] sz) := by
  refine zEnter (Qf := fun A => va_Qi (fun (rz : Int32) (uz : Unit) => rz = nZ 0) (fun (uz : Unit) => zOut D A [(mm, .inr (7, [.ref ms, .int (nZ vsv), .ref mk, .ref mb, .int (nZ vty), .int (nZ 1), .int (nZ ven), .int (nZ vsp), .int (nZ vla), .int (nZ vpc)]))]) A) RX7 (by decide) rfl (Nat.le_of_ble_eq_true rfl) ?_
  intro p9 e9 s9 m9 be9 me9 c9 ls A X hin hP hD hS hA hAe hl
  have hX := X.1; have hB := X.2.1; have hz := X.2.2.2.2.1; have hW := X.2.2.2.2.2.1; have hK := X.2.2.2.2.2.2.2; clear hAe
  clear hin
  have hl : lv_has ls 3 [(0, .ref mm), (1, .int (nZ a)), (2, .int (nZ c))] := hl
  refine lv_aload_n hX hB dX7_strengthFor_0 rfl (lv_at hl 0 rfl) ?_
  refine lv_iload_n hX hB dX7_strengthFor_1 rfl (lv_at hl 1 rfl) ?_
  refine zCallI0 (zRunS X ms_X7_isLane (c_X7_isLane_t l D k _ a hza ha) zw_236 (zPreS hP hD hK [] rfl rfl) rfl hl (Nat.le_of_ble_eq_true rfl) dX7_strengthFor_2 ⟨rfl, rfl, ⟨Nat.le_of_ble_eq_true rfl, Nat.le_of_ble_eq_true rfl⟩, Nat.le_of_ble_eq_true rfl, Nat.le_of_ble_eq_true rfl⟩ rfl) hS hP hD hA [] rfl (fun _ => rfl) (fun r_2 u_2 H locs hq_2 hP hD hS => ?_)
  subst hq_2
  have hP : va_P D vwCl [(mm, .inr (7, [.ref ms, .int (nZ vsv), .ref mk, .ref mb, .int (nZ vty), .int (nZ vth), .int (nZ ven), .int (nZ vsp), .int (nZ vla), .int (nZ vpc)]))] H := hP
  have hD : va_D A [(mm, .inr (7, [.ref ms, .int (nZ vsv), .ref mk, .ref mb, .int (nZ vty), .int (nZ vth), .int (nZ ven), .int (nZ vsp), .int (nZ vla), .int (nZ vpc)]))] := hD
  refine zz_if_eq X (tgt := 22) dX7_strengthFor_5 (by decide) ⟨by omega, by omega⟩ (fun c_5 => ?_) (fun c_5 => ?_)
  · exfalso; omega
  · refine lv_iload_n hX hB dX7_strengthFor_8 rfl (lv_at hl 2 rfl) ?_
    refine lv_iconst (v := nZ 0) hX hB dX7_strengthFor_9 rfl ?_
    refine lv_bipush (v := nZ 8) hX hB dX7_strengthFor_10 (by decide) ?_
    refine zCallI0 (zRunS X ms_X7_in (c_X7_in_f l D k _ c 0 8 hzc (by first | assumption | omega | exact ⟨by omega, by omega⟩) (by first | assumption | omega | exact ⟨by omega, by omega⟩) hb) zw_239 (zPreS hP hD hK [] rfl rfl) rfl hl (Nat.le_of_ble_eq_true rfl) dX7_strengthFor_12 ⟨rfl, rfl, ⟨Nat.le_of_ble_eq_true rfl, Nat.le_of_ble_eq_true rfl⟩, Nat.le_of_ble_eq_true rfl, Nat.le_of_ble_eq_true rfl⟩ rfl) hS hP hD hA [] rfl (fun _ => rfl) (fun r_12 u_12 H locs hq_12 hP hD hS => ?_)
    subst hq_12
    have hP : va_P D vwCl [(mm, .inr (7, [.ref ms, .int (nZ vsv), .ref mk, .ref mb, .int (nZ vty), .int (nZ vth), .int (nZ ven), .int (nZ vsp), .int (nZ vla), .int (nZ vpc)]))] H := hP
    have hD : va_D A [(mm, .inr (7, [.ref ms, .int (nZ vsv), .ref mk, .ref mb, .int (nZ vty), .int (nZ vth), .int (nZ ven), .int (nZ vsp), .int (nZ vla), .int (nZ vpc)]))] := hD
    refine zz_if_eq X (tgt := 22) dX7_strengthFor_15 (by decide) ⟨by omega, by omega⟩ (fun c_15 => ?_) (fun c_15 => ?_)
    · refine lv_iconst (v := nZ 0) hX hB dX7_strengthFor_22 rfl ?_
      refine lv_iconst (v := nZ 1) hX hB dX7_strengthFor_23 rfl ?_
      refine zCallI0 (zRunV (As := [.int (nZ 0), .int (nZ 1)]) X mv_X7_goes (c_X7_goes_0 l D k _ mm ms mk mb vsv vty vth ven vsp vla vpc 1 ) zw_245 (zPreV hP hD hK [0] rfl rfl 0 7 rfl rfl rfl) rfl hl (Nat.le_of_ble_eq_true rfl) dX7_strengthFor_24 ⟨rfl, rfl, ⟨Nat.le_of_ble_eq_true rfl, Nat.le_of_ble_eq_true rfl⟩, Nat.le_of_ble_eq_true rfl, Nat.le_of_ble_eq_true rfl⟩ rfl) hS hP hD hA [0] rfl (fun _ => rfl) (fun r_24 u_24 H locs hq_24 hP hD hS => ?_)
      subst hq_24
      have hP : va_P D vwCl [(mm, .inr (7, [.ref ms, .int (nZ vsv), .ref mk, .ref mb, .int (nZ vty), .int (nZ 1), .int (nZ ven), .int (nZ vsp), .int (nZ vla), .int (nZ vpc)]))] H := hP
      have hD : va_D A [(mm, .inr (7, [.ref ms, .int (nZ vsv), .ref mk, .ref mb, .int (nZ vty), .int (nZ 1), .int (nZ ven), .int (nZ vsp), .int (nZ vla), .int (nZ vpc)]))] := hD
      refine zz_if_eq X (tgt := 39) dX7_strengthFor_27 (by decide) ⟨by omega, by omega⟩ (fun c_27 => ?_) (fun c_27 => ?_)
      · refine lv_iconst (v := nZ 0) hX hB dX7_strengthFor_39 rfl ?_
        exact zRetI () X hP hD hS rfl (by first | rfl | (congr 1; omega) | (dsimp only; congr 1; omega)) dX7_strengthFor_40
      · exfalso; omega
    · exfalso; omega
set_option maxHeartbeats 4000000 in
set_option maxRecDepth 100000 in
theorem c_X7_bestPush (l : Launch) (D : va_G) (k : Nat → ClassId) (sz : Nat) (mm ms mk mb : Nat) (vsv vty vth ven vsp vla vpc : Int) (s : Nat → Int) (B : Bd) (hBk : blkOk s 0 B) (hG : bdGood B) : Met l yX7_bestPush (zW yX7_bestPush cX7_bestPush 1 (some .int)) ({ frames := 6, cells := 0, slots := 0, locals := 153 } : Room) (va_Pc [.ref mm] (zIn D k sz [(mm, .inr (7, [.ref ms, .int (nZ vsv), .ref mk, .ref mb, .int (nZ vty), .int (nZ vth), .int (nZ ven), .int (nZ vsp), .int (nZ vla), .int (nZ vpc)])), (ms, .inl (k 0, 900, .inl (zA s)))])) (va_Qi (fun (rz : Int32) (uz : (Nat → Int) × Int) => rz = nZ (best3 (leadF B 0) (leadF B 1) (leadF B 2)) ∧ frOk s uz.1 810) (fun (uz : (Nat → Int) × Int) => zOut D (va_A [(mm, .inr (7, [.ref ms, .int (nZ vsv), .ref mk, .ref mb, .int (nZ vty), .int (nZ vth), .int (nZ ven), .int (nZ vsp), .int (nZ vla), .int (nZ vpc)])), (ms, .inl (k 0, 900, .inl (zA s)))] sz) [(mm, .inr (7, [.ref ms, .int (nZ vsv), .ref mk, .ref mb, .int (nZ vty), .int (nZ 0), .int (nZ uz.2), .int (nZ vsp), .int (nZ vla), .int (nZ vpc)])), (ms, .inl (k 0, 900, .inl (zA uz.1)))]) (va_A [(mm, .inr (7, [.ref ms, .int (nZ vsv), .ref mk, .ref mb, .int (nZ vty), .int (nZ vth), .int (nZ ven), .int (nZ vsp), .int (nZ vla), .int (nZ vpc)])), (ms, .inl (k 0, 900, .inl (zA s)))] sz)) 0 0 (va_A [(mm, .inr (7, [.ref ms, .int (nZ vsv), .ref mk, .ref mb, .int (nZ vty), .int (nZ vth), .int (nZ ven), .int (nZ vsp), .int (nZ vla), .int (nZ vpc)])), (ms, .inl (k 0, 900, .inl (zA s)))] sz) := by
  refine zEnter (Qf := fun A => va_Qi (fun (rz : Int32) (uz : (Nat → Int) × Int) => rz = nZ (best3 (leadF B 0) (leadF B 1) (leadF B 2)) ∧ frOk s uz.1 810) (fun (uz : (Nat → Int) × Int) => zOut D A [(mm, .inr (7, [.ref ms, .int (nZ vsv), .ref mk, .ref mb, .int (nZ vty), .int (nZ 0), .int (nZ uz.2), .int (nZ vsp), .int (nZ vla), .int (nZ vpc)])), (ms, .inl (k 0, 900, .inl (zA uz.1)))]) A) RX7 (by decide) rfl (Nat.le_of_ble_eq_true rfl) ?_
  intro p9 e9 s9 m9 be9 me9 c9 ls A X hin hP hD hS hA hAe hl
  have hX := X.1; have hB := X.2.1; have hz := X.2.2.2.2.1; have hW := X.2.2.2.2.2.1; have hK := X.2.2.2.2.2.2.2; clear hAe
  clear hin
  have hl : lv_has ls 1 [(0, .ref mm)] := hl
  refine lv_aload_n hX hB dX7_bestPush_0 rfl (lv_at hl 0 rfl) ?_
  refine lv_iconst (v := nZ 0) hX hB dX7_bestPush_1 rfl ?_
  refine va_put (v := .int (nZ 0)) (ty := tyX7 5) hX hB hz inlX7 tyX7 tyX7_ok nmX7 hW hK.1 hP hD hS 0 rfl rfl 5 (by decide) (hz _ zw_249) (fun _ h9 => h9) rfl (by decide +kernel) rfl rfl (Nat.le_of_ble_eq_true rfl) dX7_bestPush_2 (fun H locs hP hD hS => ?_)
  have hP : va_P D vwCl [(mm, .inr (7, [.ref ms, .int (nZ vsv), .ref mk, .ref mb, .int (nZ vty), .int (nZ 0), .int (nZ ven), .int (nZ vsp), .int (nZ vla), .int (nZ vpc)])), (ms, .inl (k 0, 900, .inl (zA s)))] H := hP
  have hD : va_D A [(mm, .inr (7, [.ref ms, .int (nZ vsv), .ref mk, .ref mb, .int (nZ vty), .int (nZ 0), .int (nZ ven), .int (nZ vsp), .int (nZ vla), .int (nZ vpc)])), (ms, .inl (k 0, 900, .inl (zA s)))] := hD
  refine lv_aload_n hX hB dX7_bestPush_5 rfl (lv_at hl 0 rfl) ?_
  refine zCallI0 (zRunV (As := []) X mv_X7_best (c_X7_best l D k _ mm ms mk mb vsv vty 0 ven vsp vla vpc s B hBk hG) zw_650 (zPreV hP hD hK [0, 1] rfl rfl 0 7 rfl rfl rfl) rfl hl (Nat.le_of_ble_eq_true rfl) dX7_bestPush_6 ⟨rfl, rfl, ⟨Nat.le_of_ble_eq_true rfl, Nat.le_of_ble_eq_true rfl⟩, Nat.le_of_ble_eq_true rfl, Nat.le_of_ble_eq_true rfl⟩ rfl) hS hP hD hA [0, 1] rfl (fun _ => rfl) (fun r_6 u_6 H locs hq_6 hP hD hS => ?_)
  obtain ⟨s2_6, ve2_6⟩ := u_6
  obtain ⟨rfl, hf2_6⟩ := hq_6
  try dsimp only at hf2_6
  have hP : va_P D vwCl [(mm, .inr (7, [.ref ms, .int (nZ vsv), .ref mk, .ref mb, .int (nZ vty), .int (nZ 0), .int (nZ ve2_6), .int (nZ vsp), .int (nZ vla), .int (nZ vpc)])), (ms, .inl (k 0, 900, .inl (zA s2_6)))] H := hP
  have hD : va_D A [(mm, .inr (7, [.ref ms, .int (nZ vsv), .ref mk, .ref mb, .int (nZ vty), .int (nZ 0), .int (nZ ve2_6), .int (nZ vsp), .int (nZ vla), .int (nZ vpc)])), (ms, .inl (k 0, 900, .inl (zA s2_6)))] := hD
  exact zRetI (s2_6, ve2_6) X hP hD hS rfl ⟨by first | rfl | (congr 1; omega) | (dsimp only; congr 1; omega), by first | assumption | omega | (dsimp only; omega) | rfl⟩ dX7_bestPush_9
set_option maxHeartbeats 4000000 in
set_option maxRecDepth 100000 in
theorem c_X7_thrown (l : Launch) (D : va_G) (k : Nat → ClassId) (sz : Nat) (mm ms mk mb : Nat) (vsv vty vth ven vsp vla vpc : Int)  : Met l yX7_thrown (zW yX7_thrown cX7_thrown 1 (some .int)) ({ frames := 0, cells := 0, slots := 0, locals := 0 } : Room) (va_Pc [.ref mm] (zIn D k sz [(mm, .inr (7, [.ref ms, .int (nZ vsv), .ref mk, .ref mb, .int (nZ vty), .int (nZ vth), .int (nZ ven), .int (nZ vsp), .int (nZ vla), .int (nZ vpc)]))])) (va_Qi (fun (rz : Int32) (uz : Unit) => rz = nZ vth) (fun (uz : Unit) => zOut D (va_A [(mm, .inr (7, [.ref ms, .int (nZ vsv), .ref mk, .ref mb, .int (nZ vty), .int (nZ vth), .int (nZ ven), .int (nZ vsp), .int (nZ vla), .int (nZ vpc)]))] sz) [(mm, .inr (7, [.ref ms, .int (nZ vsv), .ref mk, .ref mb, .int (nZ vty), .int (nZ vth), .int (nZ ven), .int (nZ vsp), .int (nZ vla), .int (nZ vpc)]))]) (va_A [(mm, .inr (7, [.ref ms, .int (nZ vsv), .ref mk, .ref mb, .int (nZ vty), .int (nZ vth), .int (nZ ven), .int (nZ vsp), .int (nZ vla), .int (nZ vpc)]))] sz)) 0 0 (va_A [(mm, .inr (7, [.ref ms, .int (nZ vsv), .ref mk, .ref mb, .int (nZ vty), .int (nZ vth), .int (nZ ven), .int (nZ vsp), .int (nZ vla), .int (nZ vpc)]))] sz) := by
  refine zEnter (Qf := fun A => va_Qi (fun (rz : Int32) (uz : Unit) => rz = nZ vth) (fun (uz : Unit) => zOut D A [(mm, .inr (7, [.ref ms, .int (nZ vsv), .ref mk, .ref mb, .int (nZ vty), .int (nZ vth), .int (nZ ven), .int (nZ vsp), .int (nZ vla), .int (nZ vpc)]))]) A) RX7 (by decide) rfl (Nat.le_of_ble_eq_true rfl) ?_
  intro p9 e9 s9 m9 be9 me9 c9 ls A X hin hP hD hS hA hAe hl
  have hX := X.1; have hB := X.2.1; have hz := X.2.2.2.2.1; have hW := X.2.2.2.2.2.1; have hK := X.2.2.2.2.2.2.2; clear hAe
  clear hin
  have hl : lv_has ls 1 [(0, .ref mm)] := hl
  refine lv_aload_n hX hB dX7_thrown_0 rfl (lv_at hl 0 rfl) ?_
  refine va_get hX hB hz inlX7 hW hK.1 hP 0 rfl rfl 5 (by decide) (hz _ zw_249) (fun _ h9 => h9) rfl dX7_thrown_1 ?_
  exact zRetI () X hP hD hS rfl (by first | rfl | (congr 1; omega) | (dsimp only; congr 1; omega)) dX7_thrown_4
