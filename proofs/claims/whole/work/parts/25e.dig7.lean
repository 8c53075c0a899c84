theorem mi_X7_init : zMI yX7_init cX7_init 1 0 := ⟨zw_72, zw_5, ⟨by decide +kernel, by decide +kernel, by decide +kernel⟩, zw_71, rfl⟩
theorem mv_X7_fullness : zMV yX7_fullness cX7_fullness 1 (some .double) 0 := ⟨zw_666, zw_5, ⟨by decide +kernel, by decide +kernel, by decide +kernel⟩, zw_664, zw_665⟩
theorem mv_X7_ofLane : zMV yX7_ofLane cX7_ofLane 7 (some .long) 2 := ⟨zw_712, zw_5, ⟨by decide +kernel, by decide +kernel, by decide +kernel⟩, zw_710, zw_711⟩
set_option maxHeartbeats 4000000 in
set_option maxRecDepth 100000 in
theorem c_X7_init (l : Launch) (D : va_G) (k : Nat → ClassId) (sz : Nat) (mm : Nat)  : Met l yX7_init (zW yX7_init cX7_init 1 none) ({ frames := 1, cells := 3, slots := 962, locals := 12 } : Room) (va_Pc [.ref mm] (zIn D k sz [(mm, .inr (7, [.null, .int (nZ 0), .null, .null, .int (nZ 0), .int (nZ 0), .int (nZ 0), .int (nZ 0), .int (nZ 0), .int (nZ 0)]))])) (va_Qv (fun (uz : Nat × Nat × Nat) => True) (fun (uz : Nat × Nat × Nat) => zOut D (va_A [(mm, .inr (7, [.null, .int (nZ 0), .null, .null, .int (nZ 0), .int (nZ 0), .int (nZ 0), .int (nZ 0), .int (nZ 0), .int (nZ 0)]))] sz) [(mm, .inr (7, [.ref uz.1, .int (nZ 0), .ref uz.2.1, .ref uz.2.2, .int (nZ 0), .int (nZ 0), .int (nZ 0), .int (nZ 0), .int (nZ 0), .int (nZ 0)])), (uz.1, .inl (k 0, 900, .inl (zA (zU (fun _ => 0) 0 2)))), (uz.2.1, .inl (k 1, 2, .inl (zA (fun _ => 0)))), (uz.2.2, .inl (k 2, 60, .inl (zA (fun _ => 0))))]) (va_A [(mm, .inr (7, [.null, .int (nZ 0), .null, .null, .int (nZ 0), .int (nZ 0), .int (nZ 0), .int (nZ 0), .int (nZ 0), .int (nZ 0)]))] sz)) 3 962 (va_A [(mm, .inr (7, [.null, .int (nZ 0), .null, .null, .int (nZ 0), .int (nZ 0), .int (nZ 0), .int (nZ 0), .int (nZ 0), .int (nZ 0)]))] sz) := by
  refine zEnter (Qf := fun A => va_Qv (fun (uz : Nat × Nat × Nat) => True) (fun (uz : Nat × Nat × Nat) => zOut D A [(mm, .inr (7, [.ref uz.1, .int (nZ 0), .ref uz.2.1, .ref uz.2.2, .int (nZ 0), .int (nZ 0), .int (nZ 0), .int (nZ 0), .int (nZ 0), .int (nZ 0)])), (uz.1, .inl (k 0, 900, .inl (zA (zU (fun _ => 0) 0 2)))), (uz.2.1, .inl (k 1, 2, .inl (zA (fun _ => 0)))), (uz.2.2, .inl (k 2, 60, .inl (zA (fun _ => 0))))]) A) RX7 (by decide) rfl (Nat.le_of_ble_eq_true rfl) ?_
  intro p9 e9 s9 m9 be9 me9 c9 ls A X hin hP hD hS hA hAe hl
  have hX := X.1; have hB := X.2.1; have hz := X.2.2.2.2.1; have hW := X.2.2.2.2.2.1; have hK := X.2.2.2.2.2.2.2; clear hAe
  have hl : lv_has ls 1 [(0, .ref mm)] := hl
  refine lv_aload_n hX hB dX7_init_0 rfl (lv_at hl 0 rfl) ?_
  refine W.objInit hX hB hW (hz _ zw_73) (hz _ zw_11) (hz _ zw_12) rfl (by rw [X.2.2.2.1]; exact hl.1) rfl dX7_init_1 (Nat.le_of_ble_eq_true rfl) (Nat.le_of_ble_eq_true rfl) ?_
  refine W.eq (g2 := F0 m9 4 ls []) rfl ?_
  refine lv_aload_n hX hB dX7_init_4 rfl (lv_at hl 0 rfl) ?_
  refine lv_sipush (v := nZ 900) hX hB dX7_init_5 (by decide) ?_
  refine zz_newa_int X hP hD hS hA (hz _ zw_34) 900 (by decide) (Nat.le_of_ble_eq_true rfl) (Nat.le_of_ble_eq_true rfl) dX7_init_8 (fun q8 H hP hD hS => ?_)
  have hP : va_P D vwCl [(mm, .inr (7, [.null, .int (nZ 0), .null, .null, .int (nZ 0), .int (nZ 0), .int (nZ 0), .int (nZ 0), .int (nZ 0), .int (nZ 0)])), (q8, .inl (k 0, 900, .inl (zA (fun _ => 0))))] H := hP
  have hD : va_D A [(mm, .inr (7, [.null, .int (nZ 0), .null, .null, .int (nZ 0), .int (nZ 0), .int (nZ 0), .int (nZ 0), .int (nZ 0), .int (nZ 0)])), (q8, .inl (k 0, 900, .inl (zA (fun _ => 0))))] := hD
  refine W.widen (k := 1) (n := 900) (by decide) (by decide) ?_
  refine va_putF (v := .ref q8) (ty := tyX7 0) hX hB hz inlX7 tyX7 tyX7_ok nmX7 hW hK.1 hP hD hS 0 rfl rfl 0 (by decide) (hz _ zw_74) (fun _ h9 => h9) rfl (hin rfl) rfl (by decide +kernel) rfl rfl (Nat.le_of_ble_eq_true rfl) dX7_init_10 (fun H locs hP hD hS => ?_)
  have hP : va_P D vwCl [(mm, .inr (7, [.ref q8, .int (nZ 0), .null, .null, .int (nZ 0), .int (nZ 0), .int (nZ 0), .int (nZ 0), .int (nZ 0), .int (nZ 0)])), (q8, .inl (k 0, 900, .inl (zA (fun _ => 0))))] H := hP
  have hD : va_D A [(mm, .inr (7, [.ref q8, .int (nZ 0), .null, .null, .int (nZ 0), .int (nZ 0), .int (nZ 0), .int (nZ 0), .int (nZ 0), .int (nZ 0)])), (q8, .inl (k 0, 900, .inl (zA (fun _ => 0))))] := hD
  refine lv_aload_n hX hB dX7_init_13 rfl (lv_at hl 0 rfl) ?_
  refine lv_iconst (v := nZ 2) hX hB dX7_init_14 rfl ?_
  refine zz_newa_boolean X hP hD hS hA (hz _ zw_75) 2 (by decide) (Nat.le_of_ble_eq_true rfl) (Nat.le_of_ble_eq_true rfl) dX7_init_15 (fun q15 H hP hD hS => ?_)
  have hP : va_P D vwCl [(mm, .inr (7, [.ref q8, .int (nZ 0), .null, .null, .int (nZ 0), .int (nZ 0), .int (nZ 0), .int (nZ 0), .int (nZ 0), .int (nZ 0)])), (q8, .inl (k 0, 900, .inl (zA (fun _ => 0)))), (q15, .inl (k 1, 2, .inl (zA (fun _ => 0))))] H := hP
  have hD : va_D A [(mm, .inr (7, [.ref q8, .int (nZ 0), .null, .null, .int (nZ 0), .int (nZ 0), .int (nZ 0), .int (nZ 0), .int (nZ 0), .int (nZ 0)])), (q8, .inl (k 0, 900, .inl (zA (fun _ => 0)))), (q15, .inl (k 1, 2, .inl (zA (fun _ => 0))))] := hD
  refine W.widen (k := 2) (n := 902) (by decide) (by decide) ?_
  refine va_putF (v := .ref q15) (ty := tyX7 2) hX hB hz inlX7 tyX7 tyX7_ok nmX7 hW hK.1 hP hD hS 0 rfl rfl 2 (by decide) (hz _ zw_76) (fun _ h9 => h9) rfl (hin rfl) rfl (by decide +kernel) rfl rfl (Nat.le_of_ble_eq_true rfl) dX7_init_17 (fun H locs hP hD hS => ?_)
  have hP : va_P D vwCl [(mm, .inr (7, [.ref q8, .int (nZ 0), .ref q15, .null, .int (nZ 0), .int (nZ 0), .int (nZ 0), .int (nZ 0), .int (nZ 0), .int (nZ 0)])), (q8, .inl (k 0, 900, .inl (zA (fun _ => 0)))), (q15, .inl (k 1, 2, .inl (zA (fun _ => 0))))] H := hP
  have hD : va_D A [(mm, .inr (7, [.ref q8, .int (nZ 0), .ref q15, .null, .int (nZ 0), .int (nZ 0), .int (nZ 0), .int (nZ 0), .int (nZ 0), .int (nZ 0)])), (q8, .inl (k 0, 900, .inl (zA (fun _ => 0)))), (q15, .inl (k 1, 2, .inl (zA (fun _ => 0))))] := hD
  refine lv_aload_n hX hB dX7_init_20 rfl (lv_at hl 0 rfl) ?_
  refine lv_bipush (v := nZ 60) hX hB dX7_init_21 (by decide) ?_
  refine zz_newa_char X hP hD hS hA (hz _ zw_77) 60 (by decide) (Nat.le_of_ble_eq_true rfl) (Nat.le_of_ble_eq_true rfl) dX7_init_23 (fun q23 H hP hD hS => ?_)
  have hP : va_P D vwCl [(mm, .inr (7, [.ref q8, .int (nZ 0), .ref q15, .null, .int (nZ 0), .int (nZ 0), .int (nZ 0), .int (nZ 0), .int (nZ 0), .int (nZ 0)])), (q8, .inl (k 0, 900, .inl (zA (fun _ => 0)))), (q15, .inl (k 1, 2, .inl (zA (fun _ => 0)))), (q23, .inl (k 2, 60, .inl (zA (fun _ => 0))))] H := hP
  have hD : va_D A [(mm, .inr (7, [.ref q8, .int (nZ 0), .ref q15, .null, .int (nZ 0), .int (nZ 0), .int (nZ 0), .int (nZ 0), .int (nZ 0), .int (nZ 0)])), (q8, .inl (k 0, 900, .inl (zA (fun _ => 0)))), (q15, .inl (k 1, 2, .inl (zA (fun _ => 0)))), (q23, .inl (k 2, 60, .inl (zA (fun _ => 0))))] := hD
  refine W.widen (k := 3) (n := 962) (by decide) (by decide) ?_
  refine va_putF (v := .ref q23) (ty := tyX7 3) hX hB hz inlX7 tyX7 tyX7_ok nmX7 hW hK.1 hP hD hS 0 rfl rfl 3 (by decide) (hz _ zw_78) (fun _ h9 => h9) rfl (hin rfl) rfl (by decide +kernel) rfl rfl (Nat.le_of_ble_eq_true rfl) dX7_init_25 (fun H locs hP hD hS => ?_)
  have hP : va_P D vwCl [(mm, .inr (7, [.ref q8, .int (nZ 0), .ref q15, .ref q23, .int (nZ 0), .int (nZ 0), .int (nZ 0), .int (nZ 0), .int (nZ 0), .int (nZ 0)])), (q8, .inl (k 0, 900, .inl (zA (fun _ => 0)))), (q15, .inl (k 1, 2, .inl (zA (fun _ => 0)))), (q23, .inl (k 2, 60, .inl (zA (fun _ => 0))))] H := hP
  have hD : va_D A [(mm, .inr (7, [.ref q8, .int (nZ 0), .ref q15, .ref q23, .int (nZ 0), .int (nZ 0), .int (nZ 0), .int (nZ 0), .int (nZ 0), .int (nZ 0)])), (q8, .inl (k 0, 900, .inl (zA (fun _ => 0)))), (q15, .inl (k 1, 2, .inl (zA (fun _ => 0)))), (q23, .inl (k 2, 60, .inl (zA (fun _ => 0))))] := hD
  refine lv_aload_n hX hB dX7_init_28 rfl (lv_at hl 0 rfl) ?_
  refine va_get hX hB hz inlX7 hW hK.1 hP 0 rfl rfl 0 (by decide) (hz _ zw_74) (fun _ h9 => h9) rfl dX7_init_29 ?_
  refine lv_iconst (v := nZ 0) hX hB dX7_init_32 rfl ?_
  refine lv_iconst (v := nZ 2) hX hB dX7_init_33 rfl ?_
  refine zz_iast X hP hD hS 1 0 rfl rfl 0 (by omega) (by omega) (by first | decide | omega) dX7_init_34 (fun H locs hP hD hS => ?_)
  have hP : va_P D vwCl [(mm, .inr (7, [.ref q8, .int (nZ 0), .ref q15, .ref q23, .int (nZ 0), .int (nZ 0), .int (nZ 0), .int (nZ 0), .int (nZ 0), .int (nZ 0)])), (q8, .inl (k 0, 900, .inl (zA (zU (fun _ => 0) 0 2)))), (q15, .inl (k 1, 2, .inl (zA (fun _ => 0)))), (q23, .inl (k 2, 60, .inl (zA (fun _ => 0))))] H := hP
  have hD : va_D A [(mm, .inr (7, [.ref q8, .int (nZ 0), .ref q15, .ref q23, .int (nZ 0), .int (nZ 0), .int (nZ 0), .int (nZ 0), .int (nZ 0), .int (nZ 0)])), (q8, .inl (k 0, 900, .inl (zA (zU (fun _ => 0) 0 2)))), (q15, .inl (k 1, 2, .inl (zA (fun _ => 0)))), (q23, .inl (k 2, 60, .inl (zA (fun _ => 0))))] := hD
  exact zRetV (q8, q15, q23) X hP hD hS rfl trivial dX7_init_35
set_option maxHeartbeats 4000000 in
set_option maxRecDepth 100000 in
theorem c_X7_fullness (l : Launch) (D : va_G) (k : Nat → ClassId) (sz : Nat) (mm ms mk mb : Nat) (vsv vty vth ven vsp vla vpc : Int) (s : Nat → Int) (B : Bd) (hBk : blkOk s 0 B) (hch : chOk (chB B)) : Met l yX7_fullness (zW yX7_fullness cX7_fullness 1 (some .double)) ({ frames := 2, cells := 0, slots := 0, locals := 46 } : Room) (va_Pc [.ref mm] (zIn D k sz [(mm, .inr (7, [.ref ms, .int (nZ vsv), .ref mk, .ref mb, .int (nZ vty), .int (nZ vth), .int (nZ ven), .int (nZ vsp), .int (nZ vla), .int (nZ vpc)])), (ms, .inl (k 0, 900, .inl (zA s)))])) (va_Qd (fun (rz : UInt64) (uz : Unit) => rz = (zShare (chalksB B))) (fun (uz : Unit) => zOut D (va_A [(mm, .inr (7, [.ref ms, .int (nZ vsv), .ref mk, .ref mb, .int (nZ vty), .int (nZ vth), .int (nZ ven), .int (nZ vsp), .int (nZ vla), .int (nZ vpc)])), (ms, .inl (k 0, 900, .inl (zA s)))] sz) [(mm, .inr (7, [.ref ms, .int (nZ vsv), .ref mk, .ref mb, .int (nZ vty), .int (nZ 0), .int (nZ ven), .int (nZ vsp), .int (nZ vla), .int (nZ vpc)])), (ms, .inl (k 0, 900, .inl (zA s)))]) (va_A [(mm, .inr (7, [.ref ms, .int (nZ vsv), .ref mk, .ref mb, .int (nZ vty), .int (nZ vth), .int (nZ ven), .int (nZ vsp), .int (nZ vla), .int (nZ vpc)])), (ms, .inl (k 0, 900, .inl (zA s)))] sz)) 0 0 (va_A [(mm, .inr (7, [.ref ms, .int (nZ vsv), .ref mk, .ref mb, .int (nZ vty), .int (nZ vth), .int (nZ ven), .int (nZ vsp), .int (nZ vla), .int (nZ vpc)])), (ms, .inl (k 0, 900, .inl (zA s)))] sz) := by
  refine zEnter (Qf := fun A => va_Qd (fun (rz : UInt64) (uz : Unit) => rz = (zShare (chalksB B))) (fun (uz : Unit) => zOut D A [(mm, .inr (7, [.ref ms, .int (nZ vsv), .ref mk, .ref mb, .int (nZ vty), .int (nZ 0), .int (nZ ven), .int (nZ vsp), .int (nZ vla), .int (nZ vpc)])), (ms, .inl (k 0, 900, .inl (zA s)))]) A) RX7 (by decide) rfl (Nat.le_of_ble_eq_true rfl) ?_
  intro p9 e9 s9 m9 be9 me9 c9 ls A X hin hP hD hS hA hAe hl
  have hX := X.1; have hB := X.2.1; have hz := X.2.2.2.2.1; have hW := X.2.2.2.2.2.1; have hK := X.2.2.2.2.2.2.2; clear hAe
  clear hin
  have hl : lv_has ls 1 [(0, .ref mm)] := hl
  have hc0 := chSum_rng hch (o := 0) (by omega); have hc1 := chSum_rng hch (o := 1) (by omega)
  refine lv_aload_n hX hB dX7_fullness_0 rfl (lv_at hl 0 rfl) ?_
  refine lv_iconst (v := nZ 0) hX hB dX7_fullness_1 rfl ?_
  refine va_put (v := .int (nZ 0)) (ty := tyX7 5) hX hB hz inlX7 tyX7 tyX7_ok nmX7 hW hK.1 hP hD hS 0 rfl rfl 5 (by decide) (hz _ zw_249) (fun _ h9 => h9) rfl (by decide +kernel) rfl rfl (Nat.le_of_ble_eq_true rfl) dX7_fullness_2 (fun H locs hP hD hS => ?_)
  have hP : va_P D vwCl [(mm, .inr (7, [.ref ms, .int (nZ vsv), .ref mk, .ref mb, .int (nZ vty), .int (nZ 0), .int (nZ ven), .int (nZ vsp), .int (nZ vla), .int (nZ vpc)])), (ms, .inl (k 0, 900, .inl (zA s)))] H := hP
  have hD : va_D A [(mm, .inr (7, [.ref ms, .int (nZ vsv), .ref mk, .ref mb, .int (nZ vty), .int (nZ 0), .int (nZ ven), .int (nZ vsp), .int (nZ vla), .int (nZ vpc)])), (ms, .inl (k 0, 900, .inl (zA s)))] := hD
  refine lv_aload_n hX hB dX7_fullness_5 rfl (lv_at hl 0 rfl) ?_
  refine lv_iconst (v := nZ 0) hX hB dX7_fullness_6 rfl ?_
  refine zCallI0 (zRunV (As := [.int (nZ 0)]) X mv_X7_chalksOf (c_X7_chalksOf l D k _ mm ms mk mb vsv vty 0 ven vsp vla vpc s B 0 hBk (by first | assumption | omega | exact ⟨by omega, by omega⟩)) zw_336 (zPreV hP hD hK [0, 1] rfl rfl 0 7 rfl rfl rfl) rfl hl (Nat.le_of_ble_eq_true rfl) dX7_fullness_7 ⟨rfl, rfl, ⟨Nat.le_of_ble_eq_true rfl, Nat.le_of_ble_eq_true rfl⟩, Nat.le_of_ble_eq_true rfl, Nat.le_of_ble_eq_true rfl⟩ rfl) hS hP hD hA [0, 1] rfl (fun _ => rfl) (fun r_7 u_7 H locs hq_7 hP hD hS => ?_)
  subst hq_7
  have hP : va_P D vwCl [(mm, .inr (7, [.ref ms, .int (nZ vsv), .ref mk, .ref mb, .int (nZ vty), .int (nZ 0), .int (nZ ven), .int (nZ vsp), .int (nZ vla), .int (nZ vpc)])), (ms, .inl (k 0, 900, .inl (zA s)))] H := hP
  have hD : va_D A [(mm, .inr (7, [.ref ms, .int (nZ vsv), .ref mk, .ref mb, .int (nZ vty), .int (nZ 0), .int (nZ ven), .int (nZ vsp), .int (nZ vla), .int (nZ vpc)])), (ms, .inl (k 0, 900, .inl (zA s)))] := hD
  refine lv_aload_n hX hB dX7_fullness_10 rfl (lv_at hl 0 rfl) ?_
  refine lv_iconst (v := nZ 1) hX hB dX7_fullness_11 rfl ?_
  refine zCallI0 (zRunV (As := [.int (nZ 1)]) X mv_X7_chalksOf (c_X7_chalksOf l D k _ mm ms mk mb vsv vty 0 ven vsp vla vpc s B 1 hBk (by first | assumption | omega | exact ⟨by omega, by omega⟩)) zw_336 (zPreV hP hD hK [0, 1] rfl rfl 0 7 rfl rfl rfl) rfl hl (Nat.le_of_ble_eq_true rfl) dX7_fullness_12 ⟨rfl, rfl, ⟨Nat.le_of_ble_eq_true rfl, Nat.le_of_ble_eq_true rfl⟩, Nat.le_of_ble_eq_true rfl, Nat.le_of_ble_eq_true rfl⟩ rfl) hS hP hD hA [0, 1] rfl (fun _ => rfl) (fun r_12 u_12 H locs hq_12 hP hD hS => ?_)
  subst hq_12
  have hP : va_P D vwCl [(mm, .inr (7, [.ref ms, .int (nZ vsv), .ref mk, .ref mb, .int (nZ vty), .int (nZ 0), .int (nZ ven), .int (nZ vsp), .int (nZ vla), .int (nZ vpc)])), (ms, .inl (k 0, 900, .inl (zA s)))] H := hP
  have hD : va_D A [(mm, .inr (7, [.ref ms, .int (nZ vsv), .ref mk, .ref mb, .int (nZ vty), .int (nZ 0), .int (nZ ven), .int (nZ vsp), .int (nZ vla), .int (nZ vpc)])), (ms, .inl (k 0, 900, .inl (zA s)))] := hD
  refine zz_iadd X dX7_fullness_15 (z := ((chSum (chB B) 0) + (chSum (chB B) 1))) (by first | rfl | omega) ?_
  refine lv_i2d hX hB dX7_fullness_16 ?_
  refine lv_ldc2d (v := 4632796641680687104) hX hB hW (hz _ zw_667) dX7_fullness_17 ?_
  refine lv_ddiv hX hB dX7_fullness_20 ((share_at (chalks_rng hch)).1) ?_
  exact zRetD () X hP hD hS rfl (by first | rfl | (congr 1; omega) | (dsimp only; congr 1; omega)) dX7_fullness_21
set_option maxHeartbeats 4000000 in
set_option maxRecDepth 100000 in
theorem c_X7_ofLane (l : Launch) (D : va_G) (k : Nat → ClassId) (sz : Nat) (mm ms mk mb : Nat) (vsv vty vth ven vsp vla vpc : Int) (s : Nat → Int) (j : Nat) (B : Bd) (hs : Int) (hBk : blkOk s 0 B) (hjj : j < 3) (hCh : chainS (-5) (B.2 j)) (hcost : 0 ≤ B.1 0 ∧ B.1 0 ≤ 20) : Met l yX7_ofLane (zW yX7_ofLane cX7_ofLane 7 (some .long)) ({ frames := 6, cells := 0, slots := 0, locals := 151 } : Room) (va_Pc [.ref mm, .long (nL hs), .int (nZ ↑j)] (zIn D k sz [(mm, .inr (7, [.ref ms, .int (nZ vsv), .ref mk, .ref mb, .int (nZ vty), .int (nZ vth), .int (nZ ven), .int (nZ vsp), .int (nZ vla), .int (nZ vpc)])), (ms, .inl (k 0, 900, .inl (zA s)))])) (va_Ql (fun (rz : Int64) (uz : (Nat → Int) × Int) => rz = nL (laneB B hs j) ∧ frOk s uz.1 810) (fun (uz : (Nat → Int) × Int) => zOut D (va_A [(mm, .inr (7, [.ref ms, .int (nZ vsv), .ref mk, .ref mb, .int (nZ vty), .int (nZ vth), .int (nZ ven), .int (nZ vsp), .int (nZ vla), .int (nZ vpc)])), (ms, .inl (k 0, 900, .inl (zA s)))] sz) [(mm, .inr (7, [.ref ms, .int (nZ vsv), .ref mk, .ref mb, .int (nZ vty), .int (nZ vth), .int (nZ uz.2), .int (nZ vsp), .int (nZ vla), .int (nZ vpc)])), (ms, .inl (k 0, 900, .inl (zA uz.1)))]) (va_A [(mm, .inr (7, [.ref ms, .int (nZ vsv), .ref mk, .ref mb, .int (nZ vty), .int (nZ vth), .int (nZ ven), .int (nZ vsp), .int (nZ vla), .int (nZ vpc)])), (ms, .inl (k 0, 900, .inl (zA s)))] sz)) 0 0 (va_A [(mm, .inr (7, [.ref ms, .int (nZ vsv), .ref mk, .ref mb, .int (nZ vty), .int (nZ vth), .int (nZ ven), .int (nZ vsp), .int (nZ vla), .int (nZ vpc)])), (ms, .inl (k 0, 900, .inl (zA s)))] sz) := by
  refine zEnter (Qf := fun A => va_Ql (fun (rz : Int64) (uz : (Nat → Int) × Int) => rz = nL (laneB B hs j) ∧ frOk s uz.1 810) (fun (uz : (Nat → Int) × Int) => zOut D A [(mm, .inr (7, [.ref ms, .int (nZ vsv), .ref mk, .ref mb, .int (nZ vty), .int (nZ vth), .int (nZ uz.2), .int (nZ vsp), .int (nZ vla), .int (nZ vpc)])), (ms, .inl (k 0, 900, .inl (zA uz.1)))]) A) RX7 (by decide) rfl (Nat.le_of_ble_eq_true rfl) ?_
  intro p9 e9 s9 m9 be9 me9 c9 ls A X hin hP hD hS hA hAe hl
  have hX := X.1; have hB := X.2.1; have hz := X.2.2.2.2.1; have hW := X.2.2.2.2.2.1; have hK := X.2.2.2.2.2.2.2; clear hAe
  clear hin
  have hl : lv_has ls 7 [(0, .ref mm), (1, .long (nL hs)), (3, .int (nZ ↑j))] := hl
  have hl9 := hBk.len hjj
  have hLB : B.2 j = (B.2 j) := rfl
  refine lv_lload_n hX hB dX7_ofLane_0 rfl (lv_at hl 1 rfl) ?_
  refine lv_lstore (lv' := [(4, .long (nL hs)), (0, .ref mm), (1, .long (nL hs)), (3, .int (nZ ↑j))]) hX hB dX7_ofLane_1 hl (by decide) rfl (fun ls hl => ?_)
  refine lv_iconst (v := nZ 0) hX hB dX7_ofLane_3 rfl ?_
  refine lv_istore (lv' := [(6, .int (nZ 0)), (4, .long (nL hs)), (0, .ref mm), (1, .long (nL hs)), (3, .int (nZ ↑j))]) hX hB dX7_ofLane_4 hl (by decide) rfl (fun ls hl => ?_)
  refine zLoop (σ := Nat × Int) (fun (x : Nat × Int) (H : Heap) (locs : List Loc) (ls : Array Slot) => match x with | (r, hh) => (r ≤ (B.2 j).length) ∧ (hashL hs (B.2 j) = hashL hh ((B.2 j).drop r)) ∧ va_P D vwCl [(mm, .inr (7, [.ref ms, .int (nZ vsv), .ref mk, .ref mb, .int (nZ vty), .int (nZ vth), .int (nZ ven), .int (nZ vsp), .int (nZ vla), .int (nZ vpc)])), (ms, .inl (k 0, 900, .inl (zA s)))] H ∧ va_D A [(mm, .inr (7, [.ref ms, .int (nZ vsv), .ref mk, .ref mb, .int (nZ vty), .int (nZ vth), .int (nZ ven), .int (nZ vsp), .int (nZ vla), .int (nZ vpc)])), (ms, .inl (k 0, 900, .inl (zA s)))] ∧ va_S A s9.heap H locs ∧ lv_has ls 7 [(0, .ref mm), (1, .long (nL hs)), (3, .int (nZ ↑j)), (4, .long (nL hh)), (6, .int (nZ ↑r))]) (fun (x : Nat × Int) => match x with | (r, hh) => (B.2 j).length - r) ?_ (0, hs) ⟨(by exact Nat.zero_le _), (by rfl), hP, hD, hS, (lv_sub hl [2, 3, 4, 1, 0] rfl)⟩
  rintro ⟨r, hh⟩ H locs ls ⟨hr, hq, hP, hD, hS, hl⟩ ih_6
  refine lv_iload hX hB dX7_ofLane_6 (lv_at hl 4 rfl) ?_
  refine lv_aload_n hX hB dX7_ofLane_8 rfl (lv_at hl 0 rfl) ?_
  refine va_get hX hB hz inlX7 hW hK.1 hP 0 rfl rfl 0 (by decide) (hz _ zw_74) (fun _ h9 => h9) rfl dX7_ofLane_9 ?_
  refine lv_iconst (v := nZ 0) hX hB dX7_ofLane_12 rfl ?_
  refine lv_iload_n hX hB dX7_ofLane_13 rfl (lv_at hl 2 rfl) ?_
  refine zCallI0 (zRunS X ms_X7_laneAt (c_X7_laneAt l D k _ 0 j ) zw_272 (zPreS hP hD hK [] rfl rfl) rfl hl (Nat.le_of_ble_eq_true rfl) dX7_ofLane_14 ⟨rfl, rfl, ⟨Nat.le_of_ble_eq_true rfl, Nat.le_of_ble_eq_true rfl⟩, Nat.le_of_ble_eq_true rfl, Nat.le_of_ble_eq_true rfl⟩ rfl) hS hP hD hA [] rfl (fun _ => rfl) (fun r_14 u_14 H locs hq_14 hP hD hS => ?_)
  subst hq_14
  have hP : va_P D vwCl [(mm, .inr (7, [.ref ms, .int (nZ vsv), .ref mk, .ref mb, .int (nZ vty), .int (nZ vth), .int (nZ ven), .int (nZ vsp), .int (nZ vla), .int (nZ vpc)])), (ms, .inl (k 0, 900, .inl (zA s)))] H := hP
  have hD : va_D A [(mm, .inr (7, [.ref ms, .int (nZ vsv), .ref mk, .ref mb, .int (nZ vty), .int (nZ vth), .int (nZ ven), .int (nZ vsp), .int (nZ vla), .int (nZ vpc)])), (ms, .inl (k 0, 900, .inl (zA s)))] := hD
  refine zz_iald X hP 1 0 rfl rfl (((0 + 27)) + (21 * j)) (by omega) (by omega) (by first | decide | omega) dX7_ofLane_17 ?_
  refine zz_icmp_ge X (tgt := 45) dX7_ofLane_18 (by decide) ⟨by omega, by omega⟩ ⟨by omega, by omega⟩ (fun c_18 => ?_) (fun c_18 => ?_)
  · have hq9 : hashL hs (B.2 j) = hh := by rw [hq, List.drop_eq_nil_of_le (by omega)]; rfl
    refine lv_iconst (v := nZ 0) hX hB dX7_ofLane_45 rfl ?_
    refine lv_istore (lv' := [(6, .int (nZ 0)), (0, .ref mm), (1, .long (nL hs)), (3, .int (nZ ↑j)), (4, .long (nL hh))]) hX hB dX7_ofLane_46 hl (by decide) rfl (fun ls hl => ?_)
    refine lv_iload hX hB dX7_ofLane_48 (lv_at hl 0 rfl) ?_
    refine lv_bipush (v := nZ 6) hX hB dX7_ofLane_50 (by decide) ?_
    refine zz_icmp_ge X (tgt := 90) dX7_ofLane_52 (by decide) ⟨by omega, by omega⟩ ⟨by omega, by omega⟩ (fun c_52 => ?_) (fun c_52 => ?_)
    · exfalso; omega
    · refine lv_ldc2 (v := nL 31) hX hB hW (hz _ zw_708) dX7_ofLane_55 ?_
      refine lv_lload hX hB dX7_ofLane_58 (lv_at hl 4 rfl) ?_
      refine zz_lmul X dX7_ofLane_60 ?_
      refine lv_aload_n hX hB dX7_ofLane_61 rfl (lv_at hl 1 rfl) ?_
      refine lv_iload_n hX hB dX7_ofLane_62 rfl (lv_at hl 3 rfl) ?_
      refine lv_bipush (v := nZ 30) hX hB dX7_ofLane_63 (by decide) ?_
      refine lv_bipush (v := nZ 45) hX hB dX7_ofLane_65 (by decide) ?_
      refine lv_iload hX hB dX7_ofLane_67 (lv_at hl 0 rfl) ?_
      refine lv_iconst (v := nZ 2) hX hB dX7_ofLane_69 rfl ?_
      refine zz_idiv X dX7_ofLane_70 (z := 0) (by first | rfl | omega) ⟨by omega, by omega, by omega, by omega⟩ ?_
      refine zz_imul X dX7_ofLane_71 (z := 0) (by first | rfl | omega) ?_
      refine zz_iadd X dX7_ofLane_72 (z := 30) (by first | rfl | omega) ?_
      refine lv_iload hX hB dX7_ofLane_73 (lv_at hl 0 rfl) ?_
      refine lv_iconst (v := nZ 2) hX hB dX7_ofLane_75 rfl ?_
      refine zz_irem X dX7_ofLane_76 (z := 0) (by first | rfl | omega) ⟨by omega, by omega, by omega, by omega⟩ ?_
      refine zCallI0 (zRunV (As := [.int (nZ ↑j), .int (nZ 30), .int (nZ 0)]) X mv_X7_endBy (c_X7_endBy_0 l D k _ mm ms mk mb vsv vty vth ven vsp vla vpc s j B 30 hBk hjj hCh hcost (by first | assumption | omega | exact ⟨by omega, by omega⟩)) zw_590 (zPreV hP hD hK [0, 1] rfl rfl 0 7 rfl rfl rfl) rfl hl (Nat.le_of_ble_eq_true rfl) dX7_ofLane_77 ⟨rfl, rfl, ⟨Nat.le_of_ble_eq_true rfl, Nat.le_of_ble_eq_true rfl⟩, Nat.le_of_ble_eq_true rfl, Nat.le_of_ble_eq_true rfl⟩ rfl) hS hP hD hA [0, 1] rfl (fun _ => rfl) (fun r_77 u_77 H locs hq_77 hP hD hS => ?_)
      subst hq_77
      have hP : va_P D vwCl [(mm, .inr (7, [.ref ms, .int (nZ vsv), .ref mk, .ref mb, .int (nZ vty), .int (nZ vth), .int (nZ ven), .int (nZ vsp), .int (nZ vla), .int (nZ vpc)])), (ms, .inl (k 0, 900, .inl (zA s)))] H := hP
      have hD : va_D A [(mm, .inr (7, [.ref ms, .int (nZ vsv), .ref mk, .ref mb, .int (nZ vty), .int (nZ vth), .int (nZ ven), .int (nZ vsp), .int (nZ vla), .int (nZ vpc)])), (ms, .inl (k 0, 900, .inl (zA s)))] := hD
      refine lv_i2l (v := nL (zw32 (lastL (B.1 0) 30 (B.2 j)))) hX hB dX7_ofLane_80 (zi2l _) ?_
      refine zz_ladd X dX7_ofLane_81 ?_
      refine lv_lstore (lv' := [(4, .long (nL ((31 * hh) + (zw32 (lastL (B.1 0) 30 (B.2 j)))))), (6, .int (nZ 0)), (0, .ref mm), (1, .long (nL hs)), (3, .int (nZ ↑j))]) hX hB dX7_ofLane_82 hl (by decide) rfl (fun ls hl => ?_)
      refine lv_iinc (v := nZ 1) (lv' := [(6, .int (nZ 1)), (4, .long (nL ((31 * hh) + (zw32 (lastL (B.1 0) 30 (B.2 j)))))), (0, .ref mm), (1, .long (nL hs)), (3, .int (nZ ↑j))]) hX hB dX7_ofLane_84 hl (k := 1) rfl (zinc (by omega)) (by decide) rfl (fun ls hl => ?_)
      refine lv_goto (tgt := 48) hX hB dX7_ofLane_87 (by decide) ?_
      refine lv_iload hX hB dX7_ofLane_48 (lv_at hl 0 rfl) ?_
      refine lv_bipush (v := nZ 6) hX hB dX7_ofLane_50 (by decide) ?_
      refine zz_icmp_ge X (tgt := 90) dX7_ofLane_52 (by decide) ⟨by omega, by omega⟩ ⟨by omega, by omega⟩ (fun c_52_2 => ?_) (fun c_52_2 => ?_)
      · exfalso; omega
      · refine lv_ldc2 (v := nL 31) hX hB hW (hz _ zw_708) dX7_ofLane_55 ?_
        refine lv_lload hX hB dX7_ofLane_58 (lv_at hl 1 rfl) ?_
        refine zz_lmul X dX7_ofLane_60 ?_
        refine lv_aload_n hX hB dX7_ofLane_61 rfl (lv_at hl 2 rfl) ?_
        refine lv_iload_n hX hB dX7_ofLane_62 rfl (lv_at hl 4 rfl) ?_
        refine lv_bipush (v := nZ 30) hX hB dX7_ofLane_63 (by decide) ?_
        refine lv_bipush (v := nZ 45) hX hB dX7_ofLane_65 (by decide) ?_
        refine lv_iload hX hB dX7_ofLane_67 (lv_at hl 0 rfl) ?_
        refine lv_iconst (v := nZ 2) hX hB dX7_ofLane_69 rfl ?_
        refine zz_idiv X dX7_ofLane_70 (z := 0) (by first | rfl | omega) ⟨by omega, by omega, by omega, by omega⟩ ?_
        refine zz_imul X dX7_ofLane_71 (z := 0) (by first | rfl | omega) ?_
        refine zz_iadd X dX7_ofLane_72 (z := 30) (by first | rfl | omega) ?_
        refine lv_iload hX hB dX7_ofLane_73 (lv_at hl 0 rfl) ?_
        refine lv_iconst (v := nZ 2) hX hB dX7_ofLane_75 rfl ?_
        refine zz_irem X dX7_ofLane_76 (z := 1) (by first | rfl | omega) ⟨by omega, by omega, by omega, by omega⟩ ?_
        refine zCallI0 (zRunV (As := [.int (nZ ↑j), .int (nZ 30), .int (nZ 1)]) X mv_X7_endBy (c_X7_endBy_1 l D k _ mm ms mk mb vsv vty vth ven vsp vla vpc s j B 30 hBk hjj hCh hcost (by first | assumption | omega | exact ⟨by omega, by omega⟩)) zw_590 (zPreV hP hD hK [0, 1] rfl rfl 0 7 rfl rfl rfl) rfl hl (Nat.le_of_ble_eq_true rfl) dX7_ofLane_77 ⟨rfl, rfl, ⟨Nat.le_of_ble_eq_true rfl, Nat.le_of_ble_eq_true rfl⟩, Nat.le_of_ble_eq_true rfl, Nat.le_of_ble_eq_true rfl⟩ rfl) hS hP hD hA [0, 1] rfl (fun _ => rfl) (fun r_77_2 u_77_2 H locs hq_77_2 hP hD hS => ?_)
        obtain ⟨s2_77_2, ve2_77_2⟩ := u_77_2
        obtain ⟨rfl, hf2_77_2⟩ := hq_77_2
        try dsimp only at hf2_77_2
        have hP : va_P D vwCl [(mm, .inr (7, [.ref ms, .int (nZ vsv), .ref mk, .ref mb, .int (nZ vty), .int (nZ vth), .int (nZ ve2_77_2), .int (nZ vsp), .int (nZ vla), .int (nZ vpc)])), (ms, .inl (k 0, 900, .inl (zA s2_77_2)))] H := hP
        have hD : va_D A [(mm, .inr (7, [.ref ms, .int (nZ vsv), .ref mk, .ref mb, .int (nZ vty), .int (nZ vth), .int (nZ ve2_77_2), .int (nZ vsp), .int (nZ vla), .int (nZ vpc)])), (ms, .inl (k 0, 900, .inl (zA s2_77_2)))] := hD
        have hzs2_77_2 : blkOk s2_77_2 0 B := hBk.other hf2_77_2 (by omega)
        have hys2_77_2 : frOk s s2_77_2 810 := hf2_77_2
        refine lv_i2l (v := nL (zw32 (lastL (B.1 0) 30 (B.2 j)))) hX hB dX7_ofLane_80 (zi2l _) ?_
        refine zz_ladd X dX7_ofLane_81 ?_
        refine lv_lstore (lv' := [(4, .long (nL ((31 * ((31 * hh) + (zw32 (lastL (B.1 0) 30 (B.2 j))))) + (zw32 (lastL (B.1 0) 30 (B.2 j)))))), (6, .int (nZ 1)), (0, .ref mm), (1, .long (nL hs)), (3, .int (nZ ↑j))]) hX hB dX7_ofLane_82 hl (by decide) rfl (fun ls hl => ?_)
        refine lv_iinc (v := nZ 2) (lv' := [(6, .int (nZ 2)), (4, .long (nL ((31 * ((31 * hh) + (zw32 (lastL (B.1 0) 30 (B.2 j))))) + (zw32 (lastL (B.1 0) 30 (B.2 j)))))), (0, .ref mm), (1, .long (nL hs)), (3, .int (nZ ↑j))]) hX hB dX7_ofLane_84 hl (k := 1) rfl (zinc (by omega)) (by decide) rfl (fun ls hl => ?_)
        refine lv_goto (tgt := 48) hX hB dX7_ofLane_87 (by decide) ?_
        refine lv_iload hX hB dX7_ofLane_48 (lv_at hl 0 rfl) ?_
        refine lv_bipush (v := nZ 6) hX hB dX7_ofLane_50 (by decide) ?_
        refine zz_icmp_ge X (tgt := 90) dX7_ofLane_52 (by decide) ⟨by omega, by omega⟩ ⟨by omega, by omega⟩ (fun c_52_3 => ?_) (fun c_52_3 => ?_)
        · exfalso; omega
        · refine lv_ldc2 (v := nL 31) hX hB hW (hz _ zw_708) dX7_ofLane_55 ?_
          refine lv_lload hX hB dX7_ofLane_58 (lv_at hl 1 rfl) ?_
          refine zz_lmul X dX7_ofLane_60 ?_
          refine lv_aload_n hX hB dX7_ofLane_61 rfl (lv_at hl 2 rfl) ?_
          refine lv_iload_n hX hB dX7_ofLane_62 rfl (lv_at hl 4 rfl) ?_
          refine lv_bipush (v := nZ 30) hX hB dX7_ofLane_63 (by decide) ?_
          refine lv_bipush (v := nZ 45) hX hB dX7_ofLane_65 (by decide) ?_
          refine lv_iload hX hB dX7_ofLane_67 (lv_at hl 0 rfl) ?_
          refine lv_iconst (v := nZ 2) hX hB dX7_ofLane_69 rfl ?_
          refine zz_idiv X dX7_ofLane_70 (z := 1) (by first | rfl | omega) ⟨by omega, by omega, by omega, by omega⟩ ?_
          refine zz_imul X dX7_ofLane_71 (z := 45) (by first | rfl | omega) ?_
          refine zz_iadd X dX7_ofLane_72 (z := 75) (by first | rfl | omega) ?_
          refine lv_iload hX hB dX7_ofLane_73 (lv_at hl 0 rfl) ?_
          refine lv_iconst (v := nZ 2) hX hB dX7_ofLane_75 rfl ?_
          refine zz_irem X dX7_ofLane_76 (z := 0) (by first | rfl | omega) ⟨by omega, by omega, by omega, by omega⟩ ?_
          refine zCallI0 (zRunV (As := [.int (nZ ↑j), .int (nZ 75), .int (nZ 0)]) X mv_X7_endBy (c_X7_endBy_0 l D k _ mm ms mk mb vsv vty vth ve2_77_2 vsp vla vpc s2_77_2 j B 75 hzs2_77_2 hjj hCh hcost (by first | assumption | omega | exact ⟨by omega, by omega⟩)) zw_590 (zPreV hP hD hK [0, 1] rfl rfl 0 7 rfl rfl rfl) rfl hl (Nat.le_of_ble_eq_true rfl) dX7_ofLane_77 ⟨rfl, rfl, ⟨Nat.le_of_ble_eq_true rfl, Nat.le_of_ble_eq_true rfl⟩, Nat.le_of_ble_eq_true rfl, Nat.le_of_ble_eq_true rfl⟩ rfl) hS hP hD hA [0, 1] rfl (fun _ => rfl) (fun r_77_3 u_77_3 H locs hq_77_3 hP hD hS => ?_)
          subst hq_77_3
          have hP : va_P D vwCl [(mm, .inr (7, [.ref ms, .int (nZ vsv), .ref mk, .ref mb, .int (nZ vty), .int (nZ vth), .int (nZ ve2_77_2), .int (nZ vsp), .int (nZ vla), .int (nZ vpc)])), (ms, .inl (k 0, 900, .inl (zA s2_77_2)))] H := hP
          have hD : va_D A [(mm, .inr (7, [.ref ms, .int (nZ vsv), .ref mk, .ref mb, .int (nZ vty), .int (nZ vth), .int (nZ ve2_77_2), .int (nZ vsp), .int (nZ vla), .int (nZ vpc)])), (ms, .inl (k 0, 900, .inl (zA s2_77_2)))] := hD
          refine lv_i2l (v := nL (zw32 (lastL (B.1 0) 75 (B.2 j)))) hX hB dX7_ofLane_80 (zi2l _) ?_
          refine zz_ladd X dX7_ofLane_81 ?_
          refine lv_lstore (lv' := [(4, .long (nL ((31 * ((31 * ((31 * hh) + (zw32 (lastL (B.1 0) 30 (B.2 j))))) + (zw32 (lastL (B.1 0) 30 (B.2 j))))) + (zw32 (lastL (B.1 0) 75 (B.2 j)))))), (6, .int (nZ 2)), (0, .ref mm), (1, .long (nL hs)), (3, .int (nZ ↑j))]) hX hB dX7_ofLane_82 hl (by decide) rfl (fun ls hl => ?_)
          refine lv_iinc (v := nZ 3) (lv' := [(6, .int (nZ 3)), (4, .long (nL ((31 * ((31 * ((31 * hh) + (zw32 (lastL (B.1 0) 30 (B.2 j))))) + (zw32 (lastL (B.1 0) 30 (B.2 j))))) + (zw32 (lastL (B.1 0) 75 (B.2 j)))))), (0, .ref mm), (1, .long (nL hs)), (3, .int (nZ ↑j))]) hX hB dX7_ofLane_84 hl (k := 1) rfl (zinc (by omega)) (by decide) rfl (fun ls hl => ?_)
          refine lv_goto (tgt := 48) hX hB dX7_ofLane_87 (by decide) ?_
          refine lv_iload hX hB dX7_ofLane_48 (lv_at hl 0 rfl) ?_
          refine lv_bipush (v := nZ 6) hX hB dX7_ofLane_50 (by decide) ?_
          refine zz_icmp_ge X (tgt := 90) dX7_ofLane_52 (by decide) ⟨by omega, by omega⟩ ⟨by omega, by omega⟩ (fun c_52_4 => ?_) (fun c_52_4 => ?_)
          · exfalso; omega
          · refine lv_ldc2 (v := nL 31) hX hB hW (hz _ zw_708) dX7_ofLane_55 ?_
            refine lv_lload hX hB dX7_ofLane_58 (lv_at hl 1 rfl) ?_
            refine zz_lmul X dX7_ofLane_60 ?_
            refine lv_aload_n hX hB dX7_ofLane_61 rfl (lv_at hl 2 rfl) ?_
            refine lv_iload_n hX hB dX7_ofLane_62 rfl (lv_at hl 4 rfl) ?_
            refine lv_bipush (v := nZ 30) hX hB dX7_ofLane_63 (by decide) ?_
            refine lv_bipush (v := nZ 45) hX hB dX7_ofLane_65 (by decide) ?_
            refine lv_iload hX hB dX7_ofLane_67 (lv_at hl 0 rfl) ?_
            refine lv_iconst (v := nZ 2) hX hB dX7_ofLane_69 rfl ?_
            refine zz_idiv X dX7_ofLane_70 (z := 1) (by first | rfl | omega) ⟨by omega, by omega, by omega, by omega⟩ ?_
            refine zz_imul X dX7_ofLane_71 (z := 45) (by first | rfl | omega) ?_
            refine zz_iadd X dX7_ofLane_72 (z := 75) (by first | rfl | omega) ?_
            refine lv_iload hX hB dX7_ofLane_73 (lv_at hl 0 rfl) ?_
            refine lv_iconst (v := nZ 2) hX hB dX7_ofLane_75 rfl ?_
            refine zz_irem X dX7_ofLane_76 (z := 1) (by first | rfl | omega) ⟨by omega, by omega, by omega, by omega⟩ ?_
            refine zCallI0 (zRunV (As := [.int (nZ ↑j), .int (nZ 75), .int (nZ 1)]) X mv_X7_endBy (c_X7_endBy_1 l D k _ mm ms mk mb vsv vty vth ve2_77_2 vsp vla vpc s2_77_2 j B 75 hzs2_77_2 hjj hCh hcost (by first | assumption | omega | exact ⟨by omega, by omega⟩)) zw_590 (zPreV hP hD hK [0, 1] rfl rfl 0 7 rfl rfl rfl) rfl hl (Nat.le_of_ble_eq_true rfl) dX7_ofLane_77 ⟨rfl, rfl, ⟨Nat.le_of_ble_eq_true rfl, Nat.le_of_ble_eq_true rfl⟩, Nat.le_of_ble_eq_true rfl, Nat.le_of_ble_eq_true rfl⟩ rfl) hS hP hD hA [0, 1] rfl (fun _ => rfl) (fun r_77_4 u_77_4 H locs hq_77_4 hP hD hS => ?_)
            obtain ⟨s2_77_4, ve2_77_4⟩ := u_77_4
            obtain ⟨rfl, hf2_77_4⟩ := hq_77_4
            try dsimp only at hf2_77_4
            have hP : va_P D vwCl [(mm, .inr (7, [.ref ms, .int (nZ vsv), .ref mk, .ref mb, .int (nZ vty), .int (nZ vth), .int (nZ ve2_77_4), .int (nZ vsp), .int (nZ vla), .int (nZ vpc)])), (ms, .inl (k 0, 900, .inl (zA s2_77_4)))] H := hP
            have hD : va_D A [(mm, .inr (7, [.ref ms, .int (nZ vsv), .ref mk, .ref mb, .int (nZ vty), .int (nZ vth), .int (nZ ve2_77_4), .int (nZ vsp), .int (nZ vla), .int (nZ vpc)])), (ms, .inl (k 0, 900, .inl (zA s2_77_4)))] := hD
            have hzs2_77_4 : blkOk s2_77_4 0 B := hzs2_77_2.other hf2_77_4 (by omega)
            have hys2_77_4 : frOk s s2_77_4 810 := hys2_77_2.trans hf2_77_4
            refine lv_i2l (v := nL (zw32 (lastL (B.1 0) 75 (B.2 j)))) hX hB dX7_ofLane_80 (zi2l _) ?_
            refine zz_ladd X dX7_ofLane_81 ?_
            refine lv_lstore (lv' := [(4, .long (nL ((31 * ((31 * ((31 * ((31 * hh) + (zw32 (lastL (B.1 0) 30 (B.2 j))))) + (zw32 (lastL (B.1 0) 30 (B.2 j))))) + (zw32 (lastL (B.1 0) 75 (B.2 j))))) + (zw32 (lastL (B.1 0) 75 (B.2 j)))))), (6, .int (nZ 3)), (0, .ref mm), (1, .long (nL hs)), (3, .int (nZ ↑j))]) hX hB dX7_ofLane_82 hl (by decide) rfl (fun ls hl => ?_)
            refine lv_iinc (v := nZ 4) (lv' := [(6, .int (nZ 4)), (4, .long (nL ((31 * ((31 * ((31 * ((31 * hh) + (zw32 (lastL (B.1 0) 30 (B.2 j))))) + (zw32 (lastL (B.1 0) 30 (B.2 j))))) + (zw32 (lastL (B.1 0) 75 (B.2 j))))) + (zw32 (lastL (B.1 0) 75 (B.2 j)))))), (0, .ref mm), (1, .long (nL hs)), (3, .int (nZ ↑j))]) hX hB dX7_ofLane_84 hl (k := 1) rfl (zinc (by omega)) (by decide) rfl (fun ls hl => ?_)
            refine lv_goto (tgt := 48) hX hB dX7_ofLane_87 (by decide) ?_
            refine lv_iload hX hB dX7_ofLane_48 (lv_at hl 0 rfl) ?_
            refine lv_bipush (v := nZ 6) hX hB dX7_ofLane_50 (by decide) ?_
            refine zz_icmp_ge X (tgt := 90) dX7_ofLane_52 (by decide) ⟨by omega, by omega⟩ ⟨by omega, by omega⟩ (fun c_52_5 => ?_) (fun c_52_5 => ?_)
            · exfalso; omega
            · refine lv_ldc2 (v := nL 31) hX hB hW (hz _ zw_708) dX7_ofLane_55 ?_
              refine lv_lload hX hB dX7_ofLane_58 (lv_at hl 1 rfl) ?_
              refine zz_lmul X dX7_ofLane_60 ?_
              refine lv_aload_n hX hB dX7_ofLane_61 rfl (lv_at hl 2 rfl) ?_
              refine lv_iload_n hX hB dX7_ofLane_62 rfl (lv_at hl 4 rfl) ?_
              refine lv_bipush (v := nZ 30) hX hB dX7_ofLane_63 (by decide) ?_
              refine lv_bipush (v := nZ 45) hX hB dX7_ofLane_65 (by decide) ?_
              refine lv_iload hX hB dX7_ofLane_67 (lv_at hl 0 rfl) ?_
              refine lv_iconst (v := nZ 2) hX hB dX7_ofLane_69 rfl ?_
              refine zz_idiv X dX7_ofLane_70 (z := 2) (by first | rfl | omega) ⟨by omega, by omega, by omega, by omega⟩ ?_
              refine zz_imul X dX7_ofLane_71 (z := 90) (by first | rfl | omega) ?_
              refine zz_iadd X dX7_ofLane_72 (z := 120) (by first | rfl | omega) ?_
              refine lv_iload hX hB dX7_ofLane_73 (lv_at hl 0 rfl) ?_
              refine lv_iconst (v := nZ 2) hX hB dX7_ofLane_75 rfl ?_
              refine zz_irem X dX7_ofLane_76 (z := 0) (by first | rfl | omega) ⟨by omega, by omega, by omega, by omega⟩ ?_
              refine zCallI0 (zRunV (As := [.int (nZ ↑j), .int (nZ 120), .int (nZ 0)]) X mv_X7_endBy (c_X7_endBy_0 l D k _ mm ms mk mb vsv vty vth ve2_77_4 vsp vla vpc s2_77_4 j B 120 hzs2_77_4 hjj hCh hcost (by first | assumption | omega | exact ⟨by omega, by omega⟩)) zw_590 (zPreV hP hD hK [0, 1] rfl rfl 0 7 rfl rfl rfl) rfl hl (Nat.le_of_ble_eq_true rfl) dX7_ofLane_77 ⟨rfl, rfl, ⟨Nat.le_of_ble_eq_true rfl, Nat.le_of_ble_eq_true rfl⟩, Nat.le_of_ble_eq_true rfl, Nat.le_of_ble_eq_true rfl⟩ rfl) hS hP hD hA [0, 1] rfl (fun _ => rfl) (fun r_77_5 u_77_5 H locs hq_77_5 hP hD hS => ?_)
              subst hq_77_5
              have hP : va_P D vwCl [(mm, .inr (7, [.ref ms, .int (nZ vsv), .ref mk, .ref mb, .int (nZ vty), .int (nZ vth), .int (nZ ve2_77_4), .int (nZ vsp), .int (nZ vla), .int (nZ vpc)])), (ms, .inl (k 0, 900, .inl (zA s2_77_4)))] H := hP
              have hD : va_D A [(mm, .inr (7, [.ref ms, .int (nZ vsv), .ref mk, .ref mb, .int (nZ vty), .int (nZ vth), .int (nZ ve2_77_4), .int (nZ vsp), .int (nZ vla), .int (nZ vpc)])), (ms, .inl (k 0, 900, .inl (zA s2_77_4)))] := hD
              refine lv_i2l (v := nL (zw32 (lastL (B.1 0) 120 (B.2 j)))) hX hB dX7_ofLane_80 (zi2l _) ?_
              refine zz_ladd X dX7_ofLane_81 ?_
              refine lv_lstore (lv' := [(4, .long (nL ((31 * ((31 * ((31 * ((31 * ((31 * hh) + (zw32 (lastL (B.1 0) 30 (B.2 j))))) + (zw32 (lastL (B.1 0) 30 (B.2 j))))) + (zw32 (lastL (B.1 0) 75 (B.2 j))))) + (zw32 (lastL (B.1 0) 75 (B.2 j))))) + (zw32 (lastL (B.1 0) 120 (B.2 j)))))), (6, .int (nZ 4)), (0, .ref mm), (1, .long (nL hs)), (3, .int (nZ ↑j))]) hX hB dX7_ofLane_82 hl (by decide) rfl (fun ls hl => ?_)
              refine lv_iinc (v := nZ 5) (lv' := [(6, .int (nZ 5)), (4, .long (nL ((31 * ((31 * ((31 * ((31 * ((31 * hh) + (zw32 (lastL (B.1 0) 30 (B.2 j))))) + (zw32 (lastL (B.1 0) 30 (B.2 j))))) + (zw32 (lastL (B.1 0) 75 (B.2 j))))) + (zw32 (lastL (B.1 0) 75 (B.2 j))))) + (zw32 (lastL (B.1 0) 120 (B.2 j)))))), (0, .ref mm), (1, .long (nL hs)), (3, .int (nZ ↑j))]) hX hB dX7_ofLane_84 hl (k := 1) rfl (zinc (by omega)) (by decide) rfl (fun ls hl => ?_)
              refine lv_goto (tgt := 48) hX hB dX7_ofLane_87 (by decide) ?_
              refine lv_iload hX hB dX7_ofLane_48 (lv_at hl 0 rfl) ?_
              refine lv_bipush (v := nZ 6) hX hB dX7_ofLane_50 (by decide) ?_
              refine zz_icmp_ge X (tgt := 90) dX7_ofLane_52 (by decide) ⟨by omega, by omega⟩ ⟨by omega, by omega⟩ (fun c_52_6 => ?_) (fun c_52_6 => ?_)
              · exfalso; omega
              · refine lv_ldc2 (v := nL 31) hX hB hW (hz _ zw_708) dX7_ofLane_55 ?_
                refine lv_lload hX hB dX7_ofLane_58 (lv_at hl 1 rfl) ?_
                refine zz_lmul X dX7_ofLane_60 ?_
                refine lv_aload_n hX hB dX7_ofLane_61 rfl (lv_at hl 2 rfl) ?_
                refine lv_iload_n hX hB dX7_ofLane_62 rfl (lv_at hl 4 rfl) ?_
                refine lv_bipush (v := nZ 30) hX hB dX7_ofLane_63 (by decide) ?_
                refine lv_bipush (v := nZ 45) hX hB dX7_ofLane_65 (by decide) ?_
                refine lv_iload hX hB dX7_ofLane_67 (lv_at hl 0 rfl) ?_
                refine lv_iconst (v := nZ 2) hX hB dX7_ofLane_69 rfl ?_
                refine zz_idiv X dX7_ofLane_70 (z := 2) (by first | rfl | omega) ⟨by omega, by omega, by omega, by omega⟩ ?_
                refine zz_imul X dX7_ofLane_71 (z := 90) (by first | rfl | omega) ?_
                refine zz_iadd X dX7_ofLane_72 (z := 120) (by first | rfl | omega) ?_
                refine lv_iload hX hB dX7_ofLane_73 (lv_at hl 0 rfl) ?_
                refine lv_iconst (v := nZ 2) hX hB dX7_ofLane_75 rfl ?_
                refine zz_irem X dX7_ofLane_76 (z := 1) (by first | rfl | omega) ⟨by omega, by omega, by omega, by omega⟩ ?_
                refine zCallI0 (zRunV (As := [.int (nZ ↑j), .int (nZ 120), .int (nZ 1)]) X mv_X7_endBy (c_X7_endBy_1 l D k _ mm ms mk mb vsv vty vth ve2_77_4 vsp vla vpc s2_77_4 j B 120 hzs2_77_4 hjj hCh hcost (by first | assumption | omega | exact ⟨by omega, by omega⟩)) zw_590 (zPreV hP hD hK [0, 1] rfl rfl 0 7 rfl rfl rfl) rfl hl (Nat.le_of_ble_eq_true rfl) dX7_ofLane_77 ⟨rfl, rfl, ⟨Nat.le_of_ble_eq_true rfl, Nat.le_of_ble_eq_true rfl⟩, Nat.le_of_ble_eq_true rfl, Nat.le_of_ble_eq_true rfl⟩ rfl) hS hP hD hA [0, 1] rfl (fun _ => rfl) (fun r_77_6 u_77_6 H locs hq_77_6 hP hD hS => ?_)
                obtain ⟨s2_77_6, ve2_77_6⟩ := u_77_6
                obtain ⟨rfl, hf2_77_6⟩ := hq_77_6
                try dsimp only at hf2_77_6
                have hP : va_P D vwCl [(mm, .inr (7, [.ref ms, .int (nZ vsv), .ref mk, .ref mb, .int (nZ vty), .int (nZ vth), .int (nZ ve2_77_6), .int (nZ vsp), .int (nZ vla), .int (nZ vpc)])), (ms, .inl (k 0, 900, .inl (zA s2_77_6)))] H := hP
                have hD : va_D A [(mm, .inr (7, [.ref ms, .int (nZ vsv), .ref mk, .ref mb, .int (nZ vty), .int (nZ vth), .int (nZ ve2_77_6), .int (nZ vsp), .int (nZ vla), .int (nZ vpc)])), (ms, .inl (k 0, 900, .inl (zA s2_77_6)))] := hD
                have hzs2_77_6 : blkOk s2_77_6 0 B := hzs2_77_4.other hf2_77_6 (by omega)
                have hys2_77_6 : frOk s s2_77_6 810 := hys2_77_4.trans hf2_77_6
                refine lv_i2l (v := nL (zw32 (lastL (B.1 0) 120 (B.2 j)))) hX hB dX7_ofLane_80 (zi2l _) ?_
                refine zz_ladd X dX7_ofLane_81 ?_
                refine lv_lstore (lv' := [(4, .long (nL ((31 * ((31 * ((31 * ((31 * ((31 * ((31 * hh) + (zw32 (lastL (B.1 0) 30 (B.2 j))))) + (zw32 (lastL (B.1 0) 30 (B.2 j))))) + (zw32 (lastL (B.1 0) 75 (B.2 j))))) + (zw32 (lastL (B.1 0) 75 (B.2 j))))) + (zw32 (lastL (B.1 0) 120 (B.2 j))))) + (zw32 (lastL (B.1 0) 120 (B.2 j)))))), (6, .int (nZ 5)), (0, .ref mm), (1, .long (nL hs)), (3, .int (nZ ↑j))]) hX hB dX7_ofLane_82 hl (by decide) rfl (fun ls hl => ?_)
                refine lv_iinc (v := nZ 6) (lv' := [(6, .int (nZ 6)), (4, .long (nL ((31 * ((31 * ((31 * ((31 * ((31 * ((31 * hh) + (zw32 (lastL (B.1 0) 30 (B.2 j))))) + (zw32 (lastL (B.1 0) 30 (B.2 j))))) + (zw32 (lastL (B.1 0) 75 (B.2 j))))) + (zw32 (lastL (B.1 0) 75 (B.2 j))))) + (zw32 (lastL (B.1 0) 120 (B.2 j))))) + (zw32 (lastL (B.1 0) 120 (B.2 j)))))), (0, .ref mm), (1, .long (nL hs)), (3, .int (nZ ↑j))]) hX hB dX7_ofLane_84 hl (k := 1) rfl (zinc (by omega)) (by decide) rfl (fun ls hl => ?_)
                refine lv_goto (tgt := 48) hX hB dX7_ofLane_87 (by decide) ?_
                refine lv_iload hX hB dX7_ofLane_48 (lv_at hl 0 rfl) ?_
                refine lv_bipush (v := nZ 6) hX hB dX7_ofLane_50 (by decide) ?_
                refine zz_icmp_ge X (tgt := 90) dX7_ofLane_52 (by decide) ⟨by omega, by omega⟩ ⟨by omega, by omega⟩ (fun c_52_7 => ?_) (fun c_52_7 => ?_)
                · refine lv_ldc2 (v := nL 31) hX hB hW (hz _ zw_708) dX7_ofLane_90 ?_
                  refine lv_lload hX hB dX7_ofLane_93 (lv_at hl 1 rfl) ?_
                  refine zz_lmul X dX7_ofLane_95 ?_
                  refine lv_aload_n hX hB dX7_ofLane_96 rfl (lv_at hl 2 rfl) ?_
                  refine lv_iload_n hX hB dX7_ofLane_97 rfl (lv_at hl 4 rfl) ?_
                  refine lv_bipush (v := nZ 50) hX hB dX7_ofLane_98 (by decide) ?_
                  refine zCallI0 (zRunV (As := [.int (nZ ↑j), .int (nZ 50)]) X mv_X7_cleanBehind (c_X7_cleanBehind l D k _ mm ms mk mb vsv vty vth ve2_77_6 vsp vla vpc s2_77_6 j B 50 hzs2_77_6 hjj hCh hcost (by first | assumption | omega | exact ⟨by omega, by omega⟩)) zw_613 (zPreV hP hD hK [0, 1] rfl rfl 0 7 rfl rfl rfl) rfl hl (Nat.le_of_ble_eq_true rfl) dX7_ofLane_100 ⟨rfl, rfl, ⟨Nat.le_of_ble_eq_true rfl, Nat.le_of_ble_eq_true rfl⟩, Nat.le_of_ble_eq_true rfl, Nat.le_of_ble_eq_true rfl⟩ rfl) hS hP hD hA [0, 1] rfl (fun _ => rfl) (fun r_100 u_100 H locs hq_100 hP hD hS => ?_)
                  obtain ⟨s2_100, ve2_100⟩ := u_100
                  obtain ⟨rfl, hf2_100⟩ := hq_100
                  try dsimp only at hf2_100
                  have hP : va_P D vwCl [(mm, .inr (7, [.ref ms, .int (nZ vsv), .ref mk, .ref mb, .int (nZ vty), .int (nZ vth), .int (nZ ve2_100), .int (nZ vsp), .int (nZ vla), .int (nZ vpc)])), (ms, .inl (k 0, 900, .inl (zA s2_100)))] H := hP
                  have hD : va_D A [(mm, .inr (7, [.ref ms, .int (nZ vsv), .ref mk, .ref mb, .int (nZ vty), .int (nZ vth), .int (nZ ve2_100), .int (nZ vsp), .int (nZ vla), .int (nZ vpc)])), (ms, .inl (k 0, 900, .inl (zA s2_100)))] := hD
                  have hzs2_100 : blkOk s2_100 0 B := hzs2_77_6.other hf2_100 (by omega)
                  have hys2_100 : frOk s s2_100 810 := hys2_77_6.trans hf2_100
                  refine lv_i2l (v := nL (zw32 (cleanAllB (push0 B j 50)))) hX hB dX7_ofLane_103 (zi2l _) ?_
                  refine zz_ladd X dX7_ofLane_104 ?_
                  refine lv_lstore (lv' := [(4, .long (nL ((31 * ((31 * ((31 * ((31 * ((31 * ((31 * ((31 * hh) + (zw32 (lastL (B.1 0) 30 (B.2 j))))) + (zw32 (lastL (B.1 0) 30 (B.2 j))))) + (zw32 (lastL (B.1 0) 75 (B.2 j))))) + (zw32 (lastL (B.1 0) 75 (B.2 j))))) + (zw32 (lastL (B.1 0) 120 (B.2 j))))) + (zw32 (lastL (B.1 0) 120 (B.2 j))))) + (zw32 (cleanAllB (push0 B j 50)))))), (6, .int (nZ 6)), (0, .ref mm), (1, .long (nL hs)), (3, .int (nZ ↑j))]) hX hB dX7_ofLane_105 hl (by decide) rfl (fun ls hl => ?_)
                  refine lv_ldc2 (v := nL 31) hX hB hW (hz _ zw_708) dX7_ofLane_107 ?_
                  refine lv_lload hX hB dX7_ofLane_110 (lv_at hl 0 rfl) ?_
                  refine zz_lmul X dX7_ofLane_112 ?_
                  refine lv_aload_n hX hB dX7_ofLane_113 rfl (lv_at hl 2 rfl) ?_
                  refine lv_iload_n hX hB dX7_ofLane_114 rfl (lv_at hl 4 rfl) ?_
                  refine lv_bipush (v := nZ 100) hX hB dX7_ofLane_115 (by decide) ?_
                  refine zCallI0 (zRunV (As := [.int (nZ ↑j), .int (nZ 100)]) X mv_X7_cleanBehind (c_X7_cleanBehind l D k _ mm ms mk mb vsv vty vth ve2_100 vsp vla vpc s2_100 j B 100 hzs2_100 hjj hCh hcost (by first | assumption | omega | exact ⟨by omega, by omega⟩)) zw_613 (zPreV hP hD hK [0, 1] rfl rfl 0 7 rfl rfl rfl) rfl hl (Nat.le_of_ble_eq_true rfl) dX7_ofLane_117 ⟨rfl, rfl, ⟨Nat.le_of_ble_eq_true rfl, Nat.le_of_ble_eq_true rfl⟩, Nat.le_of_ble_eq_true rfl, Nat.le_of_ble_eq_true rfl⟩ rfl) hS hP hD hA [0, 1] rfl (fun _ => rfl) (fun r_117 u_117 H locs hq_117 hP hD hS => ?_)
                  obtain ⟨s2_117, ve2_117⟩ := u_117
                  obtain ⟨rfl, hf2_117⟩ := hq_117
                  try dsimp only at hf2_117
                  have hP : va_P D vwCl [(mm, .inr (7, [.ref ms, .int (nZ vsv), .ref mk, .ref mb, .int (nZ vty), .int (nZ vth), .int (nZ ve2_117), .int (nZ vsp), .int (nZ vla), .int (nZ vpc)])), (ms, .inl (k 0, 900, .inl (zA s2_117)))] H := hP
                  have hD : va_D A [(mm, .inr (7, [.ref ms, .int (nZ vsv), .ref mk, .ref mb, .int (nZ vty), .int (nZ vth), .int (nZ ve2_117), .int (nZ vsp), .int (nZ vla), .int (nZ vpc)])), (ms, .inl (k 0, 900, .inl (zA s2_117)))] := hD
                  have hzs2_117 : blkOk s2_117 0 B := hzs2_100.other hf2_117 (by omega)
                  have hys2_117 : frOk s s2_117 810 := hys2_100.trans hf2_117
                  refine lv_i2l (v := nL (zw32 (cleanAllB (push0 B j 100)))) hX hB dX7_ofLane_120 (zi2l _) ?_
                  refine zz_ladd X dX7_ofLane_121 ?_
                  exact zRetL (s2_117, ve2_117) X hP hD hS rfl ⟨congrArg nL (by unfold laneB laneH hm; rw [hq9, push0_all hjj, push0_all hjj]), (by assumption)⟩ dX7_ofLane_122
                · exfalso; omega
  · refine lv_ldc2 (v := nL 31) hX hB hW (hz _ zw_708) dX7_ofLane_21 ?_
    refine lv_lload hX hB dX7_ofLane_24 (lv_at hl 3 rfl) ?_
    refine zz_lmul X dX7_ofLane_26 ?_
    refine lv_aload_n hX hB dX7_ofLane_27 rfl (lv_at hl 0 rfl) ?_
    refine lv_iconst (v := nZ 0) hX hB dX7_ofLane_28 rfl ?_
    refine lv_iload_n hX hB dX7_ofLane_29 rfl (lv_at hl 2 rfl) ?_
    refine lv_iload hX hB dX7_ofLane_30 (lv_at hl 4 rfl) ?_
    refine zCallI0 (zRunV (As := [.int (nZ 0), .int (nZ ↑j), .int (nZ ↑r)]) X mv_X7_coinAt (c_X7_coinAt l D k _ mm ms mk mb vsv vty vth ven vsp vla vpc s 0 j B r (B.2 j) hBk (by first | assumption | omega | exact ⟨by omega, by omega⟩) hjj hLB (by first | assumption | omega | exact ⟨by omega, by omega⟩)) zw_268 (zPreV hP hD hK [0, 1] rfl rfl 0 7 rfl rfl rfl) rfl hl (Nat.le_of_ble_eq_true rfl) dX7_ofLane_32 ⟨rfl, rfl, ⟨Nat.le_of_ble_eq_true rfl, Nat.le_of_ble_eq_true rfl⟩, Nat.le_of_ble_eq_true rfl, Nat.le_of_ble_eq_true rfl⟩ rfl) hS hP hD hA [0, 1] rfl (fun _ => rfl) (fun r_32 u_32 H locs hq_32 hP hD hS => ?_)
    subst hq_32
    have hP : va_P D vwCl [(mm, .inr (7, [.ref ms, .int (nZ vsv), .ref mk, .ref mb, .int (nZ vty), .int (nZ vth), .int (nZ ven), .int (nZ vsp), .int (nZ vla), .int (nZ vpc)])), (ms, .inl (k 0, 900, .inl (zA s)))] H := hP
    have hD : va_D A [(mm, .inr (7, [.ref ms, .int (nZ vsv), .ref mk, .ref mb, .int (nZ vty), .int (nZ vth), .int (nZ ven), .int (nZ vsp), .int (nZ vla), .int (nZ vpc)])), (ms, .inl (k 0, 900, .inl (zA s)))] := hD
    refine lv_i2l (v := nL (zw32 (coinS (B.2 j) r))) hX hB dX7_ofLane_35 (zi2l _) ?_
    refine zz_ladd X dX7_ofLane_36 ?_
    refine lv_lstore (lv' := [(4, .long (nL ((31 * hh) + (zw32 (coinS (B.2 j) r))))), (0, .ref mm), (1, .long (nL hs)), (3, .int (nZ ↑j)), (6, .int (nZ ↑r))]) hX hB dX7_ofLane_37 hl (by decide) rfl (fun ls hl => ?_)
    refine lv_iinc (v := nZ (↑(r + 1) : Int)) (lv' := [(6, .int (nZ (↑(r + 1) : Int))), (4, .long (nL ((31 * hh) + (zw32 (coinS (B.2 j) r))))), (0, .ref mm), (1, .long (nL hs)), (3, .int (nZ ↑j))]) hX hB dX7_ofLane_39 hl (k := 4) rfl (zinc (by omega)) (by decide) rfl (fun ls hl => ?_)
    refine lv_goto (tgt := 6) hX hB dX7_ofLane_42 (by decide) ?_
    exact ih_6 ((r + 1), ((31 * hh) + (zw32 (coinS (B.2 j) r)))) _ _ _ ⟨(by first | omega | assumption | rfl), (by rw [hq, hashL_step (by omega), ← coinS_lt (by omega)]; rfl), hP, hD, hS, (lv_sub hl [2, 3, 4, 1, 0] rfl)⟩ (by dsimp only; omega)
