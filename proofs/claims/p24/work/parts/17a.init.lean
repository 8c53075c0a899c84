theorem mi_X2_init : zMI yX2_init cX2_init 1 0 := ⟨zw_49, zw_44, ⟨by decide +kernel, by decide +kernel, by decide +kernel⟩, zw_48, rfl⟩
theorem mi_X3_init : zMI yX3_init cX3_init 1 0 := ⟨zw_40, zw_28, ⟨by decide +kernel, by decide +kernel, by decide +kernel⟩, zw_39, rfl⟩
theorem mi_X0_init : zMI yX0_init cX0_init 1 0 := ⟨zw_33, zw_11, ⟨by decide +kernel, by decide +kernel, by decide +kernel⟩, zw_32, rfl⟩
theorem mi_X5_init : zMI yX5_init cX5_init 1 0 := ⟨zw_62, zw_24, ⟨by decide +kernel, by decide +kernel, by decide +kernel⟩, zw_61, rfl⟩
theorem mi_X1_init : zMI yX1_init cX1_init 1 0 := ⟨zw_58, zw_20, ⟨by decide +kernel, by decide +kernel, by decide +kernel⟩, zw_57, rfl⟩
theorem mi_X4_init : zMI yX4_init cX4_init 1 0 := ⟨zw_53, zw_16, ⟨by decide +kernel, by decide +kernel, by decide +kernel⟩, zw_52, rfl⟩
theorem mv_X4_stateAt : zMV yX4_stateAt cX4_stateAt 4 (some (.object "ShoveBeds$Board")) 1 := ⟨zw_254, zw_16, ⟨by decide +kernel, by decide +kernel, by decide +kernel⟩, zw_252, zw_253⟩
theorem mv_X4_add : zMV yX4_add cX4_add 3 none 1 := ⟨zw_248, zw_16, ⟨by decide +kernel, by decide +kernel, by decide +kernel⟩, zw_246, zw_247⟩
theorem mv_X4_takeLatest : zMV yX4_takeLatest cX4_takeLatest 2 none 1 := ⟨zw_311, zw_16, ⟨by decide +kernel, by decide +kernel, by decide +kernel⟩, zw_309, zw_310⟩
set_option maxHeartbeats 4000000 in
set_option maxRecDepth 100000 in
theorem c_X2_init (l : Launch) (D : va_G) (k : Nat → ClassId) (sz : Nat) (a : Nat)  : Met l yX2_init (zW yX2_init cX2_init 1 none) ({ frames := 1, cells := 1, slots := 21, locals := 12 } : Room) (va_Pc [.ref a] (zIn D k sz [(a, .inr (2, [.null, .int (nZ 0)]))])) (va_Qv (fun (uz : Nat) => True) (fun (uz : Nat) => zOut D (va_A [(a, .inr (2, [.null, .int (nZ 0)]))] sz) [(a, .inr (2, [.ref uz, .int (nZ 0)])), (uz, .inl (k 0, 21, .inl (zA (fun _ => 0))))]) (va_A [(a, .inr (2, [.null, .int (nZ 0)]))] sz)) 1 21 (va_A [(a, .inr (2, [.null, .int (nZ 0)]))] sz) := by
  refine zEnter (Qf := fun A => va_Qv (fun (uz : Nat) => True) (fun (uz : Nat) => zOut D A [(a, .inr (2, [.ref uz, .int (nZ 0)])), (uz, .inl (k 0, 21, .inl (zA (fun _ => 0))))]) A) RX2 (by decide) rfl (Nat.le_of_ble_eq_true rfl) ?_
  intro p9 e9 s9 m9 be9 me9 c9 ls A X hin hP hD hS hA hAe hl
  have hX := X.1; have hB := X.2.1; have hz := X.2.2.2.2.1; have hW := X.2.2.2.2.2.1; have hK := X.2.2.2.2.2.2.2; clear hAe
  have hl : lv_has ls 1 [(0, .ref a)] := hl
  refine lv_aload_n hX hB dX2_init_0 rfl (lv_at hl 0 rfl) ?_
  refine W.objInit hX hB hW (hz _ zw_50) (hz _ zw_7) (hz _ zw_8) rfl (by rw [X.2.2.2.1]; exact hl.1) rfl dX2_init_1 (Nat.le_of_ble_eq_true rfl) (Nat.le_of_ble_eq_true rfl) ?_
  refine W.eq (g2 := F0 m9 4 ls []) rfl ?_
  refine lv_aload_n hX hB dX2_init_4 rfl (lv_at hl 0 rfl) ?_
  refine lv_bipush (v := nZ 21) hX hB dX2_init_5 (by decide) ?_
  refine zz_newa_int X hP hD hS hA (hz _ zw_30) 21 (by decide) (Nat.le_of_ble_eq_true rfl) (Nat.le_of_ble_eq_true rfl) dX2_init_7 (fun q7 H hP hD hS => ?_)
  have hP : va_P D vwCl [(a, .inr (2, [.null, .int (nZ 0)])), (q7, .inl (k 0, 21, .inl (zA (fun _ => 0))))] H := hP
  have hD : va_D A [(a, .inr (2, [.null, .int (nZ 0)])), (q7, .inl (k 0, 21, .inl (zA (fun _ => 0))))] := hD
  refine W.widen (k := 1) (n := 21) (by decide) (by decide) ?_
  refine va_putF (v := .ref q7) (ty := tyX2 0) hX hB hz inlX2 tyX2 tyX2_ok nmX2 hW hK.1 hP hD hS 0 rfl rfl 0 (by decide) (hz _ zw_51) (fun _ h9 => h9) rfl (hin rfl) rfl (by decide +kernel) rfl rfl (Nat.le_of_ble_eq_true rfl) dX2_init_9 (fun H locs hP hD hS => ?_)
  have hP : va_P D vwCl [(a, .inr (2, [.ref q7, .int (nZ 0)])), (q7, .inl (k 0, 21, .inl (zA (fun _ => 0))))] H := hP
  have hD : va_D A [(a, .inr (2, [.ref q7, .int (nZ 0)])), (q7, .inl (k 0, 21, .inl (zA (fun _ => 0))))] := hD
  exact zRetV q7 X hP hD hS rfl trivial dX2_init_12
set_option maxHeartbeats 4000000 in
set_option maxRecDepth 100000 in
theorem c_X3_init (l : Launch) (D : va_G) (k : Nat → ClassId) (sz : Nat) (la : Nat)  : Met l yX3_init (zW yX3_init cX3_init 1 none) ({ frames := 2, cells := 6, slots := 69, locals := 32 } : Room) (va_Pc [.ref la] (zIn D k sz [(la, .inr (3, [.null, .null, .null]))])) (va_Qv (fun (uz : Nat × Nat × Nat × Nat × Nat × Nat) => True) (fun (uz : Nat × Nat × Nat × Nat × Nat × Nat) => zOut D (va_A [(la, .inr (3, [.null, .null, .null]))] sz) [(la, .inr (3, [.ref uz.1, .ref uz.2.1, .ref uz.2.2.1])), (uz.1, .inr (2, [.ref uz.2.2.2.1, .int (nZ 0)])), (uz.2.2.2.1, .inl (k 0, 21, .inl (zA (fun _ => 0)))), (uz.2.1, .inr (2, [.ref uz.2.2.2.2.1, .int (nZ 0)])), (uz.2.2.2.2.1, .inl (k 0, 21, .inl (zA (fun _ => 0)))), (uz.2.2.1, .inr (2, [.ref uz.2.2.2.2.2, .int (nZ 0)])), (uz.2.2.2.2.2, .inl (k 0, 21, .inl (zA (fun _ => 0))))]) (va_A [(la, .inr (3, [.null, .null, .null]))] sz)) 6 69 (va_A [(la, .inr (3, [.null, .null, .null]))] sz) := by
  refine zEnter (Qf := fun A => va_Qv (fun (uz : Nat × Nat × Nat × Nat × Nat × Nat) => True) (fun (uz : Nat × Nat × Nat × Nat × Nat × Nat) => zOut D A [(la, .inr (3, [.ref uz.1, .ref uz.2.1, .ref uz.2.2.1])), (uz.1, .inr (2, [.ref uz.2.2.2.1, .int (nZ 0)])), (uz.2.2.2.1, .inl (k 0, 21, .inl (zA (fun _ => 0)))), (uz.2.1, .inr (2, [.ref uz.2.2.2.2.1, .int (nZ 0)])), (uz.2.2.2.2.1, .inl (k 0, 21, .inl (zA (fun _ => 0)))), (uz.2.2.1, .inr (2, [.ref uz.2.2.2.2.2, .int (nZ 0)])), (uz.2.2.2.2.2, .inl (k 0, 21, .inl (zA (fun _ => 0))))]) A) RX3 (by decide) rfl (Nat.le_of_ble_eq_true rfl) ?_
  intro p9 e9 s9 m9 be9 me9 c9 ls A X hin hP hD hS hA hAe hl
  have hX := X.1; have hB := X.2.1; have hz := X.2.2.2.2.1; have hW := X.2.2.2.2.2.1; have hK := X.2.2.2.2.2.2.2; clear hAe
  have hl : lv_has ls 1 [(0, .ref la)] := hl
  refine lv_aload_n hX hB dX3_init_0 rfl (lv_at hl 0 rfl) ?_
  refine W.objInit hX hB hW (hz _ zw_41) (hz _ zw_7) (hz _ zw_8) rfl (by rw [X.2.2.2.1]; exact hl.1) rfl dX3_init_1 (Nat.le_of_ble_eq_true rfl) (Nat.le_of_ble_eq_true rfl) ?_
  refine W.eq (g2 := F0 m9 4 ls []) rfl ?_
  refine lv_aload_n hX hB dX3_init_4 rfl (lv_at hl 0 rfl) ?_
  refine va_new (ci := 2) (fs := [.null, .int (nZ 0)]) (C := RX2) (T := TX2) (N := 2) hX hB hz inlX2 tyX2 tyX2_ok hW (hz _ zw_42) (hz _ zw_43) (hz _ zw_44) hK.1 hP hD hS hA rfl zdefX2 (Nat.le_of_ble_eq_true rfl) (Nat.le_of_ble_eq_true rfl) dX3_init_5 (fun q5 H hP hD hS => ?_)
  have hP : va_P D vwCl [(la, .inr (3, [.null, .null, .null])), (q5, .inr (2, [.null, .int (nZ 0)]))] H := hP
  have hD : va_D A [(la, .inr (3, [.null, .null, .null])), (q5, .inr (2, [.null, .int (nZ 0)]))] := hD
  refine W.widen (k := 1) (n := 2) (by decide) (by decide) ?_
  refine lv_dup hX hB dX3_init_8 rfl ?_
  refine zCallV (w1 := fun (uz : Nat) => ([(q5, .inr (2, [.ref uz, .int (nZ 0)]))] : va_W)) (wn := fun (uz : Nat) => ([(uz, .inl (k 0, 21, .inl (zA (fun _ => 0))))] : va_W)) (zRunIN (As := []) X mi_X2_init (c_X2_init l D k _ q5 ) (zn_X3_9 hK.2.1) (zPreS hP hD hK [1] rfl rfl) rfl hl (Nat.le_of_ble_eq_true rfl) dX3_init_9 ⟨rfl, rfl, ⟨Nat.le_of_ble_eq_true rfl, Nat.le_of_ble_eq_true rfl⟩, Nat.le_of_ble_eq_true rfl, Nat.le_of_ble_eq_true rfl⟩ rfl) hS hP hD hA [1] rfl (fun _ => rfl) (fun u_9 H locs hq_9 hP hD hS => ?_)
  obtain ⟨q_9, e9⟩ : ∃ z9, z9 = u_9 := ⟨_, rfl⟩; subst e9
  have hP : va_P D vwCl [(la, .inr (3, [.null, .null, .null])), (q5, .inr (2, [.ref q_9, .int (nZ 0)])), (q_9, .inl (k 0, 21, .inl (zA (fun _ => 0))))] H := hP
  have hD : va_D A [(la, .inr (3, [.null, .null, .null])), (q5, .inr (2, [.ref q_9, .int (nZ 0)])), (q_9, .inl (k 0, 21, .inl (zA (fun _ => 0))))] := hD
  refine W.widen (k := 2) (n := 23) (by decide) (by decide) ?_
  refine va_putF (v := .ref q5) (ty := tyX3 0) hX hB hz inlX3 tyX3 tyX3_ok nmX3 hW hK.1 hP hD hS 0 rfl rfl 0 (by decide) (hz _ zw_45) (fun _ h9 => h9) rfl (hin rfl) rfl (by decide +kernel) rfl rfl (Nat.le_of_ble_eq_true rfl) dX3_init_12 (fun H locs hP hD hS => ?_)
  have hP : va_P D vwCl [(la, .inr (3, [.ref q5, .null, .null])), (q5, .inr (2, [.ref q_9, .int (nZ 0)])), (q_9, .inl (k 0, 21, .inl (zA (fun _ => 0))))] H := hP
  have hD : va_D A [(la, .inr (3, [.ref q5, .null, .null])), (q5, .inr (2, [.ref q_9, .int (nZ 0)])), (q_9, .inl (k 0, 21, .inl (zA (fun _ => 0))))] := hD
  refine lv_aload_n hX hB dX3_init_15 rfl (lv_at hl 0 rfl) ?_
  refine va_new (ci := 2) (fs := [.null, .int (nZ 0)]) (C := RX2) (T := TX2) (N := 2) hX hB hz inlX2 tyX2 tyX2_ok hW (hz _ zw_42) (hz _ zw_43) (hz _ zw_44) hK.1 hP hD hS hA rfl zdefX2 (Nat.le_of_ble_eq_true rfl) (Nat.le_of_ble_eq_true rfl) dX3_init_16 (fun q16 H hP hD hS => ?_)
  have hP : va_P D vwCl [(la, .inr (3, [.ref q5, .null, .null])), (q5, .inr (2, [.ref q_9, .int (nZ 0)])), (q_9, .inl (k 0, 21, .inl (zA (fun _ => 0)))), (q16, .inr (2, [.null, .int (nZ 0)]))] H := hP
  have hD : va_D A [(la, .inr (3, [.ref q5, .null, .null])), (q5, .inr (2, [.ref q_9, .int (nZ 0)])), (q_9, .inl (k 0, 21, .inl (zA (fun _ => 0)))), (q16, .inr (2, [.null, .int (nZ 0)]))] := hD
  refine W.widen (k := 3) (n := 25) (by decide) (by decide) ?_
  refine lv_dup hX hB dX3_init_19 rfl ?_
  refine zCallV (w1 := fun (uz : Nat) => ([(q16, .inr (2, [.ref uz, .int (nZ 0)]))] : va_W)) (wn := fun (uz : Nat) => ([(uz, .inl (k 0, 21, .inl (zA (fun _ => 0))))] : va_W)) (zRunIN (As := []) X mi_X2_init (c_X2_init l D k _ q16 ) (zn_X3_9 hK.2.1) (zPreS hP hD hK [3] rfl rfl) rfl hl (Nat.le_of_ble_eq_true rfl) dX3_init_20 ⟨rfl, rfl, ⟨Nat.le_of_ble_eq_true rfl, Nat.le_of_ble_eq_true rfl⟩, Nat.le_of_ble_eq_true rfl, Nat.le_of_ble_eq_true rfl⟩ rfl) hS hP hD hA [3] rfl (fun _ => rfl) (fun u_20 H locs hq_20 hP hD hS => ?_)
  obtain ⟨q_20, e9⟩ : ∃ z9, z9 = u_20 := ⟨_, rfl⟩; subst e9
  have hP : va_P D vwCl [(la, .inr (3, [.ref q5, .null, .null])), (q5, .inr (2, [.ref q_9, .int (nZ 0)])), (q_9, .inl (k 0, 21, .inl (zA (fun _ => 0)))), (q16, .inr (2, [.ref q_20, .int (nZ 0)])), (q_20, .inl (k 0, 21, .inl (zA (fun _ => 0))))] H := hP
  have hD : va_D A [(la, .inr (3, [.ref q5, .null, .null])), (q5, .inr (2, [.ref q_9, .int (nZ 0)])), (q_9, .inl (k 0, 21, .inl (zA (fun _ => 0)))), (q16, .inr (2, [.ref q_20, .int (nZ 0)])), (q_20, .inl (k 0, 21, .inl (zA (fun _ => 0))))] := hD
  refine W.widen (k := 4) (n := 46) (by decide) (by decide) ?_
  refine va_putF (v := .ref q16) (ty := tyX3 1) hX hB hz inlX3 tyX3 tyX3_ok nmX3 hW hK.1 hP hD hS 0 rfl rfl 1 (by decide) (hz _ zw_46) (fun _ h9 => h9) rfl (hin rfl) rfl (by decide +kernel) rfl rfl (Nat.le_of_ble_eq_true rfl) dX3_init_23 (fun H locs hP hD hS => ?_)
  have hP : va_P D vwCl [(la, .inr (3, [.ref q5, .ref q16, .null])), (q5, .inr (2, [.ref q_9, .int (nZ 0)])), (q_9, .inl (k 0, 21, .inl (zA (fun _ => 0)))), (q16, .inr (2, [.ref q_20, .int (nZ 0)])), (q_20, .inl (k 0, 21, .inl (zA (fun _ => 0))))] H := hP
  have hD : va_D A [(la, .inr (3, [.ref q5, .ref q16, .null])), (q5, .inr (2, [.ref q_9, .int (nZ 0)])), (q_9, .inl (k 0, 21, .inl (zA (fun _ => 0)))), (q16, .inr (2, [.ref q_20, .int (nZ 0)])), (q_20, .inl (k 0, 21, .inl (zA (fun _ => 0))))] := hD
  refine lv_aload_n hX hB dX3_init_26 rfl (lv_at hl 0 rfl) ?_
  refine va_new (ci := 2) (fs := [.null, .int (nZ 0)]) (C := RX2) (T := TX2) (N := 2) hX hB hz inlX2 tyX2 tyX2_ok hW (hz _ zw_42) (hz _ zw_43) (hz _ zw_44) hK.1 hP hD hS hA rfl zdefX2 (Nat.le_of_ble_eq_true rfl) (Nat.le_of_ble_eq_true rfl) dX3_init_27 (fun q27 H hP hD hS => ?_)
  have hP : va_P D vwCl [(la, .inr (3, [.ref q5, .ref q16, .null])), (q5, .inr (2, [.ref q_9, .int (nZ 0)])), (q_9, .inl (k 0, 21, .inl (zA (fun _ => 0)))), (q16, .inr (2, [.ref q_20, .int (nZ 0)])), (q_20, .inl (k 0, 21, .inl (zA (fun _ => 0)))), (q27, .inr (2, [.null, .int (nZ 0)]))] H := hP
  have hD : va_D A [(la, .inr (3, [.ref q5, .ref q16, .null])), (q5, .inr (2, [.ref q_9, .int (nZ 0)])), (q_9, .inl (k 0, 21, .inl (zA (fun _ => 0)))), (q16, .inr (2, [.ref q_20, .int (nZ 0)])), (q_20, .inl (k 0, 21, .inl (zA (fun _ => 0)))), (q27, .inr (2, [.null, .int (nZ 0)]))] := hD
  refine W.widen (k := 5) (n := 48) (by decide) (by decide) ?_
  refine lv_dup hX hB dX3_init_30 rfl ?_
  refine zCallV (w1 := fun (uz : Nat) => ([(q27, .inr (2, [.ref uz, .int (nZ 0)]))] : va_W)) (wn := fun (uz : Nat) => ([(uz, .inl (k 0, 21, .inl (zA (fun _ => 0))))] : va_W)) (zRunIN (As := []) X mi_X2_init (c_X2_init l D k _ q27 ) (zn_X3_9 hK.2.1) (zPreS hP hD hK [5] rfl rfl) rfl hl (Nat.le_of_ble_eq_true rfl) dX3_init_31 ⟨rfl, rfl, ⟨Nat.le_of_ble_eq_true rfl, Nat.le_of_ble_eq_true rfl⟩, Nat.le_of_ble_eq_true rfl, Nat.le_of_ble_eq_true rfl⟩ rfl) hS hP hD hA [5] rfl (fun _ => rfl) (fun u_31 H locs hq_31 hP hD hS => ?_)
  obtain ⟨q_31, e9⟩ : ∃ z9, z9 = u_31 := ⟨_, rfl⟩; subst e9
  have hP : va_P D vwCl [(la, .inr (3, [.ref q5, .ref q16, .null])), (q5, .inr (2, [.ref q_9, .int (nZ 0)])), (q_9, .inl (k 0, 21, .inl (zA (fun _ => 0)))), (q16, .inr (2, [.ref q_20, .int (nZ 0)])), (q_20, .inl (k 0, 21, .inl (zA (fun _ => 0)))), (q27, .inr (2, [.ref q_31, .int (nZ 0)])), (q_31, .inl (k 0, 21, .inl (zA (fun _ => 0))))] H := hP
  have hD : va_D A [(la, .inr (3, [.ref q5, .ref q16, .null])), (q5, .inr (2, [.ref q_9, .int (nZ 0)])), (q_9, .inl (k 0, 21, .inl (zA (fun _ => 0)))), (q16, .inr (2, [.ref q_20, .int (nZ 0)])), (q_20, .inl (k 0, 21, .inl (zA (fun _ => 0)))), (q27, .inr (2, [.ref q_31, .int (nZ 0)])), (q_31, .inl (k 0, 21, .inl (zA (fun _ => 0))))] := hD
  refine W.widen (k := 6) (n := 69) (by decide) (by decide) ?_
  refine va_putF (v := .ref q27) (ty := tyX3 2) hX hB hz inlX3 tyX3 tyX3_ok nmX3 hW hK.1 hP hD hS 0 rfl rfl 2 (by decide) (hz _ zw_47) (fun _ h9 => h9) rfl (hin rfl) rfl (by decide +kernel) rfl rfl (Nat.le_of_ble_eq_true rfl) dX3_init_34 (fun H locs hP hD hS => ?_)
  have hP : va_P D vwCl [(la, .inr (3, [.ref q5, .ref q16, .ref q27])), (q5, .inr (2, [.ref q_9, .int (nZ 0)])), (q_9, .inl (k 0, 21, .inl (zA (fun _ => 0)))), (q16, .inr (2, [.ref q_20, .int (nZ 0)])), (q_20, .inl (k 0, 21, .inl (zA (fun _ => 0)))), (q27, .inr (2, [.ref q_31, .int (nZ 0)])), (q_31, .inl (k 0, 21, .inl (zA (fun _ => 0))))] H := hP
  have hD : va_D A [(la, .inr (3, [.ref q5, .ref q16, .ref q27])), (q5, .inr (2, [.ref q_9, .int (nZ 0)])), (q_9, .inl (k 0, 21, .inl (zA (fun _ => 0)))), (q16, .inr (2, [.ref q_20, .int (nZ 0)])), (q_20, .inl (k 0, 21, .inl (zA (fun _ => 0)))), (q27, .inr (2, [.ref q_31, .int (nZ 0)])), (q_31, .inl (k 0, 21, .inl (zA (fun _ => 0))))] := hD
  exact zRetV (q5, q16, q27, q_9, q_20, q_31) X hP hD hS rfl trivial dX3_init_37
set_option maxHeartbeats 4000000 in
set_option maxRecDepth 100000 in
theorem c_X0_init (l : Launch) (D : va_G) (k : Nat → ClassId) (sz : Nat) (o : Nat)  : Met l yX0_init (zW yX0_init cX0_init 1 none) ({ frames := 3, cells := 8, slots := 90, locals := 52 } : Room) (va_Pc [.ref o] (zIn D k sz [(o, .inr (0, [.null, .null, .int (nZ 0), .int (nZ 0), .int (nZ 0), .int (nZ 0), .int (nZ 0), .int (nZ 0), .int (nZ 0), .int (nZ 0), .int (nZ 0)]))])) (va_Qv (fun (uz : Nat × Nat × Nat × Nat × Nat × Nat × Nat × Nat) => True) (fun (uz : Nat × Nat × Nat × Nat × Nat × Nat × Nat × Nat) => zOut D (va_A [(o, .inr (0, [.null, .null, .int (nZ 0), .int (nZ 0), .int (nZ 0), .int (nZ 0), .int (nZ 0), .int (nZ 0), .int (nZ 0), .int (nZ 0), .int (nZ 0)]))] sz) [(o, .inr (0, [.ref uz.1, .ref uz.2.1, .int (nZ 2), .int (nZ 0), .int (nZ 0), .int (nZ 0), .int (nZ 0), .int (nZ 0), .int (nZ 0), .int (nZ 0), .int (nZ 0)])), (uz.1, .inr (3, [.ref uz.2.2.1, .ref uz.2.2.2.1, .ref uz.2.2.2.2.1])), (uz.2.2.1, .inr (2, [.ref uz.2.2.2.2.2.1, .int (nZ 0)])), (uz.2.2.2.2.2.1, .inl (k 0, 21, .inl (zA (fun _ => 0)))), (uz.2.2.2.1, .inr (2, [.ref uz.2.2.2.2.2.2.1, .int (nZ 0)])), (uz.2.2.2.2.2.2.1, .inl (k 0, 21, .inl (zA (fun _ => 0)))), (uz.2.2.2.2.1, .inr (2, [.ref uz.2.2.2.2.2.2.2, .int (nZ 0)])), (uz.2.2.2.2.2.2.2, .inl (k 0, 21, .inl (zA (fun _ => 0)))), (uz.2.1, .inl (k 0, 18, .inl (zA (fun _ => 0))))]) (va_A [(o, .inr (0, [.null, .null, .int (nZ 0), .int (nZ 0), .int (nZ 0), .int (nZ 0), .int (nZ 0), .int (nZ 0), .int (nZ 0), .int (nZ 0), .int (nZ 0)]))] sz)) 8 90 (va_A [(o, .inr (0, [.null, .null, .int (nZ 0), .int (nZ 0), .int (nZ 0), .int (nZ 0), .int (nZ 0), .int (nZ 0), .int (nZ 0), .int (nZ 0), .int (nZ 0)]))] sz) := by
  refine zEnter (Qf := fun A => va_Qv (fun (uz : Nat × Nat × Nat × Nat × Nat × Nat × Nat × Nat) => True) (fun (uz : Nat × Nat × Nat × Nat × Nat × Nat × Nat × Nat) => zOut D A [(o, .inr (0, [.ref uz.1, .ref uz.2.1, .int (nZ 2), .int (nZ 0), .int (nZ 0), .int (nZ 0), .int (nZ 0), .int (nZ 0), .int (nZ 0), .int (nZ 0), .int (nZ 0)])), (uz.1, .inr (3, [.ref uz.2.2.1, .ref uz.2.2.2.1, .ref uz.2.2.2.2.1])), (uz.2.2.1, .inr (2, [.ref uz.2.2.2.2.2.1, .int (nZ 0)])), (uz.2.2.2.2.2.1, .inl (k 0, 21, .inl (zA (fun _ => 0)))), (uz.2.2.2.1, .inr (2, [.ref uz.2.2.2.2.2.2.1, .int (nZ 0)])), (uz.2.2.2.2.2.2.1, .inl (k 0, 21, .inl (zA (fun _ => 0)))), (uz.2.2.2.2.1, .inr (2, [.ref uz.2.2.2.2.2.2.2, .int (nZ 0)])), (uz.2.2.2.2.2.2.2, .inl (k 0, 21, .inl (zA (fun _ => 0)))), (uz.2.1, .inl (k 0, 18, .inl (zA (fun _ => 0))))]) A) RX0 (by decide) rfl (Nat.le_of_ble_eq_true rfl) ?_
  intro p9 e9 s9 m9 be9 me9 c9 ls A X hin hP hD hS hA hAe hl
  have hX := X.1; have hB := X.2.1; have hz := X.2.2.2.2.1; have hW := X.2.2.2.2.2.1; have hK := X.2.2.2.2.2.2.2; clear hAe
  have hl : lv_has ls 1 [(0, .ref o)] := hl
  refine lv_aload_n hX hB dX0_init_0 rfl (lv_at hl 0 rfl) ?_
  refine W.objInit hX hB hW (hz _ zw_34) (hz _ zw_7) (hz _ zw_8) rfl (by rw [X.2.2.2.1]; exact hl.1) rfl dX0_init_1 (Nat.le_of_ble_eq_true rfl) (Nat.le_of_ble_eq_true rfl) ?_
  refine W.eq (g2 := F0 m9 4 ls []) rfl ?_
  refine lv_aload_n hX hB dX0_init_4 rfl (lv_at hl 0 rfl) ?_
  refine va_new (ci := 3) (fs := [.null, .null, .null]) (C := RX3) (T := TX3) (N := 3) hX hB hz inlX3 tyX3 tyX3_ok hW (hz _ zw_35) (hz _ zw_27) (hz _ zw_28) hK.1 hP hD hS hA rfl zdefX3 (Nat.le_of_ble_eq_true rfl) (Nat.le_of_ble_eq_true rfl) dX0_init_5 (fun q5 H hP hD hS => ?_)
  have hP : va_P D vwCl [(o, .inr (0, [.null, .null, .int (nZ 0), .int (nZ 0), .int (nZ 0), .int (nZ 0), .int (nZ 0), .int (nZ 0), .int (nZ 0), .int (nZ 0), .int (nZ 0)])), (q5, .inr (3, [.null, .null, .null]))] H := hP
  have hD : va_D A [(o, .inr (0, [.null, .null, .int (nZ 0), .int (nZ 0), .int (nZ 0), .int (nZ 0), .int (nZ 0), .int (nZ 0), .int (nZ 0), .int (nZ 0), .int (nZ 0)])), (q5, .inr (3, [.null, .null, .null]))] := hD
  refine W.widen (k := 1) (n := 3) (by decide) (by decide) ?_
  refine lv_dup hX hB dX0_init_8 rfl ?_
  refine zCallV (w1 := fun (uz : Nat × Nat × Nat × Nat × Nat × Nat) => ([(q5, .inr (3, [.ref uz.1, .ref uz.2.1, .ref uz.2.2.1]))] : va_W)) (wn := fun (uz : Nat × Nat × Nat × Nat × Nat × Nat) => ([(uz.1, .inr (2, [.ref uz.2.2.2.1, .int (nZ 0)])), (uz.2.2.2.1, .inl (k 0, 21, .inl (zA (fun _ => 0)))), (uz.2.1, .inr (2, [.ref uz.2.2.2.2.1, .int (nZ 0)])), (uz.2.2.2.2.1, .inl (k 0, 21, .inl (zA (fun _ => 0)))), (uz.2.2.1, .inr (2, [.ref uz.2.2.2.2.2, .int (nZ 0)])), (uz.2.2.2.2.2, .inl (k 0, 21, .inl (zA (fun _ => 0))))] : va_W)) (zRunIN (As := []) X mi_X3_init (c_X3_init l D k _ q5 ) (zn_X0_11 hK.2.1) (zPreS hP hD hK [1] rfl rfl) rfl hl (Nat.le_of_ble_eq_true rfl) dX0_init_9 ⟨rfl, rfl, ⟨Nat.le_of_ble_eq_true rfl, Nat.le_of_ble_eq_true rfl⟩, Nat.le_of_ble_eq_true rfl, Nat.le_of_ble_eq_true rfl⟩ rfl) hS hP hD hA [1] rfl (fun _ => rfl) (fun u_9 H locs hq_9 hP hD hS => ?_)
  obtain ⟨l0_9, l1_9, l2_9, a0_9, a1_9, a2_9⟩ := u_9
  have hP : va_P D vwCl [(o, .inr (0, [.null, .null, .int (nZ 0), .int (nZ 0), .int (nZ 0), .int (nZ 0), .int (nZ 0), .int (nZ 0), .int (nZ 0), .int (nZ 0), .int (nZ 0)])), (q5, .inr (3, [.ref l0_9, .ref l1_9, .ref l2_9])), (l0_9, .inr (2, [.ref a0_9, .int (nZ 0)])), (a0_9, .inl (k 0, 21, .inl (zA (fun _ => 0)))), (l1_9, .inr (2, [.ref a1_9, .int (nZ 0)])), (a1_9, .inl (k 0, 21, .inl (zA (fun _ => 0)))), (l2_9, .inr (2, [.ref a2_9, .int (nZ 0)])), (a2_9, .inl (k 0, 21, .inl (zA (fun _ => 0))))] H := hP
  have hD : va_D A [(o, .inr (0, [.null, .null, .int (nZ 0), .int (nZ 0), .int (nZ 0), .int (nZ 0), .int (nZ 0), .int (nZ 0), .int (nZ 0), .int (nZ 0), .int (nZ 0)])), (q5, .inr (3, [.ref l0_9, .ref l1_9, .ref l2_9])), (l0_9, .inr (2, [.ref a0_9, .int (nZ 0)])), (a0_9, .inl (k 0, 21, .inl (zA (fun _ => 0)))), (l1_9, .inr (2, [.ref a1_9, .int (nZ 0)])), (a1_9, .inl (k 0, 21, .inl (zA (fun _ => 0)))), (l2_9, .inr (2, [.ref a2_9, .int (nZ 0)])), (a2_9, .inl (k 0, 21, .inl (zA (fun _ => 0))))] := hD
  refine W.widen (k := 7) (n := 72) (by decide) (by decide) ?_
  refine va_putF (v := .ref q5) (ty := tyX0 0) hX hB hz inlX0 tyX0 tyX0_ok nmX0 hW hK.1 hP hD hS 0 rfl rfl 0 (by decide) (hz _ zw_36) (fun _ h9 => h9) rfl (hin rfl) rfl (by decide +kernel) rfl rfl (Nat.le_of_ble_eq_true rfl) dX0_init_12 (fun H locs hP hD hS => ?_)
  have hP : va_P D vwCl [(o, .inr (0, [.ref q5, .null, .int (nZ 0), .int (nZ 0), .int (nZ 0), .int (nZ 0), .int (nZ 0), .int (nZ 0), .int (nZ 0), .int (nZ 0), .int (nZ 0)])), (q5, .inr (3, [.ref l0_9, .ref l1_9, .ref l2_9])), (l0_9, .inr (2, [.ref a0_9, .int (nZ 0)])), (a0_9, .inl (k 0, 21, .inl (zA (fun _ => 0)))), (l1_9, .inr (2, [.ref a1_9, .int (nZ 0)])), (a1_9, .inl (k 0, 21, .inl (zA (fun _ => 0)))), (l2_9, .inr (2, [.ref a2_9, .int (nZ 0)])), (a2_9, .inl (k 0, 21, .inl (zA (fun _ => 0))))] H := hP
  have hD : va_D A [(o, .inr (0, [.ref q5, .null, .int (nZ 0), .int (nZ 0), .int (nZ 0), .int (nZ 0), .int (nZ 0), .int (nZ 0), .int (nZ 0), .int (nZ 0), .int (nZ 0)])), (q5, .inr (3, [.ref l0_9, .ref l1_9, .ref l2_9])), (l0_9, .inr (2, [.ref a0_9, .int (nZ 0)])), (a0_9, .inl (k 0, 21, .inl (zA (fun _ => 0)))), (l1_9, .inr (2, [.ref a1_9, .int (nZ 0)])), (a1_9, .inl (k 0, 21, .inl (zA (fun _ => 0)))), (l2_9, .inr (2, [.ref a2_9, .int (nZ 0)])), (a2_9, .inl (k 0, 21, .inl (zA (fun _ => 0))))] := hD
  refine lv_aload_n hX hB dX0_init_15 rfl (lv_at hl 0 rfl) ?_
  refine lv_bipush (v := nZ 18) hX hB dX0_init_16 (by decide) ?_
  refine zz_newa_int X hP hD hS hA (hz _ zw_30) 18 (by decide) (Nat.le_of_ble_eq_true rfl) (Nat.le_of_ble_eq_true rfl) dX0_init_18 (fun q18 H hP hD hS => ?_)
  have hP : va_P D vwCl [(o, .inr (0, [.ref q5, .null, .int (nZ 0), .int (nZ 0), .int (nZ 0), .int (nZ 0), .int (nZ 0), .int (nZ 0), .int (nZ 0), .int (nZ 0), .int (nZ 0)])), (q5, .inr (3, [.ref l0_9, .ref l1_9, .ref l2_9])), (l0_9, .inr (2, [.ref a0_9, .int (nZ 0)])), (a0_9, .inl (k 0, 21, .inl (zA (fun _ => 0)))), (l1_9, .inr (2, [.ref a1_9, .int (nZ 0)])), (a1_9, .inl (k 0, 21, .inl (zA (fun _ => 0)))), (l2_9, .inr (2, [.ref a2_9, .int (nZ 0)])), (a2_9, .inl (k 0, 21, .inl (zA (fun _ => 0)))), (q18, .inl (k 0, 18, .inl (zA (fun _ => 0))))] H := hP
  have hD : va_D A [(o, .inr (0, [.ref q5, .null, .int (nZ 0), .int (nZ 0), .int (nZ 0), .int (nZ 0), .int (nZ 0), .int (nZ 0), .int (nZ 0), .int (nZ 0), .int (nZ 0)])), (q5, .inr (3, [.ref l0_9, .ref l1_9, .ref l2_9])), (l0_9, .inr (2, [.ref a0_9, .int (nZ 0)])), (a0_9, .inl (k 0, 21, .inl (zA (fun _ => 0)))), (l1_9, .inr (2, [.ref a1_9, .int (nZ 0)])), (a1_9, .inl (k 0, 21, .inl (zA (fun _ => 0)))), (l2_9, .inr (2, [.ref a2_9, .int (nZ 0)])), (a2_9, .inl (k 0, 21, .inl (zA (fun _ => 0)))), (q18, .inl (k 0, 18, .inl (zA (fun _ => 0))))] := hD
  refine W.widen (k := 8) (n := 90) (by decide) (by decide) ?_
  refine va_putF (v := .ref q18) (ty := tyX0 1) hX hB hz inlX0 tyX0 tyX0_ok nmX0 hW hK.1 hP hD hS 0 rfl rfl 1 (by decide) (hz _ zw_37) (fun _ h9 => h9) rfl (hin rfl) rfl (by decide +kernel) rfl rfl (Nat.le_of_ble_eq_true rfl) dX0_init_20 (fun H locs hP hD hS => ?_)
  have hP : va_P D vwCl [(o, .inr (0, [.ref q5, .ref q18, .int (nZ 0), .int (nZ 0), .int (nZ 0), .int (nZ 0), .int (nZ 0), .int (nZ 0), .int (nZ 0), .int (nZ 0), .int (nZ 0)])), (q5, .inr (3, [.ref l0_9, .ref l1_9, .ref l2_9])), (l0_9, .inr (2, [.ref a0_9, .int (nZ 0)])), (a0_9, .inl (k 0, 21, .inl (zA (fun _ => 0)))), (l1_9, .inr (2, [.ref a1_9, .int (nZ 0)])), (a1_9, .inl (k 0, 21, .inl (zA (fun _ => 0)))), (l2_9, .inr (2, [.ref a2_9, .int (nZ 0)])), (a2_9, .inl (k 0, 21, .inl (zA (fun _ => 0)))), (q18, .inl (k 0, 18, .inl (zA (fun _ => 0))))] H := hP
  have hD : va_D A [(o, .inr (0, [.ref q5, .ref q18, .int (nZ 0), .int (nZ 0), .int (nZ 0), .int (nZ 0), .int (nZ 0), .int (nZ 0), .int (nZ 0), .int (nZ 0), .int (nZ 0)])), (q5, .inr (3, [.ref l0_9, .ref l1_9, .ref l2_9])), (l0_9, .inr (2, [.ref a0_9, .int (nZ 0)])), (a0_9, .inl (k 0, 21, .inl (zA (fun _ => 0)))), (l1_9, .inr (2, [.ref a1_9, .int (nZ 0)])), (a1_9, .inl (k 0, 21, .inl (zA (fun _ => 0)))), (l2_9, .inr (2, [.ref a2_9, .int (nZ 0)])), (a2_9, .inl (k 0, 21, .inl (zA (fun _ => 0)))), (q18, .inl (k 0, 18, .inl (zA (fun _ => 0))))] := hD
  refine lv_aload_n hX hB dX0_init_23 rfl (lv_at hl 0 rfl) ?_
  refine lv_iconst (v := nZ 2) hX hB dX0_init_24 rfl ?_
  refine va_put (v := .int (nZ 2)) (ty := tyX0 2) hX hB hz inlX0 tyX0 tyX0_ok nmX0 hW hK.1 hP hD hS 0 rfl rfl 2 (by decide) (hz _ zw_38) (fun _ h9 => h9) rfl (by decide +kernel) rfl rfl (Nat.le_of_ble_eq_true rfl) dX0_init_25 (fun H locs hP hD hS => ?_)
  have hP : va_P D vwCl [(o, .inr (0, [.ref q5, .ref q18, .int (nZ 2), .int (nZ 0), .int (nZ 0), .int (nZ 0), .int (nZ 0), .int (nZ 0), .int (nZ 0), .int (nZ 0), .int (nZ 0)])), (q5, .inr (3, [.ref l0_9, .ref l1_9, .ref l2_9])), (l0_9, .inr (2, [.ref a0_9, .int (nZ 0)])), (a0_9, .inl (k 0, 21, .inl (zA (fun _ => 0)))), (l1_9, .inr (2, [.ref a1_9, .int (nZ 0)])), (a1_9, .inl (k 0, 21, .inl (zA (fun _ => 0)))), (l2_9, .inr (2, [.ref a2_9, .int (nZ 0)])), (a2_9, .inl (k 0, 21, .inl (zA (fun _ => 0)))), (q18, .inl (k 0, 18, .inl (zA (fun _ => 0))))] H := hP
  have hD : va_D A [(o, .inr (0, [.ref q5, .ref q18, .int (nZ 2), .int (nZ 0), .int (nZ 0), .int (nZ 0), .int (nZ 0), .int (nZ 0), .int (nZ 0), .int (nZ 0), .int (nZ 0)])), (q5, .inr (3, [.ref l0_9, .ref l1_9, .ref l2_9])), (l0_9, .inr (2, [.ref a0_9, .int (nZ 0)])), (a0_9, .inl (k 0, 21, .inl (zA (fun _ => 0)))), (l1_9, .inr (2, [.ref a1_9, .int (nZ 0)])), (a1_9, .inl (k 0, 21, .inl (zA (fun _ => 0)))), (l2_9, .inr (2, [.ref a2_9, .int (nZ 0)])), (a2_9, .inl (k 0, 21, .inl (zA (fun _ => 0)))), (q18, .inl (k 0, 18, .inl (zA (fun _ => 0))))] := hD
  exact zRetV (q5, q18, l0_9, l1_9, l2_9, a0_9, a1_9, a2_9) X hP hD hS rfl trivial dX0_init_28
set_option maxHeartbeats 4000000 in
set_option maxRecDepth 100000 in
theorem c_X5_init (l : Launch) (D : va_G) (k : Nat → ClassId) (sz : Nat) (sh : Nat)  : Met l yX5_init (zW yX5_init cX5_init 1 none) ({ frames := 2, cells := 2, slots := 23, locals := 32 } : Room) (va_Pc [.ref sh] (zIn D k sz [(sh, .inr (5, [.null, .int (nZ 0), .int (nZ 0), .int (nZ 0), .int (nZ 0), .int (nZ 0), .int (nZ 0), .int (nZ 0)]))])) (va_Qv (fun (uz : Nat × Nat) => True) (fun (uz : Nat × Nat) => zOut D (va_A [(sh, .inr (5, [.null, .int (nZ 0), .int (nZ 0), .int (nZ 0), .int (nZ 0), .int (nZ 0), .int (nZ 0), .int (nZ 0)]))] sz) [(sh, .inr (5, [.ref uz.1, .int (nZ 0), .int (nZ 0), .int (nZ 0), .int (nZ 0), .int (nZ 0), .int (nZ 0), .int (nZ 0)])), (uz.1, .inr (2, [.ref uz.2, .int (nZ 0)])), (uz.2, .inl (k 0, 21, .inl (zA (fun _ => 0))))]) (va_A [(sh, .inr (5, [.null, .int (nZ 0), .int (nZ 0), .int (nZ 0), .int (nZ 0), .int (nZ 0), .int (nZ 0), .int (nZ 0)]))] sz)) 2 23 (va_A [(sh, .inr (5, [.null, .int (nZ 0), .int (nZ 0), .int (nZ 0), .int (nZ 0), .int (nZ 0), .int (nZ 0), .int (nZ 0)]))] sz) := by
  refine zEnter (Qf := fun A => va_Qv (fun (uz : Nat × Nat) => True) (fun (uz : Nat × Nat) => zOut D A [(sh, .inr (5, [.ref uz.1, .int (nZ 0), .int (nZ 0), .int (nZ 0), .int (nZ 0), .int (nZ 0), .int (nZ 0), .int (nZ 0)])), (uz.1, .inr (2, [.ref uz.2, .int (nZ 0)])), (uz.2, .inl (k 0, 21, .inl (zA (fun _ => 0))))]) A) RX5 (by decide) rfl (Nat.le_of_ble_eq_true rfl) ?_
  intro p9 e9 s9 m9 be9 me9 c9 ls A X hin hP hD hS hA hAe hl
  have hX := X.1; have hB := X.2.1; have hz := X.2.2.2.2.1; have hW := X.2.2.2.2.2.1; have hK := X.2.2.2.2.2.2.2; clear hAe
  have hl : lv_has ls 1 [(0, .ref sh)] := hl
  refine lv_aload_n hX hB dX5_init_0 rfl (lv_at hl 0 rfl) ?_
  refine W.objInit hX hB hW (hz _ zw_63) (hz _ zw_7) (hz _ zw_8) rfl (by rw [X.2.2.2.1]; exact hl.1) rfl dX5_init_1 (Nat.le_of_ble_eq_true rfl) (Nat.le_of_ble_eq_true rfl) ?_
  refine W.eq (g2 := F0 m9 4 ls []) rfl ?_
  refine lv_aload_n hX hB dX5_init_4 rfl (lv_at hl 0 rfl) ?_
  refine va_new (ci := 2) (fs := [.null, .int (nZ 0)]) (C := RX2) (T := TX2) (N := 2) hX hB hz inlX2 tyX2 tyX2_ok hW (hz _ zw_64) (hz _ zw_43) (hz _ zw_44) hK.1 hP hD hS hA rfl zdefX2 (Nat.le_of_ble_eq_true rfl) (Nat.le_of_ble_eq_true rfl) dX5_init_5 (fun q5 H hP hD hS => ?_)
  have hP : va_P D vwCl [(sh, .inr (5, [.null, .int (nZ 0), .int (nZ 0), .int (nZ 0), .int (nZ 0), .int (nZ 0), .int (nZ 0), .int (nZ 0)])), (q5, .inr (2, [.null, .int (nZ 0)]))] H := hP
  have hD : va_D A [(sh, .inr (5, [.null, .int (nZ 0), .int (nZ 0), .int (nZ 0), .int (nZ 0), .int (nZ 0), .int (nZ 0), .int (nZ 0)])), (q5, .inr (2, [.null, .int (nZ 0)]))] := hD
  refine W.widen (k := 1) (n := 2) (by decide) (by decide) ?_
  refine lv_dup hX hB dX5_init_8 rfl ?_
  refine zCallV (w1 := fun (uz : Nat) => ([(q5, .inr (2, [.ref uz, .int (nZ 0)]))] : va_W)) (wn := fun (uz : Nat) => ([(uz, .inl (k 0, 21, .inl (zA (fun _ => 0))))] : va_W)) (zRunIN (As := []) X mi_X2_init (c_X2_init l D k _ q5 ) (zn_X5_11 hK.2.1) (zPreS hP hD hK [1] rfl rfl) rfl hl (Nat.le_of_ble_eq_true rfl) dX5_init_9 ⟨rfl, rfl, ⟨Nat.le_of_ble_eq_true rfl, Nat.le_of_ble_eq_true rfl⟩, Nat.le_of_ble_eq_true rfl, Nat.le_of_ble_eq_true rfl⟩ rfl) hS hP hD hA [1] rfl (fun _ => rfl) (fun u_9 H locs hq_9 hP hD hS => ?_)
  obtain ⟨q_9, e9⟩ : ∃ z9, z9 = u_9 := ⟨_, rfl⟩; subst e9
  have hP : va_P D vwCl [(sh, .inr (5, [.null, .int (nZ 0), .int (nZ 0), .int (nZ 0), .int (nZ 0), .int (nZ 0), .int (nZ 0), .int (nZ 0)])), (q5, .inr (2, [.ref q_9, .int (nZ 0)])), (q_9, .inl (k 0, 21, .inl (zA (fun _ => 0))))] H := hP
  have hD : va_D A [(sh, .inr (5, [.null, .int (nZ 0), .int (nZ 0), .int (nZ 0), .int (nZ 0), .int (nZ 0), .int (nZ 0), .int (nZ 0)])), (q5, .inr (2, [.ref q_9, .int (nZ 0)])), (q_9, .inl (k 0, 21, .inl (zA (fun _ => 0))))] := hD
  refine W.widen (k := 2) (n := 23) (by decide) (by decide) ?_
  refine va_putF (v := .ref q5) (ty := tyX5 0) hX hB hz inlX5 tyX5 tyX5_ok nmX5 hW hK.1 hP hD hS 0 rfl rfl 0 (by decide) (hz _ zw_65) (fun _ h9 => h9) rfl (hin rfl) rfl (by decide +kernel) rfl rfl (Nat.le_of_ble_eq_true rfl) dX5_init_12 (fun H locs hP hD hS => ?_)
  have hP : va_P D vwCl [(sh, .inr (5, [.ref q5, .int (nZ 0), .int (nZ 0), .int (nZ 0), .int (nZ 0), .int (nZ 0), .int (nZ 0), .int (nZ 0)])), (q5, .inr (2, [.ref q_9, .int (nZ 0)])), (q_9, .inl (k 0, 21, .inl (zA (fun _ => 0))))] H := hP
  have hD : va_D A [(sh, .inr (5, [.ref q5, .int (nZ 0), .int (nZ 0), .int (nZ 0), .int (nZ 0), .int (nZ 0), .int (nZ 0), .int (nZ 0)])), (q5, .inr (2, [.ref q_9, .int (nZ 0)])), (q_9, .inl (k 0, 21, .inl (zA (fun _ => 0))))] := hD
  exact zRetV (q5, q_9) X hP hD hS rfl trivial dX5_init_15
set_option maxHeartbeats 4000000 in
set_option maxRecDepth 100000 in
theorem c_X1_init (l : Launch) (D : va_G) (k : Nat → ClassId) (sz : Nat) (tx : Nat)  : Met l yX1_init (zW yX1_init cX1_init 1 none) ({ frames := 1, cells := 1, slots := 60, locals := 12 } : Room) (va_Pc [.ref tx] (zIn D k sz [(tx, .inr (1, [.null, .int (nZ 0)]))])) (va_Qv (fun (uz : Nat) => True) (fun (uz : Nat) => zOut D (va_A [(tx, .inr (1, [.null, .int (nZ 0)]))] sz) [(tx, .inr (1, [.ref uz, .int (nZ 0)])), (uz, .inl (k 0, 60, .inl (zA (fun _ => 0))))]) (va_A [(tx, .inr (1, [.null, .int (nZ 0)]))] sz)) 1 60 (va_A [(tx, .inr (1, [.null, .int (nZ 0)]))] sz) := by
  refine zEnter (Qf := fun A => va_Qv (fun (uz : Nat) => True) (fun (uz : Nat) => zOut D A [(tx, .inr (1, [.ref uz, .int (nZ 0)])), (uz, .inl (k 0, 60, .inl (zA (fun _ => 0))))]) A) RX1 (by decide) rfl (Nat.le_of_ble_eq_true rfl) ?_
  intro p9 e9 s9 m9 be9 me9 c9 ls A X hin hP hD hS hA hAe hl
  have hX := X.1; have hB := X.2.1; have hz := X.2.2.2.2.1; have hW := X.2.2.2.2.2.1; have hK := X.2.2.2.2.2.2.2; clear hAe
  have hl : lv_has ls 1 [(0, .ref tx)] := hl
  refine lv_aload_n hX hB dX1_init_0 rfl (lv_at hl 0 rfl) ?_
  refine W.objInit hX hB hW (hz _ zw_59) (hz _ zw_7) (hz _ zw_8) rfl (by rw [X.2.2.2.1]; exact hl.1) rfl dX1_init_1 (Nat.le_of_ble_eq_true rfl) (Nat.le_of_ble_eq_true rfl) ?_
  refine W.eq (g2 := F0 m9 4 ls []) rfl ?_
  refine lv_aload_n hX hB dX1_init_4 rfl (lv_at hl 0 rfl) ?_
  refine lv_bipush (v := nZ 60) hX hB dX1_init_5 (by decide) ?_
  refine zz_newa_int X hP hD hS hA (hz _ zw_30) 60 (by decide) (Nat.le_of_ble_eq_true rfl) (Nat.le_of_ble_eq_true rfl) dX1_init_7 (fun q7 H hP hD hS => ?_)
  have hP : va_P D vwCl [(tx, .inr (1, [.null, .int (nZ 0)])), (q7, .inl (k 0, 60, .inl (zA (fun _ => 0))))] H := hP
  have hD : va_D A [(tx, .inr (1, [.null, .int (nZ 0)])), (q7, .inl (k 0, 60, .inl (zA (fun _ => 0))))] := hD
  refine W.widen (k := 1) (n := 60) (by decide) (by decide) ?_
  refine va_putF (v := .ref q7) (ty := tyX1 0) hX hB hz inlX1 tyX1 tyX1_ok nmX1 hW hK.1 hP hD hS 0 rfl rfl 0 (by decide) (hz _ zw_60) (fun _ h9 => h9) rfl (hin rfl) rfl (by decide +kernel) rfl rfl (Nat.le_of_ble_eq_true rfl) dX1_init_9 (fun H locs hP hD hS => ?_)
  have hP : va_P D vwCl [(tx, .inr (1, [.ref q7, .int (nZ 0)])), (q7, .inl (k 0, 60, .inl (zA (fun _ => 0))))] H := hP
  have hD : va_D A [(tx, .inr (1, [.ref q7, .int (nZ 0)])), (q7, .inl (k 0, 60, .inl (zA (fun _ => 0))))] := hD
  exact zRetV q7 X hP hD hS rfl trivial dX1_init_12
set_option maxHeartbeats 4000000 in
set_option maxRecDepth 100000 in
theorem c_X4_init (l : Launch) (D : va_G) (k : Nat → ClassId) (sz : Nat) (sv : Nat)  : Met l yX4_init (zW yX4_init cX4_init 1 none) ({ frames := 1, cells := 1, slots := 6, locals := 12 } : Room) (va_Pc [.ref sv] (zIn D k sz [(sv, .inr (4, [.null, .int (nZ 0), .int (nZ 0)]))])) (va_Qv (fun (uz : Nat) => True) (fun (uz : Nat) => zOut D (va_A [(sv, .inr (4, [.null, .int (nZ 0), .int (nZ 0)]))] sz) [(sv, .inr (4, [.ref uz, .int (nZ 0), .int (nZ 0)])), (uz, .inl (k 4, 6, .inr (.inr (.inr (.inr (fun _ => none))))))]) (va_A [(sv, .inr (4, [.null, .int (nZ 0), .int (nZ 0)]))] sz)) 1 6 (va_A [(sv, .inr (4, [.null, .int (nZ 0), .int (nZ 0)]))] sz) := by
  refine zEnter (Qf := fun A => va_Qv (fun (uz : Nat) => True) (fun (uz : Nat) => zOut D A [(sv, .inr (4, [.ref uz, .int (nZ 0), .int (nZ 0)])), (uz, .inl (k 4, 6, .inr (.inr (.inr (.inr (fun _ => none))))))]) A) RX4 (by decide) rfl (Nat.le_of_ble_eq_true rfl) ?_
  intro p9 e9 s9 m9 be9 me9 c9 ls A X hin hP hD hS hA hAe hl
  have hX := X.1; have hB := X.2.1; have hz := X.2.2.2.2.1; have hW := X.2.2.2.2.2.1; have hK := X.2.2.2.2.2.2.2; clear hAe
  have hl : lv_has ls 1 [(0, .ref sv)] := hl
  refine lv_aload_n hX hB dX4_init_0 rfl (lv_at hl 0 rfl) ?_
  refine W.objInit hX hB hW (hz _ zw_54) (hz _ zw_7) (hz _ zw_8) rfl (by rw [X.2.2.2.1]; exact hl.1) rfl dX4_init_1 (Nat.le_of_ble_eq_true rfl) (Nat.le_of_ble_eq_true rfl) ?_
  refine W.eq (g2 := F0 m9 4 ls []) rfl ?_
  refine lv_aload_n hX hB dX4_init_4 rfl (lv_at hl 0 rfl) ?_
  refine lv_bipush (v := nZ 6) hX hB dX4_init_5 (by decide) ?_
  refine zz_newq X hP hD hS hA (hz _ zw_55) 6 (by decide) (Nat.le_of_ble_eq_true rfl) (Nat.le_of_ble_eq_true rfl) dX4_init_7 (fun q7 H hP hD hS => ?_)
  have hP : va_P D vwCl [(sv, .inr (4, [.null, .int (nZ 0), .int (nZ 0)])), (q7, .inl (k 4, 6, .inr (.inr (.inr (.inr (fun _ => none))))))] H := hP
  have hD : va_D A [(sv, .inr (4, [.null, .int (nZ 0), .int (nZ 0)])), (q7, .inl (k 4, 6, .inr (.inr (.inr (.inr (fun _ => none))))))] := hD
  refine W.widen (k := 1) (n := 6) (by decide) (by decide) ?_
  refine va_putF (v := .ref q7) (ty := tyX4 0) hX hB hz inlX4 tyX4 tyX4_ok nmX4 hW hK.1 hP hD hS 0 rfl rfl 0 (by decide) (hz _ zw_56) (fun _ h9 => h9) rfl (hin rfl) rfl (by decide +kernel) rfl rfl (Nat.le_of_ble_eq_true rfl) dX4_init_10 (fun H locs hP hD hS => ?_)
  have hP : va_P D vwCl [(sv, .inr (4, [.ref q7, .int (nZ 0), .int (nZ 0)])), (q7, .inl (k 4, 6, .inr (.inr (.inr (.inr (fun _ => none))))))] H := hP
  have hD : va_D A [(sv, .inr (4, [.ref q7, .int (nZ 0), .int (nZ 0)])), (q7, .inl (k 4, 6, .inr (.inr (.inr (.inr (fun _ => none))))))] := hD
  exact zRetV q7 X hP hD hS rfl trivial dX4_init_13

