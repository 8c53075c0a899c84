theorem mv_X7_coins : zMV yX7_coins cX7_coins 2 (some .int) 1 := ⟨zw_458, zw_5, ⟨by decide +kernel, by decide +kernel, by decide +kernel⟩, zw_456, zw_457⟩
theorem mv_X7_chalks : zMV yX7_chalks cX7_chalks 4 (some .int) 3 := ⟨zw_298, zw_5, ⟨by decide +kernel, by decide +kernel, by decide +kernel⟩, zw_296, zw_297⟩
theorem mv_X7_clean : zMV yX7_clean cX7_clean 5 (some .int) 2 := ⟨zw_294, zw_5, ⟨by decide +kernel, by decide +kernel, by decide +kernel⟩, zw_292, zw_293⟩
theorem mv_X7_allClean : zMV yX7_allClean cX7_allClean 4 (some .int) 1 := ⟨zw_562, zw_5, ⟨by decide +kernel, by decide +kernel, by decide +kernel⟩, zw_560, zw_561⟩
theorem mv_X7_wouldGet : zMV yX7_wouldGet cX7_wouldGet 7 (some .int) 3 := ⟨zw_290, zw_5, ⟨by decide +kernel, by decide +kernel, by decide +kernel⟩, zw_288, zw_289⟩
theorem mv_X7_chalksOf : zMV yX7_chalksOf cX7_chalksOf 4 (some .int) 1 := ⟨zw_339, zw_5, ⟨by decide +kernel, by decide +kernel, by decide +kernel⟩, zw_337, zw_338⟩
theorem mv_X7_hasAll : zMV yX7_hasAll cX7_hasAll 4 (some .boolean) 1 := ⟨zw_309, zw_5, ⟨by decide +kernel, by decide +kernel, by decide +kernel⟩, zw_307, zw_308⟩
theorem mv_X7_clears : zMV yX7_clears cX7_clears 2 none 0 := ⟨zw_305, zw_5, ⟨by decide +kernel, by decide +kernel, by decide +kernel⟩, zw_303, zw_304⟩
theorem mv_X7_isRefused : zMV yX7_isRefused cX7_isRefused 1 (some .boolean) 0 := ⟨zw_262, zw_5, ⟨by decide +kernel, by decide +kernel, by decide +kernel⟩, zw_260, zw_261⟩
theorem mv_X7_tries : zMV yX7_tries cX7_tries 4 none 2 := ⟨zw_601, zw_5, ⟨by decide +kernel, by decide +kernel, by decide +kernel⟩, zw_599, zw_600⟩
theorem mv_X7_endOf : zMV yX7_endOf cX7_endOf 6 (some .int) 2 := ⟨zw_597, zw_5, ⟨by decide +kernel, by decide +kernel, by decide +kernel⟩, zw_595, zw_596⟩
set_option maxHeartbeats 4000000 in
set_option maxRecDepth 100000 in
theorem c_X7_coins (l : Launch) (D : va_G) (k : Nat → ClassId) (sz : Nat) (mm ms mk mb : Nat) (vsv vty vth ven vsp vla vpc : Int) (s : Nat → Int) (b : Nat) (B : Bd) (hBk : blkOk s b B) (hbb : b ≤ 810) : Met l yX7_coins (zW yX7_coins cX7_coins 2 (some .int)) ({ frames := 1, cells := 0, slots := 0, locals := 21 } : Room) (va_Pc [.ref mm, .int (nZ ↑b)] (zIn D k sz [(mm, .inr (7, [.ref ms, .int (nZ vsv), .ref mk, .ref mb, .int (nZ vty), .int (nZ vth), .int (nZ ven), .int (nZ vsp), .int (nZ vla), .int (nZ vpc)])), (ms, .inl (k 0, 900, .inl (zA s)))])) (va_Qi (fun (rz : Int32) (uz : Unit) => rz = nZ (coinsB B)) (fun (uz : Unit) => zOut D (va_A [(mm, .inr (7, [.ref ms, .int (nZ vsv), .ref mk, .ref mb, .int (nZ vty), .int (nZ vth), .int (nZ ven), .int (nZ vsp), .int (nZ vla), .int (nZ vpc)])), (ms, .inl (k 0, 900, .inl (zA s)))] sz) [(mm, .inr (7, [.ref ms, .int (nZ vsv), .ref mk, .ref mb, .int (nZ vty), .int (nZ vth), .int (nZ ven), .int (nZ vsp), .int (nZ vla), .int (nZ vpc)])), (ms, .inl (k 0, 900, .inl (zA s)))]) (va_A [(mm, .inr (7, [.ref ms, .int (nZ vsv), .ref mk, .ref mb, .int (nZ vty), .int (nZ vth), .int (nZ ven), .int (nZ vsp), .int (nZ vla), .int (nZ vpc)])), (ms, .inl (k 0, 900, .inl (zA s)))] sz)) 0 0 (va_A [(mm, .inr (7, [.ref ms, .int (nZ vsv), .ref mk, .ref mb, .int (nZ vty), .int (nZ vth), .int (nZ ven), .int (nZ vsp), .int (nZ vla), .int (nZ vpc)])), (ms, .inl (k 0, 900, .inl (zA s)))] sz) := by
  refine zEnter (Qf := fun A => va_Qi (fun (rz : Int32) (uz : Unit) => rz = nZ (coinsB B)) (fun (uz : Unit) => zOut D A [(mm, .inr (7, [.ref ms, .int (nZ vsv), .ref mk, .ref mb, .int (nZ vty), .int (nZ vth), .int (nZ ven), .int (nZ vsp), .int (nZ vla), .int (nZ vpc)])), (ms, .inl (k 0, 900, .inl (zA s)))]) A) RX7 (by decide) rfl (Nat.le_of_ble_eq_true rfl) ?_
  intro p9 e9 s9 m9 be9 me9 c9 ls A X hin hP hD hS hA hAe hl
  have hX := X.1; have hB := X.2.1; have hz := X.2.2.2.2.1; have hW := X.2.2.2.2.2.1; have hK := X.2.2.2.2.2.2.2; clear hAe
  clear hin
  have hl : lv_has ls 2 [(0, .ref mm), (1, .int (nZ ↑b))] := hl
  have k0 := hBk.len (j := 0) (by omega); have k1 := hBk.len (j := 1) (by omega); have k2 := hBk.len (j := 2) (by omega)
  refine lv_aload_n hX hB dX7_coins_0 rfl (lv_at hl 0 rfl) ?_
  refine va_get hX hB hz inlX7 hW hK.1 hP 0 rfl rfl 0 (by decide) (hz _ zw_74) (fun _ h9 => h9) rfl dX7_coins_1 ?_
  refine lv_iload_n hX hB dX7_coins_4 rfl (lv_at hl 1 rfl) ?_
  refine lv_iconst (v := nZ 0) hX hB dX7_coins_5 rfl ?_
  refine zCallI0 (zRunS X ms_X7_laneAt (c_X7_laneAt l D k _ b 0 ) zw_272 (zPreS hP hD hK [] rfl rfl) rfl hl (Nat.le_of_ble_eq_true rfl) dX7_coins_6 ⟨rfl, rfl, ⟨Nat.le_of_ble_eq_true rfl, Nat.le_of_ble_eq_true rfl⟩, Nat.le_of_ble_eq_true rfl, Nat.le_of_ble_eq_true rfl⟩ rfl) hS hP hD hA [] rfl (fun _ => rfl) (fun r_6 u_6 H locs hq_6 hP hD hS => ?_)
  subst hq_6
  have hP : va_P D vwCl [(mm, .inr (7, [.ref ms, .int (nZ vsv), .ref mk, .ref mb, .int (nZ vty), .int (nZ vth), .int (nZ ven), .int (nZ vsp), .int (nZ vla), .int (nZ vpc)])), (ms, .inl (k 0, 900, .inl (zA s)))] H := hP
  have hD : va_D A [(mm, .inr (7, [.ref ms, .int (nZ vsv), .ref mk, .ref mb, .int (nZ vty), .int (nZ vth), .int (nZ ven), .int (nZ vsp), .int (nZ vla), .int (nZ vpc)])), (ms, .inl (k 0, 900, .inl (zA s)))] := hD
  refine zz_iald X hP 1 0 rfl rfl (((b + 27)) + (21 * 0)) (by omega) (by omega) (by first | decide | omega) dX7_coins_9 ?_
  refine lv_aload_n hX hB dX7_coins_10 rfl (lv_at hl 0 rfl) ?_
  refine va_get hX hB hz inlX7 hW hK.1 hP 0 rfl rfl 0 (by decide) (hz _ zw_74) (fun _ h9 => h9) rfl dX7_coins_11 ?_
  refine lv_iload_n hX hB dX7_coins_14 rfl (lv_at hl 1 rfl) ?_
  refine lv_iconst (v := nZ 1) hX hB dX7_coins_15 rfl ?_
  refine zCallI0 (zRunS X ms_X7_laneAt (c_X7_laneAt l D k _ b 1 ) zw_272 (zPreS hP hD hK [] rfl rfl) rfl hl (Nat.le_of_ble_eq_true rfl) dX7_coins_16 ⟨rfl, rfl, ⟨Nat.le_of_ble_eq_true rfl, Nat.le_of_ble_eq_true rfl⟩, Nat.le_of_ble_eq_true rfl, Nat.le_of_ble_eq_true rfl⟩ rfl) hS hP hD hA [] rfl (fun _ => rfl) (fun r_16 u_16 H locs hq_16 hP hD hS => ?_)
  subst hq_16
  have hP : va_P D vwCl [(mm, .inr (7, [.ref ms, .int (nZ vsv), .ref mk, .ref mb, .int (nZ vty), .int (nZ vth), .int (nZ ven), .int (nZ vsp), .int (nZ vla), .int (nZ vpc)])), (ms, .inl (k 0, 900, .inl (zA s)))] H := hP
  have hD : va_D A [(mm, .inr (7, [.ref ms, .int (nZ vsv), .ref mk, .ref mb, .int (nZ vty), .int (nZ vth), .int (nZ ven), .int (nZ vsp), .int (nZ vla), .int (nZ vpc)])), (ms, .inl (k 0, 900, .inl (zA s)))] := hD
  refine zz_iald X hP 1 0 rfl rfl (((b + 27)) + (21 * 1)) (by omega) (by omega) (by first | decide | omega) dX7_coins_19 ?_
  refine zz_iadd X dX7_coins_20 (z := ((s (((b + 27)) + (21 * 0))) + (s (((b + 27)) + (21 * 1))))) (by first | rfl | omega) ?_
  refine lv_aload_n hX hB dX7_coins_21 rfl (lv_at hl 0 rfl) ?_
  refine va_get hX hB hz inlX7 hW hK.1 hP 0 rfl rfl 0 (by decide) (hz _ zw_74) (fun _ h9 => h9) rfl dX7_coins_22 ?_
  refine lv_iload_n hX hB dX7_coins_25 rfl (lv_at hl 1 rfl) ?_
  refine lv_iconst (v := nZ 2) hX hB dX7_coins_26 rfl ?_
  refine zCallI0 (zRunS X ms_X7_laneAt (c_X7_laneAt l D k _ b 2 ) zw_272 (zPreS hP hD hK [] rfl rfl) rfl hl (Nat.le_of_ble_eq_true rfl) dX7_coins_27 ⟨rfl, rfl, ⟨Nat.le_of_ble_eq_true rfl, Nat.le_of_ble_eq_true rfl⟩, Nat.le_of_ble_eq_true rfl, Nat.le_of_ble_eq_true rfl⟩ rfl) hS hP hD hA [] rfl (fun _ => rfl) (fun r_27 u_27 H locs hq_27 hP hD hS => ?_)
  subst hq_27
  have hP : va_P D vwCl [(mm, .inr (7, [.ref ms, .int (nZ vsv), .ref mk, .ref mb, .int (nZ vty), .int (nZ vth), .int (nZ ven), .int (nZ vsp), .int (nZ vla), .int (nZ vpc)])), (ms, .inl (k 0, 900, .inl (zA s)))] H := hP
  have hD : va_D A [(mm, .inr (7, [.ref ms, .int (nZ vsv), .ref mk, .ref mb, .int (nZ vty), .int (nZ vth), .int (nZ ven), .int (nZ vsp), .int (nZ vla), .int (nZ vpc)])), (ms, .inl (k 0, 900, .inl (zA s)))] := hD
  refine zz_iald X hP 1 0 rfl rfl (((b + 27)) + (21 * 2)) (by omega) (by omega) (by first | decide | omega) dX7_coins_30 ?_
  refine zz_iadd X dX7_coins_31 (z := (((s (((b + 27)) + (21 * 0))) + (s (((b + 27)) + (21 * 1)))) + (s (((b + 27)) + (21 * 2))))) (by first | rfl | omega) ?_
  exact zRetI () X hP hD hS rfl (by congr 1; unfold coinsB; rw [k0.1, k1.1, k2.1]) dX7_coins_32
set_option maxHeartbeats 4000000 in
set_option maxRecDepth 100000 in
theorem c_X7_chalks (l : Launch) (D : va_G) (k : Nat → ClassId) (sz : Nat) (mm ms mk mb : Nat) (vsv vty vth ven vsp vla vpc : Int) (s : Nat → Int) (b : Nat) (B : Bd) (pl bed : Int) (hBk : blkOk s b B) (hbb : b ≤ 810) (hp : 0 ≤ pl ∧ pl ≤ 1) (hb : 0 ≤ bed ∧ bed < 9) : Met l yX7_chalks (zW yX7_chalks cX7_chalks 4 (some .int)) ({ frames := 0, cells := 0, slots := 0, locals := 0 } : Room) (va_Pc [.ref mm, .int (nZ ↑b), .int (nZ pl), .int (nZ bed)] (zIn D k sz [(mm, .inr (7, [.ref ms, .int (nZ vsv), .ref mk, .ref mb, .int (nZ vty), .int (nZ vth), .int (nZ ven), .int (nZ vsp), .int (nZ vla), .int (nZ vpc)])), (ms, .inl (k 0, 900, .inl (zA s)))])) (va_Qi (fun (rz : Int32) (uz : Unit) => rz = nZ (chB B (pl * 9 + bed).toNat)) (fun (uz : Unit) => zOut D (va_A [(mm, .inr (7, [.ref ms, .int (nZ vsv), .ref mk, .ref mb, .int (nZ vty), .int (nZ vth), .int (nZ ven), .int (nZ vsp), .int (nZ vla), .int (nZ vpc)])), (ms, .inl (k 0, 900, .inl (zA s)))] sz) [(mm, .inr (7, [.ref ms, .int (nZ vsv), .ref mk, .ref mb, .int (nZ vty), .int (nZ vth), .int (nZ ven), .int (nZ vsp), .int (nZ vla), .int (nZ vpc)])), (ms, .inl (k 0, 900, .inl (zA s)))]) (va_A [(mm, .inr (7, [.ref ms, .int (nZ vsv), .ref mk, .ref mb, .int (nZ vty), .int (nZ vth), .int (nZ ven), .int (nZ vsp), .int (nZ vla), .int (nZ vpc)])), (ms, .inl (k 0, 900, .inl (zA s)))] sz)) 0 0 (va_A [(mm, .inr (7, [.ref ms, .int (nZ vsv), .ref mk, .ref mb, .int (nZ vty), .int (nZ vth), .int (nZ ven), .int (nZ vsp), .int (nZ vla), .int (nZ vpc)])), (ms, .inl (k 0, 900, .inl (zA s)))] sz) := by
  refine zEnter (Qf := fun A => va_Qi (fun (rz : Int32) (uz : Unit) => rz = nZ (chB B (pl * 9 + bed).toNat)) (fun (uz : Unit) => zOut D A [(mm, .inr (7, [.ref ms, .int (nZ vsv), .ref mk, .ref mb, .int (nZ vty), .int (nZ vth), .int (nZ ven), .int (nZ vsp), .int (nZ vla), .int (nZ vpc)])), (ms, .inl (k 0, 900, .inl (zA s)))]) A) RX7 (by decide) rfl (Nat.le_of_ble_eq_true rfl) ?_
  intro p9 e9 s9 m9 be9 me9 c9 ls A X hin hP hD hS hA hAe hl
  have hX := X.1; have hB := X.2.1; have hz := X.2.2.2.2.1; have hW := X.2.2.2.2.2.1; have hK := X.2.2.2.2.2.2.2; clear hAe
  clear hin
  have hl : lv_has ls 4 [(0, .ref mm), (1, .int (nZ ↑b)), (2, .int (nZ pl)), (3, .int (nZ bed))] := hl
  refine lv_aload_n hX hB dX7_chalks_0 rfl (lv_at hl 0 rfl) ?_
  refine va_get hX hB hz inlX7 hW hK.1 hP 0 rfl rfl 0 (by decide) (hz _ zw_74) (fun _ h9 => h9) rfl dX7_chalks_1 ?_
  refine lv_iload_n hX hB dX7_chalks_4 rfl (lv_at hl 1 rfl) ?_
  refine lv_bipush (v := nZ 9) hX hB dX7_chalks_5 (by decide) ?_
  refine zz_iadd X dX7_chalks_7 (z := (↑(b + 9) : Int)) (by first | rfl | omega) ?_
  refine lv_bipush (v := nZ 9) hX hB dX7_chalks_8 (by decide) ?_
  refine lv_iload_n hX hB dX7_chalks_10 rfl (lv_at hl 2 rfl) ?_
  refine zz_imul X dX7_chalks_11 (z := (9 * pl)) (by first | rfl | omega) ?_
  refine zz_iadd X dX7_chalks_12 (z := ((↑(b + 9) : Int) + (9 * pl))) (by first | rfl | omega) ?_
  refine lv_iload_n hX hB dX7_chalks_13 rfl (lv_at hl 3 rfl) ?_
  refine zz_iadd X dX7_chalks_14 (z := (((↑(b + 9) : Int) + (9 * pl)) + bed)) (by first | rfl | omega) ?_
  refine zz_iald X hP 1 0 rfl rfl ((((↑(b + 9) : Int) + (9 * pl)) + bed).toNat) (by omega) (by omega) (by first | decide | omega) dX7_chalks_15 ?_
  exact zRetI () X hP hD hS rfl (by congr 1; exact chalk_at hBk hp hb (by omega)) dX7_chalks_16
set_option maxHeartbeats 4000000 in
set_option maxRecDepth 100000 in
theorem c_X7_clean (l : Launch) (D : va_G) (k : Nat → ClassId) (sz : Nat) (mm ms mk mb : Nat) (vsv vty vth ven vsp vla vpc : Int) (s : Nat → Int) (b : Nat) (B : Bd) (bed : Int) (hBk : blkOk s b B) (hbb : b ≤ 810) (hb : 0 ≤ bed ∧ bed < 9) : Met l yX7_clean (zW yX7_clean cX7_clean 5 (some .int)) ({ frames := 2, cells := 0, slots := 0, locals := 45 } : Room) (va_Pc [.ref mm, .int (nZ ↑b), .int (nZ bed)] (zIn D k sz [(mm, .inr (7, [.ref ms, .int (nZ vsv), .ref mk, .ref mb, .int (nZ vty), .int (nZ vth), .int (nZ ven), .int (nZ vsp), .int (nZ vla), .int (nZ vpc)])), (ms, .inl (k 0, 900, .inl (zA s)))])) (va_Qi (fun (rz : Int32) (uz : Unit) => rz = nZ (cleanB B bed)) (fun (uz : Unit) => zOut D (va_A [(mm, .inr (7, [.ref ms, .int (nZ vsv), .ref mk, .ref mb, .int (nZ vty), .int (nZ vth), .int (nZ ven), .int (nZ vsp), .int (nZ vla), .int (nZ vpc)])), (ms, .inl (k 0, 900, .inl (zA s)))] sz) [(mm, .inr (7, [.ref ms, .int (nZ vsv), .ref mk, .ref mb, .int (nZ vty), .int (nZ vth), .int (nZ ven), .int (nZ vsp), .int (nZ vla), .int (nZ vpc)])), (ms, .inl (k 0, 900, .inl (zA s)))]) (va_A [(mm, .inr (7, [.ref ms, .int (nZ vsv), .ref mk, .ref mb, .int (nZ vty), .int (nZ vth), .int (nZ ven), .int (nZ vsp), .int (nZ vla), .int (nZ vpc)])), (ms, .inl (k 0, 900, .inl (zA s)))] sz)) 0 0 (va_A [(mm, .inr (7, [.ref ms, .int (nZ vsv), .ref mk, .ref mb, .int (nZ vty), .int (nZ vth), .int (nZ ven), .int (nZ vsp), .int (nZ vla), .int (nZ vpc)])), (ms, .inl (k 0, 900, .inl (zA s)))] sz) := by
  refine zEnter (Qf := fun A => va_Qi (fun (rz : Int32) (uz : Unit) => rz = nZ (cleanB B bed)) (fun (uz : Unit) => zOut D A [(mm, .inr (7, [.ref ms, .int (nZ vsv), .ref mk, .ref mb, .int (nZ vty), .int (nZ vth), .int (nZ ven), .int (nZ vsp), .int (nZ vla), .int (nZ vpc)])), (ms, .inl (k 0, 900, .inl (zA s)))]) A) RX7 (by decide) rfl (Nat.le_of_ble_eq_true rfl) ?_
  intro p9 e9 s9 m9 be9 me9 c9 ls A X hin hP hD hS hA hAe hl
  have hX := X.1; have hB := X.2.1; have hz := X.2.2.2.2.1; have hW := X.2.2.2.2.2.1; have hK := X.2.2.2.2.2.2.2; clear hAe
  clear hin
  have hl : lv_has ls 5 [(0, .ref mm), (1, .int (nZ ↑b)), (2, .int (nZ bed))] := hl
  refine lv_iconst (v := nZ 0) hX hB dX7_clean_0 rfl ?_
  refine lv_istore_n (lv' := [(3, .int (nZ 0)), (0, .ref mm), (1, .int (nZ ↑b)), (2, .int (nZ bed))]) hX hB dX7_clean_1 rfl hl (by decide) rfl (fun ls hl => ?_)
  refine lv_iconst (v := nZ 0) hX hB dX7_clean_2 rfl ?_
  refine lv_istore (lv' := [(4, .int (nZ 0)), (3, .int (nZ 0)), (0, .ref mm), (1, .int (nZ ↑b)), (2, .int (nZ bed))]) hX hB dX7_clean_3 hl (by decide) rfl (fun ls hl => ?_)
  refine zLoop (σ := Nat × Int) (fun (x : Nat × Int) (H : Heap) (locs : List Loc) (ls : Array Slot) => match x with | (i, q) => (i ≤ 60) ∧ (q = pcl B bed i) ∧ va_P D vwCl [(mm, .inr (7, [.ref ms, .int (nZ vsv), .ref mk, .ref mb, .int (nZ vty), .int (nZ vth), .int (nZ ven), .int (nZ vsp), .int (nZ vla), .int (nZ vpc)])), (ms, .inl (k 0, 900, .inl (zA s)))] H ∧ va_D A [(mm, .inr (7, [.ref ms, .int (nZ vsv), .ref mk, .ref mb, .int (nZ vty), .int (nZ vth), .int (nZ ven), .int (nZ vsp), .int (nZ vla), .int (nZ vpc)])), (ms, .inl (k 0, 900, .inl (zA s)))] ∧ va_S A s9.heap H locs ∧ lv_has ls 5 [(0, .ref mm), (1, .int (nZ ↑b)), (2, .int (nZ bed)), (3, .int (nZ q)), (4, .int (nZ ↑i))]) (fun (x : Nat × Int) => match x with | (i, q) => 60 - i) ?_ (0, 0) ⟨(by first | omega | assumption | rfl), (by rfl), hP, hD, hS, (lv_sub hl [2, 3, 4, 1, 0] rfl)⟩
  rintro ⟨i, q⟩ H locs ls ⟨hi, hq, hP, hD, hS, hl⟩ ih_5
  refine lv_iload hX hB dX7_clean_5 (lv_at hl 4 rfl) ?_
  refine lv_bipush (v := nZ 60) hX hB dX7_clean_7 (by decide) ?_
  refine zz_icmp_ge X (tgt := 61) dX7_clean_9 (by decide) ⟨by omega, by omega⟩ ⟨by omega, by omega⟩ (fun c_9 => ?_) (fun c_9 => ?_)
  · refine lv_iload_n hX hB dX7_clean_61 rfl (lv_at hl 3 rfl) ?_
    exact zRetI () X hP hD hS rfl (by congr 1; rw [hq, show i = 60 by omega]; exact pcl_60 hb hBk.l20) dX7_clean_62
  · have hLk : B.2 (i / 20) = (B.2 (i / 20)) := rfl
    have hco := hBk.coin (j := i / 20) (by omega) (i % 20)
    have hr9 := pcl_rng B bed i
    refine lv_iload_n hX hB dX7_clean_12 rfl (lv_at hl 3 rfl) ?_
    refine lv_aload_n hX hB dX7_clean_13 rfl (lv_at hl 0 rfl) ?_
    refine lv_iload_n hX hB dX7_clean_14 rfl (lv_at hl 1 rfl) ?_
    refine lv_iload hX hB dX7_clean_15 (lv_at hl 4 rfl) ?_
    refine lv_bipush (v := nZ 20) hX hB dX7_clean_17 (by decide) ?_
    refine zz_idiv X dX7_clean_19 (z := (↑(i / 20) : Int)) (by first | rfl | omega) ⟨by omega, by omega, by omega, by omega⟩ ?_
    refine lv_iload hX hB dX7_clean_20 (lv_at hl 4 rfl) ?_
    refine lv_bipush (v := nZ 20) hX hB dX7_clean_22 (by decide) ?_
    refine zz_irem X dX7_clean_24 (z := (↑(i % 20) : Int)) (by first | rfl | omega) ⟨by omega, by omega, by omega, by omega⟩ ?_
    refine zCallI0 (zRunV (As := [.int (nZ ↑b), .int (nZ (↑(i / 20) : Int)), .int (nZ (↑(i % 20) : Int))]) X mv_X7_coinAt (c_X7_coinAt l D k _ mm ms mk mb vsv vty vth ven vsp vla vpc s b (i / 20) B (i % 20) (B.2 (i / 20)) hBk hbb (by first | assumption | omega | exact ⟨by omega, by omega⟩) hLk (by first | assumption | omega | exact ⟨by omega, by omega⟩)) zw_268 (zPreV hP hD hK [0, 1] rfl rfl 0 7 rfl rfl rfl) rfl hl (Nat.le_of_ble_eq_true rfl) dX7_clean_25 ⟨rfl, rfl, ⟨Nat.le_of_ble_eq_true rfl, Nat.le_of_ble_eq_true rfl⟩, Nat.le_of_ble_eq_true rfl, Nat.le_of_ble_eq_true rfl⟩ rfl) hS hP hD hA [0, 1] rfl (fun _ => rfl) (fun r_25 u_25 H locs hq_25 hP hD hS => ?_)
    subst hq_25
    have hP : va_P D vwCl [(mm, .inr (7, [.ref ms, .int (nZ vsv), .ref mk, .ref mb, .int (nZ vty), .int (nZ vth), .int (nZ ven), .int (nZ vsp), .int (nZ vla), .int (nZ vpc)])), (ms, .inl (k 0, 900, .inl (zA s)))] H := hP
    have hD : va_D A [(mm, .inr (7, [.ref ms, .int (nZ vsv), .ref mk, .ref mb, .int (nZ vty), .int (nZ vth), .int (nZ ven), .int (nZ vsp), .int (nZ vla), .int (nZ vpc)])), (ms, .inl (k 0, 900, .inl (zA s)))] := hD
    refine lv_bipush (v := nZ 10) hX hB dX7_clean_28 (by decide) ?_
    refine lv_iload_n hX hB dX7_clean_30 rfl (lv_at hl 2 rfl) ?_
    refine zz_imul X dX7_clean_31 (z := (10 * bed)) (by first | rfl | omega) ?_
    refine lv_bipush (v := nZ 8) hX hB dX7_clean_32 (by decide) ?_
    refine zz_iadd X dX7_clean_34 (z := ((10 * bed) + 8)) (by first | rfl | omega) ?_
    refine lv_bipush (v := nZ 10) hX hB dX7_clean_35 (by decide) ?_
    refine lv_iload_n hX hB dX7_clean_37 rfl (lv_at hl 2 rfl) ?_
    refine zz_imul X dX7_clean_38 (z := (10 * bed)) (by first | rfl | omega) ?_
    refine lv_bipush (v := nZ 12) hX hB dX7_clean_39 (by decide) ?_
    refine zz_iadd X dX7_clean_41 (z := ((10 * bed) + 12)) (by first | rfl | omega) ?_
    refine zCallI0 (zRunS X ms_X7_in (c_X7_in_g l D k _ (coinS (B.2 (i / 20)) (i % 20)) ((10 * bed) + 8) ((10 * bed) + 12) (by first | assumption | omega | exact ⟨by omega, by omega⟩) (by first | assumption | omega | exact ⟨by omega, by omega⟩) (by first | assumption | omega | exact ⟨by omega, by omega⟩)) zw_239 (zPreS hP hD hK [] rfl rfl) rfl hl (Nat.le_of_ble_eq_true rfl) dX7_clean_42 ⟨rfl, rfl, ⟨Nat.le_of_ble_eq_true rfl, Nat.le_of_ble_eq_true rfl⟩, Nat.le_of_ble_eq_true rfl, Nat.le_of_ble_eq_true rfl⟩ rfl) hS hP hD hA [] rfl (fun _ => rfl) (fun r_42 u_42 H locs hq_42 hP hD hS => ?_)
    subst hq_42
    have hP : va_P D vwCl [(mm, .inr (7, [.ref ms, .int (nZ vsv), .ref mk, .ref mb, .int (nZ vty), .int (nZ vth), .int (nZ ven), .int (nZ vsp), .int (nZ vla), .int (nZ vpc)])), (ms, .inl (k 0, 900, .inl (zA s)))] H := hP
    have hD : va_D A [(mm, .inr (7, [.ref ms, .int (nZ vsv), .ref mk, .ref mb, .int (nZ vty), .int (nZ vth), .int (nZ ven), .int (nZ vsp), .int (nZ vla), .int (nZ vpc)])), (ms, .inl (k 0, 900, .inl (zA s)))] := hD
    refine zz_if_eq X (tgt := 52) dX7_clean_45 (by decide) ⟨by (split <;> omega), by (split <;> omega)⟩ (fun c_45 => ?_) (fun c_45 => ?_)
    · refine lv_iconst (v := nZ 0) hX hB dX7_clean_52 rfl ?_
      refine zz_iadd X dX7_clean_53 (z := q) (by first | rfl | omega) ?_
      refine lv_istore_n (lv' := [(3, .int (nZ q)), (0, .ref mm), (1, .int (nZ ↑b)), (2, .int (nZ bed)), (4, .int (nZ ↑i))]) hX hB dX7_clean_54 rfl hl (by decide) rfl (fun ls hl => ?_)
      refine lv_iinc (v := nZ (↑(i + 1) : Int)) (lv' := [(4, .int (nZ (↑(i + 1) : Int))), (3, .int (nZ q)), (0, .ref mm), (1, .int (nZ ↑b)), (2, .int (nZ bed))]) hX hB dX7_clean_55 hl (k := 4) rfl (zinc (by omega)) (by decide) rfl (fun ls hl => ?_)
      refine lv_goto (tgt := 5) hX hB dX7_clean_58 (by decide) ?_
      exact ih_5 ((i + 1), q) _ _ _ ⟨(by first | omega | assumption | rfl), (by rw [hq]; first | exact (pcl_in c_45).symm | exact (pcl_out c_45).symm), hP, hD, hS, (lv_sub hl [2, 3, 4, 1, 0] rfl)⟩ (by dsimp only; omega)
    · refine lv_iconst (v := nZ 1) hX hB dX7_clean_48 rfl ?_
      refine lv_goto (tgt := 53) hX hB dX7_clean_49 (by decide) ?_
      refine zz_iadd X dX7_clean_53 (z := (q + 1)) (by first | rfl | omega) ?_
      refine lv_istore_n (lv' := [(3, .int (nZ (q + 1))), (0, .ref mm), (1, .int (nZ ↑b)), (2, .int (nZ bed)), (4, .int (nZ ↑i))]) hX hB dX7_clean_54 rfl hl (by decide) rfl (fun ls hl => ?_)
      refine lv_iinc (v := nZ (↑(i + 1) : Int)) (lv' := [(4, .int (nZ (↑(i + 1) : Int))), (3, .int (nZ (q + 1))), (0, .ref mm), (1, .int (nZ ↑b)), (2, .int (nZ bed))]) hX hB dX7_clean_55 hl (k := 4) rfl (zinc (by omega)) (by decide) rfl (fun ls hl => ?_)
      refine lv_goto (tgt := 5) hX hB dX7_clean_58 (by decide) ?_
      exact ih_5 ((i + 1), (q + 1)) _ _ _ ⟨(by first | omega | assumption | rfl), (by rw [hq]; first | exact (pcl_in c_45).symm | exact (pcl_out c_45).symm), hP, hD, hS, (lv_sub hl [2, 3, 4, 1, 0] rfl)⟩ (by dsimp only; omega)
set_option maxHeartbeats 4000000 in
set_option maxRecDepth 100000 in
theorem c_X7_allClean (l : Launch) (D : va_G) (k : Nat → ClassId) (sz : Nat) (mm ms mk mb : Nat) (vsv vty vth ven vsp vla vpc : Int) (s : Nat → Int) (b : Nat) (B : Bd) (hBk : blkOk s b B) (hbb : b ≤ 810) : Met l yX7_allClean (zW yX7_allClean cX7_allClean 4 (some .int)) ({ frames := 3, cells := 0, slots := 0, locals := 69 } : Room) (va_Pc [.ref mm, .int (nZ ↑b)] (zIn D k sz [(mm, .inr (7, [.ref ms, .int (nZ vsv), .ref mk, .ref mb, .int (nZ vty), .int (nZ vth), .int (nZ ven), .int (nZ vsp), .int (nZ vla), .int (nZ vpc)])), (ms, .inl (k 0, 900, .inl (zA s)))])) (va_Qi (fun (rz : Int32) (uz : Unit) => rz = nZ (cleanAllB B)) (fun (uz : Unit) => zOut D (va_A [(mm, .inr (7, [.ref ms, .int (nZ vsv), .ref mk, .ref mb, .int (nZ vty), .int (nZ vth), .int (nZ ven), .int (nZ vsp), .int (nZ vla), .int (nZ vpc)])), (ms, .inl (k 0, 900, .inl (zA s)))] sz) [(mm, .inr (7, [.ref ms, .int (nZ vsv), .ref mk, .ref mb, .int (nZ vty), .int (nZ vth), .int (nZ ven), .int (nZ vsp), .int (nZ vla), .int (nZ vpc)])), (ms, .inl (k 0, 900, .inl (zA s)))]) (va_A [(mm, .inr (7, [.ref ms, .int (nZ vsv), .ref mk, .ref mb, .int (nZ vty), .int (nZ vth), .int (nZ ven), .int (nZ vsp), .int (nZ vla), .int (nZ vpc)])), (ms, .inl (k 0, 900, .inl (zA s)))] sz)) 0 0 (va_A [(mm, .inr (7, [.ref ms, .int (nZ vsv), .ref mk, .ref mb, .int (nZ vty), .int (nZ vth), .int (nZ ven), .int (nZ vsp), .int (nZ vla), .int (nZ vpc)])), (ms, .inl (k 0, 900, .inl (zA s)))] sz) := by
  refine zEnter (Qf := fun A => va_Qi (fun (rz : Int32) (uz : Unit) => rz = nZ (cleanAllB B)) (fun (uz : Unit) => zOut D A [(mm, .inr (7, [.ref ms, .int (nZ vsv), .ref mk, .ref mb, .int (nZ vty), .int (nZ vth), .int (nZ ven), .int (nZ vsp), .int (nZ vla), .int (nZ vpc)])), (ms, .inl (k 0, 900, .inl (zA s)))]) A) RX7 (by decide) rfl (Nat.le_of_ble_eq_true rfl) ?_
  intro p9 e9 s9 m9 be9 me9 c9 ls A X hin hP hD hS hA hAe hl
  have hX := X.1; have hB := X.2.1; have hz := X.2.2.2.2.1; have hW := X.2.2.2.2.2.1; have hK := X.2.2.2.2.2.2.2; clear hAe
  clear hin
  have hl : lv_has ls 4 [(0, .ref mm), (1, .int (nZ ↑b))] := hl
  refine lv_iconst (v := nZ 0) hX hB dX7_allClean_0 rfl ?_
  refine lv_istore_n (lv' := [(2, .int (nZ 0)), (0, .ref mm), (1, .int (nZ ↑b))]) hX hB dX7_allClean_1 rfl hl (by decide) rfl (fun ls hl => ?_)
  refine lv_iconst (v := nZ 0) hX hB dX7_allClean_2 rfl ?_
  refine lv_istore_n (lv' := [(3, .int (nZ 0)), (2, .int (nZ 0)), (0, .ref mm), (1, .int (nZ ↑b))]) hX hB dX7_allClean_3 rfl hl (by decide) rfl (fun ls hl => ?_)
  refine zLoop (σ := Nat × Int) (fun (x : Nat × Int) (H : Heap) (locs : List Loc) (ls : Array Slot) => match x with | (i, q) => (i ≤ 9) ∧ (q = sumTo (fun b => cleanB B b) i) ∧ va_P D vwCl [(mm, .inr (7, [.ref ms, .int (nZ vsv), .ref mk, .ref mb, .int (nZ vty), .int (nZ vth), .int (nZ ven), .int (nZ vsp), .int (nZ vla), .int (nZ vpc)])), (ms, .inl (k 0, 900, .inl (zA s)))] H ∧ va_D A [(mm, .inr (7, [.ref ms, .int (nZ vsv), .ref mk, .ref mb, .int (nZ vty), .int (nZ vth), .int (nZ ven), .int (nZ vsp), .int (nZ vla), .int (nZ vpc)])), (ms, .inl (k 0, 900, .inl (zA s)))] ∧ va_S A s9.heap H locs ∧ lv_has ls 4 [(0, .ref mm), (1, .int (nZ ↑b)), (2, .int (nZ q)), (3, .int (nZ ↑i))]) (fun (x : Nat × Int) => match x with | (i, q) => 9 - i) ?_ (0, 0) ⟨(by first | omega | assumption | rfl), (by rfl), hP, hD, hS, (lv_sub hl [2, 3, 1, 0] rfl)⟩
  rintro ⟨i, q⟩ H locs ls ⟨hi, hq, hP, hD, hS, hl⟩ ih_4
  refine lv_iload_n hX hB dX7_allClean_4 rfl (lv_at hl 3 rfl) ?_
  refine lv_bipush (v := nZ 9) hX hB dX7_allClean_5 (by decide) ?_
  refine zz_icmp_ge X (tgt := 25) dX7_allClean_7 (by decide) ⟨by omega, by omega⟩ ⟨by omega, by omega⟩ (fun c_7 => ?_) (fun c_7 => ?_)
  · refine lv_iload_n hX hB dX7_allClean_25 rfl (lv_at hl 2 rfl) ?_
    exact zRetI () X hP hD hS rfl (by congr 1; rw [hq, show i = 9 by omega]; exact cleanAllB_sum B) dX7_allClean_26
  · refine lv_iload_n hX hB dX7_allClean_10 rfl (lv_at hl 2 rfl) ?_
    refine lv_aload_n hX hB dX7_allClean_11 rfl (lv_at hl 0 rfl) ?_
    refine lv_iload_n hX hB dX7_allClean_12 rfl (lv_at hl 1 rfl) ?_
    refine lv_iload_n hX hB dX7_allClean_13 rfl (lv_at hl 3 rfl) ?_
    refine zCallI0 (zRunV (As := [.int (nZ ↑b), .int (nZ ↑i)]) X mv_X7_clean (c_X7_clean l D k _ mm ms mk mb vsv vty vth ven vsp vla vpc s b B ↑i hBk hbb (by first | assumption | omega | exact ⟨by omega, by omega⟩)) zw_291 (zPreV hP hD hK [0, 1] rfl rfl 0 7 rfl rfl rfl) rfl hl (Nat.le_of_ble_eq_true rfl) dX7_allClean_14 ⟨rfl, rfl, ⟨Nat.le_of_ble_eq_true rfl, Nat.le_of_ble_eq_true rfl⟩, Nat.le_of_ble_eq_true rfl, Nat.le_of_ble_eq_true rfl⟩ rfl) hS hP hD hA [0, 1] rfl (fun _ => rfl) (fun r_14 u_14 H locs hq_14 hP hD hS => ?_)
    subst hq_14
    have hP : va_P D vwCl [(mm, .inr (7, [.ref ms, .int (nZ vsv), .ref mk, .ref mb, .int (nZ vty), .int (nZ vth), .int (nZ ven), .int (nZ vsp), .int (nZ vla), .int (nZ vpc)])), (ms, .inl (k 0, 900, .inl (zA s)))] H := hP
    have hD : va_D A [(mm, .inr (7, [.ref ms, .int (nZ vsv), .ref mk, .ref mb, .int (nZ vty), .int (nZ vth), .int (nZ ven), .int (nZ vsp), .int (nZ vla), .int (nZ vpc)])), (ms, .inl (k 0, 900, .inl (zA s)))] := hD
    refine zz_iadd X dX7_allClean_17 (z := (q + (cleanB B (↑i : Int)))) (by first | rfl | omega) ?_
    refine lv_istore_n (lv' := [(2, .int (nZ (q + (cleanB B (↑i : Int))))), (0, .ref mm), (1, .int (nZ ↑b)), (3, .int (nZ ↑i))]) hX hB dX7_allClean_18 rfl hl (by decide) rfl (fun ls hl => ?_)
    refine lv_iinc (v := nZ (↑(i + 1) : Int)) (lv' := [(3, .int (nZ (↑(i + 1) : Int))), (2, .int (nZ (q + (cleanB B (↑i : Int))))), (0, .ref mm), (1, .int (nZ ↑b))]) hX hB dX7_allClean_19 hl (k := 3) rfl (zinc (by omega)) (by decide) rfl (fun ls hl => ?_)
    refine lv_goto (tgt := 4) hX hB dX7_allClean_22 (by decide) ?_
    exact ih_4 ((i + 1), (q + (cleanB B (↑i : Int)))) _ _ _ ⟨(by first | omega | assumption | rfl), (by rw [hq]; rfl), hP, hD, hS, (lv_sub hl [2, 3, 1, 0] rfl)⟩ (by dsimp only; omega)
set_option maxHeartbeats 4000000 in
set_option maxRecDepth 100000 in
theorem c_X7_wouldGet_0 (l : Launch) (D : va_G) (k : Nat → ClassId) (sz : Nat) (mm ms mk mb : Nat) (vsv vty vth ven vsp vla vpc : Int) (s : Nat → Int) (b : Nat) (B : Bd) (bed : Int) (hBk : blkOk s b B) (hbb : b ≤ 810) (hpl : 0 ≤ B.1 1 ∧ B.1 1 ≤ 1) (hch : chOk (chB B)) (hb : 0 ≤ bed ∧ bed < 9) : Met l yX7_wouldGet (zW yX7_wouldGet cX7_wouldGet 7 (some .int)) ({ frames := 3, cells := 0, slots := 0, locals := 69 } : Room) (va_Pc [.ref mm, .int (nZ ↑b), .int (nZ bed), .int (nZ 0)] (zIn D k sz [(mm, .inr (7, [.ref ms, .int (nZ vsv), .ref mk, .ref mb, .int (nZ vty), .int (nZ vth), .int (nZ ven), .int (nZ vsp), .int (nZ vla), .int (nZ vpc)])), (ms, .inl (k 0, 900, .inl (zA s)))])) (va_Qi (fun (rz : Int32) (uz : Unit) => rz = nZ (ownR (chB B) (B.1 1) bed (cleanB B bed))) (fun (uz : Unit) => zOut D (va_A [(mm, .inr (7, [.ref ms, .int (nZ vsv), .ref mk, .ref mb, .int (nZ vty), .int (nZ vth), .int (nZ ven), .int (nZ vsp), .int (nZ vla), .int (nZ vpc)])), (ms, .inl (k 0, 900, .inl (zA s)))] sz) [(mm, .inr (7, [.ref ms, .int (nZ vsv), .ref mk, .ref mb, .int (nZ vty), .int (nZ vth), .int (nZ ven), .int (nZ vsp), .int (nZ vla), .int (nZ vpc)])), (ms, .inl (k 0, 900, .inl (zA s)))]) (va_A [(mm, .inr (7, [.ref ms, .int (nZ vsv), .ref mk, .ref mb, .int (nZ vty), .int (nZ vth), .int (nZ ven), .int (nZ vsp), .int (nZ vla), .int (nZ vpc)])), (ms, .inl (k 0, 900, .inl (zA s)))] sz)) 0 0 (va_A [(mm, .inr (7, [.ref ms, .int (nZ vsv), .ref mk, .ref mb, .int (nZ vty), .int (nZ vth), .int (nZ ven), .int (nZ vsp), .int (nZ vla), .int (nZ vpc)])), (ms, .inl (k 0, 900, .inl (zA s)))] sz) := by
  refine zEnter (Qf := fun A => va_Qi (fun (rz : Int32) (uz : Unit) => rz = nZ (ownR (chB B) (B.1 1) bed (cleanB B bed))) (fun (uz : Unit) => zOut D A [(mm, .inr (7, [.ref ms, .int (nZ vsv), .ref mk, .ref mb, .int (nZ vty), .int (nZ vth), .int (nZ ven), .int (nZ vsp), .int (nZ vla), .int (nZ vpc)])), (ms, .inl (k 0, 900, .inl (zA s)))]) A) RX7 (by decide) rfl (Nat.le_of_ble_eq_true rfl) ?_
  intro p9 e9 s9 m9 be9 me9 c9 ls A X hin hP hD hS hA hAe hl
  have hX := X.1; have hB := X.2.1; have hz := X.2.2.2.2.1; have hW := X.2.2.2.2.2.1; have hK := X.2.2.2.2.2.2.2; clear hAe
  clear hin
  have hl : lv_has ls 7 [(0, .ref mm), (1, .int (nZ ↑b)), (2, .int (nZ bed)), (3, .int (nZ 0))] := hl
  have hp1 : s (b + 1) = B.1 1 := hBk.num (k := 1) (by omega)
  have hcl := cleanB_rng hBk.l20 bed
  have hc1 := hch (s (b + 1) * 9 + bed).toNat (by omega)
  have hc2 := hch ((1 - s (b + 1)) * 9 + bed).toNat (by omega)
  refine lv_aload_n hX hB dX7_wouldGet_0 rfl (lv_at hl 0 rfl) ?_
  refine va_get hX hB hz inlX7 hW hK.1 hP 0 rfl rfl 0 (by decide) (hz _ zw_74) (fun _ h9 => h9) rfl dX7_wouldGet_1 ?_
  refine lv_iload_n hX hB dX7_wouldGet_4 rfl (lv_at hl 1 rfl) ?_
  refine lv_iconst (v := nZ 1) hX hB dX7_wouldGet_5 rfl ?_
  refine zz_iadd X dX7_wouldGet_6 (z := (↑(b + 1) : Int)) (by first | rfl | omega) ?_
  refine zz_iald X hP 1 0 rfl rfl (b + 1) (by omega) (by omega) (by first | decide | omega) dX7_wouldGet_7 ?_
  refine lv_istore (lv' := [(4, .int (nZ (s (b + 1)))), (0, .ref mm), (1, .int (nZ ↑b)), (2, .int (nZ bed)), (3, .int (nZ 0))]) hX hB dX7_wouldGet_8 hl (by decide) rfl (fun ls hl => ?_)
  refine lv_aload_n hX hB dX7_wouldGet_10 rfl (lv_at hl 1 rfl) ?_
  refine lv_iload_n hX hB dX7_wouldGet_11 rfl (lv_at hl 2 rfl) ?_
  refine lv_iload_n hX hB dX7_wouldGet_12 rfl (lv_at hl 3 rfl) ?_
  refine zCallI0 (zRunV (As := [.int (nZ ↑b), .int (nZ bed)]) X mv_X7_clean (c_X7_clean l D k _ mm ms mk mb vsv vty vth ven vsp vla vpc s b B bed hBk hbb hb) zw_291 (zPreV hP hD hK [0, 1] rfl rfl 0 7 rfl rfl rfl) rfl hl (Nat.le_of_ble_eq_true rfl) dX7_wouldGet_13 ⟨rfl, rfl, ⟨Nat.le_of_ble_eq_true rfl, Nat.le_of_ble_eq_true rfl⟩, Nat.le_of_ble_eq_true rfl, Nat.le_of_ble_eq_true rfl⟩ rfl) hS hP hD hA [0, 1] rfl (fun _ => rfl) (fun r_13 u_13 H locs hq_13 hP hD hS => ?_)
  subst hq_13
  have hP : va_P D vwCl [(mm, .inr (7, [.ref ms, .int (nZ vsv), .ref mk, .ref mb, .int (nZ vty), .int (nZ vth), .int (nZ ven), .int (nZ vsp), .int (nZ vla), .int (nZ vpc)])), (ms, .inl (k 0, 900, .inl (zA s)))] H := hP
  have hD : va_D A [(mm, .inr (7, [.ref ms, .int (nZ vsv), .ref mk, .ref mb, .int (nZ vty), .int (nZ vth), .int (nZ ven), .int (nZ vsp), .int (nZ vla), .int (nZ vpc)])), (ms, .inl (k 0, 900, .inl (zA s)))] := hD
  refine lv_istore (lv' := [(5, .int (nZ (cleanB B bed))), (4, .int (nZ (s (b + 1)))), (0, .ref mm), (1, .int (nZ ↑b)), (2, .int (nZ bed)), (3, .int (nZ 0))]) hX hB dX7_wouldGet_16 hl (by decide) rfl (fun ls hl => ?_)
  refine lv_iload hX hB dX7_wouldGet_18 (lv_at hl 0 rfl) ?_
  refine lv_iconst (v := nZ 3) hX hB dX7_wouldGet_20 rfl ?_
  refine lv_aload_n hX hB dX7_wouldGet_21 rfl (lv_at hl 2 rfl) ?_
  refine lv_iload_n hX hB dX7_wouldGet_22 rfl (lv_at hl 3 rfl) ?_
  refine lv_iload hX hB dX7_wouldGet_23 (lv_at hl 1 rfl) ?_
  refine lv_iload_n hX hB dX7_wouldGet_25 rfl (lv_at hl 4 rfl) ?_
  refine zCallI0 (zRunV (As := [.int (nZ ↑b), .int (nZ (s (b + 1))), .int (nZ bed)]) X mv_X7_chalks (c_X7_chalks l D k _ mm ms mk mb vsv vty vth ven vsp vla vpc s b B (s (b + 1)) bed hBk hbb (by first | assumption | omega | exact ⟨by omega, by omega⟩) hb) zw_295 (zPreV hP hD hK [0, 1] rfl rfl 0 7 rfl rfl rfl) rfl hl (Nat.le_of_ble_eq_true rfl) dX7_wouldGet_26 ⟨rfl, rfl, ⟨Nat.le_of_ble_eq_true rfl, Nat.le_of_ble_eq_true rfl⟩, Nat.le_of_ble_eq_true rfl, Nat.le_of_ble_eq_true rfl⟩ rfl) hS hP hD hA [0, 1] rfl (fun _ => rfl) (fun r_26 u_26 H locs hq_26 hP hD hS => ?_)
  subst hq_26
  have hP : va_P D vwCl [(mm, .inr (7, [.ref ms, .int (nZ vsv), .ref mk, .ref mb, .int (nZ vty), .int (nZ vth), .int (nZ ven), .int (nZ vsp), .int (nZ vla), .int (nZ vpc)])), (ms, .inl (k 0, 900, .inl (zA s)))] H := hP
  have hD : va_D A [(mm, .inr (7, [.ref ms, .int (nZ vsv), .ref mk, .ref mb, .int (nZ vty), .int (nZ vth), .int (nZ ven), .int (nZ vsp), .int (nZ vla), .int (nZ vpc)])), (ms, .inl (k 0, 900, .inl (zA s)))] := hD
  refine zz_isub X dX7_wouldGet_29 (z := (3 - (chB B ((s (b + 1)) * 9 + bed).toNat))) (by first | rfl | omega) ?_
  refine zCallI0 (zRunS X ms_X7_least (c_X7_least l D k _ (cleanB B bed) (3 - (chB B ((s (b + 1)) * 9 + bed).toNat)) (by first | assumption | omega | exact ⟨by omega, by omega⟩) (by first | assumption | omega | exact ⟨by omega, by omega⟩)) zw_299 (zPreS hP hD hK [] rfl rfl) rfl hl (Nat.le_of_ble_eq_true rfl) dX7_wouldGet_30 ⟨rfl, rfl, ⟨Nat.le_of_ble_eq_true rfl, Nat.le_of_ble_eq_true rfl⟩, Nat.le_of_ble_eq_true rfl, Nat.le_of_ble_eq_true rfl⟩ rfl) hS hP hD hA [] rfl (fun _ => rfl) (fun r_30 u_30 H locs hq_30 hP hD hS => ?_)
  subst hq_30
  have hP : va_P D vwCl [(mm, .inr (7, [.ref ms, .int (nZ vsv), .ref mk, .ref mb, .int (nZ vty), .int (nZ vth), .int (nZ ven), .int (nZ vsp), .int (nZ vla), .int (nZ vpc)])), (ms, .inl (k 0, 900, .inl (zA s)))] H := hP
  have hD : va_D A [(mm, .inr (7, [.ref ms, .int (nZ vsv), .ref mk, .ref mb, .int (nZ vty), .int (nZ vth), .int (nZ ven), .int (nZ vsp), .int (nZ vla), .int (nZ vpc)])), (ms, .inl (k 0, 900, .inl (zA s)))] := hD
  refine lv_istore (lv' := [(6, .int (nZ (min (cleanB B bed) (3 - (chB B ((s (b + 1)) * 9 + bed).toNat))))), (5, .int (nZ (cleanB B bed))), (4, .int (nZ (s (b + 1)))), (0, .ref mm), (1, .int (nZ ↑b)), (2, .int (nZ bed)), (3, .int (nZ 0))]) hX hB dX7_wouldGet_33 hl (by decide) rfl (fun ls hl => ?_)
  refine lv_iload_n hX hB dX7_wouldGet_35 rfl (lv_at hl 6 rfl) ?_
  refine zz_if_eq X (tgt := 62) dX7_wouldGet_36 (by decide) ⟨by omega, by omega⟩ (fun c_36 => ?_) (fun c_36 => ?_)
  · refine lv_iload hX hB dX7_wouldGet_62 (lv_at hl 0 rfl) ?_
    exact zRetI () X hP hD hS rfl (by congr 1; rw [← hp1]; rfl) dX7_wouldGet_64
  · exfalso; omega
set_option maxHeartbeats 4000000 in
set_option maxRecDepth 100000 in
theorem c_X7_wouldGet_1 (l : Launch) (D : va_G) (k : Nat → ClassId) (sz : Nat) (mm ms mk mb : Nat) (vsv vty vth ven vsp vla vpc : Int) (s : Nat → Int) (b : Nat) (B : Bd) (bed : Int) (hBk : blkOk s b B) (hbb : b ≤ 810) (hpl : 0 ≤ B.1 1 ∧ B.1 1 ≤ 1) (hch : chOk (chB B)) (hb : 0 ≤ bed ∧ bed < 9) : Met l yX7_wouldGet (zW yX7_wouldGet cX7_wouldGet 7 (some .int)) ({ frames := 3, cells := 0, slots := 0, locals := 69 } : Room) (va_Pc [.ref mm, .int (nZ ↑b), .int (nZ bed), .int (nZ 1)] (zIn D k sz [(mm, .inr (7, [.ref ms, .int (nZ vsv), .ref mk, .ref mb, .int (nZ vty), .int (nZ vth), .int (nZ ven), .int (nZ vsp), .int (nZ vla), .int (nZ vpc)])), (ms, .inl (k 0, 900, .inl (zA s)))])) (va_Qi (fun (rz : Int32) (uz : Unit) => rz = nZ (othR (chB B) (B.1 1) bed (cleanB B bed))) (fun (uz : Unit) => zOut D (va_A [(mm, .inr (7, [.ref ms, .int (nZ vsv), .ref mk, .ref mb, .int (nZ vty), .int (nZ vth), .int (nZ ven), .int (nZ vsp), .int (nZ vla), .int (nZ vpc)])), (ms, .inl (k 0, 900, .inl (zA s)))] sz) [(mm, .inr (7, [.ref ms, .int (nZ vsv), .ref mk, .ref mb, .int (nZ vty), .int (nZ vth), .int (nZ ven), .int (nZ vsp), .int (nZ vla), .int (nZ vpc)])), (ms, .inl (k 0, 900, .inl (zA s)))]) (va_A [(mm, .inr (7, [.ref ms, .int (nZ vsv), .ref mk, .ref mb, .int (nZ vty), .int (nZ vth), .int (nZ ven), .int (nZ vsp), .int (nZ vla), .int (nZ vpc)])), (ms, .inl (k 0, 900, .inl (zA s)))] sz)) 0 0 (va_A [(mm, .inr (7, [.ref ms, .int (nZ vsv), .ref mk, .ref mb, .int (nZ vty), .int (nZ vth), .int (nZ ven), .int (nZ vsp), .int (nZ vla), .int (nZ vpc)])), (ms, .inl (k 0, 900, .inl (zA s)))] sz) := by
  refine zEnter (Qf := fun A => va_Qi (fun (rz : Int32) (uz : Unit) => rz = nZ (othR (chB B) (B.1 1) bed (cleanB B bed))) (fun (uz : Unit) => zOut D A [(mm, .inr (7, [.ref ms, .int (nZ vsv), .ref mk, .ref mb, .int (nZ vty), .int (nZ vth), .int (nZ ven), .int (nZ vsp), .int (nZ vla), .int (nZ vpc)])), (ms, .inl (k 0, 900, .inl (zA s)))]) A) RX7 (by decide) rfl (Nat.le_of_ble_eq_true rfl) ?_
  intro p9 e9 s9 m9 be9 me9 c9 ls A X hin hP hD hS hA hAe hl
  have hX := X.1; have hB := X.2.1; have hz := X.2.2.2.2.1; have hW := X.2.2.2.2.2.1; have hK := X.2.2.2.2.2.2.2; clear hAe
  clear hin
  have hl : lv_has ls 7 [(0, .ref mm), (1, .int (nZ ↑b)), (2, .int (nZ bed)), (3, .int (nZ 1))] := hl
  have hp1 : s (b + 1) = B.1 1 := hBk.num (k := 1) (by omega)
  have hcl := cleanB_rng hBk.l20 bed
  have hc1 := hch (s (b + 1) * 9 + bed).toNat (by omega)
  have hc2 := hch ((1 - s (b + 1)) * 9 + bed).toNat (by omega)
  refine lv_aload_n hX hB dX7_wouldGet_0 rfl (lv_at hl 0 rfl) ?_
  refine va_get hX hB hz inlX7 hW hK.1 hP 0 rfl rfl 0 (by decide) (hz _ zw_74) (fun _ h9 => h9) rfl dX7_wouldGet_1 ?_
  refine lv_iload_n hX hB dX7_wouldGet_4 rfl (lv_at hl 1 rfl) ?_
  refine lv_iconst (v := nZ 1) hX hB dX7_wouldGet_5 rfl ?_
  refine zz_iadd X dX7_wouldGet_6 (z := (↑(b + 1) : Int)) (by first | rfl | omega) ?_
  refine zz_iald X hP 1 0 rfl rfl (b + 1) (by omega) (by omega) (by first | decide | omega) dX7_wouldGet_7 ?_
  refine lv_istore (lv' := [(4, .int (nZ (s (b + 1)))), (0, .ref mm), (1, .int (nZ ↑b)), (2, .int (nZ bed)), (3, .int (nZ 1))]) hX hB dX7_wouldGet_8 hl (by decide) rfl (fun ls hl => ?_)
  refine lv_aload_n hX hB dX7_wouldGet_10 rfl (lv_at hl 1 rfl) ?_
  refine lv_iload_n hX hB dX7_wouldGet_11 rfl (lv_at hl 2 rfl) ?_
  refine lv_iload_n hX hB dX7_wouldGet_12 rfl (lv_at hl 3 rfl) ?_
  refine zCallI0 (zRunV (As := [.int (nZ ↑b), .int (nZ bed)]) X mv_X7_clean (c_X7_clean l D k _ mm ms mk mb vsv vty vth ven vsp vla vpc s b B bed hBk hbb hb) zw_291 (zPreV hP hD hK [0, 1] rfl rfl 0 7 rfl rfl rfl) rfl hl (Nat.le_of_ble_eq_true rfl) dX7_wouldGet_13 ⟨rfl, rfl, ⟨Nat.le_of_ble_eq_true rfl, Nat.le_of_ble_eq_true rfl⟩, Nat.le_of_ble_eq_true rfl, Nat.le_of_ble_eq_true rfl⟩ rfl) hS hP hD hA [0, 1] rfl (fun _ => rfl) (fun r_13 u_13 H locs hq_13 hP hD hS => ?_)
  subst hq_13
  have hP : va_P D vwCl [(mm, .inr (7, [.ref ms, .int (nZ vsv), .ref mk, .ref mb, .int (nZ vty), .int (nZ vth), .int (nZ ven), .int (nZ vsp), .int (nZ vla), .int (nZ vpc)])), (ms, .inl (k 0, 900, .inl (zA s)))] H := hP
  have hD : va_D A [(mm, .inr (7, [.ref ms, .int (nZ vsv), .ref mk, .ref mb, .int (nZ vty), .int (nZ vth), .int (nZ ven), .int (nZ vsp), .int (nZ vla), .int (nZ vpc)])), (ms, .inl (k 0, 900, .inl (zA s)))] := hD
  refine lv_istore (lv' := [(5, .int (nZ (cleanB B bed))), (4, .int (nZ (s (b + 1)))), (0, .ref mm), (1, .int (nZ ↑b)), (2, .int (nZ bed)), (3, .int (nZ 1))]) hX hB dX7_wouldGet_16 hl (by decide) rfl (fun ls hl => ?_)
  refine lv_iload hX hB dX7_wouldGet_18 (lv_at hl 0 rfl) ?_
  refine lv_iconst (v := nZ 3) hX hB dX7_wouldGet_20 rfl ?_
  refine lv_aload_n hX hB dX7_wouldGet_21 rfl (lv_at hl 2 rfl) ?_
  refine lv_iload_n hX hB dX7_wouldGet_22 rfl (lv_at hl 3 rfl) ?_
  refine lv_iload hX hB dX7_wouldGet_23 (lv_at hl 1 rfl) ?_
  refine lv_iload_n hX hB dX7_wouldGet_25 rfl (lv_at hl 4 rfl) ?_
  refine zCallI0 (zRunV (As := [.int (nZ ↑b), .int (nZ (s (b + 1))), .int (nZ bed)]) X mv_X7_chalks (c_X7_chalks l D k _ mm ms mk mb vsv vty vth ven vsp vla vpc s b B (s (b + 1)) bed hBk hbb (by first | assumption | omega | exact ⟨by omega, by omega⟩) hb) zw_295 (zPreV hP hD hK [0, 1] rfl rfl 0 7 rfl rfl rfl) rfl hl (Nat.le_of_ble_eq_true rfl) dX7_wouldGet_26 ⟨rfl, rfl, ⟨Nat.le_of_ble_eq_true rfl, Nat.le_of_ble_eq_true rfl⟩, Nat.le_of_ble_eq_true rfl, Nat.le_of_ble_eq_true rfl⟩ rfl) hS hP hD hA [0, 1] rfl (fun _ => rfl) (fun r_26 u_26 H locs hq_26 hP hD hS => ?_)
  subst hq_26
  have hP : va_P D vwCl [(mm, .inr (7, [.ref ms, .int (nZ vsv), .ref mk, .ref mb, .int (nZ vty), .int (nZ vth), .int (nZ ven), .int (nZ vsp), .int (nZ vla), .int (nZ vpc)])), (ms, .inl (k 0, 900, .inl (zA s)))] H := hP
  have hD : va_D A [(mm, .inr (7, [.ref ms, .int (nZ vsv), .ref mk, .ref mb, .int (nZ vty), .int (nZ vth), .int (nZ ven), .int (nZ vsp), .int (nZ vla), .int (nZ vpc)])), (ms, .inl (k 0, 900, .inl (zA s)))] := hD
  refine zz_isub X dX7_wouldGet_29 (z := (3 - (chB B ((s (b + 1)) * 9 + bed).toNat))) (by first | rfl | omega) ?_
  refine zCallI0 (zRunS X ms_X7_least (c_X7_least l D k _ (cleanB B bed) (3 - (chB B ((s (b + 1)) * 9 + bed).toNat)) (by first | assumption | omega | exact ⟨by omega, by omega⟩) (by first | assumption | omega | exact ⟨by omega, by omega⟩)) zw_299 (zPreS hP hD hK [] rfl rfl) rfl hl (Nat.le_of_ble_eq_true rfl) dX7_wouldGet_30 ⟨rfl, rfl, ⟨Nat.le_of_ble_eq_true rfl, Nat.le_of_ble_eq_true rfl⟩, Nat.le_of_ble_eq_true rfl, Nat.le_of_ble_eq_true rfl⟩ rfl) hS hP hD hA [] rfl (fun _ => rfl) (fun r_30 u_30 H locs hq_30 hP hD hS => ?_)
  subst hq_30
  have hP : va_P D vwCl [(mm, .inr (7, [.ref ms, .int (nZ vsv), .ref mk, .ref mb, .int (nZ vty), .int (nZ vth), .int (nZ ven), .int (nZ vsp), .int (nZ vla), .int (nZ vpc)])), (ms, .inl (k 0, 900, .inl (zA s)))] H := hP
  have hD : va_D A [(mm, .inr (7, [.ref ms, .int (nZ vsv), .ref mk, .ref mb, .int (nZ vty), .int (nZ vth), .int (nZ ven), .int (nZ vsp), .int (nZ vla), .int (nZ vpc)])), (ms, .inl (k 0, 900, .inl (zA s)))] := hD
  refine lv_istore (lv' := [(6, .int (nZ (min (cleanB B bed) (3 - (chB B ((s (b + 1)) * 9 + bed).toNat))))), (5, .int (nZ (cleanB B bed))), (4, .int (nZ (s (b + 1)))), (0, .ref mm), (1, .int (nZ ↑b)), (2, .int (nZ bed)), (3, .int (nZ 1))]) hX hB dX7_wouldGet_33 hl (by decide) rfl (fun ls hl => ?_)
  refine lv_iload_n hX hB dX7_wouldGet_35 rfl (lv_at hl 6 rfl) ?_
  refine zz_if_eq X (tgt := 62) dX7_wouldGet_36 (by decide) ⟨by omega, by omega⟩ (fun c_36 => ?_) (fun c_36 => ?_)
  · exfalso; omega
  · refine lv_iload hX hB dX7_wouldGet_39 (lv_at hl 1 rfl) ?_
    refine lv_iload hX hB dX7_wouldGet_41 (lv_at hl 0 rfl) ?_
    refine zz_isub X dX7_wouldGet_43 (z := ((cleanB B bed) - (min (cleanB B bed) (3 - (chB B ((s (b + 1)) * 9 + bed).toNat))))) (by first | rfl | omega) ?_
    refine lv_iconst (v := nZ 3) hX hB dX7_wouldGet_44 rfl ?_
    refine lv_aload_n hX hB dX7_wouldGet_45 rfl (lv_at hl 3 rfl) ?_
    refine lv_iload_n hX hB dX7_wouldGet_46 rfl (lv_at hl 4 rfl) ?_
    refine lv_iconst (v := nZ 1) hX hB dX7_wouldGet_47 rfl ?_
    refine lv_iload hX hB dX7_wouldGet_48 (lv_at hl 2 rfl) ?_
    refine zz_isub X dX7_wouldGet_50 (z := (1 - (s (b + 1)))) (by first | rfl | omega) ?_
    refine lv_iload_n hX hB dX7_wouldGet_51 rfl (lv_at hl 5 rfl) ?_
    refine zCallI0 (zRunV (As := [.int (nZ ↑b), .int (nZ (1 - (s (b + 1)))), .int (nZ bed)]) X mv_X7_chalks (c_X7_chalks l D k _ mm ms mk mb vsv vty vth ven vsp vla vpc s b B (1 - (s (b + 1))) bed hBk hbb (by first | assumption | omega | exact ⟨by omega, by omega⟩) hb) zw_295 (zPreV hP hD hK [0, 1] rfl rfl 0 7 rfl rfl rfl) rfl hl (Nat.le_of_ble_eq_true rfl) dX7_wouldGet_52 ⟨rfl, rfl, ⟨Nat.le_of_ble_eq_true rfl, Nat.le_of_ble_eq_true rfl⟩, Nat.le_of_ble_eq_true rfl, Nat.le_of_ble_eq_true rfl⟩ rfl) hS hP hD hA [0, 1] rfl (fun _ => rfl) (fun r_52 u_52 H locs hq_52 hP hD hS => ?_)
    subst hq_52
    have hP : va_P D vwCl [(mm, .inr (7, [.ref ms, .int (nZ vsv), .ref mk, .ref mb, .int (nZ vty), .int (nZ vth), .int (nZ ven), .int (nZ vsp), .int (nZ vla), .int (nZ vpc)])), (ms, .inl (k 0, 900, .inl (zA s)))] H := hP
    have hD : va_D A [(mm, .inr (7, [.ref ms, .int (nZ vsv), .ref mk, .ref mb, .int (nZ vty), .int (nZ vth), .int (nZ ven), .int (nZ vsp), .int (nZ vla), .int (nZ vpc)])), (ms, .inl (k 0, 900, .inl (zA s)))] := hD
    refine zz_isub X dX7_wouldGet_55 (z := (3 - (chB B ((1 - (s (b + 1))) * 9 + bed).toNat))) (by first | rfl | omega) ?_
    refine zCallI0 (zRunS X ms_X7_least (c_X7_least l D k _ ((cleanB B bed) - (min (cleanB B bed) (3 - (chB B ((s (b + 1)) * 9 + bed).toNat)))) (3 - (chB B ((1 - (s (b + 1))) * 9 + bed).toNat)) (by first | assumption | omega | exact ⟨by omega, by omega⟩) (by first | assumption | omega | exact ⟨by omega, by omega⟩)) zw_299 (zPreS hP hD hK [] rfl rfl) rfl hl (Nat.le_of_ble_eq_true rfl) dX7_wouldGet_56 ⟨rfl, rfl, ⟨Nat.le_of_ble_eq_true rfl, Nat.le_of_ble_eq_true rfl⟩, Nat.le_of_ble_eq_true rfl, Nat.le_of_ble_eq_true rfl⟩ rfl) hS hP hD hA [] rfl (fun _ => rfl) (fun r_56 u_56 H locs hq_56 hP hD hS => ?_)
    subst hq_56
    have hP : va_P D vwCl [(mm, .inr (7, [.ref ms, .int (nZ vsv), .ref mk, .ref mb, .int (nZ vty), .int (nZ vth), .int (nZ ven), .int (nZ vsp), .int (nZ vla), .int (nZ vpc)])), (ms, .inl (k 0, 900, .inl (zA s)))] H := hP
    have hD : va_D A [(mm, .inr (7, [.ref ms, .int (nZ vsv), .ref mk, .ref mb, .int (nZ vty), .int (nZ vth), .int (nZ ven), .int (nZ vsp), .int (nZ vla), .int (nZ vpc)])), (ms, .inl (k 0, 900, .inl (zA s)))] := hD
    refine lv_goto (tgt := 64) hX hB dX7_wouldGet_59 (by decide) ?_
    exact zRetI () X hP hD hS rfl (by congr 1; rw [← hp1]; rfl) dX7_wouldGet_64
set_option maxHeartbeats 4000000 in
set_option maxRecDepth 100000 in
theorem c_X7_chalksOf (l : Launch) (D : va_G) (k : Nat → ClassId) (sz : Nat) (mm ms mk mb : Nat) (vsv vty vth ven vsp vla vpc : Int) (s : Nat → Int) (B : Bd) (pl : Int) (hBk : blkOk s 0 B) (hp : 0 ≤ pl ∧ pl ≤ 1) : Met l yX7_chalksOf (zW yX7_chalksOf cX7_chalksOf 4 (some .int)) ({ frames := 1, cells := 0, slots := 0, locals := 23 } : Room) (va_Pc [.ref mm, .int (nZ pl)] (zIn D k sz [(mm, .inr (7, [.ref ms, .int (nZ vsv), .ref mk, .ref mb, .int (nZ vty), .int (nZ vth), .int (nZ ven), .int (nZ vsp), .int (nZ vla), .int (nZ vpc)])), (ms, .inl (k 0, 900, .inl (zA s)))])) (va_Qi (fun (rz : Int32) (uz : Unit) => rz = nZ (chSum (chB B) pl)) (fun (uz : Unit) => zOut D (va_A [(mm, .inr (7, [.ref ms, .int (nZ vsv), .ref mk, .ref mb, .int (nZ vty), .int (nZ vth), .int (nZ ven), .int (nZ vsp), .int (nZ vla), .int (nZ vpc)])), (ms, .inl (k 0, 900, .inl (zA s)))] sz) [(mm, .inr (7, [.ref ms, .int (nZ vsv), .ref mk, .ref mb, .int (nZ vty), .int (nZ vth), .int (nZ ven), .int (nZ vsp), .int (nZ vla), .int (nZ vpc)])), (ms, .inl (k 0, 900, .inl (zA s)))]) (va_A [(mm, .inr (7, [.ref ms, .int (nZ vsv), .ref mk, .ref mb, .int (nZ vty), .int (nZ vth), .int (nZ ven), .int (nZ vsp), .int (nZ vla), .int (nZ vpc)])), (ms, .inl (k 0, 900, .inl (zA s)))] sz)) 0 0 (va_A [(mm, .inr (7, [.ref ms, .int (nZ vsv), .ref mk, .ref mb, .int (nZ vty), .int (nZ vth), .int (nZ ven), .int (nZ vsp), .int (nZ vla), .int (nZ vpc)])), (ms, .inl (k 0, 900, .inl (zA s)))] sz) := by
  refine zEnter (Qf := fun A => va_Qi (fun (rz : Int32) (uz : Unit) => rz = nZ (chSum (chB B) pl)) (fun (uz : Unit) => zOut D A [(mm, .inr (7, [.ref ms, .int (nZ vsv), .ref mk, .ref mb, .int (nZ vty), .int (nZ vth), .int (nZ ven), .int (nZ vsp), .int (nZ vla), .int (nZ vpc)])), (ms, .inl (k 0, 900, .inl (zA s)))]) A) RX7 (by decide) rfl (Nat.le_of_ble_eq_true rfl) ?_
  intro p9 e9 s9 m9 be9 me9 c9 ls A X hin hP hD hS hA hAe hl
  have hX := X.1; have hB := X.2.1; have hz := X.2.2.2.2.1; have hW := X.2.2.2.2.2.1; have hK := X.2.2.2.2.2.2.2; clear hAe
  clear hin
  have hl : lv_has ls 4 [(0, .ref mm), (1, .int (nZ pl))] := hl
  refine lv_iconst (v := nZ 0) hX hB dX7_chalksOf_0 rfl ?_
  refine lv_istore_n (lv' := [(2, .int (nZ 0)), (0, .ref mm), (1, .int (nZ pl))]) hX hB dX7_chalksOf_1 rfl hl (by decide) rfl (fun ls hl => ?_)
  refine lv_iconst (v := nZ 0) hX hB dX7_chalksOf_2 rfl ?_
  refine lv_istore_n (lv' := [(3, .int (nZ 0)), (2, .int (nZ 0)), (0, .ref mm), (1, .int (nZ pl))]) hX hB dX7_chalksOf_3 rfl hl (by decide) rfl (fun ls hl => ?_)
  refine zLoop (σ := Nat × Int) (fun (x : Nat × Int) (H : Heap) (locs : List Loc) (ls : Array Slot) => match x with | (i, q) => (i ≤ 9) ∧ (q = sumTo (fun b => chB B (pl * 9 + (b : Int)).toNat) i) ∧ va_P D vwCl [(mm, .inr (7, [.ref ms, .int (nZ vsv), .ref mk, .ref mb, .int (nZ vty), .int (nZ vth), .int (nZ ven), .int (nZ vsp), .int (nZ vla), .int (nZ vpc)])), (ms, .inl (k 0, 900, .inl (zA s)))] H ∧ va_D A [(mm, .inr (7, [.ref ms, .int (nZ vsv), .ref mk, .ref mb, .int (nZ vty), .int (nZ vth), .int (nZ ven), .int (nZ vsp), .int (nZ vla), .int (nZ vpc)])), (ms, .inl (k 0, 900, .inl (zA s)))] ∧ va_S A s9.heap H locs ∧ lv_has ls 4 [(0, .ref mm), (1, .int (nZ pl)), (2, .int (nZ q)), (3, .int (nZ ↑i))]) (fun (x : Nat × Int) => match x with | (i, q) => 9 - i) ?_ (0, 0) ⟨(by first | omega | assumption | rfl), (by rfl), hP, hD, hS, (lv_sub hl [2, 3, 1, 0] rfl)⟩
  rintro ⟨i, q⟩ H locs ls ⟨hi, hq, hP, hD, hS, hl⟩ ih_4
  refine lv_iload_n hX hB dX7_chalksOf_4 rfl (lv_at hl 3 rfl) ?_
  refine lv_bipush (v := nZ 9) hX hB dX7_chalksOf_5 (by decide) ?_
  refine zz_icmp_ge X (tgt := 26) dX7_chalksOf_7 (by decide) ⟨by omega, by omega⟩ ⟨by omega, by omega⟩ (fun c_7 => ?_) (fun c_7 => ?_)
  · refine lv_iload_n hX hB dX7_chalksOf_26 rfl (lv_at hl 2 rfl) ?_
    exact zRetI () X hP hD hS rfl (by congr 1; rw [hq, show i = 9 by omega]; rfl) dX7_chalksOf_27
  · refine lv_iload_n hX hB dX7_chalksOf_10 rfl (lv_at hl 2 rfl) ?_
    refine lv_aload_n hX hB dX7_chalksOf_11 rfl (lv_at hl 0 rfl) ?_
    refine lv_iconst (v := nZ 0) hX hB dX7_chalksOf_12 rfl ?_
    refine lv_iload_n hX hB dX7_chalksOf_13 rfl (lv_at hl 1 rfl) ?_
    refine lv_iload_n hX hB dX7_chalksOf_14 rfl (lv_at hl 3 rfl) ?_
    refine zCallI0 (zRunV (As := [.int (nZ 0), .int (nZ pl), .int (nZ ↑i)]) X mv_X7_chalks (c_X7_chalks l D k _ mm ms mk mb vsv vty vth ven vsp vla vpc s 0 B pl ↑i (hBk) (by omega) hp (by first | assumption | omega | exact ⟨by omega, by omega⟩)) zw_295 (zPreV hP hD hK [0, 1] rfl rfl 0 7 rfl rfl rfl) rfl hl (Nat.le_of_ble_eq_true rfl) dX7_chalksOf_15 ⟨rfl, rfl, ⟨Nat.le_of_ble_eq_true rfl, Nat.le_of_ble_eq_true rfl⟩, Nat.le_of_ble_eq_true rfl, Nat.le_of_ble_eq_true rfl⟩ rfl) hS hP hD hA [0, 1] rfl (fun _ => rfl) (fun r_15 u_15 H locs hq_15 hP hD hS => ?_)
    subst hq_15
    have hP : va_P D vwCl [(mm, .inr (7, [.ref ms, .int (nZ vsv), .ref mk, .ref mb, .int (nZ vty), .int (nZ vth), .int (nZ ven), .int (nZ vsp), .int (nZ vla), .int (nZ vpc)])), (ms, .inl (k 0, 900, .inl (zA s)))] H := hP
    have hD : va_D A [(mm, .inr (7, [.ref ms, .int (nZ vsv), .ref mk, .ref mb, .int (nZ vty), .int (nZ vth), .int (nZ ven), .int (nZ vsp), .int (nZ vla), .int (nZ vpc)])), (ms, .inl (k 0, 900, .inl (zA s)))] := hD
    refine zz_iadd X dX7_chalksOf_18 (z := (q + (chB B (pl * 9 + (↑i : Int)).toNat))) (by first | rfl | omega) ?_
    refine lv_istore_n (lv' := [(2, .int (nZ (q + (chB B (pl * 9 + (↑i : Int)).toNat)))), (0, .ref mm), (1, .int (nZ pl)), (3, .int (nZ ↑i))]) hX hB dX7_chalksOf_19 rfl hl (by decide) rfl (fun ls hl => ?_)
    refine lv_iinc (v := nZ (↑(i + 1) : Int)) (lv' := [(3, .int (nZ (↑(i + 1) : Int))), (2, .int (nZ (q + (chB B (pl * 9 + (↑i : Int)).toNat)))), (0, .ref mm), (1, .int (nZ pl))]) hX hB dX7_chalksOf_20 hl (k := 3) rfl (zinc (by omega)) (by decide) rfl (fun ls hl => ?_)
    refine lv_goto (tgt := 4) hX hB dX7_chalksOf_23 (by decide) ?_
    exact ih_4 ((i + 1), (q + (chB B (pl * 9 + (↑i : Int)).toNat))) _ _ _ ⟨(by first | omega | assumption | rfl), (by rw [hq]; rfl), hP, hD, hS, (lv_sub hl [2, 3, 1, 0] rfl)⟩ (by dsimp only; omega)
set_option maxHeartbeats 4000000 in
set_option maxRecDepth 100000 in
theorem c_X7_hasAll (l : Launch) (D : va_G) (k : Nat → ClassId) (sz : Nat) (mm ms mk mb : Nat) (vsv vty vth ven vsp vla vpc : Int) (s : Nat → Int) (B : Bd) (pl : Int) (hBk : blkOk s 0 B) (hp : 0 ≤ pl ∧ pl ≤ 1) (hch : chOk (chB B)) : Met l yX7_hasAll (zW yX7_hasAll cX7_hasAll 4 (some .boolean)) ({ frames := 1, cells := 0, slots := 0, locals := 23 } : Room) (va_Pc [.ref mm, .int (nZ pl)] (zIn D k sz [(mm, .inr (7, [.ref ms, .int (nZ vsv), .ref mk, .ref mb, .int (nZ vty), .int (nZ vth), .int (nZ ven), .int (nZ vsp), .int (nZ vla), .int (nZ vpc)])), (ms, .inl (k 0, 900, .inl (zA s)))])) (va_Qi (fun (rz : Int32) (uz : Unit) => rz = nZ (if chSum (chB B) pl = 27 then 1 else 0)) (fun (uz : Unit) => zOut D (va_A [(mm, .inr (7, [.ref ms, .int (nZ vsv), .ref mk, .ref mb, .int (nZ vty), .int (nZ vth), .int (nZ ven), .int (nZ vsp), .int (nZ vla), .int (nZ vpc)])), (ms, .inl (k 0, 900, .inl (zA s)))] sz) [(mm, .inr (7, [.ref ms, .int (nZ vsv), .ref mk, .ref mb, .int (nZ vty), .int (nZ vth), .int (nZ ven), .int (nZ vsp), .int (nZ vla), .int (nZ vpc)])), (ms, .inl (k 0, 900, .inl (zA s)))]) (va_A [(mm, .inr (7, [.ref ms, .int (nZ vsv), .ref mk, .ref mb, .int (nZ vty), .int (nZ vth), .int (nZ ven), .int (nZ vsp), .int (nZ vla), .int (nZ vpc)])), (ms, .inl (k 0, 900, .inl (zA s)))] sz)) 0 0 (va_A [(mm, .inr (7, [.ref ms, .int (nZ vsv), .ref mk, .ref mb, .int (nZ vty), .int (nZ vth), .int (nZ ven), .int (nZ vsp), .int (nZ vla), .int (nZ vpc)])), (ms, .inl (k 0, 900, .inl (zA s)))] sz) := by
  refine zEnter (Qf := fun A => va_Qi (fun (rz : Int32) (uz : Unit) => rz = nZ (if chSum (chB B) pl = 27 then 1 else 0)) (fun (uz : Unit) => zOut D A [(mm, .inr (7, [.ref ms, .int (nZ vsv), .ref mk, .ref mb, .int (nZ vty), .int (nZ vth), .int (nZ ven), .int (nZ vsp), .int (nZ vla), .int (nZ vpc)])), (ms, .inl (k 0, 900, .inl (zA s)))]) A) RX7 (by decide) rfl (Nat.le_of_ble_eq_true rfl) ?_
  intro p9 e9 s9 m9 be9 me9 c9 ls A X hin hP hD hS hA hAe hl
  have hX := X.1; have hB := X.2.1; have hz := X.2.2.2.2.1; have hW := X.2.2.2.2.2.1; have hK := X.2.2.2.2.2.2.2; clear hAe
  clear hin
  have hl : lv_has ls 4 [(0, .ref mm), (1, .int (nZ pl))] := hl
  refine lv_iconst (v := nZ 1) hX hB dX7_hasAll_0 rfl ?_
  refine lv_istore_n (lv' := [(2, .int (nZ 1)), (0, .ref mm), (1, .int (nZ pl))]) hX hB dX7_hasAll_1 rfl hl (by decide) rfl (fun ls hl => ?_)
  refine lv_iconst (v := nZ 0) hX hB dX7_hasAll_2 rfl ?_
  refine lv_istore_n (lv' := [(3, .int (nZ 0)), (2, .int (nZ 1)), (0, .ref mm), (1, .int (nZ pl))]) hX hB dX7_hasAll_3 rfl hl (by decide) rfl (fun ls hl => ?_)
  refine zLoop (σ := Nat × Int) (fun (x : Nat × Int) (H : Heap) (locs : List Loc) (ls : Array Slot) => match x with | (i, q) => (i ≤ 9) ∧ (q = allP B pl i) ∧ (q = 0 ∨ q = 1) ∧ va_P D vwCl [(mm, .inr (7, [.ref ms, .int (nZ vsv), .ref mk, .ref mb, .int (nZ vty), .int (nZ vth), .int (nZ ven), .int (nZ vsp), .int (nZ vla), .int (nZ vpc)])), (ms, .inl (k 0, 900, .inl (zA s)))] H ∧ va_D A [(mm, .inr (7, [.ref ms, .int (nZ vsv), .ref mk, .ref mb, .int (nZ vty), .int (nZ vth), .int (nZ ven), .int (nZ vsp), .int (nZ vla), .int (nZ vpc)])), (ms, .inl (k 0, 900, .inl (zA s)))] ∧ va_S A s9.heap H locs ∧ lv_has ls 4 [(0, .ref mm), (1, .int (nZ pl)), (2, .int (nZ q)), (3, .int (nZ ↑i))]) (fun (x : Nat × Int) => match x with | (i, q) => 9 - i) ?_ (0, 1) ⟨(by first | omega | assumption | rfl), (by rfl), (by exact Or.inr rfl), hP, hD, hS, (lv_sub hl [2, 3, 1, 0] rfl)⟩
  rintro ⟨i, q⟩ H locs ls ⟨hi, hq, hq1, hP, hD, hS, hl⟩ ih_4
  refine lv_iload_n hX hB dX7_hasAll_4 rfl (lv_at hl 3 rfl) ?_
  refine lv_bipush (v := nZ 9) hX hB dX7_hasAll_5 (by decide) ?_
  refine zz_icmp_ge X (tgt := 37) dX7_hasAll_7 (by decide) ⟨by omega, by omega⟩ ⟨by omega, by omega⟩ (fun c_7 => ?_) (fun c_7 => ?_)
  · refine lv_iload_n hX hB dX7_hasAll_37 rfl (lv_at hl 2 rfl) ?_
    exact zRetZ () X hP hD hS (by rcases hq1 with h | h <;> rw [h] <;> first | exact Or.inl rfl | exact Or.inr rfl) rfl (by congr 1; rw [hq, show i = 9 by omega]; exact allP_9 B pl) dX7_hasAll_38
  · have ha := allP_step hch hp (n := i) (by omega)
    have hc1 := hch (pl * 9 + (i : Int)).toNat (by omega)
    refine lv_iload_n hX hB dX7_hasAll_10 rfl (lv_at hl 2 rfl) ?_
    refine zz_if_eq X (tgt := 29) dX7_hasAll_11 (by decide) ⟨by omega, by omega⟩ (fun c_11 => ?_) (fun c_11 => ?_)
    · refine lv_iconst (v := nZ 0) hX hB dX7_hasAll_29 rfl ?_
      refine lv_istore_n (lv' := [(2, .int (nZ 0)), (0, .ref mm), (1, .int (nZ pl)), (3, .int (nZ ↑i))]) hX hB dX7_hasAll_30 rfl hl (by decide) rfl (fun ls hl => ?_)
      refine lv_iinc (v := nZ (↑(i + 1) : Int)) (lv' := [(3, .int (nZ (↑(i + 1) : Int))), (2, .int (nZ 0)), (0, .ref mm), (1, .int (nZ pl))]) hX hB dX7_hasAll_31 hl (k := 3) rfl (zinc (by omega)) (by decide) rfl (fun ls hl => ?_)
      refine lv_goto (tgt := 4) hX hB dX7_hasAll_34 (by decide) ?_
      exact ih_4 ((i + 1), 0) _ _ _ ⟨(by first | omega | assumption | rfl), (by first | exact (ha.1 (by omega) (by omega)).symm | exact (ha.2.1 (by omega)).symm | exact (ha.2.2 (by omega)).symm), (by first | exact Or.inl rfl | exact Or.inr rfl), hP, hD, hS, (lv_sub hl [2, 3, 1, 0] rfl)⟩ (by dsimp only; omega)
    · refine lv_aload_n hX hB dX7_hasAll_14 rfl (lv_at hl 0 rfl) ?_
      refine lv_iconst (v := nZ 0) hX hB dX7_hasAll_15 rfl ?_
      refine lv_iload_n hX hB dX7_hasAll_16 rfl (lv_at hl 1 rfl) ?_
      refine lv_iload_n hX hB dX7_hasAll_17 rfl (lv_at hl 3 rfl) ?_
      refine zCallI0 (zRunV (As := [.int (nZ 0), .int (nZ pl), .int (nZ ↑i)]) X mv_X7_chalks (c_X7_chalks l D k _ mm ms mk mb vsv vty vth ven vsp vla vpc s 0 B pl ↑i hBk (by first | assumption | omega | exact ⟨by omega, by omega⟩) hp (by first | assumption | omega | exact ⟨by omega, by omega⟩)) zw_295 (zPreV hP hD hK [0, 1] rfl rfl 0 7 rfl rfl rfl) rfl hl (Nat.le_of_ble_eq_true rfl) dX7_hasAll_18 ⟨rfl, rfl, ⟨Nat.le_of_ble_eq_true rfl, Nat.le_of_ble_eq_true rfl⟩, Nat.le_of_ble_eq_true rfl, Nat.le_of_ble_eq_true rfl⟩ rfl) hS hP hD hA [0, 1] rfl (fun _ => rfl) (fun r_18 u_18 H locs hq_18 hP hD hS => ?_)
      subst hq_18
      have hP : va_P D vwCl [(mm, .inr (7, [.ref ms, .int (nZ vsv), .ref mk, .ref mb, .int (nZ vty), .int (nZ vth), .int (nZ ven), .int (nZ vsp), .int (nZ vla), .int (nZ vpc)])), (ms, .inl (k 0, 900, .inl (zA s)))] H := hP
      have hD : va_D A [(mm, .inr (7, [.ref ms, .int (nZ vsv), .ref mk, .ref mb, .int (nZ vty), .int (nZ vth), .int (nZ ven), .int (nZ vsp), .int (nZ vla), .int (nZ vpc)])), (ms, .inl (k 0, 900, .inl (zA s)))] := hD
      refine lv_iconst (v := nZ 3) hX hB dX7_hasAll_21 rfl ?_
      refine zz_icmp_ne X (tgt := 29) dX7_hasAll_22 (by decide) ⟨by omega, by omega⟩ ⟨by omega, by omega⟩ (fun c_22 => ?_) (fun c_22 => ?_)
      · refine lv_iconst (v := nZ 0) hX hB dX7_hasAll_29 rfl ?_
        refine lv_istore_n (lv' := [(2, .int (nZ 0)), (0, .ref mm), (1, .int (nZ pl)), (3, .int (nZ ↑i))]) hX hB dX7_hasAll_30 rfl hl (by decide) rfl (fun ls hl => ?_)
        refine lv_iinc (v := nZ (↑(i + 1) : Int)) (lv' := [(3, .int (nZ (↑(i + 1) : Int))), (2, .int (nZ 0)), (0, .ref mm), (1, .int (nZ pl))]) hX hB dX7_hasAll_31 hl (k := 3) rfl (zinc (by omega)) (by decide) rfl (fun ls hl => ?_)
        refine lv_goto (tgt := 4) hX hB dX7_hasAll_34 (by decide) ?_
        exact ih_4 ((i + 1), 0) _ _ _ ⟨(by first | omega | assumption | rfl), (by first | exact (ha.1 (by omega) (by omega)).symm | exact (ha.2.1 (by omega)).symm | exact (ha.2.2 (by omega)).symm), (by first | exact Or.inl rfl | exact Or.inr rfl), hP, hD, hS, (lv_sub hl [2, 3, 1, 0] rfl)⟩ (by dsimp only; omega)
      · refine lv_iconst (v := nZ 1) hX hB dX7_hasAll_25 rfl ?_
        refine lv_goto (tgt := 30) hX hB dX7_hasAll_26 (by decide) ?_
        refine lv_istore_n (lv' := [(2, .int (nZ 1)), (0, .ref mm), (1, .int (nZ pl)), (3, .int (nZ ↑i))]) hX hB dX7_hasAll_30 rfl hl (by decide) rfl (fun ls hl => ?_)
        refine lv_iinc (v := nZ (↑(i + 1) : Int)) (lv' := [(3, .int (nZ (↑(i + 1) : Int))), (2, .int (nZ 1)), (0, .ref mm), (1, .int (nZ pl))]) hX hB dX7_hasAll_31 hl (k := 3) rfl (zinc (by omega)) (by decide) rfl (fun ls hl => ?_)
        refine lv_goto (tgt := 4) hX hB dX7_hasAll_34 (by decide) ?_
        exact ih_4 ((i + 1), 1) _ _ _ ⟨(by first | omega | assumption | rfl), (by first | exact (ha.1 (by omega) (by omega)).symm | exact (ha.2.1 (by omega)).symm | exact (ha.2.2 (by omega)).symm), (by first | exact Or.inl rfl | exact Or.inr rfl), hP, hD, hS, (lv_sub hl [2, 3, 1, 0] rfl)⟩ (by dsimp only; omega)
set_option maxHeartbeats 4000000 in
set_option maxRecDepth 100000 in
theorem c_X7_clears (l : Launch) (D : va_G) (k : Nat → ClassId) (sz : Nat) (mm ms mk mb : Nat) (vsv vty vth ven vsp vla vpc : Int) (s : Nat → Int) (B : Bd) (hBk : blkOk s 0 B) : Met l yX7_clears (zW yX7_clears cX7_clears 2 none) ({ frames := 1, cells := 0, slots := 0, locals := 21 } : Room) (va_Pc [.ref mm] (zIn D k sz [(mm, .inr (7, [.ref ms, .int (nZ vsv), .ref mk, .ref mb, .int (nZ vty), .int (nZ vth), .int (nZ ven), .int (nZ vsp), .int (nZ vla), .int (nZ vpc)])), (ms, .inl (k 0, 900, .inl (zA s)))])) (va_Qv (fun (uz : (Nat → Int)) => blkOk uz 0 (B.1, fun _ => []) ∧ frOk s uz 0) (fun (uz : (Nat → Int)) => zOut D (va_A [(mm, .inr (7, [.ref ms, .int (nZ vsv), .ref mk, .ref mb, .int (nZ vty), .int (nZ vth), .int (nZ ven), .int (nZ vsp), .int (nZ vla), .int (nZ vpc)])), (ms, .inl (k 0, 900, .inl (zA s)))] sz) [(mm, .inr (7, [.ref ms, .int (nZ vsv), .ref mk, .ref mb, .int (nZ vty), .int (nZ vth), .int (nZ ven), .int (nZ vsp), .int (nZ vla), .int (nZ vpc)])), (ms, .inl (k 0, 900, .inl (zA uz)))]) (va_A [(mm, .inr (7, [.ref ms, .int (nZ vsv), .ref mk, .ref mb, .int (nZ vty), .int (nZ vth), .int (nZ ven), .int (nZ vsp), .int (nZ vla), .int (nZ vpc)])), (ms, .inl (k 0, 900, .inl (zA s)))] sz)) 0 0 (va_A [(mm, .inr (7, [.ref ms, .int (nZ vsv), .ref mk, .ref mb, .int (nZ vty), .int (nZ vth), .int (nZ ven), .int (nZ vsp), .int (nZ vla), .int (nZ vpc)])), (ms, .inl (k 0, 900, .inl (zA s)))] sz) := by
  refine zEnter (Qf := fun A => va_Qv (fun (uz : (Nat → Int)) => blkOk uz 0 (B.1, fun _ => []) ∧ frOk s uz 0) (fun (uz : (Nat → Int)) => zOut D A [(mm, .inr (7, [.ref ms, .int (nZ vsv), .ref mk, .ref mb, .int (nZ vty), .int (nZ vth), .int (nZ ven), .int (nZ vsp), .int (nZ vla), .int (nZ vpc)])), (ms, .inl (k 0, 900, .inl (zA uz)))]) A) RX7 (by decide) rfl (Nat.le_of_ble_eq_true rfl) ?_
  intro p9 e9 s9 m9 be9 me9 c9 ls A X hin hP hD hS hA hAe hl
  have hX := X.1; have hB := X.2.1; have hz := X.2.2.2.2.1; have hW := X.2.2.2.2.2.1; have hK := X.2.2.2.2.2.2.2; clear hAe
  clear hin
  have hl : lv_has ls 2 [(0, .ref mm)] := hl
  refine lv_iconst (v := nZ 0) hX hB dX7_clears_0 rfl ?_
  refine lv_istore_n (lv' := [(1, .int (nZ 0)), (0, .ref mm)]) hX hB dX7_clears_1 rfl hl (by decide) rfl (fun ls hl => ?_)
  refine lv_iload_n hX hB dX7_clears_2 rfl (lv_at hl 0 rfl) ?_
  refine lv_iconst (v := nZ 3) hX hB dX7_clears_3 rfl ?_
  refine zz_icmp_ge X (tgt := 24) dX7_clears_4 (by decide) ⟨by omega, by omega⟩ ⟨by omega, by omega⟩ (fun c_4 => ?_) (fun c_4 => ?_)
  · exfalso; omega
  · refine lv_aload_n hX hB dX7_clears_7 rfl (lv_at hl 1 rfl) ?_
    refine va_get hX hB hz inlX7 hW hK.1 hP 0 rfl rfl 0 (by decide) (hz _ zw_74) (fun _ h9 => h9) rfl dX7_clears_8 ?_
    refine lv_iconst (v := nZ 0) hX hB dX7_clears_11 rfl ?_
    refine lv_iload_n hX hB dX7_clears_12 rfl (lv_at hl 0 rfl) ?_
    refine zCallI0 (zRunS X ms_X7_laneAt (c_X7_laneAt l D k _ 0 0 ) zw_272 (zPreS hP hD hK [] rfl rfl) rfl hl (Nat.le_of_ble_eq_true rfl) dX7_clears_13 ⟨rfl, rfl, ⟨Nat.le_of_ble_eq_true rfl, Nat.le_of_ble_eq_true rfl⟩, Nat.le_of_ble_eq_true rfl, Nat.le_of_ble_eq_true rfl⟩ rfl) hS hP hD hA [] rfl (fun _ => rfl) (fun r_13 u_13 H locs hq_13 hP hD hS => ?_)
    subst hq_13
    have hP : va_P D vwCl [(mm, .inr (7, [.ref ms, .int (nZ vsv), .ref mk, .ref mb, .int (nZ vty), .int (nZ vth), .int (nZ ven), .int (nZ vsp), .int (nZ vla), .int (nZ vpc)])), (ms, .inl (k 0, 900, .inl (zA s)))] H := hP
    have hD : va_D A [(mm, .inr (7, [.ref ms, .int (nZ vsv), .ref mk, .ref mb, .int (nZ vty), .int (nZ vth), .int (nZ ven), .int (nZ vsp), .int (nZ vla), .int (nZ vpc)])), (ms, .inl (k 0, 900, .inl (zA s)))] := hD
    refine lv_iconst (v := nZ 0) hX hB dX7_clears_16 rfl ?_
    refine zz_iast X hP hD hS 1 0 rfl rfl (((0 + 27)) + (21 * 0)) (by omega) (by omega) (by first | decide | omega) dX7_clears_17 (fun H locs hP hD hS => ?_)
    have hP : va_P D vwCl [(mm, .inr (7, [.ref ms, .int (nZ vsv), .ref mk, .ref mb, .int (nZ vty), .int (nZ vth), .int (nZ ven), .int (nZ vsp), .int (nZ vla), .int (nZ vpc)])), (ms, .inl (k 0, 900, .inl (zA (zU s (((0 + 27)) + (21 * 0)) 0))))] H := hP
    have hD : va_D A [(mm, .inr (7, [.ref ms, .int (nZ vsv), .ref mk, .ref mb, .int (nZ vty), .int (nZ vth), .int (nZ ven), .int (nZ vsp), .int (nZ vla), .int (nZ vpc)])), (ms, .inl (k 0, 900, .inl (zA (zU s (((0 + 27)) + (21 * 0)) 0))))] := hD
    refine lv_iinc (v := nZ 1) (lv' := [(1, .int (nZ 1)), (0, .ref mm)]) hX hB dX7_clears_18 hl (k := 0) rfl (zinc (by omega)) (by decide) rfl (fun ls hl => ?_)
    refine lv_goto (tgt := 2) hX hB dX7_clears_21 (by decide) ?_
    refine lv_iload_n hX hB dX7_clears_2 rfl (lv_at hl 0 rfl) ?_
    refine lv_iconst (v := nZ 3) hX hB dX7_clears_3 rfl ?_
    refine zz_icmp_ge X (tgt := 24) dX7_clears_4 (by decide) ⟨by omega, by omega⟩ ⟨by omega, by omega⟩ (fun c_4_2 => ?_) (fun c_4_2 => ?_)
    · exfalso; omega
    · refine lv_aload_n hX hB dX7_clears_7 rfl (lv_at hl 1 rfl) ?_
      refine va_get hX hB hz inlX7 hW hK.1 hP 0 rfl rfl 0 (by decide) (hz _ zw_74) (fun _ h9 => h9) rfl dX7_clears_8 ?_
      refine lv_iconst (v := nZ 0) hX hB dX7_clears_11 rfl ?_
      refine lv_iload_n hX hB dX7_clears_12 rfl (lv_at hl 0 rfl) ?_
      refine zCallI0 (zRunS X ms_X7_laneAt (c_X7_laneAt l D k _ 0 1 ) zw_272 (zPreS hP hD hK [] rfl rfl) rfl hl (Nat.le_of_ble_eq_true rfl) dX7_clears_13 ⟨rfl, rfl, ⟨Nat.le_of_ble_eq_true rfl, Nat.le_of_ble_eq_true rfl⟩, Nat.le_of_ble_eq_true rfl, Nat.le_of_ble_eq_true rfl⟩ rfl) hS hP hD hA [] rfl (fun _ => rfl) (fun r_13_2 u_13_2 H locs hq_13_2 hP hD hS => ?_)
      subst hq_13_2
      have hP : va_P D vwCl [(mm, .inr (7, [.ref ms, .int (nZ vsv), .ref mk, .ref mb, .int (nZ vty), .int (nZ vth), .int (nZ ven), .int (nZ vsp), .int (nZ vla), .int (nZ vpc)])), (ms, .inl (k 0, 900, .inl (zA (zU s (((0 + 27)) + (21 * 0)) 0))))] H := hP
      have hD : va_D A [(mm, .inr (7, [.ref ms, .int (nZ vsv), .ref mk, .ref mb, .int (nZ vty), .int (nZ vth), .int (nZ ven), .int (nZ vsp), .int (nZ vla), .int (nZ vpc)])), (ms, .inl (k 0, 900, .inl (zA (zU s (((0 + 27)) + (21 * 0)) 0))))] := hD
      refine lv_iconst (v := nZ 0) hX hB dX7_clears_16 rfl ?_
      refine zz_iast X hP hD hS 1 0 rfl rfl (((0 + 27)) + (21 * 1)) (by omega) (by omega) (by first | decide | omega) dX7_clears_17 (fun H locs hP hD hS => ?_)
      have hP : va_P D vwCl [(mm, .inr (7, [.ref ms, .int (nZ vsv), .ref mk, .ref mb, .int (nZ vty), .int (nZ vth), .int (nZ ven), .int (nZ vsp), .int (nZ vla), .int (nZ vpc)])), (ms, .inl (k 0, 900, .inl (zA (zU (zU s (((0 + 27)) + (21 * 0)) 0) (((0 + 27)) + (21 * 1)) 0))))] H := hP
      have hD : va_D A [(mm, .inr (7, [.ref ms, .int (nZ vsv), .ref mk, .ref mb, .int (nZ vty), .int (nZ vth), .int (nZ ven), .int (nZ vsp), .int (nZ vla), .int (nZ vpc)])), (ms, .inl (k 0, 900, .inl (zA (zU (zU s (((0 + 27)) + (21 * 0)) 0) (((0 + 27)) + (21 * 1)) 0))))] := hD
      refine lv_iinc (v := nZ 2) (lv' := [(1, .int (nZ 2)), (0, .ref mm)]) hX hB dX7_clears_18 hl (k := 0) rfl (zinc (by omega)) (by decide) rfl (fun ls hl => ?_)
      refine lv_goto (tgt := 2) hX hB dX7_clears_21 (by decide) ?_
      refine lv_iload_n hX hB dX7_clears_2 rfl (lv_at hl 0 rfl) ?_
      refine lv_iconst (v := nZ 3) hX hB dX7_clears_3 rfl ?_
      refine zz_icmp_ge X (tgt := 24) dX7_clears_4 (by decide) ⟨by omega, by omega⟩ ⟨by omega, by omega⟩ (fun c_4_3 => ?_) (fun c_4_3 => ?_)
      · exfalso; omega
      · refine lv_aload_n hX hB dX7_clears_7 rfl (lv_at hl 1 rfl) ?_
        refine va_get hX hB hz inlX7 hW hK.1 hP 0 rfl rfl 0 (by decide) (hz _ zw_74) (fun _ h9 => h9) rfl dX7_clears_8 ?_
        refine lv_iconst (v := nZ 0) hX hB dX7_clears_11 rfl ?_
        refine lv_iload_n hX hB dX7_clears_12 rfl (lv_at hl 0 rfl) ?_
        refine zCallI0 (zRunS X ms_X7_laneAt (c_X7_laneAt l D k _ 0 2 ) zw_272 (zPreS hP hD hK [] rfl rfl) rfl hl (Nat.le_of_ble_eq_true rfl) dX7_clears_13 ⟨rfl, rfl, ⟨Nat.le_of_ble_eq_true rfl, Nat.le_of_ble_eq_true rfl⟩, Nat.le_of_ble_eq_true rfl, Nat.le_of_ble_eq_true rfl⟩ rfl) hS hP hD hA [] rfl (fun _ => rfl) (fun r_13_3 u_13_3 H locs hq_13_3 hP hD hS => ?_)
        subst hq_13_3
        have hP : va_P D vwCl [(mm, .inr (7, [.ref ms, .int (nZ vsv), .ref mk, .ref mb, .int (nZ vty), .int (nZ vth), .int (nZ ven), .int (nZ vsp), .int (nZ vla), .int (nZ vpc)])), (ms, .inl (k 0, 900, .inl (zA (zU (zU s (((0 + 27)) + (21 * 0)) 0) (((0 + 27)) + (21 * 1)) 0))))] H := hP
        have hD : va_D A [(mm, .inr (7, [.ref ms, .int (nZ vsv), .ref mk, .ref mb, .int (nZ vty), .int (nZ vth), .int (nZ ven), .int (nZ vsp), .int (nZ vla), .int (nZ vpc)])), (ms, .inl (k 0, 900, .inl (zA (zU (zU s (((0 + 27)) + (21 * 0)) 0) (((0 + 27)) + (21 * 1)) 0))))] := hD
        refine lv_iconst (v := nZ 0) hX hB dX7_clears_16 rfl ?_
        refine zz_iast X hP hD hS 1 0 rfl rfl (((0 + 27)) + (21 * 2)) (by omega) (by omega) (by first | decide | omega) dX7_clears_17 (fun H locs hP hD hS => ?_)
        have hP : va_P D vwCl [(mm, .inr (7, [.ref ms, .int (nZ vsv), .ref mk, .ref mb, .int (nZ vty), .int (nZ vth), .int (nZ ven), .int (nZ vsp), .int (nZ vla), .int (nZ vpc)])), (ms, .inl (k 0, 900, .inl (zA (zU (zU (zU s (((0 + 27)) + (21 * 0)) 0) (((0 + 27)) + (21 * 1)) 0) (((0 + 27)) + (21 * 2)) 0))))] H := hP
        have hD : va_D A [(mm, .inr (7, [.ref ms, .int (nZ vsv), .ref mk, .ref mb, .int (nZ vty), .int (nZ vth), .int (nZ ven), .int (nZ vsp), .int (nZ vla), .int (nZ vpc)])), (ms, .inl (k 0, 900, .inl (zA (zU (zU (zU s (((0 + 27)) + (21 * 0)) 0) (((0 + 27)) + (21 * 1)) 0) (((0 + 27)) + (21 * 2)) 0))))] := hD
        refine lv_iinc (v := nZ 3) (lv' := [(1, .int (nZ 3)), (0, .ref mm)]) hX hB dX7_clears_18 hl (k := 0) rfl (zinc (by omega)) (by decide) rfl (fun ls hl => ?_)
        refine lv_goto (tgt := 2) hX hB dX7_clears_21 (by decide) ?_
        refine lv_iload_n hX hB dX7_clears_2 rfl (lv_at hl 0 rfl) ?_
        refine lv_iconst (v := nZ 3) hX hB dX7_clears_3 rfl ?_
        refine zz_icmp_ge X (tgt := 24) dX7_clears_4 (by decide) ⟨by omega, by omega⟩ ⟨by omega, by omega⟩ (fun c_4_4 => ?_) (fun c_4_4 => ?_)
        · exact zRetV (zU (zU (zU s (((0 + 27)) + (21 * 0)) 0) (((0 + 27)) + (21 * 1)) 0) (((0 + 27)) + (21 * 2)) 0) X hP hD hS rfl ⟨blk_clear hBk, (((frOk.refl s 0).zU (by omega) (by omega)).zU (by omega) (by omega)).zU (by omega) (by omega)⟩ dX7_clears_24
        · exfalso; omega
set_option maxHeartbeats 4000000 in
set_option maxRecDepth 100000 in
theorem c_X7_isRefused_n (l : Launch) (D : va_G) (k : Nat → ClassId) (sz : Nat) (mm ms mk mb : Nat) (vsv vty vth ven vsp vla vpc : Int) (s : Nat → Int) (B : Bd) (hBk : blkOk s 0 B) (hw : B.1 3 = 0) : Met l yX7_isRefused (zW yX7_isRefused cX7_isRefused 1 (some .boolean)) ({ frames := 0, cells := 0, slots := 0, locals := 0 } : Room) (va_Pc [.ref mm] (zIn D k sz [(mm, .inr (7, [.ref ms, .int (nZ vsv), .ref mk, .ref mb, .int (nZ vty), .int (nZ vth), .int (nZ ven), .int (nZ vsp), .int (nZ vla), .int (nZ vpc)])), (ms, .inl (k 0, 900, .inl (zA s)))])) (va_Qi (fun (rz : Int32) (uz : (Nat → Int)) => rz = nZ 0 ∧ blkOk uz 0 B ∧ frOk s uz 0) (fun (uz : (Nat → Int)) => zOut D (va_A [(mm, .inr (7, [.ref ms, .int (nZ vsv), .ref mk, .ref mb, .int (nZ vty), .int (nZ vth), .int (nZ ven), .int (nZ vsp), .int (nZ vla), .int (nZ vpc)])), (ms, .inl (k 0, 900, .inl (zA s)))] sz) [(mm, .inr (7, [.ref ms, .int (nZ vsv), .ref mk, .ref mb, .int (nZ vty), .int (nZ vth), .int (nZ ven), .int (nZ vsp), .int (nZ vla), .int (nZ vpc)])), (ms, .inl (k 0, 900, .inl (zA uz)))]) (va_A [(mm, .inr (7, [.ref ms, .int (nZ vsv), .ref mk, .ref mb, .int (nZ vty), .int (nZ vth), .int (nZ ven), .int (nZ vsp), .int (nZ vla), .int (nZ vpc)])), (ms, .inl (k 0, 900, .inl (zA s)))] sz)) 0 0 (va_A [(mm, .inr (7, [.ref ms, .int (nZ vsv), .ref mk, .ref mb, .int (nZ vty), .int (nZ vth), .int (nZ ven), .int (nZ vsp), .int (nZ vla), .int (nZ vpc)])), (ms, .inl (k 0, 900, .inl (zA s)))] sz) := by
  refine zEnter (Qf := fun A => va_Qi (fun (rz : Int32) (uz : (Nat → Int)) => rz = nZ 0 ∧ blkOk uz 0 B ∧ frOk s uz 0) (fun (uz : (Nat → Int)) => zOut D A [(mm, .inr (7, [.ref ms, .int (nZ vsv), .ref mk, .ref mb, .int (nZ vty), .int (nZ vth), .int (nZ ven), .int (nZ vsp), .int (nZ vla), .int (nZ vpc)])), (ms, .inl (k 0, 900, .inl (zA uz)))]) A) RX7 (by decide) rfl (Nat.le_of_ble_eq_true rfl) ?_
  intro p9 e9 s9 m9 be9 me9 c9 ls A X hin hP hD hS hA hAe hl
  have hX := X.1; have hB := X.2.1; have hz := X.2.2.2.2.1; have hW := X.2.2.2.2.2.1; have hK := X.2.2.2.2.2.2.2; clear hAe
  clear hin
  have hl : lv_has ls 1 [(0, .ref mm)] := hl
  have h3 : s 3 = B.1 3 := hBk.num (k := 3) (by omega)
  refine lv_aload_n hX hB dX7_isRefused_0 rfl (lv_at hl 0 rfl) ?_
  refine va_get hX hB hz inlX7 hW hK.1 hP 0 rfl rfl 0 (by decide) (hz _ zw_74) (fun _ h9 => h9) rfl dX7_isRefused_1 ?_
  refine lv_bipush (v := nZ 8) hX hB dX7_isRefused_4 (by decide) ?_
  refine lv_dup2_11 hX hB dX7_isRefused_6 rfl rfl ?_
  refine zz_iald X hP 1 0 rfl rfl 8 (by omega) (by omega) (by first | decide | omega) dX7_isRefused_7 ?_
  refine lv_aload_n hX hB dX7_isRefused_8 rfl (lv_at hl 0 rfl) ?_
  refine va_get hX hB hz inlX7 hW hK.1 hP 0 rfl rfl 0 (by decide) (hz _ zw_74) (fun _ h9 => h9) rfl dX7_isRefused_9 ?_
  refine lv_iconst (v := nZ 3) hX hB dX7_isRefused_12 rfl ?_
  refine zz_iald X hP 1 0 rfl rfl 3 (by omega) (by omega) (by first | decide | omega) dX7_isRefused_13 ?_
  refine zz_if_le X (tgt := 21) dX7_isRefused_14 (by decide) ⟨by omega, by omega⟩ (fun c_14 => ?_) (fun c_14 => ?_)
  · refine lv_iconst (v := nZ 0) hX hB dX7_isRefused_21 rfl ?_
    refine zz_iadd X dX7_isRefused_22 (z := (s 8)) (by first | rfl | omega) ?_
    refine zz_iast X hP hD hS 1 0 rfl rfl 8 (by omega) (by omega) (by first | decide | omega) dX7_isRefused_23 (fun H locs hP hD hS => ?_)
    have hP : va_P D vwCl [(mm, .inr (7, [.ref ms, .int (nZ vsv), .ref mk, .ref mb, .int (nZ vty), .int (nZ vth), .int (nZ ven), .int (nZ vsp), .int (nZ vla), .int (nZ vpc)])), (ms, .inl (k 0, 900, .inl (zA (zU s 8 (s 8)))))] H := hP
    have hD : va_D A [(mm, .inr (7, [.ref ms, .int (nZ vsv), .ref mk, .ref mb, .int (nZ vty), .int (nZ vth), .int (nZ ven), .int (nZ vsp), .int (nZ vla), .int (nZ vpc)])), (ms, .inl (k 0, 900, .inl (zA (zU s 8 (s 8)))))] := hD
    have h4 : (zU s 8 (s 8)) 3 = B.1 3 := by rw [zU_ne _ _ (by omega)]; exact h3
    refine lv_aload_n hX hB dX7_isRefused_24 rfl (lv_at hl 0 rfl) ?_
    refine va_get hX hB hz inlX7 hW hK.1 hP 0 rfl rfl 0 (by decide) (hz _ zw_74) (fun _ h9 => h9) rfl dX7_isRefused_25 ?_
    refine lv_iconst (v := nZ 3) hX hB dX7_isRefused_28 rfl ?_
    refine zz_iald X hP 1 0 rfl rfl 3 (by omega) (by omega) (by first | decide | omega) dX7_isRefused_29 ?_
    refine zz_if_le X (tgt := 37) dX7_isRefused_30 (by decide) ⟨by omega, by omega⟩ (fun c_30 => ?_) (fun c_30 => ?_)
    · refine lv_iconst (v := nZ 0) hX hB dX7_isRefused_37 rfl ?_
      first | (exfalso; omega) | exact zRetZ (zU s 8 (s 8)) X hP hD hS (by first | exact Or.inl rfl | exact Or.inr rfl) rfl ⟨by first | rfl | (congr 1; omega) | (dsimp only; congr 1; omega), by rw [zU_self]; exact hBk, (frOk.refl s 0).zU (by omega) (by omega)⟩ dX7_isRefused_38
    · refine lv_iconst (v := nZ 1) hX hB dX7_isRefused_33 rfl ?_
      refine lv_goto (tgt := 38) hX hB dX7_isRefused_34 (by decide) ?_
      first | (exfalso; omega) | exact zRetZ (zU s 8 (s 8)) X hP hD hS (by first | exact Or.inl rfl | exact Or.inr rfl) rfl ⟨by first | rfl | (congr 1; omega) | (dsimp only; congr 1; omega), by rw [zU_self]; exact hBk, (frOk.refl s 0).zU (by omega) (by omega)⟩ dX7_isRefused_38
  · exfalso; omega
set_option maxHeartbeats 4000000 in
set_option maxRecDepth 100000 in
theorem c_X7_isRefused_y (l : Launch) (D : va_G) (k : Nat → ClassId) (sz : Nat) (mm ms mk mb : Nat) (vsv vty vth ven vsp vla vpc : Int) (s : Nat → Int) (B : Bd) (hBk : blkOk s 0 B) (hw : 1 ≤ B.1 3 ∧ B.1 3 ≤ 2) : Met l yX7_isRefused (zW yX7_isRefused cX7_isRefused 1 (some .boolean)) ({ frames := 0, cells := 0, slots := 0, locals := 0 } : Room) (va_Pc [.ref mm] (zIn D k sz [(mm, .inr (7, [.ref ms, .int (nZ vsv), .ref mk, .ref mb, .int (nZ vty), .int (nZ vth), .int (nZ ven), .int (nZ vsp), .int (nZ vla), .int (nZ vpc)])), (ms, .inl (k 0, 900, .inl (zA s)))])) (va_Qi (fun (rz : Int32) (uz : (Nat → Int)) => rz = nZ 1 ∧ blkOk uz 0 (refuseB B) ∧ frOk s uz 0) (fun (uz : (Nat → Int)) => zOut D (va_A [(mm, .inr (7, [.ref ms, .int (nZ vsv), .ref mk, .ref mb, .int (nZ vty), .int (nZ vth), .int (nZ ven), .int (nZ vsp), .int (nZ vla), .int (nZ vpc)])), (ms, .inl (k 0, 900, .inl (zA s)))] sz) [(mm, .inr (7, [.ref ms, .int (nZ vsv), .ref mk, .ref mb, .int (nZ vty), .int (nZ vth), .int (nZ ven), .int (nZ vsp), .int (nZ vla), .int (nZ vpc)])), (ms, .inl (k 0, 900, .inl (zA uz)))]) (va_A [(mm, .inr (7, [.ref ms, .int (nZ vsv), .ref mk, .ref mb, .int (nZ vty), .int (nZ vth), .int (nZ ven), .int (nZ vsp), .int (nZ vla), .int (nZ vpc)])), (ms, .inl (k 0, 900, .inl (zA s)))] sz)) 0 0 (va_A [(mm, .inr (7, [.ref ms, .int (nZ vsv), .ref mk, .ref mb, .int (nZ vty), .int (nZ vth), .int (nZ ven), .int (nZ vsp), .int (nZ vla), .int (nZ vpc)])), (ms, .inl (k 0, 900, .inl (zA s)))] sz) := by
  refine zEnter (Qf := fun A => va_Qi (fun (rz : Int32) (uz : (Nat → Int)) => rz = nZ 1 ∧ blkOk uz 0 (refuseB B) ∧ frOk s uz 0) (fun (uz : (Nat → Int)) => zOut D A [(mm, .inr (7, [.ref ms, .int (nZ vsv), .ref mk, .ref mb, .int (nZ vty), .int (nZ vth), .int (nZ ven), .int (nZ vsp), .int (nZ vla), .int (nZ vpc)])), (ms, .inl (k 0, 900, .inl (zA uz)))]) A) RX7 (by decide) rfl (Nat.le_of_ble_eq_true rfl) ?_
  intro p9 e9 s9 m9 be9 me9 c9 ls A X hin hP hD hS hA hAe hl
  have hX := X.1; have hB := X.2.1; have hz := X.2.2.2.2.1; have hW := X.2.2.2.2.2.1; have hK := X.2.2.2.2.2.2.2; clear hAe
  clear hin
  have hl : lv_has ls 1 [(0, .ref mm)] := hl
  have h3 : s 3 = B.1 3 := hBk.num (k := 3) (by omega)
  refine lv_aload_n hX hB dX7_isRefused_0 rfl (lv_at hl 0 rfl) ?_
  refine va_get hX hB hz inlX7 hW hK.1 hP 0 rfl rfl 0 (by decide) (hz _ zw_74) (fun _ h9 => h9) rfl dX7_isRefused_1 ?_
  refine lv_bipush (v := nZ 8) hX hB dX7_isRefused_4 (by decide) ?_
  refine lv_dup2_11 hX hB dX7_isRefused_6 rfl rfl ?_
  refine zz_iald X hP 1 0 rfl rfl 8 (by omega) (by omega) (by first | decide | omega) dX7_isRefused_7 ?_
  refine lv_aload_n hX hB dX7_isRefused_8 rfl (lv_at hl 0 rfl) ?_
  refine va_get hX hB hz inlX7 hW hK.1 hP 0 rfl rfl 0 (by decide) (hz _ zw_74) (fun _ h9 => h9) rfl dX7_isRefused_9 ?_
  refine lv_iconst (v := nZ 3) hX hB dX7_isRefused_12 rfl ?_
  refine zz_iald X hP 1 0 rfl rfl 3 (by omega) (by omega) (by first | decide | omega) dX7_isRefused_13 ?_
  refine zz_if_le X (tgt := 21) dX7_isRefused_14 (by decide) ⟨by omega, by omega⟩ (fun c_14 => ?_) (fun c_14 => ?_)
  · exfalso; omega
  · refine lv_iconst (v := nZ 1) hX hB dX7_isRefused_17 rfl ?_
    refine lv_goto (tgt := 22) hX hB dX7_isRefused_18 (by decide) ?_
    refine zz_iadd X dX7_isRefused_22 (z := ((s 8) + 1)) (by first | rfl | omega) ?_
    refine zz_iast X hP hD hS 1 0 rfl rfl 8 (by omega) (by omega) (by first | decide | omega) dX7_isRefused_23 (fun H locs hP hD hS => ?_)
    have hP : va_P D vwCl [(mm, .inr (7, [.ref ms, .int (nZ vsv), .ref mk, .ref mb, .int (nZ vty), .int (nZ vth), .int (nZ ven), .int (nZ vsp), .int (nZ vla), .int (nZ vpc)])), (ms, .inl (k 0, 900, .inl (zA (zU s 8 ((s 8) + 1)))))] H := hP
    have hD : va_D A [(mm, .inr (7, [.ref ms, .int (nZ vsv), .ref mk, .ref mb, .int (nZ vty), .int (nZ vth), .int (nZ ven), .int (nZ vsp), .int (nZ vla), .int (nZ vpc)])), (ms, .inl (k 0, 900, .inl (zA (zU s 8 ((s 8) + 1)))))] := hD
    have h4 : (zU s 8 (s 8 + 1)) 3 = B.1 3 := by rw [zU_ne _ _ (by omega)]; exact h3
    refine lv_aload_n hX hB dX7_isRefused_24 rfl (lv_at hl 0 rfl) ?_
    refine va_get hX hB hz inlX7 hW hK.1 hP 0 rfl rfl 0 (by decide) (hz _ zw_74) (fun _ h9 => h9) rfl dX7_isRefused_25 ?_
    refine lv_iconst (v := nZ 3) hX hB dX7_isRefused_28 rfl ?_
    refine zz_iald X hP 1 0 rfl rfl 3 (by omega) (by omega) (by first | decide | omega) dX7_isRefused_29 ?_
    refine zz_if_le X (tgt := 37) dX7_isRefused_30 (by decide) ⟨by omega, by omega⟩ (fun c_30 => ?_) (fun c_30 => ?_)
    · refine lv_iconst (v := nZ 0) hX hB dX7_isRefused_37 rfl ?_
      first | (exfalso; omega) | exact zRetZ (zU s 8 ((s 8) + 1)) X hP hD hS (by first | exact Or.inl rfl | exact Or.inr rfl) rfl ⟨by first | rfl | (congr 1; omega) | (dsimp only; congr 1; omega), refuse_blk hBk, (frOk.refl s 0).zU (by omega) (by omega)⟩ dX7_isRefused_38
    · refine lv_iconst (v := nZ 1) hX hB dX7_isRefused_33 rfl ?_
      refine lv_goto (tgt := 38) hX hB dX7_isRefused_34 (by decide) ?_
      first | (exfalso; omega) | exact zRetZ (zU s 8 ((s 8) + 1)) X hP hD hS (by first | exact Or.inl rfl | exact Or.inr rfl) rfl ⟨by first | rfl | (congr 1; omega) | (dsimp only; congr 1; omega), refuse_blk hBk, (frOk.refl s 0).zU (by omega) (by omega)⟩ dX7_isRefused_38
set_option maxHeartbeats 4000000 in
set_option maxRecDepth 100000 in
theorem c_X7_tries (l : Launch) (D : va_G) (k : Nat → ClassId) (sz : Nat) (mm ms mk mb : Nat) (vsv vty vth ven vsp vla vpc : Int) (s : Nat → Int) (j : Nat) (B : Bd) (st : Int) (hBk : blkOk s 0 B) (hjj : j < 3) (hCh : chainS (-5) (B.2 j)) (hcost : 0 ≤ B.1 0 ∧ B.1 0 ≤ 20) (hst : 1 ≤ st ∧ st ≤ 150) : Met l yX7_tries (zW yX7_tries cX7_tries 4 none) ({ frames := 4, cells := 0, slots := 0, locals := 105 } : Room) (va_Pc [.ref mm, .int (nZ ↑j), .int (nZ st)] (zIn D k sz [(mm, .inr (7, [.ref ms, .int (nZ vsv), .ref mk, .ref mb, .int (nZ vty), .int (nZ vth), .int (nZ ven), .int (nZ vsp), .int (nZ vla), .int (nZ vpc)])), (ms, .inl (k 0, 900, .inl (zA s)))])) (va_Qv (fun (uz : (Nat → Int) × Int) => blkOk uz.1 810 (push0 B j st) ∧ frOk s uz.1 810 ∧ uz.2 = lastL (B.1 0) st (B.2 j)) (fun (uz : (Nat → Int) × Int) => zOut D (va_A [(mm, .inr (7, [.ref ms, .int (nZ vsv), .ref mk, .ref mb, .int (nZ vty), .int (nZ vth), .int (nZ ven), .int (nZ vsp), .int (nZ vla), .int (nZ vpc)])), (ms, .inl (k 0, 900, .inl (zA s)))] sz) [(mm, .inr (7, [.ref ms, .int (nZ vsv), .ref mk, .ref mb, .int (nZ vty), .int (nZ vth), .int (nZ uz.2), .int (nZ vsp), .int (nZ vla), .int (nZ vpc)])), (ms, .inl (k 0, 900, .inl (zA uz.1)))]) (va_A [(mm, .inr (7, [.ref ms, .int (nZ vsv), .ref mk, .ref mb, .int (nZ vty), .int (nZ vth), .int (nZ ven), .int (nZ vsp), .int (nZ vla), .int (nZ vpc)])), (ms, .inl (k 0, 900, .inl (zA s)))] sz)) 0 0 (va_A [(mm, .inr (7, [.ref ms, .int (nZ vsv), .ref mk, .ref mb, .int (nZ vty), .int (nZ vth), .int (nZ ven), .int (nZ vsp), .int (nZ vla), .int (nZ vpc)])), (ms, .inl (k 0, 900, .inl (zA s)))] sz) := by
  refine zEnter (Qf := fun A => va_Qv (fun (uz : (Nat → Int) × Int) => blkOk uz.1 810 (push0 B j st) ∧ frOk s uz.1 810 ∧ uz.2 = lastL (B.1 0) st (B.2 j)) (fun (uz : (Nat → Int) × Int) => zOut D A [(mm, .inr (7, [.ref ms, .int (nZ vsv), .ref mk, .ref mb, .int (nZ vty), .int (nZ vth), .int (nZ uz.2), .int (nZ vsp), .int (nZ vla), .int (nZ vpc)])), (ms, .inl (k 0, 900, .inl (zA uz.1)))]) A) RX7 (by decide) rfl (Nat.le_of_ble_eq_true rfl) ?_
  intro p9 e9 s9 m9 be9 me9 c9 ls A X hin hP hD hS hA hAe hl
  have hX := X.1; have hB := X.2.1; have hz := X.2.2.2.2.1; have hW := X.2.2.2.2.2.1; have hK := X.2.2.2.2.2.2.2; clear hAe
  clear hin
  have hl : lv_has ls 4 [(0, .ref mm), (1, .int (nZ ↑j)), (2, .int (nZ st))] := hl
  refine lv_aload_n hX hB dX7_tries_0 rfl (lv_at hl 0 rfl) ?_
  refine lv_iconst (v := nZ 0) hX hB dX7_tries_1 rfl ?_
  refine lv_bipush (v := nZ 9) hX hB dX7_tries_2 (by decide) ?_
  refine zCallV0 (zRunV (As := [.int (nZ 0), .int (nZ 9)]) X mv_X7_copies (c_X7_copies l D k _ mm ms mk mb vsv vty vth ven vsp vla vpc s 0 9 (by first | assumption | omega | exact ⟨by omega, by omega⟩) (by first | assumption | omega | exact ⟨by omega, by omega⟩)) zw_255 (zPreV hP hD hK [0, 1] rfl rfl 0 7 rfl rfl rfl) rfl hl (Nat.le_of_ble_eq_true rfl) dX7_tries_4 ⟨rfl, rfl, ⟨Nat.le_of_ble_eq_true rfl, Nat.le_of_ble_eq_true rfl⟩, Nat.le_of_ble_eq_true rfl, Nat.le_of_ble_eq_true rfl⟩ rfl) hS hP hD hA [0, 1] rfl (fun _ => rfl) (fun u_4 H locs hq_4 hP hD hS => ?_)
  obtain ⟨s2_4, e9⟩ : ∃ z9, z9 = u_4 := ⟨_, rfl⟩; subst e9
  have hc_4 := hq_4
  try dsimp only at hc_4
  have hP : va_P D vwCl [(mm, .inr (7, [.ref ms, .int (nZ vsv), .ref mk, .ref mb, .int (nZ vty), .int (nZ vth), .int (nZ ven), .int (nZ vsp), .int (nZ vla), .int (nZ vpc)])), (ms, .inl (k 0, 900, .inl (zA s2_4)))] H := hP
  have hD : va_D A [(mm, .inr (7, [.ref ms, .int (nZ vsv), .ref mk, .ref mb, .int (nZ vty), .int (nZ vth), .int (nZ ven), .int (nZ vsp), .int (nZ vla), .int (nZ vpc)])), (ms, .inl (k 0, 900, .inl (zA s2_4)))] := hD
  have h8 : blkOk s2_4 810 B := cp_blk (f := 0) (t := 9) hBk hc_4
  have hf8 : frOk s s2_4 810 := cp_fr (f := 0) (t := 9) hc_4
  refine lv_aload_n hX hB dX7_tries_7 rfl (lv_at hl 0 rfl) ?_
  refine lv_sipush (v := nZ 810) hX hB dX7_tries_8 (by decide) ?_
  refine lv_iload_n hX hB dX7_tries_11 rfl (lv_at hl 1 rfl) ?_
  refine lv_iload_n hX hB dX7_tries_12 rfl (lv_at hl 2 rfl) ?_
  refine zCallI0 (zRunV (As := [.int (nZ 810), .int (nZ ↑j), .int (nZ st)]) X mv_X7_pushes (c_X7_pushes l D k _ mm ms mk mb vsv vty vth ven vsp vla vpc s2_4 810 j B st h8 (by first | assumption | omega | exact ⟨by omega, by omega⟩) hjj hCh hcost hst) zw_263 (zPreV hP hD hK [0, 1] rfl rfl 0 7 rfl rfl rfl) rfl hl (Nat.le_of_ble_eq_true rfl) dX7_tries_13 ⟨rfl, rfl, ⟨Nat.le_of_ble_eq_true rfl, Nat.le_of_ble_eq_true rfl⟩, Nat.le_of_ble_eq_true rfl, Nat.le_of_ble_eq_true rfl⟩ rfl) hS hP hD hA [0, 1] rfl (fun _ => rfl) (fun r_13 u_13 H locs hq_13 hP hD hS => ?_)
  obtain ⟨s2_13, ve2_13⟩ := u_13
  obtain ⟨rfl, hB2_13, hf2_13, hve_13⟩ := hq_13
  try dsimp only at hB2_13 hf2_13 hve_13
  have hP : va_P D vwCl [(mm, .inr (7, [.ref ms, .int (nZ vsv), .ref mk, .ref mb, .int (nZ vty), .int (nZ vth), .int (nZ ve2_13), .int (nZ vsp), .int (nZ vla), .int (nZ vpc)])), (ms, .inl (k 0, 900, .inl (zA s2_13)))] H := hP
  have hD : va_D A [(mm, .inr (7, [.ref ms, .int (nZ vsv), .ref mk, .ref mb, .int (nZ vty), .int (nZ vth), .int (nZ ve2_13), .int (nZ vsp), .int (nZ vla), .int (nZ vpc)])), (ms, .inl (k 0, 900, .inl (zA s2_13)))] := hD
  refine lv_istore_n (lv' := [(3, .int (nZ (nudS (B.1 0) st (B.2 j)))), (0, .ref mm), (1, .int (nZ ↑j)), (2, .int (nZ st))]) hX hB dX7_tries_16 rfl hl (by decide) rfl (fun ls hl => ?_)
  exact zRetV (s2_13, ve2_13) X hP hD hS rfl ⟨by first | assumption | omega | (dsimp only; omega) | rfl, hf8.trans hf2_13, by first | assumption | omega | (dsimp only; omega) | rfl⟩ dX7_tries_17
set_option maxHeartbeats 4000000 in
set_option maxRecDepth 100000 in
theorem c_X7_endOf (l : Launch) (D : va_G) (k : Nat → ClassId) (sz : Nat) (mm ms mk mb : Nat) (vsv vty vth ven vsp vla vpc : Int) (s : Nat → Int) (j : Nat) (B : Bd) (st : Int) (hBk : blkOk s 0 B) (hjj : j < 3) (hCh : chainS (-5) (B.2 j)) (hcost : 0 ≤ B.1 0 ∧ B.1 0 ≤ 20) (hst : 1 ≤ st ∧ st ≤ 150) : Met l yX7_endOf (zW yX7_endOf cX7_endOf 6 (some .int)) ({ frames := 2, cells := 0, slots := 0, locals := 45 } : Room) (va_Pc [.ref mm, .int (nZ ↑j), .int (nZ st)] (zIn D k sz [(mm, .inr (7, [.ref ms, .int (nZ vsv), .ref mk, .ref mb, .int (nZ vty), .int (nZ vth), .int (nZ ven), .int (nZ vsp), .int (nZ vla), .int (nZ vpc)])), (ms, .inl (k 0, 900, .inl (zA s)))])) (va_Qi (fun (rz : Int32) (uz : Unit) => rz = nZ (lastL (B.1 0) st (B.2 j))) (fun (uz : Unit) => zOut D (va_A [(mm, .inr (7, [.ref ms, .int (nZ vsv), .ref mk, .ref mb, .int (nZ vty), .int (nZ vth), .int (nZ ven), .int (nZ vsp), .int (nZ vla), .int (nZ vpc)])), (ms, .inl (k 0, 900, .inl (zA s)))] sz) [(mm, .inr (7, [.ref ms, .int (nZ vsv), .ref mk, .ref mb, .int (nZ vty), .int (nZ vth), .int (nZ ven), .int (nZ vsp), .int (nZ vla), .int (nZ vpc)])), (ms, .inl (k 0, 900, .inl (zA s)))]) (va_A [(mm, .inr (7, [.ref ms, .int (nZ vsv), .ref mk, .ref mb, .int (nZ vty), .int (nZ vth), .int (nZ ven), .int (nZ vsp), .int (nZ vla), .int (nZ vpc)])), (ms, .inl (k 0, 900, .inl (zA s)))] sz)) 0 0 (va_A [(mm, .inr (7, [.ref ms, .int (nZ vsv), .ref mk, .ref mb, .int (nZ vty), .int (nZ vth), .int (nZ ven), .int (nZ vsp), .int (nZ vla), .int (nZ vpc)])), (ms, .inl (k 0, 900, .inl (zA s)))] sz) := by
  refine zEnter (Qf := fun A => va_Qi (fun (rz : Int32) (uz : Unit) => rz = nZ (lastL (B.1 0) st (B.2 j))) (fun (uz : Unit) => zOut D A [(mm, .inr (7, [.ref ms, .int (nZ vsv), .ref mk, .ref mb, .int (nZ vty), .int (nZ vth), .int (nZ ven), .int (nZ vsp), .int (nZ vla), .int (nZ vpc)])), (ms, .inl (k 0, 900, .inl (zA s)))]) A) RX7 (by decide) rfl (Nat.le_of_ble_eq_true rfl) ?_
  intro p9 e9 s9 m9 be9 me9 c9 ls A X hin hP hD hS hA hAe hl
  have hX := X.1; have hB := X.2.1; have hz := X.2.2.2.2.1; have hW := X.2.2.2.2.2.1; have hK := X.2.2.2.2.2.2.2; clear hAe
  clear hin
  have hl : lv_has ls 6 [(0, .ref mm), (1, .int (nZ ↑j)), (2, .int (nZ st))] := hl
  have hLB : B.2 j = (B.2 j) := rfl
  have hl20 := chain_len hCh
  have hc0 : s 0 = B.1 0 := hBk.num (k := 0) (by omega)
  refine lv_iconst (v := nZ (-1)) hX hB dX7_endOf_0 rfl ?_
  refine lv_istore_n (lv' := [(3, .int (nZ (-1))), (0, .ref mm), (1, .int (nZ ↑j)), (2, .int (nZ st))]) hX hB dX7_endOf_1 rfl hl (by decide) rfl (fun ls hl => ?_)
  refine lv_bipush (v := nZ (-5)) hX hB dX7_endOf_2 (by decide) ?_
  refine lv_istore (lv' := [(4, .int (nZ (-5))), (3, .int (nZ (-1))), (0, .ref mm), (1, .int (nZ ↑j)), (2, .int (nZ st))]) hX hB dX7_endOf_4 hl (by decide) rfl (fun ls hl => ?_)
  refine lv_iload_n hX hB dX7_endOf_6 rfl (lv_at hl 4 rfl) ?_
  refine lv_istore (lv' := [(5, .int (nZ st)), (4, .int (nZ (-5))), (3, .int (nZ (-1))), (0, .ref mm), (1, .int (nZ ↑j)), (2, .int (nZ st))]) hX hB dX7_endOf_7 hl (by decide) rfl (fun ls hl => ?_)
  refine zLoop (σ := Nat × Int × Int × Int) (fun (x : Nat × Int × Int × Int) (H : Heap) (locs : List Loc) (ls : Array Slot) => match x with | (r, rk, ap, lf) => (rk = ↑r - 1) ∧ (r ≤ (B.2 j).length) ∧ (-5 ≤ ap ∧ ap ≤ 100) ∧ (-20 ≤ lf ∧ lf ≤ 150) ∧ (chainS ap ((B.2 j).drop r)) ∧ (lastL (B.1 0) st (B.2 j) = endI (B.1 0) ap lf (B.2 j) r) ∧ va_P D vwCl [(mm, .inr (7, [.ref ms, .int (nZ vsv), .ref mk, .ref mb, .int (nZ vty), .int (nZ vth), .int (nZ ven), .int (nZ vsp), .int (nZ vla), .int (nZ vpc)])), (ms, .inl (k 0, 900, .inl (zA s)))] H ∧ va_D A [(mm, .inr (7, [.ref ms, .int (nZ vsv), .ref mk, .ref mb, .int (nZ vty), .int (nZ vth), .int (nZ ven), .int (nZ vsp), .int (nZ vla), .int (nZ vpc)])), (ms, .inl (k 0, 900, .inl (zA s)))] ∧ va_S A s9.heap H locs ∧ lv_has ls 6 [(0, .ref mm), (1, .int (nZ ↑j)), (2, .int (nZ st)), (3, .int (nZ rk)), (4, .int (nZ ap)), (5, .int (nZ lf))]) (fun (x : Nat × Int × Int × Int) => match x with | (r, rk, ap, lf) => (lf + 20).toNat + ((B.2 j).length - r)) ?_ (0, (-1), (-5), st) ⟨(by rfl), (by exact Nat.zero_le _), (by first | omega | assumption | rfl), (by first | omega | assumption | rfl), (by exact hCh), (by unfold endI; rw [if_pos ⟨by omega, by omega⟩]; rfl), hP, hD, hS, (lv_sub hl [3, 4, 5, 2, 1, 0] rfl)⟩
  rintro ⟨r, rk, ap, lf⟩ H locs ls ⟨hrk, hr, hap, hlf, hc, hF, hP, hD, hS, hl⟩ ih_9
  refine lv_iload hX hB dX7_endOf_9 (lv_at hl 5 rfl) ?_
  refine zz_if_le X (tgt := 74) dX7_endOf_11 (by decide) ⟨by omega, by omega⟩ (fun c_11 => ?_) (fun c_11 => ?_)
  · refine lv_iload hX hB dX7_endOf_74 (lv_at hl 4 rfl) ?_
    exact zRetI () X hP hD hS rfl (by congr 1; rw [hF]; unfold endI; rw [if_neg (by omega)]) dX7_endOf_76
  · refine lv_iload hX hB dX7_endOf_14 (lv_at hl 4 rfl) ?_
    refine lv_bipush (v := nZ 100) hX hB dX7_endOf_16 (by decide) ?_
    refine zz_icmp_ge X (tgt := 74) dX7_endOf_18 (by decide) ⟨by omega, by omega⟩ ⟨by omega, by omega⟩ (fun c_18 => ?_) (fun c_18 => ?_)
    · refine lv_iload hX hB dX7_endOf_74 (lv_at hl 4 rfl) ?_
      exact zRetI () X hP hD hS rfl (by congr 1; rw [hF]; unfold endI; rw [if_neg (by omega)]) dX7_endOf_76
    · have hco := hBk.coin hjj r
      refine lv_aload_n hX hB dX7_endOf_21 rfl (lv_at hl 0 rfl) ?_
      refine lv_iconst (v := nZ 0) hX hB dX7_endOf_22 rfl ?_
      refine lv_iload_n hX hB dX7_endOf_23 rfl (lv_at hl 1 rfl) ?_
      refine lv_iload_n hX hB dX7_endOf_24 rfl (lv_at hl 3 rfl) ?_
      refine lv_iconst (v := nZ 1) hX hB dX7_endOf_25 rfl ?_
      refine zz_iadd X dX7_endOf_26 (z := ↑r) (by first | rfl | omega) ?_
      refine zCallI0 (zRunV (As := [.int (nZ 0), .int (nZ ↑j), .int (nZ ↑r)]) X mv_X7_coinAt (c_X7_coinAt l D k _ mm ms mk mb vsv vty vth ven vsp vla vpc s 0 j B r (B.2 j) hBk (by first | assumption | omega | exact ⟨by omega, by omega⟩) hjj hLB (by first | assumption | omega | exact ⟨by omega, by omega⟩)) zw_268 (zPreV hP hD hK [0, 1] rfl rfl 0 7 rfl rfl rfl) rfl hl (Nat.le_of_ble_eq_true rfl) dX7_endOf_27 ⟨rfl, rfl, ⟨Nat.le_of_ble_eq_true rfl, Nat.le_of_ble_eq_true rfl⟩, Nat.le_of_ble_eq_true rfl, Nat.le_of_ble_eq_true rfl⟩ rfl) hS hP hD hA [0, 1] rfl (fun _ => rfl) (fun r_27 u_27 H locs hq_27 hP hD hS => ?_)
      subst hq_27
      have hP : va_P D vwCl [(mm, .inr (7, [.ref ms, .int (nZ vsv), .ref mk, .ref mb, .int (nZ vty), .int (nZ vth), .int (nZ ven), .int (nZ vsp), .int (nZ vla), .int (nZ vpc)])), (ms, .inl (k 0, 900, .inl (zA s)))] H := hP
      have hD : va_D A [(mm, .inr (7, [.ref ms, .int (nZ vsv), .ref mk, .ref mb, .int (nZ vty), .int (nZ vth), .int (nZ ven), .int (nZ vsp), .int (nZ vla), .int (nZ vpc)])), (ms, .inl (k 0, 900, .inl (zA s)))] := hD
      refine lv_iload hX hB dX7_endOf_30 (lv_at hl 4 rfl) ?_
      refine zz_isub X dX7_endOf_32 (z := ((coinS (B.2 j) r) - ap)) (by first | rfl | omega) ?_
      refine lv_iconst (v := nZ 1) hX hB dX7_endOf_33 rfl ?_
      refine zz_isub X dX7_endOf_34 (z := (((coinS (B.2 j) r) - ap) - 1)) (by first | rfl | omega) ?_
      refine lv_iconst (v := nZ 5) hX hB dX7_endOf_35 rfl ?_
      refine zz_icmp_ge X (tgt := 65) dX7_endOf_36 (by decide) ⟨by omega, by omega⟩ ⟨by omega, by omega⟩ (fun c_36 => ?_) (fun c_36 => ?_)
      · have ho := endI_on (cost := B.1 0) hc (by omega) (by omega) (by omega)
        refine lv_iinc (v := nZ (ap + 1)) (lv' := [(4, .int (nZ (ap + 1))), (0, .ref mm), (1, .int (nZ ↑j)), (2, .int (nZ st)), (3, .int (nZ rk)), (5, .int (nZ lf))]) hX hB dX7_endOf_65 hl (k := 4) rfl (zinc (by omega)) (by decide) rfl (fun ls hl => ?_)
        refine lv_iinc (v := nZ (lf + (-1))) (lv' := [(5, .int (nZ (lf + (-1)))), (4, .int (nZ (ap + 1))), (0, .ref mm), (1, .int (nZ ↑j)), (2, .int (nZ st)), (3, .int (nZ rk))]) hX hB dX7_endOf_68 hl (k := 5) rfl (zinc (by omega)) (by decide) rfl (fun ls hl => ?_)
        refine lv_goto (tgt := 9) hX hB dX7_endOf_71 (by decide) ?_
        exact ih_9 (r, rk, (ap + 1), (lf + (-1))) _ _ _ ⟨(hrk), (hr), (by first | omega | assumption | rfl), (by first | omega | assumption | rfl), (by first | exact hn.2.2.2.2.1 | exact ho.1), (by first | (rw [hF, hn.2.2.2.2.2, hc0]) | (rw [hF, ho.2]; rfl)), hP, hD, hS, (lv_sub hl [2, 3, 4, 5, 1, 0] rfl)⟩ (by dsimp only; omega)
      · have hn := endI_nudge (cost := B.1 0) hc (by omega) (by omega) (by omega)
        refine lv_iinc (v := nZ ↑r) (lv' := [(3, .int (nZ ↑r)), (0, .ref mm), (1, .int (nZ ↑j)), (2, .int (nZ st)), (4, .int (nZ ap)), (5, .int (nZ lf))]) hX hB dX7_endOf_39 hl (k := 3) rfl (zinc (by omega)) (by decide) rfl (fun ls hl => ?_)
        refine lv_aload_n hX hB dX7_endOf_42 rfl (lv_at hl 1 rfl) ?_
        refine lv_iconst (v := nZ 0) hX hB dX7_endOf_43 rfl ?_
        refine lv_iload_n hX hB dX7_endOf_44 rfl (lv_at hl 2 rfl) ?_
        refine lv_iload_n hX hB dX7_endOf_45 rfl (lv_at hl 0 rfl) ?_
        refine zCallI0 (zRunV (As := [.int (nZ 0), .int (nZ ↑j), .int (nZ ↑r)]) X mv_X7_coinAt (c_X7_coinAt l D k _ mm ms mk mb vsv vty vth ven vsp vla vpc s 0 j B r (B.2 j) hBk (by first | assumption | omega | exact ⟨by omega, by omega⟩) hjj hLB (by first | assumption | omega | exact ⟨by omega, by omega⟩)) zw_268 (zPreV hP hD hK [0, 1] rfl rfl 0 7 rfl rfl rfl) rfl hl (Nat.le_of_ble_eq_true rfl) dX7_endOf_46 ⟨rfl, rfl, ⟨Nat.le_of_ble_eq_true rfl, Nat.le_of_ble_eq_true rfl⟩, Nat.le_of_ble_eq_true rfl, Nat.le_of_ble_eq_true rfl⟩ rfl) hS hP hD hA [0, 1] rfl (fun _ => rfl) (fun r_46 u_46 H locs hq_46 hP hD hS => ?_)
        subst hq_46
        have hP : va_P D vwCl [(mm, .inr (7, [.ref ms, .int (nZ vsv), .ref mk, .ref mb, .int (nZ vty), .int (nZ vth), .int (nZ ven), .int (nZ vsp), .int (nZ vla), .int (nZ vpc)])), (ms, .inl (k 0, 900, .inl (zA s)))] H := hP
        have hD : va_D A [(mm, .inr (7, [.ref ms, .int (nZ vsv), .ref mk, .ref mb, .int (nZ vty), .int (nZ vth), .int (nZ ven), .int (nZ vsp), .int (nZ vla), .int (nZ vpc)])), (ms, .inl (k 0, 900, .inl (zA s)))] := hD
        refine lv_istore (lv' := [(4, .int (nZ (coinS (B.2 j) r))), (3, .int (nZ ↑r)), (0, .ref mm), (1, .int (nZ ↑j)), (2, .int (nZ st)), (5, .int (nZ lf))]) hX hB dX7_endOf_49 hl (by decide) rfl (fun ls hl => ?_)
        refine lv_iload hX hB dX7_endOf_51 (lv_at hl 5 rfl) ?_
        refine lv_aload_n hX hB dX7_endOf_53 rfl (lv_at hl 2 rfl) ?_
        refine va_get hX hB hz inlX7 hW hK.1 hP 0 rfl rfl 0 (by decide) (hz _ zw_74) (fun _ h9 => h9) rfl dX7_endOf_54 ?_
        refine lv_iconst (v := nZ 0) hX hB dX7_endOf_57 rfl ?_
        refine zz_iald X hP 1 0 rfl rfl 0 (by omega) (by omega) (by first | decide | omega) dX7_endOf_58 ?_
        refine zz_isub X dX7_endOf_59 (z := (lf - (s 0))) (by first | rfl | omega) ?_
        refine lv_istore (lv' := [(5, .int (nZ (lf - (s 0)))), (4, .int (nZ (coinS (B.2 j) r))), (3, .int (nZ ↑r)), (0, .ref mm), (1, .int (nZ ↑j)), (2, .int (nZ st))]) hX hB dX7_endOf_60 hl (by decide) rfl (fun ls hl => ?_)
        refine lv_goto (tgt := 9) hX hB dX7_endOf_62 (by decide) ?_
        exact ih_9 ((r + 1), ↑r, (coinS (B.2 j) r), (lf - (s 0))) _ _ _ ⟨(by first | omega | assumption | rfl), (by first | omega | assumption | rfl), (by first | omega | assumption | rfl), (by first | omega | assumption | rfl), (by first | exact hn.2.2.2.2.1 | exact ho.1), (by first | (rw [hF, hn.2.2.2.2.2, hc0]) | (rw [hF, ho.2]; rfl)), hP, hD, hS, (lv_sub hl [3, 4, 5, 2, 1, 0] rfl)⟩ (by dsimp only; omega)
