set_option maxHeartbeats 4000000 in
set_option maxRecDepth 100000 in
theorem c_X7_gain (l : Launch) (D : va_G) (k : Nat → ClassId) (sz : Nat) (mm ms mk mb : Nat) (vsv vty vth ven vsp vla vpc : Int) (s : Nat → Int) (C : Bd) (hC : blkOk s 810 C) (hpl : 0 ≤ C.1 1 ∧ C.1 1 ≤ 1) (hch : chOk (chB C)) : Met l yX7_gain (zW yX7_gain cX7_gain 3 (some .int)) ({ frames := 4, cells := 0, slots := 0, locals := 95 } : Room) (va_Pc [.ref mm] (zIn D k sz [(mm, .inr (7, [.ref ms, .int (nZ vsv), .ref mk, .ref mb, .int (nZ vty), .int (nZ vth), .int (nZ ven), .int (nZ vsp), .int (nZ vla), .int (nZ vpc)])), (ms, .inl (k 0, 900, .inl (zA s)))])) (va_Qi (fun (rz : Int32) (uz : Unit) => rz = nZ (leadG C) ∧ (-9000 ≤ leadG C ∧ leadG C ≤ 9000)) (fun (uz : Unit) => zOut D (va_A [(mm, .inr (7, [.ref ms, .int (nZ vsv), .ref mk, .ref mb, .int (nZ vty), .int (nZ vth), .int (nZ ven), .int (nZ vsp), .int (nZ vla), .int (nZ vpc)])), (ms, .inl (k 0, 900, .inl (zA s)))] sz) [(mm, .inr (7, [.ref ms, .int (nZ vsv), .ref mk, .ref mb, .int (nZ vty), .int (nZ vth), .int (nZ ven), .int (nZ vsp), .int (nZ vla), .int (nZ vpc)])), (ms, .inl (k 0, 900, .inl (zA s)))]) (va_A [(mm, .inr (7, [.ref ms, .int (nZ vsv), .ref mk, .ref mb, .int (nZ vty), .int (nZ vth), .int (nZ ven), .int (nZ vsp), .int (nZ vla), .int (nZ vpc)])), (ms, .inl (k 0, 900, .inl (zA s)))] sz)) 0 0 (va_A [(mm, .inr (7, [.ref ms, .int (nZ vsv), .ref mk, .ref mb, .int (nZ vty), .int (nZ vth), .int (nZ ven), .int (nZ vsp), .int (nZ vla), .int (nZ vpc)])), (ms, .inl (k 0, 900, .inl (zA s)))] sz) := by
  refine zEnter (Qf := fun A => va_Qi (fun (rz : Int32) (uz : Unit) => rz = nZ (leadG C) ∧ (-9000 ≤ leadG C ∧ leadG C ≤ 9000)) (fun (uz : Unit) => zOut D A [(mm, .inr (7, [.ref ms, .int (nZ vsv), .ref mk, .ref mb, .int (nZ vty), .int (nZ vth), .int (nZ ven), .int (nZ vsp), .int (nZ vla), .int (nZ vpc)])), (ms, .inl (k 0, 900, .inl (zA s)))]) A) RX7 (by decide) rfl (Nat.le_of_ble_eq_true rfl) ?_
  intro p9 e9 s9 m9 be9 me9 c9 ls A X hin hP hD hS hA hAe hl
  have hX := X.1; have hB := X.2.1; have hz := X.2.2.2.2.1; have hW := X.2.2.2.2.2.1; have hK := X.2.2.2.2.2.2.2; clear hAe
  clear hin
  have hl : lv_has ls 3 [(0, .ref mm)] := hl
  refine lv_iconst (v := nZ 0) hX hB dX7_gain_0 rfl ?_
  refine lv_istore_n (lv' := [(1, .int (nZ 0)), (0, .ref mm)]) hX hB dX7_gain_1 rfl hl (by decide) rfl (fun ls hl => ?_)
  refine lv_iconst (v := nZ 0) hX hB dX7_gain_2 rfl ?_
  refine lv_istore_n (lv' := [(2, .int (nZ 0)), (1, .int (nZ 0)), (0, .ref mm)]) hX hB dX7_gain_3 rfl hl (by decide) rfl (fun ls hl => ?_)
  refine zLoop (σ := Nat × Int) (fun (x : Nat × Int) (H : Heap) (locs : List Loc) (ls : Array Slot) => match x with | (i, z) => (i ≤ 9) ∧ (z = sumTo (fun b => ownR (chB C) (C.1 1) b (cleanB C b) - othR (chB C) (C.1 1) b (cleanB C b)) i) ∧ va_P D vwCl [(mm, .inr (7, [.ref ms, .int (nZ vsv), .ref mk, .ref mb, .int (nZ vty), .int (nZ vth), .int (nZ ven), .int (nZ vsp), .int (nZ vla), .int (nZ vpc)])), (ms, .inl (k 0, 900, .inl (zA s)))] H ∧ va_D A [(mm, .inr (7, [.ref ms, .int (nZ vsv), .ref mk, .ref mb, .int (nZ vty), .int (nZ vth), .int (nZ ven), .int (nZ vsp), .int (nZ vla), .int (nZ vpc)])), (ms, .inl (k 0, 900, .inl (zA s)))] ∧ va_S A s9.heap H locs ∧ lv_has ls 3 [(0, .ref mm), (1, .int (nZ z)), (2, .int (nZ ↑i))]) (fun (x : Nat × Int) => match x with | (i, z) => 9 - i) ?_ (0, 0) ⟨(by first | omega | assumption | rfl), (by rfl), hP, hD, hS, (lv_sub hl [2, 1, 0] rfl)⟩
  rintro ⟨i, z⟩ H locs ls ⟨hi, hn, hP, hD, hS, hl⟩ ih_4
  refine lv_iload_n hX hB dX7_gain_4 rfl (lv_at hl 2 rfl) ?_
  refine lv_bipush (v := nZ 9) hX hB dX7_gain_5 (by decide) ?_
  refine zz_icmp_ge X (tgt := 38) dX7_gain_7 (by decide) ⟨by omega, by omega⟩ ⟨by omega, by omega⟩ (fun c_7 => ?_) (fun c_7 => ?_)
  · refine lv_iload_n hX hB dX7_gain_38 rfl (lv_at hl 1 rfl) ?_
    exact zRetI () X hP hD hS rfl ⟨by congr 1; rw [hn, show i = 9 by omega]; rfl, leadG_rng hch hpl hC.l20⟩ dX7_gain_39
  · refine lv_iload_n hX hB dX7_gain_10 rfl (lv_at hl 1 rfl) ?_
    refine lv_aload_n hX hB dX7_gain_11 rfl (lv_at hl 0 rfl) ?_
    refine lv_sipush (v := nZ 810) hX hB dX7_gain_12 (by decide) ?_
    refine lv_iload_n hX hB dX7_gain_15 rfl (lv_at hl 2 rfl) ?_
    refine lv_iconst (v := nZ 0) hX hB dX7_gain_16 rfl ?_
    refine zCallI0 (zRunV (As := [.int (nZ 810), .int (nZ ↑i), .int (nZ 0)]) X mv_X7_wouldGet (c_X7_wouldGet_0 l D k _ mm ms mk mb vsv vty vth ven vsp vla vpc s 810 C ↑i hC (by first | assumption | omega | exact ⟨by omega, by omega⟩) hpl hch (by first | assumption | omega | exact ⟨by omega, by omega⟩)) zw_287 (zPreV hP hD hK [0, 1] rfl rfl 0 7 rfl rfl rfl) rfl hl (Nat.le_of_ble_eq_true rfl) dX7_gain_17 ⟨rfl, rfl, ⟨Nat.le_of_ble_eq_true rfl, Nat.le_of_ble_eq_true rfl⟩, Nat.le_of_ble_eq_true rfl, Nat.le_of_ble_eq_true rfl⟩ rfl) hS hP hD hA [0, 1] rfl (fun _ => rfl) (fun r_17 u_17 H locs hq_17 hP hD hS => ?_)
    subst hq_17
    have hP : va_P D vwCl [(mm, .inr (7, [.ref ms, .int (nZ vsv), .ref mk, .ref mb, .int (nZ vty), .int (nZ vth), .int (nZ ven), .int (nZ vsp), .int (nZ vla), .int (nZ vpc)])), (ms, .inl (k 0, 900, .inl (zA s)))] H := hP
    have hD : va_D A [(mm, .inr (7, [.ref ms, .int (nZ vsv), .ref mk, .ref mb, .int (nZ vty), .int (nZ vth), .int (nZ ven), .int (nZ vsp), .int (nZ vla), .int (nZ vpc)])), (ms, .inl (k 0, 900, .inl (zA s)))] := hD
    refine lv_aload_n hX hB dX7_gain_20 rfl (lv_at hl 0 rfl) ?_
    refine lv_sipush (v := nZ 810) hX hB dX7_gain_21 (by decide) ?_
    refine lv_iload_n hX hB dX7_gain_24 rfl (lv_at hl 2 rfl) ?_
    refine lv_iconst (v := nZ 1) hX hB dX7_gain_25 rfl ?_
    refine zCallI0 (zRunV (As := [.int (nZ 810), .int (nZ ↑i), .int (nZ 1)]) X mv_X7_wouldGet (c_X7_wouldGet_1 l D k _ mm ms mk mb vsv vty vth ven vsp vla vpc s 810 C ↑i hC (by first | assumption | omega | exact ⟨by omega, by omega⟩) hpl hch (by first | assumption | omega | exact ⟨by omega, by omega⟩)) zw_287 (zPreV hP hD hK [0, 1] rfl rfl 0 7 rfl rfl rfl) rfl hl (Nat.le_of_ble_eq_true rfl) dX7_gain_26 ⟨rfl, rfl, ⟨Nat.le_of_ble_eq_true rfl, Nat.le_of_ble_eq_true rfl⟩, Nat.le_of_ble_eq_true rfl, Nat.le_of_ble_eq_true rfl⟩ rfl) hS hP hD hA [0, 1] rfl (fun _ => rfl) (fun r_26 u_26 H locs hq_26 hP hD hS => ?_)
    subst hq_26
    have hP : va_P D vwCl [(mm, .inr (7, [.ref ms, .int (nZ vsv), .ref mk, .ref mb, .int (nZ vty), .int (nZ vth), .int (nZ ven), .int (nZ vsp), .int (nZ vla), .int (nZ vpc)])), (ms, .inl (k 0, 900, .inl (zA s)))] H := hP
    have hD : va_D A [(mm, .inr (7, [.ref ms, .int (nZ vsv), .ref mk, .ref mb, .int (nZ vty), .int (nZ vth), .int (nZ ven), .int (nZ vsp), .int (nZ vla), .int (nZ vpc)])), (ms, .inl (k 0, 900, .inl (zA s)))] := hD
    refine zz_isub X dX7_gain_29 (z := ((ownR (chB C) (C.1 1) (↑i : Int) (cleanB C (↑i : Int))) - (othR (chB C) (C.1 1) (↑i : Int) (cleanB C (↑i : Int))))) (by first | rfl | omega) ?_
    refine zz_iadd X dX7_gain_30 (z := (z + ((ownR (chB C) (C.1 1) (↑i : Int) (cleanB C (↑i : Int))) - (othR (chB C) (C.1 1) (↑i : Int) (cleanB C (↑i : Int)))))) (by first | rfl | omega) ?_
    refine lv_istore_n (lv' := [(1, .int (nZ (z + ((ownR (chB C) (C.1 1) (↑i : Int) (cleanB C (↑i : Int))) - (othR (chB C) (C.1 1) (↑i : Int) (cleanB C (↑i : Int))))))), (0, .ref mm), (2, .int (nZ ↑i))]) hX hB dX7_gain_31 rfl hl (by decide) rfl (fun ls hl => ?_)
    refine lv_iinc (v := nZ (↑(i + 1) : Int)) (lv' := [(2, .int (nZ (↑(i + 1) : Int))), (1, .int (nZ (z + ((ownR (chB C) (C.1 1) (↑i : Int) (cleanB C (↑i : Int))) - (othR (chB C) (C.1 1) (↑i : Int) (cleanB C (↑i : Int))))))), (0, .ref mm)]) hX hB dX7_gain_32 hl (k := 2) rfl (zinc (by omega)) (by decide) rfl (fun ls hl => ?_)
    refine lv_goto (tgt := 4) hX hB dX7_gain_35 (by decide) ?_
    exact ih_4 ((i + 1), (z + ((ownR (chB C) (C.1 1) (↑i : Int) (cleanB C (↑i : Int))) - (othR (chB C) (C.1 1) (↑i : Int) (cleanB C (↑i : Int)))))) _ _ _ ⟨(by first | omega | assumption | rfl), (by rw [hn]; rfl), hP, hD, hS, (lv_sub hl [2, 1, 0] rfl)⟩ (by dsimp only; omega)
set_option maxHeartbeats 4000000 in
set_option maxRecDepth 100000 in
theorem c_X7_leastStrength (l : Launch) (D : va_G) (k : Nat → ClassId) (sz : Nat) (mm ms mk mb : Nat) (vsv vty vth ven vsp vla vpc : Int) (s : Nat → Int) (j : Nat) (B : Bd) (bed : Int) (hBk : blkOk s 0 B) (hjj : j < 3) (hCh : chainS (-5) (B.2 j)) (hcost : 0 ≤ B.1 0 ∧ B.1 0 ≤ 20) (hb : 0 ≤ bed ∧ bed < 9) : Met l yX7_leastStrength (zW yX7_leastStrength cX7_leastStrength 4 (some .int)) ({ frames := 5, cells := 0, slots := 0, locals := 128 } : Room) (va_Pc [.ref mm, .int (nZ ↑j), .int (nZ bed)] (zIn D k sz [(mm, .inr (7, [.ref ms, .int (nZ vsv), .ref mk, .ref mb, .int (nZ vty), .int (nZ vth), .int (nZ ven), .int (nZ vsp), .int (nZ vla), .int (nZ vpc)])), (ms, .inl (k 0, 900, .inl (zA s)))])) (va_Qi (fun (rz : Int32) (uz : (Nat → Int) × Int) => rz = nZ (strS (B.1 0) (B.2 j) bed) ∧ frOk s uz.1 810) (fun (uz : (Nat → Int) × Int) => zOut D (va_A [(mm, .inr (7, [.ref ms, .int (nZ vsv), .ref mk, .ref mb, .int (nZ vty), .int (nZ vth), .int (nZ ven), .int (nZ vsp), .int (nZ vla), .int (nZ vpc)])), (ms, .inl (k 0, 900, .inl (zA s)))] sz) [(mm, .inr (7, [.ref ms, .int (nZ vsv), .ref mk, .ref mb, .int (nZ vty), .int (nZ vth), .int (nZ uz.2), .int (nZ vsp), .int (nZ vla), .int (nZ vpc)])), (ms, .inl (k 0, 900, .inl (zA uz.1)))]) (va_A [(mm, .inr (7, [.ref ms, .int (nZ vsv), .ref mk, .ref mb, .int (nZ vty), .int (nZ vth), .int (nZ ven), .int (nZ vsp), .int (nZ vla), .int (nZ vpc)])), (ms, .inl (k 0, 900, .inl (zA s)))] sz)) 0 0 (va_A [(mm, .inr (7, [.ref ms, .int (nZ vsv), .ref mk, .ref mb, .int (nZ vty), .int (nZ vth), .int (nZ ven), .int (nZ vsp), .int (nZ vla), .int (nZ vpc)])), (ms, .inl (k 0, 900, .inl (zA s)))] sz) := by
  refine zEnter (Qf := fun A => va_Qi (fun (rz : Int32) (uz : (Nat → Int) × Int) => rz = nZ (strS (B.1 0) (B.2 j) bed) ∧ frOk s uz.1 810) (fun (uz : (Nat → Int) × Int) => zOut D A [(mm, .inr (7, [.ref ms, .int (nZ vsv), .ref mk, .ref mb, .int (nZ vty), .int (nZ vth), .int (nZ uz.2), .int (nZ vsp), .int (nZ vla), .int (nZ vpc)])), (ms, .inl (k 0, 900, .inl (zA uz.1)))]) A) RX7 (by decide) rfl (Nat.le_of_ble_eq_true rfl) ?_
  intro p9 e9 s9 m9 be9 me9 c9 ls A X hin hP hD hS hA hAe hl
  have hX := X.1; have hB := X.2.1; have hz := X.2.2.2.2.1; have hW := X.2.2.2.2.2.1; have hK := X.2.2.2.2.2.2.2; clear hAe
  clear hin
  have hl : lv_has ls 4 [(0, .ref mm), (1, .int (nZ ↑j)), (2, .int (nZ bed))] := hl
  refine lv_iconst (v := nZ 1) hX hB dX7_leastStrength_0 rfl ?_
  refine lv_istore_n (lv' := [(3, .int (nZ 1)), (0, .ref mm), (1, .int (nZ ↑j)), (2, .int (nZ bed))]) hX hB dX7_leastStrength_1 rfl hl (by decide) rfl (fun ls hl => ?_)
  refine zLoop (σ := Nat × (Nat → Int) × Int) (fun (x : Nat × (Nat → Int) × Int) (H : Heap) (locs : List Loc) (ls : Array Slot) => match x with | (x, q, ve) => (1 ≤ x ∧ x ≤ 151) ∧ (blkOk q 0 B) ∧ (frOk s q 810) ∧ (strS (B.1 0) (B.2 j) bed = firstS (fun st => decide (cleanS bed (B.2 j) < cleanS bed (restL (B.1 0) st (B.2 j)))) x (151 - x)) ∧ va_P D vwCl [(mm, .inr (7, [.ref ms, .int (nZ vsv), .ref mk, .ref mb, .int (nZ vty), .int (nZ vth), .int (nZ ve), .int (nZ vsp), .int (nZ vla), .int (nZ vpc)])), (ms, .inl (k 0, 900, .inl (zA q)))] H ∧ va_D A [(mm, .inr (7, [.ref ms, .int (nZ vsv), .ref mk, .ref mb, .int (nZ vty), .int (nZ vth), .int (nZ ve), .int (nZ vsp), .int (nZ vla), .int (nZ vpc)])), (ms, .inl (k 0, 900, .inl (zA q)))] ∧ va_S A s9.heap H locs ∧ lv_has ls 4 [(0, .ref mm), (1, .int (nZ ↑j)), (2, .int (nZ bed)), (3, .int (nZ ↑x))]) (fun (x : Nat × (Nat → Int) × Int) => match x with | (x, q, ve) => 151 - x) ?_ (1, s, ven) ⟨(by first | omega | assumption | rfl), (hBk), (by exact frOk.refl _ _), (by rfl), hP, hD, hS, (lv_sub hl [1, 2, 3, 0] rfl)⟩
  rintro ⟨x, q, ve⟩ H locs ls ⟨hx, hq, hf, hF, hP, hD, hS, hl⟩ ih_2
  refine lv_iload_n hX hB dX7_leastStrength_2 rfl (lv_at hl 3 rfl) ?_
  refine lv_sipush (v := nZ 150) hX hB dX7_leastStrength_3 (by decide) ?_
  refine zz_icmp_gt X (tgt := 40) dX7_leastStrength_6 (by decide) ⟨by omega, by omega⟩ ⟨by omega, by omega⟩ (fun c_6 => ?_) (fun c_6 => ?_)
  · refine lv_iconst (v := nZ (-1)) hX hB dX7_leastStrength_40 rfl ?_
    exact zRetI (q, ve) X hP hD hS rfl ⟨by rw [hF, show x = 151 by omega]; rfl, hf⟩ dX7_leastStrength_41
  · refine lv_aload_n hX hB dX7_leastStrength_9 rfl (lv_at hl 0 rfl) ?_
    refine lv_iload_n hX hB dX7_leastStrength_10 rfl (lv_at hl 1 rfl) ?_
    refine lv_iload_n hX hB dX7_leastStrength_11 rfl (lv_at hl 3 rfl) ?_
    refine zCallV0 (zRunV (As := [.int (nZ ↑j), .int (nZ ↑x)]) X mv_X7_tries (c_X7_tries l D k _ mm ms mk mb vsv vty vth ve vsp vla vpc q j B ↑x hq hjj hCh hcost (by first | assumption | omega | exact ⟨by omega, by omega⟩)) zw_598 (zPreV hP hD hK [0, 1] rfl rfl 0 7 rfl rfl rfl) rfl hl (Nat.le_of_ble_eq_true rfl) dX7_leastStrength_12 ⟨rfl, rfl, ⟨Nat.le_of_ble_eq_true rfl, Nat.le_of_ble_eq_true rfl⟩, Nat.le_of_ble_eq_true rfl, Nat.le_of_ble_eq_true rfl⟩ rfl) hS hP hD hA [0, 1] rfl (fun _ => rfl) (fun u_12 H locs hq_12 hP hD hS => ?_)
    obtain ⟨s2_12, ve2_12⟩ := u_12
    obtain ⟨hB2_12, hf2_12, hve_12⟩ := hq_12
    try dsimp only at hB2_12 hf2_12 hve_12
    have hP : va_P D vwCl [(mm, .inr (7, [.ref ms, .int (nZ vsv), .ref mk, .ref mb, .int (nZ vty), .int (nZ vth), .int (nZ ve2_12), .int (nZ vsp), .int (nZ vla), .int (nZ vpc)])), (ms, .inl (k 0, 900, .inl (zA s2_12)))] H := hP
    have hD : va_D A [(mm, .inr (7, [.ref ms, .int (nZ vsv), .ref mk, .ref mb, .int (nZ vty), .int (nZ vth), .int (nZ ve2_12), .int (nZ vsp), .int (nZ vla), .int (nZ vpc)])), (ms, .inl (k 0, 900, .inl (zA s2_12)))] := hD
    have hz0 : blkOk s2_12 0 B := hq.other hf2_12 (by omega)
    have hpc := push0_clean (B := B) hjj (↑x : Int) bed
    have hr0 := cleanB_rng hz0.l20 bed; have hr1 := cleanB_rng hB2_12.l20 bed
    refine lv_aload_n hX hB dX7_leastStrength_15 rfl (lv_at hl 0 rfl) ?_
    refine lv_sipush (v := nZ 810) hX hB dX7_leastStrength_16 (by decide) ?_
    refine lv_iload_n hX hB dX7_leastStrength_19 rfl (lv_at hl 2 rfl) ?_
    refine zCallI0 (zRunV (As := [.int (nZ 810), .int (nZ bed)]) X mv_X7_clean (c_X7_clean l D k _ mm ms mk mb vsv vty vth ve2_12 vsp vla vpc s2_12 810 (push0 B j (↑x : Int)) bed hB2_12 (by first | assumption | omega | exact ⟨by omega, by omega⟩) hb) zw_291 (zPreV hP hD hK [0, 1] rfl rfl 0 7 rfl rfl rfl) rfl hl (Nat.le_of_ble_eq_true rfl) dX7_leastStrength_20 ⟨rfl, rfl, ⟨Nat.le_of_ble_eq_true rfl, Nat.le_of_ble_eq_true rfl⟩, Nat.le_of_ble_eq_true rfl, Nat.le_of_ble_eq_true rfl⟩ rfl) hS hP hD hA [0, 1] rfl (fun _ => rfl) (fun r_20 u_20 H locs hq_20 hP hD hS => ?_)
    subst hq_20
    have hP : va_P D vwCl [(mm, .inr (7, [.ref ms, .int (nZ vsv), .ref mk, .ref mb, .int (nZ vty), .int (nZ vth), .int (nZ ve2_12), .int (nZ vsp), .int (nZ vla), .int (nZ vpc)])), (ms, .inl (k 0, 900, .inl (zA s2_12)))] H := hP
    have hD : va_D A [(mm, .inr (7, [.ref ms, .int (nZ vsv), .ref mk, .ref mb, .int (nZ vty), .int (nZ vth), .int (nZ ve2_12), .int (nZ vsp), .int (nZ vla), .int (nZ vpc)])), (ms, .inl (k 0, 900, .inl (zA s2_12)))] := hD
    refine lv_aload_n hX hB dX7_leastStrength_23 rfl (lv_at hl 0 rfl) ?_
    refine lv_iconst (v := nZ 0) hX hB dX7_leastStrength_24 rfl ?_
    refine lv_iload_n hX hB dX7_leastStrength_25 rfl (lv_at hl 2 rfl) ?_
    refine zCallI0 (zRunV (As := [.int (nZ 0), .int (nZ bed)]) X mv_X7_clean (c_X7_clean l D k _ mm ms mk mb vsv vty vth ve2_12 vsp vla vpc s2_12 0 B bed hz0 (by first | assumption | omega | exact ⟨by omega, by omega⟩) hb) zw_291 (zPreV hP hD hK [0, 1] rfl rfl 0 7 rfl rfl rfl) rfl hl (Nat.le_of_ble_eq_true rfl) dX7_leastStrength_26 ⟨rfl, rfl, ⟨Nat.le_of_ble_eq_true rfl, Nat.le_of_ble_eq_true rfl⟩, Nat.le_of_ble_eq_true rfl, Nat.le_of_ble_eq_true rfl⟩ rfl) hS hP hD hA [0, 1] rfl (fun _ => rfl) (fun r_26 u_26 H locs hq_26 hP hD hS => ?_)
    subst hq_26
    have hP : va_P D vwCl [(mm, .inr (7, [.ref ms, .int (nZ vsv), .ref mk, .ref mb, .int (nZ vty), .int (nZ vth), .int (nZ ve2_12), .int (nZ vsp), .int (nZ vla), .int (nZ vpc)])), (ms, .inl (k 0, 900, .inl (zA s2_12)))] H := hP
    have hD : va_D A [(mm, .inr (7, [.ref ms, .int (nZ vsv), .ref mk, .ref mb, .int (nZ vty), .int (nZ vth), .int (nZ ve2_12), .int (nZ vsp), .int (nZ vla), .int (nZ vpc)])), (ms, .inl (k 0, 900, .inl (zA s2_12)))] := hD
    refine zz_icmp_le X (tgt := 34) dX7_leastStrength_29 (by decide) ⟨by omega, by omega⟩ ⟨by omega, by omega⟩ (fun c_29 => ?_) (fun c_29 => ?_)
    · refine lv_iinc (v := nZ (↑(x + 1) : Int)) (lv' := [(3, .int (nZ (↑(x + 1) : Int))), (0, .ref mm), (1, .int (nZ ↑j)), (2, .int (nZ bed))]) hX hB dX7_leastStrength_34 hl (k := 3) rfl (zinc (by omega)) (by decide) rfl (fun ls hl => ?_)
      refine lv_goto (tgt := 2) hX hB dX7_leastStrength_37 (by decide) ?_
      exact ih_2 ((x + 1), s2_12, ve2_12) _ _ _ ⟨(by first | omega | assumption | rfl), (by exact hz0), (by exact hf.trans hf2_12), (by rw [hF, show 151 - x = (151 - (x + 1)) + 1 by omega, firstS, if_neg (by simp; omega)]), hP, hD, hS, (lv_sub hl [1, 2, 3, 0] rfl)⟩ (by dsimp only; omega)
    · refine lv_iload_n hX hB dX7_leastStrength_32 rfl (lv_at hl 3 rfl) ?_
      exact zRetI (s2_12, ve2_12) X hP hD hS rfl ⟨by rw [hF, show 151 - x = (151 - (x + 1)) + 1 by omega, firstS, if_pos (by simp; omega)], hf.trans hf2_12⟩ dX7_leastStrength_33
