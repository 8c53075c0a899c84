theorem ms_X7_laneAt : zMS yX7_laneAt cX7_laneAt 2 (some .int) 2 := ⟨zw_274, zw_5, ⟨by decide +kernel, by decide +kernel, by decide +kernel⟩, zw_273⟩
theorem ms_X7_in : zMS yX7_in cX7_in 3 (some .boolean) 3 := ⟨zw_241, zw_5, ⟨by decide +kernel, by decide +kernel, by decide +kernel⟩, zw_240⟩
theorem ms_X7_isLane : zMS yX7_isLane cX7_isLane 1 (some .boolean) 1 := ⟨zw_238, zw_5, ⟨by decide +kernel, by decide +kernel, by decide +kernel⟩, zw_237⟩
theorem ms_X7_isStrength : zMS yX7_isStrength cX7_isStrength 1 (some .boolean) 1 := ⟨zw_244, zw_5, ⟨by decide +kernel, by decide +kernel, by decide +kernel⟩, zw_243⟩
theorem ms_X7_isSlot : zMS yX7_isSlot cX7_isSlot 1 (some .boolean) 1 := ⟨zw_483, zw_5, ⟨by decide +kernel, by decide +kernel, by decide +kernel⟩, zw_482⟩
theorem ms_X7_least : zMS yX7_least cX7_least 2 (some .int) 2 := ⟨zw_301, zw_5, ⟨by decide +kernel, by decide +kernel, by decide +kernel⟩, zw_300⟩
theorem mv_X7_goes : zMV yX7_goes cX7_goes 3 (some .boolean) 2 := ⟨zw_248, zw_5, ⟨by decide +kernel, by decide +kernel, by decide +kernel⟩, zw_246, zw_247⟩
theorem mv_X7_coinAt : zMV yX7_coinAt cX7_coinAt 5 (some .int) 3 := ⟨zw_271, zw_5, ⟨by decide +kernel, by decide +kernel, by decide +kernel⟩, zw_269, zw_270⟩
theorem mv_X7_inserts : zMV yX7_inserts cX7_inserts 6 none 3 := ⟨zw_282, zw_5, ⟨by decide +kernel, by decide +kernel, by decide +kernel⟩, zw_280, zw_281⟩
theorem mv_X7_copies : zMV yX7_copies cX7_copies 4 none 2 := ⟨zw_258, zw_5, ⟨by decide +kernel, by decide +kernel, by decide +kernel⟩, zw_256, zw_257⟩
set_option maxHeartbeats 4000000 in
set_option maxRecDepth 100000 in
theorem c_X7_laneAt (l : Launch) (D : va_G) (k : Nat → ClassId) (sz : Nat) (b j : Nat)  : Met l yX7_laneAt (zW yX7_laneAt cX7_laneAt 2 (some .int)) ({ frames := 0, cells := 0, slots := 0, locals := 0 } : Room) (va_Pc [.int (nZ ↑b), .int (nZ ↑j)] (zIn D k sz [])) (va_Qi (fun (rz : Int32) (uz : Unit) => rz = nZ ((↑(b + 27) : Int) + (21 * ↑j))) (fun (uz : Unit) => zOut D (va_A [] sz) []) (va_A [] sz)) 0 0 (va_A [] sz) := by
  refine zEnter (Qf := fun A => va_Qi (fun (rz : Int32) (uz : Unit) => rz = nZ ((↑(b + 27) : Int) + (21 * ↑j))) (fun (uz : Unit) => zOut D A []) A) RX7 (by decide) rfl (Nat.le_of_ble_eq_true rfl) ?_
  intro p9 e9 s9 m9 be9 me9 c9 ls A X hin hP hD hS hA hAe hl
  have hX := X.1; have hB := X.2.1; have hz := X.2.2.2.2.1; have hW := X.2.2.2.2.2.1; have hK := X.2.2.2.2.2.2.2; clear hAe
  clear hin
  have hl : lv_has ls 2 [(0, .int (nZ ↑b)), (1, .int (nZ ↑j))] := hl
  refine lv_iload_n hX hB dX7_laneAt_0 rfl (lv_at hl 0 rfl) ?_
  refine lv_bipush (v := nZ 27) hX hB dX7_laneAt_1 (by decide) ?_
  refine zz_iadd X dX7_laneAt_3 (z := (↑(b + 27) : Int)) (by first | rfl | omega) ?_
  refine lv_bipush (v := nZ 21) hX hB dX7_laneAt_4 (by decide) ?_
  refine lv_iload_n hX hB dX7_laneAt_6 rfl (lv_at hl 1 rfl) ?_
  refine zz_imul X dX7_laneAt_7 (z := (21 * ↑j)) (by first | rfl | omega) ?_
  refine zz_iadd X dX7_laneAt_8 (z := ((↑(b + 27) : Int) + (21 * ↑j))) (by first | rfl | omega) ?_
  exact zRetI () X hP hD hS rfl (by first | rfl | (congr 1; omega) | (dsimp only; congr 1; omega)) dX7_laneAt_9
set_option maxHeartbeats 4000000 in
set_option maxRecDepth 100000 in
theorem c_X7_in_t (l : Launch) (D : va_G) (k : Nat → ClassId) (sz : Nat) (v lo hi : Int) (hv : zR v) (hlo : zR lo) (hhi : zR hi) (hi0 : lo ≤ v ∧ v ≤ hi) : Met l yX7_in (zW yX7_in cX7_in 3 (some .boolean)) ({ frames := 0, cells := 0, slots := 0, locals := 0 } : Room) (va_Pc [.int (nZ v), .int (nZ lo), .int (nZ hi)] (zIn D k sz [])) (va_Qi (fun (rz : Int32) (uz : Unit) => rz = nZ 1) (fun (uz : Unit) => zOut D (va_A [] sz) []) (va_A [] sz)) 0 0 (va_A [] sz) := by
  refine zEnter (Qf := fun A => va_Qi (fun (rz : Int32) (uz : Unit) => rz = nZ 1) (fun (uz : Unit) => zOut D A []) A) RX7 (by decide) rfl (Nat.le_of_ble_eq_true rfl) ?_
  intro p9 e9 s9 m9 be9 me9 c9 ls A X hin hP hD hS hA hAe hl
  have hX := X.1; have hB := X.2.1; have hz := X.2.2.2.2.1; have hW := X.2.2.2.2.2.1; have hK := X.2.2.2.2.2.2.2; clear hAe
  clear hin
  have hl : lv_has ls 3 [(0, .int (nZ v)), (1, .int (nZ lo)), (2, .int (nZ hi))] := hl
  refine lv_iload_n hX hB dX7_in_0 rfl (lv_at hl 0 rfl) ?_
  refine lv_iload_n hX hB dX7_in_1 rfl (lv_at hl 1 rfl) ?_
  refine zz_icmp_lt X (tgt := 14) dX7_in_2 (by decide) ⟨by (first | omega | exact hv.1 | exact hv.2 | exact hlo.1 | exact hlo.2 | exact hhi.1 | exact hhi.2), by (first | omega | exact hv.1 | exact hv.2 | exact hlo.1 | exact hlo.2 | exact hhi.1 | exact hhi.2)⟩ ⟨by (first | omega | exact hv.1 | exact hv.2 | exact hlo.1 | exact hlo.2 | exact hhi.1 | exact hhi.2), by (first | omega | exact hv.1 | exact hv.2 | exact hlo.1 | exact hlo.2 | exact hhi.1 | exact hhi.2)⟩ (fun c_2 => ?_) (fun c_2 => ?_)
  · exfalso; omega
  · refine lv_iload_n hX hB dX7_in_5 rfl (lv_at hl 0 rfl) ?_
    refine lv_iload_n hX hB dX7_in_6 rfl (lv_at hl 2 rfl) ?_
    refine zz_icmp_gt X (tgt := 14) dX7_in_7 (by decide) ⟨by (first | omega | exact hv.1 | exact hv.2 | exact hlo.1 | exact hlo.2 | exact hhi.1 | exact hhi.2), by (first | omega | exact hv.1 | exact hv.2 | exact hlo.1 | exact hlo.2 | exact hhi.1 | exact hhi.2)⟩ ⟨by (first | omega | exact hv.1 | exact hv.2 | exact hlo.1 | exact hlo.2 | exact hhi.1 | exact hhi.2), by (first | omega | exact hv.1 | exact hv.2 | exact hlo.1 | exact hlo.2 | exact hhi.1 | exact hhi.2)⟩ (fun c_7 => ?_) (fun c_7 => ?_)
    · exfalso; omega
    · refine lv_iconst (v := nZ 1) hX hB dX7_in_10 rfl ?_
      refine lv_goto (tgt := 15) hX hB dX7_in_11 (by decide) ?_
      exact zRetZ () X hP hD hS (by first | exact Or.inl rfl | exact Or.inr rfl) rfl (by first | rfl | (congr 1; omega) | (dsimp only; congr 1; omega)) dX7_in_15
set_option maxHeartbeats 4000000 in
set_option maxRecDepth 100000 in
theorem c_X7_in_f (l : Launch) (D : va_G) (k : Nat → ClassId) (sz : Nat) (v lo hi : Int) (hv : zR v) (hlo : zR lo) (hhi : zR hi) (hi0 : v < lo ∨ hi < v) : Met l yX7_in (zW yX7_in cX7_in 3 (some .boolean)) ({ frames := 0, cells := 0, slots := 0, locals := 0 } : Room) (va_Pc [.int (nZ v), .int (nZ lo), .int (nZ hi)] (zIn D k sz [])) (va_Qi (fun (rz : Int32) (uz : Unit) => rz = nZ 0) (fun (uz : Unit) => zOut D (va_A [] sz) []) (va_A [] sz)) 0 0 (va_A [] sz) := by
  refine zEnter (Qf := fun A => va_Qi (fun (rz : Int32) (uz : Unit) => rz = nZ 0) (fun (uz : Unit) => zOut D A []) A) RX7 (by decide) rfl (Nat.le_of_ble_eq_true rfl) ?_
  intro p9 e9 s9 m9 be9 me9 c9 ls A X hin hP hD hS hA hAe hl
  have hX := X.1; have hB := X.2.1; have hz := X.2.2.2.2.1; have hW := X.2.2.2.2.2.1; have hK := X.2.2.2.2.2.2.2; clear hAe
  clear hin
  have hl : lv_has ls 3 [(0, .int (nZ v)), (1, .int (nZ lo)), (2, .int (nZ hi))] := hl
  refine lv_iload_n hX hB dX7_in_0 rfl (lv_at hl 0 rfl) ?_
  refine lv_iload_n hX hB dX7_in_1 rfl (lv_at hl 1 rfl) ?_
  refine zz_icmp_lt X (tgt := 14) dX7_in_2 (by decide) ⟨by (first | omega | exact hv.1 | exact hv.2 | exact hlo.1 | exact hlo.2 | exact hhi.1 | exact hhi.2), by (first | omega | exact hv.1 | exact hv.2 | exact hlo.1 | exact hlo.2 | exact hhi.1 | exact hhi.2)⟩ ⟨by (first | omega | exact hv.1 | exact hv.2 | exact hlo.1 | exact hlo.2 | exact hhi.1 | exact hhi.2), by (first | omega | exact hv.1 | exact hv.2 | exact hlo.1 | exact hlo.2 | exact hhi.1 | exact hhi.2)⟩ (fun c_2 => ?_) (fun c_2 => ?_)
  · refine lv_iconst (v := nZ 0) hX hB dX7_in_14 rfl ?_
    first | (exfalso; omega) | exact zRetZ () X hP hD hS (by first | exact Or.inl rfl | exact Or.inr rfl) rfl (by first | rfl | (congr 1; omega) | (dsimp only; congr 1; omega)) dX7_in_15
  · refine lv_iload_n hX hB dX7_in_5 rfl (lv_at hl 0 rfl) ?_
    refine lv_iload_n hX hB dX7_in_6 rfl (lv_at hl 2 rfl) ?_
    refine zz_icmp_gt X (tgt := 14) dX7_in_7 (by decide) ⟨by (first | omega | exact hv.1 | exact hv.2 | exact hlo.1 | exact hlo.2 | exact hhi.1 | exact hhi.2), by (first | omega | exact hv.1 | exact hv.2 | exact hlo.1 | exact hlo.2 | exact hhi.1 | exact hhi.2)⟩ ⟨by (first | omega | exact hv.1 | exact hv.2 | exact hlo.1 | exact hlo.2 | exact hhi.1 | exact hhi.2), by (first | omega | exact hv.1 | exact hv.2 | exact hlo.1 | exact hlo.2 | exact hhi.1 | exact hhi.2)⟩ (fun c_7 => ?_) (fun c_7 => ?_)
    · refine lv_iconst (v := nZ 0) hX hB dX7_in_14 rfl ?_
      first | (exfalso; omega) | exact zRetZ () X hP hD hS (by first | exact Or.inl rfl | exact Or.inr rfl) rfl (by first | rfl | (congr 1; omega) | (dsimp only; congr 1; omega)) dX7_in_15
    · refine lv_iconst (v := nZ 1) hX hB dX7_in_10 rfl ?_
      refine lv_goto (tgt := 15) hX hB dX7_in_11 (by decide) ?_
      first | (exfalso; omega) | exact zRetZ () X hP hD hS (by first | exact Or.inl rfl | exact Or.inr rfl) rfl (by first | rfl | (congr 1; omega) | (dsimp only; congr 1; omega)) dX7_in_15
set_option maxHeartbeats 4000000 in
set_option maxRecDepth 100000 in
theorem c_X7_in_g (l : Launch) (D : va_G) (k : Nat → ClassId) (sz : Nat) (v lo hi : Int) (hv : zR v) (hlo : zR lo) (hhi : zR hi) : Met l yX7_in (zW yX7_in cX7_in 3 (some .boolean)) ({ frames := 0, cells := 0, slots := 0, locals := 0 } : Room) (va_Pc [.int (nZ v), .int (nZ lo), .int (nZ hi)] (zIn D k sz [])) (va_Qi (fun (rz : Int32) (uz : Unit) => (rz = nZ (if lo ≤ v ∧ v ≤ hi then 1 else 0))) (fun (uz : Unit) => zOut D (va_A [] sz) []) (va_A [] sz)) 0 0 (va_A [] sz) := by
  refine zEnter (Qf := fun A => va_Qi (fun (rz : Int32) (uz : Unit) => (rz = nZ (if lo ≤ v ∧ v ≤ hi then 1 else 0))) (fun (uz : Unit) => zOut D A []) A) RX7 (by decide) rfl (Nat.le_of_ble_eq_true rfl) ?_
  intro p9 e9 s9 m9 be9 me9 c9 ls A X hin hP hD hS hA hAe hl
  have hX := X.1; have hB := X.2.1; have hz := X.2.2.2.2.1; have hW := X.2.2.2.2.2.1; have hK := X.2.2.2.2.2.2.2; clear hAe
  clear hin
  have hl : lv_has ls 3 [(0, .int (nZ v)), (1, .int (nZ lo)), (2, .int (nZ hi))] := hl
  refine lv_iload_n hX hB dX7_in_0 rfl (lv_at hl 0 rfl) ?_
  refine lv_iload_n hX hB dX7_in_1 rfl (lv_at hl 1 rfl) ?_
  refine zz_icmp_lt X (tgt := 14) dX7_in_2 (by decide) ⟨by (first | omega | exact hv.1 | exact hv.2 | exact hlo.1 | exact hlo.2 | exact hhi.1 | exact hhi.2), by (first | omega | exact hv.1 | exact hv.2 | exact hlo.1 | exact hlo.2 | exact hhi.1 | exact hhi.2)⟩ ⟨by (first | omega | exact hv.1 | exact hv.2 | exact hlo.1 | exact hlo.2 | exact hhi.1 | exact hhi.2), by (first | omega | exact hv.1 | exact hv.2 | exact hlo.1 | exact hlo.2 | exact hhi.1 | exact hhi.2)⟩ (fun c_2 => ?_) (fun c_2 => ?_)
  · refine lv_iconst (v := nZ 0) hX hB dX7_in_14 rfl ?_
    exact zRetZ () X hP hD hS (by first | exact Or.inl rfl | exact Or.inr rfl) rfl (by first | rw [if_pos (by omega)] | rw [if_neg (by omega)]) dX7_in_15
  · refine lv_iload_n hX hB dX7_in_5 rfl (lv_at hl 0 rfl) ?_
    refine lv_iload_n hX hB dX7_in_6 rfl (lv_at hl 2 rfl) ?_
    refine zz_icmp_gt X (tgt := 14) dX7_in_7 (by decide) ⟨by (first | omega | exact hv.1 | exact hv.2 | exact hlo.1 | exact hlo.2 | exact hhi.1 | exact hhi.2), by (first | omega | exact hv.1 | exact hv.2 | exact hlo.1 | exact hlo.2 | exact hhi.1 | exact hhi.2)⟩ ⟨by (first | omega | exact hv.1 | exact hv.2 | exact hlo.1 | exact hlo.2 | exact hhi.1 | exact hhi.2), by (first | omega | exact hv.1 | exact hv.2 | exact hlo.1 | exact hlo.2 | exact hhi.1 | exact hhi.2)⟩ (fun c_7 => ?_) (fun c_7 => ?_)
    · refine lv_iconst (v := nZ 0) hX hB dX7_in_14 rfl ?_
      exact zRetZ () X hP hD hS (by first | exact Or.inl rfl | exact Or.inr rfl) rfl (by first | rw [if_pos (by omega)] | rw [if_neg (by omega)]) dX7_in_15
    · refine lv_iconst (v := nZ 1) hX hB dX7_in_10 rfl ?_
      refine lv_goto (tgt := 15) hX hB dX7_in_11 (by decide) ?_
      exact zRetZ () X hP hD hS (by first | exact Or.inl rfl | exact Or.inr rfl) rfl (by first | rw [if_pos (by omega)] | rw [if_neg (by omega)]) dX7_in_15
set_option maxHeartbeats 4000000 in
set_option maxRecDepth 100000 in
theorem c_X7_isLane_t (l : Launch) (D : va_G) (k : Nat → ClassId) (sz : Nat) (v : Int) (hv : zR v) (hi0 : 0 ≤ v ∧ v ≤ 2) : Met l yX7_isLane (zW yX7_isLane cX7_isLane 1 (some .boolean)) ({ frames := 1, cells := 0, slots := 0, locals := 22 } : Room) (va_Pc [.int (nZ v)] (zIn D k sz [])) (va_Qi (fun (rz : Int32) (uz : Unit) => rz = nZ 1) (fun (uz : Unit) => zOut D (va_A [] sz) []) (va_A [] sz)) 0 0 (va_A [] sz) := by
  refine zEnter (Qf := fun A => va_Qi (fun (rz : Int32) (uz : Unit) => rz = nZ 1) (fun (uz : Unit) => zOut D A []) A) RX7 (by decide) rfl (Nat.le_of_ble_eq_true rfl) ?_
  intro p9 e9 s9 m9 be9 me9 c9 ls A X hin hP hD hS hA hAe hl
  have hX := X.1; have hB := X.2.1; have hz := X.2.2.2.2.1; have hW := X.2.2.2.2.2.1; have hK := X.2.2.2.2.2.2.2; clear hAe
  clear hin
  have hl : lv_has ls 1 [(0, .int (nZ v))] := hl
  refine lv_iload_n hX hB dX7_isLane_0 rfl (lv_at hl 0 rfl) ?_
  refine lv_iconst (v := nZ 0) hX hB dX7_isLane_1 rfl ?_
  refine lv_iconst (v := nZ 2) hX hB dX7_isLane_2 rfl ?_
  refine zCallI0 (zRunS X ms_X7_in (c_X7_in_t l D k _ v 0 2 hv (⟨by decide, by decide⟩) (⟨by decide, by decide⟩) hi0) zw_239 (zPreS hP hD hK [] rfl rfl) rfl hl (Nat.le_of_ble_eq_true rfl) dX7_isLane_3 ⟨rfl, rfl, ⟨Nat.le_of_ble_eq_true rfl, Nat.le_of_ble_eq_true rfl⟩, Nat.le_of_ble_eq_true rfl, Nat.le_of_ble_eq_true rfl⟩ rfl) hS hP hD hA [] rfl (fun _ => rfl) (fun r_3 u_3 H locs hq_3 hP hD hS => ?_)
  subst hq_3
  have hP : va_P D vwCl [] H := hP
  have hD : va_D A [] := hD
  exact zRetZ () X hP hD hS (by first | exact Or.inl rfl | exact Or.inr rfl | (split <;> first | exact Or.inl rfl | exact Or.inr rfl)) rfl (by first | rfl | (congr 1; omega) | (dsimp only; congr 1; omega)) dX7_isLane_6
set_option maxHeartbeats 4000000 in
set_option maxRecDepth 100000 in
theorem c_X7_isLane_f (l : Launch) (D : va_G) (k : Nat → ClassId) (sz : Nat) (v : Int) (hv : zR v) (hi0 : v < 0 ∨ 2 < v) : Met l yX7_isLane (zW yX7_isLane cX7_isLane 1 (some .boolean)) ({ frames := 1, cells := 0, slots := 0, locals := 22 } : Room) (va_Pc [.int (nZ v)] (zIn D k sz [])) (va_Qi (fun (rz : Int32) (uz : Unit) => rz = nZ 0) (fun (uz : Unit) => zOut D (va_A [] sz) []) (va_A [] sz)) 0 0 (va_A [] sz) := by
  refine zEnter (Qf := fun A => va_Qi (fun (rz : Int32) (uz : Unit) => rz = nZ 0) (fun (uz : Unit) => zOut D A []) A) RX7 (by decide) rfl (Nat.le_of_ble_eq_true rfl) ?_
  intro p9 e9 s9 m9 be9 me9 c9 ls A X hin hP hD hS hA hAe hl
  have hX := X.1; have hB := X.2.1; have hz := X.2.2.2.2.1; have hW := X.2.2.2.2.2.1; have hK := X.2.2.2.2.2.2.2; clear hAe
  clear hin
  have hl : lv_has ls 1 [(0, .int (nZ v))] := hl
  refine lv_iload_n hX hB dX7_isLane_0 rfl (lv_at hl 0 rfl) ?_
  refine lv_iconst (v := nZ 0) hX hB dX7_isLane_1 rfl ?_
  refine lv_iconst (v := nZ 2) hX hB dX7_isLane_2 rfl ?_
  refine zCallI0 (zRunS X ms_X7_in (c_X7_in_f l D k _ v 0 2 hv (⟨by decide, by decide⟩) (⟨by decide, by decide⟩) hi0) zw_239 (zPreS hP hD hK [] rfl rfl) rfl hl (Nat.le_of_ble_eq_true rfl) dX7_isLane_3 ⟨rfl, rfl, ⟨Nat.le_of_ble_eq_true rfl, Nat.le_of_ble_eq_true rfl⟩, Nat.le_of_ble_eq_true rfl, Nat.le_of_ble_eq_true rfl⟩ rfl) hS hP hD hA [] rfl (fun _ => rfl) (fun r_3 u_3 H locs hq_3 hP hD hS => ?_)
  subst hq_3
  have hP : va_P D vwCl [] H := hP
  have hD : va_D A [] := hD
  exact zRetZ () X hP hD hS (by first | exact Or.inl rfl | exact Or.inr rfl | (split <;> first | exact Or.inl rfl | exact Or.inr rfl)) rfl (by first | rfl | (congr 1; omega) | (dsimp only; congr 1; omega)) dX7_isLane_6
set_option maxHeartbeats 4000000 in
set_option maxRecDepth 100000 in
theorem c_X7_isLane_g (l : Launch) (D : va_G) (k : Nat → ClassId) (sz : Nat) (v : Int) (hv : zR v) : Met l yX7_isLane (zW yX7_isLane cX7_isLane 1 (some .boolean)) ({ frames := 1, cells := 0, slots := 0, locals := 22 } : Room) (va_Pc [.int (nZ v)] (zIn D k sz [])) (va_Qi (fun (rz : Int32) (uz : Unit) => (rz = nZ (if 0 ≤ v ∧ v ≤ 2 then 1 else 0))) (fun (uz : Unit) => zOut D (va_A [] sz) []) (va_A [] sz)) 0 0 (va_A [] sz) := by
  refine zEnter (Qf := fun A => va_Qi (fun (rz : Int32) (uz : Unit) => (rz = nZ (if 0 ≤ v ∧ v ≤ 2 then 1 else 0))) (fun (uz : Unit) => zOut D A []) A) RX7 (by decide) rfl (Nat.le_of_ble_eq_true rfl) ?_
  intro p9 e9 s9 m9 be9 me9 c9 ls A X hin hP hD hS hA hAe hl
  have hX := X.1; have hB := X.2.1; have hz := X.2.2.2.2.1; have hW := X.2.2.2.2.2.1; have hK := X.2.2.2.2.2.2.2; clear hAe
  clear hin
  have hl : lv_has ls 1 [(0, .int (nZ v))] := hl
  refine lv_iload_n hX hB dX7_isLane_0 rfl (lv_at hl 0 rfl) ?_
  refine lv_iconst (v := nZ 0) hX hB dX7_isLane_1 rfl ?_
  refine lv_iconst (v := nZ 2) hX hB dX7_isLane_2 rfl ?_
  refine zCallI0 (zRunS X ms_X7_in (c_X7_in_g l D k _ v 0 2 hv (⟨by decide, by decide⟩) (⟨by decide, by decide⟩)) zw_239 (zPreS hP hD hK [] rfl rfl) rfl hl (Nat.le_of_ble_eq_true rfl) dX7_isLane_3 ⟨rfl, rfl, ⟨Nat.le_of_ble_eq_true rfl, Nat.le_of_ble_eq_true rfl⟩, Nat.le_of_ble_eq_true rfl, Nat.le_of_ble_eq_true rfl⟩ rfl) hS hP hD hA [] rfl (fun _ => rfl) (fun r_3 u_3 H locs hq_3 hP hD hS => ?_)
  subst hq_3
  have hP : va_P D vwCl [] H := hP
  have hD : va_D A [] := hD
  exact zRetZ () X hP hD hS (by first | exact Or.inl rfl | exact Or.inr rfl | (split <;> first | exact Or.inl rfl | exact Or.inr rfl)) rfl (by first | rfl | (congr 1; omega) | (dsimp only; congr 1; omega)) dX7_isLane_6
set_option maxHeartbeats 4000000 in
set_option maxRecDepth 100000 in
theorem c_X7_isStrength_t (l : Launch) (D : va_G) (k : Nat → ClassId) (sz : Nat) (v : Int) (hv : zR v) (hi0 : 1 ≤ v ∧ v ≤ 150) : Met l yX7_isStrength (zW yX7_isStrength cX7_isStrength 1 (some .boolean)) ({ frames := 1, cells := 0, slots := 0, locals := 22 } : Room) (va_Pc [.int (nZ v)] (zIn D k sz [])) (va_Qi (fun (rz : Int32) (uz : Unit) => rz = nZ 1) (fun (uz : Unit) => zOut D (va_A [] sz) []) (va_A [] sz)) 0 0 (va_A [] sz) := by
  refine zEnter (Qf := fun A => va_Qi (fun (rz : Int32) (uz : Unit) => rz = nZ 1) (fun (uz : Unit) => zOut D A []) A) RX7 (by decide) rfl (Nat.le_of_ble_eq_true rfl) ?_
  intro p9 e9 s9 m9 be9 me9 c9 ls A X hin hP hD hS hA hAe hl
  have hX := X.1; have hB := X.2.1; have hz := X.2.2.2.2.1; have hW := X.2.2.2.2.2.1; have hK := X.2.2.2.2.2.2.2; clear hAe
  clear hin
  have hl : lv_has ls 1 [(0, .int (nZ v))] := hl
  refine lv_iload_n hX hB dX7_isStrength_0 rfl (lv_at hl 0 rfl) ?_
  refine lv_iconst (v := nZ 1) hX hB dX7_isStrength_1 rfl ?_
  refine lv_sipush (v := nZ 150) hX hB dX7_isStrength_2 (by decide) ?_
  refine zCallI0 (zRunS X ms_X7_in (c_X7_in_t l D k _ v 1 150 hv (⟨by decide, by decide⟩) (⟨by decide, by decide⟩) hi0) zw_239 (zPreS hP hD hK [] rfl rfl) rfl hl (Nat.le_of_ble_eq_true rfl) dX7_isStrength_5 ⟨rfl, rfl, ⟨Nat.le_of_ble_eq_true rfl, Nat.le_of_ble_eq_true rfl⟩, Nat.le_of_ble_eq_true rfl, Nat.le_of_ble_eq_true rfl⟩ rfl) hS hP hD hA [] rfl (fun _ => rfl) (fun r_5 u_5 H locs hq_5 hP hD hS => ?_)
  subst hq_5
  have hP : va_P D vwCl [] H := hP
  have hD : va_D A [] := hD
  exact zRetZ () X hP hD hS (by first | exact Or.inl rfl | exact Or.inr rfl | (split <;> first | exact Or.inl rfl | exact Or.inr rfl)) rfl (by first | rfl | (congr 1; omega) | (dsimp only; congr 1; omega)) dX7_isStrength_8
set_option maxHeartbeats 4000000 in
set_option maxRecDepth 100000 in
theorem c_X7_isStrength_f (l : Launch) (D : va_G) (k : Nat → ClassId) (sz : Nat) (v : Int) (hv : zR v) (hi0 : v < 1 ∨ 150 < v) : Met l yX7_isStrength (zW yX7_isStrength cX7_isStrength 1 (some .boolean)) ({ frames := 1, cells := 0, slots := 0, locals := 22 } : Room) (va_Pc [.int (nZ v)] (zIn D k sz [])) (va_Qi (fun (rz : Int32) (uz : Unit) => rz = nZ 0) (fun (uz : Unit) => zOut D (va_A [] sz) []) (va_A [] sz)) 0 0 (va_A [] sz) := by
  refine zEnter (Qf := fun A => va_Qi (fun (rz : Int32) (uz : Unit) => rz = nZ 0) (fun (uz : Unit) => zOut D A []) A) RX7 (by decide) rfl (Nat.le_of_ble_eq_true rfl) ?_
  intro p9 e9 s9 m9 be9 me9 c9 ls A X hin hP hD hS hA hAe hl
  have hX := X.1; have hB := X.2.1; have hz := X.2.2.2.2.1; have hW := X.2.2.2.2.2.1; have hK := X.2.2.2.2.2.2.2; clear hAe
  clear hin
  have hl : lv_has ls 1 [(0, .int (nZ v))] := hl
  refine lv_iload_n hX hB dX7_isStrength_0 rfl (lv_at hl 0 rfl) ?_
  refine lv_iconst (v := nZ 1) hX hB dX7_isStrength_1 rfl ?_
  refine lv_sipush (v := nZ 150) hX hB dX7_isStrength_2 (by decide) ?_
  refine zCallI0 (zRunS X ms_X7_in (c_X7_in_f l D k _ v 1 150 hv (⟨by decide, by decide⟩) (⟨by decide, by decide⟩) hi0) zw_239 (zPreS hP hD hK [] rfl rfl) rfl hl (Nat.le_of_ble_eq_true rfl) dX7_isStrength_5 ⟨rfl, rfl, ⟨Nat.le_of_ble_eq_true rfl, Nat.le_of_ble_eq_true rfl⟩, Nat.le_of_ble_eq_true rfl, Nat.le_of_ble_eq_true rfl⟩ rfl) hS hP hD hA [] rfl (fun _ => rfl) (fun r_5 u_5 H locs hq_5 hP hD hS => ?_)
  subst hq_5
  have hP : va_P D vwCl [] H := hP
  have hD : va_D A [] := hD
  exact zRetZ () X hP hD hS (by first | exact Or.inl rfl | exact Or.inr rfl | (split <;> first | exact Or.inl rfl | exact Or.inr rfl)) rfl (by first | rfl | (congr 1; omega) | (dsimp only; congr 1; omega)) dX7_isStrength_8
set_option maxHeartbeats 4000000 in
set_option maxRecDepth 100000 in
theorem c_X7_isStrength_g (l : Launch) (D : va_G) (k : Nat → ClassId) (sz : Nat) (v : Int) (hv : zR v) : Met l yX7_isStrength (zW yX7_isStrength cX7_isStrength 1 (some .boolean)) ({ frames := 1, cells := 0, slots := 0, locals := 22 } : Room) (va_Pc [.int (nZ v)] (zIn D k sz [])) (va_Qi (fun (rz : Int32) (uz : Unit) => (rz = nZ (if 1 ≤ v ∧ v ≤ 150 then 1 else 0))) (fun (uz : Unit) => zOut D (va_A [] sz) []) (va_A [] sz)) 0 0 (va_A [] sz) := by
  refine zEnter (Qf := fun A => va_Qi (fun (rz : Int32) (uz : Unit) => (rz = nZ (if 1 ≤ v ∧ v ≤ 150 then 1 else 0))) (fun (uz : Unit) => zOut D A []) A) RX7 (by decide) rfl (Nat.le_of_ble_eq_true rfl) ?_
  intro p9 e9 s9 m9 be9 me9 c9 ls A X hin hP hD hS hA hAe hl
  have hX := X.1; have hB := X.2.1; have hz := X.2.2.2.2.1; have hW := X.2.2.2.2.2.1; have hK := X.2.2.2.2.2.2.2; clear hAe
  clear hin
  have hl : lv_has ls 1 [(0, .int (nZ v))] := hl
  refine lv_iload_n hX hB dX7_isStrength_0 rfl (lv_at hl 0 rfl) ?_
  refine lv_iconst (v := nZ 1) hX hB dX7_isStrength_1 rfl ?_
  refine lv_sipush (v := nZ 150) hX hB dX7_isStrength_2 (by decide) ?_
  refine zCallI0 (zRunS X ms_X7_in (c_X7_in_g l D k _ v 1 150 hv (⟨by decide, by decide⟩) (⟨by decide, by decide⟩)) zw_239 (zPreS hP hD hK [] rfl rfl) rfl hl (Nat.le_of_ble_eq_true rfl) dX7_isStrength_5 ⟨rfl, rfl, ⟨Nat.le_of_ble_eq_true rfl, Nat.le_of_ble_eq_true rfl⟩, Nat.le_of_ble_eq_true rfl, Nat.le_of_ble_eq_true rfl⟩ rfl) hS hP hD hA [] rfl (fun _ => rfl) (fun r_5 u_5 H locs hq_5 hP hD hS => ?_)
  subst hq_5
  have hP : va_P D vwCl [] H := hP
  have hD : va_D A [] := hD
  exact zRetZ () X hP hD hS (by first | exact Or.inl rfl | exact Or.inr rfl | (split <;> first | exact Or.inl rfl | exact Or.inr rfl)) rfl (by first | rfl | (congr 1; omega) | (dsimp only; congr 1; omega)) dX7_isStrength_8
set_option maxHeartbeats 4000000 in
set_option maxRecDepth 100000 in
theorem c_X7_isSlot_t (l : Launch) (D : va_G) (k : Nat → ClassId) (sz : Nat) (v : Int) (hv : zR v) (hi0 : 0 ≤ v ∧ v ≤ 1) : Met l yX7_isSlot (zW yX7_isSlot cX7_isSlot 1 (some .boolean)) ({ frames := 0, cells := 0, slots := 0, locals := 0 } : Room) (va_Pc [.int (nZ v)] (zIn D k sz [])) (va_Qi (fun (rz : Int32) (uz : Unit) => rz = nZ 1) (fun (uz : Unit) => zOut D (va_A [] sz) []) (va_A [] sz)) 0 0 (va_A [] sz) := by
  refine zEnter (Qf := fun A => va_Qi (fun (rz : Int32) (uz : Unit) => rz = nZ 1) (fun (uz : Unit) => zOut D A []) A) RX7 (by decide) rfl (Nat.le_of_ble_eq_true rfl) ?_
  intro p9 e9 s9 m9 be9 me9 c9 ls A X hin hP hD hS hA hAe hl
  have hX := X.1; have hB := X.2.1; have hz := X.2.2.2.2.1; have hW := X.2.2.2.2.2.1; have hK := X.2.2.2.2.2.2.2; clear hAe
  clear hin
  have hl : lv_has ls 1 [(0, .int (nZ v))] := hl
  refine lv_iload_n hX hB dX7_isSlot_0 rfl (lv_at hl 0 rfl) ?_
  refine zz_if_eq X (tgt := 9) dX7_isSlot_1 (by decide) ⟨by (first | omega | exact hv.1 | exact hv.2 | exact hlo.1 | exact hlo.2 | exact hhi.1 | exact hhi.2), by (first | omega | exact hv.1 | exact hv.2 | exact hlo.1 | exact hlo.2 | exact hhi.1 | exact hhi.2)⟩ (fun c_1 => ?_) (fun c_1 => ?_)
  · refine lv_iconst (v := nZ 1) hX hB dX7_isSlot_9 rfl ?_
    refine lv_goto (tgt := 14) hX hB dX7_isSlot_10 (by decide) ?_
    first | (exfalso; omega) | exact zRetZ () X hP hD hS (by first | exact Or.inl rfl | exact Or.inr rfl) rfl (by first | rfl | (congr 1; omega) | (dsimp only; congr 1; omega)) dX7_isSlot_14
  · refine lv_iload_n hX hB dX7_isSlot_4 rfl (lv_at hl 0 rfl) ?_
    refine lv_iconst (v := nZ 1) hX hB dX7_isSlot_5 rfl ?_
    refine zz_icmp_ne X (tgt := 13) dX7_isSlot_6 (by decide) ⟨by (first | omega | exact hv.1 | exact hv.2 | exact hlo.1 | exact hlo.2 | exact hhi.1 | exact hhi.2), by (first | omega | exact hv.1 | exact hv.2 | exact hlo.1 | exact hlo.2 | exact hhi.1 | exact hhi.2)⟩ ⟨by (first | omega | exact hv.1 | exact hv.2 | exact hlo.1 | exact hlo.2 | exact hhi.1 | exact hhi.2), by (first | omega | exact hv.1 | exact hv.2 | exact hlo.1 | exact hlo.2 | exact hhi.1 | exact hhi.2)⟩ (fun c_6 => ?_) (fun c_6 => ?_)
    · refine lv_iconst (v := nZ 0) hX hB dX7_isSlot_13 rfl ?_
      first | (exfalso; omega) | exact zRetZ () X hP hD hS (by first | exact Or.inl rfl | exact Or.inr rfl) rfl (by first | rfl | (congr 1; omega) | (dsimp only; congr 1; omega)) dX7_isSlot_14
    · refine lv_iconst (v := nZ 1) hX hB dX7_isSlot_9 rfl ?_
      refine lv_goto (tgt := 14) hX hB dX7_isSlot_10 (by decide) ?_
      first | (exfalso; omega) | exact zRetZ () X hP hD hS (by first | exact Or.inl rfl | exact Or.inr rfl) rfl (by first | rfl | (congr 1; omega) | (dsimp only; congr 1; omega)) dX7_isSlot_14
set_option maxHeartbeats 4000000 in
set_option maxRecDepth 100000 in
theorem c_X7_isSlot_f (l : Launch) (D : va_G) (k : Nat → ClassId) (sz : Nat) (v : Int) (hv : zR v) (hi0 : v < 0 ∨ 1 < v) : Met l yX7_isSlot (zW yX7_isSlot cX7_isSlot 1 (some .boolean)) ({ frames := 0, cells := 0, slots := 0, locals := 0 } : Room) (va_Pc [.int (nZ v)] (zIn D k sz [])) (va_Qi (fun (rz : Int32) (uz : Unit) => rz = nZ 0) (fun (uz : Unit) => zOut D (va_A [] sz) []) (va_A [] sz)) 0 0 (va_A [] sz) := by
  refine zEnter (Qf := fun A => va_Qi (fun (rz : Int32) (uz : Unit) => rz = nZ 0) (fun (uz : Unit) => zOut D A []) A) RX7 (by decide) rfl (Nat.le_of_ble_eq_true rfl) ?_
  intro p9 e9 s9 m9 be9 me9 c9 ls A X hin hP hD hS hA hAe hl
  have hX := X.1; have hB := X.2.1; have hz := X.2.2.2.2.1; have hW := X.2.2.2.2.2.1; have hK := X.2.2.2.2.2.2.2; clear hAe
  clear hin
  have hl : lv_has ls 1 [(0, .int (nZ v))] := hl
  refine lv_iload_n hX hB dX7_isSlot_0 rfl (lv_at hl 0 rfl) ?_
  refine zz_if_eq X (tgt := 9) dX7_isSlot_1 (by decide) ⟨by (first | omega | exact hv.1 | exact hv.2 | exact hlo.1 | exact hlo.2 | exact hhi.1 | exact hhi.2), by (first | omega | exact hv.1 | exact hv.2 | exact hlo.1 | exact hlo.2 | exact hhi.1 | exact hhi.2)⟩ (fun c_1 => ?_) (fun c_1 => ?_)
  · refine lv_iconst (v := nZ 1) hX hB dX7_isSlot_9 rfl ?_
    refine lv_goto (tgt := 14) hX hB dX7_isSlot_10 (by decide) ?_
    first | (exfalso; omega) | exact zRetZ () X hP hD hS (by first | exact Or.inl rfl | exact Or.inr rfl) rfl (by first | rfl | (congr 1; omega) | (dsimp only; congr 1; omega)) dX7_isSlot_14
  · refine lv_iload_n hX hB dX7_isSlot_4 rfl (lv_at hl 0 rfl) ?_
    refine lv_iconst (v := nZ 1) hX hB dX7_isSlot_5 rfl ?_
    refine zz_icmp_ne X (tgt := 13) dX7_isSlot_6 (by decide) ⟨by (first | omega | exact hv.1 | exact hv.2 | exact hlo.1 | exact hlo.2 | exact hhi.1 | exact hhi.2), by (first | omega | exact hv.1 | exact hv.2 | exact hlo.1 | exact hlo.2 | exact hhi.1 | exact hhi.2)⟩ ⟨by (first | omega | exact hv.1 | exact hv.2 | exact hlo.1 | exact hlo.2 | exact hhi.1 | exact hhi.2), by (first | omega | exact hv.1 | exact hv.2 | exact hlo.1 | exact hlo.2 | exact hhi.1 | exact hhi.2)⟩ (fun c_6 => ?_) (fun c_6 => ?_)
    · refine lv_iconst (v := nZ 0) hX hB dX7_isSlot_13 rfl ?_
      first | (exfalso; omega) | exact zRetZ () X hP hD hS (by first | exact Or.inl rfl | exact Or.inr rfl) rfl (by first | rfl | (congr 1; omega) | (dsimp only; congr 1; omega)) dX7_isSlot_14
    · refine lv_iconst (v := nZ 1) hX hB dX7_isSlot_9 rfl ?_
      refine lv_goto (tgt := 14) hX hB dX7_isSlot_10 (by decide) ?_
      first | (exfalso; omega) | exact zRetZ () X hP hD hS (by first | exact Or.inl rfl | exact Or.inr rfl) rfl (by first | rfl | (congr 1; omega) | (dsimp only; congr 1; omega)) dX7_isSlot_14
set_option maxHeartbeats 4000000 in
set_option maxRecDepth 100000 in
theorem c_X7_least (l : Launch) (D : va_G) (k : Nat → ClassId) (sz : Nat) (x y : Int) (hx : zR x) (hy : zR y) : Met l yX7_least (zW yX7_least cX7_least 2 (some .int)) ({ frames := 0, cells := 0, slots := 0, locals := 0 } : Room) (va_Pc [.int (nZ x), .int (nZ y)] (zIn D k sz [])) (va_Qi (fun (rz : Int32) (uz : Unit) => rz = nZ (min x y)) (fun (uz : Unit) => zOut D (va_A [] sz) []) (va_A [] sz)) 0 0 (va_A [] sz) := by
  refine zEnter (Qf := fun A => va_Qi (fun (rz : Int32) (uz : Unit) => rz = nZ (min x y)) (fun (uz : Unit) => zOut D A []) A) RX7 (by decide) rfl (Nat.le_of_ble_eq_true rfl) ?_
  intro p9 e9 s9 m9 be9 me9 c9 ls A X hin hP hD hS hA hAe hl
  have hX := X.1; have hB := X.2.1; have hz := X.2.2.2.2.1; have hW := X.2.2.2.2.2.1; have hK := X.2.2.2.2.2.2.2; clear hAe
  clear hin
  have hl : lv_has ls 2 [(0, .int (nZ x)), (1, .int (nZ y))] := hl
  refine lv_iload_n hX hB dX7_least_0 rfl (lv_at hl 0 rfl) ?_
  refine lv_iload_n hX hB dX7_least_1 rfl (lv_at hl 1 rfl) ?_
  refine zz_icmp_ge X (tgt := 9) dX7_least_2 (by decide) ⟨by (first | exact hx.1 | exact hx.2 | exact hy.1 | exact hy.2), by (first | exact hx.1 | exact hx.2 | exact hy.1 | exact hy.2)⟩ ⟨by (first | exact hx.1 | exact hx.2 | exact hy.1 | exact hy.2), by (first | exact hx.1 | exact hx.2 | exact hy.1 | exact hy.2)⟩ (fun c_2 => ?_) (fun c_2 => ?_)
  · refine lv_iload_n hX hB dX7_least_9 rfl (lv_at hl 1 rfl) ?_
    exact zRetI () X hP hD hS rfl (by first | rfl | (congr 1; omega) | (dsimp only; congr 1; omega)) dX7_least_10
  · refine lv_iload_n hX hB dX7_least_5 rfl (lv_at hl 0 rfl) ?_
    refine lv_goto (tgt := 10) hX hB dX7_least_6 (by decide) ?_
    exact zRetI () X hP hD hS rfl (by first | rfl | (congr 1; omega) | (dsimp only; congr 1; omega)) dX7_least_10
set_option maxHeartbeats 4000000 in
set_option maxRecDepth 100000 in
theorem c_X7_goes_11 (l : Launch) (D : va_G) (k : Nat → ClassId) (sz : Nat) (mm ms mk mb : Nat) (vsv vty vth ven vsp vla vpc : Int)  : Met l yX7_goes (zW yX7_goes cX7_goes 3 (some .boolean)) ({ frames := 0, cells := 0, slots := 0, locals := 0 } : Room) (va_Pc [.ref mm, .int (nZ 1), .int (nZ 1)] (zIn D k sz [(mm, .inr (7, [.ref ms, .int (nZ vsv), .ref mk, .ref mb, .int (nZ vty), .int (nZ vth), .int (nZ ven), .int (nZ vsp), .int (nZ vla), .int (nZ vpc)]))])) (va_Qi (fun (rz : Int32) (uz : Unit) => rz = nZ 1) (fun (uz : Unit) => zOut D (va_A [(mm, .inr (7, [.ref ms, .int (nZ vsv), .ref mk, .ref mb, .int (nZ vty), .int (nZ vth), .int (nZ ven), .int (nZ vsp), .int (nZ vla), .int (nZ vpc)]))] sz) [(mm, .inr (7, [.ref ms, .int (nZ vsv), .ref mk, .ref mb, .int (nZ vty), .int (nZ 0), .int (nZ ven), .int (nZ vsp), .int (nZ vla), .int (nZ vpc)]))]) (va_A [(mm, .inr (7, [.ref ms, .int (nZ vsv), .ref mk, .ref mb, .int (nZ vty), .int (nZ vth), .int (nZ ven), .int (nZ vsp), .int (nZ vla), .int (nZ vpc)]))] sz)) 0 0 (va_A [(mm, .inr (7, [.ref ms, .int (nZ vsv), .ref mk, .ref mb, .int (nZ vty), .int (nZ vth), .int (nZ ven), .int (nZ vsp), .int (nZ vla), .int (nZ vpc)]))] sz) := by
  refine zEnter (Qf := fun A => va_Qi (fun (rz : Int32) (uz : Unit) => rz = nZ 1) (fun (uz : Unit) => zOut D A [(mm, .inr (7, [.ref ms, .int (nZ vsv), .ref mk, .ref mb, .int (nZ vty), .int (nZ 0), .int (nZ ven), .int (nZ vsp), .int (nZ vla), .int (nZ vpc)]))]) A) RX7 (by decide) rfl (Nat.le_of_ble_eq_true rfl) ?_
  intro p9 e9 s9 m9 be9 me9 c9 ls A X hin hP hD hS hA hAe hl
  have hX := X.1; have hB := X.2.1; have hz := X.2.2.2.2.1; have hW := X.2.2.2.2.2.1; have hK := X.2.2.2.2.2.2.2; clear hAe
  clear hin
  have hl : lv_has ls 3 [(0, .ref mm), (1, .int (nZ 1)), (2, .int (nZ 1))] := hl
  refine lv_aload_n hX hB dX7_goes_0 rfl (lv_at hl 0 rfl) ?_
  refine lv_iload_n hX hB dX7_goes_1 rfl (lv_at hl 1 rfl) ?_
  refine zz_if_ne X (tgt := 9) dX7_goes_2 (by decide) ⟨by omega, by omega⟩ (fun c_2 => ?_) (fun c_2 => ?_)
  · refine lv_iload_n hX hB dX7_goes_9 rfl (lv_at hl 2 rfl) ?_
    refine zz_if_ne X (tgt := 17) dX7_goes_10 (by decide) ⟨by omega, by omega⟩ (fun c_10 => ?_) (fun c_10 => ?_)
    · refine lv_iconst (v := nZ 0) hX hB dX7_goes_17 rfl ?_
      refine va_put (v := .int (nZ 0)) (ty := tyX7 5) hX hB hz inlX7 tyX7 tyX7_ok nmX7 hW hK.1 hP hD hS 0 rfl rfl 5 (by decide) (hz _ zw_249) (fun _ h9 => h9) rfl (by decide +kernel) rfl rfl (Nat.le_of_ble_eq_true rfl) dX7_goes_18 (fun H locs hP hD hS => ?_)
      have hP : va_P D vwCl [(mm, .inr (7, [.ref ms, .int (nZ vsv), .ref mk, .ref mb, .int (nZ vty), .int (nZ 0), .int (nZ ven), .int (nZ vsp), .int (nZ vla), .int (nZ vpc)]))] H := hP
      have hD : va_D A [(mm, .inr (7, [.ref ms, .int (nZ vsv), .ref mk, .ref mb, .int (nZ vty), .int (nZ 0), .int (nZ ven), .int (nZ vsp), .int (nZ vla), .int (nZ vpc)]))] := hD
      refine lv_aload_n hX hB dX7_goes_21 rfl (lv_at hl 0 rfl) ?_
      refine va_get hX hB hz inlX7 hW hK.1 hP 0 rfl rfl 5 (by decide) (hz _ zw_249) (fun _ h9 => h9) rfl dX7_goes_22 ?_
      refine zz_if_ne X (tgt := 32) dX7_goes_25 (by decide) ⟨by omega, by omega⟩ (fun c_25 => ?_) (fun c_25 => ?_)
      · exfalso; omega
      · refine lv_iconst (v := nZ 1) hX hB dX7_goes_28 rfl ?_
        refine lv_goto (tgt := 33) hX hB dX7_goes_29 (by decide) ?_
        exact zRetZ () X hP hD hS (by first | exact Or.inl rfl | exact Or.inr rfl) rfl (by first | rfl | (congr 1; omega) | (dsimp only; congr 1; omega)) dX7_goes_33
    · exfalso; omega
  · exfalso; omega
set_option maxHeartbeats 4000000 in
set_option maxRecDepth 100000 in
theorem c_X7_goes_10 (l : Launch) (D : va_G) (k : Nat → ClassId) (sz : Nat) (mm ms mk mb : Nat) (vsv vty vth ven vsp vla vpc : Int)  : Met l yX7_goes (zW yX7_goes cX7_goes 3 (some .boolean)) ({ frames := 0, cells := 0, slots := 0, locals := 0 } : Room) (va_Pc [.ref mm, .int (nZ 1), .int (nZ 0)] (zIn D k sz [(mm, .inr (7, [.ref ms, .int (nZ vsv), .ref mk, .ref mb, .int (nZ vty), .int (nZ vth), .int (nZ ven), .int (nZ vsp), .int (nZ vla), .int (nZ vpc)]))])) (va_Qi (fun (rz : Int32) (uz : Unit) => rz = nZ 0) (fun (uz : Unit) => zOut D (va_A [(mm, .inr (7, [.ref ms, .int (nZ vsv), .ref mk, .ref mb, .int (nZ vty), .int (nZ vth), .int (nZ ven), .int (nZ vsp), .int (nZ vla), .int (nZ vpc)]))] sz) [(mm, .inr (7, [.ref ms, .int (nZ vsv), .ref mk, .ref mb, .int (nZ vty), .int (nZ 2), .int (nZ ven), .int (nZ vsp), .int (nZ vla), .int (nZ vpc)]))]) (va_A [(mm, .inr (7, [.ref ms, .int (nZ vsv), .ref mk, .ref mb, .int (nZ vty), .int (nZ vth), .int (nZ ven), .int (nZ vsp), .int (nZ vla), .int (nZ vpc)]))] sz)) 0 0 (va_A [(mm, .inr (7, [.ref ms, .int (nZ vsv), .ref mk, .ref mb, .int (nZ vty), .int (nZ vth), .int (nZ ven), .int (nZ vsp), .int (nZ vla), .int (nZ vpc)]))] sz) := by
  refine zEnter (Qf := fun A => va_Qi (fun (rz : Int32) (uz : Unit) => rz = nZ 0) (fun (uz : Unit) => zOut D A [(mm, .inr (7, [.ref ms, .int (nZ vsv), .ref mk, .ref mb, .int (nZ vty), .int (nZ 2), .int (nZ ven), .int (nZ vsp), .int (nZ vla), .int (nZ vpc)]))]) A) RX7 (by decide) rfl (Nat.le_of_ble_eq_true rfl) ?_
  intro p9 e9 s9 m9 be9 me9 c9 ls A X hin hP hD hS hA hAe hl
  have hX := X.1; have hB := X.2.1; have hz := X.2.2.2.2.1; have hW := X.2.2.2.2.2.1; have hK := X.2.2.2.2.2.2.2; clear hAe
  clear hin
  have hl : lv_has ls 3 [(0, .ref mm), (1, .int (nZ 1)), (2, .int (nZ 0))] := hl
  refine lv_aload_n hX hB dX7_goes_0 rfl (lv_at hl 0 rfl) ?_
  refine lv_iload_n hX hB dX7_goes_1 rfl (lv_at hl 1 rfl) ?_
  refine zz_if_ne X (tgt := 9) dX7_goes_2 (by decide) ⟨by omega, by omega⟩ (fun c_2 => ?_) (fun c_2 => ?_)
  · refine lv_iload_n hX hB dX7_goes_9 rfl (lv_at hl 2 rfl) ?_
    refine zz_if_ne X (tgt := 17) dX7_goes_10 (by decide) ⟨by omega, by omega⟩ (fun c_10 => ?_) (fun c_10 => ?_)
    · exfalso; omega
    · refine lv_iconst (v := nZ 2) hX hB dX7_goes_13 rfl ?_
      refine lv_goto (tgt := 18) hX hB dX7_goes_14 (by decide) ?_
      refine va_put (v := .int (nZ 2)) (ty := tyX7 5) hX hB hz inlX7 tyX7 tyX7_ok nmX7 hW hK.1 hP hD hS 0 rfl rfl 5 (by decide) (hz _ zw_249) (fun _ h9 => h9) rfl (by decide +kernel) rfl rfl (Nat.le_of_ble_eq_true rfl) dX7_goes_18 (fun H locs hP hD hS => ?_)
      have hP : va_P D vwCl [(mm, .inr (7, [.ref ms, .int (nZ vsv), .ref mk, .ref mb, .int (nZ vty), .int (nZ 2), .int (nZ ven), .int (nZ vsp), .int (nZ vla), .int (nZ vpc)]))] H := hP
      have hD : va_D A [(mm, .inr (7, [.ref ms, .int (nZ vsv), .ref mk, .ref mb, .int (nZ vty), .int (nZ 2), .int (nZ ven), .int (nZ vsp), .int (nZ vla), .int (nZ vpc)]))] := hD
      refine lv_aload_n hX hB dX7_goes_21 rfl (lv_at hl 0 rfl) ?_
      refine va_get hX hB hz inlX7 hW hK.1 hP 0 rfl rfl 5 (by decide) (hz _ zw_249) (fun _ h9 => h9) rfl dX7_goes_22 ?_
      refine zz_if_ne X (tgt := 32) dX7_goes_25 (by decide) ⟨by omega, by omega⟩ (fun c_25 => ?_) (fun c_25 => ?_)
      · refine lv_iconst (v := nZ 0) hX hB dX7_goes_32 rfl ?_
        exact zRetZ () X hP hD hS (by first | exact Or.inl rfl | exact Or.inr rfl) rfl (by first | rfl | (congr 1; omega) | (dsimp only; congr 1; omega)) dX7_goes_33
      · exfalso; omega
  · exfalso; omega
set_option maxHeartbeats 4000000 in
set_option maxRecDepth 100000 in
theorem c_X7_goes_0 (l : Launch) (D : va_G) (k : Nat → ClassId) (sz : Nat) (mm ms mk mb : Nat) (vsv vty vth ven vsp vla vpc : Int) (y : Int)  : Met l yX7_goes (zW yX7_goes cX7_goes 3 (some .boolean)) ({ frames := 0, cells := 0, slots := 0, locals := 0 } : Room) (va_Pc [.ref mm, .int (nZ 0), .int (nZ y)] (zIn D k sz [(mm, .inr (7, [.ref ms, .int (nZ vsv), .ref mk, .ref mb, .int (nZ vty), .int (nZ vth), .int (nZ ven), .int (nZ vsp), .int (nZ vla), .int (nZ vpc)]))])) (va_Qi (fun (rz : Int32) (uz : Unit) => rz = nZ 0) (fun (uz : Unit) => zOut D (va_A [(mm, .inr (7, [.ref ms, .int (nZ vsv), .ref mk, .ref mb, .int (nZ vty), .int (nZ vth), .int (nZ ven), .int (nZ vsp), .int (nZ vla), .int (nZ vpc)]))] sz) [(mm, .inr (7, [.ref ms, .int (nZ vsv), .ref mk, .ref mb, .int (nZ vty), .int (nZ 1), .int (nZ ven), .int (nZ vsp), .int (nZ vla), .int (nZ vpc)]))]) (va_A [(mm, .inr (7, [.ref ms, .int (nZ vsv), .ref mk, .ref mb, .int (nZ vty), .int (nZ vth), .int (nZ ven), .int (nZ vsp), .int (nZ vla), .int (nZ vpc)]))] sz)) 0 0 (va_A [(mm, .inr (7, [.ref ms, .int (nZ vsv), .ref mk, .ref mb, .int (nZ vty), .int (nZ vth), .int (nZ ven), .int (nZ vsp), .int (nZ vla), .int (nZ vpc)]))] sz) := by
  refine zEnter (Qf := fun A => va_Qi (fun (rz : Int32) (uz : Unit) => rz = nZ 0) (fun (uz : Unit) => zOut D A [(mm, .inr (7, [.ref ms, .int (nZ vsv), .ref mk, .ref mb, .int (nZ vty), .int (nZ 1), .int (nZ ven), .int (nZ vsp), .int (nZ vla), .int (nZ vpc)]))]) A) RX7 (by decide) rfl (Nat.le_of_ble_eq_true rfl) ?_
  intro p9 e9 s9 m9 be9 me9 c9 ls A X hin hP hD hS hA hAe hl
  have hX := X.1; have hB := X.2.1; have hz := X.2.2.2.2.1; have hW := X.2.2.2.2.2.1; have hK := X.2.2.2.2.2.2.2; clear hAe
  clear hin
  have hl : lv_has ls 3 [(0, .ref mm), (1, .int (nZ 0)), (2, .int (nZ y))] := hl
  refine lv_aload_n hX hB dX7_goes_0 rfl (lv_at hl 0 rfl) ?_
  refine lv_iload_n hX hB dX7_goes_1 rfl (lv_at hl 1 rfl) ?_
  refine zz_if_ne X (tgt := 9) dX7_goes_2 (by decide) ⟨by omega, by omega⟩ (fun c_2 => ?_) (fun c_2 => ?_)
  · exfalso; omega
  · refine lv_iconst (v := nZ 1) hX hB dX7_goes_5 rfl ?_
    refine lv_goto (tgt := 18) hX hB dX7_goes_6 (by decide) ?_
    refine va_put (v := .int (nZ 1)) (ty := tyX7 5) hX hB hz inlX7 tyX7 tyX7_ok nmX7 hW hK.1 hP hD hS 0 rfl rfl 5 (by decide) (hz _ zw_249) (fun _ h9 => h9) rfl (by decide +kernel) rfl rfl (Nat.le_of_ble_eq_true rfl) dX7_goes_18 (fun H locs hP hD hS => ?_)
    have hP : va_P D vwCl [(mm, .inr (7, [.ref ms, .int (nZ vsv), .ref mk, .ref mb, .int (nZ vty), .int (nZ 1), .int (nZ ven), .int (nZ vsp), .int (nZ vla), .int (nZ vpc)]))] H := hP
    have hD : va_D A [(mm, .inr (7, [.ref ms, .int (nZ vsv), .ref mk, .ref mb, .int (nZ vty), .int (nZ 1), .int (nZ ven), .int (nZ vsp), .int (nZ vla), .int (nZ vpc)]))] := hD
    refine lv_aload_n hX hB dX7_goes_21 rfl (lv_at hl 0 rfl) ?_
    refine va_get hX hB hz inlX7 hW hK.1 hP 0 rfl rfl 5 (by decide) (hz _ zw_249) (fun _ h9 => h9) rfl dX7_goes_22 ?_
    refine zz_if_ne X (tgt := 32) dX7_goes_25 (by decide) ⟨by omega, by omega⟩ (fun c_25 => ?_) (fun c_25 => ?_)
    · refine lv_iconst (v := nZ 0) hX hB dX7_goes_32 rfl ?_
      exact zRetZ () X hP hD hS (by first | exact Or.inl rfl | exact Or.inr rfl) rfl (by first | rfl | (congr 1; omega) | (dsimp only; congr 1; omega)) dX7_goes_33
    · exfalso; omega
set_option maxHeartbeats 4000000 in
set_option maxRecDepth 100000 in
theorem c_X7_coinAt (l : Launch) (D : va_G) (k : Nat → ClassId) (sz : Nat) (mm ms mk mb : Nat) (vsv vty vth ven vsp vla vpc : Int) (s : Nat → Int) (b j : Nat) (B : Bd) (r : Nat) (L : List Int) (hBk : blkOk s b B) (hbb : b ≤ 810) (hjj : j < 3) (hLj : B.2 j = L) (hr : r ≤ 30) : Met l yX7_coinAt (zW yX7_coinAt cX7_coinAt 5 (some .int)) ({ frames := 1, cells := 0, slots := 0, locals := 21 } : Room) (va_Pc [.ref mm, .int (nZ ↑b), .int (nZ ↑j), .int (nZ ↑r)] (zIn D k sz [(mm, .inr (7, [.ref ms, .int (nZ vsv), .ref mk, .ref mb, .int (nZ vty), .int (nZ vth), .int (nZ ven), .int (nZ vsp), .int (nZ vla), .int (nZ vpc)])), (ms, .inl (k 0, 900, .inl (zA s)))])) (va_Qi (fun (rz : Int32) (uz : Unit) => rz = nZ (coinS L r)) (fun (uz : Unit) => zOut D (va_A [(mm, .inr (7, [.ref ms, .int (nZ vsv), .ref mk, .ref mb, .int (nZ vty), .int (nZ vth), .int (nZ ven), .int (nZ vsp), .int (nZ vla), .int (nZ vpc)])), (ms, .inl (k 0, 900, .inl (zA s)))] sz) [(mm, .inr (7, [.ref ms, .int (nZ vsv), .ref mk, .ref mb, .int (nZ vty), .int (nZ vth), .int (nZ ven), .int (nZ vsp), .int (nZ vla), .int (nZ vpc)])), (ms, .inl (k 0, 900, .inl (zA s)))]) (va_A [(mm, .inr (7, [.ref ms, .int (nZ vsv), .ref mk, .ref mb, .int (nZ vty), .int (nZ vth), .int (nZ ven), .int (nZ vsp), .int (nZ vla), .int (nZ vpc)])), (ms, .inl (k 0, 900, .inl (zA s)))] sz)) 0 0 (va_A [(mm, .inr (7, [.ref ms, .int (nZ vsv), .ref mk, .ref mb, .int (nZ vty), .int (nZ vth), .int (nZ ven), .int (nZ vsp), .int (nZ vla), .int (nZ vpc)])), (ms, .inl (k 0, 900, .inl (zA s)))] sz) := by
  refine zEnter (Qf := fun A => va_Qi (fun (rz : Int32) (uz : Unit) => rz = nZ (coinS L r)) (fun (uz : Unit) => zOut D A [(mm, .inr (7, [.ref ms, .int (nZ vsv), .ref mk, .ref mb, .int (nZ vty), .int (nZ vth), .int (nZ ven), .int (nZ vsp), .int (nZ vla), .int (nZ vpc)])), (ms, .inl (k 0, 900, .inl (zA s)))]) A) RX7 (by decide) rfl (Nat.le_of_ble_eq_true rfl) ?_
  intro p9 e9 s9 m9 be9 me9 c9 ls A X hin hP hD hS hA hAe hl
  have hX := X.1; have hB := X.2.1; have hz := X.2.2.2.2.1; have hW := X.2.2.2.2.2.1; have hK := X.2.2.2.2.2.2.2; clear hAe
  clear hin
  have hl : lv_has ls 5 [(0, .ref mm), (1, .int (nZ ↑b)), (2, .int (nZ ↑j)), (3, .int (nZ ↑r))] := hl
  subst hLj
  have hl9 := hBk.len hjj
  refine lv_iload_n hX hB dX7_coinAt_0 rfl (lv_at hl 1 rfl) ?_
  refine lv_iload_n hX hB dX7_coinAt_1 rfl (lv_at hl 2 rfl) ?_
  refine zCallI0 (zRunS X ms_X7_laneAt (c_X7_laneAt l D k _ b j ) zw_272 (zPreS hP hD hK [] rfl rfl) rfl hl (Nat.le_of_ble_eq_true rfl) dX7_coinAt_2 ⟨rfl, rfl, ⟨Nat.le_of_ble_eq_true rfl, Nat.le_of_ble_eq_true rfl⟩, Nat.le_of_ble_eq_true rfl, Nat.le_of_ble_eq_true rfl⟩ rfl) hS hP hD hA [] rfl (fun _ => rfl) (fun r_2 u_2 H locs hq_2 hP hD hS => ?_)
  subst hq_2
  have hP : va_P D vwCl [(mm, .inr (7, [.ref ms, .int (nZ vsv), .ref mk, .ref mb, .int (nZ vty), .int (nZ vth), .int (nZ ven), .int (nZ vsp), .int (nZ vla), .int (nZ vpc)])), (ms, .inl (k 0, 900, .inl (zA s)))] H := hP
  have hD : va_D A [(mm, .inr (7, [.ref ms, .int (nZ vsv), .ref mk, .ref mb, .int (nZ vty), .int (nZ vth), .int (nZ ven), .int (nZ vsp), .int (nZ vla), .int (nZ vpc)])), (ms, .inl (k 0, 900, .inl (zA s)))] := hD
  refine lv_istore (lv' := [(4, .int (nZ ((↑(b + 27) : Int) + (21 * ↑j)))), (0, .ref mm), (1, .int (nZ ↑b)), (2, .int (nZ ↑j)), (3, .int (nZ ↑r))]) hX hB dX7_coinAt_5 hl (by decide) rfl (fun ls hl => ?_)
  refine lv_iload_n hX hB dX7_coinAt_7 rfl (lv_at hl 4 rfl) ?_
  refine lv_aload_n hX hB dX7_coinAt_8 rfl (lv_at hl 1 rfl) ?_
  refine va_get hX hB hz inlX7 hW hK.1 hP 0 rfl rfl 0 (by decide) (hz _ zw_74) (fun _ h9 => h9) rfl dX7_coinAt_9 ?_
  refine lv_iload hX hB dX7_coinAt_12 (lv_at hl 0 rfl) ?_
  refine zz_iald X hP 1 0 rfl rfl (((b + 27)) + (21 * j)) (by omega) (by omega) (by first | decide | omega) dX7_coinAt_14 ?_
  refine zz_icmp_ge X (tgt := 32) dX7_coinAt_15 (by decide) ⟨by omega, by omega⟩ ⟨by omega, by omega⟩ (fun c_15 => ?_) (fun c_15 => ?_)
  · refine lv_sipush (v := nZ 1000) hX hB dX7_coinAt_32 (by decide) ?_
    exact zRetI () X hP hD hS rfl (by first | (rw [coinS_lt (by omega), ← (hBk.at hjj (by omega)).1]) | rw [coinS_ge (by omega)]) dX7_coinAt_35
  · refine lv_aload_n hX hB dX7_coinAt_18 rfl (lv_at hl 1 rfl) ?_
    refine va_get hX hB hz inlX7 hW hK.1 hP 0 rfl rfl 0 (by decide) (hz _ zw_74) (fun _ h9 => h9) rfl dX7_coinAt_19 ?_
    refine lv_iload hX hB dX7_coinAt_22 (lv_at hl 0 rfl) ?_
    refine lv_iconst (v := nZ 1) hX hB dX7_coinAt_24 rfl ?_
    refine zz_iadd X dX7_coinAt_25 (z := (((↑(b + 27) : Int) + (21 * ↑j)) + 1)) (by first | rfl | omega) ?_
    refine lv_iload_n hX hB dX7_coinAt_26 rfl (lv_at hl 4 rfl) ?_
    refine zz_iadd X dX7_coinAt_27 (z := ((((↑(b + 27) : Int) + (21 * ↑j)) + 1) + ↑r)) (by first | rfl | omega) ?_
    refine zz_iald X hP 1 0 rfl rfl (((((b + 27)) + (21 * j)) + 1) + r) (by omega) (by omega) (by first | decide | omega) dX7_coinAt_28 ?_
    refine lv_goto (tgt := 35) hX hB dX7_coinAt_29 (by decide) ?_
    exact zRetI () X hP hD hS rfl (by first | (rw [coinS_lt (by omega), ← (hBk.at hjj (by omega)).1]) | rw [coinS_ge (by omega)]) dX7_coinAt_35
set_option maxHeartbeats 4000000 in
set_option maxRecDepth 100000 in
theorem c_X7_inserts (l : Launch) (D : va_G) (k : Nat → ClassId) (sz : Nat) (mm ms mk mb : Nat) (vsv vty vth ven vsp vla vpc : Int) (s : Nat → Int) (b j : Nat) (B : Bd) (pv : Int) (hBk : blkOk s b B) (hbb : b ≤ 810) (hjj : j < 3) (hl19 : (B.2 j).length ≤ 19) (hx : -5 ≤ pv ∧ pv ≤ 100) : Met l yX7_inserts (zW yX7_inserts cX7_inserts 6 none) ({ frames := 1, cells := 0, slots := 0, locals := 21 } : Room) (va_Pc [.ref mm, .int (nZ ↑b), .int (nZ ↑j), .int (nZ pv)] (zIn D k sz [(mm, .inr (7, [.ref ms, .int (nZ vsv), .ref mk, .ref mb, .int (nZ vty), .int (nZ vth), .int (nZ ven), .int (nZ vsp), .int (nZ vla), .int (nZ vpc)])), (ms, .inl (k 0, 900, .inl (zA s)))])) (va_Qv (fun (uz : (Nat → Int)) => blkOk uz b (B.1, zU B.2 j (pv :: B.2 j)) ∧ frOk s uz b) (fun (uz : (Nat → Int)) => zOut D (va_A [(mm, .inr (7, [.ref ms, .int (nZ vsv), .ref mk, .ref mb, .int (nZ vty), .int (nZ vth), .int (nZ ven), .int (nZ vsp), .int (nZ vla), .int (nZ vpc)])), (ms, .inl (k 0, 900, .inl (zA s)))] sz) [(mm, .inr (7, [.ref ms, .int (nZ vsv), .ref mk, .ref mb, .int (nZ vty), .int (nZ vth), .int (nZ ven), .int (nZ vsp), .int (nZ vla), .int (nZ vpc)])), (ms, .inl (k 0, 900, .inl (zA uz)))]) (va_A [(mm, .inr (7, [.ref ms, .int (nZ vsv), .ref mk, .ref mb, .int (nZ vty), .int (nZ vth), .int (nZ ven), .int (nZ vsp), .int (nZ vla), .int (nZ vpc)])), (ms, .inl (k 0, 900, .inl (zA s)))] sz)) 0 0 (va_A [(mm, .inr (7, [.ref ms, .int (nZ vsv), .ref mk, .ref mb, .int (nZ vty), .int (nZ vth), .int (nZ ven), .int (nZ vsp), .int (nZ vla), .int (nZ vpc)])), (ms, .inl (k 0, 900, .inl (zA s)))] sz) := by
  refine zEnter (Qf := fun A => va_Qv (fun (uz : (Nat → Int)) => blkOk uz b (B.1, zU B.2 j (pv :: B.2 j)) ∧ frOk s uz b) (fun (uz : (Nat → Int)) => zOut D A [(mm, .inr (7, [.ref ms, .int (nZ vsv), .ref mk, .ref mb, .int (nZ vty), .int (nZ vth), .int (nZ ven), .int (nZ vsp), .int (nZ vla), .int (nZ vpc)])), (ms, .inl (k 0, 900, .inl (zA uz)))]) A) RX7 (by decide) rfl (Nat.le_of_ble_eq_true rfl) ?_
  intro p9 e9 s9 m9 be9 me9 c9 ls A X hin hP hD hS hA hAe hl
  have hX := X.1; have hB := X.2.1; have hz := X.2.2.2.2.1; have hW := X.2.2.2.2.2.1; have hK := X.2.2.2.2.2.2.2; clear hAe
  clear hin
  have hl : lv_has ls 6 [(0, .ref mm), (1, .int (nZ ↑b)), (2, .int (nZ ↑j)), (3, .int (nZ pv))] := hl
  have hl9 := hBk.len hjj
  refine lv_iload_n hX hB dX7_inserts_0 rfl (lv_at hl 1 rfl) ?_
  refine lv_iload_n hX hB dX7_inserts_1 rfl (lv_at hl 2 rfl) ?_
  refine zCallI0 (zRunS X ms_X7_laneAt (c_X7_laneAt l D k _ b j ) zw_272 (zPreS hP hD hK [] rfl rfl) rfl hl (Nat.le_of_ble_eq_true rfl) dX7_inserts_2 ⟨rfl, rfl, ⟨Nat.le_of_ble_eq_true rfl, Nat.le_of_ble_eq_true rfl⟩, Nat.le_of_ble_eq_true rfl, Nat.le_of_ble_eq_true rfl⟩ rfl) hS hP hD hA [] rfl (fun _ => rfl) (fun r_2 u_2 H locs hq_2 hP hD hS => ?_)
  subst hq_2
  have hP : va_P D vwCl [(mm, .inr (7, [.ref ms, .int (nZ vsv), .ref mk, .ref mb, .int (nZ vty), .int (nZ vth), .int (nZ ven), .int (nZ vsp), .int (nZ vla), .int (nZ vpc)])), (ms, .inl (k 0, 900, .inl (zA s)))] H := hP
  have hD : va_D A [(mm, .inr (7, [.ref ms, .int (nZ vsv), .ref mk, .ref mb, .int (nZ vty), .int (nZ vth), .int (nZ ven), .int (nZ vsp), .int (nZ vla), .int (nZ vpc)])), (ms, .inl (k 0, 900, .inl (zA s)))] := hD
  refine lv_istore (lv' := [(4, .int (nZ ((↑(b + 27) : Int) + (21 * ↑j)))), (0, .ref mm), (1, .int (nZ ↑b)), (2, .int (nZ ↑j)), (3, .int (nZ pv))]) hX hB dX7_inserts_5 hl (by decide) rfl (fun ls hl => ?_)
  refine lv_aload_n hX hB dX7_inserts_7 rfl (lv_at hl 1 rfl) ?_
  refine va_get hX hB hz inlX7 hW hK.1 hP 0 rfl rfl 0 (by decide) (hz _ zw_74) (fun _ h9 => h9) rfl dX7_inserts_8 ?_
  refine lv_iload hX hB dX7_inserts_11 (lv_at hl 0 rfl) ?_
  refine zz_iald X hP 1 0 rfl rfl (((b + 27)) + (21 * j)) (by omega) (by omega) (by first | decide | omega) dX7_inserts_13 ?_
  refine lv_istore (lv' := [(5, .int (nZ (s (((b + 27)) + (21 * j))))), (4, .int (nZ ((↑(b + 27) : Int) + (21 * ↑j)))), (0, .ref mm), (1, .int (nZ ↑b)), (2, .int (nZ ↑j)), (3, .int (nZ pv))]) hX hB dX7_inserts_14 hl (by decide) rfl (fun ls hl => ?_)
  rw [hl9.1] at hl
  refine zLoop (σ := Nat × (Nat → Int)) (fun (x : Nat × (Nat → Int)) (H : Heap) (locs : List Loc) (ls : Array Slot) => match x with | (i, q) => (i ≤ (B.2 j).length) ∧ (∀ m : Nat, m ≤ b + 27 + 21 * j + 1 + i ∨ b + 27 + 21 * j + 1 + (B.2 j).length < m → q m = s m) ∧ (∀ m : Nat, i < m → m ≤ (B.2 j).length → q (b + 27 + 21 * j + 1 + m) = s (b + 27 + 21 * j + m)) ∧ va_P D vwCl [(mm, .inr (7, [.ref ms, .int (nZ vsv), .ref mk, .ref mb, .int (nZ vty), .int (nZ vth), .int (nZ ven), .int (nZ vsp), .int (nZ vla), .int (nZ vpc)])), (ms, .inl (k 0, 900, .inl (zA q)))] H ∧ va_D A [(mm, .inr (7, [.ref ms, .int (nZ vsv), .ref mk, .ref mb, .int (nZ vty), .int (nZ vth), .int (nZ ven), .int (nZ vsp), .int (nZ vla), .int (nZ vpc)])), (ms, .inl (k 0, 900, .inl (zA q)))] ∧ va_S A s9.heap H locs ∧ lv_has ls 6 [(0, .ref mm), (1, .int (nZ ↑b)), (2, .int (nZ ↑j)), (3, .int (nZ pv)), (4, .int (nZ ((↑(b + 27) : Int) + (21 * ↑j)))), (5, .int (nZ ↑i))]) (fun (x : Nat × (Nat → Int)) => match x with | (i, q) => i) ?_ ((B.2 j).length, s) ⟨(by exact Nat.le_refl _), (by intro m hm; rfl), (by intro m h3 h4; omega), hP, hD, hS, (lv_sub hl [2, 3, 4, 5, 1, 0] rfl)⟩
  rintro ⟨i, q⟩ H locs ls ⟨hi, h1, h2, hP, hD, hS, hl⟩ ih_16
  refine lv_iload hX hB dX7_inserts_16 (lv_at hl 5 rfl) ?_
  refine zz_if_le X (tgt := 49) dX7_inserts_18 (by decide) ⟨by omega, by omega⟩ (fun c_18 => ?_) (fun c_18 => ?_)
  · refine lv_aload_n hX hB dX7_inserts_49 rfl (lv_at hl 0 rfl) ?_
    refine va_get hX hB hz inlX7 hW hK.1 hP 0 rfl rfl 0 (by decide) (hz _ zw_74) (fun _ h9 => h9) rfl dX7_inserts_50 ?_
    refine lv_iload hX hB dX7_inserts_53 (lv_at hl 4 rfl) ?_
    refine lv_iconst (v := nZ 1) hX hB dX7_inserts_55 rfl ?_
    refine zz_iadd X dX7_inserts_56 (z := (((↑(b + 27) : Int) + (21 * ↑j)) + 1)) (by first | rfl | omega) ?_
    refine lv_iload_n hX hB dX7_inserts_57 rfl (lv_at hl 3 rfl) ?_
    refine zz_iast X hP hD hS 1 0 rfl rfl ((((b + 27)) + (21 * j)) + 1) (by omega) (by omega) (by first | decide | omega) dX7_inserts_58 (fun H locs hP hD hS => ?_)
    have hP : va_P D vwCl [(mm, .inr (7, [.ref ms, .int (nZ vsv), .ref mk, .ref mb, .int (nZ vty), .int (nZ vth), .int (nZ ven), .int (nZ vsp), .int (nZ vla), .int (nZ vpc)])), (ms, .inl (k 0, 900, .inl (zA (zU q ((((b + 27)) + (21 * j)) + 1) pv))))] H := hP
    have hD : va_D A [(mm, .inr (7, [.ref ms, .int (nZ vsv), .ref mk, .ref mb, .int (nZ vty), .int (nZ vth), .int (nZ ven), .int (nZ vsp), .int (nZ vla), .int (nZ vpc)])), (ms, .inl (k 0, 900, .inl (zA (zU q ((((b + 27)) + (21 * j)) + 1) pv))))] := hD
    refine lv_aload_n hX hB dX7_inserts_59 rfl (lv_at hl 0 rfl) ?_
    refine va_get hX hB hz inlX7 hW hK.1 hP 0 rfl rfl 0 (by decide) (hz _ zw_74) (fun _ h9 => h9) rfl dX7_inserts_60 ?_
    refine lv_iload hX hB dX7_inserts_63 (lv_at hl 4 rfl) ?_
    refine lv_dup2_11 hX hB dX7_inserts_65 rfl rfl ?_
    refine zz_iald X hP 1 0 rfl rfl (((b + 27)) + (21 * j)) (by omega) (by omega) (by first | decide | omega) dX7_inserts_66 ?_
    refine lv_iconst (v := nZ 1) hX hB dX7_inserts_67 rfl ?_
    refine zz_iadd X dX7_inserts_68 (z := (((zU q ((((b + 27)) + (21 * j)) + 1) pv) (((b + 27)) + (21 * j))) + 1)) (by first | rfl | omega) ?_
    refine zz_iast X hP hD hS 1 0 rfl rfl (((b + 27)) + (21 * j)) (by omega) (by omega) (by first | decide | omega) dX7_inserts_69 (fun H locs hP hD hS => ?_)
    have hP : va_P D vwCl [(mm, .inr (7, [.ref ms, .int (nZ vsv), .ref mk, .ref mb, .int (nZ vty), .int (nZ vth), .int (nZ ven), .int (nZ vsp), .int (nZ vla), .int (nZ vpc)])), (ms, .inl (k 0, 900, .inl (zA (zU (zU q ((((b + 27)) + (21 * j)) + 1) pv) (((b + 27)) + (21 * j)) (((zU q ((((b + 27)) + (21 * j)) + 1) pv) (((b + 27)) + (21 * j))) + 1)))))] H := hP
    have hD : va_D A [(mm, .inr (7, [.ref ms, .int (nZ vsv), .ref mk, .ref mb, .int (nZ vty), .int (nZ vth), .int (nZ ven), .int (nZ vsp), .int (nZ vla), .int (nZ vpc)])), (ms, .inl (k 0, 900, .inl (zA (zU (zU q ((((b + 27)) + (21 * j)) + 1) pv) (((b + 27)) + (21 * j)) (((zU q ((((b + 27)) + (21 * j)) + 1) pv) (((b + 27)) + (21 * j))) + 1)))))] := hD
    exact zRetV (zU (zU q ((((b + 27)) + (21 * j)) + 1) pv) (((b + 27)) + (21 * j)) (((zU q ((((b + 27)) + (21 * j)) + 1) pv) (((b + 27)) + (21 * j))) + 1)) X hP hD hS rfl ⟨blk_front hBk hjj hl19 hx (by omega) h1 h2, blk_frontF hBk hjj hl19 (by omega) h1 h2⟩ dX7_inserts_70
  · refine lv_aload_n hX hB dX7_inserts_21 rfl (lv_at hl 0 rfl) ?_
    refine va_get hX hB hz inlX7 hW hK.1 hP 0 rfl rfl 0 (by decide) (hz _ zw_74) (fun _ h9 => h9) rfl dX7_inserts_22 ?_
    refine lv_iload hX hB dX7_inserts_25 (lv_at hl 4 rfl) ?_
    refine lv_iconst (v := nZ 1) hX hB dX7_inserts_27 rfl ?_
    refine zz_iadd X dX7_inserts_28 (z := (((↑(b + 27) : Int) + (21 * ↑j)) + 1)) (by first | rfl | omega) ?_
    refine lv_iload hX hB dX7_inserts_29 (lv_at hl 5 rfl) ?_
    refine zz_iadd X dX7_inserts_31 (z := ((((↑(b + 27) : Int) + (21 * ↑j)) + 1) + ↑i)) (by first | rfl | omega) ?_
    refine lv_aload_n hX hB dX7_inserts_32 rfl (lv_at hl 0 rfl) ?_
    refine va_get hX hB hz inlX7 hW hK.1 hP 0 rfl rfl 0 (by decide) (hz _ zw_74) (fun _ h9 => h9) rfl dX7_inserts_33 ?_
    refine lv_iload hX hB dX7_inserts_36 (lv_at hl 4 rfl) ?_
    refine lv_iload hX hB dX7_inserts_38 (lv_at hl 5 rfl) ?_
    refine zz_iadd X dX7_inserts_40 (z := (((↑(b + 27) : Int) + (21 * ↑j)) + ↑i)) (by first | rfl | omega) ?_
    refine zz_iald X hP 1 0 rfl rfl ((((b + 27)) + (21 * j)) + i) (by omega) (by omega) (by first | decide | omega) dX7_inserts_41 ?_
    refine zz_iast X hP hD hS 1 0 rfl rfl (((((b + 27)) + (21 * j)) + 1) + i) (by omega) (by omega) (by first | decide | omega) dX7_inserts_42 (fun H locs hP hD hS => ?_)
    have hP : va_P D vwCl [(mm, .inr (7, [.ref ms, .int (nZ vsv), .ref mk, .ref mb, .int (nZ vty), .int (nZ vth), .int (nZ ven), .int (nZ vsp), .int (nZ vla), .int (nZ vpc)])), (ms, .inl (k 0, 900, .inl (zA (zU q (((((b + 27)) + (21 * j)) + 1) + i) (q ((((b + 27)) + (21 * j)) + i))))))] H := hP
    have hD : va_D A [(mm, .inr (7, [.ref ms, .int (nZ vsv), .ref mk, .ref mb, .int (nZ vty), .int (nZ vth), .int (nZ ven), .int (nZ vsp), .int (nZ vla), .int (nZ vpc)])), (ms, .inl (k 0, 900, .inl (zA (zU q (((((b + 27)) + (21 * j)) + 1) + i) (q ((((b + 27)) + (21 * j)) + i))))))] := hD
    refine lv_iinc (v := nZ (↑(i - 1) : Int)) (lv' := [(5, .int (nZ (↑(i - 1) : Int))), (0, .ref mm), (1, .int (nZ ↑b)), (2, .int (nZ ↑j)), (3, .int (nZ pv)), (4, .int (nZ ((↑(b + 27) : Int) + (21 * ↑j))))]) hX hB dX7_inserts_43 hl (k := 5) rfl (zinc (by omega)) (by decide) rfl (fun ls hl => ?_)
    refine lv_goto (tgt := 16) hX hB dX7_inserts_46 (by decide) ?_
    exact ih_16 ((i - 1), (zU q (((((b + 27)) + (21 * j)) + 1) + i) (q ((((b + 27)) + (21 * j)) + i)))) _ _ _ ⟨(by first | omega | assumption | rfl), (by intro m hm; rw [zU_ne _ _ (by omega)]; exact h1 m (by omega)), (by intro m h3 h4; by_cases e : m = i; { rw [e, zU_same, h1 _ (by omega)] }; { rw [zU_ne _ _ (by omega)]; exact h2 m (by omega) h4 }), hP, hD, hS, (lv_sub hl [1, 2, 3, 4, 5, 0] rfl)⟩ (by dsimp only; omega)
set_option maxHeartbeats 4000000 in
set_option maxRecDepth 100000 in
theorem c_X7_copies (l : Launch) (D : va_G) (k : Nat → ClassId) (sz : Nat) (mm ms mk mb : Nat) (vsv vty vth ven vsp vla vpc : Int) (s : Nat → Int) (f t : Nat) (hf : f ≤ 9) (ht : t ≤ 9) : Met l yX7_copies (zW yX7_copies cX7_copies 4 none) ({ frames := 0, cells := 0, slots := 0, locals := 0 } : Room) (va_Pc [.ref mm, .int (nZ ↑f), .int (nZ ↑t)] (zIn D k sz [(mm, .inr (7, [.ref ms, .int (nZ vsv), .ref mk, .ref mb, .int (nZ vty), .int (nZ vth), .int (nZ ven), .int (nZ vsp), .int (nZ vla), .int (nZ vpc)])), (ms, .inl (k 0, 900, .inl (zA s)))])) (va_Qv (fun (uz : (Nat → Int)) => (∀ k : Nat, uz k = cpS s f t k)) (fun (uz : (Nat → Int)) => zOut D (va_A [(mm, .inr (7, [.ref ms, .int (nZ vsv), .ref mk, .ref mb, .int (nZ vty), .int (nZ vth), .int (nZ ven), .int (nZ vsp), .int (nZ vla), .int (nZ vpc)])), (ms, .inl (k 0, 900, .inl (zA s)))] sz) [(mm, .inr (7, [.ref ms, .int (nZ vsv), .ref mk, .ref mb, .int (nZ vty), .int (nZ vth), .int (nZ ven), .int (nZ vsp), .int (nZ vla), .int (nZ vpc)])), (ms, .inl (k 0, 900, .inl (zA uz)))]) (va_A [(mm, .inr (7, [.ref ms, .int (nZ vsv), .ref mk, .ref mb, .int (nZ vty), .int (nZ vth), .int (nZ ven), .int (nZ vsp), .int (nZ vla), .int (nZ vpc)])), (ms, .inl (k 0, 900, .inl (zA s)))] sz)) 0 0 (va_A [(mm, .inr (7, [.ref ms, .int (nZ vsv), .ref mk, .ref mb, .int (nZ vty), .int (nZ vth), .int (nZ ven), .int (nZ vsp), .int (nZ vla), .int (nZ vpc)])), (ms, .inl (k 0, 900, .inl (zA s)))] sz) := by
  refine zEnter (Qf := fun A => va_Qv (fun (uz : (Nat → Int)) => (∀ k : Nat, uz k = cpS s f t k)) (fun (uz : (Nat → Int)) => zOut D A [(mm, .inr (7, [.ref ms, .int (nZ vsv), .ref mk, .ref mb, .int (nZ vty), .int (nZ vth), .int (nZ ven), .int (nZ vsp), .int (nZ vla), .int (nZ vpc)])), (ms, .inl (k 0, 900, .inl (zA uz)))]) A) RX7 (by decide) rfl (Nat.le_of_ble_eq_true rfl) ?_
  intro p9 e9 s9 m9 be9 me9 c9 ls A X hin hP hD hS hA hAe hl
  have hX := X.1; have hB := X.2.1; have hz := X.2.2.2.2.1; have hW := X.2.2.2.2.2.1; have hK := X.2.2.2.2.2.2.2; clear hAe
  clear hin
  have hl : lv_has ls 4 [(0, .ref mm), (1, .int (nZ ↑f)), (2, .int (nZ ↑t))] := hl
  refine lv_iconst (v := nZ 0) hX hB dX7_copies_0 rfl ?_
  refine lv_istore_n (lv' := [(3, .int (nZ 0)), (0, .ref mm), (1, .int (nZ ↑f)), (2, .int (nZ ↑t))]) hX hB dX7_copies_1 rfl hl (by decide) rfl (fun ls hl => ?_)
  refine zLoop (σ := Nat × (Nat → Int)) (fun (x : Nat × (Nat → Int)) (H : Heap) (locs : List Loc) (ls : Array Slot) => match x with | (i, q) => (i ≤ 90) ∧ (∀ k : Nat, q k = if 90 * t ≤ k ∧ k < 90 * t + i then s (90 * f + (k - 90 * t)) else s k) ∧ va_P D vwCl [(mm, .inr (7, [.ref ms, .int (nZ vsv), .ref mk, .ref mb, .int (nZ vty), .int (nZ vth), .int (nZ ven), .int (nZ vsp), .int (nZ vla), .int (nZ vpc)])), (ms, .inl (k 0, 900, .inl (zA q)))] H ∧ va_D A [(mm, .inr (7, [.ref ms, .int (nZ vsv), .ref mk, .ref mb, .int (nZ vty), .int (nZ vth), .int (nZ ven), .int (nZ vsp), .int (nZ vla), .int (nZ vpc)])), (ms, .inl (k 0, 900, .inl (zA q)))] ∧ va_S A s9.heap H locs ∧ lv_has ls 4 [(0, .ref mm), (1, .int (nZ ↑f)), (2, .int (nZ ↑t)), (3, .int (nZ ↑i))]) (fun (x : Nat × (Nat → Int)) => match x with | (i, q) => 90 - i) ?_ (0, s) ⟨(by first | omega | assumption | rfl), (by intro k; rw [if_neg (by omega)]), hP, hD, hS, (lv_sub hl [1, 2, 3, 0] rfl)⟩
  rintro ⟨i, q⟩ H locs ls ⟨hi, hq, hP, hD, hS, hl⟩ ih_2
  refine lv_iload_n hX hB dX7_copies_2 rfl (lv_at hl 3 rfl) ?_
  refine lv_bipush (v := nZ 90) hX hB dX7_copies_3 (by decide) ?_
  refine zz_icmp_ge X (tgt := 36) dX7_copies_5 (by decide) ⟨by omega, by omega⟩ ⟨by omega, by omega⟩ (fun c_5 => ?_) (fun c_5 => ?_)
  · exact zRetV q X hP hD hS rfl (by rw [show i = 90 by omega] at hq; exact hq) dX7_copies_36
  · refine lv_aload_n hX hB dX7_copies_8 rfl (lv_at hl 0 rfl) ?_
    refine va_get hX hB hz inlX7 hW hK.1 hP 0 rfl rfl 0 (by decide) (hz _ zw_74) (fun _ h9 => h9) rfl dX7_copies_9 ?_
    refine lv_bipush (v := nZ 90) hX hB dX7_copies_12 (by decide) ?_
    refine lv_iload_n hX hB dX7_copies_14 rfl (lv_at hl 2 rfl) ?_
    refine zz_imul X dX7_copies_15 (z := (90 * ↑t)) (by first | rfl | omega) ?_
    refine lv_iload_n hX hB dX7_copies_16 rfl (lv_at hl 3 rfl) ?_
    refine zz_iadd X dX7_copies_17 (z := ((90 * ↑t) + ↑i)) (by first | rfl | omega) ?_
    refine lv_aload_n hX hB dX7_copies_18 rfl (lv_at hl 0 rfl) ?_
    refine va_get hX hB hz inlX7 hW hK.1 hP 0 rfl rfl 0 (by decide) (hz _ zw_74) (fun _ h9 => h9) rfl dX7_copies_19 ?_
    refine lv_bipush (v := nZ 90) hX hB dX7_copies_22 (by decide) ?_
    refine lv_iload_n hX hB dX7_copies_24 rfl (lv_at hl 1 rfl) ?_
    refine zz_imul X dX7_copies_25 (z := (90 * ↑f)) (by first | rfl | omega) ?_
    refine lv_iload_n hX hB dX7_copies_26 rfl (lv_at hl 3 rfl) ?_
    refine zz_iadd X dX7_copies_27 (z := ((90 * ↑f) + ↑i)) (by first | rfl | omega) ?_
    refine zz_iald X hP 1 0 rfl rfl ((90 * f) + i) (by omega) (by omega) (by first | decide | omega) dX7_copies_28 ?_
    refine zz_iast X hP hD hS 1 0 rfl rfl ((90 * t) + i) (by omega) (by omega) (by first | decide | omega) dX7_copies_29 (fun H locs hP hD hS => ?_)
    have hP : va_P D vwCl [(mm, .inr (7, [.ref ms, .int (nZ vsv), .ref mk, .ref mb, .int (nZ vty), .int (nZ vth), .int (nZ ven), .int (nZ vsp), .int (nZ vla), .int (nZ vpc)])), (ms, .inl (k 0, 900, .inl (zA (zU q ((90 * t) + i) (q ((90 * f) + i))))))] H := hP
    have hD : va_D A [(mm, .inr (7, [.ref ms, .int (nZ vsv), .ref mk, .ref mb, .int (nZ vty), .int (nZ vth), .int (nZ ven), .int (nZ vsp), .int (nZ vla), .int (nZ vpc)])), (ms, .inl (k 0, 900, .inl (zA (zU q ((90 * t) + i) (q ((90 * f) + i))))))] := hD
    refine lv_iinc (v := nZ (↑(i + 1) : Int)) (lv' := [(3, .int (nZ (↑(i + 1) : Int))), (0, .ref mm), (1, .int (nZ ↑f)), (2, .int (nZ ↑t))]) hX hB dX7_copies_30 hl (k := 3) rfl (zinc (by omega)) (by decide) rfl (fun ls hl => ?_)
    refine lv_goto (tgt := 2) hX hB dX7_copies_33 (by decide) ?_
    exact ih_2 ((i + 1), (zU q ((90 * t) + i) (q ((90 * f) + i)))) _ _ _ ⟨(by first | omega | assumption | rfl), (by exact cp_step hq (by omega)), hP, hD, hS, (lv_sub hl [1, 2, 3, 0] rfl)⟩ (by dsimp only; omega)
