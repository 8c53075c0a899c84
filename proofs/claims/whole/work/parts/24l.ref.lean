theorem mv_X7_isHere : zMV yX7_isHere cX7_isHere 3 (some .boolean) 2 := ⟨zw_419, zw_5, ⟨by decide +kernel, by decide +kernel, by decide +kernel⟩, zw_417, zw_418⟩
theorem mv_X7_takes : zMV yX7_takes cX7_takes 3 (some .boolean) 1 := ⟨zw_423, zw_5, ⟨by decide +kernel, by decide +kernel, by decide +kernel⟩, zw_421, zw_422⟩
theorem mv_X7_readsCoin : zMV yX7_readsCoin cX7_readsCoin 1 (some .boolean) 0 := ⟨zw_413, zw_5, ⟨by decide +kernel, by decide +kernel, by decide +kernel⟩, zw_411, zw_412⟩
set_option maxHeartbeats 4000000 in
set_option maxRecDepth 100000 in
theorem c_X7_isHere (l : Launch) (D : va_G) (k : Nat → ClassId) (sz : Nat) (mm ms mk mb : Nat) (vsv vty vth ven vla vpc : Int) (bf : Nat → Int) (T : List Int) (i : Nat) (lo hi : Int) (hT : textOk bf vty T) (hi9 : i ≤ 61) (hlo : zR lo) (hhi : zR hi) : Met l yX7_isHere (zW yX7_isHere cX7_isHere 3 (some .boolean)) ({ frames := 1, cells := 0, slots := 0, locals := 22 } : Room) (va_Pc [.ref mm, .int (nZ lo), .int (nZ hi)] (zIn D k sz [(mm, .inr (7, [.ref ms, .int (nZ vsv), .ref mk, .ref mb, .int (nZ vty), .int (nZ vth), .int (nZ ven), .int (nZ ↑i), .int (nZ vla), .int (nZ vpc)])), (mb, .inl (k 2, 60, .inl (zA bf)))])) (va_Qi (fun (rz : Int32) (uz : Int) => rz = nZ uz ∧ ((uz = 1 ∧ i < T.length ∧ lo ≤ T.getD i 0 ∧ T.getD i 0 ≤ hi) ∨ (uz = 0 ∧ ¬ (i < T.length ∧ lo ≤ T.getD i 0 ∧ T.getD i 0 ≤ hi)))) (fun (uz : Int) => zOut D (va_A [(mm, .inr (7, [.ref ms, .int (nZ vsv), .ref mk, .ref mb, .int (nZ vty), .int (nZ vth), .int (nZ ven), .int (nZ ↑i), .int (nZ vla), .int (nZ vpc)])), (mb, .inl (k 2, 60, .inl (zA bf)))] sz) [(mm, .inr (7, [.ref ms, .int (nZ vsv), .ref mk, .ref mb, .int (nZ vty), .int (nZ vth), .int (nZ ven), .int (nZ ↑i), .int (nZ vla), .int (nZ vpc)])), (mb, .inl (k 2, 60, .inl (zA bf)))]) (va_A [(mm, .inr (7, [.ref ms, .int (nZ vsv), .ref mk, .ref mb, .int (nZ vty), .int (nZ vth), .int (nZ ven), .int (nZ ↑i), .int (nZ vla), .int (nZ vpc)])), (mb, .inl (k 2, 60, .inl (zA bf)))] sz)) 0 0 (va_A [(mm, .inr (7, [.ref ms, .int (nZ vsv), .ref mk, .ref mb, .int (nZ vty), .int (nZ vth), .int (nZ ven), .int (nZ ↑i), .int (nZ vla), .int (nZ vpc)])), (mb, .inl (k 2, 60, .inl (zA bf)))] sz) := by
  refine zEnter (Qf := fun A => va_Qi (fun (rz : Int32) (uz : Int) => rz = nZ uz ∧ ((uz = 1 ∧ i < T.length ∧ lo ≤ T.getD i 0 ∧ T.getD i 0 ≤ hi) ∨ (uz = 0 ∧ ¬ (i < T.length ∧ lo ≤ T.getD i 0 ∧ T.getD i 0 ≤ hi)))) (fun (uz : Int) => zOut D A [(mm, .inr (7, [.ref ms, .int (nZ vsv), .ref mk, .ref mb, .int (nZ vty), .int (nZ vth), .int (nZ ven), .int (nZ ↑i), .int (nZ vla), .int (nZ vpc)])), (mb, .inl (k 2, 60, .inl (zA bf)))]) A) RX7 (by decide) rfl (Nat.le_of_ble_eq_true rfl) ?_
  intro p9 e9 s9 m9 be9 me9 c9 ls A X hin hP hD hS hA hAe hl
  have hX := X.1; have hB := X.2.1; have hz := X.2.2.2.2.1; have hW := X.2.2.2.2.2.1; have hK := X.2.2.2.2.2.2.2; clear hAe
  clear hin
  have hl : lv_has ls 3 [(0, .ref mm), (1, .int (nZ lo)), (2, .int (nZ hi))] := hl
  obtain ⟨hn9, hlen9⟩ := hT.len
  refine lv_aload_n hX hB dX7_isHere_0 rfl (lv_at hl 0 rfl) ?_
  refine va_get hX hB hz inlX7 hW hK.1 hP 0 rfl rfl 7 (by decide) (hz _ zw_409) (fun _ h9 => h9) rfl dX7_isHere_1 ?_
  refine lv_aload_n hX hB dX7_isHere_4 rfl (lv_at hl 0 rfl) ?_
  refine va_get hX hB hz inlX7 hW hK.1 hP 0 rfl rfl 4 (by decide) (hz _ zw_372) (fun _ h9 => h9) rfl dX7_isHere_5 ?_
  refine zz_icmp_ge X (tgt := 32) dX7_isHere_8 (by decide) ⟨by omega, by omega⟩ ⟨by omega, by omega⟩ (fun c_8 => ?_) (fun c_8 => ?_)
  · first | have hy9 := ifz_eq c_25 | skip
    refine lv_iconst (v := nZ 0) hX hB dX7_isHere_32 rfl ?_
    exact zRetZ 0 X hP hD hS (by first | exact Or.inl rfl | exact Or.inr rfl) rfl ⟨by first | rfl | (congr 1; omega) | (dsimp only; congr 1; omega), by first | exact Or.inl ⟨rfl, by omega, by omega, by omega⟩ | exact Or.inr ⟨rfl, by omega⟩⟩ dX7_isHere_33
  · have hx9 := hT.at (by omega : i < T.length)
    refine lv_aload_n hX hB dX7_isHere_11 rfl (lv_at hl 0 rfl) ?_
    refine va_get hX hB hz inlX7 hW hK.1 hP 0 rfl rfl 3 (by decide) (hz _ zw_78) (fun _ h9 => h9) rfl dX7_isHere_12 ?_
    refine lv_aload_n hX hB dX7_isHere_15 rfl (lv_at hl 0 rfl) ?_
    refine va_get hX hB hz inlX7 hW hK.1 hP 0 rfl rfl 7 (by decide) (hz _ zw_409) (fun _ h9 => h9) rfl dX7_isHere_16 ?_
    refine zz_cald X hP 1 2 rfl rfl i (by omega) (by omega) (by first | decide | omega) dX7_isHere_19 ?_
    refine lv_iload_n hX hB dX7_isHere_20 rfl (lv_at hl 1 rfl) ?_
    refine lv_iload_n hX hB dX7_isHere_21 rfl (lv_at hl 2 rfl) ?_
    refine zCallI0 (zRunS X ms_X7_in (c_X7_in_g l D k _ (bf i) lo hi (⟨by omega, by omega⟩) hlo hhi) zw_239 (zPreS hP hD hK [] rfl rfl) rfl hl (Nat.le_of_ble_eq_true rfl) dX7_isHere_22 ⟨rfl, rfl, ⟨Nat.le_of_ble_eq_true rfl, Nat.le_of_ble_eq_true rfl⟩, Nat.le_of_ble_eq_true rfl, Nat.le_of_ble_eq_true rfl⟩ rfl) hS hP hD hA [] rfl (fun _ => rfl) (fun r_22 u_22 H locs hq_22 hP hD hS => ?_)
    subst hq_22
    have hP : va_P D vwCl [(mm, .inr (7, [.ref ms, .int (nZ vsv), .ref mk, .ref mb, .int (nZ vty), .int (nZ vth), .int (nZ ven), .int (nZ ↑i), .int (nZ vla), .int (nZ vpc)])), (mb, .inl (k 2, 60, .inl (zA bf)))] H := hP
    have hD : va_D A [(mm, .inr (7, [.ref ms, .int (nZ vsv), .ref mk, .ref mb, .int (nZ vty), .int (nZ vth), .int (nZ ven), .int (nZ ↑i), .int (nZ vla), .int (nZ vpc)])), (mb, .inl (k 2, 60, .inl (zA bf)))] := hD
    refine zz_if_eq X (tgt := 32) dX7_isHere_25 (by decide) ⟨by (split <;> omega), by (split <;> omega)⟩ (fun c_25 => ?_) (fun c_25 => ?_)
    · first | have hy9 := ifz_eq c_25 | skip
      refine lv_iconst (v := nZ 0) hX hB dX7_isHere_32 rfl ?_
      exact zRetZ 0 X hP hD hS (by first | exact Or.inl rfl | exact Or.inr rfl) rfl ⟨by first | rfl | (congr 1; omega) | (dsimp only; congr 1; omega), by first | exact Or.inl ⟨rfl, by omega, by omega, by omega⟩ | exact Or.inr ⟨rfl, by omega⟩⟩ dX7_isHere_33
    · have hy9 := ifz_ne c_25
      refine lv_iconst (v := nZ 1) hX hB dX7_isHere_28 rfl ?_
      refine lv_goto (tgt := 33) hX hB dX7_isHere_29 (by decide) ?_
      exact zRetZ 1 X hP hD hS (by first | exact Or.inl rfl | exact Or.inr rfl) rfl ⟨by first | rfl | (congr 1; omega) | (dsimp only; congr 1; omega), by first | exact Or.inl ⟨rfl, by omega, by omega, by omega⟩ | exact Or.inr ⟨rfl, by omega⟩⟩ dX7_isHere_33
set_option maxHeartbeats 4000000 in
set_option maxRecDepth 100000 in
theorem c_X7_takes (l : Launch) (D : va_G) (k : Nat → ClassId) (sz : Nat) (mm ms mk mb : Nat) (vsv vty vth ven vla vpc : Int) (bf : Nat → Int) (T : List Int) (i : Nat) (c : Int) (hT : textOk bf vty T) (hi9 : i ≤ 61) (hcz : zR c) : Met l yX7_takes (zW yX7_takes cX7_takes 3 (some .boolean)) ({ frames := 2, cells := 0, slots := 0, locals := 44 } : Room) (va_Pc [.ref mm, .int (nZ c)] (zIn D k sz [(mm, .inr (7, [.ref ms, .int (nZ vsv), .ref mk, .ref mb, .int (nZ vty), .int (nZ vth), .int (nZ ven), .int (nZ ↑i), .int (nZ vla), .int (nZ vpc)])), (mb, .inl (k 2, 60, .inl (zA bf)))])) (va_Qi (fun (rz : Int32) (uz : Int × Nat) => rz = nZ uz.1 ∧ ((uz.1 = 1 ∧ uz.2 = i + 1 ∧ i < T.length ∧ T.getD i 0 = c) ∨ (uz.1 = 0 ∧ uz.2 = i ∧ ¬ (i < T.length ∧ T.getD i 0 = c)))) (fun (uz : Int × Nat) => zOut D (va_A [(mm, .inr (7, [.ref ms, .int (nZ vsv), .ref mk, .ref mb, .int (nZ vty), .int (nZ vth), .int (nZ ven), .int (nZ ↑i), .int (nZ vla), .int (nZ vpc)])), (mb, .inl (k 2, 60, .inl (zA bf)))] sz) [(mm, .inr (7, [.ref ms, .int (nZ vsv), .ref mk, .ref mb, .int (nZ vty), .int (nZ vth), .int (nZ ven), .int (nZ ↑uz.2), .int (nZ vla), .int (nZ vpc)])), (mb, .inl (k 2, 60, .inl (zA bf)))]) (va_A [(mm, .inr (7, [.ref ms, .int (nZ vsv), .ref mk, .ref mb, .int (nZ vty), .int (nZ vth), .int (nZ ven), .int (nZ ↑i), .int (nZ vla), .int (nZ vpc)])), (mb, .inl (k 2, 60, .inl (zA bf)))] sz)) 0 0 (va_A [(mm, .inr (7, [.ref ms, .int (nZ vsv), .ref mk, .ref mb, .int (nZ vty), .int (nZ vth), .int (nZ ven), .int (nZ ↑i), .int (nZ vla), .int (nZ vpc)])), (mb, .inl (k 2, 60, .inl (zA bf)))] sz) := by
  refine zEnter (Qf := fun A => va_Qi (fun (rz : Int32) (uz : Int × Nat) => rz = nZ uz.1 ∧ ((uz.1 = 1 ∧ uz.2 = i + 1 ∧ i < T.length ∧ T.getD i 0 = c) ∨ (uz.1 = 0 ∧ uz.2 = i ∧ ¬ (i < T.length ∧ T.getD i 0 = c)))) (fun (uz : Int × Nat) => zOut D A [(mm, .inr (7, [.ref ms, .int (nZ vsv), .ref mk, .ref mb, .int (nZ vty), .int (nZ vth), .int (nZ ven), .int (nZ ↑uz.2), .int (nZ vla), .int (nZ vpc)])), (mb, .inl (k 2, 60, .inl (zA bf)))]) A) RX7 (by decide) rfl (Nat.le_of_ble_eq_true rfl) ?_
  intro p9 e9 s9 m9 be9 me9 c9 ls A X hin hP hD hS hA hAe hl
  have hX := X.1; have hB := X.2.1; have hz := X.2.2.2.2.1; have hW := X.2.2.2.2.2.1; have hK := X.2.2.2.2.2.2.2; clear hAe
  clear hin
  have hl : lv_has ls 3 [(0, .ref mm), (1, .int (nZ c))] := hl
  obtain ⟨hn9, hlen9⟩ := hT.len
  refine lv_aload_n hX hB dX7_takes_0 rfl (lv_at hl 0 rfl) ?_
  refine lv_iload_n hX hB dX7_takes_1 rfl (lv_at hl 1 rfl) ?_
  refine lv_iload_n hX hB dX7_takes_2 rfl (lv_at hl 1 rfl) ?_
  refine zCallI0 (zRunV (As := [.int (nZ c), .int (nZ c)]) X mv_X7_isHere (c_X7_isHere l D k _ mm ms mk mb vsv vty vth ven vla vpc bf T i c c hT hi9 hcz hcz) zw_416 (zPreV hP hD hK [0, 1] rfl rfl 0 7 rfl rfl rfl) rfl hl (Nat.le_of_ble_eq_true rfl) dX7_takes_3 ⟨rfl, rfl, ⟨Nat.le_of_ble_eq_true rfl, Nat.le_of_ble_eq_true rfl⟩, Nat.le_of_ble_eq_true rfl, Nat.le_of_ble_eq_true rfl⟩ rfl) hS hP hD hA [0, 1] rfl (fun _ => rfl) (fun r_3 u_3 H locs hq_3 hP hD hS => ?_)
  obtain ⟨rd_3, e9⟩ : ∃ z9, z9 = u_3 := ⟨_, rfl⟩; subst e9
  obtain ⟨rfl, hh_3⟩ := hq_3
  try dsimp only at hh_3
  have hP : va_P D vwCl [(mm, .inr (7, [.ref ms, .int (nZ vsv), .ref mk, .ref mb, .int (nZ vty), .int (nZ vth), .int (nZ ven), .int (nZ ↑i), .int (nZ vla), .int (nZ vpc)])), (mb, .inl (k 2, 60, .inl (zA bf)))] H := hP
  have hD : va_D A [(mm, .inr (7, [.ref ms, .int (nZ vsv), .ref mk, .ref mb, .int (nZ vty), .int (nZ vth), .int (nZ ven), .int (nZ ↑i), .int (nZ vla), .int (nZ vpc)])), (mb, .inl (k 2, 60, .inl (zA bf)))] := hD
  refine lv_istore_n (lv' := [(2, .int (nZ rd_3)), (0, .ref mm), (1, .int (nZ c))]) hX hB dX7_takes_6 rfl hl (by decide) rfl (fun ls hl => ?_)
  refine lv_aload_n hX hB dX7_takes_7 rfl (lv_at hl 1 rfl) ?_
  refine lv_dup hX hB dX7_takes_8 rfl ?_
  refine va_get hX hB hz inlX7 hW hK.1 hP 0 rfl rfl 7 (by decide) (hz _ zw_409) (fun _ h9 => h9) rfl dX7_takes_9 ?_
  refine lv_iload_n hX hB dX7_takes_12 rfl (lv_at hl 0 rfl) ?_
  refine zz_if_eq X (tgt := 20) dX7_takes_13 (by decide) ⟨by omega, by omega⟩ (fun c_13 => ?_) (fun c_13 => ?_)
  · refine lv_iconst (v := nZ 0) hX hB dX7_takes_20 rfl ?_
    refine zz_iadd X dX7_takes_21 (z := (↑(i + 0) : Int)) (by first | rfl | omega) ?_
    refine va_put (v := .int (nZ (↑(i + 0) : Int))) (ty := tyX7 7) hX hB hz inlX7 tyX7 tyX7_ok nmX7 hW hK.1 hP hD hS 0 rfl rfl 7 (by decide) (hz _ zw_409) (fun _ h9 => h9) rfl (by decide +kernel) rfl rfl (Nat.le_of_ble_eq_true rfl) dX7_takes_22 (fun H locs hP hD hS => ?_)
    have hP : va_P D vwCl [(mm, .inr (7, [.ref ms, .int (nZ vsv), .ref mk, .ref mb, .int (nZ vty), .int (nZ vth), .int (nZ ven), .int (nZ (↑(i + 0) : Int)), .int (nZ vla), .int (nZ vpc)])), (mb, .inl (k 2, 60, .inl (zA bf)))] H := hP
    have hD : va_D A [(mm, .inr (7, [.ref ms, .int (nZ vsv), .ref mk, .ref mb, .int (nZ vty), .int (nZ vth), .int (nZ ven), .int (nZ (↑(i + 0) : Int)), .int (nZ vla), .int (nZ vpc)])), (mb, .inl (k 2, 60, .inl (zA bf)))] := hD
    refine lv_iload_n hX hB dX7_takes_25 rfl (lv_at hl 0 rfl) ?_
    exact zRetZ (rd_3, (i + 0)) X hP hD hS (by rcases hh_3 with ⟨h, _⟩ | ⟨h, _⟩ <;> rw [h] <;> first | exact Or.inl rfl | exact Or.inr rfl) rfl ⟨by first | rfl | (congr 1; omega) | (dsimp only; congr 1; omega), by first | exact Or.inl ⟨by omega, by omega, by omega, by omega⟩ | exact Or.inr ⟨by omega, by omega, by omega⟩⟩ dX7_takes_26
  · refine lv_iconst (v := nZ 1) hX hB dX7_takes_16 rfl ?_
    refine lv_goto (tgt := 21) hX hB dX7_takes_17 (by decide) ?_
    refine zz_iadd X dX7_takes_21 (z := (↑(i + 1) : Int)) (by first | rfl | omega) ?_
    refine va_put (v := .int (nZ (↑(i + 1) : Int))) (ty := tyX7 7) hX hB hz inlX7 tyX7 tyX7_ok nmX7 hW hK.1 hP hD hS 0 rfl rfl 7 (by decide) (hz _ zw_409) (fun _ h9 => h9) rfl (by decide +kernel) rfl rfl (Nat.le_of_ble_eq_true rfl) dX7_takes_22 (fun H locs hP hD hS => ?_)
    have hP : va_P D vwCl [(mm, .inr (7, [.ref ms, .int (nZ vsv), .ref mk, .ref mb, .int (nZ vty), .int (nZ vth), .int (nZ ven), .int (nZ (↑(i + 1) : Int)), .int (nZ vla), .int (nZ vpc)])), (mb, .inl (k 2, 60, .inl (zA bf)))] H := hP
    have hD : va_D A [(mm, .inr (7, [.ref ms, .int (nZ vsv), .ref mk, .ref mb, .int (nZ vty), .int (nZ vth), .int (nZ ven), .int (nZ (↑(i + 1) : Int)), .int (nZ vla), .int (nZ vpc)])), (mb, .inl (k 2, 60, .inl (zA bf)))] := hD
    refine lv_iload_n hX hB dX7_takes_25 rfl (lv_at hl 0 rfl) ?_
    exact zRetZ (rd_3, (i + 1)) X hP hD hS (by rcases hh_3 with ⟨h, _⟩ | ⟨h, _⟩ <;> rw [h] <;> first | exact Or.inl rfl | exact Or.inr rfl) rfl ⟨by first | rfl | (congr 1; omega) | (dsimp only; congr 1; omega), by first | exact Or.inl ⟨by omega, by omega, by omega, by omega⟩ | exact Or.inr ⟨by omega, by omega, by omega⟩⟩ dX7_takes_26
set_option maxHeartbeats 4000000 in
set_option maxRecDepth 100000 in
theorem c_X7_readsCoin (l : Launch) (D : va_G) (k : Nat → ClassId) (sz : Nat) (mm ms mk mb : Nat) (vsv vty vth ven vla vpc : Int) (bf : Nat → Int) (T : List Int) (i : Nat) (hT : textOk bf vty T) (hi9 : i ≤ 61) : Met l yX7_readsCoin (zW yX7_readsCoin cX7_readsCoin 1 (some .boolean)) ({ frames := 3, cells := 0, slots := 0, locals := 66 } : Room) (va_Pc [.ref mm] (zIn D k sz [(mm, .inr (7, [.ref ms, .int (nZ vsv), .ref mk, .ref mb, .int (nZ vty), .int (nZ vth), .int (nZ ven), .int (nZ ↑i), .int (nZ vla), .int (nZ vpc)])), (mb, .inl (k 2, 60, .inl (zA bf)))])) (va_Qi (fun (rz : Int32) (uz : Int × Nat × Int × Int) => rz = nZ uz.1 ∧ rdOk T i uz.1 uz.2.1 uz.2.2.1 uz.2.2.2 ∧ (uz.1 = 0 ∨ uz.1 = 1)) (fun (uz : Int × Nat × Int × Int) => zOut D (va_A [(mm, .inr (7, [.ref ms, .int (nZ vsv), .ref mk, .ref mb, .int (nZ vty), .int (nZ vth), .int (nZ ven), .int (nZ ↑i), .int (nZ vla), .int (nZ vpc)])), (mb, .inl (k 2, 60, .inl (zA bf)))] sz) [(mm, .inr (7, [.ref ms, .int (nZ vsv), .ref mk, .ref mb, .int (nZ vty), .int (nZ vth), .int (nZ ven), .int (nZ ↑uz.2.1), .int (nZ uz.2.2.1), .int (nZ uz.2.2.2)])), (mb, .inl (k 2, 60, .inl (zA bf)))]) (va_A [(mm, .inr (7, [.ref ms, .int (nZ vsv), .ref mk, .ref mb, .int (nZ vty), .int (nZ vth), .int (nZ ven), .int (nZ ↑i), .int (nZ vla), .int (nZ vpc)])), (mb, .inl (k 2, 60, .inl (zA bf)))] sz)) 0 0 (va_A [(mm, .inr (7, [.ref ms, .int (nZ vsv), .ref mk, .ref mb, .int (nZ vty), .int (nZ vth), .int (nZ ven), .int (nZ ↑i), .int (nZ vla), .int (nZ vpc)])), (mb, .inl (k 2, 60, .inl (zA bf)))] sz) := by
  refine zEnter (Qf := fun A => va_Qi (fun (rz : Int32) (uz : Int × Nat × Int × Int) => rz = nZ uz.1 ∧ rdOk T i uz.1 uz.2.1 uz.2.2.1 uz.2.2.2 ∧ (uz.1 = 0 ∨ uz.1 = 1)) (fun (uz : Int × Nat × Int × Int) => zOut D A [(mm, .inr (7, [.ref ms, .int (nZ vsv), .ref mk, .ref mb, .int (nZ vty), .int (nZ vth), .int (nZ ven), .int (nZ ↑uz.2.1), .int (nZ uz.2.2.1), .int (nZ uz.2.2.2)])), (mb, .inl (k 2, 60, .inl (zA bf)))]) A) RX7 (by decide) rfl (Nat.le_of_ble_eq_true rfl) ?_
  intro p9 e9 s9 m9 be9 me9 c9 ls A X hin hP hD hS hA hAe hl
  have hX := X.1; have hB := X.2.1; have hz := X.2.2.2.2.1; have hW := X.2.2.2.2.2.1; have hK := X.2.2.2.2.2.2.2; clear hAe
  clear hin
  have hl : lv_has ls 1 [(0, .ref mm)] := hl
  obtain ⟨hn9, hlen9⟩ := hT.len
  refine lv_aload_n hX hB dX7_readsCoin_0 rfl (lv_at hl 0 rfl) ?_
  refine lv_bipush (v := nZ 48) hX hB dX7_readsCoin_1 (by decide) ?_
  refine lv_bipush (v := nZ 50) hX hB dX7_readsCoin_3 (by decide) ?_
  refine zCallI0 (zRunV (As := [.int (nZ 48), .int (nZ 50)]) X mv_X7_isHere (c_X7_isHere l D k _ mm ms mk mb vsv vty vth ven vla vpc bf T i 48 50 hT hi9 (by first | assumption | omega | exact ⟨by omega, by omega⟩) (by first | assumption | omega | exact ⟨by omega, by omega⟩)) zw_416 (zPreV hP hD hK [0, 1] rfl rfl 0 7 rfl rfl rfl) rfl hl (Nat.le_of_ble_eq_true rfl) dX7_readsCoin_5 ⟨rfl, rfl, ⟨Nat.le_of_ble_eq_true rfl, Nat.le_of_ble_eq_true rfl⟩, Nat.le_of_ble_eq_true rfl, Nat.le_of_ble_eq_true rfl⟩ rfl) hS hP hD hA [0, 1] rfl (fun _ => rfl) (fun r_5 u_5 H locs hq_5 hP hD hS => ?_)
  obtain ⟨rd_5, e9⟩ : ∃ z9, z9 = u_5 := ⟨_, rfl⟩; subst e9
  obtain ⟨rfl, hh_5⟩ := hq_5
  try dsimp only at hh_5
  have hP : va_P D vwCl [(mm, .inr (7, [.ref ms, .int (nZ vsv), .ref mk, .ref mb, .int (nZ vty), .int (nZ vth), .int (nZ ven), .int (nZ ↑i), .int (nZ vla), .int (nZ vpc)])), (mb, .inl (k 2, 60, .inl (zA bf)))] H := hP
  have hD : va_D A [(mm, .inr (7, [.ref ms, .int (nZ vsv), .ref mk, .ref mb, .int (nZ vty), .int (nZ vth), .int (nZ ven), .int (nZ ↑i), .int (nZ vla), .int (nZ vpc)])), (mb, .inl (k 2, 60, .inl (zA bf)))] := hD
  refine zz_if_ne X (tgt := 13) dX7_readsCoin_8 (by decide) ⟨by omega, by omega⟩ (fun c_8 => ?_) (fun c_8 => ?_)
  · have hx0 := hT.at (by omega : i < T.length)
    refine lv_aload_n hX hB dX7_readsCoin_13 rfl (lv_at hl 0 rfl) ?_
    refine lv_aload_n hX hB dX7_readsCoin_14 rfl (lv_at hl 0 rfl) ?_
    refine va_get hX hB hz inlX7 hW hK.1 hP 0 rfl rfl 3 (by decide) (hz _ zw_78) (fun _ h9 => h9) rfl dX7_readsCoin_15 ?_
    refine lv_aload_n hX hB dX7_readsCoin_18 rfl (lv_at hl 0 rfl) ?_
    refine va_get hX hB hz inlX7 hW hK.1 hP 0 rfl rfl 7 (by decide) (hz _ zw_409) (fun _ h9 => h9) rfl dX7_readsCoin_19 ?_
    refine zz_cald X hP 1 2 rfl rfl i (by omega) (by omega) (by first | decide | omega) dX7_readsCoin_22 ?_
    refine lv_bipush (v := nZ 48) hX hB dX7_readsCoin_23 (by decide) ?_
    refine zz_isub X dX7_readsCoin_25 (z := ((bf i) - 48)) (by first | rfl | omega) ?_
    refine va_put (v := .int (nZ ((bf i) - 48))) (ty := tyX7 8) hX hB hz inlX7 tyX7 tyX7_ok nmX7 hW hK.1 hP hD hS 0 rfl rfl 8 (by decide) (hz _ zw_414) (fun _ h9 => h9) rfl (by decide +kernel) rfl rfl (Nat.le_of_ble_eq_true rfl) dX7_readsCoin_26 (fun H locs hP hD hS => ?_)
    have hP : va_P D vwCl [(mm, .inr (7, [.ref ms, .int (nZ vsv), .ref mk, .ref mb, .int (nZ vty), .int (nZ vth), .int (nZ ven), .int (nZ ↑i), .int (nZ ((bf i) - 48)), .int (nZ vpc)])), (mb, .inl (k 2, 60, .inl (zA bf)))] H := hP
    have hD : va_D A [(mm, .inr (7, [.ref ms, .int (nZ vsv), .ref mk, .ref mb, .int (nZ vty), .int (nZ vth), .int (nZ ven), .int (nZ ↑i), .int (nZ ((bf i) - 48)), .int (nZ vpc)])), (mb, .inl (k 2, 60, .inl (zA bf)))] := hD
    refine lv_aload_n hX hB dX7_readsCoin_29 rfl (lv_at hl 0 rfl) ?_
    refine lv_dup hX hB dX7_readsCoin_30 rfl ?_
    refine va_get hX hB hz inlX7 hW hK.1 hP 0 rfl rfl 7 (by decide) (hz _ zw_409) (fun _ h9 => h9) rfl dX7_readsCoin_31 ?_
    refine lv_iconst (v := nZ 1) hX hB dX7_readsCoin_34 rfl ?_
    refine zz_iadd X dX7_readsCoin_35 (z := (↑(i + 1) : Int)) (by first | rfl | omega) ?_
    refine va_put (v := .int (nZ (↑(i + 1) : Int))) (ty := tyX7 7) hX hB hz inlX7 tyX7 tyX7_ok nmX7 hW hK.1 hP hD hS 0 rfl rfl 7 (by decide) (hz _ zw_409) (fun _ h9 => h9) rfl (by decide +kernel) rfl rfl (Nat.le_of_ble_eq_true rfl) dX7_readsCoin_36 (fun H locs hP hD hS => ?_)
    have hP : va_P D vwCl [(mm, .inr (7, [.ref ms, .int (nZ vsv), .ref mk, .ref mb, .int (nZ vty), .int (nZ vth), .int (nZ ven), .int (nZ (↑(i + 1) : Int)), .int (nZ ((bf i) - 48)), .int (nZ vpc)])), (mb, .inl (k 2, 60, .inl (zA bf)))] H := hP
    have hD : va_D A [(mm, .inr (7, [.ref ms, .int (nZ vsv), .ref mk, .ref mb, .int (nZ vty), .int (nZ vth), .int (nZ ven), .int (nZ (↑(i + 1) : Int)), .int (nZ ((bf i) - 48)), .int (nZ vpc)])), (mb, .inl (k 2, 60, .inl (zA bf)))] := hD
    refine lv_aload_n hX hB dX7_readsCoin_39 rfl (lv_at hl 0 rfl) ?_
    refine lv_bipush (v := nZ 58) hX hB dX7_readsCoin_40 (by decide) ?_
    refine zCallI0 (zRunV (As := [.int (nZ 58)]) X mv_X7_takes (c_X7_takes l D k _ mm ms mk mb vsv vty vth ven ((bf i) - 48) vpc bf T (i + 1) 58 hT (by first | assumption | omega | exact ⟨by omega, by omega⟩) (by first | assumption | omega | exact ⟨by omega, by omega⟩)) zw_420 (zPreV hP hD hK [0, 1] rfl rfl 0 7 rfl rfl rfl) rfl hl (Nat.le_of_ble_eq_true rfl) dX7_readsCoin_42 ⟨rfl, rfl, ⟨Nat.le_of_ble_eq_true rfl, Nat.le_of_ble_eq_true rfl⟩, Nat.le_of_ble_eq_true rfl, Nat.le_of_ble_eq_true rfl⟩ rfl) hS hP hD hA [0, 1] rfl (fun _ => rfl) (fun r_42 u_42 H locs hq_42 hP hD hS => ?_)
    obtain ⟨rd_42, i2_42⟩ := u_42
    obtain ⟨rfl, hh_42⟩ := hq_42
    try dsimp only at hh_42
    have hP : va_P D vwCl [(mm, .inr (7, [.ref ms, .int (nZ vsv), .ref mk, .ref mb, .int (nZ vty), .int (nZ vth), .int (nZ ven), .int (nZ ↑i2_42), .int (nZ ((bf i) - 48)), .int (nZ vpc)])), (mb, .inl (k 2, 60, .inl (zA bf)))] H := hP
    have hD : va_D A [(mm, .inr (7, [.ref ms, .int (nZ vsv), .ref mk, .ref mb, .int (nZ vty), .int (nZ vth), .int (nZ ven), .int (nZ ↑i2_42), .int (nZ ((bf i) - 48)), .int (nZ vpc)])), (mb, .inl (k 2, 60, .inl (zA bf)))] := hD
    refine zz_if_eq X (tgt := 59) dX7_readsCoin_45 (by decide) ⟨by omega, by omega⟩ (fun c_45 => ?_) (fun c_45 => ?_)
    · refine lv_iconst (v := nZ 0) hX hB dX7_readsCoin_59 rfl ?_
      exact zRetZ (0, i2_42, ((bf i) - 48), vpc) X hP hD hS (by first | exact Or.inl rfl | exact Or.inr rfl) rfl ⟨by first | rfl | (congr 1; omega) | (dsimp only; congr 1; omega), by first | (have h9 : i2_42 = i + 1 := (by omega); subst h9; exact rd_no1 _ _ (by omega) (by omega)) | exact rd_no2 _ _ (by omega) (by omega) (by omega), by first | assumption | omega | (dsimp only; omega) | rfl⟩ dX7_readsCoin_60
    · have ht9 : i2_42 = i + 2 := by omega
      subst ht9
      refine lv_aload_n hX hB dX7_readsCoin_48 rfl (lv_at hl 0 rfl) ?_
      refine lv_bipush (v := nZ 48) hX hB dX7_readsCoin_49 (by decide) ?_
      refine lv_bipush (v := nZ 57) hX hB dX7_readsCoin_51 (by decide) ?_
      refine zCallI0 (zRunV (As := [.int (nZ 48), .int (nZ 57)]) X mv_X7_isHere (c_X7_isHere l D k _ mm ms mk mb vsv vty vth ven ((bf i) - 48) vpc bf T (i + 2) 48 57 hT (by first | assumption | omega | exact ⟨by omega, by omega⟩) (by first | assumption | omega | exact ⟨by omega, by omega⟩) (by first | assumption | omega | exact ⟨by omega, by omega⟩)) zw_416 (zPreV hP hD hK [0, 1] rfl rfl 0 7 rfl rfl rfl) rfl hl (Nat.le_of_ble_eq_true rfl) dX7_readsCoin_53 ⟨rfl, rfl, ⟨Nat.le_of_ble_eq_true rfl, Nat.le_of_ble_eq_true rfl⟩, Nat.le_of_ble_eq_true rfl, Nat.le_of_ble_eq_true rfl⟩ rfl) hS hP hD hA [0, 1] rfl (fun _ => rfl) (fun r_53 u_53 H locs hq_53 hP hD hS => ?_)
      obtain ⟨rd_53, e9⟩ : ∃ z9, z9 = u_53 := ⟨_, rfl⟩; subst e9
      obtain ⟨rfl, hh_53⟩ := hq_53
      try dsimp only at hh_53
      have hP : va_P D vwCl [(mm, .inr (7, [.ref ms, .int (nZ vsv), .ref mk, .ref mb, .int (nZ vty), .int (nZ vth), .int (nZ ven), .int (nZ (↑(i + 2))), .int (nZ ((bf i) - 48)), .int (nZ vpc)])), (mb, .inl (k 2, 60, .inl (zA bf)))] H := hP
      have hD : va_D A [(mm, .inr (7, [.ref ms, .int (nZ vsv), .ref mk, .ref mb, .int (nZ vty), .int (nZ vth), .int (nZ ven), .int (nZ (↑(i + 2))), .int (nZ ((bf i) - 48)), .int (nZ vpc)])), (mb, .inl (k 2, 60, .inl (zA bf)))] := hD
      refine zz_if_ne X (tgt := 61) dX7_readsCoin_56 (by decide) ⟨by omega, by omega⟩ (fun c_56 => ?_) (fun c_56 => ?_)
      · have hx2 := hT.at (by omega : i + 2 < T.length)
        refine lv_aload_n hX hB dX7_readsCoin_61 rfl (lv_at hl 0 rfl) ?_
        refine lv_aload_n hX hB dX7_readsCoin_62 rfl (lv_at hl 0 rfl) ?_
        refine va_get hX hB hz inlX7 hW hK.1 hP 0 rfl rfl 3 (by decide) (hz _ zw_78) (fun _ h9 => h9) rfl dX7_readsCoin_63 ?_
        refine lv_aload_n hX hB dX7_readsCoin_66 rfl (lv_at hl 0 rfl) ?_
        refine va_get hX hB hz inlX7 hW hK.1 hP 0 rfl rfl 7 (by decide) (hz _ zw_409) (fun _ h9 => h9) rfl dX7_readsCoin_67 ?_
        refine zz_cald X hP 1 2 rfl rfl (i + 2) (by omega) (by omega) (by first | decide | omega) dX7_readsCoin_70 ?_
        refine lv_bipush (v := nZ 48) hX hB dX7_readsCoin_71 (by decide) ?_
        refine zz_isub X dX7_readsCoin_73 (z := ((bf (i + 2)) - 48)) (by first | rfl | omega) ?_
        refine va_put (v := .int (nZ ((bf (i + 2)) - 48))) (ty := tyX7 9) hX hB hz inlX7 tyX7 tyX7_ok nmX7 hW hK.1 hP hD hS 0 rfl rfl 9 (by decide) (hz _ zw_415) (fun _ h9 => h9) rfl (by decide +kernel) rfl rfl (Nat.le_of_ble_eq_true rfl) dX7_readsCoin_74 (fun H locs hP hD hS => ?_)
        have hP : va_P D vwCl [(mm, .inr (7, [.ref ms, .int (nZ vsv), .ref mk, .ref mb, .int (nZ vty), .int (nZ vth), .int (nZ ven), .int (nZ (↑(i + 2))), .int (nZ ((bf i) - 48)), .int (nZ ((bf (i + 2)) - 48))])), (mb, .inl (k 2, 60, .inl (zA bf)))] H := hP
        have hD : va_D A [(mm, .inr (7, [.ref ms, .int (nZ vsv), .ref mk, .ref mb, .int (nZ vty), .int (nZ vth), .int (nZ ven), .int (nZ (↑(i + 2))), .int (nZ ((bf i) - 48)), .int (nZ ((bf (i + 2)) - 48))])), (mb, .inl (k 2, 60, .inl (zA bf)))] := hD
        refine lv_aload_n hX hB dX7_readsCoin_77 rfl (lv_at hl 0 rfl) ?_
        refine lv_dup hX hB dX7_readsCoin_78 rfl ?_
        refine va_get hX hB hz inlX7 hW hK.1 hP 0 rfl rfl 7 (by decide) (hz _ zw_409) (fun _ h9 => h9) rfl dX7_readsCoin_79 ?_
        refine lv_iconst (v := nZ 1) hX hB dX7_readsCoin_82 rfl ?_
        refine zz_iadd X dX7_readsCoin_83 (z := (↑(i + 2 + 1) : Int)) (by first | rfl | omega) ?_
        refine va_put (v := .int (nZ (↑(i + 2 + 1) : Int))) (ty := tyX7 7) hX hB hz inlX7 tyX7 tyX7_ok nmX7 hW hK.1 hP hD hS 0 rfl rfl 7 (by decide) (hz _ zw_409) (fun _ h9 => h9) rfl (by decide +kernel) rfl rfl (Nat.le_of_ble_eq_true rfl) dX7_readsCoin_84 (fun H locs hP hD hS => ?_)
        have hP : va_P D vwCl [(mm, .inr (7, [.ref ms, .int (nZ vsv), .ref mk, .ref mb, .int (nZ vty), .int (nZ vth), .int (nZ ven), .int (nZ (↑(i + 2 + 1) : Int)), .int (nZ ((bf i) - 48)), .int (nZ ((bf (i + 2)) - 48))])), (mb, .inl (k 2, 60, .inl (zA bf)))] H := hP
        have hD : va_D A [(mm, .inr (7, [.ref ms, .int (nZ vsv), .ref mk, .ref mb, .int (nZ vty), .int (nZ vth), .int (nZ ven), .int (nZ (↑(i + 2 + 1) : Int)), .int (nZ ((bf i) - 48)), .int (nZ ((bf (i + 2)) - 48))])), (mb, .inl (k 2, 60, .inl (zA bf)))] := hD
        refine lv_aload_n hX hB dX7_readsCoin_87 rfl (lv_at hl 0 rfl) ?_
        refine va_get hX hB hz inlX7 hW hK.1 hP 0 rfl rfl 9 (by decide) (hz _ zw_415) (fun _ h9 => h9) rfl dX7_readsCoin_88 ?_
        refine zz_if_le X (tgt := 139) dX7_readsCoin_91 (by decide) ⟨by omega, by omega⟩ (fun c_91 => ?_) (fun c_91 => ?_)
        · refine lv_iconst (v := nZ 1) hX hB dX7_readsCoin_139 rfl ?_
          exact zRetZ (1, (i + 2 + 1), ((bf i) - 48), ((bf (i + 2)) - 48)) X hP hD hS (by first | exact Or.inl rfl | exact Or.inr rfl) rfl ⟨by first | rfl | (congr 1; omega) | (dsimp only; congr 1; omega), by (try rw [hx0.1]); (try rw [hx2.1]); (try rw [hx3.1]); first | exact rd_one (by omega) (by omega) (by omega) (by omega) | exact rd_two (by omega) (by omega) (by omega) (by omega) (by omega), by first | assumption | omega | (dsimp only; omega) | rfl⟩ dX7_readsCoin_140
        · refine lv_aload_n hX hB dX7_readsCoin_94 rfl (lv_at hl 0 rfl) ?_
          refine lv_bipush (v := nZ 48) hX hB dX7_readsCoin_95 (by decide) ?_
          refine lv_bipush (v := nZ 57) hX hB dX7_readsCoin_97 (by decide) ?_
          refine zCallI0 (zRunV (As := [.int (nZ 48), .int (nZ 57)]) X mv_X7_isHere (c_X7_isHere l D k _ mm ms mk mb vsv vty vth ven ((bf i) - 48) ((bf (i + 2)) - 48) bf T (i + 2 + 1) 48 57 hT (by first | assumption | omega | exact ⟨by omega, by omega⟩) (by first | assumption | omega | exact ⟨by omega, by omega⟩) (by first | assumption | omega | exact ⟨by omega, by omega⟩)) zw_416 (zPreV hP hD hK [0, 1] rfl rfl 0 7 rfl rfl rfl) rfl hl (Nat.le_of_ble_eq_true rfl) dX7_readsCoin_99 ⟨rfl, rfl, ⟨Nat.le_of_ble_eq_true rfl, Nat.le_of_ble_eq_true rfl⟩, Nat.le_of_ble_eq_true rfl, Nat.le_of_ble_eq_true rfl⟩ rfl) hS hP hD hA [0, 1] rfl (fun _ => rfl) (fun r_99 u_99 H locs hq_99 hP hD hS => ?_)
          obtain ⟨rd_99, e9⟩ : ∃ z9, z9 = u_99 := ⟨_, rfl⟩; subst e9
          obtain ⟨rfl, hh_99⟩ := hq_99
          try dsimp only at hh_99
          have hP : va_P D vwCl [(mm, .inr (7, [.ref ms, .int (nZ vsv), .ref mk, .ref mb, .int (nZ vty), .int (nZ vth), .int (nZ ven), .int (nZ (↑(i + 2 + 1))), .int (nZ ((bf i) - 48)), .int (nZ ((bf (i + 2)) - 48))])), (mb, .inl (k 2, 60, .inl (zA bf)))] H := hP
          have hD : va_D A [(mm, .inr (7, [.ref ms, .int (nZ vsv), .ref mk, .ref mb, .int (nZ vty), .int (nZ vth), .int (nZ ven), .int (nZ (↑(i + 2 + 1))), .int (nZ ((bf i) - 48)), .int (nZ ((bf (i + 2)) - 48))])), (mb, .inl (k 2, 60, .inl (zA bf)))] := hD
          (try rw [show i + 2 + 1 = i + 3 from rfl] at hh_99)
          refine zz_if_eq X (tgt := 139) dX7_readsCoin_102 (by decide) ⟨by omega, by omega⟩ (fun c_102 => ?_) (fun c_102 => ?_)
          · refine lv_iconst (v := nZ 1) hX hB dX7_readsCoin_139 rfl ?_
            exact zRetZ (1, (i + 2 + 1), ((bf i) - 48), ((bf (i + 2)) - 48)) X hP hD hS (by first | exact Or.inl rfl | exact Or.inr rfl) rfl ⟨by first | rfl | (congr 1; omega) | (dsimp only; congr 1; omega), by (try rw [hx0.1]); (try rw [hx2.1]); (try rw [hx3.1]); first | exact rd_one (by omega) (by omega) (by omega) (by omega) | exact rd_two (by omega) (by omega) (by omega) (by omega) (by omega), by first | assumption | omega | (dsimp only; omega) | rfl⟩ dX7_readsCoin_140
          · have hx3 := hT.at (by omega : i + 3 < T.length)
            refine lv_aload_n hX hB dX7_readsCoin_105 rfl (lv_at hl 0 rfl) ?_
            refine lv_bipush (v := nZ 10) hX hB dX7_readsCoin_106 (by decide) ?_
            refine lv_aload_n hX hB dX7_readsCoin_108 rfl (lv_at hl 0 rfl) ?_
            refine va_get hX hB hz inlX7 hW hK.1 hP 0 rfl rfl 9 (by decide) (hz _ zw_415) (fun _ h9 => h9) rfl dX7_readsCoin_109 ?_
            refine zz_imul X dX7_readsCoin_112 (z := (10 * ((bf (i + 2)) - 48))) (by first | rfl | omega) ?_
            refine lv_aload_n hX hB dX7_readsCoin_113 rfl (lv_at hl 0 rfl) ?_
            refine va_get hX hB hz inlX7 hW hK.1 hP 0 rfl rfl 3 (by decide) (hz _ zw_78) (fun _ h9 => h9) rfl dX7_readsCoin_114 ?_
            refine lv_aload_n hX hB dX7_readsCoin_117 rfl (lv_at hl 0 rfl) ?_
            refine va_get hX hB hz inlX7 hW hK.1 hP 0 rfl rfl 7 (by decide) (hz _ zw_409) (fun _ h9 => h9) rfl dX7_readsCoin_118 ?_
            refine zz_cald X hP 1 2 rfl rfl (i + 2 + 1) (by omega) (by omega) (by first | decide | omega) dX7_readsCoin_121 ?_
            refine zz_iadd X dX7_readsCoin_122 (z := ((10 * ((bf (i + 2)) - 48)) + (bf (i + 2 + 1)))) (by first | rfl | omega) ?_
            refine lv_bipush (v := nZ 48) hX hB dX7_readsCoin_123 (by decide) ?_
            refine zz_isub X dX7_readsCoin_125 (z := (((10 * ((bf (i + 2)) - 48)) + (bf (i + 2 + 1))) - 48)) (by first | rfl | omega) ?_
            refine va_put (v := .int (nZ (((10 * ((bf (i + 2)) - 48)) + (bf (i + 2 + 1))) - 48))) (ty := tyX7 9) hX hB hz inlX7 tyX7 tyX7_ok nmX7 hW hK.1 hP hD hS 0 rfl rfl 9 (by decide) (hz _ zw_415) (fun _ h9 => h9) rfl (by decide +kernel) rfl rfl (Nat.le_of_ble_eq_true rfl) dX7_readsCoin_126 (fun H locs hP hD hS => ?_)
            have hP : va_P D vwCl [(mm, .inr (7, [.ref ms, .int (nZ vsv), .ref mk, .ref mb, .int (nZ vty), .int (nZ vth), .int (nZ ven), .int (nZ (↑(i + 2 + 1))), .int (nZ ((bf i) - 48)), .int (nZ (((10 * ((bf (i + 2)) - 48)) + (bf (i + 2 + 1))) - 48))])), (mb, .inl (k 2, 60, .inl (zA bf)))] H := hP
            have hD : va_D A [(mm, .inr (7, [.ref ms, .int (nZ vsv), .ref mk, .ref mb, .int (nZ vty), .int (nZ vth), .int (nZ ven), .int (nZ (↑(i + 2 + 1))), .int (nZ ((bf i) - 48)), .int (nZ (((10 * ((bf (i + 2)) - 48)) + (bf (i + 2 + 1))) - 48))])), (mb, .inl (k 2, 60, .inl (zA bf)))] := hD
            refine lv_aload_n hX hB dX7_readsCoin_129 rfl (lv_at hl 0 rfl) ?_
            refine lv_dup hX hB dX7_readsCoin_130 rfl ?_
            refine va_get hX hB hz inlX7 hW hK.1 hP 0 rfl rfl 7 (by decide) (hz _ zw_409) (fun _ h9 => h9) rfl dX7_readsCoin_131 ?_
            refine lv_iconst (v := nZ 1) hX hB dX7_readsCoin_134 rfl ?_
            refine zz_iadd X dX7_readsCoin_135 (z := (↑(i + 2 + 1 + 1) : Int)) (by first | rfl | omega) ?_
            refine va_put (v := .int (nZ (↑(i + 2 + 1 + 1) : Int))) (ty := tyX7 7) hX hB hz inlX7 tyX7 tyX7_ok nmX7 hW hK.1 hP hD hS 0 rfl rfl 7 (by decide) (hz _ zw_409) (fun _ h9 => h9) rfl (by decide +kernel) rfl rfl (Nat.le_of_ble_eq_true rfl) dX7_readsCoin_136 (fun H locs hP hD hS => ?_)
            have hP : va_P D vwCl [(mm, .inr (7, [.ref ms, .int (nZ vsv), .ref mk, .ref mb, .int (nZ vty), .int (nZ vth), .int (nZ ven), .int (nZ (↑(i + 2 + 1 + 1) : Int)), .int (nZ ((bf i) - 48)), .int (nZ (((10 * ((bf (i + 2)) - 48)) + (bf (i + 2 + 1))) - 48))])), (mb, .inl (k 2, 60, .inl (zA bf)))] H := hP
            have hD : va_D A [(mm, .inr (7, [.ref ms, .int (nZ vsv), .ref mk, .ref mb, .int (nZ vty), .int (nZ vth), .int (nZ ven), .int (nZ (↑(i + 2 + 1 + 1) : Int)), .int (nZ ((bf i) - 48)), .int (nZ (((10 * ((bf (i + 2)) - 48)) + (bf (i + 2 + 1))) - 48))])), (mb, .inl (k 2, 60, .inl (zA bf)))] := hD
            refine lv_iconst (v := nZ 1) hX hB dX7_readsCoin_139 rfl ?_
            exact zRetZ (1, (i + 2 + 1 + 1), ((bf i) - 48), (((10 * ((bf (i + 2)) - 48)) + (bf (i + 2 + 1))) - 48)) X hP hD hS (by first | exact Or.inl rfl | exact Or.inr rfl) rfl ⟨by first | rfl | (congr 1; omega) | (dsimp only; congr 1; omega), by (try rw [hx0.1]); (try rw [hx2.1]); (try rw [hx3.1]); first | exact rd_one (by omega) (by omega) (by omega) (by omega) | exact rd_two (by omega) (by omega) (by omega) (by omega) (by omega), by first | assumption | omega | (dsimp only; omega) | rfl⟩ dX7_readsCoin_140
      · refine lv_iconst (v := nZ 0) hX hB dX7_readsCoin_59 rfl ?_
        exact zRetZ (0, (i + 2), ((bf i) - 48), vpc) X hP hD hS (by first | exact Or.inl rfl | exact Or.inr rfl) rfl ⟨by first | rfl | (congr 1; omega) | (dsimp only; congr 1; omega), by first | (have h9 : i2_42 = i + 1 := (by omega); subst h9; exact rd_no1 _ _ (by omega) (by omega)) | exact rd_no2 _ _ (by omega) (by omega) (by omega), by first | assumption | omega | (dsimp only; omega) | rfl⟩ dX7_readsCoin_60
  · refine lv_iconst (v := nZ 0) hX hB dX7_readsCoin_11 rfl ?_
    exact zRetZ (0, i, vla, vpc) X hP hD hS (by first | exact Or.inl rfl | exact Or.inr rfl) rfl ⟨by first | rfl | (congr 1; omega) | (dsimp only; congr 1; omega), rd_no0 _ _ (by omega), by first | assumption | omega | (dsimp only; omega) | rfl⟩ dX7_readsCoin_12
