theorem ms_X1_isDigit : zMS yX1_isDigit cX1_isDigit 1 (some .boolean) 1 := ⟨zw_364, zw_20, ⟨by decide +kernel, by decide +kernel, by decide +kernel⟩, zw_363⟩
theorem ms_X1_next : zMS yX1_next cX1_next 2 (some .int) 2 := ⟨zw_361, zw_20, ⟨by decide +kernel, by decide +kernel, by decide +kernel⟩, zw_360⟩
theorem mv_X1_isFull : zMV yX1_isFull cX1_isFull 1 (some .boolean) 0 := ⟨zw_341, zw_20, ⟨by decide +kernel, by decide +kernel, by decide +kernel⟩, zw_339, zw_340⟩
theorem mv_X1_add : zMV yX1_add cX1_add 2 none 1 := ⟨zw_344, zw_20, ⟨by decide +kernel, by decide +kernel, by decide +kernel⟩, zw_342, zw_343⟩
theorem mv_X1_clear : zMV yX1_clear cX1_clear 1 none 0 := ⟨zw_330, zw_20, ⟨by decide +kernel, by decide +kernel, by decide +kernel⟩, zw_328, zw_329⟩
theorem mv_X1_codeAt : zMV yX1_codeAt cX1_codeAt 2 (some .int) 1 := ⟨zw_358, zw_20, ⟨by decide +kernel, by decide +kernel, by decide +kernel⟩, zw_356, zw_357⟩
theorem mv_X1_isWhole : zMV yX1_isWhole cX1_isWhole 3 (some .boolean) 0 := ⟨zw_354, zw_20, ⟨by decide +kernel, by decide +kernel, by decide +kernel⟩, zw_352, zw_353⟩
theorem mv_X1_putOn : zMV yX1_putOn cX1_putOn 7 (some .boolean) 1 := ⟨zw_367, zw_20, ⟨by decide +kernel, by decide +kernel, by decide +kernel⟩, zw_365, zw_366⟩
set_option maxHeartbeats 4000000 in
set_option maxRecDepth 100000 in
theorem c_X1_isDigit (l : Launch) (D : va_G) (k : Nat → ClassId) (sz : Nat) (c : Int) (hc : zR c) : Met l yX1_isDigit (zW yX1_isDigit cX1_isDigit 1 (some .boolean)) ({ frames := 0, cells := 0, slots := 0, locals := 0 } : Room) (va_Pc [.int (nZ c)] (zIn D k sz [])) (va_Qi (fun (rz : Int32) (uz : Unit) => (rz = nZ (if 48 ≤ c ∧ c ≤ 57 then 1 else 0))) (fun (uz : Unit) => zOut D (va_A [] sz) []) (va_A [] sz)) 0 0 (va_A [] sz) := by
  refine zEnter (Qf := fun A => va_Qi (fun (rz : Int32) (uz : Unit) => (rz = nZ (if 48 ≤ c ∧ c ≤ 57 then 1 else 0))) (fun (uz : Unit) => zOut D A []) A) RX1 (by decide) rfl (Nat.le_of_ble_eq_true rfl) ?_
  intro p9 e9 s9 m9 be9 me9 c9 ls A X hin hP hD hS hA hAe hl
  have hX := X.1; have hB := X.2.1; have hz := X.2.2.2.2.1; have hW := X.2.2.2.2.2.1; have hK := X.2.2.2.2.2.2.2; clear hAe
  clear hin
  have hl : lv_has ls 1 [(0, .int (nZ c))] := hl
  obtain ⟨hc1, hc2⟩ := hc
  refine lv_iload_n hX hB dX1_isDigit_0 rfl (lv_at hl 0 rfl) ?_
  refine lv_bipush (v := nZ 48) hX hB dX1_isDigit_1 (by decide) ?_
  refine zz_icmp_lt X (tgt := 16) dX1_isDigit_3 (by decide) ⟨by omega, by omega⟩ ⟨by omega, by omega⟩ (fun c_3 => ?_) (fun c_3 => ?_)
  · refine lv_iconst (v := nZ 0) hX hB dX1_isDigit_16 rfl ?_
    exact zRetZ () X hP hD hS (by first | exact Or.inl rfl | exact Or.inr rfl) rfl (by first | rw [if_pos (by omega)] | rw [if_neg (by omega)]) dX1_isDigit_17
  · refine lv_iload_n hX hB dX1_isDigit_6 rfl (lv_at hl 0 rfl) ?_
    refine lv_bipush (v := nZ 57) hX hB dX1_isDigit_7 (by decide) ?_
    refine zz_icmp_gt X (tgt := 16) dX1_isDigit_9 (by decide) ⟨by omega, by omega⟩ ⟨by omega, by omega⟩ (fun c_9 => ?_) (fun c_9 => ?_)
    · refine lv_iconst (v := nZ 0) hX hB dX1_isDigit_16 rfl ?_
      exact zRetZ () X hP hD hS (by first | exact Or.inl rfl | exact Or.inr rfl) rfl (by first | rw [if_pos (by omega)] | rw [if_neg (by omega)]) dX1_isDigit_17
    · refine lv_iconst (v := nZ 1) hX hB dX1_isDigit_12 rfl ?_
      refine lv_goto (tgt := 17) hX hB dX1_isDigit_13 (by decide) ?_
      exact zRetZ () X hP hD hS (by first | exact Or.inl rfl | exact Or.inr rfl) rfl (by first | rw [if_pos (by omega)] | rw [if_neg (by omega)]) dX1_isDigit_17
set_option maxHeartbeats 4000000 in
set_option maxRecDepth 100000 in
theorem c_X1_next (l : Launch) (D : va_G) (k : Nat → ClassId) (sz : Nat) (st c : Int) (hst : -1 ≤ st ∧ st ≤ 4) (hc : -1 ≤ c ∧ c ≤ 1000) : Met l yX1_next (zW yX1_next cX1_next 2 (some .int)) ({ frames := 1, cells := 0, slots := 0, locals := 20 } : Room) (va_Pc [.int (nZ st), .int (nZ c)] (zIn D k sz [])) (va_Qi (fun (rz : Int32) (uz : Unit) => rz = nZ (nextS st c)) (fun (uz : Unit) => zOut D (va_A [] sz) []) (va_A [] sz)) 0 0 (va_A [] sz) := by
  refine zEnter (Qf := fun A => va_Qi (fun (rz : Int32) (uz : Unit) => rz = nZ (nextS st c)) (fun (uz : Unit) => zOut D A []) A) RX1 (by decide) rfl (Nat.le_of_ble_eq_true rfl) ?_
  intro p9 e9 s9 m9 be9 me9 c9 ls A X hin hP hD hS hA hAe hl
  have hX := X.1; have hB := X.2.1; have hz := X.2.2.2.2.1; have hW := X.2.2.2.2.2.1; have hK := X.2.2.2.2.2.2.2; clear hAe
  clear hin
  have hl : lv_has ls 2 [(0, .int (nZ st)), (1, .int (nZ c))] := hl
  refine lv_iload_n hX hB dX1_next_0 rfl (lv_at hl 0 rfl) ?_
  have hsw : (nZ st).toInt = st := nZ_toInt ⟨by omega, by omega⟩
  by_cases s_1_0 : st = 0
  · refine lv_tableIn (tgt := 36) hX hB dX1_next_1 (by rw [hsw]; omega) (by rw [hsw]; omega) (by rw [hsw, s_1_0]; rfl) (by decide) ?_
    refine lv_iload_n hX hB dX1_next_36 rfl (lv_at hl 1 rfl) ?_
    refine lv_bipush (v := nZ 48) hX hB dX1_next_37 (by decide) ?_
    refine zz_icmp_lt X (tgt := 52) dX1_next_39 (by decide) ⟨by omega, by omega⟩ ⟨by omega, by omega⟩ (fun c_39 => ?_) (fun c_39 => ?_)
    · refine lv_iconst (v := nZ (-1)) hX hB dX1_next_52 rfl ?_
      exact zRetI () X hP hD hS rfl (by congr 1; unfold nextS; repeat (first | rw [if_pos (by omega)] | rw [if_neg (by omega)])) dX1_next_53
    · refine lv_iload_n hX hB dX1_next_42 rfl (lv_at hl 1 rfl) ?_
      refine lv_bipush (v := nZ 51) hX hB dX1_next_43 (by decide) ?_
      refine zz_icmp_ge X (tgt := 52) dX1_next_45 (by decide) ⟨by omega, by omega⟩ ⟨by omega, by omega⟩ (fun c_45 => ?_) (fun c_45 => ?_)
      · refine lv_iconst (v := nZ (-1)) hX hB dX1_next_52 rfl ?_
        exact zRetI () X hP hD hS rfl (by congr 1; unfold nextS; repeat (first | rw [if_pos (by omega)] | rw [if_neg (by omega)])) dX1_next_53
      · refine lv_iconst (v := nZ 1) hX hB dX1_next_48 rfl ?_
        refine lv_goto (tgt := 53) hX hB dX1_next_49 (by decide) ?_
        exact zRetI () X hP hD hS rfl (by congr 1; unfold nextS; repeat (first | rw [if_pos (by omega)] | rw [if_neg (by omega)])) dX1_next_53
  by_cases s_1_1 : st = 1
  · refine lv_tableIn (tgt := 54) hX hB dX1_next_1 (by rw [hsw]; omega) (by rw [hsw]; omega) (by rw [hsw, s_1_1]; rfl) (by decide) ?_
    refine lv_iload_n hX hB dX1_next_54 rfl (lv_at hl 1 rfl) ?_
    refine lv_bipush (v := nZ 58) hX hB dX1_next_55 (by decide) ?_
    refine zz_icmp_ne X (tgt := 64) dX1_next_57 (by decide) ⟨by omega, by omega⟩ ⟨by omega, by omega⟩ (fun c_57 => ?_) (fun c_57 => ?_)
    · refine lv_iconst (v := nZ (-1)) hX hB dX1_next_64 rfl ?_
      exact zRetI () X hP hD hS rfl (by congr 1; unfold nextS; repeat (first | rw [if_pos (by omega)] | rw [if_neg (by omega)])) dX1_next_65
    · refine lv_iconst (v := nZ 2) hX hB dX1_next_60 rfl ?_
      refine lv_goto (tgt := 65) hX hB dX1_next_61 (by decide) ?_
      exact zRetI () X hP hD hS rfl (by congr 1; unfold nextS; repeat (first | rw [if_pos (by omega)] | rw [if_neg (by omega)])) dX1_next_65
  by_cases s_1_2 : st = 2
  · refine lv_tableIn (tgt := 66) hX hB dX1_next_1 (by rw [hsw]; omega) (by rw [hsw]; omega) (by rw [hsw, s_1_2]; rfl) (by decide) ?_
    refine lv_iload_n hX hB dX1_next_66 rfl (lv_at hl 1 rfl) ?_
    refine lv_bipush (v := nZ 48) hX hB dX1_next_67 (by decide) ?_
    refine zz_icmp_ne X (tgt := 74) dX1_next_69 (by decide) ⟨by omega, by omega⟩ ⟨by omega, by omega⟩ (fun c_69 => ?_) (fun c_69 => ?_)
    · refine lv_iload_n hX hB dX1_next_74 rfl (lv_at hl 1 rfl) ?_
      refine zCallI0 (zRunS X ms_X1_isDigit (c_X1_isDigit l D k _ c (by first | assumption | omega | exact ⟨by omega, by omega⟩)) zw_362 (zPreS hP hD hK [] rfl rfl) rfl hl (Nat.le_of_ble_eq_true rfl) dX1_next_75 ⟨rfl, rfl, ⟨Nat.le_of_ble_eq_true rfl, Nat.le_of_ble_eq_true rfl⟩, Nat.le_of_ble_eq_true rfl, Nat.le_of_ble_eq_true rfl⟩ rfl) hS hP hD hA [] rfl (fun _ => rfl) (fun r_75 u_75 H locs hq_75 hP hD hS => ?_)
      subst hq_75
      have hP : va_P D vwCl [] H := hP
      have hD : va_D A [] := hD
      refine zz_if_eq X (tgt := 85) dX1_next_78 (by decide) ⟨by (split <;> omega), by (split <;> omega)⟩ (fun c_78 => ?_) (fun c_78 => ?_)
      · refine lv_iconst (v := nZ (-1)) hX hB dX1_next_85 rfl ?_
        exact zRetI () X hP hD hS rfl (by congr 1; unfold nextS; repeat (first | rw [if_pos (by omega)] | rw [if_neg (by omega)])) dX1_next_86
      · refine lv_iconst (v := nZ 3) hX hB dX1_next_81 rfl ?_
        refine lv_goto (tgt := 86) hX hB dX1_next_82 (by decide) ?_
        exact zRetI () X hP hD hS rfl (by congr 1; unfold nextS; repeat (first | rw [if_pos (by omega)] | rw [if_neg (by omega)])) dX1_next_86
    · refine lv_iconst (v := nZ 4) hX hB dX1_next_72 rfl ?_
      exact zRetI () X hP hD hS rfl (by congr 1; unfold nextS; repeat (first | rw [if_pos (by omega)] | rw [if_neg (by omega)])) dX1_next_73
  by_cases s_1_3 : st = 3
  · refine lv_tableIn (tgt := 87) hX hB dX1_next_1 (by rw [hsw]; omega) (by rw [hsw]; omega) (by rw [hsw, s_1_3]; rfl) (by decide) ?_
    refine lv_iload_n hX hB dX1_next_87 rfl (lv_at hl 1 rfl) ?_
    refine zCallI0 (zRunS X ms_X1_isDigit (c_X1_isDigit l D k _ c (by first | assumption | omega | exact ⟨by omega, by omega⟩)) zw_362 (zPreS hP hD hK [] rfl rfl) rfl hl (Nat.le_of_ble_eq_true rfl) dX1_next_88 ⟨rfl, rfl, ⟨Nat.le_of_ble_eq_true rfl, Nat.le_of_ble_eq_true rfl⟩, Nat.le_of_ble_eq_true rfl, Nat.le_of_ble_eq_true rfl⟩ rfl) hS hP hD hA [] rfl (fun _ => rfl) (fun r_88 u_88 H locs hq_88 hP hD hS => ?_)
    subst hq_88
    have hP : va_P D vwCl [] H := hP
    have hD : va_D A [] := hD
    refine zz_if_eq X (tgt := 96) dX1_next_91 (by decide) ⟨by (split <;> omega), by (split <;> omega)⟩ (fun c_91 => ?_) (fun c_91 => ?_)
    · refine lv_iload_n hX hB dX1_next_96 rfl (lv_at hl 1 rfl) ?_
      refine lv_bipush (v := nZ 59) hX hB dX1_next_97 (by decide) ?_
      refine zz_icmp_ne X (tgt := 106) dX1_next_99 (by decide) ⟨by omega, by omega⟩ ⟨by omega, by omega⟩ (fun c_99 => ?_) (fun c_99 => ?_)
      · refine lv_iconst (v := nZ (-1)) hX hB dX1_next_106 rfl ?_
        exact zRetI () X hP hD hS rfl (by congr 1; unfold nextS; repeat (first | rw [if_pos (by omega)] | rw [if_neg (by omega)])) dX1_next_107
      · refine lv_iconst (v := nZ 0) hX hB dX1_next_102 rfl ?_
        refine lv_goto (tgt := 107) hX hB dX1_next_103 (by decide) ?_
        exact zRetI () X hP hD hS rfl (by congr 1; unfold nextS; repeat (first | rw [if_pos (by omega)] | rw [if_neg (by omega)])) dX1_next_107
    · refine lv_iconst (v := nZ 4) hX hB dX1_next_94 rfl ?_
      exact zRetI () X hP hD hS rfl (by congr 1; unfold nextS; repeat (first | rw [if_pos (by omega)] | rw [if_neg (by omega)])) dX1_next_95
  by_cases s_1_4 : st = 4
  · refine lv_tableIn (tgt := 108) hX hB dX1_next_1 (by rw [hsw]; omega) (by rw [hsw]; omega) (by rw [hsw, s_1_4]; rfl) (by decide) ?_
    refine lv_iload_n hX hB dX1_next_108 rfl (lv_at hl 1 rfl) ?_
    refine lv_bipush (v := nZ 59) hX hB dX1_next_109 (by decide) ?_
    refine zz_icmp_ne X (tgt := 118) dX1_next_111 (by decide) ⟨by omega, by omega⟩ ⟨by omega, by omega⟩ (fun c_111 => ?_) (fun c_111 => ?_)
    · refine lv_iconst (v := nZ (-1)) hX hB dX1_next_118 rfl ?_
      exact zRetI () X hP hD hS rfl (by congr 1; unfold nextS; repeat (first | rw [if_pos (by omega)] | rw [if_neg (by omega)])) dX1_next_119
    · refine lv_iconst (v := nZ 0) hX hB dX1_next_114 rfl ?_
      refine lv_goto (tgt := 119) hX hB dX1_next_115 (by decide) ?_
      exact zRetI () X hP hD hS rfl (by congr 1; unfold nextS; repeat (first | rw [if_pos (by omega)] | rw [if_neg (by omega)])) dX1_next_119
  refine lv_tableOut (tgt := 120) hX hB dX1_next_1 (by rw [hsw]; omega) (by decide) ?_
  refine lv_iconst (v := nZ (-1)) hX hB dX1_next_120 rfl ?_
  exact zRetI () X hP hD hS rfl (by congr 1; unfold nextS; repeat (first | rw [if_pos (by omega)] | rw [if_neg (by omega)])) dX1_next_121
set_option maxHeartbeats 4000000 in
set_option maxRecDepth 100000 in
theorem c_X1_isFull (l : Launch) (D : va_G) (k : Nat → ClassId) (sz : Nat) (tx cd : Nat) (n : Int) (ct : Nat → Int) (T : List Int) (hT : textOk ct n T) : Met l yX1_isFull (zW yX1_isFull cX1_isFull 1 (some .boolean)) ({ frames := 0, cells := 0, slots := 0, locals := 0 } : Room) (va_Pc [.ref tx] (zIn D k sz [(tx, .inr (1, [.ref cd, .int (nZ n)])), (cd, .inl (k 0, 60, .inl (zA ct)))])) (va_Qi (fun (rz : Int32) (uz : Unit) => rz = nZ (if 60 ≤ T.length then 1 else 0)) (fun (uz : Unit) => zOut D (va_A [(tx, .inr (1, [.ref cd, .int (nZ n)])), (cd, .inl (k 0, 60, .inl (zA ct)))] sz) [(tx, .inr (1, [.ref cd, .int (nZ n)])), (cd, .inl (k 0, 60, .inl (zA ct)))]) (va_A [(tx, .inr (1, [.ref cd, .int (nZ n)])), (cd, .inl (k 0, 60, .inl (zA ct)))] sz)) 0 0 (va_A [(tx, .inr (1, [.ref cd, .int (nZ n)])), (cd, .inl (k 0, 60, .inl (zA ct)))] sz) := by
  refine zEnter (Qf := fun A => va_Qi (fun (rz : Int32) (uz : Unit) => rz = nZ (if 60 ≤ T.length then 1 else 0)) (fun (uz : Unit) => zOut D A [(tx, .inr (1, [.ref cd, .int (nZ n)])), (cd, .inl (k 0, 60, .inl (zA ct)))]) A) RX1 (by decide) rfl (Nat.le_of_ble_eq_true rfl) ?_
  intro p9 e9 s9 m9 be9 me9 c9 ls A X hin hP hD hS hA hAe hl
  have hX := X.1; have hB := X.2.1; have hz := X.2.2.2.2.1; have hW := X.2.2.2.2.2.1; have hK := X.2.2.2.2.2.2.2; clear hAe
  clear hin
  have hl : lv_has ls 1 [(0, .ref tx)] := hl
  obtain ⟨hn, hlen⟩ := hT.len
  subst hn
  refine lv_aload_n hX hB dX1_isFull_0 rfl (lv_at hl 0 rfl) ?_
  refine va_get hX hB hz inlX1 hW hK.1 hP 0 rfl rfl 1 (by decide) (hz _ zw_331) (fun _ h9 => h9) rfl dX1_isFull_1 ?_
  refine lv_bipush (v := nZ 60) hX hB dX1_isFull_4 (by decide) ?_
  refine zz_icmp_lt X (tgt := 13) dX1_isFull_6 (by decide) ⟨by omega, by omega⟩ ⟨by omega, by omega⟩ (fun c_6 => ?_) (fun c_6 => ?_)
  · refine lv_iconst (v := nZ 0) hX hB dX1_isFull_13 rfl ?_
    exact zRetZ () X hP hD hS (by first | exact Or.inl rfl | exact Or.inr rfl) rfl (by first | rw [if_pos (by omega)] | rw [if_neg (by omega)]) dX1_isFull_14
  · refine lv_iconst (v := nZ 1) hX hB dX1_isFull_9 rfl ?_
    refine lv_goto (tgt := 14) hX hB dX1_isFull_10 (by decide) ?_
    exact zRetZ () X hP hD hS (by first | exact Or.inl rfl | exact Or.inr rfl) rfl (by first | rw [if_pos (by omega)] | rw [if_neg (by omega)]) dX1_isFull_14
set_option maxHeartbeats 4000000 in
set_option maxRecDepth 100000 in
theorem c_X1_add (l : Launch) (D : va_G) (k : Nat → ClassId) (sz : Nat) (tx cd : Nat) (n : Int) (ct : Nat → Int) (T : List Int) (c : Int) (hT : textOk ct n T) (hl60 : T.length < 60) (hc : 33 ≤ c ∧ c ≤ 126) : Met l yX1_add (zW yX1_add cX1_add 2 none) ({ frames := 0, cells := 0, slots := 0, locals := 0 } : Room) (va_Pc [.ref tx, .int (nZ c)] (zIn D k sz [(tx, .inr (1, [.ref cd, .int (nZ n)])), (cd, .inl (k 0, 60, .inl (zA ct)))])) (va_Qv (fun (uz : Unit) => textOk (zU ct T.length c) (n + 1) (T ++ [c])) (fun (uz : Unit) => zOut D (va_A [(tx, .inr (1, [.ref cd, .int (nZ n)])), (cd, .inl (k 0, 60, .inl (zA ct)))] sz) [(tx, .inr (1, [.ref cd, .int (nZ (n + 1))])), (cd, .inl (k 0, 60, .inl (zA (zU ct T.length c))))]) (va_A [(tx, .inr (1, [.ref cd, .int (nZ n)])), (cd, .inl (k 0, 60, .inl (zA ct)))] sz)) 0 0 (va_A [(tx, .inr (1, [.ref cd, .int (nZ n)])), (cd, .inl (k 0, 60, .inl (zA ct)))] sz) := by
  refine zEnter (Qf := fun A => va_Qv (fun (uz : Unit) => textOk (zU ct T.length c) (n + 1) (T ++ [c])) (fun (uz : Unit) => zOut D A [(tx, .inr (1, [.ref cd, .int (nZ (n + 1))])), (cd, .inl (k 0, 60, .inl (zA (zU ct T.length c))))]) A) RX1 (by decide) rfl (Nat.le_of_ble_eq_true rfl) ?_
  intro p9 e9 s9 m9 be9 me9 c9 ls A X hin hP hD hS hA hAe hl
  have hX := X.1; have hB := X.2.1; have hz := X.2.2.2.2.1; have hW := X.2.2.2.2.2.1; have hK := X.2.2.2.2.2.2.2; clear hAe
  clear hin
  have hl : lv_has ls 2 [(0, .ref tx), (1, .int (nZ c))] := hl
  obtain ⟨hn, hlen⟩ := hT.len
  subst hn
  refine lv_aload_n hX hB dX1_add_0 rfl (lv_at hl 0 rfl) ?_
  refine va_get hX hB hz inlX1 hW hK.1 hP 0 rfl rfl 1 (by decide) (hz _ zw_331) (fun _ h9 => h9) rfl dX1_add_1 ?_
  refine zz_if_lt X (tgt := 39) dX1_add_4 (by decide) ⟨by omega, by omega⟩ (fun c_4 => ?_) (fun c_4 => ?_)
  · exfalso; omega
  · refine lv_aload_n hX hB dX1_add_7 rfl (lv_at hl 0 rfl) ?_
    refine va_get hX hB hz inlX1 hW hK.1 hP 0 rfl rfl 1 (by decide) (hz _ zw_331) (fun _ h9 => h9) rfl dX1_add_8 ?_
    refine lv_aload_n hX hB dX1_add_11 rfl (lv_at hl 0 rfl) ?_
    refine va_get hX hB hz inlX1 hW hK.1 hP 0 rfl rfl 0 (by decide) (hz _ zw_60) (fun _ h9 => h9) rfl dX1_add_12 ?_
    refine zz_alen X hP 1 0 (N := 60) rfl rfl rfl dX1_add_15 ?_
    refine zz_icmp_ge X (tgt := 39) dX1_add_16 (by decide) ⟨by omega, by omega⟩ ⟨by omega, by omega⟩ (fun c_16 => ?_) (fun c_16 => ?_)
    · exfalso; omega
    · refine lv_aload_n hX hB dX1_add_19 rfl (lv_at hl 0 rfl) ?_
      refine va_get hX hB hz inlX1 hW hK.1 hP 0 rfl rfl 0 (by decide) (hz _ zw_60) (fun _ h9 => h9) rfl dX1_add_20 ?_
      refine lv_aload_n hX hB dX1_add_23 rfl (lv_at hl 0 rfl) ?_
      refine va_get hX hB hz inlX1 hW hK.1 hP 0 rfl rfl 1 (by decide) (hz _ zw_331) (fun _ h9 => h9) rfl dX1_add_24 ?_
      refine lv_iload_n hX hB dX1_add_27 rfl (lv_at hl 1 rfl) ?_
      refine zz_iast X hP hD hS 1 0 rfl rfl T.length (by omega) (by omega) (by first | decide | omega) dX1_add_28 (fun H locs hP hD hS => ?_)
      have hP : va_P D vwCl [(tx, .inr (1, [.ref cd, .int (nZ (↑T.length : Int))])), (cd, .inl (k 0, 60, .inl (zA (zU ct T.length c))))] H := hP
      have hD : va_D A [(tx, .inr (1, [.ref cd, .int (nZ (↑T.length : Int))])), (cd, .inl (k 0, 60, .inl (zA (zU ct T.length c))))] := hD
      refine lv_aload_n hX hB dX1_add_29 rfl (lv_at hl 0 rfl) ?_
      refine lv_dup hX hB dX1_add_30 rfl ?_
      refine va_get hX hB hz inlX1 hW hK.1 hP 0 rfl rfl 1 (by decide) (hz _ zw_331) (fun _ h9 => h9) rfl dX1_add_31 ?_
      refine lv_iconst (v := nZ 1) hX hB dX1_add_34 rfl ?_
      refine zz_iadd X dX1_add_35 (z := (↑(T.length + 1) : Int)) (by first | rfl | omega) ?_
      refine va_put (v := .int (nZ (↑(T.length + 1) : Int))) (ty := tyX1 1) hX hB hz inlX1 tyX1 tyX1_ok nmX1 hW hK.1 hP hD hS 0 rfl rfl 1 (by decide) (hz _ zw_331) (fun _ h9 => h9) rfl (by decide +kernel) rfl rfl (Nat.le_of_ble_eq_true rfl) dX1_add_36 (fun H locs hP hD hS => ?_)
      have hP : va_P D vwCl [(tx, .inr (1, [.ref cd, .int (nZ (↑(T.length + 1) : Int))])), (cd, .inl (k 0, 60, .inl (zA (zU ct T.length c))))] H := hP
      have hD : va_D A [(tx, .inr (1, [.ref cd, .int (nZ (↑(T.length + 1) : Int))])), (cd, .inl (k 0, 60, .inl (zA (zU ct T.length c))))] := hD
      exact zRetV () X hP hD hS rfl (hT.push hl60 hc) dX1_add_39
set_option maxHeartbeats 4000000 in
set_option maxRecDepth 100000 in
theorem c_X1_clear (l : Launch) (D : va_G) (k : Nat → ClassId) (sz : Nat) (tx cd : Nat) (n : Int) (ct : Nat → Int)  : Met l yX1_clear (zW yX1_clear cX1_clear 1 none) ({ frames := 0, cells := 0, slots := 0, locals := 0 } : Room) (va_Pc [.ref tx] (zIn D k sz [(tx, .inr (1, [.ref cd, .int (nZ n)])), (cd, .inl (k 0, 60, .inl (zA ct)))])) (va_Qv (fun (uz : Unit) => True) (fun (uz : Unit) => zOut D (va_A [(tx, .inr (1, [.ref cd, .int (nZ n)])), (cd, .inl (k 0, 60, .inl (zA ct)))] sz) [(tx, .inr (1, [.ref cd, .int (nZ 0)])), (cd, .inl (k 0, 60, .inl (zA ct)))]) (va_A [(tx, .inr (1, [.ref cd, .int (nZ n)])), (cd, .inl (k 0, 60, .inl (zA ct)))] sz)) 0 0 (va_A [(tx, .inr (1, [.ref cd, .int (nZ n)])), (cd, .inl (k 0, 60, .inl (zA ct)))] sz) := by
  refine zEnter (Qf := fun A => va_Qv (fun (uz : Unit) => True) (fun (uz : Unit) => zOut D A [(tx, .inr (1, [.ref cd, .int (nZ 0)])), (cd, .inl (k 0, 60, .inl (zA ct)))]) A) RX1 (by decide) rfl (Nat.le_of_ble_eq_true rfl) ?_
  intro p9 e9 s9 m9 be9 me9 c9 ls A X hin hP hD hS hA hAe hl
  have hX := X.1; have hB := X.2.1; have hz := X.2.2.2.2.1; have hW := X.2.2.2.2.2.1; have hK := X.2.2.2.2.2.2.2; clear hAe
  clear hin
  have hl : lv_has ls 1 [(0, .ref tx)] := hl
  refine lv_aload_n hX hB dX1_clear_0 rfl (lv_at hl 0 rfl) ?_
  refine lv_iconst (v := nZ 0) hX hB dX1_clear_1 rfl ?_
  refine va_put (v := .int (nZ 0)) (ty := tyX1 1) hX hB hz inlX1 tyX1 tyX1_ok nmX1 hW hK.1 hP hD hS 0 rfl rfl 1 (by decide) (hz _ zw_331) (fun _ h9 => h9) rfl (by decide +kernel) rfl rfl (Nat.le_of_ble_eq_true rfl) dX1_clear_2 (fun H locs hP hD hS => ?_)
  have hP : va_P D vwCl [(tx, .inr (1, [.ref cd, .int (nZ 0)])), (cd, .inl (k 0, 60, .inl (zA ct)))] H := hP
  have hD : va_D A [(tx, .inr (1, [.ref cd, .int (nZ 0)])), (cd, .inl (k 0, 60, .inl (zA ct)))] := hD
  exact zRetV () X hP hD hS rfl trivial dX1_clear_5
set_option maxHeartbeats 4000000 in
set_option maxRecDepth 100000 in
theorem c_X1_codeAt (l : Launch) (D : va_G) (k : Nat → ClassId) (sz : Nat) (tx cd : Nat) (n : Int) (ct : Nat → Int) (T : List Int) (i : Int) (hT : textOk ct n T) (hi : zR i) : Met l yX1_codeAt (zW yX1_codeAt cX1_codeAt 2 (some .int)) ({ frames := 0, cells := 0, slots := 0, locals := 0 } : Room) (va_Pc [.ref tx, .int (nZ i)] (zIn D k sz [(tx, .inr (1, [.ref cd, .int (nZ n)])), (cd, .inl (k 0, 60, .inl (zA ct)))])) (va_Qi (fun (rz : Int32) (uz : Unit) => rz = nZ (codeS T i)) (fun (uz : Unit) => zOut D (va_A [(tx, .inr (1, [.ref cd, .int (nZ n)])), (cd, .inl (k 0, 60, .inl (zA ct)))] sz) [(tx, .inr (1, [.ref cd, .int (nZ n)])), (cd, .inl (k 0, 60, .inl (zA ct)))]) (va_A [(tx, .inr (1, [.ref cd, .int (nZ n)])), (cd, .inl (k 0, 60, .inl (zA ct)))] sz)) 0 0 (va_A [(tx, .inr (1, [.ref cd, .int (nZ n)])), (cd, .inl (k 0, 60, .inl (zA ct)))] sz) := by
  refine zEnter (Qf := fun A => va_Qi (fun (rz : Int32) (uz : Unit) => rz = nZ (codeS T i)) (fun (uz : Unit) => zOut D A [(tx, .inr (1, [.ref cd, .int (nZ n)])), (cd, .inl (k 0, 60, .inl (zA ct)))]) A) RX1 (by decide) rfl (Nat.le_of_ble_eq_true rfl) ?_
  intro p9 e9 s9 m9 be9 me9 c9 ls A X hin hP hD hS hA hAe hl
  have hX := X.1; have hB := X.2.1; have hz := X.2.2.2.2.1; have hW := X.2.2.2.2.2.1; have hK := X.2.2.2.2.2.2.2; clear hAe
  clear hin
  have hl : lv_has ls 2 [(0, .ref tx), (1, .int (nZ i))] := hl
  obtain ⟨hn, hlen⟩ := hT.len
  obtain ⟨hi1, hi2⟩ := hi
  subst hn
  refine lv_iload_n hX hB dX1_codeAt_0 rfl (lv_at hl 1 rfl) ?_
  refine zz_if_lt X (tgt := 30) dX1_codeAt_1 (by decide) ⟨by omega, by omega⟩ (fun c_1 => ?_) (fun c_1 => ?_)
  · refine lv_iconst (v := nZ (-1)) hX hB dX1_codeAt_30 rfl ?_
    exact zRetI () X hP hD hS rfl (by congr 1; unfold codeS; first | (rw [if_pos ⟨by omega, by omega⟩]; exact (hT.at (by omega)).1) | rw [if_neg (by omega)]) dX1_codeAt_31
  · refine lv_iload_n hX hB dX1_codeAt_4 rfl (lv_at hl 1 rfl) ?_
    refine lv_aload_n hX hB dX1_codeAt_5 rfl (lv_at hl 0 rfl) ?_
    refine va_get hX hB hz inlX1 hW hK.1 hP 0 rfl rfl 1 (by decide) (hz _ zw_331) (fun _ h9 => h9) rfl dX1_codeAt_6 ?_
    refine zz_icmp_ge X (tgt := 30) dX1_codeAt_9 (by decide) ⟨by omega, by omega⟩ ⟨by omega, by omega⟩ (fun c_9 => ?_) (fun c_9 => ?_)
    · refine lv_iconst (v := nZ (-1)) hX hB dX1_codeAt_30 rfl ?_
      exact zRetI () X hP hD hS rfl (by congr 1; unfold codeS; first | (rw [if_pos ⟨by omega, by omega⟩]; exact (hT.at (by omega)).1) | rw [if_neg (by omega)]) dX1_codeAt_31
    · refine lv_iload_n hX hB dX1_codeAt_12 rfl (lv_at hl 1 rfl) ?_
      refine lv_aload_n hX hB dX1_codeAt_13 rfl (lv_at hl 0 rfl) ?_
      refine va_get hX hB hz inlX1 hW hK.1 hP 0 rfl rfl 0 (by decide) (hz _ zw_60) (fun _ h9 => h9) rfl dX1_codeAt_14 ?_
      refine zz_alen X hP 1 0 (N := 60) rfl rfl rfl dX1_codeAt_17 ?_
      refine zz_icmp_ge X (tgt := 30) dX1_codeAt_18 (by decide) ⟨by omega, by omega⟩ ⟨by omega, by omega⟩ (fun c_18 => ?_) (fun c_18 => ?_)
      · exfalso; omega
      · refine lv_aload_n hX hB dX1_codeAt_21 rfl (lv_at hl 0 rfl) ?_
        refine va_get hX hB hz inlX1 hW hK.1 hP 0 rfl rfl 0 (by decide) (hz _ zw_60) (fun _ h9 => h9) rfl dX1_codeAt_22 ?_
        refine lv_iload_n hX hB dX1_codeAt_25 rfl (lv_at hl 1 rfl) ?_
        refine zz_iald X hP 1 0 rfl rfl ((i).toNat) (by omega) (by omega) (by first | decide | omega) dX1_codeAt_26 ?_
        refine lv_goto (tgt := 31) hX hB dX1_codeAt_27 (by decide) ?_
        exact zRetI () X hP hD hS rfl (by congr 1; unfold codeS; first | (rw [if_pos ⟨by omega, by omega⟩]; exact (hT.at (by omega)).1) | rw [if_neg (by omega)]) dX1_codeAt_31
set_option maxHeartbeats 4000000 in
set_option maxRecDepth 100000 in
theorem c_X1_isWhole (l : Launch) (D : va_G) (k : Nat → ClassId) (sz : Nat) (tx cd : Nat) (n : Int) (ct : Nat → Int) (T : List Int) (hT : textOk ct n T) : Met l yX1_isWhole (zW yX1_isWhole cX1_isWhole 3 (some .boolean)) ({ frames := 2, cells := 0, slots := 0, locals := 41 } : Room) (va_Pc [.ref tx] (zIn D k sz [(tx, .inr (1, [.ref cd, .int (nZ n)])), (cd, .inl (k 0, 60, .inl (zA ct)))])) (va_Qi (fun (rz : Int32) (uz : Unit) => rz = nZ (if wholeS T then 1 else 0)) (fun (uz : Unit) => zOut D (va_A [(tx, .inr (1, [.ref cd, .int (nZ n)])), (cd, .inl (k 0, 60, .inl (zA ct)))] sz) [(tx, .inr (1, [.ref cd, .int (nZ n)])), (cd, .inl (k 0, 60, .inl (zA ct)))]) (va_A [(tx, .inr (1, [.ref cd, .int (nZ n)])), (cd, .inl (k 0, 60, .inl (zA ct)))] sz)) 0 0 (va_A [(tx, .inr (1, [.ref cd, .int (nZ n)])), (cd, .inl (k 0, 60, .inl (zA ct)))] sz) := by
  refine zEnter (Qf := fun A => va_Qi (fun (rz : Int32) (uz : Unit) => rz = nZ (if wholeS T then 1 else 0)) (fun (uz : Unit) => zOut D A [(tx, .inr (1, [.ref cd, .int (nZ n)])), (cd, .inl (k 0, 60, .inl (zA ct)))]) A) RX1 (by decide) rfl (Nat.le_of_ble_eq_true rfl) ?_
  intro p9 e9 s9 m9 be9 me9 c9 ls A X hin hP hD hS hA hAe hl
  have hX := X.1; have hB := X.2.1; have hz := X.2.2.2.2.1; have hW := X.2.2.2.2.2.1; have hK := X.2.2.2.2.2.2.2; clear hAe
  clear hin
  have hl : lv_has ls 3 [(0, .ref tx)] := hl
  obtain ⟨hn, hlen⟩ := hT.len
  subst hn
  refine lv_iconst (v := nZ 0) hX hB dX1_isWhole_0 rfl ?_
  refine lv_istore_n (lv' := [(1, .int (nZ 0)), (0, .ref tx)]) hX hB dX1_isWhole_1 rfl hl (by decide) rfl (fun ls hl => ?_)
  refine lv_iconst (v := nZ 0) hX hB dX1_isWhole_2 rfl ?_
  refine lv_istore_n (lv' := [(2, .int (nZ 0)), (1, .int (nZ 0)), (0, .ref tx)]) hX hB dX1_isWhole_3 rfl hl (by decide) rfl (fun ls hl => ?_)
  refine zLoop (σ := Nat × Int) (fun (x : Nat × Int) (H : Heap) (locs : List Loc) (ls : Array Slot) => match x with | (i, st) => (i ≤ T.length) ∧ (-1 ≤ st ∧ st ≤ 4) ∧ (runS 0 T = runS st (T.drop i)) ∧ va_P D vwCl [(tx, .inr (1, [.ref cd, .int (nZ (↑T.length : Int))])), (cd, .inl (k 0, 60, .inl (zA ct)))] H ∧ va_D A [(tx, .inr (1, [.ref cd, .int (nZ (↑T.length : Int))])), (cd, .inl (k 0, 60, .inl (zA ct)))] ∧ va_S A s9.heap H locs ∧ lv_has ls 3 [(0, .ref tx), (1, .int (nZ st)), (2, .int (nZ ↑i))]) (fun (x : Nat × Int) => match x with | (i, st) => T.length - i) ?_ (0, 0) ⟨(by exact Nat.zero_le _), (by first | omega | assumption | rfl), (by rfl), hP, hD, hS, (lv_sub hl [2, 1, 0] rfl)⟩
  rintro ⟨i, st⟩ H locs ls ⟨hi, hst, hq, hP, hD, hS, hl⟩ ih_4
  refine lv_iload_n hX hB dX1_isWhole_4 rfl (lv_at hl 2 rfl) ?_
  refine lv_aload_n hX hB dX1_isWhole_5 rfl (lv_at hl 0 rfl) ?_
  refine va_get hX hB hz inlX1 hW hK.1 hP 0 rfl rfl 1 (by decide) (hz _ zw_331) (fun _ h9 => h9) rfl dX1_isWhole_6 ?_
  refine zz_icmp_ge X (tgt := 28) dX1_isWhole_9 (by decide) ⟨by omega, by omega⟩ ⟨by omega, by omega⟩ (fun c_9 => ?_) (fun c_9 => ?_)
  · refine lv_iload_n hX hB dX1_isWhole_28 rfl (lv_at hl 1 rfl) ?_
    refine lv_iconst (v := nZ 3) hX hB dX1_isWhole_29 rfl ?_
    refine zz_icmp_eq X (tgt := 38) dX1_isWhole_30 (by decide) ⟨by omega, by omega⟩ ⟨by omega, by omega⟩ (fun c_30 => ?_) (fun c_30 => ?_)
    · refine lv_iconst (v := nZ 1) hX hB dX1_isWhole_38 rfl ?_
      refine lv_goto (tgt := 43) hX hB dX1_isWhole_39 (by decide) ?_
      have hr9 : runS 0 T = st := by rw [hq, List.drop_eq_nil_of_le (by omega)]; rfl
      exact zRetZ () X hP hD hS (by first | exact Or.inl rfl | exact Or.inr rfl) rfl (by unfold wholeS; first | rw [if_pos (by omega)] | rw [if_neg (by omega)]) dX1_isWhole_43
    · refine lv_iload_n hX hB dX1_isWhole_33 rfl (lv_at hl 1 rfl) ?_
      refine lv_iconst (v := nZ 4) hX hB dX1_isWhole_34 rfl ?_
      refine zz_icmp_ne X (tgt := 42) dX1_isWhole_35 (by decide) ⟨by omega, by omega⟩ ⟨by omega, by omega⟩ (fun c_35 => ?_) (fun c_35 => ?_)
      · refine lv_iconst (v := nZ 0) hX hB dX1_isWhole_42 rfl ?_
        have hr9 : runS 0 T = st := by rw [hq, List.drop_eq_nil_of_le (by omega)]; rfl
        exact zRetZ () X hP hD hS (by first | exact Or.inl rfl | exact Or.inr rfl) rfl (by unfold wholeS; first | rw [if_pos (by omega)] | rw [if_neg (by omega)]) dX1_isWhole_43
      · refine lv_iconst (v := nZ 1) hX hB dX1_isWhole_38 rfl ?_
        refine lv_goto (tgt := 43) hX hB dX1_isWhole_39 (by decide) ?_
        have hr9 : runS 0 T = st := by rw [hq, List.drop_eq_nil_of_le (by omega)]; rfl
        exact zRetZ () X hP hD hS (by first | exact Or.inl rfl | exact Or.inr rfl) rfl (by unfold wholeS; first | rw [if_pos (by omega)] | rw [if_neg (by omega)]) dX1_isWhole_43
  · refine lv_iload_n hX hB dX1_isWhole_12 rfl (lv_at hl 1 rfl) ?_
    refine lv_aload_n hX hB dX1_isWhole_13 rfl (lv_at hl 0 rfl) ?_
    refine lv_iload_n hX hB dX1_isWhole_14 rfl (lv_at hl 2 rfl) ?_
    refine zCallI0 (zRunV (As := [.int (nZ ↑i)]) X mv_X1_codeAt (c_X1_codeAt l D k _ tx cd (↑T.length : Int) ct T ↑i hT (by first | assumption | omega | exact ⟨by omega, by omega⟩)) zw_355 (zPreV hP hD hK [0, 1] rfl rfl 0 1 rfl rfl rfl) rfl hl (Nat.le_of_ble_eq_true rfl) dX1_isWhole_15 ⟨rfl, rfl, ⟨Nat.le_of_ble_eq_true rfl, Nat.le_of_ble_eq_true rfl⟩, Nat.le_of_ble_eq_true rfl, Nat.le_of_ble_eq_true rfl⟩ rfl) hS hP hD hA [0, 1] rfl (fun _ => rfl) (fun r_15 u_15 H locs hq_15 hP hD hS => ?_)
    subst hq_15
    have hP : va_P D vwCl [(tx, .inr (1, [.ref cd, .int (nZ (↑T.length : Int))])), (cd, .inl (k 0, 60, .inl (zA ct)))] H := hP
    have hD : va_D A [(tx, .inr (1, [.ref cd, .int (nZ (↑T.length : Int))])), (cd, .inl (k 0, 60, .inl (zA ct)))] := hD
    have hx0 : codeS T (↑i : Int) = T.getD i 0 := codeS_nat (by omega)
    obtain ⟨_, hx1, hx2⟩ := hT.at (by omega : i < T.length)
    have hxe := (hT.at (by omega : i < T.length)).1
    have hnr := nextS_rng st (codeS T (↑i : Int))
    refine zCallI0 (zRunS X ms_X1_next (c_X1_next l D k _ st (codeS T (↑i : Int)) hst (by first | assumption | omega | exact ⟨by omega, by omega⟩)) zw_359 (zPreS hP hD hK [] rfl rfl) rfl hl (Nat.le_of_ble_eq_true rfl) dX1_isWhole_18 ⟨rfl, rfl, ⟨Nat.le_of_ble_eq_true rfl, Nat.le_of_ble_eq_true rfl⟩, Nat.le_of_ble_eq_true rfl, Nat.le_of_ble_eq_true rfl⟩ rfl) hS hP hD hA [] rfl (fun _ => rfl) (fun r_18 u_18 H locs hq_18 hP hD hS => ?_)
    subst hq_18
    have hP : va_P D vwCl [(tx, .inr (1, [.ref cd, .int (nZ (↑T.length : Int))])), (cd, .inl (k 0, 60, .inl (zA ct)))] H := hP
    have hD : va_D A [(tx, .inr (1, [.ref cd, .int (nZ (↑T.length : Int))])), (cd, .inl (k 0, 60, .inl (zA ct)))] := hD
    refine lv_istore_n (lv' := [(1, .int (nZ (nextS st (codeS T (↑i : Int))))), (0, .ref tx), (2, .int (nZ ↑i))]) hX hB dX1_isWhole_21 rfl hl (by decide) rfl (fun ls hl => ?_)
    refine lv_iinc (v := nZ (↑(i + 1) : Int)) (lv' := [(2, .int (nZ (↑(i + 1) : Int))), (1, .int (nZ (nextS st (codeS T (↑i : Int))))), (0, .ref tx)]) hX hB dX1_isWhole_22 hl (k := 2) rfl (zinc (by omega)) (by decide) rfl (fun ls hl => ?_)
    refine lv_goto (tgt := 4) hX hB dX1_isWhole_25 (by decide) ?_
    exact ih_4 ((i + 1), (nextS st (codeS T (↑i : Int)))) _ _ _ ⟨(by first | omega | assumption | rfl), (by first | omega | assumption | rfl), (by rw [hq, runS_step (by omega), ← hx0]), hP, hD, hS, (lv_sub hl [2, 1, 0] rfl)⟩ (by dsimp only; omega)
set_option maxHeartbeats 4000000 in
set_option maxRecDepth 100000 in
theorem c_X1_putOn (l : Launch) (D : va_G) (k : Nat → ClassId) (sz : Nat) (tx cd : Nat) (n : Int) (ct : Nat → Int) (T : List Int) (la l0 l1 l2 a0 a1 a2 : Nat) (n0 n1 n2 : Int) (g0 g1 g2 : Nat → Int) (hT : textOk ct n T) (hwh : wholeS T) : Met l yX1_putOn (zW yX1_putOn cX1_putOn 7 (some .boolean)) ({ frames := 2, cells := 0, slots := 0, locals := 46 } : Room) (va_Pc [.ref tx, .ref la] (zIn D k sz [(tx, .inr (1, [.ref cd, .int (nZ n)])), (cd, .inl (k 0, 60, .inl (zA ct))), (la, .inr (3, [.ref l0, .ref l1, .ref l2])), (l0, .inr (2, [.ref a0, .int (nZ n0)])), (a0, .inl (k 0, 21, .inl (zA g0))), (l1, .inr (2, [.ref a1, .int (nZ n1)])), (a1, .inl (k 0, 21, .inl (zA g1))), (l2, .inr (2, [.ref a2, .int (nZ n2)])), (a2, .inl (k 0, 21, .inl (zA g2)))])) (va_Qi (fun (rz : Int32) (uz : Int × Int × Int × (Nat → Int) × (Nat → Int) × (Nat → Int)) => rz = nZ (if (putS 0 0 0 (fun _ => []) T).isSome then 1 else 0) ∧ (∀ Ls : Nat → List Int, putS 0 0 0 (fun _ => []) T = some Ls → laneOk uz.2.2.2.1 uz.1 (Ls 0) ∧ laneOk uz.2.2.2.2.1 uz.2.1 (Ls 1) ∧ laneOk uz.2.2.2.2.2 uz.2.2.1 (Ls 2) ∧ chainS (-5) (Ls 0) ∧ chainS (-5) (Ls 1) ∧ chainS (-5) (Ls 2))) (fun (uz : Int × Int × Int × (Nat → Int) × (Nat → Int) × (Nat → Int)) => zOut D (va_A [(tx, .inr (1, [.ref cd, .int (nZ n)])), (cd, .inl (k 0, 60, .inl (zA ct))), (la, .inr (3, [.ref l0, .ref l1, .ref l2])), (l0, .inr (2, [.ref a0, .int (nZ n0)])), (a0, .inl (k 0, 21, .inl (zA g0))), (l1, .inr (2, [.ref a1, .int (nZ n1)])), (a1, .inl (k 0, 21, .inl (zA g1))), (l2, .inr (2, [.ref a2, .int (nZ n2)])), (a2, .inl (k 0, 21, .inl (zA g2)))] sz) [(tx, .inr (1, [.ref cd, .int (nZ n)])), (cd, .inl (k 0, 60, .inl (zA ct))), (la, .inr (3, [.ref l0, .ref l1, .ref l2])), (l0, .inr (2, [.ref a0, .int (nZ uz.1)])), (a0, .inl (k 0, 21, .inl (zA uz.2.2.2.1))), (l1, .inr (2, [.ref a1, .int (nZ uz.2.1)])), (a1, .inl (k 0, 21, .inl (zA uz.2.2.2.2.1))), (l2, .inr (2, [.ref a2, .int (nZ uz.2.2.1)])), (a2, .inl (k 0, 21, .inl (zA uz.2.2.2.2.2)))]) (va_A [(tx, .inr (1, [.ref cd, .int (nZ n)])), (cd, .inl (k 0, 60, .inl (zA ct))), (la, .inr (3, [.ref l0, .ref l1, .ref l2])), (l0, .inr (2, [.ref a0, .int (nZ n0)])), (a0, .inl (k 0, 21, .inl (zA g0))), (l1, .inr (2, [.ref a1, .int (nZ n1)])), (a1, .inl (k 0, 21, .inl (zA g1))), (l2, .inr (2, [.ref a2, .int (nZ n2)])), (a2, .inl (k 0, 21, .inl (zA g2)))] sz)) 0 0 (va_A [(tx, .inr (1, [.ref cd, .int (nZ n)])), (cd, .inl (k 0, 60, .inl (zA ct))), (la, .inr (3, [.ref l0, .ref l1, .ref l2])), (l0, .inr (2, [.ref a0, .int (nZ n0)])), (a0, .inl (k 0, 21, .inl (zA g0))), (l1, .inr (2, [.ref a1, .int (nZ n1)])), (a1, .inl (k 0, 21, .inl (zA g1))), (l2, .inr (2, [.ref a2, .int (nZ n2)])), (a2, .inl (k 0, 21, .inl (zA g2)))] sz) := by
  refine zEnter (Qf := fun A => va_Qi (fun (rz : Int32) (uz : Int × Int × Int × (Nat → Int) × (Nat → Int) × (Nat → Int)) => rz = nZ (if (putS 0 0 0 (fun _ => []) T).isSome then 1 else 0) ∧ (∀ Ls : Nat → List Int, putS 0 0 0 (fun _ => []) T = some Ls → laneOk uz.2.2.2.1 uz.1 (Ls 0) ∧ laneOk uz.2.2.2.2.1 uz.2.1 (Ls 1) ∧ laneOk uz.2.2.2.2.2 uz.2.2.1 (Ls 2) ∧ chainS (-5) (Ls 0) ∧ chainS (-5) (Ls 1) ∧ chainS (-5) (Ls 2))) (fun (uz : Int × Int × Int × (Nat → Int) × (Nat → Int) × (Nat → Int)) => zOut D A [(tx, .inr (1, [.ref cd, .int (nZ n)])), (cd, .inl (k 0, 60, .inl (zA ct))), (la, .inr (3, [.ref l0, .ref l1, .ref l2])), (l0, .inr (2, [.ref a0, .int (nZ uz.1)])), (a0, .inl (k 0, 21, .inl (zA uz.2.2.2.1))), (l1, .inr (2, [.ref a1, .int (nZ uz.2.1)])), (a1, .inl (k 0, 21, .inl (zA uz.2.2.2.2.1))), (l2, .inr (2, [.ref a2, .int (nZ uz.2.2.1)])), (a2, .inl (k 0, 21, .inl (zA uz.2.2.2.2.2)))]) A) RX1 (by decide) rfl (Nat.le_of_ble_eq_true rfl) ?_
  intro p9 e9 s9 m9 be9 me9 c9 ls A X hin hP hD hS hA hAe hl
  have hX := X.1; have hB := X.2.1; have hz := X.2.2.2.2.1; have hW := X.2.2.2.2.2.1; have hK := X.2.2.2.2.2.2.2; clear hAe
  clear hin
  have hl : lv_has ls 7 [(0, .ref tx), (1, .ref la)] := hl
  obtain ⟨hn, hlen⟩ := hT.len
  subst hn
  refine lv_aload_n hX hB dX1_putOn_0 rfl (lv_at hl 1 rfl) ?_
  refine zCallV0 (zRunVN (As := []) X mv_X3_clear (c_X3_clear l D k _ la l0 l1 l2 a0 a1 a2 n0 n1 n2 g0 g1 g2 ) (zn_X1_31 hK.2.1) (zPreV hP hD hK [2, 3, 4, 5, 6, 7, 8] rfl rfl 2 3 rfl rfl rfl) rfl hl (Nat.le_of_ble_eq_true rfl) dX1_putOn_1 ⟨rfl, rfl, ⟨Nat.le_of_ble_eq_true rfl, Nat.le_of_ble_eq_true rfl⟩, Nat.le_of_ble_eq_true rfl, Nat.le_of_ble_eq_true rfl⟩ rfl) hS hP hD hA [2, 3, 4, 5, 6, 7, 8] rfl (fun _ => rfl) (fun u_1 H locs hq_1 hP hD hS => ?_)
  have hP : va_P D vwCl [(tx, .inr (1, [.ref cd, .int (nZ (↑T.length : Int))])), (cd, .inl (k 0, 60, .inl (zA ct))), (la, .inr (3, [.ref l0, .ref l1, .ref l2])), (l0, .inr (2, [.ref a0, .int (nZ 0)])), (a0, .inl (k 0, 21, .inl (zA g0))), (l1, .inr (2, [.ref a1, .int (nZ 0)])), (a1, .inl (k 0, 21, .inl (zA g1))), (l2, .inr (2, [.ref a2, .int (nZ 0)])), (a2, .inl (k 0, 21, .inl (zA g2)))] H := hP
  have hD : va_D A [(tx, .inr (1, [.ref cd, .int (nZ (↑T.length : Int))])), (cd, .inl (k 0, 60, .inl (zA ct))), (la, .inr (3, [.ref l0, .ref l1, .ref l2])), (l0, .inr (2, [.ref a0, .int (nZ 0)])), (a0, .inl (k 0, 21, .inl (zA g0))), (l1, .inr (2, [.ref a1, .int (nZ 0)])), (a1, .inl (k 0, 21, .inl (zA g1))), (l2, .inr (2, [.ref a2, .int (nZ 0)])), (a2, .inl (k 0, 21, .inl (zA g2)))] := hD
  refine lv_iconst (v := nZ 0) hX hB dX1_putOn_4 rfl ?_
  refine lv_istore_n (lv' := [(2, .int (nZ 0)), (0, .ref tx), (1, .ref la)]) hX hB dX1_putOn_5 rfl hl (by decide) rfl (fun ls hl => ?_)
  refine lv_iconst (v := nZ 0) hX hB dX1_putOn_6 rfl ?_
  refine lv_istore_n (lv' := [(3, .int (nZ 0)), (2, .int (nZ 0)), (0, .ref tx), (1, .ref la)]) hX hB dX1_putOn_7 rfl hl (by decide) rfl (fun ls hl => ?_)
  refine lv_iconst (v := nZ 0) hX hB dX1_putOn_8 rfl ?_
  refine lv_istore (lv' := [(4, .int (nZ 0)), (3, .int (nZ 0)), (2, .int (nZ 0)), (0, .ref tx), (1, .ref la)]) hX hB dX1_putOn_9 hl (by decide) rfl (fun ls hl => ?_)
  refine lv_iconst (v := nZ 0) hX hB dX1_putOn_11 rfl ?_
  refine lv_istore (lv' := [(5, .int (nZ 0)), (4, .int (nZ 0)), (3, .int (nZ 0)), (2, .int (nZ 0)), (0, .ref tx), (1, .ref la)]) hX hB dX1_putOn_12 hl (by decide) rfl (fun ls hl => ?_)
  refine zLoop (σ := Nat × Int × Int × Int × Int × Int × Int × (Nat → Int) × (Nat → Int) × (Nat → Int) × (Nat → List Int)) (fun (x : Nat × Int × Int × Int × Int × Int × Int × (Nat → Int) × (Nat → Int) × (Nat → Int) × (Nat → List Int)) (H : Heap) (locs : List Loc) (ls : Array Slot) => match x with | (i, st, ln, pl, m0, m1, m2, h0, h1, h2, Ls) => (i ≤ T.length) ∧ (0 ≤ st ∧ st ≤ 4) ∧ (0 ≤ ln ∧ ln ≤ 2) ∧ (0 ≤ pl ∧ pl ≤ 99 ∧ (st = 3 → pl ≤ 9) ∧ (st = 1 ∨ st = 2 → pl = 0)) ∧ (runS st (T.drop i) = 3 ∨ runS st (T.drop i) = 4) ∧ (putS 0 0 0 (fun _ => []) T = putS st ln pl Ls (T.drop i)) ∧ (laneOk h0 m0 (Ls 0)) ∧ (laneOk h1 m1 (Ls 1)) ∧ (laneOk h2 m2 (Ls 2)) ∧ (chainS (-5) (Ls 0)) ∧ (chainS (-5) (Ls 1)) ∧ (chainS (-5) (Ls 2)) ∧ va_P D vwCl [(tx, .inr (1, [.ref cd, .int (nZ (↑T.length : Int))])), (cd, .inl (k 0, 60, .inl (zA ct))), (la, .inr (3, [.ref l0, .ref l1, .ref l2])), (l0, .inr (2, [.ref a0, .int (nZ m0)])), (a0, .inl (k 0, 21, .inl (zA h0))), (l1, .inr (2, [.ref a1, .int (nZ m1)])), (a1, .inl (k 0, 21, .inl (zA h1))), (l2, .inr (2, [.ref a2, .int (nZ m2)])), (a2, .inl (k 0, 21, .inl (zA h2)))] H ∧ va_D A [(tx, .inr (1, [.ref cd, .int (nZ (↑T.length : Int))])), (cd, .inl (k 0, 60, .inl (zA ct))), (la, .inr (3, [.ref l0, .ref l1, .ref l2])), (l0, .inr (2, [.ref a0, .int (nZ m0)])), (a0, .inl (k 0, 21, .inl (zA h0))), (l1, .inr (2, [.ref a1, .int (nZ m1)])), (a1, .inl (k 0, 21, .inl (zA h1))), (l2, .inr (2, [.ref a2, .int (nZ m2)])), (a2, .inl (k 0, 21, .inl (zA h2)))] ∧ va_S A s9.heap H locs ∧ lv_has ls 7 [(0, .ref tx), (1, .ref la), (2, .int (nZ st)), (3, .int (nZ ln)), (4, .int (nZ pl)), (5, .int (nZ ↑i))]) (fun (x : Nat × Int × Int × Int × Int × Int × Int × (Nat → Int) × (Nat → Int) × (Nat → Int) × (Nat → List Int)) => match x with | (i, st, ln, pl, m0, m1, m2, h0, h1, h2, Ls) => T.length - i) ?_ (0, 0, 0, 0, 0, 0, 0, g0, g1, g2, (fun _ => [])) ⟨(by exact Nat.zero_le _), (by first | omega | assumption | rfl), (by first | omega | assumption | rfl), (by omega), (by exact hwh), (by rfl), (by exact laneOk.nil _), (by exact laneOk.nil _), (by exact laneOk.nil _), (by trivial), (by trivial), (by trivial), hP, hD, hS, (lv_sub hl [4, 5, 3, 2, 1, 0] rfl)⟩
  rintro ⟨i, st, ln, pl, m0, m1, m2, h0, h1, h2, Ls⟩ H locs ls ⟨hi, hst, hln, hpl, hrun, hq, hM0, hM1, hM2, hC0, hC1, hC2, hP, hD, hS, hl⟩ ih_14
  refine lv_iload hX hB dX1_putOn_14 (lv_at hl 5 rfl) ?_
  refine lv_aload_n hX hB dX1_putOn_16 rfl (lv_at hl 0 rfl) ?_
  refine va_get hX hB hz inlX1 hW hK.1 hP 0 rfl rfl 1 (by decide) (hz _ zw_331) (fun _ h9 => h9) rfl dX1_putOn_17 ?_
  refine zz_icmp_ge X (tgt := 106) dX1_putOn_20 (by decide) ⟨by omega, by omega⟩ ⟨by omega, by omega⟩ (fun c_20 => ?_) (fun c_20 => ?_)
  · rcases (by omega : ln = 0 ∨ ln = 1 ∨ ln = 2) with rfl | rfl | rfl
    · refine lv_aload_n hX hB dX1_putOn_106 rfl (lv_at hl 1 rfl) ?_
      refine lv_iload_n hX hB dX1_putOn_107 rfl (lv_at hl 3 rfl) ?_
      refine zCallR0 (zRunVN (As := [.int (nZ 0)]) X mv_X3_lane (c_X3_lane_0 l D k _ la l0 l1 l2 ) (zn_X1_36 hK.2.1) (zPreV hP hD hK [2] rfl rfl 2 3 rfl rfl rfl) rfl hl (Nat.le_of_ble_eq_true rfl) dX1_putOn_108 ⟨rfl, rfl, ⟨Nat.le_of_ble_eq_true rfl, Nat.le_of_ble_eq_true rfl⟩, Nat.le_of_ble_eq_true rfl, Nat.le_of_ble_eq_true rfl⟩ rfl) hS hP hD hA [2] rfl (fun _ _ => rfl) (fun u_108 ra_108 H locs hq_108 hrel_108 hP hD hS => ?_)
      have hrx_108 : l0 = ra_108 := (hrel_108).symm
      subst hrx_108
      have hP : va_P D vwCl [(tx, .inr (1, [.ref cd, .int (nZ (↑T.length : Int))])), (cd, .inl (k 0, 60, .inl (zA ct))), (la, .inr (3, [.ref l0, .ref l1, .ref l2])), (l0, .inr (2, [.ref a0, .int (nZ m0)])), (a0, .inl (k 0, 21, .inl (zA h0))), (l1, .inr (2, [.ref a1, .int (nZ m1)])), (a1, .inl (k 0, 21, .inl (zA h1))), (l2, .inr (2, [.ref a2, .int (nZ m2)])), (a2, .inl (k 0, 21, .inl (zA h2)))] H := hP
      have hD : va_D A [(tx, .inr (1, [.ref cd, .int (nZ (↑T.length : Int))])), (cd, .inl (k 0, 60, .inl (zA ct))), (la, .inr (3, [.ref l0, .ref l1, .ref l2])), (l0, .inr (2, [.ref a0, .int (nZ m0)])), (a0, .inl (k 0, 21, .inl (zA h0))), (l1, .inr (2, [.ref a1, .int (nZ m1)])), (a1, .inl (k 0, 21, .inl (zA h1))), (l2, .inr (2, [.ref a2, .int (nZ m2)])), (a2, .inl (k 0, 21, .inl (zA h2)))] := hD
      refine lv_iload hX hB dX1_putOn_111 (lv_at hl 4 rfl) ?_
      refine zCallI0 (zRunVN (As := [.int (nZ pl)]) X mv_X2_insert (c_X2_insert l D k _ l0 a0 m0 h0 (Ls 0) pl hM0 (by first | assumption | omega | exact ⟨by omega, by omega⟩) (by first | exact chain_len hC0 | exact chain_len hC1 | exact chain_len hC2) (by first | exact chain_sorted hC0 | exact chain_sorted hC1 | exact chain_sorted hC2)) (zn_X1_40 hK.2.1) (zPreV hP hD hK [3, 4] rfl rfl 3 2 rfl rfl rfl) rfl hl (Nat.le_of_ble_eq_true rfl) dX1_putOn_113 ⟨rfl, rfl, ⟨Nat.le_of_ble_eq_true rfl, Nat.le_of_ble_eq_true rfl⟩, Nat.le_of_ble_eq_true rfl, Nat.le_of_ble_eq_true rfl⟩ rfl) hS hP hD hA [3, 4] rfl (fun _ => rfl) (fun r_113 u_113 H locs hq_113 hP hD hS => ?_)
      obtain ⟨g2_113, n2_113⟩ := u_113
      obtain ⟨rfl, hL2_113⟩ := hq_113
      try dsimp only at hL2_113
      have hP : va_P D vwCl [(tx, .inr (1, [.ref cd, .int (nZ (↑T.length : Int))])), (cd, .inl (k 0, 60, .inl (zA ct))), (la, .inr (3, [.ref l0, .ref l1, .ref l2])), (l0, .inr (2, [.ref a0, .int (nZ n2_113)])), (a0, .inl (k 0, 21, .inl (zA g2_113))), (l1, .inr (2, [.ref a1, .int (nZ m1)])), (a1, .inl (k 0, 21, .inl (zA h1))), (l2, .inr (2, [.ref a2, .int (nZ m2)])), (a2, .inl (k 0, 21, .inl (zA h2)))] H := hP
      have hD : va_D A [(tx, .inr (1, [.ref cd, .int (nZ (↑T.length : Int))])), (cd, .inl (k 0, 60, .inl (zA ct))), (la, .inr (3, [.ref l0, .ref l1, .ref l2])), (l0, .inr (2, [.ref a0, .int (nZ n2_113)])), (a0, .inl (k 0, 21, .inl (zA g2_113))), (l1, .inr (2, [.ref a1, .int (nZ m1)])), (a1, .inl (k 0, 21, .inl (zA h1))), (l2, .inr (2, [.ref a2, .int (nZ m2)])), (a2, .inl (k 0, 21, .inl (zA h2)))] := hD
      exact zRetZ (n2_113, m1, m2, g2_113, h1, h2) X hP hD hS (by split <;> simp) rfl ⟨by rw [hq, List.drop_eq_nil_of_le (by omega)]; congr 1; first | exact lay_res 0 pl Ls | exact lay_res 1 pl Ls | exact lay_res 2 pl Ls, by first | exact (fun Ls2 h8 => by rw [hq, List.drop_eq_nil_of_le (by omega)] at h8; have h9 := lay_some (j := 0) h8; rw [h9.2]; exact ⟨ins_fact h9.1 hL2_113, hM1, hM2, ins_chn hC0 (by omega) h9.1, hC1, hC2⟩) | exact (fun Ls2 h8 => by rw [hq, List.drop_eq_nil_of_le (by omega)] at h8; have h9 := lay_some (j := 1) h8; rw [h9.2]; exact ⟨hM0, ins_fact h9.1 hL2_113, hM2, hC0, ins_chn hC1 (by omega) h9.1, hC2⟩) | exact (fun Ls2 h8 => by rw [hq, List.drop_eq_nil_of_le (by omega)] at h8; have h9 := lay_some (j := 2) h8; rw [h9.2]; exact ⟨hM0, hM1, ins_fact h9.1 hL2_113, hC0, hC1, ins_chn hC2 (by omega) h9.1⟩)⟩ dX1_putOn_116
    · refine lv_aload_n hX hB dX1_putOn_106 rfl (lv_at hl 1 rfl) ?_
      refine lv_iload_n hX hB dX1_putOn_107 rfl (lv_at hl 3 rfl) ?_
      refine zCallR0 (zRunVN (As := [.int (nZ 1)]) X mv_X3_lane (c_X3_lane_1 l D k _ la l0 l1 l2 ) (zn_X1_36 hK.2.1) (zPreV hP hD hK [2] rfl rfl 2 3 rfl rfl rfl) rfl hl (Nat.le_of_ble_eq_true rfl) dX1_putOn_108 ⟨rfl, rfl, ⟨Nat.le_of_ble_eq_true rfl, Nat.le_of_ble_eq_true rfl⟩, Nat.le_of_ble_eq_true rfl, Nat.le_of_ble_eq_true rfl⟩ rfl) hS hP hD hA [2] rfl (fun _ _ => rfl) (fun u_108 ra_108 H locs hq_108 hrel_108 hP hD hS => ?_)
      have hrx_108 : l1 = ra_108 := (hrel_108).symm
      subst hrx_108
      have hP : va_P D vwCl [(tx, .inr (1, [.ref cd, .int (nZ (↑T.length : Int))])), (cd, .inl (k 0, 60, .inl (zA ct))), (la, .inr (3, [.ref l0, .ref l1, .ref l2])), (l0, .inr (2, [.ref a0, .int (nZ m0)])), (a0, .inl (k 0, 21, .inl (zA h0))), (l1, .inr (2, [.ref a1, .int (nZ m1)])), (a1, .inl (k 0, 21, .inl (zA h1))), (l2, .inr (2, [.ref a2, .int (nZ m2)])), (a2, .inl (k 0, 21, .inl (zA h2)))] H := hP
      have hD : va_D A [(tx, .inr (1, [.ref cd, .int (nZ (↑T.length : Int))])), (cd, .inl (k 0, 60, .inl (zA ct))), (la, .inr (3, [.ref l0, .ref l1, .ref l2])), (l0, .inr (2, [.ref a0, .int (nZ m0)])), (a0, .inl (k 0, 21, .inl (zA h0))), (l1, .inr (2, [.ref a1, .int (nZ m1)])), (a1, .inl (k 0, 21, .inl (zA h1))), (l2, .inr (2, [.ref a2, .int (nZ m2)])), (a2, .inl (k 0, 21, .inl (zA h2)))] := hD
      refine lv_iload hX hB dX1_putOn_111 (lv_at hl 4 rfl) ?_
      refine zCallI0 (zRunVN (As := [.int (nZ pl)]) X mv_X2_insert (c_X2_insert l D k _ l1 a1 m1 h1 (Ls 1) pl hM1 (by first | assumption | omega | exact ⟨by omega, by omega⟩) (by first | exact chain_len hC0 | exact chain_len hC1 | exact chain_len hC2) (by first | exact chain_sorted hC0 | exact chain_sorted hC1 | exact chain_sorted hC2)) (zn_X1_40 hK.2.1) (zPreV hP hD hK [5, 6] rfl rfl 5 2 rfl rfl rfl) rfl hl (Nat.le_of_ble_eq_true rfl) dX1_putOn_113 ⟨rfl, rfl, ⟨Nat.le_of_ble_eq_true rfl, Nat.le_of_ble_eq_true rfl⟩, Nat.le_of_ble_eq_true rfl, Nat.le_of_ble_eq_true rfl⟩ rfl) hS hP hD hA [5, 6] rfl (fun _ => rfl) (fun r_113 u_113 H locs hq_113 hP hD hS => ?_)
      obtain ⟨g2_113, n2_113⟩ := u_113
      obtain ⟨rfl, hL2_113⟩ := hq_113
      try dsimp only at hL2_113
      have hP : va_P D vwCl [(tx, .inr (1, [.ref cd, .int (nZ (↑T.length : Int))])), (cd, .inl (k 0, 60, .inl (zA ct))), (la, .inr (3, [.ref l0, .ref l1, .ref l2])), (l0, .inr (2, [.ref a0, .int (nZ m0)])), (a0, .inl (k 0, 21, .inl (zA h0))), (l1, .inr (2, [.ref a1, .int (nZ n2_113)])), (a1, .inl (k 0, 21, .inl (zA g2_113))), (l2, .inr (2, [.ref a2, .int (nZ m2)])), (a2, .inl (k 0, 21, .inl (zA h2)))] H := hP
      have hD : va_D A [(tx, .inr (1, [.ref cd, .int (nZ (↑T.length : Int))])), (cd, .inl (k 0, 60, .inl (zA ct))), (la, .inr (3, [.ref l0, .ref l1, .ref l2])), (l0, .inr (2, [.ref a0, .int (nZ m0)])), (a0, .inl (k 0, 21, .inl (zA h0))), (l1, .inr (2, [.ref a1, .int (nZ n2_113)])), (a1, .inl (k 0, 21, .inl (zA g2_113))), (l2, .inr (2, [.ref a2, .int (nZ m2)])), (a2, .inl (k 0, 21, .inl (zA h2)))] := hD
      exact zRetZ (m0, n2_113, m2, h0, g2_113, h2) X hP hD hS (by split <;> simp) rfl ⟨by rw [hq, List.drop_eq_nil_of_le (by omega)]; congr 1; first | exact lay_res 0 pl Ls | exact lay_res 1 pl Ls | exact lay_res 2 pl Ls, by first | exact (fun Ls2 h8 => by rw [hq, List.drop_eq_nil_of_le (by omega)] at h8; have h9 := lay_some (j := 0) h8; rw [h9.2]; exact ⟨ins_fact h9.1 hL2_113, hM1, hM2, ins_chn hC0 (by omega) h9.1, hC1, hC2⟩) | exact (fun Ls2 h8 => by rw [hq, List.drop_eq_nil_of_le (by omega)] at h8; have h9 := lay_some (j := 1) h8; rw [h9.2]; exact ⟨hM0, ins_fact h9.1 hL2_113, hM2, hC0, ins_chn hC1 (by omega) h9.1, hC2⟩) | exact (fun Ls2 h8 => by rw [hq, List.drop_eq_nil_of_le (by omega)] at h8; have h9 := lay_some (j := 2) h8; rw [h9.2]; exact ⟨hM0, hM1, ins_fact h9.1 hL2_113, hC0, hC1, ins_chn hC2 (by omega) h9.1⟩)⟩ dX1_putOn_116
    · refine lv_aload_n hX hB dX1_putOn_106 rfl (lv_at hl 1 rfl) ?_
      refine lv_iload_n hX hB dX1_putOn_107 rfl (lv_at hl 3 rfl) ?_
      refine zCallR0 (zRunVN (As := [.int (nZ 2)]) X mv_X3_lane (c_X3_lane_2 l D k _ la l0 l1 l2 ) (zn_X1_36 hK.2.1) (zPreV hP hD hK [2] rfl rfl 2 3 rfl rfl rfl) rfl hl (Nat.le_of_ble_eq_true rfl) dX1_putOn_108 ⟨rfl, rfl, ⟨Nat.le_of_ble_eq_true rfl, Nat.le_of_ble_eq_true rfl⟩, Nat.le_of_ble_eq_true rfl, Nat.le_of_ble_eq_true rfl⟩ rfl) hS hP hD hA [2] rfl (fun _ _ => rfl) (fun u_108 ra_108 H locs hq_108 hrel_108 hP hD hS => ?_)
      have hrx_108 : l2 = ra_108 := (hrel_108).symm
      subst hrx_108
      have hP : va_P D vwCl [(tx, .inr (1, [.ref cd, .int (nZ (↑T.length : Int))])), (cd, .inl (k 0, 60, .inl (zA ct))), (la, .inr (3, [.ref l0, .ref l1, .ref l2])), (l0, .inr (2, [.ref a0, .int (nZ m0)])), (a0, .inl (k 0, 21, .inl (zA h0))), (l1, .inr (2, [.ref a1, .int (nZ m1)])), (a1, .inl (k 0, 21, .inl (zA h1))), (l2, .inr (2, [.ref a2, .int (nZ m2)])), (a2, .inl (k 0, 21, .inl (zA h2)))] H := hP
      have hD : va_D A [(tx, .inr (1, [.ref cd, .int (nZ (↑T.length : Int))])), (cd, .inl (k 0, 60, .inl (zA ct))), (la, .inr (3, [.ref l0, .ref l1, .ref l2])), (l0, .inr (2, [.ref a0, .int (nZ m0)])), (a0, .inl (k 0, 21, .inl (zA h0))), (l1, .inr (2, [.ref a1, .int (nZ m1)])), (a1, .inl (k 0, 21, .inl (zA h1))), (l2, .inr (2, [.ref a2, .int (nZ m2)])), (a2, .inl (k 0, 21, .inl (zA h2)))] := hD
      refine lv_iload hX hB dX1_putOn_111 (lv_at hl 4 rfl) ?_
      refine zCallI0 (zRunVN (As := [.int (nZ pl)]) X mv_X2_insert (c_X2_insert l D k _ l2 a2 m2 h2 (Ls 2) pl hM2 (by first | assumption | omega | exact ⟨by omega, by omega⟩) (by first | exact chain_len hC0 | exact chain_len hC1 | exact chain_len hC2) (by first | exact chain_sorted hC0 | exact chain_sorted hC1 | exact chain_sorted hC2)) (zn_X1_40 hK.2.1) (zPreV hP hD hK [7, 8] rfl rfl 7 2 rfl rfl rfl) rfl hl (Nat.le_of_ble_eq_true rfl) dX1_putOn_113 ⟨rfl, rfl, ⟨Nat.le_of_ble_eq_true rfl, Nat.le_of_ble_eq_true rfl⟩, Nat.le_of_ble_eq_true rfl, Nat.le_of_ble_eq_true rfl⟩ rfl) hS hP hD hA [7, 8] rfl (fun _ => rfl) (fun r_113 u_113 H locs hq_113 hP hD hS => ?_)
      obtain ⟨g2_113, n2_113⟩ := u_113
      obtain ⟨rfl, hL2_113⟩ := hq_113
      try dsimp only at hL2_113
      have hP : va_P D vwCl [(tx, .inr (1, [.ref cd, .int (nZ (↑T.length : Int))])), (cd, .inl (k 0, 60, .inl (zA ct))), (la, .inr (3, [.ref l0, .ref l1, .ref l2])), (l0, .inr (2, [.ref a0, .int (nZ m0)])), (a0, .inl (k 0, 21, .inl (zA h0))), (l1, .inr (2, [.ref a1, .int (nZ m1)])), (a1, .inl (k 0, 21, .inl (zA h1))), (l2, .inr (2, [.ref a2, .int (nZ n2_113)])), (a2, .inl (k 0, 21, .inl (zA g2_113)))] H := hP
      have hD : va_D A [(tx, .inr (1, [.ref cd, .int (nZ (↑T.length : Int))])), (cd, .inl (k 0, 60, .inl (zA ct))), (la, .inr (3, [.ref l0, .ref l1, .ref l2])), (l0, .inr (2, [.ref a0, .int (nZ m0)])), (a0, .inl (k 0, 21, .inl (zA h0))), (l1, .inr (2, [.ref a1, .int (nZ m1)])), (a1, .inl (k 0, 21, .inl (zA h1))), (l2, .inr (2, [.ref a2, .int (nZ n2_113)])), (a2, .inl (k 0, 21, .inl (zA g2_113)))] := hD
      exact zRetZ (m0, m1, n2_113, h0, h1, g2_113) X hP hD hS (by split <;> simp) rfl ⟨by rw [hq, List.drop_eq_nil_of_le (by omega)]; congr 1; first | exact lay_res 0 pl Ls | exact lay_res 1 pl Ls | exact lay_res 2 pl Ls, by first | exact (fun Ls2 h8 => by rw [hq, List.drop_eq_nil_of_le (by omega)] at h8; have h9 := lay_some (j := 0) h8; rw [h9.2]; exact ⟨ins_fact h9.1 hL2_113, hM1, hM2, ins_chn hC0 (by omega) h9.1, hC1, hC2⟩) | exact (fun Ls2 h8 => by rw [hq, List.drop_eq_nil_of_le (by omega)] at h8; have h9 := lay_some (j := 1) h8; rw [h9.2]; exact ⟨hM0, ins_fact h9.1 hL2_113, hM2, hC0, ins_chn hC1 (by omega) h9.1, hC2⟩) | exact (fun Ls2 h8 => by rw [hq, List.drop_eq_nil_of_le (by omega)] at h8; have h9 := lay_some (j := 2) h8; rw [h9.2]; exact ⟨hM0, hM1, ins_fact h9.1 hL2_113, hC0, hC1, ins_chn hC2 (by omega) h9.1⟩)⟩ dX1_putOn_116
  · refine lv_aload_n hX hB dX1_putOn_23 rfl (lv_at hl 0 rfl) ?_
    refine lv_iload hX hB dX1_putOn_24 (lv_at hl 5 rfl) ?_
    refine zCallI0 (zRunV (As := [.int (nZ ↑i)]) X mv_X1_codeAt (c_X1_codeAt l D k _ tx cd (↑T.length : Int) ct T ↑i hT (by first | assumption | omega | exact ⟨by omega, by omega⟩)) zw_355 (zPreV hP hD hK [0, 1] rfl rfl 0 1 rfl rfl rfl) rfl hl (Nat.le_of_ble_eq_true rfl) dX1_putOn_26 ⟨rfl, rfl, ⟨Nat.le_of_ble_eq_true rfl, Nat.le_of_ble_eq_true rfl⟩, Nat.le_of_ble_eq_true rfl, Nat.le_of_ble_eq_true rfl⟩ rfl) hS hP hD hA [0, 1] rfl (fun _ => rfl) (fun r_26 u_26 H locs hq_26 hP hD hS => ?_)
    subst hq_26
    have hP : va_P D vwCl [(tx, .inr (1, [.ref cd, .int (nZ (↑T.length : Int))])), (cd, .inl (k 0, 60, .inl (zA ct))), (la, .inr (3, [.ref l0, .ref l1, .ref l2])), (l0, .inr (2, [.ref a0, .int (nZ m0)])), (a0, .inl (k 0, 21, .inl (zA h0))), (l1, .inr (2, [.ref a1, .int (nZ m1)])), (a1, .inl (k 0, 21, .inl (zA h1))), (l2, .inr (2, [.ref a2, .int (nZ m2)])), (a2, .inl (k 0, 21, .inl (zA h2)))] H := hP
    have hD : va_D A [(tx, .inr (1, [.ref cd, .int (nZ (↑T.length : Int))])), (cd, .inl (k 0, 60, .inl (zA ct))), (la, .inr (3, [.ref l0, .ref l1, .ref l2])), (l0, .inr (2, [.ref a0, .int (nZ m0)])), (a0, .inl (k 0, 21, .inl (zA h0))), (l1, .inr (2, [.ref a1, .int (nZ m1)])), (a1, .inl (k 0, 21, .inl (zA h1))), (l2, .inr (2, [.ref a2, .int (nZ m2)])), (a2, .inl (k 0, 21, .inl (zA h2)))] := hD
    refine lv_istore (lv' := [(6, .int (nZ (codeS T (↑i : Int)))), (0, .ref tx), (1, .ref la), (2, .int (nZ st)), (3, .int (nZ ln)), (4, .int (nZ pl)), (5, .int (nZ ↑i))]) hX hB dX1_putOn_29 hl (by decide) rfl (fun ls hl => ?_)
    have hx0 : codeS T (↑i : Int) = T.getD i 0 := codeS_nat (by omega)
    obtain ⟨_, hx1, hx2⟩ := hT.at (by omega : i < T.length)
    have hxe := (hT.at (by omega : i < T.length)).1
    have hnr := nextS_rng st (codeS T (↑i : Int))
    rw [runS_step (by omega), ← hx0] at hrun
    have hnb : nextS st (codeS T (↑i : Int)) ≠ -1 := (fun h9 => by rw [h9, runS_bad] at hrun; omega)
    have hnx := nextS_cases hst hnb
    refine lv_iload_n hX hB dX1_putOn_31 rfl (lv_at hl 3 rfl) ?_
    refine zz_if_ne X (tgt := 47) dX1_putOn_32 (by decide) ⟨by omega, by omega⟩ (fun c_32 => ?_) (fun c_32 => ?_)
    · refine lv_iload hX hB dX1_putOn_47 (lv_at hl 0 rfl) ?_
      refine zCallI0 (zRunS X ms_X1_isDigit (c_X1_isDigit l D k _ (codeS T (↑i : Int)) (by first | assumption | omega | exact ⟨by omega, by omega⟩)) zw_362 (zPreS hP hD hK [] rfl rfl) rfl hl (Nat.le_of_ble_eq_true rfl) dX1_putOn_49 ⟨rfl, rfl, ⟨Nat.le_of_ble_eq_true rfl, Nat.le_of_ble_eq_true rfl⟩, Nat.le_of_ble_eq_true rfl, Nat.le_of_ble_eq_true rfl⟩ rfl) hS hP hD hA [] rfl (fun _ => rfl) (fun r_49 u_49 H locs hq_49 hP hD hS => ?_)
      subst hq_49
      have hP : va_P D vwCl [(tx, .inr (1, [.ref cd, .int (nZ (↑T.length : Int))])), (cd, .inl (k 0, 60, .inl (zA ct))), (la, .inr (3, [.ref l0, .ref l1, .ref l2])), (l0, .inr (2, [.ref a0, .int (nZ m0)])), (a0, .inl (k 0, 21, .inl (zA h0))), (l1, .inr (2, [.ref a1, .int (nZ m1)])), (a1, .inl (k 0, 21, .inl (zA h1))), (l2, .inr (2, [.ref a2, .int (nZ m2)])), (a2, .inl (k 0, 21, .inl (zA h2)))] H := hP
      have hD : va_D A [(tx, .inr (1, [.ref cd, .int (nZ (↑T.length : Int))])), (cd, .inl (k 0, 60, .inl (zA ct))), (la, .inr (3, [.ref l0, .ref l1, .ref l2])), (l0, .inr (2, [.ref a0, .int (nZ m0)])), (a0, .inl (k 0, 21, .inl (zA h0))), (l1, .inr (2, [.ref a1, .int (nZ m1)])), (a1, .inl (k 0, 21, .inl (zA h1))), (l2, .inr (2, [.ref a2, .int (nZ m2)])), (a2, .inl (k 0, 21, .inl (zA h2)))] := hD
      refine zz_if_eq X (tgt := 71) dX1_putOn_52 (by decide) ⟨by (split <;> omega), by (split <;> omega)⟩ (fun c_52 => ?_) (fun c_52 => ?_)
      · refine lv_iload hX hB dX1_putOn_71 (lv_at hl 0 rfl) ?_
        refine lv_bipush (v := nZ 59) hX hB dX1_putOn_73 (by decide) ?_
        refine zz_icmp_ne X (tgt := 93) dX1_putOn_75 (by decide) ⟨by omega, by omega⟩ ⟨by omega, by omega⟩ (fun c_75 => ?_) (fun c_75 => ?_)
        · refine lv_iload_n hX hB dX1_putOn_93 rfl (lv_at hl 3 rfl) ?_
          refine lv_iload hX hB dX1_putOn_94 (lv_at hl 0 rfl) ?_
          refine zCallI0 (zRunS X ms_X1_next (c_X1_next l D k _ st (codeS T (↑i : Int)) (by first | assumption | omega | exact ⟨by omega, by omega⟩) (by first | assumption | omega | exact ⟨by omega, by omega⟩)) zw_359 (zPreS hP hD hK [] rfl rfl) rfl hl (Nat.le_of_ble_eq_true rfl) dX1_putOn_96 ⟨rfl, rfl, ⟨Nat.le_of_ble_eq_true rfl, Nat.le_of_ble_eq_true rfl⟩, Nat.le_of_ble_eq_true rfl, Nat.le_of_ble_eq_true rfl⟩ rfl) hS hP hD hA [] rfl (fun _ => rfl) (fun r_96 u_96 H locs hq_96 hP hD hS => ?_)
          subst hq_96
          have hP : va_P D vwCl [(tx, .inr (1, [.ref cd, .int (nZ (↑T.length : Int))])), (cd, .inl (k 0, 60, .inl (zA ct))), (la, .inr (3, [.ref l0, .ref l1, .ref l2])), (l0, .inr (2, [.ref a0, .int (nZ m0)])), (a0, .inl (k 0, 21, .inl (zA h0))), (l1, .inr (2, [.ref a1, .int (nZ m1)])), (a1, .inl (k 0, 21, .inl (zA h1))), (l2, .inr (2, [.ref a2, .int (nZ m2)])), (a2, .inl (k 0, 21, .inl (zA h2)))] H := hP
          have hD : va_D A [(tx, .inr (1, [.ref cd, .int (nZ (↑T.length : Int))])), (cd, .inl (k 0, 60, .inl (zA ct))), (la, .inr (3, [.ref l0, .ref l1, .ref l2])), (l0, .inr (2, [.ref a0, .int (nZ m0)])), (a0, .inl (k 0, 21, .inl (zA h0))), (l1, .inr (2, [.ref a1, .int (nZ m1)])), (a1, .inl (k 0, 21, .inl (zA h1))), (l2, .inr (2, [.ref a2, .int (nZ m2)])), (a2, .inl (k 0, 21, .inl (zA h2)))] := hD
          refine lv_istore_n (lv' := [(2, .int (nZ (nextS st (codeS T (↑i : Int))))), (6, .int (nZ (codeS T (↑i : Int)))), (0, .ref tx), (1, .ref la), (3, .int (nZ ln)), (4, .int (nZ pl)), (5, .int (nZ ↑i))]) hX hB dX1_putOn_99 rfl hl (by decide) rfl (fun ls hl => ?_)
          refine lv_iinc (v := nZ (↑(i + 1) : Int)) (lv' := [(5, .int (nZ (↑(i + 1) : Int))), (2, .int (nZ (nextS st (codeS T (↑i : Int))))), (6, .int (nZ (codeS T (↑i : Int)))), (0, .ref tx), (1, .ref la), (3, .int (nZ ln)), (4, .int (nZ pl))]) hX hB dX1_putOn_100 hl (k := 6) rfl (zinc (by omega)) (by decide) rfl (fun ls hl => ?_)
          refine lv_goto (tgt := 14) hX hB dX1_putOn_103 (by decide) ?_
          exact ih_14 ((i + 1), (nextS st (codeS T (↑i : Int))), ln, pl, m0, m1, m2, h0, h1, h2, Ls) _ _ _ ⟨(by first | omega | assumption | rfl), (by omega), (by omega), (by omega), (by exact hrun), (by first | exact hq.trans (putS_a (by omega) hx0 (by omega)) | exact hq.trans (putS_b (by omega) hx0 (by omega) (by omega)) | exact hq.trans (putS_c 0 (by omega) hx0 (by omega) (by omega) (ins_no c_88)) | exact hq.trans (putS_c 1 (by omega) hx0 (by omega) (by omega) (ins_no c_88)) | exact hq.trans (putS_c 2 (by omega) hx0 (by omega) (by omega) (ins_no c_88)) | exact hq.trans (putS_d (by omega) hx0 (by omega) (by omega) (by omega))), (by first | exact hM0 | exact ins_fact c_88 hL2_85), (by first | exact hM1 | exact ins_fact c_88 hL2_85), (by first | exact hM2 | exact ins_fact c_88 hL2_85), (by first | exact hC0 | exact ins_chn hC0 (by omega) c_88), (by first | exact hC1 | exact ins_chn hC1 (by omega) c_88), (by first | exact hC2 | exact ins_chn hC2 (by omega) c_88), hP, hD, hS, (lv_sub hl [3, 4, 1, 5, 6, 0] rfl)⟩ (by dsimp only; omega)
        · rcases (by omega : ln = 0 ∨ ln = 1 ∨ ln = 2) with rfl | rfl | rfl
          · refine lv_aload_n hX hB dX1_putOn_78 rfl (lv_at hl 2 rfl) ?_
            refine lv_iload_n hX hB dX1_putOn_79 rfl (lv_at hl 4 rfl) ?_
            refine zCallR0 (zRunVN (As := [.int (nZ 0)]) X mv_X3_lane (c_X3_lane_0 l D k _ la l0 l1 l2 ) (zn_X1_36 hK.2.1) (zPreV hP hD hK [2] rfl rfl 2 3 rfl rfl rfl) rfl hl (Nat.le_of_ble_eq_true rfl) dX1_putOn_80 ⟨rfl, rfl, ⟨Nat.le_of_ble_eq_true rfl, Nat.le_of_ble_eq_true rfl⟩, Nat.le_of_ble_eq_true rfl, Nat.le_of_ble_eq_true rfl⟩ rfl) hS hP hD hA [2] rfl (fun _ _ => rfl) (fun u_80 ra_80 H locs hq_80 hrel_80 hP hD hS => ?_)
            have hrx_80 : l0 = ra_80 := (hrel_80).symm
            subst hrx_80
            have hP : va_P D vwCl [(tx, .inr (1, [.ref cd, .int (nZ (↑T.length : Int))])), (cd, .inl (k 0, 60, .inl (zA ct))), (la, .inr (3, [.ref l0, .ref l1, .ref l2])), (l0, .inr (2, [.ref a0, .int (nZ m0)])), (a0, .inl (k 0, 21, .inl (zA h0))), (l1, .inr (2, [.ref a1, .int (nZ m1)])), (a1, .inl (k 0, 21, .inl (zA h1))), (l2, .inr (2, [.ref a2, .int (nZ m2)])), (a2, .inl (k 0, 21, .inl (zA h2)))] H := hP
            have hD : va_D A [(tx, .inr (1, [.ref cd, .int (nZ (↑T.length : Int))])), (cd, .inl (k 0, 60, .inl (zA ct))), (la, .inr (3, [.ref l0, .ref l1, .ref l2])), (l0, .inr (2, [.ref a0, .int (nZ m0)])), (a0, .inl (k 0, 21, .inl (zA h0))), (l1, .inr (2, [.ref a1, .int (nZ m1)])), (a1, .inl (k 0, 21, .inl (zA h1))), (l2, .inr (2, [.ref a2, .int (nZ m2)])), (a2, .inl (k 0, 21, .inl (zA h2)))] := hD
            refine lv_iload hX hB dX1_putOn_83 (lv_at hl 5 rfl) ?_
            refine zCallI0 (zRunVN (As := [.int (nZ pl)]) X mv_X2_insert (c_X2_insert l D k _ l0 a0 m0 h0 (Ls 0) pl hM0 (by first | assumption | omega | exact ⟨by omega, by omega⟩) (by first | exact chain_len hC0 | exact chain_len hC1 | exact chain_len hC2) (by first | exact chain_sorted hC0 | exact chain_sorted hC1 | exact chain_sorted hC2)) (zn_X1_40 hK.2.1) (zPreV hP hD hK [3, 4] rfl rfl 3 2 rfl rfl rfl) rfl hl (Nat.le_of_ble_eq_true rfl) dX1_putOn_85 ⟨rfl, rfl, ⟨Nat.le_of_ble_eq_true rfl, Nat.le_of_ble_eq_true rfl⟩, Nat.le_of_ble_eq_true rfl, Nat.le_of_ble_eq_true rfl⟩ rfl) hS hP hD hA [3, 4] rfl (fun _ => rfl) (fun r_85 u_85 H locs hq_85 hP hD hS => ?_)
            obtain ⟨g2_85, n2_85⟩ := u_85
            obtain ⟨rfl, hL2_85⟩ := hq_85
            try dsimp only at hL2_85
            have hP : va_P D vwCl [(tx, .inr (1, [.ref cd, .int (nZ (↑T.length : Int))])), (cd, .inl (k 0, 60, .inl (zA ct))), (la, .inr (3, [.ref l0, .ref l1, .ref l2])), (l0, .inr (2, [.ref a0, .int (nZ n2_85)])), (a0, .inl (k 0, 21, .inl (zA g2_85))), (l1, .inr (2, [.ref a1, .int (nZ m1)])), (a1, .inl (k 0, 21, .inl (zA h1))), (l2, .inr (2, [.ref a2, .int (nZ m2)])), (a2, .inl (k 0, 21, .inl (zA h2)))] H := hP
            have hD : va_D A [(tx, .inr (1, [.ref cd, .int (nZ (↑T.length : Int))])), (cd, .inl (k 0, 60, .inl (zA ct))), (la, .inr (3, [.ref l0, .ref l1, .ref l2])), (l0, .inr (2, [.ref a0, .int (nZ n2_85)])), (a0, .inl (k 0, 21, .inl (zA g2_85))), (l1, .inr (2, [.ref a1, .int (nZ m1)])), (a1, .inl (k 0, 21, .inl (zA h1))), (l2, .inr (2, [.ref a2, .int (nZ m2)])), (a2, .inl (k 0, 21, .inl (zA h2)))] := hD
            refine zz_if_ne X (tgt := 93) dX1_putOn_88 (by decide) ⟨by (split <;> omega), by (split <;> omega)⟩ (fun c_88 => ?_) (fun c_88 => ?_)
            · refine lv_iload_n hX hB dX1_putOn_93 rfl (lv_at hl 3 rfl) ?_
              refine lv_iload hX hB dX1_putOn_94 (lv_at hl 0 rfl) ?_
              refine zCallI0 (zRunS X ms_X1_next (c_X1_next l D k _ st (codeS T (↑i : Int)) (by first | assumption | omega | exact ⟨by omega, by omega⟩) (by first | assumption | omega | exact ⟨by omega, by omega⟩)) zw_359 (zPreS hP hD hK [] rfl rfl) rfl hl (Nat.le_of_ble_eq_true rfl) dX1_putOn_96 ⟨rfl, rfl, ⟨Nat.le_of_ble_eq_true rfl, Nat.le_of_ble_eq_true rfl⟩, Nat.le_of_ble_eq_true rfl, Nat.le_of_ble_eq_true rfl⟩ rfl) hS hP hD hA [] rfl (fun _ => rfl) (fun r_96 u_96 H locs hq_96 hP hD hS => ?_)
              subst hq_96
              have hP : va_P D vwCl [(tx, .inr (1, [.ref cd, .int (nZ (↑T.length : Int))])), (cd, .inl (k 0, 60, .inl (zA ct))), (la, .inr (3, [.ref l0, .ref l1, .ref l2])), (l0, .inr (2, [.ref a0, .int (nZ n2_85)])), (a0, .inl (k 0, 21, .inl (zA g2_85))), (l1, .inr (2, [.ref a1, .int (nZ m1)])), (a1, .inl (k 0, 21, .inl (zA h1))), (l2, .inr (2, [.ref a2, .int (nZ m2)])), (a2, .inl (k 0, 21, .inl (zA h2)))] H := hP
              have hD : va_D A [(tx, .inr (1, [.ref cd, .int (nZ (↑T.length : Int))])), (cd, .inl (k 0, 60, .inl (zA ct))), (la, .inr (3, [.ref l0, .ref l1, .ref l2])), (l0, .inr (2, [.ref a0, .int (nZ n2_85)])), (a0, .inl (k 0, 21, .inl (zA g2_85))), (l1, .inr (2, [.ref a1, .int (nZ m1)])), (a1, .inl (k 0, 21, .inl (zA h1))), (l2, .inr (2, [.ref a2, .int (nZ m2)])), (a2, .inl (k 0, 21, .inl (zA h2)))] := hD
              refine lv_istore_n (lv' := [(2, .int (nZ (nextS st (codeS T (↑i : Int))))), (6, .int (nZ (codeS T (↑i : Int)))), (0, .ref tx), (1, .ref la), (3, .int (nZ 0)), (4, .int (nZ pl)), (5, .int (nZ ↑i))]) hX hB dX1_putOn_99 rfl hl (by decide) rfl (fun ls hl => ?_)
              refine lv_iinc (v := nZ (↑(i + 1) : Int)) (lv' := [(5, .int (nZ (↑(i + 1) : Int))), (2, .int (nZ (nextS st (codeS T (↑i : Int))))), (6, .int (nZ (codeS T (↑i : Int)))), (0, .ref tx), (1, .ref la), (3, .int (nZ 0)), (4, .int (nZ pl))]) hX hB dX1_putOn_100 hl (k := 6) rfl (zinc (by omega)) (by decide) rfl (fun ls hl => ?_)
              refine lv_goto (tgt := 14) hX hB dX1_putOn_103 (by decide) ?_
              exact ih_14 ((i + 1), (nextS st (codeS T (↑i : Int))), 0, pl, n2_85, m1, m2, g2_85, h1, h2, (zU Ls 0 (insS (rankS pl (Ls 0)) pl (Ls 0)))) _ _ _ ⟨(by first | omega | assumption | rfl), (by omega), (by omega), (by omega), (by exact hrun), (by first | exact hq.trans (putS_a (by omega) hx0 (by omega)) | exact hq.trans (putS_b (by omega) hx0 (by omega) (by omega)) | exact hq.trans (putS_c 0 (by omega) hx0 (by omega) (by omega) (ins_no c_88)) | exact hq.trans (putS_c 1 (by omega) hx0 (by omega) (by omega) (ins_no c_88)) | exact hq.trans (putS_c 2 (by omega) hx0 (by omega) (by omega) (ins_no c_88)) | exact hq.trans (putS_d (by omega) hx0 (by omega) (by omega) (by omega))), (by first | exact hM0 | exact ins_fact c_88 hL2_85), (by first | exact hM1 | exact ins_fact c_88 hL2_85), (by first | exact hM2 | exact ins_fact c_88 hL2_85), (by first | exact hC0 | exact ins_chn hC0 (by omega) c_88), (by first | exact hC1 | exact ins_chn hC1 (by omega) c_88), (by first | exact hC2 | exact ins_chn hC2 (by omega) c_88), hP, hD, hS, (lv_sub hl [3, 4, 1, 5, 6, 0] rfl)⟩ (by dsimp only; omega)
            · refine lv_iconst (v := nZ 0) hX hB dX1_putOn_91 rfl ?_
              have hno : putS 0 0 0 (fun _ => []) T = none := by first | exact hq.trans (putS_n 0 (by omega) hx0 (by omega) (by omega) (ins_yes c_88)) | exact hq.trans (putS_n 1 (by omega) hx0 (by omega) (by omega) (ins_yes c_88)) | exact hq.trans (putS_n 2 (by omega) hx0 (by omega) (by omega) (ins_yes c_88))
              exact zRetZ (n2_85, m1, m2, g2_85, h1, h2) X hP hD hS (by first | exact Or.inl rfl | exact Or.inr rfl) rfl ⟨by rw [hno]; rfl, fun Ls h9 => by rw [hno] at h9; cases h9⟩ dX1_putOn_92
          · refine lv_aload_n hX hB dX1_putOn_78 rfl (lv_at hl 2 rfl) ?_
            refine lv_iload_n hX hB dX1_putOn_79 rfl (lv_at hl 4 rfl) ?_
            refine zCallR0 (zRunVN (As := [.int (nZ 1)]) X mv_X3_lane (c_X3_lane_1 l D k _ la l0 l1 l2 ) (zn_X1_36 hK.2.1) (zPreV hP hD hK [2] rfl rfl 2 3 rfl rfl rfl) rfl hl (Nat.le_of_ble_eq_true rfl) dX1_putOn_80 ⟨rfl, rfl, ⟨Nat.le_of_ble_eq_true rfl, Nat.le_of_ble_eq_true rfl⟩, Nat.le_of_ble_eq_true rfl, Nat.le_of_ble_eq_true rfl⟩ rfl) hS hP hD hA [2] rfl (fun _ _ => rfl) (fun u_80 ra_80 H locs hq_80 hrel_80 hP hD hS => ?_)
            have hrx_80 : l1 = ra_80 := (hrel_80).symm
            subst hrx_80
            have hP : va_P D vwCl [(tx, .inr (1, [.ref cd, .int (nZ (↑T.length : Int))])), (cd, .inl (k 0, 60, .inl (zA ct))), (la, .inr (3, [.ref l0, .ref l1, .ref l2])), (l0, .inr (2, [.ref a0, .int (nZ m0)])), (a0, .inl (k 0, 21, .inl (zA h0))), (l1, .inr (2, [.ref a1, .int (nZ m1)])), (a1, .inl (k 0, 21, .inl (zA h1))), (l2, .inr (2, [.ref a2, .int (nZ m2)])), (a2, .inl (k 0, 21, .inl (zA h2)))] H := hP
            have hD : va_D A [(tx, .inr (1, [.ref cd, .int (nZ (↑T.length : Int))])), (cd, .inl (k 0, 60, .inl (zA ct))), (la, .inr (3, [.ref l0, .ref l1, .ref l2])), (l0, .inr (2, [.ref a0, .int (nZ m0)])), (a0, .inl (k 0, 21, .inl (zA h0))), (l1, .inr (2, [.ref a1, .int (nZ m1)])), (a1, .inl (k 0, 21, .inl (zA h1))), (l2, .inr (2, [.ref a2, .int (nZ m2)])), (a2, .inl (k 0, 21, .inl (zA h2)))] := hD
            refine lv_iload hX hB dX1_putOn_83 (lv_at hl 5 rfl) ?_
            refine zCallI0 (zRunVN (As := [.int (nZ pl)]) X mv_X2_insert (c_X2_insert l D k _ l1 a1 m1 h1 (Ls 1) pl hM1 (by first | assumption | omega | exact ⟨by omega, by omega⟩) (by first | exact chain_len hC0 | exact chain_len hC1 | exact chain_len hC2) (by first | exact chain_sorted hC0 | exact chain_sorted hC1 | exact chain_sorted hC2)) (zn_X1_40 hK.2.1) (zPreV hP hD hK [5, 6] rfl rfl 5 2 rfl rfl rfl) rfl hl (Nat.le_of_ble_eq_true rfl) dX1_putOn_85 ⟨rfl, rfl, ⟨Nat.le_of_ble_eq_true rfl, Nat.le_of_ble_eq_true rfl⟩, Nat.le_of_ble_eq_true rfl, Nat.le_of_ble_eq_true rfl⟩ rfl) hS hP hD hA [5, 6] rfl (fun _ => rfl) (fun r_85 u_85 H locs hq_85 hP hD hS => ?_)
            obtain ⟨g2_85, n2_85⟩ := u_85
            obtain ⟨rfl, hL2_85⟩ := hq_85
            try dsimp only at hL2_85
            have hP : va_P D vwCl [(tx, .inr (1, [.ref cd, .int (nZ (↑T.length : Int))])), (cd, .inl (k 0, 60, .inl (zA ct))), (la, .inr (3, [.ref l0, .ref l1, .ref l2])), (l0, .inr (2, [.ref a0, .int (nZ m0)])), (a0, .inl (k 0, 21, .inl (zA h0))), (l1, .inr (2, [.ref a1, .int (nZ n2_85)])), (a1, .inl (k 0, 21, .inl (zA g2_85))), (l2, .inr (2, [.ref a2, .int (nZ m2)])), (a2, .inl (k 0, 21, .inl (zA h2)))] H := hP
            have hD : va_D A [(tx, .inr (1, [.ref cd, .int (nZ (↑T.length : Int))])), (cd, .inl (k 0, 60, .inl (zA ct))), (la, .inr (3, [.ref l0, .ref l1, .ref l2])), (l0, .inr (2, [.ref a0, .int (nZ m0)])), (a0, .inl (k 0, 21, .inl (zA h0))), (l1, .inr (2, [.ref a1, .int (nZ n2_85)])), (a1, .inl (k 0, 21, .inl (zA g2_85))), (l2, .inr (2, [.ref a2, .int (nZ m2)])), (a2, .inl (k 0, 21, .inl (zA h2)))] := hD
            refine zz_if_ne X (tgt := 93) dX1_putOn_88 (by decide) ⟨by (split <;> omega), by (split <;> omega)⟩ (fun c_88 => ?_) (fun c_88 => ?_)
            · refine lv_iload_n hX hB dX1_putOn_93 rfl (lv_at hl 3 rfl) ?_
              refine lv_iload hX hB dX1_putOn_94 (lv_at hl 0 rfl) ?_
              refine zCallI0 (zRunS X ms_X1_next (c_X1_next l D k _ st (codeS T (↑i : Int)) (by first | assumption | omega | exact ⟨by omega, by omega⟩) (by first | assumption | omega | exact ⟨by omega, by omega⟩)) zw_359 (zPreS hP hD hK [] rfl rfl) rfl hl (Nat.le_of_ble_eq_true rfl) dX1_putOn_96 ⟨rfl, rfl, ⟨Nat.le_of_ble_eq_true rfl, Nat.le_of_ble_eq_true rfl⟩, Nat.le_of_ble_eq_true rfl, Nat.le_of_ble_eq_true rfl⟩ rfl) hS hP hD hA [] rfl (fun _ => rfl) (fun r_96 u_96 H locs hq_96 hP hD hS => ?_)
              subst hq_96
              have hP : va_P D vwCl [(tx, .inr (1, [.ref cd, .int (nZ (↑T.length : Int))])), (cd, .inl (k 0, 60, .inl (zA ct))), (la, .inr (3, [.ref l0, .ref l1, .ref l2])), (l0, .inr (2, [.ref a0, .int (nZ m0)])), (a0, .inl (k 0, 21, .inl (zA h0))), (l1, .inr (2, [.ref a1, .int (nZ n2_85)])), (a1, .inl (k 0, 21, .inl (zA g2_85))), (l2, .inr (2, [.ref a2, .int (nZ m2)])), (a2, .inl (k 0, 21, .inl (zA h2)))] H := hP
              have hD : va_D A [(tx, .inr (1, [.ref cd, .int (nZ (↑T.length : Int))])), (cd, .inl (k 0, 60, .inl (zA ct))), (la, .inr (3, [.ref l0, .ref l1, .ref l2])), (l0, .inr (2, [.ref a0, .int (nZ m0)])), (a0, .inl (k 0, 21, .inl (zA h0))), (l1, .inr (2, [.ref a1, .int (nZ n2_85)])), (a1, .inl (k 0, 21, .inl (zA g2_85))), (l2, .inr (2, [.ref a2, .int (nZ m2)])), (a2, .inl (k 0, 21, .inl (zA h2)))] := hD
              refine lv_istore_n (lv' := [(2, .int (nZ (nextS st (codeS T (↑i : Int))))), (6, .int (nZ (codeS T (↑i : Int)))), (0, .ref tx), (1, .ref la), (3, .int (nZ 1)), (4, .int (nZ pl)), (5, .int (nZ ↑i))]) hX hB dX1_putOn_99 rfl hl (by decide) rfl (fun ls hl => ?_)
              refine lv_iinc (v := nZ (↑(i + 1) : Int)) (lv' := [(5, .int (nZ (↑(i + 1) : Int))), (2, .int (nZ (nextS st (codeS T (↑i : Int))))), (6, .int (nZ (codeS T (↑i : Int)))), (0, .ref tx), (1, .ref la), (3, .int (nZ 1)), (4, .int (nZ pl))]) hX hB dX1_putOn_100 hl (k := 6) rfl (zinc (by omega)) (by decide) rfl (fun ls hl => ?_)
              refine lv_goto (tgt := 14) hX hB dX1_putOn_103 (by decide) ?_
              exact ih_14 ((i + 1), (nextS st (codeS T (↑i : Int))), 1, pl, m0, n2_85, m2, h0, g2_85, h2, (zU Ls 1 (insS (rankS pl (Ls 1)) pl (Ls 1)))) _ _ _ ⟨(by first | omega | assumption | rfl), (by omega), (by omega), (by omega), (by exact hrun), (by first | exact hq.trans (putS_a (by omega) hx0 (by omega)) | exact hq.trans (putS_b (by omega) hx0 (by omega) (by omega)) | exact hq.trans (putS_c 0 (by omega) hx0 (by omega) (by omega) (ins_no c_88)) | exact hq.trans (putS_c 1 (by omega) hx0 (by omega) (by omega) (ins_no c_88)) | exact hq.trans (putS_c 2 (by omega) hx0 (by omega) (by omega) (ins_no c_88)) | exact hq.trans (putS_d (by omega) hx0 (by omega) (by omega) (by omega))), (by first | exact hM0 | exact ins_fact c_88 hL2_85), (by first | exact hM1 | exact ins_fact c_88 hL2_85), (by first | exact hM2 | exact ins_fact c_88 hL2_85), (by first | exact hC0 | exact ins_chn hC0 (by omega) c_88), (by first | exact hC1 | exact ins_chn hC1 (by omega) c_88), (by first | exact hC2 | exact ins_chn hC2 (by omega) c_88), hP, hD, hS, (lv_sub hl [3, 4, 1, 5, 6, 0] rfl)⟩ (by dsimp only; omega)
            · refine lv_iconst (v := nZ 0) hX hB dX1_putOn_91 rfl ?_
              have hno : putS 0 0 0 (fun _ => []) T = none := by first | exact hq.trans (putS_n 0 (by omega) hx0 (by omega) (by omega) (ins_yes c_88)) | exact hq.trans (putS_n 1 (by omega) hx0 (by omega) (by omega) (ins_yes c_88)) | exact hq.trans (putS_n 2 (by omega) hx0 (by omega) (by omega) (ins_yes c_88))
              exact zRetZ (m0, n2_85, m2, h0, g2_85, h2) X hP hD hS (by first | exact Or.inl rfl | exact Or.inr rfl) rfl ⟨by rw [hno]; rfl, fun Ls h9 => by rw [hno] at h9; cases h9⟩ dX1_putOn_92
          · refine lv_aload_n hX hB dX1_putOn_78 rfl (lv_at hl 2 rfl) ?_
            refine lv_iload_n hX hB dX1_putOn_79 rfl (lv_at hl 4 rfl) ?_
            refine zCallR0 (zRunVN (As := [.int (nZ 2)]) X mv_X3_lane (c_X3_lane_2 l D k _ la l0 l1 l2 ) (zn_X1_36 hK.2.1) (zPreV hP hD hK [2] rfl rfl 2 3 rfl rfl rfl) rfl hl (Nat.le_of_ble_eq_true rfl) dX1_putOn_80 ⟨rfl, rfl, ⟨Nat.le_of_ble_eq_true rfl, Nat.le_of_ble_eq_true rfl⟩, Nat.le_of_ble_eq_true rfl, Nat.le_of_ble_eq_true rfl⟩ rfl) hS hP hD hA [2] rfl (fun _ _ => rfl) (fun u_80 ra_80 H locs hq_80 hrel_80 hP hD hS => ?_)
            have hrx_80 : l2 = ra_80 := (hrel_80).symm
            subst hrx_80
            have hP : va_P D vwCl [(tx, .inr (1, [.ref cd, .int (nZ (↑T.length : Int))])), (cd, .inl (k 0, 60, .inl (zA ct))), (la, .inr (3, [.ref l0, .ref l1, .ref l2])), (l0, .inr (2, [.ref a0, .int (nZ m0)])), (a0, .inl (k 0, 21, .inl (zA h0))), (l1, .inr (2, [.ref a1, .int (nZ m1)])), (a1, .inl (k 0, 21, .inl (zA h1))), (l2, .inr (2, [.ref a2, .int (nZ m2)])), (a2, .inl (k 0, 21, .inl (zA h2)))] H := hP
            have hD : va_D A [(tx, .inr (1, [.ref cd, .int (nZ (↑T.length : Int))])), (cd, .inl (k 0, 60, .inl (zA ct))), (la, .inr (3, [.ref l0, .ref l1, .ref l2])), (l0, .inr (2, [.ref a0, .int (nZ m0)])), (a0, .inl (k 0, 21, .inl (zA h0))), (l1, .inr (2, [.ref a1, .int (nZ m1)])), (a1, .inl (k 0, 21, .inl (zA h1))), (l2, .inr (2, [.ref a2, .int (nZ m2)])), (a2, .inl (k 0, 21, .inl (zA h2)))] := hD
            refine lv_iload hX hB dX1_putOn_83 (lv_at hl 5 rfl) ?_
            refine zCallI0 (zRunVN (As := [.int (nZ pl)]) X mv_X2_insert (c_X2_insert l D k _ l2 a2 m2 h2 (Ls 2) pl hM2 (by first | assumption | omega | exact ⟨by omega, by omega⟩) (by first | exact chain_len hC0 | exact chain_len hC1 | exact chain_len hC2) (by first | exact chain_sorted hC0 | exact chain_sorted hC1 | exact chain_sorted hC2)) (zn_X1_40 hK.2.1) (zPreV hP hD hK [7, 8] rfl rfl 7 2 rfl rfl rfl) rfl hl (Nat.le_of_ble_eq_true rfl) dX1_putOn_85 ⟨rfl, rfl, ⟨Nat.le_of_ble_eq_true rfl, Nat.le_of_ble_eq_true rfl⟩, Nat.le_of_ble_eq_true rfl, Nat.le_of_ble_eq_true rfl⟩ rfl) hS hP hD hA [7, 8] rfl (fun _ => rfl) (fun r_85 u_85 H locs hq_85 hP hD hS => ?_)
            obtain ⟨g2_85, n2_85⟩ := u_85
            obtain ⟨rfl, hL2_85⟩ := hq_85
            try dsimp only at hL2_85
            have hP : va_P D vwCl [(tx, .inr (1, [.ref cd, .int (nZ (↑T.length : Int))])), (cd, .inl (k 0, 60, .inl (zA ct))), (la, .inr (3, [.ref l0, .ref l1, .ref l2])), (l0, .inr (2, [.ref a0, .int (nZ m0)])), (a0, .inl (k 0, 21, .inl (zA h0))), (l1, .inr (2, [.ref a1, .int (nZ m1)])), (a1, .inl (k 0, 21, .inl (zA h1))), (l2, .inr (2, [.ref a2, .int (nZ n2_85)])), (a2, .inl (k 0, 21, .inl (zA g2_85)))] H := hP
            have hD : va_D A [(tx, .inr (1, [.ref cd, .int (nZ (↑T.length : Int))])), (cd, .inl (k 0, 60, .inl (zA ct))), (la, .inr (3, [.ref l0, .ref l1, .ref l2])), (l0, .inr (2, [.ref a0, .int (nZ m0)])), (a0, .inl (k 0, 21, .inl (zA h0))), (l1, .inr (2, [.ref a1, .int (nZ m1)])), (a1, .inl (k 0, 21, .inl (zA h1))), (l2, .inr (2, [.ref a2, .int (nZ n2_85)])), (a2, .inl (k 0, 21, .inl (zA g2_85)))] := hD
            refine zz_if_ne X (tgt := 93) dX1_putOn_88 (by decide) ⟨by (split <;> omega), by (split <;> omega)⟩ (fun c_88 => ?_) (fun c_88 => ?_)
            · refine lv_iload_n hX hB dX1_putOn_93 rfl (lv_at hl 3 rfl) ?_
              refine lv_iload hX hB dX1_putOn_94 (lv_at hl 0 rfl) ?_
              refine zCallI0 (zRunS X ms_X1_next (c_X1_next l D k _ st (codeS T (↑i : Int)) (by first | assumption | omega | exact ⟨by omega, by omega⟩) (by first | assumption | omega | exact ⟨by omega, by omega⟩)) zw_359 (zPreS hP hD hK [] rfl rfl) rfl hl (Nat.le_of_ble_eq_true rfl) dX1_putOn_96 ⟨rfl, rfl, ⟨Nat.le_of_ble_eq_true rfl, Nat.le_of_ble_eq_true rfl⟩, Nat.le_of_ble_eq_true rfl, Nat.le_of_ble_eq_true rfl⟩ rfl) hS hP hD hA [] rfl (fun _ => rfl) (fun r_96 u_96 H locs hq_96 hP hD hS => ?_)
              subst hq_96
              have hP : va_P D vwCl [(tx, .inr (1, [.ref cd, .int (nZ (↑T.length : Int))])), (cd, .inl (k 0, 60, .inl (zA ct))), (la, .inr (3, [.ref l0, .ref l1, .ref l2])), (l0, .inr (2, [.ref a0, .int (nZ m0)])), (a0, .inl (k 0, 21, .inl (zA h0))), (l1, .inr (2, [.ref a1, .int (nZ m1)])), (a1, .inl (k 0, 21, .inl (zA h1))), (l2, .inr (2, [.ref a2, .int (nZ n2_85)])), (a2, .inl (k 0, 21, .inl (zA g2_85)))] H := hP
              have hD : va_D A [(tx, .inr (1, [.ref cd, .int (nZ (↑T.length : Int))])), (cd, .inl (k 0, 60, .inl (zA ct))), (la, .inr (3, [.ref l0, .ref l1, .ref l2])), (l0, .inr (2, [.ref a0, .int (nZ m0)])), (a0, .inl (k 0, 21, .inl (zA h0))), (l1, .inr (2, [.ref a1, .int (nZ m1)])), (a1, .inl (k 0, 21, .inl (zA h1))), (l2, .inr (2, [.ref a2, .int (nZ n2_85)])), (a2, .inl (k 0, 21, .inl (zA g2_85)))] := hD
              refine lv_istore_n (lv' := [(2, .int (nZ (nextS st (codeS T (↑i : Int))))), (6, .int (nZ (codeS T (↑i : Int)))), (0, .ref tx), (1, .ref la), (3, .int (nZ 2)), (4, .int (nZ pl)), (5, .int (nZ ↑i))]) hX hB dX1_putOn_99 rfl hl (by decide) rfl (fun ls hl => ?_)
              refine lv_iinc (v := nZ (↑(i + 1) : Int)) (lv' := [(5, .int (nZ (↑(i + 1) : Int))), (2, .int (nZ (nextS st (codeS T (↑i : Int))))), (6, .int (nZ (codeS T (↑i : Int)))), (0, .ref tx), (1, .ref la), (3, .int (nZ 2)), (4, .int (nZ pl))]) hX hB dX1_putOn_100 hl (k := 6) rfl (zinc (by omega)) (by decide) rfl (fun ls hl => ?_)
              refine lv_goto (tgt := 14) hX hB dX1_putOn_103 (by decide) ?_
              exact ih_14 ((i + 1), (nextS st (codeS T (↑i : Int))), 2, pl, m0, m1, n2_85, h0, h1, g2_85, (zU Ls 2 (insS (rankS pl (Ls 2)) pl (Ls 2)))) _ _ _ ⟨(by first | omega | assumption | rfl), (by omega), (by omega), (by omega), (by exact hrun), (by first | exact hq.trans (putS_a (by omega) hx0 (by omega)) | exact hq.trans (putS_b (by omega) hx0 (by omega) (by omega)) | exact hq.trans (putS_c 0 (by omega) hx0 (by omega) (by omega) (ins_no c_88)) | exact hq.trans (putS_c 1 (by omega) hx0 (by omega) (by omega) (ins_no c_88)) | exact hq.trans (putS_c 2 (by omega) hx0 (by omega) (by omega) (ins_no c_88)) | exact hq.trans (putS_d (by omega) hx0 (by omega) (by omega) (by omega))), (by first | exact hM0 | exact ins_fact c_88 hL2_85), (by first | exact hM1 | exact ins_fact c_88 hL2_85), (by first | exact hM2 | exact ins_fact c_88 hL2_85), (by first | exact hC0 | exact ins_chn hC0 (by omega) c_88), (by first | exact hC1 | exact ins_chn hC1 (by omega) c_88), (by first | exact hC2 | exact ins_chn hC2 (by omega) c_88), hP, hD, hS, (lv_sub hl [3, 4, 1, 5, 6, 0] rfl)⟩ (by dsimp only; omega)
            · refine lv_iconst (v := nZ 0) hX hB dX1_putOn_91 rfl ?_
              have hno : putS 0 0 0 (fun _ => []) T = none := by first | exact hq.trans (putS_n 0 (by omega) hx0 (by omega) (by omega) (ins_yes c_88)) | exact hq.trans (putS_n 1 (by omega) hx0 (by omega) (by omega) (ins_yes c_88)) | exact hq.trans (putS_n 2 (by omega) hx0 (by omega) (by omega) (ins_yes c_88))
              exact zRetZ (m0, m1, n2_85, h0, h1, g2_85) X hP hD hS (by first | exact Or.inl rfl | exact Or.inr rfl) rfl ⟨by rw [hno]; rfl, fun Ls h9 => by rw [hno] at h9; cases h9⟩ dX1_putOn_92
      · refine lv_bipush (v := nZ 10) hX hB dX1_putOn_55 (by decide) ?_
        refine lv_iload hX hB dX1_putOn_57 (lv_at hl 5 rfl) ?_
        refine zz_imul X dX1_putOn_59 (z := (10 * pl)) (by first | rfl | omega) ?_
        refine lv_iload hX hB dX1_putOn_60 (lv_at hl 0 rfl) ?_
        refine zz_iadd X dX1_putOn_62 (z := ((10 * pl) + (codeS T (↑i : Int)))) (by first | rfl | omega) ?_
        refine lv_bipush (v := nZ 48) hX hB dX1_putOn_63 (by decide) ?_
        refine zz_isub X dX1_putOn_65 (z := (((10 * pl) + (codeS T (↑i : Int))) - 48)) (by first | rfl | omega) ?_
        refine lv_istore (lv' := [(4, .int (nZ (((10 * pl) + (codeS T (↑i : Int))) - 48))), (6, .int (nZ (codeS T (↑i : Int)))), (0, .ref tx), (1, .ref la), (2, .int (nZ st)), (3, .int (nZ ln)), (5, .int (nZ ↑i))]) hX hB dX1_putOn_66 hl (by decide) rfl (fun ls hl => ?_)
        refine lv_goto (tgt := 93) hX hB dX1_putOn_68 (by decide) ?_
        refine lv_iload_n hX hB dX1_putOn_93 rfl (lv_at hl 4 rfl) ?_
        refine lv_iload hX hB dX1_putOn_94 (lv_at hl 1 rfl) ?_
        refine zCallI0 (zRunS X ms_X1_next (c_X1_next l D k _ st (codeS T (↑i : Int)) (by first | assumption | omega | exact ⟨by omega, by omega⟩) (by first | assumption | omega | exact ⟨by omega, by omega⟩)) zw_359 (zPreS hP hD hK [] rfl rfl) rfl hl (Nat.le_of_ble_eq_true rfl) dX1_putOn_96 ⟨rfl, rfl, ⟨Nat.le_of_ble_eq_true rfl, Nat.le_of_ble_eq_true rfl⟩, Nat.le_of_ble_eq_true rfl, Nat.le_of_ble_eq_true rfl⟩ rfl) hS hP hD hA [] rfl (fun _ => rfl) (fun r_96 u_96 H locs hq_96 hP hD hS => ?_)
        subst hq_96
        have hP : va_P D vwCl [(tx, .inr (1, [.ref cd, .int (nZ (↑T.length : Int))])), (cd, .inl (k 0, 60, .inl (zA ct))), (la, .inr (3, [.ref l0, .ref l1, .ref l2])), (l0, .inr (2, [.ref a0, .int (nZ m0)])), (a0, .inl (k 0, 21, .inl (zA h0))), (l1, .inr (2, [.ref a1, .int (nZ m1)])), (a1, .inl (k 0, 21, .inl (zA h1))), (l2, .inr (2, [.ref a2, .int (nZ m2)])), (a2, .inl (k 0, 21, .inl (zA h2)))] H := hP
        have hD : va_D A [(tx, .inr (1, [.ref cd, .int (nZ (↑T.length : Int))])), (cd, .inl (k 0, 60, .inl (zA ct))), (la, .inr (3, [.ref l0, .ref l1, .ref l2])), (l0, .inr (2, [.ref a0, .int (nZ m0)])), (a0, .inl (k 0, 21, .inl (zA h0))), (l1, .inr (2, [.ref a1, .int (nZ m1)])), (a1, .inl (k 0, 21, .inl (zA h1))), (l2, .inr (2, [.ref a2, .int (nZ m2)])), (a2, .inl (k 0, 21, .inl (zA h2)))] := hD
        refine lv_istore_n (lv' := [(2, .int (nZ (nextS st (codeS T (↑i : Int))))), (4, .int (nZ (((10 * pl) + (codeS T (↑i : Int))) - 48))), (6, .int (nZ (codeS T (↑i : Int)))), (0, .ref tx), (1, .ref la), (3, .int (nZ ln)), (5, .int (nZ ↑i))]) hX hB dX1_putOn_99 rfl hl (by decide) rfl (fun ls hl => ?_)
        refine lv_iinc (v := nZ (↑(i + 1) : Int)) (lv' := [(5, .int (nZ (↑(i + 1) : Int))), (2, .int (nZ (nextS st (codeS T (↑i : Int))))), (4, .int (nZ (((10 * pl) + (codeS T (↑i : Int))) - 48))), (6, .int (nZ (codeS T (↑i : Int)))), (0, .ref tx), (1, .ref la), (3, .int (nZ ln))]) hX hB dX1_putOn_100 hl (k := 6) rfl (zinc (by omega)) (by decide) rfl (fun ls hl => ?_)
        refine lv_goto (tgt := 14) hX hB dX1_putOn_103 (by decide) ?_
        exact ih_14 ((i + 1), (nextS st (codeS T (↑i : Int))), ln, (((10 * pl) + (codeS T (↑i : Int))) - 48), m0, m1, m2, h0, h1, h2, Ls) _ _ _ ⟨(by first | omega | assumption | rfl), (by omega), (by omega), (by omega), (by exact hrun), (by first | exact hq.trans (putS_a (by omega) hx0 (by omega)) | exact hq.trans (putS_b (by omega) hx0 (by omega) (by omega)) | exact hq.trans (putS_c 0 (by omega) hx0 (by omega) (by omega) (ins_no c_88)) | exact hq.trans (putS_c 1 (by omega) hx0 (by omega) (by omega) (ins_no c_88)) | exact hq.trans (putS_c 2 (by omega) hx0 (by omega) (by omega) (ins_no c_88)) | exact hq.trans (putS_d (by omega) hx0 (by omega) (by omega) (by omega))), (by first | exact hM0 | exact ins_fact c_88 hL2_85), (by first | exact hM1 | exact ins_fact c_88 hL2_85), (by first | exact hM2 | exact ins_fact c_88 hL2_85), (by first | exact hC0 | exact ins_chn hC0 (by omega) c_88), (by first | exact hC1 | exact ins_chn hC1 (by omega) c_88), (by first | exact hC2 | exact ins_chn hC2 (by omega) c_88), hP, hD, hS, (lv_sub hl [4, 5, 1, 6, 2, 0] rfl)⟩ (by dsimp only; omega)
    · refine lv_iload hX hB dX1_putOn_35 (lv_at hl 0 rfl) ?_
      refine lv_bipush (v := nZ 48) hX hB dX1_putOn_37 (by decide) ?_
      refine zz_isub X dX1_putOn_39 (z := ((codeS T (↑i : Int)) - 48)) (by first | rfl | omega) ?_
      refine lv_istore_n (lv' := [(3, .int (nZ ((codeS T (↑i : Int)) - 48))), (6, .int (nZ (codeS T (↑i : Int)))), (0, .ref tx), (1, .ref la), (2, .int (nZ st)), (4, .int (nZ pl)), (5, .int (nZ ↑i))]) hX hB dX1_putOn_40 rfl hl (by decide) rfl (fun ls hl => ?_)
      refine lv_iconst (v := nZ 0) hX hB dX1_putOn_41 rfl ?_
      refine lv_istore (lv' := [(4, .int (nZ 0)), (3, .int (nZ ((codeS T (↑i : Int)) - 48))), (6, .int (nZ (codeS T (↑i : Int)))), (0, .ref tx), (1, .ref la), (2, .int (nZ st)), (5, .int (nZ ↑i))]) hX hB dX1_putOn_42 hl (by decide) rfl (fun ls hl => ?_)
      refine lv_goto (tgt := 93) hX hB dX1_putOn_44 (by decide) ?_
      refine lv_iload_n hX hB dX1_putOn_93 rfl (lv_at hl 5 rfl) ?_
      refine lv_iload hX hB dX1_putOn_94 (lv_at hl 2 rfl) ?_
      refine zCallI0 (zRunS X ms_X1_next (c_X1_next l D k _ st (codeS T (↑i : Int)) (by first | assumption | omega | exact ⟨by omega, by omega⟩) (by first | assumption | omega | exact ⟨by omega, by omega⟩)) zw_359 (zPreS hP hD hK [] rfl rfl) rfl hl (Nat.le_of_ble_eq_true rfl) dX1_putOn_96 ⟨rfl, rfl, ⟨Nat.le_of_ble_eq_true rfl, Nat.le_of_ble_eq_true rfl⟩, Nat.le_of_ble_eq_true rfl, Nat.le_of_ble_eq_true rfl⟩ rfl) hS hP hD hA [] rfl (fun _ => rfl) (fun r_96 u_96 H locs hq_96 hP hD hS => ?_)
      subst hq_96
      have hP : va_P D vwCl [(tx, .inr (1, [.ref cd, .int (nZ (↑T.length : Int))])), (cd, .inl (k 0, 60, .inl (zA ct))), (la, .inr (3, [.ref l0, .ref l1, .ref l2])), (l0, .inr (2, [.ref a0, .int (nZ m0)])), (a0, .inl (k 0, 21, .inl (zA h0))), (l1, .inr (2, [.ref a1, .int (nZ m1)])), (a1, .inl (k 0, 21, .inl (zA h1))), (l2, .inr (2, [.ref a2, .int (nZ m2)])), (a2, .inl (k 0, 21, .inl (zA h2)))] H := hP
      have hD : va_D A [(tx, .inr (1, [.ref cd, .int (nZ (↑T.length : Int))])), (cd, .inl (k 0, 60, .inl (zA ct))), (la, .inr (3, [.ref l0, .ref l1, .ref l2])), (l0, .inr (2, [.ref a0, .int (nZ m0)])), (a0, .inl (k 0, 21, .inl (zA h0))), (l1, .inr (2, [.ref a1, .int (nZ m1)])), (a1, .inl (k 0, 21, .inl (zA h1))), (l2, .inr (2, [.ref a2, .int (nZ m2)])), (a2, .inl (k 0, 21, .inl (zA h2)))] := hD
      refine lv_istore_n (lv' := [(2, .int (nZ (nextS st (codeS T (↑i : Int))))), (4, .int (nZ 0)), (3, .int (nZ ((codeS T (↑i : Int)) - 48))), (6, .int (nZ (codeS T (↑i : Int)))), (0, .ref tx), (1, .ref la), (5, .int (nZ ↑i))]) hX hB dX1_putOn_99 rfl hl (by decide) rfl (fun ls hl => ?_)
      refine lv_iinc (v := nZ (↑(i + 1) : Int)) (lv' := [(5, .int (nZ (↑(i + 1) : Int))), (2, .int (nZ (nextS st (codeS T (↑i : Int))))), (4, .int (nZ 0)), (3, .int (nZ ((codeS T (↑i : Int)) - 48))), (6, .int (nZ (codeS T (↑i : Int)))), (0, .ref tx), (1, .ref la)]) hX hB dX1_putOn_100 hl (k := 6) rfl (zinc (by omega)) (by decide) rfl (fun ls hl => ?_)
      refine lv_goto (tgt := 14) hX hB dX1_putOn_103 (by decide) ?_
      exact ih_14 ((i + 1), (nextS st (codeS T (↑i : Int))), ((codeS T (↑i : Int)) - 48), 0, m0, m1, m2, h0, h1, h2, Ls) _ _ _ ⟨(by first | omega | assumption | rfl), (by omega), (by omega), (by omega), (by exact hrun), (by first | exact hq.trans (putS_a (by omega) hx0 (by omega)) | exact hq.trans (putS_b (by omega) hx0 (by omega) (by omega)) | exact hq.trans (putS_c 0 (by omega) hx0 (by omega) (by omega) (ins_no c_88)) | exact hq.trans (putS_c 1 (by omega) hx0 (by omega) (by omega) (ins_no c_88)) | exact hq.trans (putS_c 2 (by omega) hx0 (by omega) (by omega) (ins_no c_88)) | exact hq.trans (putS_d (by omega) hx0 (by omega) (by omega) (by omega))), (by first | exact hM0 | exact ins_fact c_88 hL2_85), (by first | exact hM1 | exact ins_fact c_88 hL2_85), (by first | exact hM2 | exact ins_fact c_88 hL2_85), (by first | exact hC0 | exact ins_chn hC0 (by omega) c_88), (by first | exact hC1 | exact ins_chn hC1 (by omega) c_88), (by first | exact hC2 | exact ins_chn hC2 (by omega) c_88), hP, hD, hS, (lv_sub hl [5, 6, 1, 3, 2, 0] rfl)⟩ (by dsimp only; omega)

