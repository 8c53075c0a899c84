theorem mv_X5_roomAhead : zMV yX5_roomAhead cX5_roomAhead 2 (some .int) 0 := ⟨zw_200, zw_24, ⟨by decide +kernel, by decide +kernel, by decide +kernel⟩, zw_198, zw_199⟩
theorem mv_X5_goOn : zMV yX5_goOn cX5_goOn 2 none 1 := ⟨zw_204, zw_24, ⟨by decide +kernel, by decide +kernel, by decide +kernel⟩, zw_202, zw_203⟩
theorem mv_X5_nudgeNext : zMV yX5_nudgeNext cX5_nudgeNext 1 none 0 := ⟨zw_208, zw_24, ⟨by decide +kernel, by decide +kernel, by decide +kernel⟩, zw_206, zw_207⟩
theorem mv_X5_start : zMV yX5_start cX5_start 4 none 3 := ⟨zw_186, zw_24, ⟨by decide +kernel, by decide +kernel, by decide +kernel⟩, zw_184, zw_185⟩
theorem mv_X5_finish : zMV yX5_finish cX5_finish 1 none 0 := ⟨zw_215, zw_24, ⟨by decide +kernel, by decide +kernel, by decide +kernel⟩, zw_213, zw_214⟩
theorem mv_X5_coinByCoin : zMV yX5_coinByCoin cX5_coinByCoin 5 none 3 := ⟨zw_230, zw_24, ⟨by decide +kernel, by decide +kernel, by decide +kernel⟩, zw_228, zw_229⟩
theorem mv_X5_placeByPlace : zMV yX5_placeByPlace cX5_placeByPlace 6 none 3 := ⟨zw_181, zw_24, ⟨by decide +kernel, by decide +kernel, by decide +kernel⟩, zw_179, zw_180⟩
set_option maxHeartbeats 4000000 in
set_option maxRecDepth 100000 in
theorem c_X5_roomAhead (l : Launch) (D : va_G) (k : Nat → ClassId) (sz : Nat) (sh sL sA : Nat) (cost p lf nd fe ta n : Int) (g : Nat → Int) (r : Nat) (M : List Int) (hM : laneOk g n M) (hr : r < M.length) (hp : -5 ≤ p ∧ p ≤ 100) : Met l yX5_roomAhead (zW yX5_roomAhead cX5_roomAhead 2 (some .int)) ({ frames := 1, cells := 0, slots := 0, locals := 21 } : Room) (va_Pc [.ref sh] (zIn D k sz [(sh, .inr (5, [.ref sL, .int (nZ cost), .int (nZ ↑r), .int (nZ p), .int (nZ lf), .int (nZ nd), .int (nZ fe), .int (nZ ta)])), (sL, .inr (2, [.ref sA, .int (nZ n)])), (sA, .inl (k 0, 21, .inl (zA g)))])) (va_Qi (fun (rz : Int32) (uz : Unit) => rz = nZ (roomS M r p)) (fun (uz : Unit) => zOut D (va_A [(sh, .inr (5, [.ref sL, .int (nZ cost), .int (nZ ↑r), .int (nZ p), .int (nZ lf), .int (nZ nd), .int (nZ fe), .int (nZ ta)])), (sL, .inr (2, [.ref sA, .int (nZ n)])), (sA, .inl (k 0, 21, .inl (zA g)))] sz) [(sh, .inr (5, [.ref sL, .int (nZ cost), .int (nZ ↑r), .int (nZ p), .int (nZ lf), .int (nZ nd), .int (nZ fe), .int (nZ ta)])), (sL, .inr (2, [.ref sA, .int (nZ n)])), (sA, .inl (k 0, 21, .inl (zA g)))]) (va_A [(sh, .inr (5, [.ref sL, .int (nZ cost), .int (nZ ↑r), .int (nZ p), .int (nZ lf), .int (nZ nd), .int (nZ fe), .int (nZ ta)])), (sL, .inr (2, [.ref sA, .int (nZ n)])), (sA, .inl (k 0, 21, .inl (zA g)))] sz)) 0 0 (va_A [(sh, .inr (5, [.ref sL, .int (nZ cost), .int (nZ ↑r), .int (nZ p), .int (nZ lf), .int (nZ nd), .int (nZ fe), .int (nZ ta)])), (sL, .inr (2, [.ref sA, .int (nZ n)])), (sA, .inl (k 0, 21, .inl (zA g)))] sz) := by
  refine zEnter (Qf := fun A => va_Qi (fun (rz : Int32) (uz : Unit) => rz = nZ (roomS M r p)) (fun (uz : Unit) => zOut D A [(sh, .inr (5, [.ref sL, .int (nZ cost), .int (nZ ↑r), .int (nZ p), .int (nZ lf), .int (nZ nd), .int (nZ fe), .int (nZ ta)])), (sL, .inr (2, [.ref sA, .int (nZ n)])), (sA, .inl (k 0, 21, .inl (zA g)))]) A) RX5 (by decide) rfl (Nat.le_of_ble_eq_true rfl) ?_
  intro p9 e9 s9 m9 be9 me9 c9 ls A X hin hP hD hS hA hAe hl
  have hX := X.1; have hB := X.2.1; have hz := X.2.2.2.2.1; have hW := X.2.2.2.2.2.1; have hK := X.2.2.2.2.2.2.2; clear hAe
  clear hin
  have hl : lv_has ls 2 [(0, .ref sh)] := hl
  obtain ⟨hn, hlen⟩ := hM.len
  subst hn
  refine lv_aload_n hX hB dX5_roomAhead_0 rfl (lv_at hl 0 rfl) ?_
  refine va_get hX hB hz inlX5 hW hK.1 hP 0 rfl rfl 2 (by decide) (hz _ zw_188) (fun _ h9 => h9) rfl dX5_roomAhead_1 ?_
  refine lv_iconst (v := nZ 1) hX hB dX5_roomAhead_4 rfl ?_
  refine zz_iadd X dX5_roomAhead_5 (z := (↑(r + 1) : Int)) (by first | rfl | omega) ?_
  refine lv_aload_n hX hB dX5_roomAhead_6 rfl (lv_at hl 0 rfl) ?_
  refine va_get hX hB hz inlX5 hW hK.1 hP 0 rfl rfl 0 (by decide) (hz _ zw_65) (fun _ h9 => h9) rfl dX5_roomAhead_7 ?_
  refine va_getN (host := "ShoveBeds") hX hB hz inlX2 hW hK.1 hP 1 rfl rfl 1 (by decide) (zn_X5_66 hK.2.1) (fun _ h9 => h9) rfl dX5_roomAhead_10 ?_
  refine zz_icmp_ge X (tgt := 34) dX5_roomAhead_13 (by decide) ⟨by omega, by omega⟩ ⟨by omega, by omega⟩ (fun c_13 => ?_) (fun c_13 => ?_)
  · refine lv_bipush (v := nZ 100) hX hB dX5_roomAhead_34 (by decide) ?_
    refine lv_istore_n (lv' := [(1, .int (nZ 100)), (0, .ref sh)]) hX hB dX5_roomAhead_36 rfl hl (by decide) rfl (fun ls hl => ?_)
    refine lv_iload_n hX hB dX5_roomAhead_37 rfl (lv_at hl 0 rfl) ?_
    refine lv_aload_n hX hB dX5_roomAhead_38 rfl (lv_at hl 1 rfl) ?_
    refine va_get hX hB hz inlX5 hW hK.1 hP 0 rfl rfl 3 (by decide) (hz _ zw_189) (fun _ h9 => h9) rfl dX5_roomAhead_39 ?_
    refine zz_isub X dX5_roomAhead_42 (z := (100 - p)) (by first | rfl | omega) ?_
    exact zRetI () X hP hD hS rfl (by congr 1; unfold roomS; first | (rw [if_pos (by omega), hq1]) | rw [if_neg (by omega)]) dX5_roomAhead_43
  · refine lv_aload_n hX hB dX5_roomAhead_16 rfl (lv_at hl 0 rfl) ?_
    refine va_get hX hB hz inlX5 hW hK.1 hP 0 rfl rfl 0 (by decide) (hz _ zw_65) (fun _ h9 => h9) rfl dX5_roomAhead_17 ?_
    refine lv_aload_n hX hB dX5_roomAhead_20 rfl (lv_at hl 0 rfl) ?_
    refine va_get hX hB hz inlX5 hW hK.1 hP 0 rfl rfl 2 (by decide) (hz _ zw_188) (fun _ h9 => h9) rfl dX5_roomAhead_21 ?_
    refine lv_iconst (v := nZ 1) hX hB dX5_roomAhead_24 rfl ?_
    refine zz_iadd X dX5_roomAhead_25 (z := (↑(r + 1) : Int)) (by first | rfl | omega) ?_
    refine zCallI0 (zRunVN (As := [.int (nZ (↑(r + 1) : Int))]) X mv_X2_placeAt (c_X2_placeAt l D k _ sL sA (↑M.length : Int) g M (↑(r + 1) : Int) hM (by first | assumption | omega | exact ⟨by omega, by omega⟩)) (zn_X5_69 hK.2.1) (zPreV hP hD hK [1, 2] rfl rfl 1 2 rfl rfl rfl) rfl hl (Nat.le_of_ble_eq_true rfl) dX5_roomAhead_26 ⟨rfl, rfl, ⟨Nat.le_of_ble_eq_true rfl, Nat.le_of_ble_eq_true rfl⟩, Nat.le_of_ble_eq_true rfl, Nat.le_of_ble_eq_true rfl⟩ rfl) hS hP hD hA [1, 2] rfl (fun _ => rfl) (fun r_26 u_26 H locs hq_26 hP hD hS => ?_)
    subst hq_26
    have hP : va_P D vwCl [(sh, .inr (5, [.ref sL, .int (nZ cost), .int (nZ ↑r), .int (nZ p), .int (nZ lf), .int (nZ nd), .int (nZ fe), .int (nZ ta)])), (sL, .inr (2, [.ref sA, .int (nZ (↑M.length : Int))])), (sA, .inl (k 0, 21, .inl (zA g)))] H := hP
    have hD : va_D A [(sh, .inr (5, [.ref sL, .int (nZ cost), .int (nZ ↑r), .int (nZ p), .int (nZ lf), .int (nZ nd), .int (nZ fe), .int (nZ ta)])), (sL, .inr (2, [.ref sA, .int (nZ (↑M.length : Int))])), (sA, .inl (k 0, 21, .inl (zA g)))] := hD
    have hq1 : placeAtS M (↑(r + 1) : Int) = M.getD (r + 1) 0 := placeAtS_nat (by omega)
    obtain ⟨hq2, hq3⟩ := hM.at (by omega : r + 1 < M.length)
    refine lv_iconst (v := nZ 5) hX hB dX5_roomAhead_29 rfl ?_
    refine zz_isub X dX5_roomAhead_30 (z := ((placeAtS M (↑(r + 1) : Int)) - 5)) (by first | rfl | omega) ?_
    refine lv_goto (tgt := 36) hX hB dX5_roomAhead_31 (by decide) ?_
    refine lv_istore_n (lv' := [(1, .int (nZ ((placeAtS M (↑(r + 1) : Int)) - 5))), (0, .ref sh)]) hX hB dX5_roomAhead_36 rfl hl (by decide) rfl (fun ls hl => ?_)
    refine lv_iload_n hX hB dX5_roomAhead_37 rfl (lv_at hl 0 rfl) ?_
    refine lv_aload_n hX hB dX5_roomAhead_38 rfl (lv_at hl 1 rfl) ?_
    refine va_get hX hB hz inlX5 hW hK.1 hP 0 rfl rfl 3 (by decide) (hz _ zw_189) (fun _ h9 => h9) rfl dX5_roomAhead_39 ?_
    refine zz_isub X dX5_roomAhead_42 (z := (((placeAtS M (↑(r + 1) : Int)) - 5) - p)) (by first | rfl | omega) ?_
    exact zRetI () X hP hD hS rfl (by congr 1; unfold roomS; first | (rw [if_pos (by omega), hq1]) | rw [if_neg (by omega)]) dX5_roomAhead_43
set_option maxHeartbeats 4000000 in
set_option maxRecDepth 100000 in
theorem c_X5_goOn (l : Launch) (D : va_G) (k : Nat → ClassId) (sz : Nat) (sh sL : Nat) (cost rk p lf nd fe ta d : Int) (hp : -5 ≤ p ∧ p + d ≤ 1000 ∧ 0 ≤ d) : Met l yX5_goOn (zW yX5_goOn cX5_goOn 2 none) ({ frames := 0, cells := 0, slots := 0, locals := 0 } : Room) (va_Pc [.ref sh, .int (nZ d)] (zIn D k sz [(sh, .inr (5, [.ref sL, .int (nZ cost), .int (nZ rk), .int (nZ p), .int (nZ lf), .int (nZ nd), .int (nZ fe), .int (nZ ta)]))])) (va_Qv (fun (uz : Int) => uz = (if 100 ≤ p + d then 0 else lf - d)) (fun (uz : Int) => zOut D (va_A [(sh, .inr (5, [.ref sL, .int (nZ cost), .int (nZ rk), .int (nZ p), .int (nZ lf), .int (nZ nd), .int (nZ fe), .int (nZ ta)]))] sz) [(sh, .inr (5, [.ref sL, .int (nZ cost), .int (nZ rk), .int (nZ (p + d)), .int (nZ uz), .int (nZ nd), .int (nZ fe), .int (nZ ta)]))]) (va_A [(sh, .inr (5, [.ref sL, .int (nZ cost), .int (nZ rk), .int (nZ p), .int (nZ lf), .int (nZ nd), .int (nZ fe), .int (nZ ta)]))] sz)) 0 0 (va_A [(sh, .inr (5, [.ref sL, .int (nZ cost), .int (nZ rk), .int (nZ p), .int (nZ lf), .int (nZ nd), .int (nZ fe), .int (nZ ta)]))] sz) := by
  refine zEnter (Qf := fun A => va_Qv (fun (uz : Int) => uz = (if 100 ≤ p + d then 0 else lf - d)) (fun (uz : Int) => zOut D A [(sh, .inr (5, [.ref sL, .int (nZ cost), .int (nZ rk), .int (nZ (p + d)), .int (nZ uz), .int (nZ nd), .int (nZ fe), .int (nZ ta)]))]) A) RX5 (by decide) rfl (Nat.le_of_ble_eq_true rfl) ?_
  intro p9 e9 s9 m9 be9 me9 c9 ls A X hin hP hD hS hA hAe hl
  have hX := X.1; have hB := X.2.1; have hz := X.2.2.2.2.1; have hW := X.2.2.2.2.2.1; have hK := X.2.2.2.2.2.2.2; clear hAe
  clear hin
  have hl : lv_has ls 2 [(0, .ref sh), (1, .int (nZ d))] := hl
  refine lv_aload_n hX hB dX5_goOn_0 rfl (lv_at hl 0 rfl) ?_
  refine lv_dup hX hB dX5_goOn_1 rfl ?_
  refine va_get hX hB hz inlX5 hW hK.1 hP 0 rfl rfl 3 (by decide) (hz _ zw_189) (fun _ h9 => h9) rfl dX5_goOn_2 ?_
  refine lv_iload_n hX hB dX5_goOn_5 rfl (lv_at hl 1 rfl) ?_
  refine zz_iadd X dX5_goOn_6 (z := (p + d)) (by first | rfl | omega) ?_
  refine va_put (v := .int (nZ (p + d))) (ty := tyX5 3) hX hB hz inlX5 tyX5 tyX5_ok nmX5 hW hK.1 hP hD hS 0 rfl rfl 3 (by decide) (hz _ zw_189) (fun _ h9 => h9) rfl (by decide +kernel) rfl rfl (Nat.le_of_ble_eq_true rfl) dX5_goOn_7 (fun H locs hP hD hS => ?_)
  have hP : va_P D vwCl [(sh, .inr (5, [.ref sL, .int (nZ cost), .int (nZ rk), .int (nZ (p + d)), .int (nZ lf), .int (nZ nd), .int (nZ fe), .int (nZ ta)]))] H := hP
  have hD : va_D A [(sh, .inr (5, [.ref sL, .int (nZ cost), .int (nZ rk), .int (nZ (p + d)), .int (nZ lf), .int (nZ nd), .int (nZ fe), .int (nZ ta)]))] := hD
  refine lv_aload_n hX hB dX5_goOn_10 rfl (lv_at hl 0 rfl) ?_
  refine lv_dup hX hB dX5_goOn_11 rfl ?_
  refine va_get hX hB hz inlX5 hW hK.1 hP 0 rfl rfl 4 (by decide) (hz _ zw_182) (fun _ h9 => h9) rfl dX5_goOn_12 ?_
  refine lv_iload_n hX hB dX5_goOn_15 rfl (lv_at hl 1 rfl) ?_
  refine zz_isub X dX5_goOn_16 (z := (lf - d)) (by first | rfl | omega) ?_
  refine va_put (v := .int (nZ (lf - d))) (ty := tyX5 4) hX hB hz inlX5 tyX5 tyX5_ok nmX5 hW hK.1 hP hD hS 0 rfl rfl 4 (by decide) (hz _ zw_182) (fun _ h9 => h9) rfl (by decide +kernel) rfl rfl (Nat.le_of_ble_eq_true rfl) dX5_goOn_17 (fun H locs hP hD hS => ?_)
  have hP : va_P D vwCl [(sh, .inr (5, [.ref sL, .int (nZ cost), .int (nZ rk), .int (nZ (p + d)), .int (nZ (lf - d)), .int (nZ nd), .int (nZ fe), .int (nZ ta)]))] H := hP
  have hD : va_D A [(sh, .inr (5, [.ref sL, .int (nZ cost), .int (nZ rk), .int (nZ (p + d)), .int (nZ (lf - d)), .int (nZ nd), .int (nZ fe), .int (nZ ta)]))] := hD
  refine lv_aload_n hX hB dX5_goOn_20 rfl (lv_at hl 0 rfl) ?_
  refine va_get hX hB hz inlX5 hW hK.1 hP 0 rfl rfl 3 (by decide) (hz _ zw_189) (fun _ h9 => h9) rfl dX5_goOn_21 ?_
  refine lv_bipush (v := nZ 100) hX hB dX5_goOn_24 (by decide) ?_
  refine zz_icmp_lt X (tgt := 34) dX5_goOn_26 (by decide) ⟨by omega, by omega⟩ ⟨by omega, by omega⟩ (fun c_26 => ?_) (fun c_26 => ?_)
  · exact zRetV (lf - d) X hP hD hS rfl (by first | rw [if_neg (by omega)] | rw [if_pos (by omega)]) dX5_goOn_34
  · refine lv_aload_n hX hB dX5_goOn_29 rfl (lv_at hl 0 rfl) ?_
    refine lv_iconst (v := nZ 0) hX hB dX5_goOn_30 rfl ?_
    refine va_put (v := .int (nZ 0)) (ty := tyX5 4) hX hB hz inlX5 tyX5 tyX5_ok nmX5 hW hK.1 hP hD hS 0 rfl rfl 4 (by decide) (hz _ zw_182) (fun _ h9 => h9) rfl (by decide +kernel) rfl rfl (Nat.le_of_ble_eq_true rfl) dX5_goOn_31 (fun H locs hP hD hS => ?_)
    have hP : va_P D vwCl [(sh, .inr (5, [.ref sL, .int (nZ cost), .int (nZ rk), .int (nZ (p + d)), .int (nZ 0), .int (nZ nd), .int (nZ fe), .int (nZ ta)]))] H := hP
    have hD : va_D A [(sh, .inr (5, [.ref sL, .int (nZ cost), .int (nZ rk), .int (nZ (p + d)), .int (nZ 0), .int (nZ nd), .int (nZ fe), .int (nZ ta)]))] := hD
    exact zRetV 0 X hP hD hS rfl (by first | rw [if_neg (by omega)] | rw [if_pos (by omega)]) dX5_goOn_34
set_option maxHeartbeats 4000000 in
set_option maxRecDepth 100000 in
theorem c_X5_nudgeNext (l : Launch) (D : va_G) (k : Nat → ClassId) (sz : Nat) (sh sL sA : Nat) (cost p lf nd fe ta n : Int) (g : Nat → Int) (r : Nat) (M : List Int) (hM : laneOk g n M) (hr : r + 1 < M.length) (hp : -5 ≤ p ∧ p ≤ 100) : Met l yX5_nudgeNext (zW yX5_nudgeNext cX5_nudgeNext 1 none) ({ frames := 1, cells := 0, slots := 0, locals := 22 } : Room) (va_Pc [.ref sh] (zIn D k sz [(sh, .inr (5, [.ref sL, .int (nZ cost), .int (nZ ↑r), .int (nZ p), .int (nZ lf), .int (nZ nd), .int (nZ fe), .int (nZ ta)])), (sL, .inr (2, [.ref sA, .int (nZ n)])), (sA, .inl (k 0, 21, .inl (zA g)))])) (va_Qv (fun (uz : Int) => uz = M.getD (r + 1) 0 ∧ laneOk (zU g r p) n (M.set r p)) (fun (uz : Int) => zOut D (va_A [(sh, .inr (5, [.ref sL, .int (nZ cost), .int (nZ ↑r), .int (nZ p), .int (nZ lf), .int (nZ nd), .int (nZ fe), .int (nZ ta)])), (sL, .inr (2, [.ref sA, .int (nZ n)])), (sA, .inl (k 0, 21, .inl (zA g)))] sz) [(sh, .inr (5, [.ref sL, .int (nZ cost), .int (nZ (↑(r + 1))), .int (nZ uz), .int (nZ (lf - cost)), .int (nZ (nd + 1)), .int (nZ fe), .int (nZ ta)])), (sL, .inr (2, [.ref sA, .int (nZ n)])), (sA, .inl (k 0, 21, .inl (zA (zU g r p))))]) (va_A [(sh, .inr (5, [.ref sL, .int (nZ cost), .int (nZ ↑r), .int (nZ p), .int (nZ lf), .int (nZ nd), .int (nZ fe), .int (nZ ta)])), (sL, .inr (2, [.ref sA, .int (nZ n)])), (sA, .inl (k 0, 21, .inl (zA g)))] sz)) 0 0 (va_A [(sh, .inr (5, [.ref sL, .int (nZ cost), .int (nZ ↑r), .int (nZ p), .int (nZ lf), .int (nZ nd), .int (nZ fe), .int (nZ ta)])), (sL, .inr (2, [.ref sA, .int (nZ n)])), (sA, .inl (k 0, 21, .inl (zA g)))] sz) := by
  refine zEnter (Qf := fun A => va_Qv (fun (uz : Int) => uz = M.getD (r + 1) 0 ∧ laneOk (zU g r p) n (M.set r p)) (fun (uz : Int) => zOut D A [(sh, .inr (5, [.ref sL, .int (nZ cost), .int (nZ (↑(r + 1))), .int (nZ uz), .int (nZ (lf - cost)), .int (nZ (nd + 1)), .int (nZ fe), .int (nZ ta)])), (sL, .inr (2, [.ref sA, .int (nZ n)])), (sA, .inl (k 0, 21, .inl (zA (zU g r p))))]) A) RX5 (by decide) rfl (Nat.le_of_ble_eq_true rfl) ?_
  intro p9 e9 s9 m9 be9 me9 c9 ls A X hin hP hD hS hA hAe hl
  have hX := X.1; have hB := X.2.1; have hz := X.2.2.2.2.1; have hW := X.2.2.2.2.2.1; have hK := X.2.2.2.2.2.2.2; clear hAe
  clear hin
  have hl : lv_has ls 1 [(0, .ref sh)] := hl
  obtain ⟨hn, hlen⟩ := hM.len
  subst hn
  refine lv_aload_n hX hB dX5_nudgeNext_0 rfl (lv_at hl 0 rfl) ?_
  refine va_get hX hB hz inlX5 hW hK.1 hP 0 rfl rfl 0 (by decide) (hz _ zw_65) (fun _ h9 => h9) rfl dX5_nudgeNext_1 ?_
  refine lv_aload_n hX hB dX5_nudgeNext_4 rfl (lv_at hl 0 rfl) ?_
  refine va_get hX hB hz inlX5 hW hK.1 hP 0 rfl rfl 2 (by decide) (hz _ zw_188) (fun _ h9 => h9) rfl dX5_nudgeNext_5 ?_
  refine lv_aload_n hX hB dX5_nudgeNext_8 rfl (lv_at hl 0 rfl) ?_
  refine va_get hX hB hz inlX5 hW hK.1 hP 0 rfl rfl 3 (by decide) (hz _ zw_189) (fun _ h9 => h9) rfl dX5_nudgeNext_9 ?_
  refine zCallV0 (zRunVN (As := [.int (nZ ↑r), .int (nZ p)]) X mv_X2_move (c_X2_move l D k _ sL sA (↑M.length : Int) g M r p hM (by first | assumption | omega | exact ⟨by omega, by omega⟩) hp) (zn_X5_73 hK.2.1) (zPreV hP hD hK [1, 2] rfl rfl 1 2 rfl rfl rfl) rfl hl (Nat.le_of_ble_eq_true rfl) dX5_nudgeNext_12 ⟨rfl, rfl, ⟨Nat.le_of_ble_eq_true rfl, Nat.le_of_ble_eq_true rfl⟩, Nat.le_of_ble_eq_true rfl, Nat.le_of_ble_eq_true rfl⟩ rfl) hS hP hD hA [1, 2] rfl (fun _ => rfl) (fun u_12 H locs hq_12 hP hD hS => ?_)
  have hL2_12 := hq_12
  try dsimp only at hL2_12
  have hP : va_P D vwCl [(sh, .inr (5, [.ref sL, .int (nZ cost), .int (nZ ↑r), .int (nZ p), .int (nZ lf), .int (nZ nd), .int (nZ fe), .int (nZ ta)])), (sL, .inr (2, [.ref sA, .int (nZ (↑M.length : Int))])), (sA, .inl (k 0, 21, .inl (zA (zU g r p))))] H := hP
  have hD : va_D A [(sh, .inr (5, [.ref sL, .int (nZ cost), .int (nZ ↑r), .int (nZ p), .int (nZ lf), .int (nZ nd), .int (nZ fe), .int (nZ ta)])), (sL, .inr (2, [.ref sA, .int (nZ (↑M.length : Int))])), (sA, .inl (k 0, 21, .inl (zA (zU g r p))))] := hD
  refine lv_aload_n hX hB dX5_nudgeNext_15 rfl (lv_at hl 0 rfl) ?_
  refine lv_dup hX hB dX5_nudgeNext_16 rfl ?_
  refine va_get hX hB hz inlX5 hW hK.1 hP 0 rfl rfl 2 (by decide) (hz _ zw_188) (fun _ h9 => h9) rfl dX5_nudgeNext_17 ?_
  refine lv_iconst (v := nZ 1) hX hB dX5_nudgeNext_20 rfl ?_
  refine zz_iadd X dX5_nudgeNext_21 (z := (↑(r + 1) : Int)) (by first | rfl | omega) ?_
  refine va_put (v := .int (nZ (↑(r + 1) : Int))) (ty := tyX5 2) hX hB hz inlX5 tyX5 tyX5_ok nmX5 hW hK.1 hP hD hS 0 rfl rfl 2 (by decide) (hz _ zw_188) (fun _ h9 => h9) rfl (by decide +kernel) rfl rfl (Nat.le_of_ble_eq_true rfl) dX5_nudgeNext_22 (fun H locs hP hD hS => ?_)
  have hP : va_P D vwCl [(sh, .inr (5, [.ref sL, .int (nZ cost), .int (nZ (↑(r + 1) : Int)), .int (nZ p), .int (nZ lf), .int (nZ nd), .int (nZ fe), .int (nZ ta)])), (sL, .inr (2, [.ref sA, .int (nZ (↑M.length : Int))])), (sA, .inl (k 0, 21, .inl (zA (zU g r p))))] H := hP
  have hD : va_D A [(sh, .inr (5, [.ref sL, .int (nZ cost), .int (nZ (↑(r + 1) : Int)), .int (nZ p), .int (nZ lf), .int (nZ nd), .int (nZ fe), .int (nZ ta)])), (sL, .inr (2, [.ref sA, .int (nZ (↑M.length : Int))])), (sA, .inl (k 0, 21, .inl (zA (zU g r p))))] := hD
  refine lv_aload_n hX hB dX5_nudgeNext_25 rfl (lv_at hl 0 rfl) ?_
  refine lv_aload_n hX hB dX5_nudgeNext_26 rfl (lv_at hl 0 rfl) ?_
  refine va_get hX hB hz inlX5 hW hK.1 hP 0 rfl rfl 0 (by decide) (hz _ zw_65) (fun _ h9 => h9) rfl dX5_nudgeNext_27 ?_
  refine lv_aload_n hX hB dX5_nudgeNext_30 rfl (lv_at hl 0 rfl) ?_
  refine va_get hX hB hz inlX5 hW hK.1 hP 0 rfl rfl 2 (by decide) (hz _ zw_188) (fun _ h9 => h9) rfl dX5_nudgeNext_31 ?_
  refine zCallI0 (zRunVN (As := [.int (nZ (↑(r + 1) : Int))]) X mv_X2_placeAt (c_X2_placeAt l D k _ sL sA (↑M.length : Int) (zU g r p) (M.set r p) (↑(r + 1) : Int) hL2_12 (by first | assumption | omega | exact ⟨by omega, by omega⟩)) (zn_X5_69 hK.2.1) (zPreV hP hD hK [1, 2] rfl rfl 1 2 rfl rfl rfl) rfl hl (Nat.le_of_ble_eq_true rfl) dX5_nudgeNext_34 ⟨rfl, rfl, ⟨Nat.le_of_ble_eq_true rfl, Nat.le_of_ble_eq_true rfl⟩, Nat.le_of_ble_eq_true rfl, Nat.le_of_ble_eq_true rfl⟩ rfl) hS hP hD hA [1, 2] rfl (fun _ => rfl) (fun r_34 u_34 H locs hq_34 hP hD hS => ?_)
  subst hq_34
  have hP : va_P D vwCl [(sh, .inr (5, [.ref sL, .int (nZ cost), .int (nZ (↑(r + 1) : Int)), .int (nZ p), .int (nZ lf), .int (nZ nd), .int (nZ fe), .int (nZ ta)])), (sL, .inr (2, [.ref sA, .int (nZ (↑M.length : Int))])), (sA, .inl (k 0, 21, .inl (zA (zU g r p))))] H := hP
  have hD : va_D A [(sh, .inr (5, [.ref sL, .int (nZ cost), .int (nZ (↑(r + 1) : Int)), .int (nZ p), .int (nZ lf), .int (nZ nd), .int (nZ fe), .int (nZ ta)])), (sL, .inr (2, [.ref sA, .int (nZ (↑M.length : Int))])), (sA, .inl (k 0, 21, .inl (zA (zU g r p))))] := hD
  refine va_put (v := .int (nZ (placeAtS (M.set r p) (↑(r + 1) : Int)))) (ty := tyX5 3) hX hB hz inlX5 tyX5 tyX5_ok nmX5 hW hK.1 hP hD hS 0 rfl rfl 3 (by decide) (hz _ zw_189) (fun _ h9 => h9) rfl (by decide +kernel) rfl rfl (Nat.le_of_ble_eq_true rfl) dX5_nudgeNext_37 (fun H locs hP hD hS => ?_)
  have hP : va_P D vwCl [(sh, .inr (5, [.ref sL, .int (nZ cost), .int (nZ (↑(r + 1) : Int)), .int (nZ (placeAtS (M.set r p) (↑(r + 1) : Int))), .int (nZ lf), .int (nZ nd), .int (nZ fe), .int (nZ ta)])), (sL, .inr (2, [.ref sA, .int (nZ (↑M.length : Int))])), (sA, .inl (k 0, 21, .inl (zA (zU g r p))))] H := hP
  have hD : va_D A [(sh, .inr (5, [.ref sL, .int (nZ cost), .int (nZ (↑(r + 1) : Int)), .int (nZ (placeAtS (M.set r p) (↑(r + 1) : Int))), .int (nZ lf), .int (nZ nd), .int (nZ fe), .int (nZ ta)])), (sL, .inr (2, [.ref sA, .int (nZ (↑M.length : Int))])), (sA, .inl (k 0, 21, .inl (zA (zU g r p))))] := hD
  refine lv_aload_n hX hB dX5_nudgeNext_40 rfl (lv_at hl 0 rfl) ?_
  refine lv_dup hX hB dX5_nudgeNext_41 rfl ?_
  refine va_get hX hB hz inlX5 hW hK.1 hP 0 rfl rfl 4 (by decide) (hz _ zw_182) (fun _ h9 => h9) rfl dX5_nudgeNext_42 ?_
  refine lv_aload_n hX hB dX5_nudgeNext_45 rfl (lv_at hl 0 rfl) ?_
  refine va_get hX hB hz inlX5 hW hK.1 hP 0 rfl rfl 1 (by decide) (hz _ zw_187) (fun _ h9 => h9) rfl dX5_nudgeNext_46 ?_
  refine zz_isub X dX5_nudgeNext_49 (z := (lf - cost)) (by first | rfl | omega) ?_
  refine va_put (v := .int (nZ (lf - cost))) (ty := tyX5 4) hX hB hz inlX5 tyX5 tyX5_ok nmX5 hW hK.1 hP hD hS 0 rfl rfl 4 (by decide) (hz _ zw_182) (fun _ h9 => h9) rfl (by decide +kernel) rfl rfl (Nat.le_of_ble_eq_true rfl) dX5_nudgeNext_50 (fun H locs hP hD hS => ?_)
  have hP : va_P D vwCl [(sh, .inr (5, [.ref sL, .int (nZ cost), .int (nZ (↑(r + 1) : Int)), .int (nZ (placeAtS (M.set r p) (↑(r + 1) : Int))), .int (nZ (lf - cost)), .int (nZ nd), .int (nZ fe), .int (nZ ta)])), (sL, .inr (2, [.ref sA, .int (nZ (↑M.length : Int))])), (sA, .inl (k 0, 21, .inl (zA (zU g r p))))] H := hP
  have hD : va_D A [(sh, .inr (5, [.ref sL, .int (nZ cost), .int (nZ (↑(r + 1) : Int)), .int (nZ (placeAtS (M.set r p) (↑(r + 1) : Int))), .int (nZ (lf - cost)), .int (nZ nd), .int (nZ fe), .int (nZ ta)])), (sL, .inr (2, [.ref sA, .int (nZ (↑M.length : Int))])), (sA, .inl (k 0, 21, .inl (zA (zU g r p))))] := hD
  refine lv_aload_n hX hB dX5_nudgeNext_53 rfl (lv_at hl 0 rfl) ?_
  refine lv_dup hX hB dX5_nudgeNext_54 rfl ?_
  refine va_get hX hB hz inlX5 hW hK.1 hP 0 rfl rfl 5 (by decide) (hz _ zw_190) (fun _ h9 => h9) rfl dX5_nudgeNext_55 ?_
  refine lv_iconst (v := nZ 1) hX hB dX5_nudgeNext_58 rfl ?_
  refine zz_iadd X dX5_nudgeNext_59 (z := (nd + 1)) (by first | rfl | omega) ?_
  refine va_put (v := .int (nZ (nd + 1))) (ty := tyX5 5) hX hB hz inlX5 tyX5 tyX5_ok nmX5 hW hK.1 hP hD hS 0 rfl rfl 5 (by decide) (hz _ zw_190) (fun _ h9 => h9) rfl (by decide +kernel) rfl rfl (Nat.le_of_ble_eq_true rfl) dX5_nudgeNext_60 (fun H locs hP hD hS => ?_)
  have hP : va_P D vwCl [(sh, .inr (5, [.ref sL, .int (nZ cost), .int (nZ (↑(r + 1) : Int)), .int (nZ (placeAtS (M.set r p) (↑(r + 1) : Int))), .int (nZ (lf - cost)), .int (nZ (nd + 1)), .int (nZ fe), .int (nZ ta)])), (sL, .inr (2, [.ref sA, .int (nZ (↑M.length : Int))])), (sA, .inl (k 0, 21, .inl (zA (zU g r p))))] H := hP
  have hD : va_D A [(sh, .inr (5, [.ref sL, .int (nZ cost), .int (nZ (↑(r + 1) : Int)), .int (nZ (placeAtS (M.set r p) (↑(r + 1) : Int))), .int (nZ (lf - cost)), .int (nZ (nd + 1)), .int (nZ fe), .int (nZ ta)])), (sL, .inr (2, [.ref sA, .int (nZ (↑M.length : Int))])), (sA, .inl (k 0, 21, .inl (zA (zU g r p))))] := hD
  exact zRetV (placeAtS (M.set r p) (↑(r + 1) : Int)) X hP hD hS rfl ⟨by rw [placeAtS_nat (by rw [List.length_set]; omega)]; simp [List.getD, List.getElem?_set_ne], hL2_12⟩ dX5_nudgeNext_63
set_option maxHeartbeats 4000000 in
set_option maxRecDepth 100000 in
theorem c_X5_start (l : Launch) (D : va_G) (k : Nat → ClassId) (sz : Nat) (sh sL sA a2 b2 : Nat) (cost rk p lf nd fe ta n c2 st n2 : Int) (g g2 : Nat → Int) (L : List Int) (hL : laneOk g2 n2 L) (hl20 : L.length ≤ 20) : Met l yX5_start (zW yX5_start cX5_start 4 none) ({ frames := 1, cells := 0, slots := 0, locals := 23 } : Room) (va_Pc [.ref sh, .ref a2, .int (nZ st), .int (nZ c2)] (zIn D k sz [(sh, .inr (5, [.ref sL, .int (nZ cost), .int (nZ rk), .int (nZ p), .int (nZ lf), .int (nZ nd), .int (nZ fe), .int (nZ ta)])), (sL, .inr (2, [.ref sA, .int (nZ n)])), (sA, .inl (k 0, 21, .inl (zA g))), (a2, .inr (2, [.ref b2, .int (nZ n2)])), (b2, .inl (k 0, 21, .inl (zA g2)))])) (va_Qv (fun (uz : (Nat → Int)) => laneOk uz (n2 + 1) (-5 :: L)) (fun (uz : (Nat → Int)) => zOut D (va_A [(sh, .inr (5, [.ref sL, .int (nZ cost), .int (nZ rk), .int (nZ p), .int (nZ lf), .int (nZ nd), .int (nZ fe), .int (nZ ta)])), (sL, .inr (2, [.ref sA, .int (nZ n)])), (sA, .inl (k 0, 21, .inl (zA g))), (a2, .inr (2, [.ref b2, .int (nZ n2)])), (b2, .inl (k 0, 21, .inl (zA g2)))] sz) [(sh, .inr (5, [.ref sL, .int (nZ c2), .int (nZ 0), .int (nZ (-5)), .int (nZ st), .int (nZ 0), .int (nZ fe), .int (nZ ta)])), (sL, .inr (2, [.ref sA, .int (nZ (n2 + 1))])), (sA, .inl (k 0, 21, .inl (zA uz))), (a2, .inr (2, [.ref b2, .int (nZ n2)])), (b2, .inl (k 0, 21, .inl (zA g2)))]) (va_A [(sh, .inr (5, [.ref sL, .int (nZ cost), .int (nZ rk), .int (nZ p), .int (nZ lf), .int (nZ nd), .int (nZ fe), .int (nZ ta)])), (sL, .inr (2, [.ref sA, .int (nZ n)])), (sA, .inl (k 0, 21, .inl (zA g))), (a2, .inr (2, [.ref b2, .int (nZ n2)])), (b2, .inl (k 0, 21, .inl (zA g2)))] sz)) 0 0 (va_A [(sh, .inr (5, [.ref sL, .int (nZ cost), .int (nZ rk), .int (nZ p), .int (nZ lf), .int (nZ nd), .int (nZ fe), .int (nZ ta)])), (sL, .inr (2, [.ref sA, .int (nZ n)])), (sA, .inl (k 0, 21, .inl (zA g))), (a2, .inr (2, [.ref b2, .int (nZ n2)])), (b2, .inl (k 0, 21, .inl (zA g2)))] sz) := by
  refine zEnter (Qf := fun A => va_Qv (fun (uz : (Nat → Int)) => laneOk uz (n2 + 1) (-5 :: L)) (fun (uz : (Nat → Int)) => zOut D A [(sh, .inr (5, [.ref sL, .int (nZ c2), .int (nZ 0), .int (nZ (-5)), .int (nZ st), .int (nZ 0), .int (nZ fe), .int (nZ ta)])), (sL, .inr (2, [.ref sA, .int (nZ (n2 + 1))])), (sA, .inl (k 0, 21, .inl (zA uz))), (a2, .inr (2, [.ref b2, .int (nZ n2)])), (b2, .inl (k 0, 21, .inl (zA g2)))]) A) RX5 (by decide) rfl (Nat.le_of_ble_eq_true rfl) ?_
  intro p9 e9 s9 m9 be9 me9 c9 ls A X hin hP hD hS hA hAe hl
  have hX := X.1; have hB := X.2.1; have hz := X.2.2.2.2.1; have hW := X.2.2.2.2.2.1; have hK := X.2.2.2.2.2.2.2; clear hAe
  clear hin
  have hl : lv_has ls 4 [(0, .ref sh), (1, .ref a2), (2, .int (nZ st)), (3, .int (nZ c2))] := hl
  refine lv_aload_n hX hB dX5_start_0 rfl (lv_at hl 0 rfl) ?_
  refine va_get hX hB hz inlX5 hW hK.1 hP 0 rfl rfl 0 (by decide) (hz _ zw_65) (fun _ h9 => h9) rfl dX5_start_1 ?_
  refine lv_aload_n hX hB dX5_start_4 rfl (lv_at hl 1 rfl) ?_
  refine zCallV0 (zRunVN (As := [.ref a2]) X mv_X2_copyFrom (c_X2_copyFrom l D k _ sL sA a2 b2 n n2 g g2 L hL) (zn_X5_46 hK.2.1) (zPreV hP hD hK [1, 2, 3, 4] rfl rfl 1 2 rfl rfl rfl) rfl hl (Nat.le_of_ble_eq_true rfl) dX5_start_5 ⟨rfl, rfl, ⟨Nat.le_of_ble_eq_true rfl, Nat.le_of_ble_eq_true rfl⟩, Nat.le_of_ble_eq_true rfl, Nat.le_of_ble_eq_true rfl⟩ rfl) hS hP hD hA [1, 2, 3, 4] rfl (fun _ => rfl) (fun u_5 H locs hq_5 hP hD hS => ?_)
  obtain ⟨g3_5, e9⟩ : ∃ z9, z9 = u_5 := ⟨_, rfl⟩; subst e9
  have hL3_5 := hq_5
  try dsimp only at hL3_5
  have hP : va_P D vwCl [(sh, .inr (5, [.ref sL, .int (nZ cost), .int (nZ rk), .int (nZ p), .int (nZ lf), .int (nZ nd), .int (nZ fe), .int (nZ ta)])), (sL, .inr (2, [.ref sA, .int (nZ n2)])), (sA, .inl (k 0, 21, .inl (zA g3_5))), (a2, .inr (2, [.ref b2, .int (nZ n2)])), (b2, .inl (k 0, 21, .inl (zA g2)))] H := hP
  have hD : va_D A [(sh, .inr (5, [.ref sL, .int (nZ cost), .int (nZ rk), .int (nZ p), .int (nZ lf), .int (nZ nd), .int (nZ fe), .int (nZ ta)])), (sL, .inr (2, [.ref sA, .int (nZ n2)])), (sA, .inl (k 0, 21, .inl (zA g3_5))), (a2, .inr (2, [.ref b2, .int (nZ n2)])), (b2, .inl (k 0, 21, .inl (zA g2)))] := hD
  refine lv_aload_n hX hB dX5_start_8 rfl (lv_at hl 0 rfl) ?_
  refine va_get hX hB hz inlX5 hW hK.1 hP 0 rfl rfl 0 (by decide) (hz _ zw_65) (fun _ h9 => h9) rfl dX5_start_9 ?_
  refine lv_iconst (v := nZ 0) hX hB dX5_start_12 rfl ?_
  refine lv_bipush (v := nZ (-5)) hX hB dX5_start_13 (by decide) ?_
  refine zCallV0 (zRunVN (As := [.int (nZ 0), .int (nZ (-5))]) X mv_X2_insertAt (c_X2_insertAt l D k _ sL sA n2 g3_5 L 0 (-5) hL3_5 (by first | assumption | omega | exact ⟨by omega, by omega⟩) hl20 (by first | assumption | omega | exact ⟨by omega, by omega⟩)) (zn_X5_50 hK.2.1) (zPreV hP hD hK [1, 2] rfl rfl 1 2 rfl rfl rfl) rfl hl (Nat.le_of_ble_eq_true rfl) dX5_start_15 ⟨rfl, rfl, ⟨Nat.le_of_ble_eq_true rfl, Nat.le_of_ble_eq_true rfl⟩, Nat.le_of_ble_eq_true rfl, Nat.le_of_ble_eq_true rfl⟩ rfl) hS hP hD hA [1, 2] rfl (fun _ => rfl) (fun u_15 H locs hq_15 hP hD hS => ?_)
  obtain ⟨g2_15, e9⟩ : ∃ z9, z9 = u_15 := ⟨_, rfl⟩; subst e9
  have hL2_15 := hq_15
  try dsimp only at hL2_15
  have hP : va_P D vwCl [(sh, .inr (5, [.ref sL, .int (nZ cost), .int (nZ rk), .int (nZ p), .int (nZ lf), .int (nZ nd), .int (nZ fe), .int (nZ ta)])), (sL, .inr (2, [.ref sA, .int (nZ (n2 + 1))])), (sA, .inl (k 0, 21, .inl (zA g2_15))), (a2, .inr (2, [.ref b2, .int (nZ n2)])), (b2, .inl (k 0, 21, .inl (zA g2)))] H := hP
  have hD : va_D A [(sh, .inr (5, [.ref sL, .int (nZ cost), .int (nZ rk), .int (nZ p), .int (nZ lf), .int (nZ nd), .int (nZ fe), .int (nZ ta)])), (sL, .inr (2, [.ref sA, .int (nZ (n2 + 1))])), (sA, .inl (k 0, 21, .inl (zA g2_15))), (a2, .inr (2, [.ref b2, .int (nZ n2)])), (b2, .inl (k 0, 21, .inl (zA g2)))] := hD
  refine lv_aload_n hX hB dX5_start_18 rfl (lv_at hl 0 rfl) ?_
  refine lv_iload_n hX hB dX5_start_19 rfl (lv_at hl 3 rfl) ?_
  refine va_put (v := .int (nZ c2)) (ty := tyX5 1) hX hB hz inlX5 tyX5 tyX5_ok nmX5 hW hK.1 hP hD hS 0 rfl rfl 1 (by decide) (hz _ zw_187) (fun _ h9 => h9) rfl (by decide +kernel) rfl rfl (Nat.le_of_ble_eq_true rfl) dX5_start_20 (fun H locs hP hD hS => ?_)
  have hP : va_P D vwCl [(sh, .inr (5, [.ref sL, .int (nZ c2), .int (nZ rk), .int (nZ p), .int (nZ lf), .int (nZ nd), .int (nZ fe), .int (nZ ta)])), (sL, .inr (2, [.ref sA, .int (nZ (n2 + 1))])), (sA, .inl (k 0, 21, .inl (zA g2_15))), (a2, .inr (2, [.ref b2, .int (nZ n2)])), (b2, .inl (k 0, 21, .inl (zA g2)))] H := hP
  have hD : va_D A [(sh, .inr (5, [.ref sL, .int (nZ c2), .int (nZ rk), .int (nZ p), .int (nZ lf), .int (nZ nd), .int (nZ fe), .int (nZ ta)])), (sL, .inr (2, [.ref sA, .int (nZ (n2 + 1))])), (sA, .inl (k 0, 21, .inl (zA g2_15))), (a2, .inr (2, [.ref b2, .int (nZ n2)])), (b2, .inl (k 0, 21, .inl (zA g2)))] := hD
  refine lv_aload_n hX hB dX5_start_23 rfl (lv_at hl 0 rfl) ?_
  refine lv_iconst (v := nZ 0) hX hB dX5_start_24 rfl ?_
  refine va_put (v := .int (nZ 0)) (ty := tyX5 2) hX hB hz inlX5 tyX5 tyX5_ok nmX5 hW hK.1 hP hD hS 0 rfl rfl 2 (by decide) (hz _ zw_188) (fun _ h9 => h9) rfl (by decide +kernel) rfl rfl (Nat.le_of_ble_eq_true rfl) dX5_start_25 (fun H locs hP hD hS => ?_)
  have hP : va_P D vwCl [(sh, .inr (5, [.ref sL, .int (nZ c2), .int (nZ 0), .int (nZ p), .int (nZ lf), .int (nZ nd), .int (nZ fe), .int (nZ ta)])), (sL, .inr (2, [.ref sA, .int (nZ (n2 + 1))])), (sA, .inl (k 0, 21, .inl (zA g2_15))), (a2, .inr (2, [.ref b2, .int (nZ n2)])), (b2, .inl (k 0, 21, .inl (zA g2)))] H := hP
  have hD : va_D A [(sh, .inr (5, [.ref sL, .int (nZ c2), .int (nZ 0), .int (nZ p), .int (nZ lf), .int (nZ nd), .int (nZ fe), .int (nZ ta)])), (sL, .inr (2, [.ref sA, .int (nZ (n2 + 1))])), (sA, .inl (k 0, 21, .inl (zA g2_15))), (a2, .inr (2, [.ref b2, .int (nZ n2)])), (b2, .inl (k 0, 21, .inl (zA g2)))] := hD
  refine lv_aload_n hX hB dX5_start_28 rfl (lv_at hl 0 rfl) ?_
  refine lv_bipush (v := nZ (-5)) hX hB dX5_start_29 (by decide) ?_
  refine va_put (v := .int (nZ (-5))) (ty := tyX5 3) hX hB hz inlX5 tyX5 tyX5_ok nmX5 hW hK.1 hP hD hS 0 rfl rfl 3 (by decide) (hz _ zw_189) (fun _ h9 => h9) rfl (by decide +kernel) rfl rfl (Nat.le_of_ble_eq_true rfl) dX5_start_31 (fun H locs hP hD hS => ?_)
  have hP : va_P D vwCl [(sh, .inr (5, [.ref sL, .int (nZ c2), .int (nZ 0), .int (nZ (-5)), .int (nZ lf), .int (nZ nd), .int (nZ fe), .int (nZ ta)])), (sL, .inr (2, [.ref sA, .int (nZ (n2 + 1))])), (sA, .inl (k 0, 21, .inl (zA g2_15))), (a2, .inr (2, [.ref b2, .int (nZ n2)])), (b2, .inl (k 0, 21, .inl (zA g2)))] H := hP
  have hD : va_D A [(sh, .inr (5, [.ref sL, .int (nZ c2), .int (nZ 0), .int (nZ (-5)), .int (nZ lf), .int (nZ nd), .int (nZ fe), .int (nZ ta)])), (sL, .inr (2, [.ref sA, .int (nZ (n2 + 1))])), (sA, .inl (k 0, 21, .inl (zA g2_15))), (a2, .inr (2, [.ref b2, .int (nZ n2)])), (b2, .inl (k 0, 21, .inl (zA g2)))] := hD
  refine lv_aload_n hX hB dX5_start_34 rfl (lv_at hl 0 rfl) ?_
  refine lv_iload_n hX hB dX5_start_35 rfl (lv_at hl 2 rfl) ?_
  refine va_put (v := .int (nZ st)) (ty := tyX5 4) hX hB hz inlX5 tyX5 tyX5_ok nmX5 hW hK.1 hP hD hS 0 rfl rfl 4 (by decide) (hz _ zw_182) (fun _ h9 => h9) rfl (by decide +kernel) rfl rfl (Nat.le_of_ble_eq_true rfl) dX5_start_36 (fun H locs hP hD hS => ?_)
  have hP : va_P D vwCl [(sh, .inr (5, [.ref sL, .int (nZ c2), .int (nZ 0), .int (nZ (-5)), .int (nZ st), .int (nZ nd), .int (nZ fe), .int (nZ ta)])), (sL, .inr (2, [.ref sA, .int (nZ (n2 + 1))])), (sA, .inl (k 0, 21, .inl (zA g2_15))), (a2, .inr (2, [.ref b2, .int (nZ n2)])), (b2, .inl (k 0, 21, .inl (zA g2)))] H := hP
  have hD : va_D A [(sh, .inr (5, [.ref sL, .int (nZ c2), .int (nZ 0), .int (nZ (-5)), .int (nZ st), .int (nZ nd), .int (nZ fe), .int (nZ ta)])), (sL, .inr (2, [.ref sA, .int (nZ (n2 + 1))])), (sA, .inl (k 0, 21, .inl (zA g2_15))), (a2, .inr (2, [.ref b2, .int (nZ n2)])), (b2, .inl (k 0, 21, .inl (zA g2)))] := hD
  refine lv_aload_n hX hB dX5_start_39 rfl (lv_at hl 0 rfl) ?_
  refine lv_iconst (v := nZ 0) hX hB dX5_start_40 rfl ?_
  refine va_put (v := .int (nZ 0)) (ty := tyX5 5) hX hB hz inlX5 tyX5 tyX5_ok nmX5 hW hK.1 hP hD hS 0 rfl rfl 5 (by decide) (hz _ zw_190) (fun _ h9 => h9) rfl (by decide +kernel) rfl rfl (Nat.le_of_ble_eq_true rfl) dX5_start_41 (fun H locs hP hD hS => ?_)
  have hP : va_P D vwCl [(sh, .inr (5, [.ref sL, .int (nZ c2), .int (nZ 0), .int (nZ (-5)), .int (nZ st), .int (nZ 0), .int (nZ fe), .int (nZ ta)])), (sL, .inr (2, [.ref sA, .int (nZ (n2 + 1))])), (sA, .inl (k 0, 21, .inl (zA g2_15))), (a2, .inr (2, [.ref b2, .int (nZ n2)])), (b2, .inl (k 0, 21, .inl (zA g2)))] H := hP
  have hD : va_D A [(sh, .inr (5, [.ref sL, .int (nZ c2), .int (nZ 0), .int (nZ (-5)), .int (nZ st), .int (nZ 0), .int (nZ fe), .int (nZ ta)])), (sL, .inr (2, [.ref sA, .int (nZ (n2 + 1))])), (sA, .inl (k 0, 21, .inl (zA g2_15))), (a2, .inr (2, [.ref b2, .int (nZ n2)])), (b2, .inl (k 0, 21, .inl (zA g2)))] := hD
  exact zRetV g2_15 X hP hD hS rfl (hL2_15) dX5_start_44
set_option maxHeartbeats 4000000 in
set_option maxRecDepth 100000 in
theorem c_X5_finish (l : Launch) (D : va_G) (k : Nat → ClassId) (sz : Nat) (sh sL sA : Nat) (cost p lf nd fe ta n : Int) (g : Nat → Int) (r : Nat) (M : List Int) (hM : laneOk g n M) (hr : r < M.length) (hp : -5 ≤ p ∧ p ≤ 100) : Met l yX5_finish (zW yX5_finish cX5_finish 1 none) ({ frames := 1, cells := 0, slots := 0, locals := 22 } : Room) (va_Pc [.ref sh] (zIn D k sz [(sh, .inr (5, [.ref sL, .int (nZ cost), .int (nZ ↑r), .int (nZ p), .int (nZ lf), .int (nZ nd), .int (nZ fe), .int (nZ ta)])), (sL, .inr (2, [.ref sA, .int (nZ n)])), (sA, .inl (k 0, 21, .inl (zA g)))])) (va_Qv (fun (uz : Int × Int × Int × (Nat → Int)) => uz.1 = (if 100 ≤ p then 1 else 0) ∧ uz.2.1 = (if backS (M.set r p) p then 1 else 0) ∧ laneOk uz.2.2.2 uz.2.2.1 (restS (M.set r p) p)) (fun (uz : Int × Int × Int × (Nat → Int)) => zOut D (va_A [(sh, .inr (5, [.ref sL, .int (nZ cost), .int (nZ ↑r), .int (nZ p), .int (nZ lf), .int (nZ nd), .int (nZ fe), .int (nZ ta)])), (sL, .inr (2, [.ref sA, .int (nZ n)])), (sA, .inl (k 0, 21, .inl (zA g)))] sz) [(sh, .inr (5, [.ref sL, .int (nZ cost), .int (nZ ↑r), .int (nZ p), .int (nZ lf), .int (nZ nd), .int (nZ uz.1), .int (nZ uz.2.1)])), (sL, .inr (2, [.ref sA, .int (nZ uz.2.2.1)])), (sA, .inl (k 0, 21, .inl (zA uz.2.2.2)))]) (va_A [(sh, .inr (5, [.ref sL, .int (nZ cost), .int (nZ ↑r), .int (nZ p), .int (nZ lf), .int (nZ nd), .int (nZ fe), .int (nZ ta)])), (sL, .inr (2, [.ref sA, .int (nZ n)])), (sA, .inl (k 0, 21, .inl (zA g)))] sz)) 0 0 (va_A [(sh, .inr (5, [.ref sL, .int (nZ cost), .int (nZ ↑r), .int (nZ p), .int (nZ lf), .int (nZ nd), .int (nZ fe), .int (nZ ta)])), (sL, .inr (2, [.ref sA, .int (nZ n)])), (sA, .inl (k 0, 21, .inl (zA g)))] sz) := by
  refine zEnter (Qf := fun A => va_Qv (fun (uz : Int × Int × Int × (Nat → Int)) => uz.1 = (if 100 ≤ p then 1 else 0) ∧ uz.2.1 = (if backS (M.set r p) p then 1 else 0) ∧ laneOk uz.2.2.2 uz.2.2.1 (restS (M.set r p) p)) (fun (uz : Int × Int × Int × (Nat → Int)) => zOut D A [(sh, .inr (5, [.ref sL, .int (nZ cost), .int (nZ ↑r), .int (nZ p), .int (nZ lf), .int (nZ nd), .int (nZ uz.1), .int (nZ uz.2.1)])), (sL, .inr (2, [.ref sA, .int (nZ uz.2.2.1)])), (sA, .inl (k 0, 21, .inl (zA uz.2.2.2)))]) A) RX5 (by decide) rfl (Nat.le_of_ble_eq_true rfl) ?_
  intro p9 e9 s9 m9 be9 me9 c9 ls A X hin hP hD hS hA hAe hl
  have hX := X.1; have hB := X.2.1; have hz := X.2.2.2.2.1; have hW := X.2.2.2.2.2.1; have hK := X.2.2.2.2.2.2.2; clear hAe
  clear hin
  have hl : lv_has ls 1 [(0, .ref sh)] := hl
  obtain ⟨hn, hlen⟩ := hM.len
  have hlS : (M.set r p).length = M.length := List.length_set
  have hlD : (M.set r p).dropLast.length = M.length - 1 := by rw [List.length_dropLast, hlS]
  subst hn
  refine lv_aload_n hX hB dX5_finish_0 rfl (lv_at hl 0 rfl) ?_
  refine va_get hX hB hz inlX5 hW hK.1 hP 0 rfl rfl 0 (by decide) (hz _ zw_65) (fun _ h9 => h9) rfl dX5_finish_1 ?_
  refine lv_aload_n hX hB dX5_finish_4 rfl (lv_at hl 0 rfl) ?_
  refine va_get hX hB hz inlX5 hW hK.1 hP 0 rfl rfl 2 (by decide) (hz _ zw_188) (fun _ h9 => h9) rfl dX5_finish_5 ?_
  refine lv_aload_n hX hB dX5_finish_8 rfl (lv_at hl 0 rfl) ?_
  refine va_get hX hB hz inlX5 hW hK.1 hP 0 rfl rfl 3 (by decide) (hz _ zw_189) (fun _ h9 => h9) rfl dX5_finish_9 ?_
  refine zCallV0 (zRunVN (As := [.int (nZ ↑r), .int (nZ p)]) X mv_X2_move (c_X2_move l D k _ sL sA (↑M.length : Int) g M r p hM hr hp) (zn_X5_73 hK.2.1) (zPreV hP hD hK [1, 2] rfl rfl 1 2 rfl rfl rfl) rfl hl (Nat.le_of_ble_eq_true rfl) dX5_finish_12 ⟨rfl, rfl, ⟨Nat.le_of_ble_eq_true rfl, Nat.le_of_ble_eq_true rfl⟩, Nat.le_of_ble_eq_true rfl, Nat.le_of_ble_eq_true rfl⟩ rfl) hS hP hD hA [1, 2] rfl (fun _ => rfl) (fun u_12 H locs hq_12 hP hD hS => ?_)
  have hL2_12 := hq_12
  try dsimp only at hL2_12
  have hP : va_P D vwCl [(sh, .inr (5, [.ref sL, .int (nZ cost), .int (nZ ↑r), .int (nZ p), .int (nZ lf), .int (nZ nd), .int (nZ fe), .int (nZ ta)])), (sL, .inr (2, [.ref sA, .int (nZ (↑M.length : Int))])), (sA, .inl (k 0, 21, .inl (zA (zU g r p))))] H := hP
  have hD : va_D A [(sh, .inr (5, [.ref sL, .int (nZ cost), .int (nZ ↑r), .int (nZ p), .int (nZ lf), .int (nZ nd), .int (nZ fe), .int (nZ ta)])), (sL, .inr (2, [.ref sA, .int (nZ (↑M.length : Int))])), (sA, .inl (k 0, 21, .inl (zA (zU g r p))))] := hD
  refine lv_aload_n hX hB dX5_finish_15 rfl (lv_at hl 0 rfl) ?_
  refine lv_aload_n hX hB dX5_finish_16 rfl (lv_at hl 0 rfl) ?_
  refine va_get hX hB hz inlX5 hW hK.1 hP 0 rfl rfl 3 (by decide) (hz _ zw_189) (fun _ h9 => h9) rfl dX5_finish_17 ?_
  refine lv_bipush (v := nZ 100) hX hB dX5_finish_20 (by decide) ?_
  refine zz_icmp_lt X (tgt := 29) dX5_finish_22 (by decide) ⟨by omega, by omega⟩ ⟨by omega, by omega⟩ (fun c_22 => ?_) (fun c_22 => ?_)
  · refine lv_iconst (v := nZ 0) hX hB dX5_finish_29 rfl ?_
    refine va_put (v := .int (nZ 0)) (ty := tyX5 6) hX hB hz inlX5 tyX5 tyX5_ok nmX5 hW hK.1 hP hD hS 0 rfl rfl 6 (by decide) (hz _ zw_216) (fun _ h9 => h9) rfl (by decide +kernel) (rfl) rfl (Nat.le_of_ble_eq_true rfl) dX5_finish_30 (fun H locs hP hD hS => ?_)
    have hP : va_P D vwCl [(sh, .inr (5, [.ref sL, .int (nZ cost), .int (nZ ↑r), .int (nZ p), .int (nZ lf), .int (nZ nd), .int (nZ 0), .int (nZ ta)])), (sL, .inr (2, [.ref sA, .int (nZ (↑M.length : Int))])), (sA, .inl (k 0, 21, .inl (zA (zU g r p))))] H := hP
    have hD : va_D A [(sh, .inr (5, [.ref sL, .int (nZ cost), .int (nZ ↑r), .int (nZ p), .int (nZ lf), .int (nZ nd), .int (nZ 0), .int (nZ ta)])), (sL, .inr (2, [.ref sA, .int (nZ (↑M.length : Int))])), (sA, .inl (k 0, 21, .inl (zA (zU g r p))))] := hD
    refine lv_aload_n hX hB dX5_finish_33 rfl (lv_at hl 0 rfl) ?_
    refine va_get hX hB hz inlX5 hW hK.1 hP 0 rfl rfl 6 (by decide) (hz _ zw_216) (fun _ h9 => h9) rfl dX5_finish_34 ?_
    refine zz_if_eq X (tgt := 47) dX5_finish_37 (by decide) ⟨by omega, by omega⟩ (fun c_37 => ?_) (fun c_37 => ?_)
    · refine lv_aload_n hX hB dX5_finish_47 rfl (lv_at hl 0 rfl) ?_
      refine lv_aload_n hX hB dX5_finish_48 rfl (lv_at hl 0 rfl) ?_
      refine va_get hX hB hz inlX5 hW hK.1 hP 0 rfl rfl 0 (by decide) (hz _ zw_65) (fun _ h9 => h9) rfl dX5_finish_49 ?_
      refine va_getN (host := "ShoveBeds") hX hB hz inlX2 hW hK.1 hP 1 rfl rfl 1 (by decide) (zn_X5_66 hK.2.1) (fun _ h9 => h9) rfl dX5_finish_52 ?_
      refine zz_if_le X (tgt := 73) dX5_finish_55 (by decide) ⟨by omega, by omega⟩ (fun c_55 => ?_) (fun c_55 => ?_)
      · refine lv_iconst (v := nZ 0) hX hB dX5_finish_73 rfl ?_
        refine va_put (v := .int (nZ 0)) (ty := tyX5 7) hX hB hz inlX5 tyX5 tyX5_ok nmX5 hW hK.1 hP hD hS 0 rfl rfl 7 (by decide) (hz _ zw_217) (fun _ h9 => h9) rfl (by decide +kernel) (rfl) rfl (Nat.le_of_ble_eq_true rfl) dX5_finish_74 (fun H locs hP hD hS => ?_)
        have hP : va_P D vwCl [(sh, .inr (5, [.ref sL, .int (nZ cost), .int (nZ ↑r), .int (nZ p), .int (nZ lf), .int (nZ nd), .int (nZ 0), .int (nZ 0)])), (sL, .inr (2, [.ref sA, .int (nZ (↑M.length : Int))])), (sA, .inl (k 0, 21, .inl (zA (zU g r p))))] H := hP
        have hD : va_D A [(sh, .inr (5, [.ref sL, .int (nZ cost), .int (nZ ↑r), .int (nZ p), .int (nZ lf), .int (nZ nd), .int (nZ 0), .int (nZ 0)])), (sL, .inr (2, [.ref sA, .int (nZ (↑M.length : Int))])), (sA, .inl (k 0, 21, .inl (zA (zU g r p))))] := hD
        refine lv_aload_n hX hB dX5_finish_77 rfl (lv_at hl 0 rfl) ?_
        refine va_get hX hB hz inlX5 hW hK.1 hP 0 rfl rfl 7 (by decide) (hz _ zw_217) (fun _ h9 => h9) rfl dX5_finish_78 ?_
        refine zz_if_eq X (tgt := 91) dX5_finish_81 (by decide) ⟨by omega, by omega⟩ (fun c_81 => ?_) (fun c_81 => ?_)
        · first | (exfalso; omega) | exact zRetV (0, 0, (↑M.length : Int), (zU g r p)) X hP hD hS rfl ⟨by first | rw [if_pos (by omega)] | rw [if_neg (by omega)], by first | rw [if_pos (backS_yes (by first | exact dropS_a (by omega) | exact dropS_b (by omega)) (by omega) c_66)] | rw [if_neg (by first | exact backS_no2 (by first | exact dropS_a (by omega) | exact dropS_b (by omega)) (by omega) c_66 | exact backS_no1 (by first | exact dropS_a (by omega) | exact dropS_b (by omega)) (by omega))], by first | (rw [restS_yes (by first | exact dropS_a (by omega) | exact dropS_b (by omega)) (backS_yes (by first | exact dropS_a (by omega) | exact dropS_b (by omega)) (by omega) c_66)]; exact hL2_88) | (rw [restS_no (by first | exact dropS_a (by omega) | exact dropS_b (by omega)) (by first | exact backS_no2 (by first | exact dropS_a (by omega) | exact dropS_b (by omega)) (by omega) c_66 | exact backS_no1 (by first | exact dropS_a (by omega) | exact dropS_b (by omega)) (by omega))]; first | exact hL2_44 | exact hL2_12)⟩ dX5_finish_91
        · exfalso; omega
      · refine lv_aload_n hX hB dX5_finish_58 rfl (lv_at hl 0 rfl) ?_
        refine va_get hX hB hz inlX5 hW hK.1 hP 0 rfl rfl 0 (by decide) (hz _ zw_65) (fun _ h9 => h9) rfl dX5_finish_59 ?_
        refine lv_iconst (v := nZ 0) hX hB dX5_finish_62 rfl ?_
        refine zCallI0 (zRunVN (As := [.int (nZ 0)]) X mv_X2_placeAt (c_X2_placeAt l D k _ sL sA (↑M.length : Int) (zU g r p) (M.set r p) 0 hL2_12 (by first | assumption | omega | exact ⟨by omega, by omega⟩)) (zn_X5_69 hK.2.1) (zPreV hP hD hK [1, 2] rfl rfl 1 2 rfl rfl rfl) rfl hl (Nat.le_of_ble_eq_true rfl) dX5_finish_63 ⟨rfl, rfl, ⟨Nat.le_of_ble_eq_true rfl, Nat.le_of_ble_eq_true rfl⟩, Nat.le_of_ble_eq_true rfl, Nat.le_of_ble_eq_true rfl⟩ rfl) hS hP hD hA [1, 2] rfl (fun _ => rfl) (fun r_63 u_63 H locs hq_63 hP hD hS => ?_)
        subst hq_63
        have hP : va_P D vwCl [(sh, .inr (5, [.ref sL, .int (nZ cost), .int (nZ ↑r), .int (nZ p), .int (nZ lf), .int (nZ nd), .int (nZ 0), .int (nZ ta)])), (sL, .inr (2, [.ref sA, .int (nZ (↑M.length : Int))])), (sA, .inl (k 0, 21, .inl (zA (zU g r p))))] H := hP
        have hD : va_D A [(sh, .inr (5, [.ref sL, .int (nZ cost), .int (nZ ↑r), .int (nZ p), .int (nZ lf), .int (nZ nd), .int (nZ 0), .int (nZ ta)])), (sL, .inr (2, [.ref sA, .int (nZ (↑M.length : Int))])), (sA, .inl (k 0, 21, .inl (zA (zU g r p))))] := hD
        have hq9 := (by first | exact hL2_44.pl 0 | exact hL2_12.pl 0 : -5 ≤ placeAtS _ 0 ∧ placeAtS _ 0 ≤ 100)
        refine zz_if_ge X (tgt := 73) dX5_finish_66 (by decide) ⟨by omega, by omega⟩ (fun c_66 => ?_) (fun c_66 => ?_)
        · refine lv_iconst (v := nZ 0) hX hB dX5_finish_73 rfl ?_
          refine va_put (v := .int (nZ 0)) (ty := tyX5 7) hX hB hz inlX5 tyX5 tyX5_ok nmX5 hW hK.1 hP hD hS 0 rfl rfl 7 (by decide) (hz _ zw_217) (fun _ h9 => h9) rfl (by decide +kernel) (rfl) rfl (Nat.le_of_ble_eq_true rfl) dX5_finish_74 (fun H locs hP hD hS => ?_)
          have hP : va_P D vwCl [(sh, .inr (5, [.ref sL, .int (nZ cost), .int (nZ ↑r), .int (nZ p), .int (nZ lf), .int (nZ nd), .int (nZ 0), .int (nZ 0)])), (sL, .inr (2, [.ref sA, .int (nZ (↑M.length : Int))])), (sA, .inl (k 0, 21, .inl (zA (zU g r p))))] H := hP
          have hD : va_D A [(sh, .inr (5, [.ref sL, .int (nZ cost), .int (nZ ↑r), .int (nZ p), .int (nZ lf), .int (nZ nd), .int (nZ 0), .int (nZ 0)])), (sL, .inr (2, [.ref sA, .int (nZ (↑M.length : Int))])), (sA, .inl (k 0, 21, .inl (zA (zU g r p))))] := hD
          refine lv_aload_n hX hB dX5_finish_77 rfl (lv_at hl 0 rfl) ?_
          refine va_get hX hB hz inlX5 hW hK.1 hP 0 rfl rfl 7 (by decide) (hz _ zw_217) (fun _ h9 => h9) rfl dX5_finish_78 ?_
          refine zz_if_eq X (tgt := 91) dX5_finish_81 (by decide) ⟨by omega, by omega⟩ (fun c_81 => ?_) (fun c_81 => ?_)
          · first | (exfalso; omega) | exact zRetV (0, 0, (↑M.length : Int), (zU g r p)) X hP hD hS rfl ⟨by first | rw [if_pos (by omega)] | rw [if_neg (by omega)], by first | rw [if_pos (backS_yes (by first | exact dropS_a (by omega) | exact dropS_b (by omega)) (by omega) c_66)] | rw [if_neg (by first | exact backS_no2 (by first | exact dropS_a (by omega) | exact dropS_b (by omega)) (by omega) c_66 | exact backS_no1 (by first | exact dropS_a (by omega) | exact dropS_b (by omega)) (by omega))], by first | (rw [restS_yes (by first | exact dropS_a (by omega) | exact dropS_b (by omega)) (backS_yes (by first | exact dropS_a (by omega) | exact dropS_b (by omega)) (by omega) c_66)]; exact hL2_88) | (rw [restS_no (by first | exact dropS_a (by omega) | exact dropS_b (by omega)) (by first | exact backS_no2 (by first | exact dropS_a (by omega) | exact dropS_b (by omega)) (by omega) c_66 | exact backS_no1 (by first | exact dropS_a (by omega) | exact dropS_b (by omega)) (by omega))]; first | exact hL2_44 | exact hL2_12)⟩ dX5_finish_91
          · exfalso; omega
        · refine lv_iconst (v := nZ 1) hX hB dX5_finish_69 rfl ?_
          refine lv_goto (tgt := 74) hX hB dX5_finish_70 (by decide) ?_
          refine va_put (v := .int (nZ 1)) (ty := tyX5 7) hX hB hz inlX5 tyX5 tyX5_ok nmX5 hW hK.1 hP hD hS 0 rfl rfl 7 (by decide) (hz _ zw_217) (fun _ h9 => h9) rfl (by decide +kernel) (rfl) rfl (Nat.le_of_ble_eq_true rfl) dX5_finish_74 (fun H locs hP hD hS => ?_)
          have hP : va_P D vwCl [(sh, .inr (5, [.ref sL, .int (nZ cost), .int (nZ ↑r), .int (nZ p), .int (nZ lf), .int (nZ nd), .int (nZ 0), .int (nZ 1)])), (sL, .inr (2, [.ref sA, .int (nZ (↑M.length : Int))])), (sA, .inl (k 0, 21, .inl (zA (zU g r p))))] H := hP
          have hD : va_D A [(sh, .inr (5, [.ref sL, .int (nZ cost), .int (nZ ↑r), .int (nZ p), .int (nZ lf), .int (nZ nd), .int (nZ 0), .int (nZ 1)])), (sL, .inr (2, [.ref sA, .int (nZ (↑M.length : Int))])), (sA, .inl (k 0, 21, .inl (zA (zU g r p))))] := hD
          refine lv_aload_n hX hB dX5_finish_77 rfl (lv_at hl 0 rfl) ?_
          refine va_get hX hB hz inlX5 hW hK.1 hP 0 rfl rfl 7 (by decide) (hz _ zw_217) (fun _ h9 => h9) rfl dX5_finish_78 ?_
          refine zz_if_eq X (tgt := 91) dX5_finish_81 (by decide) ⟨by omega, by omega⟩ (fun c_81 => ?_) (fun c_81 => ?_)
          · exfalso; omega
          · refine lv_aload_n hX hB dX5_finish_84 rfl (lv_at hl 0 rfl) ?_
            refine va_get hX hB hz inlX5 hW hK.1 hP 0 rfl rfl 0 (by decide) (hz _ zw_65) (fun _ h9 => h9) rfl dX5_finish_85 ?_
            refine zCallV0 (zRunVN (As := []) X mv_X2_removeFirst (c_X2_removeFirst l D k _ sL sA (↑M.length : Int) (zU g r p) (M.set r p) hL2_12 (by first | assumption | omega | exact ⟨by omega, by omega⟩)) (zn_X5_86 hK.2.1) (zPreV hP hD hK [1, 2] rfl rfl 1 2 rfl rfl rfl) rfl hl (Nat.le_of_ble_eq_true rfl) dX5_finish_88 ⟨rfl, rfl, ⟨Nat.le_of_ble_eq_true rfl, Nat.le_of_ble_eq_true rfl⟩, Nat.le_of_ble_eq_true rfl, Nat.le_of_ble_eq_true rfl⟩ rfl) hS hP hD hA [1, 2] rfl (fun _ => rfl) (fun u_88 H locs hq_88 hP hD hS => ?_)
            obtain ⟨g2_88, e9⟩ : ∃ z9, z9 = u_88 := ⟨_, rfl⟩; subst e9
            have hL2_88 := hq_88
            try dsimp only at hL2_88
            have hP : va_P D vwCl [(sh, .inr (5, [.ref sL, .int (nZ cost), .int (nZ ↑r), .int (nZ p), .int (nZ lf), .int (nZ nd), .int (nZ 0), .int (nZ 1)])), (sL, .inr (2, [.ref sA, .int (nZ ((↑M.length : Int) - 1))])), (sA, .inl (k 0, 21, .inl (zA g2_88)))] H := hP
            have hD : va_D A [(sh, .inr (5, [.ref sL, .int (nZ cost), .int (nZ ↑r), .int (nZ p), .int (nZ lf), .int (nZ nd), .int (nZ 0), .int (nZ 1)])), (sL, .inr (2, [.ref sA, .int (nZ ((↑M.length : Int) - 1))])), (sA, .inl (k 0, 21, .inl (zA g2_88)))] := hD
            first | (exfalso; omega) | exact zRetV (0, 1, ((↑M.length : Int) - 1), g2_88) X hP hD hS rfl ⟨by first | rw [if_pos (by omega)] | rw [if_neg (by omega)], by first | rw [if_pos (backS_yes (by first | exact dropS_a (by omega) | exact dropS_b (by omega)) (by omega) c_66)] | rw [if_neg (by first | exact backS_no2 (by first | exact dropS_a (by omega) | exact dropS_b (by omega)) (by omega) c_66 | exact backS_no1 (by first | exact dropS_a (by omega) | exact dropS_b (by omega)) (by omega))], by first | (rw [restS_yes (by first | exact dropS_a (by omega) | exact dropS_b (by omega)) (backS_yes (by first | exact dropS_a (by omega) | exact dropS_b (by omega)) (by omega) c_66)]; exact hL2_88) | (rw [restS_no (by first | exact dropS_a (by omega) | exact dropS_b (by omega)) (by first | exact backS_no2 (by first | exact dropS_a (by omega) | exact dropS_b (by omega)) (by omega) c_66 | exact backS_no1 (by first | exact dropS_a (by omega) | exact dropS_b (by omega)) (by omega))]; first | exact hL2_44 | exact hL2_12)⟩ dX5_finish_91
    · exfalso; omega
  · refine lv_iconst (v := nZ 1) hX hB dX5_finish_25 rfl ?_
    refine lv_goto (tgt := 30) hX hB dX5_finish_26 (by decide) ?_
    refine va_put (v := .int (nZ 1)) (ty := tyX5 6) hX hB hz inlX5 tyX5 tyX5_ok nmX5 hW hK.1 hP hD hS 0 rfl rfl 6 (by decide) (hz _ zw_216) (fun _ h9 => h9) rfl (by decide +kernel) (rfl) rfl (Nat.le_of_ble_eq_true rfl) dX5_finish_30 (fun H locs hP hD hS => ?_)
    have hP : va_P D vwCl [(sh, .inr (5, [.ref sL, .int (nZ cost), .int (nZ ↑r), .int (nZ p), .int (nZ lf), .int (nZ nd), .int (nZ 1), .int (nZ ta)])), (sL, .inr (2, [.ref sA, .int (nZ (↑M.length : Int))])), (sA, .inl (k 0, 21, .inl (zA (zU g r p))))] H := hP
    have hD : va_D A [(sh, .inr (5, [.ref sL, .int (nZ cost), .int (nZ ↑r), .int (nZ p), .int (nZ lf), .int (nZ nd), .int (nZ 1), .int (nZ ta)])), (sL, .inr (2, [.ref sA, .int (nZ (↑M.length : Int))])), (sA, .inl (k 0, 21, .inl (zA (zU g r p))))] := hD
    refine lv_aload_n hX hB dX5_finish_33 rfl (lv_at hl 0 rfl) ?_
    refine va_get hX hB hz inlX5 hW hK.1 hP 0 rfl rfl 6 (by decide) (hz _ zw_216) (fun _ h9 => h9) rfl dX5_finish_34 ?_
    refine zz_if_eq X (tgt := 47) dX5_finish_37 (by decide) ⟨by omega, by omega⟩ (fun c_37 => ?_) (fun c_37 => ?_)
    · exfalso; omega
    · refine lv_aload_n hX hB dX5_finish_40 rfl (lv_at hl 0 rfl) ?_
      refine va_get hX hB hz inlX5 hW hK.1 hP 0 rfl rfl 0 (by decide) (hz _ zw_65) (fun _ h9 => h9) rfl dX5_finish_41 ?_
      refine zCallV0 (zRunVN (As := []) X mv_X2_removeLast (c_X2_removeLast l D k _ sL sA (↑M.length : Int) (zU g r p) (M.set r p) hL2_12 (by first | assumption | omega | exact ⟨by omega, by omega⟩)) (zn_X5_80 hK.2.1) (zPreV hP hD hK [1, 2] rfl rfl 1 2 rfl rfl rfl) rfl hl (Nat.le_of_ble_eq_true rfl) dX5_finish_44 ⟨rfl, rfl, ⟨Nat.le_of_ble_eq_true rfl, Nat.le_of_ble_eq_true rfl⟩, Nat.le_of_ble_eq_true rfl, Nat.le_of_ble_eq_true rfl⟩ rfl) hS hP hD hA [1, 2] rfl (fun _ => rfl) (fun u_44 H locs hq_44 hP hD hS => ?_)
      have hL2_44 := hq_44
      try dsimp only at hL2_44
      have hP : va_P D vwCl [(sh, .inr (5, [.ref sL, .int (nZ cost), .int (nZ ↑r), .int (nZ p), .int (nZ lf), .int (nZ nd), .int (nZ 1), .int (nZ ta)])), (sL, .inr (2, [.ref sA, .int (nZ ((↑M.length : Int) - 1))])), (sA, .inl (k 0, 21, .inl (zA (zU g r p))))] H := hP
      have hD : va_D A [(sh, .inr (5, [.ref sL, .int (nZ cost), .int (nZ ↑r), .int (nZ p), .int (nZ lf), .int (nZ nd), .int (nZ 1), .int (nZ ta)])), (sL, .inr (2, [.ref sA, .int (nZ ((↑M.length : Int) - 1))])), (sA, .inl (k 0, 21, .inl (zA (zU g r p))))] := hD
      refine lv_aload_n hX hB dX5_finish_47 rfl (lv_at hl 0 rfl) ?_
      refine lv_aload_n hX hB dX5_finish_48 rfl (lv_at hl 0 rfl) ?_
      refine va_get hX hB hz inlX5 hW hK.1 hP 0 rfl rfl 0 (by decide) (hz _ zw_65) (fun _ h9 => h9) rfl dX5_finish_49 ?_
      refine va_getN (host := "ShoveBeds") hX hB hz inlX2 hW hK.1 hP 1 rfl rfl 1 (by decide) (zn_X5_66 hK.2.1) (fun _ h9 => h9) rfl dX5_finish_52 ?_
      refine zz_if_le X (tgt := 73) dX5_finish_55 (by decide) ⟨by omega, by omega⟩ (fun c_55 => ?_) (fun c_55 => ?_)
      · refine lv_iconst (v := nZ 0) hX hB dX5_finish_73 rfl ?_
        refine va_put (v := .int (nZ 0)) (ty := tyX5 7) hX hB hz inlX5 tyX5 tyX5_ok nmX5 hW hK.1 hP hD hS 0 rfl rfl 7 (by decide) (hz _ zw_217) (fun _ h9 => h9) rfl (by decide +kernel) (rfl) rfl (Nat.le_of_ble_eq_true rfl) dX5_finish_74 (fun H locs hP hD hS => ?_)
        have hP : va_P D vwCl [(sh, .inr (5, [.ref sL, .int (nZ cost), .int (nZ ↑r), .int (nZ p), .int (nZ lf), .int (nZ nd), .int (nZ 1), .int (nZ 0)])), (sL, .inr (2, [.ref sA, .int (nZ ((↑M.length : Int) - 1))])), (sA, .inl (k 0, 21, .inl (zA (zU g r p))))] H := hP
        have hD : va_D A [(sh, .inr (5, [.ref sL, .int (nZ cost), .int (nZ ↑r), .int (nZ p), .int (nZ lf), .int (nZ nd), .int (nZ 1), .int (nZ 0)])), (sL, .inr (2, [.ref sA, .int (nZ ((↑M.length : Int) - 1))])), (sA, .inl (k 0, 21, .inl (zA (zU g r p))))] := hD
        refine lv_aload_n hX hB dX5_finish_77 rfl (lv_at hl 0 rfl) ?_
        refine va_get hX hB hz inlX5 hW hK.1 hP 0 rfl rfl 7 (by decide) (hz _ zw_217) (fun _ h9 => h9) rfl dX5_finish_78 ?_
        refine zz_if_eq X (tgt := 91) dX5_finish_81 (by decide) ⟨by omega, by omega⟩ (fun c_81 => ?_) (fun c_81 => ?_)
        · first | (exfalso; omega) | exact zRetV (1, 0, ((↑M.length : Int) - 1), (zU g r p)) X hP hD hS rfl ⟨by first | rw [if_pos (by omega)] | rw [if_neg (by omega)], by first | rw [if_pos (backS_yes (by first | exact dropS_a (by omega) | exact dropS_b (by omega)) (by omega) c_66)] | rw [if_neg (by first | exact backS_no2 (by first | exact dropS_a (by omega) | exact dropS_b (by omega)) (by omega) c_66 | exact backS_no1 (by first | exact dropS_a (by omega) | exact dropS_b (by omega)) (by omega))], by first | (rw [restS_yes (by first | exact dropS_a (by omega) | exact dropS_b (by omega)) (backS_yes (by first | exact dropS_a (by omega) | exact dropS_b (by omega)) (by omega) c_66)]; exact hL2_88) | (rw [restS_no (by first | exact dropS_a (by omega) | exact dropS_b (by omega)) (by first | exact backS_no2 (by first | exact dropS_a (by omega) | exact dropS_b (by omega)) (by omega) c_66 | exact backS_no1 (by first | exact dropS_a (by omega) | exact dropS_b (by omega)) (by omega))]; first | exact hL2_44 | exact hL2_12)⟩ dX5_finish_91
        · exfalso; omega
      · refine lv_aload_n hX hB dX5_finish_58 rfl (lv_at hl 0 rfl) ?_
        refine va_get hX hB hz inlX5 hW hK.1 hP 0 rfl rfl 0 (by decide) (hz _ zw_65) (fun _ h9 => h9) rfl dX5_finish_59 ?_
        refine lv_iconst (v := nZ 0) hX hB dX5_finish_62 rfl ?_
        refine zCallI0 (zRunVN (As := [.int (nZ 0)]) X mv_X2_placeAt (c_X2_placeAt l D k _ sL sA ((↑M.length : Int) - 1) (zU g r p) ((M.set r p).dropLast) 0 hL2_44 (by first | assumption | omega | exact ⟨by omega, by omega⟩)) (zn_X5_69 hK.2.1) (zPreV hP hD hK [1, 2] rfl rfl 1 2 rfl rfl rfl) rfl hl (Nat.le_of_ble_eq_true rfl) dX5_finish_63 ⟨rfl, rfl, ⟨Nat.le_of_ble_eq_true rfl, Nat.le_of_ble_eq_true rfl⟩, Nat.le_of_ble_eq_true rfl, Nat.le_of_ble_eq_true rfl⟩ rfl) hS hP hD hA [1, 2] rfl (fun _ => rfl) (fun r_63 u_63 H locs hq_63 hP hD hS => ?_)
        subst hq_63
        have hP : va_P D vwCl [(sh, .inr (5, [.ref sL, .int (nZ cost), .int (nZ ↑r), .int (nZ p), .int (nZ lf), .int (nZ nd), .int (nZ 1), .int (nZ ta)])), (sL, .inr (2, [.ref sA, .int (nZ ((↑M.length : Int) - 1))])), (sA, .inl (k 0, 21, .inl (zA (zU g r p))))] H := hP
        have hD : va_D A [(sh, .inr (5, [.ref sL, .int (nZ cost), .int (nZ ↑r), .int (nZ p), .int (nZ lf), .int (nZ nd), .int (nZ 1), .int (nZ ta)])), (sL, .inr (2, [.ref sA, .int (nZ ((↑M.length : Int) - 1))])), (sA, .inl (k 0, 21, .inl (zA (zU g r p))))] := hD
        have hq9 := (by first | exact hL2_44.pl 0 | exact hL2_12.pl 0 : -5 ≤ placeAtS _ 0 ∧ placeAtS _ 0 ≤ 100)
        refine zz_if_ge X (tgt := 73) dX5_finish_66 (by decide) ⟨by omega, by omega⟩ (fun c_66 => ?_) (fun c_66 => ?_)
        · refine lv_iconst (v := nZ 0) hX hB dX5_finish_73 rfl ?_
          refine va_put (v := .int (nZ 0)) (ty := tyX5 7) hX hB hz inlX5 tyX5 tyX5_ok nmX5 hW hK.1 hP hD hS 0 rfl rfl 7 (by decide) (hz _ zw_217) (fun _ h9 => h9) rfl (by decide +kernel) (rfl) rfl (Nat.le_of_ble_eq_true rfl) dX5_finish_74 (fun H locs hP hD hS => ?_)
          have hP : va_P D vwCl [(sh, .inr (5, [.ref sL, .int (nZ cost), .int (nZ ↑r), .int (nZ p), .int (nZ lf), .int (nZ nd), .int (nZ 1), .int (nZ 0)])), (sL, .inr (2, [.ref sA, .int (nZ ((↑M.length : Int) - 1))])), (sA, .inl (k 0, 21, .inl (zA (zU g r p))))] H := hP
          have hD : va_D A [(sh, .inr (5, [.ref sL, .int (nZ cost), .int (nZ ↑r), .int (nZ p), .int (nZ lf), .int (nZ nd), .int (nZ 1), .int (nZ 0)])), (sL, .inr (2, [.ref sA, .int (nZ ((↑M.length : Int) - 1))])), (sA, .inl (k 0, 21, .inl (zA (zU g r p))))] := hD
          refine lv_aload_n hX hB dX5_finish_77 rfl (lv_at hl 0 rfl) ?_
          refine va_get hX hB hz inlX5 hW hK.1 hP 0 rfl rfl 7 (by decide) (hz _ zw_217) (fun _ h9 => h9) rfl dX5_finish_78 ?_
          refine zz_if_eq X (tgt := 91) dX5_finish_81 (by decide) ⟨by omega, by omega⟩ (fun c_81 => ?_) (fun c_81 => ?_)
          · first | (exfalso; omega) | exact zRetV (1, 0, ((↑M.length : Int) - 1), (zU g r p)) X hP hD hS rfl ⟨by first | rw [if_pos (by omega)] | rw [if_neg (by omega)], by first | rw [if_pos (backS_yes (by first | exact dropS_a (by omega) | exact dropS_b (by omega)) (by omega) c_66)] | rw [if_neg (by first | exact backS_no2 (by first | exact dropS_a (by omega) | exact dropS_b (by omega)) (by omega) c_66 | exact backS_no1 (by first | exact dropS_a (by omega) | exact dropS_b (by omega)) (by omega))], by first | (rw [restS_yes (by first | exact dropS_a (by omega) | exact dropS_b (by omega)) (backS_yes (by first | exact dropS_a (by omega) | exact dropS_b (by omega)) (by omega) c_66)]; exact hL2_88) | (rw [restS_no (by first | exact dropS_a (by omega) | exact dropS_b (by omega)) (by first | exact backS_no2 (by first | exact dropS_a (by omega) | exact dropS_b (by omega)) (by omega) c_66 | exact backS_no1 (by first | exact dropS_a (by omega) | exact dropS_b (by omega)) (by omega))]; first | exact hL2_44 | exact hL2_12)⟩ dX5_finish_91
          · exfalso; omega
        · refine lv_iconst (v := nZ 1) hX hB dX5_finish_69 rfl ?_
          refine lv_goto (tgt := 74) hX hB dX5_finish_70 (by decide) ?_
          refine va_put (v := .int (nZ 1)) (ty := tyX5 7) hX hB hz inlX5 tyX5 tyX5_ok nmX5 hW hK.1 hP hD hS 0 rfl rfl 7 (by decide) (hz _ zw_217) (fun _ h9 => h9) rfl (by decide +kernel) (rfl) rfl (Nat.le_of_ble_eq_true rfl) dX5_finish_74 (fun H locs hP hD hS => ?_)
          have hP : va_P D vwCl [(sh, .inr (5, [.ref sL, .int (nZ cost), .int (nZ ↑r), .int (nZ p), .int (nZ lf), .int (nZ nd), .int (nZ 1), .int (nZ 1)])), (sL, .inr (2, [.ref sA, .int (nZ ((↑M.length : Int) - 1))])), (sA, .inl (k 0, 21, .inl (zA (zU g r p))))] H := hP
          have hD : va_D A [(sh, .inr (5, [.ref sL, .int (nZ cost), .int (nZ ↑r), .int (nZ p), .int (nZ lf), .int (nZ nd), .int (nZ 1), .int (nZ 1)])), (sL, .inr (2, [.ref sA, .int (nZ ((↑M.length : Int) - 1))])), (sA, .inl (k 0, 21, .inl (zA (zU g r p))))] := hD
          refine lv_aload_n hX hB dX5_finish_77 rfl (lv_at hl 0 rfl) ?_
          refine va_get hX hB hz inlX5 hW hK.1 hP 0 rfl rfl 7 (by decide) (hz _ zw_217) (fun _ h9 => h9) rfl dX5_finish_78 ?_
          refine zz_if_eq X (tgt := 91) dX5_finish_81 (by decide) ⟨by omega, by omega⟩ (fun c_81 => ?_) (fun c_81 => ?_)
          · exfalso; omega
          · refine lv_aload_n hX hB dX5_finish_84 rfl (lv_at hl 0 rfl) ?_
            refine va_get hX hB hz inlX5 hW hK.1 hP 0 rfl rfl 0 (by decide) (hz _ zw_65) (fun _ h9 => h9) rfl dX5_finish_85 ?_
            refine zCallV0 (zRunVN (As := []) X mv_X2_removeFirst (c_X2_removeFirst l D k _ sL sA ((↑M.length : Int) - 1) (zU g r p) ((M.set r p).dropLast) hL2_44 (by first | assumption | omega | exact ⟨by omega, by omega⟩)) (zn_X5_86 hK.2.1) (zPreV hP hD hK [1, 2] rfl rfl 1 2 rfl rfl rfl) rfl hl (Nat.le_of_ble_eq_true rfl) dX5_finish_88 ⟨rfl, rfl, ⟨Nat.le_of_ble_eq_true rfl, Nat.le_of_ble_eq_true rfl⟩, Nat.le_of_ble_eq_true rfl, Nat.le_of_ble_eq_true rfl⟩ rfl) hS hP hD hA [1, 2] rfl (fun _ => rfl) (fun u_88 H locs hq_88 hP hD hS => ?_)
            obtain ⟨g2_88, e9⟩ : ∃ z9, z9 = u_88 := ⟨_, rfl⟩; subst e9
            have hL2_88 := hq_88
            try dsimp only at hL2_88
            have hP : va_P D vwCl [(sh, .inr (5, [.ref sL, .int (nZ cost), .int (nZ ↑r), .int (nZ p), .int (nZ lf), .int (nZ nd), .int (nZ 1), .int (nZ 1)])), (sL, .inr (2, [.ref sA, .int (nZ (((↑M.length : Int) - 1) - 1))])), (sA, .inl (k 0, 21, .inl (zA g2_88)))] H := hP
            have hD : va_D A [(sh, .inr (5, [.ref sL, .int (nZ cost), .int (nZ ↑r), .int (nZ p), .int (nZ lf), .int (nZ nd), .int (nZ 1), .int (nZ 1)])), (sL, .inr (2, [.ref sA, .int (nZ (((↑M.length : Int) - 1) - 1))])), (sA, .inl (k 0, 21, .inl (zA g2_88)))] := hD
            first | (exfalso; omega) | exact zRetV (1, 1, (((↑M.length : Int) - 1) - 1), g2_88) X hP hD hS rfl ⟨by first | rw [if_pos (by omega)] | rw [if_neg (by omega)], by first | rw [if_pos (backS_yes (by first | exact dropS_a (by omega) | exact dropS_b (by omega)) (by omega) c_66)] | rw [if_neg (by first | exact backS_no2 (by first | exact dropS_a (by omega) | exact dropS_b (by omega)) (by omega) c_66 | exact backS_no1 (by first | exact dropS_a (by omega) | exact dropS_b (by omega)) (by omega))], by first | (rw [restS_yes (by first | exact dropS_a (by omega) | exact dropS_b (by omega)) (backS_yes (by first | exact dropS_a (by omega) | exact dropS_b (by omega)) (by omega) c_66)]; exact hL2_88) | (rw [restS_no (by first | exact dropS_a (by omega) | exact dropS_b (by omega)) (by first | exact backS_no2 (by first | exact dropS_a (by omega) | exact dropS_b (by omega)) (by omega) c_66 | exact backS_no1 (by first | exact dropS_a (by omega) | exact dropS_b (by omega)) (by omega))]; first | exact hL2_44 | exact hL2_12)⟩ dX5_finish_91
set_option maxHeartbeats 4000000 in
set_option maxRecDepth 100000 in
theorem c_X5_coinByCoin (l : Launch) (D : va_G) (k : Nat → ClassId) (sz : Nat) (sh sL sA a2 b2 : Nat) (cost rk p lf nd fe ta n c2 st n2 : Int) (g g2 : Nat → Int) (L : List Int) (hL : laneOk g2 n2 L) (hl20 : L.length ≤ 20) (hc2 : 0 ≤ c2 ∧ c2 ≤ 20) (hst : 1 ≤ st ∧ st ≤ 150) (hch : chainS (-5) L) : Met l yX5_coinByCoin (zW yX5_coinByCoin cX5_coinByCoin 5 none) ({ frames := 2, cells := 0, slots := 0, locals := 46 } : Room) (va_Pc [.ref sh, .ref a2, .int (nZ st), .int (nZ c2)] (zIn D k sz [(sh, .inr (5, [.ref sL, .int (nZ cost), .int (nZ rk), .int (nZ p), .int (nZ lf), .int (nZ nd), .int (nZ fe), .int (nZ ta)])), (sL, .inr (2, [.ref sA, .int (nZ n)])), (sA, .inl (k 0, 21, .inl (zA g))), (a2, .inr (2, [.ref b2, .int (nZ n2)])), (b2, .inl (k 0, 21, .inl (zA g2)))])) (va_Qv (fun (uz : Int × Int × Int × Int × Int × Int × Int × (Nat → Int)) => shoved c2 st L uz.2.1 uz.2.2.2.1 uz.2.2.2.2.1 uz.2.2.2.2.2.1 uz.2.2.2.2.2.2.2 uz.2.2.2.2.2.2.1) (fun (uz : Int × Int × Int × Int × Int × Int × Int × (Nat → Int)) => zOut D (va_A [(sh, .inr (5, [.ref sL, .int (nZ cost), .int (nZ rk), .int (nZ p), .int (nZ lf), .int (nZ nd), .int (nZ fe), .int (nZ ta)])), (sL, .inr (2, [.ref sA, .int (nZ n)])), (sA, .inl (k 0, 21, .inl (zA g))), (a2, .inr (2, [.ref b2, .int (nZ n2)])), (b2, .inl (k 0, 21, .inl (zA g2)))] sz) [(sh, .inr (5, [.ref sL, .int (nZ c2), .int (nZ uz.1), .int (nZ uz.2.1), .int (nZ uz.2.2.1), .int (nZ uz.2.2.2.1), .int (nZ uz.2.2.2.2.1), .int (nZ uz.2.2.2.2.2.1)])), (sL, .inr (2, [.ref sA, .int (nZ uz.2.2.2.2.2.2.1)])), (sA, .inl (k 0, 21, .inl (zA uz.2.2.2.2.2.2.2))), (a2, .inr (2, [.ref b2, .int (nZ n2)])), (b2, .inl (k 0, 21, .inl (zA g2)))]) (va_A [(sh, .inr (5, [.ref sL, .int (nZ cost), .int (nZ rk), .int (nZ p), .int (nZ lf), .int (nZ nd), .int (nZ fe), .int (nZ ta)])), (sL, .inr (2, [.ref sA, .int (nZ n)])), (sA, .inl (k 0, 21, .inl (zA g))), (a2, .inr (2, [.ref b2, .int (nZ n2)])), (b2, .inl (k 0, 21, .inl (zA g2)))] sz)) 0 0 (va_A [(sh, .inr (5, [.ref sL, .int (nZ cost), .int (nZ rk), .int (nZ p), .int (nZ lf), .int (nZ nd), .int (nZ fe), .int (nZ ta)])), (sL, .inr (2, [.ref sA, .int (nZ n)])), (sA, .inl (k 0, 21, .inl (zA g))), (a2, .inr (2, [.ref b2, .int (nZ n2)])), (b2, .inl (k 0, 21, .inl (zA g2)))] sz) := by
  refine zEnter (Qf := fun A => va_Qv (fun (uz : Int × Int × Int × Int × Int × Int × Int × (Nat → Int)) => shoved c2 st L uz.2.1 uz.2.2.2.1 uz.2.2.2.2.1 uz.2.2.2.2.2.1 uz.2.2.2.2.2.2.2 uz.2.2.2.2.2.2.1) (fun (uz : Int × Int × Int × Int × Int × Int × Int × (Nat → Int)) => zOut D A [(sh, .inr (5, [.ref sL, .int (nZ c2), .int (nZ uz.1), .int (nZ uz.2.1), .int (nZ uz.2.2.1), .int (nZ uz.2.2.2.1), .int (nZ uz.2.2.2.2.1), .int (nZ uz.2.2.2.2.2.1)])), (sL, .inr (2, [.ref sA, .int (nZ uz.2.2.2.2.2.2.1)])), (sA, .inl (k 0, 21, .inl (zA uz.2.2.2.2.2.2.2))), (a2, .inr (2, [.ref b2, .int (nZ n2)])), (b2, .inl (k 0, 21, .inl (zA g2)))]) A) RX5 (by decide) rfl (Nat.le_of_ble_eq_true rfl) ?_
  intro p9 e9 s9 m9 be9 me9 c9 ls A X hin hP hD hS hA hAe hl
  have hX := X.1; have hB := X.2.1; have hz := X.2.2.2.2.1; have hW := X.2.2.2.2.2.1; have hK := X.2.2.2.2.2.2.2; clear hAe
  clear hin
  have hl : lv_has ls 5 [(0, .ref sh), (1, .ref a2), (2, .int (nZ st)), (3, .int (nZ c2))] := hl
  refine lv_aload_n hX hB dX5_coinByCoin_0 rfl (lv_at hl 0 rfl) ?_
  refine lv_aload_n hX hB dX5_coinByCoin_1 rfl (lv_at hl 1 rfl) ?_
  refine lv_iload_n hX hB dX5_coinByCoin_2 rfl (lv_at hl 2 rfl) ?_
  refine lv_iload_n hX hB dX5_coinByCoin_3 rfl (lv_at hl 3 rfl) ?_
  refine zCallV0 (zRunV (As := [.ref a2, .int (nZ st), .int (nZ c2)]) X mv_X5_start (c_X5_start l D k _ sh sL sA a2 b2 cost rk p lf nd fe ta n c2 st n2 g g2 L hL hl20) zw_183 (zPreV hP hD hK [0, 1, 2, 3, 4] rfl rfl 0 5 rfl rfl rfl) rfl hl (Nat.le_of_ble_eq_true rfl) dX5_coinByCoin_4 ⟨rfl, rfl, ⟨Nat.le_of_ble_eq_true rfl, Nat.le_of_ble_eq_true rfl⟩, Nat.le_of_ble_eq_true rfl, Nat.le_of_ble_eq_true rfl⟩ rfl) hS hP hD hA [0, 1, 2, 3, 4] rfl (fun _ => rfl) (fun u_4 H locs hq_4 hP hD hS => ?_)
  obtain ⟨g3_4, e9⟩ : ∃ z9, z9 = u_4 := ⟨_, rfl⟩; subst e9
  have hM_4 := hq_4
  try dsimp only at hM_4
  have hP : va_P D vwCl [(sh, .inr (5, [.ref sL, .int (nZ c2), .int (nZ 0), .int (nZ (-5)), .int (nZ st), .int (nZ 0), .int (nZ fe), .int (nZ ta)])), (sL, .inr (2, [.ref sA, .int (nZ (n2 + 1))])), (sA, .inl (k 0, 21, .inl (zA g3_4))), (a2, .inr (2, [.ref b2, .int (nZ n2)])), (b2, .inl (k 0, 21, .inl (zA g2)))] H := hP
  have hD : va_D A [(sh, .inr (5, [.ref sL, .int (nZ c2), .int (nZ 0), .int (nZ (-5)), .int (nZ st), .int (nZ 0), .int (nZ fe), .int (nZ ta)])), (sL, .inr (2, [.ref sA, .int (nZ (n2 + 1))])), (sA, .inl (k 0, 21, .inl (zA g3_4))), (a2, .inr (2, [.ref b2, .int (nZ n2)])), (b2, .inl (k 0, 21, .inl (zA g2)))] := hD
  refine lv_iconst (v := nZ 0) hX hB dX5_coinByCoin_7 rfl ?_
  refine lv_istore (lv' := [(4, .int (nZ 0)), (0, .ref sh), (1, .ref a2), (2, .int (nZ st)), (3, .int (nZ c2))]) hX hB dX5_coinByCoin_8 hl (by decide) rfl (fun ls hl => ?_)
  refine zLoop (σ := Nat × (List Int) × Nat × Int × Int × Int × Int × (Nat → Int)) (fun (x : Nat × (List Int) × Nat × Int × Int × Int × Int × (Nat → Int)) (H : Heap) (locs : List Loc) (ls : Array Slot) => match x with | (i, M, r, p1, lf1, nd1, n1, g1) => (laneOk g1 n1 M) ∧ (r < M.length) ∧ (-5 ≤ p1 ∧ p1 ≤ 100) ∧ (-20 ≤ lf1 ∧ lf1 ≤ 150) ∧ (0 < lf1 → p1 < 100 ∧ r = i ∧ chainS p1 (M.drop (r + 1))) ∧ (finM c2 M r p1 lf1 nd1 = finM c2 (-5 :: L) 0 (-5) st 0) ∧ (i ≤ 21) ∧ va_P D vwCl [(sh, .inr (5, [.ref sL, .int (nZ c2), .int (nZ ↑r), .int (nZ p1), .int (nZ lf1), .int (nZ nd1), .int (nZ fe), .int (nZ ta)])), (sL, .inr (2, [.ref sA, .int (nZ n1)])), (sA, .inl (k 0, 21, .inl (zA g1))), (a2, .inr (2, [.ref b2, .int (nZ n2)])), (b2, .inl (k 0, 21, .inl (zA g2)))] H ∧ va_D A [(sh, .inr (5, [.ref sL, .int (nZ c2), .int (nZ ↑r), .int (nZ p1), .int (nZ lf1), .int (nZ nd1), .int (nZ fe), .int (nZ ta)])), (sL, .inr (2, [.ref sA, .int (nZ n1)])), (sA, .inl (k 0, 21, .inl (zA g1))), (a2, .inr (2, [.ref b2, .int (nZ n2)])), (b2, .inl (k 0, 21, .inl (zA g2)))] ∧ va_S A s9.heap H locs ∧ lv_has ls 5 [(0, .ref sh), (1, .ref a2), (2, .int (nZ st)), (3, .int (nZ c2)), (4, .int (nZ ↑i))]) (fun (x : Nat × (List Int) × Nat × Int × Int × Int × Int × (Nat → Int)) => match x with | (i, M, r, p1, lf1, nd1, n1, g1) => 21 - i) ?_ (0, (-5 :: L), 0, (-5), st, 0, (n2 + 1), g3_4) ⟨(hM_4), (by simp), (by omega), (by omega), (by intro h9; exact ⟨by omega, rfl, hch⟩), (by rfl), (by first | omega | assumption | rfl), hP, hD, hS, (lv_sub hl [1, 2, 3, 4, 0] rfl)⟩
  rintro ⟨i, M, r, p1, lf1, nd1, n1, g1⟩ H locs ls ⟨hM, hr, hp, hlf, hgo, hf, hi, hP, hD, hS, hl⟩ ih_10
  refine lv_iload hX hB dX5_coinByCoin_10 (lv_at hl 4 rfl) ?_
  refine lv_bipush (v := nZ 21) hX hB dX5_coinByCoin_12 (by decide) ?_
  refine zz_icmp_ge X (tgt := 56) dX5_coinByCoin_14 (by decide) ⟨by omega, by omega⟩ ⟨by omega, by omega⟩ (fun c_14 => ?_) (fun c_14 => ?_)
  · have hle : lf1 ≤ 0 := by (rcases Int.lt_or_le 0 lf1 with q | q; { have q2 := hgo q; have q3 := hM.2.1; omega }; { exact q })
    refine lv_aload_n hX hB dX5_coinByCoin_56 rfl (lv_at hl 0 rfl) ?_
    refine zCallV0 (zRunV (As := []) X mv_X5_finish (c_X5_finish l D k _ sh sL sA c2 p1 lf1 nd1 fe ta n1 g1 r M hM hr hp) zw_212 (zPreV hP hD hK [0, 1, 2] rfl rfl 0 5 rfl rfl rfl) rfl hl (Nat.le_of_ble_eq_true rfl) dX5_coinByCoin_57 ⟨rfl, rfl, ⟨Nat.le_of_ble_eq_true rfl, Nat.le_of_ble_eq_true rfl⟩, Nat.le_of_ble_eq_true rfl, Nat.le_of_ble_eq_true rfl⟩ rfl) hS hP hD hA [0, 1, 2] rfl (fun _ => rfl) (fun u_57 H locs hq_57 hP hD hS => ?_)
    obtain ⟨fe2_57, ta2_57, n2_57, g2_57⟩ := u_57
    obtain ⟨hfe_57, hta_57, hM2_57⟩ := hq_57
    try dsimp only at hfe_57 hta_57 hM2_57
    have hP : va_P D vwCl [(sh, .inr (5, [.ref sL, .int (nZ c2), .int (nZ ↑r), .int (nZ p1), .int (nZ lf1), .int (nZ nd1), .int (nZ fe2_57), .int (nZ ta2_57)])), (sL, .inr (2, [.ref sA, .int (nZ n2_57)])), (sA, .inl (k 0, 21, .inl (zA g2_57))), (a2, .inr (2, [.ref b2, .int (nZ n2)])), (b2, .inl (k 0, 21, .inl (zA g2)))] H := hP
    have hD : va_D A [(sh, .inr (5, [.ref sL, .int (nZ c2), .int (nZ ↑r), .int (nZ p1), .int (nZ lf1), .int (nZ nd1), .int (nZ fe2_57), .int (nZ ta2_57)])), (sL, .inr (2, [.ref sA, .int (nZ n2_57)])), (sA, .inl (k 0, 21, .inl (zA g2_57))), (a2, .inr (2, [.ref b2, .int (nZ n2)])), (b2, .inl (k 0, 21, .inl (zA g2)))] := hD
    exact zRetV (↑r, p1, lf1, nd1, fe2_57, ta2_57, n2_57, g2_57) X hP hD hS rfl (shoved_of (by omega) hf hle hfe_57 hta_57 hM2_57) dX5_coinByCoin_60
  · refine lv_aload_n hX hB dX5_coinByCoin_17 rfl (lv_at hl 0 rfl) ?_
    refine va_get hX hB hz inlX5 hW hK.1 hP 0 rfl rfl 4 (by decide) (hz _ zw_182) (fun _ h9 => h9) rfl dX5_coinByCoin_18 ?_
    refine zz_if_le X (tgt := 56) dX5_coinByCoin_21 (by decide) ⟨by omega, by omega⟩ (fun c_21 => ?_) (fun c_21 => ?_)
    · have hle : lf1 ≤ 0 := by (rcases Int.lt_or_le 0 lf1 with q | q; { have q2 := hgo q; have q3 := hM.2.1; omega }; { exact q })
      refine lv_aload_n hX hB dX5_coinByCoin_56 rfl (lv_at hl 0 rfl) ?_
      refine zCallV0 (zRunV (As := []) X mv_X5_finish (c_X5_finish l D k _ sh sL sA c2 p1 lf1 nd1 fe ta n1 g1 r M hM hr hp) zw_212 (zPreV hP hD hK [0, 1, 2] rfl rfl 0 5 rfl rfl rfl) rfl hl (Nat.le_of_ble_eq_true rfl) dX5_coinByCoin_57 ⟨rfl, rfl, ⟨Nat.le_of_ble_eq_true rfl, Nat.le_of_ble_eq_true rfl⟩, Nat.le_of_ble_eq_true rfl, Nat.le_of_ble_eq_true rfl⟩ rfl) hS hP hD hA [0, 1, 2] rfl (fun _ => rfl) (fun u_57 H locs hq_57 hP hD hS => ?_)
      obtain ⟨fe2_57, ta2_57, n2_57, g2_57⟩ := u_57
      obtain ⟨hfe_57, hta_57, hM2_57⟩ := hq_57
      try dsimp only at hfe_57 hta_57 hM2_57
      have hP : va_P D vwCl [(sh, .inr (5, [.ref sL, .int (nZ c2), .int (nZ ↑r), .int (nZ p1), .int (nZ lf1), .int (nZ nd1), .int (nZ fe2_57), .int (nZ ta2_57)])), (sL, .inr (2, [.ref sA, .int (nZ n2_57)])), (sA, .inl (k 0, 21, .inl (zA g2_57))), (a2, .inr (2, [.ref b2, .int (nZ n2)])), (b2, .inl (k 0, 21, .inl (zA g2)))] H := hP
      have hD : va_D A [(sh, .inr (5, [.ref sL, .int (nZ c2), .int (nZ ↑r), .int (nZ p1), .int (nZ lf1), .int (nZ nd1), .int (nZ fe2_57), .int (nZ ta2_57)])), (sL, .inr (2, [.ref sA, .int (nZ n2_57)])), (sA, .inl (k 0, 21, .inl (zA g2_57))), (a2, .inr (2, [.ref b2, .int (nZ n2)])), (b2, .inl (k 0, 21, .inl (zA g2)))] := hD
      exact zRetV (↑r, p1, lf1, nd1, fe2_57, ta2_57, n2_57, g2_57) X hP hD hS rfl (shoved_of (by omega) hf hle hfe_57 hta_57 hM2_57) dX5_coinByCoin_60
    · obtain ⟨hp9, hri, hc9⟩ := hgo c_21
      have hro := chain_room hc9 hp9
      have hru : roomS M r p1 ≤ 105 := room_lt hp.1 (fun j hj => by have h8 := hM.at hj; omega)
      have hr9 : p1 + roomS M r p1 ≤ 100 := room_100 (fun j hj => by have h8 := hM.at hj; omega)
      refine lv_aload_n hX hB dX5_coinByCoin_24 rfl (lv_at hl 0 rfl) ?_
      refine lv_aload_n hX hB dX5_coinByCoin_25 rfl (lv_at hl 0 rfl) ?_
      refine va_get hX hB hz inlX5 hW hK.1 hP 0 rfl rfl 4 (by decide) (hz _ zw_182) (fun _ h9 => h9) rfl dX5_coinByCoin_26 ?_
      refine lv_aload_n hX hB dX5_coinByCoin_29 rfl (lv_at hl 0 rfl) ?_
      refine zCallI0 (zRunV (As := []) X mv_X5_roomAhead (c_X5_roomAhead l D k _ sh sL sA c2 p1 lf1 nd1 fe ta n1 g1 r M hM hr hp) zw_197 (zPreV hP hD hK [0, 1, 2] rfl rfl 0 5 rfl rfl rfl) rfl hl (Nat.le_of_ble_eq_true rfl) dX5_coinByCoin_30 ⟨rfl, rfl, ⟨Nat.le_of_ble_eq_true rfl, Nat.le_of_ble_eq_true rfl⟩, Nat.le_of_ble_eq_true rfl, Nat.le_of_ble_eq_true rfl⟩ rfl) hS hP hD hA [0, 1, 2] rfl (fun _ => rfl) (fun r_30 u_30 H locs hq_30 hP hD hS => ?_)
      subst hq_30
      have hP : va_P D vwCl [(sh, .inr (5, [.ref sL, .int (nZ c2), .int (nZ ↑r), .int (nZ p1), .int (nZ lf1), .int (nZ nd1), .int (nZ fe), .int (nZ ta)])), (sL, .inr (2, [.ref sA, .int (nZ n1)])), (sA, .inl (k 0, 21, .inl (zA g1))), (a2, .inr (2, [.ref b2, .int (nZ n2)])), (b2, .inl (k 0, 21, .inl (zA g2)))] H := hP
      have hD : va_D A [(sh, .inr (5, [.ref sL, .int (nZ c2), .int (nZ ↑r), .int (nZ p1), .int (nZ lf1), .int (nZ nd1), .int (nZ fe), .int (nZ ta)])), (sL, .inr (2, [.ref sA, .int (nZ n1)])), (sA, .inl (k 0, 21, .inl (zA g1))), (a2, .inr (2, [.ref b2, .int (nZ n2)])), (b2, .inl (k 0, 21, .inl (zA g2)))] := hD
      refine zz_min X hl zw_231 zw_122 zw_123 zw_124 ⟨Nat.le_of_ble_eq_true rfl, Nat.le_of_ble_eq_true rfl, Nat.le_of_ble_eq_true rfl, Nat.le_of_ble_eq_true rfl⟩ ⟨by omega, by omega⟩ ⟨by omega, by omega⟩ (z := (min lf1 (roomS M r p1))) rfl dX5_coinByCoin_33 ?_
      refine zCallV0 (zRunV (As := [.int (nZ (min lf1 (roomS M r p1)))]) X mv_X5_goOn (c_X5_goOn l D k _ sh sL c2 ↑r p1 lf1 nd1 fe ta (min lf1 (roomS M r p1)) (by first | assumption | omega | exact ⟨by omega, by omega⟩)) zw_201 (zPreV hP hD hK [0] rfl rfl 0 5 rfl rfl rfl) rfl hl (Nat.le_of_ble_eq_true rfl) dX5_coinByCoin_36 ⟨rfl, rfl, ⟨Nat.le_of_ble_eq_true rfl, Nat.le_of_ble_eq_true rfl⟩, Nat.le_of_ble_eq_true rfl, Nat.le_of_ble_eq_true rfl⟩ rfl) hS hP hD hA [0] rfl (fun _ => rfl) (fun u_36 H locs hq_36 hP hD hS => ?_)
      obtain ⟨lf2_36, e9⟩ : ∃ z9, z9 = u_36 := ⟨_, rfl⟩; subst e9
      have hlf_36 := hq_36
      try dsimp only at hlf_36
      have hP : va_P D vwCl [(sh, .inr (5, [.ref sL, .int (nZ c2), .int (nZ (↑r : Int)), .int (nZ (p1 + (min lf1 (roomS M r p1)))), .int (nZ lf2_36), .int (nZ nd1), .int (nZ fe), .int (nZ ta)])), (sL, .inr (2, [.ref sA, .int (nZ n1)])), (sA, .inl (k 0, 21, .inl (zA g1))), (a2, .inr (2, [.ref b2, .int (nZ n2)])), (b2, .inl (k 0, 21, .inl (zA g2)))] H := hP
      have hD : va_D A [(sh, .inr (5, [.ref sL, .int (nZ c2), .int (nZ (↑r : Int)), .int (nZ (p1 + (min lf1 (roomS M r p1)))), .int (nZ lf2_36), .int (nZ nd1), .int (nZ fe), .int (nZ ta)])), (sL, .inr (2, [.ref sA, .int (nZ n1)])), (sA, .inl (k 0, 21, .inl (zA g1))), (a2, .inr (2, [.ref b2, .int (nZ n2)])), (b2, .inl (k 0, 21, .inl (zA g2)))] := hD
      refine lv_aload_n hX hB dX5_coinByCoin_39 rfl (lv_at hl 0 rfl) ?_
      refine va_get hX hB hz inlX5 hW hK.1 hP 0 rfl rfl 4 (by decide) (hz _ zw_182) (fun _ h9 => h9) rfl dX5_coinByCoin_40 ?_
      have hlf9 : -20 ≤ lf2_36 ∧ lf2_36 ≤ 150 := by rw [hlf_36]; split <;> omega
      refine zz_if_le X (tgt := 50) dX5_coinByCoin_43 (by decide) ⟨by omega, by omega⟩ (fun c_43 => ?_) (fun c_43 => ?_)
      · refine lv_iinc (v := nZ (↑(i + 1) : Int)) (lv' := [(4, .int (nZ (↑(i + 1) : Int))), (0, .ref sh), (1, .ref a2), (2, .int (nZ st)), (3, .int (nZ c2))]) hX hB dX5_coinByCoin_50 hl (k := 4) rfl (zinc (by omega)) (by decide) rfl (fun ls hl => ?_)
        refine lv_goto (tgt := 10) hX hB dX5_coinByCoin_53 (by decide) ?_
        exact ih_10 ((i + 1), M, r, (p1 + (min lf1 (roomS M r p1))), lf2_36, nd1, n1, g1) _ _ _ ⟨(hM), (by first | omega | (rw [List.length_set]; exact hr1)), (by first | omega | (rw [hp2_47]; have h8 := hM.at hr1; omega)), (by omega), (by intro h9; first | omega | (rw [hp2_47]; exact ⟨by have := (chain_step (v := 0) hr1 hc9).1; omega, by omega, (chain_step hr1 hc9).2.2⟩)), (by first | exact (coin_stop (by omega) hr hlf_36 (by omega) hc9).trans hf | (rw [hp2_47]; exact (coin_go (by omega) hlf_36 (by omega)).2.trans hf)), (by first | omega | assumption | rfl), hP, hD, hS, (lv_sub hl [1, 2, 3, 4, 0] rfl)⟩ (by dsimp only; omega)
      · have hr1 : r + 1 < M.length := (coin_go (cost := 0) (nd := 0) (by omega) hlf_36 (by omega)).1
        refine lv_aload_n hX hB dX5_coinByCoin_46 rfl (lv_at hl 0 rfl) ?_
        refine zCallV0 (zRunV (As := []) X mv_X5_nudgeNext (c_X5_nudgeNext l D k _ sh sL sA c2 (p1 + (min lf1 (roomS M r p1))) lf2_36 nd1 fe ta n1 g1 r M hM (by first | assumption | omega | exact ⟨by omega, by omega⟩) (by first | assumption | omega | exact ⟨by omega, by omega⟩)) zw_205 (zPreV hP hD hK [0, 1, 2] rfl rfl 0 5 rfl rfl rfl) rfl hl (Nat.le_of_ble_eq_true rfl) dX5_coinByCoin_47 ⟨rfl, rfl, ⟨Nat.le_of_ble_eq_true rfl, Nat.le_of_ble_eq_true rfl⟩, Nat.le_of_ble_eq_true rfl, Nat.le_of_ble_eq_true rfl⟩ rfl) hS hP hD hA [0, 1, 2] rfl (fun _ => rfl) (fun u_47 H locs hq_47 hP hD hS => ?_)
        obtain ⟨p2_47, e9⟩ : ∃ z9, z9 = u_47 := ⟨_, rfl⟩; subst e9
        obtain ⟨hp2_47, hM2_47⟩ := hq_47
        try dsimp only at hp2_47 hM2_47
        have hP : va_P D vwCl [(sh, .inr (5, [.ref sL, .int (nZ c2), .int (nZ (↑(r + 1))), .int (nZ p2_47), .int (nZ (lf2_36 - c2)), .int (nZ (nd1 + 1)), .int (nZ fe), .int (nZ ta)])), (sL, .inr (2, [.ref sA, .int (nZ n1)])), (sA, .inl (k 0, 21, .inl (zA (zU g1 r (p1 + (min lf1 (roomS M r p1))))))), (a2, .inr (2, [.ref b2, .int (nZ n2)])), (b2, .inl (k 0, 21, .inl (zA g2)))] H := hP
        have hD : va_D A [(sh, .inr (5, [.ref sL, .int (nZ c2), .int (nZ (↑(r + 1))), .int (nZ p2_47), .int (nZ (lf2_36 - c2)), .int (nZ (nd1 + 1)), .int (nZ fe), .int (nZ ta)])), (sL, .inr (2, [.ref sA, .int (nZ n1)])), (sA, .inl (k 0, 21, .inl (zA (zU g1 r (p1 + (min lf1 (roomS M r p1))))))), (a2, .inr (2, [.ref b2, .int (nZ n2)])), (b2, .inl (k 0, 21, .inl (zA g2)))] := hD
        refine lv_iinc (v := nZ (↑(i + 1) : Int)) (lv' := [(4, .int (nZ (↑(i + 1) : Int))), (0, .ref sh), (1, .ref a2), (2, .int (nZ st)), (3, .int (nZ c2))]) hX hB dX5_coinByCoin_50 hl (k := 4) rfl (zinc (by omega)) (by decide) rfl (fun ls hl => ?_)
        refine lv_goto (tgt := 10) hX hB dX5_coinByCoin_53 (by decide) ?_
        exact ih_10 ((i + 1), (M.set r (p1 + (min lf1 (roomS M r p1)))), (r + 1), p2_47, (lf2_36 - c2), (nd1 + 1), n1, (zU g1 r (p1 + (min lf1 (roomS M r p1))))) _ _ _ ⟨(hM2_47), (by first | omega | (rw [List.length_set]; exact hr1)), (by first | omega | (rw [hp2_47]; have h8 := hM.at hr1; omega)), (by omega), (by intro h9; first | omega | (rw [hp2_47]; exact ⟨by have := (chain_step (v := 0) hr1 hc9).1; omega, by omega, (chain_step hr1 hc9).2.2⟩)), (by first | exact (coin_stop (by omega) hr hlf_36 (by omega) hc9).trans hf | (rw [hp2_47]; exact (coin_go (by omega) hlf_36 (by omega)).2.trans hf)), (by first | omega | assumption | rfl), hP, hD, hS, (lv_sub hl [1, 2, 3, 4, 0] rfl)⟩ (by dsimp only; omega)
set_option maxHeartbeats 4000000 in
set_option maxRecDepth 100000 in
theorem c_X5_placeByPlace (l : Launch) (D : va_G) (k : Nat → ClassId) (sz : Nat) (sh sL sA a2 b2 : Nat) (cost rk p lf nd fe ta n c2 st n2 : Int) (g g2 : Nat → Int) (L : List Int) (hL : laneOk g2 n2 L) (hl20 : L.length ≤ 20) (hc2 : 0 ≤ c2 ∧ c2 ≤ 20) (hst : 1 ≤ st ∧ st ≤ 150) (hch : chainS (-5) L) : Met l yX5_placeByPlace (zW yX5_placeByPlace cX5_placeByPlace 6 none) ({ frames := 2, cells := 0, slots := 0, locals := 46 } : Room) (va_Pc [.ref sh, .ref a2, .int (nZ st), .int (nZ c2)] (zIn D k sz [(sh, .inr (5, [.ref sL, .int (nZ cost), .int (nZ rk), .int (nZ p), .int (nZ lf), .int (nZ nd), .int (nZ fe), .int (nZ ta)])), (sL, .inr (2, [.ref sA, .int (nZ n)])), (sA, .inl (k 0, 21, .inl (zA g))), (a2, .inr (2, [.ref b2, .int (nZ n2)])), (b2, .inl (k 0, 21, .inl (zA g2)))])) (va_Qv (fun (uz : Int × Int × Int × Int × Int × Int × Int × (Nat → Int)) => shoved c2 st L uz.2.1 uz.2.2.2.1 uz.2.2.2.2.1 uz.2.2.2.2.2.1 uz.2.2.2.2.2.2.2 uz.2.2.2.2.2.2.1) (fun (uz : Int × Int × Int × Int × Int × Int × Int × (Nat → Int)) => zOut D (va_A [(sh, .inr (5, [.ref sL, .int (nZ cost), .int (nZ rk), .int (nZ p), .int (nZ lf), .int (nZ nd), .int (nZ fe), .int (nZ ta)])), (sL, .inr (2, [.ref sA, .int (nZ n)])), (sA, .inl (k 0, 21, .inl (zA g))), (a2, .inr (2, [.ref b2, .int (nZ n2)])), (b2, .inl (k 0, 21, .inl (zA g2)))] sz) [(sh, .inr (5, [.ref sL, .int (nZ c2), .int (nZ uz.1), .int (nZ uz.2.1), .int (nZ uz.2.2.1), .int (nZ uz.2.2.2.1), .int (nZ uz.2.2.2.2.1), .int (nZ uz.2.2.2.2.2.1)])), (sL, .inr (2, [.ref sA, .int (nZ uz.2.2.2.2.2.2.1)])), (sA, .inl (k 0, 21, .inl (zA uz.2.2.2.2.2.2.2))), (a2, .inr (2, [.ref b2, .int (nZ n2)])), (b2, .inl (k 0, 21, .inl (zA g2)))]) (va_A [(sh, .inr (5, [.ref sL, .int (nZ cost), .int (nZ rk), .int (nZ p), .int (nZ lf), .int (nZ nd), .int (nZ fe), .int (nZ ta)])), (sL, .inr (2, [.ref sA, .int (nZ n)])), (sA, .inl (k 0, 21, .inl (zA g))), (a2, .inr (2, [.ref b2, .int (nZ n2)])), (b2, .inl (k 0, 21, .inl (zA g2)))] sz)) 0 0 (va_A [(sh, .inr (5, [.ref sL, .int (nZ cost), .int (nZ rk), .int (nZ p), .int (nZ lf), .int (nZ nd), .int (nZ fe), .int (nZ ta)])), (sL, .inr (2, [.ref sA, .int (nZ n)])), (sA, .inl (k 0, 21, .inl (zA g))), (a2, .inr (2, [.ref b2, .int (nZ n2)])), (b2, .inl (k 0, 21, .inl (zA g2)))] sz) := by
  refine zEnter (Qf := fun A => va_Qv (fun (uz : Int × Int × Int × Int × Int × Int × Int × (Nat → Int)) => shoved c2 st L uz.2.1 uz.2.2.2.1 uz.2.2.2.2.1 uz.2.2.2.2.2.1 uz.2.2.2.2.2.2.2 uz.2.2.2.2.2.2.1) (fun (uz : Int × Int × Int × Int × Int × Int × Int × (Nat → Int)) => zOut D A [(sh, .inr (5, [.ref sL, .int (nZ c2), .int (nZ uz.1), .int (nZ uz.2.1), .int (nZ uz.2.2.1), .int (nZ uz.2.2.2.1), .int (nZ uz.2.2.2.2.1), .int (nZ uz.2.2.2.2.2.1)])), (sL, .inr (2, [.ref sA, .int (nZ uz.2.2.2.2.2.2.1)])), (sA, .inl (k 0, 21, .inl (zA uz.2.2.2.2.2.2.2))), (a2, .inr (2, [.ref b2, .int (nZ n2)])), (b2, .inl (k 0, 21, .inl (zA g2)))]) A) RX5 (by decide) rfl (Nat.le_of_ble_eq_true rfl) ?_
  intro p9 e9 s9 m9 be9 me9 c9 ls A X hin hP hD hS hA hAe hl
  have hX := X.1; have hB := X.2.1; have hz := X.2.2.2.2.1; have hW := X.2.2.2.2.2.1; have hK := X.2.2.2.2.2.2.2; clear hAe
  clear hin
  have hl : lv_has ls 6 [(0, .ref sh), (1, .ref a2), (2, .int (nZ st)), (3, .int (nZ c2))] := hl
  refine lv_aload_n hX hB dX5_placeByPlace_0 rfl (lv_at hl 0 rfl) ?_
  refine lv_aload_n hX hB dX5_placeByPlace_1 rfl (lv_at hl 1 rfl) ?_
  refine lv_iload_n hX hB dX5_placeByPlace_2 rfl (lv_at hl 2 rfl) ?_
  refine lv_iload_n hX hB dX5_placeByPlace_3 rfl (lv_at hl 3 rfl) ?_
  refine zCallV0 (zRunV (As := [.ref a2, .int (nZ st), .int (nZ c2)]) X mv_X5_start (c_X5_start l D k _ sh sL sA a2 b2 cost rk p lf nd fe ta n c2 st n2 g g2 L hL hl20) zw_183 (zPreV hP hD hK [0, 1, 2, 3, 4] rfl rfl 0 5 rfl rfl rfl) rfl hl (Nat.le_of_ble_eq_true rfl) dX5_placeByPlace_4 ⟨rfl, rfl, ⟨Nat.le_of_ble_eq_true rfl, Nat.le_of_ble_eq_true rfl⟩, Nat.le_of_ble_eq_true rfl, Nat.le_of_ble_eq_true rfl⟩ rfl) hS hP hD hA [0, 1, 2, 3, 4] rfl (fun _ => rfl) (fun u_4 H locs hq_4 hP hD hS => ?_)
  obtain ⟨g3_4, e9⟩ : ∃ z9, z9 = u_4 := ⟨_, rfl⟩; subst e9
  have hM_4 := hq_4
  try dsimp only at hM_4
  have hP : va_P D vwCl [(sh, .inr (5, [.ref sL, .int (nZ c2), .int (nZ 0), .int (nZ (-5)), .int (nZ st), .int (nZ 0), .int (nZ fe), .int (nZ ta)])), (sL, .inr (2, [.ref sA, .int (nZ (n2 + 1))])), (sA, .inl (k 0, 21, .inl (zA g3_4))), (a2, .inr (2, [.ref b2, .int (nZ n2)])), (b2, .inl (k 0, 21, .inl (zA g2)))] H := hP
  have hD : va_D A [(sh, .inr (5, [.ref sL, .int (nZ c2), .int (nZ 0), .int (nZ (-5)), .int (nZ st), .int (nZ 0), .int (nZ fe), .int (nZ ta)])), (sL, .inr (2, [.ref sA, .int (nZ (n2 + 1))])), (sA, .inl (k 0, 21, .inl (zA g3_4))), (a2, .inr (2, [.ref b2, .int (nZ n2)])), (b2, .inl (k 0, 21, .inl (zA g2)))] := hD
  refine lv_iload_n hX hB dX5_placeByPlace_7 rfl (lv_at hl 2 rfl) ?_
  refine lv_bipush (v := nZ 21) hX hB dX5_placeByPlace_8 (by decide) ?_
  refine zz_iadd X dX5_placeByPlace_10 (z := (st + 21)) (by first | rfl | omega) ?_
  refine lv_istore (lv' := [(4, .int (nZ (st + 21))), (0, .ref sh), (1, .ref a2), (2, .int (nZ st)), (3, .int (nZ c2))]) hX hB dX5_placeByPlace_11 hl (by decide) rfl (fun ls hl => ?_)
  refine lv_iconst (v := nZ 0) hX hB dX5_placeByPlace_13 rfl ?_
  refine lv_istore (lv' := [(5, .int (nZ 0)), (4, .int (nZ (st + 21))), (0, .ref sh), (1, .ref a2), (2, .int (nZ st)), (3, .int (nZ c2))]) hX hB dX5_placeByPlace_14 hl (by decide) rfl (fun ls hl => ?_)
  refine zLoop (σ := Nat × (List Int) × Nat × Int × Int × Int × Int × (Nat → Int)) (fun (x : Nat × (List Int) × Nat × Int × Int × Int × Int × (Nat → Int)) (H : Heap) (locs : List Loc) (ls : Array Slot) => match x with | (i, M, r, p1, lf1, nd1, n1, g1) => (laneOk g1 n1 M) ∧ (r < M.length) ∧ (-5 ≤ p1 ∧ p1 ≤ 100) ∧ (-20 ≤ lf1 ∧ lf1 ≤ 150) ∧ (0 < lf1 → p1 < 100 ∧ lf1 + ((M.length : Int) - 1 - r) + i ≤ st + (M.length : Int) - 1 ∧ chainS p1 (M.drop (r + 1))) ∧ (finM c2 M r p1 lf1 nd1 = finM c2 (-5 :: L) 0 (-5) st 0) ∧ ((i : Int) ≤ st + 21) ∧ va_P D vwCl [(sh, .inr (5, [.ref sL, .int (nZ c2), .int (nZ ↑r), .int (nZ p1), .int (nZ lf1), .int (nZ nd1), .int (nZ fe), .int (nZ ta)])), (sL, .inr (2, [.ref sA, .int (nZ n1)])), (sA, .inl (k 0, 21, .inl (zA g1))), (a2, .inr (2, [.ref b2, .int (nZ n2)])), (b2, .inl (k 0, 21, .inl (zA g2)))] H ∧ va_D A [(sh, .inr (5, [.ref sL, .int (nZ c2), .int (nZ ↑r), .int (nZ p1), .int (nZ lf1), .int (nZ nd1), .int (nZ fe), .int (nZ ta)])), (sL, .inr (2, [.ref sA, .int (nZ n1)])), (sA, .inl (k 0, 21, .inl (zA g1))), (a2, .inr (2, [.ref b2, .int (nZ n2)])), (b2, .inl (k 0, 21, .inl (zA g2)))] ∧ va_S A s9.heap H locs ∧ lv_has ls 6 [(0, .ref sh), (1, .ref a2), (2, .int (nZ st)), (3, .int (nZ c2)), (4, .int (nZ (st + 21))), (5, .int (nZ ↑i))]) (fun (x : Nat × (List Int) × Nat × Int × Int × Int × Int × (Nat → Int)) => match x with | (i, M, r, p1, lf1, nd1, n1, g1) => (st + 21 - (i : Int)).toNat) ?_ (0, (-5 :: L), 0, (-5), st, 0, (n2 + 1), g3_4) ⟨(hM_4), (by simp), (by omega), (by omega), (by intro h9; exact ⟨by omega, by omega, hch⟩), (by rfl), (by first | omega | assumption | rfl), hP, hD, hS, (lv_sub hl [2, 3, 4, 5, 1, 0] rfl)⟩
  rintro ⟨i, M, r, p1, lf1, nd1, n1, g1⟩ H locs ls ⟨hM, hr, hp, hlf, hgo, hf, hi, hP, hD, hS, hl⟩ ih_16
  refine lv_iload hX hB dX5_placeByPlace_16 (lv_at hl 5 rfl) ?_
  refine lv_iload hX hB dX5_placeByPlace_18 (lv_at hl 4 rfl) ?_
  refine zz_icmp_ge X (tgt := 55) dX5_placeByPlace_20 (by decide) ⟨by omega, by omega⟩ ⟨by omega, by omega⟩ (fun c_20 => ?_) (fun c_20 => ?_)
  · have hle : lf1 ≤ 0 := by (rcases Int.lt_or_le 0 lf1 with q | q; { have q2 := hgo q; have q3 := hM.2.1; omega }; { exact q })
    refine lv_aload_n hX hB dX5_placeByPlace_55 rfl (lv_at hl 0 rfl) ?_
    refine zCallV0 (zRunV (As := []) X mv_X5_finish (c_X5_finish l D k _ sh sL sA c2 p1 lf1 nd1 fe ta n1 g1 r M hM hr hp) zw_212 (zPreV hP hD hK [0, 1, 2] rfl rfl 0 5 rfl rfl rfl) rfl hl (Nat.le_of_ble_eq_true rfl) dX5_placeByPlace_56 ⟨rfl, rfl, ⟨Nat.le_of_ble_eq_true rfl, Nat.le_of_ble_eq_true rfl⟩, Nat.le_of_ble_eq_true rfl, Nat.le_of_ble_eq_true rfl⟩ rfl) hS hP hD hA [0, 1, 2] rfl (fun _ => rfl) (fun u_56 H locs hq_56 hP hD hS => ?_)
    obtain ⟨fe2_56, ta2_56, n2_56, g2_56⟩ := u_56
    obtain ⟨hfe_56, hta_56, hM2_56⟩ := hq_56
    try dsimp only at hfe_56 hta_56 hM2_56
    have hP : va_P D vwCl [(sh, .inr (5, [.ref sL, .int (nZ c2), .int (nZ ↑r), .int (nZ p1), .int (nZ lf1), .int (nZ nd1), .int (nZ fe2_56), .int (nZ ta2_56)])), (sL, .inr (2, [.ref sA, .int (nZ n2_56)])), (sA, .inl (k 0, 21, .inl (zA g2_56))), (a2, .inr (2, [.ref b2, .int (nZ n2)])), (b2, .inl (k 0, 21, .inl (zA g2)))] H := hP
    have hD : va_D A [(sh, .inr (5, [.ref sL, .int (nZ c2), .int (nZ ↑r), .int (nZ p1), .int (nZ lf1), .int (nZ nd1), .int (nZ fe2_56), .int (nZ ta2_56)])), (sL, .inr (2, [.ref sA, .int (nZ n2_56)])), (sA, .inl (k 0, 21, .inl (zA g2_56))), (a2, .inr (2, [.ref b2, .int (nZ n2)])), (b2, .inl (k 0, 21, .inl (zA g2)))] := hD
    exact zRetV (↑r, p1, lf1, nd1, fe2_56, ta2_56, n2_56, g2_56) X hP hD hS rfl (shoved_of (by omega) hf hle hfe_56 hta_56 hM2_56) dX5_placeByPlace_59
  · refine lv_aload_n hX hB dX5_placeByPlace_23 rfl (lv_at hl 0 rfl) ?_
    refine va_get hX hB hz inlX5 hW hK.1 hP 0 rfl rfl 4 (by decide) (hz _ zw_182) (fun _ h9 => h9) rfl dX5_placeByPlace_24 ?_
    refine zz_if_le X (tgt := 55) dX5_placeByPlace_27 (by decide) ⟨by omega, by omega⟩ (fun c_27 => ?_) (fun c_27 => ?_)
    · have hle : lf1 ≤ 0 := by (rcases Int.lt_or_le 0 lf1 with q | q; { have q2 := hgo q; have q3 := hM.2.1; omega }; { exact q })
      refine lv_aload_n hX hB dX5_placeByPlace_55 rfl (lv_at hl 0 rfl) ?_
      refine zCallV0 (zRunV (As := []) X mv_X5_finish (c_X5_finish l D k _ sh sL sA c2 p1 lf1 nd1 fe ta n1 g1 r M hM hr hp) zw_212 (zPreV hP hD hK [0, 1, 2] rfl rfl 0 5 rfl rfl rfl) rfl hl (Nat.le_of_ble_eq_true rfl) dX5_placeByPlace_56 ⟨rfl, rfl, ⟨Nat.le_of_ble_eq_true rfl, Nat.le_of_ble_eq_true rfl⟩, Nat.le_of_ble_eq_true rfl, Nat.le_of_ble_eq_true rfl⟩ rfl) hS hP hD hA [0, 1, 2] rfl (fun _ => rfl) (fun u_56 H locs hq_56 hP hD hS => ?_)
      obtain ⟨fe2_56, ta2_56, n2_56, g2_56⟩ := u_56
      obtain ⟨hfe_56, hta_56, hM2_56⟩ := hq_56
      try dsimp only at hfe_56 hta_56 hM2_56
      have hP : va_P D vwCl [(sh, .inr (5, [.ref sL, .int (nZ c2), .int (nZ ↑r), .int (nZ p1), .int (nZ lf1), .int (nZ nd1), .int (nZ fe2_56), .int (nZ ta2_56)])), (sL, .inr (2, [.ref sA, .int (nZ n2_56)])), (sA, .inl (k 0, 21, .inl (zA g2_56))), (a2, .inr (2, [.ref b2, .int (nZ n2)])), (b2, .inl (k 0, 21, .inl (zA g2)))] H := hP
      have hD : va_D A [(sh, .inr (5, [.ref sL, .int (nZ c2), .int (nZ ↑r), .int (nZ p1), .int (nZ lf1), .int (nZ nd1), .int (nZ fe2_56), .int (nZ ta2_56)])), (sL, .inr (2, [.ref sA, .int (nZ n2_56)])), (sA, .inl (k 0, 21, .inl (zA g2_56))), (a2, .inr (2, [.ref b2, .int (nZ n2)])), (b2, .inl (k 0, 21, .inl (zA g2)))] := hD
      exact zRetV (↑r, p1, lf1, nd1, fe2_56, ta2_56, n2_56, g2_56) X hP hD hS rfl (shoved_of (by omega) hf hle hfe_56 hta_56 hM2_56) dX5_placeByPlace_59
    · obtain ⟨hp9, hri, hc9⟩ := hgo c_27
      have hro := chain_room hc9 hp9
      have hru : roomS M r p1 ≤ 105 := room_lt hp.1 (fun j hj => by have h8 := hM.at hj; omega)
      have hr9 : p1 + roomS M r p1 ≤ 100 := room_100 (fun j hj => by have h8 := hM.at hj; omega)
      refine lv_aload_n hX hB dX5_placeByPlace_30 rfl (lv_at hl 0 rfl) ?_
      refine zCallI0 (zRunV (As := []) X mv_X5_roomAhead (c_X5_roomAhead l D k _ sh sL sA c2 p1 lf1 nd1 fe ta n1 g1 r M hM hr hp) zw_197 (zPreV hP hD hK [0, 1, 2] rfl rfl 0 5 rfl rfl rfl) rfl hl (Nat.le_of_ble_eq_true rfl) dX5_placeByPlace_31 ⟨rfl, rfl, ⟨Nat.le_of_ble_eq_true rfl, Nat.le_of_ble_eq_true rfl⟩, Nat.le_of_ble_eq_true rfl, Nat.le_of_ble_eq_true rfl⟩ rfl) hS hP hD hA [0, 1, 2] rfl (fun _ => rfl) (fun r_31 u_31 H locs hq_31 hP hD hS => ?_)
      subst hq_31
      have hP : va_P D vwCl [(sh, .inr (5, [.ref sL, .int (nZ c2), .int (nZ ↑r), .int (nZ p1), .int (nZ lf1), .int (nZ nd1), .int (nZ fe), .int (nZ ta)])), (sL, .inr (2, [.ref sA, .int (nZ n1)])), (sA, .inl (k 0, 21, .inl (zA g1))), (a2, .inr (2, [.ref b2, .int (nZ n2)])), (b2, .inl (k 0, 21, .inl (zA g2)))] H := hP
      have hD : va_D A [(sh, .inr (5, [.ref sL, .int (nZ c2), .int (nZ ↑r), .int (nZ p1), .int (nZ lf1), .int (nZ nd1), .int (nZ fe), .int (nZ ta)])), (sL, .inr (2, [.ref sA, .int (nZ n1)])), (sA, .inl (k 0, 21, .inl (zA g1))), (a2, .inr (2, [.ref b2, .int (nZ n2)])), (b2, .inl (k 0, 21, .inl (zA g2)))] := hD
      refine zz_if_le X (tgt := 45) dX5_placeByPlace_34 (by decide) ⟨by omega, by omega⟩ (fun c_34 => ?_) (fun c_34 => ?_)
      · have hr1 : r + 1 < M.length := room_more (p := p1) (by omega)
        refine lv_aload_n hX hB dX5_placeByPlace_45 rfl (lv_at hl 0 rfl) ?_
        refine zCallV0 (zRunV (As := []) X mv_X5_nudgeNext (c_X5_nudgeNext l D k _ sh sL sA c2 p1 lf1 nd1 fe ta n1 g1 r M hM (by first | assumption | omega | exact ⟨by omega, by omega⟩) hp) zw_205 (zPreV hP hD hK [0, 1, 2] rfl rfl 0 5 rfl rfl rfl) rfl hl (Nat.le_of_ble_eq_true rfl) dX5_placeByPlace_46 ⟨rfl, rfl, ⟨Nat.le_of_ble_eq_true rfl, Nat.le_of_ble_eq_true rfl⟩, Nat.le_of_ble_eq_true rfl, Nat.le_of_ble_eq_true rfl⟩ rfl) hS hP hD hA [0, 1, 2] rfl (fun _ => rfl) (fun u_46 H locs hq_46 hP hD hS => ?_)
        obtain ⟨p2_46, e9⟩ : ∃ z9, z9 = u_46 := ⟨_, rfl⟩; subst e9
        obtain ⟨hp2_46, hM2_46⟩ := hq_46
        try dsimp only at hp2_46 hM2_46
        have hP : va_P D vwCl [(sh, .inr (5, [.ref sL, .int (nZ c2), .int (nZ (↑(r + 1))), .int (nZ p2_46), .int (nZ (lf1 - c2)), .int (nZ (nd1 + 1)), .int (nZ fe), .int (nZ ta)])), (sL, .inr (2, [.ref sA, .int (nZ n1)])), (sA, .inl (k 0, 21, .inl (zA (zU g1 r p1)))), (a2, .inr (2, [.ref b2, .int (nZ n2)])), (b2, .inl (k 0, 21, .inl (zA g2)))] H := hP
        have hD : va_D A [(sh, .inr (5, [.ref sL, .int (nZ c2), .int (nZ (↑(r + 1))), .int (nZ p2_46), .int (nZ (lf1 - c2)), .int (nZ (nd1 + 1)), .int (nZ fe), .int (nZ ta)])), (sL, .inr (2, [.ref sA, .int (nZ n1)])), (sA, .inl (k 0, 21, .inl (zA (zU g1 r p1)))), (a2, .inr (2, [.ref b2, .int (nZ n2)])), (b2, .inl (k 0, 21, .inl (zA g2)))] := hD
        refine lv_iinc (v := nZ (↑(i + 1) : Int)) (lv' := [(5, .int (nZ (↑(i + 1) : Int))), (0, .ref sh), (1, .ref a2), (2, .int (nZ st)), (3, .int (nZ c2)), (4, .int (nZ (st + 21)))]) hX hB dX5_placeByPlace_49 hl (k := 5) rfl (zinc (by omega)) (by decide) rfl (fun ls hl => ?_)
        refine lv_goto (tgt := 16) hX hB dX5_placeByPlace_52 (by decide) ?_
        exact ih_16 ((i + 1), (M.set r p1), (r + 1), p2_46, (lf1 - c2), (nd1 + 1), n1, (zU g1 r p1)) _ _ _ ⟨(hM2_46), (by first | omega | (rw [List.length_set]; exact hr1)), (by first | omega | (rw [hp2_46]; have h8 := hM.at hr1; omega)), (by first | omega | (rw [hlf_39]; split <;> omega)), (by intro h9; first | (rw [hp2_46]; exact ⟨by have := (chain_step (v := 0) hr1 hc9).1; omega, by rw [List.length_set]; omega, (chain_step hr1 hc9).2.2⟩) | (have h7 : ¬ 100 ≤ p1 + 1 := (fun h7 => by rw [if_pos h7] at hlf_39; omega); rw [if_neg h7] at hlf_39; exact ⟨by omega, by omega, room_on (by omega) hc9⟩)), (by first | (rw [hp2_46]; exact (place_go (by omega) hr1 (by omega)).trans hf) | (rw [hlf_39]; exact (finM_one hr (by omega) (by omega) hp9 hc9).symm.trans hf)), (by first | omega | assumption | rfl), hP, hD, hS, (lv_sub hl [1, 2, 3, 4, 5, 0] rfl)⟩ (by dsimp only; omega)
      · refine lv_aload_n hX hB dX5_placeByPlace_37 rfl (lv_at hl 0 rfl) ?_
        refine lv_iconst (v := nZ 1) hX hB dX5_placeByPlace_38 rfl ?_
        refine zCallV0 (zRunV (As := [.int (nZ 1)]) X mv_X5_goOn (c_X5_goOn l D k _ sh sL c2 ↑r p1 lf1 nd1 fe ta 1 (by first | assumption | omega | exact ⟨by omega, by omega⟩)) zw_201 (zPreV hP hD hK [0] rfl rfl 0 5 rfl rfl rfl) rfl hl (Nat.le_of_ble_eq_true rfl) dX5_placeByPlace_39 ⟨rfl, rfl, ⟨Nat.le_of_ble_eq_true rfl, Nat.le_of_ble_eq_true rfl⟩, Nat.le_of_ble_eq_true rfl, Nat.le_of_ble_eq_true rfl⟩ rfl) hS hP hD hA [0] rfl (fun _ => rfl) (fun u_39 H locs hq_39 hP hD hS => ?_)
        obtain ⟨lf2_39, e9⟩ : ∃ z9, z9 = u_39 := ⟨_, rfl⟩; subst e9
        have hlf_39 := hq_39
        try dsimp only at hlf_39
        have hP : va_P D vwCl [(sh, .inr (5, [.ref sL, .int (nZ c2), .int (nZ (↑r : Int)), .int (nZ (p1 + 1)), .int (nZ lf2_39), .int (nZ nd1), .int (nZ fe), .int (nZ ta)])), (sL, .inr (2, [.ref sA, .int (nZ n1)])), (sA, .inl (k 0, 21, .inl (zA g1))), (a2, .inr (2, [.ref b2, .int (nZ n2)])), (b2, .inl (k 0, 21, .inl (zA g2)))] H := hP
        have hD : va_D A [(sh, .inr (5, [.ref sL, .int (nZ c2), .int (nZ (↑r : Int)), .int (nZ (p1 + 1)), .int (nZ lf2_39), .int (nZ nd1), .int (nZ fe), .int (nZ ta)])), (sL, .inr (2, [.ref sA, .int (nZ n1)])), (sA, .inl (k 0, 21, .inl (zA g1))), (a2, .inr (2, [.ref b2, .int (nZ n2)])), (b2, .inl (k 0, 21, .inl (zA g2)))] := hD
        refine lv_goto (tgt := 49) hX hB dX5_placeByPlace_42 (by decide) ?_
        refine lv_iinc (v := nZ (↑(i + 1) : Int)) (lv' := [(5, .int (nZ (↑(i + 1) : Int))), (0, .ref sh), (1, .ref a2), (2, .int (nZ st)), (3, .int (nZ c2)), (4, .int (nZ (st + 21)))]) hX hB dX5_placeByPlace_49 hl (k := 5) rfl (zinc (by omega)) (by decide) rfl (fun ls hl => ?_)
        refine lv_goto (tgt := 16) hX hB dX5_placeByPlace_52 (by decide) ?_
        exact ih_16 ((i + 1), M, r, (p1 + 1), lf2_39, nd1, n1, g1) _ _ _ ⟨(hM), (by first | omega | (rw [List.length_set]; exact hr1)), (by first | omega | (rw [hp2_46]; have h8 := hM.at hr1; omega)), (by first | omega | (rw [hlf_39]; split <;> omega)), (by intro h9; first | (rw [hp2_46]; exact ⟨by have := (chain_step (v := 0) hr1 hc9).1; omega, by rw [List.length_set]; omega, (chain_step hr1 hc9).2.2⟩) | (have h7 : ¬ 100 ≤ p1 + 1 := (fun h7 => by rw [if_pos h7] at hlf_39; omega); rw [if_neg h7] at hlf_39; exact ⟨by omega, by omega, room_on (by omega) hc9⟩)), (by first | (rw [hp2_46]; exact (place_go (by omega) hr1 (by omega)).trans hf) | (rw [hlf_39]; exact (finM_one hr (by omega) (by omega) hp9 hc9).symm.trans hf)), (by first | omega | assumption | rfl), hP, hD, hS, (lv_sub hl [1, 2, 3, 4, 5, 0] rfl)⟩ (by dsimp only; omega)

