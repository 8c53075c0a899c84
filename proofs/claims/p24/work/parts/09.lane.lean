theorem ms_X6_bedAt : zMS yX6_bedAt cX6_bedAt 3 (some .int) 1 := ⟨zw_113, zw_2, ⟨by decide +kernel, by decide +kernel, by decide +kernel⟩, zw_112⟩
theorem mv_X2_placeAt : zMV yX2_placeAt cX2_placeAt 2 (some .int) 1 := ⟨zw_94, zw_44, ⟨by decide +kernel, by decide +kernel, by decide +kernel⟩, zw_92, zw_93⟩
theorem mv_X2_clear : zMV yX2_clear cX2_clear 1 none 0 := ⟨zw_294, zw_44, ⟨by decide +kernel, by decide +kernel, by decide +kernel⟩, zw_292, zw_293⟩
theorem mv_X2_cleanIn : zMV yX2_cleanIn cX2_cleanIn 4 (some .int) 1 := ⟨zw_111, zw_44, ⟨by decide +kernel, by decide +kernel, by decide +kernel⟩, zw_109, zw_110⟩
theorem mv_X2_cleanCoins : zMV yX2_cleanCoins cX2_cleanCoins 3 (some .int) 0 := ⟨zw_145, zw_44, ⟨by decide +kernel, by decide +kernel, by decide +kernel⟩, zw_143, zw_144⟩
theorem mv_X2_copyFrom : zMV yX2_copyFrom cX2_copyFrom 3 none 1 := ⟨zw_193, zw_44, ⟨by decide +kernel, by decide +kernel, by decide +kernel⟩, zw_191, zw_192⟩
theorem mv_X2_move : zMV yX2_move cX2_move 3 none 2 := ⟨zw_211, zw_44, ⟨by decide +kernel, by decide +kernel, by decide +kernel⟩, zw_209, zw_210⟩
theorem mv_X2_insertAt : zMV yX2_insertAt cX2_insertAt 4 none 2 := ⟨zw_196, zw_44, ⟨by decide +kernel, by decide +kernel, by decide +kernel⟩, zw_194, zw_195⟩
theorem mv_X2_removeFirst : zMV yX2_removeFirst cX2_removeFirst 2 none 0 := ⟨zw_223, zw_44, ⟨by decide +kernel, by decide +kernel, by decide +kernel⟩, zw_221, zw_222⟩
theorem mv_X2_removeLast : zMV yX2_removeLast cX2_removeLast 1 none 0 := ⟨zw_220, zw_44, ⟨by decide +kernel, by decide +kernel, by decide +kernel⟩, zw_218, zw_219⟩
theorem mv_X2_addClean : zMV yX2_addClean cX2_addClean 4 none 1 := ⟨zw_419, zw_44, ⟨by decide +kernel, by decide +kernel, by decide +kernel⟩, zw_417, zw_418⟩
theorem mv_X2_insert : zMV yX2_insert cX2_insert 4 (some .boolean) 1 := ⟨zw_370, zw_44, ⟨by decide +kernel, by decide +kernel, by decide +kernel⟩, zw_368, zw_369⟩
set_option maxHeartbeats 4000000 in
set_option maxRecDepth 100000 in
theorem c_X6_bedAt (l : Launch) (D : va_G) (k : Nat → ClassId) (sz : Nat) (x : Int) (hx : -5 ≤ x ∧ x ≤ 1000) : Met l yX6_bedAt (zW yX6_bedAt cX6_bedAt 3 (some .int)) ({ frames := 0, cells := 0, slots := 0, locals := 0 } : Room) (va_Pc [.int (nZ x)] (zIn D k sz [])) (va_Qi (fun (rz : Int32) (uz : Unit) => rz = nZ (bedAtS x)) (fun (uz : Unit) => zOut D (va_A [] sz) []) (va_A [] sz)) 0 0 (va_A [] sz) := by
  refine zEnter (Qf := fun A => va_Qi (fun (rz : Int32) (uz : Unit) => rz = nZ (bedAtS x)) (fun (uz : Unit) => zOut D A []) A) RX6 (by decide) rfl (Nat.le_of_ble_eq_true rfl) ?_
  intro p9 e9 s9 m9 be9 me9 c9 ls A X hin hP hD hS hA hAe hl
  have hX := X.1; have hB := X.2.1; have hz := X.2.2.2.2.1; have hW := X.2.2.2.2.2.1; have hK := X.2.2.2.2.2.2.2; clear hAe
  clear hin
  have hl : lv_has ls 3 [(0, .int (nZ x))] := hl
  obtain ⟨hx1, hx2⟩ := hx
  refine lv_iload_n hX hB dX6_bedAt_0 rfl (lv_at hl 0 rfl) ?_
  refine lv_bipush (v := nZ 8) hX hB dX6_bedAt_1 (by decide) ?_
  refine zz_isub X dX6_bedAt_3 (z := (x - 8)) (by first | rfl | omega) ?_
  refine lv_istore_n (lv' := [(1, .int (nZ (x - 8))), (0, .int (nZ x))]) hX hB dX6_bedAt_4 rfl hl (by decide) rfl (fun ls hl => ?_)
  refine lv_iload_n hX hB dX6_bedAt_5 rfl (lv_at hl 0 rfl) ?_
  refine zz_if_lt X (tgt := 17) dX6_bedAt_6 (by decide) ⟨by omega, by omega⟩ (fun c_6 => ?_) (fun c_6 => ?_)
  · refine lv_iconst (v := nZ (-1)) hX hB dX6_bedAt_17 rfl ?_
    exact zRetI () X hP hD hS rfl (by unfold bedAtS; rw [if_pos (by omega)]) dX6_bedAt_18
  · refine lv_iload_n hX hB dX6_bedAt_9 rfl (lv_at hl 0 rfl) ?_
    refine lv_bipush (v := nZ 10) hX hB dX6_bedAt_10 (by decide) ?_
    refine zz_irem X dX6_bedAt_12 (z := ((x - 8) % 10)) (by first | rfl | omega) ⟨by omega, by omega, by omega, by omega⟩ ?_
    refine lv_iconst (v := nZ 4) hX hB dX6_bedAt_13 rfl ?_
    refine zz_icmp_le X (tgt := 19) dX6_bedAt_14 (by decide) ⟨by omega, by omega⟩ ⟨by omega, by omega⟩ (fun c_14 => ?_) (fun c_14 => ?_)
    · refine lv_iload_n hX hB dX6_bedAt_19 rfl (lv_at hl 0 rfl) ?_
      refine lv_bipush (v := nZ 10) hX hB dX6_bedAt_20 (by decide) ?_
      refine zz_idiv X dX6_bedAt_22 (z := ((x - 8) / 10)) (by first | rfl | omega) ⟨by omega, by omega, by omega, by omega⟩ ?_
      refine lv_istore_n (lv' := [(2, .int (nZ ((x - 8) / 10))), (1, .int (nZ (x - 8))), (0, .int (nZ x))]) hX hB dX6_bedAt_23 rfl hl (by decide) rfl (fun ls hl => ?_)
      refine lv_iload_n hX hB dX6_bedAt_24 rfl (lv_at hl 0 rfl) ?_
      refine lv_bipush (v := nZ 9) hX hB dX6_bedAt_25 (by decide) ?_
      refine zz_icmp_ge X (tgt := 34) dX6_bedAt_27 (by decide) ⟨by omega, by omega⟩ ⟨by omega, by omega⟩ (fun c_27 => ?_) (fun c_27 => ?_)
      · refine lv_iconst (v := nZ (-1)) hX hB dX6_bedAt_34 rfl ?_
        exact zRetI () X hP hD hS rfl (by unfold bedAtS; rw [if_neg (by omega)]; first | rw [if_pos (by omega)] | rw [if_neg (by omega)]) dX6_bedAt_35
      · refine lv_iload_n hX hB dX6_bedAt_30 rfl (lv_at hl 0 rfl) ?_
        refine lv_goto (tgt := 35) hX hB dX6_bedAt_31 (by decide) ?_
        exact zRetI () X hP hD hS rfl (by unfold bedAtS; rw [if_neg (by omega)]; first | rw [if_pos (by omega)] | rw [if_neg (by omega)]) dX6_bedAt_35
    · refine lv_iconst (v := nZ (-1)) hX hB dX6_bedAt_17 rfl ?_
      exact zRetI () X hP hD hS rfl (by unfold bedAtS; rw [if_pos (by omega)]) dX6_bedAt_18
set_option maxHeartbeats 4000000 in
set_option maxRecDepth 100000 in
theorem c_X2_placeAt (l : Launch) (D : va_G) (k : Nat → ClassId) (sz : Nat) (a b : Nat) (n : Int) (g : Nat → Int) (L : List Int) (r : Int) (hL : laneOk g n L) (hr : zR r) : Met l yX2_placeAt (zW yX2_placeAt cX2_placeAt 2 (some .int)) ({ frames := 0, cells := 0, slots := 0, locals := 0 } : Room) (va_Pc [.ref a, .int (nZ r)] (zIn D k sz [(a, .inr (2, [.ref b, .int (nZ n)])), (b, .inl (k 0, 21, .inl (zA g)))])) (va_Qi (fun (rz : Int32) (uz : Unit) => rz = nZ (placeAtS L r)) (fun (uz : Unit) => zOut D (va_A [(a, .inr (2, [.ref b, .int (nZ n)])), (b, .inl (k 0, 21, .inl (zA g)))] sz) [(a, .inr (2, [.ref b, .int (nZ n)])), (b, .inl (k 0, 21, .inl (zA g)))]) (va_A [(a, .inr (2, [.ref b, .int (nZ n)])), (b, .inl (k 0, 21, .inl (zA g)))] sz)) 0 0 (va_A [(a, .inr (2, [.ref b, .int (nZ n)])), (b, .inl (k 0, 21, .inl (zA g)))] sz) := by
  refine zEnter (Qf := fun A => va_Qi (fun (rz : Int32) (uz : Unit) => rz = nZ (placeAtS L r)) (fun (uz : Unit) => zOut D A [(a, .inr (2, [.ref b, .int (nZ n)])), (b, .inl (k 0, 21, .inl (zA g)))]) A) RX2 (by decide) rfl (Nat.le_of_ble_eq_true rfl) ?_
  intro p9 e9 s9 m9 be9 me9 c9 ls A X hin hP hD hS hA hAe hl
  have hX := X.1; have hB := X.2.1; have hz := X.2.2.2.2.1; have hW := X.2.2.2.2.2.1; have hK := X.2.2.2.2.2.2.2; clear hAe
  clear hin
  have hl : lv_has ls 2 [(0, .ref a), (1, .int (nZ r))] := hl
  obtain ⟨hn, hlen⟩ := hL.len
  obtain ⟨hr1, hr2⟩ := hr
  subst hn
  refine lv_iload_n hX hB dX2_placeAt_0 rfl (lv_at hl 1 rfl) ?_
  refine zz_if_lt X (tgt := 30) dX2_placeAt_1 (by decide) ⟨by omega, by omega⟩ (fun c_1 => ?_) (fun c_1 => ?_)
  · refine lv_iconst (v := nZ (-1)) hX hB dX2_placeAt_30 rfl ?_
    exact zRetI () X hP hD hS rfl (by congr 1; unfold placeAtS; first | (rw [if_pos ⟨by omega, by omega⟩]; exact (hL.at (by omega)).1) | rw [if_neg (by omega)]) dX2_placeAt_31
  · refine lv_iload_n hX hB dX2_placeAt_4 rfl (lv_at hl 1 rfl) ?_
    refine lv_aload_n hX hB dX2_placeAt_5 rfl (lv_at hl 0 rfl) ?_
    refine va_get hX hB hz inlX2 hW hK.1 hP 0 rfl rfl 1 (by decide) (hz _ zw_95) (fun _ h9 => h9) rfl dX2_placeAt_6 ?_
    refine zz_icmp_ge X (tgt := 30) dX2_placeAt_9 (by decide) ⟨by omega, by omega⟩ ⟨by omega, by omega⟩ (fun c_9 => ?_) (fun c_9 => ?_)
    · refine lv_iconst (v := nZ (-1)) hX hB dX2_placeAt_30 rfl ?_
      exact zRetI () X hP hD hS rfl (by congr 1; unfold placeAtS; first | (rw [if_pos ⟨by omega, by omega⟩]; exact (hL.at (by omega)).1) | rw [if_neg (by omega)]) dX2_placeAt_31
    · refine lv_iload_n hX hB dX2_placeAt_12 rfl (lv_at hl 1 rfl) ?_
      refine lv_aload_n hX hB dX2_placeAt_13 rfl (lv_at hl 0 rfl) ?_
      refine va_get hX hB hz inlX2 hW hK.1 hP 0 rfl rfl 0 (by decide) (hz _ zw_51) (fun _ h9 => h9) rfl dX2_placeAt_14 ?_
      refine zz_alen X hP 1 0 (N := 21) rfl rfl rfl dX2_placeAt_17 ?_
      refine zz_icmp_ge X (tgt := 30) dX2_placeAt_18 (by decide) ⟨by omega, by omega⟩ ⟨by omega, by omega⟩ (fun c_18 => ?_) (fun c_18 => ?_)
      · exfalso; omega
      · refine lv_aload_n hX hB dX2_placeAt_21 rfl (lv_at hl 0 rfl) ?_
        refine va_get hX hB hz inlX2 hW hK.1 hP 0 rfl rfl 0 (by decide) (hz _ zw_51) (fun _ h9 => h9) rfl dX2_placeAt_22 ?_
        refine lv_iload_n hX hB dX2_placeAt_25 rfl (lv_at hl 1 rfl) ?_
        refine zz_iald X hP 1 0 rfl rfl ((r).toNat) (by omega) (by omega) (by first | decide | omega) dX2_placeAt_26 ?_
        refine lv_goto (tgt := 31) hX hB dX2_placeAt_27 (by decide) ?_
        exact zRetI () X hP hD hS rfl (by congr 1; unfold placeAtS; first | (rw [if_pos ⟨by omega, by omega⟩]; exact (hL.at (by omega)).1) | rw [if_neg (by omega)]) dX2_placeAt_31
set_option maxHeartbeats 4000000 in
set_option maxRecDepth 100000 in
theorem c_X2_clear (l : Launch) (D : va_G) (k : Nat → ClassId) (sz : Nat) (a b : Nat) (n : Int) (g : Nat → Int)  : Met l yX2_clear (zW yX2_clear cX2_clear 1 none) ({ frames := 0, cells := 0, slots := 0, locals := 0 } : Room) (va_Pc [.ref a] (zIn D k sz [(a, .inr (2, [.ref b, .int (nZ n)])), (b, .inl (k 0, 21, .inl (zA g)))])) (va_Qv (fun (uz : Unit) => True) (fun (uz : Unit) => zOut D (va_A [(a, .inr (2, [.ref b, .int (nZ n)])), (b, .inl (k 0, 21, .inl (zA g)))] sz) [(a, .inr (2, [.ref b, .int (nZ 0)])), (b, .inl (k 0, 21, .inl (zA g)))]) (va_A [(a, .inr (2, [.ref b, .int (nZ n)])), (b, .inl (k 0, 21, .inl (zA g)))] sz)) 0 0 (va_A [(a, .inr (2, [.ref b, .int (nZ n)])), (b, .inl (k 0, 21, .inl (zA g)))] sz) := by
  refine zEnter (Qf := fun A => va_Qv (fun (uz : Unit) => True) (fun (uz : Unit) => zOut D A [(a, .inr (2, [.ref b, .int (nZ 0)])), (b, .inl (k 0, 21, .inl (zA g)))]) A) RX2 (by decide) rfl (Nat.le_of_ble_eq_true rfl) ?_
  intro p9 e9 s9 m9 be9 me9 c9 ls A X hin hP hD hS hA hAe hl
  have hX := X.1; have hB := X.2.1; have hz := X.2.2.2.2.1; have hW := X.2.2.2.2.2.1; have hK := X.2.2.2.2.2.2.2; clear hAe
  clear hin
  have hl : lv_has ls 1 [(0, .ref a)] := hl
  refine lv_aload_n hX hB dX2_clear_0 rfl (lv_at hl 0 rfl) ?_
  refine lv_iconst (v := nZ 0) hX hB dX2_clear_1 rfl ?_
  refine va_put (v := .int (nZ 0)) (ty := tyX2 1) hX hB hz inlX2 tyX2 tyX2_ok nmX2 hW hK.1 hP hD hS 0 rfl rfl 1 (by decide) (hz _ zw_95) (fun _ h9 => h9) rfl (by decide +kernel) rfl rfl (Nat.le_of_ble_eq_true rfl) dX2_clear_2 (fun H locs hP hD hS => ?_)
  have hP : va_P D vwCl [(a, .inr (2, [.ref b, .int (nZ 0)])), (b, .inl (k 0, 21, .inl (zA g)))] H := hP
  have hD : va_D A [(a, .inr (2, [.ref b, .int (nZ 0)])), (b, .inl (k 0, 21, .inl (zA g)))] := hD
  exact zRetV () X hP hD hS rfl trivial dX2_clear_5
set_option maxHeartbeats 4000000 in
set_option maxRecDepth 100000 in
theorem c_X2_cleanIn (l : Launch) (D : va_G) (k : Nat → ClassId) (sz : Nat) (a b : Nat) (n : Int) (g : Nat → Int) (L : List Int) (bed : Int) (hL : laneOk g n L) (hb : 0 ≤ bed ∧ bed < 9) : Met l yX2_cleanIn (zW yX2_cleanIn cX2_cleanIn 4 (some .int)) ({ frames := 1, cells := 0, slots := 0, locals := 22 } : Room) (va_Pc [.ref a, .int (nZ bed)] (zIn D k sz [(a, .inr (2, [.ref b, .int (nZ n)])), (b, .inl (k 0, 21, .inl (zA g)))])) (va_Qi (fun (rz : Int32) (uz : Unit) => rz = nZ (cleanS bed L)) (fun (uz : Unit) => zOut D (va_A [(a, .inr (2, [.ref b, .int (nZ n)])), (b, .inl (k 0, 21, .inl (zA g)))] sz) [(a, .inr (2, [.ref b, .int (nZ n)])), (b, .inl (k 0, 21, .inl (zA g)))]) (va_A [(a, .inr (2, [.ref b, .int (nZ n)])), (b, .inl (k 0, 21, .inl (zA g)))] sz)) 0 0 (va_A [(a, .inr (2, [.ref b, .int (nZ n)])), (b, .inl (k 0, 21, .inl (zA g)))] sz) := by
  refine zEnter (Qf := fun A => va_Qi (fun (rz : Int32) (uz : Unit) => rz = nZ (cleanS bed L)) (fun (uz : Unit) => zOut D A [(a, .inr (2, [.ref b, .int (nZ n)])), (b, .inl (k 0, 21, .inl (zA g)))]) A) RX2 (by decide) rfl (Nat.le_of_ble_eq_true rfl) ?_
  intro p9 e9 s9 m9 be9 me9 c9 ls A X hin hP hD hS hA hAe hl
  have hX := X.1; have hB := X.2.1; have hz := X.2.2.2.2.1; have hW := X.2.2.2.2.2.1; have hK := X.2.2.2.2.2.2.2; clear hAe
  clear hin
  have hl : lv_has ls 4 [(0, .ref a), (1, .int (nZ bed))] := hl
  obtain ⟨hn, hlen⟩ := hL.len
  subst hn
  refine lv_iconst (v := nZ 0) hX hB dX2_cleanIn_0 rfl ?_
  refine lv_istore_n (lv' := [(2, .int (nZ 0)), (0, .ref a), (1, .int (nZ bed))]) hX hB dX2_cleanIn_1 rfl hl (by decide) rfl (fun ls hl => ?_)
  refine lv_iconst (v := nZ 0) hX hB dX2_cleanIn_2 rfl ?_
  refine lv_istore_n (lv' := [(3, .int (nZ 0)), (2, .int (nZ 0)), (0, .ref a), (1, .int (nZ bed))]) hX hB dX2_cleanIn_3 rfl hl (by decide) rfl (fun ls hl => ?_)
  refine zLoop (σ := Nat × Int) (fun (x : Nat × Int) (H : Heap) (locs : List Loc) (ls : Array Slot) => match x with | (i, q) => (q = cleanS bed (L.take i)) ∧ (i ≤ L.length) ∧ va_P D vwCl [(a, .inr (2, [.ref b, .int (nZ (↑L.length : Int))])), (b, .inl (k 0, 21, .inl (zA g)))] H ∧ va_D A [(a, .inr (2, [.ref b, .int (nZ (↑L.length : Int))])), (b, .inl (k 0, 21, .inl (zA g)))] ∧ va_S A s9.heap H locs ∧ lv_has ls 4 [(0, .ref a), (1, .int (nZ bed)), (2, .int (nZ q)), (3, .int (nZ ↑i))]) (fun (x : Nat × Int) => match x with | (i, q) => L.length - i) ?_ (0, 0) ⟨(by simp [cleanS]), (by exact Nat.zero_le _), hP, hD, hS, (lv_sub hl [2, 3, 1, 0] rfl)⟩
  rintro ⟨i, q⟩ H locs ls ⟨hq, hi, hP, hD, hS, hl⟩ ih_4
  refine lv_iload_n hX hB dX2_cleanIn_4 rfl (lv_at hl 3 rfl) ?_
  refine lv_aload_n hX hB dX2_cleanIn_5 rfl (lv_at hl 0 rfl) ?_
  refine va_get hX hB hz inlX2 hW hK.1 hP 0 rfl rfl 1 (by decide) (hz _ zw_95) (fun _ h9 => h9) rfl dX2_cleanIn_6 ?_
  refine zz_icmp_ge X (tgt := 43) dX2_cleanIn_9 (by decide) ⟨by omega, by omega⟩ ⟨by omega, by omega⟩ (fun c_9 => ?_) (fun c_9 => ?_)
  · refine lv_iload_n hX hB dX2_cleanIn_43 rfl (lv_at hl 2 rfl) ?_
    exact zRetI () X hP hD hS rfl (by rw [hq, List.take_of_length_le (by omega)]) dX2_cleanIn_44
  · refine lv_iload_n hX hB dX2_cleanIn_12 rfl (lv_at hl 3 rfl) ?_
    refine lv_aload_n hX hB dX2_cleanIn_13 rfl (lv_at hl 0 rfl) ?_
    refine va_get hX hB hz inlX2 hW hK.1 hP 0 rfl rfl 0 (by decide) (hz _ zw_51) (fun _ h9 => h9) rfl dX2_cleanIn_14 ?_
    refine zz_alen X hP 1 0 (N := 21) rfl rfl rfl dX2_cleanIn_17 ?_
    refine zz_icmp_ge X (tgt := 43) dX2_cleanIn_18 (by decide) ⟨by omega, by omega⟩ ⟨by omega, by omega⟩ (fun c_18 => ?_) (fun c_18 => ?_)
    · exfalso; omega
    · refine lv_aload_n hX hB dX2_cleanIn_21 rfl (lv_at hl 0 rfl) ?_
      refine va_get hX hB hz inlX2 hW hK.1 hP 0 rfl rfl 0 (by decide) (hz _ zw_51) (fun _ h9 => h9) rfl dX2_cleanIn_22 ?_
      refine lv_iload_n hX hB dX2_cleanIn_25 rfl (lv_at hl 3 rfl) ?_
      refine zz_iald X hP 1 0 rfl rfl i (by omega) (by omega) (by first | decide | omega) dX2_cleanIn_26 ?_
      obtain ⟨_, hx1, hx2⟩ := hL.at (by omega : i < L.length)
      refine zCallI0 (zRunSN X ms_X6_bedAt (c_X6_bedAt l D k _ (g i) (by first | assumption | omega | exact ⟨by omega, by omega⟩)) (zn_X2_29 hK.2.1) (zPreS hP hD hK [] rfl rfl) rfl hl (Nat.le_of_ble_eq_true rfl) dX2_cleanIn_27 ⟨rfl, rfl, ⟨Nat.le_of_ble_eq_true rfl, Nat.le_of_ble_eq_true rfl⟩, Nat.le_of_ble_eq_true rfl, Nat.le_of_ble_eq_true rfl⟩ rfl) hS hP hD hA [] rfl (fun _ => rfl) (fun r_27 u_27 H locs hq_27 hP hD hS => ?_)
      subst hq_27
      have hP : va_P D vwCl [(a, .inr (2, [.ref b, .int (nZ (↑L.length : Int))])), (b, .inl (k 0, 21, .inl (zA g)))] H := hP
      have hD : va_D A [(a, .inr (2, [.ref b, .int (nZ (↑L.length : Int))])), (b, .inl (k 0, 21, .inl (zA g)))] := hD
      have hbr := bedAtS_rng (g i)
      refine lv_iload_n hX hB dX2_cleanIn_30 rfl (lv_at hl 1 rfl) ?_
      refine zz_icmp_ne X (tgt := 37) dX2_cleanIn_31 (by decide) ⟨by omega, by omega⟩ ⟨by omega, by omega⟩ (fun c_31 => ?_) (fun c_31 => ?_)
      · refine lv_iinc (v := nZ (↑(i + 1) : Int)) (lv' := [(3, .int (nZ (↑(i + 1) : Int))), (0, .ref a), (1, .int (nZ bed)), (2, .int (nZ q))]) hX hB dX2_cleanIn_37 hl (k := 3) rfl (zinc (by omega)) (by decide) rfl (fun ls hl => ?_)
        refine lv_goto (tgt := 4) hX hB dX2_cleanIn_40 (by decide) ?_
        exact ih_4 ((i + 1), q) _ _ _ ⟨(by have h9 := cleanS_take bed L i (by omega); rw [← (hL.at (by omega : i < L.length)).1] at h9; split at h9 <;> omega), (by first | omega | assumption | rfl), hP, hD, hS, (lv_sub hl [1, 2, 3, 0] rfl)⟩ (by dsimp only; omega)
      · refine lv_iinc (v := nZ (q + 1)) (lv' := [(2, .int (nZ (q + 1))), (0, .ref a), (1, .int (nZ bed)), (3, .int (nZ ↑i))]) hX hB dX2_cleanIn_34 hl (k := 2) rfl (zinc (by omega)) (by decide) rfl (fun ls hl => ?_)
        refine lv_iinc (v := nZ (↑(i + 1) : Int)) (lv' := [(3, .int (nZ (↑(i + 1) : Int))), (2, .int (nZ (q + 1))), (0, .ref a), (1, .int (nZ bed))]) hX hB dX2_cleanIn_37 hl (k := 3) rfl (zinc (by omega)) (by decide) rfl (fun ls hl => ?_)
        refine lv_goto (tgt := 4) hX hB dX2_cleanIn_40 (by decide) ?_
        exact ih_4 ((i + 1), (q + 1)) _ _ _ ⟨(by have h9 := cleanS_take bed L i (by omega); rw [← (hL.at (by omega : i < L.length)).1] at h9; split at h9 <;> omega), (by first | omega | assumption | rfl), hP, hD, hS, (lv_sub hl [2, 3, 1, 0] rfl)⟩ (by dsimp only; omega)
set_option maxHeartbeats 4000000 in
set_option maxRecDepth 100000 in
theorem c_X2_cleanCoins (l : Launch) (D : va_G) (k : Nat → ClassId) (sz : Nat) (a b : Nat) (n : Int) (g : Nat → Int) (L : List Int) (hL : laneOk g n L) : Met l yX2_cleanCoins (zW yX2_cleanCoins cX2_cleanCoins 3 (some .int)) ({ frames := 1, cells := 0, slots := 0, locals := 22 } : Room) (va_Pc [.ref a] (zIn D k sz [(a, .inr (2, [.ref b, .int (nZ n)])), (b, .inl (k 0, 21, .inl (zA g)))])) (va_Qi (fun (rz : Int32) (uz : Unit) => rz = nZ (cleanAllS L)) (fun (uz : Unit) => zOut D (va_A [(a, .inr (2, [.ref b, .int (nZ n)])), (b, .inl (k 0, 21, .inl (zA g)))] sz) [(a, .inr (2, [.ref b, .int (nZ n)])), (b, .inl (k 0, 21, .inl (zA g)))]) (va_A [(a, .inr (2, [.ref b, .int (nZ n)])), (b, .inl (k 0, 21, .inl (zA g)))] sz)) 0 0 (va_A [(a, .inr (2, [.ref b, .int (nZ n)])), (b, .inl (k 0, 21, .inl (zA g)))] sz) := by
  refine zEnter (Qf := fun A => va_Qi (fun (rz : Int32) (uz : Unit) => rz = nZ (cleanAllS L)) (fun (uz : Unit) => zOut D A [(a, .inr (2, [.ref b, .int (nZ n)])), (b, .inl (k 0, 21, .inl (zA g)))]) A) RX2 (by decide) rfl (Nat.le_of_ble_eq_true rfl) ?_
  intro p9 e9 s9 m9 be9 me9 c9 ls A X hin hP hD hS hA hAe hl
  have hX := X.1; have hB := X.2.1; have hz := X.2.2.2.2.1; have hW := X.2.2.2.2.2.1; have hK := X.2.2.2.2.2.2.2; clear hAe
  clear hin
  have hl : lv_has ls 3 [(0, .ref a)] := hl
  obtain ⟨hn, hlen⟩ := hL.len
  subst hn
  refine lv_iconst (v := nZ 0) hX hB dX2_cleanCoins_0 rfl ?_
  refine lv_istore_n (lv' := [(1, .int (nZ 0)), (0, .ref a)]) hX hB dX2_cleanCoins_1 rfl hl (by decide) rfl (fun ls hl => ?_)
  refine lv_iconst (v := nZ 0) hX hB dX2_cleanCoins_2 rfl ?_
  refine lv_istore_n (lv' := [(2, .int (nZ 0)), (1, .int (nZ 0)), (0, .ref a)]) hX hB dX2_cleanCoins_3 rfl hl (by decide) rfl (fun ls hl => ?_)
  refine zLoop (σ := Nat × Int) (fun (x : Nat × Int) (H : Heap) (locs : List Loc) (ls : Array Slot) => match x with | (i, q) => (q = cleanAllS (L.take i)) ∧ (i ≤ L.length) ∧ va_P D vwCl [(a, .inr (2, [.ref b, .int (nZ (↑L.length : Int))])), (b, .inl (k 0, 21, .inl (zA g)))] H ∧ va_D A [(a, .inr (2, [.ref b, .int (nZ (↑L.length : Int))])), (b, .inl (k 0, 21, .inl (zA g)))] ∧ va_S A s9.heap H locs ∧ lv_has ls 3 [(0, .ref a), (1, .int (nZ q)), (2, .int (nZ ↑i))]) (fun (x : Nat × Int) => match x with | (i, q) => L.length - i) ?_ (0, 0) ⟨(by simp [cleanAllS]), (by exact Nat.zero_le _), hP, hD, hS, (lv_sub hl [2, 1, 0] rfl)⟩
  rintro ⟨i, q⟩ H locs ls ⟨hq, hi, hP, hD, hS, hl⟩ ih_4
  refine lv_iload_n hX hB dX2_cleanCoins_4 rfl (lv_at hl 2 rfl) ?_
  refine lv_aload_n hX hB dX2_cleanCoins_5 rfl (lv_at hl 0 rfl) ?_
  refine va_get hX hB hz inlX2 hW hK.1 hP 0 rfl rfl 1 (by decide) (hz _ zw_95) (fun _ h9 => h9) rfl dX2_cleanCoins_6 ?_
  refine zz_icmp_ge X (tgt := 43) dX2_cleanCoins_9 (by decide) ⟨by omega, by omega⟩ ⟨by omega, by omega⟩ (fun c_9 => ?_) (fun c_9 => ?_)
  · refine lv_iload_n hX hB dX2_cleanCoins_43 rfl (lv_at hl 1 rfl) ?_
    exact zRetI () X hP hD hS rfl (by rw [hq, List.take_of_length_le (by omega)]) dX2_cleanCoins_44
  · refine lv_iload_n hX hB dX2_cleanCoins_12 rfl (lv_at hl 2 rfl) ?_
    refine lv_aload_n hX hB dX2_cleanCoins_13 rfl (lv_at hl 0 rfl) ?_
    refine va_get hX hB hz inlX2 hW hK.1 hP 0 rfl rfl 0 (by decide) (hz _ zw_51) (fun _ h9 => h9) rfl dX2_cleanCoins_14 ?_
    refine zz_alen X hP 1 0 (N := 21) rfl rfl rfl dX2_cleanCoins_17 ?_
    refine zz_icmp_ge X (tgt := 43) dX2_cleanCoins_18 (by decide) ⟨by omega, by omega⟩ ⟨by omega, by omega⟩ (fun c_18 => ?_) (fun c_18 => ?_)
    · exfalso; omega
    · refine lv_aload_n hX hB dX2_cleanCoins_21 rfl (lv_at hl 0 rfl) ?_
      refine va_get hX hB hz inlX2 hW hK.1 hP 0 rfl rfl 0 (by decide) (hz _ zw_51) (fun _ h9 => h9) rfl dX2_cleanCoins_22 ?_
      refine lv_iload_n hX hB dX2_cleanCoins_25 rfl (lv_at hl 2 rfl) ?_
      refine zz_iald X hP 1 0 rfl rfl i (by omega) (by omega) (by first | decide | omega) dX2_cleanCoins_26 ?_
      obtain ⟨_, hx1, hx2⟩ := hL.at (by omega : i < L.length)
      refine zCallI0 (zRunSN X ms_X6_bedAt (c_X6_bedAt l D k _ (g i) (by first | assumption | omega | exact ⟨by omega, by omega⟩)) (zn_X2_29 hK.2.1) (zPreS hP hD hK [] rfl rfl) rfl hl (Nat.le_of_ble_eq_true rfl) dX2_cleanCoins_27 ⟨rfl, rfl, ⟨Nat.le_of_ble_eq_true rfl, Nat.le_of_ble_eq_true rfl⟩, Nat.le_of_ble_eq_true rfl, Nat.le_of_ble_eq_true rfl⟩ rfl) hS hP hD hA [] rfl (fun _ => rfl) (fun r_27 u_27 H locs hq_27 hP hD hS => ?_)
      subst hq_27
      have hP : va_P D vwCl [(a, .inr (2, [.ref b, .int (nZ (↑L.length : Int))])), (b, .inl (k 0, 21, .inl (zA g)))] H := hP
      have hD : va_D A [(a, .inr (2, [.ref b, .int (nZ (↑L.length : Int))])), (b, .inl (k 0, 21, .inl (zA g)))] := hD
      have hbr := bedAtS_rng (g i)
      refine lv_iconst (v := nZ (-1)) hX hB dX2_cleanCoins_30 rfl ?_
      refine zz_icmp_eq X (tgt := 37) dX2_cleanCoins_31 (by decide) ⟨by omega, by omega⟩ ⟨by omega, by omega⟩ (fun c_31 => ?_) (fun c_31 => ?_)
      · refine lv_iinc (v := nZ (↑(i + 1) : Int)) (lv' := [(2, .int (nZ (↑(i + 1) : Int))), (0, .ref a), (1, .int (nZ q))]) hX hB dX2_cleanCoins_37 hl (k := 2) rfl (zinc (by omega)) (by decide) rfl (fun ls hl => ?_)
        refine lv_goto (tgt := 4) hX hB dX2_cleanCoins_40 (by decide) ?_
        exact ih_4 ((i + 1), q) _ _ _ ⟨(by have h9 := cleanAllS_take L i (by omega); rw [← (hL.at (by omega : i < L.length)).1] at h9; split at h9 <;> omega), (by first | omega | assumption | rfl), hP, hD, hS, (lv_sub hl [1, 2, 0] rfl)⟩ (by dsimp only; omega)
      · refine lv_iinc (v := nZ (q + 1)) (lv' := [(1, .int (nZ (q + 1))), (0, .ref a), (2, .int (nZ ↑i))]) hX hB dX2_cleanCoins_34 hl (k := 1) rfl (zinc (by omega)) (by decide) rfl (fun ls hl => ?_)
        refine lv_iinc (v := nZ (↑(i + 1) : Int)) (lv' := [(2, .int (nZ (↑(i + 1) : Int))), (1, .int (nZ (q + 1))), (0, .ref a)]) hX hB dX2_cleanCoins_37 hl (k := 2) rfl (zinc (by omega)) (by decide) rfl (fun ls hl => ?_)
        refine lv_goto (tgt := 4) hX hB dX2_cleanCoins_40 (by decide) ?_
        exact ih_4 ((i + 1), (q + 1)) _ _ _ ⟨(by have h9 := cleanAllS_take L i (by omega); rw [← (hL.at (by omega : i < L.length)).1] at h9; split at h9 <;> omega), (by first | omega | assumption | rfl), hP, hD, hS, (lv_sub hl [2, 1, 0] rfl)⟩ (by dsimp only; omega)
set_option maxHeartbeats 4000000 in
set_option maxRecDepth 100000 in
theorem c_X2_copyFrom (l : Launch) (D : va_G) (k : Nat → ClassId) (sz : Nat) (a b a2 b2 : Nat) (n n2 : Int) (g g2 : Nat → Int) (L : List Int) (hL : laneOk g2 n2 L) : Met l yX2_copyFrom (zW yX2_copyFrom cX2_copyFrom 3 none) ({ frames := 0, cells := 0, slots := 0, locals := 0 } : Room) (va_Pc [.ref a, .ref a2] (zIn D k sz [(a, .inr (2, [.ref b, .int (nZ n)])), (b, .inl (k 0, 21, .inl (zA g))), (a2, .inr (2, [.ref b2, .int (nZ n2)])), (b2, .inl (k 0, 21, .inl (zA g2)))])) (va_Qv (fun (uz : (Nat → Int)) => laneOk uz n2 L) (fun (uz : (Nat → Int)) => zOut D (va_A [(a, .inr (2, [.ref b, .int (nZ n)])), (b, .inl (k 0, 21, .inl (zA g))), (a2, .inr (2, [.ref b2, .int (nZ n2)])), (b2, .inl (k 0, 21, .inl (zA g2)))] sz) [(a, .inr (2, [.ref b, .int (nZ n2)])), (b, .inl (k 0, 21, .inl (zA uz))), (a2, .inr (2, [.ref b2, .int (nZ n2)])), (b2, .inl (k 0, 21, .inl (zA g2)))]) (va_A [(a, .inr (2, [.ref b, .int (nZ n)])), (b, .inl (k 0, 21, .inl (zA g))), (a2, .inr (2, [.ref b2, .int (nZ n2)])), (b2, .inl (k 0, 21, .inl (zA g2)))] sz)) 0 0 (va_A [(a, .inr (2, [.ref b, .int (nZ n)])), (b, .inl (k 0, 21, .inl (zA g))), (a2, .inr (2, [.ref b2, .int (nZ n2)])), (b2, .inl (k 0, 21, .inl (zA g2)))] sz) := by
  refine zEnter (Qf := fun A => va_Qv (fun (uz : (Nat → Int)) => laneOk uz n2 L) (fun (uz : (Nat → Int)) => zOut D A [(a, .inr (2, [.ref b, .int (nZ n2)])), (b, .inl (k 0, 21, .inl (zA uz))), (a2, .inr (2, [.ref b2, .int (nZ n2)])), (b2, .inl (k 0, 21, .inl (zA g2)))]) A) RX2 (by decide) rfl (Nat.le_of_ble_eq_true rfl) ?_
  intro p9 e9 s9 m9 be9 me9 c9 ls A X hin hP hD hS hA hAe hl
  have hX := X.1; have hB := X.2.1; have hz := X.2.2.2.2.1; have hW := X.2.2.2.2.2.1; have hK := X.2.2.2.2.2.2.2; clear hAe
  clear hin
  have hl : lv_has ls 3 [(0, .ref a), (1, .ref a2)] := hl
  obtain ⟨hn, hlen⟩ := hL.len
  subst hn
  refine lv_aload_n hX hB dX2_copyFrom_0 rfl (lv_at hl 0 rfl) ?_
  refine lv_aload_n hX hB dX2_copyFrom_1 rfl (lv_at hl 1 rfl) ?_
  refine va_get hX hB hz inlX2 hW hK.1 hP 2 rfl rfl 1 (by decide) (hz _ zw_95) (fun _ h9 => h9) rfl dX2_copyFrom_2 ?_
  refine va_put (v := .int (nZ (↑L.length : Int))) (ty := tyX2 1) hX hB hz inlX2 tyX2 tyX2_ok nmX2 hW hK.1 hP hD hS 0 rfl rfl 1 (by decide) (hz _ zw_95) (fun _ h9 => h9) rfl (by decide +kernel) rfl rfl (Nat.le_of_ble_eq_true rfl) dX2_copyFrom_5 (fun H locs hP hD hS => ?_)
  have hP : va_P D vwCl [(a, .inr (2, [.ref b, .int (nZ (↑L.length : Int))])), (b, .inl (k 0, 21, .inl (zA g))), (a2, .inr (2, [.ref b2, .int (nZ (↑L.length : Int))])), (b2, .inl (k 0, 21, .inl (zA g2)))] H := hP
  have hD : va_D A [(a, .inr (2, [.ref b, .int (nZ (↑L.length : Int))])), (b, .inl (k 0, 21, .inl (zA g))), (a2, .inr (2, [.ref b2, .int (nZ (↑L.length : Int))])), (b2, .inl (k 0, 21, .inl (zA g2)))] := hD
  refine lv_iconst (v := nZ 0) hX hB dX2_copyFrom_8 rfl ?_
  refine lv_istore_n (lv' := [(2, .int (nZ 0)), (0, .ref a), (1, .ref a2)]) hX hB dX2_copyFrom_9 rfl hl (by decide) rfl (fun ls hl => ?_)
  refine zLoop (σ := Nat × (Nat → Int)) (fun (x : Nat × (Nat → Int)) (H : Heap) (locs : List Loc) (ls : Array Slot) => match x with | (i, gg) => (i ≤ L.length) ∧ (∀ j : Nat, j < i → gg j = g2 j) ∧ va_P D vwCl [(a, .inr (2, [.ref b, .int (nZ (↑L.length : Int))])), (b, .inl (k 0, 21, .inl (zA gg))), (a2, .inr (2, [.ref b2, .int (nZ (↑L.length : Int))])), (b2, .inl (k 0, 21, .inl (zA g2)))] H ∧ va_D A [(a, .inr (2, [.ref b, .int (nZ (↑L.length : Int))])), (b, .inl (k 0, 21, .inl (zA gg))), (a2, .inr (2, [.ref b2, .int (nZ (↑L.length : Int))])), (b2, .inl (k 0, 21, .inl (zA g2)))] ∧ va_S A s9.heap H locs ∧ lv_has ls 3 [(0, .ref a), (1, .ref a2), (2, .int (nZ ↑i))]) (fun (x : Nat × (Nat → Int)) => match x with | (i, gg) => L.length - i) ?_ (0, g) ⟨(by exact Nat.zero_le _), (by intro j hj; exact absurd hj (Nat.not_lt_zero _)), hP, hD, hS, (lv_sub hl [1, 2, 0] rfl)⟩
  rintro ⟨i, gg⟩ H locs ls ⟨hi, hc, hP, hD, hS, hl⟩ ih_10
  refine lv_iload_n hX hB dX2_copyFrom_10 rfl (lv_at hl 2 rfl) ?_
  refine lv_aload_n hX hB dX2_copyFrom_11 rfl (lv_at hl 0 rfl) ?_
  refine va_get hX hB hz inlX2 hW hK.1 hP 0 rfl rfl 1 (by decide) (hz _ zw_95) (fun _ h9 => h9) rfl dX2_copyFrom_12 ?_
  refine zz_icmp_ge X (tgt := 54) dX2_copyFrom_15 (by decide) ⟨by omega, by omega⟩ ⟨by omega, by omega⟩ (fun c_15 => ?_) (fun c_15 => ?_)
  · exact zRetV gg X hP hD hS rfl (hL.copy (fun j hj => hc j (by omega))) dX2_copyFrom_54
  · refine lv_iload_n hX hB dX2_copyFrom_18 rfl (lv_at hl 2 rfl) ?_
    refine lv_aload_n hX hB dX2_copyFrom_19 rfl (lv_at hl 0 rfl) ?_
    refine va_get hX hB hz inlX2 hW hK.1 hP 0 rfl rfl 0 (by decide) (hz _ zw_51) (fun _ h9 => h9) rfl dX2_copyFrom_20 ?_
    refine zz_alen X hP 1 0 (N := 21) rfl rfl rfl dX2_copyFrom_23 ?_
    refine zz_icmp_ge X (tgt := 54) dX2_copyFrom_24 (by decide) ⟨by omega, by omega⟩ ⟨by omega, by omega⟩ (fun c_24 => ?_) (fun c_24 => ?_)
    · exfalso; omega
    · refine lv_iload_n hX hB dX2_copyFrom_27 rfl (lv_at hl 2 rfl) ?_
      refine lv_aload_n hX hB dX2_copyFrom_28 rfl (lv_at hl 1 rfl) ?_
      refine va_get hX hB hz inlX2 hW hK.1 hP 2 rfl rfl 0 (by decide) (hz _ zw_51) (fun _ h9 => h9) rfl dX2_copyFrom_29 ?_
      refine zz_alen X hP 3 0 (N := 21) rfl rfl rfl dX2_copyFrom_32 ?_
      refine zz_icmp_ge X (tgt := 54) dX2_copyFrom_33 (by decide) ⟨by omega, by omega⟩ ⟨by omega, by omega⟩ (fun c_33 => ?_) (fun c_33 => ?_)
      · exfalso; omega
      · refine lv_aload_n hX hB dX2_copyFrom_36 rfl (lv_at hl 0 rfl) ?_
        refine va_get hX hB hz inlX2 hW hK.1 hP 0 rfl rfl 0 (by decide) (hz _ zw_51) (fun _ h9 => h9) rfl dX2_copyFrom_37 ?_
        refine lv_iload_n hX hB dX2_copyFrom_40 rfl (lv_at hl 2 rfl) ?_
        refine lv_aload_n hX hB dX2_copyFrom_41 rfl (lv_at hl 1 rfl) ?_
        refine va_get hX hB hz inlX2 hW hK.1 hP 2 rfl rfl 0 (by decide) (hz _ zw_51) (fun _ h9 => h9) rfl dX2_copyFrom_42 ?_
        refine lv_iload_n hX hB dX2_copyFrom_45 rfl (lv_at hl 2 rfl) ?_
        refine zz_iald X hP 3 0 rfl rfl i (by omega) (by omega) (by first | decide | omega) dX2_copyFrom_46 ?_
        refine zz_iast X hP hD hS 1 0 rfl rfl i (by omega) (by omega) (by first | decide | omega) dX2_copyFrom_47 (fun H locs hP hD hS => ?_)
        have hP : va_P D vwCl [(a, .inr (2, [.ref b, .int (nZ (↑L.length : Int))])), (b, .inl (k 0, 21, .inl (zA (zU gg i (g2 i))))), (a2, .inr (2, [.ref b2, .int (nZ (↑L.length : Int))])), (b2, .inl (k 0, 21, .inl (zA g2)))] H := hP
        have hD : va_D A [(a, .inr (2, [.ref b, .int (nZ (↑L.length : Int))])), (b, .inl (k 0, 21, .inl (zA (zU gg i (g2 i))))), (a2, .inr (2, [.ref b2, .int (nZ (↑L.length : Int))])), (b2, .inl (k 0, 21, .inl (zA g2)))] := hD
        refine lv_iinc (v := nZ (↑(i + 1) : Int)) (lv' := [(2, .int (nZ (↑(i + 1) : Int))), (0, .ref a), (1, .ref a2)]) hX hB dX2_copyFrom_48 hl (k := 2) rfl (zinc (by omega)) (by decide) rfl (fun ls hl => ?_)
        refine lv_goto (tgt := 10) hX hB dX2_copyFrom_51 (by decide) ?_
        exact ih_10 ((i + 1), (zU gg i (g2 i))) _ _ _ ⟨(by first | omega | assumption | rfl), (by exact zU_run hc rfl), hP, hD, hS, (lv_sub hl [1, 2, 0] rfl)⟩ (by dsimp only; omega)
set_option maxHeartbeats 4000000 in
set_option maxRecDepth 100000 in
theorem c_X2_move (l : Launch) (D : va_G) (k : Nat → ClassId) (sz : Nat) (a b : Nat) (n : Int) (g : Nat → Int) (L : List Int) (r : Nat) (p : Int) (hL : laneOk g n L) (hr : r < L.length) (hp : -5 ≤ p ∧ p ≤ 100) : Met l yX2_move (zW yX2_move cX2_move 3 none) ({ frames := 0, cells := 0, slots := 0, locals := 0 } : Room) (va_Pc [.ref a, .int (nZ ↑r), .int (nZ p)] (zIn D k sz [(a, .inr (2, [.ref b, .int (nZ n)])), (b, .inl (k 0, 21, .inl (zA g)))])) (va_Qv (fun (uz : Unit) => laneOk (zU g r p) n (L.set r p)) (fun (uz : Unit) => zOut D (va_A [(a, .inr (2, [.ref b, .int (nZ n)])), (b, .inl (k 0, 21, .inl (zA g)))] sz) [(a, .inr (2, [.ref b, .int (nZ n)])), (b, .inl (k 0, 21, .inl (zA (zU g r p))))]) (va_A [(a, .inr (2, [.ref b, .int (nZ n)])), (b, .inl (k 0, 21, .inl (zA g)))] sz)) 0 0 (va_A [(a, .inr (2, [.ref b, .int (nZ n)])), (b, .inl (k 0, 21, .inl (zA g)))] sz) := by
  refine zEnter (Qf := fun A => va_Qv (fun (uz : Unit) => laneOk (zU g r p) n (L.set r p)) (fun (uz : Unit) => zOut D A [(a, .inr (2, [.ref b, .int (nZ n)])), (b, .inl (k 0, 21, .inl (zA (zU g r p))))]) A) RX2 (by decide) rfl (Nat.le_of_ble_eq_true rfl) ?_
  intro p9 e9 s9 m9 be9 me9 c9 ls A X hin hP hD hS hA hAe hl
  have hX := X.1; have hB := X.2.1; have hz := X.2.2.2.2.1; have hW := X.2.2.2.2.2.1; have hK := X.2.2.2.2.2.2.2; clear hAe
  clear hin
  have hl : lv_has ls 3 [(0, .ref a), (1, .int (nZ ↑r)), (2, .int (nZ p))] := hl
  obtain ⟨hn, hlen⟩ := hL.len
  subst hn
  refine lv_iload_n hX hB dX2_move_0 rfl (lv_at hl 1 rfl) ?_
  refine zz_if_lt X (tgt := 28) dX2_move_1 (by decide) ⟨by omega, by omega⟩ (fun c_1 => ?_) (fun c_1 => ?_)
  · exfalso; omega
  · refine lv_iload_n hX hB dX2_move_4 rfl (lv_at hl 1 rfl) ?_
    refine lv_aload_n hX hB dX2_move_5 rfl (lv_at hl 0 rfl) ?_
    refine va_get hX hB hz inlX2 hW hK.1 hP 0 rfl rfl 1 (by decide) (hz _ zw_95) (fun _ h9 => h9) rfl dX2_move_6 ?_
    refine zz_icmp_ge X (tgt := 28) dX2_move_9 (by decide) ⟨by omega, by omega⟩ ⟨by omega, by omega⟩ (fun c_9 => ?_) (fun c_9 => ?_)
    · exfalso; omega
    · refine lv_iload_n hX hB dX2_move_12 rfl (lv_at hl 1 rfl) ?_
      refine lv_aload_n hX hB dX2_move_13 rfl (lv_at hl 0 rfl) ?_
      refine va_get hX hB hz inlX2 hW hK.1 hP 0 rfl rfl 0 (by decide) (hz _ zw_51) (fun _ h9 => h9) rfl dX2_move_14 ?_
      refine zz_alen X hP 1 0 (N := 21) rfl rfl rfl dX2_move_17 ?_
      refine zz_icmp_ge X (tgt := 28) dX2_move_18 (by decide) ⟨by omega, by omega⟩ ⟨by omega, by omega⟩ (fun c_18 => ?_) (fun c_18 => ?_)
      · exfalso; omega
      · refine lv_aload_n hX hB dX2_move_21 rfl (lv_at hl 0 rfl) ?_
        refine va_get hX hB hz inlX2 hW hK.1 hP 0 rfl rfl 0 (by decide) (hz _ zw_51) (fun _ h9 => h9) rfl dX2_move_22 ?_
        refine lv_iload_n hX hB dX2_move_25 rfl (lv_at hl 1 rfl) ?_
        refine lv_iload_n hX hB dX2_move_26 rfl (lv_at hl 2 rfl) ?_
        refine zz_iast X hP hD hS 1 0 rfl rfl r (by omega) (by omega) (by first | decide | omega) dX2_move_27 (fun H locs hP hD hS => ?_)
        have hP : va_P D vwCl [(a, .inr (2, [.ref b, .int (nZ (↑L.length : Int))])), (b, .inl (k 0, 21, .inl (zA (zU g r p))))] H := hP
        have hD : va_D A [(a, .inr (2, [.ref b, .int (nZ (↑L.length : Int))])), (b, .inl (k 0, 21, .inl (zA (zU g r p))))] := hD
        exact zRetV () X hP hD hS rfl (hL.set (by omega) hp) dX2_move_28
set_option maxHeartbeats 4000000 in
set_option maxRecDepth 100000 in
theorem c_X2_insertAt (l : Launch) (D : va_G) (k : Nat → ClassId) (sz : Nat) (a b : Nat) (n : Int) (g : Nat → Int) (L : List Int) (r : Nat) (p : Int) (hL : laneOk g n L) (hr : r ≤ L.length) (hl20 : L.length ≤ 20) (hp : -5 ≤ p ∧ p ≤ 100) : Met l yX2_insertAt (zW yX2_insertAt cX2_insertAt 4 none) ({ frames := 0, cells := 0, slots := 0, locals := 0 } : Room) (va_Pc [.ref a, .int (nZ ↑r), .int (nZ p)] (zIn D k sz [(a, .inr (2, [.ref b, .int (nZ n)])), (b, .inl (k 0, 21, .inl (zA g)))])) (va_Qv (fun (uz : (Nat → Int)) => laneOk uz (n + 1) (insS r p L)) (fun (uz : (Nat → Int)) => zOut D (va_A [(a, .inr (2, [.ref b, .int (nZ n)])), (b, .inl (k 0, 21, .inl (zA g)))] sz) [(a, .inr (2, [.ref b, .int (nZ (n + 1))])), (b, .inl (k 0, 21, .inl (zA uz)))]) (va_A [(a, .inr (2, [.ref b, .int (nZ n)])), (b, .inl (k 0, 21, .inl (zA g)))] sz)) 0 0 (va_A [(a, .inr (2, [.ref b, .int (nZ n)])), (b, .inl (k 0, 21, .inl (zA g)))] sz) := by
  refine zEnter (Qf := fun A => va_Qv (fun (uz : (Nat → Int)) => laneOk uz (n + 1) (insS r p L)) (fun (uz : (Nat → Int)) => zOut D A [(a, .inr (2, [.ref b, .int (nZ (n + 1))])), (b, .inl (k 0, 21, .inl (zA uz)))]) A) RX2 (by decide) rfl (Nat.le_of_ble_eq_true rfl) ?_
  intro p9 e9 s9 m9 be9 me9 c9 ls A X hin hP hD hS hA hAe hl
  have hX := X.1; have hB := X.2.1; have hz := X.2.2.2.2.1; have hW := X.2.2.2.2.2.1; have hK := X.2.2.2.2.2.2.2; clear hAe
  clear hin
  have hl : lv_has ls 4 [(0, .ref a), (1, .int (nZ ↑r)), (2, .int (nZ p))] := hl
  obtain ⟨hn, hlen⟩ := hL.len
  subst hn
  refine lv_iload_n hX hB dX2_insertAt_0 rfl (lv_at hl 1 rfl) ?_
  refine zz_if_lt X (tgt := 24) dX2_insertAt_1 (by decide) ⟨by omega, by omega⟩ (fun c_1 => ?_) (fun c_1 => ?_)
  · exfalso; omega
  · refine lv_iload_n hX hB dX2_insertAt_4 rfl (lv_at hl 1 rfl) ?_
    refine lv_aload_n hX hB dX2_insertAt_5 rfl (lv_at hl 0 rfl) ?_
    refine va_get hX hB hz inlX2 hW hK.1 hP 0 rfl rfl 1 (by decide) (hz _ zw_95) (fun _ h9 => h9) rfl dX2_insertAt_6 ?_
    refine zz_icmp_gt X (tgt := 24) dX2_insertAt_9 (by decide) ⟨by omega, by omega⟩ ⟨by omega, by omega⟩ (fun c_9 => ?_) (fun c_9 => ?_)
    · exfalso; omega
    · refine lv_aload_n hX hB dX2_insertAt_12 rfl (lv_at hl 0 rfl) ?_
      refine va_get hX hB hz inlX2 hW hK.1 hP 0 rfl rfl 1 (by decide) (hz _ zw_95) (fun _ h9 => h9) rfl dX2_insertAt_13 ?_
      refine lv_aload_n hX hB dX2_insertAt_16 rfl (lv_at hl 0 rfl) ?_
      refine va_get hX hB hz inlX2 hW hK.1 hP 0 rfl rfl 0 (by decide) (hz _ zw_51) (fun _ h9 => h9) rfl dX2_insertAt_17 ?_
      refine zz_alen X hP 1 0 (N := 21) rfl rfl rfl dX2_insertAt_20 ?_
      refine zz_icmp_lt X (tgt := 25) dX2_insertAt_21 (by decide) ⟨by omega, by omega⟩ ⟨by omega, by omega⟩ (fun c_21 => ?_) (fun c_21 => ?_)
      · refine lv_aload_n hX hB dX2_insertAt_25 rfl (lv_at hl 0 rfl) ?_
        refine va_get hX hB hz inlX2 hW hK.1 hP 0 rfl rfl 1 (by decide) (hz _ zw_95) (fun _ h9 => h9) rfl dX2_insertAt_26 ?_
        refine lv_istore_n (lv' := [(3, .int (nZ (↑L.length : Int))), (0, .ref a), (1, .int (nZ ↑r)), (2, .int (nZ p))]) hX hB dX2_insertAt_29 rfl hl (by decide) rfl (fun ls hl => ?_)
        refine zLoop (σ := Nat × (Nat → Int)) (fun (x : Nat × (Nat → Int)) (H : Heap) (locs : List Loc) (ls : Array Slot) => match x with | (i, gg) => (r ≤ i ∧ i ≤ L.length) ∧ (∀ j : Nat, j ≤ i → gg j = g j) ∧ (∀ j : Nat, i < j → j ≤ L.length → gg j = g (j - 1)) ∧ va_P D vwCl [(a, .inr (2, [.ref b, .int (nZ (↑L.length : Int))])), (b, .inl (k 0, 21, .inl (zA gg)))] H ∧ va_D A [(a, .inr (2, [.ref b, .int (nZ (↑L.length : Int))])), (b, .inl (k 0, 21, .inl (zA gg)))] ∧ va_S A s9.heap H locs ∧ lv_has ls 4 [(0, .ref a), (1, .int (nZ ↑r)), (2, .int (nZ p)), (3, .int (nZ ↑i))]) (fun (x : Nat × (Nat → Int)) => match x with | (i, gg) => i) ?_ (L.length, g) ⟨(by first | omega | assumption | rfl), (by intro j hj; rfl), (by intro j h3 h4; omega), hP, hD, hS, (lv_sub hl [1, 2, 3, 0] rfl)⟩
        rintro ⟨i, gg⟩ H locs ls ⟨hi, h1, h2, hP, hD, hS, hl⟩ ih_30
        refine lv_iload_n hX hB dX2_insertAt_30 rfl (lv_at hl 3 rfl) ?_
        refine lv_iload_n hX hB dX2_insertAt_31 rfl (lv_at hl 1 rfl) ?_
        refine zz_icmp_le X (tgt := 55) dX2_insertAt_32 (by decide) ⟨by omega, by omega⟩ ⟨by omega, by omega⟩ (fun c_32 => ?_) (fun c_32 => ?_)
        · refine lv_aload_n hX hB dX2_insertAt_55 rfl (lv_at hl 0 rfl) ?_
          refine va_get hX hB hz inlX2 hW hK.1 hP 0 rfl rfl 0 (by decide) (hz _ zw_51) (fun _ h9 => h9) rfl dX2_insertAt_56 ?_
          refine lv_iload_n hX hB dX2_insertAt_59 rfl (lv_at hl 1 rfl) ?_
          refine lv_iload_n hX hB dX2_insertAt_60 rfl (lv_at hl 2 rfl) ?_
          refine zz_iast X hP hD hS 1 0 rfl rfl r (by omega) (by omega) (by first | decide | omega) dX2_insertAt_61 (fun H locs hP hD hS => ?_)
          have hP : va_P D vwCl [(a, .inr (2, [.ref b, .int (nZ (↑L.length : Int))])), (b, .inl (k 0, 21, .inl (zA (zU gg r p))))] H := hP
          have hD : va_D A [(a, .inr (2, [.ref b, .int (nZ (↑L.length : Int))])), (b, .inl (k 0, 21, .inl (zA (zU gg r p))))] := hD
          refine lv_aload_n hX hB dX2_insertAt_62 rfl (lv_at hl 0 rfl) ?_
          refine lv_dup hX hB dX2_insertAt_63 rfl ?_
          refine va_get hX hB hz inlX2 hW hK.1 hP 0 rfl rfl 1 (by decide) (hz _ zw_95) (fun _ h9 => h9) rfl dX2_insertAt_64 ?_
          refine lv_iconst (v := nZ 1) hX hB dX2_insertAt_67 rfl ?_
          refine zz_iadd X dX2_insertAt_68 (z := (↑(L.length + 1) : Int)) (by first | rfl | omega) ?_
          refine va_put (v := .int (nZ (↑(L.length + 1) : Int))) (ty := tyX2 1) hX hB hz inlX2 tyX2 tyX2_ok nmX2 hW hK.1 hP hD hS 0 rfl rfl 1 (by decide) (hz _ zw_95) (fun _ h9 => h9) rfl (by decide +kernel) rfl rfl (Nat.le_of_ble_eq_true rfl) dX2_insertAt_69 (fun H locs hP hD hS => ?_)
          have hP : va_P D vwCl [(a, .inr (2, [.ref b, .int (nZ (↑(L.length + 1) : Int))])), (b, .inl (k 0, 21, .inl (zA (zU gg r p))))] H := hP
          have hD : va_D A [(a, .inr (2, [.ref b, .int (nZ (↑(L.length + 1) : Int))])), (b, .inl (k 0, 21, .inl (zA (zU gg r p))))] := hD
          exact zRetV (zU gg r p) X hP hD hS rfl (hL.ins hr hl20 hp (fun j hj => by rw [zU_ne _ _ (by omega)]; exact h1 j (by omega)) (zU_same _ _ _) (fun j h3 h4 => by rw [zU_ne _ _ (by omega)]; exact h2 j (by omega) h4)) dX2_insertAt_72
        · refine lv_aload_n hX hB dX2_insertAt_35 rfl (lv_at hl 0 rfl) ?_
          refine va_get hX hB hz inlX2 hW hK.1 hP 0 rfl rfl 0 (by decide) (hz _ zw_51) (fun _ h9 => h9) rfl dX2_insertAt_36 ?_
          refine lv_iload_n hX hB dX2_insertAt_39 rfl (lv_at hl 3 rfl) ?_
          refine lv_aload_n hX hB dX2_insertAt_40 rfl (lv_at hl 0 rfl) ?_
          refine va_get hX hB hz inlX2 hW hK.1 hP 0 rfl rfl 0 (by decide) (hz _ zw_51) (fun _ h9 => h9) rfl dX2_insertAt_41 ?_
          refine lv_iload_n hX hB dX2_insertAt_44 rfl (lv_at hl 3 rfl) ?_
          refine lv_iconst (v := nZ 1) hX hB dX2_insertAt_45 rfl ?_
          refine zz_isub X dX2_insertAt_46 (z := (↑i - 1)) (by first | rfl | omega) ?_
          refine zz_iald X hP 1 0 rfl rfl (i - 1) (by omega) (by omega) (by first | decide | omega) dX2_insertAt_47 ?_
          refine zz_iast X hP hD hS 1 0 rfl rfl i (by omega) (by omega) (by first | decide | omega) dX2_insertAt_48 (fun H locs hP hD hS => ?_)
          have hP : va_P D vwCl [(a, .inr (2, [.ref b, .int (nZ (↑L.length : Int))])), (b, .inl (k 0, 21, .inl (zA (zU gg i (gg (i - 1))))))] H := hP
          have hD : va_D A [(a, .inr (2, [.ref b, .int (nZ (↑L.length : Int))])), (b, .inl (k 0, 21, .inl (zA (zU gg i (gg (i - 1))))))] := hD
          refine lv_iinc (v := nZ (↑(i - 1) : Int)) (lv' := [(3, .int (nZ (↑(i - 1) : Int))), (0, .ref a), (1, .int (nZ ↑r)), (2, .int (nZ p))]) hX hB dX2_insertAt_49 hl (k := 3) rfl (zinc (by omega)) (by decide) rfl (fun ls hl => ?_)
          refine lv_goto (tgt := 30) hX hB dX2_insertAt_52 (by decide) ?_
          exact ih_30 ((i - 1), (zU gg i (gg (i - 1)))) _ _ _ ⟨(by first | omega | assumption | rfl), (by intro j hj; rw [zU_ne _ _ (by omega)]; exact h1 j (by omega)), (by intro j h3 h4; by_cases e : j = i; { rw [e, zU_same, h1 _ (by omega)] }; { rw [zU_ne _ _ e]; exact h2 j (by omega) h4 }), hP, hD, hS, (lv_sub hl [1, 2, 3, 0] rfl)⟩ (by dsimp only; omega)
      · exfalso; omega
set_option maxHeartbeats 4000000 in
set_option maxRecDepth 100000 in
theorem c_X2_removeFirst (l : Launch) (D : va_G) (k : Nat → ClassId) (sz : Nat) (a b : Nat) (n : Int) (g : Nat → Int) (L : List Int) (hL : laneOk g n L) (h0 : 0 < L.length) : Met l yX2_removeFirst (zW yX2_removeFirst cX2_removeFirst 2 none) ({ frames := 0, cells := 0, slots := 0, locals := 0 } : Room) (va_Pc [.ref a] (zIn D k sz [(a, .inr (2, [.ref b, .int (nZ n)])), (b, .inl (k 0, 21, .inl (zA g)))])) (va_Qv (fun (uz : (Nat → Int)) => laneOk uz (n - 1) L.tail) (fun (uz : (Nat → Int)) => zOut D (va_A [(a, .inr (2, [.ref b, .int (nZ n)])), (b, .inl (k 0, 21, .inl (zA g)))] sz) [(a, .inr (2, [.ref b, .int (nZ (n - 1))])), (b, .inl (k 0, 21, .inl (zA uz)))]) (va_A [(a, .inr (2, [.ref b, .int (nZ n)])), (b, .inl (k 0, 21, .inl (zA g)))] sz)) 0 0 (va_A [(a, .inr (2, [.ref b, .int (nZ n)])), (b, .inl (k 0, 21, .inl (zA g)))] sz) := by
  refine zEnter (Qf := fun A => va_Qv (fun (uz : (Nat → Int)) => laneOk uz (n - 1) L.tail) (fun (uz : (Nat → Int)) => zOut D A [(a, .inr (2, [.ref b, .int (nZ (n - 1))])), (b, .inl (k 0, 21, .inl (zA uz)))]) A) RX2 (by decide) rfl (Nat.le_of_ble_eq_true rfl) ?_
  intro p9 e9 s9 m9 be9 me9 c9 ls A X hin hP hD hS hA hAe hl
  have hX := X.1; have hB := X.2.1; have hz := X.2.2.2.2.1; have hW := X.2.2.2.2.2.1; have hK := X.2.2.2.2.2.2.2; clear hAe
  clear hin
  have hl : lv_has ls 2 [(0, .ref a)] := hl
  obtain ⟨hn, hlen⟩ := hL.len
  subst hn
  refine lv_iconst (v := nZ 1) hX hB dX2_removeFirst_0 rfl ?_
  refine lv_istore_n (lv' := [(1, .int (nZ 1)), (0, .ref a)]) hX hB dX2_removeFirst_1 rfl hl (by decide) rfl (fun ls hl => ?_)
  refine zLoop (σ := Nat × (Nat → Int)) (fun (x : Nat × (Nat → Int)) (H : Heap) (locs : List Loc) (ls : Array Slot) => match x with | (i, gg) => (1 ≤ i ∧ i ≤ L.length) ∧ (∀ j : Nat, j + 1 < i → gg j = g (j + 1)) ∧ (∀ j : Nat, i ≤ j + 1 → gg j = g j) ∧ va_P D vwCl [(a, .inr (2, [.ref b, .int (nZ (↑L.length : Int))])), (b, .inl (k 0, 21, .inl (zA gg)))] H ∧ va_D A [(a, .inr (2, [.ref b, .int (nZ (↑L.length : Int))])), (b, .inl (k 0, 21, .inl (zA gg)))] ∧ va_S A s9.heap H locs ∧ lv_has ls 2 [(0, .ref a), (1, .int (nZ ↑i))]) (fun (x : Nat × (Nat → Int)) => match x with | (i, gg) => L.length - i) ?_ (1, g) ⟨(by first | omega | assumption | rfl), (by intro j hj; omega), (by intro j hj; rfl), hP, hD, hS, (lv_sub hl [1, 0] rfl)⟩
  rintro ⟨i, gg⟩ H locs ls ⟨hi, h1, h2, hP, hD, hS, hl⟩ ih_2
  refine lv_iload_n hX hB dX2_removeFirst_2 rfl (lv_at hl 1 rfl) ?_
  refine lv_aload_n hX hB dX2_removeFirst_3 rfl (lv_at hl 0 rfl) ?_
  refine va_get hX hB hz inlX2 hW hK.1 hP 0 rfl rfl 1 (by decide) (hz _ zw_95) (fun _ h9 => h9) rfl dX2_removeFirst_4 ?_
  refine zz_icmp_ge X (tgt := 39) dX2_removeFirst_7 (by decide) ⟨by omega, by omega⟩ ⟨by omega, by omega⟩ (fun c_7 => ?_) (fun c_7 => ?_)
  · refine lv_aload_n hX hB dX2_removeFirst_39 rfl (lv_at hl 0 rfl) ?_
    refine va_get hX hB hz inlX2 hW hK.1 hP 0 rfl rfl 1 (by decide) (hz _ zw_95) (fun _ h9 => h9) rfl dX2_removeFirst_40 ?_
    refine zz_if_le X (tgt := 56) dX2_removeFirst_43 (by decide) ⟨by omega, by omega⟩ (fun c_43 => ?_) (fun c_43 => ?_)
    · exfalso; omega
    · refine lv_aload_n hX hB dX2_removeFirst_46 rfl (lv_at hl 0 rfl) ?_
      refine lv_dup hX hB dX2_removeFirst_47 rfl ?_
      refine va_get hX hB hz inlX2 hW hK.1 hP 0 rfl rfl 1 (by decide) (hz _ zw_95) (fun _ h9 => h9) rfl dX2_removeFirst_48 ?_
      refine lv_iconst (v := nZ 1) hX hB dX2_removeFirst_51 rfl ?_
      refine zz_isub X dX2_removeFirst_52 (z := ((↑L.length : Int) - 1)) (by first | rfl | omega) ?_
      refine va_put (v := .int (nZ ((↑L.length : Int) - 1))) (ty := tyX2 1) hX hB hz inlX2 tyX2 tyX2_ok nmX2 hW hK.1 hP hD hS 0 rfl rfl 1 (by decide) (hz _ zw_95) (fun _ h9 => h9) rfl (by decide +kernel) rfl rfl (Nat.le_of_ble_eq_true rfl) dX2_removeFirst_53 (fun H locs hP hD hS => ?_)
      have hP : va_P D vwCl [(a, .inr (2, [.ref b, .int (nZ ((↑L.length : Int) - 1))])), (b, .inl (k 0, 21, .inl (zA gg)))] H := hP
      have hD : va_D A [(a, .inr (2, [.ref b, .int (nZ ((↑L.length : Int) - 1))])), (b, .inl (k 0, 21, .inl (zA gg)))] := hD
      exact zRetV gg X hP hD hS rfl (hL.tail h0 (fun j hj => h1 j (by omega))) dX2_removeFirst_56
  · refine lv_iload_n hX hB dX2_removeFirst_10 rfl (lv_at hl 1 rfl) ?_
    refine lv_aload_n hX hB dX2_removeFirst_11 rfl (lv_at hl 0 rfl) ?_
    refine va_get hX hB hz inlX2 hW hK.1 hP 0 rfl rfl 0 (by decide) (hz _ zw_51) (fun _ h9 => h9) rfl dX2_removeFirst_12 ?_
    refine zz_alen X hP 1 0 (N := 21) rfl rfl rfl dX2_removeFirst_15 ?_
    refine zz_icmp_ge X (tgt := 39) dX2_removeFirst_16 (by decide) ⟨by omega, by omega⟩ ⟨by omega, by omega⟩ (fun c_16 => ?_) (fun c_16 => ?_)
    · exfalso; omega
    · refine lv_aload_n hX hB dX2_removeFirst_19 rfl (lv_at hl 0 rfl) ?_
      refine va_get hX hB hz inlX2 hW hK.1 hP 0 rfl rfl 0 (by decide) (hz _ zw_51) (fun _ h9 => h9) rfl dX2_removeFirst_20 ?_
      refine lv_iload_n hX hB dX2_removeFirst_23 rfl (lv_at hl 1 rfl) ?_
      refine lv_iconst (v := nZ 1) hX hB dX2_removeFirst_24 rfl ?_
      refine zz_isub X dX2_removeFirst_25 (z := (↑i - 1)) (by first | rfl | omega) ?_
      refine lv_aload_n hX hB dX2_removeFirst_26 rfl (lv_at hl 0 rfl) ?_
      refine va_get hX hB hz inlX2 hW hK.1 hP 0 rfl rfl 0 (by decide) (hz _ zw_51) (fun _ h9 => h9) rfl dX2_removeFirst_27 ?_
      refine lv_iload_n hX hB dX2_removeFirst_30 rfl (lv_at hl 1 rfl) ?_
      refine zz_iald X hP 1 0 rfl rfl i (by omega) (by omega) (by first | decide | omega) dX2_removeFirst_31 ?_
      refine zz_iast X hP hD hS 1 0 rfl rfl (i - 1) (by omega) (by omega) (by first | decide | omega) dX2_removeFirst_32 (fun H locs hP hD hS => ?_)
      have hP : va_P D vwCl [(a, .inr (2, [.ref b, .int (nZ (↑L.length : Int))])), (b, .inl (k 0, 21, .inl (zA (zU gg (i - 1) (gg i)))))] H := hP
      have hD : va_D A [(a, .inr (2, [.ref b, .int (nZ (↑L.length : Int))])), (b, .inl (k 0, 21, .inl (zA (zU gg (i - 1) (gg i)))))] := hD
      refine lv_iinc (v := nZ (↑(i + 1) : Int)) (lv' := [(1, .int (nZ (↑(i + 1) : Int))), (0, .ref a)]) hX hB dX2_removeFirst_33 hl (k := 1) rfl (zinc (by omega)) (by decide) rfl (fun ls hl => ?_)
      refine lv_goto (tgt := 2) hX hB dX2_removeFirst_36 (by decide) ?_
      exact ih_2 ((i + 1), (zU gg (i - 1) (gg i))) _ _ _ ⟨(by first | omega | assumption | rfl), (by intro j hj; by_cases e : j = i - 1; { rw [e, zU_same, h2 _ (by omega), show i - 1 + 1 = i by omega] }; { rw [zU_ne _ _ e]; exact h1 j (by omega) }), (by intro j hj; rw [zU_ne _ _ (by omega)]; exact h2 j (by omega)), hP, hD, hS, (lv_sub hl [1, 0] rfl)⟩ (by dsimp only; omega)
set_option maxHeartbeats 4000000 in
set_option maxRecDepth 100000 in
theorem c_X2_removeLast (l : Launch) (D : va_G) (k : Nat → ClassId) (sz : Nat) (a b : Nat) (n : Int) (g : Nat → Int) (L : List Int) (hL : laneOk g n L) (h0 : 0 < L.length) : Met l yX2_removeLast (zW yX2_removeLast cX2_removeLast 1 none) ({ frames := 0, cells := 0, slots := 0, locals := 0 } : Room) (va_Pc [.ref a] (zIn D k sz [(a, .inr (2, [.ref b, .int (nZ n)])), (b, .inl (k 0, 21, .inl (zA g)))])) (va_Qv (fun (uz : Unit) => laneOk g (n - 1) L.dropLast) (fun (uz : Unit) => zOut D (va_A [(a, .inr (2, [.ref b, .int (nZ n)])), (b, .inl (k 0, 21, .inl (zA g)))] sz) [(a, .inr (2, [.ref b, .int (nZ (n - 1))])), (b, .inl (k 0, 21, .inl (zA g)))]) (va_A [(a, .inr (2, [.ref b, .int (nZ n)])), (b, .inl (k 0, 21, .inl (zA g)))] sz)) 0 0 (va_A [(a, .inr (2, [.ref b, .int (nZ n)])), (b, .inl (k 0, 21, .inl (zA g)))] sz) := by
  refine zEnter (Qf := fun A => va_Qv (fun (uz : Unit) => laneOk g (n - 1) L.dropLast) (fun (uz : Unit) => zOut D A [(a, .inr (2, [.ref b, .int (nZ (n - 1))])), (b, .inl (k 0, 21, .inl (zA g)))]) A) RX2 (by decide) rfl (Nat.le_of_ble_eq_true rfl) ?_
  intro p9 e9 s9 m9 be9 me9 c9 ls A X hin hP hD hS hA hAe hl
  have hX := X.1; have hB := X.2.1; have hz := X.2.2.2.2.1; have hW := X.2.2.2.2.2.1; have hK := X.2.2.2.2.2.2.2; clear hAe
  clear hin
  have hl : lv_has ls 1 [(0, .ref a)] := hl
  obtain ⟨hn, hlen⟩ := hL.len
  subst hn
  refine lv_aload_n hX hB dX2_removeLast_0 rfl (lv_at hl 0 rfl) ?_
  refine va_get hX hB hz inlX2 hW hK.1 hP 0 rfl rfl 1 (by decide) (hz _ zw_95) (fun _ h9 => h9) rfl dX2_removeLast_1 ?_
  refine zz_if_le X (tgt := 17) dX2_removeLast_4 (by decide) ⟨by omega, by omega⟩ (fun c_4 => ?_) (fun c_4 => ?_)
  · exfalso; omega
  · refine lv_aload_n hX hB dX2_removeLast_7 rfl (lv_at hl 0 rfl) ?_
    refine lv_dup hX hB dX2_removeLast_8 rfl ?_
    refine va_get hX hB hz inlX2 hW hK.1 hP 0 rfl rfl 1 (by decide) (hz _ zw_95) (fun _ h9 => h9) rfl dX2_removeLast_9 ?_
    refine lv_iconst (v := nZ 1) hX hB dX2_removeLast_12 rfl ?_
    refine zz_isub X dX2_removeLast_13 (z := ((↑L.length : Int) - 1)) (by first | rfl | omega) ?_
    refine va_put (v := .int (nZ ((↑L.length : Int) - 1))) (ty := tyX2 1) hX hB hz inlX2 tyX2 tyX2_ok nmX2 hW hK.1 hP hD hS 0 rfl rfl 1 (by decide) (hz _ zw_95) (fun _ h9 => h9) rfl (by decide +kernel) rfl rfl (Nat.le_of_ble_eq_true rfl) dX2_removeLast_14 (fun H locs hP hD hS => ?_)
    have hP : va_P D vwCl [(a, .inr (2, [.ref b, .int (nZ ((↑L.length : Int) - 1))])), (b, .inl (k 0, 21, .inl (zA g)))] H := hP
    have hD : va_D A [(a, .inr (2, [.ref b, .int (nZ ((↑L.length : Int) - 1))])), (b, .inl (k 0, 21, .inl (zA g)))] := hD
    exact zRetV () X hP hD hS rfl (hL.dropLast h0) dX2_removeLast_17
set_option maxHeartbeats 4000000 in
set_option maxRecDepth 100000 in
theorem c_X2_addClean (l : Launch) (D : va_G) (k : Nat → ClassId) (sz : Nat) (a b : Nat) (n : Int) (g : Nat → Int) (L : List Int) (c : Nat) (cs : Nat → Int) (hL : laneOk g n L) : Met l yX2_addClean (zW yX2_addClean cX2_addClean 4 none) ({ frames := 1, cells := 0, slots := 0, locals := 22 } : Room) (va_Pc [.ref a, .ref c] (zIn D k sz [(a, .inr (2, [.ref b, .int (nZ n)])), (b, .inl (k 0, 21, .inl (zA g))), (c, .inl (k 0, 9, .inl (zA cs)))])) (va_Qv (fun (uz : (Nat → Int)) => (∀ b : Nat, b < 9 → uz b = cs b + cleanS b L)) (fun (uz : (Nat → Int)) => zOut D (va_A [(a, .inr (2, [.ref b, .int (nZ n)])), (b, .inl (k 0, 21, .inl (zA g))), (c, .inl (k 0, 9, .inl (zA cs)))] sz) [(a, .inr (2, [.ref b, .int (nZ n)])), (b, .inl (k 0, 21, .inl (zA g))), (c, .inl (k 0, 9, .inl (zA uz)))]) (va_A [(a, .inr (2, [.ref b, .int (nZ n)])), (b, .inl (k 0, 21, .inl (zA g))), (c, .inl (k 0, 9, .inl (zA cs)))] sz)) 0 0 (va_A [(a, .inr (2, [.ref b, .int (nZ n)])), (b, .inl (k 0, 21, .inl (zA g))), (c, .inl (k 0, 9, .inl (zA cs)))] sz) := by
  refine zEnter (Qf := fun A => va_Qv (fun (uz : (Nat → Int)) => (∀ b : Nat, b < 9 → uz b = cs b + cleanS b L)) (fun (uz : (Nat → Int)) => zOut D A [(a, .inr (2, [.ref b, .int (nZ n)])), (b, .inl (k 0, 21, .inl (zA g))), (c, .inl (k 0, 9, .inl (zA uz)))]) A) RX2 (by decide) rfl (Nat.le_of_ble_eq_true rfl) ?_
  intro p9 e9 s9 m9 be9 me9 c9 ls A X hin hP hD hS hA hAe hl
  have hX := X.1; have hB := X.2.1; have hz := X.2.2.2.2.1; have hW := X.2.2.2.2.2.1; have hK := X.2.2.2.2.2.2.2; clear hAe
  clear hin
  have hl : lv_has ls 4 [(0, .ref a), (1, .ref c)] := hl
  obtain ⟨hn, hlen⟩ := hL.len
  subst hn
  refine lv_iconst (v := nZ 0) hX hB dX2_addClean_0 rfl ?_
  refine lv_istore_n (lv' := [(2, .int (nZ 0)), (0, .ref a), (1, .ref c)]) hX hB dX2_addClean_1 rfl hl (by decide) rfl (fun ls hl => ?_)
  refine zLoop (σ := Nat × (Nat → Int)) (fun (x : Nat × (Nat → Int)) (H : Heap) (locs : List Loc) (ls : Array Slot) => match x with | (i, q) => (i ≤ L.length) ∧ (∀ b : Nat, b < 9 → q b = cs b + cleanS b (L.take i)) ∧ va_P D vwCl [(a, .inr (2, [.ref b, .int (nZ (↑L.length : Int))])), (b, .inl (k 0, 21, .inl (zA g))), (c, .inl (k 0, 9, .inl (zA q)))] H ∧ va_D A [(a, .inr (2, [.ref b, .int (nZ (↑L.length : Int))])), (b, .inl (k 0, 21, .inl (zA g))), (c, .inl (k 0, 9, .inl (zA q)))] ∧ va_S A s9.heap H locs ∧ lv_has ls 4 [(0, .ref a), (1, .ref c), (2, .int (nZ ↑i))]) (fun (x : Nat × (Nat → Int)) => match x with | (i, q) => L.length - i) ?_ (0, cs) ⟨(by exact Nat.zero_le _), (by intro b hb; simp [cleanS]), hP, hD, hS, (lv_sub hl [1, 2, 0] rfl)⟩
  rintro ⟨i, q⟩ H locs ls ⟨hi, hq, hP, hD, hS, hl⟩ ih_2
  refine lv_iload_n hX hB dX2_addClean_2 rfl (lv_at hl 2 rfl) ?_
  refine lv_aload_n hX hB dX2_addClean_3 rfl (lv_at hl 0 rfl) ?_
  refine va_get hX hB hz inlX2 hW hK.1 hP 0 rfl rfl 1 (by decide) (hz _ zw_95) (fun _ h9 => h9) rfl dX2_addClean_4 ?_
  refine zz_icmp_ge X (tgt := 52) dX2_addClean_7 (by decide) ⟨by omega, by omega⟩ ⟨by omega, by omega⟩ (fun c_7 => ?_) (fun c_7 => ?_)
  · exact zRetV q X hP hD hS rfl (by rw [List.take_of_length_le (by omega)] at hq; exact hq) dX2_addClean_52
  · refine lv_iload_n hX hB dX2_addClean_10 rfl (lv_at hl 2 rfl) ?_
    refine lv_aload_n hX hB dX2_addClean_11 rfl (lv_at hl 0 rfl) ?_
    refine va_get hX hB hz inlX2 hW hK.1 hP 0 rfl rfl 0 (by decide) (hz _ zw_51) (fun _ h9 => h9) rfl dX2_addClean_12 ?_
    refine zz_alen X hP 1 0 (N := 21) rfl rfl rfl dX2_addClean_15 ?_
    refine zz_icmp_ge X (tgt := 52) dX2_addClean_16 (by decide) ⟨by omega, by omega⟩ ⟨by omega, by omega⟩ (fun c_16 => ?_) (fun c_16 => ?_)
    · exfalso; omega
    · refine lv_aload_n hX hB dX2_addClean_19 rfl (lv_at hl 0 rfl) ?_
      refine va_get hX hB hz inlX2 hW hK.1 hP 0 rfl rfl 0 (by decide) (hz _ zw_51) (fun _ h9 => h9) rfl dX2_addClean_20 ?_
      refine lv_iload_n hX hB dX2_addClean_23 rfl (lv_at hl 2 rfl) ?_
      refine zz_iald X hP 1 0 rfl rfl i (by omega) (by omega) (by first | decide | omega) dX2_addClean_24 ?_
      obtain ⟨hx0, hx1, hx2⟩ := hL.at (by omega : i < L.length)
      refine zCallI0 (zRunSN X ms_X6_bedAt (c_X6_bedAt l D k _ (g i) (by first | assumption | omega | exact ⟨by omega, by omega⟩)) (zn_X2_29 hK.2.1) (zPreS hP hD hK [] rfl rfl) rfl hl (Nat.le_of_ble_eq_true rfl) dX2_addClean_25 ⟨rfl, rfl, ⟨Nat.le_of_ble_eq_true rfl, Nat.le_of_ble_eq_true rfl⟩, Nat.le_of_ble_eq_true rfl, Nat.le_of_ble_eq_true rfl⟩ rfl) hS hP hD hA [] rfl (fun _ => rfl) (fun r_25 u_25 H locs hq_25 hP hD hS => ?_)
      subst hq_25
      have hP : va_P D vwCl [(a, .inr (2, [.ref b, .int (nZ (↑L.length : Int))])), (b, .inl (k 0, 21, .inl (zA g))), (c, .inl (k 0, 9, .inl (zA q)))] H := hP
      have hD : va_D A [(a, .inr (2, [.ref b, .int (nZ (↑L.length : Int))])), (b, .inl (k 0, 21, .inl (zA g))), (c, .inl (k 0, 9, .inl (zA q)))] := hD
      have hbr := bedAtS_rng (g i)
      refine lv_istore_n (lv' := [(3, .int (nZ (bedAtS (g i)))), (0, .ref a), (1, .ref c), (2, .int (nZ ↑i))]) hX hB dX2_addClean_28 rfl hl (by decide) rfl (fun ls hl => ?_)
      refine lv_iload_n hX hB dX2_addClean_29 rfl (lv_at hl 0 rfl) ?_
      refine zz_if_lt X (tgt := 46) dX2_addClean_30 (by decide) ⟨by omega, by omega⟩ (fun c_30 => ?_) (fun c_30 => ?_)
      · refine lv_iinc (v := nZ (↑(i + 1) : Int)) (lv' := [(2, .int (nZ (↑(i + 1) : Int))), (3, .int (nZ (bedAtS (g i)))), (0, .ref a), (1, .ref c)]) hX hB dX2_addClean_46 hl (k := 3) rfl (zinc (by omega)) (by decide) rfl (fun ls hl => ?_)
        refine lv_goto (tgt := 2) hX hB dX2_addClean_49 (by decide) ?_
        exact ih_2 ((i + 1), q) _ _ _ ⟨(by first | omega | assumption | rfl), (by first | exact addC_step (by omega) hx0 hq (by omega) | exact addC_skip (by omega) hx0 hq (by omega)), hP, hD, hS, (lv_sub hl [2, 3, 0] rfl)⟩ (by dsimp only; omega)
      · refine lv_iload_n hX hB dX2_addClean_33 rfl (lv_at hl 0 rfl) ?_
        refine lv_aload_n hX hB dX2_addClean_34 rfl (lv_at hl 2 rfl) ?_
        refine zz_alen X hP 2 0 (N := 9) rfl rfl rfl dX2_addClean_35 ?_
        refine zz_icmp_ge X (tgt := 46) dX2_addClean_36 (by decide) ⟨by omega, by omega⟩ ⟨by omega, by omega⟩ (fun c_36 => ?_) (fun c_36 => ?_)
        · exfalso; omega
        · refine lv_aload_n hX hB dX2_addClean_39 rfl (lv_at hl 2 rfl) ?_
          refine lv_iload_n hX hB dX2_addClean_40 rfl (lv_at hl 0 rfl) ?_
          refine lv_dup2_11 hX hB dX2_addClean_41 rfl rfl ?_
          refine zz_iald X hP 2 0 rfl rfl ((bedAtS (g i)).toNat) (by omega) (by omega) (by first | decide | omega) dX2_addClean_42 ?_
          refine lv_iconst (v := nZ 1) hX hB dX2_addClean_43 rfl ?_
          refine zz_iadd X dX2_addClean_44 (z := ((q ((bedAtS (g i)).toNat)) + 1)) (by first | rfl | omega) ?_
          refine zz_iast X hP hD hS 2 0 rfl rfl ((bedAtS (g i)).toNat) (by omega) (by omega) (by first | decide | omega) dX2_addClean_45 (fun H locs hP hD hS => ?_)
          have hP : va_P D vwCl [(a, .inr (2, [.ref b, .int (nZ (↑L.length : Int))])), (b, .inl (k 0, 21, .inl (zA g))), (c, .inl (k 0, 9, .inl (zA (zU q ((bedAtS (g i)).toNat) ((q ((bedAtS (g i)).toNat)) + 1)))))] H := hP
          have hD : va_D A [(a, .inr (2, [.ref b, .int (nZ (↑L.length : Int))])), (b, .inl (k 0, 21, .inl (zA g))), (c, .inl (k 0, 9, .inl (zA (zU q ((bedAtS (g i)).toNat) ((q ((bedAtS (g i)).toNat)) + 1)))))] := hD
          refine lv_iinc (v := nZ (↑(i + 1) : Int)) (lv' := [(2, .int (nZ (↑(i + 1) : Int))), (3, .int (nZ (bedAtS (g i)))), (0, .ref a), (1, .ref c)]) hX hB dX2_addClean_46 hl (k := 3) rfl (zinc (by omega)) (by decide) rfl (fun ls hl => ?_)
          refine lv_goto (tgt := 2) hX hB dX2_addClean_49 (by decide) ?_
          exact ih_2 ((i + 1), (zU q ((bedAtS (g i)).toNat) ((q ((bedAtS (g i)).toNat)) + 1))) _ _ _ ⟨(by first | omega | assumption | rfl), (by first | exact addC_step (by omega) hx0 hq (by omega) | exact addC_skip (by omega) hx0 hq (by omega)), hP, hD, hS, (lv_sub hl [2, 3, 0] rfl)⟩ (by dsimp only; omega)
set_option maxHeartbeats 4000000 in
set_option maxRecDepth 100000 in
theorem c_X2_insert (l : Launch) (D : va_G) (k : Nat → ClassId) (sz : Nat) (a b : Nat) (n : Int) (g : Nat → Int) (L : List Int) (p : Int) (hL : laneOk g n L) (hp : 0 ≤ p ∧ p ≤ 99) (hl20 : L.length ≤ 20) (hs : List.Pairwise (fun (x y : Int) => x < y) L) : Met l yX2_insert (zW yX2_insert cX2_insert 4 (some .boolean)) ({ frames := 1, cells := 0, slots := 0, locals := 23 } : Room) (va_Pc [.ref a, .int (nZ p)] (zIn D k sz [(a, .inr (2, [.ref b, .int (nZ n)])), (b, .inl (k 0, 21, .inl (zA g)))])) (va_Qi (fun (rz : Int32) (uz : (Nat → Int) × Int) => rz = nZ (if nearS p L then 0 else 1) ∧ laneOk uz.1 uz.2 (if nearS p L then L else insS (rankS p L) p L)) (fun (uz : (Nat → Int) × Int) => zOut D (va_A [(a, .inr (2, [.ref b, .int (nZ n)])), (b, .inl (k 0, 21, .inl (zA g)))] sz) [(a, .inr (2, [.ref b, .int (nZ uz.2)])), (b, .inl (k 0, 21, .inl (zA uz.1)))]) (va_A [(a, .inr (2, [.ref b, .int (nZ n)])), (b, .inl (k 0, 21, .inl (zA g)))] sz)) 0 0 (va_A [(a, .inr (2, [.ref b, .int (nZ n)])), (b, .inl (k 0, 21, .inl (zA g)))] sz) := by
  refine zEnter (Qf := fun A => va_Qi (fun (rz : Int32) (uz : (Nat → Int) × Int) => rz = nZ (if nearS p L then 0 else 1) ∧ laneOk uz.1 uz.2 (if nearS p L then L else insS (rankS p L) p L)) (fun (uz : (Nat → Int) × Int) => zOut D A [(a, .inr (2, [.ref b, .int (nZ uz.2)])), (b, .inl (k 0, 21, .inl (zA uz.1)))]) A) RX2 (by decide) rfl (Nat.le_of_ble_eq_true rfl) ?_
  intro p9 e9 s9 m9 be9 me9 c9 ls A X hin hP hD hS hA hAe hl
  have hX := X.1; have hB := X.2.1; have hz := X.2.2.2.2.1; have hW := X.2.2.2.2.2.1; have hK := X.2.2.2.2.2.2.2; clear hAe
  clear hin
  have hl : lv_has ls 4 [(0, .ref a), (1, .int (nZ p))] := hl
  obtain ⟨hn, hlen⟩ := hL.len
  subst hn
  refine lv_iconst (v := nZ 0) hX hB dX2_insert_0 rfl ?_
  refine lv_istore_n (lv' := [(2, .int (nZ 0)), (0, .ref a), (1, .int (nZ p))]) hX hB dX2_insert_1 rfl hl (by decide) rfl (fun ls hl => ?_)
  refine lv_iconst (v := nZ 0) hX hB dX2_insert_2 rfl ?_
  refine lv_istore_n (lv' := [(3, .int (nZ 0)), (2, .int (nZ 0)), (0, .ref a), (1, .int (nZ p))]) hX hB dX2_insert_3 rfl hl (by decide) rfl (fun ls hl => ?_)
  refine zLoop (σ := Nat × Nat) (fun (x : Nat × Nat) (H : Heap) (locs : List Loc) (ls : Array Slot) => match x with | (i, r) => (i ≤ L.length) ∧ (r = rankS p (L.take i)) ∧ (nearS p (L.take i) = false) ∧ va_P D vwCl [(a, .inr (2, [.ref b, .int (nZ (↑L.length : Int))])), (b, .inl (k 0, 21, .inl (zA g)))] H ∧ va_D A [(a, .inr (2, [.ref b, .int (nZ (↑L.length : Int))])), (b, .inl (k 0, 21, .inl (zA g)))] ∧ va_S A s9.heap H locs ∧ lv_has ls 4 [(0, .ref a), (1, .int (nZ p)), (2, .int (nZ ↑r)), (3, .int (nZ ↑i))]) (fun (x : Nat × Nat) => match x with | (i, r) => L.length - i) ?_ (0, 0) ⟨(by exact Nat.zero_le _), (by rfl), (by rfl), hP, hD, hS, (lv_sub hl [2, 3, 1, 0] rfl)⟩
  rintro ⟨i, r⟩ H locs ls ⟨hi, hr, hq, hP, hD, hS, hl⟩ ih_4
  refine lv_iload_n hX hB dX2_insert_4 rfl (lv_at hl 3 rfl) ?_
  refine lv_aload_n hX hB dX2_insert_5 rfl (lv_at hl 0 rfl) ?_
  refine va_get hX hB hz inlX2 hW hK.1 hP 0 rfl rfl 1 (by decide) (hz _ zw_95) (fun _ h9 => h9) rfl dX2_insert_6 ?_
  refine zz_icmp_ge X (tgt := 58) dX2_insert_9 (by decide) ⟨by omega, by omega⟩ ⟨by omega, by omega⟩ (fun c_9 => ?_) (fun c_9 => ?_)
  · have hnl := rankS_le p L
    rw [List.take_of_length_le (by omega)] at hr hq
    refine lv_aload_n hX hB dX2_insert_58 rfl (lv_at hl 0 rfl) ?_
    refine lv_iload_n hX hB dX2_insert_59 rfl (lv_at hl 2 rfl) ?_
    refine lv_iload_n hX hB dX2_insert_60 rfl (lv_at hl 1 rfl) ?_
    refine zCallV0 (zRunV (As := [.int (nZ ↑r), .int (nZ p)]) X mv_X2_insertAt (c_X2_insertAt l D k _ a b (↑L.length : Int) g L r p hL (by first | assumption | omega | exact ⟨by omega, by omega⟩) hl20 (by first | assumption | omega | exact ⟨by omega, by omega⟩)) zw_374 (zPreV hP hD hK [0, 1] rfl rfl 0 2 rfl rfl rfl) rfl hl (Nat.le_of_ble_eq_true rfl) dX2_insert_61 ⟨rfl, rfl, ⟨Nat.le_of_ble_eq_true rfl, Nat.le_of_ble_eq_true rfl⟩, Nat.le_of_ble_eq_true rfl, Nat.le_of_ble_eq_true rfl⟩ rfl) hS hP hD hA [0, 1] rfl (fun _ => rfl) (fun u_61 H locs hq_61 hP hD hS => ?_)
    obtain ⟨g2_61, e9⟩ : ∃ z9, z9 = u_61 := ⟨_, rfl⟩; subst e9
    have hL2_61 := hq_61
    try dsimp only at hL2_61
    have hP : va_P D vwCl [(a, .inr (2, [.ref b, .int (nZ ((↑L.length : Int) + 1))])), (b, .inl (k 0, 21, .inl (zA g2_61)))] H := hP
    have hD : va_D A [(a, .inr (2, [.ref b, .int (nZ ((↑L.length : Int) + 1))])), (b, .inl (k 0, 21, .inl (zA g2_61)))] := hD
    refine lv_iconst (v := nZ 1) hX hB dX2_insert_64 rfl ?_
    exact zRetZ (g2_61, ((↑L.length : Int) + 1)) X hP hD hS (by first | exact Or.inl rfl | exact Or.inr rfl) rfl ⟨by rw [if_neg (by rw [hq]; decide)], by rw [if_neg (by rw [hq]; decide), ← hr]; exact hL2_61⟩ dX2_insert_65
  · refine lv_iload_n hX hB dX2_insert_12 rfl (lv_at hl 3 rfl) ?_
    refine lv_aload_n hX hB dX2_insert_13 rfl (lv_at hl 0 rfl) ?_
    refine va_get hX hB hz inlX2 hW hK.1 hP 0 rfl rfl 0 (by decide) (hz _ zw_51) (fun _ h9 => h9) rfl dX2_insert_14 ?_
    refine zz_alen X hP 1 0 (N := 21) rfl rfl rfl dX2_insert_17 ?_
    refine zz_icmp_ge X (tgt := 58) dX2_insert_18 (by decide) ⟨by omega, by omega⟩ ⟨by omega, by omega⟩ (fun c_18 => ?_) (fun c_18 => ?_)
    · exfalso; omega
    · refine lv_iload_n hX hB dX2_insert_21 rfl (lv_at hl 1 rfl) ?_
      refine lv_aload_n hX hB dX2_insert_22 rfl (lv_at hl 0 rfl) ?_
      refine va_get hX hB hz inlX2 hW hK.1 hP 0 rfl rfl 0 (by decide) (hz _ zw_51) (fun _ h9 => h9) rfl dX2_insert_23 ?_
      refine lv_iload_n hX hB dX2_insert_26 rfl (lv_at hl 3 rfl) ?_
      refine zz_iald X hP 1 0 rfl rfl i (by omega) (by omega) (by first | decide | omega) dX2_insert_27 ?_
      obtain ⟨hx0, hx1, hx2⟩ := hL.at (by omega : i < L.length)
      refine zz_isub X dX2_insert_28 (z := (p - (g i))) (by first | rfl | omega) ?_
      refine zz_abs X hl zw_371 zw_372 zw_123 zw_373 ⟨Nat.le_of_ble_eq_true rfl, Nat.le_of_ble_eq_true rfl, Nat.le_of_ble_eq_true rfl, Nat.le_of_ble_eq_true rfl⟩ ⟨by omega, by omega⟩ (z := (↑(p - (g i)).natAbs : Int)) rfl dX2_insert_29 ?_
      refine lv_iconst (v := nZ 5) hX hB dX2_insert_32 rfl ?_
      refine zz_icmp_ge X (tgt := 38) dX2_insert_33 (by decide) ⟨by omega, by omega⟩ ⟨by omega, by omega⟩ (fun c_33 => ?_) (fun c_33 => ?_)
      · obtain ⟨hx0, hx1, hx2⟩ := hL.at (by omega : i < L.length)
        refine lv_aload_n hX hB dX2_insert_38 rfl (lv_at hl 0 rfl) ?_
        refine va_get hX hB hz inlX2 hW hK.1 hP 0 rfl rfl 0 (by decide) (hz _ zw_51) (fun _ h9 => h9) rfl dX2_insert_39 ?_
        refine lv_iload_n hX hB dX2_insert_42 rfl (lv_at hl 3 rfl) ?_
        refine zz_iald X hP 1 0 rfl rfl i (by omega) (by omega) (by first | decide | omega) dX2_insert_43 ?_
        refine lv_iload_n hX hB dX2_insert_44 rfl (lv_at hl 1 rfl) ?_
        refine zz_icmp_ge X (tgt := 52) dX2_insert_45 (by decide) ⟨by omega, by omega⟩ ⟨by omega, by omega⟩ (fun c_45 => ?_) (fun c_45 => ?_)
        · refine lv_iinc (v := nZ (↑(i + 1) : Int)) (lv' := [(3, .int (nZ (↑(i + 1) : Int))), (0, .ref a), (1, .int (nZ p)), (2, .int (nZ ↑r))]) hX hB dX2_insert_52 hl (k := 3) rfl (zinc (by omega)) (by decide) rfl (fun ls hl => ?_)
          refine lv_goto (tgt := 4) hX hB dX2_insert_55 (by decide) ?_
          exact ih_4 ((i + 1), r) _ _ _ ⟨(by first | omega | assumption | rfl), (by rw [rankS_take hs (by omega), ← hx0]; first | rw [if_pos (by omega)] | (rw [if_neg (by omega)]; exact hr)), (by rw [nearS_take (by omega), ← hx0, hq]; simp; omega), hP, hD, hS, (lv_sub hl [1, 2, 3, 0] rfl)⟩ (by dsimp only; omega)
        · refine lv_iload_n hX hB dX2_insert_48 rfl (lv_at hl 3 rfl) ?_
          refine lv_iconst (v := nZ 1) hX hB dX2_insert_49 rfl ?_
          refine zz_iadd X dX2_insert_50 (z := (↑(i + 1) : Int)) (by first | rfl | omega) ?_
          refine lv_istore_n (lv' := [(2, .int (nZ (↑(i + 1) : Int))), (0, .ref a), (1, .int (nZ p)), (3, .int (nZ ↑i))]) hX hB dX2_insert_51 rfl hl (by decide) rfl (fun ls hl => ?_)
          refine lv_iinc (v := nZ (↑(i + 1) : Int)) (lv' := [(3, .int (nZ (↑(i + 1) : Int))), (2, .int (nZ (↑(i + 1) : Int))), (0, .ref a), (1, .int (nZ p))]) hX hB dX2_insert_52 hl (k := 3) rfl (zinc (by omega)) (by decide) rfl (fun ls hl => ?_)
          refine lv_goto (tgt := 4) hX hB dX2_insert_55 (by decide) ?_
          exact ih_4 ((i + 1), (i + 1)) _ _ _ ⟨(by first | omega | assumption | rfl), (by rw [rankS_take hs (by omega), ← hx0]; first | rw [if_pos (by omega)] | (rw [if_neg (by omega)]; exact hr)), (by rw [nearS_take (by omega), ← hx0, hq]; simp; omega), hP, hD, hS, (lv_sub hl [2, 3, 1, 0] rfl)⟩ (by dsimp only; omega)
      · refine lv_iconst (v := nZ 0) hX hB dX2_insert_36 rfl ?_
        exact zRetZ (g, (↑L.length : Int)) X hP hD hS (by first | exact Or.inl rfl | exact Or.inr rfl) rfl ⟨by rw [if_pos (nearS_of (by omega : i < L.length) (by rw [← hx0]; omega))], by rw [if_pos (nearS_of (by omega : i < L.length) (by rw [← hx0]; omega))]; exact hL⟩ dX2_insert_37

