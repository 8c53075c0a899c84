theorem ms_Jxe99ae_isNaN_b9ae7 : zMS yJxe99ae_isNaN_b9ae7 cJxe99ae_isNaN_b9ae7 2 (some .boolean) 1 := ⟨zw_725, zw_716, ⟨by decide +kernel, by decide +kernel, by decide +kernel⟩, zw_724⟩
theorem ms_Jxe99ae_doubleToLongBits_ccdee : zMS yJxe99ae_doubleToLongBits_ccdee cJxe99ae_doubleToLongBits_ccdee 2 (some .long) 1 := ⟨zw_717, zw_716, ⟨by decide +kernel, by decide +kernel, by decide +kernel⟩, zw_715⟩
theorem mv_X6_fullness : zMV yX6_fullness cX6_fullness 1 (some .double) 0 := ⟨zw_661, zw_2, ⟨by decide +kernel, by decide +kernel, by decide +kernel⟩, zw_659, zw_660⟩
theorem ms_X6_bitsOfShare : zMS yX6_bitsOfShare cX6_bitsOfShare 7 (some .long) 1 := ⟨zw_695, zw_2, ⟨by decide +kernel, by decide +kernel, by decide +kernel⟩, zw_694⟩
set_option maxHeartbeats 4000000 in
set_option maxRecDepth 100000 in
theorem c_Jxe99ae_isNaN_b9ae7 (l : Launch) (D : va_G) (k : Nat → ClassId) (sz : Nat) (x : UInt64) (hn : zcmp .l x x = 0) : Met l yJxe99ae_isNaN_b9ae7 (zW yJxe99ae_isNaN_b9ae7 cJxe99ae_isNaN_b9ae7 2 (some .boolean)) ({ frames := 0, cells := 0, slots := 0, locals := 0 } : Room) (va_Pc [.double x] (zIn D k sz [])) (va_Qi (fun (rz : Int32) (uz : Unit) => rz = nZ 0) (fun (uz : Unit) => zOut D (va_A [] sz) []) (va_A [] sz)) 0 0 (va_A [] sz) := by
  refine zEnter (Qf := fun A => va_Qi (fun (rz : Int32) (uz : Unit) => rz = nZ 0) (fun (uz : Unit) => zOut D A []) A) RJxe99ae (by decide) rfl (Nat.le_of_ble_eq_true rfl) ?_
  intro p9 e9 s9 m9 be9 me9 c9 ls A X hin hP hD hS hA hAe hl
  have hX := X.1; have hB := X.2.1; have hz := X.2.2.2.2.1; have hW := X.2.2.2.2.2.1; have hK := X.2.2.2.2.2.2.2; clear hAe
  clear hin
  have hl : lv_has ls 2 [(0, .double x)] := hl
  refine lv_dload_n hX hB dJxe99ae_isNaN_b9ae7_0 rfl (lv_at hl 0 rfl) ?_
  refine lv_dload_n hX hB dJxe99ae_isNaN_b9ae7_1 rfl (lv_at hl 0 rfl) ?_
  refine zz_dcmp X dJxe99ae_isNaN_b9ae7_2 ?_
  refine zz_if_eq X (tgt := 10) dJxe99ae_isNaN_b9ae7_3 (by decide) ⟨by (first | exact (zcmp_rng _ _ _).1 | exact (zcmp_rng _ _ _).2), by (first | exact (zcmp_rng _ _ _).1 | exact (zcmp_rng _ _ _).2)⟩ (fun c_3 => ?_) (fun c_3 => ?_)
  · refine lv_iconst (v := nZ 0) hX hB dJxe99ae_isNaN_b9ae7_10 rfl ?_
    exact zRetZ () X hP hD hS (by first | exact Or.inl rfl | exact Or.inr rfl) rfl (by first | rfl | (congr 1; omega) | (dsimp only; congr 1; omega)) dJxe99ae_isNaN_b9ae7_11
  · exfalso; omega
set_option maxHeartbeats 4000000 in
set_option maxRecDepth 100000 in
theorem c_Jxe99ae_doubleToLongBits_ccdee (l : Launch) (D : va_G) (k : Nat → ClassId) (sz : Nat) (x : UInt64) (hn : zcmp .l x x = 0) : Met l yJxe99ae_doubleToLongBits_ccdee (zW yJxe99ae_doubleToLongBits_ccdee cJxe99ae_doubleToLongBits_ccdee 2 (some .long)) ({ frames := 1, cells := 0, slots := 0, locals := 40 } : Room) (va_Pc [.double x] (zIn D k sz [])) (va_Ql (fun (rz : Int64) (uz : Unit) => rz = nL (x.toInt64.toInt)) (fun (uz : Unit) => zOut D (va_A [] sz) []) (va_A [] sz)) 0 0 (va_A [] sz) := by
  refine zEnter (Qf := fun A => va_Ql (fun (rz : Int64) (uz : Unit) => rz = nL (x.toInt64.toInt)) (fun (uz : Unit) => zOut D A []) A) RJxe99ae (by decide) rfl (Nat.le_of_ble_eq_true rfl) ?_
  intro p9 e9 s9 m9 be9 me9 c9 ls A X hin hP hD hS hA hAe hl
  have hX := X.1; have hB := X.2.1; have hz := X.2.2.2.2.1; have hW := X.2.2.2.2.2.1; have hK := X.2.2.2.2.2.2.2; clear hAe
  clear hin
  have hl : lv_has ls 2 [(0, .double x)] := hl
  refine lv_dload_n hX hB dJxe99ae_doubleToLongBits_ccdee_0 rfl (lv_at hl 0 rfl) ?_
  refine zCallI0 (zRunS X ms_Jxe99ae_isNaN_b9ae7 (c_Jxe99ae_isNaN_b9ae7 l D k _ x hn) zw_723 (zPreS hP hD hK [] rfl rfl) rfl hl (Nat.le_of_ble_eq_true rfl) dJxe99ae_doubleToLongBits_ccdee_1 ⟨rfl, rfl, ⟨Nat.le_of_ble_eq_true rfl, Nat.le_of_ble_eq_true rfl⟩, Nat.le_of_ble_eq_true rfl, Nat.le_of_ble_eq_true rfl⟩ rfl) hS hP hD hA [] rfl (fun _ => rfl) (fun r_1 u_1 H locs hq_1 hP hD hS => ?_)
  subst hq_1
  have hP : va_P D vwCl [] H := hP
  have hD : va_D A [] := hD
  refine zz_if_ne X (tgt := 12) dJxe99ae_doubleToLongBits_ccdee_4 (by decide) ⟨by omega, by omega⟩ (fun c_4 => ?_) (fun c_4 => ?_)
  · exfalso; omega
  · refine lv_dload_n hX hB dJxe99ae_doubleToLongBits_ccdee_7 rfl (lv_at hl 0 rfl) ?_
    refine zz_rawbits X hl zw_718 zw_719 zw_720 zw_721 (Nat.le_of_ble_eq_true rfl) (Nat.le_of_ble_eq_true rfl) dJxe99ae_doubleToLongBits_ccdee_8 ?_
    exact zRetL () X hP hD hS rfl (by first | rfl | (congr 1; omega) | (dsimp only; congr 1; omega)) dJxe99ae_doubleToLongBits_ccdee_11
set_option maxHeartbeats 4000000 in
set_option maxRecDepth 100000 in
theorem c_X6_fullness (l : Launch) (D : va_G) (k : Nat → ClassId) (sz : Nat) (h sl sv tx ld cc : Nat) (o la ca : Nat) (nc pl pu wi tu fo tb nu rf : Int) (ch : Nat → Int) (sh : Nat) (hch : chOk ch) : Met l yX6_fullness (zW yX6_fullness cX6_fullness 1 (some .double)) ({ frames := 3, cells := 0, slots := 0, locals := 66 } : Room) (va_Pc [.ref h] (zIn D k sz [(h, .inr (6, [.ref o, .ref sl, .ref sv, .ref tx, .ref sh, .ref ld, .ref cc])), (o, .inr (0, [.ref la, .ref ca, .int (nZ nc), .int (nZ pl), .int (nZ pu), .int (nZ wi), .int (nZ tu), .int (nZ fo), .int (nZ tb), .int (nZ nu), .int (nZ rf)])), (ca, .inl (k 0, 18, .inl (zA ch)))])) (va_Qd (fun (rz : UInt64) (uz : Unit) => rz = (zShare (chSum ch 0 + chSum ch 1))) (fun (uz : Unit) => zOut D (va_A [(h, .inr (6, [.ref o, .ref sl, .ref sv, .ref tx, .ref sh, .ref ld, .ref cc])), (o, .inr (0, [.ref la, .ref ca, .int (nZ nc), .int (nZ pl), .int (nZ pu), .int (nZ wi), .int (nZ tu), .int (nZ fo), .int (nZ tb), .int (nZ nu), .int (nZ rf)])), (ca, .inl (k 0, 18, .inl (zA ch)))] sz) [(h, .inr (6, [.ref o, .ref sl, .ref sv, .ref tx, .ref sh, .ref ld, .ref cc])), (o, .inr (0, [.ref la, .ref ca, .int (nZ nc), .int (nZ pl), .int (nZ pu), .int (nZ wi), .int (nZ tu), .int (nZ fo), .int (nZ tb), .int (nZ nu), .int (nZ rf)])), (ca, .inl (k 0, 18, .inl (zA ch)))]) (va_A [(h, .inr (6, [.ref o, .ref sl, .ref sv, .ref tx, .ref sh, .ref ld, .ref cc])), (o, .inr (0, [.ref la, .ref ca, .int (nZ nc), .int (nZ pl), .int (nZ pu), .int (nZ wi), .int (nZ tu), .int (nZ fo), .int (nZ tb), .int (nZ nu), .int (nZ rf)])), (ca, .inl (k 0, 18, .inl (zA ch)))] sz)) 0 0 (va_A [(h, .inr (6, [.ref o, .ref sl, .ref sv, .ref tx, .ref sh, .ref ld, .ref cc])), (o, .inr (0, [.ref la, .ref ca, .int (nZ nc), .int (nZ pl), .int (nZ pu), .int (nZ wi), .int (nZ tu), .int (nZ fo), .int (nZ tb), .int (nZ nu), .int (nZ rf)])), (ca, .inl (k 0, 18, .inl (zA ch)))] sz) := by
  refine zEnter (Qf := fun A => va_Qd (fun (rz : UInt64) (uz : Unit) => rz = (zShare (chSum ch 0 + chSum ch 1))) (fun (uz : Unit) => zOut D A [(h, .inr (6, [.ref o, .ref sl, .ref sv, .ref tx, .ref sh, .ref ld, .ref cc])), (o, .inr (0, [.ref la, .ref ca, .int (nZ nc), .int (nZ pl), .int (nZ pu), .int (nZ wi), .int (nZ tu), .int (nZ fo), .int (nZ tb), .int (nZ nu), .int (nZ rf)])), (ca, .inl (k 0, 18, .inl (zA ch)))]) A) RX6 (by decide) rfl (Nat.le_of_ble_eq_true rfl) ?_
  intro p9 e9 s9 m9 be9 me9 c9 ls A X hin hP hD hS hA hAe hl
  have hX := X.1; have hB := X.2.1; have hz := X.2.2.2.2.1; have hW := X.2.2.2.2.2.1; have hK := X.2.2.2.2.2.2.2; clear hAe
  clear hin
  have hl : lv_has ls 1 [(0, .ref h)] := hl
  have hc0 := chSum_rng hch (o := 0) (by omega); have hc1 := chSum_rng hch (o := 1) (by omega)
  refine lv_aload_n hX hB dX6_fullness_0 rfl (lv_at hl 0 rfl) ?_
  refine va_get hX hB hz inlX6 hW hK.1 hP 0 rfl rfl 0 (by decide) (hz _ zw_16) (fun _ h9 => h9) rfl dX6_fullness_1 ?_
  refine zCallI0 (zRunVN (As := []) X mv_X0_allChalks (c_X0_allChalks l D k _ o la ca nc pl pu wi tu fo tb nu rf ch ) (zn_X6_99 hK.2.1) (zPreV hP hD hK [1, 2] rfl rfl 1 0 rfl rfl rfl) rfl hl (Nat.le_of_ble_eq_true rfl) dX6_fullness_4 ⟨rfl, rfl, ⟨Nat.le_of_ble_eq_true rfl, Nat.le_of_ble_eq_true rfl⟩, Nat.le_of_ble_eq_true rfl, Nat.le_of_ble_eq_true rfl⟩ rfl) hS hP hD hA [1, 2] rfl (fun _ => rfl) (fun r_4 u_4 H locs hq_4 hP hD hS => ?_)
  subst hq_4
  have hP : va_P D vwCl [(h, .inr (6, [.ref o, .ref sl, .ref sv, .ref tx, .ref sh, .ref ld, .ref cc])), (o, .inr (0, [.ref la, .ref ca, .int (nZ nc), .int (nZ pl), .int (nZ pu), .int (nZ wi), .int (nZ tu), .int (nZ fo), .int (nZ tb), .int (nZ nu), .int (nZ rf)])), (ca, .inl (k 0, 18, .inl (zA ch)))] H := hP
  have hD : va_D A [(h, .inr (6, [.ref o, .ref sl, .ref sv, .ref tx, .ref sh, .ref ld, .ref cc])), (o, .inr (0, [.ref la, .ref ca, .int (nZ nc), .int (nZ pl), .int (nZ pu), .int (nZ wi), .int (nZ tu), .int (nZ fo), .int (nZ tb), .int (nZ nu), .int (nZ rf)])), (ca, .inl (k 0, 18, .inl (zA ch)))] := hD
  refine lv_i2d hX hB dX6_fullness_7 ?_
  refine lv_ldc2d (v := 4632796641680687104) hX hB hW (hz _ zw_662) dX6_fullness_8 ?_
  refine lv_ddiv hX hB dX6_fullness_11 ((share_at (by omega)).1) ?_
  exact zRetD () X hP hD hS rfl (by first | rfl | (congr 1; omega) | (dsimp only; congr 1; omega)) dX6_fullness_12
set_option maxHeartbeats 4000000 in
set_option maxRecDepth 100000 in
theorem c_X6_bitsOfShare (l : Launch) (D : va_G) (k : Nat → ClassId) (sz : Nat) (xv : UInt64) (r : Int) (hb : bitsOk xv r = true) : Met l yX6_bitsOfShare (zW yX6_bitsOfShare cX6_bitsOfShare 7 (some .long)) ({ frames := 0, cells := 0, slots := 0, locals := 0 } : Room) (va_Pc [.double xv] (zIn D k sz [])) (va_Ql (fun (rz : Int64) (uz : Unit) => rz = nL r) (fun (uz : Unit) => zOut D (va_A [] sz) []) (va_A [] sz)) 0 0 (va_A [] sz) := by
  refine zEnter (Qf := fun A => va_Ql (fun (rz : Int64) (uz : Unit) => rz = nL r) (fun (uz : Unit) => zOut D A []) A) RX6 (by decide) rfl (Nat.le_of_ble_eq_true rfl) ?_
  intro p9 e9 s9 m9 be9 me9 c9 ls A X hin hP hD hS hA hAe hl
  have hX := X.1; have hB := X.2.1; have hz := X.2.2.2.2.1; have hW := X.2.2.2.2.2.1; have hK := X.2.2.2.2.2.2.2; clear hAe
  clear hin
  have hl : lv_has ls 7 [(0, .double xv)] := hl
  refine lv_dload_n hX hB dX6_bitsOfShare_0 rfl (lv_at hl 0 rfl) ?_
  refine lv_dconst0 hX hB dX6_bitsOfShare_1 ?_
  refine zz_dcmp X dX6_bitsOfShare_2 ?_
  refine zz_if_gt X (tgt := 8) dX6_bitsOfShare_3 (by decide) ⟨by (first | exact (zcmp_rng _ _ _).1 | exact (zcmp_rng _ _ _).2), by (first | exact (zcmp_rng _ _ _).1 | exact (zcmp_rng _ _ _).2)⟩ (fun c_3 => ?_) (fun c_3 => ?_)
  · refine lv_dload_n hX hB dX6_bitsOfShare_8 rfl (lv_at hl 0 rfl) ?_
    refine lv_dstore_n (lv' := [(2, .double xv), (0, .double xv)]) hX hB dX6_bitsOfShare_9 rfl hl (by decide) rfl (fun ls hl => ?_)
    refine lv_ldc2 (v := nL 1023) hX hB hW (hz _ zw_696) dX6_bitsOfShare_10 ?_
    refine lv_lstore (lv' := [(4, .long (nL 1023)), (2, .double xv), (0, .double xv)]) hX hB dX6_bitsOfShare_13 hl (by decide) rfl (fun ls hl => ?_)
    refine lv_iconst (v := nZ 0) hX hB dX6_bitsOfShare_15 rfl ?_
    refine lv_istore (lv' := [(6, .int (nZ 0)), (4, .long (nL 1023)), (2, .double xv), (0, .double xv)]) hX hB dX6_bitsOfShare_16 hl (by decide) rfl (fun ls hl => ?_)
    refine zLoop (σ := Nat × UInt64) (fun (x : Nat × UInt64) (H : Heap) (locs : List Loc) (ls : Array Slot) => match x with | (i, y) => (i ≤ 10) ∧ (shOk (10 - i) y ↑i r = true) ∧ va_P D vwCl [] H ∧ va_D A [] ∧ va_S A s9.heap H locs ∧ lv_has ls 7 [(0, .double xv), (2, .double y), (4, .long (nL (1023 - ↑i))), (6, .int (nZ ↑i))]) (fun (x : Nat × UInt64) => match x with | (i, y) => 10 - i) ?_ (0, xv) ⟨(by first | omega | assumption | rfl), (by unfold bitsOk at hb; rw [if_pos c_3] at hb; exact hb), hP, hD, hS, (lv_sub hl [3, 2, 1, 0] rfl)⟩
    rintro ⟨i, y⟩ H locs ls ⟨hi, hq, hP, hD, hS, hl⟩ ih_18
    refine lv_iload hX hB dX6_bitsOfShare_18 (lv_at hl 3 rfl) ?_
    refine lv_i2l (v := nL (zw32 ↑i)) hX hB dX6_bitsOfShare_20 (zi2l _) ?_
    refine lv_ldc2 (v := nL 1023) hX hB hW (hz _ zw_696) dX6_bitsOfShare_21 ?_
    refine zz_lcmp X ⟨by (first | omega | (rw [zw32_id ⟨by omega, by omega⟩]; omega)), by (first | omega | (rw [zw32_id ⟨by omega, by omega⟩]; omega))⟩ ⟨by (first | omega | (rw [zw32_id ⟨by omega, by omega⟩]; omega)), by (first | omega | (rw [zw32_id ⟨by omega, by omega⟩]; omega))⟩ dX6_bitsOfShare_24 ?_
    refine zz_if_ge X (tgt := 52) dX6_bitsOfShare_25 (by decide) ⟨by (first | exact (zlc_rng _ _).1 | exact (zlc_rng _ _).2), by (first | exact (zlc_rng _ _).1 | exact (zlc_rng _ _).2)⟩ (fun c_25 => ?_) (fun c_25 => ?_)
    · exfalso; rw [zw32_id ⟨by omega, by omega⟩] at c_25; unfold zlc at c_25; rw [if_pos (by omega)] at c_25; omega
    · refine lv_dload_n hX hB dX6_bitsOfShare_28 rfl (lv_at hl 1 rfl) ?_
      refine lv_dconst1 hX hB dX6_bitsOfShare_29 ?_
      refine zz_dcmp X dX6_bitsOfShare_30 ?_
      refine zz_if_ge X (tgt := 52) dX6_bitsOfShare_31 (by decide) ⟨by (first | exact (zcmp_rng _ _ _).1 | exact (zcmp_rng _ _ _).2), by (first | exact (zcmp_rng _ _ _).1 | exact (zcmp_rng _ _ _).2)⟩ (fun c_31 => ?_) (fun c_31 => ?_)
      · have hen := shOk_end hq c_31
        refine lv_lload hX hB dX6_bitsOfShare_52 (lv_at hl 2 rfl) ?_
        refine lv_bipush (v := nZ 52) hX hB dX6_bitsOfShare_54 (by decide) ?_
        refine zz_lshl X dX6_bitsOfShare_56 ?_
        refine lv_dload_n hX hB dX6_bitsOfShare_57 rfl (lv_at hl 1 rfl) ?_
        refine lv_dconst1 hX hB dX6_bitsOfShare_58 ?_
        refine lv_dsub hX hB dX6_bitsOfShare_59 (hen.1) ?_
        refine lv_ldc2d (v := zMant) hX hB hW (hz _ zw_698) dX6_bitsOfShare_60 ?_
        refine lv_dmul hX hB dX6_bitsOfShare_63 (hen.2.1) ?_
        refine zz_d2l X dX6_bitsOfShare_64 ?_
        refine zz_ladd X dX6_bitsOfShare_65 ?_
        exact zRetL () X hP hD hS rfl (congrArg nL hen.2.2) dX6_bitsOfShare_66
      · have hgo := shOk_go hq c_31
        refine lv_dload_n hX hB dX6_bitsOfShare_34 rfl (lv_at hl 1 rfl) ?_
        refine lv_ldc2d (v := zTwo) hX hB hW (hz _ zw_697) dX6_bitsOfShare_35 ?_
        refine lv_dmul hX hB dX6_bitsOfShare_38 (hgo.2.1) ?_
        refine lv_dstore_n (lv' := [(2, .double (FP.dmul y zTwo)), (0, .double xv), (4, .long (nL (1023 - ↑i))), (6, .int (nZ ↑i))]) hX hB dX6_bitsOfShare_39 rfl hl (by decide) rfl (fun ls hl => ?_)
        refine lv_lload hX hB dX6_bitsOfShare_40 (lv_at hl 2 rfl) ?_
        refine lv_lconst (v := nL 1) hX hB dX6_bitsOfShare_42 (by decide) ?_
        refine zz_lsub X (z := (1023 - ↑(i + 1))) dX6_bitsOfShare_43 (by first | rfl | omega) ?_
        refine lv_lstore (lv' := [(4, .long (nL (1023 - ↑(i + 1)))), (2, .double (FP.dmul y zTwo)), (0, .double xv), (6, .int (nZ ↑i))]) hX hB dX6_bitsOfShare_44 hl (by decide) rfl (fun ls hl => ?_)
        refine lv_iinc (v := nZ (↑(i + 1) : Int)) (lv' := [(6, .int (nZ (↑(i + 1) : Int))), (4, .long (nL (1023 - ↑(i + 1)))), (2, .double (FP.dmul y zTwo)), (0, .double xv)]) hX hB dX6_bitsOfShare_46 hl (k := 3) rfl (zinc (by omega)) (by decide) rfl (fun ls hl => ?_)
        refine lv_goto (tgt := 18) hX hB dX6_bitsOfShare_49 (by decide) ?_
        exact ih_18 ((i + 1), (FP.dmul y zTwo)) _ _ _ ⟨(by first | omega | assumption | rfl), (by (have h9 := hgo.2.2; rw [show 10 - i - 1 = 10 - (i + 1) by omega] at h9; exact h9)), hP, hD, hS, (lv_sub hl [3, 2, 1, 0] rfl)⟩ (by dsimp only; omega)
  · refine lv_lconst (v := nL 0) hX hB dX6_bitsOfShare_6 (by decide) ?_
    exact zRetL () X hP hD hS rfl (by unfold bitsOk at hb; rw [if_neg (by omega), decide_eq_true_iff] at hb; rw [hb]) dX6_bitsOfShare_7
