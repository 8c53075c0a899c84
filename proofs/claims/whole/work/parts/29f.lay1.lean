set_option maxHeartbeats 4000000 in
set_option maxRecDepth 100000 in
theorem c_X7_lay_e1 (l : Launch) (D : va_G) (k : Nat → ClassId) (sz : Nat) (mm ms mk mb : Nat) (vsv vty vth ven vsp vla vpc : Int) (bf : Nat → Int) (T : List Int) (hT : textOk bf vty T) (hw : ¬ wholeS T) : Met l yX7_lay (zW yX7_lay cX7_lay 2 (some .int)) ({ frames := 5, cells := 0, slots := 0, locals := 106 } : Room) (va_Pc [.ref mm] (zIn D k sz [(mm, .inr (7, [.ref ms, .int (nZ vsv), .ref mk, .ref mb, .int (nZ vty), .int (nZ vth), .int (nZ ven), .int (nZ vsp), .int (nZ vla), .int (nZ vpc)])), (mb, .inl (k 2, 60, .inl (zA bf)))])) (va_Qi (fun (rz : Int32) (uz : Nat × Int × Int) => rz = nZ 0) (fun (uz : Nat × Int × Int) => zOut D (va_A [(mm, .inr (7, [.ref ms, .int (nZ vsv), .ref mk, .ref mb, .int (nZ vty), .int (nZ vth), .int (nZ ven), .int (nZ vsp), .int (nZ vla), .int (nZ vpc)])), (mb, .inl (k 2, 60, .inl (zA bf)))] sz) [(mm, .inr (7, [.ref ms, .int (nZ vsv), .ref mk, .ref mb, .int (nZ vty), .int (nZ 1), .int (nZ ven), .int (nZ ↑uz.1), .int (nZ uz.2.1), .int (nZ uz.2.2)])), (mb, .inl (k 2, 60, .inl (zA bf)))]) (va_A [(mm, .inr (7, [.ref ms, .int (nZ vsv), .ref mk, .ref mb, .int (nZ vty), .int (nZ vth), .int (nZ ven), .int (nZ vsp), .int (nZ vla), .int (nZ vpc)])), (mb, .inl (k 2, 60, .inl (zA bf)))] sz)) 0 0 (va_A [(mm, .inr (7, [.ref ms, .int (nZ vsv), .ref mk, .ref mb, .int (nZ vty), .int (nZ vth), .int (nZ ven), .int (nZ vsp), .int (nZ vla), .int (nZ vpc)])), (mb, .inl (k 2, 60, .inl (zA bf)))] sz) := by
  refine zEnter (Qf := fun A => va_Qi (fun (rz : Int32) (uz : Nat × Int × Int) => rz = nZ 0) (fun (uz : Nat × Int × Int) => zOut D A [(mm, .inr (7, [.ref ms, .int (nZ vsv), .ref mk, .ref mb, .int (nZ vty), .int (nZ 1), .int (nZ ven), .int (nZ ↑uz.1), .int (nZ uz.2.1), .int (nZ uz.2.2)])), (mb, .inl (k 2, 60, .inl (zA bf)))]) A) RX7 (by decide) rfl (Nat.le_of_ble_eq_true rfl) ?_
  intro p9 e9 s9 m9 be9 me9 c9 ls A X hin hP hD hS hA hAe hl
  have hX := X.1; have hB := X.2.1; have hz := X.2.2.2.2.1; have hW := X.2.2.2.2.2.1; have hK := X.2.2.2.2.2.2.2; clear hAe
  clear hin
  have hl : lv_has ls 2 [(0, .ref mm)] := hl
  obtain ⟨hn9, hlen9⟩ := hT.len
  have hel := errS_le T
  refine lv_aload_n hX hB dX7_lay_0 rfl (lv_at hl 0 rfl) ?_
  refine lv_aload_n hX hB dX7_lay_1 rfl (lv_at hl 0 rfl) ?_
  refine zCallI0 (zRunV (As := []) X mv_X7_error (c_X7_error l D k _ mm ms mk mb vsv vty vth ven vsp vla vpc bf T hT) zw_405 (zPreV hP hD hK [0, 1] rfl rfl 0 7 rfl rfl rfl) rfl hl (Nat.le_of_ble_eq_true rfl) dX7_lay_2 ⟨rfl, rfl, ⟨Nat.le_of_ble_eq_true rfl, Nat.le_of_ble_eq_true rfl⟩, Nat.le_of_ble_eq_true rfl, Nat.le_of_ble_eq_true rfl⟩ rfl) hS hP hD hA [0, 1] rfl (fun _ => rfl) (fun r_2 u_2 H locs hq_2 hP hD hS => ?_)
  obtain ⟨sp2_2, la2_2, pl2_2⟩ := u_2
  subst hq_2
  have hP : va_P D vwCl [(mm, .inr (7, [.ref ms, .int (nZ vsv), .ref mk, .ref mb, .int (nZ vty), .int (nZ vth), .int (nZ ven), .int (nZ ↑sp2_2), .int (nZ la2_2), .int (nZ pl2_2)])), (mb, .inl (k 2, 60, .inl (zA bf)))] H := hP
  have hD : va_D A [(mm, .inr (7, [.ref ms, .int (nZ vsv), .ref mk, .ref mb, .int (nZ vty), .int (nZ vth), .int (nZ ven), .int (nZ ↑sp2_2), .int (nZ la2_2), .int (nZ pl2_2)])), (mb, .inl (k 2, 60, .inl (zA bf)))] := hD
  rw [if_neg hw]
  refine lv_iconst (v := nZ (-1)) hX hB dX7_lay_5 rfl ?_
  refine zz_icmp_ne X (tgt := 13) dX7_lay_6 (by decide) ⟨by omega, by omega⟩ ⟨by omega, by omega⟩ (fun c_6 => ?_) (fun c_6 => ?_)
  · refine lv_iconst (v := nZ 0) hX hB dX7_lay_13 rfl ?_
    refine lv_iconst (v := nZ 1) hX hB dX7_lay_14 rfl ?_
    refine zCallI0 (zRunV (As := [.int (nZ 0), .int (nZ 1)]) X mv_X7_goes (c_X7_goes_0 l D k _ mm ms mk mb vsv vty vth ven ↑sp2_2 la2_2 pl2_2 1 ) zw_245 (zPreV hP hD hK [0] rfl rfl 0 7 rfl rfl rfl) rfl hl (Nat.le_of_ble_eq_true rfl) dX7_lay_15 ⟨rfl, rfl, ⟨Nat.le_of_ble_eq_true rfl, Nat.le_of_ble_eq_true rfl⟩, Nat.le_of_ble_eq_true rfl, Nat.le_of_ble_eq_true rfl⟩ rfl) hS hP hD hA [0] rfl (fun _ => rfl) (fun r_15 u_15 H locs hq_15 hP hD hS => ?_)
    subst hq_15
    have hP : va_P D vwCl [(mm, .inr (7, [.ref ms, .int (nZ vsv), .ref mk, .ref mb, .int (nZ vty), .int (nZ 1), .int (nZ ven), .int (nZ (↑sp2_2 : Int)), .int (nZ la2_2), .int (nZ pl2_2)])), (mb, .inl (k 2, 60, .inl (zA bf)))] H := hP
    have hD : va_D A [(mm, .inr (7, [.ref ms, .int (nZ vsv), .ref mk, .ref mb, .int (nZ vty), .int (nZ 1), .int (nZ ven), .int (nZ (↑sp2_2 : Int)), .int (nZ la2_2), .int (nZ pl2_2)])), (mb, .inl (k 2, 60, .inl (zA bf)))] := hD
    refine zz_if_ne X (tgt := 23) dX7_lay_18 (by decide) ⟨by omega, by omega⟩ (fun c_18 => ?_) (fun c_18 => ?_)
    · exfalso; omega
    · refine lv_iconst (v := nZ 0) hX hB dX7_lay_21 rfl ?_
      exact zRetI (sp2_2, la2_2, pl2_2) X hP hD hS rfl (by first | rfl | (congr 1; omega) | (dsimp only; congr 1; omega)) dX7_lay_22
  · exfalso; omega
