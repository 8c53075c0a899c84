theorem mv_X7_digest : zMV yX7_digest cX7_digest 5 (some .long) 0 := ⟨zw_706, zw_5, ⟨by decide +kernel, by decide +kernel, by decide +kernel⟩, zw_704, zw_705⟩
set_option maxHeartbeats 4000000 in
set_option maxRecDepth 100000 in
theorem c_X7_digest (l : Launch) (D : va_G) (k : Nat → ClassId) (sz : Nat) (mm ms mk mb : Nat) (vsv vty vth ven vsp vla vpc : Int) (s : Nat → Int) (kp bf : Nat → Int) (T : List Int) (B : Bd) (hT : textOk bf vty T) (hBk : blkOk s 0 B) (hG : bdGood B) (hk0 : kp 0 = 0 ∨ kp 0 = 1) (hk1 : kp 1 = 0 ∨ kp 1 = 1) : Met l yX7_digest (zW yX7_digest cX7_digest 5 (some .long)) ({ frames := 7, cells := 0, slots := 0, locals := 177 } : Room) (va_Pc [.ref mm] (zIn D k sz [(mm, .inr (7, [.ref ms, .int (nZ vsv), .ref mk, .ref mb, .int (nZ vty), .int (nZ vth), .int (nZ ven), .int (nZ vsp), .int (nZ vla), .int (nZ vpc)])), (ms, .inl (k 0, 900, .inl (zA s))), (mk, .inl (k 1, 2, .inl (zA kp))), (mb, .inl (k 2, 60, .inl (zA bf)))])) (va_Ql (fun (rz : Int64) (uz : (Nat → Int) × Int) => rz = nL (digB B vsv (kp 0) (kp 1) T) ∧ frOk s uz.1 810) (fun (uz : (Nat → Int) × Int) => zOut D (va_A [(mm, .inr (7, [.ref ms, .int (nZ vsv), .ref mk, .ref mb, .int (nZ vty), .int (nZ vth), .int (nZ ven), .int (nZ vsp), .int (nZ vla), .int (nZ vpc)])), (ms, .inl (k 0, 900, .inl (zA s))), (mk, .inl (k 1, 2, .inl (zA kp))), (mb, .inl (k 2, 60, .inl (zA bf)))] sz) [(mm, .inr (7, [.ref ms, .int (nZ vsv), .ref mk, .ref mb, .int (nZ vty), .int (nZ 0), .int (nZ uz.2), .int (nZ vsp), .int (nZ vla), .int (nZ vpc)])), (ms, .inl (k 0, 900, .inl (zA uz.1))), (mk, .inl (k 1, 2, .inl (zA kp))), (mb, .inl (k 2, 60, .inl (zA bf)))]) (va_A [(mm, .inr (7, [.ref ms, .int (nZ vsv), .ref mk, .ref mb, .int (nZ vty), .int (nZ vth), .int (nZ ven), .int (nZ vsp), .int (nZ vla), .int (nZ vpc)])), (ms, .inl (k 0, 900, .inl (zA s))), (mk, .inl (k 1, 2, .inl (zA kp))), (mb, .inl (k 2, 60, .inl (zA bf)))] sz)) 0 0 (va_A [(mm, .inr (7, [.ref ms, .int (nZ vsv), .ref mk, .ref mb, .int (nZ vty), .int (nZ vth), .int (nZ ven), .int (nZ vsp), .int (nZ vla), .int (nZ vpc)])), (ms, .inl (k 0, 900, .inl (zA s))), (mk, .inl (k 1, 2, .inl (zA kp))), (mb, .inl (k 2, 60, .inl (zA bf)))] sz) := by
  refine zEnter (Qf := fun A => va_Ql (fun (rz : Int64) (uz : (Nat → Int) × Int) => rz = nL (digB B vsv (kp 0) (kp 1) T) ∧ frOk s uz.1 810) (fun (uz : (Nat → Int) × Int) => zOut D A [(mm, .inr (7, [.ref ms, .int (nZ vsv), .ref mk, .ref mb, .int (nZ vty), .int (nZ 0), .int (nZ uz.2), .int (nZ vsp), .int (nZ vla), .int (nZ vpc)])), (ms, .inl (k 0, 900, .inl (zA uz.1))), (mk, .inl (k 1, 2, .inl (zA kp))), (mb, .inl (k 2, 60, .inl (zA bf)))]) A) RX7 (by decide) rfl (Nat.le_of_ble_eq_true rfl) ?_
  intro p9 e9 s9 m9 be9 me9 c9 ls A X hin hP hD hS hA hAe hl
  have hX := X.1; have hB := X.2.1; have hz := X.2.2.2.2.1; have hW := X.2.2.2.2.2.1; have hK := X.2.2.2.2.2.2.2; clear hAe
  clear hin
  have hl : lv_has ls 5 [(0, .ref mm)] := hl
  obtain ⟨hn9, hlen9⟩ := hT.len
  have hG0 := hG
  obtain ⟨hcost, hpl, hpu, hwi, hch, hC0, hC1, hC2⟩ := hG0
  refine lv_ldc2 (v := nL 3637) hX hB hW (hz _ zw_707) dX7_digest_0 ?_
  refine lv_lstore_n (lv' := [(1, .long (nL 3637)), (0, .ref mm)]) hX hB dX7_digest_3 rfl hl (by decide) rfl (fun ls hl => ?_)
  refine lv_iconst (v := nZ 0) hX hB dX7_digest_4 rfl ?_
  refine lv_istore_n (lv' := [(3, .int (nZ 0)), (1, .long (nL 3637)), (0, .ref mm)]) hX hB dX7_digest_5 rfl hl (by decide) rfl (fun ls hl => ?_)
  refine zLoop (σ := Nat × Int) (fun (x : Nat × Int) (H : Heap) (locs : List Loc) (ls : Array Slot) => match x with | (i, hh) => (i ≤ 13) ∧ (hh = foldH (fun w => countB B vsv w) 3637 i) ∧ va_P D vwCl [(mm, .inr (7, [.ref ms, .int (nZ vsv), .ref mk, .ref mb, .int (nZ vty), .int (nZ vth), .int (nZ ven), .int (nZ vsp), .int (nZ vla), .int (nZ vpc)])), (ms, .inl (k 0, 900, .inl (zA s))), (mk, .inl (k 1, 2, .inl (zA kp))), (mb, .inl (k 2, 60, .inl (zA bf)))] H ∧ va_D A [(mm, .inr (7, [.ref ms, .int (nZ vsv), .ref mk, .ref mb, .int (nZ vty), .int (nZ vth), .int (nZ ven), .int (nZ vsp), .int (nZ vla), .int (nZ vpc)])), (ms, .inl (k 0, 900, .inl (zA s))), (mk, .inl (k 1, 2, .inl (zA kp))), (mb, .inl (k 2, 60, .inl (zA bf)))] ∧ va_S A s9.heap H locs ∧ lv_has ls 5 [(0, .ref mm), (1, .long (nL hh)), (3, .int (nZ ↑i))]) (fun (x : Nat × Int) => match x with | (i, hh) => 13 - i) ?_ (0, 3637) ⟨(by first | omega | assumption | rfl), (by rfl), hP, hD, hS, (lv_sub hl [2, 1, 0] rfl)⟩
  rintro ⟨i, hh⟩ H locs ls ⟨hi, hq, hP, hD, hS, hl⟩ ih_6
  refine lv_iload_n hX hB dX7_digest_6 rfl (lv_at hl 2 rfl) ?_
  refine lv_bipush (v := nZ 13) hX hB dX7_digest_7 (by decide) ?_
  refine zz_icmp_ge X (tgt := 31) dX7_digest_9 (by decide) ⟨by omega, by omega⟩ ⟨by omega, by omega⟩ (fun c_9 => ?_) (fun c_9 => ?_)
  · have hq9 : hh = foldH (fun w => countB B vsv w) 3637 13 := by rw [hq, show i = 13 by omega]
    refine lv_ldc2 (v := nL 31) hX hB hW (hz _ zw_708) dX7_digest_31 ?_
    refine lv_lload_n hX hB dX7_digest_34 rfl (lv_at hl 1 rfl) ?_
    refine zz_lmul X dX7_digest_35 ?_
    refine lv_aload_n hX hB dX7_digest_36 rfl (lv_at hl 0 rfl) ?_
    refine va_get hX hB hz inlX7 hW hK.1 hP 0 rfl rfl 0 (by decide) (hz _ zw_74) (fun _ h9 => h9) rfl dX7_digest_37 ?_
    refine lv_iconst (v := nZ 0) hX hB dX7_digest_40 rfl ?_
    refine zz_iald X hP 1 0 rfl rfl 0 (by omega) (by omega) (by first | decide | omega) dX7_digest_41 ?_
    refine lv_i2l (v := nL (zw32 (s 0))) hX hB dX7_digest_42 (zi2l _) ?_
    refine zz_ladd X dX7_digest_43 ?_
    refine lv_lstore_n (lv' := [(1, .long (nL ((31 * hh) + (zw32 (s 0))))), (0, .ref mm), (3, .int (nZ ↑i))]) hX hB dX7_digest_44 rfl hl (by decide) rfl (fun ls hl => ?_)
    refine lv_iconst (v := nZ 0) hX hB dX7_digest_45 rfl ?_
    refine lv_istore_n (lv' := [(3, .int (nZ 0)), (1, .long (nL ((31 * hh) + (zw32 (s 0))))), (0, .ref mm)]) hX hB dX7_digest_46 rfl hl (by decide) rfl (fun ls hl => ?_)
    refine lv_iload_n hX hB dX7_digest_47 rfl (lv_at hl 0 rfl) ?_
    refine lv_iconst (v := nZ 3) hX hB dX7_digest_48 rfl ?_
    refine zz_icmp_ge X (tgt := 65) dX7_digest_49 (by decide) ⟨by omega, by omega⟩ ⟨by omega, by omega⟩ (fun c_49 => ?_) (fun c_49 => ?_)
    · exfalso; omega
    · refine lv_aload_n hX hB dX7_digest_52 rfl (lv_at hl 2 rfl) ?_
      refine lv_lload_n hX hB dX7_digest_53 rfl (lv_at hl 1 rfl) ?_
      refine lv_iload_n hX hB dX7_digest_54 rfl (lv_at hl 0 rfl) ?_
      refine zCallL0 (zRunV (As := [.long (nL ((31 * hh) + (zw32 (s 0)))), .int (nZ 0)]) X mv_X7_ofLane (c_X7_ofLane l D k _ mm ms mk mb vsv vty vth ven vsp vla vpc s 0 B ((31 * hh) + (zw32 (s 0))) hBk (by first | assumption | omega | exact ⟨by omega, by omega⟩) hC0 hcost) zw_709 (zPreV hP hD hK [0, 1] rfl rfl 0 7 rfl rfl rfl) rfl hl (Nat.le_of_ble_eq_true rfl) dX7_digest_55 ⟨rfl, rfl, ⟨Nat.le_of_ble_eq_true rfl, Nat.le_of_ble_eq_true rfl⟩, Nat.le_of_ble_eq_true rfl, Nat.le_of_ble_eq_true rfl⟩ rfl) hS hP hD hA [0, 1] rfl (fun _ => rfl) (fun r_55 u_55 H locs hq_55 hP hD hS => ?_)
      obtain ⟨s2_55, ve2_55⟩ := u_55
      obtain ⟨rfl, hf2_55⟩ := hq_55
      try dsimp only at hf2_55
      have hP : va_P D vwCl [(mm, .inr (7, [.ref ms, .int (nZ vsv), .ref mk, .ref mb, .int (nZ vty), .int (nZ vth), .int (nZ ve2_55), .int (nZ vsp), .int (nZ vla), .int (nZ vpc)])), (ms, .inl (k 0, 900, .inl (zA s2_55))), (mk, .inl (k 1, 2, .inl (zA kp))), (mb, .inl (k 2, 60, .inl (zA bf)))] H := hP
      have hD : va_D A [(mm, .inr (7, [.ref ms, .int (nZ vsv), .ref mk, .ref mb, .int (nZ vty), .int (nZ vth), .int (nZ ve2_55), .int (nZ vsp), .int (nZ vla), .int (nZ vpc)])), (ms, .inl (k 0, 900, .inl (zA s2_55))), (mk, .inl (k 1, 2, .inl (zA kp))), (mb, .inl (k 2, 60, .inl (zA bf)))] := hD
      have hzs2_55 : blkOk s2_55 0 B := hBk.other hf2_55 (by omega)
      have hys2_55 : frOk s s2_55 810 := hf2_55
      refine lv_lstore_n (lv' := [(1, .long (nL (laneB B ((31 * hh) + (zw32 (s 0))) 0))), (3, .int (nZ 0)), (0, .ref mm)]) hX hB dX7_digest_58 rfl hl (by decide) rfl (fun ls hl => ?_)
      refine lv_iinc (v := nZ 1) (lv' := [(3, .int (nZ 1)), (1, .long (nL (laneB B ((31 * hh) + (zw32 (s 0))) 0))), (0, .ref mm)]) hX hB dX7_digest_59 hl (k := 1) rfl (zinc (by omega)) (by decide) rfl (fun ls hl => ?_)
      refine lv_goto (tgt := 47) hX hB dX7_digest_62 (by decide) ?_
      refine lv_iload_n hX hB dX7_digest_47 rfl (lv_at hl 0 rfl) ?_
      refine lv_iconst (v := nZ 3) hX hB dX7_digest_48 rfl ?_
      refine zz_icmp_ge X (tgt := 65) dX7_digest_49 (by decide) ⟨by omega, by omega⟩ ⟨by omega, by omega⟩ (fun c_49_2 => ?_) (fun c_49_2 => ?_)
      · exfalso; omega
      · refine lv_aload_n hX hB dX7_digest_52 rfl (lv_at hl 2 rfl) ?_
        refine lv_lload_n hX hB dX7_digest_53 rfl (lv_at hl 1 rfl) ?_
        refine lv_iload_n hX hB dX7_digest_54 rfl (lv_at hl 0 rfl) ?_
        refine zCallL0 (zRunV (As := [.long (nL (laneB B ((31 * hh) + (zw32 (s 0))) 0)), .int (nZ 1)]) X mv_X7_ofLane (c_X7_ofLane l D k _ mm ms mk mb vsv vty vth ve2_55 vsp vla vpc s2_55 1 B (laneB B ((31 * hh) + (zw32 (s 0))) 0) hzs2_55 (by first | assumption | omega | exact ⟨by omega, by omega⟩) hC1 hcost) zw_709 (zPreV hP hD hK [0, 1] rfl rfl 0 7 rfl rfl rfl) rfl hl (Nat.le_of_ble_eq_true rfl) dX7_digest_55 ⟨rfl, rfl, ⟨Nat.le_of_ble_eq_true rfl, Nat.le_of_ble_eq_true rfl⟩, Nat.le_of_ble_eq_true rfl, Nat.le_of_ble_eq_true rfl⟩ rfl) hS hP hD hA [0, 1] rfl (fun _ => rfl) (fun r_55_2 u_55_2 H locs hq_55_2 hP hD hS => ?_)
        obtain ⟨s2_55_2, ve2_55_2⟩ := u_55_2
        obtain ⟨rfl, hf2_55_2⟩ := hq_55_2
        try dsimp only at hf2_55_2
        have hP : va_P D vwCl [(mm, .inr (7, [.ref ms, .int (nZ vsv), .ref mk, .ref mb, .int (nZ vty), .int (nZ vth), .int (nZ ve2_55_2), .int (nZ vsp), .int (nZ vla), .int (nZ vpc)])), (ms, .inl (k 0, 900, .inl (zA s2_55_2))), (mk, .inl (k 1, 2, .inl (zA kp))), (mb, .inl (k 2, 60, .inl (zA bf)))] H := hP
        have hD : va_D A [(mm, .inr (7, [.ref ms, .int (nZ vsv), .ref mk, .ref mb, .int (nZ vty), .int (nZ vth), .int (nZ ve2_55_2), .int (nZ vsp), .int (nZ vla), .int (nZ vpc)])), (ms, .inl (k 0, 900, .inl (zA s2_55_2))), (mk, .inl (k 1, 2, .inl (zA kp))), (mb, .inl (k 2, 60, .inl (zA bf)))] := hD
        have hzs2_55_2 : blkOk s2_55_2 0 B := hzs2_55.other hf2_55_2 (by omega)
        have hys2_55_2 : frOk s s2_55_2 810 := hys2_55.trans hf2_55_2
        refine lv_lstore_n (lv' := [(1, .long (nL (laneB B (laneB B ((31 * hh) + (zw32 (s 0))) 0) 1))), (3, .int (nZ 1)), (0, .ref mm)]) hX hB dX7_digest_58 rfl hl (by decide) rfl (fun ls hl => ?_)
        refine lv_iinc (v := nZ 2) (lv' := [(3, .int (nZ 2)), (1, .long (nL (laneB B (laneB B ((31 * hh) + (zw32 (s 0))) 0) 1))), (0, .ref mm)]) hX hB dX7_digest_59 hl (k := 1) rfl (zinc (by omega)) (by decide) rfl (fun ls hl => ?_)
        refine lv_goto (tgt := 47) hX hB dX7_digest_62 (by decide) ?_
        refine lv_iload_n hX hB dX7_digest_47 rfl (lv_at hl 0 rfl) ?_
        refine lv_iconst (v := nZ 3) hX hB dX7_digest_48 rfl ?_
        refine zz_icmp_ge X (tgt := 65) dX7_digest_49 (by decide) ⟨by omega, by omega⟩ ⟨by omega, by omega⟩ (fun c_49_3 => ?_) (fun c_49_3 => ?_)
        · exfalso; omega
        · refine lv_aload_n hX hB dX7_digest_52 rfl (lv_at hl 2 rfl) ?_
          refine lv_lload_n hX hB dX7_digest_53 rfl (lv_at hl 1 rfl) ?_
          refine lv_iload_n hX hB dX7_digest_54 rfl (lv_at hl 0 rfl) ?_
          refine zCallL0 (zRunV (As := [.long (nL (laneB B (laneB B ((31 * hh) + (zw32 (s 0))) 0) 1)), .int (nZ 2)]) X mv_X7_ofLane (c_X7_ofLane l D k _ mm ms mk mb vsv vty vth ve2_55_2 vsp vla vpc s2_55_2 2 B (laneB B (laneB B ((31 * hh) + (zw32 (s 0))) 0) 1) hzs2_55_2 (by first | assumption | omega | exact ⟨by omega, by omega⟩) hC2 hcost) zw_709 (zPreV hP hD hK [0, 1] rfl rfl 0 7 rfl rfl rfl) rfl hl (Nat.le_of_ble_eq_true rfl) dX7_digest_55 ⟨rfl, rfl, ⟨Nat.le_of_ble_eq_true rfl, Nat.le_of_ble_eq_true rfl⟩, Nat.le_of_ble_eq_true rfl, Nat.le_of_ble_eq_true rfl⟩ rfl) hS hP hD hA [0, 1] rfl (fun _ => rfl) (fun r_55_3 u_55_3 H locs hq_55_3 hP hD hS => ?_)
          obtain ⟨s2_55_3, ve2_55_3⟩ := u_55_3
          obtain ⟨rfl, hf2_55_3⟩ := hq_55_3
          try dsimp only at hf2_55_3
          have hP : va_P D vwCl [(mm, .inr (7, [.ref ms, .int (nZ vsv), .ref mk, .ref mb, .int (nZ vty), .int (nZ vth), .int (nZ ve2_55_3), .int (nZ vsp), .int (nZ vla), .int (nZ vpc)])), (ms, .inl (k 0, 900, .inl (zA s2_55_3))), (mk, .inl (k 1, 2, .inl (zA kp))), (mb, .inl (k 2, 60, .inl (zA bf)))] H := hP
          have hD : va_D A [(mm, .inr (7, [.ref ms, .int (nZ vsv), .ref mk, .ref mb, .int (nZ vty), .int (nZ vth), .int (nZ ve2_55_3), .int (nZ vsp), .int (nZ vla), .int (nZ vpc)])), (ms, .inl (k 0, 900, .inl (zA s2_55_3))), (mk, .inl (k 1, 2, .inl (zA kp))), (mb, .inl (k 2, 60, .inl (zA bf)))] := hD
          have hzs2_55_3 : blkOk s2_55_3 0 B := hzs2_55_2.other hf2_55_3 (by omega)
          have hys2_55_3 : frOk s s2_55_3 810 := hys2_55_2.trans hf2_55_3
          refine lv_lstore_n (lv' := [(1, .long (nL (laneB B (laneB B (laneB B ((31 * hh) + (zw32 (s 0))) 0) 1) 2))), (3, .int (nZ 2)), (0, .ref mm)]) hX hB dX7_digest_58 rfl hl (by decide) rfl (fun ls hl => ?_)
          refine lv_iinc (v := nZ 3) (lv' := [(3, .int (nZ 3)), (1, .long (nL (laneB B (laneB B (laneB B ((31 * hh) + (zw32 (s 0))) 0) 1) 2))), (0, .ref mm)]) hX hB dX7_digest_59 hl (k := 1) rfl (zinc (by omega)) (by decide) rfl (fun ls hl => ?_)
          refine lv_goto (tgt := 47) hX hB dX7_digest_62 (by decide) ?_
          refine lv_iload_n hX hB dX7_digest_47 rfl (lv_at hl 0 rfl) ?_
          refine lv_iconst (v := nZ 3) hX hB dX7_digest_48 rfl ?_
          refine zz_icmp_ge X (tgt := 65) dX7_digest_49 (by decide) ⟨by omega, by omega⟩ ⟨by omega, by omega⟩ (fun c_49_4 => ?_) (fun c_49_4 => ?_)
          · refine lv_iconst (v := nZ 0) hX hB dX7_digest_65 rfl ?_
            refine lv_istore_n (lv' := [(3, .int (nZ 0)), (1, .long (nL (laneB B (laneB B (laneB B ((31 * hh) + (zw32 (s 0))) 0) 1) 2))), (0, .ref mm)]) hX hB dX7_digest_66 rfl hl (by decide) rfl (fun ls hl => ?_)
            refine zLoop (σ := Nat × Int × (Nat → Int) × Int) (fun (x : Nat × Int × (Nat → Int) × Int) (H : Heap) (locs : List Loc) (ls : Array Slot) => match x with | (b, h3, q, ve) => (b ≤ 9) ∧ (h3 = bedsH (bedB B) (digL B vsv) b) ∧ (blkOk q 0 B) ∧ (frOk s q 810) ∧ va_P D vwCl [(mm, .inr (7, [.ref ms, .int (nZ vsv), .ref mk, .ref mb, .int (nZ vty), .int (nZ vth), .int (nZ ve), .int (nZ vsp), .int (nZ vla), .int (nZ vpc)])), (ms, .inl (k 0, 900, .inl (zA q))), (mk, .inl (k 1, 2, .inl (zA kp))), (mb, .inl (k 2, 60, .inl (zA bf)))] H ∧ va_D A [(mm, .inr (7, [.ref ms, .int (nZ vsv), .ref mk, .ref mb, .int (nZ vty), .int (nZ vth), .int (nZ ve), .int (nZ vsp), .int (nZ vla), .int (nZ vpc)])), (ms, .inl (k 0, 900, .inl (zA q))), (mk, .inl (k 1, 2, .inl (zA kp))), (mb, .inl (k 2, 60, .inl (zA bf)))] ∧ va_S A s9.heap H locs ∧ lv_has ls 5 [(0, .ref mm), (1, .long (nL h3)), (3, .int (nZ ↑b))]) (fun (x : Nat × Int × (Nat → Int) × Int) => match x with | (b, h3, q, ve) => 9 - b) ?_ (0, (laneB B (laneB B (laneB B ((31 * hh) + (zw32 (s 0))) 0) 1) 2), s2_55_3, ve2_55_3) ⟨(by first | omega | assumption | rfl), (by exact digL_of7 (hBk.num (k := 0) (by omega)) hq9), (by assumption), (by assumption), hP, hD, hS, (lv_sub hl [2, 1, 0] rfl)⟩
            rintro ⟨b, h3, q, ve⟩ H locs ls ⟨hb, hq3, hqk, hqf, hP, hD, hS, hl⟩ ih_67
            refine lv_iload_n hX hB dX7_digest_67 rfl (lv_at hl 2 rfl) ?_
            refine lv_bipush (v := nZ 9) hX hB dX7_digest_68 (by decide) ?_
            refine zz_icmp_ge X (tgt := 139) dX7_digest_70 (by decide) ⟨by omega, by omega⟩ ⟨by omega, by omega⟩ (fun c_70 => ?_) (fun c_70 => ?_)
            · have hq8 : h3 = bedsH (bedB B) (digL B vsv) 9 := by rw [hq3, show b = 9 by omega]
              refine lv_ldc2 (v := nL 31) hX hB hW (hz _ zw_708) dX7_digest_139 ?_
              refine lv_lload_n hX hB dX7_digest_142 rfl (lv_at hl 1 rfl) ?_
              refine zz_lmul X dX7_digest_143 ?_
              refine lv_aload_n hX hB dX7_digest_144 rfl (lv_at hl 0 rfl) ?_
              refine zCallI0 (zRunV (As := []) X mv_X7_best (c_X7_best l D k _ mm ms mk mb vsv vty vth ve vsp vla vpc q B hqk (hG)) zw_650 (zPreV hP hD hK [0, 1] rfl rfl 0 7 rfl rfl rfl) rfl hl (Nat.le_of_ble_eq_true rfl) dX7_digest_145 ⟨rfl, rfl, ⟨Nat.le_of_ble_eq_true rfl, Nat.le_of_ble_eq_true rfl⟩, Nat.le_of_ble_eq_true rfl, Nat.le_of_ble_eq_true rfl⟩ rfl) hS hP hD hA [0, 1] rfl (fun _ => rfl) (fun r_145 u_145 H locs hq_145 hP hD hS => ?_)
              obtain ⟨s2_145, ve2_145⟩ := u_145
              obtain ⟨rfl, hf2_145⟩ := hq_145
              try dsimp only at hf2_145
              have hP : va_P D vwCl [(mm, .inr (7, [.ref ms, .int (nZ vsv), .ref mk, .ref mb, .int (nZ vty), .int (nZ vth), .int (nZ ve2_145), .int (nZ vsp), .int (nZ vla), .int (nZ vpc)])), (ms, .inl (k 0, 900, .inl (zA s2_145))), (mk, .inl (k 1, 2, .inl (zA kp))), (mb, .inl (k 2, 60, .inl (zA bf)))] H := hP
              have hD : va_D A [(mm, .inr (7, [.ref ms, .int (nZ vsv), .ref mk, .ref mb, .int (nZ vty), .int (nZ vth), .int (nZ ve2_145), .int (nZ vsp), .int (nZ vla), .int (nZ vpc)])), (ms, .inl (k 0, 900, .inl (zA s2_145))), (mk, .inl (k 1, 2, .inl (zA kp))), (mb, .inl (k 2, 60, .inl (zA bf)))] := hD
              have hzs2_145 : blkOk s2_145 0 B := hqk.other hf2_145 (by omega)
              have hys2_145 : frOk s s2_145 810 := hqf.trans hf2_145
              refine lv_i2l (v := nL (zw32 (best3 (leadF B 0) (leadF B 1) (leadF B 2)))) hX hB dX7_digest_148 (zi2l _) ?_
              refine zz_ladd X dX7_digest_149 ?_
              refine lv_lstore_n (lv' := [(1, .long (nL ((31 * h3) + (zw32 (best3 (leadF B 0) (leadF B 1) (leadF B 2)))))), (0, .ref mm), (3, .int (nZ ↑b))]) hX hB dX7_digest_150 rfl hl (by decide) rfl (fun ls hl => ?_)
              refine lv_ldc2 (v := nL 31) hX hB hW (hz _ zw_708) dX7_digest_151 ?_
              refine lv_lload_n hX hB dX7_digest_154 rfl (lv_at hl 0 rfl) ?_
              refine zz_lmul X dX7_digest_155 ?_
              refine lv_aload_n hX hB dX7_digest_156 rfl (lv_at hl 1 rfl) ?_
              refine zCallD0 (zRunV (As := []) X mv_X7_fullness (c_X7_fullness l D k _ mm ms mk mb vsv vty vth ve2_145 vsp vla vpc s2_145 B hzs2_145 (hch)) zw_713 (zPreV hP hD hK [0, 1] rfl rfl 0 7 rfl rfl rfl) rfl hl (Nat.le_of_ble_eq_true rfl) dX7_digest_157 ⟨rfl, rfl, ⟨Nat.le_of_ble_eq_true rfl, Nat.le_of_ble_eq_true rfl⟩, Nat.le_of_ble_eq_true rfl, Nat.le_of_ble_eq_true rfl⟩ rfl) hS hP hD hA [0, 1] rfl (fun _ => rfl) (fun r_157 u_157 H locs hq_157 hP hD hS => ?_)
              subst hq_157
              have hP : va_P D vwCl [(mm, .inr (7, [.ref ms, .int (nZ vsv), .ref mk, .ref mb, .int (nZ vty), .int (nZ 0), .int (nZ ve2_145), .int (nZ vsp), .int (nZ vla), .int (nZ vpc)])), (ms, .inl (k 0, 900, .inl (zA s2_145))), (mk, .inl (k 1, 2, .inl (zA kp))), (mb, .inl (k 2, 60, .inl (zA bf)))] H := hP
              have hD : va_D A [(mm, .inr (7, [.ref ms, .int (nZ vsv), .ref mk, .ref mb, .int (nZ vty), .int (nZ 0), .int (nZ ve2_145), .int (nZ vsp), .int (nZ vla), .int (nZ vpc)])), (ms, .inl (k 0, 900, .inl (zA s2_145))), (mk, .inl (k 1, 2, .inl (zA kp))), (mb, .inl (k 2, 60, .inl (zA bf)))] := hD
              refine zCallL0 (zRunS X ms_Jxe99ae_doubleToLongBits_ccdee (c_Jxe99ae_doubleToLongBits_ccdee l D k _ (zShare (chalksB B)) ((share_at (chalks_rng hch)).2.1)) zw_714 (zPreS hP hD hK [] rfl rfl) rfl hl (Nat.le_of_ble_eq_true rfl) dX7_digest_160 ⟨rfl, rfl, ⟨Nat.le_of_ble_eq_true rfl, Nat.le_of_ble_eq_true rfl⟩, Nat.le_of_ble_eq_true rfl, Nat.le_of_ble_eq_true rfl⟩ rfl) hS hP hD hA [] rfl (fun _ => rfl) (fun r_160 u_160 H locs hq_160 hP hD hS => ?_)
              subst hq_160
              have hP : va_P D vwCl [(mm, .inr (7, [.ref ms, .int (nZ vsv), .ref mk, .ref mb, .int (nZ vty), .int (nZ 0), .int (nZ ve2_145), .int (nZ vsp), .int (nZ vla), .int (nZ vpc)])), (ms, .inl (k 0, 900, .inl (zA s2_145))), (mk, .inl (k 1, 2, .inl (zA kp))), (mb, .inl (k 2, 60, .inl (zA bf)))] H := hP
              have hD : va_D A [(mm, .inr (7, [.ref ms, .int (nZ vsv), .ref mk, .ref mb, .int (nZ vty), .int (nZ 0), .int (nZ ve2_145), .int (nZ vsp), .int (nZ vla), .int (nZ vpc)])), (ms, .inl (k 0, 900, .inl (zA s2_145))), (mk, .inl (k 1, 2, .inl (zA kp))), (mb, .inl (k 2, 60, .inl (zA bf)))] := hD
              refine zz_ladd X dX7_digest_163 ?_
              refine lv_lstore_n (lv' := [(1, .long (nL ((31 * ((31 * h3) + (zw32 (best3 (leadF B 0) (leadF B 1) (leadF B 2))))) + ((zShare (chalksB B)).toInt64.toInt)))), (0, .ref mm), (3, .int (nZ ↑b))]) hX hB dX7_digest_164 rfl hl (by decide) rfl (fun ls hl => ?_)
              refine lv_ldc2 (v := nL 31) hX hB hW (hz _ zw_708) dX7_digest_165 ?_
              refine lv_lload_n hX hB dX7_digest_168 rfl (lv_at hl 0 rfl) ?_
              refine zz_lmul X dX7_digest_169 ?_
              refine lv_aload_n hX hB dX7_digest_170 rfl (lv_at hl 1 rfl) ?_
              refine va_get hX hB hz inlX7 hW hK.1 hP 0 rfl rfl 2 (by decide) (hz _ zw_76) (fun _ h9 => h9) rfl dX7_digest_171 ?_
              refine lv_iconst (v := nZ 0) hX hB dX7_digest_174 rfl ?_
              refine zz_zald X hP 2 1 rfl rfl 0 (by omega) (by omega) (by first | decide | omega) dX7_digest_175 ?_
              refine zz_if_eq X (tgt := 183) dX7_digest_176 (by decide) ⟨by omega, by omega⟩ (fun c_176 => ?_) (fun c_176 => ?_)
              · refine lv_iconst (v := nZ 0) hX hB dX7_digest_183 rfl ?_
                refine lv_i2l (v := nL (zw32 0)) hX hB dX7_digest_184 (zi2l _) ?_
                refine zz_ladd X dX7_digest_185 ?_
                refine lv_lstore_n (lv' := [(1, .long (nL ((31 * ((31 * ((31 * h3) + (zw32 (best3 (leadF B 0) (leadF B 1) (leadF B 2))))) + ((zShare (chalksB B)).toInt64.toInt))) + (zw32 0)))), (0, .ref mm), (3, .int (nZ ↑b))]) hX hB dX7_digest_186 rfl hl (by decide) rfl (fun ls hl => ?_)
                refine lv_ldc2 (v := nL 31) hX hB hW (hz _ zw_708) dX7_digest_187 ?_
                refine lv_lload_n hX hB dX7_digest_190 rfl (lv_at hl 0 rfl) ?_
                refine zz_lmul X dX7_digest_191 ?_
                refine lv_aload_n hX hB dX7_digest_192 rfl (lv_at hl 1 rfl) ?_
                refine va_get hX hB hz inlX7 hW hK.1 hP 0 rfl rfl 2 (by decide) (hz _ zw_76) (fun _ h9 => h9) rfl dX7_digest_193 ?_
                refine lv_iconst (v := nZ 1) hX hB dX7_digest_196 rfl ?_
                refine zz_zald X hP 2 1 rfl rfl 1 (by omega) (by omega) (by first | decide | omega) dX7_digest_197 ?_
                refine zz_if_eq X (tgt := 205) dX7_digest_198 (by decide) ⟨by omega, by omega⟩ (fun c_198 => ?_) (fun c_198 => ?_)
                · refine lv_iconst (v := nZ 0) hX hB dX7_digest_205 rfl ?_
                  refine lv_i2l (v := nL (zw32 0)) hX hB dX7_digest_206 (zi2l _) ?_
                  refine zz_ladd X dX7_digest_207 ?_
                  refine lv_lstore_n (lv' := [(1, .long (nL ((31 * ((31 * ((31 * ((31 * h3) + (zw32 (best3 (leadF B 0) (leadF B 1) (leadF B 2))))) + ((zShare (chalksB B)).toInt64.toInt))) + (zw32 0))) + (zw32 0)))), (0, .ref mm), (3, .int (nZ ↑b))]) hX hB dX7_digest_208 rfl hl (by decide) rfl (fun ls hl => ?_)
                  refine lv_ldc2 (v := nL 31) hX hB hW (hz _ zw_708) dX7_digest_209 ?_
                  refine lv_lload_n hX hB dX7_digest_212 rfl (lv_at hl 0 rfl) ?_
                  refine zz_lmul X dX7_digest_213 ?_
                  refine lv_aload_n hX hB dX7_digest_214 rfl (lv_at hl 1 rfl) ?_
                  refine va_get hX hB hz inlX7 hW hK.1 hP 0 rfl rfl 4 (by decide) (hz _ zw_372) (fun _ h9 => h9) rfl dX7_digest_215 ?_
                  refine lv_i2l (v := nL (zw32 vty)) hX hB dX7_digest_218 (zi2l _) ?_
                  refine zz_ladd X dX7_digest_219 ?_
                  refine lv_lstore_n (lv' := [(1, .long (nL ((31 * ((31 * ((31 * ((31 * ((31 * h3) + (zw32 (best3 (leadF B 0) (leadF B 1) (leadF B 2))))) + ((zShare (chalksB B)).toInt64.toInt))) + (zw32 0))) + (zw32 0))) + (zw32 vty)))), (0, .ref mm), (3, .int (nZ ↑b))]) hX hB dX7_digest_220 rfl hl (by decide) rfl (fun ls hl => ?_)
                  refine lv_iconst (v := nZ 0) hX hB dX7_digest_221 rfl ?_
                  refine lv_istore_n (lv' := [(3, .int (nZ 0)), (1, .long (nL ((31 * ((31 * ((31 * ((31 * ((31 * h3) + (zw32 (best3 (leadF B 0) (leadF B 1) (leadF B 2))))) + ((zShare (chalksB B)).toInt64.toInt))) + (zw32 0))) + (zw32 0))) + (zw32 vty)))), (0, .ref mm)]) hX hB dX7_digest_222 rfl hl (by decide) rfl (fun ls hl => ?_)
                  refine zLoop (σ := Nat × Int) (fun (x : Nat × Int) (H : Heap) (locs : List Loc) (ls : Array Slot) => match x with | (i, hh) => (i ≤ T.length) ∧ (textH (31 * (31 * (31 * hm h3 (bestB B) + bitsB B) + kp 0) + kp 1) T = hashL hh (T.drop i)) ∧ va_P D vwCl [(mm, .inr (7, [.ref ms, .int (nZ vsv), .ref mk, .ref mb, .int (nZ vty), .int (nZ 0), .int (nZ ve2_145), .int (nZ vsp), .int (nZ vla), .int (nZ vpc)])), (ms, .inl (k 0, 900, .inl (zA s2_145))), (mk, .inl (k 1, 2, .inl (zA kp))), (mb, .inl (k 2, 60, .inl (zA bf)))] H ∧ va_D A [(mm, .inr (7, [.ref ms, .int (nZ vsv), .ref mk, .ref mb, .int (nZ vty), .int (nZ 0), .int (nZ ve2_145), .int (nZ vsp), .int (nZ vla), .int (nZ vpc)])), (ms, .inl (k 0, 900, .inl (zA s2_145))), (mk, .inl (k 1, 2, .inl (zA kp))), (mb, .inl (k 2, 60, .inl (zA bf)))] ∧ va_S A s9.heap H locs ∧ lv_has ls 5 [(0, .ref mm), (1, .long (nL hh)), (3, .int (nZ ↑i))]) (fun (x : Nat × Int) => match x with | (i, hh) => T.length - i) ?_ (0, ((31 * ((31 * ((31 * ((31 * ((31 * h3) + (zw32 (best3 (leadF B 0) (leadF B 1) (leadF B 2))))) + ((zShare (chalksB B)).toInt64.toInt))) + (zw32 0))) + (zw32 0))) + (zw32 vty))) ⟨(by exact Nat.zero_le _), (by exact dig7_0 (by first | (rw [show kp 0 = 0 by omega]; rfl) | (rw [show kp 0 = 1 by omega]; rfl)) (by first | (rw [show kp 1 = 0 by omega]; rfl) | (rw [show kp 1 = 1 by omega]; rfl)) hn9), hP, hD, hS, (lv_sub hl [2, 1, 0] rfl)⟩
                  rintro ⟨i, hh⟩ H locs ls ⟨hi, hq5, hP, hD, hS, hl⟩ ih_223
                  refine lv_iload_n hX hB dX7_digest_223 rfl (lv_at hl 2 rfl) ?_
                  refine lv_aload_n hX hB dX7_digest_224 rfl (lv_at hl 0 rfl) ?_
                  refine va_get hX hB hz inlX7 hW hK.1 hP 0 rfl rfl 4 (by decide) (hz _ zw_372) (fun _ h9 => h9) rfl dX7_digest_225 ?_
                  refine zz_icmp_ge X (tgt := 251) dX7_digest_228 (by decide) ⟨by omega, by omega⟩ ⟨by omega, by omega⟩ (fun c_228 => ?_) (fun c_228 => ?_)
                  · refine lv_lload_n hX hB dX7_digest_251 rfl (lv_at hl 1 rfl) ?_
                    exact zRetL (s2_145, ve2_145) X hP hD hS rfl ⟨congrArg nL (by unfold digB; rw [← hq8, hq5, List.drop_eq_nil_of_le (by omega)]; rfl), (by assumption)⟩ dX7_digest_252
                  · have hx0 := hT.at (by omega : i < T.length)
                    refine lv_ldc2 (v := nL 31) hX hB hW (hz _ zw_708) dX7_digest_231 ?_
                    refine lv_lload_n hX hB dX7_digest_234 rfl (lv_at hl 1 rfl) ?_
                    refine zz_lmul X dX7_digest_235 ?_
                    refine lv_aload_n hX hB dX7_digest_236 rfl (lv_at hl 0 rfl) ?_
                    refine va_get hX hB hz inlX7 hW hK.1 hP 0 rfl rfl 3 (by decide) (hz _ zw_78) (fun _ h9 => h9) rfl dX7_digest_237 ?_
                    refine lv_iload_n hX hB dX7_digest_240 rfl (lv_at hl 2 rfl) ?_
                    refine zz_cald X hP 3 2 rfl rfl i (by omega) (by omega) (by first | decide | omega) dX7_digest_241 ?_
                    refine lv_i2l (v := nL (zw32 (bf i))) hX hB dX7_digest_242 (zi2l _) ?_
                    refine zz_ladd X dX7_digest_243 ?_
                    refine lv_lstore_n (lv' := [(1, .long (nL ((31 * hh) + (zw32 (bf i))))), (0, .ref mm), (3, .int (nZ ↑i))]) hX hB dX7_digest_244 rfl hl (by decide) rfl (fun ls hl => ?_)
                    refine lv_iinc (v := nZ (↑(i + 1) : Int)) (lv' := [(3, .int (nZ (↑(i + 1) : Int))), (1, .long (nL ((31 * hh) + (zw32 (bf i))))), (0, .ref mm)]) hX hB dX7_digest_245 hl (k := 2) rfl (zinc (by omega)) (by decide) rfl (fun ls hl => ?_)
                    refine lv_goto (tgt := 223) hX hB dX7_digest_248 (by decide) ?_
                    exact ih_223 ((i + 1), ((31 * hh) + (zw32 (bf i)))) _ _ _ ⟨(by first | omega | assumption | rfl), (by rw [hq5, hashL_step (by omega), ← hx0.1]; rfl), hP, hD, hS, (lv_sub hl [2, 1, 0] rfl)⟩ (by dsimp only; omega)
                · refine lv_iconst (v := nZ 1) hX hB dX7_digest_201 rfl ?_
                  refine lv_goto (tgt := 206) hX hB dX7_digest_202 (by decide) ?_
                  refine lv_i2l (v := nL (zw32 1)) hX hB dX7_digest_206 (zi2l _) ?_
                  refine zz_ladd X dX7_digest_207 ?_
                  refine lv_lstore_n (lv' := [(1, .long (nL ((31 * ((31 * ((31 * ((31 * h3) + (zw32 (best3 (leadF B 0) (leadF B 1) (leadF B 2))))) + ((zShare (chalksB B)).toInt64.toInt))) + (zw32 0))) + (zw32 1)))), (0, .ref mm), (3, .int (nZ ↑b))]) hX hB dX7_digest_208 rfl hl (by decide) rfl (fun ls hl => ?_)
                  refine lv_ldc2 (v := nL 31) hX hB hW (hz _ zw_708) dX7_digest_209 ?_
                  refine lv_lload_n hX hB dX7_digest_212 rfl (lv_at hl 0 rfl) ?_
                  refine zz_lmul X dX7_digest_213 ?_
                  refine lv_aload_n hX hB dX7_digest_214 rfl (lv_at hl 1 rfl) ?_
                  refine va_get hX hB hz inlX7 hW hK.1 hP 0 rfl rfl 4 (by decide) (hz _ zw_372) (fun _ h9 => h9) rfl dX7_digest_215 ?_
                  refine lv_i2l (v := nL (zw32 vty)) hX hB dX7_digest_218 (zi2l _) ?_
                  refine zz_ladd X dX7_digest_219 ?_
                  refine lv_lstore_n (lv' := [(1, .long (nL ((31 * ((31 * ((31 * ((31 * ((31 * h3) + (zw32 (best3 (leadF B 0) (leadF B 1) (leadF B 2))))) + ((zShare (chalksB B)).toInt64.toInt))) + (zw32 0))) + (zw32 1))) + (zw32 vty)))), (0, .ref mm), (3, .int (nZ ↑b))]) hX hB dX7_digest_220 rfl hl (by decide) rfl (fun ls hl => ?_)
                  refine lv_iconst (v := nZ 0) hX hB dX7_digest_221 rfl ?_
                  refine lv_istore_n (lv' := [(3, .int (nZ 0)), (1, .long (nL ((31 * ((31 * ((31 * ((31 * ((31 * h3) + (zw32 (best3 (leadF B 0) (leadF B 1) (leadF B 2))))) + ((zShare (chalksB B)).toInt64.toInt))) + (zw32 0))) + (zw32 1))) + (zw32 vty)))), (0, .ref mm)]) hX hB dX7_digest_222 rfl hl (by decide) rfl (fun ls hl => ?_)
                  refine zLoop (σ := Nat × Int) (fun (x : Nat × Int) (H : Heap) (locs : List Loc) (ls : Array Slot) => match x with | (i, hh) => (i ≤ T.length) ∧ (textH (31 * (31 * (31 * hm h3 (bestB B) + bitsB B) + kp 0) + kp 1) T = hashL hh (T.drop i)) ∧ va_P D vwCl [(mm, .inr (7, [.ref ms, .int (nZ vsv), .ref mk, .ref mb, .int (nZ vty), .int (nZ 0), .int (nZ ve2_145), .int (nZ vsp), .int (nZ vla), .int (nZ vpc)])), (ms, .inl (k 0, 900, .inl (zA s2_145))), (mk, .inl (k 1, 2, .inl (zA kp))), (mb, .inl (k 2, 60, .inl (zA bf)))] H ∧ va_D A [(mm, .inr (7, [.ref ms, .int (nZ vsv), .ref mk, .ref mb, .int (nZ vty), .int (nZ 0), .int (nZ ve2_145), .int (nZ vsp), .int (nZ vla), .int (nZ vpc)])), (ms, .inl (k 0, 900, .inl (zA s2_145))), (mk, .inl (k 1, 2, .inl (zA kp))), (mb, .inl (k 2, 60, .inl (zA bf)))] ∧ va_S A s9.heap H locs ∧ lv_has ls 5 [(0, .ref mm), (1, .long (nL hh)), (3, .int (nZ ↑i))]) (fun (x : Nat × Int) => match x with | (i, hh) => T.length - i) ?_ (0, ((31 * ((31 * ((31 * ((31 * ((31 * h3) + (zw32 (best3 (leadF B 0) (leadF B 1) (leadF B 2))))) + ((zShare (chalksB B)).toInt64.toInt))) + (zw32 0))) + (zw32 1))) + (zw32 vty))) ⟨(by exact Nat.zero_le _), (by exact dig7_0 (by first | (rw [show kp 0 = 0 by omega]; rfl) | (rw [show kp 0 = 1 by omega]; rfl)) (by first | (rw [show kp 1 = 0 by omega]; rfl) | (rw [show kp 1 = 1 by omega]; rfl)) hn9), hP, hD, hS, (lv_sub hl [2, 1, 0] rfl)⟩
                  rintro ⟨i, hh⟩ H locs ls ⟨hi, hq5, hP, hD, hS, hl⟩ ih_223
                  refine lv_iload_n hX hB dX7_digest_223 rfl (lv_at hl 2 rfl) ?_
                  refine lv_aload_n hX hB dX7_digest_224 rfl (lv_at hl 0 rfl) ?_
                  refine va_get hX hB hz inlX7 hW hK.1 hP 0 rfl rfl 4 (by decide) (hz _ zw_372) (fun _ h9 => h9) rfl dX7_digest_225 ?_
                  refine zz_icmp_ge X (tgt := 251) dX7_digest_228 (by decide) ⟨by omega, by omega⟩ ⟨by omega, by omega⟩ (fun c_228 => ?_) (fun c_228 => ?_)
                  · refine lv_lload_n hX hB dX7_digest_251 rfl (lv_at hl 1 rfl) ?_
                    exact zRetL (s2_145, ve2_145) X hP hD hS rfl ⟨congrArg nL (by unfold digB; rw [← hq8, hq5, List.drop_eq_nil_of_le (by omega)]; rfl), (by assumption)⟩ dX7_digest_252
                  · have hx0 := hT.at (by omega : i < T.length)
                    refine lv_ldc2 (v := nL 31) hX hB hW (hz _ zw_708) dX7_digest_231 ?_
                    refine lv_lload_n hX hB dX7_digest_234 rfl (lv_at hl 1 rfl) ?_
                    refine zz_lmul X dX7_digest_235 ?_
                    refine lv_aload_n hX hB dX7_digest_236 rfl (lv_at hl 0 rfl) ?_
                    refine va_get hX hB hz inlX7 hW hK.1 hP 0 rfl rfl 3 (by decide) (hz _ zw_78) (fun _ h9 => h9) rfl dX7_digest_237 ?_
                    refine lv_iload_n hX hB dX7_digest_240 rfl (lv_at hl 2 rfl) ?_
                    refine zz_cald X hP 3 2 rfl rfl i (by omega) (by omega) (by first | decide | omega) dX7_digest_241 ?_
                    refine lv_i2l (v := nL (zw32 (bf i))) hX hB dX7_digest_242 (zi2l _) ?_
                    refine zz_ladd X dX7_digest_243 ?_
                    refine lv_lstore_n (lv' := [(1, .long (nL ((31 * hh) + (zw32 (bf i))))), (0, .ref mm), (3, .int (nZ ↑i))]) hX hB dX7_digest_244 rfl hl (by decide) rfl (fun ls hl => ?_)
                    refine lv_iinc (v := nZ (↑(i + 1) : Int)) (lv' := [(3, .int (nZ (↑(i + 1) : Int))), (1, .long (nL ((31 * hh) + (zw32 (bf i))))), (0, .ref mm)]) hX hB dX7_digest_245 hl (k := 2) rfl (zinc (by omega)) (by decide) rfl (fun ls hl => ?_)
                    refine lv_goto (tgt := 223) hX hB dX7_digest_248 (by decide) ?_
                    exact ih_223 ((i + 1), ((31 * hh) + (zw32 (bf i)))) _ _ _ ⟨(by first | omega | assumption | rfl), (by rw [hq5, hashL_step (by omega), ← hx0.1]; rfl), hP, hD, hS, (lv_sub hl [2, 1, 0] rfl)⟩ (by dsimp only; omega)
              · refine lv_iconst (v := nZ 1) hX hB dX7_digest_179 rfl ?_
                refine lv_goto (tgt := 184) hX hB dX7_digest_180 (by decide) ?_
                refine lv_i2l (v := nL (zw32 1)) hX hB dX7_digest_184 (zi2l _) ?_
                refine zz_ladd X dX7_digest_185 ?_
                refine lv_lstore_n (lv' := [(1, .long (nL ((31 * ((31 * ((31 * h3) + (zw32 (best3 (leadF B 0) (leadF B 1) (leadF B 2))))) + ((zShare (chalksB B)).toInt64.toInt))) + (zw32 1)))), (0, .ref mm), (3, .int (nZ ↑b))]) hX hB dX7_digest_186 rfl hl (by decide) rfl (fun ls hl => ?_)
                refine lv_ldc2 (v := nL 31) hX hB hW (hz _ zw_708) dX7_digest_187 ?_
                refine lv_lload_n hX hB dX7_digest_190 rfl (lv_at hl 0 rfl) ?_
                refine zz_lmul X dX7_digest_191 ?_
                refine lv_aload_n hX hB dX7_digest_192 rfl (lv_at hl 1 rfl) ?_
                refine va_get hX hB hz inlX7 hW hK.1 hP 0 rfl rfl 2 (by decide) (hz _ zw_76) (fun _ h9 => h9) rfl dX7_digest_193 ?_
                refine lv_iconst (v := nZ 1) hX hB dX7_digest_196 rfl ?_
                refine zz_zald X hP 2 1 rfl rfl 1 (by omega) (by omega) (by first | decide | omega) dX7_digest_197 ?_
                refine zz_if_eq X (tgt := 205) dX7_digest_198 (by decide) ⟨by omega, by omega⟩ (fun c_198 => ?_) (fun c_198 => ?_)
                · refine lv_iconst (v := nZ 0) hX hB dX7_digest_205 rfl ?_
                  refine lv_i2l (v := nL (zw32 0)) hX hB dX7_digest_206 (zi2l _) ?_
                  refine zz_ladd X dX7_digest_207 ?_
                  refine lv_lstore_n (lv' := [(1, .long (nL ((31 * ((31 * ((31 * ((31 * h3) + (zw32 (best3 (leadF B 0) (leadF B 1) (leadF B 2))))) + ((zShare (chalksB B)).toInt64.toInt))) + (zw32 1))) + (zw32 0)))), (0, .ref mm), (3, .int (nZ ↑b))]) hX hB dX7_digest_208 rfl hl (by decide) rfl (fun ls hl => ?_)
                  refine lv_ldc2 (v := nL 31) hX hB hW (hz _ zw_708) dX7_digest_209 ?_
                  refine lv_lload_n hX hB dX7_digest_212 rfl (lv_at hl 0 rfl) ?_
                  refine zz_lmul X dX7_digest_213 ?_
                  refine lv_aload_n hX hB dX7_digest_214 rfl (lv_at hl 1 rfl) ?_
                  refine va_get hX hB hz inlX7 hW hK.1 hP 0 rfl rfl 4 (by decide) (hz _ zw_372) (fun _ h9 => h9) rfl dX7_digest_215 ?_
                  refine lv_i2l (v := nL (zw32 vty)) hX hB dX7_digest_218 (zi2l _) ?_
                  refine zz_ladd X dX7_digest_219 ?_
                  refine lv_lstore_n (lv' := [(1, .long (nL ((31 * ((31 * ((31 * ((31 * ((31 * h3) + (zw32 (best3 (leadF B 0) (leadF B 1) (leadF B 2))))) + ((zShare (chalksB B)).toInt64.toInt))) + (zw32 1))) + (zw32 0))) + (zw32 vty)))), (0, .ref mm), (3, .int (nZ ↑b))]) hX hB dX7_digest_220 rfl hl (by decide) rfl (fun ls hl => ?_)
                  refine lv_iconst (v := nZ 0) hX hB dX7_digest_221 rfl ?_
                  refine lv_istore_n (lv' := [(3, .int (nZ 0)), (1, .long (nL ((31 * ((31 * ((31 * ((31 * ((31 * h3) + (zw32 (best3 (leadF B 0) (leadF B 1) (leadF B 2))))) + ((zShare (chalksB B)).toInt64.toInt))) + (zw32 1))) + (zw32 0))) + (zw32 vty)))), (0, .ref mm)]) hX hB dX7_digest_222 rfl hl (by decide) rfl (fun ls hl => ?_)
                  refine zLoop (σ := Nat × Int) (fun (x : Nat × Int) (H : Heap) (locs : List Loc) (ls : Array Slot) => match x with | (i, hh) => (i ≤ T.length) ∧ (textH (31 * (31 * (31 * hm h3 (bestB B) + bitsB B) + kp 0) + kp 1) T = hashL hh (T.drop i)) ∧ va_P D vwCl [(mm, .inr (7, [.ref ms, .int (nZ vsv), .ref mk, .ref mb, .int (nZ vty), .int (nZ 0), .int (nZ ve2_145), .int (nZ vsp), .int (nZ vla), .int (nZ vpc)])), (ms, .inl (k 0, 900, .inl (zA s2_145))), (mk, .inl (k 1, 2, .inl (zA kp))), (mb, .inl (k 2, 60, .inl (zA bf)))] H ∧ va_D A [(mm, .inr (7, [.ref ms, .int (nZ vsv), .ref mk, .ref mb, .int (nZ vty), .int (nZ 0), .int (nZ ve2_145), .int (nZ vsp), .int (nZ vla), .int (nZ vpc)])), (ms, .inl (k 0, 900, .inl (zA s2_145))), (mk, .inl (k 1, 2, .inl (zA kp))), (mb, .inl (k 2, 60, .inl (zA bf)))] ∧ va_S A s9.heap H locs ∧ lv_has ls 5 [(0, .ref mm), (1, .long (nL hh)), (3, .int (nZ ↑i))]) (fun (x : Nat × Int) => match x with | (i, hh) => T.length - i) ?_ (0, ((31 * ((31 * ((31 * ((31 * ((31 * h3) + (zw32 (best3 (leadF B 0) (leadF B 1) (leadF B 2))))) + ((zShare (chalksB B)).toInt64.toInt))) + (zw32 1))) + (zw32 0))) + (zw32 vty))) ⟨(by exact Nat.zero_le _), (by exact dig7_0 (by first | (rw [show kp 0 = 0 by omega]; rfl) | (rw [show kp 0 = 1 by omega]; rfl)) (by first | (rw [show kp 1 = 0 by omega]; rfl) | (rw [show kp 1 = 1 by omega]; rfl)) hn9), hP, hD, hS, (lv_sub hl [2, 1, 0] rfl)⟩
                  rintro ⟨i, hh⟩ H locs ls ⟨hi, hq5, hP, hD, hS, hl⟩ ih_223
                  refine lv_iload_n hX hB dX7_digest_223 rfl (lv_at hl 2 rfl) ?_
                  refine lv_aload_n hX hB dX7_digest_224 rfl (lv_at hl 0 rfl) ?_
                  refine va_get hX hB hz inlX7 hW hK.1 hP 0 rfl rfl 4 (by decide) (hz _ zw_372) (fun _ h9 => h9) rfl dX7_digest_225 ?_
                  refine zz_icmp_ge X (tgt := 251) dX7_digest_228 (by decide) ⟨by omega, by omega⟩ ⟨by omega, by omega⟩ (fun c_228 => ?_) (fun c_228 => ?_)
                  · refine lv_lload_n hX hB dX7_digest_251 rfl (lv_at hl 1 rfl) ?_
                    exact zRetL (s2_145, ve2_145) X hP hD hS rfl ⟨congrArg nL (by unfold digB; rw [← hq8, hq5, List.drop_eq_nil_of_le (by omega)]; rfl), (by assumption)⟩ dX7_digest_252
                  · have hx0 := hT.at (by omega : i < T.length)
                    refine lv_ldc2 (v := nL 31) hX hB hW (hz _ zw_708) dX7_digest_231 ?_
                    refine lv_lload_n hX hB dX7_digest_234 rfl (lv_at hl 1 rfl) ?_
                    refine zz_lmul X dX7_digest_235 ?_
                    refine lv_aload_n hX hB dX7_digest_236 rfl (lv_at hl 0 rfl) ?_
                    refine va_get hX hB hz inlX7 hW hK.1 hP 0 rfl rfl 3 (by decide) (hz _ zw_78) (fun _ h9 => h9) rfl dX7_digest_237 ?_
                    refine lv_iload_n hX hB dX7_digest_240 rfl (lv_at hl 2 rfl) ?_
                    refine zz_cald X hP 3 2 rfl rfl i (by omega) (by omega) (by first | decide | omega) dX7_digest_241 ?_
                    refine lv_i2l (v := nL (zw32 (bf i))) hX hB dX7_digest_242 (zi2l _) ?_
                    refine zz_ladd X dX7_digest_243 ?_
                    refine lv_lstore_n (lv' := [(1, .long (nL ((31 * hh) + (zw32 (bf i))))), (0, .ref mm), (3, .int (nZ ↑i))]) hX hB dX7_digest_244 rfl hl (by decide) rfl (fun ls hl => ?_)
                    refine lv_iinc (v := nZ (↑(i + 1) : Int)) (lv' := [(3, .int (nZ (↑(i + 1) : Int))), (1, .long (nL ((31 * hh) + (zw32 (bf i))))), (0, .ref mm)]) hX hB dX7_digest_245 hl (k := 2) rfl (zinc (by omega)) (by decide) rfl (fun ls hl => ?_)
                    refine lv_goto (tgt := 223) hX hB dX7_digest_248 (by decide) ?_
                    exact ih_223 ((i + 1), ((31 * hh) + (zw32 (bf i)))) _ _ _ ⟨(by first | omega | assumption | rfl), (by rw [hq5, hashL_step (by omega), ← hx0.1]; rfl), hP, hD, hS, (lv_sub hl [2, 1, 0] rfl)⟩ (by dsimp only; omega)
                · refine lv_iconst (v := nZ 1) hX hB dX7_digest_201 rfl ?_
                  refine lv_goto (tgt := 206) hX hB dX7_digest_202 (by decide) ?_
                  refine lv_i2l (v := nL (zw32 1)) hX hB dX7_digest_206 (zi2l _) ?_
                  refine zz_ladd X dX7_digest_207 ?_
                  refine lv_lstore_n (lv' := [(1, .long (nL ((31 * ((31 * ((31 * ((31 * h3) + (zw32 (best3 (leadF B 0) (leadF B 1) (leadF B 2))))) + ((zShare (chalksB B)).toInt64.toInt))) + (zw32 1))) + (zw32 1)))), (0, .ref mm), (3, .int (nZ ↑b))]) hX hB dX7_digest_208 rfl hl (by decide) rfl (fun ls hl => ?_)
                  refine lv_ldc2 (v := nL 31) hX hB hW (hz _ zw_708) dX7_digest_209 ?_
                  refine lv_lload_n hX hB dX7_digest_212 rfl (lv_at hl 0 rfl) ?_
                  refine zz_lmul X dX7_digest_213 ?_
                  refine lv_aload_n hX hB dX7_digest_214 rfl (lv_at hl 1 rfl) ?_
                  refine va_get hX hB hz inlX7 hW hK.1 hP 0 rfl rfl 4 (by decide) (hz _ zw_372) (fun _ h9 => h9) rfl dX7_digest_215 ?_
                  refine lv_i2l (v := nL (zw32 vty)) hX hB dX7_digest_218 (zi2l _) ?_
                  refine zz_ladd X dX7_digest_219 ?_
                  refine lv_lstore_n (lv' := [(1, .long (nL ((31 * ((31 * ((31 * ((31 * ((31 * h3) + (zw32 (best3 (leadF B 0) (leadF B 1) (leadF B 2))))) + ((zShare (chalksB B)).toInt64.toInt))) + (zw32 1))) + (zw32 1))) + (zw32 vty)))), (0, .ref mm), (3, .int (nZ ↑b))]) hX hB dX7_digest_220 rfl hl (by decide) rfl (fun ls hl => ?_)
                  refine lv_iconst (v := nZ 0) hX hB dX7_digest_221 rfl ?_
                  refine lv_istore_n (lv' := [(3, .int (nZ 0)), (1, .long (nL ((31 * ((31 * ((31 * ((31 * ((31 * h3) + (zw32 (best3 (leadF B 0) (leadF B 1) (leadF B 2))))) + ((zShare (chalksB B)).toInt64.toInt))) + (zw32 1))) + (zw32 1))) + (zw32 vty)))), (0, .ref mm)]) hX hB dX7_digest_222 rfl hl (by decide) rfl (fun ls hl => ?_)
                  refine zLoop (σ := Nat × Int) (fun (x : Nat × Int) (H : Heap) (locs : List Loc) (ls : Array Slot) => match x with | (i, hh) => (i ≤ T.length) ∧ (textH (31 * (31 * (31 * hm h3 (bestB B) + bitsB B) + kp 0) + kp 1) T = hashL hh (T.drop i)) ∧ va_P D vwCl [(mm, .inr (7, [.ref ms, .int (nZ vsv), .ref mk, .ref mb, .int (nZ vty), .int (nZ 0), .int (nZ ve2_145), .int (nZ vsp), .int (nZ vla), .int (nZ vpc)])), (ms, .inl (k 0, 900, .inl (zA s2_145))), (mk, .inl (k 1, 2, .inl (zA kp))), (mb, .inl (k 2, 60, .inl (zA bf)))] H ∧ va_D A [(mm, .inr (7, [.ref ms, .int (nZ vsv), .ref mk, .ref mb, .int (nZ vty), .int (nZ 0), .int (nZ ve2_145), .int (nZ vsp), .int (nZ vla), .int (nZ vpc)])), (ms, .inl (k 0, 900, .inl (zA s2_145))), (mk, .inl (k 1, 2, .inl (zA kp))), (mb, .inl (k 2, 60, .inl (zA bf)))] ∧ va_S A s9.heap H locs ∧ lv_has ls 5 [(0, .ref mm), (1, .long (nL hh)), (3, .int (nZ ↑i))]) (fun (x : Nat × Int) => match x with | (i, hh) => T.length - i) ?_ (0, ((31 * ((31 * ((31 * ((31 * ((31 * h3) + (zw32 (best3 (leadF B 0) (leadF B 1) (leadF B 2))))) + ((zShare (chalksB B)).toInt64.toInt))) + (zw32 1))) + (zw32 1))) + (zw32 vty))) ⟨(by exact Nat.zero_le _), (by exact dig7_0 (by first | (rw [show kp 0 = 0 by omega]; rfl) | (rw [show kp 0 = 1 by omega]; rfl)) (by first | (rw [show kp 1 = 0 by omega]; rfl) | (rw [show kp 1 = 1 by omega]; rfl)) hn9), hP, hD, hS, (lv_sub hl [2, 1, 0] rfl)⟩
                  rintro ⟨i, hh⟩ H locs ls ⟨hi, hq5, hP, hD, hS, hl⟩ ih_223
                  refine lv_iload_n hX hB dX7_digest_223 rfl (lv_at hl 2 rfl) ?_
                  refine lv_aload_n hX hB dX7_digest_224 rfl (lv_at hl 0 rfl) ?_
                  refine va_get hX hB hz inlX7 hW hK.1 hP 0 rfl rfl 4 (by decide) (hz _ zw_372) (fun _ h9 => h9) rfl dX7_digest_225 ?_
                  refine zz_icmp_ge X (tgt := 251) dX7_digest_228 (by decide) ⟨by omega, by omega⟩ ⟨by omega, by omega⟩ (fun c_228 => ?_) (fun c_228 => ?_)
                  · refine lv_lload_n hX hB dX7_digest_251 rfl (lv_at hl 1 rfl) ?_
                    exact zRetL (s2_145, ve2_145) X hP hD hS rfl ⟨congrArg nL (by unfold digB; rw [← hq8, hq5, List.drop_eq_nil_of_le (by omega)]; rfl), (by assumption)⟩ dX7_digest_252
                  · have hx0 := hT.at (by omega : i < T.length)
                    refine lv_ldc2 (v := nL 31) hX hB hW (hz _ zw_708) dX7_digest_231 ?_
                    refine lv_lload_n hX hB dX7_digest_234 rfl (lv_at hl 1 rfl) ?_
                    refine zz_lmul X dX7_digest_235 ?_
                    refine lv_aload_n hX hB dX7_digest_236 rfl (lv_at hl 0 rfl) ?_
                    refine va_get hX hB hz inlX7 hW hK.1 hP 0 rfl rfl 3 (by decide) (hz _ zw_78) (fun _ h9 => h9) rfl dX7_digest_237 ?_
                    refine lv_iload_n hX hB dX7_digest_240 rfl (lv_at hl 2 rfl) ?_
                    refine zz_cald X hP 3 2 rfl rfl i (by omega) (by omega) (by first | decide | omega) dX7_digest_241 ?_
                    refine lv_i2l (v := nL (zw32 (bf i))) hX hB dX7_digest_242 (zi2l _) ?_
                    refine zz_ladd X dX7_digest_243 ?_
                    refine lv_lstore_n (lv' := [(1, .long (nL ((31 * hh) + (zw32 (bf i))))), (0, .ref mm), (3, .int (nZ ↑i))]) hX hB dX7_digest_244 rfl hl (by decide) rfl (fun ls hl => ?_)
                    refine lv_iinc (v := nZ (↑(i + 1) : Int)) (lv' := [(3, .int (nZ (↑(i + 1) : Int))), (1, .long (nL ((31 * hh) + (zw32 (bf i))))), (0, .ref mm)]) hX hB dX7_digest_245 hl (k := 2) rfl (zinc (by omega)) (by decide) rfl (fun ls hl => ?_)
                    refine lv_goto (tgt := 223) hX hB dX7_digest_248 (by decide) ?_
                    exact ih_223 ((i + 1), ((31 * hh) + (zw32 (bf i)))) _ _ _ ⟨(by first | omega | assumption | rfl), (by rw [hq5, hashL_step (by omega), ← hx0.1]; rfl), hP, hD, hS, (lv_sub hl [2, 1, 0] rfl)⟩ (by dsimp only; omega)
            · refine lv_iconst (v := nZ 0) hX hB dX7_digest_73 rfl ?_
              refine lv_istore (lv' := [(4, .int (nZ 0)), (0, .ref mm), (1, .long (nL h3)), (3, .int (nZ ↑b))]) hX hB dX7_digest_74 hl (by decide) rfl (fun ls hl => ?_)
              refine zLoop (σ := Nat × Int) (fun (x : Nat × Int) (H : Heap) (locs : List Loc) (ls : Array Slot) => match x with | (w, h4) => (w ≤ 5) ∧ (h4 = foldH (fun w => bedOfS (chB B) (B.1 1) ↑b (cleanB B ↑b) ↑w) h3 w) ∧ va_P D vwCl [(mm, .inr (7, [.ref ms, .int (nZ vsv), .ref mk, .ref mb, .int (nZ vty), .int (nZ vth), .int (nZ ve), .int (nZ vsp), .int (nZ vla), .int (nZ vpc)])), (ms, .inl (k 0, 900, .inl (zA q))), (mk, .inl (k 1, 2, .inl (zA kp))), (mb, .inl (k 2, 60, .inl (zA bf)))] H ∧ va_D A [(mm, .inr (7, [.ref ms, .int (nZ vsv), .ref mk, .ref mb, .int (nZ vty), .int (nZ vth), .int (nZ ve), .int (nZ vsp), .int (nZ vla), .int (nZ vpc)])), (ms, .inl (k 0, 900, .inl (zA q))), (mk, .inl (k 1, 2, .inl (zA kp))), (mb, .inl (k 2, 60, .inl (zA bf)))] ∧ va_S A s9.heap H locs ∧ lv_has ls 5 [(0, .ref mm), (1, .long (nL h4)), (3, .int (nZ ↑b)), (4, .int (nZ ↑w))]) (fun (x : Nat × Int) => match x with | (w, h4) => 5 - w) ?_ (0, h3) ⟨(by first | omega | assumption | rfl), (by rfl), hP, hD, hS, (lv_sub hl [1, 2, 3, 0] rfl)⟩
              rintro ⟨w, h4⟩ H locs ls ⟨hw, hq4, hP, hD, hS, hl⟩ ih_76
              refine lv_iload hX hB dX7_digest_76 (lv_at hl 3 rfl) ?_
              refine lv_iconst (v := nZ 5) hX hB dX7_digest_78 rfl ?_
              refine zz_icmp_ge X (tgt := 103) dX7_digest_79 (by decide) ⟨by omega, by omega⟩ ⟨by omega, by omega⟩ (fun c_79 => ?_) (fun c_79 => ?_)
              · refine lv_iconst (v := nZ 0) hX hB dX7_digest_103 rfl ?_
                refine lv_istore (lv' := [(4, .int (nZ 0)), (0, .ref mm), (1, .long (nL h4)), (3, .int (nZ ↑b))]) hX hB dX7_digest_104 hl (by decide) rfl (fun ls hl => ?_)
                refine lv_iload hX hB dX7_digest_106 (lv_at hl 0 rfl) ?_
                refine lv_iconst (v := nZ 3) hX hB dX7_digest_108 rfl ?_
                refine zz_icmp_ge X (tgt := 133) dX7_digest_109 (by decide) ⟨by omega, by omega⟩ ⟨by omega, by omega⟩ (fun c_109 => ?_) (fun c_109 => ?_)
                · exfalso; omega
                · refine lv_ldc2 (v := nL 31) hX hB hW (hz _ zw_708) dX7_digest_112 ?_
                  refine lv_lload_n hX hB dX7_digest_115 rfl (lv_at hl 2 rfl) ?_
                  refine zz_lmul X dX7_digest_116 ?_
                  refine lv_aload_n hX hB dX7_digest_117 rfl (lv_at hl 1 rfl) ?_
                  refine lv_iload hX hB dX7_digest_118 (lv_at hl 0 rfl) ?_
                  refine lv_iload_n hX hB dX7_digest_120 rfl (lv_at hl 3 rfl) ?_
                  refine zCallI0 (zRunV (As := [.int (nZ 0), .int (nZ ↑b)]) X mv_X7_leastStrength (c_X7_leastStrength l D k _ mm ms mk mb vsv vty vth ve vsp vla vpc q 0 B ↑b hqk (by first | assumption | omega | exact ⟨by omega, by omega⟩) hC0 hcost (by first | assumption | omega | exact ⟨by omega, by omega⟩)) zw_628 (zPreV hP hD hK [0, 1] rfl rfl 0 7 rfl rfl rfl) rfl hl (Nat.le_of_ble_eq_true rfl) dX7_digest_121 ⟨rfl, rfl, ⟨Nat.le_of_ble_eq_true rfl, Nat.le_of_ble_eq_true rfl⟩, Nat.le_of_ble_eq_true rfl, Nat.le_of_ble_eq_true rfl⟩ rfl) hS hP hD hA [0, 1] rfl (fun _ => rfl) (fun r_121 u_121 H locs hq_121 hP hD hS => ?_)
                  obtain ⟨s2_121, ve2_121⟩ := u_121
                  obtain ⟨rfl, hf2_121⟩ := hq_121
                  try dsimp only at hf2_121
                  have hP : va_P D vwCl [(mm, .inr (7, [.ref ms, .int (nZ vsv), .ref mk, .ref mb, .int (nZ vty), .int (nZ vth), .int (nZ ve2_121), .int (nZ vsp), .int (nZ vla), .int (nZ vpc)])), (ms, .inl (k 0, 900, .inl (zA s2_121))), (mk, .inl (k 1, 2, .inl (zA kp))), (mb, .inl (k 2, 60, .inl (zA bf)))] H := hP
                  have hD : va_D A [(mm, .inr (7, [.ref ms, .int (nZ vsv), .ref mk, .ref mb, .int (nZ vty), .int (nZ vth), .int (nZ ve2_121), .int (nZ vsp), .int (nZ vla), .int (nZ vpc)])), (ms, .inl (k 0, 900, .inl (zA s2_121))), (mk, .inl (k 1, 2, .inl (zA kp))), (mb, .inl (k 2, 60, .inl (zA bf)))] := hD
                  have hzs2_121 : blkOk s2_121 0 B := hqk.other hf2_121 (by omega)
                  have hys2_121 : frOk s s2_121 810 := hqf.trans hf2_121
                  refine lv_i2l (v := nL (zw32 (strS (B.1 0) (B.2 0) (↑b : Int)))) hX hB dX7_digest_124 (zi2l _) ?_
                  refine zz_ladd X dX7_digest_125 ?_
                  refine lv_lstore_n (lv' := [(1, .long (nL ((31 * h4) + (zw32 (strS (B.1 0) (B.2 0) (↑b : Int)))))), (4, .int (nZ 0)), (0, .ref mm), (3, .int (nZ ↑b))]) hX hB dX7_digest_126 rfl hl (by decide) rfl (fun ls hl => ?_)
                  refine lv_iinc (v := nZ 1) (lv' := [(4, .int (nZ 1)), (1, .long (nL ((31 * h4) + (zw32 (strS (B.1 0) (B.2 0) (↑b : Int)))))), (0, .ref mm), (3, .int (nZ ↑b))]) hX hB dX7_digest_127 hl (k := 1) rfl (zinc (by omega)) (by decide) rfl (fun ls hl => ?_)
                  refine lv_goto (tgt := 106) hX hB dX7_digest_130 (by decide) ?_
                  refine lv_iload hX hB dX7_digest_106 (lv_at hl 0 rfl) ?_
                  refine lv_iconst (v := nZ 3) hX hB dX7_digest_108 rfl ?_
                  refine zz_icmp_ge X (tgt := 133) dX7_digest_109 (by decide) ⟨by omega, by omega⟩ ⟨by omega, by omega⟩ (fun c_109_2 => ?_) (fun c_109_2 => ?_)
                  · exfalso; omega
                  · refine lv_ldc2 (v := nL 31) hX hB hW (hz _ zw_708) dX7_digest_112 ?_
                    refine lv_lload_n hX hB dX7_digest_115 rfl (lv_at hl 1 rfl) ?_
                    refine zz_lmul X dX7_digest_116 ?_
                    refine lv_aload_n hX hB dX7_digest_117 rfl (lv_at hl 2 rfl) ?_
                    refine lv_iload hX hB dX7_digest_118 (lv_at hl 0 rfl) ?_
                    refine lv_iload_n hX hB dX7_digest_120 rfl (lv_at hl 3 rfl) ?_
                    refine zCallI0 (zRunV (As := [.int (nZ 1), .int (nZ ↑b)]) X mv_X7_leastStrength (c_X7_leastStrength l D k _ mm ms mk mb vsv vty vth ve2_121 vsp vla vpc s2_121 1 B ↑b hzs2_121 (by first | assumption | omega | exact ⟨by omega, by omega⟩) hC1 hcost (by first | assumption | omega | exact ⟨by omega, by omega⟩)) zw_628 (zPreV hP hD hK [0, 1] rfl rfl 0 7 rfl rfl rfl) rfl hl (Nat.le_of_ble_eq_true rfl) dX7_digest_121 ⟨rfl, rfl, ⟨Nat.le_of_ble_eq_true rfl, Nat.le_of_ble_eq_true rfl⟩, Nat.le_of_ble_eq_true rfl, Nat.le_of_ble_eq_true rfl⟩ rfl) hS hP hD hA [0, 1] rfl (fun _ => rfl) (fun r_121_2 u_121_2 H locs hq_121_2 hP hD hS => ?_)
                    obtain ⟨s2_121_2, ve2_121_2⟩ := u_121_2
                    obtain ⟨rfl, hf2_121_2⟩ := hq_121_2
                    try dsimp only at hf2_121_2
                    have hP : va_P D vwCl [(mm, .inr (7, [.ref ms, .int (nZ vsv), .ref mk, .ref mb, .int (nZ vty), .int (nZ vth), .int (nZ ve2_121_2), .int (nZ vsp), .int (nZ vla), .int (nZ vpc)])), (ms, .inl (k 0, 900, .inl (zA s2_121_2))), (mk, .inl (k 1, 2, .inl (zA kp))), (mb, .inl (k 2, 60, .inl (zA bf)))] H := hP
                    have hD : va_D A [(mm, .inr (7, [.ref ms, .int (nZ vsv), .ref mk, .ref mb, .int (nZ vty), .int (nZ vth), .int (nZ ve2_121_2), .int (nZ vsp), .int (nZ vla), .int (nZ vpc)])), (ms, .inl (k 0, 900, .inl (zA s2_121_2))), (mk, .inl (k 1, 2, .inl (zA kp))), (mb, .inl (k 2, 60, .inl (zA bf)))] := hD
                    have hzs2_121_2 : blkOk s2_121_2 0 B := hzs2_121.other hf2_121_2 (by omega)
                    have hys2_121_2 : frOk s s2_121_2 810 := hys2_121.trans hf2_121_2
                    refine lv_i2l (v := nL (zw32 (strS (B.1 0) (B.2 1) (↑b : Int)))) hX hB dX7_digest_124 (zi2l _) ?_
                    refine zz_ladd X dX7_digest_125 ?_
                    refine lv_lstore_n (lv' := [(1, .long (nL ((31 * ((31 * h4) + (zw32 (strS (B.1 0) (B.2 0) (↑b : Int))))) + (zw32 (strS (B.1 0) (B.2 1) (↑b : Int)))))), (4, .int (nZ 1)), (0, .ref mm), (3, .int (nZ ↑b))]) hX hB dX7_digest_126 rfl hl (by decide) rfl (fun ls hl => ?_)
                    refine lv_iinc (v := nZ 2) (lv' := [(4, .int (nZ 2)), (1, .long (nL ((31 * ((31 * h4) + (zw32 (strS (B.1 0) (B.2 0) (↑b : Int))))) + (zw32 (strS (B.1 0) (B.2 1) (↑b : Int)))))), (0, .ref mm), (3, .int (nZ ↑b))]) hX hB dX7_digest_127 hl (k := 1) rfl (zinc (by omega)) (by decide) rfl (fun ls hl => ?_)
                    refine lv_goto (tgt := 106) hX hB dX7_digest_130 (by decide) ?_
                    refine lv_iload hX hB dX7_digest_106 (lv_at hl 0 rfl) ?_
                    refine lv_iconst (v := nZ 3) hX hB dX7_digest_108 rfl ?_
                    refine zz_icmp_ge X (tgt := 133) dX7_digest_109 (by decide) ⟨by omega, by omega⟩ ⟨by omega, by omega⟩ (fun c_109_3 => ?_) (fun c_109_3 => ?_)
                    · exfalso; omega
                    · refine lv_ldc2 (v := nL 31) hX hB hW (hz _ zw_708) dX7_digest_112 ?_
                      refine lv_lload_n hX hB dX7_digest_115 rfl (lv_at hl 1 rfl) ?_
                      refine zz_lmul X dX7_digest_116 ?_
                      refine lv_aload_n hX hB dX7_digest_117 rfl (lv_at hl 2 rfl) ?_
                      refine lv_iload hX hB dX7_digest_118 (lv_at hl 0 rfl) ?_
                      refine lv_iload_n hX hB dX7_digest_120 rfl (lv_at hl 3 rfl) ?_
                      refine zCallI0 (zRunV (As := [.int (nZ 2), .int (nZ ↑b)]) X mv_X7_leastStrength (c_X7_leastStrength l D k _ mm ms mk mb vsv vty vth ve2_121_2 vsp vla vpc s2_121_2 2 B ↑b hzs2_121_2 (by first | assumption | omega | exact ⟨by omega, by omega⟩) hC2 hcost (by first | assumption | omega | exact ⟨by omega, by omega⟩)) zw_628 (zPreV hP hD hK [0, 1] rfl rfl 0 7 rfl rfl rfl) rfl hl (Nat.le_of_ble_eq_true rfl) dX7_digest_121 ⟨rfl, rfl, ⟨Nat.le_of_ble_eq_true rfl, Nat.le_of_ble_eq_true rfl⟩, Nat.le_of_ble_eq_true rfl, Nat.le_of_ble_eq_true rfl⟩ rfl) hS hP hD hA [0, 1] rfl (fun _ => rfl) (fun r_121_3 u_121_3 H locs hq_121_3 hP hD hS => ?_)
                      obtain ⟨s2_121_3, ve2_121_3⟩ := u_121_3
                      obtain ⟨rfl, hf2_121_3⟩ := hq_121_3
                      try dsimp only at hf2_121_3
                      have hP : va_P D vwCl [(mm, .inr (7, [.ref ms, .int (nZ vsv), .ref mk, .ref mb, .int (nZ vty), .int (nZ vth), .int (nZ ve2_121_3), .int (nZ vsp), .int (nZ vla), .int (nZ vpc)])), (ms, .inl (k 0, 900, .inl (zA s2_121_3))), (mk, .inl (k 1, 2, .inl (zA kp))), (mb, .inl (k 2, 60, .inl (zA bf)))] H := hP
                      have hD : va_D A [(mm, .inr (7, [.ref ms, .int (nZ vsv), .ref mk, .ref mb, .int (nZ vty), .int (nZ vth), .int (nZ ve2_121_3), .int (nZ vsp), .int (nZ vla), .int (nZ vpc)])), (ms, .inl (k 0, 900, .inl (zA s2_121_3))), (mk, .inl (k 1, 2, .inl (zA kp))), (mb, .inl (k 2, 60, .inl (zA bf)))] := hD
                      have hzs2_121_3 : blkOk s2_121_3 0 B := hzs2_121_2.other hf2_121_3 (by omega)
                      have hys2_121_3 : frOk s s2_121_3 810 := hys2_121_2.trans hf2_121_3
                      refine lv_i2l (v := nL (zw32 (strS (B.1 0) (B.2 2) (↑b : Int)))) hX hB dX7_digest_124 (zi2l _) ?_
                      refine zz_ladd X dX7_digest_125 ?_
                      refine lv_lstore_n (lv' := [(1, .long (nL ((31 * ((31 * ((31 * h4) + (zw32 (strS (B.1 0) (B.2 0) (↑b : Int))))) + (zw32 (strS (B.1 0) (B.2 1) (↑b : Int))))) + (zw32 (strS (B.1 0) (B.2 2) (↑b : Int)))))), (4, .int (nZ 2)), (0, .ref mm), (3, .int (nZ ↑b))]) hX hB dX7_digest_126 rfl hl (by decide) rfl (fun ls hl => ?_)
                      refine lv_iinc (v := nZ 3) (lv' := [(4, .int (nZ 3)), (1, .long (nL ((31 * ((31 * ((31 * h4) + (zw32 (strS (B.1 0) (B.2 0) (↑b : Int))))) + (zw32 (strS (B.1 0) (B.2 1) (↑b : Int))))) + (zw32 (strS (B.1 0) (B.2 2) (↑b : Int)))))), (0, .ref mm), (3, .int (nZ ↑b))]) hX hB dX7_digest_127 hl (k := 1) rfl (zinc (by omega)) (by decide) rfl (fun ls hl => ?_)
                      refine lv_goto (tgt := 106) hX hB dX7_digest_130 (by decide) ?_
                      refine lv_iload hX hB dX7_digest_106 (lv_at hl 0 rfl) ?_
                      refine lv_iconst (v := nZ 3) hX hB dX7_digest_108 rfl ?_
                      refine zz_icmp_ge X (tgt := 133) dX7_digest_109 (by decide) ⟨by omega, by omega⟩ ⟨by omega, by omega⟩ (fun c_109_4 => ?_) (fun c_109_4 => ?_)
                      · refine lv_iinc (v := nZ (↑(b + 1) : Int)) (lv' := [(3, .int (nZ (↑(b + 1) : Int))), (4, .int (nZ 3)), (1, .long (nL ((31 * ((31 * ((31 * h4) + (zw32 (strS (B.1 0) (B.2 0) (↑b : Int))))) + (zw32 (strS (B.1 0) (B.2 1) (↑b : Int))))) + (zw32 (strS (B.1 0) (B.2 2) (↑b : Int)))))), (0, .ref mm)]) hX hB dX7_digest_133 hl (k := 3) rfl (zinc (by omega)) (by decide) rfl (fun ls hl => ?_)
                        refine lv_goto (tgt := 67) hX hB dX7_digest_136 (by decide) ?_
                        exact ih_67 ((b + 1), ((31 * ((31 * ((31 * h4) + (zw32 (strS (B.1 0) (B.2 0) (↑b : Int))))) + (zw32 (strS (B.1 0) (B.2 1) (↑b : Int))))) + (zw32 (strS (B.1 0) (B.2 2) (↑b : Int)))), s2_121_3, ve2_121_3) _ _ _ ⟨(by first | omega | assumption | rfl), (by rw [hq4, hq3, show w = 5 by omega]; rfl), (by assumption), (by assumption), hP, hD, hS, (lv_sub hl [3, 2, 0] rfl)⟩ (by dsimp only; omega)
                      · exfalso; omega
              · refine lv_ldc2 (v := nL 31) hX hB hW (hz _ zw_708) dX7_digest_82 ?_
                refine lv_lload_n hX hB dX7_digest_85 rfl (lv_at hl 1 rfl) ?_
                refine zz_lmul X dX7_digest_86 ?_
                refine lv_aload_n hX hB dX7_digest_87 rfl (lv_at hl 0 rfl) ?_
                refine lv_iload_n hX hB dX7_digest_88 rfl (lv_at hl 2 rfl) ?_
                refine lv_iload hX hB dX7_digest_89 (lv_at hl 3 rfl) ?_
                refine zCallI0 (zRunV (As := [.int (nZ ↑b), .int (nZ ↑w)]) X mv_X7_ofBed (c_X7_ofBed l D k _ mm ms mk mb vsv vty vth ve vsp vla vpc q B ↑b ↑w hqk hpl hch (by first | assumption | omega | exact ⟨by omega, by omega⟩) (by first | assumption | omega | exact ⟨by omega, by omega⟩)) zw_534 (zPreV hP hD hK [0, 1] rfl rfl 0 7 rfl rfl rfl) rfl hl (Nat.le_of_ble_eq_true rfl) dX7_digest_91 ⟨rfl, rfl, ⟨Nat.le_of_ble_eq_true rfl, Nat.le_of_ble_eq_true rfl⟩, Nat.le_of_ble_eq_true rfl, Nat.le_of_ble_eq_true rfl⟩ rfl) hS hP hD hA [0, 1] rfl (fun _ => rfl) (fun r_91 u_91 H locs hq_91 hP hD hS => ?_)
                subst hq_91
                have hP : va_P D vwCl [(mm, .inr (7, [.ref ms, .int (nZ vsv), .ref mk, .ref mb, .int (nZ vty), .int (nZ vth), .int (nZ ve), .int (nZ vsp), .int (nZ vla), .int (nZ vpc)])), (ms, .inl (k 0, 900, .inl (zA q))), (mk, .inl (k 1, 2, .inl (zA kp))), (mb, .inl (k 2, 60, .inl (zA bf)))] H := hP
                have hD : va_D A [(mm, .inr (7, [.ref ms, .int (nZ vsv), .ref mk, .ref mb, .int (nZ vty), .int (nZ vth), .int (nZ ve), .int (nZ vsp), .int (nZ vla), .int (nZ vpc)])), (ms, .inl (k 0, 900, .inl (zA q))), (mk, .inl (k 1, 2, .inl (zA kp))), (mb, .inl (k 2, 60, .inl (zA bf)))] := hD
                refine lv_i2l (v := nL (zw32 (bedOfS (chB B) (B.1 1) (↑b : Int) (cleanB B (↑b : Int)) (↑w : Int)))) hX hB dX7_digest_94 (zi2l _) ?_
                refine zz_ladd X dX7_digest_95 ?_
                refine lv_lstore_n (lv' := [(1, .long (nL ((31 * h4) + (zw32 (bedOfS (chB B) (B.1 1) (↑b : Int) (cleanB B (↑b : Int)) (↑w : Int)))))), (0, .ref mm), (3, .int (nZ ↑b)), (4, .int (nZ ↑w))]) hX hB dX7_digest_96 rfl hl (by decide) rfl (fun ls hl => ?_)
                refine lv_iinc (v := nZ (↑(w + 1) : Int)) (lv' := [(4, .int (nZ (↑(w + 1) : Int))), (1, .long (nL ((31 * h4) + (zw32 (bedOfS (chB B) (B.1 1) (↑b : Int) (cleanB B (↑b : Int)) (↑w : Int)))))), (0, .ref mm), (3, .int (nZ ↑b))]) hX hB dX7_digest_97 hl (k := 3) rfl (zinc (by omega)) (by decide) rfl (fun ls hl => ?_)
                refine lv_goto (tgt := 76) hX hB dX7_digest_100 (by decide) ?_
                exact ih_76 ((w + 1), ((31 * h4) + (zw32 (bedOfS (chB B) (B.1 1) (↑b : Int) (cleanB B (↑b : Int)) (↑w : Int))))) _ _ _ ⟨(by first | omega | assumption | rfl), (by rw [hq4]; rfl), hP, hD, hS, (lv_sub hl [2, 1, 3, 0] rfl)⟩ (by dsimp only; omega)
          · exfalso; omega
  · refine lv_ldc2 (v := nL 31) hX hB hW (hz _ zw_708) dX7_digest_12 ?_
    refine lv_lload_n hX hB dX7_digest_15 rfl (lv_at hl 1 rfl) ?_
    refine zz_lmul X dX7_digest_16 ?_
    refine lv_aload_n hX hB dX7_digest_17 rfl (lv_at hl 0 rfl) ?_
    refine lv_iload_n hX hB dX7_digest_18 rfl (lv_at hl 2 rfl) ?_
    refine zCallI0 (zRunV (As := [.int (nZ ↑i)]) X mv_X7_counted (c_X7_counted l D k _ mm ms mk mb vsv vty vth ven vsp vla vpc s B ↑i hBk (by first | assumption | omega | exact ⟨by omega, by omega⟩)) zw_555 (zPreV hP hD hK [0, 1] rfl rfl 0 7 rfl rfl rfl) rfl hl (Nat.le_of_ble_eq_true rfl) dX7_digest_19 ⟨rfl, rfl, ⟨Nat.le_of_ble_eq_true rfl, Nat.le_of_ble_eq_true rfl⟩, Nat.le_of_ble_eq_true rfl, Nat.le_of_ble_eq_true rfl⟩ rfl) hS hP hD hA [0, 1] rfl (fun _ => rfl) (fun r_19 u_19 H locs hq_19 hP hD hS => ?_)
    subst hq_19
    have hP : va_P D vwCl [(mm, .inr (7, [.ref ms, .int (nZ vsv), .ref mk, .ref mb, .int (nZ vty), .int (nZ vth), .int (nZ ven), .int (nZ vsp), .int (nZ vla), .int (nZ vpc)])), (ms, .inl (k 0, 900, .inl (zA s))), (mk, .inl (k 1, 2, .inl (zA kp))), (mb, .inl (k 2, 60, .inl (zA bf)))] H := hP
    have hD : va_D A [(mm, .inr (7, [.ref ms, .int (nZ vsv), .ref mk, .ref mb, .int (nZ vty), .int (nZ vth), .int (nZ ven), .int (nZ vsp), .int (nZ vla), .int (nZ vpc)])), (ms, .inl (k 0, 900, .inl (zA s))), (mk, .inl (k 1, 2, .inl (zA kp))), (mb, .inl (k 2, 60, .inl (zA bf)))] := hD
    refine lv_i2l (v := nL (zw32 (countS (B.1 1) (B.1 2) (coinsB B) (cleanAllB B) (chSum (chB B) 0) (chSum (chB B) 1) (B.1 3) (B.1 4) (B.1 5) (B.1 6) (B.1 7) (B.1 8) vsv (↑i : Int)))) hX hB dX7_digest_22 (zi2l _) ?_
    refine zz_ladd X dX7_digest_23 ?_
    refine lv_lstore_n (lv' := [(1, .long (nL ((31 * hh) + (zw32 (countS (B.1 1) (B.1 2) (coinsB B) (cleanAllB B) (chSum (chB B) 0) (chSum (chB B) 1) (B.1 3) (B.1 4) (B.1 5) (B.1 6) (B.1 7) (B.1 8) vsv (↑i : Int)))))), (0, .ref mm), (3, .int (nZ ↑i))]) hX hB dX7_digest_24 rfl hl (by decide) rfl (fun ls hl => ?_)
    refine lv_iinc (v := nZ (↑(i + 1) : Int)) (lv' := [(3, .int (nZ (↑(i + 1) : Int))), (1, .long (nL ((31 * hh) + (zw32 (countS (B.1 1) (B.1 2) (coinsB B) (cleanAllB B) (chSum (chB B) 0) (chSum (chB B) 1) (B.1 3) (B.1 4) (B.1 5) (B.1 6) (B.1 7) (B.1 8) vsv (↑i : Int)))))), (0, .ref mm)]) hX hB dX7_digest_25 hl (k := 2) rfl (zinc (by omega)) (by decide) rfl (fun ls hl => ?_)
    refine lv_goto (tgt := 6) hX hB dX7_digest_28 (by decide) ?_
    exact ih_6 ((i + 1), ((31 * hh) + (zw32 (countS (B.1 1) (B.1 2) (coinsB B) (cleanAllB B) (chSum (chB B) 0) (chSum (chB B) 1) (B.1 3) (B.1 4) (B.1 5) (B.1 6) (B.1 7) (B.1 8) vsv (↑i : Int))))) _ _ _ ⟨(by first | omega | assumption | rfl), (by rw [hq]; rfl), hP, hD, hS, (lv_sub hl [2, 1, 0] rfl)⟩ (by dsimp only; omega)
