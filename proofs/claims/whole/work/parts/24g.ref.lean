set_option maxHeartbeats 4000000 in
set_option maxRecDepth 100000 in
theorem c_X7_best (l : Launch) (D : va_G) (k : Nat → ClassId) (sz : Nat) (mm ms mk mb : Nat) (vsv vty vth ven vsp vla vpc : Int) (s : Nat → Int) (B : Bd) (hBk : blkOk s 0 B) (hG : bdGood B) : Met l yX7_best (zW yX7_best cX7_best 6 (some .int)) ({ frames := 5, cells := 0, slots := 0, locals := 128 } : Room) (va_Pc [.ref mm] (zIn D k sz [(mm, .inr (7, [.ref ms, .int (nZ vsv), .ref mk, .ref mb, .int (nZ vty), .int (nZ vth), .int (nZ ven), .int (nZ vsp), .int (nZ vla), .int (nZ vpc)])), (ms, .inl (k 0, 900, .inl (zA s)))])) (va_Qi (fun (rz : Int32) (uz : (Nat → Int) × Int) => rz = nZ (best3 (leadF B 0) (leadF B 1) (leadF B 2)) ∧ frOk s uz.1 810) (fun (uz : (Nat → Int) × Int) => zOut D (va_A [(mm, .inr (7, [.ref ms, .int (nZ vsv), .ref mk, .ref mb, .int (nZ vty), .int (nZ vth), .int (nZ ven), .int (nZ vsp), .int (nZ vla), .int (nZ vpc)])), (ms, .inl (k 0, 900, .inl (zA s)))] sz) [(mm, .inr (7, [.ref ms, .int (nZ vsv), .ref mk, .ref mb, .int (nZ vty), .int (nZ vth), .int (nZ uz.2), .int (nZ vsp), .int (nZ vla), .int (nZ vpc)])), (ms, .inl (k 0, 900, .inl (zA uz.1)))]) (va_A [(mm, .inr (7, [.ref ms, .int (nZ vsv), .ref mk, .ref mb, .int (nZ vty), .int (nZ vth), .int (nZ ven), .int (nZ vsp), .int (nZ vla), .int (nZ vpc)])), (ms, .inl (k 0, 900, .inl (zA s)))] sz)) 0 0 (va_A [(mm, .inr (7, [.ref ms, .int (nZ vsv), .ref mk, .ref mb, .int (nZ vty), .int (nZ vth), .int (nZ ven), .int (nZ vsp), .int (nZ vla), .int (nZ vpc)])), (ms, .inl (k 0, 900, .inl (zA s)))] sz) := by
  refine zEnter (Qf := fun A => va_Qi (fun (rz : Int32) (uz : (Nat → Int) × Int) => rz = nZ (best3 (leadF B 0) (leadF B 1) (leadF B 2)) ∧ frOk s uz.1 810) (fun (uz : (Nat → Int) × Int) => zOut D A [(mm, .inr (7, [.ref ms, .int (nZ vsv), .ref mk, .ref mb, .int (nZ vty), .int (nZ vth), .int (nZ uz.2), .int (nZ vsp), .int (nZ vla), .int (nZ vpc)])), (ms, .inl (k 0, 900, .inl (zA uz.1)))]) A) RX7 (by decide) rfl (Nat.le_of_ble_eq_true rfl) ?_
  intro p9 e9 s9 m9 be9 me9 c9 ls A X hin hP hD hS hA hAe hl
  have hX := X.1; have hB := X.2.1; have hz := X.2.2.2.2.1; have hW := X.2.2.2.2.2.1; have hK := X.2.2.2.2.2.2.2; clear hAe
  clear hin
  have hl : lv_has ls 6 [(0, .ref mm)] := hl
  obtain ⟨hcost, hpl, hpu, hwi, hch, hC0, hC1, hC2⟩ := hG
  refine lv_iconst (v := nZ (-1)) hX hB dX7_best_0 rfl ?_
  refine lv_istore_n (lv' := [(1, .int (nZ (-1))), (0, .ref mm)]) hX hB dX7_best_1 rfl hl (by decide) rfl (fun ls hl => ?_)
  refine lv_iconst (v := nZ 0) hX hB dX7_best_2 rfl ?_
  refine lv_istore_n (lv' := [(2, .int (nZ 0)), (1, .int (nZ (-1))), (0, .ref mm)]) hX hB dX7_best_3 rfl hl (by decide) rfl (fun ls hl => ?_)
  refine lv_iconst (v := nZ 0) hX hB dX7_best_4 rfl ?_
  refine lv_istore_n (lv' := [(3, .int (nZ 0)), (2, .int (nZ 0)), (1, .int (nZ (-1))), (0, .ref mm)]) hX hB dX7_best_5 rfl hl (by decide) rfl (fun ls hl => ?_)
  refine lv_iload_n hX hB dX7_best_6 rfl (lv_at hl 0 rfl) ?_
  refine lv_iconst (v := nZ 3) hX hB dX7_best_7 rfl ?_
  refine zz_icmp_ge X (tgt := 93) dX7_best_8 (by decide) ⟨by omega, by omega⟩ ⟨by omega, by omega⟩ (fun c_8 => ?_) (fun c_8 => ?_)
  · exfalso; omega
  · refine lv_iconst (v := nZ 1) hX hB dX7_best_11 rfl ?_
    refine lv_istore (lv' := [(4, .int (nZ 1)), (3, .int (nZ 0)), (2, .int (nZ 0)), (1, .int (nZ (-1))), (0, .ref mm)]) hX hB dX7_best_12 hl (by decide) rfl (fun ls hl => ?_)
    refine zLoop (σ := Nat × Int × Int × (Nat → Int) × Int) (fun (x : Nat × Int × Int × (Nat → Int) × Int) (H : Heap) (locs : List Loc) (ls : Array Slot) => match x with | (x0, b0, m0, q0, ve0) => (1 ≤ x0 ∧ x0 ≤ 151) ∧ (-1 ≤ b0 ∧ b0 ≤ 5000 ∧ -9000 ≤ m0 ∧ m0 ≤ 9000) ∧ (bestIn (leadF B 0) 0 1 150 (-1) 0 = bestIn (leadF B 0) 0 x0 (151 - x0) b0 m0) ∧ (blkOk q0 0 B) ∧ (frOk s q0 810) ∧ va_P D vwCl [(mm, .inr (7, [.ref ms, .int (nZ vsv), .ref mk, .ref mb, .int (nZ vty), .int (nZ vth), .int (nZ ve0), .int (nZ vsp), .int (nZ vla), .int (nZ vpc)])), (ms, .inl (k 0, 900, .inl (zA q0)))] H ∧ va_D A [(mm, .inr (7, [.ref ms, .int (nZ vsv), .ref mk, .ref mb, .int (nZ vty), .int (nZ vth), .int (nZ ve0), .int (nZ vsp), .int (nZ vla), .int (nZ vpc)])), (ms, .inl (k 0, 900, .inl (zA q0)))] ∧ va_S A s9.heap H locs ∧ lv_has ls 6 [(0, .ref mm), (1, .int (nZ b0)), (2, .int (nZ m0)), (3, .int (nZ 0)), (4, .int (nZ ↑x0))]) (fun (x : Nat × Int × Int × (Nat → Int) × Int) => match x with | (x0, b0, m0, q0, ve0) => 151 - x0) ?_ (1, (-1), 0, s, ven) ⟨(by first | omega | assumption | rfl), (by first | omega | assumption | rfl), (by rfl), (by first | exact hBk | exact hk-1), (by first | exact frOk.refl _ _ | exact hg-1), hP, hD, hS, (lv_sub hl [4, 3, 2, 1, 0] rfl)⟩
    rintro ⟨x0, b0, m0, q0, ve0⟩ H locs ls ⟨hx0, hr0, hq0, hk0, hg0, hP, hD, hS, hl⟩ ih_14
    refine lv_iload hX hB dX7_best_14 (lv_at hl 4 rfl) ?_
    refine lv_sipush (v := nZ 150) hX hB dX7_best_16 (by decide) ?_
    refine zz_icmp_gt X (tgt := 87) dX7_best_19 (by decide) ⟨by omega, by omega⟩ ⟨by omega, by omega⟩ (fun c_19 => ?_) (fun c_19 => ?_)
    · refine lv_iinc (v := nZ 1) (lv' := [(3, .int (nZ 1)), (0, .ref mm), (1, .int (nZ b0)), (2, .int (nZ m0)), (4, .int (nZ ↑x0))]) hX hB dX7_best_87 hl (k := 3) rfl (zinc (by omega)) (by decide) rfl (fun ls hl => ?_)
      refine lv_goto (tgt := 6) hX hB dX7_best_90 (by decide) ?_
      refine lv_iload_n hX hB dX7_best_6 rfl (lv_at hl 0 rfl) ?_
      refine lv_iconst (v := nZ 3) hX hB dX7_best_7 rfl ?_
      refine zz_icmp_ge X (tgt := 93) dX7_best_8 (by decide) ⟨by omega, by omega⟩ ⟨by omega, by omega⟩ (fun c_8_2 => ?_) (fun c_8_2 => ?_)
      · exfalso; omega
      · refine lv_iconst (v := nZ 1) hX hB dX7_best_11 rfl ?_
        refine lv_istore (lv' := [(4, .int (nZ 1)), (3, .int (nZ 1)), (0, .ref mm), (1, .int (nZ b0)), (2, .int (nZ m0))]) hX hB dX7_best_12 hl (by decide) rfl (fun ls hl => ?_)
        refine zLoop (σ := Nat × Int × Int × (Nat → Int) × Int) (fun (x : Nat × Int × Int × (Nat → Int) × Int) (H : Heap) (locs : List Loc) (ls : Array Slot) => match x with | (x1, b1, m1, q1, ve1) => (1 ≤ x1 ∧ x1 ≤ 151) ∧ (-1 ≤ b1 ∧ b1 ≤ 5000 ∧ -9000 ≤ m1 ∧ m1 ≤ 9000) ∧ (bestIn (leadF B 1) 1000 1 150 b0 m0 = bestIn (leadF B 1) 1000 x1 (151 - x1) b1 m1) ∧ (blkOk q1 0 B) ∧ (frOk s q1 810) ∧ va_P D vwCl [(mm, .inr (7, [.ref ms, .int (nZ vsv), .ref mk, .ref mb, .int (nZ vty), .int (nZ vth), .int (nZ ve1), .int (nZ vsp), .int (nZ vla), .int (nZ vpc)])), (ms, .inl (k 0, 900, .inl (zA q1)))] H ∧ va_D A [(mm, .inr (7, [.ref ms, .int (nZ vsv), .ref mk, .ref mb, .int (nZ vty), .int (nZ vth), .int (nZ ve1), .int (nZ vsp), .int (nZ vla), .int (nZ vpc)])), (ms, .inl (k 0, 900, .inl (zA q1)))] ∧ va_S A s9.heap H locs ∧ lv_has ls 6 [(0, .ref mm), (1, .int (nZ b1)), (2, .int (nZ m1)), (3, .int (nZ 1)), (4, .int (nZ ↑x1))]) (fun (x : Nat × Int × Int × (Nat → Int) × Int) => match x with | (x1, b1, m1, q1, ve1) => 151 - x1) ?_ (1, b0, m0, q0, ve0) ⟨(by first | omega | assumption | rfl), (by first | omega | assumption | rfl), (by rfl), (by first | exact hBk | exact hk0), (by first | exact frOk.refl _ _ | exact hg0), hP, hD, hS, (lv_sub hl [2, 3, 4, 1, 0] rfl)⟩
        rintro ⟨x1, b1, m1, q1, ve1⟩ H locs ls ⟨hx1, hr1, hq1, hk1, hg1, hP, hD, hS, hl⟩ ih_14
        refine lv_iload hX hB dX7_best_14 (lv_at hl 4 rfl) ?_
        refine lv_sipush (v := nZ 150) hX hB dX7_best_16 (by decide) ?_
        refine zz_icmp_gt X (tgt := 87) dX7_best_19 (by decide) ⟨by omega, by omega⟩ ⟨by omega, by omega⟩ (fun c_19_2 => ?_) (fun c_19_2 => ?_)
        · refine lv_iinc (v := nZ 2) (lv' := [(3, .int (nZ 2)), (0, .ref mm), (1, .int (nZ b1)), (2, .int (nZ m1)), (4, .int (nZ ↑x1))]) hX hB dX7_best_87 hl (k := 3) rfl (zinc (by omega)) (by decide) rfl (fun ls hl => ?_)
          refine lv_goto (tgt := 6) hX hB dX7_best_90 (by decide) ?_
          refine lv_iload_n hX hB dX7_best_6 rfl (lv_at hl 0 rfl) ?_
          refine lv_iconst (v := nZ 3) hX hB dX7_best_7 rfl ?_
          refine zz_icmp_ge X (tgt := 93) dX7_best_8 (by decide) ⟨by omega, by omega⟩ ⟨by omega, by omega⟩ (fun c_8_3 => ?_) (fun c_8_3 => ?_)
          · exfalso; omega
          · refine lv_iconst (v := nZ 1) hX hB dX7_best_11 rfl ?_
            refine lv_istore (lv' := [(4, .int (nZ 1)), (3, .int (nZ 2)), (0, .ref mm), (1, .int (nZ b1)), (2, .int (nZ m1))]) hX hB dX7_best_12 hl (by decide) rfl (fun ls hl => ?_)
            refine zLoop (σ := Nat × Int × Int × (Nat → Int) × Int) (fun (x : Nat × Int × Int × (Nat → Int) × Int) (H : Heap) (locs : List Loc) (ls : Array Slot) => match x with | (x2, b2, m2, q2, ve2) => (1 ≤ x2 ∧ x2 ≤ 151) ∧ (-1 ≤ b2 ∧ b2 ≤ 5000 ∧ -9000 ≤ m2 ∧ m2 ≤ 9000) ∧ (bestIn (leadF B 2) 2000 1 150 b1 m1 = bestIn (leadF B 2) 2000 x2 (151 - x2) b2 m2) ∧ (blkOk q2 0 B) ∧ (frOk s q2 810) ∧ va_P D vwCl [(mm, .inr (7, [.ref ms, .int (nZ vsv), .ref mk, .ref mb, .int (nZ vty), .int (nZ vth), .int (nZ ve2), .int (nZ vsp), .int (nZ vla), .int (nZ vpc)])), (ms, .inl (k 0, 900, .inl (zA q2)))] H ∧ va_D A [(mm, .inr (7, [.ref ms, .int (nZ vsv), .ref mk, .ref mb, .int (nZ vty), .int (nZ vth), .int (nZ ve2), .int (nZ vsp), .int (nZ vla), .int (nZ vpc)])), (ms, .inl (k 0, 900, .inl (zA q2)))] ∧ va_S A s9.heap H locs ∧ lv_has ls 6 [(0, .ref mm), (1, .int (nZ b2)), (2, .int (nZ m2)), (3, .int (nZ 2)), (4, .int (nZ ↑x2))]) (fun (x : Nat × Int × Int × (Nat → Int) × Int) => match x with | (x2, b2, m2, q2, ve2) => 151 - x2) ?_ (1, b1, m1, q1, ve1) ⟨(by first | omega | assumption | rfl), (by first | omega | assumption | rfl), (by rfl), (by first | exact hBk | exact hk1), (by first | exact frOk.refl _ _ | exact hg1), hP, hD, hS, (lv_sub hl [2, 3, 4, 1, 0] rfl)⟩
            rintro ⟨x2, b2, m2, q2, ve2⟩ H locs ls ⟨hx2, hr2, hq2, hk2, hg2, hP, hD, hS, hl⟩ ih_14
            refine lv_iload hX hB dX7_best_14 (lv_at hl 4 rfl) ?_
            refine lv_sipush (v := nZ 150) hX hB dX7_best_16 (by decide) ?_
            refine zz_icmp_gt X (tgt := 87) dX7_best_19 (by decide) ⟨by omega, by omega⟩ ⟨by omega, by omega⟩ (fun c_19_3 => ?_) (fun c_19_3 => ?_)
            · refine lv_iinc (v := nZ 3) (lv' := [(3, .int (nZ 3)), (0, .ref mm), (1, .int (nZ b2)), (2, .int (nZ m2)), (4, .int (nZ ↑x2))]) hX hB dX7_best_87 hl (k := 3) rfl (zinc (by omega)) (by decide) rfl (fun ls hl => ?_)
              refine lv_goto (tgt := 6) hX hB dX7_best_90 (by decide) ?_
              refine lv_iload_n hX hB dX7_best_6 rfl (lv_at hl 0 rfl) ?_
              refine lv_iconst (v := nZ 3) hX hB dX7_best_7 rfl ?_
              refine zz_icmp_ge X (tgt := 93) dX7_best_8 (by decide) ⟨by omega, by omega⟩ ⟨by omega, by omega⟩ (fun c_8_4 => ?_) (fun c_8_4 => ?_)
              · refine lv_iload_n hX hB dX7_best_93 rfl (lv_at hl 2 rfl) ?_
                rw [show x0 = 151 by omega] at hq0; rw [show x1 = 151 by omega] at hq1; rw [show x2 = 151 by omega] at hq2
                rw [Nat.sub_self, bestIn_0] at hq0 hq1 hq2
                exact zRetI (q2, ve2) X hP hD hS rfl ⟨by congr 1; unfold best3; rw [hq0]; dsimp only; rw [hq1]; dsimp only; rw [hq2], hg2⟩ dX7_best_94
              · exfalso; omega
            · refine lv_aload_n hX hB dX7_best_22 rfl (lv_at hl 0 rfl) ?_
              refine lv_iload_n hX hB dX7_best_23 rfl (lv_at hl 3 rfl) ?_
              refine lv_iload hX hB dX7_best_24 (lv_at hl 4 rfl) ?_
              refine zCallV0 (zRunV (As := [.int (nZ 2), .int (nZ ↑x2)]) X mv_X7_tries (c_X7_tries l D k _ mm ms mk mb vsv vty vth ve2 vsp vla vpc q2 2 B ↑x2 hk2 (by omega) hC2 hcost (by first | assumption | omega | exact ⟨by omega, by omega⟩)) zw_598 (zPreV hP hD hK [0, 1] rfl rfl 0 7 rfl rfl rfl) rfl hl (Nat.le_of_ble_eq_true rfl) dX7_best_26 ⟨rfl, rfl, ⟨Nat.le_of_ble_eq_true rfl, Nat.le_of_ble_eq_true rfl⟩, Nat.le_of_ble_eq_true rfl, Nat.le_of_ble_eq_true rfl⟩ rfl) hS hP hD hA [0, 1] rfl (fun _ => rfl) (fun u_26 H locs hq_26 hP hD hS => ?_)
              obtain ⟨s2_26, ve2_26⟩ := u_26
              obtain ⟨hB2_26, hf2_26, hve_26⟩ := hq_26
              try dsimp only at hB2_26 hf2_26 hve_26
              have hP : va_P D vwCl [(mm, .inr (7, [.ref ms, .int (nZ vsv), .ref mk, .ref mb, .int (nZ vty), .int (nZ vth), .int (nZ ve2_26), .int (nZ vsp), .int (nZ vla), .int (nZ vpc)])), (ms, .inl (k 0, 900, .inl (zA s2_26)))] H := hP
              have hD : va_D A [(mm, .inr (7, [.ref ms, .int (nZ vsv), .ref mk, .ref mb, .int (nZ vty), .int (nZ vth), .int (nZ ve2_26), .int (nZ vsp), .int (nZ vla), .int (nZ vpc)])), (ms, .inl (k 0, 900, .inl (zA s2_26)))] := hD
              have hzz : blkOk s2_26 0 B := hk2.other hf2_26 (by omega)
              have hgg := hg2.trans hf2_26
              have hlr := leadG_rng (C := push0 B 2 (↑x2 : Int)) (by rw [push0_ch]; exact hch) hpl hB2_26.l20
              refine lv_iload_n hX hB dX7_best_29 rfl (lv_at hl 1 rfl) ?_
              refine lv_iconst (v := nZ (-1)) hX hB dX7_best_30 rfl ?_
              refine zz_icmp_eq X (tgt := 42) dX7_best_31 (by decide) ⟨by omega, by omega⟩ ⟨by omega, by omega⟩ (fun c_31 => ?_) (fun c_31 => ?_)
              · refine lv_iconst (v := nZ 1) hX hB dX7_best_42 rfl ?_
                refine lv_goto (tgt := 47) hX hB dX7_best_43 (by decide) ?_
                refine lv_istore (lv' := [(5, .int (nZ 1)), (0, .ref mm), (1, .int (nZ b2)), (2, .int (nZ m2)), (3, .int (nZ 2)), (4, .int (nZ ↑x2))]) hX hB dX7_best_47 hl (by decide) rfl (fun ls hl => ?_)
                refine lv_iload hX hB dX7_best_49 (lv_at hl 0 rfl) ?_
                refine zz_if_eq X (tgt := 65) dX7_best_51 (by decide) ⟨by omega, by omega⟩ (fun c_51 => ?_) (fun c_51 => ?_)
                · exfalso; omega
                · refine lv_sipush (v := nZ 1000) hX hB dX7_best_54 (by decide) ?_
                  refine lv_iload_n hX hB dX7_best_57 rfl (lv_at hl 4 rfl) ?_
                  refine zz_imul X dX7_best_58 (z := 2000) (by first | rfl | omega) ?_
                  refine lv_iload hX hB dX7_best_59 (lv_at hl 5 rfl) ?_
                  refine zz_iadd X dX7_best_61 (z := (2000 + ↑x2)) (by first | rfl | omega) ?_
                  refine lv_goto (tgt := 66) hX hB dX7_best_62 (by decide) ?_
                  refine lv_istore_n (lv' := [(1, .int (nZ (2000 + ↑x2))), (5, .int (nZ 1)), (0, .ref mm), (2, .int (nZ m2)), (3, .int (nZ 2)), (4, .int (nZ ↑x2))]) hX hB dX7_best_66 rfl hl (by decide) rfl (fun ls hl => ?_)
                  refine lv_iload hX hB dX7_best_67 (lv_at hl 1 rfl) ?_
                  refine zz_if_eq X (tgt := 79) dX7_best_69 (by decide) ⟨by omega, by omega⟩ (fun c_69 => ?_) (fun c_69 => ?_)
                  · exfalso; omega
                  · refine lv_aload_n hX hB dX7_best_72 rfl (lv_at hl 2 rfl) ?_
                    refine zCallI0 (zRunV (As := []) X mv_X7_gain (c_X7_gain l D k _ mm ms mk mb vsv vty vth ve2_26 vsp vla vpc s2_26 (push0 B 2 (↑x2 : Int)) hB2_26 (hpl) (by rw [push0_ch]; exact hch)) zw_654 (zPreV hP hD hK [0, 1] rfl rfl 0 7 rfl rfl rfl) rfl hl (Nat.le_of_ble_eq_true rfl) dX7_best_73 ⟨rfl, rfl, ⟨Nat.le_of_ble_eq_true rfl, Nat.le_of_ble_eq_true rfl⟩, Nat.le_of_ble_eq_true rfl, Nat.le_of_ble_eq_true rfl⟩ rfl) hS hP hD hA [0, 1] rfl (fun _ => rfl) (fun r_73 u_73 H locs hq_73 hP hD hS => ?_)
                    obtain ⟨rfl, hlr_73⟩ := hq_73
                    try dsimp only at hlr_73
                    have hP : va_P D vwCl [(mm, .inr (7, [.ref ms, .int (nZ vsv), .ref mk, .ref mb, .int (nZ vty), .int (nZ vth), .int (nZ ve2_26), .int (nZ vsp), .int (nZ vla), .int (nZ vpc)])), (ms, .inl (k 0, 900, .inl (zA s2_26)))] H := hP
                    have hD : va_D A [(mm, .inr (7, [.ref ms, .int (nZ vsv), .ref mk, .ref mb, .int (nZ vty), .int (nZ vth), .int (nZ ve2_26), .int (nZ vsp), .int (nZ vla), .int (nZ vpc)])), (ms, .inl (k 0, 900, .inl (zA s2_26)))] := hD
                    refine lv_goto (tgt := 80) hX hB dX7_best_76 (by decide) ?_
                    refine lv_istore_n (lv' := [(2, .int (nZ (leadG (push0 B 2 (↑x2 : Int))))), (1, .int (nZ (2000 + ↑x2))), (5, .int (nZ 1)), (0, .ref mm), (3, .int (nZ 2)), (4, .int (nZ ↑x2))]) hX hB dX7_best_80 rfl hl (by decide) rfl (fun ls hl => ?_)
                    refine lv_iinc (v := nZ (↑(x2 + 1) : Int)) (lv' := [(4, .int (nZ (↑(x2 + 1) : Int))), (2, .int (nZ (leadG (push0 B 2 (↑x2 : Int))))), (1, .int (nZ (2000 + ↑x2))), (5, .int (nZ 1)), (0, .ref mm), (3, .int (nZ 2))]) hX hB dX7_best_81 hl (k := 5) rfl (zinc (by omega)) (by decide) rfl (fun ls hl => ?_)
                    refine lv_goto (tgt := 14) hX hB dX7_best_84 (by decide) ?_
                    exact ih_14 ((x2 + 1), (2000 + ↑x2), (leadG (push0 B 2 (↑x2 : Int))), s2_26, ve2_26) _ _ _ ⟨(by first | omega | assumption | rfl), (by first | omega | assumption | rfl), (by rw [hq2, show 151 - x2 = (151 - (x2 + 1)) + 1 by omega, bestIn]; dsimp only [leadF]; first | (rw [if_pos (by omega)] <;> (try simp only [Int.zero_add])) | rw [if_neg (by omega)]), (by exact hzz), (by exact hgg), hP, hD, hS, (lv_sub hl [4, 2, 1, 5, 0] rfl)⟩ (by dsimp only; omega)
              · refine lv_aload_n hX hB dX7_best_34 rfl (lv_at hl 0 rfl) ?_
                refine zCallI0 (zRunV (As := []) X mv_X7_gain (c_X7_gain l D k _ mm ms mk mb vsv vty vth ve2_26 vsp vla vpc s2_26 (push0 B 2 (↑x2 : Int)) hB2_26 (hpl) (by rw [push0_ch]; exact hch)) zw_654 (zPreV hP hD hK [0, 1] rfl rfl 0 7 rfl rfl rfl) rfl hl (Nat.le_of_ble_eq_true rfl) dX7_best_35 ⟨rfl, rfl, ⟨Nat.le_of_ble_eq_true rfl, Nat.le_of_ble_eq_true rfl⟩, Nat.le_of_ble_eq_true rfl, Nat.le_of_ble_eq_true rfl⟩ rfl) hS hP hD hA [0, 1] rfl (fun _ => rfl) (fun r_35 u_35 H locs hq_35 hP hD hS => ?_)
                obtain ⟨rfl, hlr_35⟩ := hq_35
                try dsimp only at hlr_35
                have hP : va_P D vwCl [(mm, .inr (7, [.ref ms, .int (nZ vsv), .ref mk, .ref mb, .int (nZ vty), .int (nZ vth), .int (nZ ve2_26), .int (nZ vsp), .int (nZ vla), .int (nZ vpc)])), (ms, .inl (k 0, 900, .inl (zA s2_26)))] H := hP
                have hD : va_D A [(mm, .inr (7, [.ref ms, .int (nZ vsv), .ref mk, .ref mb, .int (nZ vty), .int (nZ vth), .int (nZ ve2_26), .int (nZ vsp), .int (nZ vla), .int (nZ vpc)])), (ms, .inl (k 0, 900, .inl (zA s2_26)))] := hD
                refine lv_iload_n hX hB dX7_best_38 rfl (lv_at hl 2 rfl) ?_
                refine zz_icmp_le X (tgt := 46) dX7_best_39 (by decide) ⟨by omega, by omega⟩ ⟨by omega, by omega⟩ (fun c_39 => ?_) (fun c_39 => ?_)
                · refine lv_iconst (v := nZ 0) hX hB dX7_best_46 rfl ?_
                  refine lv_istore (lv' := [(5, .int (nZ 0)), (0, .ref mm), (1, .int (nZ b2)), (2, .int (nZ m2)), (3, .int (nZ 2)), (4, .int (nZ ↑x2))]) hX hB dX7_best_47 hl (by decide) rfl (fun ls hl => ?_)
                  refine lv_iload hX hB dX7_best_49 (lv_at hl 0 rfl) ?_
                  refine zz_if_eq X (tgt := 65) dX7_best_51 (by decide) ⟨by omega, by omega⟩ (fun c_51 => ?_) (fun c_51 => ?_)
                  · refine lv_iload_n hX hB dX7_best_65 rfl (lv_at hl 2 rfl) ?_
                    refine lv_istore_n (lv' := [(1, .int (nZ b2)), (5, .int (nZ 0)), (0, .ref mm), (2, .int (nZ m2)), (3, .int (nZ 2)), (4, .int (nZ ↑x2))]) hX hB dX7_best_66 rfl hl (by decide) rfl (fun ls hl => ?_)
                    refine lv_iload hX hB dX7_best_67 (lv_at hl 1 rfl) ?_
                    refine zz_if_eq X (tgt := 79) dX7_best_69 (by decide) ⟨by omega, by omega⟩ (fun c_69 => ?_) (fun c_69 => ?_)
                    · refine lv_iload_n hX hB dX7_best_79 rfl (lv_at hl 3 rfl) ?_
                      refine lv_istore_n (lv' := [(2, .int (nZ m2)), (1, .int (nZ b2)), (5, .int (nZ 0)), (0, .ref mm), (3, .int (nZ 2)), (4, .int (nZ ↑x2))]) hX hB dX7_best_80 rfl hl (by decide) rfl (fun ls hl => ?_)
                      refine lv_iinc (v := nZ (↑(x2 + 1) : Int)) (lv' := [(4, .int (nZ (↑(x2 + 1) : Int))), (2, .int (nZ m2)), (1, .int (nZ b2)), (5, .int (nZ 0)), (0, .ref mm), (3, .int (nZ 2))]) hX hB dX7_best_81 hl (k := 5) rfl (zinc (by omega)) (by decide) rfl (fun ls hl => ?_)
                      refine lv_goto (tgt := 14) hX hB dX7_best_84 (by decide) ?_
                      exact ih_14 ((x2 + 1), b2, m2, s2_26, ve2_26) _ _ _ ⟨(by first | omega | assumption | rfl), (by first | omega | assumption | rfl), (by rw [hq2, show 151 - x2 = (151 - (x2 + 1)) + 1 by omega, bestIn]; dsimp only [leadF]; first | (rw [if_pos (by omega)] <;> (try simp only [Int.zero_add])) | rw [if_neg (by omega)]), (by exact hzz), (by exact hgg), hP, hD, hS, (lv_sub hl [4, 2, 1, 5, 0] rfl)⟩ (by dsimp only; omega)
                    · exfalso; omega
                  · exfalso; omega
                · refine lv_iconst (v := nZ 1) hX hB dX7_best_42 rfl ?_
                  refine lv_goto (tgt := 47) hX hB dX7_best_43 (by decide) ?_
                  refine lv_istore (lv' := [(5, .int (nZ 1)), (0, .ref mm), (1, .int (nZ b2)), (2, .int (nZ m2)), (3, .int (nZ 2)), (4, .int (nZ ↑x2))]) hX hB dX7_best_47 hl (by decide) rfl (fun ls hl => ?_)
                  refine lv_iload hX hB dX7_best_49 (lv_at hl 0 rfl) ?_
                  refine zz_if_eq X (tgt := 65) dX7_best_51 (by decide) ⟨by omega, by omega⟩ (fun c_51 => ?_) (fun c_51 => ?_)
                  · exfalso; omega
                  · refine lv_sipush (v := nZ 1000) hX hB dX7_best_54 (by decide) ?_
                    refine lv_iload_n hX hB dX7_best_57 rfl (lv_at hl 4 rfl) ?_
                    refine zz_imul X dX7_best_58 (z := 2000) (by first | rfl | omega) ?_
                    refine lv_iload hX hB dX7_best_59 (lv_at hl 5 rfl) ?_
                    refine zz_iadd X dX7_best_61 (z := (2000 + ↑x2)) (by first | rfl | omega) ?_
                    refine lv_goto (tgt := 66) hX hB dX7_best_62 (by decide) ?_
                    refine lv_istore_n (lv' := [(1, .int (nZ (2000 + ↑x2))), (5, .int (nZ 1)), (0, .ref mm), (2, .int (nZ m2)), (3, .int (nZ 2)), (4, .int (nZ ↑x2))]) hX hB dX7_best_66 rfl hl (by decide) rfl (fun ls hl => ?_)
                    refine lv_iload hX hB dX7_best_67 (lv_at hl 1 rfl) ?_
                    refine zz_if_eq X (tgt := 79) dX7_best_69 (by decide) ⟨by omega, by omega⟩ (fun c_69 => ?_) (fun c_69 => ?_)
                    · exfalso; omega
                    · refine lv_aload_n hX hB dX7_best_72 rfl (lv_at hl 2 rfl) ?_
                      refine zCallI0 (zRunV (As := []) X mv_X7_gain (c_X7_gain l D k _ mm ms mk mb vsv vty vth ve2_26 vsp vla vpc s2_26 (push0 B 2 (↑x2 : Int)) hB2_26 (hpl) (by rw [push0_ch]; exact hch)) zw_654 (zPreV hP hD hK [0, 1] rfl rfl 0 7 rfl rfl rfl) rfl hl (Nat.le_of_ble_eq_true rfl) dX7_best_73 ⟨rfl, rfl, ⟨Nat.le_of_ble_eq_true rfl, Nat.le_of_ble_eq_true rfl⟩, Nat.le_of_ble_eq_true rfl, Nat.le_of_ble_eq_true rfl⟩ rfl) hS hP hD hA [0, 1] rfl (fun _ => rfl) (fun r_73 u_73 H locs hq_73 hP hD hS => ?_)
                      obtain ⟨rfl, hlr_73⟩ := hq_73
                      try dsimp only at hlr_73
                      have hP : va_P D vwCl [(mm, .inr (7, [.ref ms, .int (nZ vsv), .ref mk, .ref mb, .int (nZ vty), .int (nZ vth), .int (nZ ve2_26), .int (nZ vsp), .int (nZ vla), .int (nZ vpc)])), (ms, .inl (k 0, 900, .inl (zA s2_26)))] H := hP
                      have hD : va_D A [(mm, .inr (7, [.ref ms, .int (nZ vsv), .ref mk, .ref mb, .int (nZ vty), .int (nZ vth), .int (nZ ve2_26), .int (nZ vsp), .int (nZ vla), .int (nZ vpc)])), (ms, .inl (k 0, 900, .inl (zA s2_26)))] := hD
                      refine lv_goto (tgt := 80) hX hB dX7_best_76 (by decide) ?_
                      refine lv_istore_n (lv' := [(2, .int (nZ (leadG (push0 B 2 (↑x2 : Int))))), (1, .int (nZ (2000 + ↑x2))), (5, .int (nZ 1)), (0, .ref mm), (3, .int (nZ 2)), (4, .int (nZ ↑x2))]) hX hB dX7_best_80 rfl hl (by decide) rfl (fun ls hl => ?_)
                      refine lv_iinc (v := nZ (↑(x2 + 1) : Int)) (lv' := [(4, .int (nZ (↑(x2 + 1) : Int))), (2, .int (nZ (leadG (push0 B 2 (↑x2 : Int))))), (1, .int (nZ (2000 + ↑x2))), (5, .int (nZ 1)), (0, .ref mm), (3, .int (nZ 2))]) hX hB dX7_best_81 hl (k := 5) rfl (zinc (by omega)) (by decide) rfl (fun ls hl => ?_)
                      refine lv_goto (tgt := 14) hX hB dX7_best_84 (by decide) ?_
                      exact ih_14 ((x2 + 1), (2000 + ↑x2), (leadG (push0 B 2 (↑x2 : Int))), s2_26, ve2_26) _ _ _ ⟨(by first | omega | assumption | rfl), (by first | omega | assumption | rfl), (by rw [hq2, show 151 - x2 = (151 - (x2 + 1)) + 1 by omega, bestIn]; dsimp only [leadF]; first | (rw [if_pos (by omega)] <;> (try simp only [Int.zero_add])) | rw [if_neg (by omega)]), (by exact hzz), (by exact hgg), hP, hD, hS, (lv_sub hl [4, 2, 1, 5, 0] rfl)⟩ (by dsimp only; omega)
        · refine lv_aload_n hX hB dX7_best_22 rfl (lv_at hl 0 rfl) ?_
          refine lv_iload_n hX hB dX7_best_23 rfl (lv_at hl 3 rfl) ?_
          refine lv_iload hX hB dX7_best_24 (lv_at hl 4 rfl) ?_
          refine zCallV0 (zRunV (As := [.int (nZ 1), .int (nZ ↑x1)]) X mv_X7_tries (c_X7_tries l D k _ mm ms mk mb vsv vty vth ve1 vsp vla vpc q1 1 B ↑x1 hk1 (by omega) hC1 hcost (by first | assumption | omega | exact ⟨by omega, by omega⟩)) zw_598 (zPreV hP hD hK [0, 1] rfl rfl 0 7 rfl rfl rfl) rfl hl (Nat.le_of_ble_eq_true rfl) dX7_best_26 ⟨rfl, rfl, ⟨Nat.le_of_ble_eq_true rfl, Nat.le_of_ble_eq_true rfl⟩, Nat.le_of_ble_eq_true rfl, Nat.le_of_ble_eq_true rfl⟩ rfl) hS hP hD hA [0, 1] rfl (fun _ => rfl) (fun u_26 H locs hq_26 hP hD hS => ?_)
          obtain ⟨s2_26, ve2_26⟩ := u_26
          obtain ⟨hB2_26, hf2_26, hve_26⟩ := hq_26
          try dsimp only at hB2_26 hf2_26 hve_26
          have hP : va_P D vwCl [(mm, .inr (7, [.ref ms, .int (nZ vsv), .ref mk, .ref mb, .int (nZ vty), .int (nZ vth), .int (nZ ve2_26), .int (nZ vsp), .int (nZ vla), .int (nZ vpc)])), (ms, .inl (k 0, 900, .inl (zA s2_26)))] H := hP
          have hD : va_D A [(mm, .inr (7, [.ref ms, .int (nZ vsv), .ref mk, .ref mb, .int (nZ vty), .int (nZ vth), .int (nZ ve2_26), .int (nZ vsp), .int (nZ vla), .int (nZ vpc)])), (ms, .inl (k 0, 900, .inl (zA s2_26)))] := hD
          have hzz : blkOk s2_26 0 B := hk1.other hf2_26 (by omega)
          have hgg := hg1.trans hf2_26
          have hlr := leadG_rng (C := push0 B 1 (↑x1 : Int)) (by rw [push0_ch]; exact hch) hpl hB2_26.l20
          refine lv_iload_n hX hB dX7_best_29 rfl (lv_at hl 1 rfl) ?_
          refine lv_iconst (v := nZ (-1)) hX hB dX7_best_30 rfl ?_
          refine zz_icmp_eq X (tgt := 42) dX7_best_31 (by decide) ⟨by omega, by omega⟩ ⟨by omega, by omega⟩ (fun c_31 => ?_) (fun c_31 => ?_)
          · refine lv_iconst (v := nZ 1) hX hB dX7_best_42 rfl ?_
            refine lv_goto (tgt := 47) hX hB dX7_best_43 (by decide) ?_
            refine lv_istore (lv' := [(5, .int (nZ 1)), (0, .ref mm), (1, .int (nZ b1)), (2, .int (nZ m1)), (3, .int (nZ 1)), (4, .int (nZ ↑x1))]) hX hB dX7_best_47 hl (by decide) rfl (fun ls hl => ?_)
            refine lv_iload hX hB dX7_best_49 (lv_at hl 0 rfl) ?_
            refine zz_if_eq X (tgt := 65) dX7_best_51 (by decide) ⟨by omega, by omega⟩ (fun c_51 => ?_) (fun c_51 => ?_)
            · exfalso; omega
            · refine lv_sipush (v := nZ 1000) hX hB dX7_best_54 (by decide) ?_
              refine lv_iload_n hX hB dX7_best_57 rfl (lv_at hl 4 rfl) ?_
              refine zz_imul X dX7_best_58 (z := 1000) (by first | rfl | omega) ?_
              refine lv_iload hX hB dX7_best_59 (lv_at hl 5 rfl) ?_
              refine zz_iadd X dX7_best_61 (z := (1000 + ↑x1)) (by first | rfl | omega) ?_
              refine lv_goto (tgt := 66) hX hB dX7_best_62 (by decide) ?_
              refine lv_istore_n (lv' := [(1, .int (nZ (1000 + ↑x1))), (5, .int (nZ 1)), (0, .ref mm), (2, .int (nZ m1)), (3, .int (nZ 1)), (4, .int (nZ ↑x1))]) hX hB dX7_best_66 rfl hl (by decide) rfl (fun ls hl => ?_)
              refine lv_iload hX hB dX7_best_67 (lv_at hl 1 rfl) ?_
              refine zz_if_eq X (tgt := 79) dX7_best_69 (by decide) ⟨by omega, by omega⟩ (fun c_69 => ?_) (fun c_69 => ?_)
              · exfalso; omega
              · refine lv_aload_n hX hB dX7_best_72 rfl (lv_at hl 2 rfl) ?_
                refine zCallI0 (zRunV (As := []) X mv_X7_gain (c_X7_gain l D k _ mm ms mk mb vsv vty vth ve2_26 vsp vla vpc s2_26 (push0 B 1 (↑x1 : Int)) hB2_26 (hpl) (by rw [push0_ch]; exact hch)) zw_654 (zPreV hP hD hK [0, 1] rfl rfl 0 7 rfl rfl rfl) rfl hl (Nat.le_of_ble_eq_true rfl) dX7_best_73 ⟨rfl, rfl, ⟨Nat.le_of_ble_eq_true rfl, Nat.le_of_ble_eq_true rfl⟩, Nat.le_of_ble_eq_true rfl, Nat.le_of_ble_eq_true rfl⟩ rfl) hS hP hD hA [0, 1] rfl (fun _ => rfl) (fun r_73 u_73 H locs hq_73 hP hD hS => ?_)
                obtain ⟨rfl, hlr_73⟩ := hq_73
                try dsimp only at hlr_73
                have hP : va_P D vwCl [(mm, .inr (7, [.ref ms, .int (nZ vsv), .ref mk, .ref mb, .int (nZ vty), .int (nZ vth), .int (nZ ve2_26), .int (nZ vsp), .int (nZ vla), .int (nZ vpc)])), (ms, .inl (k 0, 900, .inl (zA s2_26)))] H := hP
                have hD : va_D A [(mm, .inr (7, [.ref ms, .int (nZ vsv), .ref mk, .ref mb, .int (nZ vty), .int (nZ vth), .int (nZ ve2_26), .int (nZ vsp), .int (nZ vla), .int (nZ vpc)])), (ms, .inl (k 0, 900, .inl (zA s2_26)))] := hD
                refine lv_goto (tgt := 80) hX hB dX7_best_76 (by decide) ?_
                refine lv_istore_n (lv' := [(2, .int (nZ (leadG (push0 B 1 (↑x1 : Int))))), (1, .int (nZ (1000 + ↑x1))), (5, .int (nZ 1)), (0, .ref mm), (3, .int (nZ 1)), (4, .int (nZ ↑x1))]) hX hB dX7_best_80 rfl hl (by decide) rfl (fun ls hl => ?_)
                refine lv_iinc (v := nZ (↑(x1 + 1) : Int)) (lv' := [(4, .int (nZ (↑(x1 + 1) : Int))), (2, .int (nZ (leadG (push0 B 1 (↑x1 : Int))))), (1, .int (nZ (1000 + ↑x1))), (5, .int (nZ 1)), (0, .ref mm), (3, .int (nZ 1))]) hX hB dX7_best_81 hl (k := 5) rfl (zinc (by omega)) (by decide) rfl (fun ls hl => ?_)
                refine lv_goto (tgt := 14) hX hB dX7_best_84 (by decide) ?_
                exact ih_14 ((x1 + 1), (1000 + ↑x1), (leadG (push0 B 1 (↑x1 : Int))), s2_26, ve2_26) _ _ _ ⟨(by first | omega | assumption | rfl), (by first | omega | assumption | rfl), (by rw [hq1, show 151 - x1 = (151 - (x1 + 1)) + 1 by omega, bestIn]; dsimp only [leadF]; first | (rw [if_pos (by omega)] <;> (try simp only [Int.zero_add])) | rw [if_neg (by omega)]), (by exact hzz), (by exact hgg), hP, hD, hS, (lv_sub hl [4, 2, 1, 5, 0] rfl)⟩ (by dsimp only; omega)
          · refine lv_aload_n hX hB dX7_best_34 rfl (lv_at hl 0 rfl) ?_
            refine zCallI0 (zRunV (As := []) X mv_X7_gain (c_X7_gain l D k _ mm ms mk mb vsv vty vth ve2_26 vsp vla vpc s2_26 (push0 B 1 (↑x1 : Int)) hB2_26 (hpl) (by rw [push0_ch]; exact hch)) zw_654 (zPreV hP hD hK [0, 1] rfl rfl 0 7 rfl rfl rfl) rfl hl (Nat.le_of_ble_eq_true rfl) dX7_best_35 ⟨rfl, rfl, ⟨Nat.le_of_ble_eq_true rfl, Nat.le_of_ble_eq_true rfl⟩, Nat.le_of_ble_eq_true rfl, Nat.le_of_ble_eq_true rfl⟩ rfl) hS hP hD hA [0, 1] rfl (fun _ => rfl) (fun r_35 u_35 H locs hq_35 hP hD hS => ?_)
            obtain ⟨rfl, hlr_35⟩ := hq_35
            try dsimp only at hlr_35
            have hP : va_P D vwCl [(mm, .inr (7, [.ref ms, .int (nZ vsv), .ref mk, .ref mb, .int (nZ vty), .int (nZ vth), .int (nZ ve2_26), .int (nZ vsp), .int (nZ vla), .int (nZ vpc)])), (ms, .inl (k 0, 900, .inl (zA s2_26)))] H := hP
            have hD : va_D A [(mm, .inr (7, [.ref ms, .int (nZ vsv), .ref mk, .ref mb, .int (nZ vty), .int (nZ vth), .int (nZ ve2_26), .int (nZ vsp), .int (nZ vla), .int (nZ vpc)])), (ms, .inl (k 0, 900, .inl (zA s2_26)))] := hD
            refine lv_iload_n hX hB dX7_best_38 rfl (lv_at hl 2 rfl) ?_
            refine zz_icmp_le X (tgt := 46) dX7_best_39 (by decide) ⟨by omega, by omega⟩ ⟨by omega, by omega⟩ (fun c_39 => ?_) (fun c_39 => ?_)
            · refine lv_iconst (v := nZ 0) hX hB dX7_best_46 rfl ?_
              refine lv_istore (lv' := [(5, .int (nZ 0)), (0, .ref mm), (1, .int (nZ b1)), (2, .int (nZ m1)), (3, .int (nZ 1)), (4, .int (nZ ↑x1))]) hX hB dX7_best_47 hl (by decide) rfl (fun ls hl => ?_)
              refine lv_iload hX hB dX7_best_49 (lv_at hl 0 rfl) ?_
              refine zz_if_eq X (tgt := 65) dX7_best_51 (by decide) ⟨by omega, by omega⟩ (fun c_51 => ?_) (fun c_51 => ?_)
              · refine lv_iload_n hX hB dX7_best_65 rfl (lv_at hl 2 rfl) ?_
                refine lv_istore_n (lv' := [(1, .int (nZ b1)), (5, .int (nZ 0)), (0, .ref mm), (2, .int (nZ m1)), (3, .int (nZ 1)), (4, .int (nZ ↑x1))]) hX hB dX7_best_66 rfl hl (by decide) rfl (fun ls hl => ?_)
                refine lv_iload hX hB dX7_best_67 (lv_at hl 1 rfl) ?_
                refine zz_if_eq X (tgt := 79) dX7_best_69 (by decide) ⟨by omega, by omega⟩ (fun c_69 => ?_) (fun c_69 => ?_)
                · refine lv_iload_n hX hB dX7_best_79 rfl (lv_at hl 3 rfl) ?_
                  refine lv_istore_n (lv' := [(2, .int (nZ m1)), (1, .int (nZ b1)), (5, .int (nZ 0)), (0, .ref mm), (3, .int (nZ 1)), (4, .int (nZ ↑x1))]) hX hB dX7_best_80 rfl hl (by decide) rfl (fun ls hl => ?_)
                  refine lv_iinc (v := nZ (↑(x1 + 1) : Int)) (lv' := [(4, .int (nZ (↑(x1 + 1) : Int))), (2, .int (nZ m1)), (1, .int (nZ b1)), (5, .int (nZ 0)), (0, .ref mm), (3, .int (nZ 1))]) hX hB dX7_best_81 hl (k := 5) rfl (zinc (by omega)) (by decide) rfl (fun ls hl => ?_)
                  refine lv_goto (tgt := 14) hX hB dX7_best_84 (by decide) ?_
                  exact ih_14 ((x1 + 1), b1, m1, s2_26, ve2_26) _ _ _ ⟨(by first | omega | assumption | rfl), (by first | omega | assumption | rfl), (by rw [hq1, show 151 - x1 = (151 - (x1 + 1)) + 1 by omega, bestIn]; dsimp only [leadF]; first | (rw [if_pos (by omega)] <;> (try simp only [Int.zero_add])) | rw [if_neg (by omega)]), (by exact hzz), (by exact hgg), hP, hD, hS, (lv_sub hl [4, 2, 1, 5, 0] rfl)⟩ (by dsimp only; omega)
                · exfalso; omega
              · exfalso; omega
            · refine lv_iconst (v := nZ 1) hX hB dX7_best_42 rfl ?_
              refine lv_goto (tgt := 47) hX hB dX7_best_43 (by decide) ?_
              refine lv_istore (lv' := [(5, .int (nZ 1)), (0, .ref mm), (1, .int (nZ b1)), (2, .int (nZ m1)), (3, .int (nZ 1)), (4, .int (nZ ↑x1))]) hX hB dX7_best_47 hl (by decide) rfl (fun ls hl => ?_)
              refine lv_iload hX hB dX7_best_49 (lv_at hl 0 rfl) ?_
              refine zz_if_eq X (tgt := 65) dX7_best_51 (by decide) ⟨by omega, by omega⟩ (fun c_51 => ?_) (fun c_51 => ?_)
              · exfalso; omega
              · refine lv_sipush (v := nZ 1000) hX hB dX7_best_54 (by decide) ?_
                refine lv_iload_n hX hB dX7_best_57 rfl (lv_at hl 4 rfl) ?_
                refine zz_imul X dX7_best_58 (z := 1000) (by first | rfl | omega) ?_
                refine lv_iload hX hB dX7_best_59 (lv_at hl 5 rfl) ?_
                refine zz_iadd X dX7_best_61 (z := (1000 + ↑x1)) (by first | rfl | omega) ?_
                refine lv_goto (tgt := 66) hX hB dX7_best_62 (by decide) ?_
                refine lv_istore_n (lv' := [(1, .int (nZ (1000 + ↑x1))), (5, .int (nZ 1)), (0, .ref mm), (2, .int (nZ m1)), (3, .int (nZ 1)), (4, .int (nZ ↑x1))]) hX hB dX7_best_66 rfl hl (by decide) rfl (fun ls hl => ?_)
                refine lv_iload hX hB dX7_best_67 (lv_at hl 1 rfl) ?_
                refine zz_if_eq X (tgt := 79) dX7_best_69 (by decide) ⟨by omega, by omega⟩ (fun c_69 => ?_) (fun c_69 => ?_)
                · exfalso; omega
                · refine lv_aload_n hX hB dX7_best_72 rfl (lv_at hl 2 rfl) ?_
                  refine zCallI0 (zRunV (As := []) X mv_X7_gain (c_X7_gain l D k _ mm ms mk mb vsv vty vth ve2_26 vsp vla vpc s2_26 (push0 B 1 (↑x1 : Int)) hB2_26 (hpl) (by rw [push0_ch]; exact hch)) zw_654 (zPreV hP hD hK [0, 1] rfl rfl 0 7 rfl rfl rfl) rfl hl (Nat.le_of_ble_eq_true rfl) dX7_best_73 ⟨rfl, rfl, ⟨Nat.le_of_ble_eq_true rfl, Nat.le_of_ble_eq_true rfl⟩, Nat.le_of_ble_eq_true rfl, Nat.le_of_ble_eq_true rfl⟩ rfl) hS hP hD hA [0, 1] rfl (fun _ => rfl) (fun r_73 u_73 H locs hq_73 hP hD hS => ?_)
                  obtain ⟨rfl, hlr_73⟩ := hq_73
                  try dsimp only at hlr_73
                  have hP : va_P D vwCl [(mm, .inr (7, [.ref ms, .int (nZ vsv), .ref mk, .ref mb, .int (nZ vty), .int (nZ vth), .int (nZ ve2_26), .int (nZ vsp), .int (nZ vla), .int (nZ vpc)])), (ms, .inl (k 0, 900, .inl (zA s2_26)))] H := hP
                  have hD : va_D A [(mm, .inr (7, [.ref ms, .int (nZ vsv), .ref mk, .ref mb, .int (nZ vty), .int (nZ vth), .int (nZ ve2_26), .int (nZ vsp), .int (nZ vla), .int (nZ vpc)])), (ms, .inl (k 0, 900, .inl (zA s2_26)))] := hD
                  refine lv_goto (tgt := 80) hX hB dX7_best_76 (by decide) ?_
                  refine lv_istore_n (lv' := [(2, .int (nZ (leadG (push0 B 1 (↑x1 : Int))))), (1, .int (nZ (1000 + ↑x1))), (5, .int (nZ 1)), (0, .ref mm), (3, .int (nZ 1)), (4, .int (nZ ↑x1))]) hX hB dX7_best_80 rfl hl (by decide) rfl (fun ls hl => ?_)
                  refine lv_iinc (v := nZ (↑(x1 + 1) : Int)) (lv' := [(4, .int (nZ (↑(x1 + 1) : Int))), (2, .int (nZ (leadG (push0 B 1 (↑x1 : Int))))), (1, .int (nZ (1000 + ↑x1))), (5, .int (nZ 1)), (0, .ref mm), (3, .int (nZ 1))]) hX hB dX7_best_81 hl (k := 5) rfl (zinc (by omega)) (by decide) rfl (fun ls hl => ?_)
                  refine lv_goto (tgt := 14) hX hB dX7_best_84 (by decide) ?_
                  exact ih_14 ((x1 + 1), (1000 + ↑x1), (leadG (push0 B 1 (↑x1 : Int))), s2_26, ve2_26) _ _ _ ⟨(by first | omega | assumption | rfl), (by first | omega | assumption | rfl), (by rw [hq1, show 151 - x1 = (151 - (x1 + 1)) + 1 by omega, bestIn]; dsimp only [leadF]; first | (rw [if_pos (by omega)] <;> (try simp only [Int.zero_add])) | rw [if_neg (by omega)]), (by exact hzz), (by exact hgg), hP, hD, hS, (lv_sub hl [4, 2, 1, 5, 0] rfl)⟩ (by dsimp only; omega)
    · refine lv_aload_n hX hB dX7_best_22 rfl (lv_at hl 0 rfl) ?_
      refine lv_iload_n hX hB dX7_best_23 rfl (lv_at hl 3 rfl) ?_
      refine lv_iload hX hB dX7_best_24 (lv_at hl 4 rfl) ?_
      refine zCallV0 (zRunV (As := [.int (nZ 0), .int (nZ ↑x0)]) X mv_X7_tries (c_X7_tries l D k _ mm ms mk mb vsv vty vth ve0 vsp vla vpc q0 0 B ↑x0 hk0 (by omega) hC0 hcost (by first | assumption | omega | exact ⟨by omega, by omega⟩)) zw_598 (zPreV hP hD hK [0, 1] rfl rfl 0 7 rfl rfl rfl) rfl hl (Nat.le_of_ble_eq_true rfl) dX7_best_26 ⟨rfl, rfl, ⟨Nat.le_of_ble_eq_true rfl, Nat.le_of_ble_eq_true rfl⟩, Nat.le_of_ble_eq_true rfl, Nat.le_of_ble_eq_true rfl⟩ rfl) hS hP hD hA [0, 1] rfl (fun _ => rfl) (fun u_26 H locs hq_26 hP hD hS => ?_)
      obtain ⟨s2_26, ve2_26⟩ := u_26
      obtain ⟨hB2_26, hf2_26, hve_26⟩ := hq_26
      try dsimp only at hB2_26 hf2_26 hve_26
      have hP : va_P D vwCl [(mm, .inr (7, [.ref ms, .int (nZ vsv), .ref mk, .ref mb, .int (nZ vty), .int (nZ vth), .int (nZ ve2_26), .int (nZ vsp), .int (nZ vla), .int (nZ vpc)])), (ms, .inl (k 0, 900, .inl (zA s2_26)))] H := hP
      have hD : va_D A [(mm, .inr (7, [.ref ms, .int (nZ vsv), .ref mk, .ref mb, .int (nZ vty), .int (nZ vth), .int (nZ ve2_26), .int (nZ vsp), .int (nZ vla), .int (nZ vpc)])), (ms, .inl (k 0, 900, .inl (zA s2_26)))] := hD
      have hzz : blkOk s2_26 0 B := hk0.other hf2_26 (by omega)
      have hgg := hg0.trans hf2_26
      have hlr := leadG_rng (C := push0 B 0 (↑x0 : Int)) (by rw [push0_ch]; exact hch) hpl hB2_26.l20
      refine lv_iload_n hX hB dX7_best_29 rfl (lv_at hl 1 rfl) ?_
      refine lv_iconst (v := nZ (-1)) hX hB dX7_best_30 rfl ?_
      refine zz_icmp_eq X (tgt := 42) dX7_best_31 (by decide) ⟨by omega, by omega⟩ ⟨by omega, by omega⟩ (fun c_31 => ?_) (fun c_31 => ?_)
      · refine lv_iconst (v := nZ 1) hX hB dX7_best_42 rfl ?_
        refine lv_goto (tgt := 47) hX hB dX7_best_43 (by decide) ?_
        refine lv_istore (lv' := [(5, .int (nZ 1)), (0, .ref mm), (1, .int (nZ b0)), (2, .int (nZ m0)), (3, .int (nZ 0)), (4, .int (nZ ↑x0))]) hX hB dX7_best_47 hl (by decide) rfl (fun ls hl => ?_)
        refine lv_iload hX hB dX7_best_49 (lv_at hl 0 rfl) ?_
        refine zz_if_eq X (tgt := 65) dX7_best_51 (by decide) ⟨by omega, by omega⟩ (fun c_51 => ?_) (fun c_51 => ?_)
        · exfalso; omega
        · refine lv_sipush (v := nZ 1000) hX hB dX7_best_54 (by decide) ?_
          refine lv_iload_n hX hB dX7_best_57 rfl (lv_at hl 4 rfl) ?_
          refine zz_imul X dX7_best_58 (z := 0) (by first | rfl | omega) ?_
          refine lv_iload hX hB dX7_best_59 (lv_at hl 5 rfl) ?_
          refine zz_iadd X dX7_best_61 (z := ↑x0) (by first | rfl | omega) ?_
          refine lv_goto (tgt := 66) hX hB dX7_best_62 (by decide) ?_
          refine lv_istore_n (lv' := [(1, .int (nZ ↑x0)), (5, .int (nZ 1)), (0, .ref mm), (2, .int (nZ m0)), (3, .int (nZ 0)), (4, .int (nZ ↑x0))]) hX hB dX7_best_66 rfl hl (by decide) rfl (fun ls hl => ?_)
          refine lv_iload hX hB dX7_best_67 (lv_at hl 1 rfl) ?_
          refine zz_if_eq X (tgt := 79) dX7_best_69 (by decide) ⟨by omega, by omega⟩ (fun c_69 => ?_) (fun c_69 => ?_)
          · exfalso; omega
          · refine lv_aload_n hX hB dX7_best_72 rfl (lv_at hl 2 rfl) ?_
            refine zCallI0 (zRunV (As := []) X mv_X7_gain (c_X7_gain l D k _ mm ms mk mb vsv vty vth ve2_26 vsp vla vpc s2_26 (push0 B 0 (↑x0 : Int)) hB2_26 (hpl) (by rw [push0_ch]; exact hch)) zw_654 (zPreV hP hD hK [0, 1] rfl rfl 0 7 rfl rfl rfl) rfl hl (Nat.le_of_ble_eq_true rfl) dX7_best_73 ⟨rfl, rfl, ⟨Nat.le_of_ble_eq_true rfl, Nat.le_of_ble_eq_true rfl⟩, Nat.le_of_ble_eq_true rfl, Nat.le_of_ble_eq_true rfl⟩ rfl) hS hP hD hA [0, 1] rfl (fun _ => rfl) (fun r_73 u_73 H locs hq_73 hP hD hS => ?_)
            obtain ⟨rfl, hlr_73⟩ := hq_73
            try dsimp only at hlr_73
            have hP : va_P D vwCl [(mm, .inr (7, [.ref ms, .int (nZ vsv), .ref mk, .ref mb, .int (nZ vty), .int (nZ vth), .int (nZ ve2_26), .int (nZ vsp), .int (nZ vla), .int (nZ vpc)])), (ms, .inl (k 0, 900, .inl (zA s2_26)))] H := hP
            have hD : va_D A [(mm, .inr (7, [.ref ms, .int (nZ vsv), .ref mk, .ref mb, .int (nZ vty), .int (nZ vth), .int (nZ ve2_26), .int (nZ vsp), .int (nZ vla), .int (nZ vpc)])), (ms, .inl (k 0, 900, .inl (zA s2_26)))] := hD
            refine lv_goto (tgt := 80) hX hB dX7_best_76 (by decide) ?_
            refine lv_istore_n (lv' := [(2, .int (nZ (leadG (push0 B 0 (↑x0 : Int))))), (1, .int (nZ ↑x0)), (5, .int (nZ 1)), (0, .ref mm), (3, .int (nZ 0)), (4, .int (nZ ↑x0))]) hX hB dX7_best_80 rfl hl (by decide) rfl (fun ls hl => ?_)
            refine lv_iinc (v := nZ (↑(x0 + 1) : Int)) (lv' := [(4, .int (nZ (↑(x0 + 1) : Int))), (2, .int (nZ (leadG (push0 B 0 (↑x0 : Int))))), (1, .int (nZ ↑x0)), (5, .int (nZ 1)), (0, .ref mm), (3, .int (nZ 0))]) hX hB dX7_best_81 hl (k := 5) rfl (zinc (by omega)) (by decide) rfl (fun ls hl => ?_)
            refine lv_goto (tgt := 14) hX hB dX7_best_84 (by decide) ?_
            exact ih_14 ((x0 + 1), ↑x0, (leadG (push0 B 0 (↑x0 : Int))), s2_26, ve2_26) _ _ _ ⟨(by first | omega | assumption | rfl), (by first | omega | assumption | rfl), (by rw [hq0, show 151 - x0 = (151 - (x0 + 1)) + 1 by omega, bestIn]; dsimp only [leadF]; first | (rw [if_pos (by omega)] <;> (try simp only [Int.zero_add])) | rw [if_neg (by omega)]), (by exact hzz), (by exact hgg), hP, hD, hS, (lv_sub hl [4, 2, 1, 5, 0] rfl)⟩ (by dsimp only; omega)
      · refine lv_aload_n hX hB dX7_best_34 rfl (lv_at hl 0 rfl) ?_
        refine zCallI0 (zRunV (As := []) X mv_X7_gain (c_X7_gain l D k _ mm ms mk mb vsv vty vth ve2_26 vsp vla vpc s2_26 (push0 B 0 (↑x0 : Int)) hB2_26 (hpl) (by rw [push0_ch]; exact hch)) zw_654 (zPreV hP hD hK [0, 1] rfl rfl 0 7 rfl rfl rfl) rfl hl (Nat.le_of_ble_eq_true rfl) dX7_best_35 ⟨rfl, rfl, ⟨Nat.le_of_ble_eq_true rfl, Nat.le_of_ble_eq_true rfl⟩, Nat.le_of_ble_eq_true rfl, Nat.le_of_ble_eq_true rfl⟩ rfl) hS hP hD hA [0, 1] rfl (fun _ => rfl) (fun r_35 u_35 H locs hq_35 hP hD hS => ?_)
        obtain ⟨rfl, hlr_35⟩ := hq_35
        try dsimp only at hlr_35
        have hP : va_P D vwCl [(mm, .inr (7, [.ref ms, .int (nZ vsv), .ref mk, .ref mb, .int (nZ vty), .int (nZ vth), .int (nZ ve2_26), .int (nZ vsp), .int (nZ vla), .int (nZ vpc)])), (ms, .inl (k 0, 900, .inl (zA s2_26)))] H := hP
        have hD : va_D A [(mm, .inr (7, [.ref ms, .int (nZ vsv), .ref mk, .ref mb, .int (nZ vty), .int (nZ vth), .int (nZ ve2_26), .int (nZ vsp), .int (nZ vla), .int (nZ vpc)])), (ms, .inl (k 0, 900, .inl (zA s2_26)))] := hD
        refine lv_iload_n hX hB dX7_best_38 rfl (lv_at hl 2 rfl) ?_
        refine zz_icmp_le X (tgt := 46) dX7_best_39 (by decide) ⟨by omega, by omega⟩ ⟨by omega, by omega⟩ (fun c_39 => ?_) (fun c_39 => ?_)
        · refine lv_iconst (v := nZ 0) hX hB dX7_best_46 rfl ?_
          refine lv_istore (lv' := [(5, .int (nZ 0)), (0, .ref mm), (1, .int (nZ b0)), (2, .int (nZ m0)), (3, .int (nZ 0)), (4, .int (nZ ↑x0))]) hX hB dX7_best_47 hl (by decide) rfl (fun ls hl => ?_)
          refine lv_iload hX hB dX7_best_49 (lv_at hl 0 rfl) ?_
          refine zz_if_eq X (tgt := 65) dX7_best_51 (by decide) ⟨by omega, by omega⟩ (fun c_51 => ?_) (fun c_51 => ?_)
          · refine lv_iload_n hX hB dX7_best_65 rfl (lv_at hl 2 rfl) ?_
            refine lv_istore_n (lv' := [(1, .int (nZ b0)), (5, .int (nZ 0)), (0, .ref mm), (2, .int (nZ m0)), (3, .int (nZ 0)), (4, .int (nZ ↑x0))]) hX hB dX7_best_66 rfl hl (by decide) rfl (fun ls hl => ?_)
            refine lv_iload hX hB dX7_best_67 (lv_at hl 1 rfl) ?_
            refine zz_if_eq X (tgt := 79) dX7_best_69 (by decide) ⟨by omega, by omega⟩ (fun c_69 => ?_) (fun c_69 => ?_)
            · refine lv_iload_n hX hB dX7_best_79 rfl (lv_at hl 3 rfl) ?_
              refine lv_istore_n (lv' := [(2, .int (nZ m0)), (1, .int (nZ b0)), (5, .int (nZ 0)), (0, .ref mm), (3, .int (nZ 0)), (4, .int (nZ ↑x0))]) hX hB dX7_best_80 rfl hl (by decide) rfl (fun ls hl => ?_)
              refine lv_iinc (v := nZ (↑(x0 + 1) : Int)) (lv' := [(4, .int (nZ (↑(x0 + 1) : Int))), (2, .int (nZ m0)), (1, .int (nZ b0)), (5, .int (nZ 0)), (0, .ref mm), (3, .int (nZ 0))]) hX hB dX7_best_81 hl (k := 5) rfl (zinc (by omega)) (by decide) rfl (fun ls hl => ?_)
              refine lv_goto (tgt := 14) hX hB dX7_best_84 (by decide) ?_
              exact ih_14 ((x0 + 1), b0, m0, s2_26, ve2_26) _ _ _ ⟨(by first | omega | assumption | rfl), (by first | omega | assumption | rfl), (by rw [hq0, show 151 - x0 = (151 - (x0 + 1)) + 1 by omega, bestIn]; dsimp only [leadF]; first | (rw [if_pos (by omega)] <;> (try simp only [Int.zero_add])) | rw [if_neg (by omega)]), (by exact hzz), (by exact hgg), hP, hD, hS, (lv_sub hl [4, 2, 1, 5, 0] rfl)⟩ (by dsimp only; omega)
            · exfalso; omega
          · exfalso; omega
        · refine lv_iconst (v := nZ 1) hX hB dX7_best_42 rfl ?_
          refine lv_goto (tgt := 47) hX hB dX7_best_43 (by decide) ?_
          refine lv_istore (lv' := [(5, .int (nZ 1)), (0, .ref mm), (1, .int (nZ b0)), (2, .int (nZ m0)), (3, .int (nZ 0)), (4, .int (nZ ↑x0))]) hX hB dX7_best_47 hl (by decide) rfl (fun ls hl => ?_)
          refine lv_iload hX hB dX7_best_49 (lv_at hl 0 rfl) ?_
          refine zz_if_eq X (tgt := 65) dX7_best_51 (by decide) ⟨by omega, by omega⟩ (fun c_51 => ?_) (fun c_51 => ?_)
          · exfalso; omega
          · refine lv_sipush (v := nZ 1000) hX hB dX7_best_54 (by decide) ?_
            refine lv_iload_n hX hB dX7_best_57 rfl (lv_at hl 4 rfl) ?_
            refine zz_imul X dX7_best_58 (z := 0) (by first | rfl | omega) ?_
            refine lv_iload hX hB dX7_best_59 (lv_at hl 5 rfl) ?_
            refine zz_iadd X dX7_best_61 (z := ↑x0) (by first | rfl | omega) ?_
            refine lv_goto (tgt := 66) hX hB dX7_best_62 (by decide) ?_
            refine lv_istore_n (lv' := [(1, .int (nZ ↑x0)), (5, .int (nZ 1)), (0, .ref mm), (2, .int (nZ m0)), (3, .int (nZ 0)), (4, .int (nZ ↑x0))]) hX hB dX7_best_66 rfl hl (by decide) rfl (fun ls hl => ?_)
            refine lv_iload hX hB dX7_best_67 (lv_at hl 1 rfl) ?_
            refine zz_if_eq X (tgt := 79) dX7_best_69 (by decide) ⟨by omega, by omega⟩ (fun c_69 => ?_) (fun c_69 => ?_)
            · exfalso; omega
            · refine lv_aload_n hX hB dX7_best_72 rfl (lv_at hl 2 rfl) ?_
              refine zCallI0 (zRunV (As := []) X mv_X7_gain (c_X7_gain l D k _ mm ms mk mb vsv vty vth ve2_26 vsp vla vpc s2_26 (push0 B 0 (↑x0 : Int)) hB2_26 (hpl) (by rw [push0_ch]; exact hch)) zw_654 (zPreV hP hD hK [0, 1] rfl rfl 0 7 rfl rfl rfl) rfl hl (Nat.le_of_ble_eq_true rfl) dX7_best_73 ⟨rfl, rfl, ⟨Nat.le_of_ble_eq_true rfl, Nat.le_of_ble_eq_true rfl⟩, Nat.le_of_ble_eq_true rfl, Nat.le_of_ble_eq_true rfl⟩ rfl) hS hP hD hA [0, 1] rfl (fun _ => rfl) (fun r_73 u_73 H locs hq_73 hP hD hS => ?_)
              obtain ⟨rfl, hlr_73⟩ := hq_73
              try dsimp only at hlr_73
              have hP : va_P D vwCl [(mm, .inr (7, [.ref ms, .int (nZ vsv), .ref mk, .ref mb, .int (nZ vty), .int (nZ vth), .int (nZ ve2_26), .int (nZ vsp), .int (nZ vla), .int (nZ vpc)])), (ms, .inl (k 0, 900, .inl (zA s2_26)))] H := hP
              have hD : va_D A [(mm, .inr (7, [.ref ms, .int (nZ vsv), .ref mk, .ref mb, .int (nZ vty), .int (nZ vth), .int (nZ ve2_26), .int (nZ vsp), .int (nZ vla), .int (nZ vpc)])), (ms, .inl (k 0, 900, .inl (zA s2_26)))] := hD
              refine lv_goto (tgt := 80) hX hB dX7_best_76 (by decide) ?_
              refine lv_istore_n (lv' := [(2, .int (nZ (leadG (push0 B 0 (↑x0 : Int))))), (1, .int (nZ ↑x0)), (5, .int (nZ 1)), (0, .ref mm), (3, .int (nZ 0)), (4, .int (nZ ↑x0))]) hX hB dX7_best_80 rfl hl (by decide) rfl (fun ls hl => ?_)
              refine lv_iinc (v := nZ (↑(x0 + 1) : Int)) (lv' := [(4, .int (nZ (↑(x0 + 1) : Int))), (2, .int (nZ (leadG (push0 B 0 (↑x0 : Int))))), (1, .int (nZ ↑x0)), (5, .int (nZ 1)), (0, .ref mm), (3, .int (nZ 0))]) hX hB dX7_best_81 hl (k := 5) rfl (zinc (by omega)) (by decide) rfl (fun ls hl => ?_)
              refine lv_goto (tgt := 14) hX hB dX7_best_84 (by decide) ?_
              exact ih_14 ((x0 + 1), ↑x0, (leadG (push0 B 0 (↑x0 : Int))), s2_26, ve2_26) _ _ _ ⟨(by first | omega | assumption | rfl), (by first | omega | assumption | rfl), (by rw [hq0, show 151 - x0 = (151 - (x0 + 1)) + 1 by omega, bestIn]; dsimp only [leadF]; first | (rw [if_pos (by omega)] <;> (try simp only [Int.zero_add])) | rw [if_neg (by omega)]), (by exact hzz), (by exact hgg), hP, hD, hS, (lv_sub hl [4, 2, 1, 5, 0] rfl)⟩ (by dsimp only; omega)
