theorem mv_X7_lay : zMV yX7_lay cX7_lay 2 (some .int) 0 := ⟨zw_450, zw_5, ⟨by decide +kernel, by decide +kernel, by decide +kernel⟩, zw_448, zw_449⟩
set_option maxHeartbeats 4000000 in
set_option maxRecDepth 100000 in
theorem c_X7_lay (l : Launch) (D : va_G) (k : Nat → ClassId) (sz : Nat) (mm ms mk mb : Nat) (vsv vty vth ven vsp vla vpc : Int) (s : Nat → Int) (bf : Nat → Int) (T : List Int) (B : Bd) (n : Nat) (hT : textOk bf vty T) (hBk : blkOk s 0 B) (hG : bdGood B) (hn : vsv = ↑n) (hs : n ≤ 6) (hw : wholeS T) : Met l yX7_lay (zW yX7_lay cX7_lay 2 (some .int)) ({ frames := 5, cells := 0, slots := 0, locals := 106 } : Room) (va_Pc [.ref mm] (zIn D k sz [(mm, .inr (7, [.ref ms, .int (nZ vsv), .ref mk, .ref mb, .int (nZ vty), .int (nZ vth), .int (nZ ven), .int (nZ vsp), .int (nZ vla), .int (nZ vpc)])), (ms, .inl (k 0, 900, .inl (zA s))), (mb, .inl (k 2, 60, .inl (zA bf)))])) (va_Qi (fun (rz : Int32) (uz : (Nat → Int) × Int × Nat × Int × Int) => rz = nZ (layN T) ∧ blkOk uz.1 0 (layF B T) ∧ (∀ k : Nat, 90 ≤ k → k < 810 → uz.1 k = svS s n k) ∧ uz.2.1 = (↑(if n < 6 then n + 1 else 6) : Int) ∧ (∀ Ls : Nat → List Int, putS 0 0 0 (fun _ => []) T = some Ls → ∀ j : Nat, j < 3 → chainS (-5) (Ls j))) (fun (uz : (Nat → Int) × Int × Nat × Int × Int) => zOut D (va_A [(mm, .inr (7, [.ref ms, .int (nZ vsv), .ref mk, .ref mb, .int (nZ vty), .int (nZ vth), .int (nZ ven), .int (nZ vsp), .int (nZ vla), .int (nZ vpc)])), (ms, .inl (k 0, 900, .inl (zA s))), (mb, .inl (k 2, 60, .inl (zA bf)))] sz) [(mm, .inr (7, [.ref ms, .int (nZ uz.2.1), .ref mk, .ref mb, .int (nZ 0), .int (nZ 0), .int (nZ ven), .int (nZ ↑uz.2.2.1), .int (nZ uz.2.2.2.1), .int (nZ uz.2.2.2.2)])), (ms, .inl (k 0, 900, .inl (zA uz.1))), (mb, .inl (k 2, 60, .inl (zA bf)))]) (va_A [(mm, .inr (7, [.ref ms, .int (nZ vsv), .ref mk, .ref mb, .int (nZ vty), .int (nZ vth), .int (nZ ven), .int (nZ vsp), .int (nZ vla), .int (nZ vpc)])), (ms, .inl (k 0, 900, .inl (zA s))), (mb, .inl (k 2, 60, .inl (zA bf)))] sz)) 0 0 (va_A [(mm, .inr (7, [.ref ms, .int (nZ vsv), .ref mk, .ref mb, .int (nZ vty), .int (nZ vth), .int (nZ ven), .int (nZ vsp), .int (nZ vla), .int (nZ vpc)])), (ms, .inl (k 0, 900, .inl (zA s))), (mb, .inl (k 2, 60, .inl (zA bf)))] sz) := by
  refine zEnter (Qf := fun A => va_Qi (fun (rz : Int32) (uz : (Nat → Int) × Int × Nat × Int × Int) => rz = nZ (layN T) ∧ blkOk uz.1 0 (layF B T) ∧ (∀ k : Nat, 90 ≤ k → k < 810 → uz.1 k = svS s n k) ∧ uz.2.1 = (↑(if n < 6 then n + 1 else 6) : Int) ∧ (∀ Ls : Nat → List Int, putS 0 0 0 (fun _ => []) T = some Ls → ∀ j : Nat, j < 3 → chainS (-5) (Ls j))) (fun (uz : (Nat → Int) × Int × Nat × Int × Int) => zOut D A [(mm, .inr (7, [.ref ms, .int (nZ uz.2.1), .ref mk, .ref mb, .int (nZ 0), .int (nZ 0), .int (nZ ven), .int (nZ ↑uz.2.2.1), .int (nZ uz.2.2.2.1), .int (nZ uz.2.2.2.2)])), (ms, .inl (k 0, 900, .inl (zA uz.1))), (mb, .inl (k 2, 60, .inl (zA bf)))]) A) RX7 (by decide) rfl (Nat.le_of_ble_eq_true rfl) ?_
  intro p9 e9 s9 m9 be9 me9 c9 ls A X hin hP hD hS hA hAe hl
  have hX := X.1; have hB := X.2.1; have hz := X.2.2.2.2.1; have hW := X.2.2.2.2.2.1; have hK := X.2.2.2.2.2.2.2; clear hAe
  clear hin
  have hl : lv_has ls 2 [(0, .ref mm)] := hl
  obtain ⟨hn9, hlen9⟩ := hT.len
  have hG0 := hG
  obtain ⟨hcost, hpl, hpu, hwi, hch, hC0, hC1, hC2⟩ := hG0
  refine lv_aload_n hX hB dX7_lay_0 rfl (lv_at hl 0 rfl) ?_
  refine lv_aload_n hX hB dX7_lay_1 rfl (lv_at hl 0 rfl) ?_
  refine zCallI0 (zRunV (As := []) X mv_X7_error (c_X7_error l D k _ mm ms mk mb vsv vty vth ven vsp vla vpc bf T hT) zw_405 (zPreV hP hD hK [0, 2] rfl rfl 0 7 rfl rfl rfl) rfl hl (Nat.le_of_ble_eq_true rfl) dX7_lay_2 ⟨rfl, rfl, ⟨Nat.le_of_ble_eq_true rfl, Nat.le_of_ble_eq_true rfl⟩, Nat.le_of_ble_eq_true rfl, Nat.le_of_ble_eq_true rfl⟩ rfl) hS hP hD hA [0, 2] rfl (fun _ => rfl) (fun r_2 u_2 H locs hq_2 hP hD hS => ?_)
  obtain ⟨sp2_2, la2_2, pl2_2⟩ := u_2
  subst hq_2
  have hP : va_P D vwCl [(mm, .inr (7, [.ref ms, .int (nZ vsv), .ref mk, .ref mb, .int (nZ vty), .int (nZ vth), .int (nZ ven), .int (nZ ↑sp2_2), .int (nZ la2_2), .int (nZ pl2_2)])), (ms, .inl (k 0, 900, .inl (zA s))), (mb, .inl (k 2, 60, .inl (zA bf)))] H := hP
  have hD : va_D A [(mm, .inr (7, [.ref ms, .int (nZ vsv), .ref mk, .ref mb, .int (nZ vty), .int (nZ vth), .int (nZ ven), .int (nZ ↑sp2_2), .int (nZ la2_2), .int (nZ pl2_2)])), (ms, .inl (k 0, 900, .inl (zA s))), (mb, .inl (k 2, 60, .inl (zA bf)))] := hD
  rw [if_pos hw]
  refine lv_iconst (v := nZ (-1)) hX hB dX7_lay_5 rfl ?_
  refine zz_icmp_ne X (tgt := 13) dX7_lay_6 (by decide) ⟨by omega, by omega⟩ ⟨by omega, by omega⟩ (fun c_6 => ?_) (fun c_6 => ?_)
  · exfalso; omega
  · refine lv_iconst (v := nZ 1) hX hB dX7_lay_9 rfl ?_
    refine lv_goto (tgt := 14) hX hB dX7_lay_10 (by decide) ?_
    refine lv_iconst (v := nZ 1) hX hB dX7_lay_14 rfl ?_
    refine zCallI0 (zRunV (As := [.int (nZ 1), .int (nZ 1)]) X mv_X7_goes (c_X7_goes_11 l D k _ mm ms mk mb vsv vty vth ven ↑sp2_2 la2_2 pl2_2 ) zw_245 (zPreV hP hD hK [0] rfl rfl 0 7 rfl rfl rfl) rfl hl (Nat.le_of_ble_eq_true rfl) dX7_lay_15 ⟨rfl, rfl, ⟨Nat.le_of_ble_eq_true rfl, Nat.le_of_ble_eq_true rfl⟩, Nat.le_of_ble_eq_true rfl, Nat.le_of_ble_eq_true rfl⟩ rfl) hS hP hD hA [0] rfl (fun _ => rfl) (fun r_15 u_15 H locs hq_15 hP hD hS => ?_)
    subst hq_15
    have hP : va_P D vwCl [(mm, .inr (7, [.ref ms, .int (nZ vsv), .ref mk, .ref mb, .int (nZ vty), .int (nZ 0), .int (nZ ven), .int (nZ (↑sp2_2 : Int)), .int (nZ la2_2), .int (nZ pl2_2)])), (ms, .inl (k 0, 900, .inl (zA s))), (mb, .inl (k 2, 60, .inl (zA bf)))] H := hP
    have hD : va_D A [(mm, .inr (7, [.ref ms, .int (nZ vsv), .ref mk, .ref mb, .int (nZ vty), .int (nZ 0), .int (nZ ven), .int (nZ (↑sp2_2 : Int)), .int (nZ la2_2), .int (nZ pl2_2)])), (ms, .inl (k 0, 900, .inl (zA s))), (mb, .inl (k 2, 60, .inl (zA bf)))] := hD
    refine zz_if_ne X (tgt := 23) dX7_lay_18 (by decide) ⟨by omega, by omega⟩ (fun c_18 => ?_) (fun c_18 => ?_)
    · refine lv_aload_n hX hB dX7_lay_23 rfl (lv_at hl 0 rfl) ?_
      refine zCallV0 (zRunV (As := []) X mv_X7_saves (c_X7_saves l D k _ mm ms mk mb vsv vty 0 ven (↑sp2_2 : Int) la2_2 pl2_2 s n hn hs) zw_250 (zPreV hP hD hK [0, 1] rfl rfl 0 7 rfl rfl rfl) rfl hl (Nat.le_of_ble_eq_true rfl) dX7_lay_24 ⟨rfl, rfl, ⟨Nat.le_of_ble_eq_true rfl, Nat.le_of_ble_eq_true rfl⟩, Nat.le_of_ble_eq_true rfl, Nat.le_of_ble_eq_true rfl⟩ rfl) hS hP hD hA [0, 1] rfl (fun _ => rfl) (fun u_24 H locs hq_24 hP hD hS => ?_)
      obtain ⟨s2_24, sv2_24⟩ := u_24
      obtain ⟨hv_24, hsv_24⟩ := hq_24
      try dsimp only at hv_24 hsv_24
      have hP : va_P D vwCl [(mm, .inr (7, [.ref ms, .int (nZ sv2_24), .ref mk, .ref mb, .int (nZ vty), .int (nZ 0), .int (nZ ven), .int (nZ (↑sp2_2 : Int)), .int (nZ la2_2), .int (nZ pl2_2)])), (ms, .inl (k 0, 900, .inl (zA s2_24))), (mb, .inl (k 2, 60, .inl (zA bf)))] H := hP
      have hD : va_D A [(mm, .inr (7, [.ref ms, .int (nZ sv2_24), .ref mk, .ref mb, .int (nZ vty), .int (nZ 0), .int (nZ ven), .int (nZ (↑sp2_2 : Int)), .int (nZ la2_2), .int (nZ pl2_2)])), (ms, .inl (k 0, 900, .inl (zA s2_24))), (mb, .inl (k 2, 60, .inl (zA bf)))] := hD
      have hb1 : blkOk s2_24 0 B := sv_lo hBk hv_24
      refine lv_aload_n hX hB dX7_lay_27 rfl (lv_at hl 0 rfl) ?_
      refine lv_iconst (v := nZ 0) hX hB dX7_lay_28 rfl ?_
      refine lv_bipush (v := nZ 9) hX hB dX7_lay_29 (by decide) ?_
      refine zCallV0 (zRunV (As := [.int (nZ 0), .int (nZ 9)]) X mv_X7_copies (c_X7_copies l D k _ mm ms mk mb sv2_24 vty 0 ven (↑sp2_2 : Int) la2_2 pl2_2 s2_24 0 9 (by first | assumption | omega | exact ⟨by omega, by omega⟩) (by first | assumption | omega | exact ⟨by omega, by omega⟩)) zw_255 (zPreV hP hD hK [0, 1] rfl rfl 0 7 rfl rfl rfl) rfl hl (Nat.le_of_ble_eq_true rfl) dX7_lay_31 ⟨rfl, rfl, ⟨Nat.le_of_ble_eq_true rfl, Nat.le_of_ble_eq_true rfl⟩, Nat.le_of_ble_eq_true rfl, Nat.le_of_ble_eq_true rfl⟩ rfl) hS hP hD hA [0, 1] rfl (fun _ => rfl) (fun u_31 H locs hq_31 hP hD hS => ?_)
      obtain ⟨s2_31, e9⟩ : ∃ z9, z9 = u_31 := ⟨_, rfl⟩; subst e9
      have hc_31 := hq_31
      try dsimp only at hc_31
      have hP : va_P D vwCl [(mm, .inr (7, [.ref ms, .int (nZ sv2_24), .ref mk, .ref mb, .int (nZ vty), .int (nZ 0), .int (nZ ven), .int (nZ (↑sp2_2 : Int)), .int (nZ la2_2), .int (nZ pl2_2)])), (ms, .inl (k 0, 900, .inl (zA s2_31))), (mb, .inl (k 2, 60, .inl (zA bf)))] H := hP
      have hD : va_D A [(mm, .inr (7, [.ref ms, .int (nZ sv2_24), .ref mk, .ref mb, .int (nZ vty), .int (nZ 0), .int (nZ ven), .int (nZ (↑sp2_2 : Int)), .int (nZ la2_2), .int (nZ pl2_2)])), (ms, .inl (k 0, 900, .inl (zA s2_31))), (mb, .inl (k 2, 60, .inl (zA bf)))] := hD
      have hb8 : blkOk s2_31 810 B := cp_blk (f := 0) (t := 9) hb1 hc_31
      have hb9 : blkOk s2_31 0 B := hb1.other (cp_fr (t := 9) hc_31) (by omega)
      refine lv_aload_n hX hB dX7_lay_34 rfl (lv_at hl 0 rfl) ?_
      refine zCallV0 (zRunV (As := []) X mv_X7_clears (c_X7_clears l D k _ mm ms mk mb sv2_24 vty 0 ven (↑sp2_2 : Int) la2_2 pl2_2 s2_31 B hb9) zw_302 (zPreV hP hD hK [0, 1] rfl rfl 0 7 rfl rfl rfl) rfl hl (Nat.le_of_ble_eq_true rfl) dX7_lay_35 ⟨rfl, rfl, ⟨Nat.le_of_ble_eq_true rfl, Nat.le_of_ble_eq_true rfl⟩, Nat.le_of_ble_eq_true rfl, Nat.le_of_ble_eq_true rfl⟩ rfl) hS hP hD hA [0, 1] rfl (fun _ => rfl) (fun u_35 H locs hq_35 hP hD hS => ?_)
      obtain ⟨s2_35, e9⟩ : ∃ z9, z9 = u_35 := ⟨_, rfl⟩; subst e9
      obtain ⟨hB2_35, hf2_35⟩ := hq_35
      try dsimp only at hB2_35 hf2_35
      have hP : va_P D vwCl [(mm, .inr (7, [.ref ms, .int (nZ sv2_24), .ref mk, .ref mb, .int (nZ vty), .int (nZ 0), .int (nZ ven), .int (nZ (↑sp2_2 : Int)), .int (nZ la2_2), .int (nZ pl2_2)])), (ms, .inl (k 0, 900, .inl (zA s2_35))), (mb, .inl (k 2, 60, .inl (zA bf)))] H := hP
      have hD : va_D A [(mm, .inr (7, [.ref ms, .int (nZ sv2_24), .ref mk, .ref mb, .int (nZ vty), .int (nZ 0), .int (nZ ven), .int (nZ (↑sp2_2 : Int)), .int (nZ la2_2), .int (nZ pl2_2)])), (ms, .inl (k 0, 900, .inl (zA s2_35))), (mb, .inl (k 2, 60, .inl (zA bf)))] := hD
      refine lv_aload_n hX hB dX7_lay_38 rfl (lv_at hl 0 rfl) ?_
      refine lv_iconst (v := nZ 0) hX hB dX7_lay_39 rfl ?_
      refine va_put (v := .int (nZ 0)) (ty := tyX7 7) hX hB hz inlX7 tyX7 tyX7_ok nmX7 hW hK.1 hP hD hS 0 rfl rfl 7 (by decide) (hz _ zw_409) (fun _ h9 => h9) rfl (by decide +kernel) rfl rfl (Nat.le_of_ble_eq_true rfl) dX7_lay_40 (fun H locs hP hD hS => ?_)
      have hP : va_P D vwCl [(mm, .inr (7, [.ref ms, .int (nZ sv2_24), .ref mk, .ref mb, .int (nZ vty), .int (nZ 0), .int (nZ ven), .int (nZ 0), .int (nZ la2_2), .int (nZ pl2_2)])), (ms, .inl (k 0, 900, .inl (zA s2_35))), (mb, .inl (k 2, 60, .inl (zA bf)))] H := hP
      have hD : va_D A [(mm, .inr (7, [.ref ms, .int (nZ sv2_24), .ref mk, .ref mb, .int (nZ vty), .int (nZ 0), .int (nZ ven), .int (nZ 0), .int (nZ la2_2), .int (nZ pl2_2)])), (ms, .inl (k 0, 900, .inl (zA s2_35))), (mb, .inl (k 2, 60, .inl (zA bf)))] := hD
      refine lv_iconst (v := nZ 1) hX hB dX7_lay_43 rfl ?_
      refine lv_istore_n (lv' := [(1, .int (nZ 1)), (0, .ref mm)]) hX hB dX7_lay_44 rfl hl (by decide) rfl (fun ls hl => ?_)
      refine zLoop (σ := Nat × Int × (Nat → List Int) × (Nat → Int) × Int × Int) (fun (x : Nat × Int × (Nat → List Int) × (Nat → Int) × Int × Int) (H : Heap) (locs : List Loc) (ls : Array Slot) => match x with | (i, cn, Ls, q, la, pl) => (blkOk q 0 (B.1, Ls)) ∧ (frOk s2_31 q 0) ∧ (layI T i cn Ls) ∧ (∀ j : Nat, j < 3 → chainS (-5) (Ls j)) ∧ va_P D vwCl [(mm, .inr (7, [.ref ms, .int (nZ sv2_24), .ref mk, .ref mb, .int (nZ vty), .int (nZ 0), .int (nZ ven), .int (nZ ↑i), .int (nZ la), .int (nZ pl)])), (ms, .inl (k 0, 900, .inl (zA q))), (mb, .inl (k 2, 60, .inl (zA bf)))] H ∧ va_D A [(mm, .inr (7, [.ref ms, .int (nZ sv2_24), .ref mk, .ref mb, .int (nZ vty), .int (nZ 0), .int (nZ ven), .int (nZ ↑i), .int (nZ la), .int (nZ pl)])), (ms, .inl (k 0, 900, .inl (zA q))), (mb, .inl (k 2, 60, .inl (zA bf)))] ∧ va_S A s9.heap H locs ∧ lv_has ls 2 [(0, .ref mm), (1, .int (nZ cn))]) (fun (x : Nat × Int × (Nat → List Int) × (Nat → Int) × Int × Int) => match x with | (i, cn, Ls, q, la, pl) => T.length + 2 - i) ?_ (0, 1, (fun _ => []), s2_35, la2_2, pl2_2) ⟨(by exact hB2_35), (by exact hf2_35), (by exact layI_0 hw), (by intro j _; trivial), hP, hD, hS, (lv_sub hl [1, 0] rfl)⟩
      rintro ⟨i, cn, Ls, q, la, pl⟩ H locs ls ⟨hq, hf, hI, hC9, hP, hD, hS, hl⟩ ih_45
      have hcn := layI_cn hI
      refine lv_iload_n hX hB dX7_lay_45 rfl (lv_at hl 1 rfl) ?_
      refine zz_if_eq X (tgt := 75) dX7_lay_46 (by decide) ⟨by omega, by omega⟩ (fun c_46 => ?_) (fun c_46 => ?_)
      · refine lv_aload_n hX hB dX7_lay_75 rfl (lv_at hl 0 rfl) ?_
        refine lv_iconst (v := nZ 0) hX hB dX7_lay_76 rfl ?_
        refine va_put (v := .int (nZ 0)) (ty := tyX7 4) hX hB hz inlX7 tyX7 tyX7_ok nmX7 hW hK.1 hP hD hS 0 rfl rfl 4 (by decide) (hz _ zw_372) (fun _ h9 => h9) rfl (by decide +kernel) rfl rfl (Nat.le_of_ble_eq_true rfl) dX7_lay_77 (fun H locs hP hD hS => ?_)
        have hP : va_P D vwCl [(mm, .inr (7, [.ref ms, .int (nZ sv2_24), .ref mk, .ref mb, .int (nZ 0), .int (nZ 0), .int (nZ ven), .int (nZ ↑i), .int (nZ la), .int (nZ pl)])), (ms, .inl (k 0, 900, .inl (zA q))), (mb, .inl (k 2, 60, .inl (zA bf)))] H := hP
        have hD : va_D A [(mm, .inr (7, [.ref ms, .int (nZ sv2_24), .ref mk, .ref mb, .int (nZ 0), .int (nZ 0), .int (nZ ven), .int (nZ ↑i), .int (nZ la), .int (nZ pl)])), (ms, .inl (k 0, 900, .inl (zA q))), (mb, .inl (k 2, 60, .inl (zA bf)))] := hD
        refine lv_iload_n hX hB dX7_lay_80 rfl (lv_at hl 1 rfl) ?_
        refine zz_if_ne X (tgt := 104) dX7_lay_81 (by decide) ⟨by omega, by omega⟩ (fun c_81 => ?_) (fun c_81 => ?_)
        · exfalso; omega
        · refine lv_aload_n hX hB dX7_lay_84 rfl (lv_at hl 0 rfl) ?_
          refine lv_bipush (v := nZ 9) hX hB dX7_lay_85 (by decide) ?_
          refine lv_iconst (v := nZ 0) hX hB dX7_lay_87 rfl ?_
          refine zCallV0 (zRunV (As := [.int (nZ 9), .int (nZ 0)]) X mv_X7_copies (c_X7_copies l D k _ mm ms mk mb sv2_24 0 0 ven ↑i la pl q 9 0 (by first | assumption | omega | exact ⟨by omega, by omega⟩) (by first | assumption | omega | exact ⟨by omega, by omega⟩)) zw_255 (zPreV hP hD hK [0, 1] rfl rfl 0 7 rfl rfl rfl) rfl hl (Nat.le_of_ble_eq_true rfl) dX7_lay_88 ⟨rfl, rfl, ⟨Nat.le_of_ble_eq_true rfl, Nat.le_of_ble_eq_true rfl⟩, Nat.le_of_ble_eq_true rfl, Nat.le_of_ble_eq_true rfl⟩ rfl) hS hP hD hA [0, 1] rfl (fun _ => rfl) (fun u_88 H locs hq_88 hP hD hS => ?_)
          obtain ⟨s2_88, e9⟩ : ∃ z9, z9 = u_88 := ⟨_, rfl⟩; subst e9
          have hc_88 := hq_88
          try dsimp only at hc_88
          have hP : va_P D vwCl [(mm, .inr (7, [.ref ms, .int (nZ sv2_24), .ref mk, .ref mb, .int (nZ 0), .int (nZ 0), .int (nZ ven), .int (nZ (↑i : Int)), .int (nZ la), .int (nZ pl)])), (ms, .inl (k 0, 900, .inl (zA s2_88))), (mb, .inl (k 2, 60, .inl (zA bf)))] H := hP
          have hD : va_D A [(mm, .inr (7, [.ref ms, .int (nZ sv2_24), .ref mk, .ref mb, .int (nZ 0), .int (nZ 0), .int (nZ ven), .int (nZ (↑i : Int)), .int (nZ la), .int (nZ pl)])), (ms, .inl (k 0, 900, .inl (zA s2_88))), (mb, .inl (k 2, 60, .inl (zA bf)))] := hD
          refine lv_aload_n hX hB dX7_lay_91 rfl (lv_at hl 0 rfl) ?_
          refine va_get hX hB hz inlX7 hW hK.1 hP 0 rfl rfl 0 (by decide) (hz _ zw_74) (fun _ h9 => h9) rfl dX7_lay_92 ?_
          refine lv_bipush (v := nZ 8) hX hB dX7_lay_95 (by decide) ?_
          refine lv_dup2_11 hX hB dX7_lay_97 rfl rfl ?_
          refine zz_iald X hP 1 0 rfl rfl 8 (by omega) (by omega) (by first | decide | omega) dX7_lay_98 ?_
          refine lv_iconst (v := nZ 1) hX hB dX7_lay_99 rfl ?_
          refine zz_iadd X dX7_lay_100 (z := ((s2_88 8) + 1)) (by first | rfl | omega) ?_
          refine zz_iast X hP hD hS 1 0 rfl rfl 8 (by omega) (by omega) (by first | decide | omega) dX7_lay_101 (fun H locs hP hD hS => ?_)
          have hP : va_P D vwCl [(mm, .inr (7, [.ref ms, .int (nZ sv2_24), .ref mk, .ref mb, .int (nZ 0), .int (nZ 0), .int (nZ ven), .int (nZ (↑i : Int)), .int (nZ la), .int (nZ pl)])), (ms, .inl (k 0, 900, .inl (zA (zU s2_88 8 ((s2_88 8) + 1))))), (mb, .inl (k 2, 60, .inl (zA bf)))] H := hP
          have hD : va_D A [(mm, .inr (7, [.ref ms, .int (nZ sv2_24), .ref mk, .ref mb, .int (nZ 0), .int (nZ 0), .int (nZ ven), .int (nZ (↑i : Int)), .int (nZ la), .int (nZ pl)])), (ms, .inl (k 0, 900, .inl (zA (zU s2_88 8 ((s2_88 8) + 1))))), (mb, .inl (k 2, 60, .inl (zA bf)))] := hD
          refine lv_iconst (v := nZ (-1)) hX hB dX7_lay_102 rfl ?_
          have hno := layI_no hI (by omega)
          exact zRetI ((zU s2_88 8 ((s2_88 8) + 1)), sv2_24, i, la, pl) X hP hD hS rfl ⟨by congr 1; unfold layN; rw [hno], by unfold layF; rw [hno]; exact refuse_blk (cp_blk (f := 9) (t := 0) (hb8.other hf (by omega)) hc_88), by intro k h1 h2; dsimp only; rw [zU_ne _ _ (by omega), cp_fr (t := 0) hc_88 k (by omega), hf k (by omega), cp_fr (t := 9) hc_31 k (by omega)]; exact hv_24 k, hsv_24, by intro Ls9 h9; rw [hno] at h9; cases h9⟩ dX7_lay_103
      · have hil := layI_le hI
        refine lv_aload_n hX hB dX7_lay_49 rfl (lv_at hl 0 rfl) ?_
        refine zCallI0 (zRunV (As := []) X mv_X7_readsCoin (c_X7_readsCoin l D k _ mm ms mk mb sv2_24 vty 0 ven la pl bf T i hT (by first | assumption | omega | exact ⟨by omega, by omega⟩)) zw_410 (zPreV hP hD hK [0, 2] rfl rfl 0 7 rfl rfl rfl) rfl hl (Nat.le_of_ble_eq_true rfl) dX7_lay_50 ⟨rfl, rfl, ⟨Nat.le_of_ble_eq_true rfl, Nat.le_of_ble_eq_true rfl⟩, Nat.le_of_ble_eq_true rfl, Nat.le_of_ble_eq_true rfl⟩ rfl) hS hP hD hA [0, 2] rfl (fun _ => rfl) (fun r_50 u_50 H locs hq_50 hP hD hS => ?_)
        obtain ⟨rd_50, sp2_50, la2_50, pl2_50⟩ := u_50
        obtain ⟨rfl, hh_50, hrd_50⟩ := hq_50
        try dsimp only at hh_50 hrd_50
        have hP : va_P D vwCl [(mm, .inr (7, [.ref ms, .int (nZ sv2_24), .ref mk, .ref mb, .int (nZ vty), .int (nZ 0), .int (nZ ven), .int (nZ ↑sp2_50), .int (nZ la2_50), .int (nZ pl2_50)])), (ms, .inl (k 0, 900, .inl (zA q))), (mb, .inl (k 2, 60, .inl (zA bf)))] H := hP
        have hD : va_D A [(mm, .inr (7, [.ref ms, .int (nZ sv2_24), .ref mk, .ref mb, .int (nZ vty), .int (nZ 0), .int (nZ ven), .int (nZ ↑sp2_50), .int (nZ la2_50), .int (nZ pl2_50)])), (ms, .inl (k 0, 900, .inl (zA q))), (mb, .inl (k 2, 60, .inl (zA bf)))] := hD
        refine zz_if_eq X (tgt := 75) dX7_lay_53 (by decide) ⟨by omega, by omega⟩ (fun c_53 => ?_) (fun c_53 => ?_)
        · refine lv_aload_n hX hB dX7_lay_75 rfl (lv_at hl 0 rfl) ?_
          refine lv_iconst (v := nZ 0) hX hB dX7_lay_76 rfl ?_
          refine va_put (v := .int (nZ 0)) (ty := tyX7 4) hX hB hz inlX7 tyX7 tyX7_ok nmX7 hW hK.1 hP hD hS 0 rfl rfl 4 (by decide) (hz _ zw_372) (fun _ h9 => h9) rfl (by decide +kernel) rfl rfl (Nat.le_of_ble_eq_true rfl) dX7_lay_77 (fun H locs hP hD hS => ?_)
          have hP : va_P D vwCl [(mm, .inr (7, [.ref ms, .int (nZ sv2_24), .ref mk, .ref mb, .int (nZ 0), .int (nZ 0), .int (nZ ven), .int (nZ ↑sp2_50), .int (nZ la2_50), .int (nZ pl2_50)])), (ms, .inl (k 0, 900, .inl (zA q))), (mb, .inl (k 2, 60, .inl (zA bf)))] H := hP
          have hD : va_D A [(mm, .inr (7, [.ref ms, .int (nZ sv2_24), .ref mk, .ref mb, .int (nZ 0), .int (nZ 0), .int (nZ ven), .int (nZ ↑sp2_50), .int (nZ la2_50), .int (nZ pl2_50)])), (ms, .inl (k 0, 900, .inl (zA q))), (mb, .inl (k 2, 60, .inl (zA bf)))] := hD
          refine lv_iload_n hX hB dX7_lay_80 rfl (lv_at hl 1 rfl) ?_
          refine zz_if_ne X (tgt := 104) dX7_lay_81 (by decide) ⟨by omega, by omega⟩ (fun c_81 => ?_) (fun c_81 => ?_)
          · refine lv_aload_n hX hB dX7_lay_104 rfl (lv_at hl 0 rfl) ?_
            refine lv_iconst (v := nZ 0) hX hB dX7_lay_105 rfl ?_
            refine zCallI0 (zRunV (As := [.int (nZ 0)]) X mv_X7_coins (c_X7_coins l D k _ mm ms mk mb sv2_24 0 0 ven ↑sp2_50 la2_50 pl2_50 q 0 (B.1, Ls) hq (by first | assumption | omega | exact ⟨by omega, by omega⟩)) zw_455 (zPreV hP hD hK [0, 1] rfl rfl 0 7 rfl rfl rfl) rfl hl (Nat.le_of_ble_eq_true rfl) dX7_lay_106 ⟨rfl, rfl, ⟨Nat.le_of_ble_eq_true rfl, Nat.le_of_ble_eq_true rfl⟩, Nat.le_of_ble_eq_true rfl, Nat.le_of_ble_eq_true rfl⟩ rfl) hS hP hD hA [0, 1] rfl (fun _ => rfl) (fun r_106 u_106 H locs hq_106 hP hD hS => ?_)
            subst hq_106
            have hP : va_P D vwCl [(mm, .inr (7, [.ref ms, .int (nZ sv2_24), .ref mk, .ref mb, .int (nZ 0), .int (nZ 0), .int (nZ ven), .int (nZ (↑sp2_50 : Int)), .int (nZ la2_50), .int (nZ pl2_50)])), (ms, .inl (k 0, 900, .inl (zA q))), (mb, .inl (k 2, 60, .inl (zA bf)))] H := hP
            have hD : va_D A [(mm, .inr (7, [.ref ms, .int (nZ sv2_24), .ref mk, .ref mb, .int (nZ 0), .int (nZ 0), .int (nZ ven), .int (nZ (↑sp2_50 : Int)), .int (nZ la2_50), .int (nZ pl2_50)])), (ms, .inl (k 0, 900, .inl (zA q))), (mb, .inl (k 2, 60, .inl (zA bf)))] := hD
            have hye := layI_end hw hI (by omega) hh_50 (by omega)
            exact zRetI (q, sv2_24, sp2_50, la2_50, pl2_50) X hP hD hS rfl ⟨by congr 1; unfold layN; rw [hye]; rfl, by unfold layF; rw [hye]; exact hq, by intro k h1 h2; dsimp only; rw [hf k (by omega), cp_fr (t := 9) hc_31 k (by omega)]; exact hv_24 k, hsv_24, by intro Ls9 h9; rw [hye] at h9; cases h9; exact hC9⟩ dX7_lay_109
          · exfalso; omega
        · have hr9 := rdOk_1 hh_50 (by omega)
          obtain ⟨jj, hjl, hjj⟩ : ∃ jj : Nat, la2_50 = (jj : Int) ∧ jj < 3 := ⟨la2_50.toNat, by omega, by omega⟩
          subst hjl
          refine lv_aload_n hX hB dX7_lay_56 rfl (lv_at hl 0 rfl) ?_
          refine lv_iconst (v := nZ 0) hX hB dX7_lay_57 rfl ?_
          refine zCallI0 (zRunV (As := [.int (nZ 0)]) X mv_X7_puts (c_X7_puts l D k _ mm ms mk mb sv2_24 vty 0 ven ↑sp2_50 q 0 jj (B.1, Ls) pl2_50 hq (by first | assumption | omega | exact ⟨by omega, by omega⟩) (by first | assumption | omega | exact ⟨by omega, by omega⟩) (hC9 _ (by omega)) (hr9.2.2.2)) zw_451 (zPreV hP hD hK [0, 1] rfl rfl 0 7 rfl rfl rfl) rfl hl (Nat.le_of_ble_eq_true rfl) dX7_lay_58 ⟨rfl, rfl, ⟨Nat.le_of_ble_eq_true rfl, Nat.le_of_ble_eq_true rfl⟩, Nat.le_of_ble_eq_true rfl, Nat.le_of_ble_eq_true rfl⟩ rfl) hS hP hD hA [0, 1] rfl (fun _ => rfl) (fun r_58 u_58 H locs hq_58 hP hD hS => ?_)
          obtain ⟨s2_58, e9⟩ : ∃ z9, z9 = u_58 := ⟨_, rfl⟩; subst e9
          obtain ⟨rfl, hB2_58, hf2_58⟩ := hq_58
          try dsimp only at hB2_58 hf2_58
          have hP : va_P D vwCl [(mm, .inr (7, [.ref ms, .int (nZ sv2_24), .ref mk, .ref mb, .int (nZ vty), .int (nZ 0), .int (nZ ven), .int (nZ (↑sp2_50 : Int)), .int (nZ ↑jj), .int (nZ pl2_50)])), (ms, .inl (k 0, 900, .inl (zA s2_58))), (mb, .inl (k 2, 60, .inl (zA bf)))] H := hP
          have hD : va_D A [(mm, .inr (7, [.ref ms, .int (nZ sv2_24), .ref mk, .ref mb, .int (nZ vty), .int (nZ 0), .int (nZ ven), .int (nZ (↑sp2_50 : Int)), .int (nZ ↑jj), .int (nZ pl2_50)])), (ms, .inl (k 0, 900, .inl (zA s2_58))), (mb, .inl (k 2, 60, .inl (zA bf)))] := hD
          refine lv_istore_n (lv' := [(1, .int (nZ (canS pl2_50 ((B.1, Ls).2 jj)))), (0, .ref mm)]) hX hB dX7_lay_61 rfl hl (by decide) rfl (fun ls hl => ?_)
          refine lv_aload_n hX hB dX7_lay_62 rfl (lv_at hl 1 rfl) ?_
          refine lv_dup hX hB dX7_lay_63 rfl ?_
          refine va_get hX hB hz inlX7 hW hK.1 hP 0 rfl rfl 7 (by decide) (hz _ zw_409) (fun _ h9 => h9) rfl dX7_lay_64 ?_
          refine lv_iconst (v := nZ 1) hX hB dX7_lay_67 rfl ?_
          refine zz_iadd X dX7_lay_68 (z := (↑(sp2_50 + 1) : Int)) (by first | rfl | omega) ?_
          refine va_put (v := .int (nZ (↑(sp2_50 + 1) : Int))) (ty := tyX7 7) hX hB hz inlX7 tyX7 tyX7_ok nmX7 hW hK.1 hP hD hS 0 rfl rfl 7 (by decide) (hz _ zw_409) (fun _ h9 => h9) rfl (by decide +kernel) rfl rfl (Nat.le_of_ble_eq_true rfl) dX7_lay_69 (fun H locs hP hD hS => ?_)
          have hP : va_P D vwCl [(mm, .inr (7, [.ref ms, .int (nZ sv2_24), .ref mk, .ref mb, .int (nZ vty), .int (nZ 0), .int (nZ ven), .int (nZ (↑(sp2_50 + 1) : Int)), .int (nZ ↑jj), .int (nZ pl2_50)])), (ms, .inl (k 0, 900, .inl (zA s2_58))), (mb, .inl (k 2, 60, .inl (zA bf)))] H := hP
          have hD : va_D A [(mm, .inr (7, [.ref ms, .int (nZ sv2_24), .ref mk, .ref mb, .int (nZ vty), .int (nZ 0), .int (nZ ven), .int (nZ (↑(sp2_50 + 1) : Int)), .int (nZ ↑jj), .int (nZ pl2_50)])), (ms, .inl (k 0, 900, .inl (zA s2_58))), (mb, .inl (k 2, 60, .inl (zA bf)))] := hD
          refine lv_goto (tgt := 45) hX hB dX7_lay_72 (by decide) ?_
          exact ih_45 ((sp2_50 + 1), (canS pl2_50 ((B.1, Ls).2 jj)), (putB (B.1, Ls) jj pl2_50).2, s2_58, ↑jj, pl2_50) _ _ _ ⟨(by exact hB2_58), (by exact hf.trans hf2_58), (by exact layI_go hw hI c_46 hh_50 (by omega) rfl), (by exact putB_chain hr9.2.2.2 hC9), hP, hD, hS, (lv_sub hl [1, 0] rfl)⟩ (by dsimp only; omega)
    · exfalso; omega
