theorem mv_X7_push : zMV yX7_push cX7_push 5 (some .int) 2 := ⟨zw_235, zw_5, ⟨by decide +kernel, by decide +kernel, by decide +kernel⟩, zw_233, zw_234⟩
theorem mv_X7_endTurn : zMV yX7_endTurn cX7_endTurn 1 (some .int) 0 := ⟨zw_321, zw_5, ⟨by decide +kernel, by decide +kernel, by decide +kernel⟩, zw_319, zw_320⟩
theorem mv_X7_begin : zMV yX7_begin cX7_begin 3 (some .int) 0 := ⟨zw_335, zw_5, ⟨by decide +kernel, by decide +kernel, by decide +kernel⟩, zw_333, zw_334⟩
theorem mv_X7_set : zMV yX7_set cX7_set 3 (some .int) 1 := ⟨zw_350, zw_5, ⟨by decide +kernel, by decide +kernel, by decide +kernel⟩, zw_348, zw_349⟩
set_option maxHeartbeats 4000000 in
set_option maxRecDepth 100000 in
theorem c_X7_push_play (l : Launch) (D : va_G) (k : Nat → ClassId) (sz : Nat) (mm ms mk mb : Nat) (vsv vty vth ven vsp vla vpc : Int) (s : Nat → Int) (j : Nat) (B : Bd) (n : Nat) (st : Int) (hBk : blkOk s 0 B) (hG : bdGood B) (hn : vsv = ↑n) (hs : n ≤ 6) (hjj : j < 3) (hst : 1 ≤ st ∧ st ≤ 150) (hw : B.1 3 = 0) : Met l yX7_push (zW yX7_push cX7_push 5 (some .int)) ({ frames := 5, cells := 0, slots := 0, locals := 120 } : Room) (va_Pc [.ref mm, .int (nZ ↑j), .int (nZ st)] (zIn D k sz [(mm, .inr (7, [.ref ms, .int (nZ vsv), .ref mk, .ref mb, .int (nZ vty), .int (nZ vth), .int (nZ ven), .int (nZ vsp), .int (nZ vla), .int (nZ vpc)])), (ms, .inl (k 0, 900, .inl (zA s)))])) (va_Qi (fun (rz : Int32) (uz : (Nat → Int) × Int × Int) => rz = nZ (nudS (B.1 0) st (B.2 j)) ∧ blkOk uz.1 0 (pushF B j st) ∧ (∀ k : Nat, 90 ≤ k → uz.1 k = svS s n k) ∧ uz.2.1 = (↑(if n < 6 then n + 1 else 6) : Int)) (fun (uz : (Nat → Int) × Int × Int) => zOut D (va_A [(mm, .inr (7, [.ref ms, .int (nZ vsv), .ref mk, .ref mb, .int (nZ vty), .int (nZ vth), .int (nZ ven), .int (nZ vsp), .int (nZ vla), .int (nZ vpc)])), (ms, .inl (k 0, 900, .inl (zA s)))] sz) [(mm, .inr (7, [.ref ms, .int (nZ uz.2.1), .ref mk, .ref mb, .int (nZ vty), .int (nZ 0), .int (nZ uz.2.2), .int (nZ vsp), .int (nZ vla), .int (nZ vpc)])), (ms, .inl (k 0, 900, .inl (zA uz.1)))]) (va_A [(mm, .inr (7, [.ref ms, .int (nZ vsv), .ref mk, .ref mb, .int (nZ vty), .int (nZ vth), .int (nZ ven), .int (nZ vsp), .int (nZ vla), .int (nZ vpc)])), (ms, .inl (k 0, 900, .inl (zA s)))] sz)) 0 0 (va_A [(mm, .inr (7, [.ref ms, .int (nZ vsv), .ref mk, .ref mb, .int (nZ vty), .int (nZ vth), .int (nZ ven), .int (nZ vsp), .int (nZ vla), .int (nZ vpc)])), (ms, .inl (k 0, 900, .inl (zA s)))] sz) := by
  refine zEnter (Qf := fun A => va_Qi (fun (rz : Int32) (uz : (Nat → Int) × Int × Int) => rz = nZ (nudS (B.1 0) st (B.2 j)) ∧ blkOk uz.1 0 (pushF B j st) ∧ (∀ k : Nat, 90 ≤ k → uz.1 k = svS s n k) ∧ uz.2.1 = (↑(if n < 6 then n + 1 else 6) : Int)) (fun (uz : (Nat → Int) × Int × Int) => zOut D A [(mm, .inr (7, [.ref ms, .int (nZ uz.2.1), .ref mk, .ref mb, .int (nZ vty), .int (nZ 0), .int (nZ uz.2.2), .int (nZ vsp), .int (nZ vla), .int (nZ vpc)])), (ms, .inl (k 0, 900, .inl (zA uz.1)))]) A) RX7 (by decide) rfl (Nat.le_of_ble_eq_true rfl) ?_
  intro p9 e9 s9 m9 be9 me9 c9 ls A X hin hP hD hS hA hAe hl
  have hX := X.1; have hB := X.2.1; have hz := X.2.2.2.2.1; have hW := X.2.2.2.2.2.1; have hK := X.2.2.2.2.2.2.2; clear hAe
  clear hin
  have hl : lv_has ls 5 [(0, .ref mm), (1, .int (nZ ↑j)), (2, .int (nZ st))] := hl
  have hG0 := hG
  obtain ⟨hcost, hpl, hpu, hwi, hch, hC0, hC1, hC2⟩ := hG0
  have hCh := good_ch hG hjj
  refine lv_aload_n hX hB dX7_push_0 rfl (lv_at hl 0 rfl) ?_
  refine lv_iload_n hX hB dX7_push_1 rfl (lv_at hl 1 rfl) ?_
  refine zCallI0 (zRunS X ms_X7_isLane (c_X7_isLane_t l D k _ ↑j (⟨by omega, by omega⟩) (by first | assumption | omega | exact ⟨by omega, by omega⟩)) zw_236 (zPreS hP hD hK [] rfl rfl) rfl hl (Nat.le_of_ble_eq_true rfl) dX7_push_2 ⟨rfl, rfl, ⟨Nat.le_of_ble_eq_true rfl, Nat.le_of_ble_eq_true rfl⟩, Nat.le_of_ble_eq_true rfl, Nat.le_of_ble_eq_true rfl⟩ rfl) hS hP hD hA [] rfl (fun _ => rfl) (fun r_2 u_2 H locs hq_2 hP hD hS => ?_)
  subst hq_2
  have hP : va_P D vwCl [(mm, .inr (7, [.ref ms, .int (nZ vsv), .ref mk, .ref mb, .int (nZ vty), .int (nZ vth), .int (nZ ven), .int (nZ vsp), .int (nZ vla), .int (nZ vpc)])), (ms, .inl (k 0, 900, .inl (zA s)))] H := hP
  have hD : va_D A [(mm, .inr (7, [.ref ms, .int (nZ vsv), .ref mk, .ref mb, .int (nZ vty), .int (nZ vth), .int (nZ ven), .int (nZ vsp), .int (nZ vla), .int (nZ vpc)])), (ms, .inl (k 0, 900, .inl (zA s)))] := hD
  refine lv_iload_n hX hB dX7_push_5 rfl (lv_at hl 2 rfl) ?_
  refine zCallI0 (zRunS X ms_X7_isStrength (c_X7_isStrength_t l D k _ st (⟨by omega, by omega⟩) hst) zw_242 (zPreS hP hD hK [] rfl rfl) rfl hl (Nat.le_of_ble_eq_true rfl) dX7_push_6 ⟨rfl, rfl, ⟨Nat.le_of_ble_eq_true rfl, Nat.le_of_ble_eq_true rfl⟩, Nat.le_of_ble_eq_true rfl, Nat.le_of_ble_eq_true rfl⟩ rfl) hS hP hD hA [] rfl (fun _ => rfl) (fun r_6 u_6 H locs hq_6 hP hD hS => ?_)
  subst hq_6
  have hP : va_P D vwCl [(mm, .inr (7, [.ref ms, .int (nZ vsv), .ref mk, .ref mb, .int (nZ vty), .int (nZ vth), .int (nZ ven), .int (nZ vsp), .int (nZ vla), .int (nZ vpc)])), (ms, .inl (k 0, 900, .inl (zA s)))] H := hP
  have hD : va_D A [(mm, .inr (7, [.ref ms, .int (nZ vsv), .ref mk, .ref mb, .int (nZ vty), .int (nZ vth), .int (nZ ven), .int (nZ vsp), .int (nZ vla), .int (nZ vpc)])), (ms, .inl (k 0, 900, .inl (zA s)))] := hD
  refine zCallI0 (zRunV (As := [.int (nZ 1), .int (nZ 1)]) X mv_X7_goes (c_X7_goes_11 l D k _ mm ms mk mb vsv vty vth ven vsp vla vpc ) zw_245 (zPreV hP hD hK [0] rfl rfl 0 7 rfl rfl rfl) rfl hl (Nat.le_of_ble_eq_true rfl) dX7_push_9 ⟨rfl, rfl, ⟨Nat.le_of_ble_eq_true rfl, Nat.le_of_ble_eq_true rfl⟩, Nat.le_of_ble_eq_true rfl, Nat.le_of_ble_eq_true rfl⟩ rfl) hS hP hD hA [0] rfl (fun _ => rfl) (fun r_9 u_9 H locs hq_9 hP hD hS => ?_)
  subst hq_9
  have hP : va_P D vwCl [(mm, .inr (7, [.ref ms, .int (nZ vsv), .ref mk, .ref mb, .int (nZ vty), .int (nZ 0), .int (nZ ven), .int (nZ vsp), .int (nZ vla), .int (nZ vpc)])), (ms, .inl (k 0, 900, .inl (zA s)))] H := hP
  have hD : va_D A [(mm, .inr (7, [.ref ms, .int (nZ vsv), .ref mk, .ref mb, .int (nZ vty), .int (nZ 0), .int (nZ ven), .int (nZ vsp), .int (nZ vla), .int (nZ vpc)])), (ms, .inl (k 0, 900, .inl (zA s)))] := hD
  refine zz_if_ne X (tgt := 17) dX7_push_12 (by decide) ⟨by omega, by omega⟩ (fun c_12 => ?_) (fun c_12 => ?_)
  · refine lv_aload_n hX hB dX7_push_17 rfl (lv_at hl 0 rfl) ?_
    refine zCallV0 (zRunV (As := []) X mv_X7_saves (c_X7_saves l D k _ mm ms mk mb vsv vty 0 ven vsp vla vpc s n hn hs) zw_250 (zPreV hP hD hK [0, 1] rfl rfl 0 7 rfl rfl rfl) rfl hl (Nat.le_of_ble_eq_true rfl) dX7_push_18 ⟨rfl, rfl, ⟨Nat.le_of_ble_eq_true rfl, Nat.le_of_ble_eq_true rfl⟩, Nat.le_of_ble_eq_true rfl, Nat.le_of_ble_eq_true rfl⟩ rfl) hS hP hD hA [0, 1] rfl (fun _ => rfl) (fun u_18 H locs hq_18 hP hD hS => ?_)
    obtain ⟨s2_18, sv2_18⟩ := u_18
    obtain ⟨hv_18, hsv_18⟩ := hq_18
    try dsimp only at hv_18 hsv_18
    have hP : va_P D vwCl [(mm, .inr (7, [.ref ms, .int (nZ sv2_18), .ref mk, .ref mb, .int (nZ vty), .int (nZ 0), .int (nZ ven), .int (nZ vsp), .int (nZ vla), .int (nZ vpc)])), (ms, .inl (k 0, 900, .inl (zA s2_18)))] H := hP
    have hD : va_D A [(mm, .inr (7, [.ref ms, .int (nZ sv2_18), .ref mk, .ref mb, .int (nZ vty), .int (nZ 0), .int (nZ ven), .int (nZ vsp), .int (nZ vla), .int (nZ vpc)])), (ms, .inl (k 0, 900, .inl (zA s2_18)))] := hD
    have hb1 : blkOk s2_18 0 B := sv_lo hBk hv_18
    refine lv_aload_n hX hB dX7_push_21 rfl (lv_at hl 0 rfl) ?_
    refine zCallI0 (zRunV (As := []) X mv_X7_isRefused (c_X7_isRefused_n l D k _ mm ms mk mb sv2_18 vty 0 ven vsp vla vpc s2_18 B hb1 hw) zw_259 (zPreV hP hD hK [0, 1] rfl rfl 0 7 rfl rfl rfl) rfl hl (Nat.le_of_ble_eq_true rfl) dX7_push_22 ⟨rfl, rfl, ⟨Nat.le_of_ble_eq_true rfl, Nat.le_of_ble_eq_true rfl⟩, Nat.le_of_ble_eq_true rfl, Nat.le_of_ble_eq_true rfl⟩ rfl) hS hP hD hA [0, 1] rfl (fun _ => rfl) (fun r_22 u_22 H locs hq_22 hP hD hS => ?_)
    obtain ⟨s2_22, e9⟩ : ∃ z9, z9 = u_22 := ⟨_, rfl⟩; subst e9
    obtain ⟨rfl, hB2_22, hf2_22⟩ := hq_22
    try dsimp only at hB2_22 hf2_22
    have hP : va_P D vwCl [(mm, .inr (7, [.ref ms, .int (nZ sv2_18), .ref mk, .ref mb, .int (nZ vty), .int (nZ 0), .int (nZ ven), .int (nZ vsp), .int (nZ vla), .int (nZ vpc)])), (ms, .inl (k 0, 900, .inl (zA s2_22)))] H := hP
    have hD : va_D A [(mm, .inr (7, [.ref ms, .int (nZ sv2_18), .ref mk, .ref mb, .int (nZ vty), .int (nZ 0), .int (nZ ven), .int (nZ vsp), .int (nZ vla), .int (nZ vpc)])), (ms, .inl (k 0, 900, .inl (zA s2_22)))] := hD
    refine zz_if_eq X (tgt := 30) dX7_push_25 (by decide) ⟨by omega, by omega⟩ (fun c_25 => ?_) (fun c_25 => ?_)
    · refine lv_aload_n hX hB dX7_push_30 rfl (lv_at hl 0 rfl) ?_
      refine lv_iconst (v := nZ 0) hX hB dX7_push_31 rfl ?_
      refine lv_iload_n hX hB dX7_push_32 rfl (lv_at hl 1 rfl) ?_
      refine lv_iload_n hX hB dX7_push_33 rfl (lv_at hl 2 rfl) ?_
      refine zCallI0 (zRunV (As := [.int (nZ 0), .int (nZ ↑j), .int (nZ st)]) X mv_X7_pushes (c_X7_pushes l D k _ mm ms mk mb sv2_18 vty 0 ven vsp vla vpc s2_22 0 j B st hB2_22 (by first | assumption | omega | exact ⟨by omega, by omega⟩) hjj hCh hcost hst) zw_263 (zPreV hP hD hK [0, 1] rfl rfl 0 7 rfl rfl rfl) rfl hl (Nat.le_of_ble_eq_true rfl) dX7_push_34 ⟨rfl, rfl, ⟨Nat.le_of_ble_eq_true rfl, Nat.le_of_ble_eq_true rfl⟩, Nat.le_of_ble_eq_true rfl, Nat.le_of_ble_eq_true rfl⟩ rfl) hS hP hD hA [0, 1] rfl (fun _ => rfl) (fun r_34 u_34 H locs hq_34 hP hD hS => ?_)
      obtain ⟨s2_34, ve2_34⟩ := u_34
      obtain ⟨rfl, hB2_34, hf2_34, hve_34⟩ := hq_34
      try dsimp only at hB2_34 hf2_34 hve_34
      have hP : va_P D vwCl [(mm, .inr (7, [.ref ms, .int (nZ sv2_18), .ref mk, .ref mb, .int (nZ vty), .int (nZ 0), .int (nZ ve2_34), .int (nZ vsp), .int (nZ vla), .int (nZ vpc)])), (ms, .inl (k 0, 900, .inl (zA s2_34)))] H := hP
      have hD : va_D A [(mm, .inr (7, [.ref ms, .int (nZ sv2_18), .ref mk, .ref mb, .int (nZ vty), .int (nZ 0), .int (nZ ve2_34), .int (nZ vsp), .int (nZ vla), .int (nZ vpc)])), (ms, .inl (k 0, 900, .inl (zA s2_34)))] := hD
      refine lv_istore_n (lv' := [(3, .int (nZ (nudS (B.1 0) st (B.2 j)))), (0, .ref mm), (1, .int (nZ ↑j)), (2, .int (nZ st))]) hX hB dX7_push_37 rfl hl (by decide) rfl (fun ls hl => ?_)
      refine lv_aload_n hX hB dX7_push_38 rfl (lv_at hl 1 rfl) ?_
      refine va_get hX hB hz inlX7 hW hK.1 hP 0 rfl rfl 0 (by decide) (hz _ zw_74) (fun _ h9 => h9) rfl dX7_push_39 ?_
      refine lv_iconst (v := nZ 2) hX hB dX7_push_42 rfl ?_
      refine lv_dup2_11 hX hB dX7_push_43 rfl rfl ?_
      refine zz_iald X hP 1 0 rfl rfl 2 (by omega) (by omega) (by first | decide | omega) dX7_push_44 ?_
      refine lv_iconst (v := nZ 1) hX hB dX7_push_45 rfl ?_
      refine zz_iadd X dX7_push_46 (z := ((s2_34 2) + 1)) (by first | rfl | omega) ?_
      refine zz_iast X hP hD hS 1 0 rfl rfl 2 (by omega) (by omega) (by first | decide | omega) dX7_push_47 (fun H locs hP hD hS => ?_)
      have hP : va_P D vwCl [(mm, .inr (7, [.ref ms, .int (nZ sv2_18), .ref mk, .ref mb, .int (nZ vty), .int (nZ 0), .int (nZ ve2_34), .int (nZ vsp), .int (nZ vla), .int (nZ vpc)])), (ms, .inl (k 0, 900, .inl (zA (zU s2_34 2 ((s2_34 2) + 1)))))] H := hP
      have hD : va_D A [(mm, .inr (7, [.ref ms, .int (nZ sv2_18), .ref mk, .ref mb, .int (nZ vty), .int (nZ 0), .int (nZ ve2_34), .int (nZ vsp), .int (nZ vla), .int (nZ vpc)])), (ms, .inl (k 0, 900, .inl (zA (zU s2_34 2 ((s2_34 2) + 1)))))] := hD
      refine lv_aload_n hX hB dX7_push_48 rfl (lv_at hl 1 rfl) ?_
      have hb2 : blkOk (zU s2_34 2 ((s2_34 2) + 1)) 0 (push1 B j st) := push1_blk hB2_34
      have h2 : (zU s2_34 2 ((s2_34 2) + 1)) 2 = B.1 2 + 1 := hb2.num (k := 2) (by omega)
      have hf3 : frOk s2_18 (zU s2_34 2 ((s2_34 2) + 1)) 0 := (hf2_22.trans hf2_34).zU (by omega) (by omega)
      refine va_get hX hB hz inlX7 hW hK.1 hP 0 rfl rfl 0 (by decide) (hz _ zw_74) (fun _ h9 => h9) rfl dX7_push_49 ?_
      refine lv_iconst (v := nZ 2) hX hB dX7_push_52 rfl ?_
      refine zz_iald X hP 1 0 rfl rfl 2 (by omega) (by omega) (by first | decide | omega) dX7_push_53 ?_
      refine lv_iconst (v := nZ 5) hX hB dX7_push_54 rfl ?_
      refine zz_icmp_ne X (tgt := 64) dX7_push_55 (by decide) ⟨by omega, by omega⟩ ⟨by omega, by omega⟩ (fun c_55 => ?_) (fun c_55 => ?_)
      · refine lv_iload_n hX hB dX7_push_64 rfl (lv_at hl 0 rfl) ?_
        exact zRetI ((zU s2_34 2 ((s2_34 2) + 1)), sv2_18, ve2_34) X hP hD hS rfl ⟨by first | rfl | (congr 1; omega) | (dsimp only; congr 1; omega), by unfold pushF pushB; rw [if_pos hw]; first | (rw [if_pos (by omega)]; exact hB2_59) | (rw [if_neg (by omega)]; exact hb2), fr_sv (by first | exact hf3.trans hf2_59 | exact hf3) hv_18, hsv_18⟩ dX7_push_65
      · refine lv_aload_n hX hB dX7_push_58 rfl (lv_at hl 1 rfl) ?_
        refine zCallI0 (zRunV (As := []) X mv_X7_ends (c_X7_ends l D k _ mm ms mk mb sv2_18 vty 0 ve2_34 vsp vla vpc (zU s2_34 2 ((s2_34 2) + 1)) (push1 B j st) hb2 (hpl) (by rw [push1_ch]; exact hch)) zw_283 (zPreV hP hD hK [0, 1] rfl rfl 0 7 rfl rfl rfl) rfl hl (Nat.le_of_ble_eq_true rfl) dX7_push_59 ⟨rfl, rfl, ⟨Nat.le_of_ble_eq_true rfl, Nat.le_of_ble_eq_true rfl⟩, Nat.le_of_ble_eq_true rfl, Nat.le_of_ble_eq_true rfl⟩ rfl) hS hP hD hA [0, 1] rfl (fun _ => rfl) (fun r_59 u_59 H locs hq_59 hP hD hS => ?_)
        obtain ⟨s2_59, e9⟩ : ∃ z9, z9 = u_59 := ⟨_, rfl⟩; subst e9
        obtain ⟨rfl, hB2_59, hf2_59⟩ := hq_59
        try dsimp only at hB2_59 hf2_59
        have hP : va_P D vwCl [(mm, .inr (7, [.ref ms, .int (nZ sv2_18), .ref mk, .ref mb, .int (nZ vty), .int (nZ 0), .int (nZ ve2_34), .int (nZ vsp), .int (nZ vla), .int (nZ vpc)])), (ms, .inl (k 0, 900, .inl (zA s2_59)))] H := hP
        have hD : va_D A [(mm, .inr (7, [.ref ms, .int (nZ sv2_18), .ref mk, .ref mb, .int (nZ vty), .int (nZ 0), .int (nZ ve2_34), .int (nZ vsp), .int (nZ vla), .int (nZ vpc)])), (ms, .inl (k 0, 900, .inl (zA s2_59)))] := hD
        refine lv_istore (lv' := [(4, .int (nZ (madeB (push1 B j st)))), (3, .int (nZ (nudS (B.1 0) st (B.2 j)))), (0, .ref mm), (1, .int (nZ ↑j)), (2, .int (nZ st))]) hX hB dX7_push_62 hl (by decide) rfl (fun ls hl => ?_)
        refine lv_iload_n hX hB dX7_push_64 rfl (lv_at hl 1 rfl) ?_
        exact zRetI (s2_59, sv2_18, ve2_34) X hP hD hS rfl ⟨by first | rfl | (congr 1; omega) | (dsimp only; congr 1; omega), by unfold pushF pushB; rw [if_pos hw]; first | (rw [if_pos (by omega)]; exact hB2_59) | (rw [if_neg (by omega)]; exact hb2), fr_sv (by first | exact hf3.trans hf2_59 | exact hf3) hv_18, hsv_18⟩ dX7_push_65
    · exfalso; omega
  · exfalso; omega
set_option maxHeartbeats 4000000 in
set_option maxRecDepth 100000 in
theorem c_X7_push_over (l : Launch) (D : va_G) (k : Nat → ClassId) (sz : Nat) (mm ms mk mb : Nat) (vsv vty vth ven vsp vla vpc : Int) (s : Nat → Int) (j : Nat) (B : Bd) (n : Nat) (st : Int) (hBk : blkOk s 0 B) (hG : bdGood B) (hn : vsv = ↑n) (hs : n ≤ 6) (hjj : j < 3) (hst : 1 ≤ st ∧ st ≤ 150) (hw : 1 ≤ B.1 3 ∧ B.1 3 ≤ 2) : Met l yX7_push (zW yX7_push cX7_push 5 (some .int)) ({ frames := 5, cells := 0, slots := 0, locals := 120 } : Room) (va_Pc [.ref mm, .int (nZ ↑j), .int (nZ st)] (zIn D k sz [(mm, .inr (7, [.ref ms, .int (nZ vsv), .ref mk, .ref mb, .int (nZ vty), .int (nZ vth), .int (nZ ven), .int (nZ vsp), .int (nZ vla), .int (nZ vpc)])), (ms, .inl (k 0, 900, .inl (zA s)))])) (va_Qi (fun (rz : Int32) (uz : (Nat → Int) × Int × Int) => rz = nZ (-1) ∧ blkOk uz.1 0 (pushF B j st) ∧ (∀ k : Nat, 90 ≤ k → uz.1 k = svS s n k) ∧ uz.2.1 = (↑(if n < 6 then n + 1 else 6) : Int)) (fun (uz : (Nat → Int) × Int × Int) => zOut D (va_A [(mm, .inr (7, [.ref ms, .int (nZ vsv), .ref mk, .ref mb, .int (nZ vty), .int (nZ vth), .int (nZ ven), .int (nZ vsp), .int (nZ vla), .int (nZ vpc)])), (ms, .inl (k 0, 900, .inl (zA s)))] sz) [(mm, .inr (7, [.ref ms, .int (nZ uz.2.1), .ref mk, .ref mb, .int (nZ vty), .int (nZ 0), .int (nZ uz.2.2), .int (nZ vsp), .int (nZ vla), .int (nZ vpc)])), (ms, .inl (k 0, 900, .inl (zA uz.1)))]) (va_A [(mm, .inr (7, [.ref ms, .int (nZ vsv), .ref mk, .ref mb, .int (nZ vty), .int (nZ vth), .int (nZ ven), .int (nZ vsp), .int (nZ vla), .int (nZ vpc)])), (ms, .inl (k 0, 900, .inl (zA s)))] sz)) 0 0 (va_A [(mm, .inr (7, [.ref ms, .int (nZ vsv), .ref mk, .ref mb, .int (nZ vty), .int (nZ vth), .int (nZ ven), .int (nZ vsp), .int (nZ vla), .int (nZ vpc)])), (ms, .inl (k 0, 900, .inl (zA s)))] sz) := by
  refine zEnter (Qf := fun A => va_Qi (fun (rz : Int32) (uz : (Nat → Int) × Int × Int) => rz = nZ (-1) ∧ blkOk uz.1 0 (pushF B j st) ∧ (∀ k : Nat, 90 ≤ k → uz.1 k = svS s n k) ∧ uz.2.1 = (↑(if n < 6 then n + 1 else 6) : Int)) (fun (uz : (Nat → Int) × Int × Int) => zOut D A [(mm, .inr (7, [.ref ms, .int (nZ uz.2.1), .ref mk, .ref mb, .int (nZ vty), .int (nZ 0), .int (nZ uz.2.2), .int (nZ vsp), .int (nZ vla), .int (nZ vpc)])), (ms, .inl (k 0, 900, .inl (zA uz.1)))]) A) RX7 (by decide) rfl (Nat.le_of_ble_eq_true rfl) ?_
  intro p9 e9 s9 m9 be9 me9 c9 ls A X hin hP hD hS hA hAe hl
  have hX := X.1; have hB := X.2.1; have hz := X.2.2.2.2.1; have hW := X.2.2.2.2.2.1; have hK := X.2.2.2.2.2.2.2; clear hAe
  clear hin
  have hl : lv_has ls 5 [(0, .ref mm), (1, .int (nZ ↑j)), (2, .int (nZ st))] := hl
  have hG0 := hG
  obtain ⟨hcost, hpl, hpu, hwi, hch, hC0, hC1, hC2⟩ := hG0
  have hCh := good_ch hG hjj
  refine lv_aload_n hX hB dX7_push_0 rfl (lv_at hl 0 rfl) ?_
  refine lv_iload_n hX hB dX7_push_1 rfl (lv_at hl 1 rfl) ?_
  refine zCallI0 (zRunS X ms_X7_isLane (c_X7_isLane_t l D k _ ↑j (⟨by omega, by omega⟩) (by first | assumption | omega | exact ⟨by omega, by omega⟩)) zw_236 (zPreS hP hD hK [] rfl rfl) rfl hl (Nat.le_of_ble_eq_true rfl) dX7_push_2 ⟨rfl, rfl, ⟨Nat.le_of_ble_eq_true rfl, Nat.le_of_ble_eq_true rfl⟩, Nat.le_of_ble_eq_true rfl, Nat.le_of_ble_eq_true rfl⟩ rfl) hS hP hD hA [] rfl (fun _ => rfl) (fun r_2 u_2 H locs hq_2 hP hD hS => ?_)
  subst hq_2
  have hP : va_P D vwCl [(mm, .inr (7, [.ref ms, .int (nZ vsv), .ref mk, .ref mb, .int (nZ vty), .int (nZ vth), .int (nZ ven), .int (nZ vsp), .int (nZ vla), .int (nZ vpc)])), (ms, .inl (k 0, 900, .inl (zA s)))] H := hP
  have hD : va_D A [(mm, .inr (7, [.ref ms, .int (nZ vsv), .ref mk, .ref mb, .int (nZ vty), .int (nZ vth), .int (nZ ven), .int (nZ vsp), .int (nZ vla), .int (nZ vpc)])), (ms, .inl (k 0, 900, .inl (zA s)))] := hD
  refine lv_iload_n hX hB dX7_push_5 rfl (lv_at hl 2 rfl) ?_
  refine zCallI0 (zRunS X ms_X7_isStrength (c_X7_isStrength_t l D k _ st (⟨by omega, by omega⟩) hst) zw_242 (zPreS hP hD hK [] rfl rfl) rfl hl (Nat.le_of_ble_eq_true rfl) dX7_push_6 ⟨rfl, rfl, ⟨Nat.le_of_ble_eq_true rfl, Nat.le_of_ble_eq_true rfl⟩, Nat.le_of_ble_eq_true rfl, Nat.le_of_ble_eq_true rfl⟩ rfl) hS hP hD hA [] rfl (fun _ => rfl) (fun r_6 u_6 H locs hq_6 hP hD hS => ?_)
  subst hq_6
  have hP : va_P D vwCl [(mm, .inr (7, [.ref ms, .int (nZ vsv), .ref mk, .ref mb, .int (nZ vty), .int (nZ vth), .int (nZ ven), .int (nZ vsp), .int (nZ vla), .int (nZ vpc)])), (ms, .inl (k 0, 900, .inl (zA s)))] H := hP
  have hD : va_D A [(mm, .inr (7, [.ref ms, .int (nZ vsv), .ref mk, .ref mb, .int (nZ vty), .int (nZ vth), .int (nZ ven), .int (nZ vsp), .int (nZ vla), .int (nZ vpc)])), (ms, .inl (k 0, 900, .inl (zA s)))] := hD
  refine zCallI0 (zRunV (As := [.int (nZ 1), .int (nZ 1)]) X mv_X7_goes (c_X7_goes_11 l D k _ mm ms mk mb vsv vty vth ven vsp vla vpc ) zw_245 (zPreV hP hD hK [0] rfl rfl 0 7 rfl rfl rfl) rfl hl (Nat.le_of_ble_eq_true rfl) dX7_push_9 ⟨rfl, rfl, ⟨Nat.le_of_ble_eq_true rfl, Nat.le_of_ble_eq_true rfl⟩, Nat.le_of_ble_eq_true rfl, Nat.le_of_ble_eq_true rfl⟩ rfl) hS hP hD hA [0] rfl (fun _ => rfl) (fun r_9 u_9 H locs hq_9 hP hD hS => ?_)
  subst hq_9
  have hP : va_P D vwCl [(mm, .inr (7, [.ref ms, .int (nZ vsv), .ref mk, .ref mb, .int (nZ vty), .int (nZ 0), .int (nZ ven), .int (nZ vsp), .int (nZ vla), .int (nZ vpc)])), (ms, .inl (k 0, 900, .inl (zA s)))] H := hP
  have hD : va_D A [(mm, .inr (7, [.ref ms, .int (nZ vsv), .ref mk, .ref mb, .int (nZ vty), .int (nZ 0), .int (nZ ven), .int (nZ vsp), .int (nZ vla), .int (nZ vpc)])), (ms, .inl (k 0, 900, .inl (zA s)))] := hD
  refine zz_if_ne X (tgt := 17) dX7_push_12 (by decide) ⟨by omega, by omega⟩ (fun c_12 => ?_) (fun c_12 => ?_)
  · refine lv_aload_n hX hB dX7_push_17 rfl (lv_at hl 0 rfl) ?_
    refine zCallV0 (zRunV (As := []) X mv_X7_saves (c_X7_saves l D k _ mm ms mk mb vsv vty 0 ven vsp vla vpc s n hn hs) zw_250 (zPreV hP hD hK [0, 1] rfl rfl 0 7 rfl rfl rfl) rfl hl (Nat.le_of_ble_eq_true rfl) dX7_push_18 ⟨rfl, rfl, ⟨Nat.le_of_ble_eq_true rfl, Nat.le_of_ble_eq_true rfl⟩, Nat.le_of_ble_eq_true rfl, Nat.le_of_ble_eq_true rfl⟩ rfl) hS hP hD hA [0, 1] rfl (fun _ => rfl) (fun u_18 H locs hq_18 hP hD hS => ?_)
    obtain ⟨s2_18, sv2_18⟩ := u_18
    obtain ⟨hv_18, hsv_18⟩ := hq_18
    try dsimp only at hv_18 hsv_18
    have hP : va_P D vwCl [(mm, .inr (7, [.ref ms, .int (nZ sv2_18), .ref mk, .ref mb, .int (nZ vty), .int (nZ 0), .int (nZ ven), .int (nZ vsp), .int (nZ vla), .int (nZ vpc)])), (ms, .inl (k 0, 900, .inl (zA s2_18)))] H := hP
    have hD : va_D A [(mm, .inr (7, [.ref ms, .int (nZ sv2_18), .ref mk, .ref mb, .int (nZ vty), .int (nZ 0), .int (nZ ven), .int (nZ vsp), .int (nZ vla), .int (nZ vpc)])), (ms, .inl (k 0, 900, .inl (zA s2_18)))] := hD
    have hb1 : blkOk s2_18 0 B := sv_lo hBk hv_18
    refine lv_aload_n hX hB dX7_push_21 rfl (lv_at hl 0 rfl) ?_
    refine zCallI0 (zRunV (As := []) X mv_X7_isRefused (c_X7_isRefused_y l D k _ mm ms mk mb sv2_18 vty 0 ven vsp vla vpc s2_18 B hb1 hw) zw_259 (zPreV hP hD hK [0, 1] rfl rfl 0 7 rfl rfl rfl) rfl hl (Nat.le_of_ble_eq_true rfl) dX7_push_22 ⟨rfl, rfl, ⟨Nat.le_of_ble_eq_true rfl, Nat.le_of_ble_eq_true rfl⟩, Nat.le_of_ble_eq_true rfl, Nat.le_of_ble_eq_true rfl⟩ rfl) hS hP hD hA [0, 1] rfl (fun _ => rfl) (fun r_22 u_22 H locs hq_22 hP hD hS => ?_)
    obtain ⟨s2_22, e9⟩ : ∃ z9, z9 = u_22 := ⟨_, rfl⟩; subst e9
    obtain ⟨rfl, hB2_22, hf2_22⟩ := hq_22
    try dsimp only at hB2_22 hf2_22
    have hP : va_P D vwCl [(mm, .inr (7, [.ref ms, .int (nZ sv2_18), .ref mk, .ref mb, .int (nZ vty), .int (nZ 0), .int (nZ ven), .int (nZ vsp), .int (nZ vla), .int (nZ vpc)])), (ms, .inl (k 0, 900, .inl (zA s2_22)))] H := hP
    have hD : va_D A [(mm, .inr (7, [.ref ms, .int (nZ sv2_18), .ref mk, .ref mb, .int (nZ vty), .int (nZ 0), .int (nZ ven), .int (nZ vsp), .int (nZ vla), .int (nZ vpc)])), (ms, .inl (k 0, 900, .inl (zA s2_22)))] := hD
    refine zz_if_eq X (tgt := 30) dX7_push_25 (by decide) ⟨by omega, by omega⟩ (fun c_25 => ?_) (fun c_25 => ?_)
    · exfalso; omega
    · refine lv_iconst (v := nZ (-1)) hX hB dX7_push_28 rfl ?_
      exact zRetI (s2_22, sv2_18, ven) X hP hD hS rfl ⟨by first | rfl | (congr 1; omega) | (dsimp only; congr 1; omega), by unfold pushF; rw [if_neg (by omega)]; exact hB2_22, fr_sv (hf2_22) hv_18, hsv_18⟩ dX7_push_29
  · exfalso; omega
set_option maxHeartbeats 4000000 in
set_option maxRecDepth 100000 in
theorem c_X7_push_e1 (l : Launch) (D : va_G) (k : Nat → ClassId) (sz : Nat) (mm ms mk mb : Nat) (vsv vty vth ven vsp vla vpc : Int) (a c : Int) (hza : zR a) (hzc : zR c) (hb : a < 0 ∨ 2 < a) : Met l yX7_push (zW yX7_push cX7_push 5 (some .int)) ({ frames := 5, cells := 0, slots := 0, locals := 120 } : Room) (va_Pc [.ref mm, .int (nZ a), .int (nZ c)] (zIn D k sz [(mm, .inr (7, [.ref ms, .int (nZ vsv), .ref mk, .ref mb, .int (nZ vty), .int (nZ vth), .int (nZ ven), .int (nZ vsp), .int (nZ vla), .int (nZ vpc)]))])) (va_Qi (fun (rz : Int32) (uz : Unit) => rz = nZ 0) (fun (uz : Unit) => zOut D (va_A [(mm, .inr (7, [.ref ms, .int (nZ vsv), .ref mk, .ref mb, .int (nZ vty), .int (nZ vth), .int (nZ ven), .int (nZ vsp), .int (nZ vla), .int (nZ vpc)]))] sz) [(mm, .inr (7, [.ref ms, .int (nZ vsv), .ref mk, .ref mb, .int (nZ vty), .int (nZ 1), .int (nZ ven), .int (nZ vsp), .int (nZ vla), .int (nZ vpc)]))]) (va_A [(mm, .inr (7, [.ref ms, .int (nZ vsv), .ref mk, .ref mb, .int (nZ vty), .int (nZ vth), .int (nZ ven), .int (nZ vsp), .int (nZ vla), .int (nZ vpc)]))] sz)) 0 0 (va_A [(mm, .inr (7, [.ref ms, .int (nZ vsv), .ref mk, .ref mb, .int (nZ vty), .int (nZ vth), .int (nZ ven), .int (nZ vsp), .int (nZ vla), .int (nZ vpc)]))] sz) := by
  refine zEnter (Qf := fun A => va_Qi (fun (rz : Int32) (uz : Unit) => rz = nZ 0) (fun (uz : Unit) => zOut D A [(mm, .inr (7, [.ref ms, .int (nZ vsv), .ref mk, .ref mb, .int (nZ vty), .int (nZ 1), .int (nZ ven), .int (nZ vsp), .int (nZ vla), .int (nZ vpc)]))]) A) RX7 (by decide) rfl (Nat.le_of_ble_eq_true rfl) ?_
  intro p9 e9 s9 m9 be9 me9 c9 ls A X hin hP hD hS hA hAe hl
  have hX := X.1; have hB := X.2.1; have hz := X.2.2.2.2.1; have hW := X.2.2.2.2.2.1; have hK := X.2.2.2.2.2.2.2; clear hAe
  clear hin
  have hl : lv_has ls 5 [(0, .ref mm), (1, .int (nZ a)), (2, .int (nZ c))] := hl
  refine lv_aload_n hX hB dX7_push_0 rfl (lv_at hl 0 rfl) ?_
  refine lv_iload_n hX hB dX7_push_1 rfl (lv_at hl 1 rfl) ?_
  refine zCallI0 (zRunS X ms_X7_isLane (c_X7_isLane_f l D k _ a hza hb) zw_236 (zPreS hP hD hK [] rfl rfl) rfl hl (Nat.le_of_ble_eq_true rfl) dX7_push_2 ⟨rfl, rfl, ⟨Nat.le_of_ble_eq_true rfl, Nat.le_of_ble_eq_true rfl⟩, Nat.le_of_ble_eq_true rfl, Nat.le_of_ble_eq_true rfl⟩ rfl) hS hP hD hA [] rfl (fun _ => rfl) (fun r_2 u_2 H locs hq_2 hP hD hS => ?_)
  subst hq_2
  have hP : va_P D vwCl [(mm, .inr (7, [.ref ms, .int (nZ vsv), .ref mk, .ref mb, .int (nZ vty), .int (nZ vth), .int (nZ ven), .int (nZ vsp), .int (nZ vla), .int (nZ vpc)]))] H := hP
  have hD : va_D A [(mm, .inr (7, [.ref ms, .int (nZ vsv), .ref mk, .ref mb, .int (nZ vty), .int (nZ vth), .int (nZ ven), .int (nZ vsp), .int (nZ vla), .int (nZ vpc)]))] := hD
  refine lv_iload_n hX hB dX7_push_5 rfl (lv_at hl 2 rfl) ?_
  refine zCallI0 (zRunS X ms_X7_isStrength (c_X7_isStrength_g l D k _ c hzc) zw_242 (zPreS hP hD hK [] rfl rfl) rfl hl (Nat.le_of_ble_eq_true rfl) dX7_push_6 ⟨rfl, rfl, ⟨Nat.le_of_ble_eq_true rfl, Nat.le_of_ble_eq_true rfl⟩, Nat.le_of_ble_eq_true rfl, Nat.le_of_ble_eq_true rfl⟩ rfl) hS hP hD hA [] rfl (fun _ => rfl) (fun r_6 u_6 H locs hq_6 hP hD hS => ?_)
  subst hq_6
  have hP : va_P D vwCl [(mm, .inr (7, [.ref ms, .int (nZ vsv), .ref mk, .ref mb, .int (nZ vty), .int (nZ vth), .int (nZ ven), .int (nZ vsp), .int (nZ vla), .int (nZ vpc)]))] H := hP
  have hD : va_D A [(mm, .inr (7, [.ref ms, .int (nZ vsv), .ref mk, .ref mb, .int (nZ vty), .int (nZ vth), .int (nZ ven), .int (nZ vsp), .int (nZ vla), .int (nZ vpc)]))] := hD
  refine zCallI0 (zRunV (As := [.int (nZ 0), .int (nZ (if 1 ≤ c ∧ c ≤ 150 then 1 else 0))]) X mv_X7_goes (c_X7_goes_0 l D k _ mm ms mk mb vsv vty vth ven vsp vla vpc (if 1 ≤ c ∧ c ≤ 150 then 1 else 0) ) zw_245 (zPreV hP hD hK [0] rfl rfl 0 7 rfl rfl rfl) rfl hl (Nat.le_of_ble_eq_true rfl) dX7_push_9 ⟨rfl, rfl, ⟨Nat.le_of_ble_eq_true rfl, Nat.le_of_ble_eq_true rfl⟩, Nat.le_of_ble_eq_true rfl, Nat.le_of_ble_eq_true rfl⟩ rfl) hS hP hD hA [0] rfl (fun _ => rfl) (fun r_9 u_9 H locs hq_9 hP hD hS => ?_)
  subst hq_9
  have hP : va_P D vwCl [(mm, .inr (7, [.ref ms, .int (nZ vsv), .ref mk, .ref mb, .int (nZ vty), .int (nZ 1), .int (nZ ven), .int (nZ vsp), .int (nZ vla), .int (nZ vpc)]))] H := hP
  have hD : va_D A [(mm, .inr (7, [.ref ms, .int (nZ vsv), .ref mk, .ref mb, .int (nZ vty), .int (nZ 1), .int (nZ ven), .int (nZ vsp), .int (nZ vla), .int (nZ vpc)]))] := hD
  refine zz_if_ne X (tgt := 17) dX7_push_12 (by decide) ⟨by omega, by omega⟩ (fun c_12 => ?_) (fun c_12 => ?_)
  · exfalso; omega
  · refine lv_iconst (v := nZ 0) hX hB dX7_push_15 rfl ?_
    exact zRetI () X hP hD hS rfl (by first | rfl | (congr 1; omega) | (dsimp only; congr 1; omega)) dX7_push_16
set_option maxHeartbeats 4000000 in
set_option maxRecDepth 100000 in
theorem c_X7_push_e2 (l : Launch) (D : va_G) (k : Nat → ClassId) (sz : Nat) (mm ms mk mb : Nat) (vsv vty vth ven vsp vla vpc : Int) (a c : Int) (hza : zR a) (hzc : zR c) (ha : 0 ≤ a ∧ a ≤ 2) (hb : c < 1 ∨ 150 < c) : Met l yX7_push (zW yX7_push cX7_push 5 (some .int)) ({ frames := 5, cells := 0, slots := 0, locals := 120 } : Room) (va_Pc [.ref mm, .int (nZ a), .int (nZ c)] (zIn D k sz [(mm, .inr (7, [.ref ms, .int (nZ vsv), .ref mk, .ref mb, .int (nZ vty), .int (nZ vth), .int (nZ ven), .int (nZ vsp), .int (nZ vla), .int (nZ vpc)]))])) (va_Qi (fun (rz : Int32) (uz : Unit) => rz = nZ 0) (fun (uz : Unit) => zOut D (va_A [(mm, .inr (7, [.ref ms, .int (nZ vsv), .ref mk, .ref mb, .int (nZ vty), .int (nZ vth), .int (nZ ven), .int (nZ vsp), .int (nZ vla), .int (nZ vpc)]))] sz) [(mm, .inr (7, [.ref ms, .int (nZ vsv), .ref mk, .ref mb, .int (nZ vty), .int (nZ 2), .int (nZ ven), .int (nZ vsp), .int (nZ vla), .int (nZ vpc)]))]) (va_A [(mm, .inr (7, [.ref ms, .int (nZ vsv), .ref mk, .ref mb, .int (nZ vty), .int (nZ vth), .int (nZ ven), .int (nZ vsp), .int (nZ vla), .int (nZ vpc)]))] sz)) 0 0 (va_A [(mm, .inr (7, [.ref ms, .int (nZ vsv), .ref mk, .ref mb, .int (nZ vty), .int (nZ vth), .int (nZ ven), .int (nZ vsp), .int (nZ vla), .int (nZ vpc)]))] sz) := by
  refine zEnter (Qf := fun A => va_Qi (fun (rz : Int32) (uz : Unit) => rz = nZ 0) (fun (uz : Unit) => zOut D A [(mm, .inr (7, [.ref ms, .int (nZ vsv), .ref mk, .ref mb, .int (nZ vty), .int (nZ 2), .int (nZ ven), .int (nZ vsp), .int (nZ vla), .int (nZ vpc)]))]) A) RX7 (by decide) rfl (Nat.le_of_ble_eq_true rfl) ?_
  intro p9 e9 s9 m9 be9 me9 c9 ls A X hin hP hD hS hA hAe hl
  have hX := X.1; have hB := X.2.1; have hz := X.2.2.2.2.1; have hW := X.2.2.2.2.2.1; have hK := X.2.2.2.2.2.2.2; clear hAe
  clear hin
  have hl : lv_has ls 5 [(0, .ref mm), (1, .int (nZ a)), (2, .int (nZ c))] := hl
  refine lv_aload_n hX hB dX7_push_0 rfl (lv_at hl 0 rfl) ?_
  refine lv_iload_n hX hB dX7_push_1 rfl (lv_at hl 1 rfl) ?_
  refine zCallI0 (zRunS X ms_X7_isLane (c_X7_isLane_t l D k _ a hza ha) zw_236 (zPreS hP hD hK [] rfl rfl) rfl hl (Nat.le_of_ble_eq_true rfl) dX7_push_2 ⟨rfl, rfl, ⟨Nat.le_of_ble_eq_true rfl, Nat.le_of_ble_eq_true rfl⟩, Nat.le_of_ble_eq_true rfl, Nat.le_of_ble_eq_true rfl⟩ rfl) hS hP hD hA [] rfl (fun _ => rfl) (fun r_2 u_2 H locs hq_2 hP hD hS => ?_)
  subst hq_2
  have hP : va_P D vwCl [(mm, .inr (7, [.ref ms, .int (nZ vsv), .ref mk, .ref mb, .int (nZ vty), .int (nZ vth), .int (nZ ven), .int (nZ vsp), .int (nZ vla), .int (nZ vpc)]))] H := hP
  have hD : va_D A [(mm, .inr (7, [.ref ms, .int (nZ vsv), .ref mk, .ref mb, .int (nZ vty), .int (nZ vth), .int (nZ ven), .int (nZ vsp), .int (nZ vla), .int (nZ vpc)]))] := hD
  refine lv_iload_n hX hB dX7_push_5 rfl (lv_at hl 2 rfl) ?_
  refine zCallI0 (zRunS X ms_X7_isStrength (c_X7_isStrength_f l D k _ c hzc hb) zw_242 (zPreS hP hD hK [] rfl rfl) rfl hl (Nat.le_of_ble_eq_true rfl) dX7_push_6 ⟨rfl, rfl, ⟨Nat.le_of_ble_eq_true rfl, Nat.le_of_ble_eq_true rfl⟩, Nat.le_of_ble_eq_true rfl, Nat.le_of_ble_eq_true rfl⟩ rfl) hS hP hD hA [] rfl (fun _ => rfl) (fun r_6 u_6 H locs hq_6 hP hD hS => ?_)
  subst hq_6
  have hP : va_P D vwCl [(mm, .inr (7, [.ref ms, .int (nZ vsv), .ref mk, .ref mb, .int (nZ vty), .int (nZ vth), .int (nZ ven), .int (nZ vsp), .int (nZ vla), .int (nZ vpc)]))] H := hP
  have hD : va_D A [(mm, .inr (7, [.ref ms, .int (nZ vsv), .ref mk, .ref mb, .int (nZ vty), .int (nZ vth), .int (nZ ven), .int (nZ vsp), .int (nZ vla), .int (nZ vpc)]))] := hD
  refine zCallI0 (zRunV (As := [.int (nZ 1), .int (nZ 0)]) X mv_X7_goes (c_X7_goes_10 l D k _ mm ms mk mb vsv vty vth ven vsp vla vpc ) zw_245 (zPreV hP hD hK [0] rfl rfl 0 7 rfl rfl rfl) rfl hl (Nat.le_of_ble_eq_true rfl) dX7_push_9 ⟨rfl, rfl, ⟨Nat.le_of_ble_eq_true rfl, Nat.le_of_ble_eq_true rfl⟩, Nat.le_of_ble_eq_true rfl, Nat.le_of_ble_eq_true rfl⟩ rfl) hS hP hD hA [0] rfl (fun _ => rfl) (fun r_9 u_9 H locs hq_9 hP hD hS => ?_)
  subst hq_9
  have hP : va_P D vwCl [(mm, .inr (7, [.ref ms, .int (nZ vsv), .ref mk, .ref mb, .int (nZ vty), .int (nZ 2), .int (nZ ven), .int (nZ vsp), .int (nZ vla), .int (nZ vpc)]))] H := hP
  have hD : va_D A [(mm, .inr (7, [.ref ms, .int (nZ vsv), .ref mk, .ref mb, .int (nZ vty), .int (nZ 2), .int (nZ ven), .int (nZ vsp), .int (nZ vla), .int (nZ vpc)]))] := hD
  refine zz_if_ne X (tgt := 17) dX7_push_12 (by decide) ⟨by omega, by omega⟩ (fun c_12 => ?_) (fun c_12 => ?_)
  · exfalso; omega
  · refine lv_iconst (v := nZ 0) hX hB dX7_push_15 rfl ?_
    exact zRetI () X hP hD hS rfl (by first | rfl | (congr 1; omega) | (dsimp only; congr 1; omega)) dX7_push_16
set_option maxHeartbeats 4000000 in
set_option maxRecDepth 100000 in
theorem c_X7_endTurn_play (l : Launch) (D : va_G) (k : Nat → ClassId) (sz : Nat) (mm ms mk mb : Nat) (vsv vty vth ven vsp vla vpc : Int) (s : Nat → Int) (B : Bd) (n : Nat) (hBk : blkOk s 0 B) (hG : bdGood B) (hn : vsv = ↑n) (hs : n ≤ 6) (hw : B.1 3 = 0) : Met l yX7_endTurn (zW yX7_endTurn cX7_endTurn 1 (some .int)) ({ frames := 5, cells := 0, slots := 0, locals := 120 } : Room) (va_Pc [.ref mm] (zIn D k sz [(mm, .inr (7, [.ref ms, .int (nZ vsv), .ref mk, .ref mb, .int (nZ vty), .int (nZ vth), .int (nZ ven), .int (nZ vsp), .int (nZ vla), .int (nZ vpc)])), (ms, .inl (k 0, 900, .inl (zA s)))])) (va_Qi (fun (rz : Int32) (uz : (Nat → Int) × Int) => rz = nZ (madeB B) ∧ blkOk uz.1 0 (endF B) ∧ (∀ k : Nat, 90 ≤ k → uz.1 k = svS s n k) ∧ uz.2 = (↑(if n < 6 then n + 1 else 6) : Int)) (fun (uz : (Nat → Int) × Int) => zOut D (va_A [(mm, .inr (7, [.ref ms, .int (nZ vsv), .ref mk, .ref mb, .int (nZ vty), .int (nZ vth), .int (nZ ven), .int (nZ vsp), .int (nZ vla), .int (nZ vpc)])), (ms, .inl (k 0, 900, .inl (zA s)))] sz) [(mm, .inr (7, [.ref ms, .int (nZ uz.2), .ref mk, .ref mb, .int (nZ vty), .int (nZ 0), .int (nZ ven), .int (nZ vsp), .int (nZ vla), .int (nZ vpc)])), (ms, .inl (k 0, 900, .inl (zA uz.1)))]) (va_A [(mm, .inr (7, [.ref ms, .int (nZ vsv), .ref mk, .ref mb, .int (nZ vty), .int (nZ vth), .int (nZ ven), .int (nZ vsp), .int (nZ vla), .int (nZ vpc)])), (ms, .inl (k 0, 900, .inl (zA s)))] sz)) 0 0 (va_A [(mm, .inr (7, [.ref ms, .int (nZ vsv), .ref mk, .ref mb, .int (nZ vty), .int (nZ vth), .int (nZ ven), .int (nZ vsp), .int (nZ vla), .int (nZ vpc)])), (ms, .inl (k 0, 900, .inl (zA s)))] sz) := by
  refine zEnter (Qf := fun A => va_Qi (fun (rz : Int32) (uz : (Nat → Int) × Int) => rz = nZ (madeB B) ∧ blkOk uz.1 0 (endF B) ∧ (∀ k : Nat, 90 ≤ k → uz.1 k = svS s n k) ∧ uz.2 = (↑(if n < 6 then n + 1 else 6) : Int)) (fun (uz : (Nat → Int) × Int) => zOut D A [(mm, .inr (7, [.ref ms, .int (nZ uz.2), .ref mk, .ref mb, .int (nZ vty), .int (nZ 0), .int (nZ ven), .int (nZ vsp), .int (nZ vla), .int (nZ vpc)])), (ms, .inl (k 0, 900, .inl (zA uz.1)))]) A) RX7 (by decide) rfl (Nat.le_of_ble_eq_true rfl) ?_
  intro p9 e9 s9 m9 be9 me9 c9 ls A X hin hP hD hS hA hAe hl
  have hX := X.1; have hB := X.2.1; have hz := X.2.2.2.2.1; have hW := X.2.2.2.2.2.1; have hK := X.2.2.2.2.2.2.2; clear hAe
  clear hin
  have hl : lv_has ls 1 [(0, .ref mm)] := hl
  have hG0 := hG
  obtain ⟨hcost, hpl, hpu, hwi, hch, hC0, hC1, hC2⟩ := hG0
  refine lv_aload_n hX hB dX7_endTurn_0 rfl (lv_at hl 0 rfl) ?_
  refine lv_iconst (v := nZ 0) hX hB dX7_endTurn_1 rfl ?_
  refine va_put (v := .int (nZ 0)) (ty := tyX7 5) hX hB hz inlX7 tyX7 tyX7_ok nmX7 hW hK.1 hP hD hS 0 rfl rfl 5 (by decide) (hz _ zw_249) (fun _ h9 => h9) rfl (by decide +kernel) rfl rfl (Nat.le_of_ble_eq_true rfl) dX7_endTurn_2 (fun H locs hP hD hS => ?_)
  have hP : va_P D vwCl [(mm, .inr (7, [.ref ms, .int (nZ vsv), .ref mk, .ref mb, .int (nZ vty), .int (nZ 0), .int (nZ ven), .int (nZ vsp), .int (nZ vla), .int (nZ vpc)])), (ms, .inl (k 0, 900, .inl (zA s)))] H := hP
  have hD : va_D A [(mm, .inr (7, [.ref ms, .int (nZ vsv), .ref mk, .ref mb, .int (nZ vty), .int (nZ 0), .int (nZ ven), .int (nZ vsp), .int (nZ vla), .int (nZ vpc)])), (ms, .inl (k 0, 900, .inl (zA s)))] := hD
  refine lv_aload_n hX hB dX7_endTurn_5 rfl (lv_at hl 0 rfl) ?_
  refine zCallV0 (zRunV (As := []) X mv_X7_saves (c_X7_saves l D k _ mm ms mk mb vsv vty 0 ven vsp vla vpc s n hn hs) zw_250 (zPreV hP hD hK [0, 1] rfl rfl 0 7 rfl rfl rfl) rfl hl (Nat.le_of_ble_eq_true rfl) dX7_endTurn_6 ⟨rfl, rfl, ⟨Nat.le_of_ble_eq_true rfl, Nat.le_of_ble_eq_true rfl⟩, Nat.le_of_ble_eq_true rfl, Nat.le_of_ble_eq_true rfl⟩ rfl) hS hP hD hA [0, 1] rfl (fun _ => rfl) (fun u_6 H locs hq_6 hP hD hS => ?_)
  obtain ⟨s2_6, sv2_6⟩ := u_6
  obtain ⟨hv_6, hsv_6⟩ := hq_6
  try dsimp only at hv_6 hsv_6
  have hP : va_P D vwCl [(mm, .inr (7, [.ref ms, .int (nZ sv2_6), .ref mk, .ref mb, .int (nZ vty), .int (nZ 0), .int (nZ ven), .int (nZ vsp), .int (nZ vla), .int (nZ vpc)])), (ms, .inl (k 0, 900, .inl (zA s2_6)))] H := hP
  have hD : va_D A [(mm, .inr (7, [.ref ms, .int (nZ sv2_6), .ref mk, .ref mb, .int (nZ vty), .int (nZ 0), .int (nZ ven), .int (nZ vsp), .int (nZ vla), .int (nZ vpc)])), (ms, .inl (k 0, 900, .inl (zA s2_6)))] := hD
  have hb1 : blkOk s2_6 0 B := sv_lo hBk hv_6
  refine lv_aload_n hX hB dX7_endTurn_9 rfl (lv_at hl 0 rfl) ?_
  refine zCallI0 (zRunV (As := []) X mv_X7_isRefused (c_X7_isRefused_n l D k _ mm ms mk mb sv2_6 vty 0 ven vsp vla vpc s2_6 B hb1 hw) zw_259 (zPreV hP hD hK [0, 1] rfl rfl 0 7 rfl rfl rfl) rfl hl (Nat.le_of_ble_eq_true rfl) dX7_endTurn_10 ⟨rfl, rfl, ⟨Nat.le_of_ble_eq_true rfl, Nat.le_of_ble_eq_true rfl⟩, Nat.le_of_ble_eq_true rfl, Nat.le_of_ble_eq_true rfl⟩ rfl) hS hP hD hA [0, 1] rfl (fun _ => rfl) (fun r_10 u_10 H locs hq_10 hP hD hS => ?_)
  obtain ⟨s2_10, e9⟩ : ∃ z9, z9 = u_10 := ⟨_, rfl⟩; subst e9
  obtain ⟨rfl, hB2_10, hf2_10⟩ := hq_10
  try dsimp only at hB2_10 hf2_10
  have hP : va_P D vwCl [(mm, .inr (7, [.ref ms, .int (nZ sv2_6), .ref mk, .ref mb, .int (nZ vty), .int (nZ 0), .int (nZ ven), .int (nZ vsp), .int (nZ vla), .int (nZ vpc)])), (ms, .inl (k 0, 900, .inl (zA s2_10)))] H := hP
  have hD : va_D A [(mm, .inr (7, [.ref ms, .int (nZ sv2_6), .ref mk, .ref mb, .int (nZ vty), .int (nZ 0), .int (nZ ven), .int (nZ vsp), .int (nZ vla), .int (nZ vpc)])), (ms, .inl (k 0, 900, .inl (zA s2_10)))] := hD
  refine zz_if_eq X (tgt := 20) dX7_endTurn_13 (by decide) ⟨by omega, by omega⟩ (fun c_13 => ?_) (fun c_13 => ?_)
  · refine lv_aload_n hX hB dX7_endTurn_20 rfl (lv_at hl 0 rfl) ?_
    refine zCallI0 (zRunV (As := []) X mv_X7_ends (c_X7_ends l D k _ mm ms mk mb sv2_6 vty 0 ven vsp vla vpc s2_10 B hB2_10 hpl hch) zw_283 (zPreV hP hD hK [0, 1] rfl rfl 0 7 rfl rfl rfl) rfl hl (Nat.le_of_ble_eq_true rfl) dX7_endTurn_21 ⟨rfl, rfl, ⟨Nat.le_of_ble_eq_true rfl, Nat.le_of_ble_eq_true rfl⟩, Nat.le_of_ble_eq_true rfl, Nat.le_of_ble_eq_true rfl⟩ rfl) hS hP hD hA [0, 1] rfl (fun _ => rfl) (fun r_21 u_21 H locs hq_21 hP hD hS => ?_)
    obtain ⟨s2_21, e9⟩ : ∃ z9, z9 = u_21 := ⟨_, rfl⟩; subst e9
    obtain ⟨rfl, hB2_21, hf2_21⟩ := hq_21
    try dsimp only at hB2_21 hf2_21
    have hP : va_P D vwCl [(mm, .inr (7, [.ref ms, .int (nZ sv2_6), .ref mk, .ref mb, .int (nZ vty), .int (nZ 0), .int (nZ ven), .int (nZ vsp), .int (nZ vla), .int (nZ vpc)])), (ms, .inl (k 0, 900, .inl (zA s2_21)))] H := hP
    have hD : va_D A [(mm, .inr (7, [.ref ms, .int (nZ sv2_6), .ref mk, .ref mb, .int (nZ vty), .int (nZ 0), .int (nZ ven), .int (nZ vsp), .int (nZ vla), .int (nZ vpc)])), (ms, .inl (k 0, 900, .inl (zA s2_21)))] := hD
    exact zRetI (s2_21, sv2_6) X hP hD hS rfl ⟨by first | rfl | (congr 1; omega) | (dsimp only; congr 1; omega), by unfold endF; first | (rw [if_pos hw]; exact hB2_21) | (rw [if_neg (by omega)]; exact hB2_10), fr_sv (by first | exact hf2_10.trans hf2_21 | exact hf2_10) hv_6, hsv_6⟩ dX7_endTurn_24
  · exfalso; omega
set_option maxHeartbeats 4000000 in
set_option maxRecDepth 100000 in
theorem c_X7_endTurn_over (l : Launch) (D : va_G) (k : Nat → ClassId) (sz : Nat) (mm ms mk mb : Nat) (vsv vty vth ven vsp vla vpc : Int) (s : Nat → Int) (B : Bd) (n : Nat) (hBk : blkOk s 0 B) (hG : bdGood B) (hn : vsv = ↑n) (hs : n ≤ 6) (hw : 1 ≤ B.1 3 ∧ B.1 3 ≤ 2) : Met l yX7_endTurn (zW yX7_endTurn cX7_endTurn 1 (some .int)) ({ frames := 5, cells := 0, slots := 0, locals := 120 } : Room) (va_Pc [.ref mm] (zIn D k sz [(mm, .inr (7, [.ref ms, .int (nZ vsv), .ref mk, .ref mb, .int (nZ vty), .int (nZ vth), .int (nZ ven), .int (nZ vsp), .int (nZ vla), .int (nZ vpc)])), (ms, .inl (k 0, 900, .inl (zA s)))])) (va_Qi (fun (rz : Int32) (uz : (Nat → Int) × Int) => rz = nZ (-1) ∧ blkOk uz.1 0 (endF B) ∧ (∀ k : Nat, 90 ≤ k → uz.1 k = svS s n k) ∧ uz.2 = (↑(if n < 6 then n + 1 else 6) : Int)) (fun (uz : (Nat → Int) × Int) => zOut D (va_A [(mm, .inr (7, [.ref ms, .int (nZ vsv), .ref mk, .ref mb, .int (nZ vty), .int (nZ vth), .int (nZ ven), .int (nZ vsp), .int (nZ vla), .int (nZ vpc)])), (ms, .inl (k 0, 900, .inl (zA s)))] sz) [(mm, .inr (7, [.ref ms, .int (nZ uz.2), .ref mk, .ref mb, .int (nZ vty), .int (nZ 0), .int (nZ ven), .int (nZ vsp), .int (nZ vla), .int (nZ vpc)])), (ms, .inl (k 0, 900, .inl (zA uz.1)))]) (va_A [(mm, .inr (7, [.ref ms, .int (nZ vsv), .ref mk, .ref mb, .int (nZ vty), .int (nZ vth), .int (nZ ven), .int (nZ vsp), .int (nZ vla), .int (nZ vpc)])), (ms, .inl (k 0, 900, .inl (zA s)))] sz)) 0 0 (va_A [(mm, .inr (7, [.ref ms, .int (nZ vsv), .ref mk, .ref mb, .int (nZ vty), .int (nZ vth), .int (nZ ven), .int (nZ vsp), .int (nZ vla), .int (nZ vpc)])), (ms, .inl (k 0, 900, .inl (zA s)))] sz) := by
  refine zEnter (Qf := fun A => va_Qi (fun (rz : Int32) (uz : (Nat → Int) × Int) => rz = nZ (-1) ∧ blkOk uz.1 0 (endF B) ∧ (∀ k : Nat, 90 ≤ k → uz.1 k = svS s n k) ∧ uz.2 = (↑(if n < 6 then n + 1 else 6) : Int)) (fun (uz : (Nat → Int) × Int) => zOut D A [(mm, .inr (7, [.ref ms, .int (nZ uz.2), .ref mk, .ref mb, .int (nZ vty), .int (nZ 0), .int (nZ ven), .int (nZ vsp), .int (nZ vla), .int (nZ vpc)])), (ms, .inl (k 0, 900, .inl (zA uz.1)))]) A) RX7 (by decide) rfl (Nat.le_of_ble_eq_true rfl) ?_
  intro p9 e9 s9 m9 be9 me9 c9 ls A X hin hP hD hS hA hAe hl
  have hX := X.1; have hB := X.2.1; have hz := X.2.2.2.2.1; have hW := X.2.2.2.2.2.1; have hK := X.2.2.2.2.2.2.2; clear hAe
  clear hin
  have hl : lv_has ls 1 [(0, .ref mm)] := hl
  have hG0 := hG
  obtain ⟨hcost, hpl, hpu, hwi, hch, hC0, hC1, hC2⟩ := hG0
  refine lv_aload_n hX hB dX7_endTurn_0 rfl (lv_at hl 0 rfl) ?_
  refine lv_iconst (v := nZ 0) hX hB dX7_endTurn_1 rfl ?_
  refine va_put (v := .int (nZ 0)) (ty := tyX7 5) hX hB hz inlX7 tyX7 tyX7_ok nmX7 hW hK.1 hP hD hS 0 rfl rfl 5 (by decide) (hz _ zw_249) (fun _ h9 => h9) rfl (by decide +kernel) rfl rfl (Nat.le_of_ble_eq_true rfl) dX7_endTurn_2 (fun H locs hP hD hS => ?_)
  have hP : va_P D vwCl [(mm, .inr (7, [.ref ms, .int (nZ vsv), .ref mk, .ref mb, .int (nZ vty), .int (nZ 0), .int (nZ ven), .int (nZ vsp), .int (nZ vla), .int (nZ vpc)])), (ms, .inl (k 0, 900, .inl (zA s)))] H := hP
  have hD : va_D A [(mm, .inr (7, [.ref ms, .int (nZ vsv), .ref mk, .ref mb, .int (nZ vty), .int (nZ 0), .int (nZ ven), .int (nZ vsp), .int (nZ vla), .int (nZ vpc)])), (ms, .inl (k 0, 900, .inl (zA s)))] := hD
  refine lv_aload_n hX hB dX7_endTurn_5 rfl (lv_at hl 0 rfl) ?_
  refine zCallV0 (zRunV (As := []) X mv_X7_saves (c_X7_saves l D k _ mm ms mk mb vsv vty 0 ven vsp vla vpc s n hn hs) zw_250 (zPreV hP hD hK [0, 1] rfl rfl 0 7 rfl rfl rfl) rfl hl (Nat.le_of_ble_eq_true rfl) dX7_endTurn_6 ⟨rfl, rfl, ⟨Nat.le_of_ble_eq_true rfl, Nat.le_of_ble_eq_true rfl⟩, Nat.le_of_ble_eq_true rfl, Nat.le_of_ble_eq_true rfl⟩ rfl) hS hP hD hA [0, 1] rfl (fun _ => rfl) (fun u_6 H locs hq_6 hP hD hS => ?_)
  obtain ⟨s2_6, sv2_6⟩ := u_6
  obtain ⟨hv_6, hsv_6⟩ := hq_6
  try dsimp only at hv_6 hsv_6
  have hP : va_P D vwCl [(mm, .inr (7, [.ref ms, .int (nZ sv2_6), .ref mk, .ref mb, .int (nZ vty), .int (nZ 0), .int (nZ ven), .int (nZ vsp), .int (nZ vla), .int (nZ vpc)])), (ms, .inl (k 0, 900, .inl (zA s2_6)))] H := hP
  have hD : va_D A [(mm, .inr (7, [.ref ms, .int (nZ sv2_6), .ref mk, .ref mb, .int (nZ vty), .int (nZ 0), .int (nZ ven), .int (nZ vsp), .int (nZ vla), .int (nZ vpc)])), (ms, .inl (k 0, 900, .inl (zA s2_6)))] := hD
  have hb1 : blkOk s2_6 0 B := sv_lo hBk hv_6
  refine lv_aload_n hX hB dX7_endTurn_9 rfl (lv_at hl 0 rfl) ?_
  refine zCallI0 (zRunV (As := []) X mv_X7_isRefused (c_X7_isRefused_y l D k _ mm ms mk mb sv2_6 vty 0 ven vsp vla vpc s2_6 B hb1 hw) zw_259 (zPreV hP hD hK [0, 1] rfl rfl 0 7 rfl rfl rfl) rfl hl (Nat.le_of_ble_eq_true rfl) dX7_endTurn_10 ⟨rfl, rfl, ⟨Nat.le_of_ble_eq_true rfl, Nat.le_of_ble_eq_true rfl⟩, Nat.le_of_ble_eq_true rfl, Nat.le_of_ble_eq_true rfl⟩ rfl) hS hP hD hA [0, 1] rfl (fun _ => rfl) (fun r_10 u_10 H locs hq_10 hP hD hS => ?_)
  obtain ⟨s2_10, e9⟩ : ∃ z9, z9 = u_10 := ⟨_, rfl⟩; subst e9
  obtain ⟨rfl, hB2_10, hf2_10⟩ := hq_10
  try dsimp only at hB2_10 hf2_10
  have hP : va_P D vwCl [(mm, .inr (7, [.ref ms, .int (nZ sv2_6), .ref mk, .ref mb, .int (nZ vty), .int (nZ 0), .int (nZ ven), .int (nZ vsp), .int (nZ vla), .int (nZ vpc)])), (ms, .inl (k 0, 900, .inl (zA s2_10)))] H := hP
  have hD : va_D A [(mm, .inr (7, [.ref ms, .int (nZ sv2_6), .ref mk, .ref mb, .int (nZ vty), .int (nZ 0), .int (nZ ven), .int (nZ vsp), .int (nZ vla), .int (nZ vpc)])), (ms, .inl (k 0, 900, .inl (zA s2_10)))] := hD
  refine zz_if_eq X (tgt := 20) dX7_endTurn_13 (by decide) ⟨by omega, by omega⟩ (fun c_13 => ?_) (fun c_13 => ?_)
  · exfalso; omega
  · refine lv_iconst (v := nZ (-1)) hX hB dX7_endTurn_16 rfl ?_
    refine lv_goto (tgt := 24) hX hB dX7_endTurn_17 (by decide) ?_
    exact zRetI (s2_10, sv2_6) X hP hD hS rfl ⟨by first | rfl | (congr 1; omega) | (dsimp only; congr 1; omega), by unfold endF; first | (rw [if_pos hw]; exact hB2_21) | (rw [if_neg (by omega)]; exact hB2_10), fr_sv (by first | exact hf2_10.trans hf2_21 | exact hf2_10) hv_6, hsv_6⟩ dX7_endTurn_24
set_option maxHeartbeats 4000000 in
set_option maxRecDepth 100000 in
theorem c_X7_begin (l : Launch) (D : va_G) (k : Nat → ClassId) (sz : Nat) (mm ms mk mb : Nat) (vsv vty vth ven vsp vla vpc : Int) (s : Nat → Int) (B : Bd) (n : Nat) (hBk : blkOk s 0 B) (hG : bdGood B) (hn : vsv = ↑n) (hs : n ≤ 6) : Met l yX7_begin (zW yX7_begin cX7_begin 3 (some .int)) ({ frames := 2, cells := 0, slots := 0, locals := 46 } : Room) (va_Pc [.ref mm] (zIn D k sz [(mm, .inr (7, [.ref ms, .int (nZ vsv), .ref mk, .ref mb, .int (nZ vty), .int (nZ vth), .int (nZ ven), .int (nZ vsp), .int (nZ vla), .int (nZ vpc)])), (ms, .inl (k 0, 900, .inl (zA s)))])) (va_Qi (fun (rz : Int32) (uz : (Nat → Int) × Int) => rz = nZ (chalksB B) ∧ blkOk uz.1 0 (beginB B) ∧ (∀ k : Nat, 90 ≤ k → uz.1 k = svS s n k) ∧ uz.2 = (↑(if n < 6 then n + 1 else 6) : Int)) (fun (uz : (Nat → Int) × Int) => zOut D (va_A [(mm, .inr (7, [.ref ms, .int (nZ vsv), .ref mk, .ref mb, .int (nZ vty), .int (nZ vth), .int (nZ ven), .int (nZ vsp), .int (nZ vla), .int (nZ vpc)])), (ms, .inl (k 0, 900, .inl (zA s)))] sz) [(mm, .inr (7, [.ref ms, .int (nZ uz.2), .ref mk, .ref mb, .int (nZ vty), .int (nZ 0), .int (nZ ven), .int (nZ vsp), .int (nZ vla), .int (nZ vpc)])), (ms, .inl (k 0, 900, .inl (zA uz.1)))]) (va_A [(mm, .inr (7, [.ref ms, .int (nZ vsv), .ref mk, .ref mb, .int (nZ vty), .int (nZ vth), .int (nZ ven), .int (nZ vsp), .int (nZ vla), .int (nZ vpc)])), (ms, .inl (k 0, 900, .inl (zA s)))] sz)) 0 0 (va_A [(mm, .inr (7, [.ref ms, .int (nZ vsv), .ref mk, .ref mb, .int (nZ vty), .int (nZ vth), .int (nZ ven), .int (nZ vsp), .int (nZ vla), .int (nZ vpc)])), (ms, .inl (k 0, 900, .inl (zA s)))] sz) := by
  refine zEnter (Qf := fun A => va_Qi (fun (rz : Int32) (uz : (Nat → Int) × Int) => rz = nZ (chalksB B) ∧ blkOk uz.1 0 (beginB B) ∧ (∀ k : Nat, 90 ≤ k → uz.1 k = svS s n k) ∧ uz.2 = (↑(if n < 6 then n + 1 else 6) : Int)) (fun (uz : (Nat → Int) × Int) => zOut D A [(mm, .inr (7, [.ref ms, .int (nZ uz.2), .ref mk, .ref mb, .int (nZ vty), .int (nZ 0), .int (nZ ven), .int (nZ vsp), .int (nZ vla), .int (nZ vpc)])), (ms, .inl (k 0, 900, .inl (zA uz.1)))]) A) RX7 (by decide) rfl (Nat.le_of_ble_eq_true rfl) ?_
  intro p9 e9 s9 m9 be9 me9 c9 ls A X hin hP hD hS hA hAe hl
  have hX := X.1; have hB := X.2.1; have hz := X.2.2.2.2.1; have hW := X.2.2.2.2.2.1; have hK := X.2.2.2.2.2.2.2; clear hAe
  clear hin
  have hl : lv_has ls 3 [(0, .ref mm)] := hl
  have hG0 := hG
  obtain ⟨hcost, hpl, hpu, hwi, hch, hC0, hC1, hC2⟩ := hG0
  refine lv_aload_n hX hB dX7_begin_0 rfl (lv_at hl 0 rfl) ?_
  refine lv_iconst (v := nZ 0) hX hB dX7_begin_1 rfl ?_
  refine va_put (v := .int (nZ 0)) (ty := tyX7 5) hX hB hz inlX7 tyX7 tyX7_ok nmX7 hW hK.1 hP hD hS 0 rfl rfl 5 (by decide) (hz _ zw_249) (fun _ h9 => h9) rfl (by decide +kernel) rfl rfl (Nat.le_of_ble_eq_true rfl) dX7_begin_2 (fun H locs hP hD hS => ?_)
  have hP : va_P D vwCl [(mm, .inr (7, [.ref ms, .int (nZ vsv), .ref mk, .ref mb, .int (nZ vty), .int (nZ 0), .int (nZ ven), .int (nZ vsp), .int (nZ vla), .int (nZ vpc)])), (ms, .inl (k 0, 900, .inl (zA s)))] H := hP
  have hD : va_D A [(mm, .inr (7, [.ref ms, .int (nZ vsv), .ref mk, .ref mb, .int (nZ vty), .int (nZ 0), .int (nZ ven), .int (nZ vsp), .int (nZ vla), .int (nZ vpc)])), (ms, .inl (k 0, 900, .inl (zA s)))] := hD
  refine lv_aload_n hX hB dX7_begin_5 rfl (lv_at hl 0 rfl) ?_
  refine zCallV0 (zRunV (As := []) X mv_X7_saves (c_X7_saves l D k _ mm ms mk mb vsv vty 0 ven vsp vla vpc s n hn hs) zw_250 (zPreV hP hD hK [0, 1] rfl rfl 0 7 rfl rfl rfl) rfl hl (Nat.le_of_ble_eq_true rfl) dX7_begin_6 ⟨rfl, rfl, ⟨Nat.le_of_ble_eq_true rfl, Nat.le_of_ble_eq_true rfl⟩, Nat.le_of_ble_eq_true rfl, Nat.le_of_ble_eq_true rfl⟩ rfl) hS hP hD hA [0, 1] rfl (fun _ => rfl) (fun u_6 H locs hq_6 hP hD hS => ?_)
  obtain ⟨s2_6, sv2_6⟩ := u_6
  obtain ⟨hv_6, hsv_6⟩ := hq_6
  try dsimp only at hv_6 hsv_6
  have hP : va_P D vwCl [(mm, .inr (7, [.ref ms, .int (nZ sv2_6), .ref mk, .ref mb, .int (nZ vty), .int (nZ 0), .int (nZ ven), .int (nZ vsp), .int (nZ vla), .int (nZ vpc)])), (ms, .inl (k 0, 900, .inl (zA s2_6)))] H := hP
  have hD : va_D A [(mm, .inr (7, [.ref ms, .int (nZ sv2_6), .ref mk, .ref mb, .int (nZ vty), .int (nZ 0), .int (nZ ven), .int (nZ vsp), .int (nZ vla), .int (nZ vpc)])), (ms, .inl (k 0, 900, .inl (zA s2_6)))] := hD
  have hb1 : blkOk s2_6 0 B := sv_lo hBk hv_6
  refine lv_aload_n hX hB dX7_begin_9 rfl (lv_at hl 0 rfl) ?_
  refine lv_iconst (v := nZ 0) hX hB dX7_begin_10 rfl ?_
  refine zCallI0 (zRunV (As := [.int (nZ 0)]) X mv_X7_chalksOf (c_X7_chalksOf l D k _ mm ms mk mb sv2_6 vty 0 ven vsp vla vpc s2_6 B 0 hb1 (by first | assumption | omega | exact ⟨by omega, by omega⟩)) zw_336 (zPreV hP hD hK [0, 1] rfl rfl 0 7 rfl rfl rfl) rfl hl (Nat.le_of_ble_eq_true rfl) dX7_begin_11 ⟨rfl, rfl, ⟨Nat.le_of_ble_eq_true rfl, Nat.le_of_ble_eq_true rfl⟩, Nat.le_of_ble_eq_true rfl, Nat.le_of_ble_eq_true rfl⟩ rfl) hS hP hD hA [0, 1] rfl (fun _ => rfl) (fun r_11 u_11 H locs hq_11 hP hD hS => ?_)
  subst hq_11
  have hP : va_P D vwCl [(mm, .inr (7, [.ref ms, .int (nZ sv2_6), .ref mk, .ref mb, .int (nZ vty), .int (nZ 0), .int (nZ ven), .int (nZ vsp), .int (nZ vla), .int (nZ vpc)])), (ms, .inl (k 0, 900, .inl (zA s2_6)))] H := hP
  have hD : va_D A [(mm, .inr (7, [.ref ms, .int (nZ sv2_6), .ref mk, .ref mb, .int (nZ vty), .int (nZ 0), .int (nZ ven), .int (nZ vsp), .int (nZ vla), .int (nZ vpc)])), (ms, .inl (k 0, 900, .inl (zA s2_6)))] := hD
  refine lv_aload_n hX hB dX7_begin_14 rfl (lv_at hl 0 rfl) ?_
  refine lv_iconst (v := nZ 1) hX hB dX7_begin_15 rfl ?_
  refine zCallI0 (zRunV (As := [.int (nZ 1)]) X mv_X7_chalksOf (c_X7_chalksOf l D k _ mm ms mk mb sv2_6 vty 0 ven vsp vla vpc s2_6 B 1 hb1 (by first | assumption | omega | exact ⟨by omega, by omega⟩)) zw_336 (zPreV hP hD hK [0, 1] rfl rfl 0 7 rfl rfl rfl) rfl hl (Nat.le_of_ble_eq_true rfl) dX7_begin_16 ⟨rfl, rfl, ⟨Nat.le_of_ble_eq_true rfl, Nat.le_of_ble_eq_true rfl⟩, Nat.le_of_ble_eq_true rfl, Nat.le_of_ble_eq_true rfl⟩ rfl) hS hP hD hA [0, 1] rfl (fun _ => rfl) (fun r_16 u_16 H locs hq_16 hP hD hS => ?_)
  subst hq_16
  have hP : va_P D vwCl [(mm, .inr (7, [.ref ms, .int (nZ sv2_6), .ref mk, .ref mb, .int (nZ vty), .int (nZ 0), .int (nZ ven), .int (nZ vsp), .int (nZ vla), .int (nZ vpc)])), (ms, .inl (k 0, 900, .inl (zA s2_6)))] H := hP
  have hD : va_D A [(mm, .inr (7, [.ref ms, .int (nZ sv2_6), .ref mk, .ref mb, .int (nZ vty), .int (nZ 0), .int (nZ ven), .int (nZ vsp), .int (nZ vla), .int (nZ vpc)])), (ms, .inl (k 0, 900, .inl (zA s2_6)))] := hD
  refine zz_iadd X dX7_begin_19 (z := ((chSum (chB B) 0) + (chSum (chB B) 1))) (by first | rfl | omega) ?_
  refine lv_istore_n (lv' := [(1, .int (nZ ((chSum (chB B) 0) + (chSum (chB B) 1)))), (0, .ref mm)]) hX hB dX7_begin_20 rfl hl (by decide) rfl (fun ls hl => ?_)
  refine lv_aload_n hX hB dX7_begin_21 rfl (lv_at hl 1 rfl) ?_
  refine zCallV0 (zRunV (As := []) X mv_X7_clears (c_X7_clears l D k _ mm ms mk mb sv2_6 vty 0 ven vsp vla vpc s2_6 B hb1) zw_302 (zPreV hP hD hK [0, 1] rfl rfl 0 7 rfl rfl rfl) rfl hl (Nat.le_of_ble_eq_true rfl) dX7_begin_22 ⟨rfl, rfl, ⟨Nat.le_of_ble_eq_true rfl, Nat.le_of_ble_eq_true rfl⟩, Nat.le_of_ble_eq_true rfl, Nat.le_of_ble_eq_true rfl⟩ rfl) hS hP hD hA [0, 1] rfl (fun _ => rfl) (fun u_22 H locs hq_22 hP hD hS => ?_)
  obtain ⟨s2_22, e9⟩ : ∃ z9, z9 = u_22 := ⟨_, rfl⟩; subst e9
  obtain ⟨hB2_22, hf2_22⟩ := hq_22
  try dsimp only at hB2_22 hf2_22
  have hP : va_P D vwCl [(mm, .inr (7, [.ref ms, .int (nZ sv2_6), .ref mk, .ref mb, .int (nZ vty), .int (nZ 0), .int (nZ ven), .int (nZ vsp), .int (nZ vla), .int (nZ vpc)])), (ms, .inl (k 0, 900, .inl (zA s2_22)))] H := hP
  have hD : va_D A [(mm, .inr (7, [.ref ms, .int (nZ sv2_6), .ref mk, .ref mb, .int (nZ vty), .int (nZ 0), .int (nZ ven), .int (nZ vsp), .int (nZ vla), .int (nZ vpc)])), (ms, .inl (k 0, 900, .inl (zA s2_22)))] := hD
  refine lv_iconst (v := nZ 0) hX hB dX7_begin_25 rfl ?_
  refine lv_istore_n (lv' := [(2, .int (nZ 0)), (1, .int (nZ ((chSum (chB B) 0) + (chSum (chB B) 1)))), (0, .ref mm)]) hX hB dX7_begin_26 rfl hl (by decide) rfl (fun ls hl => ?_)
  refine zLoop (σ := Nat × (Nat → Int)) (fun (x : Nat × (Nat → Int)) (H : Heap) (locs : List Loc) (ls : Array Slot) => match x with | (i, q) => (i ≤ 18) ∧ (∀ k : Nat, q k = if 9 ≤ k ∧ k < 9 + i then 0 else s2_22 k) ∧ va_P D vwCl [(mm, .inr (7, [.ref ms, .int (nZ sv2_6), .ref mk, .ref mb, .int (nZ vty), .int (nZ 0), .int (nZ ven), .int (nZ vsp), .int (nZ vla), .int (nZ vpc)])), (ms, .inl (k 0, 900, .inl (zA q)))] H ∧ va_D A [(mm, .inr (7, [.ref ms, .int (nZ sv2_6), .ref mk, .ref mb, .int (nZ vty), .int (nZ 0), .int (nZ ven), .int (nZ vsp), .int (nZ vla), .int (nZ vpc)])), (ms, .inl (k 0, 900, .inl (zA q)))] ∧ va_S A s9.heap H locs ∧ lv_has ls 3 [(0, .ref mm), (1, .int (nZ (chSum (chB B) 0 + chSum (chB B) 1))), (2, .int (nZ ↑i))]) (fun (x : Nat × (Nat → Int)) => match x with | (i, q) => 18 - i) ?_ (0, s2_22) ⟨(by first | omega | assumption | rfl), (by intro k; rw [if_neg (by omega)]), hP, hD, hS, (lv_sub hl [2, 1, 0] rfl)⟩
  rintro ⟨i, q⟩ H locs ls ⟨hi, hq, hP, hD, hS, hl⟩ ih_27
  refine lv_iload_n hX hB dX7_begin_27 rfl (lv_at hl 2 rfl) ?_
  refine lv_bipush (v := nZ 18) hX hB dX7_begin_28 (by decide) ?_
  refine zz_icmp_ge X (tgt := 49) dX7_begin_30 (by decide) ⟨by omega, by omega⟩ ⟨by omega, by omega⟩ (fun c_30 => ?_) (fun c_30 => ?_)
  · refine lv_aload_n hX hB dX7_begin_49 rfl (lv_at hl 0 rfl) ?_
    refine va_get hX hB hz inlX7 hW hK.1 hP 0 rfl rfl 0 (by decide) (hz _ zw_74) (fun _ h9 => h9) rfl dX7_begin_50 ?_
    refine lv_iconst (v := nZ 1) hX hB dX7_begin_53 rfl ?_
    refine lv_iconst (v := nZ 0) hX hB dX7_begin_54 rfl ?_
    refine zz_iast X hP hD hS 1 0 rfl rfl 1 (by omega) (by omega) (by first | decide | omega) dX7_begin_55 (fun H locs hP hD hS => ?_)
    have hP : va_P D vwCl [(mm, .inr (7, [.ref ms, .int (nZ sv2_6), .ref mk, .ref mb, .int (nZ vty), .int (nZ 0), .int (nZ ven), .int (nZ vsp), .int (nZ vla), .int (nZ vpc)])), (ms, .inl (k 0, 900, .inl (zA (zU q 1 0))))] H := hP
    have hD : va_D A [(mm, .inr (7, [.ref ms, .int (nZ sv2_6), .ref mk, .ref mb, .int (nZ vty), .int (nZ 0), .int (nZ ven), .int (nZ vsp), .int (nZ vla), .int (nZ vpc)])), (ms, .inl (k 0, 900, .inl (zA (zU q 1 0))))] := hD
    refine lv_aload_n hX hB dX7_begin_56 rfl (lv_at hl 0 rfl) ?_
    refine va_get hX hB hz inlX7 hW hK.1 hP 0 rfl rfl 0 (by decide) (hz _ zw_74) (fun _ h9 => h9) rfl dX7_begin_57 ?_
    refine lv_iconst (v := nZ 2) hX hB dX7_begin_60 rfl ?_
    refine lv_iconst (v := nZ 0) hX hB dX7_begin_61 rfl ?_
    refine zz_iast X hP hD hS 1 0 rfl rfl 2 (by omega) (by omega) (by first | decide | omega) dX7_begin_62 (fun H locs hP hD hS => ?_)
    have hP : va_P D vwCl [(mm, .inr (7, [.ref ms, .int (nZ sv2_6), .ref mk, .ref mb, .int (nZ vty), .int (nZ 0), .int (nZ ven), .int (nZ vsp), .int (nZ vla), .int (nZ vpc)])), (ms, .inl (k 0, 900, .inl (zA (zU (zU q 1 0) 2 0))))] H := hP
    have hD : va_D A [(mm, .inr (7, [.ref ms, .int (nZ sv2_6), .ref mk, .ref mb, .int (nZ vty), .int (nZ 0), .int (nZ ven), .int (nZ vsp), .int (nZ vla), .int (nZ vpc)])), (ms, .inl (k 0, 900, .inl (zA (zU (zU q 1 0) 2 0))))] := hD
    refine lv_aload_n hX hB dX7_begin_63 rfl (lv_at hl 0 rfl) ?_
    refine va_get hX hB hz inlX7 hW hK.1 hP 0 rfl rfl 0 (by decide) (hz _ zw_74) (fun _ h9 => h9) rfl dX7_begin_64 ?_
    refine lv_iconst (v := nZ 3) hX hB dX7_begin_67 rfl ?_
    refine lv_iconst (v := nZ 0) hX hB dX7_begin_68 rfl ?_
    refine zz_iast X hP hD hS 1 0 rfl rfl 3 (by omega) (by omega) (by first | decide | omega) dX7_begin_69 (fun H locs hP hD hS => ?_)
    have hP : va_P D vwCl [(mm, .inr (7, [.ref ms, .int (nZ sv2_6), .ref mk, .ref mb, .int (nZ vty), .int (nZ 0), .int (nZ ven), .int (nZ vsp), .int (nZ vla), .int (nZ vpc)])), (ms, .inl (k 0, 900, .inl (zA (zU (zU (zU q 1 0) 2 0) 3 0))))] H := hP
    have hD : va_D A [(mm, .inr (7, [.ref ms, .int (nZ sv2_6), .ref mk, .ref mb, .int (nZ vty), .int (nZ 0), .int (nZ ven), .int (nZ vsp), .int (nZ vla), .int (nZ vpc)])), (ms, .inl (k 0, 900, .inl (zA (zU (zU (zU q 1 0) 2 0) 3 0))))] := hD
    refine lv_aload_n hX hB dX7_begin_70 rfl (lv_at hl 0 rfl) ?_
    refine va_get hX hB hz inlX7 hW hK.1 hP 0 rfl rfl 0 (by decide) (hz _ zw_74) (fun _ h9 => h9) rfl dX7_begin_71 ?_
    refine lv_iconst (v := nZ 4) hX hB dX7_begin_74 rfl ?_
    refine lv_iconst (v := nZ 0) hX hB dX7_begin_75 rfl ?_
    refine zz_iast X hP hD hS 1 0 rfl rfl 4 (by omega) (by omega) (by first | decide | omega) dX7_begin_76 (fun H locs hP hD hS => ?_)
    have hP : va_P D vwCl [(mm, .inr (7, [.ref ms, .int (nZ sv2_6), .ref mk, .ref mb, .int (nZ vty), .int (nZ 0), .int (nZ ven), .int (nZ vsp), .int (nZ vla), .int (nZ vpc)])), (ms, .inl (k 0, 900, .inl (zA (zU (zU (zU (zU q 1 0) 2 0) 3 0) 4 0))))] H := hP
    have hD : va_D A [(mm, .inr (7, [.ref ms, .int (nZ sv2_6), .ref mk, .ref mb, .int (nZ vty), .int (nZ 0), .int (nZ ven), .int (nZ vsp), .int (nZ vla), .int (nZ vpc)])), (ms, .inl (k 0, 900, .inl (zA (zU (zU (zU (zU q 1 0) 2 0) 3 0) 4 0))))] := hD
    refine lv_iload_n hX hB dX7_begin_77 rfl (lv_at hl 1 rfl) ?_
    have hi9 : i = 18 := by omega
    subst hi9
    exact zRetI ((zU (zU (zU (zU q 1 0) 2 0) 3 0) 4 0), sv2_6) X hP hD hS rfl ⟨rfl, begin_blk hB2_22 hq, fr_sv (((((hf2_22.trans (begin_fr hq)).zU (by omega) (by omega)).zU (by omega) (by omega)).zU (by omega) (by omega)).zU (by omega) (by omega)) hv_6, hsv_6⟩ dX7_begin_78
  · refine lv_aload_n hX hB dX7_begin_33 rfl (lv_at hl 0 rfl) ?_
    refine va_get hX hB hz inlX7 hW hK.1 hP 0 rfl rfl 0 (by decide) (hz _ zw_74) (fun _ h9 => h9) rfl dX7_begin_34 ?_
    refine lv_bipush (v := nZ 9) hX hB dX7_begin_37 (by decide) ?_
    refine lv_iload_n hX hB dX7_begin_39 rfl (lv_at hl 2 rfl) ?_
    refine zz_iadd X dX7_begin_40 (z := (9 + ↑i)) (by first | rfl | omega) ?_
    refine lv_iconst (v := nZ 0) hX hB dX7_begin_41 rfl ?_
    refine zz_iast X hP hD hS 1 0 rfl rfl (9 + i) (by omega) (by omega) (by first | decide | omega) dX7_begin_42 (fun H locs hP hD hS => ?_)
    have hP : va_P D vwCl [(mm, .inr (7, [.ref ms, .int (nZ sv2_6), .ref mk, .ref mb, .int (nZ vty), .int (nZ 0), .int (nZ ven), .int (nZ vsp), .int (nZ vla), .int (nZ vpc)])), (ms, .inl (k 0, 900, .inl (zA (zU q (9 + i) 0))))] H := hP
    have hD : va_D A [(mm, .inr (7, [.ref ms, .int (nZ sv2_6), .ref mk, .ref mb, .int (nZ vty), .int (nZ 0), .int (nZ ven), .int (nZ vsp), .int (nZ vla), .int (nZ vpc)])), (ms, .inl (k 0, 900, .inl (zA (zU q (9 + i) 0))))] := hD
    refine lv_iinc (v := nZ (↑(i + 1) : Int)) (lv' := [(2, .int (nZ (↑(i + 1) : Int))), (0, .ref mm), (1, .int (nZ (chSum (chB B) 0 + chSum (chB B) 1)))]) hX hB dX7_begin_43 hl (k := 2) rfl (zinc (by omega)) (by decide) rfl (fun ls hl => ?_)
    refine lv_goto (tgt := 27) hX hB dX7_begin_46 (by decide) ?_
    exact ih_27 ((i + 1), (zU q (9 + i) 0)) _ _ _ ⟨(by first | omega | assumption | rfl), (by exact begin_step hq), hP, hD, hS, (lv_sub hl [1, 2, 0] rfl)⟩ (by dsimp only; omega)
set_option maxHeartbeats 4000000 in
set_option maxRecDepth 100000 in
theorem c_X7_set (l : Launch) (D : va_G) (k : Nat → ClassId) (sz : Nat) (mm ms mk mb : Nat) (vsv vty vth ven vsp vla vpc : Int) (s : Nat → Int) (B : Bd) (n : Nat) (v : Int) (hBk : blkOk s 0 B) (hG : bdGood B) (hn : vsv = ↑n) (hs : n ≤ 6) (hvv : 0 ≤ v ∧ v ≤ 20) : Met l yX7_set (zW yX7_set cX7_set 3 (some .int)) ({ frames := 2, cells := 0, slots := 0, locals := 44 } : Room) (va_Pc [.ref mm, .int (nZ v)] (zIn D k sz [(mm, .inr (7, [.ref ms, .int (nZ vsv), .ref mk, .ref mb, .int (nZ vty), .int (nZ vth), .int (nZ ven), .int (nZ vsp), .int (nZ vla), .int (nZ vpc)])), (ms, .inl (k 0, 900, .inl (zA s)))])) (va_Qi (fun (rz : Int32) (uz : (Nat → Int) × Int) => rz = nZ (B.1 0) ∧ blkOk uz.1 0 (setB B v) ∧ (∀ k : Nat, 90 ≤ k → uz.1 k = svS s n k) ∧ uz.2 = (↑(if n < 6 then n + 1 else 6) : Int)) (fun (uz : (Nat → Int) × Int) => zOut D (va_A [(mm, .inr (7, [.ref ms, .int (nZ vsv), .ref mk, .ref mb, .int (nZ vty), .int (nZ vth), .int (nZ ven), .int (nZ vsp), .int (nZ vla), .int (nZ vpc)])), (ms, .inl (k 0, 900, .inl (zA s)))] sz) [(mm, .inr (7, [.ref ms, .int (nZ uz.2), .ref mk, .ref mb, .int (nZ vty), .int (nZ 0), .int (nZ ven), .int (nZ vsp), .int (nZ vla), .int (nZ vpc)])), (ms, .inl (k 0, 900, .inl (zA uz.1)))]) (va_A [(mm, .inr (7, [.ref ms, .int (nZ vsv), .ref mk, .ref mb, .int (nZ vty), .int (nZ vth), .int (nZ ven), .int (nZ vsp), .int (nZ vla), .int (nZ vpc)])), (ms, .inl (k 0, 900, .inl (zA s)))] sz)) 0 0 (va_A [(mm, .inr (7, [.ref ms, .int (nZ vsv), .ref mk, .ref mb, .int (nZ vty), .int (nZ vth), .int (nZ ven), .int (nZ vsp), .int (nZ vla), .int (nZ vpc)])), (ms, .inl (k 0, 900, .inl (zA s)))] sz) := by
  refine zEnter (Qf := fun A => va_Qi (fun (rz : Int32) (uz : (Nat → Int) × Int) => rz = nZ (B.1 0) ∧ blkOk uz.1 0 (setB B v) ∧ (∀ k : Nat, 90 ≤ k → uz.1 k = svS s n k) ∧ uz.2 = (↑(if n < 6 then n + 1 else 6) : Int)) (fun (uz : (Nat → Int) × Int) => zOut D A [(mm, .inr (7, [.ref ms, .int (nZ uz.2), .ref mk, .ref mb, .int (nZ vty), .int (nZ 0), .int (nZ ven), .int (nZ vsp), .int (nZ vla), .int (nZ vpc)])), (ms, .inl (k 0, 900, .inl (zA uz.1)))]) A) RX7 (by decide) rfl (Nat.le_of_ble_eq_true rfl) ?_
  intro p9 e9 s9 m9 be9 me9 c9 ls A X hin hP hD hS hA hAe hl
  have hX := X.1; have hB := X.2.1; have hz := X.2.2.2.2.1; have hW := X.2.2.2.2.2.1; have hK := X.2.2.2.2.2.2.2; clear hAe
  clear hin
  have hl : lv_has ls 3 [(0, .ref mm), (1, .int (nZ v))] := hl
  have hG0 := hG
  obtain ⟨hcost, hpl, hpu, hwi, hch, hC0, hC1, hC2⟩ := hG0
  refine lv_aload_n hX hB dX7_set_0 rfl (lv_at hl 0 rfl) ?_
  refine lv_iload_n hX hB dX7_set_1 rfl (lv_at hl 1 rfl) ?_
  refine lv_iconst (v := nZ 0) hX hB dX7_set_2 rfl ?_
  refine lv_bipush (v := nZ 20) hX hB dX7_set_3 (by decide) ?_
  refine zCallI0 (zRunS X ms_X7_in (c_X7_in_t l D k _ v 0 20 (by first | assumption | omega | exact ⟨by omega, by omega⟩) (by first | assumption | omega | exact ⟨by omega, by omega⟩) (by first | assumption | omega | exact ⟨by omega, by omega⟩) hvv) zw_239 (zPreS hP hD hK [] rfl rfl) rfl hl (Nat.le_of_ble_eq_true rfl) dX7_set_5 ⟨rfl, rfl, ⟨Nat.le_of_ble_eq_true rfl, Nat.le_of_ble_eq_true rfl⟩, Nat.le_of_ble_eq_true rfl, Nat.le_of_ble_eq_true rfl⟩ rfl) hS hP hD hA [] rfl (fun _ => rfl) (fun r_5 u_5 H locs hq_5 hP hD hS => ?_)
  subst hq_5
  have hP : va_P D vwCl [(mm, .inr (7, [.ref ms, .int (nZ vsv), .ref mk, .ref mb, .int (nZ vty), .int (nZ vth), .int (nZ ven), .int (nZ vsp), .int (nZ vla), .int (nZ vpc)])), (ms, .inl (k 0, 900, .inl (zA s)))] H := hP
  have hD : va_D A [(mm, .inr (7, [.ref ms, .int (nZ vsv), .ref mk, .ref mb, .int (nZ vty), .int (nZ vth), .int (nZ ven), .int (nZ vsp), .int (nZ vla), .int (nZ vpc)])), (ms, .inl (k 0, 900, .inl (zA s)))] := hD
  refine lv_iconst (v := nZ 1) hX hB dX7_set_8 rfl ?_
  refine zCallI0 (zRunV (As := [.int (nZ 1), .int (nZ 1)]) X mv_X7_goes (c_X7_goes_11 l D k _ mm ms mk mb vsv vty vth ven vsp vla vpc ) zw_245 (zPreV hP hD hK [0] rfl rfl 0 7 rfl rfl rfl) rfl hl (Nat.le_of_ble_eq_true rfl) dX7_set_9 ⟨rfl, rfl, ⟨Nat.le_of_ble_eq_true rfl, Nat.le_of_ble_eq_true rfl⟩, Nat.le_of_ble_eq_true rfl, Nat.le_of_ble_eq_true rfl⟩ rfl) hS hP hD hA [0] rfl (fun _ => rfl) (fun r_9 u_9 H locs hq_9 hP hD hS => ?_)
  subst hq_9
  have hP : va_P D vwCl [(mm, .inr (7, [.ref ms, .int (nZ vsv), .ref mk, .ref mb, .int (nZ vty), .int (nZ 0), .int (nZ ven), .int (nZ vsp), .int (nZ vla), .int (nZ vpc)])), (ms, .inl (k 0, 900, .inl (zA s)))] H := hP
  have hD : va_D A [(mm, .inr (7, [.ref ms, .int (nZ vsv), .ref mk, .ref mb, .int (nZ vty), .int (nZ 0), .int (nZ ven), .int (nZ vsp), .int (nZ vla), .int (nZ vpc)])), (ms, .inl (k 0, 900, .inl (zA s)))] := hD
  refine zz_if_ne X (tgt := 17) dX7_set_12 (by decide) ⟨by omega, by omega⟩ (fun c_12 => ?_) (fun c_12 => ?_)
  · refine lv_aload_n hX hB dX7_set_17 rfl (lv_at hl 0 rfl) ?_
    refine zCallV0 (zRunV (As := []) X mv_X7_saves (c_X7_saves l D k _ mm ms mk mb vsv vty 0 ven vsp vla vpc s n hn hs) zw_250 (zPreV hP hD hK [0, 1] rfl rfl 0 7 rfl rfl rfl) rfl hl (Nat.le_of_ble_eq_true rfl) dX7_set_18 ⟨rfl, rfl, ⟨Nat.le_of_ble_eq_true rfl, Nat.le_of_ble_eq_true rfl⟩, Nat.le_of_ble_eq_true rfl, Nat.le_of_ble_eq_true rfl⟩ rfl) hS hP hD hA [0, 1] rfl (fun _ => rfl) (fun u_18 H locs hq_18 hP hD hS => ?_)
    obtain ⟨s2_18, sv2_18⟩ := u_18
    obtain ⟨hv_18, hsv_18⟩ := hq_18
    try dsimp only at hv_18 hsv_18
    have hP : va_P D vwCl [(mm, .inr (7, [.ref ms, .int (nZ sv2_18), .ref mk, .ref mb, .int (nZ vty), .int (nZ 0), .int (nZ ven), .int (nZ vsp), .int (nZ vla), .int (nZ vpc)])), (ms, .inl (k 0, 900, .inl (zA s2_18)))] H := hP
    have hD : va_D A [(mm, .inr (7, [.ref ms, .int (nZ sv2_18), .ref mk, .ref mb, .int (nZ vty), .int (nZ 0), .int (nZ ven), .int (nZ vsp), .int (nZ vla), .int (nZ vpc)])), (ms, .inl (k 0, 900, .inl (zA s2_18)))] := hD
    have hb1 : blkOk s2_18 0 B := sv_lo hBk hv_18
    refine lv_aload_n hX hB dX7_set_21 rfl (lv_at hl 0 rfl) ?_
    refine va_get hX hB hz inlX7 hW hK.1 hP 0 rfl rfl 0 (by decide) (hz _ zw_74) (fun _ h9 => h9) rfl dX7_set_22 ?_
    refine lv_iconst (v := nZ 0) hX hB dX7_set_25 rfl ?_
    refine zz_iald X hP 1 0 rfl rfl 0 (by omega) (by omega) (by first | decide | omega) dX7_set_26 ?_
    refine lv_istore_n (lv' := [(2, .int (nZ (s2_18 0))), (0, .ref mm), (1, .int (nZ v))]) hX hB dX7_set_27 rfl hl (by decide) rfl (fun ls hl => ?_)
    refine lv_aload_n hX hB dX7_set_28 rfl (lv_at hl 1 rfl) ?_
    refine va_get hX hB hz inlX7 hW hK.1 hP 0 rfl rfl 0 (by decide) (hz _ zw_74) (fun _ h9 => h9) rfl dX7_set_29 ?_
    refine lv_iconst (v := nZ 0) hX hB dX7_set_32 rfl ?_
    refine lv_iload_n hX hB dX7_set_33 rfl (lv_at hl 2 rfl) ?_
    refine zz_iast X hP hD hS 1 0 rfl rfl 0 (by omega) (by omega) (by first | decide | omega) dX7_set_34 (fun H locs hP hD hS => ?_)
    have hP : va_P D vwCl [(mm, .inr (7, [.ref ms, .int (nZ sv2_18), .ref mk, .ref mb, .int (nZ vty), .int (nZ 0), .int (nZ ven), .int (nZ vsp), .int (nZ vla), .int (nZ vpc)])), (ms, .inl (k 0, 900, .inl (zA (zU s2_18 0 v))))] H := hP
    have hD : va_D A [(mm, .inr (7, [.ref ms, .int (nZ sv2_18), .ref mk, .ref mb, .int (nZ vty), .int (nZ 0), .int (nZ ven), .int (nZ vsp), .int (nZ vla), .int (nZ vpc)])), (ms, .inl (k 0, 900, .inl (zA (zU s2_18 0 v))))] := hD
    refine lv_iload_n hX hB dX7_set_35 rfl (lv_at hl 0 rfl) ?_
    exact zRetI ((zU s2_18 0 v), sv2_18) X hP hD hS rfl ⟨by congr 1; exact hb1.num (k := 0) (by omega), set_blk hb1 v, fr_sv ((frOk.refl _ 0).zU (by omega) (by omega)) hv_18, hsv_18⟩ dX7_set_36
  · exfalso; omega
set_option maxHeartbeats 4000000 in
set_option maxRecDepth 100000 in
theorem c_X7_set_e1 (l : Launch) (D : va_G) (k : Nat → ClassId) (sz : Nat) (mm ms mk mb : Nat) (vsv vty vth ven vsp vla vpc : Int) (a : Int) (hza : zR a) (hb : a < 0 ∨ 20 < a) : Met l yX7_set (zW yX7_set cX7_set 3 (some .int)) ({ frames := 2, cells := 0, slots := 0, locals := 44 } : Room) (va_Pc [.ref mm, .int (nZ a)] (zIn D k sz [(mm, .inr (7, [.ref ms, .int (nZ vsv), .ref mk, .ref mb, .int (nZ vty), .int (nZ vth), .int (nZ ven), .int (nZ vsp), .int (nZ vla), .int (nZ vpc)]))])) (va_Qi (fun (rz : Int32) (uz : Unit) => rz = nZ 0) (fun (uz : Unit) => zOut D (va_A [(mm, .inr (7, [.ref ms, .int (nZ vsv), .ref mk, .ref mb, .int (nZ vty), .int (nZ vth), .int (nZ ven), .int (nZ vsp), .int (nZ vla), .int (nZ vpc)]))] sz) [(mm, .inr (7, [.ref ms, .int (nZ vsv), .ref mk, .ref mb, .int (nZ vty), .int (nZ 1), .int (nZ ven), .int (nZ vsp), .int (nZ vla), .int (nZ vpc)]))]) (va_A [(mm, .inr (7, [.ref ms, .int (nZ vsv), .ref mk, .ref mb, .int (nZ vty), .int (nZ vth), .int (nZ ven), .int (nZ vsp), .int (nZ vla), .int (nZ vpc)]))] sz)) 0 0 (va_A [(mm, .inr (7, [.ref ms, .int (nZ vsv), .ref mk, .ref mb, .int (nZ vty), .int (nZ vth), .int (nZ ven), .int (nZ vsp), .int (nZ vla), .int (nZ vpc)]))] sz) := by
  refine zEnter (Qf := fun A => va_Qi (fun (rz : Int32) (uz : Unit) => rz = nZ 0) (fun (uz : Unit) => zOut D A [(mm, .inr (7, [.ref ms, .int (nZ vsv), .ref mk, .ref mb, .int (nZ vty), .int (nZ 1), .int (nZ ven), .int (nZ vsp), .int (nZ vla), .int (nZ vpc)]))]) A) RX7 (by decide) rfl (Nat.le_of_ble_eq_true rfl) ?_
  intro p9 e9 s9 m9 be9 me9 c9 ls A X hin hP hD hS hA hAe hl
  have hX := X.1; have hB := X.2.1; have hz := X.2.2.2.2.1; have hW := X.2.2.2.2.2.1; have hK := X.2.2.2.2.2.2.2; clear hAe
  clear hin
  have hl : lv_has ls 3 [(0, .ref mm), (1, .int (nZ a))] := hl
  refine lv_aload_n hX hB dX7_set_0 rfl (lv_at hl 0 rfl) ?_
  refine lv_iload_n hX hB dX7_set_1 rfl (lv_at hl 1 rfl) ?_
  refine lv_iconst (v := nZ 0) hX hB dX7_set_2 rfl ?_
  refine lv_bipush (v := nZ 20) hX hB dX7_set_3 (by decide) ?_
  refine zCallI0 (zRunS X ms_X7_in (c_X7_in_f l D k _ a 0 20 hza (by first | assumption | omega | exact ⟨by omega, by omega⟩) (by first | assumption | omega | exact ⟨by omega, by omega⟩) hb) zw_239 (zPreS hP hD hK [] rfl rfl) rfl hl (Nat.le_of_ble_eq_true rfl) dX7_set_5 ⟨rfl, rfl, ⟨Nat.le_of_ble_eq_true rfl, Nat.le_of_ble_eq_true rfl⟩, Nat.le_of_ble_eq_true rfl, Nat.le_of_ble_eq_true rfl⟩ rfl) hS hP hD hA [] rfl (fun _ => rfl) (fun r_5 u_5 H locs hq_5 hP hD hS => ?_)
  subst hq_5
  have hP : va_P D vwCl [(mm, .inr (7, [.ref ms, .int (nZ vsv), .ref mk, .ref mb, .int (nZ vty), .int (nZ vth), .int (nZ ven), .int (nZ vsp), .int (nZ vla), .int (nZ vpc)]))] H := hP
  have hD : va_D A [(mm, .inr (7, [.ref ms, .int (nZ vsv), .ref mk, .ref mb, .int (nZ vty), .int (nZ vth), .int (nZ ven), .int (nZ vsp), .int (nZ vla), .int (nZ vpc)]))] := hD
  refine lv_iconst (v := nZ 1) hX hB dX7_set_8 rfl ?_
  refine zCallI0 (zRunV (As := [.int (nZ 0), .int (nZ 1)]) X mv_X7_goes (c_X7_goes_0 l D k _ mm ms mk mb vsv vty vth ven vsp vla vpc 1 ) zw_245 (zPreV hP hD hK [0] rfl rfl 0 7 rfl rfl rfl) rfl hl (Nat.le_of_ble_eq_true rfl) dX7_set_9 ⟨rfl, rfl, ⟨Nat.le_of_ble_eq_true rfl, Nat.le_of_ble_eq_true rfl⟩, Nat.le_of_ble_eq_true rfl, Nat.le_of_ble_eq_true rfl⟩ rfl) hS hP hD hA [0] rfl (fun _ => rfl) (fun r_9 u_9 H locs hq_9 hP hD hS => ?_)
  subst hq_9
  have hP : va_P D vwCl [(mm, .inr (7, [.ref ms, .int (nZ vsv), .ref mk, .ref mb, .int (nZ vty), .int (nZ 1), .int (nZ ven), .int (nZ vsp), .int (nZ vla), .int (nZ vpc)]))] H := hP
  have hD : va_D A [(mm, .inr (7, [.ref ms, .int (nZ vsv), .ref mk, .ref mb, .int (nZ vty), .int (nZ 1), .int (nZ ven), .int (nZ vsp), .int (nZ vla), .int (nZ vpc)]))] := hD
  refine zz_if_ne X (tgt := 17) dX7_set_12 (by decide) ⟨by omega, by omega⟩ (fun c_12 => ?_) (fun c_12 => ?_)
  · exfalso; omega
  · refine lv_iconst (v := nZ 0) hX hB dX7_set_15 rfl ?_
    exact zRetI () X hP hD hS rfl (by first | rfl | (congr 1; omega) | (dsimp only; congr 1; omega)) dX7_set_16
