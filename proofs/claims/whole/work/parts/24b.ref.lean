theorem mv_X7_saves : zMV yX7_saves cX7_saves 2 none 0 := ⟨zw_253, zw_5, ⟨by decide +kernel, by decide +kernel, by decide +kernel⟩, zw_251, zw_252⟩
theorem mv_X7_rests : zMV yX7_rests cX7_rests 6 none 4 := ⟨zw_278, zw_5, ⟨by decide +kernel, by decide +kernel, by decide +kernel⟩, zw_276, zw_277⟩
theorem mv_X7_pushes : zMV yX7_pushes cX7_pushes 15 (some .int) 3 := ⟨zw_266, zw_5, ⟨by decide +kernel, by decide +kernel, by decide +kernel⟩, zw_264, zw_265⟩
set_option maxHeartbeats 4000000 in
set_option maxRecDepth 100000 in
theorem c_X7_saves (l : Launch) (D : va_G) (k : Nat → ClassId) (sz : Nat) (mm ms mk mb : Nat) (vsv vty vth ven vsp vla vpc : Int) (s : Nat → Int) (n : Nat) (hn : vsv = ↑n) (hs : n ≤ 6) : Met l yX7_saves (zW yX7_saves cX7_saves 2 none) ({ frames := 1, cells := 0, slots := 0, locals := 23 } : Room) (va_Pc [.ref mm] (zIn D k sz [(mm, .inr (7, [.ref ms, .int (nZ vsv), .ref mk, .ref mb, .int (nZ vty), .int (nZ vth), .int (nZ ven), .int (nZ vsp), .int (nZ vla), .int (nZ vpc)])), (ms, .inl (k 0, 900, .inl (zA s)))])) (va_Qv (fun (uz : (Nat → Int) × Int) => (∀ k : Nat, uz.1 k = svS s n k) ∧ uz.2 = (↑(if n < 6 then n + 1 else 6) : Int)) (fun (uz : (Nat → Int) × Int) => zOut D (va_A [(mm, .inr (7, [.ref ms, .int (nZ vsv), .ref mk, .ref mb, .int (nZ vty), .int (nZ vth), .int (nZ ven), .int (nZ vsp), .int (nZ vla), .int (nZ vpc)])), (ms, .inl (k 0, 900, .inl (zA s)))] sz) [(mm, .inr (7, [.ref ms, .int (nZ uz.2), .ref mk, .ref mb, .int (nZ vty), .int (nZ vth), .int (nZ ven), .int (nZ vsp), .int (nZ vla), .int (nZ vpc)])), (ms, .inl (k 0, 900, .inl (zA uz.1)))]) (va_A [(mm, .inr (7, [.ref ms, .int (nZ vsv), .ref mk, .ref mb, .int (nZ vty), .int (nZ vth), .int (nZ ven), .int (nZ vsp), .int (nZ vla), .int (nZ vpc)])), (ms, .inl (k 0, 900, .inl (zA s)))] sz)) 0 0 (va_A [(mm, .inr (7, [.ref ms, .int (nZ vsv), .ref mk, .ref mb, .int (nZ vty), .int (nZ vth), .int (nZ ven), .int (nZ vsp), .int (nZ vla), .int (nZ vpc)])), (ms, .inl (k 0, 900, .inl (zA s)))] sz) := by
  refine zEnter (Qf := fun A => va_Qv (fun (uz : (Nat → Int) × Int) => (∀ k : Nat, uz.1 k = svS s n k) ∧ uz.2 = (↑(if n < 6 then n + 1 else 6) : Int)) (fun (uz : (Nat → Int) × Int) => zOut D A [(mm, .inr (7, [.ref ms, .int (nZ uz.2), .ref mk, .ref mb, .int (nZ vty), .int (nZ vth), .int (nZ ven), .int (nZ vsp), .int (nZ vla), .int (nZ vpc)])), (ms, .inl (k 0, 900, .inl (zA uz.1)))]) A) RX7 (by decide) rfl (Nat.le_of_ble_eq_true rfl) ?_
  intro p9 e9 s9 m9 be9 me9 c9 ls A X hin hP hD hS hA hAe hl
  have hX := X.1; have hB := X.2.1; have hz := X.2.2.2.2.1; have hW := X.2.2.2.2.2.1; have hK := X.2.2.2.2.2.2.2; clear hAe
  clear hin
  have hl : lv_has ls 2 [(0, .ref mm)] := hl
  subst hn
  refine lv_aload_n hX hB dX7_saves_0 rfl (lv_at hl 0 rfl) ?_
  refine va_get hX hB hz inlX7 hW hK.1 hP 0 rfl rfl 1 (by decide) (hz _ zw_254) (fun _ h9 => h9) rfl dX7_saves_1 ?_
  refine lv_bipush (v := nZ 6) hX hB dX7_saves_4 (by decide) ?_
  refine zz_icmp_ne X (tgt := 41) dX7_saves_6 (by decide) ⟨by omega, by omega⟩ ⟨by omega, by omega⟩ (fun c_6 => ?_) (fun c_6 => ?_)
  · refine lv_aload_n hX hB dX7_saves_41 rfl (lv_at hl 0 rfl) ?_
    refine lv_dup hX hB dX7_saves_42 rfl ?_
    refine va_get hX hB hz inlX7 hW hK.1 hP 0 rfl rfl 1 (by decide) (hz _ zw_254) (fun _ h9 => h9) rfl dX7_saves_43 ?_
    refine lv_iconst (v := nZ 1) hX hB dX7_saves_46 rfl ?_
    refine zz_iadd X dX7_saves_47 (z := (↑(n + 1) : Int)) (by first | rfl | omega) ?_
    refine va_put (v := .int (nZ (↑(n + 1) : Int))) (ty := tyX7 1) hX hB hz inlX7 tyX7 tyX7_ok nmX7 hW hK.1 hP hD hS 0 rfl rfl 1 (by decide) (hz _ zw_254) (fun _ h9 => h9) rfl (by decide +kernel) rfl rfl (Nat.le_of_ble_eq_true rfl) dX7_saves_48 (fun H locs hP hD hS => ?_)
    have hP : va_P D vwCl [(mm, .inr (7, [.ref ms, .int (nZ (↑(n + 1) : Int)), .ref mk, .ref mb, .int (nZ vty), .int (nZ vth), .int (nZ ven), .int (nZ vsp), .int (nZ vla), .int (nZ vpc)])), (ms, .inl (k 0, 900, .inl (zA s)))] H := hP
    have hD : va_D A [(mm, .inr (7, [.ref ms, .int (nZ (↑(n + 1) : Int)), .ref mk, .ref mb, .int (nZ vty), .int (nZ vth), .int (nZ ven), .int (nZ vsp), .int (nZ vla), .int (nZ vpc)])), (ms, .inl (k 0, 900, .inl (zA s)))] := hD
    refine lv_aload_n hX hB dX7_saves_51 rfl (lv_at hl 0 rfl) ?_
    refine lv_iconst (v := nZ 0) hX hB dX7_saves_52 rfl ?_
    refine lv_aload_n hX hB dX7_saves_53 rfl (lv_at hl 0 rfl) ?_
    refine va_get hX hB hz inlX7 hW hK.1 hP 0 rfl rfl 1 (by decide) (hz _ zw_254) (fun _ h9 => h9) rfl dX7_saves_54 ?_
    refine zCallV0 (zRunV (As := [.int (nZ 0), .int (nZ (↑(n + 1) : Int))]) X mv_X7_copies (c_X7_copies l D k _ mm ms mk mb (↑(n + 1) : Int) vty vth ven vsp vla vpc s 0 (n + 1) (by first | assumption | omega | exact ⟨by omega, by omega⟩) (by first | assumption | omega | exact ⟨by omega, by omega⟩)) zw_255 (zPreV hP hD hK [0, 1] rfl rfl 0 7 rfl rfl rfl) rfl hl (Nat.le_of_ble_eq_true rfl) dX7_saves_57 ⟨rfl, rfl, ⟨Nat.le_of_ble_eq_true rfl, Nat.le_of_ble_eq_true rfl⟩, Nat.le_of_ble_eq_true rfl, Nat.le_of_ble_eq_true rfl⟩ rfl) hS hP hD hA [0, 1] rfl (fun _ => rfl) (fun u_57 H locs hq_57 hP hD hS => ?_)
    obtain ⟨s2_57, e9⟩ : ∃ z9, z9 = u_57 := ⟨_, rfl⟩; subst e9
    have hc_57 := hq_57
    try dsimp only at hc_57
    have hP : va_P D vwCl [(mm, .inr (7, [.ref ms, .int (nZ (↑(n + 1) : Int)), .ref mk, .ref mb, .int (nZ vty), .int (nZ vth), .int (nZ ven), .int (nZ vsp), .int (nZ vla), .int (nZ vpc)])), (ms, .inl (k 0, 900, .inl (zA s2_57)))] H := hP
    have hD : va_D A [(mm, .inr (7, [.ref ms, .int (nZ (↑(n + 1) : Int)), .ref mk, .ref mb, .int (nZ vty), .int (nZ vth), .int (nZ ven), .int (nZ vsp), .int (nZ vla), .int (nZ vpc)])), (ms, .inl (k 0, 900, .inl (zA s2_57)))] := hD
    exact zRetV (s2_57, (↑(n + 1) : Int)) X hP hD hS rfl ⟨by first | exact sv_end6 hq (by omega) (by omega) hc_57 | exact sv_end0 (by omega) hc_57, by first | (rw [if_pos (by omega : n < 6)]) | (rw [if_neg (by omega : ¬ n < 6)]; rfl)⟩ dX7_saves_60
  · refine lv_iconst (v := nZ 1) hX hB dX7_saves_9 rfl ?_
    refine lv_istore_n (lv' := [(1, .int (nZ 1)), (0, .ref mm)]) hX hB dX7_saves_10 rfl hl (by decide) rfl (fun ls hl => ?_)
    refine zLoop (σ := Nat × (Nat → Int)) (fun (x : Nat × (Nat → Int)) (H : Heap) (locs : List Loc) (ls : Array Slot) => match x with | (i, q) => (1 ≤ i ∧ i ≤ 6) ∧ (∀ k : Nat, q k = if 90 ≤ k ∧ k < 90 * i then s (k + 90) else s k) ∧ va_P D vwCl [(mm, .inr (7, [.ref ms, .int (nZ (↑n : Int)), .ref mk, .ref mb, .int (nZ vty), .int (nZ vth), .int (nZ ven), .int (nZ vsp), .int (nZ vla), .int (nZ vpc)])), (ms, .inl (k 0, 900, .inl (zA q)))] H ∧ va_D A [(mm, .inr (7, [.ref ms, .int (nZ (↑n : Int)), .ref mk, .ref mb, .int (nZ vty), .int (nZ vth), .int (nZ ven), .int (nZ vsp), .int (nZ vla), .int (nZ vpc)])), (ms, .inl (k 0, 900, .inl (zA q)))] ∧ va_S A s9.heap H locs ∧ lv_has ls 2 [(0, .ref mm), (1, .int (nZ ↑i))]) (fun (x : Nat × (Nat → Int)) => match x with | (i, q) => 6 - i) ?_ (1, s) ⟨(by first | omega | assumption | rfl), (by intro k; rw [if_neg (by omega)]), hP, hD, hS, (lv_sub hl [1, 0] rfl)⟩
    rintro ⟨i, q⟩ H locs ls ⟨hi, hq, hP, hD, hS, hl⟩ ih_11
    refine lv_iload_n hX hB dX7_saves_11 rfl (lv_at hl 1 rfl) ?_
    refine lv_bipush (v := nZ 6) hX hB dX7_saves_12 (by decide) ?_
    refine zz_icmp_ge X (tgt := 31) dX7_saves_14 (by decide) ⟨by omega, by omega⟩ ⟨by omega, by omega⟩ (fun c_14 => ?_) (fun c_14 => ?_)
    · refine lv_aload_n hX hB dX7_saves_31 rfl (lv_at hl 0 rfl) ?_
      refine lv_dup hX hB dX7_saves_32 rfl ?_
      refine va_get hX hB hz inlX7 hW hK.1 hP 0 rfl rfl 1 (by decide) (hz _ zw_254) (fun _ h9 => h9) rfl dX7_saves_33 ?_
      refine lv_iconst (v := nZ 1) hX hB dX7_saves_36 rfl ?_
      refine zz_isub X dX7_saves_37 (z := 5) (by first | rfl | omega) ?_
      refine va_put (v := .int (nZ 5)) (ty := tyX7 1) hX hB hz inlX7 tyX7 tyX7_ok nmX7 hW hK.1 hP hD hS 0 rfl rfl 1 (by decide) (hz _ zw_254) (fun _ h9 => h9) rfl (by decide +kernel) rfl rfl (Nat.le_of_ble_eq_true rfl) dX7_saves_38 (fun H locs hP hD hS => ?_)
      have hP : va_P D vwCl [(mm, .inr (7, [.ref ms, .int (nZ 5), .ref mk, .ref mb, .int (nZ vty), .int (nZ vth), .int (nZ ven), .int (nZ vsp), .int (nZ vla), .int (nZ vpc)])), (ms, .inl (k 0, 900, .inl (zA q)))] H := hP
      have hD : va_D A [(mm, .inr (7, [.ref ms, .int (nZ 5), .ref mk, .ref mb, .int (nZ vty), .int (nZ vth), .int (nZ ven), .int (nZ vsp), .int (nZ vla), .int (nZ vpc)])), (ms, .inl (k 0, 900, .inl (zA q)))] := hD
      refine lv_aload_n hX hB dX7_saves_41 rfl (lv_at hl 0 rfl) ?_
      refine lv_dup hX hB dX7_saves_42 rfl ?_
      refine va_get hX hB hz inlX7 hW hK.1 hP 0 rfl rfl 1 (by decide) (hz _ zw_254) (fun _ h9 => h9) rfl dX7_saves_43 ?_
      refine lv_iconst (v := nZ 1) hX hB dX7_saves_46 rfl ?_
      refine zz_iadd X dX7_saves_47 (z := 6) (by first | rfl | omega) ?_
      refine va_put (v := .int (nZ 6)) (ty := tyX7 1) hX hB hz inlX7 tyX7 tyX7_ok nmX7 hW hK.1 hP hD hS 0 rfl rfl 1 (by decide) (hz _ zw_254) (fun _ h9 => h9) rfl (by decide +kernel) rfl rfl (Nat.le_of_ble_eq_true rfl) dX7_saves_48 (fun H locs hP hD hS => ?_)
      have hP : va_P D vwCl [(mm, .inr (7, [.ref ms, .int (nZ 6), .ref mk, .ref mb, .int (nZ vty), .int (nZ vth), .int (nZ ven), .int (nZ vsp), .int (nZ vla), .int (nZ vpc)])), (ms, .inl (k 0, 900, .inl (zA q)))] H := hP
      have hD : va_D A [(mm, .inr (7, [.ref ms, .int (nZ 6), .ref mk, .ref mb, .int (nZ vty), .int (nZ vth), .int (nZ ven), .int (nZ vsp), .int (nZ vla), .int (nZ vpc)])), (ms, .inl (k 0, 900, .inl (zA q)))] := hD
      refine lv_aload_n hX hB dX7_saves_51 rfl (lv_at hl 0 rfl) ?_
      refine lv_iconst (v := nZ 0) hX hB dX7_saves_52 rfl ?_
      refine lv_aload_n hX hB dX7_saves_53 rfl (lv_at hl 0 rfl) ?_
      refine va_get hX hB hz inlX7 hW hK.1 hP 0 rfl rfl 1 (by decide) (hz _ zw_254) (fun _ h9 => h9) rfl dX7_saves_54 ?_
      refine zCallV0 (zRunV (As := [.int (nZ 0), .int (nZ 6)]) X mv_X7_copies (c_X7_copies l D k _ mm ms mk mb 6 vty vth ven vsp vla vpc q 0 6 (by first | assumption | omega | exact ⟨by omega, by omega⟩) (by first | assumption | omega | exact ⟨by omega, by omega⟩)) zw_255 (zPreV hP hD hK [0, 1] rfl rfl 0 7 rfl rfl rfl) rfl hl (Nat.le_of_ble_eq_true rfl) dX7_saves_57 ⟨rfl, rfl, ⟨Nat.le_of_ble_eq_true rfl, Nat.le_of_ble_eq_true rfl⟩, Nat.le_of_ble_eq_true rfl, Nat.le_of_ble_eq_true rfl⟩ rfl) hS hP hD hA [0, 1] rfl (fun _ => rfl) (fun u_57 H locs hq_57 hP hD hS => ?_)
      obtain ⟨s2_57, e9⟩ : ∃ z9, z9 = u_57 := ⟨_, rfl⟩; subst e9
      have hc_57 := hq_57
      try dsimp only at hc_57
      have hP : va_P D vwCl [(mm, .inr (7, [.ref ms, .int (nZ 6), .ref mk, .ref mb, .int (nZ vty), .int (nZ vth), .int (nZ ven), .int (nZ vsp), .int (nZ vla), .int (nZ vpc)])), (ms, .inl (k 0, 900, .inl (zA s2_57)))] H := hP
      have hD : va_D A [(mm, .inr (7, [.ref ms, .int (nZ 6), .ref mk, .ref mb, .int (nZ vty), .int (nZ vth), .int (nZ ven), .int (nZ vsp), .int (nZ vla), .int (nZ vpc)])), (ms, .inl (k 0, 900, .inl (zA s2_57)))] := hD
      exact zRetV (s2_57, 6) X hP hD hS rfl ⟨by first | exact sv_end6 hq (by omega) (by omega) hc_57 | exact sv_end0 (by omega) hc_57, by first | (rw [if_pos (by omega : n < 6)]) | (rw [if_neg (by omega : ¬ n < 6)]; rfl)⟩ dX7_saves_60
    · refine lv_aload_n hX hB dX7_saves_17 rfl (lv_at hl 0 rfl) ?_
      refine lv_iload_n hX hB dX7_saves_18 rfl (lv_at hl 1 rfl) ?_
      refine lv_iconst (v := nZ 1) hX hB dX7_saves_19 rfl ?_
      refine zz_iadd X dX7_saves_20 (z := (↑(i + 1) : Int)) (by first | rfl | omega) ?_
      refine lv_iload_n hX hB dX7_saves_21 rfl (lv_at hl 1 rfl) ?_
      refine zCallV0 (zRunV (As := [.int (nZ (↑(i + 1) : Int)), .int (nZ ↑i)]) X mv_X7_copies (c_X7_copies l D k _ mm ms mk mb (↑n : Int) vty vth ven vsp vla vpc q (i + 1) i (by first | assumption | omega | exact ⟨by omega, by omega⟩) (by first | assumption | omega | exact ⟨by omega, by omega⟩)) zw_255 (zPreV hP hD hK [0, 1] rfl rfl 0 7 rfl rfl rfl) rfl hl (Nat.le_of_ble_eq_true rfl) dX7_saves_22 ⟨rfl, rfl, ⟨Nat.le_of_ble_eq_true rfl, Nat.le_of_ble_eq_true rfl⟩, Nat.le_of_ble_eq_true rfl, Nat.le_of_ble_eq_true rfl⟩ rfl) hS hP hD hA [0, 1] rfl (fun _ => rfl) (fun u_22 H locs hq_22 hP hD hS => ?_)
      obtain ⟨s2_22, e9⟩ : ∃ z9, z9 = u_22 := ⟨_, rfl⟩; subst e9
      have hc_22 := hq_22
      try dsimp only at hc_22
      have hP : va_P D vwCl [(mm, .inr (7, [.ref ms, .int (nZ (↑n : Int)), .ref mk, .ref mb, .int (nZ vty), .int (nZ vth), .int (nZ ven), .int (nZ vsp), .int (nZ vla), .int (nZ vpc)])), (ms, .inl (k 0, 900, .inl (zA s2_22)))] H := hP
      have hD : va_D A [(mm, .inr (7, [.ref ms, .int (nZ (↑n : Int)), .ref mk, .ref mb, .int (nZ vty), .int (nZ vth), .int (nZ ven), .int (nZ vsp), .int (nZ vla), .int (nZ vpc)])), (ms, .inl (k 0, 900, .inl (zA s2_22)))] := hD
      refine lv_iinc (v := nZ (↑(i + 1) : Int)) (lv' := [(1, .int (nZ (↑(i + 1) : Int))), (0, .ref mm)]) hX hB dX7_saves_25 hl (k := 1) rfl (zinc (by omega)) (by decide) rfl (fun ls hl => ?_)
      refine lv_goto (tgt := 11) hX hB dX7_saves_28 (by decide) ?_
      exact ih_11 ((i + 1), s2_22) _ _ _ ⟨(by first | omega | assumption | rfl), (by exact sv_step hi.1 hq hc_22), hP, hD, hS, (lv_sub hl [1, 0] rfl)⟩ (by dsimp only; omega)
set_option maxHeartbeats 4000000 in
set_option maxRecDepth 100000 in
theorem c_X7_rests_n (l : Launch) (D : va_G) (k : Nat → ClassId) (sz : Nat) (mm ms mk mb : Nat) (vsv vty vth ven vsp vla vpc : Int) (s : Nat → Int) (b j : Nat) (B : Bd) (pv : Int) (L : List Int) (hBk : blkOk s b B) (hbb : b ≤ 810) (hjj : j < 3) (hLj : B.2 j = L) (hx : -5 ≤ pv ∧ pv ≤ 100) (h19 : 0 ≤ pv → pv ≤ 99 → L.length ≤ 19) : Met l yX7_rests (zW yX7_rests cX7_rests 6 none) ({ frames := 2, cells := 0, slots := 0, locals := 46 } : Room) (va_Pc [.ref mm, .int (nZ ↑b), .int (nZ ↑j), .int (nZ (-1)), .int (nZ pv)] (zIn D k sz [(mm, .inr (7, [.ref ms, .int (nZ vsv), .ref mk, .ref mb, .int (nZ vty), .int (nZ vth), .int (nZ ven), .int (nZ vsp), .int (nZ vla), .int (nZ vpc)])), (ms, .inl (k 0, 900, .inl (zA s)))])) (va_Qv (fun (uz : (Nat → Int)) => blkOk uz b (stopB B j (stopN L pv) pv) ∧ frOk s uz b ∧ (stopB B j (stopN L pv) pv).2 j = (stopN L pv)) (fun (uz : (Nat → Int)) => zOut D (va_A [(mm, .inr (7, [.ref ms, .int (nZ vsv), .ref mk, .ref mb, .int (nZ vty), .int (nZ vth), .int (nZ ven), .int (nZ vsp), .int (nZ vla), .int (nZ vpc)])), (ms, .inl (k 0, 900, .inl (zA s)))] sz) [(mm, .inr (7, [.ref ms, .int (nZ vsv), .ref mk, .ref mb, .int (nZ vty), .int (nZ vth), .int (nZ ven), .int (nZ vsp), .int (nZ vla), .int (nZ vpc)])), (ms, .inl (k 0, 900, .inl (zA uz)))]) (va_A [(mm, .inr (7, [.ref ms, .int (nZ vsv), .ref mk, .ref mb, .int (nZ vty), .int (nZ vth), .int (nZ ven), .int (nZ vsp), .int (nZ vla), .int (nZ vpc)])), (ms, .inl (k 0, 900, .inl (zA s)))] sz)) 0 0 (va_A [(mm, .inr (7, [.ref ms, .int (nZ vsv), .ref mk, .ref mb, .int (nZ vty), .int (nZ vth), .int (nZ ven), .int (nZ vsp), .int (nZ vla), .int (nZ vpc)])), (ms, .inl (k 0, 900, .inl (zA s)))] sz) := by
  refine zEnter (Qf := fun A => va_Qv (fun (uz : (Nat → Int)) => blkOk uz b (stopB B j (stopN L pv) pv) ∧ frOk s uz b ∧ (stopB B j (stopN L pv) pv).2 j = (stopN L pv)) (fun (uz : (Nat → Int)) => zOut D A [(mm, .inr (7, [.ref ms, .int (nZ vsv), .ref mk, .ref mb, .int (nZ vty), .int (nZ vth), .int (nZ ven), .int (nZ vsp), .int (nZ vla), .int (nZ vpc)])), (ms, .inl (k 0, 900, .inl (zA uz)))]) A) RX7 (by decide) rfl (Nat.le_of_ble_eq_true rfl) ?_
  intro p9 e9 s9 m9 be9 me9 c9 ls A X hin hP hD hS hA hAe hl
  have hX := X.1; have hB := X.2.1; have hz := X.2.2.2.2.1; have hW := X.2.2.2.2.2.1; have hK := X.2.2.2.2.2.2.2; clear hAe
  clear hin
  have hl : lv_has ls 6 [(0, .ref mm), (1, .int (nZ ↑b)), (2, .int (nZ ↑j)), (3, .int (nZ (-1))), (4, .int (nZ pv))] := hl
  refine lv_iload_n hX hB dX7_rests_0 rfl (lv_at hl 1 rfl) ?_
  refine lv_iload_n hX hB dX7_rests_1 rfl (lv_at hl 2 rfl) ?_
  refine zCallI0 (zRunS X ms_X7_laneAt (c_X7_laneAt l D k _ b j ) zw_272 (zPreS hP hD hK [] rfl rfl) rfl hl (Nat.le_of_ble_eq_true rfl) dX7_rests_2 ⟨rfl, rfl, ⟨Nat.le_of_ble_eq_true rfl, Nat.le_of_ble_eq_true rfl⟩, Nat.le_of_ble_eq_true rfl, Nat.le_of_ble_eq_true rfl⟩ rfl) hS hP hD hA [] rfl (fun _ => rfl) (fun r_2 u_2 H locs hq_2 hP hD hS => ?_)
  subst hq_2
  have hP : va_P D vwCl [(mm, .inr (7, [.ref ms, .int (nZ vsv), .ref mk, .ref mb, .int (nZ vty), .int (nZ vth), .int (nZ ven), .int (nZ vsp), .int (nZ vla), .int (nZ vpc)])), (ms, .inl (k 0, 900, .inl (zA s)))] H := hP
  have hD : va_D A [(mm, .inr (7, [.ref ms, .int (nZ vsv), .ref mk, .ref mb, .int (nZ vty), .int (nZ vth), .int (nZ ven), .int (nZ vsp), .int (nZ vla), .int (nZ vpc)])), (ms, .inl (k 0, 900, .inl (zA s)))] := hD
  refine lv_istore (lv' := [(5, .int (nZ ((↑(b + 27) : Int) + (21 * ↑j)))), (0, .ref mm), (1, .int (nZ ↑b)), (2, .int (nZ ↑j)), (3, .int (nZ (-1))), (4, .int (nZ pv))]) hX hB dX7_rests_5 hl (by decide) rfl (fun ls hl => ?_)
  refine lv_iload_n hX hB dX7_rests_7 rfl (lv_at hl 4 rfl) ?_
  refine lv_iconst (v := nZ (-1)) hX hB dX7_rests_8 rfl ?_
  refine zz_icmp_eq X (tgt := 50) dX7_rests_9 (by decide) ⟨by omega, by omega⟩ ⟨by omega, by omega⟩ (fun c_9 => ?_) (fun c_9 => ?_)
  · refine lv_iload hX hB dX7_rests_50 (lv_at hl 5 rfl) ?_
    refine lv_iconst (v := nZ 0) hX hB dX7_rests_52 rfl ?_
    refine lv_bipush (v := nZ 99) hX hB dX7_rests_53 (by decide) ?_
    refine zCallI0 (zRunS X ms_X7_in (c_X7_in_g l D k _ pv 0 99 (by first | assumption | omega | exact ⟨by omega, by omega⟩) (by first | assumption | omega | exact ⟨by omega, by omega⟩) (by first | assumption | omega | exact ⟨by omega, by omega⟩)) zw_239 (zPreS hP hD hK [] rfl rfl) rfl hl (Nat.le_of_ble_eq_true rfl) dX7_rests_55 ⟨rfl, rfl, ⟨Nat.le_of_ble_eq_true rfl, Nat.le_of_ble_eq_true rfl⟩, Nat.le_of_ble_eq_true rfl, Nat.le_of_ble_eq_true rfl⟩ rfl) hS hP hD hA [] rfl (fun _ => rfl) (fun r_55 u_55 H locs hq_55 hP hD hS => ?_)
    subst hq_55
    have hP : va_P D vwCl [(mm, .inr (7, [.ref ms, .int (nZ vsv), .ref mk, .ref mb, .int (nZ vty), .int (nZ vth), .int (nZ ven), .int (nZ vsp), .int (nZ vla), .int (nZ vpc)])), (ms, .inl (k 0, 900, .inl (zA s)))] H := hP
    have hD : va_D A [(mm, .inr (7, [.ref ms, .int (nZ vsv), .ref mk, .ref mb, .int (nZ vty), .int (nZ vth), .int (nZ ven), .int (nZ vsp), .int (nZ vla), .int (nZ vpc)])), (ms, .inl (k 0, 900, .inl (zA s)))] := hD
    refine zz_if_eq X (tgt := 69) dX7_rests_58 (by decide) ⟨by (split <;> omega), by (split <;> omega)⟩ (fun c_58 => ?_) (fun c_58 => ?_)
    · first | have hM := blk_stopN1 hB2_66 hin | have hM := blk_stopN0 (j := j) hBk (ifz_eq c_58)
      first | have hF := hf2_66 | have hF := frOk.refl s b
      refine lv_aload_n hX hB dX7_rests_69 rfl (lv_at hl 1 rfl) ?_
      refine va_get hX hB hz inlX7 hW hK.1 hP 0 rfl rfl 0 (by decide) (hz _ zw_74) (fun _ h9 => h9) rfl dX7_rests_70 ?_
      refine lv_iload_n hX hB dX7_rests_73 rfl (lv_at hl 2 rfl) ?_
      refine lv_iconst (v := nZ 5) hX hB dX7_rests_74 rfl ?_
      refine zz_iadd X dX7_rests_75 (z := (↑(b + 5) : Int)) (by first | rfl | omega) ?_
      refine lv_dup2_11 hX hB dX7_rests_76 rfl rfl ?_
      refine zz_iald X hP 1 0 rfl rfl (b + 5) (by omega) (by omega) (by first | decide | omega) dX7_rests_77 ?_
      refine lv_iload hX hB dX7_rests_78 (lv_at hl 5 rfl) ?_
      refine lv_bipush (v := nZ 100) hX hB dX7_rests_80 (by decide) ?_
      refine zz_icmp_ne X (tgt := 89) dX7_rests_82 (by decide) ⟨by omega, by omega⟩ ⟨by omega, by omega⟩ (fun c_82 => ?_) (fun c_82 => ?_)
      · refine lv_iconst (v := nZ 0) hX hB dX7_rests_89 rfl ?_
        refine zz_iadd X dX7_rests_90 (z := (s (b + 5))) (by first | rfl | omega) ?_
        refine zz_iast X hP hD hS 1 0 rfl rfl (b + 5) (by omega) (by omega) (by first | decide | omega) dX7_rests_91 (fun H locs hP hD hS => ?_)
        have hP : va_P D vwCl [(mm, .inr (7, [.ref ms, .int (nZ vsv), .ref mk, .ref mb, .int (nZ vty), .int (nZ vth), .int (nZ ven), .int (nZ vsp), .int (nZ vla), .int (nZ vpc)])), (ms, .inl (k 0, 900, .inl (zA (zU s (b + 5) (s (b + 5))))))] H := hP
        have hD : va_D A [(mm, .inr (7, [.ref ms, .int (nZ vsv), .ref mk, .ref mb, .int (nZ vty), .int (nZ vth), .int (nZ ven), .int (nZ vsp), .int (nZ vla), .int (nZ vpc)])), (ms, .inl (k 0, 900, .inl (zA (zU s (b + 5) (s (b + 5))))))] := hD
        refine lv_aload_n hX hB dX7_rests_92 rfl (lv_at hl 1 rfl) ?_
        refine va_get hX hB hz inlX7 hW hK.1 hP 0 rfl rfl 0 (by decide) (hz _ zw_74) (fun _ h9 => h9) rfl dX7_rests_93 ?_
        refine lv_iload_n hX hB dX7_rests_96 rfl (lv_at hl 2 rfl) ?_
        refine lv_bipush (v := nZ 6) hX hB dX7_rests_97 (by decide) ?_
        refine zz_iadd X dX7_rests_99 (z := (↑(b + 6) : Int)) (by first | rfl | omega) ?_
        refine lv_dup2_11 hX hB dX7_rests_100 rfl rfl ?_
        refine zz_iald X hP 1 0 rfl rfl (b + 6) (by omega) (by omega) (by first | decide | omega) dX7_rests_101 ?_
        refine lv_iload hX hB dX7_rests_102 (lv_at hl 5 rfl) ?_
        refine zz_if_ge X (tgt := 111) dX7_rests_104 (by decide) ⟨by omega, by omega⟩ (fun c_104 => ?_) (fun c_104 => ?_)
        · refine lv_iconst (v := nZ 0) hX hB dX7_rests_111 rfl ?_
          refine zz_iadd X dX7_rests_112 (z := ((zU s (b + 5) (s (b + 5))) (b + 6))) (by first | rfl | omega) ?_
          refine zz_iast X hP hD hS 1 0 rfl rfl (b + 6) (by omega) (by omega) (by first | decide | omega) dX7_rests_113 (fun H locs hP hD hS => ?_)
          have hP : va_P D vwCl [(mm, .inr (7, [.ref ms, .int (nZ vsv), .ref mk, .ref mb, .int (nZ vty), .int (nZ vth), .int (nZ ven), .int (nZ vsp), .int (nZ vla), .int (nZ vpc)])), (ms, .inl (k 0, 900, .inl (zA (zU (zU s (b + 5) (s (b + 5))) (b + 6) ((zU s (b + 5) (s (b + 5))) (b + 6))))))] H := hP
          have hD : va_D A [(mm, .inr (7, [.ref ms, .int (nZ vsv), .ref mk, .ref mb, .int (nZ vty), .int (nZ vth), .int (nZ ven), .int (nZ vsp), .int (nZ vla), .int (nZ vpc)])), (ms, .inl (k 0, 900, .inl (zA (zU (zU s (b + 5) (s (b + 5))) (b + 6) ((zU s (b + 5) (s (b + 5))) (b + 6))))))] := hD
          exact zRetV (zU (zU s (b + 5) (s (b + 5))) (b + 6) ((zU s (b + 5) (s (b + 5))) (b + 6))) X hP hD hS rfl ⟨by first | (exfalso; omega) | skip; have h9 := blkOk.stop (x := pv) hM; (first | rw [if_pos (by omega : pv = 100)] at h9 | rw [if_neg (by omega : ¬ pv = 100)] at h9); (first | rw [if_pos (by omega : pv < 0)] at h9 | rw [if_neg (by omega : ¬ pv < 0)] at h9); (try simp only [Int.add_zero] at h9); rw [hLj] at h9; exact h9, (hF.zU (by omega) (by omega)).zU (by omega) (by omega), mid_lane _ _ _ _ _⟩ dX7_rests_114
        · refine lv_iconst (v := nZ 1) hX hB dX7_rests_107 rfl ?_
          refine lv_goto (tgt := 112) hX hB dX7_rests_108 (by decide) ?_
          refine zz_iadd X dX7_rests_112 (z := (((zU s (b + 5) (s (b + 5))) (b + 6)) + 1)) (by first | rfl | omega) ?_
          refine zz_iast X hP hD hS 1 0 rfl rfl (b + 6) (by omega) (by omega) (by first | decide | omega) dX7_rests_113 (fun H locs hP hD hS => ?_)
          have hP : va_P D vwCl [(mm, .inr (7, [.ref ms, .int (nZ vsv), .ref mk, .ref mb, .int (nZ vty), .int (nZ vth), .int (nZ ven), .int (nZ vsp), .int (nZ vla), .int (nZ vpc)])), (ms, .inl (k 0, 900, .inl (zA (zU (zU s (b + 5) (s (b + 5))) (b + 6) (((zU s (b + 5) (s (b + 5))) (b + 6)) + 1)))))] H := hP
          have hD : va_D A [(mm, .inr (7, [.ref ms, .int (nZ vsv), .ref mk, .ref mb, .int (nZ vty), .int (nZ vth), .int (nZ ven), .int (nZ vsp), .int (nZ vla), .int (nZ vpc)])), (ms, .inl (k 0, 900, .inl (zA (zU (zU s (b + 5) (s (b + 5))) (b + 6) (((zU s (b + 5) (s (b + 5))) (b + 6)) + 1)))))] := hD
          exact zRetV (zU (zU s (b + 5) (s (b + 5))) (b + 6) (((zU s (b + 5) (s (b + 5))) (b + 6)) + 1)) X hP hD hS rfl ⟨by first | (exfalso; omega) | skip; have h9 := blkOk.stop (x := pv) hM; (first | rw [if_pos (by omega : pv = 100)] at h9 | rw [if_neg (by omega : ¬ pv = 100)] at h9); (first | rw [if_pos (by omega : pv < 0)] at h9 | rw [if_neg (by omega : ¬ pv < 0)] at h9); (try simp only [Int.add_zero] at h9); rw [hLj] at h9; exact h9, (hF.zU (by omega) (by omega)).zU (by omega) (by omega), mid_lane _ _ _ _ _⟩ dX7_rests_114
      · refine lv_iconst (v := nZ 1) hX hB dX7_rests_85 rfl ?_
        refine lv_goto (tgt := 90) hX hB dX7_rests_86 (by decide) ?_
        refine zz_iadd X dX7_rests_90 (z := ((s (b + 5)) + 1)) (by first | rfl | omega) ?_
        refine zz_iast X hP hD hS 1 0 rfl rfl (b + 5) (by omega) (by omega) (by first | decide | omega) dX7_rests_91 (fun H locs hP hD hS => ?_)
        have hP : va_P D vwCl [(mm, .inr (7, [.ref ms, .int (nZ vsv), .ref mk, .ref mb, .int (nZ vty), .int (nZ vth), .int (nZ ven), .int (nZ vsp), .int (nZ vla), .int (nZ vpc)])), (ms, .inl (k 0, 900, .inl (zA (zU s (b + 5) ((s (b + 5)) + 1)))))] H := hP
        have hD : va_D A [(mm, .inr (7, [.ref ms, .int (nZ vsv), .ref mk, .ref mb, .int (nZ vty), .int (nZ vth), .int (nZ ven), .int (nZ vsp), .int (nZ vla), .int (nZ vpc)])), (ms, .inl (k 0, 900, .inl (zA (zU s (b + 5) ((s (b + 5)) + 1)))))] := hD
        refine lv_aload_n hX hB dX7_rests_92 rfl (lv_at hl 1 rfl) ?_
        refine va_get hX hB hz inlX7 hW hK.1 hP 0 rfl rfl 0 (by decide) (hz _ zw_74) (fun _ h9 => h9) rfl dX7_rests_93 ?_
        refine lv_iload_n hX hB dX7_rests_96 rfl (lv_at hl 2 rfl) ?_
        refine lv_bipush (v := nZ 6) hX hB dX7_rests_97 (by decide) ?_
        refine zz_iadd X dX7_rests_99 (z := (↑(b + 6) : Int)) (by first | rfl | omega) ?_
        refine lv_dup2_11 hX hB dX7_rests_100 rfl rfl ?_
        refine zz_iald X hP 1 0 rfl rfl (b + 6) (by omega) (by omega) (by first | decide | omega) dX7_rests_101 ?_
        refine lv_iload hX hB dX7_rests_102 (lv_at hl 5 rfl) ?_
        refine zz_if_ge X (tgt := 111) dX7_rests_104 (by decide) ⟨by omega, by omega⟩ (fun c_104 => ?_) (fun c_104 => ?_)
        · refine lv_iconst (v := nZ 0) hX hB dX7_rests_111 rfl ?_
          refine zz_iadd X dX7_rests_112 (z := ((zU s (b + 5) ((s (b + 5)) + 1)) (b + 6))) (by first | rfl | omega) ?_
          refine zz_iast X hP hD hS 1 0 rfl rfl (b + 6) (by omega) (by omega) (by first | decide | omega) dX7_rests_113 (fun H locs hP hD hS => ?_)
          have hP : va_P D vwCl [(mm, .inr (7, [.ref ms, .int (nZ vsv), .ref mk, .ref mb, .int (nZ vty), .int (nZ vth), .int (nZ ven), .int (nZ vsp), .int (nZ vla), .int (nZ vpc)])), (ms, .inl (k 0, 900, .inl (zA (zU (zU s (b + 5) ((s (b + 5)) + 1)) (b + 6) ((zU s (b + 5) ((s (b + 5)) + 1)) (b + 6))))))] H := hP
          have hD : va_D A [(mm, .inr (7, [.ref ms, .int (nZ vsv), .ref mk, .ref mb, .int (nZ vty), .int (nZ vth), .int (nZ ven), .int (nZ vsp), .int (nZ vla), .int (nZ vpc)])), (ms, .inl (k 0, 900, .inl (zA (zU (zU s (b + 5) ((s (b + 5)) + 1)) (b + 6) ((zU s (b + 5) ((s (b + 5)) + 1)) (b + 6))))))] := hD
          exact zRetV (zU (zU s (b + 5) ((s (b + 5)) + 1)) (b + 6) ((zU s (b + 5) ((s (b + 5)) + 1)) (b + 6))) X hP hD hS rfl ⟨by first | (exfalso; omega) | skip; have h9 := blkOk.stop (x := pv) hM; (first | rw [if_pos (by omega : pv = 100)] at h9 | rw [if_neg (by omega : ¬ pv = 100)] at h9); (first | rw [if_pos (by omega : pv < 0)] at h9 | rw [if_neg (by omega : ¬ pv < 0)] at h9); (try simp only [Int.add_zero] at h9); rw [hLj] at h9; exact h9, (hF.zU (by omega) (by omega)).zU (by omega) (by omega), mid_lane _ _ _ _ _⟩ dX7_rests_114
        · refine lv_iconst (v := nZ 1) hX hB dX7_rests_107 rfl ?_
          refine lv_goto (tgt := 112) hX hB dX7_rests_108 (by decide) ?_
          refine zz_iadd X dX7_rests_112 (z := (((zU s (b + 5) ((s (b + 5)) + 1)) (b + 6)) + 1)) (by first | rfl | omega) ?_
          refine zz_iast X hP hD hS 1 0 rfl rfl (b + 6) (by omega) (by omega) (by first | decide | omega) dX7_rests_113 (fun H locs hP hD hS => ?_)
          have hP : va_P D vwCl [(mm, .inr (7, [.ref ms, .int (nZ vsv), .ref mk, .ref mb, .int (nZ vty), .int (nZ vth), .int (nZ ven), .int (nZ vsp), .int (nZ vla), .int (nZ vpc)])), (ms, .inl (k 0, 900, .inl (zA (zU (zU s (b + 5) ((s (b + 5)) + 1)) (b + 6) (((zU s (b + 5) ((s (b + 5)) + 1)) (b + 6)) + 1)))))] H := hP
          have hD : va_D A [(mm, .inr (7, [.ref ms, .int (nZ vsv), .ref mk, .ref mb, .int (nZ vty), .int (nZ vth), .int (nZ ven), .int (nZ vsp), .int (nZ vla), .int (nZ vpc)])), (ms, .inl (k 0, 900, .inl (zA (zU (zU s (b + 5) ((s (b + 5)) + 1)) (b + 6) (((zU s (b + 5) ((s (b + 5)) + 1)) (b + 6)) + 1)))))] := hD
          exact zRetV (zU (zU s (b + 5) ((s (b + 5)) + 1)) (b + 6) (((zU s (b + 5) ((s (b + 5)) + 1)) (b + 6)) + 1)) X hP hD hS rfl ⟨by first | (exfalso; omega) | skip; have h9 := blkOk.stop (x := pv) hM; (first | rw [if_pos (by omega : pv = 100)] at h9 | rw [if_neg (by omega : ¬ pv = 100)] at h9); (first | rw [if_pos (by omega : pv < 0)] at h9 | rw [if_neg (by omega : ¬ pv < 0)] at h9); (try simp only [Int.add_zero] at h9); rw [hLj] at h9; exact h9, (hF.zU (by omega) (by omega)).zU (by omega) (by omega), mid_lane _ _ _ _ _⟩ dX7_rests_114
    · have hin := ifz_ne c_58
      refine lv_aload_n hX hB dX7_rests_61 rfl (lv_at hl 1 rfl) ?_
      refine lv_iload_n hX hB dX7_rests_62 rfl (lv_at hl 2 rfl) ?_
      refine lv_iload_n hX hB dX7_rests_63 rfl (lv_at hl 3 rfl) ?_
      refine lv_iload hX hB dX7_rests_64 (lv_at hl 5 rfl) ?_
      refine zCallV0 (zRunV (As := [.int (nZ ↑b), .int (nZ ↑j), .int (nZ pv)]) X mv_X7_inserts (c_X7_inserts l D k _ mm ms mk mb vsv vty vth ven vsp vla vpc s b j B pv hBk hbb hjj (by rw [hLj]; exact h19 hin.1 hin.2) hx) zw_279 (zPreV hP hD hK [0, 1] rfl rfl 0 7 rfl rfl rfl) rfl hl (Nat.le_of_ble_eq_true rfl) dX7_rests_66 ⟨rfl, rfl, ⟨Nat.le_of_ble_eq_true rfl, Nat.le_of_ble_eq_true rfl⟩, Nat.le_of_ble_eq_true rfl, Nat.le_of_ble_eq_true rfl⟩ rfl) hS hP hD hA [0, 1] rfl (fun _ => rfl) (fun u_66 H locs hq_66 hP hD hS => ?_)
      obtain ⟨s2_66, e9⟩ : ∃ z9, z9 = u_66 := ⟨_, rfl⟩; subst e9
      obtain ⟨hB2_66, hf2_66⟩ := hq_66
      try dsimp only at hB2_66 hf2_66
      have hP : va_P D vwCl [(mm, .inr (7, [.ref ms, .int (nZ vsv), .ref mk, .ref mb, .int (nZ vty), .int (nZ vth), .int (nZ ven), .int (nZ vsp), .int (nZ vla), .int (nZ vpc)])), (ms, .inl (k 0, 900, .inl (zA s2_66)))] H := hP
      have hD : va_D A [(mm, .inr (7, [.ref ms, .int (nZ vsv), .ref mk, .ref mb, .int (nZ vty), .int (nZ vth), .int (nZ ven), .int (nZ vsp), .int (nZ vla), .int (nZ vpc)])), (ms, .inl (k 0, 900, .inl (zA s2_66)))] := hD
      first | have hM := blk_stopN1 hB2_66 hin | have hM := blk_stopN0 (j := j) hBk (ifz_eq c_58)
      first | have hF := hf2_66 | have hF := frOk.refl s b
      refine lv_aload_n hX hB dX7_rests_69 rfl (lv_at hl 1 rfl) ?_
      refine va_get hX hB hz inlX7 hW hK.1 hP 0 rfl rfl 0 (by decide) (hz _ zw_74) (fun _ h9 => h9) rfl dX7_rests_70 ?_
      refine lv_iload_n hX hB dX7_rests_73 rfl (lv_at hl 2 rfl) ?_
      refine lv_iconst (v := nZ 5) hX hB dX7_rests_74 rfl ?_
      refine zz_iadd X dX7_rests_75 (z := (↑(b + 5) : Int)) (by first | rfl | omega) ?_
      refine lv_dup2_11 hX hB dX7_rests_76 rfl rfl ?_
      refine zz_iald X hP 1 0 rfl rfl (b + 5) (by omega) (by omega) (by first | decide | omega) dX7_rests_77 ?_
      refine lv_iload hX hB dX7_rests_78 (lv_at hl 5 rfl) ?_
      refine lv_bipush (v := nZ 100) hX hB dX7_rests_80 (by decide) ?_
      refine zz_icmp_ne X (tgt := 89) dX7_rests_82 (by decide) ⟨by omega, by omega⟩ ⟨by omega, by omega⟩ (fun c_82 => ?_) (fun c_82 => ?_)
      · refine lv_iconst (v := nZ 0) hX hB dX7_rests_89 rfl ?_
        refine zz_iadd X dX7_rests_90 (z := (s2_66 (b + 5))) (by first | rfl | omega) ?_
        refine zz_iast X hP hD hS 1 0 rfl rfl (b + 5) (by omega) (by omega) (by first | decide | omega) dX7_rests_91 (fun H locs hP hD hS => ?_)
        have hP : va_P D vwCl [(mm, .inr (7, [.ref ms, .int (nZ vsv), .ref mk, .ref mb, .int (nZ vty), .int (nZ vth), .int (nZ ven), .int (nZ vsp), .int (nZ vla), .int (nZ vpc)])), (ms, .inl (k 0, 900, .inl (zA (zU s2_66 (b + 5) (s2_66 (b + 5))))))] H := hP
        have hD : va_D A [(mm, .inr (7, [.ref ms, .int (nZ vsv), .ref mk, .ref mb, .int (nZ vty), .int (nZ vth), .int (nZ ven), .int (nZ vsp), .int (nZ vla), .int (nZ vpc)])), (ms, .inl (k 0, 900, .inl (zA (zU s2_66 (b + 5) (s2_66 (b + 5))))))] := hD
        refine lv_aload_n hX hB dX7_rests_92 rfl (lv_at hl 1 rfl) ?_
        refine va_get hX hB hz inlX7 hW hK.1 hP 0 rfl rfl 0 (by decide) (hz _ zw_74) (fun _ h9 => h9) rfl dX7_rests_93 ?_
        refine lv_iload_n hX hB dX7_rests_96 rfl (lv_at hl 2 rfl) ?_
        refine lv_bipush (v := nZ 6) hX hB dX7_rests_97 (by decide) ?_
        refine zz_iadd X dX7_rests_99 (z := (↑(b + 6) : Int)) (by first | rfl | omega) ?_
        refine lv_dup2_11 hX hB dX7_rests_100 rfl rfl ?_
        refine zz_iald X hP 1 0 rfl rfl (b + 6) (by omega) (by omega) (by first | decide | omega) dX7_rests_101 ?_
        refine lv_iload hX hB dX7_rests_102 (lv_at hl 5 rfl) ?_
        refine zz_if_ge X (tgt := 111) dX7_rests_104 (by decide) ⟨by omega, by omega⟩ (fun c_104 => ?_) (fun c_104 => ?_)
        · refine lv_iconst (v := nZ 0) hX hB dX7_rests_111 rfl ?_
          refine zz_iadd X dX7_rests_112 (z := ((zU s2_66 (b + 5) (s2_66 (b + 5))) (b + 6))) (by first | rfl | omega) ?_
          refine zz_iast X hP hD hS 1 0 rfl rfl (b + 6) (by omega) (by omega) (by first | decide | omega) dX7_rests_113 (fun H locs hP hD hS => ?_)
          have hP : va_P D vwCl [(mm, .inr (7, [.ref ms, .int (nZ vsv), .ref mk, .ref mb, .int (nZ vty), .int (nZ vth), .int (nZ ven), .int (nZ vsp), .int (nZ vla), .int (nZ vpc)])), (ms, .inl (k 0, 900, .inl (zA (zU (zU s2_66 (b + 5) (s2_66 (b + 5))) (b + 6) ((zU s2_66 (b + 5) (s2_66 (b + 5))) (b + 6))))))] H := hP
          have hD : va_D A [(mm, .inr (7, [.ref ms, .int (nZ vsv), .ref mk, .ref mb, .int (nZ vty), .int (nZ vth), .int (nZ ven), .int (nZ vsp), .int (nZ vla), .int (nZ vpc)])), (ms, .inl (k 0, 900, .inl (zA (zU (zU s2_66 (b + 5) (s2_66 (b + 5))) (b + 6) ((zU s2_66 (b + 5) (s2_66 (b + 5))) (b + 6))))))] := hD
          exact zRetV (zU (zU s2_66 (b + 5) (s2_66 (b + 5))) (b + 6) ((zU s2_66 (b + 5) (s2_66 (b + 5))) (b + 6))) X hP hD hS rfl ⟨by first | (exfalso; omega) | skip; have h9 := blkOk.stop (x := pv) hM; (first | rw [if_pos (by omega : pv = 100)] at h9 | rw [if_neg (by omega : ¬ pv = 100)] at h9); (first | rw [if_pos (by omega : pv < 0)] at h9 | rw [if_neg (by omega : ¬ pv < 0)] at h9); (try simp only [Int.add_zero] at h9); rw [hLj] at h9; exact h9, (hF.zU (by omega) (by omega)).zU (by omega) (by omega), mid_lane _ _ _ _ _⟩ dX7_rests_114
        · refine lv_iconst (v := nZ 1) hX hB dX7_rests_107 rfl ?_
          refine lv_goto (tgt := 112) hX hB dX7_rests_108 (by decide) ?_
          refine zz_iadd X dX7_rests_112 (z := (((zU s2_66 (b + 5) (s2_66 (b + 5))) (b + 6)) + 1)) (by first | rfl | omega) ?_
          refine zz_iast X hP hD hS 1 0 rfl rfl (b + 6) (by omega) (by omega) (by first | decide | omega) dX7_rests_113 (fun H locs hP hD hS => ?_)
          have hP : va_P D vwCl [(mm, .inr (7, [.ref ms, .int (nZ vsv), .ref mk, .ref mb, .int (nZ vty), .int (nZ vth), .int (nZ ven), .int (nZ vsp), .int (nZ vla), .int (nZ vpc)])), (ms, .inl (k 0, 900, .inl (zA (zU (zU s2_66 (b + 5) (s2_66 (b + 5))) (b + 6) (((zU s2_66 (b + 5) (s2_66 (b + 5))) (b + 6)) + 1)))))] H := hP
          have hD : va_D A [(mm, .inr (7, [.ref ms, .int (nZ vsv), .ref mk, .ref mb, .int (nZ vty), .int (nZ vth), .int (nZ ven), .int (nZ vsp), .int (nZ vla), .int (nZ vpc)])), (ms, .inl (k 0, 900, .inl (zA (zU (zU s2_66 (b + 5) (s2_66 (b + 5))) (b + 6) (((zU s2_66 (b + 5) (s2_66 (b + 5))) (b + 6)) + 1)))))] := hD
          exact zRetV (zU (zU s2_66 (b + 5) (s2_66 (b + 5))) (b + 6) (((zU s2_66 (b + 5) (s2_66 (b + 5))) (b + 6)) + 1)) X hP hD hS rfl ⟨by first | (exfalso; omega) | skip; have h9 := blkOk.stop (x := pv) hM; (first | rw [if_pos (by omega : pv = 100)] at h9 | rw [if_neg (by omega : ¬ pv = 100)] at h9); (first | rw [if_pos (by omega : pv < 0)] at h9 | rw [if_neg (by omega : ¬ pv < 0)] at h9); (try simp only [Int.add_zero] at h9); rw [hLj] at h9; exact h9, (hF.zU (by omega) (by omega)).zU (by omega) (by omega), mid_lane _ _ _ _ _⟩ dX7_rests_114
      · refine lv_iconst (v := nZ 1) hX hB dX7_rests_85 rfl ?_
        refine lv_goto (tgt := 90) hX hB dX7_rests_86 (by decide) ?_
        refine zz_iadd X dX7_rests_90 (z := ((s2_66 (b + 5)) + 1)) (by first | rfl | omega) ?_
        refine zz_iast X hP hD hS 1 0 rfl rfl (b + 5) (by omega) (by omega) (by first | decide | omega) dX7_rests_91 (fun H locs hP hD hS => ?_)
        have hP : va_P D vwCl [(mm, .inr (7, [.ref ms, .int (nZ vsv), .ref mk, .ref mb, .int (nZ vty), .int (nZ vth), .int (nZ ven), .int (nZ vsp), .int (nZ vla), .int (nZ vpc)])), (ms, .inl (k 0, 900, .inl (zA (zU s2_66 (b + 5) ((s2_66 (b + 5)) + 1)))))] H := hP
        have hD : va_D A [(mm, .inr (7, [.ref ms, .int (nZ vsv), .ref mk, .ref mb, .int (nZ vty), .int (nZ vth), .int (nZ ven), .int (nZ vsp), .int (nZ vla), .int (nZ vpc)])), (ms, .inl (k 0, 900, .inl (zA (zU s2_66 (b + 5) ((s2_66 (b + 5)) + 1)))))] := hD
        refine lv_aload_n hX hB dX7_rests_92 rfl (lv_at hl 1 rfl) ?_
        refine va_get hX hB hz inlX7 hW hK.1 hP 0 rfl rfl 0 (by decide) (hz _ zw_74) (fun _ h9 => h9) rfl dX7_rests_93 ?_
        refine lv_iload_n hX hB dX7_rests_96 rfl (lv_at hl 2 rfl) ?_
        refine lv_bipush (v := nZ 6) hX hB dX7_rests_97 (by decide) ?_
        refine zz_iadd X dX7_rests_99 (z := (↑(b + 6) : Int)) (by first | rfl | omega) ?_
        refine lv_dup2_11 hX hB dX7_rests_100 rfl rfl ?_
        refine zz_iald X hP 1 0 rfl rfl (b + 6) (by omega) (by omega) (by first | decide | omega) dX7_rests_101 ?_
        refine lv_iload hX hB dX7_rests_102 (lv_at hl 5 rfl) ?_
        refine zz_if_ge X (tgt := 111) dX7_rests_104 (by decide) ⟨by omega, by omega⟩ (fun c_104 => ?_) (fun c_104 => ?_)
        · refine lv_iconst (v := nZ 0) hX hB dX7_rests_111 rfl ?_
          refine zz_iadd X dX7_rests_112 (z := ((zU s2_66 (b + 5) ((s2_66 (b + 5)) + 1)) (b + 6))) (by first | rfl | omega) ?_
          refine zz_iast X hP hD hS 1 0 rfl rfl (b + 6) (by omega) (by omega) (by first | decide | omega) dX7_rests_113 (fun H locs hP hD hS => ?_)
          have hP : va_P D vwCl [(mm, .inr (7, [.ref ms, .int (nZ vsv), .ref mk, .ref mb, .int (nZ vty), .int (nZ vth), .int (nZ ven), .int (nZ vsp), .int (nZ vla), .int (nZ vpc)])), (ms, .inl (k 0, 900, .inl (zA (zU (zU s2_66 (b + 5) ((s2_66 (b + 5)) + 1)) (b + 6) ((zU s2_66 (b + 5) ((s2_66 (b + 5)) + 1)) (b + 6))))))] H := hP
          have hD : va_D A [(mm, .inr (7, [.ref ms, .int (nZ vsv), .ref mk, .ref mb, .int (nZ vty), .int (nZ vth), .int (nZ ven), .int (nZ vsp), .int (nZ vla), .int (nZ vpc)])), (ms, .inl (k 0, 900, .inl (zA (zU (zU s2_66 (b + 5) ((s2_66 (b + 5)) + 1)) (b + 6) ((zU s2_66 (b + 5) ((s2_66 (b + 5)) + 1)) (b + 6))))))] := hD
          exact zRetV (zU (zU s2_66 (b + 5) ((s2_66 (b + 5)) + 1)) (b + 6) ((zU s2_66 (b + 5) ((s2_66 (b + 5)) + 1)) (b + 6))) X hP hD hS rfl ⟨by first | (exfalso; omega) | skip; have h9 := blkOk.stop (x := pv) hM; (first | rw [if_pos (by omega : pv = 100)] at h9 | rw [if_neg (by omega : ¬ pv = 100)] at h9); (first | rw [if_pos (by omega : pv < 0)] at h9 | rw [if_neg (by omega : ¬ pv < 0)] at h9); (try simp only [Int.add_zero] at h9); rw [hLj] at h9; exact h9, (hF.zU (by omega) (by omega)).zU (by omega) (by omega), mid_lane _ _ _ _ _⟩ dX7_rests_114
        · refine lv_iconst (v := nZ 1) hX hB dX7_rests_107 rfl ?_
          refine lv_goto (tgt := 112) hX hB dX7_rests_108 (by decide) ?_
          refine zz_iadd X dX7_rests_112 (z := (((zU s2_66 (b + 5) ((s2_66 (b + 5)) + 1)) (b + 6)) + 1)) (by first | rfl | omega) ?_
          refine zz_iast X hP hD hS 1 0 rfl rfl (b + 6) (by omega) (by omega) (by first | decide | omega) dX7_rests_113 (fun H locs hP hD hS => ?_)
          have hP : va_P D vwCl [(mm, .inr (7, [.ref ms, .int (nZ vsv), .ref mk, .ref mb, .int (nZ vty), .int (nZ vth), .int (nZ ven), .int (nZ vsp), .int (nZ vla), .int (nZ vpc)])), (ms, .inl (k 0, 900, .inl (zA (zU (zU s2_66 (b + 5) ((s2_66 (b + 5)) + 1)) (b + 6) (((zU s2_66 (b + 5) ((s2_66 (b + 5)) + 1)) (b + 6)) + 1)))))] H := hP
          have hD : va_D A [(mm, .inr (7, [.ref ms, .int (nZ vsv), .ref mk, .ref mb, .int (nZ vty), .int (nZ vth), .int (nZ ven), .int (nZ vsp), .int (nZ vla), .int (nZ vpc)])), (ms, .inl (k 0, 900, .inl (zA (zU (zU s2_66 (b + 5) ((s2_66 (b + 5)) + 1)) (b + 6) (((zU s2_66 (b + 5) ((s2_66 (b + 5)) + 1)) (b + 6)) + 1)))))] := hD
          exact zRetV (zU (zU s2_66 (b + 5) ((s2_66 (b + 5)) + 1)) (b + 6) (((zU s2_66 (b + 5) ((s2_66 (b + 5)) + 1)) (b + 6)) + 1)) X hP hD hS rfl ⟨by first | (exfalso; omega) | skip; have h9 := blkOk.stop (x := pv) hM; (first | rw [if_pos (by omega : pv = 100)] at h9 | rw [if_neg (by omega : ¬ pv = 100)] at h9); (first | rw [if_pos (by omega : pv < 0)] at h9 | rw [if_neg (by omega : ¬ pv < 0)] at h9); (try simp only [Int.add_zero] at h9); rw [hLj] at h9; exact h9, (hF.zU (by omega) (by omega)).zU (by omega) (by omega), mid_lane _ _ _ _ _⟩ dX7_rests_114
  · exfalso; omega
set_option maxHeartbeats 4000000 in
set_option maxRecDepth 100000 in
theorem c_X7_rests_r (l : Launch) (D : va_G) (k : Nat → ClassId) (sz : Nat) (mm ms mk mb : Nat) (vsv vty vth ven vsp vla vpc : Int) (s : Nat → Int) (b j : Nat) (B : Bd) (pv : Int) (L : List Int) (r : Nat) (hBk : blkOk s b B) (hbb : b ≤ 810) (hjj : j < 3) (hLj : B.2 j = L) (hx : 0 ≤ pv ∧ pv ≤ 100) (hr : r < L.length) : Met l yX7_rests (zW yX7_rests cX7_rests 6 none) ({ frames := 2, cells := 0, slots := 0, locals := 46 } : Room) (va_Pc [.ref mm, .int (nZ ↑b), .int (nZ ↑j), .int (nZ ↑r), .int (nZ pv)] (zIn D k sz [(mm, .inr (7, [.ref ms, .int (nZ vsv), .ref mk, .ref mb, .int (nZ vty), .int (nZ vth), .int (nZ ven), .int (nZ vsp), .int (nZ vla), .int (nZ vpc)])), (ms, .inl (k 0, 900, .inl (zA s)))])) (va_Qv (fun (uz : (Nat → Int)) => blkOk uz b (stopB B j (stopR L r pv) pv) ∧ frOk s uz b ∧ (stopB B j (stopR L r pv) pv).2 j = (stopR L r pv)) (fun (uz : (Nat → Int)) => zOut D (va_A [(mm, .inr (7, [.ref ms, .int (nZ vsv), .ref mk, .ref mb, .int (nZ vty), .int (nZ vth), .int (nZ ven), .int (nZ vsp), .int (nZ vla), .int (nZ vpc)])), (ms, .inl (k 0, 900, .inl (zA s)))] sz) [(mm, .inr (7, [.ref ms, .int (nZ vsv), .ref mk, .ref mb, .int (nZ vty), .int (nZ vth), .int (nZ ven), .int (nZ vsp), .int (nZ vla), .int (nZ vpc)])), (ms, .inl (k 0, 900, .inl (zA uz)))]) (va_A [(mm, .inr (7, [.ref ms, .int (nZ vsv), .ref mk, .ref mb, .int (nZ vty), .int (nZ vth), .int (nZ ven), .int (nZ vsp), .int (nZ vla), .int (nZ vpc)])), (ms, .inl (k 0, 900, .inl (zA s)))] sz)) 0 0 (va_A [(mm, .inr (7, [.ref ms, .int (nZ vsv), .ref mk, .ref mb, .int (nZ vty), .int (nZ vth), .int (nZ ven), .int (nZ vsp), .int (nZ vla), .int (nZ vpc)])), (ms, .inl (k 0, 900, .inl (zA s)))] sz) := by
  refine zEnter (Qf := fun A => va_Qv (fun (uz : (Nat → Int)) => blkOk uz b (stopB B j (stopR L r pv) pv) ∧ frOk s uz b ∧ (stopB B j (stopR L r pv) pv).2 j = (stopR L r pv)) (fun (uz : (Nat → Int)) => zOut D A [(mm, .inr (7, [.ref ms, .int (nZ vsv), .ref mk, .ref mb, .int (nZ vty), .int (nZ vth), .int (nZ ven), .int (nZ vsp), .int (nZ vla), .int (nZ vpc)])), (ms, .inl (k 0, 900, .inl (zA uz)))]) A) RX7 (by decide) rfl (Nat.le_of_ble_eq_true rfl) ?_
  intro p9 e9 s9 m9 be9 me9 c9 ls A X hin hP hD hS hA hAe hl
  have hX := X.1; have hB := X.2.1; have hz := X.2.2.2.2.1; have hW := X.2.2.2.2.2.1; have hK := X.2.2.2.2.2.2.2; clear hAe
  clear hin
  have hl : lv_has ls 6 [(0, .ref mm), (1, .int (nZ ↑b)), (2, .int (nZ ↑j)), (3, .int (nZ ↑r)), (4, .int (nZ pv))] := hl
  have hl9 := hBk.len hjj
  rw [hLj] at hl9
  refine lv_iload_n hX hB dX7_rests_0 rfl (lv_at hl 1 rfl) ?_
  refine lv_iload_n hX hB dX7_rests_1 rfl (lv_at hl 2 rfl) ?_
  refine zCallI0 (zRunS X ms_X7_laneAt (c_X7_laneAt l D k _ b j ) zw_272 (zPreS hP hD hK [] rfl rfl) rfl hl (Nat.le_of_ble_eq_true rfl) dX7_rests_2 ⟨rfl, rfl, ⟨Nat.le_of_ble_eq_true rfl, Nat.le_of_ble_eq_true rfl⟩, Nat.le_of_ble_eq_true rfl, Nat.le_of_ble_eq_true rfl⟩ rfl) hS hP hD hA [] rfl (fun _ => rfl) (fun r_2 u_2 H locs hq_2 hP hD hS => ?_)
  subst hq_2
  have hP : va_P D vwCl [(mm, .inr (7, [.ref ms, .int (nZ vsv), .ref mk, .ref mb, .int (nZ vty), .int (nZ vth), .int (nZ ven), .int (nZ vsp), .int (nZ vla), .int (nZ vpc)])), (ms, .inl (k 0, 900, .inl (zA s)))] H := hP
  have hD : va_D A [(mm, .inr (7, [.ref ms, .int (nZ vsv), .ref mk, .ref mb, .int (nZ vty), .int (nZ vth), .int (nZ ven), .int (nZ vsp), .int (nZ vla), .int (nZ vpc)])), (ms, .inl (k 0, 900, .inl (zA s)))] := hD
  refine lv_istore (lv' := [(5, .int (nZ ((↑(b + 27) : Int) + (21 * ↑j)))), (0, .ref mm), (1, .int (nZ ↑b)), (2, .int (nZ ↑j)), (3, .int (nZ ↑r)), (4, .int (nZ pv))]) hX hB dX7_rests_5 hl (by decide) rfl (fun ls hl => ?_)
  refine lv_iload_n hX hB dX7_rests_7 rfl (lv_at hl 4 rfl) ?_
  refine lv_iconst (v := nZ (-1)) hX hB dX7_rests_8 rfl ?_
  refine zz_icmp_eq X (tgt := 50) dX7_rests_9 (by decide) ⟨by omega, by omega⟩ ⟨by omega, by omega⟩ (fun c_9 => ?_) (fun c_9 => ?_)
  · exfalso; omega
  · refine lv_aload_n hX hB dX7_rests_12 rfl (lv_at hl 1 rfl) ?_
    refine va_get hX hB hz inlX7 hW hK.1 hP 0 rfl rfl 0 (by decide) (hz _ zw_74) (fun _ h9 => h9) rfl dX7_rests_13 ?_
    refine lv_iload hX hB dX7_rests_16 (lv_at hl 0 rfl) ?_
    refine lv_iconst (v := nZ 1) hX hB dX7_rests_18 rfl ?_
    refine zz_iadd X dX7_rests_19 (z := (((↑(b + 27) : Int) + (21 * ↑j)) + 1)) (by first | rfl | omega) ?_
    refine lv_iload_n hX hB dX7_rests_20 rfl (lv_at hl 4 rfl) ?_
    refine zz_iadd X dX7_rests_21 (z := ((((↑(b + 27) : Int) + (21 * ↑j)) + 1) + ↑r)) (by first | rfl | omega) ?_
    refine lv_iload hX hB dX7_rests_22 (lv_at hl 5 rfl) ?_
    refine zz_iast X hP hD hS 1 0 rfl rfl (((((b + 27)) + (21 * j)) + 1) + r) (by omega) (by omega) (by first | decide | omega) dX7_rests_24 (fun H locs hP hD hS => ?_)
    have hP : va_P D vwCl [(mm, .inr (7, [.ref ms, .int (nZ vsv), .ref mk, .ref mb, .int (nZ vty), .int (nZ vth), .int (nZ ven), .int (nZ vsp), .int (nZ vla), .int (nZ vpc)])), (ms, .inl (k 0, 900, .inl (zA (zU s (((((b + 27)) + (21 * j)) + 1) + r) pv))))] H := hP
    have hD : va_D A [(mm, .inr (7, [.ref ms, .int (nZ vsv), .ref mk, .ref mb, .int (nZ vty), .int (nZ vth), .int (nZ ven), .int (nZ vsp), .int (nZ vla), .int (nZ vpc)])), (ms, .inl (k 0, 900, .inl (zA (zU s (((((b + 27)) + (21 * j)) + 1) + r) pv))))] := hD
    refine lv_aload_n hX hB dX7_rests_25 rfl (lv_at hl 1 rfl) ?_
    refine va_get hX hB hz inlX7 hW hK.1 hP 0 rfl rfl 0 (by decide) (hz _ zw_74) (fun _ h9 => h9) rfl dX7_rests_26 ?_
    refine lv_iload hX hB dX7_rests_29 (lv_at hl 0 rfl) ?_
    refine lv_dup2_11 hX hB dX7_rests_31 rfl rfl ?_
    refine zz_iald X hP 1 0 rfl rfl (((b + 27)) + (21 * j)) (by omega) (by omega) (by first | decide | omega) dX7_rests_32 ?_
    refine lv_iload hX hB dX7_rests_33 (lv_at hl 5 rfl) ?_
    refine lv_bipush (v := nZ 100) hX hB dX7_rests_35 (by decide) ?_
    refine zz_icmp_ne X (tgt := 44) dX7_rests_37 (by decide) ⟨by omega, by omega⟩ ⟨by omega, by omega⟩ (fun c_37 => ?_) (fun c_37 => ?_)
    · refine lv_iconst (v := nZ 0) hX hB dX7_rests_44 rfl ?_
      refine zz_isub X dX7_rests_45 (z := ((zU s (((((b + 27)) + (21 * j)) + 1) + r) pv) (((b + 27)) + (21 * j)))) (by first | rfl | omega) ?_
      refine zz_iast X hP hD hS 1 0 rfl rfl (((b + 27)) + (21 * j)) (by omega) (by omega) (by first | decide | omega) dX7_rests_46 (fun H locs hP hD hS => ?_)
      have hP : va_P D vwCl [(mm, .inr (7, [.ref ms, .int (nZ vsv), .ref mk, .ref mb, .int (nZ vty), .int (nZ vth), .int (nZ ven), .int (nZ vsp), .int (nZ vla), .int (nZ vpc)])), (ms, .inl (k 0, 900, .inl (zA (zU (zU s (((((b + 27)) + (21 * j)) + 1) + r) pv) (((b + 27)) + (21 * j)) ((zU s (((((b + 27)) + (21 * j)) + 1) + r) pv) (((b + 27)) + (21 * j)))))))] H := hP
      have hD : va_D A [(mm, .inr (7, [.ref ms, .int (nZ vsv), .ref mk, .ref mb, .int (nZ vty), .int (nZ vth), .int (nZ ven), .int (nZ vsp), .int (nZ vla), .int (nZ vpc)])), (ms, .inl (k 0, 900, .inl (zA (zU (zU s (((((b + 27)) + (21 * j)) + 1) + r) pv) (((b + 27)) + (21 * j)) ((zU s (((((b + 27)) + (21 * j)) + 1) + r) pv) (((b + 27)) + (21 * j)))))))] := hD
      refine lv_goto (tgt := 69) hX hB dX7_rests_47 (by decide) ?_
      have hM := blk_setR hBk hjj (by rw [hLj]; exact hr) hx
      first | rw [if_pos (by omega : pv = 100)] at hM | rw [if_neg (by omega : ¬ pv = 100)] at hM
      (try simp only [Int.sub_zero] at hM)
      refine lv_aload_n hX hB dX7_rests_69 rfl (lv_at hl 1 rfl) ?_
      refine va_get hX hB hz inlX7 hW hK.1 hP 0 rfl rfl 0 (by decide) (hz _ zw_74) (fun _ h9 => h9) rfl dX7_rests_70 ?_
      refine lv_iload_n hX hB dX7_rests_73 rfl (lv_at hl 2 rfl) ?_
      refine lv_iconst (v := nZ 5) hX hB dX7_rests_74 rfl ?_
      refine zz_iadd X dX7_rests_75 (z := (↑(b + 5) : Int)) (by first | rfl | omega) ?_
      refine lv_dup2_11 hX hB dX7_rests_76 rfl rfl ?_
      refine zz_iald X hP 1 0 rfl rfl (b + 5) (by omega) (by omega) (by first | decide | omega) dX7_rests_77 ?_
      refine lv_iload hX hB dX7_rests_78 (lv_at hl 5 rfl) ?_
      refine lv_bipush (v := nZ 100) hX hB dX7_rests_80 (by decide) ?_
      refine zz_icmp_ne X (tgt := 89) dX7_rests_82 (by decide) ⟨by omega, by omega⟩ ⟨by omega, by omega⟩ (fun c_82 => ?_) (fun c_82 => ?_)
      · refine lv_iconst (v := nZ 0) hX hB dX7_rests_89 rfl ?_
        refine zz_iadd X dX7_rests_90 (z := ((zU (zU s (((((b + 27)) + (21 * j)) + 1) + r) pv) (((b + 27)) + (21 * j)) ((zU s (((((b + 27)) + (21 * j)) + 1) + r) pv) (((b + 27)) + (21 * j)))) (b + 5))) (by first | rfl | omega) ?_
        refine zz_iast X hP hD hS 1 0 rfl rfl (b + 5) (by omega) (by omega) (by first | decide | omega) dX7_rests_91 (fun H locs hP hD hS => ?_)
        have hP : va_P D vwCl [(mm, .inr (7, [.ref ms, .int (nZ vsv), .ref mk, .ref mb, .int (nZ vty), .int (nZ vth), .int (nZ ven), .int (nZ vsp), .int (nZ vla), .int (nZ vpc)])), (ms, .inl (k 0, 900, .inl (zA (zU (zU (zU s (((((b + 27)) + (21 * j)) + 1) + r) pv) (((b + 27)) + (21 * j)) ((zU s (((((b + 27)) + (21 * j)) + 1) + r) pv) (((b + 27)) + (21 * j)))) (b + 5) ((zU (zU s (((((b + 27)) + (21 * j)) + 1) + r) pv) (((b + 27)) + (21 * j)) ((zU s (((((b + 27)) + (21 * j)) + 1) + r) pv) (((b + 27)) + (21 * j)))) (b + 5))))))] H := hP
        have hD : va_D A [(mm, .inr (7, [.ref ms, .int (nZ vsv), .ref mk, .ref mb, .int (nZ vty), .int (nZ vth), .int (nZ ven), .int (nZ vsp), .int (nZ vla), .int (nZ vpc)])), (ms, .inl (k 0, 900, .inl (zA (zU (zU (zU s (((((b + 27)) + (21 * j)) + 1) + r) pv) (((b + 27)) + (21 * j)) ((zU s (((((b + 27)) + (21 * j)) + 1) + r) pv) (((b + 27)) + (21 * j)))) (b + 5) ((zU (zU s (((((b + 27)) + (21 * j)) + 1) + r) pv) (((b + 27)) + (21 * j)) ((zU s (((((b + 27)) + (21 * j)) + 1) + r) pv) (((b + 27)) + (21 * j)))) (b + 5))))))] := hD
        refine lv_aload_n hX hB dX7_rests_92 rfl (lv_at hl 1 rfl) ?_
        refine va_get hX hB hz inlX7 hW hK.1 hP 0 rfl rfl 0 (by decide) (hz _ zw_74) (fun _ h9 => h9) rfl dX7_rests_93 ?_
        refine lv_iload_n hX hB dX7_rests_96 rfl (lv_at hl 2 rfl) ?_
        refine lv_bipush (v := nZ 6) hX hB dX7_rests_97 (by decide) ?_
        refine zz_iadd X dX7_rests_99 (z := (↑(b + 6) : Int)) (by first | rfl | omega) ?_
        refine lv_dup2_11 hX hB dX7_rests_100 rfl rfl ?_
        refine zz_iald X hP 1 0 rfl rfl (b + 6) (by omega) (by omega) (by first | decide | omega) dX7_rests_101 ?_
        refine lv_iload hX hB dX7_rests_102 (lv_at hl 5 rfl) ?_
        refine zz_if_ge X (tgt := 111) dX7_rests_104 (by decide) ⟨by omega, by omega⟩ (fun c_104 => ?_) (fun c_104 => ?_)
        · refine lv_iconst (v := nZ 0) hX hB dX7_rests_111 rfl ?_
          refine zz_iadd X dX7_rests_112 (z := ((zU (zU (zU s (((((b + 27)) + (21 * j)) + 1) + r) pv) (((b + 27)) + (21 * j)) ((zU s (((((b + 27)) + (21 * j)) + 1) + r) pv) (((b + 27)) + (21 * j)))) (b + 5) ((zU (zU s (((((b + 27)) + (21 * j)) + 1) + r) pv) (((b + 27)) + (21 * j)) ((zU s (((((b + 27)) + (21 * j)) + 1) + r) pv) (((b + 27)) + (21 * j)))) (b + 5))) (b + 6))) (by first | rfl | omega) ?_
          refine zz_iast X hP hD hS 1 0 rfl rfl (b + 6) (by omega) (by omega) (by first | decide | omega) dX7_rests_113 (fun H locs hP hD hS => ?_)
          have hP : va_P D vwCl [(mm, .inr (7, [.ref ms, .int (nZ vsv), .ref mk, .ref mb, .int (nZ vty), .int (nZ vth), .int (nZ ven), .int (nZ vsp), .int (nZ vla), .int (nZ vpc)])), (ms, .inl (k 0, 900, .inl (zA (zU (zU (zU (zU s (((((b + 27)) + (21 * j)) + 1) + r) pv) (((b + 27)) + (21 * j)) ((zU s (((((b + 27)) + (21 * j)) + 1) + r) pv) (((b + 27)) + (21 * j)))) (b + 5) ((zU (zU s (((((b + 27)) + (21 * j)) + 1) + r) pv) (((b + 27)) + (21 * j)) ((zU s (((((b + 27)) + (21 * j)) + 1) + r) pv) (((b + 27)) + (21 * j)))) (b + 5))) (b + 6) ((zU (zU (zU s (((((b + 27)) + (21 * j)) + 1) + r) pv) (((b + 27)) + (21 * j)) ((zU s (((((b + 27)) + (21 * j)) + 1) + r) pv) (((b + 27)) + (21 * j)))) (b + 5) ((zU (zU s (((((b + 27)) + (21 * j)) + 1) + r) pv) (((b + 27)) + (21 * j)) ((zU s (((((b + 27)) + (21 * j)) + 1) + r) pv) (((b + 27)) + (21 * j)))) (b + 5))) (b + 6))))))] H := hP
          have hD : va_D A [(mm, .inr (7, [.ref ms, .int (nZ vsv), .ref mk, .ref mb, .int (nZ vty), .int (nZ vth), .int (nZ ven), .int (nZ vsp), .int (nZ vla), .int (nZ vpc)])), (ms, .inl (k 0, 900, .inl (zA (zU (zU (zU (zU s (((((b + 27)) + (21 * j)) + 1) + r) pv) (((b + 27)) + (21 * j)) ((zU s (((((b + 27)) + (21 * j)) + 1) + r) pv) (((b + 27)) + (21 * j)))) (b + 5) ((zU (zU s (((((b + 27)) + (21 * j)) + 1) + r) pv) (((b + 27)) + (21 * j)) ((zU s (((((b + 27)) + (21 * j)) + 1) + r) pv) (((b + 27)) + (21 * j)))) (b + 5))) (b + 6) ((zU (zU (zU s (((((b + 27)) + (21 * j)) + 1) + r) pv) (((b + 27)) + (21 * j)) ((zU s (((((b + 27)) + (21 * j)) + 1) + r) pv) (((b + 27)) + (21 * j)))) (b + 5) ((zU (zU s (((((b + 27)) + (21 * j)) + 1) + r) pv) (((b + 27)) + (21 * j)) ((zU s (((((b + 27)) + (21 * j)) + 1) + r) pv) (((b + 27)) + (21 * j)))) (b + 5))) (b + 6))))))] := hD
          exact zRetV (zU (zU (zU (zU s (((((b + 27)) + (21 * j)) + 1) + r) pv) (((b + 27)) + (21 * j)) ((zU s (((((b + 27)) + (21 * j)) + 1) + r) pv) (((b + 27)) + (21 * j)))) (b + 5) ((zU (zU s (((((b + 27)) + (21 * j)) + 1) + r) pv) (((b + 27)) + (21 * j)) ((zU s (((((b + 27)) + (21 * j)) + 1) + r) pv) (((b + 27)) + (21 * j)))) (b + 5))) (b + 6) ((zU (zU (zU s (((((b + 27)) + (21 * j)) + 1) + r) pv) (((b + 27)) + (21 * j)) ((zU s (((((b + 27)) + (21 * j)) + 1) + r) pv) (((b + 27)) + (21 * j)))) (b + 5) ((zU (zU s (((((b + 27)) + (21 * j)) + 1) + r) pv) (((b + 27)) + (21 * j)) ((zU s (((((b + 27)) + (21 * j)) + 1) + r) pv) (((b + 27)) + (21 * j)))) (b + 5))) (b + 6))) X hP hD hS rfl ⟨by first | (exfalso; omega) | skip; have h9 := blkOk.stop (x := pv) hM; (first | rw [if_pos (by omega : pv = 100)] at h9 | rw [if_neg (by omega : ¬ pv = 100)] at h9); (first | rw [if_pos (by omega : pv < 0)] at h9 | rw [if_neg (by omega : ¬ pv < 0)] at h9); (try simp only [Int.add_zero] at h9); rw [hLj] at h9; exact h9, ((((frOk.refl s b).zU (by omega) (by omega)).zU (by omega) (by omega)).zU (by omega) (by omega)).zU (by omega) (by omega), mid_lane _ _ _ _ _⟩ dX7_rests_114
        · refine lv_iconst (v := nZ 1) hX hB dX7_rests_107 rfl ?_
          refine lv_goto (tgt := 112) hX hB dX7_rests_108 (by decide) ?_
          refine zz_iadd X dX7_rests_112 (z := (((zU (zU (zU s (((((b + 27)) + (21 * j)) + 1) + r) pv) (((b + 27)) + (21 * j)) ((zU s (((((b + 27)) + (21 * j)) + 1) + r) pv) (((b + 27)) + (21 * j)))) (b + 5) ((zU (zU s (((((b + 27)) + (21 * j)) + 1) + r) pv) (((b + 27)) + (21 * j)) ((zU s (((((b + 27)) + (21 * j)) + 1) + r) pv) (((b + 27)) + (21 * j)))) (b + 5))) (b + 6)) + 1)) (by first | rfl | omega) ?_
          refine zz_iast X hP hD hS 1 0 rfl rfl (b + 6) (by omega) (by omega) (by first | decide | omega) dX7_rests_113 (fun H locs hP hD hS => ?_)
          have hP : va_P D vwCl [(mm, .inr (7, [.ref ms, .int (nZ vsv), .ref mk, .ref mb, .int (nZ vty), .int (nZ vth), .int (nZ ven), .int (nZ vsp), .int (nZ vla), .int (nZ vpc)])), (ms, .inl (k 0, 900, .inl (zA (zU (zU (zU (zU s (((((b + 27)) + (21 * j)) + 1) + r) pv) (((b + 27)) + (21 * j)) ((zU s (((((b + 27)) + (21 * j)) + 1) + r) pv) (((b + 27)) + (21 * j)))) (b + 5) ((zU (zU s (((((b + 27)) + (21 * j)) + 1) + r) pv) (((b + 27)) + (21 * j)) ((zU s (((((b + 27)) + (21 * j)) + 1) + r) pv) (((b + 27)) + (21 * j)))) (b + 5))) (b + 6) (((zU (zU (zU s (((((b + 27)) + (21 * j)) + 1) + r) pv) (((b + 27)) + (21 * j)) ((zU s (((((b + 27)) + (21 * j)) + 1) + r) pv) (((b + 27)) + (21 * j)))) (b + 5) ((zU (zU s (((((b + 27)) + (21 * j)) + 1) + r) pv) (((b + 27)) + (21 * j)) ((zU s (((((b + 27)) + (21 * j)) + 1) + r) pv) (((b + 27)) + (21 * j)))) (b + 5))) (b + 6)) + 1)))))] H := hP
          have hD : va_D A [(mm, .inr (7, [.ref ms, .int (nZ vsv), .ref mk, .ref mb, .int (nZ vty), .int (nZ vth), .int (nZ ven), .int (nZ vsp), .int (nZ vla), .int (nZ vpc)])), (ms, .inl (k 0, 900, .inl (zA (zU (zU (zU (zU s (((((b + 27)) + (21 * j)) + 1) + r) pv) (((b + 27)) + (21 * j)) ((zU s (((((b + 27)) + (21 * j)) + 1) + r) pv) (((b + 27)) + (21 * j)))) (b + 5) ((zU (zU s (((((b + 27)) + (21 * j)) + 1) + r) pv) (((b + 27)) + (21 * j)) ((zU s (((((b + 27)) + (21 * j)) + 1) + r) pv) (((b + 27)) + (21 * j)))) (b + 5))) (b + 6) (((zU (zU (zU s (((((b + 27)) + (21 * j)) + 1) + r) pv) (((b + 27)) + (21 * j)) ((zU s (((((b + 27)) + (21 * j)) + 1) + r) pv) (((b + 27)) + (21 * j)))) (b + 5) ((zU (zU s (((((b + 27)) + (21 * j)) + 1) + r) pv) (((b + 27)) + (21 * j)) ((zU s (((((b + 27)) + (21 * j)) + 1) + r) pv) (((b + 27)) + (21 * j)))) (b + 5))) (b + 6)) + 1)))))] := hD
          exact zRetV (zU (zU (zU (zU s (((((b + 27)) + (21 * j)) + 1) + r) pv) (((b + 27)) + (21 * j)) ((zU s (((((b + 27)) + (21 * j)) + 1) + r) pv) (((b + 27)) + (21 * j)))) (b + 5) ((zU (zU s (((((b + 27)) + (21 * j)) + 1) + r) pv) (((b + 27)) + (21 * j)) ((zU s (((((b + 27)) + (21 * j)) + 1) + r) pv) (((b + 27)) + (21 * j)))) (b + 5))) (b + 6) (((zU (zU (zU s (((((b + 27)) + (21 * j)) + 1) + r) pv) (((b + 27)) + (21 * j)) ((zU s (((((b + 27)) + (21 * j)) + 1) + r) pv) (((b + 27)) + (21 * j)))) (b + 5) ((zU (zU s (((((b + 27)) + (21 * j)) + 1) + r) pv) (((b + 27)) + (21 * j)) ((zU s (((((b + 27)) + (21 * j)) + 1) + r) pv) (((b + 27)) + (21 * j)))) (b + 5))) (b + 6)) + 1)) X hP hD hS rfl ⟨by first | (exfalso; omega) | skip; have h9 := blkOk.stop (x := pv) hM; (first | rw [if_pos (by omega : pv = 100)] at h9 | rw [if_neg (by omega : ¬ pv = 100)] at h9); (first | rw [if_pos (by omega : pv < 0)] at h9 | rw [if_neg (by omega : ¬ pv < 0)] at h9); (try simp only [Int.add_zero] at h9); rw [hLj] at h9; exact h9, ((((frOk.refl s b).zU (by omega) (by omega)).zU (by omega) (by omega)).zU (by omega) (by omega)).zU (by omega) (by omega), mid_lane _ _ _ _ _⟩ dX7_rests_114
      · refine lv_iconst (v := nZ 1) hX hB dX7_rests_85 rfl ?_
        refine lv_goto (tgt := 90) hX hB dX7_rests_86 (by decide) ?_
        refine zz_iadd X dX7_rests_90 (z := (((zU (zU s (((((b + 27)) + (21 * j)) + 1) + r) pv) (((b + 27)) + (21 * j)) ((zU s (((((b + 27)) + (21 * j)) + 1) + r) pv) (((b + 27)) + (21 * j)))) (b + 5)) + 1)) (by first | rfl | omega) ?_
        refine zz_iast X hP hD hS 1 0 rfl rfl (b + 5) (by omega) (by omega) (by first | decide | omega) dX7_rests_91 (fun H locs hP hD hS => ?_)
        have hP : va_P D vwCl [(mm, .inr (7, [.ref ms, .int (nZ vsv), .ref mk, .ref mb, .int (nZ vty), .int (nZ vth), .int (nZ ven), .int (nZ vsp), .int (nZ vla), .int (nZ vpc)])), (ms, .inl (k 0, 900, .inl (zA (zU (zU (zU s (((((b + 27)) + (21 * j)) + 1) + r) pv) (((b + 27)) + (21 * j)) ((zU s (((((b + 27)) + (21 * j)) + 1) + r) pv) (((b + 27)) + (21 * j)))) (b + 5) (((zU (zU s (((((b + 27)) + (21 * j)) + 1) + r) pv) (((b + 27)) + (21 * j)) ((zU s (((((b + 27)) + (21 * j)) + 1) + r) pv) (((b + 27)) + (21 * j)))) (b + 5)) + 1)))))] H := hP
        have hD : va_D A [(mm, .inr (7, [.ref ms, .int (nZ vsv), .ref mk, .ref mb, .int (nZ vty), .int (nZ vth), .int (nZ ven), .int (nZ vsp), .int (nZ vla), .int (nZ vpc)])), (ms, .inl (k 0, 900, .inl (zA (zU (zU (zU s (((((b + 27)) + (21 * j)) + 1) + r) pv) (((b + 27)) + (21 * j)) ((zU s (((((b + 27)) + (21 * j)) + 1) + r) pv) (((b + 27)) + (21 * j)))) (b + 5) (((zU (zU s (((((b + 27)) + (21 * j)) + 1) + r) pv) (((b + 27)) + (21 * j)) ((zU s (((((b + 27)) + (21 * j)) + 1) + r) pv) (((b + 27)) + (21 * j)))) (b + 5)) + 1)))))] := hD
        refine lv_aload_n hX hB dX7_rests_92 rfl (lv_at hl 1 rfl) ?_
        refine va_get hX hB hz inlX7 hW hK.1 hP 0 rfl rfl 0 (by decide) (hz _ zw_74) (fun _ h9 => h9) rfl dX7_rests_93 ?_
        refine lv_iload_n hX hB dX7_rests_96 rfl (lv_at hl 2 rfl) ?_
        refine lv_bipush (v := nZ 6) hX hB dX7_rests_97 (by decide) ?_
        refine zz_iadd X dX7_rests_99 (z := (↑(b + 6) : Int)) (by first | rfl | omega) ?_
        refine lv_dup2_11 hX hB dX7_rests_100 rfl rfl ?_
        refine zz_iald X hP 1 0 rfl rfl (b + 6) (by omega) (by omega) (by first | decide | omega) dX7_rests_101 ?_
        refine lv_iload hX hB dX7_rests_102 (lv_at hl 5 rfl) ?_
        refine zz_if_ge X (tgt := 111) dX7_rests_104 (by decide) ⟨by omega, by omega⟩ (fun c_104 => ?_) (fun c_104 => ?_)
        · refine lv_iconst (v := nZ 0) hX hB dX7_rests_111 rfl ?_
          refine zz_iadd X dX7_rests_112 (z := ((zU (zU (zU s (((((b + 27)) + (21 * j)) + 1) + r) pv) (((b + 27)) + (21 * j)) ((zU s (((((b + 27)) + (21 * j)) + 1) + r) pv) (((b + 27)) + (21 * j)))) (b + 5) (((zU (zU s (((((b + 27)) + (21 * j)) + 1) + r) pv) (((b + 27)) + (21 * j)) ((zU s (((((b + 27)) + (21 * j)) + 1) + r) pv) (((b + 27)) + (21 * j)))) (b + 5)) + 1)) (b + 6))) (by first | rfl | omega) ?_
          refine zz_iast X hP hD hS 1 0 rfl rfl (b + 6) (by omega) (by omega) (by first | decide | omega) dX7_rests_113 (fun H locs hP hD hS => ?_)
          have hP : va_P D vwCl [(mm, .inr (7, [.ref ms, .int (nZ vsv), .ref mk, .ref mb, .int (nZ vty), .int (nZ vth), .int (nZ ven), .int (nZ vsp), .int (nZ vla), .int (nZ vpc)])), (ms, .inl (k 0, 900, .inl (zA (zU (zU (zU (zU s (((((b + 27)) + (21 * j)) + 1) + r) pv) (((b + 27)) + (21 * j)) ((zU s (((((b + 27)) + (21 * j)) + 1) + r) pv) (((b + 27)) + (21 * j)))) (b + 5) (((zU (zU s (((((b + 27)) + (21 * j)) + 1) + r) pv) (((b + 27)) + (21 * j)) ((zU s (((((b + 27)) + (21 * j)) + 1) + r) pv) (((b + 27)) + (21 * j)))) (b + 5)) + 1)) (b + 6) ((zU (zU (zU s (((((b + 27)) + (21 * j)) + 1) + r) pv) (((b + 27)) + (21 * j)) ((zU s (((((b + 27)) + (21 * j)) + 1) + r) pv) (((b + 27)) + (21 * j)))) (b + 5) (((zU (zU s (((((b + 27)) + (21 * j)) + 1) + r) pv) (((b + 27)) + (21 * j)) ((zU s (((((b + 27)) + (21 * j)) + 1) + r) pv) (((b + 27)) + (21 * j)))) (b + 5)) + 1)) (b + 6))))))] H := hP
          have hD : va_D A [(mm, .inr (7, [.ref ms, .int (nZ vsv), .ref mk, .ref mb, .int (nZ vty), .int (nZ vth), .int (nZ ven), .int (nZ vsp), .int (nZ vla), .int (nZ vpc)])), (ms, .inl (k 0, 900, .inl (zA (zU (zU (zU (zU s (((((b + 27)) + (21 * j)) + 1) + r) pv) (((b + 27)) + (21 * j)) ((zU s (((((b + 27)) + (21 * j)) + 1) + r) pv) (((b + 27)) + (21 * j)))) (b + 5) (((zU (zU s (((((b + 27)) + (21 * j)) + 1) + r) pv) (((b + 27)) + (21 * j)) ((zU s (((((b + 27)) + (21 * j)) + 1) + r) pv) (((b + 27)) + (21 * j)))) (b + 5)) + 1)) (b + 6) ((zU (zU (zU s (((((b + 27)) + (21 * j)) + 1) + r) pv) (((b + 27)) + (21 * j)) ((zU s (((((b + 27)) + (21 * j)) + 1) + r) pv) (((b + 27)) + (21 * j)))) (b + 5) (((zU (zU s (((((b + 27)) + (21 * j)) + 1) + r) pv) (((b + 27)) + (21 * j)) ((zU s (((((b + 27)) + (21 * j)) + 1) + r) pv) (((b + 27)) + (21 * j)))) (b + 5)) + 1)) (b + 6))))))] := hD
          exact zRetV (zU (zU (zU (zU s (((((b + 27)) + (21 * j)) + 1) + r) pv) (((b + 27)) + (21 * j)) ((zU s (((((b + 27)) + (21 * j)) + 1) + r) pv) (((b + 27)) + (21 * j)))) (b + 5) (((zU (zU s (((((b + 27)) + (21 * j)) + 1) + r) pv) (((b + 27)) + (21 * j)) ((zU s (((((b + 27)) + (21 * j)) + 1) + r) pv) (((b + 27)) + (21 * j)))) (b + 5)) + 1)) (b + 6) ((zU (zU (zU s (((((b + 27)) + (21 * j)) + 1) + r) pv) (((b + 27)) + (21 * j)) ((zU s (((((b + 27)) + (21 * j)) + 1) + r) pv) (((b + 27)) + (21 * j)))) (b + 5) (((zU (zU s (((((b + 27)) + (21 * j)) + 1) + r) pv) (((b + 27)) + (21 * j)) ((zU s (((((b + 27)) + (21 * j)) + 1) + r) pv) (((b + 27)) + (21 * j)))) (b + 5)) + 1)) (b + 6))) X hP hD hS rfl ⟨by first | (exfalso; omega) | skip; have h9 := blkOk.stop (x := pv) hM; (first | rw [if_pos (by omega : pv = 100)] at h9 | rw [if_neg (by omega : ¬ pv = 100)] at h9); (first | rw [if_pos (by omega : pv < 0)] at h9 | rw [if_neg (by omega : ¬ pv < 0)] at h9); (try simp only [Int.add_zero] at h9); rw [hLj] at h9; exact h9, ((((frOk.refl s b).zU (by omega) (by omega)).zU (by omega) (by omega)).zU (by omega) (by omega)).zU (by omega) (by omega), mid_lane _ _ _ _ _⟩ dX7_rests_114
        · refine lv_iconst (v := nZ 1) hX hB dX7_rests_107 rfl ?_
          refine lv_goto (tgt := 112) hX hB dX7_rests_108 (by decide) ?_
          refine zz_iadd X dX7_rests_112 (z := (((zU (zU (zU s (((((b + 27)) + (21 * j)) + 1) + r) pv) (((b + 27)) + (21 * j)) ((zU s (((((b + 27)) + (21 * j)) + 1) + r) pv) (((b + 27)) + (21 * j)))) (b + 5) (((zU (zU s (((((b + 27)) + (21 * j)) + 1) + r) pv) (((b + 27)) + (21 * j)) ((zU s (((((b + 27)) + (21 * j)) + 1) + r) pv) (((b + 27)) + (21 * j)))) (b + 5)) + 1)) (b + 6)) + 1)) (by first | rfl | omega) ?_
          refine zz_iast X hP hD hS 1 0 rfl rfl (b + 6) (by omega) (by omega) (by first | decide | omega) dX7_rests_113 (fun H locs hP hD hS => ?_)
          have hP : va_P D vwCl [(mm, .inr (7, [.ref ms, .int (nZ vsv), .ref mk, .ref mb, .int (nZ vty), .int (nZ vth), .int (nZ ven), .int (nZ vsp), .int (nZ vla), .int (nZ vpc)])), (ms, .inl (k 0, 900, .inl (zA (zU (zU (zU (zU s (((((b + 27)) + (21 * j)) + 1) + r) pv) (((b + 27)) + (21 * j)) ((zU s (((((b + 27)) + (21 * j)) + 1) + r) pv) (((b + 27)) + (21 * j)))) (b + 5) (((zU (zU s (((((b + 27)) + (21 * j)) + 1) + r) pv) (((b + 27)) + (21 * j)) ((zU s (((((b + 27)) + (21 * j)) + 1) + r) pv) (((b + 27)) + (21 * j)))) (b + 5)) + 1)) (b + 6) (((zU (zU (zU s (((((b + 27)) + (21 * j)) + 1) + r) pv) (((b + 27)) + (21 * j)) ((zU s (((((b + 27)) + (21 * j)) + 1) + r) pv) (((b + 27)) + (21 * j)))) (b + 5) (((zU (zU s (((((b + 27)) + (21 * j)) + 1) + r) pv) (((b + 27)) + (21 * j)) ((zU s (((((b + 27)) + (21 * j)) + 1) + r) pv) (((b + 27)) + (21 * j)))) (b + 5)) + 1)) (b + 6)) + 1)))))] H := hP
          have hD : va_D A [(mm, .inr (7, [.ref ms, .int (nZ vsv), .ref mk, .ref mb, .int (nZ vty), .int (nZ vth), .int (nZ ven), .int (nZ vsp), .int (nZ vla), .int (nZ vpc)])), (ms, .inl (k 0, 900, .inl (zA (zU (zU (zU (zU s (((((b + 27)) + (21 * j)) + 1) + r) pv) (((b + 27)) + (21 * j)) ((zU s (((((b + 27)) + (21 * j)) + 1) + r) pv) (((b + 27)) + (21 * j)))) (b + 5) (((zU (zU s (((((b + 27)) + (21 * j)) + 1) + r) pv) (((b + 27)) + (21 * j)) ((zU s (((((b + 27)) + (21 * j)) + 1) + r) pv) (((b + 27)) + (21 * j)))) (b + 5)) + 1)) (b + 6) (((zU (zU (zU s (((((b + 27)) + (21 * j)) + 1) + r) pv) (((b + 27)) + (21 * j)) ((zU s (((((b + 27)) + (21 * j)) + 1) + r) pv) (((b + 27)) + (21 * j)))) (b + 5) (((zU (zU s (((((b + 27)) + (21 * j)) + 1) + r) pv) (((b + 27)) + (21 * j)) ((zU s (((((b + 27)) + (21 * j)) + 1) + r) pv) (((b + 27)) + (21 * j)))) (b + 5)) + 1)) (b + 6)) + 1)))))] := hD
          exact zRetV (zU (zU (zU (zU s (((((b + 27)) + (21 * j)) + 1) + r) pv) (((b + 27)) + (21 * j)) ((zU s (((((b + 27)) + (21 * j)) + 1) + r) pv) (((b + 27)) + (21 * j)))) (b + 5) (((zU (zU s (((((b + 27)) + (21 * j)) + 1) + r) pv) (((b + 27)) + (21 * j)) ((zU s (((((b + 27)) + (21 * j)) + 1) + r) pv) (((b + 27)) + (21 * j)))) (b + 5)) + 1)) (b + 6) (((zU (zU (zU s (((((b + 27)) + (21 * j)) + 1) + r) pv) (((b + 27)) + (21 * j)) ((zU s (((((b + 27)) + (21 * j)) + 1) + r) pv) (((b + 27)) + (21 * j)))) (b + 5) (((zU (zU s (((((b + 27)) + (21 * j)) + 1) + r) pv) (((b + 27)) + (21 * j)) ((zU s (((((b + 27)) + (21 * j)) + 1) + r) pv) (((b + 27)) + (21 * j)))) (b + 5)) + 1)) (b + 6)) + 1)) X hP hD hS rfl ⟨by first | (exfalso; omega) | skip; have h9 := blkOk.stop (x := pv) hM; (first | rw [if_pos (by omega : pv = 100)] at h9 | rw [if_neg (by omega : ¬ pv = 100)] at h9); (first | rw [if_pos (by omega : pv < 0)] at h9 | rw [if_neg (by omega : ¬ pv < 0)] at h9); (try simp only [Int.add_zero] at h9); rw [hLj] at h9; exact h9, ((((frOk.refl s b).zU (by omega) (by omega)).zU (by omega) (by omega)).zU (by omega) (by omega)).zU (by omega) (by omega), mid_lane _ _ _ _ _⟩ dX7_rests_114
    · refine lv_iconst (v := nZ 1) hX hB dX7_rests_40 rfl ?_
      refine lv_goto (tgt := 45) hX hB dX7_rests_41 (by decide) ?_
      refine zz_isub X dX7_rests_45 (z := (((zU s (((((b + 27)) + (21 * j)) + 1) + r) pv) (((b + 27)) + (21 * j))) - 1)) (by first | rfl | omega) ?_
      refine zz_iast X hP hD hS 1 0 rfl rfl (((b + 27)) + (21 * j)) (by omega) (by omega) (by first | decide | omega) dX7_rests_46 (fun H locs hP hD hS => ?_)
      have hP : va_P D vwCl [(mm, .inr (7, [.ref ms, .int (nZ vsv), .ref mk, .ref mb, .int (nZ vty), .int (nZ vth), .int (nZ ven), .int (nZ vsp), .int (nZ vla), .int (nZ vpc)])), (ms, .inl (k 0, 900, .inl (zA (zU (zU s (((((b + 27)) + (21 * j)) + 1) + r) pv) (((b + 27)) + (21 * j)) (((zU s (((((b + 27)) + (21 * j)) + 1) + r) pv) (((b + 27)) + (21 * j))) - 1)))))] H := hP
      have hD : va_D A [(mm, .inr (7, [.ref ms, .int (nZ vsv), .ref mk, .ref mb, .int (nZ vty), .int (nZ vth), .int (nZ ven), .int (nZ vsp), .int (nZ vla), .int (nZ vpc)])), (ms, .inl (k 0, 900, .inl (zA (zU (zU s (((((b + 27)) + (21 * j)) + 1) + r) pv) (((b + 27)) + (21 * j)) (((zU s (((((b + 27)) + (21 * j)) + 1) + r) pv) (((b + 27)) + (21 * j))) - 1)))))] := hD
      refine lv_goto (tgt := 69) hX hB dX7_rests_47 (by decide) ?_
      have hM := blk_setR hBk hjj (by rw [hLj]; exact hr) hx
      first | rw [if_pos (by omega : pv = 100)] at hM | rw [if_neg (by omega : ¬ pv = 100)] at hM
      (try simp only [Int.sub_zero] at hM)
      refine lv_aload_n hX hB dX7_rests_69 rfl (lv_at hl 1 rfl) ?_
      refine va_get hX hB hz inlX7 hW hK.1 hP 0 rfl rfl 0 (by decide) (hz _ zw_74) (fun _ h9 => h9) rfl dX7_rests_70 ?_
      refine lv_iload_n hX hB dX7_rests_73 rfl (lv_at hl 2 rfl) ?_
      refine lv_iconst (v := nZ 5) hX hB dX7_rests_74 rfl ?_
      refine zz_iadd X dX7_rests_75 (z := (↑(b + 5) : Int)) (by first | rfl | omega) ?_
      refine lv_dup2_11 hX hB dX7_rests_76 rfl rfl ?_
      refine zz_iald X hP 1 0 rfl rfl (b + 5) (by omega) (by omega) (by first | decide | omega) dX7_rests_77 ?_
      refine lv_iload hX hB dX7_rests_78 (lv_at hl 5 rfl) ?_
      refine lv_bipush (v := nZ 100) hX hB dX7_rests_80 (by decide) ?_
      refine zz_icmp_ne X (tgt := 89) dX7_rests_82 (by decide) ⟨by omega, by omega⟩ ⟨by omega, by omega⟩ (fun c_82 => ?_) (fun c_82 => ?_)
      · refine lv_iconst (v := nZ 0) hX hB dX7_rests_89 rfl ?_
        refine zz_iadd X dX7_rests_90 (z := ((zU (zU s (((((b + 27)) + (21 * j)) + 1) + r) pv) (((b + 27)) + (21 * j)) (((zU s (((((b + 27)) + (21 * j)) + 1) + r) pv) (((b + 27)) + (21 * j))) - 1)) (b + 5))) (by first | rfl | omega) ?_
        refine zz_iast X hP hD hS 1 0 rfl rfl (b + 5) (by omega) (by omega) (by first | decide | omega) dX7_rests_91 (fun H locs hP hD hS => ?_)
        have hP : va_P D vwCl [(mm, .inr (7, [.ref ms, .int (nZ vsv), .ref mk, .ref mb, .int (nZ vty), .int (nZ vth), .int (nZ ven), .int (nZ vsp), .int (nZ vla), .int (nZ vpc)])), (ms, .inl (k 0, 900, .inl (zA (zU (zU (zU s (((((b + 27)) + (21 * j)) + 1) + r) pv) (((b + 27)) + (21 * j)) (((zU s (((((b + 27)) + (21 * j)) + 1) + r) pv) (((b + 27)) + (21 * j))) - 1)) (b + 5) ((zU (zU s (((((b + 27)) + (21 * j)) + 1) + r) pv) (((b + 27)) + (21 * j)) (((zU s (((((b + 27)) + (21 * j)) + 1) + r) pv) (((b + 27)) + (21 * j))) - 1)) (b + 5))))))] H := hP
        have hD : va_D A [(mm, .inr (7, [.ref ms, .int (nZ vsv), .ref mk, .ref mb, .int (nZ vty), .int (nZ vth), .int (nZ ven), .int (nZ vsp), .int (nZ vla), .int (nZ vpc)])), (ms, .inl (k 0, 900, .inl (zA (zU (zU (zU s (((((b + 27)) + (21 * j)) + 1) + r) pv) (((b + 27)) + (21 * j)) (((zU s (((((b + 27)) + (21 * j)) + 1) + r) pv) (((b + 27)) + (21 * j))) - 1)) (b + 5) ((zU (zU s (((((b + 27)) + (21 * j)) + 1) + r) pv) (((b + 27)) + (21 * j)) (((zU s (((((b + 27)) + (21 * j)) + 1) + r) pv) (((b + 27)) + (21 * j))) - 1)) (b + 5))))))] := hD
        refine lv_aload_n hX hB dX7_rests_92 rfl (lv_at hl 1 rfl) ?_
        refine va_get hX hB hz inlX7 hW hK.1 hP 0 rfl rfl 0 (by decide) (hz _ zw_74) (fun _ h9 => h9) rfl dX7_rests_93 ?_
        refine lv_iload_n hX hB dX7_rests_96 rfl (lv_at hl 2 rfl) ?_
        refine lv_bipush (v := nZ 6) hX hB dX7_rests_97 (by decide) ?_
        refine zz_iadd X dX7_rests_99 (z := (↑(b + 6) : Int)) (by first | rfl | omega) ?_
        refine lv_dup2_11 hX hB dX7_rests_100 rfl rfl ?_
        refine zz_iald X hP 1 0 rfl rfl (b + 6) (by omega) (by omega) (by first | decide | omega) dX7_rests_101 ?_
        refine lv_iload hX hB dX7_rests_102 (lv_at hl 5 rfl) ?_
        refine zz_if_ge X (tgt := 111) dX7_rests_104 (by decide) ⟨by omega, by omega⟩ (fun c_104 => ?_) (fun c_104 => ?_)
        · refine lv_iconst (v := nZ 0) hX hB dX7_rests_111 rfl ?_
          refine zz_iadd X dX7_rests_112 (z := ((zU (zU (zU s (((((b + 27)) + (21 * j)) + 1) + r) pv) (((b + 27)) + (21 * j)) (((zU s (((((b + 27)) + (21 * j)) + 1) + r) pv) (((b + 27)) + (21 * j))) - 1)) (b + 5) ((zU (zU s (((((b + 27)) + (21 * j)) + 1) + r) pv) (((b + 27)) + (21 * j)) (((zU s (((((b + 27)) + (21 * j)) + 1) + r) pv) (((b + 27)) + (21 * j))) - 1)) (b + 5))) (b + 6))) (by first | rfl | omega) ?_
          refine zz_iast X hP hD hS 1 0 rfl rfl (b + 6) (by omega) (by omega) (by first | decide | omega) dX7_rests_113 (fun H locs hP hD hS => ?_)
          have hP : va_P D vwCl [(mm, .inr (7, [.ref ms, .int (nZ vsv), .ref mk, .ref mb, .int (nZ vty), .int (nZ vth), .int (nZ ven), .int (nZ vsp), .int (nZ vla), .int (nZ vpc)])), (ms, .inl (k 0, 900, .inl (zA (zU (zU (zU (zU s (((((b + 27)) + (21 * j)) + 1) + r) pv) (((b + 27)) + (21 * j)) (((zU s (((((b + 27)) + (21 * j)) + 1) + r) pv) (((b + 27)) + (21 * j))) - 1)) (b + 5) ((zU (zU s (((((b + 27)) + (21 * j)) + 1) + r) pv) (((b + 27)) + (21 * j)) (((zU s (((((b + 27)) + (21 * j)) + 1) + r) pv) (((b + 27)) + (21 * j))) - 1)) (b + 5))) (b + 6) ((zU (zU (zU s (((((b + 27)) + (21 * j)) + 1) + r) pv) (((b + 27)) + (21 * j)) (((zU s (((((b + 27)) + (21 * j)) + 1) + r) pv) (((b + 27)) + (21 * j))) - 1)) (b + 5) ((zU (zU s (((((b + 27)) + (21 * j)) + 1) + r) pv) (((b + 27)) + (21 * j)) (((zU s (((((b + 27)) + (21 * j)) + 1) + r) pv) (((b + 27)) + (21 * j))) - 1)) (b + 5))) (b + 6))))))] H := hP
          have hD : va_D A [(mm, .inr (7, [.ref ms, .int (nZ vsv), .ref mk, .ref mb, .int (nZ vty), .int (nZ vth), .int (nZ ven), .int (nZ vsp), .int (nZ vla), .int (nZ vpc)])), (ms, .inl (k 0, 900, .inl (zA (zU (zU (zU (zU s (((((b + 27)) + (21 * j)) + 1) + r) pv) (((b + 27)) + (21 * j)) (((zU s (((((b + 27)) + (21 * j)) + 1) + r) pv) (((b + 27)) + (21 * j))) - 1)) (b + 5) ((zU (zU s (((((b + 27)) + (21 * j)) + 1) + r) pv) (((b + 27)) + (21 * j)) (((zU s (((((b + 27)) + (21 * j)) + 1) + r) pv) (((b + 27)) + (21 * j))) - 1)) (b + 5))) (b + 6) ((zU (zU (zU s (((((b + 27)) + (21 * j)) + 1) + r) pv) (((b + 27)) + (21 * j)) (((zU s (((((b + 27)) + (21 * j)) + 1) + r) pv) (((b + 27)) + (21 * j))) - 1)) (b + 5) ((zU (zU s (((((b + 27)) + (21 * j)) + 1) + r) pv) (((b + 27)) + (21 * j)) (((zU s (((((b + 27)) + (21 * j)) + 1) + r) pv) (((b + 27)) + (21 * j))) - 1)) (b + 5))) (b + 6))))))] := hD
          exact zRetV (zU (zU (zU (zU s (((((b + 27)) + (21 * j)) + 1) + r) pv) (((b + 27)) + (21 * j)) (((zU s (((((b + 27)) + (21 * j)) + 1) + r) pv) (((b + 27)) + (21 * j))) - 1)) (b + 5) ((zU (zU s (((((b + 27)) + (21 * j)) + 1) + r) pv) (((b + 27)) + (21 * j)) (((zU s (((((b + 27)) + (21 * j)) + 1) + r) pv) (((b + 27)) + (21 * j))) - 1)) (b + 5))) (b + 6) ((zU (zU (zU s (((((b + 27)) + (21 * j)) + 1) + r) pv) (((b + 27)) + (21 * j)) (((zU s (((((b + 27)) + (21 * j)) + 1) + r) pv) (((b + 27)) + (21 * j))) - 1)) (b + 5) ((zU (zU s (((((b + 27)) + (21 * j)) + 1) + r) pv) (((b + 27)) + (21 * j)) (((zU s (((((b + 27)) + (21 * j)) + 1) + r) pv) (((b + 27)) + (21 * j))) - 1)) (b + 5))) (b + 6))) X hP hD hS rfl ⟨by first | (exfalso; omega) | skip; have h9 := blkOk.stop (x := pv) hM; (first | rw [if_pos (by omega : pv = 100)] at h9 | rw [if_neg (by omega : ¬ pv = 100)] at h9); (first | rw [if_pos (by omega : pv < 0)] at h9 | rw [if_neg (by omega : ¬ pv < 0)] at h9); (try simp only [Int.add_zero] at h9); rw [hLj] at h9; exact h9, ((((frOk.refl s b).zU (by omega) (by omega)).zU (by omega) (by omega)).zU (by omega) (by omega)).zU (by omega) (by omega), mid_lane _ _ _ _ _⟩ dX7_rests_114
        · refine lv_iconst (v := nZ 1) hX hB dX7_rests_107 rfl ?_
          refine lv_goto (tgt := 112) hX hB dX7_rests_108 (by decide) ?_
          refine zz_iadd X dX7_rests_112 (z := (((zU (zU (zU s (((((b + 27)) + (21 * j)) + 1) + r) pv) (((b + 27)) + (21 * j)) (((zU s (((((b + 27)) + (21 * j)) + 1) + r) pv) (((b + 27)) + (21 * j))) - 1)) (b + 5) ((zU (zU s (((((b + 27)) + (21 * j)) + 1) + r) pv) (((b + 27)) + (21 * j)) (((zU s (((((b + 27)) + (21 * j)) + 1) + r) pv) (((b + 27)) + (21 * j))) - 1)) (b + 5))) (b + 6)) + 1)) (by first | rfl | omega) ?_
          refine zz_iast X hP hD hS 1 0 rfl rfl (b + 6) (by omega) (by omega) (by first | decide | omega) dX7_rests_113 (fun H locs hP hD hS => ?_)
          have hP : va_P D vwCl [(mm, .inr (7, [.ref ms, .int (nZ vsv), .ref mk, .ref mb, .int (nZ vty), .int (nZ vth), .int (nZ ven), .int (nZ vsp), .int (nZ vla), .int (nZ vpc)])), (ms, .inl (k 0, 900, .inl (zA (zU (zU (zU (zU s (((((b + 27)) + (21 * j)) + 1) + r) pv) (((b + 27)) + (21 * j)) (((zU s (((((b + 27)) + (21 * j)) + 1) + r) pv) (((b + 27)) + (21 * j))) - 1)) (b + 5) ((zU (zU s (((((b + 27)) + (21 * j)) + 1) + r) pv) (((b + 27)) + (21 * j)) (((zU s (((((b + 27)) + (21 * j)) + 1) + r) pv) (((b + 27)) + (21 * j))) - 1)) (b + 5))) (b + 6) (((zU (zU (zU s (((((b + 27)) + (21 * j)) + 1) + r) pv) (((b + 27)) + (21 * j)) (((zU s (((((b + 27)) + (21 * j)) + 1) + r) pv) (((b + 27)) + (21 * j))) - 1)) (b + 5) ((zU (zU s (((((b + 27)) + (21 * j)) + 1) + r) pv) (((b + 27)) + (21 * j)) (((zU s (((((b + 27)) + (21 * j)) + 1) + r) pv) (((b + 27)) + (21 * j))) - 1)) (b + 5))) (b + 6)) + 1)))))] H := hP
          have hD : va_D A [(mm, .inr (7, [.ref ms, .int (nZ vsv), .ref mk, .ref mb, .int (nZ vty), .int (nZ vth), .int (nZ ven), .int (nZ vsp), .int (nZ vla), .int (nZ vpc)])), (ms, .inl (k 0, 900, .inl (zA (zU (zU (zU (zU s (((((b + 27)) + (21 * j)) + 1) + r) pv) (((b + 27)) + (21 * j)) (((zU s (((((b + 27)) + (21 * j)) + 1) + r) pv) (((b + 27)) + (21 * j))) - 1)) (b + 5) ((zU (zU s (((((b + 27)) + (21 * j)) + 1) + r) pv) (((b + 27)) + (21 * j)) (((zU s (((((b + 27)) + (21 * j)) + 1) + r) pv) (((b + 27)) + (21 * j))) - 1)) (b + 5))) (b + 6) (((zU (zU (zU s (((((b + 27)) + (21 * j)) + 1) + r) pv) (((b + 27)) + (21 * j)) (((zU s (((((b + 27)) + (21 * j)) + 1) + r) pv) (((b + 27)) + (21 * j))) - 1)) (b + 5) ((zU (zU s (((((b + 27)) + (21 * j)) + 1) + r) pv) (((b + 27)) + (21 * j)) (((zU s (((((b + 27)) + (21 * j)) + 1) + r) pv) (((b + 27)) + (21 * j))) - 1)) (b + 5))) (b + 6)) + 1)))))] := hD
          exact zRetV (zU (zU (zU (zU s (((((b + 27)) + (21 * j)) + 1) + r) pv) (((b + 27)) + (21 * j)) (((zU s (((((b + 27)) + (21 * j)) + 1) + r) pv) (((b + 27)) + (21 * j))) - 1)) (b + 5) ((zU (zU s (((((b + 27)) + (21 * j)) + 1) + r) pv) (((b + 27)) + (21 * j)) (((zU s (((((b + 27)) + (21 * j)) + 1) + r) pv) (((b + 27)) + (21 * j))) - 1)) (b + 5))) (b + 6) (((zU (zU (zU s (((((b + 27)) + (21 * j)) + 1) + r) pv) (((b + 27)) + (21 * j)) (((zU s (((((b + 27)) + (21 * j)) + 1) + r) pv) (((b + 27)) + (21 * j))) - 1)) (b + 5) ((zU (zU s (((((b + 27)) + (21 * j)) + 1) + r) pv) (((b + 27)) + (21 * j)) (((zU s (((((b + 27)) + (21 * j)) + 1) + r) pv) (((b + 27)) + (21 * j))) - 1)) (b + 5))) (b + 6)) + 1)) X hP hD hS rfl ⟨by first | (exfalso; omega) | skip; have h9 := blkOk.stop (x := pv) hM; (first | rw [if_pos (by omega : pv = 100)] at h9 | rw [if_neg (by omega : ¬ pv = 100)] at h9); (first | rw [if_pos (by omega : pv < 0)] at h9 | rw [if_neg (by omega : ¬ pv < 0)] at h9); (try simp only [Int.add_zero] at h9); rw [hLj] at h9; exact h9, ((((frOk.refl s b).zU (by omega) (by omega)).zU (by omega) (by omega)).zU (by omega) (by omega)).zU (by omega) (by omega), mid_lane _ _ _ _ _⟩ dX7_rests_114
      · refine lv_iconst (v := nZ 1) hX hB dX7_rests_85 rfl ?_
        refine lv_goto (tgt := 90) hX hB dX7_rests_86 (by decide) ?_
        refine zz_iadd X dX7_rests_90 (z := (((zU (zU s (((((b + 27)) + (21 * j)) + 1) + r) pv) (((b + 27)) + (21 * j)) (((zU s (((((b + 27)) + (21 * j)) + 1) + r) pv) (((b + 27)) + (21 * j))) - 1)) (b + 5)) + 1)) (by first | rfl | omega) ?_
        refine zz_iast X hP hD hS 1 0 rfl rfl (b + 5) (by omega) (by omega) (by first | decide | omega) dX7_rests_91 (fun H locs hP hD hS => ?_)
        have hP : va_P D vwCl [(mm, .inr (7, [.ref ms, .int (nZ vsv), .ref mk, .ref mb, .int (nZ vty), .int (nZ vth), .int (nZ ven), .int (nZ vsp), .int (nZ vla), .int (nZ vpc)])), (ms, .inl (k 0, 900, .inl (zA (zU (zU (zU s (((((b + 27)) + (21 * j)) + 1) + r) pv) (((b + 27)) + (21 * j)) (((zU s (((((b + 27)) + (21 * j)) + 1) + r) pv) (((b + 27)) + (21 * j))) - 1)) (b + 5) (((zU (zU s (((((b + 27)) + (21 * j)) + 1) + r) pv) (((b + 27)) + (21 * j)) (((zU s (((((b + 27)) + (21 * j)) + 1) + r) pv) (((b + 27)) + (21 * j))) - 1)) (b + 5)) + 1)))))] H := hP
        have hD : va_D A [(mm, .inr (7, [.ref ms, .int (nZ vsv), .ref mk, .ref mb, .int (nZ vty), .int (nZ vth), .int (nZ ven), .int (nZ vsp), .int (nZ vla), .int (nZ vpc)])), (ms, .inl (k 0, 900, .inl (zA (zU (zU (zU s (((((b + 27)) + (21 * j)) + 1) + r) pv) (((b + 27)) + (21 * j)) (((zU s (((((b + 27)) + (21 * j)) + 1) + r) pv) (((b + 27)) + (21 * j))) - 1)) (b + 5) (((zU (zU s (((((b + 27)) + (21 * j)) + 1) + r) pv) (((b + 27)) + (21 * j)) (((zU s (((((b + 27)) + (21 * j)) + 1) + r) pv) (((b + 27)) + (21 * j))) - 1)) (b + 5)) + 1)))))] := hD
        refine lv_aload_n hX hB dX7_rests_92 rfl (lv_at hl 1 rfl) ?_
        refine va_get hX hB hz inlX7 hW hK.1 hP 0 rfl rfl 0 (by decide) (hz _ zw_74) (fun _ h9 => h9) rfl dX7_rests_93 ?_
        refine lv_iload_n hX hB dX7_rests_96 rfl (lv_at hl 2 rfl) ?_
        refine lv_bipush (v := nZ 6) hX hB dX7_rests_97 (by decide) ?_
        refine zz_iadd X dX7_rests_99 (z := (↑(b + 6) : Int)) (by first | rfl | omega) ?_
        refine lv_dup2_11 hX hB dX7_rests_100 rfl rfl ?_
        refine zz_iald X hP 1 0 rfl rfl (b + 6) (by omega) (by omega) (by first | decide | omega) dX7_rests_101 ?_
        refine lv_iload hX hB dX7_rests_102 (lv_at hl 5 rfl) ?_
        refine zz_if_ge X (tgt := 111) dX7_rests_104 (by decide) ⟨by omega, by omega⟩ (fun c_104 => ?_) (fun c_104 => ?_)
        · refine lv_iconst (v := nZ 0) hX hB dX7_rests_111 rfl ?_
          refine zz_iadd X dX7_rests_112 (z := ((zU (zU (zU s (((((b + 27)) + (21 * j)) + 1) + r) pv) (((b + 27)) + (21 * j)) (((zU s (((((b + 27)) + (21 * j)) + 1) + r) pv) (((b + 27)) + (21 * j))) - 1)) (b + 5) (((zU (zU s (((((b + 27)) + (21 * j)) + 1) + r) pv) (((b + 27)) + (21 * j)) (((zU s (((((b + 27)) + (21 * j)) + 1) + r) pv) (((b + 27)) + (21 * j))) - 1)) (b + 5)) + 1)) (b + 6))) (by first | rfl | omega) ?_
          refine zz_iast X hP hD hS 1 0 rfl rfl (b + 6) (by omega) (by omega) (by first | decide | omega) dX7_rests_113 (fun H locs hP hD hS => ?_)
          have hP : va_P D vwCl [(mm, .inr (7, [.ref ms, .int (nZ vsv), .ref mk, .ref mb, .int (nZ vty), .int (nZ vth), .int (nZ ven), .int (nZ vsp), .int (nZ vla), .int (nZ vpc)])), (ms, .inl (k 0, 900, .inl (zA (zU (zU (zU (zU s (((((b + 27)) + (21 * j)) + 1) + r) pv) (((b + 27)) + (21 * j)) (((zU s (((((b + 27)) + (21 * j)) + 1) + r) pv) (((b + 27)) + (21 * j))) - 1)) (b + 5) (((zU (zU s (((((b + 27)) + (21 * j)) + 1) + r) pv) (((b + 27)) + (21 * j)) (((zU s (((((b + 27)) + (21 * j)) + 1) + r) pv) (((b + 27)) + (21 * j))) - 1)) (b + 5)) + 1)) (b + 6) ((zU (zU (zU s (((((b + 27)) + (21 * j)) + 1) + r) pv) (((b + 27)) + (21 * j)) (((zU s (((((b + 27)) + (21 * j)) + 1) + r) pv) (((b + 27)) + (21 * j))) - 1)) (b + 5) (((zU (zU s (((((b + 27)) + (21 * j)) + 1) + r) pv) (((b + 27)) + (21 * j)) (((zU s (((((b + 27)) + (21 * j)) + 1) + r) pv) (((b + 27)) + (21 * j))) - 1)) (b + 5)) + 1)) (b + 6))))))] H := hP
          have hD : va_D A [(mm, .inr (7, [.ref ms, .int (nZ vsv), .ref mk, .ref mb, .int (nZ vty), .int (nZ vth), .int (nZ ven), .int (nZ vsp), .int (nZ vla), .int (nZ vpc)])), (ms, .inl (k 0, 900, .inl (zA (zU (zU (zU (zU s (((((b + 27)) + (21 * j)) + 1) + r) pv) (((b + 27)) + (21 * j)) (((zU s (((((b + 27)) + (21 * j)) + 1) + r) pv) (((b + 27)) + (21 * j))) - 1)) (b + 5) (((zU (zU s (((((b + 27)) + (21 * j)) + 1) + r) pv) (((b + 27)) + (21 * j)) (((zU s (((((b + 27)) + (21 * j)) + 1) + r) pv) (((b + 27)) + (21 * j))) - 1)) (b + 5)) + 1)) (b + 6) ((zU (zU (zU s (((((b + 27)) + (21 * j)) + 1) + r) pv) (((b + 27)) + (21 * j)) (((zU s (((((b + 27)) + (21 * j)) + 1) + r) pv) (((b + 27)) + (21 * j))) - 1)) (b + 5) (((zU (zU s (((((b + 27)) + (21 * j)) + 1) + r) pv) (((b + 27)) + (21 * j)) (((zU s (((((b + 27)) + (21 * j)) + 1) + r) pv) (((b + 27)) + (21 * j))) - 1)) (b + 5)) + 1)) (b + 6))))))] := hD
          exact zRetV (zU (zU (zU (zU s (((((b + 27)) + (21 * j)) + 1) + r) pv) (((b + 27)) + (21 * j)) (((zU s (((((b + 27)) + (21 * j)) + 1) + r) pv) (((b + 27)) + (21 * j))) - 1)) (b + 5) (((zU (zU s (((((b + 27)) + (21 * j)) + 1) + r) pv) (((b + 27)) + (21 * j)) (((zU s (((((b + 27)) + (21 * j)) + 1) + r) pv) (((b + 27)) + (21 * j))) - 1)) (b + 5)) + 1)) (b + 6) ((zU (zU (zU s (((((b + 27)) + (21 * j)) + 1) + r) pv) (((b + 27)) + (21 * j)) (((zU s (((((b + 27)) + (21 * j)) + 1) + r) pv) (((b + 27)) + (21 * j))) - 1)) (b + 5) (((zU (zU s (((((b + 27)) + (21 * j)) + 1) + r) pv) (((b + 27)) + (21 * j)) (((zU s (((((b + 27)) + (21 * j)) + 1) + r) pv) (((b + 27)) + (21 * j))) - 1)) (b + 5)) + 1)) (b + 6))) X hP hD hS rfl ⟨by first | (exfalso; omega) | skip; have h9 := blkOk.stop (x := pv) hM; (first | rw [if_pos (by omega : pv = 100)] at h9 | rw [if_neg (by omega : ¬ pv = 100)] at h9); (first | rw [if_pos (by omega : pv < 0)] at h9 | rw [if_neg (by omega : ¬ pv < 0)] at h9); (try simp only [Int.add_zero] at h9); rw [hLj] at h9; exact h9, ((((frOk.refl s b).zU (by omega) (by omega)).zU (by omega) (by omega)).zU (by omega) (by omega)).zU (by omega) (by omega), mid_lane _ _ _ _ _⟩ dX7_rests_114
        · refine lv_iconst (v := nZ 1) hX hB dX7_rests_107 rfl ?_
          refine lv_goto (tgt := 112) hX hB dX7_rests_108 (by decide) ?_
          refine zz_iadd X dX7_rests_112 (z := (((zU (zU (zU s (((((b + 27)) + (21 * j)) + 1) + r) pv) (((b + 27)) + (21 * j)) (((zU s (((((b + 27)) + (21 * j)) + 1) + r) pv) (((b + 27)) + (21 * j))) - 1)) (b + 5) (((zU (zU s (((((b + 27)) + (21 * j)) + 1) + r) pv) (((b + 27)) + (21 * j)) (((zU s (((((b + 27)) + (21 * j)) + 1) + r) pv) (((b + 27)) + (21 * j))) - 1)) (b + 5)) + 1)) (b + 6)) + 1)) (by first | rfl | omega) ?_
          refine zz_iast X hP hD hS 1 0 rfl rfl (b + 6) (by omega) (by omega) (by first | decide | omega) dX7_rests_113 (fun H locs hP hD hS => ?_)
          have hP : va_P D vwCl [(mm, .inr (7, [.ref ms, .int (nZ vsv), .ref mk, .ref mb, .int (nZ vty), .int (nZ vth), .int (nZ ven), .int (nZ vsp), .int (nZ vla), .int (nZ vpc)])), (ms, .inl (k 0, 900, .inl (zA (zU (zU (zU (zU s (((((b + 27)) + (21 * j)) + 1) + r) pv) (((b + 27)) + (21 * j)) (((zU s (((((b + 27)) + (21 * j)) + 1) + r) pv) (((b + 27)) + (21 * j))) - 1)) (b + 5) (((zU (zU s (((((b + 27)) + (21 * j)) + 1) + r) pv) (((b + 27)) + (21 * j)) (((zU s (((((b + 27)) + (21 * j)) + 1) + r) pv) (((b + 27)) + (21 * j))) - 1)) (b + 5)) + 1)) (b + 6) (((zU (zU (zU s (((((b + 27)) + (21 * j)) + 1) + r) pv) (((b + 27)) + (21 * j)) (((zU s (((((b + 27)) + (21 * j)) + 1) + r) pv) (((b + 27)) + (21 * j))) - 1)) (b + 5) (((zU (zU s (((((b + 27)) + (21 * j)) + 1) + r) pv) (((b + 27)) + (21 * j)) (((zU s (((((b + 27)) + (21 * j)) + 1) + r) pv) (((b + 27)) + (21 * j))) - 1)) (b + 5)) + 1)) (b + 6)) + 1)))))] H := hP
          have hD : va_D A [(mm, .inr (7, [.ref ms, .int (nZ vsv), .ref mk, .ref mb, .int (nZ vty), .int (nZ vth), .int (nZ ven), .int (nZ vsp), .int (nZ vla), .int (nZ vpc)])), (ms, .inl (k 0, 900, .inl (zA (zU (zU (zU (zU s (((((b + 27)) + (21 * j)) + 1) + r) pv) (((b + 27)) + (21 * j)) (((zU s (((((b + 27)) + (21 * j)) + 1) + r) pv) (((b + 27)) + (21 * j))) - 1)) (b + 5) (((zU (zU s (((((b + 27)) + (21 * j)) + 1) + r) pv) (((b + 27)) + (21 * j)) (((zU s (((((b + 27)) + (21 * j)) + 1) + r) pv) (((b + 27)) + (21 * j))) - 1)) (b + 5)) + 1)) (b + 6) (((zU (zU (zU s (((((b + 27)) + (21 * j)) + 1) + r) pv) (((b + 27)) + (21 * j)) (((zU s (((((b + 27)) + (21 * j)) + 1) + r) pv) (((b + 27)) + (21 * j))) - 1)) (b + 5) (((zU (zU s (((((b + 27)) + (21 * j)) + 1) + r) pv) (((b + 27)) + (21 * j)) (((zU s (((((b + 27)) + (21 * j)) + 1) + r) pv) (((b + 27)) + (21 * j))) - 1)) (b + 5)) + 1)) (b + 6)) + 1)))))] := hD
          exact zRetV (zU (zU (zU (zU s (((((b + 27)) + (21 * j)) + 1) + r) pv) (((b + 27)) + (21 * j)) (((zU s (((((b + 27)) + (21 * j)) + 1) + r) pv) (((b + 27)) + (21 * j))) - 1)) (b + 5) (((zU (zU s (((((b + 27)) + (21 * j)) + 1) + r) pv) (((b + 27)) + (21 * j)) (((zU s (((((b + 27)) + (21 * j)) + 1) + r) pv) (((b + 27)) + (21 * j))) - 1)) (b + 5)) + 1)) (b + 6) (((zU (zU (zU s (((((b + 27)) + (21 * j)) + 1) + r) pv) (((b + 27)) + (21 * j)) (((zU s (((((b + 27)) + (21 * j)) + 1) + r) pv) (((b + 27)) + (21 * j))) - 1)) (b + 5) (((zU (zU s (((((b + 27)) + (21 * j)) + 1) + r) pv) (((b + 27)) + (21 * j)) (((zU s (((((b + 27)) + (21 * j)) + 1) + r) pv) (((b + 27)) + (21 * j))) - 1)) (b + 5)) + 1)) (b + 6)) + 1)) X hP hD hS rfl ⟨by first | (exfalso; omega) | skip; have h9 := blkOk.stop (x := pv) hM; (first | rw [if_pos (by omega : pv = 100)] at h9 | rw [if_neg (by omega : ¬ pv = 100)] at h9); (first | rw [if_pos (by omega : pv < 0)] at h9 | rw [if_neg (by omega : ¬ pv < 0)] at h9); (try simp only [Int.add_zero] at h9); rw [hLj] at h9; exact h9, ((((frOk.refl s b).zU (by omega) (by omega)).zU (by omega) (by omega)).zU (by omega) (by omega)).zU (by omega) (by omega), mid_lane _ _ _ _ _⟩ dX7_rests_114
set_option maxHeartbeats 4000000 in
set_option maxRecDepth 100000 in
theorem c_X7_pushes (l : Launch) (D : va_G) (k : Nat → ClassId) (sz : Nat) (mm ms mk mb : Nat) (vsv vty vth ven vsp vla vpc : Int) (s : Nat → Int) (b j : Nat) (B : Bd) (st : Int) (hBk : blkOk s b B) (hbb : b ≤ 810) (hjj : j < 3) (hCh : chainS (-5) (B.2 j)) (hcost : 0 ≤ B.1 0 ∧ B.1 0 ≤ 20) (hst : 1 ≤ st ∧ st ≤ 150) : Met l yX7_pushes (zW yX7_pushes cX7_pushes 15 (some .int)) ({ frames := 3, cells := 0, slots := 0, locals := 71 } : Room) (va_Pc [.ref mm, .int (nZ ↑b), .int (nZ ↑j), .int (nZ st)] (zIn D k sz [(mm, .inr (7, [.ref ms, .int (nZ vsv), .ref mk, .ref mb, .int (nZ vty), .int (nZ vth), .int (nZ ven), .int (nZ vsp), .int (nZ vla), .int (nZ vpc)])), (ms, .inl (k 0, 900, .inl (zA s)))])) (va_Qi (fun (rz : Int32) (uz : (Nat → Int) × Int) => rz = nZ (nudS (B.1 0) st (B.2 j)) ∧ blkOk uz.1 b (push0 B j st) ∧ frOk s uz.1 b ∧ uz.2 = lastL (B.1 0) st (B.2 j)) (fun (uz : (Nat → Int) × Int) => zOut D (va_A [(mm, .inr (7, [.ref ms, .int (nZ vsv), .ref mk, .ref mb, .int (nZ vty), .int (nZ vth), .int (nZ ven), .int (nZ vsp), .int (nZ vla), .int (nZ vpc)])), (ms, .inl (k 0, 900, .inl (zA s)))] sz) [(mm, .inr (7, [.ref ms, .int (nZ vsv), .ref mk, .ref mb, .int (nZ vty), .int (nZ vth), .int (nZ uz.2), .int (nZ vsp), .int (nZ vla), .int (nZ vpc)])), (ms, .inl (k 0, 900, .inl (zA uz.1)))]) (va_A [(mm, .inr (7, [.ref ms, .int (nZ vsv), .ref mk, .ref mb, .int (nZ vty), .int (nZ vth), .int (nZ ven), .int (nZ vsp), .int (nZ vla), .int (nZ vpc)])), (ms, .inl (k 0, 900, .inl (zA s)))] sz)) 0 0 (va_A [(mm, .inr (7, [.ref ms, .int (nZ vsv), .ref mk, .ref mb, .int (nZ vty), .int (nZ vth), .int (nZ ven), .int (nZ vsp), .int (nZ vla), .int (nZ vpc)])), (ms, .inl (k 0, 900, .inl (zA s)))] sz) := by
  refine zEnter (Qf := fun A => va_Qi (fun (rz : Int32) (uz : (Nat → Int) × Int) => rz = nZ (nudS (B.1 0) st (B.2 j)) ∧ blkOk uz.1 b (push0 B j st) ∧ frOk s uz.1 b ∧ uz.2 = lastL (B.1 0) st (B.2 j)) (fun (uz : (Nat → Int) × Int) => zOut D A [(mm, .inr (7, [.ref ms, .int (nZ vsv), .ref mk, .ref mb, .int (nZ vty), .int (nZ vth), .int (nZ uz.2), .int (nZ vsp), .int (nZ vla), .int (nZ vpc)])), (ms, .inl (k 0, 900, .inl (zA uz.1)))]) A) RX7 (by decide) rfl (Nat.le_of_ble_eq_true rfl) ?_
  intro p9 e9 s9 m9 be9 me9 c9 ls A X hin hP hD hS hA hAe hl
  have hX := X.1; have hB := X.2.1; have hz := X.2.2.2.2.1; have hW := X.2.2.2.2.2.1; have hK := X.2.2.2.2.2.2.2; clear hAe
  clear hin
  have hl : lv_has ls 15 [(0, .ref mm), (1, .int (nZ ↑b)), (2, .int (nZ ↑j)), (3, .int (nZ st))] := hl
  have hl9 := hBk.len hjj
  have hLB : B.2 j = (B.2 j) := rfl
  have hco0 := hBk.coin hjj 0
  have hc1 := coin0_lt hCh
  refine lv_iconst (v := nZ (-1)) hX hB dX7_pushes_0 rfl ?_
  refine lv_istore (lv' := [(4, .int (nZ (-1))), (0, .ref mm), (1, .int (nZ ↑b)), (2, .int (nZ ↑j)), (3, .int (nZ st))]) hX hB dX7_pushes_1 hl (by decide) rfl (fun ls hl => ?_)
  refine lv_iconst (v := nZ 0) hX hB dX7_pushes_3 rfl ?_
  refine lv_istore (lv' := [(5, .int (nZ 0)), (4, .int (nZ (-1))), (0, .ref mm), (1, .int (nZ ↑b)), (2, .int (nZ ↑j)), (3, .int (nZ st))]) hX hB dX7_pushes_4 hl (by decide) rfl (fun ls hl => ?_)
  refine lv_bipush (v := nZ (-5)) hX hB dX7_pushes_6 (by decide) ?_
  refine lv_istore (lv' := [(6, .int (nZ (-5))), (5, .int (nZ 0)), (4, .int (nZ (-1))), (0, .ref mm), (1, .int (nZ ↑b)), (2, .int (nZ ↑j)), (3, .int (nZ st))]) hX hB dX7_pushes_8 hl (by decide) rfl (fun ls hl => ?_)
  refine lv_iload_n hX hB dX7_pushes_10 rfl (lv_at hl 6 rfl) ?_
  refine lv_istore (lv' := [(7, .int (nZ st)), (6, .int (nZ (-5))), (5, .int (nZ 0)), (4, .int (nZ (-1))), (0, .ref mm), (1, .int (nZ ↑b)), (2, .int (nZ ↑j)), (3, .int (nZ st))]) hX hB dX7_pushes_11 hl (by decide) rfl (fun ls hl => ?_)
  refine lv_iconst (v := nZ 0) hX hB dX7_pushes_13 rfl ?_
  refine lv_istore (lv' := [(8, .int (nZ 0)), (7, .int (nZ st)), (6, .int (nZ (-5))), (5, .int (nZ 0)), (4, .int (nZ (-1))), (0, .ref mm), (1, .int (nZ ↑b)), (2, .int (nZ ↑j)), (3, .int (nZ st))]) hX hB dX7_pushes_14 hl (by decide) rfl (fun ls hl => ?_)
  refine lv_iconst (v := nZ 1) hX hB dX7_pushes_16 rfl ?_
  refine lv_istore (lv' := [(9, .int (nZ 1)), (8, .int (nZ 0)), (7, .int (nZ st)), (6, .int (nZ (-5))), (5, .int (nZ 0)), (4, .int (nZ (-1))), (0, .ref mm), (1, .int (nZ ↑b)), (2, .int (nZ ↑j)), (3, .int (nZ st))]) hX hB dX7_pushes_17 hl (by decide) rfl (fun ls hl => ?_)
  refine lv_iload hX hB dX7_pushes_19 (lv_at hl 0 rfl) ?_
  refine zz_if_eq X (tgt := 205) dX7_pushes_21 (by decide) ⟨by omega, by omega⟩ (fun c_21 => ?_) (fun c_21 => ?_)
  · exfalso; omega
  · refine lv_aload_n hX hB dX7_pushes_24 rfl (lv_at hl 6 rfl) ?_
    refine lv_iload_n hX hB dX7_pushes_25 rfl (lv_at hl 7 rfl) ?_
    refine lv_iload_n hX hB dX7_pushes_26 rfl (lv_at hl 8 rfl) ?_
    refine lv_iload hX hB dX7_pushes_27 (lv_at hl 5 rfl) ?_
    refine lv_iconst (v := nZ 1) hX hB dX7_pushes_29 rfl ?_
    refine zz_iadd X dX7_pushes_30 (z := 0) (by first | rfl | omega) ?_
    refine zCallI0 (zRunV (As := [.int (nZ ↑b), .int (nZ ↑j), .int (nZ 0)]) X mv_X7_coinAt (c_X7_coinAt l D k _ mm ms mk mb vsv vty vth ven vsp vla vpc s b j B 0 (B.2 j) hBk hbb hjj hLB (by first | assumption | omega | exact ⟨by omega, by omega⟩)) zw_268 (zPreV hP hD hK [0, 1] rfl rfl 0 7 rfl rfl rfl) rfl hl (Nat.le_of_ble_eq_true rfl) dX7_pushes_31 ⟨rfl, rfl, ⟨Nat.le_of_ble_eq_true rfl, Nat.le_of_ble_eq_true rfl⟩, Nat.le_of_ble_eq_true rfl, Nat.le_of_ble_eq_true rfl⟩ rfl) hS hP hD hA [0, 1] rfl (fun _ => rfl) (fun r_31 u_31 H locs hq_31 hP hD hS => ?_)
    subst hq_31
    have hP : va_P D vwCl [(mm, .inr (7, [.ref ms, .int (nZ vsv), .ref mk, .ref mb, .int (nZ vty), .int (nZ vth), .int (nZ ven), .int (nZ vsp), .int (nZ vla), .int (nZ vpc)])), (ms, .inl (k 0, 900, .inl (zA s)))] H := hP
    have hD : va_D A [(mm, .inr (7, [.ref ms, .int (nZ vsv), .ref mk, .ref mb, .int (nZ vty), .int (nZ vth), .int (nZ ven), .int (nZ vsp), .int (nZ vla), .int (nZ vpc)])), (ms, .inl (k 0, 900, .inl (zA s)))] := hD
    refine lv_istore (lv' := [(10, .int (nZ (coinS (B.2 j) 0))), (9, .int (nZ 1)), (8, .int (nZ 0)), (7, .int (nZ st)), (6, .int (nZ (-5))), (5, .int (nZ 0)), (4, .int (nZ (-1))), (0, .ref mm), (1, .int (nZ ↑b)), (2, .int (nZ ↑j)), (3, .int (nZ st))]) hX hB dX7_pushes_34 hl (by decide) rfl (fun ls hl => ?_)
    refine lv_iload hX hB dX7_pushes_36 (lv_at hl 0 rfl) ?_
    refine lv_iconst (v := nZ 5) hX hB dX7_pushes_38 rfl ?_
    refine zz_isub X dX7_pushes_39 (z := ((coinS (B.2 j) 0) - 5)) (by first | rfl | omega) ?_
    refine lv_iload hX hB dX7_pushes_40 (lv_at hl 4 rfl) ?_
    refine zz_isub X dX7_pushes_42 (z := (((coinS (B.2 j) 0) - 5) - (-5))) (by first | rfl | omega) ?_
    refine lv_istore (lv' := [(11, .int (nZ (((coinS (B.2 j) 0) - 5) - (-5)))), (10, .int (nZ (coinS (B.2 j) 0))), (9, .int (nZ 1)), (8, .int (nZ 0)), (7, .int (nZ st)), (6, .int (nZ (-5))), (5, .int (nZ 0)), (4, .int (nZ (-1))), (0, .ref mm), (1, .int (nZ ↑b)), (2, .int (nZ ↑j)), (3, .int (nZ st))]) hX hB dX7_pushes_43 hl (by decide) rfl (fun ls hl => ?_)
    refine lv_iload hX hB dX7_pushes_45 (lv_at hl 4 rfl) ?_
    refine lv_iload hX hB dX7_pushes_47 (lv_at hl 0 rfl) ?_
    refine zz_icmp_gt X (tgt := 56) dX7_pushes_49 (by decide) ⟨by omega, by omega⟩ ⟨by omega, by omega⟩ (fun c_49 => ?_) (fun c_49 => ?_)
    · refine lv_iconst (v := nZ 0) hX hB dX7_pushes_56 rfl ?_
      refine lv_istore (lv' := [(12, .int (nZ 0)), (11, .int (nZ (((coinS (B.2 j) 0) - 5) - (-5)))), (10, .int (nZ (coinS (B.2 j) 0))), (9, .int (nZ 1)), (8, .int (nZ 0)), (7, .int (nZ st)), (6, .int (nZ (-5))), (5, .int (nZ 0)), (4, .int (nZ (-1))), (0, .ref mm), (1, .int (nZ ↑b)), (2, .int (nZ ↑j)), (3, .int (nZ st))]) hX hB dX7_pushes_57 hl (by decide) rfl (fun ls hl => ?_)
      refine lv_iload hX hB dX7_pushes_59 (lv_at hl 6 rfl) ?_
      refine lv_iload hX hB dX7_pushes_61 (lv_at hl 0 rfl) ?_
      refine zz_if_eq X (tgt := 71) dX7_pushes_63 (by decide) ⟨by omega, by omega⟩ (fun c_63 => ?_) (fun c_63 => ?_)
      · refine lv_iload hX hB dX7_pushes_71 (lv_at hl 1 rfl) ?_
        refine zz_iadd X dX7_pushes_73 (z := ((-5) + (((coinS (B.2 j) 0) - 5) - (-5)))) (by first | rfl | omega) ?_
        refine lv_istore (lv' := [(13, .int (nZ ((-5) + (((coinS (B.2 j) 0) - 5) - (-5))))), (12, .int (nZ 0)), (11, .int (nZ (((coinS (B.2 j) 0) - 5) - (-5)))), (10, .int (nZ (coinS (B.2 j) 0))), (9, .int (nZ 1)), (8, .int (nZ 0)), (7, .int (nZ st)), (6, .int (nZ (-5))), (5, .int (nZ 0)), (4, .int (nZ (-1))), (0, .ref mm), (1, .int (nZ ↑b)), (2, .int (nZ ↑j)), (3, .int (nZ st))]) hX hB dX7_pushes_74 hl (by decide) rfl (fun ls hl => ?_)
        refine lv_iload hX hB dX7_pushes_76 (lv_at hl 0 rfl) ?_
        refine lv_bipush (v := nZ 100) hX hB dX7_pushes_78 (by decide) ?_
        refine zz_icmp_le X (tgt := 88) dX7_pushes_80 (by decide) ⟨by omega, by omega⟩ ⟨by omega, by omega⟩ (fun c_80 => ?_) (fun c_80 => ?_)
        · refine lv_iload hX hB dX7_pushes_88 (lv_at hl 0 rfl) ?_
          refine lv_istore (lv' := [(6, .int (nZ ((-5) + (((coinS (B.2 j) 0) - 5) - (-5))))), (13, .int (nZ ((-5) + (((coinS (B.2 j) 0) - 5) - (-5))))), (12, .int (nZ 0)), (11, .int (nZ (((coinS (B.2 j) 0) - 5) - (-5)))), (10, .int (nZ (coinS (B.2 j) 0))), (9, .int (nZ 1)), (8, .int (nZ 0)), (7, .int (nZ st)), (5, .int (nZ 0)), (4, .int (nZ (-1))), (0, .ref mm), (1, .int (nZ ↑b)), (2, .int (nZ ↑j)), (3, .int (nZ st))]) hX hB dX7_pushes_90 hl (by decide) rfl (fun ls hl => ?_)
          refine lv_aload_n hX hB dX7_pushes_92 rfl (lv_at hl 10 rfl) ?_
          refine va_get hX hB hz inlX7 hW hK.1 hP 0 rfl rfl 0 (by decide) (hz _ zw_74) (fun _ h9 => h9) rfl dX7_pushes_93 ?_
          refine lv_iload_n hX hB dX7_pushes_96 rfl (lv_at hl 11 rfl) ?_
          refine lv_iload_n hX hB dX7_pushes_97 rfl (lv_at hl 12 rfl) ?_
          refine zCallI0 (zRunS X ms_X7_laneAt (c_X7_laneAt l D k _ b j ) zw_272 (zPreS hP hD hK [] rfl rfl) rfl hl (Nat.le_of_ble_eq_true rfl) dX7_pushes_98 ⟨rfl, rfl, ⟨Nat.le_of_ble_eq_true rfl, Nat.le_of_ble_eq_true rfl⟩, Nat.le_of_ble_eq_true rfl, Nat.le_of_ble_eq_true rfl⟩ rfl) hS hP hD hA [] rfl (fun _ => rfl) (fun r_98 u_98 H locs hq_98 hP hD hS => ?_)
          subst hq_98
          have hP : va_P D vwCl [(mm, .inr (7, [.ref ms, .int (nZ vsv), .ref mk, .ref mb, .int (nZ vty), .int (nZ vth), .int (nZ ven), .int (nZ vsp), .int (nZ vla), .int (nZ vpc)])), (ms, .inl (k 0, 900, .inl (zA s)))] H := hP
          have hD : va_D A [(mm, .inr (7, [.ref ms, .int (nZ vsv), .ref mk, .ref mb, .int (nZ vty), .int (nZ vth), .int (nZ ven), .int (nZ vsp), .int (nZ vla), .int (nZ vpc)])), (ms, .inl (k 0, 900, .inl (zA s)))] := hD
          refine zz_iald X hP 1 0 rfl rfl (((b + 27)) + (21 * j)) (by omega) (by omega) (by first | decide | omega) dX7_pushes_101 ?_
          refine lv_istore (lv' := [(14, .int (nZ (s (((b + 27)) + (21 * j))))), (6, .int (nZ ((-5) + (((coinS (B.2 j) 0) - 5) - (-5))))), (13, .int (nZ ((-5) + (((coinS (B.2 j) 0) - 5) - (-5))))), (12, .int (nZ 0)), (11, .int (nZ (((coinS (B.2 j) 0) - 5) - (-5)))), (10, .int (nZ (coinS (B.2 j) 0))), (9, .int (nZ 1)), (8, .int (nZ 0)), (7, .int (nZ st)), (5, .int (nZ 0)), (4, .int (nZ (-1))), (0, .ref mm), (1, .int (nZ ↑b)), (2, .int (nZ ↑j)), (3, .int (nZ st))]) hX hB dX7_pushes_102 hl (by decide) rfl (fun ls hl => ?_)
          refine lv_aload_n hX hB dX7_pushes_104 rfl (lv_at hl 11 rfl) ?_
          refine lv_iload_n hX hB dX7_pushes_105 rfl (lv_at hl 12 rfl) ?_
          refine lv_iload_n hX hB dX7_pushes_106 rfl (lv_at hl 13 rfl) ?_
          refine lv_iload hX hB dX7_pushes_107 (lv_at hl 10 rfl) ?_
          refine lv_iload hX hB dX7_pushes_109 (lv_at hl 1 rfl) ?_
          refine zCallV0 (zRunV (As := [.int (nZ ↑b), .int (nZ ↑j), .int (nZ (-1)), .int (nZ ((-5) + (((coinS (B.2 j) 0) - 5) - (-5))))]) X mv_X7_rests (c_X7_rests_n l D k _ mm ms mk mb vsv vty vth ven vsp vla vpc s b j B ((-5) + (((coinS (B.2 j) 0) - 5) - (-5))) (B.2 j) hBk hbb hjj hLB (by first | assumption | omega | exact ⟨by omega, by omega⟩) (by first | exact first_19 hCh (by omega) | assumption)) zw_275 (zPreV hP hD hK [0, 1] rfl rfl 0 7 rfl rfl rfl) rfl hl (Nat.le_of_ble_eq_true rfl) dX7_pushes_111 ⟨rfl, rfl, ⟨Nat.le_of_ble_eq_true rfl, Nat.le_of_ble_eq_true rfl⟩, Nat.le_of_ble_eq_true rfl, Nat.le_of_ble_eq_true rfl⟩ rfl) hS hP hD hA [0, 1] rfl (fun _ => rfl) (fun u_111 H locs hq_111 hP hD hS => ?_)
          obtain ⟨s2_111, e9⟩ : ∃ z9, z9 = u_111 := ⟨_, rfl⟩; subst e9
          obtain ⟨hB2_111, hf2_111, hm2_111⟩ := hq_111
          try dsimp only at hB2_111 hf2_111 hm2_111
          have hP : va_P D vwCl [(mm, .inr (7, [.ref ms, .int (nZ vsv), .ref mk, .ref mb, .int (nZ vty), .int (nZ vth), .int (nZ ven), .int (nZ vsp), .int (nZ vla), .int (nZ vpc)])), (ms, .inl (k 0, 900, .inl (zA s2_111)))] H := hP
          have hD : va_D A [(mm, .inr (7, [.ref ms, .int (nZ vsv), .ref mk, .ref mb, .int (nZ vty), .int (nZ vth), .int (nZ ven), .int (nZ vsp), .int (nZ vla), .int (nZ vpc)])), (ms, .inl (k 0, 900, .inl (zA s2_111)))] := hD
          have hl8 := hB2_111.len hjj
          rw [hm2_111] at hl8
          have hc0 : s2_111 (b + 0) = B.1 0 := hB2_111.num (k := 0) (by omega)
          refine lv_iload hX hB dX7_pushes_114 (lv_at hl 10 rfl) ?_
          refine lv_iconst (v := nZ (-1)) hX hB dX7_pushes_116 rfl ?_
          refine zz_icmp_ne X (tgt := 139) dX7_pushes_117 (by decide) ⟨by omega, by omega⟩ ⟨by omega, by omega⟩ (fun c_117 => ?_) (fun c_117 => ?_)
          · exfalso; omega
          · refine lv_aload_n hX hB dX7_pushes_120 rfl (lv_at hl 11 rfl) ?_
            refine va_get hX hB hz inlX7 hW hK.1 hP 0 rfl rfl 0 (by decide) (hz _ zw_74) (fun _ h9 => h9) rfl dX7_pushes_121 ?_
            refine lv_iload_n hX hB dX7_pushes_124 rfl (lv_at hl 12 rfl) ?_
            refine lv_iload_n hX hB dX7_pushes_125 rfl (lv_at hl 13 rfl) ?_
            refine zCallI0 (zRunS X ms_X7_laneAt (c_X7_laneAt l D k _ b j ) zw_272 (zPreS hP hD hK [] rfl rfl) rfl hl (Nat.le_of_ble_eq_true rfl) dX7_pushes_126 ⟨rfl, rfl, ⟨Nat.le_of_ble_eq_true rfl, Nat.le_of_ble_eq_true rfl⟩, Nat.le_of_ble_eq_true rfl, Nat.le_of_ble_eq_true rfl⟩ rfl) hS hP hD hA [] rfl (fun _ => rfl) (fun r_126 u_126 H locs hq_126 hP hD hS => ?_)
            subst hq_126
            have hP : va_P D vwCl [(mm, .inr (7, [.ref ms, .int (nZ vsv), .ref mk, .ref mb, .int (nZ vty), .int (nZ vth), .int (nZ ven), .int (nZ vsp), .int (nZ vla), .int (nZ vpc)])), (ms, .inl (k 0, 900, .inl (zA s2_111)))] H := hP
            have hD : va_D A [(mm, .inr (7, [.ref ms, .int (nZ vsv), .ref mk, .ref mb, .int (nZ vty), .int (nZ vth), .int (nZ ven), .int (nZ vsp), .int (nZ vla), .int (nZ vpc)])), (ms, .inl (k 0, 900, .inl (zA s2_111)))] := hD
            refine zz_iald X hP 1 0 rfl rfl (((b + 27)) + (21 * j)) (by omega) (by omega) (by first | decide | omega) dX7_pushes_129 ?_
            refine lv_iload hX hB dX7_pushes_130 (lv_at hl 0 rfl) ?_
            refine zz_icmp_le X (tgt := 139) dX7_pushes_132 (by decide) ⟨by omega, by omega⟩ ⟨by omega, by omega⟩ (fun c_132 => ?_) (fun c_132 => ?_)
            · refine lv_iconst (v := nZ 0) hX hB dX7_pushes_139 rfl ?_
              refine lv_istore (lv' := [(5, .int (nZ 0)), (14, .int (nZ (s (((b + 27)) + (21 * j))))), (6, .int (nZ ((-5) + (((coinS (B.2 j) 0) - 5) - (-5))))), (13, .int (nZ ((-5) + (((coinS (B.2 j) 0) - 5) - (-5))))), (12, .int (nZ 0)), (11, .int (nZ (((coinS (B.2 j) 0) - 5) - (-5)))), (10, .int (nZ (coinS (B.2 j) 0))), (9, .int (nZ 1)), (8, .int (nZ 0)), (7, .int (nZ st)), (4, .int (nZ (-1))), (0, .ref mm), (1, .int (nZ ↑b)), (2, .int (nZ ↑j)), (3, .int (nZ st))]) hX hB dX7_pushes_140 hl (by decide) rfl (fun ls hl => ?_)
              refine lv_iload hX hB dX7_pushes_142 (lv_at hl 4 rfl) ?_
              refine zz_if_ne X (tgt := 185) dX7_pushes_144 (by decide) ⟨by omega, by omega⟩ (fun c_144 => ?_) (fun c_144 => ?_)
              · exfalso; omega
              · refine lv_iinc (v := nZ 1) (lv' := [(8, .int (nZ 1)), (5, .int (nZ 0)), (14, .int (nZ (s (((b + 27)) + (21 * j))))), (6, .int (nZ ((-5) + (((coinS (B.2 j) 0) - 5) - (-5))))), (13, .int (nZ ((-5) + (((coinS (B.2 j) 0) - 5) - (-5))))), (12, .int (nZ 0)), (11, .int (nZ (((coinS (B.2 j) 0) - 5) - (-5)))), (10, .int (nZ (coinS (B.2 j) 0))), (9, .int (nZ 1)), (7, .int (nZ st)), (4, .int (nZ (-1))), (0, .ref mm), (1, .int (nZ ↑b)), (2, .int (nZ ↑j)), (3, .int (nZ st))]) hX hB dX7_pushes_147 hl (k := 8) rfl (zinc (by omega)) (by decide) rfl (fun ls hl => ?_)
                refine lv_iload hX hB dX7_pushes_150 (lv_at hl 9 rfl) ?_
                refine lv_iload hX hB dX7_pushes_152 (lv_at hl 6 rfl) ?_
                refine lv_aload_n hX hB dX7_pushes_154 rfl (lv_at hl 11 rfl) ?_
                refine va_get hX hB hz inlX7 hW hK.1 hP 0 rfl rfl 0 (by decide) (hz _ zw_74) (fun _ h9 => h9) rfl dX7_pushes_155 ?_
                refine lv_iload_n hX hB dX7_pushes_158 rfl (lv_at hl 12 rfl) ?_
                refine lv_iconst (v := nZ 0) hX hB dX7_pushes_159 rfl ?_
                refine zz_iadd X dX7_pushes_160 (z := (↑(b + 0) : Int)) (by first | rfl | omega) ?_
                refine zz_iald X hP 1 0 rfl rfl (b + 0) (by omega) (by omega) (by first | decide | omega) dX7_pushes_161 ?_
                refine zz_iadd X dX7_pushes_162 (z := ((((coinS (B.2 j) 0) - 5) - (-5)) + (s2_111 (b + 0)))) (by first | rfl | omega) ?_
                refine zz_isub X dX7_pushes_163 (z := (st - ((((coinS (B.2 j) 0) - 5) - (-5)) + (s2_111 (b + 0))))) (by first | rfl | omega) ?_
                refine lv_istore (lv' := [(7, .int (nZ (st - ((((coinS (B.2 j) 0) - 5) - (-5)) + (s2_111 (b + 0)))))), (8, .int (nZ 1)), (5, .int (nZ 0)), (14, .int (nZ (s (((b + 27)) + (21 * j))))), (6, .int (nZ ((-5) + (((coinS (B.2 j) 0) - 5) - (-5))))), (13, .int (nZ ((-5) + (((coinS (B.2 j) 0) - 5) - (-5))))), (12, .int (nZ 0)), (11, .int (nZ (((coinS (B.2 j) 0) - 5) - (-5)))), (10, .int (nZ (coinS (B.2 j) 0))), (9, .int (nZ 1)), (4, .int (nZ (-1))), (0, .ref mm), (1, .int (nZ ↑b)), (2, .int (nZ ↑j)), (3, .int (nZ st))]) hX hB dX7_pushes_164 hl (by decide) rfl (fun ls hl => ?_)
                refine lv_iload hX hB dX7_pushes_166 (lv_at hl 10 rfl) ?_
                refine lv_iconst (v := nZ 1) hX hB dX7_pushes_168 rfl ?_
                refine lv_iload hX hB dX7_pushes_169 (lv_at hl 2 rfl) ?_
                refine zz_iadd X dX7_pushes_171 (z := 1) (by first | rfl | omega) ?_
                refine zz_iadd X dX7_pushes_172 (z := 0) (by first | rfl | omega) ?_
                refine lv_istore (lv' := [(4, .int (nZ 0)), (7, .int (nZ (st - ((((coinS (B.2 j) 0) - 5) - (-5)) + (s2_111 (b + 0)))))), (8, .int (nZ 1)), (5, .int (nZ 0)), (14, .int (nZ (s (((b + 27)) + (21 * j))))), (6, .int (nZ ((-5) + (((coinS (B.2 j) 0) - 5) - (-5))))), (13, .int (nZ ((-5) + (((coinS (B.2 j) 0) - 5) - (-5))))), (12, .int (nZ 0)), (11, .int (nZ (((coinS (B.2 j) 0) - 5) - (-5)))), (10, .int (nZ (coinS (B.2 j) 0))), (9, .int (nZ 1)), (0, .ref mm), (1, .int (nZ ↑b)), (2, .int (nZ ↑j)), (3, .int (nZ st))]) hX hB dX7_pushes_173 hl (by decide) rfl (fun ls hl => ?_)
                refine lv_aload_n hX hB dX7_pushes_175 rfl (lv_at hl 11 rfl) ?_
                refine lv_iload_n hX hB dX7_pushes_176 rfl (lv_at hl 12 rfl) ?_
                refine lv_iload_n hX hB dX7_pushes_177 rfl (lv_at hl 13 rfl) ?_
                refine lv_iload hX hB dX7_pushes_178 (lv_at hl 0 rfl) ?_
                refine zCallI0 (zRunV (As := [.int (nZ ↑b), .int (nZ ↑j), .int (nZ 0)]) X mv_X7_coinAt (c_X7_coinAt l D k _ mm ms mk mb vsv vty vth ven vsp vla vpc s2_111 b j (stopB B j (stopN (B.2 j) ((-5) + (((coinS (B.2 j) 0) - 5) - (-5)))) ((-5) + (((coinS (B.2 j) 0) - 5) - (-5)))) 0 (stopN (B.2 j) ((-5) + (((coinS (B.2 j) 0) - 5) - (-5)))) hB2_111 hbb hjj hm2_111 (by first | assumption | omega | exact ⟨by omega, by omega⟩)) zw_268 (zPreV hP hD hK [0, 1] rfl rfl 0 7 rfl rfl rfl) rfl hl (Nat.le_of_ble_eq_true rfl) dX7_pushes_180 ⟨rfl, rfl, ⟨Nat.le_of_ble_eq_true rfl, Nat.le_of_ble_eq_true rfl⟩, Nat.le_of_ble_eq_true rfl, Nat.le_of_ble_eq_true rfl⟩ rfl) hS hP hD hA [0, 1] rfl (fun _ => rfl) (fun r_180 u_180 H locs hq_180 hP hD hS => ?_)
                subst hq_180
                have hP : va_P D vwCl [(mm, .inr (7, [.ref ms, .int (nZ vsv), .ref mk, .ref mb, .int (nZ vty), .int (nZ vth), .int (nZ ven), .int (nZ vsp), .int (nZ vla), .int (nZ vpc)])), (ms, .inl (k 0, 900, .inl (zA s2_111)))] H := hP
                have hD : va_D A [(mm, .inr (7, [.ref ms, .int (nZ vsv), .ref mk, .ref mb, .int (nZ vty), .int (nZ vth), .int (nZ ven), .int (nZ vsp), .int (nZ vla), .int (nZ vpc)])), (ms, .inl (k 0, 900, .inl (zA s2_111)))] := hD
                refine lv_istore (lv' := [(6, .int (nZ (coinS (stopN (B.2 j) ((-5) + (((coinS (B.2 j) 0) - 5) - (-5)))) 0))), (4, .int (nZ 0)), (7, .int (nZ (st - ((((coinS (B.2 j) 0) - 5) - (-5)) + (s2_111 (b + 0)))))), (8, .int (nZ 1)), (5, .int (nZ 0)), (14, .int (nZ (s (((b + 27)) + (21 * j))))), (13, .int (nZ ((-5) + (((coinS (B.2 j) 0) - 5) - (-5))))), (12, .int (nZ 0)), (11, .int (nZ (((coinS (B.2 j) 0) - 5) - (-5)))), (10, .int (nZ (coinS (B.2 j) 0))), (9, .int (nZ 1)), (0, .ref mm), (1, .int (nZ ↑b)), (2, .int (nZ ↑j)), (3, .int (nZ st))]) hX hB dX7_pushes_183 hl (by decide) rfl (fun ls hl => ?_)
                have hn9 := stopN_le (L := B.2 j) (x := ((-5) + (((coinS (B.2 j) 0) - 5) - (-5)))) (by omega)
                have hJ : pushI (B.1 0) st (B.2 j) (stopN (B.2 j) ((-5) + (((coinS (B.2 j) 0) - 5) - (-5)))) 0 (coinS (stopN (B.2 j) ((-5) + (((coinS (B.2 j) 0) - 5) - (-5)))) 0) (st - ((((coinS (B.2 j) 0) - 5) - (-5)) + (s2_111 (b + 0)))) 1 (if ((-5) + (((coinS (B.2 j) 0) - 5) - (-5))) < 0 then 1 else 0) := pushI_first hCh hcost.1 hst.2 (by omega) (by omega) (by first | rw [if_pos (by omega)] | rw [if_neg (by omega)]) (by rfl) (by omega)
                refine lv_iload hX hB dX7_pushes_185 (lv_at hl 7 rfl) ?_
                refine zz_if_ne X (tgt := 199) dX7_pushes_187 (by decide) ⟨by omega, by omega⟩ (fun c_187 => ?_) (fun c_187 => ?_)
                · exfalso; omega
                · refine lv_iload hX hB dX7_pushes_190 (lv_at hl 2 rfl) ?_
                  refine zz_if_le X (tgt := 199) dX7_pushes_192 (by decide) ⟨by omega, by omega⟩ (fun c_192 => ?_) (fun c_192 => ?_)
                  · refine lv_iconst (v := nZ 0) hX hB dX7_pushes_199 rfl ?_
                    refine lv_istore (lv' := [(9, .int (nZ 0)), (6, .int (nZ (coinS (stopN (B.2 j) ((-5) + (((coinS (B.2 j) 0) - 5) - (-5)))) 0))), (4, .int (nZ 0)), (7, .int (nZ (st - ((((coinS (B.2 j) 0) - 5) - (-5)) + (s2_111 (b + 0)))))), (8, .int (nZ 1)), (5, .int (nZ 0)), (14, .int (nZ (s (((b + 27)) + (21 * j))))), (13, .int (nZ ((-5) + (((coinS (B.2 j) 0) - 5) - (-5))))), (12, .int (nZ 0)), (11, .int (nZ (((coinS (B.2 j) 0) - 5) - (-5)))), (10, .int (nZ (coinS (B.2 j) 0))), (0, .ref mm), (1, .int (nZ ↑b)), (2, .int (nZ ↑j)), (3, .int (nZ st))]) hX hB dX7_pushes_200 hl (by decide) rfl (fun ls hl => ?_)
                    refine lv_goto (tgt := 19) hX hB dX7_pushes_202 (by decide) ?_
                    refine lv_iload hX hB dX7_pushes_19 (lv_at hl 0 rfl) ?_
                    refine zz_if_eq X (tgt := 205) dX7_pushes_21 (by decide) ⟨by omega, by omega⟩ (fun c_21_2 => ?_) (fun c_21_2 => ?_)
                    · have hQ : blkOk s2_111 b (midB B j (stopN (B.2 j) ((-5) + (((coinS (B.2 j) 0) - 5) - (-5)))) (B.1 5) (B.1 6 + (if ((-5) + (((coinS (B.2 j) 0) - 5) - (-5))) < 0 then 1 else 0))) := by (have h9 := hB2_111; unfold stopB at h9; rw [if_neg (by omega : ¬ ((-5) + (((coinS (B.2 j) 0) - 5) - (-5))) = 100), Int.add_zero] at h9; exact h9)
                      have hF1 := hf2_111
                      have hD9 := pushI_done hJ (by omega)
                      have hE := push_end hQ hD9 (by omega) rfl
                      refine lv_aload_n hX hB dX7_pushes_205 rfl (lv_at hl 11 rfl) ?_
                      refine lv_iload hX hB dX7_pushes_206 (lv_at hl 1 rfl) ?_
                      refine va_put (v := .int (nZ (coinS (stopN (B.2 j) ((-5) + (((coinS (B.2 j) 0) - 5) - (-5)))) 0))) (ty := tyX7 6) hX hB hz inlX7 tyX7 tyX7_ok nmX7 hW hK.1 hP hD hS 0 rfl rfl 6 (by decide) (hz _ zw_267) (fun _ h9 => h9) rfl (by decide +kernel) rfl rfl (Nat.le_of_ble_eq_true rfl) dX7_pushes_208 (fun H locs hP hD hS => ?_)
                      have hP : va_P D vwCl [(mm, .inr (7, [.ref ms, .int (nZ vsv), .ref mk, .ref mb, .int (nZ vty), .int (nZ vth), .int (nZ (coinS (stopN (B.2 j) ((-5) + (((coinS (B.2 j) 0) - 5) - (-5)))) 0)), .int (nZ vsp), .int (nZ vla), .int (nZ vpc)])), (ms, .inl (k 0, 900, .inl (zA s2_111)))] H := hP
                      have hD : va_D A [(mm, .inr (7, [.ref ms, .int (nZ vsv), .ref mk, .ref mb, .int (nZ vty), .int (nZ vth), .int (nZ (coinS (stopN (B.2 j) ((-5) + (((coinS (B.2 j) 0) - 5) - (-5)))) 0)), .int (nZ vsp), .int (nZ vla), .int (nZ vpc)])), (ms, .inl (k 0, 900, .inl (zA s2_111)))] := hD
                      refine lv_aload_n hX hB dX7_pushes_211 rfl (lv_at hl 11 rfl) ?_
                      refine va_get hX hB hz inlX7 hW hK.1 hP 0 rfl rfl 0 (by decide) (hz _ zw_74) (fun _ h9 => h9) rfl dX7_pushes_212 ?_
                      refine lv_iload_n hX hB dX7_pushes_215 rfl (lv_at hl 12 rfl) ?_
                      refine lv_bipush (v := nZ 7) hX hB dX7_pushes_216 (by decide) ?_
                      refine zz_iadd X dX7_pushes_218 (z := (↑(b + 7) : Int)) (by first | rfl | omega) ?_
                      refine lv_dup2_11 hX hB dX7_pushes_219 rfl rfl ?_
                      refine zz_iald X hP 1 0 rfl rfl (b + 7) (by omega) (by omega) (by first | decide | omega) dX7_pushes_220 ?_
                      refine lv_iload hX hB dX7_pushes_221 (lv_at hl 4 rfl) ?_
                      refine zz_iadd X dX7_pushes_223 (z := ((s2_111 (b + 7)) + 1)) (by first | rfl | omega) ?_
                      refine zz_iast X hP hD hS 1 0 rfl rfl (b + 7) (by omega) (by omega) (by first | decide | omega) dX7_pushes_224 (fun H locs hP hD hS => ?_)
                      have hP : va_P D vwCl [(mm, .inr (7, [.ref ms, .int (nZ vsv), .ref mk, .ref mb, .int (nZ vty), .int (nZ vth), .int (nZ (coinS (stopN (B.2 j) ((-5) + (((coinS (B.2 j) 0) - 5) - (-5)))) 0)), .int (nZ vsp), .int (nZ vla), .int (nZ vpc)])), (ms, .inl (k 0, 900, .inl (zA (zU s2_111 (b + 7) ((s2_111 (b + 7)) + 1)))))] H := hP
                      have hD : va_D A [(mm, .inr (7, [.ref ms, .int (nZ vsv), .ref mk, .ref mb, .int (nZ vty), .int (nZ vth), .int (nZ (coinS (stopN (B.2 j) ((-5) + (((coinS (B.2 j) 0) - 5) - (-5)))) 0)), .int (nZ vsp), .int (nZ vla), .int (nZ vpc)])), (ms, .inl (k 0, 900, .inl (zA (zU s2_111 (b + 7) ((s2_111 (b + 7)) + 1)))))] := hD
                      refine lv_iload hX hB dX7_pushes_225 (lv_at hl 4 rfl) ?_
                      exact zRetI ((zU s2_111 (b + 7) ((s2_111 (b + 7)) + 1)), (coinS (stopN (B.2 j) ((-5) + (((coinS (B.2 j) 0) - 5) - (-5)))) 0)) X hP hD hS rfl ⟨by congr 1; exact hD9.2.2.1.symm, hE, hF1.zU (by omega) (by omega), hD9.2.1.symm⟩ dX7_pushes_227
                    · exfalso; omega
                  · refine lv_iconst (v := nZ 1) hX hB dX7_pushes_195 rfl ?_
                    refine lv_goto (tgt := 200) hX hB dX7_pushes_196 (by decide) ?_
                    refine lv_istore (lv' := [(9, .int (nZ 1)), (6, .int (nZ (coinS (stopN (B.2 j) ((-5) + (((coinS (B.2 j) 0) - 5) - (-5)))) 0))), (4, .int (nZ 0)), (7, .int (nZ (st - ((((coinS (B.2 j) 0) - 5) - (-5)) + (s2_111 (b + 0)))))), (8, .int (nZ 1)), (5, .int (nZ 0)), (14, .int (nZ (s (((b + 27)) + (21 * j))))), (13, .int (nZ ((-5) + (((coinS (B.2 j) 0) - 5) - (-5))))), (12, .int (nZ 0)), (11, .int (nZ (((coinS (B.2 j) 0) - 5) - (-5)))), (10, .int (nZ (coinS (B.2 j) 0))), (0, .ref mm), (1, .int (nZ ↑b)), (2, .int (nZ ↑j)), (3, .int (nZ st))]) hX hB dX7_pushes_200 hl (by decide) rfl (fun ls hl => ?_)
                    refine lv_goto (tgt := 19) hX hB dX7_pushes_202 (by decide) ?_
                    have hQ : blkOk s2_111 b (midB B j (stopN (B.2 j) ((-5) + (((coinS (B.2 j) 0) - 5) - (-5)))) (B.1 5) (B.1 6 + (if ((-5) + (((coinS (B.2 j) 0) - 5) - (-5))) < 0 then 1 else 0))) := by (have h9 := hB2_111; unfold stopB at h9; rw [if_neg (by omega : ¬ ((-5) + (((coinS (B.2 j) 0) - 5) - (-5))) = 100), Int.add_zero] at h9; exact h9)
                    have hF1 := hf2_111
                    refine zLoop (σ := (Nat → Int) × Nat × (List Int) × Int × Int × Int × Int) (fun (x : (Nat → Int) × Nat × (List Int) × Int × Int × Int × Int) (H : Heap) (locs : List Loc) (ls : Array Slot) => match x with | (q, r, N, ap, lf, nd, tb) => (blkOk q b (midB B j N (B.1 5) (B.1 6 + tb))) ∧ (frOk s q b) ∧ (0 < lf ∧ lf ≤ 150) ∧ (pushI (B.1 0) st (B.2 j) N r ap lf nd tb) ∧ ((midB B j N (B.1 5) (B.1 6 + tb)).2 j = N) ∧ va_P D vwCl [(mm, .inr (7, [.ref ms, .int (nZ vsv), .ref mk, .ref mb, .int (nZ vty), .int (nZ vth), .int (nZ ven), .int (nZ vsp), .int (nZ vla), .int (nZ vpc)])), (ms, .inl (k 0, 900, .inl (zA q)))] H ∧ va_D A [(mm, .inr (7, [.ref ms, .int (nZ vsv), .ref mk, .ref mb, .int (nZ vty), .int (nZ vth), .int (nZ ven), .int (nZ vsp), .int (nZ vla), .int (nZ vpc)])), (ms, .inl (k 0, 900, .inl (zA q)))] ∧ va_S A s9.heap H locs ∧ lv_has ls 15 [(0, .ref mm), (1, .int (nZ ↑b)), (2, .int (nZ ↑j)), (3, .int (nZ st)), (4, .int (nZ ↑r)), (6, .int (nZ ap)), (7, .int (nZ lf)), (8, .int (nZ nd)), (9, .int (nZ 1))]) (fun (x : (Nat → Int) × Nat × (List Int) × Int × Int × Int × Int) => match x with | (q, r, N, ap, lf, nd, tb) => N.length - r) ?_ (s2_111, 0, (stopN (B.2 j) ((-5) + (((coinS (B.2 j) 0) - 5) - (-5)))), (coinS (stopN (B.2 j) ((-5) + (((coinS (B.2 j) 0) - 5) - (-5)))) 0), (st - ((((coinS (B.2 j) 0) - 5) - (-5)) + (s2_111 (b + 0)))), 1, (if ((-5) + (((coinS (B.2 j) 0) - 5) - (-5))) < 0 then 1 else 0)) ⟨(by exact hQ), (by exact hF1), (by first | omega | assumption | rfl), (by exact hJ), (by exact mid_lane _ _ _ _ _), hP, hD, hS, (lv_sub hl [11, 12, 13, 14, 2, 1, 3, 4, 0] rfl)⟩
                    rintro ⟨q, r, N, ap, lf, nd, tb⟩ H locs ls ⟨hq, hf, hlf, hI, hm, hP, hD, hS, hl⟩ ih_19
                    have hI1 := hI.1
                    refine lv_iload hX hB dX7_pushes_19 (lv_at hl 8 rfl) ?_
                    refine zz_if_eq X (tgt := 205) dX7_pushes_21 (by decide) ⟨by omega, by omega⟩ (fun c_21_2 => ?_) (fun c_21_2 => ?_)
                    · exfalso; omega
                    · refine lv_aload_n hX hB dX7_pushes_24 rfl (lv_at hl 0 rfl) ?_
                      refine lv_iload_n hX hB dX7_pushes_25 rfl (lv_at hl 1 rfl) ?_
                      refine lv_iload_n hX hB dX7_pushes_26 rfl (lv_at hl 2 rfl) ?_
                      refine lv_iload hX hB dX7_pushes_27 (lv_at hl 4 rfl) ?_
                      refine lv_iconst (v := nZ 1) hX hB dX7_pushes_29 rfl ?_
                      refine zz_iadd X dX7_pushes_30 (z := (↑(r + 1) : Int)) (by first | rfl | omega) ?_
                      refine zCallI0 (zRunV (As := [.int (nZ ↑b), .int (nZ ↑j), .int (nZ (↑(r + 1) : Int))]) X mv_X7_coinAt (c_X7_coinAt l D k _ mm ms mk mb vsv vty vth ven vsp vla vpc q b j (midB B j N (B.1 5) (B.1 6 + tb)) (r + 1) N hq hbb hjj hm (by first | assumption | omega | exact ⟨by omega, by omega⟩)) zw_268 (zPreV hP hD hK [0, 1] rfl rfl 0 7 rfl rfl rfl) rfl hl (Nat.le_of_ble_eq_true rfl) dX7_pushes_31 ⟨rfl, rfl, ⟨Nat.le_of_ble_eq_true rfl, Nat.le_of_ble_eq_true rfl⟩, Nat.le_of_ble_eq_true rfl, Nat.le_of_ble_eq_true rfl⟩ rfl) hS hP hD hA [0, 1] rfl (fun _ => rfl) (fun r_31_2 u_31_2 H locs hq_31_2 hP hD hS => ?_)
                      subst hq_31_2
                      have hP : va_P D vwCl [(mm, .inr (7, [.ref ms, .int (nZ vsv), .ref mk, .ref mb, .int (nZ vty), .int (nZ vth), .int (nZ ven), .int (nZ vsp), .int (nZ vla), .int (nZ vpc)])), (ms, .inl (k 0, 900, .inl (zA q)))] H := hP
                      have hD : va_D A [(mm, .inr (7, [.ref ms, .int (nZ vsv), .ref mk, .ref mb, .int (nZ vty), .int (nZ vth), .int (nZ ven), .int (nZ vsp), .int (nZ vla), .int (nZ vpc)])), (ms, .inl (k 0, 900, .inl (zA q)))] := hD
                      refine lv_istore (lv' := [(10, .int (nZ (coinS N (r + 1)))), (0, .ref mm), (1, .int (nZ ↑b)), (2, .int (nZ ↑j)), (3, .int (nZ st)), (4, .int (nZ ↑r)), (6, .int (nZ ap)), (7, .int (nZ lf)), (8, .int (nZ nd)), (9, .int (nZ 1))]) hX hB dX7_pushes_34 hl (by decide) rfl (fun ls hl => ?_)
                      have hco := hq.coin hjj (r + 1)
                      rw [hm] at hco
                      have hrm := pushI_room hI.1.1 hI.1.2.2.2.1
                      refine lv_iload hX hB dX7_pushes_36 (lv_at hl 0 rfl) ?_
                      refine lv_iconst (v := nZ 5) hX hB dX7_pushes_38 rfl ?_
                      refine zz_isub X dX7_pushes_39 (z := ((coinS N (r + 1)) - 5)) (by first | rfl | omega) ?_
                      refine lv_iload hX hB dX7_pushes_40 (lv_at hl 6 rfl) ?_
                      refine zz_isub X dX7_pushes_42 (z := (((coinS N (r + 1)) - 5) - ap)) (by first | rfl | omega) ?_
                      refine lv_istore (lv' := [(11, .int (nZ (((coinS N (r + 1)) - 5) - ap))), (10, .int (nZ (coinS N (r + 1)))), (0, .ref mm), (1, .int (nZ ↑b)), (2, .int (nZ ↑j)), (3, .int (nZ st)), (4, .int (nZ ↑r)), (6, .int (nZ ap)), (7, .int (nZ lf)), (8, .int (nZ nd)), (9, .int (nZ 1))]) hX hB dX7_pushes_43 hl (by decide) rfl (fun ls hl => ?_)
                      refine lv_iload hX hB dX7_pushes_45 (lv_at hl 8 rfl) ?_
                      refine lv_iload hX hB dX7_pushes_47 (lv_at hl 0 rfl) ?_
                      refine zz_icmp_gt X (tgt := 56) dX7_pushes_49 (by decide) ⟨by omega, by omega⟩ ⟨by omega, by omega⟩ (fun c_49_2 => ?_) (fun c_49_2 => ?_)
                      · refine lv_iconst (v := nZ 0) hX hB dX7_pushes_56 rfl ?_
                        refine lv_istore (lv' := [(12, .int (nZ 0)), (11, .int (nZ (((coinS N (r + 1)) - 5) - ap))), (10, .int (nZ (coinS N (r + 1)))), (0, .ref mm), (1, .int (nZ ↑b)), (2, .int (nZ ↑j)), (3, .int (nZ st)), (4, .int (nZ ↑r)), (6, .int (nZ ap)), (7, .int (nZ lf)), (8, .int (nZ nd)), (9, .int (nZ 1))]) hX hB dX7_pushes_57 hl (by decide) rfl (fun ls hl => ?_)
                        refine lv_iload hX hB dX7_pushes_59 (lv_at hl 8 rfl) ?_
                        refine lv_iload hX hB dX7_pushes_61 (lv_at hl 0 rfl) ?_
                        refine zz_if_eq X (tgt := 71) dX7_pushes_63 (by decide) ⟨by omega, by omega⟩ (fun c_63_2 => ?_) (fun c_63_2 => ?_)
                        · refine lv_iload hX hB dX7_pushes_71 (lv_at hl 1 rfl) ?_
                          refine zz_iadd X dX7_pushes_73 (z := (ap + (((coinS N (r + 1)) - 5) - ap))) (by first | rfl | omega) ?_
                          refine lv_istore (lv' := [(13, .int (nZ (ap + (((coinS N (r + 1)) - 5) - ap)))), (12, .int (nZ 0)), (11, .int (nZ (((coinS N (r + 1)) - 5) - ap))), (10, .int (nZ (coinS N (r + 1)))), (0, .ref mm), (1, .int (nZ ↑b)), (2, .int (nZ ↑j)), (3, .int (nZ st)), (4, .int (nZ ↑r)), (6, .int (nZ ap)), (7, .int (nZ lf)), (8, .int (nZ nd)), (9, .int (nZ 1))]) hX hB dX7_pushes_74 hl (by decide) rfl (fun ls hl => ?_)
                          refine lv_iload hX hB dX7_pushes_76 (lv_at hl 0 rfl) ?_
                          refine lv_bipush (v := nZ 100) hX hB dX7_pushes_78 (by decide) ?_
                          refine zz_icmp_le X (tgt := 88) dX7_pushes_80 (by decide) ⟨by omega, by omega⟩ ⟨by omega, by omega⟩ (fun c_80_2 => ?_) (fun c_80_2 => ?_)
                          · refine lv_iload hX hB dX7_pushes_88 (lv_at hl 0 rfl) ?_
                            refine lv_istore (lv' := [(6, .int (nZ (ap + (((coinS N (r + 1)) - 5) - ap)))), (13, .int (nZ (ap + (((coinS N (r + 1)) - 5) - ap)))), (12, .int (nZ 0)), (11, .int (nZ (((coinS N (r + 1)) - 5) - ap))), (10, .int (nZ (coinS N (r + 1)))), (0, .ref mm), (1, .int (nZ ↑b)), (2, .int (nZ ↑j)), (3, .int (nZ st)), (4, .int (nZ ↑r)), (7, .int (nZ lf)), (8, .int (nZ nd)), (9, .int (nZ 1))]) hX hB dX7_pushes_90 hl (by decide) rfl (fun ls hl => ?_)
                            obtain ⟨hx1, hx2, hx3, hx4, hx5, hx6, hx7, hx8⟩ := pushI_step (x := (ap + (((coinS N (r + 1)) - 5) - ap))) hI hlf (by omega) (by omega)
                            refine lv_aload_n hX hB dX7_pushes_92 rfl (lv_at hl 5 rfl) ?_
                            refine va_get hX hB hz inlX7 hW hK.1 hP 0 rfl rfl 0 (by decide) (hz _ zw_74) (fun _ h9 => h9) rfl dX7_pushes_93 ?_
                            refine lv_iload_n hX hB dX7_pushes_96 rfl (lv_at hl 6 rfl) ?_
                            refine lv_iload_n hX hB dX7_pushes_97 rfl (lv_at hl 7 rfl) ?_
                            refine zCallI0 (zRunS X ms_X7_laneAt (c_X7_laneAt l D k _ b j ) zw_272 (zPreS hP hD hK [] rfl rfl) rfl hl (Nat.le_of_ble_eq_true rfl) dX7_pushes_98 ⟨rfl, rfl, ⟨Nat.le_of_ble_eq_true rfl, Nat.le_of_ble_eq_true rfl⟩, Nat.le_of_ble_eq_true rfl, Nat.le_of_ble_eq_true rfl⟩ rfl) hS hP hD hA [] rfl (fun _ => rfl) (fun r_98_2 u_98_2 H locs hq_98_2 hP hD hS => ?_)
                            subst hq_98_2
                            have hP : va_P D vwCl [(mm, .inr (7, [.ref ms, .int (nZ vsv), .ref mk, .ref mb, .int (nZ vty), .int (nZ vth), .int (nZ ven), .int (nZ vsp), .int (nZ vla), .int (nZ vpc)])), (ms, .inl (k 0, 900, .inl (zA q)))] H := hP
                            have hD : va_D A [(mm, .inr (7, [.ref ms, .int (nZ vsv), .ref mk, .ref mb, .int (nZ vty), .int (nZ vth), .int (nZ ven), .int (nZ vsp), .int (nZ vla), .int (nZ vpc)])), (ms, .inl (k 0, 900, .inl (zA q)))] := hD
                            refine zz_iald X hP 1 0 rfl rfl (((b + 27)) + (21 * j)) (by omega) (by omega) (by first | decide | omega) dX7_pushes_101 ?_
                            refine lv_istore (lv' := [(14, .int (nZ (q (((b + 27)) + (21 * j))))), (6, .int (nZ (ap + (((coinS N (r + 1)) - 5) - ap)))), (13, .int (nZ (ap + (((coinS N (r + 1)) - 5) - ap)))), (12, .int (nZ 0)), (11, .int (nZ (((coinS N (r + 1)) - 5) - ap))), (10, .int (nZ (coinS N (r + 1)))), (0, .ref mm), (1, .int (nZ ↑b)), (2, .int (nZ ↑j)), (3, .int (nZ st)), (4, .int (nZ ↑r)), (7, .int (nZ lf)), (8, .int (nZ nd)), (9, .int (nZ 1))]) hX hB dX7_pushes_102 hl (by decide) rfl (fun ls hl => ?_)
                            refine lv_aload_n hX hB dX7_pushes_104 rfl (lv_at hl 6 rfl) ?_
                            refine lv_iload_n hX hB dX7_pushes_105 rfl (lv_at hl 7 rfl) ?_
                            refine lv_iload_n hX hB dX7_pushes_106 rfl (lv_at hl 8 rfl) ?_
                            refine lv_iload hX hB dX7_pushes_107 (lv_at hl 10 rfl) ?_
                            refine lv_iload hX hB dX7_pushes_109 (lv_at hl 1 rfl) ?_
                            refine zCallV0 (zRunV (As := [.int (nZ ↑b), .int (nZ ↑j), .int (nZ ↑r), .int (nZ (ap + (((coinS N (r + 1)) - 5) - ap)))]) X mv_X7_rests (c_X7_rests_r l D k _ mm ms mk mb vsv vty vth ven vsp vla vpc q b j (midB B j N (B.1 5) (B.1 6 + tb)) (ap + (((coinS N (r + 1)) - 5) - ap)) N r hq hbb hjj hm (by first | assumption | omega | exact ⟨by omega, by omega⟩) (by first | assumption | omega | exact ⟨by omega, by omega⟩)) zw_275 (zPreV hP hD hK [0, 1] rfl rfl 0 7 rfl rfl rfl) rfl hl (Nat.le_of_ble_eq_true rfl) dX7_pushes_111 ⟨rfl, rfl, ⟨Nat.le_of_ble_eq_true rfl, Nat.le_of_ble_eq_true rfl⟩, Nat.le_of_ble_eq_true rfl, Nat.le_of_ble_eq_true rfl⟩ rfl) hS hP hD hA [0, 1] rfl (fun _ => rfl) (fun u_111_2 H locs hq_111_2 hP hD hS => ?_)
                            obtain ⟨s2_111_2, e9⟩ : ∃ z9, z9 = u_111_2 := ⟨_, rfl⟩; subst e9
                            obtain ⟨hB2_111_2, hf2_111_2, hm2_111_2⟩ := hq_111_2
                            try dsimp only at hB2_111_2 hf2_111_2 hm2_111_2
                            have hP : va_P D vwCl [(mm, .inr (7, [.ref ms, .int (nZ vsv), .ref mk, .ref mb, .int (nZ vty), .int (nZ vth), .int (nZ ven), .int (nZ vsp), .int (nZ vla), .int (nZ vpc)])), (ms, .inl (k 0, 900, .inl (zA s2_111_2)))] H := hP
                            have hD : va_D A [(mm, .inr (7, [.ref ms, .int (nZ vsv), .ref mk, .ref mb, .int (nZ vty), .int (nZ vth), .int (nZ ven), .int (nZ vsp), .int (nZ vla), .int (nZ vpc)])), (ms, .inl (k 0, 900, .inl (zA s2_111_2)))] := hD
                            have hl8 := hB2_111_2.len hjj
                            rw [hm2_111_2] at hl8
                            have hc0 : s2_111_2 (b + 0) = B.1 0 := hB2_111_2.num (k := 0) (by omega)
                            refine lv_iload hX hB dX7_pushes_114 (lv_at hl 10 rfl) ?_
                            refine lv_iconst (v := nZ (-1)) hX hB dX7_pushes_116 rfl ?_
                            refine zz_icmp_ne X (tgt := 139) dX7_pushes_117 (by decide) ⟨by omega, by omega⟩ ⟨by omega, by omega⟩ (fun c_117_2 => ?_) (fun c_117_2 => ?_)
                            · refine lv_iconst (v := nZ 0) hX hB dX7_pushes_139 rfl ?_
                              refine lv_istore (lv' := [(5, .int (nZ 0)), (14, .int (nZ (q (((b + 27)) + (21 * j))))), (6, .int (nZ (ap + (((coinS N (r + 1)) - 5) - ap)))), (13, .int (nZ (ap + (((coinS N (r + 1)) - 5) - ap)))), (12, .int (nZ 0)), (11, .int (nZ (((coinS N (r + 1)) - 5) - ap))), (10, .int (nZ (coinS N (r + 1)))), (0, .ref mm), (1, .int (nZ ↑b)), (2, .int (nZ ↑j)), (3, .int (nZ st)), (4, .int (nZ ↑r)), (7, .int (nZ lf)), (8, .int (nZ nd)), (9, .int (nZ 1))]) hX hB dX7_pushes_140 hl (by decide) rfl (fun ls hl => ?_)
                              refine lv_iload hX hB dX7_pushes_142 (lv_at hl 4 rfl) ?_
                              refine zz_if_ne X (tgt := 185) dX7_pushes_144 (by decide) ⟨by omega, by omega⟩ (fun c_144_2 => ?_) (fun c_144_2 => ?_)
                              · exfalso; omega
                              · refine lv_iinc (v := nZ (nd + 1)) (lv' := [(8, .int (nZ (nd + 1))), (5, .int (nZ 0)), (14, .int (nZ (q (((b + 27)) + (21 * j))))), (6, .int (nZ (ap + (((coinS N (r + 1)) - 5) - ap)))), (13, .int (nZ (ap + (((coinS N (r + 1)) - 5) - ap)))), (12, .int (nZ 0)), (11, .int (nZ (((coinS N (r + 1)) - 5) - ap))), (10, .int (nZ (coinS N (r + 1)))), (0, .ref mm), (1, .int (nZ ↑b)), (2, .int (nZ ↑j)), (3, .int (nZ st)), (4, .int (nZ ↑r)), (7, .int (nZ lf)), (9, .int (nZ 1))]) hX hB dX7_pushes_147 hl (k := 13) rfl (zinc (by omega)) (by decide) rfl (fun ls hl => ?_)
                                refine lv_iload hX hB dX7_pushes_150 (lv_at hl 13 rfl) ?_
                                refine lv_iload hX hB dX7_pushes_152 (lv_at hl 6 rfl) ?_
                                refine lv_aload_n hX hB dX7_pushes_154 rfl (lv_at hl 8 rfl) ?_
                                refine va_get hX hB hz inlX7 hW hK.1 hP 0 rfl rfl 0 (by decide) (hz _ zw_74) (fun _ h9 => h9) rfl dX7_pushes_155 ?_
                                refine lv_iload_n hX hB dX7_pushes_158 rfl (lv_at hl 9 rfl) ?_
                                refine lv_iconst (v := nZ 0) hX hB dX7_pushes_159 rfl ?_
                                refine zz_iadd X dX7_pushes_160 (z := (↑(b + 0) : Int)) (by first | rfl | omega) ?_
                                refine zz_iald X hP 1 0 rfl rfl (b + 0) (by omega) (by omega) (by first | decide | omega) dX7_pushes_161 ?_
                                refine zz_iadd X dX7_pushes_162 (z := ((((coinS N (r + 1)) - 5) - ap) + (s2_111_2 (b + 0)))) (by first | rfl | omega) ?_
                                refine zz_isub X dX7_pushes_163 (z := (lf - ((((coinS N (r + 1)) - 5) - ap) + (s2_111_2 (b + 0))))) (by first | rfl | omega) ?_
                                refine lv_istore (lv' := [(7, .int (nZ (lf - ((((coinS N (r + 1)) - 5) - ap) + (s2_111_2 (b + 0)))))), (8, .int (nZ (nd + 1))), (5, .int (nZ 0)), (14, .int (nZ (q (((b + 27)) + (21 * j))))), (6, .int (nZ (ap + (((coinS N (r + 1)) - 5) - ap)))), (13, .int (nZ (ap + (((coinS N (r + 1)) - 5) - ap)))), (12, .int (nZ 0)), (11, .int (nZ (((coinS N (r + 1)) - 5) - ap))), (10, .int (nZ (coinS N (r + 1)))), (0, .ref mm), (1, .int (nZ ↑b)), (2, .int (nZ ↑j)), (3, .int (nZ st)), (4, .int (nZ ↑r)), (9, .int (nZ 1))]) hX hB dX7_pushes_164 hl (by decide) rfl (fun ls hl => ?_)
                                refine lv_iload hX hB dX7_pushes_166 (lv_at hl 13 rfl) ?_
                                refine lv_iconst (v := nZ 1) hX hB dX7_pushes_168 rfl ?_
                                refine lv_iload hX hB dX7_pushes_169 (lv_at hl 2 rfl) ?_
                                refine zz_iadd X dX7_pushes_171 (z := 1) (by first | rfl | omega) ?_
                                refine zz_iadd X dX7_pushes_172 (z := (↑(r + 1) : Int)) (by first | rfl | omega) ?_
                                refine lv_istore (lv' := [(4, .int (nZ (↑(r + 1) : Int))), (7, .int (nZ (lf - ((((coinS N (r + 1)) - 5) - ap) + (s2_111_2 (b + 0)))))), (8, .int (nZ (nd + 1))), (5, .int (nZ 0)), (14, .int (nZ (q (((b + 27)) + (21 * j))))), (6, .int (nZ (ap + (((coinS N (r + 1)) - 5) - ap)))), (13, .int (nZ (ap + (((coinS N (r + 1)) - 5) - ap)))), (12, .int (nZ 0)), (11, .int (nZ (((coinS N (r + 1)) - 5) - ap))), (10, .int (nZ (coinS N (r + 1)))), (0, .ref mm), (1, .int (nZ ↑b)), (2, .int (nZ ↑j)), (3, .int (nZ st)), (9, .int (nZ 1))]) hX hB dX7_pushes_173 hl (by decide) rfl (fun ls hl => ?_)
                                refine lv_aload_n hX hB dX7_pushes_175 rfl (lv_at hl 10 rfl) ?_
                                refine lv_iload_n hX hB dX7_pushes_176 rfl (lv_at hl 11 rfl) ?_
                                refine lv_iload_n hX hB dX7_pushes_177 rfl (lv_at hl 12 rfl) ?_
                                refine lv_iload hX hB dX7_pushes_178 (lv_at hl 0 rfl) ?_
                                refine zCallI0 (zRunV (As := [.int (nZ ↑b), .int (nZ ↑j), .int (nZ (↑(r + 1) : Int))]) X mv_X7_coinAt (c_X7_coinAt l D k _ mm ms mk mb vsv vty vth ven vsp vla vpc s2_111_2 b j (stopB (midB B j N (B.1 5) (B.1 6 + tb)) j (stopR N r (ap + (((coinS N (r + 1)) - 5) - ap))) (ap + (((coinS N (r + 1)) - 5) - ap))) (r + 1) (stopR N r (ap + (((coinS N (r + 1)) - 5) - ap))) hB2_111_2 hbb hjj hm2_111_2 (by first | assumption | omega | exact ⟨by omega, by omega⟩)) zw_268 (zPreV hP hD hK [0, 1] rfl rfl 0 7 rfl rfl rfl) rfl hl (Nat.le_of_ble_eq_true rfl) dX7_pushes_180 ⟨rfl, rfl, ⟨Nat.le_of_ble_eq_true rfl, Nat.le_of_ble_eq_true rfl⟩, Nat.le_of_ble_eq_true rfl, Nat.le_of_ble_eq_true rfl⟩ rfl) hS hP hD hA [0, 1] rfl (fun _ => rfl) (fun r_180_2 u_180_2 H locs hq_180_2 hP hD hS => ?_)
                                subst hq_180_2
                                have hP : va_P D vwCl [(mm, .inr (7, [.ref ms, .int (nZ vsv), .ref mk, .ref mb, .int (nZ vty), .int (nZ vth), .int (nZ ven), .int (nZ vsp), .int (nZ vla), .int (nZ vpc)])), (ms, .inl (k 0, 900, .inl (zA s2_111_2)))] H := hP
                                have hD : va_D A [(mm, .inr (7, [.ref ms, .int (nZ vsv), .ref mk, .ref mb, .int (nZ vty), .int (nZ vth), .int (nZ ven), .int (nZ vsp), .int (nZ vla), .int (nZ vpc)])), (ms, .inl (k 0, 900, .inl (zA s2_111_2)))] := hD
                                refine lv_istore (lv' := [(6, .int (nZ (coinS (stopR N r (ap + (((coinS N (r + 1)) - 5) - ap))) (r + 1)))), (4, .int (nZ (↑(r + 1) : Int))), (7, .int (nZ (lf - ((((coinS N (r + 1)) - 5) - ap) + (s2_111_2 (b + 0)))))), (8, .int (nZ (nd + 1))), (5, .int (nZ 0)), (14, .int (nZ (q (((b + 27)) + (21 * j))))), (13, .int (nZ (ap + (((coinS N (r + 1)) - 5) - ap)))), (12, .int (nZ 0)), (11, .int (nZ (((coinS N (r + 1)) - 5) - ap))), (10, .int (nZ (coinS N (r + 1)))), (0, .ref mm), (1, .int (nZ ↑b)), (2, .int (nZ ↑j)), (3, .int (nZ st)), (9, .int (nZ 1))]) hX hB dX7_pushes_183 hl (by decide) rfl (fun ls hl => ?_)
                                have hJ : pushI (B.1 0) st (B.2 j) (stopR N r (ap + (((coinS N (r + 1)) - 5) - ap))) (r + 1) (coinS (stopR N r (ap + (((coinS N (r + 1)) - 5) - ap))) (r + 1)) (lf - ((((coinS N (r + 1)) - 5) - ap) + (s2_111_2 (b + 0)))) (nd + 1) tb := by (have h9 := hx8; rw [show (lf - ((((coinS N (r + 1)) - 5) - ap) + (s2_111_2 (b + 0)))) = lf - ((coinS N (r + 1) - 5 - ap) + B.1 0) by omega]; exact h9)
                                refine lv_iload hX hB dX7_pushes_185 (lv_at hl 7 rfl) ?_
                                refine zz_if_ne X (tgt := 199) dX7_pushes_187 (by decide) ⟨by omega, by omega⟩ (fun c_187_2 => ?_) (fun c_187_2 => ?_)
                                · exfalso; omega
                                · refine lv_iload hX hB dX7_pushes_190 (lv_at hl 2 rfl) ?_
                                  refine zz_if_le X (tgt := 199) dX7_pushes_192 (by decide) ⟨by omega, by omega⟩ (fun c_192_2 => ?_) (fun c_192_2 => ?_)
                                  · refine lv_iconst (v := nZ 0) hX hB dX7_pushes_199 rfl ?_
                                    refine lv_istore (lv' := [(9, .int (nZ 0)), (6, .int (nZ (coinS (stopR N r (ap + (((coinS N (r + 1)) - 5) - ap))) (r + 1)))), (4, .int (nZ (↑(r + 1) : Int))), (7, .int (nZ (lf - ((((coinS N (r + 1)) - 5) - ap) + (s2_111_2 (b + 0)))))), (8, .int (nZ (nd + 1))), (5, .int (nZ 0)), (14, .int (nZ (q (((b + 27)) + (21 * j))))), (13, .int (nZ (ap + (((coinS N (r + 1)) - 5) - ap)))), (12, .int (nZ 0)), (11, .int (nZ (((coinS N (r + 1)) - 5) - ap))), (10, .int (nZ (coinS N (r + 1)))), (0, .ref mm), (1, .int (nZ ↑b)), (2, .int (nZ ↑j)), (3, .int (nZ st))]) hX hB dX7_pushes_200 hl (by decide) rfl (fun ls hl => ?_)
                                    refine lv_goto (tgt := 19) hX hB dX7_pushes_202 (by decide) ?_
                                    refine lv_iload hX hB dX7_pushes_19 (lv_at hl 0 rfl) ?_
                                    refine zz_if_eq X (tgt := 205) dX7_pushes_21 (by decide) ⟨by omega, by omega⟩ (fun c_21_3 => ?_) (fun c_21_3 => ?_)
                                    · have hQ : blkOk s2_111_2 b (midB B j (stopR N r (ap + (((coinS N (r + 1)) - 5) - ap))) (B.1 5) (B.1 6 + tb)) := by (have h9 := mid_mid hB2_111_2; rw [if_neg (by omega), if_neg (by omega), Int.add_zero, Int.add_zero] at h9; exact h9)
                                      have hF1 := hf.trans hf2_111_2
                                      have hLN := hx7
                                      have hD9 := pushI_done hJ (by omega)
                                      have hE := push_end hQ hD9 (by omega) rfl
                                      refine lv_aload_n hX hB dX7_pushes_205 rfl (lv_at hl 11 rfl) ?_
                                      refine lv_iload hX hB dX7_pushes_206 (lv_at hl 1 rfl) ?_
                                      refine va_put (v := .int (nZ (coinS (stopR N r (ap + (((coinS N (r + 1)) - 5) - ap))) (r + 1)))) (ty := tyX7 6) hX hB hz inlX7 tyX7 tyX7_ok nmX7 hW hK.1 hP hD hS 0 rfl rfl 6 (by decide) (hz _ zw_267) (fun _ h9 => h9) rfl (by decide +kernel) rfl rfl (Nat.le_of_ble_eq_true rfl) dX7_pushes_208 (fun H locs hP hD hS => ?_)
                                      have hP : va_P D vwCl [(mm, .inr (7, [.ref ms, .int (nZ vsv), .ref mk, .ref mb, .int (nZ vty), .int (nZ vth), .int (nZ (coinS (stopR N r (ap + (((coinS N (r + 1)) - 5) - ap))) (r + 1))), .int (nZ vsp), .int (nZ vla), .int (nZ vpc)])), (ms, .inl (k 0, 900, .inl (zA s2_111_2)))] H := hP
                                      have hD : va_D A [(mm, .inr (7, [.ref ms, .int (nZ vsv), .ref mk, .ref mb, .int (nZ vty), .int (nZ vth), .int (nZ (coinS (stopR N r (ap + (((coinS N (r + 1)) - 5) - ap))) (r + 1))), .int (nZ vsp), .int (nZ vla), .int (nZ vpc)])), (ms, .inl (k 0, 900, .inl (zA s2_111_2)))] := hD
                                      refine lv_aload_n hX hB dX7_pushes_211 rfl (lv_at hl 11 rfl) ?_
                                      refine va_get hX hB hz inlX7 hW hK.1 hP 0 rfl rfl 0 (by decide) (hz _ zw_74) (fun _ h9 => h9) rfl dX7_pushes_212 ?_
                                      refine lv_iload_n hX hB dX7_pushes_215 rfl (lv_at hl 12 rfl) ?_
                                      refine lv_bipush (v := nZ 7) hX hB dX7_pushes_216 (by decide) ?_
                                      refine zz_iadd X dX7_pushes_218 (z := (↑(b + 7) : Int)) (by first | rfl | omega) ?_
                                      refine lv_dup2_11 hX hB dX7_pushes_219 rfl rfl ?_
                                      refine zz_iald X hP 1 0 rfl rfl (b + 7) (by omega) (by omega) (by first | decide | omega) dX7_pushes_220 ?_
                                      refine lv_iload hX hB dX7_pushes_221 (lv_at hl 4 rfl) ?_
                                      refine zz_iadd X dX7_pushes_223 (z := ((s2_111_2 (b + 7)) + (nd + 1))) (by first | rfl | omega) ?_
                                      refine zz_iast X hP hD hS 1 0 rfl rfl (b + 7) (by omega) (by omega) (by first | decide | omega) dX7_pushes_224 (fun H locs hP hD hS => ?_)
                                      have hP : va_P D vwCl [(mm, .inr (7, [.ref ms, .int (nZ vsv), .ref mk, .ref mb, .int (nZ vty), .int (nZ vth), .int (nZ (coinS (stopR N r (ap + (((coinS N (r + 1)) - 5) - ap))) (r + 1))), .int (nZ vsp), .int (nZ vla), .int (nZ vpc)])), (ms, .inl (k 0, 900, .inl (zA (zU s2_111_2 (b + 7) ((s2_111_2 (b + 7)) + (nd + 1))))))] H := hP
                                      have hD : va_D A [(mm, .inr (7, [.ref ms, .int (nZ vsv), .ref mk, .ref mb, .int (nZ vty), .int (nZ vth), .int (nZ (coinS (stopR N r (ap + (((coinS N (r + 1)) - 5) - ap))) (r + 1))), .int (nZ vsp), .int (nZ vla), .int (nZ vpc)])), (ms, .inl (k 0, 900, .inl (zA (zU s2_111_2 (b + 7) ((s2_111_2 (b + 7)) + (nd + 1))))))] := hD
                                      refine lv_iload hX hB dX7_pushes_225 (lv_at hl 4 rfl) ?_
                                      exact zRetI ((zU s2_111_2 (b + 7) ((s2_111_2 (b + 7)) + (nd + 1))), (coinS (stopR N r (ap + (((coinS N (r + 1)) - 5) - ap))) (r + 1))) X hP hD hS rfl ⟨by congr 1; exact hD9.2.2.1.symm, hE, hF1.zU (by omega) (by omega), hD9.2.1.symm⟩ dX7_pushes_227
                                    · exfalso; omega
                                  · refine lv_iconst (v := nZ 1) hX hB dX7_pushes_195 rfl ?_
                                    refine lv_goto (tgt := 200) hX hB dX7_pushes_196 (by decide) ?_
                                    refine lv_istore (lv' := [(9, .int (nZ 1)), (6, .int (nZ (coinS (stopR N r (ap + (((coinS N (r + 1)) - 5) - ap))) (r + 1)))), (4, .int (nZ (↑(r + 1) : Int))), (7, .int (nZ (lf - ((((coinS N (r + 1)) - 5) - ap) + (s2_111_2 (b + 0)))))), (8, .int (nZ (nd + 1))), (5, .int (nZ 0)), (14, .int (nZ (q (((b + 27)) + (21 * j))))), (13, .int (nZ (ap + (((coinS N (r + 1)) - 5) - ap)))), (12, .int (nZ 0)), (11, .int (nZ (((coinS N (r + 1)) - 5) - ap))), (10, .int (nZ (coinS N (r + 1)))), (0, .ref mm), (1, .int (nZ ↑b)), (2, .int (nZ ↑j)), (3, .int (nZ st))]) hX hB dX7_pushes_200 hl (by decide) rfl (fun ls hl => ?_)
                                    refine lv_goto (tgt := 19) hX hB dX7_pushes_202 (by decide) ?_
                                    have hQ : blkOk s2_111_2 b (midB B j (stopR N r (ap + (((coinS N (r + 1)) - 5) - ap))) (B.1 5) (B.1 6 + tb)) := by (have h9 := mid_mid hB2_111_2; rw [if_neg (by omega), if_neg (by omega), Int.add_zero, Int.add_zero] at h9; exact h9)
                                    have hF1 := hf.trans hf2_111_2
                                    have hLN := hx7
                                    exact ih_19 (s2_111_2, (r + 1), (stopR N r (ap + (((coinS N (r + 1)) - 5) - ap))), (coinS (stopR N r (ap + (((coinS N (r + 1)) - 5) - ap))) (r + 1)), (lf - ((((coinS N (r + 1)) - 5) - ap) + (s2_111_2 (b + 0)))), (nd + 1), tb) _ _ _ ⟨(by exact hQ), (by exact hF1), (by first | omega | assumption | rfl), (by exact hJ), (by exact mid_lane _ _ _ _ _), hP, hD, hS, (lv_sub hl [11, 12, 13, 14, 2, 1, 3, 4, 0] rfl)⟩ (by dsimp only; rw [hLN]; omega)
                            · exfalso; omega
                          · exfalso; omega
                        · exfalso; omega
                      · refine lv_iconst (v := nZ 1) hX hB dX7_pushes_52 rfl ?_
                        refine lv_goto (tgt := 57) hX hB dX7_pushes_53 (by decide) ?_
                        refine lv_istore (lv' := [(12, .int (nZ 1)), (11, .int (nZ (((coinS N (r + 1)) - 5) - ap))), (10, .int (nZ (coinS N (r + 1)))), (0, .ref mm), (1, .int (nZ ↑b)), (2, .int (nZ ↑j)), (3, .int (nZ st)), (4, .int (nZ ↑r)), (6, .int (nZ ap)), (7, .int (nZ lf)), (8, .int (nZ nd)), (9, .int (nZ 1))]) hX hB dX7_pushes_57 hl (by decide) rfl (fun ls hl => ?_)
                        refine lv_iload hX hB dX7_pushes_59 (lv_at hl 8 rfl) ?_
                        refine lv_iload hX hB dX7_pushes_61 (lv_at hl 0 rfl) ?_
                        refine zz_if_eq X (tgt := 71) dX7_pushes_63 (by decide) ⟨by omega, by omega⟩ (fun c_63_2 => ?_) (fun c_63_2 => ?_)
                        · exfalso; omega
                        · refine lv_iload hX hB dX7_pushes_66 (lv_at hl 9 rfl) ?_
                          refine lv_goto (tgt := 73) hX hB dX7_pushes_68 (by decide) ?_
                          refine zz_iadd X dX7_pushes_73 (z := (ap + lf)) (by first | rfl | omega) ?_
                          refine lv_istore (lv' := [(13, .int (nZ (ap + lf))), (12, .int (nZ 1)), (11, .int (nZ (((coinS N (r + 1)) - 5) - ap))), (10, .int (nZ (coinS N (r + 1)))), (0, .ref mm), (1, .int (nZ ↑b)), (2, .int (nZ ↑j)), (3, .int (nZ st)), (4, .int (nZ ↑r)), (6, .int (nZ ap)), (7, .int (nZ lf)), (8, .int (nZ nd)), (9, .int (nZ 1))]) hX hB dX7_pushes_74 hl (by decide) rfl (fun ls hl => ?_)
                          refine lv_iload hX hB dX7_pushes_76 (lv_at hl 0 rfl) ?_
                          refine lv_bipush (v := nZ 100) hX hB dX7_pushes_78 (by decide) ?_
                          refine zz_icmp_le X (tgt := 88) dX7_pushes_80 (by decide) ⟨by omega, by omega⟩ ⟨by omega, by omega⟩ (fun c_80_2 => ?_) (fun c_80_2 => ?_)
                          · refine lv_iload hX hB dX7_pushes_88 (lv_at hl 0 rfl) ?_
                            refine lv_istore (lv' := [(6, .int (nZ (ap + lf))), (13, .int (nZ (ap + lf))), (12, .int (nZ 1)), (11, .int (nZ (((coinS N (r + 1)) - 5) - ap))), (10, .int (nZ (coinS N (r + 1)))), (0, .ref mm), (1, .int (nZ ↑b)), (2, .int (nZ ↑j)), (3, .int (nZ st)), (4, .int (nZ ↑r)), (7, .int (nZ lf)), (8, .int (nZ nd)), (9, .int (nZ 1))]) hX hB dX7_pushes_90 hl (by decide) rfl (fun ls hl => ?_)
                            obtain ⟨hD9, hx1, hx2⟩ := pushI_stop (x := (ap + lf)) hI hlf (by omega) (by omega)
                            refine lv_aload_n hX hB dX7_pushes_92 rfl (lv_at hl 5 rfl) ?_
                            refine va_get hX hB hz inlX7 hW hK.1 hP 0 rfl rfl 0 (by decide) (hz _ zw_74) (fun _ h9 => h9) rfl dX7_pushes_93 ?_
                            refine lv_iload_n hX hB dX7_pushes_96 rfl (lv_at hl 6 rfl) ?_
                            refine lv_iload_n hX hB dX7_pushes_97 rfl (lv_at hl 7 rfl) ?_
                            refine zCallI0 (zRunS X ms_X7_laneAt (c_X7_laneAt l D k _ b j ) zw_272 (zPreS hP hD hK [] rfl rfl) rfl hl (Nat.le_of_ble_eq_true rfl) dX7_pushes_98 ⟨rfl, rfl, ⟨Nat.le_of_ble_eq_true rfl, Nat.le_of_ble_eq_true rfl⟩, Nat.le_of_ble_eq_true rfl, Nat.le_of_ble_eq_true rfl⟩ rfl) hS hP hD hA [] rfl (fun _ => rfl) (fun r_98_2 u_98_2 H locs hq_98_2 hP hD hS => ?_)
                            subst hq_98_2
                            have hP : va_P D vwCl [(mm, .inr (7, [.ref ms, .int (nZ vsv), .ref mk, .ref mb, .int (nZ vty), .int (nZ vth), .int (nZ ven), .int (nZ vsp), .int (nZ vla), .int (nZ vpc)])), (ms, .inl (k 0, 900, .inl (zA q)))] H := hP
                            have hD : va_D A [(mm, .inr (7, [.ref ms, .int (nZ vsv), .ref mk, .ref mb, .int (nZ vty), .int (nZ vth), .int (nZ ven), .int (nZ vsp), .int (nZ vla), .int (nZ vpc)])), (ms, .inl (k 0, 900, .inl (zA q)))] := hD
                            refine zz_iald X hP 1 0 rfl rfl (((b + 27)) + (21 * j)) (by omega) (by omega) (by first | decide | omega) dX7_pushes_101 ?_
                            refine lv_istore (lv' := [(14, .int (nZ (q (((b + 27)) + (21 * j))))), (6, .int (nZ (ap + lf))), (13, .int (nZ (ap + lf))), (12, .int (nZ 1)), (11, .int (nZ (((coinS N (r + 1)) - 5) - ap))), (10, .int (nZ (coinS N (r + 1)))), (0, .ref mm), (1, .int (nZ ↑b)), (2, .int (nZ ↑j)), (3, .int (nZ st)), (4, .int (nZ ↑r)), (7, .int (nZ lf)), (8, .int (nZ nd)), (9, .int (nZ 1))]) hX hB dX7_pushes_102 hl (by decide) rfl (fun ls hl => ?_)
                            refine lv_aload_n hX hB dX7_pushes_104 rfl (lv_at hl 6 rfl) ?_
                            refine lv_iload_n hX hB dX7_pushes_105 rfl (lv_at hl 7 rfl) ?_
                            refine lv_iload_n hX hB dX7_pushes_106 rfl (lv_at hl 8 rfl) ?_
                            refine lv_iload hX hB dX7_pushes_107 (lv_at hl 10 rfl) ?_
                            refine lv_iload hX hB dX7_pushes_109 (lv_at hl 1 rfl) ?_
                            refine zCallV0 (zRunV (As := [.int (nZ ↑b), .int (nZ ↑j), .int (nZ ↑r), .int (nZ (ap + lf))]) X mv_X7_rests (c_X7_rests_r l D k _ mm ms mk mb vsv vty vth ven vsp vla vpc q b j (midB B j N (B.1 5) (B.1 6 + tb)) (ap + lf) N r hq hbb hjj hm (by first | assumption | omega | exact ⟨by omega, by omega⟩) (by first | assumption | omega | exact ⟨by omega, by omega⟩)) zw_275 (zPreV hP hD hK [0, 1] rfl rfl 0 7 rfl rfl rfl) rfl hl (Nat.le_of_ble_eq_true rfl) dX7_pushes_111 ⟨rfl, rfl, ⟨Nat.le_of_ble_eq_true rfl, Nat.le_of_ble_eq_true rfl⟩, Nat.le_of_ble_eq_true rfl, Nat.le_of_ble_eq_true rfl⟩ rfl) hS hP hD hA [0, 1] rfl (fun _ => rfl) (fun u_111_2 H locs hq_111_2 hP hD hS => ?_)
                            obtain ⟨s2_111_2, e9⟩ : ∃ z9, z9 = u_111_2 := ⟨_, rfl⟩; subst e9
                            obtain ⟨hB2_111_2, hf2_111_2, hm2_111_2⟩ := hq_111_2
                            try dsimp only at hB2_111_2 hf2_111_2 hm2_111_2
                            have hP : va_P D vwCl [(mm, .inr (7, [.ref ms, .int (nZ vsv), .ref mk, .ref mb, .int (nZ vty), .int (nZ vth), .int (nZ ven), .int (nZ vsp), .int (nZ vla), .int (nZ vpc)])), (ms, .inl (k 0, 900, .inl (zA s2_111_2)))] H := hP
                            have hD : va_D A [(mm, .inr (7, [.ref ms, .int (nZ vsv), .ref mk, .ref mb, .int (nZ vty), .int (nZ vth), .int (nZ ven), .int (nZ vsp), .int (nZ vla), .int (nZ vpc)])), (ms, .inl (k 0, 900, .inl (zA s2_111_2)))] := hD
                            have hl8 := hB2_111_2.len hjj
                            rw [hm2_111_2] at hl8
                            have hc0 : s2_111_2 (b + 0) = B.1 0 := hB2_111_2.num (k := 0) (by omega)
                            refine lv_iload hX hB dX7_pushes_114 (lv_at hl 10 rfl) ?_
                            refine lv_iconst (v := nZ (-1)) hX hB dX7_pushes_116 rfl ?_
                            refine zz_icmp_ne X (tgt := 139) dX7_pushes_117 (by decide) ⟨by omega, by omega⟩ ⟨by omega, by omega⟩ (fun c_117_2 => ?_) (fun c_117_2 => ?_)
                            · refine lv_iconst (v := nZ 0) hX hB dX7_pushes_139 rfl ?_
                              refine lv_istore (lv' := [(5, .int (nZ 0)), (14, .int (nZ (q (((b + 27)) + (21 * j))))), (6, .int (nZ (ap + lf))), (13, .int (nZ (ap + lf))), (12, .int (nZ 1)), (11, .int (nZ (((coinS N (r + 1)) - 5) - ap))), (10, .int (nZ (coinS N (r + 1)))), (0, .ref mm), (1, .int (nZ ↑b)), (2, .int (nZ ↑j)), (3, .int (nZ st)), (4, .int (nZ ↑r)), (7, .int (nZ lf)), (8, .int (nZ nd)), (9, .int (nZ 1))]) hX hB dX7_pushes_140 hl (by decide) rfl (fun ls hl => ?_)
                              refine lv_iload hX hB dX7_pushes_142 (lv_at hl 4 rfl) ?_
                              refine zz_if_ne X (tgt := 185) dX7_pushes_144 (by decide) ⟨by omega, by omega⟩ (fun c_144_2 => ?_) (fun c_144_2 => ?_)
                              · refine lv_iload hX hB dX7_pushes_185 (lv_at hl 4 rfl) ?_
                                refine zz_if_ne X (tgt := 199) dX7_pushes_187 (by decide) ⟨by omega, by omega⟩ (fun c_187_2 => ?_) (fun c_187_2 => ?_)
                                · refine lv_iconst (v := nZ 0) hX hB dX7_pushes_199 rfl ?_
                                  refine lv_istore (lv' := [(9, .int (nZ 0)), (5, .int (nZ 0)), (14, .int (nZ (q (((b + 27)) + (21 * j))))), (6, .int (nZ (ap + lf))), (13, .int (nZ (ap + lf))), (12, .int (nZ 1)), (11, .int (nZ (((coinS N (r + 1)) - 5) - ap))), (10, .int (nZ (coinS N (r + 1)))), (0, .ref mm), (1, .int (nZ ↑b)), (2, .int (nZ ↑j)), (3, .int (nZ st)), (4, .int (nZ ↑r)), (7, .int (nZ lf)), (8, .int (nZ nd))]) hX hB dX7_pushes_200 hl (by decide) rfl (fun ls hl => ?_)
                                  refine lv_goto (tgt := 19) hX hB dX7_pushes_202 (by decide) ?_
                                  refine lv_iload hX hB dX7_pushes_19 (lv_at hl 0 rfl) ?_
                                  refine zz_if_eq X (tgt := 205) dX7_pushes_21 (by decide) ⟨by omega, by omega⟩ (fun c_21_3 => ?_) (fun c_21_3 => ?_)
                                  · have hE := push_end (mid_mid hB2_111_2) hD9 rfl (by omega)
                                    have hF1 := hf.trans hf2_111_2
                                    refine lv_aload_n hX hB dX7_pushes_205 rfl (lv_at hl 8 rfl) ?_
                                    refine lv_iload hX hB dX7_pushes_206 (lv_at hl 3 rfl) ?_
                                    refine va_put (v := .int (nZ (ap + lf))) (ty := tyX7 6) hX hB hz inlX7 tyX7 tyX7_ok nmX7 hW hK.1 hP hD hS 0 rfl rfl 6 (by decide) (hz _ zw_267) (fun _ h9 => h9) rfl (by decide +kernel) rfl rfl (Nat.le_of_ble_eq_true rfl) dX7_pushes_208 (fun H locs hP hD hS => ?_)
                                    have hP : va_P D vwCl [(mm, .inr (7, [.ref ms, .int (nZ vsv), .ref mk, .ref mb, .int (nZ vty), .int (nZ vth), .int (nZ (ap + lf)), .int (nZ vsp), .int (nZ vla), .int (nZ vpc)])), (ms, .inl (k 0, 900, .inl (zA s2_111_2)))] H := hP
                                    have hD : va_D A [(mm, .inr (7, [.ref ms, .int (nZ vsv), .ref mk, .ref mb, .int (nZ vty), .int (nZ vth), .int (nZ (ap + lf)), .int (nZ vsp), .int (nZ vla), .int (nZ vpc)])), (ms, .inl (k 0, 900, .inl (zA s2_111_2)))] := hD
                                    refine lv_aload_n hX hB dX7_pushes_211 rfl (lv_at hl 8 rfl) ?_
                                    refine va_get hX hB hz inlX7 hW hK.1 hP 0 rfl rfl 0 (by decide) (hz _ zw_74) (fun _ h9 => h9) rfl dX7_pushes_212 ?_
                                    refine lv_iload_n hX hB dX7_pushes_215 rfl (lv_at hl 9 rfl) ?_
                                    refine lv_bipush (v := nZ 7) hX hB dX7_pushes_216 (by decide) ?_
                                    refine zz_iadd X dX7_pushes_218 (z := (↑(b + 7) : Int)) (by first | rfl | omega) ?_
                                    refine lv_dup2_11 hX hB dX7_pushes_219 rfl rfl ?_
                                    refine zz_iald X hP 1 0 rfl rfl (b + 7) (by omega) (by omega) (by first | decide | omega) dX7_pushes_220 ?_
                                    refine lv_iload hX hB dX7_pushes_221 (lv_at hl 14 rfl) ?_
                                    refine zz_iadd X dX7_pushes_223 (z := ((s2_111_2 (b + 7)) + nd)) (by first | rfl | omega) ?_
                                    refine zz_iast X hP hD hS 1 0 rfl rfl (b + 7) (by omega) (by omega) (by first | decide | omega) dX7_pushes_224 (fun H locs hP hD hS => ?_)
                                    have hP : va_P D vwCl [(mm, .inr (7, [.ref ms, .int (nZ vsv), .ref mk, .ref mb, .int (nZ vty), .int (nZ vth), .int (nZ (ap + lf)), .int (nZ vsp), .int (nZ vla), .int (nZ vpc)])), (ms, .inl (k 0, 900, .inl (zA (zU s2_111_2 (b + 7) ((s2_111_2 (b + 7)) + nd)))))] H := hP
                                    have hD : va_D A [(mm, .inr (7, [.ref ms, .int (nZ vsv), .ref mk, .ref mb, .int (nZ vty), .int (nZ vth), .int (nZ (ap + lf)), .int (nZ vsp), .int (nZ vla), .int (nZ vpc)])), (ms, .inl (k 0, 900, .inl (zA (zU s2_111_2 (b + 7) ((s2_111_2 (b + 7)) + nd)))))] := hD
                                    refine lv_iload hX hB dX7_pushes_225 (lv_at hl 14 rfl) ?_
                                    exact zRetI ((zU s2_111_2 (b + 7) ((s2_111_2 (b + 7)) + nd)), (ap + lf)) X hP hD hS rfl ⟨by congr 1; exact hD9.2.2.1.symm, hE, hF1.zU (by omega) (by omega), hD9.2.1.symm⟩ dX7_pushes_227
                                  · exfalso; omega
                                · exfalso; omega
                              · exfalso; omega
                            · exfalso; omega
                          · refine lv_bipush (v := nZ 100) hX hB dX7_pushes_83 (by decide) ?_
                            refine lv_goto (tgt := 90) hX hB dX7_pushes_85 (by decide) ?_
                            refine lv_istore (lv' := [(6, .int (nZ 100)), (13, .int (nZ (ap + lf))), (12, .int (nZ 1)), (11, .int (nZ (((coinS N (r + 1)) - 5) - ap))), (10, .int (nZ (coinS N (r + 1)))), (0, .ref mm), (1, .int (nZ ↑b)), (2, .int (nZ ↑j)), (3, .int (nZ st)), (4, .int (nZ ↑r)), (7, .int (nZ lf)), (8, .int (nZ nd)), (9, .int (nZ 1))]) hX hB dX7_pushes_90 hl (by decide) rfl (fun ls hl => ?_)
                            obtain ⟨hD9, hx1, hx2⟩ := pushI_stop (x := 100) hI hlf (by omega) (by omega)
                            refine lv_aload_n hX hB dX7_pushes_92 rfl (lv_at hl 5 rfl) ?_
                            refine va_get hX hB hz inlX7 hW hK.1 hP 0 rfl rfl 0 (by decide) (hz _ zw_74) (fun _ h9 => h9) rfl dX7_pushes_93 ?_
                            refine lv_iload_n hX hB dX7_pushes_96 rfl (lv_at hl 6 rfl) ?_
                            refine lv_iload_n hX hB dX7_pushes_97 rfl (lv_at hl 7 rfl) ?_
                            refine zCallI0 (zRunS X ms_X7_laneAt (c_X7_laneAt l D k _ b j ) zw_272 (zPreS hP hD hK [] rfl rfl) rfl hl (Nat.le_of_ble_eq_true rfl) dX7_pushes_98 ⟨rfl, rfl, ⟨Nat.le_of_ble_eq_true rfl, Nat.le_of_ble_eq_true rfl⟩, Nat.le_of_ble_eq_true rfl, Nat.le_of_ble_eq_true rfl⟩ rfl) hS hP hD hA [] rfl (fun _ => rfl) (fun r_98_2 u_98_2 H locs hq_98_2 hP hD hS => ?_)
                            subst hq_98_2
                            have hP : va_P D vwCl [(mm, .inr (7, [.ref ms, .int (nZ vsv), .ref mk, .ref mb, .int (nZ vty), .int (nZ vth), .int (nZ ven), .int (nZ vsp), .int (nZ vla), .int (nZ vpc)])), (ms, .inl (k 0, 900, .inl (zA q)))] H := hP
                            have hD : va_D A [(mm, .inr (7, [.ref ms, .int (nZ vsv), .ref mk, .ref mb, .int (nZ vty), .int (nZ vth), .int (nZ ven), .int (nZ vsp), .int (nZ vla), .int (nZ vpc)])), (ms, .inl (k 0, 900, .inl (zA q)))] := hD
                            refine zz_iald X hP 1 0 rfl rfl (((b + 27)) + (21 * j)) (by omega) (by omega) (by first | decide | omega) dX7_pushes_101 ?_
                            refine lv_istore (lv' := [(14, .int (nZ (q (((b + 27)) + (21 * j))))), (6, .int (nZ 100)), (13, .int (nZ (ap + lf))), (12, .int (nZ 1)), (11, .int (nZ (((coinS N (r + 1)) - 5) - ap))), (10, .int (nZ (coinS N (r + 1)))), (0, .ref mm), (1, .int (nZ ↑b)), (2, .int (nZ ↑j)), (3, .int (nZ st)), (4, .int (nZ ↑r)), (7, .int (nZ lf)), (8, .int (nZ nd)), (9, .int (nZ 1))]) hX hB dX7_pushes_102 hl (by decide) rfl (fun ls hl => ?_)
                            refine lv_aload_n hX hB dX7_pushes_104 rfl (lv_at hl 6 rfl) ?_
                            refine lv_iload_n hX hB dX7_pushes_105 rfl (lv_at hl 7 rfl) ?_
                            refine lv_iload_n hX hB dX7_pushes_106 rfl (lv_at hl 8 rfl) ?_
                            refine lv_iload hX hB dX7_pushes_107 (lv_at hl 10 rfl) ?_
                            refine lv_iload hX hB dX7_pushes_109 (lv_at hl 1 rfl) ?_
                            refine zCallV0 (zRunV (As := [.int (nZ ↑b), .int (nZ ↑j), .int (nZ ↑r), .int (nZ 100)]) X mv_X7_rests (c_X7_rests_r l D k _ mm ms mk mb vsv vty vth ven vsp vla vpc q b j (midB B j N (B.1 5) (B.1 6 + tb)) 100 N r hq hbb hjj hm (by first | assumption | omega | exact ⟨by omega, by omega⟩) (by first | assumption | omega | exact ⟨by omega, by omega⟩)) zw_275 (zPreV hP hD hK [0, 1] rfl rfl 0 7 rfl rfl rfl) rfl hl (Nat.le_of_ble_eq_true rfl) dX7_pushes_111 ⟨rfl, rfl, ⟨Nat.le_of_ble_eq_true rfl, Nat.le_of_ble_eq_true rfl⟩, Nat.le_of_ble_eq_true rfl, Nat.le_of_ble_eq_true rfl⟩ rfl) hS hP hD hA [0, 1] rfl (fun _ => rfl) (fun u_111_2 H locs hq_111_2 hP hD hS => ?_)
                            obtain ⟨s2_111_2, e9⟩ : ∃ z9, z9 = u_111_2 := ⟨_, rfl⟩; subst e9
                            obtain ⟨hB2_111_2, hf2_111_2, hm2_111_2⟩ := hq_111_2
                            try dsimp only at hB2_111_2 hf2_111_2 hm2_111_2
                            have hP : va_P D vwCl [(mm, .inr (7, [.ref ms, .int (nZ vsv), .ref mk, .ref mb, .int (nZ vty), .int (nZ vth), .int (nZ ven), .int (nZ vsp), .int (nZ vla), .int (nZ vpc)])), (ms, .inl (k 0, 900, .inl (zA s2_111_2)))] H := hP
                            have hD : va_D A [(mm, .inr (7, [.ref ms, .int (nZ vsv), .ref mk, .ref mb, .int (nZ vty), .int (nZ vth), .int (nZ ven), .int (nZ vsp), .int (nZ vla), .int (nZ vpc)])), (ms, .inl (k 0, 900, .inl (zA s2_111_2)))] := hD
                            have hl8 := hB2_111_2.len hjj
                            rw [hm2_111_2] at hl8
                            have hc0 : s2_111_2 (b + 0) = B.1 0 := hB2_111_2.num (k := 0) (by omega)
                            refine lv_iload hX hB dX7_pushes_114 (lv_at hl 10 rfl) ?_
                            refine lv_iconst (v := nZ (-1)) hX hB dX7_pushes_116 rfl ?_
                            refine zz_icmp_ne X (tgt := 139) dX7_pushes_117 (by decide) ⟨by omega, by omega⟩ ⟨by omega, by omega⟩ (fun c_117_2 => ?_) (fun c_117_2 => ?_)
                            · refine lv_iconst (v := nZ 0) hX hB dX7_pushes_139 rfl ?_
                              refine lv_istore (lv' := [(5, .int (nZ 0)), (14, .int (nZ (q (((b + 27)) + (21 * j))))), (6, .int (nZ 100)), (13, .int (nZ (ap + lf))), (12, .int (nZ 1)), (11, .int (nZ (((coinS N (r + 1)) - 5) - ap))), (10, .int (nZ (coinS N (r + 1)))), (0, .ref mm), (1, .int (nZ ↑b)), (2, .int (nZ ↑j)), (3, .int (nZ st)), (4, .int (nZ ↑r)), (7, .int (nZ lf)), (8, .int (nZ nd)), (9, .int (nZ 1))]) hX hB dX7_pushes_140 hl (by decide) rfl (fun ls hl => ?_)
                              refine lv_iload hX hB dX7_pushes_142 (lv_at hl 4 rfl) ?_
                              refine zz_if_ne X (tgt := 185) dX7_pushes_144 (by decide) ⟨by omega, by omega⟩ (fun c_144_2 => ?_) (fun c_144_2 => ?_)
                              · refine lv_iload hX hB dX7_pushes_185 (lv_at hl 4 rfl) ?_
                                refine zz_if_ne X (tgt := 199) dX7_pushes_187 (by decide) ⟨by omega, by omega⟩ (fun c_187_2 => ?_) (fun c_187_2 => ?_)
                                · refine lv_iconst (v := nZ 0) hX hB dX7_pushes_199 rfl ?_
                                  refine lv_istore (lv' := [(9, .int (nZ 0)), (5, .int (nZ 0)), (14, .int (nZ (q (((b + 27)) + (21 * j))))), (6, .int (nZ 100)), (13, .int (nZ (ap + lf))), (12, .int (nZ 1)), (11, .int (nZ (((coinS N (r + 1)) - 5) - ap))), (10, .int (nZ (coinS N (r + 1)))), (0, .ref mm), (1, .int (nZ ↑b)), (2, .int (nZ ↑j)), (3, .int (nZ st)), (4, .int (nZ ↑r)), (7, .int (nZ lf)), (8, .int (nZ nd))]) hX hB dX7_pushes_200 hl (by decide) rfl (fun ls hl => ?_)
                                  refine lv_goto (tgt := 19) hX hB dX7_pushes_202 (by decide) ?_
                                  refine lv_iload hX hB dX7_pushes_19 (lv_at hl 0 rfl) ?_
                                  refine zz_if_eq X (tgt := 205) dX7_pushes_21 (by decide) ⟨by omega, by omega⟩ (fun c_21_3 => ?_) (fun c_21_3 => ?_)
                                  · have hE := push_end (mid_mid hB2_111_2) hD9 rfl (by omega)
                                    have hF1 := hf.trans hf2_111_2
                                    refine lv_aload_n hX hB dX7_pushes_205 rfl (lv_at hl 8 rfl) ?_
                                    refine lv_iload hX hB dX7_pushes_206 (lv_at hl 3 rfl) ?_
                                    refine va_put (v := .int (nZ 100)) (ty := tyX7 6) hX hB hz inlX7 tyX7 tyX7_ok nmX7 hW hK.1 hP hD hS 0 rfl rfl 6 (by decide) (hz _ zw_267) (fun _ h9 => h9) rfl (by decide +kernel) rfl rfl (Nat.le_of_ble_eq_true rfl) dX7_pushes_208 (fun H locs hP hD hS => ?_)
                                    have hP : va_P D vwCl [(mm, .inr (7, [.ref ms, .int (nZ vsv), .ref mk, .ref mb, .int (nZ vty), .int (nZ vth), .int (nZ 100), .int (nZ vsp), .int (nZ vla), .int (nZ vpc)])), (ms, .inl (k 0, 900, .inl (zA s2_111_2)))] H := hP
                                    have hD : va_D A [(mm, .inr (7, [.ref ms, .int (nZ vsv), .ref mk, .ref mb, .int (nZ vty), .int (nZ vth), .int (nZ 100), .int (nZ vsp), .int (nZ vla), .int (nZ vpc)])), (ms, .inl (k 0, 900, .inl (zA s2_111_2)))] := hD
                                    refine lv_aload_n hX hB dX7_pushes_211 rfl (lv_at hl 8 rfl) ?_
                                    refine va_get hX hB hz inlX7 hW hK.1 hP 0 rfl rfl 0 (by decide) (hz _ zw_74) (fun _ h9 => h9) rfl dX7_pushes_212 ?_
                                    refine lv_iload_n hX hB dX7_pushes_215 rfl (lv_at hl 9 rfl) ?_
                                    refine lv_bipush (v := nZ 7) hX hB dX7_pushes_216 (by decide) ?_
                                    refine zz_iadd X dX7_pushes_218 (z := (↑(b + 7) : Int)) (by first | rfl | omega) ?_
                                    refine lv_dup2_11 hX hB dX7_pushes_219 rfl rfl ?_
                                    refine zz_iald X hP 1 0 rfl rfl (b + 7) (by omega) (by omega) (by first | decide | omega) dX7_pushes_220 ?_
                                    refine lv_iload hX hB dX7_pushes_221 (lv_at hl 14 rfl) ?_
                                    refine zz_iadd X dX7_pushes_223 (z := ((s2_111_2 (b + 7)) + nd)) (by first | rfl | omega) ?_
                                    refine zz_iast X hP hD hS 1 0 rfl rfl (b + 7) (by omega) (by omega) (by first | decide | omega) dX7_pushes_224 (fun H locs hP hD hS => ?_)
                                    have hP : va_P D vwCl [(mm, .inr (7, [.ref ms, .int (nZ vsv), .ref mk, .ref mb, .int (nZ vty), .int (nZ vth), .int (nZ 100), .int (nZ vsp), .int (nZ vla), .int (nZ vpc)])), (ms, .inl (k 0, 900, .inl (zA (zU s2_111_2 (b + 7) ((s2_111_2 (b + 7)) + nd)))))] H := hP
                                    have hD : va_D A [(mm, .inr (7, [.ref ms, .int (nZ vsv), .ref mk, .ref mb, .int (nZ vty), .int (nZ vth), .int (nZ 100), .int (nZ vsp), .int (nZ vla), .int (nZ vpc)])), (ms, .inl (k 0, 900, .inl (zA (zU s2_111_2 (b + 7) ((s2_111_2 (b + 7)) + nd)))))] := hD
                                    refine lv_iload hX hB dX7_pushes_225 (lv_at hl 14 rfl) ?_
                                    exact zRetI ((zU s2_111_2 (b + 7) ((s2_111_2 (b + 7)) + nd)), 100) X hP hD hS rfl ⟨by congr 1; exact hD9.2.2.1.symm, hE, hF1.zU (by omega) (by omega), hD9.2.1.symm⟩ dX7_pushes_227
                                  · exfalso; omega
                                · exfalso; omega
                              · exfalso; omega
                            · exfalso; omega
            · refine lv_iconst (v := nZ 1) hX hB dX7_pushes_135 rfl ?_
              refine lv_goto (tgt := 140) hX hB dX7_pushes_136 (by decide) ?_
              refine lv_istore (lv' := [(5, .int (nZ 1)), (14, .int (nZ (s (((b + 27)) + (21 * j))))), (6, .int (nZ ((-5) + (((coinS (B.2 j) 0) - 5) - (-5))))), (13, .int (nZ ((-5) + (((coinS (B.2 j) 0) - 5) - (-5))))), (12, .int (nZ 0)), (11, .int (nZ (((coinS (B.2 j) 0) - 5) - (-5)))), (10, .int (nZ (coinS (B.2 j) 0))), (9, .int (nZ 1)), (8, .int (nZ 0)), (7, .int (nZ st)), (4, .int (nZ (-1))), (0, .ref mm), (1, .int (nZ ↑b)), (2, .int (nZ ↑j)), (3, .int (nZ st))]) hX hB dX7_pushes_140 hl (by decide) rfl (fun ls hl => ?_)
              refine lv_iload hX hB dX7_pushes_142 (lv_at hl 4 rfl) ?_
              refine zz_if_ne X (tgt := 185) dX7_pushes_144 (by decide) ⟨by omega, by omega⟩ (fun c_144 => ?_) (fun c_144 => ?_)
              · exfalso; omega
              · refine lv_iinc (v := nZ 1) (lv' := [(8, .int (nZ 1)), (5, .int (nZ 1)), (14, .int (nZ (s (((b + 27)) + (21 * j))))), (6, .int (nZ ((-5) + (((coinS (B.2 j) 0) - 5) - (-5))))), (13, .int (nZ ((-5) + (((coinS (B.2 j) 0) - 5) - (-5))))), (12, .int (nZ 0)), (11, .int (nZ (((coinS (B.2 j) 0) - 5) - (-5)))), (10, .int (nZ (coinS (B.2 j) 0))), (9, .int (nZ 1)), (7, .int (nZ st)), (4, .int (nZ (-1))), (0, .ref mm), (1, .int (nZ ↑b)), (2, .int (nZ ↑j)), (3, .int (nZ st))]) hX hB dX7_pushes_147 hl (k := 8) rfl (zinc (by omega)) (by decide) rfl (fun ls hl => ?_)
                refine lv_iload hX hB dX7_pushes_150 (lv_at hl 9 rfl) ?_
                refine lv_iload hX hB dX7_pushes_152 (lv_at hl 6 rfl) ?_
                refine lv_aload_n hX hB dX7_pushes_154 rfl (lv_at hl 11 rfl) ?_
                refine va_get hX hB hz inlX7 hW hK.1 hP 0 rfl rfl 0 (by decide) (hz _ zw_74) (fun _ h9 => h9) rfl dX7_pushes_155 ?_
                refine lv_iload_n hX hB dX7_pushes_158 rfl (lv_at hl 12 rfl) ?_
                refine lv_iconst (v := nZ 0) hX hB dX7_pushes_159 rfl ?_
                refine zz_iadd X dX7_pushes_160 (z := (↑(b + 0) : Int)) (by first | rfl | omega) ?_
                refine zz_iald X hP 1 0 rfl rfl (b + 0) (by omega) (by omega) (by first | decide | omega) dX7_pushes_161 ?_
                refine zz_iadd X dX7_pushes_162 (z := ((((coinS (B.2 j) 0) - 5) - (-5)) + (s2_111 (b + 0)))) (by first | rfl | omega) ?_
                refine zz_isub X dX7_pushes_163 (z := (st - ((((coinS (B.2 j) 0) - 5) - (-5)) + (s2_111 (b + 0))))) (by first | rfl | omega) ?_
                refine lv_istore (lv' := [(7, .int (nZ (st - ((((coinS (B.2 j) 0) - 5) - (-5)) + (s2_111 (b + 0)))))), (8, .int (nZ 1)), (5, .int (nZ 1)), (14, .int (nZ (s (((b + 27)) + (21 * j))))), (6, .int (nZ ((-5) + (((coinS (B.2 j) 0) - 5) - (-5))))), (13, .int (nZ ((-5) + (((coinS (B.2 j) 0) - 5) - (-5))))), (12, .int (nZ 0)), (11, .int (nZ (((coinS (B.2 j) 0) - 5) - (-5)))), (10, .int (nZ (coinS (B.2 j) 0))), (9, .int (nZ 1)), (4, .int (nZ (-1))), (0, .ref mm), (1, .int (nZ ↑b)), (2, .int (nZ ↑j)), (3, .int (nZ st))]) hX hB dX7_pushes_164 hl (by decide) rfl (fun ls hl => ?_)
                refine lv_iload hX hB dX7_pushes_166 (lv_at hl 10 rfl) ?_
                refine lv_iconst (v := nZ 1) hX hB dX7_pushes_168 rfl ?_
                refine lv_iload hX hB dX7_pushes_169 (lv_at hl 2 rfl) ?_
                refine zz_iadd X dX7_pushes_171 (z := 2) (by first | rfl | omega) ?_
                refine zz_iadd X dX7_pushes_172 (z := 1) (by first | rfl | omega) ?_
                refine lv_istore (lv' := [(4, .int (nZ 1)), (7, .int (nZ (st - ((((coinS (B.2 j) 0) - 5) - (-5)) + (s2_111 (b + 0)))))), (8, .int (nZ 1)), (5, .int (nZ 1)), (14, .int (nZ (s (((b + 27)) + (21 * j))))), (6, .int (nZ ((-5) + (((coinS (B.2 j) 0) - 5) - (-5))))), (13, .int (nZ ((-5) + (((coinS (B.2 j) 0) - 5) - (-5))))), (12, .int (nZ 0)), (11, .int (nZ (((coinS (B.2 j) 0) - 5) - (-5)))), (10, .int (nZ (coinS (B.2 j) 0))), (9, .int (nZ 1)), (0, .ref mm), (1, .int (nZ ↑b)), (2, .int (nZ ↑j)), (3, .int (nZ st))]) hX hB dX7_pushes_173 hl (by decide) rfl (fun ls hl => ?_)
                refine lv_aload_n hX hB dX7_pushes_175 rfl (lv_at hl 11 rfl) ?_
                refine lv_iload_n hX hB dX7_pushes_176 rfl (lv_at hl 12 rfl) ?_
                refine lv_iload_n hX hB dX7_pushes_177 rfl (lv_at hl 13 rfl) ?_
                refine lv_iload hX hB dX7_pushes_178 (lv_at hl 0 rfl) ?_
                refine zCallI0 (zRunV (As := [.int (nZ ↑b), .int (nZ ↑j), .int (nZ 1)]) X mv_X7_coinAt (c_X7_coinAt l D k _ mm ms mk mb vsv vty vth ven vsp vla vpc s2_111 b j (stopB B j (stopN (B.2 j) ((-5) + (((coinS (B.2 j) 0) - 5) - (-5)))) ((-5) + (((coinS (B.2 j) 0) - 5) - (-5)))) 1 (stopN (B.2 j) ((-5) + (((coinS (B.2 j) 0) - 5) - (-5)))) hB2_111 hbb hjj hm2_111 (by first | assumption | omega | exact ⟨by omega, by omega⟩)) zw_268 (zPreV hP hD hK [0, 1] rfl rfl 0 7 rfl rfl rfl) rfl hl (Nat.le_of_ble_eq_true rfl) dX7_pushes_180 ⟨rfl, rfl, ⟨Nat.le_of_ble_eq_true rfl, Nat.le_of_ble_eq_true rfl⟩, Nat.le_of_ble_eq_true rfl, Nat.le_of_ble_eq_true rfl⟩ rfl) hS hP hD hA [0, 1] rfl (fun _ => rfl) (fun r_180 u_180 H locs hq_180 hP hD hS => ?_)
                subst hq_180
                have hP : va_P D vwCl [(mm, .inr (7, [.ref ms, .int (nZ vsv), .ref mk, .ref mb, .int (nZ vty), .int (nZ vth), .int (nZ ven), .int (nZ vsp), .int (nZ vla), .int (nZ vpc)])), (ms, .inl (k 0, 900, .inl (zA s2_111)))] H := hP
                have hD : va_D A [(mm, .inr (7, [.ref ms, .int (nZ vsv), .ref mk, .ref mb, .int (nZ vty), .int (nZ vth), .int (nZ ven), .int (nZ vsp), .int (nZ vla), .int (nZ vpc)])), (ms, .inl (k 0, 900, .inl (zA s2_111)))] := hD
                refine lv_istore (lv' := [(6, .int (nZ (coinS (stopN (B.2 j) ((-5) + (((coinS (B.2 j) 0) - 5) - (-5)))) 1))), (4, .int (nZ 1)), (7, .int (nZ (st - ((((coinS (B.2 j) 0) - 5) - (-5)) + (s2_111 (b + 0)))))), (8, .int (nZ 1)), (5, .int (nZ 1)), (14, .int (nZ (s (((b + 27)) + (21 * j))))), (13, .int (nZ ((-5) + (((coinS (B.2 j) 0) - 5) - (-5))))), (12, .int (nZ 0)), (11, .int (nZ (((coinS (B.2 j) 0) - 5) - (-5)))), (10, .int (nZ (coinS (B.2 j) 0))), (9, .int (nZ 1)), (0, .ref mm), (1, .int (nZ ↑b)), (2, .int (nZ ↑j)), (3, .int (nZ st))]) hX hB dX7_pushes_183 hl (by decide) rfl (fun ls hl => ?_)
                have hn9 := stopN_gt (L := B.2 j) (x := ((-5) + (((coinS (B.2 j) 0) - 5) - (-5)))) (by omega)
                have hJ : pushI (B.1 0) st (B.2 j) (stopN (B.2 j) ((-5) + (((coinS (B.2 j) 0) - 5) - (-5)))) 1 (coinS (stopN (B.2 j) ((-5) + (((coinS (B.2 j) 0) - 5) - (-5)))) 1) (st - ((((coinS (B.2 j) 0) - 5) - (-5)) + (s2_111 (b + 0)))) 1 (if ((-5) + (((coinS (B.2 j) 0) - 5) - (-5))) < 0 then 1 else 0) := pushI_first hCh hcost.1 hst.2 (by omega) (by omega) (by first | rw [if_pos (by omega)] | rw [if_neg (by omega)]) (by rfl) (by omega)
                refine lv_iload hX hB dX7_pushes_185 (lv_at hl 7 rfl) ?_
                refine zz_if_ne X (tgt := 199) dX7_pushes_187 (by decide) ⟨by omega, by omega⟩ (fun c_187 => ?_) (fun c_187 => ?_)
                · exfalso; omega
                · refine lv_iload hX hB dX7_pushes_190 (lv_at hl 2 rfl) ?_
                  refine zz_if_le X (tgt := 199) dX7_pushes_192 (by decide) ⟨by omega, by omega⟩ (fun c_192 => ?_) (fun c_192 => ?_)
                  · refine lv_iconst (v := nZ 0) hX hB dX7_pushes_199 rfl ?_
                    refine lv_istore (lv' := [(9, .int (nZ 0)), (6, .int (nZ (coinS (stopN (B.2 j) ((-5) + (((coinS (B.2 j) 0) - 5) - (-5)))) 1))), (4, .int (nZ 1)), (7, .int (nZ (st - ((((coinS (B.2 j) 0) - 5) - (-5)) + (s2_111 (b + 0)))))), (8, .int (nZ 1)), (5, .int (nZ 1)), (14, .int (nZ (s (((b + 27)) + (21 * j))))), (13, .int (nZ ((-5) + (((coinS (B.2 j) 0) - 5) - (-5))))), (12, .int (nZ 0)), (11, .int (nZ (((coinS (B.2 j) 0) - 5) - (-5)))), (10, .int (nZ (coinS (B.2 j) 0))), (0, .ref mm), (1, .int (nZ ↑b)), (2, .int (nZ ↑j)), (3, .int (nZ st))]) hX hB dX7_pushes_200 hl (by decide) rfl (fun ls hl => ?_)
                    refine lv_goto (tgt := 19) hX hB dX7_pushes_202 (by decide) ?_
                    refine lv_iload hX hB dX7_pushes_19 (lv_at hl 0 rfl) ?_
                    refine zz_if_eq X (tgt := 205) dX7_pushes_21 (by decide) ⟨by omega, by omega⟩ (fun c_21_2 => ?_) (fun c_21_2 => ?_)
                    · have hQ : blkOk s2_111 b (midB B j (stopN (B.2 j) ((-5) + (((coinS (B.2 j) 0) - 5) - (-5)))) (B.1 5) (B.1 6 + (if ((-5) + (((coinS (B.2 j) 0) - 5) - (-5))) < 0 then 1 else 0))) := by (have h9 := hB2_111; unfold stopB at h9; rw [if_neg (by omega : ¬ ((-5) + (((coinS (B.2 j) 0) - 5) - (-5))) = 100), Int.add_zero] at h9; exact h9)
                      have hF1 := hf2_111
                      have hD9 := pushI_done hJ (by omega)
                      have hE := push_end hQ hD9 (by omega) rfl
                      refine lv_aload_n hX hB dX7_pushes_205 rfl (lv_at hl 11 rfl) ?_
                      refine lv_iload hX hB dX7_pushes_206 (lv_at hl 1 rfl) ?_
                      refine va_put (v := .int (nZ (coinS (stopN (B.2 j) ((-5) + (((coinS (B.2 j) 0) - 5) - (-5)))) 1))) (ty := tyX7 6) hX hB hz inlX7 tyX7 tyX7_ok nmX7 hW hK.1 hP hD hS 0 rfl rfl 6 (by decide) (hz _ zw_267) (fun _ h9 => h9) rfl (by decide +kernel) rfl rfl (Nat.le_of_ble_eq_true rfl) dX7_pushes_208 (fun H locs hP hD hS => ?_)
                      have hP : va_P D vwCl [(mm, .inr (7, [.ref ms, .int (nZ vsv), .ref mk, .ref mb, .int (nZ vty), .int (nZ vth), .int (nZ (coinS (stopN (B.2 j) ((-5) + (((coinS (B.2 j) 0) - 5) - (-5)))) 1)), .int (nZ vsp), .int (nZ vla), .int (nZ vpc)])), (ms, .inl (k 0, 900, .inl (zA s2_111)))] H := hP
                      have hD : va_D A [(mm, .inr (7, [.ref ms, .int (nZ vsv), .ref mk, .ref mb, .int (nZ vty), .int (nZ vth), .int (nZ (coinS (stopN (B.2 j) ((-5) + (((coinS (B.2 j) 0) - 5) - (-5)))) 1)), .int (nZ vsp), .int (nZ vla), .int (nZ vpc)])), (ms, .inl (k 0, 900, .inl (zA s2_111)))] := hD
                      refine lv_aload_n hX hB dX7_pushes_211 rfl (lv_at hl 11 rfl) ?_
                      refine va_get hX hB hz inlX7 hW hK.1 hP 0 rfl rfl 0 (by decide) (hz _ zw_74) (fun _ h9 => h9) rfl dX7_pushes_212 ?_
                      refine lv_iload_n hX hB dX7_pushes_215 rfl (lv_at hl 12 rfl) ?_
                      refine lv_bipush (v := nZ 7) hX hB dX7_pushes_216 (by decide) ?_
                      refine zz_iadd X dX7_pushes_218 (z := (↑(b + 7) : Int)) (by first | rfl | omega) ?_
                      refine lv_dup2_11 hX hB dX7_pushes_219 rfl rfl ?_
                      refine zz_iald X hP 1 0 rfl rfl (b + 7) (by omega) (by omega) (by first | decide | omega) dX7_pushes_220 ?_
                      refine lv_iload hX hB dX7_pushes_221 (lv_at hl 4 rfl) ?_
                      refine zz_iadd X dX7_pushes_223 (z := ((s2_111 (b + 7)) + 1)) (by first | rfl | omega) ?_
                      refine zz_iast X hP hD hS 1 0 rfl rfl (b + 7) (by omega) (by omega) (by first | decide | omega) dX7_pushes_224 (fun H locs hP hD hS => ?_)
                      have hP : va_P D vwCl [(mm, .inr (7, [.ref ms, .int (nZ vsv), .ref mk, .ref mb, .int (nZ vty), .int (nZ vth), .int (nZ (coinS (stopN (B.2 j) ((-5) + (((coinS (B.2 j) 0) - 5) - (-5)))) 1)), .int (nZ vsp), .int (nZ vla), .int (nZ vpc)])), (ms, .inl (k 0, 900, .inl (zA (zU s2_111 (b + 7) ((s2_111 (b + 7)) + 1)))))] H := hP
                      have hD : va_D A [(mm, .inr (7, [.ref ms, .int (nZ vsv), .ref mk, .ref mb, .int (nZ vty), .int (nZ vth), .int (nZ (coinS (stopN (B.2 j) ((-5) + (((coinS (B.2 j) 0) - 5) - (-5)))) 1)), .int (nZ vsp), .int (nZ vla), .int (nZ vpc)])), (ms, .inl (k 0, 900, .inl (zA (zU s2_111 (b + 7) ((s2_111 (b + 7)) + 1)))))] := hD
                      refine lv_iload hX hB dX7_pushes_225 (lv_at hl 4 rfl) ?_
                      exact zRetI ((zU s2_111 (b + 7) ((s2_111 (b + 7)) + 1)), (coinS (stopN (B.2 j) ((-5) + (((coinS (B.2 j) 0) - 5) - (-5)))) 1)) X hP hD hS rfl ⟨by congr 1; exact hD9.2.2.1.symm, hE, hF1.zU (by omega) (by omega), hD9.2.1.symm⟩ dX7_pushes_227
                    · exfalso; omega
                  · refine lv_iconst (v := nZ 1) hX hB dX7_pushes_195 rfl ?_
                    refine lv_goto (tgt := 200) hX hB dX7_pushes_196 (by decide) ?_
                    refine lv_istore (lv' := [(9, .int (nZ 1)), (6, .int (nZ (coinS (stopN (B.2 j) ((-5) + (((coinS (B.2 j) 0) - 5) - (-5)))) 1))), (4, .int (nZ 1)), (7, .int (nZ (st - ((((coinS (B.2 j) 0) - 5) - (-5)) + (s2_111 (b + 0)))))), (8, .int (nZ 1)), (5, .int (nZ 1)), (14, .int (nZ (s (((b + 27)) + (21 * j))))), (13, .int (nZ ((-5) + (((coinS (B.2 j) 0) - 5) - (-5))))), (12, .int (nZ 0)), (11, .int (nZ (((coinS (B.2 j) 0) - 5) - (-5)))), (10, .int (nZ (coinS (B.2 j) 0))), (0, .ref mm), (1, .int (nZ ↑b)), (2, .int (nZ ↑j)), (3, .int (nZ st))]) hX hB dX7_pushes_200 hl (by decide) rfl (fun ls hl => ?_)
                    refine lv_goto (tgt := 19) hX hB dX7_pushes_202 (by decide) ?_
                    have hQ : blkOk s2_111 b (midB B j (stopN (B.2 j) ((-5) + (((coinS (B.2 j) 0) - 5) - (-5)))) (B.1 5) (B.1 6 + (if ((-5) + (((coinS (B.2 j) 0) - 5) - (-5))) < 0 then 1 else 0))) := by (have h9 := hB2_111; unfold stopB at h9; rw [if_neg (by omega : ¬ ((-5) + (((coinS (B.2 j) 0) - 5) - (-5))) = 100), Int.add_zero] at h9; exact h9)
                    have hF1 := hf2_111
                    refine zLoop (σ := (Nat → Int) × Nat × (List Int) × Int × Int × Int × Int) (fun (x : (Nat → Int) × Nat × (List Int) × Int × Int × Int × Int) (H : Heap) (locs : List Loc) (ls : Array Slot) => match x with | (q, r, N, ap, lf, nd, tb) => (blkOk q b (midB B j N (B.1 5) (B.1 6 + tb))) ∧ (frOk s q b) ∧ (0 < lf ∧ lf ≤ 150) ∧ (pushI (B.1 0) st (B.2 j) N r ap lf nd tb) ∧ ((midB B j N (B.1 5) (B.1 6 + tb)).2 j = N) ∧ va_P D vwCl [(mm, .inr (7, [.ref ms, .int (nZ vsv), .ref mk, .ref mb, .int (nZ vty), .int (nZ vth), .int (nZ ven), .int (nZ vsp), .int (nZ vla), .int (nZ vpc)])), (ms, .inl (k 0, 900, .inl (zA q)))] H ∧ va_D A [(mm, .inr (7, [.ref ms, .int (nZ vsv), .ref mk, .ref mb, .int (nZ vty), .int (nZ vth), .int (nZ ven), .int (nZ vsp), .int (nZ vla), .int (nZ vpc)])), (ms, .inl (k 0, 900, .inl (zA q)))] ∧ va_S A s9.heap H locs ∧ lv_has ls 15 [(0, .ref mm), (1, .int (nZ ↑b)), (2, .int (nZ ↑j)), (3, .int (nZ st)), (4, .int (nZ ↑r)), (6, .int (nZ ap)), (7, .int (nZ lf)), (8, .int (nZ nd)), (9, .int (nZ 1))]) (fun (x : (Nat → Int) × Nat × (List Int) × Int × Int × Int × Int) => match x with | (q, r, N, ap, lf, nd, tb) => N.length - r) ?_ (s2_111, 1, (stopN (B.2 j) ((-5) + (((coinS (B.2 j) 0) - 5) - (-5)))), (coinS (stopN (B.2 j) ((-5) + (((coinS (B.2 j) 0) - 5) - (-5)))) 1), (st - ((((coinS (B.2 j) 0) - 5) - (-5)) + (s2_111 (b + 0)))), 1, (if ((-5) + (((coinS (B.2 j) 0) - 5) - (-5))) < 0 then 1 else 0)) ⟨(by exact hQ), (by exact hF1), (by first | omega | assumption | rfl), (by exact hJ), (by exact mid_lane _ _ _ _ _), hP, hD, hS, (lv_sub hl [11, 12, 13, 14, 2, 1, 3, 4, 0] rfl)⟩
                    rintro ⟨q, r, N, ap, lf, nd, tb⟩ H locs ls ⟨hq, hf, hlf, hI, hm, hP, hD, hS, hl⟩ ih_19
                    have hI1 := hI.1
                    refine lv_iload hX hB dX7_pushes_19 (lv_at hl 8 rfl) ?_
                    refine zz_if_eq X (tgt := 205) dX7_pushes_21 (by decide) ⟨by omega, by omega⟩ (fun c_21_2 => ?_) (fun c_21_2 => ?_)
                    · exfalso; omega
                    · refine lv_aload_n hX hB dX7_pushes_24 rfl (lv_at hl 0 rfl) ?_
                      refine lv_iload_n hX hB dX7_pushes_25 rfl (lv_at hl 1 rfl) ?_
                      refine lv_iload_n hX hB dX7_pushes_26 rfl (lv_at hl 2 rfl) ?_
                      refine lv_iload hX hB dX7_pushes_27 (lv_at hl 4 rfl) ?_
                      refine lv_iconst (v := nZ 1) hX hB dX7_pushes_29 rfl ?_
                      refine zz_iadd X dX7_pushes_30 (z := (↑(r + 1) : Int)) (by first | rfl | omega) ?_
                      refine zCallI0 (zRunV (As := [.int (nZ ↑b), .int (nZ ↑j), .int (nZ (↑(r + 1) : Int))]) X mv_X7_coinAt (c_X7_coinAt l D k _ mm ms mk mb vsv vty vth ven vsp vla vpc q b j (midB B j N (B.1 5) (B.1 6 + tb)) (r + 1) N hq hbb hjj hm (by first | assumption | omega | exact ⟨by omega, by omega⟩)) zw_268 (zPreV hP hD hK [0, 1] rfl rfl 0 7 rfl rfl rfl) rfl hl (Nat.le_of_ble_eq_true rfl) dX7_pushes_31 ⟨rfl, rfl, ⟨Nat.le_of_ble_eq_true rfl, Nat.le_of_ble_eq_true rfl⟩, Nat.le_of_ble_eq_true rfl, Nat.le_of_ble_eq_true rfl⟩ rfl) hS hP hD hA [0, 1] rfl (fun _ => rfl) (fun r_31_2 u_31_2 H locs hq_31_2 hP hD hS => ?_)
                      subst hq_31_2
                      have hP : va_P D vwCl [(mm, .inr (7, [.ref ms, .int (nZ vsv), .ref mk, .ref mb, .int (nZ vty), .int (nZ vth), .int (nZ ven), .int (nZ vsp), .int (nZ vla), .int (nZ vpc)])), (ms, .inl (k 0, 900, .inl (zA q)))] H := hP
                      have hD : va_D A [(mm, .inr (7, [.ref ms, .int (nZ vsv), .ref mk, .ref mb, .int (nZ vty), .int (nZ vth), .int (nZ ven), .int (nZ vsp), .int (nZ vla), .int (nZ vpc)])), (ms, .inl (k 0, 900, .inl (zA q)))] := hD
                      refine lv_istore (lv' := [(10, .int (nZ (coinS N (r + 1)))), (0, .ref mm), (1, .int (nZ ↑b)), (2, .int (nZ ↑j)), (3, .int (nZ st)), (4, .int (nZ ↑r)), (6, .int (nZ ap)), (7, .int (nZ lf)), (8, .int (nZ nd)), (9, .int (nZ 1))]) hX hB dX7_pushes_34 hl (by decide) rfl (fun ls hl => ?_)
                      have hco := hq.coin hjj (r + 1)
                      rw [hm] at hco
                      have hrm := pushI_room hI.1.1 hI.1.2.2.2.1
                      refine lv_iload hX hB dX7_pushes_36 (lv_at hl 0 rfl) ?_
                      refine lv_iconst (v := nZ 5) hX hB dX7_pushes_38 rfl ?_
                      refine zz_isub X dX7_pushes_39 (z := ((coinS N (r + 1)) - 5)) (by first | rfl | omega) ?_
                      refine lv_iload hX hB dX7_pushes_40 (lv_at hl 6 rfl) ?_
                      refine zz_isub X dX7_pushes_42 (z := (((coinS N (r + 1)) - 5) - ap)) (by first | rfl | omega) ?_
                      refine lv_istore (lv' := [(11, .int (nZ (((coinS N (r + 1)) - 5) - ap))), (10, .int (nZ (coinS N (r + 1)))), (0, .ref mm), (1, .int (nZ ↑b)), (2, .int (nZ ↑j)), (3, .int (nZ st)), (4, .int (nZ ↑r)), (6, .int (nZ ap)), (7, .int (nZ lf)), (8, .int (nZ nd)), (9, .int (nZ 1))]) hX hB dX7_pushes_43 hl (by decide) rfl (fun ls hl => ?_)
                      refine lv_iload hX hB dX7_pushes_45 (lv_at hl 8 rfl) ?_
                      refine lv_iload hX hB dX7_pushes_47 (lv_at hl 0 rfl) ?_
                      refine zz_icmp_gt X (tgt := 56) dX7_pushes_49 (by decide) ⟨by omega, by omega⟩ ⟨by omega, by omega⟩ (fun c_49_2 => ?_) (fun c_49_2 => ?_)
                      · refine lv_iconst (v := nZ 0) hX hB dX7_pushes_56 rfl ?_
                        refine lv_istore (lv' := [(12, .int (nZ 0)), (11, .int (nZ (((coinS N (r + 1)) - 5) - ap))), (10, .int (nZ (coinS N (r + 1)))), (0, .ref mm), (1, .int (nZ ↑b)), (2, .int (nZ ↑j)), (3, .int (nZ st)), (4, .int (nZ ↑r)), (6, .int (nZ ap)), (7, .int (nZ lf)), (8, .int (nZ nd)), (9, .int (nZ 1))]) hX hB dX7_pushes_57 hl (by decide) rfl (fun ls hl => ?_)
                        refine lv_iload hX hB dX7_pushes_59 (lv_at hl 8 rfl) ?_
                        refine lv_iload hX hB dX7_pushes_61 (lv_at hl 0 rfl) ?_
                        refine zz_if_eq X (tgt := 71) dX7_pushes_63 (by decide) ⟨by omega, by omega⟩ (fun c_63_2 => ?_) (fun c_63_2 => ?_)
                        · refine lv_iload hX hB dX7_pushes_71 (lv_at hl 1 rfl) ?_
                          refine zz_iadd X dX7_pushes_73 (z := (ap + (((coinS N (r + 1)) - 5) - ap))) (by first | rfl | omega) ?_
                          refine lv_istore (lv' := [(13, .int (nZ (ap + (((coinS N (r + 1)) - 5) - ap)))), (12, .int (nZ 0)), (11, .int (nZ (((coinS N (r + 1)) - 5) - ap))), (10, .int (nZ (coinS N (r + 1)))), (0, .ref mm), (1, .int (nZ ↑b)), (2, .int (nZ ↑j)), (3, .int (nZ st)), (4, .int (nZ ↑r)), (6, .int (nZ ap)), (7, .int (nZ lf)), (8, .int (nZ nd)), (9, .int (nZ 1))]) hX hB dX7_pushes_74 hl (by decide) rfl (fun ls hl => ?_)
                          refine lv_iload hX hB dX7_pushes_76 (lv_at hl 0 rfl) ?_
                          refine lv_bipush (v := nZ 100) hX hB dX7_pushes_78 (by decide) ?_
                          refine zz_icmp_le X (tgt := 88) dX7_pushes_80 (by decide) ⟨by omega, by omega⟩ ⟨by omega, by omega⟩ (fun c_80_2 => ?_) (fun c_80_2 => ?_)
                          · refine lv_iload hX hB dX7_pushes_88 (lv_at hl 0 rfl) ?_
                            refine lv_istore (lv' := [(6, .int (nZ (ap + (((coinS N (r + 1)) - 5) - ap)))), (13, .int (nZ (ap + (((coinS N (r + 1)) - 5) - ap)))), (12, .int (nZ 0)), (11, .int (nZ (((coinS N (r + 1)) - 5) - ap))), (10, .int (nZ (coinS N (r + 1)))), (0, .ref mm), (1, .int (nZ ↑b)), (2, .int (nZ ↑j)), (3, .int (nZ st)), (4, .int (nZ ↑r)), (7, .int (nZ lf)), (8, .int (nZ nd)), (9, .int (nZ 1))]) hX hB dX7_pushes_90 hl (by decide) rfl (fun ls hl => ?_)
                            obtain ⟨hx1, hx2, hx3, hx4, hx5, hx6, hx7, hx8⟩ := pushI_step (x := (ap + (((coinS N (r + 1)) - 5) - ap))) hI hlf (by omega) (by omega)
                            refine lv_aload_n hX hB dX7_pushes_92 rfl (lv_at hl 5 rfl) ?_
                            refine va_get hX hB hz inlX7 hW hK.1 hP 0 rfl rfl 0 (by decide) (hz _ zw_74) (fun _ h9 => h9) rfl dX7_pushes_93 ?_
                            refine lv_iload_n hX hB dX7_pushes_96 rfl (lv_at hl 6 rfl) ?_
                            refine lv_iload_n hX hB dX7_pushes_97 rfl (lv_at hl 7 rfl) ?_
                            refine zCallI0 (zRunS X ms_X7_laneAt (c_X7_laneAt l D k _ b j ) zw_272 (zPreS hP hD hK [] rfl rfl) rfl hl (Nat.le_of_ble_eq_true rfl) dX7_pushes_98 ⟨rfl, rfl, ⟨Nat.le_of_ble_eq_true rfl, Nat.le_of_ble_eq_true rfl⟩, Nat.le_of_ble_eq_true rfl, Nat.le_of_ble_eq_true rfl⟩ rfl) hS hP hD hA [] rfl (fun _ => rfl) (fun r_98_2 u_98_2 H locs hq_98_2 hP hD hS => ?_)
                            subst hq_98_2
                            have hP : va_P D vwCl [(mm, .inr (7, [.ref ms, .int (nZ vsv), .ref mk, .ref mb, .int (nZ vty), .int (nZ vth), .int (nZ ven), .int (nZ vsp), .int (nZ vla), .int (nZ vpc)])), (ms, .inl (k 0, 900, .inl (zA q)))] H := hP
                            have hD : va_D A [(mm, .inr (7, [.ref ms, .int (nZ vsv), .ref mk, .ref mb, .int (nZ vty), .int (nZ vth), .int (nZ ven), .int (nZ vsp), .int (nZ vla), .int (nZ vpc)])), (ms, .inl (k 0, 900, .inl (zA q)))] := hD
                            refine zz_iald X hP 1 0 rfl rfl (((b + 27)) + (21 * j)) (by omega) (by omega) (by first | decide | omega) dX7_pushes_101 ?_
                            refine lv_istore (lv' := [(14, .int (nZ (q (((b + 27)) + (21 * j))))), (6, .int (nZ (ap + (((coinS N (r + 1)) - 5) - ap)))), (13, .int (nZ (ap + (((coinS N (r + 1)) - 5) - ap)))), (12, .int (nZ 0)), (11, .int (nZ (((coinS N (r + 1)) - 5) - ap))), (10, .int (nZ (coinS N (r + 1)))), (0, .ref mm), (1, .int (nZ ↑b)), (2, .int (nZ ↑j)), (3, .int (nZ st)), (4, .int (nZ ↑r)), (7, .int (nZ lf)), (8, .int (nZ nd)), (9, .int (nZ 1))]) hX hB dX7_pushes_102 hl (by decide) rfl (fun ls hl => ?_)
                            refine lv_aload_n hX hB dX7_pushes_104 rfl (lv_at hl 6 rfl) ?_
                            refine lv_iload_n hX hB dX7_pushes_105 rfl (lv_at hl 7 rfl) ?_
                            refine lv_iload_n hX hB dX7_pushes_106 rfl (lv_at hl 8 rfl) ?_
                            refine lv_iload hX hB dX7_pushes_107 (lv_at hl 10 rfl) ?_
                            refine lv_iload hX hB dX7_pushes_109 (lv_at hl 1 rfl) ?_
                            refine zCallV0 (zRunV (As := [.int (nZ ↑b), .int (nZ ↑j), .int (nZ ↑r), .int (nZ (ap + (((coinS N (r + 1)) - 5) - ap)))]) X mv_X7_rests (c_X7_rests_r l D k _ mm ms mk mb vsv vty vth ven vsp vla vpc q b j (midB B j N (B.1 5) (B.1 6 + tb)) (ap + (((coinS N (r + 1)) - 5) - ap)) N r hq hbb hjj hm (by first | assumption | omega | exact ⟨by omega, by omega⟩) (by first | assumption | omega | exact ⟨by omega, by omega⟩)) zw_275 (zPreV hP hD hK [0, 1] rfl rfl 0 7 rfl rfl rfl) rfl hl (Nat.le_of_ble_eq_true rfl) dX7_pushes_111 ⟨rfl, rfl, ⟨Nat.le_of_ble_eq_true rfl, Nat.le_of_ble_eq_true rfl⟩, Nat.le_of_ble_eq_true rfl, Nat.le_of_ble_eq_true rfl⟩ rfl) hS hP hD hA [0, 1] rfl (fun _ => rfl) (fun u_111_2 H locs hq_111_2 hP hD hS => ?_)
                            obtain ⟨s2_111_2, e9⟩ : ∃ z9, z9 = u_111_2 := ⟨_, rfl⟩; subst e9
                            obtain ⟨hB2_111_2, hf2_111_2, hm2_111_2⟩ := hq_111_2
                            try dsimp only at hB2_111_2 hf2_111_2 hm2_111_2
                            have hP : va_P D vwCl [(mm, .inr (7, [.ref ms, .int (nZ vsv), .ref mk, .ref mb, .int (nZ vty), .int (nZ vth), .int (nZ ven), .int (nZ vsp), .int (nZ vla), .int (nZ vpc)])), (ms, .inl (k 0, 900, .inl (zA s2_111_2)))] H := hP
                            have hD : va_D A [(mm, .inr (7, [.ref ms, .int (nZ vsv), .ref mk, .ref mb, .int (nZ vty), .int (nZ vth), .int (nZ ven), .int (nZ vsp), .int (nZ vla), .int (nZ vpc)])), (ms, .inl (k 0, 900, .inl (zA s2_111_2)))] := hD
                            have hl8 := hB2_111_2.len hjj
                            rw [hm2_111_2] at hl8
                            have hc0 : s2_111_2 (b + 0) = B.1 0 := hB2_111_2.num (k := 0) (by omega)
                            refine lv_iload hX hB dX7_pushes_114 (lv_at hl 10 rfl) ?_
                            refine lv_iconst (v := nZ (-1)) hX hB dX7_pushes_116 rfl ?_
                            refine zz_icmp_ne X (tgt := 139) dX7_pushes_117 (by decide) ⟨by omega, by omega⟩ ⟨by omega, by omega⟩ (fun c_117_2 => ?_) (fun c_117_2 => ?_)
                            · refine lv_iconst (v := nZ 0) hX hB dX7_pushes_139 rfl ?_
                              refine lv_istore (lv' := [(5, .int (nZ 0)), (14, .int (nZ (q (((b + 27)) + (21 * j))))), (6, .int (nZ (ap + (((coinS N (r + 1)) - 5) - ap)))), (13, .int (nZ (ap + (((coinS N (r + 1)) - 5) - ap)))), (12, .int (nZ 0)), (11, .int (nZ (((coinS N (r + 1)) - 5) - ap))), (10, .int (nZ (coinS N (r + 1)))), (0, .ref mm), (1, .int (nZ ↑b)), (2, .int (nZ ↑j)), (3, .int (nZ st)), (4, .int (nZ ↑r)), (7, .int (nZ lf)), (8, .int (nZ nd)), (9, .int (nZ 1))]) hX hB dX7_pushes_140 hl (by decide) rfl (fun ls hl => ?_)
                              refine lv_iload hX hB dX7_pushes_142 (lv_at hl 4 rfl) ?_
                              refine zz_if_ne X (tgt := 185) dX7_pushes_144 (by decide) ⟨by omega, by omega⟩ (fun c_144_2 => ?_) (fun c_144_2 => ?_)
                              · exfalso; omega
                              · refine lv_iinc (v := nZ (nd + 1)) (lv' := [(8, .int (nZ (nd + 1))), (5, .int (nZ 0)), (14, .int (nZ (q (((b + 27)) + (21 * j))))), (6, .int (nZ (ap + (((coinS N (r + 1)) - 5) - ap)))), (13, .int (nZ (ap + (((coinS N (r + 1)) - 5) - ap)))), (12, .int (nZ 0)), (11, .int (nZ (((coinS N (r + 1)) - 5) - ap))), (10, .int (nZ (coinS N (r + 1)))), (0, .ref mm), (1, .int (nZ ↑b)), (2, .int (nZ ↑j)), (3, .int (nZ st)), (4, .int (nZ ↑r)), (7, .int (nZ lf)), (9, .int (nZ 1))]) hX hB dX7_pushes_147 hl (k := 13) rfl (zinc (by omega)) (by decide) rfl (fun ls hl => ?_)
                                refine lv_iload hX hB dX7_pushes_150 (lv_at hl 13 rfl) ?_
                                refine lv_iload hX hB dX7_pushes_152 (lv_at hl 6 rfl) ?_
                                refine lv_aload_n hX hB dX7_pushes_154 rfl (lv_at hl 8 rfl) ?_
                                refine va_get hX hB hz inlX7 hW hK.1 hP 0 rfl rfl 0 (by decide) (hz _ zw_74) (fun _ h9 => h9) rfl dX7_pushes_155 ?_
                                refine lv_iload_n hX hB dX7_pushes_158 rfl (lv_at hl 9 rfl) ?_
                                refine lv_iconst (v := nZ 0) hX hB dX7_pushes_159 rfl ?_
                                refine zz_iadd X dX7_pushes_160 (z := (↑(b + 0) : Int)) (by first | rfl | omega) ?_
                                refine zz_iald X hP 1 0 rfl rfl (b + 0) (by omega) (by omega) (by first | decide | omega) dX7_pushes_161 ?_
                                refine zz_iadd X dX7_pushes_162 (z := ((((coinS N (r + 1)) - 5) - ap) + (s2_111_2 (b + 0)))) (by first | rfl | omega) ?_
                                refine zz_isub X dX7_pushes_163 (z := (lf - ((((coinS N (r + 1)) - 5) - ap) + (s2_111_2 (b + 0))))) (by first | rfl | omega) ?_
                                refine lv_istore (lv' := [(7, .int (nZ (lf - ((((coinS N (r + 1)) - 5) - ap) + (s2_111_2 (b + 0)))))), (8, .int (nZ (nd + 1))), (5, .int (nZ 0)), (14, .int (nZ (q (((b + 27)) + (21 * j))))), (6, .int (nZ (ap + (((coinS N (r + 1)) - 5) - ap)))), (13, .int (nZ (ap + (((coinS N (r + 1)) - 5) - ap)))), (12, .int (nZ 0)), (11, .int (nZ (((coinS N (r + 1)) - 5) - ap))), (10, .int (nZ (coinS N (r + 1)))), (0, .ref mm), (1, .int (nZ ↑b)), (2, .int (nZ ↑j)), (3, .int (nZ st)), (4, .int (nZ ↑r)), (9, .int (nZ 1))]) hX hB dX7_pushes_164 hl (by decide) rfl (fun ls hl => ?_)
                                refine lv_iload hX hB dX7_pushes_166 (lv_at hl 13 rfl) ?_
                                refine lv_iconst (v := nZ 1) hX hB dX7_pushes_168 rfl ?_
                                refine lv_iload hX hB dX7_pushes_169 (lv_at hl 2 rfl) ?_
                                refine zz_iadd X dX7_pushes_171 (z := 1) (by first | rfl | omega) ?_
                                refine zz_iadd X dX7_pushes_172 (z := (↑(r + 1) : Int)) (by first | rfl | omega) ?_
                                refine lv_istore (lv' := [(4, .int (nZ (↑(r + 1) : Int))), (7, .int (nZ (lf - ((((coinS N (r + 1)) - 5) - ap) + (s2_111_2 (b + 0)))))), (8, .int (nZ (nd + 1))), (5, .int (nZ 0)), (14, .int (nZ (q (((b + 27)) + (21 * j))))), (6, .int (nZ (ap + (((coinS N (r + 1)) - 5) - ap)))), (13, .int (nZ (ap + (((coinS N (r + 1)) - 5) - ap)))), (12, .int (nZ 0)), (11, .int (nZ (((coinS N (r + 1)) - 5) - ap))), (10, .int (nZ (coinS N (r + 1)))), (0, .ref mm), (1, .int (nZ ↑b)), (2, .int (nZ ↑j)), (3, .int (nZ st)), (9, .int (nZ 1))]) hX hB dX7_pushes_173 hl (by decide) rfl (fun ls hl => ?_)
                                refine lv_aload_n hX hB dX7_pushes_175 rfl (lv_at hl 10 rfl) ?_
                                refine lv_iload_n hX hB dX7_pushes_176 rfl (lv_at hl 11 rfl) ?_
                                refine lv_iload_n hX hB dX7_pushes_177 rfl (lv_at hl 12 rfl) ?_
                                refine lv_iload hX hB dX7_pushes_178 (lv_at hl 0 rfl) ?_
                                refine zCallI0 (zRunV (As := [.int (nZ ↑b), .int (nZ ↑j), .int (nZ (↑(r + 1) : Int))]) X mv_X7_coinAt (c_X7_coinAt l D k _ mm ms mk mb vsv vty vth ven vsp vla vpc s2_111_2 b j (stopB (midB B j N (B.1 5) (B.1 6 + tb)) j (stopR N r (ap + (((coinS N (r + 1)) - 5) - ap))) (ap + (((coinS N (r + 1)) - 5) - ap))) (r + 1) (stopR N r (ap + (((coinS N (r + 1)) - 5) - ap))) hB2_111_2 hbb hjj hm2_111_2 (by first | assumption | omega | exact ⟨by omega, by omega⟩)) zw_268 (zPreV hP hD hK [0, 1] rfl rfl 0 7 rfl rfl rfl) rfl hl (Nat.le_of_ble_eq_true rfl) dX7_pushes_180 ⟨rfl, rfl, ⟨Nat.le_of_ble_eq_true rfl, Nat.le_of_ble_eq_true rfl⟩, Nat.le_of_ble_eq_true rfl, Nat.le_of_ble_eq_true rfl⟩ rfl) hS hP hD hA [0, 1] rfl (fun _ => rfl) (fun r_180_2 u_180_2 H locs hq_180_2 hP hD hS => ?_)
                                subst hq_180_2
                                have hP : va_P D vwCl [(mm, .inr (7, [.ref ms, .int (nZ vsv), .ref mk, .ref mb, .int (nZ vty), .int (nZ vth), .int (nZ ven), .int (nZ vsp), .int (nZ vla), .int (nZ vpc)])), (ms, .inl (k 0, 900, .inl (zA s2_111_2)))] H := hP
                                have hD : va_D A [(mm, .inr (7, [.ref ms, .int (nZ vsv), .ref mk, .ref mb, .int (nZ vty), .int (nZ vth), .int (nZ ven), .int (nZ vsp), .int (nZ vla), .int (nZ vpc)])), (ms, .inl (k 0, 900, .inl (zA s2_111_2)))] := hD
                                refine lv_istore (lv' := [(6, .int (nZ (coinS (stopR N r (ap + (((coinS N (r + 1)) - 5) - ap))) (r + 1)))), (4, .int (nZ (↑(r + 1) : Int))), (7, .int (nZ (lf - ((((coinS N (r + 1)) - 5) - ap) + (s2_111_2 (b + 0)))))), (8, .int (nZ (nd + 1))), (5, .int (nZ 0)), (14, .int (nZ (q (((b + 27)) + (21 * j))))), (13, .int (nZ (ap + (((coinS N (r + 1)) - 5) - ap)))), (12, .int (nZ 0)), (11, .int (nZ (((coinS N (r + 1)) - 5) - ap))), (10, .int (nZ (coinS N (r + 1)))), (0, .ref mm), (1, .int (nZ ↑b)), (2, .int (nZ ↑j)), (3, .int (nZ st)), (9, .int (nZ 1))]) hX hB dX7_pushes_183 hl (by decide) rfl (fun ls hl => ?_)
                                have hJ : pushI (B.1 0) st (B.2 j) (stopR N r (ap + (((coinS N (r + 1)) - 5) - ap))) (r + 1) (coinS (stopR N r (ap + (((coinS N (r + 1)) - 5) - ap))) (r + 1)) (lf - ((((coinS N (r + 1)) - 5) - ap) + (s2_111_2 (b + 0)))) (nd + 1) tb := by (have h9 := hx8; rw [show (lf - ((((coinS N (r + 1)) - 5) - ap) + (s2_111_2 (b + 0)))) = lf - ((coinS N (r + 1) - 5 - ap) + B.1 0) by omega]; exact h9)
                                refine lv_iload hX hB dX7_pushes_185 (lv_at hl 7 rfl) ?_
                                refine zz_if_ne X (tgt := 199) dX7_pushes_187 (by decide) ⟨by omega, by omega⟩ (fun c_187_2 => ?_) (fun c_187_2 => ?_)
                                · exfalso; omega
                                · refine lv_iload hX hB dX7_pushes_190 (lv_at hl 2 rfl) ?_
                                  refine zz_if_le X (tgt := 199) dX7_pushes_192 (by decide) ⟨by omega, by omega⟩ (fun c_192_2 => ?_) (fun c_192_2 => ?_)
                                  · refine lv_iconst (v := nZ 0) hX hB dX7_pushes_199 rfl ?_
                                    refine lv_istore (lv' := [(9, .int (nZ 0)), (6, .int (nZ (coinS (stopR N r (ap + (((coinS N (r + 1)) - 5) - ap))) (r + 1)))), (4, .int (nZ (↑(r + 1) : Int))), (7, .int (nZ (lf - ((((coinS N (r + 1)) - 5) - ap) + (s2_111_2 (b + 0)))))), (8, .int (nZ (nd + 1))), (5, .int (nZ 0)), (14, .int (nZ (q (((b + 27)) + (21 * j))))), (13, .int (nZ (ap + (((coinS N (r + 1)) - 5) - ap)))), (12, .int (nZ 0)), (11, .int (nZ (((coinS N (r + 1)) - 5) - ap))), (10, .int (nZ (coinS N (r + 1)))), (0, .ref mm), (1, .int (nZ ↑b)), (2, .int (nZ ↑j)), (3, .int (nZ st))]) hX hB dX7_pushes_200 hl (by decide) rfl (fun ls hl => ?_)
                                    refine lv_goto (tgt := 19) hX hB dX7_pushes_202 (by decide) ?_
                                    refine lv_iload hX hB dX7_pushes_19 (lv_at hl 0 rfl) ?_
                                    refine zz_if_eq X (tgt := 205) dX7_pushes_21 (by decide) ⟨by omega, by omega⟩ (fun c_21_3 => ?_) (fun c_21_3 => ?_)
                                    · have hQ : blkOk s2_111_2 b (midB B j (stopR N r (ap + (((coinS N (r + 1)) - 5) - ap))) (B.1 5) (B.1 6 + tb)) := by (have h9 := mid_mid hB2_111_2; rw [if_neg (by omega), if_neg (by omega), Int.add_zero, Int.add_zero] at h9; exact h9)
                                      have hF1 := hf.trans hf2_111_2
                                      have hLN := hx7
                                      have hD9 := pushI_done hJ (by omega)
                                      have hE := push_end hQ hD9 (by omega) rfl
                                      refine lv_aload_n hX hB dX7_pushes_205 rfl (lv_at hl 11 rfl) ?_
                                      refine lv_iload hX hB dX7_pushes_206 (lv_at hl 1 rfl) ?_
                                      refine va_put (v := .int (nZ (coinS (stopR N r (ap + (((coinS N (r + 1)) - 5) - ap))) (r + 1)))) (ty := tyX7 6) hX hB hz inlX7 tyX7 tyX7_ok nmX7 hW hK.1 hP hD hS 0 rfl rfl 6 (by decide) (hz _ zw_267) (fun _ h9 => h9) rfl (by decide +kernel) rfl rfl (Nat.le_of_ble_eq_true rfl) dX7_pushes_208 (fun H locs hP hD hS => ?_)
                                      have hP : va_P D vwCl [(mm, .inr (7, [.ref ms, .int (nZ vsv), .ref mk, .ref mb, .int (nZ vty), .int (nZ vth), .int (nZ (coinS (stopR N r (ap + (((coinS N (r + 1)) - 5) - ap))) (r + 1))), .int (nZ vsp), .int (nZ vla), .int (nZ vpc)])), (ms, .inl (k 0, 900, .inl (zA s2_111_2)))] H := hP
                                      have hD : va_D A [(mm, .inr (7, [.ref ms, .int (nZ vsv), .ref mk, .ref mb, .int (nZ vty), .int (nZ vth), .int (nZ (coinS (stopR N r (ap + (((coinS N (r + 1)) - 5) - ap))) (r + 1))), .int (nZ vsp), .int (nZ vla), .int (nZ vpc)])), (ms, .inl (k 0, 900, .inl (zA s2_111_2)))] := hD
                                      refine lv_aload_n hX hB dX7_pushes_211 rfl (lv_at hl 11 rfl) ?_
                                      refine va_get hX hB hz inlX7 hW hK.1 hP 0 rfl rfl 0 (by decide) (hz _ zw_74) (fun _ h9 => h9) rfl dX7_pushes_212 ?_
                                      refine lv_iload_n hX hB dX7_pushes_215 rfl (lv_at hl 12 rfl) ?_
                                      refine lv_bipush (v := nZ 7) hX hB dX7_pushes_216 (by decide) ?_
                                      refine zz_iadd X dX7_pushes_218 (z := (↑(b + 7) : Int)) (by first | rfl | omega) ?_
                                      refine lv_dup2_11 hX hB dX7_pushes_219 rfl rfl ?_
                                      refine zz_iald X hP 1 0 rfl rfl (b + 7) (by omega) (by omega) (by first | decide | omega) dX7_pushes_220 ?_
                                      refine lv_iload hX hB dX7_pushes_221 (lv_at hl 4 rfl) ?_
                                      refine zz_iadd X dX7_pushes_223 (z := ((s2_111_2 (b + 7)) + (nd + 1))) (by first | rfl | omega) ?_
                                      refine zz_iast X hP hD hS 1 0 rfl rfl (b + 7) (by omega) (by omega) (by first | decide | omega) dX7_pushes_224 (fun H locs hP hD hS => ?_)
                                      have hP : va_P D vwCl [(mm, .inr (7, [.ref ms, .int (nZ vsv), .ref mk, .ref mb, .int (nZ vty), .int (nZ vth), .int (nZ (coinS (stopR N r (ap + (((coinS N (r + 1)) - 5) - ap))) (r + 1))), .int (nZ vsp), .int (nZ vla), .int (nZ vpc)])), (ms, .inl (k 0, 900, .inl (zA (zU s2_111_2 (b + 7) ((s2_111_2 (b + 7)) + (nd + 1))))))] H := hP
                                      have hD : va_D A [(mm, .inr (7, [.ref ms, .int (nZ vsv), .ref mk, .ref mb, .int (nZ vty), .int (nZ vth), .int (nZ (coinS (stopR N r (ap + (((coinS N (r + 1)) - 5) - ap))) (r + 1))), .int (nZ vsp), .int (nZ vla), .int (nZ vpc)])), (ms, .inl (k 0, 900, .inl (zA (zU s2_111_2 (b + 7) ((s2_111_2 (b + 7)) + (nd + 1))))))] := hD
                                      refine lv_iload hX hB dX7_pushes_225 (lv_at hl 4 rfl) ?_
                                      exact zRetI ((zU s2_111_2 (b + 7) ((s2_111_2 (b + 7)) + (nd + 1))), (coinS (stopR N r (ap + (((coinS N (r + 1)) - 5) - ap))) (r + 1))) X hP hD hS rfl ⟨by congr 1; exact hD9.2.2.1.symm, hE, hF1.zU (by omega) (by omega), hD9.2.1.symm⟩ dX7_pushes_227
                                    · exfalso; omega
                                  · refine lv_iconst (v := nZ 1) hX hB dX7_pushes_195 rfl ?_
                                    refine lv_goto (tgt := 200) hX hB dX7_pushes_196 (by decide) ?_
                                    refine lv_istore (lv' := [(9, .int (nZ 1)), (6, .int (nZ (coinS (stopR N r (ap + (((coinS N (r + 1)) - 5) - ap))) (r + 1)))), (4, .int (nZ (↑(r + 1) : Int))), (7, .int (nZ (lf - ((((coinS N (r + 1)) - 5) - ap) + (s2_111_2 (b + 0)))))), (8, .int (nZ (nd + 1))), (5, .int (nZ 0)), (14, .int (nZ (q (((b + 27)) + (21 * j))))), (13, .int (nZ (ap + (((coinS N (r + 1)) - 5) - ap)))), (12, .int (nZ 0)), (11, .int (nZ (((coinS N (r + 1)) - 5) - ap))), (10, .int (nZ (coinS N (r + 1)))), (0, .ref mm), (1, .int (nZ ↑b)), (2, .int (nZ ↑j)), (3, .int (nZ st))]) hX hB dX7_pushes_200 hl (by decide) rfl (fun ls hl => ?_)
                                    refine lv_goto (tgt := 19) hX hB dX7_pushes_202 (by decide) ?_
                                    have hQ : blkOk s2_111_2 b (midB B j (stopR N r (ap + (((coinS N (r + 1)) - 5) - ap))) (B.1 5) (B.1 6 + tb)) := by (have h9 := mid_mid hB2_111_2; rw [if_neg (by omega), if_neg (by omega), Int.add_zero, Int.add_zero] at h9; exact h9)
                                    have hF1 := hf.trans hf2_111_2
                                    have hLN := hx7
                                    exact ih_19 (s2_111_2, (r + 1), (stopR N r (ap + (((coinS N (r + 1)) - 5) - ap))), (coinS (stopR N r (ap + (((coinS N (r + 1)) - 5) - ap))) (r + 1)), (lf - ((((coinS N (r + 1)) - 5) - ap) + (s2_111_2 (b + 0)))), (nd + 1), tb) _ _ _ ⟨(by exact hQ), (by exact hF1), (by first | omega | assumption | rfl), (by exact hJ), (by exact mid_lane _ _ _ _ _), hP, hD, hS, (lv_sub hl [11, 12, 13, 14, 2, 1, 3, 4, 0] rfl)⟩ (by dsimp only; rw [hLN]; omega)
                            · exfalso; omega
                          · exfalso; omega
                        · exfalso; omega
                      · refine lv_iconst (v := nZ 1) hX hB dX7_pushes_52 rfl ?_
                        refine lv_goto (tgt := 57) hX hB dX7_pushes_53 (by decide) ?_
                        refine lv_istore (lv' := [(12, .int (nZ 1)), (11, .int (nZ (((coinS N (r + 1)) - 5) - ap))), (10, .int (nZ (coinS N (r + 1)))), (0, .ref mm), (1, .int (nZ ↑b)), (2, .int (nZ ↑j)), (3, .int (nZ st)), (4, .int (nZ ↑r)), (6, .int (nZ ap)), (7, .int (nZ lf)), (8, .int (nZ nd)), (9, .int (nZ 1))]) hX hB dX7_pushes_57 hl (by decide) rfl (fun ls hl => ?_)
                        refine lv_iload hX hB dX7_pushes_59 (lv_at hl 8 rfl) ?_
                        refine lv_iload hX hB dX7_pushes_61 (lv_at hl 0 rfl) ?_
                        refine zz_if_eq X (tgt := 71) dX7_pushes_63 (by decide) ⟨by omega, by omega⟩ (fun c_63_2 => ?_) (fun c_63_2 => ?_)
                        · exfalso; omega
                        · refine lv_iload hX hB dX7_pushes_66 (lv_at hl 9 rfl) ?_
                          refine lv_goto (tgt := 73) hX hB dX7_pushes_68 (by decide) ?_
                          refine zz_iadd X dX7_pushes_73 (z := (ap + lf)) (by first | rfl | omega) ?_
                          refine lv_istore (lv' := [(13, .int (nZ (ap + lf))), (12, .int (nZ 1)), (11, .int (nZ (((coinS N (r + 1)) - 5) - ap))), (10, .int (nZ (coinS N (r + 1)))), (0, .ref mm), (1, .int (nZ ↑b)), (2, .int (nZ ↑j)), (3, .int (nZ st)), (4, .int (nZ ↑r)), (6, .int (nZ ap)), (7, .int (nZ lf)), (8, .int (nZ nd)), (9, .int (nZ 1))]) hX hB dX7_pushes_74 hl (by decide) rfl (fun ls hl => ?_)
                          refine lv_iload hX hB dX7_pushes_76 (lv_at hl 0 rfl) ?_
                          refine lv_bipush (v := nZ 100) hX hB dX7_pushes_78 (by decide) ?_
                          refine zz_icmp_le X (tgt := 88) dX7_pushes_80 (by decide) ⟨by omega, by omega⟩ ⟨by omega, by omega⟩ (fun c_80_2 => ?_) (fun c_80_2 => ?_)
                          · refine lv_iload hX hB dX7_pushes_88 (lv_at hl 0 rfl) ?_
                            refine lv_istore (lv' := [(6, .int (nZ (ap + lf))), (13, .int (nZ (ap + lf))), (12, .int (nZ 1)), (11, .int (nZ (((coinS N (r + 1)) - 5) - ap))), (10, .int (nZ (coinS N (r + 1)))), (0, .ref mm), (1, .int (nZ ↑b)), (2, .int (nZ ↑j)), (3, .int (nZ st)), (4, .int (nZ ↑r)), (7, .int (nZ lf)), (8, .int (nZ nd)), (9, .int (nZ 1))]) hX hB dX7_pushes_90 hl (by decide) rfl (fun ls hl => ?_)
                            obtain ⟨hD9, hx1, hx2⟩ := pushI_stop (x := (ap + lf)) hI hlf (by omega) (by omega)
                            refine lv_aload_n hX hB dX7_pushes_92 rfl (lv_at hl 5 rfl) ?_
                            refine va_get hX hB hz inlX7 hW hK.1 hP 0 rfl rfl 0 (by decide) (hz _ zw_74) (fun _ h9 => h9) rfl dX7_pushes_93 ?_
                            refine lv_iload_n hX hB dX7_pushes_96 rfl (lv_at hl 6 rfl) ?_
                            refine lv_iload_n hX hB dX7_pushes_97 rfl (lv_at hl 7 rfl) ?_
                            refine zCallI0 (zRunS X ms_X7_laneAt (c_X7_laneAt l D k _ b j ) zw_272 (zPreS hP hD hK [] rfl rfl) rfl hl (Nat.le_of_ble_eq_true rfl) dX7_pushes_98 ⟨rfl, rfl, ⟨Nat.le_of_ble_eq_true rfl, Nat.le_of_ble_eq_true rfl⟩, Nat.le_of_ble_eq_true rfl, Nat.le_of_ble_eq_true rfl⟩ rfl) hS hP hD hA [] rfl (fun _ => rfl) (fun r_98_2 u_98_2 H locs hq_98_2 hP hD hS => ?_)
                            subst hq_98_2
                            have hP : va_P D vwCl [(mm, .inr (7, [.ref ms, .int (nZ vsv), .ref mk, .ref mb, .int (nZ vty), .int (nZ vth), .int (nZ ven), .int (nZ vsp), .int (nZ vla), .int (nZ vpc)])), (ms, .inl (k 0, 900, .inl (zA q)))] H := hP
                            have hD : va_D A [(mm, .inr (7, [.ref ms, .int (nZ vsv), .ref mk, .ref mb, .int (nZ vty), .int (nZ vth), .int (nZ ven), .int (nZ vsp), .int (nZ vla), .int (nZ vpc)])), (ms, .inl (k 0, 900, .inl (zA q)))] := hD
                            refine zz_iald X hP 1 0 rfl rfl (((b + 27)) + (21 * j)) (by omega) (by omega) (by first | decide | omega) dX7_pushes_101 ?_
                            refine lv_istore (lv' := [(14, .int (nZ (q (((b + 27)) + (21 * j))))), (6, .int (nZ (ap + lf))), (13, .int (nZ (ap + lf))), (12, .int (nZ 1)), (11, .int (nZ (((coinS N (r + 1)) - 5) - ap))), (10, .int (nZ (coinS N (r + 1)))), (0, .ref mm), (1, .int (nZ ↑b)), (2, .int (nZ ↑j)), (3, .int (nZ st)), (4, .int (nZ ↑r)), (7, .int (nZ lf)), (8, .int (nZ nd)), (9, .int (nZ 1))]) hX hB dX7_pushes_102 hl (by decide) rfl (fun ls hl => ?_)
                            refine lv_aload_n hX hB dX7_pushes_104 rfl (lv_at hl 6 rfl) ?_
                            refine lv_iload_n hX hB dX7_pushes_105 rfl (lv_at hl 7 rfl) ?_
                            refine lv_iload_n hX hB dX7_pushes_106 rfl (lv_at hl 8 rfl) ?_
                            refine lv_iload hX hB dX7_pushes_107 (lv_at hl 10 rfl) ?_
                            refine lv_iload hX hB dX7_pushes_109 (lv_at hl 1 rfl) ?_
                            refine zCallV0 (zRunV (As := [.int (nZ ↑b), .int (nZ ↑j), .int (nZ ↑r), .int (nZ (ap + lf))]) X mv_X7_rests (c_X7_rests_r l D k _ mm ms mk mb vsv vty vth ven vsp vla vpc q b j (midB B j N (B.1 5) (B.1 6 + tb)) (ap + lf) N r hq hbb hjj hm (by first | assumption | omega | exact ⟨by omega, by omega⟩) (by first | assumption | omega | exact ⟨by omega, by omega⟩)) zw_275 (zPreV hP hD hK [0, 1] rfl rfl 0 7 rfl rfl rfl) rfl hl (Nat.le_of_ble_eq_true rfl) dX7_pushes_111 ⟨rfl, rfl, ⟨Nat.le_of_ble_eq_true rfl, Nat.le_of_ble_eq_true rfl⟩, Nat.le_of_ble_eq_true rfl, Nat.le_of_ble_eq_true rfl⟩ rfl) hS hP hD hA [0, 1] rfl (fun _ => rfl) (fun u_111_2 H locs hq_111_2 hP hD hS => ?_)
                            obtain ⟨s2_111_2, e9⟩ : ∃ z9, z9 = u_111_2 := ⟨_, rfl⟩; subst e9
                            obtain ⟨hB2_111_2, hf2_111_2, hm2_111_2⟩ := hq_111_2
                            try dsimp only at hB2_111_2 hf2_111_2 hm2_111_2
                            have hP : va_P D vwCl [(mm, .inr (7, [.ref ms, .int (nZ vsv), .ref mk, .ref mb, .int (nZ vty), .int (nZ vth), .int (nZ ven), .int (nZ vsp), .int (nZ vla), .int (nZ vpc)])), (ms, .inl (k 0, 900, .inl (zA s2_111_2)))] H := hP
                            have hD : va_D A [(mm, .inr (7, [.ref ms, .int (nZ vsv), .ref mk, .ref mb, .int (nZ vty), .int (nZ vth), .int (nZ ven), .int (nZ vsp), .int (nZ vla), .int (nZ vpc)])), (ms, .inl (k 0, 900, .inl (zA s2_111_2)))] := hD
                            have hl8 := hB2_111_2.len hjj
                            rw [hm2_111_2] at hl8
                            have hc0 : s2_111_2 (b + 0) = B.1 0 := hB2_111_2.num (k := 0) (by omega)
                            refine lv_iload hX hB dX7_pushes_114 (lv_at hl 10 rfl) ?_
                            refine lv_iconst (v := nZ (-1)) hX hB dX7_pushes_116 rfl ?_
                            refine zz_icmp_ne X (tgt := 139) dX7_pushes_117 (by decide) ⟨by omega, by omega⟩ ⟨by omega, by omega⟩ (fun c_117_2 => ?_) (fun c_117_2 => ?_)
                            · refine lv_iconst (v := nZ 0) hX hB dX7_pushes_139 rfl ?_
                              refine lv_istore (lv' := [(5, .int (nZ 0)), (14, .int (nZ (q (((b + 27)) + (21 * j))))), (6, .int (nZ (ap + lf))), (13, .int (nZ (ap + lf))), (12, .int (nZ 1)), (11, .int (nZ (((coinS N (r + 1)) - 5) - ap))), (10, .int (nZ (coinS N (r + 1)))), (0, .ref mm), (1, .int (nZ ↑b)), (2, .int (nZ ↑j)), (3, .int (nZ st)), (4, .int (nZ ↑r)), (7, .int (nZ lf)), (8, .int (nZ nd)), (9, .int (nZ 1))]) hX hB dX7_pushes_140 hl (by decide) rfl (fun ls hl => ?_)
                              refine lv_iload hX hB dX7_pushes_142 (lv_at hl 4 rfl) ?_
                              refine zz_if_ne X (tgt := 185) dX7_pushes_144 (by decide) ⟨by omega, by omega⟩ (fun c_144_2 => ?_) (fun c_144_2 => ?_)
                              · refine lv_iload hX hB dX7_pushes_185 (lv_at hl 4 rfl) ?_
                                refine zz_if_ne X (tgt := 199) dX7_pushes_187 (by decide) ⟨by omega, by omega⟩ (fun c_187_2 => ?_) (fun c_187_2 => ?_)
                                · refine lv_iconst (v := nZ 0) hX hB dX7_pushes_199 rfl ?_
                                  refine lv_istore (lv' := [(9, .int (nZ 0)), (5, .int (nZ 0)), (14, .int (nZ (q (((b + 27)) + (21 * j))))), (6, .int (nZ (ap + lf))), (13, .int (nZ (ap + lf))), (12, .int (nZ 1)), (11, .int (nZ (((coinS N (r + 1)) - 5) - ap))), (10, .int (nZ (coinS N (r + 1)))), (0, .ref mm), (1, .int (nZ ↑b)), (2, .int (nZ ↑j)), (3, .int (nZ st)), (4, .int (nZ ↑r)), (7, .int (nZ lf)), (8, .int (nZ nd))]) hX hB dX7_pushes_200 hl (by decide) rfl (fun ls hl => ?_)
                                  refine lv_goto (tgt := 19) hX hB dX7_pushes_202 (by decide) ?_
                                  refine lv_iload hX hB dX7_pushes_19 (lv_at hl 0 rfl) ?_
                                  refine zz_if_eq X (tgt := 205) dX7_pushes_21 (by decide) ⟨by omega, by omega⟩ (fun c_21_3 => ?_) (fun c_21_3 => ?_)
                                  · have hE := push_end (mid_mid hB2_111_2) hD9 rfl (by omega)
                                    have hF1 := hf.trans hf2_111_2
                                    refine lv_aload_n hX hB dX7_pushes_205 rfl (lv_at hl 8 rfl) ?_
                                    refine lv_iload hX hB dX7_pushes_206 (lv_at hl 3 rfl) ?_
                                    refine va_put (v := .int (nZ (ap + lf))) (ty := tyX7 6) hX hB hz inlX7 tyX7 tyX7_ok nmX7 hW hK.1 hP hD hS 0 rfl rfl 6 (by decide) (hz _ zw_267) (fun _ h9 => h9) rfl (by decide +kernel) rfl rfl (Nat.le_of_ble_eq_true rfl) dX7_pushes_208 (fun H locs hP hD hS => ?_)
                                    have hP : va_P D vwCl [(mm, .inr (7, [.ref ms, .int (nZ vsv), .ref mk, .ref mb, .int (nZ vty), .int (nZ vth), .int (nZ (ap + lf)), .int (nZ vsp), .int (nZ vla), .int (nZ vpc)])), (ms, .inl (k 0, 900, .inl (zA s2_111_2)))] H := hP
                                    have hD : va_D A [(mm, .inr (7, [.ref ms, .int (nZ vsv), .ref mk, .ref mb, .int (nZ vty), .int (nZ vth), .int (nZ (ap + lf)), .int (nZ vsp), .int (nZ vla), .int (nZ vpc)])), (ms, .inl (k 0, 900, .inl (zA s2_111_2)))] := hD
                                    refine lv_aload_n hX hB dX7_pushes_211 rfl (lv_at hl 8 rfl) ?_
                                    refine va_get hX hB hz inlX7 hW hK.1 hP 0 rfl rfl 0 (by decide) (hz _ zw_74) (fun _ h9 => h9) rfl dX7_pushes_212 ?_
                                    refine lv_iload_n hX hB dX7_pushes_215 rfl (lv_at hl 9 rfl) ?_
                                    refine lv_bipush (v := nZ 7) hX hB dX7_pushes_216 (by decide) ?_
                                    refine zz_iadd X dX7_pushes_218 (z := (↑(b + 7) : Int)) (by first | rfl | omega) ?_
                                    refine lv_dup2_11 hX hB dX7_pushes_219 rfl rfl ?_
                                    refine zz_iald X hP 1 0 rfl rfl (b + 7) (by omega) (by omega) (by first | decide | omega) dX7_pushes_220 ?_
                                    refine lv_iload hX hB dX7_pushes_221 (lv_at hl 14 rfl) ?_
                                    refine zz_iadd X dX7_pushes_223 (z := ((s2_111_2 (b + 7)) + nd)) (by first | rfl | omega) ?_
                                    refine zz_iast X hP hD hS 1 0 rfl rfl (b + 7) (by omega) (by omega) (by first | decide | omega) dX7_pushes_224 (fun H locs hP hD hS => ?_)
                                    have hP : va_P D vwCl [(mm, .inr (7, [.ref ms, .int (nZ vsv), .ref mk, .ref mb, .int (nZ vty), .int (nZ vth), .int (nZ (ap + lf)), .int (nZ vsp), .int (nZ vla), .int (nZ vpc)])), (ms, .inl (k 0, 900, .inl (zA (zU s2_111_2 (b + 7) ((s2_111_2 (b + 7)) + nd)))))] H := hP
                                    have hD : va_D A [(mm, .inr (7, [.ref ms, .int (nZ vsv), .ref mk, .ref mb, .int (nZ vty), .int (nZ vth), .int (nZ (ap + lf)), .int (nZ vsp), .int (nZ vla), .int (nZ vpc)])), (ms, .inl (k 0, 900, .inl (zA (zU s2_111_2 (b + 7) ((s2_111_2 (b + 7)) + nd)))))] := hD
                                    refine lv_iload hX hB dX7_pushes_225 (lv_at hl 14 rfl) ?_
                                    exact zRetI ((zU s2_111_2 (b + 7) ((s2_111_2 (b + 7)) + nd)), (ap + lf)) X hP hD hS rfl ⟨by congr 1; exact hD9.2.2.1.symm, hE, hF1.zU (by omega) (by omega), hD9.2.1.symm⟩ dX7_pushes_227
                                  · exfalso; omega
                                · exfalso; omega
                              · exfalso; omega
                            · exfalso; omega
                          · refine lv_bipush (v := nZ 100) hX hB dX7_pushes_83 (by decide) ?_
                            refine lv_goto (tgt := 90) hX hB dX7_pushes_85 (by decide) ?_
                            refine lv_istore (lv' := [(6, .int (nZ 100)), (13, .int (nZ (ap + lf))), (12, .int (nZ 1)), (11, .int (nZ (((coinS N (r + 1)) - 5) - ap))), (10, .int (nZ (coinS N (r + 1)))), (0, .ref mm), (1, .int (nZ ↑b)), (2, .int (nZ ↑j)), (3, .int (nZ st)), (4, .int (nZ ↑r)), (7, .int (nZ lf)), (8, .int (nZ nd)), (9, .int (nZ 1))]) hX hB dX7_pushes_90 hl (by decide) rfl (fun ls hl => ?_)
                            obtain ⟨hD9, hx1, hx2⟩ := pushI_stop (x := 100) hI hlf (by omega) (by omega)
                            refine lv_aload_n hX hB dX7_pushes_92 rfl (lv_at hl 5 rfl) ?_
                            refine va_get hX hB hz inlX7 hW hK.1 hP 0 rfl rfl 0 (by decide) (hz _ zw_74) (fun _ h9 => h9) rfl dX7_pushes_93 ?_
                            refine lv_iload_n hX hB dX7_pushes_96 rfl (lv_at hl 6 rfl) ?_
                            refine lv_iload_n hX hB dX7_pushes_97 rfl (lv_at hl 7 rfl) ?_
                            refine zCallI0 (zRunS X ms_X7_laneAt (c_X7_laneAt l D k _ b j ) zw_272 (zPreS hP hD hK [] rfl rfl) rfl hl (Nat.le_of_ble_eq_true rfl) dX7_pushes_98 ⟨rfl, rfl, ⟨Nat.le_of_ble_eq_true rfl, Nat.le_of_ble_eq_true rfl⟩, Nat.le_of_ble_eq_true rfl, Nat.le_of_ble_eq_true rfl⟩ rfl) hS hP hD hA [] rfl (fun _ => rfl) (fun r_98_2 u_98_2 H locs hq_98_2 hP hD hS => ?_)
                            subst hq_98_2
                            have hP : va_P D vwCl [(mm, .inr (7, [.ref ms, .int (nZ vsv), .ref mk, .ref mb, .int (nZ vty), .int (nZ vth), .int (nZ ven), .int (nZ vsp), .int (nZ vla), .int (nZ vpc)])), (ms, .inl (k 0, 900, .inl (zA q)))] H := hP
                            have hD : va_D A [(mm, .inr (7, [.ref ms, .int (nZ vsv), .ref mk, .ref mb, .int (nZ vty), .int (nZ vth), .int (nZ ven), .int (nZ vsp), .int (nZ vla), .int (nZ vpc)])), (ms, .inl (k 0, 900, .inl (zA q)))] := hD
                            refine zz_iald X hP 1 0 rfl rfl (((b + 27)) + (21 * j)) (by omega) (by omega) (by first | decide | omega) dX7_pushes_101 ?_
                            refine lv_istore (lv' := [(14, .int (nZ (q (((b + 27)) + (21 * j))))), (6, .int (nZ 100)), (13, .int (nZ (ap + lf))), (12, .int (nZ 1)), (11, .int (nZ (((coinS N (r + 1)) - 5) - ap))), (10, .int (nZ (coinS N (r + 1)))), (0, .ref mm), (1, .int (nZ ↑b)), (2, .int (nZ ↑j)), (3, .int (nZ st)), (4, .int (nZ ↑r)), (7, .int (nZ lf)), (8, .int (nZ nd)), (9, .int (nZ 1))]) hX hB dX7_pushes_102 hl (by decide) rfl (fun ls hl => ?_)
                            refine lv_aload_n hX hB dX7_pushes_104 rfl (lv_at hl 6 rfl) ?_
                            refine lv_iload_n hX hB dX7_pushes_105 rfl (lv_at hl 7 rfl) ?_
                            refine lv_iload_n hX hB dX7_pushes_106 rfl (lv_at hl 8 rfl) ?_
                            refine lv_iload hX hB dX7_pushes_107 (lv_at hl 10 rfl) ?_
                            refine lv_iload hX hB dX7_pushes_109 (lv_at hl 1 rfl) ?_
                            refine zCallV0 (zRunV (As := [.int (nZ ↑b), .int (nZ ↑j), .int (nZ ↑r), .int (nZ 100)]) X mv_X7_rests (c_X7_rests_r l D k _ mm ms mk mb vsv vty vth ven vsp vla vpc q b j (midB B j N (B.1 5) (B.1 6 + tb)) 100 N r hq hbb hjj hm (by first | assumption | omega | exact ⟨by omega, by omega⟩) (by first | assumption | omega | exact ⟨by omega, by omega⟩)) zw_275 (zPreV hP hD hK [0, 1] rfl rfl 0 7 rfl rfl rfl) rfl hl (Nat.le_of_ble_eq_true rfl) dX7_pushes_111 ⟨rfl, rfl, ⟨Nat.le_of_ble_eq_true rfl, Nat.le_of_ble_eq_true rfl⟩, Nat.le_of_ble_eq_true rfl, Nat.le_of_ble_eq_true rfl⟩ rfl) hS hP hD hA [0, 1] rfl (fun _ => rfl) (fun u_111_2 H locs hq_111_2 hP hD hS => ?_)
                            obtain ⟨s2_111_2, e9⟩ : ∃ z9, z9 = u_111_2 := ⟨_, rfl⟩; subst e9
                            obtain ⟨hB2_111_2, hf2_111_2, hm2_111_2⟩ := hq_111_2
                            try dsimp only at hB2_111_2 hf2_111_2 hm2_111_2
                            have hP : va_P D vwCl [(mm, .inr (7, [.ref ms, .int (nZ vsv), .ref mk, .ref mb, .int (nZ vty), .int (nZ vth), .int (nZ ven), .int (nZ vsp), .int (nZ vla), .int (nZ vpc)])), (ms, .inl (k 0, 900, .inl (zA s2_111_2)))] H := hP
                            have hD : va_D A [(mm, .inr (7, [.ref ms, .int (nZ vsv), .ref mk, .ref mb, .int (nZ vty), .int (nZ vth), .int (nZ ven), .int (nZ vsp), .int (nZ vla), .int (nZ vpc)])), (ms, .inl (k 0, 900, .inl (zA s2_111_2)))] := hD
                            have hl8 := hB2_111_2.len hjj
                            rw [hm2_111_2] at hl8
                            have hc0 : s2_111_2 (b + 0) = B.1 0 := hB2_111_2.num (k := 0) (by omega)
                            refine lv_iload hX hB dX7_pushes_114 (lv_at hl 10 rfl) ?_
                            refine lv_iconst (v := nZ (-1)) hX hB dX7_pushes_116 rfl ?_
                            refine zz_icmp_ne X (tgt := 139) dX7_pushes_117 (by decide) ⟨by omega, by omega⟩ ⟨by omega, by omega⟩ (fun c_117_2 => ?_) (fun c_117_2 => ?_)
                            · refine lv_iconst (v := nZ 0) hX hB dX7_pushes_139 rfl ?_
                              refine lv_istore (lv' := [(5, .int (nZ 0)), (14, .int (nZ (q (((b + 27)) + (21 * j))))), (6, .int (nZ 100)), (13, .int (nZ (ap + lf))), (12, .int (nZ 1)), (11, .int (nZ (((coinS N (r + 1)) - 5) - ap))), (10, .int (nZ (coinS N (r + 1)))), (0, .ref mm), (1, .int (nZ ↑b)), (2, .int (nZ ↑j)), (3, .int (nZ st)), (4, .int (nZ ↑r)), (7, .int (nZ lf)), (8, .int (nZ nd)), (9, .int (nZ 1))]) hX hB dX7_pushes_140 hl (by decide) rfl (fun ls hl => ?_)
                              refine lv_iload hX hB dX7_pushes_142 (lv_at hl 4 rfl) ?_
                              refine zz_if_ne X (tgt := 185) dX7_pushes_144 (by decide) ⟨by omega, by omega⟩ (fun c_144_2 => ?_) (fun c_144_2 => ?_)
                              · refine lv_iload hX hB dX7_pushes_185 (lv_at hl 4 rfl) ?_
                                refine zz_if_ne X (tgt := 199) dX7_pushes_187 (by decide) ⟨by omega, by omega⟩ (fun c_187_2 => ?_) (fun c_187_2 => ?_)
                                · refine lv_iconst (v := nZ 0) hX hB dX7_pushes_199 rfl ?_
                                  refine lv_istore (lv' := [(9, .int (nZ 0)), (5, .int (nZ 0)), (14, .int (nZ (q (((b + 27)) + (21 * j))))), (6, .int (nZ 100)), (13, .int (nZ (ap + lf))), (12, .int (nZ 1)), (11, .int (nZ (((coinS N (r + 1)) - 5) - ap))), (10, .int (nZ (coinS N (r + 1)))), (0, .ref mm), (1, .int (nZ ↑b)), (2, .int (nZ ↑j)), (3, .int (nZ st)), (4, .int (nZ ↑r)), (7, .int (nZ lf)), (8, .int (nZ nd))]) hX hB dX7_pushes_200 hl (by decide) rfl (fun ls hl => ?_)
                                  refine lv_goto (tgt := 19) hX hB dX7_pushes_202 (by decide) ?_
                                  refine lv_iload hX hB dX7_pushes_19 (lv_at hl 0 rfl) ?_
                                  refine zz_if_eq X (tgt := 205) dX7_pushes_21 (by decide) ⟨by omega, by omega⟩ (fun c_21_3 => ?_) (fun c_21_3 => ?_)
                                  · have hE := push_end (mid_mid hB2_111_2) hD9 rfl (by omega)
                                    have hF1 := hf.trans hf2_111_2
                                    refine lv_aload_n hX hB dX7_pushes_205 rfl (lv_at hl 8 rfl) ?_
                                    refine lv_iload hX hB dX7_pushes_206 (lv_at hl 3 rfl) ?_
                                    refine va_put (v := .int (nZ 100)) (ty := tyX7 6) hX hB hz inlX7 tyX7 tyX7_ok nmX7 hW hK.1 hP hD hS 0 rfl rfl 6 (by decide) (hz _ zw_267) (fun _ h9 => h9) rfl (by decide +kernel) rfl rfl (Nat.le_of_ble_eq_true rfl) dX7_pushes_208 (fun H locs hP hD hS => ?_)
                                    have hP : va_P D vwCl [(mm, .inr (7, [.ref ms, .int (nZ vsv), .ref mk, .ref mb, .int (nZ vty), .int (nZ vth), .int (nZ 100), .int (nZ vsp), .int (nZ vla), .int (nZ vpc)])), (ms, .inl (k 0, 900, .inl (zA s2_111_2)))] H := hP
                                    have hD : va_D A [(mm, .inr (7, [.ref ms, .int (nZ vsv), .ref mk, .ref mb, .int (nZ vty), .int (nZ vth), .int (nZ 100), .int (nZ vsp), .int (nZ vla), .int (nZ vpc)])), (ms, .inl (k 0, 900, .inl (zA s2_111_2)))] := hD
                                    refine lv_aload_n hX hB dX7_pushes_211 rfl (lv_at hl 8 rfl) ?_
                                    refine va_get hX hB hz inlX7 hW hK.1 hP 0 rfl rfl 0 (by decide) (hz _ zw_74) (fun _ h9 => h9) rfl dX7_pushes_212 ?_
                                    refine lv_iload_n hX hB dX7_pushes_215 rfl (lv_at hl 9 rfl) ?_
                                    refine lv_bipush (v := nZ 7) hX hB dX7_pushes_216 (by decide) ?_
                                    refine zz_iadd X dX7_pushes_218 (z := (↑(b + 7) : Int)) (by first | rfl | omega) ?_
                                    refine lv_dup2_11 hX hB dX7_pushes_219 rfl rfl ?_
                                    refine zz_iald X hP 1 0 rfl rfl (b + 7) (by omega) (by omega) (by first | decide | omega) dX7_pushes_220 ?_
                                    refine lv_iload hX hB dX7_pushes_221 (lv_at hl 14 rfl) ?_
                                    refine zz_iadd X dX7_pushes_223 (z := ((s2_111_2 (b + 7)) + nd)) (by first | rfl | omega) ?_
                                    refine zz_iast X hP hD hS 1 0 rfl rfl (b + 7) (by omega) (by omega) (by first | decide | omega) dX7_pushes_224 (fun H locs hP hD hS => ?_)
                                    have hP : va_P D vwCl [(mm, .inr (7, [.ref ms, .int (nZ vsv), .ref mk, .ref mb, .int (nZ vty), .int (nZ vth), .int (nZ 100), .int (nZ vsp), .int (nZ vla), .int (nZ vpc)])), (ms, .inl (k 0, 900, .inl (zA (zU s2_111_2 (b + 7) ((s2_111_2 (b + 7)) + nd)))))] H := hP
                                    have hD : va_D A [(mm, .inr (7, [.ref ms, .int (nZ vsv), .ref mk, .ref mb, .int (nZ vty), .int (nZ vth), .int (nZ 100), .int (nZ vsp), .int (nZ vla), .int (nZ vpc)])), (ms, .inl (k 0, 900, .inl (zA (zU s2_111_2 (b + 7) ((s2_111_2 (b + 7)) + nd)))))] := hD
                                    refine lv_iload hX hB dX7_pushes_225 (lv_at hl 14 rfl) ?_
                                    exact zRetI ((zU s2_111_2 (b + 7) ((s2_111_2 (b + 7)) + nd)), 100) X hP hD hS rfl ⟨by congr 1; exact hD9.2.2.1.symm, hE, hF1.zU (by omega) (by omega), hD9.2.1.symm⟩ dX7_pushes_227
                                  · exfalso; omega
                                · exfalso; omega
                              · exfalso; omega
                            · exfalso; omega
        · exfalso; omega
      · exfalso; omega
    · refine lv_iconst (v := nZ 1) hX hB dX7_pushes_52 rfl ?_
      refine lv_goto (tgt := 57) hX hB dX7_pushes_53 (by decide) ?_
      refine lv_istore (lv' := [(12, .int (nZ 1)), (11, .int (nZ (((coinS (B.2 j) 0) - 5) - (-5)))), (10, .int (nZ (coinS (B.2 j) 0))), (9, .int (nZ 1)), (8, .int (nZ 0)), (7, .int (nZ st)), (6, .int (nZ (-5))), (5, .int (nZ 0)), (4, .int (nZ (-1))), (0, .ref mm), (1, .int (nZ ↑b)), (2, .int (nZ ↑j)), (3, .int (nZ st))]) hX hB dX7_pushes_57 hl (by decide) rfl (fun ls hl => ?_)
      refine lv_iload hX hB dX7_pushes_59 (lv_at hl 6 rfl) ?_
      refine lv_iload hX hB dX7_pushes_61 (lv_at hl 0 rfl) ?_
      refine zz_if_eq X (tgt := 71) dX7_pushes_63 (by decide) ⟨by omega, by omega⟩ (fun c_63 => ?_) (fun c_63 => ?_)
      · exfalso; omega
      · refine lv_iload hX hB dX7_pushes_66 (lv_at hl 5 rfl) ?_
        refine lv_goto (tgt := 73) hX hB dX7_pushes_68 (by decide) ?_
        refine zz_iadd X dX7_pushes_73 (z := ((-5) + st)) (by first | rfl | omega) ?_
        refine lv_istore (lv' := [(13, .int (nZ ((-5) + st))), (12, .int (nZ 1)), (11, .int (nZ (((coinS (B.2 j) 0) - 5) - (-5)))), (10, .int (nZ (coinS (B.2 j) 0))), (9, .int (nZ 1)), (8, .int (nZ 0)), (7, .int (nZ st)), (6, .int (nZ (-5))), (5, .int (nZ 0)), (4, .int (nZ (-1))), (0, .ref mm), (1, .int (nZ ↑b)), (2, .int (nZ ↑j)), (3, .int (nZ st))]) hX hB dX7_pushes_74 hl (by decide) rfl (fun ls hl => ?_)
        refine lv_iload hX hB dX7_pushes_76 (lv_at hl 0 rfl) ?_
        refine lv_bipush (v := nZ 100) hX hB dX7_pushes_78 (by decide) ?_
        refine zz_icmp_le X (tgt := 88) dX7_pushes_80 (by decide) ⟨by omega, by omega⟩ ⟨by omega, by omega⟩ (fun c_80 => ?_) (fun c_80 => ?_)
        · refine lv_iload hX hB dX7_pushes_88 (lv_at hl 0 rfl) ?_
          refine lv_istore (lv' := [(6, .int (nZ ((-5) + st))), (13, .int (nZ ((-5) + st))), (12, .int (nZ 1)), (11, .int (nZ (((coinS (B.2 j) 0) - 5) - (-5)))), (10, .int (nZ (coinS (B.2 j) 0))), (9, .int (nZ 1)), (8, .int (nZ 0)), (7, .int (nZ st)), (5, .int (nZ 0)), (4, .int (nZ (-1))), (0, .ref mm), (1, .int (nZ ↑b)), (2, .int (nZ ↑j)), (3, .int (nZ st))]) hX hB dX7_pushes_90 hl (by decide) rfl (fun ls hl => ?_)
          refine lv_aload_n hX hB dX7_pushes_92 rfl (lv_at hl 10 rfl) ?_
          refine va_get hX hB hz inlX7 hW hK.1 hP 0 rfl rfl 0 (by decide) (hz _ zw_74) (fun _ h9 => h9) rfl dX7_pushes_93 ?_
          refine lv_iload_n hX hB dX7_pushes_96 rfl (lv_at hl 11 rfl) ?_
          refine lv_iload_n hX hB dX7_pushes_97 rfl (lv_at hl 12 rfl) ?_
          refine zCallI0 (zRunS X ms_X7_laneAt (c_X7_laneAt l D k _ b j ) zw_272 (zPreS hP hD hK [] rfl rfl) rfl hl (Nat.le_of_ble_eq_true rfl) dX7_pushes_98 ⟨rfl, rfl, ⟨Nat.le_of_ble_eq_true rfl, Nat.le_of_ble_eq_true rfl⟩, Nat.le_of_ble_eq_true rfl, Nat.le_of_ble_eq_true rfl⟩ rfl) hS hP hD hA [] rfl (fun _ => rfl) (fun r_98 u_98 H locs hq_98 hP hD hS => ?_)
          subst hq_98
          have hP : va_P D vwCl [(mm, .inr (7, [.ref ms, .int (nZ vsv), .ref mk, .ref mb, .int (nZ vty), .int (nZ vth), .int (nZ ven), .int (nZ vsp), .int (nZ vla), .int (nZ vpc)])), (ms, .inl (k 0, 900, .inl (zA s)))] H := hP
          have hD : va_D A [(mm, .inr (7, [.ref ms, .int (nZ vsv), .ref mk, .ref mb, .int (nZ vty), .int (nZ vth), .int (nZ ven), .int (nZ vsp), .int (nZ vla), .int (nZ vpc)])), (ms, .inl (k 0, 900, .inl (zA s)))] := hD
          refine zz_iald X hP 1 0 rfl rfl (((b + 27)) + (21 * j)) (by omega) (by omega) (by first | decide | omega) dX7_pushes_101 ?_
          refine lv_istore (lv' := [(14, .int (nZ (s (((b + 27)) + (21 * j))))), (6, .int (nZ ((-5) + st))), (13, .int (nZ ((-5) + st))), (12, .int (nZ 1)), (11, .int (nZ (((coinS (B.2 j) 0) - 5) - (-5)))), (10, .int (nZ (coinS (B.2 j) 0))), (9, .int (nZ 1)), (8, .int (nZ 0)), (7, .int (nZ st)), (5, .int (nZ 0)), (4, .int (nZ (-1))), (0, .ref mm), (1, .int (nZ ↑b)), (2, .int (nZ ↑j)), (3, .int (nZ st))]) hX hB dX7_pushes_102 hl (by decide) rfl (fun ls hl => ?_)
          refine lv_aload_n hX hB dX7_pushes_104 rfl (lv_at hl 11 rfl) ?_
          refine lv_iload_n hX hB dX7_pushes_105 rfl (lv_at hl 12 rfl) ?_
          refine lv_iload_n hX hB dX7_pushes_106 rfl (lv_at hl 13 rfl) ?_
          refine lv_iload hX hB dX7_pushes_107 (lv_at hl 10 rfl) ?_
          refine lv_iload hX hB dX7_pushes_109 (lv_at hl 1 rfl) ?_
          refine zCallV0 (zRunV (As := [.int (nZ ↑b), .int (nZ ↑j), .int (nZ (-1)), .int (nZ ((-5) + st))]) X mv_X7_rests (c_X7_rests_n l D k _ mm ms mk mb vsv vty vth ven vsp vla vpc s b j B ((-5) + st) (B.2 j) hBk hbb hjj hLB (by first | assumption | omega | exact ⟨by omega, by omega⟩) (by first | exact first_19 hCh (by omega) | assumption)) zw_275 (zPreV hP hD hK [0, 1] rfl rfl 0 7 rfl rfl rfl) rfl hl (Nat.le_of_ble_eq_true rfl) dX7_pushes_111 ⟨rfl, rfl, ⟨Nat.le_of_ble_eq_true rfl, Nat.le_of_ble_eq_true rfl⟩, Nat.le_of_ble_eq_true rfl, Nat.le_of_ble_eq_true rfl⟩ rfl) hS hP hD hA [0, 1] rfl (fun _ => rfl) (fun u_111 H locs hq_111 hP hD hS => ?_)
          obtain ⟨s2_111, e9⟩ : ∃ z9, z9 = u_111 := ⟨_, rfl⟩; subst e9
          obtain ⟨hB2_111, hf2_111, hm2_111⟩ := hq_111
          try dsimp only at hB2_111 hf2_111 hm2_111
          have hP : va_P D vwCl [(mm, .inr (7, [.ref ms, .int (nZ vsv), .ref mk, .ref mb, .int (nZ vty), .int (nZ vth), .int (nZ ven), .int (nZ vsp), .int (nZ vla), .int (nZ vpc)])), (ms, .inl (k 0, 900, .inl (zA s2_111)))] H := hP
          have hD : va_D A [(mm, .inr (7, [.ref ms, .int (nZ vsv), .ref mk, .ref mb, .int (nZ vty), .int (nZ vth), .int (nZ ven), .int (nZ vsp), .int (nZ vla), .int (nZ vpc)])), (ms, .inl (k 0, 900, .inl (zA s2_111)))] := hD
          have hl8 := hB2_111.len hjj
          rw [hm2_111] at hl8
          have hc0 : s2_111 (b + 0) = B.1 0 := hB2_111.num (k := 0) (by omega)
          refine lv_iload hX hB dX7_pushes_114 (lv_at hl 10 rfl) ?_
          refine lv_iconst (v := nZ (-1)) hX hB dX7_pushes_116 rfl ?_
          refine zz_icmp_ne X (tgt := 139) dX7_pushes_117 (by decide) ⟨by omega, by omega⟩ ⟨by omega, by omega⟩ (fun c_117 => ?_) (fun c_117 => ?_)
          · exfalso; omega
          · refine lv_aload_n hX hB dX7_pushes_120 rfl (lv_at hl 11 rfl) ?_
            refine va_get hX hB hz inlX7 hW hK.1 hP 0 rfl rfl 0 (by decide) (hz _ zw_74) (fun _ h9 => h9) rfl dX7_pushes_121 ?_
            refine lv_iload_n hX hB dX7_pushes_124 rfl (lv_at hl 12 rfl) ?_
            refine lv_iload_n hX hB dX7_pushes_125 rfl (lv_at hl 13 rfl) ?_
            refine zCallI0 (zRunS X ms_X7_laneAt (c_X7_laneAt l D k _ b j ) zw_272 (zPreS hP hD hK [] rfl rfl) rfl hl (Nat.le_of_ble_eq_true rfl) dX7_pushes_126 ⟨rfl, rfl, ⟨Nat.le_of_ble_eq_true rfl, Nat.le_of_ble_eq_true rfl⟩, Nat.le_of_ble_eq_true rfl, Nat.le_of_ble_eq_true rfl⟩ rfl) hS hP hD hA [] rfl (fun _ => rfl) (fun r_126 u_126 H locs hq_126 hP hD hS => ?_)
            subst hq_126
            have hP : va_P D vwCl [(mm, .inr (7, [.ref ms, .int (nZ vsv), .ref mk, .ref mb, .int (nZ vty), .int (nZ vth), .int (nZ ven), .int (nZ vsp), .int (nZ vla), .int (nZ vpc)])), (ms, .inl (k 0, 900, .inl (zA s2_111)))] H := hP
            have hD : va_D A [(mm, .inr (7, [.ref ms, .int (nZ vsv), .ref mk, .ref mb, .int (nZ vty), .int (nZ vth), .int (nZ ven), .int (nZ vsp), .int (nZ vla), .int (nZ vpc)])), (ms, .inl (k 0, 900, .inl (zA s2_111)))] := hD
            refine zz_iald X hP 1 0 rfl rfl (((b + 27)) + (21 * j)) (by omega) (by omega) (by first | decide | omega) dX7_pushes_129 ?_
            refine lv_iload hX hB dX7_pushes_130 (lv_at hl 0 rfl) ?_
            refine zz_icmp_le X (tgt := 139) dX7_pushes_132 (by decide) ⟨by omega, by omega⟩ ⟨by omega, by omega⟩ (fun c_132 => ?_) (fun c_132 => ?_)
            · refine lv_iconst (v := nZ 0) hX hB dX7_pushes_139 rfl ?_
              refine lv_istore (lv' := [(5, .int (nZ 0)), (14, .int (nZ (s (((b + 27)) + (21 * j))))), (6, .int (nZ ((-5) + st))), (13, .int (nZ ((-5) + st))), (12, .int (nZ 1)), (11, .int (nZ (((coinS (B.2 j) 0) - 5) - (-5)))), (10, .int (nZ (coinS (B.2 j) 0))), (9, .int (nZ 1)), (8, .int (nZ 0)), (7, .int (nZ st)), (4, .int (nZ (-1))), (0, .ref mm), (1, .int (nZ ↑b)), (2, .int (nZ ↑j)), (3, .int (nZ st))]) hX hB dX7_pushes_140 hl (by decide) rfl (fun ls hl => ?_)
              refine lv_iload hX hB dX7_pushes_142 (lv_at hl 4 rfl) ?_
              refine zz_if_ne X (tgt := 185) dX7_pushes_144 (by decide) ⟨by omega, by omega⟩ (fun c_144 => ?_) (fun c_144 => ?_)
              · refine lv_iload hX hB dX7_pushes_185 (lv_at hl 4 rfl) ?_
                refine zz_if_ne X (tgt := 199) dX7_pushes_187 (by decide) ⟨by omega, by omega⟩ (fun c_187 => ?_) (fun c_187 => ?_)
                · refine lv_iconst (v := nZ 0) hX hB dX7_pushes_199 rfl ?_
                  refine lv_istore (lv' := [(9, .int (nZ 0)), (5, .int (nZ 0)), (14, .int (nZ (s (((b + 27)) + (21 * j))))), (6, .int (nZ ((-5) + st))), (13, .int (nZ ((-5) + st))), (12, .int (nZ 1)), (11, .int (nZ (((coinS (B.2 j) 0) - 5) - (-5)))), (10, .int (nZ (coinS (B.2 j) 0))), (8, .int (nZ 0)), (7, .int (nZ st)), (4, .int (nZ (-1))), (0, .ref mm), (1, .int (nZ ↑b)), (2, .int (nZ ↑j)), (3, .int (nZ st))]) hX hB dX7_pushes_200 hl (by decide) rfl (fun ls hl => ?_)
                  refine lv_goto (tgt := 19) hX hB dX7_pushes_202 (by decide) ?_
                  refine lv_iload hX hB dX7_pushes_19 (lv_at hl 0 rfl) ?_
                  refine zz_if_eq X (tgt := 205) dX7_pushes_21 (by decide) ⟨by omega, by omega⟩ (fun c_21_2 => ?_) (fun c_21_2 => ?_)
                  · have hD9 := push_first (cost := B.1 0) (st := st) (x := ((-5) + st)) hCh (by omega) hst.1 (by omega)
                    have hE := push_end0 hB2_111 hD9
                    have hF1 := hf2_111
                    refine lv_aload_n hX hB dX7_pushes_205 rfl (lv_at hl 11 rfl) ?_
                    refine lv_iload hX hB dX7_pushes_206 (lv_at hl 3 rfl) ?_
                    refine va_put (v := .int (nZ ((-5) + st))) (ty := tyX7 6) hX hB hz inlX7 tyX7 tyX7_ok nmX7 hW hK.1 hP hD hS 0 rfl rfl 6 (by decide) (hz _ zw_267) (fun _ h9 => h9) rfl (by decide +kernel) rfl rfl (Nat.le_of_ble_eq_true rfl) dX7_pushes_208 (fun H locs hP hD hS => ?_)
                    have hP : va_P D vwCl [(mm, .inr (7, [.ref ms, .int (nZ vsv), .ref mk, .ref mb, .int (nZ vty), .int (nZ vth), .int (nZ ((-5) + st)), .int (nZ vsp), .int (nZ vla), .int (nZ vpc)])), (ms, .inl (k 0, 900, .inl (zA s2_111)))] H := hP
                    have hD : va_D A [(mm, .inr (7, [.ref ms, .int (nZ vsv), .ref mk, .ref mb, .int (nZ vty), .int (nZ vth), .int (nZ ((-5) + st)), .int (nZ vsp), .int (nZ vla), .int (nZ vpc)])), (ms, .inl (k 0, 900, .inl (zA s2_111)))] := hD
                    refine lv_aload_n hX hB dX7_pushes_211 rfl (lv_at hl 11 rfl) ?_
                    refine va_get hX hB hz inlX7 hW hK.1 hP 0 rfl rfl 0 (by decide) (hz _ zw_74) (fun _ h9 => h9) rfl dX7_pushes_212 ?_
                    refine lv_iload_n hX hB dX7_pushes_215 rfl (lv_at hl 12 rfl) ?_
                    refine lv_bipush (v := nZ 7) hX hB dX7_pushes_216 (by decide) ?_
                    refine zz_iadd X dX7_pushes_218 (z := (↑(b + 7) : Int)) (by first | rfl | omega) ?_
                    refine lv_dup2_11 hX hB dX7_pushes_219 rfl rfl ?_
                    refine zz_iald X hP 1 0 rfl rfl (b + 7) (by omega) (by omega) (by first | decide | omega) dX7_pushes_220 ?_
                    refine lv_iload hX hB dX7_pushes_221 (lv_at hl 8 rfl) ?_
                    refine zz_iadd X dX7_pushes_223 (z := (s2_111 (b + 7))) (by first | rfl | omega) ?_
                    refine zz_iast X hP hD hS 1 0 rfl rfl (b + 7) (by omega) (by omega) (by first | decide | omega) dX7_pushes_224 (fun H locs hP hD hS => ?_)
                    have hP : va_P D vwCl [(mm, .inr (7, [.ref ms, .int (nZ vsv), .ref mk, .ref mb, .int (nZ vty), .int (nZ vth), .int (nZ ((-5) + st)), .int (nZ vsp), .int (nZ vla), .int (nZ vpc)])), (ms, .inl (k 0, 900, .inl (zA (zU s2_111 (b + 7) (s2_111 (b + 7))))))] H := hP
                    have hD : va_D A [(mm, .inr (7, [.ref ms, .int (nZ vsv), .ref mk, .ref mb, .int (nZ vty), .int (nZ vth), .int (nZ ((-5) + st)), .int (nZ vsp), .int (nZ vla), .int (nZ vpc)])), (ms, .inl (k 0, 900, .inl (zA (zU s2_111 (b + 7) (s2_111 (b + 7))))))] := hD
                    refine lv_iload hX hB dX7_pushes_225 (lv_at hl 8 rfl) ?_
                    exact zRetI ((zU s2_111 (b + 7) (s2_111 (b + 7))), ((-5) + st)) X hP hD hS rfl ⟨by congr 1; exact hD9.2.2.1.symm, hE, hF1.zU (by omega) (by omega), hD9.2.1.symm⟩ dX7_pushes_227
                  · exfalso; omega
                · exfalso; omega
              · exfalso; omega
            · refine lv_iconst (v := nZ 1) hX hB dX7_pushes_135 rfl ?_
              refine lv_goto (tgt := 140) hX hB dX7_pushes_136 (by decide) ?_
              refine lv_istore (lv' := [(5, .int (nZ 1)), (14, .int (nZ (s (((b + 27)) + (21 * j))))), (6, .int (nZ ((-5) + st))), (13, .int (nZ ((-5) + st))), (12, .int (nZ 1)), (11, .int (nZ (((coinS (B.2 j) 0) - 5) - (-5)))), (10, .int (nZ (coinS (B.2 j) 0))), (9, .int (nZ 1)), (8, .int (nZ 0)), (7, .int (nZ st)), (4, .int (nZ (-1))), (0, .ref mm), (1, .int (nZ ↑b)), (2, .int (nZ ↑j)), (3, .int (nZ st))]) hX hB dX7_pushes_140 hl (by decide) rfl (fun ls hl => ?_)
              refine lv_iload hX hB dX7_pushes_142 (lv_at hl 4 rfl) ?_
              refine zz_if_ne X (tgt := 185) dX7_pushes_144 (by decide) ⟨by omega, by omega⟩ (fun c_144 => ?_) (fun c_144 => ?_)
              · refine lv_iload hX hB dX7_pushes_185 (lv_at hl 4 rfl) ?_
                refine zz_if_ne X (tgt := 199) dX7_pushes_187 (by decide) ⟨by omega, by omega⟩ (fun c_187 => ?_) (fun c_187 => ?_)
                · refine lv_iconst (v := nZ 0) hX hB dX7_pushes_199 rfl ?_
                  refine lv_istore (lv' := [(9, .int (nZ 0)), (5, .int (nZ 1)), (14, .int (nZ (s (((b + 27)) + (21 * j))))), (6, .int (nZ ((-5) + st))), (13, .int (nZ ((-5) + st))), (12, .int (nZ 1)), (11, .int (nZ (((coinS (B.2 j) 0) - 5) - (-5)))), (10, .int (nZ (coinS (B.2 j) 0))), (8, .int (nZ 0)), (7, .int (nZ st)), (4, .int (nZ (-1))), (0, .ref mm), (1, .int (nZ ↑b)), (2, .int (nZ ↑j)), (3, .int (nZ st))]) hX hB dX7_pushes_200 hl (by decide) rfl (fun ls hl => ?_)
                  refine lv_goto (tgt := 19) hX hB dX7_pushes_202 (by decide) ?_
                  refine lv_iload hX hB dX7_pushes_19 (lv_at hl 0 rfl) ?_
                  refine zz_if_eq X (tgt := 205) dX7_pushes_21 (by decide) ⟨by omega, by omega⟩ (fun c_21_2 => ?_) (fun c_21_2 => ?_)
                  · have hD9 := push_first (cost := B.1 0) (st := st) (x := ((-5) + st)) hCh (by omega) hst.1 (by omega)
                    have hE := push_end0 hB2_111 hD9
                    have hF1 := hf2_111
                    refine lv_aload_n hX hB dX7_pushes_205 rfl (lv_at hl 11 rfl) ?_
                    refine lv_iload hX hB dX7_pushes_206 (lv_at hl 3 rfl) ?_
                    refine va_put (v := .int (nZ ((-5) + st))) (ty := tyX7 6) hX hB hz inlX7 tyX7 tyX7_ok nmX7 hW hK.1 hP hD hS 0 rfl rfl 6 (by decide) (hz _ zw_267) (fun _ h9 => h9) rfl (by decide +kernel) rfl rfl (Nat.le_of_ble_eq_true rfl) dX7_pushes_208 (fun H locs hP hD hS => ?_)
                    have hP : va_P D vwCl [(mm, .inr (7, [.ref ms, .int (nZ vsv), .ref mk, .ref mb, .int (nZ vty), .int (nZ vth), .int (nZ ((-5) + st)), .int (nZ vsp), .int (nZ vla), .int (nZ vpc)])), (ms, .inl (k 0, 900, .inl (zA s2_111)))] H := hP
                    have hD : va_D A [(mm, .inr (7, [.ref ms, .int (nZ vsv), .ref mk, .ref mb, .int (nZ vty), .int (nZ vth), .int (nZ ((-5) + st)), .int (nZ vsp), .int (nZ vla), .int (nZ vpc)])), (ms, .inl (k 0, 900, .inl (zA s2_111)))] := hD
                    refine lv_aload_n hX hB dX7_pushes_211 rfl (lv_at hl 11 rfl) ?_
                    refine va_get hX hB hz inlX7 hW hK.1 hP 0 rfl rfl 0 (by decide) (hz _ zw_74) (fun _ h9 => h9) rfl dX7_pushes_212 ?_
                    refine lv_iload_n hX hB dX7_pushes_215 rfl (lv_at hl 12 rfl) ?_
                    refine lv_bipush (v := nZ 7) hX hB dX7_pushes_216 (by decide) ?_
                    refine zz_iadd X dX7_pushes_218 (z := (↑(b + 7) : Int)) (by first | rfl | omega) ?_
                    refine lv_dup2_11 hX hB dX7_pushes_219 rfl rfl ?_
                    refine zz_iald X hP 1 0 rfl rfl (b + 7) (by omega) (by omega) (by first | decide | omega) dX7_pushes_220 ?_
                    refine lv_iload hX hB dX7_pushes_221 (lv_at hl 8 rfl) ?_
                    refine zz_iadd X dX7_pushes_223 (z := (s2_111 (b + 7))) (by first | rfl | omega) ?_
                    refine zz_iast X hP hD hS 1 0 rfl rfl (b + 7) (by omega) (by omega) (by first | decide | omega) dX7_pushes_224 (fun H locs hP hD hS => ?_)
                    have hP : va_P D vwCl [(mm, .inr (7, [.ref ms, .int (nZ vsv), .ref mk, .ref mb, .int (nZ vty), .int (nZ vth), .int (nZ ((-5) + st)), .int (nZ vsp), .int (nZ vla), .int (nZ vpc)])), (ms, .inl (k 0, 900, .inl (zA (zU s2_111 (b + 7) (s2_111 (b + 7))))))] H := hP
                    have hD : va_D A [(mm, .inr (7, [.ref ms, .int (nZ vsv), .ref mk, .ref mb, .int (nZ vty), .int (nZ vth), .int (nZ ((-5) + st)), .int (nZ vsp), .int (nZ vla), .int (nZ vpc)])), (ms, .inl (k 0, 900, .inl (zA (zU s2_111 (b + 7) (s2_111 (b + 7))))))] := hD
                    refine lv_iload hX hB dX7_pushes_225 (lv_at hl 8 rfl) ?_
                    exact zRetI ((zU s2_111 (b + 7) (s2_111 (b + 7))), ((-5) + st)) X hP hD hS rfl ⟨by congr 1; exact hD9.2.2.1.symm, hE, hF1.zU (by omega) (by omega), hD9.2.1.symm⟩ dX7_pushes_227
                  · exfalso; omega
                · exfalso; omega
              · exfalso; omega
        · refine lv_bipush (v := nZ 100) hX hB dX7_pushes_83 (by decide) ?_
          refine lv_goto (tgt := 90) hX hB dX7_pushes_85 (by decide) ?_
          refine lv_istore (lv' := [(6, .int (nZ 100)), (13, .int (nZ ((-5) + st))), (12, .int (nZ 1)), (11, .int (nZ (((coinS (B.2 j) 0) - 5) - (-5)))), (10, .int (nZ (coinS (B.2 j) 0))), (9, .int (nZ 1)), (8, .int (nZ 0)), (7, .int (nZ st)), (5, .int (nZ 0)), (4, .int (nZ (-1))), (0, .ref mm), (1, .int (nZ ↑b)), (2, .int (nZ ↑j)), (3, .int (nZ st))]) hX hB dX7_pushes_90 hl (by decide) rfl (fun ls hl => ?_)
          refine lv_aload_n hX hB dX7_pushes_92 rfl (lv_at hl 10 rfl) ?_
          refine va_get hX hB hz inlX7 hW hK.1 hP 0 rfl rfl 0 (by decide) (hz _ zw_74) (fun _ h9 => h9) rfl dX7_pushes_93 ?_
          refine lv_iload_n hX hB dX7_pushes_96 rfl (lv_at hl 11 rfl) ?_
          refine lv_iload_n hX hB dX7_pushes_97 rfl (lv_at hl 12 rfl) ?_
          refine zCallI0 (zRunS X ms_X7_laneAt (c_X7_laneAt l D k _ b j ) zw_272 (zPreS hP hD hK [] rfl rfl) rfl hl (Nat.le_of_ble_eq_true rfl) dX7_pushes_98 ⟨rfl, rfl, ⟨Nat.le_of_ble_eq_true rfl, Nat.le_of_ble_eq_true rfl⟩, Nat.le_of_ble_eq_true rfl, Nat.le_of_ble_eq_true rfl⟩ rfl) hS hP hD hA [] rfl (fun _ => rfl) (fun r_98 u_98 H locs hq_98 hP hD hS => ?_)
          subst hq_98
          have hP : va_P D vwCl [(mm, .inr (7, [.ref ms, .int (nZ vsv), .ref mk, .ref mb, .int (nZ vty), .int (nZ vth), .int (nZ ven), .int (nZ vsp), .int (nZ vla), .int (nZ vpc)])), (ms, .inl (k 0, 900, .inl (zA s)))] H := hP
          have hD : va_D A [(mm, .inr (7, [.ref ms, .int (nZ vsv), .ref mk, .ref mb, .int (nZ vty), .int (nZ vth), .int (nZ ven), .int (nZ vsp), .int (nZ vla), .int (nZ vpc)])), (ms, .inl (k 0, 900, .inl (zA s)))] := hD
          refine zz_iald X hP 1 0 rfl rfl (((b + 27)) + (21 * j)) (by omega) (by omega) (by first | decide | omega) dX7_pushes_101 ?_
          refine lv_istore (lv' := [(14, .int (nZ (s (((b + 27)) + (21 * j))))), (6, .int (nZ 100)), (13, .int (nZ ((-5) + st))), (12, .int (nZ 1)), (11, .int (nZ (((coinS (B.2 j) 0) - 5) - (-5)))), (10, .int (nZ (coinS (B.2 j) 0))), (9, .int (nZ 1)), (8, .int (nZ 0)), (7, .int (nZ st)), (5, .int (nZ 0)), (4, .int (nZ (-1))), (0, .ref mm), (1, .int (nZ ↑b)), (2, .int (nZ ↑j)), (3, .int (nZ st))]) hX hB dX7_pushes_102 hl (by decide) rfl (fun ls hl => ?_)
          refine lv_aload_n hX hB dX7_pushes_104 rfl (lv_at hl 11 rfl) ?_
          refine lv_iload_n hX hB dX7_pushes_105 rfl (lv_at hl 12 rfl) ?_
          refine lv_iload_n hX hB dX7_pushes_106 rfl (lv_at hl 13 rfl) ?_
          refine lv_iload hX hB dX7_pushes_107 (lv_at hl 10 rfl) ?_
          refine lv_iload hX hB dX7_pushes_109 (lv_at hl 1 rfl) ?_
          refine zCallV0 (zRunV (As := [.int (nZ ↑b), .int (nZ ↑j), .int (nZ (-1)), .int (nZ 100)]) X mv_X7_rests (c_X7_rests_n l D k _ mm ms mk mb vsv vty vth ven vsp vla vpc s b j B 100 (B.2 j) hBk hbb hjj hLB (by first | assumption | omega | exact ⟨by omega, by omega⟩) (by first | exact first_19 hCh (by omega) | assumption)) zw_275 (zPreV hP hD hK [0, 1] rfl rfl 0 7 rfl rfl rfl) rfl hl (Nat.le_of_ble_eq_true rfl) dX7_pushes_111 ⟨rfl, rfl, ⟨Nat.le_of_ble_eq_true rfl, Nat.le_of_ble_eq_true rfl⟩, Nat.le_of_ble_eq_true rfl, Nat.le_of_ble_eq_true rfl⟩ rfl) hS hP hD hA [0, 1] rfl (fun _ => rfl) (fun u_111 H locs hq_111 hP hD hS => ?_)
          obtain ⟨s2_111, e9⟩ : ∃ z9, z9 = u_111 := ⟨_, rfl⟩; subst e9
          obtain ⟨hB2_111, hf2_111, hm2_111⟩ := hq_111
          try dsimp only at hB2_111 hf2_111 hm2_111
          have hP : va_P D vwCl [(mm, .inr (7, [.ref ms, .int (nZ vsv), .ref mk, .ref mb, .int (nZ vty), .int (nZ vth), .int (nZ ven), .int (nZ vsp), .int (nZ vla), .int (nZ vpc)])), (ms, .inl (k 0, 900, .inl (zA s2_111)))] H := hP
          have hD : va_D A [(mm, .inr (7, [.ref ms, .int (nZ vsv), .ref mk, .ref mb, .int (nZ vty), .int (nZ vth), .int (nZ ven), .int (nZ vsp), .int (nZ vla), .int (nZ vpc)])), (ms, .inl (k 0, 900, .inl (zA s2_111)))] := hD
          have hl8 := hB2_111.len hjj
          rw [hm2_111] at hl8
          have hc0 : s2_111 (b + 0) = B.1 0 := hB2_111.num (k := 0) (by omega)
          refine lv_iload hX hB dX7_pushes_114 (lv_at hl 10 rfl) ?_
          refine lv_iconst (v := nZ (-1)) hX hB dX7_pushes_116 rfl ?_
          refine zz_icmp_ne X (tgt := 139) dX7_pushes_117 (by decide) ⟨by omega, by omega⟩ ⟨by omega, by omega⟩ (fun c_117 => ?_) (fun c_117 => ?_)
          · exfalso; omega
          · refine lv_aload_n hX hB dX7_pushes_120 rfl (lv_at hl 11 rfl) ?_
            refine va_get hX hB hz inlX7 hW hK.1 hP 0 rfl rfl 0 (by decide) (hz _ zw_74) (fun _ h9 => h9) rfl dX7_pushes_121 ?_
            refine lv_iload_n hX hB dX7_pushes_124 rfl (lv_at hl 12 rfl) ?_
            refine lv_iload_n hX hB dX7_pushes_125 rfl (lv_at hl 13 rfl) ?_
            refine zCallI0 (zRunS X ms_X7_laneAt (c_X7_laneAt l D k _ b j ) zw_272 (zPreS hP hD hK [] rfl rfl) rfl hl (Nat.le_of_ble_eq_true rfl) dX7_pushes_126 ⟨rfl, rfl, ⟨Nat.le_of_ble_eq_true rfl, Nat.le_of_ble_eq_true rfl⟩, Nat.le_of_ble_eq_true rfl, Nat.le_of_ble_eq_true rfl⟩ rfl) hS hP hD hA [] rfl (fun _ => rfl) (fun r_126 u_126 H locs hq_126 hP hD hS => ?_)
            subst hq_126
            have hP : va_P D vwCl [(mm, .inr (7, [.ref ms, .int (nZ vsv), .ref mk, .ref mb, .int (nZ vty), .int (nZ vth), .int (nZ ven), .int (nZ vsp), .int (nZ vla), .int (nZ vpc)])), (ms, .inl (k 0, 900, .inl (zA s2_111)))] H := hP
            have hD : va_D A [(mm, .inr (7, [.ref ms, .int (nZ vsv), .ref mk, .ref mb, .int (nZ vty), .int (nZ vth), .int (nZ ven), .int (nZ vsp), .int (nZ vla), .int (nZ vpc)])), (ms, .inl (k 0, 900, .inl (zA s2_111)))] := hD
            refine zz_iald X hP 1 0 rfl rfl (((b + 27)) + (21 * j)) (by omega) (by omega) (by first | decide | omega) dX7_pushes_129 ?_
            refine lv_iload hX hB dX7_pushes_130 (lv_at hl 0 rfl) ?_
            refine zz_icmp_le X (tgt := 139) dX7_pushes_132 (by decide) ⟨by omega, by omega⟩ ⟨by omega, by omega⟩ (fun c_132 => ?_) (fun c_132 => ?_)
            · refine lv_iconst (v := nZ 0) hX hB dX7_pushes_139 rfl ?_
              refine lv_istore (lv' := [(5, .int (nZ 0)), (14, .int (nZ (s (((b + 27)) + (21 * j))))), (6, .int (nZ 100)), (13, .int (nZ ((-5) + st))), (12, .int (nZ 1)), (11, .int (nZ (((coinS (B.2 j) 0) - 5) - (-5)))), (10, .int (nZ (coinS (B.2 j) 0))), (9, .int (nZ 1)), (8, .int (nZ 0)), (7, .int (nZ st)), (4, .int (nZ (-1))), (0, .ref mm), (1, .int (nZ ↑b)), (2, .int (nZ ↑j)), (3, .int (nZ st))]) hX hB dX7_pushes_140 hl (by decide) rfl (fun ls hl => ?_)
              refine lv_iload hX hB dX7_pushes_142 (lv_at hl 4 rfl) ?_
              refine zz_if_ne X (tgt := 185) dX7_pushes_144 (by decide) ⟨by omega, by omega⟩ (fun c_144 => ?_) (fun c_144 => ?_)
              · refine lv_iload hX hB dX7_pushes_185 (lv_at hl 4 rfl) ?_
                refine zz_if_ne X (tgt := 199) dX7_pushes_187 (by decide) ⟨by omega, by omega⟩ (fun c_187 => ?_) (fun c_187 => ?_)
                · refine lv_iconst (v := nZ 0) hX hB dX7_pushes_199 rfl ?_
                  refine lv_istore (lv' := [(9, .int (nZ 0)), (5, .int (nZ 0)), (14, .int (nZ (s (((b + 27)) + (21 * j))))), (6, .int (nZ 100)), (13, .int (nZ ((-5) + st))), (12, .int (nZ 1)), (11, .int (nZ (((coinS (B.2 j) 0) - 5) - (-5)))), (10, .int (nZ (coinS (B.2 j) 0))), (8, .int (nZ 0)), (7, .int (nZ st)), (4, .int (nZ (-1))), (0, .ref mm), (1, .int (nZ ↑b)), (2, .int (nZ ↑j)), (3, .int (nZ st))]) hX hB dX7_pushes_200 hl (by decide) rfl (fun ls hl => ?_)
                  refine lv_goto (tgt := 19) hX hB dX7_pushes_202 (by decide) ?_
                  refine lv_iload hX hB dX7_pushes_19 (lv_at hl 0 rfl) ?_
                  refine zz_if_eq X (tgt := 205) dX7_pushes_21 (by decide) ⟨by omega, by omega⟩ (fun c_21_2 => ?_) (fun c_21_2 => ?_)
                  · have hD9 := push_first (cost := B.1 0) (st := st) (x := 100) hCh (by omega) hst.1 (by omega)
                    have hE := push_end0 hB2_111 hD9
                    have hF1 := hf2_111
                    refine lv_aload_n hX hB dX7_pushes_205 rfl (lv_at hl 11 rfl) ?_
                    refine lv_iload hX hB dX7_pushes_206 (lv_at hl 3 rfl) ?_
                    refine va_put (v := .int (nZ 100)) (ty := tyX7 6) hX hB hz inlX7 tyX7 tyX7_ok nmX7 hW hK.1 hP hD hS 0 rfl rfl 6 (by decide) (hz _ zw_267) (fun _ h9 => h9) rfl (by decide +kernel) rfl rfl (Nat.le_of_ble_eq_true rfl) dX7_pushes_208 (fun H locs hP hD hS => ?_)
                    have hP : va_P D vwCl [(mm, .inr (7, [.ref ms, .int (nZ vsv), .ref mk, .ref mb, .int (nZ vty), .int (nZ vth), .int (nZ 100), .int (nZ vsp), .int (nZ vla), .int (nZ vpc)])), (ms, .inl (k 0, 900, .inl (zA s2_111)))] H := hP
                    have hD : va_D A [(mm, .inr (7, [.ref ms, .int (nZ vsv), .ref mk, .ref mb, .int (nZ vty), .int (nZ vth), .int (nZ 100), .int (nZ vsp), .int (nZ vla), .int (nZ vpc)])), (ms, .inl (k 0, 900, .inl (zA s2_111)))] := hD
                    refine lv_aload_n hX hB dX7_pushes_211 rfl (lv_at hl 11 rfl) ?_
                    refine va_get hX hB hz inlX7 hW hK.1 hP 0 rfl rfl 0 (by decide) (hz _ zw_74) (fun _ h9 => h9) rfl dX7_pushes_212 ?_
                    refine lv_iload_n hX hB dX7_pushes_215 rfl (lv_at hl 12 rfl) ?_
                    refine lv_bipush (v := nZ 7) hX hB dX7_pushes_216 (by decide) ?_
                    refine zz_iadd X dX7_pushes_218 (z := (↑(b + 7) : Int)) (by first | rfl | omega) ?_
                    refine lv_dup2_11 hX hB dX7_pushes_219 rfl rfl ?_
                    refine zz_iald X hP 1 0 rfl rfl (b + 7) (by omega) (by omega) (by first | decide | omega) dX7_pushes_220 ?_
                    refine lv_iload hX hB dX7_pushes_221 (lv_at hl 8 rfl) ?_
                    refine zz_iadd X dX7_pushes_223 (z := (s2_111 (b + 7))) (by first | rfl | omega) ?_
                    refine zz_iast X hP hD hS 1 0 rfl rfl (b + 7) (by omega) (by omega) (by first | decide | omega) dX7_pushes_224 (fun H locs hP hD hS => ?_)
                    have hP : va_P D vwCl [(mm, .inr (7, [.ref ms, .int (nZ vsv), .ref mk, .ref mb, .int (nZ vty), .int (nZ vth), .int (nZ 100), .int (nZ vsp), .int (nZ vla), .int (nZ vpc)])), (ms, .inl (k 0, 900, .inl (zA (zU s2_111 (b + 7) (s2_111 (b + 7))))))] H := hP
                    have hD : va_D A [(mm, .inr (7, [.ref ms, .int (nZ vsv), .ref mk, .ref mb, .int (nZ vty), .int (nZ vth), .int (nZ 100), .int (nZ vsp), .int (nZ vla), .int (nZ vpc)])), (ms, .inl (k 0, 900, .inl (zA (zU s2_111 (b + 7) (s2_111 (b + 7))))))] := hD
                    refine lv_iload hX hB dX7_pushes_225 (lv_at hl 8 rfl) ?_
                    exact zRetI ((zU s2_111 (b + 7) (s2_111 (b + 7))), 100) X hP hD hS rfl ⟨by congr 1; exact hD9.2.2.1.symm, hE, hF1.zU (by omega) (by omega), hD9.2.1.symm⟩ dX7_pushes_227
                  · exfalso; omega
                · exfalso; omega
              · exfalso; omega
            · refine lv_iconst (v := nZ 1) hX hB dX7_pushes_135 rfl ?_
              refine lv_goto (tgt := 140) hX hB dX7_pushes_136 (by decide) ?_
              refine lv_istore (lv' := [(5, .int (nZ 1)), (14, .int (nZ (s (((b + 27)) + (21 * j))))), (6, .int (nZ 100)), (13, .int (nZ ((-5) + st))), (12, .int (nZ 1)), (11, .int (nZ (((coinS (B.2 j) 0) - 5) - (-5)))), (10, .int (nZ (coinS (B.2 j) 0))), (9, .int (nZ 1)), (8, .int (nZ 0)), (7, .int (nZ st)), (4, .int (nZ (-1))), (0, .ref mm), (1, .int (nZ ↑b)), (2, .int (nZ ↑j)), (3, .int (nZ st))]) hX hB dX7_pushes_140 hl (by decide) rfl (fun ls hl => ?_)
              refine lv_iload hX hB dX7_pushes_142 (lv_at hl 4 rfl) ?_
              refine zz_if_ne X (tgt := 185) dX7_pushes_144 (by decide) ⟨by omega, by omega⟩ (fun c_144 => ?_) (fun c_144 => ?_)
              · refine lv_iload hX hB dX7_pushes_185 (lv_at hl 4 rfl) ?_
                refine zz_if_ne X (tgt := 199) dX7_pushes_187 (by decide) ⟨by omega, by omega⟩ (fun c_187 => ?_) (fun c_187 => ?_)
                · refine lv_iconst (v := nZ 0) hX hB dX7_pushes_199 rfl ?_
                  refine lv_istore (lv' := [(9, .int (nZ 0)), (5, .int (nZ 1)), (14, .int (nZ (s (((b + 27)) + (21 * j))))), (6, .int (nZ 100)), (13, .int (nZ ((-5) + st))), (12, .int (nZ 1)), (11, .int (nZ (((coinS (B.2 j) 0) - 5) - (-5)))), (10, .int (nZ (coinS (B.2 j) 0))), (8, .int (nZ 0)), (7, .int (nZ st)), (4, .int (nZ (-1))), (0, .ref mm), (1, .int (nZ ↑b)), (2, .int (nZ ↑j)), (3, .int (nZ st))]) hX hB dX7_pushes_200 hl (by decide) rfl (fun ls hl => ?_)
                  refine lv_goto (tgt := 19) hX hB dX7_pushes_202 (by decide) ?_
                  refine lv_iload hX hB dX7_pushes_19 (lv_at hl 0 rfl) ?_
                  refine zz_if_eq X (tgt := 205) dX7_pushes_21 (by decide) ⟨by omega, by omega⟩ (fun c_21_2 => ?_) (fun c_21_2 => ?_)
                  · have hD9 := push_first (cost := B.1 0) (st := st) (x := 100) hCh (by omega) hst.1 (by omega)
                    have hE := push_end0 hB2_111 hD9
                    have hF1 := hf2_111
                    refine lv_aload_n hX hB dX7_pushes_205 rfl (lv_at hl 11 rfl) ?_
                    refine lv_iload hX hB dX7_pushes_206 (lv_at hl 3 rfl) ?_
                    refine va_put (v := .int (nZ 100)) (ty := tyX7 6) hX hB hz inlX7 tyX7 tyX7_ok nmX7 hW hK.1 hP hD hS 0 rfl rfl 6 (by decide) (hz _ zw_267) (fun _ h9 => h9) rfl (by decide +kernel) rfl rfl (Nat.le_of_ble_eq_true rfl) dX7_pushes_208 (fun H locs hP hD hS => ?_)
                    have hP : va_P D vwCl [(mm, .inr (7, [.ref ms, .int (nZ vsv), .ref mk, .ref mb, .int (nZ vty), .int (nZ vth), .int (nZ 100), .int (nZ vsp), .int (nZ vla), .int (nZ vpc)])), (ms, .inl (k 0, 900, .inl (zA s2_111)))] H := hP
                    have hD : va_D A [(mm, .inr (7, [.ref ms, .int (nZ vsv), .ref mk, .ref mb, .int (nZ vty), .int (nZ vth), .int (nZ 100), .int (nZ vsp), .int (nZ vla), .int (nZ vpc)])), (ms, .inl (k 0, 900, .inl (zA s2_111)))] := hD
                    refine lv_aload_n hX hB dX7_pushes_211 rfl (lv_at hl 11 rfl) ?_
                    refine va_get hX hB hz inlX7 hW hK.1 hP 0 rfl rfl 0 (by decide) (hz _ zw_74) (fun _ h9 => h9) rfl dX7_pushes_212 ?_
                    refine lv_iload_n hX hB dX7_pushes_215 rfl (lv_at hl 12 rfl) ?_
                    refine lv_bipush (v := nZ 7) hX hB dX7_pushes_216 (by decide) ?_
                    refine zz_iadd X dX7_pushes_218 (z := (↑(b + 7) : Int)) (by first | rfl | omega) ?_
                    refine lv_dup2_11 hX hB dX7_pushes_219 rfl rfl ?_
                    refine zz_iald X hP 1 0 rfl rfl (b + 7) (by omega) (by omega) (by first | decide | omega) dX7_pushes_220 ?_
                    refine lv_iload hX hB dX7_pushes_221 (lv_at hl 8 rfl) ?_
                    refine zz_iadd X dX7_pushes_223 (z := (s2_111 (b + 7))) (by first | rfl | omega) ?_
                    refine zz_iast X hP hD hS 1 0 rfl rfl (b + 7) (by omega) (by omega) (by first | decide | omega) dX7_pushes_224 (fun H locs hP hD hS => ?_)
                    have hP : va_P D vwCl [(mm, .inr (7, [.ref ms, .int (nZ vsv), .ref mk, .ref mb, .int (nZ vty), .int (nZ vth), .int (nZ 100), .int (nZ vsp), .int (nZ vla), .int (nZ vpc)])), (ms, .inl (k 0, 900, .inl (zA (zU s2_111 (b + 7) (s2_111 (b + 7))))))] H := hP
                    have hD : va_D A [(mm, .inr (7, [.ref ms, .int (nZ vsv), .ref mk, .ref mb, .int (nZ vty), .int (nZ vth), .int (nZ 100), .int (nZ vsp), .int (nZ vla), .int (nZ vpc)])), (ms, .inl (k 0, 900, .inl (zA (zU s2_111 (b + 7) (s2_111 (b + 7))))))] := hD
                    refine lv_iload hX hB dX7_pushes_225 (lv_at hl 8 rfl) ?_
                    exact zRetI ((zU s2_111 (b + 7) (s2_111 (b + 7))), 100) X hP hD hS rfl ⟨by congr 1; exact hD9.2.2.1.symm, hE, hF1.zU (by omega) (by omega), hD9.2.1.symm⟩ dX7_pushes_227
                  · exfalso; omega
                · exfalso; omega
              · exfalso; omega
