theorem mv_X7_ends : zMV yX7_ends cX7_ends 6 (some .int) 0 := ⟨zw_286, zw_5, ⟨by decide +kernel, by decide +kernel, by decide +kernel⟩, zw_284, zw_285⟩
theorem mv_X7_endBy : zMV yX7_endBy cX7_endBy 4 (some .int) 3 := ⟨zw_593, zw_5, ⟨by decide +kernel, by decide +kernel, by decide +kernel⟩, zw_591, zw_592⟩
theorem mv_X7_cleanBehind : zMV yX7_cleanBehind cX7_cleanBehind 3 (some .int) 2 := ⟨zw_616, zw_5, ⟨by decide +kernel, by decide +kernel, by decide +kernel⟩, zw_614, zw_615⟩
theorem mv_X7_leastStrength : zMV yX7_leastStrength cX7_leastStrength 4 (some .int) 2 := ⟨zw_631, zw_5, ⟨by decide +kernel, by decide +kernel, by decide +kernel⟩, zw_629, zw_630⟩
theorem mv_X7_gain : zMV yX7_gain cX7_gain 3 (some .int) 0 := ⟨zw_657, zw_5, ⟨by decide +kernel, by decide +kernel, by decide +kernel⟩, zw_655, zw_656⟩
theorem mv_X7_best : zMV yX7_best cX7_best 6 (some .int) 0 := ⟨zw_653, zw_5, ⟨by decide +kernel, by decide +kernel, by decide +kernel⟩, zw_651, zw_652⟩
set_option maxHeartbeats 4000000 in
set_option maxRecDepth 100000 in
theorem c_X7_ends (l : Launch) (D : va_G) (k : Nat → ClassId) (sz : Nat) (mm ms mk mb : Nat) (vsv vty vth ven vsp vla vpc : Int) (s : Nat → Int) (B : Bd) (hBk : blkOk s 0 B) (hpl : 0 ≤ B.1 1 ∧ B.1 1 ≤ 1) (hch : chOk (chB B)) : Met l yX7_ends (zW yX7_ends cX7_ends 6 (some .int)) ({ frames := 4, cells := 0, slots := 0, locals := 95 } : Room) (va_Pc [.ref mm] (zIn D k sz [(mm, .inr (7, [.ref ms, .int (nZ vsv), .ref mk, .ref mb, .int (nZ vty), .int (nZ vth), .int (nZ ven), .int (nZ vsp), .int (nZ vla), .int (nZ vpc)])), (ms, .inl (k 0, 900, .inl (zA s)))])) (va_Qi (fun (rz : Int32) (uz : (Nat → Int)) => rz = nZ (madeB B) ∧ blkOk uz 0 (closeB B) ∧ frOk s uz 0) (fun (uz : (Nat → Int)) => zOut D (va_A [(mm, .inr (7, [.ref ms, .int (nZ vsv), .ref mk, .ref mb, .int (nZ vty), .int (nZ vth), .int (nZ ven), .int (nZ vsp), .int (nZ vla), .int (nZ vpc)])), (ms, .inl (k 0, 900, .inl (zA s)))] sz) [(mm, .inr (7, [.ref ms, .int (nZ vsv), .ref mk, .ref mb, .int (nZ vty), .int (nZ vth), .int (nZ ven), .int (nZ vsp), .int (nZ vla), .int (nZ vpc)])), (ms, .inl (k 0, 900, .inl (zA uz)))]) (va_A [(mm, .inr (7, [.ref ms, .int (nZ vsv), .ref mk, .ref mb, .int (nZ vty), .int (nZ vth), .int (nZ ven), .int (nZ vsp), .int (nZ vla), .int (nZ vpc)])), (ms, .inl (k 0, 900, .inl (zA s)))] sz)) 0 0 (va_A [(mm, .inr (7, [.ref ms, .int (nZ vsv), .ref mk, .ref mb, .int (nZ vty), .int (nZ vth), .int (nZ ven), .int (nZ vsp), .int (nZ vla), .int (nZ vpc)])), (ms, .inl (k 0, 900, .inl (zA s)))] sz) := by
  refine zEnter (Qf := fun A => va_Qi (fun (rz : Int32) (uz : (Nat → Int)) => rz = nZ (madeB B) ∧ blkOk uz 0 (closeB B) ∧ frOk s uz 0) (fun (uz : (Nat → Int)) => zOut D A [(mm, .inr (7, [.ref ms, .int (nZ vsv), .ref mk, .ref mb, .int (nZ vty), .int (nZ vth), .int (nZ ven), .int (nZ vsp), .int (nZ vla), .int (nZ vpc)])), (ms, .inl (k 0, 900, .inl (zA uz)))]) A) RX7 (by decide) rfl (Nat.le_of_ble_eq_true rfl) ?_
  intro p9 e9 s9 m9 be9 me9 c9 ls A X hin hP hD hS hA hAe hl
  have hX := X.1; have hB := X.2.1; have hz := X.2.2.2.2.1; have hW := X.2.2.2.2.2.1; have hK := X.2.2.2.2.2.2.2; clear hAe
  clear hin
  have hl : lv_has ls 6 [(0, .ref mm)] := hl
  have hs1 : s 1 = B.1 1 := hBk.num (k := 1) (by omega)
  have hcl := fun b => (cleanB_rng hBk.l20 b).1
  refine lv_aload_n hX hB dX7_ends_0 rfl (lv_at hl 0 rfl) ?_
  refine va_get hX hB hz inlX7 hW hK.1 hP 0 rfl rfl 0 (by decide) (hz _ zw_74) (fun _ h9 => h9) rfl dX7_ends_1 ?_
  refine lv_iconst (v := nZ 1) hX hB dX7_ends_4 rfl ?_
  refine zz_iald X hP 1 0 rfl rfl 1 (by omega) (by omega) (by first | decide | omega) dX7_ends_5 ?_
  refine lv_istore_n (lv' := [(1, .int (nZ (s 1))), (0, .ref mm)]) hX hB dX7_ends_6 rfl hl (by decide) rfl (fun ls hl => ?_)
  refine lv_iconst (v := nZ 0) hX hB dX7_ends_7 rfl ?_
  refine lv_istore_n (lv' := [(2, .int (nZ 0)), (1, .int (nZ (s 1))), (0, .ref mm)]) hX hB dX7_ends_8 rfl hl (by decide) rfl (fun ls hl => ?_)
  refine lv_iconst (v := nZ 0) hX hB dX7_ends_9 rfl ?_
  refine lv_istore_n (lv' := [(3, .int (nZ 0)), (2, .int (nZ 0)), (1, .int (nZ (s 1))), (0, .ref mm)]) hX hB dX7_ends_10 rfl hl (by decide) rfl (fun ls hl => ?_)
  refine zLoop (σ := Nat × Int × (Nat → Int)) (fun (x : Nat × Int × (Nat → Int)) (H : Heap) (locs : List Loc) (ls : Array Slot) => match x with | (i, z, q) => (i ≤ 9) ∧ (z = sumTo (fun b => ownR (chB B) (B.1 1) b (cleanB B b) + othR (chB B) (B.1 1) b (cleanB B b)) i) ∧ (blkOk q 0 (clB B i)) ∧ (frOk s q 0) ∧ va_P D vwCl [(mm, .inr (7, [.ref ms, .int (nZ vsv), .ref mk, .ref mb, .int (nZ vty), .int (nZ vth), .int (nZ ven), .int (nZ vsp), .int (nZ vla), .int (nZ vpc)])), (ms, .inl (k 0, 900, .inl (zA q)))] H ∧ va_D A [(mm, .inr (7, [.ref ms, .int (nZ vsv), .ref mk, .ref mb, .int (nZ vty), .int (nZ vth), .int (nZ ven), .int (nZ vsp), .int (nZ vla), .int (nZ vpc)])), (ms, .inl (k 0, 900, .inl (zA q)))] ∧ va_S A s9.heap H locs ∧ lv_has ls 6 [(0, .ref mm), (1, .int (nZ (s 1))), (2, .int (nZ z)), (3, .int (nZ ↑i))]) (fun (x : Nat × Int × (Nat → Int)) => match x with | (i, z, q) => 9 - i) ?_ (0, 0, s) ⟨(by first | omega | assumption | rfl), (by rfl), (by exact clB_0 hBk), (by exact frOk.refl _ _), hP, hD, hS, (lv_sub hl [3, 2, 1, 0] rfl)⟩
  rintro ⟨i, z, q⟩ H locs ls ⟨hi, hn, hq, hf, hP, hD, hS, hl⟩ ih_11
  refine lv_iload_n hX hB dX7_ends_11 rfl (lv_at hl 3 rfl) ?_
  refine lv_bipush (v := nZ 9) hX hB dX7_ends_12 (by decide) ?_
  refine zz_icmp_ge X (tgt := 89) dX7_ends_14 (by decide) ⟨by omega, by omega⟩ ⟨by omega, by omega⟩ (fun c_14 => ?_) (fun c_14 => ?_)
  · refine lv_aload_n hX hB dX7_ends_89 rfl (lv_at hl 0 rfl) ?_
    refine zCallV0 (zRunV (As := []) X mv_X7_clears (c_X7_clears l D k _ mm ms mk mb vsv vty vth ven vsp vla vpc q (clB B i) hq) zw_302 (zPreV hP hD hK [0, 1] rfl rfl 0 7 rfl rfl rfl) rfl hl (Nat.le_of_ble_eq_true rfl) dX7_ends_90 ⟨rfl, rfl, ⟨Nat.le_of_ble_eq_true rfl, Nat.le_of_ble_eq_true rfl⟩, Nat.le_of_ble_eq_true rfl, Nat.le_of_ble_eq_true rfl⟩ rfl) hS hP hD hA [0, 1] rfl (fun _ => rfl) (fun u_90 H locs hq_90 hP hD hS => ?_)
    obtain ⟨s2_90, e9⟩ : ∃ z9, z9 = u_90 := ⟨_, rfl⟩; subst e9
    obtain ⟨hB2_90, hf2_90⟩ := hq_90
    try dsimp only at hB2_90 hf2_90
    have hP : va_P D vwCl [(mm, .inr (7, [.ref ms, .int (nZ vsv), .ref mk, .ref mb, .int (nZ vty), .int (nZ vth), .int (nZ ven), .int (nZ vsp), .int (nZ vla), .int (nZ vpc)])), (ms, .inl (k 0, 900, .inl (zA s2_90)))] H := hP
    have hD : va_D A [(mm, .inr (7, [.ref ms, .int (nZ vsv), .ref mk, .ref mb, .int (nZ vty), .int (nZ vth), .int (nZ ven), .int (nZ vsp), .int (nZ vla), .int (nZ vpc)])), (ms, .inl (k 0, 900, .inl (zA s2_90)))] := hD
    refine lv_aload_n hX hB dX7_ends_93 rfl (lv_at hl 0 rfl) ?_
    refine va_get hX hB hz inlX7 hW hK.1 hP 0 rfl rfl 0 (by decide) (hz _ zw_74) (fun _ h9 => h9) rfl dX7_ends_94 ?_
    refine lv_iconst (v := nZ 2) hX hB dX7_ends_97 rfl ?_
    refine lv_iconst (v := nZ 0) hX hB dX7_ends_98 rfl ?_
    refine zz_iast X hP hD hS 1 0 rfl rfl 2 (by omega) (by omega) (by first | decide | omega) dX7_ends_99 (fun H locs hP hD hS => ?_)
    have hP : va_P D vwCl [(mm, .inr (7, [.ref ms, .int (nZ vsv), .ref mk, .ref mb, .int (nZ vty), .int (nZ vth), .int (nZ ven), .int (nZ vsp), .int (nZ vla), .int (nZ vpc)])), (ms, .inl (k 0, 900, .inl (zA (zU s2_90 2 0))))] H := hP
    have hD : va_D A [(mm, .inr (7, [.ref ms, .int (nZ vsv), .ref mk, .ref mb, .int (nZ vty), .int (nZ vth), .int (nZ ven), .int (nZ vsp), .int (nZ vla), .int (nZ vpc)])), (ms, .inl (k 0, 900, .inl (zA (zU s2_90 2 0))))] := hD
    refine lv_aload_n hX hB dX7_ends_100 rfl (lv_at hl 0 rfl) ?_
    refine va_get hX hB hz inlX7 hW hK.1 hP 0 rfl rfl 0 (by decide) (hz _ zw_74) (fun _ h9 => h9) rfl dX7_ends_101 ?_
    refine lv_iconst (v := nZ 4) hX hB dX7_ends_104 rfl ?_
    refine lv_dup2_11 hX hB dX7_ends_105 rfl rfl ?_
    refine zz_iald X hP 1 0 rfl rfl 4 (by omega) (by omega) (by first | decide | omega) dX7_ends_106 ?_
    refine lv_iconst (v := nZ 1) hX hB dX7_ends_107 rfl ?_
    refine zz_iadd X dX7_ends_108 (z := (((zU s2_90 2 0) 4) + 1)) (by first | rfl | omega) ?_
    refine zz_iast X hP hD hS 1 0 rfl rfl 4 (by omega) (by omega) (by first | decide | omega) dX7_ends_109 (fun H locs hP hD hS => ?_)
    have hP : va_P D vwCl [(mm, .inr (7, [.ref ms, .int (nZ vsv), .ref mk, .ref mb, .int (nZ vty), .int (nZ vth), .int (nZ ven), .int (nZ vsp), .int (nZ vla), .int (nZ vpc)])), (ms, .inl (k 0, 900, .inl (zA (zU (zU s2_90 2 0) 4 (((zU s2_90 2 0) 4) + 1)))))] H := hP
    have hD : va_D A [(mm, .inr (7, [.ref ms, .int (nZ vsv), .ref mk, .ref mb, .int (nZ vty), .int (nZ vth), .int (nZ ven), .int (nZ vsp), .int (nZ vla), .int (nZ vpc)])), (ms, .inl (k 0, 900, .inl (zA (zU (zU s2_90 2 0) 4 (((zU s2_90 2 0) 4) + 1)))))] := hD
    have hx9 : i = 9 := by omega
    subst hx9
    have hb4 : blkOk (zU (zU s2_90 2 0) 4 (((zU s2_90 2 0) 4) + 1)) 0 (zU (zU (clB B 9).1 2 0) 4 ((zU s2_90 2 0) 4 + 1), fun _ => []) := (hB2_90.setN (k := 2) (by omega) 0).setN (k := 4) (by omega) _
    have hV : (zU s2_90 2 0) 4 + 1 = B.1 4 + 1 := by rw [zU_ne _ _ (by omega), hB2_90.num (k := 4) (by omega)]; rfl
    have hok : chOk (chB (zU (zU (clB B 9).1 2 0) 4 ((zU s2_90 2 0) 4 + 1), fun _ => [])) := chOk_of cl_ch (closeCh_ok hch hpl hcl)
    have hcw : ∀ w : Int, w = winR (chB (zU (zU (clB B 9).1 2 0) 4 ((zU s2_90 2 0) 4 + 1), fun _ => [])) (B.1 1) → w = winR (closeCh (chB B) (B.1 1) (cleanB B)) (B.1 1) := fun w => cl_win hpl cl_ch
    refine lv_aload_n hX hB dX7_ends_110 rfl (lv_at hl 0 rfl) ?_
    refine va_get hX hB hz inlX7 hW hK.1 hP 0 rfl rfl 0 (by decide) (hz _ zw_74) (fun _ h9 => h9) rfl dX7_ends_111 ?_
    refine lv_iconst (v := nZ 3) hX hB dX7_ends_114 rfl ?_
    refine lv_aload_n hX hB dX7_ends_115 rfl (lv_at hl 0 rfl) ?_
    refine lv_iload_n hX hB dX7_ends_116 rfl (lv_at hl 1 rfl) ?_
    refine zCallI0 (zRunV (As := [.int (nZ (s 1))]) X mv_X7_hasAll (c_X7_hasAll l D k _ mm ms mk mb vsv vty vth ven vsp vla vpc (zU (zU s2_90 2 0) 4 (((zU s2_90 2 0) 4) + 1)) (zU (zU (clB B 9).1 2 0) 4 ((zU s2_90 2 0) 4 + 1), fun _ => []) (s 1) hb4 (⟨by omega, by omega⟩) (hok)) zw_306 (zPreV hP hD hK [0, 1] rfl rfl 0 7 rfl rfl rfl) rfl hl (Nat.le_of_ble_eq_true rfl) dX7_ends_117 ⟨rfl, rfl, ⟨Nat.le_of_ble_eq_true rfl, Nat.le_of_ble_eq_true rfl⟩, Nat.le_of_ble_eq_true rfl, Nat.le_of_ble_eq_true rfl⟩ rfl) hS hP hD hA [0, 1] rfl (fun _ => rfl) (fun r_117 u_117 H locs hq_117 hP hD hS => ?_)
    subst hq_117
    have hP : va_P D vwCl [(mm, .inr (7, [.ref ms, .int (nZ vsv), .ref mk, .ref mb, .int (nZ vty), .int (nZ vth), .int (nZ ven), .int (nZ vsp), .int (nZ vla), .int (nZ vpc)])), (ms, .inl (k 0, 900, .inl (zA (zU (zU s2_90 2 0) 4 (((zU s2_90 2 0) 4) + 1)))))] H := hP
    have hD : va_D A [(mm, .inr (7, [.ref ms, .int (nZ vsv), .ref mk, .ref mb, .int (nZ vty), .int (nZ vth), .int (nZ ven), .int (nZ vsp), .int (nZ vla), .int (nZ vpc)])), (ms, .inl (k 0, 900, .inl (zA (zU (zU s2_90 2 0) 4 (((zU s2_90 2 0) 4) + 1)))))] := hD
    refine zz_if_eq X (tgt := 129) dX7_ends_120 (by decide) ⟨by (split <;> omega), by (split <;> omega)⟩ (fun c_120 => ?_) (fun c_120 => ?_)
    · refine lv_aload_n hX hB dX7_ends_129 rfl (lv_at hl 0 rfl) ?_
      refine lv_iconst (v := nZ 1) hX hB dX7_ends_130 rfl ?_
      refine lv_iload_n hX hB dX7_ends_131 rfl (lv_at hl 1 rfl) ?_
      refine zz_isub X dX7_ends_132 (z := (1 - (s 1))) (by first | rfl | omega) ?_
      refine zCallI0 (zRunV (As := [.int (nZ (1 - (s 1)))]) X mv_X7_hasAll (c_X7_hasAll l D k _ mm ms mk mb vsv vty vth ven vsp vla vpc (zU (zU s2_90 2 0) 4 (((zU s2_90 2 0) 4) + 1)) (zU (zU (clB B 9).1 2 0) 4 ((zU s2_90 2 0) 4 + 1), fun _ => []) (1 - (s 1)) hb4 (⟨by omega, by omega⟩) (hok)) zw_306 (zPreV hP hD hK [0, 1] rfl rfl 0 7 rfl rfl rfl) rfl hl (Nat.le_of_ble_eq_true rfl) dX7_ends_133 ⟨rfl, rfl, ⟨Nat.le_of_ble_eq_true rfl, Nat.le_of_ble_eq_true rfl⟩, Nat.le_of_ble_eq_true rfl, Nat.le_of_ble_eq_true rfl⟩ rfl) hS hP hD hA [0, 1] rfl (fun _ => rfl) (fun r_133 u_133 H locs hq_133 hP hD hS => ?_)
      subst hq_133
      have hP : va_P D vwCl [(mm, .inr (7, [.ref ms, .int (nZ vsv), .ref mk, .ref mb, .int (nZ vty), .int (nZ vth), .int (nZ ven), .int (nZ vsp), .int (nZ vla), .int (nZ vpc)])), (ms, .inl (k 0, 900, .inl (zA (zU (zU s2_90 2 0) 4 (((zU s2_90 2 0) 4) + 1)))))] H := hP
      have hD : va_D A [(mm, .inr (7, [.ref ms, .int (nZ vsv), .ref mk, .ref mb, .int (nZ vty), .int (nZ vth), .int (nZ ven), .int (nZ vsp), .int (nZ vla), .int (nZ vpc)])), (ms, .inl (k 0, 900, .inl (zA (zU (zU s2_90 2 0) 4 (((zU s2_90 2 0) 4) + 1)))))] := hD
      refine zz_if_eq X (tgt := 145) dX7_ends_136 (by decide) ⟨by (split <;> omega), by (split <;> omega)⟩ (fun c_136 => ?_) (fun c_136 => ?_)
      · refine lv_iconst (v := nZ 0) hX hB dX7_ends_145 rfl ?_
        refine zz_iast X hP hD hS 1 0 rfl rfl 3 (by omega) (by omega) (by first | decide | omega) dX7_ends_146 (fun H locs hP hD hS => ?_)
        have hP : va_P D vwCl [(mm, .inr (7, [.ref ms, .int (nZ vsv), .ref mk, .ref mb, .int (nZ vty), .int (nZ vth), .int (nZ ven), .int (nZ vsp), .int (nZ vla), .int (nZ vpc)])), (ms, .inl (k 0, 900, .inl (zA (zU (zU (zU s2_90 2 0) 4 (((zU s2_90 2 0) 4) + 1)) 3 0))))] H := hP
        have hD : va_D A [(mm, .inr (7, [.ref ms, .int (nZ vsv), .ref mk, .ref mb, .int (nZ vty), .int (nZ vth), .int (nZ ven), .int (nZ vsp), .int (nZ vla), .int (nZ vpc)])), (ms, .inl (k 0, 900, .inl (zA (zU (zU (zU s2_90 2 0) 4 (((zU s2_90 2 0) 4) + 1)) 3 0))))] := hD
        have h3w : (zU (zU (zU s2_90 2 0) 4 (((zU s2_90 2 0) 4) + 1)) 3 0) 3 = 0 := zU_same _ _ _
        refine lv_aload_n hX hB dX7_ends_147 rfl (lv_at hl 0 rfl) ?_
        refine va_get hX hB hz inlX7 hW hK.1 hP 0 rfl rfl 0 (by decide) (hz _ zw_74) (fun _ h9 => h9) rfl dX7_ends_148 ?_
        refine lv_iconst (v := nZ 1) hX hB dX7_ends_151 rfl ?_
        refine lv_aload_n hX hB dX7_ends_152 rfl (lv_at hl 0 rfl) ?_
        refine va_get hX hB hz inlX7 hW hK.1 hP 0 rfl rfl 0 (by decide) (hz _ zw_74) (fun _ h9 => h9) rfl dX7_ends_153 ?_
        refine lv_iconst (v := nZ 3) hX hB dX7_ends_156 rfl ?_
        refine zz_iald X hP 1 0 rfl rfl 3 (by omega) (by omega) (by first | decide | omega) dX7_ends_157 ?_
        refine zz_if_ne X (tgt := 167) dX7_ends_158 (by decide) ⟨by omega, by omega⟩ (fun c_158 => ?_) (fun c_158 => ?_)
        · refine lv_iload_n hX hB dX7_ends_167 rfl (lv_at hl 1 rfl) ?_
          refine zz_iast X hP hD hS 1 0 rfl rfl 1 (by omega) (by omega) (by first | decide | omega) dX7_ends_168 (fun H locs hP hD hS => ?_)
          have hP : va_P D vwCl [(mm, .inr (7, [.ref ms, .int (nZ vsv), .ref mk, .ref mb, .int (nZ vty), .int (nZ vth), .int (nZ ven), .int (nZ vsp), .int (nZ vla), .int (nZ vpc)])), (ms, .inl (k 0, 900, .inl (zA (zU (zU (zU (zU s2_90 2 0) 4 (((zU s2_90 2 0) 4) + 1)) 3 0) 1 (s 1)))))] H := hP
          have hD : va_D A [(mm, .inr (7, [.ref ms, .int (nZ vsv), .ref mk, .ref mb, .int (nZ vty), .int (nZ vth), .int (nZ ven), .int (nZ vsp), .int (nZ vla), .int (nZ vpc)])), (ms, .inl (k 0, 900, .inl (zA (zU (zU (zU (zU s2_90 2 0) 4 (((zU s2_90 2 0) 4) + 1)) 3 0) 1 (s 1)))))] := hD
          refine lv_iload_n hX hB dX7_ends_169 rfl (lv_at hl 2 rfl) ?_
          exact zRetI (zU (zU (zU (zU s2_90 2 0) 4 (((zU s2_90 2 0) 4) + 1)) 3 0) 1 (s 1)) X hP hD hS rfl ⟨by congr 1, by (try rw [h3w] at c_158); refine cl_fin hb4 hV (hcw _ ?_) ?_; { unfold winR; rw [← hs1]; first | (rw [if_pos (ifz_ne c_120)]; omega) | (rw [if_neg (ifz_eq c_120), if_pos (ifz_ne c_136)]) | (rw [if_neg (ifz_eq c_120), if_neg (ifz_eq c_136)]) }; { rw [← hs1]; first | (exfalso; omega) | rw [if_pos (by omega)] | rw [if_neg (by omega)] }, by have h9 := hf.trans hf2_90; exact (((h9.zU (by omega) (by omega)).zU (by omega) (by omega)).zU (by omega) (by omega)).zU (by omega) (by omega)⟩ dX7_ends_170
        · refine lv_iconst (v := nZ 1) hX hB dX7_ends_161 rfl ?_
          refine lv_iload_n hX hB dX7_ends_162 rfl (lv_at hl 1 rfl) ?_
          refine zz_isub X dX7_ends_163 (z := (1 - (s 1))) (by first | rfl | omega) ?_
          refine lv_goto (tgt := 168) hX hB dX7_ends_164 (by decide) ?_
          refine zz_iast X hP hD hS 1 0 rfl rfl 1 (by omega) (by omega) (by first | decide | omega) dX7_ends_168 (fun H locs hP hD hS => ?_)
          have hP : va_P D vwCl [(mm, .inr (7, [.ref ms, .int (nZ vsv), .ref mk, .ref mb, .int (nZ vty), .int (nZ vth), .int (nZ ven), .int (nZ vsp), .int (nZ vla), .int (nZ vpc)])), (ms, .inl (k 0, 900, .inl (zA (zU (zU (zU (zU s2_90 2 0) 4 (((zU s2_90 2 0) 4) + 1)) 3 0) 1 (1 - (s 1))))))] H := hP
          have hD : va_D A [(mm, .inr (7, [.ref ms, .int (nZ vsv), .ref mk, .ref mb, .int (nZ vty), .int (nZ vth), .int (nZ ven), .int (nZ vsp), .int (nZ vla), .int (nZ vpc)])), (ms, .inl (k 0, 900, .inl (zA (zU (zU (zU (zU s2_90 2 0) 4 (((zU s2_90 2 0) 4) + 1)) 3 0) 1 (1 - (s 1))))))] := hD
          refine lv_iload_n hX hB dX7_ends_169 rfl (lv_at hl 2 rfl) ?_
          exact zRetI (zU (zU (zU (zU s2_90 2 0) 4 (((zU s2_90 2 0) 4) + 1)) 3 0) 1 (1 - (s 1))) X hP hD hS rfl ⟨by congr 1, by (try rw [h3w] at c_158); refine cl_fin hb4 hV (hcw _ ?_) ?_; { unfold winR; rw [← hs1]; first | (rw [if_pos (ifz_ne c_120)]; omega) | (rw [if_neg (ifz_eq c_120), if_pos (ifz_ne c_136)]) | (rw [if_neg (ifz_eq c_120), if_neg (ifz_eq c_136)]) }; { rw [← hs1]; first | (exfalso; omega) | rw [if_pos (by omega)] | rw [if_neg (by omega)] }, by have h9 := hf.trans hf2_90; exact (((h9.zU (by omega) (by omega)).zU (by omega) (by omega)).zU (by omega) (by omega)).zU (by omega) (by omega)⟩ dX7_ends_170
      · refine lv_iconst (v := nZ 2) hX hB dX7_ends_139 rfl ?_
        refine lv_iload_n hX hB dX7_ends_140 rfl (lv_at hl 1 rfl) ?_
        refine zz_isub X dX7_ends_141 (z := (2 - (s 1))) (by first | rfl | omega) ?_
        refine lv_goto (tgt := 146) hX hB dX7_ends_142 (by decide) ?_
        refine zz_iast X hP hD hS 1 0 rfl rfl 3 (by omega) (by omega) (by first | decide | omega) dX7_ends_146 (fun H locs hP hD hS => ?_)
        have hP : va_P D vwCl [(mm, .inr (7, [.ref ms, .int (nZ vsv), .ref mk, .ref mb, .int (nZ vty), .int (nZ vth), .int (nZ ven), .int (nZ vsp), .int (nZ vla), .int (nZ vpc)])), (ms, .inl (k 0, 900, .inl (zA (zU (zU (zU s2_90 2 0) 4 (((zU s2_90 2 0) 4) + 1)) 3 (2 - (s 1))))))] H := hP
        have hD : va_D A [(mm, .inr (7, [.ref ms, .int (nZ vsv), .ref mk, .ref mb, .int (nZ vty), .int (nZ vth), .int (nZ ven), .int (nZ vsp), .int (nZ vla), .int (nZ vpc)])), (ms, .inl (k 0, 900, .inl (zA (zU (zU (zU s2_90 2 0) 4 (((zU s2_90 2 0) 4) + 1)) 3 (2 - (s 1))))))] := hD
        have h3w : (zU (zU (zU s2_90 2 0) 4 (((zU s2_90 2 0) 4) + 1)) 3 (2 - (s 1))) 3 = (2 - (s 1)) := zU_same _ _ _
        refine lv_aload_n hX hB dX7_ends_147 rfl (lv_at hl 0 rfl) ?_
        refine va_get hX hB hz inlX7 hW hK.1 hP 0 rfl rfl 0 (by decide) (hz _ zw_74) (fun _ h9 => h9) rfl dX7_ends_148 ?_
        refine lv_iconst (v := nZ 1) hX hB dX7_ends_151 rfl ?_
        refine lv_aload_n hX hB dX7_ends_152 rfl (lv_at hl 0 rfl) ?_
        refine va_get hX hB hz inlX7 hW hK.1 hP 0 rfl rfl 0 (by decide) (hz _ zw_74) (fun _ h9 => h9) rfl dX7_ends_153 ?_
        refine lv_iconst (v := nZ 3) hX hB dX7_ends_156 rfl ?_
        refine zz_iald X hP 1 0 rfl rfl 3 (by omega) (by omega) (by first | decide | omega) dX7_ends_157 ?_
        refine zz_if_ne X (tgt := 167) dX7_ends_158 (by decide) ⟨by omega, by omega⟩ (fun c_158 => ?_) (fun c_158 => ?_)
        · refine lv_iload_n hX hB dX7_ends_167 rfl (lv_at hl 1 rfl) ?_
          refine zz_iast X hP hD hS 1 0 rfl rfl 1 (by omega) (by omega) (by first | decide | omega) dX7_ends_168 (fun H locs hP hD hS => ?_)
          have hP : va_P D vwCl [(mm, .inr (7, [.ref ms, .int (nZ vsv), .ref mk, .ref mb, .int (nZ vty), .int (nZ vth), .int (nZ ven), .int (nZ vsp), .int (nZ vla), .int (nZ vpc)])), (ms, .inl (k 0, 900, .inl (zA (zU (zU (zU (zU s2_90 2 0) 4 (((zU s2_90 2 0) 4) + 1)) 3 (2 - (s 1))) 1 (s 1)))))] H := hP
          have hD : va_D A [(mm, .inr (7, [.ref ms, .int (nZ vsv), .ref mk, .ref mb, .int (nZ vty), .int (nZ vth), .int (nZ ven), .int (nZ vsp), .int (nZ vla), .int (nZ vpc)])), (ms, .inl (k 0, 900, .inl (zA (zU (zU (zU (zU s2_90 2 0) 4 (((zU s2_90 2 0) 4) + 1)) 3 (2 - (s 1))) 1 (s 1)))))] := hD
          refine lv_iload_n hX hB dX7_ends_169 rfl (lv_at hl 2 rfl) ?_
          exact zRetI (zU (zU (zU (zU s2_90 2 0) 4 (((zU s2_90 2 0) 4) + 1)) 3 (2 - (s 1))) 1 (s 1)) X hP hD hS rfl ⟨by congr 1, by (try rw [h3w] at c_158); refine cl_fin hb4 hV (hcw _ ?_) ?_; { unfold winR; rw [← hs1]; first | (rw [if_pos (ifz_ne c_120)]; omega) | (rw [if_neg (ifz_eq c_120), if_pos (ifz_ne c_136)]) | (rw [if_neg (ifz_eq c_120), if_neg (ifz_eq c_136)]) }; { rw [← hs1]; first | (exfalso; omega) | rw [if_pos (by omega)] | rw [if_neg (by omega)] }, by have h9 := hf.trans hf2_90; exact (((h9.zU (by omega) (by omega)).zU (by omega) (by omega)).zU (by omega) (by omega)).zU (by omega) (by omega)⟩ dX7_ends_170
        · refine lv_iconst (v := nZ 1) hX hB dX7_ends_161 rfl ?_
          refine lv_iload_n hX hB dX7_ends_162 rfl (lv_at hl 1 rfl) ?_
          refine zz_isub X dX7_ends_163 (z := (1 - (s 1))) (by first | rfl | omega) ?_
          refine lv_goto (tgt := 168) hX hB dX7_ends_164 (by decide) ?_
          refine zz_iast X hP hD hS 1 0 rfl rfl 1 (by omega) (by omega) (by first | decide | omega) dX7_ends_168 (fun H locs hP hD hS => ?_)
          have hP : va_P D vwCl [(mm, .inr (7, [.ref ms, .int (nZ vsv), .ref mk, .ref mb, .int (nZ vty), .int (nZ vth), .int (nZ ven), .int (nZ vsp), .int (nZ vla), .int (nZ vpc)])), (ms, .inl (k 0, 900, .inl (zA (zU (zU (zU (zU s2_90 2 0) 4 (((zU s2_90 2 0) 4) + 1)) 3 (2 - (s 1))) 1 (1 - (s 1))))))] H := hP
          have hD : va_D A [(mm, .inr (7, [.ref ms, .int (nZ vsv), .ref mk, .ref mb, .int (nZ vty), .int (nZ vth), .int (nZ ven), .int (nZ vsp), .int (nZ vla), .int (nZ vpc)])), (ms, .inl (k 0, 900, .inl (zA (zU (zU (zU (zU s2_90 2 0) 4 (((zU s2_90 2 0) 4) + 1)) 3 (2 - (s 1))) 1 (1 - (s 1))))))] := hD
          refine lv_iload_n hX hB dX7_ends_169 rfl (lv_at hl 2 rfl) ?_
          exact zRetI (zU (zU (zU (zU s2_90 2 0) 4 (((zU s2_90 2 0) 4) + 1)) 3 (2 - (s 1))) 1 (1 - (s 1))) X hP hD hS rfl ⟨by congr 1, by (try rw [h3w] at c_158); refine cl_fin hb4 hV (hcw _ ?_) ?_; { unfold winR; rw [← hs1]; first | (rw [if_pos (ifz_ne c_120)]; omega) | (rw [if_neg (ifz_eq c_120), if_pos (ifz_ne c_136)]) | (rw [if_neg (ifz_eq c_120), if_neg (ifz_eq c_136)]) }; { rw [← hs1]; first | (exfalso; omega) | rw [if_pos (by omega)] | rw [if_neg (by omega)] }, by have h9 := hf.trans hf2_90; exact (((h9.zU (by omega) (by omega)).zU (by omega) (by omega)).zU (by omega) (by omega)).zU (by omega) (by omega)⟩ dX7_ends_170
    · refine lv_iconst (v := nZ 1) hX hB dX7_ends_123 rfl ?_
      refine lv_iload_n hX hB dX7_ends_124 rfl (lv_at hl 1 rfl) ?_
      refine zz_iadd X dX7_ends_125 (z := (1 + (s 1))) (by first | rfl | omega) ?_
      refine lv_goto (tgt := 146) hX hB dX7_ends_126 (by decide) ?_
      refine zz_iast X hP hD hS 1 0 rfl rfl 3 (by omega) (by omega) (by first | decide | omega) dX7_ends_146 (fun H locs hP hD hS => ?_)
      have hP : va_P D vwCl [(mm, .inr (7, [.ref ms, .int (nZ vsv), .ref mk, .ref mb, .int (nZ vty), .int (nZ vth), .int (nZ ven), .int (nZ vsp), .int (nZ vla), .int (nZ vpc)])), (ms, .inl (k 0, 900, .inl (zA (zU (zU (zU s2_90 2 0) 4 (((zU s2_90 2 0) 4) + 1)) 3 (1 + (s 1))))))] H := hP
      have hD : va_D A [(mm, .inr (7, [.ref ms, .int (nZ vsv), .ref mk, .ref mb, .int (nZ vty), .int (nZ vth), .int (nZ ven), .int (nZ vsp), .int (nZ vla), .int (nZ vpc)])), (ms, .inl (k 0, 900, .inl (zA (zU (zU (zU s2_90 2 0) 4 (((zU s2_90 2 0) 4) + 1)) 3 (1 + (s 1))))))] := hD
      have h3w : (zU (zU (zU s2_90 2 0) 4 (((zU s2_90 2 0) 4) + 1)) 3 (1 + (s 1))) 3 = (1 + (s 1)) := zU_same _ _ _
      refine lv_aload_n hX hB dX7_ends_147 rfl (lv_at hl 0 rfl) ?_
      refine va_get hX hB hz inlX7 hW hK.1 hP 0 rfl rfl 0 (by decide) (hz _ zw_74) (fun _ h9 => h9) rfl dX7_ends_148 ?_
      refine lv_iconst (v := nZ 1) hX hB dX7_ends_151 rfl ?_
      refine lv_aload_n hX hB dX7_ends_152 rfl (lv_at hl 0 rfl) ?_
      refine va_get hX hB hz inlX7 hW hK.1 hP 0 rfl rfl 0 (by decide) (hz _ zw_74) (fun _ h9 => h9) rfl dX7_ends_153 ?_
      refine lv_iconst (v := nZ 3) hX hB dX7_ends_156 rfl ?_
      refine zz_iald X hP 1 0 rfl rfl 3 (by omega) (by omega) (by first | decide | omega) dX7_ends_157 ?_
      refine zz_if_ne X (tgt := 167) dX7_ends_158 (by decide) ⟨by omega, by omega⟩ (fun c_158 => ?_) (fun c_158 => ?_)
      · refine lv_iload_n hX hB dX7_ends_167 rfl (lv_at hl 1 rfl) ?_
        refine zz_iast X hP hD hS 1 0 rfl rfl 1 (by omega) (by omega) (by first | decide | omega) dX7_ends_168 (fun H locs hP hD hS => ?_)
        have hP : va_P D vwCl [(mm, .inr (7, [.ref ms, .int (nZ vsv), .ref mk, .ref mb, .int (nZ vty), .int (nZ vth), .int (nZ ven), .int (nZ vsp), .int (nZ vla), .int (nZ vpc)])), (ms, .inl (k 0, 900, .inl (zA (zU (zU (zU (zU s2_90 2 0) 4 (((zU s2_90 2 0) 4) + 1)) 3 (1 + (s 1))) 1 (s 1)))))] H := hP
        have hD : va_D A [(mm, .inr (7, [.ref ms, .int (nZ vsv), .ref mk, .ref mb, .int (nZ vty), .int (nZ vth), .int (nZ ven), .int (nZ vsp), .int (nZ vla), .int (nZ vpc)])), (ms, .inl (k 0, 900, .inl (zA (zU (zU (zU (zU s2_90 2 0) 4 (((zU s2_90 2 0) 4) + 1)) 3 (1 + (s 1))) 1 (s 1)))))] := hD
        refine lv_iload_n hX hB dX7_ends_169 rfl (lv_at hl 2 rfl) ?_
        exact zRetI (zU (zU (zU (zU s2_90 2 0) 4 (((zU s2_90 2 0) 4) + 1)) 3 (1 + (s 1))) 1 (s 1)) X hP hD hS rfl ⟨by congr 1, by (try rw [h3w] at c_158); refine cl_fin hb4 hV (hcw _ ?_) ?_; { unfold winR; rw [← hs1]; first | (rw [if_pos (ifz_ne c_120)]; omega) | (rw [if_neg (ifz_eq c_120), if_pos (ifz_ne c_136)]) | (rw [if_neg (ifz_eq c_120), if_neg (ifz_eq c_136)]) }; { rw [← hs1]; first | (exfalso; omega) | rw [if_pos (by omega)] | rw [if_neg (by omega)] }, by have h9 := hf.trans hf2_90; exact (((h9.zU (by omega) (by omega)).zU (by omega) (by omega)).zU (by omega) (by omega)).zU (by omega) (by omega)⟩ dX7_ends_170
      · refine lv_iconst (v := nZ 1) hX hB dX7_ends_161 rfl ?_
        refine lv_iload_n hX hB dX7_ends_162 rfl (lv_at hl 1 rfl) ?_
        refine zz_isub X dX7_ends_163 (z := (1 - (s 1))) (by first | rfl | omega) ?_
        refine lv_goto (tgt := 168) hX hB dX7_ends_164 (by decide) ?_
        refine zz_iast X hP hD hS 1 0 rfl rfl 1 (by omega) (by omega) (by first | decide | omega) dX7_ends_168 (fun H locs hP hD hS => ?_)
        have hP : va_P D vwCl [(mm, .inr (7, [.ref ms, .int (nZ vsv), .ref mk, .ref mb, .int (nZ vty), .int (nZ vth), .int (nZ ven), .int (nZ vsp), .int (nZ vla), .int (nZ vpc)])), (ms, .inl (k 0, 900, .inl (zA (zU (zU (zU (zU s2_90 2 0) 4 (((zU s2_90 2 0) 4) + 1)) 3 (1 + (s 1))) 1 (1 - (s 1))))))] H := hP
        have hD : va_D A [(mm, .inr (7, [.ref ms, .int (nZ vsv), .ref mk, .ref mb, .int (nZ vty), .int (nZ vth), .int (nZ ven), .int (nZ vsp), .int (nZ vla), .int (nZ vpc)])), (ms, .inl (k 0, 900, .inl (zA (zU (zU (zU (zU s2_90 2 0) 4 (((zU s2_90 2 0) 4) + 1)) 3 (1 + (s 1))) 1 (1 - (s 1))))))] := hD
        refine lv_iload_n hX hB dX7_ends_169 rfl (lv_at hl 2 rfl) ?_
        exact zRetI (zU (zU (zU (zU s2_90 2 0) 4 (((zU s2_90 2 0) 4) + 1)) 3 (1 + (s 1))) 1 (1 - (s 1))) X hP hD hS rfl ⟨by congr 1, by (try rw [h3w] at c_158); refine cl_fin hb4 hV (hcw _ ?_) ?_; { unfold winR; rw [← hs1]; first | (rw [if_pos (ifz_ne c_120)]; omega) | (rw [if_neg (ifz_eq c_120), if_pos (ifz_ne c_136)]) | (rw [if_neg (ifz_eq c_120), if_neg (ifz_eq c_136)]) }; { rw [← hs1]; first | (exfalso; omega) | rw [if_pos (by omega)] | rw [if_neg (by omega)] }, by have h9 := hf.trans hf2_90; exact (((h9.zU (by omega) (by omega)).zU (by omega) (by omega)).zU (by omega) (by omega)).zU (by omega) (by omega)⟩ dX7_ends_170
  · refine lv_aload_n hX hB dX7_ends_17 rfl (lv_at hl 0 rfl) ?_
    refine lv_iconst (v := nZ 0) hX hB dX7_ends_18 rfl ?_
    refine lv_iload_n hX hB dX7_ends_19 rfl (lv_at hl 3 rfl) ?_
    refine lv_iconst (v := nZ 0) hX hB dX7_ends_20 rfl ?_
    refine zCallI0 (zRunV (As := [.int (nZ 0), .int (nZ ↑i), .int (nZ 0)]) X mv_X7_wouldGet (c_X7_wouldGet_0 l D k _ mm ms mk mb vsv vty vth ven vsp vla vpc q 0 (clB B i) ↑i hq (by first | assumption | omega | exact ⟨by omega, by omega⟩) (hpl) (clB_ok hch hpl hcl i) (⟨by omega, by omega⟩)) zw_287 (zPreV hP hD hK [0, 1] rfl rfl 0 7 rfl rfl rfl) rfl hl (Nat.le_of_ble_eq_true rfl) dX7_ends_21 ⟨rfl, rfl, ⟨Nat.le_of_ble_eq_true rfl, Nat.le_of_ble_eq_true rfl⟩, Nat.le_of_ble_eq_true rfl, Nat.le_of_ble_eq_true rfl⟩ rfl) hS hP hD hA [0, 1] rfl (fun _ => rfl) (fun r_21 u_21 H locs hq_21 hP hD hS => ?_)
    subst hq_21
    have hP : va_P D vwCl [(mm, .inr (7, [.ref ms, .int (nZ vsv), .ref mk, .ref mb, .int (nZ vty), .int (nZ vth), .int (nZ ven), .int (nZ vsp), .int (nZ vla), .int (nZ vpc)])), (ms, .inl (k 0, 900, .inl (zA q)))] H := hP
    have hD : va_D A [(mm, .inr (7, [.ref ms, .int (nZ vsv), .ref mk, .ref mb, .int (nZ vty), .int (nZ vth), .int (nZ ven), .int (nZ vsp), .int (nZ vla), .int (nZ vpc)])), (ms, .inl (k 0, 900, .inl (zA q)))] := hD
    refine lv_istore (lv' := [(4, .int (nZ (ownR (chB (clB B i)) ((clB B i).1 1) (↑i : Int) (cleanB (clB B i) (↑i : Int))))), (0, .ref mm), (1, .int (nZ (s 1))), (2, .int (nZ z)), (3, .int (nZ ↑i))]) hX hB dX7_ends_24 hl (by decide) rfl (fun ls hl => ?_)
    refine lv_aload_n hX hB dX7_ends_26 rfl (lv_at hl 1 rfl) ?_
    refine lv_iconst (v := nZ 0) hX hB dX7_ends_27 rfl ?_
    refine lv_iload_n hX hB dX7_ends_28 rfl (lv_at hl 4 rfl) ?_
    refine lv_iconst (v := nZ 1) hX hB dX7_ends_29 rfl ?_
    refine zCallI0 (zRunV (As := [.int (nZ 0), .int (nZ ↑i), .int (nZ 1)]) X mv_X7_wouldGet (c_X7_wouldGet_1 l D k _ mm ms mk mb vsv vty vth ven vsp vla vpc q 0 (clB B i) ↑i hq (by first | assumption | omega | exact ⟨by omega, by omega⟩) (hpl) (clB_ok hch hpl hcl i) (⟨by omega, by omega⟩)) zw_287 (zPreV hP hD hK [0, 1] rfl rfl 0 7 rfl rfl rfl) rfl hl (Nat.le_of_ble_eq_true rfl) dX7_ends_30 ⟨rfl, rfl, ⟨Nat.le_of_ble_eq_true rfl, Nat.le_of_ble_eq_true rfl⟩, Nat.le_of_ble_eq_true rfl, Nat.le_of_ble_eq_true rfl⟩ rfl) hS hP hD hA [0, 1] rfl (fun _ => rfl) (fun r_30 u_30 H locs hq_30 hP hD hS => ?_)
    subst hq_30
    have hP : va_P D vwCl [(mm, .inr (7, [.ref ms, .int (nZ vsv), .ref mk, .ref mb, .int (nZ vty), .int (nZ vth), .int (nZ ven), .int (nZ vsp), .int (nZ vla), .int (nZ vpc)])), (ms, .inl (k 0, 900, .inl (zA q)))] H := hP
    have hD : va_D A [(mm, .inr (7, [.ref ms, .int (nZ vsv), .ref mk, .ref mb, .int (nZ vty), .int (nZ vth), .int (nZ ven), .int (nZ vsp), .int (nZ vla), .int (nZ vpc)])), (ms, .inl (k 0, 900, .inl (zA q)))] := hD
    refine lv_istore (lv' := [(5, .int (nZ (othR (chB (clB B i)) ((clB B i).1 1) (↑i : Int) (cleanB (clB B i) (↑i : Int))))), (4, .int (nZ (ownR (chB (clB B i)) ((clB B i).1 1) (↑i : Int) (cleanB (clB B i) (↑i : Int))))), (0, .ref mm), (1, .int (nZ (s 1))), (2, .int (nZ z)), (3, .int (nZ ↑i))]) hX hB dX7_ends_33 hl (by decide) rfl (fun ls hl => ?_)
    refine lv_aload_n hX hB dX7_ends_35 rfl (lv_at hl 2 rfl) ?_
    refine va_get hX hB hz inlX7 hW hK.1 hP 0 rfl rfl 0 (by decide) (hz _ zw_74) (fun _ h9 => h9) rfl dX7_ends_36 ?_
    refine lv_bipush (v := nZ 9) hX hB dX7_ends_39 (by decide) ?_
    refine lv_bipush (v := nZ 9) hX hB dX7_ends_41 (by decide) ?_
    refine lv_iload_n hX hB dX7_ends_43 rfl (lv_at hl 3 rfl) ?_
    refine zz_imul X dX7_ends_44 (z := (9 * (s 1))) (by first | rfl | omega) ?_
    refine zz_iadd X dX7_ends_45 (z := (9 + (9 * (s 1)))) (by first | rfl | omega) ?_
    refine lv_iload_n hX hB dX7_ends_46 rfl (lv_at hl 5 rfl) ?_
    refine zz_iadd X dX7_ends_47 (z := ((9 + (9 * (s 1))) + ↑i)) (by first | rfl | omega) ?_
    refine lv_dup2_11 hX hB dX7_ends_48 rfl rfl ?_
    refine zz_iald X hP 1 0 rfl rfl (((9 + (9 * (s 1))) + ↑i).toNat) (by omega) (by omega) (by first | decide | omega) dX7_ends_49 ?_
    refine lv_iload hX hB dX7_ends_50 (lv_at hl 1 rfl) ?_
    refine zz_iadd X dX7_ends_52 (z := ((q (((9 + (9 * (s 1))) + ↑i).toNat)) + (ownR (chB (clB B i)) ((clB B i).1 1) (↑i : Int) (cleanB (clB B i) (↑i : Int))))) (by first | rfl | omega) ?_
    refine zz_iast X hP hD hS 1 0 rfl rfl (((9 + (9 * (s 1))) + ↑i).toNat) (by omega) (by omega) (by first | decide | omega) dX7_ends_53 (fun H locs hP hD hS => ?_)
    have hP : va_P D vwCl [(mm, .inr (7, [.ref ms, .int (nZ vsv), .ref mk, .ref mb, .int (nZ vty), .int (nZ vth), .int (nZ ven), .int (nZ vsp), .int (nZ vla), .int (nZ vpc)])), (ms, .inl (k 0, 900, .inl (zA (zU q (((9 + (9 * (s 1))) + ↑i).toNat) ((q (((9 + (9 * (s 1))) + ↑i).toNat)) + (ownR (chB (clB B i)) ((clB B i).1 1) (↑i : Int) (cleanB (clB B i) (↑i : Int))))))))] H := hP
    have hD : va_D A [(mm, .inr (7, [.ref ms, .int (nZ vsv), .ref mk, .ref mb, .int (nZ vty), .int (nZ vth), .int (nZ ven), .int (nZ vsp), .int (nZ vla), .int (nZ vpc)])), (ms, .inl (k 0, 900, .inl (zA (zU q (((9 + (9 * (s 1))) + ↑i).toNat) ((q (((9 + (9 * (s 1))) + ↑i).toNat)) + (ownR (chB (clB B i)) ((clB B i).1 1) (↑i : Int) (cleanB (clB B i) (↑i : Int))))))))] := hD
    refine lv_aload_n hX hB dX7_ends_54 rfl (lv_at hl 2 rfl) ?_
    refine va_get hX hB hz inlX7 hW hK.1 hP 0 rfl rfl 0 (by decide) (hz _ zw_74) (fun _ h9 => h9) rfl dX7_ends_55 ?_
    refine lv_bipush (v := nZ 9) hX hB dX7_ends_58 (by decide) ?_
    refine lv_bipush (v := nZ 9) hX hB dX7_ends_60 (by decide) ?_
    refine lv_iconst (v := nZ 1) hX hB dX7_ends_62 rfl ?_
    refine lv_iload_n hX hB dX7_ends_63 rfl (lv_at hl 3 rfl) ?_
    refine zz_isub X dX7_ends_64 (z := (1 - (s 1))) (by first | rfl | omega) ?_
    refine zz_imul X dX7_ends_65 (z := (9 * (1 - (s 1)))) (by first | rfl | omega) ?_
    refine zz_iadd X dX7_ends_66 (z := (9 + (9 * (1 - (s 1))))) (by first | rfl | omega) ?_
    refine lv_iload_n hX hB dX7_ends_67 rfl (lv_at hl 5 rfl) ?_
    refine zz_iadd X dX7_ends_68 (z := ((9 + (9 * (1 - (s 1)))) + ↑i)) (by first | rfl | omega) ?_
    refine lv_dup2_11 hX hB dX7_ends_69 rfl rfl ?_
    refine zz_iald X hP 1 0 rfl rfl (((9 + (9 * (1 - (s 1)))) + ↑i).toNat) (by omega) (by omega) (by first | decide | omega) dX7_ends_70 ?_
    refine lv_iload hX hB dX7_ends_71 (lv_at hl 0 rfl) ?_
    refine zz_iadd X dX7_ends_73 (z := (((zU q (((9 + (9 * (s 1))) + ↑i).toNat) ((q (((9 + (9 * (s 1))) + ↑i).toNat)) + (ownR (chB (clB B i)) ((clB B i).1 1) (↑i : Int) (cleanB (clB B i) (↑i : Int))))) (((9 + (9 * (1 - (s 1)))) + ↑i).toNat)) + (othR (chB (clB B i)) ((clB B i).1 1) (↑i : Int) (cleanB (clB B i) (↑i : Int))))) (by first | rfl | omega) ?_
    refine zz_iast X hP hD hS 1 0 rfl rfl (((9 + (9 * (1 - (s 1)))) + ↑i).toNat) (by omega) (by omega) (by first | decide | omega) dX7_ends_74 (fun H locs hP hD hS => ?_)
    have hP : va_P D vwCl [(mm, .inr (7, [.ref ms, .int (nZ vsv), .ref mk, .ref mb, .int (nZ vty), .int (nZ vth), .int (nZ ven), .int (nZ vsp), .int (nZ vla), .int (nZ vpc)])), (ms, .inl (k 0, 900, .inl (zA (zU (zU q (((9 + (9 * (s 1))) + ↑i).toNat) ((q (((9 + (9 * (s 1))) + ↑i).toNat)) + (ownR (chB (clB B i)) ((clB B i).1 1) (↑i : Int) (cleanB (clB B i) (↑i : Int))))) (((9 + (9 * (1 - (s 1)))) + ↑i).toNat) (((zU q (((9 + (9 * (s 1))) + ↑i).toNat) ((q (((9 + (9 * (s 1))) + ↑i).toNat)) + (ownR (chB (clB B i)) ((clB B i).1 1) (↑i : Int) (cleanB (clB B i) (↑i : Int))))) (((9 + (9 * (1 - (s 1)))) + ↑i).toNat)) + (othR (chB (clB B i)) ((clB B i).1 1) (↑i : Int) (cleanB (clB B i) (↑i : Int))))))))] H := hP
    have hD : va_D A [(mm, .inr (7, [.ref ms, .int (nZ vsv), .ref mk, .ref mb, .int (nZ vty), .int (nZ vth), .int (nZ ven), .int (nZ vsp), .int (nZ vla), .int (nZ vpc)])), (ms, .inl (k 0, 900, .inl (zA (zU (zU q (((9 + (9 * (s 1))) + ↑i).toNat) ((q (((9 + (9 * (s 1))) + ↑i).toNat)) + (ownR (chB (clB B i)) ((clB B i).1 1) (↑i : Int) (cleanB (clB B i) (↑i : Int))))) (((9 + (9 * (1 - (s 1)))) + ↑i).toNat) (((zU q (((9 + (9 * (s 1))) + ↑i).toNat) ((q (((9 + (9 * (s 1))) + ↑i).toNat)) + (ownR (chB (clB B i)) ((clB B i).1 1) (↑i : Int) (cleanB (clB B i) (↑i : Int))))) (((9 + (9 * (1 - (s 1)))) + ↑i).toNat)) + (othR (chB (clB B i)) ((clB B i).1 1) (↑i : Int) (cleanB (clB B i) (↑i : Int))))))))] := hD
    refine lv_iload_n hX hB dX7_ends_75 rfl (lv_at hl 4 rfl) ?_
    refine lv_iload hX hB dX7_ends_76 (lv_at hl 1 rfl) ?_
    refine lv_iload hX hB dX7_ends_78 (lv_at hl 0 rfl) ?_
    refine zz_iadd X dX7_ends_80 (z := ((ownR (chB (clB B i)) ((clB B i).1 1) (↑i : Int) (cleanB (clB B i) (↑i : Int))) + (othR (chB (clB B i)) ((clB B i).1 1) (↑i : Int) (cleanB (clB B i) (↑i : Int))))) (by first | rfl | omega) ?_
    refine zz_iadd X dX7_ends_81 (z := (z + ((ownR (chB (clB B i)) ((clB B i).1 1) (↑i : Int) (cleanB (clB B i) (↑i : Int))) + (othR (chB (clB B i)) ((clB B i).1 1) (↑i : Int) (cleanB (clB B i) (↑i : Int)))))) (by first | rfl | omega) ?_
    refine lv_istore_n (lv' := [(2, .int (nZ (z + ((ownR (chB (clB B i)) ((clB B i).1 1) (↑i : Int) (cleanB (clB B i) (↑i : Int))) + (othR (chB (clB B i)) ((clB B i).1 1) (↑i : Int) (cleanB (clB B i) (↑i : Int))))))), (5, .int (nZ (othR (chB (clB B i)) ((clB B i).1 1) (↑i : Int) (cleanB (clB B i) (↑i : Int))))), (4, .int (nZ (ownR (chB (clB B i)) ((clB B i).1 1) (↑i : Int) (cleanB (clB B i) (↑i : Int))))), (0, .ref mm), (1, .int (nZ (s 1))), (3, .int (nZ ↑i))]) hX hB dX7_ends_82 rfl hl (by decide) rfl (fun ls hl => ?_)
    refine lv_iinc (v := nZ (↑(i + 1) : Int)) (lv' := [(3, .int (nZ (↑(i + 1) : Int))), (2, .int (nZ (z + ((ownR (chB (clB B i)) ((clB B i).1 1) (↑i : Int) (cleanB (clB B i) (↑i : Int))) + (othR (chB (clB B i)) ((clB B i).1 1) (↑i : Int) (cleanB (clB B i) (↑i : Int))))))), (5, .int (nZ (othR (chB (clB B i)) ((clB B i).1 1) (↑i : Int) (cleanB (clB B i) (↑i : Int))))), (4, .int (nZ (ownR (chB (clB B i)) ((clB B i).1 1) (↑i : Int) (cleanB (clB B i) (↑i : Int))))), (0, .ref mm), (1, .int (nZ (s 1)))]) hX hB dX7_ends_83 hl (k := 5) rfl (zinc (by omega)) (by decide) rfl (fun ls hl => ?_)
    refine lv_goto (tgt := 11) hX hB dX7_ends_86 (by decide) ?_
    exact ih_11 ((i + 1), (z + ((ownR (chB (clB B i)) ((clB B i).1 1) (↑i : Int) (cleanB (clB B i) (↑i : Int))) + (othR (chB (clB B i)) ((clB B i).1 1) (↑i : Int) (cleanB (clB B i) (↑i : Int))))), (zU (zU q (((9 + (9 * (s 1))) + ↑i).toNat) ((q (((9 + (9 * (s 1))) + ↑i).toNat)) + (ownR (chB (clB B i)) ((clB B i).1 1) (↑i : Int) (cleanB (clB B i) (↑i : Int))))) (((9 + (9 * (1 - (s 1)))) + ↑i).toNat) (((zU q (((9 + (9 * (s 1))) + ↑i).toNat) ((q (((9 + (9 * (s 1))) + ↑i).toNat)) + (ownR (chB (clB B i)) ((clB B i).1 1) (↑i : Int) (cleanB (clB B i) (↑i : Int))))) (((9 + (9 * (1 - (s 1)))) + ↑i).toNat)) + (othR (chB (clB B i)) ((clB B i).1 1) (↑i : Int) (cleanB (clB B i) (↑i : Int)))))) _ _ _ ⟨(by first | omega | assumption | rfl), (by rw [hn, clB_own (by omega) hpl, clB_oth (by omega) hpl]; rfl), (by exact clB_step (by omega) hq hpl (clB_own (by omega) hpl) (clB_oth (by omega) hpl) (by omega) (by omega)), (by exact (hf.zU (by omega) (by omega)).zU (by omega) (by omega)), hP, hD, hS, (lv_sub hl [4, 5, 1, 0] rfl)⟩ (by dsimp only; omega)
set_option maxHeartbeats 4000000 in
set_option maxRecDepth 100000 in
theorem c_X7_endBy_0 (l : Launch) (D : va_G) (k : Nat → ClassId) (sz : Nat) (mm ms mk mb : Nat) (vsv vty vth ven vsp vla vpc : Int) (s : Nat → Int) (j : Nat) (B : Bd) (st : Int) (hBk : blkOk s 0 B) (hjj : j < 3) (hCh : chainS (-5) (B.2 j)) (hcost : 0 ≤ B.1 0 ∧ B.1 0 ≤ 20) (hst : 1 ≤ st ∧ st ≤ 150) : Met l yX7_endBy (zW yX7_endBy cX7_endBy 4 (some .int)) ({ frames := 5, cells := 0, slots := 0, locals := 128 } : Room) (va_Pc [.ref mm, .int (nZ ↑j), .int (nZ st), .int (nZ 0)] (zIn D k sz [(mm, .inr (7, [.ref ms, .int (nZ vsv), .ref mk, .ref mb, .int (nZ vty), .int (nZ vth), .int (nZ ven), .int (nZ vsp), .int (nZ vla), .int (nZ vpc)])), (ms, .inl (k 0, 900, .inl (zA s)))])) (va_Qi (fun (rz : Int32) (uz : Unit) => rz = nZ (lastL (B.1 0) st (B.2 j))) (fun (uz : Unit) => zOut D (va_A [(mm, .inr (7, [.ref ms, .int (nZ vsv), .ref mk, .ref mb, .int (nZ vty), .int (nZ vth), .int (nZ ven), .int (nZ vsp), .int (nZ vla), .int (nZ vpc)])), (ms, .inl (k 0, 900, .inl (zA s)))] sz) [(mm, .inr (7, [.ref ms, .int (nZ vsv), .ref mk, .ref mb, .int (nZ vty), .int (nZ vth), .int (nZ ven), .int (nZ vsp), .int (nZ vla), .int (nZ vpc)])), (ms, .inl (k 0, 900, .inl (zA s)))]) (va_A [(mm, .inr (7, [.ref ms, .int (nZ vsv), .ref mk, .ref mb, .int (nZ vty), .int (nZ vth), .int (nZ ven), .int (nZ vsp), .int (nZ vla), .int (nZ vpc)])), (ms, .inl (k 0, 900, .inl (zA s)))] sz)) 0 0 (va_A [(mm, .inr (7, [.ref ms, .int (nZ vsv), .ref mk, .ref mb, .int (nZ vty), .int (nZ vth), .int (nZ ven), .int (nZ vsp), .int (nZ vla), .int (nZ vpc)])), (ms, .inl (k 0, 900, .inl (zA s)))] sz) := by
  refine zEnter (Qf := fun A => va_Qi (fun (rz : Int32) (uz : Unit) => rz = nZ (lastL (B.1 0) st (B.2 j))) (fun (uz : Unit) => zOut D A [(mm, .inr (7, [.ref ms, .int (nZ vsv), .ref mk, .ref mb, .int (nZ vty), .int (nZ vth), .int (nZ ven), .int (nZ vsp), .int (nZ vla), .int (nZ vpc)])), (ms, .inl (k 0, 900, .inl (zA s)))]) A) RX7 (by decide) rfl (Nat.le_of_ble_eq_true rfl) ?_
  intro p9 e9 s9 m9 be9 me9 c9 ls A X hin hP hD hS hA hAe hl
  have hX := X.1; have hB := X.2.1; have hz := X.2.2.2.2.1; have hW := X.2.2.2.2.2.1; have hK := X.2.2.2.2.2.2.2; clear hAe
  clear hin
  have hl : lv_has ls 4 [(0, .ref mm), (1, .int (nZ ↑j)), (2, .int (nZ st)), (3, .int (nZ 0))] := hl
  refine lv_iload_n hX hB dX7_endBy_0 rfl (lv_at hl 3 rfl) ?_
  refine zz_if_ne X (tgt := 11) dX7_endBy_1 (by decide) ⟨by omega, by omega⟩ (fun c_1 => ?_) (fun c_1 => ?_)
  · exfalso; omega
  · refine lv_aload_n hX hB dX7_endBy_4 rfl (lv_at hl 0 rfl) ?_
    refine lv_iload_n hX hB dX7_endBy_5 rfl (lv_at hl 1 rfl) ?_
    refine lv_iload_n hX hB dX7_endBy_6 rfl (lv_at hl 2 rfl) ?_
    refine zCallI0 (zRunV (As := [.int (nZ ↑j), .int (nZ st)]) X mv_X7_endOf (c_X7_endOf l D k _ mm ms mk mb vsv vty vth ven vsp vla vpc s j B st hBk hjj hCh hcost hst) zw_594 (zPreV hP hD hK [0, 1] rfl rfl 0 7 rfl rfl rfl) rfl hl (Nat.le_of_ble_eq_true rfl) dX7_endBy_7 ⟨rfl, rfl, ⟨Nat.le_of_ble_eq_true rfl, Nat.le_of_ble_eq_true rfl⟩, Nat.le_of_ble_eq_true rfl, Nat.le_of_ble_eq_true rfl⟩ rfl) hS hP hD hA [0, 1] rfl (fun _ => rfl) (fun r_7 u_7 H locs hq_7 hP hD hS => ?_)
    subst hq_7
    have hP : va_P D vwCl [(mm, .inr (7, [.ref ms, .int (nZ vsv), .ref mk, .ref mb, .int (nZ vty), .int (nZ vth), .int (nZ ven), .int (nZ vsp), .int (nZ vla), .int (nZ vpc)])), (ms, .inl (k 0, 900, .inl (zA s)))] H := hP
    have hD : va_D A [(mm, .inr (7, [.ref ms, .int (nZ vsv), .ref mk, .ref mb, .int (nZ vty), .int (nZ vth), .int (nZ ven), .int (nZ vsp), .int (nZ vla), .int (nZ vpc)])), (ms, .inl (k 0, 900, .inl (zA s)))] := hD
    exact zRetI () X hP hD hS rfl (by first | rfl | (congr 1; omega) | (dsimp only; congr 1; omega)) dX7_endBy_10
set_option maxHeartbeats 4000000 in
set_option maxRecDepth 100000 in
theorem c_X7_endBy_1 (l : Launch) (D : va_G) (k : Nat → ClassId) (sz : Nat) (mm ms mk mb : Nat) (vsv vty vth ven vsp vla vpc : Int) (s : Nat → Int) (j : Nat) (B : Bd) (st : Int) (hBk : blkOk s 0 B) (hjj : j < 3) (hCh : chainS (-5) (B.2 j)) (hcost : 0 ≤ B.1 0 ∧ B.1 0 ≤ 20) (hst : 1 ≤ st ∧ st ≤ 150) : Met l yX7_endBy (zW yX7_endBy cX7_endBy 4 (some .int)) ({ frames := 5, cells := 0, slots := 0, locals := 128 } : Room) (va_Pc [.ref mm, .int (nZ ↑j), .int (nZ st), .int (nZ 1)] (zIn D k sz [(mm, .inr (7, [.ref ms, .int (nZ vsv), .ref mk, .ref mb, .int (nZ vty), .int (nZ vth), .int (nZ ven), .int (nZ vsp), .int (nZ vla), .int (nZ vpc)])), (ms, .inl (k 0, 900, .inl (zA s)))])) (va_Qi (fun (rz : Int32) (uz : (Nat → Int) × Int) => rz = nZ (lastL (B.1 0) st (B.2 j)) ∧ frOk s uz.1 810) (fun (uz : (Nat → Int) × Int) => zOut D (va_A [(mm, .inr (7, [.ref ms, .int (nZ vsv), .ref mk, .ref mb, .int (nZ vty), .int (nZ vth), .int (nZ ven), .int (nZ vsp), .int (nZ vla), .int (nZ vpc)])), (ms, .inl (k 0, 900, .inl (zA s)))] sz) [(mm, .inr (7, [.ref ms, .int (nZ vsv), .ref mk, .ref mb, .int (nZ vty), .int (nZ vth), .int (nZ uz.2), .int (nZ vsp), .int (nZ vla), .int (nZ vpc)])), (ms, .inl (k 0, 900, .inl (zA uz.1)))]) (va_A [(mm, .inr (7, [.ref ms, .int (nZ vsv), .ref mk, .ref mb, .int (nZ vty), .int (nZ vth), .int (nZ ven), .int (nZ vsp), .int (nZ vla), .int (nZ vpc)])), (ms, .inl (k 0, 900, .inl (zA s)))] sz)) 0 0 (va_A [(mm, .inr (7, [.ref ms, .int (nZ vsv), .ref mk, .ref mb, .int (nZ vty), .int (nZ vth), .int (nZ ven), .int (nZ vsp), .int (nZ vla), .int (nZ vpc)])), (ms, .inl (k 0, 900, .inl (zA s)))] sz) := by
  refine zEnter (Qf := fun A => va_Qi (fun (rz : Int32) (uz : (Nat → Int) × Int) => rz = nZ (lastL (B.1 0) st (B.2 j)) ∧ frOk s uz.1 810) (fun (uz : (Nat → Int) × Int) => zOut D A [(mm, .inr (7, [.ref ms, .int (nZ vsv), .ref mk, .ref mb, .int (nZ vty), .int (nZ vth), .int (nZ uz.2), .int (nZ vsp), .int (nZ vla), .int (nZ vpc)])), (ms, .inl (k 0, 900, .inl (zA uz.1)))]) A) RX7 (by decide) rfl (Nat.le_of_ble_eq_true rfl) ?_
  intro p9 e9 s9 m9 be9 me9 c9 ls A X hin hP hD hS hA hAe hl
  have hX := X.1; have hB := X.2.1; have hz := X.2.2.2.2.1; have hW := X.2.2.2.2.2.1; have hK := X.2.2.2.2.2.2.2; clear hAe
  clear hin
  have hl : lv_has ls 4 [(0, .ref mm), (1, .int (nZ ↑j)), (2, .int (nZ st)), (3, .int (nZ 1))] := hl
  refine lv_iload_n hX hB dX7_endBy_0 rfl (lv_at hl 3 rfl) ?_
  refine zz_if_ne X (tgt := 11) dX7_endBy_1 (by decide) ⟨by omega, by omega⟩ (fun c_1 => ?_) (fun c_1 => ?_)
  · refine lv_aload_n hX hB dX7_endBy_11 rfl (lv_at hl 0 rfl) ?_
    refine lv_iload_n hX hB dX7_endBy_12 rfl (lv_at hl 1 rfl) ?_
    refine lv_iload_n hX hB dX7_endBy_13 rfl (lv_at hl 2 rfl) ?_
    refine zCallV0 (zRunV (As := [.int (nZ ↑j), .int (nZ st)]) X mv_X7_tries (c_X7_tries l D k _ mm ms mk mb vsv vty vth ven vsp vla vpc s j B st hBk hjj hCh hcost hst) zw_598 (zPreV hP hD hK [0, 1] rfl rfl 0 7 rfl rfl rfl) rfl hl (Nat.le_of_ble_eq_true rfl) dX7_endBy_14 ⟨rfl, rfl, ⟨Nat.le_of_ble_eq_true rfl, Nat.le_of_ble_eq_true rfl⟩, Nat.le_of_ble_eq_true rfl, Nat.le_of_ble_eq_true rfl⟩ rfl) hS hP hD hA [0, 1] rfl (fun _ => rfl) (fun u_14 H locs hq_14 hP hD hS => ?_)
    obtain ⟨s2_14, ve2_14⟩ := u_14
    obtain ⟨hB2_14, hf2_14, hve_14⟩ := hq_14
    try dsimp only at hB2_14 hf2_14 hve_14
    have hP : va_P D vwCl [(mm, .inr (7, [.ref ms, .int (nZ vsv), .ref mk, .ref mb, .int (nZ vty), .int (nZ vth), .int (nZ ve2_14), .int (nZ vsp), .int (nZ vla), .int (nZ vpc)])), (ms, .inl (k 0, 900, .inl (zA s2_14)))] H := hP
    have hD : va_D A [(mm, .inr (7, [.ref ms, .int (nZ vsv), .ref mk, .ref mb, .int (nZ vty), .int (nZ vth), .int (nZ ve2_14), .int (nZ vsp), .int (nZ vla), .int (nZ vpc)])), (ms, .inl (k 0, 900, .inl (zA s2_14)))] := hD
    refine lv_aload_n hX hB dX7_endBy_17 rfl (lv_at hl 0 rfl) ?_
    refine va_get hX hB hz inlX7 hW hK.1 hP 0 rfl rfl 6 (by decide) (hz _ zw_267) (fun _ h9 => h9) rfl dX7_endBy_18 ?_
    exact zRetI (s2_14, ve2_14) X hP hD hS rfl ⟨by rw [hve_14], by first | assumption | omega | (dsimp only; omega) | rfl⟩ dX7_endBy_21
  · exfalso; omega
set_option maxHeartbeats 4000000 in
set_option maxRecDepth 100000 in
theorem c_X7_cleanBehind (l : Launch) (D : va_G) (k : Nat → ClassId) (sz : Nat) (mm ms mk mb : Nat) (vsv vty vth ven vsp vla vpc : Int) (s : Nat → Int) (j : Nat) (B : Bd) (st : Int) (hBk : blkOk s 0 B) (hjj : j < 3) (hCh : chainS (-5) (B.2 j)) (hcost : 0 ≤ B.1 0 ∧ B.1 0 ≤ 20) (hst : 1 ≤ st ∧ st ≤ 150) : Met l yX7_cleanBehind (zW yX7_cleanBehind cX7_cleanBehind 3 (some .int)) ({ frames := 5, cells := 0, slots := 0, locals := 128 } : Room) (va_Pc [.ref mm, .int (nZ ↑j), .int (nZ st)] (zIn D k sz [(mm, .inr (7, [.ref ms, .int (nZ vsv), .ref mk, .ref mb, .int (nZ vty), .int (nZ vth), .int (nZ ven), .int (nZ vsp), .int (nZ vla), .int (nZ vpc)])), (ms, .inl (k 0, 900, .inl (zA s)))])) (va_Qi (fun (rz : Int32) (uz : (Nat → Int) × Int) => rz = nZ (cleanAllB (push0 B j st)) ∧ frOk s uz.1 810) (fun (uz : (Nat → Int) × Int) => zOut D (va_A [(mm, .inr (7, [.ref ms, .int (nZ vsv), .ref mk, .ref mb, .int (nZ vty), .int (nZ vth), .int (nZ ven), .int (nZ vsp), .int (nZ vla), .int (nZ vpc)])), (ms, .inl (k 0, 900, .inl (zA s)))] sz) [(mm, .inr (7, [.ref ms, .int (nZ vsv), .ref mk, .ref mb, .int (nZ vty), .int (nZ vth), .int (nZ uz.2), .int (nZ vsp), .int (nZ vla), .int (nZ vpc)])), (ms, .inl (k 0, 900, .inl (zA uz.1)))]) (va_A [(mm, .inr (7, [.ref ms, .int (nZ vsv), .ref mk, .ref mb, .int (nZ vty), .int (nZ vth), .int (nZ ven), .int (nZ vsp), .int (nZ vla), .int (nZ vpc)])), (ms, .inl (k 0, 900, .inl (zA s)))] sz)) 0 0 (va_A [(mm, .inr (7, [.ref ms, .int (nZ vsv), .ref mk, .ref mb, .int (nZ vty), .int (nZ vth), .int (nZ ven), .int (nZ vsp), .int (nZ vla), .int (nZ vpc)])), (ms, .inl (k 0, 900, .inl (zA s)))] sz) := by
  refine zEnter (Qf := fun A => va_Qi (fun (rz : Int32) (uz : (Nat → Int) × Int) => rz = nZ (cleanAllB (push0 B j st)) ∧ frOk s uz.1 810) (fun (uz : (Nat → Int) × Int) => zOut D A [(mm, .inr (7, [.ref ms, .int (nZ vsv), .ref mk, .ref mb, .int (nZ vty), .int (nZ vth), .int (nZ uz.2), .int (nZ vsp), .int (nZ vla), .int (nZ vpc)])), (ms, .inl (k 0, 900, .inl (zA uz.1)))]) A) RX7 (by decide) rfl (Nat.le_of_ble_eq_true rfl) ?_
  intro p9 e9 s9 m9 be9 me9 c9 ls A X hin hP hD hS hA hAe hl
  have hX := X.1; have hB := X.2.1; have hz := X.2.2.2.2.1; have hW := X.2.2.2.2.2.1; have hK := X.2.2.2.2.2.2.2; clear hAe
  clear hin
  have hl : lv_has ls 3 [(0, .ref mm), (1, .int (nZ ↑j)), (2, .int (nZ st))] := hl
  refine lv_aload_n hX hB dX7_cleanBehind_0 rfl (lv_at hl 0 rfl) ?_
  refine lv_iload_n hX hB dX7_cleanBehind_1 rfl (lv_at hl 1 rfl) ?_
  refine lv_iload_n hX hB dX7_cleanBehind_2 rfl (lv_at hl 2 rfl) ?_
  refine zCallV0 (zRunV (As := [.int (nZ ↑j), .int (nZ st)]) X mv_X7_tries (c_X7_tries l D k _ mm ms mk mb vsv vty vth ven vsp vla vpc s j B st hBk hjj hCh hcost hst) zw_598 (zPreV hP hD hK [0, 1] rfl rfl 0 7 rfl rfl rfl) rfl hl (Nat.le_of_ble_eq_true rfl) dX7_cleanBehind_3 ⟨rfl, rfl, ⟨Nat.le_of_ble_eq_true rfl, Nat.le_of_ble_eq_true rfl⟩, Nat.le_of_ble_eq_true rfl, Nat.le_of_ble_eq_true rfl⟩ rfl) hS hP hD hA [0, 1] rfl (fun _ => rfl) (fun u_3 H locs hq_3 hP hD hS => ?_)
  obtain ⟨s2_3, ve2_3⟩ := u_3
  obtain ⟨hB2_3, hf2_3, hve_3⟩ := hq_3
  try dsimp only at hB2_3 hf2_3 hve_3
  have hP : va_P D vwCl [(mm, .inr (7, [.ref ms, .int (nZ vsv), .ref mk, .ref mb, .int (nZ vty), .int (nZ vth), .int (nZ ve2_3), .int (nZ vsp), .int (nZ vla), .int (nZ vpc)])), (ms, .inl (k 0, 900, .inl (zA s2_3)))] H := hP
  have hD : va_D A [(mm, .inr (7, [.ref ms, .int (nZ vsv), .ref mk, .ref mb, .int (nZ vty), .int (nZ vth), .int (nZ ve2_3), .int (nZ vsp), .int (nZ vla), .int (nZ vpc)])), (ms, .inl (k 0, 900, .inl (zA s2_3)))] := hD
  refine lv_aload_n hX hB dX7_cleanBehind_6 rfl (lv_at hl 0 rfl) ?_
  refine lv_sipush (v := nZ 810) hX hB dX7_cleanBehind_7 (by decide) ?_
  refine zCallI0 (zRunV (As := [.int (nZ 810)]) X mv_X7_allClean (c_X7_allClean l D k _ mm ms mk mb vsv vty vth ve2_3 vsp vla vpc s2_3 810 (push0 B j st) hB2_3 (by first | assumption | omega | exact ⟨by omega, by omega⟩)) zw_559 (zPreV hP hD hK [0, 1] rfl rfl 0 7 rfl rfl rfl) rfl hl (Nat.le_of_ble_eq_true rfl) dX7_cleanBehind_10 ⟨rfl, rfl, ⟨Nat.le_of_ble_eq_true rfl, Nat.le_of_ble_eq_true rfl⟩, Nat.le_of_ble_eq_true rfl, Nat.le_of_ble_eq_true rfl⟩ rfl) hS hP hD hA [0, 1] rfl (fun _ => rfl) (fun r_10 u_10 H locs hq_10 hP hD hS => ?_)
  subst hq_10
  have hP : va_P D vwCl [(mm, .inr (7, [.ref ms, .int (nZ vsv), .ref mk, .ref mb, .int (nZ vty), .int (nZ vth), .int (nZ ve2_3), .int (nZ vsp), .int (nZ vla), .int (nZ vpc)])), (ms, .inl (k 0, 900, .inl (zA s2_3)))] H := hP
  have hD : va_D A [(mm, .inr (7, [.ref ms, .int (nZ vsv), .ref mk, .ref mb, .int (nZ vty), .int (nZ vth), .int (nZ ve2_3), .int (nZ vsp), .int (nZ vla), .int (nZ vpc)])), (ms, .inl (k 0, 900, .inl (zA s2_3)))] := hD
  exact zRetI (s2_3, ve2_3) X hP hD hS rfl ⟨by first | rfl | (congr 1; omega) | (dsimp only; congr 1; omega), by first | assumption | omega | (dsimp only; omega) | rfl⟩ dX7_cleanBehind_13
