theorem ms_L_chalks : zMS yL_chalks cL_chalks 7 (some .boolean) 1 := ⟨zw_405, zw_68, ⟨by decide +kernel, by decide +kernel, by decide +kernel⟩, zw_404⟩
set_option maxHeartbeats 2000000 in
set_option maxRecDepth 100000 in
theorem c_L_chalks (l : Launch) (D : va_G) (k : Nat → ClassId) (h : Nat) (B : Bd) (S : List Bd) (K : Nat → Option Bd) (T : List Int) (xs : va_W) (N : Int) (hN : 0 ≤ N ∧ N < 900000) (hG : goodT N (B, S, K, T)) (hx : isX k h (B, S, K, T) xs)   : ∀ sz, Met l yL_chalks (zW yL_chalks cL_chalks 7 (some .boolean)) ({ frames := 11, cells := 11, slots := 119, locals := 360 } : Room) (va_Pc [.ref h] (zIn D k sz xs)) (va_Qi (fun (r : Int32) (u : va_W) => r = nZ 1 ∧ ∃ S2, goodT N (B, S2, K, T) ∧ isX k h (B, S2, K, T) u) (fun u => zOut D (va_A xs sz) u) (va_A xs sz)) 11 119 (va_A xs sz) := by
  intro sz
  refine zEnter (Qf := fun A => va_Qi (fun (r : Int32) (u : va_W) => r = nZ 1 ∧ ∃ S2, goodT N (B, S2, K, T) ∧ isX k h (B, S2, K, T) u) (fun u => zOut D A u) A) RL (by decide) rfl (Nat.le_of_ble_eq_true rfl) ?_
  intro p9 e9 s9 m9 be9 me9 c9 ls A X hin hP hD hS hA hAe hl
  have hX := X.1; have hB := X.2.1; have hz := X.2.2.2.2.1; have hW := X.2.2.2.2.2.1; have hK := X.2.2.2.2.2.2.2; clear hAe; clear hin
  have hl : lv_has ls 7 [(0, .ref h)] := hl
  have hBg : bdGood B := hG.1.1
  obtain ⟨w0, w1, w2, w3, w4, hC0, hC1, hC2⟩ := id hBg
  refine lv_aload_n hX hB dL_chalks_0 rfl (lv_at hl 0 rfl) ?_
  refine zcL1n (zRunS (As := [.ref h]) X ms_L_print (c_L_print l D k h B S K T xs N ⟨by omega, by omega⟩ hG hx  _) zw_161 (zPre1 hP hD hK) rfl hl (Nat.le_of_ble_eq_true rfl) dL_chalks_1 ⟨rfl, rfl, ⟨Nat.le_of_ble_eq_true rfl, Nat.le_of_ble_eq_true rfl⟩, Nat.le_of_ble_eq_true rfl, Nat.le_of_ble_eq_true rfl⟩ rfl) hS hP hD hA (fun r xs H locs hpost hP hD hS => ?_)
  obtain ⟨rfl, hx⟩ := hpost
  refine lv_lstore_n (lv' := [(1, .long (nL (printB B))), (0, .ref h)]) hX hB dL_chalks_4 rfl hl (by decide) rfl (fun ls hl => ?_)
  refine lv_iconst (v := nZ 0) hX hB dL_chalks_5 rfl ?_
  refine lv_istore_n (lv' := [(3, .int (nZ 0)), (1, .long (nL (printB B))), (0, .ref h)]) hX hB dL_chalks_6 rfl hl (by decide) rfl (fun ls hl => ?_)
  refine lv_iconst (v := nZ 0) hX hB dL_chalks_7 rfl ?_
  refine lv_istore (lv' := [(4, .int (nZ 0)), (3, .int (nZ 0)), (1, .long (nL (printB B))), (0, .ref h)]) hX hB dL_chalks_8 hl (by decide) rfl (fun ls hl => ?_)
  refine zLoop (σ := Nat × Int × va_W) (fun (x : Nat × Int × va_W) (H : Heap) (locs : List Loc) (ls : Array Slot) => match x with | (bd, du, xs) => (bd ≤ 9) ∧ (du = sumTo (fun b => ownR (chB B) (B.1 1) (b : Int) (cleanB B (b : Int)) + othR (chB B) (B.1 1) (b : Int) (cleanB B (b : Int))) bd) ∧ (isX k h (B, S, K, T) xs) ∧ va_P D vwCl xs H ∧ va_D A xs ∧ va_S A s9.heap H locs ∧ lv_has ls 7 [(0, .ref h), (1, .long (nL (printB B))), (3, .int (nZ du)), (4, .int (nZ (↑bd : Int)))]) (fun (x : Nat × Int × va_W) => match x with | (bd, du, xs) => 9 - bd) ?_ (0, 0, xs) ⟨(by omega), (by rfl), (by exact hx), hP, hD, hS, (lv_sub hl [3, 2, 1, 0] rfl)⟩
  rintro ⟨bd, du, xs⟩ H locs ls ⟨hbd, hdu, hx, hP, hD, hS, hl⟩ ih_10
  refine lv_iload hX hB dL_chalks_10 (lv_at hl 3 rfl) ?_
  refine lv_bipush (v := nZ 9) hX hB dL_chalks_12 (by decide) ?_
  refine zz_icmp_ge X (tgt := 41) dL_chalks_14 (by decide) ⟨by omega, by omega⟩ ⟨by omega, by omega⟩ (fun c_14 => ?_) (fun c_14 => ?_)
  · have hdu9 : du = madeB B := by rw [hdu, show bd = 9 by omega]; rfl
    have hmr := made_rng hBg
    rw [← hdu9] at hmr
    have hcr := chalks_rng w4
    refine lv_aload_n hX hB dL_chalks_41 rfl (lv_at hl 0 rfl) ?_
    refine lv_iconst (v := nZ 4) hX hB dL_chalks_42 rfl ?_
    refine zc1n (zRunW (As := [.ref h, .int (nZ 4)]) X mw_count (wc_count l D k h B S K T xs hG.1 hx 4 ⟨by omega, by omega⟩ (chSum (chB B) 0) (rfl)  _) zw_130 (zPre1 hP hD hK) rfl hl (Nat.le_of_ble_eq_true rfl) dL_chalks_43 ⟨rfl, rfl, ⟨Nat.le_of_ble_eq_true rfl, Nat.le_of_ble_eq_true rfl⟩, Nat.le_of_ble_eq_true rfl, Nat.le_of_ble_eq_true rfl⟩ rfl) hS hP hD hA (fun r xs H locs hpost hP hD hS => ?_)
    obtain ⟨rfl, hx⟩ := hpost
    refine lv_aload_n hX hB dL_chalks_46 rfl (lv_at hl 0 rfl) ?_
    refine lv_iconst (v := nZ 5) hX hB dL_chalks_47 rfl ?_
    refine zc1n (zRunW (As := [.ref h, .int (nZ 5)]) X mw_count (wc_count l D k h B S K T xs hG.1 hx 5 ⟨by omega, by omega⟩ (chSum (chB B) 1) (rfl)  _) zw_130 (zPre1 hP hD hK) rfl hl (Nat.le_of_ble_eq_true rfl) dL_chalks_48 ⟨rfl, rfl, ⟨Nat.le_of_ble_eq_true rfl, Nat.le_of_ble_eq_true rfl⟩, Nat.le_of_ble_eq_true rfl, Nat.le_of_ble_eq_true rfl⟩ rfl) hS hP hD hA (fun r xs H locs hpost hP hD hS => ?_)
    obtain ⟨rfl, hx⟩ := hpost
    refine zz_iadd X dL_chalks_51 (z := ((chSum (chB B) 0) + (chSum (chB B) 1))) (by first | rfl | omega) ?_
    refine lv_istore (lv' := [(4, .int (nZ ((chSum (chB B) 0) + (chSum (chB B) 1)))), (0, .ref h), (1, .long (nL (printB B))), (3, .int (nZ du))]) hX hB dL_chalks_52 hl (by decide) rfl (fun ls hl => ?_)
    refine lv_aload_n hX hB dL_chalks_54 rfl (lv_at hl 1 rfl) ?_
    refine lv_bipush (v := nZ 6) hX hB dL_chalks_55 (by decide) ?_
    refine zc1n (zRunW (As := [.ref h, .int (nZ 6)]) X mw_count (wc_count l D k h B S K T xs hG.1 hx 6 ⟨by omega, by omega⟩ (B.1 3) (rfl)  _) zw_130 (zPre1 hP hD hK) rfl hl (Nat.le_of_ble_eq_true rfl) dL_chalks_57 ⟨rfl, rfl, ⟨Nat.le_of_ble_eq_true rfl, Nat.le_of_ble_eq_true rfl⟩, Nat.le_of_ble_eq_true rfl, Nat.le_of_ble_eq_true rfl⟩ rfl) hS hP hD hA (fun r xs H locs hpost hP hD hS => ?_)
    obtain ⟨rfl, hx⟩ := hpost
    refine zz_if_le X (tgt := 67) dL_chalks_60 (by decide) ⟨by omega, by omega⟩ (fun c_60 => ?_) (fun c_60 => ?_)
    · refine lv_iconst (v := nZ 0) hX hB dL_chalks_67 rfl ?_
      refine lv_istore (lv' := [(5, .int (nZ 0)), (4, .int (nZ ((chSum (chB B) 0) + (chSum (chB B) 1)))), (0, .ref h), (1, .long (nL (printB B))), (3, .int (nZ du))]) hX hB dL_chalks_68 hl (by decide) rfl (fun ls hl => ?_)
      refine lv_aload_n hX hB dL_chalks_70 rfl (lv_at hl 2 rfl) ?_
      obtain ⟨B71, hB71⟩ : ∃ z, endF B = z := ⟨_, rfl⟩
      obtain ⟨S71, hS71⟩ : ∃ z, saveL S B = z := ⟨_, rfl⟩
      refine zc1 (zRunV (As := []) X mv_X6_endTurn (wb_endTurn l D k h B S K T xs hG.1 hx  du ((by rw [if_pos (by omega)]; exact hdu9.symm)) B71 hB71 S71 hS71 _) zw_389 (zPreV1 hP hD hK hx rfl) rfl hl (Nat.le_of_ble_eq_true rfl) dL_chalks_71 ⟨rfl, rfl, ⟨Nat.le_of_ble_eq_true rfl, Nat.le_of_ble_eq_true rfl⟩, Nat.le_of_ble_eq_true rfl, Nat.le_of_ble_eq_true rfl⟩ rfl) hS hP hD hA (fun r xs H locs hpost hP hD hS => ?_)
      obtain ⟨rfl, hx⟩ := hpost
      have hG71 : goodT (N + 1) (B71, S71, K, T) := by rw [← hB71, ← hS71]; exact hG.save (end_good hBg) (xtra_end hG.2.1 hBg.2.1)
      have hes := end_sum hBg.2.1 hB71
      rw [← hdu9] at hes
      have hsum := hes.1 (by omega)
      refine W.widen (k := 10) (n := 110) (by decide) (by decide) ?_
      refine lv_iload hX hB dL_chalks_74 (lv_at hl 0 rfl) ?_
      refine zz_if_eq X (tgt := 83) dL_chalks_76 (by decide) ⟨by omega, by omega⟩ (fun c_76 => ?_) (fun c_76 => by exfalso; omega)
      refine lv_iload_n hX hB dL_chalks_83 rfl (lv_at hl 4 rfl) ?_
      refine zs_ne X (rfl) (tgt := 138) dL_chalks_84 (by decide) ?_
      refine lv_aload_n hX hB dL_chalks_87 rfl (lv_at hl 2 rfl) ?_
      refine lv_iconst (v := nZ 4) hX hB dL_chalks_88 rfl ?_
      refine zc1n (zRunW (As := [.ref h, .int (nZ 4)]) X mw_count (wc_count l D k h B71 S71 K T xs hG71.1 hx 4 ⟨by omega, by omega⟩ (chSum (chB B71) 0) (rfl)  _) zw_130 (zPre1 hP hD hK) rfl hl (Nat.le_of_ble_eq_true rfl) dL_chalks_89 ⟨rfl, rfl, ⟨Nat.le_of_ble_eq_true rfl, Nat.le_of_ble_eq_true rfl⟩, Nat.le_of_ble_eq_true rfl, Nat.le_of_ble_eq_true rfl⟩ rfl) hS hP hD hA (fun r xs H locs hpost hP hD hS => ?_)
      obtain ⟨rfl, hx⟩ := hpost
      refine lv_aload_n hX hB dL_chalks_92 rfl (lv_at hl 2 rfl) ?_
      refine lv_iconst (v := nZ 5) hX hB dL_chalks_93 rfl ?_
      refine zc1n (zRunW (As := [.ref h, .int (nZ 5)]) X mw_count (wc_count l D k h B71 S71 K T xs hG71.1 hx 5 ⟨by omega, by omega⟩ (chSum (chB B71) 1) (rfl)  _) zw_130 (zPre1 hP hD hK) rfl hl (Nat.le_of_ble_eq_true rfl) dL_chalks_94 ⟨rfl, rfl, ⟨Nat.le_of_ble_eq_true rfl, Nat.le_of_ble_eq_true rfl⟩, Nat.le_of_ble_eq_true rfl, Nat.le_of_ble_eq_true rfl⟩ rfl) hS hP hD hA (fun r xs H locs hpost hP hD hS => ?_)
      obtain ⟨rfl, hx⟩ := hpost
      refine zz_iadd X dL_chalks_97 (z := ((chSum (chB B71) 0) + (chSum (chB B71) 1))) (by first | rfl | omega) ?_
      refine lv_iload hX hB dL_chalks_98 (lv_at hl 1 rfl) ?_
      refine lv_iload hX hB dL_chalks_100 (lv_at hl 0 rfl) ?_
      refine zz_if_eq X (tgt := 109) dL_chalks_102 (by decide) ⟨by omega, by omega⟩ (fun c_102 => ?_) (fun c_102 => by exfalso; omega)
      refine lv_iload_n hX hB dL_chalks_109 rfl (lv_at hl 4 rfl) ?_
      refine zz_iadd X dL_chalks_110 (z := (((chSum (chB B) 0) + (chSum (chB B) 1)) + du)) (by first | rfl | omega) ?_
      refine zs_ne X (by omega) (tgt := 138) dL_chalks_111 (by decide) ?_
      refine lv_iload hX hB dL_chalks_114 (lv_at hl 0 rfl) ?_
      refine zz_if_ne X (tgt := 127) dL_chalks_116 (by decide) ⟨by omega, by omega⟩ (fun c_116 => by exfalso; omega) (fun c_116 => ?_)
      refine lv_aload_n hX hB dL_chalks_119 rfl (lv_at hl 2 rfl) ?_
      refine lv_iconst (v := nZ 2) hX hB dL_chalks_120 rfl ?_
      refine zc1n (zRunW (As := [.ref h, .int (nZ 2)]) X mw_count (wc_count l D k h B71 S71 K T xs hG71.1 hx 2 ⟨by omega, by omega⟩ 0 ((hsum.2))  _) zw_130 (zPre1 hP hD hK) rfl hl (Nat.le_of_ble_eq_true rfl) dL_chalks_121 ⟨rfl, rfl, ⟨Nat.le_of_ble_eq_true rfl, Nat.le_of_ble_eq_true rfl⟩, Nat.le_of_ble_eq_true rfl, Nat.le_of_ble_eq_true rfl⟩ rfl) hS hP hD hA (fun r xs H locs hpost hP hD hS => ?_)
      obtain ⟨rfl, hx⟩ := hpost
      refine zz_if_ne X (tgt := 138) dL_chalks_124 (by decide) ⟨by omega, by omega⟩ (fun c_124 => by exfalso; omega) (fun c_124 => ?_)
      refine lv_aload_n hX hB dL_chalks_127 rfl (lv_at hl 2 rfl) ?_
      refine zc1 (zRunS (As := [.ref h]) X ms_L_hangs (c_L_hangs l D k h B71 S71 K T xs (N + 1) ⟨by omega, by omega⟩ hG71 hx  _) zw_66 (zPre1 hP hD hK) rfl hl (Nat.le_of_ble_eq_true rfl) dL_chalks_128 ⟨rfl, rfl, ⟨Nat.le_of_ble_eq_true rfl, Nat.le_of_ble_eq_true rfl⟩, Nat.le_of_ble_eq_true rfl, Nat.le_of_ble_eq_true rfl⟩ rfl) hS hP hD hA (fun r xs H locs hpost hP hD hS => ?_)
      obtain ⟨rfl, hx⟩ := hpost
      refine W.widen (k := 11) (n := 119) (by decide) (by decide) ?_
      refine zz_if_eq X (tgt := 138) dL_chalks_131 (by decide) ⟨by omega, by omega⟩ (fun c_131 => by exfalso; omega) (fun c_131 => ?_)
      refine lv_iconst (v := nZ 1) hX hB dL_chalks_134 rfl ?_
      refine lv_goto (tgt := 139) hX hB dL_chalks_135 (by decide) ?_
      refine lv_istore (lv' := [(6, .int (nZ 1)), (5, .int (nZ 0)), (4, .int (nZ ((chSum (chB B) 0) + (chSum (chB B) 1)))), (0, .ref h), (1, .long (nL (printB B))), (3, .int (nZ du))]) hX hB dL_chalks_139 hl (by decide) rfl (fun ls hl => ?_)
      refine lv_iload hX hB dL_chalks_141 (lv_at hl 0 rfl) ?_
      refine zz_if_eq X (tgt := 166) dL_chalks_143 (by decide) ⟨by omega, by omega⟩ (fun c_143 => by exfalso; omega) (fun c_143 => ?_)
      refine lv_aload_n hX hB dL_chalks_146 rfl (lv_at hl 3 rfl) ?_
      have hSl147 : 0 < S71.length := by rw [← hS71]; exact saveL_pos _ _
      have hSm147 : S71.length ≤ 6 := hG71.1.2.2.2
      obtain ⟨S147, hS147⟩ : ∃ z, S71.dropLast = z := ⟨_, rfl⟩
      refine zc1n (zRunW (As := [.ref h]) X mw_undo (wc_undo l D k h B71 S71 K T xs hG71.1 hx B (by rw [← hS71]; exact saveL_last _ _) ((S71.length : Int) - 1) (rfl) B (rfl) S147 hS147 _) zw_299 (zPre1 hP hD hK) rfl hl (Nat.le_of_ble_eq_true rfl) dL_chalks_147 ⟨rfl, rfl, ⟨Nat.le_of_ble_eq_true rfl, Nat.le_of_ble_eq_true rfl⟩, Nat.le_of_ble_eq_true rfl, Nat.le_of_ble_eq_true rfl⟩ rfl) hS hP hD hA (fun r xs H locs hpost hP hD hS => ?_)
      obtain ⟨rfl, hx⟩ := hpost
      have hG147 : goodT N (B, S147, K, T) := by rw [← hS147, ← hS71]; exact hG.back
      refine zz_if_lt X (tgt := 166) dL_chalks_150 (by decide) ⟨by omega, by omega⟩ (fun c_150 => by exfalso; omega) (fun c_150 => ?_)
      refine lv_aload_n hX hB dL_chalks_153 rfl (lv_at hl 3 rfl) ?_
      refine zcL1n (zRunS (As := [.ref h]) X ms_L_print (c_L_print l D k h B S147 K T xs N ⟨by omega, by omega⟩ hG147 hx  _) zw_161 (zPre1 hP hD hK) rfl hl (Nat.le_of_ble_eq_true rfl) dL_chalks_154 ⟨rfl, rfl, ⟨Nat.le_of_ble_eq_true rfl, Nat.le_of_ble_eq_true rfl⟩, Nat.le_of_ble_eq_true rfl, Nat.le_of_ble_eq_true rfl⟩ rfl) hS hP hD hA (fun r xs H locs hpost hP hD hS => ?_)
      obtain ⟨rfl, hx⟩ := hpost
      refine lv_lload_n hX hB dL_chalks_157 rfl (lv_at hl 4 rfl) ?_
      refine zs_lcmp X (rfl) dL_chalks_158 ?_
      refine zz_if_ne X (tgt := 166) dL_chalks_159 (by decide) ⟨by omega, by omega⟩ (fun c_159 => by exfalso; omega) (fun c_159 => ?_)
      refine lv_iconst (v := nZ 1) hX hB dL_chalks_162 rfl ?_
      refine lv_goto (tgt := 167) hX hB dL_chalks_163 (by decide) ?_
      exact zRetZ xs X hP hD hS (Or.inr rfl) rfl ⟨rfl, S147, hG147, hx⟩ dL_chalks_167
    · refine lv_iconst (v := nZ 1) hX hB dL_chalks_63 rfl ?_
      refine lv_goto (tgt := 68) hX hB dL_chalks_64 (by decide) ?_
      refine lv_istore (lv' := [(5, .int (nZ 1)), (4, .int (nZ ((chSum (chB B) 0) + (chSum (chB B) 1)))), (0, .ref h), (1, .long (nL (printB B))), (3, .int (nZ du))]) hX hB dL_chalks_68 hl (by decide) rfl (fun ls hl => ?_)
      refine lv_aload_n hX hB dL_chalks_70 rfl (lv_at hl 2 rfl) ?_
      obtain ⟨B71, hB71⟩ : ∃ z, endF B = z := ⟨_, rfl⟩
      obtain ⟨S71, hS71⟩ : ∃ z, saveL S B = z := ⟨_, rfl⟩
      refine zc1 (zRunV (As := []) X mv_X6_endTurn (wb_endTurn l D k h B S K T xs hG.1 hx  (-1) ((if_neg (by omega))) B71 hB71 S71 hS71 _) zw_389 (zPreV1 hP hD hK hx rfl) rfl hl (Nat.le_of_ble_eq_true rfl) dL_chalks_71 ⟨rfl, rfl, ⟨Nat.le_of_ble_eq_true rfl, Nat.le_of_ble_eq_true rfl⟩, Nat.le_of_ble_eq_true rfl, Nat.le_of_ble_eq_true rfl⟩ rfl) hS hP hD hA (fun r xs H locs hpost hP hD hS => ?_)
      obtain ⟨rfl, hx⟩ := hpost
      have hG71 : goodT (N + 1) (B71, S71, K, T) := by rw [← hB71, ← hS71]; exact hG.save (end_good hBg) (xtra_end hG.2.1 hBg.2.1)
      have hes := end_sum hBg.2.1 hB71
      rw [← hdu9] at hes
      have hsum := hes.2 (by omega)
      refine W.widen (k := 10) (n := 110) (by decide) (by decide) ?_
      refine lv_iload hX hB dL_chalks_74 (lv_at hl 0 rfl) ?_
      refine zz_if_eq X (tgt := 83) dL_chalks_76 (by decide) ⟨by omega, by omega⟩ (fun c_76 => by exfalso; omega) (fun c_76 => ?_)
      refine lv_iconst (v := nZ (-1)) hX hB dL_chalks_79 rfl ?_
      refine lv_goto (tgt := 84) hX hB dL_chalks_80 (by decide) ?_
      refine zz_icmp_ne X (tgt := 138) dL_chalks_84 (by decide) ⟨by omega, by omega⟩ ⟨by omega, by omega⟩ (fun c_84 => by exfalso; omega) (fun c_84 => ?_)
      refine lv_aload_n hX hB dL_chalks_87 rfl (lv_at hl 2 rfl) ?_
      refine lv_iconst (v := nZ 4) hX hB dL_chalks_88 rfl ?_
      refine zc1n (zRunW (As := [.ref h, .int (nZ 4)]) X mw_count (wc_count l D k h B71 S71 K T xs hG71.1 hx 4 ⟨by omega, by omega⟩ (chSum (chB B71) 0) (rfl)  _) zw_130 (zPre1 hP hD hK) rfl hl (Nat.le_of_ble_eq_true rfl) dL_chalks_89 ⟨rfl, rfl, ⟨Nat.le_of_ble_eq_true rfl, Nat.le_of_ble_eq_true rfl⟩, Nat.le_of_ble_eq_true rfl, Nat.le_of_ble_eq_true rfl⟩ rfl) hS hP hD hA (fun r xs H locs hpost hP hD hS => ?_)
      obtain ⟨rfl, hx⟩ := hpost
      refine lv_aload_n hX hB dL_chalks_92 rfl (lv_at hl 2 rfl) ?_
      refine lv_iconst (v := nZ 5) hX hB dL_chalks_93 rfl ?_
      refine zc1n (zRunW (As := [.ref h, .int (nZ 5)]) X mw_count (wc_count l D k h B71 S71 K T xs hG71.1 hx 5 ⟨by omega, by omega⟩ (chSum (chB B71) 1) (rfl)  _) zw_130 (zPre1 hP hD hK) rfl hl (Nat.le_of_ble_eq_true rfl) dL_chalks_94 ⟨rfl, rfl, ⟨Nat.le_of_ble_eq_true rfl, Nat.le_of_ble_eq_true rfl⟩, Nat.le_of_ble_eq_true rfl, Nat.le_of_ble_eq_true rfl⟩ rfl) hS hP hD hA (fun r xs H locs hpost hP hD hS => ?_)
      obtain ⟨rfl, hx⟩ := hpost
      refine zz_iadd X dL_chalks_97 (z := ((chSum (chB B71) 0) + (chSum (chB B71) 1))) (by first | rfl | omega) ?_
      refine lv_iload hX hB dL_chalks_98 (lv_at hl 1 rfl) ?_
      refine lv_iload hX hB dL_chalks_100 (lv_at hl 0 rfl) ?_
      refine zz_if_eq X (tgt := 109) dL_chalks_102 (by decide) ⟨by omega, by omega⟩ (fun c_102 => by exfalso; omega) (fun c_102 => ?_)
      refine lv_iconst (v := nZ 0) hX hB dL_chalks_105 rfl ?_
      refine lv_goto (tgt := 110) hX hB dL_chalks_106 (by decide) ?_
      refine zz_iadd X dL_chalks_110 (z := ((chSum (chB B) 0) + (chSum (chB B) 1))) (by first | rfl | omega) ?_
      refine zs_ne X (by omega) (tgt := 138) dL_chalks_111 (by decide) ?_
      refine lv_iload hX hB dL_chalks_114 (lv_at hl 0 rfl) ?_
      refine zz_if_ne X (tgt := 127) dL_chalks_116 (by decide) ⟨by omega, by omega⟩ (fun c_116 => ?_) (fun c_116 => by exfalso; omega)
      refine lv_aload_n hX hB dL_chalks_127 rfl (lv_at hl 2 rfl) ?_
      refine zc1 (zRunS (As := [.ref h]) X ms_L_hangs (c_L_hangs l D k h B71 S71 K T xs (N + 1) ⟨by omega, by omega⟩ hG71 hx  _) zw_66 (zPre1 hP hD hK) rfl hl (Nat.le_of_ble_eq_true rfl) dL_chalks_128 ⟨rfl, rfl, ⟨Nat.le_of_ble_eq_true rfl, Nat.le_of_ble_eq_true rfl⟩, Nat.le_of_ble_eq_true rfl, Nat.le_of_ble_eq_true rfl⟩ rfl) hS hP hD hA (fun r xs H locs hpost hP hD hS => ?_)
      obtain ⟨rfl, hx⟩ := hpost
      refine W.widen (k := 11) (n := 119) (by decide) (by decide) ?_
      refine zz_if_eq X (tgt := 138) dL_chalks_131 (by decide) ⟨by omega, by omega⟩ (fun c_131 => by exfalso; omega) (fun c_131 => ?_)
      refine lv_iconst (v := nZ 1) hX hB dL_chalks_134 rfl ?_
      refine lv_goto (tgt := 139) hX hB dL_chalks_135 (by decide) ?_
      refine lv_istore (lv' := [(6, .int (nZ 1)), (5, .int (nZ 1)), (4, .int (nZ ((chSum (chB B) 0) + (chSum (chB B) 1)))), (0, .ref h), (1, .long (nL (printB B))), (3, .int (nZ du))]) hX hB dL_chalks_139 hl (by decide) rfl (fun ls hl => ?_)
      refine lv_iload hX hB dL_chalks_141 (lv_at hl 0 rfl) ?_
      refine zz_if_eq X (tgt := 166) dL_chalks_143 (by decide) ⟨by omega, by omega⟩ (fun c_143 => by exfalso; omega) (fun c_143 => ?_)
      refine lv_aload_n hX hB dL_chalks_146 rfl (lv_at hl 3 rfl) ?_
      have hSl147 : 0 < S71.length := by rw [← hS71]; exact saveL_pos _ _
      have hSm147 : S71.length ≤ 6 := hG71.1.2.2.2
      obtain ⟨S147, hS147⟩ : ∃ z, S71.dropLast = z := ⟨_, rfl⟩
      refine zc1n (zRunW (As := [.ref h]) X mw_undo (wc_undo l D k h B71 S71 K T xs hG71.1 hx B (by rw [← hS71]; exact saveL_last _ _) ((S71.length : Int) - 1) (rfl) B (rfl) S147 hS147 _) zw_299 (zPre1 hP hD hK) rfl hl (Nat.le_of_ble_eq_true rfl) dL_chalks_147 ⟨rfl, rfl, ⟨Nat.le_of_ble_eq_true rfl, Nat.le_of_ble_eq_true rfl⟩, Nat.le_of_ble_eq_true rfl, Nat.le_of_ble_eq_true rfl⟩ rfl) hS hP hD hA (fun r xs H locs hpost hP hD hS => ?_)
      obtain ⟨rfl, hx⟩ := hpost
      have hG147 : goodT N (B, S147, K, T) := by rw [← hS147, ← hS71]; exact hG.back
      refine zz_if_lt X (tgt := 166) dL_chalks_150 (by decide) ⟨by omega, by omega⟩ (fun c_150 => by exfalso; omega) (fun c_150 => ?_)
      refine lv_aload_n hX hB dL_chalks_153 rfl (lv_at hl 3 rfl) ?_
      refine zcL1n (zRunS (As := [.ref h]) X ms_L_print (c_L_print l D k h B S147 K T xs N ⟨by omega, by omega⟩ hG147 hx  _) zw_161 (zPre1 hP hD hK) rfl hl (Nat.le_of_ble_eq_true rfl) dL_chalks_154 ⟨rfl, rfl, ⟨Nat.le_of_ble_eq_true rfl, Nat.le_of_ble_eq_true rfl⟩, Nat.le_of_ble_eq_true rfl, Nat.le_of_ble_eq_true rfl⟩ rfl) hS hP hD hA (fun r xs H locs hpost hP hD hS => ?_)
      obtain ⟨rfl, hx⟩ := hpost
      refine lv_lload_n hX hB dL_chalks_157 rfl (lv_at hl 4 rfl) ?_
      refine zs_lcmp X (rfl) dL_chalks_158 ?_
      refine zz_if_ne X (tgt := 166) dL_chalks_159 (by decide) ⟨by omega, by omega⟩ (fun c_159 => by exfalso; omega) (fun c_159 => ?_)
      refine lv_iconst (v := nZ 1) hX hB dL_chalks_162 rfl ?_
      refine lv_goto (tgt := 167) hX hB dL_chalks_163 (by decide) ?_
      exact zRetZ xs X hP hD hS (Or.inr rfl) rfl ⟨rfl, S147, hG147, hx⟩ dL_chalks_167
  · refine lv_iload_n hX hB dL_chalks_17 rfl (lv_at hl 2 rfl) ?_
    refine lv_aload_n hX hB dL_chalks_18 rfl (lv_at hl 0 rfl) ?_
    refine lv_iload hX hB dL_chalks_19 (lv_at hl 3 rfl) ?_
    refine lv_iconst (v := nZ 3) hX hB dL_chalks_21 rfl ?_
    refine zc1n (zRunW (As := [.ref h, .int (nZ (↑bd : Int)), .int (nZ 3)]) X mw_bedOf (wc_bedOf l D k h B S K T xs hG.1 hx (↑bd : Int) 3 ⟨by omega, by omega⟩ ⟨by omega, by omega⟩ (ownR (chB B) (B.1 1) (↑bd : Int) (cleanB B (↑bd : Int))) (rfl)  _) zw_96 (zPre1 hP hD hK) rfl hl (Nat.le_of_ble_eq_true rfl) dL_chalks_22 ⟨rfl, rfl, ⟨Nat.le_of_ble_eq_true rfl, Nat.le_of_ble_eq_true rfl⟩, Nat.le_of_ble_eq_true rfl, Nat.le_of_ble_eq_true rfl⟩ rfl) hS hP hD hA (fun r xs H locs hpost hP hD hS => ?_)
    obtain ⟨rfl, hx⟩ := hpost
    refine lv_aload_n hX hB dL_chalks_25 rfl (lv_at hl 0 rfl) ?_
    refine lv_iload hX hB dL_chalks_26 (lv_at hl 3 rfl) ?_
    refine lv_iconst (v := nZ 4) hX hB dL_chalks_28 rfl ?_
    refine zc1n (zRunW (As := [.ref h, .int (nZ (↑bd : Int)), .int (nZ 4)]) X mw_bedOf (wc_bedOf l D k h B S K T xs hG.1 hx (↑bd : Int) 4 ⟨by omega, by omega⟩ ⟨by omega, by omega⟩ (othR (chB B) (B.1 1) (↑bd : Int) (cleanB B (↑bd : Int))) (rfl)  _) zw_96 (zPre1 hP hD hK) rfl hl (Nat.le_of_ble_eq_true rfl) dL_chalks_29 ⟨rfl, rfl, ⟨Nat.le_of_ble_eq_true rfl, Nat.le_of_ble_eq_true rfl⟩, Nat.le_of_ble_eq_true rfl, Nat.le_of_ble_eq_true rfl⟩ rfl) hS hP hD hA (fun r xs H locs hpost hP hD hS => ?_)
    obtain ⟨rfl, hx⟩ := hpost
    refine zz_iadd X dL_chalks_32 (z := ((ownR (chB B) (B.1 1) (↑bd : Int) (cleanB B (↑bd : Int))) + (othR (chB B) (B.1 1) (↑bd : Int) (cleanB B (↑bd : Int))))) (by first | rfl | omega) ?_
    refine zz_iadd X dL_chalks_33 (z := (du + ((ownR (chB B) (B.1 1) (↑bd : Int) (cleanB B (↑bd : Int))) + (othR (chB B) (B.1 1) (↑bd : Int) (cleanB B (↑bd : Int)))))) (by first | rfl | omega) ?_
    refine lv_istore_n (lv' := [(3, .int (nZ (du + ((ownR (chB B) (B.1 1) (↑bd : Int) (cleanB B (↑bd : Int))) + (othR (chB B) (B.1 1) (↑bd : Int) (cleanB B (↑bd : Int))))))), (0, .ref h), (1, .long (nL (printB B))), (4, .int (nZ (↑bd : Int)))]) hX hB dL_chalks_34 rfl hl (by decide) rfl (fun ls hl => ?_)
    refine lv_iinc (v := nZ (↑(bd + 1) : Int)) (lv' := [(4, .int (nZ (↑(bd + 1) : Int))), (3, .int (nZ (du + ((ownR (chB B) (B.1 1) (↑bd : Int) (cleanB B (↑bd : Int))) + (othR (chB B) (B.1 1) (↑bd : Int) (cleanB B (↑bd : Int))))))), (0, .ref h), (1, .long (nL (printB B)))]) hX hB dL_chalks_35 hl (k := 3) rfl (zinc (by omega)) (by decide) rfl (fun ls hl => ?_)
    refine lv_goto (tgt := 10) hX hB dL_chalks_38 (by decide) ?_
    exact ih_10 ((bd + 1), (du + ((ownR (chB B) (B.1 1) (↑bd : Int) (cleanB B (↑bd : Int))) + (othR (chB B) (B.1 1) (↑bd : Int) (cleanB B (↑bd : Int))))), xs) _ _ _ ⟨(by omega), (by rw [hdu]; rfl), (by exact hx), hP, hD, hS, (lv_sub hl [2, 3, 1, 0] rfl)⟩ (by dsimp only; omega)
