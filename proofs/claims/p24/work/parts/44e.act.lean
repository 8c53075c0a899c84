theorem ms_L_act : zMS yL_act cL_act 6 (some .int) 3 := ⟨zw_319, zw_68, ⟨by decide +kernel, by decide +kernel, by decide +kernel⟩, zw_318⟩
set_option maxHeartbeats 2000000 in
set_option maxRecDepth 100000 in
theorem c_L_act (l : Launch) (D : va_G) (k : Nat → ClassId) (h : Nat) (B : Bd) (S : List Bd) (K : Nat → Option Bd) (T : List Int) (xs : va_W) (N : Int) (hN : 0 ≤ N ∧ N < 900000) (hG : goodT N (B, S, K, T)) (hx : isX k h (B, S, K, T) xs) (x1 x2 : Int)  : ∀ sz, Met l yL_act (zW yL_act cL_act 6 (some .int)) ({ frames := 11, cells := 10, slots := 110, locals := 360 } : Room) (va_Pc [.ref h, .int (nZ x1), .int (nZ x2)] (zIn D k sz xs)) (va_Qi (fun (r : Int32) (u : va_W) => r = nZ (actR x1 x2 B) ∧ ∃ T2, isX k h (actF x1 x2 B, saveL S B, K, T2) u) (fun u => zOut D (va_A xs sz) u) (va_A xs sz)) 10 110 (va_A xs sz) := by
  intro sz
  refine zEnter (Qf := fun A => va_Qi (fun (r : Int32) (u : va_W) => r = nZ (actR x1 x2 B) ∧ ∃ T2, isX k h (actF x1 x2 B, saveL S B, K, T2) u) (fun u => zOut D A u) A) RL (by decide) rfl (Nat.le_of_ble_eq_true rfl) ?_
  intro p9 e9 s9 m9 be9 me9 c9 ls A X hin hP hD hS hA hAe hl
  have hX := X.1; have hB := X.2.1; have hz := X.2.2.2.2.1; have hW := X.2.2.2.2.2.1; have hK := X.2.2.2.2.2.2.2; clear hAe; clear hin
  have hl : lv_has ls 6 [(0, .ref h), (1, .int (nZ x1)), (2, .int (nZ x2))] := hl
  have hBg : bdGood B := hG.1.1
  obtain ⟨w0, w1, w2, w3, w4, hC0, hC1, hC2⟩ := id hBg
  refine lv_iconst (v := nZ 0) hX hB dL_act_0 rfl ?_
  refine lv_istore_n (lv' := [(3, .int (nZ 0)), (0, .ref h), (1, .int (nZ x1)), (2, .int (nZ x2))]) hX hB dL_act_1 rfl hl (by decide) rfl (fun ls hl => ?_)
  refine lv_iload_n hX hB dL_act_2 rfl (lv_at hl 2 rfl) ?_
  refine lv_bipush (v := nZ 16) hX hB dL_act_3 (by decide) ?_
  have hlo_5 := lowS_rng x1 (n := 16) (by first | decide | omega)
  refine zc0n (zRunS X ms_L_low (c_L_low l D k x1 16 (by first | decide | omega) _) zw_320 (zPre0 hP hD hK) rfl hl (Nat.le_of_ble_eq_true rfl) dL_act_5 ⟨rfl, rfl, ⟨Nat.le_of_ble_eq_true rfl, Nat.le_of_ble_eq_true rfl⟩, Nat.le_of_ble_eq_true rfl, Nat.le_of_ble_eq_true rfl⟩ rfl) hS hP hD hA (fun r H locs hpost hP hD hS => ?_)
  obtain rfl := hpost
  have hsw : (nZ (lowS x1 16)).toInt = (lowS x1 16) := nZ_toInt ⟨by omega, by omega⟩
  by_cases s_8_0 : (lowS x1 16) = 0
  · refine lv_tableIn (tgt := 40) hX hB dL_act_8 (by rw [hsw]; omega) (by rw [hsw]; omega) (by rw [hsw, s_8_0]; rfl) (by decide) ?_
    refine lv_aload_n hX hB dL_act_40 rfl (lv_at hl 1 rfl) ?_
    refine zc1n (zRunV (As := []) X mv_X6_clearBuffer (wb_clearBuffer l D k h B S K T xs hG.1 hx  (T.length : Int) (rfl)  _) zw_324 (zPreV1 hP hD hK hx rfl) rfl hl (Nat.le_of_ble_eq_true rfl) dL_act_41 ⟨rfl, rfl, ⟨Nat.le_of_ble_eq_true rfl, Nat.le_of_ble_eq_true rfl⟩, Nat.le_of_ble_eq_true rfl, Nat.le_of_ble_eq_true rfl⟩ rfl) hS hP hD hA (fun r xs H locs hpost hP hD hS => ?_)
    obtain ⟨rfl, hx⟩ := hpost
    refine lv_istore_n (lv' := [(3, .int (nZ (T.length : Int))), (0, .ref h), (1, .int (nZ x1)), (2, .int (nZ x2))]) hX hB dL_act_44 rfl hl (by decide) rfl (fun ls hl => ?_)
    refine lv_iconst (v := nZ 0) hX hB dL_act_45 rfl ?_
    refine lv_istore (lv' := [(4, .int (nZ 0)), (3, .int (nZ (T.length : Int))), (0, .ref h), (1, .int (nZ x1)), (2, .int (nZ x2))]) hX hB dL_act_46 hl (by decide) rfl (fun ls hl => ?_)
    refine zLoop (σ := Nat × (List Int) × Int × va_W) (fun (x : Nat × (List Int) × Int × va_W) (H : Heap) (locs : List Loc) (ls : Array Slot) => match x with | (n, tx, lg, xs) => (n ≤ 6) ∧ (tx = textK x1 x2 n) ∧ (isX k h (B, S, K, tx) xs) ∧ va_P D vwCl xs H ∧ va_D A xs ∧ va_S A s9.heap H locs ∧ lv_has ls 6 [(0, .ref h), (1, .int (nZ x1)), (2, .int (nZ x2)), (3, .int (nZ lg)), (4, .int (nZ (↑n : Int)))]) (fun (x : Nat × (List Int) × Int × va_W) => match x with | (n, tx, lg, xs) => 6 - n) ?_ (0, [], (T.length : Int), xs) ⟨(by omega), (by rfl), (by exact hx), hP, hD, hS, (lv_sub hl [2, 3, 4, 1, 0] rfl)⟩
    rintro ⟨n, tx, lg, xs⟩ H locs ls ⟨hn, htx, hx, hP, hD, hS, hl⟩ ih_48
    refine lv_iload hX hB dL_act_48 (lv_at hl 4 rfl) ?_
    refine lv_bipush (v := nZ 6) hX hB dL_act_50 (by decide) ?_
    refine zz_icmp_ge X (tgt := 158) dL_act_52 (by decide) ⟨by omega, by omega⟩ ⟨by omega, by omega⟩ (fun c_52 => ?_) (fun c_52 => ?_)
    · have hn6 : n = 6 := by omega
      rw [hn6] at htx
      have hwt : wholeS tx := by rw [htx]; exact textK_whole x1 x2
      refine lv_aload_n hX hB dL_act_158 rfl (lv_at hl 0 rfl) ?_
      refine zc1 (zRunW (As := [.ref h]) X mw_lay (wc_lay l D k h B S K tx xs hG.1 hx hwt (actR x1 x2 B) ((by rw [htx]; unfold actR; rw [if_pos (show lowS x1 16 ≤ 1 by omega)])) (actF x1 x2 B) (by rw [htx]; unfold actF; rw [if_pos (show lowS x1 16 ≤ 1 by omega)]) (saveL S B) (rfl) _) zw_345 (zPre1 hP hD hK) rfl hl (Nat.le_of_ble_eq_true rfl) dL_act_159 ⟨rfl, rfl, ⟨Nat.le_of_ble_eq_true rfl, Nat.le_of_ble_eq_true rfl⟩, Nat.le_of_ble_eq_true rfl, Nat.le_of_ble_eq_true rfl⟩ rfl) hS hP hD hA (fun r xs H locs hpost hP hD hS => ?_)
      obtain ⟨rfl, hx⟩ := hpost
      refine W.widen (k := 10) (n := 110) (by decide) (by decide) ?_
      exact zRetI xs X hP hD hS rfl ⟨rfl, _, hx⟩ dL_act_162
    · have hlr := lnK_rng x1 n
      have har := atK_rng x2 (k := n) (by omega)
      have htl := textK_len x1 x2 n
      rw [← htx] at htl
      refine lv_iload_n hX hB dL_act_55 rfl (lv_at hl 2 rfl) ?_
      refine lv_iconst (v := nZ 3) hX hB dL_act_56 rfl ?_
      refine lv_iload hX hB dL_act_57 (lv_at hl 4 rfl) ?_
      refine zz_imul X dL_act_59 (z := (3 * (↑n : Int))) (by first | rfl | omega) ?_
      refine zz_ishr X dL_act_60 ?_
      refine lv_bipush (v := nZ 7) hX hB dL_act_61 (by decide) ?_
      have hlo_63 := lowS_rng (zshr x2 (3 * (↑n : Int))) (n := 7) (by first | decide | omega)
      refine zc0n (zRunS X ms_L_low (c_L_low l D k (zshr x2 (3 * (↑n : Int))) 7 (by first | decide | omega) _) zw_320 (zPre0 hP hD hK) rfl hl (Nat.le_of_ble_eq_true rfl) dL_act_63 ⟨rfl, rfl, ⟨Nat.le_of_ble_eq_true rfl, Nat.le_of_ble_eq_true rfl⟩, Nat.le_of_ble_eq_true rfl, Nat.le_of_ble_eq_true rfl⟩ rfl) hS hP hD hA (fun r H locs hpost hP hD hS => ?_)
      obtain rfl := hpost
      refine lv_bipush (v := nZ 8) hX hB dL_act_66 (by decide) ?_
      refine lv_iload hX hB dL_act_68 (lv_at hl 4 rfl) ?_
      refine zz_imul X dL_act_70 (z := (8 * (↑n : Int))) (by first | rfl | omega) ?_
      refine zz_iadd X dL_act_71 (z := (atK x2 n)) (by first | rfl | omega) ?_
      refine lv_istore (lv' := [(5, .int (nZ (atK x2 n))), (0, .ref h), (1, .int (nZ x1)), (2, .int (nZ x2)), (3, .int (nZ lg)), (4, .int (nZ (↑n : Int)))]) hX hB dL_act_72 hl (by decide) rfl (fun ls hl => ?_)
      refine lv_iload hX hB dL_act_74 (lv_at hl 5 rfl) ?_
      refine zz_if_le X (tgt := 88) dL_act_76 (by decide) ⟨by omega, by omega⟩ (fun c_76 => ?_) (fun c_76 => ?_)
      · refine lv_iconst (v := nZ 0) hX hB dL_act_88 rfl ?_
        refine lv_istore_n (lv' := [(3, .int (nZ 0)), (5, .int (nZ (atK x2 n))), (0, .ref h), (1, .int (nZ x1)), (2, .int (nZ x2)), (4, .int (nZ (↑n : Int)))]) hX hB dL_act_89 rfl hl (by decide) rfl (fun ls hl => ?_)
        refine lv_aload_n hX hB dL_act_90 rfl (lv_at hl 2 rfl) ?_
        refine lv_bipush (v := nZ 48) hX hB dL_act_91 (by decide) ?_
        refine lv_iload_n hX hB dL_act_93 rfl (lv_at hl 3 rfl) ?_
        refine lv_iconst (v := nZ 4) hX hB dL_act_94 rfl ?_
        refine lv_iload hX hB dL_act_95 (lv_at hl 5 rfl) ?_
        refine zz_iadd X dL_act_97 (z := (4 + (↑n : Int))) (by first | rfl | omega) ?_
        refine zz_ishr X dL_act_98 ?_
        refine lv_iconst (v := nZ 3) hX hB dL_act_99 rfl ?_
        have hlo_100 := lowS_rng (zshr x1 (4 + (↑n : Int))) (n := 3) (by first | decide | omega)
        refine zc0n (zRunS X ms_L_low (c_L_low l D k (zshr x1 (4 + (↑n : Int))) 3 (by first | decide | omega) _) zw_320 (zPre0 hP hD hK) rfl hl (Nat.le_of_ble_eq_true rfl) dL_act_100 ⟨rfl, rfl, ⟨Nat.le_of_ble_eq_true rfl, Nat.le_of_ble_eq_true rfl⟩, Nat.le_of_ble_eq_true rfl, Nat.le_of_ble_eq_true rfl⟩ rfl) hS hP hD hA (fun r H locs hpost hP hD hS => ?_)
        obtain rfl := hpost
        refine zz_iadd X dL_act_103 (z := (48 + lnK x1 n)) (by first | rfl | omega) ?_
        refine zc1n (zRunW (As := [.ref h, .int (nZ (48 + lnK x1 n))]) X mw_append (wc_append l D k h B S K tx xs hG.1 hx (48 + lnK x1 n) ⟨by omega, by omega⟩ (by first | omega | (simp only [List.length_append, List.length_cons, List.length_nil]; omega)) ((tx.length : Int) + 1) (rfl)  _) zw_332 (zPre1 hP hD hK) rfl hl (Nat.le_of_ble_eq_true rfl) dL_act_104 ⟨rfl, rfl, ⟨Nat.le_of_ble_eq_true rfl, Nat.le_of_ble_eq_true rfl⟩, Nat.le_of_ble_eq_true rfl, Nat.le_of_ble_eq_true rfl⟩ rfl) hS hP hD hA (fun r xs H locs hpost hP hD hS => ?_)
        obtain ⟨rfl, hx⟩ := hpost
        refine lv_istore_n (lv' := [(3, .int (nZ ((tx.length : Int) + 1))), (5, .int (nZ (atK x2 n))), (0, .ref h), (1, .int (nZ x1)), (2, .int (nZ x2)), (4, .int (nZ (↑n : Int)))]) hX hB dL_act_107 rfl hl (by decide) rfl (fun ls hl => ?_)
        refine lv_aload_n hX hB dL_act_108 rfl (lv_at hl 2 rfl) ?_
        refine lv_bipush (v := nZ 58) hX hB dL_act_109 (by decide) ?_
        refine zc1n (zRunW (As := [.ref h, .int (nZ 58)]) X mw_append (wc_append l D k h B S K (tx ++ [(48 + lnK x1 n)]) xs hG.1 hx 58 ⟨by omega, by omega⟩ (by first | omega | (simp only [List.length_append, List.length_cons, List.length_nil]; omega)) (((tx ++ [(48 + lnK x1 n)]).length : Int) + 1) (rfl)  _) zw_332 (zPre1 hP hD hK) rfl hl (Nat.le_of_ble_eq_true rfl) dL_act_111 ⟨rfl, rfl, ⟨Nat.le_of_ble_eq_true rfl, Nat.le_of_ble_eq_true rfl⟩, Nat.le_of_ble_eq_true rfl, Nat.le_of_ble_eq_true rfl⟩ rfl) hS hP hD hA (fun r xs H locs hpost hP hD hS => ?_)
        obtain ⟨rfl, hx⟩ := hpost
        refine lv_istore_n (lv' := [(3, .int (nZ (((tx ++ [(48 + lnK x1 n)]).length : Int) + 1))), (5, .int (nZ (atK x2 n))), (0, .ref h), (1, .int (nZ x1)), (2, .int (nZ x2)), (4, .int (nZ (↑n : Int)))]) hX hB dL_act_114 rfl hl (by decide) rfl (fun ls hl => ?_)
        refine lv_iload hX hB dL_act_115 (lv_at hl 1 rfl) ?_
        refine lv_bipush (v := nZ 9) hX hB dL_act_117 (by decide) ?_
        refine zz_icmp_le X (tgt := 137) dL_act_119 (by decide) ⟨by omega, by omega⟩ ⟨by omega, by omega⟩ (fun c_119 => ?_) (fun c_119 => ?_)
        · refine lv_iload_n hX hB dL_act_137 rfl (lv_at hl 0 rfl) ?_
          refine lv_istore_n (lv' := [(3, .int (nZ (((tx ++ [(48 + lnK x1 n)]).length : Int) + 1))), (5, .int (nZ (atK x2 n))), (0, .ref h), (1, .int (nZ x1)), (2, .int (nZ x2)), (4, .int (nZ (↑n : Int)))]) hX hB dL_act_138 rfl hl (by decide) rfl (fun ls hl => ?_)
          refine lv_aload_n hX hB dL_act_139 rfl (lv_at hl 2 rfl) ?_
          refine lv_bipush (v := nZ 48) hX hB dL_act_140 (by decide) ?_
          refine lv_iload hX hB dL_act_142 (lv_at hl 1 rfl) ?_
          refine lv_bipush (v := nZ 10) hX hB dL_act_144 (by decide) ?_
          refine zz_irem X dL_act_146 (z := ((atK x2 n) % 10)) (by first | rfl | omega) ⟨by omega, by omega, by omega, by omega⟩ ?_
          refine zz_iadd X dL_act_147 (z := (48 + ((atK x2 n) % 10))) (by first | rfl | omega) ?_
          refine zc1n (zRunW (As := [.ref h, .int (nZ (48 + ((atK x2 n) % 10)))]) X mw_append (wc_append l D k h B S K ((tx ++ [(48 + lnK x1 n)]) ++ [58]) xs hG.1 hx (48 + ((atK x2 n) % 10)) ⟨by omega, by omega⟩ (by first | omega | (simp only [List.length_append, List.length_cons, List.length_nil]; omega)) ((((tx ++ [(48 + lnK x1 n)]) ++ [58]).length : Int) + 1) (rfl)  _) zw_332 (zPre1 hP hD hK) rfl hl (Nat.le_of_ble_eq_true rfl) dL_act_148 ⟨rfl, rfl, ⟨Nat.le_of_ble_eq_true rfl, Nat.le_of_ble_eq_true rfl⟩, Nat.le_of_ble_eq_true rfl, Nat.le_of_ble_eq_true rfl⟩ rfl) hS hP hD hA (fun r xs H locs hpost hP hD hS => ?_)
          obtain ⟨rfl, hx⟩ := hpost
          refine lv_istore_n (lv' := [(3, .int (nZ ((((tx ++ [(48 + lnK x1 n)]) ++ [58]).length : Int) + 1))), (5, .int (nZ (atK x2 n))), (0, .ref h), (1, .int (nZ x1)), (2, .int (nZ x2)), (4, .int (nZ (↑n : Int)))]) hX hB dL_act_151 rfl hl (by decide) rfl (fun ls hl => ?_)
          refine lv_iinc (v := nZ (↑(n + 1) : Int)) (lv' := [(4, .int (nZ (↑(n + 1) : Int))), (3, .int (nZ ((((tx ++ [(48 + lnK x1 n)]) ++ [58]).length : Int) + 1))), (5, .int (nZ (atK x2 n))), (0, .ref h), (1, .int (nZ x1)), (2, .int (nZ x2))]) hX hB dL_act_152 hl (k := 5) rfl (zinc (by omega)) (by decide) rfl (fun ls hl => ?_)
          refine lv_goto (tgt := 48) hX hB dL_act_155 (by decide) ?_
          exact ih_48 ((n + 1), ((tx ++ [(48 + lnK x1 n)]) ++ [58]) ++ [(48 + ((atK x2 n) % 10))], (((tx ++ [(48 + lnK x1 n)]) ++ [58]).length : Int) + 1, xs) _ _ _ ⟨(by omega), (by show _ = txB x1 x2 n (textK x1 x2 n); rw [← htx]; unfold txB txA; first | rw [if_pos (show n = 0 by omega), if_pos (show 9 < atK x2 n by omega)] | rw [if_pos (show n = 0 by omega), if_neg (show ¬ 9 < atK x2 n by omega)] | rw [if_neg (show ¬ n = 0 by omega), if_pos (show 9 < atK x2 n by omega)] | rw [if_neg (show ¬ n = 0 by omega), if_neg (show ¬ 9 < atK x2 n by omega)]), (by exact hx), hP, hD, hS, (lv_sub hl [3, 4, 5, 1, 0] rfl)⟩ (by dsimp only; omega)
        · refine lv_aload_n hX hB dL_act_122 rfl (lv_at hl 2 rfl) ?_
          refine lv_bipush (v := nZ 48) hX hB dL_act_123 (by decide) ?_
          refine lv_iload hX hB dL_act_125 (lv_at hl 1 rfl) ?_
          refine lv_bipush (v := nZ 10) hX hB dL_act_127 (by decide) ?_
          refine zz_idiv X dL_act_129 (z := ((atK x2 n) / 10)) (by first | rfl | omega) ⟨by omega, by omega, by omega, by omega⟩ ?_
          refine zz_iadd X dL_act_130 (z := (48 + ((atK x2 n) / 10))) (by first | rfl | omega) ?_
          refine zc1n (zRunW (As := [.ref h, .int (nZ (48 + ((atK x2 n) / 10)))]) X mw_append (wc_append l D k h B S K ((tx ++ [(48 + lnK x1 n)]) ++ [58]) xs hG.1 hx (48 + ((atK x2 n) / 10)) ⟨by omega, by omega⟩ (by first | omega | (simp only [List.length_append, List.length_cons, List.length_nil]; omega)) ((((tx ++ [(48 + lnK x1 n)]) ++ [58]).length : Int) + 1) (rfl)  _) zw_332 (zPre1 hP hD hK) rfl hl (Nat.le_of_ble_eq_true rfl) dL_act_131 ⟨rfl, rfl, ⟨Nat.le_of_ble_eq_true rfl, Nat.le_of_ble_eq_true rfl⟩, Nat.le_of_ble_eq_true rfl, Nat.le_of_ble_eq_true rfl⟩ rfl) hS hP hD hA (fun r xs H locs hpost hP hD hS => ?_)
          obtain ⟨rfl, hx⟩ := hpost
          refine lv_goto (tgt := 138) hX hB dL_act_134 (by decide) ?_
          refine lv_istore_n (lv' := [(3, .int (nZ ((((tx ++ [(48 + lnK x1 n)]) ++ [58]).length : Int) + 1))), (5, .int (nZ (atK x2 n))), (0, .ref h), (1, .int (nZ x1)), (2, .int (nZ x2)), (4, .int (nZ (↑n : Int)))]) hX hB dL_act_138 rfl hl (by decide) rfl (fun ls hl => ?_)
          refine lv_aload_n hX hB dL_act_139 rfl (lv_at hl 2 rfl) ?_
          refine lv_bipush (v := nZ 48) hX hB dL_act_140 (by decide) ?_
          refine lv_iload hX hB dL_act_142 (lv_at hl 1 rfl) ?_
          refine lv_bipush (v := nZ 10) hX hB dL_act_144 (by decide) ?_
          refine zz_irem X dL_act_146 (z := ((atK x2 n) % 10)) (by first | rfl | omega) ⟨by omega, by omega, by omega, by omega⟩ ?_
          refine zz_iadd X dL_act_147 (z := (48 + ((atK x2 n) % 10))) (by first | rfl | omega) ?_
          refine zc1n (zRunW (As := [.ref h, .int (nZ (48 + ((atK x2 n) % 10)))]) X mw_append (wc_append l D k h B S K (((tx ++ [(48 + lnK x1 n)]) ++ [58]) ++ [(48 + ((atK x2 n) / 10))]) xs hG.1 hx (48 + ((atK x2 n) % 10)) ⟨by omega, by omega⟩ (by first | omega | (simp only [List.length_append, List.length_cons, List.length_nil]; omega)) (((((tx ++ [(48 + lnK x1 n)]) ++ [58]) ++ [(48 + ((atK x2 n) / 10))]).length : Int) + 1) (rfl)  _) zw_332 (zPre1 hP hD hK) rfl hl (Nat.le_of_ble_eq_true rfl) dL_act_148 ⟨rfl, rfl, ⟨Nat.le_of_ble_eq_true rfl, Nat.le_of_ble_eq_true rfl⟩, Nat.le_of_ble_eq_true rfl, Nat.le_of_ble_eq_true rfl⟩ rfl) hS hP hD hA (fun r xs H locs hpost hP hD hS => ?_)
          obtain ⟨rfl, hx⟩ := hpost
          refine lv_istore_n (lv' := [(3, .int (nZ (((((tx ++ [(48 + lnK x1 n)]) ++ [58]) ++ [(48 + ((atK x2 n) / 10))]).length : Int) + 1))), (5, .int (nZ (atK x2 n))), (0, .ref h), (1, .int (nZ x1)), (2, .int (nZ x2)), (4, .int (nZ (↑n : Int)))]) hX hB dL_act_151 rfl hl (by decide) rfl (fun ls hl => ?_)
          refine lv_iinc (v := nZ (↑(n + 1) : Int)) (lv' := [(4, .int (nZ (↑(n + 1) : Int))), (3, .int (nZ (((((tx ++ [(48 + lnK x1 n)]) ++ [58]) ++ [(48 + ((atK x2 n) / 10))]).length : Int) + 1))), (5, .int (nZ (atK x2 n))), (0, .ref h), (1, .int (nZ x1)), (2, .int (nZ x2))]) hX hB dL_act_152 hl (k := 5) rfl (zinc (by omega)) (by decide) rfl (fun ls hl => ?_)
          refine lv_goto (tgt := 48) hX hB dL_act_155 (by decide) ?_
          exact ih_48 ((n + 1), (((tx ++ [(48 + lnK x1 n)]) ++ [58]) ++ [(48 + ((atK x2 n) / 10))]) ++ [(48 + ((atK x2 n) % 10))], ((((tx ++ [(48 + lnK x1 n)]) ++ [58]) ++ [(48 + ((atK x2 n) / 10))]).length : Int) + 1, xs) _ _ _ ⟨(by omega), (by show _ = txB x1 x2 n (textK x1 x2 n); rw [← htx]; unfold txB txA; first | rw [if_pos (show n = 0 by omega), if_pos (show 9 < atK x2 n by omega)] | rw [if_pos (show n = 0 by omega), if_neg (show ¬ 9 < atK x2 n by omega)] | rw [if_neg (show ¬ n = 0 by omega), if_pos (show 9 < atK x2 n by omega)] | rw [if_neg (show ¬ n = 0 by omega), if_neg (show ¬ 9 < atK x2 n by omega)]), (by exact hx), hP, hD, hS, (lv_sub hl [3, 4, 5, 1, 0] rfl)⟩ (by dsimp only; omega)
      · refine lv_aload_n hX hB dL_act_79 rfl (lv_at hl 1 rfl) ?_
        refine lv_bipush (v := nZ 59) hX hB dL_act_80 (by decide) ?_
        refine zc1n (zRunW (As := [.ref h, .int (nZ 59)]) X mw_append (wc_append l D k h B S K tx xs hG.1 hx 59 ⟨by omega, by omega⟩ (by first | omega | (simp only [List.length_append, List.length_cons, List.length_nil]; omega)) ((tx.length : Int) + 1) (rfl)  _) zw_332 (zPre1 hP hD hK) rfl hl (Nat.le_of_ble_eq_true rfl) dL_act_82 ⟨rfl, rfl, ⟨Nat.le_of_ble_eq_true rfl, Nat.le_of_ble_eq_true rfl⟩, Nat.le_of_ble_eq_true rfl, Nat.le_of_ble_eq_true rfl⟩ rfl) hS hP hD hA (fun r xs H locs hpost hP hD hS => ?_)
        obtain ⟨rfl, hx⟩ := hpost
        refine lv_goto (tgt := 89) hX hB dL_act_85 (by decide) ?_
        refine lv_istore_n (lv' := [(3, .int (nZ ((tx.length : Int) + 1))), (5, .int (nZ (atK x2 n))), (0, .ref h), (1, .int (nZ x1)), (2, .int (nZ x2)), (4, .int (nZ (↑n : Int)))]) hX hB dL_act_89 rfl hl (by decide) rfl (fun ls hl => ?_)
        refine lv_aload_n hX hB dL_act_90 rfl (lv_at hl 2 rfl) ?_
        refine lv_bipush (v := nZ 48) hX hB dL_act_91 (by decide) ?_
        refine lv_iload_n hX hB dL_act_93 rfl (lv_at hl 3 rfl) ?_
        refine lv_iconst (v := nZ 4) hX hB dL_act_94 rfl ?_
        refine lv_iload hX hB dL_act_95 (lv_at hl 5 rfl) ?_
        refine zz_iadd X dL_act_97 (z := (4 + (↑n : Int))) (by first | rfl | omega) ?_
        refine zz_ishr X dL_act_98 ?_
        refine lv_iconst (v := nZ 3) hX hB dL_act_99 rfl ?_
        have hlo_100 := lowS_rng (zshr x1 (4 + (↑n : Int))) (n := 3) (by first | decide | omega)
        refine zc0n (zRunS X ms_L_low (c_L_low l D k (zshr x1 (4 + (↑n : Int))) 3 (by first | decide | omega) _) zw_320 (zPre0 hP hD hK) rfl hl (Nat.le_of_ble_eq_true rfl) dL_act_100 ⟨rfl, rfl, ⟨Nat.le_of_ble_eq_true rfl, Nat.le_of_ble_eq_true rfl⟩, Nat.le_of_ble_eq_true rfl, Nat.le_of_ble_eq_true rfl⟩ rfl) hS hP hD hA (fun r H locs hpost hP hD hS => ?_)
        obtain rfl := hpost
        refine zz_iadd X dL_act_103 (z := (48 + lnK x1 n)) (by first | rfl | omega) ?_
        refine zc1n (zRunW (As := [.ref h, .int (nZ (48 + lnK x1 n))]) X mw_append (wc_append l D k h B S K (tx ++ [59]) xs hG.1 hx (48 + lnK x1 n) ⟨by omega, by omega⟩ (by first | omega | (simp only [List.length_append, List.length_cons, List.length_nil]; omega)) (((tx ++ [59]).length : Int) + 1) (rfl)  _) zw_332 (zPre1 hP hD hK) rfl hl (Nat.le_of_ble_eq_true rfl) dL_act_104 ⟨rfl, rfl, ⟨Nat.le_of_ble_eq_true rfl, Nat.le_of_ble_eq_true rfl⟩, Nat.le_of_ble_eq_true rfl, Nat.le_of_ble_eq_true rfl⟩ rfl) hS hP hD hA (fun r xs H locs hpost hP hD hS => ?_)
        obtain ⟨rfl, hx⟩ := hpost
        refine lv_istore_n (lv' := [(3, .int (nZ (((tx ++ [59]).length : Int) + 1))), (5, .int (nZ (atK x2 n))), (0, .ref h), (1, .int (nZ x1)), (2, .int (nZ x2)), (4, .int (nZ (↑n : Int)))]) hX hB dL_act_107 rfl hl (by decide) rfl (fun ls hl => ?_)
        refine lv_aload_n hX hB dL_act_108 rfl (lv_at hl 2 rfl) ?_
        refine lv_bipush (v := nZ 58) hX hB dL_act_109 (by decide) ?_
        refine zc1n (zRunW (As := [.ref h, .int (nZ 58)]) X mw_append (wc_append l D k h B S K ((tx ++ [59]) ++ [(48 + lnK x1 n)]) xs hG.1 hx 58 ⟨by omega, by omega⟩ (by first | omega | (simp only [List.length_append, List.length_cons, List.length_nil]; omega)) ((((tx ++ [59]) ++ [(48 + lnK x1 n)]).length : Int) + 1) (rfl)  _) zw_332 (zPre1 hP hD hK) rfl hl (Nat.le_of_ble_eq_true rfl) dL_act_111 ⟨rfl, rfl, ⟨Nat.le_of_ble_eq_true rfl, Nat.le_of_ble_eq_true rfl⟩, Nat.le_of_ble_eq_true rfl, Nat.le_of_ble_eq_true rfl⟩ rfl) hS hP hD hA (fun r xs H locs hpost hP hD hS => ?_)
        obtain ⟨rfl, hx⟩ := hpost
        refine lv_istore_n (lv' := [(3, .int (nZ ((((tx ++ [59]) ++ [(48 + lnK x1 n)]).length : Int) + 1))), (5, .int (nZ (atK x2 n))), (0, .ref h), (1, .int (nZ x1)), (2, .int (nZ x2)), (4, .int (nZ (↑n : Int)))]) hX hB dL_act_114 rfl hl (by decide) rfl (fun ls hl => ?_)
        refine lv_iload hX hB dL_act_115 (lv_at hl 1 rfl) ?_
        refine lv_bipush (v := nZ 9) hX hB dL_act_117 (by decide) ?_
        refine zz_icmp_le X (tgt := 137) dL_act_119 (by decide) ⟨by omega, by omega⟩ ⟨by omega, by omega⟩ (fun c_119 => ?_) (fun c_119 => ?_)
        · refine lv_iload_n hX hB dL_act_137 rfl (lv_at hl 0 rfl) ?_
          refine lv_istore_n (lv' := [(3, .int (nZ ((((tx ++ [59]) ++ [(48 + lnK x1 n)]).length : Int) + 1))), (5, .int (nZ (atK x2 n))), (0, .ref h), (1, .int (nZ x1)), (2, .int (nZ x2)), (4, .int (nZ (↑n : Int)))]) hX hB dL_act_138 rfl hl (by decide) rfl (fun ls hl => ?_)
          refine lv_aload_n hX hB dL_act_139 rfl (lv_at hl 2 rfl) ?_
          refine lv_bipush (v := nZ 48) hX hB dL_act_140 (by decide) ?_
          refine lv_iload hX hB dL_act_142 (lv_at hl 1 rfl) ?_
          refine lv_bipush (v := nZ 10) hX hB dL_act_144 (by decide) ?_
          refine zz_irem X dL_act_146 (z := ((atK x2 n) % 10)) (by first | rfl | omega) ⟨by omega, by omega, by omega, by omega⟩ ?_
          refine zz_iadd X dL_act_147 (z := (48 + ((atK x2 n) % 10))) (by first | rfl | omega) ?_
          refine zc1n (zRunW (As := [.ref h, .int (nZ (48 + ((atK x2 n) % 10)))]) X mw_append (wc_append l D k h B S K (((tx ++ [59]) ++ [(48 + lnK x1 n)]) ++ [58]) xs hG.1 hx (48 + ((atK x2 n) % 10)) ⟨by omega, by omega⟩ (by first | omega | (simp only [List.length_append, List.length_cons, List.length_nil]; omega)) (((((tx ++ [59]) ++ [(48 + lnK x1 n)]) ++ [58]).length : Int) + 1) (rfl)  _) zw_332 (zPre1 hP hD hK) rfl hl (Nat.le_of_ble_eq_true rfl) dL_act_148 ⟨rfl, rfl, ⟨Nat.le_of_ble_eq_true rfl, Nat.le_of_ble_eq_true rfl⟩, Nat.le_of_ble_eq_true rfl, Nat.le_of_ble_eq_true rfl⟩ rfl) hS hP hD hA (fun r xs H locs hpost hP hD hS => ?_)
          obtain ⟨rfl, hx⟩ := hpost
          refine lv_istore_n (lv' := [(3, .int (nZ (((((tx ++ [59]) ++ [(48 + lnK x1 n)]) ++ [58]).length : Int) + 1))), (5, .int (nZ (atK x2 n))), (0, .ref h), (1, .int (nZ x1)), (2, .int (nZ x2)), (4, .int (nZ (↑n : Int)))]) hX hB dL_act_151 rfl hl (by decide) rfl (fun ls hl => ?_)
          refine lv_iinc (v := nZ (↑(n + 1) : Int)) (lv' := [(4, .int (nZ (↑(n + 1) : Int))), (3, .int (nZ (((((tx ++ [59]) ++ [(48 + lnK x1 n)]) ++ [58]).length : Int) + 1))), (5, .int (nZ (atK x2 n))), (0, .ref h), (1, .int (nZ x1)), (2, .int (nZ x2))]) hX hB dL_act_152 hl (k := 5) rfl (zinc (by omega)) (by decide) rfl (fun ls hl => ?_)
          refine lv_goto (tgt := 48) hX hB dL_act_155 (by decide) ?_
          exact ih_48 ((n + 1), (((tx ++ [59]) ++ [(48 + lnK x1 n)]) ++ [58]) ++ [(48 + ((atK x2 n) % 10))], ((((tx ++ [59]) ++ [(48 + lnK x1 n)]) ++ [58]).length : Int) + 1, xs) _ _ _ ⟨(by omega), (by show _ = txB x1 x2 n (textK x1 x2 n); rw [← htx]; unfold txB txA; first | rw [if_pos (show n = 0 by omega), if_pos (show 9 < atK x2 n by omega)] | rw [if_pos (show n = 0 by omega), if_neg (show ¬ 9 < atK x2 n by omega)] | rw [if_neg (show ¬ n = 0 by omega), if_pos (show 9 < atK x2 n by omega)] | rw [if_neg (show ¬ n = 0 by omega), if_neg (show ¬ 9 < atK x2 n by omega)]), (by exact hx), hP, hD, hS, (lv_sub hl [3, 4, 5, 1, 0] rfl)⟩ (by dsimp only; omega)
        · refine lv_aload_n hX hB dL_act_122 rfl (lv_at hl 2 rfl) ?_
          refine lv_bipush (v := nZ 48) hX hB dL_act_123 (by decide) ?_
          refine lv_iload hX hB dL_act_125 (lv_at hl 1 rfl) ?_
          refine lv_bipush (v := nZ 10) hX hB dL_act_127 (by decide) ?_
          refine zz_idiv X dL_act_129 (z := ((atK x2 n) / 10)) (by first | rfl | omega) ⟨by omega, by omega, by omega, by omega⟩ ?_
          refine zz_iadd X dL_act_130 (z := (48 + ((atK x2 n) / 10))) (by first | rfl | omega) ?_
          refine zc1n (zRunW (As := [.ref h, .int (nZ (48 + ((atK x2 n) / 10)))]) X mw_append (wc_append l D k h B S K (((tx ++ [59]) ++ [(48 + lnK x1 n)]) ++ [58]) xs hG.1 hx (48 + ((atK x2 n) / 10)) ⟨by omega, by omega⟩ (by first | omega | (simp only [List.length_append, List.length_cons, List.length_nil]; omega)) (((((tx ++ [59]) ++ [(48 + lnK x1 n)]) ++ [58]).length : Int) + 1) (rfl)  _) zw_332 (zPre1 hP hD hK) rfl hl (Nat.le_of_ble_eq_true rfl) dL_act_131 ⟨rfl, rfl, ⟨Nat.le_of_ble_eq_true rfl, Nat.le_of_ble_eq_true rfl⟩, Nat.le_of_ble_eq_true rfl, Nat.le_of_ble_eq_true rfl⟩ rfl) hS hP hD hA (fun r xs H locs hpost hP hD hS => ?_)
          obtain ⟨rfl, hx⟩ := hpost
          refine lv_goto (tgt := 138) hX hB dL_act_134 (by decide) ?_
          refine lv_istore_n (lv' := [(3, .int (nZ (((((tx ++ [59]) ++ [(48 + lnK x1 n)]) ++ [58]).length : Int) + 1))), (5, .int (nZ (atK x2 n))), (0, .ref h), (1, .int (nZ x1)), (2, .int (nZ x2)), (4, .int (nZ (↑n : Int)))]) hX hB dL_act_138 rfl hl (by decide) rfl (fun ls hl => ?_)
          refine lv_aload_n hX hB dL_act_139 rfl (lv_at hl 2 rfl) ?_
          refine lv_bipush (v := nZ 48) hX hB dL_act_140 (by decide) ?_
          refine lv_iload hX hB dL_act_142 (lv_at hl 1 rfl) ?_
          refine lv_bipush (v := nZ 10) hX hB dL_act_144 (by decide) ?_
          refine zz_irem X dL_act_146 (z := ((atK x2 n) % 10)) (by first | rfl | omega) ⟨by omega, by omega, by omega, by omega⟩ ?_
          refine zz_iadd X dL_act_147 (z := (48 + ((atK x2 n) % 10))) (by first | rfl | omega) ?_
          refine zc1n (zRunW (As := [.ref h, .int (nZ (48 + ((atK x2 n) % 10)))]) X mw_append (wc_append l D k h B S K ((((tx ++ [59]) ++ [(48 + lnK x1 n)]) ++ [58]) ++ [(48 + ((atK x2 n) / 10))]) xs hG.1 hx (48 + ((atK x2 n) % 10)) ⟨by omega, by omega⟩ (by first | omega | (simp only [List.length_append, List.length_cons, List.length_nil]; omega)) ((((((tx ++ [59]) ++ [(48 + lnK x1 n)]) ++ [58]) ++ [(48 + ((atK x2 n) / 10))]).length : Int) + 1) (rfl)  _) zw_332 (zPre1 hP hD hK) rfl hl (Nat.le_of_ble_eq_true rfl) dL_act_148 ⟨rfl, rfl, ⟨Nat.le_of_ble_eq_true rfl, Nat.le_of_ble_eq_true rfl⟩, Nat.le_of_ble_eq_true rfl, Nat.le_of_ble_eq_true rfl⟩ rfl) hS hP hD hA (fun r xs H locs hpost hP hD hS => ?_)
          obtain ⟨rfl, hx⟩ := hpost
          refine lv_istore_n (lv' := [(3, .int (nZ ((((((tx ++ [59]) ++ [(48 + lnK x1 n)]) ++ [58]) ++ [(48 + ((atK x2 n) / 10))]).length : Int) + 1))), (5, .int (nZ (atK x2 n))), (0, .ref h), (1, .int (nZ x1)), (2, .int (nZ x2)), (4, .int (nZ (↑n : Int)))]) hX hB dL_act_151 rfl hl (by decide) rfl (fun ls hl => ?_)
          refine lv_iinc (v := nZ (↑(n + 1) : Int)) (lv' := [(4, .int (nZ (↑(n + 1) : Int))), (3, .int (nZ ((((((tx ++ [59]) ++ [(48 + lnK x1 n)]) ++ [58]) ++ [(48 + ((atK x2 n) / 10))]).length : Int) + 1))), (5, .int (nZ (atK x2 n))), (0, .ref h), (1, .int (nZ x1)), (2, .int (nZ x2))]) hX hB dL_act_152 hl (k := 5) rfl (zinc (by omega)) (by decide) rfl (fun ls hl => ?_)
          refine lv_goto (tgt := 48) hX hB dL_act_155 (by decide) ?_
          exact ih_48 ((n + 1), ((((tx ++ [59]) ++ [(48 + lnK x1 n)]) ++ [58]) ++ [(48 + ((atK x2 n) / 10))]) ++ [(48 + ((atK x2 n) % 10))], (((((tx ++ [59]) ++ [(48 + lnK x1 n)]) ++ [58]) ++ [(48 + ((atK x2 n) / 10))]).length : Int) + 1, xs) _ _ _ ⟨(by omega), (by show _ = txB x1 x2 n (textK x1 x2 n); rw [← htx]; unfold txB txA; first | rw [if_pos (show n = 0 by omega), if_pos (show 9 < atK x2 n by omega)] | rw [if_pos (show n = 0 by omega), if_neg (show ¬ 9 < atK x2 n by omega)] | rw [if_neg (show ¬ n = 0 by omega), if_pos (show 9 < atK x2 n by omega)] | rw [if_neg (show ¬ n = 0 by omega), if_neg (show ¬ 9 < atK x2 n by omega)]), (by exact hx), hP, hD, hS, (lv_sub hl [3, 4, 5, 1, 0] rfl)⟩ (by dsimp only; omega)
  by_cases s_8_1 : (lowS x1 16) = 1
  · refine lv_tableIn (tgt := 40) hX hB dL_act_8 (by rw [hsw]; omega) (by rw [hsw]; omega) (by rw [hsw, s_8_1]; rfl) (by decide) ?_
    refine lv_aload_n hX hB dL_act_40 rfl (lv_at hl 1 rfl) ?_
    refine zc1n (zRunV (As := []) X mv_X6_clearBuffer (wb_clearBuffer l D k h B S K T xs hG.1 hx  (T.length : Int) (rfl)  _) zw_324 (zPreV1 hP hD hK hx rfl) rfl hl (Nat.le_of_ble_eq_true rfl) dL_act_41 ⟨rfl, rfl, ⟨Nat.le_of_ble_eq_true rfl, Nat.le_of_ble_eq_true rfl⟩, Nat.le_of_ble_eq_true rfl, Nat.le_of_ble_eq_true rfl⟩ rfl) hS hP hD hA (fun r xs H locs hpost hP hD hS => ?_)
    obtain ⟨rfl, hx⟩ := hpost
    refine lv_istore_n (lv' := [(3, .int (nZ (T.length : Int))), (0, .ref h), (1, .int (nZ x1)), (2, .int (nZ x2))]) hX hB dL_act_44 rfl hl (by decide) rfl (fun ls hl => ?_)
    refine lv_iconst (v := nZ 0) hX hB dL_act_45 rfl ?_
    refine lv_istore (lv' := [(4, .int (nZ 0)), (3, .int (nZ (T.length : Int))), (0, .ref h), (1, .int (nZ x1)), (2, .int (nZ x2))]) hX hB dL_act_46 hl (by decide) rfl (fun ls hl => ?_)
    refine zLoop (σ := Nat × (List Int) × Int × va_W) (fun (x : Nat × (List Int) × Int × va_W) (H : Heap) (locs : List Loc) (ls : Array Slot) => match x with | (n, tx, lg, xs) => (n ≤ 6) ∧ (tx = textK x1 x2 n) ∧ (isX k h (B, S, K, tx) xs) ∧ va_P D vwCl xs H ∧ va_D A xs ∧ va_S A s9.heap H locs ∧ lv_has ls 6 [(0, .ref h), (1, .int (nZ x1)), (2, .int (nZ x2)), (3, .int (nZ lg)), (4, .int (nZ (↑n : Int)))]) (fun (x : Nat × (List Int) × Int × va_W) => match x with | (n, tx, lg, xs) => 6 - n) ?_ (0, [], (T.length : Int), xs) ⟨(by omega), (by rfl), (by exact hx), hP, hD, hS, (lv_sub hl [2, 3, 4, 1, 0] rfl)⟩
    rintro ⟨n, tx, lg, xs⟩ H locs ls ⟨hn, htx, hx, hP, hD, hS, hl⟩ ih_48
    refine lv_iload hX hB dL_act_48 (lv_at hl 4 rfl) ?_
    refine lv_bipush (v := nZ 6) hX hB dL_act_50 (by decide) ?_
    refine zz_icmp_ge X (tgt := 158) dL_act_52 (by decide) ⟨by omega, by omega⟩ ⟨by omega, by omega⟩ (fun c_52 => ?_) (fun c_52 => ?_)
    · have hn6 : n = 6 := by omega
      rw [hn6] at htx
      have hwt : wholeS tx := by rw [htx]; exact textK_whole x1 x2
      refine lv_aload_n hX hB dL_act_158 rfl (lv_at hl 0 rfl) ?_
      refine zc1 (zRunW (As := [.ref h]) X mw_lay (wc_lay l D k h B S K tx xs hG.1 hx hwt (actR x1 x2 B) ((by rw [htx]; unfold actR; rw [if_pos (show lowS x1 16 ≤ 1 by omega)])) (actF x1 x2 B) (by rw [htx]; unfold actF; rw [if_pos (show lowS x1 16 ≤ 1 by omega)]) (saveL S B) (rfl) _) zw_345 (zPre1 hP hD hK) rfl hl (Nat.le_of_ble_eq_true rfl) dL_act_159 ⟨rfl, rfl, ⟨Nat.le_of_ble_eq_true rfl, Nat.le_of_ble_eq_true rfl⟩, Nat.le_of_ble_eq_true rfl, Nat.le_of_ble_eq_true rfl⟩ rfl) hS hP hD hA (fun r xs H locs hpost hP hD hS => ?_)
      obtain ⟨rfl, hx⟩ := hpost
      refine W.widen (k := 10) (n := 110) (by decide) (by decide) ?_
      exact zRetI xs X hP hD hS rfl ⟨rfl, _, hx⟩ dL_act_162
    · have hlr := lnK_rng x1 n
      have har := atK_rng x2 (k := n) (by omega)
      have htl := textK_len x1 x2 n
      rw [← htx] at htl
      refine lv_iload_n hX hB dL_act_55 rfl (lv_at hl 2 rfl) ?_
      refine lv_iconst (v := nZ 3) hX hB dL_act_56 rfl ?_
      refine lv_iload hX hB dL_act_57 (lv_at hl 4 rfl) ?_
      refine zz_imul X dL_act_59 (z := (3 * (↑n : Int))) (by first | rfl | omega) ?_
      refine zz_ishr X dL_act_60 ?_
      refine lv_bipush (v := nZ 7) hX hB dL_act_61 (by decide) ?_
      have hlo_63 := lowS_rng (zshr x2 (3 * (↑n : Int))) (n := 7) (by first | decide | omega)
      refine zc0n (zRunS X ms_L_low (c_L_low l D k (zshr x2 (3 * (↑n : Int))) 7 (by first | decide | omega) _) zw_320 (zPre0 hP hD hK) rfl hl (Nat.le_of_ble_eq_true rfl) dL_act_63 ⟨rfl, rfl, ⟨Nat.le_of_ble_eq_true rfl, Nat.le_of_ble_eq_true rfl⟩, Nat.le_of_ble_eq_true rfl, Nat.le_of_ble_eq_true rfl⟩ rfl) hS hP hD hA (fun r H locs hpost hP hD hS => ?_)
      obtain rfl := hpost
      refine lv_bipush (v := nZ 8) hX hB dL_act_66 (by decide) ?_
      refine lv_iload hX hB dL_act_68 (lv_at hl 4 rfl) ?_
      refine zz_imul X dL_act_70 (z := (8 * (↑n : Int))) (by first | rfl | omega) ?_
      refine zz_iadd X dL_act_71 (z := (atK x2 n)) (by first | rfl | omega) ?_
      refine lv_istore (lv' := [(5, .int (nZ (atK x2 n))), (0, .ref h), (1, .int (nZ x1)), (2, .int (nZ x2)), (3, .int (nZ lg)), (4, .int (nZ (↑n : Int)))]) hX hB dL_act_72 hl (by decide) rfl (fun ls hl => ?_)
      refine lv_iload hX hB dL_act_74 (lv_at hl 5 rfl) ?_
      refine zz_if_le X (tgt := 88) dL_act_76 (by decide) ⟨by omega, by omega⟩ (fun c_76 => ?_) (fun c_76 => ?_)
      · refine lv_iconst (v := nZ 0) hX hB dL_act_88 rfl ?_
        refine lv_istore_n (lv' := [(3, .int (nZ 0)), (5, .int (nZ (atK x2 n))), (0, .ref h), (1, .int (nZ x1)), (2, .int (nZ x2)), (4, .int (nZ (↑n : Int)))]) hX hB dL_act_89 rfl hl (by decide) rfl (fun ls hl => ?_)
        refine lv_aload_n hX hB dL_act_90 rfl (lv_at hl 2 rfl) ?_
        refine lv_bipush (v := nZ 48) hX hB dL_act_91 (by decide) ?_
        refine lv_iload_n hX hB dL_act_93 rfl (lv_at hl 3 rfl) ?_
        refine lv_iconst (v := nZ 4) hX hB dL_act_94 rfl ?_
        refine lv_iload hX hB dL_act_95 (lv_at hl 5 rfl) ?_
        refine zz_iadd X dL_act_97 (z := (4 + (↑n : Int))) (by first | rfl | omega) ?_
        refine zz_ishr X dL_act_98 ?_
        refine lv_iconst (v := nZ 3) hX hB dL_act_99 rfl ?_
        have hlo_100 := lowS_rng (zshr x1 (4 + (↑n : Int))) (n := 3) (by first | decide | omega)
        refine zc0n (zRunS X ms_L_low (c_L_low l D k (zshr x1 (4 + (↑n : Int))) 3 (by first | decide | omega) _) zw_320 (zPre0 hP hD hK) rfl hl (Nat.le_of_ble_eq_true rfl) dL_act_100 ⟨rfl, rfl, ⟨Nat.le_of_ble_eq_true rfl, Nat.le_of_ble_eq_true rfl⟩, Nat.le_of_ble_eq_true rfl, Nat.le_of_ble_eq_true rfl⟩ rfl) hS hP hD hA (fun r H locs hpost hP hD hS => ?_)
        obtain rfl := hpost
        refine zz_iadd X dL_act_103 (z := (48 + lnK x1 n)) (by first | rfl | omega) ?_
        refine zc1n (zRunW (As := [.ref h, .int (nZ (48 + lnK x1 n))]) X mw_append (wc_append l D k h B S K tx xs hG.1 hx (48 + lnK x1 n) ⟨by omega, by omega⟩ (by first | omega | (simp only [List.length_append, List.length_cons, List.length_nil]; omega)) ((tx.length : Int) + 1) (rfl)  _) zw_332 (zPre1 hP hD hK) rfl hl (Nat.le_of_ble_eq_true rfl) dL_act_104 ⟨rfl, rfl, ⟨Nat.le_of_ble_eq_true rfl, Nat.le_of_ble_eq_true rfl⟩, Nat.le_of_ble_eq_true rfl, Nat.le_of_ble_eq_true rfl⟩ rfl) hS hP hD hA (fun r xs H locs hpost hP hD hS => ?_)
        obtain ⟨rfl, hx⟩ := hpost
        refine lv_istore_n (lv' := [(3, .int (nZ ((tx.length : Int) + 1))), (5, .int (nZ (atK x2 n))), (0, .ref h), (1, .int (nZ x1)), (2, .int (nZ x2)), (4, .int (nZ (↑n : Int)))]) hX hB dL_act_107 rfl hl (by decide) rfl (fun ls hl => ?_)
        refine lv_aload_n hX hB dL_act_108 rfl (lv_at hl 2 rfl) ?_
        refine lv_bipush (v := nZ 58) hX hB dL_act_109 (by decide) ?_
        refine zc1n (zRunW (As := [.ref h, .int (nZ 58)]) X mw_append (wc_append l D k h B S K (tx ++ [(48 + lnK x1 n)]) xs hG.1 hx 58 ⟨by omega, by omega⟩ (by first | omega | (simp only [List.length_append, List.length_cons, List.length_nil]; omega)) (((tx ++ [(48 + lnK x1 n)]).length : Int) + 1) (rfl)  _) zw_332 (zPre1 hP hD hK) rfl hl (Nat.le_of_ble_eq_true rfl) dL_act_111 ⟨rfl, rfl, ⟨Nat.le_of_ble_eq_true rfl, Nat.le_of_ble_eq_true rfl⟩, Nat.le_of_ble_eq_true rfl, Nat.le_of_ble_eq_true rfl⟩ rfl) hS hP hD hA (fun r xs H locs hpost hP hD hS => ?_)
        obtain ⟨rfl, hx⟩ := hpost
        refine lv_istore_n (lv' := [(3, .int (nZ (((tx ++ [(48 + lnK x1 n)]).length : Int) + 1))), (5, .int (nZ (atK x2 n))), (0, .ref h), (1, .int (nZ x1)), (2, .int (nZ x2)), (4, .int (nZ (↑n : Int)))]) hX hB dL_act_114 rfl hl (by decide) rfl (fun ls hl => ?_)
        refine lv_iload hX hB dL_act_115 (lv_at hl 1 rfl) ?_
        refine lv_bipush (v := nZ 9) hX hB dL_act_117 (by decide) ?_
        refine zz_icmp_le X (tgt := 137) dL_act_119 (by decide) ⟨by omega, by omega⟩ ⟨by omega, by omega⟩ (fun c_119 => ?_) (fun c_119 => ?_)
        · refine lv_iload_n hX hB dL_act_137 rfl (lv_at hl 0 rfl) ?_
          refine lv_istore_n (lv' := [(3, .int (nZ (((tx ++ [(48 + lnK x1 n)]).length : Int) + 1))), (5, .int (nZ (atK x2 n))), (0, .ref h), (1, .int (nZ x1)), (2, .int (nZ x2)), (4, .int (nZ (↑n : Int)))]) hX hB dL_act_138 rfl hl (by decide) rfl (fun ls hl => ?_)
          refine lv_aload_n hX hB dL_act_139 rfl (lv_at hl 2 rfl) ?_
          refine lv_bipush (v := nZ 48) hX hB dL_act_140 (by decide) ?_
          refine lv_iload hX hB dL_act_142 (lv_at hl 1 rfl) ?_
          refine lv_bipush (v := nZ 10) hX hB dL_act_144 (by decide) ?_
          refine zz_irem X dL_act_146 (z := ((atK x2 n) % 10)) (by first | rfl | omega) ⟨by omega, by omega, by omega, by omega⟩ ?_
          refine zz_iadd X dL_act_147 (z := (48 + ((atK x2 n) % 10))) (by first | rfl | omega) ?_
          refine zc1n (zRunW (As := [.ref h, .int (nZ (48 + ((atK x2 n) % 10)))]) X mw_append (wc_append l D k h B S K ((tx ++ [(48 + lnK x1 n)]) ++ [58]) xs hG.1 hx (48 + ((atK x2 n) % 10)) ⟨by omega, by omega⟩ (by first | omega | (simp only [List.length_append, List.length_cons, List.length_nil]; omega)) ((((tx ++ [(48 + lnK x1 n)]) ++ [58]).length : Int) + 1) (rfl)  _) zw_332 (zPre1 hP hD hK) rfl hl (Nat.le_of_ble_eq_true rfl) dL_act_148 ⟨rfl, rfl, ⟨Nat.le_of_ble_eq_true rfl, Nat.le_of_ble_eq_true rfl⟩, Nat.le_of_ble_eq_true rfl, Nat.le_of_ble_eq_true rfl⟩ rfl) hS hP hD hA (fun r xs H locs hpost hP hD hS => ?_)
          obtain ⟨rfl, hx⟩ := hpost
          refine lv_istore_n (lv' := [(3, .int (nZ ((((tx ++ [(48 + lnK x1 n)]) ++ [58]).length : Int) + 1))), (5, .int (nZ (atK x2 n))), (0, .ref h), (1, .int (nZ x1)), (2, .int (nZ x2)), (4, .int (nZ (↑n : Int)))]) hX hB dL_act_151 rfl hl (by decide) rfl (fun ls hl => ?_)
          refine lv_iinc (v := nZ (↑(n + 1) : Int)) (lv' := [(4, .int (nZ (↑(n + 1) : Int))), (3, .int (nZ ((((tx ++ [(48 + lnK x1 n)]) ++ [58]).length : Int) + 1))), (5, .int (nZ (atK x2 n))), (0, .ref h), (1, .int (nZ x1)), (2, .int (nZ x2))]) hX hB dL_act_152 hl (k := 5) rfl (zinc (by omega)) (by decide) rfl (fun ls hl => ?_)
          refine lv_goto (tgt := 48) hX hB dL_act_155 (by decide) ?_
          exact ih_48 ((n + 1), ((tx ++ [(48 + lnK x1 n)]) ++ [58]) ++ [(48 + ((atK x2 n) % 10))], (((tx ++ [(48 + lnK x1 n)]) ++ [58]).length : Int) + 1, xs) _ _ _ ⟨(by omega), (by show _ = txB x1 x2 n (textK x1 x2 n); rw [← htx]; unfold txB txA; first | rw [if_pos (show n = 0 by omega), if_pos (show 9 < atK x2 n by omega)] | rw [if_pos (show n = 0 by omega), if_neg (show ¬ 9 < atK x2 n by omega)] | rw [if_neg (show ¬ n = 0 by omega), if_pos (show 9 < atK x2 n by omega)] | rw [if_neg (show ¬ n = 0 by omega), if_neg (show ¬ 9 < atK x2 n by omega)]), (by exact hx), hP, hD, hS, (lv_sub hl [3, 4, 5, 1, 0] rfl)⟩ (by dsimp only; omega)
        · refine lv_aload_n hX hB dL_act_122 rfl (lv_at hl 2 rfl) ?_
          refine lv_bipush (v := nZ 48) hX hB dL_act_123 (by decide) ?_
          refine lv_iload hX hB dL_act_125 (lv_at hl 1 rfl) ?_
          refine lv_bipush (v := nZ 10) hX hB dL_act_127 (by decide) ?_
          refine zz_idiv X dL_act_129 (z := ((atK x2 n) / 10)) (by first | rfl | omega) ⟨by omega, by omega, by omega, by omega⟩ ?_
          refine zz_iadd X dL_act_130 (z := (48 + ((atK x2 n) / 10))) (by first | rfl | omega) ?_
          refine zc1n (zRunW (As := [.ref h, .int (nZ (48 + ((atK x2 n) / 10)))]) X mw_append (wc_append l D k h B S K ((tx ++ [(48 + lnK x1 n)]) ++ [58]) xs hG.1 hx (48 + ((atK x2 n) / 10)) ⟨by omega, by omega⟩ (by first | omega | (simp only [List.length_append, List.length_cons, List.length_nil]; omega)) ((((tx ++ [(48 + lnK x1 n)]) ++ [58]).length : Int) + 1) (rfl)  _) zw_332 (zPre1 hP hD hK) rfl hl (Nat.le_of_ble_eq_true rfl) dL_act_131 ⟨rfl, rfl, ⟨Nat.le_of_ble_eq_true rfl, Nat.le_of_ble_eq_true rfl⟩, Nat.le_of_ble_eq_true rfl, Nat.le_of_ble_eq_true rfl⟩ rfl) hS hP hD hA (fun r xs H locs hpost hP hD hS => ?_)
          obtain ⟨rfl, hx⟩ := hpost
          refine lv_goto (tgt := 138) hX hB dL_act_134 (by decide) ?_
          refine lv_istore_n (lv' := [(3, .int (nZ ((((tx ++ [(48 + lnK x1 n)]) ++ [58]).length : Int) + 1))), (5, .int (nZ (atK x2 n))), (0, .ref h), (1, .int (nZ x1)), (2, .int (nZ x2)), (4, .int (nZ (↑n : Int)))]) hX hB dL_act_138 rfl hl (by decide) rfl (fun ls hl => ?_)
          refine lv_aload_n hX hB dL_act_139 rfl (lv_at hl 2 rfl) ?_
          refine lv_bipush (v := nZ 48) hX hB dL_act_140 (by decide) ?_
          refine lv_iload hX hB dL_act_142 (lv_at hl 1 rfl) ?_
          refine lv_bipush (v := nZ 10) hX hB dL_act_144 (by decide) ?_
          refine zz_irem X dL_act_146 (z := ((atK x2 n) % 10)) (by first | rfl | omega) ⟨by omega, by omega, by omega, by omega⟩ ?_
          refine zz_iadd X dL_act_147 (z := (48 + ((atK x2 n) % 10))) (by first | rfl | omega) ?_
          refine zc1n (zRunW (As := [.ref h, .int (nZ (48 + ((atK x2 n) % 10)))]) X mw_append (wc_append l D k h B S K (((tx ++ [(48 + lnK x1 n)]) ++ [58]) ++ [(48 + ((atK x2 n) / 10))]) xs hG.1 hx (48 + ((atK x2 n) % 10)) ⟨by omega, by omega⟩ (by first | omega | (simp only [List.length_append, List.length_cons, List.length_nil]; omega)) (((((tx ++ [(48 + lnK x1 n)]) ++ [58]) ++ [(48 + ((atK x2 n) / 10))]).length : Int) + 1) (rfl)  _) zw_332 (zPre1 hP hD hK) rfl hl (Nat.le_of_ble_eq_true rfl) dL_act_148 ⟨rfl, rfl, ⟨Nat.le_of_ble_eq_true rfl, Nat.le_of_ble_eq_true rfl⟩, Nat.le_of_ble_eq_true rfl, Nat.le_of_ble_eq_true rfl⟩ rfl) hS hP hD hA (fun r xs H locs hpost hP hD hS => ?_)
          obtain ⟨rfl, hx⟩ := hpost
          refine lv_istore_n (lv' := [(3, .int (nZ (((((tx ++ [(48 + lnK x1 n)]) ++ [58]) ++ [(48 + ((atK x2 n) / 10))]).length : Int) + 1))), (5, .int (nZ (atK x2 n))), (0, .ref h), (1, .int (nZ x1)), (2, .int (nZ x2)), (4, .int (nZ (↑n : Int)))]) hX hB dL_act_151 rfl hl (by decide) rfl (fun ls hl => ?_)
          refine lv_iinc (v := nZ (↑(n + 1) : Int)) (lv' := [(4, .int (nZ (↑(n + 1) : Int))), (3, .int (nZ (((((tx ++ [(48 + lnK x1 n)]) ++ [58]) ++ [(48 + ((atK x2 n) / 10))]).length : Int) + 1))), (5, .int (nZ (atK x2 n))), (0, .ref h), (1, .int (nZ x1)), (2, .int (nZ x2))]) hX hB dL_act_152 hl (k := 5) rfl (zinc (by omega)) (by decide) rfl (fun ls hl => ?_)
          refine lv_goto (tgt := 48) hX hB dL_act_155 (by decide) ?_
          exact ih_48 ((n + 1), (((tx ++ [(48 + lnK x1 n)]) ++ [58]) ++ [(48 + ((atK x2 n) / 10))]) ++ [(48 + ((atK x2 n) % 10))], ((((tx ++ [(48 + lnK x1 n)]) ++ [58]) ++ [(48 + ((atK x2 n) / 10))]).length : Int) + 1, xs) _ _ _ ⟨(by omega), (by show _ = txB x1 x2 n (textK x1 x2 n); rw [← htx]; unfold txB txA; first | rw [if_pos (show n = 0 by omega), if_pos (show 9 < atK x2 n by omega)] | rw [if_pos (show n = 0 by omega), if_neg (show ¬ 9 < atK x2 n by omega)] | rw [if_neg (show ¬ n = 0 by omega), if_pos (show 9 < atK x2 n by omega)] | rw [if_neg (show ¬ n = 0 by omega), if_neg (show ¬ 9 < atK x2 n by omega)]), (by exact hx), hP, hD, hS, (lv_sub hl [3, 4, 5, 1, 0] rfl)⟩ (by dsimp only; omega)
      · refine lv_aload_n hX hB dL_act_79 rfl (lv_at hl 1 rfl) ?_
        refine lv_bipush (v := nZ 59) hX hB dL_act_80 (by decide) ?_
        refine zc1n (zRunW (As := [.ref h, .int (nZ 59)]) X mw_append (wc_append l D k h B S K tx xs hG.1 hx 59 ⟨by omega, by omega⟩ (by first | omega | (simp only [List.length_append, List.length_cons, List.length_nil]; omega)) ((tx.length : Int) + 1) (rfl)  _) zw_332 (zPre1 hP hD hK) rfl hl (Nat.le_of_ble_eq_true rfl) dL_act_82 ⟨rfl, rfl, ⟨Nat.le_of_ble_eq_true rfl, Nat.le_of_ble_eq_true rfl⟩, Nat.le_of_ble_eq_true rfl, Nat.le_of_ble_eq_true rfl⟩ rfl) hS hP hD hA (fun r xs H locs hpost hP hD hS => ?_)
        obtain ⟨rfl, hx⟩ := hpost
        refine lv_goto (tgt := 89) hX hB dL_act_85 (by decide) ?_
        refine lv_istore_n (lv' := [(3, .int (nZ ((tx.length : Int) + 1))), (5, .int (nZ (atK x2 n))), (0, .ref h), (1, .int (nZ x1)), (2, .int (nZ x2)), (4, .int (nZ (↑n : Int)))]) hX hB dL_act_89 rfl hl (by decide) rfl (fun ls hl => ?_)
        refine lv_aload_n hX hB dL_act_90 rfl (lv_at hl 2 rfl) ?_
        refine lv_bipush (v := nZ 48) hX hB dL_act_91 (by decide) ?_
        refine lv_iload_n hX hB dL_act_93 rfl (lv_at hl 3 rfl) ?_
        refine lv_iconst (v := nZ 4) hX hB dL_act_94 rfl ?_
        refine lv_iload hX hB dL_act_95 (lv_at hl 5 rfl) ?_
        refine zz_iadd X dL_act_97 (z := (4 + (↑n : Int))) (by first | rfl | omega) ?_
        refine zz_ishr X dL_act_98 ?_
        refine lv_iconst (v := nZ 3) hX hB dL_act_99 rfl ?_
        have hlo_100 := lowS_rng (zshr x1 (4 + (↑n : Int))) (n := 3) (by first | decide | omega)
        refine zc0n (zRunS X ms_L_low (c_L_low l D k (zshr x1 (4 + (↑n : Int))) 3 (by first | decide | omega) _) zw_320 (zPre0 hP hD hK) rfl hl (Nat.le_of_ble_eq_true rfl) dL_act_100 ⟨rfl, rfl, ⟨Nat.le_of_ble_eq_true rfl, Nat.le_of_ble_eq_true rfl⟩, Nat.le_of_ble_eq_true rfl, Nat.le_of_ble_eq_true rfl⟩ rfl) hS hP hD hA (fun r H locs hpost hP hD hS => ?_)
        obtain rfl := hpost
        refine zz_iadd X dL_act_103 (z := (48 + lnK x1 n)) (by first | rfl | omega) ?_
        refine zc1n (zRunW (As := [.ref h, .int (nZ (48 + lnK x1 n))]) X mw_append (wc_append l D k h B S K (tx ++ [59]) xs hG.1 hx (48 + lnK x1 n) ⟨by omega, by omega⟩ (by first | omega | (simp only [List.length_append, List.length_cons, List.length_nil]; omega)) (((tx ++ [59]).length : Int) + 1) (rfl)  _) zw_332 (zPre1 hP hD hK) rfl hl (Nat.le_of_ble_eq_true rfl) dL_act_104 ⟨rfl, rfl, ⟨Nat.le_of_ble_eq_true rfl, Nat.le_of_ble_eq_true rfl⟩, Nat.le_of_ble_eq_true rfl, Nat.le_of_ble_eq_true rfl⟩ rfl) hS hP hD hA (fun r xs H locs hpost hP hD hS => ?_)
        obtain ⟨rfl, hx⟩ := hpost
        refine lv_istore_n (lv' := [(3, .int (nZ (((tx ++ [59]).length : Int) + 1))), (5, .int (nZ (atK x2 n))), (0, .ref h), (1, .int (nZ x1)), (2, .int (nZ x2)), (4, .int (nZ (↑n : Int)))]) hX hB dL_act_107 rfl hl (by decide) rfl (fun ls hl => ?_)
        refine lv_aload_n hX hB dL_act_108 rfl (lv_at hl 2 rfl) ?_
        refine lv_bipush (v := nZ 58) hX hB dL_act_109 (by decide) ?_
        refine zc1n (zRunW (As := [.ref h, .int (nZ 58)]) X mw_append (wc_append l D k h B S K ((tx ++ [59]) ++ [(48 + lnK x1 n)]) xs hG.1 hx 58 ⟨by omega, by omega⟩ (by first | omega | (simp only [List.length_append, List.length_cons, List.length_nil]; omega)) ((((tx ++ [59]) ++ [(48 + lnK x1 n)]).length : Int) + 1) (rfl)  _) zw_332 (zPre1 hP hD hK) rfl hl (Nat.le_of_ble_eq_true rfl) dL_act_111 ⟨rfl, rfl, ⟨Nat.le_of_ble_eq_true rfl, Nat.le_of_ble_eq_true rfl⟩, Nat.le_of_ble_eq_true rfl, Nat.le_of_ble_eq_true rfl⟩ rfl) hS hP hD hA (fun r xs H locs hpost hP hD hS => ?_)
        obtain ⟨rfl, hx⟩ := hpost
        refine lv_istore_n (lv' := [(3, .int (nZ ((((tx ++ [59]) ++ [(48 + lnK x1 n)]).length : Int) + 1))), (5, .int (nZ (atK x2 n))), (0, .ref h), (1, .int (nZ x1)), (2, .int (nZ x2)), (4, .int (nZ (↑n : Int)))]) hX hB dL_act_114 rfl hl (by decide) rfl (fun ls hl => ?_)
        refine lv_iload hX hB dL_act_115 (lv_at hl 1 rfl) ?_
        refine lv_bipush (v := nZ 9) hX hB dL_act_117 (by decide) ?_
        refine zz_icmp_le X (tgt := 137) dL_act_119 (by decide) ⟨by omega, by omega⟩ ⟨by omega, by omega⟩ (fun c_119 => ?_) (fun c_119 => ?_)
        · refine lv_iload_n hX hB dL_act_137 rfl (lv_at hl 0 rfl) ?_
          refine lv_istore_n (lv' := [(3, .int (nZ ((((tx ++ [59]) ++ [(48 + lnK x1 n)]).length : Int) + 1))), (5, .int (nZ (atK x2 n))), (0, .ref h), (1, .int (nZ x1)), (2, .int (nZ x2)), (4, .int (nZ (↑n : Int)))]) hX hB dL_act_138 rfl hl (by decide) rfl (fun ls hl => ?_)
          refine lv_aload_n hX hB dL_act_139 rfl (lv_at hl 2 rfl) ?_
          refine lv_bipush (v := nZ 48) hX hB dL_act_140 (by decide) ?_
          refine lv_iload hX hB dL_act_142 (lv_at hl 1 rfl) ?_
          refine lv_bipush (v := nZ 10) hX hB dL_act_144 (by decide) ?_
          refine zz_irem X dL_act_146 (z := ((atK x2 n) % 10)) (by first | rfl | omega) ⟨by omega, by omega, by omega, by omega⟩ ?_
          refine zz_iadd X dL_act_147 (z := (48 + ((atK x2 n) % 10))) (by first | rfl | omega) ?_
          refine zc1n (zRunW (As := [.ref h, .int (nZ (48 + ((atK x2 n) % 10)))]) X mw_append (wc_append l D k h B S K (((tx ++ [59]) ++ [(48 + lnK x1 n)]) ++ [58]) xs hG.1 hx (48 + ((atK x2 n) % 10)) ⟨by omega, by omega⟩ (by first | omega | (simp only [List.length_append, List.length_cons, List.length_nil]; omega)) (((((tx ++ [59]) ++ [(48 + lnK x1 n)]) ++ [58]).length : Int) + 1) (rfl)  _) zw_332 (zPre1 hP hD hK) rfl hl (Nat.le_of_ble_eq_true rfl) dL_act_148 ⟨rfl, rfl, ⟨Nat.le_of_ble_eq_true rfl, Nat.le_of_ble_eq_true rfl⟩, Nat.le_of_ble_eq_true rfl, Nat.le_of_ble_eq_true rfl⟩ rfl) hS hP hD hA (fun r xs H locs hpost hP hD hS => ?_)
          obtain ⟨rfl, hx⟩ := hpost
          refine lv_istore_n (lv' := [(3, .int (nZ (((((tx ++ [59]) ++ [(48 + lnK x1 n)]) ++ [58]).length : Int) + 1))), (5, .int (nZ (atK x2 n))), (0, .ref h), (1, .int (nZ x1)), (2, .int (nZ x2)), (4, .int (nZ (↑n : Int)))]) hX hB dL_act_151 rfl hl (by decide) rfl (fun ls hl => ?_)
          refine lv_iinc (v := nZ (↑(n + 1) : Int)) (lv' := [(4, .int (nZ (↑(n + 1) : Int))), (3, .int (nZ (((((tx ++ [59]) ++ [(48 + lnK x1 n)]) ++ [58]).length : Int) + 1))), (5, .int (nZ (atK x2 n))), (0, .ref h), (1, .int (nZ x1)), (2, .int (nZ x2))]) hX hB dL_act_152 hl (k := 5) rfl (zinc (by omega)) (by decide) rfl (fun ls hl => ?_)
          refine lv_goto (tgt := 48) hX hB dL_act_155 (by decide) ?_
          exact ih_48 ((n + 1), (((tx ++ [59]) ++ [(48 + lnK x1 n)]) ++ [58]) ++ [(48 + ((atK x2 n) % 10))], ((((tx ++ [59]) ++ [(48 + lnK x1 n)]) ++ [58]).length : Int) + 1, xs) _ _ _ ⟨(by omega), (by show _ = txB x1 x2 n (textK x1 x2 n); rw [← htx]; unfold txB txA; first | rw [if_pos (show n = 0 by omega), if_pos (show 9 < atK x2 n by omega)] | rw [if_pos (show n = 0 by omega), if_neg (show ¬ 9 < atK x2 n by omega)] | rw [if_neg (show ¬ n = 0 by omega), if_pos (show 9 < atK x2 n by omega)] | rw [if_neg (show ¬ n = 0 by omega), if_neg (show ¬ 9 < atK x2 n by omega)]), (by exact hx), hP, hD, hS, (lv_sub hl [3, 4, 5, 1, 0] rfl)⟩ (by dsimp only; omega)
        · refine lv_aload_n hX hB dL_act_122 rfl (lv_at hl 2 rfl) ?_
          refine lv_bipush (v := nZ 48) hX hB dL_act_123 (by decide) ?_
          refine lv_iload hX hB dL_act_125 (lv_at hl 1 rfl) ?_
          refine lv_bipush (v := nZ 10) hX hB dL_act_127 (by decide) ?_
          refine zz_idiv X dL_act_129 (z := ((atK x2 n) / 10)) (by first | rfl | omega) ⟨by omega, by omega, by omega, by omega⟩ ?_
          refine zz_iadd X dL_act_130 (z := (48 + ((atK x2 n) / 10))) (by first | rfl | omega) ?_
          refine zc1n (zRunW (As := [.ref h, .int (nZ (48 + ((atK x2 n) / 10)))]) X mw_append (wc_append l D k h B S K (((tx ++ [59]) ++ [(48 + lnK x1 n)]) ++ [58]) xs hG.1 hx (48 + ((atK x2 n) / 10)) ⟨by omega, by omega⟩ (by first | omega | (simp only [List.length_append, List.length_cons, List.length_nil]; omega)) (((((tx ++ [59]) ++ [(48 + lnK x1 n)]) ++ [58]).length : Int) + 1) (rfl)  _) zw_332 (zPre1 hP hD hK) rfl hl (Nat.le_of_ble_eq_true rfl) dL_act_131 ⟨rfl, rfl, ⟨Nat.le_of_ble_eq_true rfl, Nat.le_of_ble_eq_true rfl⟩, Nat.le_of_ble_eq_true rfl, Nat.le_of_ble_eq_true rfl⟩ rfl) hS hP hD hA (fun r xs H locs hpost hP hD hS => ?_)
          obtain ⟨rfl, hx⟩ := hpost
          refine lv_goto (tgt := 138) hX hB dL_act_134 (by decide) ?_
          refine lv_istore_n (lv' := [(3, .int (nZ (((((tx ++ [59]) ++ [(48 + lnK x1 n)]) ++ [58]).length : Int) + 1))), (5, .int (nZ (atK x2 n))), (0, .ref h), (1, .int (nZ x1)), (2, .int (nZ x2)), (4, .int (nZ (↑n : Int)))]) hX hB dL_act_138 rfl hl (by decide) rfl (fun ls hl => ?_)
          refine lv_aload_n hX hB dL_act_139 rfl (lv_at hl 2 rfl) ?_
          refine lv_bipush (v := nZ 48) hX hB dL_act_140 (by decide) ?_
          refine lv_iload hX hB dL_act_142 (lv_at hl 1 rfl) ?_
          refine lv_bipush (v := nZ 10) hX hB dL_act_144 (by decide) ?_
          refine zz_irem X dL_act_146 (z := ((atK x2 n) % 10)) (by first | rfl | omega) ⟨by omega, by omega, by omega, by omega⟩ ?_
          refine zz_iadd X dL_act_147 (z := (48 + ((atK x2 n) % 10))) (by first | rfl | omega) ?_
          refine zc1n (zRunW (As := [.ref h, .int (nZ (48 + ((atK x2 n) % 10)))]) X mw_append (wc_append l D k h B S K ((((tx ++ [59]) ++ [(48 + lnK x1 n)]) ++ [58]) ++ [(48 + ((atK x2 n) / 10))]) xs hG.1 hx (48 + ((atK x2 n) % 10)) ⟨by omega, by omega⟩ (by first | omega | (simp only [List.length_append, List.length_cons, List.length_nil]; omega)) ((((((tx ++ [59]) ++ [(48 + lnK x1 n)]) ++ [58]) ++ [(48 + ((atK x2 n) / 10))]).length : Int) + 1) (rfl)  _) zw_332 (zPre1 hP hD hK) rfl hl (Nat.le_of_ble_eq_true rfl) dL_act_148 ⟨rfl, rfl, ⟨Nat.le_of_ble_eq_true rfl, Nat.le_of_ble_eq_true rfl⟩, Nat.le_of_ble_eq_true rfl, Nat.le_of_ble_eq_true rfl⟩ rfl) hS hP hD hA (fun r xs H locs hpost hP hD hS => ?_)
          obtain ⟨rfl, hx⟩ := hpost
          refine lv_istore_n (lv' := [(3, .int (nZ ((((((tx ++ [59]) ++ [(48 + lnK x1 n)]) ++ [58]) ++ [(48 + ((atK x2 n) / 10))]).length : Int) + 1))), (5, .int (nZ (atK x2 n))), (0, .ref h), (1, .int (nZ x1)), (2, .int (nZ x2)), (4, .int (nZ (↑n : Int)))]) hX hB dL_act_151 rfl hl (by decide) rfl (fun ls hl => ?_)
          refine lv_iinc (v := nZ (↑(n + 1) : Int)) (lv' := [(4, .int (nZ (↑(n + 1) : Int))), (3, .int (nZ ((((((tx ++ [59]) ++ [(48 + lnK x1 n)]) ++ [58]) ++ [(48 + ((atK x2 n) / 10))]).length : Int) + 1))), (5, .int (nZ (atK x2 n))), (0, .ref h), (1, .int (nZ x1)), (2, .int (nZ x2))]) hX hB dL_act_152 hl (k := 5) rfl (zinc (by omega)) (by decide) rfl (fun ls hl => ?_)
          refine lv_goto (tgt := 48) hX hB dL_act_155 (by decide) ?_
          exact ih_48 ((n + 1), ((((tx ++ [59]) ++ [(48 + lnK x1 n)]) ++ [58]) ++ [(48 + ((atK x2 n) / 10))]) ++ [(48 + ((atK x2 n) % 10))], (((((tx ++ [59]) ++ [(48 + lnK x1 n)]) ++ [58]) ++ [(48 + ((atK x2 n) / 10))]).length : Int) + 1, xs) _ _ _ ⟨(by omega), (by show _ = txB x1 x2 n (textK x1 x2 n); rw [← htx]; unfold txB txA; first | rw [if_pos (show n = 0 by omega), if_pos (show 9 < atK x2 n by omega)] | rw [if_pos (show n = 0 by omega), if_neg (show ¬ 9 < atK x2 n by omega)] | rw [if_neg (show ¬ n = 0 by omega), if_pos (show 9 < atK x2 n by omega)] | rw [if_neg (show ¬ n = 0 by omega), if_neg (show ¬ 9 < atK x2 n by omega)]), (by exact hx), hP, hD, hS, (lv_sub hl [3, 4, 5, 1, 0] rfl)⟩ (by dsimp only; omega)
  by_cases s_8_2 : (lowS x1 16) = 2
  · refine lv_tableIn (tgt := 163) hX hB dL_act_8 (by rw [hsw]; omega) (by rw [hsw]; omega) (by rw [hsw, s_8_2]; rfl) (by decide) ?_
    refine lv_aload_n hX hB dL_act_163 rfl (lv_at hl 1 rfl) ?_
    refine lv_iload_n hX hB dL_act_164 rfl (lv_at hl 3 rfl) ?_
    refine lv_bipush (v := nZ 21) hX hB dL_act_165 (by decide) ?_
    have hlo_167 := lowS_rng x2 (n := 21) (by first | decide | omega)
    refine zc0n (zRunS X ms_L_low (c_L_low l D k x2 21 (by first | decide | omega) _) zw_320 (zPre0 hP hD hK) rfl hl (Nat.le_of_ble_eq_true rfl) dL_act_167 ⟨rfl, rfl, ⟨Nat.le_of_ble_eq_true rfl, Nat.le_of_ble_eq_true rfl⟩, Nat.le_of_ble_eq_true rfl, Nat.le_of_ble_eq_true rfl⟩ rfl) hS hP hD hA (fun r H locs hpost hP hD hS => ?_)
    obtain rfl := hpost
    refine zc1 (zRunW (As := [.ref h, .int (nZ (lowS x2 21))]) X mw_set (wc_set l D k h B S K T xs hG.1 hx (lowS x2 21) ⟨by omega, by omega⟩ (actR x1 x2 B) ((by unfold actR; rw [if_neg (show ¬ lowS x1 16 ≤ 1 by omega), if_pos (show lowS x1 16 = 2 by omega)])) (actF x1 x2 B) (by unfold actF; rw [if_neg (show ¬ lowS x1 16 ≤ 1 by omega), if_pos (show lowS x1 16 = 2 by omega)]) (saveL S B) (rfl) _) zw_375 (zPre1 hP hD hK) rfl hl (Nat.le_of_ble_eq_true rfl) dL_act_170 ⟨rfl, rfl, ⟨Nat.le_of_ble_eq_true rfl, Nat.le_of_ble_eq_true rfl⟩, Nat.le_of_ble_eq_true rfl, Nat.le_of_ble_eq_true rfl⟩ rfl) hS hP hD hA (fun r xs H locs hpost hP hD hS => ?_)
    obtain ⟨rfl, hx⟩ := hpost
    refine W.widen (k := 10) (n := 110) (by decide) (by decide) ?_
    exact zRetI xs X hP hD hS rfl ⟨rfl, _, hx⟩ dL_act_173
  by_cases s_8_3 : (lowS x1 16) = 3
  · refine lv_tableIn (tgt := 174) hX hB dL_act_8 (by rw [hsw]; omega) (by rw [hsw]; omega) (by rw [hsw, s_8_3]; rfl) (by decide) ?_
    refine lv_iload_n hX hB dL_act_174 rfl (lv_at hl 3 rfl) ?_
    refine lv_bipush (v := nZ 6) hX hB dL_act_175 (by decide) ?_
    have hlo_177 := lowS_rng x2 (n := 6) (by first | decide | omega)
    refine zc0n (zRunS X ms_L_low (c_L_low l D k x2 6 (by first | decide | omega) _) zw_320 (zPre0 hP hD hK) rfl hl (Nat.le_of_ble_eq_true rfl) dL_act_177 ⟨rfl, rfl, ⟨Nat.le_of_ble_eq_true rfl, Nat.le_of_ble_eq_true rfl⟩, Nat.le_of_ble_eq_true rfl, Nat.le_of_ble_eq_true rfl⟩ rfl) hS hP hD hA (fun r H locs hpost hP hD hS => ?_)
    obtain rfl := hpost
    refine zz_if_ne X (tgt := 190) dL_act_180 (by decide) ⟨by omega, by omega⟩ (fun c_180 => ?_) (fun c_180 => ?_)
    · refine lv_aload_n hX hB dL_act_190 rfl (lv_at hl 1 rfl) ?_
      refine zc1 (zRunV (As := []) X mv_X6_endTurn (wb_endTurn l D k h B S K T xs hG.1 hx  (actR x1 x2 B) ((by unfold actR; rw [if_neg (show ¬ lowS x1 16 ≤ 1 by omega), if_neg (show ¬ lowS x1 16 = 2 by omega), if_pos (show lowS x1 16 = 3 by omega), if_neg (show ¬ lowS x2 6 = 0 by omega)])) (actF x1 x2 B) (by unfold actF; rw [if_neg (show ¬ lowS x1 16 ≤ 1 by omega), if_neg (show ¬ lowS x1 16 = 2 by omega), if_pos (show lowS x1 16 = 3 by omega), if_neg (show ¬ lowS x2 6 = 0 by omega)]) (saveL S B) (rfl) _) zw_389 (zPreV1 hP hD hK hx rfl) rfl hl (Nat.le_of_ble_eq_true rfl) dL_act_191 ⟨rfl, rfl, ⟨Nat.le_of_ble_eq_true rfl, Nat.le_of_ble_eq_true rfl⟩, Nat.le_of_ble_eq_true rfl, Nat.le_of_ble_eq_true rfl⟩ rfl) hS hP hD hA (fun r xs H locs hpost hP hD hS => ?_)
      obtain ⟨rfl, hx⟩ := hpost
      refine W.widen (k := 10) (n := 110) (by decide) (by decide) ?_
      exact zRetI xs X hP hD hS rfl ⟨rfl, _, hx⟩ dL_act_194
    · refine lv_aload_n hX hB dL_act_183 rfl (lv_at hl 1 rfl) ?_
      refine zc1 (zRunV (As := []) X mv_X6_begin (wb_begin l D k h B S K T xs hG.1 hx  (actR x1 x2 B) ((by unfold actR; rw [if_neg (show ¬ lowS x1 16 ≤ 1 by omega), if_neg (show ¬ lowS x1 16 = 2 by omega), if_pos (show lowS x1 16 = 3 by omega), if_pos (show lowS x2 6 = 0 by omega)])) (actF x1 x2 B) (by unfold actF; rw [if_neg (show ¬ lowS x1 16 ≤ 1 by omega), if_neg (show ¬ lowS x1 16 = 2 by omega), if_pos (show lowS x1 16 = 3 by omega), if_pos (show lowS x2 6 = 0 by omega)]) (saveL S B) (rfl) _) zw_382 (zPreV1 hP hD hK hx rfl) rfl hl (Nat.le_of_ble_eq_true rfl) dL_act_184 ⟨rfl, rfl, ⟨Nat.le_of_ble_eq_true rfl, Nat.le_of_ble_eq_true rfl⟩, Nat.le_of_ble_eq_true rfl, Nat.le_of_ble_eq_true rfl⟩ rfl) hS hP hD hA (fun r xs H locs hpost hP hD hS => ?_)
      obtain ⟨rfl, hx⟩ := hpost
      refine W.widen (k := 10) (n := 110) (by decide) (by decide) ?_
      refine lv_goto (tgt := 194) hX hB dL_act_187 (by decide) ?_
      exact zRetI xs X hP hD hS rfl ⟨rfl, _, hx⟩ dL_act_194
  refine lv_tableOut (tgt := 195) hX hB dL_act_8 (by rw [hsw]; omega) (by decide) ?_
  have hsp := strP_rng x2
  refine lv_aload_n hX hB dL_act_195 rfl (lv_at hl 1 rfl) ?_
  refine lv_iload_n hX hB dL_act_196 rfl (lv_at hl 2 rfl) ?_
  refine lv_iconst (v := nZ 4) hX hB dL_act_197 rfl ?_
  refine zz_ishr X dL_act_198 ?_
  refine lv_iconst (v := nZ 3) hX hB dL_act_199 rfl ?_
  have hlo_200 := lowS_rng (zshr x1 4) (n := 3) (by first | decide | omega)
  refine zc0n (zRunS X ms_L_low (c_L_low l D k (zshr x1 4) 3 (by first | decide | omega) _) zw_320 (zPre0 hP hD hK) rfl hl (Nat.le_of_ble_eq_true rfl) dL_act_200 ⟨rfl, rfl, ⟨Nat.le_of_ble_eq_true rfl, Nat.le_of_ble_eq_true rfl⟩, Nat.le_of_ble_eq_true rfl, Nat.le_of_ble_eq_true rfl⟩ rfl) hS hP hD hA (fun r H locs hpost hP hD hS => ?_)
  obtain rfl := hpost
  refine lv_iconst (v := nZ 1) hX hB dL_act_203 rfl ?_
  refine lv_iload_n hX hB dL_act_204 rfl (lv_at hl 3 rfl) ?_
  refine lv_iload_n hX hB dL_act_205 rfl (lv_at hl 3 rfl) ?_
  refine lv_bipush (v := nZ 9) hX hB dL_act_206 (by decide) ?_
  refine zz_ishr X dL_act_208 ?_
  refine lv_iconst (v := nZ 3) hX hB dL_act_209 rfl ?_
  have hlo_210 := lowS_rng (zshr x2 9) (n := 3) (by first | decide | omega)
  refine zc0n (zRunS X ms_L_low (c_L_low l D k (zshr x2 9) 3 (by first | decide | omega) _) zw_320 (zPre0 hP hD hK) rfl hl (Nat.le_of_ble_eq_true rfl) dL_act_210 ⟨rfl, rfl, ⟨Nat.le_of_ble_eq_true rfl, Nat.le_of_ble_eq_true rfl⟩, Nat.le_of_ble_eq_true rfl, Nat.le_of_ble_eq_true rfl⟩ rfl) hS hP hD hA (fun r H locs hpost hP hD hS => ?_)
  obtain rfl := hpost
  refine zz_if_ne X (tgt := 222) dL_act_213 (by decide) ⟨by omega, by omega⟩ (fun c_213 => ?_) (fun c_213 => ?_)
  · refine lv_bipush (v := nZ 100) hX hB dL_act_222 (by decide) ?_
    have hlo_224 := lowS_rng x2 (n := 100) (by first | decide | omega)
    refine zc0n (zRunS X ms_L_low (c_L_low l D k x2 100 (by first | decide | omega) _) zw_320 (zPre0 hP hD hK) rfl hl (Nat.le_of_ble_eq_true rfl) dL_act_224 ⟨rfl, rfl, ⟨Nat.le_of_ble_eq_true rfl, Nat.le_of_ble_eq_true rfl⟩, Nat.le_of_ble_eq_true rfl, Nat.le_of_ble_eq_true rfl⟩ rfl) hS hP hD hA (fun r H locs hpost hP hD hS => ?_)
    obtain rfl := hpost
    have hst : 1 + (lowS x2 100) = strP x2 := by unfold strP; rw [if_neg (by omega)]
    refine zz_iadd X dL_act_227 (z := (strP x2)) (by first | rfl | omega) ?_
    refine zc1 (zRunW (As := [.ref h, .int (nZ (lowS (zshr x1 4) 3)), .int (nZ (strP x2))]) X mw_push (wc_push l D k h B S K T xs hG.1 hx (lowS (zshr x1 4) 3) (strP x2) ⟨by omega, by omega⟩ ⟨by omega, by omega⟩ (actR x1 x2 B) ((by unfold actR; rw [if_neg (show ¬ lowS x1 16 ≤ 1 by omega), if_neg (show ¬ lowS x1 16 = 2 by omega), if_neg (show ¬ lowS x1 16 = 3 by omega)])) (actF x1 x2 B) (by unfold actF; rw [if_neg (show ¬ lowS x1 16 ≤ 1 by omega), if_neg (show ¬ lowS x1 16 = 2 by omega), if_neg (show ¬ lowS x1 16 = 3 by omega)]) (saveL S B) (rfl) _) zw_239 (zPre1 hP hD hK) rfl hl (Nat.le_of_ble_eq_true rfl) dL_act_228 ⟨rfl, rfl, ⟨Nat.le_of_ble_eq_true rfl, Nat.le_of_ble_eq_true rfl⟩, Nat.le_of_ble_eq_true rfl, Nat.le_of_ble_eq_true rfl⟩ rfl) hS hP hD hA (fun r xs H locs hpost hP hD hS => ?_)
    obtain ⟨rfl, hx⟩ := hpost
    refine W.widen (k := 10) (n := 110) (by decide) (by decide) ?_
    exact zRetI xs X hP hD hS rfl ⟨rfl, _, hx⟩ dL_act_231
  · refine lv_sipush (v := nZ 150) hX hB dL_act_216 (by decide) ?_
    refine lv_goto (tgt := 224) hX hB dL_act_219 (by decide) ?_
    have hlo_224 := lowS_rng x2 (n := 150) (by first | decide | omega)
    refine zc0n (zRunS X ms_L_low (c_L_low l D k x2 150 (by first | decide | omega) _) zw_320 (zPre0 hP hD hK) rfl hl (Nat.le_of_ble_eq_true rfl) dL_act_224 ⟨rfl, rfl, ⟨Nat.le_of_ble_eq_true rfl, Nat.le_of_ble_eq_true rfl⟩, Nat.le_of_ble_eq_true rfl, Nat.le_of_ble_eq_true rfl⟩ rfl) hS hP hD hA (fun r H locs hpost hP hD hS => ?_)
    obtain rfl := hpost
    have hst : 1 + (lowS x2 150) = strP x2 := by unfold strP; rw [if_pos (by omega)]
    refine zz_iadd X dL_act_227 (z := (strP x2)) (by first | rfl | omega) ?_
    refine zc1 (zRunW (As := [.ref h, .int (nZ (lowS (zshr x1 4) 3)), .int (nZ (strP x2))]) X mw_push (wc_push l D k h B S K T xs hG.1 hx (lowS (zshr x1 4) 3) (strP x2) ⟨by omega, by omega⟩ ⟨by omega, by omega⟩ (actR x1 x2 B) ((by unfold actR; rw [if_neg (show ¬ lowS x1 16 ≤ 1 by omega), if_neg (show ¬ lowS x1 16 = 2 by omega), if_neg (show ¬ lowS x1 16 = 3 by omega)])) (actF x1 x2 B) (by unfold actF; rw [if_neg (show ¬ lowS x1 16 ≤ 1 by omega), if_neg (show ¬ lowS x1 16 = 2 by omega), if_neg (show ¬ lowS x1 16 = 3 by omega)]) (saveL S B) (rfl) _) zw_239 (zPre1 hP hD hK) rfl hl (Nat.le_of_ble_eq_true rfl) dL_act_228 ⟨rfl, rfl, ⟨Nat.le_of_ble_eq_true rfl, Nat.le_of_ble_eq_true rfl⟩, Nat.le_of_ble_eq_true rfl, Nat.le_of_ble_eq_true rfl⟩ rfl) hS hP hD hA (fun r xs H locs hpost hP hD hS => ?_)
    obtain ⟨rfl, hx⟩ := hpost
    refine W.widen (k := 10) (n := 110) (by decide) (by decide) ?_
    exact zRetI xs X hP hD hS rfl ⟨rfl, _, hx⟩ dL_act_231
