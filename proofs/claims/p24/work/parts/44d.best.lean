theorem ms_L_best : zMS yL_best cL_best 10 (some .boolean) 3 := ⟨zw_408, zw_68, ⟨by decide +kernel, by decide +kernel, by decide +kernel⟩, zw_407⟩
set_option maxHeartbeats 2000000 in
set_option maxRecDepth 100000 in
theorem c_L_best (l : Launch) (D : va_G) (k : Nat → ClassId) (h : Nat) (B : Bd) (S : List Bd) (K : Nat → Option Bd) (T : List Int) (xs : va_W) (N : Int) (hN : 0 ≤ N ∧ N < 900000) (hG : goodT N (B, S, K, T)) (hx : isX k h (B, S, K, T) xs) (x1 x2 : Int) (h1 : 0 ≤ x1 ∧ x1 ≤ 2) (h2 : 1 ≤ x2 ∧ x2 ≤ 150)  : ∀ sz, Met l yL_best (zW yL_best cL_best 10 (some .boolean)) ({ frames := 11, cells := 20, slots := 220, locals := 360 } : Room) (va_Pc [.ref h, .int (nZ x1), .int (nZ x2)] (zIn D k sz xs)) (va_Qi (fun (r : Int32) (u : va_W) => r = nZ 1 ∧ ∃ S2, goodT N (B, S2, K, T) ∧ isX k h (B, S2, K, T) u) (fun u => zOut D (va_A xs sz) u) (va_A xs sz)) 20 220 (va_A xs sz) := by
  intro sz
  refine zEnter (Qf := fun A => va_Qi (fun (r : Int32) (u : va_W) => r = nZ 1 ∧ ∃ S2, goodT N (B, S2, K, T) ∧ isX k h (B, S2, K, T) u) (fun u => zOut D A u) A) RL (by decide) rfl (Nat.le_of_ble_eq_true rfl) ?_
  intro p9 e9 s9 m9 be9 me9 c9 ls A X hin hP hD hS hA hAe hl
  have hX := X.1; have hB := X.2.1; have hz := X.2.2.2.2.1; have hW := X.2.2.2.2.2.1; have hK := X.2.2.2.2.2.2.2; clear hAe; clear hin
  have hl : lv_has ls 10 [(0, .ref h), (1, .int (nZ x1)), (2, .int (nZ x2))] := hl
  have hBg : bdGood B := hG.1.1
  obtain ⟨w0, w1, w2, w3, w4, hC0, hC1, hC2⟩ := id hBg
  obtain ⟨bt, hbt⟩ : ∃ v, bestB B = v := ⟨_, rfl⟩
  have hbs := best_spec B
  rw [hbt] at hbs
  obtain ⟨⟨hp1, hp2, hp3, hp4⟩, hbb⟩ := hbs
  refine lv_aload_n hX hB dL_best_0 rfl (lv_at hl 0 rfl) ?_
  refine zc1n (zRunV (As := []) X mv_X6_bestPush (wb_bestPush l D k h B S K T xs hG.1 hx  bt (hbt)  _) zw_409 (zPreV1 hP hD hK hx rfl) rfl hl (Nat.le_of_ble_eq_true rfl) dL_best_1 ⟨rfl, rfl, ⟨Nat.le_of_ble_eq_true rfl, Nat.le_of_ble_eq_true rfl⟩, Nat.le_of_ble_eq_true rfl, Nat.le_of_ble_eq_true rfl⟩ rfl) hS hP hD hA (fun r xs H locs hpost hP hD hS => ?_)
  obtain ⟨rfl, hx⟩ := hpost
  refine lv_istore_n (lv' := [(3, .int (nZ bt)), (0, .ref h), (1, .int (nZ x1)), (2, .int (nZ x2))]) hX hB dL_best_4 rfl hl (by decide) rfl (fun ls hl => ?_)
  refine lv_aload_n hX hB dL_best_5 rfl (lv_at hl 1 rfl) ?_
  refine lv_bipush (v := nZ 6) hX hB dL_best_6 (by decide) ?_
  refine zc1n (zRunW (As := [.ref h, .int (nZ 6)]) X mw_count (wc_count l D k h B S K T xs hG.1 hx 6 ⟨by omega, by omega⟩ (B.1 3) (rfl)  _) zw_130 (zPre1 hP hD hK) rfl hl (Nat.le_of_ble_eq_true rfl) dL_best_8 ⟨rfl, rfl, ⟨Nat.le_of_ble_eq_true rfl, Nat.le_of_ble_eq_true rfl⟩, Nat.le_of_ble_eq_true rfl, Nat.le_of_ble_eq_true rfl⟩ rfl) hS hP hD hA (fun r xs H locs hpost hP hD hS => ?_)
  obtain ⟨rfl, hx⟩ := hpost
  refine zz_if_gt X (tgt := 23) dL_best_11 (by decide) ⟨by omega, by omega⟩ (fun c_11 => ?_) (fun c_11 => ?_)
  · refine lv_iload_n hX hB dL_best_23 rfl (lv_at hl 0 rfl) ?_
    refine zz_if_le X (tgt := 38) dL_best_24 (by decide) ⟨by omega, by omega⟩ (fun c_24 => by exfalso; omega) (fun c_24 => ?_)
    refine lv_iload_n hX hB dL_best_27 rfl (lv_at hl 0 rfl) ?_
    refine lv_sipush (v := nZ 2150) hX hB dL_best_28 (by decide) ?_
    refine zz_icmp_gt X (tgt := 38) dL_best_31 (by decide) ⟨by omega, by omega⟩ ⟨by omega, by omega⟩ (fun c_31 => by exfalso; omega) (fun c_31 => ?_)
    refine lv_iconst (v := nZ 1) hX hB dL_best_34 rfl ?_
    refine lv_goto (tgt := 39) hX hB dL_best_35 (by decide) ?_
    refine W.widen (k := 20) (n := 220) (by decide) (by decide) ?_
    exact zRetZ xs X hP hD hS (Or.inr rfl) rfl ⟨rfl, S, hG, hx⟩ dL_best_39
  · refine lv_aload_n hX hB dL_best_14 rfl (lv_at hl 1 rfl) ?_
    refine lv_iconst (v := nZ 1) hX hB dL_best_15 rfl ?_
    refine zc1n (zRunW (As := [.ref h, .int (nZ 1)]) X mw_count (wc_count l D k h B S K T xs hG.1 hx 1 ⟨by omega, by omega⟩ (B.1 2) (rfl)  _) zw_130 (zPre1 hP hD hK) rfl hl (Nat.le_of_ble_eq_true rfl) dL_best_16 ⟨rfl, rfl, ⟨Nat.le_of_ble_eq_true rfl, Nat.le_of_ble_eq_true rfl⟩, Nat.le_of_ble_eq_true rfl, Nat.le_of_ble_eq_true rfl⟩ rfl) hS hP hD hA (fun r xs H locs hpost hP hD hS => ?_)
    obtain ⟨rfl, hx⟩ := hpost
    refine lv_iconst (v := nZ 4) hX hB dL_best_19 rfl ?_
    refine zz_icmp_ne X (tgt := 40) dL_best_20 (by decide) ⟨by omega, by omega⟩ ⟨by omega, by omega⟩ (fun c_20 => ?_) (fun c_20 => ?_)
    · refine lv_aload_n hX hB dL_best_40 rfl (lv_at hl 1 rfl) ?_
      refine zcL1n (zRunS (As := [.ref h]) X ms_L_print (c_L_print l D k h B S K T xs N ⟨by omega, by omega⟩ hG hx  _) zw_161 (zPre1 hP hD hK) rfl hl (Nat.le_of_ble_eq_true rfl) dL_best_41 ⟨rfl, rfl, ⟨Nat.le_of_ble_eq_true rfl, Nat.le_of_ble_eq_true rfl⟩, Nat.le_of_ble_eq_true rfl, Nat.le_of_ble_eq_true rfl⟩ rfl) hS hP hD hA (fun r xs H locs hpost hP hD hS => ?_)
      obtain ⟨rfl, hx⟩ := hpost
      refine lv_lstore (lv' := [(4, .long (nL (printB B))), (3, .int (nZ bt)), (0, .ref h), (1, .int (nZ x1)), (2, .int (nZ x2))]) hX hB dL_best_44 hl (by decide) rfl (fun ls hl => ?_)
      refine lv_iconst (v := nZ 0) hX hB dL_best_46 rfl ?_
      refine lv_istore (lv' := [(6, .int (nZ 0)), (4, .long (nL (printB B))), (3, .int (nZ bt)), (0, .ref h), (1, .int (nZ x1)), (2, .int (nZ x2))]) hX hB dL_best_47 hl (by decide) rfl (fun ls hl => ?_)
      refine lv_iconst (v := nZ 0) hX hB dL_best_49 rfl ?_
      refine lv_istore (lv' := [(7, .int (nZ 0)), (6, .int (nZ 0)), (4, .long (nL (printB B))), (3, .int (nZ bt)), (0, .ref h), (1, .int (nZ x1)), (2, .int (nZ x2))]) hX hB dL_best_50 hl (by decide) rfl (fun ls hl => ?_)
      refine lv_aload_n hX hB dL_best_52 rfl (lv_at hl 4 rfl) ?_
      refine lv_iload_n hX hB dL_best_53 rfl (lv_at hl 3 rfl) ?_
      refine lv_sipush (v := nZ 1000) hX hB dL_best_54 (by decide) ?_
      refine zz_idiv X dL_best_57 (z := (bt / 1000)) (by first | rfl | omega) ⟨by omega, by omega, by omega, by omega⟩ ?_
      refine lv_iload_n hX hB dL_best_58 rfl (lv_at hl 3 rfl) ?_
      refine lv_sipush (v := nZ 1000) hX hB dL_best_59 (by decide) ?_
      refine zz_irem X dL_best_62 (z := (bt % 1000)) (by first | rfl | omega) ⟨by omega, by omega, by omega, by omega⟩ ?_
      have h3 : B.1 3 = 0 := by omega
      obtain ⟨nd63, hnd63⟩ : ∃ v, nudS (B.1 0) (bt % 1000) (B.2 (bt / 1000).toNat) = v := ⟨_, rfl⟩
      have hnr63 := nud_rng hBg (j := (bt / 1000).toNat) (by omega) (bt % 1000)
      rw [hnd63] at hnr63
      obtain ⟨B63, hB63⟩ : ∃ z, pushF B (bt / 1000).toNat (bt % 1000) = z := ⟨_, rfl⟩
      obtain ⟨S63, hS63⟩ : ∃ z, saveL S B = z := ⟨_, rfl⟩
      refine zc1 (zRunW (As := [.ref h, .int (nZ (bt / 1000)), .int (nZ (bt % 1000))]) X mw_push (wc_push l D k h B S K T xs hG.1 hx (bt / 1000) (bt % 1000) ⟨by omega, by omega⟩ ⟨by omega, by omega⟩ nd63 ((by rw [if_pos h3]; exact hnd63)) B63 hB63 S63 hS63 _) zw_239 (zPre1 hP hD hK) rfl hl (Nat.le_of_ble_eq_true rfl) dL_best_63 ⟨rfl, rfl, ⟨Nat.le_of_ble_eq_true rfl, Nat.le_of_ble_eq_true rfl⟩, Nat.le_of_ble_eq_true rfl, Nat.le_of_ble_eq_true rfl⟩ rfl) hS hP hD hA (fun r xs H locs hpost hP hD hS => ?_)
      obtain ⟨rfl, hx⟩ := hpost
      have hG63 : goodT (N + 1) (B63, S63, K, T) := by rw [← hB63, ← hS63]; exact hG.save (push_good hBg (by omega) ⟨by omega, by omega⟩) (xtra_push hG.2.1 hBg.2.1 _ _)
      have hpf63 : B63 = push1 B (bt / 1000).toNat (bt % 1000) := by rw [← hB63]; exact pushF_go h3 (by omega) _ _
      have hle63 := good_lead (B := B63) hG63.1.1
      have hlc63 : leadG B63 = leadC B (1000 * (bt / 1000) + (bt % 1000)) := by rw [hpf63, push1_lead]; unfold leadC; rw [show (1000 * (bt / 1000) + (bt % 1000)) / 1000 = (bt / 1000) by omega, show (1000 * (bt / 1000) + (bt % 1000)) % 1000 = (bt % 1000) by omega]
      refine W.widen (k := 10) (n := 110) (by decide) (by decide) ?_
      refine zz_if_lt X (tgt := 73) dL_best_66 (by decide) ⟨by omega, by omega⟩ (fun c_66 => by exfalso; omega) (fun c_66 => ?_)
      refine lv_iconst (v := nZ 1) hX hB dL_best_69 rfl ?_
      refine lv_goto (tgt := 74) hX hB dL_best_70 (by decide) ?_
      refine lv_istore (lv' := [(8, .int (nZ 1)), (7, .int (nZ 0)), (6, .int (nZ 0)), (4, .long (nL (printB B))), (3, .int (nZ bt)), (0, .ref h), (1, .int (nZ x1)), (2, .int (nZ x2))]) hX hB dL_best_74 hl (by decide) rfl (fun ls hl => ?_)
      refine lv_iconst (v := nZ 0) hX hB dL_best_76 rfl ?_
      refine lv_istore (lv' := [(9, .int (nZ 0)), (8, .int (nZ 1)), (7, .int (nZ 0)), (6, .int (nZ 0)), (4, .long (nL (printB B))), (3, .int (nZ bt)), (0, .ref h), (1, .int (nZ x1)), (2, .int (nZ x2))]) hX hB dL_best_77 hl (by decide) rfl (fun ls hl => ?_)
      refine zLoop (σ := Nat × Int × va_W) (fun (x : Nat × Int × va_W) (H : Heap) (locs : List Loc) (ls : Array Slot) => match x with | (bd, on, xs) => (bd ≤ 9) ∧ (on = sumTo (fun b => ownR (chB B63) (B63.1 1) (b : Int) (cleanB B63 (b : Int)) - othR (chB B63) (B63.1 1) (b : Int) (cleanB B63 (b : Int))) bd) ∧ (isX k h (B63, S63, K, T) xs) ∧ va_P D vwCl xs H ∧ va_D A xs ∧ va_S A s9.heap H locs ∧ lv_has ls 10 [(8, .int (nZ 1)), (7, .int (nZ 0)), (4, .long (nL (printB B))), (3, .int (nZ bt)), (0, .ref h), (1, .int (nZ x1)), (2, .int (nZ x2)), (6, .int (nZ on)), (9, .int (nZ (↑bd : Int)))]) (fun (x : Nat × Int × va_W) => match x with | (bd, on, xs) => 9 - bd) ?_ (0, 0, xs) ⟨(by omega), (by rfl), (by exact hx), hP, hD, hS, (lv_sub hl [1, 2, 4, 5, 6, 7, 8, 3, 0] rfl)⟩
      rintro ⟨bd, on, xs⟩ H locs ls ⟨hbd, hon, hx, hP, hD, hS, hl⟩ ih_79
      refine lv_iload hX hB dL_best_79 (lv_at hl 8 rfl) ?_
      refine lv_bipush (v := nZ 9) hX hB dL_best_81 (by decide) ?_
      refine zz_icmp_ge X (tgt := 112) dL_best_83 (by decide) ⟨by omega, by omega⟩ ⟨by omega, by omega⟩ (fun c_83 => ?_) (fun c_83 => ?_)
      · have hon9 : on = leadC B bt := by rw [hon, show bd = 9 by omega, ← lead_at, hlc63, show 1000 * (bt / 1000) + bt % 1000 = bt by omega]
        have honr : -9000 ≤ on ∧ on ≤ 9000 := by rw [hon, show bd = 9 by omega]; exact hle63
        refine lv_iload hX hB dL_best_112 (lv_at hl 0 rfl) ?_
        refine zz_if_eq X (tgt := 137) dL_best_114 (by decide) ⟨by omega, by omega⟩ (fun c_114 => by exfalso; omega) (fun c_114 => ?_)
        refine lv_aload_n hX hB dL_best_117 rfl (lv_at hl 4 rfl) ?_
        have hSl118 : 0 < S63.length := by rw [← hS63]; exact saveL_pos _ _
        have hSm118 : S63.length ≤ 6 := hG63.1.2.2.2
        obtain ⟨S118, hS118⟩ : ∃ z, S63.dropLast = z := ⟨_, rfl⟩
        refine zc1n (zRunW (As := [.ref h]) X mw_undo (wc_undo l D k h B63 S63 K T xs hG63.1 hx B (by rw [← hS63]; exact saveL_last _ _) ((S63.length : Int) - 1) (rfl) B (rfl) S118 hS118 _) zw_299 (zPre1 hP hD hK) rfl hl (Nat.le_of_ble_eq_true rfl) dL_best_118 ⟨rfl, rfl, ⟨Nat.le_of_ble_eq_true rfl, Nat.le_of_ble_eq_true rfl⟩, Nat.le_of_ble_eq_true rfl, Nat.le_of_ble_eq_true rfl⟩ rfl) hS hP hD hA (fun r xs H locs hpost hP hD hS => ?_)
        obtain ⟨rfl, hx⟩ := hpost
        have hG118 : goodT N (B, S118, K, T) := by rw [← hS118, ← hS63]; exact hG.back
        refine zz_if_lt X (tgt := 137) dL_best_121 (by decide) ⟨by omega, by omega⟩ (fun c_121 => by exfalso; omega) (fun c_121 => ?_)
        refine lv_aload_n hX hB dL_best_124 rfl (lv_at hl 4 rfl) ?_
        refine lv_iload_n hX hB dL_best_125 rfl (lv_at hl 5 rfl) ?_
        refine lv_iload_n hX hB dL_best_126 rfl (lv_at hl 6 rfl) ?_
        have h3 : B.1 3 = 0 := by omega
        obtain ⟨nd127, hnd127⟩ : ∃ v, nudS (B.1 0) x2 (B.2 x1.toNat) = v := ⟨_, rfl⟩
        have hnr127 := nud_rng hBg (j := x1.toNat) (by omega) x2
        rw [hnd127] at hnr127
        obtain ⟨B127, hB127⟩ : ∃ z, pushF B x1.toNat x2 = z := ⟨_, rfl⟩
        obtain ⟨S127, hS127⟩ : ∃ z, saveL S118 B = z := ⟨_, rfl⟩
        refine zc1 (zRunW (As := [.ref h, .int (nZ x1), .int (nZ x2)]) X mw_push (wc_push l D k h B S118 K T xs hG118.1 hx x1 x2 ⟨by omega, by omega⟩ ⟨by omega, by omega⟩ nd127 ((by rw [if_pos h3]; exact hnd127)) B127 hB127 S127 hS127 _) zw_239 (zPre1 hP hD hK) rfl hl (Nat.le_of_ble_eq_true rfl) dL_best_127 ⟨rfl, rfl, ⟨Nat.le_of_ble_eq_true rfl, Nat.le_of_ble_eq_true rfl⟩, Nat.le_of_ble_eq_true rfl, Nat.le_of_ble_eq_true rfl⟩ rfl) hS hP hD hA (fun r xs H locs hpost hP hD hS => ?_)
        obtain ⟨rfl, hx⟩ := hpost
        have hG127 : goodT (N + 1) (B127, S127, K, T) := by rw [← hB127, ← hS127]; exact hG118.save (push_good hBg (by omega) ⟨by omega, by omega⟩) (xtra_push hG.2.1 hBg.2.1 _ _)
        have hpf127 : B127 = push1 B x1.toNat x2 := by rw [← hB127]; exact pushF_go h3 (by omega) _ _
        have hle127 := good_lead (B := B127) hG127.1.1
        have hlc127 : leadG B127 = leadC B (1000 * x1 + x2) := by rw [hpf127, push1_lead]; unfold leadC; rw [show (1000 * x1 + x2) / 1000 = x1 by omega, show (1000 * x1 + x2) % 1000 = x2 by omega]
        refine W.widen (k := 20) (n := 220) (by decide) (by decide) ?_
        refine zz_if_lt X (tgt := 137) dL_best_130 (by decide) ⟨by omega, by omega⟩ (fun c_130 => by exfalso; omega) (fun c_130 => ?_)
        refine lv_iconst (v := nZ 1) hX hB dL_best_133 rfl ?_
        refine lv_goto (tgt := 138) hX hB dL_best_134 (by decide) ?_
        refine lv_istore (lv' := [(8, .int (nZ 1)), (7, .int (nZ 0)), (4, .long (nL (printB B))), (3, .int (nZ bt)), (0, .ref h), (1, .int (nZ x1)), (2, .int (nZ x2)), (6, .int (nZ on)), (9, .int (nZ (↑bd : Int)))]) hX hB dL_best_138 hl (by decide) rfl (fun ls hl => ?_)
        refine lv_iconst (v := nZ 0) hX hB dL_best_140 rfl ?_
        refine lv_istore (lv' := [(9, .int (nZ 0)), (8, .int (nZ 1)), (7, .int (nZ 0)), (4, .long (nL (printB B))), (3, .int (nZ bt)), (0, .ref h), (1, .int (nZ x1)), (2, .int (nZ x2)), (6, .int (nZ on))]) hX hB dL_best_141 hl (by decide) rfl (fun ls hl => ?_)
        refine zLoop (σ := Nat × Int × va_W) (fun (x : Nat × Int × va_W) (H : Heap) (locs : List Loc) (ls : Array Slot) => match x with | (bd, tw, xs) => (bd ≤ 9) ∧ (tw = sumTo (fun b => ownR (chB B127) (B127.1 1) (b : Int) (cleanB B127 (b : Int)) - othR (chB B127) (B127.1 1) (b : Int) (cleanB B127 (b : Int))) bd) ∧ (isX k h (B127, S127, K, T) xs) ∧ va_P D vwCl xs H ∧ va_D A xs ∧ va_S A s9.heap H locs ∧ lv_has ls 10 [(8, .int (nZ 1)), (4, .long (nL (printB B))), (3, .int (nZ bt)), (0, .ref h), (1, .int (nZ x1)), (2, .int (nZ x2)), (6, .int (nZ on)), (7, .int (nZ tw)), (9, .int (nZ (↑bd : Int)))]) (fun (x : Nat × Int × va_W) => match x with | (bd, tw, xs) => 9 - bd) ?_ (0, 0, xs) ⟨(by omega), (by rfl), (by exact hx), hP, hD, hS, (lv_sub hl [1, 3, 4, 5, 6, 7, 8, 2, 0] rfl)⟩
        rintro ⟨bd, tw, xs⟩ H locs ls ⟨hbd, htw, hx, hP, hD, hS, hl⟩ ih_143
        refine lv_iload hX hB dL_best_143 (lv_at hl 8 rfl) ?_
        refine lv_bipush (v := nZ 9) hX hB dL_best_145 (by decide) ?_
        refine zz_icmp_ge X (tgt := 176) dL_best_147 (by decide) ⟨by omega, by omega⟩ ⟨by omega, by omega⟩ (fun c_147 => ?_) (fun c_147 => ?_)
        · have htw9 : tw = leadC B (1000 * x1 + x2) := by rw [htw, show bd = 9 by omega, ← lead_at, hlc127]
          have htwr : -9000 ≤ tw ∧ tw ≤ 9000 := by rw [htw, show bd = 9 by omega]; exact hle127
          have hcmp := hbb (1000 * x1 + x2) ⟨by omega, by omega, by omega, by omega⟩
          rw [← hon9, ← htw9] at hcmp
          refine lv_iload hX hB dL_best_176 (lv_at hl 0 rfl) ?_
          refine zz_if_eq X (tgt := 230) dL_best_178 (by decide) ⟨by omega, by omega⟩ (fun c_178 => by exfalso; omega) (fun c_178 => ?_)
          refine lv_sipush (v := nZ 1000) hX hB dL_best_181 (by decide) ?_
          refine lv_iload_n hX hB dL_best_184 rfl (lv_at hl 4 rfl) ?_
          refine zz_imul X dL_best_185 (z := (1000 * x1)) (by first | rfl | omega) ?_
          refine lv_iload_n hX hB dL_best_186 rfl (lv_at hl 5 rfl) ?_
          refine zz_iadd X dL_best_187 (z := ((1000 * x1) + x2)) (by first | rfl | omega) ?_
          refine lv_iload_n hX hB dL_best_188 rfl (lv_at hl 2 rfl) ?_
          refine zz_icmp_ge X (tgt := 202) dL_best_189 (by decide) ⟨by omega, by omega⟩ ⟨by omega, by omega⟩ (fun c_189 => ?_) (fun c_189 => ?_)
          · refine lv_iload hX hB dL_best_202 (lv_at hl 7 rfl) ?_
            refine lv_iload hX hB dL_best_204 (lv_at hl 6 rfl) ?_
            refine zz_icmp_gt X (tgt := 230) dL_best_206 (by decide) ⟨by omega, by omega⟩ ⟨by omega, by omega⟩ (fun c_206 => by exfalso; omega) (fun c_206 => ?_)
            refine lv_aload_n hX hB dL_best_209 rfl (lv_at hl 3 rfl) ?_
            have hSl210 : 0 < S127.length := by rw [← hS127]; exact saveL_pos _ _
            have hSm210 : S127.length ≤ 6 := hG127.1.2.2.2
            obtain ⟨S210, hS210⟩ : ∃ z, S127.dropLast = z := ⟨_, rfl⟩
            refine zc1n (zRunW (As := [.ref h]) X mw_undo (wc_undo l D k h B127 S127 K T xs hG127.1 hx B (by rw [← hS127]; exact saveL_last _ _) ((S127.length : Int) - 1) (rfl) B (rfl) S210 hS210 _) zw_299 (zPre1 hP hD hK) rfl hl (Nat.le_of_ble_eq_true rfl) dL_best_210 ⟨rfl, rfl, ⟨Nat.le_of_ble_eq_true rfl, Nat.le_of_ble_eq_true rfl⟩, Nat.le_of_ble_eq_true rfl, Nat.le_of_ble_eq_true rfl⟩ rfl) hS hP hD hA (fun r xs H locs hpost hP hD hS => ?_)
            obtain ⟨rfl, hx⟩ := hpost
            have hG210 : goodT N (B, S210, K, T) := by rw [← hS210, ← hS127]; exact hG118.back
            refine zz_if_lt X (tgt := 230) dL_best_213 (by decide) ⟨by omega, by omega⟩ (fun c_213 => by exfalso; omega) (fun c_213 => ?_)
            refine lv_aload_n hX hB dL_best_216 rfl (lv_at hl 3 rfl) ?_
            refine zcL1n (zRunS (As := [.ref h]) X ms_L_print (c_L_print l D k h B S210 K T xs N ⟨by omega, by omega⟩ hG210 hx  _) zw_161 (zPre1 hP hD hK) rfl hl (Nat.le_of_ble_eq_true rfl) dL_best_217 ⟨rfl, rfl, ⟨Nat.le_of_ble_eq_true rfl, Nat.le_of_ble_eq_true rfl⟩, Nat.le_of_ble_eq_true rfl, Nat.le_of_ble_eq_true rfl⟩ rfl) hS hP hD hA (fun r xs H locs hpost hP hD hS => ?_)
            obtain ⟨rfl, hx⟩ := hpost
            refine lv_lload hX hB dL_best_220 (lv_at hl 1 rfl) ?_
            refine zs_lcmp X (rfl) dL_best_222 ?_
            refine zz_if_ne X (tgt := 230) dL_best_223 (by decide) ⟨by omega, by omega⟩ (fun c_223 => by exfalso; omega) (fun c_223 => ?_)
            refine lv_iconst (v := nZ 1) hX hB dL_best_226 rfl ?_
            refine lv_goto (tgt := 231) hX hB dL_best_227 (by decide) ?_
            exact zRetZ xs X hP hD hS (Or.inr rfl) rfl ⟨rfl, S210, hG210, hx⟩ dL_best_231
          · refine lv_iload hX hB dL_best_192 (lv_at hl 7 rfl) ?_
            refine lv_iload hX hB dL_best_194 (lv_at hl 6 rfl) ?_
            refine zz_icmp_ge X (tgt := 230) dL_best_196 (by decide) ⟨by omega, by omega⟩ ⟨by omega, by omega⟩ (fun c_196 => by exfalso; omega) (fun c_196 => ?_)
            refine lv_goto (tgt := 209) hX hB dL_best_199 (by decide) ?_
            refine lv_aload_n hX hB dL_best_209 rfl (lv_at hl 3 rfl) ?_
            have hSl210 : 0 < S127.length := by rw [← hS127]; exact saveL_pos _ _
            have hSm210 : S127.length ≤ 6 := hG127.1.2.2.2
            obtain ⟨S210, hS210⟩ : ∃ z, S127.dropLast = z := ⟨_, rfl⟩
            refine zc1n (zRunW (As := [.ref h]) X mw_undo (wc_undo l D k h B127 S127 K T xs hG127.1 hx B (by rw [← hS127]; exact saveL_last _ _) ((S127.length : Int) - 1) (rfl) B (rfl) S210 hS210 _) zw_299 (zPre1 hP hD hK) rfl hl (Nat.le_of_ble_eq_true rfl) dL_best_210 ⟨rfl, rfl, ⟨Nat.le_of_ble_eq_true rfl, Nat.le_of_ble_eq_true rfl⟩, Nat.le_of_ble_eq_true rfl, Nat.le_of_ble_eq_true rfl⟩ rfl) hS hP hD hA (fun r xs H locs hpost hP hD hS => ?_)
            obtain ⟨rfl, hx⟩ := hpost
            have hG210 : goodT N (B, S210, K, T) := by rw [← hS210, ← hS127]; exact hG118.back
            refine zz_if_lt X (tgt := 230) dL_best_213 (by decide) ⟨by omega, by omega⟩ (fun c_213 => by exfalso; omega) (fun c_213 => ?_)
            refine lv_aload_n hX hB dL_best_216 rfl (lv_at hl 3 rfl) ?_
            refine zcL1n (zRunS (As := [.ref h]) X ms_L_print (c_L_print l D k h B S210 K T xs N ⟨by omega, by omega⟩ hG210 hx  _) zw_161 (zPre1 hP hD hK) rfl hl (Nat.le_of_ble_eq_true rfl) dL_best_217 ⟨rfl, rfl, ⟨Nat.le_of_ble_eq_true rfl, Nat.le_of_ble_eq_true rfl⟩, Nat.le_of_ble_eq_true rfl, Nat.le_of_ble_eq_true rfl⟩ rfl) hS hP hD hA (fun r xs H locs hpost hP hD hS => ?_)
            obtain ⟨rfl, hx⟩ := hpost
            refine lv_lload hX hB dL_best_220 (lv_at hl 1 rfl) ?_
            refine zs_lcmp X (rfl) dL_best_222 ?_
            refine zz_if_ne X (tgt := 230) dL_best_223 (by decide) ⟨by omega, by omega⟩ (fun c_223 => by exfalso; omega) (fun c_223 => ?_)
            refine lv_iconst (v := nZ 1) hX hB dL_best_226 rfl ?_
            refine lv_goto (tgt := 231) hX hB dL_best_227 (by decide) ?_
            exact zRetZ xs X hP hD hS (Or.inr rfl) rfl ⟨rfl, S210, hG210, hx⟩ dL_best_231
        · refine lv_iload hX hB dL_best_150 (lv_at hl 7 rfl) ?_
          refine lv_aload_n hX hB dL_best_152 rfl (lv_at hl 3 rfl) ?_
          refine lv_iload hX hB dL_best_153 (lv_at hl 8 rfl) ?_
          refine lv_iconst (v := nZ 3) hX hB dL_best_155 rfl ?_
          refine zc1n (zRunW (As := [.ref h, .int (nZ (↑bd : Int)), .int (nZ 3)]) X mw_bedOf (wc_bedOf l D k h B127 S127 K T xs hG127.1 hx (↑bd : Int) 3 ⟨by omega, by omega⟩ ⟨by omega, by omega⟩ (ownR (chB B127) (B127.1 1) (↑bd : Int) (cleanB B127 (↑bd : Int))) (rfl)  _) zw_96 (zPre1 hP hD hK) rfl hl (Nat.le_of_ble_eq_true rfl) dL_best_156 ⟨rfl, rfl, ⟨Nat.le_of_ble_eq_true rfl, Nat.le_of_ble_eq_true rfl⟩, Nat.le_of_ble_eq_true rfl, Nat.le_of_ble_eq_true rfl⟩ rfl) hS hP hD hA (fun r xs H locs hpost hP hD hS => ?_)
          obtain ⟨rfl, hx⟩ := hpost
          refine lv_aload_n hX hB dL_best_159 rfl (lv_at hl 3 rfl) ?_
          refine lv_iload hX hB dL_best_160 (lv_at hl 8 rfl) ?_
          refine lv_iconst (v := nZ 4) hX hB dL_best_162 rfl ?_
          refine zc1n (zRunW (As := [.ref h, .int (nZ (↑bd : Int)), .int (nZ 4)]) X mw_bedOf (wc_bedOf l D k h B127 S127 K T xs hG127.1 hx (↑bd : Int) 4 ⟨by omega, by omega⟩ ⟨by omega, by omega⟩ (othR (chB B127) (B127.1 1) (↑bd : Int) (cleanB B127 (↑bd : Int))) (rfl)  _) zw_96 (zPre1 hP hD hK) rfl hl (Nat.le_of_ble_eq_true rfl) dL_best_163 ⟨rfl, rfl, ⟨Nat.le_of_ble_eq_true rfl, Nat.le_of_ble_eq_true rfl⟩, Nat.le_of_ble_eq_true rfl, Nat.le_of_ble_eq_true rfl⟩ rfl) hS hP hD hA (fun r xs H locs hpost hP hD hS => ?_)
          obtain ⟨rfl, hx⟩ := hpost
          refine zz_isub X dL_best_166 (z := ((ownR (chB B127) (B127.1 1) (↑bd : Int) (cleanB B127 (↑bd : Int))) - (othR (chB B127) (B127.1 1) (↑bd : Int) (cleanB B127 (↑bd : Int))))) (by first | rfl | omega) ?_
          refine zz_iadd X dL_best_167 (z := (tw + ((ownR (chB B127) (B127.1 1) (↑bd : Int) (cleanB B127 (↑bd : Int))) - (othR (chB B127) (B127.1 1) (↑bd : Int) (cleanB B127 (↑bd : Int)))))) (by first | rfl | omega) ?_
          refine lv_istore (lv' := [(7, .int (nZ (tw + ((ownR (chB B127) (B127.1 1) (↑bd : Int) (cleanB B127 (↑bd : Int))) - (othR (chB B127) (B127.1 1) (↑bd : Int) (cleanB B127 (↑bd : Int))))))), (8, .int (nZ 1)), (4, .long (nL (printB B))), (3, .int (nZ bt)), (0, .ref h), (1, .int (nZ x1)), (2, .int (nZ x2)), (6, .int (nZ on)), (9, .int (nZ (↑bd : Int)))]) hX hB dL_best_168 hl (by decide) rfl (fun ls hl => ?_)
          refine lv_iinc (v := nZ (↑(bd + 1) : Int)) (lv' := [(9, .int (nZ (↑(bd + 1) : Int))), (7, .int (nZ (tw + ((ownR (chB B127) (B127.1 1) (↑bd : Int) (cleanB B127 (↑bd : Int))) - (othR (chB B127) (B127.1 1) (↑bd : Int) (cleanB B127 (↑bd : Int))))))), (8, .int (nZ 1)), (4, .long (nL (printB B))), (3, .int (nZ bt)), (0, .ref h), (1, .int (nZ x1)), (2, .int (nZ x2)), (6, .int (nZ on))]) hX hB dL_best_170 hl (k := 8) rfl (zinc (by omega)) (by decide) rfl (fun ls hl => ?_)
          refine lv_goto (tgt := 143) hX hB dL_best_173 (by decide) ?_
          exact ih_143 ((bd + 1), (tw + ((ownR (chB B127) (B127.1 1) (↑bd : Int) (cleanB B127 (↑bd : Int))) - (othR (chB B127) (B127.1 1) (↑bd : Int) (cleanB B127 (↑bd : Int))))), xs) _ _ _ ⟨(by omega), (by rw [htw]; rfl), (by exact hx), hP, hD, hS, (lv_sub hl [2, 3, 4, 5, 6, 7, 8, 1, 0] rfl)⟩ (by dsimp only; omega)
      · refine lv_iload hX hB dL_best_86 (lv_at hl 7 rfl) ?_
        refine lv_aload_n hX hB dL_best_88 rfl (lv_at hl 4 rfl) ?_
        refine lv_iload hX hB dL_best_89 (lv_at hl 8 rfl) ?_
        refine lv_iconst (v := nZ 3) hX hB dL_best_91 rfl ?_
        refine zc1n (zRunW (As := [.ref h, .int (nZ (↑bd : Int)), .int (nZ 3)]) X mw_bedOf (wc_bedOf l D k h B63 S63 K T xs hG63.1 hx (↑bd : Int) 3 ⟨by omega, by omega⟩ ⟨by omega, by omega⟩ (ownR (chB B63) (B63.1 1) (↑bd : Int) (cleanB B63 (↑bd : Int))) (rfl)  _) zw_96 (zPre1 hP hD hK) rfl hl (Nat.le_of_ble_eq_true rfl) dL_best_92 ⟨rfl, rfl, ⟨Nat.le_of_ble_eq_true rfl, Nat.le_of_ble_eq_true rfl⟩, Nat.le_of_ble_eq_true rfl, Nat.le_of_ble_eq_true rfl⟩ rfl) hS hP hD hA (fun r xs H locs hpost hP hD hS => ?_)
        obtain ⟨rfl, hx⟩ := hpost
        refine lv_aload_n hX hB dL_best_95 rfl (lv_at hl 4 rfl) ?_
        refine lv_iload hX hB dL_best_96 (lv_at hl 8 rfl) ?_
        refine lv_iconst (v := nZ 4) hX hB dL_best_98 rfl ?_
        refine zc1n (zRunW (As := [.ref h, .int (nZ (↑bd : Int)), .int (nZ 4)]) X mw_bedOf (wc_bedOf l D k h B63 S63 K T xs hG63.1 hx (↑bd : Int) 4 ⟨by omega, by omega⟩ ⟨by omega, by omega⟩ (othR (chB B63) (B63.1 1) (↑bd : Int) (cleanB B63 (↑bd : Int))) (rfl)  _) zw_96 (zPre1 hP hD hK) rfl hl (Nat.le_of_ble_eq_true rfl) dL_best_99 ⟨rfl, rfl, ⟨Nat.le_of_ble_eq_true rfl, Nat.le_of_ble_eq_true rfl⟩, Nat.le_of_ble_eq_true rfl, Nat.le_of_ble_eq_true rfl⟩ rfl) hS hP hD hA (fun r xs H locs hpost hP hD hS => ?_)
        obtain ⟨rfl, hx⟩ := hpost
        refine zz_isub X dL_best_102 (z := ((ownR (chB B63) (B63.1 1) (↑bd : Int) (cleanB B63 (↑bd : Int))) - (othR (chB B63) (B63.1 1) (↑bd : Int) (cleanB B63 (↑bd : Int))))) (by first | rfl | omega) ?_
        refine zz_iadd X dL_best_103 (z := (on + ((ownR (chB B63) (B63.1 1) (↑bd : Int) (cleanB B63 (↑bd : Int))) - (othR (chB B63) (B63.1 1) (↑bd : Int) (cleanB B63 (↑bd : Int)))))) (by first | rfl | omega) ?_
        refine lv_istore (lv' := [(6, .int (nZ (on + ((ownR (chB B63) (B63.1 1) (↑bd : Int) (cleanB B63 (↑bd : Int))) - (othR (chB B63) (B63.1 1) (↑bd : Int) (cleanB B63 (↑bd : Int))))))), (8, .int (nZ 1)), (7, .int (nZ 0)), (4, .long (nL (printB B))), (3, .int (nZ bt)), (0, .ref h), (1, .int (nZ x1)), (2, .int (nZ x2)), (9, .int (nZ (↑bd : Int)))]) hX hB dL_best_104 hl (by decide) rfl (fun ls hl => ?_)
        refine lv_iinc (v := nZ (↑(bd + 1) : Int)) (lv' := [(9, .int (nZ (↑(bd + 1) : Int))), (6, .int (nZ (on + ((ownR (chB B63) (B63.1 1) (↑bd : Int) (cleanB B63 (↑bd : Int))) - (othR (chB B63) (B63.1 1) (↑bd : Int) (cleanB B63 (↑bd : Int))))))), (8, .int (nZ 1)), (7, .int (nZ 0)), (4, .long (nL (printB B))), (3, .int (nZ bt)), (0, .ref h), (1, .int (nZ x1)), (2, .int (nZ x2))]) hX hB dL_best_106 hl (k := 8) rfl (zinc (by omega)) (by decide) rfl (fun ls hl => ?_)
        refine lv_goto (tgt := 79) hX hB dL_best_109 (by decide) ?_
        exact ih_79 ((bd + 1), (on + ((ownR (chB B63) (B63.1 1) (↑bd : Int) (cleanB B63 (↑bd : Int))) - (othR (chB B63) (B63.1 1) (↑bd : Int) (cleanB B63 (↑bd : Int))))), xs) _ _ _ ⟨(by omega), (by rw [hon]; rfl), (by exact hx), hP, hD, hS, (lv_sub hl [2, 3, 4, 5, 6, 7, 8, 1, 0] rfl)⟩ (by dsimp only; omega)
    · refine lv_iload_n hX hB dL_best_23 rfl (lv_at hl 0 rfl) ?_
      refine zz_if_le X (tgt := 38) dL_best_24 (by decide) ⟨by omega, by omega⟩ (fun c_24 => by exfalso; omega) (fun c_24 => ?_)
      refine lv_iload_n hX hB dL_best_27 rfl (lv_at hl 0 rfl) ?_
      refine lv_sipush (v := nZ 2150) hX hB dL_best_28 (by decide) ?_
      refine zz_icmp_gt X (tgt := 38) dL_best_31 (by decide) ⟨by omega, by omega⟩ ⟨by omega, by omega⟩ (fun c_31 => by exfalso; omega) (fun c_31 => ?_)
      refine lv_iconst (v := nZ 1) hX hB dL_best_34 rfl ?_
      refine lv_goto (tgt := 39) hX hB dL_best_35 (by decide) ?_
      refine W.widen (k := 20) (n := 220) (by decide) (by decide) ?_
      exact zRetZ xs X hP hD hS (Or.inr rfl) rfl ⟨rfl, S, hG, hx⟩ dL_best_39
