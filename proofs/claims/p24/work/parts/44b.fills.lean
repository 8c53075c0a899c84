/-! the least strength -/
theorem str_at {cost bed v m : Int} {L : List Int} (h : strS cost L bed = m) (hv : 1 ≤ v ∧ v ≤ 150) (hc : m = -1 ∨ v ≤ m) : (v = m ∧ cleanS bed L < cleanS bed (restL cost v L)) ∨ (v ≠ m ∧ cleanS bed (restL cost v L) ≤ cleanS bed L) := by
  rcases str_spec (cost := cost) (L := L) (bed := bed) with ⟨q, q1⟩ | ⟨q1, q2, q3, q4⟩
  · rw [h] at q
    exact Or.inr ⟨by omega, q1 v hv.1 hv.2⟩
  · rw [h] at q1 q2 q3 q4
    by_cases e : v = m
    · subst e
      exact Or.inl ⟨rfl, q3⟩
    · exact Or.inr ⟨e, q4 v hv.1 (by omega)⟩
theorem str_rng {cost bed m : Int} {L : List Int} (h : strS cost L bed = m) : m = -1 ∨ (1 ≤ m ∧ m ≤ 150) := by
  rcases str_spec (cost := cost) (L := L) (bed := bed) with ⟨q, q1⟩ | ⟨q1, q2, q3, q4⟩
  · exact Or.inl (h ▸ q)
  · rw [h] at q1 q2
    exact Or.inr ⟨q1, q2⟩
theorem made_at (B : Bd) : madeB B = sumTo (fun b => ownR (chB B) (B.1 1) (b : Int) (cleanB B (b : Int)) + othR (chB B) (B.1 1) (b : Int) (cleanB B (b : Int))) 9 := rfl
theorem lead_at (B : Bd) : leadG B = sumTo (fun b => ownR (chB B) (B.1 1) (b : Int) (cleanB B (b : Int)) - othR (chB B) (B.1 1) (b : Int) (cleanB B (b : Int))) 9 := rfl
theorem good_lead {B : Bd} (h : bdGood B) : -9000 ≤ leadG B ∧ leadG B ≤ 9000 := leadG_rng h.2.2.2.2.1 h.2.1 (fun j hj => chain_len (good_ch h hj))
theorem end_sum {B C : Bd} (hp : 0 ≤ B.1 1 ∧ B.1 1 ≤ 1) (h : endF B = C) : (B.1 3 = 0 → chSum (chB C) 0 + chSum (chB C) 1 = chSum (chB B) 0 + chSum (chB B) 1 + madeB B ∧ coinsB C = 0) ∧ (B.1 3 ≠ 0 → chSum (chB C) 0 + chSum (chB C) 1 = chSum (chB B) 0 + chSum (chB B) 1) := by
  subst h
  unfold endF
  refine ⟨fun q => ?_, fun q => ?_⟩
  · rw [if_pos q]
    exact ⟨close_made hp, rfl⟩
  · rw [if_neg q, refuse_chB]
theorem ms_L_fills : zMS yL_fills cL_fills 10 (some .boolean) 4 := ⟨zw_395, zw_68, ⟨by decide +kernel, by decide +kernel, by decide +kernel⟩, zw_394⟩
set_option maxHeartbeats 2000000 in
set_option maxRecDepth 100000 in
theorem c_L_fills (l : Launch) (D : va_G) (k : Nat → ClassId) (h : Nat) (B : Bd) (S : List Bd) (K : Nat → Option Bd) (T : List Int) (xs : va_W) (N : Int) (hN : 0 ≤ N ∧ N < 900000) (hG : goodT N (B, S, K, T)) (hx : isX k h (B, S, K, T) xs) (x1 x2 x3 : Int) (h1 : 0 ≤ x1 ∧ x1 ≤ 2) (h2 : 0 ≤ x2 ∧ x2 ≤ 8) (h3x : 1 ≤ x3 ∧ x3 ≤ 150)  : ∀ sz, Met l yL_fills (zW yL_fills cL_fills 10 (some .boolean)) ({ frames := 11, cells := 10, slots := 110, locals := 360 } : Room) (va_Pc [.ref h, .int (nZ x1), .int (nZ x2), .int (nZ x3)] (zIn D k sz xs)) (va_Qi (fun (r : Int32) (u : va_W) => r = nZ 1 ∧ ∃ S2, goodT N (B, S2, K, T) ∧ isX k h (B, S2, K, T) u) (fun u => zOut D (va_A xs sz) u) (va_A xs sz)) 10 110 (va_A xs sz) := by
  intro sz
  refine zEnter (Qf := fun A => va_Qi (fun (r : Int32) (u : va_W) => r = nZ 1 ∧ ∃ S2, goodT N (B, S2, K, T) ∧ isX k h (B, S2, K, T) u) (fun u => zOut D A u) A) RL (by decide) rfl (Nat.le_of_ble_eq_true rfl) ?_
  intro p9 e9 s9 m9 be9 me9 c9 ls A X hin hP hD hS hA hAe hl
  have hX := X.1; have hB := X.2.1; have hz := X.2.2.2.2.1; have hW := X.2.2.2.2.2.1; have hK := X.2.2.2.2.2.2.2; clear hAe; clear hin
  have hl : lv_has ls 10 [(0, .ref h), (1, .int (nZ x1)), (2, .int (nZ x2)), (3, .int (nZ x3))] := hl
  have hBg : bdGood B := hG.1.1
  obtain ⟨w0, w1, w2, w3, w4, hC0, hC1, hC2⟩ := id hBg
  obtain ⟨lst, hls⟩ : ∃ v, strS (B.1 0) (B.2 x1.toNat) x2 = v := ⟨_, rfl⟩
  have hlr := str_rng hls
  obtain ⟨cb, hcb⟩ : ∃ z, cleanB B x2 = z := ⟨_, rfl⟩
  have hk1 := clean_three hBg (b := x2) ⟨h2.1, by omega⟩
  rw [hcb] at hk1
  refine lv_aload_n hX hB dL_fills_0 rfl (lv_at hl 0 rfl) ?_
  refine lv_iload_n hX hB dL_fills_1 rfl (lv_at hl 1 rfl) ?_
  refine lv_iload_n hX hB dL_fills_2 rfl (lv_at hl 2 rfl) ?_
  refine zc1n (zRunW (As := [.ref h, .int (nZ x1), .int (nZ x2)]) X mw_strengthFor (wc_strengthFor l D k h B S K T xs hG.1 hx x1 x2 ⟨by omega, by omega⟩ ⟨by omega, by omega⟩ lst (hls)  _) zw_396 (zPre1 hP hD hK) rfl hl (Nat.le_of_ble_eq_true rfl) dL_fills_3 ⟨rfl, rfl, ⟨Nat.le_of_ble_eq_true rfl, Nat.le_of_ble_eq_true rfl⟩, Nat.le_of_ble_eq_true rfl, Nat.le_of_ble_eq_true rfl⟩ rfl) hS hP hD hA (fun r xs H locs hpost hP hD hS => ?_)
  obtain ⟨rfl, hx⟩ := hpost
  refine lv_istore (lv' := [(4, .int (nZ lst)), (0, .ref h), (1, .int (nZ x1)), (2, .int (nZ x2)), (3, .int (nZ x3))]) hX hB dL_fills_6 hl (by decide) rfl (fun ls hl => ?_)
  refine lv_aload_n hX hB dL_fills_8 rfl (lv_at hl 1 rfl) ?_
  refine lv_iload_n hX hB dL_fills_9 rfl (lv_at hl 3 rfl) ?_
  refine lv_iconst (v := nZ 0) hX hB dL_fills_10 rfl ?_
  refine zc1n (zRunW (As := [.ref h, .int (nZ x2), .int (nZ 0)]) X mw_bedOf (wc_bedOf l D k h B S K T xs hG.1 hx x2 0 ⟨by omega, by omega⟩ ⟨by omega, by omega⟩ cb (hcb)  _) zw_96 (zPre1 hP hD hK) rfl hl (Nat.le_of_ble_eq_true rfl) dL_fills_11 ⟨rfl, rfl, ⟨Nat.le_of_ble_eq_true rfl, Nat.le_of_ble_eq_true rfl⟩, Nat.le_of_ble_eq_true rfl, Nat.le_of_ble_eq_true rfl⟩ rfl) hS hP hD hA (fun r xs H locs hpost hP hD hS => ?_)
  obtain ⟨rfl, hx⟩ := hpost
  refine lv_istore (lv' := [(5, .int (nZ cb)), (4, .int (nZ lst)), (0, .ref h), (1, .int (nZ x1)), (2, .int (nZ x2)), (3, .int (nZ x3))]) hX hB dL_fills_14 hl (by decide) rfl (fun ls hl => ?_)
  refine lv_aload_n hX hB dL_fills_16 rfl (lv_at hl 2 rfl) ?_
  refine zcL1n (zRunS (As := [.ref h]) X ms_L_print (c_L_print l D k h B S K T xs N ⟨by omega, by omega⟩ hG hx  _) zw_161 (zPre1 hP hD hK) rfl hl (Nat.le_of_ble_eq_true rfl) dL_fills_17 ⟨rfl, rfl, ⟨Nat.le_of_ble_eq_true rfl, Nat.le_of_ble_eq_true rfl⟩, Nat.le_of_ble_eq_true rfl, Nat.le_of_ble_eq_true rfl⟩ rfl) hS hP hD hA (fun r xs H locs hpost hP hD hS => ?_)
  obtain ⟨rfl, hx⟩ := hpost
  refine lv_lstore (lv' := [(6, .long (nL (printB B))), (5, .int (nZ cb)), (4, .int (nZ lst)), (0, .ref h), (1, .int (nZ x1)), (2, .int (nZ x2)), (3, .int (nZ x3))]) hX hB dL_fills_20 hl (by decide) rfl (fun ls hl => ?_)
  refine lv_aload_n hX hB dL_fills_22 rfl (lv_at hl 3 rfl) ?_
  refine lv_bipush (v := nZ 6) hX hB dL_fills_23 (by decide) ?_
  refine zc1n (zRunW (As := [.ref h, .int (nZ 6)]) X mw_count (wc_count l D k h B S K T xs hG.1 hx 6 ⟨by omega, by omega⟩ (B.1 3) (rfl)  _) zw_130 (zPre1 hP hD hK) rfl hl (Nat.le_of_ble_eq_true rfl) dL_fills_25 ⟨rfl, rfl, ⟨Nat.le_of_ble_eq_true rfl, Nat.le_of_ble_eq_true rfl⟩, Nat.le_of_ble_eq_true rfl, Nat.le_of_ble_eq_true rfl⟩ rfl) hS hP hD hA (fun r xs H locs hpost hP hD hS => ?_)
  obtain ⟨rfl, hx⟩ := hpost
  refine zz_if_gt X (tgt := 40) dL_fills_28 (by decide) ⟨by omega, by omega⟩ (fun c_28 => ?_) (fun c_28 => ?_)
  · refine lv_iload hX hB dL_fills_40 (lv_at hl 2 rfl) ?_
    refine lv_iconst (v := nZ (-1)) hX hB dL_fills_42 rfl ?_
    refine zz_icmp_eq X (tgt := 59) dL_fills_43 (by decide) ⟨by omega, by omega⟩ ⟨by omega, by omega⟩ (fun c_43 => ?_) (fun c_43 => ?_)
    · refine lv_iconst (v := nZ 1) hX hB dL_fills_59 rfl ?_
      refine lv_goto (tgt := 64) hX hB dL_fills_60 (by decide) ?_
      refine W.widen (k := 10) (n := 110) (by decide) (by decide) ?_
      exact zRetZ xs X hP hD hS (Or.inr rfl) rfl ⟨rfl, S, hG, hx⟩ dL_fills_64
    · refine lv_iload hX hB dL_fills_46 (lv_at hl 2 rfl) ?_
      refine zz_if_le X (tgt := 63) dL_fills_48 (by decide) ⟨by omega, by omega⟩ (fun c_48 => by exfalso; omega) (fun c_48 => ?_)
      refine lv_iload hX hB dL_fills_51 (lv_at hl 2 rfl) ?_
      refine lv_sipush (v := nZ 150) hX hB dL_fills_53 (by decide) ?_
      refine zz_icmp_gt X (tgt := 63) dL_fills_56 (by decide) ⟨by omega, by omega⟩ ⟨by omega, by omega⟩ (fun c_56 => by exfalso; omega) (fun c_56 => ?_)
      refine lv_iconst (v := nZ 1) hX hB dL_fills_59 rfl ?_
      refine lv_goto (tgt := 64) hX hB dL_fills_60 (by decide) ?_
      refine W.widen (k := 10) (n := 110) (by decide) (by decide) ?_
      exact zRetZ xs X hP hD hS (Or.inr rfl) rfl ⟨rfl, S, hG, hx⟩ dL_fills_64
  · refine lv_aload_n hX hB dL_fills_31 rfl (lv_at hl 3 rfl) ?_
    refine lv_iconst (v := nZ 1) hX hB dL_fills_32 rfl ?_
    refine zc1n (zRunW (As := [.ref h, .int (nZ 1)]) X mw_count (wc_count l D k h B S K T xs hG.1 hx 1 ⟨by omega, by omega⟩ (B.1 2) (rfl)  _) zw_130 (zPre1 hP hD hK) rfl hl (Nat.le_of_ble_eq_true rfl) dL_fills_33 ⟨rfl, rfl, ⟨Nat.le_of_ble_eq_true rfl, Nat.le_of_ble_eq_true rfl⟩, Nat.le_of_ble_eq_true rfl, Nat.le_of_ble_eq_true rfl⟩ rfl) hS hP hD hA (fun r xs H locs hpost hP hD hS => ?_)
    obtain ⟨rfl, hx⟩ := hpost
    refine lv_iconst (v := nZ 4) hX hB dL_fills_36 rfl ?_
    refine zz_icmp_ne X (tgt := 65) dL_fills_37 (by decide) ⟨by omega, by omega⟩ ⟨by omega, by omega⟩ (fun c_37 => ?_) (fun c_37 => ?_)
    · refine lv_iload hX hB dL_fills_65 (lv_at hl 2 rfl) ?_
      refine lv_iconst (v := nZ (-1)) hX hB dL_fills_67 rfl ?_
      refine zz_icmp_ne X (tgt := 75) dL_fills_68 (by decide) ⟨by omega, by omega⟩ ⟨by omega, by omega⟩ (fun c_68 => ?_) (fun c_68 => ?_)
      · refine lv_iload_n hX hB dL_fills_75 rfl (lv_at hl 6 rfl) ?_
        refine lv_iload hX hB dL_fills_76 (lv_at hl 2 rfl) ?_
        refine zz_icmp_ge X (tgt := 85) dL_fills_78 (by decide) ⟨by omega, by omega⟩ ⟨by omega, by omega⟩ (fun c_78 => ?_) (fun c_78 => ?_)
        · refine lv_iload hX hB dL_fills_85 (lv_at hl 2 rfl) ?_
          refine lv_istore (lv' := [(8, .int (nZ lst)), (6, .long (nL (printB B))), (5, .int (nZ cb)), (4, .int (nZ lst)), (0, .ref h), (1, .int (nZ x1)), (2, .int (nZ x2)), (3, .int (nZ x3))]) hX hB dL_fills_87 hl (by decide) rfl (fun ls hl => ?_)
          refine lv_aload_n hX hB dL_fills_89 rfl (lv_at hl 4 rfl) ?_
          refine lv_iload_n hX hB dL_fills_90 rfl (lv_at hl 5 rfl) ?_
          refine lv_iload hX hB dL_fills_91 (lv_at hl 0 rfl) ?_
          have h3 : B.1 3 = 0 := by omega
          obtain ⟨nd93, hnd93⟩ : ∃ v, nudS (B.1 0) lst (B.2 x1.toNat) = v := ⟨_, rfl⟩
          have hnr93 := nud_rng hBg (j := x1.toNat) (by omega) lst
          rw [hnd93] at hnr93
          obtain ⟨B93, hB93⟩ : ∃ z, pushF B x1.toNat lst = z := ⟨_, rfl⟩
          obtain ⟨S93, hS93⟩ : ∃ z, saveL S B = z := ⟨_, rfl⟩
          refine zc1 (zRunW (As := [.ref h, .int (nZ x1), .int (nZ lst)]) X mw_push (wc_push l D k h B S K T xs hG.1 hx x1 lst ⟨by omega, by omega⟩ ⟨by omega, by omega⟩ nd93 ((by rw [if_pos h3]; exact hnd93)) B93 hB93 S93 hS93 _) zw_239 (zPre1 hP hD hK) rfl hl (Nat.le_of_ble_eq_true rfl) dL_fills_93 ⟨rfl, rfl, ⟨Nat.le_of_ble_eq_true rfl, Nat.le_of_ble_eq_true rfl⟩, Nat.le_of_ble_eq_true rfl, Nat.le_of_ble_eq_true rfl⟩ rfl) hS hP hD hA (fun r xs H locs hpost hP hD hS => ?_)
          obtain ⟨rfl, hx⟩ := hpost
          have hG93 : goodT (N + 1) (B93, S93, K, T) := by rw [← hB93, ← hS93]; exact hG.save (push_good hBg (by omega) ⟨by omega, by omega⟩) (xtra_push hG.2.1 hBg.2.1 _ _)
          have hpf : B93 = push1 B x1.toNat lst := by rw [← hB93]; exact pushF_go h3 (by omega) _ _
          have hBg93 : bdGood B93 := hG93.1.1
          obtain ⟨cb2, hcb2⟩ : ∃ z, cleanB B93 x2 = z := ⟨_, rfl⟩
          have hpc := push1_clean (B := B) (j := x1.toNat) (by omega) lst x2
          rw [← hpf, hcb2, hcb] at hpc
          have hk2 := clean_three hBg93 (b := x2) ⟨h2.1, by omega⟩
          rw [hcb2] at hk2
          have hsa := str_at hls (v := lst) ⟨by omega, by omega⟩ (by omega)
          refine W.widen (k := 10) (n := 110) (by decide) (by decide) ?_
          refine zz_if_lt X (tgt := 134) dL_fills_96 (by decide) ⟨by omega, by omega⟩ (fun c_96 => by exfalso; omega) (fun c_96 => ?_)
          refine lv_aload_n hX hB dL_fills_99 rfl (lv_at hl 4 rfl) ?_
          refine lv_iload_n hX hB dL_fills_100 rfl (lv_at hl 6 rfl) ?_
          refine lv_iconst (v := nZ 0) hX hB dL_fills_101 rfl ?_
          refine zc1n (zRunW (As := [.ref h, .int (nZ x2), .int (nZ 0)]) X mw_bedOf (wc_bedOf l D k h B93 S93 K T xs hG93.1 hx x2 0 ⟨by omega, by omega⟩ ⟨by omega, by omega⟩ cb2 (hcb2)  _) zw_96 (zPre1 hP hD hK) rfl hl (Nat.le_of_ble_eq_true rfl) dL_fills_102 ⟨rfl, rfl, ⟨Nat.le_of_ble_eq_true rfl, Nat.le_of_ble_eq_true rfl⟩, Nat.le_of_ble_eq_true rfl, Nat.le_of_ble_eq_true rfl⟩ rfl) hS hP hD hA (fun r xs H locs hpost hP hD hS => ?_)
          obtain ⟨rfl, hx⟩ := hpost
          refine lv_iload hX hB dL_fills_105 (lv_at hl 2 rfl) ?_
          refine zz_icmp_le X (tgt := 114) dL_fills_107 (by decide) ⟨by omega, by omega⟩ ⟨by omega, by omega⟩ (fun c_107 => ?_) (fun c_107 => ?_)
          · refine lv_iconst (v := nZ 0) hX hB dL_fills_114 rfl ?_
            refine lv_iload hX hB dL_fills_115 (lv_at hl 0 rfl) ?_
            refine lv_iload hX hB dL_fills_117 (lv_at hl 3 rfl) ?_
            refine zz_icmp_ne X (tgt := 126) dL_fills_119 (by decide) ⟨by omega, by omega⟩ ⟨by omega, by omega⟩ (fun c_119 => ?_) (fun c_119 => ?_)
            · refine lv_iconst (v := nZ 0) hX hB dL_fills_126 rfl ?_
              refine zz_icmp_ne X (tgt := 134) dL_fills_127 (by decide) ⟨by omega, by omega⟩ ⟨by omega, by omega⟩ (fun c_127 => by exfalso; omega) (fun c_127 => ?_)
              refine lv_iconst (v := nZ 1) hX hB dL_fills_130 rfl ?_
              refine lv_goto (tgt := 135) hX hB dL_fills_131 (by decide) ?_
              refine lv_istore (lv' := [(9, .int (nZ 1)), (8, .int (nZ lst)), (6, .long (nL (printB B))), (5, .int (nZ cb)), (4, .int (nZ lst)), (0, .ref h), (1, .int (nZ x1)), (2, .int (nZ x2)), (3, .int (nZ x3))]) hX hB dL_fills_135 hl (by decide) rfl (fun ls hl => ?_)
              refine lv_iload hX hB dL_fills_137 (lv_at hl 0 rfl) ?_
              refine zz_if_eq X (tgt := 163) dL_fills_139 (by decide) ⟨by omega, by omega⟩ (fun c_139 => by exfalso; omega) (fun c_139 => ?_)
              refine lv_aload_n hX hB dL_fills_142 rfl (lv_at hl 5 rfl) ?_
              have hSl143 : 0 < S93.length := by rw [← hS93]; exact saveL_pos _ _
              have hSm143 : S93.length ≤ 6 := hG93.1.2.2.2
              obtain ⟨S143, hS143⟩ : ∃ z, S93.dropLast = z := ⟨_, rfl⟩
              refine zc1n (zRunW (As := [.ref h]) X mw_undo (wc_undo l D k h B93 S93 K T xs hG93.1 hx B (by rw [← hS93]; exact saveL_last _ _) ((S93.length : Int) - 1) (rfl) B (rfl) S143 hS143 _) zw_299 (zPre1 hP hD hK) rfl hl (Nat.le_of_ble_eq_true rfl) dL_fills_143 ⟨rfl, rfl, ⟨Nat.le_of_ble_eq_true rfl, Nat.le_of_ble_eq_true rfl⟩, Nat.le_of_ble_eq_true rfl, Nat.le_of_ble_eq_true rfl⟩ rfl) hS hP hD hA (fun r xs H locs hpost hP hD hS => ?_)
              obtain ⟨rfl, hx⟩ := hpost
              have hG143 : goodT N (B, S143, K, T) := by rw [← hS143, ← hS93]; exact hG.back
              refine zz_if_lt X (tgt := 163) dL_fills_146 (by decide) ⟨by omega, by omega⟩ (fun c_146 => by exfalso; omega) (fun c_146 => ?_)
              refine lv_aload_n hX hB dL_fills_149 rfl (lv_at hl 5 rfl) ?_
              refine zcL1n (zRunS (As := [.ref h]) X ms_L_print (c_L_print l D k h B S143 K T xs N ⟨by omega, by omega⟩ hG143 hx  _) zw_161 (zPre1 hP hD hK) rfl hl (Nat.le_of_ble_eq_true rfl) dL_fills_150 ⟨rfl, rfl, ⟨Nat.le_of_ble_eq_true rfl, Nat.le_of_ble_eq_true rfl⟩, Nat.le_of_ble_eq_true rfl, Nat.le_of_ble_eq_true rfl⟩ rfl) hS hP hD hA (fun r xs H locs hpost hP hD hS => ?_)
              obtain ⟨rfl, hx⟩ := hpost
              refine lv_lload hX hB dL_fills_153 (lv_at hl 2 rfl) ?_
              refine zs_lcmp X (rfl) dL_fills_155 ?_
              refine zz_if_ne X (tgt := 163) dL_fills_156 (by decide) ⟨by omega, by omega⟩ (fun c_156 => by exfalso; omega) (fun c_156 => ?_)
              refine lv_iconst (v := nZ 1) hX hB dL_fills_159 rfl ?_
              refine lv_goto (tgt := 164) hX hB dL_fills_160 (by decide) ?_
              exact zRetZ xs X hP hD hS (Or.inr rfl) rfl ⟨rfl, S143, hG143, hx⟩ dL_fills_164
            · refine lv_iconst (v := nZ 1) hX hB dL_fills_122 rfl ?_
              refine lv_goto (tgt := 127) hX hB dL_fills_123 (by decide) ?_
              exfalso; omega
          · refine lv_iconst (v := nZ 1) hX hB dL_fills_110 rfl ?_
            refine lv_goto (tgt := 115) hX hB dL_fills_111 (by decide) ?_
            refine lv_iload hX hB dL_fills_115 (lv_at hl 0 rfl) ?_
            refine lv_iload hX hB dL_fills_117 (lv_at hl 3 rfl) ?_
            refine zz_icmp_ne X (tgt := 126) dL_fills_119 (by decide) ⟨by omega, by omega⟩ ⟨by omega, by omega⟩ (fun c_119 => ?_) (fun c_119 => ?_)
            · refine lv_iconst (v := nZ 0) hX hB dL_fills_126 rfl ?_
              exfalso; omega
            · refine lv_iconst (v := nZ 1) hX hB dL_fills_122 rfl ?_
              refine lv_goto (tgt := 127) hX hB dL_fills_123 (by decide) ?_
              refine zz_icmp_ne X (tgt := 134) dL_fills_127 (by decide) ⟨by omega, by omega⟩ ⟨by omega, by omega⟩ (fun c_127 => by exfalso; omega) (fun c_127 => ?_)
              refine lv_iconst (v := nZ 1) hX hB dL_fills_130 rfl ?_
              refine lv_goto (tgt := 135) hX hB dL_fills_131 (by decide) ?_
              refine lv_istore (lv' := [(9, .int (nZ 1)), (8, .int (nZ lst)), (6, .long (nL (printB B))), (5, .int (nZ cb)), (4, .int (nZ lst)), (0, .ref h), (1, .int (nZ x1)), (2, .int (nZ x2)), (3, .int (nZ x3))]) hX hB dL_fills_135 hl (by decide) rfl (fun ls hl => ?_)
              refine lv_iload hX hB dL_fills_137 (lv_at hl 0 rfl) ?_
              refine zz_if_eq X (tgt := 163) dL_fills_139 (by decide) ⟨by omega, by omega⟩ (fun c_139 => by exfalso; omega) (fun c_139 => ?_)
              refine lv_aload_n hX hB dL_fills_142 rfl (lv_at hl 5 rfl) ?_
              have hSl143 : 0 < S93.length := by rw [← hS93]; exact saveL_pos _ _
              have hSm143 : S93.length ≤ 6 := hG93.1.2.2.2
              obtain ⟨S143, hS143⟩ : ∃ z, S93.dropLast = z := ⟨_, rfl⟩
              refine zc1n (zRunW (As := [.ref h]) X mw_undo (wc_undo l D k h B93 S93 K T xs hG93.1 hx B (by rw [← hS93]; exact saveL_last _ _) ((S93.length : Int) - 1) (rfl) B (rfl) S143 hS143 _) zw_299 (zPre1 hP hD hK) rfl hl (Nat.le_of_ble_eq_true rfl) dL_fills_143 ⟨rfl, rfl, ⟨Nat.le_of_ble_eq_true rfl, Nat.le_of_ble_eq_true rfl⟩, Nat.le_of_ble_eq_true rfl, Nat.le_of_ble_eq_true rfl⟩ rfl) hS hP hD hA (fun r xs H locs hpost hP hD hS => ?_)
              obtain ⟨rfl, hx⟩ := hpost
              have hG143 : goodT N (B, S143, K, T) := by rw [← hS143, ← hS93]; exact hG.back
              refine zz_if_lt X (tgt := 163) dL_fills_146 (by decide) ⟨by omega, by omega⟩ (fun c_146 => by exfalso; omega) (fun c_146 => ?_)
              refine lv_aload_n hX hB dL_fills_149 rfl (lv_at hl 5 rfl) ?_
              refine zcL1n (zRunS (As := [.ref h]) X ms_L_print (c_L_print l D k h B S143 K T xs N ⟨by omega, by omega⟩ hG143 hx  _) zw_161 (zPre1 hP hD hK) rfl hl (Nat.le_of_ble_eq_true rfl) dL_fills_150 ⟨rfl, rfl, ⟨Nat.le_of_ble_eq_true rfl, Nat.le_of_ble_eq_true rfl⟩, Nat.le_of_ble_eq_true rfl, Nat.le_of_ble_eq_true rfl⟩ rfl) hS hP hD hA (fun r xs H locs hpost hP hD hS => ?_)
              obtain ⟨rfl, hx⟩ := hpost
              refine lv_lload hX hB dL_fills_153 (lv_at hl 2 rfl) ?_
              refine zs_lcmp X (rfl) dL_fills_155 ?_
              refine zz_if_ne X (tgt := 163) dL_fills_156 (by decide) ⟨by omega, by omega⟩ (fun c_156 => by exfalso; omega) (fun c_156 => ?_)
              refine lv_iconst (v := nZ 1) hX hB dL_fills_159 rfl ?_
              refine lv_goto (tgt := 164) hX hB dL_fills_160 (by decide) ?_
              exact zRetZ xs X hP hD hS (Or.inr rfl) rfl ⟨rfl, S143, hG143, hx⟩ dL_fills_164
        · refine lv_iload_n hX hB dL_fills_81 rfl (lv_at hl 6 rfl) ?_
          refine lv_goto (tgt := 87) hX hB dL_fills_82 (by decide) ?_
          refine lv_istore (lv' := [(8, .int (nZ x3)), (6, .long (nL (printB B))), (5, .int (nZ cb)), (4, .int (nZ lst)), (0, .ref h), (1, .int (nZ x1)), (2, .int (nZ x2)), (3, .int (nZ x3))]) hX hB dL_fills_87 hl (by decide) rfl (fun ls hl => ?_)
          refine lv_aload_n hX hB dL_fills_89 rfl (lv_at hl 4 rfl) ?_
          refine lv_iload_n hX hB dL_fills_90 rfl (lv_at hl 5 rfl) ?_
          refine lv_iload hX hB dL_fills_91 (lv_at hl 0 rfl) ?_
          have h3 : B.1 3 = 0 := by omega
          obtain ⟨nd93, hnd93⟩ : ∃ v, nudS (B.1 0) x3 (B.2 x1.toNat) = v := ⟨_, rfl⟩
          have hnr93 := nud_rng hBg (j := x1.toNat) (by omega) x3
          rw [hnd93] at hnr93
          obtain ⟨B93, hB93⟩ : ∃ z, pushF B x1.toNat x3 = z := ⟨_, rfl⟩
          obtain ⟨S93, hS93⟩ : ∃ z, saveL S B = z := ⟨_, rfl⟩
          refine zc1 (zRunW (As := [.ref h, .int (nZ x1), .int (nZ x3)]) X mw_push (wc_push l D k h B S K T xs hG.1 hx x1 x3 ⟨by omega, by omega⟩ ⟨by omega, by omega⟩ nd93 ((by rw [if_pos h3]; exact hnd93)) B93 hB93 S93 hS93 _) zw_239 (zPre1 hP hD hK) rfl hl (Nat.le_of_ble_eq_true rfl) dL_fills_93 ⟨rfl, rfl, ⟨Nat.le_of_ble_eq_true rfl, Nat.le_of_ble_eq_true rfl⟩, Nat.le_of_ble_eq_true rfl, Nat.le_of_ble_eq_true rfl⟩ rfl) hS hP hD hA (fun r xs H locs hpost hP hD hS => ?_)
          obtain ⟨rfl, hx⟩ := hpost
          have hG93 : goodT (N + 1) (B93, S93, K, T) := by rw [← hB93, ← hS93]; exact hG.save (push_good hBg (by omega) ⟨by omega, by omega⟩) (xtra_push hG.2.1 hBg.2.1 _ _)
          have hpf : B93 = push1 B x1.toNat x3 := by rw [← hB93]; exact pushF_go h3 (by omega) _ _
          have hBg93 : bdGood B93 := hG93.1.1
          obtain ⟨cb2, hcb2⟩ : ∃ z, cleanB B93 x2 = z := ⟨_, rfl⟩
          have hpc := push1_clean (B := B) (j := x1.toNat) (by omega) x3 x2
          rw [← hpf, hcb2, hcb] at hpc
          have hk2 := clean_three hBg93 (b := x2) ⟨h2.1, by omega⟩
          rw [hcb2] at hk2
          have hsa := str_at hls (v := x3) ⟨by omega, by omega⟩ (by omega)
          refine W.widen (k := 10) (n := 110) (by decide) (by decide) ?_
          refine zz_if_lt X (tgt := 134) dL_fills_96 (by decide) ⟨by omega, by omega⟩ (fun c_96 => by exfalso; omega) (fun c_96 => ?_)
          refine lv_aload_n hX hB dL_fills_99 rfl (lv_at hl 4 rfl) ?_
          refine lv_iload_n hX hB dL_fills_100 rfl (lv_at hl 6 rfl) ?_
          refine lv_iconst (v := nZ 0) hX hB dL_fills_101 rfl ?_
          refine zc1n (zRunW (As := [.ref h, .int (nZ x2), .int (nZ 0)]) X mw_bedOf (wc_bedOf l D k h B93 S93 K T xs hG93.1 hx x2 0 ⟨by omega, by omega⟩ ⟨by omega, by omega⟩ cb2 (hcb2)  _) zw_96 (zPre1 hP hD hK) rfl hl (Nat.le_of_ble_eq_true rfl) dL_fills_102 ⟨rfl, rfl, ⟨Nat.le_of_ble_eq_true rfl, Nat.le_of_ble_eq_true rfl⟩, Nat.le_of_ble_eq_true rfl, Nat.le_of_ble_eq_true rfl⟩ rfl) hS hP hD hA (fun r xs H locs hpost hP hD hS => ?_)
          obtain ⟨rfl, hx⟩ := hpost
          refine lv_iload hX hB dL_fills_105 (lv_at hl 2 rfl) ?_
          refine zz_icmp_le X (tgt := 114) dL_fills_107 (by decide) ⟨by omega, by omega⟩ ⟨by omega, by omega⟩ (fun c_107 => ?_) (fun c_107 => ?_)
          · refine lv_iconst (v := nZ 0) hX hB dL_fills_114 rfl ?_
            refine lv_iload hX hB dL_fills_115 (lv_at hl 0 rfl) ?_
            refine lv_iload hX hB dL_fills_117 (lv_at hl 3 rfl) ?_
            refine zz_icmp_ne X (tgt := 126) dL_fills_119 (by decide) ⟨by omega, by omega⟩ ⟨by omega, by omega⟩ (fun c_119 => ?_) (fun c_119 => ?_)
            · refine lv_iconst (v := nZ 0) hX hB dL_fills_126 rfl ?_
              refine zz_icmp_ne X (tgt := 134) dL_fills_127 (by decide) ⟨by omega, by omega⟩ ⟨by omega, by omega⟩ (fun c_127 => by exfalso; omega) (fun c_127 => ?_)
              refine lv_iconst (v := nZ 1) hX hB dL_fills_130 rfl ?_
              refine lv_goto (tgt := 135) hX hB dL_fills_131 (by decide) ?_
              refine lv_istore (lv' := [(9, .int (nZ 1)), (8, .int (nZ x3)), (6, .long (nL (printB B))), (5, .int (nZ cb)), (4, .int (nZ lst)), (0, .ref h), (1, .int (nZ x1)), (2, .int (nZ x2)), (3, .int (nZ x3))]) hX hB dL_fills_135 hl (by decide) rfl (fun ls hl => ?_)
              refine lv_iload hX hB dL_fills_137 (lv_at hl 0 rfl) ?_
              refine zz_if_eq X (tgt := 163) dL_fills_139 (by decide) ⟨by omega, by omega⟩ (fun c_139 => by exfalso; omega) (fun c_139 => ?_)
              refine lv_aload_n hX hB dL_fills_142 rfl (lv_at hl 5 rfl) ?_
              have hSl143 : 0 < S93.length := by rw [← hS93]; exact saveL_pos _ _
              have hSm143 : S93.length ≤ 6 := hG93.1.2.2.2
              obtain ⟨S143, hS143⟩ : ∃ z, S93.dropLast = z := ⟨_, rfl⟩
              refine zc1n (zRunW (As := [.ref h]) X mw_undo (wc_undo l D k h B93 S93 K T xs hG93.1 hx B (by rw [← hS93]; exact saveL_last _ _) ((S93.length : Int) - 1) (rfl) B (rfl) S143 hS143 _) zw_299 (zPre1 hP hD hK) rfl hl (Nat.le_of_ble_eq_true rfl) dL_fills_143 ⟨rfl, rfl, ⟨Nat.le_of_ble_eq_true rfl, Nat.le_of_ble_eq_true rfl⟩, Nat.le_of_ble_eq_true rfl, Nat.le_of_ble_eq_true rfl⟩ rfl) hS hP hD hA (fun r xs H locs hpost hP hD hS => ?_)
              obtain ⟨rfl, hx⟩ := hpost
              have hG143 : goodT N (B, S143, K, T) := by rw [← hS143, ← hS93]; exact hG.back
              refine zz_if_lt X (tgt := 163) dL_fills_146 (by decide) ⟨by omega, by omega⟩ (fun c_146 => by exfalso; omega) (fun c_146 => ?_)
              refine lv_aload_n hX hB dL_fills_149 rfl (lv_at hl 5 rfl) ?_
              refine zcL1n (zRunS (As := [.ref h]) X ms_L_print (c_L_print l D k h B S143 K T xs N ⟨by omega, by omega⟩ hG143 hx  _) zw_161 (zPre1 hP hD hK) rfl hl (Nat.le_of_ble_eq_true rfl) dL_fills_150 ⟨rfl, rfl, ⟨Nat.le_of_ble_eq_true rfl, Nat.le_of_ble_eq_true rfl⟩, Nat.le_of_ble_eq_true rfl, Nat.le_of_ble_eq_true rfl⟩ rfl) hS hP hD hA (fun r xs H locs hpost hP hD hS => ?_)
              obtain ⟨rfl, hx⟩ := hpost
              refine lv_lload hX hB dL_fills_153 (lv_at hl 2 rfl) ?_
              refine zs_lcmp X (rfl) dL_fills_155 ?_
              refine zz_if_ne X (tgt := 163) dL_fills_156 (by decide) ⟨by omega, by omega⟩ (fun c_156 => by exfalso; omega) (fun c_156 => ?_)
              refine lv_iconst (v := nZ 1) hX hB dL_fills_159 rfl ?_
              refine lv_goto (tgt := 164) hX hB dL_fills_160 (by decide) ?_
              exact zRetZ xs X hP hD hS (Or.inr rfl) rfl ⟨rfl, S143, hG143, hx⟩ dL_fills_164
            · refine lv_iconst (v := nZ 1) hX hB dL_fills_122 rfl ?_
              refine lv_goto (tgt := 127) hX hB dL_fills_123 (by decide) ?_
              exfalso; omega
          · refine lv_iconst (v := nZ 1) hX hB dL_fills_110 rfl ?_
            refine lv_goto (tgt := 115) hX hB dL_fills_111 (by decide) ?_
            refine lv_iload hX hB dL_fills_115 (lv_at hl 0 rfl) ?_
            refine lv_iload hX hB dL_fills_117 (lv_at hl 3 rfl) ?_
            refine zz_icmp_ne X (tgt := 126) dL_fills_119 (by decide) ⟨by omega, by omega⟩ ⟨by omega, by omega⟩ (fun c_119 => ?_) (fun c_119 => ?_)
            · refine lv_iconst (v := nZ 0) hX hB dL_fills_126 rfl ?_
              exfalso; omega
            · refine lv_iconst (v := nZ 1) hX hB dL_fills_122 rfl ?_
              refine lv_goto (tgt := 127) hX hB dL_fills_123 (by decide) ?_
              refine zz_icmp_ne X (tgt := 134) dL_fills_127 (by decide) ⟨by omega, by omega⟩ ⟨by omega, by omega⟩ (fun c_127 => by exfalso; omega) (fun c_127 => ?_)
              refine lv_iconst (v := nZ 1) hX hB dL_fills_130 rfl ?_
              refine lv_goto (tgt := 135) hX hB dL_fills_131 (by decide) ?_
              refine lv_istore (lv' := [(9, .int (nZ 1)), (8, .int (nZ x3)), (6, .long (nL (printB B))), (5, .int (nZ cb)), (4, .int (nZ lst)), (0, .ref h), (1, .int (nZ x1)), (2, .int (nZ x2)), (3, .int (nZ x3))]) hX hB dL_fills_135 hl (by decide) rfl (fun ls hl => ?_)
              refine lv_iload hX hB dL_fills_137 (lv_at hl 0 rfl) ?_
              refine zz_if_eq X (tgt := 163) dL_fills_139 (by decide) ⟨by omega, by omega⟩ (fun c_139 => by exfalso; omega) (fun c_139 => ?_)
              refine lv_aload_n hX hB dL_fills_142 rfl (lv_at hl 5 rfl) ?_
              have hSl143 : 0 < S93.length := by rw [← hS93]; exact saveL_pos _ _
              have hSm143 : S93.length ≤ 6 := hG93.1.2.2.2
              obtain ⟨S143, hS143⟩ : ∃ z, S93.dropLast = z := ⟨_, rfl⟩
              refine zc1n (zRunW (As := [.ref h]) X mw_undo (wc_undo l D k h B93 S93 K T xs hG93.1 hx B (by rw [← hS93]; exact saveL_last _ _) ((S93.length : Int) - 1) (rfl) B (rfl) S143 hS143 _) zw_299 (zPre1 hP hD hK) rfl hl (Nat.le_of_ble_eq_true rfl) dL_fills_143 ⟨rfl, rfl, ⟨Nat.le_of_ble_eq_true rfl, Nat.le_of_ble_eq_true rfl⟩, Nat.le_of_ble_eq_true rfl, Nat.le_of_ble_eq_true rfl⟩ rfl) hS hP hD hA (fun r xs H locs hpost hP hD hS => ?_)
              obtain ⟨rfl, hx⟩ := hpost
              have hG143 : goodT N (B, S143, K, T) := by rw [← hS143, ← hS93]; exact hG.back
              refine zz_if_lt X (tgt := 163) dL_fills_146 (by decide) ⟨by omega, by omega⟩ (fun c_146 => by exfalso; omega) (fun c_146 => ?_)
              refine lv_aload_n hX hB dL_fills_149 rfl (lv_at hl 5 rfl) ?_
              refine zcL1n (zRunS (As := [.ref h]) X ms_L_print (c_L_print l D k h B S143 K T xs N ⟨by omega, by omega⟩ hG143 hx  _) zw_161 (zPre1 hP hD hK) rfl hl (Nat.le_of_ble_eq_true rfl) dL_fills_150 ⟨rfl, rfl, ⟨Nat.le_of_ble_eq_true rfl, Nat.le_of_ble_eq_true rfl⟩, Nat.le_of_ble_eq_true rfl, Nat.le_of_ble_eq_true rfl⟩ rfl) hS hP hD hA (fun r xs H locs hpost hP hD hS => ?_)
              obtain ⟨rfl, hx⟩ := hpost
              refine lv_lload hX hB dL_fills_153 (lv_at hl 2 rfl) ?_
              refine zs_lcmp X (rfl) dL_fills_155 ?_
              refine zz_if_ne X (tgt := 163) dL_fills_156 (by decide) ⟨by omega, by omega⟩ (fun c_156 => by exfalso; omega) (fun c_156 => ?_)
              refine lv_iconst (v := nZ 1) hX hB dL_fills_159 rfl ?_
              refine lv_goto (tgt := 164) hX hB dL_fills_160 (by decide) ?_
              exact zRetZ xs X hP hD hS (Or.inr rfl) rfl ⟨rfl, S143, hG143, hx⟩ dL_fills_164
      · refine lv_iload_n hX hB dL_fills_71 rfl (lv_at hl 6 rfl) ?_
        refine lv_goto (tgt := 87) hX hB dL_fills_72 (by decide) ?_
        refine lv_istore (lv' := [(8, .int (nZ x3)), (6, .long (nL (printB B))), (5, .int (nZ cb)), (4, .int (nZ lst)), (0, .ref h), (1, .int (nZ x1)), (2, .int (nZ x2)), (3, .int (nZ x3))]) hX hB dL_fills_87 hl (by decide) rfl (fun ls hl => ?_)
        refine lv_aload_n hX hB dL_fills_89 rfl (lv_at hl 4 rfl) ?_
        refine lv_iload_n hX hB dL_fills_90 rfl (lv_at hl 5 rfl) ?_
        refine lv_iload hX hB dL_fills_91 (lv_at hl 0 rfl) ?_
        have h3 : B.1 3 = 0 := by omega
        obtain ⟨nd93, hnd93⟩ : ∃ v, nudS (B.1 0) x3 (B.2 x1.toNat) = v := ⟨_, rfl⟩
        have hnr93 := nud_rng hBg (j := x1.toNat) (by omega) x3
        rw [hnd93] at hnr93
        obtain ⟨B93, hB93⟩ : ∃ z, pushF B x1.toNat x3 = z := ⟨_, rfl⟩
        obtain ⟨S93, hS93⟩ : ∃ z, saveL S B = z := ⟨_, rfl⟩
        refine zc1 (zRunW (As := [.ref h, .int (nZ x1), .int (nZ x3)]) X mw_push (wc_push l D k h B S K T xs hG.1 hx x1 x3 ⟨by omega, by omega⟩ ⟨by omega, by omega⟩ nd93 ((by rw [if_pos h3]; exact hnd93)) B93 hB93 S93 hS93 _) zw_239 (zPre1 hP hD hK) rfl hl (Nat.le_of_ble_eq_true rfl) dL_fills_93 ⟨rfl, rfl, ⟨Nat.le_of_ble_eq_true rfl, Nat.le_of_ble_eq_true rfl⟩, Nat.le_of_ble_eq_true rfl, Nat.le_of_ble_eq_true rfl⟩ rfl) hS hP hD hA (fun r xs H locs hpost hP hD hS => ?_)
        obtain ⟨rfl, hx⟩ := hpost
        have hG93 : goodT (N + 1) (B93, S93, K, T) := by rw [← hB93, ← hS93]; exact hG.save (push_good hBg (by omega) ⟨by omega, by omega⟩) (xtra_push hG.2.1 hBg.2.1 _ _)
        have hpf : B93 = push1 B x1.toNat x3 := by rw [← hB93]; exact pushF_go h3 (by omega) _ _
        have hBg93 : bdGood B93 := hG93.1.1
        obtain ⟨cb2, hcb2⟩ : ∃ z, cleanB B93 x2 = z := ⟨_, rfl⟩
        have hpc := push1_clean (B := B) (j := x1.toNat) (by omega) x3 x2
        rw [← hpf, hcb2, hcb] at hpc
        have hk2 := clean_three hBg93 (b := x2) ⟨h2.1, by omega⟩
        rw [hcb2] at hk2
        have hsa := str_at hls (v := x3) ⟨by omega, by omega⟩ (by omega)
        refine W.widen (k := 10) (n := 110) (by decide) (by decide) ?_
        refine zz_if_lt X (tgt := 134) dL_fills_96 (by decide) ⟨by omega, by omega⟩ (fun c_96 => by exfalso; omega) (fun c_96 => ?_)
        refine lv_aload_n hX hB dL_fills_99 rfl (lv_at hl 4 rfl) ?_
        refine lv_iload_n hX hB dL_fills_100 rfl (lv_at hl 6 rfl) ?_
        refine lv_iconst (v := nZ 0) hX hB dL_fills_101 rfl ?_
        refine zc1n (zRunW (As := [.ref h, .int (nZ x2), .int (nZ 0)]) X mw_bedOf (wc_bedOf l D k h B93 S93 K T xs hG93.1 hx x2 0 ⟨by omega, by omega⟩ ⟨by omega, by omega⟩ cb2 (hcb2)  _) zw_96 (zPre1 hP hD hK) rfl hl (Nat.le_of_ble_eq_true rfl) dL_fills_102 ⟨rfl, rfl, ⟨Nat.le_of_ble_eq_true rfl, Nat.le_of_ble_eq_true rfl⟩, Nat.le_of_ble_eq_true rfl, Nat.le_of_ble_eq_true rfl⟩ rfl) hS hP hD hA (fun r xs H locs hpost hP hD hS => ?_)
        obtain ⟨rfl, hx⟩ := hpost
        refine lv_iload hX hB dL_fills_105 (lv_at hl 2 rfl) ?_
        refine zz_icmp_le X (tgt := 114) dL_fills_107 (by decide) ⟨by omega, by omega⟩ ⟨by omega, by omega⟩ (fun c_107 => ?_) (fun c_107 => ?_)
        · refine lv_iconst (v := nZ 0) hX hB dL_fills_114 rfl ?_
          refine lv_iload hX hB dL_fills_115 (lv_at hl 0 rfl) ?_
          refine lv_iload hX hB dL_fills_117 (lv_at hl 3 rfl) ?_
          refine zz_icmp_ne X (tgt := 126) dL_fills_119 (by decide) ⟨by omega, by omega⟩ ⟨by omega, by omega⟩ (fun c_119 => ?_) (fun c_119 => ?_)
          · refine lv_iconst (v := nZ 0) hX hB dL_fills_126 rfl ?_
            refine zz_icmp_ne X (tgt := 134) dL_fills_127 (by decide) ⟨by omega, by omega⟩ ⟨by omega, by omega⟩ (fun c_127 => by exfalso; omega) (fun c_127 => ?_)
            refine lv_iconst (v := nZ 1) hX hB dL_fills_130 rfl ?_
            refine lv_goto (tgt := 135) hX hB dL_fills_131 (by decide) ?_
            refine lv_istore (lv' := [(9, .int (nZ 1)), (8, .int (nZ x3)), (6, .long (nL (printB B))), (5, .int (nZ cb)), (4, .int (nZ lst)), (0, .ref h), (1, .int (nZ x1)), (2, .int (nZ x2)), (3, .int (nZ x3))]) hX hB dL_fills_135 hl (by decide) rfl (fun ls hl => ?_)
            refine lv_iload hX hB dL_fills_137 (lv_at hl 0 rfl) ?_
            refine zz_if_eq X (tgt := 163) dL_fills_139 (by decide) ⟨by omega, by omega⟩ (fun c_139 => by exfalso; omega) (fun c_139 => ?_)
            refine lv_aload_n hX hB dL_fills_142 rfl (lv_at hl 5 rfl) ?_
            have hSl143 : 0 < S93.length := by rw [← hS93]; exact saveL_pos _ _
            have hSm143 : S93.length ≤ 6 := hG93.1.2.2.2
            obtain ⟨S143, hS143⟩ : ∃ z, S93.dropLast = z := ⟨_, rfl⟩
            refine zc1n (zRunW (As := [.ref h]) X mw_undo (wc_undo l D k h B93 S93 K T xs hG93.1 hx B (by rw [← hS93]; exact saveL_last _ _) ((S93.length : Int) - 1) (rfl) B (rfl) S143 hS143 _) zw_299 (zPre1 hP hD hK) rfl hl (Nat.le_of_ble_eq_true rfl) dL_fills_143 ⟨rfl, rfl, ⟨Nat.le_of_ble_eq_true rfl, Nat.le_of_ble_eq_true rfl⟩, Nat.le_of_ble_eq_true rfl, Nat.le_of_ble_eq_true rfl⟩ rfl) hS hP hD hA (fun r xs H locs hpost hP hD hS => ?_)
            obtain ⟨rfl, hx⟩ := hpost
            have hG143 : goodT N (B, S143, K, T) := by rw [← hS143, ← hS93]; exact hG.back
            refine zz_if_lt X (tgt := 163) dL_fills_146 (by decide) ⟨by omega, by omega⟩ (fun c_146 => by exfalso; omega) (fun c_146 => ?_)
            refine lv_aload_n hX hB dL_fills_149 rfl (lv_at hl 5 rfl) ?_
            refine zcL1n (zRunS (As := [.ref h]) X ms_L_print (c_L_print l D k h B S143 K T xs N ⟨by omega, by omega⟩ hG143 hx  _) zw_161 (zPre1 hP hD hK) rfl hl (Nat.le_of_ble_eq_true rfl) dL_fills_150 ⟨rfl, rfl, ⟨Nat.le_of_ble_eq_true rfl, Nat.le_of_ble_eq_true rfl⟩, Nat.le_of_ble_eq_true rfl, Nat.le_of_ble_eq_true rfl⟩ rfl) hS hP hD hA (fun r xs H locs hpost hP hD hS => ?_)
            obtain ⟨rfl, hx⟩ := hpost
            refine lv_lload hX hB dL_fills_153 (lv_at hl 2 rfl) ?_
            refine zs_lcmp X (rfl) dL_fills_155 ?_
            refine zz_if_ne X (tgt := 163) dL_fills_156 (by decide) ⟨by omega, by omega⟩ (fun c_156 => by exfalso; omega) (fun c_156 => ?_)
            refine lv_iconst (v := nZ 1) hX hB dL_fills_159 rfl ?_
            refine lv_goto (tgt := 164) hX hB dL_fills_160 (by decide) ?_
            exact zRetZ xs X hP hD hS (Or.inr rfl) rfl ⟨rfl, S143, hG143, hx⟩ dL_fills_164
          · refine lv_iconst (v := nZ 1) hX hB dL_fills_122 rfl ?_
            refine lv_goto (tgt := 127) hX hB dL_fills_123 (by decide) ?_
            exfalso; omega
        · refine lv_iconst (v := nZ 1) hX hB dL_fills_110 rfl ?_
          refine lv_goto (tgt := 115) hX hB dL_fills_111 (by decide) ?_
          refine lv_iload hX hB dL_fills_115 (lv_at hl 0 rfl) ?_
          refine lv_iload hX hB dL_fills_117 (lv_at hl 3 rfl) ?_
          refine zz_icmp_ne X (tgt := 126) dL_fills_119 (by decide) ⟨by omega, by omega⟩ ⟨by omega, by omega⟩ (fun c_119 => ?_) (fun c_119 => ?_)
          · refine lv_iconst (v := nZ 0) hX hB dL_fills_126 rfl ?_
            exfalso; omega
          · refine lv_iconst (v := nZ 1) hX hB dL_fills_122 rfl ?_
            refine lv_goto (tgt := 127) hX hB dL_fills_123 (by decide) ?_
            refine zz_icmp_ne X (tgt := 134) dL_fills_127 (by decide) ⟨by omega, by omega⟩ ⟨by omega, by omega⟩ (fun c_127 => by exfalso; omega) (fun c_127 => ?_)
            refine lv_iconst (v := nZ 1) hX hB dL_fills_130 rfl ?_
            refine lv_goto (tgt := 135) hX hB dL_fills_131 (by decide) ?_
            refine lv_istore (lv' := [(9, .int (nZ 1)), (8, .int (nZ x3)), (6, .long (nL (printB B))), (5, .int (nZ cb)), (4, .int (nZ lst)), (0, .ref h), (1, .int (nZ x1)), (2, .int (nZ x2)), (3, .int (nZ x3))]) hX hB dL_fills_135 hl (by decide) rfl (fun ls hl => ?_)
            refine lv_iload hX hB dL_fills_137 (lv_at hl 0 rfl) ?_
            refine zz_if_eq X (tgt := 163) dL_fills_139 (by decide) ⟨by omega, by omega⟩ (fun c_139 => by exfalso; omega) (fun c_139 => ?_)
            refine lv_aload_n hX hB dL_fills_142 rfl (lv_at hl 5 rfl) ?_
            have hSl143 : 0 < S93.length := by rw [← hS93]; exact saveL_pos _ _
            have hSm143 : S93.length ≤ 6 := hG93.1.2.2.2
            obtain ⟨S143, hS143⟩ : ∃ z, S93.dropLast = z := ⟨_, rfl⟩
            refine zc1n (zRunW (As := [.ref h]) X mw_undo (wc_undo l D k h B93 S93 K T xs hG93.1 hx B (by rw [← hS93]; exact saveL_last _ _) ((S93.length : Int) - 1) (rfl) B (rfl) S143 hS143 _) zw_299 (zPre1 hP hD hK) rfl hl (Nat.le_of_ble_eq_true rfl) dL_fills_143 ⟨rfl, rfl, ⟨Nat.le_of_ble_eq_true rfl, Nat.le_of_ble_eq_true rfl⟩, Nat.le_of_ble_eq_true rfl, Nat.le_of_ble_eq_true rfl⟩ rfl) hS hP hD hA (fun r xs H locs hpost hP hD hS => ?_)
            obtain ⟨rfl, hx⟩ := hpost
            have hG143 : goodT N (B, S143, K, T) := by rw [← hS143, ← hS93]; exact hG.back
            refine zz_if_lt X (tgt := 163) dL_fills_146 (by decide) ⟨by omega, by omega⟩ (fun c_146 => by exfalso; omega) (fun c_146 => ?_)
            refine lv_aload_n hX hB dL_fills_149 rfl (lv_at hl 5 rfl) ?_
            refine zcL1n (zRunS (As := [.ref h]) X ms_L_print (c_L_print l D k h B S143 K T xs N ⟨by omega, by omega⟩ hG143 hx  _) zw_161 (zPre1 hP hD hK) rfl hl (Nat.le_of_ble_eq_true rfl) dL_fills_150 ⟨rfl, rfl, ⟨Nat.le_of_ble_eq_true rfl, Nat.le_of_ble_eq_true rfl⟩, Nat.le_of_ble_eq_true rfl, Nat.le_of_ble_eq_true rfl⟩ rfl) hS hP hD hA (fun r xs H locs hpost hP hD hS => ?_)
            obtain ⟨rfl, hx⟩ := hpost
            refine lv_lload hX hB dL_fills_153 (lv_at hl 2 rfl) ?_
            refine zs_lcmp X (rfl) dL_fills_155 ?_
            refine zz_if_ne X (tgt := 163) dL_fills_156 (by decide) ⟨by omega, by omega⟩ (fun c_156 => by exfalso; omega) (fun c_156 => ?_)
            refine lv_iconst (v := nZ 1) hX hB dL_fills_159 rfl ?_
            refine lv_goto (tgt := 164) hX hB dL_fills_160 (by decide) ?_
            exact zRetZ xs X hP hD hS (Or.inr rfl) rfl ⟨rfl, S143, hG143, hx⟩ dL_fills_164
    · refine lv_iload hX hB dL_fills_40 (lv_at hl 2 rfl) ?_
      refine lv_iconst (v := nZ (-1)) hX hB dL_fills_42 rfl ?_
      refine zz_icmp_eq X (tgt := 59) dL_fills_43 (by decide) ⟨by omega, by omega⟩ ⟨by omega, by omega⟩ (fun c_43 => ?_) (fun c_43 => ?_)
      · refine lv_iconst (v := nZ 1) hX hB dL_fills_59 rfl ?_
        refine lv_goto (tgt := 64) hX hB dL_fills_60 (by decide) ?_
        refine W.widen (k := 10) (n := 110) (by decide) (by decide) ?_
        exact zRetZ xs X hP hD hS (Or.inr rfl) rfl ⟨rfl, S, hG, hx⟩ dL_fills_64
      · refine lv_iload hX hB dL_fills_46 (lv_at hl 2 rfl) ?_
        refine zz_if_le X (tgt := 63) dL_fills_48 (by decide) ⟨by omega, by omega⟩ (fun c_48 => by exfalso; omega) (fun c_48 => ?_)
        refine lv_iload hX hB dL_fills_51 (lv_at hl 2 rfl) ?_
        refine lv_sipush (v := nZ 150) hX hB dL_fills_53 (by decide) ?_
        refine zz_icmp_gt X (tgt := 63) dL_fills_56 (by decide) ⟨by omega, by omega⟩ ⟨by omega, by omega⟩ (fun c_56 => by exfalso; omega) (fun c_56 => ?_)
        refine lv_iconst (v := nZ 1) hX hB dL_fills_59 rfl ?_
        refine lv_goto (tgt := 64) hX hB dL_fills_60 (by decide) ?_
        refine W.widen (k := 10) (n := 110) (by decide) (by decide) ?_
        exact zRetZ xs X hP hD hS (Or.inr rfl) rfl ⟨rfl, S, hG, hx⟩ dL_fills_64
