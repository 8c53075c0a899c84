/-! a push's end is a coin's place -/
def thI (L : List Int) (e th : Int) (n : Nat) : Prop := th = 1 ∨ (th = 0 ∧ (0 ≤ e ∧ e ≠ 100) ∧ ∀ i : Nat, i < n → placeAtS L (i : Int) ≠ e)
theorem thI_step {L : List Int} {e th v : Int} {n : Nat} (h : thI L e th n) (h0 : th = 0) (hv : placeAtS L (n : Int) = v) (hne : v ≠ e) : thI L e 0 (n + 1) := by
  rcases h with h | ⟨h1, h2, h3⟩
  · omega
  · refine Or.inr ⟨rfl, h2, fun i hi => ?_⟩
    by_cases c : i = n
    · rw [c, hv]
      exact hne
    · exact h3 i (by omega)
def endP (L : List Int) (e : Int) : Prop := e < 0 ∨ e = 100 ∨ ∃ r : Nat, r < 20 ∧ placeAtS L (r : Int) = e
theorem thI_end {L : List Int} {e th : Int} (h : thI L e th 20) (he : endP L e) : th = 1 := by
  rcases h with h | ⟨h1, h2, h3⟩
  · exact h
  · rcases he with q | q | ⟨r, q1, q2⟩
    · omega
    · omega
    · exact absurd q2 (h3 r q1)
theorem thI_01 {L : List Int} {e th : Int} {n : Nat} (h : thI L e th n) : 0 ≤ th ∧ th ≤ 1 := by
  rcases h with h | ⟨h, -⟩ <;> omega
theorem place_rng {B : Bd} (h : bdGood B) {j : Nat} (hj : j < 3) (n : Nat) {v : Int} (hv : placeAtS (B.2 j) (n : Int) = v) : -1 ≤ v ∧ v ≤ 99 := by
  rcases coin_cases (good_ch h hj) hv with q | q <;> omega
theorem ms_L_pushes : zMS yL_pushes cL_pushes 19 (some .boolean) 3 := ⟨zw_160, zw_68, ⟨by decide +kernel, by decide +kernel, by decide +kernel⟩, zw_159⟩
set_option maxHeartbeats 2000000 in
set_option maxRecDepth 100000 in
theorem c_L_pushes_over (l : Launch) (D : va_G) (k : Nat → ClassId) (h : Nat) (B : Bd) (S : List Bd) (K : Nat → Option Bd) (T : List Int) (xs : va_W) (N : Int) (hN : 0 ≤ N ∧ N < 900000) (hG : goodT N (B, S, K, T)) (hx : isX k h (B, S, K, T) xs) (x1 x2 : Int) (h1 : 0 ≤ x1 ∧ x1 ≤ 2) (h2 : 1 ≤ x2 ∧ x2 ≤ 150) (ho : B.1 3 ≠ 0) : ∀ sz, Met l yL_pushes (zW yL_pushes cL_pushes 19 (some .boolean)) ({ frames := 11, cells := 11, slots := 119, locals := 360 } : Room) (va_Pc [.ref h, .int (nZ x1), .int (nZ x2)] (zIn D k sz xs)) (va_Qi (fun (r : Int32) (u : va_W) => r = nZ 1 ∧ ∃ S2, goodT N (B, S2, K, T) ∧ isX k h (B, S2, K, T) u) (fun u => zOut D (va_A xs sz) u) (va_A xs sz)) 11 119 (va_A xs sz) := by
  intro sz
  refine zEnter (Qf := fun A => va_Qi (fun (r : Int32) (u : va_W) => r = nZ 1 ∧ ∃ S2, goodT N (B, S2, K, T) ∧ isX k h (B, S2, K, T) u) (fun u => zOut D A u) A) RL (by decide) rfl (Nat.le_of_ble_eq_true rfl) ?_
  intro p9 e9 s9 m9 be9 me9 c9 ls A X hin hP hD hS hA hAe hl
  have hX := X.1; have hB := X.2.1; have hz := X.2.2.2.2.1; have hW := X.2.2.2.2.2.1; have hK := X.2.2.2.2.2.2.2; clear hAe; clear hin
  have hl : lv_has ls 19 [(0, .ref h), (1, .int (nZ x1)), (2, .int (nZ x2))] := hl
  have hBg : bdGood B := hG.1.1
  obtain ⟨w0, w1, w2, w3, w4, hC0, hC1, hC2⟩ := id hBg
  have hj : x1.toNat < 3 := by omega
  obtain ⟨e, he⟩ : ∃ v, lastL (B.1 0) x2 (B.2 x1.toNat) = v := ⟨_, rfl⟩
  obtain ⟨hea, heb, hec, hed⟩ := end_at hBg hj h2.1 he
  change endP ((push1 B x1.toNat x2).2 x1.toNat) e at heb
  refine lv_aload_n hX hB dL_pushes_0 rfl (lv_at hl 0 rfl) ?_
  refine zcL1n (zRunS (As := [.ref h]) X ms_L_print (c_L_print l D k h B S K T xs N ⟨by omega, by omega⟩ hG hx  _) zw_161 (zPre1 hP hD hK) rfl hl (Nat.le_of_ble_eq_true rfl) dL_pushes_1 ⟨rfl, rfl, ⟨Nat.le_of_ble_eq_true rfl, Nat.le_of_ble_eq_true rfl⟩, Nat.le_of_ble_eq_true rfl, Nat.le_of_ble_eq_true rfl⟩ rfl) hS hP hD hA (fun r xs H locs hpost hP hD hS => ?_)
  obtain ⟨rfl, hx⟩ := hpost
  refine lv_lstore_n (lv' := [(3, .long (nL (printB B))), (0, .ref h), (1, .int (nZ x1)), (2, .int (nZ x2))]) hX hB dL_pushes_4 rfl hl (by decide) rfl (fun ls hl => ?_)
  refine lv_aload_n hX hB dL_pushes_5 rfl (lv_at hl 1 rfl) ?_
  refine lv_iload_n hX hB dL_pushes_6 rfl (lv_at hl 2 rfl) ?_
  refine lv_iload_n hX hB dL_pushes_7 rfl (lv_at hl 3 rfl) ?_
  refine lv_iconst (v := nZ 0) hX hB dL_pushes_8 rfl ?_
  refine zc1n (zRunW (As := [.ref h, .int (nZ x1), .int (nZ x2), .int (nZ 0)]) X mw_ends (wc_ends l D k h B S K T xs hG.1 hx x1 x2 0 ⟨by omega, by omega⟩ ⟨by omega, by omega⟩ ⟨by omega, by omega⟩ e (he)  _) zw_169 (zPre1 hP hD hK) rfl hl (Nat.le_of_ble_eq_true rfl) dL_pushes_9 ⟨rfl, rfl, ⟨Nat.le_of_ble_eq_true rfl, Nat.le_of_ble_eq_true rfl⟩, Nat.le_of_ble_eq_true rfl, Nat.le_of_ble_eq_true rfl⟩ rfl) hS hP hD hA (fun r xs H locs hpost hP hD hS => ?_)
  obtain ⟨rfl, hx⟩ := hpost
  refine lv_istore (lv' := [(5, .int (nZ e)), (3, .long (nL (printB B))), (0, .ref h), (1, .int (nZ x1)), (2, .int (nZ x2))]) hX hB dL_pushes_12 hl (by decide) rfl (fun ls hl => ?_)
  refine lv_aload_n hX hB dL_pushes_14 rfl (lv_at hl 2 rfl) ?_
  refine lv_iload_n hX hB dL_pushes_15 rfl (lv_at hl 3 rfl) ?_
  refine lv_iload_n hX hB dL_pushes_16 rfl (lv_at hl 4 rfl) ?_
  refine zc1n (zRunW (As := [.ref h, .int (nZ x1), .int (nZ x2)]) X mw_ifPushed (wc_ifPushed l D k h B S K T xs hG.1 hx x1 x2 ⟨by omega, by omega⟩ ⟨by omega, by omega⟩ (cleanAllB (push0 B x1.toNat x2)) (rfl)  _) zw_232 (zPre1 hP hD hK) rfl hl (Nat.le_of_ble_eq_true rfl) dL_pushes_17 ⟨rfl, rfl, ⟨Nat.le_of_ble_eq_true rfl, Nat.le_of_ble_eq_true rfl⟩, Nat.le_of_ble_eq_true rfl, Nat.le_of_ble_eq_true rfl⟩ rfl) hS hP hD hA (fun r xs H locs hpost hP hD hS => ?_)
  obtain ⟨rfl, hx⟩ := hpost
  refine lv_istore (lv' := [(6, .int (nZ (cleanAllB (push0 B x1.toNat x2)))), (5, .int (nZ e)), (3, .long (nL (printB B))), (0, .ref h), (1, .int (nZ x1)), (2, .int (nZ x2))]) hX hB dL_pushes_20 hl (by decide) rfl (fun ls hl => ?_)
  refine lv_aload_n hX hB dL_pushes_22 rfl (lv_at hl 3 rfl) ?_
  refine lv_iconst (v := nZ 2) hX hB dL_pushes_23 rfl ?_
  refine zc1n (zRunW (As := [.ref h, .int (nZ 2)]) X mw_count (wc_count l D k h B S K T xs hG.1 hx 2 ⟨by omega, by omega⟩ (coinsB B) (rfl)  _) zw_130 (zPre1 hP hD hK) rfl hl (Nat.le_of_ble_eq_true rfl) dL_pushes_24 ⟨rfl, rfl, ⟨Nat.le_of_ble_eq_true rfl, Nat.le_of_ble_eq_true rfl⟩, Nat.le_of_ble_eq_true rfl, Nat.le_of_ble_eq_true rfl⟩ rfl) hS hP hD hA (fun r xs H locs hpost hP hD hS => ?_)
  obtain ⟨rfl, hx⟩ := hpost
  refine lv_istore (lv' := [(7, .int (nZ (coinsB B))), (6, .int (nZ (cleanAllB (push0 B x1.toNat x2)))), (5, .int (nZ e)), (3, .long (nL (printB B))), (0, .ref h), (1, .int (nZ x1)), (2, .int (nZ x2))]) hX hB dL_pushes_27 hl (by decide) rfl (fun ls hl => ?_)
  refine lv_aload_n hX hB dL_pushes_29 rfl (lv_at hl 4 rfl) ?_
  refine lv_bipush (v := nZ 8) hX hB dL_pushes_30 (by decide) ?_
  refine zc1n (zRunW (As := [.ref h, .int (nZ 8)]) X mw_count (wc_count l D k h B S K T xs hG.1 hx 8 ⟨by omega, by omega⟩ (B.1 5) (rfl)  _) zw_130 (zPre1 hP hD hK) rfl hl (Nat.le_of_ble_eq_true rfl) dL_pushes_32 ⟨rfl, rfl, ⟨Nat.le_of_ble_eq_true rfl, Nat.le_of_ble_eq_true rfl⟩, Nat.le_of_ble_eq_true rfl, Nat.le_of_ble_eq_true rfl⟩ rfl) hS hP hD hA (fun r xs H locs hpost hP hD hS => ?_)
  obtain ⟨rfl, hx⟩ := hpost
  refine lv_istore (lv' := [(8, .int (nZ (B.1 5))), (7, .int (nZ (coinsB B))), (6, .int (nZ (cleanAllB (push0 B x1.toNat x2)))), (5, .int (nZ e)), (3, .long (nL (printB B))), (0, .ref h), (1, .int (nZ x1)), (2, .int (nZ x2))]) hX hB dL_pushes_35 hl (by decide) rfl (fun ls hl => ?_)
  refine lv_aload_n hX hB dL_pushes_37 rfl (lv_at hl 5 rfl) ?_
  refine lv_bipush (v := nZ 9) hX hB dL_pushes_38 (by decide) ?_
  refine zc1n (zRunW (As := [.ref h, .int (nZ 9)]) X mw_count (wc_count l D k h B S K T xs hG.1 hx 9 ⟨by omega, by omega⟩ (B.1 6) (rfl)  _) zw_130 (zPre1 hP hD hK) rfl hl (Nat.le_of_ble_eq_true rfl) dL_pushes_40 ⟨rfl, rfl, ⟨Nat.le_of_ble_eq_true rfl, Nat.le_of_ble_eq_true rfl⟩, Nat.le_of_ble_eq_true rfl, Nat.le_of_ble_eq_true rfl⟩ rfl) hS hP hD hA (fun r xs H locs hpost hP hD hS => ?_)
  obtain ⟨rfl, hx⟩ := hpost
  refine lv_istore (lv' := [(9, .int (nZ (B.1 6))), (8, .int (nZ (B.1 5))), (7, .int (nZ (coinsB B))), (6, .int (nZ (cleanAllB (push0 B x1.toNat x2)))), (5, .int (nZ e)), (3, .long (nL (printB B))), (0, .ref h), (1, .int (nZ x1)), (2, .int (nZ x2))]) hX hB dL_pushes_43 hl (by decide) rfl (fun ls hl => ?_)
  refine lv_aload_n hX hB dL_pushes_45 rfl (lv_at hl 6 rfl) ?_
  refine lv_bipush (v := nZ 10) hX hB dL_pushes_46 (by decide) ?_
  refine zc1n (zRunW (As := [.ref h, .int (nZ 10)]) X mw_count (wc_count l D k h B S K T xs hG.1 hx 10 ⟨by omega, by omega⟩ (B.1 7) (rfl)  _) zw_130 (zPre1 hP hD hK) rfl hl (Nat.le_of_ble_eq_true rfl) dL_pushes_48 ⟨rfl, rfl, ⟨Nat.le_of_ble_eq_true rfl, Nat.le_of_ble_eq_true rfl⟩, Nat.le_of_ble_eq_true rfl, Nat.le_of_ble_eq_true rfl⟩ rfl) hS hP hD hA (fun r xs H locs hpost hP hD hS => ?_)
  obtain ⟨rfl, hx⟩ := hpost
  refine lv_istore (lv' := [(10, .int (nZ (B.1 7))), (9, .int (nZ (B.1 6))), (8, .int (nZ (B.1 5))), (7, .int (nZ (coinsB B))), (6, .int (nZ (cleanAllB (push0 B x1.toNat x2)))), (5, .int (nZ e)), (3, .long (nL (printB B))), (0, .ref h), (1, .int (nZ x1)), (2, .int (nZ x2))]) hX hB dL_pushes_51 hl (by decide) rfl (fun ls hl => ?_)
  refine lv_aload_n hX hB dL_pushes_53 rfl (lv_at hl 7 rfl) ?_
  refine lv_bipush (v := nZ 6) hX hB dL_pushes_54 (by decide) ?_
  refine zc1n (zRunW (As := [.ref h, .int (nZ 6)]) X mw_count (wc_count l D k h B S K T xs hG.1 hx 6 ⟨by omega, by omega⟩ (B.1 3) (rfl)  _) zw_130 (zPre1 hP hD hK) rfl hl (Nat.le_of_ble_eq_true rfl) dL_pushes_56 ⟨rfl, rfl, ⟨Nat.le_of_ble_eq_true rfl, Nat.le_of_ble_eq_true rfl⟩, Nat.le_of_ble_eq_true rfl, Nat.le_of_ble_eq_true rfl⟩ rfl) hS hP hD hA (fun r xs H locs hpost hP hD hS => ?_)
  obtain ⟨rfl, hx⟩ := hpost
  refine zz_if_le X (tgt := 66) dL_pushes_59 (by decide) ⟨by omega, by omega⟩ (fun c_59 => by exfalso; omega) (fun c_59 => ?_)
  refine lv_iconst (v := nZ 1) hX hB dL_pushes_62 rfl ?_
  refine lv_goto (tgt := 67) hX hB dL_pushes_63 (by decide) ?_
  refine lv_istore (lv' := [(11, .int (nZ 1)), (10, .int (nZ (B.1 7))), (9, .int (nZ (B.1 6))), (8, .int (nZ (B.1 5))), (7, .int (nZ (coinsB B))), (6, .int (nZ (cleanAllB (push0 B x1.toNat x2)))), (5, .int (nZ e)), (3, .long (nL (printB B))), (0, .ref h), (1, .int (nZ x1)), (2, .int (nZ x2))]) hX hB dL_pushes_67 hl (by decide) rfl (fun ls hl => ?_)
  refine lv_aload_n hX hB dL_pushes_69 rfl (lv_at hl 8 rfl) ?_
  refine lv_iconst (v := nZ 1) hX hB dL_pushes_70 rfl ?_
  refine zc1n (zRunW (As := [.ref h, .int (nZ 1)]) X mw_count (wc_count l D k h B S K T xs hG.1 hx 1 ⟨by omega, by omega⟩ (B.1 2) (rfl)  _) zw_130 (zPre1 hP hD hK) rfl hl (Nat.le_of_ble_eq_true rfl) dL_pushes_71 ⟨rfl, rfl, ⟨Nat.le_of_ble_eq_true rfl, Nat.le_of_ble_eq_true rfl⟩, Nat.le_of_ble_eq_true rfl, Nat.le_of_ble_eq_true rfl⟩ rfl) hS hP hD hA (fun r xs H locs hpost hP hD hS => ?_)
  obtain ⟨rfl, hx⟩ := hpost
  refine lv_iconst (v := nZ 4) hX hB dL_pushes_74 rfl ?_
  refine zz_icmp_ne X (tgt := 82) dL_pushes_75 (by decide) ⟨by omega, by omega⟩ ⟨by omega, by omega⟩ (fun c_75 => ?_) (fun c_75 => ?_)
  · refine lv_iconst (v := nZ 0) hX hB dL_pushes_82 rfl ?_
    refine lv_istore (lv' := [(12, .int (nZ 0)), (11, .int (nZ 1)), (10, .int (nZ (B.1 7))), (9, .int (nZ (B.1 6))), (8, .int (nZ (B.1 5))), (7, .int (nZ (coinsB B))), (6, .int (nZ (cleanAllB (push0 B x1.toNat x2)))), (5, .int (nZ e)), (3, .long (nL (printB B))), (0, .ref h), (1, .int (nZ x1)), (2, .int (nZ x2))]) hX hB dL_pushes_83 hl (by decide) rfl (fun ls hl => ?_)
    refine lv_aload_n hX hB dL_pushes_85 rfl (lv_at hl 9 rfl) ?_
    refine lv_bipush (v := nZ 7) hX hB dL_pushes_86 (by decide) ?_
    refine zc1n (zRunW (As := [.ref h, .int (nZ 7)]) X mw_count (wc_count l D k h B S K T xs hG.1 hx 7 ⟨by omega, by omega⟩ (B.1 4) (rfl)  _) zw_130 (zPre1 hP hD hK) rfl hl (Nat.le_of_ble_eq_true rfl) dL_pushes_88 ⟨rfl, rfl, ⟨Nat.le_of_ble_eq_true rfl, Nat.le_of_ble_eq_true rfl⟩, Nat.le_of_ble_eq_true rfl, Nat.le_of_ble_eq_true rfl⟩ rfl) hS hP hD hA (fun r xs H locs hpost hP hD hS => ?_)
    obtain ⟨rfl, hx⟩ := hpost
    refine lv_istore (lv' := [(13, .int (nZ (B.1 4))), (12, .int (nZ 0)), (11, .int (nZ 1)), (10, .int (nZ (B.1 7))), (9, .int (nZ (B.1 6))), (8, .int (nZ (B.1 5))), (7, .int (nZ (coinsB B))), (6, .int (nZ (cleanAllB (push0 B x1.toNat x2)))), (5, .int (nZ e)), (3, .long (nL (printB B))), (0, .ref h), (1, .int (nZ x1)), (2, .int (nZ x2))]) hX hB dL_pushes_91 hl (by decide) rfl (fun ls hl => ?_)
    refine lv_aload_n hX hB dL_pushes_93 rfl (lv_at hl 10 rfl) ?_
    refine lv_iload_n hX hB dL_pushes_94 rfl (lv_at hl 11 rfl) ?_
    refine lv_iload_n hX hB dL_pushes_95 rfl (lv_at hl 12 rfl) ?_
    obtain ⟨B96, hB96⟩ : ∃ z, pushF B x1.toNat x2 = z := ⟨_, rfl⟩
    obtain ⟨S96, hS96⟩ : ∃ z, saveL S B = z := ⟨_, rfl⟩
    refine zc1 (zRunW (As := [.ref h, .int (nZ x1), .int (nZ x2)]) X mw_push (wc_push l D k h B S K T xs hG.1 hx x1 x2 ⟨by omega, by omega⟩ ⟨by omega, by omega⟩ (-1) ((if_neg ho)) B96 hB96 S96 hS96 _) zw_239 (zPre1 hP hD hK) rfl hl (Nat.le_of_ble_eq_true rfl) dL_pushes_96 ⟨rfl, rfl, ⟨Nat.le_of_ble_eq_true rfl, Nat.le_of_ble_eq_true rfl⟩, Nat.le_of_ble_eq_true rfl, Nat.le_of_ble_eq_true rfl⟩ rfl) hS hP hD hA (fun r xs H locs hpost hP hD hS => ?_)
    obtain ⟨rfl, hx⟩ := hpost
    have hG96 : goodT (N + 1) (B96, S96, K, T) := by rw [← hB96, ← hS96]; exact hG.save (push_good hBg hj h2) (xtra_push hG.2.1 hBg.2.1 _ _)
    refine W.widen (k := 10) (n := 110) (by decide) (by decide) ?_
    refine lv_istore (lv' := [(14, .int (nZ (-1))), (13, .int (nZ (B.1 4))), (12, .int (nZ 0)), (11, .int (nZ 1)), (10, .int (nZ (B.1 7))), (9, .int (nZ (B.1 6))), (8, .int (nZ (B.1 5))), (7, .int (nZ (coinsB B))), (6, .int (nZ (cleanAllB (push0 B x1.toNat x2)))), (5, .int (nZ e)), (3, .long (nL (printB B))), (0, .ref h), (1, .int (nZ x1)), (2, .int (nZ x2))]) hX hB dL_pushes_99 hl (by decide) rfl (fun ls hl => ?_)
    refine lv_iload hX hB dL_pushes_101 (lv_at hl 9 rfl) ?_
    refine lv_bipush (v := nZ (-5)) hX hB dL_pushes_103 (by decide) ?_
    refine zz_icmp_lt X (tgt := 119) dL_pushes_105 (by decide) ⟨by omega, by omega⟩ ⟨by omega, by omega⟩ (fun c_105 => by exfalso; omega) (fun c_105 => ?_)
    refine lv_iload hX hB dL_pushes_108 (lv_at hl 9 rfl) ?_
    refine lv_bipush (v := nZ 100) hX hB dL_pushes_110 (by decide) ?_
    refine zz_icmp_gt X (tgt := 119) dL_pushes_112 (by decide) ⟨by omega, by omega⟩ ⟨by omega, by omega⟩ (fun c_112 => by exfalso; omega) (fun c_112 => ?_)
    refine lv_iconst (v := nZ 1) hX hB dL_pushes_115 rfl ?_
    refine lv_goto (tgt := 120) hX hB dL_pushes_116 (by decide) ?_
    refine lv_istore (lv' := [(15, .int (nZ 1)), (14, .int (nZ (-1))), (13, .int (nZ (B.1 4))), (12, .int (nZ 0)), (11, .int (nZ 1)), (10, .int (nZ (B.1 7))), (9, .int (nZ (B.1 6))), (8, .int (nZ (B.1 5))), (7, .int (nZ (coinsB B))), (6, .int (nZ (cleanAllB (push0 B x1.toNat x2)))), (5, .int (nZ e)), (3, .long (nL (printB B))), (0, .ref h), (1, .int (nZ x1)), (2, .int (nZ x2))]) hX hB dL_pushes_120 hl (by decide) rfl (fun ls hl => ?_)
    refine lv_iload hX hB dL_pushes_122 (lv_at hl 4 rfl) ?_
    refine zz_if_eq X (tgt := 148) dL_pushes_124 (by decide) ⟨by omega, by omega⟩ (fun c_124 => by exfalso; omega) (fun c_124 => ?_)
    refine lv_iload hX hB dL_pushes_127 (lv_at hl 0 rfl) ?_
    refine zz_if_eq X (tgt := 142) dL_pushes_129 (by decide) ⟨by omega, by omega⟩ (fun c_129 => by exfalso; omega) (fun c_129 => ?_)
    refine lv_iload hX hB dL_pushes_132 (lv_at hl 1 rfl) ?_
    refine lv_iconst (v := nZ (-1)) hX hB dL_pushes_134 rfl ?_
    refine zz_icmp_ne X (tgt := 142) dL_pushes_135 (by decide) ⟨by omega, by omega⟩ ⟨by omega, by omega⟩ (fun c_135 => by exfalso; omega) (fun c_135 => ?_)
    refine lv_iconst (v := nZ 1) hX hB dL_pushes_138 rfl ?_
    refine lv_goto (tgt := 143) hX hB dL_pushes_139 (by decide) ?_
    refine lv_istore (lv' := [(15, .int (nZ 1)), (14, .int (nZ (-1))), (13, .int (nZ (B.1 4))), (12, .int (nZ 0)), (11, .int (nZ 1)), (10, .int (nZ (B.1 7))), (9, .int (nZ (B.1 6))), (8, .int (nZ (B.1 5))), (7, .int (nZ (coinsB B))), (6, .int (nZ (cleanAllB (push0 B x1.toNat x2)))), (5, .int (nZ e)), (3, .long (nL (printB B))), (0, .ref h), (1, .int (nZ x1)), (2, .int (nZ x2))]) hX hB dL_pushes_143 hl (by decide) rfl (fun ls hl => ?_)
    refine lv_goto (tgt := 387) hX hB dL_pushes_145 (by decide) ?_
    refine lv_iload hX hB dL_pushes_387 (lv_at hl 0 rfl) ?_
    refine zz_if_eq X (tgt := 424) dL_pushes_389 (by decide) ⟨by omega, by omega⟩ (fun c_389 => by exfalso; omega) (fun c_389 => ?_)
    refine lv_aload_n hX hB dL_pushes_392 rfl (lv_at hl 12 rfl) ?_
    have hSl393 : 0 < S96.length := by rw [← hS96]; exact saveL_pos _ _
    have hSm393 : S96.length ≤ 6 := hG96.1.2.2.2
    obtain ⟨S393, hS393⟩ : ∃ z, S96.dropLast = z := ⟨_, rfl⟩
    refine zc1n (zRunW (As := [.ref h]) X mw_undo (wc_undo l D k h B96 S96 K T xs hG96.1 hx B (by rw [← hS96]; exact saveL_last _ _) ((S96.length : Int) - 1) (rfl) B (rfl) S393 hS393 _) zw_299 (zPre1 hP hD hK) rfl hl (Nat.le_of_ble_eq_true rfl) dL_pushes_393 ⟨rfl, rfl, ⟨Nat.le_of_ble_eq_true rfl, Nat.le_of_ble_eq_true rfl⟩, Nat.le_of_ble_eq_true rfl, Nat.le_of_ble_eq_true rfl⟩ rfl) hS hP hD hA (fun r xs H locs hpost hP hD hS => ?_)
    obtain ⟨rfl, hx⟩ := hpost
    have hG393 : goodT N (B, S393, K, T) := by rw [← hS393, ← hS96]; exact hG.back
    refine zz_if_lt X (tgt := 424) dL_pushes_396 (by decide) ⟨by omega, by omega⟩ (fun c_396 => by exfalso; omega) (fun c_396 => ?_)
    refine lv_aload_n hX hB dL_pushes_399 rfl (lv_at hl 12 rfl) ?_
    refine zcL1n (zRunS (As := [.ref h]) X ms_L_print (c_L_print l D k h B S393 K T xs N ⟨by omega, by omega⟩ hG393 hx  _) zw_161 (zPre1 hP hD hK) rfl hl (Nat.le_of_ble_eq_true rfl) dL_pushes_400 ⟨rfl, rfl, ⟨Nat.le_of_ble_eq_true rfl, Nat.le_of_ble_eq_true rfl⟩, Nat.le_of_ble_eq_true rfl, Nat.le_of_ble_eq_true rfl⟩ rfl) hS hP hD hA (fun r xs H locs hpost hP hD hS => ?_)
    obtain ⟨rfl, hx⟩ := hpost
    refine lv_lload_n hX hB dL_pushes_403 rfl (lv_at hl 11 rfl) ?_
    refine zs_lcmp X (rfl) dL_pushes_404 ?_
    refine zz_if_ne X (tgt := 424) dL_pushes_405 (by decide) ⟨by omega, by omega⟩ (fun c_405 => by exfalso; omega) (fun c_405 => ?_)
    refine lv_aload_n hX hB dL_pushes_408 rfl (lv_at hl 12 rfl) ?_
    refine lv_iload_n hX hB dL_pushes_409 rfl (lv_at hl 13 rfl) ?_
    refine lv_iload_n hX hB dL_pushes_410 rfl (lv_at hl 14 rfl) ?_
    refine lv_iconst (v := nZ 1) hX hB dL_pushes_411 rfl ?_
    refine zc1n (zRunW (As := [.ref h, .int (nZ x1), .int (nZ x2), .int (nZ 1)]) X mw_ends (wc_ends l D k h B S393 K T xs hG393.1 hx x1 x2 1 ⟨by omega, by omega⟩ ⟨by omega, by omega⟩ ⟨by omega, by omega⟩ e (he)  _) zw_169 (zPre1 hP hD hK) rfl hl (Nat.le_of_ble_eq_true rfl) dL_pushes_412 ⟨rfl, rfl, ⟨Nat.le_of_ble_eq_true rfl, Nat.le_of_ble_eq_true rfl⟩, Nat.le_of_ble_eq_true rfl, Nat.le_of_ble_eq_true rfl⟩ rfl) hS hP hD hA (fun r xs H locs hpost hP hD hS => ?_)
    obtain ⟨rfl, hx⟩ := hpost
    refine lv_iload hX hB dL_pushes_415 (lv_at hl 10 rfl) ?_
    refine zs_ne X (rfl) (tgt := 424) dL_pushes_417 (by decide) ?_
    refine lv_iconst (v := nZ 1) hX hB dL_pushes_420 rfl ?_
    refine lv_goto (tgt := 425) hX hB dL_pushes_421 (by decide) ?_
    refine W.widen (k := 11) (n := 119) (by decide) (by decide) ?_
    exact zRetZ xs X hP hD hS (Or.inr rfl) rfl ⟨rfl, S393, hG393, hx⟩ dL_pushes_425
  · refine lv_iconst (v := nZ 1) hX hB dL_pushes_78 rfl ?_
    refine lv_goto (tgt := 83) hX hB dL_pushes_79 (by decide) ?_
    refine lv_istore (lv' := [(12, .int (nZ 1)), (11, .int (nZ 1)), (10, .int (nZ (B.1 7))), (9, .int (nZ (B.1 6))), (8, .int (nZ (B.1 5))), (7, .int (nZ (coinsB B))), (6, .int (nZ (cleanAllB (push0 B x1.toNat x2)))), (5, .int (nZ e)), (3, .long (nL (printB B))), (0, .ref h), (1, .int (nZ x1)), (2, .int (nZ x2))]) hX hB dL_pushes_83 hl (by decide) rfl (fun ls hl => ?_)
    refine lv_aload_n hX hB dL_pushes_85 rfl (lv_at hl 9 rfl) ?_
    refine lv_bipush (v := nZ 7) hX hB dL_pushes_86 (by decide) ?_
    refine zc1n (zRunW (As := [.ref h, .int (nZ 7)]) X mw_count (wc_count l D k h B S K T xs hG.1 hx 7 ⟨by omega, by omega⟩ (B.1 4) (rfl)  _) zw_130 (zPre1 hP hD hK) rfl hl (Nat.le_of_ble_eq_true rfl) dL_pushes_88 ⟨rfl, rfl, ⟨Nat.le_of_ble_eq_true rfl, Nat.le_of_ble_eq_true rfl⟩, Nat.le_of_ble_eq_true rfl, Nat.le_of_ble_eq_true rfl⟩ rfl) hS hP hD hA (fun r xs H locs hpost hP hD hS => ?_)
    obtain ⟨rfl, hx⟩ := hpost
    refine lv_istore (lv' := [(13, .int (nZ (B.1 4))), (12, .int (nZ 1)), (11, .int (nZ 1)), (10, .int (nZ (B.1 7))), (9, .int (nZ (B.1 6))), (8, .int (nZ (B.1 5))), (7, .int (nZ (coinsB B))), (6, .int (nZ (cleanAllB (push0 B x1.toNat x2)))), (5, .int (nZ e)), (3, .long (nL (printB B))), (0, .ref h), (1, .int (nZ x1)), (2, .int (nZ x2))]) hX hB dL_pushes_91 hl (by decide) rfl (fun ls hl => ?_)
    refine lv_aload_n hX hB dL_pushes_93 rfl (lv_at hl 10 rfl) ?_
    refine lv_iload_n hX hB dL_pushes_94 rfl (lv_at hl 11 rfl) ?_
    refine lv_iload_n hX hB dL_pushes_95 rfl (lv_at hl 12 rfl) ?_
    obtain ⟨B96, hB96⟩ : ∃ z, pushF B x1.toNat x2 = z := ⟨_, rfl⟩
    obtain ⟨S96, hS96⟩ : ∃ z, saveL S B = z := ⟨_, rfl⟩
    refine zc1 (zRunW (As := [.ref h, .int (nZ x1), .int (nZ x2)]) X mw_push (wc_push l D k h B S K T xs hG.1 hx x1 x2 ⟨by omega, by omega⟩ ⟨by omega, by omega⟩ (-1) ((if_neg ho)) B96 hB96 S96 hS96 _) zw_239 (zPre1 hP hD hK) rfl hl (Nat.le_of_ble_eq_true rfl) dL_pushes_96 ⟨rfl, rfl, ⟨Nat.le_of_ble_eq_true rfl, Nat.le_of_ble_eq_true rfl⟩, Nat.le_of_ble_eq_true rfl, Nat.le_of_ble_eq_true rfl⟩ rfl) hS hP hD hA (fun r xs H locs hpost hP hD hS => ?_)
    obtain ⟨rfl, hx⟩ := hpost
    have hG96 : goodT (N + 1) (B96, S96, K, T) := by rw [← hB96, ← hS96]; exact hG.save (push_good hBg hj h2) (xtra_push hG.2.1 hBg.2.1 _ _)
    refine W.widen (k := 10) (n := 110) (by decide) (by decide) ?_
    refine lv_istore (lv' := [(14, .int (nZ (-1))), (13, .int (nZ (B.1 4))), (12, .int (nZ 1)), (11, .int (nZ 1)), (10, .int (nZ (B.1 7))), (9, .int (nZ (B.1 6))), (8, .int (nZ (B.1 5))), (7, .int (nZ (coinsB B))), (6, .int (nZ (cleanAllB (push0 B x1.toNat x2)))), (5, .int (nZ e)), (3, .long (nL (printB B))), (0, .ref h), (1, .int (nZ x1)), (2, .int (nZ x2))]) hX hB dL_pushes_99 hl (by decide) rfl (fun ls hl => ?_)
    refine lv_iload hX hB dL_pushes_101 (lv_at hl 9 rfl) ?_
    refine lv_bipush (v := nZ (-5)) hX hB dL_pushes_103 (by decide) ?_
    refine zz_icmp_lt X (tgt := 119) dL_pushes_105 (by decide) ⟨by omega, by omega⟩ ⟨by omega, by omega⟩ (fun c_105 => by exfalso; omega) (fun c_105 => ?_)
    refine lv_iload hX hB dL_pushes_108 (lv_at hl 9 rfl) ?_
    refine lv_bipush (v := nZ 100) hX hB dL_pushes_110 (by decide) ?_
    refine zz_icmp_gt X (tgt := 119) dL_pushes_112 (by decide) ⟨by omega, by omega⟩ ⟨by omega, by omega⟩ (fun c_112 => by exfalso; omega) (fun c_112 => ?_)
    refine lv_iconst (v := nZ 1) hX hB dL_pushes_115 rfl ?_
    refine lv_goto (tgt := 120) hX hB dL_pushes_116 (by decide) ?_
    refine lv_istore (lv' := [(15, .int (nZ 1)), (14, .int (nZ (-1))), (13, .int (nZ (B.1 4))), (12, .int (nZ 1)), (11, .int (nZ 1)), (10, .int (nZ (B.1 7))), (9, .int (nZ (B.1 6))), (8, .int (nZ (B.1 5))), (7, .int (nZ (coinsB B))), (6, .int (nZ (cleanAllB (push0 B x1.toNat x2)))), (5, .int (nZ e)), (3, .long (nL (printB B))), (0, .ref h), (1, .int (nZ x1)), (2, .int (nZ x2))]) hX hB dL_pushes_120 hl (by decide) rfl (fun ls hl => ?_)
    refine lv_iload hX hB dL_pushes_122 (lv_at hl 4 rfl) ?_
    refine zz_if_eq X (tgt := 148) dL_pushes_124 (by decide) ⟨by omega, by omega⟩ (fun c_124 => by exfalso; omega) (fun c_124 => ?_)
    refine lv_iload hX hB dL_pushes_127 (lv_at hl 0 rfl) ?_
    refine zz_if_eq X (tgt := 142) dL_pushes_129 (by decide) ⟨by omega, by omega⟩ (fun c_129 => by exfalso; omega) (fun c_129 => ?_)
    refine lv_iload hX hB dL_pushes_132 (lv_at hl 1 rfl) ?_
    refine lv_iconst (v := nZ (-1)) hX hB dL_pushes_134 rfl ?_
    refine zz_icmp_ne X (tgt := 142) dL_pushes_135 (by decide) ⟨by omega, by omega⟩ ⟨by omega, by omega⟩ (fun c_135 => by exfalso; omega) (fun c_135 => ?_)
    refine lv_iconst (v := nZ 1) hX hB dL_pushes_138 rfl ?_
    refine lv_goto (tgt := 143) hX hB dL_pushes_139 (by decide) ?_
    refine lv_istore (lv' := [(15, .int (nZ 1)), (14, .int (nZ (-1))), (13, .int (nZ (B.1 4))), (12, .int (nZ 1)), (11, .int (nZ 1)), (10, .int (nZ (B.1 7))), (9, .int (nZ (B.1 6))), (8, .int (nZ (B.1 5))), (7, .int (nZ (coinsB B))), (6, .int (nZ (cleanAllB (push0 B x1.toNat x2)))), (5, .int (nZ e)), (3, .long (nL (printB B))), (0, .ref h), (1, .int (nZ x1)), (2, .int (nZ x2))]) hX hB dL_pushes_143 hl (by decide) rfl (fun ls hl => ?_)
    refine lv_goto (tgt := 387) hX hB dL_pushes_145 (by decide) ?_
    refine lv_iload hX hB dL_pushes_387 (lv_at hl 0 rfl) ?_
    refine zz_if_eq X (tgt := 424) dL_pushes_389 (by decide) ⟨by omega, by omega⟩ (fun c_389 => by exfalso; omega) (fun c_389 => ?_)
    refine lv_aload_n hX hB dL_pushes_392 rfl (lv_at hl 12 rfl) ?_
    have hSl393 : 0 < S96.length := by rw [← hS96]; exact saveL_pos _ _
    have hSm393 : S96.length ≤ 6 := hG96.1.2.2.2
    obtain ⟨S393, hS393⟩ : ∃ z, S96.dropLast = z := ⟨_, rfl⟩
    refine zc1n (zRunW (As := [.ref h]) X mw_undo (wc_undo l D k h B96 S96 K T xs hG96.1 hx B (by rw [← hS96]; exact saveL_last _ _) ((S96.length : Int) - 1) (rfl) B (rfl) S393 hS393 _) zw_299 (zPre1 hP hD hK) rfl hl (Nat.le_of_ble_eq_true rfl) dL_pushes_393 ⟨rfl, rfl, ⟨Nat.le_of_ble_eq_true rfl, Nat.le_of_ble_eq_true rfl⟩, Nat.le_of_ble_eq_true rfl, Nat.le_of_ble_eq_true rfl⟩ rfl) hS hP hD hA (fun r xs H locs hpost hP hD hS => ?_)
    obtain ⟨rfl, hx⟩ := hpost
    have hG393 : goodT N (B, S393, K, T) := by rw [← hS393, ← hS96]; exact hG.back
    refine zz_if_lt X (tgt := 424) dL_pushes_396 (by decide) ⟨by omega, by omega⟩ (fun c_396 => by exfalso; omega) (fun c_396 => ?_)
    refine lv_aload_n hX hB dL_pushes_399 rfl (lv_at hl 12 rfl) ?_
    refine zcL1n (zRunS (As := [.ref h]) X ms_L_print (c_L_print l D k h B S393 K T xs N ⟨by omega, by omega⟩ hG393 hx  _) zw_161 (zPre1 hP hD hK) rfl hl (Nat.le_of_ble_eq_true rfl) dL_pushes_400 ⟨rfl, rfl, ⟨Nat.le_of_ble_eq_true rfl, Nat.le_of_ble_eq_true rfl⟩, Nat.le_of_ble_eq_true rfl, Nat.le_of_ble_eq_true rfl⟩ rfl) hS hP hD hA (fun r xs H locs hpost hP hD hS => ?_)
    obtain ⟨rfl, hx⟩ := hpost
    refine lv_lload_n hX hB dL_pushes_403 rfl (lv_at hl 11 rfl) ?_
    refine zs_lcmp X (rfl) dL_pushes_404 ?_
    refine zz_if_ne X (tgt := 424) dL_pushes_405 (by decide) ⟨by omega, by omega⟩ (fun c_405 => by exfalso; omega) (fun c_405 => ?_)
    refine lv_aload_n hX hB dL_pushes_408 rfl (lv_at hl 12 rfl) ?_
    refine lv_iload_n hX hB dL_pushes_409 rfl (lv_at hl 13 rfl) ?_
    refine lv_iload_n hX hB dL_pushes_410 rfl (lv_at hl 14 rfl) ?_
    refine lv_iconst (v := nZ 1) hX hB dL_pushes_411 rfl ?_
    refine zc1n (zRunW (As := [.ref h, .int (nZ x1), .int (nZ x2), .int (nZ 1)]) X mw_ends (wc_ends l D k h B S393 K T xs hG393.1 hx x1 x2 1 ⟨by omega, by omega⟩ ⟨by omega, by omega⟩ ⟨by omega, by omega⟩ e (he)  _) zw_169 (zPre1 hP hD hK) rfl hl (Nat.le_of_ble_eq_true rfl) dL_pushes_412 ⟨rfl, rfl, ⟨Nat.le_of_ble_eq_true rfl, Nat.le_of_ble_eq_true rfl⟩, Nat.le_of_ble_eq_true rfl, Nat.le_of_ble_eq_true rfl⟩ rfl) hS hP hD hA (fun r xs H locs hpost hP hD hS => ?_)
    obtain ⟨rfl, hx⟩ := hpost
    refine lv_iload hX hB dL_pushes_415 (lv_at hl 10 rfl) ?_
    refine zs_ne X (rfl) (tgt := 424) dL_pushes_417 (by decide) ?_
    refine lv_iconst (v := nZ 1) hX hB dL_pushes_420 rfl ?_
    refine lv_goto (tgt := 425) hX hB dL_pushes_421 (by decide) ?_
    refine W.widen (k := 11) (n := 119) (by decide) (by decide) ?_
    exact zRetZ xs X hP hD hS (Or.inr rfl) rfl ⟨rfl, S393, hG393, hx⟩ dL_pushes_425
set_option maxHeartbeats 2000000 in
set_option maxRecDepth 100000 in
theorem c_L_pushes_last (l : Launch) (D : va_G) (k : Nat → ClassId) (h : Nat) (B : Bd) (S : List Bd) (K : Nat → Option Bd) (T : List Int) (xs : va_W) (N : Int) (hN : 0 ≤ N ∧ N < 900000) (hG : goodT N (B, S, K, T)) (hx : isX k h (B, S, K, T) xs) (x1 x2 : Int) (h1 : 0 ≤ x1 ∧ x1 ≤ 2) (h2 : 1 ≤ x2 ∧ x2 ≤ 150) (h3 : B.1 3 = 0) (h4 : B.1 2 = 4) : ∀ sz, Met l yL_pushes (zW yL_pushes cL_pushes 19 (some .boolean)) ({ frames := 11, cells := 11, slots := 119, locals := 360 } : Room) (va_Pc [.ref h, .int (nZ x1), .int (nZ x2)] (zIn D k sz xs)) (va_Qi (fun (r : Int32) (u : va_W) => r = nZ 1 ∧ ∃ S2, goodT N (B, S2, K, T) ∧ isX k h (B, S2, K, T) u) (fun u => zOut D (va_A xs sz) u) (va_A xs sz)) 11 119 (va_A xs sz) := by
  intro sz
  refine zEnter (Qf := fun A => va_Qi (fun (r : Int32) (u : va_W) => r = nZ 1 ∧ ∃ S2, goodT N (B, S2, K, T) ∧ isX k h (B, S2, K, T) u) (fun u => zOut D A u) A) RL (by decide) rfl (Nat.le_of_ble_eq_true rfl) ?_
  intro p9 e9 s9 m9 be9 me9 c9 ls A X hin hP hD hS hA hAe hl
  have hX := X.1; have hB := X.2.1; have hz := X.2.2.2.2.1; have hW := X.2.2.2.2.2.1; have hK := X.2.2.2.2.2.2.2; clear hAe; clear hin
  have hl : lv_has ls 19 [(0, .ref h), (1, .int (nZ x1)), (2, .int (nZ x2))] := hl
  have hBg : bdGood B := hG.1.1
  obtain ⟨w0, w1, w2, w3, w4, hC0, hC1, hC2⟩ := id hBg
  have hj : x1.toNat < 3 := by omega
  obtain ⟨e, he⟩ : ∃ v, lastL (B.1 0) x2 (B.2 x1.toNat) = v := ⟨_, rfl⟩
  obtain ⟨hea, heb, hec, hed⟩ := end_at hBg hj h2.1 he
  change endP ((push1 B x1.toNat x2).2 x1.toNat) e at heb
  refine lv_aload_n hX hB dL_pushes_0 rfl (lv_at hl 0 rfl) ?_
  refine zcL1n (zRunS (As := [.ref h]) X ms_L_print (c_L_print l D k h B S K T xs N ⟨by omega, by omega⟩ hG hx  _) zw_161 (zPre1 hP hD hK) rfl hl (Nat.le_of_ble_eq_true rfl) dL_pushes_1 ⟨rfl, rfl, ⟨Nat.le_of_ble_eq_true rfl, Nat.le_of_ble_eq_true rfl⟩, Nat.le_of_ble_eq_true rfl, Nat.le_of_ble_eq_true rfl⟩ rfl) hS hP hD hA (fun r xs H locs hpost hP hD hS => ?_)
  obtain ⟨rfl, hx⟩ := hpost
  refine lv_lstore_n (lv' := [(3, .long (nL (printB B))), (0, .ref h), (1, .int (nZ x1)), (2, .int (nZ x2))]) hX hB dL_pushes_4 rfl hl (by decide) rfl (fun ls hl => ?_)
  refine lv_aload_n hX hB dL_pushes_5 rfl (lv_at hl 1 rfl) ?_
  refine lv_iload_n hX hB dL_pushes_6 rfl (lv_at hl 2 rfl) ?_
  refine lv_iload_n hX hB dL_pushes_7 rfl (lv_at hl 3 rfl) ?_
  refine lv_iconst (v := nZ 0) hX hB dL_pushes_8 rfl ?_
  refine zc1n (zRunW (As := [.ref h, .int (nZ x1), .int (nZ x2), .int (nZ 0)]) X mw_ends (wc_ends l D k h B S K T xs hG.1 hx x1 x2 0 ⟨by omega, by omega⟩ ⟨by omega, by omega⟩ ⟨by omega, by omega⟩ e (he)  _) zw_169 (zPre1 hP hD hK) rfl hl (Nat.le_of_ble_eq_true rfl) dL_pushes_9 ⟨rfl, rfl, ⟨Nat.le_of_ble_eq_true rfl, Nat.le_of_ble_eq_true rfl⟩, Nat.le_of_ble_eq_true rfl, Nat.le_of_ble_eq_true rfl⟩ rfl) hS hP hD hA (fun r xs H locs hpost hP hD hS => ?_)
  obtain ⟨rfl, hx⟩ := hpost
  refine lv_istore (lv' := [(5, .int (nZ e)), (3, .long (nL (printB B))), (0, .ref h), (1, .int (nZ x1)), (2, .int (nZ x2))]) hX hB dL_pushes_12 hl (by decide) rfl (fun ls hl => ?_)
  refine lv_aload_n hX hB dL_pushes_14 rfl (lv_at hl 2 rfl) ?_
  refine lv_iload_n hX hB dL_pushes_15 rfl (lv_at hl 3 rfl) ?_
  refine lv_iload_n hX hB dL_pushes_16 rfl (lv_at hl 4 rfl) ?_
  refine zc1n (zRunW (As := [.ref h, .int (nZ x1), .int (nZ x2)]) X mw_ifPushed (wc_ifPushed l D k h B S K T xs hG.1 hx x1 x2 ⟨by omega, by omega⟩ ⟨by omega, by omega⟩ (cleanAllB (push0 B x1.toNat x2)) (rfl)  _) zw_232 (zPre1 hP hD hK) rfl hl (Nat.le_of_ble_eq_true rfl) dL_pushes_17 ⟨rfl, rfl, ⟨Nat.le_of_ble_eq_true rfl, Nat.le_of_ble_eq_true rfl⟩, Nat.le_of_ble_eq_true rfl, Nat.le_of_ble_eq_true rfl⟩ rfl) hS hP hD hA (fun r xs H locs hpost hP hD hS => ?_)
  obtain ⟨rfl, hx⟩ := hpost
  refine lv_istore (lv' := [(6, .int (nZ (cleanAllB (push0 B x1.toNat x2)))), (5, .int (nZ e)), (3, .long (nL (printB B))), (0, .ref h), (1, .int (nZ x1)), (2, .int (nZ x2))]) hX hB dL_pushes_20 hl (by decide) rfl (fun ls hl => ?_)
  refine lv_aload_n hX hB dL_pushes_22 rfl (lv_at hl 3 rfl) ?_
  refine lv_iconst (v := nZ 2) hX hB dL_pushes_23 rfl ?_
  refine zc1n (zRunW (As := [.ref h, .int (nZ 2)]) X mw_count (wc_count l D k h B S K T xs hG.1 hx 2 ⟨by omega, by omega⟩ (coinsB B) (rfl)  _) zw_130 (zPre1 hP hD hK) rfl hl (Nat.le_of_ble_eq_true rfl) dL_pushes_24 ⟨rfl, rfl, ⟨Nat.le_of_ble_eq_true rfl, Nat.le_of_ble_eq_true rfl⟩, Nat.le_of_ble_eq_true rfl, Nat.le_of_ble_eq_true rfl⟩ rfl) hS hP hD hA (fun r xs H locs hpost hP hD hS => ?_)
  obtain ⟨rfl, hx⟩ := hpost
  refine lv_istore (lv' := [(7, .int (nZ (coinsB B))), (6, .int (nZ (cleanAllB (push0 B x1.toNat x2)))), (5, .int (nZ e)), (3, .long (nL (printB B))), (0, .ref h), (1, .int (nZ x1)), (2, .int (nZ x2))]) hX hB dL_pushes_27 hl (by decide) rfl (fun ls hl => ?_)
  refine lv_aload_n hX hB dL_pushes_29 rfl (lv_at hl 4 rfl) ?_
  refine lv_bipush (v := nZ 8) hX hB dL_pushes_30 (by decide) ?_
  refine zc1n (zRunW (As := [.ref h, .int (nZ 8)]) X mw_count (wc_count l D k h B S K T xs hG.1 hx 8 ⟨by omega, by omega⟩ (B.1 5) (rfl)  _) zw_130 (zPre1 hP hD hK) rfl hl (Nat.le_of_ble_eq_true rfl) dL_pushes_32 ⟨rfl, rfl, ⟨Nat.le_of_ble_eq_true rfl, Nat.le_of_ble_eq_true rfl⟩, Nat.le_of_ble_eq_true rfl, Nat.le_of_ble_eq_true rfl⟩ rfl) hS hP hD hA (fun r xs H locs hpost hP hD hS => ?_)
  obtain ⟨rfl, hx⟩ := hpost
  refine lv_istore (lv' := [(8, .int (nZ (B.1 5))), (7, .int (nZ (coinsB B))), (6, .int (nZ (cleanAllB (push0 B x1.toNat x2)))), (5, .int (nZ e)), (3, .long (nL (printB B))), (0, .ref h), (1, .int (nZ x1)), (2, .int (nZ x2))]) hX hB dL_pushes_35 hl (by decide) rfl (fun ls hl => ?_)
  refine lv_aload_n hX hB dL_pushes_37 rfl (lv_at hl 5 rfl) ?_
  refine lv_bipush (v := nZ 9) hX hB dL_pushes_38 (by decide) ?_
  refine zc1n (zRunW (As := [.ref h, .int (nZ 9)]) X mw_count (wc_count l D k h B S K T xs hG.1 hx 9 ⟨by omega, by omega⟩ (B.1 6) (rfl)  _) zw_130 (zPre1 hP hD hK) rfl hl (Nat.le_of_ble_eq_true rfl) dL_pushes_40 ⟨rfl, rfl, ⟨Nat.le_of_ble_eq_true rfl, Nat.le_of_ble_eq_true rfl⟩, Nat.le_of_ble_eq_true rfl, Nat.le_of_ble_eq_true rfl⟩ rfl) hS hP hD hA (fun r xs H locs hpost hP hD hS => ?_)
  obtain ⟨rfl, hx⟩ := hpost
  refine lv_istore (lv' := [(9, .int (nZ (B.1 6))), (8, .int (nZ (B.1 5))), (7, .int (nZ (coinsB B))), (6, .int (nZ (cleanAllB (push0 B x1.toNat x2)))), (5, .int (nZ e)), (3, .long (nL (printB B))), (0, .ref h), (1, .int (nZ x1)), (2, .int (nZ x2))]) hX hB dL_pushes_43 hl (by decide) rfl (fun ls hl => ?_)
  refine lv_aload_n hX hB dL_pushes_45 rfl (lv_at hl 6 rfl) ?_
  refine lv_bipush (v := nZ 10) hX hB dL_pushes_46 (by decide) ?_
  refine zc1n (zRunW (As := [.ref h, .int (nZ 10)]) X mw_count (wc_count l D k h B S K T xs hG.1 hx 10 ⟨by omega, by omega⟩ (B.1 7) (rfl)  _) zw_130 (zPre1 hP hD hK) rfl hl (Nat.le_of_ble_eq_true rfl) dL_pushes_48 ⟨rfl, rfl, ⟨Nat.le_of_ble_eq_true rfl, Nat.le_of_ble_eq_true rfl⟩, Nat.le_of_ble_eq_true rfl, Nat.le_of_ble_eq_true rfl⟩ rfl) hS hP hD hA (fun r xs H locs hpost hP hD hS => ?_)
  obtain ⟨rfl, hx⟩ := hpost
  refine lv_istore (lv' := [(10, .int (nZ (B.1 7))), (9, .int (nZ (B.1 6))), (8, .int (nZ (B.1 5))), (7, .int (nZ (coinsB B))), (6, .int (nZ (cleanAllB (push0 B x1.toNat x2)))), (5, .int (nZ e)), (3, .long (nL (printB B))), (0, .ref h), (1, .int (nZ x1)), (2, .int (nZ x2))]) hX hB dL_pushes_51 hl (by decide) rfl (fun ls hl => ?_)
  refine lv_aload_n hX hB dL_pushes_53 rfl (lv_at hl 7 rfl) ?_
  refine lv_bipush (v := nZ 6) hX hB dL_pushes_54 (by decide) ?_
  refine zc1n (zRunW (As := [.ref h, .int (nZ 6)]) X mw_count (wc_count l D k h B S K T xs hG.1 hx 6 ⟨by omega, by omega⟩ (B.1 3) (rfl)  _) zw_130 (zPre1 hP hD hK) rfl hl (Nat.le_of_ble_eq_true rfl) dL_pushes_56 ⟨rfl, rfl, ⟨Nat.le_of_ble_eq_true rfl, Nat.le_of_ble_eq_true rfl⟩, Nat.le_of_ble_eq_true rfl, Nat.le_of_ble_eq_true rfl⟩ rfl) hS hP hD hA (fun r xs H locs hpost hP hD hS => ?_)
  obtain ⟨rfl, hx⟩ := hpost
  refine zz_if_le X (tgt := 66) dL_pushes_59 (by decide) ⟨by omega, by omega⟩ (fun c_59 => ?_) (fun c_59 => by exfalso; omega)
  refine lv_iconst (v := nZ 0) hX hB dL_pushes_66 rfl ?_
  refine lv_istore (lv' := [(11, .int (nZ 0)), (10, .int (nZ (B.1 7))), (9, .int (nZ (B.1 6))), (8, .int (nZ (B.1 5))), (7, .int (nZ (coinsB B))), (6, .int (nZ (cleanAllB (push0 B x1.toNat x2)))), (5, .int (nZ e)), (3, .long (nL (printB B))), (0, .ref h), (1, .int (nZ x1)), (2, .int (nZ x2))]) hX hB dL_pushes_67 hl (by decide) rfl (fun ls hl => ?_)
  refine lv_aload_n hX hB dL_pushes_69 rfl (lv_at hl 8 rfl) ?_
  refine lv_iconst (v := nZ 1) hX hB dL_pushes_70 rfl ?_
  refine zc1n (zRunW (As := [.ref h, .int (nZ 1)]) X mw_count (wc_count l D k h B S K T xs hG.1 hx 1 ⟨by omega, by omega⟩ (B.1 2) (rfl)  _) zw_130 (zPre1 hP hD hK) rfl hl (Nat.le_of_ble_eq_true rfl) dL_pushes_71 ⟨rfl, rfl, ⟨Nat.le_of_ble_eq_true rfl, Nat.le_of_ble_eq_true rfl⟩, Nat.le_of_ble_eq_true rfl, Nat.le_of_ble_eq_true rfl⟩ rfl) hS hP hD hA (fun r xs H locs hpost hP hD hS => ?_)
  obtain ⟨rfl, hx⟩ := hpost
  refine lv_iconst (v := nZ 4) hX hB dL_pushes_74 rfl ?_
  refine zz_icmp_ne X (tgt := 82) dL_pushes_75 (by decide) ⟨by omega, by omega⟩ ⟨by omega, by omega⟩ (fun c_75 => by exfalso; omega) (fun c_75 => ?_)
  refine lv_iconst (v := nZ 1) hX hB dL_pushes_78 rfl ?_
  refine lv_goto (tgt := 83) hX hB dL_pushes_79 (by decide) ?_
  refine lv_istore (lv' := [(12, .int (nZ 1)), (11, .int (nZ 0)), (10, .int (nZ (B.1 7))), (9, .int (nZ (B.1 6))), (8, .int (nZ (B.1 5))), (7, .int (nZ (coinsB B))), (6, .int (nZ (cleanAllB (push0 B x1.toNat x2)))), (5, .int (nZ e)), (3, .long (nL (printB B))), (0, .ref h), (1, .int (nZ x1)), (2, .int (nZ x2))]) hX hB dL_pushes_83 hl (by decide) rfl (fun ls hl => ?_)
  refine lv_aload_n hX hB dL_pushes_85 rfl (lv_at hl 9 rfl) ?_
  refine lv_bipush (v := nZ 7) hX hB dL_pushes_86 (by decide) ?_
  refine zc1n (zRunW (As := [.ref h, .int (nZ 7)]) X mw_count (wc_count l D k h B S K T xs hG.1 hx 7 ⟨by omega, by omega⟩ (B.1 4) (rfl)  _) zw_130 (zPre1 hP hD hK) rfl hl (Nat.le_of_ble_eq_true rfl) dL_pushes_88 ⟨rfl, rfl, ⟨Nat.le_of_ble_eq_true rfl, Nat.le_of_ble_eq_true rfl⟩, Nat.le_of_ble_eq_true rfl, Nat.le_of_ble_eq_true rfl⟩ rfl) hS hP hD hA (fun r xs H locs hpost hP hD hS => ?_)
  obtain ⟨rfl, hx⟩ := hpost
  refine lv_istore (lv' := [(13, .int (nZ (B.1 4))), (12, .int (nZ 1)), (11, .int (nZ 0)), (10, .int (nZ (B.1 7))), (9, .int (nZ (B.1 6))), (8, .int (nZ (B.1 5))), (7, .int (nZ (coinsB B))), (6, .int (nZ (cleanAllB (push0 B x1.toNat x2)))), (5, .int (nZ e)), (3, .long (nL (printB B))), (0, .ref h), (1, .int (nZ x1)), (2, .int (nZ x2))]) hX hB dL_pushes_91 hl (by decide) rfl (fun ls hl => ?_)
  refine lv_aload_n hX hB dL_pushes_93 rfl (lv_at hl 10 rfl) ?_
  refine lv_iload_n hX hB dL_pushes_94 rfl (lv_at hl 11 rfl) ?_
  refine lv_iload_n hX hB dL_pushes_95 rfl (lv_at hl 12 rfl) ?_
  obtain ⟨nd96, hnd96⟩ : ∃ v, nudS (B.1 0) x2 (B.2 x1.toNat) = v := ⟨_, rfl⟩
  have hnr96 := nud_rng hBg (j := x1.toNat) (by omega) x2
  rw [hnd96] at hnr96
  obtain ⟨B96, hB96⟩ : ∃ z, pushF B x1.toNat x2 = z := ⟨_, rfl⟩
  obtain ⟨S96, hS96⟩ : ∃ z, saveL S B = z := ⟨_, rfl⟩
  refine zc1 (zRunW (As := [.ref h, .int (nZ x1), .int (nZ x2)]) X mw_push (wc_push l D k h B S K T xs hG.1 hx x1 x2 ⟨by omega, by omega⟩ ⟨by omega, by omega⟩ nd96 ((by rw [if_pos h3]; exact hnd96)) B96 hB96 S96 hS96 _) zw_239 (zPre1 hP hD hK) rfl hl (Nat.le_of_ble_eq_true rfl) dL_pushes_96 ⟨rfl, rfl, ⟨Nat.le_of_ble_eq_true rfl, Nat.le_of_ble_eq_true rfl⟩, Nat.le_of_ble_eq_true rfl, Nat.le_of_ble_eq_true rfl⟩ rfl) hS hP hD hA (fun r xs H locs hpost hP hD hS => ?_)
  obtain ⟨rfl, hx⟩ := hpost
  have hG96 : goodT (N + 1) (B96, S96, K, T) := by rw [← hB96, ← hS96]; exact hG.save (push_good hBg (by omega) ⟨by omega, by omega⟩) (xtra_push hG.2.1 hBg.2.1 _ _)
  refine W.widen (k := 10) (n := 110) (by decide) (by decide) ?_
  refine lv_istore (lv' := [(14, .int (nZ nd96)), (13, .int (nZ (B.1 4))), (12, .int (nZ 1)), (11, .int (nZ 0)), (10, .int (nZ (B.1 7))), (9, .int (nZ (B.1 6))), (8, .int (nZ (B.1 5))), (7, .int (nZ (coinsB B))), (6, .int (nZ (cleanAllB (push0 B x1.toNat x2)))), (5, .int (nZ e)), (3, .long (nL (printB B))), (0, .ref h), (1, .int (nZ x1)), (2, .int (nZ x2))]) hX hB dL_pushes_99 hl (by decide) rfl (fun ls hl => ?_)
  refine lv_iload hX hB dL_pushes_101 (lv_at hl 9 rfl) ?_
  refine lv_bipush (v := nZ (-5)) hX hB dL_pushes_103 (by decide) ?_
  refine zz_icmp_lt X (tgt := 119) dL_pushes_105 (by decide) ⟨by omega, by omega⟩ ⟨by omega, by omega⟩ (fun c_105 => by exfalso; omega) (fun c_105 => ?_)
  refine lv_iload hX hB dL_pushes_108 (lv_at hl 9 rfl) ?_
  refine lv_bipush (v := nZ 100) hX hB dL_pushes_110 (by decide) ?_
  refine zz_icmp_gt X (tgt := 119) dL_pushes_112 (by decide) ⟨by omega, by omega⟩ ⟨by omega, by omega⟩ (fun c_112 => by exfalso; omega) (fun c_112 => ?_)
  refine lv_iconst (v := nZ 1) hX hB dL_pushes_115 rfl ?_
  refine lv_goto (tgt := 120) hX hB dL_pushes_116 (by decide) ?_
  refine lv_istore (lv' := [(15, .int (nZ 1)), (14, .int (nZ nd96)), (13, .int (nZ (B.1 4))), (12, .int (nZ 1)), (11, .int (nZ 0)), (10, .int (nZ (B.1 7))), (9, .int (nZ (B.1 6))), (8, .int (nZ (B.1 5))), (7, .int (nZ (coinsB B))), (6, .int (nZ (cleanAllB (push0 B x1.toNat x2)))), (5, .int (nZ e)), (3, .long (nL (printB B))), (0, .ref h), (1, .int (nZ x1)), (2, .int (nZ x2))]) hX hB dL_pushes_120 hl (by decide) rfl (fun ls hl => ?_)
  refine lv_iload hX hB dL_pushes_122 (lv_at hl 4 rfl) ?_
  refine zz_if_eq X (tgt := 148) dL_pushes_124 (by decide) ⟨by omega, by omega⟩ (fun c_124 => ?_) (fun c_124 => by exfalso; omega)
  refine lv_iload hX hB dL_pushes_148 (lv_at hl 3 rfl) ?_
  refine zz_if_eq X (tgt := 202) dL_pushes_150 (by decide) ⟨by omega, by omega⟩ (fun c_150 => by exfalso; omega) (fun c_150 => ?_)
  refine lv_iload hX hB dL_pushes_153 (lv_at hl 0 rfl) ?_
  refine zz_if_eq X (tgt := 196) dL_pushes_155 (by decide) ⟨by omega, by omega⟩ (fun c_155 => by exfalso; omega) (fun c_155 => ?_)
  refine lv_iload hX hB dL_pushes_158 (lv_at hl 1 rfl) ?_
  refine zz_if_lt X (tgt := 196) dL_pushes_160 (by decide) ⟨by omega, by omega⟩ (fun c_160 => by exfalso; omega) (fun c_160 => ?_)
  refine lv_aload_n hX hB dL_pushes_163 rfl (lv_at hl 12 rfl) ?_
  refine lv_bipush (v := nZ 7) hX hB dL_pushes_164 (by decide) ?_
  refine zc1n (zRunW (As := [.ref h, .int (nZ 7)]) X mw_count (wc_count l D k h B96 S96 K T xs hG96.1 hx 7 ⟨by omega, by omega⟩ (B.1 4 + 1) ((by rw [← hB96, pushF_last h3 h4]; rfl))  _) zw_130 (zPre1 hP hD hK) rfl hl (Nat.le_of_ble_eq_true rfl) dL_pushes_166 ⟨rfl, rfl, ⟨Nat.le_of_ble_eq_true rfl, Nat.le_of_ble_eq_true rfl⟩, Nat.le_of_ble_eq_true rfl, Nat.le_of_ble_eq_true rfl⟩ rfl) hS hP hD hA (fun r xs H locs hpost hP hD hS => ?_)
  obtain ⟨rfl, hx⟩ := hpost
  refine lv_iload hX hB dL_pushes_169 (lv_at hl 2 rfl) ?_
  refine lv_iconst (v := nZ 1) hX hB dL_pushes_171 rfl ?_
  refine zz_iadd X dL_pushes_172 (z := ((B.1 4) + 1)) (by first | rfl | omega) ?_
  refine zs_ne X (rfl) (tgt := 196) dL_pushes_173 (by decide) ?_
  refine lv_aload_n hX hB dL_pushes_176 rfl (lv_at hl 12 rfl) ?_
  refine lv_iconst (v := nZ 2) hX hB dL_pushes_177 rfl ?_
  refine zc1n (zRunW (As := [.ref h, .int (nZ 2)]) X mw_count (wc_count l D k h B96 S96 K T xs hG96.1 hx 2 ⟨by omega, by omega⟩ 0 ((by rw [← hB96, pushF_last h3 h4]; rfl))  _) zw_130 (zPre1 hP hD hK) rfl hl (Nat.le_of_ble_eq_true rfl) dL_pushes_178 ⟨rfl, rfl, ⟨Nat.le_of_ble_eq_true rfl, Nat.le_of_ble_eq_true rfl⟩, Nat.le_of_ble_eq_true rfl, Nat.le_of_ble_eq_true rfl⟩ rfl) hS hP hD hA (fun r xs H locs hpost hP hD hS => ?_)
  obtain ⟨rfl, hx⟩ := hpost
  refine zz_if_ne X (tgt := 196) dL_pushes_181 (by decide) ⟨by omega, by omega⟩ (fun c_181 => by exfalso; omega) (fun c_181 => ?_)
  refine lv_aload_n hX hB dL_pushes_184 rfl (lv_at hl 12 rfl) ?_
  refine lv_iconst (v := nZ 1) hX hB dL_pushes_185 rfl ?_
  refine zc1n (zRunW (As := [.ref h, .int (nZ 1)]) X mw_count (wc_count l D k h B96 S96 K T xs hG96.1 hx 1 ⟨by omega, by omega⟩ 0 ((by rw [← hB96, pushF_last h3 h4]; rfl))  _) zw_130 (zPre1 hP hD hK) rfl hl (Nat.le_of_ble_eq_true rfl) dL_pushes_186 ⟨rfl, rfl, ⟨Nat.le_of_ble_eq_true rfl, Nat.le_of_ble_eq_true rfl⟩, Nat.le_of_ble_eq_true rfl, Nat.le_of_ble_eq_true rfl⟩ rfl) hS hP hD hA (fun r xs H locs hpost hP hD hS => ?_)
  obtain ⟨rfl, hx⟩ := hpost
  refine zz_if_ne X (tgt := 196) dL_pushes_189 (by decide) ⟨by omega, by omega⟩ (fun c_189 => by exfalso; omega) (fun c_189 => ?_)
  refine lv_iconst (v := nZ 1) hX hB dL_pushes_192 rfl ?_
  refine lv_goto (tgt := 197) hX hB dL_pushes_193 (by decide) ?_
  refine lv_istore (lv' := [(15, .int (nZ 1)), (14, .int (nZ nd96)), (13, .int (nZ (B.1 4))), (12, .int (nZ 1)), (11, .int (nZ 0)), (10, .int (nZ (B.1 7))), (9, .int (nZ (B.1 6))), (8, .int (nZ (B.1 5))), (7, .int (nZ (coinsB B))), (6, .int (nZ (cleanAllB (push0 B x1.toNat x2)))), (5, .int (nZ e)), (3, .long (nL (printB B))), (0, .ref h), (1, .int (nZ x1)), (2, .int (nZ x2))]) hX hB dL_pushes_197 hl (by decide) rfl (fun ls hl => ?_)
  refine lv_goto (tgt := 387) hX hB dL_pushes_199 (by decide) ?_
  refine lv_iload hX hB dL_pushes_387 (lv_at hl 0 rfl) ?_
  refine zz_if_eq X (tgt := 424) dL_pushes_389 (by decide) ⟨by omega, by omega⟩ (fun c_389 => by exfalso; omega) (fun c_389 => ?_)
  refine lv_aload_n hX hB dL_pushes_392 rfl (lv_at hl 12 rfl) ?_
  have hSl393 : 0 < S96.length := by rw [← hS96]; exact saveL_pos _ _
  have hSm393 : S96.length ≤ 6 := hG96.1.2.2.2
  obtain ⟨S393, hS393⟩ : ∃ z, S96.dropLast = z := ⟨_, rfl⟩
  refine zc1n (zRunW (As := [.ref h]) X mw_undo (wc_undo l D k h B96 S96 K T xs hG96.1 hx B (by rw [← hS96]; exact saveL_last _ _) ((S96.length : Int) - 1) (rfl) B (rfl) S393 hS393 _) zw_299 (zPre1 hP hD hK) rfl hl (Nat.le_of_ble_eq_true rfl) dL_pushes_393 ⟨rfl, rfl, ⟨Nat.le_of_ble_eq_true rfl, Nat.le_of_ble_eq_true rfl⟩, Nat.le_of_ble_eq_true rfl, Nat.le_of_ble_eq_true rfl⟩ rfl) hS hP hD hA (fun r xs H locs hpost hP hD hS => ?_)
  obtain ⟨rfl, hx⟩ := hpost
  have hG393 : goodT N (B, S393, K, T) := by rw [← hS393, ← hS96]; exact hG.back
  refine zz_if_lt X (tgt := 424) dL_pushes_396 (by decide) ⟨by omega, by omega⟩ (fun c_396 => by exfalso; omega) (fun c_396 => ?_)
  refine lv_aload_n hX hB dL_pushes_399 rfl (lv_at hl 12 rfl) ?_
  refine zcL1n (zRunS (As := [.ref h]) X ms_L_print (c_L_print l D k h B S393 K T xs N ⟨by omega, by omega⟩ hG393 hx  _) zw_161 (zPre1 hP hD hK) rfl hl (Nat.le_of_ble_eq_true rfl) dL_pushes_400 ⟨rfl, rfl, ⟨Nat.le_of_ble_eq_true rfl, Nat.le_of_ble_eq_true rfl⟩, Nat.le_of_ble_eq_true rfl, Nat.le_of_ble_eq_true rfl⟩ rfl) hS hP hD hA (fun r xs H locs hpost hP hD hS => ?_)
  obtain ⟨rfl, hx⟩ := hpost
  refine lv_lload_n hX hB dL_pushes_403 rfl (lv_at hl 11 rfl) ?_
  refine zs_lcmp X (rfl) dL_pushes_404 ?_
  refine zz_if_ne X (tgt := 424) dL_pushes_405 (by decide) ⟨by omega, by omega⟩ (fun c_405 => by exfalso; omega) (fun c_405 => ?_)
  refine lv_aload_n hX hB dL_pushes_408 rfl (lv_at hl 12 rfl) ?_
  refine lv_iload_n hX hB dL_pushes_409 rfl (lv_at hl 13 rfl) ?_
  refine lv_iload_n hX hB dL_pushes_410 rfl (lv_at hl 14 rfl) ?_
  refine lv_iconst (v := nZ 1) hX hB dL_pushes_411 rfl ?_
  refine zc1n (zRunW (As := [.ref h, .int (nZ x1), .int (nZ x2), .int (nZ 1)]) X mw_ends (wc_ends l D k h B S393 K T xs hG393.1 hx x1 x2 1 ⟨by omega, by omega⟩ ⟨by omega, by omega⟩ ⟨by omega, by omega⟩ e (he)  _) zw_169 (zPre1 hP hD hK) rfl hl (Nat.le_of_ble_eq_true rfl) dL_pushes_412 ⟨rfl, rfl, ⟨Nat.le_of_ble_eq_true rfl, Nat.le_of_ble_eq_true rfl⟩, Nat.le_of_ble_eq_true rfl, Nat.le_of_ble_eq_true rfl⟩ rfl) hS hP hD hA (fun r xs H locs hpost hP hD hS => ?_)
  obtain ⟨rfl, hx⟩ := hpost
  refine lv_iload hX hB dL_pushes_415 (lv_at hl 10 rfl) ?_
  refine zs_ne X (rfl) (tgt := 424) dL_pushes_417 (by decide) ?_
  refine lv_iconst (v := nZ 1) hX hB dL_pushes_420 rfl ?_
  refine lv_goto (tgt := 425) hX hB dL_pushes_421 (by decide) ?_
  refine W.widen (k := 11) (n := 119) (by decide) (by decide) ?_
  exact zRetZ xs X hP hD hS (Or.inr rfl) rfl ⟨rfl, S393, hG393, hx⟩ dL_pushes_425
set_option maxHeartbeats 2000000 in
set_option maxRecDepth 100000 in
theorem c_L_pushes_go (l : Launch) (D : va_G) (k : Nat → ClassId) (h : Nat) (B : Bd) (S : List Bd) (K : Nat → Option Bd) (T : List Int) (xs : va_W) (N : Int) (hN : 0 ≤ N ∧ N < 900000) (hG : goodT N (B, S, K, T)) (hx : isX k h (B, S, K, T) xs) (x1 x2 : Int) (h1 : 0 ≤ x1 ∧ x1 ≤ 2) (h2 : 1 ≤ x2 ∧ x2 ≤ 150) (h3 : B.1 3 = 0) (h4 : B.1 2 < 4) : ∀ sz, Met l yL_pushes (zW yL_pushes cL_pushes 19 (some .boolean)) ({ frames := 11, cells := 11, slots := 119, locals := 360 } : Room) (va_Pc [.ref h, .int (nZ x1), .int (nZ x2)] (zIn D k sz xs)) (va_Qi (fun (r : Int32) (u : va_W) => r = nZ 1 ∧ ∃ S2, goodT N (B, S2, K, T) ∧ isX k h (B, S2, K, T) u) (fun u => zOut D (va_A xs sz) u) (va_A xs sz)) 11 119 (va_A xs sz) := by
  intro sz
  refine zEnter (Qf := fun A => va_Qi (fun (r : Int32) (u : va_W) => r = nZ 1 ∧ ∃ S2, goodT N (B, S2, K, T) ∧ isX k h (B, S2, K, T) u) (fun u => zOut D A u) A) RL (by decide) rfl (Nat.le_of_ble_eq_true rfl) ?_
  intro p9 e9 s9 m9 be9 me9 c9 ls A X hin hP hD hS hA hAe hl
  have hX := X.1; have hB := X.2.1; have hz := X.2.2.2.2.1; have hW := X.2.2.2.2.2.1; have hK := X.2.2.2.2.2.2.2; clear hAe; clear hin
  have hl : lv_has ls 19 [(0, .ref h), (1, .int (nZ x1)), (2, .int (nZ x2))] := hl
  have hBg : bdGood B := hG.1.1
  obtain ⟨w0, w1, w2, w3, w4, hC0, hC1, hC2⟩ := id hBg
  have hj : x1.toNat < 3 := by omega
  obtain ⟨e, he⟩ : ∃ v, lastL (B.1 0) x2 (B.2 x1.toNat) = v := ⟨_, rfl⟩
  obtain ⟨hea, heb, hec, hed⟩ := end_at hBg hj h2.1 he
  change endP ((push1 B x1.toNat x2).2 x1.toNat) e at heb
  refine lv_aload_n hX hB dL_pushes_0 rfl (lv_at hl 0 rfl) ?_
  refine zcL1n (zRunS (As := [.ref h]) X ms_L_print (c_L_print l D k h B S K T xs N ⟨by omega, by omega⟩ hG hx  _) zw_161 (zPre1 hP hD hK) rfl hl (Nat.le_of_ble_eq_true rfl) dL_pushes_1 ⟨rfl, rfl, ⟨Nat.le_of_ble_eq_true rfl, Nat.le_of_ble_eq_true rfl⟩, Nat.le_of_ble_eq_true rfl, Nat.le_of_ble_eq_true rfl⟩ rfl) hS hP hD hA (fun r xs H locs hpost hP hD hS => ?_)
  obtain ⟨rfl, hx⟩ := hpost
  refine lv_lstore_n (lv' := [(3, .long (nL (printB B))), (0, .ref h), (1, .int (nZ x1)), (2, .int (nZ x2))]) hX hB dL_pushes_4 rfl hl (by decide) rfl (fun ls hl => ?_)
  refine lv_aload_n hX hB dL_pushes_5 rfl (lv_at hl 1 rfl) ?_
  refine lv_iload_n hX hB dL_pushes_6 rfl (lv_at hl 2 rfl) ?_
  refine lv_iload_n hX hB dL_pushes_7 rfl (lv_at hl 3 rfl) ?_
  refine lv_iconst (v := nZ 0) hX hB dL_pushes_8 rfl ?_
  refine zc1n (zRunW (As := [.ref h, .int (nZ x1), .int (nZ x2), .int (nZ 0)]) X mw_ends (wc_ends l D k h B S K T xs hG.1 hx x1 x2 0 ⟨by omega, by omega⟩ ⟨by omega, by omega⟩ ⟨by omega, by omega⟩ e (he)  _) zw_169 (zPre1 hP hD hK) rfl hl (Nat.le_of_ble_eq_true rfl) dL_pushes_9 ⟨rfl, rfl, ⟨Nat.le_of_ble_eq_true rfl, Nat.le_of_ble_eq_true rfl⟩, Nat.le_of_ble_eq_true rfl, Nat.le_of_ble_eq_true rfl⟩ rfl) hS hP hD hA (fun r xs H locs hpost hP hD hS => ?_)
  obtain ⟨rfl, hx⟩ := hpost
  refine lv_istore (lv' := [(5, .int (nZ e)), (3, .long (nL (printB B))), (0, .ref h), (1, .int (nZ x1)), (2, .int (nZ x2))]) hX hB dL_pushes_12 hl (by decide) rfl (fun ls hl => ?_)
  refine lv_aload_n hX hB dL_pushes_14 rfl (lv_at hl 2 rfl) ?_
  refine lv_iload_n hX hB dL_pushes_15 rfl (lv_at hl 3 rfl) ?_
  refine lv_iload_n hX hB dL_pushes_16 rfl (lv_at hl 4 rfl) ?_
  refine zc1n (zRunW (As := [.ref h, .int (nZ x1), .int (nZ x2)]) X mw_ifPushed (wc_ifPushed l D k h B S K T xs hG.1 hx x1 x2 ⟨by omega, by omega⟩ ⟨by omega, by omega⟩ (cleanAllB (push0 B x1.toNat x2)) (rfl)  _) zw_232 (zPre1 hP hD hK) rfl hl (Nat.le_of_ble_eq_true rfl) dL_pushes_17 ⟨rfl, rfl, ⟨Nat.le_of_ble_eq_true rfl, Nat.le_of_ble_eq_true rfl⟩, Nat.le_of_ble_eq_true rfl, Nat.le_of_ble_eq_true rfl⟩ rfl) hS hP hD hA (fun r xs H locs hpost hP hD hS => ?_)
  obtain ⟨rfl, hx⟩ := hpost
  refine lv_istore (lv' := [(6, .int (nZ (cleanAllB (push0 B x1.toNat x2)))), (5, .int (nZ e)), (3, .long (nL (printB B))), (0, .ref h), (1, .int (nZ x1)), (2, .int (nZ x2))]) hX hB dL_pushes_20 hl (by decide) rfl (fun ls hl => ?_)
  refine lv_aload_n hX hB dL_pushes_22 rfl (lv_at hl 3 rfl) ?_
  refine lv_iconst (v := nZ 2) hX hB dL_pushes_23 rfl ?_
  refine zc1n (zRunW (As := [.ref h, .int (nZ 2)]) X mw_count (wc_count l D k h B S K T xs hG.1 hx 2 ⟨by omega, by omega⟩ (coinsB B) (rfl)  _) zw_130 (zPre1 hP hD hK) rfl hl (Nat.le_of_ble_eq_true rfl) dL_pushes_24 ⟨rfl, rfl, ⟨Nat.le_of_ble_eq_true rfl, Nat.le_of_ble_eq_true rfl⟩, Nat.le_of_ble_eq_true rfl, Nat.le_of_ble_eq_true rfl⟩ rfl) hS hP hD hA (fun r xs H locs hpost hP hD hS => ?_)
  obtain ⟨rfl, hx⟩ := hpost
  refine lv_istore (lv' := [(7, .int (nZ (coinsB B))), (6, .int (nZ (cleanAllB (push0 B x1.toNat x2)))), (5, .int (nZ e)), (3, .long (nL (printB B))), (0, .ref h), (1, .int (nZ x1)), (2, .int (nZ x2))]) hX hB dL_pushes_27 hl (by decide) rfl (fun ls hl => ?_)
  refine lv_aload_n hX hB dL_pushes_29 rfl (lv_at hl 4 rfl) ?_
  refine lv_bipush (v := nZ 8) hX hB dL_pushes_30 (by decide) ?_
  refine zc1n (zRunW (As := [.ref h, .int (nZ 8)]) X mw_count (wc_count l D k h B S K T xs hG.1 hx 8 ⟨by omega, by omega⟩ (B.1 5) (rfl)  _) zw_130 (zPre1 hP hD hK) rfl hl (Nat.le_of_ble_eq_true rfl) dL_pushes_32 ⟨rfl, rfl, ⟨Nat.le_of_ble_eq_true rfl, Nat.le_of_ble_eq_true rfl⟩, Nat.le_of_ble_eq_true rfl, Nat.le_of_ble_eq_true rfl⟩ rfl) hS hP hD hA (fun r xs H locs hpost hP hD hS => ?_)
  obtain ⟨rfl, hx⟩ := hpost
  refine lv_istore (lv' := [(8, .int (nZ (B.1 5))), (7, .int (nZ (coinsB B))), (6, .int (nZ (cleanAllB (push0 B x1.toNat x2)))), (5, .int (nZ e)), (3, .long (nL (printB B))), (0, .ref h), (1, .int (nZ x1)), (2, .int (nZ x2))]) hX hB dL_pushes_35 hl (by decide) rfl (fun ls hl => ?_)
  refine lv_aload_n hX hB dL_pushes_37 rfl (lv_at hl 5 rfl) ?_
  refine lv_bipush (v := nZ 9) hX hB dL_pushes_38 (by decide) ?_
  refine zc1n (zRunW (As := [.ref h, .int (nZ 9)]) X mw_count (wc_count l D k h B S K T xs hG.1 hx 9 ⟨by omega, by omega⟩ (B.1 6) (rfl)  _) zw_130 (zPre1 hP hD hK) rfl hl (Nat.le_of_ble_eq_true rfl) dL_pushes_40 ⟨rfl, rfl, ⟨Nat.le_of_ble_eq_true rfl, Nat.le_of_ble_eq_true rfl⟩, Nat.le_of_ble_eq_true rfl, Nat.le_of_ble_eq_true rfl⟩ rfl) hS hP hD hA (fun r xs H locs hpost hP hD hS => ?_)
  obtain ⟨rfl, hx⟩ := hpost
  refine lv_istore (lv' := [(9, .int (nZ (B.1 6))), (8, .int (nZ (B.1 5))), (7, .int (nZ (coinsB B))), (6, .int (nZ (cleanAllB (push0 B x1.toNat x2)))), (5, .int (nZ e)), (3, .long (nL (printB B))), (0, .ref h), (1, .int (nZ x1)), (2, .int (nZ x2))]) hX hB dL_pushes_43 hl (by decide) rfl (fun ls hl => ?_)
  refine lv_aload_n hX hB dL_pushes_45 rfl (lv_at hl 6 rfl) ?_
  refine lv_bipush (v := nZ 10) hX hB dL_pushes_46 (by decide) ?_
  refine zc1n (zRunW (As := [.ref h, .int (nZ 10)]) X mw_count (wc_count l D k h B S K T xs hG.1 hx 10 ⟨by omega, by omega⟩ (B.1 7) (rfl)  _) zw_130 (zPre1 hP hD hK) rfl hl (Nat.le_of_ble_eq_true rfl) dL_pushes_48 ⟨rfl, rfl, ⟨Nat.le_of_ble_eq_true rfl, Nat.le_of_ble_eq_true rfl⟩, Nat.le_of_ble_eq_true rfl, Nat.le_of_ble_eq_true rfl⟩ rfl) hS hP hD hA (fun r xs H locs hpost hP hD hS => ?_)
  obtain ⟨rfl, hx⟩ := hpost
  refine lv_istore (lv' := [(10, .int (nZ (B.1 7))), (9, .int (nZ (B.1 6))), (8, .int (nZ (B.1 5))), (7, .int (nZ (coinsB B))), (6, .int (nZ (cleanAllB (push0 B x1.toNat x2)))), (5, .int (nZ e)), (3, .long (nL (printB B))), (0, .ref h), (1, .int (nZ x1)), (2, .int (nZ x2))]) hX hB dL_pushes_51 hl (by decide) rfl (fun ls hl => ?_)
  refine lv_aload_n hX hB dL_pushes_53 rfl (lv_at hl 7 rfl) ?_
  refine lv_bipush (v := nZ 6) hX hB dL_pushes_54 (by decide) ?_
  refine zc1n (zRunW (As := [.ref h, .int (nZ 6)]) X mw_count (wc_count l D k h B S K T xs hG.1 hx 6 ⟨by omega, by omega⟩ (B.1 3) (rfl)  _) zw_130 (zPre1 hP hD hK) rfl hl (Nat.le_of_ble_eq_true rfl) dL_pushes_56 ⟨rfl, rfl, ⟨Nat.le_of_ble_eq_true rfl, Nat.le_of_ble_eq_true rfl⟩, Nat.le_of_ble_eq_true rfl, Nat.le_of_ble_eq_true rfl⟩ rfl) hS hP hD hA (fun r xs H locs hpost hP hD hS => ?_)
  obtain ⟨rfl, hx⟩ := hpost
  refine zz_if_le X (tgt := 66) dL_pushes_59 (by decide) ⟨by omega, by omega⟩ (fun c_59 => ?_) (fun c_59 => by exfalso; omega)
  refine lv_iconst (v := nZ 0) hX hB dL_pushes_66 rfl ?_
  refine lv_istore (lv' := [(11, .int (nZ 0)), (10, .int (nZ (B.1 7))), (9, .int (nZ (B.1 6))), (8, .int (nZ (B.1 5))), (7, .int (nZ (coinsB B))), (6, .int (nZ (cleanAllB (push0 B x1.toNat x2)))), (5, .int (nZ e)), (3, .long (nL (printB B))), (0, .ref h), (1, .int (nZ x1)), (2, .int (nZ x2))]) hX hB dL_pushes_67 hl (by decide) rfl (fun ls hl => ?_)
  refine lv_aload_n hX hB dL_pushes_69 rfl (lv_at hl 8 rfl) ?_
  refine lv_iconst (v := nZ 1) hX hB dL_pushes_70 rfl ?_
  refine zc1n (zRunW (As := [.ref h, .int (nZ 1)]) X mw_count (wc_count l D k h B S K T xs hG.1 hx 1 ⟨by omega, by omega⟩ (B.1 2) (rfl)  _) zw_130 (zPre1 hP hD hK) rfl hl (Nat.le_of_ble_eq_true rfl) dL_pushes_71 ⟨rfl, rfl, ⟨Nat.le_of_ble_eq_true rfl, Nat.le_of_ble_eq_true rfl⟩, Nat.le_of_ble_eq_true rfl, Nat.le_of_ble_eq_true rfl⟩ rfl) hS hP hD hA (fun r xs H locs hpost hP hD hS => ?_)
  obtain ⟨rfl, hx⟩ := hpost
  refine lv_iconst (v := nZ 4) hX hB dL_pushes_74 rfl ?_
  refine zz_icmp_ne X (tgt := 82) dL_pushes_75 (by decide) ⟨by omega, by omega⟩ ⟨by omega, by omega⟩ (fun c_75 => ?_) (fun c_75 => by exfalso; omega)
  refine lv_iconst (v := nZ 0) hX hB dL_pushes_82 rfl ?_
  refine lv_istore (lv' := [(12, .int (nZ 0)), (11, .int (nZ 0)), (10, .int (nZ (B.1 7))), (9, .int (nZ (B.1 6))), (8, .int (nZ (B.1 5))), (7, .int (nZ (coinsB B))), (6, .int (nZ (cleanAllB (push0 B x1.toNat x2)))), (5, .int (nZ e)), (3, .long (nL (printB B))), (0, .ref h), (1, .int (nZ x1)), (2, .int (nZ x2))]) hX hB dL_pushes_83 hl (by decide) rfl (fun ls hl => ?_)
  refine lv_aload_n hX hB dL_pushes_85 rfl (lv_at hl 9 rfl) ?_
  refine lv_bipush (v := nZ 7) hX hB dL_pushes_86 (by decide) ?_
  refine zc1n (zRunW (As := [.ref h, .int (nZ 7)]) X mw_count (wc_count l D k h B S K T xs hG.1 hx 7 ⟨by omega, by omega⟩ (B.1 4) (rfl)  _) zw_130 (zPre1 hP hD hK) rfl hl (Nat.le_of_ble_eq_true rfl) dL_pushes_88 ⟨rfl, rfl, ⟨Nat.le_of_ble_eq_true rfl, Nat.le_of_ble_eq_true rfl⟩, Nat.le_of_ble_eq_true rfl, Nat.le_of_ble_eq_true rfl⟩ rfl) hS hP hD hA (fun r xs H locs hpost hP hD hS => ?_)
  obtain ⟨rfl, hx⟩ := hpost
  refine lv_istore (lv' := [(13, .int (nZ (B.1 4))), (12, .int (nZ 0)), (11, .int (nZ 0)), (10, .int (nZ (B.1 7))), (9, .int (nZ (B.1 6))), (8, .int (nZ (B.1 5))), (7, .int (nZ (coinsB B))), (6, .int (nZ (cleanAllB (push0 B x1.toNat x2)))), (5, .int (nZ e)), (3, .long (nL (printB B))), (0, .ref h), (1, .int (nZ x1)), (2, .int (nZ x2))]) hX hB dL_pushes_91 hl (by decide) rfl (fun ls hl => ?_)
  refine lv_aload_n hX hB dL_pushes_93 rfl (lv_at hl 10 rfl) ?_
  refine lv_iload_n hX hB dL_pushes_94 rfl (lv_at hl 11 rfl) ?_
  refine lv_iload_n hX hB dL_pushes_95 rfl (lv_at hl 12 rfl) ?_
  obtain ⟨nd96, hnd96⟩ : ∃ v, nudS (B.1 0) x2 (B.2 x1.toNat) = v := ⟨_, rfl⟩
  have hnr96 := nud_rng hBg (j := x1.toNat) (by omega) x2
  rw [hnd96] at hnr96
  obtain ⟨B96, hB96⟩ : ∃ z, pushF B x1.toNat x2 = z := ⟨_, rfl⟩
  obtain ⟨S96, hS96⟩ : ∃ z, saveL S B = z := ⟨_, rfl⟩
  refine zc1 (zRunW (As := [.ref h, .int (nZ x1), .int (nZ x2)]) X mw_push (wc_push l D k h B S K T xs hG.1 hx x1 x2 ⟨by omega, by omega⟩ ⟨by omega, by omega⟩ nd96 ((by rw [if_pos h3]; exact hnd96)) B96 hB96 S96 hS96 _) zw_239 (zPre1 hP hD hK) rfl hl (Nat.le_of_ble_eq_true rfl) dL_pushes_96 ⟨rfl, rfl, ⟨Nat.le_of_ble_eq_true rfl, Nat.le_of_ble_eq_true rfl⟩, Nat.le_of_ble_eq_true rfl, Nat.le_of_ble_eq_true rfl⟩ rfl) hS hP hD hA (fun r xs H locs hpost hP hD hS => ?_)
  obtain ⟨rfl, hx⟩ := hpost
  have hG96 : goodT (N + 1) (B96, S96, K, T) := by rw [← hB96, ← hS96]; exact hG.save (push_good hBg (by omega) ⟨by omega, by omega⟩) (xtra_push hG.2.1 hBg.2.1 _ _)
  refine W.widen (k := 10) (n := 110) (by decide) (by decide) ?_
  refine lv_istore (lv' := [(14, .int (nZ nd96)), (13, .int (nZ (B.1 4))), (12, .int (nZ 0)), (11, .int (nZ 0)), (10, .int (nZ (B.1 7))), (9, .int (nZ (B.1 6))), (8, .int (nZ (B.1 5))), (7, .int (nZ (coinsB B))), (6, .int (nZ (cleanAllB (push0 B x1.toNat x2)))), (5, .int (nZ e)), (3, .long (nL (printB B))), (0, .ref h), (1, .int (nZ x1)), (2, .int (nZ x2))]) hX hB dL_pushes_99 hl (by decide) rfl (fun ls hl => ?_)
  refine lv_iload hX hB dL_pushes_101 (lv_at hl 9 rfl) ?_
  refine lv_bipush (v := nZ (-5)) hX hB dL_pushes_103 (by decide) ?_
  refine zz_icmp_lt X (tgt := 119) dL_pushes_105 (by decide) ⟨by omega, by omega⟩ ⟨by omega, by omega⟩ (fun c_105 => by exfalso; omega) (fun c_105 => ?_)
  refine lv_iload hX hB dL_pushes_108 (lv_at hl 9 rfl) ?_
  refine lv_bipush (v := nZ 100) hX hB dL_pushes_110 (by decide) ?_
  refine zz_icmp_gt X (tgt := 119) dL_pushes_112 (by decide) ⟨by omega, by omega⟩ ⟨by omega, by omega⟩ (fun c_112 => by exfalso; omega) (fun c_112 => ?_)
  refine lv_iconst (v := nZ 1) hX hB dL_pushes_115 rfl ?_
  refine lv_goto (tgt := 120) hX hB dL_pushes_116 (by decide) ?_
  refine lv_istore (lv' := [(15, .int (nZ 1)), (14, .int (nZ nd96)), (13, .int (nZ (B.1 4))), (12, .int (nZ 0)), (11, .int (nZ 0)), (10, .int (nZ (B.1 7))), (9, .int (nZ (B.1 6))), (8, .int (nZ (B.1 5))), (7, .int (nZ (coinsB B))), (6, .int (nZ (cleanAllB (push0 B x1.toNat x2)))), (5, .int (nZ e)), (3, .long (nL (printB B))), (0, .ref h), (1, .int (nZ x1)), (2, .int (nZ x2))]) hX hB dL_pushes_120 hl (by decide) rfl (fun ls hl => ?_)
  refine lv_iload hX hB dL_pushes_122 (lv_at hl 4 rfl) ?_
  refine zz_if_eq X (tgt := 148) dL_pushes_124 (by decide) ⟨by omega, by omega⟩ (fun c_124 => ?_) (fun c_124 => by exfalso; omega)
  refine lv_iload hX hB dL_pushes_148 (lv_at hl 3 rfl) ?_
  refine zz_if_eq X (tgt := 202) dL_pushes_150 (by decide) ⟨by omega, by omega⟩ (fun c_150 => ?_) (fun c_150 => by exfalso; omega)
  refine lv_aload_n hX hB dL_pushes_202 rfl (lv_at hl 12 rfl) ?_
  refine lv_bipush (v := nZ 8) hX hB dL_pushes_203 (by decide) ?_
  refine zc1n (zRunW (As := [.ref h, .int (nZ 8)]) X mw_count (wc_count l D k h B96 S96 K T xs hG96.1 hx 8 ⟨by omega, by omega⟩ (B96.1 5) (rfl)  _) zw_130 (zPre1 hP hD hK) rfl hl (Nat.le_of_ble_eq_true rfl) dL_pushes_205 ⟨rfl, rfl, ⟨Nat.le_of_ble_eq_true rfl, Nat.le_of_ble_eq_true rfl⟩, Nat.le_of_ble_eq_true rfl, Nat.le_of_ble_eq_true rfl⟩ rfl) hS hP hD hA (fun r xs H locs hpost hP hD hS => ?_)
  obtain ⟨rfl, hx⟩ := hpost
  refine lv_iload hX hB dL_pushes_208 (lv_at hl 7 rfl) ?_
  refine zz_isub X dL_pushes_210 (z := ((B96.1 5) - (B.1 5))) (by first | rfl | omega) ?_
  refine lv_aload_n hX hB dL_pushes_211 rfl (lv_at hl 12 rfl) ?_
  refine lv_bipush (v := nZ 9) hX hB dL_pushes_212 (by decide) ?_
  refine zc1n (zRunW (As := [.ref h, .int (nZ 9)]) X mw_count (wc_count l D k h B96 S96 K T xs hG96.1 hx 9 ⟨by omega, by omega⟩ (B96.1 6) (rfl)  _) zw_130 (zPre1 hP hD hK) rfl hl (Nat.le_of_ble_eq_true rfl) dL_pushes_214 ⟨rfl, rfl, ⟨Nat.le_of_ble_eq_true rfl, Nat.le_of_ble_eq_true rfl⟩, Nat.le_of_ble_eq_true rfl, Nat.le_of_ble_eq_true rfl⟩ rfl) hS hP hD hA (fun r xs H locs hpost hP hD hS => ?_)
  obtain ⟨rfl, hx⟩ := hpost
  refine zz_iadd X dL_pushes_217 (z := (((B96.1 5) - (B.1 5)) + (B96.1 6))) (by first | rfl | omega) ?_
  refine lv_iload hX hB dL_pushes_218 (lv_at hl 6 rfl) ?_
  refine zz_isub X dL_pushes_220 (z := ((((B96.1 5) - (B.1 5)) + (B96.1 6)) - (B.1 6))) (by first | rfl | omega) ?_
  refine lv_istore (lv' := [(16, .int (nZ ((((B96.1 5) - (B.1 5)) + (B96.1 6)) - (B.1 6)))), (15, .int (nZ 1)), (14, .int (nZ nd96)), (13, .int (nZ (B.1 4))), (12, .int (nZ 0)), (11, .int (nZ 0)), (10, .int (nZ (B.1 7))), (9, .int (nZ (B.1 6))), (8, .int (nZ (B.1 5))), (7, .int (nZ (coinsB B))), (6, .int (nZ (cleanAllB (push0 B x1.toNat x2)))), (5, .int (nZ e)), (3, .long (nL (printB B))), (0, .ref h), (1, .int (nZ x1)), (2, .int (nZ x2))]) hX hB dL_pushes_221 hl (by decide) rfl (fun ls hl => ?_)
  have hpf : B96 = push1 B x1.toNat x2 := by rw [← hB96]; exact pushF_go h3 h4 _ _
  have hpc := push1_coins (B := B) hj x2
  rw [← hpf] at hpc heb hec hed
  have he5a : e = 100 → B96.1 5 = B.1 5 + 1 := fun q => by rw [hec, if_pos q]
  have he5b : e ≠ 100 → B96.1 5 = B.1 5 := fun q => by rw [hec, if_neg q]; omega
  have he7 : B96.1 7 = B.1 7 + nd96 := by rw [hpf, ← hnd96]; rfl
  have hcl9 : cleanAllB B96 = cleanAllB (push0 B x1.toNat x2) := by rw [hpf]; rfl
  have hBg96 : bdGood B96 := hG96.1.1
  refine lv_iload hX hB dL_pushes_223 (lv_at hl 11 rfl) ?_
  refine zz_if_lt X (tgt := 235) dL_pushes_225 (by decide) ⟨by omega, by omega⟩ (fun c_225 => ?_) (fun c_225 => ?_)
  · refine lv_iconst (v := nZ 1) hX hB dL_pushes_235 rfl ?_
    refine lv_goto (tgt := 240) hX hB dL_pushes_236 (by decide) ?_
    refine lv_istore (lv' := [(17, .int (nZ 1)), (16, .int (nZ ((((B96.1 5) - (B.1 5)) + (B96.1 6)) - (B.1 6)))), (15, .int (nZ 1)), (14, .int (nZ nd96)), (13, .int (nZ (B.1 4))), (12, .int (nZ 0)), (11, .int (nZ 0)), (10, .int (nZ (B.1 7))), (9, .int (nZ (B.1 6))), (8, .int (nZ (B.1 5))), (7, .int (nZ (coinsB B))), (6, .int (nZ (cleanAllB (push0 B x1.toNat x2)))), (5, .int (nZ e)), (3, .long (nL (printB B))), (0, .ref h), (1, .int (nZ x1)), (2, .int (nZ x2))]) hX hB dL_pushes_240 hl (by decide) rfl (fun ls hl => ?_)
    refine lv_iconst (v := nZ 0) hX hB dL_pushes_242 rfl ?_
    refine lv_istore (lv' := [(18, .int (nZ 0)), (17, .int (nZ 1)), (16, .int (nZ ((((B96.1 5) - (B.1 5)) + (B96.1 6)) - (B.1 6)))), (15, .int (nZ 1)), (14, .int (nZ nd96)), (13, .int (nZ (B.1 4))), (12, .int (nZ 0)), (11, .int (nZ 0)), (10, .int (nZ (B.1 7))), (9, .int (nZ (B.1 6))), (8, .int (nZ (B.1 5))), (7, .int (nZ (coinsB B))), (6, .int (nZ (cleanAllB (push0 B x1.toNat x2)))), (5, .int (nZ e)), (3, .long (nL (printB B))), (0, .ref h), (1, .int (nZ x1)), (2, .int (nZ x2))]) hX hB dL_pushes_243 hl (by decide) rfl (fun ls hl => ?_)
    refine zLoop (σ := Nat × Int × va_W) (fun (x : Nat × Int × va_W) (H : Heap) (locs : List Loc) (ls : Array Slot) => match x with | (n, th, xs) => (n ≤ 20) ∧ (thI (B96.2 x1.toNat) e th n) ∧ (isX k h (B96, S96, K, T) xs) ∧ va_P D vwCl xs H ∧ va_D A xs ∧ va_S A s9.heap H locs ∧ lv_has ls 19 [(16, .int (nZ ((((B96.1 5) - (B.1 5)) + (B96.1 6)) - (B.1 6)))), (15, .int (nZ 1)), (14, .int (nZ nd96)), (13, .int (nZ (B.1 4))), (12, .int (nZ 0)), (11, .int (nZ 0)), (10, .int (nZ (B.1 7))), (9, .int (nZ (B.1 6))), (8, .int (nZ (B.1 5))), (7, .int (nZ (coinsB B))), (6, .int (nZ (cleanAllB (push0 B x1.toNat x2)))), (5, .int (nZ e)), (3, .long (nL (printB B))), (0, .ref h), (1, .int (nZ x1)), (2, .int (nZ x2)), (17, .int (nZ th)), (18, .int (nZ (↑n : Int)))]) (fun (x : Nat × Int × va_W) => match x with | (n, th, xs) => 20 - n) ?_ (0, 1, xs) ⟨(by omega), (by first | exact Or.inl rfl | exact Or.inr ⟨rfl, ⟨by omega, by omega⟩, fun i hi => absurd hi (Nat.not_lt_zero _)⟩), (by exact hx), hP, hD, hS, (lv_sub hl [2, 3, 4, 5, 6, 7, 8, 9, 10, 11, 12, 13, 14, 15, 16, 17, 1, 0] rfl)⟩
    rintro ⟨n, th, xs⟩ H locs ls ⟨hn, hth, hx, hP, hD, hS, hl⟩ ih_245
    refine lv_iload hX hB dL_pushes_245 (lv_at hl 17 rfl) ?_
    refine lv_bipush (v := nZ 20) hX hB dL_pushes_247 (by decide) ?_
    refine zz_icmp_ge X (tgt := 282) dL_pushes_249 (by decide) ⟨by omega, by omega⟩ ⟨by omega, by omega⟩ (fun c_249 => ?_) (fun c_249 => ?_)
    · have hn20 : n = 20 := by omega
      rw [hn20] at hth
      have ht1 := thI_end hth heb
      refine lv_iload hX hB dL_pushes_282 (lv_at hl 1 rfl) ?_
      refine zz_if_eq X (tgt := 384) dL_pushes_284 (by decide) ⟨by omega, by omega⟩ (fun c_284 => by exfalso; omega) (fun c_284 => ?_)
      refine lv_iload hX hB dL_pushes_287 (lv_at hl 16 rfl) ?_
      refine zz_if_eq X (tgt := 384) dL_pushes_289 (by decide) ⟨by omega, by omega⟩ (fun c_289 => by exfalso; omega) (fun c_289 => ?_)
      refine lv_aload_n hX hB dL_pushes_292 rfl (lv_at hl 13 rfl) ?_
      refine lv_iconst (v := nZ 2) hX hB dL_pushes_293 rfl ?_
      refine zc1n (zRunW (As := [.ref h, .int (nZ 2)]) X mw_count (wc_count l D k h B96 S96 K T xs hG96.1 hx 2 ⟨by omega, by omega⟩ (coinsB B96) (rfl)  _) zw_130 (zPre1 hP hD hK) rfl hl (Nat.le_of_ble_eq_true rfl) dL_pushes_294 ⟨rfl, rfl, ⟨Nat.le_of_ble_eq_true rfl, Nat.le_of_ble_eq_true rfl⟩, Nat.le_of_ble_eq_true rfl, Nat.le_of_ble_eq_true rfl⟩ rfl) hS hP hD hA (fun r xs H locs hpost hP hD hS => ?_)
      obtain ⟨rfl, hx⟩ := hpost
      refine lv_iload hX hB dL_pushes_297 (lv_at hl 9 rfl) ?_
      refine lv_iconst (v := nZ 1) hX hB dL_pushes_299 rfl ?_
      refine zz_iadd X dL_pushes_300 (z := ((coinsB B) + 1)) (by first | rfl | omega) ?_
      refine lv_iload hX hB dL_pushes_301 (lv_at hl 0 rfl) ?_
      refine zz_isub X dL_pushes_303 (z := (((coinsB B) + 1) - ((((B96.1 5) - (B.1 5)) + (B96.1 6)) - (B.1 6)))) (by first | rfl | omega) ?_
      refine zs_ne X (by omega) (tgt := 384) dL_pushes_304 (by decide) ?_
      refine lv_aload_n hX hB dL_pushes_307 rfl (lv_at hl 13 rfl) ?_
      refine lv_bipush (v := nZ 8) hX hB dL_pushes_308 (by decide) ?_
      refine zc1n (zRunW (As := [.ref h, .int (nZ 8)]) X mw_count (wc_count l D k h B96 S96 K T xs hG96.1 hx 8 ⟨by omega, by omega⟩ (B96.1 5) (rfl)  _) zw_130 (zPre1 hP hD hK) rfl hl (Nat.le_of_ble_eq_true rfl) dL_pushes_310 ⟨rfl, rfl, ⟨Nat.le_of_ble_eq_true rfl, Nat.le_of_ble_eq_true rfl⟩, Nat.le_of_ble_eq_true rfl, Nat.le_of_ble_eq_true rfl⟩ rfl) hS hP hD hA (fun r xs H locs hpost hP hD hS => ?_)
      obtain ⟨rfl, hx⟩ := hpost
      refine lv_iload hX hB dL_pushes_313 (lv_at hl 8 rfl) ?_
      refine zz_isub X dL_pushes_315 (z := ((B96.1 5) - (B.1 5))) (by first | rfl | omega) ?_
      refine lv_iload hX hB dL_pushes_316 (lv_at hl 11 rfl) ?_
      refine lv_bipush (v := nZ 100) hX hB dL_pushes_318 (by decide) ?_
      refine zz_icmp_ne X (tgt := 327) dL_pushes_320 (by decide) ⟨by omega, by omega⟩ ⟨by omega, by omega⟩ (fun c_320 => ?_) (fun c_320 => ?_)
      · refine lv_iconst (v := nZ 0) hX hB dL_pushes_327 rfl ?_
        refine zs_ne X (by omega) (tgt := 384) dL_pushes_328 (by decide) ?_
        refine lv_iload hX hB dL_pushes_331 (lv_at hl 11 rfl) ?_
        refine zz_if_ge X (tgt := 349) dL_pushes_333 (by decide) ⟨by omega, by omega⟩ (fun c_333 => ?_) (fun c_333 => ?_)
        · refine lv_aload_n hX hB dL_pushes_349 rfl (lv_at hl 13 rfl) ?_
          refine lv_bipush (v := nZ 10) hX hB dL_pushes_350 (by decide) ?_
          refine zc1n (zRunW (As := [.ref h, .int (nZ 10)]) X mw_count (wc_count l D k h B96 S96 K T xs hG96.1 hx 10 ⟨by omega, by omega⟩ (B96.1 7) (rfl)  _) zw_130 (zPre1 hP hD hK) rfl hl (Nat.le_of_ble_eq_true rfl) dL_pushes_352 ⟨rfl, rfl, ⟨Nat.le_of_ble_eq_true rfl, Nat.le_of_ble_eq_true rfl⟩, Nat.le_of_ble_eq_true rfl, Nat.le_of_ble_eq_true rfl⟩ rfl) hS hP hD hA (fun r xs H locs hpost hP hD hS => ?_)
          obtain ⟨rfl, hx⟩ := hpost
          refine lv_iload hX hB dL_pushes_355 (lv_at hl 6 rfl) ?_
          refine lv_iload hX hB dL_pushes_357 (lv_at hl 2 rfl) ?_
          refine zz_iadd X dL_pushes_359 (z := ((B.1 7) + nd96)) (by first | rfl | omega) ?_
          refine zs_ne X (by omega) (tgt := 384) dL_pushes_360 (by decide) ?_
          refine lv_aload_n hX hB dL_pushes_363 rfl (lv_at hl 13 rfl) ?_
          refine lv_iconst (v := nZ 3) hX hB dL_pushes_364 rfl ?_
          refine zc1n (zRunW (As := [.ref h, .int (nZ 3)]) X mw_count (wc_count l D k h B96 S96 K T xs hG96.1 hx 3 ⟨by omega, by omega⟩ (cleanAllB B96) (rfl)  _) zw_130 (zPre1 hP hD hK) rfl hl (Nat.le_of_ble_eq_true rfl) dL_pushes_365 ⟨rfl, rfl, ⟨Nat.le_of_ble_eq_true rfl, Nat.le_of_ble_eq_true rfl⟩, Nat.le_of_ble_eq_true rfl, Nat.le_of_ble_eq_true rfl⟩ rfl) hS hP hD hA (fun r xs H locs hpost hP hD hS => ?_)
          obtain ⟨rfl, hx⟩ := hpost
          refine lv_iload hX hB dL_pushes_368 (lv_at hl 10 rfl) ?_
          refine zs_ne X (hcl9) (tgt := 384) dL_pushes_370 (by decide) ?_
          refine lv_aload_n hX hB dL_pushes_373 rfl (lv_at hl 13 rfl) ?_
          refine zc1 (zRunS (As := [.ref h]) X ms_L_hangs (c_L_hangs l D k h B96 S96 K T xs (N + 1) ⟨by omega, by omega⟩ hG96 hx  _) zw_66 (zPre1 hP hD hK) rfl hl (Nat.le_of_ble_eq_true rfl) dL_pushes_374 ⟨rfl, rfl, ⟨Nat.le_of_ble_eq_true rfl, Nat.le_of_ble_eq_true rfl⟩, Nat.le_of_ble_eq_true rfl, Nat.le_of_ble_eq_true rfl⟩ rfl) hS hP hD hA (fun r xs H locs hpost hP hD hS => ?_)
          obtain ⟨rfl, hx⟩ := hpost
          refine W.widen (k := 11) (n := 119) (by decide) (by decide) ?_
          refine zz_if_eq X (tgt := 384) dL_pushes_377 (by decide) ⟨by omega, by omega⟩ (fun c_377 => by exfalso; omega) (fun c_377 => ?_)
          refine lv_iconst (v := nZ 1) hX hB dL_pushes_380 rfl ?_
          refine lv_goto (tgt := 385) hX hB dL_pushes_381 (by decide) ?_
          refine lv_istore (lv' := [(15, .int (nZ 1)), (16, .int (nZ ((((B96.1 5) - (B.1 5)) + (B96.1 6)) - (B.1 6)))), (14, .int (nZ nd96)), (13, .int (nZ (B.1 4))), (12, .int (nZ 0)), (11, .int (nZ 0)), (10, .int (nZ (B.1 7))), (9, .int (nZ (B.1 6))), (8, .int (nZ (B.1 5))), (7, .int (nZ (coinsB B))), (6, .int (nZ (cleanAllB (push0 B x1.toNat x2)))), (5, .int (nZ e)), (3, .long (nL (printB B))), (0, .ref h), (1, .int (nZ x1)), (2, .int (nZ x2)), (17, .int (nZ th)), (18, .int (nZ (↑n : Int)))]) hX hB dL_pushes_385 hl (by decide) rfl (fun ls hl => ?_)
          refine lv_iload hX hB dL_pushes_387 (lv_at hl 0 rfl) ?_
          refine zz_if_eq X (tgt := 424) dL_pushes_389 (by decide) ⟨by omega, by omega⟩ (fun c_389 => by exfalso; omega) (fun c_389 => ?_)
          refine lv_aload_n hX hB dL_pushes_392 rfl (lv_at hl 13 rfl) ?_
          have hSl393 : 0 < S96.length := by rw [← hS96]; exact saveL_pos _ _
          have hSm393 : S96.length ≤ 6 := hG96.1.2.2.2
          obtain ⟨S393, hS393⟩ : ∃ z, S96.dropLast = z := ⟨_, rfl⟩
          refine zc1n (zRunW (As := [.ref h]) X mw_undo (wc_undo l D k h B96 S96 K T xs hG96.1 hx B (by rw [← hS96]; exact saveL_last _ _) ((S96.length : Int) - 1) (rfl) B (rfl) S393 hS393 _) zw_299 (zPre1 hP hD hK) rfl hl (Nat.le_of_ble_eq_true rfl) dL_pushes_393 ⟨rfl, rfl, ⟨Nat.le_of_ble_eq_true rfl, Nat.le_of_ble_eq_true rfl⟩, Nat.le_of_ble_eq_true rfl, Nat.le_of_ble_eq_true rfl⟩ rfl) hS hP hD hA (fun r xs H locs hpost hP hD hS => ?_)
          obtain ⟨rfl, hx⟩ := hpost
          have hG393 : goodT N (B, S393, K, T) := by rw [← hS393, ← hS96]; exact hG.back
          refine zz_if_lt X (tgt := 424) dL_pushes_396 (by decide) ⟨by omega, by omega⟩ (fun c_396 => by exfalso; omega) (fun c_396 => ?_)
          refine lv_aload_n hX hB dL_pushes_399 rfl (lv_at hl 13 rfl) ?_
          refine zcL1n (zRunS (As := [.ref h]) X ms_L_print (c_L_print l D k h B S393 K T xs N ⟨by omega, by omega⟩ hG393 hx  _) zw_161 (zPre1 hP hD hK) rfl hl (Nat.le_of_ble_eq_true rfl) dL_pushes_400 ⟨rfl, rfl, ⟨Nat.le_of_ble_eq_true rfl, Nat.le_of_ble_eq_true rfl⟩, Nat.le_of_ble_eq_true rfl, Nat.le_of_ble_eq_true rfl⟩ rfl) hS hP hD hA (fun r xs H locs hpost hP hD hS => ?_)
          obtain ⟨rfl, hx⟩ := hpost
          refine lv_lload_n hX hB dL_pushes_403 rfl (lv_at hl 12 rfl) ?_
          refine zs_lcmp X (rfl) dL_pushes_404 ?_
          refine zz_if_ne X (tgt := 424) dL_pushes_405 (by decide) ⟨by omega, by omega⟩ (fun c_405 => by exfalso; omega) (fun c_405 => ?_)
          refine lv_aload_n hX hB dL_pushes_408 rfl (lv_at hl 13 rfl) ?_
          refine lv_iload_n hX hB dL_pushes_409 rfl (lv_at hl 14 rfl) ?_
          refine lv_iload_n hX hB dL_pushes_410 rfl (lv_at hl 15 rfl) ?_
          refine lv_iconst (v := nZ 1) hX hB dL_pushes_411 rfl ?_
          refine zc1n (zRunW (As := [.ref h, .int (nZ x1), .int (nZ x2), .int (nZ 1)]) X mw_ends (wc_ends l D k h B S393 K T xs hG393.1 hx x1 x2 1 ⟨by omega, by omega⟩ ⟨by omega, by omega⟩ ⟨by omega, by omega⟩ e (he)  _) zw_169 (zPre1 hP hD hK) rfl hl (Nat.le_of_ble_eq_true rfl) dL_pushes_412 ⟨rfl, rfl, ⟨Nat.le_of_ble_eq_true rfl, Nat.le_of_ble_eq_true rfl⟩, Nat.le_of_ble_eq_true rfl, Nat.le_of_ble_eq_true rfl⟩ rfl) hS hP hD hA (fun r xs H locs hpost hP hD hS => ?_)
          obtain ⟨rfl, hx⟩ := hpost
          refine lv_iload hX hB dL_pushes_415 (lv_at hl 11 rfl) ?_
          refine zs_ne X (rfl) (tgt := 424) dL_pushes_417 (by decide) ?_
          refine lv_iconst (v := nZ 1) hX hB dL_pushes_420 rfl ?_
          refine lv_goto (tgt := 425) hX hB dL_pushes_421 (by decide) ?_
          exact zRetZ xs X hP hD hS (Or.inr rfl) rfl ⟨rfl, S393, hG393, hx⟩ dL_pushes_425
        · refine lv_aload_n hX hB dL_pushes_336 rfl (lv_at hl 13 rfl) ?_
          refine lv_bipush (v := nZ 9) hX hB dL_pushes_337 (by decide) ?_
          refine zc1n (zRunW (As := [.ref h, .int (nZ 9)]) X mw_count (wc_count l D k h B96 S96 K T xs hG96.1 hx 9 ⟨by omega, by omega⟩ (B96.1 6) (rfl)  _) zw_130 (zPre1 hP hD hK) rfl hl (Nat.le_of_ble_eq_true rfl) dL_pushes_339 ⟨rfl, rfl, ⟨Nat.le_of_ble_eq_true rfl, Nat.le_of_ble_eq_true rfl⟩, Nat.le_of_ble_eq_true rfl, Nat.le_of_ble_eq_true rfl⟩ rfl) hS hP hD hA (fun r xs H locs hpost hP hD hS => ?_)
          obtain ⟨rfl, hx⟩ := hpost
          refine lv_iload hX hB dL_pushes_342 (lv_at hl 7 rfl) ?_
          refine lv_iconst (v := nZ 1) hX hB dL_pushes_344 rfl ?_
          refine zz_iadd X dL_pushes_345 (z := ((B.1 6) + 1)) (by first | rfl | omega) ?_
          refine zs_ne X (by omega) (tgt := 384) dL_pushes_346 (by decide) ?_
          refine lv_aload_n hX hB dL_pushes_349 rfl (lv_at hl 13 rfl) ?_
          refine lv_bipush (v := nZ 10) hX hB dL_pushes_350 (by decide) ?_
          refine zc1n (zRunW (As := [.ref h, .int (nZ 10)]) X mw_count (wc_count l D k h B96 S96 K T xs hG96.1 hx 10 ⟨by omega, by omega⟩ (B96.1 7) (rfl)  _) zw_130 (zPre1 hP hD hK) rfl hl (Nat.le_of_ble_eq_true rfl) dL_pushes_352 ⟨rfl, rfl, ⟨Nat.le_of_ble_eq_true rfl, Nat.le_of_ble_eq_true rfl⟩, Nat.le_of_ble_eq_true rfl, Nat.le_of_ble_eq_true rfl⟩ rfl) hS hP hD hA (fun r xs H locs hpost hP hD hS => ?_)
          obtain ⟨rfl, hx⟩ := hpost
          refine lv_iload hX hB dL_pushes_355 (lv_at hl 6 rfl) ?_
          refine lv_iload hX hB dL_pushes_357 (lv_at hl 2 rfl) ?_
          refine zz_iadd X dL_pushes_359 (z := ((B.1 7) + nd96)) (by first | rfl | omega) ?_
          refine zs_ne X (by omega) (tgt := 384) dL_pushes_360 (by decide) ?_
          refine lv_aload_n hX hB dL_pushes_363 rfl (lv_at hl 13 rfl) ?_
          refine lv_iconst (v := nZ 3) hX hB dL_pushes_364 rfl ?_
          refine zc1n (zRunW (As := [.ref h, .int (nZ 3)]) X mw_count (wc_count l D k h B96 S96 K T xs hG96.1 hx 3 ⟨by omega, by omega⟩ (cleanAllB B96) (rfl)  _) zw_130 (zPre1 hP hD hK) rfl hl (Nat.le_of_ble_eq_true rfl) dL_pushes_365 ⟨rfl, rfl, ⟨Nat.le_of_ble_eq_true rfl, Nat.le_of_ble_eq_true rfl⟩, Nat.le_of_ble_eq_true rfl, Nat.le_of_ble_eq_true rfl⟩ rfl) hS hP hD hA (fun r xs H locs hpost hP hD hS => ?_)
          obtain ⟨rfl, hx⟩ := hpost
          refine lv_iload hX hB dL_pushes_368 (lv_at hl 10 rfl) ?_
          refine zs_ne X (hcl9) (tgt := 384) dL_pushes_370 (by decide) ?_
          refine lv_aload_n hX hB dL_pushes_373 rfl (lv_at hl 13 rfl) ?_
          refine zc1 (zRunS (As := [.ref h]) X ms_L_hangs (c_L_hangs l D k h B96 S96 K T xs (N + 1) ⟨by omega, by omega⟩ hG96 hx  _) zw_66 (zPre1 hP hD hK) rfl hl (Nat.le_of_ble_eq_true rfl) dL_pushes_374 ⟨rfl, rfl, ⟨Nat.le_of_ble_eq_true rfl, Nat.le_of_ble_eq_true rfl⟩, Nat.le_of_ble_eq_true rfl, Nat.le_of_ble_eq_true rfl⟩ rfl) hS hP hD hA (fun r xs H locs hpost hP hD hS => ?_)
          obtain ⟨rfl, hx⟩ := hpost
          refine W.widen (k := 11) (n := 119) (by decide) (by decide) ?_
          refine zz_if_eq X (tgt := 384) dL_pushes_377 (by decide) ⟨by omega, by omega⟩ (fun c_377 => by exfalso; omega) (fun c_377 => ?_)
          refine lv_iconst (v := nZ 1) hX hB dL_pushes_380 rfl ?_
          refine lv_goto (tgt := 385) hX hB dL_pushes_381 (by decide) ?_
          refine lv_istore (lv' := [(15, .int (nZ 1)), (16, .int (nZ ((((B96.1 5) - (B.1 5)) + (B96.1 6)) - (B.1 6)))), (14, .int (nZ nd96)), (13, .int (nZ (B.1 4))), (12, .int (nZ 0)), (11, .int (nZ 0)), (10, .int (nZ (B.1 7))), (9, .int (nZ (B.1 6))), (8, .int (nZ (B.1 5))), (7, .int (nZ (coinsB B))), (6, .int (nZ (cleanAllB (push0 B x1.toNat x2)))), (5, .int (nZ e)), (3, .long (nL (printB B))), (0, .ref h), (1, .int (nZ x1)), (2, .int (nZ x2)), (17, .int (nZ th)), (18, .int (nZ (↑n : Int)))]) hX hB dL_pushes_385 hl (by decide) rfl (fun ls hl => ?_)
          refine lv_iload hX hB dL_pushes_387 (lv_at hl 0 rfl) ?_
          refine zz_if_eq X (tgt := 424) dL_pushes_389 (by decide) ⟨by omega, by omega⟩ (fun c_389 => by exfalso; omega) (fun c_389 => ?_)
          refine lv_aload_n hX hB dL_pushes_392 rfl (lv_at hl 13 rfl) ?_
          have hSl393 : 0 < S96.length := by rw [← hS96]; exact saveL_pos _ _
          have hSm393 : S96.length ≤ 6 := hG96.1.2.2.2
          obtain ⟨S393, hS393⟩ : ∃ z, S96.dropLast = z := ⟨_, rfl⟩
          refine zc1n (zRunW (As := [.ref h]) X mw_undo (wc_undo l D k h B96 S96 K T xs hG96.1 hx B (by rw [← hS96]; exact saveL_last _ _) ((S96.length : Int) - 1) (rfl) B (rfl) S393 hS393 _) zw_299 (zPre1 hP hD hK) rfl hl (Nat.le_of_ble_eq_true rfl) dL_pushes_393 ⟨rfl, rfl, ⟨Nat.le_of_ble_eq_true rfl, Nat.le_of_ble_eq_true rfl⟩, Nat.le_of_ble_eq_true rfl, Nat.le_of_ble_eq_true rfl⟩ rfl) hS hP hD hA (fun r xs H locs hpost hP hD hS => ?_)
          obtain ⟨rfl, hx⟩ := hpost
          have hG393 : goodT N (B, S393, K, T) := by rw [← hS393, ← hS96]; exact hG.back
          refine zz_if_lt X (tgt := 424) dL_pushes_396 (by decide) ⟨by omega, by omega⟩ (fun c_396 => by exfalso; omega) (fun c_396 => ?_)
          refine lv_aload_n hX hB dL_pushes_399 rfl (lv_at hl 13 rfl) ?_
          refine zcL1n (zRunS (As := [.ref h]) X ms_L_print (c_L_print l D k h B S393 K T xs N ⟨by omega, by omega⟩ hG393 hx  _) zw_161 (zPre1 hP hD hK) rfl hl (Nat.le_of_ble_eq_true rfl) dL_pushes_400 ⟨rfl, rfl, ⟨Nat.le_of_ble_eq_true rfl, Nat.le_of_ble_eq_true rfl⟩, Nat.le_of_ble_eq_true rfl, Nat.le_of_ble_eq_true rfl⟩ rfl) hS hP hD hA (fun r xs H locs hpost hP hD hS => ?_)
          obtain ⟨rfl, hx⟩ := hpost
          refine lv_lload_n hX hB dL_pushes_403 rfl (lv_at hl 12 rfl) ?_
          refine zs_lcmp X (rfl) dL_pushes_404 ?_
          refine zz_if_ne X (tgt := 424) dL_pushes_405 (by decide) ⟨by omega, by omega⟩ (fun c_405 => by exfalso; omega) (fun c_405 => ?_)
          refine lv_aload_n hX hB dL_pushes_408 rfl (lv_at hl 13 rfl) ?_
          refine lv_iload_n hX hB dL_pushes_409 rfl (lv_at hl 14 rfl) ?_
          refine lv_iload_n hX hB dL_pushes_410 rfl (lv_at hl 15 rfl) ?_
          refine lv_iconst (v := nZ 1) hX hB dL_pushes_411 rfl ?_
          refine zc1n (zRunW (As := [.ref h, .int (nZ x1), .int (nZ x2), .int (nZ 1)]) X mw_ends (wc_ends l D k h B S393 K T xs hG393.1 hx x1 x2 1 ⟨by omega, by omega⟩ ⟨by omega, by omega⟩ ⟨by omega, by omega⟩ e (he)  _) zw_169 (zPre1 hP hD hK) rfl hl (Nat.le_of_ble_eq_true rfl) dL_pushes_412 ⟨rfl, rfl, ⟨Nat.le_of_ble_eq_true rfl, Nat.le_of_ble_eq_true rfl⟩, Nat.le_of_ble_eq_true rfl, Nat.le_of_ble_eq_true rfl⟩ rfl) hS hP hD hA (fun r xs H locs hpost hP hD hS => ?_)
          obtain ⟨rfl, hx⟩ := hpost
          refine lv_iload hX hB dL_pushes_415 (lv_at hl 11 rfl) ?_
          refine zs_ne X (rfl) (tgt := 424) dL_pushes_417 (by decide) ?_
          refine lv_iconst (v := nZ 1) hX hB dL_pushes_420 rfl ?_
          refine lv_goto (tgt := 425) hX hB dL_pushes_421 (by decide) ?_
          exact zRetZ xs X hP hD hS (Or.inr rfl) rfl ⟨rfl, S393, hG393, hx⟩ dL_pushes_425
      · refine lv_iconst (v := nZ 1) hX hB dL_pushes_323 rfl ?_
        refine lv_goto (tgt := 328) hX hB dL_pushes_324 (by decide) ?_
        refine zs_ne X (by omega) (tgt := 384) dL_pushes_328 (by decide) ?_
        refine lv_iload hX hB dL_pushes_331 (lv_at hl 11 rfl) ?_
        refine zz_if_ge X (tgt := 349) dL_pushes_333 (by decide) ⟨by omega, by omega⟩ (fun c_333 => ?_) (fun c_333 => ?_)
        · refine lv_aload_n hX hB dL_pushes_349 rfl (lv_at hl 13 rfl) ?_
          refine lv_bipush (v := nZ 10) hX hB dL_pushes_350 (by decide) ?_
          refine zc1n (zRunW (As := [.ref h, .int (nZ 10)]) X mw_count (wc_count l D k h B96 S96 K T xs hG96.1 hx 10 ⟨by omega, by omega⟩ (B96.1 7) (rfl)  _) zw_130 (zPre1 hP hD hK) rfl hl (Nat.le_of_ble_eq_true rfl) dL_pushes_352 ⟨rfl, rfl, ⟨Nat.le_of_ble_eq_true rfl, Nat.le_of_ble_eq_true rfl⟩, Nat.le_of_ble_eq_true rfl, Nat.le_of_ble_eq_true rfl⟩ rfl) hS hP hD hA (fun r xs H locs hpost hP hD hS => ?_)
          obtain ⟨rfl, hx⟩ := hpost
          refine lv_iload hX hB dL_pushes_355 (lv_at hl 6 rfl) ?_
          refine lv_iload hX hB dL_pushes_357 (lv_at hl 2 rfl) ?_
          refine zz_iadd X dL_pushes_359 (z := ((B.1 7) + nd96)) (by first | rfl | omega) ?_
          refine zs_ne X (by omega) (tgt := 384) dL_pushes_360 (by decide) ?_
          refine lv_aload_n hX hB dL_pushes_363 rfl (lv_at hl 13 rfl) ?_
          refine lv_iconst (v := nZ 3) hX hB dL_pushes_364 rfl ?_
          refine zc1n (zRunW (As := [.ref h, .int (nZ 3)]) X mw_count (wc_count l D k h B96 S96 K T xs hG96.1 hx 3 ⟨by omega, by omega⟩ (cleanAllB B96) (rfl)  _) zw_130 (zPre1 hP hD hK) rfl hl (Nat.le_of_ble_eq_true rfl) dL_pushes_365 ⟨rfl, rfl, ⟨Nat.le_of_ble_eq_true rfl, Nat.le_of_ble_eq_true rfl⟩, Nat.le_of_ble_eq_true rfl, Nat.le_of_ble_eq_true rfl⟩ rfl) hS hP hD hA (fun r xs H locs hpost hP hD hS => ?_)
          obtain ⟨rfl, hx⟩ := hpost
          refine lv_iload hX hB dL_pushes_368 (lv_at hl 10 rfl) ?_
          refine zs_ne X (hcl9) (tgt := 384) dL_pushes_370 (by decide) ?_
          refine lv_aload_n hX hB dL_pushes_373 rfl (lv_at hl 13 rfl) ?_
          refine zc1 (zRunS (As := [.ref h]) X ms_L_hangs (c_L_hangs l D k h B96 S96 K T xs (N + 1) ⟨by omega, by omega⟩ hG96 hx  _) zw_66 (zPre1 hP hD hK) rfl hl (Nat.le_of_ble_eq_true rfl) dL_pushes_374 ⟨rfl, rfl, ⟨Nat.le_of_ble_eq_true rfl, Nat.le_of_ble_eq_true rfl⟩, Nat.le_of_ble_eq_true rfl, Nat.le_of_ble_eq_true rfl⟩ rfl) hS hP hD hA (fun r xs H locs hpost hP hD hS => ?_)
          obtain ⟨rfl, hx⟩ := hpost
          refine W.widen (k := 11) (n := 119) (by decide) (by decide) ?_
          refine zz_if_eq X (tgt := 384) dL_pushes_377 (by decide) ⟨by omega, by omega⟩ (fun c_377 => by exfalso; omega) (fun c_377 => ?_)
          refine lv_iconst (v := nZ 1) hX hB dL_pushes_380 rfl ?_
          refine lv_goto (tgt := 385) hX hB dL_pushes_381 (by decide) ?_
          refine lv_istore (lv' := [(15, .int (nZ 1)), (16, .int (nZ ((((B96.1 5) - (B.1 5)) + (B96.1 6)) - (B.1 6)))), (14, .int (nZ nd96)), (13, .int (nZ (B.1 4))), (12, .int (nZ 0)), (11, .int (nZ 0)), (10, .int (nZ (B.1 7))), (9, .int (nZ (B.1 6))), (8, .int (nZ (B.1 5))), (7, .int (nZ (coinsB B))), (6, .int (nZ (cleanAllB (push0 B x1.toNat x2)))), (5, .int (nZ e)), (3, .long (nL (printB B))), (0, .ref h), (1, .int (nZ x1)), (2, .int (nZ x2)), (17, .int (nZ th)), (18, .int (nZ (↑n : Int)))]) hX hB dL_pushes_385 hl (by decide) rfl (fun ls hl => ?_)
          refine lv_iload hX hB dL_pushes_387 (lv_at hl 0 rfl) ?_
          refine zz_if_eq X (tgt := 424) dL_pushes_389 (by decide) ⟨by omega, by omega⟩ (fun c_389 => by exfalso; omega) (fun c_389 => ?_)
          refine lv_aload_n hX hB dL_pushes_392 rfl (lv_at hl 13 rfl) ?_
          have hSl393 : 0 < S96.length := by rw [← hS96]; exact saveL_pos _ _
          have hSm393 : S96.length ≤ 6 := hG96.1.2.2.2
          obtain ⟨S393, hS393⟩ : ∃ z, S96.dropLast = z := ⟨_, rfl⟩
          refine zc1n (zRunW (As := [.ref h]) X mw_undo (wc_undo l D k h B96 S96 K T xs hG96.1 hx B (by rw [← hS96]; exact saveL_last _ _) ((S96.length : Int) - 1) (rfl) B (rfl) S393 hS393 _) zw_299 (zPre1 hP hD hK) rfl hl (Nat.le_of_ble_eq_true rfl) dL_pushes_393 ⟨rfl, rfl, ⟨Nat.le_of_ble_eq_true rfl, Nat.le_of_ble_eq_true rfl⟩, Nat.le_of_ble_eq_true rfl, Nat.le_of_ble_eq_true rfl⟩ rfl) hS hP hD hA (fun r xs H locs hpost hP hD hS => ?_)
          obtain ⟨rfl, hx⟩ := hpost
          have hG393 : goodT N (B, S393, K, T) := by rw [← hS393, ← hS96]; exact hG.back
          refine zz_if_lt X (tgt := 424) dL_pushes_396 (by decide) ⟨by omega, by omega⟩ (fun c_396 => by exfalso; omega) (fun c_396 => ?_)
          refine lv_aload_n hX hB dL_pushes_399 rfl (lv_at hl 13 rfl) ?_
          refine zcL1n (zRunS (As := [.ref h]) X ms_L_print (c_L_print l D k h B S393 K T xs N ⟨by omega, by omega⟩ hG393 hx  _) zw_161 (zPre1 hP hD hK) rfl hl (Nat.le_of_ble_eq_true rfl) dL_pushes_400 ⟨rfl, rfl, ⟨Nat.le_of_ble_eq_true rfl, Nat.le_of_ble_eq_true rfl⟩, Nat.le_of_ble_eq_true rfl, Nat.le_of_ble_eq_true rfl⟩ rfl) hS hP hD hA (fun r xs H locs hpost hP hD hS => ?_)
          obtain ⟨rfl, hx⟩ := hpost
          refine lv_lload_n hX hB dL_pushes_403 rfl (lv_at hl 12 rfl) ?_
          refine zs_lcmp X (rfl) dL_pushes_404 ?_
          refine zz_if_ne X (tgt := 424) dL_pushes_405 (by decide) ⟨by omega, by omega⟩ (fun c_405 => by exfalso; omega) (fun c_405 => ?_)
          refine lv_aload_n hX hB dL_pushes_408 rfl (lv_at hl 13 rfl) ?_
          refine lv_iload_n hX hB dL_pushes_409 rfl (lv_at hl 14 rfl) ?_
          refine lv_iload_n hX hB dL_pushes_410 rfl (lv_at hl 15 rfl) ?_
          refine lv_iconst (v := nZ 1) hX hB dL_pushes_411 rfl ?_
          refine zc1n (zRunW (As := [.ref h, .int (nZ x1), .int (nZ x2), .int (nZ 1)]) X mw_ends (wc_ends l D k h B S393 K T xs hG393.1 hx x1 x2 1 ⟨by omega, by omega⟩ ⟨by omega, by omega⟩ ⟨by omega, by omega⟩ e (he)  _) zw_169 (zPre1 hP hD hK) rfl hl (Nat.le_of_ble_eq_true rfl) dL_pushes_412 ⟨rfl, rfl, ⟨Nat.le_of_ble_eq_true rfl, Nat.le_of_ble_eq_true rfl⟩, Nat.le_of_ble_eq_true rfl, Nat.le_of_ble_eq_true rfl⟩ rfl) hS hP hD hA (fun r xs H locs hpost hP hD hS => ?_)
          obtain ⟨rfl, hx⟩ := hpost
          refine lv_iload hX hB dL_pushes_415 (lv_at hl 11 rfl) ?_
          refine zs_ne X (rfl) (tgt := 424) dL_pushes_417 (by decide) ?_
          refine lv_iconst (v := nZ 1) hX hB dL_pushes_420 rfl ?_
          refine lv_goto (tgt := 425) hX hB dL_pushes_421 (by decide) ?_
          exact zRetZ xs X hP hD hS (Or.inr rfl) rfl ⟨rfl, S393, hG393, hx⟩ dL_pushes_425
        · refine lv_aload_n hX hB dL_pushes_336 rfl (lv_at hl 13 rfl) ?_
          refine lv_bipush (v := nZ 9) hX hB dL_pushes_337 (by decide) ?_
          refine zc1n (zRunW (As := [.ref h, .int (nZ 9)]) X mw_count (wc_count l D k h B96 S96 K T xs hG96.1 hx 9 ⟨by omega, by omega⟩ (B96.1 6) (rfl)  _) zw_130 (zPre1 hP hD hK) rfl hl (Nat.le_of_ble_eq_true rfl) dL_pushes_339 ⟨rfl, rfl, ⟨Nat.le_of_ble_eq_true rfl, Nat.le_of_ble_eq_true rfl⟩, Nat.le_of_ble_eq_true rfl, Nat.le_of_ble_eq_true rfl⟩ rfl) hS hP hD hA (fun r xs H locs hpost hP hD hS => ?_)
          obtain ⟨rfl, hx⟩ := hpost
          refine lv_iload hX hB dL_pushes_342 (lv_at hl 7 rfl) ?_
          refine lv_iconst (v := nZ 1) hX hB dL_pushes_344 rfl ?_
          refine zz_iadd X dL_pushes_345 (z := ((B.1 6) + 1)) (by first | rfl | omega) ?_
          refine zs_ne X (by omega) (tgt := 384) dL_pushes_346 (by decide) ?_
          refine lv_aload_n hX hB dL_pushes_349 rfl (lv_at hl 13 rfl) ?_
          refine lv_bipush (v := nZ 10) hX hB dL_pushes_350 (by decide) ?_
          refine zc1n (zRunW (As := [.ref h, .int (nZ 10)]) X mw_count (wc_count l D k h B96 S96 K T xs hG96.1 hx 10 ⟨by omega, by omega⟩ (B96.1 7) (rfl)  _) zw_130 (zPre1 hP hD hK) rfl hl (Nat.le_of_ble_eq_true rfl) dL_pushes_352 ⟨rfl, rfl, ⟨Nat.le_of_ble_eq_true rfl, Nat.le_of_ble_eq_true rfl⟩, Nat.le_of_ble_eq_true rfl, Nat.le_of_ble_eq_true rfl⟩ rfl) hS hP hD hA (fun r xs H locs hpost hP hD hS => ?_)
          obtain ⟨rfl, hx⟩ := hpost
          refine lv_iload hX hB dL_pushes_355 (lv_at hl 6 rfl) ?_
          refine lv_iload hX hB dL_pushes_357 (lv_at hl 2 rfl) ?_
          refine zz_iadd X dL_pushes_359 (z := ((B.1 7) + nd96)) (by first | rfl | omega) ?_
          refine zs_ne X (by omega) (tgt := 384) dL_pushes_360 (by decide) ?_
          refine lv_aload_n hX hB dL_pushes_363 rfl (lv_at hl 13 rfl) ?_
          refine lv_iconst (v := nZ 3) hX hB dL_pushes_364 rfl ?_
          refine zc1n (zRunW (As := [.ref h, .int (nZ 3)]) X mw_count (wc_count l D k h B96 S96 K T xs hG96.1 hx 3 ⟨by omega, by omega⟩ (cleanAllB B96) (rfl)  _) zw_130 (zPre1 hP hD hK) rfl hl (Nat.le_of_ble_eq_true rfl) dL_pushes_365 ⟨rfl, rfl, ⟨Nat.le_of_ble_eq_true rfl, Nat.le_of_ble_eq_true rfl⟩, Nat.le_of_ble_eq_true rfl, Nat.le_of_ble_eq_true rfl⟩ rfl) hS hP hD hA (fun r xs H locs hpost hP hD hS => ?_)
          obtain ⟨rfl, hx⟩ := hpost
          refine lv_iload hX hB dL_pushes_368 (lv_at hl 10 rfl) ?_
          refine zs_ne X (hcl9) (tgt := 384) dL_pushes_370 (by decide) ?_
          refine lv_aload_n hX hB dL_pushes_373 rfl (lv_at hl 13 rfl) ?_
          refine zc1 (zRunS (As := [.ref h]) X ms_L_hangs (c_L_hangs l D k h B96 S96 K T xs (N + 1) ⟨by omega, by omega⟩ hG96 hx  _) zw_66 (zPre1 hP hD hK) rfl hl (Nat.le_of_ble_eq_true rfl) dL_pushes_374 ⟨rfl, rfl, ⟨Nat.le_of_ble_eq_true rfl, Nat.le_of_ble_eq_true rfl⟩, Nat.le_of_ble_eq_true rfl, Nat.le_of_ble_eq_true rfl⟩ rfl) hS hP hD hA (fun r xs H locs hpost hP hD hS => ?_)
          obtain ⟨rfl, hx⟩ := hpost
          refine W.widen (k := 11) (n := 119) (by decide) (by decide) ?_
          refine zz_if_eq X (tgt := 384) dL_pushes_377 (by decide) ⟨by omega, by omega⟩ (fun c_377 => by exfalso; omega) (fun c_377 => ?_)
          refine lv_iconst (v := nZ 1) hX hB dL_pushes_380 rfl ?_
          refine lv_goto (tgt := 385) hX hB dL_pushes_381 (by decide) ?_
          refine lv_istore (lv' := [(15, .int (nZ 1)), (16, .int (nZ ((((B96.1 5) - (B.1 5)) + (B96.1 6)) - (B.1 6)))), (14, .int (nZ nd96)), (13, .int (nZ (B.1 4))), (12, .int (nZ 0)), (11, .int (nZ 0)), (10, .int (nZ (B.1 7))), (9, .int (nZ (B.1 6))), (8, .int (nZ (B.1 5))), (7, .int (nZ (coinsB B))), (6, .int (nZ (cleanAllB (push0 B x1.toNat x2)))), (5, .int (nZ e)), (3, .long (nL (printB B))), (0, .ref h), (1, .int (nZ x1)), (2, .int (nZ x2)), (17, .int (nZ th)), (18, .int (nZ (↑n : Int)))]) hX hB dL_pushes_385 hl (by decide) rfl (fun ls hl => ?_)
          refine lv_iload hX hB dL_pushes_387 (lv_at hl 0 rfl) ?_
          refine zz_if_eq X (tgt := 424) dL_pushes_389 (by decide) ⟨by omega, by omega⟩ (fun c_389 => by exfalso; omega) (fun c_389 => ?_)
          refine lv_aload_n hX hB dL_pushes_392 rfl (lv_at hl 13 rfl) ?_
          have hSl393 : 0 < S96.length := by rw [← hS96]; exact saveL_pos _ _
          have hSm393 : S96.length ≤ 6 := hG96.1.2.2.2
          obtain ⟨S393, hS393⟩ : ∃ z, S96.dropLast = z := ⟨_, rfl⟩
          refine zc1n (zRunW (As := [.ref h]) X mw_undo (wc_undo l D k h B96 S96 K T xs hG96.1 hx B (by rw [← hS96]; exact saveL_last _ _) ((S96.length : Int) - 1) (rfl) B (rfl) S393 hS393 _) zw_299 (zPre1 hP hD hK) rfl hl (Nat.le_of_ble_eq_true rfl) dL_pushes_393 ⟨rfl, rfl, ⟨Nat.le_of_ble_eq_true rfl, Nat.le_of_ble_eq_true rfl⟩, Nat.le_of_ble_eq_true rfl, Nat.le_of_ble_eq_true rfl⟩ rfl) hS hP hD hA (fun r xs H locs hpost hP hD hS => ?_)
          obtain ⟨rfl, hx⟩ := hpost
          have hG393 : goodT N (B, S393, K, T) := by rw [← hS393, ← hS96]; exact hG.back
          refine zz_if_lt X (tgt := 424) dL_pushes_396 (by decide) ⟨by omega, by omega⟩ (fun c_396 => by exfalso; omega) (fun c_396 => ?_)
          refine lv_aload_n hX hB dL_pushes_399 rfl (lv_at hl 13 rfl) ?_
          refine zcL1n (zRunS (As := [.ref h]) X ms_L_print (c_L_print l D k h B S393 K T xs N ⟨by omega, by omega⟩ hG393 hx  _) zw_161 (zPre1 hP hD hK) rfl hl (Nat.le_of_ble_eq_true rfl) dL_pushes_400 ⟨rfl, rfl, ⟨Nat.le_of_ble_eq_true rfl, Nat.le_of_ble_eq_true rfl⟩, Nat.le_of_ble_eq_true rfl, Nat.le_of_ble_eq_true rfl⟩ rfl) hS hP hD hA (fun r xs H locs hpost hP hD hS => ?_)
          obtain ⟨rfl, hx⟩ := hpost
          refine lv_lload_n hX hB dL_pushes_403 rfl (lv_at hl 12 rfl) ?_
          refine zs_lcmp X (rfl) dL_pushes_404 ?_
          refine zz_if_ne X (tgt := 424) dL_pushes_405 (by decide) ⟨by omega, by omega⟩ (fun c_405 => by exfalso; omega) (fun c_405 => ?_)
          refine lv_aload_n hX hB dL_pushes_408 rfl (lv_at hl 13 rfl) ?_
          refine lv_iload_n hX hB dL_pushes_409 rfl (lv_at hl 14 rfl) ?_
          refine lv_iload_n hX hB dL_pushes_410 rfl (lv_at hl 15 rfl) ?_
          refine lv_iconst (v := nZ 1) hX hB dL_pushes_411 rfl ?_
          refine zc1n (zRunW (As := [.ref h, .int (nZ x1), .int (nZ x2), .int (nZ 1)]) X mw_ends (wc_ends l D k h B S393 K T xs hG393.1 hx x1 x2 1 ⟨by omega, by omega⟩ ⟨by omega, by omega⟩ ⟨by omega, by omega⟩ e (he)  _) zw_169 (zPre1 hP hD hK) rfl hl (Nat.le_of_ble_eq_true rfl) dL_pushes_412 ⟨rfl, rfl, ⟨Nat.le_of_ble_eq_true rfl, Nat.le_of_ble_eq_true rfl⟩, Nat.le_of_ble_eq_true rfl, Nat.le_of_ble_eq_true rfl⟩ rfl) hS hP hD hA (fun r xs H locs hpost hP hD hS => ?_)
          obtain ⟨rfl, hx⟩ := hpost
          refine lv_iload hX hB dL_pushes_415 (lv_at hl 11 rfl) ?_
          refine zs_ne X (rfl) (tgt := 424) dL_pushes_417 (by decide) ?_
          refine lv_iconst (v := nZ 1) hX hB dL_pushes_420 rfl ?_
          refine lv_goto (tgt := 425) hX hB dL_pushes_421 (by decide) ?_
          exact zRetZ xs X hP hD hS (Or.inr rfl) rfl ⟨rfl, S393, hG393, hx⟩ dL_pushes_425
    · obtain ⟨cv, hcv⟩ : ∃ v, placeAtS (B96.2 x1.toNat) (n : Int) = v := ⟨_, rfl⟩
      have hcvr := place_rng hBg96 hj n hcv
      have h01 := thI_01 hth
      refine lv_iload hX hB dL_pushes_252 (lv_at hl 16 rfl) ?_
      refine zz_if_ne X (tgt := 269) dL_pushes_254 (by decide) ⟨by omega, by omega⟩ (fun c_254 => ?_) (fun c_254 => ?_)
      · refine lv_iconst (v := nZ 1) hX hB dL_pushes_269 rfl ?_
        refine lv_goto (tgt := 274) hX hB dL_pushes_270 (by decide) ?_
        refine lv_istore (lv' := [(17, .int (nZ 1)), (16, .int (nZ ((((B96.1 5) - (B.1 5)) + (B96.1 6)) - (B.1 6)))), (15, .int (nZ 1)), (14, .int (nZ nd96)), (13, .int (nZ (B.1 4))), (12, .int (nZ 0)), (11, .int (nZ 0)), (10, .int (nZ (B.1 7))), (9, .int (nZ (B.1 6))), (8, .int (nZ (B.1 5))), (7, .int (nZ (coinsB B))), (6, .int (nZ (cleanAllB (push0 B x1.toNat x2)))), (5, .int (nZ e)), (3, .long (nL (printB B))), (0, .ref h), (1, .int (nZ x1)), (2, .int (nZ x2)), (18, .int (nZ (↑n : Int)))]) hX hB dL_pushes_274 hl (by decide) rfl (fun ls hl => ?_)
        refine lv_iinc (v := nZ (↑(n + 1) : Int)) (lv' := [(18, .int (nZ (↑(n + 1) : Int))), (17, .int (nZ 1)), (16, .int (nZ ((((B96.1 5) - (B.1 5)) + (B96.1 6)) - (B.1 6)))), (15, .int (nZ 1)), (14, .int (nZ nd96)), (13, .int (nZ (B.1 4))), (12, .int (nZ 0)), (11, .int (nZ 0)), (10, .int (nZ (B.1 7))), (9, .int (nZ (B.1 6))), (8, .int (nZ (B.1 5))), (7, .int (nZ (coinsB B))), (6, .int (nZ (cleanAllB (push0 B x1.toNat x2)))), (5, .int (nZ e)), (3, .long (nL (printB B))), (0, .ref h), (1, .int (nZ x1)), (2, .int (nZ x2))]) hX hB dL_pushes_276 hl (k := 17) rfl (zinc (by omega)) (by decide) rfl (fun ls hl => ?_)
        refine lv_goto (tgt := 245) hX hB dL_pushes_279 (by decide) ?_
        exact ih_245 ((n + 1), 1, xs) _ _ _ ⟨(by omega), (by first | exact Or.inl rfl | exact thI_step hth (by omega) hcv c_266), (by exact hx), hP, hD, hS, (lv_sub hl [2, 3, 4, 5, 6, 7, 8, 9, 10, 11, 12, 13, 14, 15, 16, 17, 1, 0] rfl)⟩ (by dsimp only; omega)
      · refine lv_aload_n hX hB dL_pushes_257 rfl (lv_at hl 13 rfl) ?_
        refine lv_iload_n hX hB dL_pushes_258 rfl (lv_at hl 14 rfl) ?_
        refine lv_iload hX hB dL_pushes_259 (lv_at hl 17 rfl) ?_
        refine zc1n (zRunW (As := [.ref h, .int (nZ x1), .int (nZ (↑n : Int))]) X mw_coin (wc_coin l D k h B96 S96 K T xs hG96.1 hx x1 (↑n : Int) ⟨by omega, by omega⟩ ⟨by omega, by omega⟩ cv (hcv)  _) zw_71 (zPre1 hP hD hK) rfl hl (Nat.le_of_ble_eq_true rfl) dL_pushes_261 ⟨rfl, rfl, ⟨Nat.le_of_ble_eq_true rfl, Nat.le_of_ble_eq_true rfl⟩, Nat.le_of_ble_eq_true rfl, Nat.le_of_ble_eq_true rfl⟩ rfl) hS hP hD hA (fun r xs H locs hpost hP hD hS => ?_)
        obtain ⟨rfl, hx⟩ := hpost
        refine lv_iload hX hB dL_pushes_264 (lv_at hl 11 rfl) ?_
        refine zz_icmp_ne X (tgt := 273) dL_pushes_266 (by decide) ⟨by omega, by omega⟩ ⟨by omega, by omega⟩ (fun c_266 => ?_) (fun c_266 => ?_)
        · refine lv_iconst (v := nZ 0) hX hB dL_pushes_273 rfl ?_
          refine lv_istore (lv' := [(17, .int (nZ 0)), (16, .int (nZ ((((B96.1 5) - (B.1 5)) + (B96.1 6)) - (B.1 6)))), (15, .int (nZ 1)), (14, .int (nZ nd96)), (13, .int (nZ (B.1 4))), (12, .int (nZ 0)), (11, .int (nZ 0)), (10, .int (nZ (B.1 7))), (9, .int (nZ (B.1 6))), (8, .int (nZ (B.1 5))), (7, .int (nZ (coinsB B))), (6, .int (nZ (cleanAllB (push0 B x1.toNat x2)))), (5, .int (nZ e)), (3, .long (nL (printB B))), (0, .ref h), (1, .int (nZ x1)), (2, .int (nZ x2)), (18, .int (nZ (↑n : Int)))]) hX hB dL_pushes_274 hl (by decide) rfl (fun ls hl => ?_)
          refine lv_iinc (v := nZ (↑(n + 1) : Int)) (lv' := [(18, .int (nZ (↑(n + 1) : Int))), (17, .int (nZ 0)), (16, .int (nZ ((((B96.1 5) - (B.1 5)) + (B96.1 6)) - (B.1 6)))), (15, .int (nZ 1)), (14, .int (nZ nd96)), (13, .int (nZ (B.1 4))), (12, .int (nZ 0)), (11, .int (nZ 0)), (10, .int (nZ (B.1 7))), (9, .int (nZ (B.1 6))), (8, .int (nZ (B.1 5))), (7, .int (nZ (coinsB B))), (6, .int (nZ (cleanAllB (push0 B x1.toNat x2)))), (5, .int (nZ e)), (3, .long (nL (printB B))), (0, .ref h), (1, .int (nZ x1)), (2, .int (nZ x2))]) hX hB dL_pushes_276 hl (k := 17) rfl (zinc (by omega)) (by decide) rfl (fun ls hl => ?_)
          refine lv_goto (tgt := 245) hX hB dL_pushes_279 (by decide) ?_
          exact ih_245 ((n + 1), 0, xs) _ _ _ ⟨(by omega), (by first | exact Or.inl rfl | exact thI_step hth (by omega) hcv c_266), (by exact hx), hP, hD, hS, (lv_sub hl [2, 3, 4, 5, 6, 7, 8, 9, 10, 11, 12, 13, 14, 15, 16, 17, 1, 0] rfl)⟩ (by dsimp only; omega)
        · refine lv_iconst (v := nZ 1) hX hB dL_pushes_269 rfl ?_
          refine lv_goto (tgt := 274) hX hB dL_pushes_270 (by decide) ?_
          refine lv_istore (lv' := [(17, .int (nZ 1)), (16, .int (nZ ((((B96.1 5) - (B.1 5)) + (B96.1 6)) - (B.1 6)))), (15, .int (nZ 1)), (14, .int (nZ nd96)), (13, .int (nZ (B.1 4))), (12, .int (nZ 0)), (11, .int (nZ 0)), (10, .int (nZ (B.1 7))), (9, .int (nZ (B.1 6))), (8, .int (nZ (B.1 5))), (7, .int (nZ (coinsB B))), (6, .int (nZ (cleanAllB (push0 B x1.toNat x2)))), (5, .int (nZ e)), (3, .long (nL (printB B))), (0, .ref h), (1, .int (nZ x1)), (2, .int (nZ x2)), (18, .int (nZ (↑n : Int)))]) hX hB dL_pushes_274 hl (by decide) rfl (fun ls hl => ?_)
          refine lv_iinc (v := nZ (↑(n + 1) : Int)) (lv' := [(18, .int (nZ (↑(n + 1) : Int))), (17, .int (nZ 1)), (16, .int (nZ ((((B96.1 5) - (B.1 5)) + (B96.1 6)) - (B.1 6)))), (15, .int (nZ 1)), (14, .int (nZ nd96)), (13, .int (nZ (B.1 4))), (12, .int (nZ 0)), (11, .int (nZ 0)), (10, .int (nZ (B.1 7))), (9, .int (nZ (B.1 6))), (8, .int (nZ (B.1 5))), (7, .int (nZ (coinsB B))), (6, .int (nZ (cleanAllB (push0 B x1.toNat x2)))), (5, .int (nZ e)), (3, .long (nL (printB B))), (0, .ref h), (1, .int (nZ x1)), (2, .int (nZ x2))]) hX hB dL_pushes_276 hl (k := 17) rfl (zinc (by omega)) (by decide) rfl (fun ls hl => ?_)
          refine lv_goto (tgt := 245) hX hB dL_pushes_279 (by decide) ?_
          exact ih_245 ((n + 1), 1, xs) _ _ _ ⟨(by omega), (by first | exact Or.inl rfl | exact thI_step hth (by omega) hcv c_266), (by exact hx), hP, hD, hS, (lv_sub hl [2, 3, 4, 5, 6, 7, 8, 9, 10, 11, 12, 13, 14, 15, 16, 17, 1, 0] rfl)⟩ (by dsimp only; omega)
  · refine lv_iload hX hB dL_pushes_228 (lv_at hl 11 rfl) ?_
    refine lv_bipush (v := nZ 100) hX hB dL_pushes_230 (by decide) ?_
    refine zz_icmp_ne X (tgt := 239) dL_pushes_232 (by decide) ⟨by omega, by omega⟩ ⟨by omega, by omega⟩ (fun c_232 => ?_) (fun c_232 => ?_)
    · refine lv_iconst (v := nZ 0) hX hB dL_pushes_239 rfl ?_
      refine lv_istore (lv' := [(17, .int (nZ 0)), (16, .int (nZ ((((B96.1 5) - (B.1 5)) + (B96.1 6)) - (B.1 6)))), (15, .int (nZ 1)), (14, .int (nZ nd96)), (13, .int (nZ (B.1 4))), (12, .int (nZ 0)), (11, .int (nZ 0)), (10, .int (nZ (B.1 7))), (9, .int (nZ (B.1 6))), (8, .int (nZ (B.1 5))), (7, .int (nZ (coinsB B))), (6, .int (nZ (cleanAllB (push0 B x1.toNat x2)))), (5, .int (nZ e)), (3, .long (nL (printB B))), (0, .ref h), (1, .int (nZ x1)), (2, .int (nZ x2))]) hX hB dL_pushes_240 hl (by decide) rfl (fun ls hl => ?_)
      refine lv_iconst (v := nZ 0) hX hB dL_pushes_242 rfl ?_
      refine lv_istore (lv' := [(18, .int (nZ 0)), (17, .int (nZ 0)), (16, .int (nZ ((((B96.1 5) - (B.1 5)) + (B96.1 6)) - (B.1 6)))), (15, .int (nZ 1)), (14, .int (nZ nd96)), (13, .int (nZ (B.1 4))), (12, .int (nZ 0)), (11, .int (nZ 0)), (10, .int (nZ (B.1 7))), (9, .int (nZ (B.1 6))), (8, .int (nZ (B.1 5))), (7, .int (nZ (coinsB B))), (6, .int (nZ (cleanAllB (push0 B x1.toNat x2)))), (5, .int (nZ e)), (3, .long (nL (printB B))), (0, .ref h), (1, .int (nZ x1)), (2, .int (nZ x2))]) hX hB dL_pushes_243 hl (by decide) rfl (fun ls hl => ?_)
      refine zLoop (σ := Nat × Int × va_W) (fun (x : Nat × Int × va_W) (H : Heap) (locs : List Loc) (ls : Array Slot) => match x with | (n, th, xs) => (n ≤ 20) ∧ (thI (B96.2 x1.toNat) e th n) ∧ (isX k h (B96, S96, K, T) xs) ∧ va_P D vwCl xs H ∧ va_D A xs ∧ va_S A s9.heap H locs ∧ lv_has ls 19 [(16, .int (nZ ((((B96.1 5) - (B.1 5)) + (B96.1 6)) - (B.1 6)))), (15, .int (nZ 1)), (14, .int (nZ nd96)), (13, .int (nZ (B.1 4))), (12, .int (nZ 0)), (11, .int (nZ 0)), (10, .int (nZ (B.1 7))), (9, .int (nZ (B.1 6))), (8, .int (nZ (B.1 5))), (7, .int (nZ (coinsB B))), (6, .int (nZ (cleanAllB (push0 B x1.toNat x2)))), (5, .int (nZ e)), (3, .long (nL (printB B))), (0, .ref h), (1, .int (nZ x1)), (2, .int (nZ x2)), (17, .int (nZ th)), (18, .int (nZ (↑n : Int)))]) (fun (x : Nat × Int × va_W) => match x with | (n, th, xs) => 20 - n) ?_ (0, 0, xs) ⟨(by omega), (by first | exact Or.inl rfl | exact Or.inr ⟨rfl, ⟨by omega, by omega⟩, fun i hi => absurd hi (Nat.not_lt_zero _)⟩), (by exact hx), hP, hD, hS, (lv_sub hl [2, 3, 4, 5, 6, 7, 8, 9, 10, 11, 12, 13, 14, 15, 16, 17, 1, 0] rfl)⟩
      rintro ⟨n, th, xs⟩ H locs ls ⟨hn, hth, hx, hP, hD, hS, hl⟩ ih_245
      refine lv_iload hX hB dL_pushes_245 (lv_at hl 17 rfl) ?_
      refine lv_bipush (v := nZ 20) hX hB dL_pushes_247 (by decide) ?_
      refine zz_icmp_ge X (tgt := 282) dL_pushes_249 (by decide) ⟨by omega, by omega⟩ ⟨by omega, by omega⟩ (fun c_249 => ?_) (fun c_249 => ?_)
      · have hn20 : n = 20 := by omega
        rw [hn20] at hth
        have ht1 := thI_end hth heb
        refine lv_iload hX hB dL_pushes_282 (lv_at hl 1 rfl) ?_
        refine zz_if_eq X (tgt := 384) dL_pushes_284 (by decide) ⟨by omega, by omega⟩ (fun c_284 => by exfalso; omega) (fun c_284 => ?_)
        refine lv_iload hX hB dL_pushes_287 (lv_at hl 16 rfl) ?_
        refine zz_if_eq X (tgt := 384) dL_pushes_289 (by decide) ⟨by omega, by omega⟩ (fun c_289 => by exfalso; omega) (fun c_289 => ?_)
        refine lv_aload_n hX hB dL_pushes_292 rfl (lv_at hl 13 rfl) ?_
        refine lv_iconst (v := nZ 2) hX hB dL_pushes_293 rfl ?_
        refine zc1n (zRunW (As := [.ref h, .int (nZ 2)]) X mw_count (wc_count l D k h B96 S96 K T xs hG96.1 hx 2 ⟨by omega, by omega⟩ (coinsB B96) (rfl)  _) zw_130 (zPre1 hP hD hK) rfl hl (Nat.le_of_ble_eq_true rfl) dL_pushes_294 ⟨rfl, rfl, ⟨Nat.le_of_ble_eq_true rfl, Nat.le_of_ble_eq_true rfl⟩, Nat.le_of_ble_eq_true rfl, Nat.le_of_ble_eq_true rfl⟩ rfl) hS hP hD hA (fun r xs H locs hpost hP hD hS => ?_)
        obtain ⟨rfl, hx⟩ := hpost
        refine lv_iload hX hB dL_pushes_297 (lv_at hl 9 rfl) ?_
        refine lv_iconst (v := nZ 1) hX hB dL_pushes_299 rfl ?_
        refine zz_iadd X dL_pushes_300 (z := ((coinsB B) + 1)) (by first | rfl | omega) ?_
        refine lv_iload hX hB dL_pushes_301 (lv_at hl 0 rfl) ?_
        refine zz_isub X dL_pushes_303 (z := (((coinsB B) + 1) - ((((B96.1 5) - (B.1 5)) + (B96.1 6)) - (B.1 6)))) (by first | rfl | omega) ?_
        refine zs_ne X (by omega) (tgt := 384) dL_pushes_304 (by decide) ?_
        refine lv_aload_n hX hB dL_pushes_307 rfl (lv_at hl 13 rfl) ?_
        refine lv_bipush (v := nZ 8) hX hB dL_pushes_308 (by decide) ?_
        refine zc1n (zRunW (As := [.ref h, .int (nZ 8)]) X mw_count (wc_count l D k h B96 S96 K T xs hG96.1 hx 8 ⟨by omega, by omega⟩ (B96.1 5) (rfl)  _) zw_130 (zPre1 hP hD hK) rfl hl (Nat.le_of_ble_eq_true rfl) dL_pushes_310 ⟨rfl, rfl, ⟨Nat.le_of_ble_eq_true rfl, Nat.le_of_ble_eq_true rfl⟩, Nat.le_of_ble_eq_true rfl, Nat.le_of_ble_eq_true rfl⟩ rfl) hS hP hD hA (fun r xs H locs hpost hP hD hS => ?_)
        obtain ⟨rfl, hx⟩ := hpost
        refine lv_iload hX hB dL_pushes_313 (lv_at hl 8 rfl) ?_
        refine zz_isub X dL_pushes_315 (z := ((B96.1 5) - (B.1 5))) (by first | rfl | omega) ?_
        refine lv_iload hX hB dL_pushes_316 (lv_at hl 11 rfl) ?_
        refine lv_bipush (v := nZ 100) hX hB dL_pushes_318 (by decide) ?_
        refine zz_icmp_ne X (tgt := 327) dL_pushes_320 (by decide) ⟨by omega, by omega⟩ ⟨by omega, by omega⟩ (fun c_320 => ?_) (fun c_320 => ?_)
        · refine lv_iconst (v := nZ 0) hX hB dL_pushes_327 rfl ?_
          refine zs_ne X (by omega) (tgt := 384) dL_pushes_328 (by decide) ?_
          refine lv_iload hX hB dL_pushes_331 (lv_at hl 11 rfl) ?_
          refine zz_if_ge X (tgt := 349) dL_pushes_333 (by decide) ⟨by omega, by omega⟩ (fun c_333 => ?_) (fun c_333 => ?_)
          · refine lv_aload_n hX hB dL_pushes_349 rfl (lv_at hl 13 rfl) ?_
            refine lv_bipush (v := nZ 10) hX hB dL_pushes_350 (by decide) ?_
            refine zc1n (zRunW (As := [.ref h, .int (nZ 10)]) X mw_count (wc_count l D k h B96 S96 K T xs hG96.1 hx 10 ⟨by omega, by omega⟩ (B96.1 7) (rfl)  _) zw_130 (zPre1 hP hD hK) rfl hl (Nat.le_of_ble_eq_true rfl) dL_pushes_352 ⟨rfl, rfl, ⟨Nat.le_of_ble_eq_true rfl, Nat.le_of_ble_eq_true rfl⟩, Nat.le_of_ble_eq_true rfl, Nat.le_of_ble_eq_true rfl⟩ rfl) hS hP hD hA (fun r xs H locs hpost hP hD hS => ?_)
            obtain ⟨rfl, hx⟩ := hpost
            refine lv_iload hX hB dL_pushes_355 (lv_at hl 6 rfl) ?_
            refine lv_iload hX hB dL_pushes_357 (lv_at hl 2 rfl) ?_
            refine zz_iadd X dL_pushes_359 (z := ((B.1 7) + nd96)) (by first | rfl | omega) ?_
            refine zs_ne X (by omega) (tgt := 384) dL_pushes_360 (by decide) ?_
            refine lv_aload_n hX hB dL_pushes_363 rfl (lv_at hl 13 rfl) ?_
            refine lv_iconst (v := nZ 3) hX hB dL_pushes_364 rfl ?_
            refine zc1n (zRunW (As := [.ref h, .int (nZ 3)]) X mw_count (wc_count l D k h B96 S96 K T xs hG96.1 hx 3 ⟨by omega, by omega⟩ (cleanAllB B96) (rfl)  _) zw_130 (zPre1 hP hD hK) rfl hl (Nat.le_of_ble_eq_true rfl) dL_pushes_365 ⟨rfl, rfl, ⟨Nat.le_of_ble_eq_true rfl, Nat.le_of_ble_eq_true rfl⟩, Nat.le_of_ble_eq_true rfl, Nat.le_of_ble_eq_true rfl⟩ rfl) hS hP hD hA (fun r xs H locs hpost hP hD hS => ?_)
            obtain ⟨rfl, hx⟩ := hpost
            refine lv_iload hX hB dL_pushes_368 (lv_at hl 10 rfl) ?_
            refine zs_ne X (hcl9) (tgt := 384) dL_pushes_370 (by decide) ?_
            refine lv_aload_n hX hB dL_pushes_373 rfl (lv_at hl 13 rfl) ?_
            refine zc1 (zRunS (As := [.ref h]) X ms_L_hangs (c_L_hangs l D k h B96 S96 K T xs (N + 1) ⟨by omega, by omega⟩ hG96 hx  _) zw_66 (zPre1 hP hD hK) rfl hl (Nat.le_of_ble_eq_true rfl) dL_pushes_374 ⟨rfl, rfl, ⟨Nat.le_of_ble_eq_true rfl, Nat.le_of_ble_eq_true rfl⟩, Nat.le_of_ble_eq_true rfl, Nat.le_of_ble_eq_true rfl⟩ rfl) hS hP hD hA (fun r xs H locs hpost hP hD hS => ?_)
            obtain ⟨rfl, hx⟩ := hpost
            refine W.widen (k := 11) (n := 119) (by decide) (by decide) ?_
            refine zz_if_eq X (tgt := 384) dL_pushes_377 (by decide) ⟨by omega, by omega⟩ (fun c_377 => by exfalso; omega) (fun c_377 => ?_)
            refine lv_iconst (v := nZ 1) hX hB dL_pushes_380 rfl ?_
            refine lv_goto (tgt := 385) hX hB dL_pushes_381 (by decide) ?_
            refine lv_istore (lv' := [(15, .int (nZ 1)), (16, .int (nZ ((((B96.1 5) - (B.1 5)) + (B96.1 6)) - (B.1 6)))), (14, .int (nZ nd96)), (13, .int (nZ (B.1 4))), (12, .int (nZ 0)), (11, .int (nZ 0)), (10, .int (nZ (B.1 7))), (9, .int (nZ (B.1 6))), (8, .int (nZ (B.1 5))), (7, .int (nZ (coinsB B))), (6, .int (nZ (cleanAllB (push0 B x1.toNat x2)))), (5, .int (nZ e)), (3, .long (nL (printB B))), (0, .ref h), (1, .int (nZ x1)), (2, .int (nZ x2)), (17, .int (nZ th)), (18, .int (nZ (↑n : Int)))]) hX hB dL_pushes_385 hl (by decide) rfl (fun ls hl => ?_)
            refine lv_iload hX hB dL_pushes_387 (lv_at hl 0 rfl) ?_
            refine zz_if_eq X (tgt := 424) dL_pushes_389 (by decide) ⟨by omega, by omega⟩ (fun c_389 => by exfalso; omega) (fun c_389 => ?_)
            refine lv_aload_n hX hB dL_pushes_392 rfl (lv_at hl 13 rfl) ?_
            have hSl393 : 0 < S96.length := by rw [← hS96]; exact saveL_pos _ _
            have hSm393 : S96.length ≤ 6 := hG96.1.2.2.2
            obtain ⟨S393, hS393⟩ : ∃ z, S96.dropLast = z := ⟨_, rfl⟩
            refine zc1n (zRunW (As := [.ref h]) X mw_undo (wc_undo l D k h B96 S96 K T xs hG96.1 hx B (by rw [← hS96]; exact saveL_last _ _) ((S96.length : Int) - 1) (rfl) B (rfl) S393 hS393 _) zw_299 (zPre1 hP hD hK) rfl hl (Nat.le_of_ble_eq_true rfl) dL_pushes_393 ⟨rfl, rfl, ⟨Nat.le_of_ble_eq_true rfl, Nat.le_of_ble_eq_true rfl⟩, Nat.le_of_ble_eq_true rfl, Nat.le_of_ble_eq_true rfl⟩ rfl) hS hP hD hA (fun r xs H locs hpost hP hD hS => ?_)
            obtain ⟨rfl, hx⟩ := hpost
            have hG393 : goodT N (B, S393, K, T) := by rw [← hS393, ← hS96]; exact hG.back
            refine zz_if_lt X (tgt := 424) dL_pushes_396 (by decide) ⟨by omega, by omega⟩ (fun c_396 => by exfalso; omega) (fun c_396 => ?_)
            refine lv_aload_n hX hB dL_pushes_399 rfl (lv_at hl 13 rfl) ?_
            refine zcL1n (zRunS (As := [.ref h]) X ms_L_print (c_L_print l D k h B S393 K T xs N ⟨by omega, by omega⟩ hG393 hx  _) zw_161 (zPre1 hP hD hK) rfl hl (Nat.le_of_ble_eq_true rfl) dL_pushes_400 ⟨rfl, rfl, ⟨Nat.le_of_ble_eq_true rfl, Nat.le_of_ble_eq_true rfl⟩, Nat.le_of_ble_eq_true rfl, Nat.le_of_ble_eq_true rfl⟩ rfl) hS hP hD hA (fun r xs H locs hpost hP hD hS => ?_)
            obtain ⟨rfl, hx⟩ := hpost
            refine lv_lload_n hX hB dL_pushes_403 rfl (lv_at hl 12 rfl) ?_
            refine zs_lcmp X (rfl) dL_pushes_404 ?_
            refine zz_if_ne X (tgt := 424) dL_pushes_405 (by decide) ⟨by omega, by omega⟩ (fun c_405 => by exfalso; omega) (fun c_405 => ?_)
            refine lv_aload_n hX hB dL_pushes_408 rfl (lv_at hl 13 rfl) ?_
            refine lv_iload_n hX hB dL_pushes_409 rfl (lv_at hl 14 rfl) ?_
            refine lv_iload_n hX hB dL_pushes_410 rfl (lv_at hl 15 rfl) ?_
            refine lv_iconst (v := nZ 1) hX hB dL_pushes_411 rfl ?_
            refine zc1n (zRunW (As := [.ref h, .int (nZ x1), .int (nZ x2), .int (nZ 1)]) X mw_ends (wc_ends l D k h B S393 K T xs hG393.1 hx x1 x2 1 ⟨by omega, by omega⟩ ⟨by omega, by omega⟩ ⟨by omega, by omega⟩ e (he)  _) zw_169 (zPre1 hP hD hK) rfl hl (Nat.le_of_ble_eq_true rfl) dL_pushes_412 ⟨rfl, rfl, ⟨Nat.le_of_ble_eq_true rfl, Nat.le_of_ble_eq_true rfl⟩, Nat.le_of_ble_eq_true rfl, Nat.le_of_ble_eq_true rfl⟩ rfl) hS hP hD hA (fun r xs H locs hpost hP hD hS => ?_)
            obtain ⟨rfl, hx⟩ := hpost
            refine lv_iload hX hB dL_pushes_415 (lv_at hl 11 rfl) ?_
            refine zs_ne X (rfl) (tgt := 424) dL_pushes_417 (by decide) ?_
            refine lv_iconst (v := nZ 1) hX hB dL_pushes_420 rfl ?_
            refine lv_goto (tgt := 425) hX hB dL_pushes_421 (by decide) ?_
            exact zRetZ xs X hP hD hS (Or.inr rfl) rfl ⟨rfl, S393, hG393, hx⟩ dL_pushes_425
          · refine lv_aload_n hX hB dL_pushes_336 rfl (lv_at hl 13 rfl) ?_
            refine lv_bipush (v := nZ 9) hX hB dL_pushes_337 (by decide) ?_
            refine zc1n (zRunW (As := [.ref h, .int (nZ 9)]) X mw_count (wc_count l D k h B96 S96 K T xs hG96.1 hx 9 ⟨by omega, by omega⟩ (B96.1 6) (rfl)  _) zw_130 (zPre1 hP hD hK) rfl hl (Nat.le_of_ble_eq_true rfl) dL_pushes_339 ⟨rfl, rfl, ⟨Nat.le_of_ble_eq_true rfl, Nat.le_of_ble_eq_true rfl⟩, Nat.le_of_ble_eq_true rfl, Nat.le_of_ble_eq_true rfl⟩ rfl) hS hP hD hA (fun r xs H locs hpost hP hD hS => ?_)
            obtain ⟨rfl, hx⟩ := hpost
            refine lv_iload hX hB dL_pushes_342 (lv_at hl 7 rfl) ?_
            refine lv_iconst (v := nZ 1) hX hB dL_pushes_344 rfl ?_
            refine zz_iadd X dL_pushes_345 (z := ((B.1 6) + 1)) (by first | rfl | omega) ?_
            refine zs_ne X (by omega) (tgt := 384) dL_pushes_346 (by decide) ?_
            refine lv_aload_n hX hB dL_pushes_349 rfl (lv_at hl 13 rfl) ?_
            refine lv_bipush (v := nZ 10) hX hB dL_pushes_350 (by decide) ?_
            refine zc1n (zRunW (As := [.ref h, .int (nZ 10)]) X mw_count (wc_count l D k h B96 S96 K T xs hG96.1 hx 10 ⟨by omega, by omega⟩ (B96.1 7) (rfl)  _) zw_130 (zPre1 hP hD hK) rfl hl (Nat.le_of_ble_eq_true rfl) dL_pushes_352 ⟨rfl, rfl, ⟨Nat.le_of_ble_eq_true rfl, Nat.le_of_ble_eq_true rfl⟩, Nat.le_of_ble_eq_true rfl, Nat.le_of_ble_eq_true rfl⟩ rfl) hS hP hD hA (fun r xs H locs hpost hP hD hS => ?_)
            obtain ⟨rfl, hx⟩ := hpost
            refine lv_iload hX hB dL_pushes_355 (lv_at hl 6 rfl) ?_
            refine lv_iload hX hB dL_pushes_357 (lv_at hl 2 rfl) ?_
            refine zz_iadd X dL_pushes_359 (z := ((B.1 7) + nd96)) (by first | rfl | omega) ?_
            refine zs_ne X (by omega) (tgt := 384) dL_pushes_360 (by decide) ?_
            refine lv_aload_n hX hB dL_pushes_363 rfl (lv_at hl 13 rfl) ?_
            refine lv_iconst (v := nZ 3) hX hB dL_pushes_364 rfl ?_
            refine zc1n (zRunW (As := [.ref h, .int (nZ 3)]) X mw_count (wc_count l D k h B96 S96 K T xs hG96.1 hx 3 ⟨by omega, by omega⟩ (cleanAllB B96) (rfl)  _) zw_130 (zPre1 hP hD hK) rfl hl (Nat.le_of_ble_eq_true rfl) dL_pushes_365 ⟨rfl, rfl, ⟨Nat.le_of_ble_eq_true rfl, Nat.le_of_ble_eq_true rfl⟩, Nat.le_of_ble_eq_true rfl, Nat.le_of_ble_eq_true rfl⟩ rfl) hS hP hD hA (fun r xs H locs hpost hP hD hS => ?_)
            obtain ⟨rfl, hx⟩ := hpost
            refine lv_iload hX hB dL_pushes_368 (lv_at hl 10 rfl) ?_
            refine zs_ne X (hcl9) (tgt := 384) dL_pushes_370 (by decide) ?_
            refine lv_aload_n hX hB dL_pushes_373 rfl (lv_at hl 13 rfl) ?_
            refine zc1 (zRunS (As := [.ref h]) X ms_L_hangs (c_L_hangs l D k h B96 S96 K T xs (N + 1) ⟨by omega, by omega⟩ hG96 hx  _) zw_66 (zPre1 hP hD hK) rfl hl (Nat.le_of_ble_eq_true rfl) dL_pushes_374 ⟨rfl, rfl, ⟨Nat.le_of_ble_eq_true rfl, Nat.le_of_ble_eq_true rfl⟩, Nat.le_of_ble_eq_true rfl, Nat.le_of_ble_eq_true rfl⟩ rfl) hS hP hD hA (fun r xs H locs hpost hP hD hS => ?_)
            obtain ⟨rfl, hx⟩ := hpost
            refine W.widen (k := 11) (n := 119) (by decide) (by decide) ?_
            refine zz_if_eq X (tgt := 384) dL_pushes_377 (by decide) ⟨by omega, by omega⟩ (fun c_377 => by exfalso; omega) (fun c_377 => ?_)
            refine lv_iconst (v := nZ 1) hX hB dL_pushes_380 rfl ?_
            refine lv_goto (tgt := 385) hX hB dL_pushes_381 (by decide) ?_
            refine lv_istore (lv' := [(15, .int (nZ 1)), (16, .int (nZ ((((B96.1 5) - (B.1 5)) + (B96.1 6)) - (B.1 6)))), (14, .int (nZ nd96)), (13, .int (nZ (B.1 4))), (12, .int (nZ 0)), (11, .int (nZ 0)), (10, .int (nZ (B.1 7))), (9, .int (nZ (B.1 6))), (8, .int (nZ (B.1 5))), (7, .int (nZ (coinsB B))), (6, .int (nZ (cleanAllB (push0 B x1.toNat x2)))), (5, .int (nZ e)), (3, .long (nL (printB B))), (0, .ref h), (1, .int (nZ x1)), (2, .int (nZ x2)), (17, .int (nZ th)), (18, .int (nZ (↑n : Int)))]) hX hB dL_pushes_385 hl (by decide) rfl (fun ls hl => ?_)
            refine lv_iload hX hB dL_pushes_387 (lv_at hl 0 rfl) ?_
            refine zz_if_eq X (tgt := 424) dL_pushes_389 (by decide) ⟨by omega, by omega⟩ (fun c_389 => by exfalso; omega) (fun c_389 => ?_)
            refine lv_aload_n hX hB dL_pushes_392 rfl (lv_at hl 13 rfl) ?_
            have hSl393 : 0 < S96.length := by rw [← hS96]; exact saveL_pos _ _
            have hSm393 : S96.length ≤ 6 := hG96.1.2.2.2
            obtain ⟨S393, hS393⟩ : ∃ z, S96.dropLast = z := ⟨_, rfl⟩
            refine zc1n (zRunW (As := [.ref h]) X mw_undo (wc_undo l D k h B96 S96 K T xs hG96.1 hx B (by rw [← hS96]; exact saveL_last _ _) ((S96.length : Int) - 1) (rfl) B (rfl) S393 hS393 _) zw_299 (zPre1 hP hD hK) rfl hl (Nat.le_of_ble_eq_true rfl) dL_pushes_393 ⟨rfl, rfl, ⟨Nat.le_of_ble_eq_true rfl, Nat.le_of_ble_eq_true rfl⟩, Nat.le_of_ble_eq_true rfl, Nat.le_of_ble_eq_true rfl⟩ rfl) hS hP hD hA (fun r xs H locs hpost hP hD hS => ?_)
            obtain ⟨rfl, hx⟩ := hpost
            have hG393 : goodT N (B, S393, K, T) := by rw [← hS393, ← hS96]; exact hG.back
            refine zz_if_lt X (tgt := 424) dL_pushes_396 (by decide) ⟨by omega, by omega⟩ (fun c_396 => by exfalso; omega) (fun c_396 => ?_)
            refine lv_aload_n hX hB dL_pushes_399 rfl (lv_at hl 13 rfl) ?_
            refine zcL1n (zRunS (As := [.ref h]) X ms_L_print (c_L_print l D k h B S393 K T xs N ⟨by omega, by omega⟩ hG393 hx  _) zw_161 (zPre1 hP hD hK) rfl hl (Nat.le_of_ble_eq_true rfl) dL_pushes_400 ⟨rfl, rfl, ⟨Nat.le_of_ble_eq_true rfl, Nat.le_of_ble_eq_true rfl⟩, Nat.le_of_ble_eq_true rfl, Nat.le_of_ble_eq_true rfl⟩ rfl) hS hP hD hA (fun r xs H locs hpost hP hD hS => ?_)
            obtain ⟨rfl, hx⟩ := hpost
            refine lv_lload_n hX hB dL_pushes_403 rfl (lv_at hl 12 rfl) ?_
            refine zs_lcmp X (rfl) dL_pushes_404 ?_
            refine zz_if_ne X (tgt := 424) dL_pushes_405 (by decide) ⟨by omega, by omega⟩ (fun c_405 => by exfalso; omega) (fun c_405 => ?_)
            refine lv_aload_n hX hB dL_pushes_408 rfl (lv_at hl 13 rfl) ?_
            refine lv_iload_n hX hB dL_pushes_409 rfl (lv_at hl 14 rfl) ?_
            refine lv_iload_n hX hB dL_pushes_410 rfl (lv_at hl 15 rfl) ?_
            refine lv_iconst (v := nZ 1) hX hB dL_pushes_411 rfl ?_
            refine zc1n (zRunW (As := [.ref h, .int (nZ x1), .int (nZ x2), .int (nZ 1)]) X mw_ends (wc_ends l D k h B S393 K T xs hG393.1 hx x1 x2 1 ⟨by omega, by omega⟩ ⟨by omega, by omega⟩ ⟨by omega, by omega⟩ e (he)  _) zw_169 (zPre1 hP hD hK) rfl hl (Nat.le_of_ble_eq_true rfl) dL_pushes_412 ⟨rfl, rfl, ⟨Nat.le_of_ble_eq_true rfl, Nat.le_of_ble_eq_true rfl⟩, Nat.le_of_ble_eq_true rfl, Nat.le_of_ble_eq_true rfl⟩ rfl) hS hP hD hA (fun r xs H locs hpost hP hD hS => ?_)
            obtain ⟨rfl, hx⟩ := hpost
            refine lv_iload hX hB dL_pushes_415 (lv_at hl 11 rfl) ?_
            refine zs_ne X (rfl) (tgt := 424) dL_pushes_417 (by decide) ?_
            refine lv_iconst (v := nZ 1) hX hB dL_pushes_420 rfl ?_
            refine lv_goto (tgt := 425) hX hB dL_pushes_421 (by decide) ?_
            exact zRetZ xs X hP hD hS (Or.inr rfl) rfl ⟨rfl, S393, hG393, hx⟩ dL_pushes_425
        · refine lv_iconst (v := nZ 1) hX hB dL_pushes_323 rfl ?_
          refine lv_goto (tgt := 328) hX hB dL_pushes_324 (by decide) ?_
          refine zs_ne X (by omega) (tgt := 384) dL_pushes_328 (by decide) ?_
          refine lv_iload hX hB dL_pushes_331 (lv_at hl 11 rfl) ?_
          refine zz_if_ge X (tgt := 349) dL_pushes_333 (by decide) ⟨by omega, by omega⟩ (fun c_333 => ?_) (fun c_333 => ?_)
          · refine lv_aload_n hX hB dL_pushes_349 rfl (lv_at hl 13 rfl) ?_
            refine lv_bipush (v := nZ 10) hX hB dL_pushes_350 (by decide) ?_
            refine zc1n (zRunW (As := [.ref h, .int (nZ 10)]) X mw_count (wc_count l D k h B96 S96 K T xs hG96.1 hx 10 ⟨by omega, by omega⟩ (B96.1 7) (rfl)  _) zw_130 (zPre1 hP hD hK) rfl hl (Nat.le_of_ble_eq_true rfl) dL_pushes_352 ⟨rfl, rfl, ⟨Nat.le_of_ble_eq_true rfl, Nat.le_of_ble_eq_true rfl⟩, Nat.le_of_ble_eq_true rfl, Nat.le_of_ble_eq_true rfl⟩ rfl) hS hP hD hA (fun r xs H locs hpost hP hD hS => ?_)
            obtain ⟨rfl, hx⟩ := hpost
            refine lv_iload hX hB dL_pushes_355 (lv_at hl 6 rfl) ?_
            refine lv_iload hX hB dL_pushes_357 (lv_at hl 2 rfl) ?_
            refine zz_iadd X dL_pushes_359 (z := ((B.1 7) + nd96)) (by first | rfl | omega) ?_
            refine zs_ne X (by omega) (tgt := 384) dL_pushes_360 (by decide) ?_
            refine lv_aload_n hX hB dL_pushes_363 rfl (lv_at hl 13 rfl) ?_
            refine lv_iconst (v := nZ 3) hX hB dL_pushes_364 rfl ?_
            refine zc1n (zRunW (As := [.ref h, .int (nZ 3)]) X mw_count (wc_count l D k h B96 S96 K T xs hG96.1 hx 3 ⟨by omega, by omega⟩ (cleanAllB B96) (rfl)  _) zw_130 (zPre1 hP hD hK) rfl hl (Nat.le_of_ble_eq_true rfl) dL_pushes_365 ⟨rfl, rfl, ⟨Nat.le_of_ble_eq_true rfl, Nat.le_of_ble_eq_true rfl⟩, Nat.le_of_ble_eq_true rfl, Nat.le_of_ble_eq_true rfl⟩ rfl) hS hP hD hA (fun r xs H locs hpost hP hD hS => ?_)
            obtain ⟨rfl, hx⟩ := hpost
            refine lv_iload hX hB dL_pushes_368 (lv_at hl 10 rfl) ?_
            refine zs_ne X (hcl9) (tgt := 384) dL_pushes_370 (by decide) ?_
            refine lv_aload_n hX hB dL_pushes_373 rfl (lv_at hl 13 rfl) ?_
            refine zc1 (zRunS (As := [.ref h]) X ms_L_hangs (c_L_hangs l D k h B96 S96 K T xs (N + 1) ⟨by omega, by omega⟩ hG96 hx  _) zw_66 (zPre1 hP hD hK) rfl hl (Nat.le_of_ble_eq_true rfl) dL_pushes_374 ⟨rfl, rfl, ⟨Nat.le_of_ble_eq_true rfl, Nat.le_of_ble_eq_true rfl⟩, Nat.le_of_ble_eq_true rfl, Nat.le_of_ble_eq_true rfl⟩ rfl) hS hP hD hA (fun r xs H locs hpost hP hD hS => ?_)
            obtain ⟨rfl, hx⟩ := hpost
            refine W.widen (k := 11) (n := 119) (by decide) (by decide) ?_
            refine zz_if_eq X (tgt := 384) dL_pushes_377 (by decide) ⟨by omega, by omega⟩ (fun c_377 => by exfalso; omega) (fun c_377 => ?_)
            refine lv_iconst (v := nZ 1) hX hB dL_pushes_380 rfl ?_
            refine lv_goto (tgt := 385) hX hB dL_pushes_381 (by decide) ?_
            refine lv_istore (lv' := [(15, .int (nZ 1)), (16, .int (nZ ((((B96.1 5) - (B.1 5)) + (B96.1 6)) - (B.1 6)))), (14, .int (nZ nd96)), (13, .int (nZ (B.1 4))), (12, .int (nZ 0)), (11, .int (nZ 0)), (10, .int (nZ (B.1 7))), (9, .int (nZ (B.1 6))), (8, .int (nZ (B.1 5))), (7, .int (nZ (coinsB B))), (6, .int (nZ (cleanAllB (push0 B x1.toNat x2)))), (5, .int (nZ e)), (3, .long (nL (printB B))), (0, .ref h), (1, .int (nZ x1)), (2, .int (nZ x2)), (17, .int (nZ th)), (18, .int (nZ (↑n : Int)))]) hX hB dL_pushes_385 hl (by decide) rfl (fun ls hl => ?_)
            refine lv_iload hX hB dL_pushes_387 (lv_at hl 0 rfl) ?_
            refine zz_if_eq X (tgt := 424) dL_pushes_389 (by decide) ⟨by omega, by omega⟩ (fun c_389 => by exfalso; omega) (fun c_389 => ?_)
            refine lv_aload_n hX hB dL_pushes_392 rfl (lv_at hl 13 rfl) ?_
            have hSl393 : 0 < S96.length := by rw [← hS96]; exact saveL_pos _ _
            have hSm393 : S96.length ≤ 6 := hG96.1.2.2.2
            obtain ⟨S393, hS393⟩ : ∃ z, S96.dropLast = z := ⟨_, rfl⟩
            refine zc1n (zRunW (As := [.ref h]) X mw_undo (wc_undo l D k h B96 S96 K T xs hG96.1 hx B (by rw [← hS96]; exact saveL_last _ _) ((S96.length : Int) - 1) (rfl) B (rfl) S393 hS393 _) zw_299 (zPre1 hP hD hK) rfl hl (Nat.le_of_ble_eq_true rfl) dL_pushes_393 ⟨rfl, rfl, ⟨Nat.le_of_ble_eq_true rfl, Nat.le_of_ble_eq_true rfl⟩, Nat.le_of_ble_eq_true rfl, Nat.le_of_ble_eq_true rfl⟩ rfl) hS hP hD hA (fun r xs H locs hpost hP hD hS => ?_)
            obtain ⟨rfl, hx⟩ := hpost
            have hG393 : goodT N (B, S393, K, T) := by rw [← hS393, ← hS96]; exact hG.back
            refine zz_if_lt X (tgt := 424) dL_pushes_396 (by decide) ⟨by omega, by omega⟩ (fun c_396 => by exfalso; omega) (fun c_396 => ?_)
            refine lv_aload_n hX hB dL_pushes_399 rfl (lv_at hl 13 rfl) ?_
            refine zcL1n (zRunS (As := [.ref h]) X ms_L_print (c_L_print l D k h B S393 K T xs N ⟨by omega, by omega⟩ hG393 hx  _) zw_161 (zPre1 hP hD hK) rfl hl (Nat.le_of_ble_eq_true rfl) dL_pushes_400 ⟨rfl, rfl, ⟨Nat.le_of_ble_eq_true rfl, Nat.le_of_ble_eq_true rfl⟩, Nat.le_of_ble_eq_true rfl, Nat.le_of_ble_eq_true rfl⟩ rfl) hS hP hD hA (fun r xs H locs hpost hP hD hS => ?_)
            obtain ⟨rfl, hx⟩ := hpost
            refine lv_lload_n hX hB dL_pushes_403 rfl (lv_at hl 12 rfl) ?_
            refine zs_lcmp X (rfl) dL_pushes_404 ?_
            refine zz_if_ne X (tgt := 424) dL_pushes_405 (by decide) ⟨by omega, by omega⟩ (fun c_405 => by exfalso; omega) (fun c_405 => ?_)
            refine lv_aload_n hX hB dL_pushes_408 rfl (lv_at hl 13 rfl) ?_
            refine lv_iload_n hX hB dL_pushes_409 rfl (lv_at hl 14 rfl) ?_
            refine lv_iload_n hX hB dL_pushes_410 rfl (lv_at hl 15 rfl) ?_
            refine lv_iconst (v := nZ 1) hX hB dL_pushes_411 rfl ?_
            refine zc1n (zRunW (As := [.ref h, .int (nZ x1), .int (nZ x2), .int (nZ 1)]) X mw_ends (wc_ends l D k h B S393 K T xs hG393.1 hx x1 x2 1 ⟨by omega, by omega⟩ ⟨by omega, by omega⟩ ⟨by omega, by omega⟩ e (he)  _) zw_169 (zPre1 hP hD hK) rfl hl (Nat.le_of_ble_eq_true rfl) dL_pushes_412 ⟨rfl, rfl, ⟨Nat.le_of_ble_eq_true rfl, Nat.le_of_ble_eq_true rfl⟩, Nat.le_of_ble_eq_true rfl, Nat.le_of_ble_eq_true rfl⟩ rfl) hS hP hD hA (fun r xs H locs hpost hP hD hS => ?_)
            obtain ⟨rfl, hx⟩ := hpost
            refine lv_iload hX hB dL_pushes_415 (lv_at hl 11 rfl) ?_
            refine zs_ne X (rfl) (tgt := 424) dL_pushes_417 (by decide) ?_
            refine lv_iconst (v := nZ 1) hX hB dL_pushes_420 rfl ?_
            refine lv_goto (tgt := 425) hX hB dL_pushes_421 (by decide) ?_
            exact zRetZ xs X hP hD hS (Or.inr rfl) rfl ⟨rfl, S393, hG393, hx⟩ dL_pushes_425
          · refine lv_aload_n hX hB dL_pushes_336 rfl (lv_at hl 13 rfl) ?_
            refine lv_bipush (v := nZ 9) hX hB dL_pushes_337 (by decide) ?_
            refine zc1n (zRunW (As := [.ref h, .int (nZ 9)]) X mw_count (wc_count l D k h B96 S96 K T xs hG96.1 hx 9 ⟨by omega, by omega⟩ (B96.1 6) (rfl)  _) zw_130 (zPre1 hP hD hK) rfl hl (Nat.le_of_ble_eq_true rfl) dL_pushes_339 ⟨rfl, rfl, ⟨Nat.le_of_ble_eq_true rfl, Nat.le_of_ble_eq_true rfl⟩, Nat.le_of_ble_eq_true rfl, Nat.le_of_ble_eq_true rfl⟩ rfl) hS hP hD hA (fun r xs H locs hpost hP hD hS => ?_)
            obtain ⟨rfl, hx⟩ := hpost
            refine lv_iload hX hB dL_pushes_342 (lv_at hl 7 rfl) ?_
            refine lv_iconst (v := nZ 1) hX hB dL_pushes_344 rfl ?_
            refine zz_iadd X dL_pushes_345 (z := ((B.1 6) + 1)) (by first | rfl | omega) ?_
            refine zs_ne X (by omega) (tgt := 384) dL_pushes_346 (by decide) ?_
            refine lv_aload_n hX hB dL_pushes_349 rfl (lv_at hl 13 rfl) ?_
            refine lv_bipush (v := nZ 10) hX hB dL_pushes_350 (by decide) ?_
            refine zc1n (zRunW (As := [.ref h, .int (nZ 10)]) X mw_count (wc_count l D k h B96 S96 K T xs hG96.1 hx 10 ⟨by omega, by omega⟩ (B96.1 7) (rfl)  _) zw_130 (zPre1 hP hD hK) rfl hl (Nat.le_of_ble_eq_true rfl) dL_pushes_352 ⟨rfl, rfl, ⟨Nat.le_of_ble_eq_true rfl, Nat.le_of_ble_eq_true rfl⟩, Nat.le_of_ble_eq_true rfl, Nat.le_of_ble_eq_true rfl⟩ rfl) hS hP hD hA (fun r xs H locs hpost hP hD hS => ?_)
            obtain ⟨rfl, hx⟩ := hpost
            refine lv_iload hX hB dL_pushes_355 (lv_at hl 6 rfl) ?_
            refine lv_iload hX hB dL_pushes_357 (lv_at hl 2 rfl) ?_
            refine zz_iadd X dL_pushes_359 (z := ((B.1 7) + nd96)) (by first | rfl | omega) ?_
            refine zs_ne X (by omega) (tgt := 384) dL_pushes_360 (by decide) ?_
            refine lv_aload_n hX hB dL_pushes_363 rfl (lv_at hl 13 rfl) ?_
            refine lv_iconst (v := nZ 3) hX hB dL_pushes_364 rfl ?_
            refine zc1n (zRunW (As := [.ref h, .int (nZ 3)]) X mw_count (wc_count l D k h B96 S96 K T xs hG96.1 hx 3 ⟨by omega, by omega⟩ (cleanAllB B96) (rfl)  _) zw_130 (zPre1 hP hD hK) rfl hl (Nat.le_of_ble_eq_true rfl) dL_pushes_365 ⟨rfl, rfl, ⟨Nat.le_of_ble_eq_true rfl, Nat.le_of_ble_eq_true rfl⟩, Nat.le_of_ble_eq_true rfl, Nat.le_of_ble_eq_true rfl⟩ rfl) hS hP hD hA (fun r xs H locs hpost hP hD hS => ?_)
            obtain ⟨rfl, hx⟩ := hpost
            refine lv_iload hX hB dL_pushes_368 (lv_at hl 10 rfl) ?_
            refine zs_ne X (hcl9) (tgt := 384) dL_pushes_370 (by decide) ?_
            refine lv_aload_n hX hB dL_pushes_373 rfl (lv_at hl 13 rfl) ?_
            refine zc1 (zRunS (As := [.ref h]) X ms_L_hangs (c_L_hangs l D k h B96 S96 K T xs (N + 1) ⟨by omega, by omega⟩ hG96 hx  _) zw_66 (zPre1 hP hD hK) rfl hl (Nat.le_of_ble_eq_true rfl) dL_pushes_374 ⟨rfl, rfl, ⟨Nat.le_of_ble_eq_true rfl, Nat.le_of_ble_eq_true rfl⟩, Nat.le_of_ble_eq_true rfl, Nat.le_of_ble_eq_true rfl⟩ rfl) hS hP hD hA (fun r xs H locs hpost hP hD hS => ?_)
            obtain ⟨rfl, hx⟩ := hpost
            refine W.widen (k := 11) (n := 119) (by decide) (by decide) ?_
            refine zz_if_eq X (tgt := 384) dL_pushes_377 (by decide) ⟨by omega, by omega⟩ (fun c_377 => by exfalso; omega) (fun c_377 => ?_)
            refine lv_iconst (v := nZ 1) hX hB dL_pushes_380 rfl ?_
            refine lv_goto (tgt := 385) hX hB dL_pushes_381 (by decide) ?_
            refine lv_istore (lv' := [(15, .int (nZ 1)), (16, .int (nZ ((((B96.1 5) - (B.1 5)) + (B96.1 6)) - (B.1 6)))), (14, .int (nZ nd96)), (13, .int (nZ (B.1 4))), (12, .int (nZ 0)), (11, .int (nZ 0)), (10, .int (nZ (B.1 7))), (9, .int (nZ (B.1 6))), (8, .int (nZ (B.1 5))), (7, .int (nZ (coinsB B))), (6, .int (nZ (cleanAllB (push0 B x1.toNat x2)))), (5, .int (nZ e)), (3, .long (nL (printB B))), (0, .ref h), (1, .int (nZ x1)), (2, .int (nZ x2)), (17, .int (nZ th)), (18, .int (nZ (↑n : Int)))]) hX hB dL_pushes_385 hl (by decide) rfl (fun ls hl => ?_)
            refine lv_iload hX hB dL_pushes_387 (lv_at hl 0 rfl) ?_
            refine zz_if_eq X (tgt := 424) dL_pushes_389 (by decide) ⟨by omega, by omega⟩ (fun c_389 => by exfalso; omega) (fun c_389 => ?_)
            refine lv_aload_n hX hB dL_pushes_392 rfl (lv_at hl 13 rfl) ?_
            have hSl393 : 0 < S96.length := by rw [← hS96]; exact saveL_pos _ _
            have hSm393 : S96.length ≤ 6 := hG96.1.2.2.2
            obtain ⟨S393, hS393⟩ : ∃ z, S96.dropLast = z := ⟨_, rfl⟩
            refine zc1n (zRunW (As := [.ref h]) X mw_undo (wc_undo l D k h B96 S96 K T xs hG96.1 hx B (by rw [← hS96]; exact saveL_last _ _) ((S96.length : Int) - 1) (rfl) B (rfl) S393 hS393 _) zw_299 (zPre1 hP hD hK) rfl hl (Nat.le_of_ble_eq_true rfl) dL_pushes_393 ⟨rfl, rfl, ⟨Nat.le_of_ble_eq_true rfl, Nat.le_of_ble_eq_true rfl⟩, Nat.le_of_ble_eq_true rfl, Nat.le_of_ble_eq_true rfl⟩ rfl) hS hP hD hA (fun r xs H locs hpost hP hD hS => ?_)
            obtain ⟨rfl, hx⟩ := hpost
            have hG393 : goodT N (B, S393, K, T) := by rw [← hS393, ← hS96]; exact hG.back
            refine zz_if_lt X (tgt := 424) dL_pushes_396 (by decide) ⟨by omega, by omega⟩ (fun c_396 => by exfalso; omega) (fun c_396 => ?_)
            refine lv_aload_n hX hB dL_pushes_399 rfl (lv_at hl 13 rfl) ?_
            refine zcL1n (zRunS (As := [.ref h]) X ms_L_print (c_L_print l D k h B S393 K T xs N ⟨by omega, by omega⟩ hG393 hx  _) zw_161 (zPre1 hP hD hK) rfl hl (Nat.le_of_ble_eq_true rfl) dL_pushes_400 ⟨rfl, rfl, ⟨Nat.le_of_ble_eq_true rfl, Nat.le_of_ble_eq_true rfl⟩, Nat.le_of_ble_eq_true rfl, Nat.le_of_ble_eq_true rfl⟩ rfl) hS hP hD hA (fun r xs H locs hpost hP hD hS => ?_)
            obtain ⟨rfl, hx⟩ := hpost
            refine lv_lload_n hX hB dL_pushes_403 rfl (lv_at hl 12 rfl) ?_
            refine zs_lcmp X (rfl) dL_pushes_404 ?_
            refine zz_if_ne X (tgt := 424) dL_pushes_405 (by decide) ⟨by omega, by omega⟩ (fun c_405 => by exfalso; omega) (fun c_405 => ?_)
            refine lv_aload_n hX hB dL_pushes_408 rfl (lv_at hl 13 rfl) ?_
            refine lv_iload_n hX hB dL_pushes_409 rfl (lv_at hl 14 rfl) ?_
            refine lv_iload_n hX hB dL_pushes_410 rfl (lv_at hl 15 rfl) ?_
            refine lv_iconst (v := nZ 1) hX hB dL_pushes_411 rfl ?_
            refine zc1n (zRunW (As := [.ref h, .int (nZ x1), .int (nZ x2), .int (nZ 1)]) X mw_ends (wc_ends l D k h B S393 K T xs hG393.1 hx x1 x2 1 ⟨by omega, by omega⟩ ⟨by omega, by omega⟩ ⟨by omega, by omega⟩ e (he)  _) zw_169 (zPre1 hP hD hK) rfl hl (Nat.le_of_ble_eq_true rfl) dL_pushes_412 ⟨rfl, rfl, ⟨Nat.le_of_ble_eq_true rfl, Nat.le_of_ble_eq_true rfl⟩, Nat.le_of_ble_eq_true rfl, Nat.le_of_ble_eq_true rfl⟩ rfl) hS hP hD hA (fun r xs H locs hpost hP hD hS => ?_)
            obtain ⟨rfl, hx⟩ := hpost
            refine lv_iload hX hB dL_pushes_415 (lv_at hl 11 rfl) ?_
            refine zs_ne X (rfl) (tgt := 424) dL_pushes_417 (by decide) ?_
            refine lv_iconst (v := nZ 1) hX hB dL_pushes_420 rfl ?_
            refine lv_goto (tgt := 425) hX hB dL_pushes_421 (by decide) ?_
            exact zRetZ xs X hP hD hS (Or.inr rfl) rfl ⟨rfl, S393, hG393, hx⟩ dL_pushes_425
      · obtain ⟨cv, hcv⟩ : ∃ v, placeAtS (B96.2 x1.toNat) (n : Int) = v := ⟨_, rfl⟩
        have hcvr := place_rng hBg96 hj n hcv
        have h01 := thI_01 hth
        refine lv_iload hX hB dL_pushes_252 (lv_at hl 16 rfl) ?_
        refine zz_if_ne X (tgt := 269) dL_pushes_254 (by decide) ⟨by omega, by omega⟩ (fun c_254 => ?_) (fun c_254 => ?_)
        · refine lv_iconst (v := nZ 1) hX hB dL_pushes_269 rfl ?_
          refine lv_goto (tgt := 274) hX hB dL_pushes_270 (by decide) ?_
          refine lv_istore (lv' := [(17, .int (nZ 1)), (16, .int (nZ ((((B96.1 5) - (B.1 5)) + (B96.1 6)) - (B.1 6)))), (15, .int (nZ 1)), (14, .int (nZ nd96)), (13, .int (nZ (B.1 4))), (12, .int (nZ 0)), (11, .int (nZ 0)), (10, .int (nZ (B.1 7))), (9, .int (nZ (B.1 6))), (8, .int (nZ (B.1 5))), (7, .int (nZ (coinsB B))), (6, .int (nZ (cleanAllB (push0 B x1.toNat x2)))), (5, .int (nZ e)), (3, .long (nL (printB B))), (0, .ref h), (1, .int (nZ x1)), (2, .int (nZ x2)), (18, .int (nZ (↑n : Int)))]) hX hB dL_pushes_274 hl (by decide) rfl (fun ls hl => ?_)
          refine lv_iinc (v := nZ (↑(n + 1) : Int)) (lv' := [(18, .int (nZ (↑(n + 1) : Int))), (17, .int (nZ 1)), (16, .int (nZ ((((B96.1 5) - (B.1 5)) + (B96.1 6)) - (B.1 6)))), (15, .int (nZ 1)), (14, .int (nZ nd96)), (13, .int (nZ (B.1 4))), (12, .int (nZ 0)), (11, .int (nZ 0)), (10, .int (nZ (B.1 7))), (9, .int (nZ (B.1 6))), (8, .int (nZ (B.1 5))), (7, .int (nZ (coinsB B))), (6, .int (nZ (cleanAllB (push0 B x1.toNat x2)))), (5, .int (nZ e)), (3, .long (nL (printB B))), (0, .ref h), (1, .int (nZ x1)), (2, .int (nZ x2))]) hX hB dL_pushes_276 hl (k := 17) rfl (zinc (by omega)) (by decide) rfl (fun ls hl => ?_)
          refine lv_goto (tgt := 245) hX hB dL_pushes_279 (by decide) ?_
          exact ih_245 ((n + 1), 1, xs) _ _ _ ⟨(by omega), (by first | exact Or.inl rfl | exact thI_step hth (by omega) hcv c_266), (by exact hx), hP, hD, hS, (lv_sub hl [2, 3, 4, 5, 6, 7, 8, 9, 10, 11, 12, 13, 14, 15, 16, 17, 1, 0] rfl)⟩ (by dsimp only; omega)
        · refine lv_aload_n hX hB dL_pushes_257 rfl (lv_at hl 13 rfl) ?_
          refine lv_iload_n hX hB dL_pushes_258 rfl (lv_at hl 14 rfl) ?_
          refine lv_iload hX hB dL_pushes_259 (lv_at hl 17 rfl) ?_
          refine zc1n (zRunW (As := [.ref h, .int (nZ x1), .int (nZ (↑n : Int))]) X mw_coin (wc_coin l D k h B96 S96 K T xs hG96.1 hx x1 (↑n : Int) ⟨by omega, by omega⟩ ⟨by omega, by omega⟩ cv (hcv)  _) zw_71 (zPre1 hP hD hK) rfl hl (Nat.le_of_ble_eq_true rfl) dL_pushes_261 ⟨rfl, rfl, ⟨Nat.le_of_ble_eq_true rfl, Nat.le_of_ble_eq_true rfl⟩, Nat.le_of_ble_eq_true rfl, Nat.le_of_ble_eq_true rfl⟩ rfl) hS hP hD hA (fun r xs H locs hpost hP hD hS => ?_)
          obtain ⟨rfl, hx⟩ := hpost
          refine lv_iload hX hB dL_pushes_264 (lv_at hl 11 rfl) ?_
          refine zz_icmp_ne X (tgt := 273) dL_pushes_266 (by decide) ⟨by omega, by omega⟩ ⟨by omega, by omega⟩ (fun c_266 => ?_) (fun c_266 => ?_)
          · refine lv_iconst (v := nZ 0) hX hB dL_pushes_273 rfl ?_
            refine lv_istore (lv' := [(17, .int (nZ 0)), (16, .int (nZ ((((B96.1 5) - (B.1 5)) + (B96.1 6)) - (B.1 6)))), (15, .int (nZ 1)), (14, .int (nZ nd96)), (13, .int (nZ (B.1 4))), (12, .int (nZ 0)), (11, .int (nZ 0)), (10, .int (nZ (B.1 7))), (9, .int (nZ (B.1 6))), (8, .int (nZ (B.1 5))), (7, .int (nZ (coinsB B))), (6, .int (nZ (cleanAllB (push0 B x1.toNat x2)))), (5, .int (nZ e)), (3, .long (nL (printB B))), (0, .ref h), (1, .int (nZ x1)), (2, .int (nZ x2)), (18, .int (nZ (↑n : Int)))]) hX hB dL_pushes_274 hl (by decide) rfl (fun ls hl => ?_)
            refine lv_iinc (v := nZ (↑(n + 1) : Int)) (lv' := [(18, .int (nZ (↑(n + 1) : Int))), (17, .int (nZ 0)), (16, .int (nZ ((((B96.1 5) - (B.1 5)) + (B96.1 6)) - (B.1 6)))), (15, .int (nZ 1)), (14, .int (nZ nd96)), (13, .int (nZ (B.1 4))), (12, .int (nZ 0)), (11, .int (nZ 0)), (10, .int (nZ (B.1 7))), (9, .int (nZ (B.1 6))), (8, .int (nZ (B.1 5))), (7, .int (nZ (coinsB B))), (6, .int (nZ (cleanAllB (push0 B x1.toNat x2)))), (5, .int (nZ e)), (3, .long (nL (printB B))), (0, .ref h), (1, .int (nZ x1)), (2, .int (nZ x2))]) hX hB dL_pushes_276 hl (k := 17) rfl (zinc (by omega)) (by decide) rfl (fun ls hl => ?_)
            refine lv_goto (tgt := 245) hX hB dL_pushes_279 (by decide) ?_
            exact ih_245 ((n + 1), 0, xs) _ _ _ ⟨(by omega), (by first | exact Or.inl rfl | exact thI_step hth (by omega) hcv c_266), (by exact hx), hP, hD, hS, (lv_sub hl [2, 3, 4, 5, 6, 7, 8, 9, 10, 11, 12, 13, 14, 15, 16, 17, 1, 0] rfl)⟩ (by dsimp only; omega)
          · refine lv_iconst (v := nZ 1) hX hB dL_pushes_269 rfl ?_
            refine lv_goto (tgt := 274) hX hB dL_pushes_270 (by decide) ?_
            refine lv_istore (lv' := [(17, .int (nZ 1)), (16, .int (nZ ((((B96.1 5) - (B.1 5)) + (B96.1 6)) - (B.1 6)))), (15, .int (nZ 1)), (14, .int (nZ nd96)), (13, .int (nZ (B.1 4))), (12, .int (nZ 0)), (11, .int (nZ 0)), (10, .int (nZ (B.1 7))), (9, .int (nZ (B.1 6))), (8, .int (nZ (B.1 5))), (7, .int (nZ (coinsB B))), (6, .int (nZ (cleanAllB (push0 B x1.toNat x2)))), (5, .int (nZ e)), (3, .long (nL (printB B))), (0, .ref h), (1, .int (nZ x1)), (2, .int (nZ x2)), (18, .int (nZ (↑n : Int)))]) hX hB dL_pushes_274 hl (by decide) rfl (fun ls hl => ?_)
            refine lv_iinc (v := nZ (↑(n + 1) : Int)) (lv' := [(18, .int (nZ (↑(n + 1) : Int))), (17, .int (nZ 1)), (16, .int (nZ ((((B96.1 5) - (B.1 5)) + (B96.1 6)) - (B.1 6)))), (15, .int (nZ 1)), (14, .int (nZ nd96)), (13, .int (nZ (B.1 4))), (12, .int (nZ 0)), (11, .int (nZ 0)), (10, .int (nZ (B.1 7))), (9, .int (nZ (B.1 6))), (8, .int (nZ (B.1 5))), (7, .int (nZ (coinsB B))), (6, .int (nZ (cleanAllB (push0 B x1.toNat x2)))), (5, .int (nZ e)), (3, .long (nL (printB B))), (0, .ref h), (1, .int (nZ x1)), (2, .int (nZ x2))]) hX hB dL_pushes_276 hl (k := 17) rfl (zinc (by omega)) (by decide) rfl (fun ls hl => ?_)
            refine lv_goto (tgt := 245) hX hB dL_pushes_279 (by decide) ?_
            exact ih_245 ((n + 1), 1, xs) _ _ _ ⟨(by omega), (by first | exact Or.inl rfl | exact thI_step hth (by omega) hcv c_266), (by exact hx), hP, hD, hS, (lv_sub hl [2, 3, 4, 5, 6, 7, 8, 9, 10, 11, 12, 13, 14, 15, 16, 17, 1, 0] rfl)⟩ (by dsimp only; omega)
    · refine lv_iconst (v := nZ 1) hX hB dL_pushes_235 rfl ?_
      refine lv_goto (tgt := 240) hX hB dL_pushes_236 (by decide) ?_
      refine lv_istore (lv' := [(17, .int (nZ 1)), (16, .int (nZ ((((B96.1 5) - (B.1 5)) + (B96.1 6)) - (B.1 6)))), (15, .int (nZ 1)), (14, .int (nZ nd96)), (13, .int (nZ (B.1 4))), (12, .int (nZ 0)), (11, .int (nZ 0)), (10, .int (nZ (B.1 7))), (9, .int (nZ (B.1 6))), (8, .int (nZ (B.1 5))), (7, .int (nZ (coinsB B))), (6, .int (nZ (cleanAllB (push0 B x1.toNat x2)))), (5, .int (nZ e)), (3, .long (nL (printB B))), (0, .ref h), (1, .int (nZ x1)), (2, .int (nZ x2))]) hX hB dL_pushes_240 hl (by decide) rfl (fun ls hl => ?_)
      refine lv_iconst (v := nZ 0) hX hB dL_pushes_242 rfl ?_
      refine lv_istore (lv' := [(18, .int (nZ 0)), (17, .int (nZ 1)), (16, .int (nZ ((((B96.1 5) - (B.1 5)) + (B96.1 6)) - (B.1 6)))), (15, .int (nZ 1)), (14, .int (nZ nd96)), (13, .int (nZ (B.1 4))), (12, .int (nZ 0)), (11, .int (nZ 0)), (10, .int (nZ (B.1 7))), (9, .int (nZ (B.1 6))), (8, .int (nZ (B.1 5))), (7, .int (nZ (coinsB B))), (6, .int (nZ (cleanAllB (push0 B x1.toNat x2)))), (5, .int (nZ e)), (3, .long (nL (printB B))), (0, .ref h), (1, .int (nZ x1)), (2, .int (nZ x2))]) hX hB dL_pushes_243 hl (by decide) rfl (fun ls hl => ?_)
      refine zLoop (σ := Nat × Int × va_W) (fun (x : Nat × Int × va_W) (H : Heap) (locs : List Loc) (ls : Array Slot) => match x with | (n, th, xs) => (n ≤ 20) ∧ (thI (B96.2 x1.toNat) e th n) ∧ (isX k h (B96, S96, K, T) xs) ∧ va_P D vwCl xs H ∧ va_D A xs ∧ va_S A s9.heap H locs ∧ lv_has ls 19 [(16, .int (nZ ((((B96.1 5) - (B.1 5)) + (B96.1 6)) - (B.1 6)))), (15, .int (nZ 1)), (14, .int (nZ nd96)), (13, .int (nZ (B.1 4))), (12, .int (nZ 0)), (11, .int (nZ 0)), (10, .int (nZ (B.1 7))), (9, .int (nZ (B.1 6))), (8, .int (nZ (B.1 5))), (7, .int (nZ (coinsB B))), (6, .int (nZ (cleanAllB (push0 B x1.toNat x2)))), (5, .int (nZ e)), (3, .long (nL (printB B))), (0, .ref h), (1, .int (nZ x1)), (2, .int (nZ x2)), (17, .int (nZ th)), (18, .int (nZ (↑n : Int)))]) (fun (x : Nat × Int × va_W) => match x with | (n, th, xs) => 20 - n) ?_ (0, 1, xs) ⟨(by omega), (by first | exact Or.inl rfl | exact Or.inr ⟨rfl, ⟨by omega, by omega⟩, fun i hi => absurd hi (Nat.not_lt_zero _)⟩), (by exact hx), hP, hD, hS, (lv_sub hl [2, 3, 4, 5, 6, 7, 8, 9, 10, 11, 12, 13, 14, 15, 16, 17, 1, 0] rfl)⟩
      rintro ⟨n, th, xs⟩ H locs ls ⟨hn, hth, hx, hP, hD, hS, hl⟩ ih_245
      refine lv_iload hX hB dL_pushes_245 (lv_at hl 17 rfl) ?_
      refine lv_bipush (v := nZ 20) hX hB dL_pushes_247 (by decide) ?_
      refine zz_icmp_ge X (tgt := 282) dL_pushes_249 (by decide) ⟨by omega, by omega⟩ ⟨by omega, by omega⟩ (fun c_249 => ?_) (fun c_249 => ?_)
      · have hn20 : n = 20 := by omega
        rw [hn20] at hth
        have ht1 := thI_end hth heb
        refine lv_iload hX hB dL_pushes_282 (lv_at hl 1 rfl) ?_
        refine zz_if_eq X (tgt := 384) dL_pushes_284 (by decide) ⟨by omega, by omega⟩ (fun c_284 => by exfalso; omega) (fun c_284 => ?_)
        refine lv_iload hX hB dL_pushes_287 (lv_at hl 16 rfl) ?_
        refine zz_if_eq X (tgt := 384) dL_pushes_289 (by decide) ⟨by omega, by omega⟩ (fun c_289 => by exfalso; omega) (fun c_289 => ?_)
        refine lv_aload_n hX hB dL_pushes_292 rfl (lv_at hl 13 rfl) ?_
        refine lv_iconst (v := nZ 2) hX hB dL_pushes_293 rfl ?_
        refine zc1n (zRunW (As := [.ref h, .int (nZ 2)]) X mw_count (wc_count l D k h B96 S96 K T xs hG96.1 hx 2 ⟨by omega, by omega⟩ (coinsB B96) (rfl)  _) zw_130 (zPre1 hP hD hK) rfl hl (Nat.le_of_ble_eq_true rfl) dL_pushes_294 ⟨rfl, rfl, ⟨Nat.le_of_ble_eq_true rfl, Nat.le_of_ble_eq_true rfl⟩, Nat.le_of_ble_eq_true rfl, Nat.le_of_ble_eq_true rfl⟩ rfl) hS hP hD hA (fun r xs H locs hpost hP hD hS => ?_)
        obtain ⟨rfl, hx⟩ := hpost
        refine lv_iload hX hB dL_pushes_297 (lv_at hl 9 rfl) ?_
        refine lv_iconst (v := nZ 1) hX hB dL_pushes_299 rfl ?_
        refine zz_iadd X dL_pushes_300 (z := ((coinsB B) + 1)) (by first | rfl | omega) ?_
        refine lv_iload hX hB dL_pushes_301 (lv_at hl 0 rfl) ?_
        refine zz_isub X dL_pushes_303 (z := (((coinsB B) + 1) - ((((B96.1 5) - (B.1 5)) + (B96.1 6)) - (B.1 6)))) (by first | rfl | omega) ?_
        refine zs_ne X (by omega) (tgt := 384) dL_pushes_304 (by decide) ?_
        refine lv_aload_n hX hB dL_pushes_307 rfl (lv_at hl 13 rfl) ?_
        refine lv_bipush (v := nZ 8) hX hB dL_pushes_308 (by decide) ?_
        refine zc1n (zRunW (As := [.ref h, .int (nZ 8)]) X mw_count (wc_count l D k h B96 S96 K T xs hG96.1 hx 8 ⟨by omega, by omega⟩ (B96.1 5) (rfl)  _) zw_130 (zPre1 hP hD hK) rfl hl (Nat.le_of_ble_eq_true rfl) dL_pushes_310 ⟨rfl, rfl, ⟨Nat.le_of_ble_eq_true rfl, Nat.le_of_ble_eq_true rfl⟩, Nat.le_of_ble_eq_true rfl, Nat.le_of_ble_eq_true rfl⟩ rfl) hS hP hD hA (fun r xs H locs hpost hP hD hS => ?_)
        obtain ⟨rfl, hx⟩ := hpost
        refine lv_iload hX hB dL_pushes_313 (lv_at hl 8 rfl) ?_
        refine zz_isub X dL_pushes_315 (z := ((B96.1 5) - (B.1 5))) (by first | rfl | omega) ?_
        refine lv_iload hX hB dL_pushes_316 (lv_at hl 11 rfl) ?_
        refine lv_bipush (v := nZ 100) hX hB dL_pushes_318 (by decide) ?_
        refine zz_icmp_ne X (tgt := 327) dL_pushes_320 (by decide) ⟨by omega, by omega⟩ ⟨by omega, by omega⟩ (fun c_320 => ?_) (fun c_320 => ?_)
        · refine lv_iconst (v := nZ 0) hX hB dL_pushes_327 rfl ?_
          refine zs_ne X (by omega) (tgt := 384) dL_pushes_328 (by decide) ?_
          refine lv_iload hX hB dL_pushes_331 (lv_at hl 11 rfl) ?_
          refine zz_if_ge X (tgt := 349) dL_pushes_333 (by decide) ⟨by omega, by omega⟩ (fun c_333 => ?_) (fun c_333 => ?_)
          · refine lv_aload_n hX hB dL_pushes_349 rfl (lv_at hl 13 rfl) ?_
            refine lv_bipush (v := nZ 10) hX hB dL_pushes_350 (by decide) ?_
            refine zc1n (zRunW (As := [.ref h, .int (nZ 10)]) X mw_count (wc_count l D k h B96 S96 K T xs hG96.1 hx 10 ⟨by omega, by omega⟩ (B96.1 7) (rfl)  _) zw_130 (zPre1 hP hD hK) rfl hl (Nat.le_of_ble_eq_true rfl) dL_pushes_352 ⟨rfl, rfl, ⟨Nat.le_of_ble_eq_true rfl, Nat.le_of_ble_eq_true rfl⟩, Nat.le_of_ble_eq_true rfl, Nat.le_of_ble_eq_true rfl⟩ rfl) hS hP hD hA (fun r xs H locs hpost hP hD hS => ?_)
            obtain ⟨rfl, hx⟩ := hpost
            refine lv_iload hX hB dL_pushes_355 (lv_at hl 6 rfl) ?_
            refine lv_iload hX hB dL_pushes_357 (lv_at hl 2 rfl) ?_
            refine zz_iadd X dL_pushes_359 (z := ((B.1 7) + nd96)) (by first | rfl | omega) ?_
            refine zs_ne X (by omega) (tgt := 384) dL_pushes_360 (by decide) ?_
            refine lv_aload_n hX hB dL_pushes_363 rfl (lv_at hl 13 rfl) ?_
            refine lv_iconst (v := nZ 3) hX hB dL_pushes_364 rfl ?_
            refine zc1n (zRunW (As := [.ref h, .int (nZ 3)]) X mw_count (wc_count l D k h B96 S96 K T xs hG96.1 hx 3 ⟨by omega, by omega⟩ (cleanAllB B96) (rfl)  _) zw_130 (zPre1 hP hD hK) rfl hl (Nat.le_of_ble_eq_true rfl) dL_pushes_365 ⟨rfl, rfl, ⟨Nat.le_of_ble_eq_true rfl, Nat.le_of_ble_eq_true rfl⟩, Nat.le_of_ble_eq_true rfl, Nat.le_of_ble_eq_true rfl⟩ rfl) hS hP hD hA (fun r xs H locs hpost hP hD hS => ?_)
            obtain ⟨rfl, hx⟩ := hpost
            refine lv_iload hX hB dL_pushes_368 (lv_at hl 10 rfl) ?_
            refine zs_ne X (hcl9) (tgt := 384) dL_pushes_370 (by decide) ?_
            refine lv_aload_n hX hB dL_pushes_373 rfl (lv_at hl 13 rfl) ?_
            refine zc1 (zRunS (As := [.ref h]) X ms_L_hangs (c_L_hangs l D k h B96 S96 K T xs (N + 1) ⟨by omega, by omega⟩ hG96 hx  _) zw_66 (zPre1 hP hD hK) rfl hl (Nat.le_of_ble_eq_true rfl) dL_pushes_374 ⟨rfl, rfl, ⟨Nat.le_of_ble_eq_true rfl, Nat.le_of_ble_eq_true rfl⟩, Nat.le_of_ble_eq_true rfl, Nat.le_of_ble_eq_true rfl⟩ rfl) hS hP hD hA (fun r xs H locs hpost hP hD hS => ?_)
            obtain ⟨rfl, hx⟩ := hpost
            refine W.widen (k := 11) (n := 119) (by decide) (by decide) ?_
            refine zz_if_eq X (tgt := 384) dL_pushes_377 (by decide) ⟨by omega, by omega⟩ (fun c_377 => by exfalso; omega) (fun c_377 => ?_)
            refine lv_iconst (v := nZ 1) hX hB dL_pushes_380 rfl ?_
            refine lv_goto (tgt := 385) hX hB dL_pushes_381 (by decide) ?_
            refine lv_istore (lv' := [(15, .int (nZ 1)), (16, .int (nZ ((((B96.1 5) - (B.1 5)) + (B96.1 6)) - (B.1 6)))), (14, .int (nZ nd96)), (13, .int (nZ (B.1 4))), (12, .int (nZ 0)), (11, .int (nZ 0)), (10, .int (nZ (B.1 7))), (9, .int (nZ (B.1 6))), (8, .int (nZ (B.1 5))), (7, .int (nZ (coinsB B))), (6, .int (nZ (cleanAllB (push0 B x1.toNat x2)))), (5, .int (nZ e)), (3, .long (nL (printB B))), (0, .ref h), (1, .int (nZ x1)), (2, .int (nZ x2)), (17, .int (nZ th)), (18, .int (nZ (↑n : Int)))]) hX hB dL_pushes_385 hl (by decide) rfl (fun ls hl => ?_)
            refine lv_iload hX hB dL_pushes_387 (lv_at hl 0 rfl) ?_
            refine zz_if_eq X (tgt := 424) dL_pushes_389 (by decide) ⟨by omega, by omega⟩ (fun c_389 => by exfalso; omega) (fun c_389 => ?_)
            refine lv_aload_n hX hB dL_pushes_392 rfl (lv_at hl 13 rfl) ?_
            have hSl393 : 0 < S96.length := by rw [← hS96]; exact saveL_pos _ _
            have hSm393 : S96.length ≤ 6 := hG96.1.2.2.2
            obtain ⟨S393, hS393⟩ : ∃ z, S96.dropLast = z := ⟨_, rfl⟩
            refine zc1n (zRunW (As := [.ref h]) X mw_undo (wc_undo l D k h B96 S96 K T xs hG96.1 hx B (by rw [← hS96]; exact saveL_last _ _) ((S96.length : Int) - 1) (rfl) B (rfl) S393 hS393 _) zw_299 (zPre1 hP hD hK) rfl hl (Nat.le_of_ble_eq_true rfl) dL_pushes_393 ⟨rfl, rfl, ⟨Nat.le_of_ble_eq_true rfl, Nat.le_of_ble_eq_true rfl⟩, Nat.le_of_ble_eq_true rfl, Nat.le_of_ble_eq_true rfl⟩ rfl) hS hP hD hA (fun r xs H locs hpost hP hD hS => ?_)
            obtain ⟨rfl, hx⟩ := hpost
            have hG393 : goodT N (B, S393, K, T) := by rw [← hS393, ← hS96]; exact hG.back
            refine zz_if_lt X (tgt := 424) dL_pushes_396 (by decide) ⟨by omega, by omega⟩ (fun c_396 => by exfalso; omega) (fun c_396 => ?_)
            refine lv_aload_n hX hB dL_pushes_399 rfl (lv_at hl 13 rfl) ?_
            refine zcL1n (zRunS (As := [.ref h]) X ms_L_print (c_L_print l D k h B S393 K T xs N ⟨by omega, by omega⟩ hG393 hx  _) zw_161 (zPre1 hP hD hK) rfl hl (Nat.le_of_ble_eq_true rfl) dL_pushes_400 ⟨rfl, rfl, ⟨Nat.le_of_ble_eq_true rfl, Nat.le_of_ble_eq_true rfl⟩, Nat.le_of_ble_eq_true rfl, Nat.le_of_ble_eq_true rfl⟩ rfl) hS hP hD hA (fun r xs H locs hpost hP hD hS => ?_)
            obtain ⟨rfl, hx⟩ := hpost
            refine lv_lload_n hX hB dL_pushes_403 rfl (lv_at hl 12 rfl) ?_
            refine zs_lcmp X (rfl) dL_pushes_404 ?_
            refine zz_if_ne X (tgt := 424) dL_pushes_405 (by decide) ⟨by omega, by omega⟩ (fun c_405 => by exfalso; omega) (fun c_405 => ?_)
            refine lv_aload_n hX hB dL_pushes_408 rfl (lv_at hl 13 rfl) ?_
            refine lv_iload_n hX hB dL_pushes_409 rfl (lv_at hl 14 rfl) ?_
            refine lv_iload_n hX hB dL_pushes_410 rfl (lv_at hl 15 rfl) ?_
            refine lv_iconst (v := nZ 1) hX hB dL_pushes_411 rfl ?_
            refine zc1n (zRunW (As := [.ref h, .int (nZ x1), .int (nZ x2), .int (nZ 1)]) X mw_ends (wc_ends l D k h B S393 K T xs hG393.1 hx x1 x2 1 ⟨by omega, by omega⟩ ⟨by omega, by omega⟩ ⟨by omega, by omega⟩ e (he)  _) zw_169 (zPre1 hP hD hK) rfl hl (Nat.le_of_ble_eq_true rfl) dL_pushes_412 ⟨rfl, rfl, ⟨Nat.le_of_ble_eq_true rfl, Nat.le_of_ble_eq_true rfl⟩, Nat.le_of_ble_eq_true rfl, Nat.le_of_ble_eq_true rfl⟩ rfl) hS hP hD hA (fun r xs H locs hpost hP hD hS => ?_)
            obtain ⟨rfl, hx⟩ := hpost
            refine lv_iload hX hB dL_pushes_415 (lv_at hl 11 rfl) ?_
            refine zs_ne X (rfl) (tgt := 424) dL_pushes_417 (by decide) ?_
            refine lv_iconst (v := nZ 1) hX hB dL_pushes_420 rfl ?_
            refine lv_goto (tgt := 425) hX hB dL_pushes_421 (by decide) ?_
            exact zRetZ xs X hP hD hS (Or.inr rfl) rfl ⟨rfl, S393, hG393, hx⟩ dL_pushes_425
          · refine lv_aload_n hX hB dL_pushes_336 rfl (lv_at hl 13 rfl) ?_
            refine lv_bipush (v := nZ 9) hX hB dL_pushes_337 (by decide) ?_
            refine zc1n (zRunW (As := [.ref h, .int (nZ 9)]) X mw_count (wc_count l D k h B96 S96 K T xs hG96.1 hx 9 ⟨by omega, by omega⟩ (B96.1 6) (rfl)  _) zw_130 (zPre1 hP hD hK) rfl hl (Nat.le_of_ble_eq_true rfl) dL_pushes_339 ⟨rfl, rfl, ⟨Nat.le_of_ble_eq_true rfl, Nat.le_of_ble_eq_true rfl⟩, Nat.le_of_ble_eq_true rfl, Nat.le_of_ble_eq_true rfl⟩ rfl) hS hP hD hA (fun r xs H locs hpost hP hD hS => ?_)
            obtain ⟨rfl, hx⟩ := hpost
            refine lv_iload hX hB dL_pushes_342 (lv_at hl 7 rfl) ?_
            refine lv_iconst (v := nZ 1) hX hB dL_pushes_344 rfl ?_
            refine zz_iadd X dL_pushes_345 (z := ((B.1 6) + 1)) (by first | rfl | omega) ?_
            refine zs_ne X (by omega) (tgt := 384) dL_pushes_346 (by decide) ?_
            refine lv_aload_n hX hB dL_pushes_349 rfl (lv_at hl 13 rfl) ?_
            refine lv_bipush (v := nZ 10) hX hB dL_pushes_350 (by decide) ?_
            refine zc1n (zRunW (As := [.ref h, .int (nZ 10)]) X mw_count (wc_count l D k h B96 S96 K T xs hG96.1 hx 10 ⟨by omega, by omega⟩ (B96.1 7) (rfl)  _) zw_130 (zPre1 hP hD hK) rfl hl (Nat.le_of_ble_eq_true rfl) dL_pushes_352 ⟨rfl, rfl, ⟨Nat.le_of_ble_eq_true rfl, Nat.le_of_ble_eq_true rfl⟩, Nat.le_of_ble_eq_true rfl, Nat.le_of_ble_eq_true rfl⟩ rfl) hS hP hD hA (fun r xs H locs hpost hP hD hS => ?_)
            obtain ⟨rfl, hx⟩ := hpost
            refine lv_iload hX hB dL_pushes_355 (lv_at hl 6 rfl) ?_
            refine lv_iload hX hB dL_pushes_357 (lv_at hl 2 rfl) ?_
            refine zz_iadd X dL_pushes_359 (z := ((B.1 7) + nd96)) (by first | rfl | omega) ?_
            refine zs_ne X (by omega) (tgt := 384) dL_pushes_360 (by decide) ?_
            refine lv_aload_n hX hB dL_pushes_363 rfl (lv_at hl 13 rfl) ?_
            refine lv_iconst (v := nZ 3) hX hB dL_pushes_364 rfl ?_
            refine zc1n (zRunW (As := [.ref h, .int (nZ 3)]) X mw_count (wc_count l D k h B96 S96 K T xs hG96.1 hx 3 ⟨by omega, by omega⟩ (cleanAllB B96) (rfl)  _) zw_130 (zPre1 hP hD hK) rfl hl (Nat.le_of_ble_eq_true rfl) dL_pushes_365 ⟨rfl, rfl, ⟨Nat.le_of_ble_eq_true rfl, Nat.le_of_ble_eq_true rfl⟩, Nat.le_of_ble_eq_true rfl, Nat.le_of_ble_eq_true rfl⟩ rfl) hS hP hD hA (fun r xs H locs hpost hP hD hS => ?_)
            obtain ⟨rfl, hx⟩ := hpost
            refine lv_iload hX hB dL_pushes_368 (lv_at hl 10 rfl) ?_
            refine zs_ne X (hcl9) (tgt := 384) dL_pushes_370 (by decide) ?_
            refine lv_aload_n hX hB dL_pushes_373 rfl (lv_at hl 13 rfl) ?_
            refine zc1 (zRunS (As := [.ref h]) X ms_L_hangs (c_L_hangs l D k h B96 S96 K T xs (N + 1) ⟨by omega, by omega⟩ hG96 hx  _) zw_66 (zPre1 hP hD hK) rfl hl (Nat.le_of_ble_eq_true rfl) dL_pushes_374 ⟨rfl, rfl, ⟨Nat.le_of_ble_eq_true rfl, Nat.le_of_ble_eq_true rfl⟩, Nat.le_of_ble_eq_true rfl, Nat.le_of_ble_eq_true rfl⟩ rfl) hS hP hD hA (fun r xs H locs hpost hP hD hS => ?_)
            obtain ⟨rfl, hx⟩ := hpost
            refine W.widen (k := 11) (n := 119) (by decide) (by decide) ?_
            refine zz_if_eq X (tgt := 384) dL_pushes_377 (by decide) ⟨by omega, by omega⟩ (fun c_377 => by exfalso; omega) (fun c_377 => ?_)
            refine lv_iconst (v := nZ 1) hX hB dL_pushes_380 rfl ?_
            refine lv_goto (tgt := 385) hX hB dL_pushes_381 (by decide) ?_
            refine lv_istore (lv' := [(15, .int (nZ 1)), (16, .int (nZ ((((B96.1 5) - (B.1 5)) + (B96.1 6)) - (B.1 6)))), (14, .int (nZ nd96)), (13, .int (nZ (B.1 4))), (12, .int (nZ 0)), (11, .int (nZ 0)), (10, .int (nZ (B.1 7))), (9, .int (nZ (B.1 6))), (8, .int (nZ (B.1 5))), (7, .int (nZ (coinsB B))), (6, .int (nZ (cleanAllB (push0 B x1.toNat x2)))), (5, .int (nZ e)), (3, .long (nL (printB B))), (0, .ref h), (1, .int (nZ x1)), (2, .int (nZ x2)), (17, .int (nZ th)), (18, .int (nZ (↑n : Int)))]) hX hB dL_pushes_385 hl (by decide) rfl (fun ls hl => ?_)
            refine lv_iload hX hB dL_pushes_387 (lv_at hl 0 rfl) ?_
            refine zz_if_eq X (tgt := 424) dL_pushes_389 (by decide) ⟨by omega, by omega⟩ (fun c_389 => by exfalso; omega) (fun c_389 => ?_)
            refine lv_aload_n hX hB dL_pushes_392 rfl (lv_at hl 13 rfl) ?_
            have hSl393 : 0 < S96.length := by rw [← hS96]; exact saveL_pos _ _
            have hSm393 : S96.length ≤ 6 := hG96.1.2.2.2
            obtain ⟨S393, hS393⟩ : ∃ z, S96.dropLast = z := ⟨_, rfl⟩
            refine zc1n (zRunW (As := [.ref h]) X mw_undo (wc_undo l D k h B96 S96 K T xs hG96.1 hx B (by rw [← hS96]; exact saveL_last _ _) ((S96.length : Int) - 1) (rfl) B (rfl) S393 hS393 _) zw_299 (zPre1 hP hD hK) rfl hl (Nat.le_of_ble_eq_true rfl) dL_pushes_393 ⟨rfl, rfl, ⟨Nat.le_of_ble_eq_true rfl, Nat.le_of_ble_eq_true rfl⟩, Nat.le_of_ble_eq_true rfl, Nat.le_of_ble_eq_true rfl⟩ rfl) hS hP hD hA (fun r xs H locs hpost hP hD hS => ?_)
            obtain ⟨rfl, hx⟩ := hpost
            have hG393 : goodT N (B, S393, K, T) := by rw [← hS393, ← hS96]; exact hG.back
            refine zz_if_lt X (tgt := 424) dL_pushes_396 (by decide) ⟨by omega, by omega⟩ (fun c_396 => by exfalso; omega) (fun c_396 => ?_)
            refine lv_aload_n hX hB dL_pushes_399 rfl (lv_at hl 13 rfl) ?_
            refine zcL1n (zRunS (As := [.ref h]) X ms_L_print (c_L_print l D k h B S393 K T xs N ⟨by omega, by omega⟩ hG393 hx  _) zw_161 (zPre1 hP hD hK) rfl hl (Nat.le_of_ble_eq_true rfl) dL_pushes_400 ⟨rfl, rfl, ⟨Nat.le_of_ble_eq_true rfl, Nat.le_of_ble_eq_true rfl⟩, Nat.le_of_ble_eq_true rfl, Nat.le_of_ble_eq_true rfl⟩ rfl) hS hP hD hA (fun r xs H locs hpost hP hD hS => ?_)
            obtain ⟨rfl, hx⟩ := hpost
            refine lv_lload_n hX hB dL_pushes_403 rfl (lv_at hl 12 rfl) ?_
            refine zs_lcmp X (rfl) dL_pushes_404 ?_
            refine zz_if_ne X (tgt := 424) dL_pushes_405 (by decide) ⟨by omega, by omega⟩ (fun c_405 => by exfalso; omega) (fun c_405 => ?_)
            refine lv_aload_n hX hB dL_pushes_408 rfl (lv_at hl 13 rfl) ?_
            refine lv_iload_n hX hB dL_pushes_409 rfl (lv_at hl 14 rfl) ?_
            refine lv_iload_n hX hB dL_pushes_410 rfl (lv_at hl 15 rfl) ?_
            refine lv_iconst (v := nZ 1) hX hB dL_pushes_411 rfl ?_
            refine zc1n (zRunW (As := [.ref h, .int (nZ x1), .int (nZ x2), .int (nZ 1)]) X mw_ends (wc_ends l D k h B S393 K T xs hG393.1 hx x1 x2 1 ⟨by omega, by omega⟩ ⟨by omega, by omega⟩ ⟨by omega, by omega⟩ e (he)  _) zw_169 (zPre1 hP hD hK) rfl hl (Nat.le_of_ble_eq_true rfl) dL_pushes_412 ⟨rfl, rfl, ⟨Nat.le_of_ble_eq_true rfl, Nat.le_of_ble_eq_true rfl⟩, Nat.le_of_ble_eq_true rfl, Nat.le_of_ble_eq_true rfl⟩ rfl) hS hP hD hA (fun r xs H locs hpost hP hD hS => ?_)
            obtain ⟨rfl, hx⟩ := hpost
            refine lv_iload hX hB dL_pushes_415 (lv_at hl 11 rfl) ?_
            refine zs_ne X (rfl) (tgt := 424) dL_pushes_417 (by decide) ?_
            refine lv_iconst (v := nZ 1) hX hB dL_pushes_420 rfl ?_
            refine lv_goto (tgt := 425) hX hB dL_pushes_421 (by decide) ?_
            exact zRetZ xs X hP hD hS (Or.inr rfl) rfl ⟨rfl, S393, hG393, hx⟩ dL_pushes_425
        · refine lv_iconst (v := nZ 1) hX hB dL_pushes_323 rfl ?_
          refine lv_goto (tgt := 328) hX hB dL_pushes_324 (by decide) ?_
          refine zs_ne X (by omega) (tgt := 384) dL_pushes_328 (by decide) ?_
          refine lv_iload hX hB dL_pushes_331 (lv_at hl 11 rfl) ?_
          refine zz_if_ge X (tgt := 349) dL_pushes_333 (by decide) ⟨by omega, by omega⟩ (fun c_333 => ?_) (fun c_333 => ?_)
          · refine lv_aload_n hX hB dL_pushes_349 rfl (lv_at hl 13 rfl) ?_
            refine lv_bipush (v := nZ 10) hX hB dL_pushes_350 (by decide) ?_
            refine zc1n (zRunW (As := [.ref h, .int (nZ 10)]) X mw_count (wc_count l D k h B96 S96 K T xs hG96.1 hx 10 ⟨by omega, by omega⟩ (B96.1 7) (rfl)  _) zw_130 (zPre1 hP hD hK) rfl hl (Nat.le_of_ble_eq_true rfl) dL_pushes_352 ⟨rfl, rfl, ⟨Nat.le_of_ble_eq_true rfl, Nat.le_of_ble_eq_true rfl⟩, Nat.le_of_ble_eq_true rfl, Nat.le_of_ble_eq_true rfl⟩ rfl) hS hP hD hA (fun r xs H locs hpost hP hD hS => ?_)
            obtain ⟨rfl, hx⟩ := hpost
            refine lv_iload hX hB dL_pushes_355 (lv_at hl 6 rfl) ?_
            refine lv_iload hX hB dL_pushes_357 (lv_at hl 2 rfl) ?_
            refine zz_iadd X dL_pushes_359 (z := ((B.1 7) + nd96)) (by first | rfl | omega) ?_
            refine zs_ne X (by omega) (tgt := 384) dL_pushes_360 (by decide) ?_
            refine lv_aload_n hX hB dL_pushes_363 rfl (lv_at hl 13 rfl) ?_
            refine lv_iconst (v := nZ 3) hX hB dL_pushes_364 rfl ?_
            refine zc1n (zRunW (As := [.ref h, .int (nZ 3)]) X mw_count (wc_count l D k h B96 S96 K T xs hG96.1 hx 3 ⟨by omega, by omega⟩ (cleanAllB B96) (rfl)  _) zw_130 (zPre1 hP hD hK) rfl hl (Nat.le_of_ble_eq_true rfl) dL_pushes_365 ⟨rfl, rfl, ⟨Nat.le_of_ble_eq_true rfl, Nat.le_of_ble_eq_true rfl⟩, Nat.le_of_ble_eq_true rfl, Nat.le_of_ble_eq_true rfl⟩ rfl) hS hP hD hA (fun r xs H locs hpost hP hD hS => ?_)
            obtain ⟨rfl, hx⟩ := hpost
            refine lv_iload hX hB dL_pushes_368 (lv_at hl 10 rfl) ?_
            refine zs_ne X (hcl9) (tgt := 384) dL_pushes_370 (by decide) ?_
            refine lv_aload_n hX hB dL_pushes_373 rfl (lv_at hl 13 rfl) ?_
            refine zc1 (zRunS (As := [.ref h]) X ms_L_hangs (c_L_hangs l D k h B96 S96 K T xs (N + 1) ⟨by omega, by omega⟩ hG96 hx  _) zw_66 (zPre1 hP hD hK) rfl hl (Nat.le_of_ble_eq_true rfl) dL_pushes_374 ⟨rfl, rfl, ⟨Nat.le_of_ble_eq_true rfl, Nat.le_of_ble_eq_true rfl⟩, Nat.le_of_ble_eq_true rfl, Nat.le_of_ble_eq_true rfl⟩ rfl) hS hP hD hA (fun r xs H locs hpost hP hD hS => ?_)
            obtain ⟨rfl, hx⟩ := hpost
            refine W.widen (k := 11) (n := 119) (by decide) (by decide) ?_
            refine zz_if_eq X (tgt := 384) dL_pushes_377 (by decide) ⟨by omega, by omega⟩ (fun c_377 => by exfalso; omega) (fun c_377 => ?_)
            refine lv_iconst (v := nZ 1) hX hB dL_pushes_380 rfl ?_
            refine lv_goto (tgt := 385) hX hB dL_pushes_381 (by decide) ?_
            refine lv_istore (lv' := [(15, .int (nZ 1)), (16, .int (nZ ((((B96.1 5) - (B.1 5)) + (B96.1 6)) - (B.1 6)))), (14, .int (nZ nd96)), (13, .int (nZ (B.1 4))), (12, .int (nZ 0)), (11, .int (nZ 0)), (10, .int (nZ (B.1 7))), (9, .int (nZ (B.1 6))), (8, .int (nZ (B.1 5))), (7, .int (nZ (coinsB B))), (6, .int (nZ (cleanAllB (push0 B x1.toNat x2)))), (5, .int (nZ e)), (3, .long (nL (printB B))), (0, .ref h), (1, .int (nZ x1)), (2, .int (nZ x2)), (17, .int (nZ th)), (18, .int (nZ (↑n : Int)))]) hX hB dL_pushes_385 hl (by decide) rfl (fun ls hl => ?_)
            refine lv_iload hX hB dL_pushes_387 (lv_at hl 0 rfl) ?_
            refine zz_if_eq X (tgt := 424) dL_pushes_389 (by decide) ⟨by omega, by omega⟩ (fun c_389 => by exfalso; omega) (fun c_389 => ?_)
            refine lv_aload_n hX hB dL_pushes_392 rfl (lv_at hl 13 rfl) ?_
            have hSl393 : 0 < S96.length := by rw [← hS96]; exact saveL_pos _ _
            have hSm393 : S96.length ≤ 6 := hG96.1.2.2.2
            obtain ⟨S393, hS393⟩ : ∃ z, S96.dropLast = z := ⟨_, rfl⟩
            refine zc1n (zRunW (As := [.ref h]) X mw_undo (wc_undo l D k h B96 S96 K T xs hG96.1 hx B (by rw [← hS96]; exact saveL_last _ _) ((S96.length : Int) - 1) (rfl) B (rfl) S393 hS393 _) zw_299 (zPre1 hP hD hK) rfl hl (Nat.le_of_ble_eq_true rfl) dL_pushes_393 ⟨rfl, rfl, ⟨Nat.le_of_ble_eq_true rfl, Nat.le_of_ble_eq_true rfl⟩, Nat.le_of_ble_eq_true rfl, Nat.le_of_ble_eq_true rfl⟩ rfl) hS hP hD hA (fun r xs H locs hpost hP hD hS => ?_)
            obtain ⟨rfl, hx⟩ := hpost
            have hG393 : goodT N (B, S393, K, T) := by rw [← hS393, ← hS96]; exact hG.back
            refine zz_if_lt X (tgt := 424) dL_pushes_396 (by decide) ⟨by omega, by omega⟩ (fun c_396 => by exfalso; omega) (fun c_396 => ?_)
            refine lv_aload_n hX hB dL_pushes_399 rfl (lv_at hl 13 rfl) ?_
            refine zcL1n (zRunS (As := [.ref h]) X ms_L_print (c_L_print l D k h B S393 K T xs N ⟨by omega, by omega⟩ hG393 hx  _) zw_161 (zPre1 hP hD hK) rfl hl (Nat.le_of_ble_eq_true rfl) dL_pushes_400 ⟨rfl, rfl, ⟨Nat.le_of_ble_eq_true rfl, Nat.le_of_ble_eq_true rfl⟩, Nat.le_of_ble_eq_true rfl, Nat.le_of_ble_eq_true rfl⟩ rfl) hS hP hD hA (fun r xs H locs hpost hP hD hS => ?_)
            obtain ⟨rfl, hx⟩ := hpost
            refine lv_lload_n hX hB dL_pushes_403 rfl (lv_at hl 12 rfl) ?_
            refine zs_lcmp X (rfl) dL_pushes_404 ?_
            refine zz_if_ne X (tgt := 424) dL_pushes_405 (by decide) ⟨by omega, by omega⟩ (fun c_405 => by exfalso; omega) (fun c_405 => ?_)
            refine lv_aload_n hX hB dL_pushes_408 rfl (lv_at hl 13 rfl) ?_
            refine lv_iload_n hX hB dL_pushes_409 rfl (lv_at hl 14 rfl) ?_
            refine lv_iload_n hX hB dL_pushes_410 rfl (lv_at hl 15 rfl) ?_
            refine lv_iconst (v := nZ 1) hX hB dL_pushes_411 rfl ?_
            refine zc1n (zRunW (As := [.ref h, .int (nZ x1), .int (nZ x2), .int (nZ 1)]) X mw_ends (wc_ends l D k h B S393 K T xs hG393.1 hx x1 x2 1 ⟨by omega, by omega⟩ ⟨by omega, by omega⟩ ⟨by omega, by omega⟩ e (he)  _) zw_169 (zPre1 hP hD hK) rfl hl (Nat.le_of_ble_eq_true rfl) dL_pushes_412 ⟨rfl, rfl, ⟨Nat.le_of_ble_eq_true rfl, Nat.le_of_ble_eq_true rfl⟩, Nat.le_of_ble_eq_true rfl, Nat.le_of_ble_eq_true rfl⟩ rfl) hS hP hD hA (fun r xs H locs hpost hP hD hS => ?_)
            obtain ⟨rfl, hx⟩ := hpost
            refine lv_iload hX hB dL_pushes_415 (lv_at hl 11 rfl) ?_
            refine zs_ne X (rfl) (tgt := 424) dL_pushes_417 (by decide) ?_
            refine lv_iconst (v := nZ 1) hX hB dL_pushes_420 rfl ?_
            refine lv_goto (tgt := 425) hX hB dL_pushes_421 (by decide) ?_
            exact zRetZ xs X hP hD hS (Or.inr rfl) rfl ⟨rfl, S393, hG393, hx⟩ dL_pushes_425
          · refine lv_aload_n hX hB dL_pushes_336 rfl (lv_at hl 13 rfl) ?_
            refine lv_bipush (v := nZ 9) hX hB dL_pushes_337 (by decide) ?_
            refine zc1n (zRunW (As := [.ref h, .int (nZ 9)]) X mw_count (wc_count l D k h B96 S96 K T xs hG96.1 hx 9 ⟨by omega, by omega⟩ (B96.1 6) (rfl)  _) zw_130 (zPre1 hP hD hK) rfl hl (Nat.le_of_ble_eq_true rfl) dL_pushes_339 ⟨rfl, rfl, ⟨Nat.le_of_ble_eq_true rfl, Nat.le_of_ble_eq_true rfl⟩, Nat.le_of_ble_eq_true rfl, Nat.le_of_ble_eq_true rfl⟩ rfl) hS hP hD hA (fun r xs H locs hpost hP hD hS => ?_)
            obtain ⟨rfl, hx⟩ := hpost
            refine lv_iload hX hB dL_pushes_342 (lv_at hl 7 rfl) ?_
            refine lv_iconst (v := nZ 1) hX hB dL_pushes_344 rfl ?_
            refine zz_iadd X dL_pushes_345 (z := ((B.1 6) + 1)) (by first | rfl | omega) ?_
            refine zs_ne X (by omega) (tgt := 384) dL_pushes_346 (by decide) ?_
            refine lv_aload_n hX hB dL_pushes_349 rfl (lv_at hl 13 rfl) ?_
            refine lv_bipush (v := nZ 10) hX hB dL_pushes_350 (by decide) ?_
            refine zc1n (zRunW (As := [.ref h, .int (nZ 10)]) X mw_count (wc_count l D k h B96 S96 K T xs hG96.1 hx 10 ⟨by omega, by omega⟩ (B96.1 7) (rfl)  _) zw_130 (zPre1 hP hD hK) rfl hl (Nat.le_of_ble_eq_true rfl) dL_pushes_352 ⟨rfl, rfl, ⟨Nat.le_of_ble_eq_true rfl, Nat.le_of_ble_eq_true rfl⟩, Nat.le_of_ble_eq_true rfl, Nat.le_of_ble_eq_true rfl⟩ rfl) hS hP hD hA (fun r xs H locs hpost hP hD hS => ?_)
            obtain ⟨rfl, hx⟩ := hpost
            refine lv_iload hX hB dL_pushes_355 (lv_at hl 6 rfl) ?_
            refine lv_iload hX hB dL_pushes_357 (lv_at hl 2 rfl) ?_
            refine zz_iadd X dL_pushes_359 (z := ((B.1 7) + nd96)) (by first | rfl | omega) ?_
            refine zs_ne X (by omega) (tgt := 384) dL_pushes_360 (by decide) ?_
            refine lv_aload_n hX hB dL_pushes_363 rfl (lv_at hl 13 rfl) ?_
            refine lv_iconst (v := nZ 3) hX hB dL_pushes_364 rfl ?_
            refine zc1n (zRunW (As := [.ref h, .int (nZ 3)]) X mw_count (wc_count l D k h B96 S96 K T xs hG96.1 hx 3 ⟨by omega, by omega⟩ (cleanAllB B96) (rfl)  _) zw_130 (zPre1 hP hD hK) rfl hl (Nat.le_of_ble_eq_true rfl) dL_pushes_365 ⟨rfl, rfl, ⟨Nat.le_of_ble_eq_true rfl, Nat.le_of_ble_eq_true rfl⟩, Nat.le_of_ble_eq_true rfl, Nat.le_of_ble_eq_true rfl⟩ rfl) hS hP hD hA (fun r xs H locs hpost hP hD hS => ?_)
            obtain ⟨rfl, hx⟩ := hpost
            refine lv_iload hX hB dL_pushes_368 (lv_at hl 10 rfl) ?_
            refine zs_ne X (hcl9) (tgt := 384) dL_pushes_370 (by decide) ?_
            refine lv_aload_n hX hB dL_pushes_373 rfl (lv_at hl 13 rfl) ?_
            refine zc1 (zRunS (As := [.ref h]) X ms_L_hangs (c_L_hangs l D k h B96 S96 K T xs (N + 1) ⟨by omega, by omega⟩ hG96 hx  _) zw_66 (zPre1 hP hD hK) rfl hl (Nat.le_of_ble_eq_true rfl) dL_pushes_374 ⟨rfl, rfl, ⟨Nat.le_of_ble_eq_true rfl, Nat.le_of_ble_eq_true rfl⟩, Nat.le_of_ble_eq_true rfl, Nat.le_of_ble_eq_true rfl⟩ rfl) hS hP hD hA (fun r xs H locs hpost hP hD hS => ?_)
            obtain ⟨rfl, hx⟩ := hpost
            refine W.widen (k := 11) (n := 119) (by decide) (by decide) ?_
            refine zz_if_eq X (tgt := 384) dL_pushes_377 (by decide) ⟨by omega, by omega⟩ (fun c_377 => by exfalso; omega) (fun c_377 => ?_)
            refine lv_iconst (v := nZ 1) hX hB dL_pushes_380 rfl ?_
            refine lv_goto (tgt := 385) hX hB dL_pushes_381 (by decide) ?_
            refine lv_istore (lv' := [(15, .int (nZ 1)), (16, .int (nZ ((((B96.1 5) - (B.1 5)) + (B96.1 6)) - (B.1 6)))), (14, .int (nZ nd96)), (13, .int (nZ (B.1 4))), (12, .int (nZ 0)), (11, .int (nZ 0)), (10, .int (nZ (B.1 7))), (9, .int (nZ (B.1 6))), (8, .int (nZ (B.1 5))), (7, .int (nZ (coinsB B))), (6, .int (nZ (cleanAllB (push0 B x1.toNat x2)))), (5, .int (nZ e)), (3, .long (nL (printB B))), (0, .ref h), (1, .int (nZ x1)), (2, .int (nZ x2)), (17, .int (nZ th)), (18, .int (nZ (↑n : Int)))]) hX hB dL_pushes_385 hl (by decide) rfl (fun ls hl => ?_)
            refine lv_iload hX hB dL_pushes_387 (lv_at hl 0 rfl) ?_
            refine zz_if_eq X (tgt := 424) dL_pushes_389 (by decide) ⟨by omega, by omega⟩ (fun c_389 => by exfalso; omega) (fun c_389 => ?_)
            refine lv_aload_n hX hB dL_pushes_392 rfl (lv_at hl 13 rfl) ?_
            have hSl393 : 0 < S96.length := by rw [← hS96]; exact saveL_pos _ _
            have hSm393 : S96.length ≤ 6 := hG96.1.2.2.2
            obtain ⟨S393, hS393⟩ : ∃ z, S96.dropLast = z := ⟨_, rfl⟩
            refine zc1n (zRunW (As := [.ref h]) X mw_undo (wc_undo l D k h B96 S96 K T xs hG96.1 hx B (by rw [← hS96]; exact saveL_last _ _) ((S96.length : Int) - 1) (rfl) B (rfl) S393 hS393 _) zw_299 (zPre1 hP hD hK) rfl hl (Nat.le_of_ble_eq_true rfl) dL_pushes_393 ⟨rfl, rfl, ⟨Nat.le_of_ble_eq_true rfl, Nat.le_of_ble_eq_true rfl⟩, Nat.le_of_ble_eq_true rfl, Nat.le_of_ble_eq_true rfl⟩ rfl) hS hP hD hA (fun r xs H locs hpost hP hD hS => ?_)
            obtain ⟨rfl, hx⟩ := hpost
            have hG393 : goodT N (B, S393, K, T) := by rw [← hS393, ← hS96]; exact hG.back
            refine zz_if_lt X (tgt := 424) dL_pushes_396 (by decide) ⟨by omega, by omega⟩ (fun c_396 => by exfalso; omega) (fun c_396 => ?_)
            refine lv_aload_n hX hB dL_pushes_399 rfl (lv_at hl 13 rfl) ?_
            refine zcL1n (zRunS (As := [.ref h]) X ms_L_print (c_L_print l D k h B S393 K T xs N ⟨by omega, by omega⟩ hG393 hx  _) zw_161 (zPre1 hP hD hK) rfl hl (Nat.le_of_ble_eq_true rfl) dL_pushes_400 ⟨rfl, rfl, ⟨Nat.le_of_ble_eq_true rfl, Nat.le_of_ble_eq_true rfl⟩, Nat.le_of_ble_eq_true rfl, Nat.le_of_ble_eq_true rfl⟩ rfl) hS hP hD hA (fun r xs H locs hpost hP hD hS => ?_)
            obtain ⟨rfl, hx⟩ := hpost
            refine lv_lload_n hX hB dL_pushes_403 rfl (lv_at hl 12 rfl) ?_
            refine zs_lcmp X (rfl) dL_pushes_404 ?_
            refine zz_if_ne X (tgt := 424) dL_pushes_405 (by decide) ⟨by omega, by omega⟩ (fun c_405 => by exfalso; omega) (fun c_405 => ?_)
            refine lv_aload_n hX hB dL_pushes_408 rfl (lv_at hl 13 rfl) ?_
            refine lv_iload_n hX hB dL_pushes_409 rfl (lv_at hl 14 rfl) ?_
            refine lv_iload_n hX hB dL_pushes_410 rfl (lv_at hl 15 rfl) ?_
            refine lv_iconst (v := nZ 1) hX hB dL_pushes_411 rfl ?_
            refine zc1n (zRunW (As := [.ref h, .int (nZ x1), .int (nZ x2), .int (nZ 1)]) X mw_ends (wc_ends l D k h B S393 K T xs hG393.1 hx x1 x2 1 ⟨by omega, by omega⟩ ⟨by omega, by omega⟩ ⟨by omega, by omega⟩ e (he)  _) zw_169 (zPre1 hP hD hK) rfl hl (Nat.le_of_ble_eq_true rfl) dL_pushes_412 ⟨rfl, rfl, ⟨Nat.le_of_ble_eq_true rfl, Nat.le_of_ble_eq_true rfl⟩, Nat.le_of_ble_eq_true rfl, Nat.le_of_ble_eq_true rfl⟩ rfl) hS hP hD hA (fun r xs H locs hpost hP hD hS => ?_)
            obtain ⟨rfl, hx⟩ := hpost
            refine lv_iload hX hB dL_pushes_415 (lv_at hl 11 rfl) ?_
            refine zs_ne X (rfl) (tgt := 424) dL_pushes_417 (by decide) ?_
            refine lv_iconst (v := nZ 1) hX hB dL_pushes_420 rfl ?_
            refine lv_goto (tgt := 425) hX hB dL_pushes_421 (by decide) ?_
            exact zRetZ xs X hP hD hS (Or.inr rfl) rfl ⟨rfl, S393, hG393, hx⟩ dL_pushes_425
      · obtain ⟨cv, hcv⟩ : ∃ v, placeAtS (B96.2 x1.toNat) (n : Int) = v := ⟨_, rfl⟩
        have hcvr := place_rng hBg96 hj n hcv
        have h01 := thI_01 hth
        refine lv_iload hX hB dL_pushes_252 (lv_at hl 16 rfl) ?_
        refine zz_if_ne X (tgt := 269) dL_pushes_254 (by decide) ⟨by omega, by omega⟩ (fun c_254 => ?_) (fun c_254 => ?_)
        · refine lv_iconst (v := nZ 1) hX hB dL_pushes_269 rfl ?_
          refine lv_goto (tgt := 274) hX hB dL_pushes_270 (by decide) ?_
          refine lv_istore (lv' := [(17, .int (nZ 1)), (16, .int (nZ ((((B96.1 5) - (B.1 5)) + (B96.1 6)) - (B.1 6)))), (15, .int (nZ 1)), (14, .int (nZ nd96)), (13, .int (nZ (B.1 4))), (12, .int (nZ 0)), (11, .int (nZ 0)), (10, .int (nZ (B.1 7))), (9, .int (nZ (B.1 6))), (8, .int (nZ (B.1 5))), (7, .int (nZ (coinsB B))), (6, .int (nZ (cleanAllB (push0 B x1.toNat x2)))), (5, .int (nZ e)), (3, .long (nL (printB B))), (0, .ref h), (1, .int (nZ x1)), (2, .int (nZ x2)), (18, .int (nZ (↑n : Int)))]) hX hB dL_pushes_274 hl (by decide) rfl (fun ls hl => ?_)
          refine lv_iinc (v := nZ (↑(n + 1) : Int)) (lv' := [(18, .int (nZ (↑(n + 1) : Int))), (17, .int (nZ 1)), (16, .int (nZ ((((B96.1 5) - (B.1 5)) + (B96.1 6)) - (B.1 6)))), (15, .int (nZ 1)), (14, .int (nZ nd96)), (13, .int (nZ (B.1 4))), (12, .int (nZ 0)), (11, .int (nZ 0)), (10, .int (nZ (B.1 7))), (9, .int (nZ (B.1 6))), (8, .int (nZ (B.1 5))), (7, .int (nZ (coinsB B))), (6, .int (nZ (cleanAllB (push0 B x1.toNat x2)))), (5, .int (nZ e)), (3, .long (nL (printB B))), (0, .ref h), (1, .int (nZ x1)), (2, .int (nZ x2))]) hX hB dL_pushes_276 hl (k := 17) rfl (zinc (by omega)) (by decide) rfl (fun ls hl => ?_)
          refine lv_goto (tgt := 245) hX hB dL_pushes_279 (by decide) ?_
          exact ih_245 ((n + 1), 1, xs) _ _ _ ⟨(by omega), (by first | exact Or.inl rfl | exact thI_step hth (by omega) hcv c_266), (by exact hx), hP, hD, hS, (lv_sub hl [2, 3, 4, 5, 6, 7, 8, 9, 10, 11, 12, 13, 14, 15, 16, 17, 1, 0] rfl)⟩ (by dsimp only; omega)
        · refine lv_aload_n hX hB dL_pushes_257 rfl (lv_at hl 13 rfl) ?_
          refine lv_iload_n hX hB dL_pushes_258 rfl (lv_at hl 14 rfl) ?_
          refine lv_iload hX hB dL_pushes_259 (lv_at hl 17 rfl) ?_
          refine zc1n (zRunW (As := [.ref h, .int (nZ x1), .int (nZ (↑n : Int))]) X mw_coin (wc_coin l D k h B96 S96 K T xs hG96.1 hx x1 (↑n : Int) ⟨by omega, by omega⟩ ⟨by omega, by omega⟩ cv (hcv)  _) zw_71 (zPre1 hP hD hK) rfl hl (Nat.le_of_ble_eq_true rfl) dL_pushes_261 ⟨rfl, rfl, ⟨Nat.le_of_ble_eq_true rfl, Nat.le_of_ble_eq_true rfl⟩, Nat.le_of_ble_eq_true rfl, Nat.le_of_ble_eq_true rfl⟩ rfl) hS hP hD hA (fun r xs H locs hpost hP hD hS => ?_)
          obtain ⟨rfl, hx⟩ := hpost
          refine lv_iload hX hB dL_pushes_264 (lv_at hl 11 rfl) ?_
          refine zz_icmp_ne X (tgt := 273) dL_pushes_266 (by decide) ⟨by omega, by omega⟩ ⟨by omega, by omega⟩ (fun c_266 => ?_) (fun c_266 => ?_)
          · refine lv_iconst (v := nZ 0) hX hB dL_pushes_273 rfl ?_
            refine lv_istore (lv' := [(17, .int (nZ 0)), (16, .int (nZ ((((B96.1 5) - (B.1 5)) + (B96.1 6)) - (B.1 6)))), (15, .int (nZ 1)), (14, .int (nZ nd96)), (13, .int (nZ (B.1 4))), (12, .int (nZ 0)), (11, .int (nZ 0)), (10, .int (nZ (B.1 7))), (9, .int (nZ (B.1 6))), (8, .int (nZ (B.1 5))), (7, .int (nZ (coinsB B))), (6, .int (nZ (cleanAllB (push0 B x1.toNat x2)))), (5, .int (nZ e)), (3, .long (nL (printB B))), (0, .ref h), (1, .int (nZ x1)), (2, .int (nZ x2)), (18, .int (nZ (↑n : Int)))]) hX hB dL_pushes_274 hl (by decide) rfl (fun ls hl => ?_)
            refine lv_iinc (v := nZ (↑(n + 1) : Int)) (lv' := [(18, .int (nZ (↑(n + 1) : Int))), (17, .int (nZ 0)), (16, .int (nZ ((((B96.1 5) - (B.1 5)) + (B96.1 6)) - (B.1 6)))), (15, .int (nZ 1)), (14, .int (nZ nd96)), (13, .int (nZ (B.1 4))), (12, .int (nZ 0)), (11, .int (nZ 0)), (10, .int (nZ (B.1 7))), (9, .int (nZ (B.1 6))), (8, .int (nZ (B.1 5))), (7, .int (nZ (coinsB B))), (6, .int (nZ (cleanAllB (push0 B x1.toNat x2)))), (5, .int (nZ e)), (3, .long (nL (printB B))), (0, .ref h), (1, .int (nZ x1)), (2, .int (nZ x2))]) hX hB dL_pushes_276 hl (k := 17) rfl (zinc (by omega)) (by decide) rfl (fun ls hl => ?_)
            refine lv_goto (tgt := 245) hX hB dL_pushes_279 (by decide) ?_
            exact ih_245 ((n + 1), 0, xs) _ _ _ ⟨(by omega), (by first | exact Or.inl rfl | exact thI_step hth (by omega) hcv c_266), (by exact hx), hP, hD, hS, (lv_sub hl [2, 3, 4, 5, 6, 7, 8, 9, 10, 11, 12, 13, 14, 15, 16, 17, 1, 0] rfl)⟩ (by dsimp only; omega)
          · refine lv_iconst (v := nZ 1) hX hB dL_pushes_269 rfl ?_
            refine lv_goto (tgt := 274) hX hB dL_pushes_270 (by decide) ?_
            refine lv_istore (lv' := [(17, .int (nZ 1)), (16, .int (nZ ((((B96.1 5) - (B.1 5)) + (B96.1 6)) - (B.1 6)))), (15, .int (nZ 1)), (14, .int (nZ nd96)), (13, .int (nZ (B.1 4))), (12, .int (nZ 0)), (11, .int (nZ 0)), (10, .int (nZ (B.1 7))), (9, .int (nZ (B.1 6))), (8, .int (nZ (B.1 5))), (7, .int (nZ (coinsB B))), (6, .int (nZ (cleanAllB (push0 B x1.toNat x2)))), (5, .int (nZ e)), (3, .long (nL (printB B))), (0, .ref h), (1, .int (nZ x1)), (2, .int (nZ x2)), (18, .int (nZ (↑n : Int)))]) hX hB dL_pushes_274 hl (by decide) rfl (fun ls hl => ?_)
            refine lv_iinc (v := nZ (↑(n + 1) : Int)) (lv' := [(18, .int (nZ (↑(n + 1) : Int))), (17, .int (nZ 1)), (16, .int (nZ ((((B96.1 5) - (B.1 5)) + (B96.1 6)) - (B.1 6)))), (15, .int (nZ 1)), (14, .int (nZ nd96)), (13, .int (nZ (B.1 4))), (12, .int (nZ 0)), (11, .int (nZ 0)), (10, .int (nZ (B.1 7))), (9, .int (nZ (B.1 6))), (8, .int (nZ (B.1 5))), (7, .int (nZ (coinsB B))), (6, .int (nZ (cleanAllB (push0 B x1.toNat x2)))), (5, .int (nZ e)), (3, .long (nL (printB B))), (0, .ref h), (1, .int (nZ x1)), (2, .int (nZ x2))]) hX hB dL_pushes_276 hl (k := 17) rfl (zinc (by omega)) (by decide) rfl (fun ls hl => ?_)
            refine lv_goto (tgt := 245) hX hB dL_pushes_279 (by decide) ?_
            exact ih_245 ((n + 1), 1, xs) _ _ _ ⟨(by omega), (by first | exact Or.inl rfl | exact thI_step hth (by omega) hcv c_266), (by exact hx), hP, hD, hS, (lv_sub hl [2, 3, 4, 5, 6, 7, 8, 9, 10, 11, 12, 13, 14, 15, 16, 17, 1, 0] rfl)⟩ (by dsimp only; omega)
theorem c_L_pushes (l : Launch) (D : va_G) (k : Nat → ClassId) (h : Nat) (B : Bd) (S : List Bd) (K : Nat → Option Bd) (T : List Int) (xs : va_W) (N : Int) (hN : 0 ≤ N ∧ N < 900000) (hG : goodT N (B, S, K, T)) (hx : isX k h (B, S, K, T) xs) (x1 x2 : Int) (h1 : 0 ≤ x1 ∧ x1 ≤ 2) (h2 : 1 ≤ x2 ∧ x2 ≤ 150) : ∀ sz, Met l yL_pushes (zW yL_pushes cL_pushes 19 (some .boolean)) ({ frames := 11, cells := 11, slots := 119, locals := 360 } : Room) (va_Pc [.ref h, .int (nZ x1), .int (nZ x2)] (zIn D k sz xs)) (va_Qi (fun (r : Int32) (u : va_W) => r = nZ 1 ∧ ∃ S2, goodT N (B, S2, K, T) ∧ isX k h (B, S2, K, T) u) (fun u => zOut D (va_A xs sz) u) (va_A xs sz)) 11 119 (va_A xs sz) := by
  by_cases h3 : B.1 3 = 0
  · by_cases h4 : B.1 2 = 4
    · exact c_L_pushes_last l D k h B S K T xs N hN hG hx x1 x2 h1 h2 h3 h4
    · exact c_L_pushes_go l D k h B S K T xs N hN hG hx x1 x2 h1 h2 h3 (by have hb : bdGood B := hG.1.1; have := hb.2.2.1; omega)
  · exact c_L_pushes_over l D k h B S K T xs N hN hG hx x1 x2 h1 h2 h3

