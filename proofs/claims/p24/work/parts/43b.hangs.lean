theorem ms_L_hangs : zMS yL_hangs cL_hangs 15 (some .boolean) 1 := ⟨zw_69, zw_68, ⟨by decide +kernel, by decide +kernel, by decide +kernel⟩, zw_67⟩
set_option maxHeartbeats 2000000 in
set_option maxRecDepth 100000 in
theorem c_L_hangs (l : Launch) (D : va_G) (k : Nat → ClassId) (h : Nat) (B : Bd) (S : List Bd) (K : Nat → Option Bd) (T : List Int) (xs : va_W) (N : Int) (hN : 0 ≤ N ∧ N < 1000000) (hG : goodT N (B, S, K, T)) (hx : isX k h (B, S, K, T) xs)   : ∀ sz, Met l yL_hangs (zW yL_hangs cL_hangs 15 (some .boolean)) ({ frames := 10, cells := 1, slots := 9, locals := 300 } : Room) (va_Pc [.ref h] (zIn D k sz xs)) (va_Qi (fun (r : Int32) (u : va_W) => r = nZ 1 ∧ isX k h (B, S, K, T) u) (fun u => zOut D (va_A xs sz) u) (va_A xs sz)) 1 9 (va_A xs sz) := by
  intro sz
  refine zEnter (Qf := fun A => va_Qi (fun (r : Int32) (u : va_W) => r = nZ 1 ∧ isX k h (B, S, K, T) u) (fun u => zOut D A u) A) RL (by decide) rfl (Nat.le_of_ble_eq_true rfl) ?_
  intro p9 e9 s9 m9 be9 me9 c9 ls A X hin hP hD hS hA hAe hl
  have hX := X.1; have hB := X.2.1; have hz := X.2.2.2.2.1; have hW := X.2.2.2.2.2.1; have hK := X.2.2.2.2.2.2.2; clear hAe; clear hin
  have hl : lv_has ls 15 [(0, .ref h)] := hl
  have hBg : bdGood B := hG.1.1
  obtain ⟨w0, w1, w2, w3, w4, hC0, hC1, hC2⟩ := id hBg
  have hxt : xtraB N B := hG.2.1
  refine lv_iconst (v := nZ 0) hX hB dL_hangs_0 rfl ?_
  refine lv_istore_n (lv' := [(1, .int (nZ 0)), (0, .ref h)]) hX hB dL_hangs_1 rfl hl (by decide) rfl (fun ls hl => ?_)
  refine lv_iconst (v := nZ 0) hX hB dL_hangs_2 rfl ?_
  refine lv_istore_n (lv' := [(2, .int (nZ 0)), (1, .int (nZ 0)), (0, .ref h)]) hX hB dL_hangs_3 rfl hl (by decide) rfl (fun ls hl => ?_)
  refine lv_bipush (v := nZ 9) hX hB dL_hangs_4 (by decide) ?_
  refine zz_newa_int X hP hD hS hA (hz _ zw_30) 9 (by decide) (Nat.le_of_ble_eq_true rfl) (Nat.le_of_ble_eq_true rfl) dL_hangs_6 (fun q6 H hP hD hS => ?_)
  have hP := zPerm_P hP zn2.symm
  have hD := zPerm_D hD zn2.symm
  have hP : va_P D vwCl ((q6, .inl (k 0, 9, .inl (zA (fun _ => 0)))) :: xs) H := hP
  have hD : va_D A ((q6, .inl (k 0, 9, .inl (zA (fun _ => 0)))) :: xs) := hD
  refine W.widen (k := 1) (n := 9) (by decide) (by decide) ?_
  refine lv_astore_n (lv' := [(3, .ref q6), (2, .int (nZ 0)), (1, .int (nZ 0)), (0, .ref h)]) hX hB dL_hangs_8 rfl hl (by decide) rfl (fun ls hl => ?_)
  refine lv_iconst (v := nZ 0) hX hB dL_hangs_9 rfl ?_
  refine lv_istore (lv' := [(4, .int (nZ 0)), (3, .ref q6), (2, .int (nZ 0)), (1, .int (nZ 0)), (0, .ref h)]) hX hB dL_hangs_10 hl (by decide) rfl (fun ls hl => ?_)
  refine zLoop (σ := Nat × Int × Int × (Nat → Int) × va_W) (fun (x : Nat × Int × Int × (Nat → Int) × va_W) (H : Heap) (locs : List Loc) (ls : Array Slot) => match x with | (ln, cn, cl, g, xs) => (ln ≤ 3) ∧ (cn = sumTo (fun j => ((B.2 j).length : Int)) ln) ∧ (cl = sumTo (fun j => cleanAllS (B.2 j)) ln) ∧ (∀ b : Nat, b < 9 → g b = sumTo (fun j => cleanS (b : Int) (B.2 j)) ln) ∧ (isX k h (B, S, K, T) xs) ∧ va_P D vwCl ((q6, .inl (k 0, 9, .inl (zA g))) :: xs) H ∧ va_D A ((q6, .inl (k 0, 9, .inl (zA g))) :: xs) ∧ va_S A s9.heap H locs ∧ lv_has ls 15 [(0, .ref h), (1, .int (nZ cn)), (2, .int (nZ cl)), (3, .ref q6), (4, .int (nZ (↑ln : Int)))]) (fun (x : Nat × Int × Int × (Nat → Int) × va_W) => match x with | (ln, cn, cl, g, xs) => 3 - ln) ?_ (0, 0, 0, (fun _ => 0), xs) ⟨(by omega), (by rfl), (by rfl), (by exact fun b hb => rfl), (by exact hx), hP, hD, hS, (lv_sub hl [4, 3, 2, 1, 0] rfl)⟩
  rintro ⟨ln, cn, cl, g, xs⟩ H locs ls ⟨hln, hcn, hcl, hg, hx, hP, hD, hS, hl⟩ ih_12
  refine lv_iload hX hB dL_hangs_12 (lv_at hl 4 rfl) ?_
  refine lv_iconst (v := nZ 3) hX hB dL_hangs_14 rfl ?_
  refine zz_icmp_ge X (tgt := 181) dL_hangs_15 (by decide) ⟨by omega, by omega⟩ ⟨by omega, by omega⟩ (fun c_15 => ?_) (fun c_15 => ?_)
  · have e3 : ln = 3 := by omega
    rw [e3] at hcn hcl hg
    have hcn2 : coinsB B = cn := by rw [hcn]; simp only [sumTo, coinsB]; omega
    have hcl2 : cleanAllB B = cl := by rw [hcl]; simp only [sumTo, cleanAllB]; omega
    have hg3 : ∀ b : Nat, b < 9 → g b = cleanB B (b : Int) := by intro b hb; rw [hg b hb]; simp only [sumTo, cleanB]; omega
    refine lv_iconst (v := nZ 0) hX hB dL_hangs_181 rfl ?_
    refine lv_istore (lv' := [(4, .int (nZ 0)), (0, .ref h), (1, .int (nZ cn)), (2, .int (nZ cl)), (3, .ref q6)]) hX hB dL_hangs_182 hl (by decide) rfl (fun ls hl => ?_)
    refine lv_iconst (v := nZ 0) hX hB dL_hangs_184 rfl ?_
    refine lv_istore (lv' := [(5, .int (nZ 0)), (4, .int (nZ 0)), (0, .ref h), (1, .int (nZ cn)), (2, .int (nZ cl)), (3, .ref q6)]) hX hB dL_hangs_185 hl (by decide) rfl (fun ls hl => ?_)
    refine lv_iconst (v := nZ 1) hX hB dL_hangs_187 rfl ?_
    refine lv_istore (lv' := [(6, .int (nZ 1)), (5, .int (nZ 0)), (4, .int (nZ 0)), (0, .ref h), (1, .int (nZ cn)), (2, .int (nZ cl)), (3, .ref q6)]) hX hB dL_hangs_188 hl (by decide) rfl (fun ls hl => ?_)
    refine lv_iconst (v := nZ 1) hX hB dL_hangs_190 rfl ?_
    refine lv_istore (lv' := [(7, .int (nZ 1)), (6, .int (nZ 1)), (5, .int (nZ 0)), (4, .int (nZ 0)), (0, .ref h), (1, .int (nZ cn)), (2, .int (nZ cl)), (3, .ref q6)]) hX hB dL_hangs_191 hl (by decide) rfl (fun ls hl => ?_)
    refine lv_iconst (v := nZ 0) hX hB dL_hangs_193 rfl ?_
    refine lv_istore (lv' := [(8, .int (nZ 0)), (7, .int (nZ 1)), (6, .int (nZ 1)), (5, .int (nZ 0)), (4, .int (nZ 0)), (0, .ref h), (1, .int (nZ cn)), (2, .int (nZ cl)), (3, .ref q6)]) hX hB dL_hangs_194 hl (by decide) rfl (fun ls hl => ?_)
    refine zLoop (σ := Nat × Int × Int × Int × Int × va_W) (fun (x : Nat × Int × Int × Int × Int × va_W) (H : Heap) (locs : List Loc) (ls : Array Slot) => match x with | (bd, s1, s2, w1, w2, xs) => (bd ≤ 9) ∧ (s1 = sumTo (fun b => chB B (0 * 9 + (b : Int)).toNat) bd) ∧ (s2 = sumTo (fun b => chB B (1 * 9 + (b : Int)).toNat) bd) ∧ ((w1 = 1 ∧ s1 = 3 * (bd : Int)) ∨ (w1 = 0 ∧ s1 < 3 * (bd : Int))) ∧ ((w2 = 1 ∧ s2 = 3 * (bd : Int)) ∨ (w2 = 0 ∧ s2 < 3 * (bd : Int))) ∧ (0 ≤ s1 ∧ s1 ≤ 3 * (bd : Int)) ∧ (0 ≤ s2 ∧ s2 ≤ 3 * (bd : Int)) ∧ (isX k h (B, S, K, T) xs) ∧ va_P D vwCl ((q6, .inl (k 0, 9, .inl (zA g))) :: xs) H ∧ va_D A ((q6, .inl (k 0, 9, .inl (zA g))) :: xs) ∧ va_S A s9.heap H locs ∧ lv_has ls 15 [(0, .ref h), (1, .int (nZ cn)), (2, .int (nZ cl)), (3, .ref q6), (4, .int (nZ s1)), (5, .int (nZ s2)), (6, .int (nZ w1)), (7, .int (nZ w2)), (8, .int (nZ (↑bd : Int)))]) (fun (x : Nat × Int × Int × Int × Int × va_W) => match x with | (bd, s1, s2, w1, w2, xs) => 9 - bd) ?_ (0, 0, 0, 1, 1, xs) ⟨(by omega), (by rfl), (by rfl), (by exact Or.inl ⟨rfl, rfl⟩), (by exact Or.inl ⟨rfl, rfl⟩), (by exact ⟨by decide, by decide⟩), (by exact ⟨by decide, by decide⟩), (by exact hx), hP, hD, hS, (lv_sub hl [5, 6, 7, 8, 4, 3, 2, 1, 0] rfl)⟩
    rintro ⟨bd, s1, s2, w1, w2, xs⟩ H locs ls ⟨hbd, hs1, hs2, hw1, hw2, hr1, hr2, hx, hP, hD, hS, hl⟩ ih_196
    refine lv_iload hX hB dL_hangs_196 (lv_at hl 8 rfl) ?_
    refine lv_bipush (v := nZ 9) hX hB dL_hangs_198 (by decide) ?_
    refine zz_icmp_ge X (tgt := 423) dL_hangs_200 (by decide) ⟨by omega, by omega⟩ ⟨by omega, by omega⟩ (fun c_200 => ?_) (fun c_200 => ?_)
    · have e9 : bd = 9 := by omega
      rw [e9] at hs1 hs2 hw1 hw2
      have hs1 : chSum (chB B) 0 = s1 := hs1.symm
      have hs2 : chSum (chB B) 1 = s2 := hs2.symm
      have hch9 : chalksB B = s1 + s2 := by unfold chalksB; rw [hs1, hs2]
      have hx0 := hxt.2.1; have hx1 := hxt.2.2.1; have hx2 := hxt.2.2.2; have hx4 := hxt.1
      rw [hs1, hs2] at hx0; rw [hs1] at hx1; rw [hs2] at hx2
      refine lv_aload_n hX hB dL_hangs_423 rfl (lv_at hl 0 rfl) ?_
      refine lv_iconst (v := nZ 2) hX hB dL_hangs_424 rfl ?_
      refine zc2n (zRunW (As := [.ref h, .int (nZ 2)]) X mw_count (wc_count l D k h B S K T xs hG.1 hx 2 ⟨by omega, by omega⟩ cn (hcn2)  _) zw_130 (zPre2 hP hD hK) rfl hl (Nat.le_of_ble_eq_true rfl) dL_hangs_425 ⟨rfl, rfl, ⟨Nat.le_of_ble_eq_true rfl, Nat.le_of_ble_eq_true rfl⟩, Nat.le_of_ble_eq_true rfl, Nat.le_of_ble_eq_true rfl⟩ rfl) hS hP hD hA (fun r xs H locs hpost hP hD hS => ?_)
      obtain ⟨rfl, hx⟩ := hpost
      refine lv_iload_n hX hB dL_hangs_428 rfl (lv_at hl 1 rfl) ?_
      refine zs_ne X (rfl) (tgt := 483) dL_hangs_429 (by decide) ?_
      refine lv_aload_n hX hB dL_hangs_432 rfl (lv_at hl 0 rfl) ?_
      refine lv_iconst (v := nZ 3) hX hB dL_hangs_433 rfl ?_
      refine zc2n (zRunW (As := [.ref h, .int (nZ 3)]) X mw_count (wc_count l D k h B S K T xs hG.1 hx 3 ⟨by omega, by omega⟩ cl (hcl2)  _) zw_130 (zPre2 hP hD hK) rfl hl (Nat.le_of_ble_eq_true rfl) dL_hangs_434 ⟨rfl, rfl, ⟨Nat.le_of_ble_eq_true rfl, Nat.le_of_ble_eq_true rfl⟩, Nat.le_of_ble_eq_true rfl, Nat.le_of_ble_eq_true rfl⟩ rfl) hS hP hD hA (fun r xs H locs hpost hP hD hS => ?_)
      obtain ⟨rfl, hx⟩ := hpost
      refine lv_iload_n hX hB dL_hangs_437 rfl (lv_at hl 2 rfl) ?_
      refine zs_ne X (rfl) (tgt := 483) dL_hangs_438 (by decide) ?_
      refine lv_aload_n hX hB dL_hangs_441 rfl (lv_at hl 0 rfl) ?_
      refine lv_iconst (v := nZ 4) hX hB dL_hangs_442 rfl ?_
      refine zc2n (zRunW (As := [.ref h, .int (nZ 4)]) X mw_count (wc_count l D k h B S K T xs hG.1 hx 4 ⟨by omega, by omega⟩ s1 (hs1)  _) zw_130 (zPre2 hP hD hK) rfl hl (Nat.le_of_ble_eq_true rfl) dL_hangs_443 ⟨rfl, rfl, ⟨Nat.le_of_ble_eq_true rfl, Nat.le_of_ble_eq_true rfl⟩, Nat.le_of_ble_eq_true rfl, Nat.le_of_ble_eq_true rfl⟩ rfl) hS hP hD hA (fun r xs H locs hpost hP hD hS => ?_)
      obtain ⟨rfl, hx⟩ := hpost
      refine lv_iload hX hB dL_hangs_446 (lv_at hl 4 rfl) ?_
      refine zs_ne X (rfl) (tgt := 483) dL_hangs_448 (by decide) ?_
      refine lv_aload_n hX hB dL_hangs_451 rfl (lv_at hl 0 rfl) ?_
      refine lv_iconst (v := nZ 5) hX hB dL_hangs_452 rfl ?_
      refine zc2n (zRunW (As := [.ref h, .int (nZ 5)]) X mw_count (wc_count l D k h B S K T xs hG.1 hx 5 ⟨by omega, by omega⟩ s2 (hs2)  _) zw_130 (zPre2 hP hD hK) rfl hl (Nat.le_of_ble_eq_true rfl) dL_hangs_453 ⟨rfl, rfl, ⟨Nat.le_of_ble_eq_true rfl, Nat.le_of_ble_eq_true rfl⟩, Nat.le_of_ble_eq_true rfl, Nat.le_of_ble_eq_true rfl⟩ rfl) hS hP hD hA (fun r xs H locs hpost hP hD hS => ?_)
      obtain ⟨rfl, hx⟩ := hpost
      refine lv_iload hX hB dL_hangs_456 (lv_at hl 5 rfl) ?_
      refine zs_ne X (rfl) (tgt := 483) dL_hangs_458 (by decide) ?_
      refine lv_aload_n hX hB dL_hangs_461 rfl (lv_at hl 0 rfl) ?_
      refine zcD2n (zRunV (As := []) X mv_X6_fullness (wb_fullness l D k h B S K T xs hG.1 hx  (zShare (s1 + s2)) (by rw [hch9])  _) zw_149 (zPreV2 hP hD hK hx rfl) rfl hl (Nat.le_of_ble_eq_true rfl) dL_hangs_462 ⟨rfl, rfl, ⟨Nat.le_of_ble_eq_true rfl, Nat.le_of_ble_eq_true rfl⟩, Nat.le_of_ble_eq_true rfl, Nat.le_of_ble_eq_true rfl⟩ rfl) hS hP hD hA (fun r xs H locs hpost hP hD hS => ?_)
      obtain ⟨rfl, hx⟩ := hpost
      refine lv_iload hX hB dL_hangs_465 (lv_at hl 4 rfl) ?_
      refine lv_iload hX hB dL_hangs_467 (lv_at hl 5 rfl) ?_
      refine zz_iadd X dL_hangs_469 (z := (s1 + s2)) (by first | rfl | omega) ?_
      refine lv_i2d hX hB dL_hangs_470 ?_
      have hsh := share_at (chalks_rng w4)
      rw [hch9] at hsh
      refine lv_ldc2d (v := 4632796641680687104) hX hB hW (hz _ zw_70) dL_hangs_471 ?_
      refine lv_ddiv hX hB dL_hangs_474 (hsh.1) ?_
      show W _ _ _ _ _ _ _ _ _ _ _ _ _ _ _ (F0 _ _ _ (.double (zShare (s1 + s2)) :: _))
      refine zz_dcmp X dL_hangs_475 ?_
      refine zz_if_ne X (tgt := 483) dL_hangs_476 (by decide) (zcmp_rng _ _ _) (fun c_476 => absurd hsh.2.1 c_476) (fun c_476 => ?_)
      refine lv_iconst (v := nZ 1) hX hB dL_hangs_479 rfl ?_
      refine lv_goto (tgt := 484) hX hB dL_hangs_480 (by decide) ?_
      refine lv_istore (lv' := [(8, .int (nZ 1)), (0, .ref h), (1, .int (nZ cn)), (2, .int (nZ cl)), (3, .ref q6), (4, .int (nZ s1)), (5, .int (nZ s2)), (6, .int (nZ w1)), (7, .int (nZ w2))]) hX hB dL_hangs_484 hl (by decide) rfl (fun ls hl => ?_)
      refine lv_iload hX hB dL_hangs_486 (lv_at hl 0 rfl) ?_
      refine zz_if_eq X (tgt := 574) dL_hangs_488 (by decide) ⟨by omega, by omega⟩ (fun c_488 => by exfalso; omega) (fun c_488 => ?_)
      refine lv_aload_n hX hB dL_hangs_491 rfl (lv_at hl 1 rfl) ?_
      refine lv_iconst (v := nZ 1) hX hB dL_hangs_492 rfl ?_
      refine zc2n (zRunW (As := [.ref h, .int (nZ 1)]) X mw_count (wc_count l D k h B S K T xs hG.1 hx 1 ⟨by omega, by omega⟩ (B.1 2) (rfl)  _) zw_130 (zPre2 hP hD hK) rfl hl (Nat.le_of_ble_eq_true rfl) dL_hangs_493 ⟨rfl, rfl, ⟨Nat.le_of_ble_eq_true rfl, Nat.le_of_ble_eq_true rfl⟩, Nat.le_of_ble_eq_true rfl, Nat.le_of_ble_eq_true rfl⟩ rfl) hS hP hD hA (fun r xs H locs hpost hP hD hS => ?_)
      obtain ⟨rfl, hx⟩ := hpost
      refine zz_if_lt X (tgt := 574) dL_hangs_496 (by decide) ⟨by omega, by omega⟩ (fun c_496 => by exfalso; omega) (fun c_496 => ?_)
      refine lv_aload_n hX hB dL_hangs_499 rfl (lv_at hl 1 rfl) ?_
      refine lv_iconst (v := nZ 1) hX hB dL_hangs_500 rfl ?_
      refine zc2n (zRunW (As := [.ref h, .int (nZ 1)]) X mw_count (wc_count l D k h B S K T xs hG.1 hx 1 ⟨by omega, by omega⟩ (B.1 2) (rfl)  _) zw_130 (zPre2 hP hD hK) rfl hl (Nat.le_of_ble_eq_true rfl) dL_hangs_501 ⟨rfl, rfl, ⟨Nat.le_of_ble_eq_true rfl, Nat.le_of_ble_eq_true rfl⟩, Nat.le_of_ble_eq_true rfl, Nat.le_of_ble_eq_true rfl⟩ rfl) hS hP hD hA (fun r xs H locs hpost hP hD hS => ?_)
      obtain ⟨rfl, hx⟩ := hpost
      refine lv_iconst (v := nZ 5) hX hB dL_hangs_504 rfl ?_
      refine zz_icmp_ge X (tgt := 574) dL_hangs_505 (by decide) ⟨by omega, by omega⟩ ⟨by omega, by omega⟩ (fun c_505 => by exfalso; omega) (fun c_505 => ?_)
      obtain ⟨wi, hwi⟩ : ∃ v, B.1 3 = v := ⟨_, rfl⟩
      rw [hwi] at w3 hx0 hx1 hx2
      refine lv_aload_n hX hB dL_hangs_508 rfl (lv_at hl 1 rfl) ?_
      refine lv_bipush (v := nZ 6) hX hB dL_hangs_509 (by decide) ?_
      rcases (by omega : wi = 0 ∨ wi = 1 ∨ wi = 2) with rfl | rfl | rfl
      · refine zc2n (zRunW (As := [.ref h, .int (nZ 6)]) X mw_count (wc_count l D k h B S K T xs hG.1 hx 6 ⟨by omega, by omega⟩ 0 (hwi)  _) zw_130 (zPre2 hP hD hK) rfl hl (Nat.le_of_ble_eq_true rfl) dL_hangs_511 ⟨rfl, rfl, ⟨Nat.le_of_ble_eq_true rfl, Nat.le_of_ble_eq_true rfl⟩, Nat.le_of_ble_eq_true rfl, Nat.le_of_ble_eq_true rfl⟩ rfl) hS hP hD hA (fun r xs H locs hpost hP hD hS => ?_)
        obtain ⟨rfl, hx⟩ := hpost
        refine zz_if_le X (tgt := 521) dL_hangs_514 (by decide) ⟨by omega, by omega⟩ (fun c_514 => ?_) (fun c_514 => by exfalso; omega)
        refine lv_iconst (v := nZ 0) hX hB dL_hangs_521 rfl ?_
        refine lv_iload hX hB dL_hangs_522 (lv_at hl 7 rfl) ?_
        refine zz_if_ne X (tgt := 532) dL_hangs_524 (by decide) ⟨by omega, by omega⟩ (fun c_524 => by exfalso; omega) (fun c_524 => ?_)
        refine lv_iload hX hB dL_hangs_527 (lv_at hl 8 rfl) ?_
        refine zz_if_eq X (tgt := 536) dL_hangs_529 (by decide) ⟨by omega, by omega⟩ (fun c_529 => ?_) (fun c_529 => by exfalso; omega)
        refine lv_iconst (v := nZ 0) hX hB dL_hangs_536 rfl ?_
        refine zz_icmp_ne X (tgt := 574) dL_hangs_537 (by decide) ⟨by omega, by omega⟩ ⟨by omega, by omega⟩ (fun c_537 => by exfalso; omega) (fun c_537 => ?_)
        refine lv_aload_n hX hB dL_hangs_540 rfl (lv_at hl 1 rfl) ?_
        refine lv_bipush (v := nZ 6) hX hB dL_hangs_541 (by decide) ?_
        refine zc2n (zRunW (As := [.ref h, .int (nZ 6)]) X mw_count (wc_count l D k h B S K T xs hG.1 hx 6 ⟨by omega, by omega⟩ 0 (hwi)  _) zw_130 (zPre2 hP hD hK) rfl hl (Nat.le_of_ble_eq_true rfl) dL_hangs_543 ⟨rfl, rfl, ⟨Nat.le_of_ble_eq_true rfl, Nat.le_of_ble_eq_true rfl⟩, Nat.le_of_ble_eq_true rfl, Nat.le_of_ble_eq_true rfl⟩ rfl) hS hP hD hA (fun r xs H locs hpost hP hD hS => ?_)
        obtain ⟨rfl, hx⟩ := hpost
        refine lv_iconst (v := nZ 1) hX hB dL_hangs_546 rfl ?_
        refine zz_icmp_ne X (tgt := 555) dL_hangs_547 (by decide) ⟨by omega, by omega⟩ ⟨by omega, by omega⟩ (fun c_547 => ?_) (fun c_547 => by exfalso; omega)
        refine lv_aload_n hX hB dL_hangs_555 rfl (lv_at hl 1 rfl) ?_
        refine lv_bipush (v := nZ 6) hX hB dL_hangs_556 (by decide) ?_
        refine zc2n (zRunW (As := [.ref h, .int (nZ 6)]) X mw_count (wc_count l D k h B S K T xs hG.1 hx 6 ⟨by omega, by omega⟩ 0 (hwi)  _) zw_130 (zPre2 hP hD hK) rfl hl (Nat.le_of_ble_eq_true rfl) dL_hangs_558 ⟨rfl, rfl, ⟨Nat.le_of_ble_eq_true rfl, Nat.le_of_ble_eq_true rfl⟩, Nat.le_of_ble_eq_true rfl, Nat.le_of_ble_eq_true rfl⟩ rfl) hS hP hD hA (fun r xs H locs hpost hP hD hS => ?_)
        obtain ⟨rfl, hx⟩ := hpost
        refine lv_iconst (v := nZ 2) hX hB dL_hangs_561 rfl ?_
        refine zz_icmp_ne X (tgt := 570) dL_hangs_562 (by decide) ⟨by omega, by omega⟩ ⟨by omega, by omega⟩ (fun c_562 => ?_) (fun c_562 => by exfalso; omega)
        refine lv_iconst (v := nZ 1) hX hB dL_hangs_570 rfl ?_
        refine lv_goto (tgt := 575) hX hB dL_hangs_571 (by decide) ?_
        refine lv_istore (lv' := [(8, .int (nZ 1)), (0, .ref h), (1, .int (nZ cn)), (2, .int (nZ cl)), (3, .ref q6), (4, .int (nZ s1)), (5, .int (nZ s2)), (6, .int (nZ w1)), (7, .int (nZ w2))]) hX hB dL_hangs_575 hl (by decide) rfl (fun ls hl => ?_)
        refine lv_iload hX hB dL_hangs_577 (lv_at hl 0 rfl) ?_
        refine zz_if_eq X (tgt := 611) dL_hangs_579 (by decide) ⟨by omega, by omega⟩ (fun c_579 => by exfalso; omega) (fun c_579 => ?_)
        refine lv_aload_n hX hB dL_hangs_582 rfl (lv_at hl 1 rfl) ?_
        refine lv_bipush (v := nZ 6) hX hB dL_hangs_583 (by decide) ?_
        refine zc2n (zRunW (As := [.ref h, .int (nZ 6)]) X mw_count (wc_count l D k h B S K T xs hG.1 hx 6 ⟨by omega, by omega⟩ 0 (hwi)  _) zw_130 (zPre2 hP hD hK) rfl hl (Nat.le_of_ble_eq_true rfl) dL_hangs_585 ⟨rfl, rfl, ⟨Nat.le_of_ble_eq_true rfl, Nat.le_of_ble_eq_true rfl⟩, Nat.le_of_ble_eq_true rfl, Nat.le_of_ble_eq_true rfl⟩ rfl) hS hP hD hA (fun r xs H locs hpost hP hD hS => ?_)
        obtain ⟨rfl, hx⟩ := hpost
        refine zz_if_gt X (tgt := 607) dL_hangs_588 (by decide) ⟨by omega, by omega⟩ (fun c_588 => by exfalso; omega) (fun c_588 => ?_)
        refine lv_aload_n hX hB dL_hangs_591 rfl (lv_at hl 1 rfl) ?_
        refine lv_iconst (v := nZ 0) hX hB dL_hangs_592 rfl ?_
        refine zc2n (zRunW (As := [.ref h, .int (nZ 0)]) X mw_count (wc_count l D k h B S K T xs hG.1 hx 0 ⟨by omega, by omega⟩ (B.1 1) (rfl)  _) zw_130 (zPre2 hP hD hK) rfl hl (Nat.le_of_ble_eq_true rfl) dL_hangs_593 ⟨rfl, rfl, ⟨Nat.le_of_ble_eq_true rfl, Nat.le_of_ble_eq_true rfl⟩, Nat.le_of_ble_eq_true rfl, Nat.le_of_ble_eq_true rfl⟩ rfl) hS hP hD hA (fun r xs H locs hpost hP hD hS => ?_)
        obtain ⟨rfl, hx⟩ := hpost
        refine lv_aload_n hX hB dL_hangs_596 rfl (lv_at hl 1 rfl) ?_
        refine lv_bipush (v := nZ 7) hX hB dL_hangs_597 (by decide) ?_
        refine zc2n (zRunW (As := [.ref h, .int (nZ 7)]) X mw_count (wc_count l D k h B S K T xs hG.1 hx 7 ⟨by omega, by omega⟩ (B.1 4) (rfl)  _) zw_130 (zPre2 hP hD hK) rfl hl (Nat.le_of_ble_eq_true rfl) dL_hangs_599 ⟨rfl, rfl, ⟨Nat.le_of_ble_eq_true rfl, Nat.le_of_ble_eq_true rfl⟩, Nat.le_of_ble_eq_true rfl, Nat.le_of_ble_eq_true rfl⟩ rfl) hS hP hD hA (fun r xs H locs hpost hP hD hS => ?_)
        obtain ⟨rfl, hx⟩ := hpost
        refine lv_iconst (v := nZ 2) hX hB dL_hangs_602 rfl ?_
        refine zz_irem X dL_hangs_603 (z := ((B.1 4) % 2)) (by first | rfl | omega) ⟨by omega, by omega, by omega, by omega⟩ ?_
        refine zs_ne X (by have := hx0 rfl; omega) (tgt := 611) dL_hangs_604 (by decide) ?_
        refine lv_iconst (v := nZ 1) hX hB dL_hangs_607 rfl ?_
        refine lv_goto (tgt := 612) hX hB dL_hangs_608 (by decide) ?_
        obtain ⟨hP, hD⟩ := zDrop hP hD
        exact zRetZ xs X hP hD hS (Or.inr rfl) rfl ⟨rfl, hx⟩ dL_hangs_612
      · refine zc2n (zRunW (As := [.ref h, .int (nZ 6)]) X mw_count (wc_count l D k h B S K T xs hG.1 hx 6 ⟨by omega, by omega⟩ 1 (hwi)  _) zw_130 (zPre2 hP hD hK) rfl hl (Nat.le_of_ble_eq_true rfl) dL_hangs_511 ⟨rfl, rfl, ⟨Nat.le_of_ble_eq_true rfl, Nat.le_of_ble_eq_true rfl⟩, Nat.le_of_ble_eq_true rfl, Nat.le_of_ble_eq_true rfl⟩ rfl) hS hP hD hA (fun r xs H locs hpost hP hD hS => ?_)
        obtain ⟨rfl, hx⟩ := hpost
        refine zz_if_le X (tgt := 521) dL_hangs_514 (by decide) ⟨by omega, by omega⟩ (fun c_514 => by exfalso; omega) (fun c_514 => ?_)
        refine lv_iconst (v := nZ 1) hX hB dL_hangs_517 rfl ?_
        refine lv_goto (tgt := 522) hX hB dL_hangs_518 (by decide) ?_
        refine lv_iload hX hB dL_hangs_522 (lv_at hl 7 rfl) ?_
        refine zz_if_ne X (tgt := 532) dL_hangs_524 (by decide) ⟨by omega, by omega⟩ (fun c_524 => ?_) (fun c_524 => by exfalso; omega)
        refine lv_iconst (v := nZ 1) hX hB dL_hangs_532 rfl ?_
        refine lv_goto (tgt := 537) hX hB dL_hangs_533 (by decide) ?_
        refine zz_icmp_ne X (tgt := 574) dL_hangs_537 (by decide) ⟨by omega, by omega⟩ ⟨by omega, by omega⟩ (fun c_537 => by exfalso; omega) (fun c_537 => ?_)
        refine lv_aload_n hX hB dL_hangs_540 rfl (lv_at hl 1 rfl) ?_
        refine lv_bipush (v := nZ 6) hX hB dL_hangs_541 (by decide) ?_
        refine zc2n (zRunW (As := [.ref h, .int (nZ 6)]) X mw_count (wc_count l D k h B S K T xs hG.1 hx 6 ⟨by omega, by omega⟩ 1 (hwi)  _) zw_130 (zPre2 hP hD hK) rfl hl (Nat.le_of_ble_eq_true rfl) dL_hangs_543 ⟨rfl, rfl, ⟨Nat.le_of_ble_eq_true rfl, Nat.le_of_ble_eq_true rfl⟩, Nat.le_of_ble_eq_true rfl, Nat.le_of_ble_eq_true rfl⟩ rfl) hS hP hD hA (fun r xs H locs hpost hP hD hS => ?_)
        obtain ⟨rfl, hx⟩ := hpost
        refine lv_iconst (v := nZ 1) hX hB dL_hangs_546 rfl ?_
        refine zz_icmp_ne X (tgt := 555) dL_hangs_547 (by decide) ⟨by omega, by omega⟩ ⟨by omega, by omega⟩ (fun c_547 => by exfalso; omega) (fun c_547 => ?_)
        refine lv_iload hX hB dL_hangs_550 (lv_at hl 7 rfl) ?_
        refine zz_if_eq X (tgt := 574) dL_hangs_552 (by decide) ⟨by omega, by omega⟩ (fun c_552 => by exfalso; omega) (fun c_552 => ?_)
        refine lv_aload_n hX hB dL_hangs_555 rfl (lv_at hl 1 rfl) ?_
        refine lv_bipush (v := nZ 6) hX hB dL_hangs_556 (by decide) ?_
        refine zc2n (zRunW (As := [.ref h, .int (nZ 6)]) X mw_count (wc_count l D k h B S K T xs hG.1 hx 6 ⟨by omega, by omega⟩ 1 (hwi)  _) zw_130 (zPre2 hP hD hK) rfl hl (Nat.le_of_ble_eq_true rfl) dL_hangs_558 ⟨rfl, rfl, ⟨Nat.le_of_ble_eq_true rfl, Nat.le_of_ble_eq_true rfl⟩, Nat.le_of_ble_eq_true rfl, Nat.le_of_ble_eq_true rfl⟩ rfl) hS hP hD hA (fun r xs H locs hpost hP hD hS => ?_)
        obtain ⟨rfl, hx⟩ := hpost
        refine lv_iconst (v := nZ 2) hX hB dL_hangs_561 rfl ?_
        refine zz_icmp_ne X (tgt := 570) dL_hangs_562 (by decide) ⟨by omega, by omega⟩ ⟨by omega, by omega⟩ (fun c_562 => ?_) (fun c_562 => by exfalso; omega)
        refine lv_iconst (v := nZ 1) hX hB dL_hangs_570 rfl ?_
        refine lv_goto (tgt := 575) hX hB dL_hangs_571 (by decide) ?_
        refine lv_istore (lv' := [(8, .int (nZ 1)), (0, .ref h), (1, .int (nZ cn)), (2, .int (nZ cl)), (3, .ref q6), (4, .int (nZ s1)), (5, .int (nZ s2)), (6, .int (nZ w1)), (7, .int (nZ w2))]) hX hB dL_hangs_575 hl (by decide) rfl (fun ls hl => ?_)
        refine lv_iload hX hB dL_hangs_577 (lv_at hl 0 rfl) ?_
        refine zz_if_eq X (tgt := 611) dL_hangs_579 (by decide) ⟨by omega, by omega⟩ (fun c_579 => by exfalso; omega) (fun c_579 => ?_)
        refine lv_aload_n hX hB dL_hangs_582 rfl (lv_at hl 1 rfl) ?_
        refine lv_bipush (v := nZ 6) hX hB dL_hangs_583 (by decide) ?_
        refine zc2n (zRunW (As := [.ref h, .int (nZ 6)]) X mw_count (wc_count l D k h B S K T xs hG.1 hx 6 ⟨by omega, by omega⟩ 1 (hwi)  _) zw_130 (zPre2 hP hD hK) rfl hl (Nat.le_of_ble_eq_true rfl) dL_hangs_585 ⟨rfl, rfl, ⟨Nat.le_of_ble_eq_true rfl, Nat.le_of_ble_eq_true rfl⟩, Nat.le_of_ble_eq_true rfl, Nat.le_of_ble_eq_true rfl⟩ rfl) hS hP hD hA (fun r xs H locs hpost hP hD hS => ?_)
        obtain ⟨rfl, hx⟩ := hpost
        refine zz_if_gt X (tgt := 607) dL_hangs_588 (by decide) ⟨by omega, by omega⟩ (fun c_588 => ?_) (fun c_588 => by exfalso; omega)
        refine lv_iconst (v := nZ 1) hX hB dL_hangs_607 rfl ?_
        refine lv_goto (tgt := 612) hX hB dL_hangs_608 (by decide) ?_
        obtain ⟨hP, hD⟩ := zDrop hP hD
        exact zRetZ xs X hP hD hS (Or.inr rfl) rfl ⟨rfl, hx⟩ dL_hangs_612
      · refine zc2n (zRunW (As := [.ref h, .int (nZ 6)]) X mw_count (wc_count l D k h B S K T xs hG.1 hx 6 ⟨by omega, by omega⟩ 2 (hwi)  _) zw_130 (zPre2 hP hD hK) rfl hl (Nat.le_of_ble_eq_true rfl) dL_hangs_511 ⟨rfl, rfl, ⟨Nat.le_of_ble_eq_true rfl, Nat.le_of_ble_eq_true rfl⟩, Nat.le_of_ble_eq_true rfl, Nat.le_of_ble_eq_true rfl⟩ rfl) hS hP hD hA (fun r xs H locs hpost hP hD hS => ?_)
        obtain ⟨rfl, hx⟩ := hpost
        refine zz_if_le X (tgt := 521) dL_hangs_514 (by decide) ⟨by omega, by omega⟩ (fun c_514 => by exfalso; omega) (fun c_514 => ?_)
        refine lv_iconst (v := nZ 1) hX hB dL_hangs_517 rfl ?_
        refine lv_goto (tgt := 522) hX hB dL_hangs_518 (by decide) ?_
        refine lv_iload hX hB dL_hangs_522 (lv_at hl 7 rfl) ?_
        refine zz_if_ne X (tgt := 532) dL_hangs_524 (by decide) ⟨by omega, by omega⟩ (fun c_524 => ?_) (fun c_524 => ?_)
        · refine lv_iconst (v := nZ 1) hX hB dL_hangs_532 rfl ?_
          refine lv_goto (tgt := 537) hX hB dL_hangs_533 (by decide) ?_
          refine zz_icmp_ne X (tgt := 574) dL_hangs_537 (by decide) ⟨by omega, by omega⟩ ⟨by omega, by omega⟩ (fun c_537 => by exfalso; omega) (fun c_537 => ?_)
          refine lv_aload_n hX hB dL_hangs_540 rfl (lv_at hl 1 rfl) ?_
          refine lv_bipush (v := nZ 6) hX hB dL_hangs_541 (by decide) ?_
          refine zc2n (zRunW (As := [.ref h, .int (nZ 6)]) X mw_count (wc_count l D k h B S K T xs hG.1 hx 6 ⟨by omega, by omega⟩ 2 (hwi)  _) zw_130 (zPre2 hP hD hK) rfl hl (Nat.le_of_ble_eq_true rfl) dL_hangs_543 ⟨rfl, rfl, ⟨Nat.le_of_ble_eq_true rfl, Nat.le_of_ble_eq_true rfl⟩, Nat.le_of_ble_eq_true rfl, Nat.le_of_ble_eq_true rfl⟩ rfl) hS hP hD hA (fun r xs H locs hpost hP hD hS => ?_)
          obtain ⟨rfl, hx⟩ := hpost
          refine lv_iconst (v := nZ 1) hX hB dL_hangs_546 rfl ?_
          refine zz_icmp_ne X (tgt := 555) dL_hangs_547 (by decide) ⟨by omega, by omega⟩ ⟨by omega, by omega⟩ (fun c_547 => ?_) (fun c_547 => by exfalso; omega)
          refine lv_aload_n hX hB dL_hangs_555 rfl (lv_at hl 1 rfl) ?_
          refine lv_bipush (v := nZ 6) hX hB dL_hangs_556 (by decide) ?_
          refine zc2n (zRunW (As := [.ref h, .int (nZ 6)]) X mw_count (wc_count l D k h B S K T xs hG.1 hx 6 ⟨by omega, by omega⟩ 2 (hwi)  _) zw_130 (zPre2 hP hD hK) rfl hl (Nat.le_of_ble_eq_true rfl) dL_hangs_558 ⟨rfl, rfl, ⟨Nat.le_of_ble_eq_true rfl, Nat.le_of_ble_eq_true rfl⟩, Nat.le_of_ble_eq_true rfl, Nat.le_of_ble_eq_true rfl⟩ rfl) hS hP hD hA (fun r xs H locs hpost hP hD hS => ?_)
          obtain ⟨rfl, hx⟩ := hpost
          refine lv_iconst (v := nZ 2) hX hB dL_hangs_561 rfl ?_
          refine zz_icmp_ne X (tgt := 570) dL_hangs_562 (by decide) ⟨by omega, by omega⟩ ⟨by omega, by omega⟩ (fun c_562 => by exfalso; omega) (fun c_562 => ?_)
          refine lv_iload hX hB dL_hangs_565 (lv_at hl 8 rfl) ?_
          refine zz_if_eq X (tgt := 574) dL_hangs_567 (by decide) ⟨by omega, by omega⟩ (fun c_567 => by exfalso; omega) (fun c_567 => ?_)
          refine lv_iconst (v := nZ 1) hX hB dL_hangs_570 rfl ?_
          refine lv_goto (tgt := 575) hX hB dL_hangs_571 (by decide) ?_
          refine lv_istore (lv' := [(8, .int (nZ 1)), (0, .ref h), (1, .int (nZ cn)), (2, .int (nZ cl)), (3, .ref q6), (4, .int (nZ s1)), (5, .int (nZ s2)), (6, .int (nZ w1)), (7, .int (nZ w2))]) hX hB dL_hangs_575 hl (by decide) rfl (fun ls hl => ?_)
          refine lv_iload hX hB dL_hangs_577 (lv_at hl 0 rfl) ?_
          refine zz_if_eq X (tgt := 611) dL_hangs_579 (by decide) ⟨by omega, by omega⟩ (fun c_579 => by exfalso; omega) (fun c_579 => ?_)
          refine lv_aload_n hX hB dL_hangs_582 rfl (lv_at hl 1 rfl) ?_
          refine lv_bipush (v := nZ 6) hX hB dL_hangs_583 (by decide) ?_
          refine zc2n (zRunW (As := [.ref h, .int (nZ 6)]) X mw_count (wc_count l D k h B S K T xs hG.1 hx 6 ⟨by omega, by omega⟩ 2 (hwi)  _) zw_130 (zPre2 hP hD hK) rfl hl (Nat.le_of_ble_eq_true rfl) dL_hangs_585 ⟨rfl, rfl, ⟨Nat.le_of_ble_eq_true rfl, Nat.le_of_ble_eq_true rfl⟩, Nat.le_of_ble_eq_true rfl, Nat.le_of_ble_eq_true rfl⟩ rfl) hS hP hD hA (fun r xs H locs hpost hP hD hS => ?_)
          obtain ⟨rfl, hx⟩ := hpost
          refine zz_if_gt X (tgt := 607) dL_hangs_588 (by decide) ⟨by omega, by omega⟩ (fun c_588 => ?_) (fun c_588 => by exfalso; omega)
          refine lv_iconst (v := nZ 1) hX hB dL_hangs_607 rfl ?_
          refine lv_goto (tgt := 612) hX hB dL_hangs_608 (by decide) ?_
          obtain ⟨hP, hD⟩ := zDrop hP hD
          exact zRetZ xs X hP hD hS (Or.inr rfl) rfl ⟨rfl, hx⟩ dL_hangs_612
        · refine lv_iload hX hB dL_hangs_527 (lv_at hl 8 rfl) ?_
          refine zz_if_eq X (tgt := 536) dL_hangs_529 (by decide) ⟨by omega, by omega⟩ (fun c_529 => by exfalso; omega) (fun c_529 => ?_)
          refine lv_iconst (v := nZ 1) hX hB dL_hangs_532 rfl ?_
          refine lv_goto (tgt := 537) hX hB dL_hangs_533 (by decide) ?_
          refine zz_icmp_ne X (tgt := 574) dL_hangs_537 (by decide) ⟨by omega, by omega⟩ ⟨by omega, by omega⟩ (fun c_537 => by exfalso; omega) (fun c_537 => ?_)
          refine lv_aload_n hX hB dL_hangs_540 rfl (lv_at hl 1 rfl) ?_
          refine lv_bipush (v := nZ 6) hX hB dL_hangs_541 (by decide) ?_
          refine zc2n (zRunW (As := [.ref h, .int (nZ 6)]) X mw_count (wc_count l D k h B S K T xs hG.1 hx 6 ⟨by omega, by omega⟩ 2 (hwi)  _) zw_130 (zPre2 hP hD hK) rfl hl (Nat.le_of_ble_eq_true rfl) dL_hangs_543 ⟨rfl, rfl, ⟨Nat.le_of_ble_eq_true rfl, Nat.le_of_ble_eq_true rfl⟩, Nat.le_of_ble_eq_true rfl, Nat.le_of_ble_eq_true rfl⟩ rfl) hS hP hD hA (fun r xs H locs hpost hP hD hS => ?_)
          obtain ⟨rfl, hx⟩ := hpost
          refine lv_iconst (v := nZ 1) hX hB dL_hangs_546 rfl ?_
          refine zz_icmp_ne X (tgt := 555) dL_hangs_547 (by decide) ⟨by omega, by omega⟩ ⟨by omega, by omega⟩ (fun c_547 => ?_) (fun c_547 => by exfalso; omega)
          refine lv_aload_n hX hB dL_hangs_555 rfl (lv_at hl 1 rfl) ?_
          refine lv_bipush (v := nZ 6) hX hB dL_hangs_556 (by decide) ?_
          refine zc2n (zRunW (As := [.ref h, .int (nZ 6)]) X mw_count (wc_count l D k h B S K T xs hG.1 hx 6 ⟨by omega, by omega⟩ 2 (hwi)  _) zw_130 (zPre2 hP hD hK) rfl hl (Nat.le_of_ble_eq_true rfl) dL_hangs_558 ⟨rfl, rfl, ⟨Nat.le_of_ble_eq_true rfl, Nat.le_of_ble_eq_true rfl⟩, Nat.le_of_ble_eq_true rfl, Nat.le_of_ble_eq_true rfl⟩ rfl) hS hP hD hA (fun r xs H locs hpost hP hD hS => ?_)
          obtain ⟨rfl, hx⟩ := hpost
          refine lv_iconst (v := nZ 2) hX hB dL_hangs_561 rfl ?_
          refine zz_icmp_ne X (tgt := 570) dL_hangs_562 (by decide) ⟨by omega, by omega⟩ ⟨by omega, by omega⟩ (fun c_562 => by exfalso; omega) (fun c_562 => ?_)
          refine lv_iload hX hB dL_hangs_565 (lv_at hl 8 rfl) ?_
          refine zz_if_eq X (tgt := 574) dL_hangs_567 (by decide) ⟨by omega, by omega⟩ (fun c_567 => by exfalso; omega) (fun c_567 => ?_)
          refine lv_iconst (v := nZ 1) hX hB dL_hangs_570 rfl ?_
          refine lv_goto (tgt := 575) hX hB dL_hangs_571 (by decide) ?_
          refine lv_istore (lv' := [(8, .int (nZ 1)), (0, .ref h), (1, .int (nZ cn)), (2, .int (nZ cl)), (3, .ref q6), (4, .int (nZ s1)), (5, .int (nZ s2)), (6, .int (nZ w1)), (7, .int (nZ w2))]) hX hB dL_hangs_575 hl (by decide) rfl (fun ls hl => ?_)
          refine lv_iload hX hB dL_hangs_577 (lv_at hl 0 rfl) ?_
          refine zz_if_eq X (tgt := 611) dL_hangs_579 (by decide) ⟨by omega, by omega⟩ (fun c_579 => by exfalso; omega) (fun c_579 => ?_)
          refine lv_aload_n hX hB dL_hangs_582 rfl (lv_at hl 1 rfl) ?_
          refine lv_bipush (v := nZ 6) hX hB dL_hangs_583 (by decide) ?_
          refine zc2n (zRunW (As := [.ref h, .int (nZ 6)]) X mw_count (wc_count l D k h B S K T xs hG.1 hx 6 ⟨by omega, by omega⟩ 2 (hwi)  _) zw_130 (zPre2 hP hD hK) rfl hl (Nat.le_of_ble_eq_true rfl) dL_hangs_585 ⟨rfl, rfl, ⟨Nat.le_of_ble_eq_true rfl, Nat.le_of_ble_eq_true rfl⟩, Nat.le_of_ble_eq_true rfl, Nat.le_of_ble_eq_true rfl⟩ rfl) hS hP hD hA (fun r xs H locs hpost hP hD hS => ?_)
          obtain ⟨rfl, hx⟩ := hpost
          refine zz_if_gt X (tgt := 607) dL_hangs_588 (by decide) ⟨by omega, by omega⟩ (fun c_588 => ?_) (fun c_588 => by exfalso; omega)
          refine lv_iconst (v := nZ 1) hX hB dL_hangs_607 rfl ?_
          refine lv_goto (tgt := 612) hX hB dL_hangs_608 (by decide) ?_
          obtain ⟨hP, hD⟩ := zDrop hP hD
          exact zRetZ xs X hP hD hS (Or.inr rfl) rfl ⟨rfl, hx⟩ dL_hangs_612
    · have hb9 : 0 ≤ (bd : Int) ∧ (bd : Int) < 9 := by omega
      obtain ⟨c1, hc1⟩ : ∃ v, chB B (0 * 9 + (bd : Int)).toNat = v := ⟨_, rfl⟩
      obtain ⟨c2, hc2⟩ : ∃ v, chB B (1 * 9 + (bd : Int)).toNat = v := ⟨_, rfl⟩
      have hk1 := w4 (0 * 9 + (bd : Int)).toNat (by omega)
      have hk2 := w4 (1 * 9 + (bd : Int)).toNat (by omega)
      rw [hc1] at hk1
      rw [hc2] at hk2
      have hk3 := clean_three hBg hb9
      have hgb := hg3 bd (by omega)
      obtain ⟨cb, hcb⟩ : ∃ v, cleanB B (bd : Int) = v := ⟨_, rfl⟩
      rw [hcb] at hk3 hgb
      obtain ⟨ow, how⟩ : ∃ v, ownR (chB B) (B.1 1) (bd : Int) (cleanB B (bd : Int)) = v := ⟨_, rfl⟩
      obtain ⟨ot, hot⟩ : ∃ v, othR (chB B) (B.1 1) (bd : Int) (cleanB B (bd : Int)) = v := ⟨_, rfl⟩
      have hpl := w1
      refine lv_aload_n hX hB dL_hangs_203 rfl (lv_at hl 0 rfl) ?_
      refine lv_iload hX hB dL_hangs_204 (lv_at hl 8 rfl) ?_
      refine lv_iconst (v := nZ 1) hX hB dL_hangs_206 rfl ?_
      refine zc2n (zRunW (As := [.ref h, .int (nZ (↑bd : Int)), .int (nZ 1)]) X mw_bedOf (wc_bedOf l D k h B S K T xs hG.1 hx (↑bd : Int) 1 ⟨by omega, by omega⟩ ⟨by omega, by omega⟩ c1 (hc1)  _) zw_96 (zPre2 hP hD hK) rfl hl (Nat.le_of_ble_eq_true rfl) dL_hangs_207 ⟨rfl, rfl, ⟨Nat.le_of_ble_eq_true rfl, Nat.le_of_ble_eq_true rfl⟩, Nat.le_of_ble_eq_true rfl, Nat.le_of_ble_eq_true rfl⟩ rfl) hS hP hD hA (fun r xs H locs hpost hP hD hS => ?_)
      obtain ⟨rfl, hx⟩ := hpost
      refine lv_istore (lv' := [(9, .int (nZ c1)), (0, .ref h), (1, .int (nZ cn)), (2, .int (nZ cl)), (3, .ref q6), (4, .int (nZ s1)), (5, .int (nZ s2)), (6, .int (nZ w1)), (7, .int (nZ w2)), (8, .int (nZ (↑bd : Int)))]) hX hB dL_hangs_210 hl (by decide) rfl (fun ls hl => ?_)
      refine lv_aload_n hX hB dL_hangs_212 rfl (lv_at hl 1 rfl) ?_
      refine lv_iload hX hB dL_hangs_213 (lv_at hl 9 rfl) ?_
      refine lv_iconst (v := nZ 2) hX hB dL_hangs_215 rfl ?_
      refine zc2n (zRunW (As := [.ref h, .int (nZ (↑bd : Int)), .int (nZ 2)]) X mw_bedOf (wc_bedOf l D k h B S K T xs hG.1 hx (↑bd : Int) 2 ⟨by omega, by omega⟩ ⟨by omega, by omega⟩ c2 (hc2)  _) zw_96 (zPre2 hP hD hK) rfl hl (Nat.le_of_ble_eq_true rfl) dL_hangs_216 ⟨rfl, rfl, ⟨Nat.le_of_ble_eq_true rfl, Nat.le_of_ble_eq_true rfl⟩, Nat.le_of_ble_eq_true rfl, Nat.le_of_ble_eq_true rfl⟩ rfl) hS hP hD hA (fun r xs H locs hpost hP hD hS => ?_)
      obtain ⟨rfl, hx⟩ := hpost
      refine lv_istore (lv' := [(10, .int (nZ c2)), (9, .int (nZ c1)), (0, .ref h), (1, .int (nZ cn)), (2, .int (nZ cl)), (3, .ref q6), (4, .int (nZ s1)), (5, .int (nZ s2)), (6, .int (nZ w1)), (7, .int (nZ w2)), (8, .int (nZ (↑bd : Int)))]) hX hB dL_hangs_219 hl (by decide) rfl (fun ls hl => ?_)
      refine lv_aload_n hX hB dL_hangs_221 rfl (lv_at hl 2 rfl) ?_
      refine lv_iconst (v := nZ 0) hX hB dL_hangs_222 rfl ?_
      refine zc2n (zRunW (As := [.ref h, .int (nZ 0)]) X mw_count (wc_count l D k h B S K T xs hG.1 hx 0 ⟨by omega, by omega⟩ (B.1 1) (rfl)  _) zw_130 (zPre2 hP hD hK) rfl hl (Nat.le_of_ble_eq_true rfl) dL_hangs_223 ⟨rfl, rfl, ⟨Nat.le_of_ble_eq_true rfl, Nat.le_of_ble_eq_true rfl⟩, Nat.le_of_ble_eq_true rfl, Nat.le_of_ble_eq_true rfl⟩ rfl) hS hP hD hA (fun r xs H locs hpost hP hD hS => ?_)
      obtain ⟨rfl, hx⟩ := hpost
      refine zCut (σ := Int × va_W) (fun (x : Int × va_W) (H : Heap) (locs : List Loc) (ls : Array Slot) => match x with | (o9, xs) => (ow = min cb (3 - o9)) ∧ (ot = min (cb - min cb (3 - o9)) (3 - (c1 + c2 - o9))) ∧ ((0 ≤ o9 ∧ o9 ≤ 3) ∧ (0 ≤ c1 + c2 - o9 ∧ c1 + c2 - o9 ≤ 3)) ∧ (isX k h (B, S, K, T) xs) ∧ va_P D vwCl ((q6, .inl (k 0, 9, .inl (zA g))) :: xs) H ∧ va_D A ((q6, .inl (k 0, 9, .inl (zA g))) :: xs) ∧ va_S A s9.heap H locs ∧ lv_has ls 15 [(10, .int (nZ c2)), (9, .int (nZ c1)), (0, .ref h), (1, .int (nZ cn)), (2, .int (nZ cl)), (3, .ref q6), (4, .int (nZ s1)), (5, .int (nZ s2)), (6, .int (nZ w1)), (7, .int (nZ w2)), (8, .int (nZ (↑bd : Int)))]) 236 (fun (x : Int × va_W) => match x with | (o9, xs) => ([.int (nZ o9)] : List Value)) ?_ ?_
      · rintro ⟨o9, xs⟩ H locs ls ⟨hwo, hto, ho9, hx, hP, hD, hS, hl⟩
        refine lv_istore (lv' := [(11, .int (nZ o9)), (10, .int (nZ c2)), (9, .int (nZ c1)), (0, .ref h), (1, .int (nZ cn)), (2, .int (nZ cl)), (3, .ref q6), (4, .int (nZ s1)), (5, .int (nZ s2)), (6, .int (nZ w1)), (7, .int (nZ w2)), (8, .int (nZ (↑bd : Int)))]) hX hB dL_hangs_236 hl (by decide) rfl (fun ls hl => ?_)
        refine lv_iload hX hB dL_hangs_238 (lv_at hl 2 rfl) ?_
        refine lv_iload hX hB dL_hangs_240 (lv_at hl 1 rfl) ?_
        refine zz_iadd X dL_hangs_242 (z := (c1 + c2)) (by first | rfl | omega) ?_
        refine lv_iload hX hB dL_hangs_243 (lv_at hl 0 rfl) ?_
        refine zz_isub X dL_hangs_245 (z := ((c1 + c2) - o9)) (by first | rfl | omega) ?_
        refine lv_istore (lv' := [(12, .int (nZ ((c1 + c2) - o9))), (11, .int (nZ o9)), (10, .int (nZ c2)), (9, .int (nZ c1)), (0, .ref h), (1, .int (nZ cn)), (2, .int (nZ cl)), (3, .ref q6), (4, .int (nZ s1)), (5, .int (nZ s2)), (6, .int (nZ w1)), (7, .int (nZ w2)), (8, .int (nZ (↑bd : Int)))]) hX hB dL_hangs_246 hl (by decide) rfl (fun ls hl => ?_)
        refine lv_iload hX hB dL_hangs_248 (lv_at hl 8 rfl) ?_
        refine lv_iload hX hB dL_hangs_250 (lv_at hl 3 rfl) ?_
        refine zz_iadd X dL_hangs_252 (z := (s1 + c1)) (by first | rfl | omega) ?_
        refine lv_istore (lv' := [(4, .int (nZ (s1 + c1))), (12, .int (nZ ((c1 + c2) - o9))), (11, .int (nZ o9)), (10, .int (nZ c2)), (9, .int (nZ c1)), (0, .ref h), (1, .int (nZ cn)), (2, .int (nZ cl)), (3, .ref q6), (5, .int (nZ s2)), (6, .int (nZ w1)), (7, .int (nZ w2)), (8, .int (nZ (↑bd : Int)))]) hX hB dL_hangs_253 hl (by decide) rfl (fun ls hl => ?_)
        refine lv_iload hX hB dL_hangs_255 (lv_at hl 9 rfl) ?_
        refine lv_iload hX hB dL_hangs_257 (lv_at hl 3 rfl) ?_
        refine zz_iadd X dL_hangs_259 (z := (s2 + c2)) (by first | rfl | omega) ?_
        refine lv_istore (lv' := [(5, .int (nZ (s2 + c2))), (4, .int (nZ (s1 + c1))), (12, .int (nZ ((c1 + c2) - o9))), (11, .int (nZ o9)), (10, .int (nZ c2)), (9, .int (nZ c1)), (0, .ref h), (1, .int (nZ cn)), (2, .int (nZ cl)), (3, .ref q6), (6, .int (nZ w1)), (7, .int (nZ w2)), (8, .int (nZ (↑bd : Int)))]) hX hB dL_hangs_260 hl (by decide) rfl (fun ls hl => ?_)
        refine zCut (σ := Int × va_W) (fun (x : Int × va_W) (H : Heap) (locs : List Loc) (ls : Array Slot) => match x with | (v1, xs) => ((v1 = 1 ∧ s1 + c1 = 3 * ((bd : Int) + 1)) ∨ (v1 = 0 ∧ s1 + c1 < 3 * ((bd : Int) + 1))) ∧ (isX k h (B, S, K, T) xs) ∧ va_P D vwCl ((q6, .inl (k 0, 9, .inl (zA g))) :: xs) H ∧ va_D A ((q6, .inl (k 0, 9, .inl (zA g))) :: xs) ∧ va_S A s9.heap H locs ∧ lv_has ls 15 [(5, .int (nZ (s2 + c2))), (4, .int (nZ (s1 + c1))), (12, .int (nZ ((c1 + c2) - o9))), (11, .int (nZ o9)), (10, .int (nZ c2)), (9, .int (nZ c1)), (0, .ref h), (1, .int (nZ cn)), (2, .int (nZ cl)), (3, .ref q6), (6, .int (nZ w1)), (7, .int (nZ w2)), (8, .int (nZ (↑bd : Int)))]) 278 (fun (x : Int × va_W) => match x with | (v1, xs) => ([.int (nZ v1)] : List Value)) ?_ ?_
        · rintro ⟨v1, xs⟩ H locs ls ⟨hv1, hx, hP, hD, hS, hl⟩
          refine lv_istore (lv' := [(6, .int (nZ v1)), (5, .int (nZ (s2 + c2))), (4, .int (nZ (s1 + c1))), (12, .int (nZ ((c1 + c2) - o9))), (11, .int (nZ o9)), (10, .int (nZ c2)), (9, .int (nZ c1)), (0, .ref h), (1, .int (nZ cn)), (2, .int (nZ cl)), (3, .ref q6), (7, .int (nZ w2)), (8, .int (nZ (↑bd : Int)))]) hX hB dL_hangs_278 hl (by decide) rfl (fun ls hl => ?_)
          refine zCut (σ := Int × va_W) (fun (x : Int × va_W) (H : Heap) (locs : List Loc) (ls : Array Slot) => match x with | (v2, xs) => ((v2 = 1 ∧ s2 + c2 = 3 * ((bd : Int) + 1)) ∨ (v2 = 0 ∧ s2 + c2 < 3 * ((bd : Int) + 1))) ∧ (isX k h (B, S, K, T) xs) ∧ va_P D vwCl ((q6, .inl (k 0, 9, .inl (zA g))) :: xs) H ∧ va_D A ((q6, .inl (k 0, 9, .inl (zA g))) :: xs) ∧ va_S A s9.heap H locs ∧ lv_has ls 15 [(6, .int (nZ v1)), (5, .int (nZ (s2 + c2))), (4, .int (nZ (s1 + c1))), (12, .int (nZ ((c1 + c2) - o9))), (11, .int (nZ o9)), (10, .int (nZ c2)), (9, .int (nZ c1)), (0, .ref h), (1, .int (nZ cn)), (2, .int (nZ cl)), (3, .ref q6), (7, .int (nZ w2)), (8, .int (nZ (↑bd : Int)))]) 296 (fun (x : Int × va_W) => match x with | (v2, xs) => ([.int (nZ v2)] : List Value)) ?_ ?_
          · rintro ⟨v2, xs⟩ H locs ls ⟨hv2, hx, hP, hD, hS, hl⟩
            refine lv_istore (lv' := [(7, .int (nZ v2)), (6, .int (nZ v1)), (5, .int (nZ (s2 + c2))), (4, .int (nZ (s1 + c1))), (12, .int (nZ ((c1 + c2) - o9))), (11, .int (nZ o9)), (10, .int (nZ c2)), (9, .int (nZ c1)), (0, .ref h), (1, .int (nZ cn)), (2, .int (nZ cl)), (3, .ref q6), (8, .int (nZ (↑bd : Int)))]) hX hB dL_hangs_296 hl (by decide) rfl (fun ls hl => ?_)
            refine lv_aload_n hX hB dL_hangs_298 rfl (lv_at hl 11 rfl) ?_
            refine lv_iload hX hB dL_hangs_299 (lv_at hl 12 rfl) ?_
            refine zz_iald X hP 0 0 rfl rfl bd (by omega) (by omega) (by first | decide | omega) dL_hangs_301 ?_
            refine lv_iconst (v := nZ 3) hX hB dL_hangs_302 rfl ?_
            refine lv_iload hX hB dL_hangs_303 (lv_at hl 5 rfl) ?_
            refine zz_isub X dL_hangs_305 (z := (3 - o9)) (by first | rfl | omega) ?_
            refine zz_icmp_ge X (tgt := 316) dL_hangs_306 (by decide) ⟨by omega, by omega⟩ ⟨by omega, by omega⟩ (fun c_306 => ?_) (fun c_306 => ?_)
            · refine lv_iconst (v := nZ 3) hX hB dL_hangs_316 rfl ?_
              refine lv_iload hX hB dL_hangs_317 (lv_at hl 5 rfl) ?_
              refine zz_isub X dL_hangs_319 (z := (3 - o9)) (by first | rfl | omega) ?_
              refine lv_istore (lv' := [(13, .int (nZ (3 - o9))), (7, .int (nZ v2)), (6, .int (nZ v1)), (5, .int (nZ (s2 + c2))), (4, .int (nZ (s1 + c1))), (12, .int (nZ ((c1 + c2) - o9))), (11, .int (nZ o9)), (10, .int (nZ c2)), (9, .int (nZ c1)), (0, .ref h), (1, .int (nZ cn)), (2, .int (nZ cl)), (3, .ref q6), (8, .int (nZ (↑bd : Int)))]) hX hB dL_hangs_320 hl (by decide) rfl (fun ls hl => ?_)
              refine lv_aload_n hX hB dL_hangs_322 rfl (lv_at hl 12 rfl) ?_
              refine lv_iload hX hB dL_hangs_323 (lv_at hl 13 rfl) ?_
              refine zz_iald X hP 0 0 rfl rfl bd (by omega) (by omega) (by first | decide | omega) dL_hangs_325 ?_
              refine lv_iload hX hB dL_hangs_326 (lv_at hl 0 rfl) ?_
              refine zz_isub X dL_hangs_328 (z := ((g bd) - (3 - o9))) (by first | rfl | omega) ?_
              refine lv_istore (lv' := [(14, .int (nZ ((g bd) - (3 - o9)))), (13, .int (nZ (3 - o9))), (7, .int (nZ v2)), (6, .int (nZ v1)), (5, .int (nZ (s2 + c2))), (4, .int (nZ (s1 + c1))), (12, .int (nZ ((c1 + c2) - o9))), (11, .int (nZ o9)), (10, .int (nZ c2)), (9, .int (nZ c1)), (0, .ref h), (1, .int (nZ cn)), (2, .int (nZ cl)), (3, .ref q6), (8, .int (nZ (↑bd : Int)))]) hX hB dL_hangs_329 hl (by decide) rfl (fun ls hl => ?_)
              refine lv_aload_n hX hB dL_hangs_331 rfl (lv_at hl 10 rfl) ?_
              refine lv_iload hX hB dL_hangs_332 (lv_at hl 14 rfl) ?_
              refine lv_iconst (v := nZ 0) hX hB dL_hangs_334 rfl ?_
              refine zc2n (zRunW (As := [.ref h, .int (nZ (↑bd : Int)), .int (nZ 0)]) X mw_bedOf (wc_bedOf l D k h B S K T xs hG.1 hx (↑bd : Int) 0 ⟨by omega, by omega⟩ ⟨by omega, by omega⟩ cb (hcb)  _) zw_96 (zPre2 hP hD hK) rfl hl (Nat.le_of_ble_eq_true rfl) dL_hangs_335 ⟨rfl, rfl, ⟨Nat.le_of_ble_eq_true rfl, Nat.le_of_ble_eq_true rfl⟩, Nat.le_of_ble_eq_true rfl, Nat.le_of_ble_eq_true rfl⟩ rfl) hS hP hD hA (fun r xs H locs hpost hP hD hS => ?_)
              obtain ⟨rfl, hx⟩ := hpost
              refine lv_aload_n hX hB dL_hangs_338 rfl (lv_at hl 13 rfl) ?_
              refine lv_iload hX hB dL_hangs_339 (lv_at hl 14 rfl) ?_
              refine zz_iald X hP 0 0 rfl rfl bd (by omega) (by omega) (by first | decide | omega) dL_hangs_341 ?_
              refine zz_icmp_ne X (tgt := 415) dL_hangs_342 (by decide) ⟨by omega, by omega⟩ ⟨by omega, by omega⟩ (fun c_342 => by exfalso; omega) (fun c_342 => ?_)
              refine lv_aload_n hX hB dL_hangs_345 rfl (lv_at hl 13 rfl) ?_
              refine lv_iload hX hB dL_hangs_346 (lv_at hl 14 rfl) ?_
              refine zz_iald X hP 0 0 rfl rfl bd (by omega) (by omega) (by first | decide | omega) dL_hangs_348 ?_
              refine lv_iconst (v := nZ 3) hX hB dL_hangs_349 rfl ?_
              refine zz_icmp_gt X (tgt := 415) dL_hangs_350 (by decide) ⟨by omega, by omega⟩ ⟨by omega, by omega⟩ (fun c_350 => by exfalso; omega) (fun c_350 => ?_)
              refine lv_iload hX hB dL_hangs_353 (lv_at hl 9 rfl) ?_
              refine zz_if_lt X (tgt := 415) dL_hangs_355 (by decide) ⟨by omega, by omega⟩ (fun c_355 => by exfalso; omega) (fun c_355 => ?_)
              refine lv_iload hX hB dL_hangs_358 (lv_at hl 9 rfl) ?_
              refine lv_iconst (v := nZ 3) hX hB dL_hangs_360 rfl ?_
              refine zz_icmp_gt X (tgt := 415) dL_hangs_361 (by decide) ⟨by omega, by omega⟩ ⟨by omega, by omega⟩ (fun c_361 => by exfalso; omega) (fun c_361 => ?_)
              refine lv_iload hX hB dL_hangs_364 (lv_at hl 8 rfl) ?_
              refine zz_if_lt X (tgt := 415) dL_hangs_366 (by decide) ⟨by omega, by omega⟩ (fun c_366 => by exfalso; omega) (fun c_366 => ?_)
              refine lv_iload hX hB dL_hangs_369 (lv_at hl 8 rfl) ?_
              refine lv_iconst (v := nZ 3) hX hB dL_hangs_371 rfl ?_
              refine zz_icmp_gt X (tgt := 415) dL_hangs_372 (by decide) ⟨by omega, by omega⟩ ⟨by omega, by omega⟩ (fun c_372 => by exfalso; omega) (fun c_372 => ?_)
              refine lv_aload_n hX hB dL_hangs_375 rfl (lv_at hl 10 rfl) ?_
              refine lv_iload hX hB dL_hangs_376 (lv_at hl 14 rfl) ?_
              refine lv_iconst (v := nZ 3) hX hB dL_hangs_378 rfl ?_
              refine zc2n (zRunW (As := [.ref h, .int (nZ (↑bd : Int)), .int (nZ 3)]) X mw_bedOf (wc_bedOf l D k h B S K T xs hG.1 hx (↑bd : Int) 3 ⟨by omega, by omega⟩ ⟨by omega, by omega⟩ ow (how)  _) zw_96 (zPre2 hP hD hK) rfl hl (Nat.le_of_ble_eq_true rfl) dL_hangs_379 ⟨rfl, rfl, ⟨Nat.le_of_ble_eq_true rfl, Nat.le_of_ble_eq_true rfl⟩, Nat.le_of_ble_eq_true rfl, Nat.le_of_ble_eq_true rfl⟩ rfl) hS hP hD hA (fun r xs H locs hpost hP hD hS => ?_)
              obtain ⟨rfl, hx⟩ := hpost
              refine lv_iload hX hB dL_hangs_382 (lv_at hl 1 rfl) ?_
              refine zz_icmp_ne X (tgt := 415) dL_hangs_384 (by decide) ⟨by omega, by omega⟩ ⟨by omega, by omega⟩ (fun c_384 => by exfalso; omega) (fun c_384 => ?_)
              refine lv_aload_n hX hB dL_hangs_387 rfl (lv_at hl 10 rfl) ?_
              refine lv_iload hX hB dL_hangs_388 (lv_at hl 14 rfl) ?_
              refine lv_iconst (v := nZ 4) hX hB dL_hangs_390 rfl ?_
              refine zc2n (zRunW (As := [.ref h, .int (nZ (↑bd : Int)), .int (nZ 4)]) X mw_bedOf (wc_bedOf l D k h B S K T xs hG.1 hx (↑bd : Int) 4 ⟨by omega, by omega⟩ ⟨by omega, by omega⟩ ot (hot)  _) zw_96 (zPre2 hP hD hK) rfl hl (Nat.le_of_ble_eq_true rfl) dL_hangs_391 ⟨rfl, rfl, ⟨Nat.le_of_ble_eq_true rfl, Nat.le_of_ble_eq_true rfl⟩, Nat.le_of_ble_eq_true rfl, Nat.le_of_ble_eq_true rfl⟩ rfl) hS hP hD hA (fun r xs H locs hpost hP hD hS => ?_)
              obtain ⟨rfl, hx⟩ := hpost
              refine lv_iload hX hB dL_hangs_394 (lv_at hl 0 rfl) ?_
              refine lv_iconst (v := nZ 3) hX hB dL_hangs_396 rfl ?_
              refine lv_iload hX hB dL_hangs_397 (lv_at hl 6 rfl) ?_
              refine zz_isub X dL_hangs_399 (z := (3 - ((c1 + c2) - o9))) (by first | rfl | omega) ?_
              refine zz_icmp_ge X (tgt := 408) dL_hangs_400 (by decide) ⟨by omega, by omega⟩ ⟨by omega, by omega⟩ (fun c_400 => ?_) (fun c_400 => ?_)
              · refine lv_iconst (v := nZ 3) hX hB dL_hangs_408 rfl ?_
                refine lv_iload hX hB dL_hangs_409 (lv_at hl 6 rfl) ?_
                refine zz_isub X dL_hangs_411 (z := (3 - ((c1 + c2) - o9))) (by first | rfl | omega) ?_
                refine zz_icmp_eq X (tgt := 417) dL_hangs_412 (by decide) ⟨by omega, by omega⟩ ⟨by omega, by omega⟩ (fun c_412 => ?_) (fun c_412 => by exfalso; omega)
                refine lv_iinc (v := nZ (↑(bd + 1) : Int)) (lv' := [(8, .int (nZ (↑(bd + 1) : Int))), (14, .int (nZ ((g bd) - (3 - o9)))), (13, .int (nZ (3 - o9))), (7, .int (nZ v2)), (6, .int (nZ v1)), (5, .int (nZ (s2 + c2))), (4, .int (nZ (s1 + c1))), (12, .int (nZ ((c1 + c2) - o9))), (11, .int (nZ o9)), (10, .int (nZ c2)), (9, .int (nZ c1)), (0, .ref h), (1, .int (nZ cn)), (2, .int (nZ cl)), (3, .ref q6)]) hX hB dL_hangs_417 hl (k := 14) rfl (zinc (by omega)) (by decide) rfl (fun ls hl => ?_)
                refine lv_goto (tgt := 196) hX hB dL_hangs_420 (by decide) ?_
                exact ih_196 ((bd + 1), (s1 + c1), (s2 + c2), v1, v2, xs) _ _ _ ⟨(by omega), (by rw [hs1, ← hc1]; rfl), (by rw [hs2, ← hc2]; rfl), (by omega), (by omega), (by omega), (by omega), (by exact hx), hP, hD, hS, (lv_sub hl [11, 12, 13, 14, 6, 5, 4, 3, 0] rfl)⟩ (by dsimp only; omega)
              · refine lv_iload hX hB dL_hangs_403 (lv_at hl 0 rfl) ?_
                refine lv_goto (tgt := 412) hX hB dL_hangs_405 (by decide) ?_
                refine zz_icmp_eq X (tgt := 417) dL_hangs_412 (by decide) ⟨by omega, by omega⟩ ⟨by omega, by omega⟩ (fun c_412 => ?_) (fun c_412 => by exfalso; omega)
                refine lv_iinc (v := nZ (↑(bd + 1) : Int)) (lv' := [(8, .int (nZ (↑(bd + 1) : Int))), (14, .int (nZ ((g bd) - (3 - o9)))), (13, .int (nZ (3 - o9))), (7, .int (nZ v2)), (6, .int (nZ v1)), (5, .int (nZ (s2 + c2))), (4, .int (nZ (s1 + c1))), (12, .int (nZ ((c1 + c2) - o9))), (11, .int (nZ o9)), (10, .int (nZ c2)), (9, .int (nZ c1)), (0, .ref h), (1, .int (nZ cn)), (2, .int (nZ cl)), (3, .ref q6)]) hX hB dL_hangs_417 hl (k := 14) rfl (zinc (by omega)) (by decide) rfl (fun ls hl => ?_)
                refine lv_goto (tgt := 196) hX hB dL_hangs_420 (by decide) ?_
                exact ih_196 ((bd + 1), (s1 + c1), (s2 + c2), v1, v2, xs) _ _ _ ⟨(by omega), (by rw [hs1, ← hc1]; rfl), (by rw [hs2, ← hc2]; rfl), (by omega), (by omega), (by omega), (by omega), (by exact hx), hP, hD, hS, (lv_sub hl [11, 12, 13, 14, 6, 5, 4, 3, 0] rfl)⟩ (by dsimp only; omega)
            · refine lv_aload_n hX hB dL_hangs_309 rfl (lv_at hl 11 rfl) ?_
              refine lv_iload hX hB dL_hangs_310 (lv_at hl 12 rfl) ?_
              refine zz_iald X hP 0 0 rfl rfl bd (by omega) (by omega) (by first | decide | omega) dL_hangs_312 ?_
              refine lv_goto (tgt := 320) hX hB dL_hangs_313 (by decide) ?_
              refine lv_istore (lv' := [(13, .int (nZ (g bd))), (7, .int (nZ v2)), (6, .int (nZ v1)), (5, .int (nZ (s2 + c2))), (4, .int (nZ (s1 + c1))), (12, .int (nZ ((c1 + c2) - o9))), (11, .int (nZ o9)), (10, .int (nZ c2)), (9, .int (nZ c1)), (0, .ref h), (1, .int (nZ cn)), (2, .int (nZ cl)), (3, .ref q6), (8, .int (nZ (↑bd : Int)))]) hX hB dL_hangs_320 hl (by decide) rfl (fun ls hl => ?_)
              refine lv_aload_n hX hB dL_hangs_322 rfl (lv_at hl 12 rfl) ?_
              refine lv_iload hX hB dL_hangs_323 (lv_at hl 13 rfl) ?_
              refine zz_iald X hP 0 0 rfl rfl bd (by omega) (by omega) (by first | decide | omega) dL_hangs_325 ?_
              refine lv_iload hX hB dL_hangs_326 (lv_at hl 0 rfl) ?_
              refine zz_isub X dL_hangs_328 (z := ((g bd) - (g bd))) (by first | rfl | omega) ?_
              refine lv_istore (lv' := [(14, .int (nZ ((g bd) - (g bd)))), (13, .int (nZ (g bd))), (7, .int (nZ v2)), (6, .int (nZ v1)), (5, .int (nZ (s2 + c2))), (4, .int (nZ (s1 + c1))), (12, .int (nZ ((c1 + c2) - o9))), (11, .int (nZ o9)), (10, .int (nZ c2)), (9, .int (nZ c1)), (0, .ref h), (1, .int (nZ cn)), (2, .int (nZ cl)), (3, .ref q6), (8, .int (nZ (↑bd : Int)))]) hX hB dL_hangs_329 hl (by decide) rfl (fun ls hl => ?_)
              refine lv_aload_n hX hB dL_hangs_331 rfl (lv_at hl 10 rfl) ?_
              refine lv_iload hX hB dL_hangs_332 (lv_at hl 14 rfl) ?_
              refine lv_iconst (v := nZ 0) hX hB dL_hangs_334 rfl ?_
              refine zc2n (zRunW (As := [.ref h, .int (nZ (↑bd : Int)), .int (nZ 0)]) X mw_bedOf (wc_bedOf l D k h B S K T xs hG.1 hx (↑bd : Int) 0 ⟨by omega, by omega⟩ ⟨by omega, by omega⟩ cb (hcb)  _) zw_96 (zPre2 hP hD hK) rfl hl (Nat.le_of_ble_eq_true rfl) dL_hangs_335 ⟨rfl, rfl, ⟨Nat.le_of_ble_eq_true rfl, Nat.le_of_ble_eq_true rfl⟩, Nat.le_of_ble_eq_true rfl, Nat.le_of_ble_eq_true rfl⟩ rfl) hS hP hD hA (fun r xs H locs hpost hP hD hS => ?_)
              obtain ⟨rfl, hx⟩ := hpost
              refine lv_aload_n hX hB dL_hangs_338 rfl (lv_at hl 13 rfl) ?_
              refine lv_iload hX hB dL_hangs_339 (lv_at hl 14 rfl) ?_
              refine zz_iald X hP 0 0 rfl rfl bd (by omega) (by omega) (by first | decide | omega) dL_hangs_341 ?_
              refine zz_icmp_ne X (tgt := 415) dL_hangs_342 (by decide) ⟨by omega, by omega⟩ ⟨by omega, by omega⟩ (fun c_342 => by exfalso; omega) (fun c_342 => ?_)
              refine lv_aload_n hX hB dL_hangs_345 rfl (lv_at hl 13 rfl) ?_
              refine lv_iload hX hB dL_hangs_346 (lv_at hl 14 rfl) ?_
              refine zz_iald X hP 0 0 rfl rfl bd (by omega) (by omega) (by first | decide | omega) dL_hangs_348 ?_
              refine lv_iconst (v := nZ 3) hX hB dL_hangs_349 rfl ?_
              refine zz_icmp_gt X (tgt := 415) dL_hangs_350 (by decide) ⟨by omega, by omega⟩ ⟨by omega, by omega⟩ (fun c_350 => by exfalso; omega) (fun c_350 => ?_)
              refine lv_iload hX hB dL_hangs_353 (lv_at hl 9 rfl) ?_
              refine zz_if_lt X (tgt := 415) dL_hangs_355 (by decide) ⟨by omega, by omega⟩ (fun c_355 => by exfalso; omega) (fun c_355 => ?_)
              refine lv_iload hX hB dL_hangs_358 (lv_at hl 9 rfl) ?_
              refine lv_iconst (v := nZ 3) hX hB dL_hangs_360 rfl ?_
              refine zz_icmp_gt X (tgt := 415) dL_hangs_361 (by decide) ⟨by omega, by omega⟩ ⟨by omega, by omega⟩ (fun c_361 => by exfalso; omega) (fun c_361 => ?_)
              refine lv_iload hX hB dL_hangs_364 (lv_at hl 8 rfl) ?_
              refine zz_if_lt X (tgt := 415) dL_hangs_366 (by decide) ⟨by omega, by omega⟩ (fun c_366 => by exfalso; omega) (fun c_366 => ?_)
              refine lv_iload hX hB dL_hangs_369 (lv_at hl 8 rfl) ?_
              refine lv_iconst (v := nZ 3) hX hB dL_hangs_371 rfl ?_
              refine zz_icmp_gt X (tgt := 415) dL_hangs_372 (by decide) ⟨by omega, by omega⟩ ⟨by omega, by omega⟩ (fun c_372 => by exfalso; omega) (fun c_372 => ?_)
              refine lv_aload_n hX hB dL_hangs_375 rfl (lv_at hl 10 rfl) ?_
              refine lv_iload hX hB dL_hangs_376 (lv_at hl 14 rfl) ?_
              refine lv_iconst (v := nZ 3) hX hB dL_hangs_378 rfl ?_
              refine zc2n (zRunW (As := [.ref h, .int (nZ (↑bd : Int)), .int (nZ 3)]) X mw_bedOf (wc_bedOf l D k h B S K T xs hG.1 hx (↑bd : Int) 3 ⟨by omega, by omega⟩ ⟨by omega, by omega⟩ ow (how)  _) zw_96 (zPre2 hP hD hK) rfl hl (Nat.le_of_ble_eq_true rfl) dL_hangs_379 ⟨rfl, rfl, ⟨Nat.le_of_ble_eq_true rfl, Nat.le_of_ble_eq_true rfl⟩, Nat.le_of_ble_eq_true rfl, Nat.le_of_ble_eq_true rfl⟩ rfl) hS hP hD hA (fun r xs H locs hpost hP hD hS => ?_)
              obtain ⟨rfl, hx⟩ := hpost
              refine lv_iload hX hB dL_hangs_382 (lv_at hl 1 rfl) ?_
              refine zz_icmp_ne X (tgt := 415) dL_hangs_384 (by decide) ⟨by omega, by omega⟩ ⟨by omega, by omega⟩ (fun c_384 => by exfalso; omega) (fun c_384 => ?_)
              refine lv_aload_n hX hB dL_hangs_387 rfl (lv_at hl 10 rfl) ?_
              refine lv_iload hX hB dL_hangs_388 (lv_at hl 14 rfl) ?_
              refine lv_iconst (v := nZ 4) hX hB dL_hangs_390 rfl ?_
              refine zc2n (zRunW (As := [.ref h, .int (nZ (↑bd : Int)), .int (nZ 4)]) X mw_bedOf (wc_bedOf l D k h B S K T xs hG.1 hx (↑bd : Int) 4 ⟨by omega, by omega⟩ ⟨by omega, by omega⟩ ot (hot)  _) zw_96 (zPre2 hP hD hK) rfl hl (Nat.le_of_ble_eq_true rfl) dL_hangs_391 ⟨rfl, rfl, ⟨Nat.le_of_ble_eq_true rfl, Nat.le_of_ble_eq_true rfl⟩, Nat.le_of_ble_eq_true rfl, Nat.le_of_ble_eq_true rfl⟩ rfl) hS hP hD hA (fun r xs H locs hpost hP hD hS => ?_)
              obtain ⟨rfl, hx⟩ := hpost
              refine lv_iload hX hB dL_hangs_394 (lv_at hl 0 rfl) ?_
              refine lv_iconst (v := nZ 3) hX hB dL_hangs_396 rfl ?_
              refine lv_iload hX hB dL_hangs_397 (lv_at hl 6 rfl) ?_
              refine zz_isub X dL_hangs_399 (z := (3 - ((c1 + c2) - o9))) (by first | rfl | omega) ?_
              refine zz_icmp_ge X (tgt := 408) dL_hangs_400 (by decide) ⟨by omega, by omega⟩ ⟨by omega, by omega⟩ (fun c_400 => ?_) (fun c_400 => ?_)
              · refine lv_iconst (v := nZ 3) hX hB dL_hangs_408 rfl ?_
                refine lv_iload hX hB dL_hangs_409 (lv_at hl 6 rfl) ?_
                refine zz_isub X dL_hangs_411 (z := (3 - ((c1 + c2) - o9))) (by first | rfl | omega) ?_
                refine zz_icmp_eq X (tgt := 417) dL_hangs_412 (by decide) ⟨by omega, by omega⟩ ⟨by omega, by omega⟩ (fun c_412 => ?_) (fun c_412 => by exfalso; omega)
                refine lv_iinc (v := nZ (↑(bd + 1) : Int)) (lv' := [(8, .int (nZ (↑(bd + 1) : Int))), (14, .int (nZ ((g bd) - (g bd)))), (13, .int (nZ (g bd))), (7, .int (nZ v2)), (6, .int (nZ v1)), (5, .int (nZ (s2 + c2))), (4, .int (nZ (s1 + c1))), (12, .int (nZ ((c1 + c2) - o9))), (11, .int (nZ o9)), (10, .int (nZ c2)), (9, .int (nZ c1)), (0, .ref h), (1, .int (nZ cn)), (2, .int (nZ cl)), (3, .ref q6)]) hX hB dL_hangs_417 hl (k := 14) rfl (zinc (by omega)) (by decide) rfl (fun ls hl => ?_)
                refine lv_goto (tgt := 196) hX hB dL_hangs_420 (by decide) ?_
                exact ih_196 ((bd + 1), (s1 + c1), (s2 + c2), v1, v2, xs) _ _ _ ⟨(by omega), (by rw [hs1, ← hc1]; rfl), (by rw [hs2, ← hc2]; rfl), (by omega), (by omega), (by omega), (by omega), (by exact hx), hP, hD, hS, (lv_sub hl [11, 12, 13, 14, 6, 5, 4, 3, 0] rfl)⟩ (by dsimp only; omega)
              · refine lv_iload hX hB dL_hangs_403 (lv_at hl 0 rfl) ?_
                refine lv_goto (tgt := 412) hX hB dL_hangs_405 (by decide) ?_
                refine zz_icmp_eq X (tgt := 417) dL_hangs_412 (by decide) ⟨by omega, by omega⟩ ⟨by omega, by omega⟩ (fun c_412 => ?_) (fun c_412 => by exfalso; omega)
                refine lv_iinc (v := nZ (↑(bd + 1) : Int)) (lv' := [(8, .int (nZ (↑(bd + 1) : Int))), (14, .int (nZ ((g bd) - (g bd)))), (13, .int (nZ (g bd))), (7, .int (nZ v2)), (6, .int (nZ v1)), (5, .int (nZ (s2 + c2))), (4, .int (nZ (s1 + c1))), (12, .int (nZ ((c1 + c2) - o9))), (11, .int (nZ o9)), (10, .int (nZ c2)), (9, .int (nZ c1)), (0, .ref h), (1, .int (nZ cn)), (2, .int (nZ cl)), (3, .ref q6)]) hX hB dL_hangs_417 hl (k := 14) rfl (zinc (by omega)) (by decide) rfl (fun ls hl => ?_)
                refine lv_goto (tgt := 196) hX hB dL_hangs_420 (by decide) ?_
                exact ih_196 ((bd + 1), (s1 + c1), (s2 + c2), v1, v2, xs) _ _ _ ⟨(by omega), (by rw [hs1, ← hc1]; rfl), (by rw [hs2, ← hc2]; rfl), (by omega), (by omega), (by omega), (by omega), (by exact hx), hP, hD, hS, (lv_sub hl [11, 12, 13, 14, 6, 5, 4, 3, 0] rfl)⟩ (by dsimp only; omega)
          intro cut_296
          refine lv_iload hX hB dL_hangs_280 (lv_at hl 11 rfl) ?_
          refine zz_if_eq X (tgt := 295) dL_hangs_282 (by decide) ⟨by omega, by omega⟩ (fun c_282 => ?_) (fun c_282 => ?_)
          · refine lv_iconst (v := nZ 0) hX hB dL_hangs_295 rfl ?_
            exact cut_296 (0, xs) _ _ _ ⟨(by omega), (by exact hx), hP, hD, hS, (lv_sub hl [0, 1, 2, 3, 4, 5, 6, 7, 8, 9, 10, 11, 12] rfl)⟩
          · refine lv_iload hX hB dL_hangs_285 (lv_at hl 5 rfl) ?_
            refine lv_iconst (v := nZ 3) hX hB dL_hangs_287 rfl ?_
            refine zz_icmp_ne X (tgt := 295) dL_hangs_288 (by decide) ⟨by omega, by omega⟩ ⟨by omega, by omega⟩ (fun c_288 => ?_) (fun c_288 => ?_)
            · refine lv_iconst (v := nZ 0) hX hB dL_hangs_295 rfl ?_
              exact cut_296 (0, xs) _ _ _ ⟨(by omega), (by exact hx), hP, hD, hS, (lv_sub hl [0, 1, 2, 3, 4, 5, 6, 7, 8, 9, 10, 11, 12] rfl)⟩
            · refine lv_iconst (v := nZ 1) hX hB dL_hangs_291 rfl ?_
              refine lv_goto (tgt := 296) hX hB dL_hangs_292 (by decide) ?_
              exact cut_296 (1, xs) _ _ _ ⟨(by omega), (by exact hx), hP, hD, hS, (lv_sub hl [0, 1, 2, 3, 4, 5, 6, 7, 8, 9, 10, 11, 12] rfl)⟩
        intro cut_278
        refine lv_iload hX hB dL_hangs_262 (lv_at hl 10 rfl) ?_
        refine zz_if_eq X (tgt := 277) dL_hangs_264 (by decide) ⟨by omega, by omega⟩ (fun c_264 => ?_) (fun c_264 => ?_)
        · refine lv_iconst (v := nZ 0) hX hB dL_hangs_277 rfl ?_
          exact cut_278 (0, xs) _ _ _ ⟨(by omega), (by exact hx), hP, hD, hS, (lv_sub hl [0, 1, 2, 3, 4, 5, 6, 7, 8, 9, 10, 11, 12] rfl)⟩
        · refine lv_iload hX hB dL_hangs_267 (lv_at hl 5 rfl) ?_
          refine lv_iconst (v := nZ 3) hX hB dL_hangs_269 rfl ?_
          refine zz_icmp_ne X (tgt := 277) dL_hangs_270 (by decide) ⟨by omega, by omega⟩ ⟨by omega, by omega⟩ (fun c_270 => ?_) (fun c_270 => ?_)
          · refine lv_iconst (v := nZ 0) hX hB dL_hangs_277 rfl ?_
            exact cut_278 (0, xs) _ _ _ ⟨(by omega), (by exact hx), hP, hD, hS, (lv_sub hl [0, 1, 2, 3, 4, 5, 6, 7, 8, 9, 10, 11, 12] rfl)⟩
          · refine lv_iconst (v := nZ 1) hX hB dL_hangs_273 rfl ?_
            refine lv_goto (tgt := 278) hX hB dL_hangs_274 (by decide) ?_
            exact cut_278 (1, xs) _ _ _ ⟨(by omega), (by exact hx), hP, hD, hS, (lv_sub hl [0, 1, 2, 3, 4, 5, 6, 7, 8, 9, 10, 11, 12] rfl)⟩
      intro cut_236
      refine zz_if_ne X (tgt := 234) dL_hangs_226 (by decide) ⟨by omega, by omega⟩ (fun c_226 => ?_) (fun c_226 => ?_)
      · have hwo : ow = min cb (3 - c2) := by rw [← how, hcb]; exact own_1 (by omega) hc2
        have hto : ot = min (cb - min cb (3 - c2)) (3 - (c1 + c2 - c2)) := by rw [show c1 + c2 - c2 = c1 by omega, ← hot, hcb]; exact oth_1 (by omega) hc1 hc2
        refine lv_iload hX hB dL_hangs_234 (lv_at hl 0 rfl) ?_
        exact cut_236 (c2, xs) _ _ _ ⟨(by exact hwo), (by exact hto), (by omega), (by exact hx), hP, hD, hS, (lv_sub hl [0, 1, 2, 3, 4, 5, 6, 7, 8, 9, 10] rfl)⟩
      · have hwo : ow = min cb (3 - c1) := by rw [← how, hcb]; exact own_0 c_226 hc1
        have hto : ot = min (cb - min cb (3 - c1)) (3 - (c1 + c2 - c1)) := by rw [show c1 + c2 - c1 = c2 by omega, ← hot, hcb]; exact oth_0 c_226 hc1 hc2
        refine lv_iload hX hB dL_hangs_229 (lv_at hl 1 rfl) ?_
        refine lv_goto (tgt := 236) hX hB dL_hangs_231 (by decide) ?_
        exact cut_236 (c1, xs) _ _ _ ⟨(by exact hwo), (by exact hto), (by omega), (by exact hx), hP, hD, hS, (lv_sub hl [0, 1, 2, 3, 4, 5, 6, 7, 8, 9, 10] rfl)⟩
  · have hc := good_ch hBg (j := ln) (by omega)
    have hl20 := chain_len hc
    refine lv_bipush (v := nZ (-5)) hX hB dL_hangs_18 (by decide) ?_
    refine lv_istore (lv' := [(5, .int (nZ (-5))), (0, .ref h), (1, .int (nZ cn)), (2, .int (nZ cl)), (3, .ref q6), (4, .int (nZ (↑ln : Int)))]) hX hB dL_hangs_20 hl (by decide) rfl (fun ls hl => ?_)
    refine lv_iconst (v := nZ 0) hX hB dL_hangs_22 rfl ?_
    refine lv_istore (lv' := [(6, .int (nZ 0)), (5, .int (nZ (-5))), (0, .ref h), (1, .int (nZ cn)), (2, .int (nZ cl)), (3, .ref q6), (4, .int (nZ (↑ln : Int)))]) hX hB dL_hangs_23 hl (by decide) rfl (fun ls hl => ?_)
    refine zLoop (σ := Nat × Int × Int × Int × (Nat → Int) × va_W) (fun (x : Nat × Int × Int × Int × (Nat → Int) × va_W) (H : Heap) (locs : List Loc) (ls : Array Slot) => match x with | (r, cn, cl, bf, g, xs) => (r ≤ (B.2 ln).length) ∧ (cn = sumTo (fun j => ((B.2 j).length : Int)) ln + (r : Int)) ∧ (cl = sumTo (fun j => cleanAllS (B.2 j)) ln + cleanAllS ((B.2 ln).take r)) ∧ (0 < r → bf = (B.2 ln).getD (r - 1) 0) ∧ (∀ b : Nat, b < 9 → g b = (fun b : Nat => sumTo (fun j => cleanS (b : Int) (B.2 j)) ln) b + cleanS (b : Int) ((B.2 ln).take r)) ∧ (isX k h (B, S, K, T) xs) ∧ va_P D vwCl ((q6, .inl (k 0, 9, .inl (zA g))) :: xs) H ∧ va_D A ((q6, .inl (k 0, 9, .inl (zA g))) :: xs) ∧ va_S A s9.heap H locs ∧ lv_has ls 15 [(0, .ref h), (1, .int (nZ cn)), (2, .int (nZ cl)), (3, .ref q6), (4, .int (nZ (↑ln : Int))), (5, .int (nZ bf)), (6, .int (nZ (↑r : Int)))]) (fun (x : Nat × Int × Int × Int × (Nat → Int) × va_W) => match x with | (r, cn, cl, bf, g, xs) => (B.2 ln).length - r) ?_ (0, cn, cl, (-5), g, xs) ⟨(by omega), (by omega), (by rw [hcl]; exact (Int.add_zero _).symm), (by omega), (by intro b hb; rw [hg b hb]; exact (Int.add_zero _).symm), (by exact hx), hP, hD, hS, (lv_sub hl [2, 3, 4, 5, 6, 1, 0] rfl)⟩
    rintro ⟨r, cn, cl, bf, g, xs⟩ H locs ls ⟨hr, hcn, hcl, hbf, hg, hx, hP, hD, hS, hl⟩ ih_25
    have hc := good_ch hBg (j := ln) (by omega)
    obtain ⟨pl, hpl⟩ : ∃ v, placeAtS (B.2 ln) (r : Int) = v := ⟨_, rfl⟩
    have hcc := coin_cases hc hpl
    refine lv_aload_n hX hB dL_hangs_25 rfl (lv_at hl 0 rfl) ?_
    refine lv_iload hX hB dL_hangs_26 (lv_at hl 4 rfl) ?_
    refine lv_iload hX hB dL_hangs_28 (lv_at hl 6 rfl) ?_
    refine zc2n (zRunW (As := [.ref h, .int (nZ (↑ln : Int)), .int (nZ (↑r : Int))]) X mw_coin (wc_coin l D k h B S K T xs hG.1 hx (↑ln : Int) (↑r : Int) ⟨by omega, by omega⟩ ⟨by omega, by omega⟩ pl (hpl)  _) zw_71 (zPre2 hP hD hK) rfl hl (Nat.le_of_ble_eq_true rfl) dL_hangs_30 ⟨rfl, rfl, ⟨Nat.le_of_ble_eq_true rfl, Nat.le_of_ble_eq_true rfl⟩, Nat.le_of_ble_eq_true rfl, Nat.le_of_ble_eq_true rfl⟩ rfl) hS hP hD hA (fun r xs H locs hpost hP hD hS => ?_)
    obtain ⟨rfl, hx⟩ := hpost
    refine lv_iconst (v := nZ (-1)) hX hB dL_hangs_33 rfl ?_
    refine zz_icmp_eq X (tgt := 175) dL_hangs_34 (by decide) ⟨by omega, by omega⟩ ⟨by omega, by omega⟩ (fun c_34 => ?_) (fun c_34 => ?_)
    · have hrl : (B.2 ln).length = r := by omega
      have e2 : (B.2 ln).take r = B.2 ln := List.take_of_length_le (by omega)
      refine lv_iinc (v := nZ (↑(ln + 1) : Int)) (lv' := [(4, .int (nZ (↑(ln + 1) : Int))), (0, .ref h), (1, .int (nZ cn)), (2, .int (nZ cl)), (3, .ref q6), (5, .int (nZ bf)), (6, .int (nZ (↑r : Int)))]) hX hB dL_hangs_175 hl (k := 4) rfl (zinc (by omega)) (by decide) rfl (fun ls hl => ?_)
      refine lv_goto (tgt := 12) hX hB dL_hangs_178 (by decide) ?_
      exact ih_12 ((ln + 1), cn, cl, g, xs) _ _ _ ⟨(by omega), (by rw [sumTo]; omega), (by rw [e2] at hcl; exact hcl), (by rw [e2] at hg; exact hg), (by exact hx), hP, hD, hS, (lv_sub hl [1, 2, 3, 4, 0] rfl)⟩ (by dsimp only; omega)
    · have hrl : r < (B.2 ln).length := by omega
      have hpg : pl = (B.2 ln).getD r 0 := by rcases hcc with h9 | h9; exact h9.2.1; exact absurd h9.2 c_34
      have hp9 : 0 ≤ pl ∧ pl ≤ 99 := by omega
      refine lv_aload_n hX hB dL_hangs_37 rfl (lv_at hl 0 rfl) ?_
      refine lv_iload hX hB dL_hangs_38 (lv_at hl 4 rfl) ?_
      refine lv_iload hX hB dL_hangs_40 (lv_at hl 6 rfl) ?_
      refine zc2n (zRunW (As := [.ref h, .int (nZ (↑ln : Int)), .int (nZ (↑r : Int))]) X mw_coin (wc_coin l D k h B S K T xs hG.1 hx (↑ln : Int) (↑r : Int) ⟨by omega, by omega⟩ ⟨by omega, by omega⟩ pl (hpl)  _) zw_71 (zPre2 hP hD hK) rfl hl (Nat.le_of_ble_eq_true rfl) dL_hangs_42 ⟨rfl, rfl, ⟨Nat.le_of_ble_eq_true rfl, Nat.le_of_ble_eq_true rfl⟩, Nat.le_of_ble_eq_true rfl, Nat.le_of_ble_eq_true rfl⟩ rfl) hS hP hD hA (fun r xs H locs hpost hP hD hS => ?_)
      obtain ⟨rfl, hx⟩ := hpost
      refine lv_istore (lv' := [(7, .int (nZ pl)), (0, .ref h), (1, .int (nZ cn)), (2, .int (nZ cl)), (3, .ref q6), (4, .int (nZ (↑ln : Int))), (5, .int (nZ bf)), (6, .int (nZ (↑r : Int)))]) hX hB dL_hangs_45 hl (by decide) rfl (fun ls hl => ?_)
      refine lv_iload hX hB dL_hangs_47 (lv_at hl 0 rfl) ?_
      refine lv_iconst (v := nZ 2) hX hB dL_hangs_49 rfl ?_
      refine zz_iadd X dL_hangs_50 (z := (pl + 2)) (by first | rfl | omega) ?_
      refine lv_bipush (v := nZ 10) hX hB dL_hangs_51 (by decide) ?_
      refine zz_idiv X dL_hangs_53 (z := ((pl + 2) / 10)) (by first | rfl | omega) ⟨by omega, by omega, by omega, by omega⟩ ?_
      refine lv_iconst (v := nZ 1) hX hB dL_hangs_54 rfl ?_
      refine zz_isub X dL_hangs_55 (z := (((pl + 2) / 10) - 1)) (by first | rfl | omega) ?_
      refine lv_istore (lv' := [(8, .int (nZ (((pl + 2) / 10) - 1))), (7, .int (nZ pl)), (0, .ref h), (1, .int (nZ cn)), (2, .int (nZ cl)), (3, .ref q6), (4, .int (nZ (↑ln : Int))), (5, .int (nZ bf)), (6, .int (nZ (↑r : Int)))]) hX hB dL_hangs_56 hl (by decide) rfl (fun ls hl => ?_)
      refine lv_iload hX hB dL_hangs_58 (lv_at hl 1 rfl) ?_
      refine lv_iconst (v := nZ 2) hX hB dL_hangs_60 rfl ?_
      refine zz_iadd X dL_hangs_61 (z := (pl + 2)) (by first | rfl | omega) ?_
      refine lv_bipush (v := nZ 10) hX hB dL_hangs_62 (by decide) ?_
      refine zz_irem X dL_hangs_64 (z := ((pl + 2) % 10)) (by first | rfl | omega) ⟨by omega, by omega, by omega, by omega⟩ ?_
      refine lv_iconst (v := nZ 5) hX hB dL_hangs_65 rfl ?_
      refine zz_icmp_ge X (tgt := 85) dL_hangs_66 (by decide) ⟨by omega, by omega⟩ ⟨by omega, by omega⟩ (fun c_66 => ?_) (fun c_66 => ?_)
      · refine lv_iconst (v := nZ 0) hX hB dL_hangs_85 rfl ?_
        have hout := law_out (x := pl) ⟨by omega, by omega⟩ (by omega)
        have hcl2 : cl = sumTo (fun j => cleanAllS (B.2 j)) ln + cleanAllS ((B.2 ln).take (r + 1)) := by rw [cleanAllS_take _ _ hrl, ← hpg, if_pos hout]; omega
        have hg2 := beds_out hg hrl hpg hout
        refine lv_istore (lv' := [(9, .int (nZ 0)), (8, .int (nZ (((pl + 2) / 10) - 1))), (7, .int (nZ pl)), (0, .ref h), (1, .int (nZ cn)), (2, .int (nZ cl)), (3, .ref q6), (4, .int (nZ (↑ln : Int))), (5, .int (nZ bf)), (6, .int (nZ (↑r : Int)))]) hX hB dL_hangs_86 hl (by decide) rfl (fun ls hl => ?_)
        refine lv_iload hX hB dL_hangs_88 (lv_at hl 2 rfl) ?_
        refine zz_if_lt X (tgt := 121) dL_hangs_90 (by decide) ⟨by omega, by omega⟩ (fun c_90 => by exfalso; omega) (fun c_90 => ?_)
        refine lv_iload hX hB dL_hangs_93 (lv_at hl 2 rfl) ?_
        refine lv_bipush (v := nZ 99) hX hB dL_hangs_95 (by decide) ?_
        refine zz_icmp_gt X (tgt := 121) dL_hangs_97 (by decide) ⟨by omega, by omega⟩ ⟨by omega, by omega⟩ (fun c_97 => by exfalso; omega) (fun c_97 => ?_)
        refine lv_iload hX hB dL_hangs_100 (lv_at hl 9 rfl) ?_
        refine zz_if_le X (tgt := 114) dL_hangs_102 (by decide) ⟨by omega, by omega⟩ (fun c_102 => ?_) (fun c_102 => ?_)
        · refine lv_iload hX hB dL_hangs_114 (lv_at hl 9 rfl) ?_
          refine lv_bipush (v := nZ 19) hX hB dL_hangs_116 (by decide) ?_
          refine zz_icmp_le X (tgt := 123) dL_hangs_118 (by decide) ⟨by omega, by omega⟩ ⟨by omega, by omega⟩ (fun c_118 => ?_) (fun c_118 => by exfalso; omega)
          refine lv_aload_n hX hB dL_hangs_123 rfl (lv_at hl 6 rfl) ?_
          refine lv_iload hX hB dL_hangs_124 (lv_at hl 0 rfl) ?_
          refine zz_if_eq X (tgt := 134) dL_hangs_126 (by decide) ⟨by omega, by omega⟩ (fun c_126 => ?_) (fun c_126 => by exfalso; omega)
          refine lv_iconst (v := nZ 0) hX hB dL_hangs_134 rfl ?_
          refine lv_dup2_11 hX hB dL_hangs_135 rfl rfl ?_
          refine zz_iald X hP 0 0 rfl rfl 0 (by omega) (by omega) (by first | decide | omega) dL_hangs_136 ?_
          refine lv_iload hX hB dL_hangs_137 (lv_at hl 0 rfl) ?_
          refine zz_if_eq X (tgt := 146) dL_hangs_139 (by decide) ⟨by omega, by omega⟩ (fun c_139 => ?_) (fun c_139 => by exfalso; omega)
          refine lv_iconst (v := nZ 0) hX hB dL_hangs_146 rfl ?_
          refine zz_iadd X dL_hangs_147 (z := (g 0)) (by first | rfl | omega) ?_
          refine zz_iast X hP hD hS 0 0 rfl rfl 0 (by omega) (by omega) (by first | decide | omega) dL_hangs_148 (fun H locs hP hD hS => ?_)
          have hP : va_P D vwCl ((q6, .inl (k 0, 9, .inl (zA (zU g 0 (g 0))))) :: xs) H := hP
          have hD : va_D A ((q6, .inl (k 0, 9, .inl (zA (zU g 0 (g 0))))) :: xs) := hD
          refine lv_iload_n hX hB dL_hangs_149 rfl (lv_at hl 5 rfl) ?_
          refine lv_iload hX hB dL_hangs_150 (lv_at hl 0 rfl) ?_
          refine zz_if_eq X (tgt := 159) dL_hangs_152 (by decide) ⟨by omega, by omega⟩ (fun c_152 => ?_) (fun c_152 => by exfalso; omega)
          refine lv_iconst (v := nZ 0) hX hB dL_hangs_159 rfl ?_
          refine zz_iadd X dL_hangs_160 (z := cl) (by first | rfl | omega) ?_
          refine lv_istore_n (lv' := [(2, .int (nZ cl)), (9, .int (nZ 0)), (8, .int (nZ (((pl + 2) / 10) - 1))), (7, .int (nZ pl)), (0, .ref h), (1, .int (nZ cn)), (3, .ref q6), (4, .int (nZ (↑ln : Int))), (5, .int (nZ bf)), (6, .int (nZ (↑r : Int)))]) hX hB dL_hangs_161 rfl hl (by decide) rfl (fun ls hl => ?_)
          refine lv_iinc (v := nZ (cn + 1)) (lv' := [(1, .int (nZ (cn + 1))), (2, .int (nZ cl)), (9, .int (nZ 0)), (8, .int (nZ (((pl + 2) / 10) - 1))), (7, .int (nZ pl)), (0, .ref h), (3, .ref q6), (4, .int (nZ (↑ln : Int))), (5, .int (nZ bf)), (6, .int (nZ (↑r : Int)))]) hX hB dL_hangs_162 hl (k := 5) rfl (zinc (by omega)) (by decide) rfl (fun ls hl => ?_)
          refine lv_iload hX hB dL_hangs_165 (lv_at hl 4 rfl) ?_
          refine lv_istore (lv' := [(5, .int (nZ pl)), (1, .int (nZ (cn + 1))), (2, .int (nZ cl)), (9, .int (nZ 0)), (8, .int (nZ (((pl + 2) / 10) - 1))), (7, .int (nZ pl)), (0, .ref h), (3, .ref q6), (4, .int (nZ (↑ln : Int))), (6, .int (nZ (↑r : Int)))]) hX hB dL_hangs_167 hl (by decide) rfl (fun ls hl => ?_)
          refine lv_iinc (v := nZ (↑(r + 1) : Int)) (lv' := [(6, .int (nZ (↑(r + 1) : Int))), (5, .int (nZ pl)), (1, .int (nZ (cn + 1))), (2, .int (nZ cl)), (9, .int (nZ 0)), (8, .int (nZ (((pl + 2) / 10) - 1))), (7, .int (nZ pl)), (0, .ref h), (3, .ref q6), (4, .int (nZ (↑ln : Int)))]) hX hB dL_hangs_169 hl (k := 9) rfl (zinc (by omega)) (by decide) rfl (fun ls hl => ?_)
          refine lv_goto (tgt := 25) hX hB dL_hangs_172 (by decide) ?_
          exact ih_25 ((r + 1), (cn + 1), cl, pl, (zU g 0 (g 0)), xs) _ _ _ ⟨(by omega), (by omega), (by exact hcl2), (by intro _; rw [Nat.add_sub_cancel]; exact hpg), (by exact hg2), (by exact hx), hP, hD, hS, (lv_sub hl [7, 2, 3, 8, 9, 1, 0] rfl)⟩ (by dsimp only; omega)
        · have hgap := chain_before hc (r := r) (by omega) hrl
          have hb9 := hbf (by omega)
          refine lv_iload hX hB dL_hangs_105 (lv_at hl 2 rfl) ?_
          refine lv_iload hX hB dL_hangs_107 (lv_at hl 8 rfl) ?_
          refine zz_isub X dL_hangs_109 (z := (pl - bf)) (by first | rfl | omega) ?_
          refine lv_iconst (v := nZ 5) hX hB dL_hangs_110 rfl ?_
          refine zz_icmp_lt X (tgt := 121) dL_hangs_111 (by decide) ⟨by omega, by omega⟩ ⟨by omega, by omega⟩ (fun c_111 => by exfalso; omega) (fun c_111 => ?_)
          refine lv_iload hX hB dL_hangs_114 (lv_at hl 9 rfl) ?_
          refine lv_bipush (v := nZ 19) hX hB dL_hangs_116 (by decide) ?_
          refine zz_icmp_le X (tgt := 123) dL_hangs_118 (by decide) ⟨by omega, by omega⟩ ⟨by omega, by omega⟩ (fun c_118 => ?_) (fun c_118 => by exfalso; omega)
          refine lv_aload_n hX hB dL_hangs_123 rfl (lv_at hl 6 rfl) ?_
          refine lv_iload hX hB dL_hangs_124 (lv_at hl 0 rfl) ?_
          refine zz_if_eq X (tgt := 134) dL_hangs_126 (by decide) ⟨by omega, by omega⟩ (fun c_126 => ?_) (fun c_126 => by exfalso; omega)
          refine lv_iconst (v := nZ 0) hX hB dL_hangs_134 rfl ?_
          refine lv_dup2_11 hX hB dL_hangs_135 rfl rfl ?_
          refine zz_iald X hP 0 0 rfl rfl 0 (by omega) (by omega) (by first | decide | omega) dL_hangs_136 ?_
          refine lv_iload hX hB dL_hangs_137 (lv_at hl 0 rfl) ?_
          refine zz_if_eq X (tgt := 146) dL_hangs_139 (by decide) ⟨by omega, by omega⟩ (fun c_139 => ?_) (fun c_139 => by exfalso; omega)
          refine lv_iconst (v := nZ 0) hX hB dL_hangs_146 rfl ?_
          refine zz_iadd X dL_hangs_147 (z := (g 0)) (by first | rfl | omega) ?_
          refine zz_iast X hP hD hS 0 0 rfl rfl 0 (by omega) (by omega) (by first | decide | omega) dL_hangs_148 (fun H locs hP hD hS => ?_)
          have hP : va_P D vwCl ((q6, .inl (k 0, 9, .inl (zA (zU g 0 (g 0))))) :: xs) H := hP
          have hD : va_D A ((q6, .inl (k 0, 9, .inl (zA (zU g 0 (g 0))))) :: xs) := hD
          refine lv_iload_n hX hB dL_hangs_149 rfl (lv_at hl 5 rfl) ?_
          refine lv_iload hX hB dL_hangs_150 (lv_at hl 0 rfl) ?_
          refine zz_if_eq X (tgt := 159) dL_hangs_152 (by decide) ⟨by omega, by omega⟩ (fun c_152 => ?_) (fun c_152 => by exfalso; omega)
          refine lv_iconst (v := nZ 0) hX hB dL_hangs_159 rfl ?_
          refine zz_iadd X dL_hangs_160 (z := cl) (by first | rfl | omega) ?_
          refine lv_istore_n (lv' := [(2, .int (nZ cl)), (9, .int (nZ 0)), (8, .int (nZ (((pl + 2) / 10) - 1))), (7, .int (nZ pl)), (0, .ref h), (1, .int (nZ cn)), (3, .ref q6), (4, .int (nZ (↑ln : Int))), (5, .int (nZ bf)), (6, .int (nZ (↑r : Int)))]) hX hB dL_hangs_161 rfl hl (by decide) rfl (fun ls hl => ?_)
          refine lv_iinc (v := nZ (cn + 1)) (lv' := [(1, .int (nZ (cn + 1))), (2, .int (nZ cl)), (9, .int (nZ 0)), (8, .int (nZ (((pl + 2) / 10) - 1))), (7, .int (nZ pl)), (0, .ref h), (3, .ref q6), (4, .int (nZ (↑ln : Int))), (5, .int (nZ bf)), (6, .int (nZ (↑r : Int)))]) hX hB dL_hangs_162 hl (k := 5) rfl (zinc (by omega)) (by decide) rfl (fun ls hl => ?_)
          refine lv_iload hX hB dL_hangs_165 (lv_at hl 4 rfl) ?_
          refine lv_istore (lv' := [(5, .int (nZ pl)), (1, .int (nZ (cn + 1))), (2, .int (nZ cl)), (9, .int (nZ 0)), (8, .int (nZ (((pl + 2) / 10) - 1))), (7, .int (nZ pl)), (0, .ref h), (3, .ref q6), (4, .int (nZ (↑ln : Int))), (6, .int (nZ (↑r : Int)))]) hX hB dL_hangs_167 hl (by decide) rfl (fun ls hl => ?_)
          refine lv_iinc (v := nZ (↑(r + 1) : Int)) (lv' := [(6, .int (nZ (↑(r + 1) : Int))), (5, .int (nZ pl)), (1, .int (nZ (cn + 1))), (2, .int (nZ cl)), (9, .int (nZ 0)), (8, .int (nZ (((pl + 2) / 10) - 1))), (7, .int (nZ pl)), (0, .ref h), (3, .ref q6), (4, .int (nZ (↑ln : Int)))]) hX hB dL_hangs_169 hl (k := 9) rfl (zinc (by omega)) (by decide) rfl (fun ls hl => ?_)
          refine lv_goto (tgt := 25) hX hB dL_hangs_172 (by decide) ?_
          exact ih_25 ((r + 1), (cn + 1), cl, pl, (zU g 0 (g 0)), xs) _ _ _ ⟨(by omega), (by omega), (by exact hcl2), (by intro _; rw [Nat.add_sub_cancel]; exact hpg), (by exact hg2), (by exact hx), hP, hD, hS, (lv_sub hl [7, 2, 3, 8, 9, 1, 0] rfl)⟩ (by dsimp only; omega)
      · refine lv_iload hX hB dL_hangs_69 (lv_at hl 0 rfl) ?_
        refine zz_if_lt X (tgt := 85) dL_hangs_71 (by decide) ⟨by omega, by omega⟩ (fun c_71 => ?_) (fun c_71 => ?_)
        · refine lv_iconst (v := nZ 0) hX hB dL_hangs_85 rfl ?_
          have hout := law_out (x := pl) ⟨by omega, by omega⟩ (by omega)
          have hcl2 : cl = sumTo (fun j => cleanAllS (B.2 j)) ln + cleanAllS ((B.2 ln).take (r + 1)) := by rw [cleanAllS_take _ _ hrl, ← hpg, if_pos hout]; omega
          have hg2 := beds_out hg hrl hpg hout
          refine lv_istore (lv' := [(9, .int (nZ 0)), (8, .int (nZ (((pl + 2) / 10) - 1))), (7, .int (nZ pl)), (0, .ref h), (1, .int (nZ cn)), (2, .int (nZ cl)), (3, .ref q6), (4, .int (nZ (↑ln : Int))), (5, .int (nZ bf)), (6, .int (nZ (↑r : Int)))]) hX hB dL_hangs_86 hl (by decide) rfl (fun ls hl => ?_)
          refine lv_iload hX hB dL_hangs_88 (lv_at hl 2 rfl) ?_
          refine zz_if_lt X (tgt := 121) dL_hangs_90 (by decide) ⟨by omega, by omega⟩ (fun c_90 => by exfalso; omega) (fun c_90 => ?_)
          refine lv_iload hX hB dL_hangs_93 (lv_at hl 2 rfl) ?_
          refine lv_bipush (v := nZ 99) hX hB dL_hangs_95 (by decide) ?_
          refine zz_icmp_gt X (tgt := 121) dL_hangs_97 (by decide) ⟨by omega, by omega⟩ ⟨by omega, by omega⟩ (fun c_97 => by exfalso; omega) (fun c_97 => ?_)
          refine lv_iload hX hB dL_hangs_100 (lv_at hl 9 rfl) ?_
          refine zz_if_le X (tgt := 114) dL_hangs_102 (by decide) ⟨by omega, by omega⟩ (fun c_102 => ?_) (fun c_102 => ?_)
          · refine lv_iload hX hB dL_hangs_114 (lv_at hl 9 rfl) ?_
            refine lv_bipush (v := nZ 19) hX hB dL_hangs_116 (by decide) ?_
            refine zz_icmp_le X (tgt := 123) dL_hangs_118 (by decide) ⟨by omega, by omega⟩ ⟨by omega, by omega⟩ (fun c_118 => ?_) (fun c_118 => by exfalso; omega)
            refine lv_aload_n hX hB dL_hangs_123 rfl (lv_at hl 6 rfl) ?_
            refine lv_iload hX hB dL_hangs_124 (lv_at hl 0 rfl) ?_
            refine zz_if_eq X (tgt := 134) dL_hangs_126 (by decide) ⟨by omega, by omega⟩ (fun c_126 => ?_) (fun c_126 => by exfalso; omega)
            refine lv_iconst (v := nZ 0) hX hB dL_hangs_134 rfl ?_
            refine lv_dup2_11 hX hB dL_hangs_135 rfl rfl ?_
            refine zz_iald X hP 0 0 rfl rfl 0 (by omega) (by omega) (by first | decide | omega) dL_hangs_136 ?_
            refine lv_iload hX hB dL_hangs_137 (lv_at hl 0 rfl) ?_
            refine zz_if_eq X (tgt := 146) dL_hangs_139 (by decide) ⟨by omega, by omega⟩ (fun c_139 => ?_) (fun c_139 => by exfalso; omega)
            refine lv_iconst (v := nZ 0) hX hB dL_hangs_146 rfl ?_
            refine zz_iadd X dL_hangs_147 (z := (g 0)) (by first | rfl | omega) ?_
            refine zz_iast X hP hD hS 0 0 rfl rfl 0 (by omega) (by omega) (by first | decide | omega) dL_hangs_148 (fun H locs hP hD hS => ?_)
            have hP : va_P D vwCl ((q6, .inl (k 0, 9, .inl (zA (zU g 0 (g 0))))) :: xs) H := hP
            have hD : va_D A ((q6, .inl (k 0, 9, .inl (zA (zU g 0 (g 0))))) :: xs) := hD
            refine lv_iload_n hX hB dL_hangs_149 rfl (lv_at hl 5 rfl) ?_
            refine lv_iload hX hB dL_hangs_150 (lv_at hl 0 rfl) ?_
            refine zz_if_eq X (tgt := 159) dL_hangs_152 (by decide) ⟨by omega, by omega⟩ (fun c_152 => ?_) (fun c_152 => by exfalso; omega)
            refine lv_iconst (v := nZ 0) hX hB dL_hangs_159 rfl ?_
            refine zz_iadd X dL_hangs_160 (z := cl) (by first | rfl | omega) ?_
            refine lv_istore_n (lv' := [(2, .int (nZ cl)), (9, .int (nZ 0)), (8, .int (nZ (((pl + 2) / 10) - 1))), (7, .int (nZ pl)), (0, .ref h), (1, .int (nZ cn)), (3, .ref q6), (4, .int (nZ (↑ln : Int))), (5, .int (nZ bf)), (6, .int (nZ (↑r : Int)))]) hX hB dL_hangs_161 rfl hl (by decide) rfl (fun ls hl => ?_)
            refine lv_iinc (v := nZ (cn + 1)) (lv' := [(1, .int (nZ (cn + 1))), (2, .int (nZ cl)), (9, .int (nZ 0)), (8, .int (nZ (((pl + 2) / 10) - 1))), (7, .int (nZ pl)), (0, .ref h), (3, .ref q6), (4, .int (nZ (↑ln : Int))), (5, .int (nZ bf)), (6, .int (nZ (↑r : Int)))]) hX hB dL_hangs_162 hl (k := 5) rfl (zinc (by omega)) (by decide) rfl (fun ls hl => ?_)
            refine lv_iload hX hB dL_hangs_165 (lv_at hl 4 rfl) ?_
            refine lv_istore (lv' := [(5, .int (nZ pl)), (1, .int (nZ (cn + 1))), (2, .int (nZ cl)), (9, .int (nZ 0)), (8, .int (nZ (((pl + 2) / 10) - 1))), (7, .int (nZ pl)), (0, .ref h), (3, .ref q6), (4, .int (nZ (↑ln : Int))), (6, .int (nZ (↑r : Int)))]) hX hB dL_hangs_167 hl (by decide) rfl (fun ls hl => ?_)
            refine lv_iinc (v := nZ (↑(r + 1) : Int)) (lv' := [(6, .int (nZ (↑(r + 1) : Int))), (5, .int (nZ pl)), (1, .int (nZ (cn + 1))), (2, .int (nZ cl)), (9, .int (nZ 0)), (8, .int (nZ (((pl + 2) / 10) - 1))), (7, .int (nZ pl)), (0, .ref h), (3, .ref q6), (4, .int (nZ (↑ln : Int)))]) hX hB dL_hangs_169 hl (k := 9) rfl (zinc (by omega)) (by decide) rfl (fun ls hl => ?_)
            refine lv_goto (tgt := 25) hX hB dL_hangs_172 (by decide) ?_
            exact ih_25 ((r + 1), (cn + 1), cl, pl, (zU g 0 (g 0)), xs) _ _ _ ⟨(by omega), (by omega), (by exact hcl2), (by intro _; rw [Nat.add_sub_cancel]; exact hpg), (by exact hg2), (by exact hx), hP, hD, hS, (lv_sub hl [7, 2, 3, 8, 9, 1, 0] rfl)⟩ (by dsimp only; omega)
          · have hgap := chain_before hc (r := r) (by omega) hrl
            have hb9 := hbf (by omega)
            refine lv_iload hX hB dL_hangs_105 (lv_at hl 2 rfl) ?_
            refine lv_iload hX hB dL_hangs_107 (lv_at hl 8 rfl) ?_
            refine zz_isub X dL_hangs_109 (z := (pl - bf)) (by first | rfl | omega) ?_
            refine lv_iconst (v := nZ 5) hX hB dL_hangs_110 rfl ?_
            refine zz_icmp_lt X (tgt := 121) dL_hangs_111 (by decide) ⟨by omega, by omega⟩ ⟨by omega, by omega⟩ (fun c_111 => by exfalso; omega) (fun c_111 => ?_)
            refine lv_iload hX hB dL_hangs_114 (lv_at hl 9 rfl) ?_
            refine lv_bipush (v := nZ 19) hX hB dL_hangs_116 (by decide) ?_
            refine zz_icmp_le X (tgt := 123) dL_hangs_118 (by decide) ⟨by omega, by omega⟩ ⟨by omega, by omega⟩ (fun c_118 => ?_) (fun c_118 => by exfalso; omega)
            refine lv_aload_n hX hB dL_hangs_123 rfl (lv_at hl 6 rfl) ?_
            refine lv_iload hX hB dL_hangs_124 (lv_at hl 0 rfl) ?_
            refine zz_if_eq X (tgt := 134) dL_hangs_126 (by decide) ⟨by omega, by omega⟩ (fun c_126 => ?_) (fun c_126 => by exfalso; omega)
            refine lv_iconst (v := nZ 0) hX hB dL_hangs_134 rfl ?_
            refine lv_dup2_11 hX hB dL_hangs_135 rfl rfl ?_
            refine zz_iald X hP 0 0 rfl rfl 0 (by omega) (by omega) (by first | decide | omega) dL_hangs_136 ?_
            refine lv_iload hX hB dL_hangs_137 (lv_at hl 0 rfl) ?_
            refine zz_if_eq X (tgt := 146) dL_hangs_139 (by decide) ⟨by omega, by omega⟩ (fun c_139 => ?_) (fun c_139 => by exfalso; omega)
            refine lv_iconst (v := nZ 0) hX hB dL_hangs_146 rfl ?_
            refine zz_iadd X dL_hangs_147 (z := (g 0)) (by first | rfl | omega) ?_
            refine zz_iast X hP hD hS 0 0 rfl rfl 0 (by omega) (by omega) (by first | decide | omega) dL_hangs_148 (fun H locs hP hD hS => ?_)
            have hP : va_P D vwCl ((q6, .inl (k 0, 9, .inl (zA (zU g 0 (g 0))))) :: xs) H := hP
            have hD : va_D A ((q6, .inl (k 0, 9, .inl (zA (zU g 0 (g 0))))) :: xs) := hD
            refine lv_iload_n hX hB dL_hangs_149 rfl (lv_at hl 5 rfl) ?_
            refine lv_iload hX hB dL_hangs_150 (lv_at hl 0 rfl) ?_
            refine zz_if_eq X (tgt := 159) dL_hangs_152 (by decide) ⟨by omega, by omega⟩ (fun c_152 => ?_) (fun c_152 => by exfalso; omega)
            refine lv_iconst (v := nZ 0) hX hB dL_hangs_159 rfl ?_
            refine zz_iadd X dL_hangs_160 (z := cl) (by first | rfl | omega) ?_
            refine lv_istore_n (lv' := [(2, .int (nZ cl)), (9, .int (nZ 0)), (8, .int (nZ (((pl + 2) / 10) - 1))), (7, .int (nZ pl)), (0, .ref h), (1, .int (nZ cn)), (3, .ref q6), (4, .int (nZ (↑ln : Int))), (5, .int (nZ bf)), (6, .int (nZ (↑r : Int)))]) hX hB dL_hangs_161 rfl hl (by decide) rfl (fun ls hl => ?_)
            refine lv_iinc (v := nZ (cn + 1)) (lv' := [(1, .int (nZ (cn + 1))), (2, .int (nZ cl)), (9, .int (nZ 0)), (8, .int (nZ (((pl + 2) / 10) - 1))), (7, .int (nZ pl)), (0, .ref h), (3, .ref q6), (4, .int (nZ (↑ln : Int))), (5, .int (nZ bf)), (6, .int (nZ (↑r : Int)))]) hX hB dL_hangs_162 hl (k := 5) rfl (zinc (by omega)) (by decide) rfl (fun ls hl => ?_)
            refine lv_iload hX hB dL_hangs_165 (lv_at hl 4 rfl) ?_
            refine lv_istore (lv' := [(5, .int (nZ pl)), (1, .int (nZ (cn + 1))), (2, .int (nZ cl)), (9, .int (nZ 0)), (8, .int (nZ (((pl + 2) / 10) - 1))), (7, .int (nZ pl)), (0, .ref h), (3, .ref q6), (4, .int (nZ (↑ln : Int))), (6, .int (nZ (↑r : Int)))]) hX hB dL_hangs_167 hl (by decide) rfl (fun ls hl => ?_)
            refine lv_iinc (v := nZ (↑(r + 1) : Int)) (lv' := [(6, .int (nZ (↑(r + 1) : Int))), (5, .int (nZ pl)), (1, .int (nZ (cn + 1))), (2, .int (nZ cl)), (9, .int (nZ 0)), (8, .int (nZ (((pl + 2) / 10) - 1))), (7, .int (nZ pl)), (0, .ref h), (3, .ref q6), (4, .int (nZ (↑ln : Int)))]) hX hB dL_hangs_169 hl (k := 9) rfl (zinc (by omega)) (by decide) rfl (fun ls hl => ?_)
            refine lv_goto (tgt := 25) hX hB dL_hangs_172 (by decide) ?_
            exact ih_25 ((r + 1), (cn + 1), cl, pl, (zU g 0 (g 0)), xs) _ _ _ ⟨(by omega), (by omega), (by exact hcl2), (by intro _; rw [Nat.add_sub_cancel]; exact hpg), (by exact hg2), (by exact hx), hP, hD, hS, (lv_sub hl [7, 2, 3, 8, 9, 1, 0] rfl)⟩ (by dsimp only; omega)
        · refine lv_iload hX hB dL_hangs_74 (lv_at hl 0 rfl) ?_
          refine lv_bipush (v := nZ 9) hX hB dL_hangs_76 (by decide) ?_
          refine zz_icmp_ge X (tgt := 85) dL_hangs_78 (by decide) ⟨by omega, by omega⟩ ⟨by omega, by omega⟩ (fun c_78 => ?_) (fun c_78 => ?_)
          · refine lv_iconst (v := nZ 0) hX hB dL_hangs_85 rfl ?_
            have hout := law_out (x := pl) ⟨by omega, by omega⟩ (by omega)
            have hcl2 : cl = sumTo (fun j => cleanAllS (B.2 j)) ln + cleanAllS ((B.2 ln).take (r + 1)) := by rw [cleanAllS_take _ _ hrl, ← hpg, if_pos hout]; omega
            have hg2 := beds_out hg hrl hpg hout
            refine lv_istore (lv' := [(9, .int (nZ 0)), (8, .int (nZ (((pl + 2) / 10) - 1))), (7, .int (nZ pl)), (0, .ref h), (1, .int (nZ cn)), (2, .int (nZ cl)), (3, .ref q6), (4, .int (nZ (↑ln : Int))), (5, .int (nZ bf)), (6, .int (nZ (↑r : Int)))]) hX hB dL_hangs_86 hl (by decide) rfl (fun ls hl => ?_)
            refine lv_iload hX hB dL_hangs_88 (lv_at hl 2 rfl) ?_
            refine zz_if_lt X (tgt := 121) dL_hangs_90 (by decide) ⟨by omega, by omega⟩ (fun c_90 => by exfalso; omega) (fun c_90 => ?_)
            refine lv_iload hX hB dL_hangs_93 (lv_at hl 2 rfl) ?_
            refine lv_bipush (v := nZ 99) hX hB dL_hangs_95 (by decide) ?_
            refine zz_icmp_gt X (tgt := 121) dL_hangs_97 (by decide) ⟨by omega, by omega⟩ ⟨by omega, by omega⟩ (fun c_97 => by exfalso; omega) (fun c_97 => ?_)
            refine lv_iload hX hB dL_hangs_100 (lv_at hl 9 rfl) ?_
            refine zz_if_le X (tgt := 114) dL_hangs_102 (by decide) ⟨by omega, by omega⟩ (fun c_102 => ?_) (fun c_102 => ?_)
            · refine lv_iload hX hB dL_hangs_114 (lv_at hl 9 rfl) ?_
              refine lv_bipush (v := nZ 19) hX hB dL_hangs_116 (by decide) ?_
              refine zz_icmp_le X (tgt := 123) dL_hangs_118 (by decide) ⟨by omega, by omega⟩ ⟨by omega, by omega⟩ (fun c_118 => ?_) (fun c_118 => by exfalso; omega)
              refine lv_aload_n hX hB dL_hangs_123 rfl (lv_at hl 6 rfl) ?_
              refine lv_iload hX hB dL_hangs_124 (lv_at hl 0 rfl) ?_
              refine zz_if_eq X (tgt := 134) dL_hangs_126 (by decide) ⟨by omega, by omega⟩ (fun c_126 => ?_) (fun c_126 => by exfalso; omega)
              refine lv_iconst (v := nZ 0) hX hB dL_hangs_134 rfl ?_
              refine lv_dup2_11 hX hB dL_hangs_135 rfl rfl ?_
              refine zz_iald X hP 0 0 rfl rfl 0 (by omega) (by omega) (by first | decide | omega) dL_hangs_136 ?_
              refine lv_iload hX hB dL_hangs_137 (lv_at hl 0 rfl) ?_
              refine zz_if_eq X (tgt := 146) dL_hangs_139 (by decide) ⟨by omega, by omega⟩ (fun c_139 => ?_) (fun c_139 => by exfalso; omega)
              refine lv_iconst (v := nZ 0) hX hB dL_hangs_146 rfl ?_
              refine zz_iadd X dL_hangs_147 (z := (g 0)) (by first | rfl | omega) ?_
              refine zz_iast X hP hD hS 0 0 rfl rfl 0 (by omega) (by omega) (by first | decide | omega) dL_hangs_148 (fun H locs hP hD hS => ?_)
              have hP : va_P D vwCl ((q6, .inl (k 0, 9, .inl (zA (zU g 0 (g 0))))) :: xs) H := hP
              have hD : va_D A ((q6, .inl (k 0, 9, .inl (zA (zU g 0 (g 0))))) :: xs) := hD
              refine lv_iload_n hX hB dL_hangs_149 rfl (lv_at hl 5 rfl) ?_
              refine lv_iload hX hB dL_hangs_150 (lv_at hl 0 rfl) ?_
              refine zz_if_eq X (tgt := 159) dL_hangs_152 (by decide) ⟨by omega, by omega⟩ (fun c_152 => ?_) (fun c_152 => by exfalso; omega)
              refine lv_iconst (v := nZ 0) hX hB dL_hangs_159 rfl ?_
              refine zz_iadd X dL_hangs_160 (z := cl) (by first | rfl | omega) ?_
              refine lv_istore_n (lv' := [(2, .int (nZ cl)), (9, .int (nZ 0)), (8, .int (nZ (((pl + 2) / 10) - 1))), (7, .int (nZ pl)), (0, .ref h), (1, .int (nZ cn)), (3, .ref q6), (4, .int (nZ (↑ln : Int))), (5, .int (nZ bf)), (6, .int (nZ (↑r : Int)))]) hX hB dL_hangs_161 rfl hl (by decide) rfl (fun ls hl => ?_)
              refine lv_iinc (v := nZ (cn + 1)) (lv' := [(1, .int (nZ (cn + 1))), (2, .int (nZ cl)), (9, .int (nZ 0)), (8, .int (nZ (((pl + 2) / 10) - 1))), (7, .int (nZ pl)), (0, .ref h), (3, .ref q6), (4, .int (nZ (↑ln : Int))), (5, .int (nZ bf)), (6, .int (nZ (↑r : Int)))]) hX hB dL_hangs_162 hl (k := 5) rfl (zinc (by omega)) (by decide) rfl (fun ls hl => ?_)
              refine lv_iload hX hB dL_hangs_165 (lv_at hl 4 rfl) ?_
              refine lv_istore (lv' := [(5, .int (nZ pl)), (1, .int (nZ (cn + 1))), (2, .int (nZ cl)), (9, .int (nZ 0)), (8, .int (nZ (((pl + 2) / 10) - 1))), (7, .int (nZ pl)), (0, .ref h), (3, .ref q6), (4, .int (nZ (↑ln : Int))), (6, .int (nZ (↑r : Int)))]) hX hB dL_hangs_167 hl (by decide) rfl (fun ls hl => ?_)
              refine lv_iinc (v := nZ (↑(r + 1) : Int)) (lv' := [(6, .int (nZ (↑(r + 1) : Int))), (5, .int (nZ pl)), (1, .int (nZ (cn + 1))), (2, .int (nZ cl)), (9, .int (nZ 0)), (8, .int (nZ (((pl + 2) / 10) - 1))), (7, .int (nZ pl)), (0, .ref h), (3, .ref q6), (4, .int (nZ (↑ln : Int)))]) hX hB dL_hangs_169 hl (k := 9) rfl (zinc (by omega)) (by decide) rfl (fun ls hl => ?_)
              refine lv_goto (tgt := 25) hX hB dL_hangs_172 (by decide) ?_
              exact ih_25 ((r + 1), (cn + 1), cl, pl, (zU g 0 (g 0)), xs) _ _ _ ⟨(by omega), (by omega), (by exact hcl2), (by intro _; rw [Nat.add_sub_cancel]; exact hpg), (by exact hg2), (by exact hx), hP, hD, hS, (lv_sub hl [7, 2, 3, 8, 9, 1, 0] rfl)⟩ (by dsimp only; omega)
            · have hgap := chain_before hc (r := r) (by omega) hrl
              have hb9 := hbf (by omega)
              refine lv_iload hX hB dL_hangs_105 (lv_at hl 2 rfl) ?_
              refine lv_iload hX hB dL_hangs_107 (lv_at hl 8 rfl) ?_
              refine zz_isub X dL_hangs_109 (z := (pl - bf)) (by first | rfl | omega) ?_
              refine lv_iconst (v := nZ 5) hX hB dL_hangs_110 rfl ?_
              refine zz_icmp_lt X (tgt := 121) dL_hangs_111 (by decide) ⟨by omega, by omega⟩ ⟨by omega, by omega⟩ (fun c_111 => by exfalso; omega) (fun c_111 => ?_)
              refine lv_iload hX hB dL_hangs_114 (lv_at hl 9 rfl) ?_
              refine lv_bipush (v := nZ 19) hX hB dL_hangs_116 (by decide) ?_
              refine zz_icmp_le X (tgt := 123) dL_hangs_118 (by decide) ⟨by omega, by omega⟩ ⟨by omega, by omega⟩ (fun c_118 => ?_) (fun c_118 => by exfalso; omega)
              refine lv_aload_n hX hB dL_hangs_123 rfl (lv_at hl 6 rfl) ?_
              refine lv_iload hX hB dL_hangs_124 (lv_at hl 0 rfl) ?_
              refine zz_if_eq X (tgt := 134) dL_hangs_126 (by decide) ⟨by omega, by omega⟩ (fun c_126 => ?_) (fun c_126 => by exfalso; omega)
              refine lv_iconst (v := nZ 0) hX hB dL_hangs_134 rfl ?_
              refine lv_dup2_11 hX hB dL_hangs_135 rfl rfl ?_
              refine zz_iald X hP 0 0 rfl rfl 0 (by omega) (by omega) (by first | decide | omega) dL_hangs_136 ?_
              refine lv_iload hX hB dL_hangs_137 (lv_at hl 0 rfl) ?_
              refine zz_if_eq X (tgt := 146) dL_hangs_139 (by decide) ⟨by omega, by omega⟩ (fun c_139 => ?_) (fun c_139 => by exfalso; omega)
              refine lv_iconst (v := nZ 0) hX hB dL_hangs_146 rfl ?_
              refine zz_iadd X dL_hangs_147 (z := (g 0)) (by first | rfl | omega) ?_
              refine zz_iast X hP hD hS 0 0 rfl rfl 0 (by omega) (by omega) (by first | decide | omega) dL_hangs_148 (fun H locs hP hD hS => ?_)
              have hP : va_P D vwCl ((q6, .inl (k 0, 9, .inl (zA (zU g 0 (g 0))))) :: xs) H := hP
              have hD : va_D A ((q6, .inl (k 0, 9, .inl (zA (zU g 0 (g 0))))) :: xs) := hD
              refine lv_iload_n hX hB dL_hangs_149 rfl (lv_at hl 5 rfl) ?_
              refine lv_iload hX hB dL_hangs_150 (lv_at hl 0 rfl) ?_
              refine zz_if_eq X (tgt := 159) dL_hangs_152 (by decide) ⟨by omega, by omega⟩ (fun c_152 => ?_) (fun c_152 => by exfalso; omega)
              refine lv_iconst (v := nZ 0) hX hB dL_hangs_159 rfl ?_
              refine zz_iadd X dL_hangs_160 (z := cl) (by first | rfl | omega) ?_
              refine lv_istore_n (lv' := [(2, .int (nZ cl)), (9, .int (nZ 0)), (8, .int (nZ (((pl + 2) / 10) - 1))), (7, .int (nZ pl)), (0, .ref h), (1, .int (nZ cn)), (3, .ref q6), (4, .int (nZ (↑ln : Int))), (5, .int (nZ bf)), (6, .int (nZ (↑r : Int)))]) hX hB dL_hangs_161 rfl hl (by decide) rfl (fun ls hl => ?_)
              refine lv_iinc (v := nZ (cn + 1)) (lv' := [(1, .int (nZ (cn + 1))), (2, .int (nZ cl)), (9, .int (nZ 0)), (8, .int (nZ (((pl + 2) / 10) - 1))), (7, .int (nZ pl)), (0, .ref h), (3, .ref q6), (4, .int (nZ (↑ln : Int))), (5, .int (nZ bf)), (6, .int (nZ (↑r : Int)))]) hX hB dL_hangs_162 hl (k := 5) rfl (zinc (by omega)) (by decide) rfl (fun ls hl => ?_)
              refine lv_iload hX hB dL_hangs_165 (lv_at hl 4 rfl) ?_
              refine lv_istore (lv' := [(5, .int (nZ pl)), (1, .int (nZ (cn + 1))), (2, .int (nZ cl)), (9, .int (nZ 0)), (8, .int (nZ (((pl + 2) / 10) - 1))), (7, .int (nZ pl)), (0, .ref h), (3, .ref q6), (4, .int (nZ (↑ln : Int))), (6, .int (nZ (↑r : Int)))]) hX hB dL_hangs_167 hl (by decide) rfl (fun ls hl => ?_)
              refine lv_iinc (v := nZ (↑(r + 1) : Int)) (lv' := [(6, .int (nZ (↑(r + 1) : Int))), (5, .int (nZ pl)), (1, .int (nZ (cn + 1))), (2, .int (nZ cl)), (9, .int (nZ 0)), (8, .int (nZ (((pl + 2) / 10) - 1))), (7, .int (nZ pl)), (0, .ref h), (3, .ref q6), (4, .int (nZ (↑ln : Int)))]) hX hB dL_hangs_169 hl (k := 9) rfl (zinc (by omega)) (by decide) rfl (fun ls hl => ?_)
              refine lv_goto (tgt := 25) hX hB dL_hangs_172 (by decide) ?_
              exact ih_25 ((r + 1), (cn + 1), cl, pl, (zU g 0 (g 0)), xs) _ _ _ ⟨(by omega), (by omega), (by exact hcl2), (by intro _; rw [Nat.add_sub_cancel]; exact hpg), (by exact hg2), (by exact hx), hP, hD, hS, (lv_sub hl [7, 2, 3, 8, 9, 1, 0] rfl)⟩ (by dsimp only; omega)
          · refine lv_iconst (v := nZ 1) hX hB dL_hangs_81 rfl ?_
            refine lv_goto (tgt := 86) hX hB dL_hangs_82 (by decide) ?_
            have hin := law_in ⟨by omega, by omega⟩ (x := pl) (by omega) (by omega) (by omega)
            have hcl2 : cl + 1 = sumTo (fun j => cleanAllS (B.2 j)) ln + cleanAllS ((B.2 ln).take (r + 1)) := by rw [cleanAllS_take _ _ hrl, ← hpg, if_neg (by omega)]; omega
            have hg2 := beds_in hg hrl hpg hin (by omega)
            refine lv_istore (lv' := [(9, .int (nZ 1)), (8, .int (nZ (((pl + 2) / 10) - 1))), (7, .int (nZ pl)), (0, .ref h), (1, .int (nZ cn)), (2, .int (nZ cl)), (3, .ref q6), (4, .int (nZ (↑ln : Int))), (5, .int (nZ bf)), (6, .int (nZ (↑r : Int)))]) hX hB dL_hangs_86 hl (by decide) rfl (fun ls hl => ?_)
            refine lv_iload hX hB dL_hangs_88 (lv_at hl 2 rfl) ?_
            refine zz_if_lt X (tgt := 121) dL_hangs_90 (by decide) ⟨by omega, by omega⟩ (fun c_90 => by exfalso; omega) (fun c_90 => ?_)
            refine lv_iload hX hB dL_hangs_93 (lv_at hl 2 rfl) ?_
            refine lv_bipush (v := nZ 99) hX hB dL_hangs_95 (by decide) ?_
            refine zz_icmp_gt X (tgt := 121) dL_hangs_97 (by decide) ⟨by omega, by omega⟩ ⟨by omega, by omega⟩ (fun c_97 => by exfalso; omega) (fun c_97 => ?_)
            refine lv_iload hX hB dL_hangs_100 (lv_at hl 9 rfl) ?_
            refine zz_if_le X (tgt := 114) dL_hangs_102 (by decide) ⟨by omega, by omega⟩ (fun c_102 => ?_) (fun c_102 => ?_)
            · refine lv_iload hX hB dL_hangs_114 (lv_at hl 9 rfl) ?_
              refine lv_bipush (v := nZ 19) hX hB dL_hangs_116 (by decide) ?_
              refine zz_icmp_le X (tgt := 123) dL_hangs_118 (by decide) ⟨by omega, by omega⟩ ⟨by omega, by omega⟩ (fun c_118 => ?_) (fun c_118 => by exfalso; omega)
              refine lv_aload_n hX hB dL_hangs_123 rfl (lv_at hl 6 rfl) ?_
              refine lv_iload hX hB dL_hangs_124 (lv_at hl 0 rfl) ?_
              refine zz_if_eq X (tgt := 134) dL_hangs_126 (by decide) ⟨by omega, by omega⟩ (fun c_126 => by exfalso; omega) (fun c_126 => ?_)
              refine lv_iload hX hB dL_hangs_129 (lv_at hl 1 rfl) ?_
              refine lv_goto (tgt := 135) hX hB dL_hangs_131 (by decide) ?_
              refine lv_dup2_11 hX hB dL_hangs_135 rfl rfl ?_
              refine zz_iald X hP 0 0 rfl rfl ((((pl + 2) / 10) - 1).toNat) (by omega) (by omega) (by first | decide | omega) dL_hangs_136 ?_
              refine lv_iload hX hB dL_hangs_137 (lv_at hl 0 rfl) ?_
              refine zz_if_eq X (tgt := 146) dL_hangs_139 (by decide) ⟨by omega, by omega⟩ (fun c_139 => by exfalso; omega) (fun c_139 => ?_)
              refine lv_iconst (v := nZ 1) hX hB dL_hangs_142 rfl ?_
              refine lv_goto (tgt := 147) hX hB dL_hangs_143 (by decide) ?_
              refine zz_iadd X dL_hangs_147 (z := ((g ((((pl + 2) / 10) - 1).toNat)) + 1)) (by first | rfl | omega) ?_
              refine zz_iast X hP hD hS 0 0 rfl rfl ((((pl + 2) / 10) - 1).toNat) (by omega) (by omega) (by first | decide | omega) dL_hangs_148 (fun H locs hP hD hS => ?_)
              have hP : va_P D vwCl ((q6, .inl (k 0, 9, .inl (zA (zU g ((((pl + 2) / 10) - 1).toNat) ((g ((((pl + 2) / 10) - 1).toNat)) + 1))))) :: xs) H := hP
              have hD : va_D A ((q6, .inl (k 0, 9, .inl (zA (zU g ((((pl + 2) / 10) - 1).toNat) ((g ((((pl + 2) / 10) - 1).toNat)) + 1))))) :: xs) := hD
              refine lv_iload_n hX hB dL_hangs_149 rfl (lv_at hl 5 rfl) ?_
              refine lv_iload hX hB dL_hangs_150 (lv_at hl 0 rfl) ?_
              refine zz_if_eq X (tgt := 159) dL_hangs_152 (by decide) ⟨by omega, by omega⟩ (fun c_152 => by exfalso; omega) (fun c_152 => ?_)
              refine lv_iconst (v := nZ 1) hX hB dL_hangs_155 rfl ?_
              refine lv_goto (tgt := 160) hX hB dL_hangs_156 (by decide) ?_
              refine zz_iadd X dL_hangs_160 (z := (cl + 1)) (by first | rfl | omega) ?_
              refine lv_istore_n (lv' := [(2, .int (nZ (cl + 1))), (9, .int (nZ 1)), (8, .int (nZ (((pl + 2) / 10) - 1))), (7, .int (nZ pl)), (0, .ref h), (1, .int (nZ cn)), (3, .ref q6), (4, .int (nZ (↑ln : Int))), (5, .int (nZ bf)), (6, .int (nZ (↑r : Int)))]) hX hB dL_hangs_161 rfl hl (by decide) rfl (fun ls hl => ?_)
              refine lv_iinc (v := nZ (cn + 1)) (lv' := [(1, .int (nZ (cn + 1))), (2, .int (nZ (cl + 1))), (9, .int (nZ 1)), (8, .int (nZ (((pl + 2) / 10) - 1))), (7, .int (nZ pl)), (0, .ref h), (3, .ref q6), (4, .int (nZ (↑ln : Int))), (5, .int (nZ bf)), (6, .int (nZ (↑r : Int)))]) hX hB dL_hangs_162 hl (k := 5) rfl (zinc (by omega)) (by decide) rfl (fun ls hl => ?_)
              refine lv_iload hX hB dL_hangs_165 (lv_at hl 4 rfl) ?_
              refine lv_istore (lv' := [(5, .int (nZ pl)), (1, .int (nZ (cn + 1))), (2, .int (nZ (cl + 1))), (9, .int (nZ 1)), (8, .int (nZ (((pl + 2) / 10) - 1))), (7, .int (nZ pl)), (0, .ref h), (3, .ref q6), (4, .int (nZ (↑ln : Int))), (6, .int (nZ (↑r : Int)))]) hX hB dL_hangs_167 hl (by decide) rfl (fun ls hl => ?_)
              refine lv_iinc (v := nZ (↑(r + 1) : Int)) (lv' := [(6, .int (nZ (↑(r + 1) : Int))), (5, .int (nZ pl)), (1, .int (nZ (cn + 1))), (2, .int (nZ (cl + 1))), (9, .int (nZ 1)), (8, .int (nZ (((pl + 2) / 10) - 1))), (7, .int (nZ pl)), (0, .ref h), (3, .ref q6), (4, .int (nZ (↑ln : Int)))]) hX hB dL_hangs_169 hl (k := 9) rfl (zinc (by omega)) (by decide) rfl (fun ls hl => ?_)
              refine lv_goto (tgt := 25) hX hB dL_hangs_172 (by decide) ?_
              exact ih_25 ((r + 1), (cn + 1), (cl + 1), pl, (zU g ((((pl + 2) / 10) - 1).toNat) ((g ((((pl + 2) / 10) - 1).toNat)) + 1)), xs) _ _ _ ⟨(by omega), (by omega), (by exact hcl2), (by intro _; rw [Nat.add_sub_cancel]; exact hpg), (by exact hg2), (by exact hx), hP, hD, hS, (lv_sub hl [7, 2, 3, 8, 9, 1, 0] rfl)⟩ (by dsimp only; omega)
            · have hgap := chain_before hc (r := r) (by omega) hrl
              have hb9 := hbf (by omega)
              refine lv_iload hX hB dL_hangs_105 (lv_at hl 2 rfl) ?_
              refine lv_iload hX hB dL_hangs_107 (lv_at hl 8 rfl) ?_
              refine zz_isub X dL_hangs_109 (z := (pl - bf)) (by first | rfl | omega) ?_
              refine lv_iconst (v := nZ 5) hX hB dL_hangs_110 rfl ?_
              refine zz_icmp_lt X (tgt := 121) dL_hangs_111 (by decide) ⟨by omega, by omega⟩ ⟨by omega, by omega⟩ (fun c_111 => by exfalso; omega) (fun c_111 => ?_)
              refine lv_iload hX hB dL_hangs_114 (lv_at hl 9 rfl) ?_
              refine lv_bipush (v := nZ 19) hX hB dL_hangs_116 (by decide) ?_
              refine zz_icmp_le X (tgt := 123) dL_hangs_118 (by decide) ⟨by omega, by omega⟩ ⟨by omega, by omega⟩ (fun c_118 => ?_) (fun c_118 => by exfalso; omega)
              refine lv_aload_n hX hB dL_hangs_123 rfl (lv_at hl 6 rfl) ?_
              refine lv_iload hX hB dL_hangs_124 (lv_at hl 0 rfl) ?_
              refine zz_if_eq X (tgt := 134) dL_hangs_126 (by decide) ⟨by omega, by omega⟩ (fun c_126 => by exfalso; omega) (fun c_126 => ?_)
              refine lv_iload hX hB dL_hangs_129 (lv_at hl 1 rfl) ?_
              refine lv_goto (tgt := 135) hX hB dL_hangs_131 (by decide) ?_
              refine lv_dup2_11 hX hB dL_hangs_135 rfl rfl ?_
              refine zz_iald X hP 0 0 rfl rfl ((((pl + 2) / 10) - 1).toNat) (by omega) (by omega) (by first | decide | omega) dL_hangs_136 ?_
              refine lv_iload hX hB dL_hangs_137 (lv_at hl 0 rfl) ?_
              refine zz_if_eq X (tgt := 146) dL_hangs_139 (by decide) ⟨by omega, by omega⟩ (fun c_139 => by exfalso; omega) (fun c_139 => ?_)
              refine lv_iconst (v := nZ 1) hX hB dL_hangs_142 rfl ?_
              refine lv_goto (tgt := 147) hX hB dL_hangs_143 (by decide) ?_
              refine zz_iadd X dL_hangs_147 (z := ((g ((((pl + 2) / 10) - 1).toNat)) + 1)) (by first | rfl | omega) ?_
              refine zz_iast X hP hD hS 0 0 rfl rfl ((((pl + 2) / 10) - 1).toNat) (by omega) (by omega) (by first | decide | omega) dL_hangs_148 (fun H locs hP hD hS => ?_)
              have hP : va_P D vwCl ((q6, .inl (k 0, 9, .inl (zA (zU g ((((pl + 2) / 10) - 1).toNat) ((g ((((pl + 2) / 10) - 1).toNat)) + 1))))) :: xs) H := hP
              have hD : va_D A ((q6, .inl (k 0, 9, .inl (zA (zU g ((((pl + 2) / 10) - 1).toNat) ((g ((((pl + 2) / 10) - 1).toNat)) + 1))))) :: xs) := hD
              refine lv_iload_n hX hB dL_hangs_149 rfl (lv_at hl 5 rfl) ?_
              refine lv_iload hX hB dL_hangs_150 (lv_at hl 0 rfl) ?_
              refine zz_if_eq X (tgt := 159) dL_hangs_152 (by decide) ⟨by omega, by omega⟩ (fun c_152 => by exfalso; omega) (fun c_152 => ?_)
              refine lv_iconst (v := nZ 1) hX hB dL_hangs_155 rfl ?_
              refine lv_goto (tgt := 160) hX hB dL_hangs_156 (by decide) ?_
              refine zz_iadd X dL_hangs_160 (z := (cl + 1)) (by first | rfl | omega) ?_
              refine lv_istore_n (lv' := [(2, .int (nZ (cl + 1))), (9, .int (nZ 1)), (8, .int (nZ (((pl + 2) / 10) - 1))), (7, .int (nZ pl)), (0, .ref h), (1, .int (nZ cn)), (3, .ref q6), (4, .int (nZ (↑ln : Int))), (5, .int (nZ bf)), (6, .int (nZ (↑r : Int)))]) hX hB dL_hangs_161 rfl hl (by decide) rfl (fun ls hl => ?_)
              refine lv_iinc (v := nZ (cn + 1)) (lv' := [(1, .int (nZ (cn + 1))), (2, .int (nZ (cl + 1))), (9, .int (nZ 1)), (8, .int (nZ (((pl + 2) / 10) - 1))), (7, .int (nZ pl)), (0, .ref h), (3, .ref q6), (4, .int (nZ (↑ln : Int))), (5, .int (nZ bf)), (6, .int (nZ (↑r : Int)))]) hX hB dL_hangs_162 hl (k := 5) rfl (zinc (by omega)) (by decide) rfl (fun ls hl => ?_)
              refine lv_iload hX hB dL_hangs_165 (lv_at hl 4 rfl) ?_
              refine lv_istore (lv' := [(5, .int (nZ pl)), (1, .int (nZ (cn + 1))), (2, .int (nZ (cl + 1))), (9, .int (nZ 1)), (8, .int (nZ (((pl + 2) / 10) - 1))), (7, .int (nZ pl)), (0, .ref h), (3, .ref q6), (4, .int (nZ (↑ln : Int))), (6, .int (nZ (↑r : Int)))]) hX hB dL_hangs_167 hl (by decide) rfl (fun ls hl => ?_)
              refine lv_iinc (v := nZ (↑(r + 1) : Int)) (lv' := [(6, .int (nZ (↑(r + 1) : Int))), (5, .int (nZ pl)), (1, .int (nZ (cn + 1))), (2, .int (nZ (cl + 1))), (9, .int (nZ 1)), (8, .int (nZ (((pl + 2) / 10) - 1))), (7, .int (nZ pl)), (0, .ref h), (3, .ref q6), (4, .int (nZ (↑ln : Int)))]) hX hB dL_hangs_169 hl (k := 9) rfl (zinc (by omega)) (by decide) rfl (fun ls hl => ?_)
              refine lv_goto (tgt := 25) hX hB dL_hangs_172 (by decide) ?_
              exact ih_25 ((r + 1), (cn + 1), (cl + 1), pl, (zU g ((((pl + 2) / 10) - 1).toNat) ((g ((((pl + 2) / 10) - 1).toNat)) + 1)), xs) _ _ _ ⟨(by omega), (by omega), (by exact hcl2), (by intro _; rw [Nat.add_sub_cancel]; exact hpg), (by exact hg2), (by exact hx), hP, hD, hS, (lv_sub hl [7, 2, 3, 8, 9, 1, 0] rfl)⟩ (by dsimp only; omega)
