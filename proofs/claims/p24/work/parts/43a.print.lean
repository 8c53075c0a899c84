/-! the law's small helpers -/
section ZC0
variable {p : Program} {l : Launch} {e : Env} {R : Room} {s : State} {m : MethodId} {args : Array Value} {below : List Frame} {meth : Method} {c : Code} {H : Heap} {locs : List Loc} {cells slots : Nat} {Q : State → Prop}
variable {D : va_G} {k : Nat → ClassId} {pc : Nat} {ls : Array Slot} {rest st0 : List Value} {A : Nat → Prop} {ws : va_W} {H0 : Heap} {a : Array Value} {av : List Value}
theorem zPre0 (hP : va_P D vwCl ws H) (hD : va_D A ws) (hK : zK D k s) : PreS s H (va_Pc av (zIn D k H.size [])) av := zPreSO (wc := []) (rest := ws) hP hD hK (List.Perm.refl _)
theorem zc0n {post : Int32 → Prop} (hr : va_Run p l e R s m args below meth c H locs cells slots 0 0 (F0 m pc ls st0) rest (va_Qi (fun (r : Int32) (u : va_W) => post r ∧ u = []) (fun u => zOut D (va_A [] H.size) u) (va_A [] H.size) a) (va_A [] H.size))
    (hS : va_S A H0 H locs) (hP : va_P D vwCl ws H) (hD : va_D A ws) (hA : ∀ q, H0.size ≤ q → A q)
    (kk : ∀ (r : Int32) (H1 : Heap) (locs1 : List Loc), post r → va_P D vwCl ws H1 → va_D A ws → va_S A H0 H1 locs1 → W p l e R s m args below meth c H1 locs1 cells slots Q (F0 m (pc + 3) ls (.int r :: rest))) : W p l e R s m args below meth c H locs cells slots Q (F0 m pc ls st0) :=
  zCallIO (wc := []) (wr := ws) hr hS hP hD hA (List.Perm.refl _) (fun r u H1 l1 hp hP hD hS => by
    obtain ⟨h1, rfl⟩ := hp
    exact kk r H1 l1 h1 hP hD hS)
end ZC0
theorem ms_L_low : zMS yL_low cL_low 2 (some .int) 2 := ⟨zw_322, zw_68, ⟨by decide +kernel, by decide +kernel, by decide +kernel⟩, zw_321⟩
set_option maxHeartbeats 1000000 in
theorem c_L_low (l : Launch) (D : va_G) (k : Nat → ClassId) (x n : Int) (hn : 0 < n ∧ n < 2147483648) : ∀ sz, Met l yL_low (zW yL_low cL_low 2 (some .int)) ({ frames := 0, cells := 0, slots := 0, locals := 0 } : Room) (va_Pc [.int (nZ x), .int (nZ n)] (zIn D k sz [])) (va_Qi (fun (r : Int32) (u : va_W) => r = nZ (lowS x n) ∧ u = []) (fun u => zOut D (va_A [] sz) u) (va_A [] sz)) 0 0 (va_A [] sz) := by
  intro sz
  refine zEnter (Qf := fun A => va_Qi (fun (r : Int32) (u : va_W) => r = nZ (lowS x n) ∧ u = []) (fun u => zOut D A u) A) RL (by decide) rfl (Nat.le_of_ble_eq_true rfl) ?_
  intro p9 e9 s9 m9 be9 me9 c9 ls A X hin hP hD hS hA hAe hl
  have hX := X.1; have hB := X.2.1; have hz := X.2.2.2.2.1; have hW := X.2.2.2.2.2.1
  have hl : lv_has ls 2 [(0, .int (nZ x)), (1, .int (nZ n))] := hl
  have hr := and_rng (nZ x)
  refine lv_iload_n hX hB dL_low_0 rfl (lv_at hl 0 rfl) ?_
  refine lv_ldc (v := 2147483647) hX hB hW (hz _ zw_323) dL_low_1 ?_
  refine zz_iand X dL_low_3 ?_
  refine lv_iload_n hX hB dL_low_4 rfl (lv_at hl 1 rfl) ?_
  refine zz_irem X dL_low_5 (z := lowS x n) rfl ⟨hr.1, hr.2, hn.1, hn.2⟩ ?_
  exact zRetI [] X hP hD hS rfl ⟨rfl, rfl⟩ dL_low_6
theorem ms_L_print : zMS yL_print cL_print 4 (some .long) 1 := ⟨zw_163, zw_68, ⟨by decide +kernel, by decide +kernel, by decide +kernel⟩, zw_162⟩
set_option maxHeartbeats 2000000 in
set_option maxRecDepth 100000 in
theorem c_L_print (l : Launch) (D : va_G) (k : Nat → ClassId) (h : Nat) (B : Bd) (S : List Bd) (K : Nat → Option Bd) (T : List Int) (xs : va_W) (N : Int) (hN : 0 ≤ N ∧ N < 1000000) (hG : goodT N (B, S, K, T)) (hx : isX k h (B, S, K, T) xs)   : ∀ sz, Met l yL_print (zW yL_print cL_print 4 (some .long)) ({ frames := 10, cells := 0, slots := 0, locals := 300 } : Room) (va_Pc [.ref h] (zIn D k sz xs)) (va_Ql (fun (r : Int64) (u : va_W) => r = nL (printB B) ∧ isX k h (B, S, K, T) u) (fun u => zOut D (va_A xs sz) u) (va_A xs sz)) 0 0 (va_A xs sz) := by
  intro sz
  refine zEnter (Qf := fun A => va_Ql (fun (r : Int64) (u : va_W) => r = nL (printB B) ∧ isX k h (B, S, K, T) u) (fun u => zOut D A u) A) RL (by decide) rfl (Nat.le_of_ble_eq_true rfl) ?_
  intro p9 e9 s9 m9 be9 me9 c9 ls A X hin hP hD hS hA hAe hl
  have hX := X.1; have hB := X.2.1; have hz := X.2.2.2.2.1; have hW := X.2.2.2.2.2.1; have hK := X.2.2.2.2.2.2.2; clear hAe; clear hin
  have hl : lv_has ls 4 [(0, .ref h)] := hl
  refine lv_aload_n hX hB dL_print_0 rfl (lv_at hl 0 rfl) ?_
  refine zc1n (zRunV (As := []) X mv_X6_setting (wb_setting l D k h B S K T xs hG.1 hx  (B.1 0) (rfl)  _) zw_165 (zPreV1 hP hD hK hx rfl) rfl hl (Nat.le_of_ble_eq_true rfl) dL_print_1 ⟨rfl, rfl, ⟨Nat.le_of_ble_eq_true rfl, Nat.le_of_ble_eq_true rfl⟩, Nat.le_of_ble_eq_true rfl, Nat.le_of_ble_eq_true rfl⟩ rfl) hS hP hD hA (fun r xs H locs hpost hP hD hS => ?_)
  obtain ⟨rfl, hx⟩ := hpost
  refine lv_i2l (v := nL (zw32 (B.1 0))) hX hB dL_print_4 (zi2l _) ?_
  refine lv_lstore_n (lv' := [(1, .long (nL (zw32 (B.1 0)))), (0, .ref h)]) hX hB dL_print_5 rfl hl (by decide) rfl (fun ls hl => ?_)
  refine lv_iconst (v := nZ 0) hX hB dL_print_6 rfl ?_
  refine lv_istore_n (lv' := [(3, .int (nZ 0)), (1, .long (nL (zw32 (B.1 0)))), (0, .ref h)]) hX hB dL_print_7 rfl hl (by decide) rfl (fun ls hl => ?_)
  refine zLoop (σ := Nat × Int × va_W) (fun (x : Nat × Int × va_W) (H : Heap) (locs : List Loc) (ls : Array Slot) => match x with | (n, v, xs) => (n ≤ 12) ∧ (v = foldH (fun w => countB B 0 w) (zw32 (B.1 0)) n) ∧ (isX k h (B, S, K, T) xs) ∧ va_P D vwCl xs H ∧ va_D A xs ∧ va_S A s9.heap H locs ∧ lv_has ls 4 [(0, .ref h), (1, .long (nL v)), (3, .int (nZ (↑n : Int)))]) (fun (x : Nat × Int × va_W) => match x with | (n, v, xs) => 12 - n) ?_ (0, (zw32 (B.1 0)), xs) ⟨(by omega), (by rfl), (by exact hx), hP, hD, hS, (lv_sub hl [2, 1, 0] rfl)⟩
  rintro ⟨n, v, xs⟩ H locs ls ⟨hn, hv, hx, hP, hD, hS, hl⟩ ih_8
  refine lv_iload_n hX hB dL_print_8 rfl (lv_at hl 2 rfl) ?_
  refine lv_bipush (v := nZ 12) hX hB dL_print_9 (by decide) ?_
  refine zz_icmp_ge X (tgt := 33) dL_print_11 (by decide) ⟨by omega, by omega⟩ ⟨by omega, by omega⟩ (fun c_11 => ?_) (fun c_11 => ?_)
  · have hv12 : v = foldH (fun w => countB B 0 w) (zw32 (B.1 0)) 12 := by rw [hv, show n = 12 by omega]
    refine lv_iconst (v := nZ 0) hX hB dL_print_33 rfl ?_
    refine lv_istore_n (lv' := [(3, .int (nZ 0)), (0, .ref h), (1, .long (nL v))]) hX hB dL_print_34 rfl hl (by decide) rfl (fun ls hl => ?_)
    refine zLoop (σ := Nat × Int × va_W) (fun (x : Nat × Int × va_W) (H : Heap) (locs : List Loc) (ls : Array Slot) => match x with | (n, v, xs) => (n ≤ 60) ∧ (v = foldH (fun k => placeAtS (B.2 ((k : Int) / 20).toNat) ((k : Int) % 20)) (foldH (fun w => countB B 0 w) (zw32 (B.1 0)) 12) n) ∧ (isX k h (B, S, K, T) xs) ∧ va_P D vwCl xs H ∧ va_D A xs ∧ va_S A s9.heap H locs ∧ lv_has ls 4 [(0, .ref h), (1, .long (nL v)), (3, .int (nZ (↑n : Int)))]) (fun (x : Nat × Int × va_W) => match x with | (n, v, xs) => 60 - n) ?_ (0, v, xs) ⟨(by omega), (by exact hv12), (by exact hx), hP, hD, hS, (lv_sub hl [1, 2, 0] rfl)⟩
    rintro ⟨n, v, xs⟩ H locs ls ⟨hn, hv, hx, hP, hD, hS, hl⟩ ih_35
    refine lv_iload_n hX hB dL_print_35 rfl (lv_at hl 2 rfl) ?_
    refine lv_bipush (v := nZ 60) hX hB dL_print_36 (by decide) ?_
    refine zz_icmp_ge X (tgt := 67) dL_print_38 (by decide) ⟨by omega, by omega⟩ ⟨by omega, by omega⟩ (fun c_38 => ?_) (fun c_38 => ?_)
    · have hv60 : v = foldH (fun k => placeAtS (B.2 ((k : Int) / 20).toNat) ((k : Int) % 20)) (foldH (fun w => countB B 0 w) (zw32 (B.1 0)) 12) 60 := by rw [hv, show n = 60 by omega]
      refine lv_iconst (v := nZ 0) hX hB dL_print_67 rfl ?_
      refine lv_istore_n (lv' := [(3, .int (nZ 0)), (0, .ref h), (1, .long (nL v))]) hX hB dL_print_68 rfl hl (by decide) rfl (fun ls hl => ?_)
      refine zLoop (σ := Nat × Int × va_W) (fun (x : Nat × Int × va_W) (H : Heap) (locs : List Loc) (ls : Array Slot) => match x with | (n, v, xs) => (n ≤ 18) ∧ (v = foldH (fun k => bedOfS (chB B) (B.1 1) ((k : Int) / 2) (cleanB B ((k : Int) / 2)) (1 + (k : Int) % 2)) (foldH (fun k => placeAtS (B.2 ((k : Int) / 20).toNat) ((k : Int) % 20)) (foldH (fun w => countB B 0 w) (zw32 (B.1 0)) 12) 60) n) ∧ (isX k h (B, S, K, T) xs) ∧ va_P D vwCl xs H ∧ va_D A xs ∧ va_S A s9.heap H locs ∧ lv_has ls 4 [(0, .ref h), (1, .long (nL v)), (3, .int (nZ (↑n : Int)))]) (fun (x : Nat × Int × va_W) => match x with | (n, v, xs) => 18 - n) ?_ (0, v, xs) ⟨(by omega), (by exact hv60), (by exact hx), hP, hD, hS, (lv_sub hl [1, 2, 0] rfl)⟩
      rintro ⟨n, v, xs⟩ H locs ls ⟨hn, hv, hx, hP, hD, hS, hl⟩ ih_69
      refine lv_iload_n hX hB dL_print_69 rfl (lv_at hl 2 rfl) ?_
      refine lv_bipush (v := nZ 18) hX hB dL_print_70 (by decide) ?_
      refine zz_icmp_ge X (tgt := 101) dL_print_72 (by decide) ⟨by omega, by omega⟩ ⟨by omega, by omega⟩ (fun c_72 => ?_) (fun c_72 => ?_)
      · refine lv_lload_n hX hB dL_print_101 rfl (lv_at hl 1 rfl) ?_
        have hv18 : v = printB B := by rw [hv, show n = 18 by omega]; rfl
        exact zRetL xs X hP hD hS rfl ⟨by rw [hv18], hx⟩ dL_print_102
      · refine lv_ldc2 (v := nL 31) hX hB hW (hz _ zw_164) dL_print_75 ?_
        refine lv_lload_n hX hB dL_print_78 rfl (lv_at hl 1 rfl) ?_
        refine zz_lmul X dL_print_79 ?_
        refine lv_aload_n hX hB dL_print_80 rfl (lv_at hl 0 rfl) ?_
        refine lv_iload_n hX hB dL_print_81 rfl (lv_at hl 2 rfl) ?_
        refine lv_iconst (v := nZ 2) hX hB dL_print_82 rfl ?_
        refine zz_idiv X dL_print_83 (z := ((↑n : Int) / 2)) (by first | rfl | omega) ⟨by omega, by omega, by omega, by omega⟩ ?_
        refine lv_iconst (v := nZ 1) hX hB dL_print_84 rfl ?_
        refine lv_iload_n hX hB dL_print_85 rfl (lv_at hl 2 rfl) ?_
        refine lv_iconst (v := nZ 2) hX hB dL_print_86 rfl ?_
        refine zz_irem X dL_print_87 (z := ((↑n : Int) % 2)) (by first | rfl | omega) ⟨by omega, by omega, by omega, by omega⟩ ?_
        refine zz_iadd X dL_print_88 (z := (1 + ((↑n : Int) % 2))) (by first | rfl | omega) ?_
        refine zc1n (zRunW (As := [.ref h, .int (nZ ((↑n : Int) / 2)), .int (nZ (1 + ((↑n : Int) % 2)))]) X mw_bedOf (wc_bedOf l D k h B S K T xs hG.1 hx ((↑n : Int) / 2) (1 + ((↑n : Int) % 2)) ⟨by omega, by omega⟩ ⟨by omega, by omega⟩ (bedOfS (chB B) (B.1 1) ((↑n : Int) / 2) (cleanB B ((↑n : Int) / 2)) (1 + ((↑n : Int) % 2))) (rfl)  _) zw_96 (zPre1 hP hD hK) rfl hl (Nat.le_of_ble_eq_true rfl) dL_print_89 ⟨rfl, rfl, ⟨Nat.le_of_ble_eq_true rfl, Nat.le_of_ble_eq_true rfl⟩, Nat.le_of_ble_eq_true rfl, Nat.le_of_ble_eq_true rfl⟩ rfl) hS hP hD hA (fun r xs H locs hpost hP hD hS => ?_)
        obtain ⟨rfl, hx⟩ := hpost
        refine lv_i2l (v := nL (zw32 (bedOfS (chB B) (B.1 1) ((↑n : Int) / 2) (cleanB B ((↑n : Int) / 2)) (1 + ((↑n : Int) % 2))))) hX hB dL_print_92 (zi2l _) ?_
        refine zz_ladd X dL_print_93 ?_
        refine lv_lstore_n (lv' := [(1, .long (nL ((31 * v) + (zw32 (bedOfS (chB B) (B.1 1) ((↑n : Int) / 2) (cleanB B ((↑n : Int) / 2)) (1 + ((↑n : Int) % 2))))))), (0, .ref h), (3, .int (nZ (↑n : Int)))]) hX hB dL_print_94 rfl hl (by decide) rfl (fun ls hl => ?_)
        refine lv_iinc (v := nZ (↑(n + 1) : Int)) (lv' := [(3, .int (nZ (↑(n + 1) : Int))), (1, .long (nL ((31 * v) + (zw32 (bedOfS (chB B) (B.1 1) ((↑n : Int) / 2) (cleanB B ((↑n : Int) / 2)) (1 + ((↑n : Int) % 2))))))), (0, .ref h)]) hX hB dL_print_95 hl (k := 2) rfl (zinc (by omega)) (by decide) rfl (fun ls hl => ?_)
        refine lv_goto (tgt := 69) hX hB dL_print_98 (by decide) ?_
        exact ih_69 ((n + 1), ((31 * v) + (zw32 (bedOfS (chB B) (B.1 1) ((↑n : Int) / 2) (cleanB B ((↑n : Int) / 2)) (1 + ((↑n : Int) % 2))))), xs) _ _ _ ⟨(by omega), (by rw [hv]; rfl), (by exact hx), hP, hD, hS, (lv_sub hl [2, 1, 0] rfl)⟩ (by dsimp only; omega)
    · refine lv_ldc2 (v := nL 31) hX hB hW (hz _ zw_164) dL_print_41 ?_
      refine lv_lload_n hX hB dL_print_44 rfl (lv_at hl 1 rfl) ?_
      refine zz_lmul X dL_print_45 ?_
      refine lv_aload_n hX hB dL_print_46 rfl (lv_at hl 0 rfl) ?_
      refine lv_iload_n hX hB dL_print_47 rfl (lv_at hl 2 rfl) ?_
      refine lv_bipush (v := nZ 20) hX hB dL_print_48 (by decide) ?_
      refine zz_idiv X dL_print_50 (z := ((↑n : Int) / 20)) (by first | rfl | omega) ⟨by omega, by omega, by omega, by omega⟩ ?_
      refine lv_iload_n hX hB dL_print_51 rfl (lv_at hl 2 rfl) ?_
      refine lv_bipush (v := nZ 20) hX hB dL_print_52 (by decide) ?_
      refine zz_irem X dL_print_54 (z := ((↑n : Int) % 20)) (by first | rfl | omega) ⟨by omega, by omega, by omega, by omega⟩ ?_
      refine zc1n (zRunW (As := [.ref h, .int (nZ ((↑n : Int) / 20)), .int (nZ ((↑n : Int) % 20))]) X mw_coin (wc_coin l D k h B S K T xs hG.1 hx ((↑n : Int) / 20) ((↑n : Int) % 20) ⟨by omega, by omega⟩ ⟨by omega, by omega⟩ (placeAtS (B.2 ((↑n : Int) / 20).toNat) ((↑n : Int) % 20)) (rfl)  _) zw_71 (zPre1 hP hD hK) rfl hl (Nat.le_of_ble_eq_true rfl) dL_print_55 ⟨rfl, rfl, ⟨Nat.le_of_ble_eq_true rfl, Nat.le_of_ble_eq_true rfl⟩, Nat.le_of_ble_eq_true rfl, Nat.le_of_ble_eq_true rfl⟩ rfl) hS hP hD hA (fun r xs H locs hpost hP hD hS => ?_)
      obtain ⟨rfl, hx⟩ := hpost
      refine lv_i2l (v := nL (zw32 (placeAtS (B.2 ((↑n : Int) / 20).toNat) ((↑n : Int) % 20)))) hX hB dL_print_58 (zi2l _) ?_
      refine zz_ladd X dL_print_59 ?_
      refine lv_lstore_n (lv' := [(1, .long (nL ((31 * v) + (zw32 (placeAtS (B.2 ((↑n : Int) / 20).toNat) ((↑n : Int) % 20)))))), (0, .ref h), (3, .int (nZ (↑n : Int)))]) hX hB dL_print_60 rfl hl (by decide) rfl (fun ls hl => ?_)
      refine lv_iinc (v := nZ (↑(n + 1) : Int)) (lv' := [(3, .int (nZ (↑(n + 1) : Int))), (1, .long (nL ((31 * v) + (zw32 (placeAtS (B.2 ((↑n : Int) / 20).toNat) ((↑n : Int) % 20)))))), (0, .ref h)]) hX hB dL_print_61 hl (k := 2) rfl (zinc (by omega)) (by decide) rfl (fun ls hl => ?_)
      refine lv_goto (tgt := 35) hX hB dL_print_64 (by decide) ?_
      exact ih_35 ((n + 1), ((31 * v) + (zw32 (placeAtS (B.2 ((↑n : Int) / 20).toNat) ((↑n : Int) % 20)))), xs) _ _ _ ⟨(by omega), (by rw [hv]; rfl), (by exact hx), hP, hD, hS, (lv_sub hl [2, 1, 0] rfl)⟩ (by dsimp only; omega)
  · refine lv_ldc2 (v := nL 31) hX hB hW (hz _ zw_164) dL_print_14 ?_
    refine lv_lload_n hX hB dL_print_17 rfl (lv_at hl 1 rfl) ?_
    refine zz_lmul X dL_print_18 ?_
    refine lv_aload_n hX hB dL_print_19 rfl (lv_at hl 0 rfl) ?_
    refine lv_iload_n hX hB dL_print_20 rfl (lv_at hl 2 rfl) ?_
    refine zc1n (zRunW (As := [.ref h, .int (nZ (↑n : Int))]) X mw_count (wc_count l D k h B S K T xs hG.1 hx (↑n : Int) ⟨by omega, by omega⟩ (countB B 0 (↑n : Int)) (count_any (by omega))  _) zw_130 (zPre1 hP hD hK) rfl hl (Nat.le_of_ble_eq_true rfl) dL_print_21 ⟨rfl, rfl, ⟨Nat.le_of_ble_eq_true rfl, Nat.le_of_ble_eq_true rfl⟩, Nat.le_of_ble_eq_true rfl, Nat.le_of_ble_eq_true rfl⟩ rfl) hS hP hD hA (fun r xs H locs hpost hP hD hS => ?_)
    obtain ⟨rfl, hx⟩ := hpost
    refine lv_i2l (v := nL (zw32 (countB B 0 (↑n : Int)))) hX hB dL_print_24 (zi2l _) ?_
    refine zz_ladd X dL_print_25 ?_
    refine lv_lstore_n (lv' := [(1, .long (nL ((31 * v) + (zw32 (countB B 0 (↑n : Int)))))), (0, .ref h), (3, .int (nZ (↑n : Int)))]) hX hB dL_print_26 rfl hl (by decide) rfl (fun ls hl => ?_)
    refine lv_iinc (v := nZ (↑(n + 1) : Int)) (lv' := [(3, .int (nZ (↑(n + 1) : Int))), (1, .long (nL ((31 * v) + (zw32 (countB B 0 (↑n : Int)))))), (0, .ref h)]) hX hB dL_print_27 hl (k := 2) rfl (zinc (by omega)) (by decide) rfl (fun ls hl => ?_)
    refine lv_goto (tgt := 8) hX hB dL_print_30 (by decide) ?_
    exact ih_8 ((n + 1), ((31 * v) + (zw32 (countB B 0 (↑n : Int)))), xs) _ _ _ ⟨(by omega), (by rw [hv]; rfl), (by exact hx), hP, hD, hS, (lv_sub hl [2, 1, 0] rfl)⟩ (by dsimp only; omega)
