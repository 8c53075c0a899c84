/-! the law's own body -/
def lawH (p : Program) (l : Launch) (e : Env) (R : Room) (s : State) (m : MethodId) (args : Array Value) (below : List Frame) (meth : Method) (c : Code) (Q : State → Prop) (D : va_G) (k : Nat → ClassId) (h b : Nat) (A : Nat → Prop) (N i : Int) (cells slots pc : Nat) : Prop :=
  ∀ (H : Heap) (locs : List Loc) (ls : Array Slot) (B : Bd) (S : List Bd) (K : Nat → Option Bd) (T : List Int) (xs : va_W), goodT N (B, S, K, T) → isX k h (B, S, K, T) xs → va_P D vwCl xs H → va_D A xs → va_S A s.heap H locs → lv_has ls 10 [(0, .ref b), (1, .ref h), (2, .int (nZ 1)), (3, .int (nZ i))] → W p l e R s m args below meth c H locs cells slots Q (F0 m pc ls [])
theorem goodT.text {N : Int} {B : Bd} {S : List Bd} {K : Nat → Option Bd} {T T' : List Int} (h : goodT N (B, S, K, T)) : goodT N (B, S, K, T') := h
section LAWC
variable {p : Program} {l : Launch} {e : Env} {R : Room} {s : State} {m : MethodId} {args : Array Value} {below : List Frame} {meth : Method} {c : Code} {Q : State → Prop}
variable {D : va_G} {k : Nat → ClassId} {h b L : Nat} {sc : Nat → Int32} {A : Nat → Prop} {cells slots : Nat}
set_option maxHeartbeats 2000000 in
set_option maxRecDepth 100000 in
theorem law_round (X : zCx p s m args meth c cL_law 10 (some .boolean) RL D k) (hA : ∀ q, s.heap.size ≤ q → A q) (hC : va_X b L sc s s.heap) (hbl : b < s.heap.size) (hbA : ¬ A b) (hL : L ≤ 260) {n : Nat} (hn : n < 46) (hcs : cells + 80 ≤ 600000 ∧ slots + 800 ≤ 7000000) (KK : lawH p l e room_1 s m args below meth c Q D k h b A ((n : Int) + 1) ((n + 1 : Nat) : Int) (cells + 80) (slots + 800) 33) : lawH p l e room_1 s m args below meth c Q D k h b A (n : Int) (n : Int) cells slots 43 := by
  intro H locs ls B S K T xs hG hx hP hD hS hl
  have hX := X.1; have hB := X.2.1; have hz := X.2.2.2.2.1; have hW := X.2.2.2.2.2.1; have hK := X.2.2.2.2.2.2.2
  have hSl : S.length ≤ 6 := hG.1.2.2.2
  refine lv_aload_n hX hB dL_law_43 rfl (lv_at hl 0 rfl) ?_
  refine lv_iconst (v := nZ 2) hX hB dL_law_44 rfl ?_
  refine lv_iload_n hX hB dL_law_45 rfl (lv_at hl 3 rfl) ?_
  refine zz_imul X dL_law_46 (z := (2 * (↑n : Int))) (by first | rfl | omega) ?_
  refine zc0n (post := fun _ => True) (zRunS (As := [.ref b, .int (nZ (2 * (↑n : Int)))]) X ms_L_at (c_L_at l D k b L sc (2 * (↑n : Int)) ⟨by omega, by omega⟩ hL _ (Nat.lt_of_lt_of_le hbl hS.1)) zw_312 (zPreAt hP hD hK hS hC hbl hbA) rfl hl (Nat.le_of_ble_eq_true rfl) dL_law_47 ⟨rfl, rfl, ⟨Nat.le_of_ble_eq_true rfl, Nat.le_of_ble_eq_true rfl⟩, (by have e1 : room_1.cells = 600130 := rfl; have e2 : room_1.slots = 7301080 := rfl; omega), (by have e1 : room_1.cells = 600130 := rfl; have e2 : room_1.slots = 7301080 := rfl; omega)⟩ rfl) hS hP hD hA (fun r H locs _ hP hD hS => ?_)
  obtain ⟨x, rfl⟩ : ∃ z, r = nZ z := ⟨_, (nZ_as _).symm⟩
  refine lv_istore (lv' := [(4, .int (nZ x)), (0, .ref b), (1, .ref h), (2, .int (nZ 1)), (3, .int (nZ (↑n : Int)))]) hX hB dL_law_50 hl (by decide) rfl (fun ls hl => ?_)
  refine lv_aload_n hX hB dL_law_52 rfl (lv_at hl 1 rfl) ?_
  refine lv_iconst (v := nZ 2) hX hB dL_law_53 rfl ?_
  refine lv_iload_n hX hB dL_law_54 rfl (lv_at hl 4 rfl) ?_
  refine zz_imul X dL_law_55 (z := (2 * (↑n : Int))) (by first | rfl | omega) ?_
  refine lv_iconst (v := nZ 1) hX hB dL_law_56 rfl ?_
  refine zz_iadd X dL_law_57 (z := ((2 * (↑n : Int)) + 1)) (by first | rfl | omega) ?_
  refine zc0n (post := fun _ => True) (zRunS (As := [.ref b, .int (nZ ((2 * (↑n : Int)) + 1))]) X ms_L_at (c_L_at l D k b L sc ((2 * (↑n : Int)) + 1) ⟨by omega, by omega⟩ hL _ (Nat.lt_of_lt_of_le hbl hS.1)) zw_312 (zPreAt hP hD hK hS hC hbl hbA) rfl hl (Nat.le_of_ble_eq_true rfl) dL_law_58 ⟨rfl, rfl, ⟨Nat.le_of_ble_eq_true rfl, Nat.le_of_ble_eq_true rfl⟩, (by have e1 : room_1.cells = 600130 := rfl; have e2 : room_1.slots = 7301080 := rfl; omega), (by have e1 : room_1.cells = 600130 := rfl; have e2 : room_1.slots = 7301080 := rfl; omega)⟩ rfl) hS hP hD hA (fun r H locs _ hP hD hS => ?_)
  obtain ⟨y, rfl⟩ : ∃ z, r = nZ z := ⟨_, (nZ_as _).symm⟩
  refine lv_istore (lv' := [(5, .int (nZ y)), (4, .int (nZ x)), (0, .ref b), (1, .ref h), (2, .int (nZ 1)), (3, .int (nZ (↑n : Int)))]) hX hB dL_law_61 hl (by decide) rfl (fun ls hl => ?_)
  refine lv_aload_n hX hB dL_law_63 rfl (lv_at hl 3 rfl) ?_
  refine lv_bipush (v := nZ 12) hX hB dL_law_64 (by decide) ?_
  refine zc1n (zRunW (As := [.ref h, .int (nZ 12)]) X mw_count (wc_count l D k h B S K T xs hG.1 hx 12 ⟨by omega, by omega⟩ (S.length : Int) (rfl)  _) zw_130 (zPre1 hP hD hK) rfl hl (Nat.le_of_ble_eq_true rfl) dL_law_66 ⟨rfl, rfl, ⟨Nat.le_of_ble_eq_true rfl, Nat.le_of_ble_eq_true rfl⟩, (by have e1 : room_1.cells = 600130 := rfl; have e2 : room_1.slots = 7301080 := rfl; omega), (by have e1 : room_1.cells = 600130 := rfl; have e2 : room_1.slots = 7301080 := rfl; omega)⟩ rfl) hS hP hD hA (fun r xs H locs hpost hP hD hS => ?_)
  obtain ⟨rfl, hx⟩ := hpost
  refine lv_istore (lv' := [(6, .int (nZ (S.length : Int))), (5, .int (nZ y)), (4, .int (nZ x)), (0, .ref b), (1, .ref h), (2, .int (nZ 1)), (3, .int (nZ (↑n : Int)))]) hX hB dL_law_69 hl (by decide) rfl (fun ls hl => ?_)
  refine lv_aload_n hX hB dL_law_71 rfl (lv_at hl 4 rfl) ?_
  refine zcL1n (zRunS (As := [.ref h]) X ms_L_print (c_L_print l D k h B S K T xs (n : Int) ⟨by omega, by omega⟩ hG hx  _) zw_161 (zPre1 hP hD hK) rfl hl (Nat.le_of_ble_eq_true rfl) dL_law_72 ⟨rfl, rfl, ⟨Nat.le_of_ble_eq_true rfl, Nat.le_of_ble_eq_true rfl⟩, (by have e1 : room_1.cells = 600130 := rfl; have e2 : room_1.slots = 7301080 := rfl; omega), (by have e1 : room_1.cells = 600130 := rfl; have e2 : room_1.slots = 7301080 := rfl; omega)⟩ rfl) hS hP hD hA (fun r xs H locs hpost hP hD hS => ?_)
  obtain ⟨rfl, hx⟩ := hpost
  refine lv_lstore (lv' := [(7, .long (nL (printB B))), (6, .int (nZ (S.length : Int))), (5, .int (nZ y)), (4, .int (nZ x)), (0, .ref b), (1, .ref h), (2, .int (nZ 1)), (3, .int (nZ (↑n : Int)))]) hX hB dL_law_75 hl (by decide) rfl (fun ls hl => ?_)
  refine lv_aload_n hX hB dL_law_77 rfl (lv_at hl 5 rfl) ?_
  refine lv_iload hX hB dL_law_78 (lv_at hl 3 rfl) ?_
  refine lv_iload hX hB dL_law_80 (lv_at hl 2 rfl) ?_
  refine zc1 (zRunS (As := [.ref h, .int (nZ x), .int (nZ y)]) X ms_L_act (c_L_act l D k h B S K T xs (n : Int) ⟨by omega, by omega⟩ hG hx x y _) zw_317 (zPre1 hP hD hK) rfl hl (Nat.le_of_ble_eq_true rfl) dL_law_82 ⟨rfl, rfl, ⟨Nat.le_of_ble_eq_true rfl, Nat.le_of_ble_eq_true rfl⟩, (by have e1 : room_1.cells = 600130 := rfl; have e2 : room_1.slots = 7301080 := rfl; omega), (by have e1 : room_1.cells = 600130 := rfl; have e2 : room_1.slots = 7301080 := rfl; omega)⟩ rfl) hS hP hD hA (fun r xs H locs hpost hP hD hS => ?_)
  obtain ⟨rfl, T1, hx⟩ := hpost
  obtain ⟨B1, hB1⟩ : ∃ v, actF x y B = v := ⟨_, rfl⟩
  obtain ⟨S1, hS1⟩ : ∃ v, saveL S B = v := ⟨_, rfl⟩
  have hGa := act_good x y hG.1.1 hG.2.1 (by omega)
  have hG1 : goodT ((n : Int) + 1) (B1, S1, K, T1) := by rw [← hB1, ← hS1]; exact hG.save hGa.1 hGa.2
  rw [hB1, hS1] at hx
  have har := act_rng x y (B := B) hG.1.1
  have hsl := saveL_len (B := B) hSl
  rw [hS1] at hsl
  have hsa : S.length < 6 → S1.length = S.length + 1 := fun q => by rw [hsl, if_pos q]
  have hsb : ¬ S.length < 6 → S1.length = 6 := fun q => by rw [hsl, if_neg q]
  refine lv_istore (lv' := [(9, .int (nZ (actR x y B))), (7, .long (nL (printB B))), (6, .int (nZ (S.length : Int))), (5, .int (nZ y)), (4, .int (nZ x)), (0, .ref b), (1, .ref h), (2, .int (nZ 1)), (3, .int (nZ (↑n : Int)))]) hX hB dL_law_85 hl (by decide) rfl (fun ls hl => ?_)
  refine lv_iload hX hB dL_law_87 (lv_at hl 0 rfl) ?_
  refine lv_bipush (v := nZ (-2)) hX hB dL_law_89 (by decide) ?_
  refine zz_icmp_le X (tgt := 123) dL_law_91 (by decide) ⟨by omega, by omega⟩ ⟨by omega, by omega⟩ (fun c_91 => by exfalso; omega) (fun c_91 => ?_)
  refine lv_aload_n hX hB dL_law_94 rfl (lv_at hl 6 rfl) ?_
  refine lv_bipush (v := nZ 12) hX hB dL_law_95 (by decide) ?_
  refine zc1n (zRunW (As := [.ref h, .int (nZ 12)]) X mw_count (wc_count l D k h B1 S1 K T1 xs hG1.1 hx 12 ⟨by omega, by omega⟩ (S1.length : Int) (rfl)  _) zw_130 (zPre1 hP hD hK) rfl hl (Nat.le_of_ble_eq_true rfl) dL_law_97 ⟨rfl, rfl, ⟨Nat.le_of_ble_eq_true rfl, Nat.le_of_ble_eq_true rfl⟩, (by have e1 : room_1.cells = 600130 := rfl; have e2 : room_1.slots = 7301080 := rfl; omega), (by have e1 : room_1.cells = 600130 := rfl; have e2 : room_1.slots = 7301080 := rfl; omega)⟩ rfl) hS hP hD hA (fun r xs H locs hpost hP hD hS => ?_)
  obtain ⟨rfl, hx⟩ := hpost
  refine lv_iload hX hB dL_law_100 (lv_at hl 2 rfl) ?_
  refine lv_bipush (v := nZ 6) hX hB dL_law_102 (by decide) ?_
  refine zz_icmp_ge X (tgt := 114) dL_law_104 (by decide) ⟨by omega, by omega⟩ ⟨by omega, by omega⟩ (fun c_104 => ?_) (fun c_104 => ?_)
  · refine lv_bipush (v := nZ 6) hX hB dL_law_114 (by decide) ?_
    refine zs_ne X (by omega) (tgt := 123) dL_law_116 (by decide) ?_
    refine lv_iconst (v := nZ 1) hX hB dL_law_119 rfl ?_
    refine lv_goto (tgt := 124) hX hB dL_law_120 (by decide) ?_
    refine lv_istore_n (lv' := [(2, .int (nZ 1)), (9, .int (nZ (actR x y B))), (7, .long (nL (printB B))), (6, .int (nZ (S.length : Int))), (5, .int (nZ y)), (4, .int (nZ x)), (0, .ref b), (1, .ref h), (3, .int (nZ (↑n : Int)))]) hX hB dL_law_124 rfl hl (by decide) rfl (fun ls hl => ?_)
    refine lv_iload_n hX hB dL_law_125 rfl (lv_at hl 0 rfl) ?_
    refine zz_if_eq X (tgt := 185) dL_law_126 (by decide) ⟨by omega, by omega⟩ (fun c_126 => by exfalso; omega) (fun c_126 => ?_)
    refine lv_iload hX hB dL_law_129 (lv_at hl 3 rfl) ?_
    refine lv_bipush (v := nZ 6) hX hB dL_law_131 (by decide) ?_
    refine zz_icmp_ge X (tgt := 185) dL_law_133 (by decide) ⟨by omega, by omega⟩ ⟨by omega, by omega⟩ (fun c_133 => ?_) (fun c_133 => ?_)
    · refine lv_iload_n hX hB dL_law_185 rfl (lv_at hl 0 rfl) ?_
      refine zz_if_eq X (tgt := 309) dL_law_186 (by decide) ⟨by omega, by omega⟩ (fun c_186 => by exfalso; omega) (fun c_186 => ?_)
      refine lv_aload_n hX hB dL_law_189 rfl (lv_at hl 7 rfl) ?_
      refine zc1 (zRunS (As := [.ref h]) X ms_L_hangs (c_L_hangs l D k h B1 S1 K T1 xs ((n : Int) + 1) ⟨by omega, by omega⟩ hG1 hx  _) zw_66 (zPre1 hP hD hK) rfl hl (Nat.le_of_ble_eq_true rfl) dL_law_190 ⟨rfl, rfl, ⟨Nat.le_of_ble_eq_true rfl, Nat.le_of_ble_eq_true rfl⟩, (by have e1 : room_1.cells = 600130 := rfl; have e2 : room_1.slots = 7301080 := rfl; omega), (by have e1 : room_1.cells = 600130 := rfl; have e2 : room_1.slots = 7301080 := rfl; omega)⟩ rfl) hS hP hD hA (fun r xs H locs hpost hP hD hS => ?_)
      obtain ⟨rfl, hx⟩ := hpost
      refine zz_if_eq X (tgt := 309) dL_law_193 (by decide) ⟨by omega, by omega⟩ (fun c_193 => by exfalso; omega) (fun c_193 => ?_)
      refine lv_aload_n hX hB dL_law_196 rfl (lv_at hl 7 rfl) ?_
      refine lv_iload hX hB dL_law_197 (lv_at hl 5 rfl) ?_
      refine lv_iconst (v := nZ 5) hX hB dL_law_199 rfl ?_
      refine zz_ishr X dL_law_200 ?_
      refine lv_iconst (v := nZ 3) hX hB dL_law_201 rfl ?_
      have hlo_202 := lowS_rng (zshr x 5) (n := 3) (by first | decide | omega)
      refine zc0n (zRunS X ms_L_low (c_L_low l D k (zshr x 5) 3 (by first | decide | omega) _) zw_320 (zPre0 hP hD hK) rfl hl (Nat.le_of_ble_eq_true rfl) dL_law_202 ⟨rfl, rfl, ⟨Nat.le_of_ble_eq_true rfl, Nat.le_of_ble_eq_true rfl⟩, (by have e1 : room_1.cells = 600130 := rfl; have e2 : room_1.slots = 7301080 := rfl; omega), (by have e1 : room_1.cells = 600130 := rfl; have e2 : room_1.slots = 7301080 := rfl; omega)⟩ rfl) hS hP hD hA (fun r H locs hpost hP hD hS => ?_)
      obtain rfl := hpost
      refine lv_iconst (v := nZ 1) hX hB dL_law_205 rfl ?_
      refine lv_iload hX hB dL_law_206 (lv_at hl 4 rfl) ?_
      refine lv_iconst (v := nZ 3) hX hB dL_law_208 rfl ?_
      refine zz_ishr X dL_law_209 ?_
      refine lv_sipush (v := nZ 150) hX hB dL_law_210 (by decide) ?_
      have hlo_213 := lowS_rng (zshr y 3) (n := 150) (by first | decide | omega)
      refine zc0n (zRunS X ms_L_low (c_L_low l D k (zshr y 3) 150 (by first | decide | omega) _) zw_320 (zPre0 hP hD hK) rfl hl (Nat.le_of_ble_eq_true rfl) dL_law_213 ⟨rfl, rfl, ⟨Nat.le_of_ble_eq_true rfl, Nat.le_of_ble_eq_true rfl⟩, (by have e1 : room_1.cells = 600130 := rfl; have e2 : room_1.slots = 7301080 := rfl; omega), (by have e1 : room_1.cells = 600130 := rfl; have e2 : room_1.slots = 7301080 := rfl; omega)⟩ rfl) hS hP hD hA (fun r H locs hpost hP hD hS => ?_)
      obtain rfl := hpost
      refine zz_iadd X dL_law_216 (z := (1 + (lowS (zshr y 3) 150))) (by first | rfl | omega) ?_
      refine zc1 (zRunS (As := [.ref h, .int (nZ (lowS (zshr x 5) 3)), .int (nZ (1 + (lowS (zshr y 3) 150)))]) X ms_L_pushes (c_L_pushes l D k h B1 S1 K T1 xs ((n : Int) + 1) ⟨by omega, by omega⟩ hG1 hx (lowS (zshr x 5) 3) (1 + (lowS (zshr y 3) 150)) ⟨by omega, by omega⟩ ⟨by omega, by omega⟩ _) zw_158 (zPre1 hP hD hK) rfl hl (Nat.le_of_ble_eq_true rfl) dL_law_217 ⟨rfl, rfl, ⟨Nat.le_of_ble_eq_true rfl, Nat.le_of_ble_eq_true rfl⟩, (by have e1 : room_1.cells = 600130 := rfl; have e2 : room_1.slots = 7301080 := rfl; omega), (by have e1 : room_1.cells = 600130 := rfl; have e2 : room_1.slots = 7301080 := rfl; omega)⟩ rfl) hS hP hD hA (fun r xs H locs hpost hP hD hS => ?_)
      obtain ⟨rfl, Sa, hGa, hx⟩ := hpost
      refine zz_if_eq X (tgt := 309) dL_law_220 (by decide) ⟨by omega, by omega⟩ (fun c_220 => by exfalso; omega) (fun c_220 => ?_)
      refine lv_aload_n hX hB dL_law_223 rfl (lv_at hl 7 rfl) ?_
      refine lv_iload hX hB dL_law_224 (lv_at hl 4 rfl) ?_
      refine lv_bipush (v := nZ 6) hX hB dL_law_226 (by decide) ?_
      refine zz_ishr X dL_law_228 ?_
      refine lv_iconst (v := nZ 3) hX hB dL_law_229 rfl ?_
      have hlo_230 := lowS_rng (zshr y 6) (n := 3) (by first | decide | omega)
      refine zc0n (zRunS X ms_L_low (c_L_low l D k (zshr y 6) 3 (by first | decide | omega) _) zw_320 (zPre0 hP hD hK) rfl hl (Nat.le_of_ble_eq_true rfl) dL_law_230 ⟨rfl, rfl, ⟨Nat.le_of_ble_eq_true rfl, Nat.le_of_ble_eq_true rfl⟩, (by have e1 : room_1.cells = 600130 := rfl; have e2 : room_1.slots = 7301080 := rfl; omega), (by have e1 : room_1.cells = 600130 := rfl; have e2 : room_1.slots = 7301080 := rfl; omega)⟩ rfl) hS hP hD hA (fun r H locs hpost hP hD hS => ?_)
      obtain rfl := hpost
      refine lv_iload hX hB dL_law_233 (lv_at hl 5 rfl) ?_
      refine lv_bipush (v := nZ 7) hX hB dL_law_235 (by decide) ?_
      refine zz_ishr X dL_law_237 ?_
      refine lv_bipush (v := nZ 9) hX hB dL_law_238 (by decide) ?_
      have hlo_240 := lowS_rng (zshr x 7) (n := 9) (by first | decide | omega)
      refine zc0n (zRunS X ms_L_low (c_L_low l D k (zshr x 7) 9 (by first | decide | omega) _) zw_320 (zPre0 hP hD hK) rfl hl (Nat.le_of_ble_eq_true rfl) dL_law_240 ⟨rfl, rfl, ⟨Nat.le_of_ble_eq_true rfl, Nat.le_of_ble_eq_true rfl⟩, (by have e1 : room_1.cells = 600130 := rfl; have e2 : room_1.slots = 7301080 := rfl; omega), (by have e1 : room_1.cells = 600130 := rfl; have e2 : room_1.slots = 7301080 := rfl; omega)⟩ rfl) hS hP hD hA (fun r H locs hpost hP hD hS => ?_)
      obtain rfl := hpost
      refine lv_iconst (v := nZ 1) hX hB dL_law_243 rfl ?_
      refine lv_iload hX hB dL_law_244 (lv_at hl 5 rfl) ?_
      refine lv_bipush (v := nZ 9) hX hB dL_law_246 (by decide) ?_
      refine zz_ishr X dL_law_248 ?_
      refine lv_sipush (v := nZ 150) hX hB dL_law_249 (by decide) ?_
      have hlo_252 := lowS_rng (zshr x 9) (n := 150) (by first | decide | omega)
      refine zc0n (zRunS X ms_L_low (c_L_low l D k (zshr x 9) 150 (by first | decide | omega) _) zw_320 (zPre0 hP hD hK) rfl hl (Nat.le_of_ble_eq_true rfl) dL_law_252 ⟨rfl, rfl, ⟨Nat.le_of_ble_eq_true rfl, Nat.le_of_ble_eq_true rfl⟩, (by have e1 : room_1.cells = 600130 := rfl; have e2 : room_1.slots = 7301080 := rfl; omega), (by have e1 : room_1.cells = 600130 := rfl; have e2 : room_1.slots = 7301080 := rfl; omega)⟩ rfl) hS hP hD hA (fun r H locs hpost hP hD hS => ?_)
      obtain rfl := hpost
      refine zz_iadd X dL_law_255 (z := (1 + (lowS (zshr x 9) 150))) (by first | rfl | omega) ?_
      refine zc1 (zRunS (As := [.ref h, .int (nZ (lowS (zshr y 6) 3)), .int (nZ (lowS (zshr x 7) 9)), .int (nZ (1 + (lowS (zshr x 9) 150)))]) X ms_L_fills (c_L_fills l D k h B1 Sa K T1 xs ((n : Int) + 1) ⟨by omega, by omega⟩ hGa hx (lowS (zshr y 6) 3) (lowS (zshr x 7) 9) (1 + (lowS (zshr x 9) 150)) ⟨by omega, by omega⟩ ⟨by omega, by omega⟩ ⟨by omega, by omega⟩ _) zw_393 (zPre1 hP hD hK) rfl hl (Nat.le_of_ble_eq_true rfl) dL_law_256 ⟨rfl, rfl, ⟨Nat.le_of_ble_eq_true rfl, Nat.le_of_ble_eq_true rfl⟩, (by have e1 : room_1.cells = 600130 := rfl; have e2 : room_1.slots = 7301080 := rfl; omega), (by have e1 : room_1.cells = 600130 := rfl; have e2 : room_1.slots = 7301080 := rfl; omega)⟩ rfl) hS hP hD hA (fun r xs H locs hpost hP hD hS => ?_)
      obtain ⟨rfl, Sb, hGb, hx⟩ := hpost
      refine zz_if_eq X (tgt := 309) dL_law_259 (by decide) ⟨by omega, by omega⟩ (fun c_259 => by exfalso; omega) (fun c_259 => ?_)
      refine lv_aload_n hX hB dL_law_262 rfl (lv_at hl 7 rfl) ?_
      refine zc1 (zRunS (As := [.ref h]) X ms_L_chalks (c_L_chalks l D k h B1 Sb K T1 xs ((n : Int) + 1) ⟨by omega, by omega⟩ hGb hx  _) zw_403 (zPre1 hP hD hK) rfl hl (Nat.le_of_ble_eq_true rfl) dL_law_263 ⟨rfl, rfl, ⟨Nat.le_of_ble_eq_true rfl, Nat.le_of_ble_eq_true rfl⟩, (by have e1 : room_1.cells = 600130 := rfl; have e2 : room_1.slots = 7301080 := rfl; omega), (by have e1 : room_1.cells = 600130 := rfl; have e2 : room_1.slots = 7301080 := rfl; omega)⟩ rfl) hS hP hD hA (fun r xs H locs hpost hP hD hS => ?_)
      obtain ⟨rfl, Sc, hGc, hx⟩ := hpost
      refine zz_if_eq X (tgt := 309) dL_law_266 (by decide) ⟨by omega, by omega⟩ (fun c_266 => by exfalso; omega) (fun c_266 => ?_)
      refine lv_iload_n hX hB dL_law_269 rfl (lv_at hl 8 rfl) ?_
      refine lv_bipush (v := nZ 6) hX hB dL_law_270 (by decide) ?_
      refine zz_irem X dL_law_272 (z := ((↑n : Int) % 6)) (by first | rfl | omega) ⟨by omega, by omega, by omega, by omega⟩ ?_
      refine zz_if_gt X (tgt := 305) dL_law_273 (by decide) ⟨by omega, by omega⟩ (fun c_273 => ?_) (fun c_273 => ?_)
      · refine lv_iconst (v := nZ 1) hX hB dL_law_305 rfl ?_
        refine lv_goto (tgt := 310) hX hB dL_law_306 (by decide) ?_
        refine lv_istore_n (lv' := [(2, .int (nZ 1)), (9, .int (nZ (actR x y B))), (7, .long (nL (printB B))), (6, .int (nZ (S.length : Int))), (5, .int (nZ y)), (4, .int (nZ x)), (0, .ref b), (1, .ref h), (3, .int (nZ (↑n : Int)))]) hX hB dL_law_310 rfl hl (by decide) rfl (fun ls hl => ?_)
        refine lv_iinc (v := nZ (↑(n + 1) : Int)) (lv' := [(3, .int (nZ (↑(n + 1) : Int))), (2, .int (nZ 1)), (9, .int (nZ (actR x y B))), (7, .long (nL (printB B))), (6, .int (nZ (S.length : Int))), (5, .int (nZ y)), (4, .int (nZ x)), (0, .ref b), (1, .ref h)]) hX hB dL_law_311 hl (k := 8) rfl (zinc (by omega)) (by decide) rfl (fun ls hl => ?_)
        refine lv_goto (tgt := 33) hX hB dL_law_314 (by decide) ?_
        refine W.widen (k := cells + 80) (n := slots + 800) (by omega) (by omega) ?_
        exact KK H locs ls B1 Sc K T1 xs hGc hx hP hD hS (lv_sub hl [7, 8, 1, 0] rfl)
      · refine lv_aload_n hX hB dL_law_276 rfl (lv_at hl 7 rfl) ?_
        refine lv_iload hX hB dL_law_277 (lv_at hl 5 rfl) ?_
        refine lv_bipush (v := nZ 6) hX hB dL_law_279 (by decide) ?_
        refine zz_ishr X dL_law_281 ?_
        refine lv_iconst (v := nZ 3) hX hB dL_law_282 rfl ?_
        have hlo_283 := lowS_rng (zshr x 6) (n := 3) (by first | decide | omega)
        refine zc0n (zRunS X ms_L_low (c_L_low l D k (zshr x 6) 3 (by first | decide | omega) _) zw_320 (zPre0 hP hD hK) rfl hl (Nat.le_of_ble_eq_true rfl) dL_law_283 ⟨rfl, rfl, ⟨Nat.le_of_ble_eq_true rfl, Nat.le_of_ble_eq_true rfl⟩, (by have e1 : room_1.cells = 600130 := rfl; have e2 : room_1.slots = 7301080 := rfl; omega), (by have e1 : room_1.cells = 600130 := rfl; have e2 : room_1.slots = 7301080 := rfl; omega)⟩ rfl) hS hP hD hA (fun r H locs hpost hP hD hS => ?_)
        obtain rfl := hpost
        refine lv_iconst (v := nZ 1) hX hB dL_law_286 rfl ?_
        refine lv_iload hX hB dL_law_287 (lv_at hl 4 rfl) ?_
        refine lv_bipush (v := nZ 7) hX hB dL_law_289 (by decide) ?_
        refine zz_ishr X dL_law_291 ?_
        refine lv_sipush (v := nZ 150) hX hB dL_law_292 (by decide) ?_
        have hlo_295 := lowS_rng (zshr y 7) (n := 150) (by first | decide | omega)
        refine zc0n (zRunS X ms_L_low (c_L_low l D k (zshr y 7) 150 (by first | decide | omega) _) zw_320 (zPre0 hP hD hK) rfl hl (Nat.le_of_ble_eq_true rfl) dL_law_295 ⟨rfl, rfl, ⟨Nat.le_of_ble_eq_true rfl, Nat.le_of_ble_eq_true rfl⟩, (by have e1 : room_1.cells = 600130 := rfl; have e2 : room_1.slots = 7301080 := rfl; omega), (by have e1 : room_1.cells = 600130 := rfl; have e2 : room_1.slots = 7301080 := rfl; omega)⟩ rfl) hS hP hD hA (fun r H locs hpost hP hD hS => ?_)
        obtain rfl := hpost
        refine zz_iadd X dL_law_298 (z := (1 + (lowS (zshr y 7) 150))) (by first | rfl | omega) ?_
        refine zc1 (zRunS (As := [.ref h, .int (nZ (lowS (zshr x 6) 3)), .int (nZ (1 + (lowS (zshr y 7) 150)))]) X ms_L_best (c_L_best l D k h B1 Sc K T1 xs ((n : Int) + 1) ⟨by omega, by omega⟩ hGc hx (lowS (zshr x 6) 3) (1 + (lowS (zshr y 7) 150)) ⟨by omega, by omega⟩ ⟨by omega, by omega⟩ _) zw_406 (zPre1 hP hD hK) rfl hl (Nat.le_of_ble_eq_true rfl) dL_law_299 ⟨rfl, rfl, ⟨Nat.le_of_ble_eq_true rfl, Nat.le_of_ble_eq_true rfl⟩, (by have e1 : room_1.cells = 600130 := rfl; have e2 : room_1.slots = 7301080 := rfl; omega), (by have e1 : room_1.cells = 600130 := rfl; have e2 : room_1.slots = 7301080 := rfl; omega)⟩ rfl) hS hP hD hA (fun r xs H locs hpost hP hD hS => ?_)
        obtain ⟨rfl, Sd, hGd, hx⟩ := hpost
        refine zz_if_eq X (tgt := 309) dL_law_302 (by decide) ⟨by omega, by omega⟩ (fun c_302 => by exfalso; omega) (fun c_302 => ?_)
        refine lv_iconst (v := nZ 1) hX hB dL_law_305 rfl ?_
        refine lv_goto (tgt := 310) hX hB dL_law_306 (by decide) ?_
        refine lv_istore_n (lv' := [(2, .int (nZ 1)), (9, .int (nZ (actR x y B))), (7, .long (nL (printB B))), (6, .int (nZ (S.length : Int))), (5, .int (nZ y)), (4, .int (nZ x)), (0, .ref b), (1, .ref h), (3, .int (nZ (↑n : Int)))]) hX hB dL_law_310 rfl hl (by decide) rfl (fun ls hl => ?_)
        refine lv_iinc (v := nZ (↑(n + 1) : Int)) (lv' := [(3, .int (nZ (↑(n + 1) : Int))), (2, .int (nZ 1)), (9, .int (nZ (actR x y B))), (7, .long (nL (printB B))), (6, .int (nZ (S.length : Int))), (5, .int (nZ y)), (4, .int (nZ x)), (0, .ref b), (1, .ref h)]) hX hB dL_law_311 hl (k := 8) rfl (zinc (by omega)) (by decide) rfl (fun ls hl => ?_)
        refine lv_goto (tgt := 33) hX hB dL_law_314 (by decide) ?_
        refine W.widen (k := cells + 80) (n := slots + 800) (by omega) (by omega) ?_
        exact KK H locs ls B1 Sd K T1 xs hGd hx hP hD hS (lv_sub hl [7, 8, 1, 0] rfl)
    · refine lv_iload hX hB dL_law_136 (lv_at hl 4 rfl) ?_
      refine lv_iconst (v := nZ 5) hX hB dL_law_138 rfl ?_
      refine zz_ishr X dL_law_139 ?_
      refine lv_iconst (v := nZ 3) hX hB dL_law_140 rfl ?_
      have hlo_141 := lowS_rng (zshr y 5) (n := 3) (by first | decide | omega)
      refine zc0n (zRunS X ms_L_low (c_L_low l D k (zshr y 5) 3 (by first | decide | omega) _) zw_320 (zPre0 hP hD hK) rfl hl (Nat.le_of_ble_eq_true rfl) dL_law_141 ⟨rfl, rfl, ⟨Nat.le_of_ble_eq_true rfl, Nat.le_of_ble_eq_true rfl⟩, (by have e1 : room_1.cells = 600130 := rfl; have e2 : room_1.slots = 7301080 := rfl; omega), (by have e1 : room_1.cells = 600130 := rfl; have e2 : room_1.slots = 7301080 := rfl; omega)⟩ rfl) hS hP hD hA (fun r H locs hpost hP hD hS => ?_)
      obtain rfl := hpost
      refine zz_if_ne X (tgt := 185) dL_law_144 (by decide) ⟨by omega, by omega⟩ (fun c_144 => ?_) (fun c_144 => ?_)
      · refine lv_iload_n hX hB dL_law_185 rfl (lv_at hl 0 rfl) ?_
        refine zz_if_eq X (tgt := 309) dL_law_186 (by decide) ⟨by omega, by omega⟩ (fun c_186 => by exfalso; omega) (fun c_186 => ?_)
        refine lv_aload_n hX hB dL_law_189 rfl (lv_at hl 7 rfl) ?_
        refine zc1 (zRunS (As := [.ref h]) X ms_L_hangs (c_L_hangs l D k h B1 S1 K T1 xs ((n : Int) + 1) ⟨by omega, by omega⟩ hG1 hx  _) zw_66 (zPre1 hP hD hK) rfl hl (Nat.le_of_ble_eq_true rfl) dL_law_190 ⟨rfl, rfl, ⟨Nat.le_of_ble_eq_true rfl, Nat.le_of_ble_eq_true rfl⟩, (by have e1 : room_1.cells = 600130 := rfl; have e2 : room_1.slots = 7301080 := rfl; omega), (by have e1 : room_1.cells = 600130 := rfl; have e2 : room_1.slots = 7301080 := rfl; omega)⟩ rfl) hS hP hD hA (fun r xs H locs hpost hP hD hS => ?_)
        obtain ⟨rfl, hx⟩ := hpost
        refine zz_if_eq X (tgt := 309) dL_law_193 (by decide) ⟨by omega, by omega⟩ (fun c_193 => by exfalso; omega) (fun c_193 => ?_)
        refine lv_aload_n hX hB dL_law_196 rfl (lv_at hl 7 rfl) ?_
        refine lv_iload hX hB dL_law_197 (lv_at hl 5 rfl) ?_
        refine lv_iconst (v := nZ 5) hX hB dL_law_199 rfl ?_
        refine zz_ishr X dL_law_200 ?_
        refine lv_iconst (v := nZ 3) hX hB dL_law_201 rfl ?_
        have hlo_202 := lowS_rng (zshr x 5) (n := 3) (by first | decide | omega)
        refine zc0n (zRunS X ms_L_low (c_L_low l D k (zshr x 5) 3 (by first | decide | omega) _) zw_320 (zPre0 hP hD hK) rfl hl (Nat.le_of_ble_eq_true rfl) dL_law_202 ⟨rfl, rfl, ⟨Nat.le_of_ble_eq_true rfl, Nat.le_of_ble_eq_true rfl⟩, (by have e1 : room_1.cells = 600130 := rfl; have e2 : room_1.slots = 7301080 := rfl; omega), (by have e1 : room_1.cells = 600130 := rfl; have e2 : room_1.slots = 7301080 := rfl; omega)⟩ rfl) hS hP hD hA (fun r H locs hpost hP hD hS => ?_)
        obtain rfl := hpost
        refine lv_iconst (v := nZ 1) hX hB dL_law_205 rfl ?_
        refine lv_iload hX hB dL_law_206 (lv_at hl 4 rfl) ?_
        refine lv_iconst (v := nZ 3) hX hB dL_law_208 rfl ?_
        refine zz_ishr X dL_law_209 ?_
        refine lv_sipush (v := nZ 150) hX hB dL_law_210 (by decide) ?_
        have hlo_213 := lowS_rng (zshr y 3) (n := 150) (by first | decide | omega)
        refine zc0n (zRunS X ms_L_low (c_L_low l D k (zshr y 3) 150 (by first | decide | omega) _) zw_320 (zPre0 hP hD hK) rfl hl (Nat.le_of_ble_eq_true rfl) dL_law_213 ⟨rfl, rfl, ⟨Nat.le_of_ble_eq_true rfl, Nat.le_of_ble_eq_true rfl⟩, (by have e1 : room_1.cells = 600130 := rfl; have e2 : room_1.slots = 7301080 := rfl; omega), (by have e1 : room_1.cells = 600130 := rfl; have e2 : room_1.slots = 7301080 := rfl; omega)⟩ rfl) hS hP hD hA (fun r H locs hpost hP hD hS => ?_)
        obtain rfl := hpost
        refine zz_iadd X dL_law_216 (z := (1 + (lowS (zshr y 3) 150))) (by first | rfl | omega) ?_
        refine zc1 (zRunS (As := [.ref h, .int (nZ (lowS (zshr x 5) 3)), .int (nZ (1 + (lowS (zshr y 3) 150)))]) X ms_L_pushes (c_L_pushes l D k h B1 S1 K T1 xs ((n : Int) + 1) ⟨by omega, by omega⟩ hG1 hx (lowS (zshr x 5) 3) (1 + (lowS (zshr y 3) 150)) ⟨by omega, by omega⟩ ⟨by omega, by omega⟩ _) zw_158 (zPre1 hP hD hK) rfl hl (Nat.le_of_ble_eq_true rfl) dL_law_217 ⟨rfl, rfl, ⟨Nat.le_of_ble_eq_true rfl, Nat.le_of_ble_eq_true rfl⟩, (by have e1 : room_1.cells = 600130 := rfl; have e2 : room_1.slots = 7301080 := rfl; omega), (by have e1 : room_1.cells = 600130 := rfl; have e2 : room_1.slots = 7301080 := rfl; omega)⟩ rfl) hS hP hD hA (fun r xs H locs hpost hP hD hS => ?_)
        obtain ⟨rfl, Sa, hGa, hx⟩ := hpost
        refine zz_if_eq X (tgt := 309) dL_law_220 (by decide) ⟨by omega, by omega⟩ (fun c_220 => by exfalso; omega) (fun c_220 => ?_)
        refine lv_aload_n hX hB dL_law_223 rfl (lv_at hl 7 rfl) ?_
        refine lv_iload hX hB dL_law_224 (lv_at hl 4 rfl) ?_
        refine lv_bipush (v := nZ 6) hX hB dL_law_226 (by decide) ?_
        refine zz_ishr X dL_law_228 ?_
        refine lv_iconst (v := nZ 3) hX hB dL_law_229 rfl ?_
        have hlo_230 := lowS_rng (zshr y 6) (n := 3) (by first | decide | omega)
        refine zc0n (zRunS X ms_L_low (c_L_low l D k (zshr y 6) 3 (by first | decide | omega) _) zw_320 (zPre0 hP hD hK) rfl hl (Nat.le_of_ble_eq_true rfl) dL_law_230 ⟨rfl, rfl, ⟨Nat.le_of_ble_eq_true rfl, Nat.le_of_ble_eq_true rfl⟩, (by have e1 : room_1.cells = 600130 := rfl; have e2 : room_1.slots = 7301080 := rfl; omega), (by have e1 : room_1.cells = 600130 := rfl; have e2 : room_1.slots = 7301080 := rfl; omega)⟩ rfl) hS hP hD hA (fun r H locs hpost hP hD hS => ?_)
        obtain rfl := hpost
        refine lv_iload hX hB dL_law_233 (lv_at hl 5 rfl) ?_
        refine lv_bipush (v := nZ 7) hX hB dL_law_235 (by decide) ?_
        refine zz_ishr X dL_law_237 ?_
        refine lv_bipush (v := nZ 9) hX hB dL_law_238 (by decide) ?_
        have hlo_240 := lowS_rng (zshr x 7) (n := 9) (by first | decide | omega)
        refine zc0n (zRunS X ms_L_low (c_L_low l D k (zshr x 7) 9 (by first | decide | omega) _) zw_320 (zPre0 hP hD hK) rfl hl (Nat.le_of_ble_eq_true rfl) dL_law_240 ⟨rfl, rfl, ⟨Nat.le_of_ble_eq_true rfl, Nat.le_of_ble_eq_true rfl⟩, (by have e1 : room_1.cells = 600130 := rfl; have e2 : room_1.slots = 7301080 := rfl; omega), (by have e1 : room_1.cells = 600130 := rfl; have e2 : room_1.slots = 7301080 := rfl; omega)⟩ rfl) hS hP hD hA (fun r H locs hpost hP hD hS => ?_)
        obtain rfl := hpost
        refine lv_iconst (v := nZ 1) hX hB dL_law_243 rfl ?_
        refine lv_iload hX hB dL_law_244 (lv_at hl 5 rfl) ?_
        refine lv_bipush (v := nZ 9) hX hB dL_law_246 (by decide) ?_
        refine zz_ishr X dL_law_248 ?_
        refine lv_sipush (v := nZ 150) hX hB dL_law_249 (by decide) ?_
        have hlo_252 := lowS_rng (zshr x 9) (n := 150) (by first | decide | omega)
        refine zc0n (zRunS X ms_L_low (c_L_low l D k (zshr x 9) 150 (by first | decide | omega) _) zw_320 (zPre0 hP hD hK) rfl hl (Nat.le_of_ble_eq_true rfl) dL_law_252 ⟨rfl, rfl, ⟨Nat.le_of_ble_eq_true rfl, Nat.le_of_ble_eq_true rfl⟩, (by have e1 : room_1.cells = 600130 := rfl; have e2 : room_1.slots = 7301080 := rfl; omega), (by have e1 : room_1.cells = 600130 := rfl; have e2 : room_1.slots = 7301080 := rfl; omega)⟩ rfl) hS hP hD hA (fun r H locs hpost hP hD hS => ?_)
        obtain rfl := hpost
        refine zz_iadd X dL_law_255 (z := (1 + (lowS (zshr x 9) 150))) (by first | rfl | omega) ?_
        refine zc1 (zRunS (As := [.ref h, .int (nZ (lowS (zshr y 6) 3)), .int (nZ (lowS (zshr x 7) 9)), .int (nZ (1 + (lowS (zshr x 9) 150)))]) X ms_L_fills (c_L_fills l D k h B1 Sa K T1 xs ((n : Int) + 1) ⟨by omega, by omega⟩ hGa hx (lowS (zshr y 6) 3) (lowS (zshr x 7) 9) (1 + (lowS (zshr x 9) 150)) ⟨by omega, by omega⟩ ⟨by omega, by omega⟩ ⟨by omega, by omega⟩ _) zw_393 (zPre1 hP hD hK) rfl hl (Nat.le_of_ble_eq_true rfl) dL_law_256 ⟨rfl, rfl, ⟨Nat.le_of_ble_eq_true rfl, Nat.le_of_ble_eq_true rfl⟩, (by have e1 : room_1.cells = 600130 := rfl; have e2 : room_1.slots = 7301080 := rfl; omega), (by have e1 : room_1.cells = 600130 := rfl; have e2 : room_1.slots = 7301080 := rfl; omega)⟩ rfl) hS hP hD hA (fun r xs H locs hpost hP hD hS => ?_)
        obtain ⟨rfl, Sb, hGb, hx⟩ := hpost
        refine zz_if_eq X (tgt := 309) dL_law_259 (by decide) ⟨by omega, by omega⟩ (fun c_259 => by exfalso; omega) (fun c_259 => ?_)
        refine lv_aload_n hX hB dL_law_262 rfl (lv_at hl 7 rfl) ?_
        refine zc1 (zRunS (As := [.ref h]) X ms_L_chalks (c_L_chalks l D k h B1 Sb K T1 xs ((n : Int) + 1) ⟨by omega, by omega⟩ hGb hx  _) zw_403 (zPre1 hP hD hK) rfl hl (Nat.le_of_ble_eq_true rfl) dL_law_263 ⟨rfl, rfl, ⟨Nat.le_of_ble_eq_true rfl, Nat.le_of_ble_eq_true rfl⟩, (by have e1 : room_1.cells = 600130 := rfl; have e2 : room_1.slots = 7301080 := rfl; omega), (by have e1 : room_1.cells = 600130 := rfl; have e2 : room_1.slots = 7301080 := rfl; omega)⟩ rfl) hS hP hD hA (fun r xs H locs hpost hP hD hS => ?_)
        obtain ⟨rfl, Sc, hGc, hx⟩ := hpost
        refine zz_if_eq X (tgt := 309) dL_law_266 (by decide) ⟨by omega, by omega⟩ (fun c_266 => by exfalso; omega) (fun c_266 => ?_)
        refine lv_iload_n hX hB dL_law_269 rfl (lv_at hl 8 rfl) ?_
        refine lv_bipush (v := nZ 6) hX hB dL_law_270 (by decide) ?_
        refine zz_irem X dL_law_272 (z := ((↑n : Int) % 6)) (by first | rfl | omega) ⟨by omega, by omega, by omega, by omega⟩ ?_
        refine zz_if_gt X (tgt := 305) dL_law_273 (by decide) ⟨by omega, by omega⟩ (fun c_273 => ?_) (fun c_273 => ?_)
        · refine lv_iconst (v := nZ 1) hX hB dL_law_305 rfl ?_
          refine lv_goto (tgt := 310) hX hB dL_law_306 (by decide) ?_
          refine lv_istore_n (lv' := [(2, .int (nZ 1)), (9, .int (nZ (actR x y B))), (7, .long (nL (printB B))), (6, .int (nZ (S.length : Int))), (5, .int (nZ y)), (4, .int (nZ x)), (0, .ref b), (1, .ref h), (3, .int (nZ (↑n : Int)))]) hX hB dL_law_310 rfl hl (by decide) rfl (fun ls hl => ?_)
          refine lv_iinc (v := nZ (↑(n + 1) : Int)) (lv' := [(3, .int (nZ (↑(n + 1) : Int))), (2, .int (nZ 1)), (9, .int (nZ (actR x y B))), (7, .long (nL (printB B))), (6, .int (nZ (S.length : Int))), (5, .int (nZ y)), (4, .int (nZ x)), (0, .ref b), (1, .ref h)]) hX hB dL_law_311 hl (k := 8) rfl (zinc (by omega)) (by decide) rfl (fun ls hl => ?_)
          refine lv_goto (tgt := 33) hX hB dL_law_314 (by decide) ?_
          refine W.widen (k := cells + 80) (n := slots + 800) (by omega) (by omega) ?_
          exact KK H locs ls B1 Sc K T1 xs hGc hx hP hD hS (lv_sub hl [7, 8, 1, 0] rfl)
        · refine lv_aload_n hX hB dL_law_276 rfl (lv_at hl 7 rfl) ?_
          refine lv_iload hX hB dL_law_277 (lv_at hl 5 rfl) ?_
          refine lv_bipush (v := nZ 6) hX hB dL_law_279 (by decide) ?_
          refine zz_ishr X dL_law_281 ?_
          refine lv_iconst (v := nZ 3) hX hB dL_law_282 rfl ?_
          have hlo_283 := lowS_rng (zshr x 6) (n := 3) (by first | decide | omega)
          refine zc0n (zRunS X ms_L_low (c_L_low l D k (zshr x 6) 3 (by first | decide | omega) _) zw_320 (zPre0 hP hD hK) rfl hl (Nat.le_of_ble_eq_true rfl) dL_law_283 ⟨rfl, rfl, ⟨Nat.le_of_ble_eq_true rfl, Nat.le_of_ble_eq_true rfl⟩, (by have e1 : room_1.cells = 600130 := rfl; have e2 : room_1.slots = 7301080 := rfl; omega), (by have e1 : room_1.cells = 600130 := rfl; have e2 : room_1.slots = 7301080 := rfl; omega)⟩ rfl) hS hP hD hA (fun r H locs hpost hP hD hS => ?_)
          obtain rfl := hpost
          refine lv_iconst (v := nZ 1) hX hB dL_law_286 rfl ?_
          refine lv_iload hX hB dL_law_287 (lv_at hl 4 rfl) ?_
          refine lv_bipush (v := nZ 7) hX hB dL_law_289 (by decide) ?_
          refine zz_ishr X dL_law_291 ?_
          refine lv_sipush (v := nZ 150) hX hB dL_law_292 (by decide) ?_
          have hlo_295 := lowS_rng (zshr y 7) (n := 150) (by first | decide | omega)
          refine zc0n (zRunS X ms_L_low (c_L_low l D k (zshr y 7) 150 (by first | decide | omega) _) zw_320 (zPre0 hP hD hK) rfl hl (Nat.le_of_ble_eq_true rfl) dL_law_295 ⟨rfl, rfl, ⟨Nat.le_of_ble_eq_true rfl, Nat.le_of_ble_eq_true rfl⟩, (by have e1 : room_1.cells = 600130 := rfl; have e2 : room_1.slots = 7301080 := rfl; omega), (by have e1 : room_1.cells = 600130 := rfl; have e2 : room_1.slots = 7301080 := rfl; omega)⟩ rfl) hS hP hD hA (fun r H locs hpost hP hD hS => ?_)
          obtain rfl := hpost
          refine zz_iadd X dL_law_298 (z := (1 + (lowS (zshr y 7) 150))) (by first | rfl | omega) ?_
          refine zc1 (zRunS (As := [.ref h, .int (nZ (lowS (zshr x 6) 3)), .int (nZ (1 + (lowS (zshr y 7) 150)))]) X ms_L_best (c_L_best l D k h B1 Sc K T1 xs ((n : Int) + 1) ⟨by omega, by omega⟩ hGc hx (lowS (zshr x 6) 3) (1 + (lowS (zshr y 7) 150)) ⟨by omega, by omega⟩ ⟨by omega, by omega⟩ _) zw_406 (zPre1 hP hD hK) rfl hl (Nat.le_of_ble_eq_true rfl) dL_law_299 ⟨rfl, rfl, ⟨Nat.le_of_ble_eq_true rfl, Nat.le_of_ble_eq_true rfl⟩, (by have e1 : room_1.cells = 600130 := rfl; have e2 : room_1.slots = 7301080 := rfl; omega), (by have e1 : room_1.cells = 600130 := rfl; have e2 : room_1.slots = 7301080 := rfl; omega)⟩ rfl) hS hP hD hA (fun r xs H locs hpost hP hD hS => ?_)
          obtain ⟨rfl, Sd, hGd, hx⟩ := hpost
          refine zz_if_eq X (tgt := 309) dL_law_302 (by decide) ⟨by omega, by omega⟩ (fun c_302 => by exfalso; omega) (fun c_302 => ?_)
          refine lv_iconst (v := nZ 1) hX hB dL_law_305 rfl ?_
          refine lv_goto (tgt := 310) hX hB dL_law_306 (by decide) ?_
          refine lv_istore_n (lv' := [(2, .int (nZ 1)), (9, .int (nZ (actR x y B))), (7, .long (nL (printB B))), (6, .int (nZ (S.length : Int))), (5, .int (nZ y)), (4, .int (nZ x)), (0, .ref b), (1, .ref h), (3, .int (nZ (↑n : Int)))]) hX hB dL_law_310 rfl hl (by decide) rfl (fun ls hl => ?_)
          refine lv_iinc (v := nZ (↑(n + 1) : Int)) (lv' := [(3, .int (nZ (↑(n + 1) : Int))), (2, .int (nZ 1)), (9, .int (nZ (actR x y B))), (7, .long (nL (printB B))), (6, .int (nZ (S.length : Int))), (5, .int (nZ y)), (4, .int (nZ x)), (0, .ref b), (1, .ref h)]) hX hB dL_law_311 hl (k := 8) rfl (zinc (by omega)) (by decide) rfl (fun ls hl => ?_)
          refine lv_goto (tgt := 33) hX hB dL_law_314 (by decide) ?_
          refine W.widen (k := cells + 80) (n := slots + 800) (by omega) (by omega) ?_
          exact KK H locs ls B1 Sd K T1 xs hGd hx hP hD hS (lv_sub hl [7, 8, 1, 0] rfl)
      · refine lv_aload_n hX hB dL_law_147 rfl (lv_at hl 7 rfl) ?_
        refine zc1n (zRunW (As := [.ref h]) X mw_undo (wc_undo l D k h B1 S1 K T1 xs hG1.1 hx B (by rw [← hS1]; exact saveL_last _ _) ((S1.length : Int) - 1) (rfl) B (rfl) S ((by rw [← hS1]; exact saveL_drop_lt (by omega))) _) zw_299 (zPre1 hP hD hK) rfl hl (Nat.le_of_ble_eq_true rfl) dL_law_148 ⟨rfl, rfl, ⟨Nat.le_of_ble_eq_true rfl, Nat.le_of_ble_eq_true rfl⟩, (by have e1 : room_1.cells = 600130 := rfl; have e2 : room_1.slots = 7301080 := rfl; omega), (by have e1 : room_1.cells = 600130 := rfl; have e2 : room_1.slots = 7301080 := rfl; omega)⟩ rfl) hS hP hD hA (fun r xs H locs hpost hP hD hS => ?_)
        obtain ⟨rfl, hx⟩ := hpost
        refine lv_iload hX hB dL_law_151 (lv_at hl 3 rfl) ?_
        refine zs_ne X (by omega) (tgt := 183) dL_law_153 (by decide) ?_
        refine lv_aload_n hX hB dL_law_156 rfl (lv_at hl 7 rfl) ?_
        refine zcL1n (zRunS (As := [.ref h]) X ms_L_print (c_L_print l D k h B S K T1 xs (n : Int) ⟨by omega, by omega⟩ (hG.text (T' := T1)) hx  _) zw_161 (zPre1 hP hD hK) rfl hl (Nat.le_of_ble_eq_true rfl) dL_law_157 ⟨rfl, rfl, ⟨Nat.le_of_ble_eq_true rfl, Nat.le_of_ble_eq_true rfl⟩, (by have e1 : room_1.cells = 600130 := rfl; have e2 : room_1.slots = 7301080 := rfl; omega), (by have e1 : room_1.cells = 600130 := rfl; have e2 : room_1.slots = 7301080 := rfl; omega)⟩ rfl) hS hP hD hA (fun r xs H locs hpost hP hD hS => ?_)
        obtain ⟨rfl, hx⟩ := hpost
        refine lv_lload hX hB dL_law_160 (lv_at hl 2 rfl) ?_
        refine zs_lcmp X (rfl) dL_law_162 ?_
        refine zz_if_ne X (tgt := 183) dL_law_163 (by decide) ⟨by omega, by omega⟩ (fun c_163 => by exfalso; omega) (fun c_163 => ?_)
        refine lv_aload_n hX hB dL_law_166 rfl (lv_at hl 7 rfl) ?_
        refine lv_iload hX hB dL_law_167 (lv_at hl 5 rfl) ?_
        refine lv_iload hX hB dL_law_169 (lv_at hl 4 rfl) ?_
        refine zc1 (zRunS (As := [.ref h, .int (nZ x), .int (nZ y)]) X ms_L_act (c_L_act l D k h B S K T1 xs (n : Int) ⟨by omega, by omega⟩ (hG.text (T' := T1)) hx x y _) zw_317 (zPre1 hP hD hK) rfl hl (Nat.le_of_ble_eq_true rfl) dL_law_171 ⟨rfl, rfl, ⟨Nat.le_of_ble_eq_true rfl, Nat.le_of_ble_eq_true rfl⟩, (by have e1 : room_1.cells = 600130 := rfl; have e2 : room_1.slots = 7301080 := rfl; omega), (by have e1 : room_1.cells = 600130 := rfl; have e2 : room_1.slots = 7301080 := rfl; omega)⟩ rfl) hS hP hD hA (fun r xs H locs hpost hP hD hS => ?_)
        obtain ⟨rfl, T1, hx⟩ := hpost
        rw [hB1, hS1] at hx
        refine lv_iload hX hB dL_law_174 (lv_at hl 1 rfl) ?_
        refine zs_ne X (rfl) (tgt := 183) dL_law_176 (by decide) ?_
        refine lv_iconst (v := nZ 1) hX hB dL_law_179 rfl ?_
        refine lv_goto (tgt := 184) hX hB dL_law_180 (by decide) ?_
        refine lv_istore_n (lv' := [(2, .int (nZ 1)), (9, .int (nZ (actR x y B))), (7, .long (nL (printB B))), (6, .int (nZ (S.length : Int))), (5, .int (nZ y)), (4, .int (nZ x)), (0, .ref b), (1, .ref h), (3, .int (nZ (↑n : Int)))]) hX hB dL_law_184 rfl hl (by decide) rfl (fun ls hl => ?_)
        refine lv_iload_n hX hB dL_law_185 rfl (lv_at hl 0 rfl) ?_
        refine zz_if_eq X (tgt := 309) dL_law_186 (by decide) ⟨by omega, by omega⟩ (fun c_186 => by exfalso; omega) (fun c_186 => ?_)
        refine lv_aload_n hX hB dL_law_189 rfl (lv_at hl 7 rfl) ?_
        refine zc1 (zRunS (As := [.ref h]) X ms_L_hangs (c_L_hangs l D k h B1 S1 K T1 xs ((n : Int) + 1) ⟨by omega, by omega⟩ (hG1.text (T' := T1)) hx  _) zw_66 (zPre1 hP hD hK) rfl hl (Nat.le_of_ble_eq_true rfl) dL_law_190 ⟨rfl, rfl, ⟨Nat.le_of_ble_eq_true rfl, Nat.le_of_ble_eq_true rfl⟩, (by have e1 : room_1.cells = 600130 := rfl; have e2 : room_1.slots = 7301080 := rfl; omega), (by have e1 : room_1.cells = 600130 := rfl; have e2 : room_1.slots = 7301080 := rfl; omega)⟩ rfl) hS hP hD hA (fun r xs H locs hpost hP hD hS => ?_)
        obtain ⟨rfl, hx⟩ := hpost
        refine zz_if_eq X (tgt := 309) dL_law_193 (by decide) ⟨by omega, by omega⟩ (fun c_193 => by exfalso; omega) (fun c_193 => ?_)
        refine lv_aload_n hX hB dL_law_196 rfl (lv_at hl 7 rfl) ?_
        refine lv_iload hX hB dL_law_197 (lv_at hl 5 rfl) ?_
        refine lv_iconst (v := nZ 5) hX hB dL_law_199 rfl ?_
        refine zz_ishr X dL_law_200 ?_
        refine lv_iconst (v := nZ 3) hX hB dL_law_201 rfl ?_
        have hlo_202 := lowS_rng (zshr x 5) (n := 3) (by first | decide | omega)
        refine zc0n (zRunS X ms_L_low (c_L_low l D k (zshr x 5) 3 (by first | decide | omega) _) zw_320 (zPre0 hP hD hK) rfl hl (Nat.le_of_ble_eq_true rfl) dL_law_202 ⟨rfl, rfl, ⟨Nat.le_of_ble_eq_true rfl, Nat.le_of_ble_eq_true rfl⟩, (by have e1 : room_1.cells = 600130 := rfl; have e2 : room_1.slots = 7301080 := rfl; omega), (by have e1 : room_1.cells = 600130 := rfl; have e2 : room_1.slots = 7301080 := rfl; omega)⟩ rfl) hS hP hD hA (fun r H locs hpost hP hD hS => ?_)
        obtain rfl := hpost
        refine lv_iconst (v := nZ 1) hX hB dL_law_205 rfl ?_
        refine lv_iload hX hB dL_law_206 (lv_at hl 4 rfl) ?_
        refine lv_iconst (v := nZ 3) hX hB dL_law_208 rfl ?_
        refine zz_ishr X dL_law_209 ?_
        refine lv_sipush (v := nZ 150) hX hB dL_law_210 (by decide) ?_
        have hlo_213 := lowS_rng (zshr y 3) (n := 150) (by first | decide | omega)
        refine zc0n (zRunS X ms_L_low (c_L_low l D k (zshr y 3) 150 (by first | decide | omega) _) zw_320 (zPre0 hP hD hK) rfl hl (Nat.le_of_ble_eq_true rfl) dL_law_213 ⟨rfl, rfl, ⟨Nat.le_of_ble_eq_true rfl, Nat.le_of_ble_eq_true rfl⟩, (by have e1 : room_1.cells = 600130 := rfl; have e2 : room_1.slots = 7301080 := rfl; omega), (by have e1 : room_1.cells = 600130 := rfl; have e2 : room_1.slots = 7301080 := rfl; omega)⟩ rfl) hS hP hD hA (fun r H locs hpost hP hD hS => ?_)
        obtain rfl := hpost
        refine zz_iadd X dL_law_216 (z := (1 + (lowS (zshr y 3) 150))) (by first | rfl | omega) ?_
        refine zc1 (zRunS (As := [.ref h, .int (nZ (lowS (zshr x 5) 3)), .int (nZ (1 + (lowS (zshr y 3) 150)))]) X ms_L_pushes (c_L_pushes l D k h B1 S1 K T1 xs ((n : Int) + 1) ⟨by omega, by omega⟩ (hG1.text (T' := T1)) hx (lowS (zshr x 5) 3) (1 + (lowS (zshr y 3) 150)) ⟨by omega, by omega⟩ ⟨by omega, by omega⟩ _) zw_158 (zPre1 hP hD hK) rfl hl (Nat.le_of_ble_eq_true rfl) dL_law_217 ⟨rfl, rfl, ⟨Nat.le_of_ble_eq_true rfl, Nat.le_of_ble_eq_true rfl⟩, (by have e1 : room_1.cells = 600130 := rfl; have e2 : room_1.slots = 7301080 := rfl; omega), (by have e1 : room_1.cells = 600130 := rfl; have e2 : room_1.slots = 7301080 := rfl; omega)⟩ rfl) hS hP hD hA (fun r xs H locs hpost hP hD hS => ?_)
        obtain ⟨rfl, Sa, hGa, hx⟩ := hpost
        refine zz_if_eq X (tgt := 309) dL_law_220 (by decide) ⟨by omega, by omega⟩ (fun c_220 => by exfalso; omega) (fun c_220 => ?_)
        refine lv_aload_n hX hB dL_law_223 rfl (lv_at hl 7 rfl) ?_
        refine lv_iload hX hB dL_law_224 (lv_at hl 4 rfl) ?_
        refine lv_bipush (v := nZ 6) hX hB dL_law_226 (by decide) ?_
        refine zz_ishr X dL_law_228 ?_
        refine lv_iconst (v := nZ 3) hX hB dL_law_229 rfl ?_
        have hlo_230 := lowS_rng (zshr y 6) (n := 3) (by first | decide | omega)
        refine zc0n (zRunS X ms_L_low (c_L_low l D k (zshr y 6) 3 (by first | decide | omega) _) zw_320 (zPre0 hP hD hK) rfl hl (Nat.le_of_ble_eq_true rfl) dL_law_230 ⟨rfl, rfl, ⟨Nat.le_of_ble_eq_true rfl, Nat.le_of_ble_eq_true rfl⟩, (by have e1 : room_1.cells = 600130 := rfl; have e2 : room_1.slots = 7301080 := rfl; omega), (by have e1 : room_1.cells = 600130 := rfl; have e2 : room_1.slots = 7301080 := rfl; omega)⟩ rfl) hS hP hD hA (fun r H locs hpost hP hD hS => ?_)
        obtain rfl := hpost
        refine lv_iload hX hB dL_law_233 (lv_at hl 5 rfl) ?_
        refine lv_bipush (v := nZ 7) hX hB dL_law_235 (by decide) ?_
        refine zz_ishr X dL_law_237 ?_
        refine lv_bipush (v := nZ 9) hX hB dL_law_238 (by decide) ?_
        have hlo_240 := lowS_rng (zshr x 7) (n := 9) (by first | decide | omega)
        refine zc0n (zRunS X ms_L_low (c_L_low l D k (zshr x 7) 9 (by first | decide | omega) _) zw_320 (zPre0 hP hD hK) rfl hl (Nat.le_of_ble_eq_true rfl) dL_law_240 ⟨rfl, rfl, ⟨Nat.le_of_ble_eq_true rfl, Nat.le_of_ble_eq_true rfl⟩, (by have e1 : room_1.cells = 600130 := rfl; have e2 : room_1.slots = 7301080 := rfl; omega), (by have e1 : room_1.cells = 600130 := rfl; have e2 : room_1.slots = 7301080 := rfl; omega)⟩ rfl) hS hP hD hA (fun r H locs hpost hP hD hS => ?_)
        obtain rfl := hpost
        refine lv_iconst (v := nZ 1) hX hB dL_law_243 rfl ?_
        refine lv_iload hX hB dL_law_244 (lv_at hl 5 rfl) ?_
        refine lv_bipush (v := nZ 9) hX hB dL_law_246 (by decide) ?_
        refine zz_ishr X dL_law_248 ?_
        refine lv_sipush (v := nZ 150) hX hB dL_law_249 (by decide) ?_
        have hlo_252 := lowS_rng (zshr x 9) (n := 150) (by first | decide | omega)
        refine zc0n (zRunS X ms_L_low (c_L_low l D k (zshr x 9) 150 (by first | decide | omega) _) zw_320 (zPre0 hP hD hK) rfl hl (Nat.le_of_ble_eq_true rfl) dL_law_252 ⟨rfl, rfl, ⟨Nat.le_of_ble_eq_true rfl, Nat.le_of_ble_eq_true rfl⟩, (by have e1 : room_1.cells = 600130 := rfl; have e2 : room_1.slots = 7301080 := rfl; omega), (by have e1 : room_1.cells = 600130 := rfl; have e2 : room_1.slots = 7301080 := rfl; omega)⟩ rfl) hS hP hD hA (fun r H locs hpost hP hD hS => ?_)
        obtain rfl := hpost
        refine zz_iadd X dL_law_255 (z := (1 + (lowS (zshr x 9) 150))) (by first | rfl | omega) ?_
        refine zc1 (zRunS (As := [.ref h, .int (nZ (lowS (zshr y 6) 3)), .int (nZ (lowS (zshr x 7) 9)), .int (nZ (1 + (lowS (zshr x 9) 150)))]) X ms_L_fills (c_L_fills l D k h B1 Sa K T1 xs ((n : Int) + 1) ⟨by omega, by omega⟩ hGa hx (lowS (zshr y 6) 3) (lowS (zshr x 7) 9) (1 + (lowS (zshr x 9) 150)) ⟨by omega, by omega⟩ ⟨by omega, by omega⟩ ⟨by omega, by omega⟩ _) zw_393 (zPre1 hP hD hK) rfl hl (Nat.le_of_ble_eq_true rfl) dL_law_256 ⟨rfl, rfl, ⟨Nat.le_of_ble_eq_true rfl, Nat.le_of_ble_eq_true rfl⟩, (by have e1 : room_1.cells = 600130 := rfl; have e2 : room_1.slots = 7301080 := rfl; omega), (by have e1 : room_1.cells = 600130 := rfl; have e2 : room_1.slots = 7301080 := rfl; omega)⟩ rfl) hS hP hD hA (fun r xs H locs hpost hP hD hS => ?_)
        obtain ⟨rfl, Sb, hGb, hx⟩ := hpost
        refine zz_if_eq X (tgt := 309) dL_law_259 (by decide) ⟨by omega, by omega⟩ (fun c_259 => by exfalso; omega) (fun c_259 => ?_)
        refine lv_aload_n hX hB dL_law_262 rfl (lv_at hl 7 rfl) ?_
        refine zc1 (zRunS (As := [.ref h]) X ms_L_chalks (c_L_chalks l D k h B1 Sb K T1 xs ((n : Int) + 1) ⟨by omega, by omega⟩ hGb hx  _) zw_403 (zPre1 hP hD hK) rfl hl (Nat.le_of_ble_eq_true rfl) dL_law_263 ⟨rfl, rfl, ⟨Nat.le_of_ble_eq_true rfl, Nat.le_of_ble_eq_true rfl⟩, (by have e1 : room_1.cells = 600130 := rfl; have e2 : room_1.slots = 7301080 := rfl; omega), (by have e1 : room_1.cells = 600130 := rfl; have e2 : room_1.slots = 7301080 := rfl; omega)⟩ rfl) hS hP hD hA (fun r xs H locs hpost hP hD hS => ?_)
        obtain ⟨rfl, Sc, hGc, hx⟩ := hpost
        refine zz_if_eq X (tgt := 309) dL_law_266 (by decide) ⟨by omega, by omega⟩ (fun c_266 => by exfalso; omega) (fun c_266 => ?_)
        refine lv_iload_n hX hB dL_law_269 rfl (lv_at hl 8 rfl) ?_
        refine lv_bipush (v := nZ 6) hX hB dL_law_270 (by decide) ?_
        refine zz_irem X dL_law_272 (z := ((↑n : Int) % 6)) (by first | rfl | omega) ⟨by omega, by omega, by omega, by omega⟩ ?_
        refine zz_if_gt X (tgt := 305) dL_law_273 (by decide) ⟨by omega, by omega⟩ (fun c_273 => ?_) (fun c_273 => ?_)
        · refine lv_iconst (v := nZ 1) hX hB dL_law_305 rfl ?_
          refine lv_goto (tgt := 310) hX hB dL_law_306 (by decide) ?_
          refine lv_istore_n (lv' := [(2, .int (nZ 1)), (9, .int (nZ (actR x y B))), (7, .long (nL (printB B))), (6, .int (nZ (S.length : Int))), (5, .int (nZ y)), (4, .int (nZ x)), (0, .ref b), (1, .ref h), (3, .int (nZ (↑n : Int)))]) hX hB dL_law_310 rfl hl (by decide) rfl (fun ls hl => ?_)
          refine lv_iinc (v := nZ (↑(n + 1) : Int)) (lv' := [(3, .int (nZ (↑(n + 1) : Int))), (2, .int (nZ 1)), (9, .int (nZ (actR x y B))), (7, .long (nL (printB B))), (6, .int (nZ (S.length : Int))), (5, .int (nZ y)), (4, .int (nZ x)), (0, .ref b), (1, .ref h)]) hX hB dL_law_311 hl (k := 8) rfl (zinc (by omega)) (by decide) rfl (fun ls hl => ?_)
          refine lv_goto (tgt := 33) hX hB dL_law_314 (by decide) ?_
          refine W.widen (k := cells + 80) (n := slots + 800) (by omega) (by omega) ?_
          exact KK H locs ls B1 Sc K T1 xs hGc hx hP hD hS (lv_sub hl [7, 8, 1, 0] rfl)
        · refine lv_aload_n hX hB dL_law_276 rfl (lv_at hl 7 rfl) ?_
          refine lv_iload hX hB dL_law_277 (lv_at hl 5 rfl) ?_
          refine lv_bipush (v := nZ 6) hX hB dL_law_279 (by decide) ?_
          refine zz_ishr X dL_law_281 ?_
          refine lv_iconst (v := nZ 3) hX hB dL_law_282 rfl ?_
          have hlo_283 := lowS_rng (zshr x 6) (n := 3) (by first | decide | omega)
          refine zc0n (zRunS X ms_L_low (c_L_low l D k (zshr x 6) 3 (by first | decide | omega) _) zw_320 (zPre0 hP hD hK) rfl hl (Nat.le_of_ble_eq_true rfl) dL_law_283 ⟨rfl, rfl, ⟨Nat.le_of_ble_eq_true rfl, Nat.le_of_ble_eq_true rfl⟩, (by have e1 : room_1.cells = 600130 := rfl; have e2 : room_1.slots = 7301080 := rfl; omega), (by have e1 : room_1.cells = 600130 := rfl; have e2 : room_1.slots = 7301080 := rfl; omega)⟩ rfl) hS hP hD hA (fun r H locs hpost hP hD hS => ?_)
          obtain rfl := hpost
          refine lv_iconst (v := nZ 1) hX hB dL_law_286 rfl ?_
          refine lv_iload hX hB dL_law_287 (lv_at hl 4 rfl) ?_
          refine lv_bipush (v := nZ 7) hX hB dL_law_289 (by decide) ?_
          refine zz_ishr X dL_law_291 ?_
          refine lv_sipush (v := nZ 150) hX hB dL_law_292 (by decide) ?_
          have hlo_295 := lowS_rng (zshr y 7) (n := 150) (by first | decide | omega)
          refine zc0n (zRunS X ms_L_low (c_L_low l D k (zshr y 7) 150 (by first | decide | omega) _) zw_320 (zPre0 hP hD hK) rfl hl (Nat.le_of_ble_eq_true rfl) dL_law_295 ⟨rfl, rfl, ⟨Nat.le_of_ble_eq_true rfl, Nat.le_of_ble_eq_true rfl⟩, (by have e1 : room_1.cells = 600130 := rfl; have e2 : room_1.slots = 7301080 := rfl; omega), (by have e1 : room_1.cells = 600130 := rfl; have e2 : room_1.slots = 7301080 := rfl; omega)⟩ rfl) hS hP hD hA (fun r H locs hpost hP hD hS => ?_)
          obtain rfl := hpost
          refine zz_iadd X dL_law_298 (z := (1 + (lowS (zshr y 7) 150))) (by first | rfl | omega) ?_
          refine zc1 (zRunS (As := [.ref h, .int (nZ (lowS (zshr x 6) 3)), .int (nZ (1 + (lowS (zshr y 7) 150)))]) X ms_L_best (c_L_best l D k h B1 Sc K T1 xs ((n : Int) + 1) ⟨by omega, by omega⟩ hGc hx (lowS (zshr x 6) 3) (1 + (lowS (zshr y 7) 150)) ⟨by omega, by omega⟩ ⟨by omega, by omega⟩ _) zw_406 (zPre1 hP hD hK) rfl hl (Nat.le_of_ble_eq_true rfl) dL_law_299 ⟨rfl, rfl, ⟨Nat.le_of_ble_eq_true rfl, Nat.le_of_ble_eq_true rfl⟩, (by have e1 : room_1.cells = 600130 := rfl; have e2 : room_1.slots = 7301080 := rfl; omega), (by have e1 : room_1.cells = 600130 := rfl; have e2 : room_1.slots = 7301080 := rfl; omega)⟩ rfl) hS hP hD hA (fun r xs H locs hpost hP hD hS => ?_)
          obtain ⟨rfl, Sd, hGd, hx⟩ := hpost
          refine zz_if_eq X (tgt := 309) dL_law_302 (by decide) ⟨by omega, by omega⟩ (fun c_302 => by exfalso; omega) (fun c_302 => ?_)
          refine lv_iconst (v := nZ 1) hX hB dL_law_305 rfl ?_
          refine lv_goto (tgt := 310) hX hB dL_law_306 (by decide) ?_
          refine lv_istore_n (lv' := [(2, .int (nZ 1)), (9, .int (nZ (actR x y B))), (7, .long (nL (printB B))), (6, .int (nZ (S.length : Int))), (5, .int (nZ y)), (4, .int (nZ x)), (0, .ref b), (1, .ref h), (3, .int (nZ (↑n : Int)))]) hX hB dL_law_310 rfl hl (by decide) rfl (fun ls hl => ?_)
          refine lv_iinc (v := nZ (↑(n + 1) : Int)) (lv' := [(3, .int (nZ (↑(n + 1) : Int))), (2, .int (nZ 1)), (9, .int (nZ (actR x y B))), (7, .long (nL (printB B))), (6, .int (nZ (S.length : Int))), (5, .int (nZ y)), (4, .int (nZ x)), (0, .ref b), (1, .ref h)]) hX hB dL_law_311 hl (k := 8) rfl (zinc (by omega)) (by decide) rfl (fun ls hl => ?_)
          refine lv_goto (tgt := 33) hX hB dL_law_314 (by decide) ?_
          refine W.widen (k := cells + 80) (n := slots + 800) (by omega) (by omega) ?_
          exact KK H locs ls B1 Sd K T1 xs hGd hx hP hD hS (lv_sub hl [7, 8, 1, 0] rfl)
  · refine lv_iload hX hB dL_law_107 (lv_at hl 2 rfl) ?_
    refine lv_iconst (v := nZ 1) hX hB dL_law_109 rfl ?_
    refine zz_iadd X dL_law_110 (z := ((S.length : Int) + 1)) (by first | rfl | omega) ?_
    refine lv_goto (tgt := 116) hX hB dL_law_111 (by decide) ?_
    refine zs_ne X (by omega) (tgt := 123) dL_law_116 (by decide) ?_
    refine lv_iconst (v := nZ 1) hX hB dL_law_119 rfl ?_
    refine lv_goto (tgt := 124) hX hB dL_law_120 (by decide) ?_
    refine lv_istore_n (lv' := [(2, .int (nZ 1)), (9, .int (nZ (actR x y B))), (7, .long (nL (printB B))), (6, .int (nZ (S.length : Int))), (5, .int (nZ y)), (4, .int (nZ x)), (0, .ref b), (1, .ref h), (3, .int (nZ (↑n : Int)))]) hX hB dL_law_124 rfl hl (by decide) rfl (fun ls hl => ?_)
    refine lv_iload_n hX hB dL_law_125 rfl (lv_at hl 0 rfl) ?_
    refine zz_if_eq X (tgt := 185) dL_law_126 (by decide) ⟨by omega, by omega⟩ (fun c_126 => by exfalso; omega) (fun c_126 => ?_)
    refine lv_iload hX hB dL_law_129 (lv_at hl 3 rfl) ?_
    refine lv_bipush (v := nZ 6) hX hB dL_law_131 (by decide) ?_
    refine zz_icmp_ge X (tgt := 185) dL_law_133 (by decide) ⟨by omega, by omega⟩ ⟨by omega, by omega⟩ (fun c_133 => ?_) (fun c_133 => ?_)
    · refine lv_iload_n hX hB dL_law_185 rfl (lv_at hl 0 rfl) ?_
      refine zz_if_eq X (tgt := 309) dL_law_186 (by decide) ⟨by omega, by omega⟩ (fun c_186 => by exfalso; omega) (fun c_186 => ?_)
      refine lv_aload_n hX hB dL_law_189 rfl (lv_at hl 7 rfl) ?_
      refine zc1 (zRunS (As := [.ref h]) X ms_L_hangs (c_L_hangs l D k h B1 S1 K T1 xs ((n : Int) + 1) ⟨by omega, by omega⟩ hG1 hx  _) zw_66 (zPre1 hP hD hK) rfl hl (Nat.le_of_ble_eq_true rfl) dL_law_190 ⟨rfl, rfl, ⟨Nat.le_of_ble_eq_true rfl, Nat.le_of_ble_eq_true rfl⟩, (by have e1 : room_1.cells = 600130 := rfl; have e2 : room_1.slots = 7301080 := rfl; omega), (by have e1 : room_1.cells = 600130 := rfl; have e2 : room_1.slots = 7301080 := rfl; omega)⟩ rfl) hS hP hD hA (fun r xs H locs hpost hP hD hS => ?_)
      obtain ⟨rfl, hx⟩ := hpost
      refine zz_if_eq X (tgt := 309) dL_law_193 (by decide) ⟨by omega, by omega⟩ (fun c_193 => by exfalso; omega) (fun c_193 => ?_)
      refine lv_aload_n hX hB dL_law_196 rfl (lv_at hl 7 rfl) ?_
      refine lv_iload hX hB dL_law_197 (lv_at hl 5 rfl) ?_
      refine lv_iconst (v := nZ 5) hX hB dL_law_199 rfl ?_
      refine zz_ishr X dL_law_200 ?_
      refine lv_iconst (v := nZ 3) hX hB dL_law_201 rfl ?_
      have hlo_202 := lowS_rng (zshr x 5) (n := 3) (by first | decide | omega)
      refine zc0n (zRunS X ms_L_low (c_L_low l D k (zshr x 5) 3 (by first | decide | omega) _) zw_320 (zPre0 hP hD hK) rfl hl (Nat.le_of_ble_eq_true rfl) dL_law_202 ⟨rfl, rfl, ⟨Nat.le_of_ble_eq_true rfl, Nat.le_of_ble_eq_true rfl⟩, (by have e1 : room_1.cells = 600130 := rfl; have e2 : room_1.slots = 7301080 := rfl; omega), (by have e1 : room_1.cells = 600130 := rfl; have e2 : room_1.slots = 7301080 := rfl; omega)⟩ rfl) hS hP hD hA (fun r H locs hpost hP hD hS => ?_)
      obtain rfl := hpost
      refine lv_iconst (v := nZ 1) hX hB dL_law_205 rfl ?_
      refine lv_iload hX hB dL_law_206 (lv_at hl 4 rfl) ?_
      refine lv_iconst (v := nZ 3) hX hB dL_law_208 rfl ?_
      refine zz_ishr X dL_law_209 ?_
      refine lv_sipush (v := nZ 150) hX hB dL_law_210 (by decide) ?_
      have hlo_213 := lowS_rng (zshr y 3) (n := 150) (by first | decide | omega)
      refine zc0n (zRunS X ms_L_low (c_L_low l D k (zshr y 3) 150 (by first | decide | omega) _) zw_320 (zPre0 hP hD hK) rfl hl (Nat.le_of_ble_eq_true rfl) dL_law_213 ⟨rfl, rfl, ⟨Nat.le_of_ble_eq_true rfl, Nat.le_of_ble_eq_true rfl⟩, (by have e1 : room_1.cells = 600130 := rfl; have e2 : room_1.slots = 7301080 := rfl; omega), (by have e1 : room_1.cells = 600130 := rfl; have e2 : room_1.slots = 7301080 := rfl; omega)⟩ rfl) hS hP hD hA (fun r H locs hpost hP hD hS => ?_)
      obtain rfl := hpost
      refine zz_iadd X dL_law_216 (z := (1 + (lowS (zshr y 3) 150))) (by first | rfl | omega) ?_
      refine zc1 (zRunS (As := [.ref h, .int (nZ (lowS (zshr x 5) 3)), .int (nZ (1 + (lowS (zshr y 3) 150)))]) X ms_L_pushes (c_L_pushes l D k h B1 S1 K T1 xs ((n : Int) + 1) ⟨by omega, by omega⟩ hG1 hx (lowS (zshr x 5) 3) (1 + (lowS (zshr y 3) 150)) ⟨by omega, by omega⟩ ⟨by omega, by omega⟩ _) zw_158 (zPre1 hP hD hK) rfl hl (Nat.le_of_ble_eq_true rfl) dL_law_217 ⟨rfl, rfl, ⟨Nat.le_of_ble_eq_true rfl, Nat.le_of_ble_eq_true rfl⟩, (by have e1 : room_1.cells = 600130 := rfl; have e2 : room_1.slots = 7301080 := rfl; omega), (by have e1 : room_1.cells = 600130 := rfl; have e2 : room_1.slots = 7301080 := rfl; omega)⟩ rfl) hS hP hD hA (fun r xs H locs hpost hP hD hS => ?_)
      obtain ⟨rfl, Sa, hGa, hx⟩ := hpost
      refine zz_if_eq X (tgt := 309) dL_law_220 (by decide) ⟨by omega, by omega⟩ (fun c_220 => by exfalso; omega) (fun c_220 => ?_)
      refine lv_aload_n hX hB dL_law_223 rfl (lv_at hl 7 rfl) ?_
      refine lv_iload hX hB dL_law_224 (lv_at hl 4 rfl) ?_
      refine lv_bipush (v := nZ 6) hX hB dL_law_226 (by decide) ?_
      refine zz_ishr X dL_law_228 ?_
      refine lv_iconst (v := nZ 3) hX hB dL_law_229 rfl ?_
      have hlo_230 := lowS_rng (zshr y 6) (n := 3) (by first | decide | omega)
      refine zc0n (zRunS X ms_L_low (c_L_low l D k (zshr y 6) 3 (by first | decide | omega) _) zw_320 (zPre0 hP hD hK) rfl hl (Nat.le_of_ble_eq_true rfl) dL_law_230 ⟨rfl, rfl, ⟨Nat.le_of_ble_eq_true rfl, Nat.le_of_ble_eq_true rfl⟩, (by have e1 : room_1.cells = 600130 := rfl; have e2 : room_1.slots = 7301080 := rfl; omega), (by have e1 : room_1.cells = 600130 := rfl; have e2 : room_1.slots = 7301080 := rfl; omega)⟩ rfl) hS hP hD hA (fun r H locs hpost hP hD hS => ?_)
      obtain rfl := hpost
      refine lv_iload hX hB dL_law_233 (lv_at hl 5 rfl) ?_
      refine lv_bipush (v := nZ 7) hX hB dL_law_235 (by decide) ?_
      refine zz_ishr X dL_law_237 ?_
      refine lv_bipush (v := nZ 9) hX hB dL_law_238 (by decide) ?_
      have hlo_240 := lowS_rng (zshr x 7) (n := 9) (by first | decide | omega)
      refine zc0n (zRunS X ms_L_low (c_L_low l D k (zshr x 7) 9 (by first | decide | omega) _) zw_320 (zPre0 hP hD hK) rfl hl (Nat.le_of_ble_eq_true rfl) dL_law_240 ⟨rfl, rfl, ⟨Nat.le_of_ble_eq_true rfl, Nat.le_of_ble_eq_true rfl⟩, (by have e1 : room_1.cells = 600130 := rfl; have e2 : room_1.slots = 7301080 := rfl; omega), (by have e1 : room_1.cells = 600130 := rfl; have e2 : room_1.slots = 7301080 := rfl; omega)⟩ rfl) hS hP hD hA (fun r H locs hpost hP hD hS => ?_)
      obtain rfl := hpost
      refine lv_iconst (v := nZ 1) hX hB dL_law_243 rfl ?_
      refine lv_iload hX hB dL_law_244 (lv_at hl 5 rfl) ?_
      refine lv_bipush (v := nZ 9) hX hB dL_law_246 (by decide) ?_
      refine zz_ishr X dL_law_248 ?_
      refine lv_sipush (v := nZ 150) hX hB dL_law_249 (by decide) ?_
      have hlo_252 := lowS_rng (zshr x 9) (n := 150) (by first | decide | omega)
      refine zc0n (zRunS X ms_L_low (c_L_low l D k (zshr x 9) 150 (by first | decide | omega) _) zw_320 (zPre0 hP hD hK) rfl hl (Nat.le_of_ble_eq_true rfl) dL_law_252 ⟨rfl, rfl, ⟨Nat.le_of_ble_eq_true rfl, Nat.le_of_ble_eq_true rfl⟩, (by have e1 : room_1.cells = 600130 := rfl; have e2 : room_1.slots = 7301080 := rfl; omega), (by have e1 : room_1.cells = 600130 := rfl; have e2 : room_1.slots = 7301080 := rfl; omega)⟩ rfl) hS hP hD hA (fun r H locs hpost hP hD hS => ?_)
      obtain rfl := hpost
      refine zz_iadd X dL_law_255 (z := (1 + (lowS (zshr x 9) 150))) (by first | rfl | omega) ?_
      refine zc1 (zRunS (As := [.ref h, .int (nZ (lowS (zshr y 6) 3)), .int (nZ (lowS (zshr x 7) 9)), .int (nZ (1 + (lowS (zshr x 9) 150)))]) X ms_L_fills (c_L_fills l D k h B1 Sa K T1 xs ((n : Int) + 1) ⟨by omega, by omega⟩ hGa hx (lowS (zshr y 6) 3) (lowS (zshr x 7) 9) (1 + (lowS (zshr x 9) 150)) ⟨by omega, by omega⟩ ⟨by omega, by omega⟩ ⟨by omega, by omega⟩ _) zw_393 (zPre1 hP hD hK) rfl hl (Nat.le_of_ble_eq_true rfl) dL_law_256 ⟨rfl, rfl, ⟨Nat.le_of_ble_eq_true rfl, Nat.le_of_ble_eq_true rfl⟩, (by have e1 : room_1.cells = 600130 := rfl; have e2 : room_1.slots = 7301080 := rfl; omega), (by have e1 : room_1.cells = 600130 := rfl; have e2 : room_1.slots = 7301080 := rfl; omega)⟩ rfl) hS hP hD hA (fun r xs H locs hpost hP hD hS => ?_)
      obtain ⟨rfl, Sb, hGb, hx⟩ := hpost
      refine zz_if_eq X (tgt := 309) dL_law_259 (by decide) ⟨by omega, by omega⟩ (fun c_259 => by exfalso; omega) (fun c_259 => ?_)
      refine lv_aload_n hX hB dL_law_262 rfl (lv_at hl 7 rfl) ?_
      refine zc1 (zRunS (As := [.ref h]) X ms_L_chalks (c_L_chalks l D k h B1 Sb K T1 xs ((n : Int) + 1) ⟨by omega, by omega⟩ hGb hx  _) zw_403 (zPre1 hP hD hK) rfl hl (Nat.le_of_ble_eq_true rfl) dL_law_263 ⟨rfl, rfl, ⟨Nat.le_of_ble_eq_true rfl, Nat.le_of_ble_eq_true rfl⟩, (by have e1 : room_1.cells = 600130 := rfl; have e2 : room_1.slots = 7301080 := rfl; omega), (by have e1 : room_1.cells = 600130 := rfl; have e2 : room_1.slots = 7301080 := rfl; omega)⟩ rfl) hS hP hD hA (fun r xs H locs hpost hP hD hS => ?_)
      obtain ⟨rfl, Sc, hGc, hx⟩ := hpost
      refine zz_if_eq X (tgt := 309) dL_law_266 (by decide) ⟨by omega, by omega⟩ (fun c_266 => by exfalso; omega) (fun c_266 => ?_)
      refine lv_iload_n hX hB dL_law_269 rfl (lv_at hl 8 rfl) ?_
      refine lv_bipush (v := nZ 6) hX hB dL_law_270 (by decide) ?_
      refine zz_irem X dL_law_272 (z := ((↑n : Int) % 6)) (by first | rfl | omega) ⟨by omega, by omega, by omega, by omega⟩ ?_
      refine zz_if_gt X (tgt := 305) dL_law_273 (by decide) ⟨by omega, by omega⟩ (fun c_273 => ?_) (fun c_273 => ?_)
      · refine lv_iconst (v := nZ 1) hX hB dL_law_305 rfl ?_
        refine lv_goto (tgt := 310) hX hB dL_law_306 (by decide) ?_
        refine lv_istore_n (lv' := [(2, .int (nZ 1)), (9, .int (nZ (actR x y B))), (7, .long (nL (printB B))), (6, .int (nZ (S.length : Int))), (5, .int (nZ y)), (4, .int (nZ x)), (0, .ref b), (1, .ref h), (3, .int (nZ (↑n : Int)))]) hX hB dL_law_310 rfl hl (by decide) rfl (fun ls hl => ?_)
        refine lv_iinc (v := nZ (↑(n + 1) : Int)) (lv' := [(3, .int (nZ (↑(n + 1) : Int))), (2, .int (nZ 1)), (9, .int (nZ (actR x y B))), (7, .long (nL (printB B))), (6, .int (nZ (S.length : Int))), (5, .int (nZ y)), (4, .int (nZ x)), (0, .ref b), (1, .ref h)]) hX hB dL_law_311 hl (k := 8) rfl (zinc (by omega)) (by decide) rfl (fun ls hl => ?_)
        refine lv_goto (tgt := 33) hX hB dL_law_314 (by decide) ?_
        refine W.widen (k := cells + 80) (n := slots + 800) (by omega) (by omega) ?_
        exact KK H locs ls B1 Sc K T1 xs hGc hx hP hD hS (lv_sub hl [7, 8, 1, 0] rfl)
      · refine lv_aload_n hX hB dL_law_276 rfl (lv_at hl 7 rfl) ?_
        refine lv_iload hX hB dL_law_277 (lv_at hl 5 rfl) ?_
        refine lv_bipush (v := nZ 6) hX hB dL_law_279 (by decide) ?_
        refine zz_ishr X dL_law_281 ?_
        refine lv_iconst (v := nZ 3) hX hB dL_law_282 rfl ?_
        have hlo_283 := lowS_rng (zshr x 6) (n := 3) (by first | decide | omega)
        refine zc0n (zRunS X ms_L_low (c_L_low l D k (zshr x 6) 3 (by first | decide | omega) _) zw_320 (zPre0 hP hD hK) rfl hl (Nat.le_of_ble_eq_true rfl) dL_law_283 ⟨rfl, rfl, ⟨Nat.le_of_ble_eq_true rfl, Nat.le_of_ble_eq_true rfl⟩, (by have e1 : room_1.cells = 600130 := rfl; have e2 : room_1.slots = 7301080 := rfl; omega), (by have e1 : room_1.cells = 600130 := rfl; have e2 : room_1.slots = 7301080 := rfl; omega)⟩ rfl) hS hP hD hA (fun r H locs hpost hP hD hS => ?_)
        obtain rfl := hpost
        refine lv_iconst (v := nZ 1) hX hB dL_law_286 rfl ?_
        refine lv_iload hX hB dL_law_287 (lv_at hl 4 rfl) ?_
        refine lv_bipush (v := nZ 7) hX hB dL_law_289 (by decide) ?_
        refine zz_ishr X dL_law_291 ?_
        refine lv_sipush (v := nZ 150) hX hB dL_law_292 (by decide) ?_
        have hlo_295 := lowS_rng (zshr y 7) (n := 150) (by first | decide | omega)
        refine zc0n (zRunS X ms_L_low (c_L_low l D k (zshr y 7) 150 (by first | decide | omega) _) zw_320 (zPre0 hP hD hK) rfl hl (Nat.le_of_ble_eq_true rfl) dL_law_295 ⟨rfl, rfl, ⟨Nat.le_of_ble_eq_true rfl, Nat.le_of_ble_eq_true rfl⟩, (by have e1 : room_1.cells = 600130 := rfl; have e2 : room_1.slots = 7301080 := rfl; omega), (by have e1 : room_1.cells = 600130 := rfl; have e2 : room_1.slots = 7301080 := rfl; omega)⟩ rfl) hS hP hD hA (fun r H locs hpost hP hD hS => ?_)
        obtain rfl := hpost
        refine zz_iadd X dL_law_298 (z := (1 + (lowS (zshr y 7) 150))) (by first | rfl | omega) ?_
        refine zc1 (zRunS (As := [.ref h, .int (nZ (lowS (zshr x 6) 3)), .int (nZ (1 + (lowS (zshr y 7) 150)))]) X ms_L_best (c_L_best l D k h B1 Sc K T1 xs ((n : Int) + 1) ⟨by omega, by omega⟩ hGc hx (lowS (zshr x 6) 3) (1 + (lowS (zshr y 7) 150)) ⟨by omega, by omega⟩ ⟨by omega, by omega⟩ _) zw_406 (zPre1 hP hD hK) rfl hl (Nat.le_of_ble_eq_true rfl) dL_law_299 ⟨rfl, rfl, ⟨Nat.le_of_ble_eq_true rfl, Nat.le_of_ble_eq_true rfl⟩, (by have e1 : room_1.cells = 600130 := rfl; have e2 : room_1.slots = 7301080 := rfl; omega), (by have e1 : room_1.cells = 600130 := rfl; have e2 : room_1.slots = 7301080 := rfl; omega)⟩ rfl) hS hP hD hA (fun r xs H locs hpost hP hD hS => ?_)
        obtain ⟨rfl, Sd, hGd, hx⟩ := hpost
        refine zz_if_eq X (tgt := 309) dL_law_302 (by decide) ⟨by omega, by omega⟩ (fun c_302 => by exfalso; omega) (fun c_302 => ?_)
        refine lv_iconst (v := nZ 1) hX hB dL_law_305 rfl ?_
        refine lv_goto (tgt := 310) hX hB dL_law_306 (by decide) ?_
        refine lv_istore_n (lv' := [(2, .int (nZ 1)), (9, .int (nZ (actR x y B))), (7, .long (nL (printB B))), (6, .int (nZ (S.length : Int))), (5, .int (nZ y)), (4, .int (nZ x)), (0, .ref b), (1, .ref h), (3, .int (nZ (↑n : Int)))]) hX hB dL_law_310 rfl hl (by decide) rfl (fun ls hl => ?_)
        refine lv_iinc (v := nZ (↑(n + 1) : Int)) (lv' := [(3, .int (nZ (↑(n + 1) : Int))), (2, .int (nZ 1)), (9, .int (nZ (actR x y B))), (7, .long (nL (printB B))), (6, .int (nZ (S.length : Int))), (5, .int (nZ y)), (4, .int (nZ x)), (0, .ref b), (1, .ref h)]) hX hB dL_law_311 hl (k := 8) rfl (zinc (by omega)) (by decide) rfl (fun ls hl => ?_)
        refine lv_goto (tgt := 33) hX hB dL_law_314 (by decide) ?_
        refine W.widen (k := cells + 80) (n := slots + 800) (by omega) (by omega) ?_
        exact KK H locs ls B1 Sd K T1 xs hGd hx hP hD hS (lv_sub hl [7, 8, 1, 0] rfl)
    · refine lv_iload hX hB dL_law_136 (lv_at hl 4 rfl) ?_
      refine lv_iconst (v := nZ 5) hX hB dL_law_138 rfl ?_
      refine zz_ishr X dL_law_139 ?_
      refine lv_iconst (v := nZ 3) hX hB dL_law_140 rfl ?_
      have hlo_141 := lowS_rng (zshr y 5) (n := 3) (by first | decide | omega)
      refine zc0n (zRunS X ms_L_low (c_L_low l D k (zshr y 5) 3 (by first | decide | omega) _) zw_320 (zPre0 hP hD hK) rfl hl (Nat.le_of_ble_eq_true rfl) dL_law_141 ⟨rfl, rfl, ⟨Nat.le_of_ble_eq_true rfl, Nat.le_of_ble_eq_true rfl⟩, (by have e1 : room_1.cells = 600130 := rfl; have e2 : room_1.slots = 7301080 := rfl; omega), (by have e1 : room_1.cells = 600130 := rfl; have e2 : room_1.slots = 7301080 := rfl; omega)⟩ rfl) hS hP hD hA (fun r H locs hpost hP hD hS => ?_)
      obtain rfl := hpost
      refine zz_if_ne X (tgt := 185) dL_law_144 (by decide) ⟨by omega, by omega⟩ (fun c_144 => ?_) (fun c_144 => ?_)
      · refine lv_iload_n hX hB dL_law_185 rfl (lv_at hl 0 rfl) ?_
        refine zz_if_eq X (tgt := 309) dL_law_186 (by decide) ⟨by omega, by omega⟩ (fun c_186 => by exfalso; omega) (fun c_186 => ?_)
        refine lv_aload_n hX hB dL_law_189 rfl (lv_at hl 7 rfl) ?_
        refine zc1 (zRunS (As := [.ref h]) X ms_L_hangs (c_L_hangs l D k h B1 S1 K T1 xs ((n : Int) + 1) ⟨by omega, by omega⟩ hG1 hx  _) zw_66 (zPre1 hP hD hK) rfl hl (Nat.le_of_ble_eq_true rfl) dL_law_190 ⟨rfl, rfl, ⟨Nat.le_of_ble_eq_true rfl, Nat.le_of_ble_eq_true rfl⟩, (by have e1 : room_1.cells = 600130 := rfl; have e2 : room_1.slots = 7301080 := rfl; omega), (by have e1 : room_1.cells = 600130 := rfl; have e2 : room_1.slots = 7301080 := rfl; omega)⟩ rfl) hS hP hD hA (fun r xs H locs hpost hP hD hS => ?_)
        obtain ⟨rfl, hx⟩ := hpost
        refine zz_if_eq X (tgt := 309) dL_law_193 (by decide) ⟨by omega, by omega⟩ (fun c_193 => by exfalso; omega) (fun c_193 => ?_)
        refine lv_aload_n hX hB dL_law_196 rfl (lv_at hl 7 rfl) ?_
        refine lv_iload hX hB dL_law_197 (lv_at hl 5 rfl) ?_
        refine lv_iconst (v := nZ 5) hX hB dL_law_199 rfl ?_
        refine zz_ishr X dL_law_200 ?_
        refine lv_iconst (v := nZ 3) hX hB dL_law_201 rfl ?_
        have hlo_202 := lowS_rng (zshr x 5) (n := 3) (by first | decide | omega)
        refine zc0n (zRunS X ms_L_low (c_L_low l D k (zshr x 5) 3 (by first | decide | omega) _) zw_320 (zPre0 hP hD hK) rfl hl (Nat.le_of_ble_eq_true rfl) dL_law_202 ⟨rfl, rfl, ⟨Nat.le_of_ble_eq_true rfl, Nat.le_of_ble_eq_true rfl⟩, (by have e1 : room_1.cells = 600130 := rfl; have e2 : room_1.slots = 7301080 := rfl; omega), (by have e1 : room_1.cells = 600130 := rfl; have e2 : room_1.slots = 7301080 := rfl; omega)⟩ rfl) hS hP hD hA (fun r H locs hpost hP hD hS => ?_)
        obtain rfl := hpost
        refine lv_iconst (v := nZ 1) hX hB dL_law_205 rfl ?_
        refine lv_iload hX hB dL_law_206 (lv_at hl 4 rfl) ?_
        refine lv_iconst (v := nZ 3) hX hB dL_law_208 rfl ?_
        refine zz_ishr X dL_law_209 ?_
        refine lv_sipush (v := nZ 150) hX hB dL_law_210 (by decide) ?_
        have hlo_213 := lowS_rng (zshr y 3) (n := 150) (by first | decide | omega)
        refine zc0n (zRunS X ms_L_low (c_L_low l D k (zshr y 3) 150 (by first | decide | omega) _) zw_320 (zPre0 hP hD hK) rfl hl (Nat.le_of_ble_eq_true rfl) dL_law_213 ⟨rfl, rfl, ⟨Nat.le_of_ble_eq_true rfl, Nat.le_of_ble_eq_true rfl⟩, (by have e1 : room_1.cells = 600130 := rfl; have e2 : room_1.slots = 7301080 := rfl; omega), (by have e1 : room_1.cells = 600130 := rfl; have e2 : room_1.slots = 7301080 := rfl; omega)⟩ rfl) hS hP hD hA (fun r H locs hpost hP hD hS => ?_)
        obtain rfl := hpost
        refine zz_iadd X dL_law_216 (z := (1 + (lowS (zshr y 3) 150))) (by first | rfl | omega) ?_
        refine zc1 (zRunS (As := [.ref h, .int (nZ (lowS (zshr x 5) 3)), .int (nZ (1 + (lowS (zshr y 3) 150)))]) X ms_L_pushes (c_L_pushes l D k h B1 S1 K T1 xs ((n : Int) + 1) ⟨by omega, by omega⟩ hG1 hx (lowS (zshr x 5) 3) (1 + (lowS (zshr y 3) 150)) ⟨by omega, by omega⟩ ⟨by omega, by omega⟩ _) zw_158 (zPre1 hP hD hK) rfl hl (Nat.le_of_ble_eq_true rfl) dL_law_217 ⟨rfl, rfl, ⟨Nat.le_of_ble_eq_true rfl, Nat.le_of_ble_eq_true rfl⟩, (by have e1 : room_1.cells = 600130 := rfl; have e2 : room_1.slots = 7301080 := rfl; omega), (by have e1 : room_1.cells = 600130 := rfl; have e2 : room_1.slots = 7301080 := rfl; omega)⟩ rfl) hS hP hD hA (fun r xs H locs hpost hP hD hS => ?_)
        obtain ⟨rfl, Sa, hGa, hx⟩ := hpost
        refine zz_if_eq X (tgt := 309) dL_law_220 (by decide) ⟨by omega, by omega⟩ (fun c_220 => by exfalso; omega) (fun c_220 => ?_)
        refine lv_aload_n hX hB dL_law_223 rfl (lv_at hl 7 rfl) ?_
        refine lv_iload hX hB dL_law_224 (lv_at hl 4 rfl) ?_
        refine lv_bipush (v := nZ 6) hX hB dL_law_226 (by decide) ?_
        refine zz_ishr X dL_law_228 ?_
        refine lv_iconst (v := nZ 3) hX hB dL_law_229 rfl ?_
        have hlo_230 := lowS_rng (zshr y 6) (n := 3) (by first | decide | omega)
        refine zc0n (zRunS X ms_L_low (c_L_low l D k (zshr y 6) 3 (by first | decide | omega) _) zw_320 (zPre0 hP hD hK) rfl hl (Nat.le_of_ble_eq_true rfl) dL_law_230 ⟨rfl, rfl, ⟨Nat.le_of_ble_eq_true rfl, Nat.le_of_ble_eq_true rfl⟩, (by have e1 : room_1.cells = 600130 := rfl; have e2 : room_1.slots = 7301080 := rfl; omega), (by have e1 : room_1.cells = 600130 := rfl; have e2 : room_1.slots = 7301080 := rfl; omega)⟩ rfl) hS hP hD hA (fun r H locs hpost hP hD hS => ?_)
        obtain rfl := hpost
        refine lv_iload hX hB dL_law_233 (lv_at hl 5 rfl) ?_
        refine lv_bipush (v := nZ 7) hX hB dL_law_235 (by decide) ?_
        refine zz_ishr X dL_law_237 ?_
        refine lv_bipush (v := nZ 9) hX hB dL_law_238 (by decide) ?_
        have hlo_240 := lowS_rng (zshr x 7) (n := 9) (by first | decide | omega)
        refine zc0n (zRunS X ms_L_low (c_L_low l D k (zshr x 7) 9 (by first | decide | omega) _) zw_320 (zPre0 hP hD hK) rfl hl (Nat.le_of_ble_eq_true rfl) dL_law_240 ⟨rfl, rfl, ⟨Nat.le_of_ble_eq_true rfl, Nat.le_of_ble_eq_true rfl⟩, (by have e1 : room_1.cells = 600130 := rfl; have e2 : room_1.slots = 7301080 := rfl; omega), (by have e1 : room_1.cells = 600130 := rfl; have e2 : room_1.slots = 7301080 := rfl; omega)⟩ rfl) hS hP hD hA (fun r H locs hpost hP hD hS => ?_)
        obtain rfl := hpost
        refine lv_iconst (v := nZ 1) hX hB dL_law_243 rfl ?_
        refine lv_iload hX hB dL_law_244 (lv_at hl 5 rfl) ?_
        refine lv_bipush (v := nZ 9) hX hB dL_law_246 (by decide) ?_
        refine zz_ishr X dL_law_248 ?_
        refine lv_sipush (v := nZ 150) hX hB dL_law_249 (by decide) ?_
        have hlo_252 := lowS_rng (zshr x 9) (n := 150) (by first | decide | omega)
        refine zc0n (zRunS X ms_L_low (c_L_low l D k (zshr x 9) 150 (by first | decide | omega) _) zw_320 (zPre0 hP hD hK) rfl hl (Nat.le_of_ble_eq_true rfl) dL_law_252 ⟨rfl, rfl, ⟨Nat.le_of_ble_eq_true rfl, Nat.le_of_ble_eq_true rfl⟩, (by have e1 : room_1.cells = 600130 := rfl; have e2 : room_1.slots = 7301080 := rfl; omega), (by have e1 : room_1.cells = 600130 := rfl; have e2 : room_1.slots = 7301080 := rfl; omega)⟩ rfl) hS hP hD hA (fun r H locs hpost hP hD hS => ?_)
        obtain rfl := hpost
        refine zz_iadd X dL_law_255 (z := (1 + (lowS (zshr x 9) 150))) (by first | rfl | omega) ?_
        refine zc1 (zRunS (As := [.ref h, .int (nZ (lowS (zshr y 6) 3)), .int (nZ (lowS (zshr x 7) 9)), .int (nZ (1 + (lowS (zshr x 9) 150)))]) X ms_L_fills (c_L_fills l D k h B1 Sa K T1 xs ((n : Int) + 1) ⟨by omega, by omega⟩ hGa hx (lowS (zshr y 6) 3) (lowS (zshr x 7) 9) (1 + (lowS (zshr x 9) 150)) ⟨by omega, by omega⟩ ⟨by omega, by omega⟩ ⟨by omega, by omega⟩ _) zw_393 (zPre1 hP hD hK) rfl hl (Nat.le_of_ble_eq_true rfl) dL_law_256 ⟨rfl, rfl, ⟨Nat.le_of_ble_eq_true rfl, Nat.le_of_ble_eq_true rfl⟩, (by have e1 : room_1.cells = 600130 := rfl; have e2 : room_1.slots = 7301080 := rfl; omega), (by have e1 : room_1.cells = 600130 := rfl; have e2 : room_1.slots = 7301080 := rfl; omega)⟩ rfl) hS hP hD hA (fun r xs H locs hpost hP hD hS => ?_)
        obtain ⟨rfl, Sb, hGb, hx⟩ := hpost
        refine zz_if_eq X (tgt := 309) dL_law_259 (by decide) ⟨by omega, by omega⟩ (fun c_259 => by exfalso; omega) (fun c_259 => ?_)
        refine lv_aload_n hX hB dL_law_262 rfl (lv_at hl 7 rfl) ?_
        refine zc1 (zRunS (As := [.ref h]) X ms_L_chalks (c_L_chalks l D k h B1 Sb K T1 xs ((n : Int) + 1) ⟨by omega, by omega⟩ hGb hx  _) zw_403 (zPre1 hP hD hK) rfl hl (Nat.le_of_ble_eq_true rfl) dL_law_263 ⟨rfl, rfl, ⟨Nat.le_of_ble_eq_true rfl, Nat.le_of_ble_eq_true rfl⟩, (by have e1 : room_1.cells = 600130 := rfl; have e2 : room_1.slots = 7301080 := rfl; omega), (by have e1 : room_1.cells = 600130 := rfl; have e2 : room_1.slots = 7301080 := rfl; omega)⟩ rfl) hS hP hD hA (fun r xs H locs hpost hP hD hS => ?_)
        obtain ⟨rfl, Sc, hGc, hx⟩ := hpost
        refine zz_if_eq X (tgt := 309) dL_law_266 (by decide) ⟨by omega, by omega⟩ (fun c_266 => by exfalso; omega) (fun c_266 => ?_)
        refine lv_iload_n hX hB dL_law_269 rfl (lv_at hl 8 rfl) ?_
        refine lv_bipush (v := nZ 6) hX hB dL_law_270 (by decide) ?_
        refine zz_irem X dL_law_272 (z := ((↑n : Int) % 6)) (by first | rfl | omega) ⟨by omega, by omega, by omega, by omega⟩ ?_
        refine zz_if_gt X (tgt := 305) dL_law_273 (by decide) ⟨by omega, by omega⟩ (fun c_273 => ?_) (fun c_273 => ?_)
        · refine lv_iconst (v := nZ 1) hX hB dL_law_305 rfl ?_
          refine lv_goto (tgt := 310) hX hB dL_law_306 (by decide) ?_
          refine lv_istore_n (lv' := [(2, .int (nZ 1)), (9, .int (nZ (actR x y B))), (7, .long (nL (printB B))), (6, .int (nZ (S.length : Int))), (5, .int (nZ y)), (4, .int (nZ x)), (0, .ref b), (1, .ref h), (3, .int (nZ (↑n : Int)))]) hX hB dL_law_310 rfl hl (by decide) rfl (fun ls hl => ?_)
          refine lv_iinc (v := nZ (↑(n + 1) : Int)) (lv' := [(3, .int (nZ (↑(n + 1) : Int))), (2, .int (nZ 1)), (9, .int (nZ (actR x y B))), (7, .long (nL (printB B))), (6, .int (nZ (S.length : Int))), (5, .int (nZ y)), (4, .int (nZ x)), (0, .ref b), (1, .ref h)]) hX hB dL_law_311 hl (k := 8) rfl (zinc (by omega)) (by decide) rfl (fun ls hl => ?_)
          refine lv_goto (tgt := 33) hX hB dL_law_314 (by decide) ?_
          refine W.widen (k := cells + 80) (n := slots + 800) (by omega) (by omega) ?_
          exact KK H locs ls B1 Sc K T1 xs hGc hx hP hD hS (lv_sub hl [7, 8, 1, 0] rfl)
        · refine lv_aload_n hX hB dL_law_276 rfl (lv_at hl 7 rfl) ?_
          refine lv_iload hX hB dL_law_277 (lv_at hl 5 rfl) ?_
          refine lv_bipush (v := nZ 6) hX hB dL_law_279 (by decide) ?_
          refine zz_ishr X dL_law_281 ?_
          refine lv_iconst (v := nZ 3) hX hB dL_law_282 rfl ?_
          have hlo_283 := lowS_rng (zshr x 6) (n := 3) (by first | decide | omega)
          refine zc0n (zRunS X ms_L_low (c_L_low l D k (zshr x 6) 3 (by first | decide | omega) _) zw_320 (zPre0 hP hD hK) rfl hl (Nat.le_of_ble_eq_true rfl) dL_law_283 ⟨rfl, rfl, ⟨Nat.le_of_ble_eq_true rfl, Nat.le_of_ble_eq_true rfl⟩, (by have e1 : room_1.cells = 600130 := rfl; have e2 : room_1.slots = 7301080 := rfl; omega), (by have e1 : room_1.cells = 600130 := rfl; have e2 : room_1.slots = 7301080 := rfl; omega)⟩ rfl) hS hP hD hA (fun r H locs hpost hP hD hS => ?_)
          obtain rfl := hpost
          refine lv_iconst (v := nZ 1) hX hB dL_law_286 rfl ?_
          refine lv_iload hX hB dL_law_287 (lv_at hl 4 rfl) ?_
          refine lv_bipush (v := nZ 7) hX hB dL_law_289 (by decide) ?_
          refine zz_ishr X dL_law_291 ?_
          refine lv_sipush (v := nZ 150) hX hB dL_law_292 (by decide) ?_
          have hlo_295 := lowS_rng (zshr y 7) (n := 150) (by first | decide | omega)
          refine zc0n (zRunS X ms_L_low (c_L_low l D k (zshr y 7) 150 (by first | decide | omega) _) zw_320 (zPre0 hP hD hK) rfl hl (Nat.le_of_ble_eq_true rfl) dL_law_295 ⟨rfl, rfl, ⟨Nat.le_of_ble_eq_true rfl, Nat.le_of_ble_eq_true rfl⟩, (by have e1 : room_1.cells = 600130 := rfl; have e2 : room_1.slots = 7301080 := rfl; omega), (by have e1 : room_1.cells = 600130 := rfl; have e2 : room_1.slots = 7301080 := rfl; omega)⟩ rfl) hS hP hD hA (fun r H locs hpost hP hD hS => ?_)
          obtain rfl := hpost
          refine zz_iadd X dL_law_298 (z := (1 + (lowS (zshr y 7) 150))) (by first | rfl | omega) ?_
          refine zc1 (zRunS (As := [.ref h, .int (nZ (lowS (zshr x 6) 3)), .int (nZ (1 + (lowS (zshr y 7) 150)))]) X ms_L_best (c_L_best l D k h B1 Sc K T1 xs ((n : Int) + 1) ⟨by omega, by omega⟩ hGc hx (lowS (zshr x 6) 3) (1 + (lowS (zshr y 7) 150)) ⟨by omega, by omega⟩ ⟨by omega, by omega⟩ _) zw_406 (zPre1 hP hD hK) rfl hl (Nat.le_of_ble_eq_true rfl) dL_law_299 ⟨rfl, rfl, ⟨Nat.le_of_ble_eq_true rfl, Nat.le_of_ble_eq_true rfl⟩, (by have e1 : room_1.cells = 600130 := rfl; have e2 : room_1.slots = 7301080 := rfl; omega), (by have e1 : room_1.cells = 600130 := rfl; have e2 : room_1.slots = 7301080 := rfl; omega)⟩ rfl) hS hP hD hA (fun r xs H locs hpost hP hD hS => ?_)
          obtain ⟨rfl, Sd, hGd, hx⟩ := hpost
          refine zz_if_eq X (tgt := 309) dL_law_302 (by decide) ⟨by omega, by omega⟩ (fun c_302 => by exfalso; omega) (fun c_302 => ?_)
          refine lv_iconst (v := nZ 1) hX hB dL_law_305 rfl ?_
          refine lv_goto (tgt := 310) hX hB dL_law_306 (by decide) ?_
          refine lv_istore_n (lv' := [(2, .int (nZ 1)), (9, .int (nZ (actR x y B))), (7, .long (nL (printB B))), (6, .int (nZ (S.length : Int))), (5, .int (nZ y)), (4, .int (nZ x)), (0, .ref b), (1, .ref h), (3, .int (nZ (↑n : Int)))]) hX hB dL_law_310 rfl hl (by decide) rfl (fun ls hl => ?_)
          refine lv_iinc (v := nZ (↑(n + 1) : Int)) (lv' := [(3, .int (nZ (↑(n + 1) : Int))), (2, .int (nZ 1)), (9, .int (nZ (actR x y B))), (7, .long (nL (printB B))), (6, .int (nZ (S.length : Int))), (5, .int (nZ y)), (4, .int (nZ x)), (0, .ref b), (1, .ref h)]) hX hB dL_law_311 hl (k := 8) rfl (zinc (by omega)) (by decide) rfl (fun ls hl => ?_)
          refine lv_goto (tgt := 33) hX hB dL_law_314 (by decide) ?_
          refine W.widen (k := cells + 80) (n := slots + 800) (by omega) (by omega) ?_
          exact KK H locs ls B1 Sd K T1 xs hGd hx hP hD hS (lv_sub hl [7, 8, 1, 0] rfl)
      · refine lv_aload_n hX hB dL_law_147 rfl (lv_at hl 7 rfl) ?_
        refine zc1n (zRunW (As := [.ref h]) X mw_undo (wc_undo l D k h B1 S1 K T1 xs hG1.1 hx B (by rw [← hS1]; exact saveL_last _ _) ((S1.length : Int) - 1) (rfl) B (rfl) S ((by rw [← hS1]; exact saveL_drop_lt (by omega))) _) zw_299 (zPre1 hP hD hK) rfl hl (Nat.le_of_ble_eq_true rfl) dL_law_148 ⟨rfl, rfl, ⟨Nat.le_of_ble_eq_true rfl, Nat.le_of_ble_eq_true rfl⟩, (by have e1 : room_1.cells = 600130 := rfl; have e2 : room_1.slots = 7301080 := rfl; omega), (by have e1 : room_1.cells = 600130 := rfl; have e2 : room_1.slots = 7301080 := rfl; omega)⟩ rfl) hS hP hD hA (fun r xs H locs hpost hP hD hS => ?_)
        obtain ⟨rfl, hx⟩ := hpost
        refine lv_iload hX hB dL_law_151 (lv_at hl 3 rfl) ?_
        refine zs_ne X (by omega) (tgt := 183) dL_law_153 (by decide) ?_
        refine lv_aload_n hX hB dL_law_156 rfl (lv_at hl 7 rfl) ?_
        refine zcL1n (zRunS (As := [.ref h]) X ms_L_print (c_L_print l D k h B S K T1 xs (n : Int) ⟨by omega, by omega⟩ (hG.text (T' := T1)) hx  _) zw_161 (zPre1 hP hD hK) rfl hl (Nat.le_of_ble_eq_true rfl) dL_law_157 ⟨rfl, rfl, ⟨Nat.le_of_ble_eq_true rfl, Nat.le_of_ble_eq_true rfl⟩, (by have e1 : room_1.cells = 600130 := rfl; have e2 : room_1.slots = 7301080 := rfl; omega), (by have e1 : room_1.cells = 600130 := rfl; have e2 : room_1.slots = 7301080 := rfl; omega)⟩ rfl) hS hP hD hA (fun r xs H locs hpost hP hD hS => ?_)
        obtain ⟨rfl, hx⟩ := hpost
        refine lv_lload hX hB dL_law_160 (lv_at hl 2 rfl) ?_
        refine zs_lcmp X (rfl) dL_law_162 ?_
        refine zz_if_ne X (tgt := 183) dL_law_163 (by decide) ⟨by omega, by omega⟩ (fun c_163 => by exfalso; omega) (fun c_163 => ?_)
        refine lv_aload_n hX hB dL_law_166 rfl (lv_at hl 7 rfl) ?_
        refine lv_iload hX hB dL_law_167 (lv_at hl 5 rfl) ?_
        refine lv_iload hX hB dL_law_169 (lv_at hl 4 rfl) ?_
        refine zc1 (zRunS (As := [.ref h, .int (nZ x), .int (nZ y)]) X ms_L_act (c_L_act l D k h B S K T1 xs (n : Int) ⟨by omega, by omega⟩ (hG.text (T' := T1)) hx x y _) zw_317 (zPre1 hP hD hK) rfl hl (Nat.le_of_ble_eq_true rfl) dL_law_171 ⟨rfl, rfl, ⟨Nat.le_of_ble_eq_true rfl, Nat.le_of_ble_eq_true rfl⟩, (by have e1 : room_1.cells = 600130 := rfl; have e2 : room_1.slots = 7301080 := rfl; omega), (by have e1 : room_1.cells = 600130 := rfl; have e2 : room_1.slots = 7301080 := rfl; omega)⟩ rfl) hS hP hD hA (fun r xs H locs hpost hP hD hS => ?_)
        obtain ⟨rfl, T1, hx⟩ := hpost
        rw [hB1, hS1] at hx
        refine lv_iload hX hB dL_law_174 (lv_at hl 1 rfl) ?_
        refine zs_ne X (rfl) (tgt := 183) dL_law_176 (by decide) ?_
        refine lv_iconst (v := nZ 1) hX hB dL_law_179 rfl ?_
        refine lv_goto (tgt := 184) hX hB dL_law_180 (by decide) ?_
        refine lv_istore_n (lv' := [(2, .int (nZ 1)), (9, .int (nZ (actR x y B))), (7, .long (nL (printB B))), (6, .int (nZ (S.length : Int))), (5, .int (nZ y)), (4, .int (nZ x)), (0, .ref b), (1, .ref h), (3, .int (nZ (↑n : Int)))]) hX hB dL_law_184 rfl hl (by decide) rfl (fun ls hl => ?_)
        refine lv_iload_n hX hB dL_law_185 rfl (lv_at hl 0 rfl) ?_
        refine zz_if_eq X (tgt := 309) dL_law_186 (by decide) ⟨by omega, by omega⟩ (fun c_186 => by exfalso; omega) (fun c_186 => ?_)
        refine lv_aload_n hX hB dL_law_189 rfl (lv_at hl 7 rfl) ?_
        refine zc1 (zRunS (As := [.ref h]) X ms_L_hangs (c_L_hangs l D k h B1 S1 K T1 xs ((n : Int) + 1) ⟨by omega, by omega⟩ (hG1.text (T' := T1)) hx  _) zw_66 (zPre1 hP hD hK) rfl hl (Nat.le_of_ble_eq_true rfl) dL_law_190 ⟨rfl, rfl, ⟨Nat.le_of_ble_eq_true rfl, Nat.le_of_ble_eq_true rfl⟩, (by have e1 : room_1.cells = 600130 := rfl; have e2 : room_1.slots = 7301080 := rfl; omega), (by have e1 : room_1.cells = 600130 := rfl; have e2 : room_1.slots = 7301080 := rfl; omega)⟩ rfl) hS hP hD hA (fun r xs H locs hpost hP hD hS => ?_)
        obtain ⟨rfl, hx⟩ := hpost
        refine zz_if_eq X (tgt := 309) dL_law_193 (by decide) ⟨by omega, by omega⟩ (fun c_193 => by exfalso; omega) (fun c_193 => ?_)
        refine lv_aload_n hX hB dL_law_196 rfl (lv_at hl 7 rfl) ?_
        refine lv_iload hX hB dL_law_197 (lv_at hl 5 rfl) ?_
        refine lv_iconst (v := nZ 5) hX hB dL_law_199 rfl ?_
        refine zz_ishr X dL_law_200 ?_
        refine lv_iconst (v := nZ 3) hX hB dL_law_201 rfl ?_
        have hlo_202 := lowS_rng (zshr x 5) (n := 3) (by first | decide | omega)
        refine zc0n (zRunS X ms_L_low (c_L_low l D k (zshr x 5) 3 (by first | decide | omega) _) zw_320 (zPre0 hP hD hK) rfl hl (Nat.le_of_ble_eq_true rfl) dL_law_202 ⟨rfl, rfl, ⟨Nat.le_of_ble_eq_true rfl, Nat.le_of_ble_eq_true rfl⟩, (by have e1 : room_1.cells = 600130 := rfl; have e2 : room_1.slots = 7301080 := rfl; omega), (by have e1 : room_1.cells = 600130 := rfl; have e2 : room_1.slots = 7301080 := rfl; omega)⟩ rfl) hS hP hD hA (fun r H locs hpost hP hD hS => ?_)
        obtain rfl := hpost
        refine lv_iconst (v := nZ 1) hX hB dL_law_205 rfl ?_
        refine lv_iload hX hB dL_law_206 (lv_at hl 4 rfl) ?_
        refine lv_iconst (v := nZ 3) hX hB dL_law_208 rfl ?_
        refine zz_ishr X dL_law_209 ?_
        refine lv_sipush (v := nZ 150) hX hB dL_law_210 (by decide) ?_
        have hlo_213 := lowS_rng (zshr y 3) (n := 150) (by first | decide | omega)
        refine zc0n (zRunS X ms_L_low (c_L_low l D k (zshr y 3) 150 (by first | decide | omega) _) zw_320 (zPre0 hP hD hK) rfl hl (Nat.le_of_ble_eq_true rfl) dL_law_213 ⟨rfl, rfl, ⟨Nat.le_of_ble_eq_true rfl, Nat.le_of_ble_eq_true rfl⟩, (by have e1 : room_1.cells = 600130 := rfl; have e2 : room_1.slots = 7301080 := rfl; omega), (by have e1 : room_1.cells = 600130 := rfl; have e2 : room_1.slots = 7301080 := rfl; omega)⟩ rfl) hS hP hD hA (fun r H locs hpost hP hD hS => ?_)
        obtain rfl := hpost
        refine zz_iadd X dL_law_216 (z := (1 + (lowS (zshr y 3) 150))) (by first | rfl | omega) ?_
        refine zc1 (zRunS (As := [.ref h, .int (nZ (lowS (zshr x 5) 3)), .int (nZ (1 + (lowS (zshr y 3) 150)))]) X ms_L_pushes (c_L_pushes l D k h B1 S1 K T1 xs ((n : Int) + 1) ⟨by omega, by omega⟩ (hG1.text (T' := T1)) hx (lowS (zshr x 5) 3) (1 + (lowS (zshr y 3) 150)) ⟨by omega, by omega⟩ ⟨by omega, by omega⟩ _) zw_158 (zPre1 hP hD hK) rfl hl (Nat.le_of_ble_eq_true rfl) dL_law_217 ⟨rfl, rfl, ⟨Nat.le_of_ble_eq_true rfl, Nat.le_of_ble_eq_true rfl⟩, (by have e1 : room_1.cells = 600130 := rfl; have e2 : room_1.slots = 7301080 := rfl; omega), (by have e1 : room_1.cells = 600130 := rfl; have e2 : room_1.slots = 7301080 := rfl; omega)⟩ rfl) hS hP hD hA (fun r xs H locs hpost hP hD hS => ?_)
        obtain ⟨rfl, Sa, hGa, hx⟩ := hpost
        refine zz_if_eq X (tgt := 309) dL_law_220 (by decide) ⟨by omega, by omega⟩ (fun c_220 => by exfalso; omega) (fun c_220 => ?_)
        refine lv_aload_n hX hB dL_law_223 rfl (lv_at hl 7 rfl) ?_
        refine lv_iload hX hB dL_law_224 (lv_at hl 4 rfl) ?_
        refine lv_bipush (v := nZ 6) hX hB dL_law_226 (by decide) ?_
        refine zz_ishr X dL_law_228 ?_
        refine lv_iconst (v := nZ 3) hX hB dL_law_229 rfl ?_
        have hlo_230 := lowS_rng (zshr y 6) (n := 3) (by first | decide | omega)
        refine zc0n (zRunS X ms_L_low (c_L_low l D k (zshr y 6) 3 (by first | decide | omega) _) zw_320 (zPre0 hP hD hK) rfl hl (Nat.le_of_ble_eq_true rfl) dL_law_230 ⟨rfl, rfl, ⟨Nat.le_of_ble_eq_true rfl, Nat.le_of_ble_eq_true rfl⟩, (by have e1 : room_1.cells = 600130 := rfl; have e2 : room_1.slots = 7301080 := rfl; omega), (by have e1 : room_1.cells = 600130 := rfl; have e2 : room_1.slots = 7301080 := rfl; omega)⟩ rfl) hS hP hD hA (fun r H locs hpost hP hD hS => ?_)
        obtain rfl := hpost
        refine lv_iload hX hB dL_law_233 (lv_at hl 5 rfl) ?_
        refine lv_bipush (v := nZ 7) hX hB dL_law_235 (by decide) ?_
        refine zz_ishr X dL_law_237 ?_
        refine lv_bipush (v := nZ 9) hX hB dL_law_238 (by decide) ?_
        have hlo_240 := lowS_rng (zshr x 7) (n := 9) (by first | decide | omega)
        refine zc0n (zRunS X ms_L_low (c_L_low l D k (zshr x 7) 9 (by first | decide | omega) _) zw_320 (zPre0 hP hD hK) rfl hl (Nat.le_of_ble_eq_true rfl) dL_law_240 ⟨rfl, rfl, ⟨Nat.le_of_ble_eq_true rfl, Nat.le_of_ble_eq_true rfl⟩, (by have e1 : room_1.cells = 600130 := rfl; have e2 : room_1.slots = 7301080 := rfl; omega), (by have e1 : room_1.cells = 600130 := rfl; have e2 : room_1.slots = 7301080 := rfl; omega)⟩ rfl) hS hP hD hA (fun r H locs hpost hP hD hS => ?_)
        obtain rfl := hpost
        refine lv_iconst (v := nZ 1) hX hB dL_law_243 rfl ?_
        refine lv_iload hX hB dL_law_244 (lv_at hl 5 rfl) ?_
        refine lv_bipush (v := nZ 9) hX hB dL_law_246 (by decide) ?_
        refine zz_ishr X dL_law_248 ?_
        refine lv_sipush (v := nZ 150) hX hB dL_law_249 (by decide) ?_
        have hlo_252 := lowS_rng (zshr x 9) (n := 150) (by first | decide | omega)
        refine zc0n (zRunS X ms_L_low (c_L_low l D k (zshr x 9) 150 (by first | decide | omega) _) zw_320 (zPre0 hP hD hK) rfl hl (Nat.le_of_ble_eq_true rfl) dL_law_252 ⟨rfl, rfl, ⟨Nat.le_of_ble_eq_true rfl, Nat.le_of_ble_eq_true rfl⟩, (by have e1 : room_1.cells = 600130 := rfl; have e2 : room_1.slots = 7301080 := rfl; omega), (by have e1 : room_1.cells = 600130 := rfl; have e2 : room_1.slots = 7301080 := rfl; omega)⟩ rfl) hS hP hD hA (fun r H locs hpost hP hD hS => ?_)
        obtain rfl := hpost
        refine zz_iadd X dL_law_255 (z := (1 + (lowS (zshr x 9) 150))) (by first | rfl | omega) ?_
        refine zc1 (zRunS (As := [.ref h, .int (nZ (lowS (zshr y 6) 3)), .int (nZ (lowS (zshr x 7) 9)), .int (nZ (1 + (lowS (zshr x 9) 150)))]) X ms_L_fills (c_L_fills l D k h B1 Sa K T1 xs ((n : Int) + 1) ⟨by omega, by omega⟩ hGa hx (lowS (zshr y 6) 3) (lowS (zshr x 7) 9) (1 + (lowS (zshr x 9) 150)) ⟨by omega, by omega⟩ ⟨by omega, by omega⟩ ⟨by omega, by omega⟩ _) zw_393 (zPre1 hP hD hK) rfl hl (Nat.le_of_ble_eq_true rfl) dL_law_256 ⟨rfl, rfl, ⟨Nat.le_of_ble_eq_true rfl, Nat.le_of_ble_eq_true rfl⟩, (by have e1 : room_1.cells = 600130 := rfl; have e2 : room_1.slots = 7301080 := rfl; omega), (by have e1 : room_1.cells = 600130 := rfl; have e2 : room_1.slots = 7301080 := rfl; omega)⟩ rfl) hS hP hD hA (fun r xs H locs hpost hP hD hS => ?_)
        obtain ⟨rfl, Sb, hGb, hx⟩ := hpost
        refine zz_if_eq X (tgt := 309) dL_law_259 (by decide) ⟨by omega, by omega⟩ (fun c_259 => by exfalso; omega) (fun c_259 => ?_)
        refine lv_aload_n hX hB dL_law_262 rfl (lv_at hl 7 rfl) ?_
        refine zc1 (zRunS (As := [.ref h]) X ms_L_chalks (c_L_chalks l D k h B1 Sb K T1 xs ((n : Int) + 1) ⟨by omega, by omega⟩ hGb hx  _) zw_403 (zPre1 hP hD hK) rfl hl (Nat.le_of_ble_eq_true rfl) dL_law_263 ⟨rfl, rfl, ⟨Nat.le_of_ble_eq_true rfl, Nat.le_of_ble_eq_true rfl⟩, (by have e1 : room_1.cells = 600130 := rfl; have e2 : room_1.slots = 7301080 := rfl; omega), (by have e1 : room_1.cells = 600130 := rfl; have e2 : room_1.slots = 7301080 := rfl; omega)⟩ rfl) hS hP hD hA (fun r xs H locs hpost hP hD hS => ?_)
        obtain ⟨rfl, Sc, hGc, hx⟩ := hpost
        refine zz_if_eq X (tgt := 309) dL_law_266 (by decide) ⟨by omega, by omega⟩ (fun c_266 => by exfalso; omega) (fun c_266 => ?_)
        refine lv_iload_n hX hB dL_law_269 rfl (lv_at hl 8 rfl) ?_
        refine lv_bipush (v := nZ 6) hX hB dL_law_270 (by decide) ?_
        refine zz_irem X dL_law_272 (z := ((↑n : Int) % 6)) (by first | rfl | omega) ⟨by omega, by omega, by omega, by omega⟩ ?_
        refine zz_if_gt X (tgt := 305) dL_law_273 (by decide) ⟨by omega, by omega⟩ (fun c_273 => ?_) (fun c_273 => ?_)
        · refine lv_iconst (v := nZ 1) hX hB dL_law_305 rfl ?_
          refine lv_goto (tgt := 310) hX hB dL_law_306 (by decide) ?_
          refine lv_istore_n (lv' := [(2, .int (nZ 1)), (9, .int (nZ (actR x y B))), (7, .long (nL (printB B))), (6, .int (nZ (S.length : Int))), (5, .int (nZ y)), (4, .int (nZ x)), (0, .ref b), (1, .ref h), (3, .int (nZ (↑n : Int)))]) hX hB dL_law_310 rfl hl (by decide) rfl (fun ls hl => ?_)
          refine lv_iinc (v := nZ (↑(n + 1) : Int)) (lv' := [(3, .int (nZ (↑(n + 1) : Int))), (2, .int (nZ 1)), (9, .int (nZ (actR x y B))), (7, .long (nL (printB B))), (6, .int (nZ (S.length : Int))), (5, .int (nZ y)), (4, .int (nZ x)), (0, .ref b), (1, .ref h)]) hX hB dL_law_311 hl (k := 8) rfl (zinc (by omega)) (by decide) rfl (fun ls hl => ?_)
          refine lv_goto (tgt := 33) hX hB dL_law_314 (by decide) ?_
          refine W.widen (k := cells + 80) (n := slots + 800) (by omega) (by omega) ?_
          exact KK H locs ls B1 Sc K T1 xs hGc hx hP hD hS (lv_sub hl [7, 8, 1, 0] rfl)
        · refine lv_aload_n hX hB dL_law_276 rfl (lv_at hl 7 rfl) ?_
          refine lv_iload hX hB dL_law_277 (lv_at hl 5 rfl) ?_
          refine lv_bipush (v := nZ 6) hX hB dL_law_279 (by decide) ?_
          refine zz_ishr X dL_law_281 ?_
          refine lv_iconst (v := nZ 3) hX hB dL_law_282 rfl ?_
          have hlo_283 := lowS_rng (zshr x 6) (n := 3) (by first | decide | omega)
          refine zc0n (zRunS X ms_L_low (c_L_low l D k (zshr x 6) 3 (by first | decide | omega) _) zw_320 (zPre0 hP hD hK) rfl hl (Nat.le_of_ble_eq_true rfl) dL_law_283 ⟨rfl, rfl, ⟨Nat.le_of_ble_eq_true rfl, Nat.le_of_ble_eq_true rfl⟩, (by have e1 : room_1.cells = 600130 := rfl; have e2 : room_1.slots = 7301080 := rfl; omega), (by have e1 : room_1.cells = 600130 := rfl; have e2 : room_1.slots = 7301080 := rfl; omega)⟩ rfl) hS hP hD hA (fun r H locs hpost hP hD hS => ?_)
          obtain rfl := hpost
          refine lv_iconst (v := nZ 1) hX hB dL_law_286 rfl ?_
          refine lv_iload hX hB dL_law_287 (lv_at hl 4 rfl) ?_
          refine lv_bipush (v := nZ 7) hX hB dL_law_289 (by decide) ?_
          refine zz_ishr X dL_law_291 ?_
          refine lv_sipush (v := nZ 150) hX hB dL_law_292 (by decide) ?_
          have hlo_295 := lowS_rng (zshr y 7) (n := 150) (by first | decide | omega)
          refine zc0n (zRunS X ms_L_low (c_L_low l D k (zshr y 7) 150 (by first | decide | omega) _) zw_320 (zPre0 hP hD hK) rfl hl (Nat.le_of_ble_eq_true rfl) dL_law_295 ⟨rfl, rfl, ⟨Nat.le_of_ble_eq_true rfl, Nat.le_of_ble_eq_true rfl⟩, (by have e1 : room_1.cells = 600130 := rfl; have e2 : room_1.slots = 7301080 := rfl; omega), (by have e1 : room_1.cells = 600130 := rfl; have e2 : room_1.slots = 7301080 := rfl; omega)⟩ rfl) hS hP hD hA (fun r H locs hpost hP hD hS => ?_)
          obtain rfl := hpost
          refine zz_iadd X dL_law_298 (z := (1 + (lowS (zshr y 7) 150))) (by first | rfl | omega) ?_
          refine zc1 (zRunS (As := [.ref h, .int (nZ (lowS (zshr x 6) 3)), .int (nZ (1 + (lowS (zshr y 7) 150)))]) X ms_L_best (c_L_best l D k h B1 Sc K T1 xs ((n : Int) + 1) ⟨by omega, by omega⟩ hGc hx (lowS (zshr x 6) 3) (1 + (lowS (zshr y 7) 150)) ⟨by omega, by omega⟩ ⟨by omega, by omega⟩ _) zw_406 (zPre1 hP hD hK) rfl hl (Nat.le_of_ble_eq_true rfl) dL_law_299 ⟨rfl, rfl, ⟨Nat.le_of_ble_eq_true rfl, Nat.le_of_ble_eq_true rfl⟩, (by have e1 : room_1.cells = 600130 := rfl; have e2 : room_1.slots = 7301080 := rfl; omega), (by have e1 : room_1.cells = 600130 := rfl; have e2 : room_1.slots = 7301080 := rfl; omega)⟩ rfl) hS hP hD hA (fun r xs H locs hpost hP hD hS => ?_)
          obtain ⟨rfl, Sd, hGd, hx⟩ := hpost
          refine zz_if_eq X (tgt := 309) dL_law_302 (by decide) ⟨by omega, by omega⟩ (fun c_302 => by exfalso; omega) (fun c_302 => ?_)
          refine lv_iconst (v := nZ 1) hX hB dL_law_305 rfl ?_
          refine lv_goto (tgt := 310) hX hB dL_law_306 (by decide) ?_
          refine lv_istore_n (lv' := [(2, .int (nZ 1)), (9, .int (nZ (actR x y B))), (7, .long (nL (printB B))), (6, .int (nZ (S.length : Int))), (5, .int (nZ y)), (4, .int (nZ x)), (0, .ref b), (1, .ref h), (3, .int (nZ (↑n : Int)))]) hX hB dL_law_310 rfl hl (by decide) rfl (fun ls hl => ?_)
          refine lv_iinc (v := nZ (↑(n + 1) : Int)) (lv' := [(3, .int (nZ (↑(n + 1) : Int))), (2, .int (nZ 1)), (9, .int (nZ (actR x y B))), (7, .long (nL (printB B))), (6, .int (nZ (S.length : Int))), (5, .int (nZ y)), (4, .int (nZ x)), (0, .ref b), (1, .ref h)]) hX hB dL_law_311 hl (k := 8) rfl (zinc (by omega)) (by decide) rfl (fun ls hl => ?_)
          refine lv_goto (tgt := 33) hX hB dL_law_314 (by decide) ?_
          refine W.widen (k := cells + 80) (n := slots + 800) (by omega) (by omega) ?_
          exact KK H locs ls B1 Sd K T1 xs hGd hx hP hD hS (lv_sub hl [7, 8, 1, 0] rfl)
set_option maxRecDepth 100000 in
theorem law_loop (X : zCx p s m args meth c cL_law 10 (some .boolean) RL D k) (hA : ∀ q, s.heap.size ≤ q → A q) (hC : va_X b L sc s s.heap) (hbl : b < s.heap.size) (hbA : ¬ A b) (hL : L ≤ 260)
    (KE : ∀ (H : Heap) (locs : List Loc) (ls : Array Slot), va_S A s.heap H locs → W p l e room_1 s m args below meth c H locs 600130 7301080 Q (F0 m 318 ls [.int (nZ 1)])) :
    ∀ (r n cells slots : Nat), n + r = 46 → cells + 80 * r ≤ 600000 → slots + 800 * r ≤ 7000000 → lawH p l e room_1 s m args below meth c Q D k h b A (n : Int) (n : Int) cells slots 33 := by
  have hX := X.1; have hB := X.2.1
  intro r
  induction r with
  | zero =>
    intro n cells slots h0 h1 h2 H locs ls B S K T xs hG hx hP hD hS hl
    refine lv_iload_n hX hB dL_law_33 rfl (lv_at hl 3 rfl) ?_
    refine lv_bipush (v := nZ 46) hX hB dL_law_34 (by decide) ?_
    refine zz_icmp_ge X (tgt := 317) dL_law_36 (by decide) ⟨by omega, by omega⟩ ⟨by omega, by omega⟩ (fun _ => ?_) (fun c9 => by exfalso; omega)
    refine lv_iload_n hX hB dL_law_317 rfl (lv_at hl 2 rfl) ?_
    exact W.widen (by omega) (by omega) (KE H locs ls hS)
  | succ r ih =>
    intro n cells slots h0 h1 h2 H locs ls B S K T xs hG hx hP hD hS hl
    refine lv_iload_n hX hB dL_law_33 rfl (lv_at hl 3 rfl) ?_
    refine lv_bipush (v := nZ 46) hX hB dL_law_34 (by decide) ?_
    refine zz_icmp_ge X (tgt := 317) dL_law_36 (by decide) ⟨by omega, by omega⟩ ⟨by omega, by omega⟩ (fun c9 => by exfalso; omega) (fun _ => ?_)
    refine lv_iload_n hX hB dL_law_39 rfl (lv_at hl 2 rfl) ?_
    refine zz_if_eq X (tgt := 317) dL_law_40 (by decide) ⟨by omega, by omega⟩ (fun c9 => by exfalso; omega) (fun _ => ?_)
    refine law_round (cells := cells) (slots := slots) X hA hC hbl hbA hL (n := n) (by omega) ⟨by omega, by omega⟩ ?_ H locs ls B S K T xs hG hx hP hD hS hl
    exact ih (n + 1) (cells + 80) (slots + 800) (by omega) (by omega) (by omega)
end LAWC
