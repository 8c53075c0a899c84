section LCC
variable {p : Program} {l : Launch} {e : Env} {R : Room} {s : State} {m : MethodId} {args : Array Value} {below : List Frame} {meth : Method} {c : Code} {Q : State → Prop}
variable {D : va_G} {k : Nat → ClassId} {h mm ot b L : Nat} {sc : Nat → Int32} {A : Nat → Prop} {i : Int} {cells slots : Nat}
set_option maxHeartbeats 1000000 in
theorem lc_push (C : lawC p l R s m args meth c D k b L sc A i cells slots) (KK : lawG p l e R s m args below meth c Q D k h mm ot b A i (cells + 10) (slots + 110) 1057) : lawG p l e R s m args below meth c Q D k h mm ot b A i cells slots 136 := by
  intro H locs ls σ t g xs ys hG hx hm hP hD hS hl
  obtain ⟨X, hst, hxT, hxZ, hA, hC, hbl, hbA, hL, hi, hfr, hcs⟩ := C
  have hX := X.1; have hB := X.2.1; have hz := X.2.2.2.2.1; have hW := X.2.2.2.2.2.1; have hK := X.2.2.2.2.2.2.2
  obtain ⟨x1, hz1, hv1⟩ : ∃ x : Int, zR x ∧ sc (nZ (i + 1)).toNatClampNeg = nZ x := ⟨_, nZ_rng _, (nZ_as _).symm⟩
  obtain ⟨x2, hz2, hv2⟩ : ∃ x : Int, zR x ∧ sc (nZ (i + 2)).toNatClampNeg = nZ x := ⟨_, nZ_rng _, (nZ_as _).symm⟩
  obtain ⟨σ2, cd, ans, hcd, hW9, hM9⟩ := pr_push l hst D k h mm ot t g σ xs ys hG hx hm x1 x2 hz1 hz2
  have hcr : zR cd := by rcases hcd with rfl | rfl | rfl <;> exact ⟨by decide, by decide⟩
  refine lv_aload_n hX hB dL_law_136 rfl (lv_at hl 1 rfl) ?_
  refine lv_aload_n hX hB dL_law_137 rfl (lv_at hl 0 rfl) ?_
  refine lv_iload hX hB dL_law_138 (lv_at hl 4 rfl) ?_
  refine lv_iconst (v := nZ 1) hX hB dL_law_140 rfl ?_
  refine zz_iadd X dL_law_141 (z := i + 1) rfl ?_
  refine zz_sld X hC hbl hbA hS (by omega) (by omega) hL hv1 dL_law_142 ?_
  refine lv_aload_n hX hB dL_law_143 rfl (lv_at hl 0 rfl) ?_
  refine lv_iload hX hB dL_law_144 (lv_at hl 4 rfl) ?_
  refine lv_iconst (v := nZ 2) hX hB dL_law_146 rfl ?_
  refine zz_iadd X dL_law_147 (z := i + 2) rfl ?_
  refine zz_sld X hC hbl hbA hS (by omega) (by omega) hL hv2 dL_law_148 ?_
  refine lv_aload_n hX hB dL_law_149 rfl (lv_at hl 3 rfl) ?_
  refine zCallIO (zRunW (As := [.ref h, .int (nZ x1), .int (nZ x2), .ref ot]) X mw_push (hW9 _) zw_79 (zPreSOT hP hD hK hS hA hxT hxZ zlp1) rfl hl (by first | exact Nat.le_of_ble_eq_true rfl | omega | (dsimp only [zRW, zRN, zRB]; omega)) dL_law_150 ⟨rfl, rfl, ⟨(by first | exact Nat.le_of_ble_eq_true rfl | omega | (dsimp only [zRW, zRN, zRB]; omega)), (by first | exact Nat.le_of_ble_eq_true rfl | omega | (dsimp only [zRW, zRN, zRB]; omega))⟩, (by first | exact Nat.le_of_ble_eq_true rfl | omega | (dsimp only [zRW, zRN, zRB]; omega)), (by first | exact Nat.le_of_ble_eq_true rfl | omega | (dsimp only [zRW, zRN, zRB]; omega))⟩ rfl) hS hP hD hA zlp1 (fun r u H locs hpost hP hD hS => ?_)
  obtain ⟨g2, xs2, rfl, rfl, hg, hx2⟩ := hpost
  refine lv_istore (lv' := [(5, .int (nZ cd)), (0, .ref b), (1, .ref h), (2, .ref mm), (3, .ref ot), (4, .int (nZ i))]) hX hB dL_law_153 hl (by decide) rfl (fun ls hl => ?_)
  refine lv_aload_n hX hB dL_law_155 rfl (lv_at hl 3 rfl) ?_
  refine lv_aload_n hX hB dL_law_156 rfl (lv_at hl 1 rfl) ?_
  refine lv_iload hX hB dL_law_157 (lv_at hl 5 rfl) ?_
  refine lv_iconst (v := nZ 1) hX hB dL_law_159 rfl ?_
  refine zz_iadd X dL_law_160 (z := i + 1) rfl ?_
  refine zz_sld X hC hbl hbA hS (by omega) (by omega) hL hv1 dL_law_161 ?_
  refine lv_aload_n hX hB dL_law_162 rfl (lv_at hl 1 rfl) ?_
  refine lv_iload hX hB dL_law_163 (lv_at hl 5 rfl) ?_
  refine lv_iconst (v := nZ 2) hX hB dL_law_165 rfl ?_
  refine zz_iadd X dL_law_166 (z := i + 2) rfl ?_
  refine zz_sld X hC hbl hbA hS (by omega) (by omega) hL hv2 dL_law_167 ?_
  obtain ⟨fs, he⟩ := hm.recv
  refine zCallIO (zRunV (As := [.int (nZ x1), .int (nZ x2)]) X mv_X7_push (hM9 _) zw_232 (zPreVO hP hD hK zlp2 he rfl rfl) rfl hl (by first | exact Nat.le_of_ble_eq_true rfl | omega | (dsimp only [zRW, zRN, zRB]; omega)) dL_law_168 ⟨rfl, rfl, ⟨(by first | exact Nat.le_of_ble_eq_true rfl | omega | (dsimp only [zRW, zRN, zRB]; omega)), (by first | exact Nat.le_of_ble_eq_true rfl | omega | (dsimp only [zRW, zRN, zRB]; omega))⟩, (by first | exact Nat.le_of_ble_eq_true rfl | omega | (dsimp only [zRW, zRN, zRB]; omega)), (by first | exact Nat.le_of_ble_eq_true rfl | omega | (dsimp only [zRW, zRN, zRB]; omega))⟩ rfl) hS hP hD hA zlp2 (fun r u H locs hpost hP hD hS => ?_)
  obtain ⟨rfl, hG2, hm2⟩ := hpost
  have hP := zPerm_P hP (List.perm_append_comm (l₂ := zOc k ot g2 :: xs2))
  have hD := zPerm_D hD (List.perm_append_comm (l₂ := zOc k ot g2 :: xs2))
  refine lv_istore (lv' := [(6, .int (nZ ans)), (5, .int (nZ cd)), (0, .ref b), (1, .ref h), (2, .ref mm), (3, .ref ot), (4, .int (nZ i))]) hX hB dL_law_171 hl (by decide) rfl (fun ls hl => ?_)
  refine lv_aload_n hX hB dL_law_173 rfl (lv_at hl 4 rfl) ?_
  obtain ⟨B, S, K, T⟩ := σ2
  obtain ⟨fs2, he2⟩ := hm2.recv
  refine zCallIO (zRunV (As := []) X mv_X7_thrown (bm_thrown l D k mm cd B S K T u hG2 hm2 _) zw_310 (zPreVO (ws := zOc k ot g2 :: (xs2 ++ u)) hP hD hK zlp2 he2 rfl rfl) rfl hl (by first | exact Nat.le_of_ble_eq_true rfl | omega | (dsimp only [zRW, zRN, zRB]; omega)) dL_law_174 ⟨rfl, rfl, ⟨(by first | exact Nat.le_of_ble_eq_true rfl | omega | (dsimp only [zRW, zRN, zRB]; omega)), (by first | exact Nat.le_of_ble_eq_true rfl | omega | (dsimp only [zRW, zRN, zRB]; omega))⟩, (by first | exact Nat.le_of_ble_eq_true rfl | omega | (dsimp only [zRW, zRN, zRB]; omega)), (by first | exact Nat.le_of_ble_eq_true rfl | omega | (dsimp only [zRW, zRN, zRB]; omega))⟩ rfl) hS hP hD hA zlp2 (fun r2 u2 H locs hpost hP hD hS => ?_)
  obtain ⟨rfl, hG3, hm3⟩ := hpost
  have hP := zPerm_P hP (List.perm_append_comm (l₂ := zOc k ot g2 :: xs2))
  have hD := zPerm_D hD (List.perm_append_comm (l₂ := zOc k ot g2 :: xs2))
  refine lv_iload hX hB dL_law_177 (lv_at hl 1 rfl) ?_
  refine lv_same_eq X rfl (tgt := 184) dL_law_179 (by decide) ?_
  refine lv_iload hX hB dL_law_184 (lv_at hl 1 rfl) ?_
  have hend : W p l e R s m args below meth c H locs (cells + 10 + 0 + 0) (slots + 110 + 0 + 0) Q (F0 m 201 ls []) := by
    refine lv_goto (tgt := 1057) hX hB dL_law_201 (by decide) ?_
    exact KK H locs ls _ cd g2 xs2 u2 hG3 hx2 hm3 hP hD hS (lv_sub hl [2, 3, 4, 5, 6] rfl)
  refine zz_if_ne X (tgt := 201) dL_law_186 (by decide) hcr (fun _ => hend) (fun c0 => ?_)
  refine lv_aload_n hX hB dL_law_189 rfl (lv_at hl 5 rfl) ?_
  refine lv_iconst (v := nZ 0) hX hB dL_law_190 rfl ?_
  refine va_lald (ws := zOc k ot g2 :: (xs2 ++ u2)) hX hB hK.1 hP 0 3 rfl rfl (nZ_in (n := 1) (by decide) (by decide) (by decide)) dL_law_191 ?_
  refine lv_iload hX hB dL_law_192 (lv_at hl 0 rfl) ?_
  refine lv_i2l (v := (nZ ans).toInt64) hX hB dL_law_194 rfl ?_
  refine zz_lcmp0 X (hg c0) dL_law_195 ?_
  exact zz_if_eq X (tgt := 201) dL_law_196 (by decide) ⟨by decide, by decide⟩ (fun _ => hend) (fun c1 => absurd rfl c1)

set_option maxHeartbeats 1000000 in
theorem lc_endTurn (C : lawC p l R s m args meth c D k b L sc A i cells slots) (KK : lawG p l e R s m args below meth c Q D k h mm ot b A i (cells + 10) (slots + 110) 1057) : lawG p l e R s m args below meth c Q D k h mm ot b A i cells slots 204 := by
  intro H locs ls σ t g xs ys hG hx hm hP hD hS hl
  obtain ⟨X, hst, hxT, hxZ, hA, hC, hbl, hbA, hL, hi, hfr, hcs⟩ := C
  have hX := X.1; have hB := X.2.1; have hz := X.2.2.2.2.1; have hW := X.2.2.2.2.2.1; have hK := X.2.2.2.2.2.2.2
  obtain ⟨B, S, K, T⟩ := σ
  obtain ⟨fs, he⟩ := hx.recv
  obtain ⟨fs2, he2⟩ := hm.recv
  refine lv_aload_n hX hB dL_law_204 rfl (lv_at hl 1 rfl) ?_
  refine zCallIO (zRunV (As := []) X mv_X6_endTurn (bx_endTurn l D k h B S K T xs hG hx _) zw_314 (zPreVO hP hD hK zlp3 he rfl rfl) rfl hl (by first | exact Nat.le_of_ble_eq_true rfl | omega | (dsimp only [zRW, zRN, zRB]; omega)) dL_law_205 ⟨rfl, rfl, ⟨(by first | exact Nat.le_of_ble_eq_true rfl | omega | (dsimp only [zRW, zRN, zRB]; omega)), (by first | exact Nat.le_of_ble_eq_true rfl | omega | (dsimp only [zRW, zRN, zRB]; omega))⟩, (by first | exact Nat.le_of_ble_eq_true rfl | omega | (dsimp only [zRW, zRN, zRB]; omega)), (by first | exact Nat.le_of_ble_eq_true rfl | omega | (dsimp only [zRW, zRN, zRB]; omega))⟩ rfl) hS hP hD hA zlp3 (fun r u H locs hpost hP hD hS => ?_)
  obtain ⟨rfl, hx2⟩ := hpost
  have hP := zPerm_P hP List.perm_middle
  have hD := zPerm_D hD List.perm_middle
  refine lv_aload_n hX hB dL_law_208 rfl (lv_at hl 2 rfl) ?_
  refine zCallIO (zRunV (As := []) X mv_X7_endTurn (bm_endTurn l D k mm t B S K T ys hG hm _) zw_318 (zPreVO (ws := zOc k ot g :: (u ++ ys)) hP hD hK zlp2 he2 rfl rfl) rfl hl (by first | exact Nat.le_of_ble_eq_true rfl | omega | (dsimp only [zRW, zRN, zRB]; omega)) dL_law_209 ⟨rfl, rfl, ⟨(by first | exact Nat.le_of_ble_eq_true rfl | omega | (dsimp only [zRW, zRN, zRB]; omega)), (by first | exact Nat.le_of_ble_eq_true rfl | omega | (dsimp only [zRW, zRN, zRB]; omega))⟩, (by first | exact Nat.le_of_ble_eq_true rfl | omega | (dsimp only [zRW, zRN, zRB]; omega)), (by first | exact Nat.le_of_ble_eq_true rfl | omega | (dsimp only [zRW, zRN, zRB]; omega))⟩ rfl) hS hP hD hA zlp2 (fun r2 u2 H locs hpost hP hD hS => ?_)
  obtain ⟨rfl, hG3, hm3⟩ := hpost
  have hP := zPerm_P hP (List.perm_append_comm (l₂ := zOc k ot g :: u))
  have hD := zPerm_D hD (List.perm_append_comm (l₂ := zOc k ot g :: u))
  refine lv_same_eq X rfl (tgt := 1057) dL_law_212 (by decide) ?_
  exact KK H locs ls _ 0 g u u2 hG3 hx2 hm3 hP hD hS (lv_sub hl [0, 1, 2, 3, 4] rfl)

set_option maxHeartbeats 1000000 in
theorem lc_begin (C : lawC p l R s m args meth c D k b L sc A i cells slots) (KK : lawG p l e R s m args below meth c Q D k h mm ot b A i (cells + 10) (slots + 110) 1057) : lawG p l e R s m args below meth c Q D k h mm ot b A i cells slots 217 := by
  intro H locs ls σ t g xs ys hG hx hm hP hD hS hl
  obtain ⟨X, hst, hxT, hxZ, hA, hC, hbl, hbA, hL, hi, hfr, hcs⟩ := C
  have hX := X.1; have hB := X.2.1; have hz := X.2.2.2.2.1; have hW := X.2.2.2.2.2.1; have hK := X.2.2.2.2.2.2.2
  obtain ⟨B, S, K, T⟩ := σ
  obtain ⟨fs, he⟩ := hx.recv
  obtain ⟨fs2, he2⟩ := hm.recv
  refine lv_aload_n hX hB dL_law_217 rfl (lv_at hl 1 rfl) ?_
  refine zCallIO (zRunV (As := []) X mv_X6_begin (bx_begin l D k h B S K T xs hG hx _) zw_322 (zPreVO hP hD hK zlp3 he rfl rfl) rfl hl (by first | exact Nat.le_of_ble_eq_true rfl | omega | (dsimp only [zRW, zRN, zRB]; omega)) dL_law_218 ⟨rfl, rfl, ⟨(by first | exact Nat.le_of_ble_eq_true rfl | omega | (dsimp only [zRW, zRN, zRB]; omega)), (by first | exact Nat.le_of_ble_eq_true rfl | omega | (dsimp only [zRW, zRN, zRB]; omega))⟩, (by first | exact Nat.le_of_ble_eq_true rfl | omega | (dsimp only [zRW, zRN, zRB]; omega)), (by first | exact Nat.le_of_ble_eq_true rfl | omega | (dsimp only [zRW, zRN, zRB]; omega))⟩ rfl) hS hP hD hA zlp3 (fun r u H locs hpost hP hD hS => ?_)
  obtain ⟨rfl, hx2⟩ := hpost
  have hP := zPerm_P hP List.perm_middle
  have hD := zPerm_D hD List.perm_middle
  refine lv_aload_n hX hB dL_law_221 rfl (lv_at hl 2 rfl) ?_
  refine zCallIO (zRunV (As := []) X mv_X7_begin (bm_begin l D k mm t B S K T ys hG hm _) zw_332 (zPreVO (ws := zOc k ot g :: (u ++ ys)) hP hD hK zlp2 he2 rfl rfl) rfl hl (by first | exact Nat.le_of_ble_eq_true rfl | omega | (dsimp only [zRW, zRN, zRB]; omega)) dL_law_222 ⟨rfl, rfl, ⟨(by first | exact Nat.le_of_ble_eq_true rfl | omega | (dsimp only [zRW, zRN, zRB]; omega)), (by first | exact Nat.le_of_ble_eq_true rfl | omega | (dsimp only [zRW, zRN, zRB]; omega))⟩, (by first | exact Nat.le_of_ble_eq_true rfl | omega | (dsimp only [zRW, zRN, zRB]; omega)), (by first | exact Nat.le_of_ble_eq_true rfl | omega | (dsimp only [zRW, zRN, zRB]; omega))⟩ rfl) hS hP hD hA zlp2 (fun r2 u2 H locs hpost hP hD hS => ?_)
  obtain ⟨rfl, hG3, hm3⟩ := hpost
  have hP := zPerm_P hP (List.perm_append_comm (l₂ := zOc k ot g :: u))
  have hD := zPerm_D hD (List.perm_append_comm (l₂ := zOc k ot g :: u))
  refine lv_same_eq X rfl (tgt := 1057) dL_law_225 (by decide) ?_
  exact KK H locs ls _ 0 g u u2 hG3 hx2 hm3 hP hD hS (lv_sub hl [0, 1, 2, 3, 4] rfl)

set_option maxHeartbeats 1000000 in
theorem lc_set (C : lawC p l R s m args meth c D k b L sc A i cells slots) (KK : lawG p l e R s m args below meth c Q D k h mm ot b A i (cells + 10) (slots + 110) 1057) : lawG p l e R s m args below meth c Q D k h mm ot b A i cells slots 230 := by
  intro H locs ls σ t g xs ys hG hx hm hP hD hS hl
  obtain ⟨X, hst, hxT, hxZ, hA, hC, hbl, hbA, hL, hi, hfr, hcs⟩ := C
  have hX := X.1; have hB := X.2.1; have hz := X.2.2.2.2.1; have hW := X.2.2.2.2.2.1; have hK := X.2.2.2.2.2.2.2
  obtain ⟨x1, hz1, hv1⟩ : ∃ x : Int, zR x ∧ sc (nZ (i + 1)).toNatClampNeg = nZ x := ⟨_, nZ_rng _, (nZ_as _).symm⟩
  obtain ⟨σ2, cd, ans, hcd, hW9, hM9⟩ := pr_set l hst D k h mm ot t g σ xs ys hG hx hm x1 hz1
  have hcr : zR cd := by rcases hcd with rfl | rfl | rfl <;> exact ⟨by decide, by decide⟩
  refine lv_aload_n hX hB dL_law_230 rfl (lv_at hl 1 rfl) ?_
  refine lv_aload_n hX hB dL_law_231 rfl (lv_at hl 0 rfl) ?_
  refine lv_iload hX hB dL_law_232 (lv_at hl 4 rfl) ?_
  refine lv_iconst (v := nZ 1) hX hB dL_law_234 rfl ?_
  refine zz_iadd X dL_law_235 (z := i + 1) rfl ?_
  refine zz_sld X hC hbl hbA hS (by omega) (by omega) hL hv1 dL_law_236 ?_
  refine lv_aload_n hX hB dL_law_237 rfl (lv_at hl 3 rfl) ?_
  refine zCallIO (zRunW (As := [.ref h, .int (nZ x1), .ref ot]) X mw_set (hW9 _) zw_340 (zPreSOT hP hD hK hS hA hxT hxZ zlp1) rfl hl (by first | exact Nat.le_of_ble_eq_true rfl | omega | (dsimp only [zRW, zRN, zRB]; omega)) dL_law_238 ⟨rfl, rfl, ⟨(by first | exact Nat.le_of_ble_eq_true rfl | omega | (dsimp only [zRW, zRN, zRB]; omega)), (by first | exact Nat.le_of_ble_eq_true rfl | omega | (dsimp only [zRW, zRN, zRB]; omega))⟩, (by first | exact Nat.le_of_ble_eq_true rfl | omega | (dsimp only [zRW, zRN, zRB]; omega)), (by first | exact Nat.le_of_ble_eq_true rfl | omega | (dsimp only [zRW, zRN, zRB]; omega))⟩ rfl) hS hP hD hA zlp1 (fun r u H locs hpost hP hD hS => ?_)
  obtain ⟨g2, xs2, rfl, rfl, hg, hx2⟩ := hpost
  refine lv_istore (lv' := [(5, .int (nZ cd)), (0, .ref b), (1, .ref h), (2, .ref mm), (3, .ref ot), (4, .int (nZ i))]) hX hB dL_law_241 hl (by decide) rfl (fun ls hl => ?_)
  refine lv_aload_n hX hB dL_law_243 rfl (lv_at hl 3 rfl) ?_
  refine lv_aload_n hX hB dL_law_244 rfl (lv_at hl 1 rfl) ?_
  refine lv_iload hX hB dL_law_245 (lv_at hl 5 rfl) ?_
  refine lv_iconst (v := nZ 1) hX hB dL_law_247 rfl ?_
  refine zz_iadd X dL_law_248 (z := i + 1) rfl ?_
  refine zz_sld X hC hbl hbA hS (by omega) (by omega) hL hv1 dL_law_249 ?_
  obtain ⟨fs, he⟩ := hm.recv
  refine zCallIO (zRunV (As := [.int (nZ x1)]) X mv_X7_set (hM9 _) zw_347 (zPreVO hP hD hK zlp2 he rfl rfl) rfl hl (by first | exact Nat.le_of_ble_eq_true rfl | omega | (dsimp only [zRW, zRN, zRB]; omega)) dL_law_250 ⟨rfl, rfl, ⟨(by first | exact Nat.le_of_ble_eq_true rfl | omega | (dsimp only [zRW, zRN, zRB]; omega)), (by first | exact Nat.le_of_ble_eq_true rfl | omega | (dsimp only [zRW, zRN, zRB]; omega))⟩, (by first | exact Nat.le_of_ble_eq_true rfl | omega | (dsimp only [zRW, zRN, zRB]; omega)), (by first | exact Nat.le_of_ble_eq_true rfl | omega | (dsimp only [zRW, zRN, zRB]; omega))⟩ rfl) hS hP hD hA zlp2 (fun r u H locs hpost hP hD hS => ?_)
  obtain ⟨rfl, hG2, hm2⟩ := hpost
  have hP := zPerm_P hP (List.perm_append_comm (l₂ := zOc k ot g2 :: xs2))
  have hD := zPerm_D hD (List.perm_append_comm (l₂ := zOc k ot g2 :: xs2))
  refine lv_istore (lv' := [(6, .int (nZ ans)), (5, .int (nZ cd)), (0, .ref b), (1, .ref h), (2, .ref mm), (3, .ref ot), (4, .int (nZ i))]) hX hB dL_law_253 hl (by decide) rfl (fun ls hl => ?_)
  refine lv_aload_n hX hB dL_law_255 rfl (lv_at hl 4 rfl) ?_
  obtain ⟨B, S, K, T⟩ := σ2
  obtain ⟨fs2, he2⟩ := hm2.recv
  refine zCallIO (zRunV (As := []) X mv_X7_thrown (bm_thrown l D k mm cd B S K T u hG2 hm2 _) zw_310 (zPreVO (ws := zOc k ot g2 :: (xs2 ++ u)) hP hD hK zlp2 he2 rfl rfl) rfl hl (by first | exact Nat.le_of_ble_eq_true rfl | omega | (dsimp only [zRW, zRN, zRB]; omega)) dL_law_256 ⟨rfl, rfl, ⟨(by first | exact Nat.le_of_ble_eq_true rfl | omega | (dsimp only [zRW, zRN, zRB]; omega)), (by first | exact Nat.le_of_ble_eq_true rfl | omega | (dsimp only [zRW, zRN, zRB]; omega))⟩, (by first | exact Nat.le_of_ble_eq_true rfl | omega | (dsimp only [zRW, zRN, zRB]; omega)), (by first | exact Nat.le_of_ble_eq_true rfl | omega | (dsimp only [zRW, zRN, zRB]; omega))⟩ rfl) hS hP hD hA zlp2 (fun r2 u2 H locs hpost hP hD hS => ?_)
  obtain ⟨rfl, hG3, hm3⟩ := hpost
  have hP := zPerm_P hP (List.perm_append_comm (l₂ := zOc k ot g2 :: xs2))
  have hD := zPerm_D hD (List.perm_append_comm (l₂ := zOc k ot g2 :: xs2))
  refine lv_iload hX hB dL_law_259 (lv_at hl 1 rfl) ?_
  refine lv_same_eq X rfl (tgt := 266) dL_law_261 (by decide) ?_
  refine lv_iload hX hB dL_law_266 (lv_at hl 1 rfl) ?_
  have hend : W p l e R s m args below meth c H locs (cells + 10 + 0 + 0) (slots + 110 + 0 + 0) Q (F0 m 283 ls []) := by
    refine lv_goto (tgt := 1057) hX hB dL_law_283 (by decide) ?_
    exact KK H locs ls _ cd g2 xs2 u2 hG3 hx2 hm3 hP hD hS (lv_sub hl [2, 3, 4, 5, 6] rfl)
  refine zz_if_ne X (tgt := 283) dL_law_268 (by decide) hcr (fun _ => hend) (fun c0 => ?_)
  refine lv_aload_n hX hB dL_law_271 rfl (lv_at hl 5 rfl) ?_
  refine lv_iconst (v := nZ 0) hX hB dL_law_272 rfl ?_
  refine va_lald (ws := zOc k ot g2 :: (xs2 ++ u2)) hX hB hK.1 hP 0 3 rfl rfl (nZ_in (n := 1) (by decide) (by decide) (by decide)) dL_law_273 ?_
  refine lv_iload hX hB dL_law_274 (lv_at hl 0 rfl) ?_
  refine lv_i2l (v := (nZ ans).toInt64) hX hB dL_law_276 rfl ?_
  refine zz_lcmp0 X (hg c0) dL_law_277 ?_
  exact zz_if_eq X (tgt := 283) dL_law_278 (by decide) ⟨by decide, by decide⟩ (fun _ => hend) (fun c1 => absurd rfl c1)

set_option maxHeartbeats 1000000 in
theorem lc_append (C : lawC p l R s m args meth c D k b L sc A i cells slots) (KK : lawG p l e R s m args below meth c Q D k h mm ot b A i (cells + 10) (slots + 110) 1057) : lawG p l e R s m args below meth c Q D k h mm ot b A i cells slots 286 := by
  intro H locs ls σ t g xs ys hG hx hm hP hD hS hl
  obtain ⟨X, hst, hxT, hxZ, hA, hC, hbl, hbA, hL, hi, hfr, hcs⟩ := C
  have hX := X.1; have hB := X.2.1; have hz := X.2.2.2.2.1; have hW := X.2.2.2.2.2.1; have hK := X.2.2.2.2.2.2.2
  obtain ⟨x1, hz1, hv1⟩ : ∃ x : Int, zR x ∧ sc (nZ (i + 1)).toNatClampNeg = nZ x := ⟨_, nZ_rng _, (nZ_as _).symm⟩
  obtain ⟨σ2, cd, ans, hcd, hW9, hM9⟩ := pr_append l hst D k h mm ot t g σ xs ys hG hx hm x1 hz1
  have hcr : zR cd := by rcases hcd with rfl | rfl | rfl <;> exact ⟨by decide, by decide⟩
  refine lv_aload_n hX hB dL_law_286 rfl (lv_at hl 1 rfl) ?_
  refine lv_aload_n hX hB dL_law_287 rfl (lv_at hl 0 rfl) ?_
  refine lv_iload hX hB dL_law_288 (lv_at hl 4 rfl) ?_
  refine lv_iconst (v := nZ 1) hX hB dL_law_290 rfl ?_
  refine zz_iadd X dL_law_291 (z := i + 1) rfl ?_
  refine zz_sld X hC hbl hbA hS (by omega) (by omega) hL hv1 dL_law_292 ?_
  refine lv_aload_n hX hB dL_law_293 rfl (lv_at hl 3 rfl) ?_
  refine zCallIO (zRunW (As := [.ref h, .int (nZ x1), .ref ot]) X mw_append (hW9 _) zw_351 (zPreSOT hP hD hK hS hA hxT hxZ zlp1) rfl hl (by first | exact Nat.le_of_ble_eq_true rfl | omega | (dsimp only [zRW, zRN, zRB]; omega)) dL_law_294 ⟨rfl, rfl, ⟨(by first | exact Nat.le_of_ble_eq_true rfl | omega | (dsimp only [zRW, zRN, zRB]; omega)), (by first | exact Nat.le_of_ble_eq_true rfl | omega | (dsimp only [zRW, zRN, zRB]; omega))⟩, (by first | exact Nat.le_of_ble_eq_true rfl | omega | (dsimp only [zRW, zRN, zRB]; omega)), (by first | exact Nat.le_of_ble_eq_true rfl | omega | (dsimp only [zRW, zRN, zRB]; omega))⟩ rfl) hS hP hD hA zlp1 (fun r u H locs hpost hP hD hS => ?_)
  obtain ⟨g2, xs2, rfl, rfl, hg, hx2⟩ := hpost
  refine lv_istore (lv' := [(5, .int (nZ cd)), (0, .ref b), (1, .ref h), (2, .ref mm), (3, .ref ot), (4, .int (nZ i))]) hX hB dL_law_297 hl (by decide) rfl (fun ls hl => ?_)
  refine lv_aload_n hX hB dL_law_299 rfl (lv_at hl 3 rfl) ?_
  refine lv_aload_n hX hB dL_law_300 rfl (lv_at hl 1 rfl) ?_
  refine lv_iload hX hB dL_law_301 (lv_at hl 5 rfl) ?_
  refine lv_iconst (v := nZ 1) hX hB dL_law_303 rfl ?_
  refine zz_iadd X dL_law_304 (z := i + 1) rfl ?_
  refine zz_sld X hC hbl hbA hS (by omega) (by omega) hL hv1 dL_law_305 ?_
  obtain ⟨fs, he⟩ := hm.recv
  refine zCallIO (zRunV (As := [.int (nZ x1)]) X mv_X7_append (hM9 _) zw_368 (zPreVO hP hD hK zlp2 he rfl rfl) rfl hl (by first | exact Nat.le_of_ble_eq_true rfl | omega | (dsimp only [zRW, zRN, zRB]; omega)) dL_law_306 ⟨rfl, rfl, ⟨(by first | exact Nat.le_of_ble_eq_true rfl | omega | (dsimp only [zRW, zRN, zRB]; omega)), (by first | exact Nat.le_of_ble_eq_true rfl | omega | (dsimp only [zRW, zRN, zRB]; omega))⟩, (by first | exact Nat.le_of_ble_eq_true rfl | omega | (dsimp only [zRW, zRN, zRB]; omega)), (by first | exact Nat.le_of_ble_eq_true rfl | omega | (dsimp only [zRW, zRN, zRB]; omega))⟩ rfl) hS hP hD hA zlp2 (fun r u H locs hpost hP hD hS => ?_)
  obtain ⟨rfl, hG2, hm2⟩ := hpost
  have hP := zPerm_P hP (List.perm_append_comm (l₂ := zOc k ot g2 :: xs2))
  have hD := zPerm_D hD (List.perm_append_comm (l₂ := zOc k ot g2 :: xs2))
  refine lv_istore (lv' := [(6, .int (nZ ans)), (5, .int (nZ cd)), (0, .ref b), (1, .ref h), (2, .ref mm), (3, .ref ot), (4, .int (nZ i))]) hX hB dL_law_309 hl (by decide) rfl (fun ls hl => ?_)
  refine lv_aload_n hX hB dL_law_311 rfl (lv_at hl 4 rfl) ?_
  obtain ⟨B, S, K, T⟩ := σ2
  obtain ⟨fs2, he2⟩ := hm2.recv
  refine zCallIO (zRunV (As := []) X mv_X7_thrown (bm_thrown l D k mm cd B S K T u hG2 hm2 _) zw_310 (zPreVO (ws := zOc k ot g2 :: (xs2 ++ u)) hP hD hK zlp2 he2 rfl rfl) rfl hl (by first | exact Nat.le_of_ble_eq_true rfl | omega | (dsimp only [zRW, zRN, zRB]; omega)) dL_law_312 ⟨rfl, rfl, ⟨(by first | exact Nat.le_of_ble_eq_true rfl | omega | (dsimp only [zRW, zRN, zRB]; omega)), (by first | exact Nat.le_of_ble_eq_true rfl | omega | (dsimp only [zRW, zRN, zRB]; omega))⟩, (by first | exact Nat.le_of_ble_eq_true rfl | omega | (dsimp only [zRW, zRN, zRB]; omega)), (by first | exact Nat.le_of_ble_eq_true rfl | omega | (dsimp only [zRW, zRN, zRB]; omega))⟩ rfl) hS hP hD hA zlp2 (fun r2 u2 H locs hpost hP hD hS => ?_)
  obtain ⟨rfl, hG3, hm3⟩ := hpost
  have hP := zPerm_P hP (List.perm_append_comm (l₂ := zOc k ot g2 :: xs2))
  have hD := zPerm_D hD (List.perm_append_comm (l₂ := zOc k ot g2 :: xs2))
  refine lv_iload hX hB dL_law_315 (lv_at hl 1 rfl) ?_
  refine lv_same_eq X rfl (tgt := 322) dL_law_317 (by decide) ?_
  refine lv_iload hX hB dL_law_322 (lv_at hl 1 rfl) ?_
  have hend : W p l e R s m args below meth c H locs (cells + 10 + 0 + 0) (slots + 110 + 0 + 0) Q (F0 m 339 ls []) := by
    refine lv_goto (tgt := 1057) hX hB dL_law_339 (by decide) ?_
    exact KK H locs ls _ cd g2 xs2 u2 hG3 hx2 hm3 hP hD hS (lv_sub hl [2, 3, 4, 5, 6] rfl)
  refine zz_if_ne X (tgt := 339) dL_law_324 (by decide) hcr (fun _ => hend) (fun c0 => ?_)
  refine lv_aload_n hX hB dL_law_327 rfl (lv_at hl 5 rfl) ?_
  refine lv_iconst (v := nZ 0) hX hB dL_law_328 rfl ?_
  refine va_lald (ws := zOc k ot g2 :: (xs2 ++ u2)) hX hB hK.1 hP 0 3 rfl rfl (nZ_in (n := 1) (by decide) (by decide) (by decide)) dL_law_329 ?_
  refine lv_iload hX hB dL_law_330 (lv_at hl 0 rfl) ?_
  refine lv_i2l (v := (nZ ans).toInt64) hX hB dL_law_332 rfl ?_
  refine zz_lcmp0 X (hg c0) dL_law_333 ?_
  exact zz_if_eq X (tgt := 339) dL_law_334 (by decide) ⟨by decide, by decide⟩ (fun _ => hend) (fun c1 => absurd rfl c1)

set_option maxHeartbeats 1000000 in
theorem lc_clearBuffer (C : lawC p l R s m args meth c D k b L sc A i cells slots) (KK : lawG p l e R s m args below meth c Q D k h mm ot b A i (cells + 10) (slots + 110) 1057) : lawG p l e R s m args below meth c Q D k h mm ot b A i cells slots 342 := by
  intro H locs ls σ t g xs ys hG hx hm hP hD hS hl
  obtain ⟨X, hst, hxT, hxZ, hA, hC, hbl, hbA, hL, hi, hfr, hcs⟩ := C
  have hX := X.1; have hB := X.2.1; have hz := X.2.2.2.2.1; have hW := X.2.2.2.2.2.1; have hK := X.2.2.2.2.2.2.2
  obtain ⟨B, S, K, T⟩ := σ
  obtain ⟨fs, he⟩ := hx.recv
  obtain ⟨fs2, he2⟩ := hm.recv
  refine lv_aload_n hX hB dL_law_342 rfl (lv_at hl 1 rfl) ?_
  refine zCallIO (zRunV (As := []) X mv_X6_clearBuffer (bx_clearBuffer l D k h B S K T xs hG hx _) zw_373 (zPreVO hP hD hK zlp3 he rfl rfl) rfl hl (by first | exact Nat.le_of_ble_eq_true rfl | omega | (dsimp only [zRW, zRN, zRB]; omega)) dL_law_343 ⟨rfl, rfl, ⟨(by first | exact Nat.le_of_ble_eq_true rfl | omega | (dsimp only [zRW, zRN, zRB]; omega)), (by first | exact Nat.le_of_ble_eq_true rfl | omega | (dsimp only [zRW, zRN, zRB]; omega))⟩, (by first | exact Nat.le_of_ble_eq_true rfl | omega | (dsimp only [zRW, zRN, zRB]; omega)), (by first | exact Nat.le_of_ble_eq_true rfl | omega | (dsimp only [zRW, zRN, zRB]; omega))⟩ rfl) hS hP hD hA zlp3 (fun r u H locs hpost hP hD hS => ?_)
  obtain ⟨rfl, hx2⟩ := hpost
  have hP := zPerm_P hP List.perm_middle
  have hD := zPerm_D hD List.perm_middle
  refine lv_aload_n hX hB dL_law_346 rfl (lv_at hl 2 rfl) ?_
  refine zCallIO (zRunV (As := []) X mv_X7_clearBuffer (bm_clearBuffer l D k mm t B S K T ys hG hm _) zw_380 (zPreVO (ws := zOc k ot g :: (u ++ ys)) hP hD hK zlp2 he2 rfl rfl) rfl hl (by first | exact Nat.le_of_ble_eq_true rfl | omega | (dsimp only [zRW, zRN, zRB]; omega)) dL_law_347 ⟨rfl, rfl, ⟨(by first | exact Nat.le_of_ble_eq_true rfl | omega | (dsimp only [zRW, zRN, zRB]; omega)), (by first | exact Nat.le_of_ble_eq_true rfl | omega | (dsimp only [zRW, zRN, zRB]; omega))⟩, (by first | exact Nat.le_of_ble_eq_true rfl | omega | (dsimp only [zRW, zRN, zRB]; omega)), (by first | exact Nat.le_of_ble_eq_true rfl | omega | (dsimp only [zRW, zRN, zRB]; omega))⟩ rfl) hS hP hD hA zlp2 (fun r2 u2 H locs hpost hP hD hS => ?_)
  obtain ⟨rfl, hG3, hm3⟩ := hpost
  have hP := zPerm_P hP (List.perm_append_comm (l₂ := zOc k ot g :: u))
  have hD := zPerm_D hD (List.perm_append_comm (l₂ := zOc k ot g :: u))
  refine lv_same_eq X rfl (tgt := 1057) dL_law_350 (by decide) ?_
  exact KK H locs ls _ 0 g u u2 hG3 hx2 hm3 hP hD hS (lv_sub hl [0, 1, 2, 3, 4] rfl)

set_option maxHeartbeats 1000000 in
theorem lc_firstError (C : lawC p l R s m args meth c D k b L sc A i cells slots) (KK : lawG p l e R s m args below meth c Q D k h mm ot b A i (cells + 10) (slots + 110) 1057) : lawG p l e R s m args below meth c Q D k h mm ot b A i cells slots 355 := by
  intro H locs ls σ t g xs ys hG hx hm hP hD hS hl
  obtain ⟨X, hst, hxT, hxZ, hA, hC, hbl, hbA, hL, hi, hfr, hcs⟩ := C
  have hX := X.1; have hB := X.2.1; have hz := X.2.2.2.2.1; have hW := X.2.2.2.2.2.1; have hK := X.2.2.2.2.2.2.2
  obtain ⟨B, S, K, T⟩ := σ
  obtain ⟨fs, he⟩ := hx.recv
  obtain ⟨fs2, he2⟩ := hm.recv
  refine lv_aload_n hX hB dL_law_355 rfl (lv_at hl 1 rfl) ?_
  refine zCallIO (zRunV (As := []) X mv_X6_firstError (bx_firstError l D k h B S K T xs hG hx _) zw_384 (zPreVO hP hD hK zlp3 he rfl rfl) rfl hl (by first | exact Nat.le_of_ble_eq_true rfl | omega | (dsimp only [zRW, zRN, zRB]; omega)) dL_law_356 ⟨rfl, rfl, ⟨(by first | exact Nat.le_of_ble_eq_true rfl | omega | (dsimp only [zRW, zRN, zRB]; omega)), (by first | exact Nat.le_of_ble_eq_true rfl | omega | (dsimp only [zRW, zRN, zRB]; omega))⟩, (by first | exact Nat.le_of_ble_eq_true rfl | omega | (dsimp only [zRW, zRN, zRB]; omega)), (by first | exact Nat.le_of_ble_eq_true rfl | omega | (dsimp only [zRW, zRN, zRB]; omega))⟩ rfl) hS hP hD hA zlp3 (fun r u H locs hpost hP hD hS => ?_)
  obtain ⟨rfl, hx2⟩ := hpost
  have hP := zPerm_P hP List.perm_middle
  have hD := zPerm_D hD List.perm_middle
  refine lv_aload_n hX hB dL_law_359 rfl (lv_at hl 2 rfl) ?_
  refine zCallIO (zRunV (As := []) X mv_X7_firstError (bm_firstError l D k mm t B S K T ys hG hm _) zw_401 (zPreVO (ws := zOc k ot g :: (u ++ ys)) hP hD hK zlp2 he2 rfl rfl) rfl hl (by first | exact Nat.le_of_ble_eq_true rfl | omega | (dsimp only [zRW, zRN, zRB]; omega)) dL_law_360 ⟨rfl, rfl, ⟨(by first | exact Nat.le_of_ble_eq_true rfl | omega | (dsimp only [zRW, zRN, zRB]; omega)), (by first | exact Nat.le_of_ble_eq_true rfl | omega | (dsimp only [zRW, zRN, zRB]; omega))⟩, (by first | exact Nat.le_of_ble_eq_true rfl | omega | (dsimp only [zRW, zRN, zRB]; omega)), (by first | exact Nat.le_of_ble_eq_true rfl | omega | (dsimp only [zRW, zRN, zRB]; omega))⟩ rfl) hS hP hD hA zlp2 (fun r2 u2 H locs hpost hP hD hS => ?_)
  obtain ⟨rfl, hG3, hm3⟩ := hpost
  have hP := zPerm_P hP (List.perm_append_comm (l₂ := zOc k ot g :: u))
  have hD := zPerm_D hD (List.perm_append_comm (l₂ := zOc k ot g :: u))
  refine lv_same_eq X rfl (tgt := 1057) dL_law_363 (by decide) ?_
  exact KK H locs ls _ 0 g u u2 hG3 hx2 hm3 hP hD hS (lv_sub hl [0, 1, 2, 3, 4] rfl)

set_option maxHeartbeats 1000000 in
theorem lc_lay (C : lawC p l R s m args meth c D k b L sc A i cells slots) (KK : lawG p l e R s m args below meth c Q D k h mm ot b A i (cells + 10) (slots + 110) 1057) : lawG p l e R s m args below meth c Q D k h mm ot b A i cells slots 368 := by
  intro H locs ls σ t g xs ys hG hx hm hP hD hS hl
  obtain ⟨X, hst, hxT, hxZ, hA, hC, hbl, hbA, hL, hi, hfr, hcs⟩ := C
  have hX := X.1; have hB := X.2.1; have hz := X.2.2.2.2.1; have hW := X.2.2.2.2.2.1; have hK := X.2.2.2.2.2.2.2
  obtain ⟨σ2, cd, ans, hcd, hW9, hM9⟩ := pr_lay l hst D k h mm ot t g σ xs ys hG hx hm  
  have hcr : zR cd := by rcases hcd with rfl | rfl | rfl <;> exact ⟨by decide, by decide⟩
  refine lv_aload_n hX hB dL_law_368 rfl (lv_at hl 1 rfl) ?_
  refine lv_aload_n hX hB dL_law_369 rfl (lv_at hl 3 rfl) ?_
  refine zCallIO (zRunW (As := [.ref h, .ref ot]) X mw_lay (hW9 _) zw_424 (zPreSOT hP hD hK hS hA hxT hxZ zlp1) rfl hl (by first | exact Nat.le_of_ble_eq_true rfl | omega | (dsimp only [zRW, zRN, zRB]; omega)) dL_law_370 ⟨rfl, rfl, ⟨(by first | exact Nat.le_of_ble_eq_true rfl | omega | (dsimp only [zRW, zRN, zRB]; omega)), (by first | exact Nat.le_of_ble_eq_true rfl | omega | (dsimp only [zRW, zRN, zRB]; omega))⟩, (by first | exact Nat.le_of_ble_eq_true rfl | omega | (dsimp only [zRW, zRN, zRB]; omega)), (by first | exact Nat.le_of_ble_eq_true rfl | omega | (dsimp only [zRW, zRN, zRB]; omega))⟩ rfl) hS hP hD hA zlp1 (fun r u H locs hpost hP hD hS => ?_)
  obtain ⟨g2, xs2, rfl, rfl, hg, hx2⟩ := hpost
  refine lv_istore (lv' := [(5, .int (nZ cd)), (0, .ref b), (1, .ref h), (2, .ref mm), (3, .ref ot), (4, .int (nZ i))]) hX hB dL_law_373 hl (by decide) rfl (fun ls hl => ?_)
  refine lv_aload_n hX hB dL_law_375 rfl (lv_at hl 3 rfl) ?_
  obtain ⟨fs, he⟩ := hm.recv
  refine zCallIO (zRunV (As := []) X mv_X7_lay (hM9 _) zw_447 (zPreVO hP hD hK zlp2 he rfl rfl) rfl hl (by first | exact Nat.le_of_ble_eq_true rfl | omega | (dsimp only [zRW, zRN, zRB]; omega)) dL_law_376 ⟨rfl, rfl, ⟨(by first | exact Nat.le_of_ble_eq_true rfl | omega | (dsimp only [zRW, zRN, zRB]; omega)), (by first | exact Nat.le_of_ble_eq_true rfl | omega | (dsimp only [zRW, zRN, zRB]; omega))⟩, (by first | exact Nat.le_of_ble_eq_true rfl | omega | (dsimp only [zRW, zRN, zRB]; omega)), (by first | exact Nat.le_of_ble_eq_true rfl | omega | (dsimp only [zRW, zRN, zRB]; omega))⟩ rfl) hS hP hD hA zlp2 (fun r u H locs hpost hP hD hS => ?_)
  obtain ⟨rfl, hG2, hm2⟩ := hpost
  have hP := zPerm_P hP (List.perm_append_comm (l₂ := zOc k ot g2 :: xs2))
  have hD := zPerm_D hD (List.perm_append_comm (l₂ := zOc k ot g2 :: xs2))
  refine lv_istore (lv' := [(6, .int (nZ ans)), (5, .int (nZ cd)), (0, .ref b), (1, .ref h), (2, .ref mm), (3, .ref ot), (4, .int (nZ i))]) hX hB dL_law_379 hl (by decide) rfl (fun ls hl => ?_)
  refine lv_aload_n hX hB dL_law_381 rfl (lv_at hl 4 rfl) ?_
  obtain ⟨B, S, K, T⟩ := σ2
  obtain ⟨fs2, he2⟩ := hm2.recv
  refine zCallIO (zRunV (As := []) X mv_X7_thrown (bm_thrown l D k mm cd B S K T u hG2 hm2 _) zw_310 (zPreVO (ws := zOc k ot g2 :: (xs2 ++ u)) hP hD hK zlp2 he2 rfl rfl) rfl hl (by first | exact Nat.le_of_ble_eq_true rfl | omega | (dsimp only [zRW, zRN, zRB]; omega)) dL_law_382 ⟨rfl, rfl, ⟨(by first | exact Nat.le_of_ble_eq_true rfl | omega | (dsimp only [zRW, zRN, zRB]; omega)), (by first | exact Nat.le_of_ble_eq_true rfl | omega | (dsimp only [zRW, zRN, zRB]; omega))⟩, (by first | exact Nat.le_of_ble_eq_true rfl | omega | (dsimp only [zRW, zRN, zRB]; omega)), (by first | exact Nat.le_of_ble_eq_true rfl | omega | (dsimp only [zRW, zRN, zRB]; omega))⟩ rfl) hS hP hD hA zlp2 (fun r2 u2 H locs hpost hP hD hS => ?_)
  obtain ⟨rfl, hG3, hm3⟩ := hpost
  have hP := zPerm_P hP (List.perm_append_comm (l₂ := zOc k ot g2 :: xs2))
  have hD := zPerm_D hD (List.perm_append_comm (l₂ := zOc k ot g2 :: xs2))
  refine lv_iload hX hB dL_law_385 (lv_at hl 1 rfl) ?_
  refine lv_same_eq X rfl (tgt := 392) dL_law_387 (by decide) ?_
  refine lv_iload hX hB dL_law_392 (lv_at hl 1 rfl) ?_
  have hend : W p l e R s m args below meth c H locs (cells + 10 + 0 + 0) (slots + 110 + 0 + 0) Q (F0 m 409 ls []) := by
    refine lv_goto (tgt := 1057) hX hB dL_law_409 (by decide) ?_
    exact KK H locs ls _ cd g2 xs2 u2 hG3 hx2 hm3 hP hD hS (lv_sub hl [2, 3, 4, 5, 6] rfl)
  refine zz_if_ne X (tgt := 409) dL_law_394 (by decide) hcr (fun _ => hend) (fun c0 => ?_)
  refine lv_aload_n hX hB dL_law_397 rfl (lv_at hl 5 rfl) ?_
  refine lv_iconst (v := nZ 0) hX hB dL_law_398 rfl ?_
  refine va_lald (ws := zOc k ot g2 :: (xs2 ++ u2)) hX hB hK.1 hP 0 3 rfl rfl (nZ_in (n := 1) (by decide) (by decide) (by decide)) dL_law_399 ?_
  refine lv_iload hX hB dL_law_400 (lv_at hl 0 rfl) ?_
  refine lv_i2l (v := (nZ ans).toInt64) hX hB dL_law_402 rfl ?_
  refine zz_lcmp0 X (hg c0) dL_law_403 ?_
  exact zz_if_eq X (tgt := 409) dL_law_404 (by decide) ⟨by decide, by decide⟩ (fun _ => hend) (fun c1 => absurd rfl c1)

set_option maxHeartbeats 1000000 in
theorem lc_keep (C : lawC p l R s m args meth c D k b L sc A i cells slots) (KK : lawG p l e R s m args below meth c Q D k h mm ot b A i (cells + 10) (slots + 110) 1057) : lawG p l e R s m args below meth c Q D k h mm ot b A i cells slots 412 := by
  intro H locs ls σ t g xs ys hG hx hm hP hD hS hl
  obtain ⟨X, hst, hxT, hxZ, hA, hC, hbl, hbA, hL, hi, hfr, hcs⟩ := C
  have hX := X.1; have hB := X.2.1; have hz := X.2.2.2.2.1; have hW := X.2.2.2.2.2.1; have hK := X.2.2.2.2.2.2.2
  obtain ⟨x1, hz1, hv1⟩ : ∃ x : Int, zR x ∧ sc (nZ (i + 1)).toNatClampNeg = nZ x := ⟨_, nZ_rng _, (nZ_as _).symm⟩
  obtain ⟨σ2, cd, ans, hcd, hW9, hM9⟩ := pr_keep l hst D k h mm ot t g σ xs ys hG hx hm x1 hz1
  have hcr : zR cd := by rcases hcd with rfl | rfl | rfl <;> exact ⟨by decide, by decide⟩
  refine lv_aload_n hX hB dL_law_412 rfl (lv_at hl 1 rfl) ?_
  refine lv_aload_n hX hB dL_law_413 rfl (lv_at hl 0 rfl) ?_
  refine lv_iload hX hB dL_law_414 (lv_at hl 4 rfl) ?_
  refine lv_iconst (v := nZ 1) hX hB dL_law_416 rfl ?_
  refine zz_iadd X dL_law_417 (z := i + 1) rfl ?_
  refine zz_sld X hC hbl hbA hS (by omega) (by omega) hL hv1 dL_law_418 ?_
  refine lv_aload_n hX hB dL_law_419 rfl (lv_at hl 3 rfl) ?_
  refine zCallIO (zRunW (As := [.ref h, .int (nZ x1), .ref ot]) X mw_keep (hW9 _) zw_459 (zPreSOT hP hD hK hS hA hxT hxZ zlp1) rfl hl (by first | exact Nat.le_of_ble_eq_true rfl | omega | (dsimp only [zRW, zRN, zRB]; omega)) dL_law_420 ⟨rfl, rfl, ⟨(by first | exact Nat.le_of_ble_eq_true rfl | omega | (dsimp only [zRW, zRN, zRB]; omega)), (by first | exact Nat.le_of_ble_eq_true rfl | omega | (dsimp only [zRW, zRN, zRB]; omega))⟩, (by first | exact Nat.le_of_ble_eq_true rfl | omega | (dsimp only [zRW, zRN, zRB]; omega)), (by first | exact Nat.le_of_ble_eq_true rfl | omega | (dsimp only [zRW, zRN, zRB]; omega))⟩ rfl) hS hP hD hA zlp1 (fun r u H locs hpost hP hD hS => ?_)
  obtain ⟨g2, xs2, rfl, rfl, hg, hx2⟩ := hpost
  refine lv_istore (lv' := [(5, .int (nZ cd)), (0, .ref b), (1, .ref h), (2, .ref mm), (3, .ref ot), (4, .int (nZ i))]) hX hB dL_law_423 hl (by decide) rfl (fun ls hl => ?_)
  refine lv_aload_n hX hB dL_law_425 rfl (lv_at hl 3 rfl) ?_
  refine lv_aload_n hX hB dL_law_426 rfl (lv_at hl 1 rfl) ?_
  refine lv_iload hX hB dL_law_427 (lv_at hl 5 rfl) ?_
  refine lv_iconst (v := nZ 1) hX hB dL_law_429 rfl ?_
  refine zz_iadd X dL_law_430 (z := i + 1) rfl ?_
  refine zz_sld X hC hbl hbA hS (by omega) (by omega) hL hv1 dL_law_431 ?_
  obtain ⟨fs, he⟩ := hm.recv
  refine zCallIO (zRunV (As := [.int (nZ x1)]) X mv_X7_keep (hM9 _) zw_477 (zPreVO hP hD hK zlp2 he rfl rfl) rfl hl (by first | exact Nat.le_of_ble_eq_true rfl | omega | (dsimp only [zRW, zRN, zRB]; omega)) dL_law_432 ⟨rfl, rfl, ⟨(by first | exact Nat.le_of_ble_eq_true rfl | omega | (dsimp only [zRW, zRN, zRB]; omega)), (by first | exact Nat.le_of_ble_eq_true rfl | omega | (dsimp only [zRW, zRN, zRB]; omega))⟩, (by first | exact Nat.le_of_ble_eq_true rfl | omega | (dsimp only [zRW, zRN, zRB]; omega)), (by first | exact Nat.le_of_ble_eq_true rfl | omega | (dsimp only [zRW, zRN, zRB]; omega))⟩ rfl) hS hP hD hA zlp2 (fun r u H locs hpost hP hD hS => ?_)
  obtain ⟨rfl, hG2, hm2⟩ := hpost
  have hP := zPerm_P hP (List.perm_append_comm (l₂ := zOc k ot g2 :: xs2))
  have hD := zPerm_D hD (List.perm_append_comm (l₂ := zOc k ot g2 :: xs2))
  refine lv_istore (lv' := [(6, .int (nZ ans)), (5, .int (nZ cd)), (0, .ref b), (1, .ref h), (2, .ref mm), (3, .ref ot), (4, .int (nZ i))]) hX hB dL_law_435 hl (by decide) rfl (fun ls hl => ?_)
  refine lv_aload_n hX hB dL_law_437 rfl (lv_at hl 4 rfl) ?_
  obtain ⟨B, S, K, T⟩ := σ2
  obtain ⟨fs2, he2⟩ := hm2.recv
  refine zCallIO (zRunV (As := []) X mv_X7_thrown (bm_thrown l D k mm cd B S K T u hG2 hm2 _) zw_310 (zPreVO (ws := zOc k ot g2 :: (xs2 ++ u)) hP hD hK zlp2 he2 rfl rfl) rfl hl (by first | exact Nat.le_of_ble_eq_true rfl | omega | (dsimp only [zRW, zRN, zRB]; omega)) dL_law_438 ⟨rfl, rfl, ⟨(by first | exact Nat.le_of_ble_eq_true rfl | omega | (dsimp only [zRW, zRN, zRB]; omega)), (by first | exact Nat.le_of_ble_eq_true rfl | omega | (dsimp only [zRW, zRN, zRB]; omega))⟩, (by first | exact Nat.le_of_ble_eq_true rfl | omega | (dsimp only [zRW, zRN, zRB]; omega)), (by first | exact Nat.le_of_ble_eq_true rfl | omega | (dsimp only [zRW, zRN, zRB]; omega))⟩ rfl) hS hP hD hA zlp2 (fun r2 u2 H locs hpost hP hD hS => ?_)
  obtain ⟨rfl, hG3, hm3⟩ := hpost
  have hP := zPerm_P hP (List.perm_append_comm (l₂ := zOc k ot g2 :: xs2))
  have hD := zPerm_D hD (List.perm_append_comm (l₂ := zOc k ot g2 :: xs2))
  refine lv_iload hX hB dL_law_441 (lv_at hl 1 rfl) ?_
  refine lv_same_eq X rfl (tgt := 448) dL_law_443 (by decide) ?_
  refine lv_iload hX hB dL_law_448 (lv_at hl 1 rfl) ?_
  have hend : W p l e R s m args below meth c H locs (cells + 10 + 0 + 0) (slots + 110 + 0 + 0) Q (F0 m 465 ls []) := by
    refine lv_goto (tgt := 1057) hX hB dL_law_465 (by decide) ?_
    exact KK H locs ls _ cd g2 xs2 u2 hG3 hx2 hm3 hP hD hS (lv_sub hl [2, 3, 4, 5, 6] rfl)
  refine zz_if_ne X (tgt := 465) dL_law_450 (by decide) hcr (fun _ => hend) (fun c0 => ?_)
  refine lv_aload_n hX hB dL_law_453 rfl (lv_at hl 5 rfl) ?_
  refine lv_iconst (v := nZ 0) hX hB dL_law_454 rfl ?_
  refine va_lald (ws := zOc k ot g2 :: (xs2 ++ u2)) hX hB hK.1 hP 0 3 rfl rfl (nZ_in (n := 1) (by decide) (by decide) (by decide)) dL_law_455 ?_
  refine lv_iload hX hB dL_law_456 (lv_at hl 0 rfl) ?_
  refine lv_i2l (v := (nZ ans).toInt64) hX hB dL_law_458 rfl ?_
  refine zz_lcmp0 X (hg c0) dL_law_459 ?_
  exact zz_if_eq X (tgt := 465) dL_law_460 (by decide) ⟨by decide, by decide⟩ (fun _ => hend) (fun c1 => absurd rfl c1)

set_option maxHeartbeats 1000000 in
theorem lc_goBack (C : lawC p l R s m args meth c D k b L sc A i cells slots) (KK : lawG p l e R s m args below meth c Q D k h mm ot b A i (cells + 10) (slots + 110) 1057) : lawG p l e R s m args below meth c Q D k h mm ot b A i cells slots 468 := by
  intro H locs ls σ t g xs ys hG hx hm hP hD hS hl
  obtain ⟨X, hst, hxT, hxZ, hA, hC, hbl, hbA, hL, hi, hfr, hcs⟩ := C
  have hX := X.1; have hB := X.2.1; have hz := X.2.2.2.2.1; have hW := X.2.2.2.2.2.1; have hK := X.2.2.2.2.2.2.2
  obtain ⟨x1, hz1, hv1⟩ : ∃ x : Int, zR x ∧ sc (nZ (i + 1)).toNatClampNeg = nZ x := ⟨_, nZ_rng _, (nZ_as _).symm⟩
  obtain ⟨σ2, cd, ans, hcd, hW9, hM9⟩ := pr_goBack l hst D k h mm ot t g σ xs ys hG hx hm x1 hz1
  have hcr : zR cd := by rcases hcd with rfl | rfl | rfl <;> exact ⟨by decide, by decide⟩
  refine lv_aload_n hX hB dL_law_468 rfl (lv_at hl 1 rfl) ?_
  refine lv_aload_n hX hB dL_law_469 rfl (lv_at hl 0 rfl) ?_
  refine lv_iload hX hB dL_law_470 (lv_at hl 4 rfl) ?_
  refine lv_iconst (v := nZ 1) hX hB dL_law_472 rfl ?_
  refine zz_iadd X dL_law_473 (z := i + 1) rfl ?_
  refine zz_sld X hC hbl hbA hS (by omega) (by omega) hL hv1 dL_law_474 ?_
  refine lv_aload_n hX hB dL_law_475 rfl (lv_at hl 3 rfl) ?_
  refine zCallIO (zRunW (As := [.ref h, .int (nZ x1), .ref ot]) X mw_goBack (hW9 _) zw_484 (zPreSOT hP hD hK hS hA hxT hxZ zlp1) rfl hl (by first | exact Nat.le_of_ble_eq_true rfl | omega | (dsimp only [zRW, zRN, zRB]; omega)) dL_law_476 ⟨rfl, rfl, ⟨(by first | exact Nat.le_of_ble_eq_true rfl | omega | (dsimp only [zRW, zRN, zRB]; omega)), (by first | exact Nat.le_of_ble_eq_true rfl | omega | (dsimp only [zRW, zRN, zRB]; omega))⟩, (by first | exact Nat.le_of_ble_eq_true rfl | omega | (dsimp only [zRW, zRN, zRB]; omega)), (by first | exact Nat.le_of_ble_eq_true rfl | omega | (dsimp only [zRW, zRN, zRB]; omega))⟩ rfl) hS hP hD hA zlp1 (fun r u H locs hpost hP hD hS => ?_)
  obtain ⟨g2, xs2, rfl, rfl, hg, hx2⟩ := hpost
  refine lv_istore (lv' := [(5, .int (nZ cd)), (0, .ref b), (1, .ref h), (2, .ref mm), (3, .ref ot), (4, .int (nZ i))]) hX hB dL_law_479 hl (by decide) rfl (fun ls hl => ?_)
  refine lv_aload_n hX hB dL_law_481 rfl (lv_at hl 3 rfl) ?_
  refine lv_aload_n hX hB dL_law_482 rfl (lv_at hl 1 rfl) ?_
  refine lv_iload hX hB dL_law_483 (lv_at hl 5 rfl) ?_
  refine lv_iconst (v := nZ 1) hX hB dL_law_485 rfl ?_
  refine zz_iadd X dL_law_486 (z := i + 1) rfl ?_
  refine zz_sld X hC hbl hbA hS (by omega) (by omega) hL hv1 dL_law_487 ?_
  obtain ⟨fs, he⟩ := hm.recv
  refine zCallIO (zRunV (As := [.int (nZ x1)]) X mv_X7_goBack (hM9 _) zw_491 (zPreVO hP hD hK zlp2 he rfl rfl) rfl hl (by first | exact Nat.le_of_ble_eq_true rfl | omega | (dsimp only [zRW, zRN, zRB]; omega)) dL_law_488 ⟨rfl, rfl, ⟨(by first | exact Nat.le_of_ble_eq_true rfl | omega | (dsimp only [zRW, zRN, zRB]; omega)), (by first | exact Nat.le_of_ble_eq_true rfl | omega | (dsimp only [zRW, zRN, zRB]; omega))⟩, (by first | exact Nat.le_of_ble_eq_true rfl | omega | (dsimp only [zRW, zRN, zRB]; omega)), (by first | exact Nat.le_of_ble_eq_true rfl | omega | (dsimp only [zRW, zRN, zRB]; omega))⟩ rfl) hS hP hD hA zlp2 (fun r u H locs hpost hP hD hS => ?_)
  obtain ⟨rfl, hG2, hm2⟩ := hpost
  have hP := zPerm_P hP (List.perm_append_comm (l₂ := zOc k ot g2 :: xs2))
  have hD := zPerm_D hD (List.perm_append_comm (l₂ := zOc k ot g2 :: xs2))
  refine lv_istore (lv' := [(6, .int (nZ ans)), (5, .int (nZ cd)), (0, .ref b), (1, .ref h), (2, .ref mm), (3, .ref ot), (4, .int (nZ i))]) hX hB dL_law_491 hl (by decide) rfl (fun ls hl => ?_)
  refine lv_aload_n hX hB dL_law_493 rfl (lv_at hl 4 rfl) ?_
  obtain ⟨B, S, K, T⟩ := σ2
  obtain ⟨fs2, he2⟩ := hm2.recv
  refine zCallIO (zRunV (As := []) X mv_X7_thrown (bm_thrown l D k mm cd B S K T u hG2 hm2 _) zw_310 (zPreVO (ws := zOc k ot g2 :: (xs2 ++ u)) hP hD hK zlp2 he2 rfl rfl) rfl hl (by first | exact Nat.le_of_ble_eq_true rfl | omega | (dsimp only [zRW, zRN, zRB]; omega)) dL_law_494 ⟨rfl, rfl, ⟨(by first | exact Nat.le_of_ble_eq_true rfl | omega | (dsimp only [zRW, zRN, zRB]; omega)), (by first | exact Nat.le_of_ble_eq_true rfl | omega | (dsimp only [zRW, zRN, zRB]; omega))⟩, (by first | exact Nat.le_of_ble_eq_true rfl | omega | (dsimp only [zRW, zRN, zRB]; omega)), (by first | exact Nat.le_of_ble_eq_true rfl | omega | (dsimp only [zRW, zRN, zRB]; omega))⟩ rfl) hS hP hD hA zlp2 (fun r2 u2 H locs hpost hP hD hS => ?_)
  obtain ⟨rfl, hG3, hm3⟩ := hpost
  have hP := zPerm_P hP (List.perm_append_comm (l₂ := zOc k ot g2 :: xs2))
  have hD := zPerm_D hD (List.perm_append_comm (l₂ := zOc k ot g2 :: xs2))
  refine lv_iload hX hB dL_law_497 (lv_at hl 1 rfl) ?_
  refine lv_same_eq X rfl (tgt := 504) dL_law_499 (by decide) ?_
  refine lv_iload hX hB dL_law_504 (lv_at hl 1 rfl) ?_
  have hend : W p l e R s m args below meth c H locs (cells + 10 + 0 + 0) (slots + 110 + 0 + 0) Q (F0 m 521 ls []) := by
    refine lv_goto (tgt := 1057) hX hB dL_law_521 (by decide) ?_
    exact KK H locs ls _ cd g2 xs2 u2 hG3 hx2 hm3 hP hD hS (lv_sub hl [2, 3, 4, 5, 6] rfl)
  refine zz_if_ne X (tgt := 521) dL_law_506 (by decide) hcr (fun _ => hend) (fun c0 => ?_)
  refine lv_aload_n hX hB dL_law_509 rfl (lv_at hl 5 rfl) ?_
  refine lv_iconst (v := nZ 0) hX hB dL_law_510 rfl ?_
  refine va_lald (ws := zOc k ot g2 :: (xs2 ++ u2)) hX hB hK.1 hP 0 3 rfl rfl (nZ_in (n := 1) (by decide) (by decide) (by decide)) dL_law_511 ?_
  refine lv_iload hX hB dL_law_512 (lv_at hl 0 rfl) ?_
  refine lv_i2l (v := (nZ ans).toInt64) hX hB dL_law_514 rfl ?_
  refine zz_lcmp0 X (hg c0) dL_law_515 ?_
  exact zz_if_eq X (tgt := 521) dL_law_516 (by decide) ⟨by decide, by decide⟩ (fun _ => hend) (fun c1 => absurd rfl c1)

set_option maxHeartbeats 1000000 in
theorem lc_undo (C : lawC p l R s m args meth c D k b L sc A i cells slots) (KK : lawG p l e R s m args below meth c Q D k h mm ot b A i (cells + 10) (slots + 110) 1057) : lawG p l e R s m args below meth c Q D k h mm ot b A i cells slots 524 := by
  intro H locs ls σ t g xs ys hG hx hm hP hD hS hl
  obtain ⟨X, hst, hxT, hxZ, hA, hC, hbl, hbA, hL, hi, hfr, hcs⟩ := C
  have hX := X.1; have hB := X.2.1; have hz := X.2.2.2.2.1; have hW := X.2.2.2.2.2.1; have hK := X.2.2.2.2.2.2.2
  obtain ⟨σ2, cd, ans, hcd, hW9, hM9⟩ := pr_undo l hst D k h mm ot t g σ xs ys hG hx hm  
  have hcr : zR cd := by rcases hcd with rfl | rfl | rfl <;> exact ⟨by decide, by decide⟩
  refine lv_aload_n hX hB dL_law_524 rfl (lv_at hl 1 rfl) ?_
  refine lv_aload_n hX hB dL_law_525 rfl (lv_at hl 3 rfl) ?_
  refine zCallIO (zRunW (As := [.ref h, .ref ot]) X mw_undo (hW9 _) zw_495 (zPreSOT hP hD hK hS hA hxT hxZ zlp1) rfl hl (by first | exact Nat.le_of_ble_eq_true rfl | omega | (dsimp only [zRW, zRN, zRB]; omega)) dL_law_526 ⟨rfl, rfl, ⟨(by first | exact Nat.le_of_ble_eq_true rfl | omega | (dsimp only [zRW, zRN, zRB]; omega)), (by first | exact Nat.le_of_ble_eq_true rfl | omega | (dsimp only [zRW, zRN, zRB]; omega))⟩, (by first | exact Nat.le_of_ble_eq_true rfl | omega | (dsimp only [zRW, zRN, zRB]; omega)), (by first | exact Nat.le_of_ble_eq_true rfl | omega | (dsimp only [zRW, zRN, zRB]; omega))⟩ rfl) hS hP hD hA zlp1 (fun r u H locs hpost hP hD hS => ?_)
  obtain ⟨g2, xs2, rfl, rfl, hg, hx2⟩ := hpost
  refine lv_istore (lv' := [(5, .int (nZ cd)), (0, .ref b), (1, .ref h), (2, .ref mm), (3, .ref ot), (4, .int (nZ i))]) hX hB dL_law_529 hl (by decide) rfl (fun ls hl => ?_)
  refine lv_aload_n hX hB dL_law_531 rfl (lv_at hl 3 rfl) ?_
  obtain ⟨fs, he⟩ := hm.recv
  refine zCallIO (zRunV (As := []) X mv_X7_undo (hM9 _) zw_505 (zPreVO hP hD hK zlp2 he rfl rfl) rfl hl (by first | exact Nat.le_of_ble_eq_true rfl | omega | (dsimp only [zRW, zRN, zRB]; omega)) dL_law_532 ⟨rfl, rfl, ⟨(by first | exact Nat.le_of_ble_eq_true rfl | omega | (dsimp only [zRW, zRN, zRB]; omega)), (by first | exact Nat.le_of_ble_eq_true rfl | omega | (dsimp only [zRW, zRN, zRB]; omega))⟩, (by first | exact Nat.le_of_ble_eq_true rfl | omega | (dsimp only [zRW, zRN, zRB]; omega)), (by first | exact Nat.le_of_ble_eq_true rfl | omega | (dsimp only [zRW, zRN, zRB]; omega))⟩ rfl) hS hP hD hA zlp2 (fun r u H locs hpost hP hD hS => ?_)
  obtain ⟨rfl, hG2, hm2⟩ := hpost
  have hP := zPerm_P hP (List.perm_append_comm (l₂ := zOc k ot g2 :: xs2))
  have hD := zPerm_D hD (List.perm_append_comm (l₂ := zOc k ot g2 :: xs2))
  refine lv_istore (lv' := [(6, .int (nZ ans)), (5, .int (nZ cd)), (0, .ref b), (1, .ref h), (2, .ref mm), (3, .ref ot), (4, .int (nZ i))]) hX hB dL_law_535 hl (by decide) rfl (fun ls hl => ?_)
  refine lv_aload_n hX hB dL_law_537 rfl (lv_at hl 4 rfl) ?_
  obtain ⟨B, S, K, T⟩ := σ2
  obtain ⟨fs2, he2⟩ := hm2.recv
  refine zCallIO (zRunV (As := []) X mv_X7_thrown (bm_thrown l D k mm cd B S K T u hG2 hm2 _) zw_310 (zPreVO (ws := zOc k ot g2 :: (xs2 ++ u)) hP hD hK zlp2 he2 rfl rfl) rfl hl (by first | exact Nat.le_of_ble_eq_true rfl | omega | (dsimp only [zRW, zRN, zRB]; omega)) dL_law_538 ⟨rfl, rfl, ⟨(by first | exact Nat.le_of_ble_eq_true rfl | omega | (dsimp only [zRW, zRN, zRB]; omega)), (by first | exact Nat.le_of_ble_eq_true rfl | omega | (dsimp only [zRW, zRN, zRB]; omega))⟩, (by first | exact Nat.le_of_ble_eq_true rfl | omega | (dsimp only [zRW, zRN, zRB]; omega)), (by first | exact Nat.le_of_ble_eq_true rfl | omega | (dsimp only [zRW, zRN, zRB]; omega))⟩ rfl) hS hP hD hA zlp2 (fun r2 u2 H locs hpost hP hD hS => ?_)
  obtain ⟨rfl, hG3, hm3⟩ := hpost
  have hP := zPerm_P hP (List.perm_append_comm (l₂ := zOc k ot g2 :: xs2))
  have hD := zPerm_D hD (List.perm_append_comm (l₂ := zOc k ot g2 :: xs2))
  refine lv_iload hX hB dL_law_541 (lv_at hl 1 rfl) ?_
  refine lv_same_eq X rfl (tgt := 548) dL_law_543 (by decide) ?_
  refine lv_iload hX hB dL_law_548 (lv_at hl 1 rfl) ?_
  have hend : W p l e R s m args below meth c H locs (cells + 10 + 0 + 0) (slots + 110 + 0 + 0) Q (F0 m 565 ls []) := by
    refine lv_goto (tgt := 1057) hX hB dL_law_565 (by decide) ?_
    exact KK H locs ls _ cd g2 xs2 u2 hG3 hx2 hm3 hP hD hS (lv_sub hl [2, 3, 4, 5, 6] rfl)
  refine zz_if_ne X (tgt := 565) dL_law_550 (by decide) hcr (fun _ => hend) (fun c0 => ?_)
  refine lv_aload_n hX hB dL_law_553 rfl (lv_at hl 5 rfl) ?_
  refine lv_iconst (v := nZ 0) hX hB dL_law_554 rfl ?_
  refine va_lald (ws := zOc k ot g2 :: (xs2 ++ u2)) hX hB hK.1 hP 0 3 rfl rfl (nZ_in (n := 1) (by decide) (by decide) (by decide)) dL_law_555 ?_
  refine lv_iload hX hB dL_law_556 (lv_at hl 0 rfl) ?_
  refine lv_i2l (v := (nZ ans).toInt64) hX hB dL_law_558 rfl ?_
  refine zz_lcmp0 X (hg c0) dL_law_559 ?_
  exact zz_if_eq X (tgt := 565) dL_law_560 (by decide) ⟨by decide, by decide⟩ (fun _ => hend) (fun c1 => absurd rfl c1)

set_option maxHeartbeats 1000000 in
theorem lc_coin (C : lawC p l R s m args meth c D k b L sc A i cells slots) (KK : lawG p l e R s m args below meth c Q D k h mm ot b A i (cells + 10) (slots + 110) 1057) : lawG p l e R s m args below meth c Q D k h mm ot b A i cells slots 568 := by
  intro H locs ls σ t g xs ys hG hx hm hP hD hS hl
  obtain ⟨X, hst, hxT, hxZ, hA, hC, hbl, hbA, hL, hi, hfr, hcs⟩ := C
  have hX := X.1; have hB := X.2.1; have hz := X.2.2.2.2.1; have hW := X.2.2.2.2.2.1; have hK := X.2.2.2.2.2.2.2
  obtain ⟨x1, hz1, hv1⟩ : ∃ x : Int, zR x ∧ sc (nZ (i + 1)).toNatClampNeg = nZ x := ⟨_, nZ_rng _, (nZ_as _).symm⟩
  obtain ⟨x2, hz2, hv2⟩ : ∃ x : Int, zR x ∧ sc (nZ (i + 2)).toNatClampNeg = nZ x := ⟨_, nZ_rng _, (nZ_as _).symm⟩
  obtain ⟨σ2, cd, ans, hcd, hW9, hM9⟩ := pr_coin l hst D k h mm ot t g σ xs ys hG hx hm x1 x2 hz1 hz2
  have hcr : zR cd := by rcases hcd with rfl | rfl | rfl <;> exact ⟨by decide, by decide⟩
  refine lv_aload_n hX hB dL_law_568 rfl (lv_at hl 1 rfl) ?_
  refine lv_aload_n hX hB dL_law_569 rfl (lv_at hl 0 rfl) ?_
  refine lv_iload hX hB dL_law_570 (lv_at hl 4 rfl) ?_
  refine lv_iconst (v := nZ 1) hX hB dL_law_572 rfl ?_
  refine zz_iadd X dL_law_573 (z := i + 1) rfl ?_
  refine zz_sld X hC hbl hbA hS (by omega) (by omega) hL hv1 dL_law_574 ?_
  refine lv_aload_n hX hB dL_law_575 rfl (lv_at hl 0 rfl) ?_
  refine lv_iload hX hB dL_law_576 (lv_at hl 4 rfl) ?_
  refine lv_iconst (v := nZ 2) hX hB dL_law_578 rfl ?_
  refine zz_iadd X dL_law_579 (z := i + 2) rfl ?_
  refine zz_sld X hC hbl hbA hS (by omega) (by omega) hL hv2 dL_law_580 ?_
  refine lv_aload_n hX hB dL_law_581 rfl (lv_at hl 3 rfl) ?_
  refine zCallIO (zRunW (As := [.ref h, .int (nZ x1), .int (nZ x2), .ref ot]) X mw_coin (hW9 _) zw_509 (zPreSOT hP hD hK hS hA hxT hxZ zlp1) rfl hl (by first | exact Nat.le_of_ble_eq_true rfl | omega | (dsimp only [zRW, zRN, zRB]; omega)) dL_law_582 ⟨rfl, rfl, ⟨(by first | exact Nat.le_of_ble_eq_true rfl | omega | (dsimp only [zRW, zRN, zRB]; omega)), (by first | exact Nat.le_of_ble_eq_true rfl | omega | (dsimp only [zRW, zRN, zRB]; omega))⟩, (by first | exact Nat.le_of_ble_eq_true rfl | omega | (dsimp only [zRW, zRN, zRB]; omega)), (by first | exact Nat.le_of_ble_eq_true rfl | omega | (dsimp only [zRW, zRN, zRB]; omega))⟩ rfl) hS hP hD hA zlp1 (fun r u H locs hpost hP hD hS => ?_)
  obtain ⟨g2, xs2, rfl, rfl, hg, hx2⟩ := hpost
  refine lv_istore (lv' := [(5, .int (nZ cd)), (0, .ref b), (1, .ref h), (2, .ref mm), (3, .ref ot), (4, .int (nZ i))]) hX hB dL_law_585 hl (by decide) rfl (fun ls hl => ?_)
  refine lv_aload_n hX hB dL_law_587 rfl (lv_at hl 3 rfl) ?_
  refine lv_aload_n hX hB dL_law_588 rfl (lv_at hl 1 rfl) ?_
  refine lv_iload hX hB dL_law_589 (lv_at hl 5 rfl) ?_
  refine lv_iconst (v := nZ 1) hX hB dL_law_591 rfl ?_
  refine zz_iadd X dL_law_592 (z := i + 1) rfl ?_
  refine zz_sld X hC hbl hbA hS (by omega) (by omega) hL hv1 dL_law_593 ?_
  refine lv_aload_n hX hB dL_law_594 rfl (lv_at hl 1 rfl) ?_
  refine lv_iload hX hB dL_law_595 (lv_at hl 5 rfl) ?_
  refine lv_iconst (v := nZ 2) hX hB dL_law_597 rfl ?_
  refine zz_iadd X dL_law_598 (z := i + 2) rfl ?_
  refine zz_sld X hC hbl hbA hS (by omega) (by omega) hL hv2 dL_law_599 ?_
  obtain ⟨fs, he⟩ := hm.recv
  refine zCallIO (zRunV (As := [.int (nZ x1), .int (nZ x2)]) X mv_X7_coin (hM9 _) zw_516 (zPreVO hP hD hK zlp2 he rfl rfl) rfl hl (by first | exact Nat.le_of_ble_eq_true rfl | omega | (dsimp only [zRW, zRN, zRB]; omega)) dL_law_600 ⟨rfl, rfl, ⟨(by first | exact Nat.le_of_ble_eq_true rfl | omega | (dsimp only [zRW, zRN, zRB]; omega)), (by first | exact Nat.le_of_ble_eq_true rfl | omega | (dsimp only [zRW, zRN, zRB]; omega))⟩, (by first | exact Nat.le_of_ble_eq_true rfl | omega | (dsimp only [zRW, zRN, zRB]; omega)), (by first | exact Nat.le_of_ble_eq_true rfl | omega | (dsimp only [zRW, zRN, zRB]; omega))⟩ rfl) hS hP hD hA zlp2 (fun r u H locs hpost hP hD hS => ?_)
  obtain ⟨rfl, hG2, hm2⟩ := hpost
  have hP := zPerm_P hP (List.perm_append_comm (l₂ := zOc k ot g2 :: xs2))
  have hD := zPerm_D hD (List.perm_append_comm (l₂ := zOc k ot g2 :: xs2))
  refine lv_istore (lv' := [(6, .int (nZ ans)), (5, .int (nZ cd)), (0, .ref b), (1, .ref h), (2, .ref mm), (3, .ref ot), (4, .int (nZ i))]) hX hB dL_law_603 hl (by decide) rfl (fun ls hl => ?_)
  refine lv_aload_n hX hB dL_law_605 rfl (lv_at hl 4 rfl) ?_
  obtain ⟨B, S, K, T⟩ := σ2
  obtain ⟨fs2, he2⟩ := hm2.recv
  refine zCallIO (zRunV (As := []) X mv_X7_thrown (bm_thrown l D k mm cd B S K T u hG2 hm2 _) zw_310 (zPreVO (ws := zOc k ot g2 :: (xs2 ++ u)) hP hD hK zlp2 he2 rfl rfl) rfl hl (by first | exact Nat.le_of_ble_eq_true rfl | omega | (dsimp only [zRW, zRN, zRB]; omega)) dL_law_606 ⟨rfl, rfl, ⟨(by first | exact Nat.le_of_ble_eq_true rfl | omega | (dsimp only [zRW, zRN, zRB]; omega)), (by first | exact Nat.le_of_ble_eq_true rfl | omega | (dsimp only [zRW, zRN, zRB]; omega))⟩, (by first | exact Nat.le_of_ble_eq_true rfl | omega | (dsimp only [zRW, zRN, zRB]; omega)), (by first | exact Nat.le_of_ble_eq_true rfl | omega | (dsimp only [zRW, zRN, zRB]; omega))⟩ rfl) hS hP hD hA zlp2 (fun r2 u2 H locs hpost hP hD hS => ?_)
  obtain ⟨rfl, hG3, hm3⟩ := hpost
  have hP := zPerm_P hP (List.perm_append_comm (l₂ := zOc k ot g2 :: xs2))
  have hD := zPerm_D hD (List.perm_append_comm (l₂ := zOc k ot g2 :: xs2))
  refine lv_iload hX hB dL_law_609 (lv_at hl 1 rfl) ?_
  refine lv_same_eq X rfl (tgt := 616) dL_law_611 (by decide) ?_
  refine lv_iload hX hB dL_law_616 (lv_at hl 1 rfl) ?_
  have hend : W p l e R s m args below meth c H locs (cells + 10 + 0 + 0) (slots + 110 + 0 + 0) Q (F0 m 633 ls []) := by
    refine lv_goto (tgt := 1057) hX hB dL_law_633 (by decide) ?_
    exact KK H locs ls _ cd g2 xs2 u2 hG3 hx2 hm3 hP hD hS (lv_sub hl [2, 3, 4, 5, 6] rfl)
  refine zz_if_ne X (tgt := 633) dL_law_618 (by decide) hcr (fun _ => hend) (fun c0 => ?_)
  refine lv_aload_n hX hB dL_law_621 rfl (lv_at hl 5 rfl) ?_
  refine lv_iconst (v := nZ 0) hX hB dL_law_622 rfl ?_
  refine va_lald (ws := zOc k ot g2 :: (xs2 ++ u2)) hX hB hK.1 hP 0 3 rfl rfl (nZ_in (n := 1) (by decide) (by decide) (by decide)) dL_law_623 ?_
  refine lv_iload hX hB dL_law_624 (lv_at hl 0 rfl) ?_
  refine lv_i2l (v := (nZ ans).toInt64) hX hB dL_law_626 rfl ?_
  refine zz_lcmp0 X (hg c0) dL_law_627 ?_
  exact zz_if_eq X (tgt := 633) dL_law_628 (by decide) ⟨by decide, by decide⟩ (fun _ => hend) (fun c1 => absurd rfl c1)

set_option maxHeartbeats 1000000 in
theorem lc_bedOf (C : lawC p l R s m args meth c D k b L sc A i cells slots) (KK : lawG p l e R s m args below meth c Q D k h mm ot b A i (cells + 10) (slots + 110) 1057) : lawG p l e R s m args below meth c Q D k h mm ot b A i cells slots 636 := by
  intro H locs ls σ t g xs ys hG hx hm hP hD hS hl
  obtain ⟨X, hst, hxT, hxZ, hA, hC, hbl, hbA, hL, hi, hfr, hcs⟩ := C
  have hX := X.1; have hB := X.2.1; have hz := X.2.2.2.2.1; have hW := X.2.2.2.2.2.1; have hK := X.2.2.2.2.2.2.2
  obtain ⟨x1, hz1, hv1⟩ : ∃ x : Int, zR x ∧ sc (nZ (i + 1)).toNatClampNeg = nZ x := ⟨_, nZ_rng _, (nZ_as _).symm⟩
  obtain ⟨x2, hz2, hv2⟩ : ∃ x : Int, zR x ∧ sc (nZ (i + 2)).toNatClampNeg = nZ x := ⟨_, nZ_rng _, (nZ_as _).symm⟩
  obtain ⟨σ2, cd, ans, hcd, hW9, hM9⟩ := pr_bedOf l hst D k h mm ot t g σ xs ys hG hx hm x1 x2 hz1 hz2
  have hcr : zR cd := by rcases hcd with rfl | rfl | rfl <;> exact ⟨by decide, by decide⟩
  refine lv_aload_n hX hB dL_law_636 rfl (lv_at hl 1 rfl) ?_
  refine lv_aload_n hX hB dL_law_637 rfl (lv_at hl 0 rfl) ?_
  refine lv_iload hX hB dL_law_638 (lv_at hl 4 rfl) ?_
  refine lv_iconst (v := nZ 1) hX hB dL_law_640 rfl ?_
  refine zz_iadd X dL_law_641 (z := i + 1) rfl ?_
  refine zz_sld X hC hbl hbA hS (by omega) (by omega) hL hv1 dL_law_642 ?_
  refine lv_aload_n hX hB dL_law_643 rfl (lv_at hl 0 rfl) ?_
  refine lv_iload hX hB dL_law_644 (lv_at hl 4 rfl) ?_
  refine lv_iconst (v := nZ 2) hX hB dL_law_646 rfl ?_
  refine zz_iadd X dL_law_647 (z := i + 2) rfl ?_
  refine zz_sld X hC hbl hbA hS (by omega) (by omega) hL hv2 dL_law_648 ?_
  refine lv_aload_n hX hB dL_law_649 rfl (lv_at hl 3 rfl) ?_
  refine zCallIO (zRunW (As := [.ref h, .int (nZ x1), .int (nZ x2), .ref ot]) X mw_bedOf (hW9 _) zw_520 (zPreSOT hP hD hK hS hA hxT hxZ zlp1) rfl hl (by first | exact Nat.le_of_ble_eq_true rfl | omega | (dsimp only [zRW, zRN, zRB]; omega)) dL_law_650 ⟨rfl, rfl, ⟨(by first | exact Nat.le_of_ble_eq_true rfl | omega | (dsimp only [zRW, zRN, zRB]; omega)), (by first | exact Nat.le_of_ble_eq_true rfl | omega | (dsimp only [zRW, zRN, zRB]; omega))⟩, (by first | exact Nat.le_of_ble_eq_true rfl | omega | (dsimp only [zRW, zRN, zRB]; omega)), (by first | exact Nat.le_of_ble_eq_true rfl | omega | (dsimp only [zRW, zRN, zRB]; omega))⟩ rfl) hS hP hD hA zlp1 (fun r u H locs hpost hP hD hS => ?_)
  obtain ⟨g2, xs2, rfl, rfl, hg, hx2⟩ := hpost
  refine lv_istore (lv' := [(5, .int (nZ cd)), (0, .ref b), (1, .ref h), (2, .ref mm), (3, .ref ot), (4, .int (nZ i))]) hX hB dL_law_653 hl (by decide) rfl (fun ls hl => ?_)
  refine lv_aload_n hX hB dL_law_655 rfl (lv_at hl 3 rfl) ?_
  refine lv_aload_n hX hB dL_law_656 rfl (lv_at hl 1 rfl) ?_
  refine lv_iload hX hB dL_law_657 (lv_at hl 5 rfl) ?_
  refine lv_iconst (v := nZ 1) hX hB dL_law_659 rfl ?_
  refine zz_iadd X dL_law_660 (z := i + 1) rfl ?_
  refine zz_sld X hC hbl hbA hS (by omega) (by omega) hL hv1 dL_law_661 ?_
  refine lv_aload_n hX hB dL_law_662 rfl (lv_at hl 1 rfl) ?_
  refine lv_iload hX hB dL_law_663 (lv_at hl 5 rfl) ?_
  refine lv_iconst (v := nZ 2) hX hB dL_law_665 rfl ?_
  refine zz_iadd X dL_law_666 (z := i + 2) rfl ?_
  refine zz_sld X hC hbl hbA hS (by omega) (by omega) hL hv2 dL_law_667 ?_
  obtain ⟨fs, he⟩ := hm.recv
  refine zCallIO (zRunV (As := [.int (nZ x1), .int (nZ x2)]) X mv_X7_bedOf (hM9 _) zw_530 (zPreVO hP hD hK zlp2 he rfl rfl) rfl hl (by first | exact Nat.le_of_ble_eq_true rfl | omega | (dsimp only [zRW, zRN, zRB]; omega)) dL_law_668 ⟨rfl, rfl, ⟨(by first | exact Nat.le_of_ble_eq_true rfl | omega | (dsimp only [zRW, zRN, zRB]; omega)), (by first | exact Nat.le_of_ble_eq_true rfl | omega | (dsimp only [zRW, zRN, zRB]; omega))⟩, (by first | exact Nat.le_of_ble_eq_true rfl | omega | (dsimp only [zRW, zRN, zRB]; omega)), (by first | exact Nat.le_of_ble_eq_true rfl | omega | (dsimp only [zRW, zRN, zRB]; omega))⟩ rfl) hS hP hD hA zlp2 (fun r u H locs hpost hP hD hS => ?_)
  obtain ⟨rfl, hG2, hm2⟩ := hpost
  have hP := zPerm_P hP (List.perm_append_comm (l₂ := zOc k ot g2 :: xs2))
  have hD := zPerm_D hD (List.perm_append_comm (l₂ := zOc k ot g2 :: xs2))
  refine lv_istore (lv' := [(6, .int (nZ ans)), (5, .int (nZ cd)), (0, .ref b), (1, .ref h), (2, .ref mm), (3, .ref ot), (4, .int (nZ i))]) hX hB dL_law_671 hl (by decide) rfl (fun ls hl => ?_)
  refine lv_aload_n hX hB dL_law_673 rfl (lv_at hl 4 rfl) ?_
  obtain ⟨B, S, K, T⟩ := σ2
  obtain ⟨fs2, he2⟩ := hm2.recv
  refine zCallIO (zRunV (As := []) X mv_X7_thrown (bm_thrown l D k mm cd B S K T u hG2 hm2 _) zw_310 (zPreVO (ws := zOc k ot g2 :: (xs2 ++ u)) hP hD hK zlp2 he2 rfl rfl) rfl hl (by first | exact Nat.le_of_ble_eq_true rfl | omega | (dsimp only [zRW, zRN, zRB]; omega)) dL_law_674 ⟨rfl, rfl, ⟨(by first | exact Nat.le_of_ble_eq_true rfl | omega | (dsimp only [zRW, zRN, zRB]; omega)), (by first | exact Nat.le_of_ble_eq_true rfl | omega | (dsimp only [zRW, zRN, zRB]; omega))⟩, (by first | exact Nat.le_of_ble_eq_true rfl | omega | (dsimp only [zRW, zRN, zRB]; omega)), (by first | exact Nat.le_of_ble_eq_true rfl | omega | (dsimp only [zRW, zRN, zRB]; omega))⟩ rfl) hS hP hD hA zlp2 (fun r2 u2 H locs hpost hP hD hS => ?_)
  obtain ⟨rfl, hG3, hm3⟩ := hpost
  have hP := zPerm_P hP (List.perm_append_comm (l₂ := zOc k ot g2 :: xs2))
  have hD := zPerm_D hD (List.perm_append_comm (l₂ := zOc k ot g2 :: xs2))
  refine lv_iload hX hB dL_law_677 (lv_at hl 1 rfl) ?_
  refine lv_same_eq X rfl (tgt := 684) dL_law_679 (by decide) ?_
  refine lv_iload hX hB dL_law_684 (lv_at hl 1 rfl) ?_
  have hend : W p l e R s m args below meth c H locs (cells + 10 + 0 + 0) (slots + 110 + 0 + 0) Q (F0 m 701 ls []) := by
    refine lv_goto (tgt := 1057) hX hB dL_law_701 (by decide) ?_
    exact KK H locs ls _ cd g2 xs2 u2 hG3 hx2 hm3 hP hD hS (lv_sub hl [2, 3, 4, 5, 6] rfl)
  refine zz_if_ne X (tgt := 701) dL_law_686 (by decide) hcr (fun _ => hend) (fun c0 => ?_)
  refine lv_aload_n hX hB dL_law_689 rfl (lv_at hl 5 rfl) ?_
  refine lv_iconst (v := nZ 0) hX hB dL_law_690 rfl ?_
  refine va_lald (ws := zOc k ot g2 :: (xs2 ++ u2)) hX hB hK.1 hP 0 3 rfl rfl (nZ_in (n := 1) (by decide) (by decide) (by decide)) dL_law_691 ?_
  refine lv_iload hX hB dL_law_692 (lv_at hl 0 rfl) ?_
  refine lv_i2l (v := (nZ ans).toInt64) hX hB dL_law_694 rfl ?_
  refine zz_lcmp0 X (hg c0) dL_law_695 ?_
  exact zz_if_eq X (tgt := 701) dL_law_696 (by decide) ⟨by decide, by decide⟩ (fun _ => hend) (fun c1 => absurd rfl c1)

set_option maxHeartbeats 1000000 in
theorem lc_count (C : lawC p l R s m args meth c D k b L sc A i cells slots) (KK : lawG p l e R s m args below meth c Q D k h mm ot b A i (cells + 10) (slots + 110) 1057) : lawG p l e R s m args below meth c Q D k h mm ot b A i cells slots 704 := by
  intro H locs ls σ t g xs ys hG hx hm hP hD hS hl
  obtain ⟨X, hst, hxT, hxZ, hA, hC, hbl, hbA, hL, hi, hfr, hcs⟩ := C
  have hX := X.1; have hB := X.2.1; have hz := X.2.2.2.2.1; have hW := X.2.2.2.2.2.1; have hK := X.2.2.2.2.2.2.2
  obtain ⟨x1, hz1, hv1⟩ : ∃ x : Int, zR x ∧ sc (nZ (i + 1)).toNatClampNeg = nZ x := ⟨_, nZ_rng _, (nZ_as _).symm⟩
  obtain ⟨σ2, cd, ans, hcd, hW9, hM9⟩ := pr_count l hst D k h mm ot t g σ xs ys hG hx hm x1 hz1
  have hcr : zR cd := by rcases hcd with rfl | rfl | rfl <;> exact ⟨by decide, by decide⟩
  refine lv_aload_n hX hB dL_law_704 rfl (lv_at hl 1 rfl) ?_
  refine lv_aload_n hX hB dL_law_705 rfl (lv_at hl 0 rfl) ?_
  refine lv_iload hX hB dL_law_706 (lv_at hl 4 rfl) ?_
  refine lv_iconst (v := nZ 1) hX hB dL_law_708 rfl ?_
  refine zz_iadd X dL_law_709 (z := i + 1) rfl ?_
  refine zz_sld X hC hbl hbA hS (by omega) (by omega) hL hv1 dL_law_710 ?_
  refine lv_aload_n hX hB dL_law_711 rfl (lv_at hl 3 rfl) ?_
  refine zCallIO (zRunW (As := [.ref h, .int (nZ x1), .ref ot]) X mw_count (hW9 _) zw_538 (zPreSOT hP hD hK hS hA hxT hxZ zlp1) rfl hl (by first | exact Nat.le_of_ble_eq_true rfl | omega | (dsimp only [zRW, zRN, zRB]; omega)) dL_law_712 ⟨rfl, rfl, ⟨(by first | exact Nat.le_of_ble_eq_true rfl | omega | (dsimp only [zRW, zRN, zRB]; omega)), (by first | exact Nat.le_of_ble_eq_true rfl | omega | (dsimp only [zRW, zRN, zRB]; omega))⟩, (by first | exact Nat.le_of_ble_eq_true rfl | omega | (dsimp only [zRW, zRN, zRB]; omega)), (by first | exact Nat.le_of_ble_eq_true rfl | omega | (dsimp only [zRW, zRN, zRB]; omega))⟩ rfl) hS hP hD hA zlp1 (fun r u H locs hpost hP hD hS => ?_)
  obtain ⟨g2, xs2, rfl, rfl, hg, hx2⟩ := hpost
  refine lv_istore (lv' := [(5, .int (nZ cd)), (0, .ref b), (1, .ref h), (2, .ref mm), (3, .ref ot), (4, .int (nZ i))]) hX hB dL_law_715 hl (by decide) rfl (fun ls hl => ?_)
  refine lv_aload_n hX hB dL_law_717 rfl (lv_at hl 3 rfl) ?_
  refine lv_aload_n hX hB dL_law_718 rfl (lv_at hl 1 rfl) ?_
  refine lv_iload hX hB dL_law_719 (lv_at hl 5 rfl) ?_
  refine lv_iconst (v := nZ 1) hX hB dL_law_721 rfl ?_
  refine zz_iadd X dL_law_722 (z := i + 1) rfl ?_
  refine zz_sld X hC hbl hbA hS (by omega) (by omega) hL hv1 dL_law_723 ?_
  obtain ⟨fs, he⟩ := hm.recv
  refine zCallIO (zRunV (As := [.int (nZ x1)]) X mv_X7_count (hM9 _) zw_551 (zPreVO hP hD hK zlp2 he rfl rfl) rfl hl (by first | exact Nat.le_of_ble_eq_true rfl | omega | (dsimp only [zRW, zRN, zRB]; omega)) dL_law_724 ⟨rfl, rfl, ⟨(by first | exact Nat.le_of_ble_eq_true rfl | omega | (dsimp only [zRW, zRN, zRB]; omega)), (by first | exact Nat.le_of_ble_eq_true rfl | omega | (dsimp only [zRW, zRN, zRB]; omega))⟩, (by first | exact Nat.le_of_ble_eq_true rfl | omega | (dsimp only [zRW, zRN, zRB]; omega)), (by first | exact Nat.le_of_ble_eq_true rfl | omega | (dsimp only [zRW, zRN, zRB]; omega))⟩ rfl) hS hP hD hA zlp2 (fun r u H locs hpost hP hD hS => ?_)
  obtain ⟨rfl, hG2, hm2⟩ := hpost
  have hP := zPerm_P hP (List.perm_append_comm (l₂ := zOc k ot g2 :: xs2))
  have hD := zPerm_D hD (List.perm_append_comm (l₂ := zOc k ot g2 :: xs2))
  refine lv_istore (lv' := [(6, .int (nZ ans)), (5, .int (nZ cd)), (0, .ref b), (1, .ref h), (2, .ref mm), (3, .ref ot), (4, .int (nZ i))]) hX hB dL_law_727 hl (by decide) rfl (fun ls hl => ?_)
  refine lv_aload_n hX hB dL_law_729 rfl (lv_at hl 4 rfl) ?_
  obtain ⟨B, S, K, T⟩ := σ2
  obtain ⟨fs2, he2⟩ := hm2.recv
  refine zCallIO (zRunV (As := []) X mv_X7_thrown (bm_thrown l D k mm cd B S K T u hG2 hm2 _) zw_310 (zPreVO (ws := zOc k ot g2 :: (xs2 ++ u)) hP hD hK zlp2 he2 rfl rfl) rfl hl (by first | exact Nat.le_of_ble_eq_true rfl | omega | (dsimp only [zRW, zRN, zRB]; omega)) dL_law_730 ⟨rfl, rfl, ⟨(by first | exact Nat.le_of_ble_eq_true rfl | omega | (dsimp only [zRW, zRN, zRB]; omega)), (by first | exact Nat.le_of_ble_eq_true rfl | omega | (dsimp only [zRW, zRN, zRB]; omega))⟩, (by first | exact Nat.le_of_ble_eq_true rfl | omega | (dsimp only [zRW, zRN, zRB]; omega)), (by first | exact Nat.le_of_ble_eq_true rfl | omega | (dsimp only [zRW, zRN, zRB]; omega))⟩ rfl) hS hP hD hA zlp2 (fun r2 u2 H locs hpost hP hD hS => ?_)
  obtain ⟨rfl, hG3, hm3⟩ := hpost
  have hP := zPerm_P hP (List.perm_append_comm (l₂ := zOc k ot g2 :: xs2))
  have hD := zPerm_D hD (List.perm_append_comm (l₂ := zOc k ot g2 :: xs2))
  refine lv_iload hX hB dL_law_733 (lv_at hl 1 rfl) ?_
  refine lv_same_eq X rfl (tgt := 740) dL_law_735 (by decide) ?_
  refine lv_iload hX hB dL_law_740 (lv_at hl 1 rfl) ?_
  have hend : W p l e R s m args below meth c H locs (cells + 10 + 0 + 0) (slots + 110 + 0 + 0) Q (F0 m 757 ls []) := by
    refine lv_goto (tgt := 1057) hX hB dL_law_757 (by decide) ?_
    exact KK H locs ls _ cd g2 xs2 u2 hG3 hx2 hm3 hP hD hS (lv_sub hl [2, 3, 4, 5, 6] rfl)
  refine zz_if_ne X (tgt := 757) dL_law_742 (by decide) hcr (fun _ => hend) (fun c0 => ?_)
  refine lv_aload_n hX hB dL_law_745 rfl (lv_at hl 5 rfl) ?_
  refine lv_iconst (v := nZ 0) hX hB dL_law_746 rfl ?_
  refine va_lald (ws := zOc k ot g2 :: (xs2 ++ u2)) hX hB hK.1 hP 0 3 rfl rfl (nZ_in (n := 1) (by decide) (by decide) (by decide)) dL_law_747 ?_
  refine lv_iload hX hB dL_law_748 (lv_at hl 0 rfl) ?_
  refine lv_i2l (v := (nZ ans).toInt64) hX hB dL_law_750 rfl ?_
  refine zz_lcmp0 X (hg c0) dL_law_751 ?_
  exact zz_if_eq X (tgt := 757) dL_law_752 (by decide) ⟨by decide, by decide⟩ (fun _ => hend) (fun c1 => absurd rfl c1)

set_option maxHeartbeats 1000000 in
theorem lc_setting (C : lawC p l R s m args meth c D k b L sc A i cells slots) (KK : lawG p l e R s m args below meth c Q D k h mm ot b A i (cells + 10) (slots + 110) 1057) : lawG p l e R s m args below meth c Q D k h mm ot b A i cells slots 760 := by
  intro H locs ls σ t g xs ys hG hx hm hP hD hS hl
  obtain ⟨X, hst, hxT, hxZ, hA, hC, hbl, hbA, hL, hi, hfr, hcs⟩ := C
  have hX := X.1; have hB := X.2.1; have hz := X.2.2.2.2.1; have hW := X.2.2.2.2.2.1; have hK := X.2.2.2.2.2.2.2
  obtain ⟨B, S, K, T⟩ := σ
  obtain ⟨fs, he⟩ := hx.recv
  obtain ⟨fs2, he2⟩ := hm.recv
  refine lv_aload_n hX hB dL_law_760 rfl (lv_at hl 1 rfl) ?_
  refine zCallIO (zRunV (As := []) X mv_X6_setting (bx_setting l D k h B S K T xs hG hx _) zw_563 (zPreVO hP hD hK zlp3 he rfl rfl) rfl hl (by first | exact Nat.le_of_ble_eq_true rfl | omega | (dsimp only [zRW, zRN, zRB]; omega)) dL_law_761 ⟨rfl, rfl, ⟨(by first | exact Nat.le_of_ble_eq_true rfl | omega | (dsimp only [zRW, zRN, zRB]; omega)), (by first | exact Nat.le_of_ble_eq_true rfl | omega | (dsimp only [zRW, zRN, zRB]; omega))⟩, (by first | exact Nat.le_of_ble_eq_true rfl | omega | (dsimp only [zRW, zRN, zRB]; omega)), (by first | exact Nat.le_of_ble_eq_true rfl | omega | (dsimp only [zRW, zRN, zRB]; omega))⟩ rfl) hS hP hD hA zlp3 (fun r u H locs hpost hP hD hS => ?_)
  obtain ⟨rfl, hx2⟩ := hpost
  have hP := zPerm_P hP List.perm_middle
  have hD := zPerm_D hD List.perm_middle
  refine lv_aload_n hX hB dL_law_764 rfl (lv_at hl 2 rfl) ?_
  refine zCallIO (zRunV (As := []) X mv_X7_setting (bm_setting l D k mm t B S K T ys hG hm _) zw_567 (zPreVO (ws := zOc k ot g :: (u ++ ys)) hP hD hK zlp2 he2 rfl rfl) rfl hl (by first | exact Nat.le_of_ble_eq_true rfl | omega | (dsimp only [zRW, zRN, zRB]; omega)) dL_law_765 ⟨rfl, rfl, ⟨(by first | exact Nat.le_of_ble_eq_true rfl | omega | (dsimp only [zRW, zRN, zRB]; omega)), (by first | exact Nat.le_of_ble_eq_true rfl | omega | (dsimp only [zRW, zRN, zRB]; omega))⟩, (by first | exact Nat.le_of_ble_eq_true rfl | omega | (dsimp only [zRW, zRN, zRB]; omega)), (by first | exact Nat.le_of_ble_eq_true rfl | omega | (dsimp only [zRW, zRN, zRB]; omega))⟩ rfl) hS hP hD hA zlp2 (fun r2 u2 H locs hpost hP hD hS => ?_)
  obtain ⟨rfl, hG3, hm3⟩ := hpost
  have hP := zPerm_P hP (List.perm_append_comm (l₂ := zOc k ot g :: u))
  have hD := zPerm_D hD (List.perm_append_comm (l₂ := zOc k ot g :: u))
  refine lv_same_eq X rfl (tgt := 1057) dL_law_768 (by decide) ?_
  exact KK H locs ls _ 0 g u u2 hG3 hx2 hm3 hP hD hS (lv_sub hl [0, 1, 2, 3, 4] rfl)

set_option maxHeartbeats 1000000 in
theorem lc_ends (C : lawC p l R s m args meth c D k b L sc A i cells slots) (KK : lawG p l e R s m args below meth c Q D k h mm ot b A i (cells + 10) (slots + 110) 1057) : lawG p l e R s m args below meth c Q D k h mm ot b A i cells slots 773 := by
  intro H locs ls σ t g xs ys hG hx hm hP hD hS hl
  obtain ⟨X, hst, hxT, hxZ, hA, hC, hbl, hbA, hL, hi, hfr, hcs⟩ := C
  have hX := X.1; have hB := X.2.1; have hz := X.2.2.2.2.1; have hW := X.2.2.2.2.2.1; have hK := X.2.2.2.2.2.2.2
  obtain ⟨x1, hz1, hv1⟩ : ∃ x : Int, zR x ∧ sc (nZ (i + 1)).toNatClampNeg = nZ x := ⟨_, nZ_rng _, (nZ_as _).symm⟩
  obtain ⟨x2, hz2, hv2⟩ : ∃ x : Int, zR x ∧ sc (nZ (i + 2)).toNatClampNeg = nZ x := ⟨_, nZ_rng _, (nZ_as _).symm⟩
  obtain ⟨x3, hz3, hv3⟩ : ∃ x : Int, zR x ∧ sc (nZ (i + 3)).toNatClampNeg = nZ x := ⟨_, nZ_rng _, (nZ_as _).symm⟩
  obtain ⟨σ2, cd, ans, hcd, hW9, hM9⟩ := pr_ends l hst D k h mm ot t g σ xs ys hG hx hm x1 x2 x3 hz1 hz2 hz3
  have hcr : zR cd := by rcases hcd with rfl | rfl | rfl <;> exact ⟨by decide, by decide⟩
  refine lv_aload_n hX hB dL_law_773 rfl (lv_at hl 1 rfl) ?_
  refine lv_aload_n hX hB dL_law_774 rfl (lv_at hl 0 rfl) ?_
  refine lv_iload hX hB dL_law_775 (lv_at hl 4 rfl) ?_
  refine lv_iconst (v := nZ 1) hX hB dL_law_777 rfl ?_
  refine zz_iadd X dL_law_778 (z := i + 1) rfl ?_
  refine zz_sld X hC hbl hbA hS (by omega) (by omega) hL hv1 dL_law_779 ?_
  refine lv_aload_n hX hB dL_law_780 rfl (lv_at hl 0 rfl) ?_
  refine lv_iload hX hB dL_law_781 (lv_at hl 4 rfl) ?_
  refine lv_iconst (v := nZ 2) hX hB dL_law_783 rfl ?_
  refine zz_iadd X dL_law_784 (z := i + 2) rfl ?_
  refine zz_sld X hC hbl hbA hS (by omega) (by omega) hL hv2 dL_law_785 ?_
  refine lv_aload_n hX hB dL_law_786 rfl (lv_at hl 0 rfl) ?_
  refine lv_iload hX hB dL_law_787 (lv_at hl 4 rfl) ?_
  refine lv_iconst (v := nZ 3) hX hB dL_law_789 rfl ?_
  refine zz_iadd X dL_law_790 (z := i + 3) rfl ?_
  refine zz_sld X hC hbl hbA hS (by omega) (by omega) hL hv3 dL_law_791 ?_
  refine lv_aload_n hX hB dL_law_792 rfl (lv_at hl 3 rfl) ?_
  refine zCallIO (zRunW (As := [.ref h, .int (nZ x1), .int (nZ x2), .int (nZ x3), .ref ot]) X mw_ends (hW9 _) zw_571 (zPreSOT hP hD hK hS hA hxT hxZ zlp1) rfl hl (by first | exact Nat.le_of_ble_eq_true rfl | omega | (dsimp only [zRW, zRN, zRB]; omega)) dL_law_793 ⟨rfl, rfl, ⟨(by first | exact Nat.le_of_ble_eq_true rfl | omega | (dsimp only [zRW, zRN, zRB]; omega)), (by first | exact Nat.le_of_ble_eq_true rfl | omega | (dsimp only [zRW, zRN, zRB]; omega))⟩, (by first | exact Nat.le_of_ble_eq_true rfl | omega | (dsimp only [zRW, zRN, zRB]; omega)), (by first | exact Nat.le_of_ble_eq_true rfl | omega | (dsimp only [zRW, zRN, zRB]; omega))⟩ rfl) hS hP hD hA zlp1 (fun r u H locs hpost hP hD hS => ?_)
  obtain ⟨g2, xs2, rfl, rfl, hg, hx2⟩ := hpost
  refine lv_istore (lv' := [(5, .int (nZ cd)), (0, .ref b), (1, .ref h), (2, .ref mm), (3, .ref ot), (4, .int (nZ i))]) hX hB dL_law_796 hl (by decide) rfl (fun ls hl => ?_)
  refine lv_aload_n hX hB dL_law_798 rfl (lv_at hl 3 rfl) ?_
  refine lv_aload_n hX hB dL_law_799 rfl (lv_at hl 1 rfl) ?_
  refine lv_iload hX hB dL_law_800 (lv_at hl 5 rfl) ?_
  refine lv_iconst (v := nZ 1) hX hB dL_law_802 rfl ?_
  refine zz_iadd X dL_law_803 (z := i + 1) rfl ?_
  refine zz_sld X hC hbl hbA hS (by omega) (by omega) hL hv1 dL_law_804 ?_
  refine lv_aload_n hX hB dL_law_805 rfl (lv_at hl 1 rfl) ?_
  refine lv_iload hX hB dL_law_806 (lv_at hl 5 rfl) ?_
  refine lv_iconst (v := nZ 2) hX hB dL_law_808 rfl ?_
  refine zz_iadd X dL_law_809 (z := i + 2) rfl ?_
  refine zz_sld X hC hbl hbA hS (by omega) (by omega) hL hv2 dL_law_810 ?_
  refine lv_aload_n hX hB dL_law_811 rfl (lv_at hl 1 rfl) ?_
  refine lv_iload hX hB dL_law_812 (lv_at hl 5 rfl) ?_
  refine lv_iconst (v := nZ 3) hX hB dL_law_814 rfl ?_
  refine zz_iadd X dL_law_815 (z := i + 3) rfl ?_
  refine zz_sld X hC hbl hbA hS (by omega) (by omega) hL hv3 dL_law_816 ?_
  obtain ⟨fs, he⟩ := hm.recv
  refine zCallIO (zRunV (As := [.int (nZ x1), .int (nZ x2), .int (nZ x3)]) X mv_X7_ends_ (hM9 _) zw_586 (zPreVO hP hD hK zlp2 he rfl rfl) rfl hl (by first | exact Nat.le_of_ble_eq_true rfl | omega | (dsimp only [zRW, zRN, zRB]; omega)) dL_law_817 ⟨rfl, rfl, ⟨(by first | exact Nat.le_of_ble_eq_true rfl | omega | (dsimp only [zRW, zRN, zRB]; omega)), (by first | exact Nat.le_of_ble_eq_true rfl | omega | (dsimp only [zRW, zRN, zRB]; omega))⟩, (by first | exact Nat.le_of_ble_eq_true rfl | omega | (dsimp only [zRW, zRN, zRB]; omega)), (by first | exact Nat.le_of_ble_eq_true rfl | omega | (dsimp only [zRW, zRN, zRB]; omega))⟩ rfl) hS hP hD hA zlp2 (fun r u H locs hpost hP hD hS => ?_)
  obtain ⟨rfl, hG2, hm2⟩ := hpost
  have hP := zPerm_P hP (List.perm_append_comm (l₂ := zOc k ot g2 :: xs2))
  have hD := zPerm_D hD (List.perm_append_comm (l₂ := zOc k ot g2 :: xs2))
  refine lv_istore (lv' := [(6, .int (nZ ans)), (5, .int (nZ cd)), (0, .ref b), (1, .ref h), (2, .ref mm), (3, .ref ot), (4, .int (nZ i))]) hX hB dL_law_820 hl (by decide) rfl (fun ls hl => ?_)
  refine lv_aload_n hX hB dL_law_822 rfl (lv_at hl 4 rfl) ?_
  obtain ⟨B, S, K, T⟩ := σ2
  obtain ⟨fs2, he2⟩ := hm2.recv
  refine zCallIO (zRunV (As := []) X mv_X7_thrown (bm_thrown l D k mm cd B S K T u hG2 hm2 _) zw_310 (zPreVO (ws := zOc k ot g2 :: (xs2 ++ u)) hP hD hK zlp2 he2 rfl rfl) rfl hl (by first | exact Nat.le_of_ble_eq_true rfl | omega | (dsimp only [zRW, zRN, zRB]; omega)) dL_law_823 ⟨rfl, rfl, ⟨(by first | exact Nat.le_of_ble_eq_true rfl | omega | (dsimp only [zRW, zRN, zRB]; omega)), (by first | exact Nat.le_of_ble_eq_true rfl | omega | (dsimp only [zRW, zRN, zRB]; omega))⟩, (by first | exact Nat.le_of_ble_eq_true rfl | omega | (dsimp only [zRW, zRN, zRB]; omega)), (by first | exact Nat.le_of_ble_eq_true rfl | omega | (dsimp only [zRW, zRN, zRB]; omega))⟩ rfl) hS hP hD hA zlp2 (fun r2 u2 H locs hpost hP hD hS => ?_)
  obtain ⟨rfl, hG3, hm3⟩ := hpost
  have hP := zPerm_P hP (List.perm_append_comm (l₂ := zOc k ot g2 :: xs2))
  have hD := zPerm_D hD (List.perm_append_comm (l₂ := zOc k ot g2 :: xs2))
  refine lv_iload hX hB dL_law_826 (lv_at hl 1 rfl) ?_
  refine lv_same_eq X rfl (tgt := 833) dL_law_828 (by decide) ?_
  refine lv_iload hX hB dL_law_833 (lv_at hl 1 rfl) ?_
  have hend : W p l e R s m args below meth c H locs (cells + 10 + 0 + 0) (slots + 110 + 0 + 0) Q (F0 m 850 ls []) := by
    refine lv_goto (tgt := 1057) hX hB dL_law_850 (by decide) ?_
    exact KK H locs ls _ cd g2 xs2 u2 hG3 hx2 hm3 hP hD hS (lv_sub hl [2, 3, 4, 5, 6] rfl)
  refine zz_if_ne X (tgt := 850) dL_law_835 (by decide) hcr (fun _ => hend) (fun c0 => ?_)
  refine lv_aload_n hX hB dL_law_838 rfl (lv_at hl 5 rfl) ?_
  refine lv_iconst (v := nZ 0) hX hB dL_law_839 rfl ?_
  refine va_lald (ws := zOc k ot g2 :: (xs2 ++ u2)) hX hB hK.1 hP 0 3 rfl rfl (nZ_in (n := 1) (by decide) (by decide) (by decide)) dL_law_840 ?_
  refine lv_iload hX hB dL_law_841 (lv_at hl 0 rfl) ?_
  refine lv_i2l (v := (nZ ans).toInt64) hX hB dL_law_843 rfl ?_
  refine zz_lcmp0 X (hg c0) dL_law_844 ?_
  exact zz_if_eq X (tgt := 850) dL_law_845 (by decide) ⟨by decide, by decide⟩ (fun _ => hend) (fun c1 => absurd rfl c1)

set_option maxHeartbeats 1000000 in
theorem lc_ifPushed (C : lawC p l R s m args meth c D k b L sc A i cells slots) (KK : lawG p l e R s m args below meth c Q D k h mm ot b A i (cells + 10) (slots + 110) 1057) : lawG p l e R s m args below meth c Q D k h mm ot b A i cells slots 853 := by
  intro H locs ls σ t g xs ys hG hx hm hP hD hS hl
  obtain ⟨X, hst, hxT, hxZ, hA, hC, hbl, hbA, hL, hi, hfr, hcs⟩ := C
  have hX := X.1; have hB := X.2.1; have hz := X.2.2.2.2.1; have hW := X.2.2.2.2.2.1; have hK := X.2.2.2.2.2.2.2
  obtain ⟨x1, hz1, hv1⟩ : ∃ x : Int, zR x ∧ sc (nZ (i + 1)).toNatClampNeg = nZ x := ⟨_, nZ_rng _, (nZ_as _).symm⟩
  obtain ⟨x2, hz2, hv2⟩ : ∃ x : Int, zR x ∧ sc (nZ (i + 2)).toNatClampNeg = nZ x := ⟨_, nZ_rng _, (nZ_as _).symm⟩
  obtain ⟨σ2, cd, ans, hcd, hW9, hM9⟩ := pr_ifPushed l hst D k h mm ot t g σ xs ys hG hx hm x1 x2 hz1 hz2
  have hcr : zR cd := by rcases hcd with rfl | rfl | rfl <;> exact ⟨by decide, by decide⟩
  refine lv_aload_n hX hB dL_law_853 rfl (lv_at hl 1 rfl) ?_
  refine lv_aload_n hX hB dL_law_854 rfl (lv_at hl 0 rfl) ?_
  refine lv_iload hX hB dL_law_855 (lv_at hl 4 rfl) ?_
  refine lv_iconst (v := nZ 1) hX hB dL_law_857 rfl ?_
  refine zz_iadd X dL_law_858 (z := i + 1) rfl ?_
  refine zz_sld X hC hbl hbA hS (by omega) (by omega) hL hv1 dL_law_859 ?_
  refine lv_aload_n hX hB dL_law_860 rfl (lv_at hl 0 rfl) ?_
  refine lv_iload hX hB dL_law_861 (lv_at hl 4 rfl) ?_
  refine lv_iconst (v := nZ 2) hX hB dL_law_863 rfl ?_
  refine zz_iadd X dL_law_864 (z := i + 2) rfl ?_
  refine zz_sld X hC hbl hbA hS (by omega) (by omega) hL hv2 dL_law_865 ?_
  refine lv_aload_n hX hB dL_law_866 rfl (lv_at hl 3 rfl) ?_
  refine zCallIO (zRunW (As := [.ref h, .int (nZ x1), .int (nZ x2), .ref ot]) X mw_ifPushed (hW9 _) zw_602 (zPreSOT hP hD hK hS hA hxT hxZ zlp1) rfl hl (by first | exact Nat.le_of_ble_eq_true rfl | omega | (dsimp only [zRW, zRN, zRB]; omega)) dL_law_867 ⟨rfl, rfl, ⟨(by first | exact Nat.le_of_ble_eq_true rfl | omega | (dsimp only [zRW, zRN, zRB]; omega)), (by first | exact Nat.le_of_ble_eq_true rfl | omega | (dsimp only [zRW, zRN, zRB]; omega))⟩, (by first | exact Nat.le_of_ble_eq_true rfl | omega | (dsimp only [zRW, zRN, zRB]; omega)), (by first | exact Nat.le_of_ble_eq_true rfl | omega | (dsimp only [zRW, zRN, zRB]; omega))⟩ rfl) hS hP hD hA zlp1 (fun r u H locs hpost hP hD hS => ?_)
  obtain ⟨g2, xs2, rfl, rfl, hg, hx2⟩ := hpost
  refine lv_istore (lv' := [(5, .int (nZ cd)), (0, .ref b), (1, .ref h), (2, .ref mm), (3, .ref ot), (4, .int (nZ i))]) hX hB dL_law_870 hl (by decide) rfl (fun ls hl => ?_)
  refine lv_aload_n hX hB dL_law_872 rfl (lv_at hl 3 rfl) ?_
  refine lv_aload_n hX hB dL_law_873 rfl (lv_at hl 1 rfl) ?_
  refine lv_iload hX hB dL_law_874 (lv_at hl 5 rfl) ?_
  refine lv_iconst (v := nZ 1) hX hB dL_law_876 rfl ?_
  refine zz_iadd X dL_law_877 (z := i + 1) rfl ?_
  refine zz_sld X hC hbl hbA hS (by omega) (by omega) hL hv1 dL_law_878 ?_
  refine lv_aload_n hX hB dL_law_879 rfl (lv_at hl 1 rfl) ?_
  refine lv_iload hX hB dL_law_880 (lv_at hl 5 rfl) ?_
  refine lv_iconst (v := nZ 2) hX hB dL_law_882 rfl ?_
  refine zz_iadd X dL_law_883 (z := i + 2) rfl ?_
  refine zz_sld X hC hbl hbA hS (by omega) (by omega) hL hv2 dL_law_884 ?_
  obtain ⟨fs, he⟩ := hm.recv
  refine zCallIO (zRunV (As := [.int (nZ x1), .int (nZ x2)]) X mv_X7_ifPushed (hM9 _) zw_609 (zPreVO hP hD hK zlp2 he rfl rfl) rfl hl (by first | exact Nat.le_of_ble_eq_true rfl | omega | (dsimp only [zRW, zRN, zRB]; omega)) dL_law_885 ⟨rfl, rfl, ⟨(by first | exact Nat.le_of_ble_eq_true rfl | omega | (dsimp only [zRW, zRN, zRB]; omega)), (by first | exact Nat.le_of_ble_eq_true rfl | omega | (dsimp only [zRW, zRN, zRB]; omega))⟩, (by first | exact Nat.le_of_ble_eq_true rfl | omega | (dsimp only [zRW, zRN, zRB]; omega)), (by first | exact Nat.le_of_ble_eq_true rfl | omega | (dsimp only [zRW, zRN, zRB]; omega))⟩ rfl) hS hP hD hA zlp2 (fun r u H locs hpost hP hD hS => ?_)
  obtain ⟨rfl, hG2, hm2⟩ := hpost
  have hP := zPerm_P hP (List.perm_append_comm (l₂ := zOc k ot g2 :: xs2))
  have hD := zPerm_D hD (List.perm_append_comm (l₂ := zOc k ot g2 :: xs2))
  refine lv_istore (lv' := [(6, .int (nZ ans)), (5, .int (nZ cd)), (0, .ref b), (1, .ref h), (2, .ref mm), (3, .ref ot), (4, .int (nZ i))]) hX hB dL_law_888 hl (by decide) rfl (fun ls hl => ?_)
  refine lv_aload_n hX hB dL_law_890 rfl (lv_at hl 4 rfl) ?_
  obtain ⟨B, S, K, T⟩ := σ2
  obtain ⟨fs2, he2⟩ := hm2.recv
  refine zCallIO (zRunV (As := []) X mv_X7_thrown (bm_thrown l D k mm cd B S K T u hG2 hm2 _) zw_310 (zPreVO (ws := zOc k ot g2 :: (xs2 ++ u)) hP hD hK zlp2 he2 rfl rfl) rfl hl (by first | exact Nat.le_of_ble_eq_true rfl | omega | (dsimp only [zRW, zRN, zRB]; omega)) dL_law_891 ⟨rfl, rfl, ⟨(by first | exact Nat.le_of_ble_eq_true rfl | omega | (dsimp only [zRW, zRN, zRB]; omega)), (by first | exact Nat.le_of_ble_eq_true rfl | omega | (dsimp only [zRW, zRN, zRB]; omega))⟩, (by first | exact Nat.le_of_ble_eq_true rfl | omega | (dsimp only [zRW, zRN, zRB]; omega)), (by first | exact Nat.le_of_ble_eq_true rfl | omega | (dsimp only [zRW, zRN, zRB]; omega))⟩ rfl) hS hP hD hA zlp2 (fun r2 u2 H locs hpost hP hD hS => ?_)
  obtain ⟨rfl, hG3, hm3⟩ := hpost
  have hP := zPerm_P hP (List.perm_append_comm (l₂ := zOc k ot g2 :: xs2))
  have hD := zPerm_D hD (List.perm_append_comm (l₂ := zOc k ot g2 :: xs2))
  refine lv_iload hX hB dL_law_894 (lv_at hl 1 rfl) ?_
  refine lv_same_eq X rfl (tgt := 901) dL_law_896 (by decide) ?_
  refine lv_iload hX hB dL_law_901 (lv_at hl 1 rfl) ?_
  have hend : W p l e R s m args below meth c H locs (cells + 10 + 0 + 0) (slots + 110 + 0 + 0) Q (F0 m 918 ls []) := by
    refine lv_goto (tgt := 1057) hX hB dL_law_918 (by decide) ?_
    exact KK H locs ls _ cd g2 xs2 u2 hG3 hx2 hm3 hP hD hS (lv_sub hl [2, 3, 4, 5, 6] rfl)
  refine zz_if_ne X (tgt := 918) dL_law_903 (by decide) hcr (fun _ => hend) (fun c0 => ?_)
  refine lv_aload_n hX hB dL_law_906 rfl (lv_at hl 5 rfl) ?_
  refine lv_iconst (v := nZ 0) hX hB dL_law_907 rfl ?_
  refine va_lald (ws := zOc k ot g2 :: (xs2 ++ u2)) hX hB hK.1 hP 0 3 rfl rfl (nZ_in (n := 1) (by decide) (by decide) (by decide)) dL_law_908 ?_
  refine lv_iload hX hB dL_law_909 (lv_at hl 0 rfl) ?_
  refine lv_i2l (v := (nZ ans).toInt64) hX hB dL_law_911 rfl ?_
  refine zz_lcmp0 X (hg c0) dL_law_912 ?_
  exact zz_if_eq X (tgt := 918) dL_law_913 (by decide) ⟨by decide, by decide⟩ (fun _ => hend) (fun c1 => absurd rfl c1)

set_option maxHeartbeats 1000000 in
theorem lc_strengthFor (C : lawC p l R s m args meth c D k b L sc A i cells slots) (KK : lawG p l e R s m args below meth c Q D k h mm ot b A i (cells + 10) (slots + 110) 1057) : lawG p l e R s m args below meth c Q D k h mm ot b A i cells slots 921 := by
  intro H locs ls σ t g xs ys hG hx hm hP hD hS hl
  obtain ⟨X, hst, hxT, hxZ, hA, hC, hbl, hbA, hL, hi, hfr, hcs⟩ := C
  have hX := X.1; have hB := X.2.1; have hz := X.2.2.2.2.1; have hW := X.2.2.2.2.2.1; have hK := X.2.2.2.2.2.2.2
  obtain ⟨x1, hz1, hv1⟩ : ∃ x : Int, zR x ∧ sc (nZ (i + 1)).toNatClampNeg = nZ x := ⟨_, nZ_rng _, (nZ_as _).symm⟩
  obtain ⟨x2, hz2, hv2⟩ : ∃ x : Int, zR x ∧ sc (nZ (i + 2)).toNatClampNeg = nZ x := ⟨_, nZ_rng _, (nZ_as _).symm⟩
  obtain ⟨σ2, cd, ans, hcd, hW9, hM9⟩ := pr_strengthFor l hst D k h mm ot t g σ xs ys hG hx hm x1 x2 hz1 hz2
  have hcr : zR cd := by rcases hcd with rfl | rfl | rfl <;> exact ⟨by decide, by decide⟩
  refine lv_aload_n hX hB dL_law_921 rfl (lv_at hl 1 rfl) ?_
  refine lv_aload_n hX hB dL_law_922 rfl (lv_at hl 0 rfl) ?_
  refine lv_iload hX hB dL_law_923 (lv_at hl 4 rfl) ?_
  refine lv_iconst (v := nZ 1) hX hB dL_law_925 rfl ?_
  refine zz_iadd X dL_law_926 (z := i + 1) rfl ?_
  refine zz_sld X hC hbl hbA hS (by omega) (by omega) hL hv1 dL_law_927 ?_
  refine lv_aload_n hX hB dL_law_928 rfl (lv_at hl 0 rfl) ?_
  refine lv_iload hX hB dL_law_929 (lv_at hl 4 rfl) ?_
  refine lv_iconst (v := nZ 2) hX hB dL_law_931 rfl ?_
  refine zz_iadd X dL_law_932 (z := i + 2) rfl ?_
  refine zz_sld X hC hbl hbA hS (by omega) (by omega) hL hv2 dL_law_933 ?_
  refine lv_aload_n hX hB dL_law_934 rfl (lv_at hl 3 rfl) ?_
  refine zCallIO (zRunW (As := [.ref h, .int (nZ x1), .int (nZ x2), .ref ot]) X mw_strengthFor (hW9 _) zw_617 (zPreSOT hP hD hK hS hA hxT hxZ zlp1) rfl hl (by first | exact Nat.le_of_ble_eq_true rfl | omega | (dsimp only [zRW, zRN, zRB]; omega)) dL_law_935 ⟨rfl, rfl, ⟨(by first | exact Nat.le_of_ble_eq_true rfl | omega | (dsimp only [zRW, zRN, zRB]; omega)), (by first | exact Nat.le_of_ble_eq_true rfl | omega | (dsimp only [zRW, zRN, zRB]; omega))⟩, (by first | exact Nat.le_of_ble_eq_true rfl | omega | (dsimp only [zRW, zRN, zRB]; omega)), (by first | exact Nat.le_of_ble_eq_true rfl | omega | (dsimp only [zRW, zRN, zRB]; omega))⟩ rfl) hS hP hD hA zlp1 (fun r u H locs hpost hP hD hS => ?_)
  obtain ⟨g2, xs2, rfl, rfl, hg, hx2⟩ := hpost
  refine lv_istore (lv' := [(5, .int (nZ cd)), (0, .ref b), (1, .ref h), (2, .ref mm), (3, .ref ot), (4, .int (nZ i))]) hX hB dL_law_938 hl (by decide) rfl (fun ls hl => ?_)
  refine lv_aload_n hX hB dL_law_940 rfl (lv_at hl 3 rfl) ?_
  refine lv_aload_n hX hB dL_law_941 rfl (lv_at hl 1 rfl) ?_
  refine lv_iload hX hB dL_law_942 (lv_at hl 5 rfl) ?_
  refine lv_iconst (v := nZ 1) hX hB dL_law_944 rfl ?_
  refine zz_iadd X dL_law_945 (z := i + 1) rfl ?_
  refine zz_sld X hC hbl hbA hS (by omega) (by omega) hL hv1 dL_law_946 ?_
  refine lv_aload_n hX hB dL_law_947 rfl (lv_at hl 1 rfl) ?_
  refine lv_iload hX hB dL_law_948 (lv_at hl 5 rfl) ?_
  refine lv_iconst (v := nZ 2) hX hB dL_law_950 rfl ?_
  refine zz_iadd X dL_law_951 (z := i + 2) rfl ?_
  refine zz_sld X hC hbl hbA hS (by omega) (by omega) hL hv2 dL_law_952 ?_
  obtain ⟨fs, he⟩ := hm.recv
  refine zCallIO (zRunV (As := [.int (nZ x1), .int (nZ x2)]) X mv_X7_strengthFor (hM9 _) zw_624 (zPreVO hP hD hK zlp2 he rfl rfl) rfl hl (by first | exact Nat.le_of_ble_eq_true rfl | omega | (dsimp only [zRW, zRN, zRB]; omega)) dL_law_953 ⟨rfl, rfl, ⟨(by first | exact Nat.le_of_ble_eq_true rfl | omega | (dsimp only [zRW, zRN, zRB]; omega)), (by first | exact Nat.le_of_ble_eq_true rfl | omega | (dsimp only [zRW, zRN, zRB]; omega))⟩, (by first | exact Nat.le_of_ble_eq_true rfl | omega | (dsimp only [zRW, zRN, zRB]; omega)), (by first | exact Nat.le_of_ble_eq_true rfl | omega | (dsimp only [zRW, zRN, zRB]; omega))⟩ rfl) hS hP hD hA zlp2 (fun r u H locs hpost hP hD hS => ?_)
  obtain ⟨rfl, hG2, hm2⟩ := hpost
  have hP := zPerm_P hP (List.perm_append_comm (l₂ := zOc k ot g2 :: xs2))
  have hD := zPerm_D hD (List.perm_append_comm (l₂ := zOc k ot g2 :: xs2))
  refine lv_istore (lv' := [(6, .int (nZ ans)), (5, .int (nZ cd)), (0, .ref b), (1, .ref h), (2, .ref mm), (3, .ref ot), (4, .int (nZ i))]) hX hB dL_law_956 hl (by decide) rfl (fun ls hl => ?_)
  refine lv_aload_n hX hB dL_law_958 rfl (lv_at hl 4 rfl) ?_
  obtain ⟨B, S, K, T⟩ := σ2
  obtain ⟨fs2, he2⟩ := hm2.recv
  refine zCallIO (zRunV (As := []) X mv_X7_thrown (bm_thrown l D k mm cd B S K T u hG2 hm2 _) zw_310 (zPreVO (ws := zOc k ot g2 :: (xs2 ++ u)) hP hD hK zlp2 he2 rfl rfl) rfl hl (by first | exact Nat.le_of_ble_eq_true rfl | omega | (dsimp only [zRW, zRN, zRB]; omega)) dL_law_959 ⟨rfl, rfl, ⟨(by first | exact Nat.le_of_ble_eq_true rfl | omega | (dsimp only [zRW, zRN, zRB]; omega)), (by first | exact Nat.le_of_ble_eq_true rfl | omega | (dsimp only [zRW, zRN, zRB]; omega))⟩, (by first | exact Nat.le_of_ble_eq_true rfl | omega | (dsimp only [zRW, zRN, zRB]; omega)), (by first | exact Nat.le_of_ble_eq_true rfl | omega | (dsimp only [zRW, zRN, zRB]; omega))⟩ rfl) hS hP hD hA zlp2 (fun r2 u2 H locs hpost hP hD hS => ?_)
  obtain ⟨rfl, hG3, hm3⟩ := hpost
  have hP := zPerm_P hP (List.perm_append_comm (l₂ := zOc k ot g2 :: xs2))
  have hD := zPerm_D hD (List.perm_append_comm (l₂ := zOc k ot g2 :: xs2))
  refine lv_iload hX hB dL_law_962 (lv_at hl 1 rfl) ?_
  refine lv_same_eq X rfl (tgt := 969) dL_law_964 (by decide) ?_
  refine lv_iload hX hB dL_law_969 (lv_at hl 1 rfl) ?_
  have hend : W p l e R s m args below meth c H locs (cells + 10 + 0 + 0) (slots + 110 + 0 + 0) Q (F0 m 986 ls []) := by
    refine lv_goto (tgt := 1057) hX hB dL_law_986 (by decide) ?_
    exact KK H locs ls _ cd g2 xs2 u2 hG3 hx2 hm3 hP hD hS (lv_sub hl [2, 3, 4, 5, 6] rfl)
  refine zz_if_ne X (tgt := 986) dL_law_971 (by decide) hcr (fun _ => hend) (fun c0 => ?_)
  refine lv_aload_n hX hB dL_law_974 rfl (lv_at hl 5 rfl) ?_
  refine lv_iconst (v := nZ 0) hX hB dL_law_975 rfl ?_
  refine va_lald (ws := zOc k ot g2 :: (xs2 ++ u2)) hX hB hK.1 hP 0 3 rfl rfl (nZ_in (n := 1) (by decide) (by decide) (by decide)) dL_law_976 ?_
  refine lv_iload hX hB dL_law_977 (lv_at hl 0 rfl) ?_
  refine lv_i2l (v := (nZ ans).toInt64) hX hB dL_law_979 rfl ?_
  refine zz_lcmp0 X (hg c0) dL_law_980 ?_
  exact zz_if_eq X (tgt := 986) dL_law_981 (by decide) ⟨by decide, by decide⟩ (fun _ => hend) (fun c1 => absurd rfl c1)

set_option maxHeartbeats 1000000 in
theorem lc_bestPush (C : lawC p l R s m args meth c D k b L sc A i cells slots) (KK : lawG p l e R s m args below meth c Q D k h mm ot b A i (cells + 10) (slots + 110) 1057) : lawG p l e R s m args below meth c Q D k h mm ot b A i cells slots 989 := by
  intro H locs ls σ t g xs ys hG hx hm hP hD hS hl
  obtain ⟨X, hst, hxT, hxZ, hA, hC, hbl, hbA, hL, hi, hfr, hcs⟩ := C
  have hX := X.1; have hB := X.2.1; have hz := X.2.2.2.2.1; have hW := X.2.2.2.2.2.1; have hK := X.2.2.2.2.2.2.2
  obtain ⟨B, S, K, T⟩ := σ
  obtain ⟨fs, he⟩ := hx.recv
  obtain ⟨fs2, he2⟩ := hm.recv
  refine lv_aload_n hX hB dL_law_989 rfl (lv_at hl 1 rfl) ?_
  refine zCallIO (zRunV (As := []) X mv_X6_bestPush (bx_bestPush l D k h B S K T xs hG hx _) zw_632 (zPreVO hP hD hK zlp3 he rfl rfl) rfl hl (by first | exact Nat.le_of_ble_eq_true rfl | omega | (dsimp only [zRW, zRN, zRB]; omega)) dL_law_990 ⟨rfl, rfl, ⟨(by first | exact Nat.le_of_ble_eq_true rfl | omega | (dsimp only [zRW, zRN, zRB]; omega)), (by first | exact Nat.le_of_ble_eq_true rfl | omega | (dsimp only [zRW, zRN, zRB]; omega))⟩, (by first | exact Nat.le_of_ble_eq_true rfl | omega | (dsimp only [zRW, zRN, zRB]; omega)), (by first | exact Nat.le_of_ble_eq_true rfl | omega | (dsimp only [zRW, zRN, zRB]; omega))⟩ rfl) hS hP hD hA zlp3 (fun r u H locs hpost hP hD hS => ?_)
  obtain ⟨rfl, hx2⟩ := hpost
  have hP := zPerm_P hP List.perm_middle
  have hD := zPerm_D hD List.perm_middle
  refine lv_aload_n hX hB dL_law_993 rfl (lv_at hl 2 rfl) ?_
  refine zCallIO (zRunV (As := []) X mv_X7_bestPush (bm_bestPush l D k mm t B S K T ys hG hm _) zw_646 (zPreVO (ws := zOc k ot g :: (u ++ ys)) hP hD hK zlp2 he2 rfl rfl) rfl hl (by first | exact Nat.le_of_ble_eq_true rfl | omega | (dsimp only [zRW, zRN, zRB]; omega)) dL_law_994 ⟨rfl, rfl, ⟨(by first | exact Nat.le_of_ble_eq_true rfl | omega | (dsimp only [zRW, zRN, zRB]; omega)), (by first | exact Nat.le_of_ble_eq_true rfl | omega | (dsimp only [zRW, zRN, zRB]; omega))⟩, (by first | exact Nat.le_of_ble_eq_true rfl | omega | (dsimp only [zRW, zRN, zRB]; omega)), (by first | exact Nat.le_of_ble_eq_true rfl | omega | (dsimp only [zRW, zRN, zRB]; omega))⟩ rfl) hS hP hD hA zlp2 (fun r2 u2 H locs hpost hP hD hS => ?_)
  obtain ⟨rfl, hG3, hm3⟩ := hpost
  have hP := zPerm_P hP (List.perm_append_comm (l₂ := zOc k ot g :: u))
  have hD := zPerm_D hD (List.perm_append_comm (l₂ := zOc k ot g :: u))
  refine lv_same_eq X rfl (tgt := 1057) dL_law_997 (by decide) ?_
  exact KK H locs ls _ 0 g u u2 hG3 hx2 hm3 hP hD hS (lv_sub hl [0, 1, 2, 3, 4] rfl)

set_option maxHeartbeats 1000000 in
theorem lc_fullness (C : lawC p l R s m args meth c D k b L sc A i cells slots) (KK : lawG p l e R s m args below meth c Q D k h mm ot b A i (cells + 10) (slots + 110) 1057) : lawG p l e R s m args below meth c Q D k h mm ot b A i cells slots 1002 := by
  intro H locs ls σ t g xs ys hG hx hm hP hD hS hl
  obtain ⟨X, hst, hxT, hxZ, hA, hC, hbl, hbA, hL, hi, hfr, hcs⟩ := C
  have hX := X.1; have hB := X.2.1; have hz := X.2.2.2.2.1; have hW := X.2.2.2.2.2.1; have hK := X.2.2.2.2.2.2.2
  obtain ⟨B, S, K, T⟩ := σ
  obtain ⟨fs, he⟩ := hx.recv
  obtain ⟨fs2, he2⟩ := hm.recv
  refine lv_aload_n hX hB dL_law_1002 rfl (lv_at hl 1 rfl) ?_
  refine zCallDO (zRunV (As := []) X mv_X6_fullness (bx_fullness l D k h B S K T xs hG hx _) zw_658 (zPreVO hP hD hK zlp3 he rfl rfl) rfl hl (by first | exact Nat.le_of_ble_eq_true rfl | omega | (dsimp only [zRW, zRN, zRB]; omega)) dL_law_1003 ⟨rfl, rfl, ⟨(by first | exact Nat.le_of_ble_eq_true rfl | omega | (dsimp only [zRW, zRN, zRB]; omega)), (by first | exact Nat.le_of_ble_eq_true rfl | omega | (dsimp only [zRW, zRN, zRB]; omega))⟩, (by first | exact Nat.le_of_ble_eq_true rfl | omega | (dsimp only [zRW, zRN, zRB]; omega)), (by first | exact Nat.le_of_ble_eq_true rfl | omega | (dsimp only [zRW, zRN, zRB]; omega))⟩ rfl) hS hP hD hA zlp3 (fun r u H locs hpost hP hD hS => ?_)
  obtain ⟨rfl, hx2⟩ := hpost
  have hP := zPerm_P hP List.perm_middle
  have hD := zPerm_D hD List.perm_middle
  refine lv_dstore (lv' := [(5, .double (zShare (chalksB B))), (0, .ref b), (1, .ref h), (2, .ref mm), (3, .ref ot), (4, .int (nZ i))]) hX hB dL_law_1006 hl (by decide) rfl (fun ls hl => ?_)
  refine lv_aload_n hX hB dL_law_1008 rfl (lv_at hl 3 rfl) ?_
  refine zCallDO (zRunV (As := []) X mv_X7_fullness (bm_fullness l D k mm t B S K T ys hG hm _) zw_663 (zPreVO (ws := zOc k ot g :: (u ++ ys)) hP hD hK zlp2 he2 rfl rfl) rfl hl (by first | exact Nat.le_of_ble_eq_true rfl | omega | (dsimp only [zRW, zRN, zRB]; omega)) dL_law_1009 ⟨rfl, rfl, ⟨(by first | exact Nat.le_of_ble_eq_true rfl | omega | (dsimp only [zRW, zRN, zRB]; omega)), (by first | exact Nat.le_of_ble_eq_true rfl | omega | (dsimp only [zRW, zRN, zRB]; omega))⟩, (by first | exact Nat.le_of_ble_eq_true rfl | omega | (dsimp only [zRW, zRN, zRB]; omega)), (by first | exact Nat.le_of_ble_eq_true rfl | omega | (dsimp only [zRW, zRN, zRB]; omega))⟩ rfl) hS hP hD hA zlp2 (fun r2 u2 H locs hpost hP hD hS => ?_)
  obtain ⟨rfl, hG3, hm3⟩ := hpost
  have hP := zPerm_P hP (List.perm_append_comm (l₂ := zOc k ot g :: u))
  have hD := zPerm_D hD (List.perm_append_comm (l₂ := zOc k ot g :: u))
  refine lv_dstore (lv' := [(7, .double (zShare (chalksB B))), (5, .double (zShare (chalksB B))), (0, .ref b), (1, .ref h), (2, .ref mm), (3, .ref ot), (4, .int (nZ i))]) hX hB dL_law_1012 hl (by decide) rfl (fun ls hl => ?_)
  refine lv_dload hX hB dL_law_1014 (lv_at hl 1 rfl) ?_
  refine lv_dload hX hB dL_law_1016 (lv_at hl 0 rfl) ?_
  refine zz_dcmp X dL_law_1018 ?_
  have hsh := (share_at (chalks_rng hG.1.2.2.2.2.1)).2.1
  refine zz_if_eq X (tgt := 1040) dL_law_1019 (by decide) (zcmp_rng _ _ _) (fun _ => ?_) (fun c1 => absurd hsh c1)
  refine lv_goto (tgt := 1057) hX hB dL_law_1040 (by decide) ?_
  exact KK H locs ls _ 0 g u u2 hG3 hx2 hm3 hP hD hS (lv_sub hl [2, 3, 4, 5, 6] rfl)

set_option maxHeartbeats 1000000 in
theorem lc_digest (C : lawC p l R s m args meth c D k b L sc A i cells slots) (KK : lawG p l e R s m args below meth c Q D k h mm ot b A i (cells + 10) (slots + 110) 1057) : lawG p l e R s m args below meth c Q D k h mm ot b A i cells slots 1043 := by
  intro H locs ls σ t g xs ys hG hx hm hP hD hS hl
  obtain ⟨X, hst, hxT, hxZ, hA, hC, hbl, hbA, hL, hi, hfr, hcs⟩ := C
  have hX := X.1; have hB := X.2.1; have hz := X.2.2.2.2.1; have hW := X.2.2.2.2.2.1; have hK := X.2.2.2.2.2.2.2
  obtain ⟨B, S, K, T⟩ := σ
  obtain ⟨fs, he⟩ := hx.recv
  obtain ⟨fs2, he2⟩ := hm.recv
  refine lv_aload_n hX hB dL_law_1043 rfl (lv_at hl 1 rfl) ?_
  refine zCallLO (zRunV (As := []) X mv_X6_digest (bx_digest l D k h B S K T xs hG hx _) zw_668 (zPreVO hP hD hK zlp3 he rfl rfl) rfl hl (by first | exact Nat.le_of_ble_eq_true rfl | omega | (dsimp only [zRW, zRN, zRB]; omega)) dL_law_1044 ⟨rfl, rfl, ⟨(by first | exact Nat.le_of_ble_eq_true rfl | omega | (dsimp only [zRW, zRN, zRB]; omega)), (by first | exact Nat.le_of_ble_eq_true rfl | omega | (dsimp only [zRW, zRN, zRB]; omega))⟩, (by first | exact Nat.le_of_ble_eq_true rfl | omega | (dsimp only [zRW, zRN, zRB]; omega)), (by first | exact Nat.le_of_ble_eq_true rfl | omega | (dsimp only [zRW, zRN, zRB]; omega))⟩ rfl) hS hP hD hA zlp3 (fun r u H locs hpost hP hD hS => ?_)
  obtain ⟨rfl, hx2⟩ := hpost
  have hP := zPerm_P hP List.perm_middle
  have hD := zPerm_D hD List.perm_middle
  refine lv_aload_n hX hB dL_law_1047 rfl (lv_at hl 2 rfl) ?_
  refine zCallLO (zRunV (As := []) X mv_X7_digest (bm_digest l D k mm t B S K T ys hG hm _) zw_703 (zPreVO (ws := zOc k ot g :: (u ++ ys)) hP hD hK zlp2 he2 rfl rfl) rfl hl (by first | exact Nat.le_of_ble_eq_true rfl | omega | (dsimp only [zRW, zRN, zRB]; omega)) dL_law_1048 ⟨rfl, rfl, ⟨(by first | exact Nat.le_of_ble_eq_true rfl | omega | (dsimp only [zRW, zRN, zRB]; omega)), (by first | exact Nat.le_of_ble_eq_true rfl | omega | (dsimp only [zRW, zRN, zRB]; omega))⟩, (by first | exact Nat.le_of_ble_eq_true rfl | omega | (dsimp only [zRW, zRN, zRB]; omega)), (by first | exact Nat.le_of_ble_eq_true rfl | omega | (dsimp only [zRW, zRN, zRB]; omega))⟩ rfl) hS hP hD hA zlp2 (fun r2 u2 H locs hpost hP hD hS => ?_)
  obtain ⟨rfl, hG3, hm3⟩ := hpost
  have hP := zPerm_P hP (List.perm_append_comm (l₂ := zOc k ot g :: u))
  have hD := zPerm_D hD (List.perm_append_comm (l₂ := zOc k ot g :: u))
  refine zz_lcmp0 X rfl dL_law_1051 ?_
  exact zz_if_eq X (tgt := 1057) dL_law_1052 (by decide) ⟨by decide, by decide⟩ (fun _ => KK H locs ls _ 0 g u u2 hG3 hx2 hm3 hP hD hS (lv_sub hl [0, 1, 2, 3, 4] rfl)) (fun c1 => absurd rfl c1)
end LCC
