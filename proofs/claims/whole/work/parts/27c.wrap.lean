theorem mw_push : zMW yL_push cL_push 5 (some .int) [(0, 10, 13, 13), (0, 10, 17, 15)] 4 := ⟨zw_82, zw_81, ⟨by decide +kernel, by decide +kernel, by decide +kernel⟩, zw_80⟩
set_option maxHeartbeats 4000000 in
set_option maxRecDepth 100000 in
theorem zwn_push (l : Launch) (D : va_G) (k : Nat → ClassId) (h ot : Nat) (a c : Int) (g : Nat → Int64) (xs : va_W) (ans : Int) (P : va_W → Prop) (he : ∃ fs, (h, Sum.inr (6, fs)) ∈ xs) (hM : ∀ sz, Met l yX6_push (zW yX6_push cX6_push 3 (some .int)) zRB (va_Pc [.ref h, .int (nZ a), .int (nZ c)] (zIn D k sz xs)) (va_Qi (fun (r : Int32) (u : va_W) => r = nZ ans ∧ P u) (fun u => zOut D (va_A xs sz) u) (va_A xs sz)) 10 110 (va_A xs sz)) : ∀ sz, Met l yL_push (zWW yL_push cL_push 5 (some .int) [(0, 10, 13, 13), (0, 10, 17, 15)]) zRW (va_Pc [.ref h, .int (nZ a), .int (nZ c), .ref ot] (zInT D k sz (zOc k ot g :: xs))) (va_Qi (zWR k ot 0 ans P) (fun u => zOut D (va_A (zOc k ot g :: xs) sz) u) (va_A (zOc k ot g :: xs) sz)) 10 110 (va_A (zOc k ot g :: xs) sz) := by
  intro sz
  refine zEnterW (Qf := fun A => va_Qi (zWR k ot 0 ans P) (fun u => zOut D A u) A) RL (by decide) rfl (Nat.le_of_ble_eq_true rfl) ?_
  intro p9 e9 s9 m9 be9 me9 c9 ls A X hxt hxT hxZ hP hD hS hA hAe hl
  have hX := X.1; have hB := X.2.1; have hz := X.2.2.2.2.1; have hW := X.2.2.2.2.2.1; have hK := X.2.2.2.2.2.2.2; clear hAe
  have hl : lv_has ls 5 [(0, .ref h), (1, .int (nZ a)), (2, .int (nZ c)), (3, .ref ot)] := hl
  have hpm : (zOc k ot g :: xs).Perm (xs ++ [zOc k ot g]) := (List.perm_append_singleton _ _).symm
  refine lv_aload_n hX hB dL_push_0 rfl (lv_at hl 3 rfl) ?_
  refine lv_iconst (v := nZ 0) hX hB dL_push_1 rfl ?_
  refine lv_aload_n hX hB dL_push_2 rfl (lv_at hl 0 rfl) ?_
  refine lv_iload_n hX hB dL_push_3 rfl (lv_at hl 1 rfl) ?_
  refine lv_iload_n hX hB dL_push_4 rfl (lv_at hl 2 rfl) ?_
  obtain ⟨fs, he⟩ := he
  refine zCallIO (zRunV (As := [.int (nZ a), .int (nZ c)]) X mv_X6_push (hM _) zw_85 (zPreVO hP hD hK hpm he rfl rfl) rfl hl (Nat.le_of_ble_eq_true rfl) dL_push_5 ⟨rfl, rfl, ⟨Nat.le_of_ble_eq_true rfl, Nat.le_of_ble_eq_true rfl⟩, Nat.le_of_ble_eq_true rfl, Nat.le_of_ble_eq_true rfl⟩ rfl) hS hP hD hA hpm (fun r u H locs hpost hP hD hS => ?_)
  have hP := zPerm_P hP (List.perm_append_singleton _ _)
  have hD := zPerm_D hD (List.perm_append_singleton _ _)
  refine lv_i2l (v := r.toInt64) hX hB dL_push_8 rfl ?_
  refine va_last hX hB hK.1 hP hD hS 0 3 rfl rfl (nZ_in (n := 1) (by decide) (by decide) (by decide)) dL_push_9 (fun H locs hP hD hS => ?_)
  refine lv_goto (tgt := 21) hX hB dL_push_10 (by decide) ?_
  refine lv_iconst (v := nZ 0) hX hB dL_push_21 rfl ?_
  exact zRetI (zOc k ot (vp_updL g (nZ 0).toNatClampNeg r.toInt64) :: u) X hP hD hS rfl ⟨_, u, rfl, rfl, fun _ => by rw [hpost.1]; rfl, hpost.2⟩ dL_push_22

set_option maxHeartbeats 4000000 in
set_option maxRecDepth 100000 in
theorem zwt_push_1 (l : Launch) (D : va_G) (k : Nat → ClassId) (h ot : Nat) (a c : Int) (g : Nat → Int64) (xs : va_W) (ans : Int) (P : va_W → Prop) (he : ∃ fs, (h, Sum.inr (6, fs)) ∈ xs) (hM : ∀ sz, vx_Met l yX6_push (zW yX6_push cX6_push 3 (some .int)) zRB (va_Pc [.ref h, .int (nZ a), .int (nZ c)] (zInT D k sz xs)) (va_Qi (fun (_ : Int32) (_ : Unit) => False) (fun (_ : Unit) (_ : State) => True) (va_A xs sz)) (zXC D zIO xs (va_A xs sz)) 10 110 (va_A xs sz)) (hQ : P xs) : ∀ sz, Met l yL_push (zWW yL_push cL_push 5 (some .int) [(0, 10, 13, 13), (0, 10, 17, 15)]) zRW (va_Pc [.ref h, .int (nZ a), .int (nZ c), .ref ot] (zInT D k sz (zOc k ot g :: xs))) (va_Qi (zWR k ot 1 ans P) (fun u => zOut D (va_A (zOc k ot g :: xs) sz) u) (va_A (zOc k ot g :: xs) sz)) 10 110 (va_A (zOc k ot g :: xs) sz) := by
  intro sz
  refine zEnterW (Qf := fun A => va_Qi (zWR k ot 1 ans P) (fun u => zOut D A u) A) RL (by decide) rfl (Nat.le_of_ble_eq_true rfl) ?_
  intro p9 e9 s9 m9 be9 me9 c9 ls A X hxt hxT hxZ hP hD hS hA hAe hl
  have hX := X.1; have hB := X.2.1; have hz := X.2.2.2.2.1; have hW := X.2.2.2.2.2.1; have hK := X.2.2.2.2.2.2.2; clear hAe
  have hl : lv_has ls 5 [(0, .ref h), (1, .int (nZ a)), (2, .int (nZ c)), (3, .ref ot)] := hl
  have hpm : (zOc k ot g :: xs).Perm (xs ++ [zOc k ot g]) := (List.perm_append_singleton _ _).symm
  refine lv_aload_n hX hB dL_push_0 rfl (lv_at hl 3 rfl) ?_
  refine lv_iconst (v := nZ 0) hX hB dL_push_1 rfl ?_
  refine lv_aload_n hX hB dL_push_2 rfl (lv_at hl 0 rfl) ?_
  refine lv_iload_n hX hB dL_push_3 rfl (lv_at hl 1 rfl) ?_
  refine lv_iload_n hX hB dL_push_4 rfl (lv_at hl 2 rfl) ?_
  obtain ⟨fs, he⟩ := he
  have hF := zO_F hpm hD hS hA
  have hpv : PreV s9 s9.heap yX6_push.cls h (va_Pc [.ref h, .int (nZ a), .int (nZ c)] (zInT D k s9.heap.size xs)) [.int (nZ a), .int (nZ c)] := zPreVOT hP hD hK hS hA hxT hxZ hpm he rfl rfl
  refine vx_calli (vx_runV (Ts := wsL_law) ⟨X.1, X.2.1, X.2.2.2.1, X.2.2.2.2.2.1, hz⟩ (hM _) ⟨callB_of 2 hz (zGoodL mv_X6_push.1) rfl rfl rfl (hz _ mv_X6_push.2.1) (hz _ zw_85) mv_X6_push.2.2.1 ⟨Nat.le_of_ble_eq_true rfl, Nat.le_of_ble_eq_true rfl⟩, hz _ mv_X6_push.2.2.2.1, hz _ mv_X6_push.2.2.2.2⟩ hpv rfl rfl hl.1 rfl (lv_room (Nat.le_of_ble_eq_true rfl)) dL_push_5 ⟨Nat.le_of_ble_eq_true rfl, Nat.le_of_ble_eq_true rfl⟩) hS (fun q _ h => hF q h) hF (fun q _ h => hF q h) ?_ (fun r u t H1 locs1 _ _ h => h.elim)
  intro E ce q9 u t H1 locs1 ht1 _ _ hb hsz hk hS1 hce hcv hcl
  obtain ⟨rfl, hP1, hD1⟩ := hb
  rw [ht1] at hP1
  obtain ⟨hP, hD⟩ := zJoinO hpm hP hD hk hF hP1 hD1
  have hP := zPerm_P hP (List.perm_append_singleton _ _)
  have hD := zPerm_D hD (List.perm_append_singleton _ _)
  refine vx_catch (own := RL) (name := zIO) hW [] (⟨0, 10, 13, 13⟩ : ExceptionTableEntry) [(⟨0, 10, 17, 15⟩ : ExceptionTableEntry)] hxt (fun z hz9 => by cases hz9) (by decide) (by decide) (hz _ zw_83) (hxT.use _ (List.mem_of_getElem? (i := 3) rfl)) hce hcv hcl ?_
  refine lv_astore (lv' := (4, .ref q9) :: [(0, .ref h), (1, .int (nZ a)), (2, .int (nZ c)), (3, .ref ot)]) hX hB dL_push_13 hl (by decide) rfl (fun ls hl => ?_)
  refine lv_iconst (v := nZ 1) hX hB dL_push_15 rfl ?_
  exact zRetI (zOc k ot g :: xs) X hP hD hS1 rfl ⟨g, xs, rfl, rfl, fun h9 => absurd h9 (by decide), hQ⟩ dL_push_16

set_option maxHeartbeats 4000000 in
set_option maxRecDepth 100000 in
theorem zwt_push_2 (l : Launch) (D : va_G) (k : Nat → ClassId) (h ot : Nat) (a c : Int) (g : Nat → Int64) (xs : va_W) (ans : Int) (P : va_W → Prop) (he : ∃ fs, (h, Sum.inr (6, fs)) ∈ xs) (hM : ∀ sz, vx_Met l yX6_push (zW yX6_push cX6_push 3 (some .int)) zRB (va_Pc [.ref h, .int (nZ a), .int (nZ c)] (zInT D k sz xs)) (va_Qi (fun (_ : Int32) (_ : Unit) => False) (fun (_ : Unit) (_ : State) => True) (va_A xs sz)) (zXC D zIA xs (va_A xs sz)) 10 110 (va_A xs sz)) (hQ : P xs) : ∀ sz, Met l yL_push (zWW yL_push cL_push 5 (some .int) [(0, 10, 13, 13), (0, 10, 17, 15)]) zRW (va_Pc [.ref h, .int (nZ a), .int (nZ c), .ref ot] (zInT D k sz (zOc k ot g :: xs))) (va_Qi (zWR k ot 2 ans P) (fun u => zOut D (va_A (zOc k ot g :: xs) sz) u) (va_A (zOc k ot g :: xs) sz)) 10 110 (va_A (zOc k ot g :: xs) sz) := by
  intro sz
  refine zEnterW (Qf := fun A => va_Qi (zWR k ot 2 ans P) (fun u => zOut D A u) A) RL (by decide) rfl (Nat.le_of_ble_eq_true rfl) ?_
  intro p9 e9 s9 m9 be9 me9 c9 ls A X hxt hxT hxZ hP hD hS hA hAe hl
  have hX := X.1; have hB := X.2.1; have hz := X.2.2.2.2.1; have hW := X.2.2.2.2.2.1; have hK := X.2.2.2.2.2.2.2; clear hAe
  have hl : lv_has ls 5 [(0, .ref h), (1, .int (nZ a)), (2, .int (nZ c)), (3, .ref ot)] := hl
  have hpm : (zOc k ot g :: xs).Perm (xs ++ [zOc k ot g]) := (List.perm_append_singleton _ _).symm
  refine lv_aload_n hX hB dL_push_0 rfl (lv_at hl 3 rfl) ?_
  refine lv_iconst (v := nZ 0) hX hB dL_push_1 rfl ?_
  refine lv_aload_n hX hB dL_push_2 rfl (lv_at hl 0 rfl) ?_
  refine lv_iload_n hX hB dL_push_3 rfl (lv_at hl 1 rfl) ?_
  refine lv_iload_n hX hB dL_push_4 rfl (lv_at hl 2 rfl) ?_
  obtain ⟨fs, he⟩ := he
  have hF := zO_F hpm hD hS hA
  have hpv : PreV s9 s9.heap yX6_push.cls h (va_Pc [.ref h, .int (nZ a), .int (nZ c)] (zInT D k s9.heap.size xs)) [.int (nZ a), .int (nZ c)] := zPreVOT hP hD hK hS hA hxT hxZ hpm he rfl rfl
  refine vx_calli (vx_runV (Ts := wsL_law) ⟨X.1, X.2.1, X.2.2.2.1, X.2.2.2.2.2.1, hz⟩ (hM _) ⟨callB_of 2 hz (zGoodL mv_X6_push.1) rfl rfl rfl (hz _ mv_X6_push.2.1) (hz _ zw_85) mv_X6_push.2.2.1 ⟨Nat.le_of_ble_eq_true rfl, Nat.le_of_ble_eq_true rfl⟩, hz _ mv_X6_push.2.2.2.1, hz _ mv_X6_push.2.2.2.2⟩ hpv rfl rfl hl.1 rfl (lv_room (Nat.le_of_ble_eq_true rfl)) dL_push_5 ⟨Nat.le_of_ble_eq_true rfl, Nat.le_of_ble_eq_true rfl⟩) hS (fun q _ h => hF q h) hF (fun q _ h => hF q h) ?_ (fun r u t H1 locs1 _ _ h => h.elim)
  intro E ce q9 u t H1 locs1 ht1 _ _ hb hsz hk hS1 hce hcv hcl
  obtain ⟨rfl, hP1, hD1⟩ := hb
  rw [ht1] at hP1
  obtain ⟨hP, hD⟩ := zJoinO hpm hP hD hk hF hP1 hD1
  have hP := zPerm_P hP (List.perm_append_singleton _ _)
  have hD := zPerm_D hD (List.perm_append_singleton _ _)
  refine vx_catch (own := RL) (name := zIA) hW [(⟨0, 10, 13, 13⟩ : ExceptionTableEntry)] (⟨0, 10, 17, 15⟩ : ExceptionTableEntry) [] hxt (fun z hz9 => by rcases List.mem_singleton.mp hz9 with rfl; exact Or.inr ⟨by decide, zIO, hz _ zw_83, hxT.2.2.1⟩) (by decide) (by decide) (hz _ zw_84) (hxT.use _ (List.mem_of_getElem? (i := 4) rfl)) hce hcv hcl ?_
  refine lv_astore (lv' := (4, .ref q9) :: [(0, .ref h), (1, .int (nZ a)), (2, .int (nZ c)), (3, .ref ot)]) hX hB dL_push_17 hl (by decide) rfl (fun ls hl => ?_)
  refine lv_iconst (v := nZ 2) hX hB dL_push_19 rfl ?_
  exact zRetI (zOc k ot g :: xs) X hP hD hS1 rfl ⟨g, xs, rfl, rfl, fun h9 => absurd h9 (by decide), hQ⟩ dL_push_20

theorem mw_set : zMW yL_set cL_set 4 (some .int) [(0, 9, 12, 15)] 3 := ⟨zw_342, zw_81, ⟨by decide +kernel, by decide +kernel, by decide +kernel⟩, zw_341⟩
set_option maxHeartbeats 4000000 in
set_option maxRecDepth 100000 in
theorem zwn_set (l : Launch) (D : va_G) (k : Nat → ClassId) (h ot : Nat) (a : Int) (g : Nat → Int64) (xs : va_W) (ans : Int) (P : va_W → Prop) (he : ∃ fs, (h, Sum.inr (6, fs)) ∈ xs) (hM : ∀ sz, Met l yX6_set (zW yX6_set cX6_set 3 (some .int)) zRB (va_Pc [.ref h, .int (nZ a)] (zIn D k sz xs)) (va_Qi (fun (r : Int32) (u : va_W) => r = nZ ans ∧ P u) (fun u => zOut D (va_A xs sz) u) (va_A xs sz)) 10 110 (va_A xs sz)) : ∀ sz, Met l yL_set (zWW yL_set cL_set 4 (some .int) [(0, 9, 12, 15)]) zRW (va_Pc [.ref h, .int (nZ a), .ref ot] (zInT D k sz (zOc k ot g :: xs))) (va_Qi (zWR k ot 0 ans P) (fun u => zOut D (va_A (zOc k ot g :: xs) sz) u) (va_A (zOc k ot g :: xs) sz)) 10 110 (va_A (zOc k ot g :: xs) sz) := by
  intro sz
  refine zEnterW (Qf := fun A => va_Qi (zWR k ot 0 ans P) (fun u => zOut D A u) A) RL (by decide) rfl (Nat.le_of_ble_eq_true rfl) ?_
  intro p9 e9 s9 m9 be9 me9 c9 ls A X hxt hxT hxZ hP hD hS hA hAe hl
  have hX := X.1; have hB := X.2.1; have hz := X.2.2.2.2.1; have hW := X.2.2.2.2.2.1; have hK := X.2.2.2.2.2.2.2; clear hAe
  have hl : lv_has ls 4 [(0, .ref h), (1, .int (nZ a)), (2, .ref ot)] := hl
  have hpm : (zOc k ot g :: xs).Perm (xs ++ [zOc k ot g]) := (List.perm_append_singleton _ _).symm
  refine lv_aload_n hX hB dL_set_0 rfl (lv_at hl 2 rfl) ?_
  refine lv_iconst (v := nZ 0) hX hB dL_set_1 rfl ?_
  refine lv_aload_n hX hB dL_set_2 rfl (lv_at hl 0 rfl) ?_
  refine lv_iload_n hX hB dL_set_3 rfl (lv_at hl 1 rfl) ?_
  obtain ⟨fs, he⟩ := he
  refine zCallIO (zRunV (As := [.int (nZ a)]) X mv_X6_set (hM _) zw_343 (zPreVO hP hD hK hpm he rfl rfl) rfl hl (Nat.le_of_ble_eq_true rfl) dL_set_4 ⟨rfl, rfl, ⟨Nat.le_of_ble_eq_true rfl, Nat.le_of_ble_eq_true rfl⟩, Nat.le_of_ble_eq_true rfl, Nat.le_of_ble_eq_true rfl⟩ rfl) hS hP hD hA hpm (fun r u H locs hpost hP hD hS => ?_)
  have hP := zPerm_P hP (List.perm_append_singleton _ _)
  have hD := zPerm_D hD (List.perm_append_singleton _ _)
  refine lv_i2l (v := r.toInt64) hX hB dL_set_7 rfl ?_
  refine va_last hX hB hK.1 hP hD hS 0 3 rfl rfl (nZ_in (n := 1) (by decide) (by decide) (by decide)) dL_set_8 (fun H locs hP hD hS => ?_)
  refine lv_goto (tgt := 15) hX hB dL_set_9 (by decide) ?_
  refine lv_iconst (v := nZ 0) hX hB dL_set_15 rfl ?_
  exact zRetI (zOc k ot (vp_updL g (nZ 0).toNatClampNeg r.toInt64) :: u) X hP hD hS rfl ⟨_, u, rfl, rfl, fun _ => by rw [hpost.1]; rfl, hpost.2⟩ dL_set_16

set_option maxHeartbeats 4000000 in
set_option maxRecDepth 100000 in
theorem zwt_set_1 (l : Launch) (D : va_G) (k : Nat → ClassId) (h ot : Nat) (a : Int) (g : Nat → Int64) (xs : va_W) (ans : Int) (P : va_W → Prop) (he : ∃ fs, (h, Sum.inr (6, fs)) ∈ xs) (hM : ∀ sz, vx_Met l yX6_set (zW yX6_set cX6_set 3 (some .int)) zRB (va_Pc [.ref h, .int (nZ a)] (zInT D k sz xs)) (va_Qi (fun (_ : Int32) (_ : Unit) => False) (fun (_ : Unit) (_ : State) => True) (va_A xs sz)) (zXC D zIA xs (va_A xs sz)) 10 110 (va_A xs sz)) (hQ : P xs) : ∀ sz, Met l yL_set (zWW yL_set cL_set 4 (some .int) [(0, 9, 12, 15)]) zRW (va_Pc [.ref h, .int (nZ a), .ref ot] (zInT D k sz (zOc k ot g :: xs))) (va_Qi (zWR k ot 1 ans P) (fun u => zOut D (va_A (zOc k ot g :: xs) sz) u) (va_A (zOc k ot g :: xs) sz)) 10 110 (va_A (zOc k ot g :: xs) sz) := by
  intro sz
  refine zEnterW (Qf := fun A => va_Qi (zWR k ot 1 ans P) (fun u => zOut D A u) A) RL (by decide) rfl (Nat.le_of_ble_eq_true rfl) ?_
  intro p9 e9 s9 m9 be9 me9 c9 ls A X hxt hxT hxZ hP hD hS hA hAe hl
  have hX := X.1; have hB := X.2.1; have hz := X.2.2.2.2.1; have hW := X.2.2.2.2.2.1; have hK := X.2.2.2.2.2.2.2; clear hAe
  have hl : lv_has ls 4 [(0, .ref h), (1, .int (nZ a)), (2, .ref ot)] := hl
  have hpm : (zOc k ot g :: xs).Perm (xs ++ [zOc k ot g]) := (List.perm_append_singleton _ _).symm
  refine lv_aload_n hX hB dL_set_0 rfl (lv_at hl 2 rfl) ?_
  refine lv_iconst (v := nZ 0) hX hB dL_set_1 rfl ?_
  refine lv_aload_n hX hB dL_set_2 rfl (lv_at hl 0 rfl) ?_
  refine lv_iload_n hX hB dL_set_3 rfl (lv_at hl 1 rfl) ?_
  obtain ⟨fs, he⟩ := he
  have hF := zO_F hpm hD hS hA
  have hpv : PreV s9 s9.heap yX6_set.cls h (va_Pc [.ref h, .int (nZ a)] (zInT D k s9.heap.size xs)) [.int (nZ a)] := zPreVOT hP hD hK hS hA hxT hxZ hpm he rfl rfl
  refine vx_calli (vx_runV (Ts := wsL_law) ⟨X.1, X.2.1, X.2.2.2.1, X.2.2.2.2.2.1, hz⟩ (hM _) ⟨callB_of 1 hz (zGoodL mv_X6_set.1) rfl rfl rfl (hz _ mv_X6_set.2.1) (hz _ zw_343) mv_X6_set.2.2.1 ⟨Nat.le_of_ble_eq_true rfl, Nat.le_of_ble_eq_true rfl⟩, hz _ mv_X6_set.2.2.2.1, hz _ mv_X6_set.2.2.2.2⟩ hpv rfl rfl hl.1 rfl (lv_room (Nat.le_of_ble_eq_true rfl)) dL_set_4 ⟨Nat.le_of_ble_eq_true rfl, Nat.le_of_ble_eq_true rfl⟩) hS (fun q _ h => hF q h) hF (fun q _ h => hF q h) ?_ (fun r u t H1 locs1 _ _ h => h.elim)
  intro E ce q9 u t H1 locs1 ht1 _ _ hb hsz hk hS1 hce hcv hcl
  obtain ⟨rfl, hP1, hD1⟩ := hb
  rw [ht1] at hP1
  obtain ⟨hP, hD⟩ := zJoinO hpm hP hD hk hF hP1 hD1
  have hP := zPerm_P hP (List.perm_append_singleton _ _)
  have hD := zPerm_D hD (List.perm_append_singleton _ _)
  refine vx_catch (own := RL) (name := zIA) hW [] (⟨0, 9, 12, 15⟩ : ExceptionTableEntry) [] hxt (fun z hz9 => by cases hz9) (by decide) (by decide) (hz _ zw_84) (hxT.use _ (List.mem_of_getElem? (i := 4) rfl)) hce hcv hcl ?_
  refine lv_astore_n (lv' := (3, .ref q9) :: [(0, .ref h), (1, .int (nZ a)), (2, .ref ot)]) hX hB dL_set_12 rfl hl (by decide) rfl (fun ls hl => ?_)
  refine lv_iconst (v := nZ 1) hX hB dL_set_13 rfl ?_
  exact zRetI (zOc k ot g :: xs) X hP hD hS1 rfl ⟨g, xs, rfl, rfl, fun h9 => absurd h9 (by decide), hQ⟩ dL_set_14

theorem mw_append : zMW yL_append cL_append 4 (some .int) [(0, 9, 12, 15), (0, 9, 15, 24)] 3 := ⟨zw_353, zw_81, ⟨by decide +kernel, by decide +kernel, by decide +kernel⟩, zw_352⟩
set_option maxHeartbeats 4000000 in
set_option maxRecDepth 100000 in
theorem zwn_append (l : Launch) (D : va_G) (k : Nat → ClassId) (h ot : Nat) (a : Int) (g : Nat → Int64) (xs : va_W) (ans : Int) (P : va_W → Prop) (he : ∃ fs, (h, Sum.inr (6, fs)) ∈ xs) (hM : ∀ sz, Met l yX6_append (zW yX6_append cX6_append 2 (some .int)) zRB (va_Pc [.ref h, .int (nZ a)] (zIn D k sz xs)) (va_Qi (fun (r : Int32) (u : va_W) => r = nZ ans ∧ P u) (fun u => zOut D (va_A xs sz) u) (va_A xs sz)) 10 110 (va_A xs sz)) : ∀ sz, Met l yL_append (zWW yL_append cL_append 4 (some .int) [(0, 9, 12, 15), (0, 9, 15, 24)]) zRW (va_Pc [.ref h, .int (nZ a), .ref ot] (zInT D k sz (zOc k ot g :: xs))) (va_Qi (zWR k ot 0 ans P) (fun u => zOut D (va_A (zOc k ot g :: xs) sz) u) (va_A (zOc k ot g :: xs) sz)) 10 110 (va_A (zOc k ot g :: xs) sz) := by
  intro sz
  refine zEnterW (Qf := fun A => va_Qi (zWR k ot 0 ans P) (fun u => zOut D A u) A) RL (by decide) rfl (Nat.le_of_ble_eq_true rfl) ?_
  intro p9 e9 s9 m9 be9 me9 c9 ls A X hxt hxT hxZ hP hD hS hA hAe hl
  have hX := X.1; have hB := X.2.1; have hz := X.2.2.2.2.1; have hW := X.2.2.2.2.2.1; have hK := X.2.2.2.2.2.2.2; clear hAe
  have hl : lv_has ls 4 [(0, .ref h), (1, .int (nZ a)), (2, .ref ot)] := hl
  have hpm : (zOc k ot g :: xs).Perm (xs ++ [zOc k ot g]) := (List.perm_append_singleton _ _).symm
  refine lv_aload_n hX hB dL_append_0 rfl (lv_at hl 2 rfl) ?_
  refine lv_iconst (v := nZ 0) hX hB dL_append_1 rfl ?_
  refine lv_aload_n hX hB dL_append_2 rfl (lv_at hl 0 rfl) ?_
  refine lv_iload_n hX hB dL_append_3 rfl (lv_at hl 1 rfl) ?_
  obtain ⟨fs, he⟩ := he
  refine zCallIO (zRunV (As := [.int (nZ a)]) X mv_X6_append (hM _) zw_355 (zPreVO hP hD hK hpm he rfl rfl) rfl hl (Nat.le_of_ble_eq_true rfl) dL_append_4 ⟨rfl, rfl, ⟨Nat.le_of_ble_eq_true rfl, Nat.le_of_ble_eq_true rfl⟩, Nat.le_of_ble_eq_true rfl, Nat.le_of_ble_eq_true rfl⟩ rfl) hS hP hD hA hpm (fun r u H locs hpost hP hD hS => ?_)
  have hP := zPerm_P hP (List.perm_append_singleton _ _)
  have hD := zPerm_D hD (List.perm_append_singleton _ _)
  refine lv_i2l (v := r.toInt64) hX hB dL_append_7 rfl ?_
  refine va_last hX hB hK.1 hP hD hS 0 3 rfl rfl (nZ_in (n := 1) (by decide) (by decide) (by decide)) dL_append_8 (fun H locs hP hD hS => ?_)
  refine lv_goto (tgt := 18) hX hB dL_append_9 (by decide) ?_
  refine lv_iconst (v := nZ 0) hX hB dL_append_18 rfl ?_
  exact zRetI (zOc k ot (vp_updL g (nZ 0).toNatClampNeg r.toInt64) :: u) X hP hD hS rfl ⟨_, u, rfl, rfl, fun _ => by rw [hpost.1]; rfl, hpost.2⟩ dL_append_19

set_option maxHeartbeats 4000000 in
set_option maxRecDepth 100000 in
theorem zwt_append_1 (l : Launch) (D : va_G) (k : Nat → ClassId) (h ot : Nat) (a : Int) (g : Nat → Int64) (xs : va_W) (ans : Int) (P : va_W → Prop) (he : ∃ fs, (h, Sum.inr (6, fs)) ∈ xs) (hM : ∀ sz, vx_Met l yX6_append (zW yX6_append cX6_append 2 (some .int)) zRB (va_Pc [.ref h, .int (nZ a)] (zInT D k sz xs)) (va_Qi (fun (_ : Int32) (_ : Unit) => False) (fun (_ : Unit) (_ : State) => True) (va_A xs sz)) (zXC D zIA xs (va_A xs sz)) 10 110 (va_A xs sz)) (hQ : P xs) : ∀ sz, Met l yL_append (zWW yL_append cL_append 4 (some .int) [(0, 9, 12, 15), (0, 9, 15, 24)]) zRW (va_Pc [.ref h, .int (nZ a), .ref ot] (zInT D k sz (zOc k ot g :: xs))) (va_Qi (zWR k ot 1 ans P) (fun u => zOut D (va_A (zOc k ot g :: xs) sz) u) (va_A (zOc k ot g :: xs) sz)) 10 110 (va_A (zOc k ot g :: xs) sz) := by
  intro sz
  refine zEnterW (Qf := fun A => va_Qi (zWR k ot 1 ans P) (fun u => zOut D A u) A) RL (by decide) rfl (Nat.le_of_ble_eq_true rfl) ?_
  intro p9 e9 s9 m9 be9 me9 c9 ls A X hxt hxT hxZ hP hD hS hA hAe hl
  have hX := X.1; have hB := X.2.1; have hz := X.2.2.2.2.1; have hW := X.2.2.2.2.2.1; have hK := X.2.2.2.2.2.2.2; clear hAe
  have hl : lv_has ls 4 [(0, .ref h), (1, .int (nZ a)), (2, .ref ot)] := hl
  have hpm : (zOc k ot g :: xs).Perm (xs ++ [zOc k ot g]) := (List.perm_append_singleton _ _).symm
  refine lv_aload_n hX hB dL_append_0 rfl (lv_at hl 2 rfl) ?_
  refine lv_iconst (v := nZ 0) hX hB dL_append_1 rfl ?_
  refine lv_aload_n hX hB dL_append_2 rfl (lv_at hl 0 rfl) ?_
  refine lv_iload_n hX hB dL_append_3 rfl (lv_at hl 1 rfl) ?_
  obtain ⟨fs, he⟩ := he
  have hF := zO_F hpm hD hS hA
  have hpv : PreV s9 s9.heap yX6_append.cls h (va_Pc [.ref h, .int (nZ a)] (zInT D k s9.heap.size xs)) [.int (nZ a)] := zPreVOT hP hD hK hS hA hxT hxZ hpm he rfl rfl
  refine vx_calli (vx_runV (Ts := wsL_law) ⟨X.1, X.2.1, X.2.2.2.1, X.2.2.2.2.2.1, hz⟩ (hM _) ⟨callB_of 1 hz (zGoodL mv_X6_append.1) rfl rfl rfl (hz _ mv_X6_append.2.1) (hz _ zw_355) mv_X6_append.2.2.1 ⟨Nat.le_of_ble_eq_true rfl, Nat.le_of_ble_eq_true rfl⟩, hz _ mv_X6_append.2.2.2.1, hz _ mv_X6_append.2.2.2.2⟩ hpv rfl rfl hl.1 rfl (lv_room (Nat.le_of_ble_eq_true rfl)) dL_append_4 ⟨Nat.le_of_ble_eq_true rfl, Nat.le_of_ble_eq_true rfl⟩) hS (fun q _ h => hF q h) hF (fun q _ h => hF q h) ?_ (fun r u t H1 locs1 _ _ h => h.elim)
  intro E ce q9 u t H1 locs1 ht1 _ _ hb hsz hk hS1 hce hcv hcl
  obtain ⟨rfl, hP1, hD1⟩ := hb
  rw [ht1] at hP1
  obtain ⟨hP, hD⟩ := zJoinO hpm hP hD hk hF hP1 hD1
  have hP := zPerm_P hP (List.perm_append_singleton _ _)
  have hD := zPerm_D hD (List.perm_append_singleton _ _)
  refine vx_catch (own := RL) (name := zIA) hW [] (⟨0, 9, 12, 15⟩ : ExceptionTableEntry) [(⟨0, 9, 15, 24⟩ : ExceptionTableEntry)] hxt (fun z hz9 => by cases hz9) (by decide) (by decide) (hz _ zw_84) (hxT.use _ (List.mem_of_getElem? (i := 4) rfl)) hce hcv hcl ?_
  refine lv_astore_n (lv' := (3, .ref q9) :: [(0, .ref h), (1, .int (nZ a)), (2, .ref ot)]) hX hB dL_append_12 rfl hl (by decide) rfl (fun ls hl => ?_)
  refine lv_iconst (v := nZ 1) hX hB dL_append_13 rfl ?_
  exact zRetI (zOc k ot g :: xs) X hP hD hS1 rfl ⟨g, xs, rfl, rfl, fun h9 => absurd h9 (by decide), hQ⟩ dL_append_14

set_option maxHeartbeats 4000000 in
set_option maxRecDepth 100000 in
theorem zwt_append_2 (l : Launch) (D : va_G) (k : Nat → ClassId) (h ot : Nat) (a : Int) (g : Nat → Int64) (xs : va_W) (ans : Int) (P : va_W → Prop) (he : ∃ fs, (h, Sum.inr (6, fs)) ∈ xs) (hM : ∀ sz, vx_Met l yX6_append (zW yX6_append cX6_append 2 (some .int)) zRB (va_Pc [.ref h, .int (nZ a)] (zInT D k sz xs)) (va_Qi (fun (_ : Int32) (_ : Unit) => False) (fun (_ : Unit) (_ : State) => True) (va_A xs sz)) (zXC D zIS xs (va_A xs sz)) 10 110 (va_A xs sz)) (hQ : P xs) : ∀ sz, Met l yL_append (zWW yL_append cL_append 4 (some .int) [(0, 9, 12, 15), (0, 9, 15, 24)]) zRW (va_Pc [.ref h, .int (nZ a), .ref ot] (zInT D k sz (zOc k ot g :: xs))) (va_Qi (zWR k ot 2 ans P) (fun u => zOut D (va_A (zOc k ot g :: xs) sz) u) (va_A (zOc k ot g :: xs) sz)) 10 110 (va_A (zOc k ot g :: xs) sz) := by
  intro sz
  refine zEnterW (Qf := fun A => va_Qi (zWR k ot 2 ans P) (fun u => zOut D A u) A) RL (by decide) rfl (Nat.le_of_ble_eq_true rfl) ?_
  intro p9 e9 s9 m9 be9 me9 c9 ls A X hxt hxT hxZ hP hD hS hA hAe hl
  have hX := X.1; have hB := X.2.1; have hz := X.2.2.2.2.1; have hW := X.2.2.2.2.2.1; have hK := X.2.2.2.2.2.2.2; clear hAe
  have hl : lv_has ls 4 [(0, .ref h), (1, .int (nZ a)), (2, .ref ot)] := hl
  have hpm : (zOc k ot g :: xs).Perm (xs ++ [zOc k ot g]) := (List.perm_append_singleton _ _).symm
  refine lv_aload_n hX hB dL_append_0 rfl (lv_at hl 2 rfl) ?_
  refine lv_iconst (v := nZ 0) hX hB dL_append_1 rfl ?_
  refine lv_aload_n hX hB dL_append_2 rfl (lv_at hl 0 rfl) ?_
  refine lv_iload_n hX hB dL_append_3 rfl (lv_at hl 1 rfl) ?_
  obtain ⟨fs, he⟩ := he
  have hF := zO_F hpm hD hS hA
  have hpv : PreV s9 s9.heap yX6_append.cls h (va_Pc [.ref h, .int (nZ a)] (zInT D k s9.heap.size xs)) [.int (nZ a)] := zPreVOT hP hD hK hS hA hxT hxZ hpm he rfl rfl
  refine vx_calli (vx_runV (Ts := wsL_law) ⟨X.1, X.2.1, X.2.2.2.1, X.2.2.2.2.2.1, hz⟩ (hM _) ⟨callB_of 1 hz (zGoodL mv_X6_append.1) rfl rfl rfl (hz _ mv_X6_append.2.1) (hz _ zw_355) mv_X6_append.2.2.1 ⟨Nat.le_of_ble_eq_true rfl, Nat.le_of_ble_eq_true rfl⟩, hz _ mv_X6_append.2.2.2.1, hz _ mv_X6_append.2.2.2.2⟩ hpv rfl rfl hl.1 rfl (lv_room (Nat.le_of_ble_eq_true rfl)) dL_append_4 ⟨Nat.le_of_ble_eq_true rfl, Nat.le_of_ble_eq_true rfl⟩) hS (fun q _ h => hF q h) hF (fun q _ h => hF q h) ?_ (fun r u t H1 locs1 _ _ h => h.elim)
  intro E ce q9 u t H1 locs1 ht1 _ _ hb hsz hk hS1 hce hcv hcl
  obtain ⟨rfl, hP1, hD1⟩ := hb
  rw [ht1] at hP1
  obtain ⟨hP, hD⟩ := zJoinO hpm hP hD hk hF hP1 hD1
  have hP := zPerm_P hP (List.perm_append_singleton _ _)
  have hD := zPerm_D hD (List.perm_append_singleton _ _)
  refine vx_catch (own := RL) (name := zIS) hW [(⟨0, 9, 12, 15⟩ : ExceptionTableEntry)] (⟨0, 9, 15, 24⟩ : ExceptionTableEntry) [] hxt (fun z hz9 => by rcases List.mem_singleton.mp hz9 with rfl; exact Or.inr ⟨by decide, zIA, hz _ zw_84, hxT.2.2.2⟩) (by decide) (by decide) (hz _ zw_354) (hxT.use _ (List.mem_of_getElem? (i := 5) rfl)) hce hcv hcl ?_
  refine lv_astore_n (lv' := (3, .ref q9) :: [(0, .ref h), (1, .int (nZ a)), (2, .ref ot)]) hX hB dL_append_15 rfl hl (by decide) rfl (fun ls hl => ?_)
  refine lv_iconst (v := nZ 2) hX hB dL_append_16 rfl ?_
  exact zRetI (zOc k ot g :: xs) X hP hD hS1 rfl ⟨g, xs, rfl, rfl, fun h9 => absurd h9 (by decide), hQ⟩ dL_append_17

theorem mw_lay : zMW yL_lay cL_lay 3 (some .int) [(0, 8, 11, 15)] 2 := ⟨zw_426, zw_81, ⟨by decide +kernel, by decide +kernel, by decide +kernel⟩, zw_425⟩
set_option maxHeartbeats 4000000 in
set_option maxRecDepth 100000 in
theorem zwn_lay (l : Launch) (D : va_G) (k : Nat → ClassId) (h ot : Nat) (g : Nat → Int64) (xs : va_W) (ans : Int) (P : va_W → Prop) (he : ∃ fs, (h, Sum.inr (6, fs)) ∈ xs) (hM : ∀ sz, Met l yX6_lay (zW yX6_lay cX6_lay 2 (some .int)) zRB (va_Pc [.ref h] (zIn D k sz xs)) (va_Qi (fun (r : Int32) (u : va_W) => r = nZ ans ∧ P u) (fun u => zOut D (va_A xs sz) u) (va_A xs sz)) 10 110 (va_A xs sz)) : ∀ sz, Met l yL_lay (zWW yL_lay cL_lay 3 (some .int) [(0, 8, 11, 15)]) zRW (va_Pc [.ref h, .ref ot] (zInT D k sz (zOc k ot g :: xs))) (va_Qi (zWR k ot 0 ans P) (fun u => zOut D (va_A (zOc k ot g :: xs) sz) u) (va_A (zOc k ot g :: xs) sz)) 10 110 (va_A (zOc k ot g :: xs) sz) := by
  intro sz
  refine zEnterW (Qf := fun A => va_Qi (zWR k ot 0 ans P) (fun u => zOut D A u) A) RL (by decide) rfl (Nat.le_of_ble_eq_true rfl) ?_
  intro p9 e9 s9 m9 be9 me9 c9 ls A X hxt hxT hxZ hP hD hS hA hAe hl
  have hX := X.1; have hB := X.2.1; have hz := X.2.2.2.2.1; have hW := X.2.2.2.2.2.1; have hK := X.2.2.2.2.2.2.2; clear hAe
  have hl : lv_has ls 3 [(0, .ref h), (1, .ref ot)] := hl
  have hpm : (zOc k ot g :: xs).Perm (xs ++ [zOc k ot g]) := (List.perm_append_singleton _ _).symm
  refine lv_aload_n hX hB dL_lay_0 rfl (lv_at hl 1 rfl) ?_
  refine lv_iconst (v := nZ 0) hX hB dL_lay_1 rfl ?_
  refine lv_aload_n hX hB dL_lay_2 rfl (lv_at hl 0 rfl) ?_
  obtain ⟨fs, he⟩ := he
  refine zCallIO (zRunV (As := []) X mv_X6_lay (hM _) zw_427 (zPreVO hP hD hK hpm he rfl rfl) rfl hl (Nat.le_of_ble_eq_true rfl) dL_lay_3 ⟨rfl, rfl, ⟨Nat.le_of_ble_eq_true rfl, Nat.le_of_ble_eq_true rfl⟩, Nat.le_of_ble_eq_true rfl, Nat.le_of_ble_eq_true rfl⟩ rfl) hS hP hD hA hpm (fun r u H locs hpost hP hD hS => ?_)
  have hP := zPerm_P hP (List.perm_append_singleton _ _)
  have hD := zPerm_D hD (List.perm_append_singleton _ _)
  refine lv_i2l (v := r.toInt64) hX hB dL_lay_6 rfl ?_
  refine va_last hX hB hK.1 hP hD hS 0 3 rfl rfl (nZ_in (n := 1) (by decide) (by decide) (by decide)) dL_lay_7 (fun H locs hP hD hS => ?_)
  refine lv_goto (tgt := 14) hX hB dL_lay_8 (by decide) ?_
  refine lv_iconst (v := nZ 0) hX hB dL_lay_14 rfl ?_
  exact zRetI (zOc k ot (vp_updL g (nZ 0).toNatClampNeg r.toInt64) :: u) X hP hD hS rfl ⟨_, u, rfl, rfl, fun _ => by rw [hpost.1]; rfl, hpost.2⟩ dL_lay_15

set_option maxHeartbeats 4000000 in
set_option maxRecDepth 100000 in
theorem zwt_lay_1 (l : Launch) (D : va_G) (k : Nat → ClassId) (h ot : Nat) (g : Nat → Int64) (xs : va_W) (ans : Int) (P : va_W → Prop) (he : ∃ fs, (h, Sum.inr (6, fs)) ∈ xs) (hM : ∀ sz, vx_Met l yX6_lay (zW yX6_lay cX6_lay 2 (some .int)) zRB (va_Pc [.ref h] (zInT D k sz xs)) (va_Qi (fun (_ : Int32) (_ : Unit) => False) (fun (_ : Unit) (_ : State) => True) (va_A xs sz)) (zXC D zIA xs (va_A xs sz)) 10 110 (va_A xs sz)) (hQ : P xs) : ∀ sz, Met l yL_lay (zWW yL_lay cL_lay 3 (some .int) [(0, 8, 11, 15)]) zRW (va_Pc [.ref h, .ref ot] (zInT D k sz (zOc k ot g :: xs))) (va_Qi (zWR k ot 1 ans P) (fun u => zOut D (va_A (zOc k ot g :: xs) sz) u) (va_A (zOc k ot g :: xs) sz)) 10 110 (va_A (zOc k ot g :: xs) sz) := by
  intro sz
  refine zEnterW (Qf := fun A => va_Qi (zWR k ot 1 ans P) (fun u => zOut D A u) A) RL (by decide) rfl (Nat.le_of_ble_eq_true rfl) ?_
  intro p9 e9 s9 m9 be9 me9 c9 ls A X hxt hxT hxZ hP hD hS hA hAe hl
  have hX := X.1; have hB := X.2.1; have hz := X.2.2.2.2.1; have hW := X.2.2.2.2.2.1; have hK := X.2.2.2.2.2.2.2; clear hAe
  have hl : lv_has ls 3 [(0, .ref h), (1, .ref ot)] := hl
  have hpm : (zOc k ot g :: xs).Perm (xs ++ [zOc k ot g]) := (List.perm_append_singleton _ _).symm
  refine lv_aload_n hX hB dL_lay_0 rfl (lv_at hl 1 rfl) ?_
  refine lv_iconst (v := nZ 0) hX hB dL_lay_1 rfl ?_
  refine lv_aload_n hX hB dL_lay_2 rfl (lv_at hl 0 rfl) ?_
  obtain ⟨fs, he⟩ := he
  have hF := zO_F hpm hD hS hA
  have hpv : PreV s9 s9.heap yX6_lay.cls h (va_Pc [.ref h] (zInT D k s9.heap.size xs)) [] := zPreVOT hP hD hK hS hA hxT hxZ hpm he rfl rfl
  refine vx_calli (vx_runV (Ts := wsL_law) ⟨X.1, X.2.1, X.2.2.2.1, X.2.2.2.2.2.1, hz⟩ (hM _) ⟨callB_of 0 hz (zGoodL mv_X6_lay.1) rfl rfl rfl (hz _ mv_X6_lay.2.1) (hz _ zw_427) mv_X6_lay.2.2.1 ⟨Nat.le_of_ble_eq_true rfl, Nat.le_of_ble_eq_true rfl⟩, hz _ mv_X6_lay.2.2.2.1, hz _ mv_X6_lay.2.2.2.2⟩ hpv rfl rfl hl.1 rfl (lv_room (Nat.le_of_ble_eq_true rfl)) dL_lay_3 ⟨Nat.le_of_ble_eq_true rfl, Nat.le_of_ble_eq_true rfl⟩) hS (fun q _ h => hF q h) hF (fun q _ h => hF q h) ?_ (fun r u t H1 locs1 _ _ h => h.elim)
  intro E ce q9 u t H1 locs1 ht1 _ _ hb hsz hk hS1 hce hcv hcl
  obtain ⟨rfl, hP1, hD1⟩ := hb
  rw [ht1] at hP1
  obtain ⟨hP, hD⟩ := zJoinO hpm hP hD hk hF hP1 hD1
  have hP := zPerm_P hP (List.perm_append_singleton _ _)
  have hD := zPerm_D hD (List.perm_append_singleton _ _)
  refine vx_catch (own := RL) (name := zIA) hW [] (⟨0, 8, 11, 15⟩ : ExceptionTableEntry) [] hxt (fun z hz9 => by cases hz9) (by decide) (by decide) (hz _ zw_84) (hxT.use _ (List.mem_of_getElem? (i := 4) rfl)) hce hcv hcl ?_
  refine lv_astore_n (lv' := (2, .ref q9) :: [(0, .ref h), (1, .ref ot)]) hX hB dL_lay_11 rfl hl (by decide) rfl (fun ls hl => ?_)
  refine lv_iconst (v := nZ 1) hX hB dL_lay_12 rfl ?_
  exact zRetI (zOc k ot g :: xs) X hP hD hS1 rfl ⟨g, xs, rfl, rfl, fun h9 => absurd h9 (by decide), hQ⟩ dL_lay_13

theorem mw_keep : zMW yL_keep cL_keep 4 (some .int) [(0, 9, 12, 15)] 3 := ⟨zw_461, zw_81, ⟨by decide +kernel, by decide +kernel, by decide +kernel⟩, zw_460⟩
set_option maxHeartbeats 4000000 in
set_option maxRecDepth 100000 in
theorem zwn_keep (l : Launch) (D : va_G) (k : Nat → ClassId) (h ot : Nat) (a : Int) (g : Nat → Int64) (xs : va_W) (ans : Int) (P : va_W → Prop) (he : ∃ fs, (h, Sum.inr (6, fs)) ∈ xs) (hM : ∀ sz, Met l yX6_keep (zW yX6_keep cX6_keep 3 (some .int)) zRB (va_Pc [.ref h, .int (nZ a)] (zIn D k sz xs)) (va_Qi (fun (r : Int32) (u : va_W) => r = nZ ans ∧ P u) (fun u => zOut D (va_A xs sz) u) (va_A xs sz)) 10 110 (va_A xs sz)) : ∀ sz, Met l yL_keep (zWW yL_keep cL_keep 4 (some .int) [(0, 9, 12, 15)]) zRW (va_Pc [.ref h, .int (nZ a), .ref ot] (zInT D k sz (zOc k ot g :: xs))) (va_Qi (zWR k ot 0 ans P) (fun u => zOut D (va_A (zOc k ot g :: xs) sz) u) (va_A (zOc k ot g :: xs) sz)) 10 110 (va_A (zOc k ot g :: xs) sz) := by
  intro sz
  refine zEnterW (Qf := fun A => va_Qi (zWR k ot 0 ans P) (fun u => zOut D A u) A) RL (by decide) rfl (Nat.le_of_ble_eq_true rfl) ?_
  intro p9 e9 s9 m9 be9 me9 c9 ls A X hxt hxT hxZ hP hD hS hA hAe hl
  have hX := X.1; have hB := X.2.1; have hz := X.2.2.2.2.1; have hW := X.2.2.2.2.2.1; have hK := X.2.2.2.2.2.2.2; clear hAe
  have hl : lv_has ls 4 [(0, .ref h), (1, .int (nZ a)), (2, .ref ot)] := hl
  have hpm : (zOc k ot g :: xs).Perm (xs ++ [zOc k ot g]) := (List.perm_append_singleton _ _).symm
  refine lv_aload_n hX hB dL_keep_0 rfl (lv_at hl 2 rfl) ?_
  refine lv_iconst (v := nZ 0) hX hB dL_keep_1 rfl ?_
  refine lv_aload_n hX hB dL_keep_2 rfl (lv_at hl 0 rfl) ?_
  refine lv_iload_n hX hB dL_keep_3 rfl (lv_at hl 1 rfl) ?_
  obtain ⟨fs, he⟩ := he
  refine zCallIO (zRunV (As := [.int (nZ a)]) X mv_X6_keep (hM _) zw_462 (zPreVO hP hD hK hpm he rfl rfl) rfl hl (Nat.le_of_ble_eq_true rfl) dL_keep_4 ⟨rfl, rfl, ⟨Nat.le_of_ble_eq_true rfl, Nat.le_of_ble_eq_true rfl⟩, Nat.le_of_ble_eq_true rfl, Nat.le_of_ble_eq_true rfl⟩ rfl) hS hP hD hA hpm (fun r u H locs hpost hP hD hS => ?_)
  have hP := zPerm_P hP (List.perm_append_singleton _ _)
  have hD := zPerm_D hD (List.perm_append_singleton _ _)
  refine lv_i2l (v := r.toInt64) hX hB dL_keep_7 rfl ?_
  refine va_last hX hB hK.1 hP hD hS 0 3 rfl rfl (nZ_in (n := 1) (by decide) (by decide) (by decide)) dL_keep_8 (fun H locs hP hD hS => ?_)
  refine lv_goto (tgt := 15) hX hB dL_keep_9 (by decide) ?_
  refine lv_iconst (v := nZ 0) hX hB dL_keep_15 rfl ?_
  exact zRetI (zOc k ot (vp_updL g (nZ 0).toNatClampNeg r.toInt64) :: u) X hP hD hS rfl ⟨_, u, rfl, rfl, fun _ => by rw [hpost.1]; rfl, hpost.2⟩ dL_keep_16

set_option maxHeartbeats 4000000 in
set_option maxRecDepth 100000 in
theorem zwt_keep_1 (l : Launch) (D : va_G) (k : Nat → ClassId) (h ot : Nat) (a : Int) (g : Nat → Int64) (xs : va_W) (ans : Int) (P : va_W → Prop) (he : ∃ fs, (h, Sum.inr (6, fs)) ∈ xs) (hM : ∀ sz, vx_Met l yX6_keep (zW yX6_keep cX6_keep 3 (some .int)) zRB (va_Pc [.ref h, .int (nZ a)] (zInT D k sz xs)) (va_Qi (fun (_ : Int32) (_ : Unit) => False) (fun (_ : Unit) (_ : State) => True) (va_A xs sz)) (zXC D zIA xs (va_A xs sz)) 10 110 (va_A xs sz)) (hQ : P xs) : ∀ sz, Met l yL_keep (zWW yL_keep cL_keep 4 (some .int) [(0, 9, 12, 15)]) zRW (va_Pc [.ref h, .int (nZ a), .ref ot] (zInT D k sz (zOc k ot g :: xs))) (va_Qi (zWR k ot 1 ans P) (fun u => zOut D (va_A (zOc k ot g :: xs) sz) u) (va_A (zOc k ot g :: xs) sz)) 10 110 (va_A (zOc k ot g :: xs) sz) := by
  intro sz
  refine zEnterW (Qf := fun A => va_Qi (zWR k ot 1 ans P) (fun u => zOut D A u) A) RL (by decide) rfl (Nat.le_of_ble_eq_true rfl) ?_
  intro p9 e9 s9 m9 be9 me9 c9 ls A X hxt hxT hxZ hP hD hS hA hAe hl
  have hX := X.1; have hB := X.2.1; have hz := X.2.2.2.2.1; have hW := X.2.2.2.2.2.1; have hK := X.2.2.2.2.2.2.2; clear hAe
  have hl : lv_has ls 4 [(0, .ref h), (1, .int (nZ a)), (2, .ref ot)] := hl
  have hpm : (zOc k ot g :: xs).Perm (xs ++ [zOc k ot g]) := (List.perm_append_singleton _ _).symm
  refine lv_aload_n hX hB dL_keep_0 rfl (lv_at hl 2 rfl) ?_
  refine lv_iconst (v := nZ 0) hX hB dL_keep_1 rfl ?_
  refine lv_aload_n hX hB dL_keep_2 rfl (lv_at hl 0 rfl) ?_
  refine lv_iload_n hX hB dL_keep_3 rfl (lv_at hl 1 rfl) ?_
  obtain ⟨fs, he⟩ := he
  have hF := zO_F hpm hD hS hA
  have hpv : PreV s9 s9.heap yX6_keep.cls h (va_Pc [.ref h, .int (nZ a)] (zInT D k s9.heap.size xs)) [.int (nZ a)] := zPreVOT hP hD hK hS hA hxT hxZ hpm he rfl rfl
  refine vx_calli (vx_runV (Ts := wsL_law) ⟨X.1, X.2.1, X.2.2.2.1, X.2.2.2.2.2.1, hz⟩ (hM _) ⟨callB_of 1 hz (zGoodL mv_X6_keep.1) rfl rfl rfl (hz _ mv_X6_keep.2.1) (hz _ zw_462) mv_X6_keep.2.2.1 ⟨Nat.le_of_ble_eq_true rfl, Nat.le_of_ble_eq_true rfl⟩, hz _ mv_X6_keep.2.2.2.1, hz _ mv_X6_keep.2.2.2.2⟩ hpv rfl rfl hl.1 rfl (lv_room (Nat.le_of_ble_eq_true rfl)) dL_keep_4 ⟨Nat.le_of_ble_eq_true rfl, Nat.le_of_ble_eq_true rfl⟩) hS (fun q _ h => hF q h) hF (fun q _ h => hF q h) ?_ (fun r u t H1 locs1 _ _ h => h.elim)
  intro E ce q9 u t H1 locs1 ht1 _ _ hb hsz hk hS1 hce hcv hcl
  obtain ⟨rfl, hP1, hD1⟩ := hb
  rw [ht1] at hP1
  obtain ⟨hP, hD⟩ := zJoinO hpm hP hD hk hF hP1 hD1
  have hP := zPerm_P hP (List.perm_append_singleton _ _)
  have hD := zPerm_D hD (List.perm_append_singleton _ _)
  refine vx_catch (own := RL) (name := zIA) hW [] (⟨0, 9, 12, 15⟩ : ExceptionTableEntry) [] hxt (fun z hz9 => by cases hz9) (by decide) (by decide) (hz _ zw_84) (hxT.use _ (List.mem_of_getElem? (i := 4) rfl)) hce hcv hcl ?_
  refine lv_astore_n (lv' := (3, .ref q9) :: [(0, .ref h), (1, .int (nZ a)), (2, .ref ot)]) hX hB dL_keep_12 rfl hl (by decide) rfl (fun ls hl => ?_)
  refine lv_iconst (v := nZ 1) hX hB dL_keep_13 rfl ?_
  exact zRetI (zOc k ot g :: xs) X hP hD hS1 rfl ⟨g, xs, rfl, rfl, fun h9 => absurd h9 (by decide), hQ⟩ dL_keep_14

theorem mw_goBack : zMW yL_goBack cL_goBack 4 (some .int) [(0, 9, 12, 15), (0, 9, 15, 24)] 3 := ⟨zw_486, zw_81, ⟨by decide +kernel, by decide +kernel, by decide +kernel⟩, zw_485⟩
set_option maxHeartbeats 4000000 in
set_option maxRecDepth 100000 in
theorem zwn_goBack (l : Launch) (D : va_G) (k : Nat → ClassId) (h ot : Nat) (a : Int) (g : Nat → Int64) (xs : va_W) (ans : Int) (P : va_W → Prop) (he : ∃ fs, (h, Sum.inr (6, fs)) ∈ xs) (hM : ∀ sz, Met l yX6_goBack (zW yX6_goBack cX6_goBack 3 (some .int)) zRB (va_Pc [.ref h, .int (nZ a)] (zIn D k sz xs)) (va_Qi (fun (r : Int32) (u : va_W) => r = nZ ans ∧ P u) (fun u => zOut D (va_A xs sz) u) (va_A xs sz)) 10 110 (va_A xs sz)) : ∀ sz, Met l yL_goBack (zWW yL_goBack cL_goBack 4 (some .int) [(0, 9, 12, 15), (0, 9, 15, 24)]) zRW (va_Pc [.ref h, .int (nZ a), .ref ot] (zInT D k sz (zOc k ot g :: xs))) (va_Qi (zWR k ot 0 ans P) (fun u => zOut D (va_A (zOc k ot g :: xs) sz) u) (va_A (zOc k ot g :: xs) sz)) 10 110 (va_A (zOc k ot g :: xs) sz) := by
  intro sz
  refine zEnterW (Qf := fun A => va_Qi (zWR k ot 0 ans P) (fun u => zOut D A u) A) RL (by decide) rfl (Nat.le_of_ble_eq_true rfl) ?_
  intro p9 e9 s9 m9 be9 me9 c9 ls A X hxt hxT hxZ hP hD hS hA hAe hl
  have hX := X.1; have hB := X.2.1; have hz := X.2.2.2.2.1; have hW := X.2.2.2.2.2.1; have hK := X.2.2.2.2.2.2.2; clear hAe
  have hl : lv_has ls 4 [(0, .ref h), (1, .int (nZ a)), (2, .ref ot)] := hl
  have hpm : (zOc k ot g :: xs).Perm (xs ++ [zOc k ot g]) := (List.perm_append_singleton _ _).symm
  refine lv_aload_n hX hB dL_goBack_0 rfl (lv_at hl 2 rfl) ?_
  refine lv_iconst (v := nZ 0) hX hB dL_goBack_1 rfl ?_
  refine lv_aload_n hX hB dL_goBack_2 rfl (lv_at hl 0 rfl) ?_
  refine lv_iload_n hX hB dL_goBack_3 rfl (lv_at hl 1 rfl) ?_
  obtain ⟨fs, he⟩ := he
  refine zCallIO (zRunV (As := [.int (nZ a)]) X mv_X6_goBack (hM _) zw_487 (zPreVO hP hD hK hpm he rfl rfl) rfl hl (Nat.le_of_ble_eq_true rfl) dL_goBack_4 ⟨rfl, rfl, ⟨Nat.le_of_ble_eq_true rfl, Nat.le_of_ble_eq_true rfl⟩, Nat.le_of_ble_eq_true rfl, Nat.le_of_ble_eq_true rfl⟩ rfl) hS hP hD hA hpm (fun r u H locs hpost hP hD hS => ?_)
  have hP := zPerm_P hP (List.perm_append_singleton _ _)
  have hD := zPerm_D hD (List.perm_append_singleton _ _)
  refine lv_i2l (v := r.toInt64) hX hB dL_goBack_7 rfl ?_
  refine va_last hX hB hK.1 hP hD hS 0 3 rfl rfl (nZ_in (n := 1) (by decide) (by decide) (by decide)) dL_goBack_8 (fun H locs hP hD hS => ?_)
  refine lv_goto (tgt := 18) hX hB dL_goBack_9 (by decide) ?_
  refine lv_iconst (v := nZ 0) hX hB dL_goBack_18 rfl ?_
  exact zRetI (zOc k ot (vp_updL g (nZ 0).toNatClampNeg r.toInt64) :: u) X hP hD hS rfl ⟨_, u, rfl, rfl, fun _ => by rw [hpost.1]; rfl, hpost.2⟩ dL_goBack_19

set_option maxHeartbeats 4000000 in
set_option maxRecDepth 100000 in
theorem zwt_goBack_1 (l : Launch) (D : va_G) (k : Nat → ClassId) (h ot : Nat) (a : Int) (g : Nat → Int64) (xs : va_W) (ans : Int) (P : va_W → Prop) (he : ∃ fs, (h, Sum.inr (6, fs)) ∈ xs) (hM : ∀ sz, vx_Met l yX6_goBack (zW yX6_goBack cX6_goBack 3 (some .int)) zRB (va_Pc [.ref h, .int (nZ a)] (zInT D k sz xs)) (va_Qi (fun (_ : Int32) (_ : Unit) => False) (fun (_ : Unit) (_ : State) => True) (va_A xs sz)) (zXC D zIA xs (va_A xs sz)) 10 110 (va_A xs sz)) (hQ : P xs) : ∀ sz, Met l yL_goBack (zWW yL_goBack cL_goBack 4 (some .int) [(0, 9, 12, 15), (0, 9, 15, 24)]) zRW (va_Pc [.ref h, .int (nZ a), .ref ot] (zInT D k sz (zOc k ot g :: xs))) (va_Qi (zWR k ot 1 ans P) (fun u => zOut D (va_A (zOc k ot g :: xs) sz) u) (va_A (zOc k ot g :: xs) sz)) 10 110 (va_A (zOc k ot g :: xs) sz) := by
  intro sz
  refine zEnterW (Qf := fun A => va_Qi (zWR k ot 1 ans P) (fun u => zOut D A u) A) RL (by decide) rfl (Nat.le_of_ble_eq_true rfl) ?_
  intro p9 e9 s9 m9 be9 me9 c9 ls A X hxt hxT hxZ hP hD hS hA hAe hl
  have hX := X.1; have hB := X.2.1; have hz := X.2.2.2.2.1; have hW := X.2.2.2.2.2.1; have hK := X.2.2.2.2.2.2.2; clear hAe
  have hl : lv_has ls 4 [(0, .ref h), (1, .int (nZ a)), (2, .ref ot)] := hl
  have hpm : (zOc k ot g :: xs).Perm (xs ++ [zOc k ot g]) := (List.perm_append_singleton _ _).symm
  refine lv_aload_n hX hB dL_goBack_0 rfl (lv_at hl 2 rfl) ?_
  refine lv_iconst (v := nZ 0) hX hB dL_goBack_1 rfl ?_
  refine lv_aload_n hX hB dL_goBack_2 rfl (lv_at hl 0 rfl) ?_
  refine lv_iload_n hX hB dL_goBack_3 rfl (lv_at hl 1 rfl) ?_
  obtain ⟨fs, he⟩ := he
  have hF := zO_F hpm hD hS hA
  have hpv : PreV s9 s9.heap yX6_goBack.cls h (va_Pc [.ref h, .int (nZ a)] (zInT D k s9.heap.size xs)) [.int (nZ a)] := zPreVOT hP hD hK hS hA hxT hxZ hpm he rfl rfl
  refine vx_calli (vx_runV (Ts := wsL_law) ⟨X.1, X.2.1, X.2.2.2.1, X.2.2.2.2.2.1, hz⟩ (hM _) ⟨callB_of 1 hz (zGoodL mv_X6_goBack.1) rfl rfl rfl (hz _ mv_X6_goBack.2.1) (hz _ zw_487) mv_X6_goBack.2.2.1 ⟨Nat.le_of_ble_eq_true rfl, Nat.le_of_ble_eq_true rfl⟩, hz _ mv_X6_goBack.2.2.2.1, hz _ mv_X6_goBack.2.2.2.2⟩ hpv rfl rfl hl.1 rfl (lv_room (Nat.le_of_ble_eq_true rfl)) dL_goBack_4 ⟨Nat.le_of_ble_eq_true rfl, Nat.le_of_ble_eq_true rfl⟩) hS (fun q _ h => hF q h) hF (fun q _ h => hF q h) ?_ (fun r u t H1 locs1 _ _ h => h.elim)
  intro E ce q9 u t H1 locs1 ht1 _ _ hb hsz hk hS1 hce hcv hcl
  obtain ⟨rfl, hP1, hD1⟩ := hb
  rw [ht1] at hP1
  obtain ⟨hP, hD⟩ := zJoinO hpm hP hD hk hF hP1 hD1
  have hP := zPerm_P hP (List.perm_append_singleton _ _)
  have hD := zPerm_D hD (List.perm_append_singleton _ _)
  refine vx_catch (own := RL) (name := zIA) hW [] (⟨0, 9, 12, 15⟩ : ExceptionTableEntry) [(⟨0, 9, 15, 24⟩ : ExceptionTableEntry)] hxt (fun z hz9 => by cases hz9) (by decide) (by decide) (hz _ zw_84) (hxT.use _ (List.mem_of_getElem? (i := 4) rfl)) hce hcv hcl ?_
  refine lv_astore_n (lv' := (3, .ref q9) :: [(0, .ref h), (1, .int (nZ a)), (2, .ref ot)]) hX hB dL_goBack_12 rfl hl (by decide) rfl (fun ls hl => ?_)
  refine lv_iconst (v := nZ 1) hX hB dL_goBack_13 rfl ?_
  exact zRetI (zOc k ot g :: xs) X hP hD hS1 rfl ⟨g, xs, rfl, rfl, fun h9 => absurd h9 (by decide), hQ⟩ dL_goBack_14

set_option maxHeartbeats 4000000 in
set_option maxRecDepth 100000 in
theorem zwt_goBack_2 (l : Launch) (D : va_G) (k : Nat → ClassId) (h ot : Nat) (a : Int) (g : Nat → Int64) (xs : va_W) (ans : Int) (P : va_W → Prop) (he : ∃ fs, (h, Sum.inr (6, fs)) ∈ xs) (hM : ∀ sz, vx_Met l yX6_goBack (zW yX6_goBack cX6_goBack 3 (some .int)) zRB (va_Pc [.ref h, .int (nZ a)] (zInT D k sz xs)) (va_Qi (fun (_ : Int32) (_ : Unit) => False) (fun (_ : Unit) (_ : State) => True) (va_A xs sz)) (zXC D zIS xs (va_A xs sz)) 10 110 (va_A xs sz)) (hQ : P xs) : ∀ sz, Met l yL_goBack (zWW yL_goBack cL_goBack 4 (some .int) [(0, 9, 12, 15), (0, 9, 15, 24)]) zRW (va_Pc [.ref h, .int (nZ a), .ref ot] (zInT D k sz (zOc k ot g :: xs))) (va_Qi (zWR k ot 2 ans P) (fun u => zOut D (va_A (zOc k ot g :: xs) sz) u) (va_A (zOc k ot g :: xs) sz)) 10 110 (va_A (zOc k ot g :: xs) sz) := by
  intro sz
  refine zEnterW (Qf := fun A => va_Qi (zWR k ot 2 ans P) (fun u => zOut D A u) A) RL (by decide) rfl (Nat.le_of_ble_eq_true rfl) ?_
  intro p9 e9 s9 m9 be9 me9 c9 ls A X hxt hxT hxZ hP hD hS hA hAe hl
  have hX := X.1; have hB := X.2.1; have hz := X.2.2.2.2.1; have hW := X.2.2.2.2.2.1; have hK := X.2.2.2.2.2.2.2; clear hAe
  have hl : lv_has ls 4 [(0, .ref h), (1, .int (nZ a)), (2, .ref ot)] := hl
  have hpm : (zOc k ot g :: xs).Perm (xs ++ [zOc k ot g]) := (List.perm_append_singleton _ _).symm
  refine lv_aload_n hX hB dL_goBack_0 rfl (lv_at hl 2 rfl) ?_
  refine lv_iconst (v := nZ 0) hX hB dL_goBack_1 rfl ?_
  refine lv_aload_n hX hB dL_goBack_2 rfl (lv_at hl 0 rfl) ?_
  refine lv_iload_n hX hB dL_goBack_3 rfl (lv_at hl 1 rfl) ?_
  obtain ⟨fs, he⟩ := he
  have hF := zO_F hpm hD hS hA
  have hpv : PreV s9 s9.heap yX6_goBack.cls h (va_Pc [.ref h, .int (nZ a)] (zInT D k s9.heap.size xs)) [.int (nZ a)] := zPreVOT hP hD hK hS hA hxT hxZ hpm he rfl rfl
  refine vx_calli (vx_runV (Ts := wsL_law) ⟨X.1, X.2.1, X.2.2.2.1, X.2.2.2.2.2.1, hz⟩ (hM _) ⟨callB_of 1 hz (zGoodL mv_X6_goBack.1) rfl rfl rfl (hz _ mv_X6_goBack.2.1) (hz _ zw_487) mv_X6_goBack.2.2.1 ⟨Nat.le_of_ble_eq_true rfl, Nat.le_of_ble_eq_true rfl⟩, hz _ mv_X6_goBack.2.2.2.1, hz _ mv_X6_goBack.2.2.2.2⟩ hpv rfl rfl hl.1 rfl (lv_room (Nat.le_of_ble_eq_true rfl)) dL_goBack_4 ⟨Nat.le_of_ble_eq_true rfl, Nat.le_of_ble_eq_true rfl⟩) hS (fun q _ h => hF q h) hF (fun q _ h => hF q h) ?_ (fun r u t H1 locs1 _ _ h => h.elim)
  intro E ce q9 u t H1 locs1 ht1 _ _ hb hsz hk hS1 hce hcv hcl
  obtain ⟨rfl, hP1, hD1⟩ := hb
  rw [ht1] at hP1
  obtain ⟨hP, hD⟩ := zJoinO hpm hP hD hk hF hP1 hD1
  have hP := zPerm_P hP (List.perm_append_singleton _ _)
  have hD := zPerm_D hD (List.perm_append_singleton _ _)
  refine vx_catch (own := RL) (name := zIS) hW [(⟨0, 9, 12, 15⟩ : ExceptionTableEntry)] (⟨0, 9, 15, 24⟩ : ExceptionTableEntry) [] hxt (fun z hz9 => by rcases List.mem_singleton.mp hz9 with rfl; exact Or.inr ⟨by decide, zIA, hz _ zw_84, hxT.2.2.2⟩) (by decide) (by decide) (hz _ zw_354) (hxT.use _ (List.mem_of_getElem? (i := 5) rfl)) hce hcv hcl ?_
  refine lv_astore_n (lv' := (3, .ref q9) :: [(0, .ref h), (1, .int (nZ a)), (2, .ref ot)]) hX hB dL_goBack_15 rfl hl (by decide) rfl (fun ls hl => ?_)
  refine lv_iconst (v := nZ 2) hX hB dL_goBack_16 rfl ?_
  exact zRetI (zOc k ot g :: xs) X hP hD hS1 rfl ⟨g, xs, rfl, rfl, fun h9 => absurd h9 (by decide), hQ⟩ dL_goBack_17

theorem mw_undo : zMW yL_undo cL_undo 3 (some .int) [(0, 8, 11, 24)] 2 := ⟨zw_497, zw_81, ⟨by decide +kernel, by decide +kernel, by decide +kernel⟩, zw_496⟩
set_option maxHeartbeats 4000000 in
set_option maxRecDepth 100000 in
theorem zwn_undo (l : Launch) (D : va_G) (k : Nat → ClassId) (h ot : Nat) (g : Nat → Int64) (xs : va_W) (ans : Int) (P : va_W → Prop) (he : ∃ fs, (h, Sum.inr (6, fs)) ∈ xs) (hM : ∀ sz, Met l yX6_undo (zW yX6_undo cX6_undo 1 (some .int)) zRB (va_Pc [.ref h] (zIn D k sz xs)) (va_Qi (fun (r : Int32) (u : va_W) => r = nZ ans ∧ P u) (fun u => zOut D (va_A xs sz) u) (va_A xs sz)) 10 110 (va_A xs sz)) : ∀ sz, Met l yL_undo (zWW yL_undo cL_undo 3 (some .int) [(0, 8, 11, 24)]) zRW (va_Pc [.ref h, .ref ot] (zInT D k sz (zOc k ot g :: xs))) (va_Qi (zWR k ot 0 ans P) (fun u => zOut D (va_A (zOc k ot g :: xs) sz) u) (va_A (zOc k ot g :: xs) sz)) 10 110 (va_A (zOc k ot g :: xs) sz) := by
  intro sz
  refine zEnterW (Qf := fun A => va_Qi (zWR k ot 0 ans P) (fun u => zOut D A u) A) RL (by decide) rfl (Nat.le_of_ble_eq_true rfl) ?_
  intro p9 e9 s9 m9 be9 me9 c9 ls A X hxt hxT hxZ hP hD hS hA hAe hl
  have hX := X.1; have hB := X.2.1; have hz := X.2.2.2.2.1; have hW := X.2.2.2.2.2.1; have hK := X.2.2.2.2.2.2.2; clear hAe
  have hl : lv_has ls 3 [(0, .ref h), (1, .ref ot)] := hl
  have hpm : (zOc k ot g :: xs).Perm (xs ++ [zOc k ot g]) := (List.perm_append_singleton _ _).symm
  refine lv_aload_n hX hB dL_undo_0 rfl (lv_at hl 1 rfl) ?_
  refine lv_iconst (v := nZ 0) hX hB dL_undo_1 rfl ?_
  refine lv_aload_n hX hB dL_undo_2 rfl (lv_at hl 0 rfl) ?_
  obtain ⟨fs, he⟩ := he
  refine zCallIO (zRunV (As := []) X mv_X6_undo (hM _) zw_498 (zPreVO hP hD hK hpm he rfl rfl) rfl hl (Nat.le_of_ble_eq_true rfl) dL_undo_3 ⟨rfl, rfl, ⟨Nat.le_of_ble_eq_true rfl, Nat.le_of_ble_eq_true rfl⟩, Nat.le_of_ble_eq_true rfl, Nat.le_of_ble_eq_true rfl⟩ rfl) hS hP hD hA hpm (fun r u H locs hpost hP hD hS => ?_)
  have hP := zPerm_P hP (List.perm_append_singleton _ _)
  have hD := zPerm_D hD (List.perm_append_singleton _ _)
  refine lv_i2l (v := r.toInt64) hX hB dL_undo_6 rfl ?_
  refine va_last hX hB hK.1 hP hD hS 0 3 rfl rfl (nZ_in (n := 1) (by decide) (by decide) (by decide)) dL_undo_7 (fun H locs hP hD hS => ?_)
  refine lv_goto (tgt := 14) hX hB dL_undo_8 (by decide) ?_
  refine lv_iconst (v := nZ 0) hX hB dL_undo_14 rfl ?_
  exact zRetI (zOc k ot (vp_updL g (nZ 0).toNatClampNeg r.toInt64) :: u) X hP hD hS rfl ⟨_, u, rfl, rfl, fun _ => by rw [hpost.1]; rfl, hpost.2⟩ dL_undo_15

set_option maxHeartbeats 4000000 in
set_option maxRecDepth 100000 in
theorem zwt_undo_1 (l : Launch) (D : va_G) (k : Nat → ClassId) (h ot : Nat) (g : Nat → Int64) (xs : va_W) (ans : Int) (P : va_W → Prop) (he : ∃ fs, (h, Sum.inr (6, fs)) ∈ xs) (hM : ∀ sz, vx_Met l yX6_undo (zW yX6_undo cX6_undo 1 (some .int)) zRB (va_Pc [.ref h] (zInT D k sz xs)) (va_Qi (fun (_ : Int32) (_ : Unit) => False) (fun (_ : Unit) (_ : State) => True) (va_A xs sz)) (zXC D zIS xs (va_A xs sz)) 10 110 (va_A xs sz)) (hQ : P xs) : ∀ sz, Met l yL_undo (zWW yL_undo cL_undo 3 (some .int) [(0, 8, 11, 24)]) zRW (va_Pc [.ref h, .ref ot] (zInT D k sz (zOc k ot g :: xs))) (va_Qi (zWR k ot 1 ans P) (fun u => zOut D (va_A (zOc k ot g :: xs) sz) u) (va_A (zOc k ot g :: xs) sz)) 10 110 (va_A (zOc k ot g :: xs) sz) := by
  intro sz
  refine zEnterW (Qf := fun A => va_Qi (zWR k ot 1 ans P) (fun u => zOut D A u) A) RL (by decide) rfl (Nat.le_of_ble_eq_true rfl) ?_
  intro p9 e9 s9 m9 be9 me9 c9 ls A X hxt hxT hxZ hP hD hS hA hAe hl
  have hX := X.1; have hB := X.2.1; have hz := X.2.2.2.2.1; have hW := X.2.2.2.2.2.1; have hK := X.2.2.2.2.2.2.2; clear hAe
  have hl : lv_has ls 3 [(0, .ref h), (1, .ref ot)] := hl
  have hpm : (zOc k ot g :: xs).Perm (xs ++ [zOc k ot g]) := (List.perm_append_singleton _ _).symm
  refine lv_aload_n hX hB dL_undo_0 rfl (lv_at hl 1 rfl) ?_
  refine lv_iconst (v := nZ 0) hX hB dL_undo_1 rfl ?_
  refine lv_aload_n hX hB dL_undo_2 rfl (lv_at hl 0 rfl) ?_
  obtain ⟨fs, he⟩ := he
  have hF := zO_F hpm hD hS hA
  have hpv : PreV s9 s9.heap yX6_undo.cls h (va_Pc [.ref h] (zInT D k s9.heap.size xs)) [] := zPreVOT hP hD hK hS hA hxT hxZ hpm he rfl rfl
  refine vx_calli (vx_runV (Ts := wsL_law) ⟨X.1, X.2.1, X.2.2.2.1, X.2.2.2.2.2.1, hz⟩ (hM _) ⟨callB_of 0 hz (zGoodL mv_X6_undo.1) rfl rfl rfl (hz _ mv_X6_undo.2.1) (hz _ zw_498) mv_X6_undo.2.2.1 ⟨Nat.le_of_ble_eq_true rfl, Nat.le_of_ble_eq_true rfl⟩, hz _ mv_X6_undo.2.2.2.1, hz _ mv_X6_undo.2.2.2.2⟩ hpv rfl rfl hl.1 rfl (lv_room (Nat.le_of_ble_eq_true rfl)) dL_undo_3 ⟨Nat.le_of_ble_eq_true rfl, Nat.le_of_ble_eq_true rfl⟩) hS (fun q _ h => hF q h) hF (fun q _ h => hF q h) ?_ (fun r u t H1 locs1 _ _ h => h.elim)
  intro E ce q9 u t H1 locs1 ht1 _ _ hb hsz hk hS1 hce hcv hcl
  obtain ⟨rfl, hP1, hD1⟩ := hb
  rw [ht1] at hP1
  obtain ⟨hP, hD⟩ := zJoinO hpm hP hD hk hF hP1 hD1
  have hP := zPerm_P hP (List.perm_append_singleton _ _)
  have hD := zPerm_D hD (List.perm_append_singleton _ _)
  refine vx_catch (own := RL) (name := zIS) hW [] (⟨0, 8, 11, 24⟩ : ExceptionTableEntry) [] hxt (fun z hz9 => by cases hz9) (by decide) (by decide) (hz _ zw_354) (hxT.use _ (List.mem_of_getElem? (i := 5) rfl)) hce hcv hcl ?_
  refine lv_astore_n (lv' := (2, .ref q9) :: [(0, .ref h), (1, .ref ot)]) hX hB dL_undo_11 rfl hl (by decide) rfl (fun ls hl => ?_)
  refine lv_iconst (v := nZ 1) hX hB dL_undo_12 rfl ?_
  exact zRetI (zOc k ot g :: xs) X hP hD hS1 rfl ⟨g, xs, rfl, rfl, fun h9 => absurd h9 (by decide), hQ⟩ dL_undo_13

theorem mw_coin : zMW yL_coin cL_coin 5 (some .int) [(0, 10, 13, 13), (0, 10, 17, 15)] 4 := ⟨zw_511, zw_81, ⟨by decide +kernel, by decide +kernel, by decide +kernel⟩, zw_510⟩
set_option maxHeartbeats 4000000 in
set_option maxRecDepth 100000 in
theorem zwn_coin (l : Launch) (D : va_G) (k : Nat → ClassId) (h ot : Nat) (a c : Int) (g : Nat → Int64) (xs : va_W) (ans : Int) (P : va_W → Prop) (he : ∃ fs, (h, Sum.inr (6, fs)) ∈ xs) (hM : ∀ sz, Met l yX6_coin (zW yX6_coin cX6_coin 3 (some .int)) zRB (va_Pc [.ref h, .int (nZ a), .int (nZ c)] (zIn D k sz xs)) (va_Qi (fun (r : Int32) (u : va_W) => r = nZ ans ∧ P u) (fun u => zOut D (va_A xs sz) u) (va_A xs sz)) 10 110 (va_A xs sz)) : ∀ sz, Met l yL_coin (zWW yL_coin cL_coin 5 (some .int) [(0, 10, 13, 13), (0, 10, 17, 15)]) zRW (va_Pc [.ref h, .int (nZ a), .int (nZ c), .ref ot] (zInT D k sz (zOc k ot g :: xs))) (va_Qi (zWR k ot 0 ans P) (fun u => zOut D (va_A (zOc k ot g :: xs) sz) u) (va_A (zOc k ot g :: xs) sz)) 10 110 (va_A (zOc k ot g :: xs) sz) := by
  intro sz
  refine zEnterW (Qf := fun A => va_Qi (zWR k ot 0 ans P) (fun u => zOut D A u) A) RL (by decide) rfl (Nat.le_of_ble_eq_true rfl) ?_
  intro p9 e9 s9 m9 be9 me9 c9 ls A X hxt hxT hxZ hP hD hS hA hAe hl
  have hX := X.1; have hB := X.2.1; have hz := X.2.2.2.2.1; have hW := X.2.2.2.2.2.1; have hK := X.2.2.2.2.2.2.2; clear hAe
  have hl : lv_has ls 5 [(0, .ref h), (1, .int (nZ a)), (2, .int (nZ c)), (3, .ref ot)] := hl
  have hpm : (zOc k ot g :: xs).Perm (xs ++ [zOc k ot g]) := (List.perm_append_singleton _ _).symm
  refine lv_aload_n hX hB dL_coin_0 rfl (lv_at hl 3 rfl) ?_
  refine lv_iconst (v := nZ 0) hX hB dL_coin_1 rfl ?_
  refine lv_aload_n hX hB dL_coin_2 rfl (lv_at hl 0 rfl) ?_
  refine lv_iload_n hX hB dL_coin_3 rfl (lv_at hl 1 rfl) ?_
  refine lv_iload_n hX hB dL_coin_4 rfl (lv_at hl 2 rfl) ?_
  obtain ⟨fs, he⟩ := he
  refine zCallIO (zRunV (As := [.int (nZ a), .int (nZ c)]) X mv_X6_coin (hM _) zw_512 (zPreVO hP hD hK hpm he rfl rfl) rfl hl (Nat.le_of_ble_eq_true rfl) dL_coin_5 ⟨rfl, rfl, ⟨Nat.le_of_ble_eq_true rfl, Nat.le_of_ble_eq_true rfl⟩, Nat.le_of_ble_eq_true rfl, Nat.le_of_ble_eq_true rfl⟩ rfl) hS hP hD hA hpm (fun r u H locs hpost hP hD hS => ?_)
  have hP := zPerm_P hP (List.perm_append_singleton _ _)
  have hD := zPerm_D hD (List.perm_append_singleton _ _)
  refine lv_i2l (v := r.toInt64) hX hB dL_coin_8 rfl ?_
  refine va_last hX hB hK.1 hP hD hS 0 3 rfl rfl (nZ_in (n := 1) (by decide) (by decide) (by decide)) dL_coin_9 (fun H locs hP hD hS => ?_)
  refine lv_goto (tgt := 21) hX hB dL_coin_10 (by decide) ?_
  refine lv_iconst (v := nZ 0) hX hB dL_coin_21 rfl ?_
  exact zRetI (zOc k ot (vp_updL g (nZ 0).toNatClampNeg r.toInt64) :: u) X hP hD hS rfl ⟨_, u, rfl, rfl, fun _ => by rw [hpost.1]; rfl, hpost.2⟩ dL_coin_22

set_option maxHeartbeats 4000000 in
set_option maxRecDepth 100000 in
theorem zwt_coin_1 (l : Launch) (D : va_G) (k : Nat → ClassId) (h ot : Nat) (a c : Int) (g : Nat → Int64) (xs : va_W) (ans : Int) (P : va_W → Prop) (he : ∃ fs, (h, Sum.inr (6, fs)) ∈ xs) (hM : ∀ sz, vx_Met l yX6_coin (zW yX6_coin cX6_coin 3 (some .int)) zRB (va_Pc [.ref h, .int (nZ a), .int (nZ c)] (zInT D k sz xs)) (va_Qi (fun (_ : Int32) (_ : Unit) => False) (fun (_ : Unit) (_ : State) => True) (va_A xs sz)) (zXC D zIO xs (va_A xs sz)) 10 110 (va_A xs sz)) (hQ : P xs) : ∀ sz, Met l yL_coin (zWW yL_coin cL_coin 5 (some .int) [(0, 10, 13, 13), (0, 10, 17, 15)]) zRW (va_Pc [.ref h, .int (nZ a), .int (nZ c), .ref ot] (zInT D k sz (zOc k ot g :: xs))) (va_Qi (zWR k ot 1 ans P) (fun u => zOut D (va_A (zOc k ot g :: xs) sz) u) (va_A (zOc k ot g :: xs) sz)) 10 110 (va_A (zOc k ot g :: xs) sz) := by
  intro sz
  refine zEnterW (Qf := fun A => va_Qi (zWR k ot 1 ans P) (fun u => zOut D A u) A) RL (by decide) rfl (Nat.le_of_ble_eq_true rfl) ?_
  intro p9 e9 s9 m9 be9 me9 c9 ls A X hxt hxT hxZ hP hD hS hA hAe hl
  have hX := X.1; have hB := X.2.1; have hz := X.2.2.2.2.1; have hW := X.2.2.2.2.2.1; have hK := X.2.2.2.2.2.2.2; clear hAe
  have hl : lv_has ls 5 [(0, .ref h), (1, .int (nZ a)), (2, .int (nZ c)), (3, .ref ot)] := hl
  have hpm : (zOc k ot g :: xs).Perm (xs ++ [zOc k ot g]) := (List.perm_append_singleton _ _).symm
  refine lv_aload_n hX hB dL_coin_0 rfl (lv_at hl 3 rfl) ?_
  refine lv_iconst (v := nZ 0) hX hB dL_coin_1 rfl ?_
  refine lv_aload_n hX hB dL_coin_2 rfl (lv_at hl 0 rfl) ?_
  refine lv_iload_n hX hB dL_coin_3 rfl (lv_at hl 1 rfl) ?_
  refine lv_iload_n hX hB dL_coin_4 rfl (lv_at hl 2 rfl) ?_
  obtain ⟨fs, he⟩ := he
  have hF := zO_F hpm hD hS hA
  have hpv : PreV s9 s9.heap yX6_coin.cls h (va_Pc [.ref h, .int (nZ a), .int (nZ c)] (zInT D k s9.heap.size xs)) [.int (nZ a), .int (nZ c)] := zPreVOT hP hD hK hS hA hxT hxZ hpm he rfl rfl
  refine vx_calli (vx_runV (Ts := wsL_law) ⟨X.1, X.2.1, X.2.2.2.1, X.2.2.2.2.2.1, hz⟩ (hM _) ⟨callB_of 2 hz (zGoodL mv_X6_coin.1) rfl rfl rfl (hz _ mv_X6_coin.2.1) (hz _ zw_512) mv_X6_coin.2.2.1 ⟨Nat.le_of_ble_eq_true rfl, Nat.le_of_ble_eq_true rfl⟩, hz _ mv_X6_coin.2.2.2.1, hz _ mv_X6_coin.2.2.2.2⟩ hpv rfl rfl hl.1 rfl (lv_room (Nat.le_of_ble_eq_true rfl)) dL_coin_5 ⟨Nat.le_of_ble_eq_true rfl, Nat.le_of_ble_eq_true rfl⟩) hS (fun q _ h => hF q h) hF (fun q _ h => hF q h) ?_ (fun r u t H1 locs1 _ _ h => h.elim)
  intro E ce q9 u t H1 locs1 ht1 _ _ hb hsz hk hS1 hce hcv hcl
  obtain ⟨rfl, hP1, hD1⟩ := hb
  rw [ht1] at hP1
  obtain ⟨hP, hD⟩ := zJoinO hpm hP hD hk hF hP1 hD1
  have hP := zPerm_P hP (List.perm_append_singleton _ _)
  have hD := zPerm_D hD (List.perm_append_singleton _ _)
  refine vx_catch (own := RL) (name := zIO) hW [] (⟨0, 10, 13, 13⟩ : ExceptionTableEntry) [(⟨0, 10, 17, 15⟩ : ExceptionTableEntry)] hxt (fun z hz9 => by cases hz9) (by decide) (by decide) (hz _ zw_83) (hxT.use _ (List.mem_of_getElem? (i := 3) rfl)) hce hcv hcl ?_
  refine lv_astore (lv' := (4, .ref q9) :: [(0, .ref h), (1, .int (nZ a)), (2, .int (nZ c)), (3, .ref ot)]) hX hB dL_coin_13 hl (by decide) rfl (fun ls hl => ?_)
  refine lv_iconst (v := nZ 1) hX hB dL_coin_15 rfl ?_
  exact zRetI (zOc k ot g :: xs) X hP hD hS1 rfl ⟨g, xs, rfl, rfl, fun h9 => absurd h9 (by decide), hQ⟩ dL_coin_16

set_option maxHeartbeats 4000000 in
set_option maxRecDepth 100000 in
theorem zwt_coin_2 (l : Launch) (D : va_G) (k : Nat → ClassId) (h ot : Nat) (a c : Int) (g : Nat → Int64) (xs : va_W) (ans : Int) (P : va_W → Prop) (he : ∃ fs, (h, Sum.inr (6, fs)) ∈ xs) (hM : ∀ sz, vx_Met l yX6_coin (zW yX6_coin cX6_coin 3 (some .int)) zRB (va_Pc [.ref h, .int (nZ a), .int (nZ c)] (zInT D k sz xs)) (va_Qi (fun (_ : Int32) (_ : Unit) => False) (fun (_ : Unit) (_ : State) => True) (va_A xs sz)) (zXC D zIA xs (va_A xs sz)) 10 110 (va_A xs sz)) (hQ : P xs) : ∀ sz, Met l yL_coin (zWW yL_coin cL_coin 5 (some .int) [(0, 10, 13, 13), (0, 10, 17, 15)]) zRW (va_Pc [.ref h, .int (nZ a), .int (nZ c), .ref ot] (zInT D k sz (zOc k ot g :: xs))) (va_Qi (zWR k ot 2 ans P) (fun u => zOut D (va_A (zOc k ot g :: xs) sz) u) (va_A (zOc k ot g :: xs) sz)) 10 110 (va_A (zOc k ot g :: xs) sz) := by
  intro sz
  refine zEnterW (Qf := fun A => va_Qi (zWR k ot 2 ans P) (fun u => zOut D A u) A) RL (by decide) rfl (Nat.le_of_ble_eq_true rfl) ?_
  intro p9 e9 s9 m9 be9 me9 c9 ls A X hxt hxT hxZ hP hD hS hA hAe hl
  have hX := X.1; have hB := X.2.1; have hz := X.2.2.2.2.1; have hW := X.2.2.2.2.2.1; have hK := X.2.2.2.2.2.2.2; clear hAe
  have hl : lv_has ls 5 [(0, .ref h), (1, .int (nZ a)), (2, .int (nZ c)), (3, .ref ot)] := hl
  have hpm : (zOc k ot g :: xs).Perm (xs ++ [zOc k ot g]) := (List.perm_append_singleton _ _).symm
  refine lv_aload_n hX hB dL_coin_0 rfl (lv_at hl 3 rfl) ?_
  refine lv_iconst (v := nZ 0) hX hB dL_coin_1 rfl ?_
  refine lv_aload_n hX hB dL_coin_2 rfl (lv_at hl 0 rfl) ?_
  refine lv_iload_n hX hB dL_coin_3 rfl (lv_at hl 1 rfl) ?_
  refine lv_iload_n hX hB dL_coin_4 rfl (lv_at hl 2 rfl) ?_
  obtain ⟨fs, he⟩ := he
  have hF := zO_F hpm hD hS hA
  have hpv : PreV s9 s9.heap yX6_coin.cls h (va_Pc [.ref h, .int (nZ a), .int (nZ c)] (zInT D k s9.heap.size xs)) [.int (nZ a), .int (nZ c)] := zPreVOT hP hD hK hS hA hxT hxZ hpm he rfl rfl
  refine vx_calli (vx_runV (Ts := wsL_law) ⟨X.1, X.2.1, X.2.2.2.1, X.2.2.2.2.2.1, hz⟩ (hM _) ⟨callB_of 2 hz (zGoodL mv_X6_coin.1) rfl rfl rfl (hz _ mv_X6_coin.2.1) (hz _ zw_512) mv_X6_coin.2.2.1 ⟨Nat.le_of_ble_eq_true rfl, Nat.le_of_ble_eq_true rfl⟩, hz _ mv_X6_coin.2.2.2.1, hz _ mv_X6_coin.2.2.2.2⟩ hpv rfl rfl hl.1 rfl (lv_room (Nat.le_of_ble_eq_true rfl)) dL_coin_5 ⟨Nat.le_of_ble_eq_true rfl, Nat.le_of_ble_eq_true rfl⟩) hS (fun q _ h => hF q h) hF (fun q _ h => hF q h) ?_ (fun r u t H1 locs1 _ _ h => h.elim)
  intro E ce q9 u t H1 locs1 ht1 _ _ hb hsz hk hS1 hce hcv hcl
  obtain ⟨rfl, hP1, hD1⟩ := hb
  rw [ht1] at hP1
  obtain ⟨hP, hD⟩ := zJoinO hpm hP hD hk hF hP1 hD1
  have hP := zPerm_P hP (List.perm_append_singleton _ _)
  have hD := zPerm_D hD (List.perm_append_singleton _ _)
  refine vx_catch (own := RL) (name := zIA) hW [(⟨0, 10, 13, 13⟩ : ExceptionTableEntry)] (⟨0, 10, 17, 15⟩ : ExceptionTableEntry) [] hxt (fun z hz9 => by rcases List.mem_singleton.mp hz9 with rfl; exact Or.inr ⟨by decide, zIO, hz _ zw_83, hxT.2.2.1⟩) (by decide) (by decide) (hz _ zw_84) (hxT.use _ (List.mem_of_getElem? (i := 4) rfl)) hce hcv hcl ?_
  refine lv_astore (lv' := (4, .ref q9) :: [(0, .ref h), (1, .int (nZ a)), (2, .int (nZ c)), (3, .ref ot)]) hX hB dL_coin_17 hl (by decide) rfl (fun ls hl => ?_)
  refine lv_iconst (v := nZ 2) hX hB dL_coin_19 rfl ?_
  exact zRetI (zOc k ot g :: xs) X hP hD hS1 rfl ⟨g, xs, rfl, rfl, fun h9 => absurd h9 (by decide), hQ⟩ dL_coin_20

theorem mw_bedOf : zMW yL_bedOf cL_bedOf 5 (some .int) [(0, 10, 13, 13), (0, 10, 17, 15)] 4 := ⟨zw_522, zw_81, ⟨by decide +kernel, by decide +kernel, by decide +kernel⟩, zw_521⟩
set_option maxHeartbeats 4000000 in
set_option maxRecDepth 100000 in
theorem zwn_bedOf (l : Launch) (D : va_G) (k : Nat → ClassId) (h ot : Nat) (a c : Int) (g : Nat → Int64) (xs : va_W) (ans : Int) (P : va_W → Prop) (he : ∃ fs, (h, Sum.inr (6, fs)) ∈ xs) (hM : ∀ sz, Met l yX6_bedOf (zW yX6_bedOf cX6_bedOf 4 (some .int)) zRB (va_Pc [.ref h, .int (nZ a), .int (nZ c)] (zIn D k sz xs)) (va_Qi (fun (r : Int32) (u : va_W) => r = nZ ans ∧ P u) (fun u => zOut D (va_A xs sz) u) (va_A xs sz)) 10 110 (va_A xs sz)) : ∀ sz, Met l yL_bedOf (zWW yL_bedOf cL_bedOf 5 (some .int) [(0, 10, 13, 13), (0, 10, 17, 15)]) zRW (va_Pc [.ref h, .int (nZ a), .int (nZ c), .ref ot] (zInT D k sz (zOc k ot g :: xs))) (va_Qi (zWR k ot 0 ans P) (fun u => zOut D (va_A (zOc k ot g :: xs) sz) u) (va_A (zOc k ot g :: xs) sz)) 10 110 (va_A (zOc k ot g :: xs) sz) := by
  intro sz
  refine zEnterW (Qf := fun A => va_Qi (zWR k ot 0 ans P) (fun u => zOut D A u) A) RL (by decide) rfl (Nat.le_of_ble_eq_true rfl) ?_
  intro p9 e9 s9 m9 be9 me9 c9 ls A X hxt hxT hxZ hP hD hS hA hAe hl
  have hX := X.1; have hB := X.2.1; have hz := X.2.2.2.2.1; have hW := X.2.2.2.2.2.1; have hK := X.2.2.2.2.2.2.2; clear hAe
  have hl : lv_has ls 5 [(0, .ref h), (1, .int (nZ a)), (2, .int (nZ c)), (3, .ref ot)] := hl
  have hpm : (zOc k ot g :: xs).Perm (xs ++ [zOc k ot g]) := (List.perm_append_singleton _ _).symm
  refine lv_aload_n hX hB dL_bedOf_0 rfl (lv_at hl 3 rfl) ?_
  refine lv_iconst (v := nZ 0) hX hB dL_bedOf_1 rfl ?_
  refine lv_aload_n hX hB dL_bedOf_2 rfl (lv_at hl 0 rfl) ?_
  refine lv_iload_n hX hB dL_bedOf_3 rfl (lv_at hl 1 rfl) ?_
  refine lv_iload_n hX hB dL_bedOf_4 rfl (lv_at hl 2 rfl) ?_
  obtain ⟨fs, he⟩ := he
  refine zCallIO (zRunV (As := [.int (nZ a), .int (nZ c)]) X mv_X6_bedOf (hM _) zw_523 (zPreVO hP hD hK hpm he rfl rfl) rfl hl (Nat.le_of_ble_eq_true rfl) dL_bedOf_5 ⟨rfl, rfl, ⟨Nat.le_of_ble_eq_true rfl, Nat.le_of_ble_eq_true rfl⟩, Nat.le_of_ble_eq_true rfl, Nat.le_of_ble_eq_true rfl⟩ rfl) hS hP hD hA hpm (fun r u H locs hpost hP hD hS => ?_)
  have hP := zPerm_P hP (List.perm_append_singleton _ _)
  have hD := zPerm_D hD (List.perm_append_singleton _ _)
  refine lv_i2l (v := r.toInt64) hX hB dL_bedOf_8 rfl ?_
  refine va_last hX hB hK.1 hP hD hS 0 3 rfl rfl (nZ_in (n := 1) (by decide) (by decide) (by decide)) dL_bedOf_9 (fun H locs hP hD hS => ?_)
  refine lv_goto (tgt := 21) hX hB dL_bedOf_10 (by decide) ?_
  refine lv_iconst (v := nZ 0) hX hB dL_bedOf_21 rfl ?_
  exact zRetI (zOc k ot (vp_updL g (nZ 0).toNatClampNeg r.toInt64) :: u) X hP hD hS rfl ⟨_, u, rfl, rfl, fun _ => by rw [hpost.1]; rfl, hpost.2⟩ dL_bedOf_22

set_option maxHeartbeats 4000000 in
set_option maxRecDepth 100000 in
theorem zwt_bedOf_1 (l : Launch) (D : va_G) (k : Nat → ClassId) (h ot : Nat) (a c : Int) (g : Nat → Int64) (xs : va_W) (ans : Int) (P : va_W → Prop) (he : ∃ fs, (h, Sum.inr (6, fs)) ∈ xs) (hM : ∀ sz, vx_Met l yX6_bedOf (zW yX6_bedOf cX6_bedOf 4 (some .int)) zRB (va_Pc [.ref h, .int (nZ a), .int (nZ c)] (zInT D k sz xs)) (va_Qi (fun (_ : Int32) (_ : Unit) => False) (fun (_ : Unit) (_ : State) => True) (va_A xs sz)) (zXC D zIO xs (va_A xs sz)) 10 110 (va_A xs sz)) (hQ : P xs) : ∀ sz, Met l yL_bedOf (zWW yL_bedOf cL_bedOf 5 (some .int) [(0, 10, 13, 13), (0, 10, 17, 15)]) zRW (va_Pc [.ref h, .int (nZ a), .int (nZ c), .ref ot] (zInT D k sz (zOc k ot g :: xs))) (va_Qi (zWR k ot 1 ans P) (fun u => zOut D (va_A (zOc k ot g :: xs) sz) u) (va_A (zOc k ot g :: xs) sz)) 10 110 (va_A (zOc k ot g :: xs) sz) := by
  intro sz
  refine zEnterW (Qf := fun A => va_Qi (zWR k ot 1 ans P) (fun u => zOut D A u) A) RL (by decide) rfl (Nat.le_of_ble_eq_true rfl) ?_
  intro p9 e9 s9 m9 be9 me9 c9 ls A X hxt hxT hxZ hP hD hS hA hAe hl
  have hX := X.1; have hB := X.2.1; have hz := X.2.2.2.2.1; have hW := X.2.2.2.2.2.1; have hK := X.2.2.2.2.2.2.2; clear hAe
  have hl : lv_has ls 5 [(0, .ref h), (1, .int (nZ a)), (2, .int (nZ c)), (3, .ref ot)] := hl
  have hpm : (zOc k ot g :: xs).Perm (xs ++ [zOc k ot g]) := (List.perm_append_singleton _ _).symm
  refine lv_aload_n hX hB dL_bedOf_0 rfl (lv_at hl 3 rfl) ?_
  refine lv_iconst (v := nZ 0) hX hB dL_bedOf_1 rfl ?_
  refine lv_aload_n hX hB dL_bedOf_2 rfl (lv_at hl 0 rfl) ?_
  refine lv_iload_n hX hB dL_bedOf_3 rfl (lv_at hl 1 rfl) ?_
  refine lv_iload_n hX hB dL_bedOf_4 rfl (lv_at hl 2 rfl) ?_
  obtain ⟨fs, he⟩ := he
  have hF := zO_F hpm hD hS hA
  have hpv : PreV s9 s9.heap yX6_bedOf.cls h (va_Pc [.ref h, .int (nZ a), .int (nZ c)] (zInT D k s9.heap.size xs)) [.int (nZ a), .int (nZ c)] := zPreVOT hP hD hK hS hA hxT hxZ hpm he rfl rfl
  refine vx_calli (vx_runV (Ts := wsL_law) ⟨X.1, X.2.1, X.2.2.2.1, X.2.2.2.2.2.1, hz⟩ (hM _) ⟨callB_of 2 hz (zGoodL mv_X6_bedOf.1) rfl rfl rfl (hz _ mv_X6_bedOf.2.1) (hz _ zw_523) mv_X6_bedOf.2.2.1 ⟨Nat.le_of_ble_eq_true rfl, Nat.le_of_ble_eq_true rfl⟩, hz _ mv_X6_bedOf.2.2.2.1, hz _ mv_X6_bedOf.2.2.2.2⟩ hpv rfl rfl hl.1 rfl (lv_room (Nat.le_of_ble_eq_true rfl)) dL_bedOf_5 ⟨Nat.le_of_ble_eq_true rfl, Nat.le_of_ble_eq_true rfl⟩) hS (fun q _ h => hF q h) hF (fun q _ h => hF q h) ?_ (fun r u t H1 locs1 _ _ h => h.elim)
  intro E ce q9 u t H1 locs1 ht1 _ _ hb hsz hk hS1 hce hcv hcl
  obtain ⟨rfl, hP1, hD1⟩ := hb
  rw [ht1] at hP1
  obtain ⟨hP, hD⟩ := zJoinO hpm hP hD hk hF hP1 hD1
  have hP := zPerm_P hP (List.perm_append_singleton _ _)
  have hD := zPerm_D hD (List.perm_append_singleton _ _)
  refine vx_catch (own := RL) (name := zIO) hW [] (⟨0, 10, 13, 13⟩ : ExceptionTableEntry) [(⟨0, 10, 17, 15⟩ : ExceptionTableEntry)] hxt (fun z hz9 => by cases hz9) (by decide) (by decide) (hz _ zw_83) (hxT.use _ (List.mem_of_getElem? (i := 3) rfl)) hce hcv hcl ?_
  refine lv_astore (lv' := (4, .ref q9) :: [(0, .ref h), (1, .int (nZ a)), (2, .int (nZ c)), (3, .ref ot)]) hX hB dL_bedOf_13 hl (by decide) rfl (fun ls hl => ?_)
  refine lv_iconst (v := nZ 1) hX hB dL_bedOf_15 rfl ?_
  exact zRetI (zOc k ot g :: xs) X hP hD hS1 rfl ⟨g, xs, rfl, rfl, fun h9 => absurd h9 (by decide), hQ⟩ dL_bedOf_16

set_option maxHeartbeats 4000000 in
set_option maxRecDepth 100000 in
theorem zwt_bedOf_2 (l : Launch) (D : va_G) (k : Nat → ClassId) (h ot : Nat) (a c : Int) (g : Nat → Int64) (xs : va_W) (ans : Int) (P : va_W → Prop) (he : ∃ fs, (h, Sum.inr (6, fs)) ∈ xs) (hM : ∀ sz, vx_Met l yX6_bedOf (zW yX6_bedOf cX6_bedOf 4 (some .int)) zRB (va_Pc [.ref h, .int (nZ a), .int (nZ c)] (zInT D k sz xs)) (va_Qi (fun (_ : Int32) (_ : Unit) => False) (fun (_ : Unit) (_ : State) => True) (va_A xs sz)) (zXC D zIA xs (va_A xs sz)) 10 110 (va_A xs sz)) (hQ : P xs) : ∀ sz, Met l yL_bedOf (zWW yL_bedOf cL_bedOf 5 (some .int) [(0, 10, 13, 13), (0, 10, 17, 15)]) zRW (va_Pc [.ref h, .int (nZ a), .int (nZ c), .ref ot] (zInT D k sz (zOc k ot g :: xs))) (va_Qi (zWR k ot 2 ans P) (fun u => zOut D (va_A (zOc k ot g :: xs) sz) u) (va_A (zOc k ot g :: xs) sz)) 10 110 (va_A (zOc k ot g :: xs) sz) := by
  intro sz
  refine zEnterW (Qf := fun A => va_Qi (zWR k ot 2 ans P) (fun u => zOut D A u) A) RL (by decide) rfl (Nat.le_of_ble_eq_true rfl) ?_
  intro p9 e9 s9 m9 be9 me9 c9 ls A X hxt hxT hxZ hP hD hS hA hAe hl
  have hX := X.1; have hB := X.2.1; have hz := X.2.2.2.2.1; have hW := X.2.2.2.2.2.1; have hK := X.2.2.2.2.2.2.2; clear hAe
  have hl : lv_has ls 5 [(0, .ref h), (1, .int (nZ a)), (2, .int (nZ c)), (3, .ref ot)] := hl
  have hpm : (zOc k ot g :: xs).Perm (xs ++ [zOc k ot g]) := (List.perm_append_singleton _ _).symm
  refine lv_aload_n hX hB dL_bedOf_0 rfl (lv_at hl 3 rfl) ?_
  refine lv_iconst (v := nZ 0) hX hB dL_bedOf_1 rfl ?_
  refine lv_aload_n hX hB dL_bedOf_2 rfl (lv_at hl 0 rfl) ?_
  refine lv_iload_n hX hB dL_bedOf_3 rfl (lv_at hl 1 rfl) ?_
  refine lv_iload_n hX hB dL_bedOf_4 rfl (lv_at hl 2 rfl) ?_
  obtain ⟨fs, he⟩ := he
  have hF := zO_F hpm hD hS hA
  have hpv : PreV s9 s9.heap yX6_bedOf.cls h (va_Pc [.ref h, .int (nZ a), .int (nZ c)] (zInT D k s9.heap.size xs)) [.int (nZ a), .int (nZ c)] := zPreVOT hP hD hK hS hA hxT hxZ hpm he rfl rfl
  refine vx_calli (vx_runV (Ts := wsL_law) ⟨X.1, X.2.1, X.2.2.2.1, X.2.2.2.2.2.1, hz⟩ (hM _) ⟨callB_of 2 hz (zGoodL mv_X6_bedOf.1) rfl rfl rfl (hz _ mv_X6_bedOf.2.1) (hz _ zw_523) mv_X6_bedOf.2.2.1 ⟨Nat.le_of_ble_eq_true rfl, Nat.le_of_ble_eq_true rfl⟩, hz _ mv_X6_bedOf.2.2.2.1, hz _ mv_X6_bedOf.2.2.2.2⟩ hpv rfl rfl hl.1 rfl (lv_room (Nat.le_of_ble_eq_true rfl)) dL_bedOf_5 ⟨Nat.le_of_ble_eq_true rfl, Nat.le_of_ble_eq_true rfl⟩) hS (fun q _ h => hF q h) hF (fun q _ h => hF q h) ?_ (fun r u t H1 locs1 _ _ h => h.elim)
  intro E ce q9 u t H1 locs1 ht1 _ _ hb hsz hk hS1 hce hcv hcl
  obtain ⟨rfl, hP1, hD1⟩ := hb
  rw [ht1] at hP1
  obtain ⟨hP, hD⟩ := zJoinO hpm hP hD hk hF hP1 hD1
  have hP := zPerm_P hP (List.perm_append_singleton _ _)
  have hD := zPerm_D hD (List.perm_append_singleton _ _)
  refine vx_catch (own := RL) (name := zIA) hW [(⟨0, 10, 13, 13⟩ : ExceptionTableEntry)] (⟨0, 10, 17, 15⟩ : ExceptionTableEntry) [] hxt (fun z hz9 => by rcases List.mem_singleton.mp hz9 with rfl; exact Or.inr ⟨by decide, zIO, hz _ zw_83, hxT.2.2.1⟩) (by decide) (by decide) (hz _ zw_84) (hxT.use _ (List.mem_of_getElem? (i := 4) rfl)) hce hcv hcl ?_
  refine lv_astore (lv' := (4, .ref q9) :: [(0, .ref h), (1, .int (nZ a)), (2, .int (nZ c)), (3, .ref ot)]) hX hB dL_bedOf_17 hl (by decide) rfl (fun ls hl => ?_)
  refine lv_iconst (v := nZ 2) hX hB dL_bedOf_19 rfl ?_
  exact zRetI (zOc k ot g :: xs) X hP hD hS1 rfl ⟨g, xs, rfl, rfl, fun h9 => absurd h9 (by decide), hQ⟩ dL_bedOf_20

theorem mw_count : zMW yL_count cL_count 4 (some .int) [(0, 9, 12, 15)] 3 := ⟨zw_540, zw_81, ⟨by decide +kernel, by decide +kernel, by decide +kernel⟩, zw_539⟩
set_option maxHeartbeats 4000000 in
set_option maxRecDepth 100000 in
theorem zwn_count (l : Launch) (D : va_G) (k : Nat → ClassId) (h ot : Nat) (a : Int) (g : Nat → Int64) (xs : va_W) (ans : Int) (P : va_W → Prop) (he : ∃ fs, (h, Sum.inr (6, fs)) ∈ xs) (hM : ∀ sz, Met l yX6_count (zW yX6_count cX6_count 2 (some .int)) zRB (va_Pc [.ref h, .int (nZ a)] (zIn D k sz xs)) (va_Qi (fun (r : Int32) (u : va_W) => r = nZ ans ∧ P u) (fun u => zOut D (va_A xs sz) u) (va_A xs sz)) 10 110 (va_A xs sz)) : ∀ sz, Met l yL_count (zWW yL_count cL_count 4 (some .int) [(0, 9, 12, 15)]) zRW (va_Pc [.ref h, .int (nZ a), .ref ot] (zInT D k sz (zOc k ot g :: xs))) (va_Qi (zWR k ot 0 ans P) (fun u => zOut D (va_A (zOc k ot g :: xs) sz) u) (va_A (zOc k ot g :: xs) sz)) 10 110 (va_A (zOc k ot g :: xs) sz) := by
  intro sz
  refine zEnterW (Qf := fun A => va_Qi (zWR k ot 0 ans P) (fun u => zOut D A u) A) RL (by decide) rfl (Nat.le_of_ble_eq_true rfl) ?_
  intro p9 e9 s9 m9 be9 me9 c9 ls A X hxt hxT hxZ hP hD hS hA hAe hl
  have hX := X.1; have hB := X.2.1; have hz := X.2.2.2.2.1; have hW := X.2.2.2.2.2.1; have hK := X.2.2.2.2.2.2.2; clear hAe
  have hl : lv_has ls 4 [(0, .ref h), (1, .int (nZ a)), (2, .ref ot)] := hl
  have hpm : (zOc k ot g :: xs).Perm (xs ++ [zOc k ot g]) := (List.perm_append_singleton _ _).symm
  refine lv_aload_n hX hB dL_count_0 rfl (lv_at hl 2 rfl) ?_
  refine lv_iconst (v := nZ 0) hX hB dL_count_1 rfl ?_
  refine lv_aload_n hX hB dL_count_2 rfl (lv_at hl 0 rfl) ?_
  refine lv_iload_n hX hB dL_count_3 rfl (lv_at hl 1 rfl) ?_
  obtain ⟨fs, he⟩ := he
  refine zCallIO (zRunV (As := [.int (nZ a)]) X mv_X6_count (hM _) zw_541 (zPreVO hP hD hK hpm he rfl rfl) rfl hl (Nat.le_of_ble_eq_true rfl) dL_count_4 ⟨rfl, rfl, ⟨Nat.le_of_ble_eq_true rfl, Nat.le_of_ble_eq_true rfl⟩, Nat.le_of_ble_eq_true rfl, Nat.le_of_ble_eq_true rfl⟩ rfl) hS hP hD hA hpm (fun r u H locs hpost hP hD hS => ?_)
  have hP := zPerm_P hP (List.perm_append_singleton _ _)
  have hD := zPerm_D hD (List.perm_append_singleton _ _)
  refine lv_i2l (v := r.toInt64) hX hB dL_count_7 rfl ?_
  refine va_last hX hB hK.1 hP hD hS 0 3 rfl rfl (nZ_in (n := 1) (by decide) (by decide) (by decide)) dL_count_8 (fun H locs hP hD hS => ?_)
  refine lv_goto (tgt := 15) hX hB dL_count_9 (by decide) ?_
  refine lv_iconst (v := nZ 0) hX hB dL_count_15 rfl ?_
  exact zRetI (zOc k ot (vp_updL g (nZ 0).toNatClampNeg r.toInt64) :: u) X hP hD hS rfl ⟨_, u, rfl, rfl, fun _ => by rw [hpost.1]; rfl, hpost.2⟩ dL_count_16

set_option maxHeartbeats 4000000 in
set_option maxRecDepth 100000 in
theorem zwt_count_1 (l : Launch) (D : va_G) (k : Nat → ClassId) (h ot : Nat) (a : Int) (g : Nat → Int64) (xs : va_W) (ans : Int) (P : va_W → Prop) (he : ∃ fs, (h, Sum.inr (6, fs)) ∈ xs) (hM : ∀ sz, vx_Met l yX6_count (zW yX6_count cX6_count 2 (some .int)) zRB (va_Pc [.ref h, .int (nZ a)] (zInT D k sz xs)) (va_Qi (fun (_ : Int32) (_ : Unit) => False) (fun (_ : Unit) (_ : State) => True) (va_A xs sz)) (zXC D zIA xs (va_A xs sz)) 10 110 (va_A xs sz)) (hQ : P xs) : ∀ sz, Met l yL_count (zWW yL_count cL_count 4 (some .int) [(0, 9, 12, 15)]) zRW (va_Pc [.ref h, .int (nZ a), .ref ot] (zInT D k sz (zOc k ot g :: xs))) (va_Qi (zWR k ot 1 ans P) (fun u => zOut D (va_A (zOc k ot g :: xs) sz) u) (va_A (zOc k ot g :: xs) sz)) 10 110 (va_A (zOc k ot g :: xs) sz) := by
  intro sz
  refine zEnterW (Qf := fun A => va_Qi (zWR k ot 1 ans P) (fun u => zOut D A u) A) RL (by decide) rfl (Nat.le_of_ble_eq_true rfl) ?_
  intro p9 e9 s9 m9 be9 me9 c9 ls A X hxt hxT hxZ hP hD hS hA hAe hl
  have hX := X.1; have hB := X.2.1; have hz := X.2.2.2.2.1; have hW := X.2.2.2.2.2.1; have hK := X.2.2.2.2.2.2.2; clear hAe
  have hl : lv_has ls 4 [(0, .ref h), (1, .int (nZ a)), (2, .ref ot)] := hl
  have hpm : (zOc k ot g :: xs).Perm (xs ++ [zOc k ot g]) := (List.perm_append_singleton _ _).symm
  refine lv_aload_n hX hB dL_count_0 rfl (lv_at hl 2 rfl) ?_
  refine lv_iconst (v := nZ 0) hX hB dL_count_1 rfl ?_
  refine lv_aload_n hX hB dL_count_2 rfl (lv_at hl 0 rfl) ?_
  refine lv_iload_n hX hB dL_count_3 rfl (lv_at hl 1 rfl) ?_
  obtain ⟨fs, he⟩ := he
  have hF := zO_F hpm hD hS hA
  have hpv : PreV s9 s9.heap yX6_count.cls h (va_Pc [.ref h, .int (nZ a)] (zInT D k s9.heap.size xs)) [.int (nZ a)] := zPreVOT hP hD hK hS hA hxT hxZ hpm he rfl rfl
  refine vx_calli (vx_runV (Ts := wsL_law) ⟨X.1, X.2.1, X.2.2.2.1, X.2.2.2.2.2.1, hz⟩ (hM _) ⟨callB_of 1 hz (zGoodL mv_X6_count.1) rfl rfl rfl (hz _ mv_X6_count.2.1) (hz _ zw_541) mv_X6_count.2.2.1 ⟨Nat.le_of_ble_eq_true rfl, Nat.le_of_ble_eq_true rfl⟩, hz _ mv_X6_count.2.2.2.1, hz _ mv_X6_count.2.2.2.2⟩ hpv rfl rfl hl.1 rfl (lv_room (Nat.le_of_ble_eq_true rfl)) dL_count_4 ⟨Nat.le_of_ble_eq_true rfl, Nat.le_of_ble_eq_true rfl⟩) hS (fun q _ h => hF q h) hF (fun q _ h => hF q h) ?_ (fun r u t H1 locs1 _ _ h => h.elim)
  intro E ce q9 u t H1 locs1 ht1 _ _ hb hsz hk hS1 hce hcv hcl
  obtain ⟨rfl, hP1, hD1⟩ := hb
  rw [ht1] at hP1
  obtain ⟨hP, hD⟩ := zJoinO hpm hP hD hk hF hP1 hD1
  have hP := zPerm_P hP (List.perm_append_singleton _ _)
  have hD := zPerm_D hD (List.perm_append_singleton _ _)
  refine vx_catch (own := RL) (name := zIA) hW [] (⟨0, 9, 12, 15⟩ : ExceptionTableEntry) [] hxt (fun z hz9 => by cases hz9) (by decide) (by decide) (hz _ zw_84) (hxT.use _ (List.mem_of_getElem? (i := 4) rfl)) hce hcv hcl ?_
  refine lv_astore_n (lv' := (3, .ref q9) :: [(0, .ref h), (1, .int (nZ a)), (2, .ref ot)]) hX hB dL_count_12 rfl hl (by decide) rfl (fun ls hl => ?_)
  refine lv_iconst (v := nZ 1) hX hB dL_count_13 rfl ?_
  exact zRetI (zOc k ot g :: xs) X hP hD hS1 rfl ⟨g, xs, rfl, rfl, fun h9 => absurd h9 (by decide), hQ⟩ dL_count_14

theorem mw_ends : zMW yL_ends cL_ends 6 (some .int) [(0, 12, 15, 13), (0, 12, 19, 15)] 5 := ⟨zw_573, zw_81, ⟨by decide +kernel, by decide +kernel, by decide +kernel⟩, zw_572⟩
set_option maxHeartbeats 4000000 in
set_option maxRecDepth 100000 in
theorem zwn_ends (l : Launch) (D : va_G) (k : Nat → ClassId) (h ot : Nat) (a c d : Int) (g : Nat → Int64) (xs : va_W) (ans : Int) (P : va_W → Prop) (he : ∃ fs, (h, Sum.inr (6, fs)) ∈ xs) (hM : ∀ sz, Met l yX6_ends (zW yX6_ends cX6_ends 4 (some .int)) zRB (va_Pc [.ref h, .int (nZ a), .int (nZ c), .int (nZ d)] (zIn D k sz xs)) (va_Qi (fun (r : Int32) (u : va_W) => r = nZ ans ∧ P u) (fun u => zOut D (va_A xs sz) u) (va_A xs sz)) 10 110 (va_A xs sz)) : ∀ sz, Met l yL_ends (zWW yL_ends cL_ends 6 (some .int) [(0, 12, 15, 13), (0, 12, 19, 15)]) zRW (va_Pc [.ref h, .int (nZ a), .int (nZ c), .int (nZ d), .ref ot] (zInT D k sz (zOc k ot g :: xs))) (va_Qi (zWR k ot 0 ans P) (fun u => zOut D (va_A (zOc k ot g :: xs) sz) u) (va_A (zOc k ot g :: xs) sz)) 10 110 (va_A (zOc k ot g :: xs) sz) := by
  intro sz
  refine zEnterW (Qf := fun A => va_Qi (zWR k ot 0 ans P) (fun u => zOut D A u) A) RL (by decide) rfl (Nat.le_of_ble_eq_true rfl) ?_
  intro p9 e9 s9 m9 be9 me9 c9 ls A X hxt hxT hxZ hP hD hS hA hAe hl
  have hX := X.1; have hB := X.2.1; have hz := X.2.2.2.2.1; have hW := X.2.2.2.2.2.1; have hK := X.2.2.2.2.2.2.2; clear hAe
  have hl : lv_has ls 6 [(0, .ref h), (1, .int (nZ a)), (2, .int (nZ c)), (3, .int (nZ d)), (4, .ref ot)] := hl
  have hpm : (zOc k ot g :: xs).Perm (xs ++ [zOc k ot g]) := (List.perm_append_singleton _ _).symm
  refine lv_aload hX hB dL_ends_0 (lv_at hl 4 rfl) ?_
  refine lv_iconst (v := nZ 0) hX hB dL_ends_2 rfl ?_
  refine lv_aload_n hX hB dL_ends_3 rfl (lv_at hl 0 rfl) ?_
  refine lv_iload_n hX hB dL_ends_4 rfl (lv_at hl 1 rfl) ?_
  refine lv_iload_n hX hB dL_ends_5 rfl (lv_at hl 2 rfl) ?_
  refine lv_iload_n hX hB dL_ends_6 rfl (lv_at hl 3 rfl) ?_
  obtain ⟨fs, he⟩ := he
  refine zCallIO (zRunV (As := [.int (nZ a), .int (nZ c), .int (nZ d)]) X mv_X6_ends (hM _) zw_574 (zPreVO hP hD hK hpm he rfl rfl) rfl hl (Nat.le_of_ble_eq_true rfl) dL_ends_7 ⟨rfl, rfl, ⟨Nat.le_of_ble_eq_true rfl, Nat.le_of_ble_eq_true rfl⟩, Nat.le_of_ble_eq_true rfl, Nat.le_of_ble_eq_true rfl⟩ rfl) hS hP hD hA hpm (fun r u H locs hpost hP hD hS => ?_)
  have hP := zPerm_P hP (List.perm_append_singleton _ _)
  have hD := zPerm_D hD (List.perm_append_singleton _ _)
  refine lv_i2l (v := r.toInt64) hX hB dL_ends_10 rfl ?_
  refine va_last hX hB hK.1 hP hD hS 0 3 rfl rfl (nZ_in (n := 1) (by decide) (by decide) (by decide)) dL_ends_11 (fun H locs hP hD hS => ?_)
  refine lv_goto (tgt := 23) hX hB dL_ends_12 (by decide) ?_
  refine lv_iconst (v := nZ 0) hX hB dL_ends_23 rfl ?_
  exact zRetI (zOc k ot (vp_updL g (nZ 0).toNatClampNeg r.toInt64) :: u) X hP hD hS rfl ⟨_, u, rfl, rfl, fun _ => by rw [hpost.1]; rfl, hpost.2⟩ dL_ends_24

set_option maxHeartbeats 4000000 in
set_option maxRecDepth 100000 in
theorem zwt_ends_1 (l : Launch) (D : va_G) (k : Nat → ClassId) (h ot : Nat) (a c d : Int) (g : Nat → Int64) (xs : va_W) (ans : Int) (P : va_W → Prop) (he : ∃ fs, (h, Sum.inr (6, fs)) ∈ xs) (hM : ∀ sz, vx_Met l yX6_ends (zW yX6_ends cX6_ends 4 (some .int)) zRB (va_Pc [.ref h, .int (nZ a), .int (nZ c), .int (nZ d)] (zInT D k sz xs)) (va_Qi (fun (_ : Int32) (_ : Unit) => False) (fun (_ : Unit) (_ : State) => True) (va_A xs sz)) (zXC D zIO xs (va_A xs sz)) 10 110 (va_A xs sz)) (hQ : P xs) : ∀ sz, Met l yL_ends (zWW yL_ends cL_ends 6 (some .int) [(0, 12, 15, 13), (0, 12, 19, 15)]) zRW (va_Pc [.ref h, .int (nZ a), .int (nZ c), .int (nZ d), .ref ot] (zInT D k sz (zOc k ot g :: xs))) (va_Qi (zWR k ot 1 ans P) (fun u => zOut D (va_A (zOc k ot g :: xs) sz) u) (va_A (zOc k ot g :: xs) sz)) 10 110 (va_A (zOc k ot g :: xs) sz) := by
  intro sz
  refine zEnterW (Qf := fun A => va_Qi (zWR k ot 1 ans P) (fun u => zOut D A u) A) RL (by decide) rfl (Nat.le_of_ble_eq_true rfl) ?_
  intro p9 e9 s9 m9 be9 me9 c9 ls A X hxt hxT hxZ hP hD hS hA hAe hl
  have hX := X.1; have hB := X.2.1; have hz := X.2.2.2.2.1; have hW := X.2.2.2.2.2.1; have hK := X.2.2.2.2.2.2.2; clear hAe
  have hl : lv_has ls 6 [(0, .ref h), (1, .int (nZ a)), (2, .int (nZ c)), (3, .int (nZ d)), (4, .ref ot)] := hl
  have hpm : (zOc k ot g :: xs).Perm (xs ++ [zOc k ot g]) := (List.perm_append_singleton _ _).symm
  refine lv_aload hX hB dL_ends_0 (lv_at hl 4 rfl) ?_
  refine lv_iconst (v := nZ 0) hX hB dL_ends_2 rfl ?_
  refine lv_aload_n hX hB dL_ends_3 rfl (lv_at hl 0 rfl) ?_
  refine lv_iload_n hX hB dL_ends_4 rfl (lv_at hl 1 rfl) ?_
  refine lv_iload_n hX hB dL_ends_5 rfl (lv_at hl 2 rfl) ?_
  refine lv_iload_n hX hB dL_ends_6 rfl (lv_at hl 3 rfl) ?_
  obtain ⟨fs, he⟩ := he
  have hF := zO_F hpm hD hS hA
  have hpv : PreV s9 s9.heap yX6_ends.cls h (va_Pc [.ref h, .int (nZ a), .int (nZ c), .int (nZ d)] (zInT D k s9.heap.size xs)) [.int (nZ a), .int (nZ c), .int (nZ d)] := zPreVOT hP hD hK hS hA hxT hxZ hpm he rfl rfl
  refine vx_calli (vx_runV (Ts := wsL_law) ⟨X.1, X.2.1, X.2.2.2.1, X.2.2.2.2.2.1, hz⟩ (hM _) ⟨callB_of 3 hz (zGoodL mv_X6_ends.1) rfl rfl rfl (hz _ mv_X6_ends.2.1) (hz _ zw_574) mv_X6_ends.2.2.1 ⟨Nat.le_of_ble_eq_true rfl, Nat.le_of_ble_eq_true rfl⟩, hz _ mv_X6_ends.2.2.2.1, hz _ mv_X6_ends.2.2.2.2⟩ hpv rfl rfl hl.1 rfl (lv_room (Nat.le_of_ble_eq_true rfl)) dL_ends_7 ⟨Nat.le_of_ble_eq_true rfl, Nat.le_of_ble_eq_true rfl⟩) hS (fun q _ h => hF q h) hF (fun q _ h => hF q h) ?_ (fun r u t H1 locs1 _ _ h => h.elim)
  intro E ce q9 u t H1 locs1 ht1 _ _ hb hsz hk hS1 hce hcv hcl
  obtain ⟨rfl, hP1, hD1⟩ := hb
  rw [ht1] at hP1
  obtain ⟨hP, hD⟩ := zJoinO hpm hP hD hk hF hP1 hD1
  have hP := zPerm_P hP (List.perm_append_singleton _ _)
  have hD := zPerm_D hD (List.perm_append_singleton _ _)
  refine vx_catch (own := RL) (name := zIO) hW [] (⟨0, 12, 15, 13⟩ : ExceptionTableEntry) [(⟨0, 12, 19, 15⟩ : ExceptionTableEntry)] hxt (fun z hz9 => by cases hz9) (by decide) (by decide) (hz _ zw_83) (hxT.use _ (List.mem_of_getElem? (i := 3) rfl)) hce hcv hcl ?_
  refine lv_astore (lv' := (5, .ref q9) :: [(0, .ref h), (1, .int (nZ a)), (2, .int (nZ c)), (3, .int (nZ d)), (4, .ref ot)]) hX hB dL_ends_15 hl (by decide) rfl (fun ls hl => ?_)
  refine lv_iconst (v := nZ 1) hX hB dL_ends_17 rfl ?_
  exact zRetI (zOc k ot g :: xs) X hP hD hS1 rfl ⟨g, xs, rfl, rfl, fun h9 => absurd h9 (by decide), hQ⟩ dL_ends_18

set_option maxHeartbeats 4000000 in
set_option maxRecDepth 100000 in
theorem zwt_ends_2 (l : Launch) (D : va_G) (k : Nat → ClassId) (h ot : Nat) (a c d : Int) (g : Nat → Int64) (xs : va_W) (ans : Int) (P : va_W → Prop) (he : ∃ fs, (h, Sum.inr (6, fs)) ∈ xs) (hM : ∀ sz, vx_Met l yX6_ends (zW yX6_ends cX6_ends 4 (some .int)) zRB (va_Pc [.ref h, .int (nZ a), .int (nZ c), .int (nZ d)] (zInT D k sz xs)) (va_Qi (fun (_ : Int32) (_ : Unit) => False) (fun (_ : Unit) (_ : State) => True) (va_A xs sz)) (zXC D zIA xs (va_A xs sz)) 10 110 (va_A xs sz)) (hQ : P xs) : ∀ sz, Met l yL_ends (zWW yL_ends cL_ends 6 (some .int) [(0, 12, 15, 13), (0, 12, 19, 15)]) zRW (va_Pc [.ref h, .int (nZ a), .int (nZ c), .int (nZ d), .ref ot] (zInT D k sz (zOc k ot g :: xs))) (va_Qi (zWR k ot 2 ans P) (fun u => zOut D (va_A (zOc k ot g :: xs) sz) u) (va_A (zOc k ot g :: xs) sz)) 10 110 (va_A (zOc k ot g :: xs) sz) := by
  intro sz
  refine zEnterW (Qf := fun A => va_Qi (zWR k ot 2 ans P) (fun u => zOut D A u) A) RL (by decide) rfl (Nat.le_of_ble_eq_true rfl) ?_
  intro p9 e9 s9 m9 be9 me9 c9 ls A X hxt hxT hxZ hP hD hS hA hAe hl
  have hX := X.1; have hB := X.2.1; have hz := X.2.2.2.2.1; have hW := X.2.2.2.2.2.1; have hK := X.2.2.2.2.2.2.2; clear hAe
  have hl : lv_has ls 6 [(0, .ref h), (1, .int (nZ a)), (2, .int (nZ c)), (3, .int (nZ d)), (4, .ref ot)] := hl
  have hpm : (zOc k ot g :: xs).Perm (xs ++ [zOc k ot g]) := (List.perm_append_singleton _ _).symm
  refine lv_aload hX hB dL_ends_0 (lv_at hl 4 rfl) ?_
  refine lv_iconst (v := nZ 0) hX hB dL_ends_2 rfl ?_
  refine lv_aload_n hX hB dL_ends_3 rfl (lv_at hl 0 rfl) ?_
  refine lv_iload_n hX hB dL_ends_4 rfl (lv_at hl 1 rfl) ?_
  refine lv_iload_n hX hB dL_ends_5 rfl (lv_at hl 2 rfl) ?_
  refine lv_iload_n hX hB dL_ends_6 rfl (lv_at hl 3 rfl) ?_
  obtain ⟨fs, he⟩ := he
  have hF := zO_F hpm hD hS hA
  have hpv : PreV s9 s9.heap yX6_ends.cls h (va_Pc [.ref h, .int (nZ a), .int (nZ c), .int (nZ d)] (zInT D k s9.heap.size xs)) [.int (nZ a), .int (nZ c), .int (nZ d)] := zPreVOT hP hD hK hS hA hxT hxZ hpm he rfl rfl
  refine vx_calli (vx_runV (Ts := wsL_law) ⟨X.1, X.2.1, X.2.2.2.1, X.2.2.2.2.2.1, hz⟩ (hM _) ⟨callB_of 3 hz (zGoodL mv_X6_ends.1) rfl rfl rfl (hz _ mv_X6_ends.2.1) (hz _ zw_574) mv_X6_ends.2.2.1 ⟨Nat.le_of_ble_eq_true rfl, Nat.le_of_ble_eq_true rfl⟩, hz _ mv_X6_ends.2.2.2.1, hz _ mv_X6_ends.2.2.2.2⟩ hpv rfl rfl hl.1 rfl (lv_room (Nat.le_of_ble_eq_true rfl)) dL_ends_7 ⟨Nat.le_of_ble_eq_true rfl, Nat.le_of_ble_eq_true rfl⟩) hS (fun q _ h => hF q h) hF (fun q _ h => hF q h) ?_ (fun r u t H1 locs1 _ _ h => h.elim)
  intro E ce q9 u t H1 locs1 ht1 _ _ hb hsz hk hS1 hce hcv hcl
  obtain ⟨rfl, hP1, hD1⟩ := hb
  rw [ht1] at hP1
  obtain ⟨hP, hD⟩ := zJoinO hpm hP hD hk hF hP1 hD1
  have hP := zPerm_P hP (List.perm_append_singleton _ _)
  have hD := zPerm_D hD (List.perm_append_singleton _ _)
  refine vx_catch (own := RL) (name := zIA) hW [(⟨0, 12, 15, 13⟩ : ExceptionTableEntry)] (⟨0, 12, 19, 15⟩ : ExceptionTableEntry) [] hxt (fun z hz9 => by rcases List.mem_singleton.mp hz9 with rfl; exact Or.inr ⟨by decide, zIO, hz _ zw_83, hxT.2.2.1⟩) (by decide) (by decide) (hz _ zw_84) (hxT.use _ (List.mem_of_getElem? (i := 4) rfl)) hce hcv hcl ?_
  refine lv_astore (lv' := (5, .ref q9) :: [(0, .ref h), (1, .int (nZ a)), (2, .int (nZ c)), (3, .int (nZ d)), (4, .ref ot)]) hX hB dL_ends_19 hl (by decide) rfl (fun ls hl => ?_)
  refine lv_iconst (v := nZ 2) hX hB dL_ends_21 rfl ?_
  exact zRetI (zOc k ot g :: xs) X hP hD hS1 rfl ⟨g, xs, rfl, rfl, fun h9 => absurd h9 (by decide), hQ⟩ dL_ends_22

theorem mw_ifPushed : zMW yL_ifPushed cL_ifPushed 5 (some .int) [(0, 10, 13, 13), (0, 10, 17, 15)] 4 := ⟨zw_604, zw_81, ⟨by decide +kernel, by decide +kernel, by decide +kernel⟩, zw_603⟩
set_option maxHeartbeats 4000000 in
set_option maxRecDepth 100000 in
theorem zwn_ifPushed (l : Launch) (D : va_G) (k : Nat → ClassId) (h ot : Nat) (a c : Int) (g : Nat → Int64) (xs : va_W) (ans : Int) (P : va_W → Prop) (he : ∃ fs, (h, Sum.inr (6, fs)) ∈ xs) (hM : ∀ sz, Met l yX6_ifPushed (zW yX6_ifPushed cX6_ifPushed 4 (some .int)) zRB (va_Pc [.ref h, .int (nZ a), .int (nZ c)] (zIn D k sz xs)) (va_Qi (fun (r : Int32) (u : va_W) => r = nZ ans ∧ P u) (fun u => zOut D (va_A xs sz) u) (va_A xs sz)) 10 110 (va_A xs sz)) : ∀ sz, Met l yL_ifPushed (zWW yL_ifPushed cL_ifPushed 5 (some .int) [(0, 10, 13, 13), (0, 10, 17, 15)]) zRW (va_Pc [.ref h, .int (nZ a), .int (nZ c), .ref ot] (zInT D k sz (zOc k ot g :: xs))) (va_Qi (zWR k ot 0 ans P) (fun u => zOut D (va_A (zOc k ot g :: xs) sz) u) (va_A (zOc k ot g :: xs) sz)) 10 110 (va_A (zOc k ot g :: xs) sz) := by
  intro sz
  refine zEnterW (Qf := fun A => va_Qi (zWR k ot 0 ans P) (fun u => zOut D A u) A) RL (by decide) rfl (Nat.le_of_ble_eq_true rfl) ?_
  intro p9 e9 s9 m9 be9 me9 c9 ls A X hxt hxT hxZ hP hD hS hA hAe hl
  have hX := X.1; have hB := X.2.1; have hz := X.2.2.2.2.1; have hW := X.2.2.2.2.2.1; have hK := X.2.2.2.2.2.2.2; clear hAe
  have hl : lv_has ls 5 [(0, .ref h), (1, .int (nZ a)), (2, .int (nZ c)), (3, .ref ot)] := hl
  have hpm : (zOc k ot g :: xs).Perm (xs ++ [zOc k ot g]) := (List.perm_append_singleton _ _).symm
  refine lv_aload_n hX hB dL_ifPushed_0 rfl (lv_at hl 3 rfl) ?_
  refine lv_iconst (v := nZ 0) hX hB dL_ifPushed_1 rfl ?_
  refine lv_aload_n hX hB dL_ifPushed_2 rfl (lv_at hl 0 rfl) ?_
  refine lv_iload_n hX hB dL_ifPushed_3 rfl (lv_at hl 1 rfl) ?_
  refine lv_iload_n hX hB dL_ifPushed_4 rfl (lv_at hl 2 rfl) ?_
  obtain ⟨fs, he⟩ := he
  refine zCallIO (zRunV (As := [.int (nZ a), .int (nZ c)]) X mv_X6_ifPushed (hM _) zw_605 (zPreVO hP hD hK hpm he rfl rfl) rfl hl (Nat.le_of_ble_eq_true rfl) dL_ifPushed_5 ⟨rfl, rfl, ⟨Nat.le_of_ble_eq_true rfl, Nat.le_of_ble_eq_true rfl⟩, Nat.le_of_ble_eq_true rfl, Nat.le_of_ble_eq_true rfl⟩ rfl) hS hP hD hA hpm (fun r u H locs hpost hP hD hS => ?_)
  have hP := zPerm_P hP (List.perm_append_singleton _ _)
  have hD := zPerm_D hD (List.perm_append_singleton _ _)
  refine lv_i2l (v := r.toInt64) hX hB dL_ifPushed_8 rfl ?_
  refine va_last hX hB hK.1 hP hD hS 0 3 rfl rfl (nZ_in (n := 1) (by decide) (by decide) (by decide)) dL_ifPushed_9 (fun H locs hP hD hS => ?_)
  refine lv_goto (tgt := 21) hX hB dL_ifPushed_10 (by decide) ?_
  refine lv_iconst (v := nZ 0) hX hB dL_ifPushed_21 rfl ?_
  exact zRetI (zOc k ot (vp_updL g (nZ 0).toNatClampNeg r.toInt64) :: u) X hP hD hS rfl ⟨_, u, rfl, rfl, fun _ => by rw [hpost.1]; rfl, hpost.2⟩ dL_ifPushed_22

set_option maxHeartbeats 4000000 in
set_option maxRecDepth 100000 in
theorem zwt_ifPushed_1 (l : Launch) (D : va_G) (k : Nat → ClassId) (h ot : Nat) (a c : Int) (g : Nat → Int64) (xs : va_W) (ans : Int) (P : va_W → Prop) (he : ∃ fs, (h, Sum.inr (6, fs)) ∈ xs) (hM : ∀ sz, vx_Met l yX6_ifPushed (zW yX6_ifPushed cX6_ifPushed 4 (some .int)) zRB (va_Pc [.ref h, .int (nZ a), .int (nZ c)] (zInT D k sz xs)) (va_Qi (fun (_ : Int32) (_ : Unit) => False) (fun (_ : Unit) (_ : State) => True) (va_A xs sz)) (zXC D zIO xs (va_A xs sz)) 10 110 (va_A xs sz)) (hQ : P xs) : ∀ sz, Met l yL_ifPushed (zWW yL_ifPushed cL_ifPushed 5 (some .int) [(0, 10, 13, 13), (0, 10, 17, 15)]) zRW (va_Pc [.ref h, .int (nZ a), .int (nZ c), .ref ot] (zInT D k sz (zOc k ot g :: xs))) (va_Qi (zWR k ot 1 ans P) (fun u => zOut D (va_A (zOc k ot g :: xs) sz) u) (va_A (zOc k ot g :: xs) sz)) 10 110 (va_A (zOc k ot g :: xs) sz) := by
  intro sz
  refine zEnterW (Qf := fun A => va_Qi (zWR k ot 1 ans P) (fun u => zOut D A u) A) RL (by decide) rfl (Nat.le_of_ble_eq_true rfl) ?_
  intro p9 e9 s9 m9 be9 me9 c9 ls A X hxt hxT hxZ hP hD hS hA hAe hl
  have hX := X.1; have hB := X.2.1; have hz := X.2.2.2.2.1; have hW := X.2.2.2.2.2.1; have hK := X.2.2.2.2.2.2.2; clear hAe
  have hl : lv_has ls 5 [(0, .ref h), (1, .int (nZ a)), (2, .int (nZ c)), (3, .ref ot)] := hl
  have hpm : (zOc k ot g :: xs).Perm (xs ++ [zOc k ot g]) := (List.perm_append_singleton _ _).symm
  refine lv_aload_n hX hB dL_ifPushed_0 rfl (lv_at hl 3 rfl) ?_
  refine lv_iconst (v := nZ 0) hX hB dL_ifPushed_1 rfl ?_
  refine lv_aload_n hX hB dL_ifPushed_2 rfl (lv_at hl 0 rfl) ?_
  refine lv_iload_n hX hB dL_ifPushed_3 rfl (lv_at hl 1 rfl) ?_
  refine lv_iload_n hX hB dL_ifPushed_4 rfl (lv_at hl 2 rfl) ?_
  obtain ⟨fs, he⟩ := he
  have hF := zO_F hpm hD hS hA
  have hpv : PreV s9 s9.heap yX6_ifPushed.cls h (va_Pc [.ref h, .int (nZ a), .int (nZ c)] (zInT D k s9.heap.size xs)) [.int (nZ a), .int (nZ c)] := zPreVOT hP hD hK hS hA hxT hxZ hpm he rfl rfl
  refine vx_calli (vx_runV (Ts := wsL_law) ⟨X.1, X.2.1, X.2.2.2.1, X.2.2.2.2.2.1, hz⟩ (hM _) ⟨callB_of 2 hz (zGoodL mv_X6_ifPushed.1) rfl rfl rfl (hz _ mv_X6_ifPushed.2.1) (hz _ zw_605) mv_X6_ifPushed.2.2.1 ⟨Nat.le_of_ble_eq_true rfl, Nat.le_of_ble_eq_true rfl⟩, hz _ mv_X6_ifPushed.2.2.2.1, hz _ mv_X6_ifPushed.2.2.2.2⟩ hpv rfl rfl hl.1 rfl (lv_room (Nat.le_of_ble_eq_true rfl)) dL_ifPushed_5 ⟨Nat.le_of_ble_eq_true rfl, Nat.le_of_ble_eq_true rfl⟩) hS (fun q _ h => hF q h) hF (fun q _ h => hF q h) ?_ (fun r u t H1 locs1 _ _ h => h.elim)
  intro E ce q9 u t H1 locs1 ht1 _ _ hb hsz hk hS1 hce hcv hcl
  obtain ⟨rfl, hP1, hD1⟩ := hb
  rw [ht1] at hP1
  obtain ⟨hP, hD⟩ := zJoinO hpm hP hD hk hF hP1 hD1
  have hP := zPerm_P hP (List.perm_append_singleton _ _)
  have hD := zPerm_D hD (List.perm_append_singleton _ _)
  refine vx_catch (own := RL) (name := zIO) hW [] (⟨0, 10, 13, 13⟩ : ExceptionTableEntry) [(⟨0, 10, 17, 15⟩ : ExceptionTableEntry)] hxt (fun z hz9 => by cases hz9) (by decide) (by decide) (hz _ zw_83) (hxT.use _ (List.mem_of_getElem? (i := 3) rfl)) hce hcv hcl ?_
  refine lv_astore (lv' := (4, .ref q9) :: [(0, .ref h), (1, .int (nZ a)), (2, .int (nZ c)), (3, .ref ot)]) hX hB dL_ifPushed_13 hl (by decide) rfl (fun ls hl => ?_)
  refine lv_iconst (v := nZ 1) hX hB dL_ifPushed_15 rfl ?_
  exact zRetI (zOc k ot g :: xs) X hP hD hS1 rfl ⟨g, xs, rfl, rfl, fun h9 => absurd h9 (by decide), hQ⟩ dL_ifPushed_16

set_option maxHeartbeats 4000000 in
set_option maxRecDepth 100000 in
theorem zwt_ifPushed_2 (l : Launch) (D : va_G) (k : Nat → ClassId) (h ot : Nat) (a c : Int) (g : Nat → Int64) (xs : va_W) (ans : Int) (P : va_W → Prop) (he : ∃ fs, (h, Sum.inr (6, fs)) ∈ xs) (hM : ∀ sz, vx_Met l yX6_ifPushed (zW yX6_ifPushed cX6_ifPushed 4 (some .int)) zRB (va_Pc [.ref h, .int (nZ a), .int (nZ c)] (zInT D k sz xs)) (va_Qi (fun (_ : Int32) (_ : Unit) => False) (fun (_ : Unit) (_ : State) => True) (va_A xs sz)) (zXC D zIA xs (va_A xs sz)) 10 110 (va_A xs sz)) (hQ : P xs) : ∀ sz, Met l yL_ifPushed (zWW yL_ifPushed cL_ifPushed 5 (some .int) [(0, 10, 13, 13), (0, 10, 17, 15)]) zRW (va_Pc [.ref h, .int (nZ a), .int (nZ c), .ref ot] (zInT D k sz (zOc k ot g :: xs))) (va_Qi (zWR k ot 2 ans P) (fun u => zOut D (va_A (zOc k ot g :: xs) sz) u) (va_A (zOc k ot g :: xs) sz)) 10 110 (va_A (zOc k ot g :: xs) sz) := by
  intro sz
  refine zEnterW (Qf := fun A => va_Qi (zWR k ot 2 ans P) (fun u => zOut D A u) A) RL (by decide) rfl (Nat.le_of_ble_eq_true rfl) ?_
  intro p9 e9 s9 m9 be9 me9 c9 ls A X hxt hxT hxZ hP hD hS hA hAe hl
  have hX := X.1; have hB := X.2.1; have hz := X.2.2.2.2.1; have hW := X.2.2.2.2.2.1; have hK := X.2.2.2.2.2.2.2; clear hAe
  have hl : lv_has ls 5 [(0, .ref h), (1, .int (nZ a)), (2, .int (nZ c)), (3, .ref ot)] := hl
  have hpm : (zOc k ot g :: xs).Perm (xs ++ [zOc k ot g]) := (List.perm_append_singleton _ _).symm
  refine lv_aload_n hX hB dL_ifPushed_0 rfl (lv_at hl 3 rfl) ?_
  refine lv_iconst (v := nZ 0) hX hB dL_ifPushed_1 rfl ?_
  refine lv_aload_n hX hB dL_ifPushed_2 rfl (lv_at hl 0 rfl) ?_
  refine lv_iload_n hX hB dL_ifPushed_3 rfl (lv_at hl 1 rfl) ?_
  refine lv_iload_n hX hB dL_ifPushed_4 rfl (lv_at hl 2 rfl) ?_
  obtain ⟨fs, he⟩ := he
  have hF := zO_F hpm hD hS hA
  have hpv : PreV s9 s9.heap yX6_ifPushed.cls h (va_Pc [.ref h, .int (nZ a), .int (nZ c)] (zInT D k s9.heap.size xs)) [.int (nZ a), .int (nZ c)] := zPreVOT hP hD hK hS hA hxT hxZ hpm he rfl rfl
  refine vx_calli (vx_runV (Ts := wsL_law) ⟨X.1, X.2.1, X.2.2.2.1, X.2.2.2.2.2.1, hz⟩ (hM _) ⟨callB_of 2 hz (zGoodL mv_X6_ifPushed.1) rfl rfl rfl (hz _ mv_X6_ifPushed.2.1) (hz _ zw_605) mv_X6_ifPushed.2.2.1 ⟨Nat.le_of_ble_eq_true rfl, Nat.le_of_ble_eq_true rfl⟩, hz _ mv_X6_ifPushed.2.2.2.1, hz _ mv_X6_ifPushed.2.2.2.2⟩ hpv rfl rfl hl.1 rfl (lv_room (Nat.le_of_ble_eq_true rfl)) dL_ifPushed_5 ⟨Nat.le_of_ble_eq_true rfl, Nat.le_of_ble_eq_true rfl⟩) hS (fun q _ h => hF q h) hF (fun q _ h => hF q h) ?_ (fun r u t H1 locs1 _ _ h => h.elim)
  intro E ce q9 u t H1 locs1 ht1 _ _ hb hsz hk hS1 hce hcv hcl
  obtain ⟨rfl, hP1, hD1⟩ := hb
  rw [ht1] at hP1
  obtain ⟨hP, hD⟩ := zJoinO hpm hP hD hk hF hP1 hD1
  have hP := zPerm_P hP (List.perm_append_singleton _ _)
  have hD := zPerm_D hD (List.perm_append_singleton _ _)
  refine vx_catch (own := RL) (name := zIA) hW [(⟨0, 10, 13, 13⟩ : ExceptionTableEntry)] (⟨0, 10, 17, 15⟩ : ExceptionTableEntry) [] hxt (fun z hz9 => by rcases List.mem_singleton.mp hz9 with rfl; exact Or.inr ⟨by decide, zIO, hz _ zw_83, hxT.2.2.1⟩) (by decide) (by decide) (hz _ zw_84) (hxT.use _ (List.mem_of_getElem? (i := 4) rfl)) hce hcv hcl ?_
  refine lv_astore (lv' := (4, .ref q9) :: [(0, .ref h), (1, .int (nZ a)), (2, .int (nZ c)), (3, .ref ot)]) hX hB dL_ifPushed_17 hl (by decide) rfl (fun ls hl => ?_)
  refine lv_iconst (v := nZ 2) hX hB dL_ifPushed_19 rfl ?_
  exact zRetI (zOc k ot g :: xs) X hP hD hS1 rfl ⟨g, xs, rfl, rfl, fun h9 => absurd h9 (by decide), hQ⟩ dL_ifPushed_20

theorem mw_strengthFor : zMW yL_strengthFor cL_strengthFor 5 (some .int) [(0, 10, 13, 13)] 4 := ⟨zw_619, zw_81, ⟨by decide +kernel, by decide +kernel, by decide +kernel⟩, zw_618⟩
set_option maxHeartbeats 4000000 in
set_option maxRecDepth 100000 in
theorem zwn_strengthFor (l : Launch) (D : va_G) (k : Nat → ClassId) (h ot : Nat) (a c : Int) (g : Nat → Int64) (xs : va_W) (ans : Int) (P : va_W → Prop) (he : ∃ fs, (h, Sum.inr (6, fs)) ∈ xs) (hM : ∀ sz, Met l yX6_strengthFor (zW yX6_strengthFor cX6_strengthFor 5 (some .int)) zRB (va_Pc [.ref h, .int (nZ a), .int (nZ c)] (zIn D k sz xs)) (va_Qi (fun (r : Int32) (u : va_W) => r = nZ ans ∧ P u) (fun u => zOut D (va_A xs sz) u) (va_A xs sz)) 10 110 (va_A xs sz)) : ∀ sz, Met l yL_strengthFor (zWW yL_strengthFor cL_strengthFor 5 (some .int) [(0, 10, 13, 13)]) zRW (va_Pc [.ref h, .int (nZ a), .int (nZ c), .ref ot] (zInT D k sz (zOc k ot g :: xs))) (va_Qi (zWR k ot 0 ans P) (fun u => zOut D (va_A (zOc k ot g :: xs) sz) u) (va_A (zOc k ot g :: xs) sz)) 10 110 (va_A (zOc k ot g :: xs) sz) := by
  intro sz
  refine zEnterW (Qf := fun A => va_Qi (zWR k ot 0 ans P) (fun u => zOut D A u) A) RL (by decide) rfl (Nat.le_of_ble_eq_true rfl) ?_
  intro p9 e9 s9 m9 be9 me9 c9 ls A X hxt hxT hxZ hP hD hS hA hAe hl
  have hX := X.1; have hB := X.2.1; have hz := X.2.2.2.2.1; have hW := X.2.2.2.2.2.1; have hK := X.2.2.2.2.2.2.2; clear hAe
  have hl : lv_has ls 5 [(0, .ref h), (1, .int (nZ a)), (2, .int (nZ c)), (3, .ref ot)] := hl
  have hpm : (zOc k ot g :: xs).Perm (xs ++ [zOc k ot g]) := (List.perm_append_singleton _ _).symm
  refine lv_aload_n hX hB dL_strengthFor_0 rfl (lv_at hl 3 rfl) ?_
  refine lv_iconst (v := nZ 0) hX hB dL_strengthFor_1 rfl ?_
  refine lv_aload_n hX hB dL_strengthFor_2 rfl (lv_at hl 0 rfl) ?_
  refine lv_iload_n hX hB dL_strengthFor_3 rfl (lv_at hl 1 rfl) ?_
  refine lv_iload_n hX hB dL_strengthFor_4 rfl (lv_at hl 2 rfl) ?_
  obtain ⟨fs, he⟩ := he
  refine zCallIO (zRunV (As := [.int (nZ a), .int (nZ c)]) X mv_X6_strengthFor (hM _) zw_620 (zPreVO hP hD hK hpm he rfl rfl) rfl hl (Nat.le_of_ble_eq_true rfl) dL_strengthFor_5 ⟨rfl, rfl, ⟨Nat.le_of_ble_eq_true rfl, Nat.le_of_ble_eq_true rfl⟩, Nat.le_of_ble_eq_true rfl, Nat.le_of_ble_eq_true rfl⟩ rfl) hS hP hD hA hpm (fun r u H locs hpost hP hD hS => ?_)
  have hP := zPerm_P hP (List.perm_append_singleton _ _)
  have hD := zPerm_D hD (List.perm_append_singleton _ _)
  refine lv_i2l (v := r.toInt64) hX hB dL_strengthFor_8 rfl ?_
  refine va_last hX hB hK.1 hP hD hS 0 3 rfl rfl (nZ_in (n := 1) (by decide) (by decide) (by decide)) dL_strengthFor_9 (fun H locs hP hD hS => ?_)
  refine lv_goto (tgt := 17) hX hB dL_strengthFor_10 (by decide) ?_
  refine lv_iconst (v := nZ 0) hX hB dL_strengthFor_17 rfl ?_
  exact zRetI (zOc k ot (vp_updL g (nZ 0).toNatClampNeg r.toInt64) :: u) X hP hD hS rfl ⟨_, u, rfl, rfl, fun _ => by rw [hpost.1]; rfl, hpost.2⟩ dL_strengthFor_18

set_option maxHeartbeats 4000000 in
set_option maxRecDepth 100000 in
theorem zwt_strengthFor_1 (l : Launch) (D : va_G) (k : Nat → ClassId) (h ot : Nat) (a c : Int) (g : Nat → Int64) (xs : va_W) (ans : Int) (P : va_W → Prop) (he : ∃ fs, (h, Sum.inr (6, fs)) ∈ xs) (hM : ∀ sz, vx_Met l yX6_strengthFor (zW yX6_strengthFor cX6_strengthFor 5 (some .int)) zRB (va_Pc [.ref h, .int (nZ a), .int (nZ c)] (zInT D k sz xs)) (va_Qi (fun (_ : Int32) (_ : Unit) => False) (fun (_ : Unit) (_ : State) => True) (va_A xs sz)) (zXC D zIO xs (va_A xs sz)) 10 110 (va_A xs sz)) (hQ : P xs) : ∀ sz, Met l yL_strengthFor (zWW yL_strengthFor cL_strengthFor 5 (some .int) [(0, 10, 13, 13)]) zRW (va_Pc [.ref h, .int (nZ a), .int (nZ c), .ref ot] (zInT D k sz (zOc k ot g :: xs))) (va_Qi (zWR k ot 1 ans P) (fun u => zOut D (va_A (zOc k ot g :: xs) sz) u) (va_A (zOc k ot g :: xs) sz)) 10 110 (va_A (zOc k ot g :: xs) sz) := by
  intro sz
  refine zEnterW (Qf := fun A => va_Qi (zWR k ot 1 ans P) (fun u => zOut D A u) A) RL (by decide) rfl (Nat.le_of_ble_eq_true rfl) ?_
  intro p9 e9 s9 m9 be9 me9 c9 ls A X hxt hxT hxZ hP hD hS hA hAe hl
  have hX := X.1; have hB := X.2.1; have hz := X.2.2.2.2.1; have hW := X.2.2.2.2.2.1; have hK := X.2.2.2.2.2.2.2; clear hAe
  have hl : lv_has ls 5 [(0, .ref h), (1, .int (nZ a)), (2, .int (nZ c)), (3, .ref ot)] := hl
  have hpm : (zOc k ot g :: xs).Perm (xs ++ [zOc k ot g]) := (List.perm_append_singleton _ _).symm
  refine lv_aload_n hX hB dL_strengthFor_0 rfl (lv_at hl 3 rfl) ?_
  refine lv_iconst (v := nZ 0) hX hB dL_strengthFor_1 rfl ?_
  refine lv_aload_n hX hB dL_strengthFor_2 rfl (lv_at hl 0 rfl) ?_
  refine lv_iload_n hX hB dL_strengthFor_3 rfl (lv_at hl 1 rfl) ?_
  refine lv_iload_n hX hB dL_strengthFor_4 rfl (lv_at hl 2 rfl) ?_
  obtain ⟨fs, he⟩ := he
  have hF := zO_F hpm hD hS hA
  have hpv : PreV s9 s9.heap yX6_strengthFor.cls h (va_Pc [.ref h, .int (nZ a), .int (nZ c)] (zInT D k s9.heap.size xs)) [.int (nZ a), .int (nZ c)] := zPreVOT hP hD hK hS hA hxT hxZ hpm he rfl rfl
  refine vx_calli (vx_runV (Ts := wsL_law) ⟨X.1, X.2.1, X.2.2.2.1, X.2.2.2.2.2.1, hz⟩ (hM _) ⟨callB_of 2 hz (zGoodL mv_X6_strengthFor.1) rfl rfl rfl (hz _ mv_X6_strengthFor.2.1) (hz _ zw_620) mv_X6_strengthFor.2.2.1 ⟨Nat.le_of_ble_eq_true rfl, Nat.le_of_ble_eq_true rfl⟩, hz _ mv_X6_strengthFor.2.2.2.1, hz _ mv_X6_strengthFor.2.2.2.2⟩ hpv rfl rfl hl.1 rfl (lv_room (Nat.le_of_ble_eq_true rfl)) dL_strengthFor_5 ⟨Nat.le_of_ble_eq_true rfl, Nat.le_of_ble_eq_true rfl⟩) hS (fun q _ h => hF q h) hF (fun q _ h => hF q h) ?_ (fun r u t H1 locs1 _ _ h => h.elim)
  intro E ce q9 u t H1 locs1 ht1 _ _ hb hsz hk hS1 hce hcv hcl
  obtain ⟨rfl, hP1, hD1⟩ := hb
  rw [ht1] at hP1
  obtain ⟨hP, hD⟩ := zJoinO hpm hP hD hk hF hP1 hD1
  have hP := zPerm_P hP (List.perm_append_singleton _ _)
  have hD := zPerm_D hD (List.perm_append_singleton _ _)
  refine vx_catch (own := RL) (name := zIO) hW [] (⟨0, 10, 13, 13⟩ : ExceptionTableEntry) [] hxt (fun z hz9 => by cases hz9) (by decide) (by decide) (hz _ zw_83) (hxT.use _ (List.mem_of_getElem? (i := 3) rfl)) hce hcv hcl ?_
  refine lv_astore (lv' := (4, .ref q9) :: [(0, .ref h), (1, .int (nZ a)), (2, .int (nZ c)), (3, .ref ot)]) hX hB dL_strengthFor_13 hl (by decide) rfl (fun ls hl => ?_)
  refine lv_iconst (v := nZ 1) hX hB dL_strengthFor_15 rfl ?_
  exact zRetI (zOc k ot g :: xs) X hP hD hS1 rfl ⟨g, xs, rfl, rfl, fun h9 => absurd h9 (by decide), hQ⟩ dL_strengthFor_16

