set_option maxHeartbeats 1000000 in
theorem pr_push (l : Launch) (hst : l.stackTraces = false) (D : va_G) (k : Nat → ClassId) (h mm ot : Nat) (t : Int) (g : Nat → Int64) (σ : Sv) (xs ys : va_W) (hG : goodS σ) (hx : isX k h σ xs) (hm : isM k mm t σ ys) (x1 : Int) (x2 : Int) (hz1 : zR x1) (hz2 : zR x2) : ∃ (σ2 : Sv) (cd ans : Int), (cd = 0 ∨ cd = 1 ∨ cd = 2) ∧
    (∀ sz, Met l yL_push (zWW yL_push cL_push 5 (some .int) [(0, 10, 13, 13), (0, 10, 17, 15)]) zRW (va_Pc [.ref h, .int (nZ x1), .int (nZ x2), .ref ot] (zInT D k sz (zOc k ot g :: xs))) (va_Qi (zWR k ot cd ans (isX k h σ2)) (fun u => zOut D (va_A (zOc k ot g :: xs) sz) u) (va_A (zOc k ot g :: xs) sz)) 10 110 (va_A (zOc k ot g :: xs) sz)) ∧
    (∀ sz, Met l yX7_push (zW yX7_push cX7_push 5 (some .int)) zRN (va_Pc [.ref mm, .int (nZ x1), .int (nZ x2)] (zIn D k sz ys)) (va_Qi (fun (r : Int32) (u : va_W) => r = nZ ans ∧ isMg k mm cd σ2 u) (fun u => zOut D (va_A ys sz) u) (va_A ys sz)) 0 0 (va_A ys sz)) := by
  obtain ⟨B, S, K, T⟩ := σ
  have hrc := hx.recv
  have hgB : bdGood B := hG.1
  by_cases h1 : 0 ≤ x1 ∧ x1 ≤ 2
  · by_cases h2 : 1 ≤ x2 ∧ x2 ≤ 150
    · exact ⟨_, 0, _, Or.inl rfl, zwn_push l D k h ot x1 x2 g xs _ _ hrc (bx_push l D k h B S K T xs hG hx x1 x2 h1 h2), bm_push l D k mm t B S K T ys hG hm x1 x2 h1 h2⟩
    · exact ⟨(B, S, K, T), 2, 0, by decide, zwt_push_2 l D k h ot x1 x2 g xs 0 (isX k h (B, S, K, T)) hrc (bt_push_e2 l hst D k h B S K T xs hx x1 x2 hz1 hz2 h1 (by omega)) hx, bm_push_e2 l D k mm t B S K T ys hG hm x1 x2 hz1 hz2 h1 (by omega)⟩
  · exact ⟨(B, S, K, T), 1, 0, by decide, zwt_push_1 l D k h ot x1 x2 g xs 0 (isX k h (B, S, K, T)) hrc (bt_push_e1 l hst D k h B S K T xs hx x1 x2 hz1 hz2 (by omega)) hx, bm_push_e1 l D k mm t B S K T ys hG hm x1 x2 hz1 hz2 (by omega)⟩

set_option maxHeartbeats 1000000 in
theorem pr_set (l : Launch) (hst : l.stackTraces = false) (D : va_G) (k : Nat → ClassId) (h mm ot : Nat) (t : Int) (g : Nat → Int64) (σ : Sv) (xs ys : va_W) (hG : goodS σ) (hx : isX k h σ xs) (hm : isM k mm t σ ys) (x1 : Int) (hz1 : zR x1) : ∃ (σ2 : Sv) (cd ans : Int), (cd = 0 ∨ cd = 1 ∨ cd = 2) ∧
    (∀ sz, Met l yL_set (zWW yL_set cL_set 4 (some .int) [(0, 9, 12, 15)]) zRW (va_Pc [.ref h, .int (nZ x1), .ref ot] (zInT D k sz (zOc k ot g :: xs))) (va_Qi (zWR k ot cd ans (isX k h σ2)) (fun u => zOut D (va_A (zOc k ot g :: xs) sz) u) (va_A (zOc k ot g :: xs) sz)) 10 110 (va_A (zOc k ot g :: xs) sz)) ∧
    (∀ sz, Met l yX7_set (zW yX7_set cX7_set 3 (some .int)) zRN (va_Pc [.ref mm, .int (nZ x1)] (zIn D k sz ys)) (va_Qi (fun (r : Int32) (u : va_W) => r = nZ ans ∧ isMg k mm cd σ2 u) (fun u => zOut D (va_A ys sz) u) (va_A ys sz)) 0 0 (va_A ys sz)) := by
  obtain ⟨B, S, K, T⟩ := σ
  have hrc := hx.recv
  have hgB : bdGood B := hG.1
  by_cases h1 : 0 ≤ x1 ∧ x1 ≤ 20
  · exact ⟨_, 0, _, Or.inl rfl, zwn_set l D k h ot x1 g xs _ _ hrc (bx_set l D k h B S K T xs hG hx x1 h1), bm_set l D k mm t B S K T ys hG hm x1 h1⟩
  · exact ⟨(B, S, K, T), 1, 0, by decide, zwt_set_1 l D k h ot x1 g xs 0 (isX k h (B, S, K, T)) hrc (bt_set_e1 l hst D k h B S K T xs hx x1 hz1 (by omega)) hx, bm_set_e1 l D k mm t B S K T ys hG hm x1 hz1 (by omega)⟩

set_option maxHeartbeats 1000000 in
theorem pr_append (l : Launch) (hst : l.stackTraces = false) (D : va_G) (k : Nat → ClassId) (h mm ot : Nat) (t : Int) (g : Nat → Int64) (σ : Sv) (xs ys : va_W) (hG : goodS σ) (hx : isX k h σ xs) (hm : isM k mm t σ ys) (x1 : Int) (hz1 : zR x1) : ∃ (σ2 : Sv) (cd ans : Int), (cd = 0 ∨ cd = 1 ∨ cd = 2) ∧
    (∀ sz, Met l yL_append (zWW yL_append cL_append 4 (some .int) [(0, 9, 12, 15), (0, 9, 15, 24)]) zRW (va_Pc [.ref h, .int (nZ x1), .ref ot] (zInT D k sz (zOc k ot g :: xs))) (va_Qi (zWR k ot cd ans (isX k h σ2)) (fun u => zOut D (va_A (zOc k ot g :: xs) sz) u) (va_A (zOc k ot g :: xs) sz)) 10 110 (va_A (zOc k ot g :: xs) sz)) ∧
    (∀ sz, Met l yX7_append (zW yX7_append cX7_append 2 (some .int)) zRN (va_Pc [.ref mm, .int (nZ x1)] (zIn D k sz ys)) (va_Qi (fun (r : Int32) (u : va_W) => r = nZ ans ∧ isMg k mm cd σ2 u) (fun u => zOut D (va_A ys sz) u) (va_A ys sz)) 0 0 (va_A ys sz)) := by
  obtain ⟨B, S, K, T⟩ := σ
  have hrc := hx.recv
  have hgB : bdGood B := hG.1
  have hT : T.length ≤ 60 := isX_text hx
  by_cases h1 : 33 ≤ x1 ∧ x1 ≤ 126
  · by_cases h60 : T.length < 60
    · exact ⟨_, 0, _, Or.inl rfl, zwn_append l D k h ot x1 g xs _ _ hrc (bx_append l D k h B S K T xs hG hx x1 h1 h60), bm_append l D k mm t B S K T ys hG hm x1 h1 h60⟩
    · exact ⟨(B, S, K, T), 2, 0, by decide, zwt_append_2 l D k h ot x1 g xs 0 (isX k h (B, S, K, T)) hrc (bt_append_e2 l hst D k h B S K T xs hx x1 hz1 h1 (by omega)) hx, bm_append_e2 l D k mm t B S K T ys hG hm x1 hz1 h1 (by omega)⟩
  · exact ⟨(B, S, K, T), 1, 0, by decide, zwt_append_1 l D k h ot x1 g xs 0 (isX k h (B, S, K, T)) hrc (bt_append_e1 l hst D k h B S K T xs hx x1 hz1 (by omega)) hx, bm_append_e1 l D k mm t B S K T ys hG hm x1 hz1 (by omega)⟩

set_option maxHeartbeats 1000000 in
theorem pr_lay (l : Launch) (hst : l.stackTraces = false) (D : va_G) (k : Nat → ClassId) (h mm ot : Nat) (t : Int) (g : Nat → Int64) (σ : Sv) (xs ys : va_W) (hG : goodS σ) (hx : isX k h σ xs) (hm : isM k mm t σ ys) : ∃ (σ2 : Sv) (cd ans : Int), (cd = 0 ∨ cd = 1 ∨ cd = 2) ∧
    (∀ sz, Met l yL_lay (zWW yL_lay cL_lay 3 (some .int) [(0, 8, 11, 15)]) zRW (va_Pc [.ref h, .ref ot] (zInT D k sz (zOc k ot g :: xs))) (va_Qi (zWR k ot cd ans (isX k h σ2)) (fun u => zOut D (va_A (zOc k ot g :: xs) sz) u) (va_A (zOc k ot g :: xs) sz)) 10 110 (va_A (zOc k ot g :: xs) sz)) ∧
    (∀ sz, Met l yX7_lay (zW yX7_lay cX7_lay 2 (some .int)) zRN (va_Pc [.ref mm] (zIn D k sz ys)) (va_Qi (fun (r : Int32) (u : va_W) => r = nZ ans ∧ isMg k mm cd σ2 u) (fun u => zOut D (va_A ys sz) u) (va_A ys sz)) 0 0 (va_A ys sz)) := by
  obtain ⟨B, S, K, T⟩ := σ
  have hrc := hx.recv
  have hgB : bdGood B := hG.1
  by_cases hw : wholeS T
  · exact ⟨_, 0, _, Or.inl rfl, zwn_lay l D k h ot  g xs _ _ hrc (bx_lay l D k h B S K T xs hG hx  hw), bm_lay l D k mm t B S K T ys hG hm  hw⟩
  · exact ⟨(B, S, K, T), 1, 0, by decide, zwt_lay_1 l D k h ot  g xs 0 (isX k h (B, S, K, T)) hrc (bt_lay_e1 l hst D k h B S K T xs hx   hw) hx, bm_lay_e1 l D k mm t B S K T ys hG hm   hw⟩

set_option maxHeartbeats 1000000 in
theorem pr_keep (l : Launch) (hst : l.stackTraces = false) (D : va_G) (k : Nat → ClassId) (h mm ot : Nat) (t : Int) (g : Nat → Int64) (σ : Sv) (xs ys : va_W) (hG : goodS σ) (hx : isX k h σ xs) (hm : isM k mm t σ ys) (x1 : Int) (hz1 : zR x1) : ∃ (σ2 : Sv) (cd ans : Int), (cd = 0 ∨ cd = 1 ∨ cd = 2) ∧
    (∀ sz, Met l yL_keep (zWW yL_keep cL_keep 4 (some .int) [(0, 9, 12, 15)]) zRW (va_Pc [.ref h, .int (nZ x1), .ref ot] (zInT D k sz (zOc k ot g :: xs))) (va_Qi (zWR k ot cd ans (isX k h σ2)) (fun u => zOut D (va_A (zOc k ot g :: xs) sz) u) (va_A (zOc k ot g :: xs) sz)) 10 110 (va_A (zOc k ot g :: xs) sz)) ∧
    (∀ sz, Met l yX7_keep (zW yX7_keep cX7_keep 2 (some .int)) zRN (va_Pc [.ref mm, .int (nZ x1)] (zIn D k sz ys)) (va_Qi (fun (r : Int32) (u : va_W) => r = nZ ans ∧ isMg k mm cd σ2 u) (fun u => zOut D (va_A ys sz) u) (va_A ys sz)) 0 0 (va_A ys sz)) := by
  obtain ⟨B, S, K, T⟩ := σ
  have hrc := hx.recv
  have hgB : bdGood B := hG.1
  by_cases h1 : 0 ≤ x1 ∧ x1 ≤ 1
  · exact ⟨_, 0, _, Or.inl rfl, zwn_keep l D k h ot x1 g xs _ _ hrc (bx_keep l D k h B S K T xs hG hx x1 h1), bm_keep l D k mm t B S K T ys hG hm x1 h1⟩
  · exact ⟨(B, S, K, T), 1, 0, by decide, zwt_keep_1 l D k h ot x1 g xs 0 (isX k h (B, S, K, T)) hrc (bt_keep_e1 l hst D k h B S K T xs hx x1 hz1 (by omega)) hx, bm_keep_e1 l D k mm t B S K T ys hG hm x1 hz1 (by omega)⟩

set_option maxHeartbeats 1000000 in
theorem pr_goBack (l : Launch) (hst : l.stackTraces = false) (D : va_G) (k : Nat → ClassId) (h mm ot : Nat) (t : Int) (g : Nat → Int64) (σ : Sv) (xs ys : va_W) (hG : goodS σ) (hx : isX k h σ xs) (hm : isM k mm t σ ys) (x1 : Int) (hz1 : zR x1) : ∃ (σ2 : Sv) (cd ans : Int), (cd = 0 ∨ cd = 1 ∨ cd = 2) ∧
    (∀ sz, Met l yL_goBack (zWW yL_goBack cL_goBack 4 (some .int) [(0, 9, 12, 15), (0, 9, 15, 24)]) zRW (va_Pc [.ref h, .int (nZ x1), .ref ot] (zInT D k sz (zOc k ot g :: xs))) (va_Qi (zWR k ot cd ans (isX k h σ2)) (fun u => zOut D (va_A (zOc k ot g :: xs) sz) u) (va_A (zOc k ot g :: xs) sz)) 10 110 (va_A (zOc k ot g :: xs) sz)) ∧
    (∀ sz, Met l yX7_goBack (zW yX7_goBack cX7_goBack 2 (some .int)) zRN (va_Pc [.ref mm, .int (nZ x1)] (zIn D k sz ys)) (va_Qi (fun (r : Int32) (u : va_W) => r = nZ ans ∧ isMg k mm cd σ2 u) (fun u => zOut D (va_A ys sz) u) (va_A ys sz)) 0 0 (va_A ys sz)) := by
  obtain ⟨B, S, K, T⟩ := σ
  have hrc := hx.recv
  have hgB : bdGood B := hG.1
  by_cases h1 : 0 ≤ x1 ∧ x1 ≤ 1
  · cases hk : K x1.toNat with
    | some C => exact ⟨_, 0, _, Or.inl rfl, zwn_goBack l D k h ot x1 g xs _ _ hrc (bx_goBack l D k h B S K T xs hG hx x1 h1 C hk), bm_goBack l D k mm t B S K T ys hG hm x1 h1 C hk⟩
    | none => exact ⟨(B, S, K, T), 2, 0, by decide, zwt_goBack_2 l D k h ot x1 g xs 0 (isX k h (B, S, K, T)) hrc (bt_goBack_e2 l hst D k h B S K T xs hx x1 hz1 h1 hk) hx, bm_goBack_e2 l D k mm t B S K T ys hG hm x1  h1 hk⟩
  · exact ⟨(B, S, K, T), 1, 0, by decide, zwt_goBack_1 l D k h ot x1 g xs 0 (isX k h (B, S, K, T)) hrc (bt_goBack_e1 l hst D k h B S K T xs hx x1 hz1 (by omega)) hx, bm_goBack_e1 l D k mm t B S K T ys hG hm x1 hz1 (by omega)⟩

set_option maxHeartbeats 1000000 in
theorem pr_undo (l : Launch) (hst : l.stackTraces = false) (D : va_G) (k : Nat → ClassId) (h mm ot : Nat) (t : Int) (g : Nat → Int64) (σ : Sv) (xs ys : va_W) (hG : goodS σ) (hx : isX k h σ xs) (hm : isM k mm t σ ys) : ∃ (σ2 : Sv) (cd ans : Int), (cd = 0 ∨ cd = 1 ∨ cd = 2) ∧
    (∀ sz, Met l yL_undo (zWW yL_undo cL_undo 3 (some .int) [(0, 8, 11, 24)]) zRW (va_Pc [.ref h, .ref ot] (zInT D k sz (zOc k ot g :: xs))) (va_Qi (zWR k ot cd ans (isX k h σ2)) (fun u => zOut D (va_A (zOc k ot g :: xs) sz) u) (va_A (zOc k ot g :: xs) sz)) 10 110 (va_A (zOc k ot g :: xs) sz)) ∧
    (∀ sz, Met l yX7_undo (zW yX7_undo cX7_undo 1 (some .int)) zRN (va_Pc [.ref mm] (zIn D k sz ys)) (va_Qi (fun (r : Int32) (u : va_W) => r = nZ ans ∧ isMg k mm cd σ2 u) (fun u => zOut D (va_A ys sz) u) (va_A ys sz)) 0 0 (va_A ys sz)) := by
  obtain ⟨B, S, K, T⟩ := σ
  have hrc := hx.recv
  have hgB : bdGood B := hG.1
  have hS6 : S.length ≤ 6 := hG.2.2.2
  cases hC : S.getLast? with
  | some C => exact ⟨_, 0, _, Or.inl rfl, zwn_undo l D k h ot  g xs _ _ hrc (bx_undo l D k h B S K T xs hG hx  C hC), bm_undo l D k mm t B S K T ys hG hm  C hC⟩
  | none =>
    have hS : S = [] := List.getLast?_eq_none_iff.mp hC
    exact ⟨(B, S, K, T), 1, 0, by decide, zwt_undo_1 l D k h ot  g xs 0 (isX k h (B, S, K, T)) hrc (bt_undo_e1 l hst D k h B S K T xs hx   hS) hx, bm_undo_e1 l D k mm t B S K T ys hG hm   hS⟩

set_option maxHeartbeats 1000000 in
theorem pr_coin (l : Launch) (hst : l.stackTraces = false) (D : va_G) (k : Nat → ClassId) (h mm ot : Nat) (t : Int) (g : Nat → Int64) (σ : Sv) (xs ys : va_W) (hG : goodS σ) (hx : isX k h σ xs) (hm : isM k mm t σ ys) (x1 : Int) (x2 : Int) (hz1 : zR x1) (hz2 : zR x2) : ∃ (σ2 : Sv) (cd ans : Int), (cd = 0 ∨ cd = 1 ∨ cd = 2) ∧
    (∀ sz, Met l yL_coin (zWW yL_coin cL_coin 5 (some .int) [(0, 10, 13, 13), (0, 10, 17, 15)]) zRW (va_Pc [.ref h, .int (nZ x1), .int (nZ x2), .ref ot] (zInT D k sz (zOc k ot g :: xs))) (va_Qi (zWR k ot cd ans (isX k h σ2)) (fun u => zOut D (va_A (zOc k ot g :: xs) sz) u) (va_A (zOc k ot g :: xs) sz)) 10 110 (va_A (zOc k ot g :: xs) sz)) ∧
    (∀ sz, Met l yX7_coin (zW yX7_coin cX7_coin 3 (some .int)) zRN (va_Pc [.ref mm, .int (nZ x1), .int (nZ x2)] (zIn D k sz ys)) (va_Qi (fun (r : Int32) (u : va_W) => r = nZ ans ∧ isMg k mm cd σ2 u) (fun u => zOut D (va_A ys sz) u) (va_A ys sz)) 0 0 (va_A ys sz)) := by
  obtain ⟨B, S, K, T⟩ := σ
  have hrc := hx.recv
  have hgB : bdGood B := hG.1
  by_cases h1 : 0 ≤ x1 ∧ x1 ≤ 2
  · by_cases h2 : 0 ≤ x2 ∧ x2 < 2147483648
    · exact ⟨_, 0, _, Or.inl rfl, zwn_coin l D k h ot x1 x2 g xs _ _ hrc (bx_coin l D k h B S K T xs hG hx x1 x2 h1 h2), bm_coin l D k mm t B S K T ys hG hm x1 x2 h1 h2⟩
    · exact ⟨(B, S, K, T), 2, 0, by decide, zwt_coin_2 l D k h ot x1 x2 g xs 0 (isX k h (B, S, K, T)) hrc (bt_coin_e2 l hst D k h B S K T xs hx x1 x2 hz1 hz2 h1 (by omega)) hx, bm_coin_e2 l D k mm t B S K T ys hG hm x1 x2 hz1 hz2 h1 (by omega)⟩
  · exact ⟨(B, S, K, T), 1, 0, by decide, zwt_coin_1 l D k h ot x1 x2 g xs 0 (isX k h (B, S, K, T)) hrc (bt_coin_e1 l hst D k h B S K T xs hx x1 x2 hz1 hz2 (by omega)) hx, bm_coin_e1 l D k mm t B S K T ys hG hm x1 x2 hz1 hz2 (by omega)⟩

set_option maxHeartbeats 1000000 in
theorem pr_bedOf (l : Launch) (hst : l.stackTraces = false) (D : va_G) (k : Nat → ClassId) (h mm ot : Nat) (t : Int) (g : Nat → Int64) (σ : Sv) (xs ys : va_W) (hG : goodS σ) (hx : isX k h σ xs) (hm : isM k mm t σ ys) (x1 : Int) (x2 : Int) (hz1 : zR x1) (hz2 : zR x2) : ∃ (σ2 : Sv) (cd ans : Int), (cd = 0 ∨ cd = 1 ∨ cd = 2) ∧
    (∀ sz, Met l yL_bedOf (zWW yL_bedOf cL_bedOf 5 (some .int) [(0, 10, 13, 13), (0, 10, 17, 15)]) zRW (va_Pc [.ref h, .int (nZ x1), .int (nZ x2), .ref ot] (zInT D k sz (zOc k ot g :: xs))) (va_Qi (zWR k ot cd ans (isX k h σ2)) (fun u => zOut D (va_A (zOc k ot g :: xs) sz) u) (va_A (zOc k ot g :: xs) sz)) 10 110 (va_A (zOc k ot g :: xs) sz)) ∧
    (∀ sz, Met l yX7_bedOf (zW yX7_bedOf cX7_bedOf 3 (some .int)) zRN (va_Pc [.ref mm, .int (nZ x1), .int (nZ x2)] (zIn D k sz ys)) (va_Qi (fun (r : Int32) (u : va_W) => r = nZ ans ∧ isMg k mm cd σ2 u) (fun u => zOut D (va_A ys sz) u) (va_A ys sz)) 0 0 (va_A ys sz)) := by
  obtain ⟨B, S, K, T⟩ := σ
  have hrc := hx.recv
  have hgB : bdGood B := hG.1
  by_cases h1 : 0 ≤ x1 ∧ x1 ≤ 8
  · by_cases h2 : 0 ≤ x2 ∧ x2 ≤ 4
    · exact ⟨_, 0, _, Or.inl rfl, zwn_bedOf l D k h ot x1 x2 g xs _ _ hrc (bx_bedOf l D k h B S K T xs hG hx x1 x2 h1 h2), bm_bedOf l D k mm t B S K T ys hG hm x1 x2 h1 h2⟩
    · exact ⟨(B, S, K, T), 2, 0, by decide, zwt_bedOf_2 l D k h ot x1 x2 g xs 0 (isX k h (B, S, K, T)) hrc (bt_bedOf_e2 l hst D k h B S K T xs hx x1 x2 hz1 hz2 h1 (by omega)) hx, bm_bedOf_e2 l D k mm t B S K T ys hG hm x1 x2 hz1 hz2 h1 (by omega)⟩
  · exact ⟨(B, S, K, T), 1, 0, by decide, zwt_bedOf_1 l D k h ot x1 x2 g xs 0 (isX k h (B, S, K, T)) hrc (bt_bedOf_e1 l hst D k h B S K T xs hx x1 x2 hz1 hz2 (by omega)) hx, bm_bedOf_e1 l D k mm t B S K T ys hG hm x1 x2 hz1 hz2 (by omega)⟩

set_option maxHeartbeats 1000000 in
theorem pr_count (l : Launch) (hst : l.stackTraces = false) (D : va_G) (k : Nat → ClassId) (h mm ot : Nat) (t : Int) (g : Nat → Int64) (σ : Sv) (xs ys : va_W) (hG : goodS σ) (hx : isX k h σ xs) (hm : isM k mm t σ ys) (x1 : Int) (hz1 : zR x1) : ∃ (σ2 : Sv) (cd ans : Int), (cd = 0 ∨ cd = 1 ∨ cd = 2) ∧
    (∀ sz, Met l yL_count (zWW yL_count cL_count 4 (some .int) [(0, 9, 12, 15)]) zRW (va_Pc [.ref h, .int (nZ x1), .ref ot] (zInT D k sz (zOc k ot g :: xs))) (va_Qi (zWR k ot cd ans (isX k h σ2)) (fun u => zOut D (va_A (zOc k ot g :: xs) sz) u) (va_A (zOc k ot g :: xs) sz)) 10 110 (va_A (zOc k ot g :: xs) sz)) ∧
    (∀ sz, Met l yX7_count (zW yX7_count cX7_count 2 (some .int)) zRN (va_Pc [.ref mm, .int (nZ x1)] (zIn D k sz ys)) (va_Qi (fun (r : Int32) (u : va_W) => r = nZ ans ∧ isMg k mm cd σ2 u) (fun u => zOut D (va_A ys sz) u) (va_A ys sz)) 0 0 (va_A ys sz)) := by
  obtain ⟨B, S, K, T⟩ := σ
  have hrc := hx.recv
  have hgB : bdGood B := hG.1
  have hS6 : S.length ≤ 6 := hG.2.2.2
  by_cases h1 : 0 ≤ x1 ∧ x1 ≤ 12
  · exact ⟨_, 0, _, Or.inl rfl, zwn_count l D k h ot x1 g xs _ _ hrc (bx_count l D k h B S K T xs hG hx x1 h1), bm_count l D k mm t B S K T ys hG hm x1 h1⟩
  · exact ⟨(B, S, K, T), 1, 0, by decide, zwt_count_1 l D k h ot x1 g xs 0 (isX k h (B, S, K, T)) hrc (bt_count_e1 l hst D k h B S K T xs hx x1 hz1 (by omega)) hx, bm_count_e1 l D k mm t B S K T ys hG hm x1 hz1 (by omega)⟩

set_option maxHeartbeats 1000000 in
theorem pr_ends (l : Launch) (hst : l.stackTraces = false) (D : va_G) (k : Nat → ClassId) (h mm ot : Nat) (t : Int) (g : Nat → Int64) (σ : Sv) (xs ys : va_W) (hG : goodS σ) (hx : isX k h σ xs) (hm : isM k mm t σ ys) (x1 : Int) (x2 : Int) (x3 : Int) (hz1 : zR x1) (hz2 : zR x2) (hz3 : zR x3) : ∃ (σ2 : Sv) (cd ans : Int), (cd = 0 ∨ cd = 1 ∨ cd = 2) ∧
    (∀ sz, Met l yL_ends (zWW yL_ends cL_ends 6 (some .int) [(0, 12, 15, 13), (0, 12, 19, 15)]) zRW (va_Pc [.ref h, .int (nZ x1), .int (nZ x2), .int (nZ x3), .ref ot] (zInT D k sz (zOc k ot g :: xs))) (va_Qi (zWR k ot cd ans (isX k h σ2)) (fun u => zOut D (va_A (zOc k ot g :: xs) sz) u) (va_A (zOc k ot g :: xs) sz)) 10 110 (va_A (zOc k ot g :: xs) sz)) ∧
    (∀ sz, Met l yX7_ends_ (zW yX7_ends_ cX7_ends_ 4 (some .int)) zRN (va_Pc [.ref mm, .int (nZ x1), .int (nZ x2), .int (nZ x3)] (zIn D k sz ys)) (va_Qi (fun (r : Int32) (u : va_W) => r = nZ ans ∧ isMg k mm cd σ2 u) (fun u => zOut D (va_A ys sz) u) (va_A ys sz)) 0 0 (va_A ys sz)) := by
  obtain ⟨B, S, K, T⟩ := σ
  have hrc := hx.recv
  have hgB : bdGood B := hG.1
  by_cases h1 : 0 ≤ x1 ∧ x1 ≤ 2
  · by_cases h2 : 1 ≤ x2 ∧ x2 ≤ 150
    · by_cases h3 : 0 ≤ x3 ∧ x3 ≤ 1
      · exact ⟨_, 0, _, Or.inl rfl, zwn_ends l D k h ot x1 x2 x3 g xs _ _ hrc (bx_ends l D k h B S K T xs hG hx x1 x2 x3 h1 h2 h3), bm_ends l D k mm t B S K T ys hG hm x1 x2 x3 h1 h2 h3⟩
      · exact ⟨(B, S, K, T), 2, 0, by decide, zwt_ends_2 l D k h ot x1 x2 x3 g xs 0 (isX k h (B, S, K, T)) hrc (bt_ends_e2w l hst D k h B S K T xs hx x1 x2 x3 hz1 hz2 hz3 h1 h2 (by omega)) hx, bm_ends_e2w l D k mm t B S K T ys hG hm x1 x2 x3 hz1 hz2 hz3 h1 h2 (by omega)⟩
    · exact ⟨(B, S, K, T), 2, 0, by decide, zwt_ends_2 l D k h ot x1 x2 x3 g xs 0 (isX k h (B, S, K, T)) hrc (bt_ends_e2s l hst D k h B S K T xs hx x1 x2 x3 hz1 hz2 hz3 h1 (by omega)) hx, bm_ends_e2s l D k mm t B S K T ys hG hm x1 x2 x3 hz1 hz2 hz3 h1 (by omega)⟩
  · exact ⟨(B, S, K, T), 1, 0, by decide, zwt_ends_1 l D k h ot x1 x2 x3 g xs 0 (isX k h (B, S, K, T)) hrc (bt_ends_e1 l hst D k h B S K T xs hx x1 x2 x3 hz1 hz2 hz3 (by omega)) hx, bm_ends_e1 l D k mm t B S K T ys hG hm x1 x2 x3 hz1 hz2 hz3 (by omega)⟩

set_option maxHeartbeats 1000000 in
theorem pr_ifPushed (l : Launch) (hst : l.stackTraces = false) (D : va_G) (k : Nat → ClassId) (h mm ot : Nat) (t : Int) (g : Nat → Int64) (σ : Sv) (xs ys : va_W) (hG : goodS σ) (hx : isX k h σ xs) (hm : isM k mm t σ ys) (x1 : Int) (x2 : Int) (hz1 : zR x1) (hz2 : zR x2) : ∃ (σ2 : Sv) (cd ans : Int), (cd = 0 ∨ cd = 1 ∨ cd = 2) ∧
    (∀ sz, Met l yL_ifPushed (zWW yL_ifPushed cL_ifPushed 5 (some .int) [(0, 10, 13, 13), (0, 10, 17, 15)]) zRW (va_Pc [.ref h, .int (nZ x1), .int (nZ x2), .ref ot] (zInT D k sz (zOc k ot g :: xs))) (va_Qi (zWR k ot cd ans (isX k h σ2)) (fun u => zOut D (va_A (zOc k ot g :: xs) sz) u) (va_A (zOc k ot g :: xs) sz)) 10 110 (va_A (zOc k ot g :: xs) sz)) ∧
    (∀ sz, Met l yX7_ifPushed (zW yX7_ifPushed cX7_ifPushed 3 (some .int)) zRN (va_Pc [.ref mm, .int (nZ x1), .int (nZ x2)] (zIn D k sz ys)) (va_Qi (fun (r : Int32) (u : va_W) => r = nZ ans ∧ isMg k mm cd σ2 u) (fun u => zOut D (va_A ys sz) u) (va_A ys sz)) 0 0 (va_A ys sz)) := by
  obtain ⟨B, S, K, T⟩ := σ
  have hrc := hx.recv
  have hgB : bdGood B := hG.1
  by_cases h1 : 0 ≤ x1 ∧ x1 ≤ 2
  · by_cases h2 : 1 ≤ x2 ∧ x2 ≤ 150
    · exact ⟨_, 0, _, Or.inl rfl, zwn_ifPushed l D k h ot x1 x2 g xs _ _ hrc (bx_ifPushed l D k h B S K T xs hG hx x1 x2 h1 h2), bm_ifPushed l D k mm t B S K T ys hG hm x1 x2 h1 h2⟩
    · exact ⟨(B, S, K, T), 2, 0, by decide, zwt_ifPushed_2 l D k h ot x1 x2 g xs 0 (isX k h (B, S, K, T)) hrc (bt_ifPushed_e2 l hst D k h B S K T xs hx x1 x2 hz1 hz2 h1 (by omega)) hx, bm_ifPushed_e2 l D k mm t B S K T ys hG hm x1 x2 hz1 hz2 h1 (by omega)⟩
  · exact ⟨(B, S, K, T), 1, 0, by decide, zwt_ifPushed_1 l D k h ot x1 x2 g xs 0 (isX k h (B, S, K, T)) hrc (bt_ifPushed_e1 l hst D k h B S K T xs hx x1 x2 hz1 hz2 (by omega)) hx, bm_ifPushed_e1 l D k mm t B S K T ys hG hm x1 x2 hz1 hz2 (by omega)⟩

set_option maxHeartbeats 1000000 in
theorem pr_strengthFor (l : Launch) (hst : l.stackTraces = false) (D : va_G) (k : Nat → ClassId) (h mm ot : Nat) (t : Int) (g : Nat → Int64) (σ : Sv) (xs ys : va_W) (hG : goodS σ) (hx : isX k h σ xs) (hm : isM k mm t σ ys) (x1 : Int) (x2 : Int) (hz1 : zR x1) (hz2 : zR x2) : ∃ (σ2 : Sv) (cd ans : Int), (cd = 0 ∨ cd = 1 ∨ cd = 2) ∧
    (∀ sz, Met l yL_strengthFor (zWW yL_strengthFor cL_strengthFor 5 (some .int) [(0, 10, 13, 13)]) zRW (va_Pc [.ref h, .int (nZ x1), .int (nZ x2), .ref ot] (zInT D k sz (zOc k ot g :: xs))) (va_Qi (zWR k ot cd ans (isX k h σ2)) (fun u => zOut D (va_A (zOc k ot g :: xs) sz) u) (va_A (zOc k ot g :: xs) sz)) 10 110 (va_A (zOc k ot g :: xs) sz)) ∧
    (∀ sz, Met l yX7_strengthFor (zW yX7_strengthFor cX7_strengthFor 3 (some .int)) zRN (va_Pc [.ref mm, .int (nZ x1), .int (nZ x2)] (zIn D k sz ys)) (va_Qi (fun (r : Int32) (u : va_W) => r = nZ ans ∧ isMg k mm cd σ2 u) (fun u => zOut D (va_A ys sz) u) (va_A ys sz)) 0 0 (va_A ys sz)) := by
  obtain ⟨B, S, K, T⟩ := σ
  have hrc := hx.recv
  have hgB : bdGood B := hG.1
  by_cases h1 : 0 ≤ x1 ∧ x1 ≤ 2
  · by_cases h2 : 0 ≤ x2 ∧ x2 ≤ 8
    · exact ⟨_, 0, _, Or.inl rfl, zwn_strengthFor l D k h ot x1 x2 g xs _ _ hrc (bx_strengthFor l D k h B S K T xs hG hx x1 x2 h1 h2), bm_strengthFor l D k mm t B S K T ys hG hm x1 x2 h1 h2⟩
    · exact ⟨(B, S, K, T), 1, 0, by decide, zwt_strengthFor_1 l D k h ot x1 x2 g xs 0 (isX k h (B, S, K, T)) hrc (bt_strengthFor_e1b l hst D k h B S K T xs hx x1 x2 hz1 hz2 h1 (by omega)) hx, bm_strengthFor_e1b l D k mm t B S K T ys hG hm x1 x2 hz1 hz2 h1 (by omega)⟩
  · exact ⟨(B, S, K, T), 1, 0, by decide, zwt_strengthFor_1 l D k h ot x1 x2 g xs 0 (isX k h (B, S, K, T)) hrc (bt_strengthFor_e1a l hst D k h B S K T xs hx x1 x2 hz1 hz2 (by omega)) hx, bm_strengthFor_e1a l D k mm t B S K T ys hG hm x1 x2 hz1 hz2 (by omega)⟩
