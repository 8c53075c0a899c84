theorem wb_push (l : Launch) (D : va_G) (k : Nat → ClassId) (h : Nat) (B : Bd) (S : List Bd) (K : Nat → Option Bd) (T : List Int) (xs : va_W) (hG : goodS (B, S, K, T)) (hx : isX k h (B, S, K, T) xs) (x1 x2 : Int) (h1 : 0 ≤ x1 ∧ x1 ≤ 2) (h2 : 1 ≤ x2 ∧ x2 ≤ 150) (a : Int) (ha : (if B.1 3 = 0 then nudS (B.1 0) x2 (B.2 x1.toNat) else -1) = a) (B' : Bd) (hB' : pushF B x1.toNat x2 = B') (S' : List Bd) (hS' : saveL S B = S') : ∀ sz, Met l yX6_push (zW yX6_push cX6_push 3 (some .int)) ({ frames := 8, cells := 10, slots := 110, locals := 200 } : Room) (va_Pc [.ref h, .int (nZ x1), .int (nZ x2)] (zIn D k sz xs)) (va_Qi (fun (r : Int32) (u : va_W) => r = nZ a ∧ isX k h (B', S', K, T) u) (fun u => zOut D (va_A xs sz) u) (va_A xs sz)) 10 110 (va_A xs sz) := by
  subst ha
  subst hB'
  subst hS'
  exact bx_push l D k h B S K T xs hG hx x1 x2 h1 h2
theorem wb_set (l : Launch) (D : va_G) (k : Nat → ClassId) (h : Nat) (B : Bd) (S : List Bd) (K : Nat → Option Bd) (T : List Int) (xs : va_W) (hG : goodS (B, S, K, T)) (hx : isX k h (B, S, K, T) xs) (x1 : Int) (h1 : 0 ≤ x1 ∧ x1 ≤ 20) (a : Int) (ha : (B.1 0) = a) (B' : Bd) (hB' : setB B x1 = B') (S' : List Bd) (hS' : saveL S B = S') : ∀ sz, Met l yX6_set (zW yX6_set cX6_set 3 (some .int)) ({ frames := 8, cells := 10, slots := 110, locals := 200 } : Room) (va_Pc [.ref h, .int (nZ x1)] (zIn D k sz xs)) (va_Qi (fun (r : Int32) (u : va_W) => r = nZ a ∧ isX k h (B', S', K, T) u) (fun u => zOut D (va_A xs sz) u) (va_A xs sz)) 10 110 (va_A xs sz) := by
  subst ha
  subst hB'
  subst hS'
  exact bx_set l D k h B S K T xs hG hx x1 h1
theorem wb_append (l : Launch) (D : va_G) (k : Nat → ClassId) (h : Nat) (B : Bd) (S : List Bd) (K : Nat → Option Bd) (T : List Int) (xs : va_W) (hG : goodS (B, S, K, T)) (hx : isX k h (B, S, K, T) xs) (x1 : Int) (h1 : 33 ≤ x1 ∧ x1 ≤ 126) (h60 : T.length < 60) (a : Int) (ha : ((T.length : Int) + 1) = a) : ∀ sz, Met l yX6_append (zW yX6_append cX6_append 2 (some .int)) ({ frames := 8, cells := 0, slots := 0, locals := 200 } : Room) (va_Pc [.ref h, .int (nZ x1)] (zIn D k sz xs)) (va_Qi (fun (r : Int32) (u : va_W) => r = nZ a ∧ isX k h (B, S, K, (T ++ [x1])) u) (fun u => zOut D (va_A xs sz) u) (va_A xs sz)) 0 0 (va_A xs sz) := by
  subst ha
  exact bx_append l D k h B S K T xs hG hx x1 h1 h60
theorem wb_lay (l : Launch) (D : va_G) (k : Nat → ClassId) (h : Nat) (B : Bd) (S : List Bd) (K : Nat → Option Bd) (T : List Int) (xs : va_W) (hG : goodS (B, S, K, T)) (hx : isX k h (B, S, K, T) xs) (hw : wholeS T) (a : Int) (ha : (layN T) = a) (B' : Bd) (hB' : layF B T = B') (S' : List Bd) (hS' : saveL S B = S') : ∀ sz, Met l yX6_lay (zW yX6_lay cX6_lay 2 (some .int)) ({ frames := 8, cells := 10, slots := 110, locals := 200 } : Room) (va_Pc [.ref h] (zIn D k sz xs)) (va_Qi (fun (r : Int32) (u : va_W) => r = nZ a ∧ isX k h (B', S', K, []) u) (fun u => zOut D (va_A xs sz) u) (va_A xs sz)) 10 110 (va_A xs sz) := by
  subst ha
  subst hB'
  subst hS'
  exact bx_lay l D k h B S K T xs hG hx hw
theorem wb_undo (l : Launch) (D : va_G) (k : Nat → ClassId) (h : Nat) (B : Bd) (S : List Bd) (K : Nat → Option Bd) (T : List Int) (xs : va_W) (hG : goodS (B, S, K, T)) (hx : isX k h (B, S, K, T) xs) (C : Bd) (hC : S.getLast? = some C) (a : Int) (ha : ((S.length : Int) - 1) = a) (B' : Bd) (hB' : C = B') (S' : List Bd) (hS' : S.dropLast = S') : ∀ sz, Met l yX6_undo (zW yX6_undo cX6_undo 1 (some .int)) ({ frames := 8, cells := 0, slots := 0, locals := 200 } : Room) (va_Pc [.ref h] (zIn D k sz xs)) (va_Qi (fun (r : Int32) (u : va_W) => r = nZ a ∧ isX k h (B', S', K, T) u) (fun u => zOut D (va_A xs sz) u) (va_A xs sz)) 0 0 (va_A xs sz) := by
  subst ha
  subst hB'
  subst hS'
  exact bx_undo l D k h B S K T xs hG hx C hC
theorem wb_coin (l : Launch) (D : va_G) (k : Nat → ClassId) (h : Nat) (B : Bd) (S : List Bd) (K : Nat → Option Bd) (T : List Int) (xs : va_W) (hG : goodS (B, S, K, T)) (hx : isX k h (B, S, K, T) xs) (x1 x2 : Int) (h1 : 0 ≤ x1 ∧ x1 ≤ 2) (h2 : 0 ≤ x2 ∧ x2 < 2147483648) (a : Int) (ha : (placeAtS (B.2 x1.toNat) x2) = a) : ∀ sz, Met l yX6_coin (zW yX6_coin cX6_coin 3 (some .int)) ({ frames := 8, cells := 0, slots := 0, locals := 200 } : Room) (va_Pc [.ref h, .int (nZ x1), .int (nZ x2)] (zIn D k sz xs)) (va_Qi (fun (r : Int32) (u : va_W) => r = nZ a ∧ isX k h (B, S, K, T) u) (fun u => zOut D (va_A xs sz) u) (va_A xs sz)) 0 0 (va_A xs sz) := by
  subst ha
  exact bx_coin l D k h B S K T xs hG hx x1 x2 h1 h2
theorem wb_bedOf (l : Launch) (D : va_G) (k : Nat → ClassId) (h : Nat) (B : Bd) (S : List Bd) (K : Nat → Option Bd) (T : List Int) (xs : va_W) (hG : goodS (B, S, K, T)) (hx : isX k h (B, S, K, T) xs) (x1 x2 : Int) (h1 : 0 ≤ x1 ∧ x1 ≤ 8) (h2 : 0 ≤ x2 ∧ x2 ≤ 4) (a : Int) (ha : (bedOfS (chB B) (B.1 1) x1 (cleanB B x1) x2) = a) : ∀ sz, Met l yX6_bedOf (zW yX6_bedOf cX6_bedOf 4 (some .int)) ({ frames := 8, cells := 0, slots := 0, locals := 200 } : Room) (va_Pc [.ref h, .int (nZ x1), .int (nZ x2)] (zIn D k sz xs)) (va_Qi (fun (r : Int32) (u : va_W) => r = nZ a ∧ isX k h (B, S, K, T) u) (fun u => zOut D (va_A xs sz) u) (va_A xs sz)) 0 0 (va_A xs sz) := by
  subst ha
  exact bx_bedOf l D k h B S K T xs hG hx x1 x2 h1 h2
theorem wb_count (l : Launch) (D : va_G) (k : Nat → ClassId) (h : Nat) (B : Bd) (S : List Bd) (K : Nat → Option Bd) (T : List Int) (xs : va_W) (hG : goodS (B, S, K, T)) (hx : isX k h (B, S, K, T) xs) (x1 : Int) (h1 : 0 ≤ x1 ∧ x1 ≤ 12) (a : Int) (ha : (countB B (S.length : Int) x1) = a) : ∀ sz, Met l yX6_count (zW yX6_count cX6_count 2 (some .int)) ({ frames := 8, cells := 0, slots := 0, locals := 200 } : Room) (va_Pc [.ref h, .int (nZ x1)] (zIn D k sz xs)) (va_Qi (fun (r : Int32) (u : va_W) => r = nZ a ∧ isX k h (B, S, K, T) u) (fun u => zOut D (va_A xs sz) u) (va_A xs sz)) 0 0 (va_A xs sz) := by
  subst ha
  exact bx_count l D k h B S K T xs hG hx x1 h1
theorem wb_ends (l : Launch) (D : va_G) (k : Nat → ClassId) (h : Nat) (B : Bd) (S : List Bd) (K : Nat → Option Bd) (T : List Int) (xs : va_W) (hG : goodS (B, S, K, T)) (hx : isX k h (B, S, K, T) xs) (x1 x2 x3 : Int) (h1 : 0 ≤ x1 ∧ x1 ≤ 2) (h2 : 1 ≤ x2 ∧ x2 ≤ 150) (h3 : 0 ≤ x3 ∧ x3 ≤ 1) (a : Int) (ha : (lastL (B.1 0) x2 (B.2 x1.toNat)) = a) : ∀ sz, Met l yX6_ends (zW yX6_ends cX6_ends 4 (some .int)) ({ frames := 8, cells := 0, slots := 0, locals := 200 } : Room) (va_Pc [.ref h, .int (nZ x1), .int (nZ x2), .int (nZ x3)] (zIn D k sz xs)) (va_Qi (fun (r : Int32) (u : va_W) => r = nZ a ∧ isX k h (B, S, K, T) u) (fun u => zOut D (va_A xs sz) u) (va_A xs sz)) 0 0 (va_A xs sz) := by
  subst ha
  exact bx_ends l D k h B S K T xs hG hx x1 x2 x3 h1 h2 h3
theorem wb_ifPushed (l : Launch) (D : va_G) (k : Nat → ClassId) (h : Nat) (B : Bd) (S : List Bd) (K : Nat → Option Bd) (T : List Int) (xs : va_W) (hG : goodS (B, S, K, T)) (hx : isX k h (B, S, K, T) xs) (x1 x2 : Int) (h1 : 0 ≤ x1 ∧ x1 ≤ 2) (h2 : 1 ≤ x2 ∧ x2 ≤ 150) (a : Int) (ha : (cleanAllB (push0 B x1.toNat x2)) = a) : ∀ sz, Met l yX6_ifPushed (zW yX6_ifPushed cX6_ifPushed 4 (some .int)) ({ frames := 8, cells := 0, slots := 0, locals := 200 } : Room) (va_Pc [.ref h, .int (nZ x1), .int (nZ x2)] (zIn D k sz xs)) (va_Qi (fun (r : Int32) (u : va_W) => r = nZ a ∧ isX k h (B, S, K, T) u) (fun u => zOut D (va_A xs sz) u) (va_A xs sz)) 0 0 (va_A xs sz) := by
  subst ha
  exact bx_ifPushed l D k h B S K T xs hG hx x1 x2 h1 h2
theorem wb_strengthFor (l : Launch) (D : va_G) (k : Nat → ClassId) (h : Nat) (B : Bd) (S : List Bd) (K : Nat → Option Bd) (T : List Int) (xs : va_W) (hG : goodS (B, S, K, T)) (hx : isX k h (B, S, K, T) xs) (x1 x2 : Int) (h1 : 0 ≤ x1 ∧ x1 ≤ 2) (h2 : 0 ≤ x2 ∧ x2 ≤ 8) (a : Int) (ha : (strS (B.1 0) (B.2 x1.toNat) x2) = a) : ∀ sz, Met l yX6_strengthFor (zW yX6_strengthFor cX6_strengthFor 5 (some .int)) ({ frames := 8, cells := 0, slots := 0, locals := 200 } : Room) (va_Pc [.ref h, .int (nZ x1), .int (nZ x2)] (zIn D k sz xs)) (va_Qi (fun (r : Int32) (u : va_W) => r = nZ a ∧ isX k h (B, S, K, T) u) (fun u => zOut D (va_A xs sz) u) (va_A xs sz)) 0 0 (va_A xs sz) := by
  subst ha
  exact bx_strengthFor l D k h B S K T xs hG hx x1 x2 h1 h2
theorem wb_endTurn (l : Launch) (D : va_G) (k : Nat → ClassId) (h : Nat) (B : Bd) (S : List Bd) (K : Nat → Option Bd) (T : List Int) (xs : va_W) (hG : goodS (B, S, K, T)) (hx : isX k h (B, S, K, T) xs)  (a : Int) (ha : (if B.1 3 = 0 then madeB B else -1) = a) (B' : Bd) (hB' : endF B = B') (S' : List Bd) (hS' : saveL S B = S') : ∀ sz, Met l yX6_endTurn (zW yX6_endTurn cX6_endTurn 1 (some .int)) ({ frames := 8, cells := 10, slots := 110, locals := 200 } : Room) (va_Pc [.ref h] (zIn D k sz xs)) (va_Qi (fun (r : Int32) (u : va_W) => r = nZ a ∧ isX k h (B', S', K, T) u) (fun u => zOut D (va_A xs sz) u) (va_A xs sz)) 10 110 (va_A xs sz) := by
  subst ha
  subst hB'
  subst hS'
  exact bx_endTurn l D k h B S K T xs hG hx 
theorem wb_begin (l : Launch) (D : va_G) (k : Nat → ClassId) (h : Nat) (B : Bd) (S : List Bd) (K : Nat → Option Bd) (T : List Int) (xs : va_W) (hG : goodS (B, S, K, T)) (hx : isX k h (B, S, K, T) xs)  (a : Int) (ha : (chalksB B) = a) (B' : Bd) (hB' : beginB B = B') (S' : List Bd) (hS' : saveL S B = S') : ∀ sz, Met l yX6_begin (zW yX6_begin cX6_begin 2 (some .int)) ({ frames := 8, cells := 10, slots := 110, locals := 200 } : Room) (va_Pc [.ref h] (zIn D k sz xs)) (va_Qi (fun (r : Int32) (u : va_W) => r = nZ a ∧ isX k h (B', S', K, T) u) (fun u => zOut D (va_A xs sz) u) (va_A xs sz)) 10 110 (va_A xs sz) := by
  subst ha
  subst hB'
  subst hS'
  exact bx_begin l D k h B S K T xs hG hx 
theorem wb_clearBuffer (l : Launch) (D : va_G) (k : Nat → ClassId) (h : Nat) (B : Bd) (S : List Bd) (K : Nat → Option Bd) (T : List Int) (xs : va_W) (hG : goodS (B, S, K, T)) (hx : isX k h (B, S, K, T) xs)  (a : Int) (ha : ((T.length : Int)) = a) : ∀ sz, Met l yX6_clearBuffer (zW yX6_clearBuffer cX6_clearBuffer 2 (some .int)) ({ frames := 8, cells := 0, slots := 0, locals := 200 } : Room) (va_Pc [.ref h] (zIn D k sz xs)) (va_Qi (fun (r : Int32) (u : va_W) => r = nZ a ∧ isX k h (B, S, K, []) u) (fun u => zOut D (va_A xs sz) u) (va_A xs sz)) 0 0 (va_A xs sz) := by
  subst ha
  exact bx_clearBuffer l D k h B S K T xs hG hx 
theorem wb_setting (l : Launch) (D : va_G) (k : Nat → ClassId) (h : Nat) (B : Bd) (S : List Bd) (K : Nat → Option Bd) (T : List Int) (xs : va_W) (hG : goodS (B, S, K, T)) (hx : isX k h (B, S, K, T) xs)  (a : Int) (ha : (B.1 0) = a) : ∀ sz, Met l yX6_setting (zW yX6_setting cX6_setting 1 (some .int)) ({ frames := 8, cells := 0, slots := 0, locals := 200 } : Room) (va_Pc [.ref h] (zIn D k sz xs)) (va_Qi (fun (r : Int32) (u : va_W) => r = nZ a ∧ isX k h (B, S, K, T) u) (fun u => zOut D (va_A xs sz) u) (va_A xs sz)) 0 0 (va_A xs sz) := by
  subst ha
  exact bx_setting l D k h B S K T xs hG hx 
theorem wb_bestPush (l : Launch) (D : va_G) (k : Nat → ClassId) (h : Nat) (B : Bd) (S : List Bd) (K : Nat → Option Bd) (T : List Int) (xs : va_W) (hG : goodS (B, S, K, T)) (hx : isX k h (B, S, K, T) xs)  (a : Int) (ha : (bestB B) = a) : ∀ sz, Met l yX6_bestPush (zW yX6_bestPush cX6_bestPush 6 (some .int)) ({ frames := 8, cells := 0, slots := 0, locals := 200 } : Room) (va_Pc [.ref h] (zIn D k sz xs)) (va_Qi (fun (r : Int32) (u : va_W) => r = nZ a ∧ isX k h (B, S, K, T) u) (fun u => zOut D (va_A xs sz) u) (va_A xs sz)) 0 0 (va_A xs sz) := by
  subst ha
  exact bx_bestPush l D k h B S K T xs hG hx 
theorem wb_fullness (l : Launch) (D : va_G) (k : Nat → ClassId) (h : Nat) (B : Bd) (S : List Bd) (K : Nat → Option Bd) (T : List Int) (xs : va_W) (hG : goodS (B, S, K, T)) (hx : isX k h (B, S, K, T) xs)  (a : UInt64) (ha : (zShare (chalksB B)) = a) : ∀ sz, Met l yX6_fullness (zW yX6_fullness cX6_fullness 1 (some .double)) ({ frames := 8, cells := 0, slots := 0, locals := 200 } : Room) (va_Pc [.ref h] (zIn D k sz xs)) (va_Qd (fun (r : UInt64) (u : va_W) => r = a ∧ isX k h (B, S, K, T) u) (fun u => zOut D (va_A xs sz) u) (va_A xs sz)) 0 0 (va_A xs sz) := by
  subst ha
  exact bx_fullness l D k h B S K T xs hG hx 
theorem mw_coin : zMW yL_coin cL_coin 4 (some .int) [(0, 6, 7, 16), (0, 6, 11, 19)] 3 := ⟨zw_73, zw_68, ⟨by decide +kernel, by decide +kernel, by decide +kernel⟩, zw_72⟩
set_option maxHeartbeats 1000000 in
theorem wc_coin (l : Launch) (D : va_G) (k : Nat → ClassId) (h : Nat) (B : Bd) (S : List Bd) (K : Nat → Option Bd) (T : List Int) (xs : va_W) (hG : goodS (B, S, K, T)) (hx : isX k h (B, S, K, T) xs) (x1 x2 : Int) (h1 : 0 ≤ x1 ∧ x1 ≤ 2) (h2 : 0 ≤ x2 ∧ x2 < 2147483648) (a : Int) (ha : (placeAtS (B.2 x1.toNat) x2) = a) : ∀ sz, Met l yL_coin (zWW yL_coin cL_coin 4 (some .int) [(0, 6, 7, 16), (0, 6, 11, 19)]) ({ frames := 9, cells := 0, slots := 0, locals := 240 } : Room) (va_Pc [.ref h, .int (nZ x1), .int (nZ x2)] (zIn D k sz xs)) (va_Qi (fun (r : Int32) (u : va_W) => r = nZ a ∧ isX k h (B, S, K, T) u) (fun u => zOut D (va_A xs sz) u) (va_A xs sz)) 0 0 (va_A xs sz) := by
  intro sz
  refine zEnterV (Qf := fun A => va_Qi (fun (r : Int32) (u : va_W) => r = nZ a ∧ isX k h (B, S, K, T) u) (fun u => zOut D A u) A) RL (by decide) rfl (Nat.le_of_ble_eq_true rfl) ?_
  intro p9 e9 s9 m9 be9 me9 c9 ls A X hP hD hS hA hAe hl
  have hX := X.1; have hB := X.2.1; have hK := X.2.2.2.2.2.2.2; clear hAe
  have hl : lv_has ls 4 [(0, .ref h), (1, .int (nZ x1)), (2, .int (nZ x2))] := hl
  refine lv_aload_n hX hB dL_coin_0 rfl (lv_at hl 0 rfl) ?_
  refine lv_iload_n hX hB dL_coin_1 rfl (lv_at hl 1 rfl) ?_
  refine lv_iload_n hX hB dL_coin_2 rfl (lv_at hl 2 rfl) ?_
  refine zc1n (zRunV (As := [.int (nZ x1), .int (nZ x2)]) X mv_X6_coin (wb_coin l D k h B S K T xs hG hx x1 x2 h1 h2 a ha _) zw_78 (zPreV1 hP hD hK hx rfl) rfl hl (Nat.le_of_ble_eq_true rfl) dL_coin_3 ⟨rfl, rfl, ⟨Nat.le_of_ble_eq_true rfl, Nat.le_of_ble_eq_true rfl⟩, Nat.le_of_ble_eq_true rfl, Nat.le_of_ble_eq_true rfl⟩ rfl) hS hP hD hA (fun r u H locs hpost hP hD hS => ?_)
  exact zRetI u X hP hD hS rfl hpost dL_coin_6

theorem mw_bedOf : zMW yL_bedOf cL_bedOf 4 (some .int) [(0, 6, 7, 16), (0, 6, 11, 19)] 3 := ⟨zw_98, zw_68, ⟨by decide +kernel, by decide +kernel, by decide +kernel⟩, zw_97⟩
set_option maxHeartbeats 1000000 in
theorem wc_bedOf (l : Launch) (D : va_G) (k : Nat → ClassId) (h : Nat) (B : Bd) (S : List Bd) (K : Nat → Option Bd) (T : List Int) (xs : va_W) (hG : goodS (B, S, K, T)) (hx : isX k h (B, S, K, T) xs) (x1 x2 : Int) (h1 : 0 ≤ x1 ∧ x1 ≤ 8) (h2 : 0 ≤ x2 ∧ x2 ≤ 4) (a : Int) (ha : (bedOfS (chB B) (B.1 1) x1 (cleanB B x1) x2) = a) : ∀ sz, Met l yL_bedOf (zWW yL_bedOf cL_bedOf 4 (some .int) [(0, 6, 7, 16), (0, 6, 11, 19)]) ({ frames := 9, cells := 0, slots := 0, locals := 240 } : Room) (va_Pc [.ref h, .int (nZ x1), .int (nZ x2)] (zIn D k sz xs)) (va_Qi (fun (r : Int32) (u : va_W) => r = nZ a ∧ isX k h (B, S, K, T) u) (fun u => zOut D (va_A xs sz) u) (va_A xs sz)) 0 0 (va_A xs sz) := by
  intro sz
  refine zEnterV (Qf := fun A => va_Qi (fun (r : Int32) (u : va_W) => r = nZ a ∧ isX k h (B, S, K, T) u) (fun u => zOut D A u) A) RL (by decide) rfl (Nat.le_of_ble_eq_true rfl) ?_
  intro p9 e9 s9 m9 be9 me9 c9 ls A X hP hD hS hA hAe hl
  have hX := X.1; have hB := X.2.1; have hK := X.2.2.2.2.2.2.2; clear hAe
  have hl : lv_has ls 4 [(0, .ref h), (1, .int (nZ x1)), (2, .int (nZ x2))] := hl
  refine lv_aload_n hX hB dL_bedOf_0 rfl (lv_at hl 0 rfl) ?_
  refine lv_iload_n hX hB dL_bedOf_1 rfl (lv_at hl 1 rfl) ?_
  refine lv_iload_n hX hB dL_bedOf_2 rfl (lv_at hl 2 rfl) ?_
  refine zc1n (zRunV (As := [.int (nZ x1), .int (nZ x2)]) X mv_X6_bedOf (wb_bedOf l D k h B S K T xs hG hx x1 x2 h1 h2 a ha _) zw_99 (zPreV1 hP hD hK hx rfl) rfl hl (Nat.le_of_ble_eq_true rfl) dL_bedOf_3 ⟨rfl, rfl, ⟨Nat.le_of_ble_eq_true rfl, Nat.le_of_ble_eq_true rfl⟩, Nat.le_of_ble_eq_true rfl, Nat.le_of_ble_eq_true rfl⟩ rfl) hS hP hD hA (fun r u H locs hpost hP hD hS => ?_)
  exact zRetI u X hP hD hS rfl hpost dL_bedOf_6

theorem mw_count : zMW yL_count cL_count 3 (some .int) [(0, 5, 6, 19)] 2 := ⟨zw_132, zw_68, ⟨by decide +kernel, by decide +kernel, by decide +kernel⟩, zw_131⟩
set_option maxHeartbeats 1000000 in
theorem wc_count (l : Launch) (D : va_G) (k : Nat → ClassId) (h : Nat) (B : Bd) (S : List Bd) (K : Nat → Option Bd) (T : List Int) (xs : va_W) (hG : goodS (B, S, K, T)) (hx : isX k h (B, S, K, T) xs) (x1 : Int) (h1 : 0 ≤ x1 ∧ x1 ≤ 12) (a : Int) (ha : (countB B (S.length : Int) x1) = a) : ∀ sz, Met l yL_count (zWW yL_count cL_count 3 (some .int) [(0, 5, 6, 19)]) ({ frames := 9, cells := 0, slots := 0, locals := 240 } : Room) (va_Pc [.ref h, .int (nZ x1)] (zIn D k sz xs)) (va_Qi (fun (r : Int32) (u : va_W) => r = nZ a ∧ isX k h (B, S, K, T) u) (fun u => zOut D (va_A xs sz) u) (va_A xs sz)) 0 0 (va_A xs sz) := by
  intro sz
  refine zEnterV (Qf := fun A => va_Qi (fun (r : Int32) (u : va_W) => r = nZ a ∧ isX k h (B, S, K, T) u) (fun u => zOut D A u) A) RL (by decide) rfl (Nat.le_of_ble_eq_true rfl) ?_
  intro p9 e9 s9 m9 be9 me9 c9 ls A X hP hD hS hA hAe hl
  have hX := X.1; have hB := X.2.1; have hK := X.2.2.2.2.2.2.2; clear hAe
  have hl : lv_has ls 3 [(0, .ref h), (1, .int (nZ x1))] := hl
  refine lv_aload_n hX hB dL_count_0 rfl (lv_at hl 0 rfl) ?_
  refine lv_iload_n hX hB dL_count_1 rfl (lv_at hl 1 rfl) ?_
  refine zc1n (zRunV (As := [.int (nZ x1)]) X mv_X6_count (wb_count l D k h B S K T xs hG hx x1 h1 a ha _) zw_133 (zPreV1 hP hD hK hx rfl) rfl hl (Nat.le_of_ble_eq_true rfl) dL_count_2 ⟨rfl, rfl, ⟨Nat.le_of_ble_eq_true rfl, Nat.le_of_ble_eq_true rfl⟩, Nat.le_of_ble_eq_true rfl, Nat.le_of_ble_eq_true rfl⟩ rfl) hS hP hD hA (fun r u H locs hpost hP hD hS => ?_)
  exact zRetI u X hP hD hS rfl hpost dL_count_5

theorem mw_ends : zMW yL_ends cL_ends 5 (some .int) [(0, 7, 8, 16), (0, 7, 13, 19)] 4 := ⟨zw_171, zw_68, ⟨by decide +kernel, by decide +kernel, by decide +kernel⟩, zw_170⟩
set_option maxHeartbeats 1000000 in
theorem wc_ends (l : Launch) (D : va_G) (k : Nat → ClassId) (h : Nat) (B : Bd) (S : List Bd) (K : Nat → Option Bd) (T : List Int) (xs : va_W) (hG : goodS (B, S, K, T)) (hx : isX k h (B, S, K, T) xs) (x1 x2 x3 : Int) (h1 : 0 ≤ x1 ∧ x1 ≤ 2) (h2 : 1 ≤ x2 ∧ x2 ≤ 150) (h3 : 0 ≤ x3 ∧ x3 ≤ 1) (a : Int) (ha : (lastL (B.1 0) x2 (B.2 x1.toNat)) = a) : ∀ sz, Met l yL_ends (zWW yL_ends cL_ends 5 (some .int) [(0, 7, 8, 16), (0, 7, 13, 19)]) ({ frames := 9, cells := 0, slots := 0, locals := 240 } : Room) (va_Pc [.ref h, .int (nZ x1), .int (nZ x2), .int (nZ x3)] (zIn D k sz xs)) (va_Qi (fun (r : Int32) (u : va_W) => r = nZ a ∧ isX k h (B, S, K, T) u) (fun u => zOut D (va_A xs sz) u) (va_A xs sz)) 0 0 (va_A xs sz) := by
  intro sz
  refine zEnterV (Qf := fun A => va_Qi (fun (r : Int32) (u : va_W) => r = nZ a ∧ isX k h (B, S, K, T) u) (fun u => zOut D A u) A) RL (by decide) rfl (Nat.le_of_ble_eq_true rfl) ?_
  intro p9 e9 s9 m9 be9 me9 c9 ls A X hP hD hS hA hAe hl
  have hX := X.1; have hB := X.2.1; have hK := X.2.2.2.2.2.2.2; clear hAe
  have hl : lv_has ls 5 [(0, .ref h), (1, .int (nZ x1)), (2, .int (nZ x2)), (3, .int (nZ x3))] := hl
  refine lv_aload_n hX hB dL_ends_0 rfl (lv_at hl 0 rfl) ?_
  refine lv_iload_n hX hB dL_ends_1 rfl (lv_at hl 1 rfl) ?_
  refine lv_iload_n hX hB dL_ends_2 rfl (lv_at hl 2 rfl) ?_
  refine lv_iload_n hX hB dL_ends_3 rfl (lv_at hl 3 rfl) ?_
  refine zc1n (zRunV (As := [.int (nZ x1), .int (nZ x2), .int (nZ x3)]) X mv_X6_ends (wb_ends l D k h B S K T xs hG hx x1 x2 x3 h1 h2 h3 a ha _) zw_172 (zPreV1 hP hD hK hx rfl) rfl hl (Nat.le_of_ble_eq_true rfl) dL_ends_4 ⟨rfl, rfl, ⟨Nat.le_of_ble_eq_true rfl, Nat.le_of_ble_eq_true rfl⟩, Nat.le_of_ble_eq_true rfl, Nat.le_of_ble_eq_true rfl⟩ rfl) hS hP hD hA (fun r u H locs hpost hP hD hS => ?_)
  exact zRetI u X hP hD hS rfl hpost dL_ends_7

theorem mw_ifPushed : zMW yL_ifPushed cL_ifPushed 4 (some .int) [(0, 6, 7, 16), (0, 6, 11, 19)] 3 := ⟨zw_234, zw_68, ⟨by decide +kernel, by decide +kernel, by decide +kernel⟩, zw_233⟩
set_option maxHeartbeats 1000000 in
theorem wc_ifPushed (l : Launch) (D : va_G) (k : Nat → ClassId) (h : Nat) (B : Bd) (S : List Bd) (K : Nat → Option Bd) (T : List Int) (xs : va_W) (hG : goodS (B, S, K, T)) (hx : isX k h (B, S, K, T) xs) (x1 x2 : Int) (h1 : 0 ≤ x1 ∧ x1 ≤ 2) (h2 : 1 ≤ x2 ∧ x2 ≤ 150) (a : Int) (ha : (cleanAllB (push0 B x1.toNat x2)) = a) : ∀ sz, Met l yL_ifPushed (zWW yL_ifPushed cL_ifPushed 4 (some .int) [(0, 6, 7, 16), (0, 6, 11, 19)]) ({ frames := 9, cells := 0, slots := 0, locals := 240 } : Room) (va_Pc [.ref h, .int (nZ x1), .int (nZ x2)] (zIn D k sz xs)) (va_Qi (fun (r : Int32) (u : va_W) => r = nZ a ∧ isX k h (B, S, K, T) u) (fun u => zOut D (va_A xs sz) u) (va_A xs sz)) 0 0 (va_A xs sz) := by
  intro sz
  refine zEnterV (Qf := fun A => va_Qi (fun (r : Int32) (u : va_W) => r = nZ a ∧ isX k h (B, S, K, T) u) (fun u => zOut D A u) A) RL (by decide) rfl (Nat.le_of_ble_eq_true rfl) ?_
  intro p9 e9 s9 m9 be9 me9 c9 ls A X hP hD hS hA hAe hl
  have hX := X.1; have hB := X.2.1; have hK := X.2.2.2.2.2.2.2; clear hAe
  have hl : lv_has ls 4 [(0, .ref h), (1, .int (nZ x1)), (2, .int (nZ x2))] := hl
  refine lv_aload_n hX hB dL_ifPushed_0 rfl (lv_at hl 0 rfl) ?_
  refine lv_iload_n hX hB dL_ifPushed_1 rfl (lv_at hl 1 rfl) ?_
  refine lv_iload_n hX hB dL_ifPushed_2 rfl (lv_at hl 2 rfl) ?_
  refine zc1n (zRunV (As := [.int (nZ x1), .int (nZ x2)]) X mv_X6_ifPushed (wb_ifPushed l D k h B S K T xs hG hx x1 x2 h1 h2 a ha _) zw_235 (zPreV1 hP hD hK hx rfl) rfl hl (Nat.le_of_ble_eq_true rfl) dL_ifPushed_3 ⟨rfl, rfl, ⟨Nat.le_of_ble_eq_true rfl, Nat.le_of_ble_eq_true rfl⟩, Nat.le_of_ble_eq_true rfl, Nat.le_of_ble_eq_true rfl⟩ rfl) hS hP hD hA (fun r u H locs hpost hP hD hS => ?_)
  exact zRetI u X hP hD hS rfl hpost dL_ifPushed_6

theorem mw_push : zMW yL_push cL_push 4 (some .int) [(0, 6, 7, 16), (0, 6, 11, 19)] 3 := ⟨zw_241, zw_68, ⟨by decide +kernel, by decide +kernel, by decide +kernel⟩, zw_240⟩
set_option maxHeartbeats 1000000 in
theorem wc_push (l : Launch) (D : va_G) (k : Nat → ClassId) (h : Nat) (B : Bd) (S : List Bd) (K : Nat → Option Bd) (T : List Int) (xs : va_W) (hG : goodS (B, S, K, T)) (hx : isX k h (B, S, K, T) xs) (x1 x2 : Int) (h1 : 0 ≤ x1 ∧ x1 ≤ 2) (h2 : 1 ≤ x2 ∧ x2 ≤ 150) (a : Int) (ha : (if B.1 3 = 0 then nudS (B.1 0) x2 (B.2 x1.toNat) else -1) = a) (B' : Bd) (hB' : pushF B x1.toNat x2 = B') (S' : List Bd) (hS' : saveL S B = S') : ∀ sz, Met l yL_push (zWW yL_push cL_push 4 (some .int) [(0, 6, 7, 16), (0, 6, 11, 19)]) ({ frames := 9, cells := 10, slots := 110, locals := 240 } : Room) (va_Pc [.ref h, .int (nZ x1), .int (nZ x2)] (zIn D k sz xs)) (va_Qi (fun (r : Int32) (u : va_W) => r = nZ a ∧ isX k h (B', S', K, T) u) (fun u => zOut D (va_A xs sz) u) (va_A xs sz)) 10 110 (va_A xs sz) := by
  intro sz
  refine zEnterV (Qf := fun A => va_Qi (fun (r : Int32) (u : va_W) => r = nZ a ∧ isX k h (B', S', K, T) u) (fun u => zOut D A u) A) RL (by decide) rfl (Nat.le_of_ble_eq_true rfl) ?_
  intro p9 e9 s9 m9 be9 me9 c9 ls A X hP hD hS hA hAe hl
  have hX := X.1; have hB := X.2.1; have hK := X.2.2.2.2.2.2.2; clear hAe
  have hl : lv_has ls 4 [(0, .ref h), (1, .int (nZ x1)), (2, .int (nZ x2))] := hl
  refine lv_aload_n hX hB dL_push_0 rfl (lv_at hl 0 rfl) ?_
  refine lv_iload_n hX hB dL_push_1 rfl (lv_at hl 1 rfl) ?_
  refine lv_iload_n hX hB dL_push_2 rfl (lv_at hl 2 rfl) ?_
  refine zc1 (zRunV (As := [.int (nZ x1), .int (nZ x2)]) X mv_X6_push (wb_push l D k h B S K T xs hG hx x1 x2 h1 h2 a ha B' hB' S' hS' _) zw_242 (zPreV1 hP hD hK hx rfl) rfl hl (Nat.le_of_ble_eq_true rfl) dL_push_3 ⟨rfl, rfl, ⟨Nat.le_of_ble_eq_true rfl, Nat.le_of_ble_eq_true rfl⟩, Nat.le_of_ble_eq_true rfl, Nat.le_of_ble_eq_true rfl⟩ rfl) hS hP hD hA (fun r u H locs hpost hP hD hS => ?_)
  exact zRetI u X hP hD hS rfl hpost dL_push_6

theorem mw_undo : zMW yL_undo cL_undo 2 (some .int) [(0, 4, 5, 29)] 1 := ⟨zw_301, zw_68, ⟨by decide +kernel, by decide +kernel, by decide +kernel⟩, zw_300⟩
set_option maxHeartbeats 1000000 in
theorem wc_undo (l : Launch) (D : va_G) (k : Nat → ClassId) (h : Nat) (B : Bd) (S : List Bd) (K : Nat → Option Bd) (T : List Int) (xs : va_W) (hG : goodS (B, S, K, T)) (hx : isX k h (B, S, K, T) xs) (C : Bd) (hC : S.getLast? = some C) (a : Int) (ha : ((S.length : Int) - 1) = a) (B' : Bd) (hB' : C = B') (S' : List Bd) (hS' : S.dropLast = S') : ∀ sz, Met l yL_undo (zWW yL_undo cL_undo 2 (some .int) [(0, 4, 5, 29)]) ({ frames := 9, cells := 0, slots := 0, locals := 240 } : Room) (va_Pc [.ref h] (zIn D k sz xs)) (va_Qi (fun (r : Int32) (u : va_W) => r = nZ a ∧ isX k h (B', S', K, T) u) (fun u => zOut D (va_A xs sz) u) (va_A xs sz)) 0 0 (va_A xs sz) := by
  intro sz
  refine zEnterV (Qf := fun A => va_Qi (fun (r : Int32) (u : va_W) => r = nZ a ∧ isX k h (B', S', K, T) u) (fun u => zOut D A u) A) RL (by decide) rfl (Nat.le_of_ble_eq_true rfl) ?_
  intro p9 e9 s9 m9 be9 me9 c9 ls A X hP hD hS hA hAe hl
  have hX := X.1; have hB := X.2.1; have hK := X.2.2.2.2.2.2.2; clear hAe
  have hl : lv_has ls 2 [(0, .ref h)] := hl
  refine lv_aload_n hX hB dL_undo_0 rfl (lv_at hl 0 rfl) ?_
  refine zc1n (zRunV (As := []) X mv_X6_undo (wb_undo l D k h B S K T xs hG hx C hC a ha B' hB' S' hS' _) zw_303 (zPreV1 hP hD hK hx rfl) rfl hl (Nat.le_of_ble_eq_true rfl) dL_undo_1 ⟨rfl, rfl, ⟨Nat.le_of_ble_eq_true rfl, Nat.le_of_ble_eq_true rfl⟩, Nat.le_of_ble_eq_true rfl, Nat.le_of_ble_eq_true rfl⟩ rfl) hS hP hD hA (fun r u H locs hpost hP hD hS => ?_)
  exact zRetI u X hP hD hS rfl hpost dL_undo_4

theorem mw_append : zMW yL_append cL_append 3 (some .int) [(0, 5, 6, 19), (0, 5, 10, 29)] 2 := ⟨zw_334, zw_68, ⟨by decide +kernel, by decide +kernel, by decide +kernel⟩, zw_333⟩
set_option maxHeartbeats 1000000 in
theorem wc_append (l : Launch) (D : va_G) (k : Nat → ClassId) (h : Nat) (B : Bd) (S : List Bd) (K : Nat → Option Bd) (T : List Int) (xs : va_W) (hG : goodS (B, S, K, T)) (hx : isX k h (B, S, K, T) xs) (x1 : Int) (h1 : 33 ≤ x1 ∧ x1 ≤ 126) (h60 : T.length < 60) (a : Int) (ha : ((T.length : Int) + 1) = a) : ∀ sz, Met l yL_append (zWW yL_append cL_append 3 (some .int) [(0, 5, 6, 19), (0, 5, 10, 29)]) ({ frames := 9, cells := 0, slots := 0, locals := 240 } : Room) (va_Pc [.ref h, .int (nZ x1)] (zIn D k sz xs)) (va_Qi (fun (r : Int32) (u : va_W) => r = nZ a ∧ isX k h (B, S, K, (T ++ [x1])) u) (fun u => zOut D (va_A xs sz) u) (va_A xs sz)) 0 0 (va_A xs sz) := by
  intro sz
  refine zEnterV (Qf := fun A => va_Qi (fun (r : Int32) (u : va_W) => r = nZ a ∧ isX k h (B, S, K, (T ++ [x1])) u) (fun u => zOut D A u) A) RL (by decide) rfl (Nat.le_of_ble_eq_true rfl) ?_
  intro p9 e9 s9 m9 be9 me9 c9 ls A X hP hD hS hA hAe hl
  have hX := X.1; have hB := X.2.1; have hK := X.2.2.2.2.2.2.2; clear hAe
  have hl : lv_has ls 3 [(0, .ref h), (1, .int (nZ x1))] := hl
  refine lv_aload_n hX hB dL_append_0 rfl (lv_at hl 0 rfl) ?_
  refine lv_iload_n hX hB dL_append_1 rfl (lv_at hl 1 rfl) ?_
  refine zc1n (zRunV (As := [.int (nZ x1)]) X mv_X6_append (wb_append l D k h B S K T xs hG hx x1 h1 h60 a ha _) zw_335 (zPreV1 hP hD hK hx rfl) rfl hl (Nat.le_of_ble_eq_true rfl) dL_append_2 ⟨rfl, rfl, ⟨Nat.le_of_ble_eq_true rfl, Nat.le_of_ble_eq_true rfl⟩, Nat.le_of_ble_eq_true rfl, Nat.le_of_ble_eq_true rfl⟩ rfl) hS hP hD hA (fun r u H locs hpost hP hD hS => ?_)
  exact zRetI u X hP hD hS rfl hpost dL_append_5

theorem mw_lay : zMW yL_lay cL_lay 2 (some .int) [(0, 4, 5, 19)] 1 := ⟨zw_347, zw_68, ⟨by decide +kernel, by decide +kernel, by decide +kernel⟩, zw_346⟩
set_option maxHeartbeats 1000000 in
theorem wc_lay (l : Launch) (D : va_G) (k : Nat → ClassId) (h : Nat) (B : Bd) (S : List Bd) (K : Nat → Option Bd) (T : List Int) (xs : va_W) (hG : goodS (B, S, K, T)) (hx : isX k h (B, S, K, T) xs) (hw : wholeS T) (a : Int) (ha : (layN T) = a) (B' : Bd) (hB' : layF B T = B') (S' : List Bd) (hS' : saveL S B = S') : ∀ sz, Met l yL_lay (zWW yL_lay cL_lay 2 (some .int) [(0, 4, 5, 19)]) ({ frames := 9, cells := 10, slots := 110, locals := 240 } : Room) (va_Pc [.ref h] (zIn D k sz xs)) (va_Qi (fun (r : Int32) (u : va_W) => r = nZ a ∧ isX k h (B', S', K, []) u) (fun u => zOut D (va_A xs sz) u) (va_A xs sz)) 10 110 (va_A xs sz) := by
  intro sz
  refine zEnterV (Qf := fun A => va_Qi (fun (r : Int32) (u : va_W) => r = nZ a ∧ isX k h (B', S', K, []) u) (fun u => zOut D A u) A) RL (by decide) rfl (Nat.le_of_ble_eq_true rfl) ?_
  intro p9 e9 s9 m9 be9 me9 c9 ls A X hP hD hS hA hAe hl
  have hX := X.1; have hB := X.2.1; have hK := X.2.2.2.2.2.2.2; clear hAe
  have hl : lv_has ls 2 [(0, .ref h)] := hl
  refine lv_aload_n hX hB dL_lay_0 rfl (lv_at hl 0 rfl) ?_
  refine zc1 (zRunV (As := []) X mv_X6_lay (wb_lay l D k h B S K T xs hG hx hw a ha B' hB' S' hS' _) zw_348 (zPreV1 hP hD hK hx rfl) rfl hl (Nat.le_of_ble_eq_true rfl) dL_lay_1 ⟨rfl, rfl, ⟨Nat.le_of_ble_eq_true rfl, Nat.le_of_ble_eq_true rfl⟩, Nat.le_of_ble_eq_true rfl, Nat.le_of_ble_eq_true rfl⟩ rfl) hS hP hD hA (fun r u H locs hpost hP hD hS => ?_)
  exact zRetI u X hP hD hS rfl hpost dL_lay_4

theorem mw_set : zMW yL_set cL_set 3 (some .int) [(0, 5, 6, 19)] 2 := ⟨zw_377, zw_68, ⟨by decide +kernel, by decide +kernel, by decide +kernel⟩, zw_376⟩
set_option maxHeartbeats 1000000 in
theorem wc_set (l : Launch) (D : va_G) (k : Nat → ClassId) (h : Nat) (B : Bd) (S : List Bd) (K : Nat → Option Bd) (T : List Int) (xs : va_W) (hG : goodS (B, S, K, T)) (hx : isX k h (B, S, K, T) xs) (x1 : Int) (h1 : 0 ≤ x1 ∧ x1 ≤ 20) (a : Int) (ha : (B.1 0) = a) (B' : Bd) (hB' : setB B x1 = B') (S' : List Bd) (hS' : saveL S B = S') : ∀ sz, Met l yL_set (zWW yL_set cL_set 3 (some .int) [(0, 5, 6, 19)]) ({ frames := 9, cells := 10, slots := 110, locals := 240 } : Room) (va_Pc [.ref h, .int (nZ x1)] (zIn D k sz xs)) (va_Qi (fun (r : Int32) (u : va_W) => r = nZ a ∧ isX k h (B', S', K, T) u) (fun u => zOut D (va_A xs sz) u) (va_A xs sz)) 10 110 (va_A xs sz) := by
  intro sz
  refine zEnterV (Qf := fun A => va_Qi (fun (r : Int32) (u : va_W) => r = nZ a ∧ isX k h (B', S', K, T) u) (fun u => zOut D A u) A) RL (by decide) rfl (Nat.le_of_ble_eq_true rfl) ?_
  intro p9 e9 s9 m9 be9 me9 c9 ls A X hP hD hS hA hAe hl
  have hX := X.1; have hB := X.2.1; have hK := X.2.2.2.2.2.2.2; clear hAe
  have hl : lv_has ls 3 [(0, .ref h), (1, .int (nZ x1))] := hl
  refine lv_aload_n hX hB dL_set_0 rfl (lv_at hl 0 rfl) ?_
  refine lv_iload_n hX hB dL_set_1 rfl (lv_at hl 1 rfl) ?_
  refine zc1 (zRunV (As := [.int (nZ x1)]) X mv_X6_set (wb_set l D k h B S K T xs hG hx x1 h1 a ha B' hB' S' hS' _) zw_378 (zPreV1 hP hD hK hx rfl) rfl hl (Nat.le_of_ble_eq_true rfl) dL_set_2 ⟨rfl, rfl, ⟨Nat.le_of_ble_eq_true rfl, Nat.le_of_ble_eq_true rfl⟩, Nat.le_of_ble_eq_true rfl, Nat.le_of_ble_eq_true rfl⟩ rfl) hS hP hD hA (fun r u H locs hpost hP hD hS => ?_)
  exact zRetI u X hP hD hS rfl hpost dL_set_5

theorem mw_strengthFor : zMW yL_strengthFor cL_strengthFor 4 (some .int) [(0, 6, 7, 16)] 3 := ⟨zw_398, zw_68, ⟨by decide +kernel, by decide +kernel, by decide +kernel⟩, zw_397⟩
set_option maxHeartbeats 1000000 in
theorem wc_strengthFor (l : Launch) (D : va_G) (k : Nat → ClassId) (h : Nat) (B : Bd) (S : List Bd) (K : Nat → Option Bd) (T : List Int) (xs : va_W) (hG : goodS (B, S, K, T)) (hx : isX k h (B, S, K, T) xs) (x1 x2 : Int) (h1 : 0 ≤ x1 ∧ x1 ≤ 2) (h2 : 0 ≤ x2 ∧ x2 ≤ 8) (a : Int) (ha : (strS (B.1 0) (B.2 x1.toNat) x2) = a) : ∀ sz, Met l yL_strengthFor (zWW yL_strengthFor cL_strengthFor 4 (some .int) [(0, 6, 7, 16)]) ({ frames := 9, cells := 0, slots := 0, locals := 240 } : Room) (va_Pc [.ref h, .int (nZ x1), .int (nZ x2)] (zIn D k sz xs)) (va_Qi (fun (r : Int32) (u : va_W) => r = nZ a ∧ isX k h (B, S, K, T) u) (fun u => zOut D (va_A xs sz) u) (va_A xs sz)) 0 0 (va_A xs sz) := by
  intro sz
  refine zEnterV (Qf := fun A => va_Qi (fun (r : Int32) (u : va_W) => r = nZ a ∧ isX k h (B, S, K, T) u) (fun u => zOut D A u) A) RL (by decide) rfl (Nat.le_of_ble_eq_true rfl) ?_
  intro p9 e9 s9 m9 be9 me9 c9 ls A X hP hD hS hA hAe hl
  have hX := X.1; have hB := X.2.1; have hK := X.2.2.2.2.2.2.2; clear hAe
  have hl : lv_has ls 4 [(0, .ref h), (1, .int (nZ x1)), (2, .int (nZ x2))] := hl
  refine lv_aload_n hX hB dL_strengthFor_0 rfl (lv_at hl 0 rfl) ?_
  refine lv_iload_n hX hB dL_strengthFor_1 rfl (lv_at hl 1 rfl) ?_
  refine lv_iload_n hX hB dL_strengthFor_2 rfl (lv_at hl 2 rfl) ?_
  refine zc1n (zRunV (As := [.int (nZ x1), .int (nZ x2)]) X mv_X6_strengthFor (wb_strengthFor l D k h B S K T xs hG hx x1 x2 h1 h2 a ha _) zw_399 (zPreV1 hP hD hK hx rfl) rfl hl (Nat.le_of_ble_eq_true rfl) dL_strengthFor_3 ⟨rfl, rfl, ⟨Nat.le_of_ble_eq_true rfl, Nat.le_of_ble_eq_true rfl⟩, Nat.le_of_ble_eq_true rfl, Nat.le_of_ble_eq_true rfl⟩ rfl) hS hP hD hA (fun r u H locs hpost hP hD hS => ?_)
  exact zRetI u X hP hD hS rfl hpost dL_strengthFor_6

