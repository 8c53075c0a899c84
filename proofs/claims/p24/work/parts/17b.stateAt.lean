set_option maxHeartbeats 4000000 in
set_option maxRecDepth 100000 in
theorem c_X4_stateAt_s (l : Launch) (D : va_G) (k : Nat → ClassId) (sz : Nat) (sv st : Nat) (old size : Int) (sf : Nat → Option Nat) (x : Int) (a : Nat) (hx : 0 ≤ x ∧ x < 12) (hf : sf (x % 6).toNat = some a) : Met l yX4_stateAt (zW yX4_stateAt cX4_stateAt 4 (some (.object "ShoveBeds$Board"))) ({ frames := 4, cells := 0, slots := 0, locals := 72 } : Room) (va_Pc [.ref sv, .int (nZ x)] (zIn D k sz [(sv, .inr (4, [.ref st, .int (nZ old), .int (nZ size)])), (st, .inl (k 4, 6, .inr (.inr (.inr (.inr sf)))))])) (va_Qr (fun (uz : Unit) => True) (fun (uz : Unit) (ra : Nat) (t : State) => (ra = a) ∧ zOut D (va_A [(sv, .inr (4, [.ref st, .int (nZ old), .int (nZ size)])), (st, .inl (k 4, 6, .inr (.inr (.inr (.inr sf)))))] sz) [(sv, .inr (4, [.ref st, .int (nZ old), .int (nZ size)])), (st, .inl (k 4, 6, .inr (.inr (.inr (.inr sf)))))] t) (va_A [(sv, .inr (4, [.ref st, .int (nZ old), .int (nZ size)])), (st, .inl (k 4, 6, .inr (.inr (.inr (.inr sf)))))] sz)) 0 0 (va_A [(sv, .inr (4, [.ref st, .int (nZ old), .int (nZ size)])), (st, .inl (k 4, 6, .inr (.inr (.inr (.inr sf)))))] sz) := by
  refine zEnter (Qf := fun A => va_Qr (fun (uz : Unit) => True) (fun (uz : Unit) (ra : Nat) (t : State) => (ra = a) ∧ zOut D A [(sv, .inr (4, [.ref st, .int (nZ old), .int (nZ size)])), (st, .inl (k 4, 6, .inr (.inr (.inr (.inr sf)))))] t) A) RX4 (by decide) rfl (Nat.le_of_ble_eq_true rfl) ?_
  intro p9 e9 s9 m9 be9 me9 c9 ls A X hin hP hD hS hA hAe hl
  have hX := X.1; have hB := X.2.1; have hz := X.2.2.2.2.1; have hW := X.2.2.2.2.2.1; have hK := X.2.2.2.2.2.2.2; clear hAe
  clear hin
  have hl : lv_has ls 4 [(0, .ref sv), (1, .int (nZ x))] := hl
  refine lv_iload_n hX hB dX4_stateAt_0 rfl (lv_at hl 1 rfl) ?_
  refine lv_bipush (v := nZ 6) hX hB dX4_stateAt_1 (by decide) ?_
  refine zCallI0 (zRunS X ms_J9_floorMod_7cf53 (c_J9_floorMod_7cf53 l D k _ x hx) zw_255 (zPreS hP hD hK [] rfl rfl) rfl hl (Nat.le_of_ble_eq_true rfl) dX4_stateAt_3 ⟨rfl, rfl, ⟨Nat.le_of_ble_eq_true rfl, Nat.le_of_ble_eq_true rfl⟩, Nat.le_of_ble_eq_true rfl, Nat.le_of_ble_eq_true rfl⟩ rfl) hS hP hD hA [] rfl (fun _ => rfl) (fun r_3 u_3 H locs hq_3 hP hD hS => ?_)
  subst hq_3
  have hP : va_P D vwCl [(sv, .inr (4, [.ref st, .int (nZ old), .int (nZ size)])), (st, .inl (k 4, 6, .inr (.inr (.inr (.inr sf)))))] H := hP
  have hD : va_D A [(sv, .inr (4, [.ref st, .int (nZ old), .int (nZ size)])), (st, .inl (k 4, 6, .inr (.inr (.inr (.inr sf)))))] := hD
  refine lv_istore_n (lv' := [(2, .int (nZ (x % 6))), (0, .ref sv), (1, .int (nZ x))]) hX hB dX4_stateAt_6 rfl hl (by decide) rfl (fun ls hl => ?_)
  refine lv_iload_n hX hB dX4_stateAt_7 rfl (lv_at hl 0 rfl) ?_
  refine lv_aload_n hX hB dX4_stateAt_8 rfl (lv_at hl 1 rfl) ?_
  refine va_get hX hB hz inlX4 hW hK.1 hP 0 rfl rfl 0 (by decide) (hz _ zw_56) (fun _ h9 => h9) rfl dX4_stateAt_9 ?_
  refine zz_alen X hP 1 4 (N := 6) rfl rfl rfl dX4_stateAt_12 ?_
  refine zz_icmp_lt X (tgt := 24) dX4_stateAt_13 (by decide) ⟨by omega, by omega⟩ ⟨by omega, by omega⟩ (fun c_13 => ?_) (fun c_13 => ?_)
  · refine lv_aload_n hX hB dX4_stateAt_24 rfl (lv_at hl 1 rfl) ?_
    refine va_get hX hB hz inlX4 hW hK.1 hP 0 rfl rfl 0 (by decide) (hz _ zw_56) (fun _ h9 => h9) rfl dX4_stateAt_25 ?_
    refine lv_iload_n hX hB dX4_stateAt_28 rfl (lv_at hl 0 rfl) ?_
    refine zz_aald X hP 1 rfl ((x % 6).toNat) (by omega) (by omega) (by first | decide | omega) (v := .ref a) (by rw [hf]; rfl) dX4_stateAt_29 ?_
    refine lv_astore_n (lv' := [(3, .ref a), (2, .int (nZ (x % 6))), (0, .ref sv), (1, .int (nZ x))]) hX hB dX4_stateAt_30 rfl hl (by decide) rfl (fun ls hl => ?_)
    refine lv_aload_n hX hB dX4_stateAt_31 rfl (lv_at hl 0 rfl) ?_
    refine lv_ifnonnull (tgt := 50) hX hB dX4_stateAt_32 (by decide) ?_
    refine lv_aload_n hX hB dX4_stateAt_50 rfl (lv_at hl 0 rfl) ?_
    exact zRetR () X hP hD hS rfl trivial (rfl) dX4_stateAt_51
  · exfalso; omega
set_option maxHeartbeats 4000000 in
set_option maxRecDepth 100000 in
theorem c_X4_stateAt_n (l : Launch) (D : va_G) (k : Nat → ClassId) (sz : Nat) (sv st : Nat) (old size : Int) (sf : Nat → Option Nat) (x : Int) (hx : 0 ≤ x ∧ x < 12) (hf : sf (x % 6).toNat = none) : Met l yX4_stateAt (zW yX4_stateAt cX4_stateAt 4 (some (.object "ShoveBeds$Board"))) ({ frames := 4, cells := 9, slots := 101, locals := 72 } : Room) (va_Pc [.ref sv, .int (nZ x)] (zIn D k sz [(sv, .inr (4, [.ref st, .int (nZ old), .int (nZ size)])), (st, .inl (k 4, 6, .inr (.inr (.inr (.inr sf)))))])) (va_Qr (fun (uz : Nat × Nat × Nat × Nat × Nat × Nat × Nat × Nat × Nat) => True) (fun (uz : Nat × Nat × Nat × Nat × Nat × Nat × Nat × Nat × Nat) (ra : Nat) (t : State) => (ra = uz.1) ∧ zOut D (va_A [(sv, .inr (4, [.ref st, .int (nZ old), .int (nZ size)])), (st, .inl (k 4, 6, .inr (.inr (.inr (.inr sf)))))] sz) [(sv, .inr (4, [.ref st, .int (nZ old), .int (nZ size)])), (st, .inl (k 4, 6, .inr (.inr (.inr (.inr (zU sf (x % 6).toNat (some uz.1))))))), (uz.1, .inr (0, [.ref uz.2.1, .ref uz.2.2.1, .int (nZ 2), .int (nZ 0), .int (nZ 0), .int (nZ 0), .int (nZ 0), .int (nZ 0), .int (nZ 0), .int (nZ 0), .int (nZ 0)])), (uz.2.1, .inr (3, [.ref uz.2.2.2.1, .ref uz.2.2.2.2.1, .ref uz.2.2.2.2.2.1])), (uz.2.2.2.1, .inr (2, [.ref uz.2.2.2.2.2.2.1, .int (nZ 0)])), (uz.2.2.2.2.2.2.1, .inl (k 0, 21, .inl (zA (fun _ => 0)))), (uz.2.2.2.2.1, .inr (2, [.ref uz.2.2.2.2.2.2.2.1, .int (nZ 0)])), (uz.2.2.2.2.2.2.2.1, .inl (k 0, 21, .inl (zA (fun _ => 0)))), (uz.2.2.2.2.2.1, .inr (2, [.ref uz.2.2.2.2.2.2.2.2, .int (nZ 0)])), (uz.2.2.2.2.2.2.2.2, .inl (k 0, 21, .inl (zA (fun _ => 0)))), (uz.2.2.1, .inl (k 0, 18, .inl (zA (fun _ => 0))))] t) (va_A [(sv, .inr (4, [.ref st, .int (nZ old), .int (nZ size)])), (st, .inl (k 4, 6, .inr (.inr (.inr (.inr sf)))))] sz)) 9 101 (va_A [(sv, .inr (4, [.ref st, .int (nZ old), .int (nZ size)])), (st, .inl (k 4, 6, .inr (.inr (.inr (.inr sf)))))] sz) := by
  refine zEnter (Qf := fun A => va_Qr (fun (uz : Nat × Nat × Nat × Nat × Nat × Nat × Nat × Nat × Nat) => True) (fun (uz : Nat × Nat × Nat × Nat × Nat × Nat × Nat × Nat × Nat) (ra : Nat) (t : State) => (ra = uz.1) ∧ zOut D A [(sv, .inr (4, [.ref st, .int (nZ old), .int (nZ size)])), (st, .inl (k 4, 6, .inr (.inr (.inr (.inr (zU sf (x % 6).toNat (some uz.1))))))), (uz.1, .inr (0, [.ref uz.2.1, .ref uz.2.2.1, .int (nZ 2), .int (nZ 0), .int (nZ 0), .int (nZ 0), .int (nZ 0), .int (nZ 0), .int (nZ 0), .int (nZ 0), .int (nZ 0)])), (uz.2.1, .inr (3, [.ref uz.2.2.2.1, .ref uz.2.2.2.2.1, .ref uz.2.2.2.2.2.1])), (uz.2.2.2.1, .inr (2, [.ref uz.2.2.2.2.2.2.1, .int (nZ 0)])), (uz.2.2.2.2.2.2.1, .inl (k 0, 21, .inl (zA (fun _ => 0)))), (uz.2.2.2.2.1, .inr (2, [.ref uz.2.2.2.2.2.2.2.1, .int (nZ 0)])), (uz.2.2.2.2.2.2.2.1, .inl (k 0, 21, .inl (zA (fun _ => 0)))), (uz.2.2.2.2.2.1, .inr (2, [.ref uz.2.2.2.2.2.2.2.2, .int (nZ 0)])), (uz.2.2.2.2.2.2.2.2, .inl (k 0, 21, .inl (zA (fun _ => 0)))), (uz.2.2.1, .inl (k 0, 18, .inl (zA (fun _ => 0))))] t) A) RX4 (by decide) rfl (Nat.le_of_ble_eq_true rfl) ?_
  intro p9 e9 s9 m9 be9 me9 c9 ls A X hin hP hD hS hA hAe hl
  have hX := X.1; have hB := X.2.1; have hz := X.2.2.2.2.1; have hW := X.2.2.2.2.2.1; have hK := X.2.2.2.2.2.2.2; clear hAe
  clear hin
  have hl : lv_has ls 4 [(0, .ref sv), (1, .int (nZ x))] := hl
  refine lv_iload_n hX hB dX4_stateAt_0 rfl (lv_at hl 1 rfl) ?_
  refine lv_bipush (v := nZ 6) hX hB dX4_stateAt_1 (by decide) ?_
  refine zCallI0 (zRunS X ms_J9_floorMod_7cf53 (c_J9_floorMod_7cf53 l D k _ x hx) zw_255 (zPreS hP hD hK [] rfl rfl) rfl hl (Nat.le_of_ble_eq_true rfl) dX4_stateAt_3 ⟨rfl, rfl, ⟨Nat.le_of_ble_eq_true rfl, Nat.le_of_ble_eq_true rfl⟩, Nat.le_of_ble_eq_true rfl, Nat.le_of_ble_eq_true rfl⟩ rfl) hS hP hD hA [] rfl (fun _ => rfl) (fun r_3 u_3 H locs hq_3 hP hD hS => ?_)
  subst hq_3
  have hP : va_P D vwCl [(sv, .inr (4, [.ref st, .int (nZ old), .int (nZ size)])), (st, .inl (k 4, 6, .inr (.inr (.inr (.inr sf)))))] H := hP
  have hD : va_D A [(sv, .inr (4, [.ref st, .int (nZ old), .int (nZ size)])), (st, .inl (k 4, 6, .inr (.inr (.inr (.inr sf)))))] := hD
  refine lv_istore_n (lv' := [(2, .int (nZ (x % 6))), (0, .ref sv), (1, .int (nZ x))]) hX hB dX4_stateAt_6 rfl hl (by decide) rfl (fun ls hl => ?_)
  refine lv_iload_n hX hB dX4_stateAt_7 rfl (lv_at hl 0 rfl) ?_
  refine lv_aload_n hX hB dX4_stateAt_8 rfl (lv_at hl 1 rfl) ?_
  refine va_get hX hB hz inlX4 hW hK.1 hP 0 rfl rfl 0 (by decide) (hz _ zw_56) (fun _ h9 => h9) rfl dX4_stateAt_9 ?_
  refine zz_alen X hP 1 4 (N := 6) rfl rfl rfl dX4_stateAt_12 ?_
  refine zz_icmp_lt X (tgt := 24) dX4_stateAt_13 (by decide) ⟨by omega, by omega⟩ ⟨by omega, by omega⟩ (fun c_13 => ?_) (fun c_13 => ?_)
  · refine lv_aload_n hX hB dX4_stateAt_24 rfl (lv_at hl 1 rfl) ?_
    refine va_get hX hB hz inlX4 hW hK.1 hP 0 rfl rfl 0 (by decide) (hz _ zw_56) (fun _ h9 => h9) rfl dX4_stateAt_25 ?_
    refine lv_iload_n hX hB dX4_stateAt_28 rfl (lv_at hl 0 rfl) ?_
    refine zz_aald X hP 1 rfl ((x % 6).toNat) (by omega) (by omega) (by first | decide | omega) (v := .null) (by rw [hf]; rfl) dX4_stateAt_29 ?_
    refine lv_astore_nN (lv' := [(3, .null), (2, .int (nZ (x % 6))), (0, .ref sv), (1, .int (nZ x))]) hX hB dX4_stateAt_30 rfl hl (by decide) rfl (fun ls hl => ?_)
    refine lv_aload_nN hX hB dX4_stateAt_31 rfl (lv_at hl 0 rfl) ?_
    refine lv_ifnonnullN hX hB dX4_stateAt_32 ?_
    refine va_new (ci := 0) (fs := [.null, .null, .int (nZ 0), .int (nZ 0), .int (nZ 0), .int (nZ 0), .int (nZ 0), .int (nZ 0), .int (nZ 0), .int (nZ 0), .int (nZ 0)]) (C := RX0) (T := TX0) (N := 11) hX hB hz inlX0 tyX0 tyX0_ok hW (hz _ zw_55) (hz _ zw_10) (hz _ zw_11) hK.1 hP hD hS hA rfl zdefX0 (Nat.le_of_ble_eq_true rfl) (Nat.le_of_ble_eq_true rfl) dX4_stateAt_35 (fun q35 H hP hD hS => ?_)
    have hP : va_P D vwCl [(sv, .inr (4, [.ref st, .int (nZ old), .int (nZ size)])), (st, .inl (k 4, 6, .inr (.inr (.inr (.inr sf))))), (q35, .inr (0, [.null, .null, .int (nZ 0), .int (nZ 0), .int (nZ 0), .int (nZ 0), .int (nZ 0), .int (nZ 0), .int (nZ 0), .int (nZ 0), .int (nZ 0)]))] H := hP
    have hD : va_D A [(sv, .inr (4, [.ref st, .int (nZ old), .int (nZ size)])), (st, .inl (k 4, 6, .inr (.inr (.inr (.inr sf))))), (q35, .inr (0, [.null, .null, .int (nZ 0), .int (nZ 0), .int (nZ 0), .int (nZ 0), .int (nZ 0), .int (nZ 0), .int (nZ 0), .int (nZ 0), .int (nZ 0)]))] := hD
    refine W.widen (k := 1) (n := 11) (by decide) (by decide) ?_
    refine lv_dup hX hB dX4_stateAt_38 rfl ?_
    refine zCallV (w1 := fun (uz : Nat × Nat × Nat × Nat × Nat × Nat × Nat × Nat) => ([(q35, .inr (0, [.ref uz.1, .ref uz.2.1, .int (nZ 2), .int (nZ 0), .int (nZ 0), .int (nZ 0), .int (nZ 0), .int (nZ 0), .int (nZ 0), .int (nZ 0), .int (nZ 0)]))] : va_W)) (wn := fun (uz : Nat × Nat × Nat × Nat × Nat × Nat × Nat × Nat) => ([(uz.1, .inr (3, [.ref uz.2.2.1, .ref uz.2.2.2.1, .ref uz.2.2.2.2.1])), (uz.2.2.1, .inr (2, [.ref uz.2.2.2.2.2.1, .int (nZ 0)])), (uz.2.2.2.2.2.1, .inl (k 0, 21, .inl (zA (fun _ => 0)))), (uz.2.2.2.1, .inr (2, [.ref uz.2.2.2.2.2.2.1, .int (nZ 0)])), (uz.2.2.2.2.2.2.1, .inl (k 0, 21, .inl (zA (fun _ => 0)))), (uz.2.2.2.2.1, .inr (2, [.ref uz.2.2.2.2.2.2.2, .int (nZ 0)])), (uz.2.2.2.2.2.2.2, .inl (k 0, 21, .inl (zA (fun _ => 0)))), (uz.2.1, .inl (k 0, 18, .inl (zA (fun _ => 0))))] : va_W)) (zRunIN (As := []) X mi_X0_init (c_X0_init l D k _ q35 ) (zn_X4_38 hK.2.1) (zPreS hP hD hK [2] rfl rfl) rfl hl (Nat.le_of_ble_eq_true rfl) dX4_stateAt_39 ⟨rfl, rfl, ⟨Nat.le_of_ble_eq_true rfl, Nat.le_of_ble_eq_true rfl⟩, Nat.le_of_ble_eq_true rfl, Nat.le_of_ble_eq_true rfl⟩ rfl) hS hP hD hA [2] rfl (fun _ => rfl) (fun u_39 H locs hq_39 hP hD hS => ?_)
    obtain ⟨la_39, ca_39, l0_39, l1_39, l2_39, a0_39, a1_39, a2_39⟩ := u_39
    have hP : va_P D vwCl [(sv, .inr (4, [.ref st, .int (nZ old), .int (nZ size)])), (st, .inl (k 4, 6, .inr (.inr (.inr (.inr sf))))), (q35, .inr (0, [.ref la_39, .ref ca_39, .int (nZ 2), .int (nZ 0), .int (nZ 0), .int (nZ 0), .int (nZ 0), .int (nZ 0), .int (nZ 0), .int (nZ 0), .int (nZ 0)])), (la_39, .inr (3, [.ref l0_39, .ref l1_39, .ref l2_39])), (l0_39, .inr (2, [.ref a0_39, .int (nZ 0)])), (a0_39, .inl (k 0, 21, .inl (zA (fun _ => 0)))), (l1_39, .inr (2, [.ref a1_39, .int (nZ 0)])), (a1_39, .inl (k 0, 21, .inl (zA (fun _ => 0)))), (l2_39, .inr (2, [.ref a2_39, .int (nZ 0)])), (a2_39, .inl (k 0, 21, .inl (zA (fun _ => 0)))), (ca_39, .inl (k 0, 18, .inl (zA (fun _ => 0))))] H := hP
    have hD : va_D A [(sv, .inr (4, [.ref st, .int (nZ old), .int (nZ size)])), (st, .inl (k 4, 6, .inr (.inr (.inr (.inr sf))))), (q35, .inr (0, [.ref la_39, .ref ca_39, .int (nZ 2), .int (nZ 0), .int (nZ 0), .int (nZ 0), .int (nZ 0), .int (nZ 0), .int (nZ 0), .int (nZ 0), .int (nZ 0)])), (la_39, .inr (3, [.ref l0_39, .ref l1_39, .ref l2_39])), (l0_39, .inr (2, [.ref a0_39, .int (nZ 0)])), (a0_39, .inl (k 0, 21, .inl (zA (fun _ => 0)))), (l1_39, .inr (2, [.ref a1_39, .int (nZ 0)])), (a1_39, .inl (k 0, 21, .inl (zA (fun _ => 0)))), (l2_39, .inr (2, [.ref a2_39, .int (nZ 0)])), (a2_39, .inl (k 0, 21, .inl (zA (fun _ => 0)))), (ca_39, .inl (k 0, 18, .inl (zA (fun _ => 0))))] := hD
    refine W.widen (k := 9) (n := 101) (by decide) (by decide) ?_
    refine lv_astore_n (lv' := [(3, .ref q35), (2, .int (nZ (x % 6))), (0, .ref sv), (1, .int (nZ x))]) hX hB dX4_stateAt_42 rfl hl (by decide) rfl (fun ls hl => ?_)
    refine lv_aload_n hX hB dX4_stateAt_43 rfl (lv_at hl 2 rfl) ?_
    refine va_get hX hB hz inlX4 hW hK.1 hP 0 rfl rfl 0 (by decide) (hz _ zw_56) (fun _ h9 => h9) rfl dX4_stateAt_44 ?_
    refine lv_iload_n hX hB dX4_stateAt_47 rfl (lv_at hl 1 rfl) ?_
    refine lv_aload_n hX hB dX4_stateAt_48 rfl (lv_at hl 0 rfl) ?_
    refine zz_aast X hP hD hS 1 2 rfl rfl ((x % 6).toNat) (by omega) (by omega) (by first | decide | omega) dX4_stateAt_49 (fun H locs hP hD hS => ?_)
    have hP : va_P D vwCl [(sv, .inr (4, [.ref st, .int (nZ old), .int (nZ size)])), (st, .inl (k 4, 6, .inr (.inr (.inr (.inr (zU sf ((x % 6).toNat) (some q35))))))), (q35, .inr (0, [.ref la_39, .ref ca_39, .int (nZ 2), .int (nZ 0), .int (nZ 0), .int (nZ 0), .int (nZ 0), .int (nZ 0), .int (nZ 0), .int (nZ 0), .int (nZ 0)])), (la_39, .inr (3, [.ref l0_39, .ref l1_39, .ref l2_39])), (l0_39, .inr (2, [.ref a0_39, .int (nZ 0)])), (a0_39, .inl (k 0, 21, .inl (zA (fun _ => 0)))), (l1_39, .inr (2, [.ref a1_39, .int (nZ 0)])), (a1_39, .inl (k 0, 21, .inl (zA (fun _ => 0)))), (l2_39, .inr (2, [.ref a2_39, .int (nZ 0)])), (a2_39, .inl (k 0, 21, .inl (zA (fun _ => 0)))), (ca_39, .inl (k 0, 18, .inl (zA (fun _ => 0))))] H := hP
    have hD : va_D A [(sv, .inr (4, [.ref st, .int (nZ old), .int (nZ size)])), (st, .inl (k 4, 6, .inr (.inr (.inr (.inr (zU sf ((x % 6).toNat) (some q35))))))), (q35, .inr (0, [.ref la_39, .ref ca_39, .int (nZ 2), .int (nZ 0), .int (nZ 0), .int (nZ 0), .int (nZ 0), .int (nZ 0), .int (nZ 0), .int (nZ 0), .int (nZ 0)])), (la_39, .inr (3, [.ref l0_39, .ref l1_39, .ref l2_39])), (l0_39, .inr (2, [.ref a0_39, .int (nZ 0)])), (a0_39, .inl (k 0, 21, .inl (zA (fun _ => 0)))), (l1_39, .inr (2, [.ref a1_39, .int (nZ 0)])), (a1_39, .inl (k 0, 21, .inl (zA (fun _ => 0)))), (l2_39, .inr (2, [.ref a2_39, .int (nZ 0)])), (a2_39, .inl (k 0, 21, .inl (zA (fun _ => 0)))), (ca_39, .inl (k 0, 18, .inl (zA (fun _ => 0))))] := hD
    refine lv_aload_n hX hB dX4_stateAt_50 rfl (lv_at hl 0 rfl) ?_
    exact zRetR (q35, la_39, ca_39, l0_39, l1_39, l2_39, a0_39, a1_39, a2_39) X hP hD hS rfl trivial (rfl) dX4_stateAt_51
  · exfalso; omega

