section LOOP
variable {p : Program} {l : Launch} {e : Env} {R : Room} {s : State} {m : MethodId} {args : Array Value} {below : List Frame} {meth : Method} {c : Code} {Q : State → Prop}
variable {D : va_G} {k : Nat → ClassId} {h mm ot b L : Nat} {sc : Nat → Int32} {A : Nat → Prop} {i : Int} {cells slots : Nat}

theorem law_step (C : lawC p l R s m args meth c D k b L sc A i cells slots) (KK : lawG p l e R s m args below meth c Q D k h mm ot b A i (cells + 10) (slots + 110) 1057) : lawG p l e R s m args below meth c Q D k h mm ot b A i cells slots 32 := by
  have C9 := C
  intro H locs ls σ t g xs ys hG hx hm hP hD hS hl
  obtain ⟨X, hst, hxT, hxZ, hA, hC, hbl, hbA, hL, hi, hfr, hcs⟩ := C
  have hX := X.1; have hB := X.2.1; have hz := X.2.2.2.2.1; have hW := X.2.2.2.2.2.1; have hK := X.2.2.2.2.2.2.2
  obtain ⟨x0, hv0⟩ : ∃ x : Int32, sc (nZ i).toNatClampNeg = x := ⟨_, rfl⟩
  refine lv_aload_n hX hB dL_law_32 rfl (lv_at hl 0 rfl) ?_
  refine lv_iload hX hB dL_law_33 (lv_at hl 4 rfl) ?_
  refine zz_sld X hC hbl hbA hS (by omega) (by omega) hL hv0 dL_law_35 ?_
  refine lv_bipush (v := nZ 31) hX hB dL_law_36 (by decide) ?_
  refine lv_iand hX hB dL_law_38 ?_
  generalize x0 &&& nZ 31 = v
  by_cases hr : 0 ≤ v.toInt ∧ v.toInt ≤ 20
  · rcases (by omega : v.toInt = 0 ∨ v.toInt = 1 ∨ v.toInt = 2 ∨ v.toInt = 3 ∨ v.toInt = 4 ∨ v.toInt = 5 ∨ v.toInt = 6 ∨ v.toInt = 7 ∨ v.toInt = 8 ∨ v.toInt = 9 ∨ v.toInt = 10 ∨ v.toInt = 11 ∨ v.toInt = 12 ∨ v.toInt = 13 ∨ v.toInt = 14 ∨ v.toInt = 15 ∨ v.toInt = 16 ∨ v.toInt = 17 ∨ v.toInt = 18 ∨ v.toInt = 19 ∨ v.toInt = 20) with hj | hj | hj | hj | hj | hj | hj | hj | hj | hj | hj | hj | hj | hj | hj | hj | hj | hj | hj | hj | hj
    · refine lv_tableIn (off := 97) (tgt := 136) hX hB dL_law_39 (by omega) (by omega) (by rw [hj]; rfl) (by decide) ?_
      exact lc_push C9 KK H locs ls σ t g xs ys hG hx hm hP hD hS hl
    · refine lv_tableIn (off := 165) (tgt := 204) hX hB dL_law_39 (by omega) (by omega) (by rw [hj]; rfl) (by decide) ?_
      exact lc_endTurn C9 KK H locs ls σ t g xs ys hG hx hm hP hD hS hl
    · refine lv_tableIn (off := 178) (tgt := 217) hX hB dL_law_39 (by omega) (by omega) (by rw [hj]; rfl) (by decide) ?_
      exact lc_begin C9 KK H locs ls σ t g xs ys hG hx hm hP hD hS hl
    · refine lv_tableIn (off := 191) (tgt := 230) hX hB dL_law_39 (by omega) (by omega) (by rw [hj]; rfl) (by decide) ?_
      exact lc_set C9 KK H locs ls σ t g xs ys hG hx hm hP hD hS hl
    · refine lv_tableIn (off := 247) (tgt := 286) hX hB dL_law_39 (by omega) (by omega) (by rw [hj]; rfl) (by decide) ?_
      exact lc_append C9 KK H locs ls σ t g xs ys hG hx hm hP hD hS hl
    · refine lv_tableIn (off := 303) (tgt := 342) hX hB dL_law_39 (by omega) (by omega) (by rw [hj]; rfl) (by decide) ?_
      exact lc_clearBuffer C9 KK H locs ls σ t g xs ys hG hx hm hP hD hS hl
    · refine lv_tableIn (off := 316) (tgt := 355) hX hB dL_law_39 (by omega) (by omega) (by rw [hj]; rfl) (by decide) ?_
      exact lc_firstError C9 KK H locs ls σ t g xs ys hG hx hm hP hD hS hl
    · refine lv_tableIn (off := 329) (tgt := 368) hX hB dL_law_39 (by omega) (by omega) (by rw [hj]; rfl) (by decide) ?_
      exact lc_lay C9 KK H locs ls σ t g xs ys hG hx hm hP hD hS hl
    · refine lv_tableIn (off := 373) (tgt := 412) hX hB dL_law_39 (by omega) (by omega) (by rw [hj]; rfl) (by decide) ?_
      exact lc_keep C9 KK H locs ls σ t g xs ys hG hx hm hP hD hS hl
    · refine lv_tableIn (off := 429) (tgt := 468) hX hB dL_law_39 (by omega) (by omega) (by rw [hj]; rfl) (by decide) ?_
      exact lc_goBack C9 KK H locs ls σ t g xs ys hG hx hm hP hD hS hl
    · refine lv_tableIn (off := 485) (tgt := 524) hX hB dL_law_39 (by omega) (by omega) (by rw [hj]; rfl) (by decide) ?_
      exact lc_undo C9 KK H locs ls σ t g xs ys hG hx hm hP hD hS hl
    · refine lv_tableIn (off := 529) (tgt := 568) hX hB dL_law_39 (by omega) (by omega) (by rw [hj]; rfl) (by decide) ?_
      exact lc_coin C9 KK H locs ls σ t g xs ys hG hx hm hP hD hS hl
    · refine lv_tableIn (off := 597) (tgt := 636) hX hB dL_law_39 (by omega) (by omega) (by rw [hj]; rfl) (by decide) ?_
      exact lc_bedOf C9 KK H locs ls σ t g xs ys hG hx hm hP hD hS hl
    · refine lv_tableIn (off := 665) (tgt := 704) hX hB dL_law_39 (by omega) (by omega) (by rw [hj]; rfl) (by decide) ?_
      exact lc_count C9 KK H locs ls σ t g xs ys hG hx hm hP hD hS hl
    · refine lv_tableIn (off := 721) (tgt := 760) hX hB dL_law_39 (by omega) (by omega) (by rw [hj]; rfl) (by decide) ?_
      exact lc_setting C9 KK H locs ls σ t g xs ys hG hx hm hP hD hS hl
    · refine lv_tableIn (off := 734) (tgt := 773) hX hB dL_law_39 (by omega) (by omega) (by rw [hj]; rfl) (by decide) ?_
      exact lc_ends C9 KK H locs ls σ t g xs ys hG hx hm hP hD hS hl
    · refine lv_tableIn (off := 814) (tgt := 853) hX hB dL_law_39 (by omega) (by omega) (by rw [hj]; rfl) (by decide) ?_
      exact lc_ifPushed C9 KK H locs ls σ t g xs ys hG hx hm hP hD hS hl
    · refine lv_tableIn (off := 882) (tgt := 921) hX hB dL_law_39 (by omega) (by omega) (by rw [hj]; rfl) (by decide) ?_
      exact lc_strengthFor C9 KK H locs ls σ t g xs ys hG hx hm hP hD hS hl
    · refine lv_tableIn (off := 950) (tgt := 989) hX hB dL_law_39 (by omega) (by omega) (by rw [hj]; rfl) (by decide) ?_
      exact lc_bestPush C9 KK H locs ls σ t g xs ys hG hx hm hP hD hS hl
    · refine lv_tableIn (off := 963) (tgt := 1002) hX hB dL_law_39 (by omega) (by omega) (by rw [hj]; rfl) (by decide) ?_
      exact lc_fullness C9 KK H locs ls σ t g xs ys hG hx hm hP hD hS hl
    · refine lv_tableIn (off := 1004) (tgt := 1043) hX hB dL_law_39 (by omega) (by omega) (by rw [hj]; rfl) (by decide) ?_
      exact lc_digest C9 KK H locs ls σ t g xs ys hG hx hm hP hD hS hl
  · refine lv_tableOut (tgt := 1057) hX hB dL_law_39 (by omega) (by decide) ?_
    exact W.widen (k := cells + 10) (n := slots + 110) (by omega) (by omega) (KK H locs ls σ t g xs ys hG hx hm hP hD hS hl)
theorem law_loop (X : zCx p s m args meth c cL_law 9 (some .boolean) RL D k) (hst : l.stackTraces = false) (hxT : zT s) (hxZ : zZ A s s.heap) (hA : ∀ q, s.heap.size ≤ q → A q) (hC : va_X b L sc s s.heap) (hbl : b < s.heap.size) (hbA : ¬ A b) (hL : L ≤ 2048) (hfr : 12 ≤ R.frames ∧ 436 ≤ R.locals) (hR : R.cells = 601024 ∧ R.slots = 7293033)
    (KE : ∀ (H : Heap) (locs : List Loc) (ls : Array Slot), va_S A s.heap H locs → W p l e R s m args below meth c H locs 601024 7293033 Q (F0 m 1063 ls [])) :
    ∀ (r : Nat) (i : Int) (cells slots : Nat), 0 ≤ i → i ≤ 4096 → (L : Int) < i + 4 * r + 4 → cells + 10 * r ≤ 600000 → slots + 110 * r ≤ 7000000 → lawG p l e R s m args below meth c Q D k h mm ot b A i cells slots 23 := by
  have hX := X.1; have hB := X.2.1
  intro r
  induction r with
  | zero =>
    intro i cells slots h0 h1 h2 h3 h4 H locs ls σ t g xs ys hG hx hm hP hD hS hl
    refine lv_iload hX hB dL_law_23 (lv_at hl 4 rfl) ?_
    refine lv_aload_n hX hB dL_law_25 rfl (lv_at hl 0 rfl) ?_
    refine va_slen hX hB hC hbl hbA hS dL_law_26 ?_
    rw [nZ_ofNat]
    refine lv_iconst (v := nZ 4) hX hB dL_law_27 rfl ?_
    refine zz_isub X dL_law_28 (z := (L : Int) - 4) rfl ?_
    refine zz_icmp_gt X (tgt := 1063) dL_law_29 (by decide) ⟨by omega, by omega⟩ ⟨by omega, by omega⟩ (fun _ => ?_) (fun c9 => by exfalso; omega)
    exact W.widen (by omega) (by omega) (KE H locs ls hS)
  | succ r ih =>
    intro i cells slots h0 h1 h2 h3 h4 H locs ls σ t g xs ys hG hx hm hP hD hS hl
    refine lv_iload hX hB dL_law_23 (lv_at hl 4 rfl) ?_
    refine lv_aload_n hX hB dL_law_25 rfl (lv_at hl 0 rfl) ?_
    refine va_slen hX hB hC hbl hbA hS dL_law_26 ?_
    rw [nZ_ofNat]
    refine lv_iconst (v := nZ 4) hX hB dL_law_27 rfl ?_
    refine zz_isub X dL_law_28 (z := (L : Int) - 4) rfl ?_
    refine zz_icmp_gt X (tgt := 1063) dL_law_29 (by decide) ⟨by omega, by omega⟩ ⟨by omega, by omega⟩ (fun _ => ?_) (fun c9 => ?_)
    · exact W.widen (by omega) (by omega) (KE H locs ls hS)
    · refine law_step (L := L) (sc := sc) (i := i) (cells := cells) (slots := slots) ⟨X, hst, hxT, hxZ, hA, hC, hbl, hbA, hL, ⟨h0, by omega⟩, hfr, ⟨by omega, by omega⟩⟩ ?_ H locs ls σ t g xs ys hG hx hm hP hD hS hl
      intro H locs ls σ t g xs ys hG hx hm hP hD hS hl
      refine lv_iinc (v := nZ (i + 4)) (lv' := [(4, .int (nZ (i + 4))), (0, .ref b), (1, .ref h), (2, .ref mm), (3, .ref ot)]) hX hB dL_law_1057 hl (k := 4) rfl (zinc (by omega)) (by decide) rfl (fun ls hl => ?_)
      refine lv_goto (tgt := 23) hX hB dL_law_1060 (by decide) ?_
      exact ih (i + 4) (cells + 10) (slots + 110) (by omega) (by omega) (by omega) (by omega) (by omega) H locs ls σ t g xs ys hG hx hm hP hD hS (lv_sub hl [1, 2, 3, 4, 0] rfl)
end LOOP
