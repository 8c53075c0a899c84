/-! making: arrays of a known class id, default fields -/
section ZM
variable {p : Program} {l : Launch} {e : Env} {R : Room} {s : State} {m : MethodId} {args : Array Value} {below : List Frame} {meth : Method} {c : Code} {H : Heap} {locs : List Loc} {cells slots : Nat} {Q : State → Prop}
variable {D : va_G} {k : Nat → ClassId} {cc : ByteArray} {pc nL index : Nat} {own : String} {ret : Option FieldType} {ls : Array Slot} {rest : List Value} {A : Nat → Prop} {ws : va_W} {H0 : Heap} {lv : List (Nat × Value)}
theorem zz_newaG (X : zCx p s m args meth c cc nL ret own D k) (hP : va_P D vwCl ws H) (hD : va_D A ws) (hS : va_S A H0 H locs) (hA : ∀ q, H0.size ≤ q → A q) {atype : ArrayType} {ty : FieldType} (hty : newarray.typeOf atype = ty) (harr : (Cond.arrayClass ty).before args s = true) {t0 : Nat} {cK : ClassId} (ht : (zTy k)[t0]? = some (cK, ty)) (hu : ∀ c1 c2 : ClassId, va_RA s c1 ty → va_RA s c2 ty → c1 = c2)
    {N : Nat} {a0 : vp_A} (ha : ∀ cA : ClassId, vp_cell cA a0 = arrV cA N (fun _ => defaultValue ty)) (hN : N ≤ 1000) (hbytes : N * componentBytes ty ≤ 536870912) (hcells : cells + 1 ≤ R.cells) (hslots : slots + N ≤ R.slots) (hdg : decode cc pc = .ok (.newarray atype, 2))
    (kk : ∀ (q : Nat) (H1 : Heap), va_P D vwCl (ws ++ [(q, .inl (cK, a0))]) H1 → va_D A (ws ++ [(q, .inl (cK, a0))]) → va_S A H0 H1 locs →
      W p l e R s m args below meth c H1 locs (cells + 1) (slots + N) Q (F0 m (pc + 2) ls (.ref q :: rest))) : W p l e R s m args below meth c H locs cells slots Q (F0 m pc ls (.int (nZ (N : Int)) :: rest)) := by
  have hK := X.2.2.2.2.2.2.2.1
  have hn : ¬ nZ (N : Int) < 0 := by
    have e0 : (0 : Int32) = nZ 0 := rfl
    rw [e0, nZ_lt ⟨by omega, by omega⟩ ⟨by omega, by omega⟩]
    omega
  refine va_newa X.1 X.2.1 (by rw [hty]; exact harr) hty hK hP hD hS hA ha hn (nZ_clamp ⟨by omega, by omega⟩) hbytes hcells hslots hdg (fun q cA H1 hK1 hP1 hD1 hS1 => ?_)
  have e1 : cA = cK := hu _ _ (hK1.2 5 (cA, ty) rfl).2 (hK.2 t0 _ ht).2
  subst e1
  exact kk q H1 hP1 hD1 hS1
theorem zz_newa_int (X : zCx p s m args meth c cc nL ret own D k) (hP : va_P D vwCl ws H) (hD : va_D A ws) (hS : va_S A H0 H locs) (hA : ∀ q, H0.size ≤ q → A q) (harr : (Cond.arrayClass .int).before args s = true)
    (N : Nat) (hN : N ≤ 1000) (hcells : cells + 1 ≤ R.cells) (hslots : slots + N ≤ R.slots) (hdg : decode cc pc = .ok (.newarray .int, 2))
    (kk : ∀ (q : Nat) (H1 : Heap), va_P D vwCl (ws ++ [(q, .inl (k 0, N, .inl (zA (fun _ => 0))))]) H1 → va_D A (ws ++ [(q, .inl (k 0, N, .inl (zA (fun _ => 0))))]) → va_S A H0 H1 locs →
      W p l e R s m args below meth c H1 locs (cells + 1) (slots + N) Q (F0 m (pc + 2) ls (.ref q :: rest))) : W p l e R s m args below meth c H locs cells slots Q (F0 m pc ls (.int (nZ (N : Int)) :: rest)) :=
  zz_newaG X hP hD hS hA (ty := .int) rfl harr (t0 := 0) rfl (fun c1 c2 h1 h2 => Option.some.inj (h1.symm.trans h2)) (a0 := (N, .inl (zA (fun _ => 0)))) (fun cA => rfl) hN (by show N * 4 ≤ _; omega) hcells hslots hdg kk
theorem zz_newq (X : zCx p s m args meth c cc nL ret own D k) (hP : va_P D vwCl ws H) (hD : va_D A ws) (hS : va_S A H0 H locs) (hA : ∀ q, H0.size ≤ q → A q) (hlink : (Cond.classLink own index RX0).before args s = true)
    (N : Nat) (hN : N ≤ 1000) (hcells : cells + 1 ≤ R.cells) (hslots : slots + N ≤ R.slots) (hdg : decode cc pc = .ok (.anewarray index, 3))
    (kk : ∀ (q : Nat) (H1 : Heap), va_P D vwCl (ws ++ [(q, .inl (k 4, N, .inr (.inr (.inr (.inr (fun _ => none))))))]) H1 → va_D A (ws ++ [(q, .inl (k 4, N, .inr (.inr (.inr (.inr (fun _ => none))))))]) → va_S A H0 H1 locs →
      W p l e R s m args below meth c H1 locs (cells + 1) (slots + N) Q (F0 m (pc + 3) ls (.ref q :: rest))) : W p l e R s m args below meth c H locs cells slots Q (F0 m pc ls (.int (nZ (N : Int)) :: rest)) := by
  have hK := X.2.2.2.2.2.2.2.1
  have hn : ¬ nZ (N : Int) < 0 := by
    have e0 : (0 : Int32) = nZ 0 := rfl
    rw [e0, nZ_lt ⟨by omega, by omega⟩ ⟨by omega, by omega⟩]
    omega
  refine va_newq X.1 X.2.1 X.2.2.2.2.2.1 hlink X.2.2.2.2.2.2.2.2.2 hK hP hD hS hA hn (nZ_clamp ⟨by omega, by omega⟩) (by omega) hcells hslots hdg (fun q cA H1 hK1 hP1 hD1 hS1 => ?_)
  obtain ⟨_, _, _, _, _, h1⟩ := (hK1.2 5 (cA, .object RX0) rfl).2
  obtain ⟨_, _, _, _, _, h2⟩ := (hK.2 4 _ rfl).2
  have e1 : cA = k 4 := Option.some.inj (h1.symm.trans h2)
  subst e1
  exact kk q H1 hP1 hD1 hS1
theorem zz_aald (X : zCx p s m args meth c cc nL ret own D k) (hP : va_P D vwCl ws H) (q0 : Nat) {a : Nat} {N : Nat} {f : Nat → Option Nat} (ha : ws[q0]? = some (a, .inl (k 4, N, .inr (.inr (.inr (.inr f)))))) {i : Int} (j : Nat) (hj : i = (j : Int)) (hin : j < N) (hN : N ≤ 1000000) {v : Value} (hv : va_rf (f j) = v) (hdg : decode cc pc = .ok (.aaload, 1))
    (kk : W p l e R s m args below meth c H locs cells slots Q (F0 m (pc + 1) ls (v :: rest))) : W p l e R s m args below meth c H locs cells slots Q (F0 m pc ls (.int (nZ i) :: .ref a :: rest)) := by
  subst hj; subst hv
  refine va_aldq X.1 X.2.1 X.2.2.2.2.2.2.2.1 hP q0 4 ha rfl (nZ_in (by omega) (by omega) hN) hdg ?_
  rw [nZ_clamp ⟨by omega, by omega⟩]
  exact kk
theorem zz_aast (X : zCx p s m args meth c cc nL ret own D k) (hP : va_P D vwCl ws H) (hD : va_D A ws) (hS : va_S A H0 H locs) (q0 qk : Nat) {a v : Nat} {N : Nat} {f : Nat → Option Nat} {vs : List Value} (ha : ws[q0]? = some (a, .inl (k 4, N, .inr (.inr (.inr (.inr f)))))) (hv : ws[qk]? = some (v, .inr (0, vs))) {i : Int} (j : Nat) (hj : i = (j : Int)) (hin : j < N) (hN : N ≤ 1000000) (hdg : decode cc pc = .ok (.aastore, 1))
    (kk : ∀ (H1 : Heap) (locs1 : List Loc), va_P D vwCl (ws.set q0 (a, .inl (k 4, N, .inr (.inr (.inr (.inr (zU f j (some v)))))))) H1 → va_D A (ws.set q0 (a, .inl (k 4, N, .inr (.inr (.inr (.inr (zU f j (some v)))))))) → va_S A H0 H1 locs1 → W p l e R s m args below meth c H1 locs1 cells slots Q (F0 m (pc + 1) ls rest)) : W p l e R s m args below meth c H locs cells slots Q (F0 m pc ls (.ref v :: .int (nZ i) :: .ref a :: rest)) := by
  subst hj
  refine va_astq X.1 X.2.1 X.2.2.2.2.2.2.2.1 hP hD hS q0 4 qk 0 (r := (RX0, TX0, 11)) ha rfl hv rfl (nZ_in (by omega) (by omega) hN) hdg (fun H1 locs1 h1 h2 h3 => ?_)
  rw [nZ_clamp ⟨by omega, by omega⟩] at h1 h2
  exact kk H1 locs1 h1 h2 h3
theorem zz_ixor (X : zCx p s m args meth c cc nL ret own D k) {x : Int} (h : 0 ≤ x ∧ x < 12) {off : Int} {tgt : Nat} (hdg : decode cc pc = .ok (.ixor, 1)) (hdg2 : decode cc (pc + 1) = .ok (.ifCond .ge off, 3)) (ht : ((pc + 1 : Nat) : Int) + off = (tgt : Int)) (kk : W p l e R s m args below meth c H locs cells slots Q (F0 m tgt ls rest)) : W p l e R s m args below meth c H locs cells slots Q (F0 m pc ls (.int (nZ 6) :: .int (nZ x) :: rest)) := by
  refine lv_ixor X.1 X.2.1 hdg ?_
  refine lv_if_ge X.1 X.2.1 hdg2 ht (fun _ => kk) (fun hn => ?_)
  exfalso
  rcases (by omega : x = 0 ∨ x = 1 ∨ x = 2 ∨ x = 3 ∨ x = 4 ∨ x = 5 ∨ x = 6 ∨ x = 7 ∨ x = 8 ∨ x = 9 ∨ x = 10 ∨ x = 11) with rfl | rfl | rfl | rfl | rfl | rfl | rfl | rfl | rfl | rfl | rfl | rfl <;> exact hn (by decide)
end ZM
theorem zdefX0 : ∀ j, j < 11 → defaultValue (tyX0 j) = vp_V [.null, .null, .int (nZ 0), .int (nZ 0), .int (nZ 0), .int (nZ 0), .int (nZ 0), .int (nZ 0), .int (nZ 0), .int (nZ 0), .int (nZ 0)] j := by
  intro j hj
  rcases (by omega : j = 0 ∨ j = 1 ∨ j = 2 ∨ j = 3 ∨ j = 4 ∨ j = 5 ∨ j = 6 ∨ j = 7 ∨ j = 8 ∨ j = 9 ∨ j = 10) with rfl | rfl | rfl | rfl | rfl | rfl | rfl | rfl | rfl | rfl | rfl <;> rfl
theorem zdefX1 : ∀ j, j < 2 → defaultValue (tyX1 j) = vp_V [.null, .int (nZ 0)] j := by
  intro j hj
  rcases (by omega : j = 0 ∨ j = 1) with rfl | rfl <;> rfl
theorem zdefX2 : ∀ j, j < 2 → defaultValue (tyX2 j) = vp_V [.null, .int (nZ 0)] j := by
  intro j hj
  rcases (by omega : j = 0 ∨ j = 1) with rfl | rfl <;> rfl
theorem zdefX3 : ∀ j, j < 3 → defaultValue (tyX3 j) = vp_V [.null, .null, .null] j := by
  intro j hj
  rcases (by omega : j = 0 ∨ j = 1 ∨ j = 2) with rfl | rfl | rfl <;> rfl
theorem zdefX4 : ∀ j, j < 3 → defaultValue (tyX4 j) = vp_V [.null, .int (nZ 0), .int (nZ 0)] j := by
  intro j hj
  rcases (by omega : j = 0 ∨ j = 1 ∨ j = 2) with rfl | rfl | rfl <;> rfl
theorem zdefX5 : ∀ j, j < 8 → defaultValue (tyX5 j) = vp_V [.null, .int (nZ 0), .int (nZ 0), .int (nZ 0), .int (nZ 0), .int (nZ 0), .int (nZ 0), .int (nZ 0)] j := by
  intro j hj
  rcases (by omega : j = 0 ∨ j = 1 ∨ j = 2 ∨ j = 3 ∨ j = 4 ∨ j = 5 ∨ j = 6 ∨ j = 7) with rfl | rfl | rfl | rfl | rfl | rfl | rfl | rfl <;> rfl
theorem zdefX6 : ∀ j, j < 7 → defaultValue (tyX6 j) = vp_V [.null, .null, .null, .null, .null, .null, .null] j := by
  intro j hj
  rcases (by omega : j = 0 ∨ j = 1 ∨ j = 2 ∨ j = 3 ∨ j = 4 ∨ j = 5 ∨ j = 6) with rfl | rfl | rfl | rfl | rfl | rfl | rfl <;> rfl
