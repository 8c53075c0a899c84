/-! the law's own body -/
def lawC (p : Program) (l : Launch) (R : Room) (s : State) (m : MethodId) (args : Array Value) (meth : Method) (c : Code) (D : va_G) (k : Nat → ClassId) (b L : Nat) (sc : Nat → Int32) (A : Nat → Prop) (i : Int) (cells slots : Nat) : Prop :=
  zCx p s m args meth c cL_law 9 (some .boolean) RL D k ∧ l.stackTraces = false ∧ zT s ∧ zZ A s s.heap ∧ (∀ q, s.heap.size ≤ q → A q) ∧ va_X b L sc s s.heap ∧ b < s.heap.size ∧ ¬ A b ∧ L ≤ 2048 ∧ (0 ≤ i ∧ i + 4 ≤ (L : Int)) ∧ (12 ≤ R.frames ∧ 436 ≤ R.locals) ∧ (cells + 10 ≤ R.cells ∧ slots + 110 ≤ R.slots)
def lawG (p : Program) (l : Launch) (e : Env) (R : Room) (s : State) (m : MethodId) (args : Array Value) (below : List Frame) (meth : Method) (c : Code) (Q : State → Prop) (D : va_G) (k : Nat → ClassId) (h mm ot b : Nat) (A : Nat → Prop) (i : Int) (cells slots pc : Nat) : Prop :=
  ∀ (H : Heap) (locs : List Loc) (ls : Array Slot) (σ : Sv) (t : Int) (g : Nat → Int64) (xs ys : va_W), goodS σ → isX k h σ xs → isM k mm t σ ys → va_P D vwCl (zOc k ot g :: (xs ++ ys)) H → va_D A (zOc k ot g :: (xs ++ ys)) → va_S A s.heap H locs → lv_has ls 9 [(0, .ref b), (1, .ref h), (2, .ref mm), (3, .ref ot), (4, .int (nZ i))] → W p l e R s m args below meth c H locs cells slots Q (F0 m pc ls [])
theorem zlp1 {k : Nat → ClassId} {ot : Nat} {g : Nat → Int64} {xs ys : va_W} : (zOc k ot g :: (xs ++ ys)).Perm ((zOc k ot g :: xs) ++ ys) := List.Perm.refl _
theorem zlp2 {k : Nat → ClassId} {ot : Nat} {g : Nat → Int64} {xs ys : va_W} : (zOc k ot g :: (xs ++ ys)).Perm (ys ++ (zOc k ot g :: xs)) := List.perm_append_comm (l₁ := zOc k ot g :: xs) (l₂ := ys)
theorem zlp3 {k : Nat → ClassId} {ot : Nat} {g : Nat → Int64} {xs ys : va_W} : (zOc k ot g :: (xs ++ ys)).Perm (xs ++ (zOc k ot g :: ys)) := List.perm_middle.symm
section LC
variable {p : Program} {l : Launch} {e : Env} {R : Room} {s : State} {m : MethodId} {args : Array Value} {below : List Frame} {meth : Method} {c : Code} {Q : State → Prop}
variable {D : va_G} {k : Nat → ClassId} {h mm ot b L : Nat} {sc : Nat → Int32} {A : Nat → Prop} {i : Int} {cells slots : Nat}
variable {cc : ByteArray} {pc nL : Nat} {own : String} {ret : Option FieldType} {ls : Array Slot} {rest : List Value} {H : Heap} {locs : List Loc}
theorem zz_sld (X : zCx p s m args meth c cc nL ret own D k) {H0 : Heap} (hC : va_X b L sc s H0) (hbl : b < H0.size) (hbA : ¬ A b) (hS : va_S A H0 H locs) {z : Int} {x : Int32} (h0 : 0 ≤ z) (h1 : z < L) (h2 : L ≤ 2048) (he : sc (nZ z).toNatClampNeg = x) (hdg : decode cc pc = .ok (.iaload, 1)) (kk : W p l e R s m args below meth c H locs cells slots Q (F0 m (pc + 1) ls (.int x :: rest))) : W p l e R s m args below meth c H locs cells slots Q (F0 m pc ls (.int (nZ z) :: .ref b :: rest)) := by
  subst he
  exact va_sld X.1 X.2.1 hC hbl hbA hS (nZ_in h0 h1 (by omega)) hdg kk
theorem zz_lcmp0 (X : zCx p s m args meth c cc nL ret own D k) {x y : Int64} (he : x = y) (hdg : decode cc pc = .ok (.lcmp, 1)) (kk : W p l e R s m args below meth c H locs cells slots Q (F0 m (pc + 1) ls (.int (nZ 0) :: rest))) : W p l e R s m args below meth c H locs cells slots Q (F0 m pc ls (.long y :: .long x :: rest)) := by
  subst he
  refine W.lcmp X.1 X.2.1 hdg ?_
  have e : lg_cmp x x = nZ 0 := by
    unfold lg_cmp
    rw [if_neg (by show ¬ x < x; rw [Int64.lt_iff_toInt_lt]; omega)]
    simp
    rfl
  rw [e]
  exact kk
theorem lv_same_eq (X : zCx p s m args meth c cc nL ret own D k) {x y : Int32} (he : x = y) {off : Int} {tgt : Nat} (hdg : decode cc pc = .ok (.if_icmp .eq off, 3)) (ht : (pc : Int) + off = (tgt : Int)) (kk : W p l e R s m args below meth c H locs cells slots Q (F0 m tgt ls rest)) : W p l e R s m args below meth c H locs cells slots Q (F0 m pc ls (.int y :: .int x :: rest)) := by
  subst he
  exact lv_icmp_eq X.1 X.2.1 hdg ht (fun _ => kk) (fun h => absurd rfl h)
end LC
