/-! whole numbers as ints: nZ z is the int of z -/
def nZ (z : Int) : Int32 := Int32.ofInt z
theorem nZ_add (a b : Int) : nZ a + nZ b = nZ (a + b) := (Int32.ofInt_add a b).symm
theorem nZ_sub (a b : Int) : nZ a - nZ b = nZ (a - b) := (Int32.ofInt_sub a b).symm
theorem nZ_mul (a b : Int) : nZ a * nZ b = nZ (a * b) := (Int32.ofInt_mul a b).symm
theorem nZ_neg (a : Int) : -nZ a = nZ (-a) := (Int32.ofInt_neg a).symm
theorem nZ_as (x : Int32) : nZ x.toInt = x := Int32.ofInt_toInt x
theorem nZ_rng (x : Int32) : -2147483648 ≤ x.toInt ∧ x.toInt < 2147483648 := by
  have h1 := Int32.le_toInt x
  have h2 := Int32.toInt_lt x
  omega
abbrev zR (a : Int) : Prop := -2147483648 ≤ a ∧ a < 2147483648
theorem nZ_toInt {a : Int} (h : zR a) : (nZ a).toInt = a := by
  obtain ⟨h1, h2⟩ := h
  exact Int32.toInt_ofInt_of_le (by omega) (by omega)
theorem nZ_lt {a b : Int} (ha : zR a) (hb : zR b) : nZ a < nZ b ↔ a < b := by rw [Int32.lt_iff_toInt_lt, nZ_toInt ha, nZ_toInt hb]
theorem nZ_le {a b : Int} (ha : zR a) (hb : zR b) : nZ a ≤ nZ b ↔ a ≤ b := by rw [Int32.le_iff_toInt_le, nZ_toInt ha, nZ_toInt hb]
theorem nZ_eq {a b : Int} (ha : zR a) (hb : zR b) : nZ a = nZ b ↔ a = b := by rw [← Int32.toInt_inj, nZ_toInt ha, nZ_toInt hb]
theorem nZ_clamp {a : Int} (h : zR a) : (nZ a).toNatClampNeg = a.toNat := by
  show (nZ a).toInt.toNat = a.toNat
  rw [nZ_toInt h]
theorem nZ_in {a : Int} {n : Nat} (h0 : 0 ≤ a) (h1 : a < n) (hn : n ≤ 1000000) : vp_in (nZ a) n := by
  rw [vp_in_iff, nZ_toInt ⟨by omega, by omega⟩]
  exact ⟨h0, h1⟩
theorem nZ_ofNat (n : Nat) : Int32.ofNat n = nZ (n : Int) := (Int32.ofInt_eq_ofNat).symm
theorem nZ_nI (n : Nat) : nI n = nZ (n : Int) := nZ_ofNat n
theorem nZ_div {a b : Int} (ha : 0 ≤ a) (ha2 : a < 2147483648) (hb : 0 < b) (hb2 : b < 2147483648) : nZ a / nZ b = nZ (a / b) := by
  obtain ⟨m, rfl⟩ := Int.eq_ofNat_of_zero_le ha
  obtain ⟨n, rfl⟩ := Int.eq_ofNat_of_zero_le (Int.le_of_lt hb)
  rw [← nZ_nI, ← nZ_nI, pk_div (by omega) (by omega) (by omega), nZ_nI]
  rfl
theorem nZ_rem {a b : Int} (ha : 0 ≤ a) (ha2 : a < 2147483648) (hb : 0 < b) (hb2 : b < 2147483648) : nZ a - nZ a / nZ b * nZ b = nZ (a % b) := by
  rw [nZ_div ha ha2 hb hb2, nZ_mul, nZ_sub]
  congr 1
  have := Int.mul_ediv_add_emod a b
  rw [Int.mul_comm] at this
  omega
/-! rows of whole numbers: contents of an int array -/
def zA (g : Nat → Int) : Nat → Int32 := fun k => nZ (g k)
def zU {α : Type} (g : Nat → α) (k : Nat) (v : α) : Nat → α := fun j => if j = k then v else g j
theorem zA_upd (g : Nat → Int) (k : Nat) (z : Int) : upd (zA g) k (nZ z) = zA (zU g k z) := by
  funext j
  by_cases h : j = k
  · simp [upd, zA, zU, h]
  · simp [upd, zA, zU, h]
theorem zU_same {α : Type} (g : Nat → α) (k : Nat) (v : α) : zU g k v k = v := by simp [zU]
theorem zU_ne {α : Type} (g : Nat → α) {j k : Nat} (v : α) (h : j ≠ k) : zU g k v j = g j := by simp [zU, h]
/-! what the class ids of arrays are -/
abbrev zTy (k : Nat → ClassId) : List (ClassId × FieldType) := [(k 0, .int), (k 0, .int), (k 0, .int), (k 0, .int), (k 4, .object RX0)]
def zK (D : va_G) (k : Nat → ClassId) (U : State) : Prop := va_K D vwCl (zTy k) U ∧ zN U ∧ va_AO RX0 U
def zIn (D : va_G) (k : Nat → ClassId) (sz : Nat) (ws : va_W) : State → Prop := fun U => U.heap.size = sz ∧ va_P D vwCl ws U.heap ∧ zK D k U ∧ va_D (fun _ => True) ws
def zOut (D : va_G) (A : Nat → Prop) (ws : va_W) : State → Prop := fun t => va_P D vwCl ws t.heap ∧ va_D A ws
theorem zNw_shape : ∀ w ∈ zNw, (∃ a i b n d h, w = .fieldLinkNest a i b n d h) ∨ (∃ a i x h, w = .methodLinkNest a i x h) := by
  intro w hw
  have h : zNw.all (fun w => match w with | .fieldLinkNest .. => true | .methodLinkNest .. => true | _ => false) = true := by decide +kernel
  have h1 := List.all_eq_true.mp h w hw
  cases w <;> first | exact Or.inl ⟨_, _, _, _, _, _, rfl⟩ | exact Or.inr ⟨_, _, _, _, rfl⟩ | (exact absurd h1 Bool.false_ne_true)
theorem zN.warm {s U : State} (hW : s.WarmedH U.vm) (h : zN s) : zN U := by
  intro w hw
  rcases zNw_shape w hw with ⟨a, i, b, n, d, h9, rfl⟩ | ⟨a, i, x, h9, rfl⟩
  · exact va_Nw.warmF hW (h _ hw)
  · exact va_Nw.warmM hW (h _ hw)
theorem zN.same {u U : State} (e : u.vm = U.vm) (h : zN u) : zN U := by
  intro w hw
  rcases zNw_shape w hw with ⟨a, i, b, n, d, h9, rfl⟩ | ⟨a, i, x, h9, rfl⟩
  · exact va_Nw.same rfl e (h _ hw)
  · exact va_Nw.same rfl e (h _ hw)
theorem zAO.same {C : String} {u U : State} (e : u.vm = U.vm) (h : va_AO C u) : va_AO C U := h.moved (by rw [e]; exact Vm.Alike.refl _)
theorem zK.same {D : va_G} {k : Nat → ClassId} {u U : State} (e : u.vm = U.vm) (h : zK D k u) : zK D k U := ⟨va_K.moved (by rw [e]; exact Vm.Alike.refl _) h.1, h.2.1.same e, zAO.same e h.2.2⟩
theorem zK.warm {D : va_G} {k : Nat → ClassId} {s U : State} (hW : s.WarmedH U.vm) (h : zK D k s) : zK D k U := ⟨va_K.moved hW.alike h.1, h.2.1.warm hW, h.2.2.moved hW.alike⟩
theorem zBlind (D : va_G) (k : Nat → ClassId) (sz : Nat) (ws : va_W) (av : List Value) : FrameBlind (va_Pc av (zIn D k sz ws)) := by
  intro a U g mk h
  obtain ⟨h1, h2, h3, h4, h5⟩ := h
  exact ⟨h1, h2, h3, zK.same (u := U) (U := U.calling g mk a) rfl h4, h5⟩
theorem zfm {ws wc : va_W} {is : List Nat} (hC : is.map (fun i => ws[i]?) = wc.map some) : is.filterMap (fun i => ws[i]?) = wc := by
  have h : is.filterMap (fun i => ws[i]?) = (is.map (fun i => ws[i]?)).filterMap id := by rw [List.filterMap_map]; rfl
  rw [h, hC, List.filterMap_map]
  simp
theorem zPreS {D : va_G} {k : Nat → ClassId} {s : State} {H : Heap} {ws wc : va_W} {A : Nat → Prop} {av : List Value} (hP : va_P D vwCl ws H) (hD : va_D A ws) (hK : zK D k s) (is : List Nat) (hC : is.map (fun i => ws[i]?) = wc.map some) (hn : va_nd is = true) : PreS s H (va_Pc av (zIn D k H.size wc)) av :=
  ⟨zBlind _ _ _ _ _, fun U hU hW => ⟨rfl, by rw [hU], by rw [hU]; exact hP.sub is (zfm hC), hK.warm hW, (hD.sub is hn hC).weaken (fun _ _ _ _ => trivial)⟩⟩
theorem zPreV {D : va_G} {k : Nat → ClassId} {s : State} {H : Heap} {ws wc : va_W} {A : Nat → Prop} {b : Nat} {As : List Value} {C : String} (hP : va_P D vwCl ws H) (hD : va_D A ws) (hK : zK D k s) (is : List Nat) (hC : is.map (fun i => ws[i]?) = wc.map some) (hn : va_nd is = true) (q0 ci : Nat) {fs : List Value} {r : vw_C} (he : ws[q0]? = some (b, .inr (ci, fs))) (hc : vwCl[ci]? = some r) (hr : r.1 = C) : PreV s H C b (va_Pc (.ref b :: As) (zIn D k H.size wc)) As := by
  subst hr
  exact ⟨zBlind _ _ _ _ _, va_recv hK.1 hP hc he, (zPreS hP hD hK is hC hn).2⟩
def zput : va_W → List Nat → va_W → va_W
  | ws, i :: is, q :: qs => zput (ws.set i q) is qs
  | ws, _, _ => ws
theorem zput_mem : ∀ (is : List Nat) (w1 ws : va_W), is.length = w1.length → ∀ (j : Nat) (q : Nat × va_E), (zput ws is w1)[j]? = some q → (∃ i : Nat, is[i]? = some j ∧ w1[i]? = some q) ∨ (j ∉ is ∧ ws[j]? = some q)
  | [], [], ws, _, j, q, h => Or.inr ⟨List.not_mem_nil, h⟩
  | [], x :: w1, ws, hl, j, q, h => by cases hl
  | i :: is, [], ws, hl, j, q, h => by cases hl
  | i :: is, x :: w1, ws, hl, j, q, h => by
    rcases zput_mem is w1 (ws.set i x) (Nat.succ.inj hl) j q h with ⟨t, h1, h2⟩ | ⟨h1, h2⟩
    · exact Or.inl ⟨t + 1, h1, h2⟩
    · by_cases hj : j = i
      · subst hj
        rw [List.getElem?_set] at h2
        by_cases hlt : j < ws.length
        · simp [hlt] at h2
          exact Or.inl ⟨0, rfl, by simp [h2]⟩
        · simp [hlt] at h2
      · rw [List.getElem?_set_ne (fun e => hj e.symm)] at h2
        exact Or.inr ⟨fun hm => (List.mem_cons.mp hm).elim hj h1, h2⟩
theorem zmapAt {α β : Type} {is : List α} {f : α → Option β} {wc : List β} (hC : is.map f = wc.map some) {i : Nat} {j : α} (h : is[i]? = some j) : ∃ c, wc[i]? = some c ∧ f j = some c := by
  have h1 : (is.map f)[i]? = some (f j) := by rw [List.getElem?_map, h]; rfl
  rw [hC, List.getElem?_map] at h1
  cases hc : wc[i]? with
  | none => rw [hc] at h1; cases h1
  | some c => rw [hc] at h1; exact ⟨c, rfl, (Option.some.inj h1).symm⟩
theorem zmapTo {α β : Type} {is : List α} {f : α → Option β} {wc : List β} (hC : is.map f = wc.map some) {i : Nat} {c : β} (h : wc[i]? = some c) : ∃ j, is[i]? = some j ∧ f j = some c := by
  have h1 : (wc.map some)[i]? = some (some c) := by rw [List.getElem?_map, h]; rfl
  rw [← hC, List.getElem?_map] at h1
  cases hc : is[i]? with
  | none => rw [hc] at h1; cases h1
  | some j => rw [hc] at h1; exact ⟨j, rfl, Option.some.inj h1⟩
theorem zfstAt {w1 wc : va_W} (hf : w1.map Prod.fst = wc.map Prod.fst) {i : Nat} {q : Nat × va_E} (h : w1[i]? = some q) : ∃ c, wc[i]? = some c ∧ c.1 = q.1 := by
  have h1 : (w1.map Prod.fst)[i]? = some q.1 := by rw [List.getElem?_map, h]; rfl
  rw [hf, List.getElem?_map] at h1
  cases hc : wc[i]? with
  | none => rw [hc] at h1; cases h1
  | some c => rw [hc] at h1; exact ⟨c, rfl, Option.some.inj h1⟩
theorem zlenC {α β : Type} {is : List α} {f : α → Option β} {wc : List β} (hC : is.map f = wc.map some) : is.length = wc.length := by
  have := congrArg List.length hC
  simpa using this
theorem zlenF {w1 wc : va_W} (hf : w1.map Prod.fst = wc.map Prod.fst) : w1.length = wc.length := by
  have := congrArg List.length hf
  simpa using this
theorem zput_fst {ws wc w1 : va_W} {is : List Nat} (hC : is.map (fun i => ws[i]?) = wc.map some) (hf : w1.map Prod.fst = wc.map Prod.fst) {j : Nat} {q : Nat × va_E} (h : (zput ws is w1)[j]? = some q) : ∃ q0, ws[j]? = some q0 ∧ q0.1 = q.1 := by
  rcases zput_mem is w1 ws ((zlenC hC).trans (zlenF hf).symm) j q h with ⟨i, h1, h2⟩ | ⟨h1, h2⟩
  · obtain ⟨c, h3, h4⟩ := zfstAt hf h2
    obtain ⟨c', h5, h6⟩ := zmapAt hC h1
    rw [h3] at h5
    cases h5
    exact ⟨c, h6, h4⟩
  · exact ⟨q, h2, rfl⟩
theorem zJoin {A0 : Nat → Prop} {D : va_G} {cl : List vw_C} {ws wc w1 wn : va_W} {H H1 : Heap} (hP : va_P D cl ws H) (hD : va_D A0 ws) (is : List Nat) (hC : is.map (fun i => ws[i]?) = wc.map some) (hf : w1.map Prod.fst = wc.map Prod.fst)
    (hk : ∀ q : Nat, q < H.size → ¬ va_A wc H.size q → H1[q]? = H[q]?) (hF : ∀ q, va_A wc H.size q → A0 q) (hP1 : va_P D cl (w1 ++ wn) H1) (hD1 : va_D (va_A wc H.size) (w1 ++ wn)) : va_P D cl (zput ws is w1 ++ wn) H1 ∧ va_D A0 (zput ws is w1 ++ wn) := by
  have hlen : is.length = w1.length := (zlenC hC).trans (zlenF hf).symm
  have at1 : ∀ (j : Nat) (q : Nat × va_E), (zput ws is w1)[j]? = some q → va_at D cl q H1 := by
    intro j q hj
    rcases zput_mem is w1 ws hlen j q hj with ⟨i, h1, h2⟩ | ⟨h1, h2⟩
    · exact hP1 i q (by rw [List.getElem?_append_left (List.getElem?_eq_some_iff.mp h2).1]; exact h2)
    · refine (hP j q h2).kept (hk q.1 (hP j q h2).lt ?_)
      rintro (⟨k, e, hke⟩ | hge)
      · obtain ⟨j', h3, h4⟩ := zmapTo hC hke
        have := hD.1 j j' _ _ h2 h4 rfl
        subst this
        exact h1 (List.mem_of_getElem? h3)
      · exact absurd (hP j q h2).lt (Nat.not_lt.mpr hge)
  have at2 : ∀ (j : Nat) (q : Nat × va_E), wn[j]? = some q → (w1 ++ wn)[w1.length + j]? = some q := by
    intro j q hj
    rw [List.getElem?_append_right (by omega)]
    simpa using hj
  have sp : ∀ (j : Nat) (q : Nat × va_E), (zput ws is w1 ++ wn)[j]? = some q → (zput ws is w1)[j]? = some q ∨ ((zput ws is w1).length ≤ j ∧ wn[j - (zput ws is w1).length]? = some q) := by
    intro j q hj
    by_cases hl : j < (zput ws is w1).length
    · rw [List.getElem?_append_left hl] at hj
      exact Or.inl hj
    · rw [List.getElem?_append_right (by omega)] at hj
      exact Or.inr ⟨by omega, hj⟩
  have mix : ∀ (i j : Nat) (p q : Nat × va_E), (zput ws is w1)[i]? = some p → wn[j]? = some q → p.1 ≠ q.1 := by
    intro i j p q h1 h2 e
    obtain ⟨q0, h3, h4⟩ := zput_fst hC hf h1
    rcases hD1.2 _ q (at2 j q h2) with ⟨k, e9, hke⟩ | hge
    · have hl : k < wc.length := (List.getElem?_eq_some_iff.mp hke).1
      obtain ⟨x, hx⟩ : ∃ x, w1[k]? = some x := ⟨_, List.getElem?_eq_getElem (by rw [zlenF hf]; exact hl)⟩
      obtain ⟨c, hc1, hc2⟩ := zfstAt hf hx
      rw [hke] at hc1
      cases hc1
      have := hD1.1 k _ x q (by rw [List.getElem?_append_left (List.getElem?_eq_some_iff.mp hx).1]; exact hx) (at2 j q h2) hc2.symm
      have hl2 : k < w1.length := (List.getElem?_eq_some_iff.mp hx).1
      omega
    · have := (hP i q0 h3).lt
      rw [h4, e] at this
      exact absurd this (Nat.not_lt.mpr hge)
  refine ⟨?_, ?_, ?_⟩
  · intro j q hj
    rcases sp j q hj with h | ⟨h1, h2⟩
    · exact at1 j q h
    · exact hP1 _ q (at2 _ q h2)
  · intro i j p q hi hj e
    rcases sp i p hi with h1 | ⟨h1, h1'⟩ <;> rcases sp j q hj with h2 | ⟨h2, h2'⟩
    · obtain ⟨p0, a1, a2⟩ := zput_fst hC hf h1
      obtain ⟨q0, b1, b2⟩ := zput_fst hC hf h2
      exact hD.1 i j p0 q0 a1 b1 (by rw [a2, b2, e])
    · exact absurd e (mix _ _ p q h1 h2')
    · exact absurd e.symm (mix _ _ q p h2 h1')
    · have := hD1.1 _ _ p q (at2 _ p h1') (at2 _ q h2') e
      omega
  · intro j q hj
    rcases sp j q hj with h | ⟨h1, h2⟩
    · obtain ⟨q0, a1, a2⟩ := zput_fst hC hf h
      rw [← a2]
      exact hD.2 j q0 a1
    · exact hF _ (hD1.2 _ q (at2 _ q h2))

