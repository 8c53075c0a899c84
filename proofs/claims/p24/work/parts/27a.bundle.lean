/-! contracts made wider: more room, more cells, the same world in another order -/
theorem zRoom_le {s : State} {pl : Platform} {r r' : Room} (h : s.hasRoom pl r' = true) (h1 : r.frames ≤ r'.frames) (h2 : r.locals ≤ r'.locals) (h3 : r.cells ≤ r'.cells) (h4 : r.slots ≤ r'.slots) : s.hasRoom pl r = true := by
  unfold State.hasRoom at h ⊢
  simp only [Bool.and_eq_true, decide_eq_true_eq] at h ⊢
  obtain ⟨⟨⟨⟨a1, a2, a3, a4, a5, a6⟩, a7⟩, a8⟩, a9⟩ := h
  exact ⟨⟨⟨⟨by omega, by omega, by omega, by omega, by omega, a6⟩, by omega⟩, by omega⟩, a9⟩
theorem zMetC {l : Launch} {y : MethodName} {ws : List Cond} {rm rm' : Room} {Pc Pc' : Array Value → State → Prop} {Qc Qc' : Array Value → State → Outcome → State → Prop} {mc ms mc' ms' : Nat} {free free' : Addr → Prop} (h : Met l y ws rm Pc Qc mc ms free)
    (h1 : rm.frames ≤ rm'.frames ∧ rm.locals ≤ rm'.locals ∧ rm.cells ≤ rm'.cells ∧ rm.slots ≤ rm'.slots ∧ mc ≤ mc' ∧ ms ≤ ms') (hP : ∀ a s, Pc' a s → Pc a s) (hQ : ∀ a s o t, Pc' a s → Qc a s o t → Qc' a s o t) (hf : ∀ q, free q → free' q) : Met l y ws rm' Pc' Qc' mc' ms' free' := by
  intro p e ha hc hk s m args below hfr happ hP' hK
  obtain ⟨a1, a2, a3, a4, a5, a6, a7, a8⟩ := (Spec.appliesLoose_iff hfr).mp happ
  have happ' : (headSpec ws rm).appliesLoose y e.platform s = true := (Spec.appliesLoose_iff hfr).mpr ⟨a1, a2, a3, a4, a5, a6, zRoom_le a7 h1.1 h1.2.1 h1.2.2.1 h1.2.2.2.1, a8⟩
  obtain ⟨n, o, b1, b2, b3, hq, L, ⟨f1, f2, f3⟩, hL⟩ := h p e ha hc hk s m args below hfr happ' (hP _ _ hP') trivial
  exact ⟨n, o, b1, b2, b3, hQ _ _ _ _ hP' hq, L, ⟨f1, f2, f3.mono h1.2.2.2.2.1 h1.2.2.2.2.2⟩, fun q hq => hf _ (hL q hq)⟩
theorem zMetX {l : Launch} {y : MethodName} {ws : List Cond} {rm rm' : Room} {Pc Pc' : Array Value → State → Prop} {Qc Qc' : Array Value → State → Outcome → State → Prop} {XC XC' : String → State → State → Prop} {mc ms mc' ms' : Nat} {free free' : Addr → Prop} (h : vx_Met l y ws rm Pc Qc XC mc ms free)
    (h1 : rm.frames ≤ rm'.frames ∧ rm.locals ≤ rm'.locals ∧ rm.cells ≤ rm'.cells ∧ rm.slots ≤ rm'.slots ∧ mc ≤ mc' ∧ ms ≤ ms') (hP : ∀ a s, Pc' a s → Pc a s) (hQ : ∀ a s o t, Pc' a s → Qc a s o t → Qc' a s o t) (hX : ∀ a E s t, Pc' a s → XC E s t → XC' E s t) (hf : ∀ q, free q → free' q) : vx_Met l y ws rm' Pc' Qc' XC' mc' ms' free' := by
  intro p e ha hc hk s m args below hfr happ hP' hK
  obtain ⟨a1, a2, a3, a4, a5, a6, a7, a8⟩ := (Spec.appliesLoose_iff hfr).mp happ
  have happ' : (headSpec ws rm).appliesLoose y e.platform s = true := (Spec.appliesLoose_iff hfr).mpr ⟨a1, a2, a3, a4, a5, a6, zRoom_le a7 h1.1 h1.2.1 h1.2.2.1 h1.2.2.2.1, a8⟩
  obtain ⟨n, o, b1, b2, b3, hq⟩ := h p e ha hc hk s m args below hfr happ' (hP _ _ hP') trivial
  refine ⟨n, o, b1, b2, b3, ?_⟩
  rcases hq with ⟨hq, L, ⟨f1, f2, f3⟩, hL⟩ | ⟨q, ho, E, ce, L, g1, g2, g3, g4, g5, g6, g7⟩
  · exact Or.inl ⟨hQ _ _ _ _ hP' hq, L, ⟨f1, f2, f3.mono h1.2.2.2.2.1 h1.2.2.2.2.2⟩, fun q hq => hf _ (hL q hq)⟩
  · exact Or.inr ⟨q, ho, E, ce, L, hX _ _ _ _ hP' g1, g2, g3, g4, g5, g6.mono h1.2.2.2.2.1 h1.2.2.2.2.2, fun z hz => hf _ (g7 z hz)⟩
theorem zPerm_P {D : va_G} {cl : List vw_C} {ws ws' : va_W} {H : Heap} (h : va_P D cl ws H) (p : ws.Perm ws') : va_P D cl ws' H := fun k q hk => by
  have h1 : q ∈ ws := p.mem_iff.mpr (List.mem_of_getElem? hk)
  obtain ⟨j, hj⟩ := List.getElem?_of_mem h1
  exact h j q hj
theorem zD_iff {A : Nat → Prop} {ws : va_W} : va_D A ws ↔ (ws.map Prod.fst).Nodup ∧ ∀ q ∈ ws, A q.1 := by
  constructor
  · intro h
    refine ⟨?_, fun q hq => ?_⟩
    · rw [List.Nodup, List.pairwise_iff_getElem]
      intro i j hi hj hij e
      simp only [List.length_map] at hi hj
      simp only [List.getElem_map] at e
      have := h.1 i j _ _ (List.getElem?_eq_getElem hi) (List.getElem?_eq_getElem hj) e
      omega
    · obtain ⟨j, hj⟩ := List.getElem?_of_mem hq
      exact h.2 j q hj
  · rintro ⟨h1, h2⟩
    refine ⟨fun i j p q hi hj e => ?_, fun k q hk => h2 q (List.mem_of_getElem? hk)⟩
    rw [List.Nodup, List.pairwise_iff_getElem] at h1
    obtain ⟨hi1, hi2⟩ := List.getElem?_eq_some_iff.mp hi
    obtain ⟨hj1, hj2⟩ := List.getElem?_eq_some_iff.mp hj
    rcases Nat.lt_trichotomy i j with h | h | h
    · have h9 := h1 i j (by simpa using hi1) (by simpa using hj1) h
      rw [List.getElem_map, List.getElem_map, hi2, hj2] at h9
      exact absurd e h9
    · exact h
    · have h9 := h1 j i (by simpa using hj1) (by simpa using hi1) h
      rw [List.getElem_map, List.getElem_map, hi2, hj2] at h9
      exact absurd e.symm h9
theorem zPerm_D {A : Nat → Prop} {ws ws' : va_W} (h : va_D A ws) (p : ws.Perm ws') : va_D A ws' := by
  rw [zD_iff] at h ⊢
  exact ⟨(p.map Prod.fst).nodup_iff.mp h.1, fun q hq => h.2 q (p.mem_iff.mpr hq)⟩
theorem zA_iff {ws : va_W} {sz q : Nat} : va_A ws sz q ↔ (∃ e : va_E, (q, e) ∈ ws) ∨ sz ≤ q := by
  constructor
  · rintro (⟨k, e, h⟩ | h)
    · exact Or.inl ⟨e, List.mem_of_getElem? h⟩
    · exact Or.inr h
  · rintro (⟨e, h⟩ | h)
    · obtain ⟨j, hj⟩ := List.getElem?_of_mem h
      exact Or.inl ⟨j, e, hj⟩
    · exact Or.inr h
theorem zA_perm {ws ws' : va_W} (p : ws.Perm ws') {sz : Nat} : va_A ws sz = va_A ws' sz := by
  funext q
  refine propext ?_
  rw [zA_iff, zA_iff]
  exact or_congr (exists_congr (fun e => p.mem_iff)) Iff.rfl
theorem zA_sub {ws wc : va_W} {is : List Nat} (hC : is.map (fun i => ws[i]?) = wc.map some) {sz q : Nat} (h : va_A wc sz q) : va_A ws sz q := by
  rcases h with ⟨k, e, h⟩ | h
  · obtain ⟨j, _, hj⟩ := zmapTo hC h
    exact Or.inl ⟨j, e, hj⟩
  · exact Or.inr h
theorem zF_wide {A B : Nat → Prop} {s t : State} (h : va_F A s t) (hAB : ∀ q, A q → B q) : va_F B s t := ⟨h.1, fun q hq hB => h.2 q hq (fun hA => hB (hAB q hA))⟩
/-- the world behind a call, in the caller's order -/
theorem zAfter {D : va_G} {k : Nat → ClassId} {xs ws wc w1 wn : va_W} {is : List Nat} {sz : Nat} {s t : State} (hI : zIn D k sz xs s) (hp : xs.Perm ws) (hC : is.map (fun i => ws[i]?) = wc.map some) (hf : w1.map Prod.fst = wc.map Prod.fst) (hB : zOut D (va_A wc sz) (w1 ++ wn) t) (hF : va_F (va_A wc sz) s t) : zOut D (va_A xs sz) (zput ws is w1 ++ wn) t := by
  obtain ⟨hsz, hP, hK, hD⟩ := hI
  obtain ⟨hP1, hD1⟩ := hB
  subst hsz
  have hD2 : va_D (va_A xs s.heap.size) ws := zPerm_D hD.self hp
  refine zJoin (zPerm_P hP hp) hD2 is hC hf hF.2 (fun q h => ?_) hP1 hD1
  rw [zA_perm hp]
  exact zA_sub hC h
theorem zBefore {D : va_G} {k : Nat → ClassId} {xs ws wc : va_W} {is : List Nat} {sz : Nat} {s : State} (hI : zIn D k sz xs s) (hp : xs.Perm ws) (hC : is.map (fun i => ws[i]?) = wc.map some) (hn : va_nd is = true) : zIn D k sz wc s :=
  ⟨hI.1, (zPerm_P hI.2.1 hp).sub is (zfm hC), hI.2.2.1, (zPerm_D hI.2.2.2 hp).sub is hn hC⟩
theorem zput_self : ∀ {is : List Nat} {wc ws : va_W}, is.map (fun i => ws[i]?) = wc.map some → zput ws is wc = ws
  | [], [], _, _ => rfl
  | [], _ :: _, _, h => by cases h
  | _ :: _, [], _, h => by cases h
  | i :: is, c :: wc, ws, h => by
    rw [List.map_cons, List.map_cons] at h
    injection h with h1 h2
    have e : ws.set i c = ws := by
      obtain ⟨hi, e1⟩ := List.getElem?_eq_some_iff.mp h1
      rw [← e1]
      exact List.set_getElem_self hi
    rw [zput, e]
    exact zput_self h2
section ZB
variable {l : Launch} {y : MethodName} {wz : List Cond} {rm rm' : Room} {D : va_G} {k : Nat → ClassId} {S : Type} {xs ws wc : va_W} {w1 wn : S → va_W} {av : List Value} {mc ms mc' ms' : Nat} {is : List Nat}
theorem zBundlei {post : Int32 → S → Prop} {post' : Int32 → va_W → Prop} (hM : ∀ sz, Met l y wz rm (va_Pc av (zIn D k sz wc)) (va_Qi post (fun u => zOut D (va_A wc sz) (w1 u ++ wn u)) (va_A wc sz)) mc ms (va_A wc sz))
    (h1 : rm.frames ≤ rm'.frames ∧ rm.locals ≤ rm'.locals ∧ rm.cells ≤ rm'.cells ∧ rm.slots ≤ rm'.slots ∧ mc ≤ mc' ∧ ms ≤ ms') (hp : xs.Perm ws) (is : List Nat) (hC : is.map (fun i => ws[i]?) = wc.map some) (hn : va_nd is = true) (hf : ∀ u, (w1 u).map Prod.fst = wc.map Prod.fst)
    (hpost : ∀ r u, post r u → post' r (zput ws is (w1 u) ++ wn u)) : ∀ sz, Met l y wz rm' (va_Pc av (zIn D k sz xs)) (va_Qi post' (fun u => zOut D (va_A xs sz) u) (va_A xs sz)) mc' ms' (va_A xs sz) := by
  intro sz
  refine zMetC (hM sz) h1 (fun a s h => ⟨h.1, zBefore h.2 hp hC hn⟩) (fun a s o t h hq => ?_) (fun q h => by rw [zA_perm hp]; exact zA_sub hC h)
  obtain ⟨⟨r, u, ho, hpo, hB⟩, hF⟩ := hq
  exact ⟨⟨r, _, ho, hpost r u hpo, zAfter h.2 hp hC (hf u) hB hF⟩, zF_wide hF (fun q h => by rw [zA_perm hp]; exact zA_sub hC h)⟩
theorem zBundlel {post : Int64 → S → Prop} {post' : Int64 → va_W → Prop} (hM : ∀ sz, Met l y wz rm (va_Pc av (zIn D k sz wc)) (va_Ql post (fun u => zOut D (va_A wc sz) (w1 u ++ wn u)) (va_A wc sz)) mc ms (va_A wc sz))
    (h1 : rm.frames ≤ rm'.frames ∧ rm.locals ≤ rm'.locals ∧ rm.cells ≤ rm'.cells ∧ rm.slots ≤ rm'.slots ∧ mc ≤ mc' ∧ ms ≤ ms') (hp : xs.Perm ws) (is : List Nat) (hC : is.map (fun i => ws[i]?) = wc.map some) (hn : va_nd is = true) (hf : ∀ u, (w1 u).map Prod.fst = wc.map Prod.fst)
    (hpost : ∀ r u, post r u → post' r (zput ws is (w1 u) ++ wn u)) : ∀ sz, Met l y wz rm' (va_Pc av (zIn D k sz xs)) (va_Ql post' (fun u => zOut D (va_A xs sz) u) (va_A xs sz)) mc' ms' (va_A xs sz) := by
  intro sz
  refine zMetC (hM sz) h1 (fun a s h => ⟨h.1, zBefore h.2 hp hC hn⟩) (fun a s o t h hq => ?_) (fun q h => by rw [zA_perm hp]; exact zA_sub hC h)
  obtain ⟨⟨r, u, ho, hpo, hB⟩, hF⟩ := hq
  exact ⟨⟨r, _, ho, hpost r u hpo, zAfter h.2 hp hC (hf u) hB hF⟩, zF_wide hF (fun q h => by rw [zA_perm hp]; exact zA_sub hC h)⟩
theorem zBundled {post : UInt64 → S → Prop} {post' : UInt64 → va_W → Prop} (hM : ∀ sz, Met l y wz rm (va_Pc av (zIn D k sz wc)) (va_Qd post (fun u => zOut D (va_A wc sz) (w1 u ++ wn u)) (va_A wc sz)) mc ms (va_A wc sz))
    (h1 : rm.frames ≤ rm'.frames ∧ rm.locals ≤ rm'.locals ∧ rm.cells ≤ rm'.cells ∧ rm.slots ≤ rm'.slots ∧ mc ≤ mc' ∧ ms ≤ ms') (hp : xs.Perm ws) (is : List Nat) (hC : is.map (fun i => ws[i]?) = wc.map some) (hn : va_nd is = true) (hf : ∀ u, (w1 u).map Prod.fst = wc.map Prod.fst)
    (hpost : ∀ r u, post r u → post' r (zput ws is (w1 u) ++ wn u)) : ∀ sz, Met l y wz rm' (va_Pc av (zIn D k sz xs)) (va_Qd post' (fun u => zOut D (va_A xs sz) u) (va_A xs sz)) mc' ms' (va_A xs sz) := by
  intro sz
  refine zMetC (hM sz) h1 (fun a s h => ⟨h.1, zBefore h.2 hp hC hn⟩) (fun a s o t h hq => ?_) (fun q h => by rw [zA_perm hp]; exact zA_sub hC h)
  obtain ⟨⟨r, u, ho, hpo, hB⟩, hF⟩ := hq
  exact ⟨⟨r, _, ho, hpost r u hpo, zAfter h.2 hp hC (hf u) hB hF⟩, zF_wide hF (fun q h => by rw [zA_perm hp]; exact zA_sub hC h)⟩
end ZB

