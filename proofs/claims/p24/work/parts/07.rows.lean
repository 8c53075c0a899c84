def zW (y : MethodName) (cc : ByteArray) (n : Nat) (r : Option FieldType) : List Cond := Cond.code y cc n r :: wsL_law
theorem zGood {y y2 : MethodName} {cc cc2 : ByteArray} {n n2 : Nat} {r r2 : Option FieldType} (h : Cond.code y2 cc2 n2 r2 ∈ wsL_law) : GoodIn (zW y cc n r) (zW y2 cc2 n2 r2) := by
  intro w hw
  rcases List.mem_cons.mp hw with rfl | h2
  · exact ⟨List.mem_cons_of_mem _ h, good_of_word (zAll_good _ h)⟩
  · exact ⟨List.mem_cons_of_mem _ h2, good_of_word (zAll_good _ h2)⟩
theorem zGoodL {y2 : MethodName} {cc2 : ByteArray} {n2 : Nat} {r2 : Option FieldType} (h : Cond.code y2 cc2 n2 r2 ∈ wsL_law) : GoodIn wsL_law (zW y2 cc2 n2 r2) := by
  intro w hw
  rcases List.mem_cons.mp hw with rfl | h2
  · exact ⟨h, good_of_word (zAll_good _ h)⟩
  · exact ⟨h2, good_of_word (zAll_good _ h2)⟩
/-- what a frame's walk stands on -/
def zCx (p : Program) (s : State) (m : MethodId) (args : Array Value) (meth : Method) (c : Code) (cc : ByteArray) (nL : Nat) (ret : Option FieldType) (own : String) (D : va_G) (k : Nat → ClassId) : Prop :=
  p.tables.exec = Jvm.exec ∧ c.code = cc ∧ meth.sig.returnType = ret ∧ c.maxLocals = nL ∧ (∀ w ∈ wsL_law, w.before args s = true) ∧ s.vm.findClass own = some m.cls ∧ meth.locks = false ∧ zK D k s
section ZE
variable {D : va_G} {k : Nat → ClassId}
theorem zEnter {l : Launch} {sz : Nat} {w0 : va_W} {y : MethodName} {rm : Room} {mc ms : Nat} {cc : ByteArray} {maxL : Nat} {ret : Option FieldType} {av : List Value} {Qf : (Nat → Prop) → Array Value → State → Outcome → State → Prop} (own : String) (hy : plainName y.cls = true) (hown : y.cls = own) (hlen : (lg_sl av).length ≤ maxL)
    (body : ∀ (p : Program) (e : Env) (s : State) (m : MethodId) (below : List Frame) (meth : Method) (c : Code) (ls : Array Slot) (A : Nat → Prop), zCx p s m av.toArray meth c cc maxL ret own D k → (y.name = "<init>" → meth.name = "<init>") →
      va_P D vwCl w0 s.heap → va_D A w0 → va_S A s.heap s.heap [] → (∀ q, s.heap.size ≤ q → A q) → A = va_A w0 s.heap.size → lv_has ls maxL (lv_args 0 av) →
      W p l e rm s m av.toArray below meth c s.heap [] 0 0 (MQ below (Qf A) av.toArray s mc ms A) (F0 m 0 ls [])) :
    Met l y (zW y cc maxL ret) rm (va_Pc av (zIn D k sz w0)) (Qf (va_A w0 sz)) mc ms (va_A w0 sz) := by
  refine Met.ofW (cc := cc) (maxL := maxL) (ret := ret) hy rfl ?_
  intro p e s m args below meth c s₁ B hml hv
  obtain ⟨rfl, hsz, hP, hK, hD0⟩ := hv
  have hts := atoms_spec (ws := zW y cc maxL ret) B.pre
  have hf : s.vm.findClass own = some m.cls := by rw [← hown]; exact findClass_of_methodNamed B.named
  subst hsz
  rw [lg_entry_eq]
  exact body p e s m below meth c _ _ ⟨B.exec, B.bytes, B.returns, hml, fun w hw => hts w (List.mem_cons_of_mem _ hw), hf, B.notSynchronized, hK⟩ (fun h => (name_of_methodNamed B.named B.method).1.trans h) hP hD0.self va_S.rf (fun q h => Or.inr h) rfl (lv_entry av hlen)
variable {p : Program} {l : Launch} {e : Env} {R : Room} {s : State} {m : MethodId} {args : Array Value} {below : List Frame} {meth : Method} {c : Code} {H : Heap} {locs : List Loc} {cells slots : Nat} {Q : State → Prop}
variable {cc : ByteArray} {pc nL : Nat} {own : String} {ret : Option FieldType} {ls : Array Slot} {rest st0 : List Value} {A : Nat → Prop} {ws wc : va_W}
theorem zRetI {S : Type} {post : Int32 → S → Prop} {w1 : S → va_W} {v : Int32} (u : S) (X : zCx p s m args meth c cc nL (some .int) own D k) (hP : va_P D vwCl ws H) (hD : va_D A ws) (hS : va_S A s.heap H locs) (hw : w1 u = ws) (hq : post v u) (hdg : decode cc pc = .ok (.ireturn, 1)) :
    W p l e R s m args below meth c H locs cells slots (MQ below (va_Qi post (fun u => zOut D A (w1 u)) A) args s cells slots A) (F0 m pc ls [.int v]) :=
  W.iret X.1 X.2.1 X.2.2.1 (fun t ht hW => ⟨⟨v, u, rfl, hq, by show zOut D A _ t; rw [hw]; exact ⟨by rw [ht]; exact hP, hD⟩⟩, hS.F ht⟩) hS.2.2 hdg X.2.2.2.2.2.2.1
theorem zRetZ {S : Type} {post : Int32 → S → Prop} {w1 : S → va_W} {v : Int32} (u : S) (X : zCx p s m args meth c cc nL (some .boolean) own D k) (hP : va_P D vwCl ws H) (hD : va_D A ws) (hS : va_S A s.heap H locs) (hv : v = nZ 0 ∨ v = nZ 1) (hw : w1 u = ws) (hq : post v u) (hdg : decode cc pc = .ok (.ireturn, 1)) :
    W p l e R s m args below meth c H locs cells slots (MQ below (va_Qi post (fun u => zOut D A (w1 u)) A) args s cells slots A) (F0 m pc ls [.int v]) :=
  W.zret X.1 X.2.1 X.2.2.1 (by rcases hv with rfl | rfl <;> rfl) (fun t ht hW => ⟨⟨v, u, rfl, hq, by show zOut D A _ t; rw [hw]; exact ⟨by rw [ht]; exact hP, hD⟩⟩, hS.F ht⟩) hS.2.2 hdg X.2.2.2.2.2.2.1
theorem zRetV {S : Type} {post : S → Prop} {w1 : S → va_W} (u : S) (X : zCx p s m args meth c cc nL none own D k) (hP : va_P D vwCl ws H) (hD : va_D A ws) (hS : va_S A s.heap H locs) (hw : w1 u = ws) (hq : post u) (hdg : decode cc pc = .ok (.return_, 1)) :
    W p l e R s m args below meth c H locs cells slots (MQ below (va_Qv post (fun u => zOut D A (w1 u)) A) args s cells slots A) (F0 m pc ls []) :=
  W.vret X.1 X.2.1 X.2.2.1 (fun t ht hW => ⟨⟨u, rfl, hq, by show zOut D A _ t; rw [hw]; exact ⟨by rw [ht]; exact hP, hD⟩⟩, hS.F ht⟩) hS.2.2 hdg X.2.2.2.2.2.2.1
theorem zRetL {S : Type} {post : Int64 → S → Prop} {w1 : S → va_W} {v : Int64} (u : S) (X : zCx p s m args meth c cc nL (some .long) own D k) (hP : va_P D vwCl ws H) (hD : va_D A ws) (hS : va_S A s.heap H locs) (hw : w1 u = ws) (hq : post v u) (hdg : decode cc pc = .ok (.lreturn, 1)) :
    W p l e R s m args below meth c H locs cells slots (MQ below (va_Ql post (fun u => zOut D A (w1 u)) A) args s cells slots A) (F0 m pc ls [.long v]) :=
  W.lret X.1 X.2.1 X.2.2.1 (fun t ht hW => ⟨⟨v, u, rfl, hq, by show zOut D A _ t; rw [hw]; exact ⟨by rw [ht]; exact hP, hD⟩⟩, hS.F ht⟩) hS.2.2 hdg X.2.2.2.2.2.2.1
theorem zRetD {S : Type} {post : UInt64 → S → Prop} {w1 : S → va_W} {v : UInt64} (u : S) (X : zCx p s m args meth c cc nL (some .double) own D k) (hP : va_P D vwCl ws H) (hD : va_D A ws) (hS : va_S A s.heap H locs) (hw : w1 u = ws) (hq : post v u) (hdg : decode cc pc = .ok (.dreturn, 1)) :
    W p l e R s m args below meth c H locs cells slots (MQ below (va_Qd post (fun u => zOut D A (w1 u)) A) args s cells slots A) (F0 m pc ls [.double v]) :=
  W.dret X.1 X.2.1 X.2.2.1 (fun t ht hW => ⟨⟨v, u, rfl, hq, by show zOut D A _ t; rw [hw]; exact ⟨by rw [ht]; exact hP, hD⟩⟩, hS.F ht⟩) hS.2.2 hdg X.2.2.2.2.2.2.1
theorem zRetR {S : Type} {post : S → Prop} {rel : S → Nat → Prop} {w1 : S → Nat → va_W} {v : Nat} (u : S) {C : String} (X : zCx p s m args meth c cc nL (some (.object C)) own D k) (hP : va_P D vwCl ws H) (hD : va_D A ws) (hS : va_S A s.heap H locs) (hw : w1 u v = ws) (hq : post u) (hrel : rel u v) (hdg : decode cc pc = .ok (.areturn, 1)) :
    W p l e R s m args below meth c H locs cells slots (MQ below (va_Qr post (fun u ra t => rel u ra ∧ zOut D A (w1 u ra) t) A) args s cells slots A) (F0 m pc ls [.ref v]) :=
  W.aret X.1 X.2.1 X.2.2.1 (Or.inl ⟨_, rfl⟩) (Or.inr ⟨_, rfl⟩) (fun t ht hW => ⟨⟨u, v, rfl, hq, hrel, by show zOut D A _ t; rw [hw]; exact ⟨by rw [ht]; exact hP, hD⟩⟩, hS.F ht⟩) hS.2.2 hdg X.2.2.2.2.2.2.1
theorem zLoop {σ : Type} {st : List Value} (J : σ → Heap → List Loc → Array Slot → Prop) (μ : σ → Nat)
    (hs : ∀ (x : σ) (H : Heap) (locs : List Loc) (ls : Array Slot), J x H locs ls → (∀ (y : σ) (H' : Heap) (locs' : List Loc) (ls' : Array Slot), J y H' locs' ls' → μ y < μ x → W p l e R s m args below meth c H' locs' cells slots Q (F0 m pc ls' st)) → W p l e R s m args below meth c H locs cells slots Q (F0 m pc ls st))
    (x0 : σ) (h0 : J x0 H locs ls) : W p l e R s m args below meth c H locs cells slots Q (F0 m pc ls st) := by
  have key : ∀ (n : Nat) (x : σ) (H : Heap) (locs : List Loc) (ls : Array Slot), μ x < n → J x H locs ls → W p l e R s m args below meth c H locs cells slots Q (F0 m pc ls st) := by
    intro n
    induction n with
    | zero => intro x H locs ls h; exact absurd h (Nat.not_lt_zero _)
    | succ n ih => intro x H locs ls h hJ; exact hs x H locs ls hJ (fun y H' locs' ls' hJ' hlt => ih y H' locs' ls' (by omega) hJ')
  exact key (μ x0 + 1) x0 H locs ls (Nat.lt_succ_self _) h0
theorem zCut {σ : Type} {st : List Value} (J : σ → Heap → List Loc → Array Slot → Prop) (pc2 : Nat) (st2 : σ → List Value)
    (hs : ∀ (x : σ) (H : Heap) (locs : List Loc) (ls : Array Slot), J x H locs ls → W p l e R s m args below meth c H locs cells slots Q (F0 m pc2 ls (st2 x)))
    (kk : (∀ (x : σ) (H : Heap) (locs : List Loc) (ls : Array Slot), J x H locs ls → W p l e R s m args below meth c H locs cells slots Q (F0 m pc2 ls (st2 x))) → W p l e R s m args below meth c H locs cells slots Q (F0 m pc ls st)) : W p l e R s m args below meth c H locs cells slots Q (F0 m pc ls st) := kk hs
/-! calls: the callee's cells out of the world, its new ones in their places, what it made behind -/
variable {H0 : Heap} {a : Array Value} {mc ms : Nat}
theorem zCallI {S : Type} {post : Int32 → S → Prop} {w1 wn : S → va_W} (hr : va_Run p l e R s m args below meth c H locs cells slots mc ms (F0 m pc ls st0) rest (va_Qi post (fun u => zOut D (va_A wc H.size) (w1 u ++ wn u)) (va_A wc H.size) a) (va_A wc H.size))
    (hS : va_S A H0 H locs) (hP : va_P D vwCl ws H) (hD : va_D A ws) (hA : ∀ q, H0.size ≤ q → A q) (is : List Nat) (hC : is.map (fun i => ws[i]?) = wc.map some) (hf : ∀ u, (w1 u).map Prod.fst = wc.map Prod.fst)
    (kk : ∀ (r : Int32) (u : S) (H1 : Heap) (locs1 : List Loc), post r u → va_P D vwCl (zput ws is (w1 u) ++ wn u) H1 → va_D A (zput ws is (w1 u) ++ wn u) → va_S A H0 H1 locs1 → W p l e R s m args below meth c H1 locs1 (cells + mc) (slots + ms) Q (F0 m (pc + 3) ls (.int r :: rest))) : W p l e R s m args below meth c H locs cells slots Q (F0 m pc ls st0) := by
  have hF := va_free hD hS hA is hC
  refine va_calli hr hS (fun q _ h => hF q h) hF (fun r u t H1 locs1 ht _ hpost hB hz hk hS1 => ?_)
  obtain ⟨hB1, hB2⟩ := hB
  rw [ht] at hB1
  obtain ⟨h1, h2⟩ := zJoin hP hD is hC (hf u) hk hF hB1 hB2
  exact kk r u H1 locs1 hpost h1 h2 hS1
theorem zCallL {S : Type} {post : Int64 → S → Prop} {w1 wn : S → va_W} (hr : va_Run p l e R s m args below meth c H locs cells slots mc ms (F0 m pc ls st0) rest (va_Ql post (fun u => zOut D (va_A wc H.size) (w1 u ++ wn u)) (va_A wc H.size) a) (va_A wc H.size))
    (hS : va_S A H0 H locs) (hP : va_P D vwCl ws H) (hD : va_D A ws) (hA : ∀ q, H0.size ≤ q → A q) (is : List Nat) (hC : is.map (fun i => ws[i]?) = wc.map some) (hf : ∀ u, (w1 u).map Prod.fst = wc.map Prod.fst)
    (kk : ∀ (r : Int64) (u : S) (H1 : Heap) (locs1 : List Loc), post r u → va_P D vwCl (zput ws is (w1 u) ++ wn u) H1 → va_D A (zput ws is (w1 u) ++ wn u) → va_S A H0 H1 locs1 → W p l e R s m args below meth c H1 locs1 (cells + mc) (slots + ms) Q (F0 m (pc + 3) ls (.long r :: rest))) : W p l e R s m args below meth c H locs cells slots Q (F0 m pc ls st0) := by
  have hF := va_free hD hS hA is hC
  refine va_calll hr hS (fun q _ h => hF q h) hF (fun r u t H1 locs1 ht _ hpost hB hz hk hS1 => ?_)
  obtain ⟨hB1, hB2⟩ := hB
  rw [ht] at hB1
  obtain ⟨h1, h2⟩ := zJoin hP hD is hC (hf u) hk hF hB1 hB2
  exact kk r u H1 locs1 hpost h1 h2 hS1
theorem zCallD {S : Type} {post : UInt64 → S → Prop} {w1 wn : S → va_W} (hr : va_Run p l e R s m args below meth c H locs cells slots mc ms (F0 m pc ls st0) rest (va_Qd post (fun u => zOut D (va_A wc H.size) (w1 u ++ wn u)) (va_A wc H.size) a) (va_A wc H.size))
    (hS : va_S A H0 H locs) (hP : va_P D vwCl ws H) (hD : va_D A ws) (hA : ∀ q, H0.size ≤ q → A q) (is : List Nat) (hC : is.map (fun i => ws[i]?) = wc.map some) (hf : ∀ u, (w1 u).map Prod.fst = wc.map Prod.fst)
    (kk : ∀ (r : UInt64) (u : S) (H1 : Heap) (locs1 : List Loc), post r u → va_P D vwCl (zput ws is (w1 u) ++ wn u) H1 → va_D A (zput ws is (w1 u) ++ wn u) → va_S A H0 H1 locs1 → W p l e R s m args below meth c H1 locs1 (cells + mc) (slots + ms) Q (F0 m (pc + 3) ls (.double r :: rest))) : W p l e R s m args below meth c H locs cells slots Q (F0 m pc ls st0) := by
  have hF := va_free hD hS hA is hC
  refine va_calld hr hS (fun q _ h => hF q h) hF (fun r u t H1 locs1 ht _ hpost hB hz hk hS1 => ?_)
  obtain ⟨hB1, hB2⟩ := hB
  rw [ht] at hB1
  obtain ⟨h1, h2⟩ := zJoin hP hD is hC (hf u) hk hF hB1 hB2
  exact kk r u H1 locs1 hpost h1 h2 hS1
theorem zCallV {S : Type} {post : S → Prop} {w1 wn : S → va_W} (hr : va_Run p l e R s m args below meth c H locs cells slots mc ms (F0 m pc ls st0) rest (va_Qv post (fun u => zOut D (va_A wc H.size) (w1 u ++ wn u)) (va_A wc H.size) a) (va_A wc H.size))
    (hS : va_S A H0 H locs) (hP : va_P D vwCl ws H) (hD : va_D A ws) (hA : ∀ q, H0.size ≤ q → A q) (is : List Nat) (hC : is.map (fun i => ws[i]?) = wc.map some) (hf : ∀ u, (w1 u).map Prod.fst = wc.map Prod.fst)
    (kk : ∀ (u : S) (H1 : Heap) (locs1 : List Loc), post u → va_P D vwCl (zput ws is (w1 u) ++ wn u) H1 → va_D A (zput ws is (w1 u) ++ wn u) → va_S A H0 H1 locs1 → W p l e R s m args below meth c H1 locs1 (cells + mc) (slots + ms) Q (F0 m (pc + 3) ls rest)) : W p l e R s m args below meth c H locs cells slots Q (F0 m pc ls st0) := by
  have hF := va_free hD hS hA is hC
  refine va_callv hr hS (fun q _ h => hF q h) hF (fun u t H1 locs1 ht _ hpost hB hz hk hS1 => ?_)
  obtain ⟨hB1, hB2⟩ := hB
  rw [ht] at hB1
  obtain ⟨h1, h2⟩ := zJoin hP hD is hC (hf u) hk hF hB1 hB2
  exact kk u H1 locs1 hpost h1 h2 hS1
theorem zCallR {S : Type} {post : S → Prop} {w1 wn : S → Nat → va_W} {rel : S → Nat → Prop} (hr : va_Run p l e R s m args below meth c H locs cells slots mc ms (F0 m pc ls st0) rest (va_Qr post (fun u ra t => rel u ra ∧ zOut D (va_A wc H.size) (w1 u ra ++ wn u ra) t) (va_A wc H.size) a) (va_A wc H.size))
    (hS : va_S A H0 H locs) (hP : va_P D vwCl ws H) (hD : va_D A ws) (hA : ∀ q, H0.size ≤ q → A q) (is : List Nat) (hC : is.map (fun i => ws[i]?) = wc.map some) (hf : ∀ u ra, (w1 u ra).map Prod.fst = wc.map Prod.fst)
    (kk : ∀ (u : S) (ra : Nat) (H1 : Heap) (locs1 : List Loc), post u → rel u ra → va_P D vwCl (zput ws is (w1 u ra) ++ wn u ra) H1 → va_D A (zput ws is (w1 u ra) ++ wn u ra) → va_S A H0 H1 locs1 → W p l e R s m args below meth c H1 locs1 (cells + mc) (slots + ms) Q (F0 m (pc + 3) ls (.ref ra :: rest))) : W p l e R s m args below meth c H locs cells slots Q (F0 m pc ls st0) := by
  have hF := va_free hD hS hA is hC
  refine va_callr hr hS (fun q _ h => hF q h) hF (fun u ra t H1 locs1 ht _ hpost hB hz hk hS1 => ?_)
  obtain ⟨hB0, hB1, hB2⟩ := hB
  rw [ht] at hB1
  obtain ⟨h1, h2⟩ := zJoin hP hD is hC (hf u ra) hk hF hB1 hB2
  exact kk u ra H1 locs1 hpost hB0 h1 h2 hS1
/-! the same, of a callee that makes nothing -/
theorem zCallI0 {S : Type} {post : Int32 → S → Prop} {w1 : S → va_W} (hr : va_Run p l e R s m args below meth c H locs cells slots 0 0 (F0 m pc ls st0) rest (va_Qi post (fun u => zOut D (va_A wc H.size) (w1 u)) (va_A wc H.size) a) (va_A wc H.size))
    (hS : va_S A H0 H locs) (hP : va_P D vwCl ws H) (hD : va_D A ws) (hA : ∀ q, H0.size ≤ q → A q) (is : List Nat) (hC : is.map (fun i => ws[i]?) = wc.map some) (hf : ∀ u, (w1 u).map Prod.fst = wc.map Prod.fst)
    (kk : ∀ (r : Int32) (u : S) (H1 : Heap) (locs1 : List Loc), post r u → va_P D vwCl (zput ws is (w1 u)) H1 → va_D A (zput ws is (w1 u)) → va_S A H0 H1 locs1 → W p l e R s m args below meth c H1 locs1 cells slots Q (F0 m (pc + 3) ls (.int r :: rest))) : W p l e R s m args below meth c H locs cells slots Q (F0 m pc ls st0) := by
  have e1 : (fun u => zOut D (va_A wc H.size) (w1 u)) = (fun u => zOut D (va_A wc H.size) (w1 u ++ (fun _ : S => ([] : va_W)) u)) := by funext u; simp
  rw [e1] at hr
  refine zCallI (wn := fun _ : S => ([] : va_W)) hr hS hP hD hA is hC hf (fun r u H1 locs1 h1 h2 h3 h4 => ?_)
  rw [List.append_nil] at h2 h3
  exact kk r u H1 locs1 h1 h2 h3 h4
theorem zCallL0 {S : Type} {post : Int64 → S → Prop} {w1 : S → va_W} (hr : va_Run p l e R s m args below meth c H locs cells slots 0 0 (F0 m pc ls st0) rest (va_Ql post (fun u => zOut D (va_A wc H.size) (w1 u)) (va_A wc H.size) a) (va_A wc H.size))
    (hS : va_S A H0 H locs) (hP : va_P D vwCl ws H) (hD : va_D A ws) (hA : ∀ q, H0.size ≤ q → A q) (is : List Nat) (hC : is.map (fun i => ws[i]?) = wc.map some) (hf : ∀ u, (w1 u).map Prod.fst = wc.map Prod.fst)
    (kk : ∀ (r : Int64) (u : S) (H1 : Heap) (locs1 : List Loc), post r u → va_P D vwCl (zput ws is (w1 u)) H1 → va_D A (zput ws is (w1 u)) → va_S A H0 H1 locs1 → W p l e R s m args below meth c H1 locs1 cells slots Q (F0 m (pc + 3) ls (.long r :: rest))) : W p l e R s m args below meth c H locs cells slots Q (F0 m pc ls st0) := by
  have e1 : (fun u => zOut D (va_A wc H.size) (w1 u)) = (fun u => zOut D (va_A wc H.size) (w1 u ++ (fun _ : S => ([] : va_W)) u)) := by funext u; simp
  rw [e1] at hr
  refine zCallL (wn := fun _ : S => ([] : va_W)) hr hS hP hD hA is hC hf (fun r u H1 locs1 h1 h2 h3 h4 => ?_)
  rw [List.append_nil] at h2 h3
  exact kk r u H1 locs1 h1 h2 h3 h4
theorem zCallV0 {S : Type} {post : S → Prop} {w1 : S → va_W} (hr : va_Run p l e R s m args below meth c H locs cells slots 0 0 (F0 m pc ls st0) rest (va_Qv post (fun u => zOut D (va_A wc H.size) (w1 u)) (va_A wc H.size) a) (va_A wc H.size))
    (hS : va_S A H0 H locs) (hP : va_P D vwCl ws H) (hD : va_D A ws) (hA : ∀ q, H0.size ≤ q → A q) (is : List Nat) (hC : is.map (fun i => ws[i]?) = wc.map some) (hf : ∀ u, (w1 u).map Prod.fst = wc.map Prod.fst)
    (kk : ∀ (u : S) (H1 : Heap) (locs1 : List Loc), post u → va_P D vwCl (zput ws is (w1 u)) H1 → va_D A (zput ws is (w1 u)) → va_S A H0 H1 locs1 → W p l e R s m args below meth c H1 locs1 cells slots Q (F0 m (pc + 3) ls rest)) : W p l e R s m args below meth c H locs cells slots Q (F0 m pc ls st0) := by
  have e1 : (fun u => zOut D (va_A wc H.size) (w1 u)) = (fun u => zOut D (va_A wc H.size) (w1 u ++ (fun _ : S => ([] : va_W)) u)) := by funext u; simp
  rw [e1] at hr
  refine zCallV (wn := fun _ : S => ([] : va_W)) hr hS hP hD hA is hC hf (fun u H1 locs1 h1 h2 h3 h4 => ?_)
  rw [List.append_nil] at h2 h3
  exact kk u H1 locs1 h1 h2 h3 h4
theorem zCallR0 {S : Type} {post : S → Prop} {w1 : S → Nat → va_W} {rel : S → Nat → Prop} (hr : va_Run p l e R s m args below meth c H locs cells slots 0 0 (F0 m pc ls st0) rest (va_Qr post (fun u ra t => rel u ra ∧ zOut D (va_A wc H.size) (w1 u ra) t) (va_A wc H.size) a) (va_A wc H.size))
    (hS : va_S A H0 H locs) (hP : va_P D vwCl ws H) (hD : va_D A ws) (hA : ∀ q, H0.size ≤ q → A q) (is : List Nat) (hC : is.map (fun i => ws[i]?) = wc.map some) (hf : ∀ u ra, (w1 u ra).map Prod.fst = wc.map Prod.fst)
    (kk : ∀ (u : S) (ra : Nat) (H1 : Heap) (locs1 : List Loc), post u → rel u ra → va_P D vwCl (zput ws is (w1 u ra)) H1 → va_D A (zput ws is (w1 u ra)) → va_S A H0 H1 locs1 → W p l e R s m args below meth c H1 locs1 cells slots Q (F0 m (pc + 3) ls (.ref ra :: rest))) : W p l e R s m args below meth c H locs cells slots Q (F0 m pc ls st0) := by
  have e1 : (fun (u : S) (ra : Nat) (t : State) => rel u ra ∧ zOut D (va_A wc H.size) (w1 u ra) t) = (fun (u : S) (ra : Nat) (t : State) => rel u ra ∧ zOut D (va_A wc H.size) (w1 u ra ++ (fun (_ : S) (_ : Nat) => ([] : va_W)) u ra) t) := by funext u ra t; simp
  rw [e1] at hr
  refine zCallR (wn := fun (_ : S) (_ : Nat) => ([] : va_W)) hr hS hP hD hA is hC hf (fun u ra H1 locs1 h0 h1 h2 h3 h4 => ?_)
  rw [List.append_nil] at h2 h3
  exact kk u ra H1 locs1 h0 h1 h2 h3 h4
/-! the words of a callee, once for each method -/
def zMV (y : MethodName) (bytes : ByteArray) (maxL : Nat) (ret : Option FieldType) (n : Nat) : Prop :=
  Cond.code y bytes maxL ret ∈ wsL_law ∧ Cond.initialized y.cls ∈ wsL_law ∧ (y.cls ≠ "java/lang/invoke/MethodHandle" ∧ y.cls ≠ "java/lang/invoke/VarHandle" ∧ (parseMethodDescriptor y.desc).map (fun d => d.parameters.length) = some n) ∧ Cond.instanceMethod y ∈ wsL_law ∧ Cond.selects y.cls y y ∈ wsL_law
def zMS (y : MethodName) (bytes : ByteArray) (maxL : Nat) (ret : Option FieldType) (n : Nat) : Prop :=
  Cond.code y bytes maxL ret ∈ wsL_law ∧ Cond.initialized y.cls ∈ wsL_law ∧ (y.cls ≠ "java/lang/invoke/MethodHandle" ∧ y.cls ≠ "java/lang/invoke/VarHandle" ∧ (parseMethodDescriptor y.desc).map (fun d => d.parameters.length) = some n) ∧ Cond.static y ∈ wsL_law
def zMI (y : MethodName) (bytes : ByteArray) (maxL : Nat) (n : Nat) : Prop :=
  Cond.code y bytes maxL none ∈ wsL_law ∧ Cond.initialized y.cls ∈ wsL_law ∧ (y.cls ≠ "java/lang/invoke/MethodHandle" ∧ y.cls ≠ "java/lang/invoke/VarHandle" ∧ (parseMethodDescriptor y.desc).map (fun d => d.parameters.length) = some n) ∧ Cond.instanceMethod y ∈ wsL_law ∧ y.name = "<init>"
def zRm (rm R : Room) (maxL mc ms cells slots : Nat) : Prop := rm.cells = mc ∧ rm.slots = ms ∧ (rm.frames + 1 ≤ R.frames ∧ 8 + (maxL + 11) + rm.locals ≤ R.locals) ∧ cells + mc ≤ R.cells ∧ slots + ms ≤ R.slots
variable {y : MethodName} {bytes : ByteArray} {maxL n index : Nat} {rety : Option FieldType} {rm : Room} {Pc : Array Value → State → Prop} {Qc : Array Value → State → Outcome → State → Prop} {free : Addr → Prop} {b : Addr} {As : List Value} {host : String} {lv : List (Nat × Value)}
theorem zRunV (X : zCx p s m args meth c cc nL ret own D k) (M : zMV y bytes maxL rety n) (hM : Met l y (zW y bytes maxL rety) rm Pc Qc mc ms free) (hlink : Cond.methodLink own index y ∈ wsL_law) (hp : PreV s H y.cls b Pc As) (hn : As.length = n) (hl : lv_has ls nL lv) (hr : (rest.map fun v => v.category).sum ≤ 8) (hdg : decode cc pc = .ok (.invokevirtual index, 3)) (hrm : zRm rm R maxL mc ms cells slots) (hst : st0 = As.reverse ++ .ref b :: rest) :
    va_Run p l e R s m args below meth c H locs cells slots mc ms (F0 m pc ls st0) rest (Qc (Value.ref b :: As).toArray) free := by
  obtain ⟨hx, hb, -, hml, hts, hown, -, -⟩ := X
  exact va_runV (Ts := wsL_law) ⟨hx, hb, hml, hown, hts⟩ hM ⟨callB_of n hts (zGoodL M.1) rfl hrm.1 hrm.2.1 (hts _ M.2.1) (hts _ hlink) M.2.2.1 hrm.2.2.1, hts _ M.2.2.2.1, hts _ M.2.2.2.2⟩ hp rfl hn hl.1 hst (lv_room hr) hdg hrm.2.2.2
theorem zRunVN (X : zCx p s m args meth c cc nL ret own D k) (M : zMV y bytes maxL rety n) (hM : Met l y (zW y bytes maxL rety) rm Pc Qc mc ms free) (hlink : va_Nw (.methodLinkNest own index y host) s) (hp : PreV s H y.cls b Pc As) (hn : As.length = n) (hl : lv_has ls nL lv) (hr : (rest.map fun v => v.category).sum ≤ 8) (hdg : decode cc pc = .ok (.invokevirtual index, 3)) (hrm : zRm rm R maxL mc ms cells slots) (hst : st0 = As.reverse ++ .ref b :: rest) :
    va_Run p l e R s m args below meth c H locs cells slots mc ms (F0 m pc ls st0) rest (Qc (Value.ref b :: As).toArray) free := by
  obtain ⟨hx, hb, -, hml, hts, hown, -, -⟩ := X
  exact va_runVN (Ts := wsL_law) ⟨hx, hb, hml, hown, hts⟩ hM ⟨va_cnB n hts (zGoodL M.1) rfl hrm.1 hrm.2.1 hlink (hts _ M.2.1) M.2.2.1 hrm.2.2.1, hts _ M.2.2.2.1, hts _ M.2.2.2.2⟩ hp rfl hn hl.1 hst (lv_room hr) hdg hrm.2.2.2
theorem zRunS (X : zCx p s m args meth c cc nL ret own D k) (M : zMS y bytes maxL rety n) (hM : Met l y (zW y bytes maxL rety) rm Pc Qc mc ms free) (hlink : Cond.methodLink own index y ∈ wsL_law) (hp : PreS s H Pc As) (hn : As.length = n) (hl : lv_has ls nL lv) (hr : (rest.map fun v => v.category).sum ≤ 8) (hdg : decode cc pc = .ok (.invokestatic index, 3)) (hrm : zRm rm R maxL mc ms cells slots) (hst : st0 = As.reverse ++ rest) :
    va_Run p l e R s m args below meth c H locs cells slots mc ms (F0 m pc ls st0) rest (Qc As.toArray) free := by
  obtain ⟨hx, hb, -, hml, hts, hown, -, -⟩ := X
  exact va_runS (Ts := wsL_law) ⟨hx, hb, hml, hown, hts⟩ hM ⟨callB_of n hts (zGoodL M.1) rfl hrm.1 hrm.2.1 (hts _ M.2.1) (hts _ hlink) M.2.2.1 hrm.2.2.1, hts _ M.2.2.2⟩ hp rfl hn hl.1 hst (lv_room hr) hdg hrm.2.2.2
theorem zRunSN (X : zCx p s m args meth c cc nL ret own D k) (M : zMS y bytes maxL rety n) (hM : Met l y (zW y bytes maxL rety) rm Pc Qc mc ms free) (hlink : va_Nw (.methodLinkNest own index y host) s) (hp : PreS s H Pc As) (hn : As.length = n) (hl : lv_has ls nL lv) (hr : (rest.map fun v => v.category).sum ≤ 8) (hdg : decode cc pc = .ok (.invokestatic index, 3)) (hrm : zRm rm R maxL mc ms cells slots) (hst : st0 = As.reverse ++ rest) :
    va_Run p l e R s m args below meth c H locs cells slots mc ms (F0 m pc ls st0) rest (Qc As.toArray) free := by
  obtain ⟨hx, hb, -, hml, hts, hown, -, -⟩ := X
  exact va_runSN (Ts := wsL_law) ⟨hx, hb, hml, hown, hts⟩ hM ⟨va_cnB n hts (zGoodL M.1) rfl hrm.1 hrm.2.1 hlink (hts _ M.2.1) M.2.2.1 hrm.2.2.1, hts _ M.2.2.2, trivial⟩ hp rfl hn hl.1 hst (lv_room hr) hdg hrm.2.2.2
theorem zRunI (X : zCx p s m args meth c cc nL ret own D k) (M : zMI y bytes maxL n) (hM : Met l y (zW y bytes maxL none) rm Pc Qc mc ms free) (hlink : Cond.methodLink own index y ∈ wsL_law) (hp : PreS s H Pc (.ref b :: As)) (hn : As.length = n) (hl : lv_has ls nL lv) (hr : (rest.map fun v => v.category).sum ≤ 8) (hdg : decode cc pc = .ok (.invokespecial index, 3)) (hrm : zRm rm R maxL mc ms cells slots) (hst : st0 = As.reverse ++ .ref b :: rest) :
    va_Run p l e R s m args below meth c H locs cells slots mc ms (F0 m pc ls st0) rest (Qc (Value.ref b :: As).toArray) free := by
  obtain ⟨hx, hb, -, hml, hts, hown, -, -⟩ := X
  exact va_runI (Ts := wsL_law) ⟨hx, hb, hml, hown, hts⟩ hM ⟨callB_of n hts (zGoodL M.1) rfl hrm.1 hrm.2.1 (hts _ M.2.1) (hts _ hlink) M.2.2.1 hrm.2.2.1, M.2.2.2.2, hts _ M.2.2.2.1⟩ hp rfl hn hl.1 hst (lv_room hr) hdg hrm.2.2.2
theorem zRunIN (X : zCx p s m args meth c cc nL ret own D k) (M : zMI y bytes maxL n) (hM : Met l y (zW y bytes maxL none) rm Pc Qc mc ms free) (hlink : va_Nw (.methodLinkNest own index y host) s) (hp : PreS s H Pc (.ref b :: As)) (hn : As.length = n) (hl : lv_has ls nL lv) (hr : (rest.map fun v => v.category).sum ≤ 8) (hdg : decode cc pc = .ok (.invokespecial index, 3)) (hrm : zRm rm R maxL mc ms cells slots) (hst : st0 = As.reverse ++ .ref b :: rest) :
    va_Run p l e R s m args below meth c H locs cells slots mc ms (F0 m pc ls st0) rest (Qc (Value.ref b :: As).toArray) free := by
  obtain ⟨hx, hb, -, hml, hts, hown, -, -⟩ := X
  exact va_runIN (Ts := wsL_law) ⟨hx, hb, hml, hown, hts⟩ hM ⟨va_cnB n hts (zGoodL M.1) rfl hrm.1 hrm.2.1 hlink (hts _ M.2.1) M.2.2.1 hrm.2.2.1, M.2.2.2.2, hts _ M.2.2.2.1⟩ hp rfl hn hl.1 hst (lv_room hr) hdg hrm.2.2.2
/-! rows over whole numbers -/
theorem zz_iadd (X : zCx p s m args meth c cc nL ret own D k) {x y z : Int} (hdg : decode cc pc = .ok (.iadd, 1)) (hz : x + y = z) (kk : W p l e R s m args below meth c H locs cells slots Q (F0 m (pc + 1) ls (.int (nZ z) :: rest))) : W p l e R s m args below meth c H locs cells slots Q (F0 m pc ls (.int (nZ y) :: .int (nZ x) :: rest)) := by
  subst hz
  exact lv_iadd X.1 X.2.1 hdg (by rw [nZ_add]; exact kk)
theorem zz_isub (X : zCx p s m args meth c cc nL ret own D k) {x y z : Int} (hdg : decode cc pc = .ok (.isub, 1)) (hz : x - y = z) (kk : W p l e R s m args below meth c H locs cells slots Q (F0 m (pc + 1) ls (.int (nZ z) :: rest))) : W p l e R s m args below meth c H locs cells slots Q (F0 m pc ls (.int (nZ y) :: .int (nZ x) :: rest)) := by
  subst hz
  exact lv_isub X.1 X.2.1 hdg (by rw [nZ_sub]; exact kk)
theorem zz_imul (X : zCx p s m args meth c cc nL ret own D k) {x y z : Int} (hdg : decode cc pc = .ok (.imul, 1)) (hz : x * y = z) (kk : W p l e R s m args below meth c H locs cells slots Q (F0 m (pc + 1) ls (.int (nZ z) :: rest))) : W p l e R s m args below meth c H locs cells slots Q (F0 m pc ls (.int (nZ y) :: .int (nZ x) :: rest)) := by
  subst hz
  exact lv_imul X.1 X.2.1 hdg (by rw [nZ_mul]; exact kk)
theorem zne0 {y : Int} (hb : 0 < y) (hb2 : y < 2147483648) : ¬ nZ y = 0 := by
  have h : (0 : Int32) = nZ 0 := rfl
  rw [h, nZ_eq ⟨by omega, by omega⟩ ⟨by omega, by omega⟩]
  omega
theorem zz_idiv (X : zCx p s m args meth c cc nL ret own D k) {x y z : Int} (hdg : decode cc pc = .ok (.idiv, 1)) (hz : x / y = z) (h : 0 ≤ x ∧ x < 2147483648 ∧ 0 < y ∧ y < 2147483648) (kk : W p l e R s m args below meth c H locs cells slots Q (F0 m (pc + 1) ls (.int (nZ z) :: rest))) : W p l e R s m args below meth c H locs cells slots Q (F0 m pc ls (.int (nZ y) :: .int (nZ x) :: rest)) := by
  subst hz
  exact lv_idiv X.1 X.2.1 hdg (zne0 h.2.2.1 h.2.2.2) (by rw [nZ_div h.1 h.2.1 h.2.2.1 h.2.2.2]; exact kk)
theorem zz_irem (X : zCx p s m args meth c cc nL ret own D k) {x y z : Int} (hdg : decode cc pc = .ok (.irem, 1)) (hz : x % y = z) (h : 0 ≤ x ∧ x < 2147483648 ∧ 0 < y ∧ y < 2147483648) (kk : W p l e R s m args below meth c H locs cells slots Q (F0 m (pc + 1) ls (.int (nZ z) :: rest))) : W p l e R s m args below meth c H locs cells slots Q (F0 m pc ls (.int (nZ y) :: .int (nZ x) :: rest)) := by
  subst hz
  exact lv_irem X.1 X.2.1 hdg (zne0 h.2.2.1 h.2.2.2) (by rw [nZ_rem h.1 h.2.1 h.2.2.1 h.2.2.2]; exact kk)
theorem zinc {x n z : Int} (h : x + n = z) : nZ x + Int32.ofInt n = nZ z := by
  subst h
  exact nZ_add x n
theorem zz_icmp_lt (X : zCx p s m args meth c cc nL ret own D k) {x y : Int} {off : Int} {tgt : Nat} (hdg : decode cc pc = .ok (.if_icmp .lt off, 3)) (ht : (pc : Int) + off = (tgt : Int)) (hx : zR x) (hy : zR y) (kt : x < y → W p l e R s m args below meth c H locs cells slots Q (F0 m tgt ls rest)) (kf : y ≤ x → W p l e R s m args below meth c H locs cells slots Q (F0 m (pc + 3) ls rest)) : W p l e R s m args below meth c H locs cells slots Q (F0 m pc ls (.int (nZ y) :: .int (nZ x) :: rest)) := by
  have e1 := nZ_lt hx hy; have e2 := nZ_lt hy hx; have e3 := nZ_le hx hy; have e4 := nZ_le hy hx; have e5 := nZ_eq hx hy
  refine lv_icmp_lt X.1 X.2.1 hdg ht (fun h => kt ?_) (fun h => kf ?_) <;> simp only [e1, e2, e3, e4, ge_iff_le, gt_iff_lt, Int32.not_lt, Int32.not_le] at h <;> omega
theorem zz_icmp_ge (X : zCx p s m args meth c cc nL ret own D k) {x y : Int} {off : Int} {tgt : Nat} (hdg : decode cc pc = .ok (.if_icmp .ge off, 3)) (ht : (pc : Int) + off = (tgt : Int)) (hx : zR x) (hy : zR y) (kt : y ≤ x → W p l e R s m args below meth c H locs cells slots Q (F0 m tgt ls rest)) (kf : x < y → W p l e R s m args below meth c H locs cells slots Q (F0 m (pc + 3) ls rest)) : W p l e R s m args below meth c H locs cells slots Q (F0 m pc ls (.int (nZ y) :: .int (nZ x) :: rest)) := by
  have e1 := nZ_lt hx hy; have e2 := nZ_lt hy hx; have e3 := nZ_le hx hy; have e4 := nZ_le hy hx; have e5 := nZ_eq hx hy
  refine lv_icmp_ge X.1 X.2.1 hdg ht (fun h => kt ?_) (fun h => kf ?_) <;> simp only [e1, e2, e3, e4, ge_iff_le, gt_iff_lt, Int32.not_lt, Int32.not_le] at h <;> omega
theorem zz_icmp_gt (X : zCx p s m args meth c cc nL ret own D k) {x y : Int} {off : Int} {tgt : Nat} (hdg : decode cc pc = .ok (.if_icmp .gt off, 3)) (ht : (pc : Int) + off = (tgt : Int)) (hx : zR x) (hy : zR y) (kt : y < x → W p l e R s m args below meth c H locs cells slots Q (F0 m tgt ls rest)) (kf : x ≤ y → W p l e R s m args below meth c H locs cells slots Q (F0 m (pc + 3) ls rest)) : W p l e R s m args below meth c H locs cells slots Q (F0 m pc ls (.int (nZ y) :: .int (nZ x) :: rest)) := by
  have e1 := nZ_lt hx hy; have e2 := nZ_lt hy hx; have e3 := nZ_le hx hy; have e4 := nZ_le hy hx; have e5 := nZ_eq hx hy
  refine lv_icmp_gt X.1 X.2.1 hdg ht (fun h => kt ?_) (fun h => kf ?_) <;> simp only [e1, e2, e3, e4, ge_iff_le, gt_iff_lt, Int32.not_lt, Int32.not_le] at h <;> omega
theorem zz_icmp_le (X : zCx p s m args meth c cc nL ret own D k) {x y : Int} {off : Int} {tgt : Nat} (hdg : decode cc pc = .ok (.if_icmp .le off, 3)) (ht : (pc : Int) + off = (tgt : Int)) (hx : zR x) (hy : zR y) (kt : x ≤ y → W p l e R s m args below meth c H locs cells slots Q (F0 m tgt ls rest)) (kf : y < x → W p l e R s m args below meth c H locs cells slots Q (F0 m (pc + 3) ls rest)) : W p l e R s m args below meth c H locs cells slots Q (F0 m pc ls (.int (nZ y) :: .int (nZ x) :: rest)) := by
  have e1 := nZ_lt hx hy; have e2 := nZ_lt hy hx; have e3 := nZ_le hx hy; have e4 := nZ_le hy hx; have e5 := nZ_eq hx hy
  refine lv_icmp_le X.1 X.2.1 hdg ht (fun h => kt ?_) (fun h => kf ?_) <;> simp only [e1, e2, e3, e4, ge_iff_le, gt_iff_lt, Int32.not_lt, Int32.not_le] at h <;> omega
theorem zz_icmp_eq (X : zCx p s m args meth c cc nL ret own D k) {x y : Int} {off : Int} {tgt : Nat} (hdg : decode cc pc = .ok (.if_icmp .eq off, 3)) (ht : (pc : Int) + off = (tgt : Int)) (hx : zR x) (hy : zR y) (kt : x = y → W p l e R s m args below meth c H locs cells slots Q (F0 m tgt ls rest)) (kf : x ≠ y → W p l e R s m args below meth c H locs cells slots Q (F0 m (pc + 3) ls rest)) : W p l e R s m args below meth c H locs cells slots Q (F0 m pc ls (.int (nZ y) :: .int (nZ x) :: rest)) := by
  have e1 := nZ_lt hx hy; have e2 := nZ_lt hy hx; have e3 := nZ_le hx hy; have e4 := nZ_le hy hx; have e5 := nZ_eq hx hy
  refine lv_icmp_eq X.1 X.2.1 hdg ht (fun h => kt ?_) (fun h => kf ?_) <;> simp only [e5, ne_eq, Decidable.not_not] at h <;> first | exact h | omega
theorem zz_icmp_ne (X : zCx p s m args meth c cc nL ret own D k) {x y : Int} {off : Int} {tgt : Nat} (hdg : decode cc pc = .ok (.if_icmp .ne off, 3)) (ht : (pc : Int) + off = (tgt : Int)) (hx : zR x) (hy : zR y) (kt : x ≠ y → W p l e R s m args below meth c H locs cells slots Q (F0 m tgt ls rest)) (kf : x = y → W p l e R s m args below meth c H locs cells slots Q (F0 m (pc + 3) ls rest)) : W p l e R s m args below meth c H locs cells slots Q (F0 m pc ls (.int (nZ y) :: .int (nZ x) :: rest)) := by
  have e1 := nZ_lt hx hy; have e2 := nZ_lt hy hx; have e3 := nZ_le hx hy; have e4 := nZ_le hy hx; have e5 := nZ_eq hx hy
  refine lv_icmp_ne X.1 X.2.1 hdg ht (fun h => kt ?_) (fun h => kf ?_) <;> simp only [e5, ne_eq, Decidable.not_not] at h <;> first | exact h | omega
theorem zz_if_lt (X : zCx p s m args meth c cc nL ret own D k) {x : Int} {off : Int} {tgt : Nat} (hdg : decode cc pc = .ok (.ifCond .lt off, 3)) (ht : (pc : Int) + off = (tgt : Int)) (hx : zR x) (kt : x < 0 → W p l e R s m args below meth c H locs cells slots Q (F0 m tgt ls rest)) (kf : 0 ≤ x → W p l e R s m args below meth c H locs cells slots Q (F0 m (pc + 3) ls rest)) : W p l e R s m args below meth c H locs cells slots Q (F0 m pc ls (.int (nZ x) :: rest)) := by
  have hy : zR 0 := ⟨by decide, by decide⟩
  have e0 : (0 : Int32) = nZ 0 := rfl
  have e1 := nZ_lt hx hy; have e2 := nZ_lt hy hx; have e3 := nZ_le hx hy; have e4 := nZ_le hy hx; have e5 := nZ_eq hx hy
  refine lv_if_lt X.1 X.2.1 hdg ht (fun h => kt ?_) (fun h => kf ?_) <;> simp only [e0, e1, e2, e3, e4, ge_iff_le, gt_iff_lt, Int32.not_lt, Int32.not_le] at h <;> omega
theorem zz_if_ge (X : zCx p s m args meth c cc nL ret own D k) {x : Int} {off : Int} {tgt : Nat} (hdg : decode cc pc = .ok (.ifCond .ge off, 3)) (ht : (pc : Int) + off = (tgt : Int)) (hx : zR x) (kt : 0 ≤ x → W p l e R s m args below meth c H locs cells slots Q (F0 m tgt ls rest)) (kf : x < 0 → W p l e R s m args below meth c H locs cells slots Q (F0 m (pc + 3) ls rest)) : W p l e R s m args below meth c H locs cells slots Q (F0 m pc ls (.int (nZ x) :: rest)) := by
  have hy : zR 0 := ⟨by decide, by decide⟩
  have e0 : (0 : Int32) = nZ 0 := rfl
  have e1 := nZ_lt hx hy; have e2 := nZ_lt hy hx; have e3 := nZ_le hx hy; have e4 := nZ_le hy hx; have e5 := nZ_eq hx hy
  refine lv_if_ge X.1 X.2.1 hdg ht (fun h => kt ?_) (fun h => kf ?_) <;> simp only [e0, e1, e2, e3, e4, ge_iff_le, gt_iff_lt, Int32.not_lt, Int32.not_le] at h <;> omega
theorem zz_if_gt (X : zCx p s m args meth c cc nL ret own D k) {x : Int} {off : Int} {tgt : Nat} (hdg : decode cc pc = .ok (.ifCond .gt off, 3)) (ht : (pc : Int) + off = (tgt : Int)) (hx : zR x) (kt : 0 < x → W p l e R s m args below meth c H locs cells slots Q (F0 m tgt ls rest)) (kf : x ≤ 0 → W p l e R s m args below meth c H locs cells slots Q (F0 m (pc + 3) ls rest)) : W p l e R s m args below meth c H locs cells slots Q (F0 m pc ls (.int (nZ x) :: rest)) := by
  have hy : zR 0 := ⟨by decide, by decide⟩
  have e0 : (0 : Int32) = nZ 0 := rfl
  have e1 := nZ_lt hx hy; have e2 := nZ_lt hy hx; have e3 := nZ_le hx hy; have e4 := nZ_le hy hx; have e5 := nZ_eq hx hy
  refine lv_if_gt X.1 X.2.1 hdg ht (fun h => kt ?_) (fun h => kf ?_) <;> simp only [e0, e1, e2, e3, e4, ge_iff_le, gt_iff_lt, Int32.not_lt, Int32.not_le] at h <;> omega
theorem zz_if_le (X : zCx p s m args meth c cc nL ret own D k) {x : Int} {off : Int} {tgt : Nat} (hdg : decode cc pc = .ok (.ifCond .le off, 3)) (ht : (pc : Int) + off = (tgt : Int)) (hx : zR x) (kt : x ≤ 0 → W p l e R s m args below meth c H locs cells slots Q (F0 m tgt ls rest)) (kf : 0 < x → W p l e R s m args below meth c H locs cells slots Q (F0 m (pc + 3) ls rest)) : W p l e R s m args below meth c H locs cells slots Q (F0 m pc ls (.int (nZ x) :: rest)) := by
  have hy : zR 0 := ⟨by decide, by decide⟩
  have e0 : (0 : Int32) = nZ 0 := rfl
  have e1 := nZ_lt hx hy; have e2 := nZ_lt hy hx; have e3 := nZ_le hx hy; have e4 := nZ_le hy hx; have e5 := nZ_eq hx hy
  refine lv_if_le X.1 X.2.1 hdg ht (fun h => kt ?_) (fun h => kf ?_) <;> simp only [e0, e1, e2, e3, e4, ge_iff_le, gt_iff_lt, Int32.not_lt, Int32.not_le] at h <;> omega
theorem zz_if_eq (X : zCx p s m args meth c cc nL ret own D k) {x : Int} {off : Int} {tgt : Nat} (hdg : decode cc pc = .ok (.ifCond .eq off, 3)) (ht : (pc : Int) + off = (tgt : Int)) (hx : zR x) (kt : x = 0 → W p l e R s m args below meth c H locs cells slots Q (F0 m tgt ls rest)) (kf : x ≠ 0 → W p l e R s m args below meth c H locs cells slots Q (F0 m (pc + 3) ls rest)) : W p l e R s m args below meth c H locs cells slots Q (F0 m pc ls (.int (nZ x) :: rest)) := by
  have hy : zR 0 := ⟨by decide, by decide⟩
  have e0 : (0 : Int32) = nZ 0 := rfl
  have e1 := nZ_lt hx hy; have e2 := nZ_lt hy hx; have e3 := nZ_le hx hy; have e4 := nZ_le hy hx; have e5 := nZ_eq hx hy
  refine lv_if_eq X.1 X.2.1 hdg ht (fun h => kt ?_) (fun h => kf ?_) <;> simp only [e0, e5, ne_eq, Decidable.not_not] at h <;> first | exact h | omega
theorem zz_if_ne (X : zCx p s m args meth c cc nL ret own D k) {x : Int} {off : Int} {tgt : Nat} (hdg : decode cc pc = .ok (.ifCond .ne off, 3)) (ht : (pc : Int) + off = (tgt : Int)) (hx : zR x) (kt : x ≠ 0 → W p l e R s m args below meth c H locs cells slots Q (F0 m tgt ls rest)) (kf : x = 0 → W p l e R s m args below meth c H locs cells slots Q (F0 m (pc + 3) ls rest)) : W p l e R s m args below meth c H locs cells slots Q (F0 m pc ls (.int (nZ x) :: rest)) := by
  have hy : zR 0 := ⟨by decide, by decide⟩
  have e0 : (0 : Int32) = nZ 0 := rfl
  have e1 := nZ_lt hx hy; have e2 := nZ_lt hy hx; have e3 := nZ_le hx hy; have e4 := nZ_le hy hx; have e5 := nZ_eq hx hy
  refine lv_if_ne X.1 X.2.1 hdg ht (fun h => kt ?_) (fun h => kf ?_) <;> simp only [e0, e5, ne_eq, Decidable.not_not] at h <;> first | exact h | omega
theorem zz_iald (X : zCx p s m args meth c cc nL ret own D k) (hP : va_P D vwCl ws H) (q0 t0 : Nat) {a : Nat} {cA : ClassId} {N : Nat} {g : Nat → Int} (ha : ws[q0]? = some (a, .inl (cA, N, .inl (zA g)))) (ht : (zTy k)[t0]? = some (cA, .int)) {i : Int} (j : Nat) (hj : i = (j : Int)) (hin : j < N) (hN : N ≤ 1000000) (hdg : decode cc pc = .ok (.iaload, 1))
    (kk : W p l e R s m args below meth c H locs cells slots Q (F0 m (pc + 1) ls (.int (nZ (g j)) :: rest))) : W p l e R s m args below meth c H locs cells slots Q (F0 m pc ls (.int (nZ i) :: .ref a :: rest)) := by
  subst hj
  refine va_iald X.1 X.2.1 X.2.2.2.2.2.2.2.1 hP q0 t0 ha ht (nZ_in (by omega) (by omega) hN) hdg ?_
  rw [nZ_clamp ⟨by omega, by omega⟩]
  exact kk
theorem zz_cald (X : zCx p s m args meth c cc nL ret own D k) (hP : va_P D vwCl ws H) (q0 t0 : Nat) {a : Nat} {cA : ClassId} {N : Nat} {g : Nat → Int} (ha : ws[q0]? = some (a, .inl (cA, N, .inl (zA g)))) (ht : (zTy k)[t0]? = some (cA, .char)) {i : Int} (j : Nat) (hj : i = (j : Int)) (hin : j < N) (hN : N ≤ 1000000) (hdg : decode cc pc = .ok (.caload, 1))
    (kk : W p l e R s m args below meth c H locs cells slots Q (F0 m (pc + 1) ls (.int (nZ (g j)) :: rest))) : W p l e R s m args below meth c H locs cells slots Q (F0 m pc ls (.int (nZ i) :: .ref a :: rest)) := by
  subst hj
  refine va_cald X.1 X.2.1 X.2.2.2.2.2.2.2.1 hP q0 t0 ha ht (nZ_in (by omega) (by omega) hN) hdg ?_
  rw [nZ_clamp ⟨by omega, by omega⟩]
  exact kk
theorem zz_zald (X : zCx p s m args meth c cc nL ret own D k) (hP : va_P D vwCl ws H) (q0 t0 : Nat) {a : Nat} {cA : ClassId} {N : Nat} {g : Nat → Int} (ha : ws[q0]? = some (a, .inl (cA, N, .inl (zA g)))) (ht : (zTy k)[t0]? = some (cA, .boolean)) {i : Int} (j : Nat) (hj : i = (j : Int)) (hin : j < N) (hN : N ≤ 1000000) (hdg : decode cc pc = .ok (.baload, 1))
    (kk : W p l e R s m args below meth c H locs cells slots Q (F0 m (pc + 1) ls (.int (nZ (g j)) :: rest))) : W p l e R s m args below meth c H locs cells slots Q (F0 m pc ls (.int (nZ i) :: .ref a :: rest)) := by
  subst hj
  refine va_zald X.1 X.2.1 X.2.2.2.2.2.2.2.1 hP q0 t0 ha ht (nZ_in (by omega) (by omega) hN) hdg ?_
  rw [nZ_clamp ⟨by omega, by omega⟩]
  exact kk
theorem zz_iast (X : zCx p s m args meth c cc nL ret own D k) (hP : va_P D vwCl ws H) (hD : va_D A ws) (hS : va_S A H0 H locs) (q0 t0 : Nat) {a : Nat} {cA : ClassId} {N : Nat} {g : Nat → Int} (ha : ws[q0]? = some (a, .inl (cA, N, .inl (zA g)))) (ht : (zTy k)[t0]? = some (cA, .int)) {i v : Int} (j : Nat) (hj : i = (j : Int)) (hin : j < N) (hN : N ≤ 1000000) (hdg : decode cc pc = .ok (.iastore, 1))
    (kk : ∀ (H1 : Heap) (locs1 : List Loc), va_P D vwCl (ws.set q0 (a, .inl (cA, N, .inl (zA (zU g j v))))) H1 → va_D A (ws.set q0 (a, .inl (cA, N, .inl (zA (zU g j v))))) → va_S A H0 H1 locs1 → W p l e R s m args below meth c H1 locs1 cells slots Q (F0 m (pc + 1) ls rest)) : W p l e R s m args below meth c H locs cells slots Q (F0 m pc ls (.int (nZ v) :: .int (nZ i) :: .ref a :: rest)) := by
  subst hj
  refine va_iast X.1 X.2.1 X.2.2.2.2.2.2.2.1 hP hD hS q0 t0 ha ht (nZ_in (by omega) (by omega) hN) hdg (fun H1 locs1 h1 h2 h3 => ?_)
  rw [nZ_clamp ⟨by omega, by omega⟩, zA_upd] at h1 h2
  exact kk H1 locs1 h1 h2 h3
theorem znar_char {v : Int} (h : 0 ≤ v ∧ v < 65536) : vp_nar .char (nZ v) = nZ v := by
  obtain ⟨m, rfl⟩ := Int.eq_ofNat_of_zero_le h.1
  rw [vp_nar_char, show nZ ((m : Nat) : Int) = nI m from (nZ_nI m).symm]
  have h1 : (nI m).toUInt32.toUInt16.toUInt32.toInt32 = ((nI m).toUInt32 % 65536).toInt32 := by
    congr 1
  rw [h1, pk_char, pk_tn (by omega), Nat.mod_eq_of_lt (by omega)]
theorem zz_cast (X : zCx p s m args meth c cc nL ret own D k) (hP : va_P D vwCl ws H) (hD : va_D A ws) (hS : va_S A H0 H locs) (q0 t0 : Nat) {a : Nat} {cA : ClassId} {N : Nat} {g : Nat → Int} (ha : ws[q0]? = some (a, .inl (cA, N, .inl (zA g)))) (ht : (zTy k)[t0]? = some (cA, .char)) {i v : Int} (j : Nat) (hj : i = (j : Int)) (hin : j < N) (hN : N ≤ 1000000) (hv : 0 ≤ v ∧ v < 65536) (hdg : decode cc pc = .ok (.castore, 1))
    (kk : ∀ (H1 : Heap) (locs1 : List Loc), va_P D vwCl (ws.set q0 (a, .inl (cA, N, .inl (zA (zU g j v))))) H1 → va_D A (ws.set q0 (a, .inl (cA, N, .inl (zA (zU g j v))))) → va_S A H0 H1 locs1 → W p l e R s m args below meth c H1 locs1 cells slots Q (F0 m (pc + 1) ls rest)) : W p l e R s m args below meth c H locs cells slots Q (F0 m pc ls (.int (nZ v) :: .int (nZ i) :: .ref a :: rest)) := by
  subst hj
  refine va_cast X.1 X.2.1 X.2.2.2.2.2.2.2.1 hP hD hS q0 t0 ha ht (nZ_in (by omega) (by omega) hN) hdg (fun H1 locs1 h1 h2 h3 => ?_)
  rw [znar_char hv, nZ_clamp ⟨by omega, by omega⟩, zA_upd] at h1 h2
  exact kk H1 locs1 h1 h2 h3
theorem zz_zast (X : zCx p s m args meth c cc nL ret own D k) (hP : va_P D vwCl ws H) (hD : va_D A ws) (hS : va_S A H0 H locs) (q0 t0 : Nat) {a : Nat} {cA : ClassId} {N : Nat} {g : Nat → Int} (ha : ws[q0]? = some (a, .inl (cA, N, .inl (zA g)))) (ht : (zTy k)[t0]? = some (cA, .boolean)) {i v : Int} (j : Nat) (hj : i = (j : Int)) (hin : j < N) (hN : N ≤ 1000000) (hv : vp_nar .boolean (nZ v) = nZ v) (hdg : decode cc pc = .ok (.bastore, 1))
    (kk : ∀ (H1 : Heap) (locs1 : List Loc), va_P D vwCl (ws.set q0 (a, .inl (cA, N, .inl (zA (zU g j v))))) H1 → va_D A (ws.set q0 (a, .inl (cA, N, .inl (zA (zU g j v))))) → va_S A H0 H1 locs1 → W p l e R s m args below meth c H1 locs1 cells slots Q (F0 m (pc + 1) ls rest)) : W p l e R s m args below meth c H locs cells slots Q (F0 m pc ls (.int (nZ v) :: .int (nZ i) :: .ref a :: rest)) := by
  subst hj
  refine va_zast X.1 X.2.1 X.2.2.2.2.2.2.2.1 hP hD hS q0 t0 ha ht (nZ_in (by omega) (by omega) hN) hdg (fun H1 locs1 h1 h2 h3 => ?_)
  rw [hv, nZ_clamp ⟨by omega, by omega⟩, zA_upd] at h1 h2
  exact kk H1 locs1 h1 h2 h3
theorem zz_alen (X : zCx p s m args meth c cc nL ret own D k) (hP : va_P D vwCl ws H) (q0 t0 : Nat) {a : Nat} {cA : ClassId} {x : vp_A} {N : Nat} (hN : x.1 = N) (ha : ws[q0]? = some (a, .inl (cA, x))) {ty : FieldType} (ht : (zTy k)[t0]? = some (cA, ty)) (hdg : decode cc pc = .ok (.arraylength, 1))
    (kk : W p l e R s m args below meth c H locs cells slots Q (F0 m (pc + 1) ls (.int (nZ (N : Int)) :: rest))) : W p l e R s m args below meth c H locs cells slots Q (F0 m pc ls (.ref a :: rest)) := by
  subst hN
  exact va_alen X.1 X.2.1 X.2.2.2.2.2.2.2.1 hP q0 t0 ha ht (nZ_ofNat x.1) hdg kk
theorem zz_min (X : zCx p s m args meth c cc nL ret own D k) {x y z : Int} (hl : lv_has ls nL lv) (hlink : Cond.methodLink own index Lib.Math.min.name ∈ wsL_law) (hstat : Cond.static Lib.Math.min.name ∈ wsL_law) (hini : Cond.initialized "java/lang/Math" ∈ wsL_law) (hcode : Cond.code Lib.Math.min.name Lib.Math.min.code 2 (some .int) ∈ wsL_law)
    (hR : 1 ≤ R.frames ∧ (rest.map fun v => v.category).sum + 13 ≤ R.locals ∧ cells ≤ R.cells ∧ slots ≤ R.slots) (hx : zR x) (hy : zR y) (hz : min x y = z) (hdg : decode cc pc = .ok (.invokestatic index, 3))
    (kk : W p l e R s m args below meth c H locs cells slots Q (F0 m (pc + 3) ls (.int (nZ z) :: rest))) : W p l e R s m args below meth c H locs cells slots Q (F0 m pc ls (.int (nZ y) :: .int (nZ x) :: rest)) := by
  have hts := X.2.2.2.2.1
  refine va_mmin X.1 X.2.1 (X.2.2.2.1.trans hl.1.symm) X.2.2.2.2.2.1 (hts _ hlink) (hts _ hstat) (hts _ hini) (hts _ hcode) hR.1 hR.2.1 hR.2.2.1 hR.2.2.2 hdg ?_
  have h : (if nZ y < nZ x then nZ y else nZ x) = nZ z := by
    subst hz
    by_cases h : y < x
    · rw [if_pos ((nZ_lt hy hx).mpr h)]; congr 1; omega
    · rw [if_neg (fun h2 => h ((nZ_lt hy hx).mp h2))]; congr 1; omega
  rw [h]
  exact kk
theorem zz_abs (X : zCx p s m args meth c cc nL ret own D k) {x z : Int} (hl : lv_has ls nL lv) (hlink : Cond.methodLink own index Lib.Math.abs.name ∈ wsL_law) (hstat : Cond.static Lib.Math.abs.name ∈ wsL_law) (hini : Cond.initialized "java/lang/Math" ∈ wsL_law) (hcode : Cond.code Lib.Math.abs.name Lib.Math.abs.code 1 (some .int) ∈ wsL_law)
    (hR : 1 ≤ R.frames ∧ (rest.map fun v => v.category).sum + 13 ≤ R.locals ∧ cells ≤ R.cells ∧ slots ≤ R.slots) (hx : zR x) (hz : (x.natAbs : Int) = z) (hdg : decode cc pc = .ok (.invokestatic index, 3))
    (kk : W p l e R s m args below meth c H locs cells slots Q (F0 m (pc + 3) ls (.int (nZ z) :: rest))) : W p l e R s m args below meth c H locs cells slots Q (F0 m pc ls (.int (nZ x) :: rest)) := by
  have hts := X.2.2.2.2.1
  refine va_mabs X.1 X.2.1 (X.2.2.2.1.trans hl.1.symm) X.2.2.2.2.2.1 (hts _ hlink) (hts _ hstat) (hts _ hini) (hts _ hcode) hR.1 hR.2.1 hR.2.2.1 hR.2.2.2 hdg ?_
  have h0 : (0 : Int32) = nZ 0 := rfl
  have h : (if 0 ≤ nZ x then nZ x else 0 - nZ x) = nZ z := by
    subst hz
    rw [h0, nZ_sub]
    by_cases h : 0 ≤ x
    · rw [if_pos ((nZ_le ⟨by decide, by decide⟩ hx).mpr h)]; congr 1; omega
    · rw [if_neg (fun h2 => h ((nZ_le ⟨by decide, by decide⟩ hx).mp h2))]; congr 1; omega
  rw [h]
  exact kk
end ZE

