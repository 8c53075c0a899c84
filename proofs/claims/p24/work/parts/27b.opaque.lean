/-! calls on a world that is not spelled out, beside another -/
theorem zP_iff {D : va_G} {cl : List vw_C} {ws : va_W} {H : Heap} : va_P D cl ws H ↔ ∀ q ∈ ws, va_at D cl q H :=
  ⟨fun h q hq => by obtain ⟨j, hj⟩ := List.getElem?_of_mem hq; exact h j q hj, fun h k q hk => h q (List.mem_of_getElem? hk)⟩
theorem zDis {wc rest : va_W} (h : ((wc ++ rest).map Prod.fst).Nodup) {q : Nat × va_E} (hq : q ∈ rest) {e : va_E} (he : (q.1, e) ∈ wc) : False := by
  rw [List.map_append, List.nodup_append] at h
  exact h.2.2 q.1 (List.mem_map.mpr ⟨_, he, rfl⟩) q.1 (List.mem_map.mpr ⟨_, hq, rfl⟩) rfl
theorem zJoinO {A0 : Nat → Prop} {D : va_G} {cl : List vw_C} {ws wc rest w' : va_W} {H H1 : Heap} (hp : ws.Perm (wc ++ rest)) (hP : va_P D cl ws H) (hD : va_D A0 ws) (hk : ∀ q : Nat, q < H.size → ¬ va_A wc H.size q → H1[q]? = H[q]?) (hF : ∀ q, va_A wc H.size q → A0 q)
    (hP1 : va_P D cl w' H1) (hD1 : va_D (va_A wc H.size) w') : va_P D cl (w' ++ rest) H1 ∧ va_D A0 (w' ++ rest) := by
  have hP2 := zP_iff.mp (zPerm_P hP hp)
  have hD2 := zD_iff.mp (zPerm_D hD hp)
  have hD3 := zD_iff.mp hD1
  have hlt : ∀ q ∈ rest, q.1 < H.size := fun q hq => (hP2 q (List.mem_append_right _ hq)).lt
  have hno : ∀ q ∈ rest, ¬ va_A wc H.size q.1 := fun q hq ha => by
    rcases zA_iff.mp ha with ⟨e, he⟩ | hge
    · exact zDis hD2.1 hq he
    · exact absurd (hlt q hq) (Nat.not_lt.mpr hge)
  constructor
  · refine zP_iff.mpr (fun q hq => ?_)
    rcases List.mem_append.mp hq with h | h
    · exact zP_iff.mp hP1 q h
    · exact (hP2 q (List.mem_append_right _ h)).kept (hk _ (hlt q h) (hno q h))
  · refine zD_iff.mpr ⟨?_, fun q hq => ?_⟩
    · have h2 := hD2.1
      rw [List.map_append, List.nodup_append] at h2 ⊢
      refine ⟨hD3.1, h2.2.1, fun a ha b hb e => ?_⟩
      obtain ⟨p, hp1, rfl⟩ := List.mem_map.mp ha
      obtain ⟨q, hq1, rfl⟩ := List.mem_map.mp hb
      exact hno q hq1 (e ▸ hD3.2 p hp1)
    · rcases List.mem_append.mp hq with h | h
      · exact hF _ (hD3.2 q h)
      · exact hD2.2 q (List.mem_append_right _ h)
theorem zO_F {A : Nat → Prop} {ws wc rest : va_W} {H0 H : Heap} {locs : List Loc} (hp : ws.Perm (wc ++ rest)) (hD : va_D A ws) (hS : va_S A H0 H locs) (hA : ∀ q, H0.size ≤ q → A q) : ∀ q, va_A wc H.size q → A q := fun q h => by
  rcases zA_iff.mp h with ⟨e, he⟩ | hge
  · exact (zD_iff.mp hD).2 _ (hp.mem_iff.mpr (List.mem_append_left _ he))
  · exact hA q (Nat.le_trans hS.1 hge)
theorem zO_P {D : va_G} {cl : List vw_C} {ws wc rest : va_W} {H : Heap} (hp : ws.Perm (wc ++ rest)) (hP : va_P D cl ws H) : va_P D cl wc H := zP_iff.mpr (fun q hq => zP_iff.mp hP q (hp.mem_iff.mpr (List.mem_append_left _ hq)))
theorem zO_D {A : Nat → Prop} {ws wc rest : va_W} (hp : ws.Perm (wc ++ rest)) (hD : va_D A ws) : va_D (fun _ => True) wc := by
  have h := zD_iff.mp (zPerm_D hD hp)
  refine zD_iff.mpr ⟨?_, fun _ _ => trivial⟩
  have h2 := h.1
  rw [List.map_append, List.nodup_append] at h2
  exact h2.1
theorem zPreSO {D : va_G} {k : Nat → ClassId} {s : State} {H : Heap} {ws wc rest : va_W} {A : Nat → Prop} {av : List Value} (hP : va_P D vwCl ws H) (hD : va_D A ws) (hK : zK D k s) (hp : ws.Perm (wc ++ rest)) : PreS s H (va_Pc av (zIn D k H.size wc)) av :=
  ⟨zBlind _ _ _ _ _, fun U hU hW => ⟨rfl, by rw [hU], by rw [hU]; exact zO_P hp hP, hK.warm hW, zO_D hp hD⟩⟩
theorem zRecvO {D : va_G} {k : Nat → ClassId} {s : State} {H : Heap} {ws wc rest : va_W} {b ci : Nat} {fs : List Value} {r : vw_C} (hP : va_P D vwCl ws H) (hK : zK D k s) (hp : ws.Perm (wc ++ rest)) (he : (b, Sum.inr (ci, fs)) ∈ wc) (hc : vwCl[ci]? = some r) : ∃ cell : Cell, H[b]? = some cell ∧ cell.vm.isStatics = false ∧ s.vm.findClass r.1 = some cell.cls := by
  obtain ⟨j, hj⟩ := List.getElem?_of_mem he
  exact va_recv hK.1 (zO_P hp hP) hc hj
theorem zPreVO {D : va_G} {k : Nat → ClassId} {s : State} {H : Heap} {ws wc rest : va_W} {A : Nat → Prop} {b ci : Nat} {As : List Value} {C : String} {fs : List Value} {r : vw_C} (hP : va_P D vwCl ws H) (hD : va_D A ws) (hK : zK D k s) (hp : ws.Perm (wc ++ rest)) (he : (b, Sum.inr (ci, fs)) ∈ wc) (hc : vwCl[ci]? = some r) (hr : r.1 = C) : PreV s H C b (va_Pc (.ref b :: As) (zIn D k H.size wc)) As := by
  subst hr
  exact ⟨zBlind _ _ _ _ _, zRecvO hP hK hp he hc, (zPreSO hP hD hK hp).2⟩
/-- a law's wrapper: the words of a method with handlers -/
def zWW (y : MethodName) (cc : ByteArray) (n : Nat) (r : Option FieldType) (hh : List (Nat × Nat × Nat × Nat)) : List Cond := Cond.codeWith y cc n r hh :: wsL_law
def zMW (y : MethodName) (bytes : ByteArray) (maxL : Nat) (ret : Option FieldType) (hh : List (Nat × Nat × Nat × Nat)) (n : Nat) : Prop :=
  Cond.codeWith y bytes maxL ret hh ∈ wsL_law ∧ Cond.initialized y.cls ∈ wsL_law ∧ (y.cls ≠ "java/lang/invoke/MethodHandle" ∧ y.cls ≠ "java/lang/invoke/VarHandle" ∧ (parseMethodDescriptor y.desc).map (fun d => d.parameters.length) = some n) ∧ Cond.static y ∈ wsL_law
theorem zGoodW {y2 : MethodName} {cc2 : ByteArray} {n2 : Nat} {r2 : Option FieldType} {hh : List (Nat × Nat × Nat × Nat)} (h : Cond.codeWith y2 cc2 n2 r2 hh ∈ wsL_law) : GoodIn wsL_law (zWW y2 cc2 n2 r2 hh) := by
  intro w hw
  rcases List.mem_cons.mp hw with rfl | h2
  · exact ⟨h, good_of_word (zAll_good _ h)⟩
  · exact ⟨h2, good_of_word (zAll_good _ h2)⟩
/-- the law's own long array -/
def zOc (k : Nat → ClassId) (ot : Nat) (g : Nat → Int64) : Nat × va_E := (ot, .inl (k 3, 1, .inr (.inl g)))
/-- what a wrapper answers: a code, and the answer in the array where it is 0 -/
def zWR (k : Nat → ClassId) (ot : Nat) (code ans : Int) (P : va_W → Prop) : Int32 → va_W → Prop := fun r u => ∃ (g : Nat → Int64) (xs : va_W), u = zOc k ot g :: xs ∧ r = nZ code ∧ (code = 0 → g 0 = (nZ ans).toInt64) ∧ P xs
section ZO
variable {p : Program} {l : Launch} {e : Env} {R : Room} {s : State} {m : MethodId} {args : Array Value} {below : List Frame} {meth : Method} {c : Code} {H : Heap} {locs : List Loc} {cells slots : Nat} {Q : State → Prop}
variable {D : va_G} {k : Nat → ClassId} {cc : ByteArray} {pc nL : Nat} {own : String} {ret : Option FieldType} {ls : Array Slot} {rest st0 : List Value} {A : Nat → Prop} {ws wc wr : va_W} {H0 : Heap} {a : Array Value} {mc ms : Nat}
theorem zCallIO {post : Int32 → va_W → Prop} (hr : va_Run p l e R s m args below meth c H locs cells slots mc ms (F0 m pc ls st0) rest (va_Qi post (fun u => zOut D (va_A wc H.size) u) (va_A wc H.size) a) (va_A wc H.size))
    (hS : va_S A H0 H locs) (hP : va_P D vwCl ws H) (hD : va_D A ws) (hA : ∀ q, H0.size ≤ q → A q) (hp : ws.Perm (wc ++ wr))
    (kk : ∀ (r : Int32) (u : va_W) (H1 : Heap) (locs1 : List Loc), post r u → va_P D vwCl (u ++ wr) H1 → va_D A (u ++ wr) → va_S A H0 H1 locs1 → W p l e R s m args below meth c H1 locs1 (cells + mc) (slots + ms) Q (F0 m (pc + 3) ls (.int r :: rest))) : W p l e R s m args below meth c H locs cells slots Q (F0 m pc ls st0) := by
  have hF := zO_F hp hD hS hA
  refine va_calli hr hS (fun q _ h => hF q h) hF (fun r u t H1 locs1 ht _ hpost hB hz hk hS1 => ?_)
  obtain ⟨hB1, hB2⟩ := hB
  rw [ht] at hB1
  obtain ⟨h1, h2⟩ := zJoinO hp hP hD hk hF hB1 hB2
  exact kk r u H1 locs1 hpost h1 h2 hS1
theorem zCallLO {post : Int64 → va_W → Prop} (hr : va_Run p l e R s m args below meth c H locs cells slots mc ms (F0 m pc ls st0) rest (va_Ql post (fun u => zOut D (va_A wc H.size) u) (va_A wc H.size) a) (va_A wc H.size))
    (hS : va_S A H0 H locs) (hP : va_P D vwCl ws H) (hD : va_D A ws) (hA : ∀ q, H0.size ≤ q → A q) (hp : ws.Perm (wc ++ wr))
    (kk : ∀ (r : Int64) (u : va_W) (H1 : Heap) (locs1 : List Loc), post r u → va_P D vwCl (u ++ wr) H1 → va_D A (u ++ wr) → va_S A H0 H1 locs1 → W p l e R s m args below meth c H1 locs1 (cells + mc) (slots + ms) Q (F0 m (pc + 3) ls (.long r :: rest))) : W p l e R s m args below meth c H locs cells slots Q (F0 m pc ls st0) := by
  have hF := zO_F hp hD hS hA
  refine va_calll hr hS (fun q _ h => hF q h) hF (fun r u t H1 locs1 ht _ hpost hB hz hk hS1 => ?_)
  obtain ⟨hB1, hB2⟩ := hB
  rw [ht] at hB1
  obtain ⟨h1, h2⟩ := zJoinO hp hP hD hk hF hB1 hB2
  exact kk r u H1 locs1 hpost h1 h2 hS1
theorem zCallDO {post : UInt64 → va_W → Prop} (hr : va_Run p l e R s m args below meth c H locs cells slots mc ms (F0 m pc ls st0) rest (va_Qd post (fun u => zOut D (va_A wc H.size) u) (va_A wc H.size) a) (va_A wc H.size))
    (hS : va_S A H0 H locs) (hP : va_P D vwCl ws H) (hD : va_D A ws) (hA : ∀ q, H0.size ≤ q → A q) (hp : ws.Perm (wc ++ wr))
    (kk : ∀ (r : UInt64) (u : va_W) (H1 : Heap) (locs1 : List Loc), post r u → va_P D vwCl (u ++ wr) H1 → va_D A (u ++ wr) → va_S A H0 H1 locs1 → W p l e R s m args below meth c H1 locs1 (cells + mc) (slots + ms) Q (F0 m (pc + 3) ls (.double r :: rest))) : W p l e R s m args below meth c H locs cells slots Q (F0 m pc ls st0) := by
  have hF := zO_F hp hD hS hA
  refine va_calld hr hS (fun q _ h => hF q h) hF (fun r u t H1 locs1 ht _ hpost hB hz hk hS1 => ?_)
  obtain ⟨hB1, hB2⟩ := hB
  rw [ht] at hB1
  obtain ⟨h1, h2⟩ := zJoinO hp hP hD hk hF hB1 hB2
  exact kk r u H1 locs1 hpost h1 h2 hS1
variable {y : MethodName} {bytes : ByteArray} {maxL n index : Nat} {rety : Option FieldType} {rm : Room} {Pc : Array Value → State → Prop} {Qc : Array Value → State → Outcome → State → Prop} {free : Addr → Prop} {b : Addr} {As : List Value} {lv : List (Nat × Value)} {hh : List (Nat × Nat × Nat × Nat)}
theorem zRunW (X : zCx p s m args meth c cc nL ret own D k) (M : zMW y bytes maxL rety hh n) (hM : Met l y (zWW y bytes maxL rety hh) rm Pc Qc mc ms free) (hlink : Cond.methodLink own index y ∈ wsL_law) (hp : PreS s H Pc As) (hn : As.length = n) (hl : lv_has ls nL lv) (hr : (rest.map fun v => v.category).sum ≤ 8) (hdg : decode cc pc = .ok (.invokestatic index, 3)) (hrm : zRm rm R maxL mc ms cells slots) (hst : st0 = As.reverse ++ rest) :
    va_Run p l e R s m args below meth c H locs cells slots mc ms (F0 m pc ls st0) rest (Qc As.toArray) free := by
  obtain ⟨hx, hb, -, hml, hts, hown, -, -⟩ := X
  exact vx_runSW (Ts := wsL_law) ⟨hx, hb, hml, hown, hts⟩ hM ⟨⟨hrm.1, hrm.2.1, hrm.2.2.1.1, hrm.2.2.1.2, pay_in hts (zGoodW M.1), List.mem_cons_self⟩, hts _ M.1, hts _ M.2.1, ⟨M.2.2.1.1, M.2.2.1.2.1⟩, fun sig h => by
    have h2 := M.2.2.1.2.2
    rw [h] at h2
    exact (Option.some.inj h2).symm, hts _ hlink, hts _ M.2.2.2⟩ hp rfl hn hl.1 hst (lv_room hr) hdg hrm.2.2.2
end ZO
abbrev zRB : Room := { frames := 8, cells := 10, slots := 110, locals := 200 }
abbrev zRN : Room := { frames := 8, cells := 0, slots := 0, locals := 200 }
abbrev zRW : Room := { frames := 9, cells := 10, slots := 110, locals := 240 }

