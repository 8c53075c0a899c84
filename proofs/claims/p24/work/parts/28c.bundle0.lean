/-! the same where a call makes no cell -/
theorem zBundlei0 {l : Launch} {y : MethodName} {wz : List Cond} {rm rm' : Room} {D : va_G} {k : Nat → ClassId} {S : Type} {xs ws wc : va_W} {w1 : S → va_W} {av : List Value} {mc ms mc' ms' : Nat} {post : Int32 → S → Prop} {post' : Int32 → va_W → Prop} (hM : ∀ sz, Met l y wz rm (va_Pc av (zIn D k sz wc)) (va_Qi post (fun u => zOut D (va_A wc sz) (w1 u)) (va_A wc sz)) mc ms (va_A wc sz))
    (h1 : rm.frames ≤ rm'.frames ∧ rm.locals ≤ rm'.locals ∧ rm.cells ≤ rm'.cells ∧ rm.slots ≤ rm'.slots ∧ mc ≤ mc' ∧ ms ≤ ms') (hp : xs.Perm ws) (is : List Nat) (hC : is.map (fun i => ws[i]?) = wc.map some) (hn : va_nd is = true) (hf : ∀ u, (w1 u).map Prod.fst = wc.map Prod.fst)
    (hpost : ∀ r u, post r u → post' r (zput ws is (w1 u))) : ∀ sz, Met l y wz rm' (va_Pc av (zIn D k sz xs)) (va_Qi post' (fun u => zOut D (va_A xs sz) u) (va_A xs sz)) mc' ms' (va_A xs sz) :=
  zBundlei (wn := fun _ => []) (fun sz => by simpa only [List.append_nil] using hM sz) h1 hp is hC hn hf (fun r u h => by simpa only [List.append_nil] using hpost r u h)
theorem zBundlel0 {l : Launch} {y : MethodName} {wz : List Cond} {rm rm' : Room} {D : va_G} {k : Nat → ClassId} {S : Type} {xs ws wc : va_W} {w1 : S → va_W} {av : List Value} {mc ms mc' ms' : Nat} {post : Int64 → S → Prop} {post' : Int64 → va_W → Prop} (hM : ∀ sz, Met l y wz rm (va_Pc av (zIn D k sz wc)) (va_Ql post (fun u => zOut D (va_A wc sz) (w1 u)) (va_A wc sz)) mc ms (va_A wc sz))
    (h1 : rm.frames ≤ rm'.frames ∧ rm.locals ≤ rm'.locals ∧ rm.cells ≤ rm'.cells ∧ rm.slots ≤ rm'.slots ∧ mc ≤ mc' ∧ ms ≤ ms') (hp : xs.Perm ws) (is : List Nat) (hC : is.map (fun i => ws[i]?) = wc.map some) (hn : va_nd is = true) (hf : ∀ u, (w1 u).map Prod.fst = wc.map Prod.fst)
    (hpost : ∀ r u, post r u → post' r (zput ws is (w1 u))) : ∀ sz, Met l y wz rm' (va_Pc av (zIn D k sz xs)) (va_Ql post' (fun u => zOut D (va_A xs sz) u) (va_A xs sz)) mc' ms' (va_A xs sz) :=
  zBundlel (wn := fun _ => []) (fun sz => by simpa only [List.append_nil] using hM sz) h1 hp is hC hn hf (fun r u h => by simpa only [List.append_nil] using hpost r u h)
theorem zBundled0 {l : Launch} {y : MethodName} {wz : List Cond} {rm rm' : Room} {D : va_G} {k : Nat → ClassId} {S : Type} {xs ws wc : va_W} {w1 : S → va_W} {av : List Value} {mc ms mc' ms' : Nat} {post : UInt64 → S → Prop} {post' : UInt64 → va_W → Prop} (hM : ∀ sz, Met l y wz rm (va_Pc av (zIn D k sz wc)) (va_Qd post (fun u => zOut D (va_A wc sz) (w1 u)) (va_A wc sz)) mc ms (va_A wc sz))
    (h1 : rm.frames ≤ rm'.frames ∧ rm.locals ≤ rm'.locals ∧ rm.cells ≤ rm'.cells ∧ rm.slots ≤ rm'.slots ∧ mc ≤ mc' ∧ ms ≤ ms') (hp : xs.Perm ws) (is : List Nat) (hC : is.map (fun i => ws[i]?) = wc.map some) (hn : va_nd is = true) (hf : ∀ u, (w1 u).map Prod.fst = wc.map Prod.fst)
    (hpost : ∀ r u, post r u → post' r (zput ws is (w1 u))) : ∀ sz, Met l y wz rm' (va_Pc av (zIn D k sz xs)) (va_Qd post' (fun u => zOut D (va_A xs sz) u) (va_A xs sz)) mc' ms' (va_A xs sz) :=
  zBundled (wn := fun _ => []) (fun sz => by simpa only [List.append_nil] using hM sz) h1 hp is hC hn hf (fun r u h => by simpa only [List.append_nil] using hpost r u h)
theorem perm_n1 {k : Nat → ClassId} {f : Nat → Option PB} {i : Nat} {b : PB} (hi : i < 8) (h : f i = none) (F : va_W) : (F ++ (poolW k f ++ bdW k b)).Perm (F ++ poolW k (zU f i (some b))) := by
  have := perm_n (k := k) (b := b) hi h F
  rwa [List.append_assoc] at this
theorem perm_2n1 {k : Nat → ClassId} {f : Nat → Option PB} {i j : Nat} {b c : PB} (hi : i < 8) (hj : j < 8) (h : f i = none) (h2 : f j = some c) (F : va_W) : (F ++ (bdW k c ++ (poolR k f j ++ bdW k b))).Perm (F ++ poolW k (zU f i (some b))) := by
  have := perm_2n (k := k) (b := b) (c := c) hi hj h h2 F
  rwa [List.append_assoc, List.append_assoc] at this

