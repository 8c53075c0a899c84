/-! the state of an object: its board, its saved states (the oldest first), its slots, its text -/
abbrev Sv : Type := Bd × List Bd × (Nat → Option Bd) × List Int
def saveL (S : List Bd) (B : Bd) : List Bd := if S.length < 6 then S ++ [B] else S.tail ++ [B]
/-- a board in cells: addresses, numbers, rows -/
abbrev PB : Type := (Nat → Nat) × (Nat → Int) × (Nat → Nat → Int)
def mkN {α : Type} (d : α) (l : List α) : Nat → α := fun i => l.getD i d
def pbOk (b : PB) (B : Bd) : Prop := bdOk (b.2.1 0) (b.2.1 1) (b.2.1 2) (b.2.1 3) (b.2.1 4) (b.2.1 5) (b.2.1 6) (b.2.1 7) (b.2.1 8) (b.2.2 0) (b.2.1 9) (b.2.1 10) (b.2.1 11) (b.2.2 1) (b.2.2 2) (b.2.2 3) B
def bdW (k : Nat → ClassId) (b : PB) : va_W := [((b.1 0), .inr (0, [.ref (b.1 1), .ref (b.1 2), .int (nZ (b.2.1 0)), .int (nZ (b.2.1 1)), .int (nZ (b.2.1 2)), .int (nZ (b.2.1 3)), .int (nZ (b.2.1 4)), .int (nZ (b.2.1 5)), .int (nZ (b.2.1 6)), .int (nZ (b.2.1 7)), .int (nZ (b.2.1 8))])), ((b.1 1), .inr (3, [.ref (b.1 3), .ref (b.1 4), .ref (b.1 5)])), ((b.1 3), .inr (2, [.ref (b.1 6), .int (nZ (b.2.1 9))])), ((b.1 6), .inl (k 0, 21, .inl (zA (b.2.2 1)))), ((b.1 4), .inr (2, [.ref (b.1 7), .int (nZ (b.2.1 10))])), ((b.1 7), .inl (k 0, 21, .inl (zA (b.2.2 2)))), ((b.1 5), .inr (2, [.ref (b.1 8), .int (nZ (b.2.1 11))])), ((b.1 8), .inl (k 0, 21, .inl (zA (b.2.2 3)))), ((b.1 2), .inl (k 0, 18, .inl (zA (b.2.2 0))))]
def pw (k : Nat → ClassId) : Option PB → va_W
  | none => []
  | some b => bdW k b
def poolW (k : Nat → ClassId) (f : Nat → Option PB) : va_W := (List.range 8).flatMap (fun i => pw k (f i))
def poolR (k : Nat → ClassId) (f : Nat → Option PB) (i : Nat) : va_W := ((List.range 8).filter (fun j => decide (j ≠ i))).flatMap (fun i => pw k (f i))
def poolQ (k : Nat → ClassId) (f : Nat → Option PB) (i j : Nat) : va_W := (((List.range 8).filter (fun j => decide (j ≠ i))).filter (fun t => decide (t ≠ j))).flatMap (fun i => pw k (f i))
theorem flat_focus {α : Type} (g : Nat → List α) : ∀ (L : List Nat) (i : Nat), L.Nodup → i ∈ L → (L.flatMap g).Perm (g i ++ (L.filter (fun j => decide (j ≠ i))).flatMap g)
  | [], _, _, h => by cases h
  | x :: L, i, hn, h => by
    obtain ⟨hx, hn2⟩ := List.nodup_cons.mp hn
    by_cases e : x = i
    · subst e
      have hf : (x :: L).filter (fun j => decide (j ≠ x)) = L := by
        rw [List.filter_cons_of_neg (by simp)]
        exact List.filter_eq_self.mpr (fun y hy => by simpa using fun q : y = x => hx (q ▸ hy))
      rw [hf, List.flatMap_cons]
    · have hi : i ∈ L := by
        rcases List.mem_cons.mp h with q | q
        · exact absurd q.symm e
        · exact q
      rw [List.filter_cons_of_pos (by simpa using e), List.flatMap_cons, List.flatMap_cons]
      refine (List.Perm.append_left (g x) (flat_focus g L i hn2 hi)).trans ?_
      rw [← List.append_assoc, ← List.append_assoc]
      exact List.Perm.append_right _ List.perm_append_comm
theorem flat_cong {α : Type} {f g : Nat → List α} : ∀ {L : List Nat}, (∀ i ∈ L, f i = g i) → L.flatMap f = L.flatMap g
  | [], _ => rfl
  | x :: L, h => by rw [List.flatMap_cons, List.flatMap_cons, h x List.mem_cons_self, flat_cong (fun i hi => h i (List.mem_cons_of_mem _ hi))]
theorem pool_at (k : Nat → ClassId) (f : Nat → Option PB) {i : Nat} (hi : i < 8) : (poolW k f).Perm (pw k (f i) ++ poolR k f i) := flat_focus (fun i => pw k (f i)) (List.range 8) i List.nodup_range (List.mem_range.mpr hi)
theorem pool_at2 (k : Nat → ClassId) (f : Nat → Option PB) {i j : Nat} (hj : j < 8) (hij : j ≠ i) : (poolR k f i).Perm (pw k (f j) ++ poolQ k f i j) :=
  flat_focus (fun i => pw k (f i)) _ j (List.Pairwise.sublist List.filter_sublist List.nodup_range) (List.mem_filter.mpr ⟨List.mem_range.mpr hj, by simpa using hij⟩)
theorem poolR_set (k : Nat → ClassId) (f : Nat → Option PB) (i : Nat) (v : Option PB) : poolR k (zU f i v) i = poolR k f i :=
  flat_cong (fun j hj => by
    have : j ≠ i := by simpa using (List.mem_filter.mp hj).2
    rw [zU_ne _ _ this])
theorem pool_some {k : Nat → ClassId} {f : Nat → Option PB} {i : Nat} {b : PB} (hi : i < 8) (h : f i = some b) : (poolW k f).Perm (bdW k b ++ poolR k f i) := by
  have := pool_at k f hi
  rw [h] at this
  exact this
theorem pool_none {k : Nat → ClassId} {f : Nat → Option PB} {i : Nat} (hi : i < 8) (h : f i = none) : (poolW k f).Perm (poolR k f i) := by
  have := pool_at k f hi
  rw [h] at this
  exact this
theorem pool_set {k : Nat → ClassId} {f : Nat → Option PB} {i : Nat} {b : PB} (hi : i < 8) : (poolW k (zU f i (some b))).Perm (bdW k b ++ poolR k f i) := by
  have := pool_some (k := k) (f := zU f i (some b)) (i := i) (b := b) hi (zU_same _ _ _)
  rw [poolR_set] at this
  exact this
theorem perm_s {k : Nat → ClassId} {f : Nat → Option PB} {i : Nat} {b : PB} (hi : i < 8) (F : va_W) : (F ++ (bdW k b ++ poolR k f i)).Perm (F ++ poolW k (zU f i (some b))) := List.Perm.append_left F (pool_set hi).symm
theorem perm_n {k : Nat → ClassId} {f : Nat → Option PB} {i : Nat} {b : PB} (hi : i < 8) (h : f i = none) (F : va_W) : ((F ++ poolW k f) ++ bdW k b).Perm (F ++ poolW k (zU f i (some b))) := by
  rw [List.append_assoc]
  refine List.Perm.append_left F ?_
  exact ((List.Perm.append_right _ (pool_none hi h)).trans List.perm_append_comm).trans (pool_set hi).symm
/-- two blocks out of the pool -/
theorem perm_2 {k : Nat → ClassId} {f : Nat → Option PB} {i j : Nat} {b c : PB} (hi : i < 8) (hj : j < 8) (hij : j ≠ i) (h : f i = some b) (h2 : f j = some c) (F : va_W) : (F ++ poolW k f).Perm (F ++ (bdW k b ++ (bdW k c ++ poolQ k f i j))) := by
  refine List.Perm.append_left F ((pool_some hi h).trans (List.Perm.append_left _ ?_))
  have := pool_at2 k f hj hij
  rw [h2] at this
  exact this
theorem perm_2s {k : Nat → ClassId} {f : Nat → Option PB} {i j : Nat} {b c : PB} (hi : i < 8) (hj : j < 8) (hij : j ≠ i) (h2 : f j = some c) (F : va_W) : (F ++ (bdW k b ++ (bdW k c ++ poolQ k f i j))).Perm (F ++ poolW k (zU f i (some b))) := by
  refine List.Perm.append_left F ((List.Perm.append_left _ ?_).trans (pool_set hi).symm)
  have := pool_at2 k f hj hij
  rw [h2] at this
  exact this.symm
/-- a block of the pool that a call reads, and another one that it makes -/
theorem perm_2n {k : Nat → ClassId} {f : Nat → Option PB} {i j : Nat} {b c : PB} (hi : i < 8) (hj : j < 8) (h : f i = none) (h2 : f j = some c) (F : va_W) : ((F ++ (bdW k c ++ poolR k f j)) ++ bdW k b).Perm (F ++ poolW k (zU f i (some b))) :=
  (List.Perm.append_right _ (List.Perm.append_left F (pool_some hj h2).symm)).trans (perm_n hi h F)
/-- the fixed cells of an object -/
def fixW (k : Nat → ClassId) (h : Nat) (b : PB) (a : Nat → Nat) (n : Nat → Int) (g : Nat → Nat → Int) (sf slf : Nat → Option Nat) : va_W := [(h, .inr (6, [.ref (b.1 0), .ref (a 0), .ref (a 1), .ref (a 2), .ref (a 3), .ref (a 4), .ref (a 5)])), ((b.1 0), .inr (0, [.ref (b.1 1), .ref (b.1 2), .int (nZ (b.2.1 0)), .int (nZ (b.2.1 1)), .int (nZ (b.2.1 2)), .int (nZ (b.2.1 3)), .int (nZ (b.2.1 4)), .int (nZ (b.2.1 5)), .int (nZ (b.2.1 6)), .int (nZ (b.2.1 7)), .int (nZ (b.2.1 8))])), ((b.1 1), .inr (3, [.ref (b.1 3), .ref (b.1 4), .ref (b.1 5)])), ((b.1 3), .inr (2, [.ref (b.1 6), .int (nZ (b.2.1 9))])), ((b.1 6), .inl (k 0, 21, .inl (zA (b.2.2 1)))), ((b.1 4), .inr (2, [.ref (b.1 7), .int (nZ (b.2.1 10))])), ((b.1 7), .inl (k 0, 21, .inl (zA (b.2.2 2)))), ((b.1 5), .inr (2, [.ref (b.1 8), .int (nZ (b.2.1 11))])), ((b.1 8), .inl (k 0, 21, .inl (zA (b.2.2 3)))), ((b.1 2), .inl (k 0, 18, .inl (zA (b.2.2 0)))), ((a 1), .inr (4, [.ref (a 6), .int (nZ (n 0)), .int (nZ (n 1))])), ((a 6), .inl (k 4, 6, .inr (.inr (.inr (.inr sf))))), ((a 2), .inr (1, [.ref (a 7), .int (nZ (n 2))])), ((a 7), .inl (k 0, 60, .inl (zA (g 0)))), ((a 3), .inr (5, [.ref (a 8), .int (nZ (n 3)), .int (nZ (n 4)), .int (nZ (n 5)), .int (nZ (n 6)), .int (nZ (n 7)), .int (nZ (n 8)), .int (nZ (n 9))])), ((a 8), .inr (2, [.ref (a 9), .int (nZ (n 10))])), ((a 9), .inl (k 0, 21, .inl (zA (g 1)))), ((a 4), .inr (3, [.ref (a 10), .ref (a 11), .ref (a 12)])), ((a 10), .inr (2, [.ref (a 13), .int (nZ (n 11))])), ((a 13), .inl (k 0, 21, .inl (zA (g 2)))), ((a 11), .inr (2, [.ref (a 14), .int (nZ (n 12))])), ((a 14), .inl (k 0, 21, .inl (zA (g 3)))), ((a 12), .inr (2, [.ref (a 15), .int (nZ (n 13))])), ((a 15), .inl (k 0, 21, .inl (zA (g 4)))), ((a 5), .inl (k 0, 9, .inl (zA (g 5)))), ((a 0), .inl (k 4, 2, .inr (.inr (.inr (.inr slf)))))]
def relX (b : PB) (n : Nat → Int) (g : Nat → Nat → Int) (sf slf : Nat → Option Nat) (f : Nat → Option PB) (σ : Sv) : Prop :=
  pbOk b σ.1 ∧ (0 ≤ n 0 ∧ n 0 ≤ 5) ∧ n 1 = (σ.2.1.length : Int) ∧ σ.2.1.length ≤ 6 ∧ textOk (g 0) (n 2) σ.2.2.2 ∧ (∀ i : Nat, i < 6 → sf i = (f i).map (fun b => b.1 0)) ∧ (∀ i : Nat, i < 2 → slf i = (f (6 + i)).map (fun b => b.1 0)) ∧
  (∀ (q : Nat) (B : Bd), σ.2.1[q]? = some B → ∃ b, f ((n 0 + q) % 6).toNat = some b ∧ pbOk b B) ∧ (∀ i : Nat, i < 2 → σ.2.2.1 i = none → f (6 + i) = none) ∧ (∀ (i : Nat) (K : Bd), i < 2 → σ.2.2.1 i = some K → ∃ b, f (6 + i) = some b ∧ pbOk b K)
def isX (k : Nat → ClassId) (h : Nat) (σ : Sv) (xs : va_W) : Prop := ∃ (b : PB) (a : Nat → Nat) (n : Nat → Int) (g : Nat → Nat → Int) (sf slf : Nat → Option Nat) (f : Nat → Option PB), xs.Perm (fixW k h b a n g sf slf ++ poolW k f) ∧ relX b n g sf slf f σ
theorem isX.recv {k : Nat → ClassId} {h : Nat} {σ : Sv} {xs : va_W} (hx : isX k h σ xs) : ∃ fs, (h, Sum.inr (6, fs)) ∈ xs := by
  obtain ⟨b, a, n, g, sf, slf, f, hp, -⟩ := hx
  exact ⟨_, hp.mem_iff.mpr (List.mem_append_left _ List.mem_cons_self)⟩
def goodS (σ : Sv) : Prop := bdGood σ.1 ∧ (∀ B ∈ σ.2.1, bdGood B) ∧ (∀ (i : Nat) (K : Bd), i < 2 → σ.2.2.1 i = some K → bdGood K) ∧ σ.2.1.length ≤ 6
theorem saveL_len {S : List Bd} {B : Bd} (h : S.length ≤ 6) : (saveL S B).length = if S.length < 6 then S.length + 1 else 6 := by
  unfold saveL
  by_cases q : S.length < 6
  · rw [if_pos q, if_pos q]
    simp
  · rw [if_neg q, if_neg q]
    simp
    omega
theorem saveL_mem {S : List Bd} {B C : Bd} (h : C ∈ saveL S B) : C ∈ S ∨ C = B := by
  unfold saveL at h
  by_cases q : S.length < 6
  · rw [if_pos q] at h
    rcases List.mem_append.mp h with h | h
    · exact Or.inl h
    · exact Or.inr (List.mem_singleton.mp h)
  · rw [if_neg q] at h
    rcases List.mem_append.mp h with h | h
    · exact Or.inl (List.mem_of_mem_tail h)
    · exact Or.inr (List.mem_singleton.mp h)
theorem saveL_at {S : List Bd} {B C : Bd} {q : Nat} (hS : S.length ≤ 6) (h : (saveL S B)[q]? = some C) : (S.length < 6 ∧ ((q < S.length ∧ S[q]? = some C) ∨ (q = S.length ∧ C = B))) ∨ (S.length = 6 ∧ ((q < 5 ∧ S[q + 1]? = some C) ∨ (q = 5 ∧ C = B))) := by
  unfold saveL at h
  by_cases c : S.length < 6
  · rw [if_pos c] at h
    refine Or.inl ⟨c, ?_⟩
    by_cases c2 : q < S.length
    · rw [List.getElem?_append_left c2] at h
      exact Or.inl ⟨c2, h⟩
    · rw [List.getElem?_append_right (by omega)] at h
      obtain ⟨h1, h2⟩ := List.getElem?_eq_some_iff.mp h
      simp only [List.length_cons, List.length_nil] at h1
      refine Or.inr ⟨by omega, ?_⟩
      have : q - S.length = 0 := by omega
      simp only [this, List.getElem_cons_zero] at h2
      exact h2.symm
  · rw [if_neg c] at h
    have h6 : S.length = 6 := by omega
    have ht : S.tail.length = 5 := by rw [List.length_tail, h6]
    refine Or.inr ⟨h6, ?_⟩
    by_cases c2 : q < 5
    · rw [List.getElem?_append_left (by omega), List.getElem?_tail] at h
      exact Or.inl ⟨c2, h⟩
    · rw [List.getElem?_append_right (by omega)] at h
      obtain ⟨h1, h2⟩ := List.getElem?_eq_some_iff.mp h
      simp only [List.length_cons, List.length_nil] at h1
      refine Or.inr ⟨by omega, ?_⟩
      have : q - S.tail.length = 0 := by omega
      simp only [this, List.getElem_cons_zero] at h2
      exact h2.symm
/-- a state saved: the ring goes on -/
theorem rel_save {b b' : PB} {n n' : Nat → Int} {g g' : Nat → Nat → Int} {sf sf' slf : Nat → Option Nat} {f : Nat → Option PB} {B B' : Bd} {S : List Bd} {K : Nat → Option Bd} {T T' : List Int} (hr : relX b n g sf slf f (B, S, K, T)) {pt : PB} {j : Nat} (hj : j = ((n 0 + n 1) % 6).toNat) (hp : pbOk pt B)
    (h0 : n' 0 = if n 1 < 6 then n 0 else (n 0 + 1) % 6) (h1 : n' 1 = if n 1 < 6 then n 1 + 1 else 6) (hb : pbOk b' B') (hT : textOk (g' 0) (n' 2) T') (hsf : ∀ i : Nat, i < 6 → sf' i = zU sf j (some (pt.1 0)) i) : relX b' n' g' sf' slf (zU f j (some pt)) (B', saveL S B, K, T') := by
  obtain ⟨r1, r2, r3, r4, r5, r6, r7, r8, r9, r10⟩ := hr
  have r3 : n 1 = (S.length : Int) := r3
  have r4 : S.length ≤ 6 := r4
  have hj6 : j < 6 := by omega
  have hl := saveL_len (B := B) r4
  refine ⟨hb, ?_, ?_, ?_, hT, fun i hi => ?_, fun i hi => ?_, fun q C hq => ?_, fun i hi hk => ?_, fun i C hi hk => ?_⟩
  · rw [h0]
    split <;> omega
  · rw [h1]
    show _ = ((saveL S B).length : Int)
    rw [hl]
    split <;> split <;> omega
  · show (saveL S B).length ≤ 6
    rw [hl]
    split <;> omega
  · rw [hsf i hi]
    by_cases e : i = j
    · rw [e, zU_same, zU_same]
      rfl
    · rw [zU_ne _ _ e, zU_ne _ _ e]
      exact r6 i hi
  · rw [zU_ne _ _ (by omega)]
    exact r7 i hi
  · rcases saveL_at r4 hq with ⟨c, ⟨c1, c2⟩ | ⟨c1, c2⟩⟩ | ⟨c, ⟨c1, c2⟩ | ⟨c1, c2⟩⟩
    · rw [h0, if_pos (by omega), zU_ne _ _ (by omega)]
      exact r8 q C c2
    · subst c2
      rw [h0, if_pos (by omega), show ((n 0 + (q : Int)) % 6).toNat = j by omega, zU_same]
      exact ⟨pt, rfl, hp⟩
    · rw [h0, if_neg (by omega), zU_ne _ _ (by omega)]
      have := r8 (q + 1) C c2
      rw [show (((n 0 + 1) % 6 + (q : Int)) % 6).toNat = ((n 0 + ((q + 1 : Nat) : Int)) % 6).toNat by omega]
      exact this
    · subst c2
      rw [h0, if_neg (by omega), show (((n 0 + 1) % 6 + (q : Int)) % 6).toNat = j by omega, zU_same]
      exact ⟨pt, rfl, hp⟩
  · rw [zU_ne _ _ (by omega)]
    exact r9 i hi hk
  · rw [zU_ne _ _ (by omega)]
    exact r10 i C hi hk
/-- nothing but the board, the text and the rows of work changed -/
theorem rel_same {b b' : PB} {n n' : Nat → Int} {g g' : Nat → Nat → Int} {sf slf : Nat → Option Nat} {f : Nat → Option PB} {B B' : Bd} {S : List Bd} {K : Nat → Option Bd} {T T' : List Int} (hr : relX b n g sf slf f (B, S, K, T)) (h0 : n' 0 = n 0) (h1 : n' 1 = n 1) (hb : pbOk b' B') (hT : textOk (g' 0) (n' 2) T') : relX b' n' g' sf slf f (B', S, K, T') := by
  obtain ⟨r1, r2, r3, r4, r5, r6, r7, r8, r9, r10⟩ := hr
  exact ⟨hb, by rw [h0]; exact r2, by rw [h1]; exact r3, r4, hT, r6, r7, by rw [h0]; exact r8, r9, r10⟩
/-- a snapshot taken -/
theorem rel_keep {b b' : PB} {n n' : Nat → Int} {g g' : Nat → Nat → Int} {sf slf slf' : Nat → Option Nat} {f : Nat → Option PB} {B B' C : Bd} {S : List Bd} {K : Nat → Option Bd} {T T' : List Int} (hr : relX b n g sf slf f (B, S, K, T)) {x : Nat} (hx : x < 2) {pk : PB} (hk : pbOk pk C) (h0 : n' 0 = n 0) (h1 : n' 1 = n 1) (hb : pbOk b' B') (hT : textOk (g' 0) (n' 2) T') (hsl : ∀ i : Nat, i < 2 → slf' i = zU slf x (some (pk.1 0)) i) : relX b' n' g' sf slf' (zU f (6 + x) (some pk)) (B', S, zU K x (some C), T') := by
  obtain ⟨r1, r2, r3, r4, r5, r6, r7, r8, r9, r10⟩ := hr
  refine ⟨hb, by rw [h0]; exact r2, by rw [h1]; exact r3, r4, hT, fun i hi => ?_, fun i hi => ?_, fun q E hq => ?_, fun i hi hn => ?_, fun i E hi hs => ?_⟩
  · rw [zU_ne _ _ (by omega)]
    exact r6 i hi
  · rw [hsl i hi]
    by_cases e : i = x
    · rw [e, zU_same, zU_same]
      rfl
    · rw [zU_ne _ _ e, zU_ne _ _ (by omega)]
      exact r7 i hi
  · rw [h0, zU_ne _ _ (by omega)]
    exact r8 q E hq
  · by_cases e : i = x
    · subst e
      have hn : zU K i (some C) i = none := hn
      rw [zU_same] at hn
      cases hn
    · have hn : zU K x (some C) i = none := hn
      rw [zU_ne _ _ e] at hn
      rw [zU_ne _ _ (by omega)]
      exact r9 i hi hn
  · by_cases e : i = x
    · subst e
      have hs : zU K i (some C) i = some E := hs
      rw [zU_same] at hs
      cases hs
      exact ⟨pk, zU_same _ _ _, hk⟩
    · have hs : zU K x (some C) i = some E := hs
      rw [zU_ne _ _ e] at hs
      rw [zU_ne _ _ (by omega)]
      exact r10 i E hi hs
/-- the latest saved state dropped -/
theorem rel_undo {b b' : PB} {n n' : Nat → Int} {g g' : Nat → Nat → Int} {sf slf : Nat → Option Nat} {f : Nat → Option PB} {B B' : Bd} {S : List Bd} {K : Nat → Option Bd} {T T' : List Int} (hr : relX b n g sf slf f (B, S, K, T)) (hS : S ≠ []) (h0 : n' 0 = n 0) (h1 : n' 1 = n 1 - 1) (hb : pbOk b' B') (hT : textOk (g' 0) (n' 2) T') : relX b' n' g' sf slf f (B', S.dropLast, K, T') := by
  obtain ⟨r1, r2, r3, r4, r5, r6, r7, r8, r9, r10⟩ := hr
  have r3 : n 1 = (S.length : Int) := r3
  have r4 : S.length ≤ 6 := r4
  have hl : S.dropLast.length = S.length - 1 := List.length_dropLast
  have hp : 0 < S.length := List.length_pos_iff.mpr hS
  refine ⟨hb, by rw [h0]; exact r2, ?_, ?_, hT, r6, r7, fun q E hq => ?_, r9, r10⟩
  · show _ = (S.dropLast.length : Int)
    rw [h1, hl]
    omega
  · show S.dropLast.length ≤ 6
    omega
  · have hq : S.dropLast[q]? = some E := hq
    rw [List.getElem?_dropLast] at hq
    rw [h0]
    split at hq
    · exact r8 q E hq
    · cases hq

