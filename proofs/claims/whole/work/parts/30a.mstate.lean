/-! the state of the narrow game's object -/
def relM (s kp bf : Nat → Int) (vsv vty : Int) (σ : Sv) : Prop :=
  blkOk s 0 σ.1 ∧ vsv = (σ.2.1.length : Int) ∧ σ.2.1.length ≤ 6 ∧ (∀ (q : Nat) (B : Bd), σ.2.1[q]? = some B → blkOk s (90 * (q + 1)) B) ∧
  (∀ i : Nat, i < 2 → σ.2.2.1 i = none → kp i = 0) ∧ (∀ (i : Nat) (C : Bd), i < 2 → σ.2.2.1 i = some C → kp i = 1 ∧ blkOk s (90 * (7 + i)) C) ∧ textOk bf vty σ.2.2.2
def mW (k : Nat → ClassId) (mm ms mk mb : Nat) (vsv vty vth ven vsp vla vpc : Int) (s kp bf : Nat → Int) : va_W := [(mm, .inr (7, [.ref ms, .int (nZ vsv), .ref mk, .ref mb, .int (nZ vty), .int (nZ vth), .int (nZ ven), .int (nZ vsp), .int (nZ vla), .int (nZ vpc)])), (ms, .inl (k 0, 900, .inl (zA s))), (mk, .inl (k 1, 2, .inl (zA kp))), (mb, .inl (k 2, 60, .inl (zA bf)))]
def isM (k : Nat → ClassId) (mm : Nat) (t : Int) (σ : Sv) (xs : va_W) : Prop := ∃ (ms mk mb : Nat) (vsv vty ven vsp vla vpc : Int) (s kp bf : Nat → Int), xs = mW k mm ms mk mb vsv vty t ven vsp vla vpc s kp bf ∧ relM s kp bf vsv vty σ
def isMg (k : Nat → ClassId) (mm : Nat) (t : Int) (σ : Sv) (xs : va_W) : Prop := goodS σ ∧ isM k mm t σ xs
theorem isM.recv {k : Nat → ClassId} {mm : Nat} {t : Int} {σ : Sv} {xs : va_W} (hx : isM k mm t σ xs) : ∃ fs, (mm, Sum.inr (7, fs)) ∈ xs := by
  obtain ⟨ms, mk, mb, vsv, vty, ven, vsp, vla, vpc, s, kp, bf, rfl, -⟩ := hx
  exact ⟨_, List.mem_cons_self⟩
section RM
variable {s s2 kp bf bf2 : Nat → Int} {vsv sv2 vty vty2 : Int} {B B' C : Bd} {S : List Bd} {K : Nat → Option Bd} {T T' : List Int}
theorem relM.kp0 (hr : relM s kp bf vsv vty (B, S, K, T)) {i : Nat} (hi : i < 2) : kp i = kS ((K i).map (fun _ => 0)) := by
  obtain ⟨r1, r2, r3, r4, r5, r6, r7⟩ := hr
  cases hk : K i with
  | none => rw [r5 i hi hk]; rfl
  | some C => rw [(r6 i C hi hk).1]; rfl
theorem relM.scr (hr : relM s kp bf vsv vty (B, S, K, T)) (hf : frOk s s2 810) (hT : textOk bf2 vty2 T') : relM s2 kp bf2 vsv vty2 (B, S, K, T') := by
  obtain ⟨r1, r2, r3, r4, r5, r6, r7⟩ := hr
  have r3 : S.length ≤ 6 := r3
  refine ⟨r1.other hf (by omega), r2, r3, fun q E hq => ?_, r5, fun i E hi hk => ⟨(r6 i E hi hk).1, (r6 i E hi hk).2.other hf (by omega)⟩, hT⟩
  have hq : S[q]? = some E := hq
  have := (List.getElem?_eq_some_iff.mp hq).1
  exact (r4 q E hq).other hf (by omega)
theorem relM.save (hr : relM s kp bf vsv vty (B, S, K, T)) (hB : blkOk s2 0 B') (hv : ∀ k : Nat, 90 ≤ k → k < 810 → s2 k = svS s S.length k) (hsv : sv2 = (↑(if S.length < 6 then S.length + 1 else 6) : Int)) (hT : textOk bf2 vty2 T') : relM s2 kp bf2 sv2 vty2 (B', saveL S B, K, T') := by
  obtain ⟨r1, r2, r3, r4, r5, r6, r7⟩ := hr
  have r3 : S.length ≤ 6 := r3
  have r1 : blkOk s 0 B := r1
  have hl := saveL_len (B := B) r3
  refine ⟨hB, ?_, ?_, fun q E hq => ?_, r5, fun i E hi hk => ⟨(r6 i E hi hk).1, (r6 i E hi hk).2.frame (fun k h1 h2 => ?_)⟩, hT⟩
  · show sv2 = ((saveL S B).length : Int)
    rw [hsv, hl]
  · show (saveL S B).length ≤ 6
    rw [hl]
    split <;> omega
  · rcases saveL_at r3 hq with ⟨c, ⟨c1, c2⟩ | ⟨c1, c2⟩⟩ | ⟨c, ⟨c1, c2⟩ | ⟨c1, c2⟩⟩
    · refine (r4 q E c2).frame (fun k h1 h2 => ?_)
      rw [hv k (by omega) (by omega)]
      unfold svS
      rw [if_pos c, if_neg (by omega)]
    · subst c2
      refine r1.move (fun k hk => ?_)
      rw [hv _ (by omega) (by omega)]
      unfold svS
      rw [if_pos c, if_pos (by omega)]
      exact congrArg s (by omega)
    · refine (r4 (q + 1) E c2).move (fun k hk => ?_)
      rw [hv _ (by omega) (by omega)]
      unfold svS
      rw [if_neg (by omega), if_pos (by omega)]
      exact congrArg s (by omega)
    · subst c2
      refine r1.move (fun k hk => ?_)
      rw [hv _ (by omega) (by omega)]
      unfold svS
      rw [if_neg (by omega), if_neg (by omega), if_pos (by omega)]
      exact congrArg s (by omega)
  · rw [hv k (by omega) (by omega)]
    unfold svS
    by_cases c : S.length < 6
    · rw [if_pos c, if_neg (by omega)]
    · rw [if_neg c, if_neg (by omega), if_neg (by omega)]
theorem relM.keep (hr : relM s kp bf vsv vty (B, S, K, T)) {i : Nat} (hi : i ≤ 1) (hc : ∀ k : Nat, s2 k = cpS s 0 (7 + i) k) : relM s2 (zU kp i 1) bf vsv vty (B, S, zU K i (some B), T) := by
  obtain ⟨r1, r2, r3, r4, r5, r6, r7⟩ := hr
  have r3 : S.length ≤ 6 := r3
  have r1 : blkOk s 0 B := r1
  have hn : ∀ k : Nat, k < 90 * (7 + i) ∨ 90 * (7 + i) + 90 ≤ k → s2 k = s k := fun k hk => by
    rw [hc]
    unfold cpS
    rw [if_neg (by omega)]
  refine ⟨r1.frame (fun k h1 h2 => hn k (by omega)), r2, r3, fun q E hq => ?_, fun q hq hk => ?_, fun q E hq hk => ?_, r7⟩
  · have hq : S[q]? = some E := hq
    have := (List.getElem?_eq_some_iff.mp hq).1
    exact (r4 q E hq).frame (fun k h1 h2 => hn k (by omega))
  · have hk : zU K i (some B) q = none := hk
    by_cases e : q = i
    · subst e
      rw [zU_same] at hk
      cases hk
    · rw [zU_ne _ _ e] at hk
      rw [zU_ne _ _ e]
      exact r5 q hq hk
  · have hk : zU K i (some B) q = some E := hk
    by_cases e : q = i
    · subst e
      rw [zU_same] at hk
      cases hk
      refine ⟨zU_same _ _ _, r1.move (fun k hk => ?_)⟩
      rw [hc]
      unfold cpS
      rw [if_pos (by omega)]
      exact congrArg s (by omega)
    · rw [zU_ne _ _ e] at hk
      rw [zU_ne _ _ e]
      exact ⟨(r6 q E hq hk).1, (r6 q E hq hk).2.frame (fun k h1 h2 => hn k (by omega))⟩
theorem relM.undo (hr : relM s kp bf vsv vty (B, S, K, T)) (hS : S ≠ []) (hB : blkOk s2 0 C) (hf : frOk s s2 0) : relM s2 kp bf (vsv - 1) vty (C, S.dropLast, K, T) := by
  obtain ⟨r1, r2, r3, r4, r5, r6, r7⟩ := hr
  have r2 : vsv = (S.length : Int) := r2
  have r3 : S.length ≤ 6 := r3
  have hp : 0 < S.length := List.length_pos_iff.mpr hS
  have hl : S.dropLast.length = S.length - 1 := List.length_dropLast
  refine ⟨hB, ?_, ?_, fun q E hq => ?_, r5, fun i E hi hk => ⟨(r6 i E hi hk).1, (r6 i E hi hk).2.other hf (by omega)⟩, r7⟩
  · show vsv - 1 = (S.dropLast.length : Int)
    rw [hl]
    omega
  · show S.dropLast.length ≤ 6
    omega
  · have hq : S.dropLast[q]? = some E := hq
    rw [List.getElem?_dropLast] at hq
    split at hq
    · exact (r4 q E hq).other hf (by omega)
    · cases hq
end RM
