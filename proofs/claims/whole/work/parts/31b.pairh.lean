theorem isX_text {k : Nat → ClassId} {h : Nat} {B : Bd} {S : List Bd} {K : Nat → Option Bd} {T : List Int} {xs : va_W} (hx : isX k h (B, S, K, T) xs) : T.length ≤ 60 := by
  obtain ⟨b, a, n, g, sf, slf, f, hp, hr⟩ := hx
  obtain ⟨r1, r2, r3, r4, r5, r6, r7, r8, r9, r10⟩ := hr
  exact r5.len.2
