/-! the digest: both sides' sums are one -/
theorem bd_count {nc pl pu wi tu fo tb nu rf : Int} {ch : Nat → Int} {n0 n1 n2 : Int} {g0 g1 g2 : Nat → Int} {B : Bd} (h : bdOk nc pl pu wi tu fo tb nu rf ch n0 n1 n2 g0 g1 g2 B) {size w : Int} : countS pl pu ((((B.2 0).length : Int) + ((B.2 1).length : Int)) + ((B.2 2).length : Int)) ((cleanAllS (B.2 0) + cleanAllS (B.2 1)) + cleanAllS (B.2 2)) (chSum ch 0) (chSum ch 1) wi tu fo tb nu rf size w = countB B size w := by
  obtain ⟨⟨a0, a1, a2, a3, a4, a5, a6, a7, a8⟩, hch, h0, h1, h2⟩ := h
  unfold countB
  rw [chSum_cong hch (o := 0) (by omega), chSum_cong hch (o := 1) (by omega), a1, a2, a3, a4, a5, a6, a7, a8]
  rfl
theorem foldH_cong {f g : Nat → Int} {h : Int} : ∀ {n : Nat}, (∀ i, i < n → f i = g i) → foldH f h n = foldH g h n
  | 0, _ => rfl
  | n + 1, e => by rw [foldH, foldH, foldH_cong (fun i hi => e i (by omega)), e n (by omega)]
theorem bd_bed {nc pl pu wi tu fo tb nu rf : Int} {ch : Nat → Int} {n0 n1 n2 : Int} {g0 g1 g2 : Nat → Int} {B : Bd} (h : bdOk nc pl pu wi tu fo tb nu rf ch n0 n1 n2 g0 g1 g2 B) (hp : 0 ≤ pl ∧ pl ≤ 1) {hs bed : Int} (hb : 0 ≤ bed ∧ bed < 9) : bedH ch pl nc (B.2 0) (B.2 1) (B.2 2) hs bed = bedB B hs bed := by
  obtain ⟨⟨a0, a1, a2, a3, a4, a5, a6, a7, a8⟩, hch, h0, h1, h2⟩ := h
  have hc : ∀ i : Nat, i < 18 → ch i = chB B i := hch
  subst a0; subst a1
  unfold bedB bedH
  rw [foldH_cong (n := 5) (fun i _ => bedOfS_c hc hp hb)]
theorem digL_of {nc pl pu wi tu fo tb nu rf : Int} {ch : Nat → Int} {n0 n1 n2 : Int} {g0 g1 g2 : Nat → Int} {B : Bd} (h : bdOk nc pl pu wi tu fo tb nu rf ch n0 n1 n2 g0 g1 g2 B) {size hh : Int} (hq : hh = foldH (fun w => countB B size w) 3637 13) :
    laneH (laneH (laneH ((31 * hh) + zw32 nc) nc (B.2 0) (((cleanAllS (B.2 0) + cleanAllS (B.2 1)) + cleanAllS (B.2 2)) - cleanAllS (B.2 0))) nc (B.2 1) (((cleanAllS (B.2 0) + cleanAllS (B.2 1)) + cleanAllS (B.2 2)) - cleanAllS (B.2 1))) nc (B.2 2) (((cleanAllS (B.2 0) + cleanAllS (B.2 1)) + cleanAllS (B.2 2)) - cleanAllS (B.2 2)) = bedsH (bedB B) (digL B size) 0 := by
  have a0 := h.1.1
  subst a0; subst hq
  rfl
theorem digL_of7 {z : Int} {B : Bd} (hz : z = B.1 0) {size hh : Int} (hq : hh = foldH (fun w => countB B size w) 3637 13) : laneB B (laneB B (laneB B ((31 * hh) + zw32 z) 0) 1) 2 = bedsH (bedB B) (digL B size) 0 := by
  subst hz; subst hq
  rfl
def kS : Option Nat → Int
  | none => 0
  | some _ => 1
theorem kS_n {o : Option Nat} (h : o = none) : (0 : Int) = kS o := by subst h; rfl
theorem kS_s {o : Option Nat} {a : Nat} (h : o = some a) : (1 : Int) = kS o := by subst h; rfl
theorem dig_end {nc pl pu wi tu fo tb nu rf : Int} {ch : Nat → Int} {n0 n1 n2 : Int} {g0 g1 g2 : Nat → Int} {B : Bd} (h : bdOk nc pl pu wi tu fo tb nu rf ch n0 n1 n2 g0 g1 g2 B) (hp : 0 ≤ pl ∧ pl ≤ 1) {size h3 k0 k1 z0 z1 : Int} {T : List Int} (hq : h3 = bedsH (bedB B) (digL B size) 9) (e0 : z0 = k0) (e1 : z1 = k1) :
    textH ((31 * ((31 * ((31 * ((31 * h3) + zw32 (bestS ch pl nc (B.2 0) (B.2 1) (B.2 2)))) + bitsB B)) + z0)) + z1) T = digB B size k0 k1 T := by
  have hc : ∀ i : Nat, i < 18 → ch i = chB B i := h.2.1
  have e : bestS ch pl nc (B.2 0) (B.2 1) (B.2 2) = bestB B := by
    rw [← best_B, bestS_c hc hp, h.1.1, h.1.2.1]
  unfold digB hm
  rw [e, e0, e1, ← hq]
theorem dig7_0 {h3 best bits k0 k1 z0 z1 n : Int} {T : List Int} (e0 : z0 = k0) (e1 : z1 = k1) (hn : n = (T.length : Int)) : textH (31 * (31 * (31 * hm h3 best + bits) + k0) + k1) T = hashL (31 * (31 * (31 * (31 * (31 * h3 + zw32 best) + bits) + z0) + z1) + zw32 n) (T.drop 0) := by
  subst e0; subst e1; subst hn
  rfl

