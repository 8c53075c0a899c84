theorem mv_X7_puts : zMV yX7_puts cX7_puts 6 (some .boolean) 1 := ⟨zw_454, zw_5, ⟨by decide +kernel, by decide +kernel, by decide +kernel⟩, zw_452, zw_453⟩
set_option maxHeartbeats 4000000 in
set_option maxRecDepth 100000 in
theorem c_X7_puts (l : Launch) (D : va_G) (k : Nat → ClassId) (sz : Nat) (mm ms mk mb : Nat) (vsv vty vth ven vsp : Int) (s : Nat → Int) (b j : Nat) (B : Bd) (pl : Int) (hBk : blkOk s b B) (hbb : b ≤ 810) (hjj : j < 3) (hCh : chainS (-5) (B.2 j)) (hpp : 0 ≤ pl ∧ pl ≤ 99) : Met l yX7_puts (zW yX7_puts cX7_puts 6 (some .boolean)) ({ frames := 1, cells := 0, slots := 0, locals := 21 } : Room) (va_Pc [.ref mm, .int (nZ ↑b)] (zIn D k sz [(mm, .inr (7, [.ref ms, .int (nZ vsv), .ref mk, .ref mb, .int (nZ vty), .int (nZ vth), .int (nZ ven), .int (nZ vsp), .int (nZ ↑j), .int (nZ pl)])), (ms, .inl (k 0, 900, .inl (zA s)))])) (va_Qi (fun (rz : Int32) (uz : (Nat → Int)) => rz = nZ (canS pl (B.2 j)) ∧ blkOk uz b (putB B j pl) ∧ frOk s uz b) (fun (uz : (Nat → Int)) => zOut D (va_A [(mm, .inr (7, [.ref ms, .int (nZ vsv), .ref mk, .ref mb, .int (nZ vty), .int (nZ vth), .int (nZ ven), .int (nZ vsp), .int (nZ ↑j), .int (nZ pl)])), (ms, .inl (k 0, 900, .inl (zA s)))] sz) [(mm, .inr (7, [.ref ms, .int (nZ vsv), .ref mk, .ref mb, .int (nZ vty), .int (nZ vth), .int (nZ ven), .int (nZ vsp), .int (nZ ↑j), .int (nZ pl)])), (ms, .inl (k 0, 900, .inl (zA uz)))]) (va_A [(mm, .inr (7, [.ref ms, .int (nZ vsv), .ref mk, .ref mb, .int (nZ vty), .int (nZ vth), .int (nZ ven), .int (nZ vsp), .int (nZ ↑j), .int (nZ pl)])), (ms, .inl (k 0, 900, .inl (zA s)))] sz)) 0 0 (va_A [(mm, .inr (7, [.ref ms, .int (nZ vsv), .ref mk, .ref mb, .int (nZ vty), .int (nZ vth), .int (nZ ven), .int (nZ vsp), .int (nZ ↑j), .int (nZ pl)])), (ms, .inl (k 0, 900, .inl (zA s)))] sz) := by
  refine zEnter (Qf := fun A => va_Qi (fun (rz : Int32) (uz : (Nat → Int)) => rz = nZ (canS pl (B.2 j)) ∧ blkOk uz b (putB B j pl) ∧ frOk s uz b) (fun (uz : (Nat → Int)) => zOut D A [(mm, .inr (7, [.ref ms, .int (nZ vsv), .ref mk, .ref mb, .int (nZ vty), .int (nZ vth), .int (nZ ven), .int (nZ vsp), .int (nZ ↑j), .int (nZ pl)])), (ms, .inl (k 0, 900, .inl (zA uz)))]) A) RX7 (by decide) rfl (Nat.le_of_ble_eq_true rfl) ?_
  intro p9 e9 s9 m9 be9 me9 c9 ls A X hin hP hD hS hA hAe hl
  have hX := X.1; have hB := X.2.1; have hz := X.2.2.2.2.1; have hW := X.2.2.2.2.2.1; have hK := X.2.2.2.2.2.2.2; clear hAe
  clear hin
  have hl : lv_has ls 6 [(0, .ref mm), (1, .int (nZ ↑b))] := hl
  have hl9 := hBk.len hjj
  refine lv_iload_n hX hB dX7_puts_0 rfl (lv_at hl 1 rfl) ?_
  refine lv_aload_n hX hB dX7_puts_1 rfl (lv_at hl 0 rfl) ?_
  refine va_get hX hB hz inlX7 hW hK.1 hP 0 rfl rfl 8 (by decide) (hz _ zw_414) (fun _ h9 => h9) rfl dX7_puts_2 ?_
  refine zCallI0 (zRunS X ms_X7_laneAt (c_X7_laneAt l D k _ b j ) zw_272 (zPreS hP hD hK [] rfl rfl) rfl hl (Nat.le_of_ble_eq_true rfl) dX7_puts_5 ⟨rfl, rfl, ⟨Nat.le_of_ble_eq_true rfl, Nat.le_of_ble_eq_true rfl⟩, Nat.le_of_ble_eq_true rfl, Nat.le_of_ble_eq_true rfl⟩ rfl) hS hP hD hA [] rfl (fun _ => rfl) (fun r_5 u_5 H locs hq_5 hP hD hS => ?_)
  subst hq_5
  have hP : va_P D vwCl [(mm, .inr (7, [.ref ms, .int (nZ vsv), .ref mk, .ref mb, .int (nZ vty), .int (nZ vth), .int (nZ ven), .int (nZ vsp), .int (nZ ↑j), .int (nZ pl)])), (ms, .inl (k 0, 900, .inl (zA s)))] H := hP
  have hD : va_D A [(mm, .inr (7, [.ref ms, .int (nZ vsv), .ref mk, .ref mb, .int (nZ vty), .int (nZ vth), .int (nZ ven), .int (nZ vsp), .int (nZ ↑j), .int (nZ pl)])), (ms, .inl (k 0, 900, .inl (zA s)))] := hD
  refine lv_istore_n (lv' := [(2, .int (nZ ((↑(b + 27) : Int) + (21 * ↑j)))), (0, .ref mm), (1, .int (nZ ↑b))]) hX hB dX7_puts_8 rfl hl (by decide) rfl (fun ls hl => ?_)
  refine lv_iconst (v := nZ 1) hX hB dX7_puts_9 rfl ?_
  refine lv_istore_n (lv' := [(3, .int (nZ 1)), (2, .int (nZ ((↑(b + 27) : Int) + (21 * ↑j)))), (0, .ref mm), (1, .int (nZ ↑b))]) hX hB dX7_puts_10 rfl hl (by decide) rfl (fun ls hl => ?_)
  refine lv_iconst (v := nZ 0) hX hB dX7_puts_11 rfl ?_
  refine lv_istore (lv' := [(4, .int (nZ 0)), (3, .int (nZ 1)), (2, .int (nZ ((↑(b + 27) : Int) + (21 * ↑j)))), (0, .ref mm), (1, .int (nZ ↑b))]) hX hB dX7_puts_12 hl (by decide) rfl (fun ls hl => ?_)
  refine zLoop (σ := Nat × Int) (fun (x : Nat × Int) (H : Heap) (locs : List Loc) (ls : Array Slot) => match x with | (i, cn) => (i ≤ (B.2 j).length) ∧ (cn = canS pl ((B.2 j).take i)) ∧ va_P D vwCl [(mm, .inr (7, [.ref ms, .int (nZ vsv), .ref mk, .ref mb, .int (nZ vty), .int (nZ vth), .int (nZ ven), .int (nZ vsp), .int (nZ ↑j), .int (nZ pl)])), (ms, .inl (k 0, 900, .inl (zA s)))] H ∧ va_D A [(mm, .inr (7, [.ref ms, .int (nZ vsv), .ref mk, .ref mb, .int (nZ vty), .int (nZ vth), .int (nZ ven), .int (nZ vsp), .int (nZ ↑j), .int (nZ pl)])), (ms, .inl (k 0, 900, .inl (zA s)))] ∧ va_S A s9.heap H locs ∧ lv_has ls 6 [(0, .ref mm), (1, .int (nZ ↑b)), (2, .int (nZ ((↑(b + 27) : Int) + (21 * ↑j)))), (3, .int (nZ cn)), (4, .int (nZ ↑i))]) (fun (x : Nat × Int) => match x with | (i, cn) => (B.2 j).length - i) ?_ (0, 1) ⟨(by exact Nat.zero_le _), (by rfl), hP, hD, hS, (lv_sub hl [3, 4, 2, 1, 0] rfl)⟩
  rintro ⟨i, cn⟩ H locs ls ⟨hi, hq, hP, hD, hS, hl⟩ ih_14
  refine lv_iload hX hB dX7_puts_14 (lv_at hl 4 rfl) ?_
  refine lv_aload_n hX hB dX7_puts_16 rfl (lv_at hl 0 rfl) ?_
  refine va_get hX hB hz inlX7 hW hK.1 hP 0 rfl rfl 0 (by decide) (hz _ zw_74) (fun _ h9 => h9) rfl dX7_puts_17 ?_
  refine lv_iload_n hX hB dX7_puts_20 rfl (lv_at hl 2 rfl) ?_
  refine zz_iald X hP 1 0 rfl rfl (((b + 27)) + (21 * j)) (by omega) (by omega) (by first | decide | omega) dX7_puts_21 ?_
  refine zz_icmp_ge X (tgt := 72) dX7_puts_22 (by decide) ⟨by omega, by omega⟩ ⟨by omega, by omega⟩ (fun c_22 => ?_) (fun c_22 => ?_)
  · have hcr := canS_rng pl ((B.2 j).take i)
    have hq9 : cn = canS pl (B.2 j) := by (rw [List.take_of_length_le (by omega)] at hq; exact hq)
    refine lv_iload_n hX hB dX7_puts_72 rfl (lv_at hl 3 rfl) ?_
    refine zz_if_eq X (tgt := 85) dX7_puts_73 (by decide) ⟨by omega, by omega⟩ (fun c_73 => ?_) (fun c_73 => ?_)
    · refine lv_iconst (v := nZ 0) hX hB dX7_puts_85 rfl ?_
      refine lv_istore (lv' := [(4, .int (nZ 0)), (0, .ref mm), (1, .int (nZ ↑b)), (2, .int (nZ ((↑(b + 27) : Int) + (21 * ↑j)))), (3, .int (nZ cn))]) hX hB dX7_puts_86 hl (by decide) rfl (fun ls hl => ?_)
      refine lv_iload hX hB dX7_puts_88 (lv_at hl 0 rfl) ?_
      refine zz_if_le X (tgt := 135) dX7_puts_90 (by decide) ⟨by omega, by omega⟩ (fun c_90 => ?_) (fun c_90 => ?_)
      · refine lv_iload_n hX hB dX7_puts_135 rfl (lv_at hl 4 rfl) ?_
        refine zz_if_eq X (tgt := 164) dX7_puts_136 (by decide) ⟨by omega, by omega⟩ (fun c_136 => ?_) (fun c_136 => ?_)
        · refine lv_iload_n hX hB dX7_puts_164 rfl (lv_at hl 4 rfl) ?_
          exact zRetZ s X hP hD hS (by first | exact Or.inl rfl | exact Or.inr rfl | (rcases hcr with h9 | h9 <;> rw [hq, h9] <;> first | exact Or.inl rfl | exact Or.inr rfl)) rfl ⟨by congr 1, by first | exact putB_yes hE.1 hnn | exact putB_no hBk (canS_0 (by omega)), by first | exact hE.2 | exact frOk.refl _ _⟩ dX7_puts_165
        · exfalso; omega
      · exfalso; omega
    · have hnn := canS_n (pl := pl) (M := B.2 j) (by omega)
      have hl19 := put_len hCh hpp hnn
      refine lv_aload_n hX hB dX7_puts_76 rfl (lv_at hl 0 rfl) ?_
      refine va_get hX hB hz inlX7 hW hK.1 hP 0 rfl rfl 0 (by decide) (hz _ zw_74) (fun _ h9 => h9) rfl dX7_puts_77 ?_
      refine lv_iload_n hX hB dX7_puts_80 rfl (lv_at hl 2 rfl) ?_
      refine zz_iald X hP 1 0 rfl rfl (((b + 27)) + (21 * j)) (by omega) (by omega) (by first | decide | omega) dX7_puts_81 ?_
      refine lv_goto (tgt := 86) hX hB dX7_puts_82 (by decide) ?_
      refine lv_istore (lv' := [(4, .int (nZ (s (((b + 27)) + (21 * j))))), (0, .ref mm), (1, .int (nZ ↑b)), (2, .int (nZ ((↑(b + 27) : Int) + (21 * ↑j)))), (3, .int (nZ cn))]) hX hB dX7_puts_86 hl (by decide) rfl (fun ls hl => ?_)
      rw [hl9.1] at hl
      refine zLoop (σ := Nat × (Nat → Int)) (fun (x : Nat × (Nat → Int)) (H : Heap) (locs : List Loc) (ls : Array Slot) => match x with | (a, q) => (a ≤ (B.2 j).length) ∧ (∀ m : Nat, m ≤ b + 27 + 21 * j + a ∨ b + 27 + 21 * j + 1 + (B.2 j).length < m → q m = s m) ∧ (∀ m : Nat, a < m → m ≤ (B.2 j).length → q (b + 27 + 21 * j + 1 + m) = s (b + 27 + 21 * j + m)) ∧ (∀ m : Nat, a ≤ m → m < (B.2 j).length → pl < (B.2 j).getD m 0) ∧ va_P D vwCl [(mm, .inr (7, [.ref ms, .int (nZ vsv), .ref mk, .ref mb, .int (nZ vty), .int (nZ vth), .int (nZ ven), .int (nZ vsp), .int (nZ ↑j), .int (nZ pl)])), (ms, .inl (k 0, 900, .inl (zA q)))] H ∧ va_D A [(mm, .inr (7, [.ref ms, .int (nZ vsv), .ref mk, .ref mb, .int (nZ vty), .int (nZ vth), .int (nZ ven), .int (nZ vsp), .int (nZ ↑j), .int (nZ pl)])), (ms, .inl (k 0, 900, .inl (zA q)))] ∧ va_S A s9.heap H locs ∧ lv_has ls 6 [(0, .ref mm), (1, .int (nZ ↑b)), (2, .int (nZ ((↑(b + 27) : Int) + (21 * ↑j)))), (3, .int (nZ cn)), (4, .int (nZ ↑a))]) (fun (x : Nat × (Nat → Int)) => match x with | (a, q) => a) ?_ ((B.2 j).length, s) ⟨(by exact Nat.le_refl _), (by intro m hm; rfl), (by intro m h8 h9; omega), (by intro m h8 h9; omega), hP, hD, hS, (lv_sub hl [1, 2, 3, 4, 0] rfl)⟩
      rintro ⟨a, q⟩ H locs ls ⟨ha, h1, h2, h3, hP, hD, hS, hl⟩ ih_88
      refine lv_iload hX hB dX7_puts_88 (lv_at hl 4 rfl) ?_
      refine zz_if_le X (tgt := 135) dX7_puts_90 (by decide) ⟨by omega, by omega⟩ (fun c_90 => ?_) (fun c_90 => ?_)
      · refine lv_iload_n hX hB dX7_puts_135 rfl (lv_at hl 3 rfl) ?_
        refine zz_if_eq X (tgt := 164) dX7_puts_136 (by decide) ⟨by omega, by omega⟩ (fun c_136 => ?_) (fun c_136 => ?_)
        · exfalso; omega
        · have hE := put_end hBk hjj hCh hpp hnn ha h1 h2 h3 (by first | exact Or.inl (by omega) | exact Or.inr (by omega))
          refine lv_aload_n hX hB dX7_puts_139 rfl (lv_at hl 0 rfl) ?_
          refine va_get hX hB hz inlX7 hW hK.1 hP 0 rfl rfl 0 (by decide) (hz _ zw_74) (fun _ h9 => h9) rfl dX7_puts_140 ?_
          refine lv_iload_n hX hB dX7_puts_143 rfl (lv_at hl 2 rfl) ?_
          refine lv_iconst (v := nZ 1) hX hB dX7_puts_144 rfl ?_
          refine zz_iadd X dX7_puts_145 (z := (((↑(b + 27) : Int) + (21 * ↑j)) + 1)) (by first | rfl | omega) ?_
          refine lv_iload hX hB dX7_puts_146 (lv_at hl 4 rfl) ?_
          refine zz_iadd X dX7_puts_148 (z := ((((↑(b + 27) : Int) + (21 * ↑j)) + 1) + ↑a)) (by first | rfl | omega) ?_
          refine lv_aload_n hX hB dX7_puts_149 rfl (lv_at hl 0 rfl) ?_
          refine va_get hX hB hz inlX7 hW hK.1 hP 0 rfl rfl 9 (by decide) (hz _ zw_415) (fun _ h9 => h9) rfl dX7_puts_150 ?_
          refine zz_iast X hP hD hS 1 0 rfl rfl (((((b + 27)) + (21 * j)) + 1) + a) (by omega) (by omega) (by first | decide | omega) dX7_puts_153 (fun H locs hP hD hS => ?_)
          have hP : va_P D vwCl [(mm, .inr (7, [.ref ms, .int (nZ vsv), .ref mk, .ref mb, .int (nZ vty), .int (nZ vth), .int (nZ ven), .int (nZ vsp), .int (nZ ↑j), .int (nZ pl)])), (ms, .inl (k 0, 900, .inl (zA (zU q (((((b + 27)) + (21 * j)) + 1) + a) pl))))] H := hP
          have hD : va_D A [(mm, .inr (7, [.ref ms, .int (nZ vsv), .ref mk, .ref mb, .int (nZ vty), .int (nZ vth), .int (nZ ven), .int (nZ vsp), .int (nZ ↑j), .int (nZ pl)])), (ms, .inl (k 0, 900, .inl (zA (zU q (((((b + 27)) + (21 * j)) + 1) + a) pl))))] := hD
          refine lv_aload_n hX hB dX7_puts_154 rfl (lv_at hl 0 rfl) ?_
          refine va_get hX hB hz inlX7 hW hK.1 hP 0 rfl rfl 0 (by decide) (hz _ zw_74) (fun _ h9 => h9) rfl dX7_puts_155 ?_
          refine lv_iload_n hX hB dX7_puts_158 rfl (lv_at hl 2 rfl) ?_
          refine lv_dup2_11 hX hB dX7_puts_159 rfl rfl ?_
          refine zz_iald X hP 1 0 rfl rfl (((b + 27)) + (21 * j)) (by omega) (by omega) (by first | decide | omega) dX7_puts_160 ?_
          refine lv_iconst (v := nZ 1) hX hB dX7_puts_161 rfl ?_
          refine zz_iadd X dX7_puts_162 (z := (((zU q (((((b + 27)) + (21 * j)) + 1) + a) pl) (((b + 27)) + (21 * j))) + 1)) (by first | rfl | omega) ?_
          refine zz_iast X hP hD hS 1 0 rfl rfl (((b + 27)) + (21 * j)) (by omega) (by omega) (by first | decide | omega) dX7_puts_163 (fun H locs hP hD hS => ?_)
          have hP : va_P D vwCl [(mm, .inr (7, [.ref ms, .int (nZ vsv), .ref mk, .ref mb, .int (nZ vty), .int (nZ vth), .int (nZ ven), .int (nZ vsp), .int (nZ ↑j), .int (nZ pl)])), (ms, .inl (k 0, 900, .inl (zA (zU (zU q (((((b + 27)) + (21 * j)) + 1) + a) pl) (((b + 27)) + (21 * j)) (((zU q (((((b + 27)) + (21 * j)) + 1) + a) pl) (((b + 27)) + (21 * j))) + 1)))))] H := hP
          have hD : va_D A [(mm, .inr (7, [.ref ms, .int (nZ vsv), .ref mk, .ref mb, .int (nZ vty), .int (nZ vth), .int (nZ ven), .int (nZ vsp), .int (nZ ↑j), .int (nZ pl)])), (ms, .inl (k 0, 900, .inl (zA (zU (zU q (((((b + 27)) + (21 * j)) + 1) + a) pl) (((b + 27)) + (21 * j)) (((zU q (((((b + 27)) + (21 * j)) + 1) + a) pl) (((b + 27)) + (21 * j))) + 1)))))] := hD
          refine lv_iload_n hX hB dX7_puts_164 rfl (lv_at hl 3 rfl) ?_
          exact zRetZ (zU (zU q (((((b + 27)) + (21 * j)) + 1) + a) pl) (((b + 27)) + (21 * j)) (((zU q (((((b + 27)) + (21 * j)) + 1) + a) pl) (((b + 27)) + (21 * j))) + 1)) X hP hD hS (by first | exact Or.inl rfl | exact Or.inr rfl | (rcases hcr with h9 | h9 <;> rw [hq, h9] <;> first | exact Or.inl rfl | exact Or.inr rfl)) rfl ⟨by congr 1, by first | exact putB_yes hE.1 hnn | exact putB_no hBk (canS_0 (by omega)), by first | exact hE.2 | exact frOk.refl _ _⟩ dX7_puts_165
      · have hy9 := hBk.at hjj (by omega : a - 1 < (B.2 j).length)
        have hy8 := h1 (b + 27 + 21 * j + a) (by omega)
        rw [show b + 27 + 21 * j + 1 + (a - 1) = b + 27 + 21 * j + a by omega] at hy9
        refine lv_aload_n hX hB dX7_puts_93 rfl (lv_at hl 0 rfl) ?_
        refine va_get hX hB hz inlX7 hW hK.1 hP 0 rfl rfl 0 (by decide) (hz _ zw_74) (fun _ h9 => h9) rfl dX7_puts_94 ?_
        refine lv_iload_n hX hB dX7_puts_97 rfl (lv_at hl 2 rfl) ?_
        refine lv_iload hX hB dX7_puts_98 (lv_at hl 4 rfl) ?_
        refine zz_iadd X dX7_puts_100 (z := (((↑(b + 27) : Int) + (21 * ↑j)) + ↑a)) (by first | rfl | omega) ?_
        refine zz_iald X hP 1 0 rfl rfl ((((b + 27)) + (21 * j)) + a) (by omega) (by omega) (by first | decide | omega) dX7_puts_101 ?_
        refine lv_aload_n hX hB dX7_puts_102 rfl (lv_at hl 0 rfl) ?_
        refine va_get hX hB hz inlX7 hW hK.1 hP 0 rfl rfl 9 (by decide) (hz _ zw_415) (fun _ h9 => h9) rfl dX7_puts_103 ?_
        refine zz_icmp_le X (tgt := 135) dX7_puts_106 (by decide) ⟨by omega, by omega⟩ ⟨by omega, by omega⟩ (fun c_106 => ?_) (fun c_106 => ?_)
        · refine lv_iload_n hX hB dX7_puts_135 rfl (lv_at hl 3 rfl) ?_
          refine zz_if_eq X (tgt := 164) dX7_puts_136 (by decide) ⟨by omega, by omega⟩ (fun c_136 => ?_) (fun c_136 => ?_)
          · exfalso; omega
          · have hE := put_end hBk hjj hCh hpp hnn ha h1 h2 h3 (by first | exact Or.inl (by omega) | exact Or.inr (by omega))
            refine lv_aload_n hX hB dX7_puts_139 rfl (lv_at hl 0 rfl) ?_
            refine va_get hX hB hz inlX7 hW hK.1 hP 0 rfl rfl 0 (by decide) (hz _ zw_74) (fun _ h9 => h9) rfl dX7_puts_140 ?_
            refine lv_iload_n hX hB dX7_puts_143 rfl (lv_at hl 2 rfl) ?_
            refine lv_iconst (v := nZ 1) hX hB dX7_puts_144 rfl ?_
            refine zz_iadd X dX7_puts_145 (z := (((↑(b + 27) : Int) + (21 * ↑j)) + 1)) (by first | rfl | omega) ?_
            refine lv_iload hX hB dX7_puts_146 (lv_at hl 4 rfl) ?_
            refine zz_iadd X dX7_puts_148 (z := ((((↑(b + 27) : Int) + (21 * ↑j)) + 1) + ↑a)) (by first | rfl | omega) ?_
            refine lv_aload_n hX hB dX7_puts_149 rfl (lv_at hl 0 rfl) ?_
            refine va_get hX hB hz inlX7 hW hK.1 hP 0 rfl rfl 9 (by decide) (hz _ zw_415) (fun _ h9 => h9) rfl dX7_puts_150 ?_
            refine zz_iast X hP hD hS 1 0 rfl rfl (((((b + 27)) + (21 * j)) + 1) + a) (by omega) (by omega) (by first | decide | omega) dX7_puts_153 (fun H locs hP hD hS => ?_)
            have hP : va_P D vwCl [(mm, .inr (7, [.ref ms, .int (nZ vsv), .ref mk, .ref mb, .int (nZ vty), .int (nZ vth), .int (nZ ven), .int (nZ vsp), .int (nZ ↑j), .int (nZ pl)])), (ms, .inl (k 0, 900, .inl (zA (zU q (((((b + 27)) + (21 * j)) + 1) + a) pl))))] H := hP
            have hD : va_D A [(mm, .inr (7, [.ref ms, .int (nZ vsv), .ref mk, .ref mb, .int (nZ vty), .int (nZ vth), .int (nZ ven), .int (nZ vsp), .int (nZ ↑j), .int (nZ pl)])), (ms, .inl (k 0, 900, .inl (zA (zU q (((((b + 27)) + (21 * j)) + 1) + a) pl))))] := hD
            refine lv_aload_n hX hB dX7_puts_154 rfl (lv_at hl 0 rfl) ?_
            refine va_get hX hB hz inlX7 hW hK.1 hP 0 rfl rfl 0 (by decide) (hz _ zw_74) (fun _ h9 => h9) rfl dX7_puts_155 ?_
            refine lv_iload_n hX hB dX7_puts_158 rfl (lv_at hl 2 rfl) ?_
            refine lv_dup2_11 hX hB dX7_puts_159 rfl rfl ?_
            refine zz_iald X hP 1 0 rfl rfl (((b + 27)) + (21 * j)) (by omega) (by omega) (by first | decide | omega) dX7_puts_160 ?_
            refine lv_iconst (v := nZ 1) hX hB dX7_puts_161 rfl ?_
            refine zz_iadd X dX7_puts_162 (z := (((zU q (((((b + 27)) + (21 * j)) + 1) + a) pl) (((b + 27)) + (21 * j))) + 1)) (by first | rfl | omega) ?_
            refine zz_iast X hP hD hS 1 0 rfl rfl (((b + 27)) + (21 * j)) (by omega) (by omega) (by first | decide | omega) dX7_puts_163 (fun H locs hP hD hS => ?_)
            have hP : va_P D vwCl [(mm, .inr (7, [.ref ms, .int (nZ vsv), .ref mk, .ref mb, .int (nZ vty), .int (nZ vth), .int (nZ ven), .int (nZ vsp), .int (nZ ↑j), .int (nZ pl)])), (ms, .inl (k 0, 900, .inl (zA (zU (zU q (((((b + 27)) + (21 * j)) + 1) + a) pl) (((b + 27)) + (21 * j)) (((zU q (((((b + 27)) + (21 * j)) + 1) + a) pl) (((b + 27)) + (21 * j))) + 1)))))] H := hP
            have hD : va_D A [(mm, .inr (7, [.ref ms, .int (nZ vsv), .ref mk, .ref mb, .int (nZ vty), .int (nZ vth), .int (nZ ven), .int (nZ vsp), .int (nZ ↑j), .int (nZ pl)])), (ms, .inl (k 0, 900, .inl (zA (zU (zU q (((((b + 27)) + (21 * j)) + 1) + a) pl) (((b + 27)) + (21 * j)) (((zU q (((((b + 27)) + (21 * j)) + 1) + a) pl) (((b + 27)) + (21 * j))) + 1)))))] := hD
            refine lv_iload_n hX hB dX7_puts_164 rfl (lv_at hl 3 rfl) ?_
            exact zRetZ (zU (zU q (((((b + 27)) + (21 * j)) + 1) + a) pl) (((b + 27)) + (21 * j)) (((zU q (((((b + 27)) + (21 * j)) + 1) + a) pl) (((b + 27)) + (21 * j))) + 1)) X hP hD hS (by first | exact Or.inl rfl | exact Or.inr rfl | (rcases hcr with h9 | h9 <;> rw [hq, h9] <;> first | exact Or.inl rfl | exact Or.inr rfl)) rfl ⟨by congr 1, by first | exact putB_yes hE.1 hnn | exact putB_no hBk (canS_0 (by omega)), by first | exact hE.2 | exact frOk.refl _ _⟩ dX7_puts_165
        · refine lv_aload_n hX hB dX7_puts_109 rfl (lv_at hl 0 rfl) ?_
          refine va_get hX hB hz inlX7 hW hK.1 hP 0 rfl rfl 0 (by decide) (hz _ zw_74) (fun _ h9 => h9) rfl dX7_puts_110 ?_
          refine lv_iload_n hX hB dX7_puts_113 rfl (lv_at hl 2 rfl) ?_
          refine lv_iconst (v := nZ 1) hX hB dX7_puts_114 rfl ?_
          refine zz_iadd X dX7_puts_115 (z := (((↑(b + 27) : Int) + (21 * ↑j)) + 1)) (by first | rfl | omega) ?_
          refine lv_iload hX hB dX7_puts_116 (lv_at hl 4 rfl) ?_
          refine zz_iadd X dX7_puts_118 (z := ((((↑(b + 27) : Int) + (21 * ↑j)) + 1) + ↑a)) (by first | rfl | omega) ?_
          refine lv_aload_n hX hB dX7_puts_119 rfl (lv_at hl 0 rfl) ?_
          refine va_get hX hB hz inlX7 hW hK.1 hP 0 rfl rfl 0 (by decide) (hz _ zw_74) (fun _ h9 => h9) rfl dX7_puts_120 ?_
          refine lv_iload_n hX hB dX7_puts_123 rfl (lv_at hl 2 rfl) ?_
          refine lv_iload hX hB dX7_puts_124 (lv_at hl 4 rfl) ?_
          refine zz_iadd X dX7_puts_126 (z := (((↑(b + 27) : Int) + (21 * ↑j)) + ↑a)) (by first | rfl | omega) ?_
          refine zz_iald X hP 1 0 rfl rfl ((((b + 27)) + (21 * j)) + a) (by omega) (by omega) (by first | decide | omega) dX7_puts_127 ?_
          refine zz_iast X hP hD hS 1 0 rfl rfl (((((b + 27)) + (21 * j)) + 1) + a) (by omega) (by omega) (by first | decide | omega) dX7_puts_128 (fun H locs hP hD hS => ?_)
          have hP : va_P D vwCl [(mm, .inr (7, [.ref ms, .int (nZ vsv), .ref mk, .ref mb, .int (nZ vty), .int (nZ vth), .int (nZ ven), .int (nZ vsp), .int (nZ ↑j), .int (nZ pl)])), (ms, .inl (k 0, 900, .inl (zA (zU q (((((b + 27)) + (21 * j)) + 1) + a) (q ((((b + 27)) + (21 * j)) + a))))))] H := hP
          have hD : va_D A [(mm, .inr (7, [.ref ms, .int (nZ vsv), .ref mk, .ref mb, .int (nZ vty), .int (nZ vth), .int (nZ ven), .int (nZ vsp), .int (nZ ↑j), .int (nZ pl)])), (ms, .inl (k 0, 900, .inl (zA (zU q (((((b + 27)) + (21 * j)) + 1) + a) (q ((((b + 27)) + (21 * j)) + a))))))] := hD
          refine lv_iinc (v := nZ (↑(a - 1) : Int)) (lv' := [(4, .int (nZ (↑(a - 1) : Int))), (0, .ref mm), (1, .int (nZ ↑b)), (2, .int (nZ ((↑(b + 27) : Int) + (21 * ↑j)))), (3, .int (nZ cn))]) hX hB dX7_puts_129 hl (k := 4) rfl (zinc (by omega)) (by decide) rfl (fun ls hl => ?_)
          refine lv_goto (tgt := 88) hX hB dX7_puts_132 (by decide) ?_
          exact ih_88 ((a - 1), (zU q (((((b + 27)) + (21 * j)) + 1) + a) (q ((((b + 27)) + (21 * j)) + a)))) _ _ _ ⟨(by first | omega | assumption | rfl), (by intro m hm; rw [zU_ne _ _ (by omega)]; exact h1 m (by omega)), (by intro m h8 h9; by_cases e : m = a; { rw [e, zU_same, h1 _ (by omega)] }; { rw [zU_ne _ _ (by omega)]; exact h2 m (by omega) h9 }), (by intro m h8 h9; by_cases e : m = a - 1; { rw [e]; omega }; { exact h3 m (by omega) h9 }), hP, hD, hS, (lv_sub hl [1, 2, 3, 4, 0] rfl)⟩ (by dsimp only; omega)
  · have hx9 := hBk.at hjj (by omega : i < (B.2 j).length)
    have hcr := canS_rng pl ((B.2 j).take i)
    refine lv_aload_n hX hB dX7_puts_25 rfl (lv_at hl 0 rfl) ?_
    refine va_get hX hB hz inlX7 hW hK.1 hP 0 rfl rfl 0 (by decide) (hz _ zw_74) (fun _ h9 => h9) rfl dX7_puts_26 ?_
    refine lv_iload_n hX hB dX7_puts_29 rfl (lv_at hl 2 rfl) ?_
    refine lv_iconst (v := nZ 1) hX hB dX7_puts_30 rfl ?_
    refine zz_iadd X dX7_puts_31 (z := (((↑(b + 27) : Int) + (21 * ↑j)) + 1)) (by first | rfl | omega) ?_
    refine lv_iload hX hB dX7_puts_32 (lv_at hl 4 rfl) ?_
    refine zz_iadd X dX7_puts_34 (z := ((((↑(b + 27) : Int) + (21 * ↑j)) + 1) + ↑i)) (by first | rfl | omega) ?_
    refine zz_iald X hP 1 0 rfl rfl (((((b + 27)) + (21 * j)) + 1) + i) (by omega) (by omega) (by first | decide | omega) dX7_puts_35 ?_
    refine lv_aload_n hX hB dX7_puts_36 rfl (lv_at hl 0 rfl) ?_
    refine va_get hX hB hz inlX7 hW hK.1 hP 0 rfl rfl 9 (by decide) (hz _ zw_415) (fun _ h9 => h9) rfl dX7_puts_37 ?_
    refine zz_isub X dX7_puts_40 (z := ((s (((((b + 27)) + (21 * j)) + 1) + i)) - pl)) (by first | rfl | omega) ?_
    refine lv_istore (lv' := [(5, .int (nZ ((s (((((b + 27)) + (21 * j)) + 1) + i)) - pl))), (0, .ref mm), (1, .int (nZ ↑b)), (2, .int (nZ ((↑(b + 27) : Int) + (21 * ↑j)))), (3, .int (nZ cn)), (4, .int (nZ ↑i))]) hX hB dX7_puts_41 hl (by decide) rfl (fun ls hl => ?_)
    refine lv_iload_n hX hB dX7_puts_43 rfl (lv_at hl 4 rfl) ?_
    refine zz_if_eq X (tgt := 64) dX7_puts_44 (by decide) ⟨by omega, by omega⟩ (fun c_44 => ?_) (fun c_44 => ?_)
    · refine lv_iconst (v := nZ 0) hX hB dX7_puts_64 rfl ?_
      refine lv_istore_n (lv' := [(3, .int (nZ 0)), (5, .int (nZ ((s (((((b + 27)) + (21 * j)) + 1) + i)) - pl))), (0, .ref mm), (1, .int (nZ ↑b)), (2, .int (nZ ((↑(b + 27) : Int) + (21 * ↑j)))), (4, .int (nZ ↑i))]) hX hB dX7_puts_65 rfl hl (by decide) rfl (fun ls hl => ?_)
      refine lv_iinc (v := nZ (↑(i + 1) : Int)) (lv' := [(4, .int (nZ (↑(i + 1) : Int))), (3, .int (nZ 0)), (5, .int (nZ ((s (((((b + 27)) + (21 * j)) + 1) + i)) - pl))), (0, .ref mm), (1, .int (nZ ↑b)), (2, .int (nZ ((↑(b + 27) : Int) + (21 * ↑j))))]) hX hB dX7_puts_66 hl (k := 5) rfl (zinc (by omega)) (by decide) rfl (fun ls hl => ?_)
      refine lv_goto (tgt := 14) hX hB dX7_puts_69 (by decide) ?_
      exact ih_14 ((i + 1), 0) _ _ _ ⟨(by first | omega | assumption | rfl), (by first | exact (can_go (by omega) (by omega) (by omega)).symm | exact (can_no (by omega) (by omega)).symm), hP, hD, hS, (lv_sub hl [3, 4, 5, 1, 0] rfl)⟩ (by dsimp only; omega)
    · refine lv_iload hX hB dX7_puts_47 (lv_at hl 0 rfl) ?_
      refine lv_iconst (v := nZ 5) hX hB dX7_puts_49 rfl ?_
      refine zz_icmp_ge X (tgt := 60) dX7_puts_50 (by decide) ⟨by omega, by omega⟩ ⟨by omega, by omega⟩ (fun c_50 => ?_) (fun c_50 => ?_)
      · refine lv_iconst (v := nZ 1) hX hB dX7_puts_60 rfl ?_
        refine lv_goto (tgt := 65) hX hB dX7_puts_61 (by decide) ?_
        refine lv_istore_n (lv' := [(3, .int (nZ 1)), (5, .int (nZ ((s (((((b + 27)) + (21 * j)) + 1) + i)) - pl))), (0, .ref mm), (1, .int (nZ ↑b)), (2, .int (nZ ((↑(b + 27) : Int) + (21 * ↑j)))), (4, .int (nZ ↑i))]) hX hB dX7_puts_65 rfl hl (by decide) rfl (fun ls hl => ?_)
        refine lv_iinc (v := nZ (↑(i + 1) : Int)) (lv' := [(4, .int (nZ (↑(i + 1) : Int))), (3, .int (nZ 1)), (5, .int (nZ ((s (((((b + 27)) + (21 * j)) + 1) + i)) - pl))), (0, .ref mm), (1, .int (nZ ↑b)), (2, .int (nZ ((↑(b + 27) : Int) + (21 * ↑j))))]) hX hB dX7_puts_66 hl (k := 5) rfl (zinc (by omega)) (by decide) rfl (fun ls hl => ?_)
        refine lv_goto (tgt := 14) hX hB dX7_puts_69 (by decide) ?_
        exact ih_14 ((i + 1), 1) _ _ _ ⟨(by first | omega | assumption | rfl), (by first | exact (can_go (by omega) (by omega) (by omega)).symm | exact (can_no (by omega) (by omega)).symm), hP, hD, hS, (lv_sub hl [3, 4, 5, 1, 0] rfl)⟩ (by dsimp only; omega)
      · refine lv_iload hX hB dX7_puts_53 (lv_at hl 0 rfl) ?_
        refine lv_bipush (v := nZ (-5)) hX hB dX7_puts_55 (by decide) ?_
        refine zz_icmp_gt X (tgt := 64) dX7_puts_57 (by decide) ⟨by omega, by omega⟩ ⟨by omega, by omega⟩ (fun c_57 => ?_) (fun c_57 => ?_)
        · refine lv_iconst (v := nZ 0) hX hB dX7_puts_64 rfl ?_
          refine lv_istore_n (lv' := [(3, .int (nZ 0)), (5, .int (nZ ((s (((((b + 27)) + (21 * j)) + 1) + i)) - pl))), (0, .ref mm), (1, .int (nZ ↑b)), (2, .int (nZ ((↑(b + 27) : Int) + (21 * ↑j)))), (4, .int (nZ ↑i))]) hX hB dX7_puts_65 rfl hl (by decide) rfl (fun ls hl => ?_)
          refine lv_iinc (v := nZ (↑(i + 1) : Int)) (lv' := [(4, .int (nZ (↑(i + 1) : Int))), (3, .int (nZ 0)), (5, .int (nZ ((s (((((b + 27)) + (21 * j)) + 1) + i)) - pl))), (0, .ref mm), (1, .int (nZ ↑b)), (2, .int (nZ ((↑(b + 27) : Int) + (21 * ↑j))))]) hX hB dX7_puts_66 hl (k := 5) rfl (zinc (by omega)) (by decide) rfl (fun ls hl => ?_)
          refine lv_goto (tgt := 14) hX hB dX7_puts_69 (by decide) ?_
          exact ih_14 ((i + 1), 0) _ _ _ ⟨(by first | omega | assumption | rfl), (by first | exact (can_go (by omega) (by omega) (by omega)).symm | exact (can_no (by omega) (by omega)).symm), hP, hD, hS, (lv_sub hl [3, 4, 5, 1, 0] rfl)⟩ (by dsimp only; omega)
        · refine lv_iconst (v := nZ 1) hX hB dX7_puts_60 rfl ?_
          refine lv_goto (tgt := 65) hX hB dX7_puts_61 (by decide) ?_
          refine lv_istore_n (lv' := [(3, .int (nZ 1)), (5, .int (nZ ((s (((((b + 27)) + (21 * j)) + 1) + i)) - pl))), (0, .ref mm), (1, .int (nZ ↑b)), (2, .int (nZ ((↑(b + 27) : Int) + (21 * ↑j)))), (4, .int (nZ ↑i))]) hX hB dX7_puts_65 rfl hl (by decide) rfl (fun ls hl => ?_)
          refine lv_iinc (v := nZ (↑(i + 1) : Int)) (lv' := [(4, .int (nZ (↑(i + 1) : Int))), (3, .int (nZ 1)), (5, .int (nZ ((s (((((b + 27)) + (21 * j)) + 1) + i)) - pl))), (0, .ref mm), (1, .int (nZ ↑b)), (2, .int (nZ ((↑(b + 27) : Int) + (21 * ↑j))))]) hX hB dX7_puts_66 hl (k := 5) rfl (zinc (by omega)) (by decide) rfl (fun ls hl => ?_)
          refine lv_goto (tgt := 14) hX hB dX7_puts_69 (by decide) ?_
          exact ih_14 ((i + 1), 1) _ _ _ ⟨(by first | omega | assumption | rfl), (by first | exact (can_go (by omega) (by omega) (by omega)).symm | exact (can_no (by omega) (by omega)).symm), hP, hD, hS, (lv_sub hl [3, 4, 5, 1, 0] rfl)⟩ (by dsimp only; omega)
