section ZF
variable {p : Program} {l : Launch} {e : Env} {R : Room} {s : State} {m : MethodId} {args : Array Value} {below : List Frame} {meth : Method} {c : Code} {H : Heap} {locs : List Loc} {cells slots : Nat} {Q : State → Prop}
variable {D : va_G} {k : Nat → ClassId} {cc : ByteArray} {pc nL index : Nat} {own : String} {ret : Option FieldType} {ls : Array Slot} {rest : List Value} {lv : List (Nat × Value)}
theorem zz_floorMod (X : zCx p s m args meth c cc nL ret own D k) {x z : Int} (hl : lv_has ls nL lv) (hlink : Cond.methodLink own index yJ9_floorMod_7cf53 ∈ wsL_law) (hstat : Cond.static yJ9_floorMod_7cf53 ∈ wsL_law) (hini : Cond.initialized RJ9 ∈ wsL_law) (hcode : Cond.code yJ9_floorMod_7cf53 cJ9_floorMod_7cf53 3 (some .int) ∈ wsL_law)
    (hR : 1 ≤ R.frames ∧ (rest.map fun v => v.category).sum + 14 ≤ R.locals ∧ cells ≤ R.cells ∧ slots ≤ R.slots) (hx : 0 ≤ x ∧ x < 12) (hz : x % 6 = z) (hdg : decode cc pc = .ok (.invokestatic index, 3))
    (kk : W p l e R s m args below meth c H locs cells slots Q (F0 m (pc + 3) ls (.int (nZ z) :: rest))) : W p l e R s m args below meth c H locs cells slots Q (F0 m pc ls (.int (nZ 6) :: .int (nZ x) :: rest)) := by
  sorry
end ZF
