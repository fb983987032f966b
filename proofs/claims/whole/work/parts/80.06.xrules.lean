/-! THE ABSTRACT MACHINE: some more rules -/
section
variable {l : Launch} {V : List zSh} {d : Nat} {mi : zM} {σ : zS} {L M : zL} {pc pc' tgt : Nat} {off : Int} {ls : List (Nat × Value)} {st : List Value} {r : Option Value}
theorem zJ_iincN {x w : Int32} {i : Nat} {n : Int} {v : Int32} (hd : decode mi.2.2.1 pc = .ok (.iinc i n, 3)) (hn : Nat.blt i mi.2.2.2.1 = true) (hx : zlk ls i = some (.int x)) (hv : Int32.ofInt n = v) (he : w = x + v) {ls' : List (Nat × Value)} (hl' : zst1 i (.int w) ls = ls') (hp : pc + 3 = pc') (k : zJ l V d mi σ L pc' ls' st r M) : zJ l V d mi σ L pc ls st r M := by
  subst he
  exact zJ_iinc hd hn hx hv hl' hp k
theorem zJ_lneg {x : Int64} (hd : decode mi.2.2.1 pc = .ok (.lneg, 1)) (hp : pc + 1 = pc') (k : zJ l V d mi σ L pc' ls (.long (-x) :: st) r M) : zJ l V d mi σ L pc ls (.long x :: st) r M := by
  subst hp
  intro p e R s m args below meth c D cy ad A H locs la hC hP hS hl
  exact lv_lneg hC.1 hC.2.1 hd (k p e R s m args below meth c D cy ad A H locs la hC hP hS hl)
theorem zJ_ldcS {i n q : Nat} {tx : String} (hd : decode mi.2.2.1 pc = .ok (.ldc n, 2)) (hq : zkn[i]? = some (mi.1, n, tx)) (hi : 88 + i = q) (hp : pc + 2 = pc') (k : zJ l V d mi σ L pc' ls (.ref q :: st) r M) : zJ l V d mi σ L pc ls st r M := by
  subst hp; subst hi
  intro p e R s m args below meth c D cy ad A H locs la hC hP hS hl
  have hZ := hC.2.2.2.2.2.2.2.2.2.2.2.2.1 i _ hq
  exact va_ldcS hC.1 hC.2.1 hC.2.2.2.2.1 hZ hd (k p e R s m args below meth c D cy ad A H locs la hC hP hS hl)
end
