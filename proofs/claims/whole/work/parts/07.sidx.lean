/-! THE ABSTRACT MACHINE: String.indexOf on the constants -/
section
variable {l : Launch} {V : List zSh} {d : Nat} {mi : zM} {σ : zS} {L M : zL} {pc pc' tgt : Nat} {off : Int} {ls : List (Nat × Value)} {st : List Value} {r : Option Value}
def sok (s : Nat) : Bool := decide (88 ≤ s ∧ s < 94)
theorem sok_s {s : Nat} (h : sok s = true) : 88 ≤ s ∧ s < 94 := of_decide_eq_true h
def sidx (s : Nat) (c : Int32) : Int32 := match (zkb.getD (s - 88) []).findIdx? (fun b => b == c) with
  | some j => nI j
  | none => -1
theorem zJ_sidx {idx s : Nat} {c : Int32} (hd : decode mi.2.2.1 pc = .ok (.invokevirtual idx, 3)) (hw : Cond.methodLink mi.1 idx yJ0_indexOf_0f7a4 ∈ zTB) (hs : 88 ≤ s ∧ s < 94) (hdd : 8 ≤ d) (hst : (st.map fun v => v.category).sum ≤ 8) (hp : pc + 3 = pc') (kk : zJ l V d mi σ L pc' ls (.int (sidx s c) :: st) r M) : zJ l V d mi σ L pc ls (.int c :: .ref s :: st) r M := by
  sorry
end
