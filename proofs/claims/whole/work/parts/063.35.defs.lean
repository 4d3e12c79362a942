/-! the methods' instructions, and what their calls need, are the Statement's -/
def ax_notMH (y : MethodName) : Prop := y.cls ≠ "java/lang/invoke/MethodHandle" ∧ y.cls ≠ "java/lang/invoke/VarHandle"
def ax_callee (own ix : Nat) (g : Nat → Nat → MethodName → Nat → Nat → Nat → Bool) : Bool := match ax_tM.lookup (own, ix) with
  | some q => match ax_mm[q.1]? with
    | some z => g q.1 q.2 z.1 z.2.2.1 z.2.2.2.1 z.2.2.2.2
    | none => false
  | none => false
def ax_link (own ix : Nat) (y : MethodName) : Bool := decide (ax_w (.methodLink (ax_cn own) ix y)) || decide (ax_w (.methodLinkNest (ax_cn own) ix y "MakingLimits"))
def ax_fit (fr lo mi nL f l : Nat) (y : MethodName) : Bool := decide (y ≠ x) && decide (f + 1 ≤ fr) && decide (8 + (nL + 11) + l ≤ lo) && decide (y.cls ≠ "java/lang/invoke/MethodHandle") && decide (y.cls ≠ "java/lang/invoke/VarHandle")
def ax_okS (fr lo own ix : Nat) : Bool := ax_callee own ix (fun mi n y nL f l => ax_fit fr lo mi nL f l y && ax_link own ix y && decide (ax_w (.static y)) && decide (ax_w (.initialized y.cls)) && decide ((parseMethodDescriptor y.desc).map (fun d => d.parameters.length) = some n))
def ax_okV (fr lo own ix : Nat) : Bool := ax_callee own ix (fun mi n y nL f l => ax_fit fr lo mi nL f l y && ax_link own ix y && decide (ax_w (.instanceMethod y)) && decide (ax_w (.selects y.cls y y)) && decide ((parseMethodDescriptor y.desc).map (fun d => d.parameters.length + 1) = some n) && decide ((classes[ax_rc mi]?).map (fun q => q.1) = some y.cls))
def ax_okN (fr lo own ix : Nat) : Bool := ax_callee own ix (fun mi n y nL f l => ax_fit fr lo mi nL f l y && ax_link own ix y && decide (ax_w (.instanceMethod y)) && decide (y.name = "<init>") && decide ((ax_pr[mi]?).map (fun M => (M.2.1, M.2.2.2.1)) = some (none, [])) && decide ((parseMethodDescriptor y.desc).map (fun d => d.parameters.length + 1) = some n))
def ax_okC (fr lo own : Nat) : Instr → Bool
  | .invokestatic ix => ax_okS fr lo own ix
  | .invokevirtual ix => ax_okV fr lo own ix
  | .invokespecial ix => if (own, ix) ∈ ax_tO then decide (1 ≤ fr) && decide (20 ≤ lo) else if (own, ix) ∈ ax_tX.map (fun q => (q.1.1, q.2.2)) then true else ax_okN fr lo own ix
  | .new ix => if (own, ix) ∈ ax_tX.map (fun q => q.1) then decide (6 ≤ fr) && decide (82 ≤ lo) else true
  | _ => true
/-- every class that a handler names is one of the two -/
def ax_hsok (own : Nat) (hs : List (Nat × Nat × Nat × Nat)) : Bool := hs.all (fun q => decide (q.2.2.2 ≠ 0) && (ax_tC.lookup (own, q.2.2.2)).isSome)
def ax_okM (M : ax_M) (q : MethodName × ByteArray × Nat × Nat × Nat) : Bool :=
  M.2.2.1.all (fun e => ax_okC q.2.2.2.1 q.2.2.2.2 M.1 e.2.1) && plainFor q.1 && (!M.2.2.2.2 || decide (q.1.name = "<init>")) && decide (q.1.cls = ax_cn M.1) && ax_hsok M.1 M.2.2.2.1
def ax_codeOk (M : ax_M) (q : MethodName × ByteArray × Nat × Nat × Nat) : Prop := q.1 = x ∨ (M.2.2.2.1 = [] ∧ ax_w (.code q.1 q.2.1 q.2.2.1 M.2.1)) ∨ (M.2.2.2.1 ≠ [] ∧ ax_w (.codeWith q.1 q.2.1 q.2.2.1 M.2.1 M.2.2.2.1))
