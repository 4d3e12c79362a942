/-! a long table, with the rows that are wanted laid ahead -/
theorem lk_seg {t seg : List (Nat × Instr × Nat × Nat)} (h : ∀ q ∈ seg, t.lookup q.1 = some q.2) (p : Nat) : (seg ++ t).lookup p = t.lookup p := by
  induction seg with
  | nil => rfl
  | cons a l ih =>
    show (match (p == a.1) with | true => some a.2 | false => List.lookup p (l ++ t)) = _
    by_cases hp : p = a.1
    · subst hp
      rw [beq_self_eq_true]
      exact (h a (List.mem_cons_self ..)).symm
    · rw [beq_false_of_ne hp]
      exact ih (fun q hq => h q (List.mem_cons_of_mem _ hq))
def ax_inc : Nat → List (Nat × Instr × Nat × Nat) → Bool
  | _, [] => true
  | k, a :: l => decide (k ≤ a.1) && ax_inc (a.1 + 1) l
theorem inc_ok : ∀ (l : List (Nat × Instr × Nat × Nat)) (k : Nat), ax_inc k l = true → ∀ q ∈ l, k ≤ q.1 ∧ l.lookup q.1 = some q.2 := by
  intro l
  induction l with
  | nil => intro k h q hq; cases hq
  | cons a l ih =>
    intro k h q hq
    simp only [ax_inc, Bool.and_eq_true, decide_eq_true_eq] at h
    rcases List.mem_cons.mp hq with rfl | hq'
    · refine ⟨h.1, ?_⟩
      show (match (q.1 == q.1) with | true => some q.2 | false => List.lookup q.1 l) = some q.2
      rw [beq_self_eq_true]
    · have := ih (a.1 + 1) h.2 q hq'
      refine ⟨by omega, ?_⟩
      show (match (q.1 == a.1) with | true => some a.2 | false => List.lookup q.1 l) = some q.2
      rw [beq_false_of_ne (by omega)]
      exact this.2
theorem inc_law : ax_inc 0 tb_La_law = true := by decide +kernel
theorem st_seg {C : Nat → List Value → ax_H → ax_R → Prop} {a : Nat} {b : Option FieldType} {t seg : List (Nat × Instr × Nat × Nat)} {d : List (Nat × Nat × Nat × Nat)} {e : Bool} (hlk : ∀ p, (seg ++ t).lookup p = t.lookup p) : ax_step C (a, b, seg ++ t, d, e) = ax_step C (a, b, t, d, e) := by
  funext pc lv st h r K
  unfold ax_step ax_b ax_call ax_recv ax_mk ax_key
  simp only [hlk]
theorem w_seg {C : Nat → List Value → ax_H → ax_R → Prop} {a : Nat} {b : Option FieldType} {t seg : List (Nat × Instr × Nat × Nat)} {d : List (Nat × Nat × Nat × Nat)} {e : Bool} {Q : ax_R → Prop} {pc : Nat} {lv : ax_L} {st : List Value} {h : ax_H} (hs : ∀ q ∈ seg, t.lookup q.1 = some q.2) : ax_wp C (a, b, seg ++ t, d, e) Q pc lv st h ↔ ax_wp C (a, b, t, d, e) Q pc lv st h := by
  unfold ax_wp ax_go
  rw [st_seg (lk_seg hs)]
