theorem ax_tO_tM : ∀ e ∈ ax_tO, ∀ {q : Nat × Nat}, ¬ ((e, q) ∈ ax_tM) := by
  have h : ax_tM.all (fun e => decide (¬ e.1 ∈ ax_tO)) = true := by decide +kernel
  intro e he q hq
  have := List.all_eq_true.mp h _ hq
  simp only [decide_eq_true_eq] at this
  exact this he
theorem ax_tX_tM : ∀ e ∈ ax_tX.map (fun q => (q.1.1, q.2.2)), ∀ {q : Nat × Nat}, ¬ ((e, q) ∈ ax_tM) := by
  have h : ax_tM.all (fun e => decide (¬ e.1 ∈ ax_tX.map (fun q => (q.1.1, q.2.2)))) = true := by decide +kernel
  intro e he q hq
  have := List.all_eq_true.mp h _ hq
  simp only [decide_eq_true_eq] at this
  exact this he
theorem ax_pr_of {mi : Nat} {q : MethodName × ByteArray × Nat × Nat × Nat} (h : ax_mm[mi]? = some q) : ∃ M, ax_pr[mi]? = some M := by
  have e : ax_mm.length = ax_pr.length := by decide +kernel
  have hl := (List.getElem?_eq_some_iff.mp h).1
  exact ⟨_, List.getElem?_eq_getElem (by rw [← e]; exact hl)⟩
