section AxRep
variable (D : va_G) (dA : Nat → ClassId) (b base : Nat)
/-- what lies in the machine's heap for a cell -/
def ax_at (s : State) (i : Nat) (c : Option ax_C) (H : Heap) : Prop := match c with
  | none => ∃ ce : Cell, H[ax_ad b base i]? = some ce ∧ ce.vm = .none
  | some (.inl (9, n, .inl xs)) => va_X (ax_ad b base i) n xs s H
  | some x => va_at D classes (ax_ad b base i, ax_e b base dA x) H
/-- the whole heap from base on, and the script -/
def ax_rep (s : State) (h : ax_H) (H : Heap) : Prop :=
  (∃ n xs, h.1[0]? = some (some (.inl (9, n, .inl xs)))) ∧ H.size + 1 = base + h.1.length ∧ ∀ i c, h.1[i]? = some c → ax_at D dA b base s i c H
end AxRep
section AxRep2
variable {D : va_G} {dA : Nat → ClassId} {b base : Nat}
theorem ax_at_kept {s : State} {i : Nat} {c : Option ax_C} {H H1 : Heap} (h : ax_at D dA b base s i c H) (hq : H1[ax_ad b base i]? = H[ax_ad b base i]?) : ax_at D dA b base s i c H1 := by
  unfold ax_at at h ⊢
  split
  · obtain ⟨ce, h1, h2⟩ := h
    exact ⟨ce, hq.trans h1, h2⟩
  · exact va_X.kept h hq
  · rename_i x hx
    split at h
    · rename_i e; cases e
    · rename_i n xs e
      exact absurd (Option.some.inj e) (hx n xs)
    · rename_i y hy e
      cases e
      exact va_at.kept h hq
theorem ax_at_moved {u U : State} (hvm : u.vm.Alike U.vm) {i : Nat} {c : Option ax_C} {H : Heap} (h : ax_at D dA b base u i c H) : ax_at D dA b base U i c H := by
  unfold ax_at at h ⊢
  split
  · exact h
  · exact va_X.moved hvm h
  · rename_i x hx
    split at h
    · rename_i e; cases e
    · rename_i n xs e
      exact absurd (Option.some.inj e) (hx n xs)
    · rename_i y hy e
      cases e
      exact h
theorem ax_rep_moved {u U : State} (hvm : u.vm.Alike U.vm) {h : ax_H} {H : Heap} (q : ax_rep D dA b base u h H) : ax_rep D dA b base U h H := ⟨q.1, q.2.1, fun i c hi => ax_at_moved hvm (q.2.2 i c hi)⟩
theorem ax_rep_pos {s : State} {h : ax_H} {H : Heap} (q : ax_rep D dA b base s h H) : 0 < h.1.length := by
  obtain ⟨⟨n, xs, h0⟩, -⟩ := q
  exact (List.getElem?_eq_some_iff.mp h0).1
theorem ax_rep_top {s : State} {h : ax_H} {H : Heap} (q : ax_rep D dA b base s h H) : ax_ad b base h.1.length = H.size := by
  have h1 := ax_rep_pos q
  have h2 := q.2.1
  cases hn : h.1.length with
  | zero => omega
  | succ k => simp only [ax_ad]; omega
theorem ax_rep_set (hb : b < base) {s : State} {h : ax_H} {H H1 : Heap} (q : ax_rep D dA b base s h H) {i u : Nat} {c0 c1 : Option ax_C} (hi : h.1[i]? = some c0) (h9 : ∀ n xs, c0 ≠ some (.inl (9, n, .inl xs))) (hc : ax_at D dA b base s i c1 H1) (hz : H1.size = H.size) (ho : ∀ q : Nat, q ≠ ax_ad b base i → H1[q]? = H[q]?) : ax_rep D dA b base s (h.1.set i c1, u) H1 := by
  obtain ⟨⟨n, xs, h0⟩, h1, h2⟩ := q
  have hl := (List.getElem?_eq_some_iff.mp hi).1
  have hne : i ≠ 0 := by
    intro e
    subst e
    rw [h0] at hi
    exact h9 n xs (Option.some.inj hi).symm
  refine ⟨⟨n, xs, ?_⟩, ?_, fun j c hj => ?_⟩
  · show (h.1.set i c1)[0]? = _
    rw [List.getElem?_set_ne hne]
    exact h0
  · show _ = base + (h.1.set i c1).length
    rw [hz, List.length_set]
    exact h1
  · by_cases hji : j = i
    · subst hji
      have : (h.1.set j c1)[j]? = some c1 := List.getElem?_set_self hl
      cases this.symm.trans hj
      exact hc
    · have : (h.1.set i c1)[j]? = h.1[j]? := List.getElem?_set_ne (Ne.symm hji)
      exact ax_at_kept (h2 j c (this.symm.trans hj)) (ho _ (fun z => hji (ax_ad_inj hb z)))
theorem ax_at_lt (hb : b < base) {s : State} {h : ax_H} {H : Heap} (q : ax_rep D dA b base s h H) {i : Nat} {c : Option ax_C} (hi : h.1[i]? = some c) : ax_ad b base i < H.size := by
  obtain ⟨h0, h1, h2⟩ := q
  have hl := (List.getElem?_eq_some_iff.mp hi).1
  cases i with
  | zero =>
    obtain ⟨n, xs, h0⟩ := h0
    cases h0.symm.trans hi
    obtain ⟨scr, g1, -⟩ := h2 0 _ h0
    exact (Array.getElem?_eq_some_iff.mp g1).1
  | succ k => simp only [ax_ad]; omega
theorem ax_rep_push (hb : b < base) {s : State} {h : ax_H} {H H1 : Heap} (q : ax_rep D dA b base s h H) {u : Nat} {c1 : Option ax_C} (hc : ax_at D dA b base s h.1.length c1 H1) (hz : H1.size = H.size + 1) (ho : ∀ q : Nat, q < H.size → H1[q]? = H[q]?) : ax_rep D dA b base s (h.1 ++ [c1], u) H1 := by
  have hpos := ax_rep_pos q
  have hlt := fun {i : Nat} {c : Option ax_C} (hi : h.1[i]? = some c) => ax_at_lt hb q hi
  obtain ⟨⟨n, xs, h0⟩, h1, h2⟩ := q
  refine ⟨⟨n, xs, ?_⟩, ?_, fun j c hj => ?_⟩
  · show (h.1 ++ [c1])[0]? = _
    rw [List.getElem?_append_left hpos]
    exact h0
  · show _ = base + (h.1 ++ [c1]).length
    rw [List.length_append, List.length_singleton]
    omega
  · by_cases hl : j < h.1.length
    · have e : h.1[j]? = some c := by rw [← List.getElem?_append_left (l₂ := [c1]) hl]; exact hj
      exact ax_at_kept (h2 j c e) (ho _ (hlt e))
    · have hj' : (h.1 ++ [c1])[j]? = some c := hj
      rw [List.getElem?_append_right (by omega)] at hj'
      have hz : j - h.1.length < 1 := (List.getElem?_eq_some_iff.mp hj').1
      have hj0 : j = h.1.length := by omega
      subst hj0
      rw [Nat.sub_self] at hj'
      cases hj'
      exact hc
end AxRep2
