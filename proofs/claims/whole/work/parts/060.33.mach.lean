def ax_tys (dA : Nat → ClassId) : List (ClassId × FieldType) := [(dA 0, .int), (dA 1, .long), (dA 2, .char), (dA 3, .object "MakingLimits$Offer"), (dA 4, .object "MakingLimits$Grade")]
section AxEnd
variable (D : va_G) (dA : Nat → ClassId) (b base : Nat)
/-- how a method has ended, for a run that began with the cells h0 -/
def ax_end (s : State) (h0 : ax_H) (r : ax_R) (o : Outcome) (t : State) : Prop :=
  (match r.1 with
    | .inl v => o = .returned (v.map (ax_v b base))
    | .inr E => 1 < r.2.1.length ∧ ∃ ce : Cell, o = .threw (ax_ad b base (r.2.1.length - 1)) ∧ t.heap[ax_ad b base (r.2.1.length - 1)]? = some ce ∧ ce.vm = .none ∧ s.vm.findClass (ax_en E) = some ce.cls) ∧
  ax_rep D dA b base s r.2 t.heap ∧ s.WarmedH t.vm ∧ ∃ L : List Loc, s.sameButNew ({ t with vm := s.vm } : State) L (r.2.1.length - h0.1.length) (r.2.2 - h0.2) ∧ ∀ q ∈ L, base ≤ q.base
def ax_Q (below : List Frame) (s : State) (h0 : ax_H) (r : ax_R) : State → Prop := fun t => ∃ o, t.status = .running ∧ Ended t below o ∧ ax_end D dA b base s h0 r o t
/-- what must hold of a place in a method's walk -/
def ax_P (p : Program) (l : Launch) (e : Env) (R : Room) (s : State) (m : MethodId) (args : Array Value) (below : List Frame) (meth : Method) (c : Code) (nL : Nat) (h0 : ax_H) (r : ax_R) (pc : Nat) (lv : ax_L) (st : List Value) (h : ax_H) : Prop :=
  h.1.length ≤ r.2.1.length ∧ h.2 ≤ r.2.2 ∧ (h0.1.length ≤ h.1.length → h0.2 ≤ h.2 → ∀ (H : Heap) (locs : List Loc) (ls : Array Slot), lv_has ls nL (ax_lm b base lv) → ax_rep D dA b base s h H → (∀ q ∈ locs, base ≤ q.base) →
    W p l e R s m args below meth c H locs (h.1.length - h0.1.length) (h.2 - h0.2) (ax_Q D dA b base below s h0 r) (F0 m pc ls (st.map (ax_v b base))))
end AxEnd
section AxWalk
variable {D : va_G} {dA : Nat → ClassId} {b base : Nat} {p : Program} {l : Launch} {e : Env} {R : Room} {s : State} {m : MethodId} {args : Array Value} {below : List Frame} {meth : Method} {c : Code} {nL : Nat} {bs : ByteArray} {h0 : ax_H} {r : ax_R}
/-- nothing of the heap changes -/
theorem ax_P_same {pc pc' : Nat} {lv lv' : ax_L} {st st' : List Value} {h : ax_H} (k : ax_P D dA b base p l e R s m args below meth c nL h0 r pc' lv' st' h)
    (row : ∀ (H : Heap) (locs : List Loc) (cells slots : Nat) (Q : State → Prop) (ls : Array Slot), lv_has ls nL (ax_lm b base lv) → ax_rep D dA b base s h H → (∀ ls', lv_has ls' nL (ax_lm b base lv') → W p l e R s m args below meth c H locs cells slots Q (F0 m pc' ls' (st'.map (ax_v b base)))) → W p l e R s m args below meth c H locs cells slots Q (F0 m pc ls (st.map (ax_v b base)))) :
    ax_P D dA b base p l e R s m args below meth c nL h0 r pc lv st h :=
  ⟨k.1, k.2.1, fun g1 g2 H locs ls hl hr hq => row H locs _ _ _ ls hl hr (fun ls' hl' => k.2.2 g1 g2 H locs ls' hl' hr hq)⟩
/-- a cell changes -/
theorem ax_P_set (hbb : b < base) {pc pc' : Nat} {lv : ax_L} {st st' : List Value} {h : ax_H} {i : Nat} {c0 c1 : Option ax_C} (hi : h.1[i]? = some c0) (h9 : ∀ n xs, c0 ≠ some (.inl (9, n, .inl xs))) (k : ax_P D dA b base p l e R s m args below meth c nL h0 r pc' lv st' (h.1.set i c1, h.2))
    (row : ∀ (H : Heap) (locs : List Loc) (cells slots : Nat) (Q : State → Prop) (ls : Array Slot), lv_has ls nL (ax_lm b base lv) → ax_rep D dA b base s h H →
      (∀ (H1 : Heap) (j : Nat), ax_at D dA b base s i c1 H1 → H1.size = H.size → (∀ q : Nat, q ≠ ax_ad b base i → H1[q]? = H[q]?) → W p l e R s m args below meth c H1 (locs ++ [⟨ax_ad b base i, j⟩]) cells slots Q (F0 m pc' ls (st'.map (ax_v b base)))) → W p l e R s m args below meth c H locs cells slots Q (F0 m pc ls (st.map (ax_v b base)))) :
    ax_P D dA b base p l e R s m args below meth c nL h0 r pc lv st h := by
  have hlen : (h.1.set i c1).length = h.1.length := List.length_set
  refine ⟨hlen ▸ k.1, k.2.1, fun g1 g2 H locs ls hl hr hq => row H locs _ _ _ ls hl hr (fun H1 j ha hz ho => ?_)⟩
  have hne : i ≠ 0 := by
    intro z
    subst z
    obtain ⟨⟨n, xs, q0⟩, -⟩ := hr
    rw [q0] at hi
    exact h9 n xs (Option.some.inj hi).symm
  have hbase : base ≤ ax_ad b base i := by
    cases i with
    | zero => exact absurd rfl hne
    | succ i => simp only [ax_ad]; omega
  have := k.2.2 (by rw [hlen]; exact g1) g2 H1 (locs ++ [⟨ax_ad b base i, j⟩]) ls hl (ax_rep_set hbb hr hi h9 ha hz ho) (fun q hq1 => by
    rcases List.mem_append.mp hq1 with q1 | q1
    · exact hq q q1
    · rw [List.mem_singleton.mp q1]
      exact hbase)
  rw [hlen] at this
  exact this
/-- a cell is made, of n slots -/
theorem ax_P_push (hbb : b < base) (hRc : r.2.1.length - h0.1.length ≤ R.cells) (hRs : r.2.2 - h0.2 ≤ R.slots) {pc pc' : Nat} {lv : ax_L} {st st' : List Value} {h : ax_H} {n : Nat} {c1 : Option ax_C} (k : ax_P D dA b base p l e R s m args below meth c nL h0 r pc' lv (.ref h.1.length :: st') (h.1 ++ [c1], h.2 + n))
    (row : ∀ (H : Heap) (locs : List Loc) (cells slots : Nat) (Q : State → Prop) (ls : Array Slot), lv_has ls nL (ax_lm b base lv) → ax_rep D dA b base s h H → cells + 1 ≤ R.cells → slots + n ≤ R.slots →
      (∀ H1 : Heap, ax_at D dA b base s h.1.length c1 H1 → H1.size = H.size + 1 → (∀ q : Nat, q < H.size → H1[q]? = H[q]?) → W p l e R s m args below meth c H1 locs (cells + 1) (slots + n) Q (F0 m pc' ls (.ref (ax_ad b base h.1.length) :: st'.map (ax_v b base)))) → W p l e R s m args below meth c H locs cells slots Q (F0 m pc ls (st.map (ax_v b base)))) :
    ax_P D dA b base p l e R s m args below meth c nL h0 r pc lv st h := by
  have hlen : (h.1 ++ [c1]).length = h.1.length + 1 := by simp
  have k1 : h.1.length + 1 ≤ r.2.1.length := hlen ▸ k.1
  have k2 : h.2 + n ≤ r.2.2 := k.2.1
  refine ⟨by omega, by omega, fun g1 g2 H locs ls hl hr hq => row H locs _ _ _ ls hl hr (by omega) (by omega) (fun H1 ha hz ho => ?_)⟩
  have q := k.2.2 (by show h0.1.length ≤ (h.1 ++ [c1]).length; omega) (by show h0.2 ≤ h.2 + n; omega) H1 locs ls hl (ax_rep_push hbb hr ha hz ho) hq
  have e1 : (h.1 ++ [c1]).length - h0.1.length = h.1.length - h0.1.length + 1 := by omega
  have e2 : h.2 + n - h0.2 = h.2 - h0.2 + n := by omega
  have q' : W p l e R s m args below meth c H1 locs ((h.1 ++ [c1]).length - h0.1.length) (h.2 + n - h0.2) (ax_Q D dA b base below s h0 r) (F0 m pc' ls (.ref (ax_ad b base h.1.length) :: st'.map (ax_v b base))) := q
  rw [e1, e2] at q'
  exact q'
end AxWalk
