/-! fewer things need be known of the locals -/
def ax_hk (k : Nat) : ax_L → Bool
  | [] => false
  | q :: l => q.1 == k || ax_hk k l
def ax_nd : ax_L → Bool
  | [] => true
  | q :: l => !ax_hk q.1 l && ax_nd l
def ax_lle (l1 l2 : ax_L) : Prop := ax_nd l1 = true ∧ ∀ k v, l1.lookup k = some v → l2.lookup k = some v
theorem ax_hk_none {k : Nat} {l : ax_L} (h : ax_hk k l = false) : l.lookup k = none := by
  induction l with
  | nil => rfl
  | cons q l ih =>
    simp only [ax_hk, Bool.or_eq_false_iff] at h
    have e : (k == q.1) = false := by
      have := h.1
      simp only [beq_eq_false_iff_ne] at this ⊢
      exact fun z => this z.symm
    rw [List.lookup_cons, e]
    exact ih h.2
theorem ax_hk_filter {k : Nat} {l : ax_L} {f : Nat × Value → Bool} (h : ax_hk k l = false) : ax_hk k (l.filter f) = false := by
  induction l with
  | nil => rfl
  | cons q l ih =>
    simp only [ax_hk, Bool.or_eq_false_iff] at h
    by_cases hf : f q = true
    · rw [List.filter_cons_of_pos hf]
      simp only [ax_hk, Bool.or_eq_false_iff]
      exact ⟨h.1, ih h.2⟩
    · rw [List.filter_cons_of_neg hf]
      exact ih h.2
theorem ax_nd_filter {l : ax_L} {f : Nat × Value → Bool} (h : ax_nd l = true) : ax_nd (l.filter f) = true := by
  induction l with
  | nil => rfl
  | cons q l ih =>
    simp only [ax_nd, Bool.and_eq_true, Bool.not_eq_true'] at h
    by_cases hf : f q = true
    · rw [List.filter_cons_of_pos hf]
      simp only [ax_nd, Bool.and_eq_true, Bool.not_eq_true']
      exact ⟨ax_hk_filter h.1, ih h.2⟩
    · rw [List.filter_cons_of_neg hf]
      exact ih h.2
theorem ax_hk_gone {k : Nat} {l : ax_L} {f : Nat × Value → Bool} (h : ∀ w, f (k, w) = false) : ax_hk k (l.filter f) = false := by
  induction l with
  | nil => rfl
  | cons q l ih =>
    by_cases hf : f q = true
    · rw [List.filter_cons_of_pos hf]
      simp only [ax_hk, Bool.or_eq_false_iff, beq_eq_false_iff_ne]
      refine ⟨fun z => ?_, ih⟩
      have := h q.2
      rw [← z] at this
      rw [this] at hf
      cases hf
    · rw [List.filter_cons_of_neg hf]
      exact ih
theorem ax_fl_in {l : ax_L} {f : Nat × Value → Bool} {k : Nat} {v : Value} (h : l.lookup k = some v) (hf : f (k, v) = true) : (l.filter f).lookup k = some v := by
  induction l with
  | nil => simp at h
  | cons q l ih =>
    obtain ⟨i, w⟩ := q
    by_cases hk : k = i
    · subst hk
      simp at h
      subst h
      rw [List.filter_cons_of_pos hf]
      simp
    · have e : (k == i) = false := by simpa using hk
      rw [List.lookup_cons, e] at h
      by_cases hg : f (i, w) = true
      · rw [List.filter_cons_of_pos hg, List.lookup_cons, e]
        exact ih h
      · rw [List.filter_cons_of_neg hg]
        exact ih h
theorem ax_fl_out {l : ax_L} {f : Nat × Value → Bool} {k : Nat} {v : Value} (hn : ax_nd l = true) (h : (l.filter f).lookup k = some v) : l.lookup k = some v ∧ f (k, v) = true := by
  induction l with
  | nil => simp at h
  | cons q l ih =>
    obtain ⟨i, w⟩ := q
    simp only [ax_nd, Bool.and_eq_true, Bool.not_eq_true'] at hn
    by_cases hk : k = i
    · subst hk
      by_cases hg : f (k, w) = true
      · rw [List.filter_cons_of_pos hg] at h
        simp at h
        subst h
        simp [hg]
      · rw [List.filter_cons_of_neg hg] at h
        rw [ax_hk_none (ax_hk_filter hn.1)] at h
        cases h
    · have e : (k == i) = false := by simpa using hk
      rw [List.lookup_cons, e]
      by_cases hg : f (i, w) = true
      · rw [List.filter_cons_of_pos hg, List.lookup_cons, e] at h
        exact ih hn.2 h
      · rw [List.filter_cons_of_neg hg] at h
        exact ih hn.2 h
theorem ax_lle_cons {l1 l2 : ax_L} {f : Nat × Value → Bool} {i : Nat} {v : Value} (h : ax_lle l1 l2) (hf : ∀ w, f (i, w) = false) : ax_lle ((i, v) :: l1.filter f) ((i, v) :: l2.filter f) := by
  refine ⟨?_, fun k w hw => ?_⟩
  · simp only [ax_nd, Bool.and_eq_true, Bool.not_eq_true']
    exact ⟨ax_hk_gone hf, ax_nd_filter h.1⟩
  · rw [List.lookup_cons] at hw ⊢
    by_cases hk : (k == i) = true
    · rw [hk] at hw ⊢
      exact hw
    · have hk' : (k == i) = false := by simpa using hk
      rw [hk'] at hw ⊢
      obtain ⟨q1, q2⟩ := ax_fl_out h.1 hw
      exact ax_fl_in (h.2 k w q1) q2
theorem ax_lle_sto1 {l1 l2 : ax_L} {i : Nat} {v : Value} (h : ax_lle l1 l2) : ax_lle (ax_sto1 i v l1) (ax_sto1 i v l2) := ax_lle_cons h (fun w => by simp)
theorem ax_lle_sto2 {l1 l2 : ax_L} {i : Nat} {v : Value} (h : ax_lle l1 l2) : ax_lle (ax_sto2 i v l1) (ax_sto2 i v l2) := ax_lle_cons h (fun w => by simp)
theorem ax_s_lv {i : Instr} {nx tg : Nat} {l1 l2 : ax_L} {st : List Value} {h : ax_H} {s' : ax_S} (hl : ax_lle l1 l2) (hs : ax_s i nx tg l1 st h = some s') : ∃ l2', ax_s i nx tg l2 st h = some (s'.1, l2', s'.2.2.1, s'.2.2.2) ∧ ax_lle s'.2.1 l2' := by
  have ld : ∀ (ok : Value → Bool) (k : Nat), ax_load ok k nx l1 st h = some s' → ∃ l2', ax_load ok k nx l2 st h = some (s'.1, l2', s'.2.2.1, s'.2.2.2) ∧ ax_lle s'.2.1 l2' := by
    intro ok k hs
    unfold ax_load at hs ⊢
    cases hk : l1.lookup k with
    | none => rw [hk] at hs; cases hs
    | some v =>
      rw [hk] at hs
      rw [hl.2 k v hk]
      simp only at hs ⊢
      by_cases ho : ok v = true
      · rw [if_pos ho] at hs ⊢
        cases hs
        exact ⟨l2, rfl, hl⟩
      · rw [if_neg ho] at hs
        cases hs
  have s1 : ∀ (ok : Value → Bool) (k : Nat), ax_store1 ok k nx l1 st h = some s' → ∃ l2', ax_store1 ok k nx l2 st h = some (s'.1, l2', s'.2.2.1, s'.2.2.2) ∧ ax_lle s'.2.1 l2' := by
    intro ok k hs
    unfold ax_store1 at hs ⊢
    cases st with
    | nil => cases hs
    | cons v st =>
      simp only at hs ⊢
      by_cases ho : ok v = true
      · rw [if_pos ho] at hs ⊢
        cases hs
        exact ⟨_, rfl, ax_lle_sto1 hl⟩
      · rw [if_neg ho] at hs
        cases hs
  have s2 : ∀ (k : Nat), ax_store2 k nx l1 st h = some s' → ∃ l2', ax_store2 k nx l2 st h = some (s'.1, l2', s'.2.2.1, s'.2.2.2) ∧ ax_lle s'.2.1 l2' := by
    intro k hs
    unfold ax_store2 at hs ⊢
    split at hs
    · cases hs
      exact ⟨_, rfl, ax_lle_sto2 hl⟩
    · cases hs
  have ic : ∀ (k : Nat) (n : Int), ax_iinc k n nx l1 st h = some s' → ∃ l2', ax_iinc k n nx l2 st h = some (s'.1, l2', s'.2.2.1, s'.2.2.2) ∧ ax_lle s'.2.1 l2' := by
    intro k n hs
    unfold ax_iinc at hs ⊢
    split at hs
    · rename_i x hx
      rw [hl.2 _ _ hx]
      cases hs
      exact ⟨_, rfl, ax_lle_sto1 hl⟩
    · cases hs
  cases i with
  | iload k => exact ld _ _ hs
  | iload_n k => exact ld _ _ hs
  | lload k => exact ld _ _ hs
  | lload_n k => exact ld _ _ hs
  | aload k => exact ld _ _ hs
  | aload_n k => exact ld _ _ hs
  | istore k => exact s1 _ _ hs
  | istore_n k => exact s1 _ _ hs
  | astore k => exact s1 _ _ hs
  | astore_n k => exact s1 _ _ hs
  | lstore k => exact s2 _ hs
  | lstore_n k => exact s2 _ hs
  | iinc k n => exact ic _ _ hs
  | _ =>
    simp only [ax_s, ax_ii, ax_ll, ax_lshl, ax_i1, ax_l1, ax_dup] at hs ⊢
    first
    | (cases hs; done)
    | (cases hs; exact ⟨_, rfl, hl⟩)
    | (split at hs <;> first | (cases hs; exact ⟨_, rfl, hl⟩) | (split at hs <;> first | (cases hs; rename_i hc; exact ⟨_, if_pos hc, hl⟩) | cases hs) | cases hs)
section AxLv
variable {C : Nat → List Value → ax_H → ax_R → Prop} {M : ax_M} {r : ax_R} {K K' : Nat → ax_L → List Value → ax_H → Prop} {lv lv2 : ax_L}
theorem ax_call_lv (hK : ∀ pc st h, K pc lv st h → K' pc lv2 st h) {ix pc nx : Nat} {st : List Value} {h : ax_H} (hb : ax_call C M ix pc nx lv st h r K) : ax_call C M ix pc nx lv2 st h r K' := by
  obtain ⟨mi, n, h1, h2, h3, h4⟩ := hb
  refine ⟨mi, n, h1, h2, h3, ?_⟩
  rcases h4 with ⟨v, g, c, k⟩ | ⟨E, g, c, hE, k⟩
  · exact Or.inl ⟨v, g, c, hK _ _ _ k⟩
  · refine Or.inr ⟨E, g, c, hE, ?_⟩
    rcases k with ⟨t, k1, k2⟩ | k
    · exact Or.inl ⟨t, k1, hK _ _ _ k2⟩
    · exact Or.inr k
theorem ax_b_lv (hK : ∀ pc st h, K pc lv st h → K' pc lv2 st h) {i : Instr} {pc nx tg : Nat} {st : List Value} {h : ax_H} (hb : ax_b C M i pc nx tg lv st h r K) : ax_b C M i pc nx tg lv2 st h r K' := by
  cases i with
  | ldc ix => obtain ⟨v, a, k⟩ := hb; exact ⟨v, a, hK _ _ _ k⟩
  | ldc2_w ix => obtain ⟨v, a, k⟩ := hb; exact ⟨v, a, hK _ _ _ k⟩
  | idiv => obtain ⟨x, y, s, a, b, k⟩ := hb; exact ⟨x, y, s, a, b, hK _ _ _ k⟩
  | ldiv => obtain ⟨x, y, s, a, b, k⟩ := hb; exact ⟨x, y, s, a, b, hK _ _ _ k⟩
  | lrem => obtain ⟨x, y, s, a, b, k⟩ := hb; exact ⟨x, y, s, a, b, hK _ _ _ k⟩
  | if_icmp c o => obtain ⟨x, y, s, a, k1, k2⟩ := hb; exact ⟨x, y, s, a, fun q => hK _ _ _ (k1 q), fun q => hK _ _ _ (k2 q)⟩
  | ifCond c o => obtain ⟨x, s, a, k1, k2⟩ := hb; exact ⟨x, s, a, fun q => hK _ _ _ (k1 q), fun q => hK _ _ _ (k2 q)⟩
  | ifnull o => obtain ⟨v, s, a, k⟩ := hb; exact ⟨v, s, a, k.imp (fun q => ⟨q.1, hK _ _ _ q.2⟩) (fun q => ⟨q.1, hK _ _ _ q.2⟩)⟩
  | ifnonnull o => obtain ⟨v, s, a, k⟩ := hb; exact ⟨v, s, a, k.imp (fun q => ⟨q.1, hK _ _ _ q.2⟩) (fun q => ⟨q.1, hK _ _ _ q.2⟩)⟩
  | tableswitch d lo hi offs => obtain ⟨x, s, t, a, b, k⟩ := hb; exact ⟨x, s, t, a, b, hK _ _ _ k⟩
  | lookupswitch d ps => obtain ⟨x, s, a, k⟩ := hb; exact ⟨x, s, a, hK _ _ _ k⟩
  | getfield ix => obtain ⟨a, s, ci, k, fs, v, a1, a2, a3, a4, q⟩ := hb; exact ⟨a, s, ci, k, fs, v, a1, a2, a3, a4, hK _ _ _ q⟩
  | putfield ix => obtain ⟨a, v, s, ci, k, fs, a1, a2, a3, a4, a5, a6, a7, q⟩ := hb; exact ⟨a, v, s, ci, k, fs, a1, a2, a3, a4, a5, a6, a7, hK _ _ _ q⟩
  | iaload => obtain ⟨a, j, s, k, n, f, a1, a2, a3, a4, q⟩ := hb; exact ⟨a, j, s, k, n, f, a1, a2, a3, a4, hK _ _ _ q⟩
  | caload => obtain ⟨a, j, s, n, f, a1, a2, a3, q⟩ := hb; exact ⟨a, j, s, n, f, a1, a2, a3, hK _ _ _ q⟩
  | laload => obtain ⟨a, j, s, n, f, a1, a2, a3, q⟩ := hb; exact ⟨a, j, s, n, f, a1, a2, a3, hK _ _ _ q⟩
  | aaload => obtain ⟨a, j, s, k, n, f, a1, a2, a3, a4, q⟩ := hb; exact ⟨a, j, s, k, n, f, a1, a2, a3, a4, hK _ _ _ q⟩
  | iastore => obtain ⟨a, j, x, s, n, f, a1, a2, a3, q⟩ := hb; exact ⟨a, j, x, s, n, f, a1, a2, a3, hK _ _ _ q⟩
  | castore => obtain ⟨a, j, x, s, n, f, a1, a2, a3, q⟩ := hb; exact ⟨a, j, x, s, n, f, a1, a2, a3, hK _ _ _ q⟩
  | lastore => obtain ⟨a, j, x, s, n, f, a1, a2, a3, q⟩ := hb; exact ⟨a, j, x, s, n, f, a1, a2, a3, hK _ _ _ q⟩
  | aastore => obtain ⟨a, j, o, s, k, n, f, a1, a2, a3, a4, a5, q⟩ := hb; exact ⟨a, j, o, s, k, n, f, a1, a2, a3, a4, a5, hK _ _ _ q⟩
  | arraylength => obtain ⟨a, s, k, n, z, a1, a2, a3, q⟩ := hb; exact ⟨a, s, k, n, z, a1, a2, a3, hK _ _ _ q⟩
  | newarray t => obtain ⟨n, s, k, a1, a2, a3, a4, q⟩ := hb; exact ⟨n, s, k, a1, a2, a3, a4, hK _ _ _ q⟩
  | anewarray ix => obtain ⟨n, s, k, a1, a2, a3, a4, q⟩ := hb; exact ⟨n, s, k, a1, a2, a3, a4, hK _ _ _ q⟩
  | new ix =>
    rcases hb with ⟨ci, a, q⟩ | hb
    · exact Or.inl ⟨ci, a, hK _ _ _ q⟩
    · exact Or.inr hb
  | invokestatic ix => exact ax_call_lv hK hb
  | invokevirtual ix => exact ⟨hb.1, ax_call_lv hK hb.2⟩
  | invokespecial ix =>
    rcases hb with ⟨a1, a, s, a2, a3, q⟩ | hb
    · exact Or.inl ⟨a1, a, s, a2, a3, hK _ _ _ q⟩
    · exact Or.inr ⟨hb.1, ax_call_lv hK hb.2⟩
  | ireturn => exact hb
  | lreturn => exact hb
  | areturn => exact hb
  | return_ => exact hb
  | _ => exact hb
theorem ax_go_lv {pc : Nat} {l1 l2 : ax_L} {st : List Value} {h : ax_H} (hl : ax_lle l1 l2) (hg : ax_go C M r pc l1 st h) : ax_go C M r pc l2 st h := by
  have := hg (fun pc lv st h => ∀ l2, ax_lle lv l2 → ax_go C M r pc l2 st h) ?_
  · exact this l2 hl
  · intro pc lv st h ⟨i, nx, tg, hd, q⟩ l2 hl
    rcases q with ⟨s', hs, k⟩ | hb
    · obtain ⟨l2', e1, e2⟩ := ax_s_lv hl hs
      exact ax_go_st ⟨i, nx, tg, hd, Or.inl ⟨_, e1, k l2' e2⟩⟩
    · exact ax_go_st ⟨i, nx, tg, hd, Or.inr (ax_b_lv (lv := lv) (lv2 := l2) (fun pc st h kk => kk l2 hl) hb)⟩
end AxLv

/-! the rows, with what is to hold at the end -/
def ax_wp (C : Nat → List Value → ax_H → ax_R → Prop) (M : ax_M) (Q : ax_R → Prop) (pc : Nat) (lv : ax_L) (st : List Value) (h : ax_H) : Prop := ∃ r, ax_go C M r pc lv st h ∧ Q r
/-- a method's run, with what holds at its end -/
def ax_T (mi : Nat) (as : List Value) (h : ax_H) (Q : ax_R → Prop) : Prop := ∃ r, ax_run mi as h r ∧ Q r
theorem ax_T_of {mi : Nat} {as : List Value} {h : ax_H} {Q : ax_R → Prop} (M : ax_M) (hM : ax_pr[mi]? = some M) (hw : ax_wsum as ≤ ax_nl mi) (hg : ax_wp ax_run M Q 0 (lv_args 0 as) [] h) : ax_T mi as h Q := by
  obtain ⟨r, h1, h2⟩ := hg
  exact ⟨r, ax_run_of M hM hw h1, h2⟩
theorem ax_T_mono {mi : Nat} {as : List Value} {h : ax_H} {Q Q' : ax_R → Prop} (hq : ax_T mi as h Q) (hQ : ∀ r, Q r → Q' r) : ax_T mi as h Q' := by
  obtain ⟨r, h1, h2⟩ := hq
  exact ⟨r, h1, hQ r h2⟩
def ax_sub : ax_L → ax_L → Prop
  | [], _ => True
  | q :: l, lv => lv.lookup q.1 = some q.2 ∧ ax_sub l lv
theorem ax_sub_lk {l lv : ax_L} (h : ax_sub l lv) : ∀ k v, l.lookup k = some v → lv.lookup k = some v := by
  induction l with
  | nil => intro k v hk; simp at hk
  | cons q l ih =>
    intro k v hk
    rw [List.lookup_cons] at hk
    by_cases hq : (k == q.1) = true
    · rw [hq] at hk
      have : k = q.1 := by simpa using hq
      subst this
      have hv : q.2 = v := Option.some.inj hk
      rw [← hv]
      exact h.1
    · have hq' : (k == q.1) = false := by simpa using hq
      rw [hq'] at hk
      exact ih h.2 k v hk
section AxWp
variable {C : Nat → List Value → ax_H → ax_R → Prop} {M : ax_M} {Q : ax_R → Prop} {pc nx tg : Nat} {lv lv' : ax_L} {st st' : List Value} {h h' : ax_H}
theorem w_lv {l1 : ax_L} (k : ax_wp C M Q pc l1 st h) (hn : ax_nd l1 = true) (hs : ax_sub l1 lv) : ax_wp C M Q pc lv st h := by
  obtain ⟨r, h1, h2⟩ := k
  exact ⟨r, ax_go_lv ⟨hn, ax_sub_lk hs⟩ h1, h2⟩
theorem w_s {i : Instr} {pc' : Nat} (hd : M.2.2.1.lookup pc = some (i, nx, tg)) (hs : ax_s i nx tg lv st h = some (pc', lv', st', h')) (k : ax_wp C M Q pc' lv' st' h') : ax_wp C M Q pc lv st h := by
  obtain ⟨r, h1, h2⟩ := k
  exact ⟨r, gs hd hs h1, h2⟩
theorem w_ldc {ix : Nat} {v : Int32} (hd : M.2.2.1.lookup pc = some (.ldc ix, nx, tg)) (hv : ax_tI.lookup (ax_key M ix) = some v) (k : ax_wp C M Q nx lv (.int v :: st) h) : ax_wp C M Q pc lv st h := by
  obtain ⟨r, h1, h2⟩ := k
  exact ⟨r, g_ldc hd hv h1, h2⟩
theorem w_ldc2 {ix : Nat} {v : Int64} (hd : M.2.2.1.lookup pc = some (.ldc2_w ix, nx, tg)) (hv : ax_tL.lookup (ax_key M ix) = some v) (k : ax_wp C M Q nx lv (.long v :: st) h) : ax_wp C M Q pc lv st h := by
  obtain ⟨r, h1, h2⟩ := k
  exact ⟨r, g_ldc2 hd hv h1, h2⟩
theorem w_idiv {x y : Int32} (hd : M.2.2.1.lookup pc = some (.idiv, nx, tg)) (hy : ¬ y = 0) (k : ax_wp C M Q nx lv (.int (x / y) :: st) h) : ax_wp C M Q pc lv (.int y :: .int x :: st) h := by
  obtain ⟨r, h1, h2⟩ := k
  exact ⟨r, g_idiv hd hy h1, h2⟩
theorem w_ldiv {x y : Int64} (hd : M.2.2.1.lookup pc = some (.ldiv, nx, tg)) (hy : ¬ y = 0) (k : ax_wp C M Q nx lv (.long (x / y) :: st) h) : ax_wp C M Q pc lv (.long y :: .long x :: st) h := by
  obtain ⟨r, h1, h2⟩ := k
  exact ⟨r, g_ldiv hd hy h1, h2⟩
theorem w_lrem {x y : Int64} (hd : M.2.2.1.lookup pc = some (.lrem, nx, tg)) (hy : ¬ y = 0) (k : ax_wp C M Q nx lv (.long (x - x / y * y) :: st) h) : ax_wp C M Q pc lv (.long y :: .long x :: st) h := by
  obtain ⟨r, h1, h2⟩ := k
  exact ⟨r, g_lrem hd hy h1, h2⟩
theorem w_if2 {c : ClassFile.Cond} {o : Int} {x y : Int32} (hd : M.2.2.1.lookup pc = some (.if_icmp c o, nx, tg)) (k1 : ax_cnd c x y → ax_wp C M Q tg lv st h) (k2 : ¬ ax_cnd c x y → ax_wp C M Q nx lv st h) : ax_wp C M Q pc lv (.int y :: .int x :: st) h := by
  by_cases hc : ax_cnd c x y
  · obtain ⟨r, h1, h2⟩ := k1 hc
    exact ⟨r, g_if2 hd (fun _ => h1) (fun z => absurd hc z), h2⟩
  · obtain ⟨r, h1, h2⟩ := k2 hc
    exact ⟨r, g_if2 hd (fun z => absurd z hc) (fun _ => h1), h2⟩
theorem w_if1 {c : ClassFile.Cond} {o : Int} {x : Int32} (hd : M.2.2.1.lookup pc = some (.ifCond c o, nx, tg)) (k1 : ax_cnd c x 0 → ax_wp C M Q tg lv st h) (k2 : ¬ ax_cnd c x 0 → ax_wp C M Q nx lv st h) : ax_wp C M Q pc lv (.int x :: st) h := by
  by_cases hc : ax_cnd c x 0
  · obtain ⟨r, h1, h2⟩ := k1 hc
    exact ⟨r, g_if1 hd (fun _ => h1) (fun z => absurd hc z), h2⟩
  · obtain ⟨r, h1, h2⟩ := k2 hc
    exact ⟨r, g_if1 hd (fun z => absurd z hc) (fun _ => h1), h2⟩
theorem w_nul {o : Int} (hd : M.2.2.1.lookup pc = some (.ifnull o, nx, tg)) (k : ax_wp C M Q tg lv st h) : ax_wp C M Q pc lv (.null :: st) h := by
  obtain ⟨r, h1, h2⟩ := k
  exact ⟨r, g_nul hd h1, h2⟩
theorem w_nulR {o : Int} {a : Nat} (hd : M.2.2.1.lookup pc = some (.ifnull o, nx, tg)) (k : ax_wp C M Q nx lv st h) : ax_wp C M Q pc lv (.ref a :: st) h := by
  obtain ⟨r, h1, h2⟩ := k
  exact ⟨r, g_nulR hd h1, h2⟩
theorem w_nnl {o : Int} (hd : M.2.2.1.lookup pc = some (.ifnonnull o, nx, tg)) (k : ax_wp C M Q nx lv st h) : ax_wp C M Q pc lv (.null :: st) h := by
  obtain ⟨r, h1, h2⟩ := k
  exact ⟨r, g_nnl hd h1, h2⟩
theorem w_nnlR {o : Int} {a : Nat} (hd : M.2.2.1.lookup pc = some (.ifnonnull o, nx, tg)) (k : ax_wp C M Q tg lv st h) : ax_wp C M Q pc lv (.ref a :: st) h := by
  obtain ⟨r, h1, h2⟩ := k
  exact ⟨r, g_nnlR hd h1, h2⟩
theorem w_tsw {d lo hi : Int} {offs : Array Int} {x : Int32} {t : Nat} (hd : M.2.2.1.lookup pc = some (.tableswitch d lo hi offs, nx, tg)) (ht : ax_tsw pc d lo hi offs x = some t) (k : ax_wp C M Q t lv st h) : ax_wp C M Q pc lv (.int x :: st) h := by
  obtain ⟨r, h1, h2⟩ := k
  exact ⟨r, g_tsw hd ht h1, h2⟩
theorem w_lsw {d : Int} {ps : Array (Int × Int)} {x : Int32} {t : Nat} (hd : M.2.2.1.lookup pc = some (.lookupswitch d ps, nx, tg)) (ht : ax_to pc (Op.lookupswitch.offset ps.toList d x.toInt) = t) (k : ax_wp C M Q t lv st h) : ax_wp C M Q pc lv (.int x :: st) h := by
  obtain ⟨r, h1, h2⟩ := k
  exact ⟨r, g_lsw hd ht h1, h2⟩
theorem w_get {ix a ci j : Nat} {fs : List Value} {v : Value} (hd : M.2.2.1.lookup pc = some (.getfield ix, nx, tg)) (hf : ax_tF.lookup (ax_key M ix) = some (ci, j)) (hc : h.1[a]? = some (some (.inr (ci, fs)))) (hv : fs[j]? = some v) (k : ax_wp C M Q nx lv (v :: st) h) : ax_wp C M Q pc lv (.ref a :: st) h := by
  obtain ⟨r, h1, h2⟩ := k
  exact ⟨r, g_get hd hf hc hv h1, h2⟩
theorem w_put {H : List (Option ax_C)} {u : Nat} {ix a ci j : Nat} {fs : List Value} {v : Value} (hd : M.2.2.1.lookup pc = some (.putfield ix, nx, tg)) (hf : ax_tF.lookup (ax_key M ix) = some (ci, j)) (hc : H[a]? = some (some (.inr (ci, fs)))) (hl : j < fs.length) (hw : ax_fin ci j = false ∨ (M.2.2.2.2 = true ∧ M.1 = ci)) (hn : narrow (ax_ty ci j) v = v) (ht : fits (ax_ty ci j) v = true)
    (k : ax_wp C M Q nx lv st (H.set a (some (.inr (ci, fs.set j v))), u)) : ax_wp C M Q pc lv (v :: .ref a :: st) (H, u) := by
  obtain ⟨r, h1, h2⟩ := k
  exact ⟨r, g_put hd hf hc hl hw hn ht h1, h2⟩
theorem w_iald {a n : Nat} {i : Int32} {f : Nat → Int32} (hd : M.2.2.1.lookup pc = some (.iaload, nx, tg)) (hc : h.1[a]? = some (some (.inl (0, n, .inl f)))) (hi : vp_in i n) (k : ax_wp C M Q nx lv (.int (f i.toNatClampNeg) :: st) h) : ax_wp C M Q pc lv (.int i :: .ref a :: st) h := by
  obtain ⟨r, h1, h2⟩ := k
  exact ⟨r, g_iald hd hc hi h1, h2⟩
theorem w_sald {a n : Nat} {i : Int32} {f : Nat → Int32} (hd : M.2.2.1.lookup pc = some (.iaload, nx, tg)) (hc : h.1[a]? = some (some (.inl (9, n, .inl f)))) (hi : vp_in i n) (k : ax_wp C M Q nx lv (.int (f i.toNatClampNeg) :: st) h) : ax_wp C M Q pc lv (.int i :: .ref a :: st) h := by
  obtain ⟨r, h1, h2⟩ := k
  exact ⟨r, g_sald hd hc hi h1, h2⟩
theorem w_cald {a n : Nat} {i : Int32} {f : Nat → Int32} (hd : M.2.2.1.lookup pc = some (.caload, nx, tg)) (hc : h.1[a]? = some (some (.inl (2, n, .inl f)))) (hi : vp_in i n) (k : ax_wp C M Q nx lv (.int (f i.toNatClampNeg) :: st) h) : ax_wp C M Q pc lv (.int i :: .ref a :: st) h := by
  obtain ⟨r, h1, h2⟩ := k
  exact ⟨r, g_cald hd hc hi h1, h2⟩
theorem w_lald {a n : Nat} {i : Int32} {f : Nat → Int64} (hd : M.2.2.1.lookup pc = some (.laload, nx, tg)) (hc : h.1[a]? = some (some (.inl (1, n, .inr (.inl f))))) (hi : vp_in i n) (k : ax_wp C M Q nx lv (.long (f i.toNatClampNeg) :: st) h) : ax_wp C M Q pc lv (.int i :: .ref a :: st) h := by
  obtain ⟨r, h1, h2⟩ := k
  exact ⟨r, g_lald hd hc hi h1, h2⟩
theorem w_aald {a n q : Nat} {i : Int32} {f : Nat → Option Nat} (hd : M.2.2.1.lookup pc = some (.aaload, nx, tg)) (hc : h.1[a]? = some (some (.inl (q, n, .inr (.inr (.inr (.inr f))))))) (hq : q = 3 ∨ q = 4) (hi : vp_in i n) (k : ax_wp C M Q nx lv (va_rf (f i.toNatClampNeg) :: st) h) : ax_wp C M Q pc lv (.int i :: .ref a :: st) h := by
  obtain ⟨r, h1, h2⟩ := k
  exact ⟨r, g_aald hd hc hq hi h1, h2⟩
theorem w_iast {H : List (Option ax_C)} {u : Nat} {a n : Nat} {i x : Int32} {f : Nat → Int32} (hd : M.2.2.1.lookup pc = some (.iastore, nx, tg)) (hc : H[a]? = some (some (.inl (0, n, .inl f)))) (hi : vp_in i n) (k : ax_wp C M Q nx lv st (H.set a (some (.inl (0, n, .inl (upd f i.toNatClampNeg x)))), u)) : ax_wp C M Q pc lv (.int x :: .int i :: .ref a :: st) (H, u) := by
  obtain ⟨r, h1, h2⟩ := k
  exact ⟨r, g_iast hd hc hi h1, h2⟩
theorem w_cast {H : List (Option ax_C)} {u : Nat} {a n : Nat} {i x : Int32} {f : Nat → Int32} (hd : M.2.2.1.lookup pc = some (.castore, nx, tg)) (hc : H[a]? = some (some (.inl (2, n, .inl f)))) (hi : vp_in i n) (k : ax_wp C M Q nx lv st (H.set a (some (.inl (2, n, .inl (upd f i.toNatClampNeg (vp_nar .char x))))), u)) : ax_wp C M Q pc lv (.int x :: .int i :: .ref a :: st) (H, u) := by
  obtain ⟨r, h1, h2⟩ := k
  exact ⟨r, g_cast hd hc hi h1, h2⟩
theorem w_last {H : List (Option ax_C)} {u : Nat} {a n : Nat} {i : Int32} {x : Int64} {f : Nat → Int64} (hd : M.2.2.1.lookup pc = some (.lastore, nx, tg)) (hc : H[a]? = some (some (.inl (1, n, .inr (.inl f))))) (hi : vp_in i n) (k : ax_wp C M Q nx lv st (H.set a (some (.inl (1, n, .inr (.inl (vp_updL f i.toNatClampNeg x))))), u)) : ax_wp C M Q pc lv (.long x :: .int i :: .ref a :: st) (H, u) := by
  obtain ⟨r, h1, h2⟩ := k
  exact ⟨r, g_last hd hc hi h1, h2⟩
theorem w_aast {H : List (Option ax_C)} {u : Nat} {a n q v : Nat} {i : Int32} {f : Nat → Option Nat} {fs : List Value} (hd : M.2.2.1.lookup pc = some (.aastore, nx, tg)) (hc : H[a]? = some (some (.inl (q, n, .inr (.inr (.inr (.inr f))))))) (hq : q = 3 ∨ q = 4) (hi : vp_in i n) (hv : H[v]? = some (some (.inr (ax_cmp q, fs))))
    (k : ax_wp C M Q nx lv st (H.set a (some (.inl (q, n, .inr (.inr (.inr (.inr (va_up f i.toNatClampNeg (some v)))))))), u)) : ax_wp C M Q pc lv (.ref v :: .int i :: .ref a :: st) (H, u) := by
  obtain ⟨r, h1, h2⟩ := k
  exact ⟨r, g_aast hd hc hq hi hv h1, h2⟩
theorem w_aastN {H : List (Option ax_C)} {u : Nat} {a n q : Nat} {i : Int32} {f : Nat → Option Nat} (hd : M.2.2.1.lookup pc = some (.aastore, nx, tg)) (hc : H[a]? = some (some (.inl (q, n, .inr (.inr (.inr (.inr f))))))) (hq : q = 3 ∨ q = 4) (hi : vp_in i n)
    (k : ax_wp C M Q nx lv st (H.set a (some (.inl (q, n, .inr (.inr (.inr (.inr (va_up f i.toNatClampNeg none))))))), u)) : ax_wp C M Q pc lv (.null :: .int i :: .ref a :: st) (H, u) := by
  obtain ⟨r, h1, h2⟩ := k
  exact ⟨r, g_aastN hd hc hq hi h1, h2⟩
theorem w_alen {a q n : Nat} {z : (Nat → Int32) ⊕ (Nat → Int64) ⊕ (Nat → UInt32) ⊕ (Nat → UInt64) ⊕ (Nat → Option Nat)} (hd : M.2.2.1.lookup pc = some (.arraylength, nx, tg)) (hc : h.1[a]? = some (some (.inl (q, n, z)))) (hq : q < 5 ∨ (q = 9 ∧ a = 0)) (k : ax_wp C M Q nx lv (.int (nI n) :: st) h) : ax_wp C M Q pc lv (.ref a :: st) h := by
  obtain ⟨r, h1, h2⟩ := k
  exact ⟨r, g_alen hd hc hq h1, h2⟩
theorem w_newa {H : List (Option ax_C)} {u : Nat} {t : ArrayType} {n : Int32} {q : Nat} (hd : M.2.2.1.lookup pc = some (.newarray t, nx, tg)) (ht : ax_ak t = some q) (hn : ¬ n < 0) (hm : n.toNatClampNeg ≤ 1000000) (k : ax_wp C M Q nx lv (.ref H.length :: st) (H ++ [some (.inl (q, n.toNatClampNeg, ax_blank q))], u + n.toNatClampNeg)) : ax_wp C M Q pc lv (.int n :: st) (H, u) := by
  obtain ⟨r, h1, h2⟩ := k
  exact ⟨r, g_newa hd ht hn hm h1, h2⟩
theorem w_newq {H : List (Option ax_C)} {u : Nat} {ix : Nat} {n : Int32} {q : Nat} (hd : M.2.2.1.lookup pc = some (.anewarray ix, nx, tg)) (ht : ax_tR.lookup (ax_key M ix) = some q) (hn : ¬ n < 0) (hm : n.toNatClampNeg ≤ 1000000) (k : ax_wp C M Q nx lv (.ref H.length :: st) (H ++ [some (.inl (q, n.toNatClampNeg, ax_blank q))], u + n.toNatClampNeg)) : ax_wp C M Q pc lv (.int n :: st) (H, u) := by
  obtain ⟨r, h1, h2⟩ := k
  exact ⟨r, g_newq hd ht hn hm h1, h2⟩
theorem w_new {H : List (Option ax_C)} {u : Nat} {ix ci : Nat} (hd : M.2.2.1.lookup pc = some (.new ix, nx, tg)) (hn : ax_tN.lookup (ax_key M ix) = some ci) (k : ax_wp C M Q nx lv (.ref H.length :: st) (H ++ [some (.inr (ci, ax_dfl ci))], u + (ax_dfl ci).length)) : ax_wp C M Q pc lv st (H, u) := by
  obtain ⟨r, h1, h2⟩ := k
  exact ⟨r, g_new hd hn h1, h2⟩
theorem w_thr {H : List (Option ax_C)} {u : Nat} {ix E ik is : Nat} (hd : M.2.2.1.lookup pc = some (.new ix, nx, tg)) (hx : ax_tX.lookup (ax_key M ix) = some (E, ik)) (hh : M.2.2.2.1 = []) (h1 : M.2.2.1.lookup nx = some (.dup, nx + 1, 0)) (h2 : M.2.2.1.lookup (nx + 1) = some (.ldc is, nx + 3, 0)) (h3 : ax_key M is ∈ ax_tS) (h4 : M.2.2.1.lookup (nx + 3) = some (.invokespecial ik, nx + 6, 0)) (h5 : M.2.2.1.lookup (nx + 6) = some (.athrow, nx + 7, 0)) (hr : Q (.inr E, (H ++ [none], u + 6))) : ax_wp C M Q pc lv [] (H, u) := ⟨_, g_thr hd hx hh h1 h2 h3 h4 h5 rfl, hr⟩
theorem w_cs {ix mi n : Nat} {v : Option Value} {h1 : ax_H} (hd : M.2.2.1.lookup pc = some (.invokestatic ix, nx, tg)) (hm : ax_tM.lookup (ax_key M ix) = some (mi, n)) (hn : n ≤ st.length) (hw : ax_wsum (st.drop n) ≤ 8) (hc : C mi (st.take n).reverse h (.inl v, h1)) (k : ax_wp C M Q nx lv (v.toList ++ st.drop n) h1) : ax_wp C M Q pc lv st h := by
  obtain ⟨r, g1, g2⟩ := k
  exact ⟨r, g_cs hd hm hc hn hw g1, g2⟩
theorem w_cv {ix mi n a : Nat} {as fs : List Value} {v : Option Value} {h1 : ax_H} (hd : M.2.2.1.lookup pc = some (.invokevirtual ix, nx, tg)) (hm : ax_tM.lookup (ax_key M ix) = some (mi, n)) (ha : (st.take n).reverse = .ref a :: as) (ho : h.1[a]? = some (some (.inr (ax_rc mi, fs)))) (hn : n ≤ st.length) (hw : ax_wsum (st.drop n) ≤ 8) (hc : C mi (st.take n).reverse h (.inl v, h1)) (k : ax_wp C M Q nx lv (v.toList ++ st.drop n) h1) : ax_wp C M Q pc lv st h := by
  obtain ⟨r, g1, g2⟩ := k
  exact ⟨r, g_cv hd hm ha ho hc hn hw g1, g2⟩
theorem w_ci {ix mi n a : Nat} {as : List Value} {v : Option Value} {h1 : ax_H} (hd : M.2.2.1.lookup pc = some (.invokespecial ix, nx, tg)) (hm : ax_tM.lookup (ax_key M ix) = some (mi, n)) (ha : (st.take n).reverse = .ref a :: as) (hn : n ≤ st.length) (hw : ax_wsum (st.drop n) ≤ 8) (hc : C mi (st.take n).reverse h (.inl v, h1)) (k : ax_wp C M Q nx lv (v.toList ++ st.drop n) h1) : ax_wp C M Q pc lv st h := by
  obtain ⟨r, g1, g2⟩ := k
  exact ⟨r, g_ci hd hm ha hc hn hw g1, g2⟩
theorem w_oi {ix a : Nat} (hd : M.2.2.1.lookup pc = some (.invokespecial ix, nx, tg)) (ho : ax_key M ix ∈ ax_tO) (hw : ax_wsum st ≤ 8) (k : ax_wp C M Q nx lv st h) : ax_wp C M Q pc lv (.ref a :: st) h := by
  obtain ⟨r, g1, g2⟩ := k
  exact ⟨r, g_oi hd ho hw g1, g2⟩
theorem w_cvx {ix mi n E a : Nat} {as fs : List Value} {h1 : ax_H} (hd : M.2.2.1.lookup pc = some (.invokevirtual ix, nx, tg)) (hm : ax_tM.lookup (ax_key M ix) = some (mi, n)) (ha : (st.take n).reverse = .ref a :: as) (ho : h.1[a]? = some (some (.inr (ax_rc mi, fs)))) (hn : n ≤ st.length) (hw : ax_wsum (st.drop n) ≤ 8) (hE : E < 2) (hh : ax_hand M.1 M.2.2.2.1 pc E = none) (hc : C mi (st.take n).reverse h (.inr E, h1)) (hr : Q (.inr E, h1)) : ax_wp C M Q pc lv st h := ⟨_, g_cvx hd hm ha ho hc hn hw hE hh rfl, hr⟩
theorem w_csx {ix mi n E : Nat} {h1 : ax_H} (hd : M.2.2.1.lookup pc = some (.invokestatic ix, nx, tg)) (hm : ax_tM.lookup (ax_key M ix) = some (mi, n)) (hn : n ≤ st.length) (hw : ax_wsum (st.drop n) ≤ 8) (hE : E < 2) (hh : ax_hand M.1 M.2.2.2.1 pc E = none) (hc : C mi (st.take n).reverse h (.inr E, h1)) (hr : Q (.inr E, h1)) : ax_wp C M Q pc lv st h := ⟨_, g_csx hd hm hc hn hw hE hh rfl, hr⟩
theorem w_cvc {ix mi n E t a : Nat} {as fs : List Value} {h1 : ax_H} (hd : M.2.2.1.lookup pc = some (.invokevirtual ix, nx, tg)) (hm : ax_tM.lookup (ax_key M ix) = some (mi, n)) (ha : (st.take n).reverse = .ref a :: as) (ho : h.1[a]? = some (some (.inr (ax_rc mi, fs)))) (hn : n ≤ st.length) (hw : ax_wsum (st.drop n) ≤ 8) (hE : E < 2) (hh : ax_hand M.1 M.2.2.2.1 pc E = some t) (hc : C mi (st.take n).reverse h (.inr E, h1)) (k : ax_wp C M Q t lv [.ref (h1.1.length - 1)] h1) : ax_wp C M Q pc lv st h := by
  obtain ⟨r, g1, g2⟩ := k
  exact ⟨r, g_cvc hd hm ha ho hc hn hw hE hh g1, g2⟩
theorem w_iret {x : Int32} {rt : FieldType} (hd : M.2.2.1.lookup pc = some (.ireturn, nx, tg)) (ht : M.2.1 = some rt) (hx : narrow rt (.int x) = .int x) (hr : Q (.inl (some (.int x)), h)) : ax_wp C M Q pc lv [.int x] h := ⟨_, g_iret hd ht hx rfl, hr⟩
theorem w_lret {x : Int64} (hd : M.2.2.1.lookup pc = some (.lreturn, nx, tg)) (ht : M.2.1 = some .long) (hr : Q (.inl (some (.long x)), h)) : ax_wp C M Q pc lv [.long x] h := ⟨_, g_lret hd ht rfl, hr⟩
theorem w_aret {v : Value} {n : String} (hd : M.2.2.1.lookup pc = some (.areturn, nx, tg)) (ht : M.2.1 = some (.object n)) (hv : ax_isA v = true) (hr : Q (.inl (some v), h)) : ax_wp C M Q pc lv [v] h := ⟨_, g_aret hd ht hv rfl, hr⟩
theorem w_vret (hd : M.2.2.1.lookup pc = some (.return_, nx, tg)) (ht : M.2.1 = none) (hr : Q (.inl none, h)) : ax_wp C M Q pc lv [] h := ⟨_, g_vret hd ht rfl, hr⟩
end AxWp
section AxInc
variable {C : Nat → List Value → ax_H → ax_R → Prop} {M : ax_M} {Q : ax_R → Prop} {pc nx tg : Nat} {lv lv' : ax_L} {st st' : List Value} {h h' : ax_H}
theorem w_iadd1 {n : Nat} (hd : M.2.2.1.lookup pc = some (.iadd, nx, tg)) (k : ax_wp C M Q nx lv (.int (nI (n + 1)) :: st) h) : ax_wp C M Q pc lv (.int (Int32.ofInt 1) :: .int (nI n) :: st) h := by
  rw [nI_succ] at k
  exact w_s hd rfl k
theorem w_isub1 {n : Nat} (hd : M.2.2.1.lookup pc = some (.isub, nx, tg)) (k : ax_wp C M Q nx lv (.int (nI n) :: st) h) : ax_wp C M Q pc lv (.int (Int32.ofInt 1) :: .int (nI (n + 1)) :: st) h := by
  refine w_s hd rfl ?_
  show ax_wp C M Q nx lv (.int (nI (n + 1) - Int32.ofInt 1) :: st) h
  have e : nI (n + 1) - Int32.ofInt 1 = nI n := by
    rw [nI_succ]
    show nI n + 1 - 1 = nI n
    rw [Int32.add_sub_cancel]
  rw [e]
  exact k
theorem w_iinc1 {k0 n : Nat} (hd : M.2.2.1.lookup pc = some (.iinc k0 1, nx, tg)) (hl : lv.lookup k0 = some (.int (nI n))) (k : ax_wp C M Q nx (ax_sto1 k0 (.int (nI (n + 1))) lv) st h) : ax_wp C M Q pc lv st h := by
  refine w_s (lv' := ax_sto1 k0 (.int (nI (n + 1))) lv) (st' := st) (h' := h) (pc' := nx) hd ?_ k
  show ax_iinc k0 1 nx lv st h = _
  unfold ax_iinc
  rw [hl, nI_succ]
  rfl
end AxInc
