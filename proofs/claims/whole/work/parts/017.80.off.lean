/-! classes (grades) and offers, in the pool -/
abbrev ax_Gr : Type := (Nat → Int32) × (Nat → Int32) × (Nat → Int32) × (Nat) × (Int32)
abbrev ax_Gr.lim (c_ : ax_Gr) : Nat → Int32 := c_.1
abbrev ax_Gr.fr (c_ : ax_Gr) : Nat → Int32 := c_.2.1
abbrev ax_Gr.ce (c_ : ax_Gr) : Nat → Int32 := c_.2.2.1
abbrev ax_Gr.st (c_ : ax_Gr) : Nat := c_.2.2.2.1
abbrev ax_Gr.dy (c_ : ax_Gr) : Int32 := c_.2.2.2.2
abbrev ax_Gr.u_lim (c_ : ax_Gr) (z_ : Nat → Int32) : ax_Gr := (z_, c_.2)
abbrev ax_Gr.u_fr (c_ : ax_Gr) (z_ : Nat → Int32) : ax_Gr := (c_.1, z_, c_.2.2)
abbrev ax_Gr.u_ce (c_ : ax_Gr) (z_ : Nat → Int32) : ax_Gr := (c_.1, c_.2.1, z_, c_.2.2.2)
abbrev ax_Gr.u_st (c_ : ax_Gr) (z_ : Nat) : ax_Gr := (c_.1, c_.2.1, c_.2.2.1, z_, c_.2.2.2.2)
abbrev ax_Gr.u_dy (c_ : ax_Gr) (z_ : Int32) : ax_Gr := (c_.1, c_.2.1, c_.2.2.1, c_.2.2.2.1, z_)
abbrev ax_Of : Type := (Nat) × (Nat → ax_Gr)
abbrev ax_Of.n (c_ : ax_Of) : Nat := c_.1
abbrev ax_Of.g (c_ : ax_Of) : Nat → ax_Gr := c_.2
abbrev ax_Of.u_n (c_ : ax_Of) (z_ : Nat) : ax_Of := (z_, c_.2)
abbrev ax_Of.u_g (c_ : ax_Of) (z_ : Nat → ax_Gr) : ax_Of := (c_.1, z_)
def GradeAt (P : List (Option ax_C)) (i : Nat) (G : ax_Gr) : Prop :=
  ∃ (a b d : Nat) (can : Int32), P[i]? = some (ax_ob 3 [.ref (a + 40), .ref (b + 40), .ref (d + 40), .int (nI G.st), .int G.dy, .int can]) ∧ P[a]? = some (ax_aI 6 G.lim) ∧ P[b]? = some (ax_aI 4 G.fr) ∧ P[d]? = some (ax_aI 4 G.ce)
def OfferAt (P : List (Option ax_C)) (i : Nat) (F : ax_Of) : Prop :=
  ∃ (a : Nat) (gf : Nat → Option Nat), P[i]? = some (ax_ob 4 [.ref (a + 40), .int (nI F.n)]) ∧ P[a]? = some (ax_aG 4 gf) ∧ ∀ k, k < F.n → ∃ j, gf k = some (j + 40) ∧ GradeAt P j (F.g k)
abbrev GradeOk (G : ax_Gr) : Prop := (1 ≤ G.st) ∧ (G.st ≤ 4) ∧ (∀ k, k < 6 → 0 ≤ (G.lim k).toInt ∧ (G.lim k).toInt ≤ 1000000) ∧ (∀ s, s < G.st → 1 ≤ (G.fr s).toInt ∧ (G.fr s).toInt ≤ 1000000) ∧ (∀ s, s < G.st → 1 ≤ (G.ce s).toInt ∧ (G.ce s).toInt ≤ 1000000) ∧ (∀ s, s + 1 < G.st → (G.fr s).toInt < (G.fr (s + 1)).toInt) ∧ (0 ≤ G.dy.toInt ∧ G.dy.toInt ≤ 1000)
theorem GradeOk.s1 {G : ax_Gr} (h_ : GradeOk G) : 1 ≤ G.st := h_.1
theorem GradeOk.s4 {G : ax_Gr} (h_ : GradeOk G) : G.st ≤ 4 := h_.2.1
theorem GradeOk.lm {G : ax_Gr} (h_ : GradeOk G) : ∀ k, k < 6 → 0 ≤ (G.lim k).toInt ∧ (G.lim k).toInt ≤ 1000000 := h_.2.2.1
theorem GradeOk.fm {G : ax_Gr} (h_ : GradeOk G) : ∀ s, s < G.st → 1 ≤ (G.fr s).toInt ∧ (G.fr s).toInt ≤ 1000000 := h_.2.2.2.1
theorem GradeOk.cm {G : ax_Gr} (h_ : GradeOk G) : ∀ s, s < G.st → 1 ≤ (G.ce s).toInt ∧ (G.ce s).toInt ≤ 1000000 := h_.2.2.2.2.1
theorem GradeOk.up {G : ax_Gr} (h_ : GradeOk G) : ∀ s, s + 1 < G.st → (G.fr s).toInt < (G.fr (s + 1)).toInt := h_.2.2.2.2.2.1
theorem GradeOk.dm {G : ax_Gr} (h_ : GradeOk G) : 0 ≤ G.dy.toInt ∧ G.dy.toInt ≤ 1000 := h_.2.2.2.2.2.2
abbrev OfferOk (F : ax_Of) : Prop := (F.n ≤ 4) ∧ (∀ k, k < F.n → GradeOk (F.g k))
theorem OfferOk.n4 {F : ax_Of} (h_ : OfferOk F) : F.n ≤ 4 := h_.1
theorem OfferOk.gs {F : ax_Of} (h_ : OfferOk F) : ∀ k, k < F.n → GradeOk (F.g k) := h_.2
abbrev BoardOk (c : ax_St) : Prop := (c.bn ≤ 60) ∧ (∀ t, t < c.bn → 0 ≤ (c.kinds t).toInt ∧ (c.kinds t).toInt < 6) ∧ (∀ t, t < c.bn → 0 ≤ (c.values t).toInt ∧ (c.values t).toInt ≤ 1000000)
theorem BoardOk.n {c : ax_St} (h_ : BoardOk c) : c.bn ≤ 60 := h_.1
theorem BoardOk.k {c : ax_St} (h_ : BoardOk c) : ∀ t, t < c.bn → 0 ≤ (c.kinds t).toInt ∧ (c.kinds t).toInt < 6 := h_.2.1
theorem BoardOk.v {c : ax_St} (h_ : BoardOk c) : ∀ t, t < c.bn → 0 ≤ (c.values t).toInt ∧ (c.values t).toInt ≤ 1000000 := h_.2.2
theorem GradeAt.more {P P' : List (Option ax_C)} {i : Nat} {G : ax_Gr} (h : GradeAt P i G) (hp : ∀ (j : Nat) (x : Option ax_C), P[j]? = some x → P'[j]? = some x) : GradeAt P' i G := by
  obtain ⟨a, b, d, can, h1, h2, h3, h4⟩ := h
  exact ⟨a, b, d, can, hp _ _ h1, hp _ _ h2, hp _ _ h3, hp _ _ h4⟩
theorem OfferAt.more {P P' : List (Option ax_C)} {i : Nat} {F : ax_Of} (h : OfferAt P i F) (hp : ∀ (j : Nat) (x : Option ax_C), P[j]? = some x → P'[j]? = some x) : OfferAt P' i F := by
  obtain ⟨a, gf, h1, h2, h3⟩ := h
  refine ⟨a, gf, hp _ _ h1, hp _ _ h2, fun k hk => ?_⟩
  obtain ⟨j, e1, e2⟩ := h3 k hk
  exact ⟨j, e1, e2.more hp⟩
/-- by how much a thing is beyond -/
def ax_ex (c : ax_St) (G : ax_Gr) (t : Nat) : Int := if (c.kinds t).toInt < 4 then (G.lim (c.kinds t).toInt.toNat).toInt - (c.values t).toInt else (c.values t).toInt - (G.lim (c.kinds t).toInt.toNat).toInt
theorem ax_ex_b {c : ax_St} {G : ax_Gr} {t : Nat} (hb : BoardOk c) (hg : GradeOk G) (ht : t < c.bn) : -1000000 ≤ ax_ex c G t ∧ ax_ex c G t ≤ 1000000 := by
  have h1 := hb.k t ht
  have h2 := hb.v t ht
  have h3 := hg.lm (c.kinds t).toInt.toNat (by omega)
  unfold ax_ex
  split <;> omega
abbrev ax_made (c : ax_St) (G : ax_Gr) : Prop := ∀ t, t < c.bn → ax_ex c G t ≤ 0
def ax_lst (p : Nat → Bool) : Nat → Nat → Int32
  | 0, _ => -1
  | d + 1, k => if p k = true then nI k else ax_lst p d (k + 1)
def ax_least (c : ax_St) (F : ax_Of) : Int32 := ax_lst (fun k => decide (ax_made c (F.g k))) F.n 0
def ax_jx (p : Nat → Bool) : Nat → Nat
  | 0 => 0
  | s + 1 => if p s = true then s else ax_jx p s
/-- the price -/
def ax_paid (G : ax_Gr) (q : Int64) : Int := if q.toInt < (G.fr 0).toInt then (G.fr 0).toInt else q.toInt
def ax_pri (G : ax_Gr) (q : Int64) : Int := ax_paid G q * (G.ce (ax_jx (fun s => decide ((G.fr s).toInt ≤ ax_paid G q)) G.st)).toInt
section CF
variable {L : Nat} {xs : Nat → Int32} {c : ax_St} {m : ax_Mo} {o : Nat → Int64} {pool : List (Option ax_C)} {u : Nat} {h : ax_H}
theorem hp_at {i : Nat} {x : Option ax_C} (h : pool[i]? = some x) : (ax_hp L xs c m o pool)[i + 40]? = some x := h
theorem r_Gr_excess {g : Nat} {G : ax_Gr} (hg : GradeAt pool g G) (hok : GradeOk G) (k v : Int32) (hk : 0 ≤ k.toInt ∧ k.toInt < 6) (hv : 0 ≤ v.toInt ∧ v.toInt ≤ 1000000) :
    ax_run m_Gr_excess [.ref (g + 40), .int k, .int v] (ax_hp L xs c m o pool, u) (.inl (some (.int (Int32.ofInt (if k.toInt < 4 then (G.lim k.toInt.toNat).toInt - v.toInt else v.toInt - (G.lim k.toInt.toNat).toInt)))), (ax_hp L xs c m o pool, u)) := by
  obtain ⟨a, b, d, can, h1, h2, h3, h4⟩ := hg
  obtain ⟨n, rfl, hn1, hn2⟩ := q_nat (x := k) (by omega)
  have hl := hok.lm n (by omega)
  rw [← hn1]
  simp only [Int.toNat_natCast]
  (refine ax_run_T (ax_T_of M_Gr_excess rfl (Nat.le_of_ble_eq_true rfl) ?_))
  (repeat' (first | refine w_iadd1 rfl ?_ | refine w_isub1 rfl ?_ | refine w_iinc1 rfl rfl ?_ | refine w_s rfl rfl ?_ | refine w_get rfl rfl rfl rfl ?_ | refine w_nnl rfl ?_ | refine w_nnlR rfl ?_ | refine w_nul rfl ?_ | refine w_nulR rfl ?_ | refine w_ldc rfl rfl ?_ | refine w_ldc2 rfl rfl ?_ | refine w_put rfl rfl rfl (Nat.le_of_ble_eq_true rfl) (Or.inl rfl) rfl rfl ?_ | ((first | refine w_if2 rfl (fun _ => ?_) (fun _ => ?_) | refine w_if1 rfl (fun _ => ?_) (fun _ => ?_)) <;> try (exfalso; (((try simp only [c_eq0, c_ne0, c_Llt, c_Lle, c_Lgt, c_Lge, c_Leq, c_Lne] at *); try simp only [ax_cnd, vp_in_iff, Int32.lt_iff_toInt_lt, Int32.le_iff_toInt_le, Int64.lt_iff_toInt_lt, Int64.le_iff_toInt_le, q_eq, q_eqL, q_lg, q_nI, q_add, q_sub, q_mul, q_neg, q_addL, q_subL, q_mulL, q_negL, q_i2l, q_l2i, q_b8, q_b16, q_ofI, q_lit, q_ofNL, q_litL, ne_eq, gt_iff_lt, ge_iff_le] at *) <;> omega); done))))
  refine w_get rfl rfl (hp_at h1) rfl ?_
  (repeat (first | refine w_iadd1 rfl ?_ | refine w_isub1 rfl ?_ | refine w_iinc1 rfl rfl ?_ | refine w_s rfl rfl ?_ | refine w_get rfl rfl rfl rfl ?_ | refine w_nnl rfl ?_ | refine w_nnlR rfl ?_ | refine w_nul rfl ?_ | refine w_nulR rfl ?_ | refine w_ldc rfl rfl ?_ | refine w_ldc2 rfl rfl ?_ | refine w_put rfl rfl rfl (Nat.le_of_ble_eq_true rfl) (Or.inl rfl) rfl rfl ?_))
  refine w_ia rfl (hp_at h2) rfl (by omega) (by decide) ?_
  (repeat (first | refine w_iadd1 rfl ?_ | refine w_isub1 rfl ?_ | refine w_iinc1 rfl rfl ?_ | refine w_s rfl rfl ?_ | refine w_get rfl rfl rfl rfl ?_ | refine w_nnl rfl ?_ | refine w_nnlR rfl ?_ | refine w_nul rfl ?_ | refine w_nulR rfl ?_ | refine w_ldc rfl rfl ?_ | refine w_ldc2 rfl rfl ?_ | refine w_put rfl rfl rfl (Nat.le_of_ble_eq_true rfl) (Or.inl rfl) rfl rfl ?_))
  refine w_if2 rfl (fun h5 => ?_) (fun h5 => ?_)
  · (repeat (first | refine w_iadd1 rfl ?_ | refine w_isub1 rfl ?_ | refine w_iinc1 rfl rfl ?_ | refine w_s rfl rfl ?_ | refine w_get rfl rfl rfl rfl ?_ | refine w_nnl rfl ?_ | refine w_nnlR rfl ?_ | refine w_nul rfl ?_ | refine w_nulR rfl ?_ | refine w_ldc rfl rfl ?_ | refine w_ldc2 rfl rfl ?_ | refine w_put rfl rfl rfl (Nat.le_of_ble_eq_true rfl) (Or.inl rfl) rfl rfl ?_))
    refine w_eqI (y := Int32.ofInt (v.toInt - (G.lim n).toInt)) (by (((try simp only [c_eq0, c_ne0, c_Llt, c_Lle, c_Lgt, c_Lge, c_Leq, c_Lne] at *); try simp only [ax_cnd, vp_in_iff, Int32.lt_iff_toInt_lt, Int32.le_iff_toInt_le, Int64.lt_iff_toInt_lt, Int64.le_iff_toInt_le, q_eq, q_eqL, q_lg, q_nI, q_add, q_sub, q_mul, q_neg, q_addL, q_subL, q_mulL, q_negL, q_i2l, q_l2i, q_b8, q_b16, q_ofI, q_lit, q_ofNL, q_litL, ne_eq, gt_iff_lt, ge_iff_le] at *) <;> omega)) ?_
    (refine w_iret rfl rfl rfl ?_)
    rw [if_neg (by (((try simp only [c_eq0, c_ne0, c_Llt, c_Lle, c_Lgt, c_Lge, c_Leq, c_Lne] at *); try simp only [ax_cnd, vp_in_iff, Int32.lt_iff_toInt_lt, Int32.le_iff_toInt_le, Int64.lt_iff_toInt_lt, Int64.le_iff_toInt_le, q_eq, q_eqL, q_lg, q_nI, q_add, q_sub, q_mul, q_neg, q_addL, q_subL, q_mulL, q_negL, q_i2l, q_l2i, q_b8, q_b16, q_ofI, q_lit, q_ofNL, q_litL, ne_eq, gt_iff_lt, ge_iff_le] at *) <;> omega))]
  · (repeat (first | refine w_iadd1 rfl ?_ | refine w_isub1 rfl ?_ | refine w_iinc1 rfl rfl ?_ | refine w_s rfl rfl ?_ | refine w_get rfl rfl rfl rfl ?_ | refine w_nnl rfl ?_ | refine w_nnlR rfl ?_ | refine w_nul rfl ?_ | refine w_nulR rfl ?_ | refine w_ldc rfl rfl ?_ | refine w_ldc2 rfl rfl ?_ | refine w_put rfl rfl rfl (Nat.le_of_ble_eq_true rfl) (Or.inl rfl) rfl rfl ?_))
    refine w_eqI (y := Int32.ofInt ((G.lim n).toInt - v.toInt)) (by (((try simp only [c_eq0, c_ne0, c_Llt, c_Lle, c_Lgt, c_Lge, c_Leq, c_Lne] at *); try simp only [ax_cnd, vp_in_iff, Int32.lt_iff_toInt_lt, Int32.le_iff_toInt_le, Int64.lt_iff_toInt_lt, Int64.le_iff_toInt_le, q_eq, q_eqL, q_lg, q_nI, q_add, q_sub, q_mul, q_neg, q_addL, q_subL, q_mulL, q_negL, q_i2l, q_l2i, q_b8, q_b16, q_ofI, q_lit, q_ofNL, q_litL, ne_eq, gt_iff_lt, ge_iff_le] at *) <;> omega)) ?_
    (refine w_iret rfl rfl rfl ?_)
    rw [if_pos (by (((try simp only [c_eq0, c_ne0, c_Llt, c_Lle, c_Lgt, c_Lge, c_Leq, c_Lne] at *); try simp only [ax_cnd, vp_in_iff, Int32.lt_iff_toInt_lt, Int32.le_iff_toInt_le, Int64.lt_iff_toInt_lt, Int64.le_iff_toInt_le, q_eq, q_eqL, q_lg, q_nI, q_add, q_sub, q_mul, q_neg, q_addL, q_subL, q_mulL, q_negL, q_i2l, q_l2i, q_b8, q_b16, q_ofI, q_lit, q_ofNL, q_litL, ne_eq, gt_iff_lt, ge_iff_le] at *) <;> omega))]
theorem r_Bd_excess1 {g : Nat} {G : ax_Gr} (hg : GradeAt pool g G) (hok : GradeOk G) (hb : BoardOk c) (t : Nat) (ht : t < c.bn) :
    ax_run m_Bd_excess [.ref 5, .int (nI t), .ref (g + 40)] (ax_hp L xs c m o pool, u) (.inl (some (.int (Int32.ofInt (ax_ex c G t)))), (ax_hp L xs c m o pool, u)) := by
  have hn := hb.n
  (refine ax_run_T (ax_T_of M_Bd_excess rfl (Nat.le_of_ble_eq_true rfl) ?_))
  (repeat (first | refine w_iadd1 rfl ?_ | refine w_isub1 rfl ?_ | refine w_iinc1 rfl rfl ?_ | refine w_s rfl rfl ?_ | refine w_get rfl rfl rfl rfl ?_ | refine w_nnl rfl ?_ | refine w_nnlR rfl ?_ | refine w_nul rfl ?_ | refine w_nulR rfl ?_ | refine w_ldc rfl rfl ?_ | refine w_ldc2 rfl rfl ?_ | refine w_put rfl rfl rfl (Nat.le_of_ble_eq_true rfl) (Or.inl rfl) rfl rfl ?_))
  (refine w_cv rfl rfl rfl rfl (by exact Nat.le_of_ble_eq_true rfl) (by exact Nat.le_of_ble_eq_true rfl) (r_Bd_hasNo (nI t) hb.n) ?_; dsimp only [Option.toList, List.drop, List.cons_append, List.nil_append])
  (repeat' (first | refine w_iadd1 rfl ?_ | refine w_isub1 rfl ?_ | refine w_iinc1 rfl rfl ?_ | refine w_s rfl rfl ?_ | refine w_get rfl rfl rfl rfl ?_ | refine w_nnl rfl ?_ | refine w_nnlR rfl ?_ | refine w_nul rfl ?_ | refine w_nulR rfl ?_ | refine w_ldc rfl rfl ?_ | refine w_ldc2 rfl rfl ?_ | refine w_put rfl rfl rfl (Nat.le_of_ble_eq_true rfl) (Or.inl rfl) rfl rfl ?_ | ((first | refine w_if2 rfl (fun _ => ?_) (fun _ => ?_) | refine w_if1 rfl (fun _ => ?_) (fun _ => ?_)) <;> try (exfalso; (((try simp only [c_eq0, c_ne0, c_Llt, c_Lle, c_Lgt, c_Lge, c_Leq, c_Lne] at *); try simp only [ax_cnd, vp_in_iff, Int32.lt_iff_toInt_lt, Int32.le_iff_toInt_le, Int64.lt_iff_toInt_lt, Int64.le_iff_toInt_le, q_eq, q_eqL, q_lg, q_nI, q_add, q_sub, q_mul, q_neg, q_addL, q_subL, q_mulL, q_negL, q_i2l, q_l2i, q_b8, q_b16, q_ofI, q_lit, q_ofNL, q_litL, ne_eq, gt_iff_lt, ge_iff_le] at *) <;> omega); done))))
  refine w_ia rfl rfl rfl (by omega) (by decide) ?_
  (repeat (first | refine w_iadd1 rfl ?_ | refine w_isub1 rfl ?_ | refine w_iinc1 rfl rfl ?_ | refine w_s rfl rfl ?_ | refine w_get rfl rfl rfl rfl ?_ | refine w_nnl rfl ?_ | refine w_nnlR rfl ?_ | refine w_nul rfl ?_ | refine w_nulR rfl ?_ | refine w_ldc rfl rfl ?_ | refine w_ldc2 rfl rfl ?_ | refine w_put rfl rfl rfl (Nat.le_of_ble_eq_true rfl) (Or.inl rfl) rfl rfl ?_))
  refine w_ia rfl rfl rfl (by omega) (by decide) ?_
  obtain ⟨a, b, d, can, h1, -⟩ := id hg
  refine w_cv rfl rfl rfl (hp_at h1) (Nat.le_of_ble_eq_true rfl) (Nat.le_of_ble_eq_true rfl) (r_Gr_excess hg hok (c.kinds t) (c.values t) (hb.k t ht) (hb.v t ht)) ?_
  (refine w_iret rfl rfl rfl ?_)
  rfl
theorem r_Bd_excess0 {g : Nat} (hb : c.bn ≤ 60) (t : Nat) (ht : c.bn ≤ t) (ht2 : t < 100) :
    ax_run m_Bd_excess [.ref 5, .int (nI t), .ref (g + 40)] (ax_hp L xs c m o pool, u) (.inl (some (.int 0)), (ax_hp L xs c m o pool, u)) := by
  (refine ax_run_T (ax_T_of M_Bd_excess rfl (Nat.le_of_ble_eq_true rfl) ?_))
  (repeat (first | refine w_iadd1 rfl ?_ | refine w_isub1 rfl ?_ | refine w_iinc1 rfl rfl ?_ | refine w_s rfl rfl ?_ | refine w_get rfl rfl rfl rfl ?_ | refine w_nnl rfl ?_ | refine w_nnlR rfl ?_ | refine w_nul rfl ?_ | refine w_nulR rfl ?_ | refine w_ldc rfl rfl ?_ | refine w_ldc2 rfl rfl ?_ | refine w_put rfl rfl rfl (Nat.le_of_ble_eq_true rfl) (Or.inl rfl) rfl rfl ?_))
  (refine w_cv rfl rfl rfl rfl (by exact Nat.le_of_ble_eq_true rfl) (by exact Nat.le_of_ble_eq_true rfl) (r_Bd_hasNo (nI t) hb) ?_; dsimp only [Option.toList, List.drop, List.cons_append, List.nil_append])
  (repeat' (first | refine w_iadd1 rfl ?_ | refine w_isub1 rfl ?_ | refine w_iinc1 rfl rfl ?_ | refine w_s rfl rfl ?_ | refine w_get rfl rfl rfl rfl ?_ | refine w_nnl rfl ?_ | refine w_nnlR rfl ?_ | refine w_nul rfl ?_ | refine w_nulR rfl ?_ | refine w_ldc rfl rfl ?_ | refine w_ldc2 rfl rfl ?_ | refine w_put rfl rfl rfl (Nat.le_of_ble_eq_true rfl) (Or.inl rfl) rfl rfl ?_ | ((first | refine w_if2 rfl (fun _ => ?_) (fun _ => ?_) | refine w_if1 rfl (fun _ => ?_) (fun _ => ?_)) <;> try (exfalso; (((try simp only [c_eq0, c_ne0, c_Llt, c_Lle, c_Lgt, c_Lge, c_Leq, c_Lne] at *); try simp only [ax_cnd, vp_in_iff, Int32.lt_iff_toInt_lt, Int32.le_iff_toInt_le, Int64.lt_iff_toInt_lt, Int64.le_iff_toInt_le, q_eq, q_eqL, q_lg, q_nI, q_add, q_sub, q_mul, q_neg, q_addL, q_subL, q_mulL, q_negL, q_i2l, q_l2i, q_b8, q_b16, q_ofI, q_lit, q_ofNL, q_litL, ne_eq, gt_iff_lt, ge_iff_le] at *) <;> omega); done))))
  (refine w_iret rfl rfl rfl ?_)
  rfl
theorem r_isMadeBy {g : Nat} {G : ax_Gr} (hg : GradeAt pool g G) (hok : GradeOk G) (hb : BoardOk c) :
    ax_run m_Bd_isMadeBy [.ref 5, .ref (g + 40)] (ax_hp L xs c m o pool, u) (.inl (some (.int (bI (ax_made c G)))), (ax_hp L xs c m o pool, u)) := by
  have hn := hb.n
  have lp : ∀ (d k : Nat), k + d = c.bn → (∀ t, t < k → ax_ex c G t ≤ 0) → ax_wp ax_run M_Bd_isMadeBy (fun r' => r' = (.inl (some (.int (bI (ax_made c G)))), (ax_hp L xs c m o pool, u))) 2 [(0, .ref 5), (1, .ref (g + 40)), (2, .int (nI k))] [] (ax_hp L xs c m o pool, u) := by
    intro d
    induction d with
    | zero =>
      intro k hk hall
      (repeat' (first | refine w_iadd1 rfl ?_ | refine w_isub1 rfl ?_ | refine w_iinc1 rfl rfl ?_ | refine w_s rfl rfl ?_ | refine w_get rfl rfl rfl rfl ?_ | refine w_nnl rfl ?_ | refine w_nnlR rfl ?_ | refine w_nul rfl ?_ | refine w_nulR rfl ?_ | refine w_ldc rfl rfl ?_ | refine w_ldc2 rfl rfl ?_ | refine w_put rfl rfl rfl (Nat.le_of_ble_eq_true rfl) (Or.inl rfl) rfl rfl ?_ | ((first | refine w_if2 rfl (fun _ => ?_) (fun _ => ?_) | refine w_if1 rfl (fun _ => ?_) (fun _ => ?_)) <;> try (exfalso; (((try simp only [c_eq0, c_ne0, c_Llt, c_Lle, c_Lgt, c_Lge, c_Leq, c_Lne] at *); try simp only [ax_cnd, vp_in_iff, Int32.lt_iff_toInt_lt, Int32.le_iff_toInt_le, Int64.lt_iff_toInt_lt, Int64.le_iff_toInt_le, q_eq, q_eqL, q_lg, q_nI, q_add, q_sub, q_mul, q_neg, q_addL, q_subL, q_mulL, q_negL, q_i2l, q_l2i, q_b8, q_b16, q_ofI, q_lit, q_ofNL, q_litL, ne_eq, gt_iff_lt, ge_iff_le] at *) <;> omega); done))))
      (refine w_iret rfl rfl rfl ?_)
      exact bT (fun t ht => hall t (by omega))
    | succ d ih =>
      intro k hk hall
      (repeat' (first | refine w_iadd1 rfl ?_ | refine w_isub1 rfl ?_ | refine w_iinc1 rfl rfl ?_ | refine w_s rfl rfl ?_ | refine w_get rfl rfl rfl rfl ?_ | refine w_nnl rfl ?_ | refine w_nnlR rfl ?_ | refine w_nul rfl ?_ | refine w_nulR rfl ?_ | refine w_ldc rfl rfl ?_ | refine w_ldc2 rfl rfl ?_ | refine w_put rfl rfl rfl (Nat.le_of_ble_eq_true rfl) (Or.inl rfl) rfl rfl ?_ | ((first | refine w_if2 rfl (fun _ => ?_) (fun _ => ?_) | refine w_if1 rfl (fun _ => ?_) (fun _ => ?_)) <;> try (exfalso; (((try simp only [c_eq0, c_ne0, c_Llt, c_Lle, c_Lgt, c_Lge, c_Leq, c_Lne] at *); try simp only [ax_cnd, vp_in_iff, Int32.lt_iff_toInt_lt, Int32.le_iff_toInt_le, Int64.lt_iff_toInt_lt, Int64.le_iff_toInt_le, q_eq, q_eqL, q_lg, q_nI, q_add, q_sub, q_mul, q_neg, q_addL, q_subL, q_mulL, q_negL, q_i2l, q_l2i, q_b8, q_b16, q_ofI, q_lit, q_ofNL, q_litL, ne_eq, gt_iff_lt, ge_iff_le] at *) <;> omega); done))))
      (refine w_cv rfl rfl rfl rfl (by exact Nat.le_of_ble_eq_true rfl) (by exact Nat.le_of_ble_eq_true rfl) (r_Bd_excess1 hg hok hb k (by omega)) ?_; dsimp only [Option.toList, List.drop, List.cons_append, List.nil_append])
      have hx := ax_ex_b hb hok (t := k) (by omega)
      refine w_if1 rfl (fun h5 => ?_) (fun h5 => ?_)
      · (repeat ((fail_if_success (show ax_wp _ _ _ 2 _ _ _)); (first | refine w_iadd1 rfl ?_ | refine w_isub1 rfl ?_ | refine w_iinc1 rfl rfl ?_ | refine w_s rfl rfl ?_ | refine w_get rfl rfl rfl rfl ?_ | refine w_nnl rfl ?_ | refine w_nnlR rfl ?_ | refine w_nul rfl ?_ | refine w_nulR rfl ?_ | refine w_ldc rfl rfl ?_ | refine w_ldc2 rfl rfl ?_ | refine w_put rfl rfl rfl (Nat.le_of_ble_eq_true rfl) (Or.inl rfl) rfl rfl ?_)))
        refine w_lv (ih (k + 1) (by omega) (fun t ht => ?_)) rfl ⟨rfl, rfl, rfl, trivial⟩
        by_cases hk2 : t = k
        · subst hk2
          have h6 : (Int32.ofInt (ax_ex c G t)).toInt ≤ 0 := by
            have := Int32.le_iff_toInt_le.mp h5
            exact this
          rw [q_ofI] at h6
          omega
        · exact hall t (by omega)
      · (repeat (first | refine w_iadd1 rfl ?_ | refine w_isub1 rfl ?_ | refine w_iinc1 rfl rfl ?_ | refine w_s rfl rfl ?_ | refine w_get rfl rfl rfl rfl ?_ | refine w_nnl rfl ?_ | refine w_nnlR rfl ?_ | refine w_nul rfl ?_ | refine w_nulR rfl ?_ | refine w_ldc rfl rfl ?_ | refine w_ldc2 rfl rfl ?_ | refine w_put rfl rfl rfl (Nat.le_of_ble_eq_true rfl) (Or.inl rfl) rfl rfl ?_))
        (refine w_iret rfl rfl rfl ?_)
        refine bF (fun hm => ?_)
        have h6 := hm k (by omega)
        apply h5
        show _ ≤ (0 : Int32)
        rw [Int32.le_iff_toInt_le, q_ofI]
        show _ ≤ (0 : Int)
        omega
  (refine ax_run_T (ax_T_of M_Bd_isMadeBy rfl (Nat.le_of_ble_eq_true rfl) ?_))
  (repeat ((fail_if_success (show ax_wp _ _ _ 2 _ _ _)); (first | refine w_iadd1 rfl ?_ | refine w_isub1 rfl ?_ | refine w_iinc1 rfl rfl ?_ | refine w_s rfl rfl ?_ | refine w_get rfl rfl rfl rfl ?_ | refine w_nnl rfl ?_ | refine w_nnlR rfl ?_ | refine w_nul rfl ?_ | refine w_nulR rfl ?_ | refine w_ldc rfl rfl ?_ | refine w_ldc2 rfl rfl ?_ | refine w_put rfl rfl rfl (Nat.le_of_ble_eq_true rfl) (Or.inl rfl) rfl rfl ?_)))
  exact w_lv (lp c.bn 0 (by omega) (fun t ht => absurd ht (by omega))) rfl ⟨rfl, rfl, rfl, trivial⟩
theorem r_gradeAt0 {f : Nat} {F : ax_Of} (hf : OfferAt pool f F) (hok : OfferOk F) (k : Int32) (hk : ¬ (0 ≤ k.toInt ∧ k.toInt < F.n)) :
    ax_run m_Of_gradeAt [.ref (f + 40), .int k] (ax_hp L xs c m o pool, u) (.inl (some .null), (ax_hp L xs c m o pool, u)) := by
  have hn := hok.n4
  obtain ⟨a, gf, h1, h2, h3⟩ := hf
  (refine ax_run_T (ax_T_of M_Of_gradeAt rfl (Nat.le_of_ble_eq_true rfl) ?_))
  (repeat' (first | refine w_iadd1 rfl ?_ | refine w_isub1 rfl ?_ | refine w_iinc1 rfl rfl ?_ | refine w_s rfl rfl ?_ | refine w_get rfl rfl rfl rfl ?_ | refine w_nnl rfl ?_ | refine w_nnlR rfl ?_ | refine w_nul rfl ?_ | refine w_nulR rfl ?_ | refine w_ldc rfl rfl ?_ | refine w_ldc2 rfl rfl ?_ | refine w_put rfl rfl rfl (Nat.le_of_ble_eq_true rfl) (Or.inl rfl) rfl rfl ?_ | ((first | refine w_if2 rfl (fun _ => ?_) (fun _ => ?_) | refine w_if1 rfl (fun _ => ?_) (fun _ => ?_)) <;> try (exfalso; (((try simp only [c_eq0, c_ne0, c_Llt, c_Lle, c_Lgt, c_Lge, c_Leq, c_Lne] at *); try simp only [ax_cnd, vp_in_iff, Int32.lt_iff_toInt_lt, Int32.le_iff_toInt_le, Int64.lt_iff_toInt_lt, Int64.le_iff_toInt_le, q_eq, q_eqL, q_lg, q_nI, q_add, q_sub, q_mul, q_neg, q_addL, q_subL, q_mulL, q_negL, q_i2l, q_l2i, q_b8, q_b16, q_ofI, q_lit, q_ofNL, q_litL, ne_eq, gt_iff_lt, ge_iff_le] at *) <;> omega); done))))
  · refine w_aret rfl rfl rfl rfl
  · refine w_get rfl rfl (hp_at h1) rfl ?_
    (repeat' (first | refine w_iadd1 rfl ?_ | refine w_isub1 rfl ?_ | refine w_iinc1 rfl rfl ?_ | refine w_s rfl rfl ?_ | refine w_get rfl rfl rfl rfl ?_ | refine w_nnl rfl ?_ | refine w_nnlR rfl ?_ | refine w_nul rfl ?_ | refine w_nulR rfl ?_ | refine w_ldc rfl rfl ?_ | refine w_ldc2 rfl rfl ?_ | refine w_put rfl rfl rfl (Nat.le_of_ble_eq_true rfl) (Or.inl rfl) rfl rfl ?_ | ((first | refine w_if2 rfl (fun _ => ?_) (fun _ => ?_) | refine w_if1 rfl (fun _ => ?_) (fun _ => ?_)) <;> try (exfalso; (((try simp only [c_eq0, c_ne0, c_Llt, c_Lle, c_Lgt, c_Lge, c_Leq, c_Lne] at *); try simp only [ax_cnd, vp_in_iff, Int32.lt_iff_toInt_lt, Int32.le_iff_toInt_le, Int64.lt_iff_toInt_lt, Int64.le_iff_toInt_le, q_eq, q_eqL, q_lg, q_nI, q_add, q_sub, q_mul, q_neg, q_addL, q_subL, q_mulL, q_negL, q_i2l, q_l2i, q_b8, q_b16, q_ofI, q_lit, q_ofNL, q_litL, ne_eq, gt_iff_lt, ge_iff_le] at *) <;> omega); done))))
    refine w_aret rfl rfl rfl rfl
theorem r_gradeAt1 {f : Nat} {F : ax_Of} (hf : OfferAt pool f F) (hok : OfferOk F) (k : Nat) (hk : k < F.n) :
    ∃ j, GradeAt pool j (F.g k) ∧ ax_run m_Of_gradeAt [.ref (f + 40), .int (nI k)] (ax_hp L xs c m o pool, u) (.inl (some (.ref (j + 40))), (ax_hp L xs c m o pool, u)) := by
  have hn := hok.n4
  obtain ⟨a, gf, h1, h2, h3⟩ := hf
  obtain ⟨j, e1, e2⟩ := h3 k hk
  refine ⟨j, e2, ?_⟩
  (refine ax_run_T (ax_T_of M_Of_gradeAt rfl (Nat.le_of_ble_eq_true rfl) ?_))
  (repeat' (first | refine w_iadd1 rfl ?_ | refine w_isub1 rfl ?_ | refine w_iinc1 rfl rfl ?_ | refine w_s rfl rfl ?_ | refine w_get rfl rfl rfl rfl ?_ | refine w_nnl rfl ?_ | refine w_nnlR rfl ?_ | refine w_nul rfl ?_ | refine w_nulR rfl ?_ | refine w_ldc rfl rfl ?_ | refine w_ldc2 rfl rfl ?_ | refine w_put rfl rfl rfl (Nat.le_of_ble_eq_true rfl) (Or.inl rfl) rfl rfl ?_ | ((first | refine w_if2 rfl (fun _ => ?_) (fun _ => ?_) | refine w_if1 rfl (fun _ => ?_) (fun _ => ?_)) <;> try (exfalso; (((try simp only [c_eq0, c_ne0, c_Llt, c_Lle, c_Lgt, c_Lge, c_Leq, c_Lne] at *); try simp only [ax_cnd, vp_in_iff, Int32.lt_iff_toInt_lt, Int32.le_iff_toInt_le, Int64.lt_iff_toInt_lt, Int64.le_iff_toInt_le, q_eq, q_eqL, q_lg, q_nI, q_add, q_sub, q_mul, q_neg, q_addL, q_subL, q_mulL, q_negL, q_i2l, q_l2i, q_b8, q_b16, q_ofI, q_lit, q_ofNL, q_litL, ne_eq, gt_iff_lt, ge_iff_le] at *) <;> omega); done))))
  refine w_get rfl rfl (hp_at h1) rfl ?_
  (repeat' (first | refine w_iadd1 rfl ?_ | refine w_isub1 rfl ?_ | refine w_iinc1 rfl rfl ?_ | refine w_s rfl rfl ?_ | refine w_get rfl rfl rfl rfl ?_ | refine w_nnl rfl ?_ | refine w_nnlR rfl ?_ | refine w_nul rfl ?_ | refine w_nulR rfl ?_ | refine w_ldc rfl rfl ?_ | refine w_ldc2 rfl rfl ?_ | refine w_put rfl rfl rfl (Nat.le_of_ble_eq_true rfl) (Or.inl rfl) rfl rfl ?_ | ((first | refine w_if2 rfl (fun _ => ?_) (fun _ => ?_) | refine w_if1 rfl (fun _ => ?_) (fun _ => ?_)) <;> try (exfalso; (((try simp only [c_eq0, c_ne0, c_Llt, c_Lle, c_Lgt, c_Lge, c_Leq, c_Lne] at *); try simp only [ax_cnd, vp_in_iff, Int32.lt_iff_toInt_lt, Int32.le_iff_toInt_le, Int64.lt_iff_toInt_lt, Int64.le_iff_toInt_le, q_eq, q_eqL, q_lg, q_nI, q_add, q_sub, q_mul, q_neg, q_addL, q_subL, q_mulL, q_negL, q_i2l, q_l2i, q_b8, q_b16, q_ofI, q_lit, q_ofNL, q_litL, ne_eq, gt_iff_lt, ge_iff_le] at *) <;> omega); done))))
  refine w_get rfl rfl (hp_at h1) rfl ?_
  (repeat (first | refine w_iadd1 rfl ?_ | refine w_isub1 rfl ?_ | refine w_iinc1 rfl rfl ?_ | refine w_s rfl rfl ?_ | refine w_get rfl rfl rfl rfl ?_ | refine w_nnl rfl ?_ | refine w_nnlR rfl ?_ | refine w_nul rfl ?_ | refine w_nulR rfl ?_ | refine w_ldc rfl rfl ?_ | refine w_ldc2 rfl rfl ?_ | refine w_put rfl rfl rfl (Nat.le_of_ble_eq_true rfl) (Or.inl rfl) rfl rfl ?_))
  refine w_aa rfl (hp_at h2) (Or.inr rfl) rfl (by omega) (by decide) ?_
  rw [e1]
  refine w_aret rfl rfl rfl rfl
theorem r_leastFor {f : Nat} {F : ax_Of} (hf : OfferAt pool f F) (hok : OfferOk F) (hb : BoardOk c) :
    ax_run m_Of_leastFor [.ref (f + 40), .ref 5] (ax_hp L xs c m o pool, u) (.inl (some (.int (ax_least c F))), (ax_hp L xs c m o pool, u)) := by
  have hn := hok.n4
  have lp : ∀ (d k : Nat), k + d = F.n → ax_wp ax_run M_Of_leastFor (fun r' => r' = (.inl (some (.int (ax_lst (fun k => decide (ax_made c (F.g k))) d k))), (ax_hp L xs c m o pool, u))) 2 [(0, .ref (f + 40)), (1, .ref 5), (2, .int (nI k))] [] (ax_hp L xs c m o pool, u) := by
    intro d
    induction d with
    | zero =>
      intro k hk
      obtain ⟨a, gf, h1, h2, h3⟩ := id hf
      (repeat (first | refine w_iadd1 rfl ?_ | refine w_isub1 rfl ?_ | refine w_iinc1 rfl rfl ?_ | refine w_s rfl rfl ?_ | refine w_get rfl rfl rfl rfl ?_ | refine w_nnl rfl ?_ | refine w_nnlR rfl ?_ | refine w_nul rfl ?_ | refine w_nulR rfl ?_ | refine w_ldc rfl rfl ?_ | refine w_ldc2 rfl rfl ?_ | refine w_put rfl rfl rfl (Nat.le_of_ble_eq_true rfl) (Or.inl rfl) rfl rfl ?_))
      refine w_get rfl rfl (hp_at h1) rfl ?_
      (repeat' (first | refine w_iadd1 rfl ?_ | refine w_isub1 rfl ?_ | refine w_iinc1 rfl rfl ?_ | refine w_s rfl rfl ?_ | refine w_get rfl rfl rfl rfl ?_ | refine w_nnl rfl ?_ | refine w_nnlR rfl ?_ | refine w_nul rfl ?_ | refine w_nulR rfl ?_ | refine w_ldc rfl rfl ?_ | refine w_ldc2 rfl rfl ?_ | refine w_put rfl rfl rfl (Nat.le_of_ble_eq_true rfl) (Or.inl rfl) rfl rfl ?_ | ((first | refine w_if2 rfl (fun _ => ?_) (fun _ => ?_) | refine w_if1 rfl (fun _ => ?_) (fun _ => ?_)) <;> try (exfalso; (((try simp only [c_eq0, c_ne0, c_Llt, c_Lle, c_Lgt, c_Lge, c_Leq, c_Lne] at *); try simp only [ax_cnd, vp_in_iff, Int32.lt_iff_toInt_lt, Int32.le_iff_toInt_le, Int64.lt_iff_toInt_lt, Int64.le_iff_toInt_le, q_eq, q_eqL, q_lg, q_nI, q_add, q_sub, q_mul, q_neg, q_addL, q_subL, q_mulL, q_negL, q_i2l, q_l2i, q_b8, q_b16, q_ofI, q_lit, q_ofNL, q_litL, ne_eq, gt_iff_lt, ge_iff_le] at *) <;> omega); done))))
      (refine w_iret rfl rfl rfl ?_)
      rfl
    | succ d ih =>
      intro k hk
      obtain ⟨a, gf, h1, h2, h3⟩ := id hf
      (repeat (first | refine w_iadd1 rfl ?_ | refine w_isub1 rfl ?_ | refine w_iinc1 rfl rfl ?_ | refine w_s rfl rfl ?_ | refine w_get rfl rfl rfl rfl ?_ | refine w_nnl rfl ?_ | refine w_nnlR rfl ?_ | refine w_nul rfl ?_ | refine w_nulR rfl ?_ | refine w_ldc rfl rfl ?_ | refine w_ldc2 rfl rfl ?_ | refine w_put rfl rfl rfl (Nat.le_of_ble_eq_true rfl) (Or.inl rfl) rfl rfl ?_))
      refine w_get rfl rfl (hp_at h1) rfl ?_
      (repeat' (first | refine w_iadd1 rfl ?_ | refine w_isub1 rfl ?_ | refine w_iinc1 rfl rfl ?_ | refine w_s rfl rfl ?_ | refine w_get rfl rfl rfl rfl ?_ | refine w_nnl rfl ?_ | refine w_nnlR rfl ?_ | refine w_nul rfl ?_ | refine w_nulR rfl ?_ | refine w_ldc rfl rfl ?_ | refine w_ldc2 rfl rfl ?_ | refine w_put rfl rfl rfl (Nat.le_of_ble_eq_true rfl) (Or.inl rfl) rfl rfl ?_ | ((first | refine w_if2 rfl (fun _ => ?_) (fun _ => ?_) | refine w_if1 rfl (fun _ => ?_) (fun _ => ?_)) <;> try (exfalso; (((try simp only [c_eq0, c_ne0, c_Llt, c_Lle, c_Lgt, c_Lge, c_Leq, c_Lne] at *); try simp only [ax_cnd, vp_in_iff, Int32.lt_iff_toInt_lt, Int32.le_iff_toInt_le, Int64.lt_iff_toInt_lt, Int64.le_iff_toInt_le, q_eq, q_eqL, q_lg, q_nI, q_add, q_sub, q_mul, q_neg, q_addL, q_subL, q_mulL, q_negL, q_i2l, q_l2i, q_b8, q_b16, q_ofI, q_lit, q_ofNL, q_litL, ne_eq, gt_iff_lt, ge_iff_le] at *) <;> omega); done))))
      obtain ⟨j, hj, hr⟩ := r_gradeAt1 (L := L) (xs := xs) (c := c) (m := m) (o := o) (u := u) hf hok k (by omega)
      refine w_cv rfl rfl rfl (hp_at h1) (Nat.le_of_ble_eq_true rfl) (Nat.le_of_ble_eq_true rfl) hr ?_
      dsimp only [Option.toList, List.drop, List.cons_append, List.nil_append]
      (repeat (first | refine w_iadd1 rfl ?_ | refine w_isub1 rfl ?_ | refine w_iinc1 rfl rfl ?_ | refine w_s rfl rfl ?_ | refine w_get rfl rfl rfl rfl ?_ | refine w_nnl rfl ?_ | refine w_nnlR rfl ?_ | refine w_nul rfl ?_ | refine w_nulR rfl ?_ | refine w_ldc rfl rfl ?_ | refine w_ldc2 rfl rfl ?_ | refine w_put rfl rfl rfl (Nat.le_of_ble_eq_true rfl) (Or.inl rfl) rfl rfl ?_))
      (refine w_cv rfl rfl rfl rfl (by exact Nat.le_of_ble_eq_true rfl) (by exact Nat.le_of_ble_eq_true rfl) (r_isMadeBy hj (hok.gs k (by omega)) hb) ?_; dsimp only [Option.toList, List.drop, List.cons_append, List.nil_append])
      refine w_if1 rfl (fun h5 => ?_) (fun h5 => ?_)
      · have h6 := c_eq0.mp h5
        (repeat ((fail_if_success (show ax_wp _ _ _ 2 _ _ _)); (first | refine w_iadd1 rfl ?_ | refine w_isub1 rfl ?_ | refine w_iinc1 rfl rfl ?_ | refine w_s rfl rfl ?_ | refine w_get rfl rfl rfl rfl ?_ | refine w_nnl rfl ?_ | refine w_nnlR rfl ?_ | refine w_nul rfl ?_ | refine w_nulR rfl ?_ | refine w_ldc rfl rfl ?_ | refine w_ldc2 rfl rfl ?_ | refine w_put rfl rfl rfl (Nat.le_of_ble_eq_true rfl) (Or.inl rfl) rfl rfl ?_)))
        refine w_lv (l1 := [(0, .ref (f + 40)), (1, .ref 5), (2, .int (nI (k + 1)))]) (w_post (ih (k + 1) (by omega)) (fun r hr => ?_)) rfl ⟨rfl, rfl, rfl, trivial⟩
        rw [hr]
        simp only [ax_lst, h6, decide_false, Bool.false_eq_true, if_false]
      · have h6 : ax_made c (F.g k) := Decidable.not_not.mp (fun z => h5 (c_eq0.mpr z))
        (repeat (first | refine w_iadd1 rfl ?_ | refine w_isub1 rfl ?_ | refine w_iinc1 rfl rfl ?_ | refine w_s rfl rfl ?_ | refine w_get rfl rfl rfl rfl ?_ | refine w_nnl rfl ?_ | refine w_nnlR rfl ?_ | refine w_nul rfl ?_ | refine w_nulR rfl ?_ | refine w_ldc rfl rfl ?_ | refine w_ldc2 rfl rfl ?_ | refine w_put rfl rfl rfl (Nat.le_of_ble_eq_true rfl) (Or.inl rfl) rfl rfl ?_))
        (refine w_iret rfl rfl rfl ?_)
        show _ = (Sum.inl (some (Value.int (if decide (ax_made c (F.g k)) = true then nI k else _))), _)
        rw [if_pos (decide_eq_true h6)]
  (refine ax_run_T (ax_T_of M_Of_leastFor rfl (Nat.le_of_ble_eq_true rfl) ?_))
  (repeat ((fail_if_success (show ax_wp _ _ _ 2 _ _ _)); (first | refine w_iadd1 rfl ?_ | refine w_isub1 rfl ?_ | refine w_iinc1 rfl rfl ?_ | refine w_s rfl rfl ?_ | refine w_get rfl rfl rfl rfl ?_ | refine w_nnl rfl ?_ | refine w_nnlR rfl ?_ | refine w_nul rfl ?_ | refine w_nulR rfl ?_ | refine w_ldc rfl rfl ?_ | refine w_ldc2 rfl rfl ?_ | refine w_put rfl rfl rfl (Nat.le_of_ble_eq_true rfl) (Or.inl rfl) rfl rfl ?_)))
  exact w_lv (lp F.n 0 (by omega)) rfl ⟨rfl, rfl, rfl, trivial⟩
end CF
