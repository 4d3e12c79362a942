section CI
variable {L : Nat} {xs : Nat → Int32} {c : ax_St} {m : ax_Mo} {o : Nat → Int64} {pool : List (Option ax_C)} {u : Nat} {h : ax_H}
theorem r_offerAt0 (hq : c.qn ≤ 10) (k : Int32) (hk : k.toInt < 0) : ax_run m_Qu_offerAt [.ref 14, .int k] (ax_hp L xs c m o pool, u) (.inl (some .null), (ax_hp L xs c m o pool, u)) := by
  (refine ax_run_T (ax_T_of M_Qu_offerAt rfl (Nat.le_of_ble_eq_true rfl) ?_))
  (repeat' (first | refine w_iadd1 rfl ?_ | refine w_isub1 rfl ?_ | refine w_iinc1 rfl rfl ?_ | refine w_s rfl rfl ?_ | refine w_get rfl rfl rfl rfl ?_ | refine w_nnl rfl ?_ | refine w_nnlR rfl ?_ | refine w_nul rfl ?_ | refine w_nulR rfl ?_ | refine w_ldc rfl rfl ?_ | refine w_ldc2 rfl rfl ?_ | refine w_put rfl rfl rfl (Nat.le_of_ble_eq_true rfl) (Or.inl rfl) rfl rfl ?_ | ((first | refine w_if2 rfl (fun _ => ?_) (fun _ => ?_) | refine w_if1 rfl (fun _ => ?_) (fun _ => ?_)) <;> try (exfalso; (((try simp only [c_eq0, c_ne0, c_Llt, c_Lle, c_Lgt, c_Lge, c_Leq, c_Lne] at *); try simp only [ax_cnd, vp_in_iff, Int32.lt_iff_toInt_lt, Int32.le_iff_toInt_le, Int64.lt_iff_toInt_lt, Int64.le_iff_toInt_le, q_eq, q_eqL, q_lg, q_nI, q_add, q_sub, q_mul, q_neg, q_addL, q_subL, q_mulL, q_negL, q_i2l, q_l2i, q_b8, q_b16, q_ofI, q_lit, q_ofNL, q_litL, ne_eq, gt_iff_lt, ge_iff_le] at *) <;> omega); done))))
  exact w_aret rfl rfl rfl rfl
theorem r_offerAt1 (hq : c.qn ≤ 10) (k i : Nat) (hk : k < c.qn) (hi : c.qo k = some (i + 40)) : ax_run m_Qu_offerAt [.ref 14, .int (nI k)] (ax_hp L xs c m o pool, u) (.inl (some (.ref (i + 40))), (ax_hp L xs c m o pool, u)) := by
  (refine ax_run_T (ax_T_of M_Qu_offerAt rfl (Nat.le_of_ble_eq_true rfl) ?_))
  (repeat' (first | refine w_iadd1 rfl ?_ | refine w_isub1 rfl ?_ | refine w_iinc1 rfl rfl ?_ | refine w_s rfl rfl ?_ | refine w_get rfl rfl rfl rfl ?_ | refine w_nnl rfl ?_ | refine w_nnlR rfl ?_ | refine w_nul rfl ?_ | refine w_nulR rfl ?_ | refine w_ldc rfl rfl ?_ | refine w_ldc2 rfl rfl ?_ | refine w_put rfl rfl rfl (Nat.le_of_ble_eq_true rfl) (Or.inl rfl) rfl rfl ?_ | ((first | refine w_if2 rfl (fun _ => ?_) (fun _ => ?_) | refine w_if1 rfl (fun _ => ?_) (fun _ => ?_)) <;> try (exfalso; (((try simp only [c_eq0, c_ne0, c_Llt, c_Lle, c_Lgt, c_Lge, c_Leq, c_Lne] at *); try simp only [ax_cnd, vp_in_iff, Int32.lt_iff_toInt_lt, Int32.le_iff_toInt_le, Int64.lt_iff_toInt_lt, Int64.le_iff_toInt_le, q_eq, q_eqL, q_lg, q_nI, q_add, q_sub, q_mul, q_neg, q_addL, q_subL, q_mulL, q_negL, q_i2l, q_l2i, q_b8, q_b16, q_ofI, q_lit, q_ofNL, q_litL, ne_eq, gt_iff_lt, ge_iff_le] at *) <;> omega); done))))
  refine w_aa rfl rfl (Or.inl rfl) rfl (by omega) (by decide) ?_
  rw [hi]
  exact w_aret rfl rfl rfl rfl
def ax_row (f : Nat → Int32) (r : Nat) (k cl q dy : Int32) (p : Int64) (l : Int32) : Nat → Int32 :=
  upd (upd (upd (upd (upd (upd (upd f r k) (r + 1) cl) (r + 2) q) (r + 3) dy) (r + 4) (p / 1000).toInt32) (r + 5) (p - p / 1000 * 1000).toInt32) (r + 6) l
theorem r_Or_add0 (k cl q dy : Int32) (p : Int64) (l : Int32) (hn : c.on = 20) : ax_run m_Or_add [.ref 18, .int k, .int cl, .int q, .int dy, .long p, .int l] (ax_hp L xs c m o pool, u) (.inl (some (.int (-1))), (ax_hp L xs c m o pool, u)) := by
  (refine ax_run_T (ax_T_of M_Or_add rfl (Nat.le_of_ble_eq_true rfl) ?_))
  (repeat' (first | refine w_iadd1 rfl ?_ | refine w_isub1 rfl ?_ | refine w_iinc1 rfl rfl ?_ | refine w_s rfl rfl ?_ | refine w_get rfl rfl rfl rfl ?_ | refine w_nnl rfl ?_ | refine w_nnlR rfl ?_ | refine w_nul rfl ?_ | refine w_nulR rfl ?_ | refine w_ldc rfl rfl ?_ | refine w_ldc2 rfl rfl ?_ | refine w_put rfl rfl rfl (Nat.le_of_ble_eq_true rfl) (Or.inl rfl) rfl rfl ?_ | ((first | refine w_if2 rfl (fun _ => ?_) (fun _ => ?_) | refine w_if1 rfl (fun _ => ?_) (fun _ => ?_)) <;> try (exfalso; (((try simp only [c_eq0, c_ne0, c_Llt, c_Lle, c_Lgt, c_Lge, c_Leq, c_Lne] at *); try simp only [ax_cnd, vp_in_iff, Int32.lt_iff_toInt_lt, Int32.le_iff_toInt_le, Int64.lt_iff_toInt_lt, Int64.le_iff_toInt_le, q_eq, q_eqL, q_lg, q_nI, q_add, q_sub, q_mul, q_neg, q_addL, q_subL, q_mulL, q_negL, q_i2l, q_l2i, q_b8, q_b16, q_ofI, q_lit, q_ofNL, q_litL, ne_eq, gt_iff_lt, ge_iff_le] at *) <;> omega); done))))
  (refine w_iret rfl rfl rfl ?_)
  rfl
theorem r_Or_add1 (k cl q dy : Int32) (p : Int64) (l : Int32) (hn : c.on < 20) : ax_run m_Or_add [.ref 18, .int k, .int cl, .int q, .int dy, .long p, .int l] (ax_hp L xs c m o pool, u) (.inl (some (.int (nI c.on))), (ax_hp L xs (ax_St.u_on (ax_St.u_parts c (ax_row c.parts (7 * c.on) k cl q dy p l)) (c.on + 1)) m o pool, u)) := by
  (refine ax_run_T (ax_T_of M_Or_add rfl (Nat.le_of_ble_eq_true rfl) ?_))
  (repeat ((fail_if_success (show ax_wp _ _ _ 6 _ _ _)); (first | refine w_iadd1 rfl ?_ | refine w_isub1 rfl ?_ | refine w_iinc1 rfl rfl ?_ | refine w_s rfl rfl ?_ | refine w_get rfl rfl rfl rfl ?_ | refine w_nnl rfl ?_ | refine w_nnlR rfl ?_ | refine w_nul rfl ?_ | refine w_nulR rfl ?_ | refine w_ldc rfl rfl ?_ | refine w_ldc2 rfl rfl ?_ | refine w_put rfl rfl rfl (Nat.le_of_ble_eq_true rfl) (Or.inl rfl) rfl rfl ?_)))
  ((first | refine w_if2 rfl (fun _ => ?_) (fun _ => ?_) | refine w_if1 rfl (fun _ => ?_) (fun _ => ?_)) <;> try (exfalso; (((try simp only [c_eq0, c_ne0, c_Llt, c_Lle, c_Lgt, c_Lge, c_Leq, c_Lne] at *); try simp only [ax_cnd, vp_in_iff, Int32.lt_iff_toInt_lt, Int32.le_iff_toInt_le, Int64.lt_iff_toInt_lt, Int64.le_iff_toInt_le, q_eq, q_eqL, q_lg, q_nI, q_add, q_sub, q_mul, q_neg, q_addL, q_subL, q_mulL, q_negL, q_i2l, q_l2i, q_b8, q_b16, q_ofI, q_lit, q_ofNL, q_litL, ne_eq, gt_iff_lt, ge_iff_le] at *) <;> omega); done))
  (repeat ((fail_if_success (show ax_wp _ _ _ 18 _ _ _)); (first | refine w_iadd1 rfl ?_ | refine w_isub1 rfl ?_ | refine w_iinc1 rfl rfl ?_ | refine w_s rfl rfl ?_ | refine w_get rfl rfl rfl rfl ?_ | refine w_nnl rfl ?_ | refine w_nnlR rfl ?_ | refine w_nul rfl ?_ | refine w_nulR rfl ?_ | refine w_ldc rfl rfl ?_ | refine w_ldc2 rfl rfl ?_ | refine w_put rfl rfl rfl (Nat.le_of_ble_eq_true rfl) (Or.inl rfl) rfl rfl ?_)))
  refine w_eqI (y := nI (7 * c.on)) (by (((try simp only [c_eq0, c_ne0, c_Llt, c_Lle, c_Lgt, c_Lge, c_Leq, c_Lne] at *); try simp only [ax_cnd, vp_in_iff, Int32.lt_iff_toInt_lt, Int32.le_iff_toInt_le, Int64.lt_iff_toInt_lt, Int64.le_iff_toInt_le, q_eq, q_eqL, q_lg, q_nI, q_add, q_sub, q_mul, q_neg, q_addL, q_subL, q_mulL, q_negL, q_i2l, q_l2i, q_b8, q_b16, q_ofI, q_lit, q_ofNL, q_litL, ne_eq, gt_iff_lt, ge_iff_le] at *) <;> omega)) ?_
  (repeat (first | refine w_iadd1 rfl ?_ | refine w_isub1 rfl ?_ | refine w_iinc1 rfl rfl ?_ | refine w_s rfl rfl ?_ | refine w_get rfl rfl rfl rfl ?_ | refine w_nnl rfl ?_ | refine w_nnlR rfl ?_ | refine w_nul rfl ?_ | refine w_nulR rfl ?_ | refine w_ldc rfl rfl ?_ | refine w_ldc2 rfl rfl ?_ | refine w_put rfl rfl rfl (Nat.le_of_ble_eq_true rfl) (Or.inl rfl) rfl rfl ?_))
  refine w_ias rfl rfl rfl (by omega) (by decide) ?_
  (repeat (first | refine w_iadd1 rfl ?_ | refine w_isub1 rfl ?_ | refine w_iinc1 rfl rfl ?_ | refine w_s rfl rfl ?_ | refine w_get rfl rfl rfl rfl ?_ | refine w_nnl rfl ?_ | refine w_nnlR rfl ?_ | refine w_nul rfl ?_ | refine w_nulR rfl ?_ | refine w_ldc rfl rfl ?_ | refine w_ldc2 rfl rfl ?_ | refine w_put rfl rfl rfl (Nat.le_of_ble_eq_true rfl) (Or.inl rfl) rfl rfl ?_))
  refine w_ias (j := 7 * c.on + 1) rfl rfl rfl (by omega) (by decide) ?_
  (repeat (first | refine w_iadd1 rfl ?_ | refine w_isub1 rfl ?_ | refine w_iinc1 rfl rfl ?_ | refine w_s rfl rfl ?_ | refine w_get rfl rfl rfl rfl ?_ | refine w_nnl rfl ?_ | refine w_nnlR rfl ?_ | refine w_nul rfl ?_ | refine w_nulR rfl ?_ | refine w_ldc rfl rfl ?_ | refine w_ldc2 rfl rfl ?_ | refine w_put rfl rfl rfl (Nat.le_of_ble_eq_true rfl) (Or.inl rfl) rfl rfl ?_))
  refine w_ias (j := 7 * c.on + 2) rfl rfl (by (((try simp only [c_eq0, c_ne0, c_Llt, c_Lle, c_Lgt, c_Lge, c_Leq, c_Lne] at *); try simp only [ax_cnd, vp_in_iff, Int32.lt_iff_toInt_lt, Int32.le_iff_toInt_le, Int64.lt_iff_toInt_lt, Int64.le_iff_toInt_le, q_eq, q_eqL, q_lg, q_nI, q_add, q_sub, q_mul, q_neg, q_addL, q_subL, q_mulL, q_negL, q_i2l, q_l2i, q_b8, q_b16, q_ofI, q_lit, q_ofNL, q_litL, ne_eq, gt_iff_lt, ge_iff_le] at *) <;> omega)) (by omega) (by decide) ?_
  (repeat (first | refine w_iadd1 rfl ?_ | refine w_isub1 rfl ?_ | refine w_iinc1 rfl rfl ?_ | refine w_s rfl rfl ?_ | refine w_get rfl rfl rfl rfl ?_ | refine w_nnl rfl ?_ | refine w_nnlR rfl ?_ | refine w_nul rfl ?_ | refine w_nulR rfl ?_ | refine w_ldc rfl rfl ?_ | refine w_ldc2 rfl rfl ?_ | refine w_put rfl rfl rfl (Nat.le_of_ble_eq_true rfl) (Or.inl rfl) rfl rfl ?_))
  refine w_ias (j := 7 * c.on + 3) rfl rfl (by (((try simp only [c_eq0, c_ne0, c_Llt, c_Lle, c_Lgt, c_Lge, c_Leq, c_Lne] at *); try simp only [ax_cnd, vp_in_iff, Int32.lt_iff_toInt_lt, Int32.le_iff_toInt_le, Int64.lt_iff_toInt_lt, Int64.le_iff_toInt_le, q_eq, q_eqL, q_lg, q_nI, q_add, q_sub, q_mul, q_neg, q_addL, q_subL, q_mulL, q_negL, q_i2l, q_l2i, q_b8, q_b16, q_ofI, q_lit, q_ofNL, q_litL, ne_eq, gt_iff_lt, ge_iff_le] at *) <;> omega)) (by omega) (by decide) ?_
  (repeat (first | refine w_iadd1 rfl ?_ | refine w_isub1 rfl ?_ | refine w_iinc1 rfl rfl ?_ | refine w_s rfl rfl ?_ | refine w_get rfl rfl rfl rfl ?_ | refine w_nnl rfl ?_ | refine w_nnlR rfl ?_ | refine w_nul rfl ?_ | refine w_nulR rfl ?_ | refine w_ldc rfl rfl ?_ | refine w_ldc2 rfl rfl ?_ | refine w_put rfl rfl rfl (Nat.le_of_ble_eq_true rfl) (Or.inl rfl) rfl rfl ?_))
  refine w_ldiv rfl (by decide) ?_
  (repeat (first | refine w_iadd1 rfl ?_ | refine w_isub1 rfl ?_ | refine w_iinc1 rfl rfl ?_ | refine w_s rfl rfl ?_ | refine w_get rfl rfl rfl rfl ?_ | refine w_nnl rfl ?_ | refine w_nnlR rfl ?_ | refine w_nul rfl ?_ | refine w_nulR rfl ?_ | refine w_ldc rfl rfl ?_ | refine w_ldc2 rfl rfl ?_ | refine w_put rfl rfl rfl (Nat.le_of_ble_eq_true rfl) (Or.inl rfl) rfl rfl ?_))
  refine w_ias (j := 7 * c.on + 4) rfl rfl (by (((try simp only [c_eq0, c_ne0, c_Llt, c_Lle, c_Lgt, c_Lge, c_Leq, c_Lne] at *); try simp only [ax_cnd, vp_in_iff, Int32.lt_iff_toInt_lt, Int32.le_iff_toInt_le, Int64.lt_iff_toInt_lt, Int64.le_iff_toInt_le, q_eq, q_eqL, q_lg, q_nI, q_add, q_sub, q_mul, q_neg, q_addL, q_subL, q_mulL, q_negL, q_i2l, q_l2i, q_b8, q_b16, q_ofI, q_lit, q_ofNL, q_litL, ne_eq, gt_iff_lt, ge_iff_le] at *) <;> omega)) (by omega) (by decide) ?_
  (repeat (first | refine w_iadd1 rfl ?_ | refine w_isub1 rfl ?_ | refine w_iinc1 rfl rfl ?_ | refine w_s rfl rfl ?_ | refine w_get rfl rfl rfl rfl ?_ | refine w_nnl rfl ?_ | refine w_nnlR rfl ?_ | refine w_nul rfl ?_ | refine w_nulR rfl ?_ | refine w_ldc rfl rfl ?_ | refine w_ldc2 rfl rfl ?_ | refine w_put rfl rfl rfl (Nat.le_of_ble_eq_true rfl) (Or.inl rfl) rfl rfl ?_))
  refine w_lrem rfl (by decide) ?_
  (repeat (first | refine w_iadd1 rfl ?_ | refine w_isub1 rfl ?_ | refine w_iinc1 rfl rfl ?_ | refine w_s rfl rfl ?_ | refine w_get rfl rfl rfl rfl ?_ | refine w_nnl rfl ?_ | refine w_nnlR rfl ?_ | refine w_nul rfl ?_ | refine w_nulR rfl ?_ | refine w_ldc rfl rfl ?_ | refine w_ldc2 rfl rfl ?_ | refine w_put rfl rfl rfl (Nat.le_of_ble_eq_true rfl) (Or.inl rfl) rfl rfl ?_))
  refine w_ias (j := 7 * c.on + 5) rfl rfl (by (((try simp only [c_eq0, c_ne0, c_Llt, c_Lle, c_Lgt, c_Lge, c_Leq, c_Lne] at *); try simp only [ax_cnd, vp_in_iff, Int32.lt_iff_toInt_lt, Int32.le_iff_toInt_le, Int64.lt_iff_toInt_lt, Int64.le_iff_toInt_le, q_eq, q_eqL, q_lg, q_nI, q_add, q_sub, q_mul, q_neg, q_addL, q_subL, q_mulL, q_negL, q_i2l, q_l2i, q_b8, q_b16, q_ofI, q_lit, q_ofNL, q_litL, ne_eq, gt_iff_lt, ge_iff_le] at *) <;> omega)) (by omega) (by decide) ?_
  (repeat (first | refine w_iadd1 rfl ?_ | refine w_isub1 rfl ?_ | refine w_iinc1 rfl rfl ?_ | refine w_s rfl rfl ?_ | refine w_get rfl rfl rfl rfl ?_ | refine w_nnl rfl ?_ | refine w_nnlR rfl ?_ | refine w_nul rfl ?_ | refine w_nulR rfl ?_ | refine w_ldc rfl rfl ?_ | refine w_ldc2 rfl rfl ?_ | refine w_put rfl rfl rfl (Nat.le_of_ble_eq_true rfl) (Or.inl rfl) rfl rfl ?_))
  refine w_ias (j := 7 * c.on + 6) rfl rfl (by (((try simp only [c_eq0, c_ne0, c_Llt, c_Lle, c_Lgt, c_Lge, c_Leq, c_Lne] at *); try simp only [ax_cnd, vp_in_iff, Int32.lt_iff_toInt_lt, Int32.le_iff_toInt_le, Int64.lt_iff_toInt_lt, Int64.le_iff_toInt_le, q_eq, q_eqL, q_lg, q_nI, q_add, q_sub, q_mul, q_neg, q_addL, q_subL, q_mulL, q_negL, q_i2l, q_l2i, q_b8, q_b16, q_ofI, q_lit, q_ofNL, q_litL, ne_eq, gt_iff_lt, ge_iff_le] at *) <;> omega)) (by omega) (by decide) ?_
  (repeat (first | refine w_iadd1 rfl ?_ | refine w_isub1 rfl ?_ | refine w_iinc1 rfl rfl ?_ | refine w_s rfl rfl ?_ | refine w_get rfl rfl rfl rfl ?_ | refine w_nnl rfl ?_ | refine w_nnlR rfl ?_ | refine w_nul rfl ?_ | refine w_nulR rfl ?_ | refine w_ldc rfl rfl ?_ | refine w_ldc2 rfl rfl ?_ | refine w_put rfl rfl rfl (Nat.le_of_ble_eq_true rfl) (Or.inl rfl) rfl rfl ?_))
  (refine w_iret rfl rfl rfl ?_)
  rfl
def ax_ofr (c : ax_St) (Fs Qs : Nat → ax_Of) (k : Nat) (l : Int32) : ax_Of := if l.toInt < 0 then Fs k else Qs l.toInt.toNat
def sp_order2 (c : ax_St) (k : Int32) (q : Int64) (l : Int32) (F : ax_Of) : ax_SR :=
  if ax_least c F = -1 then .inl (.int (-1), c) else if c.on = 20 then .inl (.int (-1), c)
  else .inl (.int (nI c.on), (ax_St.u_on (ax_St.u_parts c (ax_row c.parts (7 * c.on) k (ax_least c F) q.toInt32 (F.g (ax_least c F).toInt.toNat).dy (Int64.ofInt (ax_pri (F.g (ax_least c F).toInt.toNat) q)) l)) (c.on + 1)))
def sp_order (c : ax_St) (Fs Qs : Nat → ax_Of) (k : Int32) (q d : Int64) : ax_SR :=
  if ¬ (0 ≤ k.toInt ∧ k.toInt < c.told) then .inr 0 else if ¬ (1 ≤ q.toInt ∧ q.toInt ≤ 1000000) then .inr 1
  else sp_order2 c k q (ax_latest c k d) (ax_ofr c Fs Qs k.toInt.toNat (ax_latest c k d))
theorem r_order {Fs Qs : Nat → ax_Of} (hF : OffOk c pool Fs) (hQ : QuOk c pool Qs) (hb : BoardOk c) (ho : c.on ≤ 20) (k : Int32) (q d : Int64) : ax_run m_ML_order [.ref 1, .int k, .long q, .long d] (ax_hp L xs c m o pool, u) (ax_out L xs m o pool u c (sp_order c Fs Qs k q d)) := by
  have hn := hF.n
  have hqn := hQ.n
  unfold sp_order
  split
  · (refine ax_run_T (ax_T_of M_ML_order rfl (Nat.le_of_ble_eq_true rfl) ?_))
    (repeat (first | refine w_iadd1 rfl ?_ | refine w_isub1 rfl ?_ | refine w_iinc1 rfl rfl ?_ | refine w_s rfl rfl ?_ | refine w_get rfl rfl rfl rfl ?_ | refine w_nnl rfl ?_ | refine w_nnlR rfl ?_ | refine w_nul rfl ?_ | refine w_nulR rfl ?_ | refine w_ldc rfl rfl ?_ | refine w_ldc2 rfl rfl ?_ | refine w_put rfl rfl rfl (Nat.le_of_ble_eq_true rfl) (Or.inl rfl) rfl rfl ?_))
    exact w_cvx rfl rfl rfl rfl (Nat.le_of_ble_eq_true rfl) (Nat.le_of_ble_eq_true rfl) (by decide) rfl (r_offerOf0 hF k (by assumption)) rfl
  · rename_i h0
    obtain ⟨n, rfl, hn1, hn2⟩ := q_nat (x := k) (by omega)
    have hnn : (nI n).toInt.toNat = n := by rw [← hn1]; rfl
    obtain ⟨i, e1, e2, e3⟩ := hF.at_ n (by omega)
    split
    · (refine ax_run_T (ax_T_of M_ML_order rfl (Nat.le_of_ble_eq_true rfl) ?_))
      (repeat (first | refine w_iadd1 rfl ?_ | refine w_isub1 rfl ?_ | refine w_iinc1 rfl rfl ?_ | refine w_s rfl rfl ?_ | refine w_get rfl rfl rfl rfl ?_ | refine w_nnl rfl ?_ | refine w_nnlR rfl ?_ | refine w_nul rfl ?_ | refine w_nulR rfl ?_ | refine w_ldc rfl rfl ?_ | refine w_ldc2 rfl rfl ?_ | refine w_put rfl rfl rfl (Nat.le_of_ble_eq_true rfl) (Or.inl rfl) rfl rfl ?_))
      (refine w_cv rfl rfl rfl rfl (by exact Nat.le_of_ble_eq_true rfl) (by exact Nat.le_of_ble_eq_true rfl) (r_offerOf1 (by omega) e1) ?_; dsimp only [Option.toList, List.drop, List.cons_append, List.nil_append])
      (repeat (first | refine w_iadd1 rfl ?_ | refine w_isub1 rfl ?_ | refine w_iinc1 rfl rfl ?_ | refine w_s rfl rfl ?_ | refine w_get rfl rfl rfl rfl ?_ | refine w_nnl rfl ?_ | refine w_nnlR rfl ?_ | refine w_nul rfl ?_ | refine w_nulR rfl ?_ | refine w_ldc rfl rfl ?_ | refine w_ldc2 rfl rfl ?_ | refine w_put rfl rfl rfl (Nat.le_of_ble_eq_true rfl) (Or.inl rfl) rfl rfl ?_))
      exact w_csx rfl rfl (Nat.le_of_ble_eq_true rfl) (Nat.le_of_ble_eq_true rfl) (by decide) rfl (r_checkQ0 q (by assumption)) rfl
    · rename_i h9
      have tail : ∀ (F : ax_Of) (f : Nat) (l : Int32), OfferAt pool f F → OfferOk F → ax_wp ax_run M_ML_order (fun r' => r' = ax_out L xs m o pool u c (sp_order2 c (nI n) q l F)) 48 [(0, .ref 1), (1, .int (nI n)), (2, .long q), (7, .int l), (9, .ref (f + 40))] [] (ax_hp L xs c m o pool, u) := by
        intro F f l hf hok
        obtain ⟨a, gf, z1, -⟩ := id hf
        (repeat (first | refine w_iadd1 rfl ?_ | refine w_isub1 rfl ?_ | refine w_iinc1 rfl rfl ?_ | refine w_s rfl rfl ?_ | refine w_get rfl rfl rfl rfl ?_ | refine w_nnl rfl ?_ | refine w_nnlR rfl ?_ | refine w_nul rfl ?_ | refine w_nulR rfl ?_ | refine w_ldc rfl rfl ?_ | refine w_ldc2 rfl rfl ?_ | refine w_put rfl rfl rfl (Nat.le_of_ble_eq_true rfl) (Or.inl rfl) rfl rfl ?_))
        refine w_cv rfl rfl rfl (hp_at z1) (Nat.le_of_ble_eq_true rfl) (Nat.le_of_ble_eq_true rfl) (r_leastFor hf hok hb) ?_
        dsimp only [Option.toList, List.drop, List.cons_append, List.nil_append]
        (repeat (first | refine w_iadd1 rfl ?_ | refine w_isub1 rfl ?_ | refine w_iinc1 rfl rfl ?_ | refine w_s rfl rfl ?_ | refine w_get rfl rfl rfl rfl ?_ | refine w_nnl rfl ?_ | refine w_nnlR rfl ?_ | refine w_nul rfl ?_ | refine w_nulR rfl ?_ | refine w_ldc rfl rfl ?_ | refine w_ldc2 rfl rfl ?_ | refine w_put rfl rfl rfl (Nat.le_of_ble_eq_true rfl) (Or.inl rfl) rfl rfl ?_))
        rcases ax_least_r (c := c) hok.n4 with hl | ⟨b, hb1, hl⟩
        · rw [hl]
          refine w_cv rfl rfl rfl (hp_at z1) (Nat.le_of_ble_eq_true rfl) (Nat.le_of_ble_eq_true rfl) (r_gradeAt0 hf hok (-1) (fun z => absurd z.1 (by decide))) ?_
          dsimp only [Option.toList, List.drop, List.cons_append, List.nil_append]
          (repeat (first | refine w_iadd1 rfl ?_ | refine w_isub1 rfl ?_ | refine w_iinc1 rfl rfl ?_ | refine w_s rfl rfl ?_ | refine w_get rfl rfl rfl rfl ?_ | refine w_nnl rfl ?_ | refine w_nnlR rfl ?_ | refine w_nul rfl ?_ | refine w_nulR rfl ?_ | refine w_ldc rfl rfl ?_ | refine w_ldc2 rfl rfl ?_ | refine w_put rfl rfl rfl (Nat.le_of_ble_eq_true rfl) (Or.inl rfl) rfl rfl ?_))
          (refine w_iret rfl rfl rfl ?_)
          unfold sp_order2
          rw [if_pos hl]
          rfl
        · have hn4 := hok.n4
          have hbb : (nI b).toInt.toNat = b := by rw [q_nI' (by omega)]; rfl
          obtain ⟨g, g1, g2⟩ := r_gradeAt1 (L := L) (xs := xs) (c := c) (m := m) (o := o) (u := u) hf hok b hb1
          rw [hl]
          refine w_cv rfl rfl rfl (hp_at z1) (Nat.le_of_ble_eq_true rfl) (Nat.le_of_ble_eq_true rfl) g2 ?_
          dsimp only [Option.toList, List.drop, List.cons_append, List.nil_append]
          (repeat (first | refine w_iadd1 rfl ?_ | refine w_isub1 rfl ?_ | refine w_iinc1 rfl rfl ?_ | refine w_s rfl rfl ?_ | refine w_get rfl rfl rfl rfl ?_ | refine w_nnl rfl ?_ | refine w_nnlR rfl ?_ | refine w_nul rfl ?_ | refine w_nulR rfl ?_ | refine w_ldc rfl rfl ?_ | refine w_ldc2 rfl rfl ?_ | refine w_put rfl rfl rfl (Nat.le_of_ble_eq_true rfl) (Or.inl rfl) rfl rfl ?_))
          obtain ⟨ga, gb, gd, can, y1, -⟩ := id g1
          refine w_get rfl rfl (hp_at y1) rfl ?_
          (repeat (first | refine w_iadd1 rfl ?_ | refine w_isub1 rfl ?_ | refine w_iinc1 rfl rfl ?_ | refine w_s rfl rfl ?_ | refine w_get rfl rfl rfl rfl ?_ | refine w_nnl rfl ?_ | refine w_nnlR rfl ?_ | refine w_nul rfl ?_ | refine w_nulR rfl ?_ | refine w_ldc rfl rfl ?_ | refine w_ldc2 rfl rfl ?_ | refine w_put rfl rfl rfl (Nat.le_of_ble_eq_true rfl) (Or.inl rfl) rfl rfl ?_))
          refine w_cv rfl rfl rfl (hp_at y1) (Nat.le_of_ble_eq_true rfl) (Nat.le_of_ble_eq_true rfl) (r_priceOf g1 (hok.gs b hb1) q (by omega)) ?_
          dsimp only [Option.toList, List.drop, List.cons_append, List.nil_append]
          (repeat (first | refine w_iadd1 rfl ?_ | refine w_isub1 rfl ?_ | refine w_iinc1 rfl rfl ?_ | refine w_s rfl rfl ?_ | refine w_get rfl rfl rfl rfl ?_ | refine w_nnl rfl ?_ | refine w_nnlR rfl ?_ | refine w_nul rfl ?_ | refine w_nulR rfl ?_ | refine w_ldc rfl rfl ?_ | refine w_ldc2 rfl rfl ?_ | refine w_put rfl rfl rfl (Nat.le_of_ble_eq_true rfl) (Or.inl rfl) rfl rfl ?_))
          unfold sp_order2
          rw [if_neg (by rw [hl]; exact nI_ne (by omega)), hl, hbb]
          split
          · (refine w_cv rfl rfl rfl rfl (by exact Nat.le_of_ble_eq_true rfl) (by exact Nat.le_of_ble_eq_true rfl) (r_Or_add0 (nI n) (nI b) q.toInt32 (F.g b).dy (Int64.ofInt (ax_pri (F.g b) q)) l (by assumption)) ?_; dsimp only [Option.toList, List.drop, List.cons_append, List.nil_append])
            (refine w_iret rfl rfl rfl ?_)
            rfl
          · (refine w_cv rfl rfl rfl rfl (by exact Nat.le_of_ble_eq_true rfl) (by exact Nat.le_of_ble_eq_true rfl) (r_Or_add1 (nI n) (nI b) q.toInt32 (F.g b).dy (Int64.ofInt (ax_pri (F.g b) q)) l (by omega)) ?_; dsimp only [Option.toList, List.drop, List.cons_append, List.nil_append])
            (refine w_iret rfl rfl rfl ?_)
            rfl
      rw [hnn]
      (refine ax_run_T (ax_T_of M_ML_order rfl (Nat.le_of_ble_eq_true rfl) ?_))
      (repeat (first | refine w_iadd1 rfl ?_ | refine w_isub1 rfl ?_ | refine w_iinc1 rfl rfl ?_ | refine w_s rfl rfl ?_ | refine w_get rfl rfl rfl rfl ?_ | refine w_nnl rfl ?_ | refine w_nnlR rfl ?_ | refine w_nul rfl ?_ | refine w_nulR rfl ?_ | refine w_ldc rfl rfl ?_ | refine w_ldc2 rfl rfl ?_ | refine w_put rfl rfl rfl (Nat.le_of_ble_eq_true rfl) (Or.inl rfl) rfl rfl ?_))
      (refine w_cv rfl rfl rfl rfl (by exact Nat.le_of_ble_eq_true rfl) (by exact Nat.le_of_ble_eq_true rfl) (r_offerOf1 (by omega) e1) ?_; dsimp only [Option.toList, List.drop, List.cons_append, List.nil_append])
      (repeat (first | refine w_iadd1 rfl ?_ | refine w_isub1 rfl ?_ | refine w_iinc1 rfl rfl ?_ | refine w_s rfl rfl ?_ | refine w_get rfl rfl rfl rfl ?_ | refine w_nnl rfl ?_ | refine w_nnlR rfl ?_ | refine w_nul rfl ?_ | refine w_nulR rfl ?_ | refine w_ldc rfl rfl ?_ | refine w_ldc2 rfl rfl ?_ | refine w_put rfl rfl rfl (Nat.le_of_ble_eq_true rfl) (Or.inl rfl) rfl rfl ?_))
      (refine w_cs rfl rfl (by first | decide | exact Nat.le_of_ble_eq_true rfl) (by exact Nat.le_of_ble_eq_true rfl) (r_checkQ1 q (by omega)) ?_; dsimp only [Option.toList, List.drop, List.cons_append, List.nil_append])
      (repeat (first | refine w_iadd1 rfl ?_ | refine w_isub1 rfl ?_ | refine w_iinc1 rfl rfl ?_ | refine w_s rfl rfl ?_ | refine w_get rfl rfl rfl rfl ?_ | refine w_nnl rfl ?_ | refine w_nnlR rfl ?_ | refine w_nul rfl ?_ | refine w_nulR rfl ?_ | refine w_ldc rfl rfl ?_ | refine w_ldc2 rfl rfl ?_ | refine w_put rfl rfl rfl (Nat.le_of_ble_eq_true rfl) (Or.inl rfl) rfl rfl ?_))
      (refine w_cv rfl rfl rfl rfl (by exact Nat.le_of_ble_eq_true rfl) (by exact Nat.le_of_ble_eq_true rfl) (r_latest hqn (nI n) d) ?_; dsimp only [Option.toList, List.drop, List.cons_append, List.nil_append])
      (repeat (first | refine w_iadd1 rfl ?_ | refine w_isub1 rfl ?_ | refine w_iinc1 rfl rfl ?_ | refine w_s rfl rfl ?_ | refine w_get rfl rfl rfl rfl ?_ | refine w_nnl rfl ?_ | refine w_nnlR rfl ?_ | refine w_nul rfl ?_ | refine w_nulR rfl ?_ | refine w_ldc rfl rfl ?_ | refine w_ldc2 rfl rfl ?_ | refine w_put rfl rfl rfl (Nat.le_of_ble_eq_true rfl) (Or.inl rfl) rfl rfl ?_))
      rcases ax_lat_r (fun q => decide (c.qm q = nI n ∧ d.toInt ≤ (c.qu q).toInt)) c.qn (by omega) with hl | ⟨b, hb1, hl, -⟩
      · have hl' : ax_latest c (nI n) d = -1 := hl
        rw [hl']
        (refine w_cv rfl rfl rfl rfl (by exact Nat.le_of_ble_eq_true rfl) (by exact Nat.le_of_ble_eq_true rfl) (r_offerAt0 hqn (-1) (by decide)) ?_; dsimp only [Option.toList, List.drop, List.cons_append, List.nil_append])
        (repeat ((fail_if_success (show ax_wp _ _ _ 48 _ _ _)); (first | refine w_iadd1 rfl ?_ | refine w_isub1 rfl ?_ | refine w_iinc1 rfl rfl ?_ | refine w_s rfl rfl ?_ | refine w_get rfl rfl rfl rfl ?_ | refine w_nnl rfl ?_ | refine w_nnlR rfl ?_ | refine w_nul rfl ?_ | refine w_nulR rfl ?_ | refine w_ldc rfl rfl ?_ | refine w_ldc2 rfl rfl ?_ | refine w_put rfl rfl rfl (Nat.le_of_ble_eq_true rfl) (Or.inl rfl) rfl rfl ?_)))
        refine w_lv (tail (Fs n) i (-1) e2 e3) rfl ⟨rfl, rfl, rfl, rfl, rfl, trivial⟩
      · have hl' : ax_latest c (nI n) d = nI b := hl
        have hbb : (nI b).toInt.toNat = b := by rw [q_nI' (by omega)]; rfl
        obtain ⟨i2, f1, f2, f3⟩ := hQ.at_ b hb1
        rw [hl']
        (refine w_cv rfl rfl rfl rfl (by exact Nat.le_of_ble_eq_true rfl) (by exact Nat.le_of_ble_eq_true rfl) (r_offerAt1 hqn b i2 hb1 f1) ?_; dsimp only [Option.toList, List.drop, List.cons_append, List.nil_append])
        (repeat ((fail_if_success (show ax_wp _ _ _ 48 _ _ _)); (first | refine w_iadd1 rfl ?_ | refine w_isub1 rfl ?_ | refine w_iinc1 rfl rfl ?_ | refine w_s rfl rfl ?_ | refine w_get rfl rfl rfl rfl ?_ | refine w_nnl rfl ?_ | refine w_nnlR rfl ?_ | refine w_nul rfl ?_ | refine w_nulR rfl ?_ | refine w_ldc rfl rfl ?_ | refine w_ldc2 rfl rfl ?_ | refine w_put rfl rfl rfl (Nat.le_of_ble_eq_true rfl) (Or.inl rfl) rfl rfl ?_)))
        have e : ax_ofr c Fs Qs n (nI b) = Qs b := by
          unfold ax_ofr
          rw [if_neg (by rw [q_nI' (by omega)]; omega), hbb]
        rw [e]
        refine w_lv (tail (Qs b) i2 (nI b) f2 f3) rfl ⟨rfl, rfl, rfl, rfl, rfl, trivial⟩
/-- the best maker so far, and its price -/
def ax_bst (c : ax_St) (Fs : Nat → ax_Of) (q : Int64) : Nat → Int32 × Int64
  | 0 => (-1, 0)
  | k + 1 => if ax_least c (Fs k) = -1 then ax_bst c Fs q k
    else if (ax_bst c Fs q k).1 = -1 ∨ ax_pri ((Fs k).g (ax_least c (Fs k)).toInt.toNat) q < (ax_bst c Fs q k).2.toInt then (nI k, Int64.ofInt (ax_pri ((Fs k).g (ax_least c (Fs k)).toInt.toNat) q)) else ax_bst c Fs q k
def sp_best (c : ax_St) (Fs : Nat → ax_Of) (q : Int64) : ax_SR := if ¬ (1 ≤ q.toInt ∧ q.toInt ≤ 1000000) then .inr 1 else .inl (.int (ax_bst c Fs q c.told).1, c)
theorem ax_pri_b {G : ax_Gr} (hok : GradeOk G) {q : Int64} (hq : 1 ≤ q.toInt ∧ q.toInt ≤ 1000000) : 0 ≤ ax_pri G q ∧ ax_pri G q ≤ 1000000000000 := by
  have hs1 := hok.s1
  have hf0 := hok.fm 0 (by omega)
  have hpb : 1 ≤ ax_paid G q ∧ ax_paid G q ≤ 1000000 := by unfold ax_paid; split <;> omega
  have hj : ∀ n, 1 ≤ n → ax_jx (fun s => decide ((G.fr s).toInt ≤ ax_paid G q)) n < n := by
    intro n
    induction n with
    | zero => intro z; omega
    | succ n ihn =>
      intro _
      unfold ax_jx
      split
      · omega
      · by_cases hz : 1 ≤ n
        · have := ihn hz; omega
        · have : n = 0 := by omega
          subst this
          exact Nat.succ_pos 0
  have hc := hok.cm _ (hj _ hs1)
  unfold ax_pri
  generalize G.ce (ax_jx (fun s => decide ((G.fr s).toInt ≤ ax_paid G q)) G.st) = ce at hc
  have hm1 : ax_paid G q * ce.toInt ≤ 1000000 * 1000000 := Int.mul_le_mul (by omega) (by omega) (by omega) (by omega)
  have hm2 : 0 ≤ ax_paid G q * ce.toInt := Int.mul_nonneg (by omega) (by omega)
  omega
theorem r_best {Fs : Nat → ax_Of} (hF : OffOk c pool Fs) (hb : BoardOk c) (q : Int64) : ax_run m_ML_best [.ref 1, .long q] (ax_hp L xs c m o pool, u) (ax_out L xs m o pool u c (sp_best c Fs q)) := by
  have hn := hF.n
  unfold sp_best
  split
  · (refine ax_run_T (ax_T_of M_ML_best rfl (Nat.le_of_ble_eq_true rfl) ?_))
    (repeat (first | refine w_iadd1 rfl ?_ | refine w_isub1 rfl ?_ | refine w_iinc1 rfl rfl ?_ | refine w_s rfl rfl ?_ | refine w_get rfl rfl rfl rfl ?_ | refine w_nnl rfl ?_ | refine w_nnlR rfl ?_ | refine w_nul rfl ?_ | refine w_nulR rfl ?_ | refine w_ldc rfl rfl ?_ | refine w_ldc2 rfl rfl ?_ | refine w_put rfl rfl rfl (Nat.le_of_ble_eq_true rfl) (Or.inl rfl) rfl rfl ?_))
    exact w_csx rfl rfl (Nat.le_of_ble_eq_true rfl) (Nat.le_of_ble_eq_true rfl) (by decide) rfl (r_checkQ0 q (by assumption)) rfl
  · rename_i h9
    have l2 : ∀ (e k : Nat), k + e = 4 → c.told ≤ k → ax_wp ax_run M_ML_best (fun r' => r' = ax_out L xs m o pool u c (.inl (.int (ax_bst c Fs q c.told).1, c))) 12 [(0, .ref 1), (1, .long q), (3, .int (ax_bst c Fs q c.told).1), (4, .long (ax_bst c Fs q c.told).2), (6, .int (nI k))] [] (ax_hp L xs c m o pool, u) := by
      intro e
      induction e with
      | zero =>
        intro k hk hkt
        (repeat' (first | refine w_iadd1 rfl ?_ | refine w_isub1 rfl ?_ | refine w_iinc1 rfl rfl ?_ | refine w_s rfl rfl ?_ | refine w_get rfl rfl rfl rfl ?_ | refine w_nnl rfl ?_ | refine w_nnlR rfl ?_ | refine w_nul rfl ?_ | refine w_nulR rfl ?_ | refine w_ldc rfl rfl ?_ | refine w_ldc2 rfl rfl ?_ | refine w_put rfl rfl rfl (Nat.le_of_ble_eq_true rfl) (Or.inl rfl) rfl rfl ?_ | ((first | refine w_if2 rfl (fun _ => ?_) (fun _ => ?_) | refine w_if1 rfl (fun _ => ?_) (fun _ => ?_)) <;> try (exfalso; (((try simp only [c_eq0, c_ne0, c_Llt, c_Lle, c_Lgt, c_Lge, c_Leq, c_Lne] at *); try simp only [ax_cnd, vp_in_iff, Int32.lt_iff_toInt_lt, Int32.le_iff_toInt_le, Int64.lt_iff_toInt_lt, Int64.le_iff_toInt_le, q_eq, q_eqL, q_lg, q_nI, q_add, q_sub, q_mul, q_neg, q_addL, q_subL, q_mulL, q_negL, q_i2l, q_l2i, q_b8, q_b16, q_ofI, q_lit, q_ofNL, q_litL, ne_eq, gt_iff_lt, ge_iff_le] at *) <;> omega); done))))
        (refine w_iret rfl rfl rfl ?_)
        rfl
      | succ e ih =>
        intro k hk hkt
        (repeat' (first | refine w_iadd1 rfl ?_ | refine w_isub1 rfl ?_ | refine w_iinc1 rfl rfl ?_ | refine w_s rfl rfl ?_ | refine w_get rfl rfl rfl rfl ?_ | refine w_nnl rfl ?_ | refine w_nnlR rfl ?_ | refine w_nul rfl ?_ | refine w_nulR rfl ?_ | refine w_ldc rfl rfl ?_ | refine w_ldc2 rfl rfl ?_ | refine w_put rfl rfl rfl (Nat.le_of_ble_eq_true rfl) (Or.inl rfl) rfl rfl ?_ | ((first | refine w_if2 rfl (fun _ => ?_) (fun _ => ?_) | refine w_if1 rfl (fun _ => ?_) (fun _ => ?_)) <;> try (exfalso; (((try simp only [c_eq0, c_ne0, c_Llt, c_Lle, c_Lgt, c_Lge, c_Leq, c_Lne] at *); try simp only [ax_cnd, vp_in_iff, Int32.lt_iff_toInt_lt, Int32.le_iff_toInt_le, Int64.lt_iff_toInt_lt, Int64.le_iff_toInt_le, q_eq, q_eqL, q_lg, q_nI, q_add, q_sub, q_mul, q_neg, q_addL, q_subL, q_mulL, q_negL, q_i2l, q_l2i, q_b8, q_b16, q_ofI, q_lit, q_ofNL, q_litL, ne_eq, gt_iff_lt, ge_iff_le] at *) <;> omega); done))))
        refine w_aa rfl rfl (Or.inl rfl) rfl (by omega) (by decide) ?_
        rw [hF.no k hkt (by omega)]
        (repeat ((fail_if_success (show ax_wp _ _ _ 12 _ _ _)); (first | refine w_iadd1 rfl ?_ | refine w_isub1 rfl ?_ | refine w_iinc1 rfl rfl ?_ | refine w_s rfl rfl ?_ | refine w_get rfl rfl rfl rfl ?_ | refine w_nnl rfl ?_ | refine w_nnlR rfl ?_ | refine w_nul rfl ?_ | refine w_nulR rfl ?_ | refine w_ldc rfl rfl ?_ | refine w_ldc2 rfl rfl ?_ | refine w_put rfl rfl rfl (Nat.le_of_ble_eq_true rfl) (Or.inl rfl) rfl rfl ?_)))
        exact w_lv (ih (k + 1) (by omega) (by omega)) rfl ⟨rfl, rfl, rfl, rfl, rfl, trivial⟩
    have l1 : ∀ (e k : Nat), k + e = c.told → ax_wp ax_run M_ML_best (fun r' => r' = ax_out L xs m o pool u c (.inl (.int (ax_bst c Fs q c.told).1, c))) 12 [(0, .ref 1), (1, .long q), (3, .int (ax_bst c Fs q k).1), (4, .long (ax_bst c Fs q k).2), (6, .int (nI k))] [] (ax_hp L xs c m o pool, u) := by
      intro e
      induction e with
      | zero =>
        intro k hk
        have : k = c.told := by omega
        subst this
        exact l2 (4 - c.told) c.told (by omega) (Nat.le_refl _)
      | succ e ih =>
        intro k hk
        obtain ⟨i, e1, e2, e3⟩ := hF.at_ k (by omega)
        obtain ⟨a, gf, z1, -⟩ := id e2
        (repeat' (first | refine w_iadd1 rfl ?_ | refine w_isub1 rfl ?_ | refine w_iinc1 rfl rfl ?_ | refine w_s rfl rfl ?_ | refine w_get rfl rfl rfl rfl ?_ | refine w_nnl rfl ?_ | refine w_nnlR rfl ?_ | refine w_nul rfl ?_ | refine w_nulR rfl ?_ | refine w_ldc rfl rfl ?_ | refine w_ldc2 rfl rfl ?_ | refine w_put rfl rfl rfl (Nat.le_of_ble_eq_true rfl) (Or.inl rfl) rfl rfl ?_ | ((first | refine w_if2 rfl (fun _ => ?_) (fun _ => ?_) | refine w_if1 rfl (fun _ => ?_) (fun _ => ?_)) <;> try (exfalso; (((try simp only [c_eq0, c_ne0, c_Llt, c_Lle, c_Lgt, c_Lge, c_Leq, c_Lne] at *); try simp only [ax_cnd, vp_in_iff, Int32.lt_iff_toInt_lt, Int32.le_iff_toInt_le, Int64.lt_iff_toInt_lt, Int64.le_iff_toInt_le, q_eq, q_eqL, q_lg, q_nI, q_add, q_sub, q_mul, q_neg, q_addL, q_subL, q_mulL, q_negL, q_i2l, q_l2i, q_b8, q_b16, q_ofI, q_lit, q_ofNL, q_litL, ne_eq, gt_iff_lt, ge_iff_le] at *) <;> omega); done))))
        refine w_aa rfl rfl (Or.inl rfl) rfl (by omega) (by decide) ?_
        rw [e1]
        (repeat (first | refine w_iadd1 rfl ?_ | refine w_isub1 rfl ?_ | refine w_iinc1 rfl rfl ?_ | refine w_s rfl rfl ?_ | refine w_get rfl rfl rfl rfl ?_ | refine w_nnl rfl ?_ | refine w_nnlR rfl ?_ | refine w_nul rfl ?_ | refine w_nulR rfl ?_ | refine w_ldc rfl rfl ?_ | refine w_ldc2 rfl rfl ?_ | refine w_put rfl rfl rfl (Nat.le_of_ble_eq_true rfl) (Or.inl rfl) rfl rfl ?_))
        refine w_cv rfl rfl rfl (hp_at z1) (Nat.le_of_ble_eq_true rfl) (Nat.le_of_ble_eq_true rfl) (r_leastFor e2 e3 hb) ?_
        dsimp only [Option.toList, List.drop, List.cons_append, List.nil_append]
        have ihk := ih (k + 1) (by omega)
        rcases ax_least_r (c := c) e3.n4 with hl | ⟨b, hb1, hl⟩
        · rw [hl]
          refine w_cv rfl rfl rfl (hp_at z1) (Nat.le_of_ble_eq_true rfl) (Nat.le_of_ble_eq_true rfl) (r_gradeAt0 e2 e3 (-1) (fun z => absurd z.1 (by decide))) ?_
          dsimp only [Option.toList, List.drop, List.cons_append, List.nil_append]
          (repeat ((fail_if_success (show ax_wp _ _ _ 12 _ _ _)); (first | refine w_iadd1 rfl ?_ | refine w_isub1 rfl ?_ | refine w_iinc1 rfl rfl ?_ | refine w_s rfl rfl ?_ | refine w_get rfl rfl rfl rfl ?_ | refine w_nnl rfl ?_ | refine w_nnlR rfl ?_ | refine w_nul rfl ?_ | refine w_nulR rfl ?_ | refine w_ldc rfl rfl ?_ | refine w_ldc2 rfl rfl ?_ | refine w_put rfl rfl rfl (Nat.le_of_ble_eq_true rfl) (Or.inl rfl) rfl rfl ?_)))
          have eb : ax_bst c Fs q (k + 1) = ax_bst c Fs q k := if_pos hl
          rw [eb] at ihk
          exact w_lv ihk rfl ⟨rfl, rfl, rfl, rfl, rfl, trivial⟩
        · have hn4 := e3.n4
          have hbb : (nI b).toInt.toNat = b := by rw [q_nI' (by omega)]; rfl
          obtain ⟨g, g1, g2⟩ := r_gradeAt1 (L := L) (xs := xs) (c := c) (m := m) (o := o) (u := u) e2 e3 b hb1
          have hpr := r_priceOf (L := L) (xs := xs) (c := c) (m := m) (o := o) (u := u) g1 (e3.gs b hb1) q (by omega)
          have hpb := ax_pri_b (e3.gs b hb1) (q := q) (by omega)
          have eb : ax_bst c Fs q (k + 1) = (if (ax_bst c Fs q k).1 = -1 ∨ ax_pri ((Fs k).g b) q < (ax_bst c Fs q k).2.toInt then (nI k, Int64.ofInt (ax_pri ((Fs k).g b) q)) else ax_bst c Fs q k) := by
            show (if ax_least c (Fs k) = -1 then _ else _) = _
            rw [if_neg (by rw [hl]; exact nI_ne (by omega)), hl, hbb]
          rw [eb] at ihk
          obtain ⟨ga, gb, gd, can, y1, -⟩ := id g1
          rw [hl]
          refine w_cv rfl rfl rfl (hp_at z1) (Nat.le_of_ble_eq_true rfl) (Nat.le_of_ble_eq_true rfl) g2 ?_
          dsimp only [Option.toList, List.drop, List.cons_append, List.nil_append]
          (repeat (first | refine w_iadd1 rfl ?_ | refine w_isub1 rfl ?_ | refine w_iinc1 rfl rfl ?_ | refine w_s rfl rfl ?_ | refine w_get rfl rfl rfl rfl ?_ | refine w_nnl rfl ?_ | refine w_nnlR rfl ?_ | refine w_nul rfl ?_ | refine w_nulR rfl ?_ | refine w_ldc rfl rfl ?_ | refine w_ldc2 rfl rfl ?_ | refine w_put rfl rfl rfl (Nat.le_of_ble_eq_true rfl) (Or.inl rfl) rfl rfl ?_))
          refine w_if2 rfl (fun h5 => ?_) (fun h5 => ?_)
          · rw [if_pos (Or.inl (show (ax_bst c Fs q k).1 = -1 from h5))] at ihk
            (repeat (first | refine w_iadd1 rfl ?_ | refine w_isub1 rfl ?_ | refine w_iinc1 rfl rfl ?_ | refine w_s rfl rfl ?_ | refine w_get rfl rfl rfl rfl ?_ | refine w_nnl rfl ?_ | refine w_nnlR rfl ?_ | refine w_nul rfl ?_ | refine w_nulR rfl ?_ | refine w_ldc rfl rfl ?_ | refine w_ldc2 rfl rfl ?_ | refine w_put rfl rfl rfl (Nat.le_of_ble_eq_true rfl) (Or.inl rfl) rfl rfl ?_))
            refine w_cv rfl rfl rfl (hp_at y1) (Nat.le_of_ble_eq_true rfl) (Nat.le_of_ble_eq_true rfl) hpr ?_
            dsimp only [Option.toList, List.drop, List.cons_append, List.nil_append]
            (repeat ((fail_if_success (show ax_wp _ _ _ 12 _ _ _)); (first | refine w_iadd1 rfl ?_ | refine w_isub1 rfl ?_ | refine w_iinc1 rfl rfl ?_ | refine w_s rfl rfl ?_ | refine w_get rfl rfl rfl rfl ?_ | refine w_nnl rfl ?_ | refine w_nnlR rfl ?_ | refine w_nul rfl ?_ | refine w_nulR rfl ?_ | refine w_ldc rfl rfl ?_ | refine w_ldc2 rfl rfl ?_ | refine w_put rfl rfl rfl (Nat.le_of_ble_eq_true rfl) (Or.inl rfl) rfl rfl ?_)))
            exact w_lv ihk rfl ⟨rfl, rfl, rfl, rfl, rfl, trivial⟩
          · (repeat (first | refine w_iadd1 rfl ?_ | refine w_isub1 rfl ?_ | refine w_iinc1 rfl rfl ?_ | refine w_s rfl rfl ?_ | refine w_get rfl rfl rfl rfl ?_ | refine w_nnl rfl ?_ | refine w_nnlR rfl ?_ | refine w_nul rfl ?_ | refine w_nulR rfl ?_ | refine w_ldc rfl rfl ?_ | refine w_ldc2 rfl rfl ?_ | refine w_put rfl rfl rfl (Nat.le_of_ble_eq_true rfl) (Or.inl rfl) rfl rfl ?_))
            refine w_cv rfl rfl rfl (hp_at y1) (Nat.le_of_ble_eq_true rfl) (Nat.le_of_ble_eq_true rfl) hpr ?_
            dsimp only [Option.toList, List.drop, List.cons_append, List.nil_append]
            (repeat (first | refine w_iadd1 rfl ?_ | refine w_isub1 rfl ?_ | refine w_iinc1 rfl rfl ?_ | refine w_s rfl rfl ?_ | refine w_get rfl rfl rfl rfl ?_ | refine w_nnl rfl ?_ | refine w_nnlR rfl ?_ | refine w_nul rfl ?_ | refine w_nulR rfl ?_ | refine w_ldc rfl rfl ?_ | refine w_ldc2 rfl rfl ?_ | refine w_put rfl rfl rfl (Nat.le_of_ble_eq_true rfl) (Or.inl rfl) rfl rfl ?_))
            refine w_if1 rfl (fun h7 => ?_) (fun h7 => ?_)
            · have h8 := c_Lge.mp h7
              rw [q_ofIL (by omega) (by omega)] at h8
              rw [if_neg (show ¬ ((ax_bst c Fs q k).1 = -1 ∨ ax_pri ((Fs k).g b) q < (ax_bst c Fs q k).2.toInt) from fun z => z.elim h5 (fun z => absurd z (by omega)))] at ihk
              (repeat ((fail_if_success (show ax_wp _ _ _ 12 _ _ _)); (first | refine w_iadd1 rfl ?_ | refine w_isub1 rfl ?_ | refine w_iinc1 rfl rfl ?_ | refine w_s rfl rfl ?_ | refine w_get rfl rfl rfl rfl ?_ | refine w_nnl rfl ?_ | refine w_nnlR rfl ?_ | refine w_nul rfl ?_ | refine w_nulR rfl ?_ | refine w_ldc rfl rfl ?_ | refine w_ldc2 rfl rfl ?_ | refine w_put rfl rfl rfl (Nat.le_of_ble_eq_true rfl) (Or.inl rfl) rfl rfl ?_)))
              exact w_lv ihk rfl ⟨rfl, rfl, rfl, rfl, rfl, trivial⟩
            · have h8 : ¬ (ax_bst c Fs q k).2.toInt ≤ (Int64.ofInt (ax_pri ((Fs k).g b) q)).toInt := fun z => h7 (c_Lge.mpr z)
              rw [q_ofIL (by omega) (by omega)] at h8
              rw [if_pos (show (ax_bst c Fs q k).1 = -1 ∨ ax_pri ((Fs k).g b) q < (ax_bst c Fs q k).2.toInt from Or.inr (by omega))] at ihk
              (repeat (first | refine w_iadd1 rfl ?_ | refine w_isub1 rfl ?_ | refine w_iinc1 rfl rfl ?_ | refine w_s rfl rfl ?_ | refine w_get rfl rfl rfl rfl ?_ | refine w_nnl rfl ?_ | refine w_nnlR rfl ?_ | refine w_nul rfl ?_ | refine w_nulR rfl ?_ | refine w_ldc rfl rfl ?_ | refine w_ldc2 rfl rfl ?_ | refine w_put rfl rfl rfl (Nat.le_of_ble_eq_true rfl) (Or.inl rfl) rfl rfl ?_))
              refine w_cv rfl rfl rfl (hp_at y1) (Nat.le_of_ble_eq_true rfl) (Nat.le_of_ble_eq_true rfl) hpr ?_
              dsimp only [Option.toList, List.drop, List.cons_append, List.nil_append]
              (repeat ((fail_if_success (show ax_wp _ _ _ 12 _ _ _)); (first | refine w_iadd1 rfl ?_ | refine w_isub1 rfl ?_ | refine w_iinc1 rfl rfl ?_ | refine w_s rfl rfl ?_ | refine w_get rfl rfl rfl rfl ?_ | refine w_nnl rfl ?_ | refine w_nnlR rfl ?_ | refine w_nul rfl ?_ | refine w_nulR rfl ?_ | refine w_ldc rfl rfl ?_ | refine w_ldc2 rfl rfl ?_ | refine w_put rfl rfl rfl (Nat.le_of_ble_eq_true rfl) (Or.inl rfl) rfl rfl ?_)))
              exact w_lv ihk rfl ⟨rfl, rfl, rfl, rfl, rfl, trivial⟩
    (refine ax_run_T (ax_T_of M_ML_best rfl (Nat.le_of_ble_eq_true rfl) ?_))
    (repeat (first | refine w_iadd1 rfl ?_ | refine w_isub1 rfl ?_ | refine w_iinc1 rfl rfl ?_ | refine w_s rfl rfl ?_ | refine w_get rfl rfl rfl rfl ?_ | refine w_nnl rfl ?_ | refine w_nnlR rfl ?_ | refine w_nul rfl ?_ | refine w_nulR rfl ?_ | refine w_ldc rfl rfl ?_ | refine w_ldc2 rfl rfl ?_ | refine w_put rfl rfl rfl (Nat.le_of_ble_eq_true rfl) (Or.inl rfl) rfl rfl ?_))
    (refine w_cs rfl rfl (by first | decide | exact Nat.le_of_ble_eq_true rfl) (by exact Nat.le_of_ble_eq_true rfl) (r_checkQ1 q (by omega)) ?_; dsimp only [Option.toList, List.drop, List.cons_append, List.nil_append])
    (repeat ((fail_if_success (show ax_wp _ _ _ 12 _ _ _)); (first | refine w_iadd1 rfl ?_ | refine w_isub1 rfl ?_ | refine w_iinc1 rfl rfl ?_ | refine w_s rfl rfl ?_ | refine w_get rfl rfl rfl rfl ?_ | refine w_nnl rfl ?_ | refine w_nnlR rfl ?_ | refine w_nul rfl ?_ | refine w_nulR rfl ?_ | refine w_ldc rfl rfl ?_ | refine w_ldc2 rfl rfl ?_ | refine w_put rfl rfl rfl (Nat.le_of_ble_eq_true rfl) (Or.inl rfl) rfl rfl ?_)))
    exact w_lv (l1 c.told 0 (by omega)) rfl ⟨rfl, rfl, rfl, rfl, rfl, trivial⟩
end CI
