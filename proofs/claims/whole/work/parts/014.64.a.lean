theorem up_fill {α : Type} (f : Nat → α) (v : α) (k : Nat) : (fun j => if j = k then v else if j < k then v else f j) = (fun j => if j < k + 1 then v else f j) := by
  funext j
  by_cases h1 : j = k
  · subst h1
    rw [if_pos rfl, if_pos (by omega)]
  · rw [if_neg h1]
    by_cases h2 : j < k
    · rw [if_pos h2, if_pos (by omega)]
    · rw [if_neg h2, if_neg (by omega)]
section CD
variable {L : Nat} {xs : Nat → Int32} {c : ax_St} {m : ax_Mo} {o : Nat → Int64} {pool : List (Option ax_C)} {u : Nat} {h : ax_H}
/-- filling an int array -/
theorem r_fill {a n : Nat} {f : Nat → Int32} (v : Int32) (H : List (Option ax_C)) (hn : n ≤ 100000) (ha : H[a]? = some (ax_aI n f)) : ax_run m_Ar_fill [.ref a, .int v] (H, u) (.inl none, (H.set a (ax_aI n (fun j => if j < n then v else f j)), u)) := by
  have lp : ∀ (d k : Nat), k + d = n → ax_wp ax_run M_Ar_fill (fun r' => r' = (.inl none, (H.set a (ax_aI n (fun j => if j < n then v else f j)), u))) 5 [(0, .ref a), (1, .int v), (2, .int (nI k)), (3, .int (nI n))] [] (H.set a (ax_aI n (fun j => if j < k then v else f j)), u) := by
    intro d
    induction d with
    | zero =>
      intro k hk
      have : k = n := by omega
      subst this
      (repeat' (first | refine w_iadd1 rfl ?_ | refine w_isub1 rfl ?_ | refine w_iinc1 rfl rfl ?_ | refine w_s rfl rfl ?_ | refine w_get rfl rfl rfl rfl ?_ | refine w_nnl rfl ?_ | refine w_nnlR rfl ?_ | refine w_nul rfl ?_ | refine w_nulR rfl ?_ | refine w_ldc rfl rfl ?_ | refine w_ldc2 rfl rfl ?_ | refine w_put rfl rfl rfl (Nat.le_of_ble_eq_true rfl) (Or.inl rfl) rfl rfl ?_ | ((first | refine w_if2 rfl (fun _ => ?_) (fun _ => ?_) | refine w_if1 rfl (fun _ => ?_) (fun _ => ?_)) <;> try (exfalso; (((try simp only [c_eq0, c_ne0, c_Llt, c_Lle, c_Lgt, c_Lge, c_Leq, c_Lne] at *); try simp only [ax_cnd, vp_in_iff, Int32.lt_iff_toInt_lt, Int32.le_iff_toInt_le, Int64.lt_iff_toInt_lt, Int64.le_iff_toInt_le, q_eq, q_eqL, q_lg, q_nI, q_add, q_sub, q_mul, q_neg, q_addL, q_subL, q_mulL, q_negL, q_i2l, q_l2i, q_b8, q_b16, q_ofI, q_lit, q_ofNL, q_litL, ne_eq, gt_iff_lt, ge_iff_le] at *) <;> omega); done))))
      · refine w_vret rfl rfl rfl
    | succ d ih =>
      intro k hk
      (repeat' (first | refine w_iadd1 rfl ?_ | refine w_isub1 rfl ?_ | refine w_iinc1 rfl rfl ?_ | refine w_s rfl rfl ?_ | refine w_get rfl rfl rfl rfl ?_ | refine w_nnl rfl ?_ | refine w_nnlR rfl ?_ | refine w_nul rfl ?_ | refine w_nulR rfl ?_ | refine w_ldc rfl rfl ?_ | refine w_ldc2 rfl rfl ?_ | refine w_put rfl rfl rfl (Nat.le_of_ble_eq_true rfl) (Or.inl rfl) rfl rfl ?_ | ((first | refine w_if2 rfl (fun _ => ?_) (fun _ => ?_) | refine w_if1 rfl (fun _ => ?_) (fun _ => ?_)) <;> try (exfalso; (((try simp only [c_eq0, c_ne0, c_Llt, c_Lle, c_Lgt, c_Lge, c_Leq, c_Lne] at *); try simp only [ax_cnd, vp_in_iff, Int32.lt_iff_toInt_lt, Int32.le_iff_toInt_le, Int64.lt_iff_toInt_lt, Int64.le_iff_toInt_le, q_eq, q_eqL, q_lg, q_nI, q_add, q_sub, q_mul, q_neg, q_addL, q_subL, q_mulL, q_negL, q_i2l, q_l2i, q_b8, q_b16, q_ofI, q_lit, q_ofNL, q_litL, ne_eq, gt_iff_lt, ge_iff_le] at *) <;> omega); done))))
      · refine w_ias (n := n) (f := fun j => if j < k then v else f j) rfl ?_ rfl (by omega) (by omega) ?_
        · have hl := (List.getElem?_eq_some_iff.mp ha).1
          exact List.getElem?_set_self hl
        · (repeat ((fail_if_success (show ax_wp _ _ _ 5 _ _ _)); (first | refine w_iadd1 rfl ?_ | refine w_isub1 rfl ?_ | refine w_iinc1 rfl rfl ?_ | refine w_s rfl rfl ?_ | refine w_get rfl rfl rfl rfl ?_ | refine w_nnl rfl ?_ | refine w_nnlR rfl ?_ | refine w_nul rfl ?_ | refine w_nulR rfl ?_ | refine w_ldc rfl rfl ?_ | refine w_ldc2 rfl rfl ?_ | refine w_put rfl rfl rfl (Nat.le_of_ble_eq_true rfl) (Or.inl rfl) rfl rfl ?_)))
          refine w_lv (l1 := [(0, .ref a), (1, .int v), (2, .int (nI (k + 1))), (3, .int (nI n))]) ?_ rfl ⟨rfl, rfl, rfl, rfl, trivial⟩
          have e : (H.set a (ax_aI n (fun j => if j < k then v else f j))).set a (some (.inl (0, n, .inl (upd (fun j => if j < k then v else f j) k v)))) = H.set a (ax_aI n (fun j => if j < k + 1 then v else f j)) := by
            rw [List.set_set]
            congr 1
            show ax_aI n _ = _
            congr 1
            exact up_fill f v k
          rw [e]
          exact ih (k + 1) (by omega)
  (refine ax_run_T (ax_T_of M_Ar_fill rfl (Nat.le_of_ble_eq_true rfl) ?_))
  (repeat (first | refine w_iadd1 rfl ?_ | refine w_isub1 rfl ?_ | refine w_iinc1 rfl rfl ?_ | refine w_s rfl rfl ?_ | refine w_get rfl rfl rfl rfl ?_ | refine w_nnl rfl ?_ | refine w_nnlR rfl ?_ | refine w_nul rfl ?_ | refine w_nulR rfl ?_ | refine w_ldc rfl rfl ?_ | refine w_ldc2 rfl rfl ?_ | refine w_put rfl rfl rfl (Nat.le_of_ble_eq_true rfl) (Or.inl rfl) rfl rfl ?_))
  refine w_alen rfl ha (Or.inl (by decide)) ?_
  (repeat ((fail_if_success (show ax_wp _ _ _ 5 _ _ _)); (first | refine w_iadd1 rfl ?_ | refine w_isub1 rfl ?_ | refine w_iinc1 rfl rfl ?_ | refine w_s rfl rfl ?_ | refine w_get rfl rfl rfl rfl ?_ | refine w_nnl rfl ?_ | refine w_nnlR rfl ?_ | refine w_nul rfl ?_ | refine w_nulR rfl ?_ | refine w_ldc rfl rfl ?_ | refine w_ldc2 rfl rfl ?_ | refine w_put rfl rfl rfl (Nat.le_of_ble_eq_true rfl) (Or.inl rfl) rfl rfl ?_)))
  refine w_lv (l1 := [(0, .ref a), (1, .int v), (2, .int (nI 0)), (3, .int (nI n))]) ?_ rfl ⟨rfl, rfl, rfl, rfl, trivial⟩
  have h0 := lp n 0 (by omega)
  have e : H.set a (ax_aI n (fun j => if j < 0 then v else f j)) = H := by
    have e1 : (fun j => if j < 0 then v else f j) = f := by funext j; rw [if_neg (by omega)]
    rw [e1]
    obtain ⟨hl, hv⟩ := List.getElem?_eq_some_iff.mp ha
    rw [← hv]
    exact List.set_getElem_self hl
  rw [e] at h0
  exact h0
def sp_clear (c : ax_St) : ax_St := (ax_St.u_be (ax_St.u_ab (ax_St.u_on (ax_St.u_qn (ax_St.u_rn (ax_St.u_bn (ax_St.u_told (ax_St.u_of (ax_St.u_tl c 0) (fun j => if j < 4 then none else c.of j)) 0) 0) 0) 0) 0) (fun j => if j < 128 then 0 else c.ab j)) (fun j => if j < 128 then 1 else c.be j))
theorem r_Tx_forget : ax_run m_Tx_forget [.ref 2] (ax_hp L xs c m o pool, u) (.inl none, (ax_hp L xs (ax_St.u_tl c 0) m o pool, u)) := by
  (refine ax_run_T (ax_T_of M_Tx_forget rfl (Nat.le_of_ble_eq_true rfl) ?_))
  (repeat (first | refine w_iadd1 rfl ?_ | refine w_isub1 rfl ?_ | refine w_iinc1 rfl rfl ?_ | refine w_s rfl rfl ?_ | refine w_get rfl rfl rfl rfl ?_ | refine w_nnl rfl ?_ | refine w_nnlR rfl ?_ | refine w_nul rfl ?_ | refine w_nulR rfl ?_ | refine w_ldc rfl rfl ?_ | refine w_ldc2 rfl rfl ?_ | refine w_put rfl rfl rfl (Nat.le_of_ble_eq_true rfl) (Or.inl rfl) rfl rfl ?_))
  exact w_vret rfl rfl rfl
theorem r_Bd_forget : ax_run m_Bd_forget [.ref 5] (ax_hp L xs c m o pool, u) (.inl none, (ax_hp L xs (ax_St.u_bn c 0) m o pool, u)) := by
  (refine ax_run_T (ax_T_of M_Bd_forget rfl (Nat.le_of_ble_eq_true rfl) ?_))
  (repeat (first | refine w_iadd1 rfl ?_ | refine w_isub1 rfl ?_ | refine w_iinc1 rfl rfl ?_ | refine w_s rfl rfl ?_ | refine w_get rfl rfl rfl rfl ?_ | refine w_nnl rfl ?_ | refine w_nnlR rfl ?_ | refine w_nul rfl ?_ | refine w_nulR rfl ?_ | refine w_ldc rfl rfl ?_ | refine w_ldc2 rfl rfl ?_ | refine w_put rfl rfl rfl (Nat.le_of_ble_eq_true rfl) (Or.inl rfl) rfl rfl ?_))
  exact w_vret rfl rfl rfl
theorem r_Re_forget : ax_run m_Re_forget [.ref 11] (ax_hp L xs c m o pool, u) (.inl none, (ax_hp L xs (ax_St.u_rn c 0) m o pool, u)) := by
  (refine ax_run_T (ax_T_of M_Re_forget rfl (Nat.le_of_ble_eq_true rfl) ?_))
  (repeat (first | refine w_iadd1 rfl ?_ | refine w_isub1 rfl ?_ | refine w_iinc1 rfl rfl ?_ | refine w_s rfl rfl ?_ | refine w_get rfl rfl rfl rfl ?_ | refine w_nnl rfl ?_ | refine w_nnlR rfl ?_ | refine w_nul rfl ?_ | refine w_nulR rfl ?_ | refine w_ldc rfl rfl ?_ | refine w_ldc2 rfl rfl ?_ | refine w_put rfl rfl rfl (Nat.le_of_ble_eq_true rfl) (Or.inl rfl) rfl rfl ?_))
  exact w_vret rfl rfl rfl
theorem r_Qu_forget : ax_run m_Qu_forget [.ref 14] (ax_hp L xs c m o pool, u) (.inl none, (ax_hp L xs (ax_St.u_qn c 0) m o pool, u)) := by
  (refine ax_run_T (ax_T_of M_Qu_forget rfl (Nat.le_of_ble_eq_true rfl) ?_))
  (repeat (first | refine w_iadd1 rfl ?_ | refine w_isub1 rfl ?_ | refine w_iinc1 rfl rfl ?_ | refine w_s rfl rfl ?_ | refine w_get rfl rfl rfl rfl ?_ | refine w_nnl rfl ?_ | refine w_nnlR rfl ?_ | refine w_nul rfl ?_ | refine w_nulR rfl ?_ | refine w_ldc rfl rfl ?_ | refine w_ldc2 rfl rfl ?_ | refine w_put rfl rfl rfl (Nat.le_of_ble_eq_true rfl) (Or.inl rfl) rfl rfl ?_))
  exact w_vret rfl rfl rfl
theorem r_Or_forget : ax_run m_Or_forget [.ref 18] (ax_hp L xs c m o pool, u) (.inl none, (ax_hp L xs (ax_St.u_on c 0) m o pool, u)) := by
  (refine ax_run_T (ax_T_of M_Or_forget rfl (Nat.le_of_ble_eq_true rfl) ?_))
  (repeat (first | refine w_iadd1 rfl ?_ | refine w_isub1 rfl ?_ | refine w_iinc1 rfl rfl ?_ | refine w_s rfl rfl ?_ | refine w_get rfl rfl rfl rfl ?_ | refine w_nnl rfl ?_ | refine w_nnlR rfl ?_ | refine w_nul rfl ?_ | refine w_nulR rfl ?_ | refine w_ldc rfl rfl ?_ | refine w_ldc2 rfl rfl ?_ | refine w_put rfl rfl rfl (Nat.le_of_ble_eq_true rfl) (Or.inl rfl) rfl rfl ?_))
  exact w_vret rfl rfl rfl
theorem r_Ce_forget : ax_run m_Ce_forget [.ref 20] (ax_hp L xs c m o pool, u) (.inl none, (ax_hp L xs (ax_St.u_be (ax_St.u_ab c (fun j => if j < 128 then 0 else c.ab j)) (fun j => if j < 128 then 1 else c.be j)) m o pool, u)) := by
  (refine ax_run_T (ax_T_of M_Ce_forget rfl (Nat.le_of_ble_eq_true rfl) ?_))
  (repeat (first | refine w_iadd1 rfl ?_ | refine w_isub1 rfl ?_ | refine w_iinc1 rfl rfl ?_ | refine w_s rfl rfl ?_ | refine w_get rfl rfl rfl rfl ?_ | refine w_nnl rfl ?_ | refine w_nnlR rfl ?_ | refine w_nul rfl ?_ | refine w_nulR rfl ?_ | refine w_ldc rfl rfl ?_ | refine w_ldc2 rfl rfl ?_ | refine w_put rfl rfl rfl (Nat.le_of_ble_eq_true rfl) (Or.inl rfl) rfl rfl ?_))
  (refine w_cs rfl rfl (by first | decide | exact Nat.le_of_ble_eq_true rfl) (by exact Nat.le_of_ble_eq_true rfl) (r_fill (n := 128) (f := c.ab) (Int32.ofInt 0) (ax_hp L xs c m o pool) (by decide) rfl) ?_; dsimp only [Option.toList, List.drop, List.cons_append, List.nil_append])
  (repeat (first | refine w_iadd1 rfl ?_ | refine w_isub1 rfl ?_ | refine w_iinc1 rfl rfl ?_ | refine w_s rfl rfl ?_ | refine w_get rfl rfl rfl rfl ?_ | refine w_nnl rfl ?_ | refine w_nnlR rfl ?_ | refine w_nul rfl ?_ | refine w_nulR rfl ?_ | refine w_ldc rfl rfl ?_ | refine w_ldc2 rfl rfl ?_ | refine w_put rfl rfl rfl (Nat.le_of_ble_eq_true rfl) (Or.inl rfl) rfl rfl ?_))
  (refine w_cs rfl rfl (by first | decide | exact Nat.le_of_ble_eq_true rfl) (by exact Nat.le_of_ble_eq_true rfl) (r_fill (n := 128) (f := c.be) (Int32.ofInt 1) _ (by decide) rfl) ?_; dsimp only [Option.toList, List.drop, List.cons_append, List.nil_append])
  exact w_vret rfl rfl rfl
theorem r_clear : ax_run m_ML_clear [.ref 1] (ax_hp L xs c m o pool, u) (.inl none, (ax_hp L xs (sp_clear c) m o pool, u)) := by
  (refine ax_run_T (ax_T_of M_ML_clear rfl (Nat.le_of_ble_eq_true rfl) ?_))
  (repeat (first | refine w_iadd1 rfl ?_ | refine w_isub1 rfl ?_ | refine w_iinc1 rfl rfl ?_ | refine w_s rfl rfl ?_ | refine w_get rfl rfl rfl rfl ?_ | refine w_nnl rfl ?_ | refine w_nnlR rfl ?_ | refine w_nul rfl ?_ | refine w_nulR rfl ?_ | refine w_ldc rfl rfl ?_ | refine w_ldc2 rfl rfl ?_ | refine w_put rfl rfl rfl (Nat.le_of_ble_eq_true rfl) (Or.inl rfl) rfl rfl ?_))
  (refine w_cv rfl rfl rfl rfl (by exact Nat.le_of_ble_eq_true rfl) (by exact Nat.le_of_ble_eq_true rfl) r_Tx_forget ?_; dsimp only [Option.toList, List.drop, List.cons_append, List.nil_append])
  have lp : ∀ (d k : Nat), k + d = 4 → ax_wp ax_run M_ML_clear (fun r' => r' = (.inl none, (ax_hp L xs (sp_clear c) m o pool, u))) 9 [(0, .ref 1), (1, .int (nI k))] [] (ax_hp L xs (ax_St.u_of (ax_St.u_tl c 0) (fun j => if j < k then none else c.of j)) m o pool, u) := by
    intro d
    induction d with
    | zero =>
      intro k hk
      have : k = 4 := by omega
      subst this
      (repeat' (first | refine w_iadd1 rfl ?_ | refine w_isub1 rfl ?_ | refine w_iinc1 rfl rfl ?_ | refine w_s rfl rfl ?_ | refine w_get rfl rfl rfl rfl ?_ | refine w_nnl rfl ?_ | refine w_nnlR rfl ?_ | refine w_nul rfl ?_ | refine w_nulR rfl ?_ | refine w_ldc rfl rfl ?_ | refine w_ldc2 rfl rfl ?_ | refine w_put rfl rfl rfl (Nat.le_of_ble_eq_true rfl) (Or.inl rfl) rfl rfl ?_ | ((first | refine w_if2 rfl (fun _ => ?_) (fun _ => ?_) | refine w_if1 rfl (fun _ => ?_) (fun _ => ?_)) <;> try (exfalso; (((try simp only [c_eq0, c_ne0, c_Llt, c_Lle, c_Lgt, c_Lge, c_Leq, c_Lne] at *); try simp only [ax_cnd, vp_in_iff, Int32.lt_iff_toInt_lt, Int32.le_iff_toInt_le, Int64.lt_iff_toInt_lt, Int64.le_iff_toInt_le, q_eq, q_eqL, q_lg, q_nI, q_add, q_sub, q_mul, q_neg, q_addL, q_subL, q_mulL, q_negL, q_i2l, q_l2i, q_b8, q_b16, q_ofI, q_lit, q_ofNL, q_litL, ne_eq, gt_iff_lt, ge_iff_le] at *) <;> omega); done))))
      · (refine w_cv rfl rfl rfl rfl (by exact Nat.le_of_ble_eq_true rfl) (by exact Nat.le_of_ble_eq_true rfl) (r_Bd_forget (c := (ax_St.u_of (ax_St.u_told (ax_St.u_tl c 0) 0) (fun j => if j < 4 then none else c.of j)))) ?_; dsimp only [Option.toList, List.drop, List.cons_append, List.nil_append])
        (repeat (first | refine w_iadd1 rfl ?_ | refine w_isub1 rfl ?_ | refine w_iinc1 rfl rfl ?_ | refine w_s rfl rfl ?_ | refine w_get rfl rfl rfl rfl ?_ | refine w_nnl rfl ?_ | refine w_nnlR rfl ?_ | refine w_nul rfl ?_ | refine w_nulR rfl ?_ | refine w_ldc rfl rfl ?_ | refine w_ldc2 rfl rfl ?_ | refine w_put rfl rfl rfl (Nat.le_of_ble_eq_true rfl) (Or.inl rfl) rfl rfl ?_))
        (refine w_cv rfl rfl rfl rfl (by exact Nat.le_of_ble_eq_true rfl) (by exact Nat.le_of_ble_eq_true rfl) r_Re_forget ?_; dsimp only [Option.toList, List.drop, List.cons_append, List.nil_append])
        (repeat (first | refine w_iadd1 rfl ?_ | refine w_isub1 rfl ?_ | refine w_iinc1 rfl rfl ?_ | refine w_s rfl rfl ?_ | refine w_get rfl rfl rfl rfl ?_ | refine w_nnl rfl ?_ | refine w_nnlR rfl ?_ | refine w_nul rfl ?_ | refine w_nulR rfl ?_ | refine w_ldc rfl rfl ?_ | refine w_ldc2 rfl rfl ?_ | refine w_put rfl rfl rfl (Nat.le_of_ble_eq_true rfl) (Or.inl rfl) rfl rfl ?_))
        (refine w_cv rfl rfl rfl rfl (by exact Nat.le_of_ble_eq_true rfl) (by exact Nat.le_of_ble_eq_true rfl) r_Qu_forget ?_; dsimp only [Option.toList, List.drop, List.cons_append, List.nil_append])
        (repeat (first | refine w_iadd1 rfl ?_ | refine w_isub1 rfl ?_ | refine w_iinc1 rfl rfl ?_ | refine w_s rfl rfl ?_ | refine w_get rfl rfl rfl rfl ?_ | refine w_nnl rfl ?_ | refine w_nnlR rfl ?_ | refine w_nul rfl ?_ | refine w_nulR rfl ?_ | refine w_ldc rfl rfl ?_ | refine w_ldc2 rfl rfl ?_ | refine w_put rfl rfl rfl (Nat.le_of_ble_eq_true rfl) (Or.inl rfl) rfl rfl ?_))
        (refine w_cv rfl rfl rfl rfl (by exact Nat.le_of_ble_eq_true rfl) (by exact Nat.le_of_ble_eq_true rfl) r_Or_forget ?_; dsimp only [Option.toList, List.drop, List.cons_append, List.nil_append])
        (repeat (first | refine w_iadd1 rfl ?_ | refine w_isub1 rfl ?_ | refine w_iinc1 rfl rfl ?_ | refine w_s rfl rfl ?_ | refine w_get rfl rfl rfl rfl ?_ | refine w_nnl rfl ?_ | refine w_nnlR rfl ?_ | refine w_nul rfl ?_ | refine w_nulR rfl ?_ | refine w_ldc rfl rfl ?_ | refine w_ldc2 rfl rfl ?_ | refine w_put rfl rfl rfl (Nat.le_of_ble_eq_true rfl) (Or.inl rfl) rfl rfl ?_))
        (refine w_cv rfl rfl rfl rfl (by exact Nat.le_of_ble_eq_true rfl) (by exact Nat.le_of_ble_eq_true rfl) r_Ce_forget ?_; dsimp only [Option.toList, List.drop, List.cons_append, List.nil_append])
        exact w_vret rfl rfl rfl
    | succ d ih =>
      intro k hk
      (repeat' (first | refine w_iadd1 rfl ?_ | refine w_isub1 rfl ?_ | refine w_iinc1 rfl rfl ?_ | refine w_s rfl rfl ?_ | refine w_get rfl rfl rfl rfl ?_ | refine w_nnl rfl ?_ | refine w_nnlR rfl ?_ | refine w_nul rfl ?_ | refine w_nulR rfl ?_ | refine w_ldc rfl rfl ?_ | refine w_ldc2 rfl rfl ?_ | refine w_put rfl rfl rfl (Nat.le_of_ble_eq_true rfl) (Or.inl rfl) rfl rfl ?_ | ((first | refine w_if2 rfl (fun _ => ?_) (fun _ => ?_) | refine w_if1 rfl (fun _ => ?_) (fun _ => ?_)) <;> try (exfalso; (((try simp only [c_eq0, c_ne0, c_Llt, c_Lle, c_Lgt, c_Lge, c_Leq, c_Lne] at *); try simp only [ax_cnd, vp_in_iff, Int32.lt_iff_toInt_lt, Int32.le_iff_toInt_le, Int64.lt_iff_toInt_lt, Int64.le_iff_toInt_le, q_eq, q_eqL, q_lg, q_nI, q_add, q_sub, q_mul, q_neg, q_addL, q_subL, q_mulL, q_negL, q_i2l, q_l2i, q_b8, q_b16, q_ofI, q_lit, q_ofNL, q_litL, ne_eq, gt_iff_lt, ge_iff_le] at *) <;> omega); done))))
      · refine w_aasN rfl rfl (Or.inl rfl) rfl (by omega) (by decide) ?_
        (repeat ((fail_if_success (show ax_wp _ _ _ 9 _ _ _)); (first | refine w_iadd1 rfl ?_ | refine w_isub1 rfl ?_ | refine w_iinc1 rfl rfl ?_ | refine w_s rfl rfl ?_ | refine w_get rfl rfl rfl rfl ?_ | refine w_nnl rfl ?_ | refine w_nnlR rfl ?_ | refine w_nul rfl ?_ | refine w_nulR rfl ?_ | refine w_ldc rfl rfl ?_ | refine w_ldc2 rfl rfl ?_ | refine w_put rfl rfl rfl (Nat.le_of_ble_eq_true rfl) (Or.inl rfl) rfl rfl ?_)))
        refine w_lv (l1 := [(0, .ref 1), (1, .int (nI (k + 1)))]) ?_ rfl ⟨rfl, rfl, trivial⟩
        have e : va_up (fun j => if j < k then none else c.of j) k none = (fun j => if j < k + 1 then none else c.of j) := by
          exact up_fill c.of none k
        have := ih (k + 1) (by omega)
        rw [← e] at this
        exact this
  (repeat ((fail_if_success (show ax_wp _ _ _ 9 _ _ _)); (first | refine w_iadd1 rfl ?_ | refine w_isub1 rfl ?_ | refine w_iinc1 rfl rfl ?_ | refine w_s rfl rfl ?_ | refine w_get rfl rfl rfl rfl ?_ | refine w_nnl rfl ?_ | refine w_nnlR rfl ?_ | refine w_nul rfl ?_ | refine w_nulR rfl ?_ | refine w_ldc rfl rfl ?_ | refine w_ldc2 rfl rfl ?_ | refine w_put rfl rfl rfl (Nat.le_of_ble_eq_true rfl) (Or.inl rfl) rfl rfl ?_)))
  refine w_lv (l1 := [(0, .ref 1), (1, .int (nI 0))]) ?_ rfl ⟨rfl, rfl, trivial⟩
  have e : (fun j => if j < 0 then none else c.of j) = c.of := by funext j; rw [if_neg (by omega)]
  have := lp 4 0 (by omega)
  rw [e] at this
  exact this
end CD
