def ax_col (c : ax_St) (G : ax_Gr) : Nat → Nat × (Nat → Int32) × (Nat → Int32)
  | 0 => (0, c.rt, c.re)
  | t + 1 => if 0 < ax_ex c G t then ((ax_col c G t).1 + 1, upd (ax_col c G t).2.1 (ax_col c G t).1 (nI t), upd (ax_col c G t).2.2 (ax_col c G t).1 (Int32.ofInt (ax_ex c G t))) else ax_col c G t
theorem ax_col_le (c : ax_St) (G : ax_Gr) : ∀ t, (ax_col c G t).1 ≤ t := by
  intro t
  induction t with
  | zero => exact Nat.le_refl _
  | succ t ih =>
    unfold ax_col
    split
    · exact Nat.succ_le_succ ih
    · omega
def ax_lat (p : Nat → Bool) : Nat → Int32
  | 0 => -1
  | q + 1 => if p q = true then nI q else ax_lat p q
theorem ax_lat_r (p : Nat → Bool) : ∀ n, n ≤ 1000 → (ax_lat p n = -1) ∨ ∃ q, q < n ∧ ax_lat p n = nI q ∧ p q = true := by
  intro n
  induction n with
  | zero => exact fun _ => Or.inl rfl
  | succ n ih =>
    intro hn
    unfold ax_lat
    split
    · exact Or.inr ⟨n, by omega, rfl, by assumption⟩
    · rcases ih (by omega) with h | ⟨q, h1, h2, h3⟩
      · exact Or.inl h
      · exact Or.inr ⟨q, by omega, h2, h3⟩
theorem ax_lst_r (p : Nat → Bool) : ∀ d k, k + d ≤ 1000 → (ax_lst p d k = -1) ∨ ∃ q, k ≤ q ∧ q < k + d ∧ ax_lst p d k = nI q ∧ p q = true := by
  intro d
  induction d with
  | zero => exact fun k _ => Or.inl rfl
  | succ d ih =>
    intro k hk
    unfold ax_lst
    split
    · exact Or.inr ⟨k, by omega, by omega, rfl, by assumption⟩
    · rcases ih (k + 1) (by omega) with h | ⟨q, h0, h1, h2, h3⟩
      · exact Or.inl h
      · exact Or.inr ⟨q, by omega, by omega, h2, h3⟩
theorem ax_least_r {c : ax_St} {F : ax_Of} (h : F.n ≤ 4) : (ax_least c F = -1) ∨ ∃ q, q < F.n ∧ ax_least c F = nI q := by
  rcases ax_lst_r (fun k => decide (ax_made c (F.g k))) F.n 0 (by omega) with h | ⟨q, -, h1, h2, -⟩
  · exact Or.inl h
  · exact Or.inr ⟨q, by omega, h2⟩
theorem nI_ne {q : Nat} (h : q < 2147483648) : ¬ nI q = -1 := by
  intro z
  have := congrArg Int32.toInt z
  rw [q_nI' h] at this
  have h2 : ((-1 : Int32)).toInt = -1 := rfl
  omega
section CH
variable {L : Nat} {xs : Nat → Int32} {c : ax_St} {m : ax_Mo} {o : Nat → Int64} {pool : List (Option ax_C)} {u : Nat} {h : ax_H}
def ax_cst (c : ax_St) (G : ax_Gr) (t : Nat) : ax_St := (ax_St.u_re (ax_St.u_rt (ax_St.u_rn c ((ax_col c G t).1)) ((ax_col c G t).2.1)) ((ax_col c G t).2.2))
theorem r_collect {g : Nat} {G : ax_Gr} (hg : GradeAt pool g G) (hok : GradeOk G) (hb : BoardOk c) :
    ax_run m_Re_collect [.ref 11, .ref 5, .ref (g + 40)] (ax_hp L xs c m o pool, u) (.inl (some (.int (nI (ax_col c G c.bn).1))), (ax_hp L xs (ax_cst c G c.bn) m o pool, u)) := by
  have hn := hb.n
  have l2 : ∀ (d k : Nat), k + d = 60 → c.bn ≤ k → ax_wp ax_run M_Re_collect (fun r' => r' = (.inl (some (.int (nI (ax_col c G c.bn).1))), (ax_hp L xs (ax_cst c G c.bn) m o pool, u))) 7 [(0, .ref 11), (1, .ref 5), (2, .ref (g + 40)), (3, .int (nI k))] [] (ax_hp L xs (ax_cst c G c.bn) m o pool, u) := by
    intro d
    induction d with
    | zero =>
      intro k hk hkb
      (repeat' (first | refine w_iadd1 rfl ?_ | refine w_isub1 rfl ?_ | refine w_iinc1 rfl rfl ?_ | refine w_s rfl rfl ?_ | refine w_get rfl rfl rfl rfl ?_ | refine w_nnl rfl ?_ | refine w_nnlR rfl ?_ | refine w_nul rfl ?_ | refine w_nulR rfl ?_ | refine w_ldc rfl rfl ?_ | refine w_ldc2 rfl rfl ?_ | refine w_put rfl rfl rfl (Nat.le_of_ble_eq_true rfl) (Or.inl rfl) rfl rfl ?_ | ((first | refine w_if2 rfl (fun _ => ?_) (fun _ => ?_) | refine w_if1 rfl (fun _ => ?_) (fun _ => ?_)) <;> try (exfalso; (((try simp only [c_eq0, c_ne0, c_Llt, c_Lle, c_Lgt, c_Lge, c_Leq, c_Lne] at *); try simp only [ax_cnd, vp_in_iff, Int32.lt_iff_toInt_lt, Int32.le_iff_toInt_le, Int64.lt_iff_toInt_lt, Int64.le_iff_toInt_le, q_eq, q_eqL, q_lg, q_nI, q_add, q_sub, q_mul, q_neg, q_addL, q_subL, q_mulL, q_negL, q_i2l, q_l2i, q_b8, q_b16, q_ofI, q_lit, q_ofNL, q_litL, ne_eq, gt_iff_lt, ge_iff_le] at *) <;> omega); done))))
      (refine w_iret rfl rfl rfl ?_)
      rfl
    | succ d ih =>
      intro k hk hkb
      (repeat' (first | refine w_iadd1 rfl ?_ | refine w_isub1 rfl ?_ | refine w_iinc1 rfl rfl ?_ | refine w_s rfl rfl ?_ | refine w_get rfl rfl rfl rfl ?_ | refine w_nnl rfl ?_ | refine w_nnlR rfl ?_ | refine w_nul rfl ?_ | refine w_nulR rfl ?_ | refine w_ldc rfl rfl ?_ | refine w_ldc2 rfl rfl ?_ | refine w_put rfl rfl rfl (Nat.le_of_ble_eq_true rfl) (Or.inl rfl) rfl rfl ?_ | ((first | refine w_if2 rfl (fun _ => ?_) (fun _ => ?_) | refine w_if1 rfl (fun _ => ?_) (fun _ => ?_)) <;> try (exfalso; (((try simp only [c_eq0, c_ne0, c_Llt, c_Lle, c_Lgt, c_Lge, c_Leq, c_Lne] at *); try simp only [ax_cnd, vp_in_iff, Int32.lt_iff_toInt_lt, Int32.le_iff_toInt_le, Int64.lt_iff_toInt_lt, Int64.le_iff_toInt_le, q_eq, q_eqL, q_lg, q_nI, q_add, q_sub, q_mul, q_neg, q_addL, q_subL, q_mulL, q_negL, q_i2l, q_l2i, q_b8, q_b16, q_ofI, q_lit, q_ofNL, q_litL, ne_eq, gt_iff_lt, ge_iff_le] at *) <;> omega); done))))
      (refine w_cv rfl rfl rfl rfl (by exact Nat.le_of_ble_eq_true rfl) (by exact Nat.le_of_ble_eq_true rfl) (r_Bd_excess0 (c := ax_cst c G c.bn) hn k hkb (by omega)) ?_; dsimp only [Option.toList, List.drop, List.cons_append, List.nil_append])
      (repeat (first | refine w_iadd1 rfl ?_ | refine w_isub1 rfl ?_ | refine w_iinc1 rfl rfl ?_ | refine w_s rfl rfl ?_ | refine w_get rfl rfl rfl rfl ?_ | refine w_nnl rfl ?_ | refine w_nnlR rfl ?_ | refine w_nul rfl ?_ | refine w_nulR rfl ?_ | refine w_ldc rfl rfl ?_ | refine w_ldc2 rfl rfl ?_ | refine w_put rfl rfl rfl (Nat.le_of_ble_eq_true rfl) (Or.inl rfl) rfl rfl ?_))
      refine w_if1 rfl (fun h5 => ?_) (fun h5 => absurd (show (0 : Int32) ≤ 0 from by decide) h5)
      (repeat ((fail_if_success (show ax_wp _ _ _ 7 _ _ _)); (first | refine w_iadd1 rfl ?_ | refine w_isub1 rfl ?_ | refine w_iinc1 rfl rfl ?_ | refine w_s rfl rfl ?_ | refine w_get rfl rfl rfl rfl ?_ | refine w_nnl rfl ?_ | refine w_nnlR rfl ?_ | refine w_nul rfl ?_ | refine w_nulR rfl ?_ | refine w_ldc rfl rfl ?_ | refine w_ldc2 rfl rfl ?_ | refine w_put rfl rfl rfl (Nat.le_of_ble_eq_true rfl) (Or.inl rfl) rfl rfl ?_)))
      exact w_lv (ih (k + 1) (by omega) (by omega)) rfl ⟨rfl, rfl, rfl, rfl, trivial⟩
  have l1 : ∀ (d k : Nat), k + d = c.bn → ax_wp ax_run M_Re_collect (fun r' => r' = (.inl (some (.int (nI (ax_col c G c.bn).1))), (ax_hp L xs (ax_cst c G c.bn) m o pool, u))) 7 [(0, .ref 11), (1, .ref 5), (2, .ref (g + 40)), (3, .int (nI k))] [] (ax_hp L xs (ax_cst c G k) m o pool, u) := by
    intro d
    induction d with
    | zero =>
      intro k hk
      have : k = c.bn := by omega
      subst this
      exact l2 (60 - c.bn) c.bn (by omega) (Nat.le_refl _)
    | succ d ih =>
      intro k hk
      have hle := ax_col_le c G k
      have hx := ax_ex_b hb hok (t := k) (by omega)
      have hb' : BoardOk (ax_cst c G k) := ⟨hb.n, hb.k, hb.v⟩
      (repeat' (first | refine w_iadd1 rfl ?_ | refine w_isub1 rfl ?_ | refine w_iinc1 rfl rfl ?_ | refine w_s rfl rfl ?_ | refine w_get rfl rfl rfl rfl ?_ | refine w_nnl rfl ?_ | refine w_nnlR rfl ?_ | refine w_nul rfl ?_ | refine w_nulR rfl ?_ | refine w_ldc rfl rfl ?_ | refine w_ldc2 rfl rfl ?_ | refine w_put rfl rfl rfl (Nat.le_of_ble_eq_true rfl) (Or.inl rfl) rfl rfl ?_ | ((first | refine w_if2 rfl (fun _ => ?_) (fun _ => ?_) | refine w_if1 rfl (fun _ => ?_) (fun _ => ?_)) <;> try (exfalso; (((try simp only [c_eq0, c_ne0, c_Llt, c_Lle, c_Lgt, c_Lge, c_Leq, c_Lne] at *); try simp only [ax_cnd, vp_in_iff, Int32.lt_iff_toInt_lt, Int32.le_iff_toInt_le, Int64.lt_iff_toInt_lt, Int64.le_iff_toInt_le, q_eq, q_eqL, q_lg, q_nI, q_add, q_sub, q_mul, q_neg, q_addL, q_subL, q_mulL, q_negL, q_i2l, q_l2i, q_b8, q_b16, q_ofI, q_lit, q_ofNL, q_litL, ne_eq, gt_iff_lt, ge_iff_le] at *) <;> omega); done))))
      (refine w_cv rfl rfl rfl rfl (by exact Nat.le_of_ble_eq_true rfl) (by exact Nat.le_of_ble_eq_true rfl) (r_Bd_excess1 (c := ax_cst c G k) hg hok hb' k (by show k < c.bn; omega)) ?_; dsimp only [Option.toList, List.drop, List.cons_append, List.nil_append])
      (repeat (first | refine w_iadd1 rfl ?_ | refine w_isub1 rfl ?_ | refine w_iinc1 rfl rfl ?_ | refine w_s rfl rfl ?_ | refine w_get rfl rfl rfl rfl ?_ | refine w_nnl rfl ?_ | refine w_nnlR rfl ?_ | refine w_nul rfl ?_ | refine w_nulR rfl ?_ | refine w_ldc rfl rfl ?_ | refine w_ldc2 rfl rfl ?_ | refine w_put rfl rfl rfl (Nat.le_of_ble_eq_true rfl) (Or.inl rfl) rfl rfl ?_))
      have hex : ax_ex (ax_cst c G k) G k = ax_ex c G k := rfl
      rw [hex]
      refine w_if1 rfl (fun h5 => ?_) (fun h5 => ?_)
      · have h6 : ¬ 0 < ax_ex c G k := by
          have := Int32.le_iff_toInt_le.mp h5
          rw [q_ofI] at this
          have h0 : ((0 : Int32)).toInt = 0 := rfl
          omega
        (repeat ((fail_if_success (show ax_wp _ _ _ 7 _ _ _)); (first | refine w_iadd1 rfl ?_ | refine w_isub1 rfl ?_ | refine w_iinc1 rfl rfl ?_ | refine w_s rfl rfl ?_ | refine w_get rfl rfl rfl rfl ?_ | refine w_nnl rfl ?_ | refine w_nnlR rfl ?_ | refine w_nul rfl ?_ | refine w_nulR rfl ?_ | refine w_ldc rfl rfl ?_ | refine w_ldc2 rfl rfl ?_ | refine w_put rfl rfl rfl (Nat.le_of_ble_eq_true rfl) (Or.inl rfl) rfl rfl ?_)))
        have e : ax_cst c G (k + 1) = ax_cst c G k := by
          unfold ax_cst
          rw [show ax_col c G (k + 1) = ax_col c G k from if_neg h6]
        have := ih (k + 1) (by omega)
        rw [e] at this
        exact w_lv this rfl ⟨rfl, rfl, rfl, rfl, trivial⟩
      · have h6 : 0 < ax_ex c G k := by
          have h7 : ¬ (Int32.ofInt (ax_ex c G k)).toInt ≤ ((0 : Int32)).toInt := fun z => h5 (Int32.le_iff_toInt_le.mpr z)
          rw [q_ofI] at h7
          have h0 : ((0 : Int32)).toInt = 0 := rfl
          omega
        (repeat (first | refine w_iadd1 rfl ?_ | refine w_isub1 rfl ?_ | refine w_iinc1 rfl rfl ?_ | refine w_s rfl rfl ?_ | refine w_get rfl rfl rfl rfl ?_ | refine w_nnl rfl ?_ | refine w_nnlR rfl ?_ | refine w_nul rfl ?_ | refine w_nulR rfl ?_ | refine w_ldc rfl rfl ?_ | refine w_ldc2 rfl rfl ?_ | refine w_put rfl rfl rfl (Nat.le_of_ble_eq_true rfl) (Or.inl rfl) rfl rfl ?_))
        refine w_ias rfl rfl rfl (by show (ax_col c G k).1 < 60; omega) (by decide) ?_
        (repeat (first | refine w_iadd1 rfl ?_ | refine w_isub1 rfl ?_ | refine w_iinc1 rfl rfl ?_ | refine w_s rfl rfl ?_ | refine w_get rfl rfl rfl rfl ?_ | refine w_nnl rfl ?_ | refine w_nnlR rfl ?_ | refine w_nul rfl ?_ | refine w_nulR rfl ?_ | refine w_ldc rfl rfl ?_ | refine w_ldc2 rfl rfl ?_ | refine w_put rfl rfl rfl (Nat.le_of_ble_eq_true rfl) (Or.inl rfl) rfl rfl ?_))
        refine w_ias rfl rfl rfl (by show (ax_col c G k).1 < 60; omega) (by decide) ?_
        (repeat ((fail_if_success (show ax_wp _ _ _ 7 _ _ _)); (first | refine w_iadd1 rfl ?_ | refine w_isub1 rfl ?_ | refine w_iinc1 rfl rfl ?_ | refine w_s rfl rfl ?_ | refine w_get rfl rfl rfl rfl ?_ | refine w_nnl rfl ?_ | refine w_nnlR rfl ?_ | refine w_nul rfl ?_ | refine w_nulR rfl ?_ | refine w_ldc rfl rfl ?_ | refine w_ldc2 rfl rfl ?_ | refine w_put rfl rfl rfl (Nat.le_of_ble_eq_true rfl) (Or.inl rfl) rfl rfl ?_)))
        have e : ax_cst c G (k + 1) = (ax_St.u_re (ax_St.u_rt (ax_St.u_rn c ((ax_col c G k).1 + 1)) (upd (ax_col c G k).2.1 (ax_col c G k).1 (nI k))) (upd (ax_col c G k).2.2 (ax_col c G k).1 (Int32.ofInt (ax_ex c G k)))) := by
          unfold ax_cst
          rw [show ax_col c G (k + 1) = _ from if_pos h6]
        have := ih (k + 1) (by omega)
        rw [e] at this
        exact w_lv this rfl ⟨rfl, rfl, rfl, rfl, trivial⟩
  (refine ax_run_T (ax_T_of M_Re_collect rfl (Nat.le_of_ble_eq_true rfl) ?_))
  (repeat ((fail_if_success (show ax_wp _ _ _ 7 _ _ _)); (first | refine w_iadd1 rfl ?_ | refine w_isub1 rfl ?_ | refine w_iinc1 rfl rfl ?_ | refine w_s rfl rfl ?_ | refine w_get rfl rfl rfl rfl ?_ | refine w_nnl rfl ?_ | refine w_nnlR rfl ?_ | refine w_nul rfl ?_ | refine w_nulR rfl ?_ | refine w_ldc rfl rfl ?_ | refine w_ldc2 rfl rfl ?_ | refine w_put rfl rfl rfl (Nat.le_of_ble_eq_true rfl) (Or.inl rfl) rfl rfl ?_)))
  exact w_lv (l1 c.bn 0 (by omega)) rfl ⟨rfl, rfl, rfl, rfl, trivial⟩
def sp_run (c : ax_St) (Fs : Nat → ax_Of) (k j : Int32) : ax_SR := if ¬ (0 ≤ k.toInt ∧ k.toInt < c.told ∧ 0 ≤ j.toInt ∧ j.toInt < (Fs k.toInt.toNat).n) then .inr 0 else .inl (.int (nI (ax_col c ((Fs k.toInt.toNat).g j.toInt.toNat) c.bn).1), ax_cst c ((Fs k.toInt.toNat).g j.toInt.toNat) c.bn)
theorem r_run {Fs : Nat → ax_Of} (hF : OffOk c pool Fs) (hb : BoardOk c) (k j : Int32) : ax_run m_ML_run [.ref 1, .int k, .int j] (ax_hp L xs c m o pool, u) (ax_out L xs m o pool u c (sp_run c Fs k j)) := by
  have hn := hF.n
  unfold sp_run
  split
  · (refine ax_run_T (ax_T_of M_ML_run rfl (Nat.le_of_ble_eq_true rfl) ?_))
    (repeat (first | refine w_iadd1 rfl ?_ | refine w_isub1 rfl ?_ | refine w_iinc1 rfl rfl ?_ | refine w_s rfl rfl ?_ | refine w_get rfl rfl rfl rfl ?_ | refine w_nnl rfl ?_ | refine w_nnlR rfl ?_ | refine w_nul rfl ?_ | refine w_nulR rfl ?_ | refine w_ldc rfl rfl ?_ | refine w_ldc2 rfl rfl ?_ | refine w_put rfl rfl rfl (Nat.le_of_ble_eq_true rfl) (Or.inl rfl) rfl rfl ?_))
    exact w_cvx rfl rfl rfl rfl (Nat.le_of_ble_eq_true rfl) (Nat.le_of_ble_eq_true rfl) (by decide) rfl (r_gradeOf0 hF k j (by assumption)) rfl
  · rename_i h0
    obtain ⟨n, rfl, hn1, hn2⟩ := q_nat (x := k) (by omega)
    obtain ⟨i, rfl, hi1, hi2⟩ := q_nat (x := j) (by omega)
    rw [← hn1, ← hi1] at h0 ⊢
    simp only [Int.toNat_natCast] at h0 ⊢
    obtain ⟨g, g1, g2⟩ := r_gradeOf1 (L := L) (xs := xs) (m := m) (o := o) (u := u) hF n i (by omega) (by omega)
    obtain ⟨-, -, -, e3⟩ := hF.at_ n (by omega)
    (refine ax_run_T (ax_T_of M_ML_run rfl (Nat.le_of_ble_eq_true rfl) ?_))
    (repeat (first | refine w_iadd1 rfl ?_ | refine w_isub1 rfl ?_ | refine w_iinc1 rfl rfl ?_ | refine w_s rfl rfl ?_ | refine w_get rfl rfl rfl rfl ?_ | refine w_nnl rfl ?_ | refine w_nnlR rfl ?_ | refine w_nul rfl ?_ | refine w_nulR rfl ?_ | refine w_ldc rfl rfl ?_ | refine w_ldc2 rfl rfl ?_ | refine w_put rfl rfl rfl (Nat.le_of_ble_eq_true rfl) (Or.inl rfl) rfl rfl ?_))
    (refine w_cv rfl rfl rfl rfl (by exact Nat.le_of_ble_eq_true rfl) (by exact Nat.le_of_ble_eq_true rfl) g2 ?_; dsimp only [Option.toList, List.drop, List.cons_append, List.nil_append])
    (refine w_cv rfl rfl rfl rfl (by exact Nat.le_of_ble_eq_true rfl) (by exact Nat.le_of_ble_eq_true rfl) (r_collect g1 (e3.gs i (by omega)) hb) ?_; dsimp only [Option.toList, List.drop, List.cons_append, List.nil_append])
    (refine w_iret rfl rfl rfl ?_)
    rfl
def sp_quote (c : ax_St) (k : Int32) (d : Int64) : ax_SR := if ¬ (0 ≤ k.toInt ∧ k.toInt < c.told) then .inr 0 else if c.qn = 10 then .inl (.int (-1), c)
  else .inl (.int (nI c.qn), (ax_St.u_qn (ax_St.u_qu (ax_St.u_qo (ax_St.u_qm c (upd c.qm c.qn k)) (va_up c.qo c.qn (c.of k.toInt.toNat))) (vp_updL c.qu c.qn d)) (c.qn + 1)))
theorem r_quote {Fs : Nat → ax_Of} (hF : OffOk c pool Fs) (hq : c.qn ≤ 10) (k : Int32) (d : Int64) : ax_run m_ML_quote [.ref 1, .int k, .long d] (ax_hp L xs c m o pool, u) (ax_out L xs m o pool u c (sp_quote c k d)) := by
  have hn := hF.n
  unfold sp_quote
  split
  · (refine ax_run_T (ax_T_of M_ML_quote rfl (Nat.le_of_ble_eq_true rfl) ?_))
    (repeat (first | refine w_iadd1 rfl ?_ | refine w_isub1 rfl ?_ | refine w_iinc1 rfl rfl ?_ | refine w_s rfl rfl ?_ | refine w_get rfl rfl rfl rfl ?_ | refine w_nnl rfl ?_ | refine w_nnlR rfl ?_ | refine w_nul rfl ?_ | refine w_nulR rfl ?_ | refine w_ldc rfl rfl ?_ | refine w_ldc2 rfl rfl ?_ | refine w_put rfl rfl rfl (Nat.le_of_ble_eq_true rfl) (Or.inl rfl) rfl rfl ?_))
    exact w_cvx rfl rfl rfl rfl (Nat.le_of_ble_eq_true rfl) (Nat.le_of_ble_eq_true rfl) (by decide) rfl (r_offerOf0 hF k (by assumption)) rfl
  · rename_i h0
    obtain ⟨n, rfl, hn1, hn2⟩ := q_nat (x := k) (by omega)
    rw [← hn1]
    simp only [Int.toNat_natCast]
    obtain ⟨i, e1, e2, e3⟩ := hF.at_ n (by omega)
    obtain ⟨a, gf, z1, -⟩ := id e2
    rw [e1]
    split
    · have ha : ax_run m_Qu_add [.ref 14, .int (nI n), .ref (i + 40), .long d] (ax_hp L xs c m o pool, u) (.inl (some (.int (-1))), (ax_hp L xs c m o pool, u)) := by
        (refine ax_run_T (ax_T_of M_Qu_add rfl (Nat.le_of_ble_eq_true rfl) ?_))
        (repeat' (first | refine w_iadd1 rfl ?_ | refine w_isub1 rfl ?_ | refine w_iinc1 rfl rfl ?_ | refine w_s rfl rfl ?_ | refine w_get rfl rfl rfl rfl ?_ | refine w_nnl rfl ?_ | refine w_nnlR rfl ?_ | refine w_nul rfl ?_ | refine w_nulR rfl ?_ | refine w_ldc rfl rfl ?_ | refine w_ldc2 rfl rfl ?_ | refine w_put rfl rfl rfl (Nat.le_of_ble_eq_true rfl) (Or.inl rfl) rfl rfl ?_ | ((first | refine w_if2 rfl (fun _ => ?_) (fun _ => ?_) | refine w_if1 rfl (fun _ => ?_) (fun _ => ?_)) <;> try (exfalso; (((try simp only [c_eq0, c_ne0, c_Llt, c_Lle, c_Lgt, c_Lge, c_Leq, c_Lne] at *); try simp only [ax_cnd, vp_in_iff, Int32.lt_iff_toInt_lt, Int32.le_iff_toInt_le, Int64.lt_iff_toInt_lt, Int64.le_iff_toInt_le, q_eq, q_eqL, q_lg, q_nI, q_add, q_sub, q_mul, q_neg, q_addL, q_subL, q_mulL, q_negL, q_i2l, q_l2i, q_b8, q_b16, q_ofI, q_lit, q_ofNL, q_litL, ne_eq, gt_iff_lt, ge_iff_le] at *) <;> omega); done))))
        (refine w_iret rfl rfl rfl ?_)
        rfl
      (refine ax_run_T (ax_T_of M_ML_quote rfl (Nat.le_of_ble_eq_true rfl) ?_))
      (repeat (first | refine w_iadd1 rfl ?_ | refine w_isub1 rfl ?_ | refine w_iinc1 rfl rfl ?_ | refine w_s rfl rfl ?_ | refine w_get rfl rfl rfl rfl ?_ | refine w_nnl rfl ?_ | refine w_nnlR rfl ?_ | refine w_nul rfl ?_ | refine w_nulR rfl ?_ | refine w_ldc rfl rfl ?_ | refine w_ldc2 rfl rfl ?_ | refine w_put rfl rfl rfl (Nat.le_of_ble_eq_true rfl) (Or.inl rfl) rfl rfl ?_))
      (refine w_cv rfl rfl rfl rfl (by exact Nat.le_of_ble_eq_true rfl) (by exact Nat.le_of_ble_eq_true rfl) (r_offerOf1 (by omega) e1) ?_; dsimp only [Option.toList, List.drop, List.cons_append, List.nil_append])
      (repeat (first | refine w_iadd1 rfl ?_ | refine w_isub1 rfl ?_ | refine w_iinc1 rfl rfl ?_ | refine w_s rfl rfl ?_ | refine w_get rfl rfl rfl rfl ?_ | refine w_nnl rfl ?_ | refine w_nnlR rfl ?_ | refine w_nul rfl ?_ | refine w_nulR rfl ?_ | refine w_ldc rfl rfl ?_ | refine w_ldc2 rfl rfl ?_ | refine w_put rfl rfl rfl (Nat.le_of_ble_eq_true rfl) (Or.inl rfl) rfl rfl ?_))
      (refine w_cv rfl rfl rfl rfl (by exact Nat.le_of_ble_eq_true rfl) (by exact Nat.le_of_ble_eq_true rfl) ha ?_; dsimp only [Option.toList, List.drop, List.cons_append, List.nil_append])
      (refine w_iret rfl rfl rfl ?_)
      rfl
    · have ha : ax_run m_Qu_add [.ref 14, .int (nI n), .ref (i + 40), .long d] (ax_hp L xs c m o pool, u) (.inl (some (.int (nI c.qn))), (ax_hp L xs (ax_St.u_qn (ax_St.u_qu (ax_St.u_qo (ax_St.u_qm c (upd c.qm c.qn (nI n))) (va_up c.qo c.qn (some (i + 40)))) (vp_updL c.qu c.qn d)) (c.qn + 1)) m o pool, u)) := by
        (refine ax_run_T (ax_T_of M_Qu_add rfl (Nat.le_of_ble_eq_true rfl) ?_))
        (repeat' (first | refine w_iadd1 rfl ?_ | refine w_isub1 rfl ?_ | refine w_iinc1 rfl rfl ?_ | refine w_s rfl rfl ?_ | refine w_get rfl rfl rfl rfl ?_ | refine w_nnl rfl ?_ | refine w_nnlR rfl ?_ | refine w_nul rfl ?_ | refine w_nulR rfl ?_ | refine w_ldc rfl rfl ?_ | refine w_ldc2 rfl rfl ?_ | refine w_put rfl rfl rfl (Nat.le_of_ble_eq_true rfl) (Or.inl rfl) rfl rfl ?_ | ((first | refine w_if2 rfl (fun _ => ?_) (fun _ => ?_) | refine w_if1 rfl (fun _ => ?_) (fun _ => ?_)) <;> try (exfalso; (((try simp only [c_eq0, c_ne0, c_Llt, c_Lle, c_Lgt, c_Lge, c_Leq, c_Lne] at *); try simp only [ax_cnd, vp_in_iff, Int32.lt_iff_toInt_lt, Int32.le_iff_toInt_le, Int64.lt_iff_toInt_lt, Int64.le_iff_toInt_le, q_eq, q_eqL, q_lg, q_nI, q_add, q_sub, q_mul, q_neg, q_addL, q_subL, q_mulL, q_negL, q_i2l, q_l2i, q_b8, q_b16, q_ofI, q_lit, q_ofNL, q_litL, ne_eq, gt_iff_lt, ge_iff_le] at *) <;> omega); done))))
        refine w_ias rfl rfl rfl (by omega) (by decide) ?_
        (repeat (first | refine w_iadd1 rfl ?_ | refine w_isub1 rfl ?_ | refine w_iinc1 rfl rfl ?_ | refine w_s rfl rfl ?_ | refine w_get rfl rfl rfl rfl ?_ | refine w_nnl rfl ?_ | refine w_nnlR rfl ?_ | refine w_nul rfl ?_ | refine w_nulR rfl ?_ | refine w_ldc rfl rfl ?_ | refine w_ldc2 rfl rfl ?_ | refine w_put rfl rfl rfl (Nat.le_of_ble_eq_true rfl) (Or.inl rfl) rfl rfl ?_))
        refine w_aas rfl rfl (Or.inl rfl) rfl (by omega) (by decide) z1 ?_
        (repeat (first | refine w_iadd1 rfl ?_ | refine w_isub1 rfl ?_ | refine w_iinc1 rfl rfl ?_ | refine w_s rfl rfl ?_ | refine w_get rfl rfl rfl rfl ?_ | refine w_nnl rfl ?_ | refine w_nnlR rfl ?_ | refine w_nul rfl ?_ | refine w_nulR rfl ?_ | refine w_ldc rfl rfl ?_ | refine w_ldc2 rfl rfl ?_ | refine w_put rfl rfl rfl (Nat.le_of_ble_eq_true rfl) (Or.inl rfl) rfl rfl ?_))
        refine w_las rfl rfl rfl (by omega) (by decide) ?_
        (repeat (first | refine w_iadd1 rfl ?_ | refine w_isub1 rfl ?_ | refine w_iinc1 rfl rfl ?_ | refine w_s rfl rfl ?_ | refine w_get rfl rfl rfl rfl ?_ | refine w_nnl rfl ?_ | refine w_nnlR rfl ?_ | refine w_nul rfl ?_ | refine w_nulR rfl ?_ | refine w_ldc rfl rfl ?_ | refine w_ldc2 rfl rfl ?_ | refine w_put rfl rfl rfl (Nat.le_of_ble_eq_true rfl) (Or.inl rfl) rfl rfl ?_))
        (refine w_iret rfl rfl rfl ?_)
        rfl
      (refine ax_run_T (ax_T_of M_ML_quote rfl (Nat.le_of_ble_eq_true rfl) ?_))
      (repeat (first | refine w_iadd1 rfl ?_ | refine w_isub1 rfl ?_ | refine w_iinc1 rfl rfl ?_ | refine w_s rfl rfl ?_ | refine w_get rfl rfl rfl rfl ?_ | refine w_nnl rfl ?_ | refine w_nnlR rfl ?_ | refine w_nul rfl ?_ | refine w_nulR rfl ?_ | refine w_ldc rfl rfl ?_ | refine w_ldc2 rfl rfl ?_ | refine w_put rfl rfl rfl (Nat.le_of_ble_eq_true rfl) (Or.inl rfl) rfl rfl ?_))
      (refine w_cv rfl rfl rfl rfl (by exact Nat.le_of_ble_eq_true rfl) (by exact Nat.le_of_ble_eq_true rfl) (r_offerOf1 (by omega) e1) ?_; dsimp only [Option.toList, List.drop, List.cons_append, List.nil_append])
      (repeat (first | refine w_iadd1 rfl ?_ | refine w_isub1 rfl ?_ | refine w_iinc1 rfl rfl ?_ | refine w_s rfl rfl ?_ | refine w_get rfl rfl rfl rfl ?_ | refine w_nnl rfl ?_ | refine w_nnlR rfl ?_ | refine w_nul rfl ?_ | refine w_nulR rfl ?_ | refine w_ldc rfl rfl ?_ | refine w_ldc2 rfl rfl ?_ | refine w_put rfl rfl rfl (Nat.le_of_ble_eq_true rfl) (Or.inl rfl) rfl rfl ?_))
      (refine w_cv rfl rfl rfl rfl (by exact Nat.le_of_ble_eq_true rfl) (by exact Nat.le_of_ble_eq_true rfl) ha ?_; dsimp only [Option.toList, List.drop, List.cons_append, List.nil_append])
      (refine w_iret rfl rfl rfl ?_)
      rfl
def ax_latest (c : ax_St) (k : Int32) (d : Int64) : Int32 := ax_lat (fun q => decide (c.qm q = k ∧ d.toInt ≤ (c.qu q).toInt)) c.qn
theorem r_latest (hq : c.qn ≤ 10) (k : Int32) (d : Int64) : ax_run m_Qu_latest [.ref 14, .int k, .long d] (ax_hp L xs c m o pool, u) (.inl (some (.int (ax_latest c k d))), (ax_hp L xs c m o pool, u)) := by
  have lp : ∀ (n : Nat) (x : Int32), n ≤ c.qn → x.toInt = (n : Int) - 1 → ax_wp ax_run M_Qu_latest (fun r' => r' = (.inl (some (.int (ax_lat (fun q => decide (c.qm q = k ∧ d.toInt ≤ (c.qu q).toInt)) n))), (ax_hp L xs c m o pool, u))) 8 [(0, .ref 14), (1, .int k), (2, .long d), (4, .int x)] [] (ax_hp L xs c m o pool, u) := by
    intro n
    induction n with
    | zero =>
      intro x hn hx
      (repeat' (first | refine w_iadd1 rfl ?_ | refine w_isub1 rfl ?_ | refine w_iinc1 rfl rfl ?_ | refine w_s rfl rfl ?_ | refine w_get rfl rfl rfl rfl ?_ | refine w_nnl rfl ?_ | refine w_nnlR rfl ?_ | refine w_nul rfl ?_ | refine w_nulR rfl ?_ | refine w_ldc rfl rfl ?_ | refine w_ldc2 rfl rfl ?_ | refine w_put rfl rfl rfl (Nat.le_of_ble_eq_true rfl) (Or.inl rfl) rfl rfl ?_ | ((first | refine w_if2 rfl (fun _ => ?_) (fun _ => ?_) | refine w_if1 rfl (fun _ => ?_) (fun _ => ?_)) <;> try (exfalso; (((try simp only [c_eq0, c_ne0, c_Llt, c_Lle, c_Lgt, c_Lge, c_Leq, c_Lne] at *); try simp only [ax_cnd, vp_in_iff, Int32.lt_iff_toInt_lt, Int32.le_iff_toInt_le, Int64.lt_iff_toInt_lt, Int64.le_iff_toInt_le, q_eq, q_eqL, q_lg, q_nI, q_add, q_sub, q_mul, q_neg, q_addL, q_subL, q_mulL, q_negL, q_i2l, q_l2i, q_b8, q_b16, q_ofI, q_lit, q_ofNL, q_litL, ne_eq, gt_iff_lt, ge_iff_le] at *) <;> omega); done))))
      (refine w_iret rfl rfl rfl ?_)
      rfl
    | succ n ih =>
      intro x hn hx
      have hx' : x = nI n := q_nIof (by omega) (by omega)
      subst hx'
      (repeat' (first | refine w_iadd1 rfl ?_ | refine w_isub1 rfl ?_ | refine w_iinc1 rfl rfl ?_ | refine w_s rfl rfl ?_ | refine w_get rfl rfl rfl rfl ?_ | refine w_nnl rfl ?_ | refine w_nnlR rfl ?_ | refine w_nul rfl ?_ | refine w_nulR rfl ?_ | refine w_ldc rfl rfl ?_ | refine w_ldc2 rfl rfl ?_ | refine w_put rfl rfl rfl (Nat.le_of_ble_eq_true rfl) (Or.inl rfl) rfl rfl ?_ | ((first | refine w_if2 rfl (fun _ => ?_) (fun _ => ?_) | refine w_if1 rfl (fun _ => ?_) (fun _ => ?_)) <;> try (exfalso; (((try simp only [c_eq0, c_ne0, c_Llt, c_Lle, c_Lgt, c_Lge, c_Leq, c_Lne] at *); try simp only [ax_cnd, vp_in_iff, Int32.lt_iff_toInt_lt, Int32.le_iff_toInt_le, Int64.lt_iff_toInt_lt, Int64.le_iff_toInt_le, q_eq, q_eqL, q_lg, q_nI, q_add, q_sub, q_mul, q_neg, q_addL, q_subL, q_mulL, q_negL, q_i2l, q_l2i, q_b8, q_b16, q_ofI, q_lit, q_ofNL, q_litL, ne_eq, gt_iff_lt, ge_iff_le] at *) <;> omega); done))))
      refine w_ia rfl rfl rfl (by omega) (by decide) ?_
      (repeat (first | refine w_iadd1 rfl ?_ | refine w_isub1 rfl ?_ | refine w_iinc1 rfl rfl ?_ | refine w_s rfl rfl ?_ | refine w_get rfl rfl rfl rfl ?_ | refine w_nnl rfl ?_ | refine w_nnlR rfl ?_ | refine w_nul rfl ?_ | refine w_nulR rfl ?_ | refine w_ldc rfl rfl ?_ | refine w_ldc2 rfl rfl ?_ | refine w_put rfl rfl rfl (Nat.le_of_ble_eq_true rfl) (Or.inl rfl) rfl rfl ?_))
      refine w_if2 rfl (fun h5 => ?_) (fun h5 => ?_)
      · have h6 : ¬ c.qm n = k := h5
        (repeat ((fail_if_success (show ax_wp _ _ _ 8 _ _ _)); (first | refine w_iadd1 rfl ?_ | refine w_isub1 rfl ?_ | refine w_iinc1 rfl rfl ?_ | refine w_s rfl rfl ?_ | refine w_get rfl rfl rfl rfl ?_ | refine w_nnl rfl ?_ | refine w_nnlR rfl ?_ | refine w_nul rfl ?_ | refine w_nulR rfl ?_ | refine w_ldc rfl rfl ?_ | refine w_ldc2 rfl rfl ?_ | refine w_put rfl rfl rfl (Nat.le_of_ble_eq_true rfl) (Or.inl rfl) rfl rfl ?_)))
        refine w_lv (w_post (ih _ (by omega) (by rw [q_add, q_nI, q_ofI]; omega)) (fun r hr => ?_)) rfl ⟨rfl, rfl, rfl, rfl, trivial⟩
        rw [hr]
        show _ = (Sum.inl (some (Value.int (if decide (c.qm n = k ∧ d.toInt ≤ (c.qu n).toInt) = true then nI n else _))), _)
        rw [if_neg (by rw [decide_eq_true_eq]; exact fun z => h6 z.1)]
      · have h6 : c.qm n = k := Decidable.not_not.mp h5
        (repeat (first | refine w_iadd1 rfl ?_ | refine w_isub1 rfl ?_ | refine w_iinc1 rfl rfl ?_ | refine w_s rfl rfl ?_ | refine w_get rfl rfl rfl rfl ?_ | refine w_nnl rfl ?_ | refine w_nnlR rfl ?_ | refine w_nul rfl ?_ | refine w_nulR rfl ?_ | refine w_ldc rfl rfl ?_ | refine w_ldc2 rfl rfl ?_ | refine w_put rfl rfl rfl (Nat.le_of_ble_eq_true rfl) (Or.inl rfl) rfl rfl ?_))
        refine w_la rfl rfl rfl (by omega) (by decide) ?_
        (repeat (first | refine w_iadd1 rfl ?_ | refine w_isub1 rfl ?_ | refine w_iinc1 rfl rfl ?_ | refine w_s rfl rfl ?_ | refine w_get rfl rfl rfl rfl ?_ | refine w_nnl rfl ?_ | refine w_nnlR rfl ?_ | refine w_nul rfl ?_ | refine w_nulR rfl ?_ | refine w_ldc rfl rfl ?_ | refine w_ldc2 rfl rfl ?_ | refine w_put rfl rfl rfl (Nat.le_of_ble_eq_true rfl) (Or.inl rfl) rfl rfl ?_))
        refine w_if1 rfl (fun h7 => ?_) (fun h7 => ?_)
        · have h8 := c_Llt.mp h7
          (repeat ((fail_if_success (show ax_wp _ _ _ 8 _ _ _)); (first | refine w_iadd1 rfl ?_ | refine w_isub1 rfl ?_ | refine w_iinc1 rfl rfl ?_ | refine w_s rfl rfl ?_ | refine w_get rfl rfl rfl rfl ?_ | refine w_nnl rfl ?_ | refine w_nnlR rfl ?_ | refine w_nul rfl ?_ | refine w_nulR rfl ?_ | refine w_ldc rfl rfl ?_ | refine w_ldc2 rfl rfl ?_ | refine w_put rfl rfl rfl (Nat.le_of_ble_eq_true rfl) (Or.inl rfl) rfl rfl ?_)))
          refine w_lv (w_post (ih _ (by omega) (by rw [q_add, q_nI, q_ofI]; omega)) (fun r hr => ?_)) rfl ⟨rfl, rfl, rfl, rfl, trivial⟩
          rw [hr]
          show _ = (Sum.inl (some (Value.int (if decide (c.qm n = k ∧ d.toInt ≤ (c.qu n).toInt) = true then nI n else _))), _)
          rw [if_neg (by rw [decide_eq_true_eq]; omega)]
        · have h8 : ¬ (c.qu n).toInt < d.toInt := fun z => h7 (c_Llt.mpr z)
          (repeat (first | refine w_iadd1 rfl ?_ | refine w_isub1 rfl ?_ | refine w_iinc1 rfl rfl ?_ | refine w_s rfl rfl ?_ | refine w_get rfl rfl rfl rfl ?_ | refine w_nnl rfl ?_ | refine w_nnlR rfl ?_ | refine w_nul rfl ?_ | refine w_nulR rfl ?_ | refine w_ldc rfl rfl ?_ | refine w_ldc2 rfl rfl ?_ | refine w_put rfl rfl rfl (Nat.le_of_ble_eq_true rfl) (Or.inl rfl) rfl rfl ?_))
          (refine w_iret rfl rfl rfl ?_)
          show _ = (Sum.inl (some (Value.int (if decide (c.qm n = k ∧ d.toInt ≤ (c.qu n).toInt) = true then nI n else _))), _)
          rw [if_pos (by rw [decide_eq_true_eq]; exact ⟨h6, by omega⟩)]
  (refine ax_run_T (ax_T_of M_Qu_latest rfl (Nat.le_of_ble_eq_true rfl) ?_))
  (repeat ((fail_if_success (show ax_wp _ _ _ 8 _ _ _)); (first | refine w_iadd1 rfl ?_ | refine w_isub1 rfl ?_ | refine w_iinc1 rfl rfl ?_ | refine w_s rfl rfl ?_ | refine w_get rfl rfl rfl rfl ?_ | refine w_nnl rfl ?_ | refine w_nnlR rfl ?_ | refine w_nul rfl ?_ | refine w_nulR rfl ?_ | refine w_ldc rfl rfl ?_ | refine w_ldc2 rfl rfl ?_ | refine w_put rfl rfl rfl (Nat.le_of_ble_eq_true rfl) (Or.inl rfl) rfl rfl ?_)))
  exact w_lv (lp c.qn (nI c.qn - Int32.ofInt 1) (Nat.le_refl _) (by rw [q_sub, q_nI, q_ofI]; omega)) rfl ⟨rfl, rfl, rfl, rfl, trivial⟩
end CH
