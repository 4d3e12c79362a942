theorem q_half {R r : Nat} (h1 : 0 < r) (h2 : r < R) : 2 * (R % r) < R := by
  have h3 := Nat.mod_lt R h1
  have h4 := Nat.mod_add_div R r
  have h5 : 1 ≤ R / r := Nat.div_pos (Nat.le_of_lt h2) h1
  have h6 : r * 1 ≤ r * (R / r) := Nat.mul_le_mul (Nat.le_refl _) h5
  omega
theorem q_gcd (G R : Nat) : Nat.gcd R (G % R) = Nat.gcd G R := by
  rw [Nat.gcd_comm G R, Nat.gcd_rec R G, Nat.gcd_comm]
section CK
variable {L : Nat} {xs : Nat → Int32} {c : ax_St} {m : ax_Mo} {o : Nat → Int64} {pool : List (Option ax_C)} {u : Nat} {h : ax_H}
theorem r_gcd (A : Nat) (hA : A < 9223372036854775808) : ax_run m_ML_commonDivisor [.long (Int64.ofInt (A : Int)), .long (Int64.ofInt (40320 : Nat))] h (.inl (some (.long (Int64.ofInt (Nat.gcd A 40320 : Nat)))), h) := by
  have fin : ∀ (G : Nat) (lv : ax_L), 1 ≤ G → G < 9223372036854775808 → G = Nat.gcd A 40320 → ax_wp ax_run M_ML_commonDivisor (fun r' => r' = (.inl (some (.long (Int64.ofInt (Nat.gcd A 40320 : Nat)))), h)) 44 [(4, .long (Int64.ofInt (G : Int)))] [] h := by
    intro G lv h1 h2 h3
    (repeat (first | refine w_iadd1 rfl ?_ | refine w_isub1 rfl ?_ | refine w_iinc1 rfl rfl ?_ | refine w_s rfl rfl ?_ | refine w_get rfl rfl rfl rfl ?_ | refine w_nnl rfl ?_ | refine w_nnlR rfl ?_ | refine w_nul rfl ?_ | refine w_nulR rfl ?_ | refine w_ldc rfl rfl ?_ | refine w_ldc2 rfl rfl ?_ | refine w_put rfl rfl rfl (Nat.le_of_ble_eq_true rfl) (Or.inl rfl) rfl rfl ?_))
    (refine w_cs rfl rfl (by first | decide | exact Nat.le_of_ble_eq_true rfl) (by exact Nat.le_of_ble_eq_true rfl) (r_maxL (Int64.ofInt (G : Int)) (Int64.ofNat 1)) ?_; dsimp only [Option.toList, List.drop, List.cons_append, List.nil_append])
    refine w_lret rfl rfl ?_
    rw [if_neg (by rw [q_ofIL (by omega) (by omega), q_ofNL]; omega), h3]
  have ex : ∀ (G n : Nat), n < 100 → 1 ≤ G → G < 9223372036854775808 → G = Nat.gcd A 40320 → ax_wp ax_run M_ML_commonDivisor (fun r' => r' = (.inl (some (.long (Int64.ofInt (Nat.gcd A 40320 : Nat)))), h)) 9 [(4, .long (Int64.ofInt (G : Int))), (6, .long (Int64.ofInt (0 : Nat))), (8, .int (nI n))] [] h := by
    intro G n hn h1 h2 h3
    (repeat (first | refine w_iadd1 rfl ?_ | refine w_isub1 rfl ?_ | refine w_iinc1 rfl rfl ?_ | refine w_s rfl rfl ?_ | refine w_get rfl rfl rfl rfl ?_ | refine w_nnl rfl ?_ | refine w_nnlR rfl ?_ | refine w_nul rfl ?_ | refine w_nulR rfl ?_ | refine w_ldc rfl rfl ?_ | refine w_ldc2 rfl rfl ?_ | refine w_put rfl rfl rfl (Nat.le_of_ble_eq_true rfl) (Or.inl rfl) rfl rfl ?_))
    refine w_if2 rfl (fun h5 => absurd ((cn_ge (a := n) (b := 100) (by omega) (by omega)).mp h5) (by omega)) (fun _ => ?_)
    (repeat (first | refine w_iadd1 rfl ?_ | refine w_isub1 rfl ?_ | refine w_iinc1 rfl rfl ?_ | refine w_s rfl rfl ?_ | refine w_get rfl rfl rfl rfl ?_ | refine w_nnl rfl ?_ | refine w_nnlR rfl ?_ | refine w_nul rfl ?_ | refine w_nulR rfl ?_ | refine w_ldc rfl rfl ?_ | refine w_ldc2 rfl rfl ?_ | refine w_put rfl rfl rfl (Nat.le_of_ble_eq_true rfl) (Or.inl rfl) rfl rfl ?_))
    refine w_if1 rfl (fun _ => ?_) (fun h5 => absurd (c_Leq.mpr rfl) h5)
    exact w_lv (fin G [] h1 h2 h3) rfl ⟨rfl, trivial⟩
  have st : ∀ (G R n : Nat), n < 100 → 0 < R → G < 9223372036854775808 → R < 9223372036854775808 → ax_wp ax_run M_ML_commonDivisor (fun r' => r' = (.inl (some (.long (Int64.ofInt (Nat.gcd A 40320 : Nat)))), h)) 9 [(4, .long (Int64.ofInt (R : Int))), (6, .long (Int64.ofInt (G % R : Nat))), (8, .int (nI (n + 1)))] [] h → ax_wp ax_run M_ML_commonDivisor (fun r' => r' = (.inl (some (.long (Int64.ofInt (Nat.gcd A 40320 : Nat)))), h)) 9 [(4, .long (Int64.ofInt (G : Int))), (6, .long (Int64.ofInt (R : Int))), (8, .int (nI n))] [] h := by
    intro G R n hn hR hG1 hR1 k
    have eR : (Int64.ofInt (R : Int)).toInt = R := q_ofIL (by omega) (by omega)
    have eG : (Int64.ofInt (G : Int)).toInt = G := q_ofIL (by omega) (by omega)
    have em : Int64.ofInt (G : Int) - Int64.ofInt (G : Int) / Int64.ofInt (R : Int) * Int64.ofInt (R : Int) = Int64.ofInt (G % R : Nat) := q_toL (q_modL eG eR hG1)
    (repeat (first | refine w_iadd1 rfl ?_ | refine w_isub1 rfl ?_ | refine w_iinc1 rfl rfl ?_ | refine w_s rfl rfl ?_ | refine w_get rfl rfl rfl rfl ?_ | refine w_nnl rfl ?_ | refine w_nnlR rfl ?_ | refine w_nul rfl ?_ | refine w_nulR rfl ?_ | refine w_ldc rfl rfl ?_ | refine w_ldc2 rfl rfl ?_ | refine w_put rfl rfl rfl (Nat.le_of_ble_eq_true rfl) (Or.inl rfl) rfl rfl ?_))
    refine w_if2 rfl (fun h5 => absurd ((cn_ge (a := n) (b := 100) (by omega) (by omega)).mp h5) (by omega)) (fun _ => ?_)
    (repeat (first | refine w_iadd1 rfl ?_ | refine w_isub1 rfl ?_ | refine w_iinc1 rfl rfl ?_ | refine w_s rfl rfl ?_ | refine w_get rfl rfl rfl rfl ?_ | refine w_nnl rfl ?_ | refine w_nnlR rfl ?_ | refine w_nul rfl ?_ | refine w_nulR rfl ?_ | refine w_ldc rfl rfl ?_ | refine w_ldc2 rfl rfl ?_ | refine w_put rfl rfl rfl (Nat.le_of_ble_eq_true rfl) (Or.inl rfl) rfl rfl ?_))
    refine w_if1 rfl (fun h5 => ?_) (fun _ => ?_)
    · have := c_Leq.mp h5
      rw [eR, q_ofNL] at this
      omega
    · (repeat (first | refine w_iadd1 rfl ?_ | refine w_isub1 rfl ?_ | refine w_iinc1 rfl rfl ?_ | refine w_s rfl rfl ?_ | refine w_get rfl rfl rfl rfl ?_ | refine w_nnl rfl ?_ | refine w_nnlR rfl ?_ | refine w_nul rfl ?_ | refine w_nulR rfl ?_ | refine w_ldc rfl rfl ?_ | refine w_ldc2 rfl rfl ?_ | refine w_put rfl rfl rfl (Nat.le_of_ble_eq_true rfl) (Or.inl rfl) rfl rfl ?_))
      refine w_lrem rfl (fun z => ?_) ?_
      · have := congrArg Int64.toInt z
        rw [eR] at this
        have h0 : ((0 : Int64)).toInt = 0 := rfl
        omega
      rw [em]
      (repeat ((fail_if_success (show ax_wp _ _ _ 9 _ _ _)); (first | refine w_iadd1 rfl ?_ | refine w_isub1 rfl ?_ | refine w_iinc1 rfl rfl ?_ | refine w_s rfl rfl ?_ | refine w_get rfl rfl rfl rfl ?_ | refine w_nnl rfl ?_ | refine w_nnlR rfl ?_ | refine w_nul rfl ?_ | refine w_nulR rfl ?_ | refine w_ldc rfl rfl ?_ | refine w_ldc2 rfl rfl ?_ | refine w_put rfl rfl rfl (Nat.le_of_ble_eq_true rfl) (Or.inl rfl) rfl rfl ?_)))
      exact w_lv k rfl ⟨rfl, rfl, rfl, trivial⟩
  have lp : ∀ (k G R n : Nat), R < 2 ^ k → n + 2 * k ≤ 98 → 1 ≤ G → G < 9223372036854775808 → R < 9223372036854775808 → Nat.gcd G R = Nat.gcd A 40320 → ax_wp ax_run M_ML_commonDivisor (fun r' => r' = (.inl (some (.long (Int64.ofInt (Nat.gcd A 40320 : Nat)))), h)) 9 [(4, .long (Int64.ofInt (G : Int))), (6, .long (Int64.ofInt (R : Int))), (8, .int (nI n))] [] h := by
    intro k
    induction k with
    | zero =>
      intro G R n h1 h2 h3 h4 h5 h6
      have hR : R = 0 := by omega
      subst hR
      exact ex G n (by omega) h3 h4 (by rw [← h6]; exact (Nat.gcd_zero_right G).symm)
    | succ k ih =>
      intro G R n h1 h2 h3 h4 h5 h6
      by_cases hR : R = 0
      · subst hR
        exact ex G n (by omega) h3 h4 (by rw [← h6]; exact (Nat.gcd_zero_right G).symm)
      · have hR0 : 0 < R := by omega
        have hm := Nat.mod_lt G hR0
        refine st G R n (by omega) hR0 h4 h5 ?_
        by_cases hr : G % R = 0
        · rw [hr]
          refine ex R (n + 1) (by omega) hR0 h5 ?_
          rw [← h6, ← q_gcd, hr, Nat.gcd_zero_right]
        · have hr0 : 0 < G % R := by omega
          have hh := q_half hr0 hm
          have hm2 := Nat.mod_lt R hr0
          refine st R (G % R) (n + 1) (by omega) hr0 h5 (by omega) ?_
          refine ih (G % R) (R % (G % R)) (n + 2) ?_ (by omega) hr0 (by omega) (by omega) ?_
          · rw [Nat.pow_succ] at h1
            omega
          · rw [q_gcd, q_gcd, h6]
  (refine ax_run_T (ax_T_of M_ML_commonDivisor rfl (Nat.le_of_ble_eq_true rfl) ?_))
  (repeat ((fail_if_success (show ax_wp _ _ _ 9 _ _ _)); (first | refine w_iadd1 rfl ?_ | refine w_isub1 rfl ?_ | refine w_iinc1 rfl rfl ?_ | refine w_s rfl rfl ?_ | refine w_get rfl rfl rfl rfl ?_ | refine w_nnl rfl ?_ | refine w_nnlR rfl ?_ | refine w_nul rfl ?_ | refine w_nulR rfl ?_ | refine w_ldc rfl rfl ?_ | refine w_ldc2 rfl rfl ?_ | refine w_put rfl rfl rfl (Nat.le_of_ble_eq_true rfl) (Or.inl rfl) rfl rfl ?_)))
  by_cases hA0 : A = 0
  · subst hA0
    refine w_lv (st 0 40320 0 (by decide) (by decide) (by decide) (by decide) ?_) rfl ⟨rfl, rfl, rfl, trivial⟩
    exact ex 40320 1 (by decide) (by decide) (by decide) (by decide)
  · exact w_lv (lp 16 A 40320 0 (by decide) (by decide) (by omega) hA (by decide) rfl) rfl ⟨rfl, rfl, rfl, trivial⟩
theorem r_absL (z : Int) (h1 : -1000000000 ≤ z) (h2 : z ≤ 1000000000) : ax_run m_Ma_absL [.long (Int64.ofInt z)] h (.inl (some (.long (Int64.ofInt (z.natAbs : Nat)))), h) := by
  have e : (Int64.ofInt z).toInt = z := q_ofIL (by omega) (by omega)
  (refine ax_run_T (ax_T_of M_Ma_absL rfl (Nat.le_of_ble_eq_true rfl) ?_))
  (repeat (first | refine w_iadd1 rfl ?_ | refine w_isub1 rfl ?_ | refine w_iinc1 rfl rfl ?_ | refine w_s rfl rfl ?_ | refine w_get rfl rfl rfl rfl ?_ | refine w_nnl rfl ?_ | refine w_nnlR rfl ?_ | refine w_nul rfl ?_ | refine w_nulR rfl ?_ | refine w_ldc rfl rfl ?_ | refine w_ldc2 rfl rfl ?_ | refine w_put rfl rfl rfl (Nat.le_of_ble_eq_true rfl) (Or.inl rfl) rfl rfl ?_))
  refine w_if1 rfl (fun h5 => ?_) (fun h5 => ?_)
  · have h6 := c_Lge.mp h5
    rw [e, q_ofNL] at h6
    (repeat (first | refine w_iadd1 rfl ?_ | refine w_isub1 rfl ?_ | refine w_iinc1 rfl rfl ?_ | refine w_s rfl rfl ?_ | refine w_get rfl rfl rfl rfl ?_ | refine w_nnl rfl ?_ | refine w_nnlR rfl ?_ | refine w_nul rfl ?_ | refine w_nulR rfl ?_ | refine w_ldc rfl rfl ?_ | refine w_ldc2 rfl rfl ?_ | refine w_put rfl rfl rfl (Nat.le_of_ble_eq_true rfl) (Or.inl rfl) rfl rfl ?_))
    refine w_lret rfl rfl ?_
    congr 4
    apply q_toL
    rw [e]
    omega
  · have h6 : ¬ (Int64.ofNat 0).toInt ≤ (Int64.ofInt z).toInt := fun w => h5 (c_Lge.mpr w)
    rw [e, q_ofNL] at h6
    (repeat (first | refine w_iadd1 rfl ?_ | refine w_isub1 rfl ?_ | refine w_iinc1 rfl rfl ?_ | refine w_s rfl rfl ?_ | refine w_get rfl rfl rfl rfl ?_ | refine w_nnl rfl ?_ | refine w_nnlR rfl ?_ | refine w_nul rfl ?_ | refine w_nulR rfl ?_ | refine w_ldc rfl rfl ?_ | refine w_ldc2 rfl rfl ?_ | refine w_put rfl rfl rfl (Nat.le_of_ble_eq_true rfl) (Or.inl rfl) rfl rfl ?_))
    refine w_lret rfl rfl ?_
    congr 4
    apply q_toL
    rw [q_negL, e]
    omega
theorem ax_abv_b (hc : CellOk c) (l k : Nat) (hl : l < 8) (hk : k < 16) : -1000000 ≤ ax_abv c.ab c.be l k ∧ ax_abv c.ab c.be l k ≤ 1000000 := by
  have h1 := ax_un_b hc (i := 16 * l + k) (by omega)
  have h2 := ax_sm_b hc (i := 16 * l) 16 (by omega)
  unfold ax_abv
  omega
/-- the two parts of the balance -/
def ax_bal (z : Int) (p : Int32) : Int64 := (if p = 0 then Int64.ofInt z else Int64.ofInt (40320 : Nat)) / Int64.ofInt (Nat.gcd z.natAbs 40320 : Nat)
def sp_balance (c : ax_St) (l k p : Int32) : ax_SR := if ¬ (0 ≤ l.toInt ∧ l.toInt < 8 ∧ 0 ≤ k.toInt ∧ k.toInt < 16 ∧ 0 ≤ p.toInt ∧ p.toInt ≤ 1) then .inr 0 else .inl (.long (ax_bal (ax_abv c.ab c.be l.toInt.toNat k.toInt.toNat) p), c)
theorem r_balance (hc : CellOk c) (l k p : Int32) : ax_run m_ML_balance [.ref 1, .int l, .int k, .int p] (ax_hp L xs c m o pool, u) (ax_out L xs m o pool u c (sp_balance c l k p)) := by
  unfold sp_balance
  split
  · (refine ax_run_T (ax_T_of M_ML_balance rfl (Nat.le_of_ble_eq_true rfl) ?_))
    (repeat (first | refine w_iadd1 rfl ?_ | refine w_isub1 rfl ?_ | refine w_iinc1 rfl rfl ?_ | refine w_s rfl rfl ?_ | refine w_get rfl rfl rfl rfl ?_ | refine w_nnl rfl ?_ | refine w_nnlR rfl ?_ | refine w_nul rfl ?_ | refine w_nulR rfl ?_ | refine w_ldc rfl rfl ?_ | refine w_ldc2 rfl rfl ?_ | refine w_put rfl rfl rfl (Nat.le_of_ble_eq_true rfl) (Or.inl rfl) rfl rfl ?_))
    (refine w_cs rfl rfl (by first | decide | exact Nat.le_of_ble_eq_true rfl) (by exact Nat.le_of_ble_eq_true rfl) (r_noLayer l) ?_; dsimp only [Option.toList, List.drop, List.cons_append, List.nil_append])
    (repeat' (first | refine w_iadd1 rfl ?_ | refine w_isub1 rfl ?_ | refine w_iinc1 rfl rfl ?_ | refine w_s rfl rfl ?_ | refine w_get rfl rfl rfl rfl ?_ | refine w_nnl rfl ?_ | refine w_nnlR rfl ?_ | refine w_nul rfl ?_ | refine w_nulR rfl ?_ | refine w_ldc rfl rfl ?_ | refine w_ldc2 rfl rfl ?_ | refine w_put rfl rfl rfl (Nat.le_of_ble_eq_true rfl) (Or.inl rfl) rfl rfl ?_ | ((first | refine w_if2 rfl (fun _ => ?_) (fun _ => ?_) | refine w_if1 rfl (fun _ => ?_) (fun _ => ?_)) <;> try (exfalso; (((try simp only [c_eq0, c_ne0, c_Llt, c_Lle, c_Lgt, c_Lge, c_Leq, c_Lne] at *); try simp only [ax_cnd, vp_in_iff, Int32.lt_iff_toInt_lt, Int32.le_iff_toInt_le, Int64.lt_iff_toInt_lt, Int64.le_iff_toInt_le, q_eq, q_eqL, q_lg, q_nI, q_add, q_sub, q_mul, q_neg, q_addL, q_subL, q_mulL, q_negL, q_i2l, q_l2i, q_b8, q_b16, q_ofI, q_lit, q_ofNL, q_litL, ne_eq, gt_iff_lt, ge_iff_le] at *) <;> omega); done)))) <;> try (first | (refine w_thr rfl rfl rfl rfl rfl (by decide) rfl rfl ?_; rfl) | (exfalso; (((try simp only [c_eq0, c_ne0, c_Llt, c_Lle, c_Lgt, c_Lge, c_Leq, c_Lne] at *); try simp only [ax_cnd, vp_in_iff, Int32.lt_iff_toInt_lt, Int32.le_iff_toInt_le, Int64.lt_iff_toInt_lt, Int64.le_iff_toInt_le, q_eq, q_eqL, q_lg, q_nI, q_add, q_sub, q_mul, q_neg, q_addL, q_subL, q_mulL, q_negL, q_i2l, q_l2i, q_b8, q_b16, q_ofI, q_lit, q_ofNL, q_litL, ne_eq, gt_iff_lt, ge_iff_le] at *) <;> omega)))
    (refine w_cs rfl rfl (by first | decide | exact Nat.le_of_ble_eq_true rfl) (by exact Nat.le_of_ble_eq_true rfl) (r_noCell k) ?_; dsimp only [Option.toList, List.drop, List.cons_append, List.nil_append])
    (repeat' (first | refine w_iadd1 rfl ?_ | refine w_isub1 rfl ?_ | refine w_iinc1 rfl rfl ?_ | refine w_s rfl rfl ?_ | refine w_get rfl rfl rfl rfl ?_ | refine w_nnl rfl ?_ | refine w_nnlR rfl ?_ | refine w_nul rfl ?_ | refine w_nulR rfl ?_ | refine w_ldc rfl rfl ?_ | refine w_ldc2 rfl rfl ?_ | refine w_put rfl rfl rfl (Nat.le_of_ble_eq_true rfl) (Or.inl rfl) rfl rfl ?_ | ((first | refine w_if2 rfl (fun _ => ?_) (fun _ => ?_) | refine w_if1 rfl (fun _ => ?_) (fun _ => ?_)) <;> try (exfalso; (((try simp only [c_eq0, c_ne0, c_Llt, c_Lle, c_Lgt, c_Lge, c_Leq, c_Lne] at *); try simp only [ax_cnd, vp_in_iff, Int32.lt_iff_toInt_lt, Int32.le_iff_toInt_le, Int64.lt_iff_toInt_lt, Int64.le_iff_toInt_le, q_eq, q_eqL, q_lg, q_nI, q_add, q_sub, q_mul, q_neg, q_addL, q_subL, q_mulL, q_negL, q_i2l, q_l2i, q_b8, q_b16, q_ofI, q_lit, q_ofNL, q_litL, ne_eq, gt_iff_lt, ge_iff_le] at *) <;> omega); done)))) <;> (first | (refine w_thr rfl rfl rfl rfl rfl (by decide) rfl rfl ?_; rfl) | (exfalso; (((try simp only [c_eq0, c_ne0, c_Llt, c_Lle, c_Lgt, c_Lge, c_Leq, c_Lne] at *); try simp only [ax_cnd, vp_in_iff, Int32.lt_iff_toInt_lt, Int32.le_iff_toInt_le, Int64.lt_iff_toInt_lt, Int64.le_iff_toInt_le, q_eq, q_eqL, q_lg, q_nI, q_add, q_sub, q_mul, q_neg, q_addL, q_subL, q_mulL, q_negL, q_i2l, q_l2i, q_b8, q_b16, q_ofI, q_lit, q_ofNL, q_litL, ne_eq, gt_iff_lt, ge_iff_le] at *) <;> omega)))
  · rename_i h0
    have h1 := Decidable.not_not.mp h0
    obtain ⟨n, rfl, hn1, hn2⟩ := q_nat (x := l) (by omega)
    obtain ⟨i, rfl, hi1, hi2⟩ := q_nat (x := k) (by omega)
    have hnn : (nI n).toInt.toNat = n := by rw [← hn1]; rfl
    have hii : (nI i).toInt.toNat = i := by rw [← hi1]; rfl
    rw [hnn, hii]
    have hn8 : n < 8 := by omega
    have hi16 : i < 16 := by omega
    clear hnn hii
    have hz := ax_abv_b hc n i hn8 hi16
    have hg : 1 ≤ Nat.gcd (ax_abv c.ab c.be n i).natAbs 40320 ∧ Nat.gcd (ax_abv c.ab c.be n i).natAbs 40320 ≤ 40320 := ⟨Nat.gcd_pos_of_pos_right _ (by decide), Nat.gcd_le_right _ (by decide)⟩
    have hne : ¬ Int64.ofInt (Nat.gcd (ax_abv c.ab c.be n i).natAbs 40320 : Nat) = 0 := by
      intro z
      have := congrArg Int64.toInt z
      rw [q_ofIL (by omega) (by omega)] at this
      have h0 : ((0 : Int64)).toInt = 0 := rfl
      omega
    (refine ax_run_T (ax_T_of M_ML_balance rfl (Nat.le_of_ble_eq_true rfl) ?_))
    (repeat (first | refine w_iadd1 rfl ?_ | refine w_isub1 rfl ?_ | refine w_iinc1 rfl rfl ?_ | refine w_s rfl rfl ?_ | refine w_get rfl rfl rfl rfl ?_ | refine w_nnl rfl ?_ | refine w_nnlR rfl ?_ | refine w_nul rfl ?_ | refine w_nulR rfl ?_ | refine w_ldc rfl rfl ?_ | refine w_ldc2 rfl rfl ?_ | refine w_put rfl rfl rfl (Nat.le_of_ble_eq_true rfl) (Or.inl rfl) rfl rfl ?_))
    (refine w_cs rfl rfl (by first | decide | exact Nat.le_of_ble_eq_true rfl) (by exact Nat.le_of_ble_eq_true rfl) (r_noLayer (nI n)) ?_; dsimp only [Option.toList, List.drop, List.cons_append, List.nil_append])
    refine w_if1 rfl (fun h5 => absurd (c_ne0.mp h5) (fun z => z ⟨h1.1, h1.2.1⟩)) (fun _ => ?_)
    (repeat (first | refine w_iadd1 rfl ?_ | refine w_isub1 rfl ?_ | refine w_iinc1 rfl rfl ?_ | refine w_s rfl rfl ?_ | refine w_get rfl rfl rfl rfl ?_ | refine w_nnl rfl ?_ | refine w_nnlR rfl ?_ | refine w_nul rfl ?_ | refine w_nulR rfl ?_ | refine w_ldc rfl rfl ?_ | refine w_ldc2 rfl rfl ?_ | refine w_put rfl rfl rfl (Nat.le_of_ble_eq_true rfl) (Or.inl rfl) rfl rfl ?_))
    (refine w_cs rfl rfl (by first | decide | exact Nat.le_of_ble_eq_true rfl) (by exact Nat.le_of_ble_eq_true rfl) (r_noCell (nI i)) ?_; dsimp only [Option.toList, List.drop, List.cons_append, List.nil_append])
    refine w_if1 rfl (fun h5 => absurd (c_ne0.mp h5) (fun z => z ⟨h1.2.2.1, h1.2.2.2.1⟩)) (fun _ => ?_)
    (repeat (first | refine w_iadd1 rfl ?_ | refine w_isub1 rfl ?_ | refine w_iinc1 rfl rfl ?_ | refine w_s rfl rfl ?_ | refine w_get rfl rfl rfl rfl ?_ | refine w_nnl rfl ?_ | refine w_nnlR rfl ?_ | refine w_nul rfl ?_ | refine w_nulR rfl ?_ | refine w_ldc rfl rfl ?_ | refine w_ldc2 rfl rfl ?_ | refine w_put rfl rfl rfl (Nat.le_of_ble_eq_true rfl) (Or.inl rfl) rfl rfl ?_))
    refine w_if1 rfl (fun h5 => absurd (c_lt0.mp h5) (by omega)) (fun _ => ?_)
    (repeat (first | refine w_iadd1 rfl ?_ | refine w_isub1 rfl ?_ | refine w_iinc1 rfl rfl ?_ | refine w_s rfl rfl ?_ | refine w_get rfl rfl rfl rfl ?_ | refine w_nnl rfl ?_ | refine w_nnlR rfl ?_ | refine w_nul rfl ?_ | refine w_nulR rfl ?_ | refine w_ldc rfl rfl ?_ | refine w_ldc2 rfl rfl ?_ | refine w_put rfl rfl rfl (Nat.le_of_ble_eq_true rfl) (Or.inl rfl) rfl rfl ?_))
    refine w_if2 rfl (fun _ => ?_) (fun h5 => absurd (Int32.le_iff_toInt_le.mpr (by rw [q_ofI]; omega)) h5)
    (repeat (first | refine w_iadd1 rfl ?_ | refine w_isub1 rfl ?_ | refine w_iinc1 rfl rfl ?_ | refine w_s rfl rfl ?_ | refine w_get rfl rfl rfl rfl ?_ | refine w_nnl rfl ?_ | refine w_nnlR rfl ?_ | refine w_nul rfl ?_ | refine w_nulR rfl ?_ | refine w_ldc rfl rfl ?_ | refine w_ldc2 rfl rfl ?_ | refine w_put rfl rfl rfl (Nat.le_of_ble_eq_true rfl) (Or.inl rfl) rfl rfl ?_))
    (refine w_cv rfl rfl rfl rfl (by exact Nat.le_of_ble_eq_true rfl) (by exact Nat.le_of_ble_eq_true rfl) (r_aboveMean hc n i hn8 hi16) ?_; dsimp only [Option.toList, List.drop, List.cons_append, List.nil_append])
    (repeat (first | refine w_iadd1 rfl ?_ | refine w_isub1 rfl ?_ | refine w_iinc1 rfl rfl ?_ | refine w_s rfl rfl ?_ | refine w_get rfl rfl rfl rfl ?_ | refine w_nnl rfl ?_ | refine w_nnlR rfl ?_ | refine w_nul rfl ?_ | refine w_nulR rfl ?_ | refine w_ldc rfl rfl ?_ | refine w_ldc2 rfl rfl ?_ | refine w_put rfl rfl rfl (Nat.le_of_ble_eq_true rfl) (Or.inl rfl) rfl rfl ?_))
    (refine w_cs rfl rfl (by first | decide | exact Nat.le_of_ble_eq_true rfl) (by exact Nat.le_of_ble_eq_true rfl) (r_absL (ax_abv c.ab c.be n i) (by omega) (by omega)) ?_; dsimp only [Option.toList, List.drop, List.cons_append, List.nil_append])
    (repeat (first | refine w_iadd1 rfl ?_ | refine w_isub1 rfl ?_ | refine w_iinc1 rfl rfl ?_ | refine w_s rfl rfl ?_ | refine w_get rfl rfl rfl rfl ?_ | refine w_nnl rfl ?_ | refine w_nnlR rfl ?_ | refine w_nul rfl ?_ | refine w_nulR rfl ?_ | refine w_ldc rfl rfl ?_ | refine w_ldc2 rfl rfl ?_ | refine w_put rfl rfl rfl (Nat.le_of_ble_eq_true rfl) (Or.inl rfl) rfl rfl ?_))
    (refine w_cs rfl rfl (by first | decide | exact Nat.le_of_ble_eq_true rfl) (by exact Nat.le_of_ble_eq_true rfl) (r_gcd (ax_abv c.ab c.be n i).natAbs (by omega)) ?_; dsimp only [Option.toList, List.drop, List.cons_append, List.nil_append])
    (repeat (first | refine w_iadd1 rfl ?_ | refine w_isub1 rfl ?_ | refine w_iinc1 rfl rfl ?_ | refine w_s rfl rfl ?_ | refine w_get rfl rfl rfl rfl ?_ | refine w_nnl rfl ?_ | refine w_nnlR rfl ?_ | refine w_nul rfl ?_ | refine w_nulR rfl ?_ | refine w_ldc rfl rfl ?_ | refine w_ldc2 rfl rfl ?_ | refine w_put rfl rfl rfl (Nat.le_of_ble_eq_true rfl) (Or.inl rfl) rfl rfl ?_))
    refine w_if1 rfl (fun h5 => ?_) (fun h5 => ?_)
    · have h6 : ¬ p = 0 := h5
      (repeat (first | refine w_iadd1 rfl ?_ | refine w_isub1 rfl ?_ | refine w_iinc1 rfl rfl ?_ | refine w_s rfl rfl ?_ | refine w_get rfl rfl rfl rfl ?_ | refine w_nnl rfl ?_ | refine w_nnlR rfl ?_ | refine w_nul rfl ?_ | refine w_nulR rfl ?_ | refine w_ldc rfl rfl ?_ | refine w_ldc2 rfl rfl ?_ | refine w_put rfl rfl rfl (Nat.le_of_ble_eq_true rfl) (Or.inl rfl) rfl rfl ?_))
      refine w_ldiv rfl hne ?_
      refine w_lret rfl rfl ?_
      unfold ax_bal
      rw [if_neg h6]
      rfl
    · have h6 : p = 0 := Decidable.not_not.mp h5
      (repeat (first | refine w_iadd1 rfl ?_ | refine w_isub1 rfl ?_ | refine w_iinc1 rfl rfl ?_ | refine w_s rfl rfl ?_ | refine w_get rfl rfl rfl rfl ?_ | refine w_nnl rfl ?_ | refine w_nnlR rfl ?_ | refine w_nul rfl ?_ | refine w_nulR rfl ?_ | refine w_ldc rfl rfl ?_ | refine w_ldc2 rfl rfl ?_ | refine w_put rfl rfl rfl (Nat.le_of_ble_eq_true rfl) (Or.inl rfl) rfl rfl ?_))
      refine w_ldiv rfl hne ?_
      refine w_lret rfl rfl ?_
      unfold ax_bal
      rw [if_pos h6]
      rfl
end CK
