section CG
variable {L : Nat} {xs : Nat → Int32} {c : ax_St} {m : ax_Mo} {o : Nat → Int64} {pool : List (Option ax_C)} {u : Nat} {h : ax_H}
theorem r_maxL (a b : Int64) : ax_run m_Ma_maxL [.long a, .long b] h (.inl (some (.long (if a.toInt < b.toInt then b else a))), h) := by
  (refine ax_run_T (ax_T_of M_Ma_maxL rfl (Nat.le_of_ble_eq_true rfl) ?_))
  (repeat (first | refine w_iadd1 rfl ?_ | refine w_isub1 rfl ?_ | refine w_iinc1 rfl rfl ?_ | refine w_s rfl rfl ?_ | refine w_get rfl rfl rfl rfl ?_ | refine w_nnl rfl ?_ | refine w_nnlR rfl ?_ | refine w_nul rfl ?_ | refine w_nulR rfl ?_ | refine w_ldc rfl rfl ?_ | refine w_ldc2 rfl rfl ?_ | refine w_put rfl rfl rfl (Nat.le_of_ble_eq_true rfl) (Or.inl rfl) rfl rfl ?_))
  refine w_if1 rfl (fun h1 => ?_) (fun h1 => ?_)
  · rw [if_pos (c_Llt.mp h1)]
    (repeat (first | refine w_iadd1 rfl ?_ | refine w_isub1 rfl ?_ | refine w_iinc1 rfl rfl ?_ | refine w_s rfl rfl ?_ | refine w_get rfl rfl rfl rfl ?_ | refine w_nnl rfl ?_ | refine w_nnlR rfl ?_ | refine w_nul rfl ?_ | refine w_nulR rfl ?_ | refine w_ldc rfl rfl ?_ | refine w_ldc2 rfl rfl ?_ | refine w_put rfl rfl rfl (Nat.le_of_ble_eq_true rfl) (Or.inl rfl) rfl rfl ?_))
    exact w_lret rfl rfl rfl
  · rw [if_neg (fun z => h1 (c_Llt.mpr z))]
    (repeat (first | refine w_iadd1 rfl ?_ | refine w_isub1 rfl ?_ | refine w_iinc1 rfl rfl ?_ | refine w_s rfl rfl ?_ | refine w_get rfl rfl rfl rfl ?_ | refine w_nnl rfl ?_ | refine w_nnlR rfl ?_ | refine w_nul rfl ?_ | refine w_nulR rfl ?_ | refine w_ldc rfl rfl ?_ | refine w_ldc2 rfl rfl ?_ | refine w_put rfl rfl rfl (Nat.le_of_ble_eq_true rfl) (Or.inl rfl) rfl rfl ?_))
    exact w_lret rfl rfl rfl
theorem q_ofIL {z : Int} (h1 : -9223372036854775808 ≤ z) (h2 : z < 9223372036854775808) : (Int64.ofInt z).toInt = z := by
  rw [Int64.toInt_ofInt, show Int64.size = 2 ^ 64 from rfl, q_bm64]
  omega
theorem q_toL {x : Int64} {z : Int} (h : x.toInt = z) : x = Int64.ofInt z := by
  rw [q_eqL, h, q_ofIL] <;> have := q_bL x <;> omega
theorem r_priceOf {g : Nat} {G : ax_Gr} (hg : GradeAt pool g G) (hok : GradeOk G) (q : Int64) (hq : 1 ≤ q.toInt ∧ q.toInt ≤ 1000000) :
    ax_run m_Gr_priceOf [.ref (g + 40), .long q] (ax_hp L xs c m o pool, u) (.inl (some (.long (Int64.ofInt (ax_pri G q)))), (ax_hp L xs c m o pool, u)) := by
  have hs1 := hok.s1
  have hs4 := hok.s4
  obtain ⟨a, b, d, can, h1, h2, h3, h4⟩ := hg
  have hf0 := hok.fm 0 (by omega)
  have hpb : 1 ≤ ax_paid G q ∧ ax_paid G q ≤ 1000000 ∧ (G.fr 0).toInt ≤ ax_paid G q := by unfold ax_paid; split <;> omega
  have lp : ∀ (e k : Nat), 1 ≤ k → k + e = G.st → ax_wp ax_run M_Gr_priceOf (fun r' => r' = (.inl (some (.long (Int64.ofInt (ax_pri G q)))), (ax_hp L xs c m o pool, u))) 24 [(0, .ref (g + 40)), (3, .long (Int64.ofInt (ax_paid G q))), (5, .long (G.ce (ax_jx (fun s => decide ((G.fr s).toInt ≤ ax_paid G q)) k)).toInt64), (7, .int (nI k))] [] (ax_hp L xs c m o pool, u) := by
    intro e
    induction e with
    | zero =>
      intro k hk0 hk
      have : k = G.st := by omega
      subst this
      (repeat (first | refine w_iadd1 rfl ?_ | refine w_isub1 rfl ?_ | refine w_iinc1 rfl rfl ?_ | refine w_s rfl rfl ?_ | refine w_get rfl rfl rfl rfl ?_ | refine w_nnl rfl ?_ | refine w_nnlR rfl ?_ | refine w_nul rfl ?_ | refine w_nulR rfl ?_ | refine w_ldc rfl rfl ?_ | refine w_ldc2 rfl rfl ?_ | refine w_put rfl rfl rfl (Nat.le_of_ble_eq_true rfl) (Or.inl rfl) rfl rfl ?_))
      refine w_get rfl rfl (hp_at h1) rfl ?_
      (repeat' (first | refine w_iadd1 rfl ?_ | refine w_isub1 rfl ?_ | refine w_iinc1 rfl rfl ?_ | refine w_s rfl rfl ?_ | refine w_get rfl rfl rfl rfl ?_ | refine w_nnl rfl ?_ | refine w_nnlR rfl ?_ | refine w_nul rfl ?_ | refine w_nulR rfl ?_ | refine w_ldc rfl rfl ?_ | refine w_ldc2 rfl rfl ?_ | refine w_put rfl rfl rfl (Nat.le_of_ble_eq_true rfl) (Or.inl rfl) rfl rfl ?_ | ((first | refine w_if2 rfl (fun _ => ?_) (fun _ => ?_) | refine w_if1 rfl (fun _ => ?_) (fun _ => ?_)) <;> try (exfalso; (((try simp only [c_eq0, c_ne0, c_Llt, c_Lle, c_Lgt, c_Lge, c_Leq, c_Lne] at *); try simp only [ax_cnd, vp_in_iff, Int32.lt_iff_toInt_lt, Int32.le_iff_toInt_le, Int64.lt_iff_toInt_lt, Int64.le_iff_toInt_le, q_eq, q_eqL, q_lg, q_nI, q_add, q_sub, q_mul, q_neg, q_addL, q_subL, q_mulL, q_negL, q_i2l, q_l2i, q_b8, q_b16, q_ofI, q_lit, q_ofNL, q_litL, ne_eq, gt_iff_lt, ge_iff_le] at *) <;> omega); done))))
      refine w_lret rfl rfl ?_
      congr 4
      have hj : ax_jx (fun s => decide ((G.fr s).toInt ≤ ax_paid G q)) G.st < G.st := by
        have : ∀ n, 1 ≤ n → ax_jx (fun s => decide ((G.fr s).toInt ≤ ax_paid G q)) n < n := by
          intro n
          induction n with
          | zero => intro z; omega
          | succ n ihn =>
            intro _
            unfold ax_jx
            split
            · omega
            · by_cases hz : 1 ≤ n
              · have := ihn hz; omega
              · have : n = 0 := by omega
                subst this
                exact Nat.succ_pos 0
        exact this _ hs1
      have hc := hok.cm _ hj
      generalize hce : G.ce (ax_jx (fun s => decide ((G.fr s).toInt ≤ ax_paid G q)) G.st) = ce at hc
      apply q_toL
      rw [q_mulL, q_ofIL (by omega) (by omega), q_i2l]
      unfold ax_pri
      rw [hce]
      have hm1 : ax_paid G q * ce.toInt ≤ 1000000 * 1000000 := Int.mul_le_mul (by omega) (by omega) (by omega) (by omega)
      have hm2 : 0 ≤ ax_paid G q * ce.toInt := Int.mul_nonneg (by omega) (by omega)
      omega
    | succ e ih =>
      intro k hk0 hk
      have hfk := hok.fm k (by omega)
      (repeat (first | refine w_iadd1 rfl ?_ | refine w_isub1 rfl ?_ | refine w_iinc1 rfl rfl ?_ | refine w_s rfl rfl ?_ | refine w_get rfl rfl rfl rfl ?_ | refine w_nnl rfl ?_ | refine w_nnlR rfl ?_ | refine w_nul rfl ?_ | refine w_nulR rfl ?_ | refine w_ldc rfl rfl ?_ | refine w_ldc2 rfl rfl ?_ | refine w_put rfl rfl rfl (Nat.le_of_ble_eq_true rfl) (Or.inl rfl) rfl rfl ?_))
      refine w_get rfl rfl (hp_at h1) rfl ?_
      (repeat' (first | refine w_iadd1 rfl ?_ | refine w_isub1 rfl ?_ | refine w_iinc1 rfl rfl ?_ | refine w_s rfl rfl ?_ | refine w_get rfl rfl rfl rfl ?_ | refine w_nnl rfl ?_ | refine w_nnlR rfl ?_ | refine w_nul rfl ?_ | refine w_nulR rfl ?_ | refine w_ldc rfl rfl ?_ | refine w_ldc2 rfl rfl ?_ | refine w_put rfl rfl rfl (Nat.le_of_ble_eq_true rfl) (Or.inl rfl) rfl rfl ?_ | ((first | refine w_if2 rfl (fun _ => ?_) (fun _ => ?_) | refine w_if1 rfl (fun _ => ?_) (fun _ => ?_)) <;> try (exfalso; (((try simp only [c_eq0, c_ne0, c_Llt, c_Lle, c_Lgt, c_Lge, c_Leq, c_Lne] at *); try simp only [ax_cnd, vp_in_iff, Int32.lt_iff_toInt_lt, Int32.le_iff_toInt_le, Int64.lt_iff_toInt_lt, Int64.le_iff_toInt_le, q_eq, q_eqL, q_lg, q_nI, q_add, q_sub, q_mul, q_neg, q_addL, q_subL, q_mulL, q_negL, q_i2l, q_l2i, q_b8, q_b16, q_ofI, q_lit, q_ofNL, q_litL, ne_eq, gt_iff_lt, ge_iff_le] at *) <;> omega); done))))
      refine w_get rfl rfl (hp_at h1) rfl ?_
      (repeat (first | refine w_iadd1 rfl ?_ | refine w_isub1 rfl ?_ | refine w_iinc1 rfl rfl ?_ | refine w_s rfl rfl ?_ | refine w_get rfl rfl rfl rfl ?_ | refine w_nnl rfl ?_ | refine w_nnlR rfl ?_ | refine w_nul rfl ?_ | refine w_nulR rfl ?_ | refine w_ldc rfl rfl ?_ | refine w_ldc2 rfl rfl ?_ | refine w_put rfl rfl rfl (Nat.le_of_ble_eq_true rfl) (Or.inl rfl) rfl rfl ?_))
      refine w_ia rfl (hp_at h3) rfl (by omega) (by decide) ?_
      (repeat (first | refine w_iadd1 rfl ?_ | refine w_isub1 rfl ?_ | refine w_iinc1 rfl rfl ?_ | refine w_s rfl rfl ?_ | refine w_get rfl rfl rfl rfl ?_ | refine w_nnl rfl ?_ | refine w_nnlR rfl ?_ | refine w_nul rfl ?_ | refine w_nulR rfl ?_ | refine w_ldc rfl rfl ?_ | refine w_ldc2 rfl rfl ?_ | refine w_put rfl rfl rfl (Nat.le_of_ble_eq_true rfl) (Or.inl rfl) rfl rfl ?_))
      refine w_if1 rfl (fun h5 => ?_) (fun h5 => ?_)
      · have h6 := c_Lgt.mp h5
        rw [q_i2l, q_ofIL (by omega) (by omega)] at h6
        (repeat ((fail_if_success (show ax_wp _ _ _ 24 _ _ _)); (first | refine w_iadd1 rfl ?_ | refine w_isub1 rfl ?_ | refine w_iinc1 rfl rfl ?_ | refine w_s rfl rfl ?_ | refine w_get rfl rfl rfl rfl ?_ | refine w_nnl rfl ?_ | refine w_nnlR rfl ?_ | refine w_nul rfl ?_ | refine w_nulR rfl ?_ | refine w_ldc rfl rfl ?_ | refine w_ldc2 rfl rfl ?_ | refine w_put rfl rfl rfl (Nat.le_of_ble_eq_true rfl) (Or.inl rfl) rfl rfl ?_)))
        refine w_lv (ih (k + 1) (by omega) (by omega)) rfl ⟨rfl, rfl, ?_, rfl, trivial⟩
        have e1 : ax_jx (fun s => decide ((G.fr s).toInt ≤ ax_paid G q)) (k + 1) = ax_jx (fun s => decide ((G.fr s).toInt ≤ ax_paid G q)) k := by
          show (if decide ((G.fr k).toInt ≤ ax_paid G q) = true then k else _) = _
          rw [if_neg (by rw [decide_eq_true_eq]; omega)]
        rw [e1]
        rfl
      · have h6 : ¬ ((Int64.ofInt (ax_paid G q)).toInt < (G.fr k).toInt64.toInt) := fun z => h5 (c_Lgt.mpr z)
        rw [q_i2l, q_ofIL (by omega) (by omega)] at h6
        (repeat (first | refine w_iadd1 rfl ?_ | refine w_isub1 rfl ?_ | refine w_iinc1 rfl rfl ?_ | refine w_s rfl rfl ?_ | refine w_get rfl rfl rfl rfl ?_ | refine w_nnl rfl ?_ | refine w_nnlR rfl ?_ | refine w_nul rfl ?_ | refine w_nulR rfl ?_ | refine w_ldc rfl rfl ?_ | refine w_ldc2 rfl rfl ?_ | refine w_put rfl rfl rfl (Nat.le_of_ble_eq_true rfl) (Or.inl rfl) rfl rfl ?_))
        refine w_get rfl rfl (hp_at h1) rfl ?_
        (repeat (first | refine w_iadd1 rfl ?_ | refine w_isub1 rfl ?_ | refine w_iinc1 rfl rfl ?_ | refine w_s rfl rfl ?_ | refine w_get rfl rfl rfl rfl ?_ | refine w_nnl rfl ?_ | refine w_nnlR rfl ?_ | refine w_nul rfl ?_ | refine w_nulR rfl ?_ | refine w_ldc rfl rfl ?_ | refine w_ldc2 rfl rfl ?_ | refine w_put rfl rfl rfl (Nat.le_of_ble_eq_true rfl) (Or.inl rfl) rfl rfl ?_))
        refine w_ia rfl (hp_at h4) rfl (by omega) (by decide) ?_
        (repeat ((fail_if_success (show ax_wp _ _ _ 24 _ _ _)); (first | refine w_iadd1 rfl ?_ | refine w_isub1 rfl ?_ | refine w_iinc1 rfl rfl ?_ | refine w_s rfl rfl ?_ | refine w_get rfl rfl rfl rfl ?_ | refine w_nnl rfl ?_ | refine w_nnlR rfl ?_ | refine w_nul rfl ?_ | refine w_nulR rfl ?_ | refine w_ldc rfl rfl ?_ | refine w_ldc2 rfl rfl ?_ | refine w_put rfl rfl rfl (Nat.le_of_ble_eq_true rfl) (Or.inl rfl) rfl rfl ?_)))
        refine w_lv (ih (k + 1) (by omega) (by omega)) rfl ⟨rfl, rfl, ?_, rfl, trivial⟩
        have e1 : ax_jx (fun s => decide ((G.fr s).toInt ≤ ax_paid G q)) (k + 1) = k := by
          show (if decide ((G.fr k).toInt ≤ ax_paid G q) = true then k else _) = _
          rw [if_pos (by rw [decide_eq_true_eq]; omega)]
        rw [e1]
        rfl
  (refine ax_run_T (ax_T_of M_Gr_priceOf rfl (Nat.le_of_ble_eq_true rfl) ?_))
  (repeat (first | refine w_iadd1 rfl ?_ | refine w_isub1 rfl ?_ | refine w_iinc1 rfl rfl ?_ | refine w_s rfl rfl ?_ | refine w_get rfl rfl rfl rfl ?_ | refine w_nnl rfl ?_ | refine w_nnlR rfl ?_ | refine w_nul rfl ?_ | refine w_nulR rfl ?_ | refine w_ldc rfl rfl ?_ | refine w_ldc2 rfl rfl ?_ | refine w_put rfl rfl rfl (Nat.le_of_ble_eq_true rfl) (Or.inl rfl) rfl rfl ?_))
  refine w_get rfl rfl (hp_at h1) rfl ?_
  (repeat (first | refine w_iadd1 rfl ?_ | refine w_isub1 rfl ?_ | refine w_iinc1 rfl rfl ?_ | refine w_s rfl rfl ?_ | refine w_get rfl rfl rfl rfl ?_ | refine w_nnl rfl ?_ | refine w_nnlR rfl ?_ | refine w_nul rfl ?_ | refine w_nulR rfl ?_ | refine w_ldc rfl rfl ?_ | refine w_ldc2 rfl rfl ?_ | refine w_put rfl rfl rfl (Nat.le_of_ble_eq_true rfl) (Or.inl rfl) rfl rfl ?_))
  refine w_ia (j := 0) rfl (hp_at h3) rfl (by decide) (by decide) ?_
  (repeat (first | refine w_iadd1 rfl ?_ | refine w_isub1 rfl ?_ | refine w_iinc1 rfl rfl ?_ | refine w_s rfl rfl ?_ | refine w_get rfl rfl rfl rfl ?_ | refine w_nnl rfl ?_ | refine w_nnlR rfl ?_ | refine w_nul rfl ?_ | refine w_nulR rfl ?_ | refine w_ldc rfl rfl ?_ | refine w_ldc2 rfl rfl ?_ | refine w_put rfl rfl rfl (Nat.le_of_ble_eq_true rfl) (Or.inl rfl) rfl rfl ?_))
  (refine w_cs rfl rfl (by first | decide | exact Nat.le_of_ble_eq_true rfl) (by exact Nat.le_of_ble_eq_true rfl) (r_maxL q (G.fr 0).toInt64) ?_; dsimp only [Option.toList, List.drop, List.cons_append, List.nil_append])
  have e0 : (if q.toInt < (G.fr 0).toInt64.toInt then (G.fr 0).toInt64 else q) = Int64.ofInt (ax_paid G q) := by
    apply q_toL
    unfold ax_paid
    rw [q_i2l]
    split
    · exact q_i2l _
    · rfl
  rw [e0]
  (repeat (first | refine w_iadd1 rfl ?_ | refine w_isub1 rfl ?_ | refine w_iinc1 rfl rfl ?_ | refine w_s rfl rfl ?_ | refine w_get rfl rfl rfl rfl ?_ | refine w_nnl rfl ?_ | refine w_nnlR rfl ?_ | refine w_nul rfl ?_ | refine w_nulR rfl ?_ | refine w_ldc rfl rfl ?_ | refine w_ldc2 rfl rfl ?_ | refine w_put rfl rfl rfl (Nat.le_of_ble_eq_true rfl) (Or.inl rfl) rfl rfl ?_))
  refine w_get rfl rfl (hp_at h1) rfl ?_
  (repeat (first | refine w_iadd1 rfl ?_ | refine w_isub1 rfl ?_ | refine w_iinc1 rfl rfl ?_ | refine w_s rfl rfl ?_ | refine w_get rfl rfl rfl rfl ?_ | refine w_nnl rfl ?_ | refine w_nnlR rfl ?_ | refine w_nul rfl ?_ | refine w_nulR rfl ?_ | refine w_ldc rfl rfl ?_ | refine w_ldc2 rfl rfl ?_ | refine w_put rfl rfl rfl (Nat.le_of_ble_eq_true rfl) (Or.inl rfl) rfl rfl ?_))
  refine w_ia (j := 0) rfl (hp_at h4) rfl (by decide) (by decide) ?_
  (repeat ((fail_if_success (show ax_wp _ _ _ 24 _ _ _)); (first | refine w_iadd1 rfl ?_ | refine w_isub1 rfl ?_ | refine w_iinc1 rfl rfl ?_ | refine w_s rfl rfl ?_ | refine w_get rfl rfl rfl rfl ?_ | refine w_nnl rfl ?_ | refine w_nnlR rfl ?_ | refine w_nul rfl ?_ | refine w_nulR rfl ?_ | refine w_ldc rfl rfl ?_ | refine w_ldc2 rfl rfl ?_ | refine w_put rfl rfl rfl (Nat.le_of_ble_eq_true rfl) (Or.inl rfl) rfl rfl ?_)))
  refine w_lv (lp (G.st - 1) 1 (by omega) (by omega)) rfl ⟨rfl, rfl, ?_, rfl, trivial⟩
  have e1 : ax_jx (fun s => decide ((G.fr s).toInt ≤ ax_paid G q)) 1 = 0 := by
    show (if decide ((G.fr 0).toInt ≤ ax_paid G q) = true then 0 else _) = _
    split <;> rfl
  rw [e1]
  rfl
theorem r_checkQ1 (q : Int64) (hq : 1 ≤ q.toInt ∧ q.toInt ≤ 1000000) : ax_run m_ML_checkQuantity [.long q] h (.inl none, h) := by
  (refine ax_run_T (ax_T_of M_ML_checkQuantity rfl (Nat.le_of_ble_eq_true rfl) ?_))
  (repeat' (first | refine w_iadd1 rfl ?_ | refine w_isub1 rfl ?_ | refine w_iinc1 rfl rfl ?_ | refine w_s rfl rfl ?_ | refine w_get rfl rfl rfl rfl ?_ | refine w_nnl rfl ?_ | refine w_nnlR rfl ?_ | refine w_nul rfl ?_ | refine w_nulR rfl ?_ | refine w_ldc rfl rfl ?_ | refine w_ldc2 rfl rfl ?_ | refine w_put rfl rfl rfl (Nat.le_of_ble_eq_true rfl) (Or.inl rfl) rfl rfl ?_ | ((first | refine w_if2 rfl (fun _ => ?_) (fun _ => ?_) | refine w_if1 rfl (fun _ => ?_) (fun _ => ?_)) <;> try (exfalso; (((try simp only [c_eq0, c_ne0, c_Llt, c_Lle, c_Lgt, c_Lge, c_Leq, c_Lne] at *); try simp only [ax_cnd, vp_in_iff, Int32.lt_iff_toInt_lt, Int32.le_iff_toInt_le, Int64.lt_iff_toInt_lt, Int64.le_iff_toInt_le, q_eq, q_eqL, q_lg, q_nI, q_add, q_sub, q_mul, q_neg, q_addL, q_subL, q_mulL, q_negL, q_i2l, q_l2i, q_b8, q_b16, q_ofI, q_lit, q_ofNL, q_litL, ne_eq, gt_iff_lt, ge_iff_le] at *) <;> omega); done))))
  exact w_vret rfl rfl rfl
theorem r_checkQ0 {H : List (Option ax_C)} (q : Int64) (hq : ¬ (1 ≤ q.toInt ∧ q.toInt ≤ 1000000)) : ax_run m_ML_checkQuantity [.long q] (H, u) (.inr 1, (H ++ [none], u + 6)) := by
  (refine ax_run_T (ax_T_of M_ML_checkQuantity rfl (Nat.le_of_ble_eq_true rfl) ?_))
  (repeat' (first | refine w_iadd1 rfl ?_ | refine w_isub1 rfl ?_ | refine w_iinc1 rfl rfl ?_ | refine w_s rfl rfl ?_ | refine w_get rfl rfl rfl rfl ?_ | refine w_nnl rfl ?_ | refine w_nnlR rfl ?_ | refine w_nul rfl ?_ | refine w_nulR rfl ?_ | refine w_ldc rfl rfl ?_ | refine w_ldc2 rfl rfl ?_ | refine w_put rfl rfl rfl (Nat.le_of_ble_eq_true rfl) (Or.inl rfl) rfl rfl ?_ | ((first | refine w_if2 rfl (fun _ => ?_) (fun _ => ?_) | refine w_if1 rfl (fun _ => ?_) (fun _ => ?_)) <;> try (exfalso; (((try simp only [c_eq0, c_ne0, c_Llt, c_Lle, c_Lgt, c_Lge, c_Leq, c_Lne] at *); try simp only [ax_cnd, vp_in_iff, Int32.lt_iff_toInt_lt, Int32.le_iff_toInt_le, Int64.lt_iff_toInt_lt, Int64.le_iff_toInt_le, q_eq, q_eqL, q_lg, q_nI, q_add, q_sub, q_mul, q_neg, q_addL, q_subL, q_mulL, q_negL, q_i2l, q_l2i, q_b8, q_b16, q_ofI, q_lit, q_ofNL, q_litL, ne_eq, gt_iff_lt, ge_iff_le] at *) <;> omega); done)))) <;> (first | (refine w_thr rfl rfl rfl rfl rfl (by decide) rfl rfl ?_; rfl) | (exfalso; (((try simp only [c_eq0, c_ne0, c_Llt, c_Lle, c_Lgt, c_Lge, c_Leq, c_Lne] at *); try simp only [ax_cnd, vp_in_iff, Int32.lt_iff_toInt_lt, Int32.le_iff_toInt_le, Int64.lt_iff_toInt_lt, Int64.le_iff_toInt_le, q_eq, q_eqL, q_lg, q_nI, q_add, q_sub, q_mul, q_neg, q_addL, q_subL, q_mulL, q_negL, q_i2l, q_l2i, q_b8, q_b16, q_ofI, q_lit, q_ofNL, q_litL, ne_eq, gt_iff_lt, ge_iff_le] at *) <;> omega)))
/-- the makers' offers, and the quotes' -/
abbrev OffOk (c : ax_St) (pool : List (Option ax_C)) (Fs : Nat → ax_Of) : Prop := (c.told ≤ 4) ∧ (∀ k, k < c.told → ∃ i, c.of k = some (i + 40) ∧ OfferAt pool i (Fs k) ∧ OfferOk (Fs k)) ∧ (∀ k, c.told ≤ k → k < 4 → c.of k = none)
theorem OffOk.n {c : ax_St} {pool : List (Option ax_C)} {Fs : Nat → ax_Of} (h_ : OffOk c pool Fs) : c.told ≤ 4 := h_.1
theorem OffOk.at_ {c : ax_St} {pool : List (Option ax_C)} {Fs : Nat → ax_Of} (h_ : OffOk c pool Fs) : ∀ k, k < c.told → ∃ i, c.of k = some (i + 40) ∧ OfferAt pool i (Fs k) ∧ OfferOk (Fs k) := h_.2.1
theorem OffOk.no {c : ax_St} {pool : List (Option ax_C)} {Fs : Nat → ax_Of} (h_ : OffOk c pool Fs) : ∀ k, c.told ≤ k → k < 4 → c.of k = none := h_.2.2
abbrev QuOk (c : ax_St) (pool : List (Option ax_C)) (Qs : Nat → ax_Of) : Prop := (c.qn ≤ 10) ∧ (∀ k, k < c.qn → ∃ i, c.qo k = some (i + 40) ∧ OfferAt pool i (Qs k) ∧ OfferOk (Qs k))
theorem QuOk.n {c : ax_St} {pool : List (Option ax_C)} {Qs : Nat → ax_Of} (h_ : QuOk c pool Qs) : c.qn ≤ 10 := h_.1
theorem QuOk.at_ {c : ax_St} {pool : List (Option ax_C)} {Qs : Nat → ax_Of} (h_ : QuOk c pool Qs) : ∀ k, k < c.qn → ∃ i, c.qo k = some (i + 40) ∧ OfferAt pool i (Qs k) ∧ OfferOk (Qs k) := h_.2
theorem r_offerOf0 {Fs : Nat → ax_Of} (hF : OffOk c pool Fs) (k : Int32) (hk : ¬ (0 ≤ k.toInt ∧ k.toInt < c.told)) : ax_run m_ML_offerOf [.ref 1, .int k] (ax_hp L xs c m o pool, u) (.inr 0, (ax_hp L xs c m o (pool ++ [none]), u + 6)) := by
  have hn := hF.n
  (refine ax_run_T (ax_T_of M_ML_offerOf rfl (Nat.le_of_ble_eq_true rfl) ?_))
  (repeat' (first | refine w_iadd1 rfl ?_ | refine w_isub1 rfl ?_ | refine w_iinc1 rfl rfl ?_ | refine w_s rfl rfl ?_ | refine w_get rfl rfl rfl rfl ?_ | refine w_nnl rfl ?_ | refine w_nnlR rfl ?_ | refine w_nul rfl ?_ | refine w_nulR rfl ?_ | refine w_ldc rfl rfl ?_ | refine w_ldc2 rfl rfl ?_ | refine w_put rfl rfl rfl (Nat.le_of_ble_eq_true rfl) (Or.inl rfl) rfl rfl ?_ | ((first | refine w_if2 rfl (fun _ => ?_) (fun _ => ?_) | refine w_if1 rfl (fun _ => ?_) (fun _ => ?_)) <;> try (exfalso; (((try simp only [c_eq0, c_ne0, c_Llt, c_Lle, c_Lgt, c_Lge, c_Leq, c_Lne] at *); try simp only [ax_cnd, vp_in_iff, Int32.lt_iff_toInt_lt, Int32.le_iff_toInt_le, Int64.lt_iff_toInt_lt, Int64.le_iff_toInt_le, q_eq, q_eqL, q_lg, q_nI, q_add, q_sub, q_mul, q_neg, q_addL, q_subL, q_mulL, q_negL, q_i2l, q_l2i, q_b8, q_b16, q_ofI, q_lit, q_ofNL, q_litL, ne_eq, gt_iff_lt, ge_iff_le] at *) <;> omega); done)))) <;> try ((refine w_thr rfl rfl rfl rfl rfl (by decide) rfl rfl ?_); rfl)
  have h1 : 0 ≤ k.toInt ∧ k.toInt < 4 := by (((try simp only [c_eq0, c_ne0, c_Llt, c_Lle, c_Lgt, c_Lge, c_Leq, c_Lne] at *); try simp only [ax_cnd, vp_in_iff, Int32.lt_iff_toInt_lt, Int32.le_iff_toInt_le, Int64.lt_iff_toInt_lt, Int64.le_iff_toInt_le, q_eq, q_eqL, q_lg, q_nI, q_add, q_sub, q_mul, q_neg, q_addL, q_subL, q_mulL, q_negL, q_i2l, q_l2i, q_b8, q_b16, q_ofI, q_lit, q_ofNL, q_litL, ne_eq, gt_iff_lt, ge_iff_le] at *) <;> omega)
  obtain ⟨n, rfl, hn1, hn2⟩ := q_nat (x := k) (by omega)
  refine w_aa rfl rfl (Or.inl rfl) rfl (by omega) (by decide) ?_
  rw [hF.no n (by omega) (by omega)]
  (repeat (first | refine w_iadd1 rfl ?_ | refine w_isub1 rfl ?_ | refine w_iinc1 rfl rfl ?_ | refine w_s rfl rfl ?_ | refine w_get rfl rfl rfl rfl ?_ | refine w_nnl rfl ?_ | refine w_nnlR rfl ?_ | refine w_nul rfl ?_ | refine w_nulR rfl ?_ | refine w_ldc rfl rfl ?_ | refine w_ldc2 rfl rfl ?_ | refine w_put rfl rfl rfl (Nat.le_of_ble_eq_true rfl) (Or.inl rfl) rfl rfl ?_))
  (refine w_thr rfl rfl rfl rfl rfl (by decide) rfl rfl ?_)
  rfl
theorem r_offerOf1 {k i : Nat} (hk : k < 4) (hi : c.of k = some (i + 40)) : ax_run m_ML_offerOf [.ref 1, .int (nI k)] (ax_hp L xs c m o pool, u) (.inl (some (.ref (i + 40))), (ax_hp L xs c m o pool, u)) := by
  (refine ax_run_T (ax_T_of M_ML_offerOf rfl (Nat.le_of_ble_eq_true rfl) ?_))
  (repeat' (first | refine w_iadd1 rfl ?_ | refine w_isub1 rfl ?_ | refine w_iinc1 rfl rfl ?_ | refine w_s rfl rfl ?_ | refine w_get rfl rfl rfl rfl ?_ | refine w_nnl rfl ?_ | refine w_nnlR rfl ?_ | refine w_nul rfl ?_ | refine w_nulR rfl ?_ | refine w_ldc rfl rfl ?_ | refine w_ldc2 rfl rfl ?_ | refine w_put rfl rfl rfl (Nat.le_of_ble_eq_true rfl) (Or.inl rfl) rfl rfl ?_ | ((first | refine w_if2 rfl (fun _ => ?_) (fun _ => ?_) | refine w_if1 rfl (fun _ => ?_) (fun _ => ?_)) <;> try (exfalso; (((try simp only [c_eq0, c_ne0, c_Llt, c_Lle, c_Lgt, c_Lge, c_Leq, c_Lne] at *); try simp only [ax_cnd, vp_in_iff, Int32.lt_iff_toInt_lt, Int32.le_iff_toInt_le, Int64.lt_iff_toInt_lt, Int64.le_iff_toInt_le, q_eq, q_eqL, q_lg, q_nI, q_add, q_sub, q_mul, q_neg, q_addL, q_subL, q_mulL, q_negL, q_i2l, q_l2i, q_b8, q_b16, q_ofI, q_lit, q_ofNL, q_litL, ne_eq, gt_iff_lt, ge_iff_le] at *) <;> omega); done))))
  refine w_aa rfl rfl (Or.inl rfl) rfl (by omega) (by decide) ?_
  rw [hi]
  (repeat (first | refine w_iadd1 rfl ?_ | refine w_isub1 rfl ?_ | refine w_iinc1 rfl rfl ?_ | refine w_s rfl rfl ?_ | refine w_get rfl rfl rfl rfl ?_ | refine w_nnl rfl ?_ | refine w_nnlR rfl ?_ | refine w_nul rfl ?_ | refine w_nulR rfl ?_ | refine w_ldc rfl rfl ?_ | refine w_ldc2 rfl rfl ?_ | refine w_put rfl rfl rfl (Nat.le_of_ble_eq_true rfl) (Or.inl rfl) rfl rfl ?_))
  exact w_aret rfl rfl rfl rfl
theorem r_gradeOf0 {Fs : Nat → ax_Of} (hF : OffOk c pool Fs) (k j : Int32) (hk : ¬ (0 ≤ k.toInt ∧ k.toInt < c.told ∧ 0 ≤ j.toInt ∧ j.toInt < (Fs k.toInt.toNat).n)) : ax_run m_ML_gradeOf [.ref 1, .int k, .int j] (ax_hp L xs c m o pool, u) (.inr 0, (ax_hp L xs c m o (pool ++ [none]), u + 6)) := by
  have hn := hF.n
  (refine ax_run_T (ax_T_of M_ML_gradeOf rfl (Nat.le_of_ble_eq_true rfl) ?_))
  (repeat (first | refine w_iadd1 rfl ?_ | refine w_isub1 rfl ?_ | refine w_iinc1 rfl rfl ?_ | refine w_s rfl rfl ?_ | refine w_get rfl rfl rfl rfl ?_ | refine w_nnl rfl ?_ | refine w_nnlR rfl ?_ | refine w_nul rfl ?_ | refine w_nulR rfl ?_ | refine w_ldc rfl rfl ?_ | refine w_ldc2 rfl rfl ?_ | refine w_put rfl rfl rfl (Nat.le_of_ble_eq_true rfl) (Or.inl rfl) rfl rfl ?_))
  by_cases h1 : 0 ≤ k.toInt ∧ k.toInt < c.told
  · obtain ⟨n, rfl, hn1, hn2⟩ := q_nat (x := k) (by omega)
    obtain ⟨i, e1, e2, e3⟩ := hF.at_ n (by omega)
    (refine w_cv rfl rfl rfl rfl (by exact Nat.le_of_ble_eq_true rfl) (by exact Nat.le_of_ble_eq_true rfl) (r_offerOf1 (by omega) e1) ?_; dsimp only [Option.toList, List.drop, List.cons_append, List.nil_append])
    (repeat (first | refine w_iadd1 rfl ?_ | refine w_isub1 rfl ?_ | refine w_iinc1 rfl rfl ?_ | refine w_s rfl rfl ?_ | refine w_get rfl rfl rfl rfl ?_ | refine w_nnl rfl ?_ | refine w_nnlR rfl ?_ | refine w_nul rfl ?_ | refine w_nulR rfl ?_ | refine w_ldc rfl rfl ?_ | refine w_ldc2 rfl rfl ?_ | refine w_put rfl rfl rfl (Nat.le_of_ble_eq_true rfl) (Or.inl rfl) rfl rfl ?_))
    obtain ⟨a, gf, g1, -⟩ := id e2
    rw [← hn1] at hk
    refine w_cv rfl rfl rfl (hp_at g1) (Nat.le_of_ble_eq_true rfl) (Nat.le_of_ble_eq_true rfl) (r_gradeAt0 e2 e3 j (by simp only [Int.toNat_natCast] at hk; omega)) ?_
    dsimp only [Option.toList, List.drop, List.cons_append, List.nil_append]
    (repeat (first | refine w_iadd1 rfl ?_ | refine w_isub1 rfl ?_ | refine w_iinc1 rfl rfl ?_ | refine w_s rfl rfl ?_ | refine w_get rfl rfl rfl rfl ?_ | refine w_nnl rfl ?_ | refine w_nnlR rfl ?_ | refine w_nul rfl ?_ | refine w_nulR rfl ?_ | refine w_ldc rfl rfl ?_ | refine w_ldc2 rfl rfl ?_ | refine w_put rfl rfl rfl (Nat.le_of_ble_eq_true rfl) (Or.inl rfl) rfl rfl ?_))
    (refine w_thr rfl rfl rfl rfl rfl (by decide) rfl rfl ?_)
    rfl
  · exact w_cvx rfl rfl rfl rfl (Nat.le_of_ble_eq_true rfl) (Nat.le_of_ble_eq_true rfl) (by decide) rfl (r_offerOf0 hF k h1) rfl
theorem r_gradeOf1 {Fs : Nat → ax_Of} (hF : OffOk c pool Fs) (k j : Nat) (hk : k < c.told) (hj : j < (Fs k).n) : ∃ g, GradeAt pool g ((Fs k).g j) ∧ ax_run m_ML_gradeOf [.ref 1, .int (nI k), .int (nI j)] (ax_hp L xs c m o pool, u) (.inl (some (.ref (g + 40))), (ax_hp L xs c m o pool, u)) := by
  have hn := hF.n
  obtain ⟨i, e1, e2, e3⟩ := hF.at_ k (by omega)
  obtain ⟨g, g1, g2⟩ := r_gradeAt1 (L := L) (xs := xs) (c := c) (m := m) (o := o) (u := u) e2 e3 j hj
  refine ⟨g, g1, ?_⟩
  (refine ax_run_T (ax_T_of M_ML_gradeOf rfl (Nat.le_of_ble_eq_true rfl) ?_))
  (repeat (first | refine w_iadd1 rfl ?_ | refine w_isub1 rfl ?_ | refine w_iinc1 rfl rfl ?_ | refine w_s rfl rfl ?_ | refine w_get rfl rfl rfl rfl ?_ | refine w_nnl rfl ?_ | refine w_nnlR rfl ?_ | refine w_nul rfl ?_ | refine w_nulR rfl ?_ | refine w_ldc rfl rfl ?_ | refine w_ldc2 rfl rfl ?_ | refine w_put rfl rfl rfl (Nat.le_of_ble_eq_true rfl) (Or.inl rfl) rfl rfl ?_))
  (refine w_cv rfl rfl rfl rfl (by exact Nat.le_of_ble_eq_true rfl) (by exact Nat.le_of_ble_eq_true rfl) (r_offerOf1 (by omega) e1) ?_; dsimp only [Option.toList, List.drop, List.cons_append, List.nil_append])
  (repeat (first | refine w_iadd1 rfl ?_ | refine w_isub1 rfl ?_ | refine w_iinc1 rfl rfl ?_ | refine w_s rfl rfl ?_ | refine w_get rfl rfl rfl rfl ?_ | refine w_nnl rfl ?_ | refine w_nnlR rfl ?_ | refine w_nul rfl ?_ | refine w_nulR rfl ?_ | refine w_ldc rfl rfl ?_ | refine w_ldc2 rfl rfl ?_ | refine w_put rfl rfl rfl (Nat.le_of_ble_eq_true rfl) (Or.inl rfl) rfl rfl ?_))
  obtain ⟨a, gf, z1, -⟩ := id e2
  refine w_cv rfl rfl rfl (hp_at z1) (Nat.le_of_ble_eq_true rfl) (Nat.le_of_ble_eq_true rfl) g2 ?_
  dsimp only [Option.toList, List.drop, List.cons_append, List.nil_append]
  (repeat (first | refine w_iadd1 rfl ?_ | refine w_isub1 rfl ?_ | refine w_iinc1 rfl rfl ?_ | refine w_s rfl rfl ?_ | refine w_get rfl rfl rfl rfl ?_ | refine w_nnl rfl ?_ | refine w_nnlR rfl ?_ | refine w_nul rfl ?_ | refine w_nulR rfl ?_ | refine w_ldc rfl rfl ?_ | refine w_ldc2 rfl rfl ?_ | refine w_put rfl rfl rfl (Nat.le_of_ble_eq_true rfl) (Or.inl rfl) rfl rfl ?_))
  exact w_aret rfl rfl rfl rfl
def sp_least (c : ax_St) (Fs : Nat → ax_Of) (k : Int32) : ax_SR := if ¬ (0 ≤ k.toInt ∧ k.toInt < c.told) then .inr 0 else .inl (.int (ax_least c (Fs k.toInt.toNat)), c)
theorem r_least {Fs : Nat → ax_Of} (hF : OffOk c pool Fs) (hb : BoardOk c) (k : Int32) : ax_run m_ML_least [.ref 1, .int k] (ax_hp L xs c m o pool, u) (ax_out L xs m o pool u c (sp_least c Fs k)) := by
  have hn := hF.n
  unfold sp_least
  split
  · (refine ax_run_T (ax_T_of M_ML_least rfl (Nat.le_of_ble_eq_true rfl) ?_))
    (repeat (first | refine w_iadd1 rfl ?_ | refine w_isub1 rfl ?_ | refine w_iinc1 rfl rfl ?_ | refine w_s rfl rfl ?_ | refine w_get rfl rfl rfl rfl ?_ | refine w_nnl rfl ?_ | refine w_nnlR rfl ?_ | refine w_nul rfl ?_ | refine w_nulR rfl ?_ | refine w_ldc rfl rfl ?_ | refine w_ldc2 rfl rfl ?_ | refine w_put rfl rfl rfl (Nat.le_of_ble_eq_true rfl) (Or.inl rfl) rfl rfl ?_))
    exact w_cvx rfl rfl rfl rfl (Nat.le_of_ble_eq_true rfl) (Nat.le_of_ble_eq_true rfl) (by decide) rfl (r_offerOf0 hF k (by assumption)) rfl
  · obtain ⟨n, rfl, hn1, hn2⟩ := q_nat (x := k) (by omega)
    rw [← hn1]
    obtain ⟨i, e1, e2, e3⟩ := hF.at_ n (by omega)
    (refine ax_run_T (ax_T_of M_ML_least rfl (Nat.le_of_ble_eq_true rfl) ?_))
    (repeat (first | refine w_iadd1 rfl ?_ | refine w_isub1 rfl ?_ | refine w_iinc1 rfl rfl ?_ | refine w_s rfl rfl ?_ | refine w_get rfl rfl rfl rfl ?_ | refine w_nnl rfl ?_ | refine w_nnlR rfl ?_ | refine w_nul rfl ?_ | refine w_nulR rfl ?_ | refine w_ldc rfl rfl ?_ | refine w_ldc2 rfl rfl ?_ | refine w_put rfl rfl rfl (Nat.le_of_ble_eq_true rfl) (Or.inl rfl) rfl rfl ?_))
    (refine w_cv rfl rfl rfl rfl (by exact Nat.le_of_ble_eq_true rfl) (by exact Nat.le_of_ble_eq_true rfl) (r_offerOf1 (by omega) e1) ?_; dsimp only [Option.toList, List.drop, List.cons_append, List.nil_append])
    (repeat (first | refine w_iadd1 rfl ?_ | refine w_isub1 rfl ?_ | refine w_iinc1 rfl rfl ?_ | refine w_s rfl rfl ?_ | refine w_get rfl rfl rfl rfl ?_ | refine w_nnl rfl ?_ | refine w_nnlR rfl ?_ | refine w_nul rfl ?_ | refine w_nulR rfl ?_ | refine w_ldc rfl rfl ?_ | refine w_ldc2 rfl rfl ?_ | refine w_put rfl rfl rfl (Nat.le_of_ble_eq_true rfl) (Or.inl rfl) rfl rfl ?_))
    obtain ⟨a, gf, g1, -⟩ := id e2
    refine w_cv rfl rfl rfl (hp_at g1) (Nat.le_of_ble_eq_true rfl) (Nat.le_of_ble_eq_true rfl) (r_leastFor e2 e3 hb) ?_
    (refine w_iret rfl rfl rfl ?_)
    rfl
def sp_price (c : ax_St) (Fs : Nat → ax_Of) (k j : Int32) (q : Int64) : ax_SR := if ¬ (0 ≤ k.toInt ∧ k.toInt < c.told ∧ 0 ≤ j.toInt ∧ j.toInt < (Fs k.toInt.toNat).n) then .inr 0 else if ¬ (1 ≤ q.toInt ∧ q.toInt ≤ 1000000) then .inr 1 else .inl (.long (Int64.ofInt (ax_pri ((Fs k.toInt.toNat).g j.toInt.toNat) q)), c)
theorem r_price {Fs : Nat → ax_Of} (hF : OffOk c pool Fs) (k j : Int32) (q : Int64) : ax_run m_ML_price [.ref 1, .int k, .int j, .long q] (ax_hp L xs c m o pool, u) (ax_out L xs m o pool u c (sp_price c Fs k j q)) := by
  have hn := hF.n
  unfold sp_price
  split
  · (refine ax_run_T (ax_T_of M_ML_price rfl (Nat.le_of_ble_eq_true rfl) ?_))
    (repeat (first | refine w_iadd1 rfl ?_ | refine w_isub1 rfl ?_ | refine w_iinc1 rfl rfl ?_ | refine w_s rfl rfl ?_ | refine w_get rfl rfl rfl rfl ?_ | refine w_nnl rfl ?_ | refine w_nnlR rfl ?_ | refine w_nul rfl ?_ | refine w_nulR rfl ?_ | refine w_ldc rfl rfl ?_ | refine w_ldc2 rfl rfl ?_ | refine w_put rfl rfl rfl (Nat.le_of_ble_eq_true rfl) (Or.inl rfl) rfl rfl ?_))
    exact w_cvx rfl rfl rfl rfl (Nat.le_of_ble_eq_true rfl) (Nat.le_of_ble_eq_true rfl) (by decide) rfl (r_gradeOf0 hF k j (by assumption)) rfl
  · rename_i h0
    obtain ⟨n, rfl, hn1, hn2⟩ := q_nat (x := k) (by omega)
    obtain ⟨i, rfl, hi1, hi2⟩ := q_nat (x := j) (by omega)
    rw [← hn1, ← hi1] at h0 ⊢
    simp only [Int.toNat_natCast] at h0 ⊢
    obtain ⟨g, g1, g2⟩ := r_gradeOf1 (L := L) (xs := xs) (m := m) (o := o) (u := u) hF n i (by omega) (by omega)
    obtain ⟨-, -, -, e3⟩ := hF.at_ n (by omega)
    split
    · (refine ax_run_T (ax_T_of M_ML_price rfl (Nat.le_of_ble_eq_true rfl) ?_))
      (repeat (first | refine w_iadd1 rfl ?_ | refine w_isub1 rfl ?_ | refine w_iinc1 rfl rfl ?_ | refine w_s rfl rfl ?_ | refine w_get rfl rfl rfl rfl ?_ | refine w_nnl rfl ?_ | refine w_nnlR rfl ?_ | refine w_nul rfl ?_ | refine w_nulR rfl ?_ | refine w_ldc rfl rfl ?_ | refine w_ldc2 rfl rfl ?_ | refine w_put rfl rfl rfl (Nat.le_of_ble_eq_true rfl) (Or.inl rfl) rfl rfl ?_))
      (refine w_cv rfl rfl rfl rfl (by exact Nat.le_of_ble_eq_true rfl) (by exact Nat.le_of_ble_eq_true rfl) g2 ?_; dsimp only [Option.toList, List.drop, List.cons_append, List.nil_append])
      (repeat (first | refine w_iadd1 rfl ?_ | refine w_isub1 rfl ?_ | refine w_iinc1 rfl rfl ?_ | refine w_s rfl rfl ?_ | refine w_get rfl rfl rfl rfl ?_ | refine w_nnl rfl ?_ | refine w_nnlR rfl ?_ | refine w_nul rfl ?_ | refine w_nulR rfl ?_ | refine w_ldc rfl rfl ?_ | refine w_ldc2 rfl rfl ?_ | refine w_put rfl rfl rfl (Nat.le_of_ble_eq_true rfl) (Or.inl rfl) rfl rfl ?_))
      exact w_csx rfl rfl (Nat.le_of_ble_eq_true rfl) (Nat.le_of_ble_eq_true rfl) (by decide) rfl (r_checkQ0 q (by assumption)) rfl
    · (refine ax_run_T (ax_T_of M_ML_price rfl (Nat.le_of_ble_eq_true rfl) ?_))
      (repeat (first | refine w_iadd1 rfl ?_ | refine w_isub1 rfl ?_ | refine w_iinc1 rfl rfl ?_ | refine w_s rfl rfl ?_ | refine w_get rfl rfl rfl rfl ?_ | refine w_nnl rfl ?_ | refine w_nnlR rfl ?_ | refine w_nul rfl ?_ | refine w_nulR rfl ?_ | refine w_ldc rfl rfl ?_ | refine w_ldc2 rfl rfl ?_ | refine w_put rfl rfl rfl (Nat.le_of_ble_eq_true rfl) (Or.inl rfl) rfl rfl ?_))
      (refine w_cv rfl rfl rfl rfl (by exact Nat.le_of_ble_eq_true rfl) (by exact Nat.le_of_ble_eq_true rfl) g2 ?_; dsimp only [Option.toList, List.drop, List.cons_append, List.nil_append])
      (repeat (first | refine w_iadd1 rfl ?_ | refine w_isub1 rfl ?_ | refine w_iinc1 rfl rfl ?_ | refine w_s rfl rfl ?_ | refine w_get rfl rfl rfl rfl ?_ | refine w_nnl rfl ?_ | refine w_nnlR rfl ?_ | refine w_nul rfl ?_ | refine w_nulR rfl ?_ | refine w_ldc rfl rfl ?_ | refine w_ldc2 rfl rfl ?_ | refine w_put rfl rfl rfl (Nat.le_of_ble_eq_true rfl) (Or.inl rfl) rfl rfl ?_))
      (refine w_cs rfl rfl (by first | decide | exact Nat.le_of_ble_eq_true rfl) (by exact Nat.le_of_ble_eq_true rfl) (r_checkQ1 q (by omega)) ?_; dsimp only [Option.toList, List.drop, List.cons_append, List.nil_append])
      (repeat (first | refine w_iadd1 rfl ?_ | refine w_isub1 rfl ?_ | refine w_iinc1 rfl rfl ?_ | refine w_s rfl rfl ?_ | refine w_get rfl rfl rfl rfl ?_ | refine w_nnl rfl ?_ | refine w_nnlR rfl ?_ | refine w_nul rfl ?_ | refine w_nulR rfl ?_ | refine w_ldc rfl rfl ?_ | refine w_ldc2 rfl rfl ?_ | refine w_put rfl rfl rfl (Nat.le_of_ble_eq_true rfl) (Or.inl rfl) rfl rfl ?_))
      obtain ⟨a, b, d, can, z1, -⟩ := id g1
      refine w_cv rfl rfl rfl (hp_at z1) (Nat.le_of_ble_eq_true rfl) (Nat.le_of_ble_eq_true rfl) (r_priceOf g1 (e3.gs i (by omega)) q (by omega)) ?_
      exact w_lret rfl rfl rfl
end CG
