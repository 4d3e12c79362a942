section MF
variable {L : Nat} {xs : Nat → Int32} {c : ax_St} {m : ax_Mo} {o : Nat → Int64} {pool : List (Option ax_C)} {u : Nat} {h : ax_H}
theorem n_isMaker (k : Int32) (hn : m.makers ≤ 4) : ax_run m_Mo_isMaker [.ref 23, .int k] (ax_hp L xs c m o pool, u) (.inl (some (.int (bI (0 ≤ k.toInt ∧ k.toInt < m.makers)))), (ax_hp L xs c m o pool, u)) := by
  (refine ax_run_T (ax_T_of M_Mo_isMaker rfl (Nat.le_of_ble_eq_true rfl) ?_))
  (repeat' (first | refine w_iadd1 rfl ?_ | refine w_isub1 rfl ?_ | refine w_iinc1 rfl rfl ?_ | refine w_s rfl rfl ?_ | refine w_get rfl rfl rfl rfl ?_ | refine w_nnl rfl ?_ | refine w_nnlR rfl ?_ | refine w_nul rfl ?_ | refine w_nulR rfl ?_ | refine w_ldc rfl rfl ?_ | refine w_ldc2 rfl rfl ?_ | refine w_put rfl rfl rfl (Nat.le_of_ble_eq_true rfl) (Or.inl rfl) rfl rfl ?_ | ((first | refine w_if2 rfl (fun _ => ?_) (fun _ => ?_) | refine w_if1 rfl (fun _ => ?_) (fun _ => ?_)) <;> try (exfalso; (((try simp only [c_eq0, c_ne0, c_Llt, c_Lle, c_Lgt, c_Lge, c_Leq, c_Lne] at *); try simp only [ax_cnd, vp_in_iff, Int32.lt_iff_toInt_lt, Int32.le_iff_toInt_le, Int64.lt_iff_toInt_lt, Int64.le_iff_toInt_le, q_eq, q_eqL, q_lg, q_nI, q_add, q_sub, q_mul, q_neg, q_addL, q_subL, q_mulL, q_negL, q_i2l, q_l2i, q_b8, q_b16, q_ofI, q_lit, q_ofNL, q_litL, ne_eq, gt_iff_lt, ge_iff_le] at *) <;> omega); done)))) <;> (refine w_iret rfl rfl rfl ?_) <;> (first | exact bT (by (((try simp only [c_eq0, c_ne0, c_Llt, c_Lle, c_Lgt, c_Lge, c_Leq, c_Lne] at *); try simp only [ax_cnd, vp_in_iff, Int32.lt_iff_toInt_lt, Int32.le_iff_toInt_le, Int64.lt_iff_toInt_lt, Int64.le_iff_toInt_le, q_eq, q_eqL, q_lg, q_nI, q_add, q_sub, q_mul, q_neg, q_addL, q_subL, q_mulL, q_negL, q_i2l, q_l2i, q_b8, q_b16, q_ofI, q_lit, q_ofNL, q_litL, ne_eq, gt_iff_lt, ge_iff_le] at *) <;> omega)) | exact bF (by (((try simp only [c_eq0, c_ne0, c_Llt, c_Lle, c_Lgt, c_Lge, c_Leq, c_Lne] at *); try simp only [ax_cnd, vp_in_iff, Int32.lt_iff_toInt_lt, Int32.le_iff_toInt_le, Int64.lt_iff_toInt_lt, Int64.le_iff_toInt_le, q_eq, q_eqL, q_lg, q_nI, q_add, q_sub, q_mul, q_neg, q_addL, q_subL, q_mulL, q_negL, q_i2l, q_l2i, q_b8, q_b16, q_ofI, q_lit, q_ofNL, q_litL, ne_eq, gt_iff_lt, ge_iff_le] at *) <;> omega)) | (exfalso; (((try simp only [c_eq0, c_ne0, c_Llt, c_Lle, c_Lgt, c_Lge, c_Leq, c_Lne] at *); try simp only [ax_cnd, vp_in_iff, Int32.lt_iff_toInt_lt, Int32.le_iff_toInt_le, Int64.lt_iff_toInt_lt, Int64.le_iff_toInt_le, q_eq, q_eqL, q_lg, q_nI, q_add, q_sub, q_mul, q_neg, q_addL, q_subL, q_mulL, q_negL, q_i2l, q_l2i, q_b8, q_b16, q_ofI, q_lit, q_ofNL, q_litL, ne_eq, gt_iff_lt, ge_iff_le] at *) <;> omega)))
theorem ax_jx_lt (p : Nat → Bool) : ∀ n, 1 ≤ n → ax_jx p n < n := by
  intro n
  induction n with
  | zero => intro z; omega
  | succ n ihn =>
    intro _
    unfold ax_jx
    split
    · omega
    · by_cases hz : 1 ≤ n
      · have := ihn hz; omega
      · have : n = 0 := by omega
        subst this
        exact Nat.succ_pos 0
theorem ax_up0 {G : ax_Gr} (hok : GradeOk G) : ∀ s, s < G.st → (G.fr 0).toInt ≤ (G.fr s).toInt ∧ (1 ≤ s → (G.fr 0).toInt < (G.fr s).toInt) := by
  intro s
  induction s with
  | zero => exact fun _ => ⟨Int.le_refl _, fun z => absurd z (by omega)⟩
  | succ s ih =>
    intro hs
    have h1 := ih (by omega)
    have h2 := hok.up s hs
    exact ⟨by omega, fun _ => by omega⟩
theorem q_dec (s : Nat) (hs : s < 1000) : (nI s + Int32.ofInt (-1)).toInt = (s : Int) - 1 := by
  rw [q_add, q_nI, q_ofI]
  omega
theorem q_le1 {s t : Nat} (h : s + 1 ≤ t) : s ≤ t := by omega
theorem mulOk (a b : Int64) (x y : Int) (h1 : a.toInt = x) (h2 : b.toInt = y) (h3 : 0 ≤ x) (h4 : x ≤ 1000000) (h5 : 0 ≤ y) (h6 : y ≤ 1000000) : a * b = Int64.ofInt (x * y) := by
  apply q_toL
  rw [q_mulL, h1, h2]
  have hm1 : x * y ≤ 1000000 * 1000000 := Int.mul_le_mul h4 h6 h5 (by omega)
  have hm2 : 0 ≤ x * y := Int.mul_nonneg h3 h5
  omega
theorem n_priceOf {p : Nat} {F : ax_Of} (hN : NumAt m p F) (hok : OfferOk F) (hp : p < 15) (k : Nat) (hk : k < F.n) (q : Int64) (hq : 1 ≤ q.toInt ∧ q.toInt ≤ 1000000) :
    ax_run m_Mo_priceOf [.ref 23, .int (nI p), .int (nI k), .long q] (ax_hp L xs c m o pool, u) (.inl (some (.long (Int64.ofInt (ax_pri (F.g k) q)))), (ax_hp L xs c m o pool, u)) := by
  have hn4 := hok.n4
  have hg := hok.gs k hk
  have hs1 := hg.s1
  have hs4 := hg.s4
  have hst := hN.st k hk
  have hu0 := ax_up0 hg
  have lp : ∀ (s : Nat) (x : Int32), s ≤ (F.g k).st → x.toInt = (s : Int) - 1 → (∀ i, s ≤ i → i < (F.g k).st → q.toInt < ((F.g k).fr i).toInt) → ax_wp ax_run M_Mo_priceOf (fun r' => r' = (.inl (some (.long (Int64.ofInt (ax_pri (F.g k) q)))), (ax_hp L xs c m o pool, u))) 26 [(0, .ref 23), (3, .long q), (5, .int (nI (64 * p + 16 * k))), (7, .int x)] [] (ax_hp L xs c m o pool, u) := by
    intro s
    induction s with
    | zero =>
      intro x hs hx hall
      have h0 := hall 0 (Nat.le_refl _) (by omega)
      have hf0 := hg.fm 0 (by omega)
      have hc0 := hg.cm 0 (by omega)
      (repeat ((fail_if_success (show ax_wp _ _ _ 28 _ _ _)); (first | refine w_iadd1 rfl ?_ | refine w_isub1 rfl ?_ | refine w_iinc1 rfl rfl ?_ | refine w_s rfl rfl ?_ | refine w_get rfl rfl rfl rfl ?_ | refine w_nnl rfl ?_ | refine w_nnlR rfl ?_ | refine w_nul rfl ?_ | refine w_nulR rfl ?_ | refine w_ldc rfl rfl ?_ | refine w_ldc2 rfl rfl ?_ | refine w_put rfl rfl rfl (Nat.le_of_ble_eq_true rfl) (Or.inl rfl) rfl rfl ?_)))
      refine w_if1 rfl (fun _ => ?_) (fun h5 => absurd (c_lt0.mpr (by omega)) h5)
      (repeat (first | refine w_iadd1 rfl ?_ | refine w_isub1 rfl ?_ | refine w_iinc1 rfl rfl ?_ | refine w_s rfl rfl ?_ | refine w_get rfl rfl rfl rfl ?_ | refine w_nnl rfl ?_ | refine w_nnlR rfl ?_ | refine w_nul rfl ?_ | refine w_nulR rfl ?_ | refine w_ldc rfl rfl ?_ | refine w_ldc2 rfl rfl ?_ | refine w_put rfl rfl rfl (Nat.le_of_ble_eq_true rfl) (Or.inl rfl) rfl rfl ?_))
      refine w_la (j := 64 * p + 16 * k + (8 + 2 * 0)) rfl rfl (by (simp only [kb6, kb7, kb8, kb9, kb16, ki0, ki1, ki2, ki3, ki4, ki5, nI_addR, nI_mulR]; try (congr 1; omega))) (by omega) (by decide) ?_
      (repeat (first | refine w_iadd1 rfl ?_ | refine w_isub1 rfl ?_ | refine w_iinc1 rfl rfl ?_ | refine w_s rfl rfl ?_ | refine w_get rfl rfl rfl rfl ?_ | refine w_nnl rfl ?_ | refine w_nnlR rfl ?_ | refine w_nul rfl ?_ | refine w_nulR rfl ?_ | refine w_ldc rfl rfl ?_ | refine w_ldc2 rfl rfl ?_ | refine w_put rfl rfl rfl (Nat.le_of_ble_eq_true rfl) (Or.inl rfl) rfl rfl ?_))
      refine w_la (j := 64 * p + 16 * k + (9 + 2 * 0)) rfl rfl (by (simp only [kb6, kb7, kb8, kb9, kb16, ki0, ki1, ki2, ki3, ki4, ki5, nI_addR, nI_mulR]; try (congr 1; omega))) (by omega) (by decide) ?_
      (repeat (first | refine w_iadd1 rfl ?_ | refine w_isub1 rfl ?_ | refine w_iinc1 rfl rfl ?_ | refine w_s rfl rfl ?_ | refine w_get rfl rfl rfl rfl ?_ | refine w_nnl rfl ?_ | refine w_nnlR rfl ?_ | refine w_nul rfl ?_ | refine w_nulR rfl ?_ | refine w_ldc rfl rfl ?_ | refine w_ldc2 rfl rfl ?_ | refine w_put rfl rfl rfl (Nat.le_of_ble_eq_true rfl) (Or.inl rfl) rfl rfl ?_))
      refine w_lret rfl rfl ?_
      congr 4
      have hpd : ax_paid (F.g k) q = ((F.g k).fr 0).toInt := if_pos h0
      have hjx : ∀ n, 1 ≤ n → n ≤ (F.g k).st → ax_jx (fun s => decide (((F.g k).fr s).toInt ≤ ((F.g k).fr 0).toInt)) n = 0 := by
        intro n
        induction n with
        | zero => intro z; omega
        | succ n ihn =>
          intro _ hnn
          by_cases hz : n = 0
          · subst hz
            show (if _ then 0 else ax_jx _ 0) = 0
            split <;> rfl
          · show (if decide (((F.g k).fr n).toInt ≤ ((F.g k).fr 0).toInt) = true then n else _) = 0
            have := (hu0 n (by omega)).2 (by omega)
            rw [if_neg (by rw [decide_eq_true_eq]; omega)]
            exact ihn (by omega) (by omega)
      unfold ax_pri
      rw [hpd, hjx _ hs1 (Nat.le_refl _)]
      exact mulOk _ _ _ _ (hN.fr k hk 0 (by omega)) (hN.ce k hk 0 (by omega)) (by omega) (by omega) (by omega) (by omega)
    | succ s ih =>
      intro x hs hx hall
      have hx' : x = nI s := q_nIof (by omega) (by omega)
      subst hx'
      have hcb := hg.cm s (by omega)
      (repeat ((fail_if_success (show ax_wp _ _ _ 28 _ _ _)); (first | refine w_iadd1 rfl ?_ | refine w_isub1 rfl ?_ | refine w_iinc1 rfl rfl ?_ | refine w_s rfl rfl ?_ | refine w_get rfl rfl rfl rfl ?_ | refine w_nnl rfl ?_ | refine w_nnlR rfl ?_ | refine w_nul rfl ?_ | refine w_nulR rfl ?_ | refine w_ldc rfl rfl ?_ | refine w_ldc2 rfl rfl ?_ | refine w_put rfl rfl rfl (Nat.le_of_ble_eq_true rfl) (Or.inl rfl) rfl rfl ?_)))
      refine w_if1 rfl (fun h5 => absurd (c_lt0.mp h5) (by omega)) (fun _ => ?_)
      (repeat (first | refine w_iadd1 rfl ?_ | refine w_isub1 rfl ?_ | refine w_iinc1 rfl rfl ?_ | refine w_s rfl rfl ?_ | refine w_get rfl rfl rfl rfl ?_ | refine w_nnl rfl ?_ | refine w_nnlR rfl ?_ | refine w_nul rfl ?_ | refine w_nulR rfl ?_ | refine w_ldc rfl rfl ?_ | refine w_ldc2 rfl rfl ?_ | refine w_put rfl rfl rfl (Nat.le_of_ble_eq_true rfl) (Or.inl rfl) rfl rfl ?_))
      refine w_la (j := 64 * p + 16 * k + (8 + 2 * s)) rfl rfl (by (simp only [kb6, kb7, kb8, kb9, kb16, ki0, ki1, ki2, ki3, ki4, ki5, nI_addR, nI_mulR]; try (congr 1; omega))) (by omega) (by decide) ?_
      (repeat (first | refine w_iadd1 rfl ?_ | refine w_isub1 rfl ?_ | refine w_iinc1 rfl rfl ?_ | refine w_s rfl rfl ?_ | refine w_get rfl rfl rfl rfl ?_ | refine w_nnl rfl ?_ | refine w_nnlR rfl ?_ | refine w_nul rfl ?_ | refine w_nulR rfl ?_ | refine w_ldc rfl rfl ?_ | refine w_ldc2 rfl rfl ?_ | refine w_put rfl rfl rfl (Nat.le_of_ble_eq_true rfl) (Or.inl rfl) rfl rfl ?_))
      refine w_if1 rfl (fun h7 => ?_) (fun h7 => ?_)
      · have h8 := c_Lgt.mp h7
        rw [hN.fr k hk s (by omega)] at h8
        clear h7
        (repeat ((fail_if_success (show ax_wp _ _ _ 26 _ _ _)); (first | refine w_iadd1 rfl ?_ | refine w_isub1 rfl ?_ | refine w_iinc1 rfl rfl ?_ | refine w_s rfl rfl ?_ | refine w_get rfl rfl rfl rfl ?_ | refine w_nnl rfl ?_ | refine w_nnlR rfl ?_ | refine w_nul rfl ?_ | refine w_nulR rfl ?_ | refine w_ldc rfl rfl ?_ | refine w_ldc2 rfl rfl ?_ | refine w_put rfl rfl rfl (Nat.le_of_ble_eq_true rfl) (Or.inl rfl) rfl rfl ?_)))
        refine w_lv (ih (nI s + Int32.ofInt (-1)) (q_le1 hs) (q_dec s (Nat.lt_of_lt_of_le (Nat.lt_of_lt_of_le (Nat.lt_succ_self s) (Nat.le_trans hs hs4)) (by decide))) (fun i hi1 hi2 => ?_)) rfl ⟨rfl, rfl, rfl, rfl, trivial⟩
        by_cases his : i = s
        · subst his; omega
        · exact hall i (by omega) hi2
      · have h8 : ¬ q.toInt < (m.numbers (64 * p + 16 * k + (8 + 2 * s))).toInt := fun z => h7 (c_Lgt.mpr z)
        rw [hN.fr k hk s (by omega)] at h8
        clear h7
        (repeat (first | refine w_iadd1 rfl ?_ | refine w_isub1 rfl ?_ | refine w_iinc1 rfl rfl ?_ | refine w_s rfl rfl ?_ | refine w_get rfl rfl rfl rfl ?_ | refine w_nnl rfl ?_ | refine w_nnlR rfl ?_ | refine w_nul rfl ?_ | refine w_nulR rfl ?_ | refine w_ldc rfl rfl ?_ | refine w_ldc2 rfl rfl ?_ | refine w_put rfl rfl rfl (Nat.le_of_ble_eq_true rfl) (Or.inl rfl) rfl rfl ?_))
        refine w_la (j := 64 * p + 16 * k + (9 + 2 * s)) rfl rfl (by (simp only [kb6, kb7, kb8, kb9, kb16, ki0, ki1, ki2, ki3, ki4, ki5, nI_addR, nI_mulR]; try (congr 1; omega))) (by omega) (by decide) ?_
        (repeat (first | refine w_iadd1 rfl ?_ | refine w_isub1 rfl ?_ | refine w_iinc1 rfl rfl ?_ | refine w_s rfl rfl ?_ | refine w_get rfl rfl rfl rfl ?_ | refine w_nnl rfl ?_ | refine w_nnlR rfl ?_ | refine w_nul rfl ?_ | refine w_nulR rfl ?_ | refine w_ldc rfl rfl ?_ | refine w_ldc2 rfl rfl ?_ | refine w_put rfl rfl rfl (Nat.le_of_ble_eq_true rfl) (Or.inl rfl) rfl rfl ?_))
        refine w_lret rfl rfl ?_
        congr 4
        have hpd : ax_paid (F.g k) q = q.toInt := if_neg (by have := (hu0 s (by omega)).1; omega)
        have hjx : ∀ n, s + 1 ≤ n → n ≤ (F.g k).st → ax_jx (fun s => decide (((F.g k).fr s).toInt ≤ q.toInt)) n = s := by
          intro n
          induction n with
          | zero => intro z; omega
          | succ n ihn =>
            intro h1 hnn
            show (if decide (((F.g k).fr n).toInt ≤ q.toInt) = true then n else _) = s
            by_cases hz : n = s
            · subst hz
              rw [if_pos (by rw [decide_eq_true_eq]; omega)]
            · have := hall n (by omega) (by omega)
              rw [if_neg (by rw [decide_eq_true_eq]; omega)]
              exact ihn (by omega) (by omega)
        unfold ax_pri
        rw [hpd, hjx _ hs (Nat.le_refl _)]
        exact mulOk _ _ _ _ rfl (hN.ce k hk s (by omega)) (by omega) (by omega) (by omega) (by omega)
  (refine ax_run_T (ax_T_of M_Mo_priceOf rfl (Nat.le_of_ble_eq_true rfl) ?_))
  (repeat (first | refine w_iadd1 rfl ?_ | refine w_isub1 rfl ?_ | refine w_iinc1 rfl rfl ?_ | refine w_s rfl rfl ?_ | refine w_get rfl rfl rfl rfl ?_ | refine w_nnl rfl ?_ | refine w_nnlR rfl ?_ | refine w_nul rfl ?_ | refine w_nulR rfl ?_ | refine w_ldc rfl rfl ?_ | refine w_ldc2 rfl rfl ?_ | refine w_put rfl rfl rfl (Nat.le_of_ble_eq_true rfl) (Or.inl rfl) rfl rfl ?_))
  (refine w_cs rfl rfl (by first | decide | exact Nat.le_of_ble_eq_true rfl) (by exact Nat.le_of_ble_eq_true rfl) (n_place p k (by omega) (by omega)) ?_; dsimp only [Option.toList, List.drop, List.cons_append, List.nil_append])
  (repeat (first | refine w_iadd1 rfl ?_ | refine w_isub1 rfl ?_ | refine w_iinc1 rfl rfl ?_ | refine w_s rfl rfl ?_ | refine w_get rfl rfl rfl rfl ?_ | refine w_nnl rfl ?_ | refine w_nnlR rfl ?_ | refine w_nul rfl ?_ | refine w_nulR rfl ?_ | refine w_ldc rfl rfl ?_ | refine w_ldc2 rfl rfl ?_ | refine w_put rfl rfl rfl (Nat.le_of_ble_eq_true rfl) (Or.inl rfl) rfl rfl ?_))
  refine w_la (j := 64 * p + 16 * k + 6) rfl rfl (by (simp only [kb6, kb7, kb8, kb9, kb16, ki0, ki1, ki2, ki3, ki4, ki5, nI_addR, nI_mulR]; try (congr 1; omega))) (by omega) (by decide) ?_
  (repeat ((fail_if_success (show ax_wp _ _ _ 26 _ _ _)); (first | refine w_iadd1 rfl ?_ | refine w_isub1 rfl ?_ | refine w_iinc1 rfl rfl ?_ | refine w_s rfl rfl ?_ | refine w_get rfl rfl rfl rfl ?_ | refine w_nnl rfl ?_ | refine w_nnlR rfl ?_ | refine w_nul rfl ?_ | refine w_nulR rfl ?_ | refine w_ldc rfl rfl ?_ | refine w_ldc2 rfl rfl ?_ | refine w_put rfl rfl rfl (Nat.le_of_ble_eq_true rfl) (Or.inl rfl) rfl rfl ?_)))
  refine w_lv (lp (F.g k).st ((m.numbers (64 * p + 16 * k + 6)).toInt32 - Int32.ofInt 1) (Nat.le_refl _) (by rw [q_sub, q_l2i, q_ofI, hst]; omega) (fun i h1 h2 => absurd h2 (by omega))) rfl ⟨rfl, rfl, rfl, rfl, trivial⟩
end MF
