section MD
variable {L : Nat} {xs : Nat → Int32} {c : ax_St} {m : ax_Mo} {o : Nat → Int64} {pool : List (Option ax_C)} {u : Nat} {Q : ax_R → Prop} {i p B : Nat}
/-- a step's numbers are there: what is done with them -/
theorem rc_step (hu : m.units ≤ 400) (hB : B + 16 ≤ 960) (s : Nat) (hs : s < 1000) (b b' : Bool) (la fv cv : Nat) (hla : la < 10000000) (hfv : fv < 10000000) (hcv : cv < 10000000) (hb : b' = true ↔ b = true ∧ s < 4 ∧ la < fv ∧ fv ≤ 1000000 ∧ 1 ≤ cv ∧ cv ≤ 1000000) (a : Nat) (ha : a ≤ 1000) (w : Int32) (N : Nat → Int64)
    (K : ax_wp ax_run M_Mo_readClass Q 129 (lb i p B [(4, .int (bI (b' = true))), (5, .int (nI (s + 1))), (6, .long (Int64.ofNat fv)), (8, .int (bI (nx m.units m.text a = 44)))]) [] (ax_hp L xs c (ax_mu m a w (if b' = true then vp_updL (vp_updL N (B + (8 + 2 * s)) (Int64.ofNat fv)) (B + (9 + 2 * s)) (Int64.ofNat cv) else N)) o pool, u)) :
    ax_wp ax_run M_Mo_readClass Q 171 (lb i p B [(4, .int (bI (b = true))), (5, .int (nI s)), (6, .long (Int64.ofNat la)), (9, .long (Int64.ofNat fv)), (11, .long (Int64.ofNat cv))]) [] (ax_hp L xs c (ax_mu m a w N) o pool, u) := by
  have h_la := q_oN (v := la) (by omega)
  have h_fv := q_oN (v := fv) (by omega)
  have h_cv := q_oN (v := cv) (by omega)
  have e1 : ((1000000 : Int64)).toInt = 1000000 := rfl
  have e2 : ((Int64.ofNat 1)).toInt = 1 := rfl
  have e259 : ∀ N' : Nat → Int64, N' = (if b' = true then vp_updL (vp_updL N (B + (8 + 2 * s)) (Int64.ofNat fv)) (B + (9 + 2 * s)) (Int64.ofNat cv) else N) → ax_wp ax_run M_Mo_readClass Q 259 (lb i p B [(4, .int (bI (b' = true))), (5, .int (nI s)), (9, .long (Int64.ofNat fv))]) [] (ax_hp L xs c (ax_mu m a w N') o pool, u) := by
    intro N' hN'
    rw [← hN'] at K
    (repeat (first | refine w_iadd1 rfl ?_ | refine w_isub1 rfl ?_ | refine w_iinc1 rfl rfl ?_ | refine w_s rfl rfl ?_ | refine w_get rfl rfl rfl rfl ?_ | refine w_nnl rfl ?_ | refine w_nnlR rfl ?_ | refine w_nul rfl ?_ | refine w_nulR rfl ?_ | refine w_ldc rfl rfl ?_ | refine w_ldc2 rfl rfl ?_ | refine w_put rfl rfl rfl (Nat.le_of_ble_eq_true rfl) (Or.inl rfl) rfl rfl ?_))
    (refine w_cv rfl rfl rfl rfl (by exact Nat.le_of_ble_eq_true rfl) (by exact Nat.le_of_ble_eq_true rfl) (n_now hu a ha w N') ?_; dsimp only [Option.toList, List.drop, List.cons_append, List.nil_append, e_pl1, e_pl2, e_pl3])
    (repeat (first | refine w_iadd1 rfl ?_ | refine w_isub1 rfl ?_ | refine w_iinc1 rfl rfl ?_ | refine w_s rfl rfl ?_ | refine w_get rfl rfl rfl rfl ?_ | refine w_nnl rfl ?_ | refine w_nnlR rfl ?_ | refine w_nul rfl ?_ | refine w_nulR rfl ?_ | refine w_ldc rfl rfl ?_ | refine w_ldc2 rfl rfl ?_ | refine w_put rfl rfl rfl (Nat.le_of_ble_eq_true rfl) (Or.inl rfl) rfl rfl ?_))
    refine w_if2 rfl (fun h5 => ?_) (fun h5 => ?_)
    · rw [bI_f (P := nx m.units m.text a = 44) (show ¬ nx m.units m.text a = 44 from h5)] at K
      (repeat ((fail_if_success (show ax_wp _ _ _ 129 _ _ _)); (first | refine w_iadd1 rfl ?_ | refine w_isub1 rfl ?_ | refine w_iinc1 rfl rfl ?_ | refine w_s rfl rfl ?_ | refine w_get rfl rfl rfl rfl ?_ | refine w_nnl rfl ?_ | refine w_nnlR rfl ?_ | refine w_nul rfl ?_ | refine w_nulR rfl ?_ | refine w_ldc rfl rfl ?_ | refine w_ldc2 rfl rfl ?_ | refine w_put rfl rfl rfl (Nat.le_of_ble_eq_true rfl) (Or.inl rfl) rfl rfl ?_)))
      exact w_lv K rfl ⟨rfl, rfl, rfl, rfl, rfl, rfl, rfl, rfl, trivial⟩
    · have h6 : nx m.units m.text a = 44 := Decidable.not_not.mp h5
      rw [bI_t (P := nx m.units m.text a = 44) h6] at K
      (repeat ((fail_if_success (show ax_wp _ _ _ 129 _ _ _)); (first | refine w_iadd1 rfl ?_ | refine w_isub1 rfl ?_ | refine w_iinc1 rfl rfl ?_ | refine w_s rfl rfl ?_ | refine w_get rfl rfl rfl rfl ?_ | refine w_nnl rfl ?_ | refine w_nnlR rfl ?_ | refine w_nul rfl ?_ | refine w_nulR rfl ?_ | refine w_ldc rfl rfl ?_ | refine w_ldc2 rfl rfl ?_ | refine w_put rfl rfl rfl (Nat.le_of_ble_eq_true rfl) (Or.inl rfl) rfl rfl ?_)))
      exact w_lv K rfl ⟨rfl, rfl, rfl, rfl, rfl, rfl, rfl, rfl, trivial⟩
  have fin : ∀ g : Int32, g = bI (b' = true) → ax_wp ax_run M_Mo_readClass Q 222 (lb i p B [(4, .int g), (5, .int (nI s)), (9, .long (Int64.ofNat fv)), (11, .long (Int64.ofNat cv))]) [] (ax_hp L xs c (ax_mu m a w N) o pool, u) := by
    intro g hg
    subst hg
    (repeat (first | refine w_iadd1 rfl ?_ | refine w_isub1 rfl ?_ | refine w_iinc1 rfl rfl ?_ | refine w_s rfl rfl ?_ | refine w_get rfl rfl rfl rfl ?_ | refine w_nnl rfl ?_ | refine w_nnlR rfl ?_ | refine w_nul rfl ?_ | refine w_nulR rfl ?_ | refine w_ldc rfl rfl ?_ | refine w_ldc2 rfl rfl ?_ | refine w_put rfl rfl rfl (Nat.le_of_ble_eq_true rfl) (Or.inl rfl) rfl rfl ?_))
    by_cases hb1 : b' = true
    · have hs4 := (hb.mp hb1).2.1
      refine w_if1 rfl (fun h5 => absurd hb1 (c_eq0.mp h5)) (fun _ => ?_)
      (repeat (first | refine w_iadd1 rfl ?_ | refine w_isub1 rfl ?_ | refine w_iinc1 rfl rfl ?_ | refine w_s rfl rfl ?_ | refine w_get rfl rfl rfl rfl ?_ | refine w_nnl rfl ?_ | refine w_nnlR rfl ?_ | refine w_nul rfl ?_ | refine w_nulR rfl ?_ | refine w_ldc rfl rfl ?_ | refine w_ldc2 rfl rfl ?_ | refine w_put rfl rfl rfl (Nat.le_of_ble_eq_true rfl) (Or.inl rfl) rfl rfl ?_))
      refine w_las (j := B + (8 + 2 * s)) rfl rfl (by (simp only [kb6, kb7, kb8, kb9, kb16, ki0, ki1, ki2, ki3, ki4, ki5, nI_addR, nI_mulR]; try (congr 1; omega))) (by omega) (by decide) ?_
      (repeat (first | refine w_iadd1 rfl ?_ | refine w_isub1 rfl ?_ | refine w_iinc1 rfl rfl ?_ | refine w_s rfl rfl ?_ | refine w_get rfl rfl rfl rfl ?_ | refine w_nnl rfl ?_ | refine w_nnlR rfl ?_ | refine w_nul rfl ?_ | refine w_nulR rfl ?_ | refine w_ldc rfl rfl ?_ | refine w_ldc2 rfl rfl ?_ | refine w_put rfl rfl rfl (Nat.le_of_ble_eq_true rfl) (Or.inl rfl) rfl rfl ?_))
      refine w_las (j := B + (9 + 2 * s)) rfl rfl (by (simp only [kb6, kb7, kb8, kb9, kb16, ki0, ki1, ki2, ki3, ki4, ki5, nI_addR, nI_mulR]; try (congr 1; omega))) (by omega) (by decide) ?_
      exact w_lv (e259 _ (if_pos hb1).symm) rfl ⟨rfl, rfl, rfl, rfl, rfl, rfl, rfl, trivial⟩
    · refine w_if1 rfl (fun _ => ?_) (fun h5 => absurd (c_eq0.mpr hb1) h5)
      exact w_lv (e259 _ (if_neg hb1).symm) rfl ⟨rfl, rfl, rfl, rfl, rfl, rfl, rfl, trivial⟩
  have bad : ¬ b' = true → ax_wp ax_run M_Mo_readClass Q 219 (lb i p B [(5, .int (nI s)), (9, .long (Int64.ofNat fv)), (11, .long (Int64.ofNat cv))]) [] (ax_hp L xs c (ax_mu m a w N) o pool, u) := by
    intro hb0
    (repeat ((fail_if_success (show ax_wp _ _ _ 222 _ _ _)); (first | refine w_iadd1 rfl ?_ | refine w_isub1 rfl ?_ | refine w_iinc1 rfl rfl ?_ | refine w_s rfl rfl ?_ | refine w_get rfl rfl rfl rfl ?_ | refine w_nnl rfl ?_ | refine w_nnlR rfl ?_ | refine w_nul rfl ?_ | refine w_nulR rfl ?_ | refine w_ldc rfl rfl ?_ | refine w_ldc2 rfl rfl ?_ | refine w_put rfl rfl rfl (Nat.le_of_ble_eq_true rfl) (Or.inl rfl) rfl rfl ?_)))
    exact w_lv (fin (Int32.ofInt 0) (bI_f hb0).symm) rfl ⟨rfl, rfl, rfl, rfl, rfl, rfl, rfl, rfl, trivial⟩
  (repeat (first | refine w_iadd1 rfl ?_ | refine w_isub1 rfl ?_ | refine w_iinc1 rfl rfl ?_ | refine w_s rfl rfl ?_ | refine w_get rfl rfl rfl rfl ?_ | refine w_nnl rfl ?_ | refine w_nnlR rfl ?_ | refine w_nul rfl ?_ | refine w_nulR rfl ?_ | refine w_ldc rfl rfl ?_ | refine w_ldc2 rfl rfl ?_ | refine w_put rfl rfl rfl (Nat.le_of_ble_eq_true rfl) (Or.inl rfl) rfl rfl ?_))
  refine w_if1 rfl (fun h5 => ?_) (fun h5 => ?_)
  · have h6 : ¬ b = true := c_eq0.mp h5
    exact w_lv (bad (fun z => h6 (hb.mp z).1)) rfl ⟨rfl, rfl, rfl, rfl, rfl, rfl, rfl, trivial⟩
  have h6 : b = true := Decidable.not_not.mp (fun z => h5 (c_eq0.mpr z))
  clear h5
  (repeat (first | refine w_iadd1 rfl ?_ | refine w_isub1 rfl ?_ | refine w_iinc1 rfl rfl ?_ | refine w_s rfl rfl ?_ | refine w_get rfl rfl rfl rfl ?_ | refine w_nnl rfl ?_ | refine w_nnlR rfl ?_ | refine w_nul rfl ?_ | refine w_nulR rfl ?_ | refine w_ldc rfl rfl ?_ | refine w_ldc2 rfl rfl ?_ | refine w_put rfl rfl rfl (Nat.le_of_ble_eq_true rfl) (Or.inl rfl) rfl rfl ?_))
  refine w_if2 rfl (fun h5 => ?_) (fun h5 => ?_)
  · have h7 := (cn_ge (a := s) (b := 4) (by omega) (by omega)).mp h5
    exact w_lv (bad (fun z => by have := (hb.mp z).2.1; omega)) rfl ⟨rfl, rfl, rfl, rfl, rfl, rfl, rfl, trivial⟩
  have g1' : ¬ 4 ≤ s := fun z => h5 ((cn_ge (a := s) (b := 4) (by omega) (by omega)).mpr z)
  clear h5
  (repeat (first | refine w_iadd1 rfl ?_ | refine w_isub1 rfl ?_ | refine w_iinc1 rfl rfl ?_ | refine w_s rfl rfl ?_ | refine w_get rfl rfl rfl rfl ?_ | refine w_nnl rfl ?_ | refine w_nnlR rfl ?_ | refine w_nul rfl ?_ | refine w_nulR rfl ?_ | refine w_ldc rfl rfl ?_ | refine w_ldc2 rfl rfl ?_ | refine w_put rfl rfl rfl (Nat.le_of_ble_eq_true rfl) (Or.inl rfl) rfl rfl ?_))
  refine w_if1 rfl (fun h5 => ?_) (fun h5 => ?_)
  · have h7 : (Int64.ofNat fv).toInt ≤ (Int64.ofNat la).toInt := c_Lle.mp h5
    rw [h_fv, h_la] at h7
    exact w_lv (bad (fun z => by have := (hb.mp z).2.2.1; omega)) rfl ⟨rfl, rfl, rfl, rfl, rfl, rfl, rfl, trivial⟩
  have g2 : ¬ (Int64.ofNat fv).toInt ≤ (Int64.ofNat la).toInt := fun z => h5 (c_Lle.mpr z)
  rw [h_fv, h_la] at g2
  clear h5
  (repeat (first | refine w_iadd1 rfl ?_ | refine w_isub1 rfl ?_ | refine w_iinc1 rfl rfl ?_ | refine w_s rfl rfl ?_ | refine w_get rfl rfl rfl rfl ?_ | refine w_nnl rfl ?_ | refine w_nnlR rfl ?_ | refine w_nul rfl ?_ | refine w_nulR rfl ?_ | refine w_ldc rfl rfl ?_ | refine w_ldc2 rfl rfl ?_ | refine w_put rfl rfl rfl (Nat.le_of_ble_eq_true rfl) (Or.inl rfl) rfl rfl ?_))
  refine w_if1 rfl (fun h5 => ?_) (fun h5 => ?_)
  · have h7 : ((1000000 : Int64)).toInt < (Int64.ofNat fv).toInt := c_Lgt.mp h5
    rw [h_fv, e1] at h7
    exact w_lv (bad (fun z => by have := (hb.mp z).2.2.2.1; omega)) rfl ⟨rfl, rfl, rfl, rfl, rfl, rfl, rfl, trivial⟩
  have g3 : ¬ ((1000000 : Int64)).toInt < (Int64.ofNat fv).toInt := fun z => h5 (c_Lgt.mpr z)
  rw [h_fv, e1] at g3
  clear h5
  (repeat (first | refine w_iadd1 rfl ?_ | refine w_isub1 rfl ?_ | refine w_iinc1 rfl rfl ?_ | refine w_s rfl rfl ?_ | refine w_get rfl rfl rfl rfl ?_ | refine w_nnl rfl ?_ | refine w_nnlR rfl ?_ | refine w_nul rfl ?_ | refine w_nulR rfl ?_ | refine w_ldc rfl rfl ?_ | refine w_ldc2 rfl rfl ?_ | refine w_put rfl rfl rfl (Nat.le_of_ble_eq_true rfl) (Or.inl rfl) rfl rfl ?_))
  refine w_if1 rfl (fun h5 => ?_) (fun h5 => ?_)
  · have h7 : (Int64.ofNat cv).toInt < (Int64.ofNat 1).toInt := c_Llt.mp h5
    rw [h_cv, e2] at h7
    exact w_lv (bad (fun z => by have := (hb.mp z).2.2.2.2.1; omega)) rfl ⟨rfl, rfl, rfl, rfl, rfl, rfl, rfl, trivial⟩
  have g4 : ¬ (Int64.ofNat cv).toInt < (Int64.ofNat 1).toInt := fun z => h5 (c_Llt.mpr z)
  rw [h_cv, e2] at g4
  clear h5
  (repeat (first | refine w_iadd1 rfl ?_ | refine w_isub1 rfl ?_ | refine w_iinc1 rfl rfl ?_ | refine w_s rfl rfl ?_ | refine w_get rfl rfl rfl rfl ?_ | refine w_nnl rfl ?_ | refine w_nnlR rfl ?_ | refine w_nul rfl ?_ | refine w_nulR rfl ?_ | refine w_ldc rfl rfl ?_ | refine w_ldc2 rfl rfl ?_ | refine w_put rfl rfl rfl (Nat.le_of_ble_eq_true rfl) (Or.inl rfl) rfl rfl ?_))
  refine w_if1 rfl (fun h5 => ?_) (fun h5 => ?_)
  · have h7 : ((1000000 : Int64)).toInt < (Int64.ofNat cv).toInt := c_Lgt.mp h5
    rw [h_cv, e1] at h7
    exact w_lv (bad (fun z => by have := (hb.mp z).2.2.2.2.2; omega)) rfl ⟨rfl, rfl, rfl, rfl, rfl, rfl, rfl, trivial⟩
  have g5 : ¬ ((1000000 : Int64)).toInt < (Int64.ofNat cv).toInt := fun z => h5 (c_Lgt.mpr z)
  rw [h_cv, e1] at g5
  clear h5
  (repeat ((fail_if_success (show ax_wp _ _ _ 222 _ _ _)); (first | refine w_iadd1 rfl ?_ | refine w_isub1 rfl ?_ | refine w_iinc1 rfl rfl ?_ | refine w_s rfl rfl ?_ | refine w_get rfl rfl rfl rfl ?_ | refine w_nnl rfl ?_ | refine w_nnlR rfl ?_ | refine w_nul rfl ?_ | refine w_nulR rfl ?_ | refine w_ldc rfl rfl ?_ | refine w_ldc2 rfl rfl ?_ | refine w_put rfl rfl rfl (Nat.le_of_ble_eq_true rfl) (Or.inl rfl) rfl rfl ?_)))
  exact w_lv (fin (Int32.ofInt 1) (bI_t (hb.mpr ⟨h6, by omega, by omega, by omega, by omega, by omega⟩)).symm) rfl ⟨rfl, rfl, rfl, rfl, rfl, rfl, rfl, rfl, trivial⟩
theorem lo_if2 {N0 N : Nat → Int64} {y y' : Nat} {z z' : Int64} {g : Prop} [Decidable g] (h : ∀ x, x < B → N x = N0 x) (hy : B ≤ y) (hy' : B ≤ y') : ∀ x, x < B → (if g then vp_updL (vp_updL N y z) y' z' else N) x = N0 x := by
  intro x hx
  split
  · exact lo_up (lo_up h hy) hy' x hx
  · exact h x hx
theorem rc_d171 {N0 : Nat → Int64} (hu : m.units ≤ 400) (hB : B + 16 ≤ 960) (s : Nat) (hs : s < 1000) (b : Bool) (la fv cv : Nat) (hla : la < 10000000) (hfv : fv < 10000000) (hcv : cv < 10000000) (a : Nat) (ha : a ≤ 1000) (w : Int32) (hw : ¬ w = Int32.ofInt (-1)) (N : Nat → Int64) (hN : ∀ x, x < B → N x = N0 x)
    (K : ∀ (N'' : Nat → Int64) (g : Int32), (∀ x, x < B → N'' x = N0 x) → ax_wp ax_run M_Mo_readClass Q 285 [(0, .ref 23), (4, .int g)] [] (ax_hp L xs c (ax_mu m a w N'') o pool, u)) :
    ax_wp ax_run M_Mo_readClass Q 171 (lb i p B [(4, .int (bI (b = true))), (5, .int (nI s)), (6, .long (Int64.ofNat la)), (9, .long (Int64.ofNat fv)), (11, .long (Int64.ofNat cv))]) [] (ax_hp L xs c (ax_mu m a w N) o pool, u) := by
  refine rc_step hu hB s hs b (decide (b = true ∧ s < 4 ∧ la < fv ∧ fv ≤ 1000000 ∧ 1 ≤ cv ∧ cv ≤ 1000000)) la fv cv hla hfv hcv (by rw [decide_eq_true_eq]) a ha w N ?_
  refine w_lv (rc_d129 a w hw _ _ (K _ _ (lo_if2 hN (by omega) (by omega)))) rfl ⟨rfl, rfl, trivial⟩
theorem rc_steps {N0 : Nat → Int64} {g0 : Prop} {l : Nat → Nat} (hu : m.units ≤ 400) (hB : B + 16 ≤ 960) :
    ∀ (k s q la : Nat) (fr ce : Nat → Nat) (b : Bool) (N : Nat → Int64), s + k = 101 → 4 * s ≤ q → q ≤ m.units → (∀ j, j < s → fr j < 10000000) → la = (if s = 0 then 0 else fr (s - 1)) → (b = true ↔ stok g0 fr ce s) → (∀ x, x < B → N x = N0 x) → (i < 4 → ∀ x, x < 6 → (N (B + x)).toInt = l x) → (stok g0 fr ce s → ∀ j, j < s → (N (B + (8 + 2 * j))).toInt = fr j ∧ (N (B + (9 + 2 * j))).toInt = ce j) →
      (match rs m.units m.text k s q fr ce with
        | .inl e => ∀ (a : Nat) (N'' : Nat → Int64) (g : Int32), (∀ x, x < B → N'' x = N0 x) → ax_wp ax_run M_Mo_readClass Q 285 [(0, .ref 23), (4, .int g)] [] (ax_hp L xs c (ax_mu m a (nI e) N'') o pool, u)
        | .inr (q', s', fr', ce') => ∀ (b : Bool) (N'' : Nat → Int64), s' ≤ 101 → (b = true ↔ stok g0 fr' ce' s') → (∀ x, x < B → N'' x = N0 x) → (i < 4 → ∀ x, x < 6 → (N'' (B + x)).toInt = l x) → (stok g0 fr' ce' s' → ∀ j, j < s' → (N'' (B + (8 + 2 * j))).toInt = fr' j ∧ (N'' (B + (9 + 2 * j))).toInt = ce' j) → ax_wp ax_run M_Mo_readClass Q 285 (lb i p B [(4, .int (bI (b = true))), (5, .int (nI s'))]) [] (ax_hp L xs c (ax_mu m q' (Int32.ofInt (-1)) N'') o pool, u)) →
      ax_wp ax_run M_Mo_readClass Q 153 (lb i p B [(4, .int (bI (b = true))), (5, .int (nI s)), (6, .long (Int64.ofNat la))]) [] (ax_hp L xs c (ax_mu m q (Int32.ofInt (-1)) N) o pool, u) := by
  intro k
  induction k with
  | zero => intro s q la fr ce b N hs h4 hq; omega
  | succ k ih =>
    intro s q la fr ce b N hs h4 hq hraw hla hb hlo hlm hst K
    have hla7 : la < 10000000 := by
      rw [hla]
      by_cases z : s = 0
      · rw [if_pos z]; omega
      · rw [if_neg z]; exact hraw (s - 1) (by omega)
    have hwn := wd_n (f := m.text) hq
    have hvl := wv_lt m.units m.text q
    (repeat (first | refine w_iadd1 rfl ?_ | refine w_isub1 rfl ?_ | refine w_iinc1 rfl rfl ?_ | refine w_s rfl rfl ?_ | refine w_get rfl rfl rfl rfl ?_ | refine w_nnl rfl ?_ | refine w_nnlR rfl ?_ | refine w_nul rfl ?_ | refine w_nulR rfl ?_ | refine w_ldc rfl rfl ?_ | refine w_ldc2 rfl rfl ?_ | refine w_put rfl rfl rfl (Nat.le_of_ble_eq_true rfl) (Or.inl rfl) rfl rfl ?_))
    (refine w_cv rfl rfl rfl rfl (by exact Nat.le_of_ble_eq_true rfl) (by exact Nat.le_of_ble_eq_true rfl) (n_wholeL hu q hq N) ?_; dsimp only [Option.toList, List.drop, List.cons_append, List.nil_append, e_pl1, e_pl2, e_pl3])
    by_cases hw1 : wok m.units m.text q
    · rw [if_pos hw1]
      (repeat (first | refine w_iadd1 rfl ?_ | refine w_isub1 rfl ?_ | refine w_iinc1 rfl rfl ?_ | refine w_s rfl rfl ?_ | refine w_get rfl rfl rfl rfl ?_ | refine w_nnl rfl ?_ | refine w_nnlR rfl ?_ | refine w_nul rfl ?_ | refine w_nulR rfl ?_ | refine w_ldc rfl rfl ?_ | refine w_ldc2 rfl rfl ?_ | refine w_put rfl rfl rfl (Nat.le_of_ble_eq_true rfl) (Or.inl rfl) rfl rfl ?_))
      by_cases h64 : nx m.units m.text (q + wd m.units m.text q) = 64
      · have hlt := nx_lt h64 (by decide)
        (refine w_cv rfl rfl rfl rfl (by exact Nat.le_of_ble_eq_true rfl) (by exact Nat.le_of_ble_eq_true rfl) (n_expect1 hu (q + wd m.units m.text q) (by omega) N (Int8.ofInt 64).toInt32 h64) ?_; dsimp only [Option.toList, List.drop, List.cons_append, List.nil_append, e_pl1, e_pl2, e_pl3])
        have hwd1 := hw1.1
        have hq2 : q + wd m.units m.text q + 1 ≤ m.units := by omega
        have hge : q + 2 ≤ q + wd m.units m.text q + 1 := by omega
        have hK : rs m.units m.text (k + 1) s q fr ce = if ¬ wok m.units m.text (q + wd m.units m.text q + 1) then .inl (q + wd m.units m.text q + 1 + wd m.units m.text (q + wd m.units m.text q + 1)) else if nx m.units m.text (q + wd m.units m.text q + 1 + wd m.units m.text (q + wd m.units m.text q + 1)) = 44 then rs m.units m.text k (s + 1) (q + wd m.units m.text q + 1 + wd m.units m.text (q + wd m.units m.text q + 1) + 1) (va_up fr s (wv m.units m.text q)) (va_up ce s (wv m.units m.text (q + wd m.units m.text q + 1)))
            else .inr (q + wd m.units m.text q + 1 + wd m.units m.text (q + wd m.units m.text q + 1), s + 1, va_up fr s (wv m.units m.text q), va_up ce s (wv m.units m.text (q + wd m.units m.text q + 1))) := by
          show (if ¬ wok m.units m.text q then _ else _) = _
          rw [if_neg (fun z => z hw1), if_neg (fun z => z h64)]
        rw [hK] at K
        clear hK
        generalize wv m.units m.text q = v1 at *
        generalize q + wd m.units m.text q + 1 = q2 at *
        have hw2n := wd_n (f := m.text) hq2
        have hv2 := wv_lt m.units m.text q2
        (repeat (first | refine w_iadd1 rfl ?_ | refine w_isub1 rfl ?_ | refine w_iinc1 rfl rfl ?_ | refine w_s rfl rfl ?_ | refine w_get rfl rfl rfl rfl ?_ | refine w_nnl rfl ?_ | refine w_nnlR rfl ?_ | refine w_nul rfl ?_ | refine w_nulR rfl ?_ | refine w_ldc rfl rfl ?_ | refine w_ldc2 rfl rfl ?_ | refine w_put rfl rfl rfl (Nat.le_of_ble_eq_true rfl) (Or.inl rfl) rfl rfl ?_))
        (refine w_cv rfl rfl rfl rfl (by exact Nat.le_of_ble_eq_true rfl) (by exact Nat.le_of_ble_eq_true rfl) (n_wholeL hu q2 hq2 N) ?_; dsimp only [Option.toList, List.drop, List.cons_append, List.nil_append, e_pl1, e_pl2, e_pl3])
        by_cases hw2 : wok m.units m.text q2
        · rw [if_neg (fun z => z hw2)] at K
          rw [if_pos hw2]
          have hwd2 := hw2.1
          have hge2 : q + 3 ≤ q2 + wd m.units m.text q2 := by omega
          generalize wv m.units m.text q2 = v2 at *
          generalize q2 + wd m.units m.text q2 = q3 at *
          (repeat ((fail_if_success (show ax_wp _ _ _ 171 _ _ _)); (first | refine w_iadd1 rfl ?_ | refine w_isub1 rfl ?_ | refine w_iinc1 rfl rfl ?_ | refine w_s rfl rfl ?_ | refine w_get rfl rfl rfl rfl ?_ | refine w_nnl rfl ?_ | refine w_nnlR rfl ?_ | refine w_nul rfl ?_ | refine w_nulR rfl ?_ | refine w_ldc rfl rfl ?_ | refine w_ldc2 rfl rfl ?_ | refine w_put rfl rfl rfl (Nat.le_of_ble_eq_true rfl) (Or.inl rfl) rfl rfl ?_)))
          have hcond : (b = true ∧ s < 4 ∧ la < v1 ∧ v1 ≤ 1000000 ∧ 1 ≤ v2 ∧ v2 ≤ 1000000) ↔ stok g0 (va_up fr s v1) (va_up ce s v2) (s + 1) := by
            rw [stok_up, hb]
            unfold sok
            rw [va_up_self, va_up_self, hla]
            by_cases z : s = 0
            · rw [if_pos z, if_pos z]
            · rw [if_neg z, if_neg z, va_up_ne _ _ (by omega)]
          have hb' : decide (b = true ∧ s < 4 ∧ la < v1 ∧ v1 ≤ 1000000 ∧ 1 ≤ v2 ∧ v2 ≤ 1000000) = true ↔ stok g0 (va_up fr s v1) (va_up ce s v2) (s + 1) := by rw [decide_eq_true_eq]; exact hcond
          generalize hbb : decide (b = true ∧ s < 4 ∧ la < v1 ∧ v1 ≤ 1000000 ∧ 1 ≤ v2 ∧ v2 ≤ 1000000) = b' at hb'
          have hbi : b' = true ↔ b = true ∧ s < 4 ∧ la < v1 ∧ v1 ≤ 1000000 ∧ 1 ≤ v2 ∧ v2 ≤ 1000000 := by rw [← hbb, decide_eq_true_eq]
          have hraw' : ∀ j, j < s + 1 → va_up fr s v1 j < 10000000 := by
            intro j hj
            by_cases hjs : j = s
            · rw [hjs, va_up_self]; exact hvl
            · rw [va_up_ne _ _ hjs]; exact hraw j (by omega)
          have hlo' := lo_if2 (g := b' = true) (z := Int64.ofNat v1) (z' := Int64.ofNat v2) hlo (show B ≤ B + (8 + 2 * s) by omega) (show B ≤ B + (9 + 2 * s) by omega)
          have hlm' : i < 4 → ∀ x, x < 6 → ((if b' = true then vp_updL (vp_updL N (B + (8 + 2 * s)) (Int64.ofNat v1)) (B + (9 + 2 * s)) (Int64.ofNat v2) else N) (B + x)).toInt = l x := by
            intro hi4 x hx
            split
            · unfold vp_updL
              rw [if_neg (by omega), if_neg (by omega)]
              exact hlm hi4 x hx
            · exact hlm hi4 x hx
          have hst' : stok g0 (va_up fr s v1) (va_up ce s v2) (s + 1) → ∀ j, j < s + 1 → ((if b' = true then vp_updL (vp_updL N (B + (8 + 2 * s)) (Int64.ofNat v1)) (B + (9 + 2 * s)) (Int64.ofNat v2) else N) (B + (8 + 2 * j))).toInt = va_up fr s v1 j ∧ ((if b' = true then vp_updL (vp_updL N (B + (8 + 2 * s)) (Int64.ofNat v1)) (B + (9 + 2 * s)) (Int64.ofNat v2) else N) (B + (9 + 2 * j))).toInt = va_up ce s v2 j := by
            intro hg j hj
            rw [if_pos (hb'.mpr hg)]
            unfold vp_updL
            by_cases hjs : j = s
            · subst hjs
              rw [if_neg (by omega), if_pos rfl, if_pos rfl, va_up_self, va_up_self]
              exact ⟨q_oN (by omega), q_oN (by omega)⟩
            · rw [if_neg (by omega), if_neg (by omega), if_neg (by omega), if_neg (by omega), va_up_ne _ _ hjs, va_up_ne _ _ hjs]
              exact hst (stok_up.mp hg).1 j (by omega)
          refine w_lv (rc_step hu hB s (by omega) b b' la v1 v2 hla7 hvl hv2 hbi q3 (by omega) (Int32.ofInt (-1)) N ?_) rfl ⟨rfl, rfl, rfl, rfl, rfl, rfl, rfl, rfl, rfl, trivial⟩
          (repeat (first | refine w_iadd1 rfl ?_ | refine w_isub1 rfl ?_ | refine w_iinc1 rfl rfl ?_ | refine w_s rfl rfl ?_ | refine w_get rfl rfl rfl rfl ?_ | refine w_nnl rfl ?_ | refine w_nnlR rfl ?_ | refine w_nul rfl ?_ | refine w_nulR rfl ?_ | refine w_ldc rfl rfl ?_ | refine w_ldc2 rfl rfl ?_ | refine w_put rfl rfl rfl (Nat.le_of_ble_eq_true rfl) (Or.inl rfl) rfl rfl ?_))
          refine w_if2 rfl (fun h5 => absurd rfl h5) (fun _ => ?_)
          (repeat (first | refine w_iadd1 rfl ?_ | refine w_isub1 rfl ?_ | refine w_iinc1 rfl rfl ?_ | refine w_s rfl rfl ?_ | refine w_get rfl rfl rfl rfl ?_ | refine w_nnl rfl ?_ | refine w_nnlR rfl ?_ | refine w_nul rfl ?_ | refine w_nulR rfl ?_ | refine w_ldc rfl rfl ?_ | refine w_ldc2 rfl rfl ?_ | refine w_put rfl rfl rfl (Nat.le_of_ble_eq_true rfl) (Or.inl rfl) rfl rfl ?_))
          by_cases h44 : nx m.units m.text q3 = 44
          · rw [if_pos h44] at K
            have hlt3 := nx_lt h44 (by decide)
            refine w_if1 rfl (fun h5 => absurd h44 (c_eq0.mp h5)) (fun _ => ?_)
            (repeat (first | refine w_iadd1 rfl ?_ | refine w_isub1 rfl ?_ | refine w_iinc1 rfl rfl ?_ | refine w_s rfl rfl ?_ | refine w_get rfl rfl rfl rfl ?_ | refine w_nnl rfl ?_ | refine w_nnlR rfl ?_ | refine w_nul rfl ?_ | refine w_nulR rfl ?_ | refine w_ldc rfl rfl ?_ | refine w_ldc2 rfl rfl ?_ | refine w_put rfl rfl rfl (Nat.le_of_ble_eq_true rfl) (Or.inl rfl) rfl rfl ?_))
            refine w_if1 rfl (fun h5 => absurd (Int32.le_iff_toInt_le.mp (show nI (s + 1) ≤ 0 from h5)) (by rw [q_nI' (by omega)]; show ¬ ((s + 1 : Nat) : Int) ≤ 0; omega)) (fun _ => ?_)
            (repeat (first | refine w_iadd1 rfl ?_ | refine w_isub1 rfl ?_ | refine w_iinc1 rfl rfl ?_ | refine w_s rfl rfl ?_ | refine w_get rfl rfl rfl rfl ?_ | refine w_nnl rfl ?_ | refine w_nnlR rfl ?_ | refine w_nul rfl ?_ | refine w_nulR rfl ?_ | refine w_ldc rfl rfl ?_ | refine w_ldc2 rfl rfl ?_ | refine w_put rfl rfl rfl (Nat.le_of_ble_eq_true rfl) (Or.inl rfl) rfl rfl ?_))
            (refine w_cv rfl rfl rfl rfl (by exact Nat.le_of_ble_eq_true rfl) (by exact Nat.le_of_ble_eq_true rfl) (n_expect1 hu q3 (by omega) _ (Int8.ofInt 44).toInt32 h44) ?_; dsimp only [Option.toList, List.drop, List.cons_append, List.nil_append, e_pl1, e_pl2, e_pl3])
            exact w_lv (ih (s + 1) (q3 + 1) v1 _ _ b' _ (by omega) (by omega) (by omega) hraw' (by rw [if_neg (by omega), show s + 1 - 1 = s by omega, va_up_self]) hb' hlo' hlm' hst' K) rfl ⟨rfl, rfl, rfl, rfl, rfl, rfl, rfl, trivial⟩
          · rw [if_neg h44] at K
            have K' : ∀ (b : Bool) (N'' : Nat → Int64), s + 1 ≤ 101 → (b = true ↔ stok g0 (va_up fr s v1) (va_up ce s v2) (s + 1)) → (∀ x, x < B → N'' x = N0 x) → (i < 4 → ∀ x, x < 6 → (N'' (B + x)).toInt = l x) → (stok g0 (va_up fr s v1) (va_up ce s v2) (s + 1) → ∀ j, j < s + 1 → (N'' (B + (8 + 2 * j))).toInt = va_up fr s v1 j ∧ (N'' (B + (9 + 2 * j))).toInt = va_up ce s v2 j) → ax_wp ax_run M_Mo_readClass Q 285 (lb i p B [(4, .int (bI (b = true))), (5, .int (nI (s + 1)))]) [] (ax_hp L xs c (ax_mu m q3 (Int32.ofInt (-1)) N'') o pool, u) := K
            refine w_if1 rfl (fun _ => ?_) (fun h5 => absurd (c_eq0.mpr h44) h5)
            exact w_lv (K' b' _ (by omega) hb' hlo' hlm' hst') rfl ⟨rfl, rfl, rfl, rfl, rfl, rfl, trivial⟩
        · rw [if_pos hw2] at K
          rw [if_neg hw2]
          have K' : ∀ (a : Nat) (N'' : Nat → Int64) (g : Int32), (∀ x, x < B → N'' x = N0 x) → ax_wp ax_run M_Mo_readClass Q 285 [(0, .ref 23), (4, .int g)] [] (ax_hp L xs c (ax_mu m a (nI (q2 + wd m.units m.text q2)) N'') o pool, u) := K
          (repeat ((fail_if_success (show ax_wp _ _ _ 171 _ _ _)); (first | refine w_iadd1 rfl ?_ | refine w_isub1 rfl ?_ | refine w_iinc1 rfl rfl ?_ | refine w_s rfl rfl ?_ | refine w_get rfl rfl rfl rfl ?_ | refine w_nnl rfl ?_ | refine w_nnlR rfl ?_ | refine w_nul rfl ?_ | refine w_nulR rfl ?_ | refine w_ldc rfl rfl ?_ | refine w_ldc2 rfl rfl ?_ | refine w_put rfl rfl rfl (Nat.le_of_ble_eq_true rfl) (Or.inl rfl) rfl rfl ?_)))
          exact w_lv (rc_d171 hu hB s (by omega) b la v1 (wv m.units m.text q2) hla7 hvl hv2 _ (by omega) _ (nI_ne (by omega)) N hlo (fun N'' g h => K' _ N'' g h)) rfl ⟨rfl, rfl, rfl, rfl, rfl, rfl, rfl, rfl, rfl, trivial⟩
      · (refine w_cv rfl rfl rfl rfl (by exact Nat.le_of_ble_eq_true rfl) (by exact Nat.le_of_ble_eq_true rfl) (n_expect0 hu (q + wd m.units m.text q) (by omega) N (Int8.ofInt 64).toInt32 h64) ?_; dsimp only [Option.toList, List.drop, List.cons_append, List.nil_append, e_pl1, e_pl2, e_pl3])
        have hK : rs m.units m.text (k + 1) s q fr ce = .inl (q + wd m.units m.text q) := by
          show (if ¬ wok m.units m.text q then _ else _) = _
          rw [if_neg (fun z => z hw1), if_pos h64]
        rw [hK] at K
        have K' : ∀ (a : Nat) (N'' : Nat → Int64) (g : Int32), (∀ x, x < B → N'' x = N0 x) → ax_wp ax_run M_Mo_readClass Q 285 [(0, .ref 23), (4, .int g)] [] (ax_hp L xs c (ax_mu m a (nI (q + wd m.units m.text q)) N'') o pool, u) := K
        (repeat (first | refine w_iadd1 rfl ?_ | refine w_isub1 rfl ?_ | refine w_iinc1 rfl rfl ?_ | refine w_s rfl rfl ?_ | refine w_get rfl rfl rfl rfl ?_ | refine w_nnl rfl ?_ | refine w_nnlR rfl ?_ | refine w_nul rfl ?_ | refine w_nulR rfl ?_ | refine w_ldc rfl rfl ?_ | refine w_ldc2 rfl rfl ?_ | refine w_put rfl rfl rfl (Nat.le_of_ble_eq_true rfl) (Or.inl rfl) rfl rfl ?_))
        (refine w_cv rfl rfl rfl rfl (by exact Nat.le_of_ble_eq_true rfl) (by exact Nat.le_of_ble_eq_true rfl) (n_wholeD (q + wd m.units m.text q) (nI (q + wd m.units m.text q)) (nI_ne (by omega)) N) ?_; dsimp only [Option.toList, List.drop, List.cons_append, List.nil_append, e_pl1, e_pl2, e_pl3])
        (repeat ((fail_if_success (show ax_wp _ _ _ 171 _ _ _)); (first | refine w_iadd1 rfl ?_ | refine w_isub1 rfl ?_ | refine w_iinc1 rfl rfl ?_ | refine w_s rfl rfl ?_ | refine w_get rfl rfl rfl rfl ?_ | refine w_nnl rfl ?_ | refine w_nnlR rfl ?_ | refine w_nul rfl ?_ | refine w_nulR rfl ?_ | refine w_ldc rfl rfl ?_ | refine w_ldc2 rfl rfl ?_ | refine w_put rfl rfl rfl (Nat.le_of_ble_eq_true rfl) (Or.inl rfl) rfl rfl ?_)))
        exact w_lv (rc_d171 hu hB s (by omega) b la (wv m.units m.text q) 0 hla7 hvl (by omega) _ (by omega) _ (nI_ne (by omega)) N hlo (fun N'' g h => K' _ N'' g h)) rfl ⟨rfl, rfl, rfl, rfl, rfl, rfl, rfl, rfl, rfl, trivial⟩
    · rw [if_neg hw1]
      have hK : rs m.units m.text (k + 1) s q fr ce = .inl (q + wd m.units m.text q) := if_pos hw1
      rw [hK] at K
      have K' : ∀ (a : Nat) (N'' : Nat → Int64) (g : Int32), (∀ x, x < B → N'' x = N0 x) → ax_wp ax_run M_Mo_readClass Q 285 [(0, .ref 23), (4, .int g)] [] (ax_hp L xs c (ax_mu m a (nI (q + wd m.units m.text q)) N'') o pool, u) := K
      (repeat (first | refine w_iadd1 rfl ?_ | refine w_isub1 rfl ?_ | refine w_iinc1 rfl rfl ?_ | refine w_s rfl rfl ?_ | refine w_get rfl rfl rfl rfl ?_ | refine w_nnl rfl ?_ | refine w_nnlR rfl ?_ | refine w_nul rfl ?_ | refine w_nulR rfl ?_ | refine w_ldc rfl rfl ?_ | refine w_ldc2 rfl rfl ?_ | refine w_put rfl rfl rfl (Nat.le_of_ble_eq_true rfl) (Or.inl rfl) rfl rfl ?_))
      (refine w_cv rfl rfl rfl rfl (by exact Nat.le_of_ble_eq_true rfl) (by exact Nat.le_of_ble_eq_true rfl) (n_expectD (q + wd m.units m.text q) (nI (q + wd m.units m.text q)) (nI_ne (by omega)) N _) ?_; dsimp only [Option.toList, List.drop, List.cons_append, List.nil_append, e_pl1, e_pl2, e_pl3])
      (repeat (first | refine w_iadd1 rfl ?_ | refine w_isub1 rfl ?_ | refine w_iinc1 rfl rfl ?_ | refine w_s rfl rfl ?_ | refine w_get rfl rfl rfl rfl ?_ | refine w_nnl rfl ?_ | refine w_nnlR rfl ?_ | refine w_nul rfl ?_ | refine w_nulR rfl ?_ | refine w_ldc rfl rfl ?_ | refine w_ldc2 rfl rfl ?_ | refine w_put rfl rfl rfl (Nat.le_of_ble_eq_true rfl) (Or.inl rfl) rfl rfl ?_))
      (refine w_cv rfl rfl rfl rfl (by exact Nat.le_of_ble_eq_true rfl) (by exact Nat.le_of_ble_eq_true rfl) (n_wholeD (q + wd m.units m.text q) (nI (q + wd m.units m.text q)) (nI_ne (by omega)) N) ?_; dsimp only [Option.toList, List.drop, List.cons_append, List.nil_append, e_pl1, e_pl2, e_pl3])
      (repeat ((fail_if_success (show ax_wp _ _ _ 171 _ _ _)); (first | refine w_iadd1 rfl ?_ | refine w_isub1 rfl ?_ | refine w_iinc1 rfl rfl ?_ | refine w_s rfl rfl ?_ | refine w_get rfl rfl rfl rfl ?_ | refine w_nnl rfl ?_ | refine w_nnlR rfl ?_ | refine w_nul rfl ?_ | refine w_nulR rfl ?_ | refine w_ldc rfl rfl ?_ | refine w_ldc2 rfl rfl ?_ | refine w_put rfl rfl rfl (Nat.le_of_ble_eq_true rfl) (Or.inl rfl) rfl rfl ?_)))
      exact w_lv (rc_d171 hu hB s (by omega) b la (wv m.units m.text q) 0 hla7 hvl (by omega) _ (by omega) _ (nI_ne (by omega)) N hlo (fun N'' g h => K' _ N'' g h)) rfl ⟨rfl, rfl, rfl, rfl, rfl, rfl, rfl, rfl, rfl, trivial⟩
end MD
