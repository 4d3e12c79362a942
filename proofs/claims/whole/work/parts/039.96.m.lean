/-! the reference reads one CLASS -/
abbrev lb (i p B : Nat) (l : ax_L) : ax_L := (0, .ref 23) :: (1, .int (nI i)) :: (2, .int (nI p)) :: (3, .int (nI B)) :: l
theorem q_oN {v : Nat} (hv : v < 1000000000) : (Int64.ofNat v).toInt = v := by
  rw [q_ofNL]
  omega
section MC
variable {L : Nat} {xs : Nat → Int32} {c : ax_St} {m : ax_Mo} {o : Nat → Int64} {pool : List (Option ax_C)} {u : Nat} {Q : ax_R → Prop} {i p B : Nat}
theorem rc_d303 (a : Nat) (w : Int32) (hw : ¬ w = Int32.ofInt (-1)) (N : Nat → Int64) (g : Int32) (v : Int64) (hQ : Q (.inl none, (ax_hp L xs c (ax_mu m a w N) o pool, u))) : ax_wp ax_run M_Mo_readClass Q 303 [(0, .ref 23), (4, .int g), (9, .long v)] [] (ax_hp L xs c (ax_mu m a w N) o pool, u) := by
  have fin : ∀ g : Int32, ax_wp ax_run M_Mo_readClass Q 324 [(0, .ref 23), (4, .int g)] [] (ax_hp L xs c (ax_mu m a w N) o pool, u) := by
    intro g
    (repeat (first | refine w_iadd1 rfl ?_ | refine w_isub1 rfl ?_ | refine w_iinc1 rfl rfl ?_ | refine w_s rfl rfl ?_ | refine w_get rfl rfl rfl rfl ?_ | refine w_nnl rfl ?_ | refine w_nnlR rfl ?_ | refine w_nul rfl ?_ | refine w_nulR rfl ?_ | refine w_ldc rfl rfl ?_ | refine w_ldc2 rfl rfl ?_ | refine w_put rfl rfl rfl (Nat.le_of_ble_eq_true rfl) (Or.inl rfl) rfl rfl ?_))
    refine w_if2 rfl (fun h5 => absurd h5 hw) (fun _ => ?_)
    exact w_vret rfl rfl hQ
  (repeat (first | refine w_iadd1 rfl ?_ | refine w_isub1 rfl ?_ | refine w_iinc1 rfl rfl ?_ | refine w_s rfl rfl ?_ | refine w_get rfl rfl rfl rfl ?_ | refine w_nnl rfl ?_ | refine w_nnlR rfl ?_ | refine w_nul rfl ?_ | refine w_nulR rfl ?_ | refine w_ldc rfl rfl ?_ | refine w_ldc2 rfl rfl ?_ | refine w_put rfl rfl rfl (Nat.le_of_ble_eq_true rfl) (Or.inl rfl) rfl rfl ?_))
  refine w_if1 rfl (fun _ => ?_) (fun _ => ?_)
  · (repeat ((fail_if_success (show ax_wp _ _ _ 324 _ _ _)); (first | refine w_iadd1 rfl ?_ | refine w_isub1 rfl ?_ | refine w_iinc1 rfl rfl ?_ | refine w_s rfl rfl ?_ | refine w_get rfl rfl rfl rfl ?_ | refine w_nnl rfl ?_ | refine w_nnlR rfl ?_ | refine w_nul rfl ?_ | refine w_nulR rfl ?_ | refine w_ldc rfl rfl ?_ | refine w_ldc2 rfl rfl ?_ | refine w_put rfl rfl rfl (Nat.le_of_ble_eq_true rfl) (Or.inl rfl) rfl rfl ?_)))
    exact w_lv (fin (Int32.ofInt 0)) rfl ⟨rfl, rfl, trivial⟩
  · (repeat (first | refine w_iadd1 rfl ?_ | refine w_isub1 rfl ?_ | refine w_iinc1 rfl rfl ?_ | refine w_s rfl rfl ?_ | refine w_get rfl rfl rfl rfl ?_ | refine w_nnl rfl ?_ | refine w_nnlR rfl ?_ | refine w_nul rfl ?_ | refine w_nulR rfl ?_ | refine w_ldc rfl rfl ?_ | refine w_ldc2 rfl rfl ?_ | refine w_put rfl rfl rfl (Nat.le_of_ble_eq_true rfl) (Or.inl rfl) rfl rfl ?_))
    refine w_if1 rfl (fun _ => ?_) (fun _ => ?_)
    · (repeat ((fail_if_success (show ax_wp _ _ _ 324 _ _ _)); (first | refine w_iadd1 rfl ?_ | refine w_isub1 rfl ?_ | refine w_iinc1 rfl rfl ?_ | refine w_s rfl rfl ?_ | refine w_get rfl rfl rfl rfl ?_ | refine w_nnl rfl ?_ | refine w_nnlR rfl ?_ | refine w_nul rfl ?_ | refine w_nulR rfl ?_ | refine w_ldc rfl rfl ?_ | refine w_ldc2 rfl rfl ?_ | refine w_put rfl rfl rfl (Nat.le_of_ble_eq_true rfl) (Or.inl rfl) rfl rfl ?_)))
      exact w_lv (fin (Int32.ofInt 0)) rfl ⟨rfl, rfl, trivial⟩
    · (repeat ((fail_if_success (show ax_wp _ _ _ 324 _ _ _)); (first | refine w_iadd1 rfl ?_ | refine w_isub1 rfl ?_ | refine w_iinc1 rfl rfl ?_ | refine w_s rfl rfl ?_ | refine w_get rfl rfl rfl rfl ?_ | refine w_nnl rfl ?_ | refine w_nnlR rfl ?_ | refine w_nul rfl ?_ | refine w_nulR rfl ?_ | refine w_ldc rfl rfl ?_ | refine w_ldc2 rfl rfl ?_ | refine w_put rfl rfl rfl (Nat.le_of_ble_eq_true rfl) (Or.inl rfl) rfl rfl ?_)))
      exact w_lv (fin (Int32.ofInt 1)) rfl ⟨rfl, rfl, trivial⟩
theorem rc_d297 (a : Nat) (w : Int32) (hw : ¬ w = Int32.ofInt (-1)) (N : Nat → Int64) (g : Int32) (v : Int64) (hQ : Q (.inl none, (ax_hp L xs c (ax_mu m a w N) o pool, u))) : ax_wp ax_run M_Mo_readClass Q 297 [(0, .ref 23), (4, .int g), (9, .long v)] [] (ax_hp L xs c (ax_mu m a w N) o pool, u) := by
  (repeat (first | refine w_iadd1 rfl ?_ | refine w_isub1 rfl ?_ | refine w_iinc1 rfl rfl ?_ | refine w_s rfl rfl ?_ | refine w_get rfl rfl rfl rfl ?_ | refine w_nnl rfl ?_ | refine w_nnlR rfl ?_ | refine w_nul rfl ?_ | refine w_nulR rfl ?_ | refine w_ldc rfl rfl ?_ | refine w_ldc2 rfl rfl ?_ | refine w_put rfl rfl rfl (Nat.le_of_ble_eq_true rfl) (Or.inl rfl) rfl rfl ?_))
  (refine w_cv rfl rfl rfl rfl (by exact Nat.le_of_ble_eq_true rfl) (by exact Nat.le_of_ble_eq_true rfl) (n_expectD a w hw N _) ?_; dsimp only [Option.toList, List.drop, List.cons_append, List.nil_append, e_pl1, e_pl2, e_pl3])
  exact rc_d303 a w hw N g v hQ
theorem rc_d291 (a : Nat) (w : Int32) (hw : ¬ w = Int32.ofInt (-1)) (N : Nat → Int64) (g : Int32) (hQ : Q (.inl none, (ax_hp L xs c (ax_mu m a w N) o pool, u))) : ax_wp ax_run M_Mo_readClass Q 291 [(0, .ref 23), (4, .int g)] [] (ax_hp L xs c (ax_mu m a w N) o pool, u) := by
  (repeat (first | refine w_iadd1 rfl ?_ | refine w_isub1 rfl ?_ | refine w_iinc1 rfl rfl ?_ | refine w_s rfl rfl ?_ | refine w_get rfl rfl rfl rfl ?_ | refine w_nnl rfl ?_ | refine w_nnlR rfl ?_ | refine w_nul rfl ?_ | refine w_nulR rfl ?_ | refine w_ldc rfl rfl ?_ | refine w_ldc2 rfl rfl ?_ | refine w_put rfl rfl rfl (Nat.le_of_ble_eq_true rfl) (Or.inl rfl) rfl rfl ?_))
  (refine w_cv rfl rfl rfl rfl (by exact Nat.le_of_ble_eq_true rfl) (by exact Nat.le_of_ble_eq_true rfl) (n_wholeD a w hw N) ?_; dsimp only [Option.toList, List.drop, List.cons_append, List.nil_append, e_pl1, e_pl2, e_pl3])
  (repeat ((fail_if_success (show ax_wp _ _ _ 297 _ _ _)); (first | refine w_iadd1 rfl ?_ | refine w_isub1 rfl ?_ | refine w_iinc1 rfl rfl ?_ | refine w_s rfl rfl ?_ | refine w_get rfl rfl rfl rfl ?_ | refine w_nnl rfl ?_ | refine w_nnlR rfl ?_ | refine w_nul rfl ?_ | refine w_nulR rfl ?_ | refine w_ldc rfl rfl ?_ | refine w_ldc2 rfl rfl ?_ | refine w_put rfl rfl rfl (Nat.le_of_ble_eq_true rfl) (Or.inl rfl) rfl rfl ?_)))
  exact w_lv (rc_d297 a w hw N g _ hQ) rfl ⟨rfl, rfl, rfl, trivial⟩
theorem rc_d285 (a : Nat) (w : Int32) (hw : ¬ w = Int32.ofInt (-1)) (N : Nat → Int64) (g : Int32) (hQ : Q (.inl none, (ax_hp L xs c (ax_mu m a w N) o pool, u))) : ax_wp ax_run M_Mo_readClass Q 285 [(0, .ref 23), (4, .int g)] [] (ax_hp L xs c (ax_mu m a w N) o pool, u) := by
  (repeat (first | refine w_iadd1 rfl ?_ | refine w_isub1 rfl ?_ | refine w_iinc1 rfl rfl ?_ | refine w_s rfl rfl ?_ | refine w_get rfl rfl rfl rfl ?_ | refine w_nnl rfl ?_ | refine w_nnlR rfl ?_ | refine w_nul rfl ?_ | refine w_nulR rfl ?_ | refine w_ldc rfl rfl ?_ | refine w_ldc2 rfl rfl ?_ | refine w_put rfl rfl rfl (Nat.le_of_ble_eq_true rfl) (Or.inl rfl) rfl rfl ?_))
  (refine w_cv rfl rfl rfl rfl (by exact Nat.le_of_ble_eq_true rfl) (by exact Nat.le_of_ble_eq_true rfl) (n_expectD a w hw N _) ?_; dsimp only [Option.toList, List.drop, List.cons_append, List.nil_append, e_pl1, e_pl2, e_pl3])
  exact rc_d291 a w hw N g hQ
theorem rc_d129 (a : Nat) (w : Int32) (hw : ¬ w = Int32.ofInt (-1)) (N : Nat → Int64) (g : Int32) (K : ax_wp ax_run M_Mo_readClass Q 285 [(0, .ref 23), (4, .int g)] [] (ax_hp L xs c (ax_mu m a w N) o pool, u)) : ax_wp ax_run M_Mo_readClass Q 129 [(0, .ref 23), (4, .int g)] [] (ax_hp L xs c (ax_mu m a w N) o pool, u) := by
  (repeat (first | refine w_iadd1 rfl ?_ | refine w_isub1 rfl ?_ | refine w_iinc1 rfl rfl ?_ | refine w_s rfl rfl ?_ | refine w_get rfl rfl rfl rfl ?_ | refine w_nnl rfl ?_ | refine w_nnlR rfl ?_ | refine w_nul rfl ?_ | refine w_nulR rfl ?_ | refine w_ldc rfl rfl ?_ | refine w_ldc2 rfl rfl ?_ | refine w_put rfl rfl rfl (Nat.le_of_ble_eq_true rfl) (Or.inl rfl) rfl rfl ?_))
  refine w_if2 rfl (fun _ => ?_) (fun h5 => absurd hw h5)
  exact K
theorem rc_d114 (a : Nat) (w : Int32) (hw : ¬ w = Int32.ofInt (-1)) (N : Nat → Int64) (g : Int32) (hQ : Q (.inl none, (ax_hp L xs c (ax_mu m a w N) o pool, u))) : ax_wp ax_run M_Mo_readClass Q 114 [(0, .ref 23), (4, .int g)] [] (ax_hp L xs c (ax_mu m a w N) o pool, u) := by
  (repeat (first | refine w_iadd1 rfl ?_ | refine w_isub1 rfl ?_ | refine w_iinc1 rfl rfl ?_ | refine w_s rfl rfl ?_ | refine w_get rfl rfl rfl rfl ?_ | refine w_nnl rfl ?_ | refine w_nnlR rfl ?_ | refine w_nul rfl ?_ | refine w_nulR rfl ?_ | refine w_ldc rfl rfl ?_ | refine w_ldc2 rfl rfl ?_ | refine w_put rfl rfl rfl (Nat.le_of_ble_eq_true rfl) (Or.inl rfl) rfl rfl ?_))
  (refine w_cv rfl rfl rfl rfl (by exact Nat.le_of_ble_eq_true rfl) (by exact Nat.le_of_ble_eq_true rfl) (n_expectD a w hw N _) ?_; dsimp only [Option.toList, List.drop, List.cons_append, List.nil_append, e_pl1, e_pl2, e_pl3])
  (repeat ((fail_if_success (show ax_wp _ _ _ 129 _ _ _)); (first | refine w_iadd1 rfl ?_ | refine w_isub1 rfl ?_ | refine w_iinc1 rfl rfl ?_ | refine w_s rfl rfl ?_ | refine w_get rfl rfl rfl rfl ?_ | refine w_nnl rfl ?_ | refine w_nnlR rfl ?_ | refine w_nul rfl ?_ | refine w_nulR rfl ?_ | refine w_ldc rfl rfl ?_ | refine w_ldc2 rfl rfl ?_ | refine w_put rfl rfl rfl (Nat.le_of_ble_eq_true rfl) (Or.inl rfl) rfl rfl ?_)))
  exact w_lv (rc_d129 a w hw N g (rc_d285 a w hw N g hQ)) rfl ⟨rfl, rfl, trivial⟩
/-- a limit's number is there: what is done with it -/
theorem rc_lim (hB : B + 16 ≤ 960) (hi : i ≤ 4) (j : Nat) (hj : j < 6) (b b' : Bool) (v : Nat) (hv : v < 10000000) (hb : b' = true ↔ b = true ∧ v ≤ 1000000) (a : Nat) (w : Int32) (N : Nat → Int64) (K : ax_wp ax_run M_Mo_readClass Q 47 (lb i p B [(4, .int (bI (b' = true))), (5, .int (nI (j + 1)))]) [] (ax_hp L xs c (ax_mu m a w (if i < 4 then vp_updL N (B + j) (Int64.ofNat v) else N)) o pool, u)) :
    ax_wp ax_run M_Mo_readClass Q 69 (lb i p B [(4, .int (bI (b = true))), (5, .int (nI j))]) [.long (Int64.ofNat v)] (ax_hp L xs c (ax_mu m a w N) o pool, u) := by
  have hvv := q_oN (v := v) (by omega)
  have e1 : ((1000000 : Int64)).toInt = 1000000 := rfl
  have fin : ∀ g : Int32, g = bI (b' = true) → ax_wp ax_run M_Mo_readClass Q 92 (lb i p B [(4, .int g), (5, .int (nI j)), (6, .long (Int64.ofNat v))]) [] (ax_hp L xs c (ax_mu m a w N) o pool, u) := by
    intro g hg
    subst hg
    (repeat (first | refine w_iadd1 rfl ?_ | refine w_isub1 rfl ?_ | refine w_iinc1 rfl rfl ?_ | refine w_s rfl rfl ?_ | refine w_get rfl rfl rfl rfl ?_ | refine w_nnl rfl ?_ | refine w_nnlR rfl ?_ | refine w_nul rfl ?_ | refine w_nulR rfl ?_ | refine w_ldc rfl rfl ?_ | refine w_ldc2 rfl rfl ?_ | refine w_put rfl rfl rfl (Nat.le_of_ble_eq_true rfl) (Or.inl rfl) rfl rfl ?_))
    by_cases hi4 : i < 4
    · rw [if_pos hi4] at K
      refine w_if2 rfl (fun h5 => absurd ((cn_ge (a := i) (b := 4) (by omega) (by omega)).mp h5) (by omega)) (fun _ => ?_)
      (repeat (first | refine w_iadd1 rfl ?_ | refine w_isub1 rfl ?_ | refine w_iinc1 rfl rfl ?_ | refine w_s rfl rfl ?_ | refine w_get rfl rfl rfl rfl ?_ | refine w_nnl rfl ?_ | refine w_nnlR rfl ?_ | refine w_nul rfl ?_ | refine w_nulR rfl ?_ | refine w_ldc rfl rfl ?_ | refine w_ldc2 rfl rfl ?_ | refine w_put rfl rfl rfl (Nat.le_of_ble_eq_true rfl) (Or.inl rfl) rfl rfl ?_))
      refine w_las (j := B + j) rfl rfl (by (simp only [kb6, kb7, kb8, kb9, kb16, ki0, ki1, ki2, ki3, ki4, ki5, nI_addR, nI_mulR]; try (congr 1; omega))) (by omega) (by decide) ?_
      (repeat ((fail_if_success (show ax_wp _ _ _ 47 _ _ _)); (first | refine w_iadd1 rfl ?_ | refine w_isub1 rfl ?_ | refine w_iinc1 rfl rfl ?_ | refine w_s rfl rfl ?_ | refine w_get rfl rfl rfl rfl ?_ | refine w_nnl rfl ?_ | refine w_nnlR rfl ?_ | refine w_nul rfl ?_ | refine w_nulR rfl ?_ | refine w_ldc rfl rfl ?_ | refine w_ldc2 rfl rfl ?_ | refine w_put rfl rfl rfl (Nat.le_of_ble_eq_true rfl) (Or.inl rfl) rfl rfl ?_)))
      exact w_lv K rfl ⟨rfl, rfl, rfl, rfl, rfl, rfl, trivial⟩
    · rw [if_neg hi4] at K
      refine w_if2 rfl (fun _ => ?_) (fun h5 => absurd ((cn_ge (a := i) (b := 4) (by omega) (by omega)).mpr (by omega)) h5)
      (repeat ((fail_if_success (show ax_wp _ _ _ 47 _ _ _)); (first | refine w_iadd1 rfl ?_ | refine w_isub1 rfl ?_ | refine w_iinc1 rfl rfl ?_ | refine w_s rfl rfl ?_ | refine w_get rfl rfl rfl rfl ?_ | refine w_nnl rfl ?_ | refine w_nnlR rfl ?_ | refine w_nul rfl ?_ | refine w_nulR rfl ?_ | refine w_ldc rfl rfl ?_ | refine w_ldc2 rfl rfl ?_ | refine w_put rfl rfl rfl (Nat.le_of_ble_eq_true rfl) (Or.inl rfl) rfl rfl ?_)))
      exact w_lv K rfl ⟨rfl, rfl, rfl, rfl, rfl, rfl, trivial⟩
  (repeat (first | refine w_iadd1 rfl ?_ | refine w_isub1 rfl ?_ | refine w_iinc1 rfl rfl ?_ | refine w_s rfl rfl ?_ | refine w_get rfl rfl rfl rfl ?_ | refine w_nnl rfl ?_ | refine w_nnlR rfl ?_ | refine w_nul rfl ?_ | refine w_nulR rfl ?_ | refine w_ldc rfl rfl ?_ | refine w_ldc2 rfl rfl ?_ | refine w_put rfl rfl rfl (Nat.le_of_ble_eq_true rfl) (Or.inl rfl) rfl rfl ?_))
  refine w_if1 rfl (fun h5 => ?_) (fun h5 => ?_)
  · have h6 : ¬ b = true := c_eq0.mp h5
    (repeat ((fail_if_success (show ax_wp _ _ _ 92 _ _ _)); (first | refine w_iadd1 rfl ?_ | refine w_isub1 rfl ?_ | refine w_iinc1 rfl rfl ?_ | refine w_s rfl rfl ?_ | refine w_get rfl rfl rfl rfl ?_ | refine w_nnl rfl ?_ | refine w_nnlR rfl ?_ | refine w_nul rfl ?_ | refine w_nulR rfl ?_ | refine w_ldc rfl rfl ?_ | refine w_ldc2 rfl rfl ?_ | refine w_put rfl rfl rfl (Nat.le_of_ble_eq_true rfl) (Or.inl rfl) rfl rfl ?_)))
    exact w_lv (fin (Int32.ofInt 0) (bI_f (fun z => h6 (hb.mp z).1)).symm) rfl ⟨rfl, rfl, rfl, rfl, rfl, rfl, rfl, trivial⟩
  · have h6 : b = true := Decidable.not_not.mp (fun z => h5 (c_eq0.mpr z))
    (repeat (first | refine w_iadd1 rfl ?_ | refine w_isub1 rfl ?_ | refine w_iinc1 rfl rfl ?_ | refine w_s rfl rfl ?_ | refine w_get rfl rfl rfl rfl ?_ | refine w_nnl rfl ?_ | refine w_nnlR rfl ?_ | refine w_nul rfl ?_ | refine w_nulR rfl ?_ | refine w_ldc rfl rfl ?_ | refine w_ldc2 rfl rfl ?_ | refine w_put rfl rfl rfl (Nat.le_of_ble_eq_true rfl) (Or.inl rfl) rfl rfl ?_))
    refine w_if1 rfl (fun h7 => ?_) (fun h7 => ?_)
    · have h8 : ((1000000 : Int64)).toInt < (Int64.ofNat v).toInt := c_Lgt.mp h7
      rw [e1, hvv] at h8
      (repeat ((fail_if_success (show ax_wp _ _ _ 92 _ _ _)); (first | refine w_iadd1 rfl ?_ | refine w_isub1 rfl ?_ | refine w_iinc1 rfl rfl ?_ | refine w_s rfl rfl ?_ | refine w_get rfl rfl rfl rfl ?_ | refine w_nnl rfl ?_ | refine w_nnlR rfl ?_ | refine w_nul rfl ?_ | refine w_nulR rfl ?_ | refine w_ldc rfl rfl ?_ | refine w_ldc2 rfl rfl ?_ | refine w_put rfl rfl rfl (Nat.le_of_ble_eq_true rfl) (Or.inl rfl) rfl rfl ?_)))
      exact w_lv (fin (Int32.ofInt 0) (bI_f (fun z => by have := (hb.mp z).2; omega)).symm) rfl ⟨rfl, rfl, rfl, rfl, rfl, rfl, rfl, trivial⟩
    · have h8 : ¬ ((1000000 : Int64)).toInt < (Int64.ofNat v).toInt := fun z => h7 (c_Lgt.mpr z)
      rw [e1, hvv] at h8
      (repeat ((fail_if_success (show ax_wp _ _ _ 92 _ _ _)); (first | refine w_iadd1 rfl ?_ | refine w_isub1 rfl ?_ | refine w_iinc1 rfl rfl ?_ | refine w_s rfl rfl ?_ | refine w_get rfl rfl rfl rfl ?_ | refine w_nnl rfl ?_ | refine w_nnlR rfl ?_ | refine w_nul rfl ?_ | refine w_nulR rfl ?_ | refine w_ldc rfl rfl ?_ | refine w_ldc2 rfl rfl ?_ | refine w_put rfl rfl rfl (Nat.le_of_ble_eq_true rfl) (Or.inl rfl) rfl rfl ?_)))
      exact w_lv (fin (Int32.ofInt 1) (bI_t (hb.mpr ⟨h6, by omega⟩)).symm) rfl ⟨rfl, rfl, rfl, rfl, rfl, rfl, rfl, trivial⟩
theorem lo_up {N0 N : Nat → Int64} {B y : Nat} {z : Int64} (h : ∀ x, x < B → N x = N0 x) (hy : B ≤ y) : ∀ x, x < B → vp_updL N y z x = N0 x := by
  intro x hx
  unfold vp_updL
  rw [if_neg (by omega)]
  exact h x hx
theorem lo_if {N0 N : Nat → Int64} {B y : Nat} {z : Int64} {g : Prop} [Decidable g] (h : ∀ x, x < B → N x = N0 x) (hy : B ≤ y) : ∀ x, x < B → (if g then vp_updL N y z else N) x = N0 x := by
  intro x hx
  split
  · exact lo_up h hy x hx
  · exact h x hx
theorem rc_deadL {N0 : Nat → Int64} (hB : B + 16 ≤ 960) (hi : i ≤ 4) (a : Nat) (w : Int32) (hw : ¬ w = Int32.ofInt (-1)) (K : ∀ (N'' : Nat → Int64) (g : Int32), (∀ x, x < B → N'' x = N0 x) → ax_wp ax_run M_Mo_readClass Q 114 [(0, .ref 23), (4, .int g)] [] (ax_hp L xs c (ax_mu m a w N'') o pool, u)) :
    ∀ (d j : Nat) (b : Bool) (N : Nat → Int64), j + d = 6 → (∀ x, x < B → N x = N0 x) → ax_wp ax_run M_Mo_readClass Q 47 (lb i p B [(4, .int (bI (b = true))), (5, .int (nI j))]) [] (ax_hp L xs c (ax_mu m a w N) o pool, u) := by
  intro d
  induction d with
  | zero =>
    intro j b N hj hN
    have : j = 6 := by omega
    subst this
    (repeat (first | refine w_iadd1 rfl ?_ | refine w_isub1 rfl ?_ | refine w_iinc1 rfl rfl ?_ | refine w_s rfl rfl ?_ | refine w_get rfl rfl rfl rfl ?_ | refine w_nnl rfl ?_ | refine w_nnlR rfl ?_ | refine w_nul rfl ?_ | refine w_nulR rfl ?_ | refine w_ldc rfl rfl ?_ | refine w_ldc2 rfl rfl ?_ | refine w_put rfl rfl rfl (Nat.le_of_ble_eq_true rfl) (Or.inl rfl) rfl rfl ?_))
    refine w_if2 rfl (fun _ => ?_) (fun h5 => absurd ((cn_ge (a := 6) (b := 6) (by omega) (by omega)).mpr (Nat.le_refl _)) h5)
    exact w_lv (K N _ hN) rfl ⟨rfl, rfl, trivial⟩
  | succ d ih =>
    intro j b N hj hN
    have m65 : ax_wp ax_run M_Mo_readClass Q 65 (lb i p B [(4, .int (bI (b = true))), (5, .int (nI j))]) [] (ax_hp L xs c (ax_mu m a w N) o pool, u) := by
      (repeat (first | refine w_iadd1 rfl ?_ | refine w_isub1 rfl ?_ | refine w_iinc1 rfl rfl ?_ | refine w_s rfl rfl ?_ | refine w_get rfl rfl rfl rfl ?_ | refine w_nnl rfl ?_ | refine w_nnlR rfl ?_ | refine w_nul rfl ?_ | refine w_nulR rfl ?_ | refine w_ldc rfl rfl ?_ | refine w_ldc2 rfl rfl ?_ | refine w_put rfl rfl rfl (Nat.le_of_ble_eq_true rfl) (Or.inl rfl) rfl rfl ?_))
      (refine w_cv rfl rfl rfl rfl (by exact Nat.le_of_ble_eq_true rfl) (by exact Nat.le_of_ble_eq_true rfl) (n_wholeD a w hw N) ?_; dsimp only [Option.toList, List.drop, List.cons_append, List.nil_append, e_pl1, e_pl2, e_pl3])
      exact rc_lim hB hi j (by omega) b b 0 (by omega) ⟨fun z => ⟨z, by omega⟩, fun z => z.1⟩ a w N (ih (j + 1) b _ (by omega) (lo_if hN (by omega)))
    (repeat (first | refine w_iadd1 rfl ?_ | refine w_isub1 rfl ?_ | refine w_iinc1 rfl rfl ?_ | refine w_s rfl rfl ?_ | refine w_get rfl rfl rfl rfl ?_ | refine w_nnl rfl ?_ | refine w_nnlR rfl ?_ | refine w_nul rfl ?_ | refine w_nulR rfl ?_ | refine w_ldc rfl rfl ?_ | refine w_ldc2 rfl rfl ?_ | refine w_put rfl rfl rfl (Nat.le_of_ble_eq_true rfl) (Or.inl rfl) rfl rfl ?_))
    refine w_if2 rfl (fun h5 => absurd ((cn_ge (a := j) (b := 6) (by omega) (by omega)).mp h5) (by omega)) (fun _ => ?_)
    (repeat (first | refine w_iadd1 rfl ?_ | refine w_isub1 rfl ?_ | refine w_iinc1 rfl rfl ?_ | refine w_s rfl rfl ?_ | refine w_get rfl rfl rfl rfl ?_ | refine w_nnl rfl ?_ | refine w_nnlR rfl ?_ | refine w_nul rfl ?_ | refine w_nulR rfl ?_ | refine w_ldc rfl rfl ?_ | refine w_ldc2 rfl rfl ?_ | refine w_put rfl rfl rfl (Nat.le_of_ble_eq_true rfl) (Or.inl rfl) rfl rfl ?_))
    refine w_if1 rfl (fun _ => m65) (fun _ => ?_)
    (repeat (first | refine w_iadd1 rfl ?_ | refine w_isub1 rfl ?_ | refine w_iinc1 rfl rfl ?_ | refine w_s rfl rfl ?_ | refine w_get rfl rfl rfl rfl ?_ | refine w_nnl rfl ?_ | refine w_nnlR rfl ?_ | refine w_nul rfl ?_ | refine w_nulR rfl ?_ | refine w_ldc rfl rfl ?_ | refine w_ldc2 rfl rfl ?_ | refine w_put rfl rfl rfl (Nat.le_of_ble_eq_true rfl) (Or.inl rfl) rfl rfl ?_))
    (refine w_cv rfl rfl rfl rfl (by exact Nat.le_of_ble_eq_true rfl) (by exact Nat.le_of_ble_eq_true rfl) (n_expectD a w hw N _) ?_; dsimp only [Option.toList, List.drop, List.cons_append, List.nil_append, e_pl1, e_pl2, e_pl3])
    exact m65
theorem rc_limits {N0 : Nat → Int64} (hu : m.units ≤ 400) (hB : B + 16 ≤ 960) (hi : i ≤ 4) :
    ∀ (k j q : Nat) (l : Nat → Nat) (b : Bool) (N : Nat → Int64), j + k = 6 → q ≤ m.units → (b = true ↔ i < 4 ∧ lok l j) → (∀ x, x < B → N x = N0 x) → (i < 4 → ∀ x, x < j → (N (B + x)).toInt = l x) →
      (match rl m.units m.text k j q l with
        | .inl e => ∀ (a : Nat) (N'' : Nat → Int64) (g : Int32), (∀ x, x < B → N'' x = N0 x) → ax_wp ax_run M_Mo_readClass Q 114 [(0, .ref 23), (4, .int g)] [] (ax_hp L xs c (ax_mu m a (nI e) N'') o pool, u)
        | .inr (q', l') => ∀ (b : Bool) (N'' : Nat → Int64), (b = true ↔ i < 4 ∧ lok l' 6) → (∀ x, x < B → N'' x = N0 x) → (i < 4 → ∀ x, x < 6 → (N'' (B + x)).toInt = l' x) → ax_wp ax_run M_Mo_readClass Q 114 (lb i p B [(4, .int (bI (b = true)))]) [] (ax_hp L xs c (ax_mu m q' (Int32.ofInt (-1)) N'') o pool, u)) →
      ax_wp ax_run M_Mo_readClass Q 47 (lb i p B [(4, .int (bI (b = true))), (5, .int (nI j))]) [] (ax_hp L xs c (ax_mu m q (Int32.ofInt (-1)) N) o pool, u) := by
  intro k
  induction k with
  | zero =>
    intro j q l b N hj hq hb hlo hlm K
    have : j = 6 := by omega
    subst this
    (repeat (first | refine w_iadd1 rfl ?_ | refine w_isub1 rfl ?_ | refine w_iinc1 rfl rfl ?_ | refine w_s rfl rfl ?_ | refine w_get rfl rfl rfl rfl ?_ | refine w_nnl rfl ?_ | refine w_nnlR rfl ?_ | refine w_nul rfl ?_ | refine w_nulR rfl ?_ | refine w_ldc rfl rfl ?_ | refine w_ldc2 rfl rfl ?_ | refine w_put rfl rfl rfl (Nat.le_of_ble_eq_true rfl) (Or.inl rfl) rfl rfl ?_))
    refine w_if2 rfl (fun _ => ?_) (fun h5 => absurd ((cn_ge (a := 6) (b := 6) (by omega) (by omega)).mpr (Nat.le_refl _)) h5)
    have K' : ∀ (b : Bool) (N'' : Nat → Int64), (b = true ↔ i < 4 ∧ lok l 6) → (∀ x, x < B → N'' x = N0 x) → (i < 4 → ∀ x, x < 6 → (N'' (B + x)).toInt = l x) → ax_wp ax_run M_Mo_readClass Q 114 (lb i p B [(4, .int (bI (b = true)))]) [] (ax_hp L xs c (ax_mu m q (Int32.ofInt (-1)) N'') o pool, u) := K
    exact w_lv (K' b N hb hlo hlm) rfl ⟨rfl, rfl, rfl, rfl, rfl, trivial⟩
  | succ k ih =>
    intro j q l b N hj hq hb hlo hlm K
    have m65 : ∀ r, r ≤ m.units → (rl m.units m.text (k + 1) j q l = if wok m.units m.text r then rl m.units m.text k (j + 1) (r + wd m.units m.text r) (va_up l j (wv m.units m.text r)) else .inl (r + wd m.units m.text r)) → ax_wp ax_run M_Mo_readClass Q 65 (lb i p B [(4, .int (bI (b = true))), (5, .int (nI j))]) [] (ax_hp L xs c (ax_mu m r (Int32.ofInt (-1)) N) o pool, u) := by
      intro r hr hrl
      rw [hrl] at K
      have hwn := wd_n (f := m.text) hr
      have hvl := wv_lt m.units m.text r
      (repeat (first | refine w_iadd1 rfl ?_ | refine w_isub1 rfl ?_ | refine w_iinc1 rfl rfl ?_ | refine w_s rfl rfl ?_ | refine w_get rfl rfl rfl rfl ?_ | refine w_nnl rfl ?_ | refine w_nnlR rfl ?_ | refine w_nul rfl ?_ | refine w_nulR rfl ?_ | refine w_ldc rfl rfl ?_ | refine w_ldc2 rfl rfl ?_ | refine w_put rfl rfl rfl (Nat.le_of_ble_eq_true rfl) (Or.inl rfl) rfl rfl ?_))
      (refine w_cv rfl rfl rfl rfl (by exact Nat.le_of_ble_eq_true rfl) (by exact Nat.le_of_ble_eq_true rfl) (n_wholeL hu r hr N) ?_; dsimp only [Option.toList, List.drop, List.cons_append, List.nil_append, e_pl1, e_pl2, e_pl3])
      by_cases hw : wok m.units m.text r
      · rw [if_pos hw] at K ⊢
        have hiff : lok (va_up l j (wv m.units m.text r)) (j + 1) ↔ lok l j ∧ wv m.units m.text r ≤ 1000000 := by
          constructor
          · intro z
            refine ⟨fun x hx => ?_, ?_⟩
            · have := z x (by omega)
              rw [va_up_ne _ _ (by omega)] at this
              exact this
            · have := z j (by omega)
              rw [va_up_self] at this
              exact this
          · intro z x hx
            by_cases hxj : x = j
            · subst hxj; rw [va_up_self]; exact z.2
            · rw [va_up_ne _ _ hxj]; exact z.1 x (by omega)
        refine rc_lim hB hi j (by omega) b (decide (b = true ∧ wv m.units m.text r ≤ 1000000)) (wv m.units m.text r) hvl (by rw [decide_eq_true_eq]) _ _ N (ih (j + 1) (r + wd m.units m.text r) _ _ _ (by omega) hwn ?_ (lo_if hlo (by omega)) ?_ K)
        · rw [decide_eq_true_eq, hiff, hb]
          exact ⟨fun z => ⟨z.1.1, z.1.2, z.2⟩, fun z => ⟨⟨z.1, z.2.1⟩, z.2.2⟩⟩
        · intro hi4 x hx
          rw [if_pos hi4]
          unfold vp_updL
          by_cases hxj : x = j
          · subst hxj
            rw [if_pos rfl, va_up_self]
            exact q_oN (by omega)
          · rw [if_neg (by omega), va_up_ne _ _ hxj]
            exact hlm hi4 x (by omega)
      · rw [if_neg hw] at K ⊢
        have K' : ∀ (a : Nat) (N'' : Nat → Int64) (g : Int32), (∀ x, x < B → N'' x = N0 x) → ax_wp ax_run M_Mo_readClass Q 114 [(0, .ref 23), (4, .int g)] [] (ax_hp L xs c (ax_mu m a (nI (r + wd m.units m.text r)) N'') o pool, u) := K
        exact rc_lim hB hi j (by omega) b (decide (b = true ∧ wv m.units m.text r ≤ 1000000)) (wv m.units m.text r) hvl (by rw [decide_eq_true_eq]) _ _ N (rc_deadL hB hi _ _ (nI_ne (by omega)) (fun N'' g hN'' => K' _ N'' g hN'') k (j + 1) _ _ (by omega) (lo_if hlo (by omega)))
    (repeat (first | refine w_iadd1 rfl ?_ | refine w_isub1 rfl ?_ | refine w_iinc1 rfl rfl ?_ | refine w_s rfl rfl ?_ | refine w_get rfl rfl rfl rfl ?_ | refine w_nnl rfl ?_ | refine w_nnlR rfl ?_ | refine w_nul rfl ?_ | refine w_nulR rfl ?_ | refine w_ldc rfl rfl ?_ | refine w_ldc2 rfl rfl ?_ | refine w_put rfl rfl rfl (Nat.le_of_ble_eq_true rfl) (Or.inl rfl) rfl rfl ?_))
    refine w_if2 rfl (fun h5 => absurd ((cn_ge (a := j) (b := 6) (by omega) (by omega)).mp h5) (by omega)) (fun _ => ?_)
    (repeat (first | refine w_iadd1 rfl ?_ | refine w_isub1 rfl ?_ | refine w_iinc1 rfl rfl ?_ | refine w_s rfl rfl ?_ | refine w_get rfl rfl rfl rfl ?_ | refine w_nnl rfl ?_ | refine w_nnlR rfl ?_ | refine w_nul rfl ?_ | refine w_nulR rfl ?_ | refine w_ldc rfl rfl ?_ | refine w_ldc2 rfl rfl ?_ | refine w_put rfl rfl rfl (Nat.le_of_ble_eq_true rfl) (Or.inl rfl) rfl rfl ?_))
    by_cases hj0 : j = 0
    · subst hj0
      refine w_if1 rfl (fun _ => ?_) (fun h5 => absurd (show nI 0 ≤ 0 by decide) h5)
      refine m65 q hq ?_
      show (if (0 ≠ 0 ∧ _) then _ else _) = _
      rw [if_neg (fun z => z.1 rfl)]
      rfl
    · refine w_if1 rfl (fun h5 => absurd (Int32.le_iff_toInt_le.mp (show nI j ≤ 0 from h5)) (by rw [q_nI' (by omega)]; show ¬ (j : Int) ≤ 0; omega)) (fun _ => ?_)
      (repeat (first | refine w_iadd1 rfl ?_ | refine w_isub1 rfl ?_ | refine w_iinc1 rfl rfl ?_ | refine w_s rfl rfl ?_ | refine w_get rfl rfl rfl rfl ?_ | refine w_nnl rfl ?_ | refine w_nnlR rfl ?_ | refine w_nul rfl ?_ | refine w_nulR rfl ?_ | refine w_ldc rfl rfl ?_ | refine w_ldc2 rfl rfl ?_ | refine w_put rfl rfl rfl (Nat.le_of_ble_eq_true rfl) (Or.inl rfl) rfl rfl ?_))
      by_cases hc : nx m.units m.text q = 44
      · have hpl := nx_lt hc (by decide)
        (refine w_cv rfl rfl rfl rfl (by exact Nat.le_of_ble_eq_true rfl) (by exact Nat.le_of_ble_eq_true rfl) (n_expect1 hu q (by omega) N (Int8.ofInt 44).toInt32 hc) ?_; dsimp only [Option.toList, List.drop, List.cons_append, List.nil_append, e_pl1, e_pl2, e_pl3])
        refine m65 (q + 1) (by omega) ?_
        show (if (j ≠ 0 ∧ nx m.units m.text q ≠ 44) then _ else _) = _
        rw [if_neg (fun z => z.2 hc)]
        simp only [if_neg hj0]
      · (refine w_cv rfl rfl rfl rfl (by exact Nat.le_of_ble_eq_true rfl) (by exact Nat.le_of_ble_eq_true rfl) (n_expect0 hu q (by omega) N (Int8.ofInt 44).toInt32 hc) ?_; dsimp only [Option.toList, List.drop, List.cons_append, List.nil_append, e_pl1, e_pl2, e_pl3])
        have e : rl m.units m.text (k + 1) j q l = .inl q := if_pos ⟨hj0, hc⟩
        rw [e] at K
        have K' : ∀ (a : Nat) (N'' : Nat → Int64) (g : Int32), (∀ x, x < B → N'' x = N0 x) → ax_wp ax_run M_Mo_readClass Q 114 [(0, .ref 23), (4, .int g)] [] (ax_hp L xs c (ax_mu m a (nI q) N'') o pool, u) := K
        (repeat (first | refine w_iadd1 rfl ?_ | refine w_isub1 rfl ?_ | refine w_iinc1 rfl rfl ?_ | refine w_s rfl rfl ?_ | refine w_get rfl rfl rfl rfl ?_ | refine w_nnl rfl ?_ | refine w_nnlR rfl ?_ | refine w_nul rfl ?_ | refine w_nulR rfl ?_ | refine w_ldc rfl rfl ?_ | refine w_ldc2 rfl rfl ?_ | refine w_put rfl rfl rfl (Nat.le_of_ble_eq_true rfl) (Or.inl rfl) rfl rfl ?_))
        (refine w_cv rfl rfl rfl rfl (by exact Nat.le_of_ble_eq_true rfl) (by exact Nat.le_of_ble_eq_true rfl) (n_wholeD q (nI q) (nI_ne (by omega)) N) ?_; dsimp only [Option.toList, List.drop, List.cons_append, List.nil_append, e_pl1, e_pl2, e_pl3])
        exact rc_lim hB hi j (by omega) b b 0 (by omega) ⟨fun z => ⟨z, by omega⟩, fun z => z.1⟩ _ _ N (rc_deadL hB hi _ _ (nI_ne (by omega)) (fun N'' g hN'' => K' _ N'' g hN'') k (j + 1) _ _ (by omega) (lo_if hlo (by omega)))
end MC
