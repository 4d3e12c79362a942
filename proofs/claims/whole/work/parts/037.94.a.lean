def ax_ds0 : Nat → ax_Rw := fun _ => ⟨fun _ => 0, 0, fun _ => 0, fun _ => 0, 0⟩
/-- a whole text -/
def mk (n : Nat) (f : Nat → Int32) (told : Nat) : Nat ⊕ (Nat × Nat × (Nat → ax_Rw)) :=
  if nx n f 0 ≠ 77 then .inl 0 else if ¬ dg n f 1 then .inl 1 else if told < (nx n f 1).toInt.toNat - 48 ∨ 4 ≤ (nx n f 1).toInt.toNat - 48 then .inl 0
  else match ro n f 5 0 2 ax_ds0 with
    | .inl e => .inl e
    | .inr (N, ds) => .inr ((nx n f 1).toInt.toNat - 48, N, ds)
theorem q_dig2 (e : Nat) (x : Int32) (hx : x.toInt = (e : Int)) (h1 : 48 ≤ e) (h2 : e ≤ 57) : x - (Int8.ofInt 48).toInt32 = nI (e - 48) := by
  have h3 : x = nI e := q_nIof hx (by omega)
  subst h3
  rw [q_eq, q_sub, q_nI, q_nI, q_b8]
  omega
section RMK
variable {L : Nat} {xs : Nat → Int32} {c : ax_St} {m : ax_Mo} {o : Nat → Int64} {P : List (Option ax_C)} {u : Nat} {h : ax_H}
theorem r_maxI (a b : Nat) (ha : a < 100000) (hb : b < 100000) : ax_run m_Ma_maxI [.int (nI a), .int (nI b)] h (.inl (some (.int (nI (max a b)))), h) := by
  (refine ax_run_T (ax_T_of M_Ma_maxI rfl (Nat.le_of_ble_eq_true rfl) ?_))
  (repeat (first | refine w_iadd1 rfl ?_ | refine w_isub1 rfl ?_ | refine w_iinc1 rfl rfl ?_ | refine w_s rfl rfl ?_ | refine w_get rfl rfl rfl rfl ?_ | refine w_nnl rfl ?_ | refine w_nnlR rfl ?_ | refine w_nul rfl ?_ | refine w_nulR rfl ?_ | refine w_ldc rfl rfl ?_ | refine w_ldc2 rfl rfl ?_ | refine w_put rfl rfl rfl (Nat.le_of_ble_eq_true rfl) (Or.inl rfl) rfl rfl ?_))
  refine w_if2 rfl (fun h5 => ?_) (fun h5 => ?_)
  · have h6 := (cn_lt (a := a) (b := b) (by omega) (by omega)).mp h5
    (repeat (first | refine w_iadd1 rfl ?_ | refine w_isub1 rfl ?_ | refine w_iinc1 rfl rfl ?_ | refine w_s rfl rfl ?_ | refine w_get rfl rfl rfl rfl ?_ | refine w_nnl rfl ?_ | refine w_nnlR rfl ?_ | refine w_nul rfl ?_ | refine w_nulR rfl ?_ | refine w_ldc rfl rfl ?_ | refine w_ldc2 rfl rfl ?_ | refine w_put rfl rfl rfl (Nat.le_of_ble_eq_true rfl) (Or.inl rfl) rfl rfl ?_))
    (refine w_iret rfl rfl rfl ?_)
    rw [show max a b = b by omega]
  · have h6 : ¬ a < b := fun z => h5 ((cn_lt (a := a) (b := b) (by omega) (by omega)).mpr z)
    (repeat (first | refine w_iadd1 rfl ?_ | refine w_isub1 rfl ?_ | refine w_iinc1 rfl rfl ?_ | refine w_s rfl rfl ?_ | refine w_get rfl rfl rfl rfl ?_ | refine w_nnl rfl ?_ | refine w_nnlR rfl ?_ | refine w_nul rfl ?_ | refine w_nulR rfl ?_ | refine w_ldc rfl rfl ?_ | refine w_ldc2 rfl rfl ?_ | refine w_put rfl rfl rfl (Nat.le_of_ble_eq_true rfl) (Or.inl rfl) rfl rfl ?_))
    (refine w_iret rfl rfl rfl ?_)
    rw [show max a b = a by omega]
theorem r_Tx_place : ax_run m_Tx_place [.ref 2] (ax_hp L xs c m o P, u) (.inl (some (.int (nI c.pl))), (ax_hp L xs c m o P, u)) := by
  (refine ax_run_T (ax_T_of M_Tx_place rfl (Nat.le_of_ble_eq_true rfl) ?_))
  (repeat (first | refine w_iadd1 rfl ?_ | refine w_isub1 rfl ?_ | refine w_iinc1 rfl rfl ?_ | refine w_s rfl rfl ?_ | refine w_get rfl rfl rfl rfl ?_ | refine w_nnl rfl ?_ | refine w_nnlR rfl ?_ | refine w_nul rfl ?_ | refine w_nulR rfl ?_ | refine w_ldc rfl rfl ?_ | refine w_ldc2 rfl rfl ?_ | refine w_put rfl rfl rfl (Nat.le_of_ble_eq_true rfl) (Or.inl rfl) rfl rfl ?_))
  (refine w_iret rfl rfl rfl ?_)
  rfl
theorem r_readNumber0 (hn : c.tl ≤ 400) (t : Nat) (ht : t ≤ 4) (p : Nat) (hc : (¬ nx c.tl c.ch 0 = 77 ∧ p = 0) ∨ (nx c.tl c.ch 0 = 77 ∧ ¬ dg c.tl c.ch 1 ∧ p = 1) ∨ (nx c.tl c.ch 0 = 77 ∧ dg c.tl c.ch 1 ∧ (t < (nx c.tl c.ch 1).toInt.toNat - 48 ∨ 4 ≤ (nx c.tl c.ch 1).toInt.toNat - 48) ∧ p = 0)) :
    ax_run m_Tx_readNumber [.ref 2, .int (nI t)] (ax_hp L xs c m o P, u) (.inl (some (.int (Int32.ofInt (-1)))), (ax_hp L xs (ax_St.u_pl c p) m o P, u)) := by
  (refine ax_run_T (ax_T_of M_Tx_readNumber rfl (Nat.le_of_ble_eq_true rfl) ?_))
  (repeat (first | refine w_iadd1 rfl ?_ | refine w_isub1 rfl ?_ | refine w_iinc1 rfl rfl ?_ | refine w_s rfl rfl ?_ | refine w_get rfl rfl rfl rfl ?_ | refine w_nnl rfl ?_ | refine w_nnlR rfl ?_ | refine w_nul rfl ?_ | refine w_nulR rfl ?_ | refine w_ldc rfl rfl ?_ | refine w_ldc2 rfl rfl ?_ | refine w_put rfl rfl rfl (Nat.le_of_ble_eq_true rfl) (Or.inl rfl) rfl rfl ?_))
  rcases hc with ⟨h1, rfl⟩ | ⟨h1, h2, rfl⟩ | ⟨h1, h2, h3, rfl⟩
  · (refine w_cv rfl rfl rfl rfl (by exact Nat.le_of_ble_eq_true rfl) (by exact Nat.le_of_ble_eq_true rfl) (r_passes0 (c := (ax_St.u_pl c 0)) hn (by show 0 ≤ 1000; omega) (Int8.ofInt 77).toInt32 h1) ?_; dsimp only [Option.toList, List.drop, List.cons_append, List.nil_append, e_pl1, e_pl2, e_pl3])
    refine w_if1 rfl (fun _ => ?_) (fun h5 => absurd rfl h5)
    (repeat (first | refine w_iadd1 rfl ?_ | refine w_isub1 rfl ?_ | refine w_iinc1 rfl rfl ?_ | refine w_s rfl rfl ?_ | refine w_get rfl rfl rfl rfl ?_ | refine w_nnl rfl ?_ | refine w_nnlR rfl ?_ | refine w_nul rfl ?_ | refine w_nulR rfl ?_ | refine w_ldc rfl rfl ?_ | refine w_ldc2 rfl rfl ?_ | refine w_put rfl rfl rfl (Nat.le_of_ble_eq_true rfl) (Or.inl rfl) rfl rfl ?_))
    (refine w_iret rfl rfl rfl ?_)
    rfl
  · (refine w_cv rfl rfl rfl rfl (by exact Nat.le_of_ble_eq_true rfl) (by exact Nat.le_of_ble_eq_true rfl) (r_passes1 (c := (ax_St.u_pl c 0)) hn (by show 0 ≤ 1000; omega) (Int8.ofInt 77).toInt32 h1) ?_; dsimp only [Option.toList, List.drop, List.cons_append, List.nil_append, e_pl1, e_pl2, e_pl3])
    refine w_if1 rfl (fun h5 => absurd h5 k_eq1) (fun _ => ?_)
    (repeat (first | refine w_iadd1 rfl ?_ | refine w_isub1 rfl ?_ | refine w_iinc1 rfl rfl ?_ | refine w_s rfl rfl ?_ | refine w_get rfl rfl rfl rfl ?_ | refine w_nnl rfl ?_ | refine w_nnlR rfl ?_ | refine w_nul rfl ?_ | refine w_nulR rfl ?_ | refine w_ldc rfl rfl ?_ | refine w_ldc2 rfl rfl ?_ | refine w_put rfl rfl rfl (Nat.le_of_ble_eq_true rfl) (Or.inl rfl) rfl rfl ?_))
    (refine w_cv rfl rfl rfl rfl (by exact Nat.le_of_ble_eq_true rfl) (by exact Nat.le_of_ble_eq_true rfl) (r_next (c := (ax_St.u_pl c 1)) hn (by show 1 ≤ 1000; omega)) ?_; dsimp only [Option.toList, List.drop, List.cons_append, List.nil_append, e_pl1, e_pl2, e_pl3])
    (refine w_cs rfl rfl (by first | decide | exact Nat.le_of_ble_eq_true rfl) (by exact Nat.le_of_ble_eq_true rfl) (r_isDigit _) ?_; dsimp only [Option.toList, List.drop, List.cons_append, List.nil_append, e_pl1, e_pl2, e_pl3])
    refine w_if1 rfl (fun h5 => absurd (c_ne0.mp h5) h2) (fun _ => ?_)
    (repeat (first | refine w_iadd1 rfl ?_ | refine w_isub1 rfl ?_ | refine w_iinc1 rfl rfl ?_ | refine w_s rfl rfl ?_ | refine w_get rfl rfl rfl rfl ?_ | refine w_nnl rfl ?_ | refine w_nnlR rfl ?_ | refine w_nul rfl ?_ | refine w_nulR rfl ?_ | refine w_ldc rfl rfl ?_ | refine w_ldc2 rfl rfl ?_ | refine w_put rfl rfl rfl (Nat.le_of_ble_eq_true rfl) (Or.inl rfl) rfl rfl ?_))
    (refine w_iret rfl rfl rfl ?_)
    rfl
  · (refine w_cv rfl rfl rfl rfl (by exact Nat.le_of_ble_eq_true rfl) (by exact Nat.le_of_ble_eq_true rfl) (r_passes1 (c := (ax_St.u_pl c 0)) hn (by show 0 ≤ 1000; omega) (Int8.ofInt 77).toInt32 h1) ?_; dsimp only [Option.toList, List.drop, List.cons_append, List.nil_append, e_pl1, e_pl2, e_pl3])
    refine w_if1 rfl (fun h5 => absurd h5 k_eq1) (fun _ => ?_)
    (repeat (first | refine w_iadd1 rfl ?_ | refine w_isub1 rfl ?_ | refine w_iinc1 rfl rfl ?_ | refine w_s rfl rfl ?_ | refine w_get rfl rfl rfl rfl ?_ | refine w_nnl rfl ?_ | refine w_nnlR rfl ?_ | refine w_nul rfl ?_ | refine w_nulR rfl ?_ | refine w_ldc rfl rfl ?_ | refine w_ldc2 rfl rfl ?_ | refine w_put rfl rfl rfl (Nat.le_of_ble_eq_true rfl) (Or.inl rfl) rfl rfl ?_))
    (refine w_cv rfl rfl rfl rfl (by exact Nat.le_of_ble_eq_true rfl) (by exact Nat.le_of_ble_eq_true rfl) (r_next (c := (ax_St.u_pl c 1)) hn (by show 1 ≤ 1000; omega)) ?_; dsimp only [Option.toList, List.drop, List.cons_append, List.nil_append, e_pl1, e_pl2, e_pl3])
    (refine w_cs rfl rfl (by first | decide | exact Nat.le_of_ble_eq_true rfl) (by exact Nat.le_of_ble_eq_true rfl) (r_isDigit _) ?_; dsimp only [Option.toList, List.drop, List.cons_append, List.nil_append, e_pl1, e_pl2, e_pl3])
    refine w_if1 rfl (fun _ => ?_) (fun h5 => absurd (c_ne0.mpr h2) h5)
    (repeat (first | refine w_iadd1 rfl ?_ | refine w_isub1 rfl ?_ | refine w_iinc1 rfl rfl ?_ | refine w_s rfl rfl ?_ | refine w_get rfl rfl rfl rfl ?_ | refine w_nnl rfl ?_ | refine w_nnlR rfl ?_ | refine w_nul rfl ?_ | refine w_nulR rfl ?_ | refine w_ldc rfl rfl ?_ | refine w_ldc2 rfl rfl ?_ | refine w_put rfl rfl rfl (Nat.le_of_ble_eq_true rfl) (Or.inl rfl) rfl rfl ?_))
    (refine w_cv rfl rfl rfl rfl (by exact Nat.le_of_ble_eq_true rfl) (by exact Nat.le_of_ble_eq_true rfl) (r_next (c := (ax_St.u_pl c 1)) hn (by show 1 ≤ 1000; omega)) ?_; dsimp only [Option.toList, List.drop, List.cons_append, List.nil_append, e_pl1, e_pl2, e_pl3])
    (repeat ((fail_if_success (show ax_wp _ _ _ 33 _ _ _)); (first | refine w_iadd1 rfl ?_ | refine w_isub1 rfl ?_ | refine w_iinc1 rfl rfl ?_ | refine w_s rfl rfl ?_ | refine w_get rfl rfl rfl rfl ?_ | refine w_nnl rfl ?_ | refine w_nnlR rfl ?_ | refine w_nul rfl ?_ | refine w_nulR rfl ?_ | refine w_ldc rfl rfl ?_ | refine w_ldc2 rfl rfl ?_ | refine w_put rfl rfl rfl (Nat.le_of_ble_eq_true rfl) (Or.inl rfl) rfl rfl ?_)))
    obtain ⟨e, he, he2, -⟩ := q_nat (x := nx c.tl c.ch 1) (by have := h2.1; omega)
    have h7 := h2.1
    have h8 := h2.2
    refine w_eqI (y := nI (e - 48)) (q_dig2 e _ (by omega) (by omega) (by omega)) ?_
    rw [show (nx c.tl c.ch 1).toInt.toNat = e by omega] at h3
    (repeat (first | refine w_iadd1 rfl ?_ | refine w_isub1 rfl ?_ | refine w_iinc1 rfl rfl ?_ | refine w_s rfl rfl ?_ | refine w_get rfl rfl rfl rfl ?_ | refine w_nnl rfl ?_ | refine w_nnlR rfl ?_ | refine w_nul rfl ?_ | refine w_nulR rfl ?_ | refine w_ldc rfl rfl ?_ | refine w_ldc2 rfl rfl ?_ | refine w_put rfl rfl rfl (Nat.le_of_ble_eq_true rfl) (Or.inl rfl) rfl rfl ?_))
    refine w_if2 rfl (fun _ => ?_) (fun h5 => ?_)
    · (repeat (first | refine w_iadd1 rfl ?_ | refine w_isub1 rfl ?_ | refine w_iinc1 rfl rfl ?_ | refine w_s rfl rfl ?_ | refine w_get rfl rfl rfl rfl ?_ | refine w_nnl rfl ?_ | refine w_nnlR rfl ?_ | refine w_nul rfl ?_ | refine w_nulR rfl ?_ | refine w_ldc rfl rfl ?_ | refine w_ldc2 rfl rfl ?_ | refine w_put rfl rfl rfl (Nat.le_of_ble_eq_true rfl) (Or.inl rfl) rfl rfl ?_))
      (refine w_iret rfl rfl rfl ?_)
      rfl
    · have h6 : ¬ t < e - 48 := fun z => h5 ((cn_lt (a := t) (b := e - 48) (by omega) (by omega)).mpr z)
      (repeat (first | refine w_iadd1 rfl ?_ | refine w_isub1 rfl ?_ | refine w_iinc1 rfl rfl ?_ | refine w_s rfl rfl ?_ | refine w_get rfl rfl rfl rfl ?_ | refine w_nnl rfl ?_ | refine w_nnlR rfl ?_ | refine w_nul rfl ?_ | refine w_nulR rfl ?_ | refine w_ldc rfl rfl ?_ | refine w_ldc2 rfl rfl ?_ | refine w_put rfl rfl rfl (Nat.le_of_ble_eq_true rfl) (Or.inl rfl) rfl rfl ?_))
      refine w_if2 rfl (fun h5 => absurd ((cn_lt (a := e - 48) (b := 4) (by omega) (by omega)).mp h5) (by omega)) (fun _ => ?_)
      (repeat (first | refine w_iadd1 rfl ?_ | refine w_isub1 rfl ?_ | refine w_iinc1 rfl rfl ?_ | refine w_s rfl rfl ?_ | refine w_get rfl rfl rfl rfl ?_ | refine w_nnl rfl ?_ | refine w_nnlR rfl ?_ | refine w_nul rfl ?_ | refine w_nulR rfl ?_ | refine w_ldc rfl rfl ?_ | refine w_ldc2 rfl rfl ?_ | refine w_put rfl rfl rfl (Nat.le_of_ble_eq_true rfl) (Or.inl rfl) rfl rfl ?_))
      (refine w_iret rfl rfl rfl ?_)
      rfl
theorem r_readNumber1 (hn : c.tl ≤ 400) (t : Nat) (ht : t ≤ 4) (h1 : nx c.tl c.ch 0 = 77) (h2 : dg c.tl c.ch 1) (h3 : ¬ (t < (nx c.tl c.ch 1).toInt.toNat - 48 ∨ 4 ≤ (nx c.tl c.ch 1).toInt.toNat - 48)) :
    ax_run m_Tx_readNumber [.ref 2, .int (nI t)] (ax_hp L xs c m o P, u) (.inl (some (.int (nI ((nx c.tl c.ch 1).toInt.toNat - 48)))), (ax_hp L xs (ax_St.u_pl c 2) m o P, u)) := by
  obtain ⟨e, he, he2, -⟩ := q_nat (x := nx c.tl c.ch 1) (by have := h2.1; omega)
  have h7 := h2.1
  have h8 := h2.2
  rw [show (nx c.tl c.ch 1).toInt.toNat = e by omega] at h3 ⊢
  (refine ax_run_T (ax_T_of M_Tx_readNumber rfl (Nat.le_of_ble_eq_true rfl) ?_))
  (repeat (first | refine w_iadd1 rfl ?_ | refine w_isub1 rfl ?_ | refine w_iinc1 rfl rfl ?_ | refine w_s rfl rfl ?_ | refine w_get rfl rfl rfl rfl ?_ | refine w_nnl rfl ?_ | refine w_nnlR rfl ?_ | refine w_nul rfl ?_ | refine w_nulR rfl ?_ | refine w_ldc rfl rfl ?_ | refine w_ldc2 rfl rfl ?_ | refine w_put rfl rfl rfl (Nat.le_of_ble_eq_true rfl) (Or.inl rfl) rfl rfl ?_))
  (refine w_cv rfl rfl rfl rfl (by exact Nat.le_of_ble_eq_true rfl) (by exact Nat.le_of_ble_eq_true rfl) (r_passes1 (c := (ax_St.u_pl c 0)) hn (by show 0 ≤ 1000; omega) (Int8.ofInt 77).toInt32 h1) ?_; dsimp only [Option.toList, List.drop, List.cons_append, List.nil_append, e_pl1, e_pl2, e_pl3])
  refine w_if1 rfl (fun h5 => absurd h5 k_eq1) (fun _ => ?_)
  (repeat (first | refine w_iadd1 rfl ?_ | refine w_isub1 rfl ?_ | refine w_iinc1 rfl rfl ?_ | refine w_s rfl rfl ?_ | refine w_get rfl rfl rfl rfl ?_ | refine w_nnl rfl ?_ | refine w_nnlR rfl ?_ | refine w_nul rfl ?_ | refine w_nulR rfl ?_ | refine w_ldc rfl rfl ?_ | refine w_ldc2 rfl rfl ?_ | refine w_put rfl rfl rfl (Nat.le_of_ble_eq_true rfl) (Or.inl rfl) rfl rfl ?_))
  (refine w_cv rfl rfl rfl rfl (by exact Nat.le_of_ble_eq_true rfl) (by exact Nat.le_of_ble_eq_true rfl) (r_next (c := (ax_St.u_pl c 1)) hn (by show 1 ≤ 1000; omega)) ?_; dsimp only [Option.toList, List.drop, List.cons_append, List.nil_append, e_pl1, e_pl2, e_pl3])
  (refine w_cs rfl rfl (by first | decide | exact Nat.le_of_ble_eq_true rfl) (by exact Nat.le_of_ble_eq_true rfl) (r_isDigit _) ?_; dsimp only [Option.toList, List.drop, List.cons_append, List.nil_append, e_pl1, e_pl2, e_pl3])
  refine w_if1 rfl (fun _ => ?_) (fun h5 => absurd (c_ne0.mpr h2) h5)
  (repeat (first | refine w_iadd1 rfl ?_ | refine w_isub1 rfl ?_ | refine w_iinc1 rfl rfl ?_ | refine w_s rfl rfl ?_ | refine w_get rfl rfl rfl rfl ?_ | refine w_nnl rfl ?_ | refine w_nnlR rfl ?_ | refine w_nul rfl ?_ | refine w_nulR rfl ?_ | refine w_ldc rfl rfl ?_ | refine w_ldc2 rfl rfl ?_ | refine w_put rfl rfl rfl (Nat.le_of_ble_eq_true rfl) (Or.inl rfl) rfl rfl ?_))
  (refine w_cv rfl rfl rfl rfl (by exact Nat.le_of_ble_eq_true rfl) (by exact Nat.le_of_ble_eq_true rfl) (r_next (c := (ax_St.u_pl c 1)) hn (by show 1 ≤ 1000; omega)) ?_; dsimp only [Option.toList, List.drop, List.cons_append, List.nil_append, e_pl1, e_pl2, e_pl3])
  (repeat ((fail_if_success (show ax_wp _ _ _ 33 _ _ _)); (first | refine w_iadd1 rfl ?_ | refine w_isub1 rfl ?_ | refine w_iinc1 rfl rfl ?_ | refine w_s rfl rfl ?_ | refine w_get rfl rfl rfl rfl ?_ | refine w_nnl rfl ?_ | refine w_nnlR rfl ?_ | refine w_nul rfl ?_ | refine w_nulR rfl ?_ | refine w_ldc rfl rfl ?_ | refine w_ldc2 rfl rfl ?_ | refine w_put rfl rfl rfl (Nat.le_of_ble_eq_true rfl) (Or.inl rfl) rfl rfl ?_)))
  refine w_eqI (y := nI (e - 48)) (q_dig2 e _ (by omega) (by omega) (by omega)) ?_
  (repeat (first | refine w_iadd1 rfl ?_ | refine w_isub1 rfl ?_ | refine w_iinc1 rfl rfl ?_ | refine w_s rfl rfl ?_ | refine w_get rfl rfl rfl rfl ?_ | refine w_nnl rfl ?_ | refine w_nnlR rfl ?_ | refine w_nul rfl ?_ | refine w_nulR rfl ?_ | refine w_ldc rfl rfl ?_ | refine w_ldc2 rfl rfl ?_ | refine w_put rfl rfl rfl (Nat.le_of_ble_eq_true rfl) (Or.inl rfl) rfl rfl ?_))
  refine w_if2 rfl (fun h5 => absurd ((cn_lt (a := t) (b := e - 48) (by omega) (by omega)).mp h5) (by omega)) (fun _ => ?_)
  (repeat (first | refine w_iadd1 rfl ?_ | refine w_isub1 rfl ?_ | refine w_iinc1 rfl rfl ?_ | refine w_s rfl rfl ?_ | refine w_get rfl rfl rfl rfl ?_ | refine w_nnl rfl ?_ | refine w_nnlR rfl ?_ | refine w_nul rfl ?_ | refine w_nulR rfl ?_ | refine w_ldc rfl rfl ?_ | refine w_ldc2 rfl rfl ?_ | refine w_put rfl rfl rfl (Nat.le_of_ble_eq_true rfl) (Or.inl rfl) rfl rfl ?_))
  refine w_if2 rfl (fun _ => ?_) (fun h5 => absurd ((cn_lt (a := e - 48) (b := 4) (by omega) (by omega)).mpr (by omega)) h5)
  (repeat (first | refine w_iadd1 rfl ?_ | refine w_isub1 rfl ?_ | refine w_iinc1 rfl rfl ?_ | refine w_s rfl rfl ?_ | refine w_get rfl rfl rfl rfl ?_ | refine w_nnl rfl ?_ | refine w_nnlR rfl ?_ | refine w_nul rfl ?_ | refine w_nulR rfl ?_ | refine w_ldc rfl rfl ?_ | refine w_ldc2 rfl rfl ?_ | refine w_put rfl rfl rfl (Nat.le_of_ble_eq_true rfl) (Or.inl rfl) rfl rfl ?_))
  (refine w_iret rfl rfl rfl ?_)
  rfl
theorem r_keepOffer {X : List (Option ax_C)} {fs : List Value} (hX : X[0]? = some (some (.inr (4, fs)))) (k : Nat) (hk : k < 4) (ht : c.told ≤ 4) : ax_run m_ML_keepOffer [.ref 1, .int (nI k), .ref (P.length + 0 + 40)] (ax_hp L xs c m o (P ++ X), u) (.inl none, (ax_hp L xs (ax_St.u_told (ax_St.u_of c (va_up c.of k (some (P.length + 0 + 40)))) (max c.told (k + 1))) m o (P ++ X), u)) := by
  (refine ax_run_T (ax_T_of M_ML_keepOffer rfl (Nat.le_of_ble_eq_true rfl) ?_))
  (repeat (first | refine w_iadd1 rfl ?_ | refine w_isub1 rfl ?_ | refine w_iinc1 rfl rfl ?_ | refine w_s rfl rfl ?_ | refine w_get rfl rfl rfl rfl ?_ | refine w_nnl rfl ?_ | refine w_nnlR rfl ?_ | refine w_nul rfl ?_ | refine w_nulR rfl ?_ | refine w_ldc rfl rfl ?_ | refine w_ldc2 rfl rfl ?_ | refine w_put rfl rfl rfl (Nat.le_of_ble_eq_true rfl) (Or.inl rfl) rfl rfl ?_))
  refine w_if1 rfl (fun h5 => absurd (c_lt0.mp h5) (by rw [q_nI' (by omega)]; omega)) (fun _ => ?_)
  (repeat (first | refine w_iadd1 rfl ?_ | refine w_isub1 rfl ?_ | refine w_iinc1 rfl rfl ?_ | refine w_s rfl rfl ?_ | refine w_get rfl rfl rfl rfl ?_ | refine w_nnl rfl ?_ | refine w_nnlR rfl ?_ | refine w_nul rfl ?_ | refine w_nulR rfl ?_ | refine w_ldc rfl rfl ?_ | refine w_ldc2 rfl rfl ?_ | refine w_put rfl rfl rfl (Nat.le_of_ble_eq_true rfl) (Or.inl rfl) rfl rfl ?_))
  refine w_if2 rfl (fun _ => ?_) (fun h5 => absurd ((cn_lt (a := k) (b := 4) (by omega) (by omega)).mpr hk) h5)
  (repeat (first | refine w_iadd1 rfl ?_ | refine w_isub1 rfl ?_ | refine w_iinc1 rfl rfl ?_ | refine w_s rfl rfl ?_ | refine w_get rfl rfl rfl rfl ?_ | refine w_nnl rfl ?_ | refine w_nnlR rfl ?_ | refine w_nul rfl ?_ | refine w_nulR rfl ?_ | refine w_ldc rfl rfl ?_ | refine w_ldc2 rfl rfl ?_ | refine w_put rfl rfl rfl (Nat.le_of_ble_eq_true rfl) (Or.inl rfl) rfl rfl ?_))
  refine w_aas rfl rfl (Or.inl rfl) rfl hk (by decide) (hp_at (ga hX)) ?_
  (repeat (first | refine w_iadd1 rfl ?_ | refine w_isub1 rfl ?_ | refine w_iinc1 rfl rfl ?_ | refine w_s rfl rfl ?_ | refine w_get rfl rfl rfl rfl ?_ | refine w_nnl rfl ?_ | refine w_nnlR rfl ?_ | refine w_nul rfl ?_ | refine w_nulR rfl ?_ | refine w_ldc rfl rfl ?_ | refine w_ldc2 rfl rfl ?_ | refine w_put rfl rfl rfl (Nat.le_of_ble_eq_true rfl) (Or.inl rfl) rfl rfl ?_))
  (refine w_cs rfl rfl (by first | decide | exact Nat.le_of_ble_eq_true rfl) (by exact Nat.le_of_ble_eq_true rfl) (r_maxI c.told (k + 1) (by omega) (by omega)) ?_; dsimp only [Option.toList, List.drop, List.cons_append, List.nil_append, e_pl1, e_pl2, e_pl3])
  (repeat (first | refine w_iadd1 rfl ?_ | refine w_isub1 rfl ?_ | refine w_iinc1 rfl rfl ?_ | refine w_s rfl rfl ?_ | refine w_get rfl rfl rfl rfl ?_ | refine w_nnl rfl ?_ | refine w_nnlR rfl ?_ | refine w_nul rfl ?_ | refine w_nulR rfl ?_ | refine w_ldc rfl rfl ?_ | refine w_ldc2 rfl rfl ?_ | refine w_put rfl rfl rfl (Nat.le_of_ble_eq_true rfl) (Or.inl rfl) rfl rfl ?_))
  refine w_vret rfl rfl ?_
  rfl
/-- how maker ends -/
def QM (L : Nat) (xs : Nat → Int32) (c : ax_St) (m : ax_Mo) (o : Nat → Int64) (P : List (Option ax_C)) (u : Nat) (q : Nat ⊕ (Nat × Nat × (Nat → ax_Rw))) (r : ax_R) : Prop := match q with
  | .inl e => ∃ (X : List (Option ax_C)) (u' : Nat), r = (.inl (some (.int (Int32.ofInt (-1) - nI e))), (ax_hp L xs (ax_St.u_pl (ax_St.u_tl c 0) e) m o (P ++ X), u')) ∧ X.length ≤ 22 ∧ u' ≤ u + 106
  | .inr (k, n, ds) => ∃ (X : List (Option ax_C)) (u' : Nat) (F : ax_Of) (tp : Nat), r = (.inl (some (.int (nI k))), (ax_hp L xs (ax_St.u_told (ax_St.u_of (ax_St.u_pl (ax_St.u_tl c 0) tp) (va_up c.of k (some (P.length + 0 + 40)))) (max c.told (k + 1))) m o (P ++ X), u')) ∧ X.length ≤ 22 ∧ u' ≤ u + 106 ∧ k ≤ c.told ∧ k < 4 ∧ F.n = n ∧ 1 ≤ n ∧ n ≤ 4 ∧ OfferAt (P ++ X) P.length F ∧ ∀ j, j < n → gok (ds j) ∧ GM (F.g j) (ds j)
theorem r_maker (hn : c.tl ≤ 400) (ht : c.told ≤ 4) : ax_T m_ML_maker [.ref 1] (ax_hp L xs c m o P, u) (QM L xs c m o P u (mk c.tl c.ch c.told)) := by
  have fl : ∀ (p : Nat), ((¬ nx c.tl c.ch 0 = 77 ∧ p = 0) ∨ (nx c.tl c.ch 0 = 77 ∧ ¬ dg c.tl c.ch 1 ∧ p = 1) ∨ (nx c.tl c.ch 0 = 77 ∧ dg c.tl c.ch 1 ∧ (c.told < (nx c.tl c.ch 1).toInt.toNat - 48 ∨ 4 ≤ (nx c.tl c.ch 1).toInt.toNat - 48) ∧ p = 0)) → ax_T m_ML_maker [.ref 1] (ax_hp L xs c m o P, u) (QM L xs c m o P u (.inl p)) := by
    intro p hp
    (refine ax_T_of M_ML_maker rfl (Nat.le_of_ble_eq_true rfl) ?_)
    (repeat (first | refine w_iadd1 rfl ?_ | refine w_isub1 rfl ?_ | refine w_iinc1 rfl rfl ?_ | refine w_s rfl rfl ?_ | refine w_get rfl rfl rfl rfl ?_ | refine w_nnl rfl ?_ | refine w_nnlR rfl ?_ | refine w_nul rfl ?_ | refine w_nulR rfl ?_ | refine w_ldc rfl rfl ?_ | refine w_ldc2 rfl rfl ?_ | refine w_put rfl rfl rfl (Nat.le_of_ble_eq_true rfl) (Or.inl rfl) rfl rfl ?_))
    (refine w_cv rfl rfl rfl rfl (by exact Nat.le_of_ble_eq_true rfl) (by exact Nat.le_of_ble_eq_true rfl) (r_readNumber0 hn c.told ht p hp) ?_; dsimp only [Option.toList, List.drop, List.cons_append, List.nil_append, e_pl1, e_pl2, e_pl3])
    (repeat (first | refine w_iadd1 rfl ?_ | refine w_isub1 rfl ?_ | refine w_iinc1 rfl rfl ?_ | refine w_s rfl rfl ?_ | refine w_get rfl rfl rfl rfl ?_ | refine w_nnl rfl ?_ | refine w_nnlR rfl ?_ | refine w_nul rfl ?_ | refine w_nulR rfl ?_ | refine w_ldc rfl rfl ?_ | refine w_ldc2 rfl rfl ?_ | refine w_put rfl rfl rfl (Nat.le_of_ble_eq_true rfl) (Or.inl rfl) rfl rfl ?_))
    refine w_if2 rfl (fun h5 => absurd rfl h5) (fun _ => ?_)
    (repeat (first | refine w_iadd1 rfl ?_ | refine w_isub1 rfl ?_ | refine w_iinc1 rfl rfl ?_ | refine w_s rfl rfl ?_ | refine w_get rfl rfl rfl rfl ?_ | refine w_nnl rfl ?_ | refine w_nnlR rfl ?_ | refine w_nul rfl ?_ | refine w_nulR rfl ?_ | refine w_ldc rfl rfl ?_ | refine w_ldc2 rfl rfl ?_ | refine w_put rfl rfl rfl (Nat.le_of_ble_eq_true rfl) (Or.inl rfl) rfl rfl ?_))
    (refine w_cv rfl rfl rfl rfl (by exact Nat.le_of_ble_eq_true rfl) (by exact Nat.le_of_ble_eq_true rfl) (r_Tx_place (c := (ax_St.u_pl c p))) ?_; dsimp only [Option.toList, List.drop, List.cons_append, List.nil_append, e_pl1, e_pl2, e_pl3])
    obtain ⟨z, hz⟩ : ∃ z, z = Int32.ofInt (-1) - nI p := ⟨_, rfl⟩
    refine w_s rfl rfl ?_
    refine w_eqI (y := z) hz.symm ?_
    (repeat (first | refine w_iadd1 rfl ?_ | refine w_isub1 rfl ?_ | refine w_iinc1 rfl rfl ?_ | refine w_s rfl rfl ?_ | refine w_get rfl rfl rfl rfl ?_ | refine w_nnl rfl ?_ | refine w_nnlR rfl ?_ | refine w_nul rfl ?_ | refine w_nulR rfl ?_ | refine w_ldc rfl rfl ?_ | refine w_ldc2 rfl rfl ?_ | refine w_put rfl rfl rfl (Nat.le_of_ble_eq_true rfl) (Or.inl rfl) rfl rfl ?_))
    (refine w_cv rfl rfl rfl rfl (by exact Nat.le_of_ble_eq_true rfl) (by exact Nat.le_of_ble_eq_true rfl) (r_Tx_forget (c := (ax_St.u_pl c p))) ?_; dsimp only [Option.toList, List.drop, List.cons_append, List.nil_append, e_pl1, e_pl2, e_pl3])
    (repeat (first | refine w_iadd1 rfl ?_ | refine w_isub1 rfl ?_ | refine w_iinc1 rfl rfl ?_ | refine w_s rfl rfl ?_ | refine w_get rfl rfl rfl rfl ?_ | refine w_nnl rfl ?_ | refine w_nnlR rfl ?_ | refine w_nul rfl ?_ | refine w_nulR rfl ?_ | refine w_ldc rfl rfl ?_ | refine w_ldc2 rfl rfl ?_ | refine w_put rfl rfl rfl (Nat.le_of_ble_eq_true rfl) (Or.inl rfl) rfl rfl ?_))
    (refine w_iret rfl rfl rfl ?_)
    exact ⟨[], u, by rw [List.append_nil, hz], by decide, by omega⟩
  unfold mk
  by_cases h1 : nx c.tl c.ch 0 = 77
  · rw [if_neg (fun z => z h1)]
    by_cases h2 : dg c.tl c.ch 1
    · rw [if_neg (fun z => z h2)]
      by_cases h3 : c.told < (nx c.tl c.ch 1).toInt.toNat - 48 ∨ 4 ≤ (nx c.tl c.ch 1).toInt.toNat - 48
      · rw [if_pos h3]
        exact fl 0 (Or.inr (Or.inr ⟨h1, h2, h3, rfl⟩))
      · rw [if_neg h3]
        have hlt := dg_lt h2
        obtain ⟨r1, hr1, hq⟩ := r_readOffer (L := L) (xs := xs) (c := c) (m := m) (o := o) (P := P) (u := u) hn 2 (by omega) ax_ds0
        generalize ro c.tl c.ch 5 0 2 ax_ds0 = RO at hq
        have hrn := r_readNumber1 (L := L) (xs := xs) (m := m) (o := o) (P := P) (u := u) hn c.told ht h1 h2 h3
        generalize (nx c.tl c.ch 1).toInt.toNat - 48 = k at h3 hrn
        (refine ax_T_of M_ML_maker rfl (Nat.le_of_ble_eq_true rfl) ?_)
        (repeat (first | refine w_iadd1 rfl ?_ | refine w_isub1 rfl ?_ | refine w_iinc1 rfl rfl ?_ | refine w_s rfl rfl ?_ | refine w_get rfl rfl rfl rfl ?_ | refine w_nnl rfl ?_ | refine w_nnlR rfl ?_ | refine w_nul rfl ?_ | refine w_nulR rfl ?_ | refine w_ldc rfl rfl ?_ | refine w_ldc2 rfl rfl ?_ | refine w_put rfl rfl rfl (Nat.le_of_ble_eq_true rfl) (Or.inl rfl) rfl rfl ?_))
        (refine w_cv rfl rfl rfl rfl (by exact Nat.le_of_ble_eq_true rfl) (by exact Nat.le_of_ble_eq_true rfl) hrn ?_; dsimp only [Option.toList, List.drop, List.cons_append, List.nil_append, e_pl1, e_pl2, e_pl3])
        (repeat (first | refine w_iadd1 rfl ?_ | refine w_isub1 rfl ?_ | refine w_iinc1 rfl rfl ?_ | refine w_s rfl rfl ?_ | refine w_get rfl rfl rfl rfl ?_ | refine w_nnl rfl ?_ | refine w_nnlR rfl ?_ | refine w_nul rfl ?_ | refine w_nulR rfl ?_ | refine w_ldc rfl rfl ?_ | refine w_ldc2 rfl rfl ?_ | refine w_put rfl rfl rfl (Nat.le_of_ble_eq_true rfl) (Or.inl rfl) rfl rfl ?_))
        refine w_if2 rfl (fun _ => ?_) (fun h5 => absurd (Decidable.not_not.mp h5) (nI_ne (by omega)))
        (repeat (first | refine w_iadd1 rfl ?_ | refine w_isub1 rfl ?_ | refine w_iinc1 rfl rfl ?_ | refine w_s rfl rfl ?_ | refine w_get rfl rfl rfl rfl ?_ | refine w_nnl rfl ?_ | refine w_nnlR rfl ?_ | refine w_nul rfl ?_ | refine w_nulR rfl ?_ | refine w_ldc rfl rfl ?_ | refine w_ldc2 rfl rfl ?_ | refine w_put rfl rfl rfl (Nat.le_of_ble_eq_true rfl) (Or.inl rfl) rfl rfl ?_))
        cases RO with
        | inl e =>
          obtain ⟨X, u', rfl, hX, hu⟩ := hq
          (refine w_cv rfl rfl rfl rfl (by exact Nat.le_of_ble_eq_true rfl) (by exact Nat.le_of_ble_eq_true rfl) hr1 ?_; dsimp only [Option.toList, List.drop, List.cons_append, List.nil_append, e_pl1, e_pl2, e_pl3])
          (repeat (first | refine w_iadd1 rfl ?_ | refine w_isub1 rfl ?_ | refine w_iinc1 rfl rfl ?_ | refine w_s rfl rfl ?_ | refine w_get rfl rfl rfl rfl ?_ | refine w_nnl rfl ?_ | refine w_nnlR rfl ?_ | refine w_nul rfl ?_ | refine w_nulR rfl ?_ | refine w_ldc rfl rfl ?_ | refine w_ldc2 rfl rfl ?_ | refine w_put rfl rfl rfl (Nat.le_of_ble_eq_true rfl) (Or.inl rfl) rfl rfl ?_))
          (refine w_cv rfl rfl rfl rfl (by exact Nat.le_of_ble_eq_true rfl) (by exact Nat.le_of_ble_eq_true rfl) (r_Tx_place (c := (ax_St.u_pl c e))) ?_; dsimp only [Option.toList, List.drop, List.cons_append, List.nil_append, e_pl1, e_pl2, e_pl3])
          obtain ⟨z, hz⟩ : ∃ z, z = Int32.ofInt (-1) - nI e := ⟨_, rfl⟩
          refine w_s rfl rfl ?_
          refine w_eqI (y := z) hz.symm ?_
          (repeat (first | refine w_iadd1 rfl ?_ | refine w_isub1 rfl ?_ | refine w_iinc1 rfl rfl ?_ | refine w_s rfl rfl ?_ | refine w_get rfl rfl rfl rfl ?_ | refine w_nnl rfl ?_ | refine w_nnlR rfl ?_ | refine w_nul rfl ?_ | refine w_nulR rfl ?_ | refine w_ldc rfl rfl ?_ | refine w_ldc2 rfl rfl ?_ | refine w_put rfl rfl rfl (Nat.le_of_ble_eq_true rfl) (Or.inl rfl) rfl rfl ?_))
          (refine w_cv rfl rfl rfl rfl (by exact Nat.le_of_ble_eq_true rfl) (by exact Nat.le_of_ble_eq_true rfl) (r_Tx_forget (c := (ax_St.u_pl c e))) ?_; dsimp only [Option.toList, List.drop, List.cons_append, List.nil_append, e_pl1, e_pl2, e_pl3])
          (repeat (first | refine w_iadd1 rfl ?_ | refine w_isub1 rfl ?_ | refine w_iinc1 rfl rfl ?_ | refine w_s rfl rfl ?_ | refine w_get rfl rfl rfl rfl ?_ | refine w_nnl rfl ?_ | refine w_nnlR rfl ?_ | refine w_nul rfl ?_ | refine w_nulR rfl ?_ | refine w_ldc rfl rfl ?_ | refine w_ldc2 rfl rfl ?_ | refine w_put rfl rfl rfl (Nat.le_of_ble_eq_true rfl) (Or.inl rfl) rfl rfl ?_))
          (refine w_iret rfl rfl rfl ?_)
          exact ⟨X, u', by rw [hz], hX, hu⟩
        | inr q =>
          obtain ⟨n, ds⟩ := q
          obtain ⟨X, u', t, F, rfl, hX, hu, hF, h1n, hn4, hO, ⟨fs, hfs⟩, hds⟩ := hq
          (refine w_cv rfl rfl rfl rfl (by exact Nat.le_of_ble_eq_true rfl) (by exact Nat.le_of_ble_eq_true rfl) hr1 ?_; dsimp only [Option.toList, List.drop, List.cons_append, List.nil_append, e_pl1, e_pl2, e_pl3])
          (repeat (first | refine w_iadd1 rfl ?_ | refine w_isub1 rfl ?_ | refine w_iinc1 rfl rfl ?_ | refine w_s rfl rfl ?_ | refine w_get rfl rfl rfl rfl ?_ | refine w_nnl rfl ?_ | refine w_nnlR rfl ?_ | refine w_nul rfl ?_ | refine w_nulR rfl ?_ | refine w_ldc rfl rfl ?_ | refine w_ldc2 rfl rfl ?_ | refine w_put rfl rfl rfl (Nat.le_of_ble_eq_true rfl) (Or.inl rfl) rfl rfl ?_))
          (refine w_cv rfl rfl rfl rfl (by exact Nat.le_of_ble_eq_true rfl) (by exact Nat.le_of_ble_eq_true rfl) (r_keepOffer (c := (ax_St.u_pl c t)) hfs k (by omega) ht) ?_; dsimp only [Option.toList, List.drop, List.cons_append, List.nil_append, e_pl1, e_pl2, e_pl3])
          (repeat (first | refine w_iadd1 rfl ?_ | refine w_isub1 rfl ?_ | refine w_iinc1 rfl rfl ?_ | refine w_s rfl rfl ?_ | refine w_get rfl rfl rfl rfl ?_ | refine w_nnl rfl ?_ | refine w_nnlR rfl ?_ | refine w_nul rfl ?_ | refine w_nulR rfl ?_ | refine w_ldc rfl rfl ?_ | refine w_ldc2 rfl rfl ?_ | refine w_put rfl rfl rfl (Nat.le_of_ble_eq_true rfl) (Or.inl rfl) rfl rfl ?_))
          (refine w_cv rfl rfl rfl rfl (by exact Nat.le_of_ble_eq_true rfl) (by exact Nat.le_of_ble_eq_true rfl) (r_Tx_forget (c := (ax_St.u_told (ax_St.u_of (ax_St.u_pl c t) (va_up c.of k (some (P.length + 0 + 40)))) (max c.told (k + 1))))) ?_; dsimp only [Option.toList, List.drop, List.cons_append, List.nil_append, e_pl1, e_pl2, e_pl3])
          (repeat (first | refine w_iadd1 rfl ?_ | refine w_isub1 rfl ?_ | refine w_iinc1 rfl rfl ?_ | refine w_s rfl rfl ?_ | refine w_get rfl rfl rfl rfl ?_ | refine w_nnl rfl ?_ | refine w_nnlR rfl ?_ | refine w_nul rfl ?_ | refine w_nulR rfl ?_ | refine w_ldc rfl rfl ?_ | refine w_ldc2 rfl rfl ?_ | refine w_put rfl rfl rfl (Nat.le_of_ble_eq_true rfl) (Or.inl rfl) rfl rfl ?_))
          (refine w_iret rfl rfl rfl ?_)
          exact ⟨X, u', F, t, rfl, hX, hu, by omega, by omega, hF, h1n, hn4, hO, hds⟩
    · rw [if_pos h2]
      exact fl 1 (Or.inr (Or.inl ⟨h1, h2, rfl⟩))
  · rw [if_pos h1]
    exact fl 0 (Or.inl ⟨h1, rfl⟩)
end RMK
