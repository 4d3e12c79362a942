theorem rel0 : Rel ax_c0 (mp_empty ax_m0) [] (fun _ => ⟨0, fun _ => ⟨fun _ => 0, fun _ => 0, fun _ => 0, 0, 0⟩⟩) (fun _ => ⟨0, fun _ => ⟨fun _ => 0, fun _ => 0, fun _ => 0, 0, 0⟩⟩) := by
  refine ⟨Nat.zero_le _, rfl, rfl, rfl, ⟨Nat.zero_le _, fun k hk => absurd hk (Nat.not_lt_zero _), fun k _ hk => rfl⟩, ⟨Nat.zero_le _, fun k hk => absurd hk (Nat.not_lt_zero _)⟩, ⟨Nat.zero_le _, fun k hk => absurd hk (Nat.not_lt_zero _), fun k hk => absurd hk (Nat.not_lt_zero _)⟩, ⟨rfl, fun k hk => absurd hk (Nat.not_lt_zero _), fun k hk => absurd hk (Nat.not_lt_zero _), fun k hk => absurd hk (Nat.not_lt_zero _), fun k hk => absurd hk (Nat.not_lt_zero _), fun k hk => absurd hk (Nat.not_lt_zero _)⟩, Nat.zero_le _, rfl, fun k hk => absurd hk (Nat.not_lt_zero _), ⟨Nat.zero_le _, fun k hk => absurd hk (Nat.not_lt_zero _)⟩, ⟨rfl, Nat.zero_le _, fun k hk => absurd hk (Nat.not_lt_zero _), fun k hk => absurd hk (Nat.not_lt_zero _), fun k hk => absurd hk (Nat.not_lt_zero _)⟩, Nat.zero_le _, rfl, fun k hk => absurd hk (Nat.not_lt_zero _), ⟨fun i hi => ?_, fun i hi => ?_⟩, ⟨fun i hi => ?_, fun i hi => ?_⟩⟩
  · exact ⟨(by decide : 0 ≤ ((0 : Int32)).toInt), (by decide : ((0 : Int32)).toInt ≤ 10)⟩
  · show 1 ≤ (if i < 128 then Int32.ofInt 1 else (0 : Int32)).toInt ∧ (if i < 128 then Int32.ofInt 1 else (0 : Int32)).toInt ≤ 10
    rw [if_pos hi]
    exact ⟨by decide, by decide⟩
  · show (if i < 128 then (0 : Int64) else 0).toInt = ((0 : Int32)).toInt
    rw [if_pos hi]
    rfl
  · show (if i < 128 then (1 : Int64) else 0).toInt = (if i < 128 then Int32.ofInt 1 else (0 : Int32)).toInt
    rw [if_pos hi, if_pos hi]
    rfl
set_option maxRecDepth 20000 in
theorem ax_law_ok (L : Nat) (xs : Nat → Int32) (hL : L ≤ 3584) : ∃ h1 : ax_H, ax_run m_La_law [.ref 0] ([some (.inl (9, L, .inl xs))], 0) (.inl (some (.int 1)), h1) ∧ h1.1.length ≤ 601025 ∧ h1.2 ≤ 7293034 := by
  have T : ax_T m_La_law [.ref 0] ([some (.inl (9, L, .inl xs))], 0) QW := by
    (refine ax_T_of M_La_law rfl (Nat.le_of_ble_eq_true rfl) ?_)
    refine w_new rfl rfl ?_
    (repeat (first | refine w_iadd1 rfl ?_ | refine w_isub1 rfl ?_ | refine w_iinc1 rfl rfl ?_ | refine w_s rfl rfl ?_ | refine w_get rfl rfl rfl rfl ?_ | refine w_nnl rfl ?_ | refine w_nnlR rfl ?_ | refine w_nul rfl ?_ | refine w_nulR rfl ?_ | refine w_ldc rfl rfl ?_ | refine w_ldc2 rfl rfl ?_ | refine w_put rfl rfl rfl (Nat.le_of_ble_eq_true rfl) (Or.inl rfl) rfl rfl ?_))
    (refine w_ci rfl rfl rfl (by exact Nat.le_of_ble_eq_true rfl) (by exact Nat.le_of_ble_eq_true rfl) (v_ML_init (L := L) (xs := xs)) ?_; dsimp only [Option.toList, List.drop, List.cons_append, List.nil_append, e_pl1, e_pl2, e_pl3])
    (repeat (first | refine w_iadd1 rfl ?_ | refine w_isub1 rfl ?_ | refine w_iinc1 rfl rfl ?_ | refine w_s rfl rfl ?_ | refine w_get rfl rfl rfl rfl ?_ | refine w_nnl rfl ?_ | refine w_nnlR rfl ?_ | refine w_nul rfl ?_ | refine w_nulR rfl ?_ | refine w_ldc rfl rfl ?_ | refine w_ldc2 rfl rfl ?_ | refine w_put rfl rfl rfl (Nat.le_of_ble_eq_true rfl) (Or.inl rfl) rfl rfl ?_))
    refine w_new rfl rfl ?_
    (repeat (first | refine w_iadd1 rfl ?_ | refine w_isub1 rfl ?_ | refine w_iinc1 rfl rfl ?_ | refine w_s rfl rfl ?_ | refine w_get rfl rfl rfl rfl ?_ | refine w_nnl rfl ?_ | refine w_nnlR rfl ?_ | refine w_nul rfl ?_ | refine w_nulR rfl ?_ | refine w_ldc rfl rfl ?_ | refine w_ldc2 rfl rfl ?_ | refine w_put rfl rfl rfl (Nat.le_of_ble_eq_true rfl) (Or.inl rfl) rfl rfl ?_))
    (refine w_ci rfl rfl rfl (by exact Nat.le_of_ble_eq_true rfl) (by exact Nat.le_of_ble_eq_true rfl) (v_Mo_init (L := L) (xs := xs) (c := ax_c0)) ?_; dsimp only [Option.toList, List.drop, List.cons_append, List.nil_append, e_pl1, e_pl2, e_pl3])
    (repeat (first | refine w_iadd1 rfl ?_ | refine w_isub1 rfl ?_ | refine w_iinc1 rfl rfl ?_ | refine w_s rfl rfl ?_ | refine w_get rfl rfl rfl rfl ?_ | refine w_nnl rfl ?_ | refine w_nnlR rfl ?_ | refine w_nul rfl ?_ | refine w_nulR rfl ?_ | refine w_ldc rfl rfl ?_ | refine w_ldc2 rfl rfl ?_ | refine w_put rfl rfl rfl (Nat.le_of_ble_eq_true rfl) (Or.inl rfl) rfl rfl ?_))
    refine w_newa rfl rfl (by decide) (by decide) ?_
    (repeat ((fail_if_success (show ax_wp _ _ _ 23 _ _ _)); (first | refine w_iadd1 rfl ?_ | refine w_isub1 rfl ?_ | refine w_iinc1 rfl rfl ?_ | refine w_s rfl rfl ?_ | refine w_get rfl rfl rfl rfl ?_ | refine w_nnl rfl ?_ | refine w_nnlR rfl ?_ | refine w_nul rfl ?_ | refine w_nulR rfl ?_ | refine w_ldc rfl rfl ?_ | refine w_ldc2 rfl rfl ?_ | refine w_put rfl rfl rfl (Nat.le_of_ble_eq_true rfl) (Or.inl rfl) rfl rfl ?_)))
    exact w_lv (law_loop (xs := xs) hL 512 0 ax_c0 (mp_empty ax_m0) (fun _ => 0) [] _ (by omega) (by omega) (Nat.zero_le _) (by first | decide | omega) ⟨_, _, rel0⟩) rfl ⟨rfl, rfl, rfl, rfl, rfl, trivial⟩
  obtain ⟨r, hr, h1, rfl, h2, h3⟩ := T
  exact ⟨h1, hr, h2, h3⟩
