/-! the balance, reference -/
abbrev CRel (c : ax_St) (m : ax_Mo) : Prop := (∀ i, i < 128 → (m.above i).toInt = (c.ab i).toInt) ∧ (∀ i, i < 128 → (m.below i).toInt = (c.be i).toInt)
theorem CRel.a {c : ax_St} {m : ax_Mo} (h_ : CRel c m) : ∀ i, i < 128 → (m.above i).toInt = (c.ab i).toInt := h_.1
theorem CRel.b {c : ax_St} {m : ax_Mo} (h_ : CRel c m) : ∀ i, i < 128 → (m.below i).toInt = (c.be i).toInt := h_.2
section MJ
variable {L : Nat} {xs : Nat → Int32} {c : ax_St} {m : ax_Mo} {o : Nat → Int64} {pool : List (Option ax_C)} {u : Nat} {h : ax_H}
def mp_balance (c : ax_St) (m : ax_Mo) (l k p : Int32) : Value × ax_Mo := if ¬ (0 ≤ l.toInt ∧ l.toInt < 8 ∧ 0 ≤ k.toInt ∧ k.toInt < 16 ∧ (p = 0 ∨ p = 1)) then (.long 0, (ax_Mo.u_thrown m 1)) else (.long (ax_bal (ax_abv c.ab c.be l.toInt.toNat k.toInt.toNat) p), (ax_Mo.u_thrown m 0))
theorem n_unit1 (hc : CellOk c) (hR : CRel c m) {i : Nat} (hi : i < 128) : (m.above i * ((2520 : Int64) / m.below i)).toInt = (ax_un c.ab c.be i : Nat) ∧ ¬ m.below i = 0 := by
  have hA := hc.a i hi
  have hB := hc.b i hi
  have e1 : (m.above i).toInt = (((c.ab i).toInt.toNat : Nat) : Int) := by rw [hR.a i hi]; omega
  have e2 : ((2520 : Int64) / m.below i).toInt = ((2520 / (c.be i).toInt.toNat : Nat) : Int) := q_divL (m := 2520) rfl (by rw [hR.b i hi]; omega) (by decide)
  refine ⟨q_mulN e1 e2 (Nat.lt_of_le_of_lt (ax_un_b hc (i := i) hi) (by decide)), fun z => ?_⟩
  have := congrArg Int64.toInt z
  rw [hR.b i hi] at this
  have h0 : ((0 : Int64)).toInt = 0 := rfl
  omega
theorem n_balance (hc : CellOk c) (hR : CRel c m) (l k p : Int32) : ax_run m_Mo_balance [.ref 23, .int l, .int k, .int p] (ax_hp L xs c m o pool, u) (ax_mout L xs c o pool u (mp_balance c m l k p)) := by
  unfold mp_balance
  split
  · rename_i h0
    (refine ax_run_T (ax_T_of M_Mo_balance rfl (Nat.le_of_ble_eq_true rfl) ?_))
    (repeat (first | refine w_iadd1 rfl ?_ | refine w_isub1 rfl ?_ | refine w_iinc1 rfl rfl ?_ | refine w_s rfl rfl ?_ | refine w_get rfl rfl rfl rfl ?_ | refine w_nnl rfl ?_ | refine w_nnlR rfl ?_ | refine w_nul rfl ?_ | refine w_nulR rfl ?_ | refine w_ldc rfl rfl ?_ | refine w_ldc2 rfl rfl ?_ | refine w_put rfl rfl rfl (Nat.le_of_ble_eq_true rfl) (Or.inl rfl) rfl rfl ?_))
    (refine w_cs rfl rfl (by first | decide | exact Nat.le_of_ble_eq_true rfl) (by exact Nat.le_of_ble_eq_true rfl) (n_isCell l k) ?_; dsimp only [Option.toList, List.drop, List.cons_append, List.nil_append])
    refine w_if1 rfl (fun h5 => ?_) (fun h5 => ?_)
    · (repeat (first | refine w_iadd1 rfl ?_ | refine w_isub1 rfl ?_ | refine w_iinc1 rfl rfl ?_ | refine w_s rfl rfl ?_ | refine w_get rfl rfl rfl rfl ?_ | refine w_nnl rfl ?_ | refine w_nnlR rfl ?_ | refine w_nul rfl ?_ | refine w_nulR rfl ?_ | refine w_ldc rfl rfl ?_ | refine w_ldc2 rfl rfl ?_ | refine w_put rfl rfl rfl (Nat.le_of_ble_eq_true rfl) (Or.inl rfl) rfl rfl ?_))
      refine w_if1 rfl (fun h5 => absurd h5 k_eq1) (fun _ => ?_)
      (repeat (first | refine w_iadd1 rfl ?_ | refine w_isub1 rfl ?_ | refine w_iinc1 rfl rfl ?_ | refine w_s rfl rfl ?_ | refine w_get rfl rfl rfl rfl ?_ | refine w_nnl rfl ?_ | refine w_nnlR rfl ?_ | refine w_nul rfl ?_ | refine w_nulR rfl ?_ | refine w_ldc rfl rfl ?_ | refine w_ldc2 rfl rfl ?_ | refine w_put rfl rfl rfl (Nat.le_of_ble_eq_true rfl) (Or.inl rfl) rfl rfl ?_))
      exact w_lret rfl rfl rfl
    · have h6 := Decidable.not_not.mp (fun z => h5 (c_eq0.mpr z))
      (repeat (first | refine w_iadd1 rfl ?_ | refine w_isub1 rfl ?_ | refine w_iinc1 rfl rfl ?_ | refine w_s rfl rfl ?_ | refine w_get rfl rfl rfl rfl ?_ | refine w_nnl rfl ?_ | refine w_nnlR rfl ?_ | refine w_nul rfl ?_ | refine w_nulR rfl ?_ | refine w_ldc rfl rfl ?_ | refine w_ldc2 rfl rfl ?_ | refine w_put rfl rfl rfl (Nat.le_of_ble_eq_true rfl) (Or.inl rfl) rfl rfl ?_))
      refine w_if1 rfl (fun h7 => absurd (show p = 0 from h7) (fun z => h0 ⟨h6.1, h6.2.1, h6.2.2.1, h6.2.2.2, Or.inl z⟩)) (fun _ => ?_)
      (repeat (first | refine w_iadd1 rfl ?_ | refine w_isub1 rfl ?_ | refine w_iinc1 rfl rfl ?_ | refine w_s rfl rfl ?_ | refine w_get rfl rfl rfl rfl ?_ | refine w_nnl rfl ?_ | refine w_nnlR rfl ?_ | refine w_nul rfl ?_ | refine w_nulR rfl ?_ | refine w_ldc rfl rfl ?_ | refine w_ldc2 rfl rfl ?_ | refine w_put rfl rfl rfl (Nat.le_of_ble_eq_true rfl) (Or.inl rfl) rfl rfl ?_))
      refine w_if2 rfl (fun _ => ?_) (fun h7 => absurd (show p = 1 from Decidable.not_not.mp h7) (fun z => h0 ⟨h6.1, h6.2.1, h6.2.2.1, h6.2.2.2, Or.inr z⟩))
      (repeat (first | refine w_iadd1 rfl ?_ | refine w_isub1 rfl ?_ | refine w_iinc1 rfl rfl ?_ | refine w_s rfl rfl ?_ | refine w_get rfl rfl rfl rfl ?_ | refine w_nnl rfl ?_ | refine w_nnlR rfl ?_ | refine w_nul rfl ?_ | refine w_nulR rfl ?_ | refine w_ldc rfl rfl ?_ | refine w_ldc2 rfl rfl ?_ | refine w_put rfl rfl rfl (Nat.le_of_ble_eq_true rfl) (Or.inl rfl) rfl rfl ?_))
      refine w_if1 rfl (fun h5 => absurd h5 k_eq1) (fun _ => ?_)
      (repeat (first | refine w_iadd1 rfl ?_ | refine w_isub1 rfl ?_ | refine w_iinc1 rfl rfl ?_ | refine w_s rfl rfl ?_ | refine w_get rfl rfl rfl rfl ?_ | refine w_nnl rfl ?_ | refine w_nnlR rfl ?_ | refine w_nul rfl ?_ | refine w_nulR rfl ?_ | refine w_ldc rfl rfl ?_ | refine w_ldc2 rfl rfl ?_ | refine w_put rfl rfl rfl (Nat.le_of_ble_eq_true rfl) (Or.inl rfl) rfl rfl ?_))
      exact w_lret rfl rfl rfl
  · rename_i h0
    have h1 := Decidable.not_not.mp h0
    obtain ⟨n, rfl, hn1, hn2⟩ := q_nat (x := l) (by omega)
    obtain ⟨i, rfl, hi1, hi2⟩ := q_nat (x := k) (by omega)
    have hnn : (nI n).toInt.toNat = n := by rw [← hn1]; rfl
    have hii : (nI i).toInt.toNat = i := by rw [← hi1]; rfl
    rw [hnn, hii]
    have hn8 : n < 8 := by omega
    have hi16 : i < 16 := by omega
    clear hnn hii
    have hz := ax_abv_b hc n i hn8 hi16
    have hg : 1 ≤ Nat.gcd (ax_abv c.ab c.be n i).natAbs 40320 ∧ Nat.gcd (ax_abv c.ab c.be n i).natAbs 40320 ≤ 40320 := ⟨Nat.gcd_pos_of_pos_right _ (by decide), Nat.gcd_le_right _ (by decide)⟩
    have hne : ¬ Int64.ofInt (Nat.gcd (ax_abv c.ab c.be n i).natAbs 40320 : Nat) = 0 := by
      intro z
      have := congrArg Int64.toInt z
      rw [q_ofIL (by omega) (by omega)] at this
      have h0 : ((0 : Int64)).toInt = 0 := rfl
      omega
    generalize hZ : ax_abv c.ab c.be n i = Z at hz hg hne
    have fin : ∀ (lv : ax_L), ax_wp ax_run M_Mo_balance (fun r' => r' = ax_mout L xs c o pool u (.long (ax_bal Z p), (ax_Mo.u_thrown m 0))) 170 [(3, .int p), (7, .long (Int64.ofInt Z)), (11, .long (Int64.ofInt (Nat.gcd Z.natAbs 40320 : Nat)))] [] (ax_hp L xs c (ax_Mo.u_thrown m 0) o pool, u) := by
      intro _
      (repeat (first | refine w_iadd1 rfl ?_ | refine w_isub1 rfl ?_ | refine w_iinc1 rfl rfl ?_ | refine w_s rfl rfl ?_ | refine w_get rfl rfl rfl rfl ?_ | refine w_nnl rfl ?_ | refine w_nnlR rfl ?_ | refine w_nul rfl ?_ | refine w_nulR rfl ?_ | refine w_ldc rfl rfl ?_ | refine w_ldc2 rfl rfl ?_ | refine w_put rfl rfl rfl (Nat.le_of_ble_eq_true rfl) (Or.inl rfl) rfl rfl ?_))
      refine w_if1 rfl (fun h5 => ?_) (fun h5 => ?_)
      · have h6 : ¬ p = 0 := h5
        (repeat (first | refine w_iadd1 rfl ?_ | refine w_isub1 rfl ?_ | refine w_iinc1 rfl rfl ?_ | refine w_s rfl rfl ?_ | refine w_get rfl rfl rfl rfl ?_ | refine w_nnl rfl ?_ | refine w_nnlR rfl ?_ | refine w_nul rfl ?_ | refine w_nulR rfl ?_ | refine w_ldc rfl rfl ?_ | refine w_ldc2 rfl rfl ?_ | refine w_put rfl rfl rfl (Nat.le_of_ble_eq_true rfl) (Or.inl rfl) rfl rfl ?_))
        refine w_ldiv rfl hne ?_
        refine w_lret rfl rfl ?_
        unfold ax_bal
        rw [if_neg h6]
        rfl
      · have h6 : p = 0 := Decidable.not_not.mp h5
        (repeat (first | refine w_iadd1 rfl ?_ | refine w_isub1 rfl ?_ | refine w_iinc1 rfl rfl ?_ | refine w_s rfl rfl ?_ | refine w_get rfl rfl rfl rfl ?_ | refine w_nnl rfl ?_ | refine w_nnlR rfl ?_ | refine w_nul rfl ?_ | refine w_nulR rfl ?_ | refine w_ldc rfl rfl ?_ | refine w_ldc2 rfl rfl ?_ | refine w_put rfl rfl rfl (Nat.le_of_ble_eq_true rfl) (Or.inl rfl) rfl rfl ?_))
        refine w_ldiv rfl hne ?_
        (repeat (first | refine w_iadd1 rfl ?_ | refine w_isub1 rfl ?_ | refine w_iinc1 rfl rfl ?_ | refine w_s rfl rfl ?_ | refine w_get rfl rfl rfl rfl ?_ | refine w_nnl rfl ?_ | refine w_nnlR rfl ?_ | refine w_nul rfl ?_ | refine w_nulR rfl ?_ | refine w_ldc rfl rfl ?_ | refine w_ldc2 rfl rfl ?_ | refine w_put rfl rfl rfl (Nat.le_of_ble_eq_true rfl) (Or.inl rfl) rfl rfl ?_))
        refine w_lret rfl rfl ?_
        unfold ax_bal
        rw [if_pos h6]
        rfl
    have l2 : ∀ (A B : Nat), A < 9223372036854775808 → B < 9223372036854775808 → Nat.gcd B A = Nat.gcd Z.natAbs 40320 → ax_wp ax_run M_Mo_balance (fun r' => r' = ax_mout L xs c o pool u (.long (ax_bal Z p), (ax_Mo.u_thrown m 0))) 145 [(3, .int p), (7, .long (Int64.ofInt Z)), (9, .long (Int64.ofInt (A : Int))), (11, .long (Int64.ofInt (B : Int)))] [] (ax_hp L xs c (ax_Mo.u_thrown m 0) o pool, u) := by
      intro A
      induction A using Nat.strongRecOn with
      | ind A ih =>
        intro B hA hB hgc
        have eA : (Int64.ofInt (A : Int)).toInt = A := q_ofIL (by omega) (by omega)
        have eB : (Int64.ofInt (B : Int)).toInt = B := q_ofIL (by omega) (by omega)
        (repeat (first | refine w_iadd1 rfl ?_ | refine w_isub1 rfl ?_ | refine w_iinc1 rfl rfl ?_ | refine w_s rfl rfl ?_ | refine w_get rfl rfl rfl rfl ?_ | refine w_nnl rfl ?_ | refine w_nnlR rfl ?_ | refine w_nul rfl ?_ | refine w_nulR rfl ?_ | refine w_ldc rfl rfl ?_ | refine w_ldc2 rfl rfl ?_ | refine w_put rfl rfl rfl (Nat.le_of_ble_eq_true rfl) (Or.inl rfl) rfl rfl ?_))
        refine w_if1 rfl (fun h5 => ?_) (fun h5 => ?_)
        · have h6 := c_Leq.mp h5
          rw [eA, q_ofNL] at h6
          have hA0 : A = 0 := by omega
          subst hA0
          rw [Nat.gcd_zero_right] at hgc
          subst hgc
          exact w_lv (fin []) rfl ⟨rfl, rfl, rfl, trivial⟩
        · have hA0 : 0 < A := by
            apply Nat.pos_of_ne_zero
            intro z
            subst z
            exact h5 (c_Leq.mpr rfl)
          have em : Int64.ofInt (B : Int) - Int64.ofInt (B : Int) / Int64.ofInt (A : Int) * Int64.ofInt (A : Int) = Int64.ofInt (B % A : Nat) := q_toL (q_modL eB eA hB)
          (repeat (first | refine w_iadd1 rfl ?_ | refine w_isub1 rfl ?_ | refine w_iinc1 rfl rfl ?_ | refine w_s rfl rfl ?_ | refine w_get rfl rfl rfl rfl ?_ | refine w_nnl rfl ?_ | refine w_nnlR rfl ?_ | refine w_nul rfl ?_ | refine w_nulR rfl ?_ | refine w_ldc rfl rfl ?_ | refine w_ldc2 rfl rfl ?_ | refine w_put rfl rfl rfl (Nat.le_of_ble_eq_true rfl) (Or.inl rfl) rfl rfl ?_))
          refine w_lrem rfl (fun z => ?_) ?_
          · have := congrArg Int64.toInt z
            rw [eA] at this
            have h0 : ((0 : Int64)).toInt = 0 := rfl
            omega
          rw [em]
          (repeat ((fail_if_success (show ax_wp _ _ _ 145 _ _ _)); (first | refine w_iadd1 rfl ?_ | refine w_isub1 rfl ?_ | refine w_iinc1 rfl rfl ?_ | refine w_s rfl rfl ?_ | refine w_get rfl rfl rfl rfl ?_ | refine w_nnl rfl ?_ | refine w_nnlR rfl ?_ | refine w_nul rfl ?_ | refine w_nulR rfl ?_ | refine w_ldc rfl rfl ?_ | refine w_ldc2 rfl rfl ?_ | refine w_put rfl rfl rfl (Nat.le_of_ble_eq_true rfl) (Or.inl rfl) rfl rfl ?_)))
          have hml := Nat.mod_lt B hA0
          exact w_lv (ih (B % A) hml A (by omega) hA (by rw [q_gcd, hgc])) rfl ⟨rfl, rfl, rfl, rfl, trivial⟩
    have lp : ∀ (d s : Nat), s + d = 16 → ax_wp ax_run M_Mo_balance (fun r' => r' = ax_mout L xs c o pool u (.long (ax_bal Z p), (ax_Mo.u_thrown m 0))) 44 [(0, .ref 23), (1, .int (nI n)), (2, .int (nI i)), (3, .int p), (4, .long (Int64.ofInt (ax_sm c.ab c.be (16 * n) s : Nat))), (6, .int (nI (16 * n + s)))] [] (ax_hp L xs c (ax_Mo.u_thrown m 0) o pool, u) := by
      intro d
      induction d with
      | zero =>
        intro s hs
        have : s = 16 := by omega
        subst this
        have h2 := ax_sm_b hc (i := 16 * n) 16 (by omega)
        have h3 := ax_un_b hc (i := 16 * n + i) (by omega)
        have hu := n_unit1 hc hR (i := 16 * n + i) (by omega)
        (repeat ((fail_if_success (show ax_wp _ _ _ 53 _ _ _)); (first | refine w_iadd1 rfl ?_ | refine w_isub1 rfl ?_ | refine w_iinc1 rfl rfl ?_ | refine w_s rfl rfl ?_ | refine w_get rfl rfl rfl rfl ?_ | refine w_nnl rfl ?_ | refine w_nnlR rfl ?_ | refine w_nul rfl ?_ | refine w_nulR rfl ?_ | refine w_ldc rfl rfl ?_ | refine w_ldc2 rfl rfl ?_ | refine w_put rfl rfl rfl (Nat.le_of_ble_eq_true rfl) (Or.inl rfl) rfl rfl ?_)))
        refine w_eqI (y := nI (16 * n + 16)) (by (simp only [kb6, kb7, kb8, kb9, kb16, ki0, ki1, ki2, ki3, ki4, ki5, nI_addR, nI_mulR]; try (congr 1; omega))) ?_
        refine w_if2 rfl (fun _ => ?_) (fun h5 => absurd ((cn_ge (a := 16 * n + 16) (b := 16 * n + 16) (by omega) (by omega)).mpr (Nat.le_refl _)) h5)
        (repeat ((fail_if_success (show ax_wp _ _ _ 92 _ _ _)); (first | refine w_iadd1 rfl ?_ | refine w_isub1 rfl ?_ | refine w_iinc1 rfl rfl ?_ | refine w_s rfl rfl ?_ | refine w_get rfl rfl rfl rfl ?_ | refine w_nnl rfl ?_ | refine w_nnlR rfl ?_ | refine w_nul rfl ?_ | refine w_nulR rfl ?_ | refine w_ldc rfl rfl ?_ | refine w_ldc2 rfl rfl ?_ | refine w_put rfl rfl rfl (Nat.le_of_ble_eq_true rfl) (Or.inl rfl) rfl rfl ?_)))
        refine w_eqI (y := nI (16 * n + i)) (by (simp only [kb6, kb7, kb8, kb9, kb16, ki0, ki1, ki2, ki3, ki4, ki5, nI_addR, nI_mulR]; try (congr 1; omega))) ?_
        (repeat (first | refine w_iadd1 rfl ?_ | refine w_isub1 rfl ?_ | refine w_iinc1 rfl rfl ?_ | refine w_s rfl rfl ?_ | refine w_get rfl rfl rfl rfl ?_ | refine w_nnl rfl ?_ | refine w_nnlR rfl ?_ | refine w_nul rfl ?_ | refine w_nulR rfl ?_ | refine w_ldc rfl rfl ?_ | refine w_ldc2 rfl rfl ?_ | refine w_put rfl rfl rfl (Nat.le_of_ble_eq_true rfl) (Or.inl rfl) rfl rfl ?_))
        refine w_la rfl rfl rfl (by omega) (by decide) ?_
        (repeat (first | refine w_iadd1 rfl ?_ | refine w_isub1 rfl ?_ | refine w_iinc1 rfl rfl ?_ | refine w_s rfl rfl ?_ | refine w_get rfl rfl rfl rfl ?_ | refine w_nnl rfl ?_ | refine w_nnlR rfl ?_ | refine w_nul rfl ?_ | refine w_nulR rfl ?_ | refine w_ldc rfl rfl ?_ | refine w_ldc2 rfl rfl ?_ | refine w_put rfl rfl rfl (Nat.le_of_ble_eq_true rfl) (Or.inl rfl) rfl rfl ?_))
        refine w_la rfl rfl rfl (by omega) (by decide) ?_
        refine w_ldiv rfl hu.2 ?_
        (repeat ((fail_if_success (show ax_wp _ _ _ 120 _ _ _)); (first | refine w_iadd1 rfl ?_ | refine w_isub1 rfl ?_ | refine w_iinc1 rfl rfl ?_ | refine w_s rfl rfl ?_ | refine w_get rfl rfl rfl rfl ?_ | refine w_nnl rfl ?_ | refine w_nnlR rfl ?_ | refine w_nul rfl ?_ | refine w_nulR rfl ?_ | refine w_ldc rfl rfl ?_ | refine w_ldc2 rfl rfl ?_ | refine w_put rfl rfl rfl (Nat.le_of_ble_eq_true rfl) (Or.inl rfl) rfl rfl ?_)))
        refine w_eqL (y := Int64.ofInt Z) ?_ ?_
        · apply q_toL
          show ((16 : Int64) * m.above (16 * n + i) * ((2520 : Int64) / m.below (16 * n + i)) - Int64.ofInt ((ax_sm c.ab c.be (16 * n) 16 : Nat) : Int)).toInt = Z
          have e1 : (16 : Int64) * m.above (16 * n + i) * ((2520 : Int64) / m.below (16 * n + i)) = (16 : Int64) * (m.above (16 * n + i) * ((2520 : Int64) / m.below (16 * n + i))) := Int64.mul_assoc _ _ _
          rw [e1, q_subL, q_mulN (m := 16) rfl hu.1 (by omega), q_ofIL (by omega) (by omega), ← hZ]
          unfold ax_abv
          omega
        (repeat (first | refine w_iadd1 rfl ?_ | refine w_isub1 rfl ?_ | refine w_iinc1 rfl rfl ?_ | refine w_s rfl rfl ?_ | refine w_get rfl rfl rfl rfl ?_ | refine w_nnl rfl ?_ | refine w_nnlR rfl ?_ | refine w_nul rfl ?_ | refine w_nulR rfl ?_ | refine w_ldc rfl rfl ?_ | refine w_ldc2 rfl rfl ?_ | refine w_put rfl rfl rfl (Nat.le_of_ble_eq_true rfl) (Or.inl rfl) rfl rfl ?_))
        refine w_if1 rfl (fun h5 => ?_) (fun h5 => ?_)
        · have h6 := c_Lge.mp h5
          rw [q_ofIL (by omega) (by omega), q_ofNL] at h6
          (repeat ((fail_if_success (show ax_wp _ _ _ 138 _ _ _)); (first | refine w_iadd1 rfl ?_ | refine w_isub1 rfl ?_ | refine w_iinc1 rfl rfl ?_ | refine w_s rfl rfl ?_ | refine w_get rfl rfl rfl rfl ?_ | refine w_nnl rfl ?_ | refine w_nnlR rfl ?_ | refine w_nul rfl ?_ | refine w_nulR rfl ?_ | refine w_ldc rfl rfl ?_ | refine w_ldc2 rfl rfl ?_ | refine w_put rfl rfl rfl (Nat.le_of_ble_eq_true rfl) (Or.inl rfl) rfl rfl ?_)))
          refine w_eqL (y := Int64.ofInt (Z.natAbs : Nat)) (q_toL (by rw [q_ofIL (by omega) (by omega)]; omega)) ?_
          (repeat ((fail_if_success (show ax_wp _ _ _ 145 _ _ _)); (first | refine w_iadd1 rfl ?_ | refine w_isub1 rfl ?_ | refine w_iinc1 rfl rfl ?_ | refine w_s rfl rfl ?_ | refine w_get rfl rfl rfl rfl ?_ | refine w_nnl rfl ?_ | refine w_nnlR rfl ?_ | refine w_nul rfl ?_ | refine w_nulR rfl ?_ | refine w_ldc rfl rfl ?_ | refine w_ldc2 rfl rfl ?_ | refine w_put rfl rfl rfl (Nat.le_of_ble_eq_true rfl) (Or.inl rfl) rfl rfl ?_)))
          exact w_lv (l2 Z.natAbs 40320 (by omega) (by decide) (Nat.gcd_comm _ _)) rfl ⟨rfl, rfl, rfl, rfl, trivial⟩
        · have h6 : ¬ (Int64.ofNat 0).toInt ≤ (Int64.ofInt Z).toInt := fun w => h5 (c_Lge.mpr w)
          rw [q_ofIL (by omega) (by omega), q_ofNL] at h6
          (repeat ((fail_if_success (show ax_wp _ _ _ 138 _ _ _)); (first | refine w_iadd1 rfl ?_ | refine w_isub1 rfl ?_ | refine w_iinc1 rfl rfl ?_ | refine w_s rfl rfl ?_ | refine w_get rfl rfl rfl rfl ?_ | refine w_nnl rfl ?_ | refine w_nnlR rfl ?_ | refine w_nul rfl ?_ | refine w_nulR rfl ?_ | refine w_ldc rfl rfl ?_ | refine w_ldc2 rfl rfl ?_ | refine w_put rfl rfl rfl (Nat.le_of_ble_eq_true rfl) (Or.inl rfl) rfl rfl ?_)))
          refine w_eqL (y := Int64.ofInt (Z.natAbs : Nat)) (q_toL (by rw [q_subL, q_ofIL (by omega) (by omega), q_ofNL]; omega)) ?_
          (repeat ((fail_if_success (show ax_wp _ _ _ 145 _ _ _)); (first | refine w_iadd1 rfl ?_ | refine w_isub1 rfl ?_ | refine w_iinc1 rfl rfl ?_ | refine w_s rfl rfl ?_ | refine w_get rfl rfl rfl rfl ?_ | refine w_nnl rfl ?_ | refine w_nnlR rfl ?_ | refine w_nul rfl ?_ | refine w_nulR rfl ?_ | refine w_ldc rfl rfl ?_ | refine w_ldc2 rfl rfl ?_ | refine w_put rfl rfl rfl (Nat.le_of_ble_eq_true rfl) (Or.inl rfl) rfl rfl ?_)))
          exact w_lv (l2 Z.natAbs 40320 (by omega) (by decide) (Nat.gcd_comm _ _)) rfl ⟨rfl, rfl, rfl, rfl, trivial⟩
      | succ d ih =>
        intro s hs
        have h2 := ax_sm_b hc (i := 16 * n) s (by omega)
        have h3 := ax_un_b hc (i := 16 * n + s) (by omega)
        have hu := n_unit1 hc hR (i := 16 * n + s) (by omega)
        (repeat ((fail_if_success (show ax_wp _ _ _ 53 _ _ _)); (first | refine w_iadd1 rfl ?_ | refine w_isub1 rfl ?_ | refine w_iinc1 rfl rfl ?_ | refine w_s rfl rfl ?_ | refine w_get rfl rfl rfl rfl ?_ | refine w_nnl rfl ?_ | refine w_nnlR rfl ?_ | refine w_nul rfl ?_ | refine w_nulR rfl ?_ | refine w_ldc rfl rfl ?_ | refine w_ldc2 rfl rfl ?_ | refine w_put rfl rfl rfl (Nat.le_of_ble_eq_true rfl) (Or.inl rfl) rfl rfl ?_)))
        refine w_eqI (y := nI (16 * n + 16)) (by (simp only [kb6, kb7, kb8, kb9, kb16, ki0, ki1, ki2, ki3, ki4, ki5, nI_addR, nI_mulR]; try (congr 1; omega))) ?_
        refine w_if2 rfl (fun h5 => absurd ((cn_ge (a := 16 * n + s) (b := 16 * n + 16) (by omega) (by omega)).mp h5) (by omega)) (fun _ => ?_)
        (repeat (first | refine w_iadd1 rfl ?_ | refine w_isub1 rfl ?_ | refine w_iinc1 rfl rfl ?_ | refine w_s rfl rfl ?_ | refine w_get rfl rfl rfl rfl ?_ | refine w_nnl rfl ?_ | refine w_nnlR rfl ?_ | refine w_nul rfl ?_ | refine w_nulR rfl ?_ | refine w_ldc rfl rfl ?_ | refine w_ldc2 rfl rfl ?_ | refine w_put rfl rfl rfl (Nat.le_of_ble_eq_true rfl) (Or.inl rfl) rfl rfl ?_))
        refine w_la rfl rfl rfl (by omega) (by decide) ?_
        (repeat (first | refine w_iadd1 rfl ?_ | refine w_isub1 rfl ?_ | refine w_iinc1 rfl rfl ?_ | refine w_s rfl rfl ?_ | refine w_get rfl rfl rfl rfl ?_ | refine w_nnl rfl ?_ | refine w_nnlR rfl ?_ | refine w_nul rfl ?_ | refine w_nulR rfl ?_ | refine w_ldc rfl rfl ?_ | refine w_ldc2 rfl rfl ?_ | refine w_put rfl rfl rfl (Nat.le_of_ble_eq_true rfl) (Or.inl rfl) rfl rfl ?_))
        refine w_la rfl rfl rfl (by omega) (by decide) ?_
        refine w_ldiv rfl hu.2 ?_
        (repeat ((fail_if_success (show ax_wp _ _ _ 44 _ _ _)); (first | refine w_iadd1 rfl ?_ | refine w_isub1 rfl ?_ | refine w_iinc1 rfl rfl ?_ | refine w_s rfl rfl ?_ | refine w_get rfl rfl rfl rfl ?_ | refine w_nnl rfl ?_ | refine w_nnlR rfl ?_ | refine w_nul rfl ?_ | refine w_nulR rfl ?_ | refine w_ldc rfl rfl ?_ | refine w_ldc2 rfl rfl ?_ | refine w_put rfl rfl rfl (Nat.le_of_ble_eq_true rfl) (Or.inl rfl) rfl rfl ?_)))
        refine w_lv (ih (s + 1) (by omega)) rfl ⟨rfl, rfl, rfl, rfl, ?_, rfl, trivial⟩
        have e1 : Int64.ofInt ((ax_sm c.ab c.be (16 * n) s : Nat) : Int) + m.above (16 * n + s) * ((2520 : Int64) / m.below (16 * n + s)) = Int64.ofInt ((ax_sm c.ab c.be (16 * n) (s + 1) : Nat) : Int) := by
          apply q_toL
          exact q_addN (q_ofIL (by omega) (by omega)) hu.1 (by omega)
        rw [← e1]
        rfl
    (refine ax_run_T (ax_T_of M_Mo_balance rfl (Nat.le_of_ble_eq_true rfl) ?_))
    (repeat (first | refine w_iadd1 rfl ?_ | refine w_isub1 rfl ?_ | refine w_iinc1 rfl rfl ?_ | refine w_s rfl rfl ?_ | refine w_get rfl rfl rfl rfl ?_ | refine w_nnl rfl ?_ | refine w_nnlR rfl ?_ | refine w_nul rfl ?_ | refine w_nulR rfl ?_ | refine w_ldc rfl rfl ?_ | refine w_ldc2 rfl rfl ?_ | refine w_put rfl rfl rfl (Nat.le_of_ble_eq_true rfl) (Or.inl rfl) rfl rfl ?_))
    (refine w_cs rfl rfl (by first | decide | exact Nat.le_of_ble_eq_true rfl) (by exact Nat.le_of_ble_eq_true rfl) (n_isCell (nI n) (nI i)) ?_; dsimp only [Option.toList, List.drop, List.cons_append, List.nil_append])
    refine w_if1 rfl (fun h5 => absurd ⟨h1.1, h1.2.1, h1.2.2.1, h1.2.2.2.1⟩ (c_eq0.mp h5)) (fun _ => ?_)
    (repeat (first | refine w_iadd1 rfl ?_ | refine w_isub1 rfl ?_ | refine w_iinc1 rfl rfl ?_ | refine w_s rfl rfl ?_ | refine w_get rfl rfl rfl rfl ?_ | refine w_nnl rfl ?_ | refine w_nnlR rfl ?_ | refine w_nul rfl ?_ | refine w_nulR rfl ?_ | refine w_ldc rfl rfl ?_ | refine w_ldc2 rfl rfl ?_ | refine w_put rfl rfl rfl (Nat.le_of_ble_eq_true rfl) (Or.inl rfl) rfl rfl ?_))
    have tail : ax_wp ax_run M_Mo_balance (fun r' => r' = ax_mout L xs c o pool u (.long (ax_bal Z p), (ax_Mo.u_thrown m 0))) 18 [(0, .ref 23), (1, .int (nI n)), (2, .int (nI i)), (3, .int p)] [.ref 23] (ax_hp L xs c m o pool, u) := by
      (repeat (first | refine w_iadd1 rfl ?_ | refine w_isub1 rfl ?_ | refine w_iinc1 rfl rfl ?_ | refine w_s rfl rfl ?_ | refine w_get rfl rfl rfl rfl ?_ | refine w_nnl rfl ?_ | refine w_nnlR rfl ?_ | refine w_nul rfl ?_ | refine w_nulR rfl ?_ | refine w_ldc rfl rfl ?_ | refine w_ldc2 rfl rfl ?_ | refine w_put rfl rfl rfl (Nat.le_of_ble_eq_true rfl) (Or.inl rfl) rfl rfl ?_))
      refine w_if1 rfl (fun _ => ?_) (fun h5 => absurd rfl h5)
      (repeat ((fail_if_success (show ax_wp _ _ _ 42 _ _ _)); (first | refine w_iadd1 rfl ?_ | refine w_isub1 rfl ?_ | refine w_iinc1 rfl rfl ?_ | refine w_s rfl rfl ?_ | refine w_get rfl rfl rfl rfl ?_ | refine w_nnl rfl ?_ | refine w_nnlR rfl ?_ | refine w_nul rfl ?_ | refine w_nulR rfl ?_ | refine w_ldc rfl rfl ?_ | refine w_ldc2 rfl rfl ?_ | refine w_put rfl rfl rfl (Nat.le_of_ble_eq_true rfl) (Or.inl rfl) rfl rfl ?_)))
      refine w_eqI (y := nI (16 * n)) (by (simp only [kb6, kb7, kb8, kb9, kb16, ki0, ki1, ki2, ki3, ki4, ki5, nI_addR, nI_mulR]; try (congr 1; omega))) ?_
      (repeat ((fail_if_success (show ax_wp _ _ _ 44 _ _ _)); (first | refine w_iadd1 rfl ?_ | refine w_isub1 rfl ?_ | refine w_iinc1 rfl rfl ?_ | refine w_s rfl rfl ?_ | refine w_get rfl rfl rfl rfl ?_ | refine w_nnl rfl ?_ | refine w_nnlR rfl ?_ | refine w_nul rfl ?_ | refine w_nulR rfl ?_ | refine w_ldc rfl rfl ?_ | refine w_ldc2 rfl rfl ?_ | refine w_put rfl rfl rfl (Nat.le_of_ble_eq_true rfl) (Or.inl rfl) rfl rfl ?_)))
      exact w_lv (lp 16 0 (by omega)) rfl ⟨rfl, rfl, rfl, rfl, rfl, rfl, trivial⟩
    rcases h1.2.2.2.2 with hp | hp
    · refine w_if1 rfl (fun _ => ?_) (fun h5 => absurd hp h5)
      exact w_lv tail rfl ⟨rfl, rfl, rfl, rfl, trivial⟩
    · refine w_if1 rfl (fun h5 => absurd (show p = 0 from h5) (by rw [hp]; decide)) (fun _ => ?_)
      (repeat (first | refine w_iadd1 rfl ?_ | refine w_isub1 rfl ?_ | refine w_iinc1 rfl rfl ?_ | refine w_s rfl rfl ?_ | refine w_get rfl rfl rfl rfl ?_ | refine w_nnl rfl ?_ | refine w_nnlR rfl ?_ | refine w_nul rfl ?_ | refine w_nulR rfl ?_ | refine w_ldc rfl rfl ?_ | refine w_ldc2 rfl rfl ?_ | refine w_put rfl rfl rfl (Nat.le_of_ble_eq_true rfl) (Or.inl rfl) rfl rfl ?_))
      refine w_if2 rfl (fun h5 => absurd hp h5) (fun _ => ?_)
      exact w_lv tail rfl ⟨rfl, rfl, rfl, rfl, trivial⟩
end MJ
