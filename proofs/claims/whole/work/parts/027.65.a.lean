/-! the balance, class -/
theorem q_bLx (a b : Nat) (ha : a ≤ 10) (hb1 : 1 ≤ b) (hb : b ≤ 10) : a * (2520 / b) ≤ 25200 := by
  have : 2520 / b ≤ 2520 := Nat.div_le_self _ _
  exact Nat.le_trans (Nat.mul_le_mul ha this) (by decide)
/-- the copper of a cell, in 2520ths -/
def ax_un (f g : Nat → Int32) (i : Nat) : Nat := (f i).toInt.toNat * (2520 / (g i).toInt.toNat)
def ax_sm (f g : Nat → Int32) (i : Nat) : Nat → Nat
  | 0 => 0
  | n + 1 => ax_sm f g i n + ax_un f g (i + n)
abbrev CellOk (c : ax_St) : Prop := (∀ i, i < 128 → 0 ≤ (c.ab i).toInt ∧ (c.ab i).toInt ≤ 10) ∧ (∀ i, i < 128 → 1 ≤ (c.be i).toInt ∧ (c.be i).toInt ≤ 10)
theorem CellOk.a {c : ax_St} (h_ : CellOk c) : ∀ i, i < 128 → 0 ≤ (c.ab i).toInt ∧ (c.ab i).toInt ≤ 10 := h_.1
theorem CellOk.b {c : ax_St} (h_ : CellOk c) : ∀ i, i < 128 → 1 ≤ (c.be i).toInt ∧ (c.be i).toInt ≤ 10 := h_.2
theorem ax_un_b {c : ax_St} (h : CellOk c) {i : Nat} (hi : i < 128) : ax_un c.ab c.be i ≤ 25200 := by
  have h1 := h.a i hi
  have h2 := h.b i hi
  exact q_bLx _ _ (by omega) (by omega) (by omega)
theorem ax_sm_b {c : ax_St} (h : CellOk c) {i : Nat} : ∀ n, i + n ≤ 128 → ax_sm c.ab c.be i n ≤ 25200 * n := by
  intro n
  induction n with
  | zero => exact fun _ => Nat.zero_le _
  | succ n ih =>
    intro hn
    have h1 := ih (by omega)
    have h2 := ax_un_b h (i := i + n) (by omega)
    show ax_sm c.ab c.be i n + ax_un c.ab c.be (i + n) ≤ _
    omega
theorem q_nL {x : Int64} {n : Nat} (h : x.toInt = n) : x = Int64.ofInt n := q_toL h
theorem q_divI {a b : Int32} {m n : Nat} (ha : a.toInt = m) (hb : b.toInt = n) (hn : 0 < n) (hm : m < 2147483648) : (a / b).toInt = ((m / n : Nat) : Int) := by
  rw [Int32.toInt_div, ha, hb]
  have h1 : (m : Int).tdiv (n : Int) = ((m / n : Nat) : Int) := rfl
  rw [h1, q_bm32]
  have h2 : m / n ≤ m := Nat.div_le_self _ _
  generalize m / n = z at *
  omega
theorem q_divL {a b : Int64} {m n : Nat} (ha : a.toInt = m) (hb : b.toInt = n) (hm : m < 9223372036854775808) : (a / b).toInt = ((m / n : Nat) : Int) := by
  rw [Int64.toInt_div, ha, hb]
  have h1 : (m : Int).tdiv (n : Int) = ((m / n : Nat) : Int) := rfl
  rw [h1, q_bm64]
  have h2 : m / n ≤ m := Nat.div_le_self _ _
  generalize m / n = z at *
  omega
theorem q_modL {a b : Int64} {m n : Nat} (ha : a.toInt = m) (hb : b.toInt = n) (hm : m < 9223372036854775808) : (a - a / b * b).toInt = ((m % n : Nat) : Int) := by
  rw [q_subL, q_mulL, q_divL ha hb hm, ha, hb]
  have h1 : m / n * n ≤ m := Nat.div_mul_le_self _ _
  have h2 : m % n + n * (m / n) = m := Nat.mod_add_div m n
  have h3 : ((m / n : Nat) : Int) * (n : Int) = ((m / n * n : Nat) : Int) := (Int.natCast_mul _ _).symm
  rw [h3]
  rw [Nat.mul_comm] at h2
  generalize m / n * n = z at *
  omega
theorem q_mulN {a b : Int64} {m n : Nat} (ha : a.toInt = m) (hb : b.toInt = n) (h : m * n < 9223372036854775808) : (a * b).toInt = ((m * n : Nat) : Int) := by
  rw [q_mulL, ha, hb]
  have h3 : (m : Int) * (n : Int) = ((m * n : Nat) : Int) := (Int.natCast_mul _ _).symm
  rw [h3]
  omega
theorem q_addN {a b : Int64} {m n : Nat} (ha : a.toInt = m) (hb : b.toInt = n) (h : m + n < 9223372036854775808) : (a + b).toInt = ((m + n : Nat) : Int) := by
  rw [q_addL, ha, hb]
  omega
section CJ
variable {L : Nat} {xs : Nat → Int32} {c : ax_St} {m : ax_Mo} {o : Nat → Int64} {pool : List (Option ax_C)} {u : Nat} {h : ax_H}
theorem r_units (hc : CellOk c) (l k : Nat) (hl : l < 8) (hk : k < 16) : ax_run m_Ce_units [.ref 20, .int (nI l), .int (nI k)] (ax_hp L xs c m o pool, u) (.inl (some (.long (Int64.ofInt (ax_un c.ab c.be (16 * l + k) : Nat)))), (ax_hp L xs c m o pool, u)) := by
  have hA := hc.a (16 * l + k) (by omega)
  have hB := hc.b (16 * l + k) (by omega)
  (refine ax_run_T (ax_T_of M_Ce_units rfl (Nat.le_of_ble_eq_true rfl) ?_))
  (repeat (first | refine w_iadd1 rfl ?_ | refine w_isub1 rfl ?_ | refine w_iinc1 rfl rfl ?_ | refine w_s rfl rfl ?_ | refine w_get rfl rfl rfl rfl ?_ | refine w_nnl rfl ?_ | refine w_nnlR rfl ?_ | refine w_nul rfl ?_ | refine w_nulR rfl ?_ | refine w_ldc rfl rfl ?_ | refine w_ldc2 rfl rfl ?_ | refine w_put rfl rfl rfl (Nat.le_of_ble_eq_true rfl) (Or.inl rfl) rfl rfl ?_))
  (refine w_cs rfl rfl (by first | decide | exact Nat.le_of_ble_eq_true rfl) (by exact Nat.le_of_ble_eq_true rfl) (r_noLayer (nI l)) ?_; dsimp only [Option.toList, List.drop, List.cons_append, List.nil_append])
  refine w_if1 rfl (fun h5 => absurd (c_ne0.mp h5) (fun z => z ⟨by rw [q_nI' (by omega)]; omega, by rw [q_nI' (by omega)]; omega⟩)) (fun _ => ?_)
  (repeat (first | refine w_iadd1 rfl ?_ | refine w_isub1 rfl ?_ | refine w_iinc1 rfl rfl ?_ | refine w_s rfl rfl ?_ | refine w_get rfl rfl rfl rfl ?_ | refine w_nnl rfl ?_ | refine w_nnlR rfl ?_ | refine w_nul rfl ?_ | refine w_nulR rfl ?_ | refine w_ldc rfl rfl ?_ | refine w_ldc2 rfl rfl ?_ | refine w_put rfl rfl rfl (Nat.le_of_ble_eq_true rfl) (Or.inl rfl) rfl rfl ?_))
  (refine w_cs rfl rfl (by first | decide | exact Nat.le_of_ble_eq_true rfl) (by exact Nat.le_of_ble_eq_true rfl) (r_noCell (nI k)) ?_; dsimp only [Option.toList, List.drop, List.cons_append, List.nil_append])
  refine w_if1 rfl (fun _ => ?_) (fun h5 => absurd (c_eq0.mpr (fun z => z ⟨by rw [q_nI' (by omega)]; omega, by rw [q_nI' (by omega)]; omega⟩)) h5)
  (repeat ((fail_if_success (show ax_wp _ _ _ 22 _ _ _)); (first | refine w_iadd1 rfl ?_ | refine w_isub1 rfl ?_ | refine w_iinc1 rfl rfl ?_ | refine w_s rfl rfl ?_ | refine w_get rfl rfl rfl rfl ?_ | refine w_nnl rfl ?_ | refine w_nnlR rfl ?_ | refine w_nul rfl ?_ | refine w_nulR rfl ?_ | refine w_ldc rfl rfl ?_ | refine w_ldc2 rfl rfl ?_ | refine w_put rfl rfl rfl (Nat.le_of_ble_eq_true rfl) (Or.inl rfl) rfl rfl ?_)))
  refine w_eqI (y := nI (16 * l + k)) (by (simp only [kb6, kb7, kb8, kb9, kb16, ki0, ki1, ki2, ki3, ki4, ki5, nI_addR, nI_mulR]; try (congr 1; omega))) ?_
  (repeat (first | refine w_iadd1 rfl ?_ | refine w_isub1 rfl ?_ | refine w_iinc1 rfl rfl ?_ | refine w_s rfl rfl ?_ | refine w_get rfl rfl rfl rfl ?_ | refine w_nnl rfl ?_ | refine w_nnlR rfl ?_ | refine w_nul rfl ?_ | refine w_nulR rfl ?_ | refine w_ldc rfl rfl ?_ | refine w_ldc2 rfl rfl ?_ | refine w_put rfl rfl rfl (Nat.le_of_ble_eq_true rfl) (Or.inl rfl) rfl rfl ?_))
  refine w_ia rfl rfl rfl (by omega) (by decide) ?_
  (repeat (first | refine w_iadd1 rfl ?_ | refine w_isub1 rfl ?_ | refine w_iinc1 rfl rfl ?_ | refine w_s rfl rfl ?_ | refine w_get rfl rfl rfl rfl ?_ | refine w_nnl rfl ?_ | refine w_nnlR rfl ?_ | refine w_nul rfl ?_ | refine w_nulR rfl ?_ | refine w_ldc rfl rfl ?_ | refine w_ldc2 rfl rfl ?_ | refine w_put rfl rfl rfl (Nat.le_of_ble_eq_true rfl) (Or.inl rfl) rfl rfl ?_))
  refine w_if2 rfl (fun _ => ?_) (fun h5 => absurd (Int32.le_iff_toInt_le.mpr (by rw [q_ofI]; omega)) h5)
  (repeat (first | refine w_iadd1 rfl ?_ | refine w_isub1 rfl ?_ | refine w_iinc1 rfl rfl ?_ | refine w_s rfl rfl ?_ | refine w_get rfl rfl rfl rfl ?_ | refine w_nnl rfl ?_ | refine w_nnlR rfl ?_ | refine w_nul rfl ?_ | refine w_nulR rfl ?_ | refine w_ldc rfl rfl ?_ | refine w_ldc2 rfl rfl ?_ | refine w_put rfl rfl rfl (Nat.le_of_ble_eq_true rfl) (Or.inl rfl) rfl rfl ?_))
  refine w_ia rfl rfl rfl (by omega) (by decide) ?_
  (repeat (first | refine w_iadd1 rfl ?_ | refine w_isub1 rfl ?_ | refine w_iinc1 rfl rfl ?_ | refine w_s rfl rfl ?_ | refine w_get rfl rfl rfl rfl ?_ | refine w_nnl rfl ?_ | refine w_nnlR rfl ?_ | refine w_nul rfl ?_ | refine w_nulR rfl ?_ | refine w_ldc rfl rfl ?_ | refine w_ldc2 rfl rfl ?_ | refine w_put rfl rfl rfl (Nat.le_of_ble_eq_true rfl) (Or.inl rfl) rfl rfl ?_))
  refine w_idiv rfl (fun z => ?_) ?_
  · rw [z] at hB
    exact absurd hB.1 (by decide)
  (repeat (first | refine w_iadd1 rfl ?_ | refine w_isub1 rfl ?_ | refine w_iinc1 rfl rfl ?_ | refine w_s rfl rfl ?_ | refine w_get rfl rfl rfl rfl ?_ | refine w_nnl rfl ?_ | refine w_nnlR rfl ?_ | refine w_nul rfl ?_ | refine w_nulR rfl ?_ | refine w_ldc rfl rfl ?_ | refine w_ldc2 rfl rfl ?_ | refine w_put rfl rfl rfl (Nat.le_of_ble_eq_true rfl) (Or.inl rfl) rfl rfl ?_))
  refine w_lret rfl rfl ?_
  congr 4
  apply q_toL
  have e1 : (c.ab (16 * l + k)).toInt64.toInt = (((c.ab (16 * l + k)).toInt.toNat : Nat) : Int) := by rw [q_i2l]; omega
  have e2 : ((Int16.ofInt 2520).toInt32 / c.be (16 * l + k)).toInt64.toInt = ((2520 / (c.be (16 * l + k)).toInt.toNat : Nat) : Int) := by
    rw [q_i2l]
    exact q_divI (by rw [q_b16]; rfl) (by omega) (by omega) (by decide)
  exact q_mulN e1 e2 (Nat.lt_of_le_of_lt (ax_un_b hc (i := 16 * l + k) (by omega)) (by decide))
/-- what the cell has above the mean -/
def ax_abv (f g : Nat → Int32) (l k : Nat) : Int := 16 * (ax_un f g (16 * l + k) : Int) - (ax_sm f g (16 * l) 16 : Int)
theorem r_aboveMean (hc : CellOk c) (l k : Nat) (hl : l < 8) (hk : k < 16) : ax_run m_Ce_aboveMean [.ref 20, .int (nI l), .int (nI k)] (ax_hp L xs c m o pool, u) (.inl (some (.long (Int64.ofInt (ax_abv c.ab c.be l k)))), (ax_hp L xs c m o pool, u)) := by
  have lp : ∀ (d n : Nat), n + d = 16 → ax_wp ax_run M_Ce_aboveMean (fun r' => r' = (.inl (some (.long (Int64.ofInt (ax_abv c.ab c.be l k)))), (ax_hp L xs c m o pool, u))) 5 [(0, .ref 20), (1, .int (nI l)), (2, .int (nI k)), (3, .long (Int64.ofInt (ax_sm c.ab c.be (16 * l) n : Nat))), (5, .int (nI n))] [] (ax_hp L xs c m o pool, u) := by
    intro d
    induction d with
    | zero =>
      intro n hn
      have : n = 16 := by omega
      subst this
      (repeat (first | refine w_iadd1 rfl ?_ | refine w_isub1 rfl ?_ | refine w_iinc1 rfl rfl ?_ | refine w_s rfl rfl ?_ | refine w_get rfl rfl rfl rfl ?_ | refine w_nnl rfl ?_ | refine w_nnlR rfl ?_ | refine w_nul rfl ?_ | refine w_nulR rfl ?_ | refine w_ldc rfl rfl ?_ | refine w_ldc2 rfl rfl ?_ | refine w_put rfl rfl rfl (Nat.le_of_ble_eq_true rfl) (Or.inl rfl) rfl rfl ?_))
      refine w_if2 rfl (fun _ => ?_) (fun h5 => absurd ((cn_ge (a := 16) (b := 16) (by omega) (by omega)).mpr (by omega)) h5)
      (repeat (first | refine w_iadd1 rfl ?_ | refine w_isub1 rfl ?_ | refine w_iinc1 rfl rfl ?_ | refine w_s rfl rfl ?_ | refine w_get rfl rfl rfl rfl ?_ | refine w_nnl rfl ?_ | refine w_nnlR rfl ?_ | refine w_nul rfl ?_ | refine w_nulR rfl ?_ | refine w_ldc rfl rfl ?_ | refine w_ldc2 rfl rfl ?_ | refine w_put rfl rfl rfl (Nat.le_of_ble_eq_true rfl) (Or.inl rfl) rfl rfl ?_))
      (refine w_cv rfl rfl rfl rfl (by exact Nat.le_of_ble_eq_true rfl) (by exact Nat.le_of_ble_eq_true rfl) (r_units hc l k hl hk) ?_; dsimp only [Option.toList, List.drop, List.cons_append, List.nil_append])
      (repeat (first | refine w_iadd1 rfl ?_ | refine w_isub1 rfl ?_ | refine w_iinc1 rfl rfl ?_ | refine w_s rfl rfl ?_ | refine w_get rfl rfl rfl rfl ?_ | refine w_nnl rfl ?_ | refine w_nnlR rfl ?_ | refine w_nul rfl ?_ | refine w_nulR rfl ?_ | refine w_ldc rfl rfl ?_ | refine w_ldc2 rfl rfl ?_ | refine w_put rfl rfl rfl (Nat.le_of_ble_eq_true rfl) (Or.inl rfl) rfl rfl ?_))
      refine w_lret rfl rfl ?_
      congr 4
      apply q_toL
      have h1 := ax_un_b hc (i := 16 * l + k) (by omega)
      have h2 := ax_sm_b hc (i := 16 * l) 16 (by omega)
      have e1 : ((16 : Int64) * Int64.ofInt ((ax_un c.ab c.be (16 * l + k) : Nat) : Int)).toInt = ((16 * ax_un c.ab c.be (16 * l + k) : Nat) : Int) := q_mulN (m := 16) rfl (q_ofIL (by omega) (by omega)) (by omega)
      rw [q_subL, q_ofIL (by omega) (by omega)]
      show (((16 : Int64) * Int64.ofInt ((ax_un c.ab c.be (16 * l + k) : Nat) : Int)).toInt - _ + _) % _ - _ = _
      rw [e1]
      unfold ax_abv
      omega
    | succ d ih =>
      intro n hn
      have h1 := ax_un_b hc (i := 16 * l + n) (by omega)
      have h2 := ax_sm_b hc (i := 16 * l) n (by omega)
      (repeat (first | refine w_iadd1 rfl ?_ | refine w_isub1 rfl ?_ | refine w_iinc1 rfl rfl ?_ | refine w_s rfl rfl ?_ | refine w_get rfl rfl rfl rfl ?_ | refine w_nnl rfl ?_ | refine w_nnlR rfl ?_ | refine w_nul rfl ?_ | refine w_nulR rfl ?_ | refine w_ldc rfl rfl ?_ | refine w_ldc2 rfl rfl ?_ | refine w_put rfl rfl rfl (Nat.le_of_ble_eq_true rfl) (Or.inl rfl) rfl rfl ?_))
      refine w_if2 rfl (fun h5 => absurd ((cn_ge (a := n) (b := 16) (by omega) (by omega)).mp h5) (by omega)) (fun _ => ?_)
      (repeat (first | refine w_iadd1 rfl ?_ | refine w_isub1 rfl ?_ | refine w_iinc1 rfl rfl ?_ | refine w_s rfl rfl ?_ | refine w_get rfl rfl rfl rfl ?_ | refine w_nnl rfl ?_ | refine w_nnlR rfl ?_ | refine w_nul rfl ?_ | refine w_nulR rfl ?_ | refine w_ldc rfl rfl ?_ | refine w_ldc2 rfl rfl ?_ | refine w_put rfl rfl rfl (Nat.le_of_ble_eq_true rfl) (Or.inl rfl) rfl rfl ?_))
      (refine w_cv rfl rfl rfl rfl (by exact Nat.le_of_ble_eq_true rfl) (by exact Nat.le_of_ble_eq_true rfl) (r_units hc l n hl (by omega)) ?_; dsimp only [Option.toList, List.drop, List.cons_append, List.nil_append])
      (repeat ((fail_if_success (show ax_wp _ _ _ 5 _ _ _)); (first | refine w_iadd1 rfl ?_ | refine w_isub1 rfl ?_ | refine w_iinc1 rfl rfl ?_ | refine w_s rfl rfl ?_ | refine w_get rfl rfl rfl rfl ?_ | refine w_nnl rfl ?_ | refine w_nnlR rfl ?_ | refine w_nul rfl ?_ | refine w_nulR rfl ?_ | refine w_ldc rfl rfl ?_ | refine w_ldc2 rfl rfl ?_ | refine w_put rfl rfl rfl (Nat.le_of_ble_eq_true rfl) (Or.inl rfl) rfl rfl ?_)))
      refine w_lv (ih (n + 1) (by omega)) rfl ⟨rfl, rfl, rfl, ?_, rfl, trivial⟩
      have e1 : Int64.ofInt ((ax_sm c.ab c.be (16 * l) n : Nat) : Int) + Int64.ofInt ((ax_un c.ab c.be (16 * l + n) : Nat) : Int) = Int64.ofInt ((ax_sm c.ab c.be (16 * l) (n + 1) : Nat) : Int) := by
        apply q_toL
        exact q_addN (q_ofIL (by omega) (by omega)) (q_ofIL (by omega) (by omega)) (by omega)
      rw [← e1]
      rfl
  (refine ax_run_T (ax_T_of M_Ce_aboveMean rfl (Nat.le_of_ble_eq_true rfl) ?_))
  (repeat ((fail_if_success (show ax_wp _ _ _ 5 _ _ _)); (first | refine w_iadd1 rfl ?_ | refine w_isub1 rfl ?_ | refine w_iinc1 rfl rfl ?_ | refine w_s rfl rfl ?_ | refine w_get rfl rfl rfl rfl ?_ | refine w_nnl rfl ?_ | refine w_nnlR rfl ?_ | refine w_nul rfl ?_ | refine w_nulR rfl ?_ | refine w_ldc rfl rfl ?_ | refine w_ldc2 rfl rfl ?_ | refine w_put rfl rfl rfl (Nat.le_of_ble_eq_true rfl) (Or.inl rfl) rfl rfl ?_)))
  exact w_lv (lp 16 0 (by omega)) rfl ⟨rfl, rfl, rfl, rfl, rfl, trivial⟩
end CJ
