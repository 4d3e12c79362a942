/-! reading: the characters at a place, digits, whole numbers -/
def nx (n : Nat) (f : Nat → Int32) (p : Nat) : Int32 := if p < n then f p else -1
abbrev dg (n : Nat) (f : Nat → Int32) (p : Nat) : Prop := 48 ≤ (nx n f p).toInt ∧ (nx n f p).toInt ≤ 57
def dc (n : Nat) (f : Nat → Int32) : Nat → Nat → Nat
  | 0, _ => 0
  | k + 1, p => if dg n f p then dc n f k (p + 1) + 1 else 0
def dv (n : Nat) (f : Nat → Int32) : Nat → Nat → Nat → Nat
  | 0, _, v => v
  | k + 1, p, v => if dg n f p then dv n f k (p + 1) (10 * v + ((nx n f p).toInt.toNat - 48)) else v
/-- how many digits, and their value -/
def wd (n : Nat) (f : Nat → Int32) (p : Nat) : Nat := dc n f 7 p
def wv (n : Nat) (f : Nat → Int32) (p : Nat) : Nat := dv n f 7 p 0
theorem dg_lt {n : Nat} {f : Nat → Int32} {p : Nat} (h : dg n f p) : p < n := by
  by_cases hp : p < n
  · exact hp
  · have h1 := h.1
    unfold nx at h1
    rw [if_neg hp] at h1
    exact absurd h1 (by decide)
theorem dc_le (n : Nat) (f : Nat → Int32) : ∀ k p, dc n f k p ≤ k := by
  intro k
  induction k with
  | zero => exact fun p => Nat.le_refl _
  | succ k ih =>
    intro p
    unfold dc
    split
    · have := ih (p + 1); omega
    · omega
theorem dc_n (n : Nat) (f : Nat → Int32) : ∀ k p, p ≤ n → p + dc n f k p ≤ n := by
  intro k
  induction k with
  | zero => exact fun p h => h
  | succ k ih =>
    intro p hp
    unfold dc
    split
    · rename_i h
      have := dg_lt h
      have := ih (p + 1) (by omega)
      omega
    · omega
theorem dc_stop (n : Nat) (f : Nat → Int32) : ∀ k p, dc n f k p < k → ¬ dg n f (p + dc n f k p) := by
  intro k
  induction k with
  | zero => intro p h; omega
  | succ k ih =>
    intro p h
    unfold dc at h ⊢
    split
    · rename_i hd
      rw [if_pos hd] at h
      have := ih (p + 1) (by omega)
      rw [show p + (dc n f k (p + 1) + 1) = p + 1 + dc n f k (p + 1) by omega]
      exact this
    · rename_i hd
      exact hd
theorem dv_lt (n : Nat) (f : Nat → Int32) : ∀ k p v, dv n f k p v < (v + 1) * 10 ^ k := by
  intro k
  induction k with
  | zero => intro p v; unfold dv; omega
  | succ k ih =>
    intro p v
    unfold dv
    have hp : 0 < 10 ^ k := Nat.pow_pos (by decide)
    rw [Nat.pow_succ]
    split
    · rename_i hd
      have h1 := ih (p + 1) (10 * v + ((nx n f p).toInt.toNat - 48))
      have h2 : 10 * v + ((nx n f p).toInt.toNat - 48) + 1 ≤ (v + 1) * 10 := by have := hd.2; omega
      have h3 := Nat.mul_le_mul_right (10 ^ k) h2
      rw [show (v + 1) * (10 ^ k * 10) = (v + 1) * 10 * 10 ^ k by rw [Nat.mul_comm (10 ^ k) 10, Nat.mul_assoc]]
      omega
    · have h2 : (v + 1) * 1 ≤ (v + 1) * (10 ^ k * 10) := Nat.mul_le_mul_left _ (by omega)
      omega
theorem wv_lt (n : Nat) (f : Nat → Int32) (p : Nat) : wv n f p < 10000000 := by
  have := dv_lt n f 7 p 0
  unfold wv
  omega
theorem wd_n {n : Nat} {f : Nat → Int32} {p : Nat} (h : p ≤ n) : p + wd n f p ≤ n := dc_n n f 7 p h
theorem wd_0 {n : Nat} {f : Nat → Int32} {p : Nat} : wd n f p = 0 ↔ ¬ dg n f p := by
  show dc n f 7 p = 0 ↔ _
  unfold dc
  split
  · rename_i h
    exact ⟨fun z => by omega, fun z => absurd h z⟩
  · rename_i h
    exact ⟨fun _ => h, fun _ => rfl⟩
/-- the number ends well -/
abbrev wok (n : Nat) (f : Nat → Int32) (p : Nat) : Prop := wd n f p ≠ 0 ∧ ¬ dg n f (p + wd n f p)
section TX
variable {L : Nat} {xs : Nat → Int32} {c : ax_St} {m : ax_Mo} {o : Nat → Int64} {pool : List (Option ax_C)} {u : Nat} {h : ax_H}
theorem r_next (hn : c.tl ≤ 400) (hp : c.pl ≤ 1000) : ax_run m_Tx_next [.ref 2] (ax_hp L xs c m o pool, u) (.inl (some (.int (nx c.tl c.ch c.pl))), (ax_hp L xs c m o pool, u)) := by
  unfold nx
  split
  · rename_i h1
    (refine ax_run_T (ax_T_of M_Tx_next rfl (Nat.le_of_ble_eq_true rfl) ?_))
    (repeat (first | refine w_iadd1 rfl ?_ | refine w_isub1 rfl ?_ | refine w_iinc1 rfl rfl ?_ | refine w_s rfl rfl ?_ | refine w_get rfl rfl rfl rfl ?_ | refine w_nnl rfl ?_ | refine w_nnlR rfl ?_ | refine w_nul rfl ?_ | refine w_nulR rfl ?_ | refine w_ldc rfl rfl ?_ | refine w_ldc2 rfl rfl ?_ | refine w_put rfl rfl rfl (Nat.le_of_ble_eq_true rfl) (Or.inl rfl) rfl rfl ?_))
    refine w_if1 rfl (fun h5 => absurd (c_lt0.mp h5) (by rw [q_nI' (by omega)]; omega)) (fun _ => ?_)
    (repeat (first | refine w_iadd1 rfl ?_ | refine w_isub1 rfl ?_ | refine w_iinc1 rfl rfl ?_ | refine w_s rfl rfl ?_ | refine w_get rfl rfl rfl rfl ?_ | refine w_nnl rfl ?_ | refine w_nnlR rfl ?_ | refine w_nul rfl ?_ | refine w_nulR rfl ?_ | refine w_ldc rfl rfl ?_ | refine w_ldc2 rfl rfl ?_ | refine w_put rfl rfl rfl (Nat.le_of_ble_eq_true rfl) (Or.inl rfl) rfl rfl ?_))
    refine w_if2 rfl (fun _ => ?_) (fun h5 => absurd ((cn_lt (a := c.pl) (b := c.tl) (by omega) (by omega)).mpr h1) h5)
    (repeat (first | refine w_iadd1 rfl ?_ | refine w_isub1 rfl ?_ | refine w_iinc1 rfl rfl ?_ | refine w_s rfl rfl ?_ | refine w_get rfl rfl rfl rfl ?_ | refine w_nnl rfl ?_ | refine w_nnlR rfl ?_ | refine w_nul rfl ?_ | refine w_nulR rfl ?_ | refine w_ldc rfl rfl ?_ | refine w_ldc2 rfl rfl ?_ | refine w_put rfl rfl rfl (Nat.le_of_ble_eq_true rfl) (Or.inl rfl) rfl rfl ?_))
    refine w_ca rfl rfl rfl (by omega) (by decide) ?_
    (refine w_iret rfl rfl rfl ?_)
    rfl
  · rename_i h1
    (refine ax_run_T (ax_T_of M_Tx_next rfl (Nat.le_of_ble_eq_true rfl) ?_))
    (repeat (first | refine w_iadd1 rfl ?_ | refine w_isub1 rfl ?_ | refine w_iinc1 rfl rfl ?_ | refine w_s rfl rfl ?_ | refine w_get rfl rfl rfl rfl ?_ | refine w_nnl rfl ?_ | refine w_nnlR rfl ?_ | refine w_nul rfl ?_ | refine w_nulR rfl ?_ | refine w_ldc rfl rfl ?_ | refine w_ldc2 rfl rfl ?_ | refine w_put rfl rfl rfl (Nat.le_of_ble_eq_true rfl) (Or.inl rfl) rfl rfl ?_))
    refine w_if1 rfl (fun h5 => absurd (c_lt0.mp h5) (by rw [q_nI' (by omega)]; omega)) (fun _ => ?_)
    (repeat (first | refine w_iadd1 rfl ?_ | refine w_isub1 rfl ?_ | refine w_iinc1 rfl rfl ?_ | refine w_s rfl rfl ?_ | refine w_get rfl rfl rfl rfl ?_ | refine w_nnl rfl ?_ | refine w_nnlR rfl ?_ | refine w_nul rfl ?_ | refine w_nulR rfl ?_ | refine w_ldc rfl rfl ?_ | refine w_ldc2 rfl rfl ?_ | refine w_put rfl rfl rfl (Nat.le_of_ble_eq_true rfl) (Or.inl rfl) rfl rfl ?_))
    refine w_if2 rfl (fun h5 => absurd ((cn_lt (a := c.pl) (b := c.tl) (by omega) (by omega)).mp h5) h1) (fun _ => ?_)
    (repeat (first | refine w_iadd1 rfl ?_ | refine w_isub1 rfl ?_ | refine w_iinc1 rfl rfl ?_ | refine w_s rfl rfl ?_ | refine w_get rfl rfl rfl rfl ?_ | refine w_nnl rfl ?_ | refine w_nnlR rfl ?_ | refine w_nul rfl ?_ | refine w_nulR rfl ?_ | refine w_ldc rfl rfl ?_ | refine w_ldc2 rfl rfl ?_ | refine w_put rfl rfl rfl (Nat.le_of_ble_eq_true rfl) (Or.inl rfl) rfl rfl ?_))
    (refine w_iret rfl rfl rfl ?_)
    rfl
theorem r_isDigit (x : Int32) : ax_run m_Tx_isDigit [.int x] h (.inl (some (.int (bI (48 ≤ x.toInt ∧ x.toInt ≤ 57)))), h) := by
  (refine ax_run_T (ax_T_of M_Tx_isDigit rfl (Nat.le_of_ble_eq_true rfl) ?_))
  (repeat' (first | refine w_iadd1 rfl ?_ | refine w_isub1 rfl ?_ | refine w_iinc1 rfl rfl ?_ | refine w_s rfl rfl ?_ | refine w_get rfl rfl rfl rfl ?_ | refine w_nnl rfl ?_ | refine w_nnlR rfl ?_ | refine w_nul rfl ?_ | refine w_nulR rfl ?_ | refine w_ldc rfl rfl ?_ | refine w_ldc2 rfl rfl ?_ | refine w_put rfl rfl rfl (Nat.le_of_ble_eq_true rfl) (Or.inl rfl) rfl rfl ?_ | ((first | refine w_if2 rfl (fun _ => ?_) (fun _ => ?_) | refine w_if1 rfl (fun _ => ?_) (fun _ => ?_)) <;> try (exfalso; (((try simp only [c_eq0, c_ne0, c_Llt, c_Lle, c_Lgt, c_Lge, c_Leq, c_Lne] at *); try simp only [ax_cnd, vp_in_iff, Int32.lt_iff_toInt_lt, Int32.le_iff_toInt_le, Int64.lt_iff_toInt_lt, Int64.le_iff_toInt_le, q_eq, q_eqL, q_lg, q_nI, q_add, q_sub, q_mul, q_neg, q_addL, q_subL, q_mulL, q_negL, q_i2l, q_l2i, q_b8, q_b16, q_ofI, q_lit, q_ofNL, q_litL, ne_eq, gt_iff_lt, ge_iff_le] at *) <;> omega); done)))) <;> (refine w_iret rfl rfl rfl ?_) <;> (first | exact bT (by (((try simp only [c_eq0, c_ne0, c_Llt, c_Lle, c_Lgt, c_Lge, c_Leq, c_Lne] at *); try simp only [ax_cnd, vp_in_iff, Int32.lt_iff_toInt_lt, Int32.le_iff_toInt_le, Int64.lt_iff_toInt_lt, Int64.le_iff_toInt_le, q_eq, q_eqL, q_lg, q_nI, q_add, q_sub, q_mul, q_neg, q_addL, q_subL, q_mulL, q_negL, q_i2l, q_l2i, q_b8, q_b16, q_ofI, q_lit, q_ofNL, q_litL, ne_eq, gt_iff_lt, ge_iff_le] at *) <;> omega)) | exact bF (by (((try simp only [c_eq0, c_ne0, c_Llt, c_Lle, c_Lgt, c_Lge, c_Leq, c_Lne] at *); try simp only [ax_cnd, vp_in_iff, Int32.lt_iff_toInt_lt, Int32.le_iff_toInt_le, Int64.lt_iff_toInt_lt, Int64.le_iff_toInt_le, q_eq, q_eqL, q_lg, q_nI, q_add, q_sub, q_mul, q_neg, q_addL, q_subL, q_mulL, q_negL, q_i2l, q_l2i, q_b8, q_b16, q_ofI, q_lit, q_ofNL, q_litL, ne_eq, gt_iff_lt, ge_iff_le] at *) <;> omega)) | (exfalso; (((try simp only [c_eq0, c_ne0, c_Llt, c_Lle, c_Lgt, c_Lge, c_Leq, c_Lne] at *); try simp only [ax_cnd, vp_in_iff, Int32.lt_iff_toInt_lt, Int32.le_iff_toInt_le, Int64.lt_iff_toInt_lt, Int64.le_iff_toInt_le, q_eq, q_eqL, q_lg, q_nI, q_add, q_sub, q_mul, q_neg, q_addL, q_subL, q_mulL, q_negL, q_i2l, q_l2i, q_b8, q_b16, q_ofI, q_lit, q_ofNL, q_litL, ne_eq, gt_iff_lt, ge_iff_le] at *) <;> omega)))
theorem r_passes1 (hn : c.tl ≤ 400) (hp : c.pl ≤ 1000) (x : Int32) (hx : nx c.tl c.ch c.pl = x) : ax_run m_Tx_passes [.ref 2, .int x] (ax_hp L xs c m o pool, u) (.inl (some (.int 1)), (ax_hp L xs (ax_St.u_pl c (c.pl + 1)) m o pool, u)) := by
  (refine ax_run_T (ax_T_of M_Tx_passes rfl (Nat.le_of_ble_eq_true rfl) ?_))
  (repeat (first | refine w_iadd1 rfl ?_ | refine w_isub1 rfl ?_ | refine w_iinc1 rfl rfl ?_ | refine w_s rfl rfl ?_ | refine w_get rfl rfl rfl rfl ?_ | refine w_nnl rfl ?_ | refine w_nnlR rfl ?_ | refine w_nul rfl ?_ | refine w_nulR rfl ?_ | refine w_ldc rfl rfl ?_ | refine w_ldc2 rfl rfl ?_ | refine w_put rfl rfl rfl (Nat.le_of_ble_eq_true rfl) (Or.inl rfl) rfl rfl ?_))
  (refine w_cv rfl rfl rfl rfl (by exact Nat.le_of_ble_eq_true rfl) (by exact Nat.le_of_ble_eq_true rfl) (r_next hn hp) ?_; dsimp only [Option.toList, List.drop, List.cons_append, List.nil_append])
  (repeat (first | refine w_iadd1 rfl ?_ | refine w_isub1 rfl ?_ | refine w_iinc1 rfl rfl ?_ | refine w_s rfl rfl ?_ | refine w_get rfl rfl rfl rfl ?_ | refine w_nnl rfl ?_ | refine w_nnlR rfl ?_ | refine w_nul rfl ?_ | refine w_nulR rfl ?_ | refine w_ldc rfl rfl ?_ | refine w_ldc2 rfl rfl ?_ | refine w_put rfl rfl rfl (Nat.le_of_ble_eq_true rfl) (Or.inl rfl) rfl rfl ?_))
  refine w_if2 rfl (fun _ => ?_) (fun h5 => absurd hx h5)
  (repeat (first | refine w_iadd1 rfl ?_ | refine w_isub1 rfl ?_ | refine w_iinc1 rfl rfl ?_ | refine w_s rfl rfl ?_ | refine w_get rfl rfl rfl rfl ?_ | refine w_nnl rfl ?_ | refine w_nnlR rfl ?_ | refine w_nul rfl ?_ | refine w_nulR rfl ?_ | refine w_ldc rfl rfl ?_ | refine w_ldc2 rfl rfl ?_ | refine w_put rfl rfl rfl (Nat.le_of_ble_eq_true rfl) (Or.inl rfl) rfl rfl ?_))
  (refine w_iret rfl rfl rfl ?_)
  rfl
theorem r_passes0 (hn : c.tl ≤ 400) (hp : c.pl ≤ 1000) (x : Int32) (hx : ¬ nx c.tl c.ch c.pl = x) : ax_run m_Tx_passes [.ref 2, .int x] (ax_hp L xs c m o pool, u) (.inl (some (.int 0)), (ax_hp L xs c m o pool, u)) := by
  (refine ax_run_T (ax_T_of M_Tx_passes rfl (Nat.le_of_ble_eq_true rfl) ?_))
  (repeat (first | refine w_iadd1 rfl ?_ | refine w_isub1 rfl ?_ | refine w_iinc1 rfl rfl ?_ | refine w_s rfl rfl ?_ | refine w_get rfl rfl rfl rfl ?_ | refine w_nnl rfl ?_ | refine w_nnlR rfl ?_ | refine w_nul rfl ?_ | refine w_nulR rfl ?_ | refine w_ldc rfl rfl ?_ | refine w_ldc2 rfl rfl ?_ | refine w_put rfl rfl rfl (Nat.le_of_ble_eq_true rfl) (Or.inl rfl) rfl rfl ?_))
  (refine w_cv rfl rfl rfl rfl (by exact Nat.le_of_ble_eq_true rfl) (by exact Nat.le_of_ble_eq_true rfl) (r_next hn hp) ?_; dsimp only [Option.toList, List.drop, List.cons_append, List.nil_append])
  (repeat (first | refine w_iadd1 rfl ?_ | refine w_isub1 rfl ?_ | refine w_iinc1 rfl rfl ?_ | refine w_s rfl rfl ?_ | refine w_get rfl rfl rfl rfl ?_ | refine w_nnl rfl ?_ | refine w_nnlR rfl ?_ | refine w_nul rfl ?_ | refine w_nulR rfl ?_ | refine w_ldc rfl rfl ?_ | refine w_ldc2 rfl rfl ?_ | refine w_put rfl rfl rfl (Nat.le_of_ble_eq_true rfl) (Or.inl rfl) rfl rfl ?_))
  refine w_if2 rfl (fun h5 => absurd h5 hx) (fun _ => ?_)
  (repeat (first | refine w_iadd1 rfl ?_ | refine w_isub1 rfl ?_ | refine w_iinc1 rfl rfl ?_ | refine w_s rfl rfl ?_ | refine w_get rfl rfl rfl rfl ?_ | refine w_nnl rfl ?_ | refine w_nnlR rfl ?_ | refine w_nul rfl ?_ | refine w_nulR rfl ?_ | refine w_ldc rfl rfl ?_ | refine w_ldc2 rfl rfl ?_ | refine w_put rfl rfl rfl (Nat.le_of_ble_eq_true rfl) (Or.inl rfl) rfl rfl ?_))
  (refine w_iret rfl rfl rfl ?_)
  rfl
theorem q_dig (v e : Nat) (x : Int32) (hv : v < 100000000) (hx : x.toInt = (e : Int)) (h1 : 48 ≤ e) (h2 : e ≤ 57) : nI v * (Int8.ofInt 10).toInt32 + (x - (Int8.ofInt 48).toInt32) = nI (10 * v + (e - 48)) := by
  have h3 : x = nI e := q_nIof hx (by omega)
  subst h3
  have h4 : nI e - (Int8.ofInt 48).toInt32 = nI (e - 48) := by
    rw [q_eq, q_sub, q_nI, q_nI, q_b8]
    omega
  rw [h4, show (Int8.ofInt 10).toInt32 = nI 10 from by decide, nI_mulR, nI_addR, Nat.mul_comm v 10]
theorem r_whole0 (hn : c.tl ≤ 400) (hp : c.pl ≤ 1000) (hd : wd c.tl c.ch c.pl = 0) : ax_run m_Tx_readWhole [.ref 2] (ax_hp L xs c m o pool, u) (.inl (some (.int (-1))), (ax_hp L xs c m o pool, u)) := by
  have h1 := wd_0.mp hd
  (refine ax_run_T (ax_T_of M_Tx_readWhole rfl (Nat.le_of_ble_eq_true rfl) ?_))
  (repeat (first | refine w_iadd1 rfl ?_ | refine w_isub1 rfl ?_ | refine w_iinc1 rfl rfl ?_ | refine w_s rfl rfl ?_ | refine w_get rfl rfl rfl rfl ?_ | refine w_nnl rfl ?_ | refine w_nnlR rfl ?_ | refine w_nul rfl ?_ | refine w_nulR rfl ?_ | refine w_ldc rfl rfl ?_ | refine w_ldc2 rfl rfl ?_ | refine w_put rfl rfl rfl (Nat.le_of_ble_eq_true rfl) (Or.inl rfl) rfl rfl ?_))
  (refine w_cv rfl rfl rfl rfl (by exact Nat.le_of_ble_eq_true rfl) (by exact Nat.le_of_ble_eq_true rfl) (r_next hn hp) ?_; dsimp only [Option.toList, List.drop, List.cons_append, List.nil_append])
  (refine w_cs rfl rfl (by first | decide | exact Nat.le_of_ble_eq_true rfl) (by exact Nat.le_of_ble_eq_true rfl) (r_isDigit _) ?_; dsimp only [Option.toList, List.drop, List.cons_append, List.nil_append])
  refine w_if1 rfl (fun h5 => absurd (c_ne0.mp h5) h1) (fun _ => ?_)
  (repeat (first | refine w_iadd1 rfl ?_ | refine w_isub1 rfl ?_ | refine w_iinc1 rfl rfl ?_ | refine w_s rfl rfl ?_ | refine w_get rfl rfl rfl rfl ?_ | refine w_nnl rfl ?_ | refine w_nnlR rfl ?_ | refine w_nul rfl ?_ | refine w_nulR rfl ?_ | refine w_ldc rfl rfl ?_ | refine w_ldc2 rfl rfl ?_ | refine w_put rfl rfl rfl (Nat.le_of_ble_eq_true rfl) (Or.inl rfl) rfl rfl ?_))
  (refine w_iret rfl rfl rfl ?_)
  rfl
theorem r_whole1 (hn : c.tl ≤ 400) (hp : c.pl ≤ c.tl) (hd : wd c.tl c.ch c.pl ≠ 0) : ax_run m_Tx_readWhole [.ref 2] (ax_hp L xs c m o pool, u) (.inl (some (.int (nI (wv c.tl c.ch c.pl)))), (ax_hp L xs (ax_St.u_pl c (c.pl + wd c.tl c.ch c.pl)) m o pool, u)) := by
  have h1 : dg c.tl c.ch c.pl := Decidable.not_not.mp (fun z => hd (wd_0.mpr z))
  have lp : ∀ (k j p v : Nat), j + k = 7 → p ≤ c.tl → v < 10 ^ j → ax_wp ax_run M_Tx_readWhole (fun r' => r' = (.inl (some (.int (nI (dv c.tl c.ch k p v)))), (ax_hp L xs (ax_St.u_pl c (p + dc c.tl c.ch k p)) m o pool, u))) 16 [(0, .ref 2), (1, .int (nI v)), (2, .int (nI j))] [] (ax_hp L xs (ax_St.u_pl c p) m o pool, u) := by
    intro k
    induction k with
    | zero =>
      intro j p v hj hpl hv
      have : j = 7 := by omega
      subst this
      (repeat (first | refine w_iadd1 rfl ?_ | refine w_isub1 rfl ?_ | refine w_iinc1 rfl rfl ?_ | refine w_s rfl rfl ?_ | refine w_get rfl rfl rfl rfl ?_ | refine w_nnl rfl ?_ | refine w_nnlR rfl ?_ | refine w_nul rfl ?_ | refine w_nulR rfl ?_ | refine w_ldc rfl rfl ?_ | refine w_ldc2 rfl rfl ?_ | refine w_put rfl rfl rfl (Nat.le_of_ble_eq_true rfl) (Or.inl rfl) rfl rfl ?_))
      refine w_if2 rfl (fun _ => ?_) (fun h5 => absurd ((cn_ge (a := 7) (b := 7) (by omega) (by omega)).mpr (Nat.le_refl _)) h5)
      (repeat (first | refine w_iadd1 rfl ?_ | refine w_isub1 rfl ?_ | refine w_iinc1 rfl rfl ?_ | refine w_s rfl rfl ?_ | refine w_get rfl rfl rfl rfl ?_ | refine w_nnl rfl ?_ | refine w_nnlR rfl ?_ | refine w_nul rfl ?_ | refine w_nulR rfl ?_ | refine w_ldc rfl rfl ?_ | refine w_ldc2 rfl rfl ?_ | refine w_put rfl rfl rfl (Nat.le_of_ble_eq_true rfl) (Or.inl rfl) rfl rfl ?_))
      (refine w_iret rfl rfl rfl ?_)
      rfl
    | succ k ih =>
      intro j p v hj hpl hv
      have hv2 : v < 100000000 := Nat.lt_of_lt_of_le hv (Nat.le_trans (Nat.pow_le_pow_right (by decide) (show j ≤ 7 by omega)) (by decide))
      (repeat (first | refine w_iadd1 rfl ?_ | refine w_isub1 rfl ?_ | refine w_iinc1 rfl rfl ?_ | refine w_s rfl rfl ?_ | refine w_get rfl rfl rfl rfl ?_ | refine w_nnl rfl ?_ | refine w_nnlR rfl ?_ | refine w_nul rfl ?_ | refine w_nulR rfl ?_ | refine w_ldc rfl rfl ?_ | refine w_ldc2 rfl rfl ?_ | refine w_put rfl rfl rfl (Nat.le_of_ble_eq_true rfl) (Or.inl rfl) rfl rfl ?_))
      refine w_if2 rfl (fun h5 => absurd ((cn_ge (a := j) (b := 7) (by omega) (by omega)).mp h5) (by omega)) (fun _ => ?_)
      (repeat (first | refine w_iadd1 rfl ?_ | refine w_isub1 rfl ?_ | refine w_iinc1 rfl rfl ?_ | refine w_s rfl rfl ?_ | refine w_get rfl rfl rfl rfl ?_ | refine w_nnl rfl ?_ | refine w_nnlR rfl ?_ | refine w_nul rfl ?_ | refine w_nulR rfl ?_ | refine w_ldc rfl rfl ?_ | refine w_ldc2 rfl rfl ?_ | refine w_put rfl rfl rfl (Nat.le_of_ble_eq_true rfl) (Or.inl rfl) rfl rfl ?_))
      (refine w_cv rfl rfl rfl rfl (by exact Nat.le_of_ble_eq_true rfl) (by exact Nat.le_of_ble_eq_true rfl) (r_next (c := (ax_St.u_pl c p)) hn (by show p ≤ 1000; omega)) ?_; dsimp only [Option.toList, List.drop, List.cons_append, List.nil_append])
      (refine w_cs rfl rfl (by first | decide | exact Nat.le_of_ble_eq_true rfl) (by exact Nat.le_of_ble_eq_true rfl) (r_isDigit _) ?_; dsimp only [Option.toList, List.drop, List.cons_append, List.nil_append])
      refine w_if1 rfl (fun h5 => ?_) (fun h5 => ?_)
      · have h6 : ¬ dg c.tl c.ch p := c_eq0.mp h5
        (repeat (first | refine w_iadd1 rfl ?_ | refine w_isub1 rfl ?_ | refine w_iinc1 rfl rfl ?_ | refine w_s rfl rfl ?_ | refine w_get rfl rfl rfl rfl ?_ | refine w_nnl rfl ?_ | refine w_nnlR rfl ?_ | refine w_nul rfl ?_ | refine w_nulR rfl ?_ | refine w_ldc rfl rfl ?_ | refine w_ldc2 rfl rfl ?_ | refine w_put rfl rfl rfl (Nat.le_of_ble_eq_true rfl) (Or.inl rfl) rfl rfl ?_))
        (refine w_iret rfl rfl rfl ?_)
        unfold dv dc
        rw [if_neg h6, if_neg h6]
        rfl
      · have h6 : dg c.tl c.ch p := Decidable.not_not.mp (fun z => h5 (c_eq0.mpr z))
        obtain ⟨e, he, he2, -⟩ := q_nat (x := nx c.tl c.ch p) (by have := h6.1; omega)
        have h7 := h6.1
        have h8 := h6.2
        have hlt := dg_lt h6
        (repeat (first | refine w_iadd1 rfl ?_ | refine w_isub1 rfl ?_ | refine w_iinc1 rfl rfl ?_ | refine w_s rfl rfl ?_ | refine w_get rfl rfl rfl rfl ?_ | refine w_nnl rfl ?_ | refine w_nnlR rfl ?_ | refine w_nul rfl ?_ | refine w_nulR rfl ?_ | refine w_ldc rfl rfl ?_ | refine w_ldc2 rfl rfl ?_ | refine w_put rfl rfl rfl (Nat.le_of_ble_eq_true rfl) (Or.inl rfl) rfl rfl ?_))
        (refine w_cv rfl rfl rfl rfl (by exact Nat.le_of_ble_eq_true rfl) (by exact Nat.le_of_ble_eq_true rfl) (r_next (c := (ax_St.u_pl c p)) hn (by show p ≤ 1000; omega)) ?_; dsimp only [Option.toList, List.drop, List.cons_append, List.nil_append])
        (repeat ((fail_if_success (show ax_wp _ _ _ 44 _ _ _)); (first | refine w_iadd1 rfl ?_ | refine w_isub1 rfl ?_ | refine w_iinc1 rfl rfl ?_ | refine w_s rfl rfl ?_ | refine w_get rfl rfl rfl rfl ?_ | refine w_nnl rfl ?_ | refine w_nnlR rfl ?_ | refine w_nul rfl ?_ | refine w_nulR rfl ?_ | refine w_ldc rfl rfl ?_ | refine w_ldc2 rfl rfl ?_ | refine w_put rfl rfl rfl (Nat.le_of_ble_eq_true rfl) (Or.inl rfl) rfl rfl ?_)))
        refine w_eqI (y := nI (10 * v + ((nx c.tl c.ch p).toInt.toNat - 48))) ?_ ?_
        · have h9 := q_dig v e (nx c.tl c.ch p) hv2 (by omega) (by omega) (by omega)
          rw [show (nx c.tl c.ch p).toInt.toNat = e by omega]
          exact h9
        (repeat ((fail_if_success (show ax_wp _ _ _ 16 _ _ _)); (first | refine w_iadd1 rfl ?_ | refine w_isub1 rfl ?_ | refine w_iinc1 rfl rfl ?_ | refine w_s rfl rfl ?_ | refine w_get rfl rfl rfl rfl ?_ | refine w_nnl rfl ?_ | refine w_nnlR rfl ?_ | refine w_nul rfl ?_ | refine w_nulR rfl ?_ | refine w_ldc rfl rfl ?_ | refine w_ldc2 rfl rfl ?_ | refine w_put rfl rfl rfl (Nat.le_of_ble_eq_true rfl) (Or.inl rfl) rfl rfl ?_)))
        unfold dv dc
        rw [if_pos h6, if_pos h6]
        have hpow : 10 * v + ((nx c.tl c.ch p).toInt.toNat - 48) < 10 ^ (j + 1) := by
          rw [Nat.pow_succ]
          omega
        have := ih (j + 1) (p + 1) (10 * v + ((nx c.tl c.ch p).toInt.toNat - 48)) (by omega) (by omega) hpow
        rw [show p + (dc c.tl c.ch k (p + 1) + 1) = p + 1 + dc c.tl c.ch k (p + 1) by omega]
        exact w_lv this rfl ⟨rfl, rfl, rfl, trivial⟩
  (refine ax_run_T (ax_T_of M_Tx_readWhole rfl (Nat.le_of_ble_eq_true rfl) ?_))
  (repeat (first | refine w_iadd1 rfl ?_ | refine w_isub1 rfl ?_ | refine w_iinc1 rfl rfl ?_ | refine w_s rfl rfl ?_ | refine w_get rfl rfl rfl rfl ?_ | refine w_nnl rfl ?_ | refine w_nnlR rfl ?_ | refine w_nul rfl ?_ | refine w_nulR rfl ?_ | refine w_ldc rfl rfl ?_ | refine w_ldc2 rfl rfl ?_ | refine w_put rfl rfl rfl (Nat.le_of_ble_eq_true rfl) (Or.inl rfl) rfl rfl ?_))
  (refine w_cv rfl rfl rfl rfl (by exact Nat.le_of_ble_eq_true rfl) (by exact Nat.le_of_ble_eq_true rfl) (r_next hn (by omega)) ?_; dsimp only [Option.toList, List.drop, List.cons_append, List.nil_append])
  (refine w_cs rfl rfl (by first | decide | exact Nat.le_of_ble_eq_true rfl) (by exact Nat.le_of_ble_eq_true rfl) (r_isDigit _) ?_; dsimp only [Option.toList, List.drop, List.cons_append, List.nil_append])
  refine w_if1 rfl (fun _ => ?_) (fun h5 => absurd (c_ne0.mpr h1) h5)
  (repeat ((fail_if_success (show ax_wp _ _ _ 16 _ _ _)); (first | refine w_iadd1 rfl ?_ | refine w_isub1 rfl ?_ | refine w_iinc1 rfl rfl ?_ | refine w_s rfl rfl ?_ | refine w_get rfl rfl rfl rfl ?_ | refine w_nnl rfl ?_ | refine w_nnlR rfl ?_ | refine w_nul rfl ?_ | refine w_nulR rfl ?_ | refine w_ldc rfl rfl ?_ | refine w_ldc2 rfl rfl ?_ | refine w_put rfl rfl rfl (Nat.le_of_ble_eq_true rfl) (Or.inl rfl) rfl rfl ?_)))
  exact w_lv (lp 7 0 c.pl 0 (by decide) hp (by decide)) rfl ⟨rfl, rfl, rfl, trivial⟩
end TX
