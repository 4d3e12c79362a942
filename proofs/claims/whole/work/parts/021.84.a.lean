/-! the reference's side of the offers -/
abbrev BRel (c : ax_St) (m : ax_Mo) : Prop := (m.things = c.bn) ∧ (∀ t, t < c.bn → m.kinds t = c.kinds t) ∧ (∀ t, t < c.bn → (m.values t).toInt = (c.values t).toInt) ∧ (∀ t, t < c.bn → m.layers t = c.layers t) ∧ (∀ t, t < c.bn → (m.x t).toInt = (c.xs t).toInt) ∧ (∀ t, t < c.bn → (m.y t).toInt = (c.ys t).toInt)
theorem BRel.n {c : ax_St} {m : ax_Mo} (h_ : BRel c m) : m.things = c.bn := h_.1
theorem BRel.k {c : ax_St} {m : ax_Mo} (h_ : BRel c m) : ∀ t, t < c.bn → m.kinds t = c.kinds t := h_.2.1
theorem BRel.v {c : ax_St} {m : ax_Mo} (h_ : BRel c m) : ∀ t, t < c.bn → (m.values t).toInt = (c.values t).toInt := h_.2.2.1
theorem BRel.l {c : ax_St} {m : ax_Mo} (h_ : BRel c m) : ∀ t, t < c.bn → m.layers t = c.layers t := h_.2.2.2.1
theorem BRel.x {c : ax_St} {m : ax_Mo} (h_ : BRel c m) : ∀ t, t < c.bn → (m.x t).toInt = (c.xs t).toInt := h_.2.2.2.2.1
theorem BRel.y {c : ax_St} {m : ax_Mo} (h_ : BRel c m) : ∀ t, t < c.bn → (m.y t).toInt = (c.ys t).toInt := h_.2.2.2.2.2
abbrev NumAt (m : ax_Mo) (p : Nat) (F : ax_Of) : Prop := (m.classes p = nI F.n) ∧ (∀ k, k < F.n → ∀ j, j < 6 → (m.numbers (64 * p + 16 * k + j)).toInt = ((F.g k).lim j).toInt) ∧ (∀ k, k < F.n → (m.numbers (64 * p + 16 * k + 6)).toInt = (F.g k).st) ∧ (∀ k, k < F.n → (m.numbers (64 * p + 16 * k + 7)).toInt = (F.g k).dy.toInt) ∧ (∀ k, k < F.n → ∀ s, s < (F.g k).st → (m.numbers (64 * p + 16 * k + (8 + 2 * s))).toInt = ((F.g k).fr s).toInt) ∧ (∀ k, k < F.n → ∀ s, s < (F.g k).st → (m.numbers (64 * p + 16 * k + (9 + 2 * s))).toInt = ((F.g k).ce s).toInt)
theorem NumAt.cl {m : ax_Mo} {p : Nat} {F : ax_Of} (h_ : NumAt m p F) : m.classes p = nI F.n := h_.1
theorem NumAt.lm {m : ax_Mo} {p : Nat} {F : ax_Of} (h_ : NumAt m p F) : ∀ k, k < F.n → ∀ j, j < 6 → (m.numbers (64 * p + 16 * k + j)).toInt = ((F.g k).lim j).toInt := h_.2.1
theorem NumAt.st {m : ax_Mo} {p : Nat} {F : ax_Of} (h_ : NumAt m p F) : ∀ k, k < F.n → (m.numbers (64 * p + 16 * k + 6)).toInt = (F.g k).st := h_.2.2.1
theorem NumAt.dy {m : ax_Mo} {p : Nat} {F : ax_Of} (h_ : NumAt m p F) : ∀ k, k < F.n → (m.numbers (64 * p + 16 * k + 7)).toInt = (F.g k).dy.toInt := h_.2.2.2.1
theorem NumAt.fr {m : ax_Mo} {p : Nat} {F : ax_Of} (h_ : NumAt m p F) : ∀ k, k < F.n → ∀ s, s < (F.g k).st → (m.numbers (64 * p + 16 * k + (8 + 2 * s))).toInt = ((F.g k).fr s).toInt := h_.2.2.2.2.1
theorem NumAt.ce {m : ax_Mo} {p : Nat} {F : ax_Of} (h_ : NumAt m p F) : ∀ k, k < F.n → ∀ s, s < (F.g k).st → (m.numbers (64 * p + 16 * k + (9 + 2 * s))).toInt = ((F.g k).ce s).toInt := h_.2.2.2.2.2
section MF
variable {L : Nat} {xs : Nat → Int32} {c : ax_St} {m : ax_Mo} {o : Nat → Int64} {pool : List (Option ax_C)} {u : Nat} {h : ax_H}
theorem n_place (p k : Nat) (hp : p < 100) (hk : k < 100) : ax_run m_Mo_place [.int (nI p), .int (nI k)] h (.inl (some (.int (nI (64 * p + 16 * k)))), h) := by
  (refine ax_run_T (ax_T_of M_Mo_place rfl (Nat.le_of_ble_eq_true rfl) ?_))
  (repeat (first | refine w_iadd1 rfl ?_ | refine w_isub1 rfl ?_ | refine w_iinc1 rfl rfl ?_ | refine w_s rfl rfl ?_ | refine w_get rfl rfl rfl rfl ?_ | refine w_nnl rfl ?_ | refine w_nnlR rfl ?_ | refine w_nul rfl ?_ | refine w_nulR rfl ?_ | refine w_ldc rfl rfl ?_ | refine w_ldc2 rfl rfl ?_ | refine w_put rfl rfl rfl (Nat.le_of_ble_eq_true rfl) (Or.inl rfl) rfl rfl ?_))
  refine w_eqI (y := nI (64 * p + 16 * k)) (by (simp only [kb6, kb7, kb8, kb9, kb16, ki0, ki1, ki2, ki3, ki4, ki5, nI_addR, nI_mulR]; try (congr 1; omega))) ?_
  (refine w_iret rfl rfl rfl ?_)
  rfl
theorem n_beyond {p : Nat} {F : ax_Of} (hN : NumAt m p F) (hok : OfferOk F) (hR : BRel c m) (hb : BoardOk c) (hp : p < 15) (k t : Nat) (hk : k < F.n) (ht : t < c.bn) :
    ax_run m_Mo_beyond [.ref 23, .int (nI p), .int (nI k), .int (nI t)] (ax_hp L xs c m o pool, u) (.inl (some (.long (Int64.ofInt (ax_ex c (F.g k) t)))), (ax_hp L xs c m o pool, u)) := by
  have hn4 := hok.n4
  have hbn := hb.n
  obtain ⟨d, hd0, hd1, hd2⟩ := q_nat (x := c.kinds t) (hb.k t ht).1
  have hd3 := (hb.k t ht).2
  have hv := hb.v t ht
  have hlm := hN.lm k hk d (by omega)
  have hlb := (hok.gs k hk).lm d (by omega)
  have hvt := hR.v t ht
  have hdd : (nI d).toInt.toNat = d := by rw [q_nI' hd2]; rfl
  have e0 : ax_ex c (F.g k) t = (if (d : Int) < 4 then ((F.g k).lim d).toInt - (c.values t).toInt else (c.values t).toInt - ((F.g k).lim d).toInt) := by
    unfold ax_ex
    rw [hd0, hdd, q_nI' hd2]
  rw [e0]
  clear e0 hdd
  (refine ax_run_T (ax_T_of M_Mo_beyond rfl (Nat.le_of_ble_eq_true rfl) ?_))
  (repeat (first | refine w_iadd1 rfl ?_ | refine w_isub1 rfl ?_ | refine w_iinc1 rfl rfl ?_ | refine w_s rfl rfl ?_ | refine w_get rfl rfl rfl rfl ?_ | refine w_nnl rfl ?_ | refine w_nnlR rfl ?_ | refine w_nul rfl ?_ | refine w_nulR rfl ?_ | refine w_ldc rfl rfl ?_ | refine w_ldc2 rfl rfl ?_ | refine w_put rfl rfl rfl (Nat.le_of_ble_eq_true rfl) (Or.inl rfl) rfl rfl ?_))
  (refine w_cs rfl rfl (by first | decide | exact Nat.le_of_ble_eq_true rfl) (by exact Nat.le_of_ble_eq_true rfl) (n_place p k (by omega) (by omega)) ?_; dsimp only [Option.toList, List.drop, List.cons_append, List.nil_append])
  (repeat (first | refine w_iadd1 rfl ?_ | refine w_isub1 rfl ?_ | refine w_iinc1 rfl rfl ?_ | refine w_s rfl rfl ?_ | refine w_get rfl rfl rfl rfl ?_ | refine w_nnl rfl ?_ | refine w_nnlR rfl ?_ | refine w_nul rfl ?_ | refine w_nulR rfl ?_ | refine w_ldc rfl rfl ?_ | refine w_ldc2 rfl rfl ?_ | refine w_put rfl rfl rfl (Nat.le_of_ble_eq_true rfl) (Or.inl rfl) rfl rfl ?_))
  refine w_ia rfl rfl rfl (by omega) (by decide) ?_
  rw [hR.k t ht, hd0]
  (repeat (first | refine w_iadd1 rfl ?_ | refine w_isub1 rfl ?_ | refine w_iinc1 rfl rfl ?_ | refine w_s rfl rfl ?_ | refine w_get rfl rfl rfl rfl ?_ | refine w_nnl rfl ?_ | refine w_nnlR rfl ?_ | refine w_nul rfl ?_ | refine w_nulR rfl ?_ | refine w_ldc rfl rfl ?_ | refine w_ldc2 rfl rfl ?_ | refine w_put rfl rfl rfl (Nat.le_of_ble_eq_true rfl) (Or.inl rfl) rfl rfl ?_))
  refine w_la (j := 64 * p + 16 * k + d) rfl rfl (by (simp only [kb6, kb7, kb8, kb9, kb16, ki0, ki1, ki2, ki3, ki4, ki5, nI_addR, nI_mulR]; try (congr 1; omega))) (by omega) (by decide) ?_
  (repeat (first | refine w_iadd1 rfl ?_ | refine w_isub1 rfl ?_ | refine w_iinc1 rfl rfl ?_ | refine w_s rfl rfl ?_ | refine w_get rfl rfl rfl rfl ?_ | refine w_nnl rfl ?_ | refine w_nnlR rfl ?_ | refine w_nul rfl ?_ | refine w_nulR rfl ?_ | refine w_ldc rfl rfl ?_ | refine w_ldc2 rfl rfl ?_ | refine w_put rfl rfl rfl (Nat.le_of_ble_eq_true rfl) (Or.inl rfl) rfl rfl ?_))
  refine w_ia rfl rfl rfl (by omega) (by decide) ?_
  rw [hR.k t ht, hd0]
  (repeat (first | refine w_iadd1 rfl ?_ | refine w_isub1 rfl ?_ | refine w_iinc1 rfl rfl ?_ | refine w_s rfl rfl ?_ | refine w_get rfl rfl rfl rfl ?_ | refine w_nnl rfl ?_ | refine w_nnlR rfl ?_ | refine w_nul rfl ?_ | refine w_nulR rfl ?_ | refine w_ldc rfl rfl ?_ | refine w_ldc2 rfl rfl ?_ | refine w_put rfl rfl rfl (Nat.le_of_ble_eq_true rfl) (Or.inl rfl) rfl rfl ?_))
  refine w_if2 rfl (fun h5 => ?_) (fun h5 => ?_)
  · (repeat (first | refine w_iadd1 rfl ?_ | refine w_isub1 rfl ?_ | refine w_iinc1 rfl rfl ?_ | refine w_s rfl rfl ?_ | refine w_get rfl rfl rfl rfl ?_ | refine w_nnl rfl ?_ | refine w_nnlR rfl ?_ | refine w_nul rfl ?_ | refine w_nulR rfl ?_ | refine w_ldc rfl rfl ?_ | refine w_ldc2 rfl rfl ?_ | refine w_put rfl rfl rfl (Nat.le_of_ble_eq_true rfl) (Or.inl rfl) rfl rfl ?_))
    refine w_la rfl rfl rfl (by omega) (by decide) ?_
    (repeat (first | refine w_iadd1 rfl ?_ | refine w_isub1 rfl ?_ | refine w_iinc1 rfl rfl ?_ | refine w_s rfl rfl ?_ | refine w_get rfl rfl rfl rfl ?_ | refine w_nnl rfl ?_ | refine w_nnlR rfl ?_ | refine w_nul rfl ?_ | refine w_nulR rfl ?_ | refine w_ldc rfl rfl ?_ | refine w_ldc2 rfl rfl ?_ | refine w_put rfl rfl rfl (Nat.le_of_ble_eq_true rfl) (Or.inl rfl) rfl rfl ?_))
    refine w_lret rfl rfl ?_
    rw [if_neg (by (((try simp only [c_eq0, c_ne0, c_Llt, c_Lle, c_Lgt, c_Lge, c_Leq, c_Lne] at *); try simp only [ax_cnd, vp_in_iff, Int32.lt_iff_toInt_lt, Int32.le_iff_toInt_le, Int64.lt_iff_toInt_lt, Int64.le_iff_toInt_le, q_eq, q_eqL, q_lg, q_nI, q_add, q_sub, q_mul, q_neg, q_addL, q_subL, q_mulL, q_negL, q_i2l, q_l2i, q_b8, q_b16, q_ofI, q_lit, q_ofNL, q_litL, ne_eq, gt_iff_lt, ge_iff_le] at *) <;> omega))]
    congr 4
    apply q_toL
    rw [q_subL, hlm, hvt]
    omega
  · (repeat (first | refine w_iadd1 rfl ?_ | refine w_isub1 rfl ?_ | refine w_iinc1 rfl rfl ?_ | refine w_s rfl rfl ?_ | refine w_get rfl rfl rfl rfl ?_ | refine w_nnl rfl ?_ | refine w_nnlR rfl ?_ | refine w_nul rfl ?_ | refine w_nulR rfl ?_ | refine w_ldc rfl rfl ?_ | refine w_ldc2 rfl rfl ?_ | refine w_put rfl rfl rfl (Nat.le_of_ble_eq_true rfl) (Or.inl rfl) rfl rfl ?_))
    refine w_la rfl rfl rfl (by omega) (by decide) ?_
    (repeat (first | refine w_iadd1 rfl ?_ | refine w_isub1 rfl ?_ | refine w_iinc1 rfl rfl ?_ | refine w_s rfl rfl ?_ | refine w_get rfl rfl rfl rfl ?_ | refine w_nnl rfl ?_ | refine w_nnlR rfl ?_ | refine w_nul rfl ?_ | refine w_nulR rfl ?_ | refine w_ldc rfl rfl ?_ | refine w_ldc2 rfl rfl ?_ | refine w_put rfl rfl rfl (Nat.le_of_ble_eq_true rfl) (Or.inl rfl) rfl rfl ?_))
    refine w_lret rfl rfl ?_
    rw [if_pos (by (((try simp only [c_eq0, c_ne0, c_Llt, c_Lle, c_Lgt, c_Lge, c_Leq, c_Lne] at *); try simp only [ax_cnd, vp_in_iff, Int32.lt_iff_toInt_lt, Int32.le_iff_toInt_le, Int64.lt_iff_toInt_lt, Int64.le_iff_toInt_le, q_eq, q_eqL, q_lg, q_nI, q_add, q_sub, q_mul, q_neg, q_addL, q_subL, q_mulL, q_negL, q_i2l, q_l2i, q_b8, q_b16, q_ofI, q_lit, q_ofNL, q_litL, ne_eq, gt_iff_lt, ge_iff_le] at *) <;> omega))]
    congr 4
    apply q_toL
    rw [q_subL, hlm, hvt]
    omega
end MF
