abbrev MqRel (c : ax_St) (m : ax_Mo) (Qs : Nat → ax_Of) : Prop := (m.quotes = c.qn) ∧ (c.qn ≤ 10) ∧ (∀ q, q < c.qn → m.quoteMaker q = c.qm q) ∧ (∀ q, q < c.qn → m.until_ q = c.qu q) ∧ (∀ q, q < c.qn → NumAt m (4 + q) (Qs q) ∧ OfferOk (Qs q))
theorem MqRel.n {c : ax_St} {m : ax_Mo} {Qs : Nat → ax_Of} (h_ : MqRel c m Qs) : m.quotes = c.qn := h_.1
theorem MqRel.n10 {c : ax_St} {m : ax_Mo} {Qs : Nat → ax_Of} (h_ : MqRel c m Qs) : c.qn ≤ 10 := h_.2.1
theorem MqRel.mkr {c : ax_St} {m : ax_Mo} {Qs : Nat → ax_Of} (h_ : MqRel c m Qs) : ∀ q, q < c.qn → m.quoteMaker q = c.qm q := h_.2.2.1
theorem MqRel.un {c : ax_St} {m : ax_Mo} {Qs : Nat → ax_Of} (h_ : MqRel c m Qs) : ∀ q, q < c.qn → m.until_ q = c.qu q := h_.2.2.2.1
theorem MqRel.at_ {c : ax_St} {m : ax_Mo} {Qs : Nat → ax_Of} (h_ : MqRel c m Qs) : ∀ q, q < c.qn → NumAt m (4 + q) (Qs q) ∧ OfferOk (Qs q) := h_.2.2.2.2
def ax_mrow (f : Nat → Int64) (r : Nat) (k cl : Int32) (q dy p : Int64) (l : Int64) : Nat → Int64 :=
  vp_updL (vp_updL (vp_updL (vp_updL (vp_updL (vp_updL (vp_updL f r k.toInt64) (r + 1) cl.toInt64) (r + 2) q) (r + 3) dy) (r + 4) (p / 1000)) (r + 5) (p - p / 1000 * 1000)) (r + 6) l
theorem q_pred (n : Nat) (h : n ≤ 10) : (nI n - Int32.ofInt 1).toInt = (n : Int) - 1 := by
  rw [q_sub, q_nI, q_ofI]
  omega
section MI
variable {L : Nat} {xs : Nat → Int32} {c : ax_St} {m : ax_Mo} {o : Nat → Int64} {pool : List (Option ax_C)} {u : Nat} {h : ax_H}
/-- the row of the offer that counts -/
def ax_prow (n : Nat) (l : Int32) : Nat := if l.toInt < 0 then n else 4 + l.toInt.toNat
def mp_order2 (c : ax_St) (m : ax_Mo) (k : Int32) (q : Int64) (l : Int32) (F : ax_Of) (p : Nat) : Value × ax_Mo :=
  if m.orders = 20 ∨ ax_least c F = -1 then (.int (-1), (ax_Mo.u_thrown m 0))
  else (.int (nI m.orders), (ax_Mo.u_orders (ax_Mo.u_orderRow (ax_Mo.u_thrown m 0) (ax_mrow m.orderRow (7 * m.orders) k (ax_least c F) q (m.numbers (64 * p + 16 * (ax_least c F).toInt.toNat + 7)) (Int64.ofInt (ax_pri (F.g (ax_least c F).toInt.toNat) q)) (if l.toInt < 0 then -1 else l.toInt64))) (m.orders + 1)))
def mp_order (c : ax_St) (m : ax_Mo) (Fs Qs : Nat → ax_Of) (k : Int32) (q d : Int64) : Value × ax_Mo :=
  if ¬ (0 ≤ k.toInt ∧ k.toInt < m.makers) then (.int 0, (ax_Mo.u_thrown m 1)) else if ¬ (1 ≤ q.toInt ∧ q.toInt ≤ 1000000) then (.int 0, (ax_Mo.u_thrown m 2))
  else mp_order2 c m k q (ax_latest c k d) (ax_ofr c Fs Qs k.toInt.toNat (ax_latest c k d)) (ax_prow k.toInt.toNat (ax_latest c k d))
theorem n_order2 {F : ax_Of} {p : Nat} (hN : NumAt m p F) (hok : OfferOk F) (hR : BRel c m) (hb : BoardOk c) (ho : m.orders ≤ 20) (hp : p < 15) (k : Nat) (q : Int64) (hq : 1 ≤ q.toInt ∧ q.toInt ≤ 1000000) (l : Int32) :
    ax_wp ax_run M_Mo_order (fun r' => r' = ax_mout L xs c o pool u (mp_order2 c m (nI k) q l F p)) 95 [(0, .ref 23), (1, .int (nI k)), (2, .long q), (6, .int l), (7, .int (nI p))] [] (ax_hp L xs c (ax_Mo.u_thrown m 0) o pool, u) := by
  have hn4 := hok.n4
  (repeat (first | refine w_iadd1 rfl ?_ | refine w_isub1 rfl ?_ | refine w_iinc1 rfl rfl ?_ | refine w_s rfl rfl ?_ | refine w_get rfl rfl rfl rfl ?_ | refine w_nnl rfl ?_ | refine w_nnlR rfl ?_ | refine w_nul rfl ?_ | refine w_nulR rfl ?_ | refine w_ldc rfl rfl ?_ | refine w_ldc2 rfl rfl ?_ | refine w_put rfl rfl rfl (Nat.le_of_ble_eq_true rfl) (Or.inl rfl) rfl rfl ?_))
  (refine w_cv rfl rfl rfl rfl (by exact Nat.le_of_ble_eq_true rfl) (by exact Nat.le_of_ble_eq_true rfl) (n_leastOf (m := (ax_Mo.u_thrown m 0)) hN.thr hok hR.thr hb hp) ?_; dsimp only [Option.toList, List.drop, List.cons_append, List.nil_append])
  (repeat (first | refine w_iadd1 rfl ?_ | refine w_isub1 rfl ?_ | refine w_iinc1 rfl rfl ?_ | refine w_s rfl rfl ?_ | refine w_get rfl rfl rfl rfl ?_ | refine w_nnl rfl ?_ | refine w_nnlR rfl ?_ | refine w_nul rfl ?_ | refine w_nulR rfl ?_ | refine w_ldc rfl rfl ?_ | refine w_ldc2 rfl rfl ?_ | refine w_put rfl rfl rfl (Nat.le_of_ble_eq_true rfl) (Or.inl rfl) rfl rfl ?_))
  unfold mp_order2
  refine w_if2 rfl (fun h5 => ?_) (fun h5 => ?_)
  · have h6 : m.orders = 20 := (cn_eq (a := m.orders) (b := 20) (by omega) (by omega)).mp h5
    rw [if_pos (Or.inl h6)]
    (repeat (first | refine w_iadd1 rfl ?_ | refine w_isub1 rfl ?_ | refine w_iinc1 rfl rfl ?_ | refine w_s rfl rfl ?_ | refine w_get rfl rfl rfl rfl ?_ | refine w_nnl rfl ?_ | refine w_nnlR rfl ?_ | refine w_nul rfl ?_ | refine w_nulR rfl ?_ | refine w_ldc rfl rfl ?_ | refine w_ldc2 rfl rfl ?_ | refine w_put rfl rfl rfl (Nat.le_of_ble_eq_true rfl) (Or.inl rfl) rfl rfl ?_))
    (refine w_iret rfl rfl rfl ?_)
    rfl
  · have h6 : ¬ m.orders = 20 := fun z => h5 ((cn_eq (a := m.orders) (b := 20) (by omega) (by omega)).mpr z)
    (repeat (first | refine w_iadd1 rfl ?_ | refine w_isub1 rfl ?_ | refine w_iinc1 rfl rfl ?_ | refine w_s rfl rfl ?_ | refine w_get rfl rfl rfl rfl ?_ | refine w_nnl rfl ?_ | refine w_nnlR rfl ?_ | refine w_nul rfl ?_ | refine w_nulR rfl ?_ | refine w_ldc rfl rfl ?_ | refine w_ldc2 rfl rfl ?_ | refine w_put rfl rfl rfl (Nat.le_of_ble_eq_true rfl) (Or.inl rfl) rfl rfl ?_))
    refine w_if2 rfl (fun h7 => ?_) (fun h7 => ?_)
    · have h8 : ¬ ax_least c F = -1 := h7
      rw [if_neg (fun z => z.elim h6 h8)]
      rcases ax_least_r (c := c) hn4 with hl | ⟨b, hb1, hl⟩
      · exact absurd hl h8
      · have hbb : (nI b).toInt.toNat = b := by rw [q_nI' (by omega)]; rfl
        rw [hl, hbb]
        clear hbb
        (repeat ((fail_if_success (show ax_wp _ _ _ 127 _ _ _)); (first | refine w_iadd1 rfl ?_ | refine w_isub1 rfl ?_ | refine w_iinc1 rfl rfl ?_ | refine w_s rfl rfl ?_ | refine w_get rfl rfl rfl rfl ?_ | refine w_nnl rfl ?_ | refine w_nnlR rfl ?_ | refine w_nul rfl ?_ | refine w_nulR rfl ?_ | refine w_ldc rfl rfl ?_ | refine w_ldc2 rfl rfl ?_ | refine w_put rfl rfl rfl (Nat.le_of_ble_eq_true rfl) (Or.inl rfl) rfl rfl ?_)))
        refine w_eqI (y := nI (7 * m.orders)) (by (simp only [kb6, kb7, kb8, kb9, kb16, ki0, ki1, ki2, ki3, ki4, ki5, nI_addR, nI_mulR]; try (congr 1; omega))) ?_
        (repeat (first | refine w_iadd1 rfl ?_ | refine w_isub1 rfl ?_ | refine w_iinc1 rfl rfl ?_ | refine w_s rfl rfl ?_ | refine w_get rfl rfl rfl rfl ?_ | refine w_nnl rfl ?_ | refine w_nnlR rfl ?_ | refine w_nul rfl ?_ | refine w_nulR rfl ?_ | refine w_ldc rfl rfl ?_ | refine w_ldc2 rfl rfl ?_ | refine w_put rfl rfl rfl (Nat.le_of_ble_eq_true rfl) (Or.inl rfl) rfl rfl ?_))
        (refine w_cv rfl rfl rfl rfl (by exact Nat.le_of_ble_eq_true rfl) (by exact Nat.le_of_ble_eq_true rfl) (n_priceOf (m := (ax_Mo.u_thrown m 0)) hN.thr hok hp b hb1 q hq) ?_; dsimp only [Option.toList, List.drop, List.cons_append, List.nil_append])
        (repeat (first | refine w_iadd1 rfl ?_ | refine w_isub1 rfl ?_ | refine w_iinc1 rfl rfl ?_ | refine w_s rfl rfl ?_ | refine w_get rfl rfl rfl rfl ?_ | refine w_nnl rfl ?_ | refine w_nnlR rfl ?_ | refine w_nul rfl ?_ | refine w_nulR rfl ?_ | refine w_ldc rfl rfl ?_ | refine w_ldc2 rfl rfl ?_ | refine w_put rfl rfl rfl (Nat.le_of_ble_eq_true rfl) (Or.inl rfl) rfl rfl ?_))
        refine w_las rfl rfl rfl (by omega) (by decide) ?_
        (repeat (first | refine w_iadd1 rfl ?_ | refine w_isub1 rfl ?_ | refine w_iinc1 rfl rfl ?_ | refine w_s rfl rfl ?_ | refine w_get rfl rfl rfl rfl ?_ | refine w_nnl rfl ?_ | refine w_nnlR rfl ?_ | refine w_nul rfl ?_ | refine w_nulR rfl ?_ | refine w_ldc rfl rfl ?_ | refine w_ldc2 rfl rfl ?_ | refine w_put rfl rfl rfl (Nat.le_of_ble_eq_true rfl) (Or.inl rfl) rfl rfl ?_))
        refine w_las (j := 7 * m.orders + 1) rfl rfl rfl (by omega) (by decide) ?_
        (repeat (first | refine w_iadd1 rfl ?_ | refine w_isub1 rfl ?_ | refine w_iinc1 rfl rfl ?_ | refine w_s rfl rfl ?_ | refine w_get rfl rfl rfl rfl ?_ | refine w_nnl rfl ?_ | refine w_nnlR rfl ?_ | refine w_nul rfl ?_ | refine w_nulR rfl ?_ | refine w_ldc rfl rfl ?_ | refine w_ldc2 rfl rfl ?_ | refine w_put rfl rfl rfl (Nat.le_of_ble_eq_true rfl) (Or.inl rfl) rfl rfl ?_))
        refine w_las (j := 7 * m.orders + 2) rfl rfl (by (simp only [kb6, kb7, kb8, kb9, kb16, ki0, ki1, ki2, ki3, ki4, ki5, nI_addR, nI_mulR]; try (congr 1; omega))) (by omega) (by decide) ?_
        (repeat (first | refine w_iadd1 rfl ?_ | refine w_isub1 rfl ?_ | refine w_iinc1 rfl rfl ?_ | refine w_s rfl rfl ?_ | refine w_get rfl rfl rfl rfl ?_ | refine w_nnl rfl ?_ | refine w_nnlR rfl ?_ | refine w_nul rfl ?_ | refine w_nulR rfl ?_ | refine w_ldc rfl rfl ?_ | refine w_ldc2 rfl rfl ?_ | refine w_put rfl rfl rfl (Nat.le_of_ble_eq_true rfl) (Or.inl rfl) rfl rfl ?_))
        (refine w_cs rfl rfl (by first | decide | exact Nat.le_of_ble_eq_true rfl) (by exact Nat.le_of_ble_eq_true rfl) (n_place p b (by omega) (by omega)) ?_; dsimp only [Option.toList, List.drop, List.cons_append, List.nil_append])
        (repeat (first | refine w_iadd1 rfl ?_ | refine w_isub1 rfl ?_ | refine w_iinc1 rfl rfl ?_ | refine w_s rfl rfl ?_ | refine w_get rfl rfl rfl rfl ?_ | refine w_nnl rfl ?_ | refine w_nnlR rfl ?_ | refine w_nul rfl ?_ | refine w_nulR rfl ?_ | refine w_ldc rfl rfl ?_ | refine w_ldc2 rfl rfl ?_ | refine w_put rfl rfl rfl (Nat.le_of_ble_eq_true rfl) (Or.inl rfl) rfl rfl ?_))
        refine w_la (j := 64 * p + 16 * b + 7) rfl rfl (by (simp only [kb6, kb7, kb8, kb9, kb16, ki0, ki1, ki2, ki3, ki4, ki5, nI_addR, nI_mulR]; try (congr 1; omega))) (by omega) (by decide) ?_
        refine w_las (j := 7 * m.orders + 3) rfl rfl (by (simp only [kb6, kb7, kb8, kb9, kb16, ki0, ki1, ki2, ki3, ki4, ki5, nI_addR, nI_mulR]; try (congr 1; omega))) (by omega) (by decide) ?_
        (repeat (first | refine w_iadd1 rfl ?_ | refine w_isub1 rfl ?_ | refine w_iinc1 rfl rfl ?_ | refine w_s rfl rfl ?_ | refine w_get rfl rfl rfl rfl ?_ | refine w_nnl rfl ?_ | refine w_nnlR rfl ?_ | refine w_nul rfl ?_ | refine w_nulR rfl ?_ | refine w_ldc rfl rfl ?_ | refine w_ldc2 rfl rfl ?_ | refine w_put rfl rfl rfl (Nat.le_of_ble_eq_true rfl) (Or.inl rfl) rfl rfl ?_))
        refine w_ldiv rfl (by decide) ?_
        refine w_las (j := 7 * m.orders + 4) rfl rfl (by (simp only [kb6, kb7, kb8, kb9, kb16, ki0, ki1, ki2, ki3, ki4, ki5, nI_addR, nI_mulR]; try (congr 1; omega))) (by omega) (by decide) ?_
        (repeat (first | refine w_iadd1 rfl ?_ | refine w_isub1 rfl ?_ | refine w_iinc1 rfl rfl ?_ | refine w_s rfl rfl ?_ | refine w_get rfl rfl rfl rfl ?_ | refine w_nnl rfl ?_ | refine w_nnlR rfl ?_ | refine w_nul rfl ?_ | refine w_nulR rfl ?_ | refine w_ldc rfl rfl ?_ | refine w_ldc2 rfl rfl ?_ | refine w_put rfl rfl rfl (Nat.le_of_ble_eq_true rfl) (Or.inl rfl) rfl rfl ?_))
        refine w_lrem rfl (by decide) ?_
        refine w_las (j := 7 * m.orders + 5) rfl rfl (by (simp only [kb6, kb7, kb8, kb9, kb16, ki0, ki1, ki2, ki3, ki4, ki5, nI_addR, nI_mulR]; try (congr 1; omega))) (by omega) (by decide) ?_
        (repeat (first | refine w_iadd1 rfl ?_ | refine w_isub1 rfl ?_ | refine w_iinc1 rfl rfl ?_ | refine w_s rfl rfl ?_ | refine w_get rfl rfl rfl rfl ?_ | refine w_nnl rfl ?_ | refine w_nnlR rfl ?_ | refine w_nul rfl ?_ | refine w_nulR rfl ?_ | refine w_ldc rfl rfl ?_ | refine w_ldc2 rfl rfl ?_ | refine w_put rfl rfl rfl (Nat.le_of_ble_eq_true rfl) (Or.inl rfl) rfl rfl ?_))
        refine w_if1 rfl (fun h9 => ?_) (fun h9 => ?_)
        · have h10 := c_ge0.mp h9
          rw [if_neg (by omega)]
          (repeat (first | refine w_iadd1 rfl ?_ | refine w_isub1 rfl ?_ | refine w_iinc1 rfl rfl ?_ | refine w_s rfl rfl ?_ | refine w_get rfl rfl rfl rfl ?_ | refine w_nnl rfl ?_ | refine w_nnlR rfl ?_ | refine w_nul rfl ?_ | refine w_nulR rfl ?_ | refine w_ldc rfl rfl ?_ | refine w_ldc2 rfl rfl ?_ | refine w_put rfl rfl rfl (Nat.le_of_ble_eq_true rfl) (Or.inl rfl) rfl rfl ?_))
          refine w_las (j := 7 * m.orders + 6) rfl rfl (by (simp only [kb6, kb7, kb8, kb9, kb16, ki0, ki1, ki2, ki3, ki4, ki5, nI_addR, nI_mulR]; try (congr 1; omega))) (by omega) (by decide) ?_
          (repeat (first | refine w_iadd1 rfl ?_ | refine w_isub1 rfl ?_ | refine w_iinc1 rfl rfl ?_ | refine w_s rfl rfl ?_ | refine w_get rfl rfl rfl rfl ?_ | refine w_nnl rfl ?_ | refine w_nnlR rfl ?_ | refine w_nul rfl ?_ | refine w_nulR rfl ?_ | refine w_ldc rfl rfl ?_ | refine w_ldc2 rfl rfl ?_ | refine w_put rfl rfl rfl (Nat.le_of_ble_eq_true rfl) (Or.inl rfl) rfl rfl ?_))
          (refine w_iret rfl rfl rfl ?_)
          rfl
        · have h10 : ¬ 0 ≤ l.toInt := fun z => h9 (c_ge0.mpr z)
          rw [if_pos (by omega)]
          (repeat (first | refine w_iadd1 rfl ?_ | refine w_isub1 rfl ?_ | refine w_iinc1 rfl rfl ?_ | refine w_s rfl rfl ?_ | refine w_get rfl rfl rfl rfl ?_ | refine w_nnl rfl ?_ | refine w_nnlR rfl ?_ | refine w_nul rfl ?_ | refine w_nulR rfl ?_ | refine w_ldc rfl rfl ?_ | refine w_ldc2 rfl rfl ?_ | refine w_put rfl rfl rfl (Nat.le_of_ble_eq_true rfl) (Or.inl rfl) rfl rfl ?_))
          refine w_las (j := 7 * m.orders + 6) rfl rfl (by (simp only [kb6, kb7, kb8, kb9, kb16, ki0, ki1, ki2, ki3, ki4, ki5, nI_addR, nI_mulR]; try (congr 1; omega))) (by omega) (by decide) ?_
          (repeat (first | refine w_iadd1 rfl ?_ | refine w_isub1 rfl ?_ | refine w_iinc1 rfl rfl ?_ | refine w_s rfl rfl ?_ | refine w_get rfl rfl rfl rfl ?_ | refine w_nnl rfl ?_ | refine w_nnlR rfl ?_ | refine w_nul rfl ?_ | refine w_nulR rfl ?_ | refine w_ldc rfl rfl ?_ | refine w_ldc2 rfl rfl ?_ | refine w_put rfl rfl rfl (Nat.le_of_ble_eq_true rfl) (Or.inl rfl) rfl rfl ?_))
          (refine w_iret rfl rfl rfl ?_)
          rfl
    · have h8 : ax_least c F = -1 := Decidable.not_not.mp h7
      rw [if_pos (Or.inr h8)]
      (repeat (first | refine w_iadd1 rfl ?_ | refine w_isub1 rfl ?_ | refine w_iinc1 rfl rfl ?_ | refine w_s rfl rfl ?_ | refine w_get rfl rfl rfl rfl ?_ | refine w_nnl rfl ?_ | refine w_nnlR rfl ?_ | refine w_nul rfl ?_ | refine w_nulR rfl ?_ | refine w_ldc rfl rfl ?_ | refine w_ldc2 rfl rfl ?_ | refine w_put rfl rfl rfl (Nat.le_of_ble_eq_true rfl) (Or.inl rfl) rfl rfl ?_))
      (refine w_iret rfl rfl rfl ?_)
      rfl
theorem n_order {Fs Qs : Nat → ax_Of} (hM : MkRel m Fs) (hQ : MqRel c m Qs) (hR : BRel c m) (hb : BoardOk c) (ho : m.orders ≤ 20) (k : Int32) (q d : Int64) : ax_run m_Mo_order [.ref 23, .int k, .long q, .long d] (ax_hp L xs c m o pool, u) (ax_mout L xs c o pool u (mp_order c m Fs Qs k q d)) := by
  have hn := hM.n
  have hqn := hQ.n
  have hq10 := hQ.n10
  unfold mp_order
  split
  · rename_i h0
    (refine ax_run_T (ax_T_of M_Mo_order rfl (Nat.le_of_ble_eq_true rfl) ?_))
    (repeat (first | refine w_iadd1 rfl ?_ | refine w_isub1 rfl ?_ | refine w_iinc1 rfl rfl ?_ | refine w_s rfl rfl ?_ | refine w_get rfl rfl rfl rfl ?_ | refine w_nnl rfl ?_ | refine w_nnlR rfl ?_ | refine w_nul rfl ?_ | refine w_nulR rfl ?_ | refine w_ldc rfl rfl ?_ | refine w_ldc2 rfl rfl ?_ | refine w_put rfl rfl rfl (Nat.le_of_ble_eq_true rfl) (Or.inl rfl) rfl rfl ?_))
    (refine w_cv rfl rfl rfl rfl (by exact Nat.le_of_ble_eq_true rfl) (by exact Nat.le_of_ble_eq_true rfl) (n_isMaker k hn) ?_; dsimp only [Option.toList, List.drop, List.cons_append, List.nil_append])
    refine w_if1 rfl (fun h5 => absurd (c_ne0.mp h5) h0) (fun _ => ?_)
    (repeat (first | refine w_iadd1 rfl ?_ | refine w_isub1 rfl ?_ | refine w_iinc1 rfl rfl ?_ | refine w_s rfl rfl ?_ | refine w_get rfl rfl rfl rfl ?_ | refine w_nnl rfl ?_ | refine w_nnlR rfl ?_ | refine w_nul rfl ?_ | refine w_nulR rfl ?_ | refine w_ldc rfl rfl ?_ | refine w_ldc2 rfl rfl ?_ | refine w_put rfl rfl rfl (Nat.le_of_ble_eq_true rfl) (Or.inl rfl) rfl rfl ?_))
    refine w_if1 rfl (fun h5 => absurd h5 k_eq1) (fun _ => ?_)
    (repeat (first | refine w_iadd1 rfl ?_ | refine w_isub1 rfl ?_ | refine w_iinc1 rfl rfl ?_ | refine w_s rfl rfl ?_ | refine w_get rfl rfl rfl rfl ?_ | refine w_nnl rfl ?_ | refine w_nnlR rfl ?_ | refine w_nul rfl ?_ | refine w_nulR rfl ?_ | refine w_ldc rfl rfl ?_ | refine w_ldc2 rfl rfl ?_ | refine w_put rfl rfl rfl (Nat.le_of_ble_eq_true rfl) (Or.inl rfl) rfl rfl ?_))
    (refine w_iret rfl rfl rfl ?_)
    rfl
  · rename_i h0
    have h1 := Decidable.not_not.mp h0
    obtain ⟨n, rfl, hn1, hn2⟩ := q_nat (x := k) (by omega)
    have hnn : (nI n).toInt.toNat = n := by rw [← hn1]; rfl
    rw [hnn]
    have hnm : n < m.makers := by omega
    clear hnn hn1
    split
    · rename_i h2
      (refine ax_run_T (ax_T_of M_Mo_order rfl (Nat.le_of_ble_eq_true rfl) ?_))
      (repeat (first | refine w_iadd1 rfl ?_ | refine w_isub1 rfl ?_ | refine w_iinc1 rfl rfl ?_ | refine w_s rfl rfl ?_ | refine w_get rfl rfl rfl rfl ?_ | refine w_nnl rfl ?_ | refine w_nnlR rfl ?_ | refine w_nul rfl ?_ | refine w_nulR rfl ?_ | refine w_ldc rfl rfl ?_ | refine w_ldc2 rfl rfl ?_ | refine w_put rfl rfl rfl (Nat.le_of_ble_eq_true rfl) (Or.inl rfl) rfl rfl ?_))
      (refine w_cv rfl rfl rfl rfl (by exact Nat.le_of_ble_eq_true rfl) (by exact Nat.le_of_ble_eq_true rfl) (n_isMaker (nI n) hn) ?_; dsimp only [Option.toList, List.drop, List.cons_append, List.nil_append])
      refine w_if1 rfl (fun _ => ?_) (fun h5 => absurd (c_ne0.mpr h1) h5)
      (repeat (first | refine w_iadd1 rfl ?_ | refine w_isub1 rfl ?_ | refine w_iinc1 rfl rfl ?_ | refine w_s rfl rfl ?_ | refine w_get rfl rfl rfl rfl ?_ | refine w_nnl rfl ?_ | refine w_nnlR rfl ?_ | refine w_nul rfl ?_ | refine w_nulR rfl ?_ | refine w_ldc rfl rfl ?_ | refine w_ldc2 rfl rfl ?_ | refine w_put rfl rfl rfl (Nat.le_of_ble_eq_true rfl) (Or.inl rfl) rfl rfl ?_))
      (refine w_cs rfl rfl (by first | decide | exact Nat.le_of_ble_eq_true rfl) (by exact Nat.le_of_ble_eq_true rfl) (n_isQuantity q) ?_; dsimp only [Option.toList, List.drop, List.cons_append, List.nil_append])
      refine w_if1 rfl (fun _ => ?_) (fun h5 => absurd (c_eq0.mpr h2) h5)
      (repeat (first | refine w_iadd1 rfl ?_ | refine w_isub1 rfl ?_ | refine w_iinc1 rfl rfl ?_ | refine w_s rfl rfl ?_ | refine w_get rfl rfl rfl rfl ?_ | refine w_nnl rfl ?_ | refine w_nnlR rfl ?_ | refine w_nul rfl ?_ | refine w_nulR rfl ?_ | refine w_ldc rfl rfl ?_ | refine w_ldc2 rfl rfl ?_ | refine w_put rfl rfl rfl (Nat.le_of_ble_eq_true rfl) (Or.inl rfl) rfl rfl ?_))
      refine w_if1 rfl (fun h5 => absurd h5 k_eq2) (fun _ => ?_)
      (repeat (first | refine w_iadd1 rfl ?_ | refine w_isub1 rfl ?_ | refine w_iinc1 rfl rfl ?_ | refine w_s rfl rfl ?_ | refine w_get rfl rfl rfl rfl ?_ | refine w_nnl rfl ?_ | refine w_nnlR rfl ?_ | refine w_nul rfl ?_ | refine w_nulR rfl ?_ | refine w_ldc rfl rfl ?_ | refine w_ldc2 rfl rfl ?_ | refine w_put rfl rfl rfl (Nat.le_of_ble_eq_true rfl) (Or.inl rfl) rfl rfl ?_))
      (refine w_iret rfl rfl rfl ?_)
      rfl
    · rename_i h2
      have h3 := Decidable.not_not.mp h2
      have lp : ∀ (s : Nat) (x : Int32), s ≤ c.qn → x.toInt = (s : Int) - 1 → (ax_latest c (nI n) d = ax_lat (fun q => decide (c.qm q = nI n ∧ d.toInt ≤ (c.qu q).toInt)) s) → ax_wp ax_run M_Mo_order (fun r' => r' = ax_mout L xs c o pool u (mp_order2 c m (nI n) q (ax_latest c (nI n) d) (ax_ofr c Fs Qs n (ax_latest c (nI n) d)) (ax_prow n (ax_latest c (nI n) d)))) 45 [(0, .ref 23), (1, .int (nI n)), (2, .long q), (4, .long d), (6, .int x)] [] (ax_hp L xs c (ax_Mo.u_thrown m 0) o pool, u) := by
        intro s
        induction s with
        | zero =>
          intro x hs hx hlat
          have hx1 : x = -1 := by
            rw [q_eq, hx]
            decide
          subst hx1
          have hl' : ax_latest c (nI n) d = -1 := hlat
          rw [hl']
          (repeat (first | refine w_iadd1 rfl ?_ | refine w_isub1 rfl ?_ | refine w_iinc1 rfl rfl ?_ | refine w_s rfl rfl ?_ | refine w_get rfl rfl rfl rfl ?_ | refine w_nnl rfl ?_ | refine w_nnlR rfl ?_ | refine w_nul rfl ?_ | refine w_nulR rfl ?_ | refine w_ldc rfl rfl ?_ | refine w_ldc2 rfl rfl ?_ | refine w_put rfl rfl rfl (Nat.le_of_ble_eq_true rfl) (Or.inl rfl) rfl rfl ?_))
          refine w_if1 rfl (fun _ => ?_) (fun h5 => absurd (c_lt0.mpr (by decide)) h5)
          (repeat (first | refine w_iadd1 rfl ?_ | refine w_isub1 rfl ?_ | refine w_iinc1 rfl rfl ?_ | refine w_s rfl rfl ?_ | refine w_get rfl rfl rfl rfl ?_ | refine w_nnl rfl ?_ | refine w_nnlR rfl ?_ | refine w_nul rfl ?_ | refine w_nulR rfl ?_ | refine w_ldc rfl rfl ?_ | refine w_ldc2 rfl rfl ?_ | refine w_put rfl rfl rfl (Nat.le_of_ble_eq_true rfl) (Or.inl rfl) rfl rfl ?_))
          refine w_if1 rfl (fun h5 => absurd (c_ge0.mp h5) (by decide)) (fun _ => ?_)
          (repeat ((fail_if_success (show ax_wp _ _ _ 95 _ _ _)); (first | refine w_iadd1 rfl ?_ | refine w_isub1 rfl ?_ | refine w_iinc1 rfl rfl ?_ | refine w_s rfl rfl ?_ | refine w_get rfl rfl rfl rfl ?_ | refine w_nnl rfl ?_ | refine w_nnlR rfl ?_ | refine w_nul rfl ?_ | refine w_nulR rfl ?_ | refine w_ldc rfl rfl ?_ | refine w_ldc2 rfl rfl ?_ | refine w_put rfl rfl rfl (Nat.le_of_ble_eq_true rfl) (Or.inl rfl) rfl rfl ?_)))
          have hN := hM.at_ n hnm
          exact w_lv (n_order2 (F := Fs n) (p := n) hN.1 hN.2 hR hb ho (by omega) n q h3 (-1)) rfl ⟨rfl, rfl, rfl, rfl, rfl, trivial⟩
        | succ s ih =>
          intro x hs hx hlat
          have hx' : x = nI s := q_nIof (by omega) (by omega)
          subst hx'
          (repeat ((fail_if_success (show ax_wp _ _ _ 47 _ _ _)); (first | refine w_iadd1 rfl ?_ | refine w_isub1 rfl ?_ | refine w_iinc1 rfl rfl ?_ | refine w_s rfl rfl ?_ | refine w_get rfl rfl rfl rfl ?_ | refine w_nnl rfl ?_ | refine w_nnlR rfl ?_ | refine w_nul rfl ?_ | refine w_nulR rfl ?_ | refine w_ldc rfl rfl ?_ | refine w_ldc2 rfl rfl ?_ | refine w_put rfl rfl rfl (Nat.le_of_ble_eq_true rfl) (Or.inl rfl) rfl rfl ?_)))
          refine w_if1 rfl (fun h5 => absurd (c_lt0.mp h5) (by omega)) (fun _ => ?_)
          (repeat (first | refine w_iadd1 rfl ?_ | refine w_isub1 rfl ?_ | refine w_iinc1 rfl rfl ?_ | refine w_s rfl rfl ?_ | refine w_get rfl rfl rfl rfl ?_ | refine w_nnl rfl ?_ | refine w_nnlR rfl ?_ | refine w_nul rfl ?_ | refine w_nulR rfl ?_ | refine w_ldc rfl rfl ?_ | refine w_ldc2 rfl rfl ?_ | refine w_put rfl rfl rfl (Nat.le_of_ble_eq_true rfl) (Or.inl rfl) rfl rfl ?_))
          refine w_ia rfl rfl rfl (by omega) (by decide) ?_
          rw [hQ.mkr s hs]
          (repeat (first | refine w_iadd1 rfl ?_ | refine w_isub1 rfl ?_ | refine w_iinc1 rfl rfl ?_ | refine w_s rfl rfl ?_ | refine w_get rfl rfl rfl rfl ?_ | refine w_nnl rfl ?_ | refine w_nnlR rfl ?_ | refine w_nul rfl ?_ | refine w_nulR rfl ?_ | refine w_ldc rfl rfl ?_ | refine w_ldc2 rfl rfl ?_ | refine w_put rfl rfl rfl (Nat.le_of_ble_eq_true rfl) (Or.inl rfl) rfl rfl ?_))
          refine w_if2 rfl (fun h5 => ?_) (fun h5 => ?_)
          · have h6 : ¬ c.qm s = nI n := h5
            (repeat ((fail_if_success (show ax_wp _ _ _ 45 _ _ _)); (first | refine w_iadd1 rfl ?_ | refine w_isub1 rfl ?_ | refine w_iinc1 rfl rfl ?_ | refine w_s rfl rfl ?_ | refine w_get rfl rfl rfl rfl ?_ | refine w_nnl rfl ?_ | refine w_nnlR rfl ?_ | refine w_nul rfl ?_ | refine w_nulR rfl ?_ | refine w_ldc rfl rfl ?_ | refine w_ldc2 rfl rfl ?_ | refine w_put rfl rfl rfl (Nat.le_of_ble_eq_true rfl) (Or.inl rfl) rfl rfl ?_)))
            refine w_lv (ih (nI s + Int32.ofInt (-1)) (q_le1 hs) (q_dec s (by omega)) ?_) rfl ⟨rfl, rfl, rfl, rfl, rfl, trivial⟩
            rw [hlat]
            exact if_neg (by rw [decide_eq_true_eq]; exact fun z => h6 z.1)
          · have h6 : c.qm s = nI n := Decidable.not_not.mp h5
            (repeat (first | refine w_iadd1 rfl ?_ | refine w_isub1 rfl ?_ | refine w_iinc1 rfl rfl ?_ | refine w_s rfl rfl ?_ | refine w_get rfl rfl rfl rfl ?_ | refine w_nnl rfl ?_ | refine w_nnlR rfl ?_ | refine w_nul rfl ?_ | refine w_nulR rfl ?_ | refine w_ldc rfl rfl ?_ | refine w_ldc2 rfl rfl ?_ | refine w_put rfl rfl rfl (Nat.le_of_ble_eq_true rfl) (Or.inl rfl) rfl rfl ?_))
            refine w_la rfl rfl rfl (by omega) (by decide) ?_
            rw [hQ.un s hs]
            (repeat (first | refine w_iadd1 rfl ?_ | refine w_isub1 rfl ?_ | refine w_iinc1 rfl rfl ?_ | refine w_s rfl rfl ?_ | refine w_get rfl rfl rfl rfl ?_ | refine w_nnl rfl ?_ | refine w_nnlR rfl ?_ | refine w_nul rfl ?_ | refine w_nulR rfl ?_ | refine w_ldc rfl rfl ?_ | refine w_ldc2 rfl rfl ?_ | refine w_put rfl rfl rfl (Nat.le_of_ble_eq_true rfl) (Or.inl rfl) rfl rfl ?_))
            refine w_if1 rfl (fun h7 => ?_) (fun h7 => ?_)
            · have h8 := c_Lge.mp h7
              have hl' : ax_latest c (nI n) d = nI s := by
                rw [hlat]
                exact if_pos (by rw [decide_eq_true_eq]; exact ⟨h6, h8⟩)
              have hss : (nI s).toInt.toNat = s := by rw [q_nI' (by omega)]; rfl
              have hnl : ¬ (nI s).toInt < 0 := by rw [q_nI' (by omega)]; omega
              rw [hl']
              (repeat (first | refine w_iadd1 rfl ?_ | refine w_isub1 rfl ?_ | refine w_iinc1 rfl rfl ?_ | refine w_s rfl rfl ?_ | refine w_get rfl rfl rfl rfl ?_ | refine w_nnl rfl ?_ | refine w_nnlR rfl ?_ | refine w_nul rfl ?_ | refine w_nulR rfl ?_ | refine w_ldc rfl rfl ?_ | refine w_ldc2 rfl rfl ?_ | refine w_put rfl rfl rfl (Nat.le_of_ble_eq_true rfl) (Or.inl rfl) rfl rfl ?_))
              refine w_if1 rfl (fun _ => ?_) (fun h9 => absurd (c_ge0.mpr (Int.not_lt.mp hnl)) h9)
              have hN := hQ.at_ s hs
              have e1 : ax_ofr c Fs Qs n (nI s) = Qs s := by
                unfold ax_ofr
                rw [if_neg hnl, hss]
              have e2 : ax_prow n (nI s) = 4 + s := by
                unfold ax_prow
                rw [if_neg hnl, hss]
              rw [e1, e2]
              (repeat ((fail_if_success (show ax_wp _ _ _ 93 _ _ _)); (first | refine w_iadd1 rfl ?_ | refine w_isub1 rfl ?_ | refine w_iinc1 rfl rfl ?_ | refine w_s rfl rfl ?_ | refine w_get rfl rfl rfl rfl ?_ | refine w_nnl rfl ?_ | refine w_nnlR rfl ?_ | refine w_nul rfl ?_ | refine w_nulR rfl ?_ | refine w_ldc rfl rfl ?_ | refine w_ldc2 rfl rfl ?_ | refine w_put rfl rfl rfl (Nat.le_of_ble_eq_true rfl) (Or.inl rfl) rfl rfl ?_)))
              refine w_eqI (y := nI (4 + s)) (by (simp only [kb6, kb7, kb8, kb9, kb16, ki0, ki1, ki2, ki3, ki4, ki5, nI_addR, nI_mulR]; try (congr 1; omega))) ?_
              (repeat ((fail_if_success (show ax_wp _ _ _ 95 _ _ _)); (first | refine w_iadd1 rfl ?_ | refine w_isub1 rfl ?_ | refine w_iinc1 rfl rfl ?_ | refine w_s rfl rfl ?_ | refine w_get rfl rfl rfl rfl ?_ | refine w_nnl rfl ?_ | refine w_nnlR rfl ?_ | refine w_nul rfl ?_ | refine w_nulR rfl ?_ | refine w_ldc rfl rfl ?_ | refine w_ldc2 rfl rfl ?_ | refine w_put rfl rfl rfl (Nat.le_of_ble_eq_true rfl) (Or.inl rfl) rfl rfl ?_)))
              exact w_lv (n_order2 (F := Qs s) (p := 4 + s) hN.1 hN.2 hR hb ho (by omega) n q h3 (nI s)) rfl ⟨rfl, rfl, rfl, rfl, rfl, trivial⟩
            · have h8 : ¬ d.toInt ≤ (c.qu s).toInt := fun z => h7 (c_Lge.mpr z)
              (repeat ((fail_if_success (show ax_wp _ _ _ 45 _ _ _)); (first | refine w_iadd1 rfl ?_ | refine w_isub1 rfl ?_ | refine w_iinc1 rfl rfl ?_ | refine w_s rfl rfl ?_ | refine w_get rfl rfl rfl rfl ?_ | refine w_nnl rfl ?_ | refine w_nnlR rfl ?_ | refine w_nul rfl ?_ | refine w_nulR rfl ?_ | refine w_ldc rfl rfl ?_ | refine w_ldc2 rfl rfl ?_ | refine w_put rfl rfl rfl (Nat.le_of_ble_eq_true rfl) (Or.inl rfl) rfl rfl ?_)))
              refine w_lv (ih (nI s + Int32.ofInt (-1)) (q_le1 hs) (q_dec s (by omega)) ?_) rfl ⟨rfl, rfl, rfl, rfl, rfl, trivial⟩
              rw [hlat]
              exact if_neg (by rw [decide_eq_true_eq]; exact fun z => h8 z.2)
      (refine ax_run_T (ax_T_of M_Mo_order rfl (Nat.le_of_ble_eq_true rfl) ?_))
      (repeat (first | refine w_iadd1 rfl ?_ | refine w_isub1 rfl ?_ | refine w_iinc1 rfl rfl ?_ | refine w_s rfl rfl ?_ | refine w_get rfl rfl rfl rfl ?_ | refine w_nnl rfl ?_ | refine w_nnlR rfl ?_ | refine w_nul rfl ?_ | refine w_nulR rfl ?_ | refine w_ldc rfl rfl ?_ | refine w_ldc2 rfl rfl ?_ | refine w_put rfl rfl rfl (Nat.le_of_ble_eq_true rfl) (Or.inl rfl) rfl rfl ?_))
      (refine w_cv rfl rfl rfl rfl (by exact Nat.le_of_ble_eq_true rfl) (by exact Nat.le_of_ble_eq_true rfl) (n_isMaker (nI n) hn) ?_; dsimp only [Option.toList, List.drop, List.cons_append, List.nil_append])
      refine w_if1 rfl (fun _ => ?_) (fun h5 => absurd (c_ne0.mpr h1) h5)
      (repeat (first | refine w_iadd1 rfl ?_ | refine w_isub1 rfl ?_ | refine w_iinc1 rfl rfl ?_ | refine w_s rfl rfl ?_ | refine w_get rfl rfl rfl rfl ?_ | refine w_nnl rfl ?_ | refine w_nnlR rfl ?_ | refine w_nul rfl ?_ | refine w_nulR rfl ?_ | refine w_ldc rfl rfl ?_ | refine w_ldc2 rfl rfl ?_ | refine w_put rfl rfl rfl (Nat.le_of_ble_eq_true rfl) (Or.inl rfl) rfl rfl ?_))
      (refine w_cs rfl rfl (by first | decide | exact Nat.le_of_ble_eq_true rfl) (by exact Nat.le_of_ble_eq_true rfl) (n_isQuantity q) ?_; dsimp only [Option.toList, List.drop, List.cons_append, List.nil_append])
      refine w_if1 rfl (fun h5 => absurd h3 (c_eq0.mp h5)) (fun _ => ?_)
      (repeat (first | refine w_iadd1 rfl ?_ | refine w_isub1 rfl ?_ | refine w_iinc1 rfl rfl ?_ | refine w_s rfl rfl ?_ | refine w_get rfl rfl rfl rfl ?_ | refine w_nnl rfl ?_ | refine w_nnlR rfl ?_ | refine w_nul rfl ?_ | refine w_nulR rfl ?_ | refine w_ldc rfl rfl ?_ | refine w_ldc2 rfl rfl ?_ | refine w_put rfl rfl rfl (Nat.le_of_ble_eq_true rfl) (Or.inl rfl) rfl rfl ?_))
      refine w_if1 rfl (fun _ => ?_) (fun h5 => absurd rfl h5)
      (repeat ((fail_if_success (show ax_wp _ _ _ 45 _ _ _)); (first | refine w_iadd1 rfl ?_ | refine w_isub1 rfl ?_ | refine w_iinc1 rfl rfl ?_ | refine w_s rfl rfl ?_ | refine w_get rfl rfl rfl rfl ?_ | refine w_nnl rfl ?_ | refine w_nnlR rfl ?_ | refine w_nul rfl ?_ | refine w_nulR rfl ?_ | refine w_ldc rfl rfl ?_ | refine w_ldc2 rfl rfl ?_ | refine w_put rfl rfl rfl (Nat.le_of_ble_eq_true rfl) (Or.inl rfl) rfl rfl ?_)))
      refine w_lv (lp c.qn (nI m.quotes - Int32.ofInt 1) (Nat.le_refl _) ?_ rfl) rfl ⟨rfl, rfl, rfl, rfl, rfl, trivial⟩
      rw [hqn]
      exact q_pred _ hq10
end MI
