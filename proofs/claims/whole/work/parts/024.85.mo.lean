abbrev MkRel (m : ax_Mo) (Fs : Nat → ax_Of) : Prop := (m.makers ≤ 4) ∧ (∀ k, k < m.makers → NumAt m k (Fs k) ∧ OfferOk (Fs k))
theorem MkRel.n {m : ax_Mo} {Fs : Nat → ax_Of} (h_ : MkRel m Fs) : m.makers ≤ 4 := h_.1
theorem MkRel.at_ {m : ax_Mo} {Fs : Nat → ax_Of} (h_ : MkRel m Fs) : ∀ k, k < m.makers → NumAt m k (Fs k) ∧ OfferOk (Fs k) := h_.2
theorem k_ne1 : ax_cnd .ne (Int32.ofInt 1) 0 := (by decide : ¬ Int32.ofInt 1 = 0)
theorem k_ne2 : ax_cnd .ne (Int32.ofInt 2) 0 := (by decide : ¬ Int32.ofInt 2 = 0)
theorem k_eq1 : ¬ ax_cnd .eq (Int32.ofInt 1) 0 := (by decide : ¬ Int32.ofInt 1 = 0)
theorem k_eq2 : ¬ ax_cnd .eq (Int32.ofInt 2) 0 := (by decide : ¬ Int32.ofInt 2 = 0)
section MG
variable {L : Nat} {xs : Nat → Int32} {c : ax_St} {m : ax_Mo} {o : Nat → Int64} {pool : List (Option ax_C)} {u : Nat} {h : ax_H}
theorem n_isClass {Fs : Nat → ax_Of} (hM : MkRel m Fs) (k j : Int32) : ax_run m_Mo_isClass [.ref 23, .int k, .int j] (ax_hp L xs c m o pool, u) (.inl (some (.int (bI (0 ≤ k.toInt ∧ k.toInt < m.makers ∧ 0 ≤ j.toInt ∧ j.toInt < (Fs k.toInt.toNat).n)))), (ax_hp L xs c m o pool, u)) := by
  have hn := hM.n
  (refine ax_run_T (ax_T_of M_Mo_isClass rfl (Nat.le_of_ble_eq_true rfl) ?_))
  (repeat (first | refine w_iadd1 rfl ?_ | refine w_isub1 rfl ?_ | refine w_iinc1 rfl rfl ?_ | refine w_s rfl rfl ?_ | refine w_get rfl rfl rfl rfl ?_ | refine w_nnl rfl ?_ | refine w_nnlR rfl ?_ | refine w_nul rfl ?_ | refine w_nulR rfl ?_ | refine w_ldc rfl rfl ?_ | refine w_ldc2 rfl rfl ?_ | refine w_put rfl rfl rfl (Nat.le_of_ble_eq_true rfl) (Or.inl rfl) rfl rfl ?_))
  (refine w_cv rfl rfl rfl rfl (by exact Nat.le_of_ble_eq_true rfl) (by exact Nat.le_of_ble_eq_true rfl) (n_isMaker k hM.n) ?_; dsimp only [Option.toList, List.drop, List.cons_append, List.nil_append])
  by_cases hk : 0 ≤ k.toInt ∧ k.toInt < m.makers
  · obtain ⟨n, rfl, hn1, hn2⟩ := q_nat (x := k) (by omega)
    have hN := (hM.at_ n (by omega)).1
    have hO := (hM.at_ n (by omega)).2.n4
    have hnn : (nI n).toInt.toNat = n := by rw [← hn1]; rfl
    rw [hnn]
    clear hnn
    refine w_if1 rfl (fun h5 => absurd hk (c_eq0.mp h5)) (fun _ => ?_)
    (repeat (first | refine w_iadd1 rfl ?_ | refine w_isub1 rfl ?_ | refine w_iinc1 rfl rfl ?_ | refine w_s rfl rfl ?_ | refine w_get rfl rfl rfl rfl ?_ | refine w_nnl rfl ?_ | refine w_nnlR rfl ?_ | refine w_nul rfl ?_ | refine w_nulR rfl ?_ | refine w_ldc rfl rfl ?_ | refine w_ldc2 rfl rfl ?_ | refine w_put rfl rfl rfl (Nat.le_of_ble_eq_true rfl) (Or.inl rfl) rfl rfl ?_))
    refine w_if1 rfl (fun h5 => ?_) (fun h5 => ?_)
    · (repeat (first | refine w_iadd1 rfl ?_ | refine w_isub1 rfl ?_ | refine w_iinc1 rfl rfl ?_ | refine w_s rfl rfl ?_ | refine w_get rfl rfl rfl rfl ?_ | refine w_nnl rfl ?_ | refine w_nnlR rfl ?_ | refine w_nul rfl ?_ | refine w_nulR rfl ?_ | refine w_ldc rfl rfl ?_ | refine w_ldc2 rfl rfl ?_ | refine w_put rfl rfl rfl (Nat.le_of_ble_eq_true rfl) (Or.inl rfl) rfl rfl ?_))
      (refine w_iret rfl rfl rfl ?_)
      exact bF (fun z => absurd z.2.2.1 (by have := c_lt0.mp h5; omega))
    · (repeat (first | refine w_iadd1 rfl ?_ | refine w_isub1 rfl ?_ | refine w_iinc1 rfl rfl ?_ | refine w_s rfl rfl ?_ | refine w_get rfl rfl rfl rfl ?_ | refine w_nnl rfl ?_ | refine w_nnlR rfl ?_ | refine w_nul rfl ?_ | refine w_nulR rfl ?_ | refine w_ldc rfl rfl ?_ | refine w_ldc2 rfl rfl ?_ | refine w_put rfl rfl rfl (Nat.le_of_ble_eq_true rfl) (Or.inl rfl) rfl rfl ?_))
      refine w_ia rfl rfl rfl (by omega) (by decide) ?_
      rw [hN.cl]
      refine w_if2 rfl (fun h6 => ?_) (fun h6 => ?_)
      · (repeat (first | refine w_iadd1 rfl ?_ | refine w_isub1 rfl ?_ | refine w_iinc1 rfl rfl ?_ | refine w_s rfl rfl ?_ | refine w_get rfl rfl rfl rfl ?_ | refine w_nnl rfl ?_ | refine w_nnlR rfl ?_ | refine w_nul rfl ?_ | refine w_nulR rfl ?_ | refine w_ldc rfl rfl ?_ | refine w_ldc2 rfl rfl ?_ | refine w_put rfl rfl rfl (Nat.le_of_ble_eq_true rfl) (Or.inl rfl) rfl rfl ?_))
        (refine w_iret rfl rfl rfl ?_)
        refine bF (fun z => ?_)
        have h7 := Int32.le_iff_toInt_le.mp h6
        rw [q_nI' (by omega)] at h7
        omega
      · (repeat (first | refine w_iadd1 rfl ?_ | refine w_isub1 rfl ?_ | refine w_iinc1 rfl rfl ?_ | refine w_s rfl rfl ?_ | refine w_get rfl rfl rfl rfl ?_ | refine w_nnl rfl ?_ | refine w_nnlR rfl ?_ | refine w_nul rfl ?_ | refine w_nulR rfl ?_ | refine w_ldc rfl rfl ?_ | refine w_ldc2 rfl rfl ?_ | refine w_put rfl rfl rfl (Nat.le_of_ble_eq_true rfl) (Or.inl rfl) rfl rfl ?_))
        (refine w_iret rfl rfl rfl ?_)
        refine bT ⟨hk.1, hk.2, ?_, ?_⟩
        · exact Int.not_lt.mp (fun z => h5 (c_lt0.mpr z))
        · have h7 : ¬ (nI (Fs n).n).toInt ≤ j.toInt := fun z => h6 (Int32.le_iff_toInt_le.mpr z)
          rw [q_nI' (by omega)] at h7
          omega
  · refine w_if1 rfl (fun _ => ?_) (fun h5 => absurd (c_eq0.mpr hk) h5)
    (repeat (first | refine w_iadd1 rfl ?_ | refine w_isub1 rfl ?_ | refine w_iinc1 rfl rfl ?_ | refine w_s rfl rfl ?_ | refine w_get rfl rfl rfl rfl ?_ | refine w_nnl rfl ?_ | refine w_nnlR rfl ?_ | refine w_nul rfl ?_ | refine w_nulR rfl ?_ | refine w_ldc rfl rfl ?_ | refine w_ldc2 rfl rfl ?_ | refine w_put rfl rfl rfl (Nat.le_of_ble_eq_true rfl) (Or.inl rfl) rfl rfl ?_))
    (refine w_iret rfl rfl rfl ?_)
    exact bF (fun z => hk ⟨z.1, z.2.1⟩)
def mp_least (c : ax_St) (m : ax_Mo) (Fs : Nat → ax_Of) (k : Int32) : Value × ax_Mo := if ¬ (0 ≤ k.toInt ∧ k.toInt < m.makers) then (.int 0, (ax_Mo.u_thrown m 1)) else (.int (ax_least c (Fs k.toInt.toNat)), (ax_Mo.u_thrown m 0))
theorem NumAt.thr {p : Nat} {F : ax_Of} {x : Int32} (h : NumAt m p F) : NumAt (ax_Mo.u_thrown m x) p F := ⟨h.cl, h.lm, h.st, h.dy, h.fr, h.ce⟩
theorem BRel.thr {x : Int32} (h : BRel c m) : BRel c (ax_Mo.u_thrown m x) := ⟨h.n, h.k, h.v, h.l, h.x, h.y⟩
theorem n_least {Fs : Nat → ax_Of} (hM : MkRel m Fs) (hR : BRel c m) (hb : BoardOk c) (k : Int32) : ax_run m_Mo_least [.ref 23, .int k] (ax_hp L xs c m o pool, u) (ax_mout L xs c o pool u (mp_least c m Fs k)) := by
  have hn := hM.n
  unfold mp_least
  split
  · rename_i h0
    (refine ax_run_T (ax_T_of M_Mo_least rfl (Nat.le_of_ble_eq_true rfl) ?_))
    (repeat (first | refine w_iadd1 rfl ?_ | refine w_isub1 rfl ?_ | refine w_iinc1 rfl rfl ?_ | refine w_s rfl rfl ?_ | refine w_get rfl rfl rfl rfl ?_ | refine w_nnl rfl ?_ | refine w_nnlR rfl ?_ | refine w_nul rfl ?_ | refine w_nulR rfl ?_ | refine w_ldc rfl rfl ?_ | refine w_ldc2 rfl rfl ?_ | refine w_put rfl rfl rfl (Nat.le_of_ble_eq_true rfl) (Or.inl rfl) rfl rfl ?_))
    (refine w_cv rfl rfl rfl rfl (by exact Nat.le_of_ble_eq_true rfl) (by exact Nat.le_of_ble_eq_true rfl) (n_isMaker k hM.n) ?_; dsimp only [Option.toList, List.drop, List.cons_append, List.nil_append])
    refine w_if1 rfl (fun _ => ?_) (fun h5 => absurd (c_eq0.mpr h0) h5)
    (repeat (first | refine w_iadd1 rfl ?_ | refine w_isub1 rfl ?_ | refine w_iinc1 rfl rfl ?_ | refine w_s rfl rfl ?_ | refine w_get rfl rfl rfl rfl ?_ | refine w_nnl rfl ?_ | refine w_nnlR rfl ?_ | refine w_nul rfl ?_ | refine w_nulR rfl ?_ | refine w_ldc rfl rfl ?_ | refine w_ldc2 rfl rfl ?_ | refine w_put rfl rfl rfl (Nat.le_of_ble_eq_true rfl) (Or.inl rfl) rfl rfl ?_))
    refine w_if1 rfl (fun _ => ?_) (fun h5 => absurd (by first | exact k_ne1 | exact k_ne2) h5)
    (repeat (first | refine w_iadd1 rfl ?_ | refine w_isub1 rfl ?_ | refine w_iinc1 rfl rfl ?_ | refine w_s rfl rfl ?_ | refine w_get rfl rfl rfl rfl ?_ | refine w_nnl rfl ?_ | refine w_nnlR rfl ?_ | refine w_nul rfl ?_ | refine w_nulR rfl ?_ | refine w_ldc rfl rfl ?_ | refine w_ldc2 rfl rfl ?_ | refine w_put rfl rfl rfl (Nat.le_of_ble_eq_true rfl) (Or.inl rfl) rfl rfl ?_))
    (refine w_iret rfl rfl rfl ?_)
    rfl
  · rename_i h0
    have h1 : 0 ≤ k.toInt ∧ k.toInt < m.makers := by omega
    obtain ⟨n, rfl, hn1, hn2⟩ := q_nat (x := k) (by omega)
    have hnn : (nI n).toInt.toNat = n := by rw [← hn1]; rfl
    rw [hnn]
    have hN := hM.at_ n (by omega)
    (refine ax_run_T (ax_T_of M_Mo_least rfl (Nat.le_of_ble_eq_true rfl) ?_))
    (repeat (first | refine w_iadd1 rfl ?_ | refine w_isub1 rfl ?_ | refine w_iinc1 rfl rfl ?_ | refine w_s rfl rfl ?_ | refine w_get rfl rfl rfl rfl ?_ | refine w_nnl rfl ?_ | refine w_nnlR rfl ?_ | refine w_nul rfl ?_ | refine w_nulR rfl ?_ | refine w_ldc rfl rfl ?_ | refine w_ldc2 rfl rfl ?_ | refine w_put rfl rfl rfl (Nat.le_of_ble_eq_true rfl) (Or.inl rfl) rfl rfl ?_))
    (refine w_cv rfl rfl rfl rfl (by exact Nat.le_of_ble_eq_true rfl) (by exact Nat.le_of_ble_eq_true rfl) (n_isMaker (nI n) hM.n) ?_; dsimp only [Option.toList, List.drop, List.cons_append, List.nil_append])
    refine w_if1 rfl (fun h5 => absurd h1 (c_eq0.mp h5)) (fun _ => ?_)
    (repeat (first | refine w_iadd1 rfl ?_ | refine w_isub1 rfl ?_ | refine w_iinc1 rfl rfl ?_ | refine w_s rfl rfl ?_ | refine w_get rfl rfl rfl rfl ?_ | refine w_nnl rfl ?_ | refine w_nnlR rfl ?_ | refine w_nul rfl ?_ | refine w_nulR rfl ?_ | refine w_ldc rfl rfl ?_ | refine w_ldc2 rfl rfl ?_ | refine w_put rfl rfl rfl (Nat.le_of_ble_eq_true rfl) (Or.inl rfl) rfl rfl ?_))
    refine w_if1 rfl (fun h5 => absurd rfl h5) (fun _ => ?_)
    (repeat (first | refine w_iadd1 rfl ?_ | refine w_isub1 rfl ?_ | refine w_iinc1 rfl rfl ?_ | refine w_s rfl rfl ?_ | refine w_get rfl rfl rfl rfl ?_ | refine w_nnl rfl ?_ | refine w_nnlR rfl ?_ | refine w_nul rfl ?_ | refine w_nulR rfl ?_ | refine w_ldc rfl rfl ?_ | refine w_ldc2 rfl rfl ?_ | refine w_put rfl rfl rfl (Nat.le_of_ble_eq_true rfl) (Or.inl rfl) rfl rfl ?_))
    (refine w_cv rfl rfl rfl rfl (by exact Nat.le_of_ble_eq_true rfl) (by exact Nat.le_of_ble_eq_true rfl) (n_leastOf (m := (ax_Mo.u_thrown m 0)) hN.1.thr hN.2 hR.thr hb (by omega)) ?_; dsimp only [Option.toList, List.drop, List.cons_append, List.nil_append])
    (repeat (first | refine w_iadd1 rfl ?_ | refine w_isub1 rfl ?_ | refine w_iinc1 rfl rfl ?_ | refine w_s rfl rfl ?_ | refine w_get rfl rfl rfl rfl ?_ | refine w_nnl rfl ?_ | refine w_nnlR rfl ?_ | refine w_nul rfl ?_ | refine w_nulR rfl ?_ | refine w_ldc rfl rfl ?_ | refine w_ldc2 rfl rfl ?_ | refine w_put rfl rfl rfl (Nat.le_of_ble_eq_true rfl) (Or.inl rfl) rfl rfl ?_))
    (refine w_iret rfl rfl rfl ?_)
    rfl
def mp_price (m : ax_Mo) (Fs : Nat → ax_Of) (k j : Int32) (q : Int64) : Value × ax_Mo := if ¬ (0 ≤ k.toInt ∧ k.toInt < m.makers ∧ 0 ≤ j.toInt ∧ j.toInt < (Fs k.toInt.toNat).n) then (.long 0, (ax_Mo.u_thrown m 1)) else if ¬ (1 ≤ q.toInt ∧ q.toInt ≤ 1000000) then (.long 0, (ax_Mo.u_thrown m 2)) else (.long (Int64.ofInt (ax_pri ((Fs k.toInt.toNat).g j.toInt.toNat) q)), (ax_Mo.u_thrown m 0))
theorem n_price {Fs : Nat → ax_Of} (hM : MkRel m Fs) (k j : Int32) (q : Int64) : ax_run m_Mo_price [.ref 23, .int k, .int j, .long q] (ax_hp L xs c m o pool, u) (ax_mout L xs c o pool u (mp_price m Fs k j q)) := by
  have hn := hM.n
  unfold mp_price
  split
  · rename_i h0
    (refine ax_run_T (ax_T_of M_Mo_price rfl (Nat.le_of_ble_eq_true rfl) ?_))
    (repeat (first | refine w_iadd1 rfl ?_ | refine w_isub1 rfl ?_ | refine w_iinc1 rfl rfl ?_ | refine w_s rfl rfl ?_ | refine w_get rfl rfl rfl rfl ?_ | refine w_nnl rfl ?_ | refine w_nnlR rfl ?_ | refine w_nul rfl ?_ | refine w_nulR rfl ?_ | refine w_ldc rfl rfl ?_ | refine w_ldc2 rfl rfl ?_ | refine w_put rfl rfl rfl (Nat.le_of_ble_eq_true rfl) (Or.inl rfl) rfl rfl ?_))
    (refine w_cv rfl rfl rfl rfl (by exact Nat.le_of_ble_eq_true rfl) (by exact Nat.le_of_ble_eq_true rfl) (n_isClass hM k j) ?_; dsimp only [Option.toList, List.drop, List.cons_append, List.nil_append])
    refine w_if1 rfl (fun h5 => absurd (c_ne0.mp h5) h0) (fun _ => ?_)
    (repeat (first | refine w_iadd1 rfl ?_ | refine w_isub1 rfl ?_ | refine w_iinc1 rfl rfl ?_ | refine w_s rfl rfl ?_ | refine w_get rfl rfl rfl rfl ?_ | refine w_nnl rfl ?_ | refine w_nnlR rfl ?_ | refine w_nul rfl ?_ | refine w_nulR rfl ?_ | refine w_ldc rfl rfl ?_ | refine w_ldc2 rfl rfl ?_ | refine w_put rfl rfl rfl (Nat.le_of_ble_eq_true rfl) (Or.inl rfl) rfl rfl ?_))
    refine w_if1 rfl (fun _ => ?_) (fun h5 => absurd (by first | exact k_ne1 | exact k_ne2) h5)
    (repeat (first | refine w_iadd1 rfl ?_ | refine w_isub1 rfl ?_ | refine w_iinc1 rfl rfl ?_ | refine w_s rfl rfl ?_ | refine w_get rfl rfl rfl rfl ?_ | refine w_nnl rfl ?_ | refine w_nnlR rfl ?_ | refine w_nul rfl ?_ | refine w_nulR rfl ?_ | refine w_ldc rfl rfl ?_ | refine w_ldc2 rfl rfl ?_ | refine w_put rfl rfl rfl (Nat.le_of_ble_eq_true rfl) (Or.inl rfl) rfl rfl ?_))
    exact w_lret rfl rfl rfl
  · rename_i h0
    have h1 := Decidable.not_not.mp h0
    obtain ⟨n, rfl, hn1, hn2⟩ := q_nat (x := k) (by omega)
    obtain ⟨i, rfl, hi1, hi2⟩ := q_nat (x := j) (by omega)
    have hnn : (nI n).toInt.toNat = n := by rw [← hn1]; rfl
    have hii : (nI i).toInt.toNat = i := by rw [← hi1]; rfl
    have hN := hM.at_ n (by omega)
    have hin : i < (Fs n).n := by
      have := h1.2.2.2
      rw [hnn, ← hi1] at this
      omega
    split
    · rename_i h2
      (refine ax_run_T (ax_T_of M_Mo_price rfl (Nat.le_of_ble_eq_true rfl) ?_))
      (repeat (first | refine w_iadd1 rfl ?_ | refine w_isub1 rfl ?_ | refine w_iinc1 rfl rfl ?_ | refine w_s rfl rfl ?_ | refine w_get rfl rfl rfl rfl ?_ | refine w_nnl rfl ?_ | refine w_nnlR rfl ?_ | refine w_nul rfl ?_ | refine w_nulR rfl ?_ | refine w_ldc rfl rfl ?_ | refine w_ldc2 rfl rfl ?_ | refine w_put rfl rfl rfl (Nat.le_of_ble_eq_true rfl) (Or.inl rfl) rfl rfl ?_))
      (refine w_cv rfl rfl rfl rfl (by exact Nat.le_of_ble_eq_true rfl) (by exact Nat.le_of_ble_eq_true rfl) (n_isClass hM (nI n) (nI i)) ?_; dsimp only [Option.toList, List.drop, List.cons_append, List.nil_append])
      refine w_if1 rfl (fun _ => ?_) (fun h5 => absurd (c_ne0.mpr h1) h5)
      (repeat (first | refine w_iadd1 rfl ?_ | refine w_isub1 rfl ?_ | refine w_iinc1 rfl rfl ?_ | refine w_s rfl rfl ?_ | refine w_get rfl rfl rfl rfl ?_ | refine w_nnl rfl ?_ | refine w_nnlR rfl ?_ | refine w_nul rfl ?_ | refine w_nulR rfl ?_ | refine w_ldc rfl rfl ?_ | refine w_ldc2 rfl rfl ?_ | refine w_put rfl rfl rfl (Nat.le_of_ble_eq_true rfl) (Or.inl rfl) rfl rfl ?_))
      (refine w_cs rfl rfl (by first | decide | exact Nat.le_of_ble_eq_true rfl) (by exact Nat.le_of_ble_eq_true rfl) (n_isQuantity q) ?_; dsimp only [Option.toList, List.drop, List.cons_append, List.nil_append])
      refine w_if1 rfl (fun _ => ?_) (fun h5 => absurd (c_eq0.mpr h2) h5)
      (repeat (first | refine w_iadd1 rfl ?_ | refine w_isub1 rfl ?_ | refine w_iinc1 rfl rfl ?_ | refine w_s rfl rfl ?_ | refine w_get rfl rfl rfl rfl ?_ | refine w_nnl rfl ?_ | refine w_nnlR rfl ?_ | refine w_nul rfl ?_ | refine w_nulR rfl ?_ | refine w_ldc rfl rfl ?_ | refine w_ldc2 rfl rfl ?_ | refine w_put rfl rfl rfl (Nat.le_of_ble_eq_true rfl) (Or.inl rfl) rfl rfl ?_))
      refine w_if1 rfl (fun _ => ?_) (fun h5 => absurd (by first | exact k_ne1 | exact k_ne2) h5)
      (repeat (first | refine w_iadd1 rfl ?_ | refine w_isub1 rfl ?_ | refine w_iinc1 rfl rfl ?_ | refine w_s rfl rfl ?_ | refine w_get rfl rfl rfl rfl ?_ | refine w_nnl rfl ?_ | refine w_nnlR rfl ?_ | refine w_nul rfl ?_ | refine w_nulR rfl ?_ | refine w_ldc rfl rfl ?_ | refine w_ldc2 rfl rfl ?_ | refine w_put rfl rfl rfl (Nat.le_of_ble_eq_true rfl) (Or.inl rfl) rfl rfl ?_))
      exact w_lret rfl rfl rfl
    · rename_i h2
      rw [hnn, hii]
      (refine ax_run_T (ax_T_of M_Mo_price rfl (Nat.le_of_ble_eq_true rfl) ?_))
      (repeat (first | refine w_iadd1 rfl ?_ | refine w_isub1 rfl ?_ | refine w_iinc1 rfl rfl ?_ | refine w_s rfl rfl ?_ | refine w_get rfl rfl rfl rfl ?_ | refine w_nnl rfl ?_ | refine w_nnlR rfl ?_ | refine w_nul rfl ?_ | refine w_nulR rfl ?_ | refine w_ldc rfl rfl ?_ | refine w_ldc2 rfl rfl ?_ | refine w_put rfl rfl rfl (Nat.le_of_ble_eq_true rfl) (Or.inl rfl) rfl rfl ?_))
      (refine w_cv rfl rfl rfl rfl (by exact Nat.le_of_ble_eq_true rfl) (by exact Nat.le_of_ble_eq_true rfl) (n_isClass hM (nI n) (nI i)) ?_; dsimp only [Option.toList, List.drop, List.cons_append, List.nil_append])
      refine w_if1 rfl (fun _ => ?_) (fun h5 => absurd (c_ne0.mpr h1) h5)
      (repeat (first | refine w_iadd1 rfl ?_ | refine w_isub1 rfl ?_ | refine w_iinc1 rfl rfl ?_ | refine w_s rfl rfl ?_ | refine w_get rfl rfl rfl rfl ?_ | refine w_nnl rfl ?_ | refine w_nnlR rfl ?_ | refine w_nul rfl ?_ | refine w_nulR rfl ?_ | refine w_ldc rfl rfl ?_ | refine w_ldc2 rfl rfl ?_ | refine w_put rfl rfl rfl (Nat.le_of_ble_eq_true rfl) (Or.inl rfl) rfl rfl ?_))
      (refine w_cs rfl rfl (by first | decide | exact Nat.le_of_ble_eq_true rfl) (by exact Nat.le_of_ble_eq_true rfl) (n_isQuantity q) ?_; dsimp only [Option.toList, List.drop, List.cons_append, List.nil_append])
      refine w_if1 rfl (fun h5 => absurd (Decidable.not_not.mp h2) (c_eq0.mp h5)) (fun _ => ?_)
      (repeat (first | refine w_iadd1 rfl ?_ | refine w_isub1 rfl ?_ | refine w_iinc1 rfl rfl ?_ | refine w_s rfl rfl ?_ | refine w_get rfl rfl rfl rfl ?_ | refine w_nnl rfl ?_ | refine w_nnlR rfl ?_ | refine w_nul rfl ?_ | refine w_nulR rfl ?_ | refine w_ldc rfl rfl ?_ | refine w_ldc2 rfl rfl ?_ | refine w_put rfl rfl rfl (Nat.le_of_ble_eq_true rfl) (Or.inl rfl) rfl rfl ?_))
      refine w_if1 rfl (fun h5 => absurd rfl h5) (fun _ => ?_)
      (repeat (first | refine w_iadd1 rfl ?_ | refine w_isub1 rfl ?_ | refine w_iinc1 rfl rfl ?_ | refine w_s rfl rfl ?_ | refine w_get rfl rfl rfl rfl ?_ | refine w_nnl rfl ?_ | refine w_nnlR rfl ?_ | refine w_nul rfl ?_ | refine w_nulR rfl ?_ | refine w_ldc rfl rfl ?_ | refine w_ldc2 rfl rfl ?_ | refine w_put rfl rfl rfl (Nat.le_of_ble_eq_true rfl) (Or.inl rfl) rfl rfl ?_))
      (refine w_cv rfl rfl rfl rfl (by exact Nat.le_of_ble_eq_true rfl) (by exact Nat.le_of_ble_eq_true rfl) (n_priceOf (m := (ax_Mo.u_thrown m 0)) hN.1.thr hN.2 (by omega) i hin q (Decidable.not_not.mp h2)) ?_; dsimp only [Option.toList, List.drop, List.cons_append, List.nil_append])
      (repeat (first | refine w_iadd1 rfl ?_ | refine w_isub1 rfl ?_ | refine w_iinc1 rfl rfl ?_ | refine w_s rfl rfl ?_ | refine w_get rfl rfl rfl rfl ?_ | refine w_nnl rfl ?_ | refine w_nnlR rfl ?_ | refine w_nul rfl ?_ | refine w_nulR rfl ?_ | refine w_ldc rfl rfl ?_ | refine w_ldc2 rfl rfl ?_ | refine w_put rfl rfl rfl (Nat.le_of_ble_eq_true rfl) (Or.inl rfl) rfl rfl ?_))
      exact w_lret rfl rfl rfl
def mp_best (c : ax_St) (m : ax_Mo) (Fs : Nat → ax_Of) (q : Int64) : Value × ax_Mo := if ¬ (1 ≤ q.toInt ∧ q.toInt ≤ 1000000) then (.int 0, (ax_Mo.u_thrown m 1)) else (.int (ax_bst c Fs q m.makers).1, (ax_Mo.u_thrown m 0))
theorem n_best {Fs : Nat → ax_Of} (hM : MkRel m Fs) (hR : BRel c m) (hb : BoardOk c) (q : Int64) : ax_run m_Mo_best [.ref 23, .long q] (ax_hp L xs c m o pool, u) (ax_mout L xs c o pool u (mp_best c m Fs q)) := by
  have hn := hM.n
  unfold mp_best
  split
  · rename_i h0
    (refine ax_run_T (ax_T_of M_Mo_best rfl (Nat.le_of_ble_eq_true rfl) ?_))
    (repeat (first | refine w_iadd1 rfl ?_ | refine w_isub1 rfl ?_ | refine w_iinc1 rfl rfl ?_ | refine w_s rfl rfl ?_ | refine w_get rfl rfl rfl rfl ?_ | refine w_nnl rfl ?_ | refine w_nnlR rfl ?_ | refine w_nul rfl ?_ | refine w_nulR rfl ?_ | refine w_ldc rfl rfl ?_ | refine w_ldc2 rfl rfl ?_ | refine w_put rfl rfl rfl (Nat.le_of_ble_eq_true rfl) (Or.inl rfl) rfl rfl ?_))
    (refine w_cs rfl rfl (by first | decide | exact Nat.le_of_ble_eq_true rfl) (by exact Nat.le_of_ble_eq_true rfl) (n_isQuantity q) ?_; dsimp only [Option.toList, List.drop, List.cons_append, List.nil_append])
    refine w_if1 rfl (fun _ => ?_) (fun h5 => absurd (c_eq0.mpr h0) h5)
    (repeat (first | refine w_iadd1 rfl ?_ | refine w_isub1 rfl ?_ | refine w_iinc1 rfl rfl ?_ | refine w_s rfl rfl ?_ | refine w_get rfl rfl rfl rfl ?_ | refine w_nnl rfl ?_ | refine w_nnlR rfl ?_ | refine w_nul rfl ?_ | refine w_nulR rfl ?_ | refine w_ldc rfl rfl ?_ | refine w_ldc2 rfl rfl ?_ | refine w_put rfl rfl rfl (Nat.le_of_ble_eq_true rfl) (Or.inl rfl) rfl rfl ?_))
    refine w_if1 rfl (fun h5 => absurd h5 (by first | exact k_eq1 | exact k_eq2)) (fun _ => ?_)
    (repeat (first | refine w_iadd1 rfl ?_ | refine w_isub1 rfl ?_ | refine w_iinc1 rfl rfl ?_ | refine w_s rfl rfl ?_ | refine w_get rfl rfl rfl rfl ?_ | refine w_nnl rfl ?_ | refine w_nnlR rfl ?_ | refine w_nul rfl ?_ | refine w_nulR rfl ?_ | refine w_ldc rfl rfl ?_ | refine w_ldc2 rfl rfl ?_ | refine w_put rfl rfl rfl (Nat.le_of_ble_eq_true rfl) (Or.inl rfl) rfl rfl ?_))
    (refine w_iret rfl rfl rfl ?_)
    rfl
  · rename_i h0
    have h9 := Decidable.not_not.mp h0
    have lp : ∀ (e k : Nat), k + e = m.makers → ax_wp ax_run M_Mo_best (fun r' => r' = ax_mout L xs c o pool u (.int (ax_bst c Fs q m.makers).1, (ax_Mo.u_thrown m 0))) 33 [(0, .ref 23), (1, .long q), (3, .int (ax_bst c Fs q k).1), (4, .long (ax_bst c Fs q k).2), (6, .int (nI k))] [] (ax_hp L xs c (ax_Mo.u_thrown m 0) o pool, u) := by
      intro e
      induction e with
      | zero =>
        intro k hk
        have : k = m.makers := by omega
        subst this
        (repeat (first | refine w_iadd1 rfl ?_ | refine w_isub1 rfl ?_ | refine w_iinc1 rfl rfl ?_ | refine w_s rfl rfl ?_ | refine w_get rfl rfl rfl rfl ?_ | refine w_nnl rfl ?_ | refine w_nnlR rfl ?_ | refine w_nul rfl ?_ | refine w_nulR rfl ?_ | refine w_ldc rfl rfl ?_ | refine w_ldc2 rfl rfl ?_ | refine w_put rfl rfl rfl (Nat.le_of_ble_eq_true rfl) (Or.inl rfl) rfl rfl ?_))
        refine w_if2 rfl (fun _ => ?_) (fun h5 => absurd ((cn_ge (a := m.makers) (b := m.makers) (by omega) (by omega)).mpr (Nat.le_refl _)) h5)
        (repeat (first | refine w_iadd1 rfl ?_ | refine w_isub1 rfl ?_ | refine w_iinc1 rfl rfl ?_ | refine w_s rfl rfl ?_ | refine w_get rfl rfl rfl rfl ?_ | refine w_nnl rfl ?_ | refine w_nnlR rfl ?_ | refine w_nul rfl ?_ | refine w_nulR rfl ?_ | refine w_ldc rfl rfl ?_ | refine w_ldc2 rfl rfl ?_ | refine w_put rfl rfl rfl (Nat.le_of_ble_eq_true rfl) (Or.inl rfl) rfl rfl ?_))
        (refine w_iret rfl rfl rfl ?_)
        rfl
      | succ e ih =>
        intro k hk
        have hN := hM.at_ k (by omega)
        have hn4 := hN.2.n4
        have ihk := ih (k + 1) (by omega)
        (repeat (first | refine w_iadd1 rfl ?_ | refine w_isub1 rfl ?_ | refine w_iinc1 rfl rfl ?_ | refine w_s rfl rfl ?_ | refine w_get rfl rfl rfl rfl ?_ | refine w_nnl rfl ?_ | refine w_nnlR rfl ?_ | refine w_nul rfl ?_ | refine w_nulR rfl ?_ | refine w_ldc rfl rfl ?_ | refine w_ldc2 rfl rfl ?_ | refine w_put rfl rfl rfl (Nat.le_of_ble_eq_true rfl) (Or.inl rfl) rfl rfl ?_))
        refine w_if2 rfl (fun h5 => absurd ((cn_ge (a := k) (b := m.makers) (by omega) (by omega)).mp h5) (by omega)) (fun _ => ?_)
        (repeat (first | refine w_iadd1 rfl ?_ | refine w_isub1 rfl ?_ | refine w_iinc1 rfl rfl ?_ | refine w_s rfl rfl ?_ | refine w_get rfl rfl rfl rfl ?_ | refine w_nnl rfl ?_ | refine w_nnlR rfl ?_ | refine w_nul rfl ?_ | refine w_nulR rfl ?_ | refine w_ldc rfl rfl ?_ | refine w_ldc2 rfl rfl ?_ | refine w_put rfl rfl rfl (Nat.le_of_ble_eq_true rfl) (Or.inl rfl) rfl rfl ?_))
        (refine w_cv rfl rfl rfl rfl (by exact Nat.le_of_ble_eq_true rfl) (by exact Nat.le_of_ble_eq_true rfl) (n_leastOf (m := (ax_Mo.u_thrown m 0)) hN.1.thr hN.2 hR.thr hb (by omega)) ?_; dsimp only [Option.toList, List.drop, List.cons_append, List.nil_append])
        (repeat (first | refine w_iadd1 rfl ?_ | refine w_isub1 rfl ?_ | refine w_iinc1 rfl rfl ?_ | refine w_s rfl rfl ?_ | refine w_get rfl rfl rfl rfl ?_ | refine w_nnl rfl ?_ | refine w_nnlR rfl ?_ | refine w_nul rfl ?_ | refine w_nulR rfl ?_ | refine w_ldc rfl rfl ?_ | refine w_ldc2 rfl rfl ?_ | refine w_put rfl rfl rfl (Nat.le_of_ble_eq_true rfl) (Or.inl rfl) rfl rfl ?_))
        rcases ax_least_r (c := c) hn4 with hl | ⟨b, hb1, hl⟩
        · rw [hl]
          refine w_if2 rfl (fun _ => ?_) (fun h5 => absurd rfl h5)
          (repeat ((fail_if_success (show ax_wp _ _ _ 33 _ _ _)); (first | refine w_iadd1 rfl ?_ | refine w_isub1 rfl ?_ | refine w_iinc1 rfl rfl ?_ | refine w_s rfl rfl ?_ | refine w_get rfl rfl rfl rfl ?_ | refine w_nnl rfl ?_ | refine w_nnlR rfl ?_ | refine w_nul rfl ?_ | refine w_nulR rfl ?_ | refine w_ldc rfl rfl ?_ | refine w_ldc2 rfl rfl ?_ | refine w_put rfl rfl rfl (Nat.le_of_ble_eq_true rfl) (Or.inl rfl) rfl rfl ?_)))
          have eb : ax_bst c Fs q (k + 1) = ax_bst c Fs q k := if_pos hl
          rw [eb] at ihk
          exact w_lv ihk rfl ⟨rfl, rfl, rfl, rfl, rfl, trivial⟩
        · have hbb : (nI b).toInt.toNat = b := by rw [q_nI' (by omega)]; rfl
          have hpr := n_priceOf (L := L) (xs := xs) (c := c) (m := (ax_Mo.u_thrown m 0)) (o := o) (pool := pool) (u := u) hN.1.thr hN.2 (by omega) b hb1 q h9
          have hpb := ax_pri_b (hN.2.gs b hb1) (q := q) h9
          have eb : ax_bst c Fs q (k + 1) = (if (ax_bst c Fs q k).1 = -1 ∨ ax_pri ((Fs k).g b) q < (ax_bst c Fs q k).2.toInt then (nI k, Int64.ofInt (ax_pri ((Fs k).g b) q)) else ax_bst c Fs q k) := by
            show (if ax_least c (Fs k) = -1 then _ else _) = _
            rw [if_neg (by rw [hl]; exact nI_ne (by omega)), hl, hbb]
          rw [eb] at ihk
          rw [hl]
          refine w_if2 rfl (fun h5 => absurd h5 (nI_ne (by omega))) (fun _ => ?_)
          (repeat (first | refine w_iadd1 rfl ?_ | refine w_isub1 rfl ?_ | refine w_iinc1 rfl rfl ?_ | refine w_s rfl rfl ?_ | refine w_get rfl rfl rfl rfl ?_ | refine w_nnl rfl ?_ | refine w_nnlR rfl ?_ | refine w_nul rfl ?_ | refine w_nulR rfl ?_ | refine w_ldc rfl rfl ?_ | refine w_ldc2 rfl rfl ?_ | refine w_put rfl rfl rfl (Nat.le_of_ble_eq_true rfl) (Or.inl rfl) rfl rfl ?_))
          refine w_if2 rfl (fun h5 => ?_) (fun h5 => ?_)
          · rw [if_pos (show (ax_bst c Fs q k).1 = -1 ∨ ax_pri ((Fs k).g b) q < (ax_bst c Fs q k).2.toInt from Or.inl h5)] at ihk
            (repeat (first | refine w_iadd1 rfl ?_ | refine w_isub1 rfl ?_ | refine w_iinc1 rfl rfl ?_ | refine w_s rfl rfl ?_ | refine w_get rfl rfl rfl rfl ?_ | refine w_nnl rfl ?_ | refine w_nnlR rfl ?_ | refine w_nul rfl ?_ | refine w_nulR rfl ?_ | refine w_ldc rfl rfl ?_ | refine w_ldc2 rfl rfl ?_ | refine w_put rfl rfl rfl (Nat.le_of_ble_eq_true rfl) (Or.inl rfl) rfl rfl ?_))
            (refine w_cv rfl rfl rfl rfl (by exact Nat.le_of_ble_eq_true rfl) (by exact Nat.le_of_ble_eq_true rfl) hpr ?_; dsimp only [Option.toList, List.drop, List.cons_append, List.nil_append])
            (repeat ((fail_if_success (show ax_wp _ _ _ 33 _ _ _)); (first | refine w_iadd1 rfl ?_ | refine w_isub1 rfl ?_ | refine w_iinc1 rfl rfl ?_ | refine w_s rfl rfl ?_ | refine w_get rfl rfl rfl rfl ?_ | refine w_nnl rfl ?_ | refine w_nnlR rfl ?_ | refine w_nul rfl ?_ | refine w_nulR rfl ?_ | refine w_ldc rfl rfl ?_ | refine w_ldc2 rfl rfl ?_ | refine w_put rfl rfl rfl (Nat.le_of_ble_eq_true rfl) (Or.inl rfl) rfl rfl ?_)))
            exact w_lv ihk rfl ⟨rfl, rfl, rfl, rfl, rfl, trivial⟩
          · (repeat (first | refine w_iadd1 rfl ?_ | refine w_isub1 rfl ?_ | refine w_iinc1 rfl rfl ?_ | refine w_s rfl rfl ?_ | refine w_get rfl rfl rfl rfl ?_ | refine w_nnl rfl ?_ | refine w_nnlR rfl ?_ | refine w_nul rfl ?_ | refine w_nulR rfl ?_ | refine w_ldc rfl rfl ?_ | refine w_ldc2 rfl rfl ?_ | refine w_put rfl rfl rfl (Nat.le_of_ble_eq_true rfl) (Or.inl rfl) rfl rfl ?_))
            (refine w_cv rfl rfl rfl rfl (by exact Nat.le_of_ble_eq_true rfl) (by exact Nat.le_of_ble_eq_true rfl) hpr ?_; dsimp only [Option.toList, List.drop, List.cons_append, List.nil_append])
            (repeat (first | refine w_iadd1 rfl ?_ | refine w_isub1 rfl ?_ | refine w_iinc1 rfl rfl ?_ | refine w_s rfl rfl ?_ | refine w_get rfl rfl rfl rfl ?_ | refine w_nnl rfl ?_ | refine w_nnlR rfl ?_ | refine w_nul rfl ?_ | refine w_nulR rfl ?_ | refine w_ldc rfl rfl ?_ | refine w_ldc2 rfl rfl ?_ | refine w_put rfl rfl rfl (Nat.le_of_ble_eq_true rfl) (Or.inl rfl) rfl rfl ?_))
            refine w_if1 rfl (fun h7 => ?_) (fun h7 => ?_)
            · have h8 := c_Llt.mp h7
              rw [q_ofIL (by omega) (by omega)] at h8
              rw [if_pos (show (ax_bst c Fs q k).1 = -1 ∨ ax_pri ((Fs k).g b) q < (ax_bst c Fs q k).2.toInt from Or.inr h8)] at ihk
              (repeat (first | refine w_iadd1 rfl ?_ | refine w_isub1 rfl ?_ | refine w_iinc1 rfl rfl ?_ | refine w_s rfl rfl ?_ | refine w_get rfl rfl rfl rfl ?_ | refine w_nnl rfl ?_ | refine w_nnlR rfl ?_ | refine w_nul rfl ?_ | refine w_nulR rfl ?_ | refine w_ldc rfl rfl ?_ | refine w_ldc2 rfl rfl ?_ | refine w_put rfl rfl rfl (Nat.le_of_ble_eq_true rfl) (Or.inl rfl) rfl rfl ?_))
              (refine w_cv rfl rfl rfl rfl (by exact Nat.le_of_ble_eq_true rfl) (by exact Nat.le_of_ble_eq_true rfl) hpr ?_; dsimp only [Option.toList, List.drop, List.cons_append, List.nil_append])
              (repeat ((fail_if_success (show ax_wp _ _ _ 33 _ _ _)); (first | refine w_iadd1 rfl ?_ | refine w_isub1 rfl ?_ | refine w_iinc1 rfl rfl ?_ | refine w_s rfl rfl ?_ | refine w_get rfl rfl rfl rfl ?_ | refine w_nnl rfl ?_ | refine w_nnlR rfl ?_ | refine w_nul rfl ?_ | refine w_nulR rfl ?_ | refine w_ldc rfl rfl ?_ | refine w_ldc2 rfl rfl ?_ | refine w_put rfl rfl rfl (Nat.le_of_ble_eq_true rfl) (Or.inl rfl) rfl rfl ?_)))
              exact w_lv ihk rfl ⟨rfl, rfl, rfl, rfl, rfl, trivial⟩
            · have h8 : ¬ (Int64.ofInt (ax_pri ((Fs k).g b) q)).toInt < (ax_bst c Fs q k).2.toInt := fun z => h7 (c_Llt.mpr z)
              rw [q_ofIL (by omega) (by omega)] at h8
              rw [if_neg (show ¬ ((ax_bst c Fs q k).1 = -1 ∨ ax_pri ((Fs k).g b) q < (ax_bst c Fs q k).2.toInt) from fun z => z.elim h5 h8)] at ihk
              (repeat ((fail_if_success (show ax_wp _ _ _ 33 _ _ _)); (first | refine w_iadd1 rfl ?_ | refine w_isub1 rfl ?_ | refine w_iinc1 rfl rfl ?_ | refine w_s rfl rfl ?_ | refine w_get rfl rfl rfl rfl ?_ | refine w_nnl rfl ?_ | refine w_nnlR rfl ?_ | refine w_nul rfl ?_ | refine w_nulR rfl ?_ | refine w_ldc rfl rfl ?_ | refine w_ldc2 rfl rfl ?_ | refine w_put rfl rfl rfl (Nat.le_of_ble_eq_true rfl) (Or.inl rfl) rfl rfl ?_)))
              exact w_lv ihk rfl ⟨rfl, rfl, rfl, rfl, rfl, trivial⟩
    (refine ax_run_T (ax_T_of M_Mo_best rfl (Nat.le_of_ble_eq_true rfl) ?_))
    (repeat (first | refine w_iadd1 rfl ?_ | refine w_isub1 rfl ?_ | refine w_iinc1 rfl rfl ?_ | refine w_s rfl rfl ?_ | refine w_get rfl rfl rfl rfl ?_ | refine w_nnl rfl ?_ | refine w_nnlR rfl ?_ | refine w_nul rfl ?_ | refine w_nulR rfl ?_ | refine w_ldc rfl rfl ?_ | refine w_ldc2 rfl rfl ?_ | refine w_put rfl rfl rfl (Nat.le_of_ble_eq_true rfl) (Or.inl rfl) rfl rfl ?_))
    (refine w_cs rfl rfl (by first | decide | exact Nat.le_of_ble_eq_true rfl) (by exact Nat.le_of_ble_eq_true rfl) (n_isQuantity q) ?_; dsimp only [Option.toList, List.drop, List.cons_append, List.nil_append])
    refine w_if1 rfl (fun h5 => absurd h9 (c_eq0.mp h5)) (fun _ => ?_)
    (repeat (first | refine w_iadd1 rfl ?_ | refine w_isub1 rfl ?_ | refine w_iinc1 rfl rfl ?_ | refine w_s rfl rfl ?_ | refine w_get rfl rfl rfl rfl ?_ | refine w_nnl rfl ?_ | refine w_nnlR rfl ?_ | refine w_nul rfl ?_ | refine w_nulR rfl ?_ | refine w_ldc rfl rfl ?_ | refine w_ldc2 rfl rfl ?_ | refine w_put rfl rfl rfl (Nat.le_of_ble_eq_true rfl) (Or.inl rfl) rfl rfl ?_))
    refine w_if1 rfl (fun _ => ?_) (fun h5 => absurd rfl h5)
    (repeat ((fail_if_success (show ax_wp _ _ _ 33 _ _ _)); (first | refine w_iadd1 rfl ?_ | refine w_isub1 rfl ?_ | refine w_iinc1 rfl rfl ?_ | refine w_s rfl rfl ?_ | refine w_get rfl rfl rfl rfl ?_ | refine w_nnl rfl ?_ | refine w_nnlR rfl ?_ | refine w_nul rfl ?_ | refine w_nulR rfl ?_ | refine w_ldc rfl rfl ?_ | refine w_ldc2 rfl rfl ?_ | refine w_put rfl rfl rfl (Nat.le_of_ble_eq_true rfl) (Or.inl rfl) rfl rfl ?_)))
    exact w_lv (lp m.makers 0 (by omega)) rfl ⟨rfl, rfl, rfl, rfl, rfl, trivial⟩
end MG
