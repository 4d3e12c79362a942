def ax_mcol (c : ax_St) (m : ax_Mo) (G : ax_Gr) : Nat → Nat × (Nat → Int32) × (Nat → Int64)
  | 0 => (0, m.remarkOf, m.excess)
  | t + 1 => if 0 < ax_ex c G t then ((ax_mcol c m G t).1 + 1, upd (ax_mcol c m G t).2.1 (ax_mcol c m G t).1 (nI t), vp_updL (ax_mcol c m G t).2.2 (ax_mcol c m G t).1 (Int64.ofInt (ax_ex c G t))) else ax_mcol c m G t
theorem ax_mcol_le (c : ax_St) (m : ax_Mo) (G : ax_Gr) : ∀ t, (ax_mcol c m G t).1 ≤ t := by
  intro t
  induction t with
  | zero => exact Nat.le_refl _
  | succ t ih =>
    unfold ax_mcol
    split
    · exact Nat.succ_le_succ ih
    · omega
def ax_mcst (c : ax_St) (m : ax_Mo) (G : ax_Gr) (t : Nat) : ax_Mo := (ax_Mo.u_excess (ax_Mo.u_remarkOf (ax_Mo.u_remarks (ax_Mo.u_thrown m 0) ((ax_mcol c m G t).1)) ((ax_mcol c m G t).2.1)) ((ax_mcol c m G t).2.2))
section MH
variable {L : Nat} {xs : Nat → Int32} {c : ax_St} {m : ax_Mo} {o : Nat → Int64} {pool : List (Option ax_C)} {u : Nat} {h : ax_H}
def mp_run (c : ax_St) (m : ax_Mo) (Fs : Nat → ax_Of) (k j : Int32) : Value × ax_Mo := if ¬ (0 ≤ k.toInt ∧ k.toInt < m.makers ∧ 0 ≤ j.toInt ∧ j.toInt < (Fs k.toInt.toNat).n) then (.int 0, (ax_Mo.u_thrown m 1)) else (.int (nI (ax_mcol c m ((Fs k.toInt.toNat).g j.toInt.toNat) c.bn).1), ax_mcst c m ((Fs k.toInt.toNat).g j.toInt.toNat) c.bn)
theorem n_run {Fs : Nat → ax_Of} (hM : MkRel m Fs) (hR : BRel c m) (hb : BoardOk c) (k j : Int32) : ax_run m_Mo_run [.ref 23, .int k, .int j] (ax_hp L xs c m o pool, u) (ax_mout L xs c o pool u (mp_run c m Fs k j)) := by
  have hn := hM.n
  have hbn := hb.n
  have hrn := hR.n
  unfold mp_run
  split
  · rename_i h0
    (refine ax_run_T (ax_T_of M_Mo_run rfl (Nat.le_of_ble_eq_true rfl) ?_))
    (repeat (first | refine w_iadd1 rfl ?_ | refine w_isub1 rfl ?_ | refine w_iinc1 rfl rfl ?_ | refine w_s rfl rfl ?_ | refine w_get rfl rfl rfl rfl ?_ | refine w_nnl rfl ?_ | refine w_nnlR rfl ?_ | refine w_nul rfl ?_ | refine w_nulR rfl ?_ | refine w_ldc rfl rfl ?_ | refine w_ldc2 rfl rfl ?_ | refine w_put rfl rfl rfl (Nat.le_of_ble_eq_true rfl) (Or.inl rfl) rfl rfl ?_))
    (refine w_cv rfl rfl rfl rfl (by exact Nat.le_of_ble_eq_true rfl) (by exact Nat.le_of_ble_eq_true rfl) (n_isClass hM k j) ?_; dsimp only [Option.toList, List.drop, List.cons_append, List.nil_append])
    refine w_if1 rfl (fun _ => ?_) (fun h5 => absurd (c_eq0.mpr h0) h5)
    (repeat (first | refine w_iadd1 rfl ?_ | refine w_isub1 rfl ?_ | refine w_iinc1 rfl rfl ?_ | refine w_s rfl rfl ?_ | refine w_get rfl rfl rfl rfl ?_ | refine w_nnl rfl ?_ | refine w_nnlR rfl ?_ | refine w_nul rfl ?_ | refine w_nulR rfl ?_ | refine w_ldc rfl rfl ?_ | refine w_ldc2 rfl rfl ?_ | refine w_put rfl rfl rfl (Nat.le_of_ble_eq_true rfl) (Or.inl rfl) rfl rfl ?_))
    refine w_if1 rfl (fun h5 => absurd h5 k_eq1) (fun _ => ?_)
    (repeat (first | refine w_iadd1 rfl ?_ | refine w_isub1 rfl ?_ | refine w_iinc1 rfl rfl ?_ | refine w_s rfl rfl ?_ | refine w_get rfl rfl rfl rfl ?_ | refine w_nnl rfl ?_ | refine w_nnlR rfl ?_ | refine w_nul rfl ?_ | refine w_nulR rfl ?_ | refine w_ldc rfl rfl ?_ | refine w_ldc2 rfl rfl ?_ | refine w_put rfl rfl rfl (Nat.le_of_ble_eq_true rfl) (Or.inl rfl) rfl rfl ?_))
    (refine w_iret rfl rfl rfl ?_)
    rfl
  · rename_i h0
    have h1 := Decidable.not_not.mp h0
    obtain ⟨n, rfl, hn1, hn2⟩ := q_nat (x := k) (by omega)
    obtain ⟨i, rfl, hi1, hi2⟩ := q_nat (x := j) (by omega)
    have hnn : (nI n).toInt.toNat = n := by rw [← hn1]; rfl
    have hii : (nI i).toInt.toNat = i := by rw [← hi1]; rfl
    have hN := hM.at_ n (by omega)
    have hin : i < (Fs n).n := by
      have := h1.2.2.2
      rw [hnn, ← hi1] at this
      omega
    rw [hnn, hii]
    have lp : ∀ (d t : Nat), t + d = c.bn → ax_wp ax_run M_Mo_run (fun r' => r' = ax_mout L xs c o pool u (.int (nI (ax_mcol c m ((Fs n).g i) c.bn).1), ax_mcst c m ((Fs n).g i) c.bn)) 34 [(0, .ref 23), (1, .int (nI n)), (2, .int (nI i)), (3, .int (nI t))] [] (ax_hp L xs c (ax_mcst c m ((Fs n).g i) t) o pool, u) := by
      intro d
      induction d with
      | zero =>
        intro t ht
        have : t = c.bn := by omega
        subst this
        (repeat (first | refine w_iadd1 rfl ?_ | refine w_isub1 rfl ?_ | refine w_iinc1 rfl rfl ?_ | refine w_s rfl rfl ?_ | refine w_get rfl rfl rfl rfl ?_ | refine w_nnl rfl ?_ | refine w_nnlR rfl ?_ | refine w_nul rfl ?_ | refine w_nulR rfl ?_ | refine w_ldc rfl rfl ?_ | refine w_ldc2 rfl rfl ?_ | refine w_put rfl rfl rfl (Nat.le_of_ble_eq_true rfl) (Or.inl rfl) rfl rfl ?_))
        refine w_if2 rfl (fun _ => ?_) (fun h5 => absurd ((cn_ge (a := c.bn) (b := m.things) (by omega) (by omega)).mpr (by omega)) h5)
        (repeat (first | refine w_iadd1 rfl ?_ | refine w_isub1 rfl ?_ | refine w_iinc1 rfl rfl ?_ | refine w_s rfl rfl ?_ | refine w_get rfl rfl rfl rfl ?_ | refine w_nnl rfl ?_ | refine w_nnlR rfl ?_ | refine w_nul rfl ?_ | refine w_nulR rfl ?_ | refine w_ldc rfl rfl ?_ | refine w_ldc2 rfl rfl ?_ | refine w_put rfl rfl rfl (Nat.le_of_ble_eq_true rfl) (Or.inl rfl) rfl rfl ?_))
        (refine w_iret rfl rfl rfl ?_)
        rfl
      | succ d ih =>
        intro t ht
        have hle := ax_mcol_le c m ((Fs n).g i) t
        have hx := ax_ex_b hb (hN.2.gs i hin) (t := t) (by omega)
        have hNt : NumAt (ax_mcst c m ((Fs n).g i) t) n (Fs n) := ⟨hN.1.cl, hN.1.lm, hN.1.st, hN.1.dy, hN.1.fr, hN.1.ce⟩
        have hRt : BRel c (ax_mcst c m ((Fs n).g i) t) := ⟨hR.n, hR.k, hR.v, hR.l, hR.x, hR.y⟩
        have hby := n_beyond (L := L) (xs := xs) (o := o) (pool := pool) (u := u) hNt hN.2 hRt hb (by omega) i t hin (by omega)
        have iht := ih (t + 1) (by omega)
        (repeat (first | refine w_iadd1 rfl ?_ | refine w_isub1 rfl ?_ | refine w_iinc1 rfl rfl ?_ | refine w_s rfl rfl ?_ | refine w_get rfl rfl rfl rfl ?_ | refine w_nnl rfl ?_ | refine w_nnlR rfl ?_ | refine w_nul rfl ?_ | refine w_nulR rfl ?_ | refine w_ldc rfl rfl ?_ | refine w_ldc2 rfl rfl ?_ | refine w_put rfl rfl rfl (Nat.le_of_ble_eq_true rfl) (Or.inl rfl) rfl rfl ?_))
        refine w_if2 rfl (fun h5 => absurd ((cn_ge (a := t) (b := m.things) (by omega) (by omega)).mp h5) (by omega)) (fun _ => ?_)
        (repeat (first | refine w_iadd1 rfl ?_ | refine w_isub1 rfl ?_ | refine w_iinc1 rfl rfl ?_ | refine w_s rfl rfl ?_ | refine w_get rfl rfl rfl rfl ?_ | refine w_nnl rfl ?_ | refine w_nnlR rfl ?_ | refine w_nul rfl ?_ | refine w_nulR rfl ?_ | refine w_ldc rfl rfl ?_ | refine w_ldc2 rfl rfl ?_ | refine w_put rfl rfl rfl (Nat.le_of_ble_eq_true rfl) (Or.inl rfl) rfl rfl ?_))
        (refine w_cv rfl rfl rfl rfl (by exact Nat.le_of_ble_eq_true rfl) (by exact Nat.le_of_ble_eq_true rfl) hby ?_; dsimp only [Option.toList, List.drop, List.cons_append, List.nil_append])
        (repeat (first | refine w_iadd1 rfl ?_ | refine w_isub1 rfl ?_ | refine w_iinc1 rfl rfl ?_ | refine w_s rfl rfl ?_ | refine w_get rfl rfl rfl rfl ?_ | refine w_nnl rfl ?_ | refine w_nnlR rfl ?_ | refine w_nul rfl ?_ | refine w_nulR rfl ?_ | refine w_ldc rfl rfl ?_ | refine w_ldc2 rfl rfl ?_ | refine w_put rfl rfl rfl (Nat.le_of_ble_eq_true rfl) (Or.inl rfl) rfl rfl ?_))
        refine w_if1 rfl (fun h7 => ?_) (fun h7 => ?_)
        · have h8 := c_Lgt.mp h7
          rw [q_ofIL (by omega) (by omega), q_ofNL] at h8
          have h9 : 0 < ax_ex c ((Fs n).g i) t := by omega
          (repeat (first | refine w_iadd1 rfl ?_ | refine w_isub1 rfl ?_ | refine w_iinc1 rfl rfl ?_ | refine w_s rfl rfl ?_ | refine w_get rfl rfl rfl rfl ?_ | refine w_nnl rfl ?_ | refine w_nnlR rfl ?_ | refine w_nul rfl ?_ | refine w_nulR rfl ?_ | refine w_ldc rfl rfl ?_ | refine w_ldc2 rfl rfl ?_ | refine w_put rfl rfl rfl (Nat.le_of_ble_eq_true rfl) (Or.inl rfl) rfl rfl ?_))
          refine w_ias rfl rfl rfl (by show (ax_mcol c m ((Fs n).g i) t).1 < 60; omega) (by decide) ?_
          (repeat (first | refine w_iadd1 rfl ?_ | refine w_isub1 rfl ?_ | refine w_iinc1 rfl rfl ?_ | refine w_s rfl rfl ?_ | refine w_get rfl rfl rfl rfl ?_ | refine w_nnl rfl ?_ | refine w_nnlR rfl ?_ | refine w_nul rfl ?_ | refine w_nulR rfl ?_ | refine w_ldc rfl rfl ?_ | refine w_ldc2 rfl rfl ?_ | refine w_put rfl rfl rfl (Nat.le_of_ble_eq_true rfl) (Or.inl rfl) rfl rfl ?_))
          have hNt2 : NumAt (ax_Mo.u_remarkOf (ax_mcst c m ((Fs n).g i) t) (upd (ax_mcol c m ((Fs n).g i) t).2.1 (ax_mcol c m ((Fs n).g i) t).1 (nI t))) n (Fs n) := ⟨hN.1.cl, hN.1.lm, hN.1.st, hN.1.dy, hN.1.fr, hN.1.ce⟩
          have hRt2 : BRel c (ax_Mo.u_remarkOf (ax_mcst c m ((Fs n).g i) t) (upd (ax_mcol c m ((Fs n).g i) t).2.1 (ax_mcol c m ((Fs n).g i) t).1 (nI t))) := ⟨hR.n, hR.k, hR.v, hR.l, hR.x, hR.y⟩
          (refine w_cv rfl rfl rfl rfl (by exact Nat.le_of_ble_eq_true rfl) (by exact Nat.le_of_ble_eq_true rfl) (n_beyond hNt2 hN.2 hRt2 hb (by omega) i t hin (by omega)) ?_; dsimp only [Option.toList, List.drop, List.cons_append, List.nil_append])
          refine w_las rfl rfl rfl (by show (ax_mcol c m ((Fs n).g i) t).1 < 60; omega) (by decide) ?_
          (repeat ((fail_if_success (show ax_wp _ _ _ 34 _ _ _)); (first | refine w_iadd1 rfl ?_ | refine w_isub1 rfl ?_ | refine w_iinc1 rfl rfl ?_ | refine w_s rfl rfl ?_ | refine w_get rfl rfl rfl rfl ?_ | refine w_nnl rfl ?_ | refine w_nnlR rfl ?_ | refine w_nul rfl ?_ | refine w_nulR rfl ?_ | refine w_ldc rfl rfl ?_ | refine w_ldc2 rfl rfl ?_ | refine w_put rfl rfl rfl (Nat.le_of_ble_eq_true rfl) (Or.inl rfl) rfl rfl ?_)))
          have e : ax_mcst c m ((Fs n).g i) (t + 1) = (ax_Mo.u_excess (ax_Mo.u_remarkOf (ax_Mo.u_remarks (ax_Mo.u_thrown m 0) ((ax_mcol c m ((Fs n).g i) t).1 + 1)) (upd (ax_mcol c m ((Fs n).g i) t).2.1 (ax_mcol c m ((Fs n).g i) t).1 (nI t))) (vp_updL (ax_mcol c m ((Fs n).g i) t).2.2 (ax_mcol c m ((Fs n).g i) t).1 (Int64.ofInt (ax_ex c ((Fs n).g i) t)))) := by
            unfold ax_mcst
            rw [show ax_mcol c m ((Fs n).g i) (t + 1) = _ from if_pos h9]
          rw [e] at iht
          exact w_lv iht rfl ⟨rfl, rfl, rfl, rfl, trivial⟩
        · have h8 : ¬ (Int64.ofNat 0).toInt < (Int64.ofInt (ax_ex c ((Fs n).g i) t)).toInt := fun z => h7 (c_Lgt.mpr z)
          rw [q_ofIL (by omega) (by omega), q_ofNL] at h8
          have h9 : ¬ 0 < ax_ex c ((Fs n).g i) t := by omega
          (repeat ((fail_if_success (show ax_wp _ _ _ 34 _ _ _)); (first | refine w_iadd1 rfl ?_ | refine w_isub1 rfl ?_ | refine w_iinc1 rfl rfl ?_ | refine w_s rfl rfl ?_ | refine w_get rfl rfl rfl rfl ?_ | refine w_nnl rfl ?_ | refine w_nnlR rfl ?_ | refine w_nul rfl ?_ | refine w_nulR rfl ?_ | refine w_ldc rfl rfl ?_ | refine w_ldc2 rfl rfl ?_ | refine w_put rfl rfl rfl (Nat.le_of_ble_eq_true rfl) (Or.inl rfl) rfl rfl ?_)))
          have e : ax_mcst c m ((Fs n).g i) (t + 1) = ax_mcst c m ((Fs n).g i) t := by
            unfold ax_mcst
            rw [show ax_mcol c m ((Fs n).g i) (t + 1) = ax_mcol c m ((Fs n).g i) t from if_neg h9]
          rw [e] at iht
          exact w_lv iht rfl ⟨rfl, rfl, rfl, rfl, trivial⟩
    (refine ax_run_T (ax_T_of M_Mo_run rfl (Nat.le_of_ble_eq_true rfl) ?_))
    (repeat (first | refine w_iadd1 rfl ?_ | refine w_isub1 rfl ?_ | refine w_iinc1 rfl rfl ?_ | refine w_s rfl rfl ?_ | refine w_get rfl rfl rfl rfl ?_ | refine w_nnl rfl ?_ | refine w_nnlR rfl ?_ | refine w_nul rfl ?_ | refine w_nulR rfl ?_ | refine w_ldc rfl rfl ?_ | refine w_ldc2 rfl rfl ?_ | refine w_put rfl rfl rfl (Nat.le_of_ble_eq_true rfl) (Or.inl rfl) rfl rfl ?_))
    (refine w_cv rfl rfl rfl rfl (by exact Nat.le_of_ble_eq_true rfl) (by exact Nat.le_of_ble_eq_true rfl) (n_isClass hM (nI n) (nI i)) ?_; dsimp only [Option.toList, List.drop, List.cons_append, List.nil_append])
    refine w_if1 rfl (fun h5 => absurd h1 (c_eq0.mp h5)) (fun _ => ?_)
    (repeat (first | refine w_iadd1 rfl ?_ | refine w_isub1 rfl ?_ | refine w_iinc1 rfl rfl ?_ | refine w_s rfl rfl ?_ | refine w_get rfl rfl rfl rfl ?_ | refine w_nnl rfl ?_ | refine w_nnlR rfl ?_ | refine w_nul rfl ?_ | refine w_nulR rfl ?_ | refine w_ldc rfl rfl ?_ | refine w_ldc2 rfl rfl ?_ | refine w_put rfl rfl rfl (Nat.le_of_ble_eq_true rfl) (Or.inl rfl) rfl rfl ?_))
    refine w_if1 rfl (fun _ => ?_) (fun h5 => absurd rfl h5)
    (repeat ((fail_if_success (show ax_wp _ _ _ 34 _ _ _)); (first | refine w_iadd1 rfl ?_ | refine w_isub1 rfl ?_ | refine w_iinc1 rfl rfl ?_ | refine w_s rfl rfl ?_ | refine w_get rfl rfl rfl rfl ?_ | refine w_nnl rfl ?_ | refine w_nnlR rfl ?_ | refine w_nul rfl ?_ | refine w_nulR rfl ?_ | refine w_ldc rfl rfl ?_ | refine w_ldc2 rfl rfl ?_ | refine w_put rfl rfl rfl (Nat.le_of_ble_eq_true rfl) (Or.inl rfl) rfl rfl ?_)))
    exact w_lv (lp c.bn 0 (by omega)) rfl ⟨rfl, rfl, rfl, rfl, trivial⟩
/-- copying the classes of one row to another -/
def ax_cpy (f : Nat → Int64) (a b n : Nat) : Nat → Int64 := fun j => if 64 * b ≤ j ∧ j < 64 * b + n then f (64 * a + (j - 64 * b)) else f j
theorem n_copy (a b : Nat) (ha : a < 15) (hb : b < 15) (hab : a ≠ b) : ax_run m_Mo_copyClasses [.ref 23, .int (nI a), .int (nI b)] (ax_hp L xs c m o pool, u) (.inl none, (ax_hp L xs c (ax_Mo.u_numbers (ax_Mo.u_classes m (upd m.classes b (m.classes a))) (ax_cpy m.numbers a b 64)) o pool, u)) := by
  have lp : ∀ (d k : Nat), k + d = 64 → ax_wp ax_run M_Mo_copyClasses (fun r' => r' = (.inl none, (ax_hp L xs c (ax_Mo.u_numbers (ax_Mo.u_classes m (upd m.classes b (m.classes a))) (ax_cpy m.numbers a b 64)) o pool, u))) 14 [(0, .ref 23), (1, .int (nI a)), (2, .int (nI b)), (3, .int (nI k))] [] (ax_hp L xs c (ax_Mo.u_numbers (ax_Mo.u_classes m (upd m.classes b (m.classes a))) (ax_cpy m.numbers a b k)) o pool, u) := by
    intro d
    induction d with
    | zero =>
      intro k hk
      have : k = 64 := by omega
      subst this
      (repeat (first | refine w_iadd1 rfl ?_ | refine w_isub1 rfl ?_ | refine w_iinc1 rfl rfl ?_ | refine w_s rfl rfl ?_ | refine w_get rfl rfl rfl rfl ?_ | refine w_nnl rfl ?_ | refine w_nnlR rfl ?_ | refine w_nul rfl ?_ | refine w_nulR rfl ?_ | refine w_ldc rfl rfl ?_ | refine w_ldc2 rfl rfl ?_ | refine w_put rfl rfl rfl (Nat.le_of_ble_eq_true rfl) (Or.inl rfl) rfl rfl ?_))
      refine w_if2 rfl (fun _ => ?_) (fun h5 => absurd ((cn_ge (a := 64) (b := 64) (by omega) (by omega)).mpr (by omega)) h5)
      exact w_vret rfl rfl rfl
    | succ d ih =>
      intro k hk
      have ihk := ih (k + 1) (by omega)
      (repeat (first | refine w_iadd1 rfl ?_ | refine w_isub1 rfl ?_ | refine w_iinc1 rfl rfl ?_ | refine w_s rfl rfl ?_ | refine w_get rfl rfl rfl rfl ?_ | refine w_nnl rfl ?_ | refine w_nnlR rfl ?_ | refine w_nul rfl ?_ | refine w_nulR rfl ?_ | refine w_ldc rfl rfl ?_ | refine w_ldc2 rfl rfl ?_ | refine w_put rfl rfl rfl (Nat.le_of_ble_eq_true rfl) (Or.inl rfl) rfl rfl ?_))
      refine w_if2 rfl (fun h5 => absurd ((cn_ge (a := k) (b := 64) (by omega) (by omega)).mp h5) (by omega)) (fun _ => ?_)
      (repeat (first | refine w_iadd1 rfl ?_ | refine w_isub1 rfl ?_ | refine w_iinc1 rfl rfl ?_ | refine w_s rfl rfl ?_ | refine w_get rfl rfl rfl rfl ?_ | refine w_nnl rfl ?_ | refine w_nnlR rfl ?_ | refine w_nul rfl ?_ | refine w_nulR rfl ?_ | refine w_ldc rfl rfl ?_ | refine w_ldc2 rfl rfl ?_ | refine w_put rfl rfl rfl (Nat.le_of_ble_eq_true rfl) (Or.inl rfl) rfl rfl ?_))
      (refine w_cs rfl rfl (by first | decide | exact Nat.le_of_ble_eq_true rfl) (by exact Nat.le_of_ble_eq_true rfl) (n_place b 0 (by omega) (by omega)) ?_; dsimp only [Option.toList, List.drop, List.cons_append, List.nil_append])
      (repeat (first | refine w_iadd1 rfl ?_ | refine w_isub1 rfl ?_ | refine w_iinc1 rfl rfl ?_ | refine w_s rfl rfl ?_ | refine w_get rfl rfl rfl rfl ?_ | refine w_nnl rfl ?_ | refine w_nnlR rfl ?_ | refine w_nul rfl ?_ | refine w_nulR rfl ?_ | refine w_ldc rfl rfl ?_ | refine w_ldc2 rfl rfl ?_ | refine w_put rfl rfl rfl (Nat.le_of_ble_eq_true rfl) (Or.inl rfl) rfl rfl ?_))
      (refine w_cs rfl rfl (by first | decide | exact Nat.le_of_ble_eq_true rfl) (by exact Nat.le_of_ble_eq_true rfl) (n_place a 0 (by omega) (by omega)) ?_; dsimp only [Option.toList, List.drop, List.cons_append, List.nil_append])
      (repeat (first | refine w_iadd1 rfl ?_ | refine w_isub1 rfl ?_ | refine w_iinc1 rfl rfl ?_ | refine w_s rfl rfl ?_ | refine w_get rfl rfl rfl rfl ?_ | refine w_nnl rfl ?_ | refine w_nnlR rfl ?_ | refine w_nul rfl ?_ | refine w_nulR rfl ?_ | refine w_ldc rfl rfl ?_ | refine w_ldc2 rfl rfl ?_ | refine w_put rfl rfl rfl (Nat.le_of_ble_eq_true rfl) (Or.inl rfl) rfl rfl ?_))
      refine w_la (j := 64 * a + 16 * 0 + k) rfl rfl (by (simp only [kb6, kb7, kb8, kb9, kb16, ki0, ki1, ki2, ki3, ki4, ki5, nI_addR, nI_mulR]; try (congr 1; omega))) (by omega) (by decide) ?_
      refine w_las (j := 64 * b + 16 * 0 + k) rfl rfl (by (simp only [kb6, kb7, kb8, kb9, kb16, ki0, ki1, ki2, ki3, ki4, ki5, nI_addR, nI_mulR]; try (congr 1; omega))) (by omega) (by decide) ?_
      (repeat ((fail_if_success (show ax_wp _ _ _ 14 _ _ _)); (first | refine w_iadd1 rfl ?_ | refine w_isub1 rfl ?_ | refine w_iinc1 rfl rfl ?_ | refine w_s rfl rfl ?_ | refine w_get rfl rfl rfl rfl ?_ | refine w_nnl rfl ?_ | refine w_nnlR rfl ?_ | refine w_nul rfl ?_ | refine w_nulR rfl ?_ | refine w_ldc rfl rfl ?_ | refine w_ldc2 rfl rfl ?_ | refine w_put rfl rfl rfl (Nat.le_of_ble_eq_true rfl) (Or.inl rfl) rfl rfl ?_)))
      have e : vp_updL (ax_cpy m.numbers a b k) (64 * b + 16 * 0 + k) (ax_cpy m.numbers a b k (64 * a + 16 * 0 + k)) = ax_cpy m.numbers a b (k + 1) := by
        funext j
        unfold vp_updL
        by_cases hj : j = 64 * b + 16 * 0 + k
        · rw [if_pos hj]
          subst hj
          unfold ax_cpy
          rw [if_neg (by omega), if_pos (by omega)]
          congr 1
          omega
        · rw [if_neg hj]
          unfold ax_cpy
          by_cases h2 : 64 * b ≤ j ∧ j < 64 * b + k
          · rw [if_pos h2, if_pos (by omega)]
          · rw [if_neg h2, if_neg (by omega)]
      rw [← e] at ihk
      exact w_lv ihk rfl ⟨rfl, rfl, rfl, rfl, trivial⟩
  (refine ax_run_T (ax_T_of M_Mo_copyClasses rfl (Nat.le_of_ble_eq_true rfl) ?_))
  (repeat (first | refine w_iadd1 rfl ?_ | refine w_isub1 rfl ?_ | refine w_iinc1 rfl rfl ?_ | refine w_s rfl rfl ?_ | refine w_get rfl rfl rfl rfl ?_ | refine w_nnl rfl ?_ | refine w_nnlR rfl ?_ | refine w_nul rfl ?_ | refine w_nulR rfl ?_ | refine w_ldc rfl rfl ?_ | refine w_ldc2 rfl rfl ?_ | refine w_put rfl rfl rfl (Nat.le_of_ble_eq_true rfl) (Or.inl rfl) rfl rfl ?_))
  refine w_ia rfl rfl rfl (by omega) (by decide) ?_
  refine w_ias rfl rfl rfl (by omega) (by decide) ?_
  (repeat ((fail_if_success (show ax_wp _ _ _ 14 _ _ _)); (first | refine w_iadd1 rfl ?_ | refine w_isub1 rfl ?_ | refine w_iinc1 rfl rfl ?_ | refine w_s rfl rfl ?_ | refine w_get rfl rfl rfl rfl ?_ | refine w_nnl rfl ?_ | refine w_nnlR rfl ?_ | refine w_nul rfl ?_ | refine w_nulR rfl ?_ | refine w_ldc rfl rfl ?_ | refine w_ldc2 rfl rfl ?_ | refine w_put rfl rfl rfl (Nat.le_of_ble_eq_true rfl) (Or.inl rfl) rfl rfl ?_)))
  have h0 := lp 64 0 (by omega)
  have e : ax_cpy m.numbers a b 0 = m.numbers := by
    funext j
    unfold ax_cpy
    rw [if_neg (by omega)]
  rw [e] at h0
  exact w_lv h0 rfl ⟨rfl, rfl, rfl, rfl, trivial⟩
def mp_quote (m : ax_Mo) (k : Int32) (d : Int64) : Value × ax_Mo := if ¬ (0 ≤ k.toInt ∧ k.toInt < m.makers) then (.int 0, (ax_Mo.u_thrown m 1)) else if m.quotes = 10 then (.int (-1), (ax_Mo.u_thrown m 0))
  else (.int (nI m.quotes), (ax_Mo.u_quotes (ax_Mo.u_until_ (ax_Mo.u_quoteMaker (ax_Mo.u_numbers (ax_Mo.u_classes (ax_Mo.u_thrown m 0) (upd m.classes (4 + m.quotes) (m.classes k.toInt.toNat))) (ax_cpy m.numbers k.toInt.toNat (4 + m.quotes) 64)) (upd m.quoteMaker m.quotes k)) (vp_updL m.until_ m.quotes d)) (m.quotes + 1)))
theorem n_quote (hn : m.makers ≤ 4) (hq : m.quotes ≤ 10) (k : Int32) (d : Int64) : ax_run m_Mo_quote [.ref 23, .int k, .long d] (ax_hp L xs c m o pool, u) (ax_mout L xs c o pool u (mp_quote m k d)) := by
  unfold mp_quote
  split
  · rename_i h0
    (refine ax_run_T (ax_T_of M_Mo_quote rfl (Nat.le_of_ble_eq_true rfl) ?_))
    (repeat (first | refine w_iadd1 rfl ?_ | refine w_isub1 rfl ?_ | refine w_iinc1 rfl rfl ?_ | refine w_s rfl rfl ?_ | refine w_get rfl rfl rfl rfl ?_ | refine w_nnl rfl ?_ | refine w_nnlR rfl ?_ | refine w_nul rfl ?_ | refine w_nulR rfl ?_ | refine w_ldc rfl rfl ?_ | refine w_ldc2 rfl rfl ?_ | refine w_put rfl rfl rfl (Nat.le_of_ble_eq_true rfl) (Or.inl rfl) rfl rfl ?_))
    (refine w_cv rfl rfl rfl rfl (by exact Nat.le_of_ble_eq_true rfl) (by exact Nat.le_of_ble_eq_true rfl) (n_isMaker k hn) ?_; dsimp only [Option.toList, List.drop, List.cons_append, List.nil_append])
    refine w_if1 rfl (fun _ => ?_) (fun h5 => absurd (c_eq0.mpr h0) h5)
    (repeat (first | refine w_iadd1 rfl ?_ | refine w_isub1 rfl ?_ | refine w_iinc1 rfl rfl ?_ | refine w_s rfl rfl ?_ | refine w_get rfl rfl rfl rfl ?_ | refine w_nnl rfl ?_ | refine w_nnlR rfl ?_ | refine w_nul rfl ?_ | refine w_nulR rfl ?_ | refine w_ldc rfl rfl ?_ | refine w_ldc2 rfl rfl ?_ | refine w_put rfl rfl rfl (Nat.le_of_ble_eq_true rfl) (Or.inl rfl) rfl rfl ?_))
    refine w_if1 rfl (fun h5 => absurd h5 k_eq1) (fun _ => ?_)
    (repeat (first | refine w_iadd1 rfl ?_ | refine w_isub1 rfl ?_ | refine w_iinc1 rfl rfl ?_ | refine w_s rfl rfl ?_ | refine w_get rfl rfl rfl rfl ?_ | refine w_nnl rfl ?_ | refine w_nnlR rfl ?_ | refine w_nul rfl ?_ | refine w_nulR rfl ?_ | refine w_ldc rfl rfl ?_ | refine w_ldc2 rfl rfl ?_ | refine w_put rfl rfl rfl (Nat.le_of_ble_eq_true rfl) (Or.inl rfl) rfl rfl ?_))
    (refine w_iret rfl rfl rfl ?_)
    rfl
  · rename_i h0
    have h1 := Decidable.not_not.mp h0
    obtain ⟨n, rfl, hn1, hn2⟩ := q_nat (x := k) (by omega)
    have hnn : (nI n).toInt.toNat = n := by rw [← hn1]; rfl
    rw [hnn]
    have hnm : n < m.makers := by omega
    clear hnn hn1
    split
    · rename_i h2
      (refine ax_run_T (ax_T_of M_Mo_quote rfl (Nat.le_of_ble_eq_true rfl) ?_))
      (repeat (first | refine w_iadd1 rfl ?_ | refine w_isub1 rfl ?_ | refine w_iinc1 rfl rfl ?_ | refine w_s rfl rfl ?_ | refine w_get rfl rfl rfl rfl ?_ | refine w_nnl rfl ?_ | refine w_nnlR rfl ?_ | refine w_nul rfl ?_ | refine w_nulR rfl ?_ | refine w_ldc rfl rfl ?_ | refine w_ldc2 rfl rfl ?_ | refine w_put rfl rfl rfl (Nat.le_of_ble_eq_true rfl) (Or.inl rfl) rfl rfl ?_))
      (refine w_cv rfl rfl rfl rfl (by exact Nat.le_of_ble_eq_true rfl) (by exact Nat.le_of_ble_eq_true rfl) (n_isMaker (nI n) hn) ?_; dsimp only [Option.toList, List.drop, List.cons_append, List.nil_append])
      refine w_if1 rfl (fun h5 => absurd h1 (c_eq0.mp h5)) (fun _ => ?_)
      (repeat (first | refine w_iadd1 rfl ?_ | refine w_isub1 rfl ?_ | refine w_iinc1 rfl rfl ?_ | refine w_s rfl rfl ?_ | refine w_get rfl rfl rfl rfl ?_ | refine w_nnl rfl ?_ | refine w_nnlR rfl ?_ | refine w_nul rfl ?_ | refine w_nulR rfl ?_ | refine w_ldc rfl rfl ?_ | refine w_ldc2 rfl rfl ?_ | refine w_put rfl rfl rfl (Nat.le_of_ble_eq_true rfl) (Or.inl rfl) rfl rfl ?_))
      refine w_if1 rfl (fun _ => ?_) (fun h5 => absurd rfl h5)
      (repeat (first | refine w_iadd1 rfl ?_ | refine w_isub1 rfl ?_ | refine w_iinc1 rfl rfl ?_ | refine w_s rfl rfl ?_ | refine w_get rfl rfl rfl rfl ?_ | refine w_nnl rfl ?_ | refine w_nnlR rfl ?_ | refine w_nul rfl ?_ | refine w_nulR rfl ?_ | refine w_ldc rfl rfl ?_ | refine w_ldc2 rfl rfl ?_ | refine w_put rfl rfl rfl (Nat.le_of_ble_eq_true rfl) (Or.inl rfl) rfl rfl ?_))
      refine w_if2 rfl (fun h5 => absurd h2 ((cn_ne (a := m.quotes) (b := 10) (by omega) (by omega)).mp h5)) (fun _ => ?_)
      (repeat (first | refine w_iadd1 rfl ?_ | refine w_isub1 rfl ?_ | refine w_iinc1 rfl rfl ?_ | refine w_s rfl rfl ?_ | refine w_get rfl rfl rfl rfl ?_ | refine w_nnl rfl ?_ | refine w_nnlR rfl ?_ | refine w_nul rfl ?_ | refine w_nulR rfl ?_ | refine w_ldc rfl rfl ?_ | refine w_ldc2 rfl rfl ?_ | refine w_put rfl rfl rfl (Nat.le_of_ble_eq_true rfl) (Or.inl rfl) rfl rfl ?_))
      (refine w_iret rfl rfl rfl ?_)
      rfl
    · rename_i h2
      (refine ax_run_T (ax_T_of M_Mo_quote rfl (Nat.le_of_ble_eq_true rfl) ?_))
      (repeat (first | refine w_iadd1 rfl ?_ | refine w_isub1 rfl ?_ | refine w_iinc1 rfl rfl ?_ | refine w_s rfl rfl ?_ | refine w_get rfl rfl rfl rfl ?_ | refine w_nnl rfl ?_ | refine w_nnlR rfl ?_ | refine w_nul rfl ?_ | refine w_nulR rfl ?_ | refine w_ldc rfl rfl ?_ | refine w_ldc2 rfl rfl ?_ | refine w_put rfl rfl rfl (Nat.le_of_ble_eq_true rfl) (Or.inl rfl) rfl rfl ?_))
      (refine w_cv rfl rfl rfl rfl (by exact Nat.le_of_ble_eq_true rfl) (by exact Nat.le_of_ble_eq_true rfl) (n_isMaker (nI n) hn) ?_; dsimp only [Option.toList, List.drop, List.cons_append, List.nil_append])
      refine w_if1 rfl (fun h5 => absurd h1 (c_eq0.mp h5)) (fun _ => ?_)
      (repeat (first | refine w_iadd1 rfl ?_ | refine w_isub1 rfl ?_ | refine w_iinc1 rfl rfl ?_ | refine w_s rfl rfl ?_ | refine w_get rfl rfl rfl rfl ?_ | refine w_nnl rfl ?_ | refine w_nnlR rfl ?_ | refine w_nul rfl ?_ | refine w_nulR rfl ?_ | refine w_ldc rfl rfl ?_ | refine w_ldc2 rfl rfl ?_ | refine w_put rfl rfl rfl (Nat.le_of_ble_eq_true rfl) (Or.inl rfl) rfl rfl ?_))
      refine w_if1 rfl (fun _ => ?_) (fun h5 => absurd rfl h5)
      (repeat (first | refine w_iadd1 rfl ?_ | refine w_isub1 rfl ?_ | refine w_iinc1 rfl rfl ?_ | refine w_s rfl rfl ?_ | refine w_get rfl rfl rfl rfl ?_ | refine w_nnl rfl ?_ | refine w_nnlR rfl ?_ | refine w_nul rfl ?_ | refine w_nulR rfl ?_ | refine w_ldc rfl rfl ?_ | refine w_ldc2 rfl rfl ?_ | refine w_put rfl rfl rfl (Nat.le_of_ble_eq_true rfl) (Or.inl rfl) rfl rfl ?_))
      refine w_if2 rfl (fun _ => ?_) (fun h5 => absurd ((cn_ne (a := m.quotes) (b := 10) (by omega) (by omega)).mpr h2) h5)
      (repeat ((fail_if_success (show ax_wp _ _ _ 45 _ _ _)); (first | refine w_iadd1 rfl ?_ | refine w_isub1 rfl ?_ | refine w_iinc1 rfl rfl ?_ | refine w_s rfl rfl ?_ | refine w_get rfl rfl rfl rfl ?_ | refine w_nnl rfl ?_ | refine w_nnlR rfl ?_ | refine w_nul rfl ?_ | refine w_nulR rfl ?_ | refine w_ldc rfl rfl ?_ | refine w_ldc2 rfl rfl ?_ | refine w_put rfl rfl rfl (Nat.le_of_ble_eq_true rfl) (Or.inl rfl) rfl rfl ?_)))
      refine w_eqI (y := nI (4 + m.quotes)) (by (simp only [kb6, kb7, kb8, kb9, kb16, ki0, ki1, ki2, ki3, ki4, ki5, nI_addR, nI_mulR]; try (congr 1; omega))) ?_
      (refine w_cv rfl rfl rfl rfl (by exact Nat.le_of_ble_eq_true rfl) (by exact Nat.le_of_ble_eq_true rfl) (n_copy (m := (ax_Mo.u_thrown m 0)) n (4 + m.quotes) (by omega) (by omega) (by omega)) ?_; dsimp only [Option.toList, List.drop, List.cons_append, List.nil_append])
      (repeat (first | refine w_iadd1 rfl ?_ | refine w_isub1 rfl ?_ | refine w_iinc1 rfl rfl ?_ | refine w_s rfl rfl ?_ | refine w_get rfl rfl rfl rfl ?_ | refine w_nnl rfl ?_ | refine w_nnlR rfl ?_ | refine w_nul rfl ?_ | refine w_nulR rfl ?_ | refine w_ldc rfl rfl ?_ | refine w_ldc2 rfl rfl ?_ | refine w_put rfl rfl rfl (Nat.le_of_ble_eq_true rfl) (Or.inl rfl) rfl rfl ?_))
      refine w_ias rfl rfl rfl (by show m.quotes < 10; omega) (by decide) ?_
      (repeat (first | refine w_iadd1 rfl ?_ | refine w_isub1 rfl ?_ | refine w_iinc1 rfl rfl ?_ | refine w_s rfl rfl ?_ | refine w_get rfl rfl rfl rfl ?_ | refine w_nnl rfl ?_ | refine w_nnlR rfl ?_ | refine w_nul rfl ?_ | refine w_nulR rfl ?_ | refine w_ldc rfl rfl ?_ | refine w_ldc2 rfl rfl ?_ | refine w_put rfl rfl rfl (Nat.le_of_ble_eq_true rfl) (Or.inl rfl) rfl rfl ?_))
      refine w_las rfl rfl rfl (by show m.quotes < 10; omega) (by decide) ?_
      (repeat (first | refine w_iadd1 rfl ?_ | refine w_isub1 rfl ?_ | refine w_iinc1 rfl rfl ?_ | refine w_s rfl rfl ?_ | refine w_get rfl rfl rfl rfl ?_ | refine w_nnl rfl ?_ | refine w_nnlR rfl ?_ | refine w_nul rfl ?_ | refine w_nulR rfl ?_ | refine w_ldc rfl rfl ?_ | refine w_ldc2 rfl rfl ?_ | refine w_put rfl rfl rfl (Nat.le_of_ble_eq_true rfl) (Or.inl rfl) rfl rfl ?_))
      (refine w_iret rfl rfl rfl ?_)
      rfl
end MH
