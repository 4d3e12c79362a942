/-- how the reference's maker ends -/
def QN (L : Nat) (xs : Nat → Int32) (c : ax_St) (m : ax_Mo) (o : Nat → Int64) (pool : List (Option ax_C)) (u : Nat) (q : Nat ⊕ (Nat × Nat × (Nat → ax_Rw))) (r : ax_R) : Prop := match q with
  | .inl e => ∃ (a : Nat) (w : Int32) (C' : Nat → Int32) (N' : Nat → Int64), r = (.inl (some (.int (Int32.ofInt (-1) - nI e))), (ax_hp L xs c (ax_mu (ax_Mo.u_units (ax_Mo.u_classes (ax_Mo.u_thrown m 0) C') 0) a w N') o pool, u)) ∧ (∀ x, x < 896 → N' x = m.numbers x) ∧ (∀ x, x < 14 → C' x = m.classes x)
  | .inr (k, n, ds) => ∃ (a : Nat) (w : Int32) (C' : Nat → Int32) (N' : Nat → Int64), r = (.inl (some (.int (nI k))), (ax_hp L xs c (ax_mu (ax_Mo.u_makers (ax_Mo.u_units (ax_Mo.u_classes (ax_Mo.u_thrown m 0) C') 0) (max m.makers (k + 1))) a w N') o pool, u)) ∧ k ≤ m.makers ∧ k < 4 ∧ (∀ x, x < 896 → ¬ (64 * k ≤ x ∧ x < 64 * k + 64) → N' x = m.numbers x) ∧ (∀ x, x < 14 → ¬ x = k → C' x = m.classes x) ∧ C' k = nI n ∧ ∀ j, j < n → RowIs N' (64 * k + 16 * j) (ds j)
section MG
variable {L : Nat} {xs : Nat → Int32} {c : ax_St} {m : ax_Mo} {o : Nat → Int64} {pool : List (Option ax_C)} {u : Nat} {Q : ax_R → Prop}
/-- the loop over the CLASSES -/
theorem n_makerLoop {C0 : Nat → Int32} {N0 : Nat → Int64} {x : Int32} (hu : m.units ≤ 400) : ∀ (k i p : Nat) (ds : Nat → ax_Rw) (N : Nat → Int64) (C' : Nat → Int32), i + k = 5 → i ≤ 4 → p ≤ m.units → (∀ x, x < 896 → N x = N0 x) → (∀ x, x < 14 → C' x = C0 x) → (∀ j, j < i → gok (ds j) ∧ RowIs N (896 + 16 * j) (ds j)) →
      (match ro m.units m.text k i p ds with
        | .inl e => ∀ (a : Nat) (N'' : Nat → Int64) (C'' : Nat → Int32), e ≤ 400 → (∀ x, x < 896 → N'' x = N0 x) → (∀ x, x < 14 → C'' x = C0 x) → ax_wp ax_run M_Mo_maker Q 124 [(0, .ref 23), (1, .int x)] [] (ax_hp L xs c (ax_mu (ax_Mo.u_classes m C'') a (nI e) N'') o pool, u)
        | .inr (n, ds') => ∀ (a : Nat) (N'' : Nat → Int64) (C'' : Nat → Int32), n ≤ 4 → (∀ x, x < 896 → N'' x = N0 x) → (∀ x, x < 14 → C'' x = C0 x) → C'' 14 = nI n → (∀ j, j < n → gok (ds' j) ∧ RowIs N'' (896 + 16 * j) (ds' j)) → ax_wp ax_run M_Mo_maker Q 124 [(0, .ref 23), (1, .int x)] [] (ax_hp L xs c (ax_mu (ax_Mo.u_classes m C'') a (Int32.ofInt (-1)) N'') o pool, u)) →
      ax_wp ax_run M_Mo_maker Q 113 [(0, .ref 23), (1, .int x), (2, .int (nI i))] [] (ax_hp L xs c (ax_mu (ax_Mo.u_classes m C') p (Int32.ofInt (-1)) N) o pool, u) := by
  intro k
  induction k with
  | zero => intro i p ds N C' h1 h2; omega
  | succ k ih =>
    intro i p ds N C' h1 h2 hp hN hC hrow K
    obtain ⟨r1, hr1, hq0⟩ := n_readClass (L := L) (xs := xs) (c := c) (m := (ax_Mo.u_classes m C')) (o := o) (pool := pool) (u := u) hu i p h2 hp N
    have hq : QR L xs c (ax_Mo.u_classes m C') o pool u i p N (rg m.units m.text p) r1 := hq0
    clear hq0
    have hle := rg_le m.units m.text p hp
    have e0 : ro m.units m.text (k + 1) i p ds = (match rg m.units m.text p with | .inl e => .inl e | .inr (t, d) => if ¬ (gok d ∧ i < 4) then .inl p else if m.units ≤ t then .inr (i + 1, va_up ds i d) else ro m.units m.text k (i + 1) t (va_up ds i d)) := rfl
    rw [e0] at K
    clear e0
    generalize rg m.units m.text p = RG at hq hle K
    (repeat (first | refine w_iadd1 rfl ?_ | refine w_isub1 rfl ?_ | refine w_iinc1 rfl rfl ?_ | refine w_s rfl rfl ?_ | refine w_get rfl rfl rfl rfl ?_ | refine w_nnl rfl ?_ | refine w_nnlR rfl ?_ | refine w_nul rfl ?_ | refine w_nulR rfl ?_ | refine w_ldc rfl rfl ?_ | refine w_ldc2 rfl rfl ?_ | refine w_put rfl rfl rfl (Nat.le_of_ble_eq_true rfl) (Or.inl rfl) rfl rfl ?_))
    cases RG with
    | inl e =>
      have hle' : e ≤ m.units := hle
      obtain ⟨a, N', rfl, hN'⟩ := hq
      have K' : ∀ (a : Nat) (N'' : Nat → Int64) (C'' : Nat → Int32), e ≤ 400 → (∀ x, x < 896 → N'' x = N0 x) → (∀ x, x < 14 → C'' x = C0 x) → ax_wp ax_run M_Mo_maker Q 124 [(0, .ref 23), (1, .int x)] [] (ax_hp L xs c (ax_mu (ax_Mo.u_classes m C'') a (nI e) N'') o pool, u) := K
      (refine w_cv rfl rfl rfl rfl (by exact Nat.le_of_ble_eq_true rfl) (by exact Nat.le_of_ble_eq_true rfl) hr1 ?_; dsimp only [Option.toList, List.drop, List.cons_append, List.nil_append, e_pl1, e_pl2, e_pl3])
      (repeat (first | refine w_iadd1 rfl ?_ | refine w_isub1 rfl ?_ | refine w_iinc1 rfl rfl ?_ | refine w_s rfl rfl ?_ | refine w_get rfl rfl rfl rfl ?_ | refine w_nnl rfl ?_ | refine w_nnlR rfl ?_ | refine w_nul rfl ?_ | refine w_nulR rfl ?_ | refine w_ldc rfl rfl ?_ | refine w_ldc2 rfl rfl ?_ | refine w_put rfl rfl rfl (Nat.le_of_ble_eq_true rfl) (Or.inl rfl) rfl rfl ?_))
      refine w_if2 rfl (fun _ => ?_) (fun h5 => absurd (nI_ne (q := e) (by omega)) h5)
      exact w_lv (K' a N' C' (by omega) (fun x hx => (hN' x hx).trans (hN x hx)) hC) rfl ⟨rfl, rfl, trivial⟩
    | inr td =>
      obtain ⟨t, d⟩ := td
      have hle' : t ≤ m.units := hle
      by_cases hg : gok d ∧ i < 4
      · obtain ⟨N', rfl, hN', hrow'⟩ := hq.1 hg
        have K1 : match (if m.units ≤ t then (.inr (i + 1, va_up ds i d) : Nat ⊕ (Nat × (Nat → ax_Rw))) else ro m.units m.text k (i + 1) t (va_up ds i d)) with
            | .inl e => ∀ (a : Nat) (N'' : Nat → Int64) (C'' : Nat → Int32), e ≤ 400 → (∀ x, x < 896 → N'' x = N0 x) → (∀ x, x < 14 → C'' x = C0 x) → ax_wp ax_run M_Mo_maker Q 124 [(0, .ref 23), (1, .int x)] [] (ax_hp L xs c (ax_mu (ax_Mo.u_classes m C'') a (nI e) N'') o pool, u)
            | .inr (n, ds') => ∀ (a : Nat) (N'' : Nat → Int64) (C'' : Nat → Int32), n ≤ 4 → (∀ x, x < 896 → N'' x = N0 x) → (∀ x, x < 14 → C'' x = C0 x) → C'' 14 = nI n → (∀ j, j < n → gok (ds' j) ∧ RowIs N'' (896 + 16 * j) (ds' j)) → ax_wp ax_run M_Mo_maker Q 124 [(0, .ref 23), (1, .int x)] [] (ax_hp L xs c (ax_mu (ax_Mo.u_classes m C'') a (Int32.ofInt (-1)) N'') o pool, u) := by
          have e1 : (if ¬ (gok d ∧ i < 4) then (.inl p : Nat ⊕ (Nat × (Nat → ax_Rw))) else if m.units ≤ t then .inr (i + 1, va_up ds i d) else ro m.units m.text k (i + 1) t (va_up ds i d)) = (if m.units ≤ t then .inr (i + 1, va_up ds i d) else ro m.units m.text k (i + 1) t (va_up ds i d)) := if_neg (fun z => z hg)
          rw [← e1]
          exact K
        clear K
        have hN2 : ∀ x, x < 896 → N' x = N0 x := fun x hx => (hN' x (by omega)).trans (hN x hx)
        have hC2 : ∀ x, x < 14 → upd C' 14 (nI (i + 1)) x = C0 x := by
          intro x hx
          unfold upd
          rw [if_neg (by omega)]
          exact hC x hx
        have hC3 : upd C' 14 (nI (i + 1)) 14 = nI (i + 1) := by
          unfold upd
          rw [if_pos rfl]
        have hrow2 : ∀ j, j < i + 1 → gok (va_up ds i d j) ∧ RowIs N' (896 + 16 * j) (va_up ds i d j) := by
          intro j hj
          by_cases hji : j = i
          · subst hji
            rw [va_up_self]
            exact ⟨hg.1, hrow'⟩
          · rw [va_up_ne _ _ hji]
            have := hrow j (by omega)
            exact ⟨this.1, this.2.eqv (gok_s this.1) (fun y hy => hN' _ (by omega))⟩
        (refine w_cv rfl rfl rfl rfl (by exact Nat.le_of_ble_eq_true rfl) (by exact Nat.le_of_ble_eq_true rfl) hr1 ?_; dsimp only [Option.toList, List.drop, List.cons_append, List.nil_append, e_pl1, e_pl2, e_pl3])
        (repeat (first | refine w_iadd1 rfl ?_ | refine w_isub1 rfl ?_ | refine w_iinc1 rfl rfl ?_ | refine w_s rfl rfl ?_ | refine w_get rfl rfl rfl rfl ?_ | refine w_nnl rfl ?_ | refine w_nnlR rfl ?_ | refine w_nul rfl ?_ | refine w_nulR rfl ?_ | refine w_ldc rfl rfl ?_ | refine w_ldc2 rfl rfl ?_ | refine w_put rfl rfl rfl (Nat.le_of_ble_eq_true rfl) (Or.inl rfl) rfl rfl ?_))
        refine w_if2 rfl (fun h5 => absurd rfl h5) (fun _ => ?_)
        (repeat (first | refine w_iadd1 rfl ?_ | refine w_isub1 rfl ?_ | refine w_iinc1 rfl rfl ?_ | refine w_s rfl rfl ?_ | refine w_get rfl rfl rfl rfl ?_ | refine w_nnl rfl ?_ | refine w_nnlR rfl ?_ | refine w_nul rfl ?_ | refine w_nulR rfl ?_ | refine w_ldc rfl rfl ?_ | refine w_ldc2 rfl rfl ?_ | refine w_put rfl rfl rfl (Nat.le_of_ble_eq_true rfl) (Or.inl rfl) rfl rfl ?_))
        refine w_if1 rfl (fun h5 => ?_) (fun _ => ?_)
        · have := congrArg Int32.toInt (show nI (i + 1) = 0 from h5)
          rw [q_nI' (by omega)] at this
          have h7 : ((i + 1 : Nat) : Int) = 0 := this
          omega
        (repeat (first | refine w_iadd1 rfl ?_ | refine w_isub1 rfl ?_ | refine w_iinc1 rfl rfl ?_ | refine w_s rfl rfl ?_ | refine w_get rfl rfl rfl rfl ?_ | refine w_nnl rfl ?_ | refine w_nnlR rfl ?_ | refine w_nul rfl ?_ | refine w_nulR rfl ?_ | refine w_ldc rfl rfl ?_ | refine w_ldc2 rfl rfl ?_ | refine w_put rfl rfl rfl (Nat.le_of_ble_eq_true rfl) (Or.inl rfl) rfl rfl ?_))
        by_cases hend : m.units ≤ t
        · rw [if_pos hend] at K1
          have K' : ∀ (a : Nat) (N'' : Nat → Int64) (C'' : Nat → Int32), i + 1 ≤ 4 → (∀ x, x < 896 → N'' x = N0 x) → (∀ x, x < 14 → C'' x = C0 x) → C'' 14 = nI (i + 1) → (∀ j, j < i + 1 → gok (va_up ds i d j) ∧ RowIs N'' (896 + 16 * j) (va_up ds i d j)) → ax_wp ax_run M_Mo_maker Q 124 [(0, .ref 23), (1, .int x)] [] (ax_hp L xs c (ax_mu (ax_Mo.u_classes m C'') a (Int32.ofInt (-1)) N'') o pool, u) := K1
          refine w_if2 rfl (fun _ => ?_) (fun h5 => absurd ((cn_ge (a := t) (b := m.units) (by omega) (by omega)).mpr hend) h5)
          exact w_lv (K' t N' (upd C' 14 (nI (i + 1))) (by omega) hN2 hC2 hC3 hrow2) rfl ⟨rfl, rfl, trivial⟩
        · rw [if_neg hend] at K1
          refine w_if2 rfl (fun h5 => absurd ((cn_ge (a := t) (b := m.units) (by omega) (by omega)).mp h5) hend) (fun _ => ?_)
          exact w_lv (ih (i + 1) t (va_up ds i d) N' (upd C' 14 (nI (i + 1))) (by omega) (by omega) hle' hN2 hC2 hrow2 K1) rfl ⟨rfl, rfl, rfl, trivial⟩
      · obtain ⟨a, N', rfl, hN'⟩ := hq.2 hg
        have K' : ∀ (a : Nat) (N'' : Nat → Int64) (C'' : Nat → Int32), p ≤ 400 → (∀ x, x < 896 → N'' x = N0 x) → (∀ x, x < 14 → C'' x = C0 x) → ax_wp ax_run M_Mo_maker Q 124 [(0, .ref 23), (1, .int x)] [] (ax_hp L xs c (ax_mu (ax_Mo.u_classes m C'') a (nI p) N'') o pool, u) := by
          have e1 : (if ¬ (gok d ∧ i < 4) then (.inl p : Nat ⊕ (Nat × (Nat → ax_Rw))) else if m.units ≤ t then .inr (i + 1, va_up ds i d) else ro m.units m.text k (i + 1) t (va_up ds i d)) = .inl p := if_pos hg
          have K2 : match (if ¬ (gok d ∧ i < 4) then (.inl p : Nat ⊕ (Nat × (Nat → ax_Rw))) else if m.units ≤ t then .inr (i + 1, va_up ds i d) else ro m.units m.text k (i + 1) t (va_up ds i d)) with
            | .inl e => ∀ (a : Nat) (N'' : Nat → Int64) (C'' : Nat → Int32), e ≤ 400 → (∀ x, x < 896 → N'' x = N0 x) → (∀ x, x < 14 → C'' x = C0 x) → ax_wp ax_run M_Mo_maker Q 124 [(0, .ref 23), (1, .int x)] [] (ax_hp L xs c (ax_mu (ax_Mo.u_classes m C'') a (nI e) N'') o pool, u)
            | .inr (n, ds') => ∀ (a : Nat) (N'' : Nat → Int64) (C'' : Nat → Int32), n ≤ 4 → (∀ x, x < 896 → N'' x = N0 x) → (∀ x, x < 14 → C'' x = C0 x) → C'' 14 = nI n → (∀ j, j < n → gok (ds' j) ∧ RowIs N'' (896 + 16 * j) (ds' j)) → ax_wp ax_run M_Mo_maker Q 124 [(0, .ref 23), (1, .int x)] [] (ax_hp L xs c (ax_mu (ax_Mo.u_classes m C'') a (Int32.ofInt (-1)) N'') o pool, u) := K
          rw [e1] at K2
          exact K2
        (refine w_cv rfl rfl rfl rfl (by exact Nat.le_of_ble_eq_true rfl) (by exact Nat.le_of_ble_eq_true rfl) hr1 ?_; dsimp only [Option.toList, List.drop, List.cons_append, List.nil_append, e_pl1, e_pl2, e_pl3])
        (repeat (first | refine w_iadd1 rfl ?_ | refine w_isub1 rfl ?_ | refine w_iinc1 rfl rfl ?_ | refine w_s rfl rfl ?_ | refine w_get rfl rfl rfl rfl ?_ | refine w_nnl rfl ?_ | refine w_nnlR rfl ?_ | refine w_nul rfl ?_ | refine w_nulR rfl ?_ | refine w_ldc rfl rfl ?_ | refine w_ldc2 rfl rfl ?_ | refine w_put rfl rfl rfl (Nat.le_of_ble_eq_true rfl) (Or.inl rfl) rfl rfl ?_))
        refine w_if2 rfl (fun _ => ?_) (fun h5 => absurd (nI_ne (q := p) (by omega)) h5)
        exact w_lv (K' a N' C' (by omega) (fun x hx => (hN' x hx).trans (hN x hx)) hC) rfl ⟨rfl, rfl, trivial⟩
theorem n_maker (hu : m.units ≤ 400) (hm : m.makers ≤ 4) : ax_T m_Mo_maker [.ref 23] (ax_hp L xs c m o pool, u) (QN L xs c m o pool u (mk m.units m.text m.makers)) := by
  have fl : ∀ (e a : Nat) (N'' : Nat → Int64) (C'' : Nat → Int32) (x : Int32), e ≤ 400 → (∀ x, x < 896 → N'' x = m.numbers x) → (∀ x, x < 14 → C'' x = m.classes x) → ax_wp ax_run M_Mo_maker (QN L xs c m o pool u (.inl e)) 124 [(0, .ref 23), (1, .int x)] [] (ax_hp L xs c (ax_mu (ax_Mo.u_classes (ax_Mo.u_thrown m 0) C'') a (nI e) N'') o pool, u) := by
    intro e a N'' C'' x he hN hC
    (repeat (first | refine w_iadd1 rfl ?_ | refine w_isub1 rfl ?_ | refine w_iinc1 rfl rfl ?_ | refine w_s rfl rfl ?_ | refine w_get rfl rfl rfl rfl ?_ | refine w_nnl rfl ?_ | refine w_nnlR rfl ?_ | refine w_nul rfl ?_ | refine w_nulR rfl ?_ | refine w_ldc rfl rfl ?_ | refine w_ldc2 rfl rfl ?_ | refine w_put rfl rfl rfl (Nat.le_of_ble_eq_true rfl) (Or.inl rfl) rfl rfl ?_))
    refine w_if2 rfl (fun h5 => absurd h5 (nI_ne (q := e) (by omega))) (fun _ => ?_)
    (repeat ((fail_if_success (show ax_wp _ _ _ 142 _ _ _)); (first | refine w_iadd1 rfl ?_ | refine w_isub1 rfl ?_ | refine w_iinc1 rfl rfl ?_ | refine w_s rfl rfl ?_ | refine w_get rfl rfl rfl rfl ?_ | refine w_nnl rfl ?_ | refine w_nnlR rfl ?_ | refine w_nul rfl ?_ | refine w_nulR rfl ?_ | refine w_ldc rfl rfl ?_ | refine w_ldc2 rfl rfl ?_ | refine w_put rfl rfl rfl (Nat.le_of_ble_eq_true rfl) (Or.inl rfl) rfl rfl ?_)))
    obtain ⟨z, hz⟩ : ∃ z, z = Int32.ofInt (-1) - nI e := ⟨_, rfl⟩
    refine w_s rfl rfl ?_
    refine w_eqI (y := z) hz.symm ?_
    (refine w_iret rfl rfl rfl ?_)
    exact ⟨a, nI e, C'', N'', by rw [hz]; rfl, hN, hC⟩
  have dead : ∀ (e a : Nat) (x : Int32), e ≤ 400 → ax_wp ax_run M_Mo_maker (QN L xs c m o pool u (.inl e)) 78 [(0, .ref 23), (1, .int x)] [] (ax_hp L xs c (ax_mu (ax_Mo.u_thrown m 0) a (nI e) m.numbers) o pool, u) := by
    intro e a x he
    (repeat (first | refine w_iadd1 rfl ?_ | refine w_isub1 rfl ?_ | refine w_iinc1 rfl rfl ?_ | refine w_s rfl rfl ?_ | refine w_get rfl rfl rfl rfl ?_ | refine w_nnl rfl ?_ | refine w_nnlR rfl ?_ | refine w_nul rfl ?_ | refine w_nulR rfl ?_ | refine w_ldc rfl rfl ?_ | refine w_ldc2 rfl rfl ?_ | refine w_put rfl rfl rfl (Nat.le_of_ble_eq_true rfl) (Or.inl rfl) rfl rfl ?_))
    refine w_if2 rfl (fun _ => ?_) (fun h5 => absurd (nI_ne (q := e) (by omega)) h5)
    exact w_lv (fl e (a + 1) m.numbers m.classes x he (fun _ _ => rfl) (fun _ _ => rfl)) rfl ⟨rfl, rfl, trivial⟩
  have d52 : ∀ (e a : Nat) (x : Int32), e ≤ 400 → ax_wp ax_run M_Mo_maker (QN L xs c m o pool u (.inl e)) 52 [(0, .ref 23), (1, .int x)] [] (ax_hp L xs c (ax_mu (ax_Mo.u_thrown m 0) a (nI e) m.numbers) o pool, u) := by
    intro e a x he
    (repeat (first | refine w_iadd1 rfl ?_ | refine w_isub1 rfl ?_ | refine w_iinc1 rfl rfl ?_ | refine w_s rfl rfl ?_ | refine w_get rfl rfl rfl rfl ?_ | refine w_nnl rfl ?_ | refine w_nnlR rfl ?_ | refine w_nul rfl ?_ | refine w_nulR rfl ?_ | refine w_ldc rfl rfl ?_ | refine w_ldc2 rfl rfl ?_ | refine w_put rfl rfl rfl (Nat.le_of_ble_eq_true rfl) (Or.inl rfl) rfl rfl ?_))
    refine w_if2 rfl (fun _ => ?_) (fun h5 => absurd (nI_ne (q := e) (by omega)) h5)
    exact dead e a x he
  (refine ax_T_of M_Mo_maker rfl (Nat.le_of_ble_eq_true rfl) ?_)
  (repeat (first | refine w_iadd1 rfl ?_ | refine w_isub1 rfl ?_ | refine w_iinc1 rfl rfl ?_ | refine w_s rfl rfl ?_ | refine w_get rfl rfl rfl rfl ?_ | refine w_nnl rfl ?_ | refine w_nnlR rfl ?_ | refine w_nul rfl ?_ | refine w_nulR rfl ?_ | refine w_ldc rfl rfl ?_ | refine w_ldc2 rfl rfl ?_ | refine w_put rfl rfl rfl (Nat.le_of_ble_eq_true rfl) (Or.inl rfl) rfl rfl ?_))
  unfold mk
  by_cases h1 : nx m.units m.text 0 = 77
  · rw [if_neg (fun z => z h1)]
    (refine w_cv rfl rfl rfl rfl (by exact Nat.le_of_ble_eq_true rfl) (by exact Nat.le_of_ble_eq_true rfl) (n_expect1 (m := (ax_Mo.u_thrown m 0)) hu 0 (by omega) m.numbers (Int8.ofInt 77).toInt32 h1) ?_; dsimp only [Option.toList, List.drop, List.cons_append, List.nil_append, e_pl1, e_pl2, e_pl3])
    (repeat (first | refine w_iadd1 rfl ?_ | refine w_isub1 rfl ?_ | refine w_iinc1 rfl rfl ?_ | refine w_s rfl rfl ?_ | refine w_get rfl rfl rfl rfl ?_ | refine w_nnl rfl ?_ | refine w_nnlR rfl ?_ | refine w_nul rfl ?_ | refine w_nulR rfl ?_ | refine w_ldc rfl rfl ?_ | refine w_ldc2 rfl rfl ?_ | refine w_put rfl rfl rfl (Nat.le_of_ble_eq_true rfl) (Or.inl rfl) rfl rfl ?_))
    (refine w_cv rfl rfl rfl rfl (by exact Nat.le_of_ble_eq_true rfl) (by exact Nat.le_of_ble_eq_true rfl) (n_now (m := (ax_Mo.u_thrown m 0)) hu 1 (by omega) (Int32.ofInt (-1)) m.numbers) ?_; dsimp only [Option.toList, List.drop, List.cons_append, List.nil_append, e_pl1, e_pl2, e_pl3])
    (repeat ((fail_if_success (show ax_wp _ _ _ 28 _ _ _)); (first | refine w_iadd1 rfl ?_ | refine w_isub1 rfl ?_ | refine w_iinc1 rfl rfl ?_ | refine w_s rfl rfl ?_ | refine w_get rfl rfl rfl rfl ?_ | refine w_nnl rfl ?_ | refine w_nnlR rfl ?_ | refine w_nul rfl ?_ | refine w_nulR rfl ?_ | refine w_ldc rfl rfl ?_ | refine w_ldc2 rfl rfl ?_ | refine w_put rfl rfl rfl (Nat.le_of_ble_eq_true rfl) (Or.inl rfl) rfl rfl ?_)))
    by_cases h2 : dg m.units m.text 1
    · rw [if_neg (fun z => z h2)]
      obtain ⟨e, he, he2, -⟩ := q_nat (x := nx m.units m.text 1) (by have := h2.1; omega)
      have h7 := h2.1
      have h8 := h2.2
      have hlt := dg_lt h2
      rw [show (nx m.units m.text 1).toInt.toNat = e by omega]
      refine w_eqI (y := nI (e - 48)) (q_dig2 e (nx m.units m.text 1) (by omega) (by omega) (by omega)) ?_
      generalize hk : e - 48 = kk
      (repeat (first | refine w_iadd1 rfl ?_ | refine w_isub1 rfl ?_ | refine w_iinc1 rfl rfl ?_ | refine w_s rfl rfl ?_ | refine w_get rfl rfl rfl rfl ?_ | refine w_nnl rfl ?_ | refine w_nnlR rfl ?_ | refine w_nul rfl ?_ | refine w_nulR rfl ?_ | refine w_ldc rfl rfl ?_ | refine w_ldc2 rfl rfl ?_ | refine w_put rfl rfl rfl (Nat.le_of_ble_eq_true rfl) (Or.inl rfl) rfl rfl ?_))
      refine w_if2 rfl (fun h5 => absurd rfl h5) (fun _ => ?_)
      (repeat (first | refine w_iadd1 rfl ?_ | refine w_isub1 rfl ?_ | refine w_iinc1 rfl rfl ?_ | refine w_s rfl rfl ?_ | refine w_get rfl rfl rfl rfl ?_ | refine w_nnl rfl ?_ | refine w_nnlR rfl ?_ | refine w_nul rfl ?_ | refine w_nulR rfl ?_ | refine w_ldc rfl rfl ?_ | refine w_ldc2 rfl rfl ?_ | refine w_put rfl rfl rfl (Nat.le_of_ble_eq_true rfl) (Or.inl rfl) rfl rfl ?_))
      (refine w_cv rfl rfl rfl rfl (by exact Nat.le_of_ble_eq_true rfl) (by exact Nat.le_of_ble_eq_true rfl) (n_isDigit (m := (ax_Mo.u_thrown m 0)) hu 1 (by omega) (Int32.ofInt (-1)) m.numbers) ?_; dsimp only [Option.toList, List.drop, List.cons_append, List.nil_append, e_pl1, e_pl2, e_pl3])
      refine w_if1 rfl (fun _ => ?_) (fun h5 => absurd (c_ne0.mpr h2) h5)
      (repeat (first | refine w_iadd1 rfl ?_ | refine w_isub1 rfl ?_ | refine w_iinc1 rfl rfl ?_ | refine w_s rfl rfl ?_ | refine w_get rfl rfl rfl rfl ?_ | refine w_nnl rfl ?_ | refine w_nnlR rfl ?_ | refine w_nul rfl ?_ | refine w_nulR rfl ?_ | refine w_ldc rfl rfl ?_ | refine w_ldc2 rfl rfl ?_ | refine w_put rfl rfl rfl (Nat.le_of_ble_eq_true rfl) (Or.inl rfl) rfl rfl ?_))
      refine w_if2 rfl (fun h5 => absurd rfl h5) (fun _ => ?_)
      (repeat (first | refine w_iadd1 rfl ?_ | refine w_isub1 rfl ?_ | refine w_iinc1 rfl rfl ?_ | refine w_s rfl rfl ?_ | refine w_get rfl rfl rfl rfl ?_ | refine w_nnl rfl ?_ | refine w_nnlR rfl ?_ | refine w_nul rfl ?_ | refine w_nulR rfl ?_ | refine w_ldc rfl rfl ?_ | refine w_ldc2 rfl rfl ?_ | refine w_put rfl rfl rfl (Nat.le_of_ble_eq_true rfl) (Or.inl rfl) rfl rfl ?_))
      by_cases h3 : m.makers < kk ∨ 4 ≤ kk
      · rw [if_pos h3]
        have d73 : ax_wp ax_run M_Mo_maker (QN L xs c m o pool u (.inl 0)) 73 [(0, .ref 23), (1, .int (nI kk))] [] (ax_hp L xs c (ax_mu (ax_Mo.u_thrown m 0) 1 (Int32.ofInt (-1)) m.numbers) o pool, u) := by
          (repeat ((fail_if_success (show ax_wp _ _ _ 78 _ _ _)); (first | refine w_iadd1 rfl ?_ | refine w_isub1 rfl ?_ | refine w_iinc1 rfl rfl ?_ | refine w_s rfl rfl ?_ | refine w_get rfl rfl rfl rfl ?_ | refine w_nnl rfl ?_ | refine w_nnlR rfl ?_ | refine w_nul rfl ?_ | refine w_nulR rfl ?_ | refine w_ldc rfl rfl ?_ | refine w_ldc2 rfl rfl ?_ | refine w_put rfl rfl rfl (Nat.le_of_ble_eq_true rfl) (Or.inl rfl) rfl rfl ?_)))
          exact dead 0 1 (nI kk) (by omega)
        refine w_if2 rfl (fun _ => w_lv d73 rfl ⟨rfl, rfl, trivial⟩) (fun h5 => ?_)
        have h6 : ¬ m.makers < kk := fun z => h5 ((cn_lt (a := m.makers) (b := kk) (by omega) (by omega)).mpr z)
        (repeat (first | refine w_iadd1 rfl ?_ | refine w_isub1 rfl ?_ | refine w_iinc1 rfl rfl ?_ | refine w_s rfl rfl ?_ | refine w_get rfl rfl rfl rfl ?_ | refine w_nnl rfl ?_ | refine w_nnlR rfl ?_ | refine w_nul rfl ?_ | refine w_nulR rfl ?_ | refine w_ldc rfl rfl ?_ | refine w_ldc2 rfl rfl ?_ | refine w_put rfl rfl rfl (Nat.le_of_ble_eq_true rfl) (Or.inl rfl) rfl rfl ?_))
        refine w_if2 rfl (fun h5 => ?_) (fun _ => w_lv d73 rfl ⟨rfl, rfl, trivial⟩)
        have h9 := (cn_ge (a := 3) (b := kk) (by omega) (by omega)).mp h5
        omega
      · rw [if_neg h3]
        refine w_if2 rfl (fun h5 => absurd ((cn_lt (a := m.makers) (b := kk) (by omega) (by omega)).mp h5) (by omega)) (fun _ => ?_)
        (repeat (first | refine w_iadd1 rfl ?_ | refine w_isub1 rfl ?_ | refine w_iinc1 rfl rfl ?_ | refine w_s rfl rfl ?_ | refine w_get rfl rfl rfl rfl ?_ | refine w_nnl rfl ?_ | refine w_nnlR rfl ?_ | refine w_nul rfl ?_ | refine w_nulR rfl ?_ | refine w_ldc rfl rfl ?_ | refine w_ldc2 rfl rfl ?_ | refine w_put rfl rfl rfl (Nat.le_of_ble_eq_true rfl) (Or.inl rfl) rfl rfl ?_))
        refine w_if2 rfl (fun _ => ?_) (fun h5 => absurd ((cn_ge (a := 3) (b := kk) (by omega) (by omega)).mpr (by omega)) h5)
        (repeat (first | refine w_iadd1 rfl ?_ | refine w_isub1 rfl ?_ | refine w_iinc1 rfl rfl ?_ | refine w_s rfl rfl ?_ | refine w_get rfl rfl rfl rfl ?_ | refine w_nnl rfl ?_ | refine w_nnlR rfl ?_ | refine w_nul rfl ?_ | refine w_nulR rfl ?_ | refine w_ldc rfl rfl ?_ | refine w_ldc2 rfl rfl ?_ | refine w_put rfl rfl rfl (Nat.le_of_ble_eq_true rfl) (Or.inl rfl) rfl rfl ?_))
        refine w_if2 rfl (fun h5 => absurd rfl h5) (fun _ => ?_)
        (repeat (first | refine w_iadd1 rfl ?_ | refine w_isub1 rfl ?_ | refine w_iinc1 rfl rfl ?_ | refine w_s rfl rfl ?_ | refine w_get rfl rfl rfl rfl ?_ | refine w_nnl rfl ?_ | refine w_nnlR rfl ?_ | refine w_nul rfl ?_ | refine w_nulR rfl ?_ | refine w_ldc rfl rfl ?_ | refine w_ldc2 rfl rfl ?_ | refine w_put rfl rfl rfl (Nat.le_of_ble_eq_true rfl) (Or.inl rfl) rfl rfl ?_))
        refine w_if1 rfl (fun _ => ?_) (fun h5 => absurd rfl h5)
        refine w_lv (n_makerLoop (C0 := m.classes) (N0 := m.numbers) (m := (ax_Mo.u_thrown m 0)) hu 5 0 2 ax_ds0 m.numbers m.classes (by omega) (by omega) (by show 2 ≤ m.units; omega) (fun _ _ => rfl) (fun _ _ => rfl) (fun j hj => absurd hj (by omega)) ?_) rfl ⟨rfl, rfl, rfl, trivial⟩
        show match ro m.units m.text 5 0 2 ax_ds0 with
          | .inl e => _
          | .inr (n, ds') => _
        generalize ro m.units m.text 5 0 2 ax_ds0 = RO
        cases RO with
        | inl e =>
          intro a N'' C'' he hN hC
          exact fl e a N'' C'' (nI kk) he hN hC
        | inr q =>
          obtain ⟨n, ds⟩ := q
          intro a N'' C'' hn4 hN hC hC14 hrow
          (repeat (first | refine w_iadd1 rfl ?_ | refine w_isub1 rfl ?_ | refine w_iinc1 rfl rfl ?_ | refine w_s rfl rfl ?_ | refine w_get rfl rfl rfl rfl ?_ | refine w_nnl rfl ?_ | refine w_nnlR rfl ?_ | refine w_nul rfl ?_ | refine w_nulR rfl ?_ | refine w_ldc rfl rfl ?_ | refine w_ldc2 rfl rfl ?_ | refine w_put rfl rfl rfl (Nat.le_of_ble_eq_true rfl) (Or.inl rfl) rfl rfl ?_))
          refine w_if2 rfl (fun _ => ?_) (fun h5 => absurd rfl h5)
          (repeat (first | refine w_iadd1 rfl ?_ | refine w_isub1 rfl ?_ | refine w_iinc1 rfl rfl ?_ | refine w_s rfl rfl ?_ | refine w_get rfl rfl rfl rfl ?_ | refine w_nnl rfl ?_ | refine w_nnlR rfl ?_ | refine w_nul rfl ?_ | refine w_nulR rfl ?_ | refine w_ldc rfl rfl ?_ | refine w_ldc2 rfl rfl ?_ | refine w_put rfl rfl rfl (Nat.le_of_ble_eq_true rfl) (Or.inl rfl) rfl rfl ?_))
          (refine w_cv rfl rfl rfl rfl (by exact Nat.le_of_ble_eq_true rfl) (by exact Nat.le_of_ble_eq_true rfl) (n_copy (m := ax_mu (ax_Mo.u_units (ax_Mo.u_classes (ax_Mo.u_thrown m 0) C'') 0) a (Int32.ofInt (-1)) N'') 14 kk (by omega) (by omega) (by omega)) ?_; dsimp only [Option.toList, List.drop, List.cons_append, List.nil_append, e_pl1, e_pl2, e_pl3])
          have fin : ∀ M' : Nat, M' = max m.makers (kk + 1) → QN L xs c m o pool u (.inr (kk, n, ds)) (.inl (some (.int (nI kk))), (ax_hp L xs c (ax_mu (ax_Mo.u_makers (ax_Mo.u_units (ax_Mo.u_classes (ax_Mo.u_thrown m 0) (upd C'' kk (C'' 14))) 0) M') a (Int32.ofInt (-1)) (ax_cpy N'' 14 kk 64)) o pool, u)) := by
            intro M' hM'
            subst hM'
            refine ⟨a, Int32.ofInt (-1), upd C'' kk (C'' 14), ax_cpy N'' 14 kk 64, rfl, by omega, by omega, ?_, ?_, ?_, ?_⟩
            · intro x hx hx2
              unfold ax_cpy
              rw [if_neg (by omega)]
              exact hN x hx
            · intro x hx hx2
              unfold upd
              rw [if_neg hx2]
              exact hC x hx
            · unfold upd
              rw [if_pos rfl, hC14]
            · intro j hj
              have := hrow j hj
              refine this.2.eqv (gok_s this.1) (fun y hy => ?_)
              unfold ax_cpy
              rw [if_pos (by omega)]
              congr 1
              omega
          (repeat (first | refine w_iadd1 rfl ?_ | refine w_isub1 rfl ?_ | refine w_iinc1 rfl rfl ?_ | refine w_s rfl rfl ?_ | refine w_get rfl rfl rfl rfl ?_ | refine w_nnl rfl ?_ | refine w_nnlR rfl ?_ | refine w_nul rfl ?_ | refine w_nulR rfl ?_ | refine w_ldc rfl rfl ?_ | refine w_ldc2 rfl rfl ?_ | refine w_put rfl rfl rfl (Nat.le_of_ble_eq_true rfl) (Or.inl rfl) rfl rfl ?_))
          by_cases hkm : kk = m.makers
          · refine w_if2 rfl (fun h5 => absurd hkm ((cn_ne (a := kk) (b := m.makers) (by omega) (by omega)).mp h5)) (fun _ => ?_)
            (repeat (first | refine w_iadd1 rfl ?_ | refine w_isub1 rfl ?_ | refine w_iinc1 rfl rfl ?_ | refine w_s rfl rfl ?_ | refine w_get rfl rfl rfl rfl ?_ | refine w_nnl rfl ?_ | refine w_nnlR rfl ?_ | refine w_nul rfl ?_ | refine w_nulR rfl ?_ | refine w_ldc rfl rfl ?_ | refine w_ldc2 rfl rfl ?_ | refine w_put rfl rfl rfl (Nat.le_of_ble_eq_true rfl) (Or.inl rfl) rfl rfl ?_))
            (refine w_iret rfl rfl rfl ?_)
            exact fin (m.makers + 1) (by omega)
          · refine w_if2 rfl (fun _ => ?_) (fun h5 => absurd ((cn_ne (a := kk) (b := m.makers) (by omega) (by omega)).mpr hkm) h5)
            (repeat (first | refine w_iadd1 rfl ?_ | refine w_isub1 rfl ?_ | refine w_iinc1 rfl rfl ?_ | refine w_s rfl rfl ?_ | refine w_get rfl rfl rfl rfl ?_ | refine w_nnl rfl ?_ | refine w_nnlR rfl ?_ | refine w_nul rfl ?_ | refine w_nulR rfl ?_ | refine w_ldc rfl rfl ?_ | refine w_ldc2 rfl rfl ?_ | refine w_put rfl rfl rfl (Nat.le_of_ble_eq_true rfl) (Or.inl rfl) rfl rfl ?_))
            (refine w_iret rfl rfl rfl ?_)
            exact fin m.makers (by omega)
    · rw [if_pos h2]
      obtain ⟨z, hz⟩ : ∃ z, z = nx m.units m.text 1 - (Int8.ofInt 48).toInt32 := ⟨_, rfl⟩
      refine w_eqI (y := z) hz.symm ?_
      (repeat (first | refine w_iadd1 rfl ?_ | refine w_isub1 rfl ?_ | refine w_iinc1 rfl rfl ?_ | refine w_s rfl rfl ?_ | refine w_get rfl rfl rfl rfl ?_ | refine w_nnl rfl ?_ | refine w_nnlR rfl ?_ | refine w_nul rfl ?_ | refine w_nulR rfl ?_ | refine w_ldc rfl rfl ?_ | refine w_ldc2 rfl rfl ?_ | refine w_put rfl rfl rfl (Nat.le_of_ble_eq_true rfl) (Or.inl rfl) rfl rfl ?_))
      refine w_if2 rfl (fun h5 => absurd rfl h5) (fun _ => ?_)
      (repeat (first | refine w_iadd1 rfl ?_ | refine w_isub1 rfl ?_ | refine w_iinc1 rfl rfl ?_ | refine w_s rfl rfl ?_ | refine w_get rfl rfl rfl rfl ?_ | refine w_nnl rfl ?_ | refine w_nnlR rfl ?_ | refine w_nul rfl ?_ | refine w_nulR rfl ?_ | refine w_ldc rfl rfl ?_ | refine w_ldc2 rfl rfl ?_ | refine w_put rfl rfl rfl (Nat.le_of_ble_eq_true rfl) (Or.inl rfl) rfl rfl ?_))
      (refine w_cv rfl rfl rfl rfl (by exact Nat.le_of_ble_eq_true rfl) (by exact Nat.le_of_ble_eq_true rfl) (n_isDigit (m := (ax_Mo.u_thrown m 0)) hu 1 (by omega) (Int32.ofInt (-1)) m.numbers) ?_; dsimp only [Option.toList, List.drop, List.cons_append, List.nil_append, e_pl1, e_pl2, e_pl3])
      refine w_if1 rfl (fun h5 => absurd (c_ne0.mp h5) h2) (fun _ => ?_)
      (repeat ((fail_if_success (show ax_wp _ _ _ 52 _ _ _)); (first | refine w_iadd1 rfl ?_ | refine w_isub1 rfl ?_ | refine w_iinc1 rfl rfl ?_ | refine w_s rfl rfl ?_ | refine w_get rfl rfl rfl rfl ?_ | refine w_nnl rfl ?_ | refine w_nnlR rfl ?_ | refine w_nul rfl ?_ | refine w_nulR rfl ?_ | refine w_ldc rfl rfl ?_ | refine w_ldc2 rfl rfl ?_ | refine w_put rfl rfl rfl (Nat.le_of_ble_eq_true rfl) (Or.inl rfl) rfl rfl ?_)))
      exact w_lv (d52 1 1 z (by omega)) rfl ⟨rfl, rfl, trivial⟩
  · rw [if_pos h1]
    (refine w_cv rfl rfl rfl rfl (by exact Nat.le_of_ble_eq_true rfl) (by exact Nat.le_of_ble_eq_true rfl) (n_expect0 (m := (ax_Mo.u_thrown m 0)) hu 0 (by omega) m.numbers (Int8.ofInt 77).toInt32 h1) ?_; dsimp only [Option.toList, List.drop, List.cons_append, List.nil_append, e_pl1, e_pl2, e_pl3])
    (repeat (first | refine w_iadd1 rfl ?_ | refine w_isub1 rfl ?_ | refine w_iinc1 rfl rfl ?_ | refine w_s rfl rfl ?_ | refine w_get rfl rfl rfl rfl ?_ | refine w_nnl rfl ?_ | refine w_nnlR rfl ?_ | refine w_nul rfl ?_ | refine w_nulR rfl ?_ | refine w_ldc rfl rfl ?_ | refine w_ldc2 rfl rfl ?_ | refine w_put rfl rfl rfl (Nat.le_of_ble_eq_true rfl) (Or.inl rfl) rfl rfl ?_))
    (refine w_cv rfl rfl rfl rfl (by exact Nat.le_of_ble_eq_true rfl) (by exact Nat.le_of_ble_eq_true rfl) (n_now (m := (ax_Mo.u_thrown m 0)) hu 0 (by omega) (nI 0) m.numbers) ?_; dsimp only [Option.toList, List.drop, List.cons_append, List.nil_append, e_pl1, e_pl2, e_pl3])
    (repeat ((fail_if_success (show ax_wp _ _ _ 28 _ _ _)); (first | refine w_iadd1 rfl ?_ | refine w_isub1 rfl ?_ | refine w_iinc1 rfl rfl ?_ | refine w_s rfl rfl ?_ | refine w_get rfl rfl rfl rfl ?_ | refine w_nnl rfl ?_ | refine w_nnlR rfl ?_ | refine w_nul rfl ?_ | refine w_nulR rfl ?_ | refine w_ldc rfl rfl ?_ | refine w_ldc2 rfl rfl ?_ | refine w_put rfl rfl rfl (Nat.le_of_ble_eq_true rfl) (Or.inl rfl) rfl rfl ?_)))
    obtain ⟨z, hz⟩ : ∃ z, z = nx m.units m.text 0 - (Int8.ofInt 48).toInt32 := ⟨_, rfl⟩
    refine w_eqI (y := z) hz.symm ?_
    (repeat (first | refine w_iadd1 rfl ?_ | refine w_isub1 rfl ?_ | refine w_iinc1 rfl rfl ?_ | refine w_s rfl rfl ?_ | refine w_get rfl rfl rfl rfl ?_ | refine w_nnl rfl ?_ | refine w_nnlR rfl ?_ | refine w_nul rfl ?_ | refine w_nulR rfl ?_ | refine w_ldc rfl rfl ?_ | refine w_ldc2 rfl rfl ?_ | refine w_put rfl rfl rfl (Nat.le_of_ble_eq_true rfl) (Or.inl rfl) rfl rfl ?_))
    refine w_if2 rfl (fun _ => ?_) (fun h5 => absurd (nI_ne (q := 0) (by omega)) h5)
    exact w_lv (d52 0 0 z (by omega)) rfl ⟨rfl, rfl, trivial⟩
end MG
