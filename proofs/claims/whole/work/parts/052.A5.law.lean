section LD
variable {L : Nat} {xs : Nat → Int32} {c : ax_St} {m : ax_Mo} {o : Nat → Int64} {pool : List (Option ax_C)} {u : Nat} {Fs Qs : Nat → ax_Of} {Q : ax_R → Prop} {i : Nat}
set_option maxRecDepth 20000 in
theorem zc_unit (hi : i + 7 ≤ L) (hL : L ≤ 3584) (h : Rel c m pool Fs Qs) (K : ∀ (c' : ax_St) (m' : ax_Mo) (o' : Nat → Int64) (pool' : List (Option ax_C)) (u' : Nat), (∃ Fs Qs, Rel c' m' pool' Fs Qs) → pool'.length ≤ pool.length + 22 → u' ≤ u + 106 → ax_wp ax_run M_La_law Q 1522 (ll i) [] (ax_hp L xs c' m' o' pool', u')) :
    ax_wp ax_run M_La_law Q 120 (ll i) [] (ax_hp L xs c m o pool, u) := by
  (repeat (first | refine w_iadd1 rfl ?_ | refine w_isub1 rfl ?_ | refine w_iinc1 rfl rfl ?_ | refine w_s rfl rfl ?_ | refine w_get rfl rfl rfl rfl ?_ | refine w_nnl rfl ?_ | refine w_nnlR rfl ?_ | refine w_nul rfl ?_ | refine w_nulR rfl ?_ | refine w_ldc rfl rfl ?_ | refine w_ldc2 rfl rfl ?_ | refine w_put rfl rfl rfl (Nat.le_of_ble_eq_true rfl) (Or.inl rfl) rfl rfl ?_))
  refine w_sa (j := i + 1) rfl rfl (by first | (simp only [kb6, kb7, kb8, kb9, kb16, ki0, ki1, ki2, ki3, ki4, ki5, nI_addR, nI_mulR]; try (congr 1; omega)) | rfl) (by omega) (by omega) ?_
  rcases p_unit h (xs (i + 1)) with ⟨v, c1, m1, ⟨x, rfl⟩, hC, hM, ht, hR⟩ | ⟨E, w, m1, hE, -⟩
  · (refine w_cv rfl rfl rfl rfl (by exact Nat.le_of_ble_eq_true rfl) (by exact Nat.le_of_ble_eq_true rfl) (hC L xs o u) ?_; dsimp only [Option.toList, List.drop, List.cons_append, List.nil_append, e_pl1, e_pl2, e_pl3])
    (repeat (first | refine w_iadd1 rfl ?_ | refine w_isub1 rfl ?_ | refine w_iinc1 rfl rfl ?_ | refine w_s rfl rfl ?_ | refine w_get rfl rfl rfl rfl ?_ | refine w_nnl rfl ?_ | refine w_nnlR rfl ?_ | refine w_nul rfl ?_ | refine w_nulR rfl ?_ | refine w_ldc rfl rfl ?_ | refine w_ldc2 rfl rfl ?_ | refine w_put rfl rfl rfl (Nat.le_of_ble_eq_true rfl) (Or.inl rfl) rfl rfl ?_))
    refine w_sa (j := i + 1) rfl rfl (by first | (simp only [kb6, kb7, kb8, kb9, kb16, ki0, ki1, ki2, ki3, ki4, ki5, nI_addR, nI_mulR]; try (congr 1; omega)) | rfl) (by omega) (by omega) ?_
    (refine w_cv rfl rfl rfl rfl (by exact Nat.le_of_ble_eq_true rfl) (by exact Nat.le_of_ble_eq_true rfl) (hM L xs o _ _) ?_; dsimp only [Option.toList, List.drop, List.cons_append, List.nil_append, e_pl1, e_pl2, e_pl3])
    refine w_if2 rfl (fun _ => ?_) (fun h5 => absurd rfl h5)
    exact w_lv (K _ _ _ _ _ hR (by omega) (by omega)) rfl ⟨rfl, rfl, rfl, rfl, rfl, trivial⟩
  · exact absurd hE id
set_option maxRecDepth 20000 in
theorem zc_maker (h : Rel c m pool Fs Qs) (K : ∀ (c' : ax_St) (m' : ax_Mo) (o' : Nat → Int64) (pool' : List (Option ax_C)) (u' : Nat), (∃ Fs Qs, Rel c' m' pool' Fs Qs) → pool'.length ≤ pool.length + 22 → u' ≤ u + 106 → ax_wp ax_run M_La_law Q 1522 (ll i) [] (ax_hp L xs c' m' o' pool', u')) :
    ax_wp ax_run M_La_law Q 145 (ll i) [] (ax_hp L xs c m o pool, u) := by
  obtain ⟨b, c1, m1, pool1, u1, h1, h2, hp, hu, hR⟩ := p_maker h L xs o u
  (repeat (first | refine w_iadd1 rfl ?_ | refine w_isub1 rfl ?_ | refine w_iinc1 rfl rfl ?_ | refine w_s rfl rfl ?_ | refine w_get rfl rfl rfl rfl ?_ | refine w_nnl rfl ?_ | refine w_nnlR rfl ?_ | refine w_nul rfl ?_ | refine w_nulR rfl ?_ | refine w_ldc rfl rfl ?_ | refine w_ldc2 rfl rfl ?_ | refine w_put rfl rfl rfl (Nat.le_of_ble_eq_true rfl) (Or.inl rfl) rfl rfl ?_))
  (refine w_cv rfl rfl rfl rfl (by exact Nat.le_of_ble_eq_true rfl) (by exact Nat.le_of_ble_eq_true rfl) h1 ?_; dsimp only [Option.toList, List.drop, List.cons_append, List.nil_append, e_pl1, e_pl2, e_pl3])
  (repeat (first | refine w_iadd1 rfl ?_ | refine w_isub1 rfl ?_ | refine w_iinc1 rfl rfl ?_ | refine w_s rfl rfl ?_ | refine w_get rfl rfl rfl rfl ?_ | refine w_nnl rfl ?_ | refine w_nnlR rfl ?_ | refine w_nul rfl ?_ | refine w_nulR rfl ?_ | refine w_ldc rfl rfl ?_ | refine w_ldc2 rfl rfl ?_ | refine w_put rfl rfl rfl (Nat.le_of_ble_eq_true rfl) (Or.inl rfl) rfl rfl ?_))
  (refine w_cv rfl rfl rfl rfl (by exact Nat.le_of_ble_eq_true rfl) (by exact Nat.le_of_ble_eq_true rfl) h2 ?_; dsimp only [Option.toList, List.drop, List.cons_append, List.nil_append, e_pl1, e_pl2, e_pl3])
  refine w_if2 rfl (fun _ => ?_) (fun h5 => absurd rfl h5)
  exact w_lv (K _ _ _ _ _ hR hp hu) rfl ⟨rfl, rfl, rfl, rfl, rfl, trivial⟩
set_option maxRecDepth 20000 in
theorem zc_clear (h : Rel c m pool Fs Qs) (K : ∀ (c' : ax_St) (m' : ax_Mo) (o' : Nat → Int64) (pool' : List (Option ax_C)) (u' : Nat), (∃ Fs Qs, Rel c' m' pool' Fs Qs) → pool'.length ≤ pool.length + 22 → u' ≤ u + 106 → ax_wp ax_run M_La_law Q 1522 (ll i) [] (ax_hp L xs c' m' o' pool', u')) :
    ax_wp ax_run M_La_law Q 1511 (ll i) [] (ax_hp L xs c m o pool, u) := by
  (repeat (first | refine w_iadd1 rfl ?_ | refine w_isub1 rfl ?_ | refine w_iinc1 rfl rfl ?_ | refine w_s rfl rfl ?_ | refine w_get rfl rfl rfl rfl ?_ | refine w_nnl rfl ?_ | refine w_nnlR rfl ?_ | refine w_nul rfl ?_ | refine w_nulR rfl ?_ | refine w_ldc rfl rfl ?_ | refine w_ldc2 rfl rfl ?_ | refine w_put rfl rfl rfl (Nat.le_of_ble_eq_true rfl) (Or.inl rfl) rfl rfl ?_))
  (refine w_cv rfl rfl rfl rfl (by exact Nat.le_of_ble_eq_true rfl) (by exact Nat.le_of_ble_eq_true rfl) (r_clear (L := L) (xs := xs) (c := c) (m := m) (o := o) (pool := pool) (u := u)) ?_; dsimp only [Option.toList, List.drop, List.cons_append, List.nil_append, e_pl1, e_pl2, e_pl3])
  (repeat (first | refine w_iadd1 rfl ?_ | refine w_isub1 rfl ?_ | refine w_iinc1 rfl rfl ?_ | refine w_s rfl rfl ?_ | refine w_get rfl rfl rfl rfl ?_ | refine w_nnl rfl ?_ | refine w_nnlR rfl ?_ | refine w_nul rfl ?_ | refine w_nulR rfl ?_ | refine w_ldc rfl rfl ?_ | refine w_ldc2 rfl rfl ?_ | refine w_put rfl rfl rfl (Nat.le_of_ble_eq_true rfl) (Or.inl rfl) rfl rfl ?_))
  (refine w_cv rfl rfl rfl rfl (by exact Nat.le_of_ble_eq_true rfl) (by exact Nat.le_of_ble_eq_true rfl) (n_clear (L := L) (xs := xs) (c := sp_clear c) (m := m) (o := o) (pool := pool) (u := u)) ?_; dsimp only [Option.toList, List.drop, List.cons_append, List.nil_append, e_pl1, e_pl2, e_pl3])
  (repeat ((fail_if_success (show ax_wp _ _ _ 1522 _ _ _)); (first | refine w_iadd1 rfl ?_ | refine w_isub1 rfl ?_ | refine w_iinc1 rfl rfl ?_ | refine w_s rfl rfl ?_ | refine w_get rfl rfl rfl rfl ?_ | refine w_nnl rfl ?_ | refine w_nnlR rfl ?_ | refine w_nul rfl ?_ | refine w_nulR rfl ?_ | refine w_ldc rfl rfl ?_ | refine w_ldc2 rfl rfl ?_ | refine w_put rfl rfl rfl (Nat.le_of_ble_eq_true rfl) (Or.inl rfl) rfl rfl ?_)))
  exact w_lv (K _ _ _ _ _ ⟨_, _, p_clear h⟩ (by omega) (by omega)) rfl ⟨rfl, rfl, rfl, rfl, rfl, trivial⟩
theorem w_iinc7 {C : Nat → List Value → ax_H → ax_R → Prop} {M : ax_M} {Q : ax_R → Prop} {pc nxt tg : Nat} {lv : ax_L} {st : List Value} {h : ax_H} {k0 n : Nat} (hd : M.2.2.1.lookup pc = some (.iinc k0 7, nxt, tg)) (hl : lv.lookup k0 = some (.int (nI n))) (k : ax_wp C M Q nxt (ax_sto1 k0 (.int (nI (n + 7))) lv) st h) : ax_wp C M Q pc lv st h := by
  refine w_s (lv' := ax_sto1 k0 (.int (nI (n + 7))) lv) (st' := st) (h' := h) (pc' := nxt) hd ?_ k
  show ax_iinc k0 7 nxt lv st h = _
  unfold ax_iinc
  rw [hl, show nI (n + 7) = nI n + nI 7 from (nI_addR n 7).symm]
  rfl
/-- how the law ends -/
def QW (r : ax_R) : Prop := ∃ h1 : ax_H, r = (.inl (some (.int 1)), h1) ∧ h1.1.length ≤ 601025 ∧ h1.2 ≤ 7293034
set_option maxRecDepth 20000 in
theorem law_loop (hL : L ≤ 3584) : ∀ (d k : Nat) (c : ax_St) (m : ax_Mo) (o : Nat → Int64) (pool : List (Option ax_C)) (u : Nat), L ≤ 7 * k + 7 * d + 6 → 7 * k ≤ L → pool.length ≤ 22 * k → u ≤ 10000 + 106 * k → (∃ Fs Qs, Rel c m pool Fs Qs) → ax_wp ax_run M_La_law QW 23 (ll (7 * k)) [] (ax_hp L xs c m o pool, u) := by
  intro d
  have hz : (nI L - (Int8.ofInt 7).toInt32).toInt = (L : Int) - 7 := by
    rw [q_sub, q_nI, q_b8]
    omega
  have ends : ∀ (k : Nat) (c : ax_St) (m : ax_Mo) (o : Nat → Int64) (pool : List (Option ax_C)) (u : Nat), k ≤ 512 → pool.length ≤ 22 * k → u ≤ 10000 + 106 * k → ax_wp ax_run M_La_law QW 1528 [] [] (ax_hp L xs c m o pool, u) := by
    intro k c m o pool u hk hp hu
    (repeat (first | refine w_iadd1 rfl ?_ | refine w_isub1 rfl ?_ | refine w_iinc1 rfl rfl ?_ | refine w_s rfl rfl ?_ | refine w_get rfl rfl rfl rfl ?_ | refine w_nnl rfl ?_ | refine w_nnlR rfl ?_ | refine w_nul rfl ?_ | refine w_nulR rfl ?_ | refine w_ldc rfl rfl ?_ | refine w_ldc2 rfl rfl ?_ | refine w_put rfl rfl rfl (Nat.le_of_ble_eq_true rfl) (Or.inl rfl) rfl rfl ?_))
    (refine w_iret rfl rfl rfl ?_)
    refine ⟨_, rfl, ?_, ?_⟩
    · show pool.length + 40 ≤ 601025
      omega
    · show u ≤ 7293034
      omega
  induction d with
  | zero =>
    intro k c m o pool u h1 h2 hp hu hR
    (repeat (first | refine w_iadd1 rfl ?_ | refine w_isub1 rfl ?_ | refine w_iinc1 rfl rfl ?_ | refine w_s rfl rfl ?_ | refine w_get rfl rfl rfl rfl ?_ | refine w_nnl rfl ?_ | refine w_nnlR rfl ?_ | refine w_nul rfl ?_ | refine w_nulR rfl ?_ | refine w_ldc rfl rfl ?_ | refine w_ldc2 rfl rfl ?_ | refine w_put rfl rfl rfl (Nat.le_of_ble_eq_true rfl) (Or.inl rfl) rfl rfl ?_))
    refine w_alen rfl rfl (Or.inr ⟨rfl, rfl⟩) ?_
    (repeat ((fail_if_success (show ax_wp _ _ _ 30 _ _ _)); (first | refine w_iadd1 rfl ?_ | refine w_isub1 rfl ?_ | refine w_iinc1 rfl rfl ?_ | refine w_s rfl rfl ?_ | refine w_get rfl rfl rfl rfl ?_ | refine w_nnl rfl ?_ | refine w_nnlR rfl ?_ | refine w_nul rfl ?_ | refine w_nulR rfl ?_ | refine w_ldc rfl rfl ?_ | refine w_ldc2 rfl rfl ?_ | refine w_put rfl rfl rfl (Nat.le_of_ble_eq_true rfl) (Or.inl rfl) rfl rfl ?_)))
    refine w_if2 rfl (fun _ => ?_) (fun h5 => ?_)
    · exact w_lv (ends k c m o pool u (by omega) hp hu) rfl trivial
    · exfalso
      apply h5
      show nI L - (Int8.ofInt 7).toInt32 < nI (7 * k)
      rw [Int32.lt_iff_toInt_lt, hz, q_nI' (by omega)]
      omega
  | succ d ih =>
    intro k c m o pool u h1 h2 hp hu hR
    (repeat (first | refine w_iadd1 rfl ?_ | refine w_isub1 rfl ?_ | refine w_iinc1 rfl rfl ?_ | refine w_s rfl rfl ?_ | refine w_get rfl rfl rfl rfl ?_ | refine w_nnl rfl ?_ | refine w_nnlR rfl ?_ | refine w_nul rfl ?_ | refine w_nulR rfl ?_ | refine w_ldc rfl rfl ?_ | refine w_ldc2 rfl rfl ?_ | refine w_put rfl rfl rfl (Nat.le_of_ble_eq_true rfl) (Or.inl rfl) rfl rfl ?_))
    refine w_alen rfl rfl (Or.inr ⟨rfl, rfl⟩) ?_
    (repeat ((fail_if_success (show ax_wp _ _ _ 30 _ _ _)); (first | refine w_iadd1 rfl ?_ | refine w_isub1 rfl ?_ | refine w_iinc1 rfl rfl ?_ | refine w_s rfl rfl ?_ | refine w_get rfl rfl rfl rfl ?_ | refine w_nnl rfl ?_ | refine w_nnlR rfl ?_ | refine w_nul rfl ?_ | refine w_nulR rfl ?_ | refine w_ldc rfl rfl ?_ | refine w_ldc2 rfl rfl ?_ | refine w_put rfl rfl rfl (Nat.le_of_ble_eq_true rfl) (Or.inl rfl) rfl rfl ?_)))
    refine w_if2 rfl (fun _ => ?_) (fun h5 => ?_)
    · exact w_lv (ends k c m o pool u (by omega) hp hu) rfl trivial
    have h6 : ¬ (nI L - (Int8.ofInt 7).toInt32).toInt < (nI (7 * k)).toInt := fun z => h5 (Int32.lt_iff_toInt_lt.mpr z)
    rw [hz, q_nI' (by omega)] at h6
    have hi : 7 * k + 7 ≤ L := by omega
    have K : ∀ (c' : ax_St) (m' : ax_Mo) (o' : Nat → Int64) (pool' : List (Option ax_C)) (u' : Nat), (∃ Fs Qs, Rel c' m' pool' Fs Qs) → pool'.length ≤ pool.length + 22 → u' ≤ u + 106 → ax_wp ax_run M_La_law QW 1522 (ll (7 * k)) [] (ax_hp L xs c' m' o' pool', u') := by
      intro c' m' o' pool' u' hR' hp' hu'
      refine w_iinc7 rfl rfl ?_
      (repeat ((fail_if_success (show ax_wp _ _ _ 23 _ _ _)); (first | refine w_iadd1 rfl ?_ | refine w_isub1 rfl ?_ | refine w_iinc1 rfl rfl ?_ | refine w_s rfl rfl ?_ | refine w_get rfl rfl rfl rfl ?_ | refine w_nnl rfl ?_ | refine w_nnlR rfl ?_ | refine w_nul rfl ?_ | refine w_nulR rfl ?_ | refine w_ldc rfl rfl ?_ | refine w_ldc2 rfl rfl ?_ | refine w_put rfl rfl rfl (Nat.le_of_ble_eq_true rfl) (Or.inl rfl) rfl rfl ?_)))
      exact w_lv (ih (k + 1) c' m' o' pool' u' (by omega) (by omega) (by omega) (by omega) hR') rfl ⟨rfl, rfl, rfl, rfl, rfl, trivial⟩
    obtain ⟨Fs, Qs, h⟩ := hR
    (repeat (first | refine w_iadd1 rfl ?_ | refine w_isub1 rfl ?_ | refine w_iinc1 rfl rfl ?_ | refine w_s rfl rfl ?_ | refine w_get rfl rfl rfl rfl ?_ | refine w_nnl rfl ?_ | refine w_nnlR rfl ?_ | refine w_nul rfl ?_ | refine w_nulR rfl ?_ | refine w_ldc rfl rfl ?_ | refine w_ldc2 rfl rfl ?_ | refine w_put rfl rfl rfl (Nat.le_of_ble_eq_true rfl) (Or.inl rfl) rfl rfl ?_))
    refine w_sa (j := 7 * k) rfl rfl rfl (by omega) (by omega) ?_
    (repeat ((fail_if_success (show ax_wp _ _ _ 40 _ _ _)); (first | refine w_iadd1 rfl ?_ | refine w_isub1 rfl ?_ | refine w_iinc1 rfl rfl ?_ | refine w_s rfl rfl ?_ | refine w_get rfl rfl rfl rfl ?_ | refine w_nnl rfl ?_ | refine w_nnlR rfl ?_ | refine w_nul rfl ?_ | refine w_nulR rfl ?_ | refine w_ldc rfl rfl ?_ | refine w_ldc2 rfl rfl ?_ | refine w_put rfl rfl rfl (Nat.le_of_ble_eq_true rfl) (Or.inl rfl) rfl rfl ?_)))
    obtain ⟨x, hx⟩ : ∃ x, x = xs (7 * k) &&& (Int8.ofInt 15).toInt32 := ⟨_, rfl⟩
    refine w_eqI (y := x) hx.symm ?_
    clear hx
    by_cases hr : x.toInt < 0 ∨ 15 < x.toInt
    · refine w_tsw (t := 1522) rfl (if_pos hr) ?_
      exact K _ _ _ _ _ ⟨Fs, Qs, h⟩ (by omega) (by omega)
    · have hcase : x.toInt = 0 ∨ x.toInt = 1 ∨ x.toInt = 2 ∨ x.toInt = 3 ∨ x.toInt = 4 ∨ x.toInt = 5 ∨ x.toInt = 6 ∨ x.toInt = 7 ∨ x.toInt = 8 ∨ x.toInt = 9 ∨ x.toInt = 10 ∨ x.toInt = 11 ∨ x.toInt = 12 ∨ x.toInt = 13 ∨ x.toInt = 14 ∨ x.toInt = 15 := by omega
      clear hr
      rcases hcase with hr | hr | hr | hr | hr | hr | hr | hr | hr | hr | hr | hr | hr | hr | hr | hr
      · exact w_tsw (t := 120) rfl (by unfold ax_tsw; rw [hr]; rfl) (zc_unit hi hL h K)
      · exact w_tsw (t := 145) rfl (by unfold ax_tsw; rw [hr]; rfl) (zc_maker h K)
      · exact w_tsw (t := 158) rfl (by unfold ax_tsw; rw [hr]; rfl) (zc_thing hi hL h K)
      · exact w_tsw (t := 270) rfl (by unfold ax_tsw; rw [hr]; rfl) (zc_at hi hL h K)
      · exact w_tsw (t := 421) rfl (by unfold ax_tsw; rw [hr]; rfl) (zc_run hi hL h K)
      · exact w_tsw (t := 489) rfl (by unfold ax_tsw; rw [hr]; rfl) (zc_remark hi hL h K)
      · exact w_tsw (t := 557) rfl (by unfold ax_tsw; rw [hr]; rfl) (zc_least hi hL h K)
      · exact w_tsw (t := 613) rfl (by unfold ax_tsw; rw [hr]; rfl) (zc_price hi hL h K)
      · exact w_tsw (t := 724) rfl (by unfold ax_tsw; rw [hr]; rfl) (zc_share hi hL h K)
      · exact w_tsw (t := 867) rfl (by unfold ax_tsw; rw [hr]; rfl) (zc_balance hi hL h K)
      · exact w_tsw (t := 946) rfl (by unfold ax_tsw; rw [hr]; rfl) (zc_quote hi hL h K)
      · exact w_tsw (t := 1046) rfl (by unfold ax_tsw; rw [hr]; rfl) (zc_copper hi hL h K)
      · exact w_tsw (t := 1211) rfl (by unfold ax_tsw; rw [hr]; rfl) (zc_best hi hL h K)
      · exact w_tsw (t := 1299) rfl (by unfold ax_tsw; rw [hr]; rfl) (zc_order hi hL h K)
      · exact w_tsw (t := 1443) rfl (by unfold ax_tsw; rw [hr]; rfl) (zc_history hi hL h K)
      · exact w_tsw (t := 1511) rfl (by unfold ax_tsw; rw [hr]; rfl) (zc_clear h K)
end LD
