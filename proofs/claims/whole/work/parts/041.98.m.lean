/-- a row of numbers says what the text says -/
def RowIs (N : Nat → Int64) (B : Nat) (d : ax_Rw) : Prop := (∀ j, j < 6 → (N (B + j)).toInt = d.lim j) ∧ (N (B + 6)).toInt = d.s ∧ (N (B + 7)).toInt = d.dy ∧ ∀ j, j < d.s → (N (B + (8 + 2 * j))).toInt = d.fr j ∧ (N (B + (9 + 2 * j))).toInt = d.ce j
theorem RowIs.eqv {N N' : Nat → Int64} {B B' : Nat} {d : ax_Rw} (h : RowIs N B d) (h4 : d.s ≤ 4) (he : ∀ j, j < 16 → N' (B' + j) = N (B + j)) : RowIs N' B' d := by
  refine ⟨fun j hj => ?_, ?_, ?_, fun j hj => ⟨?_, ?_⟩⟩
  · rw [he j (by omega)]; exact h.1 j hj
  · rw [he 6 (by omega)]; exact h.2.1
  · rw [he 7 (by omega)]; exact h.2.2.1
  · rw [he (8 + 2 * j) (by omega)]; exact (h.2.2.2 j hj).1
  · rw [he (9 + 2 * j) (by omega)]; exact (h.2.2.2 j hj).2
theorem gok_s {d : ax_Rw} (h : gok d) : d.s ≤ 4 := by
  by_cases z : d.s = 0
  · omega
  · have := (h.1.2 (d.s - 1) (by omega)).1
    omega
section ME
variable {L : Nat} {xs : Nat → Int32} {c : ax_St} {m : ax_Mo} {o : Nat → Int64} {pool : List (Option ax_C)} {u : Nat} {Q : ax_R → Prop} {i p B : Nat}
theorem rc_end (hu : m.units ≤ 400) (hB : B + 16 ≤ 960) (q s : Nat) (hq : q ≤ m.units) (b : Bool) (N : Nat → Int64)
    (K : match rd m.units m.text q with
      | .inl e => ∀ a : Nat, Q (.inl none, (ax_hp L xs c (ax_mu m a (nI e) N) o pool, u))
      | .inr (t, dy) => if b = true ∧ dy ≤ 1000 then Q (.inl none, (ax_hp L xs c (ax_mu (ax_Mo.u_classes m (upd m.classes 14 (nI (i + 1)))) t (Int32.ofInt (-1)) (vp_updL (vp_updL N (B + 6) (nI s).toInt64) (B + 7) (Int64.ofNat dy))) o pool, u)) else Q (.inl none, (ax_hp L xs c (ax_mu m t (nI p) N) o pool, u))) :
    ax_wp ax_run M_Mo_readClass Q 285 (lb i p B [(4, .int (bI (b = true))), (5, .int (nI s))]) [] (ax_hp L xs c (ax_mu m q (Int32.ofInt (-1)) N) o pool, u) := by
  unfold rd at K
  (repeat (first | refine w_iadd1 rfl ?_ | refine w_isub1 rfl ?_ | refine w_iinc1 rfl rfl ?_ | refine w_s rfl rfl ?_ | refine w_get rfl rfl rfl rfl ?_ | refine w_nnl rfl ?_ | refine w_nnlR rfl ?_ | refine w_nul rfl ?_ | refine w_nulR rfl ?_ | refine w_ldc rfl rfl ?_ | refine w_ldc2 rfl rfl ?_ | refine w_put rfl rfl rfl (Nat.le_of_ble_eq_true rfl) (Or.inl rfl) rfl rfl ?_))
  by_cases h47 : nx m.units m.text q = 47
  · rw [if_neg (fun z => z h47)] at K
    have hlt := nx_lt h47 (by decide)
    (refine w_cv rfl rfl rfl rfl (by exact Nat.le_of_ble_eq_true rfl) (by exact Nat.le_of_ble_eq_true rfl) (n_expect1 hu q (by omega) N (Int8.ofInt 47).toInt32 h47) ?_; dsimp only [Option.toList, List.drop, List.cons_append, List.nil_append, e_pl1, e_pl2, e_pl3])
    have hq1 : q + 1 ≤ m.units := by omega
    generalize q + 1 = q1 at hq1 K
    have hwn := wd_n (f := m.text) hq1
    have hvl := wv_lt m.units m.text q1
    (repeat (first | refine w_iadd1 rfl ?_ | refine w_isub1 rfl ?_ | refine w_iinc1 rfl rfl ?_ | refine w_s rfl rfl ?_ | refine w_get rfl rfl rfl rfl ?_ | refine w_nnl rfl ?_ | refine w_nnlR rfl ?_ | refine w_nul rfl ?_ | refine w_nulR rfl ?_ | refine w_ldc rfl rfl ?_ | refine w_ldc2 rfl rfl ?_ | refine w_put rfl rfl rfl (Nat.le_of_ble_eq_true rfl) (Or.inl rfl) rfl rfl ?_))
    (refine w_cv rfl rfl rfl rfl (by exact Nat.le_of_ble_eq_true rfl) (by exact Nat.le_of_ble_eq_true rfl) (n_wholeL hu q1 hq1 N) ?_; dsimp only [Option.toList, List.drop, List.cons_append, List.nil_append, e_pl1, e_pl2, e_pl3])
    by_cases hw : wok m.units m.text q1
    · rw [if_neg (fun z => z hw)] at K
      rw [if_pos hw]
      generalize q1 + wd m.units m.text q1 = q2 at hwn K
      generalize wv m.units m.text q1 = dy at hvl K
      (repeat (first | refine w_iadd1 rfl ?_ | refine w_isub1 rfl ?_ | refine w_iinc1 rfl rfl ?_ | refine w_s rfl rfl ?_ | refine w_get rfl rfl rfl rfl ?_ | refine w_nnl rfl ?_ | refine w_nnlR rfl ?_ | refine w_nul rfl ?_ | refine w_nulR rfl ?_ | refine w_ldc rfl rfl ?_ | refine w_ldc2 rfl rfl ?_ | refine w_put rfl rfl rfl (Nat.le_of_ble_eq_true rfl) (Or.inl rfl) rfl rfl ?_))
      by_cases h59 : nx m.units m.text q2 = 59
      · rw [if_neg (fun z => z h59)] at K
        have K' : if b = true ∧ dy ≤ 1000 then Q (.inl none, (ax_hp L xs c (ax_mu (ax_Mo.u_classes m (upd m.classes 14 (nI (i + 1)))) (q2 + 1) (Int32.ofInt (-1)) (vp_updL (vp_updL N (B + 6) (nI s).toInt64) (B + 7) (Int64.ofNat dy))) o pool, u)) else Q (.inl none, (ax_hp L xs c (ax_mu m (q2 + 1) (nI p) N) o pool, u)) := K
        clear K
        have hdd := q_oN (v := dy) (by omega)
        have e1 : ((1000 : Int64)).toInt = 1000 := rfl
        (refine w_cv rfl rfl rfl rfl (by exact Nat.le_of_ble_eq_true rfl) (by exact Nat.le_of_ble_eq_true rfl) (n_expect1 hu q2 (by omega) N (Int8.ofInt 59).toInt32 h59) ?_; dsimp only [Option.toList, List.drop, List.cons_append, List.nil_append, e_pl1, e_pl2, e_pl3])
        have fin : ∀ g : Int32, g = bI (b = true ∧ dy ≤ 1000) → ax_wp ax_run M_Mo_readClass Q 324 (lb i p B [(4, .int g), (5, .int (nI s)), (9, .long (Int64.ofNat dy))]) [] (ax_hp L xs c (ax_mu m (q2 + 1) (Int32.ofInt (-1)) N) o pool, u) := by
          intro g hg
          subst hg
          (repeat (first | refine w_iadd1 rfl ?_ | refine w_isub1 rfl ?_ | refine w_iinc1 rfl rfl ?_ | refine w_s rfl rfl ?_ | refine w_get rfl rfl rfl rfl ?_ | refine w_nnl rfl ?_ | refine w_nnlR rfl ?_ | refine w_nul rfl ?_ | refine w_nulR rfl ?_ | refine w_ldc rfl rfl ?_ | refine w_ldc2 rfl rfl ?_ | refine w_put rfl rfl rfl (Nat.le_of_ble_eq_true rfl) (Or.inl rfl) rfl rfl ?_))
          refine w_if2 rfl (fun _ => ?_) (fun h5 => absurd rfl h5)
          (repeat (first | refine w_iadd1 rfl ?_ | refine w_isub1 rfl ?_ | refine w_iinc1 rfl rfl ?_ | refine w_s rfl rfl ?_ | refine w_get rfl rfl rfl rfl ?_ | refine w_nnl rfl ?_ | refine w_nnlR rfl ?_ | refine w_nul rfl ?_ | refine w_nulR rfl ?_ | refine w_ldc rfl rfl ?_ | refine w_ldc2 rfl rfl ?_ | refine w_put rfl rfl rfl (Nat.le_of_ble_eq_true rfl) (Or.inl rfl) rfl rfl ?_))
          by_cases hg : b = true ∧ dy ≤ 1000
          · rw [if_pos hg] at K'
            refine w_if1 rfl (fun _ => ?_) (fun h5 => absurd (c_ne0.mpr hg) h5)
            (repeat (first | refine w_iadd1 rfl ?_ | refine w_isub1 rfl ?_ | refine w_iinc1 rfl rfl ?_ | refine w_s rfl rfl ?_ | refine w_get rfl rfl rfl rfl ?_ | refine w_nnl rfl ?_ | refine w_nnlR rfl ?_ | refine w_nul rfl ?_ | refine w_nulR rfl ?_ | refine w_ldc rfl rfl ?_ | refine w_ldc2 rfl rfl ?_ | refine w_put rfl rfl rfl (Nat.le_of_ble_eq_true rfl) (Or.inl rfl) rfl rfl ?_))
            refine w_las (j := B + 6) rfl rfl (by (simp only [kb6, kb7, kb8, kb9, kb16, ki0, ki1, ki2, ki3, ki4, ki5, nI_addR, nI_mulR]; try (congr 1; omega))) (by omega) (by decide) ?_
            (repeat (first | refine w_iadd1 rfl ?_ | refine w_isub1 rfl ?_ | refine w_iinc1 rfl rfl ?_ | refine w_s rfl rfl ?_ | refine w_get rfl rfl rfl rfl ?_ | refine w_nnl rfl ?_ | refine w_nnlR rfl ?_ | refine w_nul rfl ?_ | refine w_nulR rfl ?_ | refine w_ldc rfl rfl ?_ | refine w_ldc2 rfl rfl ?_ | refine w_put rfl rfl rfl (Nat.le_of_ble_eq_true rfl) (Or.inl rfl) rfl rfl ?_))
            refine w_las (j := B + 7) rfl rfl (by (simp only [kb6, kb7, kb8, kb9, kb16, ki0, ki1, ki2, ki3, ki4, ki5, nI_addR, nI_mulR]; try (congr 1; omega))) (by omega) (by decide) ?_
            (repeat (first | refine w_iadd1 rfl ?_ | refine w_isub1 rfl ?_ | refine w_iinc1 rfl rfl ?_ | refine w_s rfl rfl ?_ | refine w_get rfl rfl rfl rfl ?_ | refine w_nnl rfl ?_ | refine w_nnlR rfl ?_ | refine w_nul rfl ?_ | refine w_nulR rfl ?_ | refine w_ldc rfl rfl ?_ | refine w_ldc2 rfl rfl ?_ | refine w_put rfl rfl rfl (Nat.le_of_ble_eq_true rfl) (Or.inl rfl) rfl rfl ?_))
            refine w_ias (j := 14) rfl rfl (by decide) (by omega) (by decide) ?_
            exact w_vret rfl rfl K'
          · rw [if_neg hg] at K'
            refine w_if1 rfl (fun h5 => absurd (c_ne0.mp h5) hg) (fun _ => ?_)
            (repeat (first | refine w_iadd1 rfl ?_ | refine w_isub1 rfl ?_ | refine w_iinc1 rfl rfl ?_ | refine w_s rfl rfl ?_ | refine w_get rfl rfl rfl rfl ?_ | refine w_nnl rfl ?_ | refine w_nnlR rfl ?_ | refine w_nul rfl ?_ | refine w_nulR rfl ?_ | refine w_ldc rfl rfl ?_ | refine w_ldc2 rfl rfl ?_ | refine w_put rfl rfl rfl (Nat.le_of_ble_eq_true rfl) (Or.inl rfl) rfl rfl ?_))
            exact w_vret rfl rfl K'
        (repeat (first | refine w_iadd1 rfl ?_ | refine w_isub1 rfl ?_ | refine w_iinc1 rfl rfl ?_ | refine w_s rfl rfl ?_ | refine w_get rfl rfl rfl rfl ?_ | refine w_nnl rfl ?_ | refine w_nnlR rfl ?_ | refine w_nul rfl ?_ | refine w_nulR rfl ?_ | refine w_ldc rfl rfl ?_ | refine w_ldc2 rfl rfl ?_ | refine w_put rfl rfl rfl (Nat.le_of_ble_eq_true rfl) (Or.inl rfl) rfl rfl ?_))
        refine w_if1 rfl (fun h5 => ?_) (fun h5 => ?_)
        · have h6 : ¬ b = true := c_eq0.mp h5
          (repeat ((fail_if_success (show ax_wp _ _ _ 324 _ _ _)); (first | refine w_iadd1 rfl ?_ | refine w_isub1 rfl ?_ | refine w_iinc1 rfl rfl ?_ | refine w_s rfl rfl ?_ | refine w_get rfl rfl rfl rfl ?_ | refine w_nnl rfl ?_ | refine w_nnlR rfl ?_ | refine w_nul rfl ?_ | refine w_nulR rfl ?_ | refine w_ldc rfl rfl ?_ | refine w_ldc2 rfl rfl ?_ | refine w_put rfl rfl rfl (Nat.le_of_ble_eq_true rfl) (Or.inl rfl) rfl rfl ?_)))
          exact w_lv (fin (Int32.ofInt 0) (bI_f (fun z => h6 z.1)).symm) rfl ⟨rfl, rfl, rfl, rfl, rfl, rfl, rfl, trivial⟩
        · have h6 : b = true := Decidable.not_not.mp (fun z => h5 (c_eq0.mpr z))
          (repeat (first | refine w_iadd1 rfl ?_ | refine w_isub1 rfl ?_ | refine w_iinc1 rfl rfl ?_ | refine w_s rfl rfl ?_ | refine w_get rfl rfl rfl rfl ?_ | refine w_nnl rfl ?_ | refine w_nnlR rfl ?_ | refine w_nul rfl ?_ | refine w_nulR rfl ?_ | refine w_ldc rfl rfl ?_ | refine w_ldc2 rfl rfl ?_ | refine w_put rfl rfl rfl (Nat.le_of_ble_eq_true rfl) (Or.inl rfl) rfl rfl ?_))
          refine w_if1 rfl (fun h7 => ?_) (fun h7 => ?_)
          · have h8 : ((1000 : Int64)).toInt < (Int64.ofNat dy).toInt := c_Lgt.mp h7
            rw [e1, hdd] at h8
            (repeat ((fail_if_success (show ax_wp _ _ _ 324 _ _ _)); (first | refine w_iadd1 rfl ?_ | refine w_isub1 rfl ?_ | refine w_iinc1 rfl rfl ?_ | refine w_s rfl rfl ?_ | refine w_get rfl rfl rfl rfl ?_ | refine w_nnl rfl ?_ | refine w_nnlR rfl ?_ | refine w_nul rfl ?_ | refine w_nulR rfl ?_ | refine w_ldc rfl rfl ?_ | refine w_ldc2 rfl rfl ?_ | refine w_put rfl rfl rfl (Nat.le_of_ble_eq_true rfl) (Or.inl rfl) rfl rfl ?_)))
            exact w_lv (fin (Int32.ofInt 0) (bI_f (fun z => by have := z.2; omega)).symm) rfl ⟨rfl, rfl, rfl, rfl, rfl, rfl, rfl, trivial⟩
          · have h8 : ¬ ((1000 : Int64)).toInt < (Int64.ofNat dy).toInt := fun z => h7 (c_Lgt.mpr z)
            rw [e1, hdd] at h8
            (repeat ((fail_if_success (show ax_wp _ _ _ 324 _ _ _)); (first | refine w_iadd1 rfl ?_ | refine w_isub1 rfl ?_ | refine w_iinc1 rfl rfl ?_ | refine w_s rfl rfl ?_ | refine w_get rfl rfl rfl rfl ?_ | refine w_nnl rfl ?_ | refine w_nnlR rfl ?_ | refine w_nul rfl ?_ | refine w_nulR rfl ?_ | refine w_ldc rfl rfl ?_ | refine w_ldc2 rfl rfl ?_ | refine w_put rfl rfl rfl (Nat.le_of_ble_eq_true rfl) (Or.inl rfl) rfl rfl ?_)))
            exact w_lv (fin (Int32.ofInt 1) (bI_t (P := b = true ∧ dy ≤ 1000) ⟨h6, by omega⟩).symm) rfl ⟨rfl, rfl, rfl, rfl, rfl, rfl, rfl, trivial⟩
      · rw [if_pos h59] at K
        have K' : ∀ a : Nat, Q (.inl none, (ax_hp L xs c (ax_mu m a (nI q2) N) o pool, u)) := K
        (refine w_cv rfl rfl rfl rfl (by exact Nat.le_of_ble_eq_true rfl) (by exact Nat.le_of_ble_eq_true rfl) (n_expect0 hu q2 (by omega) N (Int8.ofInt 59).toInt32 h59) ?_; dsimp only [Option.toList, List.drop, List.cons_append, List.nil_append, e_pl1, e_pl2, e_pl3])
        exact w_lv (rc_d303 q2 (nI q2) (nI_ne (by omega)) N _ (Int64.ofNat dy) (K' q2)) rfl ⟨rfl, rfl, rfl, trivial⟩
    · rw [if_pos hw] at K
      rw [if_neg hw]
      have K' : ∀ a : Nat, Q (.inl none, (ax_hp L xs c (ax_mu m a (nI (q1 + wd m.units m.text q1)) N) o pool, u)) := K
      (repeat ((fail_if_success (show ax_wp _ _ _ 297 _ _ _)); (first | refine w_iadd1 rfl ?_ | refine w_isub1 rfl ?_ | refine w_iinc1 rfl rfl ?_ | refine w_s rfl rfl ?_ | refine w_get rfl rfl rfl rfl ?_ | refine w_nnl rfl ?_ | refine w_nnlR rfl ?_ | refine w_nul rfl ?_ | refine w_nulR rfl ?_ | refine w_ldc rfl rfl ?_ | refine w_ldc2 rfl rfl ?_ | refine w_put rfl rfl rfl (Nat.le_of_ble_eq_true rfl) (Or.inl rfl) rfl rfl ?_)))
      exact w_lv (rc_d297 _ _ (nI_ne (by omega)) N _ _ (K' _)) rfl ⟨rfl, rfl, rfl, trivial⟩
  · rw [if_pos h47] at K
    have K' : ∀ a : Nat, Q (.inl none, (ax_hp L xs c (ax_mu m a (nI q) N) o pool, u)) := K
    (refine w_cv rfl rfl rfl rfl (by exact Nat.le_of_ble_eq_true rfl) (by exact Nat.le_of_ble_eq_true rfl) (n_expect0 hu q (by omega) N (Int8.ofInt 47).toInt32 h47) ?_; dsimp only [Option.toList, List.drop, List.cons_append, List.nil_append, e_pl1, e_pl2, e_pl3])
    exact w_lv (rc_d291 q (nI q) (nI_ne (by omega)) N _ (K' q)) rfl ⟨rfl, rfl, trivial⟩
/-- how readClass ends -/
def QR (L : Nat) (xs : Nat → Int32) (c : ax_St) (m : ax_Mo) (o : Nat → Int64) (pool : List (Option ax_C)) (u i p : Nat) (N : Nat → Int64) (q : Nat ⊕ (Nat × ax_Rw)) (r : ax_R) : Prop := match q with
  | .inl e => ∃ (a : Nat) (N' : Nat → Int64), r = (.inl none, (ax_hp L xs c (ax_mu m a (nI e) N') o pool, u)) ∧ ∀ x, x < 896 → N' x = N x
  | .inr (t, d) => (gok d ∧ i < 4 → ∃ N' : Nat → Int64, r = (.inl none, (ax_hp L xs c (ax_mu (ax_Mo.u_classes m (upd m.classes 14 (nI (i + 1)))) t (Int32.ofInt (-1)) N') o pool, u)) ∧ (∀ x, x < 896 + 16 * i → N' x = N x) ∧ RowIs N' (896 + 16 * i) d) ∧
      (¬ (gok d ∧ i < 4) → ∃ (a : Nat) (N' : Nat → Int64), r = (.inl none, (ax_hp L xs c (ax_mu m a (nI p) N') o pool, u)) ∧ ∀ x, x < 896 → N' x = N x)
theorem n_readClass (hu : m.units ≤ 400) (i p : Nat) (hi : i ≤ 4) (hp : p ≤ m.units) (N : Nat → Int64) : ax_T m_Mo_readClass [.ref 23, .int (nI i)] (ax_hp L xs c (ax_mu m p (Int32.ofInt (-1)) N) o pool, u) (QR L xs c m o pool u i p N (rg m.units m.text p)) := by
  have main : ∀ B, 896 ≤ B → B + 16 ≤ 960 → (i < 4 → B = 896 + 16 * i) → ax_wp ax_run M_Mo_readClass (QR L xs c m o pool u i p N (rg m.units m.text p)) 26 (lb i p B []) [] (ax_hp L xs c (ax_mu m p (Int32.ofInt (-1)) N) o pool, u) := by
    intro B hB1 hB2 hB3
    have m38 : ∀ g : Int32, g = bI (decide (i < 4) = true) → ax_wp ax_run M_Mo_readClass (QR L xs c m o pool u i p N (rg m.units m.text p)) 38 (lb i p B [(4, .int g)]) [] (ax_hp L xs c (ax_mu m p (Int32.ofInt (-1)) N) o pool, u) := by
      intro g hg
      subst hg
      (repeat (first | refine w_iadd1 rfl ?_ | refine w_isub1 rfl ?_ | refine w_iinc1 rfl rfl ?_ | refine w_s rfl rfl ?_ | refine w_get rfl rfl rfl rfl ?_ | refine w_nnl rfl ?_ | refine w_nnlR rfl ?_ | refine w_nul rfl ?_ | refine w_nulR rfl ?_ | refine w_ldc rfl rfl ?_ | refine w_ldc2 rfl rfl ?_ | refine w_put rfl rfl rfl (Nat.le_of_ble_eq_true rfl) (Or.inl rfl) rfl rfl ?_))
      unfold rg
      by_cases h67 : nx m.units m.text p = 67
      · rw [if_neg (fun z => z h67)]
        have hlt := nx_lt h67 (by decide)
        (refine w_cv rfl rfl rfl rfl (by exact Nat.le_of_ble_eq_true rfl) (by exact Nat.le_of_ble_eq_true rfl) (n_expect1 hu p (by omega) N (Int8.ofInt 67).toInt32 h67) ?_; dsimp only [Option.toList, List.drop, List.cons_append, List.nil_append, e_pl1, e_pl2, e_pl3])
        (repeat ((fail_if_success (show ax_wp _ _ _ 47 _ _ _)); (first | refine w_iadd1 rfl ?_ | refine w_isub1 rfl ?_ | refine w_iinc1 rfl rfl ?_ | refine w_s rfl rfl ?_ | refine w_get rfl rfl rfl rfl ?_ | refine w_nnl rfl ?_ | refine w_nnlR rfl ?_ | refine w_nul rfl ?_ | refine w_nulR rfl ?_ | refine w_ldc rfl rfl ?_ | refine w_ldc2 rfl rfl ?_ | refine w_put rfl rfl rfl (Nat.le_of_ble_eq_true rfl) (Or.inl rfl) rfl rfl ?_)))
        refine w_lv (rc_limits (N0 := N) hu hB2 hi 6 0 (p + 1) (fun _ => 0) (decide (i < 4)) N (by omega) (by omega) (by rw [decide_eq_true_eq]; exact ⟨fun z => ⟨z, fun j hj => absurd hj (by omega)⟩, fun z => z.1⟩) (fun x _ => rfl) (fun _ x hx => absurd hx (by omega)) ?_) rfl ⟨rfl, rfl, rfl, rfl, rfl, rfl, trivial⟩
        have hle := rl_le m.units m.text 6 0 (p + 1) (fun _ => 0) (by omega)
        generalize rl m.units m.text 6 0 (p + 1) (fun _ => 0) = RL at hle ⊢
        cases RL with
        | inl e =>
          have hle' : e ≤ m.units := hle
          intro a N'' g hN''
          exact rc_d114 a (nI e) (nI_ne (by omega)) N'' g ⟨a, N'', rfl, fun x hx => hN'' x (by omega)⟩
        | inr ql =>
          obtain ⟨q, l⟩ := ql
          have hle' : q ≤ m.units := hle
          intro b N1 hb1 hlo1 hlm1
          (repeat (first | refine w_iadd1 rfl ?_ | refine w_isub1 rfl ?_ | refine w_iinc1 rfl rfl ?_ | refine w_s rfl rfl ?_ | refine w_get rfl rfl rfl rfl ?_ | refine w_nnl rfl ?_ | refine w_nnlR rfl ?_ | refine w_nul rfl ?_ | refine w_nulR rfl ?_ | refine w_ldc rfl rfl ?_ | refine w_ldc2 rfl rfl ?_ | refine w_put rfl rfl rfl (Nat.le_of_ble_eq_true rfl) (Or.inl rfl) rfl rfl ?_))
          show ax_wp _ _ (QR L xs c m o pool u i p N (if nx m.units m.text q ≠ 58 then .inl q else _)) _ _ _ _
          by_cases h58 : nx m.units m.text q = 58
          · rw [if_neg (fun z => z h58)]
            have hlt2 := nx_lt h58 (by decide)
            (refine w_cv rfl rfl rfl rfl (by exact Nat.le_of_ble_eq_true rfl) (by exact Nat.le_of_ble_eq_true rfl) (n_expect1 hu q (by omega) N1 (Int8.ofInt 58).toInt32 h58) ?_; dsimp only [Option.toList, List.drop, List.cons_append, List.nil_append, e_pl1, e_pl2, e_pl3])
            (repeat (first | refine w_iadd1 rfl ?_ | refine w_isub1 rfl ?_ | refine w_iinc1 rfl rfl ?_ | refine w_s rfl rfl ?_ | refine w_get rfl rfl rfl rfl ?_ | refine w_nnl rfl ?_ | refine w_nnlR rfl ?_ | refine w_nul rfl ?_ | refine w_nulR rfl ?_ | refine w_ldc rfl rfl ?_ | refine w_ldc2 rfl rfl ?_ | refine w_put rfl rfl rfl (Nat.le_of_ble_eq_true rfl) (Or.inl rfl) rfl rfl ?_))
            refine w_if2 rfl (fun h5 => absurd rfl h5) (fun _ => ?_)
            (repeat (first | refine w_iadd1 rfl ?_ | refine w_isub1 rfl ?_ | refine w_iinc1 rfl rfl ?_ | refine w_s rfl rfl ?_ | refine w_get rfl rfl rfl rfl ?_ | refine w_nnl rfl ?_ | refine w_nnlR rfl ?_ | refine w_nul rfl ?_ | refine w_nulR rfl ?_ | refine w_ldc rfl rfl ?_ | refine w_ldc2 rfl rfl ?_ | refine w_put rfl rfl rfl (Nat.le_of_ble_eq_true rfl) (Or.inl rfl) rfl rfl ?_))
            refine w_if1 rfl (fun h5 => absurd h5 k_eq1) (fun _ => ?_)
            (repeat (first | refine w_iadd1 rfl ?_ | refine w_isub1 rfl ?_ | refine w_iinc1 rfl rfl ?_ | refine w_s rfl rfl ?_ | refine w_get rfl rfl rfl rfl ?_ | refine w_nnl rfl ?_ | refine w_nnlR rfl ?_ | refine w_nul rfl ?_ | refine w_nulR rfl ?_ | refine w_ldc rfl rfl ?_ | refine w_ldc2 rfl rfl ?_ | refine w_put rfl rfl rfl (Nat.le_of_ble_eq_true rfl) (Or.inl rfl) rfl rfl ?_))
            refine w_if1 rfl (fun _ => ?_) (fun h5 => absurd (show Int32.ofInt 0 ≤ 0 by decide) h5)
            refine w_lv (rc_steps (N0 := N) (g0 := i < 4 ∧ lok l 6) (l := l) hu hB2 101 0 (q + 1) 0 (fun _ => 0) (fun _ => 0) b N1 (by omega) (by omega) (by omega) (fun j hj => absurd hj (by omega)) rfl ⟨fun z => ⟨hb1.mp z, fun j hj => absurd hj (by omega)⟩, fun z => hb1.mpr z.1⟩ hlo1 hlm1 (fun _ j hj => absurd hj (by omega)) ?_) rfl ⟨rfl, rfl, rfl, rfl, rfl, rfl, rfl, trivial⟩
            have hle2 := rs_le m.units m.text 101 0 (q + 1) (fun _ => 0) (fun _ => 0) (by omega)
            generalize rs m.units m.text 101 0 (q + 1) (fun _ => 0) (fun _ => 0) = RS at hle2 ⊢
            cases RS with
            | inl e =>
              have hle2' : e ≤ m.units := hle2
              intro a N'' g hN''
              exact rc_d285 a (nI e) (nI_ne (by omega)) N'' g ⟨a, N'', rfl, fun x hx => hN'' x (by omega)⟩
            | inr qs =>
              obtain ⟨r, s, fr, ce⟩ := qs
              have hle2' : r ≤ m.units := hle2
              intro b2 N2 hs2 hb2 hlo2 hlm2 hst2
              show ax_wp _ _ (QR L xs c m o pool u i p N (match rd m.units m.text r with | .inl e => .inl e | .inr (t, dy) => .inr (t, ⟨l, s, fr, ce, dy⟩))) _ _ _ _
              refine rc_end hu hB2 r s hle2' b2 N2 ?_
              generalize rd m.units m.text r = RD
              cases RD with
              | inl e =>
                intro a
                exact ⟨a, N2, rfl, fun x hx => hlo2 x (by omega)⟩
              | inr td =>
                obtain ⟨t, dy⟩ := td
                show if b2 = true ∧ dy ≤ 1000 then _ else _
                by_cases hg : b2 = true ∧ dy ≤ 1000
                · rw [if_pos hg]
                  have hst := hb2.mp hg.1
                  have hgi : gok ⟨l, s, fr, ce, dy⟩ ∧ i < 4 := ⟨⟨⟨hst.1.2, hst.2⟩, hg.2⟩, hst.1.1⟩
                  have hs4 : s ≤ 4 := gok_s hgi.1
                  have hBe := hB3 hgi.2
                  subst hBe
                  refine ⟨fun _ => ⟨_, rfl, lo_up (lo_up hlo2 (by omega)) (by omega), fun j hj => ?_, ?_, ?_, fun j hj => ?_⟩, fun z => absurd hgi z⟩
                  · show (vp_updL (vp_updL N2 (896 + 16 * i + 6) (nI s).toInt64) (896 + 16 * i + 7) (Int64.ofNat dy) (896 + 16 * i + j)).toInt = l j
                    unfold vp_updL
                    rw [if_neg (by omega), if_neg (by omega)]
                    exact hlm2 hgi.2 j hj
                  · show (vp_updL (vp_updL N2 (896 + 16 * i + 6) (nI s).toInt64) (896 + 16 * i + 7) (Int64.ofNat dy) (896 + 16 * i + 6)).toInt = (s : Int)
                    unfold vp_updL
                    rw [if_neg (by omega), if_pos rfl, q_i2l, q_nI' (by omega)]
                  · show (vp_updL (vp_updL N2 (896 + 16 * i + 6) (nI s).toInt64) (896 + 16 * i + 7) (Int64.ofNat dy) (896 + 16 * i + 7)).toInt = (dy : Int)
                    unfold vp_updL
                    rw [if_pos rfl]
                    exact q_oN (by omega)
                  · show (vp_updL (vp_updL N2 (896 + 16 * i + 6) (nI s).toInt64) (896 + 16 * i + 7) (Int64.ofNat dy) (896 + 16 * i + (8 + 2 * j))).toInt = (fr j : Int) ∧ (vp_updL (vp_updL N2 (896 + 16 * i + 6) (nI s).toInt64) (896 + 16 * i + 7) (Int64.ofNat dy) (896 + 16 * i + (9 + 2 * j))).toInt = (ce j : Int)
                    unfold vp_updL
                    rw [if_neg (by omega), if_neg (by omega), if_neg (by omega), if_neg (by omega)]
                    exact hst2 hst j hj
                · rw [if_neg hg]
                  refine ⟨fun z => absurd ⟨hb2.mpr ⟨⟨z.2, z.1.1.1⟩, z.1.1.2⟩, z.1.2⟩ hg, fun _ => ⟨t, N2, rfl, fun x hx => hlo2 x (by omega)⟩⟩
          · rw [if_pos h58]
            (refine w_cv rfl rfl rfl rfl (by exact Nat.le_of_ble_eq_true rfl) (by exact Nat.le_of_ble_eq_true rfl) (n_expect0 hu q (by omega) N1 (Int8.ofInt 58).toInt32 h58) ?_; dsimp only [Option.toList, List.drop, List.cons_append, List.nil_append, e_pl1, e_pl2, e_pl3])
            (repeat ((fail_if_success (show ax_wp _ _ _ 129 _ _ _)); (first | refine w_iadd1 rfl ?_ | refine w_isub1 rfl ?_ | refine w_iinc1 rfl rfl ?_ | refine w_s rfl rfl ?_ | refine w_get rfl rfl rfl rfl ?_ | refine w_nnl rfl ?_ | refine w_nnlR rfl ?_ | refine w_nul rfl ?_ | refine w_nulR rfl ?_ | refine w_ldc rfl rfl ?_ | refine w_ldc2 rfl rfl ?_ | refine w_put rfl rfl rfl (Nat.le_of_ble_eq_true rfl) (Or.inl rfl) rfl rfl ?_)))
            exact w_lv (rc_d129 q (nI q) (nI_ne (by omega)) N1 _ (rc_d285 q (nI q) (nI_ne (by omega)) N1 _ ⟨q, N1, rfl, fun x hx => hlo1 x (by omega)⟩)) rfl ⟨rfl, rfl, trivial⟩
      · rw [if_pos h67]
        (refine w_cv rfl rfl rfl rfl (by exact Nat.le_of_ble_eq_true rfl) (by exact Nat.le_of_ble_eq_true rfl) (n_expect0 hu p (by omega) N (Int8.ofInt 67).toInt32 h67) ?_; dsimp only [Option.toList, List.drop, List.cons_append, List.nil_append, e_pl1, e_pl2, e_pl3])
        (repeat ((fail_if_success (show ax_wp _ _ _ 47 _ _ _)); (first | refine w_iadd1 rfl ?_ | refine w_isub1 rfl ?_ | refine w_iinc1 rfl rfl ?_ | refine w_s rfl rfl ?_ | refine w_get rfl rfl rfl rfl ?_ | refine w_nnl rfl ?_ | refine w_nnlR rfl ?_ | refine w_nul rfl ?_ | refine w_nulR rfl ?_ | refine w_ldc rfl rfl ?_ | refine w_ldc2 rfl rfl ?_ | refine w_put rfl rfl rfl (Nat.le_of_ble_eq_true rfl) (Or.inl rfl) rfl rfl ?_)))
        exact w_lv (rc_deadL (N0 := N) hB2 hi p (nI p) (nI_ne (by omega)) (fun N'' g hN'' => rc_d114 p (nI p) (nI_ne (by omega)) N'' g ⟨p, N'', rfl, fun x hx => hN'' x (by omega)⟩) 6 0 (decide (i < 4)) N (by omega) (fun x _ => rfl)) rfl ⟨rfl, rfl, rfl, rfl, rfl, rfl, trivial⟩
    (repeat (first | refine w_iadd1 rfl ?_ | refine w_isub1 rfl ?_ | refine w_iinc1 rfl rfl ?_ | refine w_s rfl rfl ?_ | refine w_get rfl rfl rfl rfl ?_ | refine w_nnl rfl ?_ | refine w_nnlR rfl ?_ | refine w_nul rfl ?_ | refine w_nulR rfl ?_ | refine w_ldc rfl rfl ?_ | refine w_ldc2 rfl rfl ?_ | refine w_put rfl rfl rfl (Nat.le_of_ble_eq_true rfl) (Or.inl rfl) rfl rfl ?_))
    by_cases hi4 : i < 4
    · refine w_if2 rfl (fun h5 => absurd ((cn_ge (a := i) (b := 4) (by omega) (by omega)).mp h5) (by omega)) (fun _ => ?_)
      (repeat ((fail_if_success (show ax_wp _ _ _ 38 _ _ _)); (first | refine w_iadd1 rfl ?_ | refine w_isub1 rfl ?_ | refine w_iinc1 rfl rfl ?_ | refine w_s rfl rfl ?_ | refine w_get rfl rfl rfl rfl ?_ | refine w_nnl rfl ?_ | refine w_nnlR rfl ?_ | refine w_nul rfl ?_ | refine w_nulR rfl ?_ | refine w_ldc rfl rfl ?_ | refine w_ldc2 rfl rfl ?_ | refine w_put rfl rfl rfl (Nat.le_of_ble_eq_true rfl) (Or.inl rfl) rfl rfl ?_)))
      exact w_lv (m38 (Int32.ofInt 1) (bI_t (P := decide (i < 4) = true) (decide_eq_true hi4)).symm) rfl ⟨rfl, rfl, rfl, rfl, rfl, trivial⟩
    · refine w_if2 rfl (fun _ => ?_) (fun h5 => absurd ((cn_ge (a := i) (b := 4) (by omega) (by omega)).mpr (by omega)) h5)
      (repeat ((fail_if_success (show ax_wp _ _ _ 38 _ _ _)); (first | refine w_iadd1 rfl ?_ | refine w_isub1 rfl ?_ | refine w_iinc1 rfl rfl ?_ | refine w_s rfl rfl ?_ | refine w_get rfl rfl rfl rfl ?_ | refine w_nnl rfl ?_ | refine w_nnlR rfl ?_ | refine w_nul rfl ?_ | refine w_nulR rfl ?_ | refine w_ldc rfl rfl ?_ | refine w_ldc2 rfl rfl ?_ | refine w_put rfl rfl rfl (Nat.le_of_ble_eq_true rfl) (Or.inl rfl) rfl rfl ?_)))
      exact w_lv (m38 (Int32.ofInt 0) (bI_f (P := decide (i < 4) = true) (fun z => hi4 (of_decide_eq_true z))).symm) rfl ⟨rfl, rfl, rfl, rfl, rfl, trivial⟩
  (refine ax_T_of M_Mo_readClass rfl (Nat.le_of_ble_eq_true rfl) ?_)
  (repeat (first | refine w_iadd1 rfl ?_ | refine w_isub1 rfl ?_ | refine w_iinc1 rfl rfl ?_ | refine w_s rfl rfl ?_ | refine w_get rfl rfl rfl rfl ?_ | refine w_nnl rfl ?_ | refine w_nnlR rfl ?_ | refine w_nul rfl ?_ | refine w_nulR rfl ?_ | refine w_ldc rfl rfl ?_ | refine w_ldc2 rfl rfl ?_ | refine w_put rfl rfl rfl (Nat.le_of_ble_eq_true rfl) (Or.inl rfl) rfl rfl ?_))
  by_cases hi4 : i < 4
  · refine w_if2 rfl (fun h5 => absurd ((cn_ge (a := i) (b := 4) (by omega) (by omega)).mp h5) (by omega)) (fun _ => ?_)
    (repeat (first | refine w_iadd1 rfl ?_ | refine w_isub1 rfl ?_ | refine w_iinc1 rfl rfl ?_ | refine w_s rfl rfl ?_ | refine w_get rfl rfl rfl rfl ?_ | refine w_nnl rfl ?_ | refine w_nnlR rfl ?_ | refine w_nul rfl ?_ | refine w_nulR rfl ?_ | refine w_ldc rfl rfl ?_ | refine w_ldc2 rfl rfl ?_ | refine w_put rfl rfl rfl (Nat.le_of_ble_eq_true rfl) (Or.inl rfl) rfl rfl ?_))
    (refine w_cs rfl rfl (by first | decide | exact Nat.le_of_ble_eq_true rfl) (by exact Nat.le_of_ble_eq_true rfl) (n_place 14 i (by omega) (by omega)) ?_; dsimp only [Option.toList, List.drop, List.cons_append, List.nil_append, e_pl1, e_pl2, e_pl3])
    (repeat ((fail_if_success (show ax_wp _ _ _ 26 _ _ _)); (first | refine w_iadd1 rfl ?_ | refine w_isub1 rfl ?_ | refine w_iinc1 rfl rfl ?_ | refine w_s rfl rfl ?_ | refine w_get rfl rfl rfl rfl ?_ | refine w_nnl rfl ?_ | refine w_nnlR rfl ?_ | refine w_nul rfl ?_ | refine w_nulR rfl ?_ | refine w_ldc rfl rfl ?_ | refine w_ldc2 rfl rfl ?_ | refine w_put rfl rfl rfl (Nat.le_of_ble_eq_true rfl) (Or.inl rfl) rfl rfl ?_)))
    exact w_lv (main (64 * 14 + 16 * i) (by omega) (by omega) (fun _ => by omega)) rfl ⟨rfl, rfl, rfl, rfl, trivial⟩
  · refine w_if2 rfl (fun _ => ?_) (fun h5 => absurd ((cn_ge (a := i) (b := 4) (by omega) (by omega)).mpr (by omega)) h5)
    (repeat (first | refine w_iadd1 rfl ?_ | refine w_isub1 rfl ?_ | refine w_iinc1 rfl rfl ?_ | refine w_s rfl rfl ?_ | refine w_get rfl rfl rfl rfl ?_ | refine w_nnl rfl ?_ | refine w_nnlR rfl ?_ | refine w_nul rfl ?_ | refine w_nulR rfl ?_ | refine w_ldc rfl rfl ?_ | refine w_ldc2 rfl rfl ?_ | refine w_put rfl rfl rfl (Nat.le_of_ble_eq_true rfl) (Or.inl rfl) rfl rfl ?_))
    (refine w_cs rfl rfl (by first | decide | exact Nat.le_of_ble_eq_true rfl) (by exact Nat.le_of_ble_eq_true rfl) (n_place 14 3 (by omega) (by omega)) ?_; dsimp only [Option.toList, List.drop, List.cons_append, List.nil_append, e_pl1, e_pl2, e_pl3])
    (repeat ((fail_if_success (show ax_wp _ _ _ 26 _ _ _)); (first | refine w_iadd1 rfl ?_ | refine w_isub1 rfl ?_ | refine w_iinc1 rfl rfl ?_ | refine w_s rfl rfl ?_ | refine w_get rfl rfl rfl rfl ?_ | refine w_nnl rfl ?_ | refine w_nnlR rfl ?_ | refine w_nul rfl ?_ | refine w_nulR rfl ?_ | refine w_ldc rfl rfl ?_ | refine w_ldc2 rfl rfl ?_ | refine w_put rfl rfl rfl (Nat.le_of_ble_eq_true rfl) (Or.inl rfl) rfl rfl ?_)))
    exact w_lv (main (64 * 14 + 16 * 3) (by omega) (by omega) (fun z => absurd z hi4)) rfl ⟨rfl, rfl, rfl, rfl, trivial⟩
end ME
