section RLS
variable {L : Nat} {xs : Nat → Int32} {c : ax_St} {m : ax_Mo} {o : Nat → Int64} {P : List (Option ax_C)} {u : Nat}
abbrev lok (l : Nat → Nat) (i : Nat) : Prop := ∀ j, j < i → l j ≤ 1000000
abbrev LimOk (l : Nat → Nat) (lim : Nat → Int32) (i : Nat) (can : Int32) : Prop := (can = bI (lok l i)) ∧ (lok l i → ∀ j, j < i → lim j = nI (l j))
theorem LimOk.can {l : Nat → Nat} {lim : Nat → Int32} {i : Nat} {can : Int32} (h_ : LimOk l lim i can) : can = bI (lok l i) := h_.1
theorem LimOk.eq {l : Nat → Nat} {lim : Nat → Int32} {i : Nat} {can : Int32} (h_ : LimOk l lim i can) : lok l i → ∀ j, j < i → lim j = nI (l j) := h_.2
/-- how the reading of limits ends -/
def PostL (n : Nat) (f : Nat → Int32) (q : Nat ⊕ (Nat × (Nat → Nat))) (b : Int32) (p : Nat) (lim : Nat → Int32) (can : Int32) : Prop := match q with
  | .inl e => p = e ∧ (b = 0 ∨ (b = 1 ∧ dg n f e))
  | .inr (e, l) => p = e ∧ b = 1 ∧ LimOk l lim 6 can
def QL (L : Nat) (xs : Nat → Int32) (c : ax_St) (m : ax_Mo) (o : Nat → Int64) (P : List (Option ax_C)) (u : Nat) (fr ce : Nat → Int32) (s : Nat) (dy : Int32) (q : Nat ⊕ (Nat × (Nat → Nat))) (r : ax_R) : Prop :=
  ∃ (b : Int32) (p : Nat) (lim : Nat → Int32) (can : Int32), r = (.inl (some (.int b)), (ax_hp L xs (ax_St.u_pl c p) m o (P ++ gC P.length lim fr ce s dy can), u)) ∧ PostL c.tl c.ch q b p lim can
theorem dg_ne {n : Nat} {f : Nat → Int32} {p : Nat} {x : Int32} (h : dg n f p) (hx : ¬ (48 ≤ x.toInt ∧ x.toInt ≤ 57)) : ¬ nx n f p = x := by
  intro z
  apply hx
  rw [← z]
  exact h
theorem r_readLimits {fr ce : Nat → Int32} {s : Nat} {dy : Int32} (hn : c.tl ≤ 400) (p : Nat) (hp : p ≤ c.tl) :
    ax_T m_Tx_readLimits [.ref 2, .ref (P.length + 0 + 40)] (ax_hp L xs (ax_St.u_pl c p) m o (P ++ gC P.length (fun _ => 0) fr ce s dy 1), u) (QL L xs c m o P u fr ce s dy (rl c.tl c.ch 6 0 p (fun _ => 0))) := by
  have ov : ∀ (i e : Nat) (lim : Nat → Int32) (can : Int32), 1 ≤ i → i ≤ 6 → e ≤ c.tl → dg c.tl c.ch e → ax_wp ax_run M_Tx_readLimits (QL L xs c m o P u fr ce s dy (.inl e)) 2 [(0, .ref 2), (1, .ref (P.length + 0 + 40)), (2, .int (nI i))] [] (ax_hp L xs (ax_St.u_pl c e) m o (P ++ gC P.length lim fr ce s dy can), u) := by
    intro i e lim can h1 h2 h3 h4
    (repeat (first | refine w_iadd1 rfl ?_ | refine w_isub1 rfl ?_ | refine w_iinc1 rfl rfl ?_ | refine w_s rfl rfl ?_ | refine w_get rfl rfl rfl rfl ?_ | refine w_nnl rfl ?_ | refine w_nnlR rfl ?_ | refine w_nul rfl ?_ | refine w_nulR rfl ?_ | refine w_ldc rfl rfl ?_ | refine w_ldc2 rfl rfl ?_ | refine w_put rfl rfl rfl (Nat.le_of_ble_eq_true rfl) (Or.inl rfl) rfl rfl ?_))
    by_cases h6 : i = 6
    · subst h6
      refine w_if2 rfl (fun _ => ?_) (fun h5 => absurd ((cn_ge (a := 6) (b := 6) (by omega) (by omega)).mpr (Nat.le_refl _)) h5)
      (repeat (first | refine w_iadd1 rfl ?_ | refine w_isub1 rfl ?_ | refine w_iinc1 rfl rfl ?_ | refine w_s rfl rfl ?_ | refine w_get rfl rfl rfl rfl ?_ | refine w_nnl rfl ?_ | refine w_nnlR rfl ?_ | refine w_nul rfl ?_ | refine w_nulR rfl ?_ | refine w_ldc rfl rfl ?_ | refine w_ldc2 rfl rfl ?_ | refine w_put rfl rfl rfl (Nat.le_of_ble_eq_true rfl) (Or.inl rfl) rfl rfl ?_))
      (refine w_iret rfl rfl rfl ?_)
      exact ⟨1, e, lim, can, rfl, rfl, Or.inr ⟨rfl, h4⟩⟩
    · refine w_if2 rfl (fun h5 => absurd ((cn_ge (a := i) (b := 6) (by omega) (by omega)).mp h5) (by omega)) (fun _ => ?_)
      (repeat (first | refine w_iadd1 rfl ?_ | refine w_isub1 rfl ?_ | refine w_iinc1 rfl rfl ?_ | refine w_s rfl rfl ?_ | refine w_get rfl rfl rfl rfl ?_ | refine w_nnl rfl ?_ | refine w_nnlR rfl ?_ | refine w_nul rfl ?_ | refine w_nulR rfl ?_ | refine w_ldc rfl rfl ?_ | refine w_ldc2 rfl rfl ?_ | refine w_put rfl rfl rfl (Nat.le_of_ble_eq_true rfl) (Or.inl rfl) rfl rfl ?_))
      refine w_if1 rfl (fun h5 => absurd (Int32.le_iff_toInt_le.mp (show nI i ≤ 0 from h5)) (by rw [q_nI' (by omega)]; show ¬ (i : Int) ≤ 0; omega)) (fun _ => ?_)
      (repeat (first | refine w_iadd1 rfl ?_ | refine w_isub1 rfl ?_ | refine w_iinc1 rfl rfl ?_ | refine w_s rfl rfl ?_ | refine w_get rfl rfl rfl rfl ?_ | refine w_nnl rfl ?_ | refine w_nnlR rfl ?_ | refine w_nul rfl ?_ | refine w_nulR rfl ?_ | refine w_ldc rfl rfl ?_ | refine w_ldc2 rfl rfl ?_ | refine w_put rfl rfl rfl (Nat.le_of_ble_eq_true rfl) (Or.inl rfl) rfl rfl ?_))
      (refine w_cv rfl rfl rfl rfl (by exact Nat.le_of_ble_eq_true rfl) (by exact Nat.le_of_ble_eq_true rfl) (r_passes0 (c := (ax_St.u_pl c e)) hn (by show e ≤ 1000; omega) (Int8.ofInt 44).toInt32 (dg_ne h4 (by decide))) ?_; dsimp only [Option.toList, List.drop, List.cons_append, List.nil_append, e_pl1, e_pl2, e_pl3])
      refine w_if1 rfl (fun h5 => absurd rfl h5) (fun _ => ?_)
      (repeat (first | refine w_iadd1 rfl ?_ | refine w_isub1 rfl ?_ | refine w_iinc1 rfl rfl ?_ | refine w_s rfl rfl ?_ | refine w_get rfl rfl rfl rfl ?_ | refine w_nnl rfl ?_ | refine w_nnlR rfl ?_ | refine w_nul rfl ?_ | refine w_nulR rfl ?_ | refine w_ldc rfl rfl ?_ | refine w_ldc2 rfl rfl ?_ | refine w_put rfl rfl rfl (Nat.le_of_ble_eq_true rfl) (Or.inl rfl) rfl rfl ?_))
      (refine w_iret rfl rfl rfl ?_)
      exact ⟨0, e, lim, can, rfl, rfl, Or.inl rfl⟩
  have lp : ∀ (k i p : Nat) (l : Nat → Nat) (lim : Nat → Int32) (can : Int32), i + k = 6 → p ≤ c.tl → LimOk l lim i can → ax_wp ax_run M_Tx_readLimits (QL L xs c m o P u fr ce s dy (rl c.tl c.ch k i p l)) 2 [(0, .ref 2), (1, .ref (P.length + 0 + 40)), (2, .int (nI i))] [] (ax_hp L xs (ax_St.u_pl c p) m o (P ++ gC P.length lim fr ce s dy can), u) := by
    intro k
    induction k with
    | zero =>
      intro i p l lim can hi hp hl
      have : i = 6 := by omega
      subst this
      (repeat (first | refine w_iadd1 rfl ?_ | refine w_isub1 rfl ?_ | refine w_iinc1 rfl rfl ?_ | refine w_s rfl rfl ?_ | refine w_get rfl rfl rfl rfl ?_ | refine w_nnl rfl ?_ | refine w_nnlR rfl ?_ | refine w_nul rfl ?_ | refine w_nulR rfl ?_ | refine w_ldc rfl rfl ?_ | refine w_ldc2 rfl rfl ?_ | refine w_put rfl rfl rfl (Nat.le_of_ble_eq_true rfl) (Or.inl rfl) rfl rfl ?_))
      refine w_if2 rfl (fun _ => ?_) (fun h5 => absurd ((cn_ge (a := 6) (b := 6) (by omega) (by omega)).mpr (Nat.le_refl _)) h5)
      (repeat (first | refine w_iadd1 rfl ?_ | refine w_isub1 rfl ?_ | refine w_iinc1 rfl rfl ?_ | refine w_s rfl rfl ?_ | refine w_get rfl rfl rfl rfl ?_ | refine w_nnl rfl ?_ | refine w_nnlR rfl ?_ | refine w_nul rfl ?_ | refine w_nulR rfl ?_ | refine w_ldc rfl rfl ?_ | refine w_ldc2 rfl rfl ?_ | refine w_put rfl rfl rfl (Nat.le_of_ble_eq_true rfl) (Or.inl rfl) rfl rfl ?_))
      (refine w_iret rfl rfl rfl ?_)
      exact ⟨1, p, lim, can, rfl, rfl, rfl, hl⟩
    | succ k ih =>
      intro i p l lim can hi hp hl
      /- the number itself, from q on -/
      have num : ∀ q, q ≤ c.tl → q = (if i = 0 then p else p + 1) → (rl c.tl c.ch (k + 1) i p l = if wok c.tl c.ch q then rl c.tl c.ch k (i + 1) (q + wd c.tl c.ch q) (va_up l i (wv c.tl c.ch q)) else .inl (q + wd c.tl c.ch q)) → ax_wp ax_run M_Tx_readLimits (QL L xs c m o P u fr ce s dy (rl c.tl c.ch (k + 1) i p l)) 23 [(0, .ref 2), (1, .ref (P.length + 0 + 40)), (2, .int (nI i))] [] (ax_hp L xs (ax_St.u_pl c q) m o (P ++ gC P.length lim fr ce s dy can), u) := by
        intro q hq hqe hrl
        rw [hrl]
        have hwn := wd_n (f := c.ch) hq
        have hvl := wv_lt c.tl c.ch q
        (repeat (first | refine w_iadd1 rfl ?_ | refine w_isub1 rfl ?_ | refine w_iinc1 rfl rfl ?_ | refine w_s rfl rfl ?_ | refine w_get rfl rfl rfl rfl ?_ | refine w_nnl rfl ?_ | refine w_nnlR rfl ?_ | refine w_nul rfl ?_ | refine w_nulR rfl ?_ | refine w_ldc rfl rfl ?_ | refine w_ldc2 rfl rfl ?_ | refine w_put rfl rfl rfl (Nat.le_of_ble_eq_true rfl) (Or.inl rfl) rfl rfl ?_))
        by_cases h0 : wd c.tl c.ch q = 0
        · rw [if_neg (fun z => z.1 h0), h0]
          (refine w_cv rfl rfl rfl rfl (by exact Nat.le_of_ble_eq_true rfl) (by exact Nat.le_of_ble_eq_true rfl) (r_whole0 (c := (ax_St.u_pl c q)) hn (by show q ≤ 1000; omega) h0) ?_; dsimp only [Option.toList, List.drop, List.cons_append, List.nil_append, e_pl1, e_pl2, e_pl3])
          (repeat (first | refine w_iadd1 rfl ?_ | refine w_isub1 rfl ?_ | refine w_iinc1 rfl rfl ?_ | refine w_s rfl rfl ?_ | refine w_get rfl rfl rfl rfl ?_ | refine w_nnl rfl ?_ | refine w_nnlR rfl ?_ | refine w_nul rfl ?_ | refine w_nulR rfl ?_ | refine w_ldc rfl rfl ?_ | refine w_ldc2 rfl rfl ?_ | refine w_put rfl rfl rfl (Nat.le_of_ble_eq_true rfl) (Or.inl rfl) rfl rfl ?_))
          refine w_if2 rfl (fun h5 => absurd rfl h5) (fun _ => ?_)
          (repeat (first | refine w_iadd1 rfl ?_ | refine w_isub1 rfl ?_ | refine w_iinc1 rfl rfl ?_ | refine w_s rfl rfl ?_ | refine w_get rfl rfl rfl rfl ?_ | refine w_nnl rfl ?_ | refine w_nnlR rfl ?_ | refine w_nul rfl ?_ | refine w_nulR rfl ?_ | refine w_ldc rfl rfl ?_ | refine w_ldc2 rfl rfl ?_ | refine w_put rfl rfl rfl (Nat.le_of_ble_eq_true rfl) (Or.inl rfl) rfl rfl ?_))
          (refine w_iret rfl rfl rfl ?_)
          exact ⟨0, q, lim, can, rfl, rfl, Or.inl rfl⟩
        · (refine w_cv rfl rfl rfl rfl (by exact Nat.le_of_ble_eq_true rfl) (by exact Nat.le_of_ble_eq_true rfl) (r_whole1 (c := (ax_St.u_pl c q)) hn hq h0) ?_; dsimp only [Option.toList, List.drop, List.cons_append, List.nil_append, e_pl1, e_pl2, e_pl3])
          (repeat (first | refine w_iadd1 rfl ?_ | refine w_isub1 rfl ?_ | refine w_iinc1 rfl rfl ?_ | refine w_s rfl rfl ?_ | refine w_get rfl rfl rfl rfl ?_ | refine w_nnl rfl ?_ | refine w_nnlR rfl ?_ | refine w_nul rfl ?_ | refine w_nulR rfl ?_ | refine w_ldc rfl rfl ?_ | refine w_ldc2 rfl rfl ?_ | refine w_put rfl rfl rfl (Nat.le_of_ble_eq_true rfl) (Or.inl rfl) rfl rfl ?_))
          refine w_if2 rfl (fun _ => ?_) (fun h5 => absurd (Decidable.not_not.mp h5) (nI_ne (by omega)))
          (repeat (first | refine w_iadd1 rfl ?_ | refine w_isub1 rfl ?_ | refine w_iinc1 rfl rfl ?_ | refine w_s rfl rfl ?_ | refine w_get rfl rfl rfl rfl ?_ | refine w_nnl rfl ?_ | refine w_nnlR rfl ?_ | refine w_nul rfl ?_ | refine w_nulR rfl ?_ | refine w_ldc rfl rfl ?_ | refine w_ldc2 rfl rfl ?_ | refine w_put rfl rfl rfl (Nat.le_of_ble_eq_true rfl) (Or.inl rfl) rfl rfl ?_))
          have set1 : ∃ (lim' : Nat → Int32) (can' : Int32), LimOk (va_up l i (wv c.tl c.ch q)) lim' (i + 1) can' ∧ ax_run m_Gr_setLimit [.ref (P.length + 0 + 40), .int (nI i), .int (nI (wv c.tl c.ch q))] (ax_hp L xs (ax_St.u_pl c (q + wd c.tl c.ch q)) m o (P ++ gC P.length lim fr ce s dy can), u) (.inl none, (ax_hp L xs (ax_St.u_pl c (q + wd c.tl c.ch q)) m o (P ++ gC P.length lim' fr ce s dy can'), u)) := by
            by_cases hv : wv c.tl c.ch q ≤ 1000000
            · have hiff : lok (va_up l i (wv c.tl c.ch q)) (i + 1) ↔ lok l i := by
                constructor
                · intro z j hj
                  have := z j (by omega)
                  rw [va_up_ne _ _ (by omega)] at this
                  exact this
                · intro z j hj
                  by_cases hji : j = i
                  · subst hji; rw [va_up_self]; exact hv
                  · rw [va_up_ne _ _ hji]; exact z j (by omega)
              refine ⟨upd lim i (nI (wv c.tl c.ch q)), can, ⟨?_, fun z j hj => ?_⟩, r_setLimit1 i _ (by omega) hv⟩
              · rw [hl.can]
                exact bI_iff hiff.symm
              · unfold upd
                by_cases hji : j = i
                · subst hji; rw [if_pos rfl, va_up_self]
                · rw [if_neg hji, va_up_ne _ _ hji]; exact hl.eq (hiff.mp z) j (by omega)
            · have hno : ¬ lok (va_up l i (wv c.tl c.ch q)) (i + 1) := by
                intro z
                have := z i (by omega)
                rw [va_up_self] at this
                exact hv this
              exact ⟨lim, 0, ⟨(bI_f hno).symm, fun z => absurd z hno⟩, r_setLimit0 i _ (by omega) (by omega) hvl⟩
          obtain ⟨lim', can', hl', hset⟩ := set1
          refine w_cv rfl rfl rfl (hp_at (ga (X := gC P.length lim fr ce s dy can) (j := 0) rfl)) (Nat.le_of_ble_eq_true rfl) (Nat.le_of_ble_eq_true rfl) hset ?_
          dsimp only [Option.toList, List.drop, List.cons_append, List.nil_append, e_pl1, e_pl2, e_pl3]
          by_cases hov : dg c.tl c.ch (q + wd c.tl c.ch q)
          · rw [if_neg (fun z => z.2 hov)]
            (repeat ((fail_if_success (show ax_wp _ _ _ 2 _ _ _)); (first | refine w_iadd1 rfl ?_ | refine w_isub1 rfl ?_ | refine w_iinc1 rfl rfl ?_ | refine w_s rfl rfl ?_ | refine w_get rfl rfl rfl rfl ?_ | refine w_nnl rfl ?_ | refine w_nnlR rfl ?_ | refine w_nul rfl ?_ | refine w_nulR rfl ?_ | refine w_ldc rfl rfl ?_ | refine w_ldc2 rfl rfl ?_ | refine w_put rfl rfl rfl (Nat.le_of_ble_eq_true rfl) (Or.inl rfl) rfl rfl ?_)))
            exact w_lv (ov (i + 1) (q + wd c.tl c.ch q) lim' can' (by omega) (by omega) hwn hov) rfl ⟨rfl, rfl, rfl, trivial⟩
          · rw [if_pos ⟨h0, hov⟩]
            (repeat ((fail_if_success (show ax_wp _ _ _ 2 _ _ _)); (first | refine w_iadd1 rfl ?_ | refine w_isub1 rfl ?_ | refine w_iinc1 rfl rfl ?_ | refine w_s rfl rfl ?_ | refine w_get rfl rfl rfl rfl ?_ | refine w_nnl rfl ?_ | refine w_nnlR rfl ?_ | refine w_nul rfl ?_ | refine w_nulR rfl ?_ | refine w_ldc rfl rfl ?_ | refine w_ldc2 rfl rfl ?_ | refine w_put rfl rfl rfl (Nat.le_of_ble_eq_true rfl) (Or.inl rfl) rfl rfl ?_)))
            exact w_lv (ih (i + 1) (q + wd c.tl c.ch q) _ lim' can' (by omega) hwn hl') rfl ⟨rfl, rfl, rfl, trivial⟩
      (repeat (first | refine w_iadd1 rfl ?_ | refine w_isub1 rfl ?_ | refine w_iinc1 rfl rfl ?_ | refine w_s rfl rfl ?_ | refine w_get rfl rfl rfl rfl ?_ | refine w_nnl rfl ?_ | refine w_nnlR rfl ?_ | refine w_nul rfl ?_ | refine w_nulR rfl ?_ | refine w_ldc rfl rfl ?_ | refine w_ldc2 rfl rfl ?_ | refine w_put rfl rfl rfl (Nat.le_of_ble_eq_true rfl) (Or.inl rfl) rfl rfl ?_))
      refine w_if2 rfl (fun h5 => absurd ((cn_ge (a := i) (b := 6) (by omega) (by omega)).mp h5) (by omega)) (fun _ => ?_)
      (repeat (first | refine w_iadd1 rfl ?_ | refine w_isub1 rfl ?_ | refine w_iinc1 rfl rfl ?_ | refine w_s rfl rfl ?_ | refine w_get rfl rfl rfl rfl ?_ | refine w_nnl rfl ?_ | refine w_nnlR rfl ?_ | refine w_nul rfl ?_ | refine w_nulR rfl ?_ | refine w_ldc rfl rfl ?_ | refine w_ldc2 rfl rfl ?_ | refine w_put rfl rfl rfl (Nat.le_of_ble_eq_true rfl) (Or.inl rfl) rfl rfl ?_))
      by_cases hi0 : i = 0
      · subst hi0
        refine w_if1 rfl (fun _ => ?_) (fun h5 => absurd (show nI 0 ≤ 0 by decide) h5)
        refine w_lv (num p hp rfl ?_) rfl ⟨rfl, rfl, rfl, trivial⟩
        show (if (0 ≠ 0 ∧ _) then _ else _) = _
        rw [if_neg (fun z => z.1 rfl)]
        rfl
      · refine w_if1 rfl (fun h5 => absurd (Int32.le_iff_toInt_le.mp (show nI i ≤ 0 from h5)) (by rw [q_nI' (by omega)]; show ¬ (i : Int) ≤ 0; omega)) (fun _ => ?_)
        (repeat (first | refine w_iadd1 rfl ?_ | refine w_isub1 rfl ?_ | refine w_iinc1 rfl rfl ?_ | refine w_s rfl rfl ?_ | refine w_get rfl rfl rfl rfl ?_ | refine w_nnl rfl ?_ | refine w_nnlR rfl ?_ | refine w_nul rfl ?_ | refine w_nulR rfl ?_ | refine w_ldc rfl rfl ?_ | refine w_ldc2 rfl rfl ?_ | refine w_put rfl rfl rfl (Nat.le_of_ble_eq_true rfl) (Or.inl rfl) rfl rfl ?_))
        by_cases hc : nx c.tl c.ch p = 44
        · have hpl : p < c.tl := by
            by_cases z : p < c.tl
            · exact z
            · unfold nx at hc
              rw [if_neg z] at hc
              exact absurd hc (by decide)
          (refine w_cv rfl rfl rfl rfl (by exact Nat.le_of_ble_eq_true rfl) (by exact Nat.le_of_ble_eq_true rfl) (r_passes1 (c := (ax_St.u_pl c p)) hn (by show p ≤ 1000; omega) (Int8.ofInt 44).toInt32 hc) ?_; dsimp only [Option.toList, List.drop, List.cons_append, List.nil_append, e_pl1, e_pl2, e_pl3])
          refine w_if1 rfl (fun _ => ?_) (fun h5 => absurd k_ne1 h5)
          refine w_lv (num (p + 1) (by omega) (by rw [if_neg hi0]) ?_) rfl ⟨rfl, rfl, rfl, trivial⟩
          show (if (i ≠ 0 ∧ nx c.tl c.ch p ≠ 44) then _ else _) = _
          rw [if_neg (fun z => z.2 hc)]
          simp only [if_neg hi0]
        · (refine w_cv rfl rfl rfl rfl (by exact Nat.le_of_ble_eq_true rfl) (by exact Nat.le_of_ble_eq_true rfl) (r_passes0 (c := (ax_St.u_pl c p)) hn (by show p ≤ 1000; omega) (Int8.ofInt 44).toInt32 hc) ?_; dsimp only [Option.toList, List.drop, List.cons_append, List.nil_append, e_pl1, e_pl2, e_pl3])
          refine w_if1 rfl (fun h5 => absurd rfl h5) (fun _ => ?_)
          (repeat (first | refine w_iadd1 rfl ?_ | refine w_isub1 rfl ?_ | refine w_iinc1 rfl rfl ?_ | refine w_s rfl rfl ?_ | refine w_get rfl rfl rfl rfl ?_ | refine w_nnl rfl ?_ | refine w_nnlR rfl ?_ | refine w_nul rfl ?_ | refine w_nulR rfl ?_ | refine w_ldc rfl rfl ?_ | refine w_ldc2 rfl rfl ?_ | refine w_put rfl rfl rfl (Nat.le_of_ble_eq_true rfl) (Or.inl rfl) rfl rfl ?_))
          (refine w_iret rfl rfl rfl ?_)
          have e : rl c.tl c.ch (k + 1) i p l = .inl p := if_pos ⟨hi0, hc⟩
          rw [e]
          exact ⟨0, p, lim, can, rfl, rfl, Or.inl rfl⟩
  (refine ax_T_of M_Tx_readLimits rfl (Nat.le_of_ble_eq_true rfl) ?_)
  (repeat ((fail_if_success (show ax_wp _ _ _ 2 _ _ _)); (first | refine w_iadd1 rfl ?_ | refine w_isub1 rfl ?_ | refine w_iinc1 rfl rfl ?_ | refine w_s rfl rfl ?_ | refine w_get rfl rfl rfl rfl ?_ | refine w_nnl rfl ?_ | refine w_nnlR rfl ?_ | refine w_nul rfl ?_ | refine w_nulR rfl ?_ | refine w_ldc rfl rfl ?_ | refine w_ldc2 rfl rfl ?_ | refine w_put rfl rfl rfl (Nat.le_of_ble_eq_true rfl) (Or.inl rfl) rfl rfl ?_)))
  refine w_lv (lp 6 0 p (fun _ => 0) (fun _ => 0) 1 (by omega) hp ⟨(bI_t (fun j hj => absurd hj (by omega))).symm, fun _ j hj => absurd hj (by omega)⟩) rfl ⟨rfl, rfl, rfl, trivial⟩
end RLS
