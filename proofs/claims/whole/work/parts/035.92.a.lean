/-- a class's text, from p on -/
def rg (n : Nat) (f : Nat → Int32) (p : Nat) : Nat ⊕ (Nat × ax_Rw) :=
  if nx n f p ≠ 67 then .inl p else match rl n f 6 0 (p + 1) (fun _ => 0) with
    | .inl e => .inl e
    | .inr (q, l) => if nx n f q ≠ 58 then .inl q else match rs n f 101 0 (q + 1) (fun _ => 0) (fun _ => 0) with
      | .inl e => .inl e
      | .inr (r, s, fr, ce) => match rd n f r with
        | .inl e => .inl e
        | .inr (t, dy) => .inr (t, ⟨l, s, fr, ce, dy⟩)
abbrev gok (d : ax_Rw) : Prop := stok (lok d.lim 6) d.fr d.ce d.s ∧ d.dy ≤ 1000
/-- a grade says what the text says -/
abbrev GM (G : ax_Gr) (d : ax_Rw) : Prop := (∀ j, j < 6 → G.lim j = nI (d.lim j)) ∧ (G.st = d.s) ∧ (∀ j, j < d.s → G.fr j = nI (d.fr j)) ∧ (∀ j, j < d.s → G.ce j = nI (d.ce j)) ∧ (G.dy = nI d.dy)
theorem GM.lim {G : ax_Gr} {d : ax_Rw} (h_ : GM G d) : ∀ j, j < 6 → G.lim j = nI (d.lim j) := h_.1
theorem GM.st {G : ax_Gr} {d : ax_Rw} (h_ : GM G d) : G.st = d.s := h_.2.1
theorem GM.fr {G : ax_Gr} {d : ax_Rw} (h_ : GM G d) : ∀ j, j < d.s → G.fr j = nI (d.fr j) := h_.2.2.1
theorem GM.ce {G : ax_Gr} {d : ax_Rw} (h_ : GM G d) : ∀ j, j < d.s → G.ce j = nI (d.ce j) := h_.2.2.2.1
theorem GM.dy {G : ax_Gr} {d : ax_Rw} (h_ : GM G d) : G.dy = nI d.dy := h_.2.2.2.2
section RGD
variable {L : Nat} {xs : Nat → Int32} {c : ax_St} {m : ax_Mo} {o : Nat → Int64} {P : List (Option ax_C)} {u : Nat}
theorem r_readDays {lim fr ce : Nat → Int32} {s : Nat} {g : Prop} [Decidable g] (hn : c.tl ≤ 400) (p : Nat) (hp : p ≤ c.tl) (h0 : wd c.tl c.ch p ≠ 0) :
    ∃ (dy' can' : Int32), can' = bI (g ∧ wv c.tl c.ch p ≤ 1000) ∧ (g ∧ wv c.tl c.ch p ≤ 1000 → dy' = nI (wv c.tl c.ch p)) ∧ ax_run m_Tx_readDays [.ref 2, .ref (P.length + 0 + 40)] (ax_hp L xs (ax_St.u_pl c p) m o (P ++ gC P.length lim fr ce s 0 (bI g)), u) (.inl (some (.int 1)), (ax_hp L xs (ax_St.u_pl c (p + wd c.tl c.ch p)) m o (P ++ gC P.length lim fr ce s dy' can'), u)) := by
  have hvl := wv_lt c.tl c.ch p
  by_cases hv : wv c.tl c.ch p ≤ 1000
  · refine ⟨nI (wv c.tl c.ch p), bI g, bI_iff ⟨fun z => ⟨z, hv⟩, fun z => z.1⟩, fun _ => rfl, ?_⟩
    (refine ax_run_T (ax_T_of M_Tx_readDays rfl (Nat.le_of_ble_eq_true rfl) ?_))
    (repeat (first | refine w_iadd1 rfl ?_ | refine w_isub1 rfl ?_ | refine w_iinc1 rfl rfl ?_ | refine w_s rfl rfl ?_ | refine w_get rfl rfl rfl rfl ?_ | refine w_nnl rfl ?_ | refine w_nnlR rfl ?_ | refine w_nul rfl ?_ | refine w_nulR rfl ?_ | refine w_ldc rfl rfl ?_ | refine w_ldc2 rfl rfl ?_ | refine w_put rfl rfl rfl (Nat.le_of_ble_eq_true rfl) (Or.inl rfl) rfl rfl ?_))
    (refine w_cv rfl rfl rfl rfl (by exact Nat.le_of_ble_eq_true rfl) (by exact Nat.le_of_ble_eq_true rfl) (r_whole1 (c := (ax_St.u_pl c p)) hn hp h0) ?_; dsimp only [Option.toList, List.drop, List.cons_append, List.nil_append, e_pl1, e_pl2, e_pl3])
    (repeat (first | refine w_iadd1 rfl ?_ | refine w_isub1 rfl ?_ | refine w_iinc1 rfl rfl ?_ | refine w_s rfl rfl ?_ | refine w_get rfl rfl rfl rfl ?_ | refine w_nnl rfl ?_ | refine w_nnlR rfl ?_ | refine w_nul rfl ?_ | refine w_nulR rfl ?_ | refine w_ldc rfl rfl ?_ | refine w_ldc2 rfl rfl ?_ | refine w_put rfl rfl rfl (Nat.le_of_ble_eq_true rfl) (Or.inl rfl) rfl rfl ?_))
    refine w_if2 rfl (fun _ => ?_) (fun h5 => absurd (Decidable.not_not.mp h5) (nI_ne (by omega)))
    (repeat (first | refine w_iadd1 rfl ?_ | refine w_isub1 rfl ?_ | refine w_iinc1 rfl rfl ?_ | refine w_s rfl rfl ?_ | refine w_get rfl rfl rfl rfl ?_ | refine w_nnl rfl ?_ | refine w_nnlR rfl ?_ | refine w_nul rfl ?_ | refine w_nulR rfl ?_ | refine w_ldc rfl rfl ?_ | refine w_ldc2 rfl rfl ?_ | refine w_put rfl rfl rfl (Nat.le_of_ble_eq_true rfl) (Or.inl rfl) rfl rfl ?_))
    refine w_cv rfl rfl rfl (hp_at (ga (X := gC P.length lim fr ce s 0 (bI g)) (j := 0) rfl)) (Nat.le_of_ble_eq_true rfl) (Nat.le_of_ble_eq_true rfl) (r_setDays1 (wv c.tl c.ch p) hv) ?_
    dsimp only [Option.toList, List.drop, List.cons_append, List.nil_append, e_pl1, e_pl2, e_pl3]
    (repeat (first | refine w_iadd1 rfl ?_ | refine w_isub1 rfl ?_ | refine w_iinc1 rfl rfl ?_ | refine w_s rfl rfl ?_ | refine w_get rfl rfl rfl rfl ?_ | refine w_nnl rfl ?_ | refine w_nnlR rfl ?_ | refine w_nul rfl ?_ | refine w_nulR rfl ?_ | refine w_ldc rfl rfl ?_ | refine w_ldc2 rfl rfl ?_ | refine w_put rfl rfl rfl (Nat.le_of_ble_eq_true rfl) (Or.inl rfl) rfl rfl ?_))
    (refine w_iret rfl rfl rfl ?_)
    rfl
  · refine ⟨0, 0, (bI_f (fun z => hv z.2)).symm, fun z => absurd z.2 hv, ?_⟩
    (refine ax_run_T (ax_T_of M_Tx_readDays rfl (Nat.le_of_ble_eq_true rfl) ?_))
    (repeat (first | refine w_iadd1 rfl ?_ | refine w_isub1 rfl ?_ | refine w_iinc1 rfl rfl ?_ | refine w_s rfl rfl ?_ | refine w_get rfl rfl rfl rfl ?_ | refine w_nnl rfl ?_ | refine w_nnlR rfl ?_ | refine w_nul rfl ?_ | refine w_nulR rfl ?_ | refine w_ldc rfl rfl ?_ | refine w_ldc2 rfl rfl ?_ | refine w_put rfl rfl rfl (Nat.le_of_ble_eq_true rfl) (Or.inl rfl) rfl rfl ?_))
    (refine w_cv rfl rfl rfl rfl (by exact Nat.le_of_ble_eq_true rfl) (by exact Nat.le_of_ble_eq_true rfl) (r_whole1 (c := (ax_St.u_pl c p)) hn hp h0) ?_; dsimp only [Option.toList, List.drop, List.cons_append, List.nil_append, e_pl1, e_pl2, e_pl3])
    (repeat (first | refine w_iadd1 rfl ?_ | refine w_isub1 rfl ?_ | refine w_iinc1 rfl rfl ?_ | refine w_s rfl rfl ?_ | refine w_get rfl rfl rfl rfl ?_ | refine w_nnl rfl ?_ | refine w_nnlR rfl ?_ | refine w_nul rfl ?_ | refine w_nulR rfl ?_ | refine w_ldc rfl rfl ?_ | refine w_ldc2 rfl rfl ?_ | refine w_put rfl rfl rfl (Nat.le_of_ble_eq_true rfl) (Or.inl rfl) rfl rfl ?_))
    refine w_if2 rfl (fun _ => ?_) (fun h5 => absurd (Decidable.not_not.mp h5) (nI_ne (by omega)))
    (repeat (first | refine w_iadd1 rfl ?_ | refine w_isub1 rfl ?_ | refine w_iinc1 rfl rfl ?_ | refine w_s rfl rfl ?_ | refine w_get rfl rfl rfl rfl ?_ | refine w_nnl rfl ?_ | refine w_nnlR rfl ?_ | refine w_nul rfl ?_ | refine w_nulR rfl ?_ | refine w_ldc rfl rfl ?_ | refine w_ldc2 rfl rfl ?_ | refine w_put rfl rfl rfl (Nat.le_of_ble_eq_true rfl) (Or.inl rfl) rfl rfl ?_))
    refine w_cv rfl rfl rfl (hp_at (ga (X := gC P.length lim fr ce s 0 (bI g)) (j := 0) rfl)) (Nat.le_of_ble_eq_true rfl) (Nat.le_of_ble_eq_true rfl) (r_setDays0 (wv c.tl c.ch p) (by omega) hvl) ?_
    dsimp only [Option.toList, List.drop, List.cons_append, List.nil_append, e_pl1, e_pl2, e_pl3]
    (repeat (first | refine w_iadd1 rfl ?_ | refine w_isub1 rfl ?_ | refine w_iinc1 rfl rfl ?_ | refine w_s rfl rfl ?_ | refine w_get rfl rfl rfl rfl ?_ | refine w_nnl rfl ?_ | refine w_nnlR rfl ?_ | refine w_nul rfl ?_ | refine w_nulR rfl ?_ | refine w_ldc rfl rfl ?_ | refine w_ldc2 rfl rfl ?_ | refine w_put rfl rfl rfl (Nat.le_of_ble_eq_true rfl) (Or.inl rfl) rfl rfl ?_))
    (refine w_iret rfl rfl rfl ?_)
    rfl
theorem r_readDays0 {lim fr ce : Nat → Int32} {s : Nat} {dy can : Int32} (hn : c.tl ≤ 400) (p : Nat) (hp : p ≤ c.tl) (h0 : wd c.tl c.ch p = 0) :
    ax_run m_Tx_readDays [.ref 2, .ref (P.length + 0 + 40)] (ax_hp L xs (ax_St.u_pl c p) m o (P ++ gC P.length lim fr ce s dy can), u) (.inl (some (.int 0)), (ax_hp L xs (ax_St.u_pl c p) m o (P ++ gC P.length lim fr ce s dy can), u)) := by
  (refine ax_run_T (ax_T_of M_Tx_readDays rfl (Nat.le_of_ble_eq_true rfl) ?_))
  (repeat (first | refine w_iadd1 rfl ?_ | refine w_isub1 rfl ?_ | refine w_iinc1 rfl rfl ?_ | refine w_s rfl rfl ?_ | refine w_get rfl rfl rfl rfl ?_ | refine w_nnl rfl ?_ | refine w_nnlR rfl ?_ | refine w_nul rfl ?_ | refine w_nulR rfl ?_ | refine w_ldc rfl rfl ?_ | refine w_ldc2 rfl rfl ?_ | refine w_put rfl rfl rfl (Nat.le_of_ble_eq_true rfl) (Or.inl rfl) rfl rfl ?_))
  (refine w_cv rfl rfl rfl rfl (by exact Nat.le_of_ble_eq_true rfl) (by exact Nat.le_of_ble_eq_true rfl) (r_whole0 (c := (ax_St.u_pl c p)) hn (by show p ≤ 1000; omega) h0) ?_; dsimp only [Option.toList, List.drop, List.cons_append, List.nil_append, e_pl1, e_pl2, e_pl3])
  (repeat (first | refine w_iadd1 rfl ?_ | refine w_isub1 rfl ?_ | refine w_iinc1 rfl rfl ?_ | refine w_s rfl rfl ?_ | refine w_get rfl rfl rfl rfl ?_ | refine w_nnl rfl ?_ | refine w_nnlR rfl ?_ | refine w_nul rfl ?_ | refine w_nulR rfl ?_ | refine w_ldc rfl rfl ?_ | refine w_ldc2 rfl rfl ?_ | refine w_put rfl rfl rfl (Nat.le_of_ble_eq_true rfl) (Or.inl rfl) rfl rfl ?_))
  refine w_if2 rfl (fun h5 => absurd rfl h5) (fun _ => ?_)
  (repeat (first | refine w_iadd1 rfl ?_ | refine w_isub1 rfl ?_ | refine w_iinc1 rfl rfl ?_ | refine w_s rfl rfl ?_ | refine w_get rfl rfl rfl rfl ?_ | refine w_nnl rfl ?_ | refine w_nnlR rfl ?_ | refine w_nul rfl ?_ | refine w_nulR rfl ?_ | refine w_ldc rfl rfl ?_ | refine w_ldc2 rfl rfl ?_ | refine w_put rfl rfl rfl (Nat.le_of_ble_eq_true rfl) (Or.inl rfl) rfl rfl ?_))
  (refine w_iret rfl rfl rfl ?_)
  rfl
theorem rl_le (n : Nat) (f : Nat → Int32) : ∀ k i p l, p ≤ n → match rl n f k i p l with | .inl e => e ≤ n | .inr (q, _) => q ≤ n := by
  intro k
  induction k with
  | zero => intro i p l hp; exact hp
  | succ k ih =>
    intro i p l hp
    unfold rl
    by_cases h1 : i ≠ 0 ∧ nx n f p ≠ 44
    · rw [if_pos h1]; exact hp
    · rw [if_neg h1]
      have hq : (if i = 0 then p else p + 1) ≤ n := by
        by_cases hi : i = 0
        · rw [if_pos hi]; exact hp
        · rw [if_neg hi]
          have : nx n f p = 44 := Decidable.not_not.mp (fun z => h1 ⟨hi, z⟩)
          have := nx_lt this (by decide)
          omega
      have hw := wd_n (f := f) hq
      by_cases h2 : wok n f (if i = 0 then p else p + 1)
      · rw [if_pos h2]
        exact ih _ _ _ hw
      · rw [if_neg h2]
        exact hw
theorem rs_le (n : Nat) (f : Nat → Int32) : ∀ k s p fr ce, p ≤ n → match rs n f k s p fr ce with | .inl e => e ≤ n | .inr (q, _) => q ≤ n := by
  intro k
  induction k with
  | zero => intro s p fr ce hp; exact hp
  | succ k ih =>
    intro s p fr ce hp
    unfold rs
    have hw := wd_n (f := f) hp
    by_cases h1 : ¬ wok n f p
    · rw [if_pos h1]; exact hw
    · rw [if_neg h1]
      by_cases h2 : nx n f (p + wd n f p) ≠ 64
      · rw [if_pos h2]; exact hw
      · rw [if_neg h2]
        have hlt := nx_lt (Decidable.not_not.mp h2) (by decide)
        have hq : p + wd n f p + 1 ≤ n := by omega
        have hw2 := wd_n (f := f) hq
        by_cases h3 : ¬ wok n f (p + wd n f p + 1)
        · rw [if_pos h3]; exact hw2
        · rw [if_neg h3]
          by_cases h4 : nx n f (p + wd n f p + 1 + wd n f (p + wd n f p + 1)) = 44
          · rw [if_pos h4]
            have := nx_lt h4 (by decide)
            exact ih _ _ _ _ (by omega)
          · rw [if_neg h4]; exact hw2
/-- how the reading of a class ends -/
def QG (L : Nat) (xs : Nat → Int32) (c : ax_St) (m : ax_Mo) (o : Nat → Int64) (P : List (Option ax_C)) (u : Nat) (q : Nat ⊕ (Nat × ax_Rw)) (r : ax_R) : Prop := match q with
  | .inl e => ∃ (X : List (Option ax_C)) (u' : Nat), r = (.inl (some .null), (ax_hp L xs (ax_St.u_pl c e) m o (P ++ X), u')) ∧ X.length ≤ 4 ∧ u' ≤ u + 20
  | .inr (t, d) => ∃ (lim fr ce : Nat → Int32) (s : Nat) (dy can : Int32), r = (.inl (some (.ref (P.length + 0 + 40))), (ax_hp L xs (ax_St.u_pl c t) m o (P ++ gC P.length lim fr ce s dy can), u + 20)) ∧ can = bI (gok d) ∧ (gok d → GM ⟨lim, fr, ce, s, dy⟩ d)
theorem r_readGrade (hn : c.tl ≤ 400) (p : Nat) (hp : p ≤ c.tl) :
    ax_T m_Tx_readGrade [.ref 2] (ax_hp L xs (ax_St.u_pl c p) m o P, u) (QG L xs c m o P u (rg c.tl c.ch p)) := by
  (refine ax_T_of M_Tx_readGrade rfl (Nat.le_of_ble_eq_true rfl) ?_)
  (repeat (first | refine w_iadd1 rfl ?_ | refine w_isub1 rfl ?_ | refine w_iinc1 rfl rfl ?_ | refine w_s rfl rfl ?_ | refine w_get rfl rfl rfl rfl ?_ | refine w_nnl rfl ?_ | refine w_nnlR rfl ?_ | refine w_nul rfl ?_ | refine w_nulR rfl ?_ | refine w_ldc rfl rfl ?_ | refine w_ldc2 rfl rfl ?_ | refine w_put rfl rfl rfl (Nat.le_of_ble_eq_true rfl) (Or.inl rfl) rfl rfl ?_))
  unfold rg
  by_cases h67 : nx c.tl c.ch p = 67
  · rw [if_neg (fun z => z h67)]
    have hlt := nx_lt h67 (by decide)
    (refine w_cv rfl rfl rfl rfl (by exact Nat.le_of_ble_eq_true rfl) (by exact Nat.le_of_ble_eq_true rfl) (r_passes1 (c := (ax_St.u_pl c p)) hn (by show p ≤ 1000; omega) (Int8.ofInt 67).toInt32 h67) ?_; dsimp only [Option.toList, List.drop, List.cons_append, List.nil_append, e_pl1, e_pl2, e_pl3])
    refine w_if1 rfl (fun _ => ?_) (fun h5 => absurd k_ne1 h5)
    refine w_new rfl rfl ?_
    have e1 : (ax_hp L xs (ax_St.u_pl c (p + 1)) m o P).length = P.length + 0 + 40 := rfl
    have e2 : ax_hp L xs (ax_St.u_pl c (p + 1)) m o P ++ [some (.inr (3, ax_dfl 3))] = ax_hp L xs (ax_St.u_pl c (p + 1)) m o (P ++ [ax_ob 3 (ax_dfl 3)]) := rfl
    show ax_wp _ _ _ _ _ [.ref (ax_hp L xs (ax_St.u_pl c (p + 1)) m o P).length] (ax_hp L xs (ax_St.u_pl c (p + 1)) m o P ++ [some (.inr (3, ax_dfl 3))], u + 6)
    rw [e1, e2]
    (repeat (first | refine w_iadd1 rfl ?_ | refine w_isub1 rfl ?_ | refine w_iinc1 rfl rfl ?_ | refine w_s rfl rfl ?_ | refine w_get rfl rfl rfl rfl ?_ | refine w_nnl rfl ?_ | refine w_nnlR rfl ?_ | refine w_nul rfl ?_ | refine w_nulR rfl ?_ | refine w_ldc rfl rfl ?_ | refine w_ldc2 rfl rfl ?_ | refine w_put rfl rfl rfl (Nat.le_of_ble_eq_true rfl) (Or.inl rfl) rfl rfl ?_))
    (refine w_ci rfl rfl rfl (by exact Nat.le_of_ble_eq_true rfl) (by exact Nat.le_of_ble_eq_true rfl) (r_Gr_init (c := (ax_St.u_pl c (p + 1))) (P := P)) ?_; dsimp only [Option.toList, List.drop, List.cons_append, List.nil_append, e_pl1, e_pl2, e_pl3])
    (repeat (first | refine w_iadd1 rfl ?_ | refine w_isub1 rfl ?_ | refine w_iinc1 rfl rfl ?_ | refine w_s rfl rfl ?_ | refine w_get rfl rfl rfl rfl ?_ | refine w_nnl rfl ?_ | refine w_nnlR rfl ?_ | refine w_nul rfl ?_ | refine w_nulR rfl ?_ | refine w_ldc rfl rfl ?_ | refine w_ldc2 rfl rfl ?_ | refine w_put rfl rfl rfl (Nat.le_of_ble_eq_true rfl) (Or.inl rfl) rfl rfl ?_))
    have fl : ∀ (e : Nat) (X : List (Option ax_C)), X.length ≤ 4 → ax_wp ax_run M_Tx_readGrade (QG L xs c m o P u (.inl e)) 74 [] [] (ax_hp L xs (ax_St.u_pl c e) m o (P ++ X), u + 6 + 6 + 4 + 4) := by
      intro e X hX
      (repeat (first | refine w_iadd1 rfl ?_ | refine w_isub1 rfl ?_ | refine w_iinc1 rfl rfl ?_ | refine w_s rfl rfl ?_ | refine w_get rfl rfl rfl rfl ?_ | refine w_nnl rfl ?_ | refine w_nnlR rfl ?_ | refine w_nul rfl ?_ | refine w_nulR rfl ?_ | refine w_ldc rfl rfl ?_ | refine w_ldc2 rfl rfl ?_ | refine w_put rfl rfl rfl (Nat.le_of_ble_eq_true rfl) (Or.inl rfl) rfl rfl ?_))
      refine w_if1 rfl (fun _ => ?_) (fun h5 => absurd rfl h5)
      (repeat (first | refine w_iadd1 rfl ?_ | refine w_isub1 rfl ?_ | refine w_iinc1 rfl rfl ?_ | refine w_s rfl rfl ?_ | refine w_get rfl rfl rfl rfl ?_ | refine w_nnl rfl ?_ | refine w_nnlR rfl ?_ | refine w_nul rfl ?_ | refine w_nulR rfl ?_ | refine w_ldc rfl rfl ?_ | refine w_ldc2 rfl rfl ?_ | refine w_put rfl rfl rfl (Nat.le_of_ble_eq_true rfl) (Or.inl rfl) rfl rfl ?_))
      exact w_aret rfl rfl rfl ⟨X, u + 6 + 6 + 4 + 4, rfl, hX, by omega⟩
    obtain ⟨r1, hr1, b, p1, lim, can, rfl, hpost⟩ := r_readLimits (L := L) (xs := xs) (c := c) (m := m) (o := o) (P := P) (u := u + 6 + 6 + 4 + 4) (fr := fun _ => 0) (ce := fun _ => 0) (s := 0) (dy := 0) hn (p + 1) (by omega)
    (refine w_cv rfl rfl rfl rfl (by exact Nat.le_of_ble_eq_true rfl) (by exact Nat.le_of_ble_eq_true rfl) hr1 ?_; dsimp only [Option.toList, List.drop, List.cons_append, List.nil_append, e_pl1, e_pl2, e_pl3])
    have hle := rl_le c.tl c.ch 6 0 (p + 1) (fun _ => 0) (by omega)
    generalize rl c.tl c.ch 6 0 (p + 1) (fun _ => 0) = RL at hpost hle
    cases RL with
    | inl e =>
      obtain ⟨rfl, hb⟩ := hpost
      have hle' : p1 ≤ c.tl := hle
      rcases hb with rfl | ⟨rfl, hd⟩
      · refine w_if1 rfl (fun _ => ?_) (fun h5 => absurd rfl h5)
        exact w_lv (fl p1 (gC P.length lim _ _ _ _ can) (Nat.le_refl 4)) rfl trivial
      · refine w_if1 rfl (fun h5 => absurd h5 k_eq1) (fun _ => ?_)
        (repeat (first | refine w_iadd1 rfl ?_ | refine w_isub1 rfl ?_ | refine w_iinc1 rfl rfl ?_ | refine w_s rfl rfl ?_ | refine w_get rfl rfl rfl rfl ?_ | refine w_nnl rfl ?_ | refine w_nnlR rfl ?_ | refine w_nul rfl ?_ | refine w_nulR rfl ?_ | refine w_ldc rfl rfl ?_ | refine w_ldc2 rfl rfl ?_ | refine w_put rfl rfl rfl (Nat.le_of_ble_eq_true rfl) (Or.inl rfl) rfl rfl ?_))
        (refine w_cv rfl rfl rfl rfl (by exact Nat.le_of_ble_eq_true rfl) (by exact Nat.le_of_ble_eq_true rfl) (r_passes0 (c := (ax_St.u_pl c p1)) hn (by show p1 ≤ 1000; omega) (Int8.ofInt 58).toInt32 (dg_ne hd (by decide))) ?_; dsimp only [Option.toList, List.drop, List.cons_append, List.nil_append, e_pl1, e_pl2, e_pl3])
        refine w_if1 rfl (fun _ => ?_) (fun h5 => absurd rfl h5)
        exact w_lv (fl p1 (gC P.length lim _ _ _ _ can) (Nat.le_refl 4)) rfl trivial
    | inr ql =>
      obtain ⟨q, l⟩ := ql
      obtain ⟨rfl, rfl, hlim⟩ := hpost
      have hle' : p1 ≤ c.tl := hle
      refine w_if1 rfl (fun h5 => absurd h5 k_eq1) (fun _ => ?_)
      (repeat (first | refine w_iadd1 rfl ?_ | refine w_isub1 rfl ?_ | refine w_iinc1 rfl rfl ?_ | refine w_s rfl rfl ?_ | refine w_get rfl rfl rfl rfl ?_ | refine w_nnl rfl ?_ | refine w_nnlR rfl ?_ | refine w_nul rfl ?_ | refine w_nulR rfl ?_ | refine w_ldc rfl rfl ?_ | refine w_ldc2 rfl rfl ?_ | refine w_put rfl rfl rfl (Nat.le_of_ble_eq_true rfl) (Or.inl rfl) rfl rfl ?_))
      show ax_wp _ _ (QG L xs c m o P u (if nx c.tl c.ch p1 ≠ 58 then .inl p1 else _)) _ _ _ _
      by_cases h58 : nx c.tl c.ch p1 = 58
      · rw [if_neg (fun z => z h58)]
        have hlt2 := nx_lt h58 (by decide)
        (refine w_cv rfl rfl rfl rfl (by exact Nat.le_of_ble_eq_true rfl) (by exact Nat.le_of_ble_eq_true rfl) (r_passes1 (c := (ax_St.u_pl c p1)) hn (by show p1 ≤ 1000; omega) (Int8.ofInt 58).toInt32 h58) ?_; dsimp only [Option.toList, List.drop, List.cons_append, List.nil_append, e_pl1, e_pl2, e_pl3])
        refine w_if1 rfl (fun h5 => absurd h5 k_eq1) (fun _ => ?_)
        (repeat (first | refine w_iadd1 rfl ?_ | refine w_isub1 rfl ?_ | refine w_iinc1 rfl rfl ?_ | refine w_s rfl rfl ?_ | refine w_get rfl rfl rfl rfl ?_ | refine w_nnl rfl ?_ | refine w_nnlR rfl ?_ | refine w_nul rfl ?_ | refine w_nulR rfl ?_ | refine w_ldc rfl rfl ?_ | refine w_ldc2 rfl rfl ?_ | refine w_put rfl rfl rfl (Nat.le_of_ble_eq_true rfl) (Or.inl rfl) rfl rfl ?_))
        rw [hlim.can]
        obtain ⟨r2, hr2, b2, p2, fr', ce', s', can2, rfl, hpost2⟩ := r_readSteps (L := L) (xs := xs) (c := c) (m := m) (o := o) (P := P) (u := u + 6 + 6 + 4 + 4) (g0 := lok l 6) (lim := lim) (dy := 0) hn (p1 + 1) (by omega)
        (refine w_cv rfl rfl rfl rfl (by exact Nat.le_of_ble_eq_true rfl) (by exact Nat.le_of_ble_eq_true rfl) hr2 ?_; dsimp only [Option.toList, List.drop, List.cons_append, List.nil_append, e_pl1, e_pl2, e_pl3])
        have hle2 := rs_le c.tl c.ch 101 0 (p1 + 1) (fun _ => 0) (fun _ => 0) (by omega)
        generalize rs c.tl c.ch 101 0 (p1 + 1) (fun _ => 0) (fun _ => 0) = RS at hpost2 hle2
        cases RS with
        | inl e =>
          obtain ⟨rfl, hb⟩ := hpost2
          have hle2' : p2 ≤ c.tl := hle2
          rcases hb with rfl | ⟨rfl, hd⟩
          · refine w_if1 rfl (fun _ => ?_) (fun h5 => absurd rfl h5)
            exact w_lv (fl p2 (gC P.length lim _ _ _ _ can2) (Nat.le_refl 4)) rfl trivial
          · refine w_if1 rfl (fun h5 => absurd h5 k_eq1) (fun _ => ?_)
            (repeat (first | refine w_iadd1 rfl ?_ | refine w_isub1 rfl ?_ | refine w_iinc1 rfl rfl ?_ | refine w_s rfl rfl ?_ | refine w_get rfl rfl rfl rfl ?_ | refine w_nnl rfl ?_ | refine w_nnlR rfl ?_ | refine w_nul rfl ?_ | refine w_nulR rfl ?_ | refine w_ldc rfl rfl ?_ | refine w_ldc2 rfl rfl ?_ | refine w_put rfl rfl rfl (Nat.le_of_ble_eq_true rfl) (Or.inl rfl) rfl rfl ?_))
            (refine w_cv rfl rfl rfl rfl (by exact Nat.le_of_ble_eq_true rfl) (by exact Nat.le_of_ble_eq_true rfl) (r_passes0 (c := (ax_St.u_pl c p2)) hn (by show p2 ≤ 1000; omega) (Int8.ofInt 47).toInt32 (dg_ne hd (by decide))) ?_; dsimp only [Option.toList, List.drop, List.cons_append, List.nil_append, e_pl1, e_pl2, e_pl3])
            refine w_if1 rfl (fun _ => ?_) (fun h5 => absurd rfl h5)
            exact w_lv (fl p2 (gC P.length lim _ _ _ _ can2) (Nat.le_refl 4)) rfl trivial
        | inr qs =>
          obtain ⟨q2, s, fr, ce⟩ := qs
          obtain ⟨rfl, rfl, hst⟩ := hpost2
          have hle2' : p2 ≤ c.tl := hle2
          refine w_if1 rfl (fun h5 => absurd h5 k_eq1) (fun _ => ?_)
          (repeat (first | refine w_iadd1 rfl ?_ | refine w_isub1 rfl ?_ | refine w_iinc1 rfl rfl ?_ | refine w_s rfl rfl ?_ | refine w_get rfl rfl rfl rfl ?_ | refine w_nnl rfl ?_ | refine w_nnlR rfl ?_ | refine w_nul rfl ?_ | refine w_nulR rfl ?_ | refine w_ldc rfl rfl ?_ | refine w_ldc2 rfl rfl ?_ | refine w_put rfl rfl rfl (Nat.le_of_ble_eq_true rfl) (Or.inl rfl) rfl rfl ?_))
          show ax_wp _ _ (QG L xs c m o P u (match rd c.tl c.ch p2 with | .inl e => .inl e | .inr (t, dy) => .inr (t, ⟨l, s, fr, ce, dy⟩))) _ _ _ _
          unfold rd
          by_cases h47 : nx c.tl c.ch p2 = 47
          · rw [if_neg (fun z => z h47)]
            have hlt3 := nx_lt h47 (by decide)
            (refine w_cv rfl rfl rfl rfl (by exact Nat.le_of_ble_eq_true rfl) (by exact Nat.le_of_ble_eq_true rfl) (r_passes1 (c := (ax_St.u_pl c p2)) hn (by show p2 ≤ 1000; omega) (Int8.ofInt 47).toInt32 h47) ?_; dsimp only [Option.toList, List.drop, List.cons_append, List.nil_append, e_pl1, e_pl2, e_pl3])
            refine w_if1 rfl (fun h5 => absurd h5 k_eq1) (fun _ => ?_)
            (repeat (first | refine w_iadd1 rfl ?_ | refine w_isub1 rfl ?_ | refine w_iinc1 rfl rfl ?_ | refine w_s rfl rfl ?_ | refine w_get rfl rfl rfl rfl ?_ | refine w_nnl rfl ?_ | refine w_nnlR rfl ?_ | refine w_nul rfl ?_ | refine w_nulR rfl ?_ | refine w_ldc rfl rfl ?_ | refine w_ldc2 rfl rfl ?_ | refine w_put rfl rfl rfl (Nat.le_of_ble_eq_true rfl) (Or.inl rfl) rfl rfl ?_))
            have hq3 : p2 + 1 ≤ c.tl := by omega
            generalize p2 + 1 = p3 at hq3
            have hw3 := wd_n (f := c.ch) hq3
            by_cases h0 : wd c.tl c.ch p3 = 0
            · rw [if_pos (fun z => z.1 h0), h0]
              (refine w_cv rfl rfl rfl rfl (by exact Nat.le_of_ble_eq_true rfl) (by exact Nat.le_of_ble_eq_true rfl) (r_readDays0 (c := c) hn p3 hq3 h0) ?_; dsimp only [Option.toList, List.drop, List.cons_append, List.nil_append, e_pl1, e_pl2, e_pl3])
              refine w_if1 rfl (fun _ => ?_) (fun h5 => absurd rfl h5)
              exact w_lv (fl p3 (gC P.length lim _ _ _ _ can2) (Nat.le_refl 4)) rfl trivial
            · rw [hst.can]
              obtain ⟨dy', can', hcan', hdy', hr3⟩ := r_readDays (L := L) (xs := xs) (c := c) (m := m) (o := o) (P := P) (u := u + 6 + 6 + 4 + 4) (lim := lim) (fr := fr') (ce := ce') (s := s') (g := stok (lok l 6) fr ce s) hn p3 hq3 h0
              (refine w_cv rfl rfl rfl rfl (by exact Nat.le_of_ble_eq_true rfl) (by exact Nat.le_of_ble_eq_true rfl) hr3 ?_; dsimp only [Option.toList, List.drop, List.cons_append, List.nil_append, e_pl1, e_pl2, e_pl3])
              refine w_if1 rfl (fun h5 => absurd h5 k_eq1) (fun _ => ?_)
              (repeat (first | refine w_iadd1 rfl ?_ | refine w_isub1 rfl ?_ | refine w_iinc1 rfl rfl ?_ | refine w_s rfl rfl ?_ | refine w_get rfl rfl rfl rfl ?_ | refine w_nnl rfl ?_ | refine w_nnlR rfl ?_ | refine w_nul rfl ?_ | refine w_nulR rfl ?_ | refine w_ldc rfl rfl ?_ | refine w_ldc2 rfl rfl ?_ | refine w_put rfl rfl rfl (Nat.le_of_ble_eq_true rfl) (Or.inl rfl) rfl rfl ?_))
              by_cases hov : dg c.tl c.ch (p3 + wd c.tl c.ch p3)
              · rw [if_pos (fun z => z.2 hov)]
                (refine w_cv rfl rfl rfl rfl (by exact Nat.le_of_ble_eq_true rfl) (by exact Nat.le_of_ble_eq_true rfl) (r_passes0 (c := (ax_St.u_pl c (p3 + wd c.tl c.ch p3))) hn (by show p3 + wd c.tl c.ch p3 ≤ 1000; omega) (Int8.ofInt 59).toInt32 (dg_ne hov (by decide))) ?_; dsimp only [Option.toList, List.drop, List.cons_append, List.nil_append, e_pl1, e_pl2, e_pl3])
                refine w_if1 rfl (fun _ => ?_) (fun h5 => absurd rfl h5)
                exact w_lv (fl _ (gC P.length lim _ _ _ _ can') (Nat.le_refl 4)) rfl trivial
              · rw [if_neg (fun z => z ⟨h0, hov⟩)]
                by_cases h59 : nx c.tl c.ch (p3 + wd c.tl c.ch p3) = 59
                · rw [if_neg (fun z => z h59)]
                  (refine w_cv rfl rfl rfl rfl (by exact Nat.le_of_ble_eq_true rfl) (by exact Nat.le_of_ble_eq_true rfl) (r_passes1 (c := (ax_St.u_pl c (p3 + wd c.tl c.ch p3))) hn (by show p3 + wd c.tl c.ch p3 ≤ 1000; omega) (Int8.ofInt 59).toInt32 h59) ?_; dsimp only [Option.toList, List.drop, List.cons_append, List.nil_append, e_pl1, e_pl2, e_pl3])
                  refine w_if1 rfl (fun h5 => absurd h5 k_eq1) (fun _ => ?_)
                  (repeat (first | refine w_iadd1 rfl ?_ | refine w_isub1 rfl ?_ | refine w_iinc1 rfl rfl ?_ | refine w_s rfl rfl ?_ | refine w_get rfl rfl rfl rfl ?_ | refine w_nnl rfl ?_ | refine w_nnlR rfl ?_ | refine w_nul rfl ?_ | refine w_nulR rfl ?_ | refine w_ldc rfl rfl ?_ | refine w_ldc2 rfl rfl ?_ | refine w_put rfl rfl rfl (Nat.le_of_ble_eq_true rfl) (Or.inl rfl) rfl rfl ?_))
                  refine w_if1 rfl (fun h5 => absurd h5 k_eq1) (fun _ => ?_)
                  (repeat (first | refine w_iadd1 rfl ?_ | refine w_isub1 rfl ?_ | refine w_iinc1 rfl rfl ?_ | refine w_s rfl rfl ?_ | refine w_get rfl rfl rfl rfl ?_ | refine w_nnl rfl ?_ | refine w_nnlR rfl ?_ | refine w_nul rfl ?_ | refine w_nulR rfl ?_ | refine w_ldc rfl rfl ?_ | refine w_ldc2 rfl rfl ?_ | refine w_put rfl rfl rfl (Nat.le_of_ble_eq_true rfl) (Or.inl rfl) rfl rfl ?_))
                  refine w_aret rfl rfl rfl ⟨lim, fr', ce', s', dy', can', rfl, hcan', fun hg => ?_⟩
                  have h8 := hst.eq hg.1
                  exact ⟨fun j hj => hlim.eq hg.1.1 j hj, h8.1, fun j hj => (h8.2 j hj).1, fun j hj => (h8.2 j hj).2, hdy' hg⟩
                · rw [if_pos h59]
                  (refine w_cv rfl rfl rfl rfl (by exact Nat.le_of_ble_eq_true rfl) (by exact Nat.le_of_ble_eq_true rfl) (r_passes0 (c := (ax_St.u_pl c (p3 + wd c.tl c.ch p3))) hn (by show p3 + wd c.tl c.ch p3 ≤ 1000; omega) (Int8.ofInt 59).toInt32 h59) ?_; dsimp only [Option.toList, List.drop, List.cons_append, List.nil_append, e_pl1, e_pl2, e_pl3])
                  refine w_if1 rfl (fun _ => ?_) (fun h5 => absurd rfl h5)
                  exact w_lv (fl _ (gC P.length lim _ _ _ _ can') (Nat.le_refl 4)) rfl trivial
          · rw [if_pos h47]
            (refine w_cv rfl rfl rfl rfl (by exact Nat.le_of_ble_eq_true rfl) (by exact Nat.le_of_ble_eq_true rfl) (r_passes0 (c := (ax_St.u_pl c p2)) hn (by show p2 ≤ 1000; omega) (Int8.ofInt 47).toInt32 h47) ?_; dsimp only [Option.toList, List.drop, List.cons_append, List.nil_append, e_pl1, e_pl2, e_pl3])
            refine w_if1 rfl (fun _ => ?_) (fun h5 => absurd rfl h5)
            exact w_lv (fl p2 (gC P.length lim _ _ _ _ can2) (Nat.le_refl 4)) rfl trivial
      · rw [if_pos h58]
        (refine w_cv rfl rfl rfl rfl (by exact Nat.le_of_ble_eq_true rfl) (by exact Nat.le_of_ble_eq_true rfl) (r_passes0 (c := (ax_St.u_pl c p1)) hn (by show p1 ≤ 1000; omega) (Int8.ofInt 58).toInt32 h58) ?_; dsimp only [Option.toList, List.drop, List.cons_append, List.nil_append, e_pl1, e_pl2, e_pl3])
        refine w_if1 rfl (fun _ => ?_) (fun h5 => absurd rfl h5)
        exact w_lv (fl p1 (gC P.length lim _ _ _ _ can) (Nat.le_refl 4)) rfl trivial
  · rw [if_pos h67]
    (refine w_cv rfl rfl rfl rfl (by exact Nat.le_of_ble_eq_true rfl) (by exact Nat.le_of_ble_eq_true rfl) (r_passes0 (c := (ax_St.u_pl c p)) hn (by show p ≤ 1000; omega) (Int8.ofInt 67).toInt32 h67) ?_; dsimp only [Option.toList, List.drop, List.cons_append, List.nil_append, e_pl1, e_pl2, e_pl3])
    refine w_if1 rfl (fun h5 => absurd rfl h5) (fun _ => ?_)
    (repeat (first | refine w_iadd1 rfl ?_ | refine w_isub1 rfl ?_ | refine w_iinc1 rfl rfl ?_ | refine w_s rfl rfl ?_ | refine w_get rfl rfl rfl rfl ?_ | refine w_nnl rfl ?_ | refine w_nnlR rfl ?_ | refine w_nul rfl ?_ | refine w_nulR rfl ?_ | refine w_ldc rfl rfl ?_ | refine w_ldc2 rfl rfl ?_ | refine w_put rfl rfl rfl (Nat.le_of_ble_eq_true rfl) (Or.inl rfl) rfl rfl ?_))
    exact w_aret rfl rfl rfl ⟨[], u, by rw [List.append_nil], Nat.zero_le _, by omega⟩
end RGD
