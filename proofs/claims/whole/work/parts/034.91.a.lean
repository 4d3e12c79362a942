section RST
variable {L : Nat} {xs : Nat → Int32} {c : ax_St} {m : ax_Mo} {o : Nat → Int64} {P : List (Option ax_C)} {u : Nat}
abbrev stok (g0 : Prop) (fr ce : Nat → Nat) (s : Nat) : Prop := g0 ∧ ∀ i, i < s → sok fr ce i
abbrev StOk (g0 : Prop) [Decidable g0] (fr ce : Nat → Nat) (s : Nat) (fr' ce' : Nat → Int32) (s' : Nat) (can : Int32) : Prop := (can = bI (stok g0 fr ce s)) ∧ (s' ≤ 4) ∧ (∀ j, j < s' → ∃ z, z < 10000000 ∧ fr' j = nI z) ∧ (stok g0 fr ce s → s' = s ∧ ∀ j, j < s → fr' j = nI (fr j) ∧ ce' j = nI (ce j))
theorem StOk.can {g0 : Prop} [Decidable g0] {fr ce : Nat → Nat} {s : Nat} {fr' ce' : Nat → Int32} {s' : Nat} {can : Int32} (h_ : StOk g0 fr ce s fr' ce' s' can) : can = bI (stok g0 fr ce s) := h_.1
theorem StOk.s4 {g0 : Prop} [Decidable g0] {fr ce : Nat → Nat} {s : Nat} {fr' ce' : Nat → Int32} {s' : Nat} {can : Int32} (h_ : StOk g0 fr ce s fr' ce' s' can) : s' ≤ 4 := h_.2.1
theorem StOk.any {g0 : Prop} [Decidable g0] {fr ce : Nat → Nat} {s : Nat} {fr' ce' : Nat → Int32} {s' : Nat} {can : Int32} (h_ : StOk g0 fr ce s fr' ce' s' can) : ∀ j, j < s' → ∃ z, z < 10000000 ∧ fr' j = nI z := h_.2.2.1
theorem StOk.eq {g0 : Prop} [Decidable g0] {fr ce : Nat → Nat} {s : Nat} {fr' ce' : Nat → Int32} {s' : Nat} {can : Int32} (h_ : StOk g0 fr ce s fr' ce' s' can) : stok g0 fr ce s → s' = s ∧ ∀ j, j < s → fr' j = nI (fr j) ∧ ce' j = nI (ce j) := h_.2.2.2
theorem sok_up {fr ce : Nat → Nat} {s a v i : Nat} (h : i < s) : sok (va_up fr s a) (va_up ce s v) i ↔ sok fr ce i := by
  unfold sok
  rw [va_up_ne _ _ (by omega), va_up_ne _ _ (by omega), va_up_ne _ _ (by omega)]
theorem stok_up {g0 : Prop} {fr ce : Nat → Nat} {s a v : Nat} : stok g0 (va_up fr s a) (va_up ce s v) (s + 1) ↔ stok g0 fr ce s ∧ sok (va_up fr s a) (va_up ce s v) s := by
  constructor
  · intro h
    exact ⟨⟨h.1, fun i hi => (sok_up hi).mp (h.2 i (by omega))⟩, h.2 s (by omega)⟩
  · intro h
    refine ⟨h.1.1, fun i hi => ?_⟩
    by_cases his : i = s
    · subst his; exact h.2
    · exact (sok_up (by omega)).mpr (h.1.2 i (by omega))
/-- one step more -/
theorem r_step {g0 : Prop} [Decidable g0] {fr ce : Nat → Nat} {s : Nat} {fr' ce' : Nat → Int32} {s' : Nat} {can dy : Int32} {lim : Nat → Int32} (h : StOk g0 fr ce s fr' ce' s' can) (hraw : ∀ j, j < s → fr j < 10000000) (a v : Nat) (ha : a < 10000000) (hv : v < 10000000) :
    ∃ (fr2 ce2 : Nat → Int32) (s2 : Nat) (can2 : Int32), StOk g0 (va_up fr s a) (va_up ce s v) (s + 1) fr2 ce2 s2 can2 ∧ ax_run m_Gr_addStep [.ref (P.length + 0 + 40), .int (nI a), .int (nI v)] (ax_hp L xs c m o (P ++ gC P.length lim fr' ce' s' dy can), u) (.inl none, (ax_hp L xs c m o (P ++ gC P.length lim fr2 ce2 s2 dy can2), u)) := by
  obtain ⟨ah, hah, hz0, hz1⟩ : ∃ ah, ah < 10000000 ∧ (s' = 0 → ah = 0) ∧ (s' ≠ 0 → fr' (s' - 1) = nI ah) := by
    by_cases hz : s' = 0
    · exact ⟨0, by omega, fun _ => rfl, fun z => absurd hz z⟩
    · obtain ⟨z, h1, h2⟩ := h.any (s' - 1) (by omega)
      exact ⟨z, h1, fun q => absurd q hz, fun _ => h2⟩
  have hrun := r_addStep (L := L) (xs := xs) (c := c) (m := m) (o := o) (P := P) (u := u) (lim := lim) (fr := fr') (ce := ce') (s := s') (dy := dy) (can := can) a v ah h.s4 ha hv hah hz0 hz1
  by_cases hg : stok g0 fr ce s
  · obtain ⟨hs, heq⟩ := h.eq hg
    subst hs
    have hah2 : ah = (if s' = 0 then 0 else fr (s' - 1)) := by
      by_cases hz : s' = 0
      · rw [if_pos hz]; exact hz0 hz
      · rw [if_neg hz]
        have h1 := hz1 hz
        rw [(heq (s' - 1) (by omega)).1] at h1
        have h2 := congrArg Int32.toInt h1
        have h3 := hraw (s' - 1) (by omega)
        rw [q_nI' (by omega), q_nI' (by omega)] at h2
        omega
    have hcond : (s' < 4 ∧ ah < a ∧ a ≤ 1000000 ∧ 1 ≤ v ∧ v ≤ 1000000) ↔ sok (va_up fr s' a) (va_up ce s' v) s' := by
      unfold sok
      rw [va_up_self, va_up_self, hah2]
      by_cases hz : s' = 0
      · rw [if_pos hz, if_pos hz]
      · rw [if_neg hz, if_neg hz, va_up_ne _ _ (by omega)]
    by_cases hc : s' < 4 ∧ ah < a ∧ a ≤ 1000000 ∧ 1 ≤ v ∧ v ≤ 1000000
    · rw [if_pos hc] at hrun
      have hgood : stok g0 (va_up fr s' a) (va_up ce s' v) (s' + 1) := stok_up.mpr ⟨hg, hcond.mp hc⟩
      refine ⟨_, _, _, _, ⟨?_, by omega, fun j hj => ?_, fun _ => ⟨rfl, fun j hj => ?_⟩⟩, hrun⟩
      · rw [h.can, bI_t hg, bI_t hgood]
      · unfold upd
        by_cases hjs : j = s'
        · rw [if_pos hjs]; exact ⟨a, ha, rfl⟩
        · rw [if_neg hjs]; exact h.any j (by omega)
      · unfold upd
        by_cases hjs : j = s'
        · subst hjs
          rw [if_pos rfl, if_pos rfl, va_up_self, va_up_self]
          exact ⟨rfl, rfl⟩
        · rw [if_neg hjs, if_neg hjs, va_up_ne _ _ hjs, va_up_ne _ _ hjs]
          exact heq j (by omega)
    · rw [if_neg hc] at hrun
      have hbad : ¬ stok g0 (va_up fr s' a) (va_up ce s' v) (s' + 1) := fun z => hc (hcond.mpr (stok_up.mp z).2)
      exact ⟨_, _, _, _, ⟨(bI_f hbad).symm, h.s4, h.any, fun z => absurd z hbad⟩, hrun⟩
  · have hbad : ¬ stok g0 (va_up fr s a) (va_up ce s v) (s + 1) := fun z => hg (stok_up.mp z).1
    have hcan : can = 0 := by rw [h.can, bI_f hg]; rfl
    by_cases hc : s' < 4 ∧ ah < a ∧ a ≤ 1000000 ∧ 1 ≤ v ∧ v ≤ 1000000
    · rw [if_pos hc] at hrun
      refine ⟨_, _, _, _, ⟨?_, by omega, fun j hj => ?_, fun z => absurd z hbad⟩, hrun⟩
      · rw [hcan]; exact (bI_f hbad).symm
      · unfold upd
        by_cases hjs : j = s'
        · rw [if_pos hjs]; exact ⟨a, ha, rfl⟩
        · rw [if_neg hjs]; exact h.any j (by omega)
    · rw [if_neg hc] at hrun
      exact ⟨_, _, _, _, ⟨(bI_f hbad).symm, h.s4, h.any, fun z => absurd z hbad⟩, hrun⟩
def PostS (g0 : Prop) [Decidable g0] (n : Nat) (f : Nat → Int32) (q : Nat ⊕ (Nat × Nat × (Nat → Nat) × (Nat → Nat))) (b : Int32) (p : Nat) (fr' ce' : Nat → Int32) (s' : Nat) (can : Int32) : Prop := match q with
  | .inl e => p = e ∧ (b = 0 ∨ (b = 1 ∧ dg n f e))
  | .inr (e, s, fr, ce) => p = e ∧ b = 1 ∧ StOk g0 fr ce s fr' ce' s' can
def QS (g0 : Prop) [Decidable g0] (L : Nat) (xs : Nat → Int32) (c : ax_St) (m : ax_Mo) (o : Nat → Int64) (P : List (Option ax_C)) (u : Nat) (lim : Nat → Int32) (dy : Int32) (q : Nat ⊕ (Nat × Nat × (Nat → Nat) × (Nat → Nat))) (r : ax_R) : Prop :=
  ∃ (b : Int32) (p : Nat) (fr' ce' : Nat → Int32) (s' : Nat) (can : Int32), r = (.inl (some (.int b)), (ax_hp L xs (ax_St.u_pl c p) m o (P ++ gC P.length lim fr' ce' s' dy can), u)) ∧ PostS g0 c.tl c.ch q b p fr' ce' s' can
theorem nx_lt {n : Nat} {f : Nat → Int32} {p : Nat} {x : Int32} (h : nx n f p = x) (hx : ¬ x = -1) : p < n := by
  by_cases z : p < n
  · exact z
  · unfold nx at h
    rw [if_neg z] at h
    exact absurd h.symm hx
theorem r_readSteps {g0 : Prop} [Decidable g0] {lim : Nat → Int32} {dy : Int32} (hn : c.tl ≤ 400) (p : Nat) (hp : p ≤ c.tl) :
    ax_T m_Tx_readSteps [.ref 2, .ref (P.length + 0 + 40)] (ax_hp L xs (ax_St.u_pl c p) m o (P ++ gC P.length lim (fun _ => 0) (fun _ => 0) 0 dy (bI g0)), u) (QS g0 L xs c m o P u lim dy (rs c.tl c.ch 101 0 p (fun _ => 0) (fun _ => 0))) := by
  have lp : ∀ (k i p : Nat) (fr ce : Nat → Nat) (fr' ce' : Nat → Int32) (s' : Nat) (can : Int32), i + k = 101 → 4 * i ≤ p → p ≤ c.tl → (∀ j, j < i → fr j < 10000000) → StOk g0 fr ce i fr' ce' s' can → ax_wp ax_run M_Tx_readSteps (QS g0 L xs c m o P u lim dy (rs c.tl c.ch k i p fr ce)) 2 [(0, .ref 2), (1, .ref (P.length + 0 + 40)), (2, .int (nI i))] [] (ax_hp L xs (ax_St.u_pl c p) m o (P ++ gC P.length lim fr' ce' s' dy can), u) := by
    intro k
    induction k with
    | zero => intro i p fr ce fr' ce' s' can hi h4 hp hraw hst; omega
    | succ k ih =>
      intro i p fr ce fr' ce' s' can hi h4 hp hraw hst
      have hwn := wd_n (f := c.ch) hp
      have hvl := wv_lt c.tl c.ch p
      (repeat (first | refine w_iadd1 rfl ?_ | refine w_isub1 rfl ?_ | refine w_iinc1 rfl rfl ?_ | refine w_s rfl rfl ?_ | refine w_get rfl rfl rfl rfl ?_ | refine w_nnl rfl ?_ | refine w_nnlR rfl ?_ | refine w_nul rfl ?_ | refine w_nulR rfl ?_ | refine w_ldc rfl rfl ?_ | refine w_ldc2 rfl rfl ?_ | refine w_put rfl rfl rfl (Nat.le_of_ble_eq_true rfl) (Or.inl rfl) rfl rfl ?_))
      refine w_if2 rfl (fun h5 => absurd ((cn_ge (a := i) (b := 400) (by omega) (by omega)).mp h5) (by omega)) (fun _ => ?_)
      (repeat (first | refine w_iadd1 rfl ?_ | refine w_isub1 rfl ?_ | refine w_iinc1 rfl rfl ?_ | refine w_s rfl rfl ?_ | refine w_get rfl rfl rfl rfl ?_ | refine w_nnl rfl ?_ | refine w_nnlR rfl ?_ | refine w_nul rfl ?_ | refine w_nulR rfl ?_ | refine w_ldc rfl rfl ?_ | refine w_ldc2 rfl rfl ?_ | refine w_put rfl rfl rfl (Nat.le_of_ble_eq_true rfl) (Or.inl rfl) rfl rfl ?_))
      unfold rs
      by_cases h0 : wd c.tl c.ch p = 0
      · rw [if_pos (fun z => z.1 h0), h0]
        (refine w_cv rfl rfl rfl rfl (by exact Nat.le_of_ble_eq_true rfl) (by exact Nat.le_of_ble_eq_true rfl) (r_whole0 (c := (ax_St.u_pl c p)) hn (by show p ≤ 1000; omega) h0) ?_; dsimp only [Option.toList, List.drop, List.cons_append, List.nil_append, e_pl1, e_pl2, e_pl3])
        (repeat (first | refine w_iadd1 rfl ?_ | refine w_isub1 rfl ?_ | refine w_iinc1 rfl rfl ?_ | refine w_s rfl rfl ?_ | refine w_get rfl rfl rfl rfl ?_ | refine w_nnl rfl ?_ | refine w_nnlR rfl ?_ | refine w_nul rfl ?_ | refine w_nulR rfl ?_ | refine w_ldc rfl rfl ?_ | refine w_ldc2 rfl rfl ?_ | refine w_put rfl rfl rfl (Nat.le_of_ble_eq_true rfl) (Or.inl rfl) rfl rfl ?_))
        refine w_if2 rfl (fun _ => ?_) (fun h5 => absurd rfl h5)
        (repeat (first | refine w_iadd1 rfl ?_ | refine w_isub1 rfl ?_ | refine w_iinc1 rfl rfl ?_ | refine w_s rfl rfl ?_ | refine w_get rfl rfl rfl rfl ?_ | refine w_nnl rfl ?_ | refine w_nnlR rfl ?_ | refine w_nul rfl ?_ | refine w_nulR rfl ?_ | refine w_ldc rfl rfl ?_ | refine w_ldc2 rfl rfl ?_ | refine w_put rfl rfl rfl (Nat.le_of_ble_eq_true rfl) (Or.inl rfl) rfl rfl ?_))
        (refine w_iret rfl rfl rfl ?_)
        exact ⟨0, p, fr', ce', s', can, rfl, rfl, Or.inl rfl⟩
      · (refine w_cv rfl rfl rfl rfl (by exact Nat.le_of_ble_eq_true rfl) (by exact Nat.le_of_ble_eq_true rfl) (r_whole1 (c := (ax_St.u_pl c p)) hn hp h0) ?_; dsimp only [Option.toList, List.drop, List.cons_append, List.nil_append, e_pl1, e_pl2, e_pl3])
        (repeat (first | refine w_iadd1 rfl ?_ | refine w_isub1 rfl ?_ | refine w_iinc1 rfl rfl ?_ | refine w_s rfl rfl ?_ | refine w_get rfl rfl rfl rfl ?_ | refine w_nnl rfl ?_ | refine w_nnlR rfl ?_ | refine w_nul rfl ?_ | refine w_nulR rfl ?_ | refine w_ldc rfl rfl ?_ | refine w_ldc2 rfl rfl ?_ | refine w_put rfl rfl rfl (Nat.le_of_ble_eq_true rfl) (Or.inl rfl) rfl rfl ?_))
        refine w_if2 rfl (fun h5 => absurd h5 (nI_ne (by omega))) (fun _ => ?_)
        (repeat (first | refine w_iadd1 rfl ?_ | refine w_isub1 rfl ?_ | refine w_iinc1 rfl rfl ?_ | refine w_s rfl rfl ?_ | refine w_get rfl rfl rfl rfl ?_ | refine w_nnl rfl ?_ | refine w_nnlR rfl ?_ | refine w_nul rfl ?_ | refine w_nulR rfl ?_ | refine w_ldc rfl rfl ?_ | refine w_ldc2 rfl rfl ?_ | refine w_put rfl rfl rfl (Nat.le_of_ble_eq_true rfl) (Or.inl rfl) rfl rfl ?_))
        by_cases hov : dg c.tl c.ch (p + wd c.tl c.ch p)
        · rw [if_pos (fun z => z.2 hov)]
          (refine w_cv rfl rfl rfl rfl (by exact Nat.le_of_ble_eq_true rfl) (by exact Nat.le_of_ble_eq_true rfl) (r_passes0 (c := (ax_St.u_pl c (p + wd c.tl c.ch p))) hn (by show p + wd c.tl c.ch p ≤ 1000; omega) (Int8.ofInt 64).toInt32 (dg_ne hov (by decide))) ?_; dsimp only [Option.toList, List.drop, List.cons_append, List.nil_append, e_pl1, e_pl2, e_pl3])
          refine w_if1 rfl (fun h5 => absurd rfl h5) (fun _ => ?_)
          (repeat (first | refine w_iadd1 rfl ?_ | refine w_isub1 rfl ?_ | refine w_iinc1 rfl rfl ?_ | refine w_s rfl rfl ?_ | refine w_get rfl rfl rfl rfl ?_ | refine w_nnl rfl ?_ | refine w_nnlR rfl ?_ | refine w_nul rfl ?_ | refine w_nulR rfl ?_ | refine w_ldc rfl rfl ?_ | refine w_ldc2 rfl rfl ?_ | refine w_put rfl rfl rfl (Nat.le_of_ble_eq_true rfl) (Or.inl rfl) rfl rfl ?_))
          (refine w_iret rfl rfl rfl ?_)
          exact ⟨0, _, fr', ce', s', can, rfl, rfl, Or.inl rfl⟩
        · rw [if_neg (fun z => z ⟨h0, hov⟩)]
          by_cases h64 : nx c.tl c.ch (p + wd c.tl c.ch p) = 64
          · rw [if_neg (fun z => z h64)]
            have hlt := nx_lt h64 (by decide)
            (refine w_cv rfl rfl rfl rfl (by exact Nat.le_of_ble_eq_true rfl) (by exact Nat.le_of_ble_eq_true rfl) (r_passes1 (c := (ax_St.u_pl c (p + wd c.tl c.ch p))) hn (by show p + wd c.tl c.ch p ≤ 1000; omega) (Int8.ofInt 64).toInt32 h64) ?_; dsimp only [Option.toList, List.drop, List.cons_append, List.nil_append, e_pl1, e_pl2, e_pl3])
            refine w_if1 rfl (fun _ => ?_) (fun h5 => absurd k_ne1 h5)
            (repeat (first | refine w_iadd1 rfl ?_ | refine w_isub1 rfl ?_ | refine w_iinc1 rfl rfl ?_ | refine w_s rfl rfl ?_ | refine w_get rfl rfl rfl rfl ?_ | refine w_nnl rfl ?_ | refine w_nnlR rfl ?_ | refine w_nul rfl ?_ | refine w_nulR rfl ?_ | refine w_ldc rfl rfl ?_ | refine w_ldc2 rfl rfl ?_ | refine w_put rfl rfl rfl (Nat.le_of_ble_eq_true rfl) (Or.inl rfl) rfl rfl ?_))
            have hq : p + wd c.tl c.ch p + 1 ≤ c.tl := by omega
            generalize hQ : p + wd c.tl c.ch p + 1 = q at hq
            have hwq := wd_n (f := c.ch) hq
            have hvq := wv_lt c.tl c.ch q
            by_cases h1 : wd c.tl c.ch q = 0
            · rw [if_pos (fun z => z.1 h1), h1]
              (refine w_cv rfl rfl rfl rfl (by exact Nat.le_of_ble_eq_true rfl) (by exact Nat.le_of_ble_eq_true rfl) (r_whole0 (c := (ax_St.u_pl c q)) hn (by show q ≤ 1000; omega) h1) ?_; dsimp only [Option.toList, List.drop, List.cons_append, List.nil_append, e_pl1, e_pl2, e_pl3])
              (repeat (first | refine w_iadd1 rfl ?_ | refine w_isub1 rfl ?_ | refine w_iinc1 rfl rfl ?_ | refine w_s rfl rfl ?_ | refine w_get rfl rfl rfl rfl ?_ | refine w_nnl rfl ?_ | refine w_nnlR rfl ?_ | refine w_nul rfl ?_ | refine w_nulR rfl ?_ | refine w_ldc rfl rfl ?_ | refine w_ldc2 rfl rfl ?_ | refine w_put rfl rfl rfl (Nat.le_of_ble_eq_true rfl) (Or.inl rfl) rfl rfl ?_))
              refine w_if2 rfl (fun h5 => absurd rfl h5) (fun _ => ?_)
              (repeat (first | refine w_iadd1 rfl ?_ | refine w_isub1 rfl ?_ | refine w_iinc1 rfl rfl ?_ | refine w_s rfl rfl ?_ | refine w_get rfl rfl rfl rfl ?_ | refine w_nnl rfl ?_ | refine w_nnlR rfl ?_ | refine w_nul rfl ?_ | refine w_nulR rfl ?_ | refine w_ldc rfl rfl ?_ | refine w_ldc2 rfl rfl ?_ | refine w_put rfl rfl rfl (Nat.le_of_ble_eq_true rfl) (Or.inl rfl) rfl rfl ?_))
              (refine w_iret rfl rfl rfl ?_)
              exact ⟨0, q, fr', ce', s', can, rfl, rfl, Or.inl rfl⟩
            · (refine w_cv rfl rfl rfl rfl (by exact Nat.le_of_ble_eq_true rfl) (by exact Nat.le_of_ble_eq_true rfl) (r_whole1 (c := (ax_St.u_pl c q)) hn hq h1) ?_; dsimp only [Option.toList, List.drop, List.cons_append, List.nil_append, e_pl1, e_pl2, e_pl3])
              (repeat (first | refine w_iadd1 rfl ?_ | refine w_isub1 rfl ?_ | refine w_iinc1 rfl rfl ?_ | refine w_s rfl rfl ?_ | refine w_get rfl rfl rfl rfl ?_ | refine w_nnl rfl ?_ | refine w_nnlR rfl ?_ | refine w_nul rfl ?_ | refine w_nulR rfl ?_ | refine w_ldc rfl rfl ?_ | refine w_ldc2 rfl rfl ?_ | refine w_put rfl rfl rfl (Nat.le_of_ble_eq_true rfl) (Or.inl rfl) rfl rfl ?_))
              refine w_if2 rfl (fun _ => ?_) (fun h5 => absurd (Decidable.not_not.mp h5) (nI_ne (by omega)))
              (repeat (first | refine w_iadd1 rfl ?_ | refine w_isub1 rfl ?_ | refine w_iinc1 rfl rfl ?_ | refine w_s rfl rfl ?_ | refine w_get rfl rfl rfl rfl ?_ | refine w_nnl rfl ?_ | refine w_nnlR rfl ?_ | refine w_nul rfl ?_ | refine w_nulR rfl ?_ | refine w_ldc rfl rfl ?_ | refine w_ldc2 rfl rfl ?_ | refine w_put rfl rfl rfl (Nat.le_of_ble_eq_true rfl) (Or.inl rfl) rfl rfl ?_))
              obtain ⟨fr2, ce2, s2, can2, hst2, hrun⟩ := r_step (L := L) (xs := xs) (c := (ax_St.u_pl c (q + wd c.tl c.ch q))) (m := m) (o := o) (P := P) (u := u) (dy := dy) (lim := lim) hst hraw (wv c.tl c.ch p) (wv c.tl c.ch q) hvl hvq
              refine w_cv rfl rfl rfl (hp_at (ga (X := gC P.length lim fr' ce' s' dy can) (j := 0) rfl)) (Nat.le_of_ble_eq_true rfl) (Nat.le_of_ble_eq_true rfl) hrun ?_
              dsimp only [Option.toList, List.drop, List.cons_append, List.nil_append, e_pl1, e_pl2, e_pl3]
              (repeat (first | refine w_iadd1 rfl ?_ | refine w_isub1 rfl ?_ | refine w_iinc1 rfl rfl ?_ | refine w_s rfl rfl ?_ | refine w_get rfl rfl rfl rfl ?_ | refine w_nnl rfl ?_ | refine w_nnlR rfl ?_ | refine w_nul rfl ?_ | refine w_nulR rfl ?_ | refine w_ldc rfl rfl ?_ | refine w_ldc2 rfl rfl ?_ | refine w_put rfl rfl rfl (Nat.le_of_ble_eq_true rfl) (Or.inl rfl) rfl rfl ?_))
              by_cases hov2 : dg c.tl c.ch (q + wd c.tl c.ch q)
              · rw [if_pos (fun z => z.2 hov2)]
                (refine w_cv rfl rfl rfl rfl (by exact Nat.le_of_ble_eq_true rfl) (by exact Nat.le_of_ble_eq_true rfl) (r_passes0 (c := (ax_St.u_pl c (q + wd c.tl c.ch q))) hn (by show q + wd c.tl c.ch q ≤ 1000; omega) (Int8.ofInt 44).toInt32 (dg_ne hov2 (by decide))) ?_; dsimp only [Option.toList, List.drop, List.cons_append, List.nil_append, e_pl1, e_pl2, e_pl3])
                refine w_if1 rfl (fun h5 => absurd rfl h5) (fun _ => ?_)
                (repeat (first | refine w_iadd1 rfl ?_ | refine w_isub1 rfl ?_ | refine w_iinc1 rfl rfl ?_ | refine w_s rfl rfl ?_ | refine w_get rfl rfl rfl rfl ?_ | refine w_nnl rfl ?_ | refine w_nnlR rfl ?_ | refine w_nul rfl ?_ | refine w_nulR rfl ?_ | refine w_ldc rfl rfl ?_ | refine w_ldc2 rfl rfl ?_ | refine w_put rfl rfl rfl (Nat.le_of_ble_eq_true rfl) (Or.inl rfl) rfl rfl ?_))
                (refine w_iret rfl rfl rfl ?_)
                exact ⟨1, _, fr2, ce2, s2, can2, rfl, rfl, Or.inr ⟨rfl, hov2⟩⟩
              · rw [if_neg (fun z => z ⟨h1, hov2⟩)]
                by_cases h44 : nx c.tl c.ch (q + wd c.tl c.ch q) = 44
                · rw [if_pos h44]
                  have hlt2 := nx_lt h44 (by decide)
                  (refine w_cv rfl rfl rfl rfl (by exact Nat.le_of_ble_eq_true rfl) (by exact Nat.le_of_ble_eq_true rfl) (r_passes1 (c := (ax_St.u_pl c (q + wd c.tl c.ch q))) hn (by show q + wd c.tl c.ch q ≤ 1000; omega) (Int8.ofInt 44).toInt32 h44) ?_; dsimp only [Option.toList, List.drop, List.cons_append, List.nil_append, e_pl1, e_pl2, e_pl3])
                  refine w_if1 rfl (fun _ => ?_) (fun h5 => absurd k_ne1 h5)
                  (repeat ((fail_if_success (show ax_wp _ _ _ 2 _ _ _)); (first | refine w_iadd1 rfl ?_ | refine w_isub1 rfl ?_ | refine w_iinc1 rfl rfl ?_ | refine w_s rfl rfl ?_ | refine w_get rfl rfl rfl rfl ?_ | refine w_nnl rfl ?_ | refine w_nnlR rfl ?_ | refine w_nul rfl ?_ | refine w_nulR rfl ?_ | refine w_ldc rfl rfl ?_ | refine w_ldc2 rfl rfl ?_ | refine w_put rfl rfl rfl (Nat.le_of_ble_eq_true rfl) (Or.inl rfl) rfl rfl ?_)))
                  refine w_lv (ih (i + 1) (q + wd c.tl c.ch q + 1) _ _ fr2 ce2 s2 can2 (by omega) (by omega) (by omega) (fun j hj => ?_) hst2) rfl ⟨rfl, rfl, rfl, trivial⟩
                  by_cases hji : j = i
                  · subst hji; rw [va_up_self]; exact hvl
                  · rw [va_up_ne _ _ hji]; exact hraw j (by omega)
                · rw [if_neg h44]
                  (refine w_cv rfl rfl rfl rfl (by exact Nat.le_of_ble_eq_true rfl) (by exact Nat.le_of_ble_eq_true rfl) (r_passes0 (c := (ax_St.u_pl c (q + wd c.tl c.ch q))) hn (by show q + wd c.tl c.ch q ≤ 1000; omega) (Int8.ofInt 44).toInt32 h44) ?_; dsimp only [Option.toList, List.drop, List.cons_append, List.nil_append, e_pl1, e_pl2, e_pl3])
                  refine w_if1 rfl (fun h5 => absurd rfl h5) (fun _ => ?_)
                  (repeat (first | refine w_iadd1 rfl ?_ | refine w_isub1 rfl ?_ | refine w_iinc1 rfl rfl ?_ | refine w_s rfl rfl ?_ | refine w_get rfl rfl rfl rfl ?_ | refine w_nnl rfl ?_ | refine w_nnlR rfl ?_ | refine w_nul rfl ?_ | refine w_nulR rfl ?_ | refine w_ldc rfl rfl ?_ | refine w_ldc2 rfl rfl ?_ | refine w_put rfl rfl rfl (Nat.le_of_ble_eq_true rfl) (Or.inl rfl) rfl rfl ?_))
                  (refine w_iret rfl rfl rfl ?_)
                  exact ⟨1, _, fr2, ce2, s2, can2, rfl, rfl, rfl, hst2⟩
          · rw [if_pos h64]
            (refine w_cv rfl rfl rfl rfl (by exact Nat.le_of_ble_eq_true rfl) (by exact Nat.le_of_ble_eq_true rfl) (r_passes0 (c := (ax_St.u_pl c (p + wd c.tl c.ch p))) hn (by show p + wd c.tl c.ch p ≤ 1000; omega) (Int8.ofInt 64).toInt32 h64) ?_; dsimp only [Option.toList, List.drop, List.cons_append, List.nil_append, e_pl1, e_pl2, e_pl3])
            refine w_if1 rfl (fun h5 => absurd rfl h5) (fun _ => ?_)
            (repeat (first | refine w_iadd1 rfl ?_ | refine w_isub1 rfl ?_ | refine w_iinc1 rfl rfl ?_ | refine w_s rfl rfl ?_ | refine w_get rfl rfl rfl rfl ?_ | refine w_nnl rfl ?_ | refine w_nnlR rfl ?_ | refine w_nul rfl ?_ | refine w_nulR rfl ?_ | refine w_ldc rfl rfl ?_ | refine w_ldc2 rfl rfl ?_ | refine w_put rfl rfl rfl (Nat.le_of_ble_eq_true rfl) (Or.inl rfl) rfl rfl ?_))
            (refine w_iret rfl rfl rfl ?_)
            exact ⟨0, _, fr', ce', s', can, rfl, rfl, Or.inl rfl⟩
  (refine ax_T_of M_Tx_readSteps rfl (Nat.le_of_ble_eq_true rfl) ?_)
  (repeat ((fail_if_success (show ax_wp _ _ _ 2 _ _ _)); (first | refine w_iadd1 rfl ?_ | refine w_isub1 rfl ?_ | refine w_iinc1 rfl rfl ?_ | refine w_s rfl rfl ?_ | refine w_get rfl rfl rfl rfl ?_ | refine w_nnl rfl ?_ | refine w_nnlR rfl ?_ | refine w_nul rfl ?_ | refine w_nulR rfl ?_ | refine w_ldc rfl rfl ?_ | refine w_ldc2 rfl rfl ?_ | refine w_put rfl rfl rfl (Nat.le_of_ble_eq_true rfl) (Or.inl rfl) rfl rfl ?_)))
  refine w_lv (lp 101 0 p (fun _ => 0) (fun _ => 0) (fun _ => 0) (fun _ => 0) 0 (bI g0) (by omega) (by omega) hp (fun j hj => absurd hj (by omega)) ⟨bI_iff ⟨fun z => ⟨z, fun i hi => absurd hi (by omega)⟩, fun z => z.1⟩, by decide, fun j hj => absurd hj (by omega), fun _ => ⟨rfl, fun j hj => absurd hj (by omega)⟩⟩) rfl ⟨rfl, rfl, rfl, trivial⟩
end RST
