/-- the CLASSES of a text, at most k of them, from number i on -/
def ro (n : Nat) (f : Nat → Int32) : Nat → Nat → Nat → (Nat → ax_Rw) → Nat ⊕ (Nat × (Nat → ax_Rw))
  | 0, _, p, _ => .inl p
  | k + 1, i, p, ds => match rg n f p with
    | .inl e => .inl e
    | .inr (t, d) => if ¬ (gok d ∧ i < 4) then .inl p else if n ≤ t then .inr (i + 1, va_up ds i d) else ro n f k (i + 1) t (va_up ds i d)
theorem rg_le (n : Nat) (f : Nat → Int32) (p : Nat) (hp : p ≤ n) : match rg n f p with | .inl e => e ≤ n | .inr (q, _) => q ≤ n := by
  unfold rg
  by_cases h1 : nx n f p = 67
  · rw [if_neg (fun z => z h1)]
    have hlt := nx_lt h1 (by decide)
    have h2 := rl_le n f 6 0 (p + 1) (fun _ => 0) (by omega)
    generalize rl n f 6 0 (p + 1) (fun _ => 0) = RL at h2
    cases RL with
    | inl e => exact h2
    | inr ql =>
      obtain ⟨q, l⟩ := ql
      have h2' : q ≤ n := h2
      show match (if nx n f q ≠ 58 then (Sum.inl q : Nat ⊕ (Nat × ax_Rw)) else _) with | Sum.inl e => e ≤ n | Sum.inr (q, _) => q ≤ n
      by_cases h3 : nx n f q = 58
      · rw [if_neg (fun z => z h3)]
        have hlt2 := nx_lt h3 (by decide)
        have h4 := rs_le n f 101 0 (q + 1) (fun _ => 0) (fun _ => 0) (by omega)
        generalize rs n f 101 0 (q + 1) (fun _ => 0) (fun _ => 0) = RS at h4
        cases RS with
        | inl e => exact h4
        | inr qs =>
          obtain ⟨r, s, fr, ce⟩ := qs
          have h4' : r ≤ n := h4
          have h5 : match rd n f r with | .inl e => e ≤ n | .inr (q, _) => q ≤ n := by
            unfold rd
            by_cases h6 : nx n f r = 47
            · rw [if_neg (fun z => z h6)]
              have hlt3 := nx_lt h6 (by decide)
              have hw := wd_n (n := n) (f := f) (p := r + 1) (by omega)
              by_cases h7 : ¬ wok n f (r + 1)
              · rw [if_pos h7]; exact hw
              · rw [if_neg h7]
                by_cases h8 : nx n f (r + 1 + wd n f (r + 1)) = 59
                · rw [if_neg (fun z => z h8)]
                  have := nx_lt h8 (by decide)
                  show r + 1 + wd n f (r + 1) + 1 ≤ n
                  omega
                · rw [if_pos h8]; exact hw
            · rw [if_pos h6]; exact h4'
          show match (match rd n f r with | .inl e => (Sum.inl e : Nat ⊕ (Nat × ax_Rw)) | .inr (t, dy) => Sum.inr (t, ⟨l, s, fr, ce, dy⟩)) with | Sum.inl e => e ≤ n | Sum.inr (q, _) => q ≤ n
          generalize rd n f r = RD at h5 ⊢
          cases RD with
          | inl e => exact h5
          | inr q2 => exact h5
      · rw [if_pos h3]; exact h2'
  · rw [if_pos h1]; exact hp
/-- the cells of i grades -/
def gR (b : Nat) (Gs : Nat → ax_Gr) : Nat → List (Option ax_C)
  | 0 => []
  | i + 1 => gR b Gs i ++ gC (b + 4 * i) (Gs i).lim (Gs i).fr (Gs i).ce (Gs i).st (Gs i).dy 1
theorem gR_len (b : Nat) (Gs : Nat → ax_Gr) : ∀ i, (gR b Gs i).length = 4 * i := by
  intro i
  induction i with
  | zero => rfl
  | succ i ih =>
    show (gR b Gs i ++ gC _ _ _ _ _ _ _).length = _
    rw [List.length_append, ih]
    show 4 * i + 4 = 4 * (i + 1)
    omega
theorem gR_up (b : Nat) (Gs : Nat → ax_Gr) (G : ax_Gr) (i : Nat) : ∀ j, j ≤ i → gR b (va_up Gs i G) j = gR b Gs j := by
  intro j
  induction j with
  | zero => exact fun _ => rfl
  | succ j ih =>
    intro hj
    show gR b (va_up Gs i G) j ++ gC _ _ _ _ _ _ _ = _
    rw [ih (by omega), va_up_ne _ _ (by omega)]
    rfl
theorem gR_at (b : Nat) (Gs : Nat → ax_Gr) {j r : Nat} (hr : r < 4) : ∀ i, j < i → (gR b Gs i)[4 * j + r]? = (gC (b + 4 * j) (Gs j).lim (Gs j).fr (Gs j).ce (Gs j).st (Gs j).dy 1)[r]? := by
  intro i
  induction i with
  | zero => intro h; omega
  | succ i ih =>
    intro h
    show (gR b Gs i ++ gC _ _ _ _ _ _ _)[4 * j + r]? = _
    by_cases hj : j = i
    · subst hj
      rw [List.getElem?_append_right (by rw [gR_len]; omega), gR_len, show 4 * j + r - 4 * j = r by omega]
    · rw [List.getElem?_append_left (by rw [gR_len]; omega)]
      exact ih (by omega)
theorem gR_grade {Z : List (Option ax_C)} {b i k : Nat} {Gs : Nat → ax_Gr} (hk : k < i) (h1 : ∀ (r : Nat) (x : Option ax_C), (gR b Gs i)[r]? = some x → Z[b + r]? = some x) : GradeAt Z (b + 4 * k) (Gs k) := by
  have g : ∀ (r : Nat) (x : Option ax_C), r < 4 → (gC (b + 4 * k) (Gs k).lim (Gs k).fr (Gs k).ce (Gs k).st (Gs k).dy 1)[r]? = some x → Z[b + 4 * k + r]? = some x := by
    intro r x hr hx
    have := h1 (4 * k + r) x (by rw [gR_at b Gs hr i hk]; exact hx)
    rw [show b + (4 * k + r) = b + 4 * k + r by omega] at this
    exact this
  exact ⟨b + 4 * k + 1, b + 4 * k + 2, b + 4 * k + 3, 1, g 0 _ (by omega) rfl, g 1 _ (by omega) rfl, g 2 _ (by omega) rfl, g 3 _ (by omega) rfl⟩
/-- an offer's cells -/
def oX (b i : Nat) (gf : Nat → Option Nat) (Y : List (Option ax_C)) : List (Option ax_C) := ax_ob 4 [.ref (b + 1 + 40), .int (nI i)] :: ax_aG 4 gf :: Y
section ROF
variable {C : Nat → List Value → ax_H → ax_R → Prop} {M : ax_M} {Q : ax_R → Prop} {pc nxt tg : Nat} {lv lv' : ax_L} {st st' : List Value}
variable {L : Nat} {xs : Nat → Int32} {c : ax_St} {m : ax_Mo} {o : Nat → Int64} {P X : List (Option ax_C)} {u : Nat}
theorem w_aasP {n i v : Nat} {x : Int32} {f : Nat → Option Nat} {fs : List Value} (j : Nat) (hd : M.2.2.1.lookup pc = some (.aastore, nxt, tg)) (hc : X[j]? = some (some (.inl (4, n, .inr (.inr (.inr (.inr f))))))) (hx : x = nI i) (hl : i < n) (hn : n ≤ 1000000) (hv : (P ++ X)[v]? = some (some (.inr (3, fs)))) (k : ax_wp C M Q nxt lv st (ax_hp L xs c m o (P ++ X.set j (some (.inl (4, n, .inr (.inr (.inr (.inr (va_up f i (some (v + 40)))))))))), u)) : ax_wp C M Q pc lv (.ref (v + 40) :: .int x :: .ref (P.length + j + 40) :: st) (ax_hp L xs c m o (P ++ X), u) := by
  rw [← sa] at k
  exact w_aas hd (hp_at (ga hc)) (Or.inr rfl) hx hl hn (hp_at hv) k
theorem r_Of_init : ax_run m_Of_init [.ref (P.length + 0 + 40)] (ax_hp L xs c m o (P ++ [ax_ob 4 (ax_dfl 4)]), u) (.inl none, (ax_hp L xs c m o (P ++ oX P.length 0 (fun _ => none) []), u + 4)) := by
  (refine ax_run_T (ax_T_of M_Of_init rfl (Nat.le_of_ble_eq_true rfl) ?_))
  (repeat (first | refine w_iadd1 rfl ?_ | refine w_isub1 rfl ?_ | refine w_iinc1 rfl rfl ?_ | refine w_s rfl rfl ?_ | refine w_get rfl rfl rfl rfl ?_ | refine w_nnl rfl ?_ | refine w_nnlR rfl ?_ | refine w_nul rfl ?_ | refine w_nulR rfl ?_ | refine w_ldc rfl rfl ?_ | refine w_ldc2 rfl rfl ?_ | refine w_put rfl rfl rfl (Nat.le_of_ble_eq_true rfl) (Or.inl rfl) rfl rfl ?_))
  refine w_oi rfl (by decide) (Nat.le_of_ble_eq_true rfl) ?_
  (repeat (first | refine w_iadd1 rfl ?_ | refine w_isub1 rfl ?_ | refine w_iinc1 rfl rfl ?_ | refine w_s rfl rfl ?_ | refine w_get rfl rfl rfl rfl ?_ | refine w_nnl rfl ?_ | refine w_nnlR rfl ?_ | refine w_nul rfl ?_ | refine w_nulR rfl ?_ | refine w_ldc rfl rfl ?_ | refine w_ldc2 rfl rfl ?_ | refine w_put rfl rfl rfl (Nat.le_of_ble_eq_true rfl) (Or.inl rfl) rfl rfl ?_))
  refine w_newq rfl rfl (by decide) (by decide) ?_
  have e1 : (ax_hp L xs c m o (P ++ [ax_ob 4 (ax_dfl 4)])).length = P.length + 1 + 40 := by
    show (P ++ [ax_ob 4 (ax_dfl 4)]).length + 40 = _
    rw [List.length_append]
    rfl
  have e2 : ax_hp L xs c m o (P ++ [ax_ob 4 (ax_dfl 4)]) ++ [some (.inl (4, (Int32.ofInt 4).toNatClampNeg, ax_blank 4))] = ax_hp L xs c m o (P ++ [ax_ob 4 (ax_dfl 4), ax_aG 4 (fun _ => none)]) := by
    show ax_hp L xs c m o (P ++ [_] ++ [_]) = _
    rw [List.append_assoc]
    rfl
  rw [e1, e2]
  refine w_putP 0 rfl rfl rfl (Nat.le_of_ble_eq_true rfl) (Or.inr ⟨rfl, rfl⟩) rfl rfl ?_
  refine w_vret rfl rfl ?_
  rfl
theorem r_Of_add1 {i v : Nat} {gf : Nat → Option Nat} {Y : List (Option ax_C)} {fs : List Value} (hi : i < 4) (hv : (P ++ oX P.length i gf Y)[v]? = some (some (.inr (3, fs)))) : ax_run m_Of_add [.ref (P.length + 0 + 40), .ref (v + 40)] (ax_hp L xs c m o (P ++ oX P.length i gf Y), u) (.inl (some (.int (Int32.ofInt 1))), (ax_hp L xs c m o (P ++ oX P.length (i + 1) (va_up gf i (some (v + 40))) Y), u)) := by
  (refine ax_run_T (ax_T_of M_Of_add rfl (Nat.le_of_ble_eq_true rfl) ?_))
  (repeat (first | refine w_iadd1 rfl ?_ | refine w_isub1 rfl ?_ | refine w_iinc1 rfl rfl ?_ | refine w_s rfl rfl ?_ | refine w_get rfl rfl rfl rfl ?_ | refine w_nnl rfl ?_ | refine w_nnlR rfl ?_ | refine w_nul rfl ?_ | refine w_nulR rfl ?_ | refine w_ldc rfl rfl ?_ | refine w_ldc2 rfl rfl ?_ | refine w_put rfl rfl rfl (Nat.le_of_ble_eq_true rfl) (Or.inl rfl) rfl rfl ?_))
  refine w_getP 0 rfl rfl rfl rfl ?_
  (repeat (first | refine w_iadd1 rfl ?_ | refine w_isub1 rfl ?_ | refine w_iinc1 rfl rfl ?_ | refine w_s rfl rfl ?_ | refine w_get rfl rfl rfl rfl ?_ | refine w_nnl rfl ?_ | refine w_nnlR rfl ?_ | refine w_nul rfl ?_ | refine w_nulR rfl ?_ | refine w_ldc rfl rfl ?_ | refine w_ldc2 rfl rfl ?_ | refine w_put rfl rfl rfl (Nat.le_of_ble_eq_true rfl) (Or.inl rfl) rfl rfl ?_))
  refine w_if2 rfl (fun _ => ?_) (fun h5 => absurd ((cn_lt (a := i) (b := 4) (by omega) (by omega)).mpr hi) h5)
  (repeat (first | refine w_iadd1 rfl ?_ | refine w_isub1 rfl ?_ | refine w_iinc1 rfl rfl ?_ | refine w_s rfl rfl ?_ | refine w_get rfl rfl rfl rfl ?_ | refine w_nnl rfl ?_ | refine w_nnlR rfl ?_ | refine w_nul rfl ?_ | refine w_nulR rfl ?_ | refine w_ldc rfl rfl ?_ | refine w_ldc2 rfl rfl ?_ | refine w_put rfl rfl rfl (Nat.le_of_ble_eq_true rfl) (Or.inl rfl) rfl rfl ?_))
  refine w_getP 0 rfl rfl rfl rfl ?_
  (repeat (first | refine w_iadd1 rfl ?_ | refine w_isub1 rfl ?_ | refine w_iinc1 rfl rfl ?_ | refine w_s rfl rfl ?_ | refine w_get rfl rfl rfl rfl ?_ | refine w_nnl rfl ?_ | refine w_nnlR rfl ?_ | refine w_nul rfl ?_ | refine w_nulR rfl ?_ | refine w_ldc rfl rfl ?_ | refine w_ldc2 rfl rfl ?_ | refine w_put rfl rfl rfl (Nat.le_of_ble_eq_true rfl) (Or.inl rfl) rfl rfl ?_))
  refine w_getP 0 rfl rfl rfl rfl ?_
  (repeat (first | refine w_iadd1 rfl ?_ | refine w_isub1 rfl ?_ | refine w_iinc1 rfl rfl ?_ | refine w_s rfl rfl ?_ | refine w_get rfl rfl rfl rfl ?_ | refine w_nnl rfl ?_ | refine w_nnlR rfl ?_ | refine w_nul rfl ?_ | refine w_nulR rfl ?_ | refine w_ldc rfl rfl ?_ | refine w_ldc2 rfl rfl ?_ | refine w_put rfl rfl rfl (Nat.le_of_ble_eq_true rfl) (Or.inl rfl) rfl rfl ?_))
  refine w_aasP 1 rfl rfl rfl hi (by decide) hv ?_
  (repeat (first | refine w_iadd1 rfl ?_ | refine w_isub1 rfl ?_ | refine w_iinc1 rfl rfl ?_ | refine w_s rfl rfl ?_ | refine w_get rfl rfl rfl rfl ?_ | refine w_nnl rfl ?_ | refine w_nnlR rfl ?_ | refine w_nul rfl ?_ | refine w_nulR rfl ?_ | refine w_ldc rfl rfl ?_ | refine w_ldc2 rfl rfl ?_ | refine w_put rfl rfl rfl (Nat.le_of_ble_eq_true rfl) (Or.inl rfl) rfl rfl ?_))
  refine w_getP 0 rfl rfl rfl rfl ?_
  (repeat (first | refine w_iadd1 rfl ?_ | refine w_isub1 rfl ?_ | refine w_iinc1 rfl rfl ?_ | refine w_s rfl rfl ?_ | refine w_get rfl rfl rfl rfl ?_ | refine w_nnl rfl ?_ | refine w_nnlR rfl ?_ | refine w_nul rfl ?_ | refine w_nulR rfl ?_ | refine w_ldc rfl rfl ?_ | refine w_ldc2 rfl rfl ?_ | refine w_put rfl rfl rfl (Nat.le_of_ble_eq_true rfl) (Or.inl rfl) rfl rfl ?_))
  refine w_putP 0 rfl rfl rfl (Nat.le_of_ble_eq_true rfl) (Or.inl rfl) rfl rfl ?_
  (repeat (first | refine w_iadd1 rfl ?_ | refine w_isub1 rfl ?_ | refine w_iinc1 rfl rfl ?_ | refine w_s rfl rfl ?_ | refine w_get rfl rfl rfl rfl ?_ | refine w_nnl rfl ?_ | refine w_nnlR rfl ?_ | refine w_nul rfl ?_ | refine w_nulR rfl ?_ | refine w_ldc rfl rfl ?_ | refine w_ldc2 rfl rfl ?_ | refine w_put rfl rfl rfl (Nat.le_of_ble_eq_true rfl) (Or.inl rfl) rfl rfl ?_))
  (refine w_iret rfl rfl rfl ?_)
  rfl
theorem r_Of_add0 {v : Nat} {gf : Nat → Option Nat} {Y : List (Option ax_C)} : ax_run m_Of_add [.ref (P.length + 0 + 40), .ref (v + 40)] (ax_hp L xs c m o (P ++ oX P.length 4 gf Y), u) (.inl (some (.int (Int32.ofInt 0))), (ax_hp L xs c m o (P ++ oX P.length 4 gf Y), u)) := by
  (refine ax_run_T (ax_T_of M_Of_add rfl (Nat.le_of_ble_eq_true rfl) ?_))
  (repeat (first | refine w_iadd1 rfl ?_ | refine w_isub1 rfl ?_ | refine w_iinc1 rfl rfl ?_ | refine w_s rfl rfl ?_ | refine w_get rfl rfl rfl rfl ?_ | refine w_nnl rfl ?_ | refine w_nnlR rfl ?_ | refine w_nul rfl ?_ | refine w_nulR rfl ?_ | refine w_ldc rfl rfl ?_ | refine w_ldc2 rfl rfl ?_ | refine w_put rfl rfl rfl (Nat.le_of_ble_eq_true rfl) (Or.inl rfl) rfl rfl ?_))
  refine w_getP 0 rfl rfl rfl rfl ?_
  (repeat (first | refine w_iadd1 rfl ?_ | refine w_isub1 rfl ?_ | refine w_iinc1 rfl rfl ?_ | refine w_s rfl rfl ?_ | refine w_get rfl rfl rfl rfl ?_ | refine w_nnl rfl ?_ | refine w_nnlR rfl ?_ | refine w_nul rfl ?_ | refine w_nulR rfl ?_ | refine w_ldc rfl rfl ?_ | refine w_ldc2 rfl rfl ?_ | refine w_put rfl rfl rfl (Nat.le_of_ble_eq_true rfl) (Or.inl rfl) rfl rfl ?_))
  refine w_if2 rfl (fun h5 => absurd ((cn_lt (a := 4) (b := 4) (by omega) (by omega)).mp h5) (by omega)) (fun _ => ?_)
  (repeat (first | refine w_iadd1 rfl ?_ | refine w_isub1 rfl ?_ | refine w_iinc1 rfl rfl ?_ | refine w_s rfl rfl ?_ | refine w_get rfl rfl rfl rfl ?_ | refine w_nnl rfl ?_ | refine w_nnlR rfl ?_ | refine w_nul rfl ?_ | refine w_nulR rfl ?_ | refine w_ldc rfl rfl ?_ | refine w_ldc2 rfl rfl ?_ | refine w_put rfl rfl rfl (Nat.le_of_ble_eq_true rfl) (Or.inl rfl) rfl rfl ?_))
  (refine w_iret rfl rfl rfl ?_)
  rfl
end ROF
/-- how the reading of an offer ends -/
def QO (L : Nat) (xs : Nat → Int32) (c : ax_St) (m : ax_Mo) (o : Nat → Int64) (P : List (Option ax_C)) (u : Nat) (q : Nat ⊕ (Nat × (Nat → ax_Rw))) (r : ax_R) : Prop := match q with
  | .inl e => ∃ (X : List (Option ax_C)) (u' : Nat), r = (.inl (some .null), (ax_hp L xs (ax_St.u_pl c e) m o (P ++ X), u')) ∧ X.length ≤ 22 ∧ u' ≤ u + 106
  | .inr (n, ds) => ∃ (X : List (Option ax_C)) (u' t : Nat) (F : ax_Of), r = (.inl (some (.ref (P.length + 0 + 40))), (ax_hp L xs (ax_St.u_pl c t) m o (P ++ X), u')) ∧ X.length ≤ 22 ∧ u' ≤ u + 106 ∧ F.n = n ∧ 1 ≤ n ∧ n ≤ 4 ∧ OfferAt (P ++ X) P.length F ∧ (∃ fs, X[0]? = some (some (.inr (4, fs)))) ∧ ∀ j, j < n → gok (ds j) ∧ GM (F.g j) (ds j)
section ROG
variable {L : Nat} {xs : Nat → Int32} {c : ax_St} {m : ax_Mo} {o : Nat → Int64} {P : List (Option ax_C)} {u : Nat}
theorem oX_len (b i : Nat) (gf : Nat → Option Nat) (B : Nat) (Gs : Nat → ax_Gr) (k : Nat) : (P ++ oX b i gf (gR B Gs k)).length = P.length + 2 + 4 * k := by
  rw [List.length_append]
  show P.length + ((gR B Gs k).length + 1 + 1) = _
  rw [gR_len]
  omega
theorem r_readOffer (hn : c.tl ≤ 400) (p : Nat) (hp : p ≤ c.tl) (ds0 : Nat → ax_Rw) :
    ax_T m_Tx_readOffer [.ref 2] (ax_hp L xs (ax_St.u_pl c p) m o P, u) (QO L xs c m o P u (ro c.tl c.ch 5 0 p ds0)) := by
  have lp : ∀ (k i p : Nat) (ds : Nat → ax_Rw) (Gs : Nat → ax_Gr) (gf : Nat → Option Nat), i + k = 5 → i ≤ 4 → p ≤ c.tl → (∀ j, j < i → gok (ds j) ∧ GM (Gs j) (ds j)) → (∀ j, j < i → gf j = some (P.length + 2 + 4 * j + 40)) → ax_wp ax_run M_Tx_readOffer (QO L xs c m o P u (ro c.tl c.ch k i p ds)) 10 [(0, .ref 2), (1, .ref (P.length + 0 + 40)), (2, .int (nI i))] [] (ax_hp L xs (ax_St.u_pl c p) m o (P ++ oX P.length i gf (gR (P.length + 2) Gs i)), u + 6 + 20 * i) := by
    intro k
    induction k with
    | zero => intro i p ds Gs gf h1 h2; omega
    | succ k ih =>
      intro i p ds Gs gf h1 h2 hp hds hgf
      have hlen := oX_len (P := P) P.length i gf (P.length + 2) Gs i
      (repeat (first | refine w_iadd1 rfl ?_ | refine w_isub1 rfl ?_ | refine w_iinc1 rfl rfl ?_ | refine w_s rfl rfl ?_ | refine w_get rfl rfl rfl rfl ?_ | refine w_nnl rfl ?_ | refine w_nnlR rfl ?_ | refine w_nul rfl ?_ | refine w_nulR rfl ?_ | refine w_ldc rfl rfl ?_ | refine w_ldc2 rfl rfl ?_ | refine w_put rfl rfl rfl (Nat.le_of_ble_eq_true rfl) (Or.inl rfl) rfl rfl ?_))
      refine w_if2 rfl (fun h5 => ?_) (fun _ => ?_)
      · have h6 := Int32.lt_iff_toInt_lt.mp (show Int32.ofInt 4 < nI i from h5)
        rw [q_nI' (by omega)] at h6
        have h7 : (4 : Int) < i := h6
        omega
      (repeat (first | refine w_iadd1 rfl ?_ | refine w_isub1 rfl ?_ | refine w_iinc1 rfl rfl ?_ | refine w_s rfl rfl ?_ | refine w_get rfl rfl rfl rfl ?_ | refine w_nnl rfl ?_ | refine w_nnlR rfl ?_ | refine w_nul rfl ?_ | refine w_nulR rfl ?_ | refine w_ldc rfl rfl ?_ | refine w_ldc2 rfl rfl ?_ | refine w_put rfl rfl rfl (Nat.le_of_ble_eq_true rfl) (Or.inl rfl) rfl rfl ?_))
      obtain ⟨r1, hr1, hq⟩ := r_readGrade (L := L) (xs := xs) (c := c) (m := m) (o := o) (P := P ++ oX P.length i gf (gR (P.length + 2) Gs i)) (u := u + 6 + 20 * i) hn p hp
      have hle := rg_le c.tl c.ch p hp
      show ax_wp _ _ (QO L xs c m o P u (match rg c.tl c.ch p with | .inl e => .inl e | .inr (t, d) => if ¬ (gok d ∧ i < 4) then .inl p else if c.tl ≤ t then .inr (i + 1, va_up ds i d) else ro c.tl c.ch k (i + 1) t (va_up ds i d))) _ _ _ _
      generalize rg c.tl c.ch p = RG at hq hle
      cases RG with
      | inl e =>
        obtain ⟨X', u', rfl, hX', hu'⟩ := hq
        (refine w_cv rfl rfl rfl rfl (by exact Nat.le_of_ble_eq_true rfl) (by exact Nat.le_of_ble_eq_true rfl) hr1 ?_; dsimp only [Option.toList, List.drop, List.cons_append, List.nil_append, e_pl1, e_pl2, e_pl3])
        (repeat (first | refine w_iadd1 rfl ?_ | refine w_isub1 rfl ?_ | refine w_iinc1 rfl rfl ?_ | refine w_s rfl rfl ?_ | refine w_get rfl rfl rfl rfl ?_ | refine w_nnl rfl ?_ | refine w_nnlR rfl ?_ | refine w_nul rfl ?_ | refine w_nulR rfl ?_ | refine w_ldc rfl rfl ?_ | refine w_ldc2 rfl rfl ?_ | refine w_put rfl rfl rfl (Nat.le_of_ble_eq_true rfl) (Or.inl rfl) rfl rfl ?_))
        refine w_aret rfl rfl rfl ⟨oX P.length i gf (gR (P.length + 2) Gs i) ++ X', u', by rw [List.append_assoc], ?_, by omega⟩
        rw [List.length_append]
        rw [List.length_append] at hlen
        omega
      | inr td =>
        obtain ⟨t, d⟩ := td
        obtain ⟨lim, fr, ce, s, dy, can, rfl, hcan, hGM⟩ := hq
        have hle' : t ≤ c.tl := hle
        show ax_wp _ _ (QO L xs c m o P u (if ¬ (gok d ∧ i < 4) then .inl p else if c.tl ≤ t then .inr (i + 1, va_up ds i d) else ro c.tl c.ch k (i + 1) t (va_up ds i d))) _ _ _ _
        (refine w_cv rfl rfl rfl rfl (by exact Nat.le_of_ble_eq_true rfl) (by exact Nat.le_of_ble_eq_true rfl) hr1 ?_; dsimp only [Option.toList, List.drop, List.cons_append, List.nil_append, e_pl1, e_pl2, e_pl3])
        (repeat (first | refine w_iadd1 rfl ?_ | refine w_isub1 rfl ?_ | refine w_iinc1 rfl rfl ?_ | refine w_s rfl rfl ?_ | refine w_get rfl rfl rfl rfl ?_ | refine w_nnl rfl ?_ | refine w_nnlR rfl ?_ | refine w_nul rfl ?_ | refine w_nulR rfl ?_ | refine w_ldc rfl rfl ?_ | refine w_ldc2 rfl rfl ?_ | refine w_put rfl rfl rfl (Nat.le_of_ble_eq_true rfl) (Or.inl rfl) rfl rfl ?_))
        refine w_getP (P := P ++ oX P.length i gf (gR (P.length + 2) Gs i)) 0 rfl rfl rfl rfl ?_
        have bad : ¬ (gok d ∧ i < 4) → ax_wp ax_run M_Tx_readOffer (QO L xs c m o P u (.inl p)) 50 [(0, .ref 2), (3, .int (nI p))] [] (ax_hp L xs (ax_St.u_pl c t) m o (P ++ oX P.length i gf (gR (P.length + 2) Gs i) ++ gC (P ++ oX P.length i gf (gR (P.length + 2) Gs i)).length lim fr ce s dy can), u + 6 + 20 * i + 20) := by
          intro _
          (repeat (first | refine w_iadd1 rfl ?_ | refine w_isub1 rfl ?_ | refine w_iinc1 rfl rfl ?_ | refine w_s rfl rfl ?_ | refine w_get rfl rfl rfl rfl ?_ | refine w_nnl rfl ?_ | refine w_nnlR rfl ?_ | refine w_nul rfl ?_ | refine w_nulR rfl ?_ | refine w_ldc rfl rfl ?_ | refine w_ldc2 rfl rfl ?_ | refine w_put rfl rfl rfl (Nat.le_of_ble_eq_true rfl) (Or.inl rfl) rfl rfl ?_))
          refine w_aret rfl rfl rfl ⟨oX P.length i gf (gR (P.length + 2) Gs i) ++ gC (P ++ oX P.length i gf (gR (P.length + 2) Gs i)).length lim fr ce s dy can, u + 6 + 20 * i + 20, by rw [List.append_assoc]; rfl, ?_, by omega⟩
          rw [List.length_append]
          rw [List.length_append] at hlen
          show _ + 4 ≤ 22
          omega
        by_cases hg : gok d
        · have hcan1 : can = Int32.ofInt 1 := by rw [hcan, bI_t hg]
          refine w_if1 rfl (fun h5 => absurd h5 (by rw [hcan1]; exact k_eq1)) (fun _ => ?_)
          (repeat (first | refine w_iadd1 rfl ?_ | refine w_isub1 rfl ?_ | refine w_iinc1 rfl rfl ?_ | refine w_s rfl rfl ?_ | refine w_get rfl rfl rfl rfl ?_ | refine w_nnl rfl ?_ | refine w_nnlR rfl ?_ | refine w_nul rfl ?_ | refine w_nulR rfl ?_ | refine w_ldc rfl rfl ?_ | refine w_ldc2 rfl rfl ?_ | refine w_put rfl rfl rfl (Nat.le_of_ble_eq_true rfl) (Or.inl rfl) rfl rfl ?_))
          by_cases h4 : i < 4
          · rw [if_neg (fun z => z ⟨hg, h4⟩)]
            have hpool : P ++ oX P.length i gf (gR (P.length + 2) Gs i) ++ gC (P ++ oX P.length i gf (gR (P.length + 2) Gs i)).length lim fr ce s dy can = P ++ oX P.length i gf (gR (P.length + 2) (va_up Gs i ⟨lim, fr, ce, s, dy⟩) (i + 1)) := by
              rw [List.append_assoc, hlen, hcan1]
              show P ++ (oX P.length i gf (gR (P.length + 2) Gs i ++ _)) = P ++ oX P.length i gf (gR _ _ i ++ gC _ _ _ _ _ _ _)
              rw [gR_up _ _ _ _ _ (Nat.le_refl _), va_up_self]
              rfl
            rw [hpool, hlen]
            have hx : (P ++ oX P.length i gf (gR (P.length + 2) (va_up Gs i ⟨lim, fr, ce, s, dy⟩) (i + 1)))[P.length + (4 * i + 0 + 2)]? = some (ax_ob 3 [.ref (P.length + 2 + 4 * i + 1 + 40), .ref (P.length + 2 + 4 * i + 2 + 40), .ref (P.length + 2 + 4 * i + 3 + 40), .int (nI s), .int dy, .int 1]) := by
              refine ga ?_
              show (gR (P.length + 2) (va_up Gs i ⟨lim, fr, ce, s, dy⟩) (i + 1))[4 * i + 0]? = _
              rw [gR_at _ _ (by omega) (i + 1) (by omega), va_up_self]
              rfl
            rw [show P.length + (4 * i + 0 + 2) = P.length + 2 + 4 * i by omega] at hx
            refine w_cv rfl rfl rfl (hp_at (ga (j := 0) rfl)) (Nat.le_of_ble_eq_true rfl) (Nat.le_of_ble_eq_true rfl) (r_Of_add1 (c := (ax_St.u_pl c t)) (P := P) (v := P.length + 2 + 4 * i) h4 hx) ?_
            dsimp only [Option.toList, List.drop, List.cons_append, List.nil_append, e_pl1, e_pl2, e_pl3]
            refine w_if1 rfl (fun _ => ?_) (fun h5 => absurd k_ne1 h5)
            (repeat (first | refine w_iadd1 rfl ?_ | refine w_isub1 rfl ?_ | refine w_iinc1 rfl rfl ?_ | refine w_s rfl rfl ?_ | refine w_get rfl rfl rfl rfl ?_ | refine w_nnl rfl ?_ | refine w_nnlR rfl ?_ | refine w_nul rfl ?_ | refine w_nulR rfl ?_ | refine w_ldc rfl rfl ?_ | refine w_ldc2 rfl rfl ?_ | refine w_put rfl rfl rfl (Nat.le_of_ble_eq_true rfl) (Or.inl rfl) rfl rfl ?_))
            have hds' : ∀ j, j < i + 1 → gok (va_up ds i d j) ∧ GM (va_up Gs i ⟨lim, fr, ce, s, dy⟩ j) (va_up ds i d j) := by
              intro j hj
              by_cases hji : j = i
              · subst hji
                rw [va_up_self, va_up_self]
                exact ⟨hg, hGM hg⟩
              · rw [va_up_ne _ _ hji, va_up_ne _ _ hji]
                exact hds j (by omega)
            have hgf' : ∀ j, j < i + 1 → va_up gf i (some (P.length + 2 + 4 * i + 40)) j = some (P.length + 2 + 4 * j + 40) := by
              intro j hj
              by_cases hji : j = i
              · subst hji
                rw [va_up_self]
              · rw [va_up_ne _ _ hji]
                exact hgf j (by omega)
            by_cases hend : c.tl ≤ t
            · rw [if_pos hend]
              refine w_if2 rfl (fun h5 => absurd ((cn_lt (a := t) (b := c.tl) (by omega) (by omega)).mp h5) (by omega)) (fun _ => ?_)
              (repeat (first | refine w_iadd1 rfl ?_ | refine w_isub1 rfl ?_ | refine w_iinc1 rfl rfl ?_ | refine w_s rfl rfl ?_ | refine w_get rfl rfl rfl rfl ?_ | refine w_nnl rfl ?_ | refine w_nnlR rfl ?_ | refine w_nul rfl ?_ | refine w_nulR rfl ?_ | refine w_ldc rfl rfl ?_ | refine w_ldc2 rfl rfl ?_ | refine w_put rfl rfl rfl (Nat.le_of_ble_eq_true rfl) (Or.inl rfl) rfl rfl ?_))
              refine w_aret rfl rfl rfl ⟨_, u + 6 + 20 * i + 20, t, ⟨i + 1, va_up Gs i ⟨lim, fr, ce, s, dy⟩⟩, rfl, ?_, by omega, rfl, by omega, by omega, ⟨P.length + 1, _, ga (j := 0) rfl, ga (j := 1) rfl, fun k hk => ⟨P.length + 2 + 4 * k, hgf' k hk, gR_grade hk (fun r x hx => ?_)⟩⟩, ⟨_, rfl⟩, hds'⟩
              · have := oX_len (P := P) P.length (i + 1) (va_up gf i (some (P.length + 2 + 4 * i + 40))) (P.length + 2) (va_up Gs i ⟨lim, fr, ce, s, dy⟩) (i + 1)
                rw [List.length_append] at this
                omega
              · rw [show P.length + 2 + r = P.length + (r + 2) by omega]
                exact ga (j := r + 2) hx
            · rw [if_neg hend]
              refine w_if2 rfl (fun _ => ?_) (fun h5 => absurd ((cn_lt (a := t) (b := c.tl) (by omega) (by omega)).mpr (by omega)) h5)
              (repeat ((fail_if_success (show ax_wp _ _ _ 10 _ _ _)); (first | refine w_iadd1 rfl ?_ | refine w_isub1 rfl ?_ | refine w_iinc1 rfl rfl ?_ | refine w_s rfl rfl ?_ | refine w_get rfl rfl rfl rfl ?_ | refine w_nnl rfl ?_ | refine w_nnlR rfl ?_ | refine w_nul rfl ?_ | refine w_nulR rfl ?_ | refine w_ldc rfl rfl ?_ | refine w_ldc2 rfl rfl ?_ | refine w_put rfl rfl rfl (Nat.le_of_ble_eq_true rfl) (Or.inl rfl) rfl rfl ?_)))
              have := ih (i + 1) t (va_up ds i d) (va_up Gs i ⟨lim, fr, ce, s, dy⟩) (va_up gf i (some (P.length + 2 + 4 * i + 40))) (by omega) (by omega) (by omega) hds' hgf'
              rw [show u + 6 + 20 * (i + 1) = u + 6 + 20 * i + 20 by omega] at this
              exact w_lv this rfl ⟨rfl, rfl, rfl, trivial⟩
          · rw [if_pos (fun z => h4 z.2)]
            have hi4 : i = 4 := by omega
            subst hi4
            have hadd := r_Of_add0 (L := L) (xs := xs) (c := (ax_St.u_pl c t)) (m := m) (o := o) (P := P) (u := u + 6 + 20 * 4 + 20) (v := (P ++ oX P.length 4 gf (gR (P.length + 2) Gs 4)).length + 0) (gf := gf) (Y := gR (P.length + 2) Gs 4 ++ gC (P ++ oX P.length 4 gf (gR (P.length + 2) Gs 4)).length lim fr ce s dy can)
            have hpool : P ++ oX P.length 4 gf (gR (P.length + 2) Gs 4) ++ gC (P ++ oX P.length 4 gf (gR (P.length + 2) Gs 4)).length lim fr ce s dy can = P ++ oX P.length 4 gf (gR (P.length + 2) Gs 4 ++ gC (P ++ oX P.length 4 gf (gR (P.length + 2) Gs 4)).length lim fr ce s dy can) := by
              rw [List.append_assoc]
              rfl
            have hbad := bad (fun z => h4 z.2)
            rw [hpool] at hbad ⊢
            refine w_cv rfl rfl rfl (hp_at (ga (j := 0) rfl)) (Nat.le_of_ble_eq_true rfl) (Nat.le_of_ble_eq_true rfl) hadd ?_
            dsimp only [Option.toList, List.drop, List.cons_append, List.nil_append, e_pl1, e_pl2, e_pl3]
            refine w_if1 rfl (fun h5 => absurd rfl h5) (fun _ => ?_)
            exact w_lv hbad rfl ⟨rfl, rfl, trivial⟩
        · rw [if_pos (fun z => hg z.1)]
          have hcan0 : can = Int32.ofInt 0 := by rw [hcan, bI_f hg]
          refine w_if1 rfl (fun _ => ?_) (fun h5 => absurd (by rw [hcan0]; rfl) h5)
          exact w_lv (bad (fun z => hg z.1)) rfl ⟨rfl, rfl, trivial⟩
  (refine ax_T_of M_Tx_readOffer rfl (Nat.le_of_ble_eq_true rfl) ?_)
  refine w_new rfl rfl ?_
  have e1 : (ax_hp L xs (ax_St.u_pl c p) m o P).length = P.length + 0 + 40 := rfl
  have e2 : ax_hp L xs (ax_St.u_pl c p) m o P ++ [some (.inr (4, ax_dfl 4))] = ax_hp L xs (ax_St.u_pl c p) m o (P ++ [ax_ob 4 (ax_dfl 4)]) := rfl
  show ax_wp _ _ _ _ _ [.ref (ax_hp L xs (ax_St.u_pl c p) m o P).length] (ax_hp L xs (ax_St.u_pl c p) m o P ++ [some (.inr (4, ax_dfl 4))], u + 2)
  rw [e1, e2]
  (repeat (first | refine w_iadd1 rfl ?_ | refine w_isub1 rfl ?_ | refine w_iinc1 rfl rfl ?_ | refine w_s rfl rfl ?_ | refine w_get rfl rfl rfl rfl ?_ | refine w_nnl rfl ?_ | refine w_nnlR rfl ?_ | refine w_nul rfl ?_ | refine w_nulR rfl ?_ | refine w_ldc rfl rfl ?_ | refine w_ldc2 rfl rfl ?_ | refine w_put rfl rfl rfl (Nat.le_of_ble_eq_true rfl) (Or.inl rfl) rfl rfl ?_))
  (refine w_ci rfl rfl rfl (by exact Nat.le_of_ble_eq_true rfl) (by exact Nat.le_of_ble_eq_true rfl) (r_Of_init (c := (ax_St.u_pl c p)) (P := P)) ?_; dsimp only [Option.toList, List.drop, List.cons_append, List.nil_append, e_pl1, e_pl2, e_pl3])
  (repeat ((fail_if_success (show ax_wp _ _ _ 10 _ _ _)); (first | refine w_iadd1 rfl ?_ | refine w_isub1 rfl ?_ | refine w_iinc1 rfl rfl ?_ | refine w_s rfl rfl ?_ | refine w_get rfl rfl rfl rfl ?_ | refine w_nnl rfl ?_ | refine w_nnlR rfl ?_ | refine w_nul rfl ?_ | refine w_nulR rfl ?_ | refine w_ldc rfl rfl ?_ | refine w_ldc2 rfl rfl ?_ | refine w_put rfl rfl rfl (Nat.le_of_ble_eq_true rfl) (Or.inl rfl) rfl rfl ?_)))
  exact w_lv (lp 5 0 p ds0 (fun _ => ⟨fun _ => 0, fun _ => 0, fun _ => 0, 0, 0⟩) (fun _ => none) (by omega) (by omega) hp (fun j hj => absurd hj (by omega)) (fun j hj => absurd hj (by omega))) rfl ⟨rfl, rfl, rfl, trivial⟩
end ROG
