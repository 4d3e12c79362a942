/-! what a text says, apart from any machine -/
abbrev ax_Rw : Type := (Nat → Nat) × (Nat) × (Nat → Nat) × (Nat → Nat) × (Nat)
abbrev ax_Rw.lim (c_ : ax_Rw) : Nat → Nat := c_.1
abbrev ax_Rw.s (c_ : ax_Rw) : Nat := c_.2.1
abbrev ax_Rw.fr (c_ : ax_Rw) : Nat → Nat := c_.2.2.1
abbrev ax_Rw.ce (c_ : ax_Rw) : Nat → Nat := c_.2.2.2.1
abbrev ax_Rw.dy (c_ : ax_Rw) : Nat := c_.2.2.2.2
abbrev ax_Rw.u_lim (c_ : ax_Rw) (z_ : Nat → Nat) : ax_Rw := (z_, c_.2)
abbrev ax_Rw.u_s (c_ : ax_Rw) (z_ : Nat) : ax_Rw := (c_.1, z_, c_.2.2)
abbrev ax_Rw.u_fr (c_ : ax_Rw) (z_ : Nat → Nat) : ax_Rw := (c_.1, c_.2.1, z_, c_.2.2.2)
abbrev ax_Rw.u_ce (c_ : ax_Rw) (z_ : Nat → Nat) : ax_Rw := (c_.1, c_.2.1, c_.2.2.1, z_, c_.2.2.2.2)
abbrev ax_Rw.u_dy (c_ : ax_Rw) (z_ : Nat) : ax_Rw := (c_.1, c_.2.1, c_.2.2.1, c_.2.2.2.1, z_)
section RD
variable (n : Nat) (f : Nat → Int32)
/-- limits number i to 5, k of them, from p on -/
def rl : Nat → Nat → Nat → (Nat → Nat) → Nat ⊕ (Nat × (Nat → Nat))
  | 0, _, p, l => .inr (p, l)
  | k + 1, i, p, l =>
    if i ≠ 0 ∧ nx n f p ≠ 44 then .inl p
    else if wok n f (if i = 0 then p else p + 1) then rl k (i + 1) ((if i = 0 then p else p + 1) + wd n f (if i = 0 then p else p + 1)) (va_up l i (wv n f (if i = 0 then p else p + 1)))
    else .inl ((if i = 0 then p else p + 1) + wd n f (if i = 0 then p else p + 1))
/-- steps -/
def rs : Nat → Nat → Nat → (Nat → Nat) → (Nat → Nat) → Nat ⊕ (Nat × Nat × (Nat → Nat) × (Nat → Nat))
  | 0, _, p, _, _ => .inl p
  | k + 1, s, p, fr, ce =>
    if ¬ wok n f p then .inl (p + wd n f p)
    else if nx n f (p + wd n f p) ≠ 64 then .inl (p + wd n f p)
    else if ¬ wok n f (p + wd n f p + 1) then .inl (p + wd n f p + 1 + wd n f (p + wd n f p + 1))
    else if nx n f (p + wd n f p + 1 + wd n f (p + wd n f p + 1)) = 44 then rs k (s + 1) (p + wd n f p + 1 + wd n f (p + wd n f p + 1) + 1) (va_up fr s (wv n f p)) (va_up ce s (wv n f (p + wd n f p + 1)))
    else .inr (p + wd n f p + 1 + wd n f (p + wd n f p + 1), s + 1, va_up fr s (wv n f p), va_up ce s (wv n f (p + wd n f p + 1)))
/-- days, and the class's end -/
def rd (p : Nat) : Nat ⊕ (Nat × Nat) :=
  if nx n f p ≠ 47 then .inl p else if ¬ wok n f (p + 1) then .inl (p + 1 + wd n f (p + 1)) else if nx n f (p + 1 + wd n f (p + 1)) ≠ 59 then .inl (p + 1 + wd n f (p + 1)) else .inr (p + 1 + wd n f (p + 1) + 1, wv n f (p + 1))
end RD
/-- a step is good behind those before it -/
abbrev sok (fr ce : Nat → Nat) (i : Nat) : Prop := i < 4 ∧ (if i = 0 then 0 else fr (i - 1)) < fr i ∧ fr i ≤ 1000000 ∧ 1 ≤ ce i ∧ ce i ≤ 1000000
section PRows
variable {C : Nat → List Value → ax_H → ax_R → Prop} {M : ax_M} {Q : ax_R → Prop} {pc nxt tg : Nat} {lv lv' : ax_L} {st st' : List Value}
variable {L : Nat} {xs : Nat → Int32} {c : ax_St} {m : ax_Mo} {o : Nat → Int64} {P X : List (Option ax_C)} {u : Nat}
theorem ga {j : Nat} {x : Option ax_C} (hX : X[j]? = some x) : (P ++ X)[P.length + j]? = some x := by
  rw [List.getElem?_append_right (by omega)]
  rw [show P.length + j - P.length = j by omega]
  exact hX
theorem sa {j : Nat} {y : Option ax_C} : (P ++ X).set (P.length + j) y = P ++ X.set j y := by
  rw [List.set_append_right _ _ (by omega)]
  rw [show P.length + j - P.length = j by omega]
theorem w_getP {ix ci i : Nat} {fs : List Value} {v : Value} (j : Nat) (hd : M.2.2.1.lookup pc = some (.getfield ix, nxt, tg)) (hf : ax_tF.lookup (ax_key M ix) = some (ci, i)) (hc : X[j]? = some (some (.inr (ci, fs)))) (hv : fs[i]? = some v) (k : ax_wp C M Q nxt lv (v :: st) (ax_hp L xs c m o (P ++ X), u)) : ax_wp C M Q pc lv (.ref (P.length + j + 40) :: st) (ax_hp L xs c m o (P ++ X), u) :=
  w_get hd hf (hp_at (ga hc)) hv k
theorem w_putP {ix ci i : Nat} {fs : List Value} {v : Value} (j : Nat) (hd : M.2.2.1.lookup pc = some (.putfield ix, nxt, tg)) (hf : ax_tF.lookup (ax_key M ix) = some (ci, i)) (hc : X[j]? = some (some (.inr (ci, fs)))) (hl : i < fs.length) (hw : ax_fin ci i = false ∨ (M.2.2.2.2 = true ∧ M.1 = ci)) (hn : narrow (ax_ty ci i) v = v) (ht : fits (ax_ty ci i) v = true)
    (k : ax_wp C M Q nxt lv st (ax_hp L xs c m o (P ++ X.set j (some (.inr (ci, fs.set i v)))), u)) : ax_wp C M Q pc lv (v :: .ref (P.length + j + 40) :: st) (ax_hp L xs c m o (P ++ X), u) := by
  rw [← sa] at k
  exact w_put hd hf (hp_at (ga hc)) hl hw hn ht k
theorem w_iaP {n i : Nat} {x : Int32} {f : Nat → Int32} (j : Nat) (hd : M.2.2.1.lookup pc = some (.iaload, nxt, tg)) (hc : X[j]? = some (some (.inl (0, n, .inl f)))) (hx : x = nI i) (hl : i < n) (hn : n ≤ 1000000) (k : ax_wp C M Q nxt lv (.int (f i) :: st) (ax_hp L xs c m o (P ++ X), u)) : ax_wp C M Q pc lv (.int x :: .ref (P.length + j + 40) :: st) (ax_hp L xs c m o (P ++ X), u) :=
  w_ia hd (hp_at (ga hc)) hx hl hn k
theorem w_iasP {n i : Nat} {x y : Int32} {f : Nat → Int32} (j : Nat) (hd : M.2.2.1.lookup pc = some (.iastore, nxt, tg)) (hc : X[j]? = some (some (.inl (0, n, .inl f)))) (hx : x = nI i) (hl : i < n) (hn : n ≤ 1000000) (k : ax_wp C M Q nxt lv st (ax_hp L xs c m o (P ++ X.set j (some (.inl (0, n, .inl (upd f i y))))), u)) : ax_wp C M Q pc lv (.int y :: .int x :: .ref (P.length + j + 40) :: st) (ax_hp L xs c m o (P ++ X), u) := by
  rw [← sa] at k
  exact w_ias hd (hp_at (ga hc)) hx hl hn k
theorem w_newaP {t : ArrayType} {n : Int32} {q nn : Nat} (kk : Nat) (hd : M.2.2.1.lookup pc = some (.newarray t, nxt, tg)) (ht : ax_ak t = some q) (hn : ¬ n < 0) (hm : n.toNatClampNeg = nn) (hle : nn ≤ 1000000) (hk : X.length = kk) (k : ax_wp C M Q nxt lv (.ref (P.length + kk + 40) :: st) (ax_hp L xs c m o (P ++ (X ++ [some (.inl (q, nn, ax_blank q))])), u + nn)) : ax_wp C M Q pc lv (.int n :: st) (ax_hp L xs c m o (P ++ X), u) := by
  subst hm
  refine w_newa hd ht hn hle ?_
  have e1 : (ax_hp L xs c m o (P ++ X)).length = P.length + kk + 40 := by
    show (P ++ X).length + 40 = _
    rw [List.length_append, hk]
  have e2 : ax_hp L xs c m o (P ++ X) ++ [some (.inl (q, n.toNatClampNeg, ax_blank q))] = ax_hp L xs c m o (P ++ (X ++ [some (.inl (q, n.toNatClampNeg, ax_blank q))])) := by
    show ax_hp L xs c m o (P ++ X ++ [_]) = _
    rw [List.append_assoc]
  rw [e1, e2]
  exact k
end PRows
/-- a grade's four cells -/
def gC (b : Nat) (lim fr ce : Nat → Int32) (s : Nat) (dy can : Int32) : List (Option ax_C) :=
  [ax_ob 3 [.ref (b + 1 + 40), .ref (b + 2 + 40), .ref (b + 3 + 40), .int (nI s), .int dy, .int can], ax_aI 6 lim, ax_aI 4 fr, ax_aI 4 ce]
section GRD
variable {L : Nat} {xs : Nat → Int32} {c : ax_St} {m : ax_Mo} {o : Nat → Int64} {P : List (Option ax_C)} {u : Nat}
theorem r_Gr_init : ax_run m_Gr_init [.ref (P.length + 0 + 40)] (ax_hp L xs c m o (P ++ [ax_ob 3 (ax_dfl 3)]), u) (.inl none, (ax_hp L xs c m o (P ++ gC P.length (fun _ => 0) (fun _ => 0) (fun _ => 0) 0 0 1), u + 6 + 4 + 4)) := by
  (refine ax_run_T (ax_T_of M_Gr_init rfl (Nat.le_of_ble_eq_true rfl) ?_))
  (repeat (first | refine w_iadd1 rfl ?_ | refine w_isub1 rfl ?_ | refine w_iinc1 rfl rfl ?_ | refine w_s rfl rfl ?_ | refine w_get rfl rfl rfl rfl ?_ | refine w_nnl rfl ?_ | refine w_nnlR rfl ?_ | refine w_nul rfl ?_ | refine w_nulR rfl ?_ | refine w_ldc rfl rfl ?_ | refine w_ldc2 rfl rfl ?_ | refine w_put rfl rfl rfl (Nat.le_of_ble_eq_true rfl) (Or.inl rfl) rfl rfl ?_))
  refine w_oi rfl (by decide) (Nat.le_of_ble_eq_true rfl) ?_
  (repeat (first | refine w_iadd1 rfl ?_ | refine w_isub1 rfl ?_ | refine w_iinc1 rfl rfl ?_ | refine w_s rfl rfl ?_ | refine w_get rfl rfl rfl rfl ?_ | refine w_nnl rfl ?_ | refine w_nnlR rfl ?_ | refine w_nul rfl ?_ | refine w_nulR rfl ?_ | refine w_ldc rfl rfl ?_ | refine w_ldc2 rfl rfl ?_ | refine w_put rfl rfl rfl (Nat.le_of_ble_eq_true rfl) (Or.inl rfl) rfl rfl ?_))
  refine w_newaP 1 rfl rfl (by decide) (nn := 6) (by decide) (by decide) rfl ?_
  refine w_putP 0 rfl rfl rfl (Nat.le_of_ble_eq_true rfl) (Or.inr ⟨rfl, rfl⟩) rfl rfl ?_
  (repeat (first | refine w_iadd1 rfl ?_ | refine w_isub1 rfl ?_ | refine w_iinc1 rfl rfl ?_ | refine w_s rfl rfl ?_ | refine w_get rfl rfl rfl rfl ?_ | refine w_nnl rfl ?_ | refine w_nnlR rfl ?_ | refine w_nul rfl ?_ | refine w_nulR rfl ?_ | refine w_ldc rfl rfl ?_ | refine w_ldc2 rfl rfl ?_ | refine w_put rfl rfl rfl (Nat.le_of_ble_eq_true rfl) (Or.inl rfl) rfl rfl ?_))
  refine w_newaP 2 rfl rfl (by decide) (nn := 4) (by decide) (by decide) rfl ?_
  refine w_putP 0 rfl rfl rfl (Nat.le_of_ble_eq_true rfl) (Or.inr ⟨rfl, rfl⟩) rfl rfl ?_
  (repeat (first | refine w_iadd1 rfl ?_ | refine w_isub1 rfl ?_ | refine w_iinc1 rfl rfl ?_ | refine w_s rfl rfl ?_ | refine w_get rfl rfl rfl rfl ?_ | refine w_nnl rfl ?_ | refine w_nnlR rfl ?_ | refine w_nul rfl ?_ | refine w_nulR rfl ?_ | refine w_ldc rfl rfl ?_ | refine w_ldc2 rfl rfl ?_ | refine w_put rfl rfl rfl (Nat.le_of_ble_eq_true rfl) (Or.inl rfl) rfl rfl ?_))
  refine w_newaP 3 rfl rfl (by decide) (nn := 4) (by decide) (by decide) rfl ?_
  refine w_putP 0 rfl rfl rfl (Nat.le_of_ble_eq_true rfl) (Or.inr ⟨rfl, rfl⟩) rfl rfl ?_
  (repeat (first | refine w_iadd1 rfl ?_ | refine w_isub1 rfl ?_ | refine w_iinc1 rfl rfl ?_ | refine w_s rfl rfl ?_ | refine w_get rfl rfl rfl rfl ?_ | refine w_nnl rfl ?_ | refine w_nnlR rfl ?_ | refine w_nul rfl ?_ | refine w_nulR rfl ?_ | refine w_ldc rfl rfl ?_ | refine w_ldc2 rfl rfl ?_ | refine w_put rfl rfl rfl (Nat.le_of_ble_eq_true rfl) (Or.inl rfl) rfl rfl ?_))
  refine w_putP 0 rfl rfl rfl (Nat.le_of_ble_eq_true rfl) (Or.inl rfl) rfl rfl ?_
  refine w_vret rfl rfl ?_
  rfl
theorem r_setLimit1 {lim fr ce : Nat → Int32} {s : Nat} {dy can : Int32} (i v : Nat) (hi : i < 6) (hv : v ≤ 1000000) : ax_run m_Gr_setLimit [.ref (P.length + 0 + 40), .int (nI i), .int (nI v)] (ax_hp L xs c m o (P ++ gC P.length lim fr ce s dy can), u) (.inl none, (ax_hp L xs c m o (P ++ gC P.length (upd lim i (nI v)) fr ce s dy can), u)) := by
  (refine ax_run_T (ax_T_of M_Gr_setLimit rfl (Nat.le_of_ble_eq_true rfl) ?_))
  (repeat (first | refine w_iadd1 rfl ?_ | refine w_isub1 rfl ?_ | refine w_iinc1 rfl rfl ?_ | refine w_s rfl rfl ?_ | refine w_get rfl rfl rfl rfl ?_ | refine w_nnl rfl ?_ | refine w_nnlR rfl ?_ | refine w_nul rfl ?_ | refine w_nulR rfl ?_ | refine w_ldc rfl rfl ?_ | refine w_ldc2 rfl rfl ?_ | refine w_put rfl rfl rfl (Nat.le_of_ble_eq_true rfl) (Or.inl rfl) rfl rfl ?_))
  refine w_if1 rfl (fun h5 => absurd (c_lt0.mp h5) (by rw [q_nI' (by omega)]; omega)) (fun _ => ?_)
  (repeat (first | refine w_iadd1 rfl ?_ | refine w_isub1 rfl ?_ | refine w_iinc1 rfl rfl ?_ | refine w_s rfl rfl ?_ | refine w_get rfl rfl rfl rfl ?_ | refine w_nnl rfl ?_ | refine w_nnlR rfl ?_ | refine w_nul rfl ?_ | refine w_nulR rfl ?_ | refine w_ldc rfl rfl ?_ | refine w_ldc2 rfl rfl ?_ | refine w_put rfl rfl rfl (Nat.le_of_ble_eq_true rfl) (Or.inl rfl) rfl rfl ?_))
  refine w_if2 rfl (fun h5 => absurd ((cn_ge (a := i) (b := 6) (by omega) (by omega)).mp h5) (by omega)) (fun _ => ?_)
  (repeat (first | refine w_iadd1 rfl ?_ | refine w_isub1 rfl ?_ | refine w_iinc1 rfl rfl ?_ | refine w_s rfl rfl ?_ | refine w_get rfl rfl rfl rfl ?_ | refine w_nnl rfl ?_ | refine w_nnlR rfl ?_ | refine w_nul rfl ?_ | refine w_nulR rfl ?_ | refine w_ldc rfl rfl ?_ | refine w_ldc2 rfl rfl ?_ | refine w_put rfl rfl rfl (Nat.le_of_ble_eq_true rfl) (Or.inl rfl) rfl rfl ?_))
  refine w_if2 rfl (fun _ => ?_) (fun h5 => absurd (show nI v ≤ (1000000 : Int32) from Int32.le_iff_toInt_le.mpr (by rw [q_nI' (by omega)]; show (v : Int) ≤ 1000000; omega)) h5)
  (repeat (first | refine w_iadd1 rfl ?_ | refine w_isub1 rfl ?_ | refine w_iinc1 rfl rfl ?_ | refine w_s rfl rfl ?_ | refine w_get rfl rfl rfl rfl ?_ | refine w_nnl rfl ?_ | refine w_nnlR rfl ?_ | refine w_nul rfl ?_ | refine w_nulR rfl ?_ | refine w_ldc rfl rfl ?_ | refine w_ldc2 rfl rfl ?_ | refine w_put rfl rfl rfl (Nat.le_of_ble_eq_true rfl) (Or.inl rfl) rfl rfl ?_))
  refine w_getP 0 rfl rfl rfl rfl ?_
  (repeat (first | refine w_iadd1 rfl ?_ | refine w_isub1 rfl ?_ | refine w_iinc1 rfl rfl ?_ | refine w_s rfl rfl ?_ | refine w_get rfl rfl rfl rfl ?_ | refine w_nnl rfl ?_ | refine w_nnlR rfl ?_ | refine w_nul rfl ?_ | refine w_nulR rfl ?_ | refine w_ldc rfl rfl ?_ | refine w_ldc2 rfl rfl ?_ | refine w_put rfl rfl rfl (Nat.le_of_ble_eq_true rfl) (Or.inl rfl) rfl rfl ?_))
  refine w_iasP 1 rfl rfl rfl hi (by decide) ?_
  refine w_vret rfl rfl ?_
  rfl
theorem r_setLimit0 {lim fr ce : Nat → Int32} {s : Nat} {dy can : Int32} (i v : Nat) (hi : i < 6) (hv : 1000000 < v) (hv2 : v < 10000000) : ax_run m_Gr_setLimit [.ref (P.length + 0 + 40), .int (nI i), .int (nI v)] (ax_hp L xs c m o (P ++ gC P.length lim fr ce s dy can), u) (.inl none, (ax_hp L xs c m o (P ++ gC P.length lim fr ce s dy 0), u)) := by
  (refine ax_run_T (ax_T_of M_Gr_setLimit rfl (Nat.le_of_ble_eq_true rfl) ?_))
  (repeat (first | refine w_iadd1 rfl ?_ | refine w_isub1 rfl ?_ | refine w_iinc1 rfl rfl ?_ | refine w_s rfl rfl ?_ | refine w_get rfl rfl rfl rfl ?_ | refine w_nnl rfl ?_ | refine w_nnlR rfl ?_ | refine w_nul rfl ?_ | refine w_nulR rfl ?_ | refine w_ldc rfl rfl ?_ | refine w_ldc2 rfl rfl ?_ | refine w_put rfl rfl rfl (Nat.le_of_ble_eq_true rfl) (Or.inl rfl) rfl rfl ?_))
  refine w_if1 rfl (fun h5 => absurd (c_lt0.mp h5) (by rw [q_nI' (by omega)]; omega)) (fun _ => ?_)
  (repeat (first | refine w_iadd1 rfl ?_ | refine w_isub1 rfl ?_ | refine w_iinc1 rfl rfl ?_ | refine w_s rfl rfl ?_ | refine w_get rfl rfl rfl rfl ?_ | refine w_nnl rfl ?_ | refine w_nnlR rfl ?_ | refine w_nul rfl ?_ | refine w_nulR rfl ?_ | refine w_ldc rfl rfl ?_ | refine w_ldc2 rfl rfl ?_ | refine w_put rfl rfl rfl (Nat.le_of_ble_eq_true rfl) (Or.inl rfl) rfl rfl ?_))
  refine w_if2 rfl (fun h5 => absurd ((cn_ge (a := i) (b := 6) (by omega) (by omega)).mp h5) (by omega)) (fun _ => ?_)
  (repeat (first | refine w_iadd1 rfl ?_ | refine w_isub1 rfl ?_ | refine w_iinc1 rfl rfl ?_ | refine w_s rfl rfl ?_ | refine w_get rfl rfl rfl rfl ?_ | refine w_nnl rfl ?_ | refine w_nnlR rfl ?_ | refine w_nul rfl ?_ | refine w_nulR rfl ?_ | refine w_ldc rfl rfl ?_ | refine w_ldc2 rfl rfl ?_ | refine w_put rfl rfl rfl (Nat.le_of_ble_eq_true rfl) (Or.inl rfl) rfl rfl ?_))
  refine w_if2 rfl (fun h5 => ?_) (fun _ => ?_)
  · have h6 := Int32.le_iff_toInt_le.mp (show nI v ≤ (1000000 : Int32) from h5)
    rw [q_nI' (by omega)] at h6
    have h7 : (v : Int) ≤ 1000000 := h6
    omega
  (repeat (first | refine w_iadd1 rfl ?_ | refine w_isub1 rfl ?_ | refine w_iinc1 rfl rfl ?_ | refine w_s rfl rfl ?_ | refine w_get rfl rfl rfl rfl ?_ | refine w_nnl rfl ?_ | refine w_nnlR rfl ?_ | refine w_nul rfl ?_ | refine w_nulR rfl ?_ | refine w_ldc rfl rfl ?_ | refine w_ldc2 rfl rfl ?_ | refine w_put rfl rfl rfl (Nat.le_of_ble_eq_true rfl) (Or.inl rfl) rfl rfl ?_))
  refine w_putP 0 rfl rfl rfl (Nat.le_of_ble_eq_true rfl) (Or.inl rfl) rfl rfl ?_
  refine w_vret rfl rfl ?_
  rfl
theorem r_setDays1 {lim fr ce : Nat → Int32} {s : Nat} {dy can : Int32} (v : Nat) (hv : v ≤ 1000) : ax_run m_Gr_setDays [.ref (P.length + 0 + 40), .int (nI v)] (ax_hp L xs c m o (P ++ gC P.length lim fr ce s dy can), u) (.inl none, (ax_hp L xs c m o (P ++ gC P.length lim fr ce s (nI v) can), u)) := by
  (refine ax_run_T (ax_T_of M_Gr_setDays rfl (Nat.le_of_ble_eq_true rfl) ?_))
  (repeat (first | refine w_iadd1 rfl ?_ | refine w_isub1 rfl ?_ | refine w_iinc1 rfl rfl ?_ | refine w_s rfl rfl ?_ | refine w_get rfl rfl rfl rfl ?_ | refine w_nnl rfl ?_ | refine w_nnlR rfl ?_ | refine w_nul rfl ?_ | refine w_nulR rfl ?_ | refine w_ldc rfl rfl ?_ | refine w_ldc2 rfl rfl ?_ | refine w_put rfl rfl rfl (Nat.le_of_ble_eq_true rfl) (Or.inl rfl) rfl rfl ?_))
  refine w_if2 rfl (fun _ => ?_) (fun h5 => absurd (show nI v ≤ (Int16.ofInt 1000).toInt32 from Int32.le_iff_toInt_le.mpr (by rw [q_nI' (by omega), q_b16]; omega)) h5)
  (repeat (first | refine w_iadd1 rfl ?_ | refine w_isub1 rfl ?_ | refine w_iinc1 rfl rfl ?_ | refine w_s rfl rfl ?_ | refine w_get rfl rfl rfl rfl ?_ | refine w_nnl rfl ?_ | refine w_nnlR rfl ?_ | refine w_nul rfl ?_ | refine w_nulR rfl ?_ | refine w_ldc rfl rfl ?_ | refine w_ldc2 rfl rfl ?_ | refine w_put rfl rfl rfl (Nat.le_of_ble_eq_true rfl) (Or.inl rfl) rfl rfl ?_))
  refine w_putP 0 rfl rfl rfl (Nat.le_of_ble_eq_true rfl) (Or.inl rfl) rfl rfl ?_
  refine w_vret rfl rfl ?_
  rfl
theorem r_setDays0 {lim fr ce : Nat → Int32} {s : Nat} {dy can : Int32} (v : Nat) (hv : 1000 < v) (hv2 : v < 10000000) : ax_run m_Gr_setDays [.ref (P.length + 0 + 40), .int (nI v)] (ax_hp L xs c m o (P ++ gC P.length lim fr ce s dy can), u) (.inl none, (ax_hp L xs c m o (P ++ gC P.length lim fr ce s dy 0), u)) := by
  (refine ax_run_T (ax_T_of M_Gr_setDays rfl (Nat.le_of_ble_eq_true rfl) ?_))
  (repeat (first | refine w_iadd1 rfl ?_ | refine w_isub1 rfl ?_ | refine w_iinc1 rfl rfl ?_ | refine w_s rfl rfl ?_ | refine w_get rfl rfl rfl rfl ?_ | refine w_nnl rfl ?_ | refine w_nnlR rfl ?_ | refine w_nul rfl ?_ | refine w_nulR rfl ?_ | refine w_ldc rfl rfl ?_ | refine w_ldc2 rfl rfl ?_ | refine w_put rfl rfl rfl (Nat.le_of_ble_eq_true rfl) (Or.inl rfl) rfl rfl ?_))
  refine w_if2 rfl (fun h5 => ?_) (fun _ => ?_)
  · have h6 := Int32.le_iff_toInt_le.mp (show nI v ≤ (Int16.ofInt 1000).toInt32 from h5)
    rw [q_nI' (by omega), q_b16] at h6
    omega
  (repeat (first | refine w_iadd1 rfl ?_ | refine w_isub1 rfl ?_ | refine w_iinc1 rfl rfl ?_ | refine w_s rfl rfl ?_ | refine w_get rfl rfl rfl rfl ?_ | refine w_nnl rfl ?_ | refine w_nnlR rfl ?_ | refine w_nul rfl ?_ | refine w_nulR rfl ?_ | refine w_ldc rfl rfl ?_ | refine w_ldc2 rfl rfl ?_ | refine w_put rfl rfl rfl (Nat.le_of_ble_eq_true rfl) (Or.inl rfl) rfl rfl ?_))
  refine w_putP 0 rfl rfl rfl (Nat.le_of_ble_eq_true rfl) (Or.inl rfl) rfl rfl ?_
  refine w_vret rfl rfl ?_
  rfl
/-- a step: ah is what the last step has -/
theorem r_addStep {lim fr ce : Nat → Int32} {s : Nat} {dy can : Int32} (a v ah : Nat) (hs : s ≤ 4) (ha : a < 10000000) (hv : v < 10000000) (hah : ah < 10000000) (h0 : s = 0 → ah = 0) (h1 : s ≠ 0 → fr (s - 1) = nI ah) : ax_run m_Gr_addStep [.ref (P.length + 0 + 40), .int (nI a), .int (nI v)] (ax_hp L xs c m o (P ++ gC P.length lim fr ce s dy can), u)
    (if s < 4 ∧ ah < a ∧ a ≤ 1000000 ∧ 1 ≤ v ∧ v ≤ 1000000 then (.inl none, (ax_hp L xs c m o (P ++ gC P.length lim (upd fr s (nI a)) (upd ce s (nI v)) (s + 1) dy can), u)) else (.inl none, (ax_hp L xs c m o (P ++ gC P.length lim fr ce s dy 0), u))) := by
  have bad : ¬ (s < 4 ∧ ah < a ∧ a ≤ 1000000 ∧ 1 ≤ v ∧ v ≤ 1000000) → ∀ (lv : ax_L), ax_wp ax_run M_Gr_addStep (fun r' => r' = (if s < 4 ∧ ah < a ∧ a ≤ 1000000 ∧ 1 ≤ v ∧ v ≤ 1000000 then (.inl none, (ax_hp L xs c m o (P ++ gC P.length lim (upd fr s (nI a)) (upd ce s (nI v)) (s + 1) dy can), u)) else (.inl none, (ax_hp L xs c m o (P ++ gC P.length lim fr ce s dy 0), u)))) 53 [(0, .ref (P.length + 0 + 40))] [] (ax_hp L xs c m o (P ++ gC P.length lim fr ce s dy can), u) := by
    intro hb _
    (repeat (first | refine w_iadd1 rfl ?_ | refine w_isub1 rfl ?_ | refine w_iinc1 rfl rfl ?_ | refine w_s rfl rfl ?_ | refine w_get rfl rfl rfl rfl ?_ | refine w_nnl rfl ?_ | refine w_nnlR rfl ?_ | refine w_nul rfl ?_ | refine w_nulR rfl ?_ | refine w_ldc rfl rfl ?_ | refine w_ldc2 rfl rfl ?_ | refine w_put rfl rfl rfl (Nat.le_of_ble_eq_true rfl) (Or.inl rfl) rfl rfl ?_))
    refine w_putP 0 rfl rfl rfl (Nat.le_of_ble_eq_true rfl) (Or.inl rfl) rfl rfl ?_
    refine w_vret rfl rfl ?_
    rw [if_neg hb]
    rfl
  have main : ax_wp ax_run M_Gr_addStep (fun r' => r' = (if s < 4 ∧ ah < a ∧ a ≤ 1000000 ∧ 1 ≤ v ∧ v ≤ 1000000 then (.inl none, (ax_hp L xs c m o (P ++ gC P.length lim (upd fr s (nI a)) (upd ce s (nI v)) (s + 1) dy can), u)) else (.inl none, (ax_hp L xs c m o (P ++ gC P.length lim fr ce s dy 0), u)))) 23 [(0, .ref (P.length + 0 + 40)), (1, .int (nI a)), (2, .int (nI v)), (3, .int (nI ah))] [] (ax_hp L xs c m o (P ++ gC P.length lim fr ce s dy can), u) := by
    (repeat (first | refine w_iadd1 rfl ?_ | refine w_isub1 rfl ?_ | refine w_iinc1 rfl rfl ?_ | refine w_s rfl rfl ?_ | refine w_get rfl rfl rfl rfl ?_ | refine w_nnl rfl ?_ | refine w_nnlR rfl ?_ | refine w_nul rfl ?_ | refine w_nulR rfl ?_ | refine w_ldc rfl rfl ?_ | refine w_ldc2 rfl rfl ?_ | refine w_put rfl rfl rfl (Nat.le_of_ble_eq_true rfl) (Or.inl rfl) rfl rfl ?_))
    refine w_getP 0 rfl rfl rfl rfl ?_
    (repeat (first | refine w_iadd1 rfl ?_ | refine w_isub1 rfl ?_ | refine w_iinc1 rfl rfl ?_ | refine w_s rfl rfl ?_ | refine w_get rfl rfl rfl rfl ?_ | refine w_nnl rfl ?_ | refine w_nnlR rfl ?_ | refine w_nul rfl ?_ | refine w_nulR rfl ?_ | refine w_ldc rfl rfl ?_ | refine w_ldc2 rfl rfl ?_ | refine w_put rfl rfl rfl (Nat.le_of_ble_eq_true rfl) (Or.inl rfl) rfl rfl ?_))
    refine w_if2 rfl (fun h5 => ?_) (fun h5 => ?_)
    · have h6 := (cn_ge (a := s) (b := 4) (by omega) (by omega)).mp h5
      exact w_lv (bad (fun z => by omega) []) rfl ⟨rfl, trivial⟩
    have g1 : ¬ 4 ≤ s := fun z => h5 ((cn_ge (a := s) (b := 4) (by omega) (by omega)).mpr z)
    (repeat (first | refine w_iadd1 rfl ?_ | refine w_isub1 rfl ?_ | refine w_iinc1 rfl rfl ?_ | refine w_s rfl rfl ?_ | refine w_get rfl rfl rfl rfl ?_ | refine w_nnl rfl ?_ | refine w_nnlR rfl ?_ | refine w_nul rfl ?_ | refine w_nulR rfl ?_ | refine w_ldc rfl rfl ?_ | refine w_ldc2 rfl rfl ?_ | refine w_put rfl rfl rfl (Nat.le_of_ble_eq_true rfl) (Or.inl rfl) rfl rfl ?_))
    refine w_if2 rfl (fun h5 => ?_) (fun h5 => ?_)
    · have h6 := Int32.le_iff_toInt_le.mp (show nI a ≤ nI ah from h5)
      rw [q_nI' (by omega), q_nI' (by omega)] at h6
      exact w_lv (bad (fun z => by omega) []) rfl ⟨rfl, trivial⟩
    have g2 : ¬ (nI a).toInt ≤ (nI ah).toInt := fun z => h5 (Int32.le_iff_toInt_le.mpr z)
    rw [q_nI' (by omega), q_nI' (by omega)] at g2
    (repeat (first | refine w_iadd1 rfl ?_ | refine w_isub1 rfl ?_ | refine w_iinc1 rfl rfl ?_ | refine w_s rfl rfl ?_ | refine w_get rfl rfl rfl rfl ?_ | refine w_nnl rfl ?_ | refine w_nnlR rfl ?_ | refine w_nul rfl ?_ | refine w_nulR rfl ?_ | refine w_ldc rfl rfl ?_ | refine w_ldc2 rfl rfl ?_ | refine w_put rfl rfl rfl (Nat.le_of_ble_eq_true rfl) (Or.inl rfl) rfl rfl ?_))
    refine w_if2 rfl (fun h5 => ?_) (fun h5 => ?_)
    · have h6 := Int32.lt_iff_toInt_lt.mp (show (1000000 : Int32) < nI a from h5)
      rw [q_nI' (by omega)] at h6
      have h7 : (1000000 : Int) < a := h6
      exact w_lv (bad (fun z => by omega) []) rfl ⟨rfl, trivial⟩
    have g3 : ¬ ((1000000 : Int32)).toInt < (nI a).toInt := fun z => h5 (Int32.lt_iff_toInt_lt.mpr z)
    rw [q_nI' (by omega)] at g3
    have g3' : ¬ (1000000 : Int) < a := g3
    (repeat (first | refine w_iadd1 rfl ?_ | refine w_isub1 rfl ?_ | refine w_iinc1 rfl rfl ?_ | refine w_s rfl rfl ?_ | refine w_get rfl rfl rfl rfl ?_ | refine w_nnl rfl ?_ | refine w_nnlR rfl ?_ | refine w_nul rfl ?_ | refine w_nulR rfl ?_ | refine w_ldc rfl rfl ?_ | refine w_ldc2 rfl rfl ?_ | refine w_put rfl rfl rfl (Nat.le_of_ble_eq_true rfl) (Or.inl rfl) rfl rfl ?_))
    refine w_if2 rfl (fun h5 => ?_) (fun h5 => ?_)
    · have h6 := (cn_lt (a := v) (b := 1) (by omega) (by omega)).mp h5
      exact w_lv (bad (fun z => by omega) []) rfl ⟨rfl, trivial⟩
    have g4 : ¬ v < 1 := fun z => h5 ((cn_lt (a := v) (b := 1) (by omega) (by omega)).mpr z)
    (repeat (first | refine w_iadd1 rfl ?_ | refine w_isub1 rfl ?_ | refine w_iinc1 rfl rfl ?_ | refine w_s rfl rfl ?_ | refine w_get rfl rfl rfl rfl ?_ | refine w_nnl rfl ?_ | refine w_nnlR rfl ?_ | refine w_nul rfl ?_ | refine w_nulR rfl ?_ | refine w_ldc rfl rfl ?_ | refine w_ldc2 rfl rfl ?_ | refine w_put rfl rfl rfl (Nat.le_of_ble_eq_true rfl) (Or.inl rfl) rfl rfl ?_))
    refine w_if2 rfl (fun h5 => ?_) (fun h5 => ?_)
    · have h6 := Int32.le_iff_toInt_le.mp (show nI v ≤ (1000000 : Int32) from h5)
      rw [q_nI' (by omega)] at h6
      have h7 : (v : Int) ≤ 1000000 := h6
      rw [if_pos (by omega)]
      (repeat (first | refine w_iadd1 rfl ?_ | refine w_isub1 rfl ?_ | refine w_iinc1 rfl rfl ?_ | refine w_s rfl rfl ?_ | refine w_get rfl rfl rfl rfl ?_ | refine w_nnl rfl ?_ | refine w_nnlR rfl ?_ | refine w_nul rfl ?_ | refine w_nulR rfl ?_ | refine w_ldc rfl rfl ?_ | refine w_ldc2 rfl rfl ?_ | refine w_put rfl rfl rfl (Nat.le_of_ble_eq_true rfl) (Or.inl rfl) rfl rfl ?_))
      refine w_getP 0 rfl rfl rfl rfl ?_
      (repeat (first | refine w_iadd1 rfl ?_ | refine w_isub1 rfl ?_ | refine w_iinc1 rfl rfl ?_ | refine w_s rfl rfl ?_ | refine w_get rfl rfl rfl rfl ?_ | refine w_nnl rfl ?_ | refine w_nnlR rfl ?_ | refine w_nul rfl ?_ | refine w_nulR rfl ?_ | refine w_ldc rfl rfl ?_ | refine w_ldc2 rfl rfl ?_ | refine w_put rfl rfl rfl (Nat.le_of_ble_eq_true rfl) (Or.inl rfl) rfl rfl ?_))
      refine w_getP 0 rfl rfl rfl rfl ?_
      (repeat (first | refine w_iadd1 rfl ?_ | refine w_isub1 rfl ?_ | refine w_iinc1 rfl rfl ?_ | refine w_s rfl rfl ?_ | refine w_get rfl rfl rfl rfl ?_ | refine w_nnl rfl ?_ | refine w_nnlR rfl ?_ | refine w_nul rfl ?_ | refine w_nulR rfl ?_ | refine w_ldc rfl rfl ?_ | refine w_ldc2 rfl rfl ?_ | refine w_put rfl rfl rfl (Nat.le_of_ble_eq_true rfl) (Or.inl rfl) rfl rfl ?_))
      refine w_iasP 2 rfl rfl rfl (by omega) (by decide) ?_
      (repeat (first | refine w_iadd1 rfl ?_ | refine w_isub1 rfl ?_ | refine w_iinc1 rfl rfl ?_ | refine w_s rfl rfl ?_ | refine w_get rfl rfl rfl rfl ?_ | refine w_nnl rfl ?_ | refine w_nnlR rfl ?_ | refine w_nul rfl ?_ | refine w_nulR rfl ?_ | refine w_ldc rfl rfl ?_ | refine w_ldc2 rfl rfl ?_ | refine w_put rfl rfl rfl (Nat.le_of_ble_eq_true rfl) (Or.inl rfl) rfl rfl ?_))
      refine w_getP 0 rfl rfl rfl rfl ?_
      (repeat (first | refine w_iadd1 rfl ?_ | refine w_isub1 rfl ?_ | refine w_iinc1 rfl rfl ?_ | refine w_s rfl rfl ?_ | refine w_get rfl rfl rfl rfl ?_ | refine w_nnl rfl ?_ | refine w_nnlR rfl ?_ | refine w_nul rfl ?_ | refine w_nulR rfl ?_ | refine w_ldc rfl rfl ?_ | refine w_ldc2 rfl rfl ?_ | refine w_put rfl rfl rfl (Nat.le_of_ble_eq_true rfl) (Or.inl rfl) rfl rfl ?_))
      refine w_getP 0 rfl rfl rfl rfl ?_
      (repeat (first | refine w_iadd1 rfl ?_ | refine w_isub1 rfl ?_ | refine w_iinc1 rfl rfl ?_ | refine w_s rfl rfl ?_ | refine w_get rfl rfl rfl rfl ?_ | refine w_nnl rfl ?_ | refine w_nnlR rfl ?_ | refine w_nul rfl ?_ | refine w_nulR rfl ?_ | refine w_ldc rfl rfl ?_ | refine w_ldc2 rfl rfl ?_ | refine w_put rfl rfl rfl (Nat.le_of_ble_eq_true rfl) (Or.inl rfl) rfl rfl ?_))
      refine w_iasP 3 rfl rfl rfl (by omega) (by decide) ?_
      (repeat (first | refine w_iadd1 rfl ?_ | refine w_isub1 rfl ?_ | refine w_iinc1 rfl rfl ?_ | refine w_s rfl rfl ?_ | refine w_get rfl rfl rfl rfl ?_ | refine w_nnl rfl ?_ | refine w_nnlR rfl ?_ | refine w_nul rfl ?_ | refine w_nulR rfl ?_ | refine w_ldc rfl rfl ?_ | refine w_ldc2 rfl rfl ?_ | refine w_put rfl rfl rfl (Nat.le_of_ble_eq_true rfl) (Or.inl rfl) rfl rfl ?_))
      refine w_getP 0 rfl rfl rfl rfl ?_
      (repeat (first | refine w_iadd1 rfl ?_ | refine w_isub1 rfl ?_ | refine w_iinc1 rfl rfl ?_ | refine w_s rfl rfl ?_ | refine w_get rfl rfl rfl rfl ?_ | refine w_nnl rfl ?_ | refine w_nnlR rfl ?_ | refine w_nul rfl ?_ | refine w_nulR rfl ?_ | refine w_ldc rfl rfl ?_ | refine w_ldc2 rfl rfl ?_ | refine w_put rfl rfl rfl (Nat.le_of_ble_eq_true rfl) (Or.inl rfl) rfl rfl ?_))
      refine w_putP 0 rfl rfl rfl (Nat.le_of_ble_eq_true rfl) (Or.inl rfl) rfl rfl ?_
      refine w_vret rfl rfl ?_
      rfl
    · have g5 : ¬ (nI v).toInt ≤ ((1000000 : Int32)).toInt := fun z => h5 (Int32.le_iff_toInt_le.mpr z)
      rw [q_nI' (by omega)] at g5
      have g5' : ¬ (v : Int) ≤ 1000000 := g5
      exact w_lv (bad (fun z => by omega) []) rfl ⟨rfl, trivial⟩
  (refine ax_run_T (ax_T_of M_Gr_addStep rfl (Nat.le_of_ble_eq_true rfl) ?_))
  (repeat (first | refine w_iadd1 rfl ?_ | refine w_isub1 rfl ?_ | refine w_iinc1 rfl rfl ?_ | refine w_s rfl rfl ?_ | refine w_get rfl rfl rfl rfl ?_ | refine w_nnl rfl ?_ | refine w_nnlR rfl ?_ | refine w_nul rfl ?_ | refine w_nulR rfl ?_ | refine w_ldc rfl rfl ?_ | refine w_ldc2 rfl rfl ?_ | refine w_put rfl rfl rfl (Nat.le_of_ble_eq_true rfl) (Or.inl rfl) rfl rfl ?_))
  refine w_getP 0 rfl rfl rfl rfl ?_
  by_cases hz : s = 0
  · have hah0 := h0 hz
    subst hah0
    refine w_if1 rfl (fun h5 => absurd (show nI s = 0 by rw [hz]; rfl) h5) (fun _ => ?_)
    (repeat ((fail_if_success (show ax_wp _ _ _ 23 _ _ _)); (first | refine w_iadd1 rfl ?_ | refine w_isub1 rfl ?_ | refine w_iinc1 rfl rfl ?_ | refine w_s rfl rfl ?_ | refine w_get rfl rfl rfl rfl ?_ | refine w_nnl rfl ?_ | refine w_nnlR rfl ?_ | refine w_nul rfl ?_ | refine w_nulR rfl ?_ | refine w_ldc rfl rfl ?_ | refine w_ldc2 rfl rfl ?_ | refine w_put rfl rfl rfl (Nat.le_of_ble_eq_true rfl) (Or.inl rfl) rfl rfl ?_)))
    exact w_lv main rfl ⟨rfl, rfl, rfl, rfl, trivial⟩
  · have hfr := h1 hz
    refine w_if1 rfl (fun _ => ?_) (fun h5 => ?_)
    · (repeat (first | refine w_iadd1 rfl ?_ | refine w_isub1 rfl ?_ | refine w_iinc1 rfl rfl ?_ | refine w_s rfl rfl ?_ | refine w_get rfl rfl rfl rfl ?_ | refine w_nnl rfl ?_ | refine w_nnlR rfl ?_ | refine w_nul rfl ?_ | refine w_nulR rfl ?_ | refine w_ldc rfl rfl ?_ | refine w_ldc2 rfl rfl ?_ | refine w_put rfl rfl rfl (Nat.le_of_ble_eq_true rfl) (Or.inl rfl) rfl rfl ?_))
      refine w_getP 0 rfl rfl rfl rfl ?_
      (repeat (first | refine w_iadd1 rfl ?_ | refine w_isub1 rfl ?_ | refine w_iinc1 rfl rfl ?_ | refine w_s rfl rfl ?_ | refine w_get rfl rfl rfl rfl ?_ | refine w_nnl rfl ?_ | refine w_nnlR rfl ?_ | refine w_nul rfl ?_ | refine w_nulR rfl ?_ | refine w_ldc rfl rfl ?_ | refine w_ldc2 rfl rfl ?_ | refine w_put rfl rfl rfl (Nat.le_of_ble_eq_true rfl) (Or.inl rfl) rfl rfl ?_))
      refine w_getP 0 rfl rfl rfl rfl ?_
      (repeat (first | refine w_iadd1 rfl ?_ | refine w_isub1 rfl ?_ | refine w_iinc1 rfl rfl ?_ | refine w_s rfl rfl ?_ | refine w_get rfl rfl rfl rfl ?_ | refine w_nnl rfl ?_ | refine w_nnlR rfl ?_ | refine w_nul rfl ?_ | refine w_nulR rfl ?_ | refine w_ldc rfl rfl ?_ | refine w_ldc2 rfl rfl ?_ | refine w_put rfl rfl rfl (Nat.le_of_ble_eq_true rfl) (Or.inl rfl) rfl rfl ?_))
      refine w_iaP (i := s - 1) 2 rfl rfl ?_ (by omega) (by decide) ?_
      · have : s = (s - 1) + 1 := by omega
        rw [this, nI_succ]
        show nI (s - 1) + 1 - 1 = _
        rw [Int32.add_sub_cancel]
        rfl
      rw [hfr]
      (repeat ((fail_if_success (show ax_wp _ _ _ 23 _ _ _)); (first | refine w_iadd1 rfl ?_ | refine w_isub1 rfl ?_ | refine w_iinc1 rfl rfl ?_ | refine w_s rfl rfl ?_ | refine w_get rfl rfl rfl rfl ?_ | refine w_nnl rfl ?_ | refine w_nnlR rfl ?_ | refine w_nul rfl ?_ | refine w_nulR rfl ?_ | refine w_ldc rfl rfl ?_ | refine w_ldc2 rfl rfl ?_ | refine w_put rfl rfl rfl (Nat.le_of_ble_eq_true rfl) (Or.inl rfl) rfl rfl ?_)))
      exact w_lv main rfl ⟨rfl, rfl, rfl, rfl, trivial⟩
    · have h6 : nI s = 0 := Decidable.not_not.mp h5
      have := congrArg Int32.toInt h6
      rw [q_nI' (by omega)] at this
      have h7 : (s : Int) = 0 := this
      omega
end GRD
