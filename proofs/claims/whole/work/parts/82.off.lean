def ax_col (c : ax_St) (G : ax_Gr) : Nat → Nat × (Nat → Int32) × (Nat → Int32)
  | 0 => (0, c.rt, c.re)
  | t + 1 => if 0 < ax_ex c G t then ((ax_col c G t).1 + 1, upd (ax_col c G t).2.1 (ax_col c G t).1 (nI t), upd (ax_col c G t).2.2 (ax_col c G t).1 (Int32.ofInt (ax_ex c G t))) else ax_col c G t
theorem ax_col_le (c : ax_St) (G : ax_Gr) : ∀ t, (ax_col c G t).1 ≤ t := by
  intro t
  induction t with
  | zero => exact Nat.le_refl _
  | succ t ih =>
    unfold ax_col
    split
    · exact Nat.succ_le_succ ih
    · omega
def ax_lat (p : Nat → Bool) : Nat → Int32
  | 0 => -1
  | q + 1 => if p q = true then nI q else ax_lat p q
theorem ax_lat_r (p : Nat → Bool) : ∀ n, n ≤ 1000 → (ax_lat p n = -1) ∨ ∃ q, q < n ∧ ax_lat p n = nI q ∧ p q = true := by
  intro n
  induction n with
  | zero => exact fun _ => Or.inl rfl
  | succ n ih =>
    intro hn
    unfold ax_lat
    split
    · exact Or.inr ⟨n, by omega, rfl, by assumption⟩
    · rcases ih (by omega) with h | ⟨q, h1, h2, h3⟩
      · exact Or.inl h
      · exact Or.inr ⟨q, by omega, h2, h3⟩
theorem ax_lst_r (p : Nat → Bool) : ∀ d k, k + d ≤ 1000 → (ax_lst p d k = -1) ∨ ∃ q, k ≤ q ∧ q < k + d ∧ ax_lst p d k = nI q ∧ p q = true := by
  intro d
  induction d with
  | zero => exact fun k _ => Or.inl rfl
  | succ d ih =>
    intro k hk
    unfold ax_lst
    split
    · exact Or.inr ⟨k, by omega, by omega, rfl, by assumption⟩
    · rcases ih (k + 1) (by omega) with h | ⟨q, h0, h1, h2, h3⟩
      · exact Or.inl h
      · exact Or.inr ⟨q, by omega, by omega, h2, h3⟩
theorem ax_least_r {c : ax_St} {F : ax_Of} (h : F.n ≤ 4) : (ax_least c F = -1) ∨ ∃ q, q < F.n ∧ ax_least c F = nI q := by
  rcases ax_lst_r (fun k => decide (ax_made c (F.g k))) F.n 0 (by omega) with h | ⟨q, -, h1, h2, -⟩
  · exact Or.inl h
  · exact Or.inr ⟨q, by omega, h2⟩
theorem nI_ne {q : Nat} (h : q < 2147483648) : ¬ nI q = -1 := by
  intro z
  have := congrArg Int32.toInt z
  rw [q_nI' h] at this
  have h2 : ((-1 : Int32)).toInt = -1 := rfl
  omega
section CH
variable {L : Nat} {xs : Nat → Int32} {c : ax_St} {m : ax_Mo} {o : Nat → Int64} {pool : List (Option ax_C)} {u : Nat} {h : ax_H}
def ax_cst (c : ax_St) (G : ax_Gr) (t : Nat) : ax_St := { c with rn := (ax_col c G t).1, rt := (ax_col c G t).2.1, re := (ax_col c G t).2.2 }
theorem r_collect {g : Nat} {G : ax_Gr} (hg : GradeAt pool g G) (hok : GradeOk G) (hb : BoardOk c) :
    ax_run m_Re_collect [.ref 11, .ref 5, .ref (g + 40)] (ax_hp L xs c m o pool, u) (.inl (some (.int (nI (ax_col c G c.bn).1))), (ax_hp L xs (ax_cst c G c.bn) m o pool, u)) := by
  have hn := hb.n
  have l2 : ∀ (d k : Nat), k + d = 60 → c.bn ≤ k → ax_wp ax_run M_Re_collect (fun r' => r' = (.inl (some (.int (nI (ax_col c G c.bn).1))), (ax_hp L xs (ax_cst c G c.bn) m o pool, u))) 7 [(0, .ref 11), (1, .ref 5), (2, .ref (g + 40)), (3, .int (nI k))] [] (ax_hp L xs (ax_cst c G c.bn) m o pool, u) := by
    intro d
    induction d with
    | zero =>
      intro k hk hkb
      go
      ir
      rfl
    | succ d ih =>
      intro k hk hkb
      go
      cV (r_Bd_excess0 (c := ax_cst c G c.bn) hn k hkb (by omega))
      gg
      refine w_if1 rfl (fun h5 => ?_) (fun h5 => absurd (show (0 : Int32) ≤ 0 from by decide) h5)
      gto 7
      exact w_lv (ih (k + 1) (by omega) (by omega)) rfl ⟨rfl, rfl, rfl, rfl, trivial⟩
  have l1 : ∀ (d k : Nat), k + d = c.bn → ax_wp ax_run M_Re_collect (fun r' => r' = (.inl (some (.int (nI (ax_col c G c.bn).1))), (ax_hp L xs (ax_cst c G c.bn) m o pool, u))) 7 [(0, .ref 11), (1, .ref 5), (2, .ref (g + 40)), (3, .int (nI k))] [] (ax_hp L xs (ax_cst c G k) m o pool, u) := by
    intro d
    induction d with
    | zero =>
      intro k hk
      have : k = c.bn := by omega
      subst this
      exact l2 (60 - c.bn) c.bn (by omega) (Nat.le_refl _)
    | succ d ih =>
      intro k hk
      have hle := ax_col_le c G k
      have hx := ax_ex_b hb hok (t := k) (by omega)
      have hb' : BoardOk (ax_cst c G k) := ⟨hb.n, hb.k, hb.v⟩
      go
      cV (r_Bd_excess1 (c := ax_cst c G k) hg hok hb' k (by show k < c.bn; omega))
      gg
      have hex : ax_ex (ax_cst c G k) G k = ax_ex c G k := rfl
      rw [hex]
      refine w_if1 rfl (fun h5 => ?_) (fun h5 => ?_)
      · have h6 : ¬ 0 < ax_ex c G k := by
          have := Int32.le_iff_toInt_le.mp h5
          rw [q_ofI] at this
          have h0 : ((0 : Int32)).toInt = 0 := rfl
          omega
        gto 7
        have e : ax_cst c G (k + 1) = ax_cst c G k := by
          unfold ax_cst
          rw [show ax_col c G (k + 1) = ax_col c G k from if_neg h6]
        have := ih (k + 1) (by omega)
        rw [e] at this
        exact w_lv this rfl ⟨rfl, rfl, rfl, rfl, trivial⟩
      · have h6 : 0 < ax_ex c G k := by
          have h7 : ¬ (Int32.ofInt (ax_ex c G k)).toInt ≤ ((0 : Int32)).toInt := fun z => h5 (Int32.le_iff_toInt_le.mpr z)
          rw [q_ofI] at h7
          have h0 : ((0 : Int32)).toInt = 0 := rfl
          omega
        gg
        refine w_ias rfl rfl rfl (by show (ax_col c G k).1 < 60; omega) (by decide) ?_
        gg
        refine w_ias rfl rfl rfl (by show (ax_col c G k).1 < 60; omega) (by decide) ?_
        gto 7
        have e : ax_cst c G (k + 1) = { c with rn := (ax_col c G k).1 + 1, rt := upd (ax_col c G k).2.1 (ax_col c G k).1 (nI k), re := upd (ax_col c G k).2.2 (ax_col c G k).1 (Int32.ofInt (ax_ex c G k)) } := by
          unfold ax_cst
          rw [show ax_col c G (k + 1) = _ from if_pos h6]
        have := ih (k + 1) (by omega)
        rw [e] at this
        exact w_lv this rfl ⟨rfl, rfl, rfl, rfl, trivial⟩
  startR M_Re_collect
  gto 7
  exact w_lv (l1 c.bn 0 (by omega)) rfl ⟨rfl, rfl, rfl, rfl, trivial⟩
def sp_run (c : ax_St) (Fs : Nat → ax_Of) (k j : Int32) : ax_SR := if ¬ (0 ≤ k.toInt ∧ k.toInt < c.told ∧ 0 ≤ j.toInt ∧ j.toInt < (Fs k.toInt.toNat).n) then .inr 0 else .inl (.int (nI (ax_col c ((Fs k.toInt.toNat).g j.toInt.toNat) c.bn).1), ax_cst c ((Fs k.toInt.toNat).g j.toInt.toNat) c.bn)
theorem r_run {Fs : Nat → ax_Of} (hF : OffOk c pool Fs) (hb : BoardOk c) (k j : Int32) : ax_run m_ML_run [.ref 1, .int k, .int j] (ax_hp L xs c m o pool, u) (ax_out L xs m o pool u c (sp_run c Fs k j)) := by
  have hn := hF.n
  unfold sp_run
  split
  · startR M_ML_run
    gg
    exact w_cvx rfl rfl rfl rfl (Nat.le_of_ble_eq_true rfl) (Nat.le_of_ble_eq_true rfl) (by decide) rfl (r_gradeOf0 hF k j (by assumption)) rfl
  · rename_i h0
    obtain ⟨n, rfl, hn1, hn2⟩ := q_nat (x := k) (by omega)
    obtain ⟨i, rfl, hi1, hi2⟩ := q_nat (x := j) (by omega)
    rw [← hn1, ← hi1] at h0 ⊢
    simp only [Int.toNat_natCast] at h0 ⊢
    obtain ⟨g, g1, g2⟩ := r_gradeOf1 (L := L) (xs := xs) (m := m) (o := o) (u := u) hF n i (by omega) (by omega)
    obtain ⟨-, -, -, e3⟩ := hF.at_ n (by omega)
    startR M_ML_run
    gg
    cV g2
    cV (r_collect g1 (e3.gs i (by omega)) hb)
    ir
    rfl
def sp_quote (c : ax_St) (k : Int32) (d : Int64) : ax_SR := if ¬ (0 ≤ k.toInt ∧ k.toInt < c.told) then .inr 0 else if c.qn = 10 then .inl (.int (-1), c)
  else .inl (.int (nI c.qn), { c with qm := upd c.qm c.qn k, qo := va_up c.qo c.qn (c.of k.toInt.toNat), qu := vp_updL c.qu c.qn d, qn := c.qn + 1 })
theorem r_quote {Fs : Nat → ax_Of} (hF : OffOk c pool Fs) (hq : c.qn ≤ 10) (k : Int32) (d : Int64) : ax_run m_ML_quote [.ref 1, .int k, .long d] (ax_hp L xs c m o pool, u) (ax_out L xs m o pool u c (sp_quote c k d)) := by
  have hn := hF.n
  unfold sp_quote
  split
  · startR M_ML_quote
    gg
    exact w_cvx rfl rfl rfl rfl (Nat.le_of_ble_eq_true rfl) (Nat.le_of_ble_eq_true rfl) (by decide) rfl (r_offerOf0 hF k (by assumption)) rfl
  · rename_i h0
    obtain ⟨n, rfl, hn1, hn2⟩ := q_nat (x := k) (by omega)
    rw [← hn1]
    simp only [Int.toNat_natCast]
    obtain ⟨i, e1, e2, e3⟩ := hF.at_ n (by omega)
    obtain ⟨a, gf, z1, -⟩ := id e2
    rw [e1]
    split
    · have ha : ax_run m_Qu_add [.ref 14, .int (nI n), .ref (i + 40), .long d] (ax_hp L xs c m o pool, u) (.inl (some (.int (-1))), (ax_hp L xs c m o pool, u)) := by
        startR M_Qu_add
        go
        ir
        rfl
      startR M_ML_quote
      gg
      cV (r_offerOf1 (by omega) e1)
      gg
      cV ha
      ir
      rfl
    · have ha : ax_run m_Qu_add [.ref 14, .int (nI n), .ref (i + 40), .long d] (ax_hp L xs c m o pool, u) (.inl (some (.int (nI c.qn))), (ax_hp L xs { c with qm := upd c.qm c.qn (nI n), qo := va_up c.qo c.qn (some (i + 40)), qu := vp_updL c.qu c.qn d, qn := c.qn + 1 } m o pool, u)) := by
        startR M_Qu_add
        go
        refine w_ias rfl rfl rfl (by omega) (by decide) ?_
        gg
        refine w_aas rfl rfl (Or.inl rfl) rfl (by omega) (by decide) z1 ?_
        gg
        refine w_las rfl rfl rfl (by omega) (by decide) ?_
        gg
        ir
        rfl
      startR M_ML_quote
      gg
      cV (r_offerOf1 (by omega) e1)
      gg
      cV ha
      ir
      rfl
def ax_latest (c : ax_St) (k : Int32) (d : Int64) : Int32 := ax_lat (fun q => decide (c.qm q = k ∧ d.toInt ≤ (c.qu q).toInt)) c.qn
theorem r_latest (hq : c.qn ≤ 10) (k : Int32) (d : Int64) : ax_run m_Qu_latest [.ref 14, .int k, .long d] (ax_hp L xs c m o pool, u) (.inl (some (.int (ax_latest c k d))), (ax_hp L xs c m o pool, u)) := by
  have lp : ∀ (n : Nat) (x : Int32), n ≤ c.qn → x.toInt = (n : Int) - 1 → ax_wp ax_run M_Qu_latest (fun r' => r' = (.inl (some (.int (ax_lat (fun q => decide (c.qm q = k ∧ d.toInt ≤ (c.qu q).toInt)) n))), (ax_hp L xs c m o pool, u))) 8 [(0, .ref 14), (1, .int k), (2, .long d), (4, .int x)] [] (ax_hp L xs c m o pool, u) := by
    intro n
    induction n with
    | zero =>
      intro x hn hx
      go
      ir
      rfl
    | succ n ih =>
      intro x hn hx
      have hx' : x = nI n := q_nIof (by omega) (by omega)
      subst hx'
      go
      refine w_ia rfl rfl rfl (by omega) (by decide) ?_
      gg
      refine w_if2 rfl (fun h5 => ?_) (fun h5 => ?_)
      · have h6 : ¬ c.qm n = k := h5
        gto 8
        refine w_lv (w_post (ih _ (by omega) (by rw [q_add, q_nI, q_ofI]; omega)) (fun r hr => ?_)) rfl ⟨rfl, rfl, rfl, rfl, trivial⟩
        rw [hr]
        show _ = (Sum.inl (some (Value.int (if decide (c.qm n = k ∧ d.toInt ≤ (c.qu n).toInt) = true then nI n else _))), _)
        rw [if_neg (by rw [decide_eq_true_eq]; exact fun z => h6 z.1)]
      · have h6 : c.qm n = k := Decidable.not_not.mp h5
        gg
        refine w_la rfl rfl rfl (by omega) (by decide) ?_
        gg
        refine w_if1 rfl (fun h7 => ?_) (fun h7 => ?_)
        · have h8 := c_Llt.mp h7
          gto 8
          refine w_lv (w_post (ih _ (by omega) (by rw [q_add, q_nI, q_ofI]; omega)) (fun r hr => ?_)) rfl ⟨rfl, rfl, rfl, rfl, trivial⟩
          rw [hr]
          show _ = (Sum.inl (some (Value.int (if decide (c.qm n = k ∧ d.toInt ≤ (c.qu n).toInt) = true then nI n else _))), _)
          rw [if_neg (by rw [decide_eq_true_eq]; omega)]
        · have h8 : ¬ (c.qu n).toInt < d.toInt := fun z => h7 (c_Llt.mpr z)
          gg
          ir
          show _ = (Sum.inl (some (Value.int (if decide (c.qm n = k ∧ d.toInt ≤ (c.qu n).toInt) = true then nI n else _))), _)
          rw [if_pos (by rw [decide_eq_true_eq]; exact ⟨h6, by omega⟩)]
  startR M_Qu_latest
  gto 8
  exact w_lv (lp c.qn (nI c.qn - Int32.ofInt 1) (Nat.le_refl _) (by rw [q_sub, q_nI, q_ofI]; omega)) rfl ⟨rfl, rfl, rfl, rfl, trivial⟩
end CH
