section P2
variable {c : ax_St} {m : ax_Mo} {pool : List (Option ax_C)} {Fs Qs : Nat → ax_Of}
theorem p_least (h : Rel c m pool Fs Qs) (k : Int32) : Pair m_ML_least m_Mo_least [.int k] c m pool isI (fun E => E = 0) (fun E => nI (E + 1)) := by
  have hC := fun L xs o u => r_least (L := L) (xs := xs) (c := c) (m := m) (o := o) (pool := pool) (u := u) h.of h.bo k
  have hM := fun L xs o pool u => n_least (L := L) (xs := xs) (c := c) (m := m) (o := o) (pool := pool) (u := u) h.mr h.br h.bo k
  unfold sp_least at hC
  unfold mp_least at hM
  rw [h.mk] at hM
  by_cases h1 : ¬ (0 ≤ k.toInt ∧ k.toInt < c.told)
  · simp only [if_pos h1] at hC hM
    exact pair_r 0 _ _ rfl ⟨_, rfl⟩ hC hM rfl (h.thr 1)
  · simp only [if_neg h1] at hC hM
    exact pair_l _ c _ ⟨_, rfl⟩ hC hM rfl (h.thr 0)
theorem p_price (h : Rel c m pool Fs Qs) (k j : Int32) (q : Int64) : Pair m_ML_price m_Mo_price [.int k, .int j, .long q] c m pool isL (fun E => E < 2) (fun E => nI (E + 1)) := by
  have hC := fun L xs o u => r_price (L := L) (xs := xs) (c := c) (m := m) (o := o) (pool := pool) (u := u) h.of k j q
  have hM := fun L xs o pool u => n_price (L := L) (xs := xs) (c := c) (m := m) (o := o) (pool := pool) (u := u) h.mr k j q
  unfold sp_price at hC
  unfold mp_price at hM
  rw [h.mk] at hM
  by_cases h1 : ¬ (0 ≤ k.toInt ∧ k.toInt < c.told ∧ 0 ≤ j.toInt ∧ j.toInt < (Fs k.toInt.toNat).n)
  · simp only [if_pos h1] at hC hM
    exact pair_r 0 _ _ (by decide) ⟨_, rfl⟩ hC hM rfl (h.thr 1)
  · simp only [if_neg h1] at hC hM
    by_cases h2 : ¬ (1 ≤ q.toInt ∧ q.toInt ≤ 1000000)
    · simp only [if_pos h2] at hC hM
      exact pair_r 1 _ _ (by decide) ⟨_, rfl⟩ hC hM rfl (h.thr 2)
    · simp only [if_neg h2] at hC hM
      exact pair_l _ c _ ⟨_, rfl⟩ hC hM rfl (h.thr 0)
theorem p_best (h : Rel c m pool Fs Qs) (q : Int64) : Pair m_ML_best m_Mo_best [.long q] c m pool isI (fun E => E = 1) (fun _ => nI 1) := by
  have hC := fun L xs o u => r_best (L := L) (xs := xs) (c := c) (m := m) (o := o) (pool := pool) (u := u) h.of h.bo q
  have hM := fun L xs o pool u => n_best (L := L) (xs := xs) (c := c) (m := m) (o := o) (pool := pool) (u := u) h.mr h.br h.bo q
  unfold sp_best at hC
  unfold mp_best at hM
  rw [h.mk] at hM
  by_cases h1 : ¬ (1 ≤ q.toInt ∧ q.toInt ≤ 1000000)
  · simp only [if_pos h1] at hC hM
    exact pair_r 1 _ _ rfl ⟨_, rfl⟩ hC hM rfl (h.thr 1)
  · simp only [if_neg h1] at hC hM
    exact pair_l _ c _ ⟨_, rfl⟩ hC hM rfl (h.thr 0)
theorem col_rel {G : ax_Gr} (c' : ax_St) (hb : BoardOk c) (hG : GradeOk G) (he : ∀ t, ax_ex c' G t = ax_ex c G t) : ∀ t, t ≤ c.bn → (ax_mcol c' m G t).1 = (ax_col c G t).1 ∧ ∀ k, k < (ax_col c G t).1 → (∃ t', t' < t ∧ (ax_col c G t).2.1 k = nI t') ∧ (ax_mcol c' m G t).2.1 k = (ax_col c G t).2.1 k ∧ ((ax_mcol c' m G t).2.2 k).toInt = ((ax_col c G t).2.2 k).toInt := by
  intro t
  induction t with
  | zero => exact fun _ => ⟨rfl, fun k hk => absurd hk (Nat.not_lt_zero _)⟩
  | succ t ih =>
    intro ht
    obtain ⟨i1, i2⟩ := ih (by omega)
    have hx := ax_ex_b hb hG (t := t) (by omega)
    by_cases h0 : 0 < ax_ex c G t
    · have e1 : ax_col c G (t + 1) = ((ax_col c G t).1 + 1, upd (ax_col c G t).2.1 (ax_col c G t).1 (nI t), upd (ax_col c G t).2.2 (ax_col c G t).1 (Int32.ofInt (ax_ex c G t))) := if_pos h0
      have e2 : ax_mcol c' m G (t + 1) = ((ax_mcol c' m G t).1 + 1, upd (ax_mcol c' m G t).2.1 (ax_mcol c' m G t).1 (nI t), vp_updL (ax_mcol c' m G t).2.2 (ax_mcol c' m G t).1 (Int64.ofInt (ax_ex c' G t))) := if_pos (by rw [he]; exact h0)
      rw [e1, e2, i1, he]
      refine ⟨rfl, fun k hk => ?_⟩
      have hk' : k < (ax_col c G t).1 + 1 := hk
      show (∃ t', t' < t + 1 ∧ upd (ax_col c G t).2.1 (ax_col c G t).1 (nI t) k = nI t') ∧ upd (ax_mcol c' m G t).2.1 (ax_col c G t).1 (nI t) k = upd (ax_col c G t).2.1 (ax_col c G t).1 (nI t) k ∧ (vp_updL (ax_mcol c' m G t).2.2 (ax_col c G t).1 (Int64.ofInt (ax_ex c G t)) k).toInt = (upd (ax_col c G t).2.2 (ax_col c G t).1 (Int32.ofInt (ax_ex c G t)) k).toInt
      by_cases z : k = (ax_col c G t).1
      · rw [z]
        simp only [u_s, uL_s]
        refine ⟨⟨t, by omega, rfl⟩, trivial, ?_⟩
        rw [q_ofIL (by omega) (by omega), q_ofI]
        omega
      · simp only [u_n _ _ z, uL_n _ _ z]
        obtain ⟨⟨t', h1, h2⟩, h3⟩ := i2 k (by omega)
        exact ⟨⟨t', by omega, h2⟩, h3⟩
    · have e1 : ax_col c G (t + 1) = ax_col c G t := if_neg h0
      have e2 : ax_mcol c' m G (t + 1) = ax_mcol c' m G t := if_neg (by rw [he]; exact h0)
      rw [e1, e2]
      refine ⟨i1, fun k hk => ?_⟩
      obtain ⟨⟨t', h1, h2⟩, h3⟩ := i2 k hk
      exact ⟨⟨t', by omega, h2⟩, h3⟩
theorem p_run (h : Rel c m pool Fs Qs) (k j : Int32) : Pair m_ML_run m_Mo_run [.int k, .int j] c m pool isI (fun E => E = 0) (fun E => nI (E + 1)) := by
  have hC := fun L xs o u => r_run (L := L) (xs := xs) (c := c) (m := m) (o := o) (pool := pool) (u := u) h.of h.bo k j
  by_cases h1 : ¬ (0 ≤ k.toInt ∧ k.toInt < c.told ∧ 0 ≤ j.toInt ∧ j.toInt < (Fs k.toInt.toNat).n)
  · have hM := fun L xs o pool u => n_run (L := L) (xs := xs) (c := c) (m := m) (o := o) (pool := pool) (u := u) h.mr h.br h.bo k j
    unfold sp_run at hC
    unfold mp_run at hM
    rw [h.mk] at hM
    simp only [if_pos h1] at hC hM
    exact pair_r 0 _ _ rfl ⟨_, rfl⟩ hC hM rfl (h.thr 1)
  · have h2 := Decidable.not_not.mp h1
    obtain ⟨i0, -, -, hF⟩ := h.of.at_ k.toInt.toNat (by omega)
    have hG := hF.gs j.toInt.toNat (by omega)
    have hM := fun L xs o pool u => n_run (L := L) (xs := xs) (c := ax_cst c ((Fs k.toInt.toNat).g j.toInt.toNat) c.bn) (m := m) (o := o) (pool := pool) (u := u) h.mr h.br h.bo k j
    unfold sp_run at hC
    unfold mp_run at hM
    rw [h.mk] at hM
    simp only [if_neg h1] at hC hM
    generalize (Fs k.toInt.toNat).g j.toInt.toNat = G at hG hC hM
    have hcr := col_rel (m := m) (ax_cst c G c.bn) h.bo hG (fun _ => rfl) c.bn (Nat.le_refl _)
    have hle := ax_col_le c G c.bn
    have hbn := h.bo.n
    have e0 : (ax_mcol (ax_cst c G c.bn) m G (ax_cst c G c.bn).bn).1 = (ax_col c G c.bn).1 := hcr.1
    rw [e0] at hM
    exact pair_l _ _ _ ⟨_, rfl⟩ hC hM rfl (Fs' := Fs) (Qs' := Qs) ⟨h.tl, h.un, h.tx, h.mk, h.of, h.mr, h.bo, h.br, Nat.le_trans hle hbn, hcr.1, hcr.2, h.qu, h.mq, h.on, h.mo, h.rw, h.ce, h.cr⟩
theorem NumAt.eqv {m m' : ax_Mo} {p p' : Nat} {F : ax_Of} (h : NumAt m p F) (hF : OfferOk F) (hc : m'.classes p' = m.classes p) (hn : ∀ j, j < 64 → m'.numbers (64 * p' + j) = m.numbers (64 * p + j)) : NumAt m' p' F := by
  have h4 := hF.n4
  have hj : ∀ k j, k < F.n → j < 16 → m'.numbers (64 * p' + 16 * k + j) = m.numbers (64 * p + 16 * k + j) := by
    intro k j hk hj
    rw [show 64 * p' + 16 * k + j = 64 * p' + (16 * k + j) by omega, hn _ (by omega), show 64 * p + (16 * k + j) = 64 * p + 16 * k + j by omega]
  refine ⟨hc.trans h.cl, fun k hk j hj6 => ?_, fun k hk => ?_, fun k hk => ?_, fun k hk s hs => ?_, fun k hk s hs => ?_⟩
  · rw [hj k j hk (by omega)]; exact h.lm k hk j hj6
  · rw [hj k 6 hk (by omega)]; exact h.st k hk
  · rw [hj k 7 hk (by omega)]; exact h.dy k hk
  · have := (hF.gs k hk).s4
    rw [hj k (8 + 2 * s) hk (by omega)]; exact h.fr k hk s hs
  · have := (hF.gs k hk).s4
    rw [hj k (9 + 2 * s) hk (by omega)]; exact h.ce k hk s hs
theorem p_quote (h : Rel c m pool Fs Qs) (k : Int32) (d : Int64) : Pair m_ML_quote m_Mo_quote [.int k, .long d] c m pool isI (fun E => E = 0) (fun E => nI (E + 1)) := by
  have hC := fun L xs o u => r_quote (L := L) (xs := xs) (c := c) (m := m) (o := o) (pool := pool) (u := u) h.of h.qu.n k d
  have hM := fun c' L xs o pool u => n_quote (L := L) (xs := xs) (c := c') (m := m) (o := o) (pool := pool) (u := u) h.mr.n (by rw [h.mq.n]; exact h.mq.n10) k d
  unfold sp_quote at hC
  unfold mp_quote at hM
  rw [h.mk, h.mq.n] at hM
  by_cases h1 : ¬ (0 ≤ k.toInt ∧ k.toInt < c.told)
  · simp only [if_pos h1] at hC hM
    exact pair_r 0 _ _ rfl ⟨_, rfl⟩ hC (hM c) rfl (h.thr 1)
  · simp only [if_neg h1] at hC hM
    by_cases h2 : c.qn = 10
    · simp only [if_pos h2] at hC hM
      exact pair_l _ c _ ⟨_, rfl⟩ hC (hM c) rfl (h.thr 0)
    · simp only [if_neg h2] at hC hM
      have hq10 := h.mq.n10
      have ht4 := h.of.n
      have hnt : k.toInt.toNat < c.told := by omega
      generalize k.toInt.toNat = n at hnt hC hM
      obtain ⟨i0, hi1, hi2, hi3⟩ := h.of.at_ n hnt
      refine pair_l _ _ _ ⟨_, rfl⟩ hC (hM _) rfl (Fs' := Fs) (Qs' := va_up Qs c.qn (Fs n)) ⟨h.tl, h.un, h.tx, h.mk, h.of, ⟨h.mr.n, ?_⟩, h.bo, h.br, h.rn, h.rm, h.rt, ⟨?_, ?_⟩, ⟨rfl, ?_, ?_, ?_, ?_⟩, h.on, h.mo, h.rw, h.ce, h.cr⟩
      · intro q hq
        have hq' : q < m.makers := hq
        have hm4 := h.mr.n
        have hN := h.mr.at_ q hq'
        refine ⟨hN.1.eqv hN.2 ?_ (fun j hj => ?_), hN.2⟩
        · show upd m.classes (4 + c.qn) (m.classes n) q = m.classes q
          rw [u_n _ _ (by omega)]
        · show ax_cpy m.numbers n (4 + c.qn) 64 (64 * q + j) = m.numbers (64 * q + j)
          unfold ax_cpy
          rw [if_neg (by omega)]
      · show c.qn + 1 ≤ 10
        omega
      · intro q hq
        have hq' : q < c.qn + 1 := hq
        show ∃ i, va_up c.qo c.qn (c.of n) q = some (i + 40) ∧ OfferAt pool i (va_up Qs c.qn (Fs n) q) ∧ OfferOk (va_up Qs c.qn (Fs n) q)
        by_cases z : q = c.qn
        · subst z
          rw [va_up_self, va_up_self]
          exact ⟨i0, hi1, hi2, hi3⟩
        · rw [va_up_ne _ _ z, va_up_ne _ _ z]
          exact h.qu.at_ q (by omega)
      · show c.qn + 1 ≤ 10
        omega
      · intro q hq
        have hq' : q < c.qn + 1 := hq
        show upd m.quoteMaker c.qn k q = upd c.qm c.qn k q
        by_cases z : q = c.qn
        · subst z; rw [u_s, u_s]
        · rw [u_n _ _ z, u_n _ _ z]; exact h.mq.mkr q (by omega)
      · intro q hq
        have hq' : q < c.qn + 1 := hq
        show vp_updL m.until_ c.qn d q = vp_updL c.qu c.qn d q
        by_cases z : q = c.qn
        · subst z; rw [uL_s, uL_s]
        · rw [uL_n _ _ z, uL_n _ _ z]; exact h.mq.un q (by omega)
      · intro q hq
        have hq' : q < c.qn + 1 := hq
        by_cases z : q = c.qn
        · subst z
          rw [va_up_self]
          have hN := h.mr.at_ n (by rw [h.mk]; exact hnt)
          refine ⟨hN.1.eqv hN.2 ?_ (fun j hj => ?_), hN.2⟩
          · show upd m.classes (4 + c.qn) (m.classes n) (4 + c.qn) = m.classes n
            rw [u_s]
          · show ax_cpy m.numbers n (4 + c.qn) 64 (64 * (4 + c.qn) + j) = m.numbers (64 * n + j)
            unfold ax_cpy
            rw [if_pos (by omega)]
            congr 1
            omega
        · rw [va_up_ne _ _ z]
          have hN := h.mq.at_ q (by omega)
          refine ⟨hN.1.eqv hN.2 ?_ (fun j hj => ?_), hN.2⟩
          · show upd m.classes (4 + c.qn) (m.classes n) (4 + q) = m.classes (4 + q)
            rw [u_n _ _ (by omega)]
          · show ax_cpy m.numbers n (4 + c.qn) 64 (64 * (4 + q) + j) = m.numbers (64 * (4 + q) + j)
            unfold ax_cpy
            rw [if_neg (by omega)]
theorem row_lt {f : Nat → Int32} {r : Nat} {k cl q dy : Int32} {p : Int64} {l : Int32} (j : Nat) (h : j < r) : ax_row f r k cl q dy p l j = f j := by
  unfold ax_row upd
  rw [if_neg (by omega), if_neg (by omega), if_neg (by omega), if_neg (by omega), if_neg (by omega), if_neg (by omega), if_neg (by omega)]
theorem mrow_lt {f : Nat → Int64} {r : Nat} {k cl : Int32} {q dy p l : Int64} (j : Nat) (h : j < r) : ax_mrow f r k cl q dy p l j = f j := by
  unfold ax_mrow vp_updL
  rw [if_neg (by omega), if_neg (by omega), if_neg (by omega), if_neg (by omega), if_neg (by omega), if_neg (by omega), if_neg (by omega)]
theorem rows_eq {f : Nat → Int32} {g : Nat → Int64} {r : Nat} {k cl q dy l : Int32} {q2 dy2 p l2 : Int64} (h0 : ∀ j, j < r → (g j).toInt = (f j).toInt) (hq : q2.toInt = q.toInt) (hd : dy2.toInt = dy.toInt) (h1 : (p / 1000).toInt = (p / 1000).toInt32.toInt) (h2 : (p - p / 1000 * 1000).toInt = (p - p / 1000 * 1000).toInt32.toInt) (hl : l2.toInt = l.toInt) :
    ∀ j, j < r + 7 → (ax_mrow g r k cl q2 dy2 p l2 j).toInt = (ax_row f r k cl q dy p l j).toInt := by
  intro j hj
  have hcase : j < r ∨ j = r ∨ j = r + 1 ∨ j = r + 2 ∨ j = r + 3 ∨ j = r + 4 ∨ j = r + 5 ∨ j = r + 6 := by omega
  rcases hcase with z | rfl | rfl | rfl | rfl | rfl | rfl | rfl
  · rw [row_lt j z, mrow_lt j z]; exact h0 j z
  · unfold ax_mrow ax_row vp_updL upd
    rw [if_neg (by omega), if_neg (by omega), if_neg (by omega), if_neg (by omega), if_neg (by omega), if_neg (by omega), if_pos rfl, if_neg (by omega), if_neg (by omega), if_neg (by omega), if_neg (by omega), if_neg (by omega), if_neg (by omega), if_pos rfl, q_i2l]
  · unfold ax_mrow ax_row vp_updL upd
    rw [if_neg (by omega), if_neg (by omega), if_neg (by omega), if_neg (by omega), if_neg (by omega), if_pos rfl, if_neg (by omega), if_neg (by omega), if_neg (by omega), if_neg (by omega), if_neg (by omega), if_pos rfl, q_i2l]
  · unfold ax_mrow ax_row vp_updL upd
    rw [if_neg (by omega), if_neg (by omega), if_neg (by omega), if_neg (by omega), if_pos rfl, if_neg (by omega), if_neg (by omega), if_neg (by omega), if_neg (by omega), if_pos rfl]
    exact hq
  · unfold ax_mrow ax_row vp_updL upd
    rw [if_neg (by omega), if_neg (by omega), if_neg (by omega), if_pos rfl, if_neg (by omega), if_neg (by omega), if_neg (by omega), if_pos rfl]
    exact hd
  · unfold ax_mrow ax_row vp_updL upd
    rw [if_neg (by omega), if_neg (by omega), if_pos rfl, if_neg (by omega), if_neg (by omega), if_pos rfl]
    exact h1
  · unfold ax_mrow ax_row vp_updL upd
    rw [if_neg (by omega), if_pos rfl, if_neg (by omega), if_pos rfl]
    exact h2
  · unfold ax_mrow ax_row vp_updL upd
    rw [if_pos rfl, if_pos rfl]
    exact hl
theorem pay_b {z : Int} (h1 : 0 ≤ z) (h2 : z ≤ 1000000000000) : (Int64.ofInt z / 1000).toInt = (Int64.ofInt z / 1000).toInt32.toInt ∧ (Int64.ofInt z - Int64.ofInt z / 1000 * 1000).toInt = (Int64.ofInt z - Int64.ofInt z / 1000 * 1000).toInt32.toInt := by
  have e0 : (Int64.ofInt z).toInt = ((z.toNat : Nat) : Int) := by rw [q_ofIL (by omega) (by omega)]; omega
  have e1 : (Int64.ofInt z / 1000).toInt = ((z.toNat / 1000 : Nat) : Int) := q_divL (n := 1000) e0 rfl (by omega)
  have e2 : (Int64.ofInt z / 1000 * 1000).toInt = ((z.toNat / 1000 * 1000 : Nat) : Int) := q_mulN (n := 1000) e1 rfl (by omega)
  have e3 : (Int64.ofInt z - Int64.ofInt z / 1000 * 1000).toInt = ((z.toNat - z.toNat / 1000 * 1000 : Nat) : Int) := by
    rw [q_subL, e0, e2]
    omega
  generalize Int64.ofInt z - Int64.ofInt z / 1000 * 1000 = b at e3
  generalize Int64.ofInt z / 1000 = a at e1
  constructor
  · rw [q_l2i' (by omega) (by omega)]
  · rw [q_l2i' (by omega) (by omega)]
theorem p_order (h : Rel c m pool Fs Qs) (k : Int32) (q d : Int64) : Pair m_ML_order m_Mo_order [.int k, .long q, .long d] c m pool isI (fun E => E < 2) (fun E => nI (E + 1)) := by
  have hC := fun L xs o u => r_order (L := L) (xs := xs) (c := c) (m := m) (o := o) (pool := pool) (u := u) h.of h.qu h.bo h.on k q d
  have hM0 : ∀ (L : Nat) (xs : Nat → Int32) (o : Nat → Int64) (pool : List (Option ax_C)) (u : Nat), ax_run m_Mo_order [.ref 23, .int k, .long q, .long d] (ax_hp L xs c m o pool, u) (ax_mout L xs c o pool u (mp_order c m Fs Qs k q d)) := fun L xs o pool u => n_order (L := L) (xs := xs) (c := c) (m := m) (o := o) (pool := pool) (u := u) h.mr h.mq h.br h.bo (by rw [h.mo]; exact h.on) k q d
  have hM1 : ∀ (f : Nat → Int32) (n : Nat) (L : Nat) (xs : Nat → Int32) (o : Nat → Int64) (pool : List (Option ax_C)) (u : Nat), ax_run m_Mo_order [.ref 23, .int k, .long q, .long d] (ax_hp L xs (ax_St.u_on (ax_St.u_parts c f) n) m o pool, u) (ax_mout L xs (ax_St.u_on (ax_St.u_parts c f) n) o pool u (mp_order c m Fs Qs k q d)) := fun f n L xs o pool u => n_order (L := L) (xs := xs) (c := (ax_St.u_on (ax_St.u_parts c f) n)) (m := m) (o := o) (pool := pool) (u := u) h.mr h.mq h.br h.bo (by rw [h.mo]; exact h.on) k q d
  unfold sp_order at hC
  unfold mp_order at hM0 hM1
  rw [h.mk] at hM0 hM1
  by_cases h1 : ¬ (0 ≤ k.toInt ∧ k.toInt < c.told)
  · simp only [if_pos h1] at hC hM0
    exact pair_r 0 _ _ (by decide) ⟨_, rfl⟩ hC hM0 rfl (h.thr 1)
  · simp only [if_neg h1] at hC hM0 hM1
    by_cases h2 : ¬ (1 ≤ q.toInt ∧ q.toInt ≤ 1000000)
    · simp only [if_pos h2] at hC hM0
      exact pair_r 1 _ _ (by decide) ⟨_, rfl⟩ hC hM0 rfl (h.thr 2)
    · simp only [if_neg h2] at hC hM0 hM1
      have hq10 := h.mq.n10
      have hnt : k.toInt.toNat < c.told := by omega
      have hlat : ax_latest c k d = -1 ∨ ∃ b, b < c.qn ∧ ax_latest c k d = nI b := by
        rcases ax_lat_r (fun q => decide (c.qm q = k ∧ d.toInt ≤ (c.qu q).toInt)) c.qn (by omega) with hl | ⟨b, hb1, hl, -⟩
        · exact Or.inl hl
        · exact Or.inr ⟨b, hb1, hl⟩
      generalize ax_latest c k d = l at hlat hC hM0 hM1
      have hFN : NumAt m (ax_prow k.toInt.toNat l) (ax_ofr c Fs Qs k.toInt.toNat l) ∧ OfferOk (ax_ofr c Fs Qs k.toInt.toNat l) := by
        unfold ax_prow ax_ofr
        rcases hlat with rfl | ⟨b, hb1, rfl⟩
        · rw [if_pos (by decide), if_pos (by decide)]
          exact h.mr.at_ k.toInt.toNat (by rw [h.mk]; exact hnt)
        · have e : (nI b).toInt = b := q_nI' (by omega)
          rw [e, if_neg (by omega), if_neg (by omega), show ((b : Int)).toNat = b by omega]
          exact h.mq.at_ b hb1
      have hlv : ((if l.toInt < 0 then (-1 : Int64) else l.toInt64)).toInt = l.toInt := by
        rcases hlat with rfl | ⟨b, hb1, rfl⟩
        · rfl
        · have e : (nI b).toInt = b := q_nI' (by omega)
          rw [if_neg (by omega), q_i2l]
      generalize ax_prow k.toInt.toNat l = p at hFN hM0 hM1
      generalize ax_ofr c Fs Qs k.toInt.toNat l = F at hFN hC hM0 hM1
      obtain ⟨hN, hF⟩ := hFN
      have hF4 := hF.n4
      unfold sp_order2 at hC
      unfold mp_order2 at hM0 hM1
      rw [h.mo] at hM0 hM1
      by_cases h3 : ax_least c F = -1
      · simp only [if_pos h3] at hC
        simp only [if_pos (show c.on = 20 ∨ ax_least c F = -1 from Or.inr h3)] at hM0
        exact pair_l _ c _ ⟨_, rfl⟩ hC hM0 rfl (h.thr 0)
      · simp only [if_neg h3] at hC
        by_cases h4 : c.on = 20
        · simp only [if_pos h4] at hC
          simp only [if_pos (show c.on = 20 ∨ ax_least c F = -1 from Or.inl h4)] at hM0
          exact pair_l _ c _ ⟨_, rfl⟩ hC hM0 rfl (h.thr 0)
        · simp only [if_neg h4] at hC
          simp only [if_neg (show ¬ (c.on = 20 ∨ ax_least c F = -1) from fun z => z.elim h4 h3)] at hM1
          have hon := h.on
          have hls : ∃ b, b < F.n ∧ (ax_least c F).toInt.toNat = b := by
            rcases ax_lst_r (fun k => decide (ax_made c (F.g k))) F.n 0 (by omega) with hz | ⟨b, hb0, hb1, hz, -⟩
            · exact absurd hz h3
            · refine ⟨b, by omega, ?_⟩
              rw [show ax_least c F = nI b from hz, q_nI' (by omega)]
              rfl
          obtain ⟨b, hb1, hb2⟩ := hls
          rw [hb2] at hC hM1
          have hpb := ax_pri_b (hF.gs b hb1) (q := q) (by omega)
          refine pair_l _ _ _ ⟨_, rfl⟩ hC (hM1 _ _) rfl (Fs' := Fs) (Qs' := Qs) ⟨h.tl, h.un, h.tx, h.mk, h.of, h.mr, h.bo, h.br, h.rn, h.rm, h.rt, h.qu, h.mq, ?_, rfl, ?_, h.ce, h.cr⟩
          · show c.on + 1 ≤ 20
            omega
          · have hpay := pay_b hpb.1 hpb.2
            intro j hj
            have hj' : j < 7 * (c.on + 1) := hj
            exact rows_eq (h.rw) (q_l2i' (v := q) (by omega) (by omega)).symm (hN.dy b hb1) hpay.1 hpay.2 hlv j (by omega)
end P2
