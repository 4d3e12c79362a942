/-! class and reference side by side -/
abbrev Rel (c : ax_St) (m : ax_Mo) (pool : List (Option ax_C)) (Fs Qs : Nat → ax_Of) : Prop := (c.tl ≤ 400) ∧ (m.units = c.tl) ∧ (m.text = c.ch) ∧ (m.makers = c.told) ∧ (OffOk c pool Fs) ∧ (MkRel m Fs) ∧ (BoardOk c) ∧ (BRel c m) ∧ (c.rn ≤ 60) ∧ (m.remarks = c.rn) ∧ (∀ k, k < c.rn → (∃ t, t < c.bn ∧ c.rt k = nI t) ∧ m.remarkOf k = c.rt k ∧ (m.excess k).toInt = (c.re k).toInt) ∧ (QuOk c pool Qs) ∧ (MqRel c m Qs) ∧ (c.on ≤ 20) ∧ (m.orders = c.on) ∧ (∀ j, j < 7 * c.on → (m.orderRow j).toInt = (c.parts j).toInt) ∧ (CellOk c) ∧ (CRel c m)
theorem Rel.tl {c : ax_St} {m : ax_Mo} {pool : List (Option ax_C)} {Fs Qs : Nat → ax_Of} (h_ : Rel c m pool Fs Qs) : c.tl ≤ 400 := h_.1
theorem Rel.un {c : ax_St} {m : ax_Mo} {pool : List (Option ax_C)} {Fs Qs : Nat → ax_Of} (h_ : Rel c m pool Fs Qs) : m.units = c.tl := h_.2.1
theorem Rel.tx {c : ax_St} {m : ax_Mo} {pool : List (Option ax_C)} {Fs Qs : Nat → ax_Of} (h_ : Rel c m pool Fs Qs) : m.text = c.ch := h_.2.2.1
theorem Rel.mk {c : ax_St} {m : ax_Mo} {pool : List (Option ax_C)} {Fs Qs : Nat → ax_Of} (h_ : Rel c m pool Fs Qs) : m.makers = c.told := h_.2.2.2.1
theorem Rel.of {c : ax_St} {m : ax_Mo} {pool : List (Option ax_C)} {Fs Qs : Nat → ax_Of} (h_ : Rel c m pool Fs Qs) : OffOk c pool Fs := h_.2.2.2.2.1
theorem Rel.mr {c : ax_St} {m : ax_Mo} {pool : List (Option ax_C)} {Fs Qs : Nat → ax_Of} (h_ : Rel c m pool Fs Qs) : MkRel m Fs := h_.2.2.2.2.2.1
theorem Rel.bo {c : ax_St} {m : ax_Mo} {pool : List (Option ax_C)} {Fs Qs : Nat → ax_Of} (h_ : Rel c m pool Fs Qs) : BoardOk c := h_.2.2.2.2.2.2.1
theorem Rel.br {c : ax_St} {m : ax_Mo} {pool : List (Option ax_C)} {Fs Qs : Nat → ax_Of} (h_ : Rel c m pool Fs Qs) : BRel c m := h_.2.2.2.2.2.2.2.1
theorem Rel.rn {c : ax_St} {m : ax_Mo} {pool : List (Option ax_C)} {Fs Qs : Nat → ax_Of} (h_ : Rel c m pool Fs Qs) : c.rn ≤ 60 := h_.2.2.2.2.2.2.2.2.1
theorem Rel.rm {c : ax_St} {m : ax_Mo} {pool : List (Option ax_C)} {Fs Qs : Nat → ax_Of} (h_ : Rel c m pool Fs Qs) : m.remarks = c.rn := h_.2.2.2.2.2.2.2.2.2.1
theorem Rel.rt {c : ax_St} {m : ax_Mo} {pool : List (Option ax_C)} {Fs Qs : Nat → ax_Of} (h_ : Rel c m pool Fs Qs) : ∀ k, k < c.rn → (∃ t, t < c.bn ∧ c.rt k = nI t) ∧ m.remarkOf k = c.rt k ∧ (m.excess k).toInt = (c.re k).toInt := h_.2.2.2.2.2.2.2.2.2.2.1
theorem Rel.qu {c : ax_St} {m : ax_Mo} {pool : List (Option ax_C)} {Fs Qs : Nat → ax_Of} (h_ : Rel c m pool Fs Qs) : QuOk c pool Qs := h_.2.2.2.2.2.2.2.2.2.2.2.1
theorem Rel.mq {c : ax_St} {m : ax_Mo} {pool : List (Option ax_C)} {Fs Qs : Nat → ax_Of} (h_ : Rel c m pool Fs Qs) : MqRel c m Qs := h_.2.2.2.2.2.2.2.2.2.2.2.2.1
theorem Rel.on {c : ax_St} {m : ax_Mo} {pool : List (Option ax_C)} {Fs Qs : Nat → ax_Of} (h_ : Rel c m pool Fs Qs) : c.on ≤ 20 := h_.2.2.2.2.2.2.2.2.2.2.2.2.2.1
theorem Rel.mo {c : ax_St} {m : ax_Mo} {pool : List (Option ax_C)} {Fs Qs : Nat → ax_Of} (h_ : Rel c m pool Fs Qs) : m.orders = c.on := h_.2.2.2.2.2.2.2.2.2.2.2.2.2.2.1
theorem Rel.rw {c : ax_St} {m : ax_Mo} {pool : List (Option ax_C)} {Fs Qs : Nat → ax_Of} (h_ : Rel c m pool Fs Qs) : ∀ j, j < 7 * c.on → (m.orderRow j).toInt = (c.parts j).toInt := h_.2.2.2.2.2.2.2.2.2.2.2.2.2.2.2.1
theorem Rel.ce {c : ax_St} {m : ax_Mo} {pool : List (Option ax_C)} {Fs Qs : Nat → ax_Of} (h_ : Rel c m pool Fs Qs) : CellOk c := h_.2.2.2.2.2.2.2.2.2.2.2.2.2.2.2.2.1
theorem Rel.cr {c : ax_St} {m : ax_Mo} {pool : List (Option ax_C)} {Fs Qs : Nat → ax_Of} (h_ : Rel c m pool Fs Qs) : CRel c m := h_.2.2.2.2.2.2.2.2.2.2.2.2.2.2.2.2.2
theorem gm {P X : List (Option ax_C)} (j : Nat) (x : Option ax_C) (h : P[j]? = some x) : (P ++ X)[j]? = some x := by
  have hj : j < P.length := by
    rcases Nat.lt_or_ge j P.length with h1 | h1
    · exact h1
    · rw [List.getElem?_eq_none h1] at h
      cases h
  rw [List.getElem?_append_left hj]
  exact h
section RL
variable {c : ax_St} {m : ax_Mo} {pool : List (Option ax_C)} {Fs Qs : Nat → ax_Of}
theorem OffOk.more (h : OffOk c pool Fs) (X : List (Option ax_C)) : OffOk c (pool ++ X) Fs :=
  ⟨h.n, fun k hk => by obtain ⟨i, h1, h2, h3⟩ := h.at_ k hk; exact ⟨i, h1, h2.more gm, h3⟩, h.no⟩
theorem QuOk.more (h : QuOk c pool Qs) (X : List (Option ax_C)) : QuOk c (pool ++ X) Qs :=
  ⟨h.n, fun k hk => by obtain ⟨i, h1, h2, h3⟩ := h.at_ k hk; exact ⟨i, h1, h2.more gm, h3⟩⟩
theorem Rel.more (h : Rel c m pool Fs Qs) (X : List (Option ax_C)) : Rel c m (pool ++ X) Fs Qs :=
  ⟨h.tl, h.un, h.tx, h.mk, h.of.more X, h.mr, h.bo, h.br, h.rn, h.rm, h.rt, h.qu.more X, h.mq, h.on, h.mo, h.rw, h.ce, h.cr⟩
theorem Rel.thr (h : Rel c m pool Fs Qs) (t : Int32) : Rel c (ax_Mo.u_thrown m t) pool Fs Qs :=
  ⟨h.tl, h.un, h.tx, h.mk, h.of, h.mr, h.bo, h.br, h.rn, h.rm, h.rt, h.qu, h.mq, h.on, h.mo, h.rw, h.ce, h.cr⟩
end RL
def isI (v : Value) : Prop := ∃ x, v = .int x
def isL (v : Value) : Prop := ∃ x, v = .long x
def isB (v : Value) : Prop := v = .int (Int32.ofInt 0) ∨ v = .int (Int32.ofInt 1)
/-- a call of the class and the same call of the reference -/
def Pair (mC mM : Nat) (as : List Value) (c : ax_St) (m : ax_Mo) (pool : List (Option ax_C)) (isV : Value → Prop) (ok : Nat → Prop) (th : Nat → Int32) : Prop :=
  (∃ (v : Value) (c' : ax_St) (m' : ax_Mo), isV v ∧ (∀ (L : Nat) (xs : Nat → Int32) (o : Nat → Int64) (u : Nat), ax_run mC (.ref 1 :: as) (ax_hp L xs c m o pool, u) (.inl (some v), (ax_hp L xs c' m o pool, u))) ∧
      (∀ (L : Nat) (xs : Nat → Int32) (o : Nat → Int64) (pool : List (Option ax_C)) (u : Nat), ax_run mM (.ref 23 :: as) (ax_hp L xs c' m o pool, u) (.inl (some v), (ax_hp L xs c' m' o pool, u))) ∧ m'.thrown = Int32.ofInt 0 ∧ ∃ Fs Qs, Rel c' m' pool Fs Qs) ∨
  (∃ (E : Nat) (w : Value) (m' : ax_Mo), ok E ∧ isV w ∧ (∀ (L : Nat) (xs : Nat → Int32) (o : Nat → Int64) (u : Nat), ax_run mC (.ref 1 :: as) (ax_hp L xs c m o pool, u) (.inr E, (ax_hp L xs c m o (pool ++ [none]), u + 6))) ∧
      (∀ (L : Nat) (xs : Nat → Int32) (o : Nat → Int64) (pool : List (Option ax_C)) (u : Nat), ax_run mM (.ref 23 :: as) (ax_hp L xs c m o pool, u) (.inl (some w), (ax_hp L xs c m' o pool, u))) ∧ m'.thrown = th E ∧ ∃ Fs Qs, Rel c m' pool Fs Qs)
section PR
variable {c : ax_St} {m : ax_Mo} {pool : List (Option ax_C)} {Fs Qs : Nat → ax_Of} {mC mM : Nat} {as : List Value} {isV : Value → Prop} {ok : Nat → Prop} {th : Nat → Int32}
theorem pair_l {Fs' Qs' : Nat → ax_Of} (v : Value) (c' : ax_St) (m' : ax_Mo) (hv : isV v) (hC : ∀ (L : Nat) (xs : Nat → Int32) (o : Nat → Int64) (u : Nat), ax_run mC (.ref 1 :: as) (ax_hp L xs c m o pool, u) (.inl (some v), (ax_hp L xs c' m o pool, u)))
    (hM : ∀ (L : Nat) (xs : Nat → Int32) (o : Nat → Int64) (pool : List (Option ax_C)) (u : Nat), ax_run mM (.ref 23 :: as) (ax_hp L xs c' m o pool, u) (.inl (some v), (ax_hp L xs c' m' o pool, u))) (ht : m'.thrown = Int32.ofInt 0) (hR : Rel c' m' pool Fs' Qs') : Pair mC mM as c m pool isV ok th :=
  Or.inl ⟨v, c', m', hv, hC, hM, ht, Fs', Qs', hR⟩
theorem pair_r (E : Nat) (w : Value) (m' : ax_Mo) (hE : ok E) (hw : isV w) (hC : ∀ (L : Nat) (xs : Nat → Int32) (o : Nat → Int64) (u : Nat), ax_run mC (.ref 1 :: as) (ax_hp L xs c m o pool, u) (.inr E, (ax_hp L xs c m o (pool ++ [none]), u + 6)))
    (hM : ∀ (L : Nat) (xs : Nat → Int32) (o : Nat → Int64) (pool : List (Option ax_C)) (u : Nat), ax_run mM (.ref 23 :: as) (ax_hp L xs c m o pool, u) (.inl (some w), (ax_hp L xs c m' o pool, u))) (ht : m'.thrown = th E) (hR : Rel c m' pool Fs Qs) : Pair mC mM as c m pool isV ok th :=
  Or.inr ⟨E, w, m', hE, hw, hC, hM, ht, Fs, Qs, hR⟩
end PR
theorem u_s (f : Nat → Int32) (i : Nat) (x : Int32) : upd f i x i = x := if_pos rfl
theorem u_n (f : Nat → Int32) {i j : Nat} (x : Int32) (h : j ≠ i) : upd f i x j = f j := if_neg h
theorem uL_s (f : Nat → Int64) (i : Nat) (x : Int64) : vp_updL f i x i = x := if_pos rfl
theorem uL_n (f : Nat → Int64) {i j : Nat} (x : Int64) (h : j ≠ i) : vp_updL f i x j = f j := if_neg h
theorem q_l2i' {v : Int64} (h1 : -2147483648 ≤ v.toInt) (h2 : v.toInt < 2147483648) : v.toInt32.toInt = v.toInt := by
  rw [q_l2i]
  omega
section P1
variable {c : ax_St} {m : ax_Mo} {pool : List (Option ax_C)} {Fs Qs : Nat → ax_Of}
theorem p_thing (h : Rel c m pool Fs Qs) (k : Int32) (v : Int64) (y : Int32) : Pair m_ML_thing m_Mo_thing [.int k, .long v, .int y] c m pool isI (fun E => E < 2) (fun E => nI (E + 1)) := by
  have hC := fun L xs o u => r_thing (L := L) (xs := xs) (c := c) (m := m) (o := o) (pool := pool) (u := u) k v y h.bo.n
  have hM := fun c' L xs o pool u => n_thing (L := L) (xs := xs) (c := c') (m := m) (o := o) (pool := pool) (u := u) k v y (by rw [h.br.n]; exact h.bo.n)
  unfold sp_thing at hC
  unfold mp_thing at hM
  rw [h.br.n] at hM
  by_cases h1 : ¬ (0 ≤ k.toInt ∧ k.toInt < 6 ∧ 0 ≤ y.toInt ∧ y.toInt < 8)
  · simp only [if_pos h1] at hC hM
    exact pair_r 0 _ _ (by decide) ⟨_, rfl⟩ hC (hM c) rfl (h.thr 1)
  · simp only [if_neg h1] at hC hM
    by_cases h2 : ¬ (0 ≤ v.toInt ∧ v.toInt ≤ 1000000)
    · simp only [if_pos h2] at hC hM
      exact pair_r 1 _ _ (by decide) ⟨_, rfl⟩ hC (hM c) rfl (h.thr 2)
    · simp only [if_neg h2] at hC hM
      by_cases h3 : c.bn = 60
      · simp only [if_pos h3] at hC hM
        exact pair_l _ c _ ⟨_, rfl⟩ hC (hM c) rfl (h.thr 0)
      · simp only [if_neg h3] at hC hM
        have hv : v.toInt32.toInt = v.toInt := q_l2i' (by omega) (by omega)
        have hn := h.bo.n
        refine pair_l _ _ _ ⟨_, rfl⟩ hC (hM _) rfl (Fs' := Fs) (Qs' := Qs) ⟨h.tl, h.un, h.tx, h.mk, h.of, h.mr, ⟨?_, ?_, ?_⟩, ⟨?_, ?_, ?_, ?_, ?_, ?_⟩, h.rn, h.rm, ?_, h.qu, h.mq, h.on, h.mo, h.rw, h.ce, h.cr⟩
        · show c.bn + 1 ≤ 60
          omega
        · intro t ht
          have ht' : t < c.bn + 1 := ht
          show 0 ≤ (upd c.kinds c.bn k t).toInt ∧ (upd c.kinds c.bn k t).toInt < 6
          by_cases z : t = c.bn
          · subst z; rw [u_s]; omega
          · rw [u_n _ _ z]; exact h.bo.k t (by omega)
        · intro t ht
          have ht' : t < c.bn + 1 := ht
          show 0 ≤ (upd c.values c.bn v.toInt32 t).toInt ∧ (upd c.values c.bn v.toInt32 t).toInt ≤ 1000000
          by_cases z : t = c.bn
          · subst z; rw [u_s, hv]; omega
          · rw [u_n _ _ z]; exact h.bo.v t (by omega)
        · rfl
        · intro t ht
          have ht' : t < c.bn + 1 := ht
          show upd m.kinds c.bn k t = upd c.kinds c.bn k t
          by_cases z : t = c.bn
          · subst z; rw [u_s, u_s]
          · rw [u_n _ _ z, u_n _ _ z]; exact h.br.k t (by omega)
        · intro t ht
          have ht' : t < c.bn + 1 := ht
          show (vp_updL m.values c.bn v t).toInt = (upd c.values c.bn v.toInt32 t).toInt
          by_cases z : t = c.bn
          · subst z; rw [u_s, uL_s, hv]
          · rw [u_n _ _ z, uL_n _ _ z]; exact h.br.v t (by omega)
        · intro t ht
          have ht' : t < c.bn + 1 := ht
          show upd m.layers c.bn y t = upd c.layers c.bn y t
          by_cases z : t = c.bn
          · subst z; rw [u_s, u_s]
          · rw [u_n _ _ z, u_n _ _ z]; exact h.br.l t (by omega)
        · intro t ht
          have ht' : t < c.bn + 1 := ht
          show (vp_updL m.x c.bn 0 t).toInt = (upd c.xs c.bn 0 t).toInt
          by_cases z : t = c.bn
          · subst z; rw [u_s, uL_s]; rfl
          · rw [u_n _ _ z, uL_n _ _ z]; exact h.br.x t (by omega)
        · intro t ht
          have ht' : t < c.bn + 1 := ht
          show (vp_updL m.y c.bn 0 t).toInt = (upd c.ys c.bn 0 t).toInt
          by_cases z : t = c.bn
          · subst z; rw [u_s, uL_s]; rfl
          · rw [u_n _ _ z, uL_n _ _ z]; exact h.br.y t (by omega)
        · intro k hk
          obtain ⟨⟨t, ht, e⟩, h5, h6⟩ := h.rt k hk
          exact ⟨⟨t, Nat.lt_succ_of_lt ht, e⟩, h5, h6⟩
theorem bI_is {P : Prop} [Decidable P] : isB (.int (bI P)) := by
  by_cases h : P
  · rw [bI_t h]; exact Or.inr rfl
  · rw [bI_f h]; exact Or.inl rfl
theorem p_at (h : Rel c m pool Fs Qs) (t : Int32) (px py : Int64) : Pair m_ML_at m_Mo_at [.int t, .long px, .long py] c m pool isB (fun E => E < 2) (fun E => nI (E + 1)) := by
  have hC := fun L xs o u => r_at (L := L) (xs := xs) (c := c) (m := m) (o := o) (pool := pool) (u := u) t px py h.bo.n
  have hM := fun c' L xs o pool u => n_at (L := L) (xs := xs) (c := c') (m := m) (o := o) (pool := pool) (u := u) t px py (by rw [h.br.n]; exact h.bo.n)
  unfold sp_at at hC
  unfold mp_at at hM
  rw [h.br.n] at hM
  by_cases h1 : ¬ (0 ≤ t.toInt ∧ t.toInt < c.bn)
  · simp only [if_pos h1] at hC hM
    exact pair_r 0 _ _ (by decide) (Or.inl rfl) hC (hM c) rfl (h.thr 1)
  · simp only [if_neg h1] at hC hM
    by_cases h2 : ¬ (-1000000 ≤ px.toInt ∧ px.toInt ≤ 1000000 ∧ -1000000 ≤ py.toInt ∧ py.toInt ≤ 1000000)
    · simp only [if_pos h2] at hC hM
      exact pair_r 1 _ _ (by decide) (Or.inl rfl) hC (hM c) rfl (h.thr 2)
    · simp only [if_neg h2] at hC hM
      have hx : px.toInt32.toInt = px.toInt := q_l2i' (by omega) (by omega)
      have hy : py.toInt32.toInt = py.toInt := q_l2i' (by omega) (by omega)
      have htn : t.toInt.toNat < c.bn := by omega
      generalize t.toInt.toNat = n at htn hC hM
      have e1 : c.xs n = px.toInt32 ↔ m.x n = px := by rw [q_eq, q_eqL, hx, h.br.x n htn]
      have e2 : c.ys n = py.toInt32 ↔ m.y n = py := by rw [q_eq, q_eqL, hy, h.br.y n htn]
      by_cases h3 : m.x n = px ∧ m.y n = py
      · simp only [if_pos h3] at hM
        have e3 : bI (¬ (c.xs n = px.toInt32 ∧ c.ys n = py.toInt32)) = Int32.ofInt 0 := bI_f (fun z => z ⟨e1.mpr h3.1, e2.mpr h3.2⟩)
        simp only [e3] at hC
        refine pair_l _ _ _ (Or.inl rfl) hC (hM _) rfl (Fs' := Fs) (Qs' := Qs) ⟨h.tl, h.un, h.tx, h.mk, h.of, h.mr, h.bo, ⟨h.br.n, h.br.k, h.br.v, h.br.l, ?_, ?_⟩, h.rn, h.rm, h.rt, h.qu, h.mq, h.on, h.mo, h.rw, h.ce, h.cr⟩
        · intro j hj
          show (m.x j).toInt = (upd c.xs n px.toInt32 j).toInt
          by_cases z : j = n
          · subst z; rw [u_s, hx, h3.1]
          · rw [u_n _ _ z]; exact h.br.x j hj
        · intro j hj
          show (m.y j).toInt = (upd c.ys n py.toInt32 j).toInt
          by_cases z : j = n
          · subst z; rw [u_s, hy, h3.2]
          · rw [u_n _ _ z]; exact h.br.y j hj
      · simp only [if_neg h3] at hM
        have e3 : bI (¬ (c.xs n = px.toInt32 ∧ c.ys n = py.toInt32)) = Int32.ofInt 1 := bI_t (P := ¬ (c.xs n = px.toInt32 ∧ c.ys n = py.toInt32)) (fun z => h3 ⟨e1.mp z.1, e2.mp z.2⟩)
        simp only [e3] at hC
        refine pair_l _ _ _ (Or.inr rfl) hC (hM _) rfl (Fs' := Fs) (Qs' := Qs) ⟨h.tl, h.un, h.tx, h.mk, h.of, h.mr, h.bo, ⟨h.br.n, h.br.k, h.br.v, h.br.l, ?_, ?_⟩, h.rn, h.rm, h.rt, h.qu, h.mq, h.on, h.mo, h.rw, h.ce, h.cr⟩
        · intro j hj
          show (vp_updL m.x n px j).toInt = (upd c.xs n px.toInt32 j).toInt
          by_cases z : j = n
          · subst z; rw [u_s, uL_s, hx]
          · rw [u_n _ _ z, uL_n _ _ z]; exact h.br.x j hj
        · intro j hj
          show (vp_updL m.y n py j).toInt = (upd c.ys n py.toInt32 j).toInt
          by_cases z : j = n
          · subst z; rw [u_s, uL_s, hy]
          · rw [u_n _ _ z, uL_n _ _ z]; exact h.br.y j hj
theorem q_toI {a : Int64} {b : Int32} (h : a.toInt = b.toInt) : a.toInt32 = b := by
  have := q_b b
  rw [q_eq, q_l2i, h]
  omega
theorem p_remark (h : Rel c m pool Fs Qs) (k w : Int32) : Pair m_ML_remark m_Mo_remark [.int k, .int w] c m pool isI (fun E => E = 0) (fun E => nI (E + 1)) := by
  have hC := fun L xs o u => r_remark (L := L) (xs := xs) (c := c) (m := m) (o := o) (pool := pool) (u := u) k w h.rn h.bo.n (fun k hk => (h.rt k hk).1)
  have hM := fun c' L xs o pool u => n_remark (L := L) (xs := xs) (c := c') (m := m) (o := o) (pool := pool) (u := u) k w (by rw [h.rm]; exact h.rn) (by rw [h.br.n]; exact h.bo.n) (fun k hk => by rw [h.rm] at hk; obtain ⟨⟨t, h1, h2⟩, h3, -⟩ := h.rt k hk; exact ⟨t, by rw [h.br.n]; exact h1, h3.trans h2⟩)
  unfold sp_remark at hC
  unfold mp_remark at hM
  rw [h.rm] at hM
  by_cases h1 : ¬ (0 ≤ w.toInt ∧ w.toInt < 6)
  · simp only [if_pos h1] at hC hM
    exact pair_r 0 _ _ rfl ⟨_, rfl⟩ hC (hM c) rfl (h.thr 1)
  · simp only [if_neg h1] at hC hM
    by_cases h2 : ¬ (0 ≤ k.toInt ∧ k.toInt < c.rn)
    · simp only [if_pos h2] at hC hM
      exact pair_l _ c _ ⟨_, rfl⟩ hC (hM c) rfl (h.thr 0)
    · simp only [if_neg h2] at hC hM
      have hkn : k.toInt.toNat < c.rn := by omega
      have hw6 : w.toInt.toNat < 6 := by omega
      generalize k.toInt.toNat = n at hkn hC hM
      generalize w.toInt.toNat = j at hw6 hC hM
      obtain ⟨⟨t, ht, e⟩, h5, h6⟩ := h.rt n hkn
      have ht2 : (nI t).toInt.toNat = t := by have := h.bo.n; rw [q_nI' (by omega)]; rfl
      have heq : mp_rmk m n j = sp_rmk c n j := by
        have hcase : j = 0 ∨ j = 1 ∨ j = 2 ∨ j = 3 ∨ j = 4 ∨ j = 5 := by omega
        rcases hcase with rfl | rfl | rfl | rfl | rfl | rfl
        · exact h5
        · show m.kinds (m.remarkOf n).toInt.toNat = c.kinds (c.rt n).toInt.toNat
          rw [h5, e, ht2]
          exact h.br.k t ht
        · exact q_toI h6
        · show m.layers (m.remarkOf n).toInt.toNat = c.layers (c.rt n).toInt.toNat
          rw [h5, e, ht2]
          exact h.br.l t ht
        · show (m.x (m.remarkOf n).toInt.toNat).toInt32 = c.xs (c.rt n).toInt.toNat
          rw [h5, e, ht2]
          exact q_toI (h.br.x t ht)
        · show (m.y (m.remarkOf n).toInt.toNat).toInt32 = c.ys (c.rt n).toInt.toNat
          rw [h5, e, ht2]
          exact q_toI (h.br.y t ht)
      rw [heq] at hM
      exact pair_l _ c _ ⟨_, rfl⟩ hC (hM c) rfl (h.thr 0)
theorem p_history (h : Rel c m pool Fs Qs) (k w : Int32) : Pair m_ML_history m_Mo_history [.int k, .int w] c m pool isI (fun E => E = 0) (fun E => nI (E + 1)) := by
  have hC := fun L xs o u => r_history (L := L) (xs := xs) (c := c) (m := m) (o := o) (pool := pool) (u := u) k w h.on
  have hM := fun c' L xs o pool u => n_history (L := L) (xs := xs) (c := c') (m := m) (o := o) (pool := pool) (u := u) k w (by rw [h.mo]; exact h.on)
  unfold sp_history at hC
  unfold mp_history at hM
  rw [h.mo] at hM
  by_cases h1 : ¬ (0 ≤ k.toInt ∧ k.toInt < c.on ∧ 0 ≤ w.toInt ∧ w.toInt < 7)
  · simp only [if_pos h1] at hC hM
    exact pair_r 0 _ _ rfl ⟨_, rfl⟩ hC (hM c) rfl (h.thr 1)
  · simp only [if_neg h1] at hC hM
    rw [q_toI (h.rw (7 * k.toInt.toNat + w.toInt.toNat) (by omega))] at hM
    exact pair_l _ c _ ⟨_, rfl⟩ hC (hM c) rfl (h.thr 0)
theorem p_share (h : Rel c m pool Fs Qs) (a q : Int64) (k : Int32) : Pair m_ML_share m_Mo_share [.long a, .long q, .int k] c m pool isL (fun E => E < 2) (fun E => nI (E + 1)) := by
  have hC := fun L xs o u => r_share (L := L) (xs := xs) (c := c) (m := m) (o := o) (pool := pool) (u := u) a q k
  have hM := fun c' L xs o pool u => n_share (L := L) (xs := xs) (c := c') (m := m) (o := o) (pool := pool) (u := u) a q k
  unfold sp_share at hC
  unfold mp_share at hM
  by_cases h1 : ¬ (1 ≤ q.toInt ∧ q.toInt ≤ 1000000 ∧ 0 ≤ a.toInt)
  · simp only [if_pos h1] at hC hM
    exact pair_r 1 _ _ (by decide) ⟨_, rfl⟩ hC (hM c) rfl (h.thr 2)
  · simp only [if_neg h1] at hC hM
    by_cases h2 : ¬ (0 ≤ k.toInt ∧ k.toInt < q.toInt)
    · simp only [if_pos h2] at hC hM
      exact pair_r 0 _ _ (by decide) ⟨_, rfl⟩ hC (hM c) rfl (h.thr 1)
    · simp only [if_neg h2] at hC hM
      exact pair_l _ c _ ⟨_, rfl⟩ hC (hM c) rfl (h.thr 0)
theorem p_copper (h : Rel c m pool Fs Qs) (l k : Int32) (a b : Int64) : Pair m_ML_copper m_Mo_copper [.int l, .int k, .long a, .long b] c m pool isB (fun E => E < 2) (fun E => nI (E + 1)) := by
  have hC := fun L xs o u => r_copper (L := L) (xs := xs) (c := c) (m := m) (o := o) (pool := pool) (u := u) l k a b
  have hM := fun c' L xs o pool u => n_copper (L := L) (xs := xs) (c := c') (m := m) (o := o) (pool := pool) (u := u) l k a b
  unfold sp_copper at hC
  unfold mp_copper at hM
  by_cases h1 : ¬ (0 ≤ l.toInt ∧ l.toInt < 8 ∧ 0 ≤ k.toInt ∧ k.toInt < 16)
  · simp only [if_pos h1] at hC hM
    exact pair_r 0 _ _ (by decide) (Or.inl rfl) hC (hM c) rfl (h.thr 1)
  · simp only [if_neg h1] at hC hM
    by_cases h2 : ¬ (1 ≤ b.toInt ∧ b.toInt ≤ 10 ∧ 0 ≤ a.toInt ∧ a.toInt ≤ b.toInt)
    · simp only [if_pos h2] at hC hM
      exact pair_r 1 _ _ (by decide) (Or.inl rfl) hC (hM c) rfl (h.thr 2)
    · simp only [if_neg h2] at hC hM
      have hx : a.toInt32.toInt = a.toInt := q_l2i' (by omega) (by omega)
      have hy : b.toInt32.toInt = b.toInt := q_l2i' (by omega) (by omega)
      have htn : 16 * l.toInt.toNat + k.toInt.toNat < 128 := by omega
      generalize 16 * l.toInt.toNat + k.toInt.toNat = n at htn hC hM
      have e1 : c.ab n = a.toInt32 ↔ m.above n = a := by rw [q_eq, q_eqL, hx, h.cr.a n htn]
      have e2 : c.be n = b.toInt32 ↔ m.below n = b := by rw [q_eq, q_eqL, hy, h.cr.b n htn]
      have e3 : bI (¬ (m.above n = a ∧ m.below n = b)) = bI (¬ (c.ab n = a.toInt32 ∧ c.be n = b.toInt32)) := bI_iff (by rw [e1, e2])
      simp only [e3] at hM
      refine pair_l _ _ _ bI_is hC (hM _) rfl (Fs' := Fs) (Qs' := Qs) ⟨h.tl, h.un, h.tx, h.mk, h.of, h.mr, h.bo, h.br, h.rn, h.rm, h.rt, h.qu, h.mq, h.on, h.mo, h.rw, ⟨?_, ?_⟩, ⟨?_, ?_⟩⟩
      · intro j hj
        show 0 ≤ (upd c.ab n a.toInt32 j).toInt ∧ (upd c.ab n a.toInt32 j).toInt ≤ 10
        by_cases z : j = n
        · subst z; rw [u_s, hx]; omega
        · rw [u_n _ _ z]; exact h.ce.a j hj
      · intro j hj
        show 1 ≤ (upd c.be n b.toInt32 j).toInt ∧ (upd c.be n b.toInt32 j).toInt ≤ 10
        by_cases z : j = n
        · subst z; rw [u_s, hy]; omega
        · rw [u_n _ _ z]; exact h.ce.b j hj
      · intro j hj
        show (vp_updL m.above n a j).toInt = (upd c.ab n a.toInt32 j).toInt
        by_cases z : j = n
        · subst z; rw [u_s, uL_s, hx]
        · rw [u_n _ _ z, uL_n _ _ z]; exact h.cr.a j hj
      · intro j hj
        show (vp_updL m.below n b j).toInt = (upd c.be n b.toInt32 j).toInt
        by_cases z : j = n
        · subst z; rw [u_s, uL_s, hy]
        · rw [u_n _ _ z, uL_n _ _ z]; exact h.cr.b j hj
theorem p_balance (h : Rel c m pool Fs Qs) (l k p : Int32) : Pair m_ML_balance m_Mo_balance [.int l, .int k, .int p] c m pool isL (fun E => E = 0) (fun E => nI (E + 1)) := by
  have hC := fun L xs o u => r_balance (L := L) (xs := xs) (c := c) (m := m) (o := o) (pool := pool) (u := u) h.ce l k p
  have hM := fun L xs o pool u => n_balance (L := L) (xs := xs) (c := c) (m := m) (o := o) (pool := pool) (u := u) h.ce h.cr l k p
  unfold sp_balance at hC
  unfold mp_balance at hM
  have e : (0 ≤ l.toInt ∧ l.toInt < 8 ∧ 0 ≤ k.toInt ∧ k.toInt < 16 ∧ (p = 0 ∨ p = 1)) ↔ (0 ≤ l.toInt ∧ l.toInt < 8 ∧ 0 ≤ k.toInt ∧ k.toInt < 16 ∧ 0 ≤ p.toInt ∧ p.toInt ≤ 1) := by
    have e0 : p = 0 ↔ p.toInt = 0 := q_eq
    have e1 : p = 1 ↔ p.toInt = 1 := q_eq
    rw [e0, e1]
    omega
  by_cases h1 : ¬ (0 ≤ l.toInt ∧ l.toInt < 8 ∧ 0 ≤ k.toInt ∧ k.toInt < 16 ∧ 0 ≤ p.toInt ∧ p.toInt ≤ 1)
  · simp only [if_pos h1] at hC
    simp only [if_pos (show ¬ (0 ≤ l.toInt ∧ l.toInt < 8 ∧ 0 ≤ k.toInt ∧ k.toInt < 16 ∧ (p = 0 ∨ p = 1)) from fun z => h1 (e.mp z))] at hM
    exact pair_r 0 _ _ rfl ⟨_, rfl⟩ hC hM rfl (h.thr 1)
  · simp only [if_neg h1] at hC
    simp only [if_neg (show ¬ ¬ (0 ≤ l.toInt ∧ l.toInt < 8 ∧ 0 ≤ k.toInt ∧ k.toInt < 16 ∧ (p = 0 ∨ p = 1)) from fun z => h1 (fun y => z (e.mpr y)))] at hM
    exact pair_l _ c _ ⟨_, rfl⟩ hC hM rfl (h.thr 0)
end P1
