/-! the reference's methods that look at nobody's offer -/
macro "pm" : tactic => `(tactic| first | (ir; rfl) | (refine w_lret rfl rfl ?_; rfl) | (exfalso; zo))
section MA
variable {L : Nat} {xs : Nat → Int32} {c : ax_St} {m : ax_Mo} {o : Nat → Int64} {pool : List (Option ax_C)} {u : Nat} {h : ax_H}
def ax_mout (L : Nat) (xs : Nat → Int32) (c : ax_St) (o : Nat → Int64) (pool : List (Option ax_C)) (u : Nat) (q : Value × ax_Mo) : ax_R := (.inl (some q.1), (ax_hp L xs c q.2 o pool, u))
theorem n_isLayer (x : Int32) : ax_run m_Mo_isLayer [.int x] h (.inl (some (.int (bI (0 ≤ x.toInt ∧ x.toInt < 8)))), h) := by
  startR M_Mo_isLayer
  go <;> ir <;> bt
theorem n_isPlace (x : Int64) : ax_run m_Mo_isPlace [.long x] h (.inl (some (.int (bI (-1000000 ≤ x.toInt ∧ x.toInt ≤ 1000000)))), h) := by
  startR M_Mo_isPlace
  go <;> ir <;> bt
theorem n_isQuantity (x : Int64) : ax_run m_Mo_isQuantity [.long x] h (.inl (some (.int (bI (1 ≤ x.toInt ∧ x.toInt ≤ 1000000)))), h) := by
  startR M_Mo_isQuantity
  go <;> ir <;> bt
theorem n_isCell (x y : Int32) : ax_run m_Mo_isCell [.int x, .int y] h (.inl (some (.int (bI (0 ≤ x.toInt ∧ x.toInt < 8 ∧ 0 ≤ y.toInt ∧ y.toInt < 16)))), h) := by
  startR M_Mo_isCell
  gg
  cS (n_isLayer x)
  go <;> ir <;> bt
theorem n_thrown : ax_run m_Mo_thrown [.ref 23] (ax_hp L xs c m o pool, u) (.inl (some (.int m.thrown)), (ax_hp L xs c m o pool, u)) := by
  startR M_Mo_thrown
  gg
  ir; rfl
def mp_empty (m : ax_Mo) : ax_Mo := { m with units := 0, makers := 0, things := 0, remarks := 0, quotes := 0, orders := 0, above := fun j => if j < 128 then 0 else m.above j, below := fun j => if j < 128 then 1 else m.below j }
theorem n_empty : ax_run m_Mo_empty [.ref 23] (ax_hp L xs c m o pool, u) (.inl none, (ax_hp L xs c (mp_empty m) o pool, u)) := by
  have lp : ∀ (d k : Nat), k + d = 128 → ax_wp ax_run M_Mo_empty (fun r' => r' = (.inl none, (ax_hp L xs c (mp_empty m) o pool, u))) 32 [(0, .ref 23), (1, .int (nI k))] [] (ax_hp L xs c { m with units := 0, makers := 0, things := 0, remarks := 0, quotes := 0, orders := 0, above := fun j => if j < k then 0 else m.above j, below := fun j => if j < k then 1 else m.below j } o pool, u) := by
    intro d
    induction d with
    | zero =>
      intro k hk
      have : k = 128 := by omega
      subst this
      go
      exact w_vret rfl rfl rfl
    | succ d ih =>
      intro k hk
      go
      · refine w_las rfl rfl rfl (by omega) (by decide) ?_
        gg
        refine w_las rfl rfl rfl (by omega) (by decide) ?_
        gto 32
        refine w_lv (l1 := [(0, .ref 23), (1, .int (nI (k + 1)))]) ?_ rfl ⟨rfl, rfl, trivial⟩
        have e1 : vp_updL (fun j => if j < k then 0 else m.above j) k (Int64.ofNat 0) = (fun j => if j < k + 1 then 0 else m.above j) := up_fill m.above 0 k
        have e2 : vp_updL (fun j => if j < k then 1 else m.below j) k (Int64.ofNat 1) = (fun j => if j < k + 1 then 1 else m.below j) := up_fill m.below 1 k
        have := ih (k + 1) (by omega)
        rw [← e1, ← e2] at this
        exact this
  startR M_Mo_empty
  gto 32
  refine w_lv (l1 := [(0, .ref 23), (1, .int (nI 0))]) ?_ rfl ⟨rfl, rfl, trivial⟩
  have e1 : (fun j => if j < 0 then (0 : Int64) else m.above j) = m.above := by funext j; rw [if_neg (by omega)]
  have e2 : (fun j => if j < 0 then (1 : Int64) else m.below j) = m.below := by funext j; rw [if_neg (by omega)]
  have := lp 128 0 (by omega)
  rw [e1, e2] at this
  exact this
theorem n_clear : ax_run m_Mo_clear [.ref 23] (ax_hp L xs c m o pool, u) (.inl none, (ax_hp L xs c (mp_empty { m with thrown := 0 }) o pool, u)) := by
  startR M_Mo_clear
  gg
  cV (n_empty (m := { m with thrown := 0 }))
  exact w_vret rfl rfl rfl
def mp_unit (m : ax_Mo) (x : Int32) : Value × ax_Mo := if x.toInt < 32 ∨ 126 < x.toInt ∨ m.units = 400 then (.int 0, { m with thrown := 0 }) else (.int 1, { m with thrown := 0, text := upd m.text m.units x, units := m.units + 1 })
theorem n_unit (x : Int32) (hn : m.units ≤ 400) : ax_run m_Mo_unit [.ref 23, .int x] (ax_hp L xs c m o pool, u) (ax_mout L xs c o pool u (mp_unit m x)) := by
  unfold mp_unit
  split
  · startR M_Mo_unit
    go <;> pm
  · startR M_Mo_unit
    go <;> try pm
    refine w_ias rfl rfl rfl (by omega) (by decide) ?_
    go <;> pm
def mp_thing (m : ax_Mo) (k : Int32) (v : Int64) (y : Int32) : Value × ax_Mo :=
  if ¬ (0 ≤ k.toInt ∧ k.toInt < 6 ∧ 0 ≤ y.toInt ∧ y.toInt < 8) then (.int 0, { m with thrown := 1 }) else if ¬ (0 ≤ v.toInt ∧ v.toInt ≤ 1000000) then (.int 0, { m with thrown := 2 }) else if m.things = 60 then (.int (-1), { m with thrown := 0 })
  else (.int (nI m.things), { m with thrown := 0, kinds := upd m.kinds m.things k, values := vp_updL m.values m.things v, layers := upd m.layers m.things y, x := vp_updL m.x m.things 0, y := vp_updL m.y m.things 0, things := m.things + 1 })
theorem n_thing (k : Int32) (v : Int64) (y : Int32) (hn : m.things ≤ 60) : ax_run m_Mo_thing [.ref 23, .int k, .long v, .int y] (ax_hp L xs c m o pool, u) (ax_mout L xs c o pool u (mp_thing m k v y)) := by
  unfold mp_thing
  split
  · startR M_Mo_thing
    go <;> try pm
    cS (n_isLayer y)
    go <;> pm
  · split
    · startR M_Mo_thing
      go <;> try pm
      cS (n_isLayer y)
      go <;> pm
    · split
      · startR M_Mo_thing
        go <;> try pm
        cS (n_isLayer y)
        go <;> pm
      · startR M_Mo_thing
        go <;> try pm
        cS (n_isLayer y)
        go <;> try pm
        refine w_ias rfl rfl rfl (by omega) (by decide) ?_
        gg
        refine w_las rfl rfl rfl (by omega) (by decide) ?_
        gg
        refine w_ias rfl rfl rfl (by omega) (by decide) ?_
        gg
        refine w_las rfl rfl rfl (by omega) (by decide) ?_
        gg
        refine w_las rfl rfl rfl (by omega) (by decide) ?_
        go <;> pm
def mp_at (m : ax_Mo) (t : Int32) (px py : Int64) : Value × ax_Mo :=
  if ¬ (0 ≤ t.toInt ∧ t.toInt < m.things) then (.int 0, { m with thrown := 1 }) else if ¬ (-1000000 ≤ px.toInt ∧ px.toInt ≤ 1000000 ∧ -1000000 ≤ py.toInt ∧ py.toInt ≤ 1000000) then (.int 0, { m with thrown := 2 })
  else if m.x t.toInt.toNat = px ∧ m.y t.toInt.toNat = py then (.int 0, { m with thrown := 0 }) else (.int 1, { m with thrown := 0, x := vp_updL m.x t.toInt.toNat px, y := vp_updL m.y t.toInt.toNat py })
theorem n_at (t : Int32) (px py : Int64) (hn : m.things ≤ 60) : ax_run m_Mo_at [.ref 23, .int t, .long px, .long py] (ax_hp L xs c m o pool, u) (ax_mout L xs c o pool u (mp_at m t px py)) := by
  unfold mp_at
  split
  · startR M_Mo_at
    go <;> pm
  · rename_i h1
    obtain ⟨n, rfl, hn1, hn2⟩ := q_nat (x := t) (by omega)
    rw [← hn1]
    show ax_run _ _ _ (ax_mout L xs c o pool u (if _ then _ else if m.x n = px ∧ m.y n = py then _ else (_, { m with thrown := 0, x := vp_updL m.x n px, y := vp_updL m.y n py })))
    split
    · startR M_Mo_at
      go <;> try pm
      cS (n_isPlace px)
      go <;> try pm
      cS (n_isPlace py)
      go <;> pm
    · rename_i h2
      startR M_Mo_at
      go <;> try pm
      cS (n_isPlace px)
      go <;> try pm
      cS (n_isPlace py)
      go <;> try pm
      refine w_la rfl rfl rfl (by omega) (by decide) ?_
      gg
      refine w_if1 rfl (fun h3 => ?_) (fun h3 => ?_)
      · have h4 : ¬ m.x n = px := fun z => h3 ((lg_cmp_eq _ _).mpr z)
        rw [if_neg (fun z => h4 z.1)]
        gg
        refine w_las rfl rfl rfl (by omega) (by decide) ?_
        gg
        refine w_las rfl rfl rfl (by omega) (by decide) ?_
        gg
        ir; rfl
      · have h4 : m.x n = px := (lg_cmp_eq _ _).mp (Decidable.not_not.mp h3)
        gg
        refine w_la rfl rfl rfl (by omega) (by decide) ?_
        gg
        refine w_if1 rfl (fun h5 => ?_) (fun h5 => ?_)
        · have h6 : ¬ m.y n = py := fun z => h5 ((lg_cmp_eq _ _).mpr z)
          rw [if_neg (fun z => h6 z.2)]
          gg
          refine w_las rfl rfl rfl (by omega) (by decide) ?_
          gg
          refine w_las rfl rfl rfl (by omega) (by decide) ?_
          gg
          ir; rfl
        · have h6 : m.y n = py := (lg_cmp_eq _ _).mp (Decidable.not_not.mp h5)
          rw [if_pos ⟨h4, h6⟩]
          gg
          ir; rfl
end MA
