/-! an end of a call of the class: an answer and a state, or a throw -/
abbrev ax_SR : Type := (Value × ax_St) ⊕ Nat
def ax_out (L : Nat) (xs : Nat → Int32) (m : ax_Mo) (o : Nat → Int64) (pool : List (Option ax_C)) (u : Nat) (c : ax_St) : ax_SR → ax_R
  | .inl q => (.inl (some q.1), (ax_hp L xs q.2 m o pool, u))
  | .inr E => (.inr E, (ax_hp L xs c m o (pool ++ [none]), u + 6))
section CA
variable {L : Nat} {xs : Nat → Int32} {c : ax_St} {m : ax_Mo} {o : Nat → Int64} {pool : List (Option ax_C)} {u : Nat} {h : ax_H}
def sp_thing (c : ax_St) (k : Int32) (v : Int64) (y : Int32) : ax_SR :=
  if ¬ (0 ≤ k.toInt ∧ k.toInt < 6 ∧ 0 ≤ y.toInt ∧ y.toInt < 8) then .inr 0 else if ¬ (0 ≤ v.toInt ∧ v.toInt ≤ 1000000) then .inr 1 else if c.bn = 60 then .inl (.int (-1), c)
  else .inl (.int (nI c.bn), { c with kinds := upd c.kinds c.bn k, values := upd c.values c.bn v.toInt32, layers := upd c.layers c.bn y, xs := upd c.xs c.bn 0, ys := upd c.ys c.bn 0, bn := c.bn + 1 })
theorem r_thing (k : Int32) (v : Int64) (y : Int32) (hn : c.bn ≤ 60) : ax_run m_ML_thing [.ref 1, .int k, .long v, .int y] (ax_hp L xs c m o pool, u) (ax_out L xs m o pool u c (sp_thing c k v y)) := by
  unfold sp_thing
  split
  · startR M_ML_thing
    go <;> try pr
    cS (r_noLayer y)
    go <;> pr
  · split
    · startR M_ML_thing
      go <;> try pr
      cS (r_noLayer y)
      go <;> pr
    · startR M_ML_thing
      go <;> try pr
      cS (r_noLayer y)
      go <;> try pr
      split
      · cV (r_Bd_add0 k v.toInt32 y (by assumption))
        ir; rfl
      · cV (r_Bd_add1 k v.toInt32 y (by omega))
        ir; rfl
def sp_at (c : ax_St) (t : Int32) (px py : Int64) : ax_SR :=
  if ¬ (0 ≤ t.toInt ∧ t.toInt < c.bn) then .inr 0 else if ¬ (-1000000 ≤ px.toInt ∧ px.toInt ≤ 1000000 ∧ -1000000 ≤ py.toInt ∧ py.toInt ≤ 1000000) then .inr 1
  else .inl (.int (bI (¬ (c.xs t.toInt.toNat = px.toInt32 ∧ c.ys t.toInt.toNat = py.toInt32))), { c with xs := upd c.xs t.toInt.toNat px.toInt32, ys := upd c.ys t.toInt.toNat py.toInt32 })
theorem r_Bd_move (t : Nat) (x y : Int32) (hn : c.bn ≤ 60) (ht : t < c.bn) : ax_run m_Bd_move [.ref 5, .int (nI t), .int x, .int y] (ax_hp L xs c m o pool, u) (.inl (some (.int (bI (¬ (c.xs t = x ∧ c.ys t = y))))), (ax_hp L xs { c with xs := upd c.xs t x, ys := upd c.ys t y } m o pool, u)) := by
  startR M_Bd_move
  gg
  cV (r_Bd_hasNo (nI t) hn)
  go <;> try pr
  refine w_ia rfl rfl rfl (by omega) (by decide) ?_
  have fin : ∀ (b : Int32), b = bI (¬ (c.xs t = x ∧ c.ys t = y)) → ax_wp ax_run M_Bd_move (fun r' => r' = (.inl (some (.int (bI (¬ (c.xs t = x ∧ c.ys t = y))))), (ax_hp L xs { c with xs := upd c.xs t x, ys := upd c.ys t y } m o pool, u))) 37 [(4, .int b), (0, .ref 5), (1, .int (nI t)), (2, .int x), (3, .int y)] [] (ax_hp L xs c m o pool, u) := by
    intro b hb
    gg
    refine w_ias rfl rfl rfl (by omega) (by decide) ?_
    gg
    refine w_ias rfl rfl rfl (by omega) (by decide) ?_
    gg
    refine w_iret rfl rfl (by rw [hb]; exact bI_nar) ?_
    rw [hb]
    rfl
  gg
  refine w_if2 rfl (fun h1 => ?_) (fun h1 => ?_)
  · gto 37
    exact w_lv (fin (Int32.ofInt 1) (bI_t (P := ¬ (c.xs t = x ∧ c.ys t = y)) (fun z => h1 z.1)).symm) rfl ⟨rfl, rfl, rfl, rfl, rfl, trivial⟩
  · gg
    refine w_ia rfl rfl rfl (by omega) (by decide) ?_
    gg
    refine w_if2 rfl (fun h2 => ?_) (fun h2 => ?_)
    · gto 37
      exact w_lv (fin (Int32.ofInt 0) (bI_f (fun z => z ⟨Decidable.not_not.mp h1, h2⟩)).symm) rfl ⟨rfl, rfl, rfl, rfl, rfl, trivial⟩
    · gto 37
      exact w_lv (fin (Int32.ofInt 1) (bI_t (P := ¬ (c.xs t = x ∧ c.ys t = y)) (fun z => h2 z.2)).symm) rfl ⟨rfl, rfl, rfl, rfl, rfl, trivial⟩
theorem r_at (t : Int32) (px py : Int64) (hn : c.bn ≤ 60) : ax_run m_ML_at [.ref 1, .int t, .long px, .long py] (ax_hp L xs c m o pool, u) (ax_out L xs m o pool u c (sp_at c t px py)) := by
  unfold sp_at
  split
  · startR M_ML_at
    gg
    cV (r_Bd_hasNo t hn)
    go <;> pr
  · split
    · startR M_ML_at
      gg
      cV (r_Bd_hasNo t hn)
      go <;> pr
    · rename_i h1 h2
      obtain ⟨n, rfl, hn1, hn2⟩ := q_nat (x := t) (by omega)
      startR M_ML_at
      gg
      cV (r_Bd_hasNo (nI n) hn)
      go <;> try pr
      cV (r_Bd_move n px.toInt32 py.toInt32 hn (by omega))
      refine w_iret rfl rfl bI_nar ?_
      rw [← hn1]
      rfl
end CA
