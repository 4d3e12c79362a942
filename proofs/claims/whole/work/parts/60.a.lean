/-! the class's methods that look at nobody's offer -/
section CA
variable {L : Nat} {xs : Nat → Int32} {c : ax_St} {m : ax_Mo} {o : Nat → Int64} {pool : List (Option ax_C)} {u : Nat} {h : ax_H}
theorem r_noLayer (x : Int32) : ax_run m_ML_isNoLayer [.int x] h (.inl (some (.int (bI (¬ (0 ≤ x.toInt ∧ x.toInt < 8))))), h) := by
  startR M_ML_isNoLayer
  gg; br <;> gg
  · ir; bt
  · br <;> gg <;> ir <;> bt
theorem r_noCell (x : Int32) : ax_run m_Ce_isNoCell [.int x] h (.inl (some (.int (bI (¬ (0 ≤ x.toInt ∧ x.toInt < 16))))), h) := by
  startR M_Ce_isNoCell
  gg; br <;> gg
  · ir; bt
  · br <;> gg <;> ir <;> bt
theorem r_Bd_hasNo (x : Int32) (hn : c.bn ≤ 60) : ax_run m_Bd_hasNo [.ref 5, .int x] (ax_hp L xs c m o pool, u) (.inl (some (.int (bI (¬ (0 ≤ x.toInt ∧ x.toInt < c.bn))))), (ax_hp L xs c m o pool, u)) := by
  startR M_Bd_hasNo
  gg; br <;> gg
  · ir; bt
  · br <;> gg <;> ir <;> bt
theorem r_Or_hasNo (x : Int32) (hn : c.on ≤ 20) : ax_run m_Or_hasNo [.ref 18, .int x] (ax_hp L xs c m o pool, u) (.inl (some (.int (bI (¬ (0 ≤ x.toInt ∧ x.toInt < c.on))))), (ax_hp L xs c m o pool, u)) := by
  startR M_Or_hasNo
  gg; br <;> gg
  · ir; bt
  · br <;> gg <;> ir <;> bt
theorem r_Tx_add0 (x : Int32) (hn : c.tl ≤ 400) (hx : x.toInt < 32 ∨ 126 < x.toInt ∨ c.tl = 400) : ax_run m_Tx_add [.ref 2, .int x] (ax_hp L xs c m o pool, u) (.inl (some (.int 0)), (ax_hp L xs c m o pool, u)) := by
  startR M_Tx_add
  gg; br <;> gg
  · ir; rfl
  · br <;> gg
    · ir; rfl
    · br <;> gg
      · exfalso; zo
      · ir; rfl
theorem r_Tx_add1 (x : Int32) (hn : c.tl < 400) (h1 : 32 ≤ x.toInt) (h2 : x.toInt ≤ 126) : ax_run m_Tx_add [.ref 2, .int x] (ax_hp L xs c m o pool, u) (.inl (some (.int 1)), (ax_hp L xs { c with ch := upd c.ch c.tl x, tl := c.tl + 1 } m o pool, u)) := by
  startR M_Tx_add
  gg; br <;> gg
  · exfalso; zo
  · br <;> gg
    · exfalso; zo
    · br <;> gg
      · refine w_cas rfl rfl rfl hn (by decide) (q_char (by omega) (by omega)) ?_
        gg
        ir
        rfl
      · exfalso; zo
theorem r_unit (x : Int32) (hn : c.tl ≤ 400) : ax_run m_ML_unit [.ref 1, .int x] (ax_hp L xs c m o pool, u)
    (if x.toInt < 32 ∨ 126 < x.toInt ∨ c.tl = 400 then (.inl (some (.int 0)), (ax_hp L xs c m o pool, u)) else (.inl (some (.int 1)), (ax_hp L xs { c with ch := upd c.ch c.tl x, tl := c.tl + 1 } m o pool, u))) := by
  startR M_ML_unit
  gg
  by_cases hx : x.toInt < 32 ∨ 126 < x.toInt ∨ c.tl = 400
  · rw [if_pos hx]
    cV (r_Tx_add0 x hn hx)
    ir; rfl
  · rw [if_neg hx]
    cV (r_Tx_add1 x (by omega) (by omega) (by omega))
    ir; rfl
theorem r_Bd_add0 (k v y : Int32) (hn : c.bn = 60) : ax_run m_Bd_add [.ref 5, .int k, .int v, .int y] (ax_hp L xs c m o pool, u) (.inl (some (.int (-1))), (ax_hp L xs c m o pool, u)) := by
  startR M_Bd_add
  gg; br <;> gg
  · exfalso; zo
  · ir; rfl
theorem r_Bd_add1 (k v y : Int32) (hn : c.bn < 60) : ax_run m_Bd_add [.ref 5, .int k, .int v, .int y] (ax_hp L xs c m o pool, u) (.inl (some (.int (nI c.bn))), (ax_hp L xs { c with kinds := upd c.kinds c.bn k, values := upd c.values c.bn v, layers := upd c.layers c.bn y, xs := upd c.xs c.bn 0, ys := upd c.ys c.bn 0, bn := c.bn + 1 } m o pool, u)) := by
  startR M_Bd_add
  gg; br <;> gg
  · refine w_ias rfl rfl rfl hn (by decide) ?_
    gg
    refine w_ias rfl rfl rfl hn (by decide) ?_
    gg
    refine w_ias rfl rfl rfl hn (by decide) ?_
    gg
    refine w_ias rfl rfl rfl hn (by decide) ?_
    gg
    refine w_ias rfl rfl rfl hn (by decide) ?_
    gg
    ir
    rfl
  · exfalso; zo
end CA
