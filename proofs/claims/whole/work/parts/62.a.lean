section CB
variable {L : Nat} {xs : Nat → Int32} {c : ax_St} {m : ax_Mo} {o : Nat → Int64} {pool : List (Option ax_C)} {u : Nat} {h : ax_H}
theorem r_thingOf0 (k : Int32) (hn : c.rn ≤ 60) (hk : ¬ (0 ≤ k.toInt ∧ k.toInt < c.rn)) : ax_run m_Re_thingOf [.ref 11, .int k] (ax_hp L xs c m o pool, u) (.inl (some (.int (-1))), (ax_hp L xs c m o pool, u)) := by
  startR M_Re_thingOf
  go <;> (ir; rfl)
theorem r_thingOf1 (k : Nat) (hn : c.rn ≤ 60) (hk : k < c.rn) : ax_run m_Re_thingOf [.ref 11, .int (nI k)] (ax_hp L xs c m o pool, u) (.inl (some (.int (c.rt k))), (ax_hp L xs c m o pool, u)) := by
  startR M_Re_thingOf
  go <;> try pr
  refine w_ia rfl rfl rfl (by omega) (by decide) ?_
  ir; rfl
theorem r_excessOf1 (k : Nat) (hn : c.rn ≤ 60) (hk : k < c.rn) : ax_run m_Re_excessOf [.ref 11, .int (nI k)] (ax_hp L xs c m o pool, u) (.inl (some (.int (c.re k))), (ax_hp L xs c m o pool, u)) := by
  startR M_Re_excessOf
  go <;> try pr
  refine w_ia rfl rfl rfl (by omega) (by decide) ?_
  ir; rfl
def sp_part (c : ax_St) (t w : Nat) : Int32 := match w with
  | 1 => c.kinds t
  | 3 => c.layers t
  | 4 => c.xs t
  | _ => c.ys t
theorem r_Bd_part (t w : Nat) (hn : c.bn ≤ 60) (ht : t < c.bn) (hw : w = 1 ∨ w = 3 ∨ w = 4 ∨ w = 5) : ax_run m_Bd_part [.ref 5, .int (nI t), .int (nI w)] (ax_hp L xs c m o pool, u) (.inl (some (.int (sp_part c t w))), (ax_hp L xs c m o pool, u)) := by
  startR M_Bd_part
  gg
  cV (r_Bd_hasNo (nI t) hn)
  go <;> try pr
  rcases hw with rfl | rfl | rfl | rfl
  · refine w_tsw rfl rfl ?_
    gg
    refine w_ia rfl rfl rfl (by omega) (by decide) ?_
    ir; rfl
  · refine w_tsw rfl rfl ?_
    gg
    refine w_ia rfl rfl rfl (by omega) (by decide) ?_
    ir; rfl
  · refine w_tsw rfl rfl ?_
    gg
    refine w_ia rfl rfl rfl (by omega) (by decide) ?_
    ir; rfl
  · refine w_tsw rfl rfl ?_
    gg
    refine w_ia rfl rfl rfl (by omega) (by decide) ?_
    ir; rfl
def sp_rmk (c : ax_St) (k w : Nat) : Int32 := match w with
  | 0 => c.rt k
  | 2 => c.re k
  | w => sp_part c (c.rt k).toInt.toNat w
def sp_remark (c : ax_St) (k w : Int32) : ax_SR :=
  if ¬ (0 ≤ w.toInt ∧ w.toInt < 6) then .inr 0 else if ¬ (0 ≤ k.toInt ∧ k.toInt < c.rn) then .inl (.int (-1), c) else .inl (.int (sp_rmk c k.toInt.toNat w.toInt.toNat), c)
theorem r_remark (k w : Int32) (hn : c.rn ≤ 60) (hb : c.bn ≤ 60) (hr : ∀ k, k < c.rn → ∃ t, t < c.bn ∧ c.rt k = nI t) : ax_run m_ML_remark [.ref 1, .int k, .int w] (ax_hp L xs c m o pool, u) (ax_out L xs m o pool u c (sp_remark c k w)) := by
  unfold sp_remark
  split
  · startR M_ML_remark
    go <;> pr
  · split
    · startR M_ML_remark
      go <;> try pr
      cV (r_thingOf0 k hn (by assumption))
      go <;> try pr
      ir; rfl
    · rename_i h1 h2
      obtain ⟨j, rfl, hj1, hj2⟩ := q_nat (x := k) (by omega)
      obtain ⟨v, rfl, hv1, hv2⟩ := q_nat (x := w) (by omega)
      obtain ⟨t, ht1, ht2⟩ := hr j (by omega)
      rw [← hj1, ← hv1]
      startR M_ML_remark
      go <;> try pr
      cV (r_thingOf1 j hn (by omega))
      rw [ht2]
      go <;> try pr
      have hv : v = 0 ∨ v = 1 ∨ v = 2 ∨ v = 3 ∨ v = 4 ∨ v = 5 := by omega
      have htt : (nI t).toInt.toNat = t := by rw [nI_toInt (by omega)]; rfl
      rcases hv with rfl | rfl | rfl | rfl | rfl | rfl
      · refine w_lsw rfl rfl ?_
        gg
        ir
        show _ = (Sum.inl (some (Value.int (c.rt j))), _)
        rw [ht2]
        try rfl
      · refine w_lsw rfl rfl ?_
        gg
        cV (r_Bd_part t 1 hb ht1 (by decide))
        ir
        show _ = (Sum.inl (some (Value.int (sp_part c (c.rt j).toInt.toNat 1))), _)
        rw [ht2, htt]
        try rfl
      · refine w_lsw rfl rfl ?_
        gg
        cV (r_excessOf1 j hn (by omega))
        ir
        rfl
      · refine w_lsw rfl rfl ?_
        gg
        cV (r_Bd_part t 3 hb ht1 (by decide))
        ir
        show _ = (Sum.inl (some (Value.int (sp_part c (c.rt j).toInt.toNat 3))), _)
        rw [ht2, htt]
        try rfl
      · refine w_lsw rfl rfl ?_
        gg
        cV (r_Bd_part t 4 hb ht1 (by decide))
        ir
        show _ = (Sum.inl (some (Value.int (sp_part c (c.rt j).toInt.toNat 4))), _)
        rw [ht2, htt]
        try rfl
      · refine w_lsw rfl rfl ?_
        gg
        cV (r_Bd_part t 5 hb ht1 (by decide))
        ir
        show _ = (Sum.inl (some (Value.int (sp_part c (c.rt j).toInt.toNat 5))), _)
        rw [ht2, htt]
        try rfl
def sp_history (c : ax_St) (k w : Int32) : ax_SR :=
  if ¬ (0 ≤ k.toInt ∧ k.toInt < c.on ∧ 0 ≤ w.toInt ∧ w.toInt < 7) then .inr 0 else .inl (.int (c.parts (7 * k.toInt.toNat + w.toInt.toNat)), c)
theorem r_Or_part (k w : Nat) (hn : c.on ≤ 20) (hk : k < c.on) (hw : w < 7) : ax_run m_Or_part [.ref 18, .int (nI k), .int (nI w)] (ax_hp L xs c m o pool, u) (.inl (some (.int (c.parts (7 * k + w)))), (ax_hp L xs c m o pool, u)) := by
  startR M_Or_part
  gg
  cV (r_Or_hasNo (nI k) hn)
  go <;> try pr
  refine w_ia (j := 7 * k + w) rfl rfl (by zo) (by omega) (by decide) ?_
  ir; rfl
theorem r_history (k w : Int32) (hn : c.on ≤ 20) : ax_run m_ML_history [.ref 1, .int k, .int w] (ax_hp L xs c m o pool, u) (ax_out L xs m o pool u c (sp_history c k w)) := by
  unfold sp_history
  split
  · startR M_ML_history
    gg
    cV (r_Or_hasNo k hn)
    go <;> pr
  · rename_i h1
    obtain ⟨j, rfl, hj1, hj2⟩ := q_nat (x := k) (by omega)
    obtain ⟨v, rfl, hv1, hv2⟩ := q_nat (x := w) (by omega)
    rw [← hj1, ← hv1]
    startR M_ML_history
    gg
    cV (r_Or_hasNo (nI j) hn)
    go <;> try pr
    cV (r_Or_part j v hn (by omega) (by omega))
    ir; rfl
end CB
