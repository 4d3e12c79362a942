section CC
variable {L : Nat} {xs : Nat → Int32} {c : ax_St} {m : ax_Mo} {o : Nat → Int64} {pool : List (Option ax_C)} {u : Nat} {h : ax_H}
def sp_share (c : ax_St) (a q : Int64) (k : Int32) : ax_SR :=
  if ¬ (1 ≤ q.toInt ∧ q.toInt ≤ 1000000 ∧ 0 ≤ a.toInt) then .inr 1 else if ¬ (0 ≤ k.toInt ∧ k.toInt < q.toInt) then .inr 0 else .inl (.long (a / q + (if k.toInt < (a - a / q * q).toInt then 1 else 0)), c)
theorem r_share (a q : Int64) (k : Int32) : ax_run m_ML_share [.ref 1, .long a, .long q, .int k] (ax_hp L xs c m o pool, u) (ax_out L xs m o pool u c (sp_share c a q k)) := by
  unfold sp_share
  split
  · startR M_ML_share
    go <;> try pr
    all_goals (exfalso; zo)
  · split
    · startR M_ML_share
      go <;> try pr
      all_goals (exfalso; zo)
    · startR M_ML_share
      go <;> try pr
      refine w_lrem rfl (by zo) ?_
      gg
      refine w_ldiv rfl (by zo) ?_
      gg
      refine w_if1 rfl (fun h1 => ?_) (fun h1 => ?_)
      · gg
        refine w_lret rfl rfl ?_
        rw [if_neg (by have h2 := (lg_cmp_ge _ _).mp h1; rw [Int64.le_iff_toInt_le, q_i2l] at h2; omega)]
        rfl
      · gg
        refine w_lret rfl rfl ?_
        rw [if_pos (by have h2 : ¬ (a - a / q * q ≤ k.toInt64) := fun z => h1 ((lg_cmp_ge _ _).mpr z); rw [Int64.le_iff_toInt_le, q_i2l] at h2; omega)]
        rfl
def sp_copper (c : ax_St) (l k : Int32) (a b : Int64) : ax_SR :=
  if ¬ (0 ≤ l.toInt ∧ l.toInt < 8 ∧ 0 ≤ k.toInt ∧ k.toInt < 16) then .inr 0 else if ¬ (1 ≤ b.toInt ∧ b.toInt ≤ 10 ∧ 0 ≤ a.toInt ∧ a.toInt ≤ b.toInt) then .inr 1
  else .inl (.int (bI (¬ (c.ab (16 * l.toInt.toNat + k.toInt.toNat) = a.toInt32 ∧ c.be (16 * l.toInt.toNat + k.toInt.toNat) = b.toInt32))), { c with ab := upd c.ab (16 * l.toInt.toNat + k.toInt.toNat) a.toInt32, be := upd c.be (16 * l.toInt.toNat + k.toInt.toNat) b.toInt32 })
theorem r_Ce_tell (l k : Nat) (x y : Int32) (hl : l < 8) (hk : k < 16) : ax_run m_Ce_tell [.ref 20, .int (nI l), .int (nI k), .int x, .int y] (ax_hp L xs c m o pool, u) (.inl (some (.int (bI (¬ (c.ab (16 * l + k) = x ∧ c.be (16 * l + k) = y))))), (ax_hp L xs { c with ab := upd c.ab (16 * l + k) x, be := upd c.be (16 * l + k) y } m o pool, u)) := by
  startR M_Ce_tell
  gg
  cS (r_noLayer (nI l))
  go <;> try pr
  cS (r_noCell (nI k))
  gto 11
  br
  · gto 22
    refine w_eqI (y := nI (16 * l + k)) (by zo) ?_
    gg
    refine w_ia rfl rfl rfl (by omega) (by decide) ?_
    have fin : ∀ (b : Int32), b = bI (¬ (c.ab (16 * l + k) = x ∧ c.be (16 * l + k) = y)) → ax_wp ax_run M_Ce_tell (fun r' => r' = (.inl (some (.int (bI (¬ (c.ab (16 * l + k) = x ∧ c.be (16 * l + k) = y))))), (ax_hp L xs { c with ab := upd c.ab (16 * l + k) x, be := upd c.be (16 * l + k) y } m o pool, u))) 54 [(6, .int b), (0, .ref 20), (5, .int (nI (16 * l + k))), (3, .int x), (4, .int y)] [] (ax_hp L xs c m o pool, u) := by
      intro b hb
      gg
      refine w_ias rfl rfl rfl (by omega) (by decide) ?_
      gg
      refine w_ias rfl rfl rfl (by omega) (by decide) ?_
      gg
      refine w_iret rfl rfl (by rw [hb]; exact bI_nar) ?_
      rw [hb]
      rfl
    gg
    refine w_if2 rfl (fun h1 => ?_) (fun h1 => ?_)
    · gto 54
      exact w_lv (fin (Int32.ofInt 1) (bI_t (P := ¬ (c.ab (16 * l + k) = x ∧ c.be (16 * l + k) = y)) (fun z => h1 z.1)).symm) rfl ⟨rfl, rfl, rfl, rfl, rfl, trivial⟩
    · gg
      refine w_ia rfl rfl rfl (by omega) (by decide) ?_
      gg
      refine w_if2 rfl (fun h2 => ?_) (fun h2 => ?_)
      · gto 54
        exact w_lv (fin (Int32.ofInt 0) (bI_f (fun z => z ⟨Decidable.not_not.mp h1, h2⟩)).symm) rfl ⟨rfl, rfl, rfl, rfl, rfl, trivial⟩
      · gto 54
        exact w_lv (fin (Int32.ofInt 1) (bI_t (P := ¬ (c.ab (16 * l + k) = x ∧ c.be (16 * l + k) = y)) (fun z => h2 z.2)).symm) rfl ⟨rfl, rfl, rfl, rfl, rfl, trivial⟩
  · exfalso; zo
theorem r_copper (l k : Int32) (a b : Int64) : ax_run m_ML_copper [.ref 1, .int l, .int k, .long a, .long b] (ax_hp L xs c m o pool, u) (ax_out L xs m o pool u c (sp_copper c l k a b)) := by
  unfold sp_copper
  split
  · startR M_ML_copper
    gg
    cS (r_noLayer l)
    go <;> try pr
    cS (r_noCell k)
    go <;> pr
  · split
    · startR M_ML_copper
      gg
      cS (r_noLayer l)
      go <;> try pr
      cS (r_noCell k)
      go <;> pr
    · rename_i h1 h2
      obtain ⟨j, rfl, hj1, hj2⟩ := q_nat (x := l) (by omega)
      obtain ⟨v, rfl, hv1, hv2⟩ := q_nat (x := k) (by omega)
      rw [← hj1, ← hv1]
      startR M_ML_copper
      gg
      cS (r_noLayer (nI j))
      go <;> try pr
      cS (r_noCell (nI v))
      go <;> try pr
      cV (r_Ce_tell j v a.toInt32 b.toInt32 (by omega) (by omega))
      refine w_iret rfl rfl bI_nar ?_
      rfl
end CC
