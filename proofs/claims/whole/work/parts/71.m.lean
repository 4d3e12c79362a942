section MB
variable {L : Nat} {xs : Nat → Int32} {c : ax_St} {m : ax_Mo} {o : Nat → Int64} {pool : List (Option ax_C)} {u : Nat} {h : ax_H}
def mp_rmk (m : ax_Mo) (k w : Nat) : Int32 := match w with
  | 0 => m.remarkOf k
  | 1 => m.kinds (m.remarkOf k).toInt.toNat
  | 2 => (m.excess k).toInt32
  | 3 => m.layers (m.remarkOf k).toInt.toNat
  | 4 => (m.x (m.remarkOf k).toInt.toNat).toInt32
  | _ => (m.y (m.remarkOf k).toInt.toNat).toInt32
def mp_remark (m : ax_Mo) (k w : Int32) : Value × ax_Mo :=
  if ¬ (0 ≤ w.toInt ∧ w.toInt < 6) then (.int 0, { m with thrown := 1 }) else if ¬ (0 ≤ k.toInt ∧ k.toInt < m.remarks) then (.int (-1), { m with thrown := 0 }) else (.int (mp_rmk m k.toInt.toNat w.toInt.toNat), { m with thrown := 0 })
theorem n_remark (k w : Int32) (hn : m.remarks ≤ 60) (hb : m.things ≤ 60) (hr : ∀ k, k < m.remarks → ∃ t, t < m.things ∧ m.remarkOf k = nI t) : ax_run m_Mo_remark [.ref 23, .int k, .int w] (ax_hp L xs c m o pool, u) (ax_mout L xs c o pool u (mp_remark m k w)) := by
  unfold mp_remark
  split
  · startR M_Mo_remark
    go <;> pm
  · split
    · startR M_Mo_remark
      go <;> pm
    · rename_i h1 h2
      obtain ⟨j, rfl, hj1, hj2⟩ := q_nat (x := k) (by omega)
      obtain ⟨v, rfl, hv1, hv2⟩ := q_nat (x := w) (by omega)
      obtain ⟨t, ht1, ht2⟩ := hr j (by omega)
      have htt : (nI t).toInt.toNat = t := by rw [nI_toInt (by omega)]; rfl
      rw [← hj1, ← hv1]
      startR M_Mo_remark
      go <;> try pm
      refine w_ia rfl rfl rfl (by omega) (by decide) ?_
      rw [ht2]
      gg
      have hv : v = 0 ∨ v = 1 ∨ v = 2 ∨ v = 3 ∨ v = 4 ∨ v = 5 := by omega
      rcases hv with rfl | rfl | rfl | rfl | rfl | rfl
      · refine w_tsw rfl rfl ?_
        gg
        ir
        show _ = ax_mout _ _ _ _ _ _ (Value.int (m.remarkOf j), _)
        rw [ht2]
        try rfl
      · refine w_tsw rfl rfl ?_
        gg
        refine w_ia rfl rfl rfl (by omega) (by decide) ?_
        ir
        show _ = ax_mout _ _ _ _ _ _ (Value.int (m.kinds (m.remarkOf j).toInt.toNat), _)
        rw [ht2, htt]
        try rfl
      · refine w_tsw rfl rfl ?_
        gg
        refine w_la rfl rfl rfl (by omega) (by decide) ?_
        gg
        ir
        rfl
      · refine w_tsw rfl rfl ?_
        gg
        refine w_ia rfl rfl rfl (by omega) (by decide) ?_
        ir
        show _ = ax_mout _ _ _ _ _ _ (Value.int (m.layers (m.remarkOf j).toInt.toNat), _)
        rw [ht2, htt]
        try rfl
      · refine w_tsw rfl rfl ?_
        gg
        refine w_la rfl rfl rfl (by omega) (by decide) ?_
        gg
        ir
        show _ = ax_mout _ _ _ _ _ _ (Value.int (m.x (m.remarkOf j).toInt.toNat).toInt32, _)
        rw [ht2, htt]
        try rfl
      · refine w_tsw rfl rfl ?_
        gg
        refine w_la rfl rfl rfl (by omega) (by decide) ?_
        gg
        ir
        show _ = ax_mout _ _ _ _ _ _ (Value.int (m.y (m.remarkOf j).toInt.toNat).toInt32, _)
        rw [ht2, htt]
        try rfl
def mp_history (m : ax_Mo) (k w : Int32) : Value × ax_Mo :=
  if ¬ (0 ≤ k.toInt ∧ k.toInt < m.orders ∧ 0 ≤ w.toInt ∧ w.toInt < 7) then (.int 0, { m with thrown := 1 }) else (.int (m.orderRow (7 * k.toInt.toNat + w.toInt.toNat)).toInt32, { m with thrown := 0 })
theorem n_history (k w : Int32) (hn : m.orders ≤ 20) : ax_run m_Mo_history [.ref 23, .int k, .int w] (ax_hp L xs c m o pool, u) (ax_mout L xs c o pool u (mp_history m k w)) := by
  unfold mp_history
  split
  · startR M_Mo_history
    go <;> pm
  · rename_i h1
    obtain ⟨j, rfl, hj1, hj2⟩ := q_nat (x := k) (by omega)
    obtain ⟨v, rfl, hv1, hv2⟩ := q_nat (x := w) (by omega)
    rw [← hj1, ← hv1]
    startR M_Mo_history
    go <;> try pm
    refine w_la (j := 7 * j + v) rfl rfl (by zo) (by omega) (by decide) ?_
    gg
    ir; rfl
def mp_share (m : ax_Mo) (a q : Int64) (k : Int32) : Value × ax_Mo :=
  if ¬ (1 ≤ q.toInt ∧ q.toInt ≤ 1000000 ∧ 0 ≤ a.toInt) then (.long 0, { m with thrown := 2 }) else if ¬ (0 ≤ k.toInt ∧ k.toInt < q.toInt) then (.long 0, { m with thrown := 1 }) else (.long (a / q + (if k.toInt < (a - a / q * q).toInt then 1 else 0)), { m with thrown := 0 })
theorem n_share (a q : Int64) (k : Int32) : ax_run m_Mo_share [.ref 23, .long a, .long q, .int k] (ax_hp L xs c m o pool, u) (ax_mout L xs c o pool u (mp_share m a q k)) := by
  unfold mp_share
  split
  · startR M_Mo_share
    gg
    cS (n_isQuantity q)
    go <;> pm
  · split
    · startR M_Mo_share
      gg
      cS (n_isQuantity q)
      go <;> pm
    · startR M_Mo_share
      gg
      cS (n_isQuantity q)
      go <;> try pm
      refine w_ldiv rfl (by zo) ?_
      gg
      refine w_lrem rfl (by zo) ?_
      gg
      refine w_if1 rfl (fun h1 => ?_) (fun h1 => ?_)
      · gg
        refine w_lret rfl rfl ?_
        rw [if_neg (by have h2 := (lg_cmp_ge _ _).mp h1; rw [Int64.le_iff_toInt_le, q_i2l] at h2; omega)]
        rfl
      · gg
        refine w_lret rfl rfl ?_
        rw [if_pos (by have h2 : ¬ (a - a / q * q ≤ k.toInt64) := fun z => h1 ((lg_cmp_ge _ _).mpr z); rw [Int64.le_iff_toInt_le, q_i2l] at h2; omega)]
        rfl
def mp_copper (m : ax_Mo) (l k : Int32) (a b : Int64) : Value × ax_Mo :=
  if ¬ (0 ≤ l.toInt ∧ l.toInt < 8 ∧ 0 ≤ k.toInt ∧ k.toInt < 16) then (.int 0, { m with thrown := 1 }) else if ¬ (1 ≤ b.toInt ∧ b.toInt ≤ 10 ∧ 0 ≤ a.toInt ∧ a.toInt ≤ b.toInt) then (.int 0, { m with thrown := 2 })
  else (.int (bI (¬ (m.above (16 * l.toInt.toNat + k.toInt.toNat) = a ∧ m.below (16 * l.toInt.toNat + k.toInt.toNat) = b))), { m with thrown := 0, above := vp_updL m.above (16 * l.toInt.toNat + k.toInt.toNat) a, below := vp_updL m.below (16 * l.toInt.toNat + k.toInt.toNat) b })
theorem n_copper (l k : Int32) (a b : Int64) : ax_run m_Mo_copper [.ref 23, .int l, .int k, .long a, .long b] (ax_hp L xs c m o pool, u) (ax_mout L xs c o pool u (mp_copper m l k a b)) := by
  unfold mp_copper
  split
  · startR M_Mo_copper
    go <;> try pm
    all_goals (cS (n_isCell l k); go <;> pm)
  · split
    · startR M_Mo_copper
      go <;> try pm
      all_goals (cS (n_isCell l k); go <;> pm)
    · rename_i h1 h2
      obtain ⟨j, rfl, hj1, hj2⟩ := q_nat (x := l) (by omega)
      obtain ⟨v, rfl, hv1, hv2⟩ := q_nat (x := k) (by omega)
      rw [← hj1, ← hv1]
      have hix : (Int8.ofInt 16).toInt32 * nI j + nI v = nI (16 * j + v) := (q_idx _ _ _ j v 16 (by omega) (by omega) (by rw [q_b8]; rfl) (by decide) (q_nI' (by omega)) (q_nI' (by omega))).1
      startR M_Mo_copper
      go <;> try pm
      cS (n_isCell (nI j) (nI v))
      go <;> try pm
      refine w_la (j := 16 * j + v) rfl rfl hix (by omega) (by decide) ?_
      have fin : ∀ (z : Int32) (i : Int32), i = nI (16 * j + v) → z = bI (¬ (m.above (16 * j + v) = a ∧ m.below (16 * j + v) = b)) → ax_wp ax_run M_Mo_copper (fun r' => r' = ax_mout L xs c o pool u (.int (bI (¬ (m.above (16 * j + v) = a ∧ m.below (16 * j + v) = b))), { m with thrown := 0, above := vp_updL m.above (16 * j + v) a, below := vp_updL m.below (16 * j + v) b })) 111 [(9, .int z), (0, .ref 23), (8, .int i), (3, .long a), (5, .long b)] [] (ax_hp L xs c { m with thrown := 0 } o pool, u) := by
        intro z i hi hz
        subst hi
        gg
        refine w_las rfl rfl rfl (by omega) (by decide) ?_
        gg
        refine w_las rfl rfl rfl (by omega) (by decide) ?_
        gg
        refine w_iret rfl rfl (by rw [hz]; exact bI_nar) ?_
        rw [hz]
        rfl
      gg
      refine w_if1 rfl (fun h3 => ?_) (fun h3 => ?_)
      · have h4 : ¬ m.above (16 * j + v) = a := fun z => h3 ((lg_cmp_eq _ _).mpr z)
        gto 111
        exact w_lv (fin (Int32.ofInt 1) _ hix (bI_t (P := ¬ (m.above (16 * j + v) = a ∧ m.below (16 * j + v) = b)) (fun z => h4 z.1)).symm) rfl ⟨rfl, rfl, rfl, rfl, rfl, trivial⟩
      · have h4 : m.above (16 * j + v) = a := (lg_cmp_eq _ _).mp (Decidable.not_not.mp h3)
        gg
        refine w_la (j := 16 * j + v) rfl rfl hix (by omega) (by decide) ?_
        gg
        refine w_if1 rfl (fun h5 => ?_) (fun h5 => ?_)
        · have h6 : m.below (16 * j + v) = b := (lg_cmp_eq _ _).mp h5
          gto 111
          exact w_lv (fin (Int32.ofInt 0) _ hix (bI_f (fun z => z ⟨h4, h6⟩)).symm) rfl ⟨rfl, rfl, rfl, rfl, rfl, trivial⟩
        · have h6 : ¬ m.below (16 * j + v) = b := fun z => h5 ((lg_cmp_eq _ _).mpr z)
          gto 111
          exact w_lv (fin (Int32.ofInt 1) _ hix (bI_t (P := ¬ (m.above (16 * j + v) = a ∧ m.below (16 * j + v) = b)) (fun z => h6 z.2)).symm) rfl ⟨rfl, rfl, rfl, rfl, rfl, trivial⟩
end MB
