theorem rs_s (n : Nat) (f : Nat → Int32) : ∀ k s p fr ce q s' fr' ce', rs n f k s p fr ce = .inr (q, s', fr', ce') → 1 ≤ s' := by
  intro k
  induction k with
  | zero => intro s p fr ce q s' fr' ce' h; cases h
  | succ k ih =>
    intro s p fr ce q s' fr' ce' h
    unfold rs at h
    split at h
    · cases h
    · split at h
      · cases h
      · split at h
        · cases h
        · split at h
          · exact ih _ _ _ _ _ _ _ _ h
          · have h2 := Sum.inr.inj h
            have h3 : s + 1 = s' := congrArg (fun z => z.2.1) h2
            omega
theorem rg_s (n : Nat) (f : Nat → Int32) (p t : Nat) (d : ax_Rw) (h : rg n f p = .inr (t, d)) : 1 ≤ d.s := by
  unfold rg at h
  split at h
  · cases h
  · split at h
    · cases h
    · split at h
      · cases h
      · split at h
        · cases h
        · rename_i hrs
          split at h
          · cases h
          · have h2 := Sum.inr.inj h
            have h3 := congrArg (fun z : Nat × ax_Rw => z.2.s) h2
            have h4 := rs_s n f _ _ _ _ _ _ _ _ _ hrs
            exact h3 ▸ h4
theorem ro_s (n : Nat) (f : Nat → Int32) : ∀ k i p ds N ds', (∀ j, j < i → 1 ≤ (ds j).s) → ro n f k i p ds = .inr (N, ds') → ∀ j, j < N → 1 ≤ (ds' j).s := by
  intro k
  induction k with
  | zero => intro i p ds N ds' _ h; cases h
  | succ k ih =>
    intro i p ds N ds' hds h
    have e0 : ro n f (k + 1) i p ds = (match rg n f p with | .inl e => .inl e | .inr (t, d) => if ¬ (gok d ∧ i < 4) then .inl p else if n ≤ t then .inr (i + 1, va_up ds i d) else ro n f k (i + 1) t (va_up ds i d)) := rfl
    rw [e0] at h
    clear e0
    generalize hRG : rg n f p = RG at h
    cases RG with
    | inl e => cases h
    | inr td =>
      obtain ⟨t, d⟩ := td
      have hs := rg_s n f p t d hRG
      have h' : (if ¬ (gok d ∧ i < 4) then (.inl p : Nat ⊕ (Nat × (Nat → ax_Rw))) else if n ≤ t then .inr (i + 1, va_up ds i d) else ro n f k (i + 1) t (va_up ds i d)) = .inr (N, ds') := h
      have hds' : ∀ j, j < i + 1 → 1 ≤ (va_up ds i d j).s := by
        intro j hj
        by_cases z : j = i
        · subst z; rw [va_up_self]; exact hs
        · rw [va_up_ne _ _ z]; exact hds j (by omega)
      by_cases hg : gok d ∧ i < 4
      · rw [if_neg (fun z => z hg)] at h'
        by_cases ht : n ≤ t
        · rw [if_pos ht] at h'
          have h2 := Sum.inr.inj h'
          have h3 : i + 1 = N := congrArg (fun z => z.1) h2
          have h4 : va_up ds i d = ds' := congrArg (fun z => z.2) h2
          subst h3
          subst h4
          exact hds'
        · rw [if_neg ht] at h'
          exact ih _ _ _ _ _ hds' h'
      · rw [if_pos hg] at h'
        cases h'
theorem mk_s (n : Nat) (f : Nat → Int32) (told k N : Nat) (ds : Nat → ax_Rw) (h : mk n f told = .inr (k, N, ds)) : ∀ j, j < N → 1 ≤ (ds j).s := by
  unfold mk at h
  split at h
  · cases h
  · split at h
    · cases h
    · split at h
      · cases h
      · split at h
        · cases h
        · rename_i hro
          have h2 := Sum.inr.inj h
          have h3 := congrArg (fun z : Nat × Nat × (Nat → ax_Rw) => z.2) h2
          have h4 := ro_s n f 5 0 2 ax_ds0 _ _ (fun j hj => absurd hj (by omega)) hro
          obtain ⟨h5, h6⟩ := Prod.mk.inj h3
          subst h5
          subst h6
          exact h4
theorem grade_ok {G : ax_Gr} {d : ax_Rw} (hg : gok d) (hs : 1 ≤ d.s) (h : GM G d) : GradeOk G := by
  have h4 := gok_s hg
  have hst := h.st
  have hnI : ∀ x : Nat, x ≤ 1000000 → (nI x).toInt = x := fun x hx => q_nI' (by omega)
  refine ⟨by omega, by omega, fun k hk => ?_, fun s hs' => ?_, fun s hs' => ?_, fun s hs' => ?_, ?_⟩
  · have := hg.1.1 k hk
    rw [h.lim k hk, hnI _ this]
    omega
  · have h5 := hg.1.2 s (by omega)
    have h6 := h5.2.1
    have h7 := h5.2.2.1
    rw [h.fr s (by omega), hnI _ h7]
    omega
  · have h5 := hg.1.2 s (by omega)
    have h6 := h5.2.2.2.1
    have h7 := h5.2.2.2.2
    rw [h.ce s (by omega), hnI _ h7]
    omega
  · have h5 := hg.1.2 s (by omega)
    have h6 := hg.1.2 (s + 1) (by omega)
    have h7 := h6.2.1
    rw [if_neg (by omega), show s + 1 - 1 = s by omega] at h7
    rw [h.fr s (by omega), h.fr (s + 1) (by omega), hnI _ h5.2.2.1, hnI _ h6.2.2.1]
    omega
  · rw [h.dy, hnI _ (by have := hg.2; omega)]
    have := hg.2
    omega
section P3
variable {c : ax_St} {m : ax_Mo} {pool : List (Option ax_C)} {Fs Qs : Nat → ax_Of}
theorem p_unit (h : Rel c m pool Fs Qs) (x : Int32) : Pair m_ML_unit m_Mo_unit [.int x] c m pool isI (fun _ => False) (fun E => nI (E + 1)) := by
  have hC := fun L xs o u => r_unit (L := L) (xs := xs) (c := c) (m := m) (o := o) (pool := pool) (u := u) x h.tl
  have hM := fun c' L xs o pool u => n_unit (L := L) (xs := xs) (c := c') (m := m) (o := o) (pool := pool) (u := u) x (by rw [h.un]; exact h.tl)
  unfold mp_unit at hM
  rw [h.un, h.tx] at hM
  by_cases h1 : x.toInt < 32 ∨ 126 < x.toInt ∨ c.tl = 400
  · simp only [if_pos h1] at hC hM
    exact pair_l _ c _ ⟨_, rfl⟩ hC (hM c) rfl (h.thr 0)
  · simp only [if_neg h1] at hC hM
    have := h.tl
    refine pair_l _ _ _ ⟨_, rfl⟩ hC (hM _) rfl (Fs' := Fs) (Qs' := Qs) ⟨?_, rfl, rfl, h.mk, h.of, h.mr, h.bo, h.br, h.rn, h.rm, h.rt, h.qu, h.mq, h.on, h.mo, h.rw, h.ce, h.cr⟩
    show c.tl + 1 ≤ 400
    omega
theorem p_clear (h : Rel c m pool Fs Qs) : Rel (sp_clear c) (mp_empty (ax_Mo.u_thrown m 0)) pool Fs Qs := by
  refine ⟨Nat.zero_le _, rfl, h.tx, rfl, ⟨Nat.zero_le _, fun k hk => absurd hk (Nat.not_lt_zero _), fun k _ hk => ?_⟩, ⟨Nat.zero_le _, fun k hk => absurd hk (Nat.not_lt_zero _)⟩, ⟨Nat.zero_le _, fun k hk => absurd hk (Nat.not_lt_zero _), fun k hk => absurd hk (Nat.not_lt_zero _)⟩, ⟨rfl, fun k hk => absurd hk (Nat.not_lt_zero _), fun k hk => absurd hk (Nat.not_lt_zero _), fun k hk => absurd hk (Nat.not_lt_zero _), fun k hk => absurd hk (Nat.not_lt_zero _), fun k hk => absurd hk (Nat.not_lt_zero _)⟩, Nat.zero_le _, rfl, fun k hk => absurd hk (Nat.not_lt_zero _), ⟨Nat.zero_le _, fun k hk => absurd hk (Nat.not_lt_zero _)⟩, ⟨rfl, Nat.zero_le _, fun k hk => absurd hk (Nat.not_lt_zero _), fun k hk => absurd hk (Nat.not_lt_zero _), fun k hk => absurd hk (Nat.not_lt_zero _)⟩, Nat.zero_le _, rfl, fun k hk => absurd hk (Nat.not_lt_zero _), ⟨fun i hi => ?_, fun i hi => ?_⟩, ⟨fun i hi => ?_, fun i hi => ?_⟩⟩
  · show (if k < 4 then none else c.of k) = none
    rw [if_pos hk]
  · show 0 ≤ (if i < 128 then (0 : Int32) else c.ab i).toInt ∧ (if i < 128 then (0 : Int32) else c.ab i).toInt ≤ 10
    rw [if_pos hi]
    exact ⟨by decide, by decide⟩
  · show 1 ≤ (if i < 128 then (1 : Int32) else c.be i).toInt ∧ (if i < 128 then (1 : Int32) else c.be i).toInt ≤ 10
    rw [if_pos hi]
    exact ⟨by decide, by decide⟩
  · show (if i < 128 then (0 : Int64) else m.above i).toInt = (if i < 128 then (0 : Int32) else c.ab i).toInt
    rw [if_pos hi, if_pos hi]
    rfl
  · show (if i < 128 then (1 : Int64) else m.below i).toInt = (if i < 128 then (1 : Int32) else c.be i).toInt
    rw [if_pos hi, if_pos hi]
    rfl
theorem p_maker (h : Rel c m pool Fs Qs) (L : Nat) (xs : Nat → Int32) (o : Nat → Int64) (u : Nat) : ∃ (b : Int32) (c' : ax_St) (m' : ax_Mo) (pool' : List (Option ax_C)) (u' : Nat), ax_run m_ML_maker [.ref 1] (ax_hp L xs c m o pool, u) (.inl (some (.int b)), (ax_hp L xs c' m o pool', u')) ∧ ax_run m_Mo_maker [.ref 23] (ax_hp L xs c' m o pool', u') (.inl (some (.int b)), (ax_hp L xs c' m' o pool', u')) ∧ pool'.length ≤ pool.length + 22 ∧ u' ≤ u + 106 ∧ ∃ Fs Qs, Rel c' m' pool' Fs Qs := by
  obtain ⟨r1, hr1, hq1⟩ := r_maker (L := L) (xs := xs) (c := c) (m := m) (o := o) (P := pool) (u := u) h.tl h.of.n
  have hM := fun c' pool' u' => n_maker (L := L) (xs := xs) (c := c') (m := m) (o := o) (pool := pool') (u := u') (by rw [h.un]; exact h.tl) h.mr.n
  rw [h.un, h.tx, h.mk] at hM
  have hs := mk_s c.tl c.ch c.told
  generalize mk c.tl c.ch c.told = q at hq1 hM hs
  have hm4 := h.mr.n
  have hq10 := h.mq.n10
  have hmk := h.mk
  have ht4 := h.of.n
  cases q with
  | inl e =>
    obtain ⟨X, u', rfl, hX, hu⟩ := hq1
    obtain ⟨r2, hr2, a, w, C', N', rfl, hN, hC⟩ := hM (ax_St.u_pl (ax_St.u_tl c 0) e) (pool ++ X) u'
    refine ⟨_, _, _, _, _, hr1, hr2, by rw [List.length_append]; omega, hu, Fs, Qs, Nat.zero_le _, rfl, h.tx, h.mk, h.of.more X, ⟨h.mr.n, fun k hk => ?_⟩, h.bo, h.br, h.rn, h.rm, h.rt, h.qu.more X, ⟨h.mq.n, h.mq.n10, h.mq.mkr, h.mq.un, fun k hk => ?_⟩, h.on, h.mo, h.rw, h.ce, h.cr⟩
    · have hk' : k < m.makers := hk
      have hA := h.mr.at_ k hk'
      exact ⟨hA.1.eqv hA.2 (hC k (by omega)) (fun j hj => hN _ (by omega)), hA.2⟩
    · have hk' : k < c.qn := hk
      have hA := h.mq.at_ k hk'
      exact ⟨hA.1.eqv hA.2 (hC _ (by omega)) (fun j hj => hN _ (by omega)), hA.2⟩
  | inr q =>
    obtain ⟨k, n, ds⟩ := q
    obtain ⟨X, u', F, tp, rfl, hX, hu, hk1, hk2, hFn, h1n, hn4, hO, hds⟩ := hq1
    obtain ⟨r2, hr2, a, w, C', N', rfl, -, -, hN, hC, hCk, hrow⟩ := hM (ax_St.u_told (ax_St.u_of (ax_St.u_pl (ax_St.u_tl c 0) tp) (va_up c.of k (some (pool.length + 0 + 40)))) (max c.told (k + 1))) (pool ++ X) u'
    have hsd := hs k n ds rfl
    have hgo : ∀ j, j < n → GradeOk (F.g j) := fun j hj => grade_ok (hds j hj).1 (hsd j hj) (hds j hj).2
    have hFok : OfferOk F := ⟨by omega, fun j hj => hgo j (by omega)⟩
    have hnI : ∀ x : Nat, x ≤ 1000000 → (nI x).toInt = x := fun x hx => q_nI' (by omega)
    refine ⟨_, _, _, _, _, hr1, hr2, by rw [List.length_append]; omega, hu, va_up Fs k F, Qs, Nat.zero_le _, rfl, h.tx, ?_, ⟨?_, fun i hi => ?_, fun i hi1 hi2 => ?_⟩, ⟨?_, fun i hi => ?_⟩, h.bo, h.br, h.rn, h.rm, h.rt, h.qu.more X, ⟨h.mq.n, h.mq.n10, h.mq.mkr, h.mq.un, fun i hi => ?_⟩, h.on, h.mo, h.rw, h.ce, h.cr⟩
    · show max m.makers (k + 1) = max c.told (k + 1)
      rw [hmk]
    · show max c.told (k + 1) ≤ 4
      omega
    · have hi' : i < max c.told (k + 1) := hi
      show ∃ i0, va_up c.of k (some (pool.length + 0 + 40)) i = some (i0 + 40) ∧ OfferAt (pool ++ X) i0 (va_up Fs k F i) ∧ OfferOk (va_up Fs k F i)
      by_cases z : i = k
      · subst z
        rw [va_up_self, va_up_self]
        exact ⟨pool.length, rfl, hO, hFok⟩
      · rw [va_up_ne _ _ z, va_up_ne _ _ z]
        obtain ⟨i0, h1, h2, h3⟩ := h.of.at_ i (by omega)
        exact ⟨i0, h1, h2.more gm, h3⟩
    · have hi1' : max c.told (k + 1) ≤ i := hi1
      show va_up c.of k (some (pool.length + 0 + 40)) i = none
      rw [va_up_ne _ _ (by omega)]
      exact h.of.no i (by omega) hi2
    · show max m.makers (k + 1) ≤ 4
      omega
    · have hi' : i < max m.makers (k + 1) := hi
      by_cases z : i = k
      · subst z
        rw [va_up_self]
        refine ⟨⟨?_, fun j hj y hy => ?_, fun j hj => ?_, fun j hj => ?_, fun j hj s hs => ?_, fun j hj s hs => ?_⟩, hFok⟩
        · rw [hFn]; exact hCk
        · have hd := hds j (by omega)
          have hr := (hrow j (by omega)).1 y hy
          rw [hd.2.lim y hy, hnI _ (hd.1.1.1 y hy)]
          exact hr
        · have hd := hds j (by omega)
          have hr := (hrow j (by omega)).2.1
          rw [hd.2.st]
          exact hr
        · have hd := hds j (by omega)
          have hr := (hrow j (by omega)).2.2.1
          rw [hd.2.dy, hnI _ (by have := hd.1.2; omega)]
          exact hr
        · have hd := hds j (by omega)
          have hs' : s < (ds j).s := by rw [← hd.2.st]; exact hs
          have hr := ((hrow j (by omega)).2.2.2 s hs').1
          rw [hd.2.fr s hs', hnI _ (hd.1.1.2 s hs').2.2.1]
          exact hr
        · have hd := hds j (by omega)
          have hs' : s < (ds j).s := by rw [← hd.2.st]; exact hs
          have hr := ((hrow j (by omega)).2.2.2 s hs').2
          rw [hd.2.ce s hs', hnI _ (hd.1.1.2 s hs').2.2.2.2]
          exact hr
      · rw [va_up_ne _ _ z]
        have hA := h.mr.at_ i (by omega)
        exact ⟨hA.1.eqv hA.2 (hC i (by omega) z) (fun j hj => hN _ (by omega) (by omega)), hA.2⟩
    · have hi' : i < c.qn := hi
      have hA := h.mq.at_ i hi'
      exact ⟨hA.1.eqv hA.2 (hC _ (by omega) (by omega)) (fun j hj => hN _ (by omega) (by omega)), hA.2⟩
end P3
