section MF
variable {L : Nat} {xs : Nat → Int32} {c : ax_St} {m : ax_Mo} {o : Nat → Int64} {pool : List (Option ax_C)} {u : Nat} {h : ax_H}
theorem n_makes {p : Nat} {F : ax_Of} (hN : NumAt m p F) (hok : OfferOk F) (hR : BRel c m) (hb : BoardOk c) (hp : p < 15) (k : Nat) (hk : k < F.n) :
    ax_run m_Mo_makes [.ref 23, .int (nI p), .int (nI k)] (ax_hp L xs c m o pool, u) (.inl (some (.int (bI (ax_made c (F.g k))))), (ax_hp L xs c m o pool, u)) := by
  have hbn := hb.n
  have hrn := hR.n
  have lp : ∀ (d t : Nat) (b : Int32), t + d = c.bn → b = bI (∀ i, i < t → ax_ex c (F.g k) i ≤ 0) → ax_wp ax_run M_Mo_makes (fun r' => r' = (.inl (some (.int (bI (ax_made c (F.g k))))), (ax_hp L xs c m o pool, u))) 5 [(0, .ref 23), (1, .int (nI p)), (2, .int (nI k)), (3, .int b), (4, .int (nI t))] [] (ax_hp L xs c m o pool, u) := by
    intro d
    induction d with
    | zero =>
      intro t b ht hbb
      have : t = c.bn := by omega
      subst this
      go
      refine w_iret rfl rfl (by rw [hbb]; exact bI_nar) ?_
      rw [hbb]
      rfl
    | succ d ih =>
      intro t b ht hbb
      have hx := ax_ex_b hb (hok.gs k hk) (t := t) (by omega)
      subst hbb
      gto 11
      brp
      gg
      refine w_if1 rfl (fun h5 => ?_) (fun h5 => ?_)
      · have h6 := c_eq0.mp h5
        gto 5
        refine w_lv (ih (t + 1) (Int32.ofInt 0) (by omega) (bI_f (fun z => h6 (fun i hi => z i (by omega)))).symm) rfl ⟨rfl, rfl, rfl, rfl, rfl, trivial⟩
      · have h6 : ∀ i, i < t → ax_ex c (F.g k) i ≤ 0 := Decidable.not_not.mp (fun z => h5 (c_eq0.mpr z))
        gg
        cV (n_beyond hN hok hR hb hp k t hk (by omega))
        gg
        refine w_if1 rfl (fun h7 => ?_) (fun h7 => ?_)
        · have h8 := c_Lgt.mp h7
          rw [q_ofIL (by omega) (by omega), q_ofNL] at h8
          gto 5
          refine w_lv (ih (t + 1) (Int32.ofInt 0) (by omega) (bI_f (fun z => absurd (z t (by omega)) (by omega))).symm) rfl ⟨rfl, rfl, rfl, rfl, rfl, trivial⟩
        · have h8 : ¬ (Int64.ofNat 0).toInt < (Int64.ofInt (ax_ex c (F.g k) t)).toInt := fun z => h7 (c_Lgt.mpr z)
          rw [q_ofIL (by omega) (by omega), q_ofNL] at h8
          gto 5
          refine w_lv (ih (t + 1) (Int32.ofInt 1) (by omega) (bI_t (P := ∀ i, i < t + 1 → ax_ex c (F.g k) i ≤ 0) (fun i hi => ?_)).symm) rfl ⟨rfl, rfl, rfl, rfl, rfl, trivial⟩
          by_cases hit : i = t
          · subst hit; omega
          · exact h6 i (by omega)
  startR M_Mo_makes
  gto 5
  refine w_lv (lp c.bn 0 (Int32.ofInt 1) (by omega) (bI_t (fun i hi => absurd hi (by omega))).symm) rfl ⟨rfl, rfl, rfl, rfl, rfl, trivial⟩
theorem n_leastOf {p : Nat} {F : ax_Of} (hN : NumAt m p F) (hok : OfferOk F) (hR : BRel c m) (hb : BoardOk c) (hp : p < 15) :
    ax_run m_Mo_leastOf [.ref 23, .int (nI p)] (ax_hp L xs c m o pool, u) (.inl (some (.int (ax_least c F))), (ax_hp L xs c m o pool, u)) := by
  have hn4 := hok.n4
  have lp : ∀ (d k : Nat), k + d = F.n → ax_wp ax_run M_Mo_leastOf (fun r' => r' = (.inl (some (.int (ax_lst (fun k => decide (ax_made c (F.g k))) d k))), (ax_hp L xs c m o pool, u))) 2 [(0, .ref 23), (1, .int (nI p)), (2, .int (nI k))] [] (ax_hp L xs c m o pool, u) := by
    intro d
    induction d with
    | zero =>
      intro k hk
      gg
      refine w_ia rfl rfl rfl (by omega) (by decide) ?_
      rw [hN.cl]
      go
      ir
      rfl
    | succ d ih =>
      intro k hk
      gg
      refine w_ia rfl rfl rfl (by omega) (by decide) ?_
      rw [hN.cl]
      go
      cV (n_makes hN hok hR hb hp k (by omega))
      refine w_if1 rfl (fun h5 => ?_) (fun h5 => ?_)
      · have h6 := c_eq0.mp h5
        gto 2
        refine w_lv (l1 := [(0, .ref 23), (1, .int (nI p)), (2, .int (nI (k + 1)))]) (w_post (ih (k + 1) (by omega)) (fun r hr => ?_)) rfl ⟨rfl, rfl, rfl, trivial⟩
        rw [hr]
        simp only [ax_lst, h6, decide_false, Bool.false_eq_true, if_false]
      · have h6 : ax_made c (F.g k) := Decidable.not_not.mp (fun z => h5 (c_eq0.mpr z))
        gg
        ir
        simp only [ax_lst, h6, decide_true, if_true]
  startR M_Mo_leastOf
  gto 2
  exact w_lv (lp F.n 0 (by omega)) rfl ⟨rfl, rfl, rfl, trivial⟩
end MF
