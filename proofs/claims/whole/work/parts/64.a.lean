theorem up_fill {α : Type} (f : Nat → α) (v : α) (k : Nat) : (fun j => if j = k then v else if j < k then v else f j) = (fun j => if j < k + 1 then v else f j) := by
  funext j
  by_cases h1 : j = k
  · subst h1
    rw [if_pos rfl, if_pos (by omega)]
  · rw [if_neg h1]
    by_cases h2 : j < k
    · rw [if_pos h2, if_pos (by omega)]
    · rw [if_neg h2, if_neg (by omega)]
section CD
variable {L : Nat} {xs : Nat → Int32} {c : ax_St} {m : ax_Mo} {o : Nat → Int64} {pool : List (Option ax_C)} {u : Nat} {h : ax_H}
/-- filling an int array -/
theorem r_fill {a n : Nat} {f : Nat → Int32} (v : Int32) (H : List (Option ax_C)) (hn : n ≤ 100000) (ha : H[a]? = some (ax_aI n f)) : ax_run m_Ar_fill [.ref a, .int v] (H, u) (.inl none, (H.set a (ax_aI n (fun j => if j < n then v else f j)), u)) := by
  have lp : ∀ (d k : Nat), k + d = n → ax_wp ax_run M_Ar_fill (fun r' => r' = (.inl none, (H.set a (ax_aI n (fun j => if j < n then v else f j)), u))) 5 [(0, .ref a), (1, .int v), (2, .int (nI k)), (3, .int (nI n))] [] (H.set a (ax_aI n (fun j => if j < k then v else f j)), u) := by
    intro d
    induction d with
    | zero =>
      intro k hk
      have : k = n := by omega
      subst this
      go
      · refine w_vret rfl rfl rfl
    | succ d ih =>
      intro k hk
      go
      · refine w_ias (n := n) (f := fun j => if j < k then v else f j) rfl ?_ rfl (by omega) (by omega) ?_
        · have hl := (List.getElem?_eq_some_iff.mp ha).1
          exact List.getElem?_set_self hl
        · gto 5
          refine w_lv (l1 := [(0, .ref a), (1, .int v), (2, .int (nI (k + 1))), (3, .int (nI n))]) ?_ rfl ⟨rfl, rfl, rfl, rfl, trivial⟩
          have e : (H.set a (ax_aI n (fun j => if j < k then v else f j))).set a (some (.inl (0, n, .inl (upd (fun j => if j < k then v else f j) k v)))) = H.set a (ax_aI n (fun j => if j < k + 1 then v else f j)) := by
            rw [List.set_set]
            congr 1
            show ax_aI n _ = _
            congr 1
            exact up_fill f v k
          rw [e]
          exact ih (k + 1) (by omega)
  startR M_Ar_fill
  gg
  refine w_alen rfl ha (Or.inl (by decide)) ?_
  gto 5
  refine w_lv (l1 := [(0, .ref a), (1, .int v), (2, .int (nI 0)), (3, .int (nI n))]) ?_ rfl ⟨rfl, rfl, rfl, rfl, trivial⟩
  have h0 := lp n 0 (by omega)
  have e : H.set a (ax_aI n (fun j => if j < 0 then v else f j)) = H := by
    have e1 : (fun j => if j < 0 then v else f j) = f := by funext j; rw [if_neg (by omega)]
    rw [e1]
    obtain ⟨hl, hv⟩ := List.getElem?_eq_some_iff.mp ha
    rw [← hv]
    exact List.set_getElem_self hl
  rw [e] at h0
  exact h0
def sp_clear (c : ax_St) : ax_St := { c with tl := 0, pl := 0, of := fun j => if j < 4 then none else c.of j, told := 0, bn := 0, rn := 0, qn := 0, on := 0, ab := fun j => if j < 128 then 0 else c.ab j, be := fun j => if j < 128 then 1 else c.be j }
theorem r_Tx_forget : ax_run m_Tx_forget [.ref 2] (ax_hp L xs c m o pool, u) (.inl none, (ax_hp L xs { c with tl := 0, pl := 0 } m o pool, u)) := by
  startR M_Tx_forget
  gg
  exact w_vret rfl rfl rfl
theorem r_Bd_forget : ax_run m_Bd_forget [.ref 5] (ax_hp L xs c m o pool, u) (.inl none, (ax_hp L xs { c with bn := 0 } m o pool, u)) := by
  startR M_Bd_forget
  gg
  exact w_vret rfl rfl rfl
theorem r_Re_forget : ax_run m_Re_forget [.ref 11] (ax_hp L xs c m o pool, u) (.inl none, (ax_hp L xs { c with rn := 0 } m o pool, u)) := by
  startR M_Re_forget
  gg
  exact w_vret rfl rfl rfl
theorem r_Qu_forget : ax_run m_Qu_forget [.ref 14] (ax_hp L xs c m o pool, u) (.inl none, (ax_hp L xs { c with qn := 0 } m o pool, u)) := by
  startR M_Qu_forget
  gg
  exact w_vret rfl rfl rfl
theorem r_Or_forget : ax_run m_Or_forget [.ref 18] (ax_hp L xs c m o pool, u) (.inl none, (ax_hp L xs { c with on := 0 } m o pool, u)) := by
  startR M_Or_forget
  gg
  exact w_vret rfl rfl rfl
theorem r_Ce_forget : ax_run m_Ce_forget [.ref 20] (ax_hp L xs c m o pool, u) (.inl none, (ax_hp L xs { c with ab := fun j => if j < 128 then 0 else c.ab j, be := fun j => if j < 128 then 1 else c.be j } m o pool, u)) := by
  startR M_Ce_forget
  gg
  cS (r_fill (n := 128) (f := c.ab) (Int32.ofInt 0) (ax_hp L xs c m o pool) (by decide) rfl)
  gg
  cS (r_fill (n := 128) (f := c.be) (Int32.ofInt 1) _ (by decide) rfl)
  exact w_vret rfl rfl rfl
theorem r_clear : ax_run m_ML_clear [.ref 1] (ax_hp L xs c m o pool, u) (.inl none, (ax_hp L xs (sp_clear c) m o pool, u)) := by
  startR M_ML_clear
  gg
  cV r_Tx_forget
  have lp : ∀ (d k : Nat), k + d = 4 → ax_wp ax_run M_ML_clear (fun r' => r' = (.inl none, (ax_hp L xs (sp_clear c) m o pool, u))) 9 [(0, .ref 1), (1, .int (nI k))] [] (ax_hp L xs { c with tl := 0, pl := 0, of := fun j => if j < k then none else c.of j } m o pool, u) := by
    intro d
    induction d with
    | zero =>
      intro k hk
      have : k = 4 := by omega
      subst this
      go
      · cV (r_Bd_forget (c := { c with tl := 0, pl := 0, told := 0, of := fun j => if j < 4 then none else c.of j }))
        gg
        cV r_Re_forget
        gg
        cV r_Qu_forget
        gg
        cV r_Or_forget
        gg
        cV r_Ce_forget
        exact w_vret rfl rfl rfl
    | succ d ih =>
      intro k hk
      go
      · refine w_aasN rfl rfl (Or.inl rfl) rfl (by omega) (by decide) ?_
        gto 9
        refine w_lv (l1 := [(0, .ref 1), (1, .int (nI (k + 1)))]) ?_ rfl ⟨rfl, rfl, trivial⟩
        have e : va_up (fun j => if j < k then none else c.of j) k none = (fun j => if j < k + 1 then none else c.of j) := by
          exact up_fill c.of none k
        have := ih (k + 1) (by omega)
        rw [← e] at this
        exact this
  gto 9
  refine w_lv (l1 := [(0, .ref 1), (1, .int (nI 0))]) ?_ rfl ⟨rfl, rfl, trivial⟩
  have e : (fun j => if j < 0 then none else c.of j) = c.of := by funext j; rw [if_neg (by omega)]
  have := lp 4 0 (by omega)
  rw [e] at this
  exact this
end CD
