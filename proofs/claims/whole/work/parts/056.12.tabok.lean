/-! the tables of links are the Statement's -/
abbrev ax_w (w : Jvm.Cond) : Prop := w ∈ lw_tbl ∧ ax_gw w = true
theorem ax_tI_ok : ∀ e ∈ ax_tI, ax_w (.constant (ax_cn e.1.1) e.1.2 e.2) := by decide +kernel
theorem ax_tL_ok : ∀ e ∈ ax_tL, ax_w (.constantLong (ax_cn e.1.1) e.1.2 e.2) := by decide +kernel
theorem ax_cls_all : ∀ q ∈ classes, ∀ w ∈ u_ws q.1 q.2.1 q.2.2, ax_w w := by decide +kernel
theorem ax_cls_ok (ci : Nat) (q : vw_C) (h : classes[ci]? = some q) : ∀ w ∈ u_ws q.1 q.2.1 q.2.2, ax_w w := ax_cls_all q (List.mem_of_getElem? h)
def ax_okF (e : (Nat × Nat) × (Nat × Nat)) : Bool := match classes[e.2.1]? with
  | some q => decide (e.2.2 < q.2.2) && (decide (ax_w (.fieldLink (ax_cn e.1.1) e.1.2 (q.2.1 e.2.2).1 (q.2.1 e.2.2).2.1 (q.2.1 e.2.2).2.2.1)) || (decide (¬ e.1.1 = e.2.1) && decide (ax_w (.fieldLinkNest (ax_cn e.1.1) e.1.2 (q.2.1 e.2.2).1 (q.2.1 e.2.2).2.1 (q.2.1 e.2.2).2.2.1 "MakingLimits"))))
  | none => false
theorem ax_tF_all : ax_tF.all ax_okF = true := by decide +kernel
theorem ax_tF_ok (e : (Nat × Nat) × (Nat × Nat)) (he : e ∈ ax_tF) : ∃ C T N, classes[e.2.1]? = some (C, T, N) ∧ e.2.2 < N ∧ (ax_w (.fieldLink (ax_cn e.1.1) e.1.2 (T e.2.2).1 (T e.2.2).2.1 (T e.2.2).2.2.1) ∨ ∃ host, ax_w (.fieldLinkNest (ax_cn e.1.1) e.1.2 (T e.2.2).1 (T e.2.2).2.1 (T e.2.2).2.2.1 host)) := by
  have h := List.all_eq_true.mp ax_tF_all e he
  unfold ax_okF at h
  split at h
  · rename_i q hq
    simp only [Bool.and_eq_true, Bool.or_eq_true, decide_eq_true_eq] at h
    exact ⟨q.1, q.2.1, q.2.2, hq, h.1, h.2.imp (fun z => z) (fun z => ⟨_, z.2⟩)⟩
  · cases h
theorem ax_tFown_ok (e : (Nat × Nat) × (Nat × Nat)) (he : e ∈ ax_tF) (ho : e.1.1 = e.2.1) {q : vw_C} (hq0 : classes[e.2.1]? = some q) : ax_w (.fieldLink (ax_cn e.1.1) e.1.2 (q.2.1 e.2.2).1 (q.2.1 e.2.2).2.1 (q.2.1 e.2.2).2.2.1) := by
  have h := List.all_eq_true.mp ax_tF_all e he
  unfold ax_okF at h
  split at h
  · rename_i q' hq
    cases hq0.symm.trans hq
    simp only [Bool.and_eq_true, Bool.or_eq_true, decide_eq_true_eq] at h
    rcases h.2 with h | h
    · exact h
    · exact absurd ho h.1
  · cases h
/-- a fact of every field of every class -/
def ax_each (f : Nat → vw_C → Nat → Bool) : Bool := (List.range 10).all (fun ci => match classes[ci]? with
  | some q => (List.range q.2.2).all (fun k => f ci q k)
  | none => false)
theorem ax_each_at {f : Nat → vw_C → Nat → Bool} (h : ax_each f = true) {ci : Nat} {q : vw_C} (hq : classes[ci]? = some q) {k : Nat} (hk : k < q.2.2) : f ci q k = true := by
  have hl : ci < 10 := (List.getElem?_eq_some_iff.mp hq).1
  have h1 := List.all_eq_true.mp h ci (List.mem_range.mpr hl)
  simp only [hq] at h1
  exact List.all_eq_true.mp h1 k (List.mem_range.mpr hk)
theorem ax_ty_all : ax_each (fun ci q k => decide (parseFieldDescriptor (q.2.1 k).2.2.1 = some (ax_ty ci k))) = true := by decide +kernel
theorem ax_ty_ok (ci : Nat) (q : vw_C) (hq : classes[ci]? = some q) : ∀ k, k < q.2.2 → parseFieldDescriptor (q.2.1 k).2.2.1 = some (ax_ty ci k) := fun _ hk => of_decide_eq_true (ax_each_at ax_ty_all hq hk)
theorem ax_nm_all : ax_each (fun _ q a => (List.range q.2.2).all (fun b => decide (a ≠ b → (q.2.1 a).2.1 ≠ (q.2.1 b).2.1))) = true := by decide +kernel
theorem ax_nm_ok (ci : Nat) (q : vw_C) (hq : classes[ci]? = some q) : ∀ a, a < q.2.2 → ∀ b, b < q.2.2 → a ≠ b → (q.2.1 a).2.1 ≠ (q.2.1 b).2.1 := fun _ ha b hb => of_decide_eq_true (List.all_eq_true.mp (ax_each_at ax_nm_all hq ha) b (List.mem_range.mpr hb))
theorem ax_fin_all : ax_each (fun ci q k => decide (ax_fin ci k = (q.2.1 k).2.2.2)) = true := by decide +kernel
theorem ax_fin_ok (ci : Nat) (q : vw_C) (hq : classes[ci]? = some q) (k : Nat) (hk : k < q.2.2) : ax_fin ci k = (q.2.1 k).2.2.2 := of_decide_eq_true (ax_each_at ax_fin_all hq hk)
theorem ax_own_all : ax_each (fun ci q k => decide ((q.2.1 k).1 = ax_cn ci)) = true := by decide +kernel
theorem ax_own_ok (ci : Nat) (q : vw_C) (hq : classes[ci]? = some q) (k : Nat) (hk : k < q.2.2) : (q.2.1 k).1 = ax_cn ci := of_decide_eq_true (ax_each_at ax_own_all hq hk)
theorem ax_dfl_all : ax_each (fun ci q k => decide (defaultValue (ax_ty ci k) = vp_V (ax_dfl ci) k) && decide ((ax_dfl ci).length = q.2.2)) = true := by decide +kernel
theorem ax_cn_all : (List.range 10).all (fun ci => match classes[ci]? with | some q => decide (q.1 = ax_cn ci) && decide (ax_w (.instantiable q.1 q.2.2)) && decide (ax_w (.initialized q.1)) && decide ((ax_dfl ci).length = q.2.2) | none => false) = true := by decide +kernel
theorem ax_cn_ok (ci : Nat) (q : vw_C) (hq : classes[ci]? = some q) : q.1 = ax_cn ci ∧ ax_w (.instantiable q.1 q.2.2) ∧ ax_w (.initialized q.1) ∧ (ax_dfl ci).length = q.2.2 := by
  have hl : ci < 10 := (List.getElem?_eq_some_iff.mp hq).1
  have h := List.all_eq_true.mp ax_cn_all ci (List.mem_range.mpr hl)
  simp only [hq, Bool.and_eq_true, decide_eq_true_eq] at h
  exact ⟨h.1.1.1, h.1.1.2, h.1.2, h.2⟩
theorem ax_tN_ok : ∀ e ∈ ax_tN, ax_w (.classLink (ax_cn e.1.1) e.1.2 (ax_cn e.2)) ∧ e.2 < 10 := by decide +kernel
theorem ax_tR_ok : ∀ e ∈ ax_tR, (e.2 = 3 ∧ ax_w (.classLink (ax_cn e.1.1) e.1.2 "MakingLimits$Offer")) ∨ (e.2 = 4 ∧ ax_w (.classLink (ax_cn e.1.1) e.1.2 "MakingLimits$Grade")) := by decide +kernel
theorem ax_ovO : ax_w (.arrayOver (.object "MakingLimits$Offer")) := by decide +kernel
theorem ax_ovG : ax_w (.arrayOver (.object "MakingLimits$Grade")) := by decide +kernel
theorem ax_arC : ax_w (.arrayClass (newarray.typeOf .char)) := by decide +kernel
theorem ax_arI : ax_w (.arrayClass (newarray.typeOf .int)) := by decide +kernel
theorem ax_arJ : ax_w (.arrayClass (newarray.typeOf .long)) := by decide +kernel
theorem ax_tO_ok : ∀ e ∈ ax_tO, ax_w (.methodLink (ax_cn e.1) e.2 Lib.objectInit) := by decide +kernel
theorem ax_oi_ok : ax_w (.instanceMethod Lib.objectInit) ∧ ax_w (.code Lib.objectInit ⟨#[0xb1]⟩ 1 none) := by decide +kernel
