section AxDisp
variable {D : va_G} {dA : Nat → ClassId} {b base : Nat} {p : Program} {l : Launch} {e : Env} {R : Room} {s : State} {m : MethodId} {args : Array Value} {below : List Frame} {meth : Method} {c : Code} {M : ax_M} {bs : ByteArray}
/-- what a call site's row says -/
theorem ax_callee_at {own ix : Nat} {g : Nat → Nat → MethodName → Nat → Nat → Nat → Bool} (h : ax_callee own ix g = true) {mi n : Nat} (ht : ax_tM.lookup (own, ix) = some (mi, n)) :
    ∃ y bs nL f lo, ax_mm[mi]? = some (y, bs, nL, f, lo) ∧ g mi n y nL f lo = true := by
  unfold ax_callee at h
  rw [ht] at h
  simp only at h
  split at h
  · rename_i z hz
    exact ⟨z.1, z.2.1, z.2.2.1, z.2.2.2.1, z.2.2.2.2, hz, h⟩
  · cases h
def ax_lkd (own ix : Nat) (y : MethodName) : Prop := ax_w (.methodLink (ax_cn own) ix y) ∨ ax_w (.methodLinkNest (ax_cn own) ix y "MakingLimits")
theorem ax_link_of {own ix : Nat} {y : MethodName} (h : ax_link own ix y = true) : ax_lkd own ix y := by
  unfold ax_lkd
  simpa only [ax_link, Bool.or_eq_true, decide_eq_true_eq] using h
def ax_fits2 (fr lo nL f l : Nat) (y : MethodName) : Prop := y ≠ x ∧ f + 1 ≤ fr ∧ 8 + (nL + 11) + l ≤ lo ∧ (y.cls ≠ "java/lang/invoke/MethodHandle" ∧ y.cls ≠ "java/lang/invoke/VarHandle")
theorem ax_fit_of {fr lo mi nL f l : Nat} {y : MethodName} (h : ax_fit fr lo mi nL f l y = true) : ax_fits2 fr lo nL f l y := by
  simp only [ax_fit, Bool.and_eq_true, decide_eq_true_eq] at h
  exact ⟨h.1.1.1.1, h.1.1.1.2, h.1.1.2, h.1.2, h.2⟩
theorem ax_okS_at {fr lo own ix mi n : Nat} (h : ax_okS fr lo own ix = true) (ht : ax_tM.lookup (own, ix) = some (mi, n)) :
    ∃ y bs nL f lo1, ax_mm[mi]? = some (y, bs, nL, f, lo1) ∧ ax_fits2 fr lo nL f lo1 y ∧ ax_lkd own ix y ∧ ax_w (.static y) ∧ ax_w (.initialized y.cls) ∧ (parseMethodDescriptor y.desc).map (fun d => d.parameters.length) = some n := by
  obtain ⟨y, bs, nL, f, lo1, h1, h2⟩ := ax_callee_at h ht
  simp only [Bool.and_eq_true, decide_eq_true_eq] at h2
  exact ⟨y, bs, nL, f, lo1, h1, ax_fit_of h2.1.1.1.1, ax_link_of h2.1.1.1.2, h2.1.1.2, h2.1.2, h2.2⟩
theorem ax_okV_at {fr lo own ix mi n : Nat} (h : ax_okV fr lo own ix = true) (ht : ax_tM.lookup (own, ix) = some (mi, n)) :
    ∃ y bs nL f lo1, ax_mm[mi]? = some (y, bs, nL, f, lo1) ∧ ax_fits2 fr lo nL f lo1 y ∧ ax_lkd own ix y ∧ ax_w (.instanceMethod y) ∧ ax_w (.selects y.cls y y) ∧ (parseMethodDescriptor y.desc).map (fun d => d.parameters.length + 1) = some n ∧ (classes[ax_rc mi]?).map (fun q => q.1) = some y.cls := by
  obtain ⟨y, bs, nL, f, lo1, h1, h2⟩ := ax_callee_at h ht
  simp only [Bool.and_eq_true, decide_eq_true_eq] at h2
  exact ⟨y, bs, nL, f, lo1, h1, ax_fit_of h2.1.1.1.1.1, ax_link_of h2.1.1.1.1.2, h2.1.1.1.2, h2.1.1.2, h2.1.2, h2.2⟩
theorem ax_okN_at {fr lo own ix mi n : Nat} (h : ax_okN fr lo own ix = true) (ht : ax_tM.lookup (own, ix) = some (mi, n)) :
    ∃ y bs nL f lo1, ax_mm[mi]? = some (y, bs, nL, f, lo1) ∧ ax_fits2 fr lo nL f lo1 y ∧ ax_lkd own ix y ∧ ax_w (.instanceMethod y) ∧ y.name = "<init>" ∧ (ax_pr[mi]?).map (fun M => (M.2.1, M.2.2.2.1)) = some (none, []) ∧ (parseMethodDescriptor y.desc).map (fun d => d.parameters.length + 1) = some n := by
  obtain ⟨y, bs, nL, f, lo1, h1, h2⟩ := ax_callee_at h ht
  simp only [Bool.and_eq_true, decide_eq_true_eq] at h2
  exact ⟨y, bs, nL, f, lo1, h1, ax_fit_of h2.1.1.1.1.1, ax_link_of h2.1.1.1.1.2, h2.1.1.1.2, h2.1.1.2, h2.1.2, h2.2⟩
/-- the method itself -/
theorem ax_meth (hG : ∀ w ∈ lw_tbl, ax_gw w = true → w.before args s = true) {mi : Nat} {M1 : ax_M} {y1 : MethodName} {bs1 : ByteArray} {nL1 fr1 lo1 : Nat} (hpr : ax_pr[mi]? = some M1) (hmm : ax_mm[mi]? = some (y1, bs1, nL1, fr1, lo1)) (hyx : y1 ≠ x) :
    ∃ mk meth1, s.methodNamed? y1 = some mk ∧ s.vm.method? mk = some meth1 ∧ parseMethodDescriptor y1.desc = some meth1.sig := by
  obtain ⟨-, -, -, -, hco0, -, -⟩ := ax_mt_ok mi M1 _ hpr hmm
  rcases hco0.resolve_left hyx with ⟨he, hw⟩ | ⟨-, hw⟩
  · have hw1 := hG _ hw.1 hw.2
    obtain ⟨mk, hn⟩ := Cond.code_named hw1
    obtain ⟨meth1, c1, q1, q2, q3, q4, q5, q6, q7, q8⟩ := Cond.code_spec hn hw1
    exact ⟨mk, meth1, hn, q1, q8⟩
  · obtain ⟨mk', meth1, c1, q0, q1, q2, q3, q4, q5, q6, q7, q8⟩ := Cond.codeWith_spec (hG _ hw.1 hw.2)
    exact ⟨mk', meth1, q0, q1, q8⟩
theorem ax_dispS (hx : p.tables.exec = Jvm.exec) (hbs : c.code = bs) (hown : s.vm.findClass (ax_cn M.1) = some m.cls) (hG : ∀ w ∈ lw_tbl, ax_gw w = true → w.before args s = true) {ix mi n pc : Nat} {M1 : ax_M} {y1 : MethodName} {bs1 : ByteArray} {nL1 fr1 lo1 : Nat} (hpr : ax_pr[mi]? = some M1) (hmm : ax_mm[mi]? = some (y1, bs1, nL1, fr1, lo1)) (hyx : y1 ≠ x) (hy : y1.cls ≠ "java/lang/invoke/MethodHandle" ∧ y1.cls ≠ "java/lang/invoke/VarHandle")
    (hl : ax_lkd M.1 ix y1) (hst : ax_w (.static y1)) (hin : ax_w (.initialized y1.cls)) (hd : (parseMethodDescriptor y1.desc).map (fun d => d.parameters.length) = some n) (hdg : decode bs pc = .ok (.invokestatic ix, 3)) {st : List Value} {h : ax_H} (hn : n ≤ st.length) :
    ax_disp D dA b base p l e R s m args below meth c y1 n pc st h := by
  intro T locs cells slots ls X hrep
  obtain ⟨mk, meth1, hnamed, hmeth1, hsig⟩ := ax_meth hG hpr hmm hyx
  have hlen : ((st.take n).reverse.map (ax_v b base)).length = meth1.sig.parameters.length := by
    rw [hsig] at hd
    simp only [Option.map_some, Option.some.injEq] at hd
    simp only [List.length_map, List.length_reverse, List.length_take]
    omega
  have hstack : (F0 m pc ls (st.map (ax_v b base))).stack = ((st.take n).reverse.map (ax_v b base)).reverse ++ (st.drop n).map (ax_v b base) := by
    show st.map (ax_v b base) = _
    rw [← List.map_reverse, List.reverse_reverse, ← List.map_append, List.take_append_drop]
  have hstatic : meth1.isStatic = true := Cond.static_spec hnamed hmeth1 (hG _ hst.1 hst.2)
  obtain ⟨kP, hkP, -⟩ := className_of_methodNamed hnamed
  have hinitP : kP.init = .initialized := Cond.initialized_spec (findClass_of_methodNamed hnamed) hkP (hG _ hin.1 hin.2)
  rcases hl with hl | hl
  · obtain ⟨vm₁, X₁, hstep₁⟩ := X.invokestatic hx hown (hG _ hl.1 hl.2) hnamed hmeth1 hstatic hkP hinitP hy (g := F0 m pc ls (st.map (ax_v b base))) rfl hlen hstack (by rw [hbs]; exact hdg)
    exact ⟨vm₁, mk, hnamed, X₁, hstep₁⟩
  · obtain ⟨vm₁, X₁, hstep₁⟩ := X.invokestaticNest hx hown (hG _ hl.1 hl.2) hnamed hmeth1 hstatic hkP hinitP hy (g := F0 m pc ls (st.map (ax_v b base))) rfl hlen hstack (by rw [hbs]; exact hdg)
    exact ⟨vm₁, mk, hnamed, X₁, hstep₁⟩
theorem ax_recv_split {st as : List Value} {n a : Nat} (h : (st.take n).reverse = .ref a :: as) : st.map (ax_v b base) = (as.map (ax_v b base)).reverse ++ .ref (ax_ad b base a) :: (st.drop n).map (ax_v b base) ∧ ((st.take n).reverse.map (ax_v b base)) = .ref (ax_ad b base a) :: as.map (ax_v b base) := by
  have h1 : st.take n = as.reverse ++ [.ref a] := by
    have := congrArg List.reverse h
    rw [List.reverse_reverse, List.reverse_cons] at this
    exact this
  constructor
  · conv => lhs; rw [← List.take_append_drop n st]
    rw [h1]
    simp [ax_v]
  · rw [h]
    simp [ax_v]
theorem ax_dispV (hx : p.tables.exec = Jvm.exec) (hbs : c.code = bs) (hown : s.vm.findClass (ax_cn M.1) = some m.cls) (hG : ∀ w ∈ lw_tbl, ax_gw w = true → w.before args s = true) (hK : va_K D classes (ax_tys dA) s) {ix mi n pc : Nat} {M1 : ax_M} {y1 : MethodName} {bs1 : ByteArray} {nL1 fr1 lo1 : Nat} (hpr : ax_pr[mi]? = some M1) (hmm : ax_mm[mi]? = some (y1, bs1, nL1, fr1, lo1)) (hyx : y1 ≠ x) (hy : y1.cls ≠ "java/lang/invoke/MethodHandle" ∧ y1.cls ≠ "java/lang/invoke/VarHandle")
    (hl : ax_lkd M.1 ix y1) (hit : ax_w (.instanceMethod y1)) (hse : ax_w (.selects y1.cls y1 y1)) (hd : (parseMethodDescriptor y1.desc).map (fun d => d.parameters.length + 1) = some n) (hrc : (classes[ax_rc mi]?).map (fun q => q.1) = some y1.cls) (hdg : decode bs pc = .ok (.invokevirtual ix, 3)) {st : List Value} {h : ax_H} (hn : n ≤ st.length)
    {a : Nat} {as fs : List Value} (hsp : (st.take n).reverse = .ref a :: as) (hob : h.1[a]? = some (some (.inr (ax_rc mi, fs)))) :
    ax_disp D dA b base p l e R s m args below meth c y1 n pc st h := by
  intro T locs cells slots ls X hrep
  obtain ⟨mk, meth1, hnamed, hmeth1, hsig⟩ := ax_meth hG hpr hmm hyx
  obtain ⟨mk', methM, hnamed', hmethM, hstM, habM⟩ := Cond.instanceMethod_spec (hG _ hit.1 hit.2)
  cases hnamed.symm.trans hnamed'
  cases hmeth1.symm.trans hmethM
  have hlen : (as.map (ax_v b base)).length = meth1.sig.parameters.length := by
    have h2 := congrArg List.length hsp
    rw [hsig] at hd
    simp only [Option.map_some, Option.some.injEq] at hd
    simp only [List.length_map, List.length_reverse, List.length_take, List.length_cons] at h2 ⊢
    omega
  obtain ⟨hs1, hs2⟩ := ax_recv_split (b := b) (base := base) hsp
  obtain ⟨q0, hq0, hqc⟩ := Option.map_eq_some_iff.mp hrc
  obtain ⟨r0, hr0, cell, hcell, hcc, hcv, -⟩ : va_at D classes (ax_ad b base a, ax_e b base dA (.inr (ax_rc mi, fs))) T.heap := hrep.2.2 a _ hob
  cases hq0.symm.trans hr0
  have hfc : s.vm.findClass y1.cls = some cell.cls := by
    rw [← hqc, hcc]
    exact (hK.1 _ _ hq0).2.1
  obtain ⟨c2, r2, m2, q1, q2, q3, q4, kP, hkP, hkPi⟩ := Cond.selects_spec (hG _ hse.1 hse.2)
  cases hfc.symm.trans q1
  cases (State.methodFound?_of_named hnamed hy).symm.trans q2
  cases hnamed.symm.trans q3
  have hselP : selectMethod e.platform s.vm cell.cls mk = .method mk := by rw [Launch.admits_selectMethod X.admits]; exact q4
  rcases hl with hl | hl
  · obtain ⟨vm₁, X₁, hstep₁⟩ := X.invokevirtual hx hown (hG _ hl.1 hl.2) hnamed hmeth1 hstM hkP hkPi hy (a := ax_ad b base a) (cell := cell) hcell
      (fun z hz => by rw [hcv] at hz; cases hz) hselP hmeth1 habM hkP hkPi (g := F0 m pc ls (st.map (ax_v b base))) rfl (argsL := as.map (ax_v b base)) (rest := (st.drop n).map (ax_v b base)) hlen hs1 (by rw [hbs]; exact hdg)
    refine ⟨vm₁, mk, hnamed, X₁, fun tg hh => hstep₁ tg ?_⟩
    rw [hs2] at hh
    exact hh
  · obtain ⟨vm₁, X₁, hstep₁⟩ := X.invokevirtualNest hx hown (hG _ hl.1 hl.2) hnamed hmeth1 hstM hkP hkPi hy (a := ax_ad b base a) (cell := cell) hcell
      (fun z hz => by rw [hcv] at hz; cases hz) hselP hmeth1 habM hkP hkPi (g := F0 m pc ls (st.map (ax_v b base))) rfl (argsL := as.map (ax_v b base)) (rest := (st.drop n).map (ax_v b base)) hlen hs1 (by rw [hbs]; exact hdg)
    refine ⟨vm₁, mk, hnamed, X₁, fun tg hh => hstep₁ tg ?_⟩
    rw [hs2] at hh
    exact hh
theorem ax_dispN (hx : p.tables.exec = Jvm.exec) (hbs : c.code = bs) (hown : s.vm.findClass (ax_cn M.1) = some m.cls) (hG : ∀ w ∈ lw_tbl, ax_gw w = true → w.before args s = true) {ix mi n pc : Nat} {M1 : ax_M} {y1 : MethodName} {bs1 : ByteArray} {nL1 fr1 lo1 : Nat} (hpr : ax_pr[mi]? = some M1) (hmm : ax_mm[mi]? = some (y1, bs1, nL1, fr1, lo1)) (hyx : y1 ≠ x) (hy : y1.cls ≠ "java/lang/invoke/MethodHandle" ∧ y1.cls ≠ "java/lang/invoke/VarHandle")
    (hl : ax_lkd M.1 ix y1) (hit : ax_w (.instanceMethod y1)) (hnm : y1.name = "<init>") (hrh : (ax_pr[mi]?).map (fun M => (M.2.1, M.2.2.2.1)) = some (none, [])) (hd : (parseMethodDescriptor y1.desc).map (fun d => d.parameters.length + 1) = some n) (hdg : decode bs pc = .ok (.invokespecial ix, 3)) {st : List Value} {h : ax_H} (hn : n ≤ st.length)
    {a : Nat} {as : List Value} (hsp : (st.take n).reverse = .ref a :: as) :
    ax_disp D dA b base p l e R s m args below meth c y1 n pc st h := by
  intro T locs cells slots ls X hrep
  have hpl : e.platform.magicAccessors = ({} : Platform).magicAccessors := by rw [X.admits.platform]
  obtain ⟨mk, meth1, hnamed, hmeth1, hsig⟩ := ax_meth hG hpr hmm hyx
  obtain ⟨-, -, -, -, hco0, -, -⟩ := ax_mt_ok mi M1 _ hpr hmm
  rw [hpr] at hrh
  simp only [Option.map_some, Option.some.injEq, Prod.mk.injEq] at hrh
  have hcode : (Jvm.Cond.code y1 bs1 nL1 none).before args s = true := by
    rcases hco0.resolve_left hyx with ⟨-, hw⟩ | ⟨he, -⟩
    · have := hG _ hw.1 hw.2
      rw [hrh.1] at this
      exact this
    · exact absurd hrh.2 he
  have hlen : ∀ sig, parseMethodDescriptor y1.desc = some sig → (as.map (ax_v b base)).length = sig.parameters.length := by
    intro sig hsg
    have h2 := congrArg List.length hsp
    rw [hsg] at hd
    simp only [Option.map_some, Option.some.injEq] at hd
    simp only [List.length_map, List.length_reverse, List.length_take, List.length_cons] at h2 ⊢
    omega
  obtain ⟨hs1, hs2⟩ := ax_recv_split (b := b) (base := base) hsp
  rcases hl with hl | hl
  · obtain ⟨tm, meth2, cd, k, vm', g1, -, -, -, -, -, -, -, hW', hstep⟩ := Steps.initColdArgs (e := e) X.here hx X.warmed hpl hown hnm hy (hG _ hl.1 hl.2) (hG _ hit.1 hit.2) hcode (f := F0 m pc ls (st.map (ax_v b base))) rfl (argsL := as.map (ax_v b base)) (rest := (st.drop n).map (ax_v b base)) hlen hs1 (by rw [hbs]; exact hdg)
    refine ⟨vm', tm, g1, X.noted hW', fun tg hh => hstep tg ?_⟩
    rw [hs2] at hh
    exact hh
  · obtain ⟨tm, meth2, cd, k, vm', g1, -, -, -, -, -, -, -, hW', hstep⟩ := Steps.initColdArgsNest (e := e) X.here hx X.warmed hpl hown hnm hy (hG _ hl.1 hl.2) (hG _ hit.1 hit.2) hcode (f := F0 m pc ls (st.map (ax_v b base))) rfl (argsL := as.map (ax_v b base)) (rest := (st.drop n).map (ax_v b base)) hlen hs1 (by rw [hbs]; exact hdg)
    refine ⟨vm', tm, g1, X.noted hW', fun tg hh => hstep tg ?_⟩
    rw [hs2] at hh
    exact hh
end AxDisp
