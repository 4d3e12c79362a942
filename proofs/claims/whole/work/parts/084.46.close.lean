/-! THE CLAIM OUT OF A RUN OF THE LAW ON THE ABSTRACT MACHINE -/
def R_law : String := "MakingLimitsLaw"
def lw_P (b : Addr) (xs : List Int32) (args : Array Value) (s : State) : Prop := args = #[.ref b] ∧ s.IntsAt b xs ∧ xs.length ≤ 3584 ∧ (Jvm.Cond.and given_1 narrow_1).before args s = true
def lw_Q (_ : Array Value) (s : State) (o : Outcome) (t : State) : Prop := o = .returned (some (.int 1)) ∧ Framed s o t [] 601024 7293034
def lw_Z (below : List Frame) (a : Array Value) (s : State) : State → Prop := fun t => ∃ o, t.status = .running ∧ Ended t below o ∧ lw_Q a s o t
def lw_At (p : Program) (s : State) (m : MethodId) (meth : Method) (c : Code) (b L : Nat) (xs : Nat → Int32) : Prop :=
  p.tables.exec = Jvm.exec ∧ c.code = code ∧ meth.sig.returnType = ret ∧ c.maxLocals = 8 ∧ s.vm.findClass R_law = some m.cls ∧ (∀ w ∈ lw_tbl, w.before #[Value.ref b] s = true) ∧ va_X b L xs s s.heap ∧ b < s.heap.size ∧ meth.locks = false ∧ (Jvm.Cond.and given_1 narrow_1).before #[Value.ref b] s = true ∧ meth.name = x.name ∧ c.exceptionTable.toList = []
/-- what is to be shown of the abstract machine -/
def ax_lawful : Prop := ∀ (L : Nat) (xs : Nat → Int32), L ≤ 3584 → ∃ h1 : ax_H, ax_run m_La_law [.ref 0] ([some (.inl (9, L, .inl xs))], 0) (.inl (some (.int 1)), h1) ∧ h1.1.length ≤ 601025 ∧ h1.2 ≤ 7293034
theorem ax_four_tbl : Jvm.Cond.laysStatic Bundle.tN "UNASSIGNED_STACK" Bundle.steD ∈ lw_tbl ∧ Jvm.Cond.laysStatic Bundle.tN "SUPPRESSED_SENTINEL" Bundle.listD ∈ lw_tbl := by decide +kernel
theorem ax_tw1_of {C n d : String} {A : Array Value} {s : State} (h1 : (Jvm.Cond.laysStatic C n d).before A s = true) (h2 : (Jvm.Cond.isRef (.static C n d)).before A s = true) : ax_tw1 s.heap.size C n d s := by
  refine ⟨h1, h2, fun c k i f a g1 g2 => ?_⟩
  obtain ⟨c', k', i', f', a', cell, hc, hi, hst, ha, hcell, -⟩ := Cond.laysStatic_spec h1
  cases hi.symm.trans g1
  cases ha.symm.trans g2
  exact (Array.getElem?_eq_some_iff.mp hcell).1
theorem ax_world {A : Array Value} {s : State} (hts : ∀ w ∈ lw_tbl, w.before A s = true) : ∃ (D : va_G) (dA : Nat → ClassId), va_K D classes (ax_tys dA) s := by
  have hW : ∀ {w : Jvm.Cond}, ax_w w → w.before A s = true := fun hw => hts _ hw.1
  have h1 : ∀ ci : Nat, ∃ (cC : ClassId) (iS : Nat → Nat), ∀ q, classes[ci]? = some q → u_Kn s q.1 q.2.1 q.2.2 cC iS := by
    intro ci
    cases hq : classes[ci]? with
    | none => exact ⟨0, fun _ => 0, fun q h => by cases h⟩
    | some q =>
      obtain ⟨cC, iS, h⟩ := u_known (ws := lw_tbl) hts (fun w hw => (ax_cls_ok ci q hq w hw).1) (hW (ax_cn_ok ci q hq).2.1)
      exact ⟨cC, iS, fun q' h' => by cases h'; exact h⟩
  obtain ⟨cI, kI, compI, i1, i2, i3⟩ := Cond.arrayClass_spec (hW ax_arI)
  obtain ⟨cJ, kJ, compJ, j1, j2, j3⟩ := Cond.arrayClass_spec (hW ax_arJ)
  obtain ⟨cC, kC, compC, c1, c2, c3⟩ := Cond.arrayClass_spec (hW ax_arC)
  obtain ⟨compO, cO, kO, o1, -, o2, o3, o4⟩ := Cond.arrayOver_spec (hW ax_ovO)
  obtain ⟨compG, cG, kG, g1, -, g2, g3, g4⟩ := Cond.arrayOver_spec (hW ax_ovG)
  refine ⟨(fun ci => Classical.choose (h1 ci), fun ci => Classical.choose (Classical.choose_spec (h1 ci))), fun k => match k with | 0 => cI | 1 => cJ | 2 => cC | 3 => cO | _ => cG, fun ci q hq => Classical.choose_spec (Classical.choose_spec (h1 ci)) q hq, fun k q hk => ?_⟩
  have hl : k < 5 := (List.getElem?_eq_some_iff.mp hk).1
  match k, hl, hk with
  | 0, _, hk => cases hk; exact ⟨fun n z => ⟨fun k h => (by cases h), kI, i2, compI, i3⟩, i1⟩
  | 1, _, hk => cases hk; exact ⟨fun n z => ⟨fun k h => (by cases h), kJ, j2, compJ, j3⟩, j1⟩
  | 2, _, hk => cases hk; exact ⟨fun n z => ⟨fun k h => (by cases h), kC, c2, compC, c3⟩, c1⟩
  | 3, _, hk => cases hk; exact ⟨fun n z => ⟨fun k h => (by cases h), kO, o2, compO, o3⟩, kO, compO, o2, o3, o1, o4⟩
  | 4, _, hk => cases hk; exact ⟨fun n z => ⟨fun k h => (by cases h), kG, g2, compG, g3⟩, kG, compG, g2, g3, g1, g4⟩
theorem ax_frame {s t : State} {L : List Loc} {k n k' n' : Nat} (h : s.sameButNew t L k n) (hL : ∀ q ∈ L, s.heap.size ≤ q.base) (hk : k ≤ k') (hn : n ≤ n') : s.sameButNew t [] k' n' := by
  obtain ⟨h1, h2, h3, h4, h5, h6⟩ := h
  refine ⟨h1, h2, by omega, h4, by omega, fun a c hc => ?_⟩
  obtain ⟨c', e1, e2, e3, e4⟩ := h6 a c hc
  refine ⟨c', e1, e2, e3, fun i _ => e4 i (fun z => ?_)⟩
  have hl := (Array.getElem?_eq_some_iff.mp hc).1
  have h9 : s.heap.size ≤ a := hL _ z
  omega
theorem whole_start (hlaw : ax_lawful) {p : Program} {e : Env} {s : State} {m : MethodId} {below : List Frame} {meth : Method} {c : Code} (l : Launch) (hfl : l.flags = flags0) {b L : Nat} {xs : Nat → Int32} (hL : L ≤ 3584) (C0 : lw_At p s m meth c b L xs) : W p l e room_1 s m #[Value.ref b] below meth c s.heap [] 0 0 (lw_Z below #[Value.ref b] s) (entryFrame m ([Value.ref b] : List Value).toArray 8) := by
  obtain ⟨hx, hcode, hret, hml, hown, hts, hX, hbl, hlocks, hgv, hnm, htab⟩ := C0
  intro T hT X
  have htr : e.platform.stackTraces = false := Launch.traces_off hfl X.admits
  obtain ⟨D, dA, hK⟩ := ax_world hts
  have hs := flat_of_before _ hgv
  have hN0 : va_Nc (ax_en 1) (ax_en 0) s := va_Nc.of (hs (Jvm.Cond.not (.castable "java/lang/IllegalArgumentException" "java/lang/IndexOutOfBoundsException")) (by decide +kernel))
  have hN1 : va_Nc (ax_en 0) (ax_en 1) s := va_Nc.of (hs (Jvm.Cond.not (.castable "java/lang/IndexOutOfBoundsException" "java/lang/IllegalArgumentException")) (by decide +kernel))
  have hTw : ax_tws s.heap.size s := ⟨ax_tw1_of (hts _ ax_four_tbl.1) (hs (Jvm.Cond.isRef (.static Bundle.tN "UNASSIGNED_STACK" Bundle.steD)) (by decide +kernel)), ax_tw1_of (hts _ ax_four_tbl.2) (hs (Jvm.Cond.isRef (.static Bundle.tN "SUPPRESSED_SENTINEL" Bundle.listD)) (by decide +kernel))⟩
  obtain ⟨h1, hrun, hc1, hc2⟩ := hlaw L xs hL
  have S := ax_sound D dA b s.heap.size l hrun
  have hctx : ax_ctx D dA b s.heap.size p e room_1 s m #[Value.ref b] meth c M_La_law x code 8 10 178 := by
    refine ⟨hbl, hx, hcode, hml, hret, hlocks, ?_, hown, hnm, fun w hw _ => hts w hw, hK, hTw, hN0, hN1, Nat.le_refl _, by decide, by decide, htr⟩
    rw [htab]
    rfl
  have hrep : ax_rep D dA b s.heap.size s ([some (.inl (9, L, .inl xs))], 0) s.heap := by
    refine ⟨⟨L, xs, rfl⟩, rfl, fun i c hi => ?_⟩
    have hl : i < 1 := (List.getElem?_eq_some_iff.mp hi).1
    have h0 : i = 0 := by omega
    subst h0
    cases hi
    exact hX
  have hWW := S.2.2 M_La_law x code 8 10 178 rfl rfl p e room_1 s m below meth c hctx (by show h1.1.length - 1 ≤ 601024; omega) (by show h1.2 - 0 ≤ 7293034; omega) hrep
  obtain ⟨t, st, o, r1, r2, r3, r4, r5, Lc, r6, r7⟩ := hWW T hT X
  have r3' : o = .returned (some (.int 1)) := r3
  subst r3'
  refine ⟨t, st, _, r1, r2, rfl, ⟨_, rfl⟩, r5, ax_frame r6 r7 ?_ ?_⟩
  · show h1.1.length - 1 ≤ 601024
    omega
  · show h1.2 - 0 ≤ 7293034
    omega
set_option maxHeartbeats 4000000 in
theorem lw_walk (hlaw : ax_lawful) (l : Launch) (hfl : l.flags = flags0) (b : Addr) (xs : List Int32) : MetFree l x (headSpec (Jvm.Cond.code x code maxLocals ret :: tables_1) room_1) (lw_P b xs) (fun _ _ _ _ _ => True) lw_Q := by
  refine MetFree.of_bodyS (code := code) (maxLocals := maxLocals) (ret := ret) (by decide) ?_ ?_
  · intro args s m h hn
    obtain ⟨meth, c, h1, h2, h3, h4, h5, h6, -, -⟩ := Cond.code_spec hn (atoms_spec (ws := Jvm.Cond.code x code maxLocals ret :: tables_1) h _ List.mem_cons_self)
    exact ⟨meth, c, h1, h2, h3, h4, h5, h6⟩
  · intro p e s m args below meth c s₁ B hml0 hP _
    obtain ⟨rfl, hx, hbd, hgv⟩ := hP
    obtain ⟨scr, harrAt, hlist, hof, hsmall⟩ := hx
    obtain ⟨hcb, hkn, -, -⟩ := State.arrayAt?_spec harrAt
    have hown : s.vm.findClass R_law = some m.cls := findClass_of_methodNamed B.named
    have hts0 : ∀ c ∈ (Jvm.Cond.code x code maxLocals ret :: tables_1), c.before #[Value.ref b] s = true := atoms_spec (ws := Jvm.Cond.code x code maxLocals ret :: tables_1) B.pre
    have hts : ∀ w ∈ lw_tbl, w.before #[Value.ref b] s = true := k2_hts_sels lw_privs (fun w hw => hts0 w (List.mem_cons_of_mem _ hw)) lw_privs_ok
    have hml : c.maxLocals = 8 := B.maxLocals_eq (hts0 _ List.mem_cons_self)
    have X₀ : Stand p l e room_1 s m #[Value.ref b] below meth c s₁ [] 0 0 := Stand.of_body B
    have hh0 : s₁.heap = s.heap := by rw [B.state]; rfl
    have hsz : scr.slots.size = xs.length := by rw [← Array.length_toList, hlist, List.length_map]
    have hval : ∀ j : Nat, j < xs.length → scr.slots[j]? = some (.int (xs.getD j 0)) := fun j hj => by
      rw [← Array.getElem?_toList, hlist]
      simp [hj]
    have hbl : b < s.heap.size := (Array.getElem?_eq_some_iff.mp hcb).1
    have hX : va_X b xs.length (fun j => xs.getD j 0) s s.heap := ⟨scr, hcb, hof, hkn, hsz, hval⟩
    obtain ⟨methX, cX, hmX, hcX, -, -, -, -, hemX, -⟩ := Cond.code_spec B.named (hts0 _ List.mem_cons_self)
    cases X₀.method.symm.trans hmX
    cases X₀.code.symm.trans hcX
    have hnm : meth.name = x.name := (name_of_methodNamed B.named hmX).1
    have htab : c.exceptionTable.toList = [] := by rw [Array.isEmpty_iff.mp hemX]
    have K : W p l e room_1 s m #[Value.ref b] below meth c s₁.heap [] 0 0 (lw_Z below #[Value.ref b] s) (entryFrame m ([Value.ref b] : List Value).toArray 8) := by
      rw [hh0]
      exact whole_start hlaw l hfl hbd ⟨B.exec, B.bytes, B.returns, hml, hown, hts, hX, hbl, B.notSynchronized, hgv, hnm, htab⟩
    obtain ⟨t, a1, o, b1, b2, b3⟩ := K s₁ rfl X₀
    exact ⟨t, o, a1, b1, b2, b3⟩
theorem lw_pre_spec {args : Array Value} {s : State} (h : (Jvm.Cond.and given_1 narrow_1).before args s = true) (hr : rest_1_c.before args s = true) : ∃ (b : Addr) (xs : List Int32), lw_P b xs args s := by
  have hs := flat_of_before _ h
  have hq := flat_of_before _ hr
  have hc : (Cond.count 1).before args s = true := hs _ (by decide +kernel)
  have harr : (Cond.arrayOf (.arg 0) .int).before args s = true := hs _ (by decide +kernel)
  have hle : (Cond.le (.length (.arg 0)) (.int 3584)).before args s = true := hs _ (by decide +kernel)
  have hlen : (Cond.isInt (.length (.arg 0))).before args s = true := hq _ (by decide +kernel)
  have hall : (Cond.all (.arg 0) (.isInt (.elem (.arg 0) (.index 0)))).before args s = true := hq _ (by decide +kernel)
  obtain ⟨b, xs, hb, hx⟩ := State.ints_of_pre rfl harr hlen hall
  have hsm : xs.length < 2 ^ 31 := hx.choose_spec.2.2.2
  have hev : (Term.length (.arg 0)).eval args s none [] s = some (.int xs.length.toInt32) := hx.length_eval hb
  have hv := Cond.le_ints hev (show (Term.int 3584).eval args s none [] s = some (.int 3584) from rfl)
  have hd : xs.length.toInt32 ≤ 3584 := by
    simpa [Cond.before, Cond.holds, hv] using hle
  have hN : xs.length ≤ 3584 := (Int32.ofNat_le_ofNat hsm (by decide)).mp (show Int32.ofNat xs.length ≤ Int32.ofNat 3584 from hd)
  exact ⟨b, xs, Cond.one_arg hc (show args[0]? = some (.ref b) from hb), hx, hN, h⟩
theorem lw_comes (hlaw : ax_lawful) (l : Launch) (hfl : l.flags = flags0) : Comes l x (Jvm.Cond.code x code maxLocals ret :: tables_1) room_1 (fun tb e args s => Calls_1 tb e args s ∧ rest_1 tb e args s ∧ Pre_1 tb e args s)
    (fun _ _ args s o t => lw_Q args s o t) := by
  intro p e ha hc hk s m args below hf hfit hheap happ hpre
  obtain ⟨b, xs, hP⟩ := lw_pre_spec hpre.2.2 hpre.2.1
  obtain ⟨k, o, h1, h2, h3, hQ⟩ := lw_walk hlaw l hfl b xs p e ha hc hk s m args below hf ((Spec.applies_iff_loose hf).mp happ).1 hP trivial
  exact ⟨k, o, h1, h2, h3, hQ⟩
theorem lw_frame {s t : State} {o : Outcome} {args : Array Value} (h : Framed s o t [] 601024 7293034) :
    Framed s o t (fieldLocs frame_1_writes args s ++ arrayLocs frame_1_arrays args s ++ staticLocs frame_1_statics s) 601024 7293034 := h
theorem lw_limb (hlaw : ax_lawful) (L : Cond) (hL : ∀ (args : Array Value) (s t : State), L.after args s (.returned (some (.int 1))) t = true) :
    ArmFor flags0 classFile x code maxLocals ret World_1 tables_1 room_1 Calls_1 rest_1 Pre_1
      (fun tb e a s o t => postC L tb e a s o t ∧ Framed s o t (fieldLocs frame_1_writes a s ++ arrayLocs frame_1_arrays a s ++ staticLocs frame_1_statics s) 601024 7293034) := by
  intro l hfl _ _ p e ha hc hk s m args below hf hfit hheap happ hpre
  obtain ⟨k, o, h1, h2, h3, rfl, hF⟩ := lw_comes hlaw l hfl p e ha hc hk s m args below hf hfit hheap happ hpre
  exact ⟨k, _, h1, h2, h3, hL args s _, lw_frame hF⟩
theorem ax_vc (hlaw : ax_lawful) : Claimed_1_1 ∧ Claimed_1_2 := ⟨lw_limb hlaw limb_1_1 (fun args s t => by simp [limb_1_1, Cond.after, Cond.holds, Cond.value]), lw_limb hlaw limb_1_2 (fun args s t => Cond.after_iff.mpr (by
  first | (rw [show limb_1_2 = Cond.eq .result (.int 1) from rfl, Cond.eq_ints (x := 1) (y := 1) rfl rfl]; simp; done) | (simp [limb_1_2, Cond.value, Term.eval]; done)))⟩
