/-! what the throwing of an exception asks of Throwable's statics, which lie below base -/
def ax_tw1 (base : Nat) (C n d : String) (s : State) : Prop :=
  (Jvm.Cond.laysStatic C n d).before #[] s = true ∧ (Jvm.Cond.isRef (.static C n d)).before #[] s = true ∧ ∀ c k i f a, s.fieldFound? C n d = some (c, k, i, f) → k.statics = some a → a < base
def ax_tws (base : Nat) (s : State) : Prop := ax_tw1 base Bundle.tN "UNASSIGNED_STACK" Bundle.steD s ∧ ax_tw1 base Bundle.tN "SUPPRESSED_SENTINEL" Bundle.listD s
theorem ax_tw1_keep {base : Nat} {C n d : String} {s U : State} (hal : s.vm.Alike U.vm) (hq : ∀ q : Nat, q < base → U.heap[q]? = s.heap[q]?) (h : ax_tw1 base C n d s) : ax_tw1 base C n d U := by
  obtain ⟨hl, hr, hb⟩ := h
  obtain ⟨c, k, i, f, a, cell, hc, hi, hst, ha, hcell, hs, hcls, hlt, hty⟩ := Cond.laysStatic_spec hl
  obtain ⟨k', hi', he⟩ := State.fieldFound?_setVm hal hi
  have hi' : U.fieldFound? C n d = some (c, k', i, f) := hi'
  have ha' : k'.statics = some a := by rw [he]; exact ha
  have hty' : k'.staticTypes[f.slot]? = some f.type := by rw [he]; exact hty
  have hab := hb c k i f a hi ha
  have hcell' : U.heap[a]? = some cell := by rw [hq a hab]; exact hcell
  have hc' : U.vm.findClass C = some c := by rw [hal.findClass]; exact hc
  refine ⟨?_, ?_, fun c2 k2 i2 f2 a2 h1 h2 => ?_⟩
  · simp [Cond.before, Cond.holds, Cond.value, hc', hi', ha', hcell', hst, hs, hcls, hlt, hty']
  · cases hv : (Term.static C n d).eval #[] s none [] s with
    | none => simp [Cond.before, Cond.holds, Cond.value, hv] at hr
    | some w =>
      obtain ⟨-, a1, cell1, e1, e2, -, e3⟩ := Term.static_spec hi hv
      cases ha.symm.trans e1
      cases hcell.symm.trans e2
      have hv' : (Term.static C n d).eval #[] U none [] U = some w := by
        simp [Term.eval, State.fieldNamed?, hi', hst, ha', hcell', hs, e3]
      simp only [Cond.before, Cond.holds, Cond.value, hv] at hr
      simp only [Cond.before, Cond.holds, Cond.value, hv']
      exact hr
  · cases hi'.symm.trans h1
    cases ha'.symm.trans h2
    exact hab
theorem ax_tws_keep {base : Nat} {s U : State} (hal : s.vm.Alike U.vm) (hq : ∀ q : Nat, q < base → U.heap[q]? = s.heap[q]?) (h : ax_tws base s) : ax_tws base U := ⟨ax_tw1_keep hal hq h.1, ax_tw1_keep hal hq h.2⟩
/-- what lies below base is as it was, where only cells from base on were written -/
theorem ax_same_low {base : Nat} {s t : State} {L : List Loc} {k n : Nat} (h : s.sameButNew t L k n) (hL : ∀ q ∈ L, base ≤ q.base) (hs : base ≤ s.heap.size) : ∀ q : Nat, q < base → t.heap[q]? = s.heap[q]? := by
  obtain ⟨-, h1, -, -, -, h2⟩ := h
  intro q hq
  have hlt : q < s.heap.size := by omega
  obtain ⟨c, hc⟩ : ∃ c, s.heap[q]? = some c := ⟨s.heap[q], Array.getElem?_eq_getElem hlt⟩
  obtain ⟨c', e1, e2, e3, e4⟩ := h2 q c hc
  rw [e1, hc]
  have hsl : c'.slots = c.slots := by
    apply Array.ext_getElem?
    intro i
    exact e4 i (fun z => absurd (hL _ z) (by show ¬ base ≤ q; omega))
  rw [e2, hsl]
section AxLow
variable {base : Nat} {p : Program} {l : Launch} {e : Env} {R : Room} {s : State} {m : MethodId} {args : Array Value} {below : List Frame} {meth : Method} {c : Code} {T : State} {locs : List Loc} {cells slots : Nat}
theorem ax_low (X : Stand p l e R s m args below meth c T locs cells slots) (hlo : ∀ q ∈ locs, base ≤ q.base) (hs : base ≤ s.heap.size) : ∀ q : Nat, q < base → T.heap[q]? = s.heap[q]? := fun q hq => ax_same_low X.same hlo hs q hq
/-- the walk as seen from where it stands now: nothing is written or made yet -/
theorem ax_reroot (X : Stand p l e R s m args below meth c T locs cells slots) {R' : Room} (hf : R'.frames ≤ R.frames) (hl : R'.locals ≤ R.locals) (hc : cells + R'.cells ≤ R.cells) (hs : slots + R'.slots ≤ R.slots) : Stand p l e R' (T.setFrames (.invoking m args :: below)) m args below meth c T [] 0 0 := by
  obtain ⟨g₀, hfr⟩ := X.frames_eq
  have hcur : T.cur < T.threads.size := State.cur_lt_of_frames hfr
  have hF : (T.setFrames (.invoking m args :: below)).frames = .invoking m args :: below := State.frames_setFrames _ hcur
  obtain ⟨th, hth, -⟩ := State.frames_cons hfr
  obtain ⟨th2, hth2, -⟩ := State.frames_cons hF
  refine ⟨X.admits, X.cas, X.clock, hF, ?_, ?_, X.method', X.code, X.here, X.tail, State.WarmedH.refl (T.setFrames (.invoking m args :: below)), (State.stackLimits_setFrames ..).symm, (State.stackBytes_setFrames ..).symm, ?_⟩
  · obtain ⟨r1, r2, r3, r4⟩ := State.hasRoom_stack X.room
    have r5 := State.hasRoom_real X.room
    have h := X.room
    simp only [State.hasRoom, Bool.and_eq_true, decide_eq_true_eq] at h
    rw [State.localsInUse_invoking X.frames X.method X.code] at r3 r4 r5
    rw [X.frames, List.length_cons] at r1 r2
    have hU : (T.setFrames (.invoking m args :: below)).localsInUse = stackWeight below + vmFrameWords + (c.maxLocals + 11) := State.localsInUse_invoking hF X.method' X.code
    simp only [State.hasRoom, Bool.and_eq_true, decide_eq_true_eq, hF, hU, List.length_cons, State.stackLimits_setFrames, State.stackBytes_setFrames, X.limits, X.bytes]
    have h6 := X.heapSize
    have h7 := X.used
    refine ⟨⟨⟨⟨by omega, by omega, by omega, by omega, by omega, h.1.1.1.2.2.2.2.2⟩, ?_⟩, ?_⟩, X.book⟩
    · have := h.1.1.2
      show T.heap.size + R'.cells ≤ e.platform.maxCells
      omega
    · have := h.1.2
      show T.slotsUsed + R'.slots ≤ e.platform.maxSlots
      omega
  · have hcode : ∀ mm, (T.setFrames (.invoking m args :: below)).code? mm = s.code? mm := fun mm => by
      rw [State.code?_eq, State.code?_eq]
      show (T.vm.method? mm).bind _ = _
      rw [X.warmed.alike.method?]
    have hme : (T.setFrames (.invoking m args :: below)).vm.method? m = s.vm.method? m := X.warmed.alike.method? ..
    have hh := X.hears
    cases below with
    | nil => simp only [State.hears, hme] at hh ⊢; exact hh
    | cons f r => cases f <;> simp only [State.hears, hcode, hme] at hh ⊢ <;> exact hh
  · have q := (State.sameButNew.refl (T.setFrames (.invoking m args :: below)) hth2).setFrames T.frames (State.cur_lt_of_frames hF)
    rw [State.setFrames_setFrames, State.setFrames_self hth] at q
    exact q
end AxLow
theorem ax_weaken {tb : Tables} {e : Env} {f : Frame} {below : List Frame} {x y : State} (h : Steps tb e (f :: below) x y) : Steps tb e below x y := by
  obtain ⟨n, hn, w⟩ := h
  exact ⟨n, hn, fun k hk => Within.weaken (mid := [f]) (w k hk)⟩
section AxCtx
variable (D : va_G) (dA : Nat → ClassId) (b base : Nat)
/-- a method's body stands: its code, its class, the words of the tables -/
def ax_ctx (p : Program) (e : Env) (R : Room) (s : State) (m : MethodId) (args : Array Value) (meth : Method) (c : Code) (M : ax_M) (y : MethodName) (bs : ByteArray) (nL fr lo : Nat) : Prop :=
  b < base ∧ p.tables.exec = Jvm.exec ∧ c.code = bs ∧ c.maxLocals = nL ∧ meth.sig.returnType = M.2.1 ∧ meth.locks = false ∧ c.exceptionTable.toList.map (fun h => (h.startPc, h.endPc, h.handlerPc, h.catchType)) = M.2.2.2.1 ∧
  s.vm.findClass (ax_cn M.1) = some m.cls ∧ meth.name = y.name ∧ (∀ w ∈ lw_tbl, ax_gw w = true → w.before args s = true) ∧ va_K D classes (ax_tys dA) s ∧ ax_tws base s ∧ va_Nc (ax_en 1) (ax_en 0) s ∧ va_Nc (ax_en 0) (ax_en 1) s ∧ base ≤ s.heap.size ∧ fr ≤ R.frames ∧ lo ≤ R.locals ∧ e.platform.stackTraces = false
/-- a method's run, said of the machine -/
def ax_Snd (l : Launch) (mi : Nat) (as : List Value) (h : ax_H) (r : ax_R) : Prop :=
  h.1.length ≤ r.2.1.length ∧ h.2 ≤ r.2.2 ∧ ∀ (M : ax_M) (y : MethodName) (bs : ByteArray) (nL fr lo : Nat), ax_pr[mi]? = some M → ax_mm[mi]? = some (y, bs, nL, fr, lo) →
    ∀ (p : Program) (e : Env) (R : Room) (s : State) (m : MethodId) (below : List Frame) (meth : Method) (c : Code), ax_ctx D dA b base p e R s m (as.map (ax_v b base)).toArray meth c M y bs nL fr lo → r.2.1.length - h.1.length ≤ R.cells → r.2.2 - h.2 ≤ R.slots →
      ax_rep D dA b base s h s.heap → W p l e R s m (as.map (ax_v b base)).toArray below meth c s.heap [] 0 0 (ax_Q D dA b base below s h r) (entryFrame m (as.map (ax_v b base)).toArray nL)
end AxCtx
section AxIn
variable {D : va_G} {dA : Nat → ClassId} {b base : Nat} {p : Program} {l : Launch} {e : Env} {R : Room} {s : State} {m : MethodId} {args : Array Value} {below : List Frame} {meth : Method} {c : Code} {T : State} {locs : List Loc} {cells slots : Nat}
/-- a callee's method, and its context, out of the caller's -/
theorem ax_into (hbb : b < base) (X : Stand p l e R s m args below meth c T locs cells slots) (hx : p.tables.exec = Jvm.exec) (hG : ∀ w ∈ lw_tbl, ax_gw w = true → w.before args s = true) (hK : va_K D classes (ax_tys dA) s) (hTw : ax_tws base s) (hNc : va_Nc (ax_en 1) (ax_en 0) s) (hNd : va_Nc (ax_en 0) (ax_en 1) s) (hlo0 : ∀ q ∈ locs, base ≤ q.base) (hbs0 : base ≤ s.heap.size) (htr : e.platform.stackTraces = false)
    {g : JFrame} (hg : g.method = m) (hsize : g.locals.size = c.maxLocals) {ig : Instr} (hdg : decode c.code g.pc = .ok (ig, 3)) {mi : Nat} {M1 : ax_M} {y1 : MethodName} {bs1 : ByteArray} {nL1 fr1 lo1 : Nat} (hpr : ax_pr[mi]? = some M1) (hmm : ax_mm[mi]? = some (y1, bs1, nL1, fr1, lo1)) (hyx : y1 ≠ x) {mk : MethodId} (hn : s.methodNamed? y1 = some mk)
    (hfr : fr1 + 1 ≤ R.frames) (hlo : 2 * g.monitorRoom + (g.stack.map fun v => v.category).sum + (nL1 + 11) + lo1 ≤ R.locals) {as : List Value} {h : ax_H} {r1 : ax_R} (hcells : cells + (r1.2.1.length - h.1.length) ≤ R.cells) (hslots : slots + (r1.2.2 - h.2) ≤ R.slots) (hrep : ax_rep D dA b base s h T.heap) (hS : ax_Snd D dA b base l mi as h r1) :
    ∃ (t : State) (o : Outcome), (∀ acts, Steps p.tables e below (doInvoke e (T.setTop g) acts mk (as.map (ax_v b base)).toArray).1 t) ∧ Ended t (.java g :: below) o ∧ ax_end D dA b base (T.calling g mk (as.map (ax_v b base)).toArray) h r1 o t := by
  obtain ⟨hoky, hpl, hini, hcls, hco0, -, -⟩ := ax_mt_ok mi M1 _ hpr hmm
  have hco := hco0.resolve_left hyx
  have hal : s.vm.Alike T.vm := X.warmed.alike
  have hmeth : ∃ meth1 c1, s.vm.method? mk = some meth1 ∧ meth1.code = some c1 ∧ c1.code = bs1 ∧ c1.maxLocals = nL1 ∧ meth1.sig.returnType = M1.2.1 ∧ meth1.locks = false ∧ c1.exceptionTable.toList.map (fun h => (h.startPc, h.endPc, h.handlerPc, h.catchType)) = M1.2.2.2.1 := by
    rcases hco with ⟨he, hw⟩ | ⟨-, hw⟩
    · obtain ⟨meth1, c1, q1, q2, q3, q4, q5, q6, q7, -⟩ := Cond.code_spec hn (hG _ hw.1 hw.2)
      refine ⟨meth1, c1, q1, q2, q3, q4, q5, q6, ?_⟩
      rw [he, Array.isEmpty_iff.mp q7]
      rfl
    · obtain ⟨mk', meth1, c1, q0, q1, q2, q3, q4, q5, q6, q7, -⟩ := Cond.codeWith_spec (hG _ hw.1 hw.2)
      cases hn.symm.trans q0
      exact ⟨meth1, c1, q1, q2, q3, q4, q6, q7, q5⟩
  obtain ⟨meth1, c1, q1, q2, q3, q4, q5, q6, q7⟩ := hmeth
  have hmk : T.vm.method? mk = some meth1 := by rw [hal.method?]; exact q1
  have hnT : T.methodNamed? y1 = some mk := X.named hn
  have hpk : T.plainMethod mk := State.plainMethod.of_named (s := T) hpl hnT hmk
  obtain ⟨Y₀, hin⟩ := X.into hg hsize hdg (as.map (ax_v b base)).toArray (R' := { frames := fr1, cells := r1.2.1.length - h.1.length, slots := r1.2.2 - h.2, locals := lo1 }) hmk q2 q6 hpk hfr (by rw [q4]; exact hlo) hcells hslots
  have hnC : (T.calling g mk (as.map (ax_v b base)).toArray).methodNamed? y1 = some mk := hnT
  have hctx : ax_ctx D dA b base p e { frames := fr1, cells := r1.2.1.length - h.1.length, slots := r1.2.2 - h.2, locals := lo1 } (T.calling g mk (as.map (ax_v b base)).toArray) mk (as.map (ax_v b base)).toArray meth1 c1 M1 y1 bs1 nL1 fr1 lo1 := by
    refine ⟨hbb, hx, q3, q4, q5, q6, q7, ?_, (name_of_methodNamed hnC hmk).1, fun w hw hg1 => ax_gw_keep hg1 (s := s) (U := T.calling g mk (as.map (ax_v b base)).toArray) X.warmed (hG w hw hg1), hK.moved hal, ax_tws_keep (s := s) (U := T.calling g mk (as.map (ax_v b base)).toArray) hal (fun q hq => (ax_low X hlo0 hbs0 q hq : T.heap[q]? = s.heap[q]?)) hTw, va_Nc.moved hal hNc, va_Nc.moved hal hNd, (by have := X.same.2.1; show base ≤ T.heap.size; exact Nat.le_trans hbs0 this), Nat.le_refl _, Nat.le_refl _, htr⟩
    rw [← hcls]
    exact findClass_of_methodNamed hnC
  obtain ⟨t, hst, o, -, hend, hE⟩ := hS.2.2 M1 y1 bs1 nL1 fr1 lo1 hpr hmm p e _ _ mk (.java g :: below) meth1 c1 hctx (Nat.le_refl _) (Nat.le_refl _) (ax_rep_moved (U := T.calling g mk (as.map (ax_v b base)).toArray) hal hrep) ((T.setTop g).pushFrame (.java (entryFrame mk (as.map (ax_v b base)).toArray c1.maxLocals))) rfl Y₀
  refine ⟨t, o, fun acts => ?_, hend, hE⟩
  rw [hin acts]
  rw [← q4] at hst
  exact ax_weaken hst
/-- behind a call that has returned -/
theorem ax_back (X : Stand p l e R s m args below meth c T locs cells slots) {g : JFrame} (hg : g.method = m) {ig : Instr} (hdg : decode c.code g.pc = .ok (ig, 3)) {mk : MethodId} {a : Array Value} {h h1 : ax_H} {v : Option Value} {t : State} {o : Outcome} (hend : Ended t (.java g :: below) o) (hE : ax_end D dA b base (T.calling g mk a) h (.inl v, h1) o t) :
    ∃ (T' : State) (L : List Loc), Stand p l e R s m args below meth c T' (locs ++ L) (cells + (h1.1.length - h.1.length)) (slots + (h1.2 - h.2)) ∧ (∀ q ∈ L, base ≤ q.base) ∧ ax_rep D dA b base s h1 T'.heap ∧ t = T'.setTop { g with pc := g.pc + 3, stack := (v.map (ax_v b base)).toList ++ g.stack } := by
  obtain ⟨rfl, hrep, hW, L, hsame, hL⟩ := hE
  obtain ⟨T', X', hW', -, ht⟩ := X.outOf hg hdg hend hW hsame
  have hheap : t.heap = T'.heap := by rw [ht]; rfl
  refine ⟨T', L, X', hL, ?_, ht⟩
  rw [← hheap]
  exact ax_rep_moved (u := T.calling g mk a) X.warmed.alike.symm hrep
/-- behind a call that has thrown -/
theorem ax_backX (X : Stand p l e R s m args below meth c T locs cells slots) {g : JFrame} (hg : g.method = m) {mk : MethodId} {a : Array Value} {h h1 : ax_H} {E : Nat} {t : State} {o : Outcome} (hend : Ended t (.java g :: below) o) (hE : ax_end D dA b base (T.calling g mk a) h (.inr E, h1) o t) :
    ∃ (T' : State) (L : List Loc) (ce : Cell), Stand p l e R s m args below meth c T' (locs ++ L) (cells + (h1.1.length - h.1.length)) (slots + (h1.2 - h.2)) ∧ (∀ q ∈ L, base ≤ q.base) ∧ ax_rep D dA b base s h1 T'.heap ∧ 1 < h1.1.length ∧ T'.heap[ax_ad b base (h1.1.length - 1)]? = some ce ∧ ce.vm = .none ∧ s.vm.findClass (ax_en E) = some ce.cls ∧ t = (T'.setTop g).pushFrame (.throwing (ax_ad b base (h1.1.length - 1))) := by
  obtain ⟨⟨h1', ce, rfl, hce, hcv, hcl⟩, hrep, hW, L, hsame, hL⟩ := hE
  obtain ⟨T', X', hW', -, ht⟩ := X.outOfThrown hg hend hW hsame
  have hheap : t.heap = T'.heap := by rw [ht]; exact Stand.throwing_heap _ _ _
  refine ⟨T', L, ce, X', hL, ?_, h1', by rw [← hheap]; exact hce, hcv, ?_, ht⟩
  · rw [← hheap]
    exact ax_rep_moved (u := T.calling g mk a) X.warmed.alike.symm hrep
  · have : T.vm.findClass (ax_en E) = some ce.cls := hcl
    rw [X.warmed.alike.findClass] at this
    exact this
end AxIn
