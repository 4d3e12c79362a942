/-! the search for a handler, where the classes caught may not have been looked up yet -/
section AxSeek
variable {e : Env} {s : State} {f : JFrame} {a : Addr}
theorem ax_go_class {E : CtlPost} {d : Bool} {acts : List Action} {Q : Handler → Pre} {y : ExceptionTableEntry} {t : List ExceptionTableEntry} {c : ClassId} {cell : Cell} {vm' : Vm} (hy : covers y f.pc = true) (h0 : y.catchType ≠ 0)
    (hg : (resolveClass f.method.cls y.catchType).Gives e.toSetting s.vm (.ok c) vm') (hcell : s.heap[a]? = some cell) (hobj : ∀ k, cell.vm ≠ .statics k)
    (hk : ∃ k, vm'.classes[cell.cls]? = some k) (hc : ∃ k, vm'.classes[c]? = some k) (hsz : vm'.classes.size ≤ s.vm.classes.size) :
    wp (findHandler.go f a (y :: t)) Q E e d acts s ↔
      if vm'.assignable cell.cls c = true then Q (.found y.handlerPc) d acts (s.setVm vm') else wp (findHandler.go f a t) Q E e d acts (s.setVm vm') := by
  simp only [covers] at hy
  obtain ⟨ha, ht⟩ := hg.op (op := VmOp.resolveClass f.method.cls y.catchType) rfl
  have hcell' : (s.setVm vm').heap[a]? = some cell := hcell
  cases hfit : vm'.assignable cell.cls c <;>
    simp [findHandler.go, hy, h0, ha, ht, hsz, hcell, hcell', hobj, hk, hc, hfit, VmOp.dirties, VmOp.acts]
/-- what the search gives, and the tables that it leaves -/
def ax_finds (e : Env) (s : State) (f : JFrame) (a : Addr) (h : Handler) (vm' : Vm) : Prop :=
  ∀ (Q : Handler → Pre) (E : CtlPost) (d : Bool) (acts : List Action), wp (findHandler f a) Q E e d acts s ↔ Q h d acts (s.setVm vm')
theorem ax_st_leave {r : List Frame} {meth : Method} {vm' : Vm} (hm : vm'.method? f.method = some meth) (hl : meth.locks = false) (hlocked : f.locked = none) (hentered : f.entered = []) (hfind : ax_finds e s f a .none vm') :
    (stepThrowing e s a (.java f :: r)).Is ((s.setVm vm').setFrames (.throwing a :: r)) [] := by
  simp only [stepThrowing, searchFrame, vmDo]
  generalize hr : Sem.go _ e false [] s = res
  obtain ⟨as, rfl, ha⟩ := Sem.eq_ok_of hr (a := Handler.none) (s' := s.setVm vm') (acts' := [])
    (by cases hp : e.platform.frameOwnsMonitors <;> simp [hfind _ _ _ _, hm, hl, hlocked, hentered, hp, leaveIfLocked])
  exact ⟨rfl, ha⟩
theorem ax_st_catch {r : List Frame} {pc : Nat} {vm' : Vm} (hfind : ax_finds e s f a (.found pc) vm') :
    (stepThrowing e s a (.java f :: r)).Is ((s.setVm vm').setFrames (.java { f with pc := pc, stack := [.ref a] } :: r)) [] := by
  simp only [stepThrowing, searchFrame, vmDo]
  generalize hr : Sem.go _ e false [] s = res
  obtain ⟨as, rfl, ha⟩ := Sem.eq_ok_of hr (a := Handler.found pc) (s' := s.setVm vm') (acts' := []) (by simp [hfind _ _ _ _])
  exact ⟨rfl, ha⟩
end AxSeek
section AxSeek2
variable {tb : Tables} {e : Env} {s target : State} {g : JFrame} {c : Code} {below : List Frame} {a : Addr}
theorem ax_thrownOut (h : At s g.method c below) {meth : Method} {vm' : Vm} (hm : vm'.method? g.method = some meth) (hl : meth.locks = false) (hlocked : g.locked = none) (hentered : g.entered = []) (hfind : ax_finds e ((s.setTop g).pushFrame (.throwing a)) g a .none vm')
    (hrest : Steps tb e below ((s.setVm vm').setFrames (.throwing a :: s.frames.tail)) target) : Steps tb e below ((s.setTop g).pushFrame (.throwing a)) target := by
  obtain ⟨hgo, hw⟩ := h.throwing a
  refine Steps.head hgo hw ?_
  rw [stepThread_throwing (frames_entered h.top _), (ax_st_leave (s := (s.setTop g).pushFrame (.throwing a)) (meth := meth) hm hl hlocked hentered hfind).1]
  obtain ⟨g₀, hg⟩ := Option.isSome_iff_exists.mp h.top
  obtain ⟨r, hr⟩ := State.topJava?_eq_some.mp hg
  rw [State.pushFrame, State.setTop_of_frames _ hr, State.setFrames_setFrames]
  show Steps tb e below (((s.setFrames _).setVm vm').setFrames _) target
  have e1 : ∀ (fr fr' : List Frame), ((s.setFrames fr).setVm vm').setFrames fr' = (s.setVm vm').setFrames fr' := fun fr fr' => by
    show ((s.setVm vm').setFrames fr).setFrames fr' = _
    rw [State.setFrames_setFrames]
  rw [e1]
  exact hrest
theorem ax_caught (h : At s g.method c below) {pc : Nat} {vm' : Vm} (hfind : ax_finds e ((s.setTop g).pushFrame (.throwing a)) g a (.found pc) vm')
    (hrest : Steps tb e below ((s.setVm vm').setTop { g with pc := pc, stack := [.ref a] }) target) : Steps tb e below ((s.setTop g).pushFrame (.throwing a)) target := by
  obtain ⟨hgo, hw⟩ := h.throwing a
  refine Steps.head hgo hw ?_
  rw [stepThread_throwing (frames_entered h.top _), (ax_st_catch (s := (s.setTop g).pushFrame (.throwing a)) hfind).1]
  obtain ⟨g₀, hg⟩ := Option.isSome_iff_exists.mp h.top
  obtain ⟨r, hr⟩ := State.topJava?_eq_some.mp hg
  have hr' : (s.setVm vm').frames = .java g₀ :: r := hr
  rw [State.pushFrame, State.setTop_of_frames _ hr, State.setFrames_setFrames]
  rw [State.setTop_of_frames _ hr'] at hrest
  have e1 : ∀ (fr fr' : List Frame), ((s.setFrames fr).setVm vm').setFrames fr' = (s.setVm vm').setFrames fr' := fun fr fr' => by
    show ((s.setVm vm').setFrames fr).setFrames fr' = _
    rw [State.setFrames_setFrames]
  rw [e1, hr]
  exact hrest
end AxSeek2
theorem ax_tC_ok : ∀ e ∈ ax_tC, ax_w (.classLink (ax_cn e.1.1) e.1.2 (ax_en e.2)) ∧ e.2 < 2 := by decide +kernel
def ax_hd (o : Option Nat) : Handler := match o with
  | some t => .found t
  | none => .none
section AxSeek3
variable {p : Program} {l : Launch} {e : Env} {R : Room} {s : State} {m : MethodId} {args : Array Value} {below : List Frame} {meth : Method} {c : Code} {T : State} {locs : List Loc} {cells slots : Nat}
theorem ax_seek_go {own : Nat} (hown : s.vm.findClass (ax_cn own) = some m.cls) (hG : ∀ w ∈ lw_tbl, ax_gw w = true → w.before args s = true) (hN0 : va_Nc (ax_en 1) (ax_en 0) s) (hN1 : va_Nc (ax_en 0) (ax_en 1) s) (hpl : e.platform.magicAccessors = ({} : Platform).magicAccessors) {g : JFrame} (hg : g.method = m) {a : Addr} {E : Nat} (hE : E < 2) {ce : Cell} (hcv : ce.vm = .none) (hcl : s.vm.findClass (ax_en E) = some ce.cls) :
    ∀ (ys : List ExceptionTableEntry), ax_hsok own (ys.map (fun h => (h.startPc, h.endPc, h.handlerPc, h.catchType))) = true → ∀ (U : State), s.WarmedH U.vm → U.heap[a]? = some ce →
      ∃ vm', s.WarmedH vm' ∧ ∀ (Q : Handler → Pre) (Ex : CtlPost) (d : Bool) (acts : List Action), wp (findHandler.go g a ys) Q Ex e d acts U ↔ Q (ax_hd (ax_hand own (ys.map (fun h => (h.startPc, h.endPc, h.handlerPc, h.catchType))) g.pc E)) d acts (U.setVm vm') := by
  intro ys
  induction ys with
  | nil => exact fun _ U hW _ => ⟨U.vm, hW, fun Q Ex d acts => W.findHandler_go_nil⟩
  | cons y ys ih =>
    intro hok U hW hce
    simp only [ax_hsok, List.map_cons, List.all_cons, Bool.and_eq_true, decide_eq_true_eq] at hok
    obtain ⟨⟨h0, hs⟩, hok⟩ := hok
    by_cases hcov : covers y g.pc = true
    · have hcov2 : y.startPc ≤ g.pc ∧ g.pc < y.endPc := by simpa [covers] using hcov
      obtain ⟨E', hE'⟩ := Option.isSome_iff_exists.mp hs
      obtain ⟨hw, hlt⟩ := ax_tC_ok ((own, y.catchType), E') (ax_lookup2_in hE')
      obtain ⟨cc, hfc, hlinks⟩ := Cond.classLink_spec hown (hG _ hw.1 hw.2) e.platform hpl
      obtain ⟨hgv, hwarm, -⟩ := State.classEntry (e := e) hW hlinks
      subst hg
      generalize U.vm.noted g.method.cls y.catchType (.cls cc) = vm₁ at hgv hwarm
      have hal := hwarm.alike
      have q1 : ∃ k, vm₁.classes[ce.cls]? = some k := Vm.classAt_of_findClass (name := ax_en E) (by rw [hal.findClass]; exact hcl)
      have q2 : ∃ k, vm₁.classes[cc]? = some k := Vm.classAt_of_findClass (name := ax_en E') (by rw [hal.findClass]; exact hfc)
      have hsz : vm₁.classes.size ≤ U.vm.classes.size := Vm.Alike.size_le (hW.alike.symm.trans hal)
      have key := fun Q Ex d acts => ax_go_class (e := e) (s := U) (f := g) (a := a) (E := Ex) (d := d) (acts := acts) (Q := Q) (t := ys) hcov h0 hgv hce (fun k => by rw [hcv]; intro z; cases z) q1 q2 hsz
      by_cases hEE : E' = E
      · subst hEE
        cases hfc.symm.trans hcl
        have hfit : vm₁.assignable ce.cls ce.cls = true := by
          show vm₁.assignableAux (255 + 1) ce.cls ce.cls = true
          rw [Vm.assignableAux]
          simp
        refine ⟨vm₁, hwarm, fun Q Ex d acts => ?_⟩
        rw [key, if_pos hfit]
        have : ax_hand own ((y :: ys).map (fun h => (h.startPc, h.endPc, h.handlerPc, h.catchType))) g.pc E' = some y.handlerPc := by
          simp only [List.map_cons, ax_hand]
          rw [if_pos ⟨hcov2.1, hcov2.2, hE'⟩]
        rw [this]
        rfl
      · have hfit : vm₁.assignable ce.cls cc = false := by
          rw [hal.assignable]
          have h2 : (E = 1 ∧ E' = 0) ∨ (E = 0 ∧ E' = 1) := by omega
          rcases h2 with ⟨rfl, rfl⟩ | ⟨rfl, rfl⟩
          · obtain ⟨c1, t1, z1, z2, z3⟩ := hN0
            cases hcl.symm.trans z1
            cases hfc.symm.trans z2
            exact z3
          · obtain ⟨c1, t1, z1, z2, z3⟩ := hN1
            cases hcl.symm.trans z1
            cases hfc.symm.trans z2
            exact z3
        obtain ⟨vm', hW', hq⟩ := ih hok (U.setVm vm₁) hwarm hce
        refine ⟨vm', hW', fun Q Ex d acts => ?_⟩
        rw [key, if_neg (by rw [hfit]; decide), hq]
        have : ax_hand own ((y :: ys).map (fun h => (h.startPc, h.endPc, h.handlerPc, h.catchType))) g.pc E = ax_hand own (ys.map (fun h => (h.startPc, h.endPc, h.handlerPc, h.catchType))) g.pc E := by
          simp only [List.map_cons, ax_hand]
          rw [if_neg]
          rintro ⟨-, -, z⟩
          exact hEE (Option.some.inj (hE'.symm.trans z))
        rw [this]
        rfl
    · have hcov' : covers y g.pc = false := by simpa using hcov
      obtain ⟨vm', hW', hq⟩ := ih hok U hW hce
      refine ⟨vm', hW', fun Q Ex d acts => ?_⟩
      rw [W.findHandler_go_skip hcov', hq]
      have : ax_hand own ((y :: ys).map (fun h => (h.startPc, h.endPc, h.handlerPc, h.catchType))) g.pc E = ax_hand own (ys.map (fun h => (h.startPc, h.endPc, h.handlerPc, h.catchType))) g.pc E := by
        simp only [List.map_cons, ax_hand]
        rw [if_neg]
        rintro ⟨z1, z2, -⟩
        apply hcov
        simp [covers, z1, z2]
      rw [this]
/-- a throw that reaches a frame: the handler that takes it, or none -/
theorem ax_seek (X : Stand p l e R s m args below meth c T locs cells slots) {own : Nat} (hown : s.vm.findClass (ax_cn own) = some m.cls) (hG : ∀ w ∈ lw_tbl, ax_gw w = true → w.before args s = true) (hN0 : va_Nc (ax_en 1) (ax_en 0) s) (hN1 : va_Nc (ax_en 0) (ax_en 1) s) {g : JFrame} (hg : g.method = m) {a : Addr} {E : Nat} (hE : E < 2) {ce : Cell} (hce : T.heap[a]? = some ce) (hcv : ce.vm = .none) (hcl : s.vm.findClass (ax_en E) = some ce.cls) {hs : List (Nat × Nat × Nat × Nat)} (hhs : c.exceptionTable.toList.map (fun h => (h.startPc, h.endPc, h.handlerPc, h.catchType)) = hs) (hok : ax_hsok own hs = true) :
    ∃ vm', s.WarmedH vm' ∧ ax_finds e ((T.setTop g).pushFrame (.throwing a)) g a (ax_hd (ax_hand own hs g.pc E)) vm' := by
  have hpl : e.platform.magicAccessors = ({} : Platform).magicAccessors := by rw [X.admits.platform]
  subst hhs
  have hvm : ((T.setTop g).pushFrame (.throwing a)).vm = T.vm := Stand.throwing_vm _ _ _
  obtain ⟨vm', hW', hq⟩ := ax_seek_go hown hG hN0 hN1 hpl hg hE hcv hcl c.exceptionTable.toList hok ((T.setTop g).pushFrame (.throwing a)) (by rw [hvm]; exact X.warmed) (by rw [Stand.throwing_heap]; exact hce)
  refine ⟨vm', hW', fun Q Ex d acts => ?_⟩
  rw [W.findHandler_eq (meth := meth) (code := c) (by rw [hvm, hg]; exact X.method') X.code]
  exact hq Q Ex d acts
end AxSeek3
