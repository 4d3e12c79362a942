/-! throwing one of the two exceptions, made with a text of the pool -/
def ax_nms : List String := ["java/lang/RuntimeException", "java/lang/Exception"]
def ax_four : List Jvm.Cond := [.laysStatic Bundle.tN "UNASSIGNED_STACK" Bundle.steD, .isRef (.static Bundle.tN "UNASSIGNED_STACK" Bundle.steD), .laysStatic Bundle.tN "SUPPRESSED_SENTINEL" Bundle.listD, .isRef (.static Bundle.tN "SUPPRESSED_SENTINEL" Bundle.listD)]
theorem ax_at_all : ∀ q ∈ ax_tX, ∀ a ∈ Bundle.ownAtoms (ax_cn q.1.1) q.2.2 (ax_en q.2.1) ax_nms, ax_w a ∨ a ∈ ax_four := by decide +kernel
theorem ax_tX_ok : ∀ q ∈ ax_tX, ax_w (.classLink (ax_cn q.1.1) q.1.2 (ax_en q.2.1)) ∧ ax_w (.instantiable (ax_en q.2.1) 6) ∧ ax_w (.initialized (ax_en q.2.1)) ∧ q.2.1 < 2 := by decide +kernel
def ax_isS (own : String) (ix : Nat) : Jvm.Cond → Bool
  | .stringRef o i _ => decide (o = own) && decide (i = ix)
  | _ => false
theorem ax_tS_all : ax_tS.all (fun e => lw_tbl.any (ax_isS (ax_cn e.1) e.2)) = true := by decide +kernel
theorem ax_tS_ok (e : Nat × Nat) (he : e ∈ ax_tS) : ∃ tx, ax_w (.stringRef (ax_cn e.1) e.2 tx) := by
  obtain ⟨w, hw, hs⟩ := List.any_eq_true.mp (List.all_eq_true.mp ax_tS_all e he)
  unfold ax_isS at hs
  split at hs
  · rename_i o i tx
    simp only [Bool.and_eq_true, decide_eq_true_eq] at hs
    obtain ⟨rfl, rfl⟩ := hs
    exact ⟨tx, hw, rfl⟩
  · cases hs
section AxThrow
variable {D : va_G} {dA : Nat → ClassId} {b base : Nat} {p : Program} {l : Launch} {e : Env} {R : Room} {s : State} {m : MethodId} {args : Array Value} {below : List Frame} {meth : Method} {c : Code} {T : State} {locs : List Loc} {cells slots : Nat}
theorem ax_throwR (X : Stand p l e R s m args below meth c T locs cells slots) (hx : p.tables.exec = Jvm.exec) {cc : ByteArray} (hb : c.code = cc) {own : Nat} (hown : s.vm.findClass (ax_cn own) = some m.cls) (hG : ∀ w ∈ lw_tbl, ax_gw w = true → w.before args s = true) (hTw : ax_tws base s) (hlo0 : ∀ q ∈ locs, base ≤ q.base) (hbs0 : base ≤ s.heap.size) (htr : e.platform.stackTraces = false) (hlocks : meth.locks = false) (htab : c.exceptionTable.toList = [])
    {ix E ik is pc : Nat} (hX : ((own, ix), (E, ik)) ∈ ax_tX) (hS : (own, is) ∈ ax_tS) {ls : Array Slot} (hsize : ls.size = c.maxLocals) (hd0 : decode cc pc = .ok (.new ix, 3)) (hd1 : decode cc (pc + 3) = .ok (.dup, 1)) (hd2 : decode cc (pc + 4) = .ok (.ldc is, 2)) (hd3 : decode cc (pc + 6) = .ok (.invokespecial ik, 3)) (hd4 : decode cc (pc + 9) = .ok (.athrow, 1))
    (hf : 6 ≤ R.frames) (hl : 82 ≤ R.locals) (hc : cells + 1 ≤ R.cells) (hs : slots + 6 ≤ R.slots) :
    ∃ (U : State) (ce : Cell), Steps p.tables e below (T.setTop (F0 m pc ls [])) U ∧ U.status = .running ∧ Ended U below (.threw T.heap.size) ∧ s.WarmedH U.vm ∧ s.sameButNew ({ U with vm := s.vm } : State) locs (cells + 1) (slots + 6) ∧
      U.heap[T.heap.size]? = some ce ∧ ce.vm = .none ∧ s.vm.findClass (ax_en E) = some ce.cls ∧ U.heap.size = T.heap.size + 1 ∧ ∀ q : Nat, q < T.heap.size → U.heap[q]? = T.heap[q]? := by
  have X0 := ax_reroot X (R' := { frames := R.frames, locals := R.locals, cells := 1, slots := 6 }) (Nat.le_refl _) (Nat.le_refl _) hc hs
  have hal : s.vm.Alike T.vm := X.warmed.alike
  have hG0 : ∀ w ∈ lw_tbl, ax_gw w = true → w.before args (T.setFrames (.invoking m args :: below)) = true := fun w hw hg => ax_gw_keep hg (s := s) (U := T.setFrames (.invoking m args :: below)) X.warmed (hG w hw hg)
  have hTw0 : ax_tws base (T.setFrames (.invoking m args :: below)) := ax_tws_keep (s := s) (U := T.setFrames (.invoking m args :: below)) hal (fun q hq => (ax_low X hlo0 hbs0 q hq : T.heap[q]? = s.heap[q]?)) hTw
  have hown0 : (T.setFrames (.invoking m args :: below)).vm.findClass (ax_cn own) = some m.cls := by
    show T.vm.findClass _ = _
    rw [hal.findClass]; exact hown
  generalize hs0 : T.setFrames (.invoking m args :: below) = s0 at X0 hG0 hTw0 hown0
  have hsz0 : s0.heap.size = T.heap.size := by rw [← hs0]; rfl
  obtain ⟨hk1, hk2, hk3, hE2⟩ := ax_tX_ok _ hX
  obtain ⟨vm', cC, kC, hfc, hkC, -, -, X1, hst1⟩ := X0.newCold hx hown0 (hG0 _ hk1.1 hk1.2) (hG0 _ hk2.1 hk2.2) (hG0 _ hk3.1 hk3.2) (g := F0 m pc ls []) rfl (by rw [hb]; exact hd0) (Nat.le_refl _) (Nat.le_refl _)
  obtain ⟨tx, htx⟩ := ax_tS_ok _ hS
  obtain ⟨k, cf, i, q, -, -, -, -, -, hev⟩ := Cond.stringRef_spec hown0 (hG0 _ htx.1 htx.2)
  have hR : vk_R (ax_cn own) is tx q s0 := vk_R.of (hG0 _ htx.1 htx.2) hev
  have hW : W p l e { frames := R.frames, locals := R.locals, cells := 1, slots := 6 } s0 m args below meth c ((T.setVm vm').pushCell (freshCell cC kC)).heap [] (0 + 1) (0 + 6) (fun U => U.status = .running ∧ Ended U below (.threw T.heap.size) ∧ s0.WarmedH U.vm ∧ s0.sameButNew ({ U with vm := s0.vm } : State) [] (0 + 1) (0 + 6) ∧ ∃ ce, U.heap[T.heap.size]? = some ce ∧ ce.vm = .none ∧ s0.vm.findClass (ax_en E) = some ce.cls) (F0 m (pc + 3) ls [.ref T.heap.size]) := by
    refine lv_dup hx hb hd1 rfl ?_
    refine va_ldcS hx hb hown0 hR hd2 ?_
    intro T2 hT2 X2
    have hcell : T2.heap[T.heap.size]? = some (freshCell cC kC) := by
      rw [hT2]
      show (T.heap.push (freshCell cC kC))[T.heap.size]? = _
      simp
    obtain ⟨U, u1, u2, u3, u4, u5, ce, u6, u7⟩ := X2.ctorThrowS hx htr hown0 (cls := ax_en E) (names := ax_nms) (ic := ik) (by unfold ax_en; split <;> decide) (by decide) (fun a ha => by
        rcases ax_at_all _ hX a ha with h1 | h1
        · exact hG0 a h1.1 h1.2
        · simp only [ax_four, List.mem_cons, List.not_mem_nil, or_false] at h1
          rcases h1 with rfl | rfl | rfl | rfl
          · exact hTw0.1.1
          · exact hTw0.1.2.1
          · exact hTw0.2.1
          · exact hTw0.2.2.1) (fun z hz => absurd hz List.not_mem_nil) hfc hkC hcell (by rw [hsz0]; exact Nat.le_refl _) (msg := .ref q) rfl (g := F0 m (pc + 6) ls [.ref q, .ref T.heap.size, .ref T.heap.size]) rfl hsize rfl rfl (rest := []) rfl (by rw [hb]; exact hd3) (by rw [hb]; exact hd4) (by rw [htab]; exact fun z hz => absurd hz List.not_mem_nil) (by show 2 + 3 < R.frames; omega) (by show 2 * 0 + 1 + (13 * (2 + 1) + 42) ≤ R.locals; omega) hlocks
    exact ⟨U, u1, u2, u3, u4, u5, ce, u6, u7.vm, u7.cls⟩
  obtain ⟨U, hst2, r1, r2, r3, r4, ce, r5, r6, r7⟩ := hW _ rfl X1
  obtain ⟨g₀, hfr⟩ := X.frames_eq
  obtain ⟨th, hth, -⟩ := State.frames_cons hfr
  have hTU : T.sameButNew ({ U with vm := T.vm } : State) [] 1 6 := by
    subst hs0
    obtain ⟨w1, w2, w3, w4, w5, w6⟩ := r4
    refine ⟨?_, w2, w3, w4, w5, w6⟩
    rw [State.setFrames_setFrames] at w1
    exact w1
  refine ⟨U, ce, hst1 _ hst2, r1, r2, ?_, ?_, r5, r6, ?_, ?_, ?_⟩
  · subst hs0
    exact State.WarmedH.trans X.warmed r3
  · have := X.same.trans (hTU.setVm s.vm)
    rw [List.append_nil] at this
    exact this
  · have : T.vm.findClass (ax_en E) = some ce.cls := by subst hs0; exact r7
    rw [hal.findClass] at this
    exact this
  · obtain ⟨w1, w2, w3, w4, w5, w6⟩ := hTU
    have hlt : T.heap.size < U.heap.size := (Array.getElem?_eq_some_iff.mp r5).1
    have : U.heap.size ≤ T.heap.size + 1 := by first | exact w3 | exact w4 | exact w5
    omega
  · intro j hj
    exact ax_same_low (base := T.heap.size) hTU (fun z hz => absurd hz List.not_mem_nil) (Nat.le_refl _) j hj
end AxThrow
