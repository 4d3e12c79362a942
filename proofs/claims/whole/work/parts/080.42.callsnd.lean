theorem ax_cat (b base : Nat) (v : Value) : (ax_v b base v).category = v.category := by cases v <;> rfl
theorem ax_wsum_map (b base : Nat) (st : List Value) : ((st.map (ax_v b base)).map fun v => v.category).sum = ax_wsum st := by
  unfold ax_wsum
  rw [List.map_map]
  congr 1
  exact List.map_congr_left (fun v _ => ax_cat b base v)
section AxCall
variable {D : va_G} {dA : Nat → ClassId} {b base : Nat} {p : Program} {l : Launch} {e : Env} {R : Room} {s : State} {m : MethodId} {args : Array Value} {below : List Frame} {meth : Method} {c : Code} {nL : Nat} {h0 : ax_H} {r : ax_R} {M : ax_M} {y : MethodName} {bs : ByteArray} {fr lo : Nat}
/-- a call's instruction, up to the callee's own first step -/
def ax_disp (D : va_G) (dA : Nat → ClassId) (b base : Nat) (p : Program) (l : Launch) (e : Env) (R : Room) (s : State) (m : MethodId) (args : Array Value) (below : List Frame) (meth : Method) (c : Code) (y1 : MethodName) (n pc : Nat) (st : List Value) (h : ax_H) : Prop :=
  ∀ (T : State) (locs : List Loc) (cells slots : Nat) (ls : Array Slot), Stand p l e R s m args below meth c T locs cells slots → ax_rep D dA b base s h T.heap →
    ∃ (vm' : Vm) (mk : MethodId), s.methodNamed? y1 = some mk ∧ Stand p l e R s m args below meth c (T.setVm vm') locs cells slots ∧
      ∀ target, (∀ acts, Steps p.tables e below (doInvoke e ((T.setVm vm').setTop { F0 m pc ls (st.map (ax_v b base)) with stack := (st.drop n).map (ax_v b base) }) acts mk ((st.take n).reverse.map (ax_v b base)).toArray).1 target) → Steps p.tables e below (T.setTop (F0 m pc ls (st.map (ax_v b base)))) target
theorem ax_call_sound (ctx : ax_ctx D dA b base p e R s m args meth c M y bs nL fr lo) (hRc : r.2.1.length - h0.1.length ≤ R.cells) (hRs : r.2.2 - h0.2 ≤ R.slots) (hsok : ax_hsok M.1 M.2.2.2.1 = true)
    {pc n mi : Nat} {ig : Instr} (hdg : decode bs pc = .ok (ig, 3)) {lv : ax_L} {st : List Value} {h : ax_H} {M1 : ax_M} {y1 : MethodName} {bs1 : ByteArray} {nL1 fr1 lo1 : Nat} (hpr : ax_pr[mi]? = some M1) (hmm : ax_mm[mi]? = some (y1, bs1, nL1, fr1, lo1)) (hyx : y1 ≠ x) (hfr : fr1 + 1 ≤ fr) (hlo : 8 + (nL1 + 11) + lo1 ≤ lo) (hw : ax_wsum (st.drop n) ≤ 8)
    (hdisp : ax_disp D dA b base p l e R s m args below meth c y1 n pc st h)
    (hcall : (∃ v h1, ax_Snd D dA b base l mi (st.take n).reverse h (.inl v, h1) ∧ ax_P D dA b base p l e R s m args below meth c nL h0 r (pc + 3) lv (v.toList ++ st.drop n) h1) ∨
      (∃ E h1, ax_Snd D dA b base l mi (st.take n).reverse h (.inr E, h1) ∧ E < 2 ∧
       ((∃ t, ax_hand M.1 M.2.2.2.1 pc E = some t ∧ ax_P D dA b base p l e R s m args below meth c nL h0 r t lv [.ref (h1.1.length - 1)] h1) ∨ (ax_hand M.1 M.2.2.2.1 pc E = none ∧ r = (.inr E, h1))))) :
    ax_P D dA b base p l e R s m args below meth c nL h0 r pc lv st h := by
  obtain ⟨hbb, hx, hbs, hnL, hret, hlocks, htab, hown, hname, hG, hK, hTw, hNc, hNd, hbase, hfrR, hloR, htr⟩ := ctx
  have hdc : decode c.code pc = .ok (ig, 3) := by rw [hbs]; exact hdg
  have lens : h.1.length ≤ r.2.1.length ∧ h.2 ≤ r.2.2 := by
    rcases hcall with ⟨v, h1, hS, hP⟩ | ⟨E, h1, hS, -, ⟨t, -, hP⟩ | ⟨-, hr⟩⟩
    · exact ⟨Nat.le_trans hS.1 hP.1, Nat.le_trans hS.2.1 hP.2.1⟩
    · exact ⟨Nat.le_trans hS.1 hP.1, Nat.le_trans hS.2.1 hP.2.1⟩
    · rw [hr]
      exact ⟨hS.1, hS.2.1⟩
  refine ⟨lens.1, lens.2, fun g1 g2 H locs ls hl hr hq T hT X => ?_⟩
  subst hT
  obtain ⟨vm', mk, hn, X', hstep⟩ := hdisp T locs _ _ ls X hr
  have hsize : ls.size = c.maxLocals := by rw [hnL]; exact hl.1
  have hrep' : ax_rep D dA b base s h (T.setVm vm').heap := hr
  rcases hcall with ⟨v, h1, hS, hP⟩ | ⟨E, h1, hS, hE2, hP⟩
  · have e1 : h.1.length ≤ h1.1.length := hS.1
    have e2 : h.2 ≤ h1.2 := hS.2.1
    have e3 := hP.1
    have e4 := hP.2.1
    obtain ⟨t, o, hin, hend, hEnd⟩ := ax_into (as := (st.take n).reverse) hbb X' hx hG hK hTw hNc hNd hq hbase htr (g := { F0 m pc ls (st.map (ax_v b base)) with stack := (st.drop n).map (ax_v b base) }) rfl hsize hdc hpr hmm hyx hn (by omega)
      (by show 2 * 0 + (((st.drop n).map (ax_v b base)).map fun v => v.category).sum + (nL1 + 11) + lo1 ≤ R.locals; rw [ax_wsum_map]; omega) (r1 := (.inl v, h1)) (by show h.1.length - h0.1.length + (h1.1.length - h.1.length) ≤ R.cells; omega) (by show h.2 - h0.2 + (h1.2 - h.2) ≤ R.slots; omega) hrep' hS
    obtain ⟨T', L, X'', hL, hrep2, ht⟩ := ax_back X' (g := { F0 m pc ls (st.map (ax_v b base)) with stack := (st.drop n).map (ax_v b base) }) rfl hdc hend hEnd
    have c1 : h.1.length - h0.1.length + (h1.1.length - h.1.length) = h1.1.length - h0.1.length := by omega
    have c2 : h.2 - h0.2 + (h1.2 - h.2) = h1.2 - h0.2 := by omega
    rw [c1, c2] at X''
    obtain ⟨t2, hst2, hQ⟩ := hP.2.2 (by omega) (by omega) T'.heap (locs ++ L) ls hl hrep2 (fun q hq1 => by
      rcases List.mem_append.mp hq1 with q1 | q1
      · exact hq q q1
      · exact hL q q1) T' rfl X''
    refine ⟨t2, (hstep t hin).trans ?_, hQ⟩
    rw [ht]
    have e5 : ({ F0 m pc ls (st.map (ax_v b base)) with pc := pc + 3, stack := (v.map (ax_v b base)).toList ++ (st.drop n).map (ax_v b base) } : JFrame) = F0 m (pc + 3) ls ((v.toList ++ st.drop n).map (ax_v b base)) := by
      cases v <;> simp
    show Steps p.tables e below (T'.setTop { F0 m pc ls (st.map (ax_v b base)) with pc := pc + 3, stack := (v.map (ax_v b base)).toList ++ (st.drop n).map (ax_v b base) }) t2
    rw [e5]
    exact hst2
  · have e1 : h.1.length ≤ h1.1.length := hS.1
    have e2 : h.2 ≤ h1.2 := hS.2.1
    have e34 : h1.1.length ≤ r.2.1.length ∧ h1.2 ≤ r.2.2 := by
      rcases hP with ⟨t, -, hP⟩ | ⟨-, hr⟩
      · exact ⟨hP.1, hP.2.1⟩
      · rw [hr]
        exact ⟨Nat.le_refl _, Nat.le_refl _⟩
    obtain ⟨e3, e4⟩ := e34
    obtain ⟨t, o, hin, hend, hEnd⟩ := ax_into (as := (st.take n).reverse) hbb X' hx hG hK hTw hNc hNd hq hbase htr (g := { F0 m pc ls (st.map (ax_v b base)) with stack := (st.drop n).map (ax_v b base) }) rfl hsize hdc hpr hmm hyx hn (by omega)
      (by show 2 * 0 + (((st.drop n).map (ax_v b base)).map fun v => v.category).sum + (nL1 + 11) + lo1 ≤ R.locals; rw [ax_wsum_map]; omega) (r1 := (.inr E, h1)) (by show h.1.length - h0.1.length + (h1.1.length - h.1.length) ≤ R.cells; omega) (by show h.2 - h0.2 + (h1.2 - h.2) ≤ R.slots; omega) hrep' hS
    obtain ⟨T', L, ce, X'', hL, hrep2, hone, hce, hcv, hcl, ht⟩ := ax_backX X' (g := { F0 m pc ls (st.map (ax_v b base)) with stack := (st.drop n).map (ax_v b base) }) rfl hend hEnd
    have c1 : h.1.length - h0.1.length + (h1.1.length - h.1.length) = h1.1.length - h0.1.length := by omega
    have c2 : h.2 - h0.2 + (h1.2 - h.2) = h1.2 - h0.2 := by omega
    rw [c1, c2] at X''
    have hq2 : ∀ q ∈ locs ++ L, base ≤ q.base := fun q hq1 => by
      rcases List.mem_append.mp hq1 with q1 | q1
      · exact hq q q1
      · exact hL q q1
    obtain ⟨vm2, hW2, hfind⟩ := ax_seek X'' hown hG hNc hNd (g := { F0 m pc ls (st.map (ax_v b base)) with stack := (st.drop n).map (ax_v b base) }) rfl hE2 hce hcv hcl htab hsok
    have X3 := X''.noted hW2
    rcases hP with ⟨tt, hh, hP⟩ | ⟨hh, hr1⟩
    · rw [show ax_hand M.1 M.2.2.2.1 (F0 m pc ls (st.map (ax_v b base))).pc E = some tt from hh] at hfind
      obtain ⟨t2, hst2, hQ⟩ := hP.2.2 (by omega) (by omega) T'.heap (locs ++ L) ls hl hrep2 hq2 (T'.setVm vm2) rfl X3
      refine ⟨t2, (hstep t hin).trans ?_, hQ⟩
      rw [ht]
      exact ax_caught (g := { F0 m pc ls (st.map (ax_v b base)) with stack := (st.drop n).map (ax_v b base) }) X''.here hfind hst2
    · rw [show ax_hand M.1 M.2.2.2.1 (F0 m pc ls (st.map (ax_v b base))).pc E = none from hh] at hfind
      subst hr1
      have hcur : (T'.setVm vm2).cur < (T'.setVm vm2).threads.size := by
        obtain ⟨g₀, hfr⟩ := X3.frames_eq
        exact State.cur_lt_of_frames hfr
      refine ⟨(T'.setVm vm2).setFrames (.throwing (ax_ad b base (h1.1.length - 1)) :: below), (hstep t hin).trans ?_, .threw (ax_ad b base (h1.1.length - 1)), X3.here.running, State.frames_setFrames _ hcur, ⟨⟨hone, ce, rfl, hce, hcv, hcl⟩, hrep2, (X3.ends _).1, locs ++ L, (X3.ends _).2, hq2⟩⟩
      rw [ht]
      refine ax_thrownOut (g := { F0 m pc ls (st.map (ax_v b base)) with stack := (st.drop n).map (ax_v b base) }) (meth := meth) X''.here X3.method' hlocks rfl rfl hfind ?_
      rw [X''.tail]
      exact Steps.refl _
end AxCall
