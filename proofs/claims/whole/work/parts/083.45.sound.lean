/-! the abstract machine tells the truth of the machine -/
theorem ax_s_heap {i : Instr} {nx tg : Nat} {lv : ax_L} {st : List Value} {h : ax_H} {s' : ax_S} (hs : ax_s i nx tg lv st h = some s') : s'.2.2.2 = h := by
  cases i <;> simp only [ax_s, ax_load, ax_store1, ax_store2, ax_iinc, ax_ii, ax_ll, ax_lshl, ax_i1, ax_l1, ax_dup] at hs <;> (repeat' split at hs) <;> first | (cases hs; rfl) | cases hs
section AxLen
variable {C : Nat → List Value → ax_H → ax_R → Prop} {M : ax_M} {r : ax_R}
def ax_le (h : ax_H) (r : ax_R) : Prop := h.1.length ≤ r.2.1.length ∧ h.2 ≤ r.2.2
theorem ax_le_set {h : ax_H} {a : Nat} {c : Option ax_C} (k : ax_le (h.1.set a c, h.2) r) : ax_le h r := ⟨by have := k.1; simpa using this, k.2⟩
theorem ax_le_push {h : ax_H} {c : Option ax_C} {n : Nat} (k : ax_le (h.1 ++ [c], h.2 + n) r) : ax_le h r := by
  obtain ⟨k1, k2⟩ := k
  have e1 : (h.1 ++ [c]).length = h.1.length + 1 := by simp
  have k1' : (h.1 ++ [c]).length ≤ r.2.1.length := k1
  have k2' : h.2 + n ≤ r.2.2 := k2
  exact ⟨by omega, by omega⟩
theorem ax_le_trans {h h1 : ax_H} {z : Option Value ⊕ Nat} (a : ax_le h (z, h1)) (k : ax_le h1 r) : ax_le h r := ⟨Nat.le_trans a.1 k.1, Nat.le_trans a.2 k.2⟩
theorem ax_le_call (hC : ∀ mi as h r, C mi as h r → ax_le h r) {ix pc nx : Nat} {lv : ax_L} {st : List Value} {h : ax_H} (hb : ax_call C M ix pc nx lv st h r (fun _ _ _ h => ax_le h r)) : ax_le h r := by
  obtain ⟨mi, n, -, -, -, ⟨v, h1, c, k⟩ | ⟨E, h1, c, -, ⟨t, -, k⟩ | ⟨-, hr⟩⟩⟩ := hb
  · exact ax_le_trans (hC _ _ _ _ c) k
  · exact ax_le_trans (hC _ _ _ _ c) k
  · rw [hr]
    exact hC _ _ _ _ c
theorem ax_len_go (hC : ∀ mi as h r, C mi as h r → ax_le h r) {pc : Nat} {lv : ax_L} {st : List Value} {h : ax_H} (hg : ax_go C M r pc lv st h) : ax_le h r := by
  refine hg (fun _ _ _ h => ax_le h r) ?_
  intro pc lv st h ⟨i, nx, tg, hd, q⟩
  rcases q with ⟨s', hs, k⟩ | hb
  · rw [ax_s_heap hs] at k
    exact k
  · cases i with
    | ldc ix => obtain ⟨v, a, k⟩ := hb; exact k
    | ldc2_w ix => obtain ⟨v, a, k⟩ := hb; exact k
    | idiv => obtain ⟨x, y, s, a, b, k⟩ := hb; exact k
    | ldiv => obtain ⟨x, y, s, a, b, k⟩ := hb; exact k
    | lrem => obtain ⟨x, y, s, a, b, k⟩ := hb; exact k
    | if_icmp c o =>
      obtain ⟨x, y, s, a, k1, k2⟩ := hb
      by_cases hc : ax_cnd c x y
      · exact k1 hc
      · exact k2 hc
    | ifCond c o =>
      obtain ⟨x, s, a, k1, k2⟩ := hb
      by_cases hc : ax_cnd c x 0
      · exact k1 hc
      · exact k2 hc
    | ifnull o => obtain ⟨v, s, a, ⟨-, k⟩ | ⟨-, k⟩⟩ := hb <;> exact k
    | ifnonnull o => obtain ⟨v, s, a, ⟨-, k⟩ | ⟨-, k⟩⟩ := hb <;> exact k
    | tableswitch d lo hi offs => obtain ⟨x, s, t, a, b, k⟩ := hb; exact k
    | lookupswitch d ps => obtain ⟨x, s, a, k⟩ := hb; exact k
    | getfield ix => obtain ⟨a, s, ci, k, fs, v, a1, a2, a3, a4, q⟩ := hb; exact q
    | putfield ix => obtain ⟨a, v, s, ci, k, fs, a1, a2, a3, a4, a5, a6, a7, q⟩ := hb; exact ax_le_set q
    | iaload => obtain ⟨a, j, s, k, n, f, a1, a2, a3, a4, q⟩ := hb; exact q
    | caload => obtain ⟨a, j, s, n, f, a1, a2, a3, q⟩ := hb; exact q
    | laload => obtain ⟨a, j, s, n, f, a1, a2, a3, q⟩ := hb; exact q
    | aaload => obtain ⟨a, j, s, k, n, f, a1, a2, a3, a4, q⟩ := hb; exact q
    | iastore => obtain ⟨a, j, x, s, n, f, a1, a2, a3, q⟩ := hb; exact ax_le_set q
    | castore => obtain ⟨a, j, x, s, n, f, a1, a2, a3, q⟩ := hb; exact ax_le_set q
    | lastore => obtain ⟨a, j, x, s, n, f, a1, a2, a3, q⟩ := hb; exact ax_le_set q
    | aastore => obtain ⟨a, j, o, s, k, n, f, a1, a2, a3, a4, a5, q⟩ := hb; exact ax_le_set q
    | arraylength => obtain ⟨a, s, k, n, z, a1, a2, a3, q⟩ := hb; exact q
    | newarray t => obtain ⟨n, s, k, a1, a2, a3, a4, q⟩ := hb; exact ax_le_push q
    | anewarray ix => obtain ⟨n, s, k, a1, a2, a3, a4, q⟩ := hb; exact ax_le_push q
    | new ix =>
      rcases hb with ⟨ci, a, q⟩ | ⟨E, ik, is, -, -, -, -, -, -, -, -, hr⟩
      · exact ax_le_push q
      · rw [hr]
        exact ax_le_push (c := none) (n := 6) ⟨Nat.le_refl _, Nat.le_refl _⟩
    | invokestatic ix => exact ax_le_call (lv := lv) (nx := nx) hC hb
    | invokevirtual ix => exact ax_le_call (lv := lv) (nx := nx) hC hb.2
    | invokespecial ix =>
      rcases hb with ⟨a1, a, s, a2, a3, q⟩ | hb
      · exact q
      · exact ax_le_call (lv := lv) (nx := nx) hC hb.2
    | ireturn => obtain ⟨x, rt, -, -, -, hr⟩ := hb; rw [hr]; exact ⟨Nat.le_refl _, Nat.le_refl _⟩
    | lreturn => obtain ⟨x, -, -, hr⟩ := hb; rw [hr]; exact ⟨Nat.le_refl _, Nat.le_refl _⟩
    | areturn => obtain ⟨x, n, -, -, -, hr⟩ := hb; rw [hr]; exact ⟨Nat.le_refl _, Nat.le_refl _⟩
    | return_ => obtain ⟨-, -, hr⟩ := hb; rw [hr]; exact ⟨Nat.le_refl _, Nat.le_refl _⟩
    | _ => exact False.elim hb
end AxLen
theorem ax_dfl_nr : (List.range 10).all (fun ci => (ax_dfl ci).all (fun v => match v with | .ref _ => false | _ => true)) = true := by decide +kernel
theorem ax_dfl_map {b base ci : Nat} (h : ci < 10) : (ax_dfl ci).map (ax_v b base) = ax_dfl ci := by
  have h1 := List.all_eq_true.mp ax_dfl_nr ci (List.mem_range.mpr h)
  conv => rhs; rw [← List.map_id (ax_dfl ci)]
  refine List.map_congr_left (fun v hv => ?_)
  have h2 := List.all_eq_true.mp h1 v hv
  cases v <;> first | rfl | cases h2
section AxSound
variable {D : va_G} {dA : Nat → ClassId} {b base : Nat} {p : Program} {l : Launch} {e : Env} {R : Room} {s : State} {m : MethodId} {args : Array Value} {below : List Frame} {meth : Method} {c : Code} {nL : Nat} {h0 : ax_H} {r : ax_R} {M : ax_M} {y : MethodName} {bs : ByteArray} {fr lo : Nat}
/-- an answer -/
theorem ax_ret_of {pc : Nat} {lv : ax_L} {st : List Value} {h : ax_H} {v : Option Value} (hr : r = (.inl v, h))
    (row : ∀ (H : Heap) (locs : List Loc) (ls : Array Slot), ax_rep D dA b base s h H → (∀ q ∈ locs, base ≤ q.base) → W p l e R s m args below meth c H locs (h.1.length - h0.1.length) (h.2 - h0.2) (MQ below (fun _ s o t => o = .returned (v.map (ax_v b base)) ∧ ax_rep D dA b base s h t.heap) args s (h.1.length - h0.1.length) (h.2 - h0.2) (fun a => base ≤ a)) (F0 m pc ls (st.map (ax_v b base)))) :
    ax_P D dA b base p l e R s m args below meth c nL h0 r pc lv st h := by
  subst hr
  refine ⟨Nat.le_refl _, Nat.le_refl _, fun g1 g2 H locs ls hl hr hq T hT X => ?_⟩
  obtain ⟨t, st1, o, h1, h2, ⟨h3, h4⟩, L, ⟨-, h5, h6⟩, h7⟩ := row H locs ls hr hq T hT X
  exact ⟨t, st1, o, h1, h2, h3, h4, h5, L, h6, h7⟩
theorem ax_new_sound (hbb : b < base) (hx : p.tables.exec = Jvm.exec) (hbs : c.code = bs) (hown : s.vm.findClass (ax_cn M.1) = some m.cls) (hG : ∀ w ∈ lw_tbl, ax_gw w = true → w.before args s = true) (hK : va_K D classes (ax_tys dA) s) (hRc : r.2.1.length - h0.1.length ≤ R.cells) (hRs : r.2.2 - h0.2 ≤ R.slots)
    {ix ci pc : Nat} (hN : ax_tN.lookup (ax_key M ix) = some ci) (hd : decode bs pc = .ok (.new ix, 3)) {lv : ax_L} {st : List Value} {h : ax_H} (k : ax_P D dA b base p l e R s m args below meth c nL h0 r (pc + 3) lv (.ref h.1.length :: st) (h.1 ++ [some (.inr (ci, ax_dfl ci))], h.2 + (ax_dfl ci).length)) :
    ax_P D dA b base p l e R s m args below meth c nL h0 r pc lv st h := by
  have hW : ∀ {w : Jvm.Cond}, ax_w w → w.before args s = true := fun hw => hG _ hw.1 hw.2
  obtain ⟨hcl, hlt⟩ := ax_tN_ok _ (ax_lookup2_in hN)
  obtain ⟨q, hq⟩ : ∃ q, classes[ci]? = some q := ⟨classes[ci]'hlt, List.getElem?_eq_getElem _⟩
  obtain ⟨C, T, N⟩ := q
  obtain ⟨hn1, hn2, hn3, hn4⟩ := ax_cn_ok ci _ hq
  refine ax_P_push hbb hRc hRs k (fun H locs cells slots Q ls hl hr hc1 hs1 kk => ?_)
  have htop := ax_rep_top hr
  rw [htop] at kk
  rw [hn4] at kk hs1
  refine ax_newR (D := D) (cl := classes) (tys := ax_tys dA) (fs := ax_dfl ci) hx hbs (fun w hw => hW (ax_cls_ok ci _ hq w hw)) (ax_ty ci) (ax_ty_ok ci _ hq) hown (by rw [show C = ax_cn ci from hn1]; exact hW hcl) (hW hn2) (hW hn3) hK hq (fun j hj => ?_) hc1 hs1 hd (fun H1 ha hz ho => kk H1 ?_ hz ho)
  · have h1 := ax_each_at ax_dfl_all hq hj
    simp only [Bool.and_eq_true, decide_eq_true_eq] at h1
    exact h1.1
  · show va_at D classes (ax_ad b base h.1.length, .inr (ci, (ax_dfl ci).map (ax_v b base))) H1
    rw [htop, ax_dfl_map hlt]
    exact ha
theorem ax_thr_sound (ctx : ax_ctx D dA b base p e R s m args meth c M y bs nL fr lo) (hRc : r.2.1.length - h0.1.length ≤ R.cells) (hRs : r.2.2 - h0.2 ≤ R.slots) (hall : M.2.2.1.all (ax_okI bs nL) = true) {pc nx ix E ik is : Nat} {tg : Nat} (hdi : M.2.2.1.lookup pc = some (.new ix, nx, tg)) (hX : ax_tX.lookup (ax_key M ix) = some (E, ik)) (hh : M.2.2.2.1 = []) (h1 : M.2.2.1.lookup nx = some (.dup, nx + 1, 0)) (h2 : M.2.2.1.lookup (nx + 1) = some (.ldc is, nx + 3, 0)) (h3 : ax_key M is ∈ ax_tS) (h4 : M.2.2.1.lookup (nx + 3) = some (.invokespecial ik, nx + 6, 0)) (h5 : M.2.2.1.lookup (nx + 6) = some (.athrow, nx + 7, 0)) {lv : ax_L} {h : ax_H} (hr : r = (.inr E, (h.1 ++ [none], h.2 + 6))) (hf6 : 6 ≤ fr) (hl82 : 82 ≤ lo) :
    ax_P D dA b base p l e R s m args below meth c nL h0 r pc lv [] h := by
  obtain ⟨hbb, hx, hbs, hnL, hret, hlocks, htab, hown, hname, hG, hK, hTw, hNc, hNd, hbase, hfrR, hloR, htr⟩ := ctx
  obtain ⟨-, q0, -⟩ := ax_okI_at hall hdi
  obtain ⟨d0, rfl⟩ := q0 rfl
  have d1 := (ax_okI_at hall h1).1
  have d2 := (ax_okI_at hall h2).1
  have d3 := (ax_okI_at hall h4).1
  have d4 := (ax_okI_at hall h5).1
  have htop := fun {s : State} {H : Heap} (hq : ax_rep D dA b base s h H) => ax_rep_top hq
  have hXm := ax_lookup2_in hX
  subst hr
  have e1 : (h.1 ++ [(none : Option ax_C)]).length = h.1.length + 1 := by simp
  refine ⟨by show h.1.length ≤ (h.1 ++ [(none : Option ax_C)]).length; omega, Nat.le_add_right _ _, fun g1 g2 H locs ls hl hr hq T hT X => ?_⟩
  subst hT
  have hRc' : (h.1 ++ [(none : Option ax_C)]).length - h0.1.length ≤ R.cells := hRc
  have hRs' : h.2 + 6 - h0.2 ≤ R.slots := hRs
  obtain ⟨U, ce, u1, u2, u3, u4, u5, u6, u7, u8, u9, u10⟩ := ax_throwR X hx hbs hown hG hTw hq hbase htr hlocks (by rw [hh] at htab; exact List.map_eq_nil_iff.mp htab) hXm h3 (by rw [hnL]; exact hl.1) d0 (by rw [show ax_len (.new ix) = 3 from rfl] at d1; simpa using d1) (by rw [show ax_len (.new ix) = 3 from rfl] at d2; simpa using d2) (by rw [show ax_len (.new ix) = 3 from rfl] at d3; simpa using d3) (by rw [show ax_len (.new ix) = 3 from rfl] at d4; simpa using d4) (by omega) (by omega) (by omega) (by omega)
  have ht := htop hr
  have hpos := ax_rep_pos hr
  have e2 : (h.1 ++ [(none : Option ax_C)]).length - 1 = h.1.length := by omega
  refine ⟨U, u1, .threw T.heap.size, u2, u3, ⟨⟨by show 1 < (h.1 ++ [(none : Option ax_C)]).length; omega, ce, ?_⟩, ?_, u4, locs, ?_, hq⟩⟩
  · show Outcome.threw T.heap.size = .threw (ax_ad b base ((h.1 ++ [(none : Option ax_C)]).length - 1)) ∧ U.heap[ax_ad b base ((h.1 ++ [(none : Option ax_C)]).length - 1)]? = some ce ∧ _
    rw [e2, ht]
    exact ⟨rfl, u6, u7, u8⟩
  · refine ax_rep_push hbb hr ⟨ce, ?_, u7⟩ u9 u10
    rw [ht]
    exact u6
  · show s.sameButNew _ locs ((h.1 ++ [(none : Option ax_C)]).length - h0.1.length) (h.2 + 6 - h0.2)
    have c1 : (h.1 ++ [(none : Option ax_C)]).length - h0.1.length = h.1.length - h0.1.length + 1 := by omega
    have c2 : h.2 + 6 - h0.2 = h.2 - h0.2 + 6 := by omega
    rw [c1, c2]
    exact u5
theorem ax_step_sound {mi : Nat} (hpr : ax_pr[mi]? = some M) (hmm : ax_mm[mi]? = some (y, bs, nL, fr, lo)) (ctx : ax_ctx D dA b base p e R s m args meth c M y bs nL fr lo) (hRc : r.2.1.length - h0.1.length ≤ R.cells) (hRs : r.2.2 - h0.2 ≤ R.slots)
    {pc : Nat} {lv : ax_L} {st : List Value} {h : ax_H} (q : ax_step (ax_Snd D dA b base l) M pc lv st h r (ax_P D dA b base p l e R s m args below meth c nL h0 r)) : ax_P D dA b base p l e R s m args below meth c nL h0 r pc lv st h := by
  obtain ⟨hall, hpl, hini, hcls, -, hcs, hsok⟩ := ax_mt_ok mi M _ hpr hmm
  have ctx0 := ctx
  obtain ⟨hbb, hx, hbs, hnL, hret, hlocks, htab, hown, hname, hG, hK, hTw, hNc, hNd, hbase, hfrR, hloR, htr⟩ := ctx
  have hW : ∀ {w : Jvm.Cond}, ax_w w → w.before args s = true := fun hw => hG _ hw.1 hw.2
  obtain ⟨i, nx, tg, hd, q⟩ := q
  have hI : ax_It bs nL pc i nx tg := ax_okI_at hall hd
  have hC : ax_okC fr lo M.1 i = true := List.all_eq_true.mp hcs _ (ax_lookup_in hd)
  rcases q with ⟨s', hs, k⟩ | hb
  · refine ⟨by rw [← ax_s_heap hs]; exact k.1, by rw [← ax_s_heap hs]; exact k.2.1, fun g1 g2 H locs ls hl hr hq => ?_⟩
    have hh := ax_s_heap hs
    refine (ax_s_sound hx hbs hI hs).2 ls hl (fun ls' hl' => ?_)
    have k2 := k.2.2
    rw [hh] at k2
    exact k2 g1 g2 H locs ls' hl' hr hq
  · by_cases hm : ax_mid i = true
    · exact ax_mid_sound hbb hx hbs hown (fun z => by rw [hname]; exact hini z) hG hK hRc hRs hm hI hb
    · obtain ⟨-, hd0, -⟩ := hI
      cases i with
      | invokestatic ix =>
        obtain ⟨hdd, rfl⟩ := hd0 rfl
        obtain ⟨mi1, n, ht, hn, hw, hcall⟩ := hb
        obtain ⟨y1, bs1, nL1, fr1, lo1, hm1, hf, hlk, w1, w2, w3⟩ := ax_okS_at hC ht
        obtain ⟨M1, hp1⟩ : ∃ M1, ax_pr[mi1]? = some M1 := ax_pr_of hm1
        exact ax_call_sound ctx0 hRc hRs hsok hdd hp1 hm1 hf.1 hf.2.1 hf.2.2.1 hw (ax_dispS hx hbs hown hG hp1 hm1 hf.1 hf.2.2.2 hlk w1 w2 w3 hdd hn) hcall
      | invokevirtual ix =>
        obtain ⟨hdd, rfl⟩ := hd0 rfl
        obtain ⟨⟨mi2, n2, a, as, fs, ht2, hsp, hob⟩, mi1, n, ht, hn, hw, hcall⟩ := hb
        cases ht2.symm.trans ht
        obtain ⟨y1, bs1, nL1, fr1, lo1, hm1, hf, hlk, w1, w2, w3, w4⟩ := ax_okV_at hC ht
        obtain ⟨M1, hp1⟩ := ax_pr_of hm1
        exact ax_call_sound ctx0 hRc hRs hsok hdd hp1 hm1 hf.1 hf.2.1 hf.2.2.1 hw (ax_dispV hx hbs hown hG hK hp1 hm1 hf.1 hf.2.2.2 hlk w1 w2 w3 w4 hdd hn hsp hob) hcall
      | invokespecial ix =>
        obtain ⟨hdd, rfl⟩ := hd0 rfl
        rcases hb with ⟨hO, a, st', rfl, hw, k⟩ | ⟨⟨mi2, n2, a, as, ht2, hsp⟩, mi1, n, ht, hn, hw, hcall⟩
        · have hO' : (M.1, ix) ∈ ax_tO := hO
          simp only [ax_okC, hO', if_true, Bool.and_eq_true, decide_eq_true_eq] at hC
          refine ax_P_same k (fun H locs cells slots Q ls hl hr kk => ?_)
          refine W.objInit hx hbs hown (hW (ax_tO_ok _ hO')) (hW ax_oi_ok.1) (hW ax_oi_ok.2) (g := F0 m pc ls ((Value.ref a :: st').map (ax_v b base))) rfl (by rw [hnL]; exact hl.1) (a := ax_ad b base a) (rest := st'.map (ax_v b base)) rfl hdd (by omega) ?_ (kk ls hl)
          show 2 * 0 + ((st'.map (ax_v b base)).map fun v => v.category).sum + 12 ≤ R.locals
          rw [ax_wsum_map]
          omega
        · cases ht2.symm.trans ht
          have hnO : ¬ (M.1, ix) ∈ ax_tO := fun z => ax_tO_tM _ z (ax_lookup2_in ht)
          have hnX : ¬ (M.1, ix) ∈ ax_tX.map (fun q => (q.1.1, q.2.2)) := fun z => ax_tX_tM _ z (ax_lookup2_in ht)
          simp only [ax_okC, hnO, hnX, if_false] at hC
          obtain ⟨y1, bs1, nL1, fr1, lo1, hm1, hf, hlk, w1, w2, w3, w4⟩ := ax_okN_at hC ht
          obtain ⟨M1, hp1⟩ := ax_pr_of hm1
          exact ax_call_sound ctx0 hRc hRs hsok hdd hp1 hm1 hf.1 hf.2.1 hf.2.2.1 hw (ax_dispN hx hbs hown hG hp1 hm1 hf.1 hf.2.2.2 hlk w1 w2 w3 w4 hdd hn hsp) hcall
      | new ix =>
        rcases hb with ⟨ci, hN, k⟩ | ⟨E, ik, is, hX, rfl, hh, h1, h2, h3, h4, h5, hr⟩
        · obtain ⟨hdd, rfl⟩ := hd0 rfl
          exact ax_new_sound hbb hx hbs hown hG hK hRc hRs hN hdd k
        · have hX' : (M.1, ix) ∈ ax_tX.map (fun q => q.1) := List.mem_map.mpr ⟨_, ax_lookup2_in hX, rfl⟩
          simp only [ax_okC, hX', if_true, Bool.and_eq_true, decide_eq_true_eq] at hC
          exact ax_thr_sound ctx0 hRc hRs hall hd hX hh h1 h2 h3 h4 h5 hr hC.1 hC.2
      | ireturn =>
        obtain ⟨hdd, rfl⟩ := hd0 rfl
        obtain ⟨x, rt, rfl, hrt, hnw, hr⟩ := hb
        exact ax_ret_of hr (fun H locs ls hrep hq => W.zret hx hbs (hret.trans hrt) hnw (fun t ht _ => ⟨rfl, by rw [ht]; exact hrep⟩) hq hdd hlocks)
      | lreturn =>
        obtain ⟨hdd, rfl⟩ := hd0 rfl
        obtain ⟨x, rfl, hrt, hr⟩ := hb
        exact ax_ret_of hr (fun H locs ls hrep hq => W.lret hx hbs (hret.trans hrt) (fun t ht _ => ⟨rfl, by rw [ht]; exact hrep⟩) hq hdd hlocks)
      | areturn =>
        obtain ⟨hdd, rfl⟩ := hd0 rfl
        obtain ⟨v, n, rfl, hrt, hv, hr⟩ := hb
        exact ax_ret_of hr (fun H locs ls hrep hq => W.aret hx hbs (hret.trans hrt) (Or.inl ⟨n, rfl⟩) (by cases v <;> first | exact Or.inl rfl | exact Or.inr ⟨_, rfl⟩ | cases hv) (fun t ht _ => ⟨rfl, by rw [ht]; exact hrep⟩) hq hdd hlocks)
      | return_ =>
        obtain ⟨hdd, rfl⟩ := hd0 rfl
        obtain ⟨rfl, hrt, hr⟩ := hb
        exact ax_ret_of hr (fun H locs ls hrep hq => W.vret hx hbs (hret.trans hrt) (fun t ht _ => ⟨rfl, by rw [ht]; exact hrep⟩) hq hdd hlocks)
      | _ => exact absurd rfl hm
end AxSound
theorem ax_sl_len (as : List Value) : (lg_sl as).length ≤ ax_wsum as := by
  induction as with
  | nil => exact Nat.le_refl _
  | cons v as ih =>
    have e1 : lg_sl (v :: as) = (if v.category = 2 then [.val v, .second] else [.val v]) ++ lg_sl as := by simp [lg_sl]
    have e2 : ax_wsum (v :: as) = v.category + ax_wsum as := by simp [ax_wsum]
    have e3 : 1 ≤ v.category := by cases v <;> exact Nat.le_of_ble_eq_true rfl
    rw [e1, e2, List.length_append]
    by_cases hc : v.category = 2
    · rw [if_pos hc]
      simp only [List.length_cons, List.length_nil]
      omega
    · rw [if_neg hc]
      simp only [List.length_cons, List.length_nil]
      omega
/-- THE SOUNDNESS -/
theorem ax_sound (D : va_G) (dA : Nat → ClassId) (b base : Nat) (l : Launch) {mi : Nat} {as : List Value} {h : ax_H} {r : ax_R} (hrun : ax_run mi as h r) : ax_Snd D dA b base l mi as h r := by
  refine hrun (ax_Snd D dA b base l) ?_
  intro mi as h r ⟨M, hM, hw, hgo⟩
  have hle : ax_le h r := ax_len_go (fun _ _ _ _ q => ⟨q.1, q.2.1⟩) hgo
  refine ⟨hle.1, hle.2, fun M' y bs nL fr lo hpr hmm p e R s m below meth c ctx hRc hRs hrep => ?_⟩
  cases hM.symm.trans hpr
  have hP := hgo (ax_P D dA b base p l e R s m (as.map (ax_v b base)).toArray below meth c nL h r) (fun pc lv st h1 q => ax_step_sound hpr hmm ctx hRc hRs q)
  have hnl : ax_nl mi = nL := by simp only [ax_nl, hmm]
  have hsl : (lg_sl (as.map (ax_v b base))).length ≤ nL := by
    have h1 := ax_sl_len (as.map (ax_v b base))
    have h2 : ax_wsum (as.map (ax_v b base)) = ax_wsum as := ax_wsum_map b base as
    omega
  rw [lg_entry_eq]
  have hent := lv_entry (as.map (ax_v b base)) hsl
  rw [show lv_args 0 (as.map (ax_v b base)) = ax_lm b base (lv_args 0 as) from (ax_lm_args b base as 0).symm] at hent
  have := hP.2.2 (Nat.le_refl _) (Nat.le_refl _) s.heap [] _ hent hrep (fun q hq => absurd hq List.not_mem_nil)
  rw [Nat.sub_self, Nat.sub_self] at this
  exact this
