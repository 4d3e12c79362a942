section AxMono
variable {C C' : Nat → List Value → ax_H → ax_R → Prop} {M : ax_M} {r : ax_R} {K K' : Nat → ax_L → List Value → ax_H → Prop}
theorem ax_call_mono (hC : ∀ mi as h r, C mi as h r → C' mi as h r) (hK : ∀ pc lv st h, K pc lv st h → K' pc lv st h) {ix pc nx : Nat} {lv : ax_L} {st : List Value} {h : ax_H} (hb : ax_call C M ix pc nx lv st h r K) : ax_call C' M ix pc nx lv st h r K' := by
  obtain ⟨mi, n, h1, h2, h3, h4⟩ := hb
  refine ⟨mi, n, h1, h2, h3, ?_⟩
  rcases h4 with ⟨v, g, c, k⟩ | ⟨E, g, c, hE, k⟩
  · exact Or.inl ⟨v, g, hC _ _ _ _ c, hK _ _ _ _ k⟩
  · refine Or.inr ⟨E, g, hC _ _ _ _ c, hE, ?_⟩
    rcases k with ⟨t, k1, k2⟩ | k
    · exact Or.inl ⟨t, k1, hK _ _ _ _ k2⟩
    · exact Or.inr k
theorem ax_b_mono (hC : ∀ mi as h r, C mi as h r → C' mi as h r) (hK : ∀ pc lv st h, K pc lv st h → K' pc lv st h) {i : Instr} {pc nx tg : Nat} {lv : ax_L} {st : List Value} {h : ax_H} (hb : ax_b C M i pc nx tg lv st h r K) : ax_b C' M i pc nx tg lv st h r K' := by
  cases i with
  | ldc ix => obtain ⟨v, a, k⟩ := hb; exact ⟨v, a, hK _ _ _ _ k⟩
  | ldc2_w ix => obtain ⟨v, a, k⟩ := hb; exact ⟨v, a, hK _ _ _ _ k⟩
  | idiv => obtain ⟨x, y, s, a, b, k⟩ := hb; exact ⟨x, y, s, a, b, hK _ _ _ _ k⟩
  | ldiv => obtain ⟨x, y, s, a, b, k⟩ := hb; exact ⟨x, y, s, a, b, hK _ _ _ _ k⟩
  | lrem => obtain ⟨x, y, s, a, b, k⟩ := hb; exact ⟨x, y, s, a, b, hK _ _ _ _ k⟩
  | if_icmp c o => obtain ⟨x, y, s, a, k1, k2⟩ := hb; exact ⟨x, y, s, a, fun q => hK _ _ _ _ (k1 q), fun q => hK _ _ _ _ (k2 q)⟩
  | ifCond c o => obtain ⟨x, s, a, k1, k2⟩ := hb; exact ⟨x, s, a, fun q => hK _ _ _ _ (k1 q), fun q => hK _ _ _ _ (k2 q)⟩
  | ifnull o => obtain ⟨v, s, a, k⟩ := hb; exact ⟨v, s, a, k.imp (fun q => ⟨q.1, hK _ _ _ _ q.2⟩) (fun q => ⟨q.1, hK _ _ _ _ q.2⟩)⟩
  | ifnonnull o => obtain ⟨v, s, a, k⟩ := hb; exact ⟨v, s, a, k.imp (fun q => ⟨q.1, hK _ _ _ _ q.2⟩) (fun q => ⟨q.1, hK _ _ _ _ q.2⟩)⟩
  | tableswitch d lo hi offs => obtain ⟨x, s, t, a, b, k⟩ := hb; exact ⟨x, s, t, a, b, hK _ _ _ _ k⟩
  | lookupswitch d ps => obtain ⟨x, s, a, k⟩ := hb; exact ⟨x, s, a, hK _ _ _ _ k⟩
  | getfield ix => obtain ⟨a, s, ci, k, fs, v, a1, a2, a3, a4, q⟩ := hb; exact ⟨a, s, ci, k, fs, v, a1, a2, a3, a4, hK _ _ _ _ q⟩
  | putfield ix => obtain ⟨a, v, s, ci, k, fs, a1, a2, a3, a4, a5, a6, a7, q⟩ := hb; exact ⟨a, v, s, ci, k, fs, a1, a2, a3, a4, a5, a6, a7, hK _ _ _ _ q⟩
  | iaload => obtain ⟨a, j, s, k, n, f, a1, a2, a3, a4, q⟩ := hb; exact ⟨a, j, s, k, n, f, a1, a2, a3, a4, hK _ _ _ _ q⟩
  | caload => obtain ⟨a, j, s, n, f, a1, a2, a3, q⟩ := hb; exact ⟨a, j, s, n, f, a1, a2, a3, hK _ _ _ _ q⟩
  | laload => obtain ⟨a, j, s, n, f, a1, a2, a3, q⟩ := hb; exact ⟨a, j, s, n, f, a1, a2, a3, hK _ _ _ _ q⟩
  | aaload => obtain ⟨a, j, s, k, n, f, a1, a2, a3, a4, q⟩ := hb; exact ⟨a, j, s, k, n, f, a1, a2, a3, a4, hK _ _ _ _ q⟩
  | iastore => obtain ⟨a, j, x, s, n, f, a1, a2, a3, q⟩ := hb; exact ⟨a, j, x, s, n, f, a1, a2, a3, hK _ _ _ _ q⟩
  | castore => obtain ⟨a, j, x, s, n, f, a1, a2, a3, q⟩ := hb; exact ⟨a, j, x, s, n, f, a1, a2, a3, hK _ _ _ _ q⟩
  | lastore => obtain ⟨a, j, x, s, n, f, a1, a2, a3, q⟩ := hb; exact ⟨a, j, x, s, n, f, a1, a2, a3, hK _ _ _ _ q⟩
  | aastore => obtain ⟨a, j, o, s, k, n, f, a1, a2, a3, a4, a5, q⟩ := hb; exact ⟨a, j, o, s, k, n, f, a1, a2, a3, a4, a5, hK _ _ _ _ q⟩
  | arraylength => obtain ⟨a, s, k, n, z, a1, a2, a3, q⟩ := hb; exact ⟨a, s, k, n, z, a1, a2, a3, hK _ _ _ _ q⟩
  | newarray t => obtain ⟨n, s, k, a1, a2, a3, a4, q⟩ := hb; exact ⟨n, s, k, a1, a2, a3, a4, hK _ _ _ _ q⟩
  | anewarray ix => obtain ⟨n, s, k, a1, a2, a3, a4, q⟩ := hb; exact ⟨n, s, k, a1, a2, a3, a4, hK _ _ _ _ q⟩
  | new ix =>
    rcases hb with ⟨ci, a, q⟩ | hb
    · exact Or.inl ⟨ci, a, hK _ _ _ _ q⟩
    · exact Or.inr hb
  | invokestatic ix => exact ax_call_mono hC hK hb
  | invokevirtual ix => exact ⟨hb.1, ax_call_mono hC hK hb.2⟩
  | invokespecial ix =>
    rcases hb with ⟨a1, a, s, a2, a3, q⟩ | hb
    · exact Or.inl ⟨a1, a, s, a2, a3, hK _ _ _ _ q⟩
    · exact Or.inr ⟨hb.1, ax_call_mono hC hK hb.2⟩
  | ireturn => exact hb
  | lreturn => exact hb
  | areturn => exact hb
  | return_ => exact hb
  | _ => exact hb
theorem ax_step_mono (hC : ∀ mi as h r, C mi as h r → C' mi as h r) (hK : ∀ pc lv st h, K pc lv st h → K' pc lv st h) {pc : Nat} {lv : ax_L} {st : List Value} {h : ax_H} (hb : ax_step C M pc lv st h r K) : ax_step C' M pc lv st h r K' := by
  obtain ⟨i, nx, tg, hd, q⟩ := hb
  exact ⟨i, nx, tg, hd, q.imp (fun ⟨s, a, k⟩ => ⟨s, a, hK _ _ _ _ k⟩) (ax_b_mono hC hK)⟩
theorem ax_go_mono (hC : ∀ mi as h r, C mi as h r → C' mi as h r) {pc : Nat} {lv : ax_L} {st : List Value} {h : ax_H} (hg : ax_go C M r pc lv st h) : ax_go C' M r pc lv st h :=
  fun P hP => hg P (fun pc lv st h q => hP pc lv st h (ax_step_mono hC (fun _ _ _ _ k => k) q))
theorem ax_go_st {pc : Nat} {lv : ax_L} {st : List Value} {h : ax_H} (q : ax_step C M pc lv st h r (ax_go C M r)) : ax_go C M r pc lv st h :=
  fun P hP => hP _ _ _ _ (ax_step_mono (fun _ _ _ _ k => k) (fun _ _ _ _ k => k P hP) q)
end AxMono
/-- a method's run out of its body's -/
theorem ax_run_of {mi : Nat} {as : List Value} {h : ax_H} {r : ax_R} (M : ax_M) (hM : ax_pr[mi]? = some M) (hw : ax_wsum as ≤ ax_nl mi) (hg : ax_go ax_run M r 0 (lv_args 0 as) [] h) : ax_run mi as h r :=
  fun P hP => hP _ _ _ _ ⟨M, hM, hw, ax_go_mono (fun _ _ _ _ q => q P hP) hg⟩
section AxRows
variable {C : Nat → List Value → ax_H → ax_R → Prop} {M : ax_M} {r : ax_R} {pc nx tg : Nat} {lv lv' : ax_L} {st st' : List Value} {h h' : ax_H}
/-- straight on -/
theorem gs {i : Instr} {pc' : Nat} (hd : M.2.2.1.lookup pc = some (i, nx, tg)) (hs : ax_s i nx tg lv st h = some (pc', lv', st', h')) (k : ax_go C M r pc' lv' st' h') : ax_go C M r pc lv st h := ax_go_st ⟨i, nx, tg, hd, Or.inl ⟨_, hs, k⟩⟩
theorem gb {i : Instr} (hd : M.2.2.1.lookup pc = some (i, nx, tg)) (hb : ax_b C M i pc nx tg lv st h r (ax_go C M r)) : ax_go C M r pc lv st h := ax_go_st ⟨i, nx, tg, hd, Or.inr hb⟩
theorem g_ldc {ix : Nat} {v : Int32} (hd : M.2.2.1.lookup pc = some (.ldc ix, nx, tg)) (hv : ax_tI.lookup (ax_key M ix) = some v) (k : ax_go C M r nx lv (.int v :: st) h) : ax_go C M r pc lv st h := gb hd ⟨v, hv, k⟩
theorem g_ldc2 {ix : Nat} {v : Int64} (hd : M.2.2.1.lookup pc = some (.ldc2_w ix, nx, tg)) (hv : ax_tL.lookup (ax_key M ix) = some v) (k : ax_go C M r nx lv (.long v :: st) h) : ax_go C M r pc lv st h := gb hd ⟨v, hv, k⟩
theorem g_idiv {x y : Int32} (hd : M.2.2.1.lookup pc = some (.idiv, nx, tg)) (hy : ¬ y = 0) (k : ax_go C M r nx lv (.int (x / y) :: st) h) : ax_go C M r pc lv (.int y :: .int x :: st) h := gb hd ⟨x, y, st, rfl, hy, k⟩
theorem g_ldiv {x y : Int64} (hd : M.2.2.1.lookup pc = some (.ldiv, nx, tg)) (hy : ¬ y = 0) (k : ax_go C M r nx lv (.long (x / y) :: st) h) : ax_go C M r pc lv (.long y :: .long x :: st) h := gb hd ⟨x, y, st, rfl, hy, k⟩
theorem g_lrem {x y : Int64} (hd : M.2.2.1.lookup pc = some (.lrem, nx, tg)) (hy : ¬ y = 0) (k : ax_go C M r nx lv (.long (x - x / y * y) :: st) h) : ax_go C M r pc lv (.long y :: .long x :: st) h := gb hd ⟨x, y, st, rfl, hy, k⟩
/-- two ways -/
theorem g_if2 {c : ClassFile.Cond} {o : Int} {x y : Int32} (hd : M.2.2.1.lookup pc = some (.if_icmp c o, nx, tg)) (k1 : ax_cnd c x y → ax_go C M r tg lv st h) (k2 : ¬ ax_cnd c x y → ax_go C M r nx lv st h) : ax_go C M r pc lv (.int y :: .int x :: st) h := gb hd ⟨x, y, st, rfl, k1, k2⟩
theorem g_if1 {c : ClassFile.Cond} {o : Int} {x : Int32} (hd : M.2.2.1.lookup pc = some (.ifCond c o, nx, tg)) (k1 : ax_cnd c x 0 → ax_go C M r tg lv st h) (k2 : ¬ ax_cnd c x 0 → ax_go C M r nx lv st h) : ax_go C M r pc lv (.int x :: st) h := gb hd ⟨x, st, rfl, k1, k2⟩
theorem g_nul {o : Int} (hd : M.2.2.1.lookup pc = some (.ifnull o, nx, tg)) (k : ax_go C M r tg lv st h) : ax_go C M r pc lv (.null :: st) h := gb hd ⟨.null, st, rfl, Or.inl ⟨rfl, k⟩⟩
theorem g_nulR {o : Int} {a : Nat} (hd : M.2.2.1.lookup pc = some (.ifnull o, nx, tg)) (k : ax_go C M r nx lv st h) : ax_go C M r pc lv (.ref a :: st) h := gb hd ⟨.ref a, st, rfl, Or.inr ⟨⟨a, rfl⟩, k⟩⟩
theorem g_nnl {o : Int} (hd : M.2.2.1.lookup pc = some (.ifnonnull o, nx, tg)) (k : ax_go C M r nx lv st h) : ax_go C M r pc lv (.null :: st) h := gb hd ⟨.null, st, rfl, Or.inl ⟨rfl, k⟩⟩
theorem g_nnlR {o : Int} {a : Nat} (hd : M.2.2.1.lookup pc = some (.ifnonnull o, nx, tg)) (k : ax_go C M r tg lv st h) : ax_go C M r pc lv (.ref a :: st) h := gb hd ⟨.ref a, st, rfl, Or.inr ⟨⟨a, rfl⟩, k⟩⟩
theorem g_tsw {d lo hi : Int} {offs : Array Int} {x : Int32} {t : Nat} (hd : M.2.2.1.lookup pc = some (.tableswitch d lo hi offs, nx, tg)) (ht : ax_tsw pc d lo hi offs x = some t) (k : ax_go C M r t lv st h) : ax_go C M r pc lv (.int x :: st) h := gb hd ⟨x, st, t, rfl, ht, k⟩
theorem g_lsw {d : Int} {ps : Array (Int × Int)} {x : Int32} {t : Nat} (hd : M.2.2.1.lookup pc = some (.lookupswitch d ps, nx, tg)) (ht : ax_to pc (Op.lookupswitch.offset ps.toList d x.toInt) = t) (k : ax_go C M r t lv st h) : ax_go C M r pc lv (.int x :: st) h := gb hd ⟨x, st, rfl, by rw [ht]; exact k⟩
/-- fields -/
theorem g_get {ix a ci j : Nat} {fs : List Value} {v : Value} (hd : M.2.2.1.lookup pc = some (.getfield ix, nx, tg)) (hf : ax_tF.lookup (ax_key M ix) = some (ci, j)) (hc : h.1[a]? = some (some (.inr (ci, fs)))) (hv : fs[j]? = some v) (k : ax_go C M r nx lv (v :: st) h) : ax_go C M r pc lv (.ref a :: st) h := gb hd ⟨a, st, ci, j, fs, v, rfl, hf, hc, hv, k⟩
theorem g_put {ix a ci j : Nat} {fs : List Value} {v : Value} (hd : M.2.2.1.lookup pc = some (.putfield ix, nx, tg)) (hf : ax_tF.lookup (ax_key M ix) = some (ci, j)) (hc : h.1[a]? = some (some (.inr (ci, fs)))) (hl : j < fs.length) (hw : ax_fin ci j = false ∨ (M.2.2.2.2 = true ∧ M.1 = ci)) (hn : narrow (ax_ty ci j) v = v) (ht : fits (ax_ty ci j) v = true)
    (k : ax_go C M r nx lv st (h.1.set a (some (.inr (ci, fs.set j v))), h.2)) : ax_go C M r pc lv (v :: .ref a :: st) h := gb hd ⟨a, v, st, ci, j, fs, rfl, hf, hc, hl, hw, hn, ht, k⟩
/-- arrays -/
theorem g_iald {a n : Nat} {i : Int32} {f : Nat → Int32} (hd : M.2.2.1.lookup pc = some (.iaload, nx, tg)) (hc : h.1[a]? = some (some (.inl (0, n, .inl f)))) (hi : vp_in i n) (k : ax_go C M r nx lv (.int (f i.toNatClampNeg) :: st) h) : ax_go C M r pc lv (.int i :: .ref a :: st) h := gb hd ⟨a, i, st, 0, n, f, rfl, hc, Or.inl rfl, hi, k⟩
theorem g_sald {a n : Nat} {i : Int32} {f : Nat → Int32} (hd : M.2.2.1.lookup pc = some (.iaload, nx, tg)) (hc : h.1[a]? = some (some (.inl (9, n, .inl f)))) (hi : vp_in i n) (k : ax_go C M r nx lv (.int (f i.toNatClampNeg) :: st) h) : ax_go C M r pc lv (.int i :: .ref a :: st) h := gb hd ⟨a, i, st, 9, n, f, rfl, hc, Or.inr rfl, hi, k⟩
theorem g_cald {a n : Nat} {i : Int32} {f : Nat → Int32} (hd : M.2.2.1.lookup pc = some (.caload, nx, tg)) (hc : h.1[a]? = some (some (.inl (2, n, .inl f)))) (hi : vp_in i n) (k : ax_go C M r nx lv (.int (f i.toNatClampNeg) :: st) h) : ax_go C M r pc lv (.int i :: .ref a :: st) h := gb hd ⟨a, i, st, n, f, rfl, hc, hi, k⟩
theorem g_lald {a n : Nat} {i : Int32} {f : Nat → Int64} (hd : M.2.2.1.lookup pc = some (.laload, nx, tg)) (hc : h.1[a]? = some (some (.inl (1, n, .inr (.inl f))))) (hi : vp_in i n) (k : ax_go C M r nx lv (.long (f i.toNatClampNeg) :: st) h) : ax_go C M r pc lv (.int i :: .ref a :: st) h := gb hd ⟨a, i, st, n, f, rfl, hc, hi, k⟩
theorem g_aald {a n q : Nat} {i : Int32} {f : Nat → Option Nat} (hd : M.2.2.1.lookup pc = some (.aaload, nx, tg)) (hc : h.1[a]? = some (some (.inl (q, n, .inr (.inr (.inr (.inr f))))))) (hq : q = 3 ∨ q = 4) (hi : vp_in i n) (k : ax_go C M r nx lv (va_rf (f i.toNatClampNeg) :: st) h) : ax_go C M r pc lv (.int i :: .ref a :: st) h := gb hd ⟨a, i, st, q, n, f, rfl, hc, hq, hi, k⟩
theorem g_iast {a n : Nat} {i x : Int32} {f : Nat → Int32} (hd : M.2.2.1.lookup pc = some (.iastore, nx, tg)) (hc : h.1[a]? = some (some (.inl (0, n, .inl f)))) (hi : vp_in i n) (k : ax_go C M r nx lv st (h.1.set a (some (.inl (0, n, .inl (upd f i.toNatClampNeg x)))), h.2)) : ax_go C M r pc lv (.int x :: .int i :: .ref a :: st) h := gb hd ⟨a, i, x, st, n, f, rfl, hc, hi, k⟩
theorem g_cast {a n : Nat} {i x : Int32} {f : Nat → Int32} (hd : M.2.2.1.lookup pc = some (.castore, nx, tg)) (hc : h.1[a]? = some (some (.inl (2, n, .inl f)))) (hi : vp_in i n) (k : ax_go C M r nx lv st (h.1.set a (some (.inl (2, n, .inl (upd f i.toNatClampNeg (vp_nar .char x))))), h.2)) : ax_go C M r pc lv (.int x :: .int i :: .ref a :: st) h := gb hd ⟨a, i, x, st, n, f, rfl, hc, hi, k⟩
theorem g_last {a n : Nat} {i : Int32} {x : Int64} {f : Nat → Int64} (hd : M.2.2.1.lookup pc = some (.lastore, nx, tg)) (hc : h.1[a]? = some (some (.inl (1, n, .inr (.inl f))))) (hi : vp_in i n) (k : ax_go C M r nx lv st (h.1.set a (some (.inl (1, n, .inr (.inl (vp_updL f i.toNatClampNeg x))))), h.2)) : ax_go C M r pc lv (.long x :: .int i :: .ref a :: st) h := gb hd ⟨a, i, x, st, n, f, rfl, hc, hi, k⟩
theorem g_aast {a n q v : Nat} {i : Int32} {f : Nat → Option Nat} {fs : List Value} (hd : M.2.2.1.lookup pc = some (.aastore, nx, tg)) (hc : h.1[a]? = some (some (.inl (q, n, .inr (.inr (.inr (.inr f))))))) (hq : q = 3 ∨ q = 4) (hi : vp_in i n) (hv : h.1[v]? = some (some (.inr (ax_cmp q, fs))))
    (k : ax_go C M r nx lv st (h.1.set a (some (.inl (q, n, .inr (.inr (.inr (.inr (va_up f i.toNatClampNeg (some v)))))))), h.2)) : ax_go C M r pc lv (.ref v :: .int i :: .ref a :: st) h := gb hd ⟨a, i, some v, st, q, n, f, rfl, hc, hq, hi, fun w e => by cases e; exact ⟨fs, hv⟩, k⟩
theorem g_aastN {a n q : Nat} {i : Int32} {f : Nat → Option Nat} (hd : M.2.2.1.lookup pc = some (.aastore, nx, tg)) (hc : h.1[a]? = some (some (.inl (q, n, .inr (.inr (.inr (.inr f))))))) (hq : q = 3 ∨ q = 4) (hi : vp_in i n)
    (k : ax_go C M r nx lv st (h.1.set a (some (.inl (q, n, .inr (.inr (.inr (.inr (va_up f i.toNatClampNeg none))))))), h.2)) : ax_go C M r pc lv (.null :: .int i :: .ref a :: st) h := gb hd ⟨a, i, none, st, q, n, f, rfl, hc, hq, hi, (fun w e => by cases e), k⟩
theorem g_alen {a q n : Nat} {z : (Nat → Int32) ⊕ (Nat → Int64) ⊕ (Nat → UInt32) ⊕ (Nat → UInt64) ⊕ (Nat → Option Nat)} (hd : M.2.2.1.lookup pc = some (.arraylength, nx, tg)) (hc : h.1[a]? = some (some (.inl (q, n, z)))) (hq : q < 5 ∨ (q = 9 ∧ a = 0)) (k : ax_go C M r nx lv (.int (nI n) :: st) h) : ax_go C M r pc lv (.ref a :: st) h := gb hd ⟨a, st, q, n, z, rfl, hc, hq, k⟩
theorem g_newa {t : ArrayType} {n : Int32} {q : Nat} (hd : M.2.2.1.lookup pc = some (.newarray t, nx, tg)) (ht : ax_ak t = some q) (hn : ¬ n < 0) (hm : n.toNatClampNeg ≤ 1000000) (k : ax_go C M r nx lv (.ref h.1.length :: st) (h.1 ++ [some (.inl (q, n.toNatClampNeg, ax_blank q))], h.2 + n.toNatClampNeg)) : ax_go C M r pc lv (.int n :: st) h := gb hd ⟨n, st, q, rfl, ht, hn, hm, k⟩
theorem g_newq {ix : Nat} {n : Int32} {q : Nat} (hd : M.2.2.1.lookup pc = some (.anewarray ix, nx, tg)) (ht : ax_tR.lookup (ax_key M ix) = some q) (hn : ¬ n < 0) (hm : n.toNatClampNeg ≤ 1000000) (k : ax_go C M r nx lv (.ref h.1.length :: st) (h.1 ++ [some (.inl (q, n.toNatClampNeg, ax_blank q))], h.2 + n.toNatClampNeg)) : ax_go C M r pc lv (.int n :: st) h := gb hd ⟨n, st, q, rfl, ht, hn, hm, k⟩
theorem g_new {ix ci : Nat} (hd : M.2.2.1.lookup pc = some (.new ix, nx, tg)) (hn : ax_tN.lookup (ax_key M ix) = some ci) (k : ax_go C M r nx lv (.ref h.1.length :: st) (h.1 ++ [some (.inr (ci, ax_dfl ci))], h.2 + (ax_dfl ci).length)) : ax_go C M r pc lv st h := gb hd (Or.inl ⟨ci, hn, k⟩)
theorem g_thr {ix E ik is : Nat} (hd : M.2.2.1.lookup pc = some (.new ix, nx, tg)) (hx : ax_tX.lookup (ax_key M ix) = some (E, ik)) (hh : M.2.2.2.1 = []) (h1 : M.2.2.1.lookup nx = some (.dup, nx + 1, 0)) (h2 : M.2.2.1.lookup (nx + 1) = some (.ldc is, nx + 3, 0)) (h3 : ax_key M is ∈ ax_tS) (h4 : M.2.2.1.lookup (nx + 3) = some (.invokespecial ik, nx + 6, 0)) (h5 : M.2.2.1.lookup (nx + 6) = some (.athrow, nx + 7, 0)) (hr : r = (.inr E, (h.1 ++ [none], h.2 + 6))) : ax_go C M r pc lv [] h := gb hd (Or.inr ⟨E, ik, is, hx, rfl, hh, h1, h2, h3, h4, h5, hr⟩)
/-- calls: n values, the receiver among them -/
theorem g_cs {ix mi n : Nat} {v : Option Value} {h1 : ax_H} (hd : M.2.2.1.lookup pc = some (.invokestatic ix, nx, tg)) (hm : ax_tM.lookup (ax_key M ix) = some (mi, n)) (hc : C mi (st.take n).reverse h (.inl v, h1)) (hn : n ≤ st.length) (hw : ax_wsum (st.drop n) ≤ 8) (k : ax_go C M r nx lv (v.toList ++ st.drop n) h1) : ax_go C M r pc lv st h := gb hd ⟨mi, n, hm, hn, hw, Or.inl ⟨v, h1, hc, k⟩⟩
theorem g_cv {ix mi n a : Nat} {as fs : List Value} {v : Option Value} {h1 : ax_H} (hd : M.2.2.1.lookup pc = some (.invokevirtual ix, nx, tg)) (hm : ax_tM.lookup (ax_key M ix) = some (mi, n)) (ha : (st.take n).reverse = .ref a :: as) (ho : h.1[a]? = some (some (.inr (ax_rc mi, fs)))) (hc : C mi (st.take n).reverse h (.inl v, h1)) (hn : n ≤ st.length) (hw : ax_wsum (st.drop n) ≤ 8) (k : ax_go C M r nx lv (v.toList ++ st.drop n) h1) : ax_go C M r pc lv st h := gb hd ⟨⟨mi, n, a, as, fs, hm, ha, ho⟩, mi, n, hm, hn, hw, Or.inl ⟨v, h1, hc, k⟩⟩
theorem g_ci {ix mi n a : Nat} {as : List Value} {v : Option Value} {h1 : ax_H} (hd : M.2.2.1.lookup pc = some (.invokespecial ix, nx, tg)) (hm : ax_tM.lookup (ax_key M ix) = some (mi, n)) (ha : (st.take n).reverse = .ref a :: as) (hc : C mi (st.take n).reverse h (.inl v, h1)) (hn : n ≤ st.length) (hw : ax_wsum (st.drop n) ≤ 8) (k : ax_go C M r nx lv (v.toList ++ st.drop n) h1) : ax_go C M r pc lv st h := gb hd (Or.inr ⟨⟨mi, n, a, as, hm, ha⟩, mi, n, hm, hn, hw, Or.inl ⟨v, h1, hc, k⟩⟩)
theorem g_oi {ix a : Nat} (hd : M.2.2.1.lookup pc = some (.invokespecial ix, nx, tg)) (ho : ax_key M ix ∈ ax_tO) (hw : ax_wsum st ≤ 8) (k : ax_go C M r nx lv st h) : ax_go C M r pc lv (.ref a :: st) h := gb hd (Or.inl ⟨ho, a, st, rfl, hw, k⟩)
/-- a call that throws, and nobody here takes it -/
theorem g_cvx {ix mi n E a : Nat} {as fs : List Value} {h1 : ax_H} (hd : M.2.2.1.lookup pc = some (.invokevirtual ix, nx, tg)) (hm : ax_tM.lookup (ax_key M ix) = some (mi, n)) (ha : (st.take n).reverse = .ref a :: as) (ho : h.1[a]? = some (some (.inr (ax_rc mi, fs)))) (hc : C mi (st.take n).reverse h (.inr E, h1)) (hn : n ≤ st.length) (hw : ax_wsum (st.drop n) ≤ 8) (hE : E < 2) (hh : ax_hand M.1 M.2.2.2.1 pc E = none) (hr : r = (.inr E, h1)) : ax_go C M r pc lv st h := gb hd ⟨⟨mi, n, a, as, fs, hm, ha, ho⟩, mi, n, hm, hn, hw, Or.inr ⟨E, h1, hc, hE, Or.inr ⟨hh, hr⟩⟩⟩
theorem g_csx {ix mi n E : Nat} {h1 : ax_H} (hd : M.2.2.1.lookup pc = some (.invokestatic ix, nx, tg)) (hm : ax_tM.lookup (ax_key M ix) = some (mi, n)) (hc : C mi (st.take n).reverse h (.inr E, h1)) (hn : n ≤ st.length) (hw : ax_wsum (st.drop n) ≤ 8) (hE : E < 2) (hh : ax_hand M.1 M.2.2.2.1 pc E = none) (hr : r = (.inr E, h1)) : ax_go C M r pc lv st h := gb hd ⟨mi, n, hm, hn, hw, Or.inr ⟨E, h1, hc, hE, Or.inr ⟨hh, hr⟩⟩⟩
/-- a call that throws, taken here -/
theorem g_cvc {ix mi n E t a : Nat} {as fs : List Value} {h1 : ax_H} (hd : M.2.2.1.lookup pc = some (.invokevirtual ix, nx, tg)) (hm : ax_tM.lookup (ax_key M ix) = some (mi, n)) (ha : (st.take n).reverse = .ref a :: as) (ho : h.1[a]? = some (some (.inr (ax_rc mi, fs)))) (hc : C mi (st.take n).reverse h (.inr E, h1)) (hn : n ≤ st.length) (hw : ax_wsum (st.drop n) ≤ 8) (hE : E < 2) (hh : ax_hand M.1 M.2.2.2.1 pc E = some t) (k : ax_go C M r t lv [.ref (h1.1.length - 1)] h1) : ax_go C M r pc lv st h := gb hd ⟨⟨mi, n, a, as, fs, hm, ha, ho⟩, mi, n, hm, hn, hw, Or.inr ⟨E, h1, hc, hE, Or.inl ⟨t, hh, k⟩⟩⟩
/-- ends -/
theorem g_iret {x : Int32} {rt : FieldType} (hd : M.2.2.1.lookup pc = some (.ireturn, nx, tg)) (ht : M.2.1 = some rt) (hx : narrow rt (.int x) = .int x) (hr : r = (.inl (some (.int x)), h)) : ax_go C M r pc lv [.int x] h := gb hd ⟨x, rt, rfl, ht, hx, hr⟩
theorem g_lret {x : Int64} (hd : M.2.2.1.lookup pc = some (.lreturn, nx, tg)) (ht : M.2.1 = some .long) (hr : r = (.inl (some (.long x)), h)) : ax_go C M r pc lv [.long x] h := gb hd ⟨x, rfl, ht, hr⟩
theorem g_aret {v : Value} {n : String} (hd : M.2.2.1.lookup pc = some (.areturn, nx, tg)) (ht : M.2.1 = some (.object n)) (hv : ax_isA v = true) (hr : r = (.inl (some v), h)) : ax_go C M r pc lv [v] h := gb hd ⟨v, n, rfl, ht, hv, hr⟩
theorem g_vret (hd : M.2.2.1.lookup pc = some (.return_, nx, tg)) (ht : M.2.1 = none) (hr : r = (.inl none, h)) : ax_go C M r pc lv [] h := gb hd ⟨rfl, ht, hr⟩
end AxRows
