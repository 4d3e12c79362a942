section AxB
variable {D : va_G} {dA : Nat → ClassId} {b base : Nat} {p : Program} {l : Launch} {e : Env} {R : Room} {s : State} {m : MethodId} {args : Array Value} {below : List Frame} {meth : Method} {c : Code} {nL : Nat} {bs : ByteArray} {h0 : ax_H} {r : ax_R} {M : ax_M}
theorem ax_v_rf (b base : Nat) (o : Option Nat) : ax_v b base (va_rf o) = va_rf (o.map (ax_ad b base)) := by cases o <;> rfl
theorem ax_narrow {b base : Nat} {ty : FieldType} {v : Value} (h : narrow ty v = v) : narrow ty (ax_v b base v) = ax_v b base v := by
  cases v <;> first | exact h | (cases ty <;> rfl)
theorem ax_fits {b base : Nat} {ty : FieldType} {v : Value} (h : fits ty v = true) : fits ty (ax_v b base v) = true := by
  cases v <;> first | exact h | (cases ty <;> first | exact h | cases h)
theorem ax_if2_sound (hx : p.tables.exec = Jvm.exec) (hbs : c.code = bs) {cd : ClassFile.Cond} {o : Int} {pc nx tg : Nat} (hI : ax_It bs nL pc (.if_icmp cd o) nx tg) {lv : ax_L} {st : List Value} {h : ax_H} {x y : Int32} (k1 : ax_cnd cd x y → ax_P D dA b base p l e R s m args below meth c nL h0 r tg lv st h) (k2 : ¬ ax_cnd cd x y → ax_P D dA b base p l e R s m args below meth c nL h0 r nx lv st h) :
    ax_P D dA b base p l e R s m args below meth c nL h0 r pc lv (.int y :: .int x :: st) h := by
  obtain ⟨-, hd0, ho, -, -⟩ := hI
  obtain ⟨hd, rfl⟩ := hd0 rfl
  have ht := ho o rfl
  by_cases hc : ax_cnd cd x y
  · refine ax_P_same (k1 hc) (fun H locs cells slots Q ls hl hr kk => ?_)
    cases cd with
    | eq => exact lv_icmp_eq hx hbs hd ht (fun _ => kk ls hl) (fun q => absurd hc q)
    | ne => exact lv_icmp_ne hx hbs hd ht (fun _ => kk ls hl) (fun q => absurd q hc)
    | lt => exact lv_icmp_lt hx hbs hd ht (fun _ => kk ls hl) (fun q => absurd hc q)
    | ge => exact lv_icmp_ge hx hbs hd ht (fun _ => kk ls hl) (fun q => absurd hc q)
    | gt => exact lv_icmp_gt hx hbs hd ht (fun _ => kk ls hl) (fun q => absurd hc q)
    | le => exact lv_icmp_le hx hbs hd ht (fun _ => kk ls hl) (fun q => absurd hc q)
  · refine ax_P_same (k2 hc) (fun H locs cells slots Q ls hl hr kk => ?_)
    cases cd with
    | eq => exact lv_icmp_eq hx hbs hd ht (fun q => absurd q hc) (fun _ => kk ls hl)
    | ne => exact lv_icmp_ne hx hbs hd ht (fun q => absurd q hc) (fun _ => kk ls hl)
    | lt => exact lv_icmp_lt hx hbs hd ht (fun q => absurd q hc) (fun _ => kk ls hl)
    | ge => exact lv_icmp_ge hx hbs hd ht (fun q => absurd q hc) (fun _ => kk ls hl)
    | gt => exact lv_icmp_gt hx hbs hd ht (fun q => absurd q hc) (fun _ => kk ls hl)
    | le => exact lv_icmp_le hx hbs hd ht (fun q => absurd q hc) (fun _ => kk ls hl)
theorem ax_if1_sound (hx : p.tables.exec = Jvm.exec) (hbs : c.code = bs) {cd : ClassFile.Cond} {o : Int} {pc nx tg : Nat} (hI : ax_It bs nL pc (.ifCond cd o) nx tg) {lv : ax_L} {st : List Value} {h : ax_H} {x : Int32} (k1 : ax_cnd cd x 0 → ax_P D dA b base p l e R s m args below meth c nL h0 r tg lv st h) (k2 : ¬ ax_cnd cd x 0 → ax_P D dA b base p l e R s m args below meth c nL h0 r nx lv st h) :
    ax_P D dA b base p l e R s m args below meth c nL h0 r pc lv (.int x :: st) h := by
  obtain ⟨-, hd0, ho, -, -⟩ := hI
  obtain ⟨hd, rfl⟩ := hd0 rfl
  have ht := ho o rfl
  by_cases hc : ax_cnd cd x 0
  · refine ax_P_same (k1 hc) (fun H locs cells slots Q ls hl hr kk => ?_)
    cases cd with
    | eq => exact lv_if_eq hx hbs hd ht (fun _ => kk ls hl) (fun q => absurd hc q)
    | ne => exact lv_if_ne hx hbs hd ht (fun _ => kk ls hl) (fun q => absurd q hc)
    | lt => exact lv_if_lt hx hbs hd ht (fun _ => kk ls hl) (fun q => absurd hc q)
    | ge => exact lv_if_ge hx hbs hd ht (fun _ => kk ls hl) (fun q => absurd hc q)
    | gt => exact lv_if_gt hx hbs hd ht (fun _ => kk ls hl) (fun q => absurd hc q)
    | le => exact lv_if_le hx hbs hd ht (fun _ => kk ls hl) (fun q => absurd hc q)
  · refine ax_P_same (k2 hc) (fun H locs cells slots Q ls hl hr kk => ?_)
    cases cd with
    | eq => exact lv_if_eq hx hbs hd ht (fun q => absurd q hc) (fun _ => kk ls hl)
    | ne => exact lv_if_ne hx hbs hd ht (fun q => absurd q hc) (fun _ => kk ls hl)
    | lt => exact lv_if_lt hx hbs hd ht (fun q => absurd q hc) (fun _ => kk ls hl)
    | ge => exact lv_if_ge hx hbs hd ht (fun q => absurd q hc) (fun _ => kk ls hl)
    | gt => exact lv_if_gt hx hbs hd ht (fun q => absurd q hc) (fun _ => kk ls hl)
    | le => exact lv_if_le hx hbs hd ht (fun q => absurd q hc) (fun _ => kk ls hl)
theorem ax_to_eq {pc : Nat} {o : Int} (h : 0 ≤ (pc : Int) + o) : (pc : Int) + o = ((ax_to pc o : Nat) : Int) := by
  unfold ax_to
  omega
theorem ax_lsw_nn {pc : Nat} {x d : Int} (hd : 0 ≤ (pc : Int) + d) : ∀ ps : List (Int × Int), ps.all (fun q => decide (0 ≤ (pc : Int) + q.2)) = true → 0 ≤ (pc : Int) + Op.lookupswitch.offset ps d x := by
  intro ps
  induction ps with
  | nil => intro _; exact hd
  | cons q ps ih =>
    intro h
    simp only [List.all_cons, Bool.and_eq_true, decide_eq_true_eq] at h
    obtain ⟨k, o⟩ := q
    rw [Op.lookupswitch.offset_cons]
    split
    · exact h.1
    · exact ih h.2
/-- the instructions that neither call nor end nor throw -/
def ax_mid : Instr → Bool
  | .invokestatic _ => false
  | .invokevirtual _ => false
  | .invokespecial _ => false
  | .new _ => false
  | .ireturn => false
  | .lreturn => false
  | .areturn => false
  | .return_ => false
  | _ => true
theorem ax_kind {k : Nat} (hK : va_K D classes (ax_tys dA) s) {ty : FieldType} (hk : (ax_tys dA)[k]? = some (dA k, ty)) : ArrOfT s (dA k) ty ∧ va_RA s (dA k) ty := hK.2 k _ hk
theorem ax_arr_at {i k n : Nat} {z : (Nat → Int32) ⊕ (Nat → Int64) ⊕ (Nat → UInt32) ⊕ (Nat → UInt64) ⊕ (Nat → Option Nat)} {H : Heap} (h : ax_at D dA b base s i (some (.inl (k, n, z))) H) (hk : k ≠ 9) : va_at D classes (ax_ad b base i, .inl (dA k, n, ax_z b base z)) H := by
  unfold ax_at at h
  split at h
  · rename_i e; cases e
  · rename_i e; cases e; exact absurd rfl hk
  · rename_i y hy e; cases e; exact h
theorem ax_arr_of {i k n : Nat} {z : (Nat → Int32) ⊕ (Nat → Int64) ⊕ (Nat → UInt32) ⊕ (Nat → UInt64) ⊕ (Nat → Option Nat)} {H : Heap} (h : va_at D classes (ax_ad b base i, .inl (dA k, n, ax_z b base z)) H) (hk : k ≠ 9) : ax_at D dA b base s i (some (.inl (k, n, z))) H := by
  unfold ax_at
  split
  · rename_i e; cases e
  · rename_i e; cases e; exact absurd rfl hk
  · rename_i y hy e; cases e; exact h
theorem ax_mid_sound (hbb : b < base) (hx : p.tables.exec = Jvm.exec) (hbs : c.code = bs) (hown : s.vm.findClass (ax_cn M.1) = some m.cls) (hini : M.2.2.2.2 = true → meth.name = "<init>") (hG : ∀ w ∈ lw_tbl, ax_gw w = true → w.before args s = true) (hK : va_K D classes (ax_tys dA) s) (hRc : r.2.1.length - h0.1.length ≤ R.cells) (hRs : r.2.2 - h0.2 ≤ R.slots)
    {C : Nat → List Value → ax_H → ax_R → Prop} {i : Instr} (hm : ax_mid i = true) {pc nx tg : Nat} (hI : ax_It bs nL pc i nx tg) {lv : ax_L} {st : List Value} {h : ax_H} (hb : ax_b C M i pc nx tg lv st h r (ax_P D dA b base p l e R s m args below meth c nL h0 r)) :
    ax_P D dA b base p l e R s m args below meth c nL h0 r pc lv st h := by
  have hW : ∀ {w : Jvm.Cond}, ax_w w → w.before args s = true := fun hw => hG _ hw.1 hw.2
  have hI' := hI
  obtain ⟨hdd, hd0, ho, ht, hsw⟩ := hI
  cases i with
  | ldc ix =>
    obtain ⟨hd, rfl⟩ := hd0 rfl
    obtain ⟨v, hv, k⟩ := hb
    exact ax_P_same k (fun H locs cells slots Q ls hl hr kk => lv_ldc hx hbs hown (hW (ax_tI_ok _ (ax_lookup2_in hv))) hd (kk ls hl))
  | ldc2_w ix =>
    obtain ⟨hd, rfl⟩ := hd0 rfl
    obtain ⟨v, hv, k⟩ := hb
    exact ax_P_same k (fun H locs cells slots Q ls hl hr kk => lv_ldc2 hx hbs hown (hW (ax_tL_ok _ (ax_lookup2_in hv))) hd (kk ls hl))
  | idiv =>
    obtain ⟨hd, rfl⟩ := hd0 rfl
    obtain ⟨x, y, st', rfl, hy, k⟩ := hb
    exact ax_P_same k (fun H locs cells slots Q ls hl hr kk => lv_idiv hx hbs hd hy (kk ls hl))
  | ldiv =>
    obtain ⟨hd, rfl⟩ := hd0 rfl
    obtain ⟨x, y, st', rfl, hy, k⟩ := hb
    exact ax_P_same k (fun H locs cells slots Q ls hl hr kk => lv_ldiv hx hbs hd hy (kk ls hl))
  | lrem =>
    obtain ⟨hd, rfl⟩ := hd0 rfl
    obtain ⟨x, y, st', rfl, hy, k⟩ := hb
    exact ax_P_same k (fun H locs cells slots Q ls hl hr kk => lv_lrem hx hbs hd hy (kk ls hl))
  | if_icmp cd o =>
    obtain ⟨x, y, st', rfl, k1, k2⟩ := hb
    exact ax_if2_sound hx hbs hI' k1 k2
  | ifCond cd o =>
    obtain ⟨x, st', rfl, k1, k2⟩ := hb
    exact ax_if1_sound hx hbs hI' k1 k2
  | ifnull o =>
    obtain ⟨hd, rfl⟩ := hd0 rfl
    obtain ⟨v, st', rfl, k⟩ := hb
    rcases k with ⟨rfl, k⟩ | ⟨⟨a, rfl⟩, k⟩
    · exact ax_P_same k (fun H locs cells slots Q ls hl hr kk => lv_ifnullN hx hbs hd (ho o rfl) (kk ls hl))
    · exact ax_P_same k (fun H locs cells slots Q ls hl hr kk => lv_ifnull hx hbs hd (kk ls hl))
  | ifnonnull o =>
    obtain ⟨hd, rfl⟩ := hd0 rfl
    obtain ⟨v, st', rfl, k⟩ := hb
    rcases k with ⟨rfl, k⟩ | ⟨⟨a, rfl⟩, k⟩
    · exact ax_P_same k (fun H locs cells slots Q ls hl hr kk => lv_ifnonnullN hx hbs hd (kk ls hl))
    · exact ax_P_same k (fun H locs cells slots Q ls hl hr kk => lv_ifnonnull hx hbs hd (ho o rfl) (kk ls hl))
  | tableswitch d lo hi offs =>
    obtain ⟨x, st', t, rfl, hts, k⟩ := hb
    simp only [ax_swok, Bool.and_eq_true, decide_eq_true_eq, List.all_eq_true] at hsw
    unfold ax_tsw at hts
    split at hts
    · rename_i hout
      cases hts
      exact ax_P_same k (fun H locs cells slots Q ls hl hr kk => lv_tableOut hx hbs hdd hout (ax_to_eq hsw.1) (kk ls hl))
    · rename_i hinn
      obtain ⟨o, ho1, rfl⟩ := Option.map_eq_some_iff.mp hts
      have hmem : o ∈ offs.toList := Array.mem_toList_iff.mpr (Array.mem_of_getElem? ho1)
      exact ax_P_same k (fun H locs cells slots Q ls hl hr kk => lv_tableIn hx hbs hdd (fun q => hinn (Or.inl q)) (fun q => hinn (Or.inr q)) ho1 (ax_to_eq (hsw.2 o hmem)) (kk ls hl))
  | lookupswitch d ps =>
    obtain ⟨x, st', rfl, k⟩ := hb
    simp only [ax_swok, Bool.and_eq_true, decide_eq_true_eq] at hsw
    exact ax_P_same k (fun H locs cells slots Q ls hl hr kk => lv_lookup hx hbs hdd hsw.2 rfl (ax_to_eq (ax_lsw_nn hsw.1.1 _ hsw.1.2)) (kk ls hl))
  | getfield ix =>
    obtain ⟨hd, rfl⟩ := hd0 rfl
    obtain ⟨a, st', ci, k, fs, v, rfl, hf, hc, hv, kk0⟩ := hb
    obtain ⟨C0, T, N, hcl, hkN, hlk⟩ := ax_tF_ok _ (ax_lookup2_in hf)
    refine ax_P_same kk0 (fun H locs cells slots Q ls hl hr kk => ?_)
    exact ax_getR hx hbs (fun w hw => hW (ax_cls_ok ci _ hcl w hw)) hown hK (hr.2.2 a _ hc) hcl k hkN (hlk.imp (fun q => hW q) (fun ⟨host, q⟩ => ⟨host, hW q⟩)) (by rw [List.getElem?_map, hv]; rfl) hd (kk ls hl)
  | putfield ix =>
    obtain ⟨hd, rfl⟩ := hd0 rfl
    obtain ⟨a, v, st', ci, k, fs, rfl, hf, hc, hlt, hfin, hn, hfit, kk0⟩ := hb
    obtain ⟨C0, T, N, hcl, hkN, hlk⟩ := ax_tF_ok _ (ax_lookup2_in hf)
    refine ax_P_set hbb hc (fun n xs q => by cases q) kk0 (fun H locs cells slots Q ls hl hr kk => ?_)
    refine ax_putR hx hbs (fun w hw => hW (ax_cls_ok ci _ hcl w hw)) (ax_ty ci) (ax_ty_ok ci _ hcl) (ax_nm_ok ci _ hcl) hown hK (hr.2.2 a _ hc) hcl k hkN ?_ (ax_narrow hn) (ax_fits hfit) (by rw [List.length_map]; exact hlt) hd (fun H1 j ha hz hq => kk H1 j ?_ hz hq)
    · rcases hfin with hfin | ⟨hi1, hi2⟩
      · by_cases hF : (T k).2.2.2 = true
        · exact absurd (ax_fin_ok ci _ hcl k hkN ▸ hfin) (by rw [hF]; decide)
        · exact Or.inl ⟨by simpa using hF, hlk.imp (fun q => hW q) (fun ⟨host, q⟩ => ⟨host, hW q⟩)⟩
      · by_cases hF : (T k).2.2.2 = true
        · subst hi2
          exact Or.inr ⟨hF, hini hi1, ax_own_ok _ _ hcl k hkN, hW (ax_tFown_ok _ (ax_lookup2_in hf) rfl hcl)⟩
        · exact Or.inl ⟨by simpa using hF, hlk.imp (fun q => hW q) (fun ⟨host, q⟩ => ⟨host, hW q⟩)⟩
    · show va_at D classes (ax_ad b base a, .inr (ci, (fs.set k v).map (ax_v b base))) H1
      rw [List.map_set]
      exact ha
  | iaload =>
    obtain ⟨hd, rfl⟩ := hd0 rfl
    obtain ⟨a, i, st', k, n, f, rfl, hc, hk, hin, kk0⟩ := hb
    refine ax_P_same kk0 (fun H locs cells slots Q ls hl hr kk => ?_)
    rcases hk with rfl | rfl
    · exact va_iald hx hbs hK (ax_one (ax_arr_at (hr.2.2 a _ hc) (by decide))) 0 0 rfl rfl hin hd (kk ls hl)
    · obtain ⟨scr, h1, h2, h3, h4, h5⟩ : va_X (ax_ad b base a) n f s H := hr.2.2 a _ hc
      have hlt : i.toNatClampNeg < n := Nat.not_le.mp fun q => hin (Or.inr q)
      exact W.iald (v := .int (f i.toNatClampNeg)) hx hbs h1 h2 h3 (by rw [h4]; exact hin) (h5 _ hlt) rfl rfl hd (kk ls hl)
  | caload =>
    obtain ⟨hd, rfl⟩ := hd0 rfl
    obtain ⟨a, i, st', n, f, rfl, hc, hin, kk0⟩ := hb
    exact ax_P_same kk0 (fun H locs cells slots Q ls hl hr kk => va_cald hx hbs hK (ax_one (ax_arr_at (hr.2.2 a _ hc) (by decide))) 0 2 rfl rfl hin hd (kk ls hl))
  | laload =>
    obtain ⟨hd, rfl⟩ := hd0 rfl
    obtain ⟨a, i, st', n, f, rfl, hc, hin, kk0⟩ := hb
    exact ax_P_same kk0 (fun H locs cells slots Q ls hl hr kk => va_lald hx hbs hK (ax_one (ax_arr_at (hr.2.2 a _ hc) (by decide))) 0 1 rfl rfl hin hd (kk ls hl))
  | aaload =>
    obtain ⟨hd, rfl⟩ := hd0 rfl
    obtain ⟨a, i, st', k, n, f, rfl, hc, hk, hin, kk0⟩ := hb
    refine ax_P_same kk0 (fun H locs cells slots Q ls hl hr kk => ?_)
    have kk1 := kk ls hl
    rw [List.map_cons, ax_v_rf] at kk1
    rcases hk with rfl | rfl
    · exact va_aldq hx hbs hK (ax_one (ax_arr_at (hr.2.2 a _ hc) (by decide))) 0 3 rfl rfl hin hd kk1
    · exact va_aldq hx hbs hK (ax_one (ax_arr_at (hr.2.2 a _ hc) (by decide))) 0 4 rfl rfl hin hd kk1
  | iastore =>
    obtain ⟨hd, rfl⟩ := hd0 rfl
    obtain ⟨a, i, x, st', n, f, rfl, hc, hin, kk0⟩ := hb
    refine ax_P_set hbb hc (fun n xs q => by cases q) kk0 (fun H locs cells slots Q ls hl hr kk => ?_)
    exact ax_iastR (D := D) (cl := classes) hx hbs (ax_kind hK (k := 0) rfl).1 (hr.2.2 a _ hc) hin hd (fun H1 j ha hz hq => kk H1 j ha hz hq)
  | castore =>
    obtain ⟨hd, rfl⟩ := hd0 rfl
    obtain ⟨a, i, x, st', n, f, rfl, hc, hin, kk0⟩ := hb
    refine ax_P_set hbb hc (fun n xs q => by cases q) kk0 (fun H locs cells slots Q ls hl hr kk => ?_)
    exact ax_castR (D := D) (cl := classes) hx hbs (ax_kind hK (k := 2) rfl).1 (hr.2.2 a _ hc) hin hd (fun H1 j ha hz hq => kk H1 j ha hz hq)
  | lastore =>
    obtain ⟨hd, rfl⟩ := hd0 rfl
    obtain ⟨a, i, x, st', n, f, rfl, hc, hin, kk0⟩ := hb
    refine ax_P_set hbb hc (fun n xs q => by cases q) kk0 (fun H locs cells slots Q ls hl hr kk => ?_)
    exact ax_lastR (D := D) (cl := classes) hx hbs (ax_kind hK (k := 1) rfl).1 (hr.2.2 a _ hc) hin hd (fun H1 j ha hz hq => kk H1 j ha hz hq)
  | aastore =>
    obtain ⟨hd, rfl⟩ := hd0 rfl
    obtain ⟨a, i, o, st', k, n, f, rfl, hc, hk, hin, hv, kk0⟩ := hb
    refine ax_P_set hbb hc (fun n xs q => by cases q) kk0 (fun H locs cells slots Q ls hl hr kk => ?_)
    have e1 : ∀ v : Option Nat, (fun j => (va_up f i.toNatClampNeg v j).map (ax_ad b base)) = va_up (fun j => (f j).map (ax_ad b base)) i.toNatClampNeg (v.map (ax_ad b base)) := by
      intro v
      funext j
      unfold va_up
      split <;> rfl
    cases o with
    | none =>
      rcases hk with rfl | rfl
      · refine ax_aastNR (D := D) (cl := classes) hx hbs (ax_kind hK (k := 3) rfl).1 (hr.2.2 a _ hc) hin hd (fun H1 j ha hz hq => kk H1 j ?_ hz hq)
        show va_at D classes (_, .inl (dA 3, n, .inr (.inr (.inr (.inr (fun j => (va_up f i.toNatClampNeg none j).map (ax_ad b base))))))) H1
        rw [e1]
        exact ha
      · refine ax_aastNR (D := D) (cl := classes) hx hbs (ax_kind hK (k := 4) rfl).1 (hr.2.2 a _ hc) hin hd (fun H1 j ha hz hq => kk H1 j ?_ hz hq)
        show va_at D classes (_, .inl (dA 4, n, .inr (.inr (.inr (.inr (fun j => (va_up f i.toNatClampNeg none j).map (ax_ad b base))))))) H1
        rw [e1]
        exact ha
    | some v =>
      obtain ⟨fs, hv⟩ := hv v rfl
      rcases hk with rfl | rfl
      · refine ax_aastR (D := D) (cl := classes) hx hbs hK (ax_kind hK (k := 3) rfl).2 (hr.2.2 a _ hc) (hr.2.2 v _ hv) rfl hin hd (fun H1 j ha hz hq => kk H1 j ?_ hz hq)
        show va_at D classes (_, .inl (dA 3, n, .inr (.inr (.inr (.inr (fun j => (va_up f i.toNatClampNeg (some v) j).map (ax_ad b base))))))) H1
        rw [e1]
        exact ha
      · refine ax_aastR (D := D) (cl := classes) hx hbs hK (ax_kind hK (k := 4) rfl).2 (hr.2.2 a _ hc) (hr.2.2 v _ hv) rfl hin hd (fun H1 j ha hz hq => kk H1 j ?_ hz hq)
        show va_at D classes (_, .inl (dA 4, n, .inr (.inr (.inr (.inr (fun j => (va_up f i.toNatClampNeg (some v) j).map (ax_ad b base))))))) H1
        rw [e1]
        exact ha
  | arraylength =>
    obtain ⟨hd, rfl⟩ := hd0 rfl
    obtain ⟨a, st', k, n, z, rfl, hc, hk, kk0⟩ := hb
    refine ax_P_same kk0 (fun H locs cells slots Q ls hl hr kk => ?_)
    have hcase : k = 0 ∨ k = 1 ∨ k = 2 ∨ k = 3 ∨ k = 4 ∨ (k = 9 ∧ a = 0) := by
      rcases hk with hk | hk
      · rcases k with _ | _ | _ | _ | _ | k
        · exact Or.inl rfl
        · exact Or.inr (Or.inl rfl)
        · exact Or.inr (Or.inr (Or.inl rfl))
        · exact Or.inr (Or.inr (Or.inr (Or.inl rfl)))
        · exact Or.inr (Or.inr (Or.inr (Or.inr (Or.inl rfl))))
        · exact absurd hk (by omega)
      · exact Or.inr (Or.inr (Or.inr (Or.inr (Or.inr hk))))
    rcases hcase with rfl | rfl | rfl | rfl | rfl | ⟨rfl, rfl⟩
    · exact va_alen hx hbs hK (ax_one (ax_arr_at (hr.2.2 a _ hc) (by decide))) 0 0 rfl rfl rfl hd (kk ls hl)
    · exact va_alen hx hbs hK (ax_one (ax_arr_at (hr.2.2 a _ hc) (by decide))) 0 1 rfl rfl rfl hd (kk ls hl)
    · exact va_alen hx hbs hK (ax_one (ax_arr_at (hr.2.2 a _ hc) (by decide))) 0 2 rfl rfl rfl hd (kk ls hl)
    · exact va_alen hx hbs hK (ax_one (ax_arr_at (hr.2.2 a _ hc) (by decide))) 0 3 rfl rfl rfl hd (kk ls hl)
    · exact va_alen hx hbs hK (ax_one (ax_arr_at (hr.2.2 a _ hc) (by decide))) 0 4 rfl rfl rfl hd (kk ls hl)
    · obtain ⟨⟨n0, xs0, h00⟩, -⟩ := id hr
      cases h00.symm.trans hc
      obtain ⟨scr, h1, h2, h3, h4, h5⟩ : va_X (ax_ad b base 0) n xs0 s H := hr.2.2 0 _ h00
      exact W.alen (n := nI n) hx hbs h1 h2 (by rw [h4]; rfl) rfl rfl hd (kk ls hl)
  | newarray t =>
    obtain ⟨hd, rfl⟩ := hd0 rfl
    obtain ⟨n, st', k, rfl, hk, hn, hm1, kk0⟩ := hb
    refine ax_P_push hbb hRc hRs kk0 (fun H locs cells slots Q ls hl hr hc1 hs1 kk => ?_)
    have htop := ax_rep_top hr
    rw [htop] at kk
    cases t <;> simp [ax_ak] at hk <;> subst hk
    · exact ax_newaR (D := D) (cl := classes) hx hbs (t := .char) (hW ax_arC) (ax_kind hK (k := 2) rfl).2 (z := (n.toNatClampNeg, .inl (fun _ => 0))) rfl hn (by show n.toNatClampNeg * 2 ≤ _; omega) hc1 hs1 hd (fun H1 ha hz hq => kk H1 (ax_arr_of (by rw [htop]; exact ha) (by decide)) hz hq)
    · exact ax_newaR (D := D) (cl := classes) hx hbs (t := .int) (hW ax_arI) (ax_kind hK (k := 0) rfl).2 (z := (n.toNatClampNeg, .inl (fun _ => 0))) rfl hn (by show n.toNatClampNeg * 4 ≤ _; omega) hc1 hs1 hd (fun H1 ha hz hq => kk H1 (ax_arr_of (by rw [htop]; exact ha) (by decide)) hz hq)
    · exact ax_newaR (D := D) (cl := classes) hx hbs (t := .long) (hW ax_arJ) (ax_kind hK (k := 1) rfl).2 (z := (n.toNatClampNeg, .inr (.inl (fun _ => 0)))) rfl hn (by show n.toNatClampNeg * 8 ≤ _; omega) hc1 hs1 hd (fun H1 ha hz hq => kk H1 (ax_arr_of (by rw [htop]; exact ha) (by decide)) hz hq)
  | anewarray ix =>
    obtain ⟨hd, rfl⟩ := hd0 rfl
    obtain ⟨n, st', k, rfl, hk, hn, hm1, kk0⟩ := hb
    refine ax_P_push hbb hRc hRs kk0 (fun H locs cells slots Q ls hl hr hc1 hs1 kk => ?_)
    have htop := ax_rep_top hr
    rw [htop] at kk
    rcases ax_tR_ok _ (ax_lookup2_in hk) with ⟨rfl, hk1⟩ | ⟨rfl, hk1⟩
    · obtain ⟨kA, comp, -, -, -, hnm⟩ := (ax_kind hK (k := 3) rfl).2
      exact ax_newqR (D := D) (cl := classes) hx hbs hown (hW hk1) (hW ax_ovO) hnm hn (by omega) hc1 hs1 hd (fun H1 ha hz hq => kk H1 (ax_arr_of (by rw [htop]; exact ha) (by decide)) hz hq)
    · obtain ⟨kA, comp, -, -, -, hnm⟩ := (ax_kind hK (k := 4) rfl).2
      exact ax_newqR (D := D) (cl := classes) hx hbs hown (hW hk1) (hW ax_ovG) hnm hn (by omega) hc1 hs1 hd (fun H1 ha hz hq => kk H1 (ax_arr_of (by rw [htop]; exact ha) (by decide)) hz hq)
  | _ => first | exact hb.elim | cases hm
end AxB
