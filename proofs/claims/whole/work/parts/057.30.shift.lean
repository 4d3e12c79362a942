/-! WHERE THE ABSTRACT CELLS LIE: cell 0 is the script, at b; cell i + 1 at base + i. -/
def ax_ad (b base : Nat) : Nat → Nat
  | 0 => b
  | i + 1 => base + i
def ax_v (b base : Nat) : Value → Value
  | .ref a => .ref (ax_ad b base a)
  | v => v
def ax_lm (b base : Nat) (lv : ax_L) : ax_L := lv.map (fun q => (q.1, ax_v b base q.2))
def ax_z (b base : Nat) (z : (Nat → Int32) ⊕ (Nat → Int64) ⊕ (Nat → UInt32) ⊕ (Nat → UInt64) ⊕ (Nat → Option Nat)) : (Nat → Int32) ⊕ (Nat → Int64) ⊕ (Nat → UInt32) ⊕ (Nat → UInt64) ⊕ (Nat → Option Nat) := match z with
  | .inl f => .inl f
  | .inr (.inl f) => .inr (.inl f)
  | .inr (.inr (.inl f)) => .inr (.inr (.inl f))
  | .inr (.inr (.inr (.inl f))) => .inr (.inr (.inr (.inl f)))
  | .inr (.inr (.inr (.inr f))) => .inr (.inr (.inr (.inr (fun j => (f j).map (ax_ad b base)))))
def ax_e (b base : Nat) (dA : Nat → ClassId) : ax_C → va_E
  | .inl (k, n, z) => .inl (dA k, n, ax_z b base z)
  | .inr (ci, fs) => .inr (ci, fs.map (ax_v b base))
theorem ax_ad_inj {b base i j : Nat} (hb : b < base) (h : ax_ad b base i = ax_ad b base j) : i = j := by
  cases i <;> cases j <;> simp [ax_ad] at h <;> omega
theorem ax_v_cat (b base : Nat) (v : Value) : (ax_v b base v).category = v.category := by cases v <;> rfl
theorem ax_lm_in {b base : Nat} {lv : ax_L} {k : Nat} {v : Value} (h : lv.lookup k = some v) : (k, ax_v b base v) ∈ ax_lm b base lv := by
  induction lv with
  | nil => simp at h
  | cons q lv ih =>
    obtain ⟨i, w⟩ := q
    by_cases hk : k = i
    · subst hk
      simp at h
      subst h
      exact List.mem_cons_self
    · rw [List.lookup_cons] at h
      rw [show (k == i) = false by simpa using hk] at h
      exact List.mem_cons_of_mem _ (ih h)
theorem ax_lm_get {b base nL k : Nat} {ls : Array Slot} {lv : ax_L} {v : Value} (hl : lv_has ls nL (ax_lm b base lv)) (h : lv.lookup k = some v) : ls[k]? = some (.val (ax_v b base v)) := hl.2.2 _ (ax_lm_in h)
theorem ax_lm_sto1 (b base i : Nat) (v : Value) (lv : ax_L) : ax_lm b base (ax_sto1 i v lv) = (i, ax_v b base v) :: (ax_lm b base lv).filter (fun q => !(q.1 == i) && !(q.1 + 1 == i && q.2.category == 2)) := by
  simp only [ax_sto1, ax_lm, List.map_cons, List.filter_map]
  congr 3
  funext q
  simp [Function.comp, ax_v_cat]
theorem ax_lm_sto2 (b base i : Nat) (v : Value) (lv : ax_L) : ax_lm b base (ax_sto2 i v lv) = (i, ax_v b base v) :: (ax_lm b base lv).filter (fun q => !(q.1 == i) && (!(q.1 == i + 1) && !(q.1 + 1 == i && q.2.category == 2))) := by
  simp only [ax_sto2, ax_lm, List.map_cons, List.filter_map]
  congr 3
  funext q
  simp [Function.comp, ax_v_cat]
theorem ax_lm_args (b base : Nat) (as : List Value) : ∀ i, ax_lm b base (lv_args i as) = lv_args i (as.map (ax_v b base)) := by
  induction as with
  | nil => intro i; rfl
  | cons v vs ih =>
    intro i
    show (i, ax_v b base v) :: ax_lm b base (lv_args _ vs) = (i, ax_v b base v) :: lv_args _ (vs.map (ax_v b base))
    rw [ih, ax_v_cat]
/-! what the tables of a method's instructions must say -/
def ax_len : Instr → Nat
  | .bipush _ => 2
  | .iload _ => 2
  | .lload _ => 2
  | .aload _ => 2
  | .istore _ => 2
  | .lstore _ => 2
  | .astore _ => 2
  | .ldc _ => 2
  | .newarray _ => 2
  | .sipush _ => 3
  | .iinc _ _ => 3
  | .ldc2_w _ => 3
  | .if_icmp _ _ => 3
  | .ifCond _ _ => 3
  | .ifnull _ => 3
  | .ifnonnull _ => 3
  | .goto _ => 3
  | .getfield _ => 3
  | .putfield _ => 3
  | .invokevirtual _ => 3
  | .invokespecial _ => 3
  | .invokestatic _ => 3
  | .new _ => 3
  | .anewarray _ => 3
  | _ => 1
def ax_sw : Instr → Bool
  | .tableswitch _ _ _ _ => true
  | .lookupswitch _ _ => true
  | _ => false
def ax_off : Instr → Option Int
  | .goto o => some o
  | .if_icmp _ o => some o
  | .ifCond _ o => some o
  | .ifnull o => some o
  | .ifnonnull o => some o
  | _ => none
/-- the last local that an instruction writes -/
def ax_top : Instr → Nat
  | .istore k => k
  | .istore_n k => k
  | .astore k => k
  | .astore_n k => k
  | .lstore k => k + 1
  | .lstore_n k => k + 1
  | .iinc k _ => k
  | _ => 0
def ax_swok (pc : Nat) : Instr → Bool
  | .tableswitch d _ _ offs => decide (0 ≤ (pc : Int) + d) && offs.toList.all (fun o => decide (0 ≤ (pc : Int) + o))
  | .lookupswitch d ps => decide (0 ≤ (pc : Int) + d) && ps.toList.all (fun q => decide (0 ≤ (pc : Int) + q.2)) && (ps.toList.zip (ps.toList.drop 1)).all (fun (a, next) => a.1 < next.1)
  | _ => true
def ax_okI (bs : ByteArray) (nL : Nat) (e : Nat × Instr × Nat × Nat) : Bool :=
  decide (decode bs e.1 = .ok (e.2.1, e.2.2.1 - e.1)) && (ax_sw e.2.1 || decide (e.2.2.1 = e.1 + ax_len e.2.1)) &&
    (match ax_off e.2.1 with | some o => decide ((e.1 : Int) + o = (e.2.2.2 : Int)) | none => true) && decide (ax_top e.2.1 < nL) && ax_swok e.1 e.2.1
theorem ax_lookup2_in {α : Type} {l : List ((Nat × Nat) × α)} {k : Nat × Nat} {x : α} (h : l.lookup k = some x) : (k, x) ∈ l := by
  induction l with
  | nil => simp at h
  | cons q l ih =>
    obtain ⟨i, w⟩ := q
    by_cases hk : k = i
    · subst hk
      simp at h
      subst h
      exact List.mem_cons_self
    · rw [List.lookup_cons, show (k == i) = false from beq_eq_false_iff_ne.mpr hk] at h
      exact List.mem_cons_of_mem _ (ih h)
theorem ax_lookup_in {α : Type} {l : List (Nat × α)} {k : Nat} {x : α} (h : l.lookup k = some x) : (k, x) ∈ l := by
  induction l with
  | nil => simp at h
  | cons q l ih =>
    obtain ⟨i, w⟩ := q
    by_cases hk : k = i
    · subst hk
      simp at h
      subst h
      exact List.mem_cons_self
    · rw [List.lookup_cons, show (k == i) = false by simpa using hk] at h
      exact List.mem_cons_of_mem _ (ih h)
/-- what an instruction's row of a good table says -/
def ax_It (bs : ByteArray) (nL pc : Nat) (i : Instr) (nx tg : Nat) : Prop :=
  decode bs pc = .ok (i, nx - pc) ∧ (ax_sw i = false → decode bs pc = .ok (i, ax_len i) ∧ nx = pc + ax_len i) ∧ (∀ o, ax_off i = some o → (pc : Int) + o = (tg : Int)) ∧ ax_top i < nL ∧ ax_swok pc i = true
theorem ax_okI_at {bs : ByteArray} {nL : Nat} {tb : List (Nat × Instr × Nat × Nat)} (hok : tb.all (ax_okI bs nL) = true) {pc nx tg : Nat} {i : Instr} (hd : tb.lookup pc = some (i, nx, tg)) : ax_It bs nL pc i nx tg := by
  have h := List.all_eq_true.mp hok _ (ax_lookup_in hd)
  simp only [ax_okI, Bool.and_eq_true, Bool.or_eq_true, decide_eq_true_eq] at h
  obtain ⟨⟨⟨⟨h1, h2⟩, h3⟩, h4⟩, h5⟩ := h
  refine ⟨h1, fun hs => ?_, fun o ho => ?_, h4, h5⟩
  · have h6 : nx = pc + ax_len i := by
      rcases h2 with h2 | h2
      · rw [hs] at h2; cases h2
      · exact h2
    refine ⟨?_, h6⟩
    rw [h1, h6, Nat.add_sub_cancel_left]
  · rw [ho] at h3
    simpa using h3
section AxSimple
variable {p : Program} {l : Launch} {e : Env} {R : Room} {s : State} {m : MethodId} {args : Array Value} {below : List Frame} {meth : Method} {c : Code} {H : Heap} {locs : List Loc} {cells slots : Nat} {Q : State → Prop} {bs : ByteArray} {nL pc nx tg b base : Nat}
/-- the locals, for a value stored -/
theorem ax_s_sound (hx : p.tables.exec = Jvm.exec) (hb : c.code = bs) {i : Instr} (hI : ax_It bs nL pc i nx tg) {lv : ax_L} {st : List Value} {h : ax_H} {s' : ax_S} (hs : ax_s i nx tg lv st h = some s') :
    s'.2.2.2 = h ∧ ∀ ls, lv_has ls nL (ax_lm b base lv) → (∀ ls', lv_has ls' nL (ax_lm b base s'.2.1) → W p l e R s m args below meth c H locs cells slots Q (F0 m s'.1 ls' (s'.2.2.1.map (ax_v b base)))) →
      W p l e R s m args below meth c H locs cells slots Q (F0 m pc ls (st.map (ax_v b base))) := by
  obtain ⟨-, hd0, ho, ht, -⟩ := hI
  cases i with
  | aconst_null =>
    obtain ⟨hd, rfl⟩ := hd0 rfl
    cases hs
    exact ⟨rfl, fun ls hl k => lv_null hx hb hd (k ls hl)⟩
  | iconst n =>
    obtain ⟨hd, rfl⟩ := hd0 rfl
    cases hs
    exact ⟨rfl, fun ls hl k => lv_iconst hx hb hd rfl (k ls hl)⟩
  | bipush n =>
    obtain ⟨hd, rfl⟩ := hd0 rfl
    cases hs
    exact ⟨rfl, fun ls hl k => lv_bipush hx hb hd rfl (k ls hl)⟩
  | sipush n =>
    obtain ⟨hd, rfl⟩ := hd0 rfl
    cases hs
    exact ⟨rfl, fun ls hl k => lv_sipush hx hb hd rfl (k ls hl)⟩
  | lconst n =>
    obtain ⟨hd, rfl⟩ := hd0 rfl
    cases hs
    exact ⟨rfl, fun ls hl k => lv_lconst hx hb hd rfl (k ls hl)⟩
  | iload k =>
    obtain ⟨hd, rfl⟩ := hd0 rfl
    simp only [ax_s, ax_load] at hs
    split at hs
    · rename_i v hv
      cases v <;> simp [ax_isI] at hs
      subst hs
      exact ⟨rfl, fun ls hl kk => lv_iload hx hb hd (ax_lm_get hl hv) (kk ls hl)⟩
    · cases hs
  | iload_n k =>
    obtain ⟨hd, rfl⟩ := hd0 rfl
    simp only [ax_s, ax_load] at hs
    split at hs
    · rename_i v hv
      cases v <;> simp [ax_isI] at hs
      subst hs
      exact ⟨rfl, fun ls hl kk => lv_iload_n hx hb hd rfl (ax_lm_get hl hv) (kk ls hl)⟩
    · cases hs
  | lload k =>
    obtain ⟨hd, rfl⟩ := hd0 rfl
    simp only [ax_s, ax_load] at hs
    split at hs
    · rename_i v hv
      cases v <;> simp [ax_isL] at hs
      subst hs
      exact ⟨rfl, fun ls hl kk => lv_lload hx hb hd (ax_lm_get hl hv) (kk ls hl)⟩
    · cases hs
  | lload_n k =>
    obtain ⟨hd, rfl⟩ := hd0 rfl
    simp only [ax_s, ax_load] at hs
    split at hs
    · rename_i v hv
      cases v <;> simp [ax_isL] at hs
      subst hs
      exact ⟨rfl, fun ls hl kk => lv_lload_n hx hb hd rfl (ax_lm_get hl hv) (kk ls hl)⟩
    · cases hs
  | aload k =>
    obtain ⟨hd, rfl⟩ := hd0 rfl
    simp only [ax_s, ax_load] at hs
    split at hs
    · rename_i v hv
      cases v <;> simp [ax_isA] at hs
      · subst hs
        exact ⟨rfl, fun ls hl kk => lv_aloadN hx hb hd (ax_lm_get hl hv) (kk ls hl)⟩
      · subst hs
        exact ⟨rfl, fun ls hl kk => lv_aload hx hb hd (ax_lm_get hl hv) (kk ls hl)⟩
    · cases hs
  | aload_n k =>
    obtain ⟨hd, rfl⟩ := hd0 rfl
    simp only [ax_s, ax_load] at hs
    split at hs
    · rename_i v hv
      cases v <;> simp [ax_isA] at hs
      · subst hs
        exact ⟨rfl, fun ls hl kk => lv_aload_nN hx hb hd rfl (ax_lm_get hl hv) (kk ls hl)⟩
      · subst hs
        exact ⟨rfl, fun ls hl kk => lv_aload_n hx hb hd rfl (ax_lm_get hl hv) (kk ls hl)⟩
    · cases hs
  | istore k =>
    obtain ⟨hd, rfl⟩ := hd0 rfl
    simp only [ax_s, ax_store1] at hs
    split at hs
    · rename_i v st1
      cases v <;> simp [ax_isI] at hs
      subst hs
      exact ⟨rfl, fun ls hl kk => lv_istore hx hb hd hl ht rfl (fun ls' h' => kk ls' (by rw [ax_lm_sto1]; exact h'))⟩
    · cases hs
  | istore_n k =>
    obtain ⟨hd, rfl⟩ := hd0 rfl
    simp only [ax_s, ax_store1] at hs
    split at hs
    · rename_i v st1
      cases v <;> simp [ax_isI] at hs
      subst hs
      exact ⟨rfl, fun ls hl kk => lv_istore_n hx hb hd rfl hl ht rfl (fun ls' h' => kk ls' (by rw [ax_lm_sto1]; exact h'))⟩
    · cases hs
  | astore k =>
    obtain ⟨hd, rfl⟩ := hd0 rfl
    simp only [ax_s, ax_store1] at hs
    split at hs
    · rename_i v st1
      cases v <;> simp [ax_isA] at hs
      · subst hs
        exact ⟨rfl, fun ls hl kk => lv_astoreN hx hb hd hl ht rfl (fun ls' h' => kk ls' (by rw [ax_lm_sto1]; exact h'))⟩
      · subst hs
        exact ⟨rfl, fun ls hl kk => lv_astore hx hb hd hl ht rfl (fun ls' h' => kk ls' (by rw [ax_lm_sto1]; exact h'))⟩
    · cases hs
  | astore_n k =>
    obtain ⟨hd, rfl⟩ := hd0 rfl
    simp only [ax_s, ax_store1] at hs
    split at hs
    · rename_i v st1
      cases v <;> simp [ax_isA] at hs
      · subst hs
        exact ⟨rfl, fun ls hl kk => lv_astore_nN hx hb hd rfl hl ht rfl (fun ls' h' => kk ls' (by rw [ax_lm_sto1]; exact h'))⟩
      · subst hs
        exact ⟨rfl, fun ls hl kk => lv_astore_n hx hb hd rfl hl ht rfl (fun ls' h' => kk ls' (by rw [ax_lm_sto1]; exact h'))⟩
    · cases hs
  | lstore k =>
    obtain ⟨hd, rfl⟩ := hd0 rfl
    simp only [ax_s, ax_store2] at hs
    split at hs
    · cases hs
      exact ⟨rfl, fun ls hl kk => lv_lstore hx hb hd hl ht rfl (fun ls' h' => kk ls' (by rw [ax_lm_sto2]; exact h'))⟩
    · cases hs
  | lstore_n k =>
    obtain ⟨hd, rfl⟩ := hd0 rfl
    simp only [ax_s, ax_store2] at hs
    split at hs
    · cases hs
      exact ⟨rfl, fun ls hl kk => lv_lstore_n hx hb hd rfl hl ht rfl (fun ls' h' => kk ls' (by rw [ax_lm_sto2]; exact h'))⟩
    · cases hs
  | iinc k n =>
    obtain ⟨hd, rfl⟩ := hd0 rfl
    simp only [ax_s, ax_iinc] at hs
    split at hs
    · rename_i x hv
      cases hs
      refine ⟨rfl, fun ls hl kk => ?_⟩
      obtain ⟨j, hj⟩ := List.getElem?_of_mem (ax_lm_in (b := b) (base := base) hv)
      exact lv_iinc hx hb hd hl hj rfl ht rfl (fun ls' h' => kk ls' (by rw [ax_lm_sto1]; exact h'))
    · cases hs
  | iadd =>
    obtain ⟨hd, rfl⟩ := hd0 rfl
    simp only [ax_s, ax_ii] at hs
    split at hs
    · cases hs
      exact ⟨rfl, fun ls hl kk => lv_iadd hx hb hd (kk ls hl)⟩
    · cases hs
  | isub =>
    obtain ⟨hd, rfl⟩ := hd0 rfl
    simp only [ax_s, ax_ii] at hs
    split at hs
    · cases hs
      exact ⟨rfl, fun ls hl kk => lv_isub hx hb hd (kk ls hl)⟩
    · cases hs
  | imul =>
    obtain ⟨hd, rfl⟩ := hd0 rfl
    simp only [ax_s, ax_ii] at hs
    split at hs
    · cases hs
      exact ⟨rfl, fun ls hl kk => lv_imul hx hb hd (kk ls hl)⟩
    · cases hs
  | iand =>
    obtain ⟨hd, rfl⟩ := hd0 rfl
    simp only [ax_s, ax_ii] at hs
    split at hs
    · cases hs
      exact ⟨rfl, fun ls hl kk => lv_iand hx hb hd (kk ls hl)⟩
    · cases hs
  | ladd =>
    obtain ⟨hd, rfl⟩ := hd0 rfl
    simp only [ax_s, ax_ll] at hs
    split at hs
    · cases hs
      exact ⟨rfl, fun ls hl kk => lv_ladd hx hb hd (kk ls hl)⟩
    · cases hs
  | lsub =>
    obtain ⟨hd, rfl⟩ := hd0 rfl
    simp only [ax_s, ax_ll] at hs
    split at hs
    · cases hs
      exact ⟨rfl, fun ls hl kk => lv_lsub hx hb hd (kk ls hl)⟩
    · cases hs
  | lmul =>
    obtain ⟨hd, rfl⟩ := hd0 rfl
    simp only [ax_s, ax_ll] at hs
    split at hs
    · cases hs
      exact ⟨rfl, fun ls hl kk => lv_lmul hx hb hd (kk ls hl)⟩
    · cases hs
  | land =>
    obtain ⟨hd, rfl⟩ := hd0 rfl
    simp only [ax_s, ax_ll] at hs
    split at hs
    · cases hs
      exact ⟨rfl, fun ls hl kk => lv_land hx hb hd (kk ls hl)⟩
    · cases hs
  | lor =>
    obtain ⟨hd, rfl⟩ := hd0 rfl
    simp only [ax_s, ax_ll] at hs
    split at hs
    · cases hs
      exact ⟨rfl, fun ls hl kk => lv_lor hx hb hd (kk ls hl)⟩
    · cases hs
  | lcmp =>
    obtain ⟨hd, rfl⟩ := hd0 rfl
    simp only [ax_s, ax_ll] at hs
    split at hs
    · cases hs
      exact ⟨rfl, fun ls hl kk => W.lcmp hx hb hd (kk ls hl)⟩
    · cases hs
  | lshl =>
    obtain ⟨hd, rfl⟩ := hd0 rfl
    simp only [ax_s, ax_lshl] at hs
    split at hs
    · cases hs
      exact ⟨rfl, fun ls hl kk => lv_lshl hx hb hd rfl (kk ls hl)⟩
    · cases hs
  | i2l =>
    obtain ⟨hd, rfl⟩ := hd0 rfl
    simp only [ax_s, ax_i1] at hs
    split at hs
    · cases hs
      exact ⟨rfl, fun ls hl kk => lv_i2l hx hb hd rfl (kk ls hl)⟩
    · cases hs
  | i2c =>
    obtain ⟨hd, rfl⟩ := hd0 rfl
    simp only [ax_s, ax_i1] at hs
    split at hs
    · cases hs
      exact ⟨rfl, fun ls hl kk => lv_i2c hx hb hd rfl (kk ls hl)⟩
    · cases hs
  | ineg =>
    obtain ⟨hd, rfl⟩ := hd0 rfl
    simp only [ax_s, ax_i1] at hs
    split at hs
    · cases hs
      exact ⟨rfl, fun ls hl kk => lv_ineg hx hb hd (kk ls hl)⟩
    · cases hs
  | lneg =>
    obtain ⟨hd, rfl⟩ := hd0 rfl
    simp only [ax_s, ax_l1] at hs
    split at hs
    · cases hs
      exact ⟨rfl, fun ls hl kk => lv_lneg hx hb hd (kk ls hl)⟩
    · cases hs
  | l2i =>
    obtain ⟨hd, rfl⟩ := hd0 rfl
    simp only [ax_s, ax_l1] at hs
    split at hs
    · cases hs
      exact ⟨rfl, fun ls hl kk => lv_l2i hx hb hd rfl (kk ls hl)⟩
    · cases hs
  | dup =>
    obtain ⟨hd, rfl⟩ := hd0 rfl
    simp only [ax_s, ax_dup] at hs
    split at hs
    · rename_i v st1
      split at hs
      · rename_i hv
        cases hs
        exact ⟨rfl, fun ls hl kk => lv_dup hx hb hd (by rw [ax_v_cat]; exact hv) (kk ls hl)⟩
      · cases hs
    · cases hs
  | goto o =>
    obtain ⟨hd, rfl⟩ := hd0 rfl
    cases hs
    exact ⟨rfl, fun ls hl kk => lv_goto hx hb hd (ho o rfl) (kk ls hl)⟩
  | _ => cases hs
end AxSimple
