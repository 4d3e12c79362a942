def ax_sto1 (i : Nat) (v : Value) (lv : ax_L) : ax_L := (i, v) :: lv.filter (fun q => !(q.1 == i) && !(q.1 + 1 == i && q.2.category == 2))
def ax_sto2 (i : Nat) (v : Value) (lv : ax_L) : ax_L := (i, v) :: lv.filter (fun q => !(q.1 == i) && (!(q.1 == i + 1) && !(q.1 + 1 == i && q.2.category == 2)))
def ax_isI : Value → Bool
  | .int _ => true
  | _ => false
def ax_isL : Value → Bool
  | .long _ => true
  | _ => false
def ax_isA : Value → Bool
  | .ref _ => true
  | .null => true
  | _ => false
abbrev ax_S : Type := Nat × ax_L × List Value × ax_H
def ax_load (ok : Value → Bool) (k nx : Nat) (lv : ax_L) (st : List Value) (h : ax_H) : Option ax_S := match lv.lookup k with
  | some v => if ok v = true then some (nx, lv, v :: st, h) else none
  | none => none
def ax_store1 (ok : Value → Bool) (k nx : Nat) (lv : ax_L) (st : List Value) (h : ax_H) : Option ax_S := match st with
  | v :: st => if ok v = true then some (nx, ax_sto1 k v lv, st, h) else none
  | _ => none
def ax_store2 (k nx : Nat) (lv : ax_L) (st : List Value) (h : ax_H) : Option ax_S := match st with
  | .long x :: st => some (nx, ax_sto2 k (.long x) lv, st, h)
  | _ => none
def ax_iinc (k : Nat) (n : Int) (nx : Nat) (lv : ax_L) (st : List Value) (h : ax_H) : Option ax_S := match lv.lookup k with
  | some (.int x) => some (nx, ax_sto1 k (.int (x + Int32.ofInt n)) lv, st, h)
  | _ => none
def ax_ii (f : Int32 → Int32 → Int32) (nx : Nat) (lv : ax_L) (st : List Value) (h : ax_H) : Option ax_S := match st with
  | .int y :: .int x :: st => some (nx, lv, .int (f x y) :: st, h)
  | _ => none
def ax_ll (f : Int64 → Int64 → Value) (nx : Nat) (lv : ax_L) (st : List Value) (h : ax_H) : Option ax_S := match st with
  | .long y :: .long x :: st => some (nx, lv, f x y :: st, h)
  | _ => none
def ax_lshl (nx : Nat) (lv : ax_L) (st : List Value) (h : ax_H) : Option ax_S := match st with
  | .int y :: .long x :: st => some (nx, lv, .long (x <<< (y.toInt64 &&& 63)) :: st, h)
  | _ => none
def ax_i1 (f : Int32 → Value) (nx : Nat) (lv : ax_L) (st : List Value) (h : ax_H) : Option ax_S := match st with
  | .int x :: st => some (nx, lv, f x :: st, h)
  | _ => none
def ax_l1 (f : Int64 → Value) (nx : Nat) (lv : ax_L) (st : List Value) (h : ax_H) : Option ax_S := match st with
  | .long x :: st => some (nx, lv, f x :: st, h)
  | _ => none
def ax_dup (nx : Nat) (lv : ax_L) (st : List Value) (h : ax_H) : Option ax_S := match st with
  | v :: st => if v.category = 1 then some (nx, lv, v :: v :: st, h) else none
  | _ => none
/-- an instruction that asks nothing of the cells, and goes one way -/
def ax_s (i : Instr) (nx tg : Nat) (lv : ax_L) (st : List Value) (h : ax_H) : Option ax_S := match i with
  | .aconst_null => some (nx, lv, .null :: st, h)
  | .iconst n => some (nx, lv, .int (Int32.ofInt n) :: st, h)
  | .bipush n => some (nx, lv, .int (Int8.ofInt n).toInt32 :: st, h)
  | .sipush n => some (nx, lv, .int (Int16.ofInt n).toInt32 :: st, h)
  | .lconst n => some (nx, lv, .long (Int64.ofNat (n : Nat)) :: st, h)
  | .iload k => ax_load ax_isI k nx lv st h
  | .iload_n k => ax_load ax_isI k nx lv st h
  | .lload k => ax_load ax_isL k nx lv st h
  | .lload_n k => ax_load ax_isL k nx lv st h
  | .aload k => ax_load ax_isA k nx lv st h
  | .aload_n k => ax_load ax_isA k nx lv st h
  | .istore k => ax_store1 ax_isI k nx lv st h
  | .istore_n k => ax_store1 ax_isI k nx lv st h
  | .astore k => ax_store1 ax_isA k nx lv st h
  | .astore_n k => ax_store1 ax_isA k nx lv st h
  | .lstore k => ax_store2 k nx lv st h
  | .lstore_n k => ax_store2 k nx lv st h
  | .iinc k n => ax_iinc k n nx lv st h
  | .iadd => ax_ii (fun x y => x + y) nx lv st h
  | .isub => ax_ii (fun x y => x - y) nx lv st h
  | .imul => ax_ii (fun x y => x * y) nx lv st h
  | .iand => ax_ii (fun x y => x &&& y) nx lv st h
  | .ladd => ax_ll (fun x y => .long (x + y)) nx lv st h
  | .lsub => ax_ll (fun x y => .long (x - y)) nx lv st h
  | .lmul => ax_ll (fun x y => .long (x * y)) nx lv st h
  | .land => ax_ll (fun x y => .long (x &&& y)) nx lv st h
  | .lor => ax_ll (fun x y => .long (x ||| y)) nx lv st h
  | .lcmp => ax_ll (fun x y => .int (lg_cmp x y)) nx lv st h
  | .lshl => ax_lshl nx lv st h
  | .i2l => ax_i1 (fun x => .long x.toInt64) nx lv st h
  | .i2c => ax_i1 (fun x => .int (x.toUInt32 % 65536).toInt32) nx lv st h
  | .ineg => ax_i1 (fun x => .int (-x)) nx lv st h
  | .lneg => ax_l1 (fun x => .long (-x)) nx lv st h
  | .l2i => ax_l1 (fun x => .int x.toInt32) nx lv st h
  | .dup => ax_dup nx lv st h
  | .goto _ => some (tg, lv, st, h)
  | _ => none
def ax_cnd (c : ClassFile.Cond) (x y : Int32) : Prop := match c with
  | .eq => x = y
  | .ne => ¬ x = y
  | .lt => x < y
  | .ge => y ≤ x
  | .gt => y < x
  | .le => x ≤ y
def ax_to (pc : Nat) (off : Int) : Nat := ((pc : Int) + off).toNat
def ax_key (M : ax_M) (ix : Nat) : Nat × Nat := (M.1, ix)
/-- where a switch goes -/
def ax_tsw (pc : Nat) (d lo hi : Int) (offs : Array Int) (x : Int32) : Option Nat :=
  if x.toInt < lo ∨ hi < x.toInt then some (ax_to pc d) else (offs[(x.toInt - lo).toNat]?).map (ax_to pc)
/-- which handler (from, to, handler, place of the class caught in the pool) of a method of class own takes a throw of E at pc -/
def ax_hand (own : Nat) : List (Nat × Nat × Nat × Nat) → Nat → Nat → Option Nat
  | [], _, _ => none
  | (a, b, t, k) :: l, pc, E => if a ≤ pc ∧ pc < b ∧ ax_tC.lookup (own, k) = some E then some t else ax_hand own l pc E
def ax_wsum (st : List Value) : Nat := (st.map fun v => v.category).sum
/-- a new array's contents, by its kind: 0 int, 1 long, 2 char, 3 and 4 references -/
def ax_blank (k : Nat) : (Nat → Int32) ⊕ (Nat → Int64) ⊕ (Nat → UInt32) ⊕ (Nat → UInt64) ⊕ (Nat → Option Nat) :=
  if k = 1 then .inr (.inl (fun _ => 0)) else if 3 ≤ k then .inr (.inr (.inr (.inr (fun _ => none)))) else .inl (fun _ => 0)
/-- the rest of a call, where the callee's run is known -/
def ax_call (C : Nat → List Value → ax_H → ax_R → Prop) (M : ax_M) (ix pc nx : Nat) (lv : ax_L) (st : List Value) (h : ax_H) (r : ax_R) (K : Nat → ax_L → List Value → ax_H → Prop) : Prop :=
  ∃ mi n, ax_tM.lookup (ax_key M ix) = some (mi, n) ∧ n ≤ st.length ∧ ax_wsum (st.drop n) ≤ 8 ∧
    ((∃ v h1, C mi (st.take n).reverse h (.inl v, h1) ∧ K nx lv (v.toList ++ st.drop n) h1) ∨
     (∃ E h1, C mi (st.take n).reverse h (.inr E, h1) ∧ E < 2 ∧
       ((∃ t, ax_hand M.1 M.2.2.2.1 pc E = some t ∧ K t lv [.ref (h1.1.length - 1)] h1) ∨ (ax_hand M.1 M.2.2.2.1 pc E = none ∧ r = (.inr E, h1)))))
/-- the object that is called is one of the method's class -/
def ax_recv (M : ax_M) (ix : Nat) (st : List Value) (h : ax_H) : Prop := ∃ mi n a as fs, ax_tM.lookup (ax_key M ix) = some (mi, n) ∧ (st.take n).reverse = .ref a :: as ∧ h.1[a]? = some (some (.inr (ax_rc mi, fs)))
/-- something is made there -/
def ax_mk (M : ax_M) (ix : Nat) (st : List Value) : Prop := ∃ mi n a as, ax_tM.lookup (ax_key M ix) = some (mi, n) ∧ (st.take n).reverse = .ref a :: as
/-- an instruction that looks into the cells, goes two ways, calls or ends -/
def ax_b (C : Nat → List Value → ax_H → ax_R → Prop) (M : ax_M) (i : Instr) (pc nx tg : Nat) (lv : ax_L) (st : List Value) (h : ax_H) (r : ax_R) (K : Nat → ax_L → List Value → ax_H → Prop) : Prop := match i with
  | .ldc ix => ∃ v, ax_tI.lookup (ax_key M ix) = some v ∧ K nx lv (.int v :: st) h
  | .ldc2_w ix => ∃ v, ax_tL.lookup (ax_key M ix) = some v ∧ K nx lv (.long v :: st) h
  | .idiv => ∃ x y st', st = .int y :: .int x :: st' ∧ ¬ y = 0 ∧ K nx lv (.int (x / y) :: st') h
  | .ldiv => ∃ x y st', st = .long y :: .long x :: st' ∧ ¬ y = 0 ∧ K nx lv (.long (x / y) :: st') h
  | .lrem => ∃ x y st', st = .long y :: .long x :: st' ∧ ¬ y = 0 ∧ K nx lv (.long (x - x / y * y) :: st') h
  | .if_icmp c _ => ∃ x y st', st = .int y :: .int x :: st' ∧ (ax_cnd c x y → K tg lv st' h) ∧ (¬ ax_cnd c x y → K nx lv st' h)
  | .ifCond c _ => ∃ x st', st = .int x :: st' ∧ (ax_cnd c x 0 → K tg lv st' h) ∧ (¬ ax_cnd c x 0 → K nx lv st' h)
  | .ifnull _ => ∃ v st', st = v :: st' ∧ ((v = .null ∧ K tg lv st' h) ∨ ((∃ a, v = .ref a) ∧ K nx lv st' h))
  | .ifnonnull _ => ∃ v st', st = v :: st' ∧ ((v = .null ∧ K nx lv st' h) ∨ ((∃ a, v = .ref a) ∧ K tg lv st' h))
  | .tableswitch d lo hi offs => ∃ x st' t, st = .int x :: st' ∧ ax_tsw pc d lo hi offs x = some t ∧ K t lv st' h
  | .lookupswitch d ps => ∃ x st', st = .int x :: st' ∧ K (ax_to pc (Op.lookupswitch.offset ps.toList d x.toInt)) lv st' h
  | .getfield ix => ∃ a st' ci k fs v, st = .ref a :: st' ∧ ax_tF.lookup (ax_key M ix) = some (ci, k) ∧ h.1[a]? = some (some (.inr (ci, fs))) ∧ fs[k]? = some v ∧ K nx lv (v :: st') h
  | .putfield ix => ∃ a v st' ci k fs, st = v :: .ref a :: st' ∧ ax_tF.lookup (ax_key M ix) = some (ci, k) ∧ h.1[a]? = some (some (.inr (ci, fs))) ∧ k < fs.length ∧ (ax_fin ci k = false ∨ (M.2.2.2.2 = true ∧ M.1 = ci)) ∧ narrow (ax_ty ci k) v = v ∧ fits (ax_ty ci k) v = true ∧
      K nx lv st' (h.1.set a (some (.inr (ci, fs.set k v))), h.2)
  | .iaload => ∃ a i st' k n f, st = .int i :: .ref a :: st' ∧ h.1[a]? = some (some (.inl (k, n, .inl f))) ∧ (k = 0 ∨ k = 9) ∧ vp_in i n ∧ K nx lv (.int (f i.toNatClampNeg) :: st') h
  | .caload => ∃ a i st' n f, st = .int i :: .ref a :: st' ∧ h.1[a]? = some (some (.inl (2, n, .inl f))) ∧ vp_in i n ∧ K nx lv (.int (f i.toNatClampNeg) :: st') h
  | .laload => ∃ a i st' n f, st = .int i :: .ref a :: st' ∧ h.1[a]? = some (some (.inl (1, n, .inr (.inl f)))) ∧ vp_in i n ∧ K nx lv (.long (f i.toNatClampNeg) :: st') h
  | .aaload => ∃ a i st' k n f, st = .int i :: .ref a :: st' ∧ h.1[a]? = some (some (.inl (k, n, .inr (.inr (.inr (.inr f)))))) ∧ (k = 3 ∨ k = 4) ∧ vp_in i n ∧ K nx lv (va_rf (f i.toNatClampNeg) :: st') h
  | .iastore => ∃ a i x st' n f, st = .int x :: .int i :: .ref a :: st' ∧ h.1[a]? = some (some (.inl (0, n, .inl f))) ∧ vp_in i n ∧ K nx lv st' (h.1.set a (some (.inl (0, n, .inl (upd f i.toNatClampNeg x)))), h.2)
  | .castore => ∃ a i x st' n f, st = .int x :: .int i :: .ref a :: st' ∧ h.1[a]? = some (some (.inl (2, n, .inl f))) ∧ vp_in i n ∧ K nx lv st' (h.1.set a (some (.inl (2, n, .inl (upd f i.toNatClampNeg (vp_nar .char x))))), h.2)
  | .lastore => ∃ a i x st' n f, st = .long x :: .int i :: .ref a :: st' ∧ h.1[a]? = some (some (.inl (1, n, .inr (.inl f)))) ∧ vp_in i n ∧ K nx lv st' (h.1.set a (some (.inl (1, n, .inr (.inl (vp_updL f i.toNatClampNeg x))))), h.2)
  | .aastore => ∃ a i o st' k n f, st = va_rf o :: .int i :: .ref a :: st' ∧ h.1[a]? = some (some (.inl (k, n, .inr (.inr (.inr (.inr f)))))) ∧ (k = 3 ∨ k = 4) ∧ vp_in i n ∧ (∀ v, o = some v → ∃ fs, h.1[v]? = some (some (.inr (ax_cmp k, fs)))) ∧
      K nx lv st' (h.1.set a (some (.inl (k, n, .inr (.inr (.inr (.inr (va_up f i.toNatClampNeg o))))))), h.2)
  | .arraylength => ∃ a st' k n z, st = .ref a :: st' ∧ h.1[a]? = some (some (.inl (k, n, z))) ∧ (k < 5 ∨ (k = 9 ∧ a = 0)) ∧ K nx lv (.int (nI n) :: st') h
  | .newarray t => ∃ n st' k, st = .int n :: st' ∧ ax_ak t = some k ∧ ¬ n < 0 ∧ n.toNatClampNeg ≤ 1000000 ∧ K nx lv (.ref h.1.length :: st') (h.1 ++ [some (.inl (k, n.toNatClampNeg, ax_blank k))], h.2 + n.toNatClampNeg)
  | .anewarray ix => ∃ n st' k, st = .int n :: st' ∧ ax_tR.lookup (ax_key M ix) = some k ∧ ¬ n < 0 ∧ n.toNatClampNeg ≤ 1000000 ∧ K nx lv (.ref h.1.length :: st') (h.1 ++ [some (.inl (k, n.toNatClampNeg, ax_blank k))], h.2 + n.toNatClampNeg)
  | .new ix => (∃ ci, ax_tN.lookup (ax_key M ix) = some ci ∧ K nx lv (.ref h.1.length :: st) (h.1 ++ [some (.inr (ci, ax_dfl ci))], h.2 + (ax_dfl ci).length)) ∨
      (∃ E ik is, ax_tX.lookup (ax_key M ix) = some (E, ik) ∧ st = [] ∧ M.2.2.2.1 = [] ∧ M.2.2.1.lookup nx = some (.dup, nx + 1, 0) ∧ M.2.2.1.lookup (nx + 1) = some (.ldc is, nx + 3, 0) ∧ ax_key M is ∈ ax_tS ∧ M.2.2.1.lookup (nx + 3) = some (.invokespecial ik, nx + 6, 0) ∧ M.2.2.1.lookup (nx + 6) = some (.athrow, nx + 7, 0) ∧ r = (.inr E, (h.1 ++ [none], h.2 + 6)))
  | .invokestatic ix => ax_call C M ix pc nx lv st h r K
  | .invokevirtual ix => ax_recv M ix st h ∧ ax_call C M ix pc nx lv st h r K
  | .invokespecial ix => (ax_key M ix ∈ ax_tO ∧ (∃ a st', st = .ref a :: st' ∧ ax_wsum st' ≤ 8 ∧ K nx lv st' h)) ∨ (ax_mk M ix st ∧ ax_call C M ix pc nx lv st h r K)
  | .ireturn => ∃ x rt, st = [.int x] ∧ M.2.1 = some rt ∧ narrow rt (.int x) = .int x ∧ r = (.inl (some (.int x)), h)
  | .lreturn => ∃ x, st = [.long x] ∧ M.2.1 = some .long ∧ r = (.inl (some (.long x)), h)
  | .areturn => ∃ v n, st = [v] ∧ M.2.1 = some (.object n) ∧ ax_isA v = true ∧ r = (.inl (some v), h)
  | .return_ => st = [] ∧ M.2.1 = none ∧ r = (.inl none, h)
  | _ => False
/-- one instruction: what K must say of the next places for the method to go on and end as r says -/
def ax_step (C : Nat → List Value → ax_H → ax_R → Prop) (M : ax_M) (pc : Nat) (lv : ax_L) (st : List Value) (h : ax_H) (r : ax_R) (K : Nat → ax_L → List Value → ax_H → Prop) : Prop :=
  ∃ i nx tg, M.2.2.1.lookup pc = some (i, nx, tg) ∧ ((∃ s : ax_S, ax_s i nx tg lv st h = some s ∧ K s.1 s.2.1 s.2.2.1 s.2.2.2) ∨ ax_b C M i pc nx tg lv st h r K)
/-- from here the method ends as r says: the least such relation -/
def ax_go (C : Nat → List Value → ax_H → ax_R → Prop) (M : ax_M) (r : ax_R) (pc : Nat) (lv : ax_L) (st : List Value) (h : ax_H) : Prop :=
  ∀ P : Nat → ax_L → List Value → ax_H → Prop, (∀ pc lv st h, ax_step C M pc lv st h r P → P pc lv st h) → P pc lv st h
/-- method number mi, called with these values over these cells, ends as r says -/
def ax_run (mi : Nat) (as : List Value) (h : ax_H) (r : ax_R) : Prop :=
  ∀ P : Nat → List Value → ax_H → ax_R → Prop, (∀ mi as h r, (∃ M, ax_pr[mi]? = some M ∧ ax_wsum as ≤ ax_nl mi ∧ ax_go P M r 0 (lv_args 0 as) [] h) → P mi as h r) → P mi as h r
