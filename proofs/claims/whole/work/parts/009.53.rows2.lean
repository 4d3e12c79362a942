/-! arrays by places that are numbers; calls of methods whose end is known -/
section AxW2
variable {C : Nat → List Value → ax_H → ax_R → Prop} {M : ax_M} {Q : ax_R → Prop} {pc nx tg : Nat} {lv lv' : ax_L} {st st' : List Value} {h h' : ax_H}
theorem w_in {i : Int32} {j n : Nat} (hj : i = nI j) (hl : j < n) (hn : n ≤ 1000000) : vp_in i n ∧ i.toNatClampNeg = j := by
  subst hj
  exact ⟨vp_in_nI hl (by omega), nI_clamp (by omega)⟩
theorem w_ia {a n j : Nat} {i : Int32} {f : Nat → Int32} (hd : M.2.2.1.lookup pc = some (.iaload, nx, tg)) (hc : h.1[a]? = some (some (.inl (0, n, .inl f)))) (hj : i = nI j) (hl : j < n) (hn : n ≤ 1000000) (k : ax_wp C M Q nx lv (.int (f j) :: st) h) : ax_wp C M Q pc lv (.int i :: .ref a :: st) h := by
  obtain ⟨h1, h2⟩ := w_in hj hl hn
  exact w_iald hd hc h1 (by rw [h2]; exact k)
theorem w_sa {a n j : Nat} {i : Int32} {f : Nat → Int32} (hd : M.2.2.1.lookup pc = some (.iaload, nx, tg)) (hc : h.1[a]? = some (some (.inl (9, n, .inl f)))) (hj : i = nI j) (hl : j < n) (hn : n ≤ 1000000) (k : ax_wp C M Q nx lv (.int (f j) :: st) h) : ax_wp C M Q pc lv (.int i :: .ref a :: st) h := by
  obtain ⟨h1, h2⟩ := w_in hj hl hn
  exact w_sald hd hc h1 (by rw [h2]; exact k)
theorem w_ca {a n j : Nat} {i : Int32} {f : Nat → Int32} (hd : M.2.2.1.lookup pc = some (.caload, nx, tg)) (hc : h.1[a]? = some (some (.inl (2, n, .inl f)))) (hj : i = nI j) (hl : j < n) (hn : n ≤ 1000000) (k : ax_wp C M Q nx lv (.int (f j) :: st) h) : ax_wp C M Q pc lv (.int i :: .ref a :: st) h := by
  obtain ⟨h1, h2⟩ := w_in hj hl hn
  exact w_cald hd hc h1 (by rw [h2]; exact k)
theorem w_la {a n j : Nat} {i : Int32} {f : Nat → Int64} (hd : M.2.2.1.lookup pc = some (.laload, nx, tg)) (hc : h.1[a]? = some (some (.inl (1, n, .inr (.inl f))))) (hj : i = nI j) (hl : j < n) (hn : n ≤ 1000000) (k : ax_wp C M Q nx lv (.long (f j) :: st) h) : ax_wp C M Q pc lv (.int i :: .ref a :: st) h := by
  obtain ⟨h1, h2⟩ := w_in hj hl hn
  exact w_lald hd hc h1 (by rw [h2]; exact k)
theorem w_aa {a n q j : Nat} {i : Int32} {f : Nat → Option Nat} (hd : M.2.2.1.lookup pc = some (.aaload, nx, tg)) (hc : h.1[a]? = some (some (.inl (q, n, .inr (.inr (.inr (.inr f))))))) (hq : q = 3 ∨ q = 4) (hj : i = nI j) (hl : j < n) (hn : n ≤ 1000000) (k : ax_wp C M Q nx lv (va_rf (f j) :: st) h) : ax_wp C M Q pc lv (.int i :: .ref a :: st) h := by
  obtain ⟨h1, h2⟩ := w_in hj hl hn
  exact w_aald hd hc hq h1 (by rw [h2]; exact k)
theorem w_ias {H : List (Option ax_C)} {u : Nat} {a n j : Nat} {i x : Int32} {f : Nat → Int32} (hd : M.2.2.1.lookup pc = some (.iastore, nx, tg)) (hc : H[a]? = some (some (.inl (0, n, .inl f)))) (hj : i = nI j) (hl : j < n) (hn : n ≤ 1000000) (k : ax_wp C M Q nx lv st (H.set a (some (.inl (0, n, .inl (upd f j x)))), u)) : ax_wp C M Q pc lv (.int x :: .int i :: .ref a :: st) (H, u) := by
  obtain ⟨h1, h2⟩ := w_in hj hl hn
  exact w_iast hd hc h1 (by rw [h2]; exact k)
theorem w_cas {H : List (Option ax_C)} {u : Nat} {a n j : Nat} {i x y : Int32} {f : Nat → Int32} (hd : M.2.2.1.lookup pc = some (.castore, nx, tg)) (hc : H[a]? = some (some (.inl (2, n, .inl f)))) (hj : i = nI j) (hl : j < n) (hn : n ≤ 1000000) (hy : vp_nar .char x = y) (k : ax_wp C M Q nx lv st (H.set a (some (.inl (2, n, .inl (upd f j y)))), u)) : ax_wp C M Q pc lv (.int x :: .int i :: .ref a :: st) (H, u) := by
  obtain ⟨h1, h2⟩ := w_in hj hl hn
  exact w_cast hd hc h1 (by rw [h2, hy]; exact k)
theorem w_las {H : List (Option ax_C)} {u : Nat} {a n j : Nat} {i : Int32} {x : Int64} {f : Nat → Int64} (hd : M.2.2.1.lookup pc = some (.lastore, nx, tg)) (hc : H[a]? = some (some (.inl (1, n, .inr (.inl f))))) (hj : i = nI j) (hl : j < n) (hn : n ≤ 1000000) (k : ax_wp C M Q nx lv st (H.set a (some (.inl (1, n, .inr (.inl (vp_updL f j x))))), u)) : ax_wp C M Q pc lv (.long x :: .int i :: .ref a :: st) (H, u) := by
  obtain ⟨h1, h2⟩ := w_in hj hl hn
  exact w_last hd hc h1 (by rw [h2]; exact k)
theorem w_aas {H : List (Option ax_C)} {u : Nat} {a n q v j : Nat} {i : Int32} {f : Nat → Option Nat} {fs : List Value} (hd : M.2.2.1.lookup pc = some (.aastore, nx, tg)) (hc : H[a]? = some (some (.inl (q, n, .inr (.inr (.inr (.inr f))))))) (hq : q = 3 ∨ q = 4) (hj : i = nI j) (hl : j < n) (hn : n ≤ 1000000) (hv : H[v]? = some (some (.inr (ax_cmp q, fs))))
    (k : ax_wp C M Q nx lv st (H.set a (some (.inl (q, n, .inr (.inr (.inr (.inr (va_up f j (some v)))))))), u)) : ax_wp C M Q pc lv (.ref v :: .int i :: .ref a :: st) (H, u) := by
  obtain ⟨h1, h2⟩ := w_in hj hl hn
  exact w_aast hd hc hq h1 hv (by rw [h2]; exact k)
theorem w_aasN {H : List (Option ax_C)} {u : Nat} {a n q j : Nat} {i : Int32} {f : Nat → Option Nat} (hd : M.2.2.1.lookup pc = some (.aastore, nx, tg)) (hc : H[a]? = some (some (.inl (q, n, .inr (.inr (.inr (.inr f))))))) (hq : q = 3 ∨ q = 4) (hj : i = nI j) (hl : j < n) (hn : n ≤ 1000000)
    (k : ax_wp C M Q nx lv st (H.set a (some (.inl (q, n, .inr (.inr (.inr (.inr (va_up f j none))))))), u)) : ax_wp C M Q pc lv (.null :: .int i :: .ref a :: st) (H, u) := by
  obtain ⟨h1, h2⟩ := w_in hj hl hn
  exact w_aastN hd hc hq h1 (by rw [h2]; exact k)
/-- the value on the stack is another's name -/
theorem w_eqI {x y : Int32} (e : x = y) (k : ax_wp C M Q pc lv (.int y :: st) h) : ax_wp C M Q pc lv (.int x :: st) h := e ▸ k
theorem w_eqL {x y : Int64} (e : x = y) (k : ax_wp C M Q pc lv (.long y :: st) h) : ax_wp C M Q pc lv (.long x :: st) h := e ▸ k
theorem w_post {Q' : ax_R → Prop} (k : ax_wp C M Q' pc lv st h) (hq : ∀ r, Q' r → Q r) : ax_wp C M Q pc lv st h := by
  obtain ⟨r, h1, h2⟩ := k
  exact ⟨r, h1, hq r h2⟩
end AxW2
theorem ax_run_T {mi : Nat} {as : List Value} {h : ax_H} {r : ax_R} (q : ax_T mi as h (fun r' => r' = r)) : ax_run mi as h r := by
  obtain ⟨r', h1, rfl⟩ := q
  exact h1
theorem q_bv (n : Nat) (h : n < 4294967296) : (nI n).toBitVec.toNat = n := by
  have : (nI n).toBitVec = BitVec.ofNat 32 n := by simp [nI]
  rw [this, BitVec.toNat_ofNat]
  omega
theorem q_nat {x : Int32} (h : 0 ≤ x.toInt) : ∃ n : Nat, x = nI n ∧ (n : Int) = x.toInt ∧ n < 2147483648 := by
  have hb := q_b x
  refine ⟨x.toInt.toNat, ?_, by omega, by omega⟩
  exact q_nIof (by omega) (by omega)
theorem q_char {x : Int32} (h : 0 ≤ x.toInt) (h2 : x.toInt < 128) : vp_nar .char (x.toUInt32 % 65536).toInt32 = x := by
  obtain ⟨n, rfl, h3, h4⟩ := q_nat h
  rw [pk_vc, pk_char, q_bv n (by omega)]
  congr 1
  omega
/-- booleans -/
def bI (b : Prop) [Decidable b] : Int32 := if b then 1 else 0
section
theorem bI_t {P : Prop} [Decidable P] (h : P) : bI P = Int32.ofInt 1 := by unfold bI; rw [if_pos h]; rfl
theorem bI_f {P : Prop} [Decidable P] (h : ¬ P) : bI P = Int32.ofInt 0 := by unfold bI; rw [if_neg h]; rfl
theorem c_eq0 {P : Prop} [Decidable P] : ax_cnd .eq (bI P) 0 ↔ ¬ P := by
  by_cases h : P
  · rw [bI_t h]
    exact ⟨fun z => absurd z (by simp [ax_cnd]), fun z => absurd h z⟩
  · rw [bI_f h]
    exact ⟨fun _ => h, fun _ => rfl⟩
theorem c_ne0 {P : Prop} [Decidable P] : ax_cnd .ne (bI P) 0 ↔ P := by
  by_cases h : P
  · rw [bI_t h]
    exact ⟨fun _ => h, fun _ => by simp [ax_cnd]⟩
  · rw [bI_f h]
    exact ⟨fun z => absurd rfl z, fun z => absurd z h⟩
theorem bI_nar {P : Prop} [Decidable P] : narrow .boolean (.int (bI P)) = .int (bI P) := by
  by_cases h : P
  · rw [bI_t h]; rfl
  · rw [bI_f h]; rfl
theorem bI_nn {P : Prop} [Decidable P] : ¬ ¬ P ↔ P := Decidable.not_not
end
theorem bI_iff {P R : Prop} [Decidable P] [Decidable R] (h : P ↔ R) : bI P = bI R := by
  by_cases hp : P
  · rw [bI_t hp, bI_t (h.mp hp)]
  · rw [bI_f hp, bI_f (fun z => hp (h.mpr z))]
theorem c_Llt {x y : Int64} : ax_cnd .lt (lg_cmp x y) 0 ↔ x.toInt < y.toInt := (lg_cmp_lt x y).trans Int64.lt_iff_toInt_lt
theorem c_Lle {x y : Int64} : ax_cnd .le (lg_cmp x y) 0 ↔ x.toInt ≤ y.toInt := (lg_cmp_le x y).trans Int64.le_iff_toInt_le
theorem c_Lgt {x y : Int64} : ax_cnd .gt (lg_cmp x y) 0 ↔ y.toInt < x.toInt := (lg_cmp_gt x y).trans Int64.lt_iff_toInt_lt
theorem c_Lge {x y : Int64} : ax_cnd .ge (lg_cmp x y) 0 ↔ y.toInt ≤ x.toInt := (lg_cmp_ge x y).trans Int64.le_iff_toInt_le
theorem c_Leq {x y : Int64} : ax_cnd .eq (lg_cmp x y) 0 ↔ x.toInt = y.toInt := (lg_cmp_eq x y).trans q_eqL
theorem c_Lne {x y : Int64} : ax_cnd .ne (lg_cmp x y) 0 ↔ ¬ x.toInt = y.toInt := not_congr ((lg_cmp_eq x y).trans q_eqL)
theorem bT {P : Prop} [Decidable P] {h : ax_H} (hp : P) : ((.inl (some (.int (Int32.ofInt 1))), h) : ax_R) = (.inl (some (.int (bI P))), h) := by rw [bI_t hp]
theorem bF {P : Prop} [Decidable P] {h : ax_H} (hp : ¬ P) : ((.inl (some (.int (Int32.ofInt 0))), h) : ax_R) = (.inl (some (.int (bI P))), h) := by rw [bI_f hp]
theorem q_idx (d a b : Int32) (j k n : Nat) (hj : j < 100000) (hk : k < 100000) (hd : d.toInt = n) (hn : n < 100) (ha : a.toInt = j) (hb : b.toInt = k) : d * a + b = nI (n * j + k) ∧ a * d + b = nI (n * j + k) := by
  have h1 : (n : Int) * (j : Int) < 10000000 ∧ 0 ≤ (n : Int) * (j : Int) := by
    constructor
    · have : n * j ≤ 99 * 100000 := Nat.mul_le_mul (by omega) (by omega)
      have h2 : ((n * j : Nat) : Int) = (n : Int) * j := Int.natCast_mul n j
      omega
    · have h2 : ((n * j : Nat) : Int) = (n : Int) * j := Int.natCast_mul n j
      omega
  have e1 : ((n * j + k : Nat) : Int) = (n : Int) * j + k := by
    rw [Int.natCast_add, Int.natCast_mul]
  constructor
  · rw [q_eq, q_add, q_mul, q_nI, hd, ha, hb, e1]
    generalize (n : Int) * (j : Int) = z at h1
    omega
  · rw [q_eq, q_add, q_mul, q_nI, hd, ha, hb, e1, Int.mul_comm (j : Int) (n : Int)]
    generalize (n : Int) * (j : Int) = z at h1
    omega
theorem q_nI' {n : Nat} (h : n < 2147483648) : (nI n).toInt = n := by rw [q_nI]; omega
/-! places, without Int -/
theorem nI_addR (a b : Nat) : nI a + nI b = nI (a + b) := by
  rw [q_eq, q_add, q_nI, q_nI, q_nI]
  omega
theorem nI_mulR (a b : Nat) : nI a * nI b = nI (a * b) := by
  have : nI (a * b) = nI a * nI b := by simp [nI, Int32.ofNat_mul]
  exact this.symm
theorem kb6 : (Int8.ofInt 6).toInt32 = nI 6 := by decide
theorem kb7 : (Int8.ofInt 7).toInt32 = nI 7 := by decide
theorem kb8 : (Int8.ofInt 8).toInt32 = nI 8 := by decide
theorem kb9 : (Int8.ofInt 9).toInt32 = nI 9 := by decide
theorem kb16 : (Int8.ofInt 16).toInt32 = nI 16 := by decide
theorem ki0 : Int32.ofInt 0 = nI 0 := by decide
theorem ki1 : Int32.ofInt 1 = nI 1 := by decide
theorem ki2 : Int32.ofInt 2 = nI 2 := by decide
theorem ki3 : Int32.ofInt 3 = nI 3 := by decide
theorem ki4 : Int32.ofInt 4 = nI 4 := by decide
theorem ki5 : Int32.ofInt 5 = nI 5 := by decide
theorem c_lt0 {x : Int32} : ax_cnd .lt x 0 ↔ x.toInt < 0 := Int32.lt_iff_toInt_lt
theorem c_ge0 {x : Int32} : ax_cnd .ge x 0 ↔ 0 ≤ x.toInt := Int32.le_iff_toInt_le
theorem cn_ge {a b : Nat} (ha : a < 2147483648) (hb : b < 2147483648) : ax_cnd .ge (nI a) (nI b) ↔ b ≤ a := by
  refine Int32.le_iff_toInt_le.trans ?_
  rw [q_nI' ha, q_nI' hb]
  omega
theorem cn_lt {a b : Nat} (ha : a < 2147483648) (hb : b < 2147483648) : ax_cnd .lt (nI a) (nI b) ↔ a < b := by
  refine Int32.lt_iff_toInt_lt.trans ?_
  rw [q_nI' ha, q_nI' hb]
  omega
theorem cn_eq {a b : Nat} (ha : a < 2147483648) (hb : b < 2147483648) : ax_cnd .eq (nI a) (nI b) ↔ a = b := by
  refine q_eq.trans ?_
  rw [q_nI' ha, q_nI' hb]
  omega
theorem cn_ne {a b : Nat} (ha : a < 2147483648) (hb : b < 2147483648) : ax_cnd .ne (nI a) (nI b) ↔ ¬ a = b := not_congr (cn_eq ha hb)
