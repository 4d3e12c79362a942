/-! the reference's side of the offers -/
structure BRel (c : ax_St) (m : ax_Mo) : Prop where
  n : m.things = c.bn
  k : ∀ t, t < c.bn → m.kinds t = c.kinds t
  v : ∀ t, t < c.bn → (m.values t).toInt = (c.values t).toInt
  l : ∀ t, t < c.bn → m.layers t = c.layers t
  x : ∀ t, t < c.bn → (m.x t).toInt = (c.xs t).toInt
  y : ∀ t, t < c.bn → (m.y t).toInt = (c.ys t).toInt
structure NumAt (m : ax_Mo) (p : Nat) (F : ax_Of) : Prop where
  cl : m.classes p = nI F.n
  lm : ∀ k, k < F.n → ∀ j, j < 6 → (m.numbers (64 * p + 16 * k + j)).toInt = ((F.g k).lim j).toInt
  st : ∀ k, k < F.n → (m.numbers (64 * p + 16 * k + 6)).toInt = (F.g k).st
  dy : ∀ k, k < F.n → (m.numbers (64 * p + 16 * k + 7)).toInt = (F.g k).dy.toInt
  fr : ∀ k, k < F.n → ∀ s, s < (F.g k).st → (m.numbers (64 * p + 16 * k + (8 + 2 * s))).toInt = ((F.g k).fr s).toInt
  ce : ∀ k, k < F.n → ∀ s, s < (F.g k).st → (m.numbers (64 * p + 16 * k + (9 + 2 * s))).toInt = ((F.g k).ce s).toInt
section MF
variable {L : Nat} {xs : Nat → Int32} {c : ax_St} {m : ax_Mo} {o : Nat → Int64} {pool : List (Option ax_C)} {u : Nat} {h : ax_H}
theorem n_place (p k : Nat) (hp : p < 100) (hk : k < 100) : ax_run m_Mo_place [.int (nI p), .int (nI k)] h (.inl (some (.int (nI (64 * p + 16 * k)))), h) := by
  startR M_Mo_place
  gg
  refine w_eqI (y := nI (64 * p + 16 * k)) (by ix) ?_
  ir
  rfl
theorem n_beyond {p : Nat} {F : ax_Of} (hN : NumAt m p F) (hok : OfferOk F) (hR : BRel c m) (hb : BoardOk c) (hp : p < 15) (k t : Nat) (hk : k < F.n) (ht : t < c.bn) :
    ax_run m_Mo_beyond [.ref 23, .int (nI p), .int (nI k), .int (nI t)] (ax_hp L xs c m o pool, u) (.inl (some (.long (Int64.ofInt (ax_ex c (F.g k) t)))), (ax_hp L xs c m o pool, u)) := by
  have hn4 := hok.n4
  have hbn := hb.n
  obtain ⟨d, hd0, hd1, hd2⟩ := q_nat (x := c.kinds t) (hb.k t ht).1
  have hd3 := (hb.k t ht).2
  have hv := hb.v t ht
  have hlm := hN.lm k hk d (by omega)
  have hlb := (hok.gs k hk).lm d (by omega)
  have hvt := hR.v t ht
  have hdd : (nI d).toInt.toNat = d := by rw [q_nI' hd2]; rfl
  have e0 : ax_ex c (F.g k) t = (if (d : Int) < 4 then ((F.g k).lim d).toInt - (c.values t).toInt else (c.values t).toInt - ((F.g k).lim d).toInt) := by
    unfold ax_ex
    rw [hd0, hdd, q_nI' hd2]
  rw [e0]
  clear e0 hdd
  startR M_Mo_beyond
  gg
  cS (n_place p k (by omega) (by omega))
  gg
  refine w_ia rfl rfl rfl (by omega) (by decide) ?_
  rw [hR.k t ht, hd0]
  gg
  refine w_la (j := 64 * p + 16 * k + d) rfl rfl (by ix) (by omega) (by decide) ?_
  gg
  refine w_ia rfl rfl rfl (by omega) (by decide) ?_
  rw [hR.k t ht, hd0]
  gg
  refine w_if2 rfl (fun h5 => ?_) (fun h5 => ?_)
  · gg
    refine w_la rfl rfl rfl (by omega) (by decide) ?_
    gg
    refine w_lret rfl rfl ?_
    rw [if_neg (by zo)]
    congr 4
    apply q_toL
    rw [q_subL, hlm, hvt]
    omega
  · gg
    refine w_la rfl rfl rfl (by omega) (by decide) ?_
    gg
    refine w_lret rfl rfl ?_
    rw [if_pos (by zo)]
    congr 4
    apply q_toL
    rw [q_subL, hlm, hvt]
    omega
end MF
