/-! the cells of the law's run: 0 the script; 1 to 22 the class's; 23 to 38 the reference's; 39 the law's own; then a pool -/
abbrev ax_St : Type := ((((((Nat) × (Nat)) × (Nat)) × (((Nat) × (Nat)) × (Nat))) × ((((Nat) × (Nat → Int32)) × (Nat → Int32)) × ((Nat → Int32) × (Nat → Int32)))) × (((((Nat → Int32) × (Nat → Int32)) × (Nat → Int32)) × (((Nat → Int32) × (Nat → Int32)) × (Nat → Int32))) × ((((Nat → Int32) × (Nat → Int32)) × (Nat → Option Nat)) × ((Nat → Option Nat) × (Nat → Int64)))))
abbrev ax_St.told (c_ : ax_St) : Nat := c_.1.1.1.1.1
abbrev ax_St.tl (c_ : ax_St) : Nat := c_.1.1.1.1.2
abbrev ax_St.pl (c_ : ax_St) : Nat := c_.1.1.1.2
abbrev ax_St.bn (c_ : ax_St) : Nat := c_.1.1.2.1.1
abbrev ax_St.rn (c_ : ax_St) : Nat := c_.1.1.2.1.2
abbrev ax_St.qn (c_ : ax_St) : Nat := c_.1.1.2.2
abbrev ax_St.on (c_ : ax_St) : Nat := c_.1.2.1.1.1
abbrev ax_St.ch (c_ : ax_St) : Nat → Int32 := c_.1.2.1.1.2
abbrev ax_St.kinds (c_ : ax_St) : Nat → Int32 := c_.1.2.1.2
abbrev ax_St.values (c_ : ax_St) : Nat → Int32 := c_.1.2.2.1
abbrev ax_St.layers (c_ : ax_St) : Nat → Int32 := c_.1.2.2.2
abbrev ax_St.xs (c_ : ax_St) : Nat → Int32 := c_.2.1.1.1.1
abbrev ax_St.ys (c_ : ax_St) : Nat → Int32 := c_.2.1.1.1.2
abbrev ax_St.rt (c_ : ax_St) : Nat → Int32 := c_.2.1.1.2
abbrev ax_St.re (c_ : ax_St) : Nat → Int32 := c_.2.1.2.1.1
abbrev ax_St.qm (c_ : ax_St) : Nat → Int32 := c_.2.1.2.1.2
abbrev ax_St.parts (c_ : ax_St) : Nat → Int32 := c_.2.1.2.2
abbrev ax_St.ab (c_ : ax_St) : Nat → Int32 := c_.2.2.1.1.1
abbrev ax_St.be (c_ : ax_St) : Nat → Int32 := c_.2.2.1.1.2
abbrev ax_St.of (c_ : ax_St) : Nat → Option Nat := c_.2.2.1.2
abbrev ax_St.qo (c_ : ax_St) : Nat → Option Nat := c_.2.2.2.1
abbrev ax_St.qu (c_ : ax_St) : Nat → Int64 := c_.2.2.2.2
abbrev ax_St.u_told (c_ : ax_St) (z_ : Nat) : ax_St := (((((z_, c_.1.1.1.1.2), c_.1.1.1.2), c_.1.1.2), c_.1.2), c_.2)
abbrev ax_St.u_tl (c_ : ax_St) (z_ : Nat) : ax_St := (((((c_.1.1.1.1.1, z_), c_.1.1.1.2), c_.1.1.2), c_.1.2), c_.2)
abbrev ax_St.u_pl (c_ : ax_St) (z_ : Nat) : ax_St := ((((c_.1.1.1.1, z_), c_.1.1.2), c_.1.2), c_.2)
abbrev ax_St.u_bn (c_ : ax_St) (z_ : Nat) : ax_St := (((c_.1.1.1, ((z_, c_.1.1.2.1.2), c_.1.1.2.2)), c_.1.2), c_.2)
abbrev ax_St.u_rn (c_ : ax_St) (z_ : Nat) : ax_St := (((c_.1.1.1, ((c_.1.1.2.1.1, z_), c_.1.1.2.2)), c_.1.2), c_.2)
abbrev ax_St.u_qn (c_ : ax_St) (z_ : Nat) : ax_St := (((c_.1.1.1, (c_.1.1.2.1, z_)), c_.1.2), c_.2)
abbrev ax_St.u_on (c_ : ax_St) (z_ : Nat) : ax_St := ((c_.1.1, (((z_, c_.1.2.1.1.2), c_.1.2.1.2), c_.1.2.2)), c_.2)
abbrev ax_St.u_ch (c_ : ax_St) (z_ : Nat → Int32) : ax_St := ((c_.1.1, (((c_.1.2.1.1.1, z_), c_.1.2.1.2), c_.1.2.2)), c_.2)
abbrev ax_St.u_kinds (c_ : ax_St) (z_ : Nat → Int32) : ax_St := ((c_.1.1, ((c_.1.2.1.1, z_), c_.1.2.2)), c_.2)
abbrev ax_St.u_values (c_ : ax_St) (z_ : Nat → Int32) : ax_St := ((c_.1.1, (c_.1.2.1, (z_, c_.1.2.2.2))), c_.2)
abbrev ax_St.u_layers (c_ : ax_St) (z_ : Nat → Int32) : ax_St := ((c_.1.1, (c_.1.2.1, (c_.1.2.2.1, z_))), c_.2)
abbrev ax_St.u_xs (c_ : ax_St) (z_ : Nat → Int32) : ax_St := (c_.1, ((((z_, c_.2.1.1.1.2), c_.2.1.1.2), c_.2.1.2), c_.2.2))
abbrev ax_St.u_ys (c_ : ax_St) (z_ : Nat → Int32) : ax_St := (c_.1, ((((c_.2.1.1.1.1, z_), c_.2.1.1.2), c_.2.1.2), c_.2.2))
abbrev ax_St.u_rt (c_ : ax_St) (z_ : Nat → Int32) : ax_St := (c_.1, (((c_.2.1.1.1, z_), c_.2.1.2), c_.2.2))
abbrev ax_St.u_re (c_ : ax_St) (z_ : Nat → Int32) : ax_St := (c_.1, ((c_.2.1.1, ((z_, c_.2.1.2.1.2), c_.2.1.2.2)), c_.2.2))
abbrev ax_St.u_qm (c_ : ax_St) (z_ : Nat → Int32) : ax_St := (c_.1, ((c_.2.1.1, ((c_.2.1.2.1.1, z_), c_.2.1.2.2)), c_.2.2))
abbrev ax_St.u_parts (c_ : ax_St) (z_ : Nat → Int32) : ax_St := (c_.1, ((c_.2.1.1, (c_.2.1.2.1, z_)), c_.2.2))
abbrev ax_St.u_ab (c_ : ax_St) (z_ : Nat → Int32) : ax_St := (c_.1, (c_.2.1, (((z_, c_.2.2.1.1.2), c_.2.2.1.2), c_.2.2.2)))
abbrev ax_St.u_be (c_ : ax_St) (z_ : Nat → Int32) : ax_St := (c_.1, (c_.2.1, (((c_.2.2.1.1.1, z_), c_.2.2.1.2), c_.2.2.2)))
abbrev ax_St.u_of (c_ : ax_St) (z_ : Nat → Option Nat) : ax_St := (c_.1, (c_.2.1, ((c_.2.2.1.1, z_), c_.2.2.2)))
abbrev ax_St.u_qo (c_ : ax_St) (z_ : Nat → Option Nat) : ax_St := (c_.1, (c_.2.1, (c_.2.2.1, (z_, c_.2.2.2.2))))
abbrev ax_St.u_qu (c_ : ax_St) (z_ : Nat → Int64) : ax_St := (c_.1, (c_.2.1, (c_.2.2.1, (c_.2.2.2.1, z_))))
abbrev ax_Mo : Type := ((((((Int32) × (Nat)) × (Nat)) × (((Nat) × (Nat)) × (Nat))) × ((((Nat) × (Nat)) × (Int32)) × (((Nat → Int32) × (Nat → Int32)) × (Nat → Int32)))) × (((((Nat → Int32) × (Nat → Int32)) × (Nat → Int32)) × (((Nat → Int64) × (Nat → Int64)) × (Nat → Int64))) × ((((Nat → Int64) × (Nat → Int64)) × (Nat → Int64)) × (((Nat → Int64) × (Nat → Int64)) × (Nat → Int64)))))
abbrev ax_Mo.thrown (c_ : ax_Mo) : Int32 := c_.1.1.1.1.1
abbrev ax_Mo.units (c_ : ax_Mo) : Nat := c_.1.1.1.1.2
abbrev ax_Mo.makers (c_ : ax_Mo) : Nat := c_.1.1.1.2
abbrev ax_Mo.things (c_ : ax_Mo) : Nat := c_.1.1.2.1.1
abbrev ax_Mo.remarks (c_ : ax_Mo) : Nat := c_.1.1.2.1.2
abbrev ax_Mo.quotes (c_ : ax_Mo) : Nat := c_.1.1.2.2
abbrev ax_Mo.orders (c_ : ax_Mo) : Nat := c_.1.2.1.1.1
abbrev ax_Mo.at_ (c_ : ax_Mo) : Nat := c_.1.2.1.1.2
abbrev ax_Mo.wrong (c_ : ax_Mo) : Int32 := c_.1.2.1.2
abbrev ax_Mo.text (c_ : ax_Mo) : Nat → Int32 := c_.1.2.2.1.1
abbrev ax_Mo.classes (c_ : ax_Mo) : Nat → Int32 := c_.1.2.2.1.2
abbrev ax_Mo.kinds (c_ : ax_Mo) : Nat → Int32 := c_.1.2.2.2
abbrev ax_Mo.layers (c_ : ax_Mo) : Nat → Int32 := c_.2.1.1.1.1
abbrev ax_Mo.remarkOf (c_ : ax_Mo) : Nat → Int32 := c_.2.1.1.1.2
abbrev ax_Mo.quoteMaker (c_ : ax_Mo) : Nat → Int32 := c_.2.1.1.2
abbrev ax_Mo.numbers (c_ : ax_Mo) : Nat → Int64 := c_.2.1.2.1.1
abbrev ax_Mo.values (c_ : ax_Mo) : Nat → Int64 := c_.2.1.2.1.2
abbrev ax_Mo.x (c_ : ax_Mo) : Nat → Int64 := c_.2.1.2.2
abbrev ax_Mo.y (c_ : ax_Mo) : Nat → Int64 := c_.2.2.1.1.1
abbrev ax_Mo.excess (c_ : ax_Mo) : Nat → Int64 := c_.2.2.1.1.2
abbrev ax_Mo.until_ (c_ : ax_Mo) : Nat → Int64 := c_.2.2.1.2
abbrev ax_Mo.orderRow (c_ : ax_Mo) : Nat → Int64 := c_.2.2.2.1.1
abbrev ax_Mo.above (c_ : ax_Mo) : Nat → Int64 := c_.2.2.2.1.2
abbrev ax_Mo.below (c_ : ax_Mo) : Nat → Int64 := c_.2.2.2.2
abbrev ax_Mo.u_thrown (c_ : ax_Mo) (z_ : Int32) : ax_Mo := (((((z_, c_.1.1.1.1.2), c_.1.1.1.2), c_.1.1.2), c_.1.2), c_.2)
abbrev ax_Mo.u_units (c_ : ax_Mo) (z_ : Nat) : ax_Mo := (((((c_.1.1.1.1.1, z_), c_.1.1.1.2), c_.1.1.2), c_.1.2), c_.2)
abbrev ax_Mo.u_makers (c_ : ax_Mo) (z_ : Nat) : ax_Mo := ((((c_.1.1.1.1, z_), c_.1.1.2), c_.1.2), c_.2)
abbrev ax_Mo.u_things (c_ : ax_Mo) (z_ : Nat) : ax_Mo := (((c_.1.1.1, ((z_, c_.1.1.2.1.2), c_.1.1.2.2)), c_.1.2), c_.2)
abbrev ax_Mo.u_remarks (c_ : ax_Mo) (z_ : Nat) : ax_Mo := (((c_.1.1.1, ((c_.1.1.2.1.1, z_), c_.1.1.2.2)), c_.1.2), c_.2)
abbrev ax_Mo.u_quotes (c_ : ax_Mo) (z_ : Nat) : ax_Mo := (((c_.1.1.1, (c_.1.1.2.1, z_)), c_.1.2), c_.2)
abbrev ax_Mo.u_orders (c_ : ax_Mo) (z_ : Nat) : ax_Mo := ((c_.1.1, (((z_, c_.1.2.1.1.2), c_.1.2.1.2), c_.1.2.2)), c_.2)
abbrev ax_Mo.u_at_ (c_ : ax_Mo) (z_ : Nat) : ax_Mo := ((c_.1.1, (((c_.1.2.1.1.1, z_), c_.1.2.1.2), c_.1.2.2)), c_.2)
abbrev ax_Mo.u_wrong (c_ : ax_Mo) (z_ : Int32) : ax_Mo := ((c_.1.1, ((c_.1.2.1.1, z_), c_.1.2.2)), c_.2)
abbrev ax_Mo.u_text (c_ : ax_Mo) (z_ : Nat → Int32) : ax_Mo := ((c_.1.1, (c_.1.2.1, ((z_, c_.1.2.2.1.2), c_.1.2.2.2))), c_.2)
abbrev ax_Mo.u_classes (c_ : ax_Mo) (z_ : Nat → Int32) : ax_Mo := ((c_.1.1, (c_.1.2.1, ((c_.1.2.2.1.1, z_), c_.1.2.2.2))), c_.2)
abbrev ax_Mo.u_kinds (c_ : ax_Mo) (z_ : Nat → Int32) : ax_Mo := ((c_.1.1, (c_.1.2.1, (c_.1.2.2.1, z_))), c_.2)
abbrev ax_Mo.u_layers (c_ : ax_Mo) (z_ : Nat → Int32) : ax_Mo := (c_.1, ((((z_, c_.2.1.1.1.2), c_.2.1.1.2), c_.2.1.2), c_.2.2))
abbrev ax_Mo.u_remarkOf (c_ : ax_Mo) (z_ : Nat → Int32) : ax_Mo := (c_.1, ((((c_.2.1.1.1.1, z_), c_.2.1.1.2), c_.2.1.2), c_.2.2))
abbrev ax_Mo.u_quoteMaker (c_ : ax_Mo) (z_ : Nat → Int32) : ax_Mo := (c_.1, (((c_.2.1.1.1, z_), c_.2.1.2), c_.2.2))
abbrev ax_Mo.u_numbers (c_ : ax_Mo) (z_ : Nat → Int64) : ax_Mo := (c_.1, ((c_.2.1.1, ((z_, c_.2.1.2.1.2), c_.2.1.2.2)), c_.2.2))
abbrev ax_Mo.u_values (c_ : ax_Mo) (z_ : Nat → Int64) : ax_Mo := (c_.1, ((c_.2.1.1, ((c_.2.1.2.1.1, z_), c_.2.1.2.2)), c_.2.2))
abbrev ax_Mo.u_x (c_ : ax_Mo) (z_ : Nat → Int64) : ax_Mo := (c_.1, ((c_.2.1.1, (c_.2.1.2.1, z_)), c_.2.2))
abbrev ax_Mo.u_y (c_ : ax_Mo) (z_ : Nat → Int64) : ax_Mo := (c_.1, (c_.2.1, (((z_, c_.2.2.1.1.2), c_.2.2.1.2), c_.2.2.2)))
abbrev ax_Mo.u_excess (c_ : ax_Mo) (z_ : Nat → Int64) : ax_Mo := (c_.1, (c_.2.1, (((c_.2.2.1.1.1, z_), c_.2.2.1.2), c_.2.2.2)))
abbrev ax_Mo.u_until_ (c_ : ax_Mo) (z_ : Nat → Int64) : ax_Mo := (c_.1, (c_.2.1, ((c_.2.2.1.1, z_), c_.2.2.2)))
abbrev ax_Mo.u_orderRow (c_ : ax_Mo) (z_ : Nat → Int64) : ax_Mo := (c_.1, (c_.2.1, (c_.2.2.1, ((z_, c_.2.2.2.1.2), c_.2.2.2.2))))
abbrev ax_Mo.u_above (c_ : ax_Mo) (z_ : Nat → Int64) : ax_Mo := (c_.1, (c_.2.1, (c_.2.2.1, ((c_.2.2.2.1.1, z_), c_.2.2.2.2))))
abbrev ax_Mo.u_below (c_ : ax_Mo) (z_ : Nat → Int64) : ax_Mo := (c_.1, (c_.2.1, (c_.2.2.1, (c_.2.2.2.1, z_))))
abbrev ax_aI (n : Nat) (f : Nat → Int32) : Option ax_C := some (.inl (0, n, .inl f))
abbrev ax_aJ (n : Nat) (f : Nat → Int64) : Option ax_C := some (.inl (1, n, .inr (.inl f)))
abbrev ax_aC (n : Nat) (f : Nat → Int32) : Option ax_C := some (.inl (2, n, .inl f))
abbrev ax_aO (n : Nat) (f : Nat → Option Nat) : Option ax_C := some (.inl (3, n, .inr (.inr (.inr (.inr f)))))
abbrev ax_aG (n : Nat) (f : Nat → Option Nat) : Option ax_C := some (.inl (4, n, .inr (.inr (.inr (.inr f)))))
abbrev ax_ob (ci : Nat) (fs : List Value) : Option ax_C := some (.inr (ci, fs))
def ax_hp (L : Nat) (xs : Nat → Int32) (c : ax_St) (m : ax_Mo) (o : Nat → Int64) (pool : List (Option ax_C)) : List (Option ax_C) :=
  some (.inl (9, L, .inl xs)) ::
  ax_ob 0 [.ref 2, .ref 4, .int (nI c.told), .ref 5, .ref 11, .ref 14, .ref 18, .ref 20] ::
  ax_ob 8 [.ref 3, .int (nI c.tl), .int (nI c.pl)] :: ax_aC 400 c.ch ::
  ax_aO 4 c.of ::
  ax_ob 1 [.ref 6, .ref 7, .ref 8, .ref 9, .ref 10, .int (nI c.bn)] :: ax_aI 60 c.kinds :: ax_aI 60 c.values :: ax_aI 60 c.layers :: ax_aI 60 c.xs :: ax_aI 60 c.ys ::
  ax_ob 7 [.ref 12, .ref 13, .int (nI c.rn)] :: ax_aI 60 c.rt :: ax_aI 60 c.re ::
  ax_ob 6 [.ref 15, .ref 16, .ref 17, .int (nI c.qn)] :: ax_aI 10 c.qm :: ax_aO 10 c.qo :: ax_aJ 10 c.qu ::
  ax_ob 5 [.ref 19, .int (nI c.on)] :: ax_aI 140 c.parts ::
  ax_ob 2 [.ref 21, .ref 22] :: ax_aI 128 c.ab :: ax_aI 128 c.be ::
  ax_ob 9 [.int m.thrown, .int (nI m.units), .ref 24, .int (nI m.makers), .ref 25, .ref 26, .int (nI m.things), .ref 27, .ref 28, .ref 29, .ref 30, .ref 31, .int (nI m.remarks), .ref 32, .ref 33, .int (nI m.quotes), .ref 34, .ref 35, .int (nI m.orders), .ref 36, .ref 37, .ref 38, .int (nI m.at_), .int m.wrong] ::
  ax_aI 400 m.text :: ax_aI 15 m.classes :: ax_aJ 960 m.numbers :: ax_aI 60 m.kinds :: ax_aJ 60 m.values :: ax_aI 60 m.layers :: ax_aJ 60 m.x :: ax_aJ 60 m.y ::
  ax_aI 60 m.remarkOf :: ax_aJ 60 m.excess :: ax_aI 10 m.quoteMaker :: ax_aJ 10 m.until_ :: ax_aJ 140 m.orderRow :: ax_aJ 128 m.above :: ax_aJ 128 m.below ::
  ax_aJ 1 o :: pool
