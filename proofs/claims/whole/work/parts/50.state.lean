/-! the cells of the law's run: 0 the script; 1 to 22 the class's; 23 to 38 the reference's; 39 the law's own; then a pool -/
structure ax_St where
  told : Nat
  tl : Nat
  pl : Nat
  bn : Nat
  rn : Nat
  qn : Nat
  on : Nat
  ch : Nat → Int32
  kinds : Nat → Int32
  values : Nat → Int32
  layers : Nat → Int32
  xs : Nat → Int32
  ys : Nat → Int32
  rt : Nat → Int32
  re : Nat → Int32
  qm : Nat → Int32
  parts : Nat → Int32
  ab : Nat → Int32
  be : Nat → Int32
  of : Nat → Option Nat
  qo : Nat → Option Nat
  qu : Nat → Int64
structure ax_Mo where
  thrown : Int32
  units : Nat
  makers : Nat
  things : Nat
  remarks : Nat
  quotes : Nat
  orders : Nat
  at_ : Nat
  wrong : Int32
  text : Nat → Int32
  classes : Nat → Int32
  kinds : Nat → Int32
  layers : Nat → Int32
  remarkOf : Nat → Int32
  quoteMaker : Nat → Int32
  numbers : Nat → Int64
  values : Nat → Int64
  x : Nat → Int64
  y : Nat → Int64
  excess : Nat → Int64
  until_ : Nat → Int64
  orderRow : Nat → Int64
  above : Nat → Int64
  below : Nat → Int64
abbrev ax_aI (n : Nat) (f : Nat → Int32) : Option ax_C := some (.inl (0, n, .inl f))
abbrev ax_aJ (n : Nat) (f : Nat → Int64) : Option ax_C := some (.inl (1, n, .inr (.inl f)))
abbrev ax_aC (n : Nat) (f : Nat → Int32) : Option ax_C := some (.inl (2, n, .inl f))
abbrev ax_aO (n : Nat) (f : Nat → Option Nat) : Option ax_C := some (.inl (3, n, .inr (.inr (.inr (.inr f)))))
abbrev ax_aG (n : Nat) (f : Nat → Option Nat) : Option ax_C := some (.inl (4, n, .inr (.inr (.inr (.inr f)))))
abbrev ax_ob (ci : Nat) (fs : List Value) : Option ax_C := some (.inr (ci, fs))
def ax_hp (L : Nat) (xs : Nat → Int32) (c : ax_St) (m : ax_Mo) (o : Nat → Int64) (pool : List (Option ax_C)) : List (Option ax_C) :=
  some (.inl (9, L, .inl xs)) ::
  ax_ob 0 [.ref 2, .ref 4, .int (nI c.told), .ref 5, .ref 11, .ref 14, .ref 18, .ref 20] ::
  ax_ob 8 [.ref 3, .int (nI c.tl), .int (nI c.pl)] :: ax_aC 400 c.ch ::
  ax_aO 4 c.of ::
  ax_ob 1 [.ref 6, .ref 7, .ref 8, .ref 9, .ref 10, .int (nI c.bn)] :: ax_aI 60 c.kinds :: ax_aI 60 c.values :: ax_aI 60 c.layers :: ax_aI 60 c.xs :: ax_aI 60 c.ys ::
  ax_ob 7 [.ref 12, .ref 13, .int (nI c.rn)] :: ax_aI 60 c.rt :: ax_aI 60 c.re ::
  ax_ob 6 [.ref 15, .ref 16, .ref 17, .int (nI c.qn)] :: ax_aI 10 c.qm :: ax_aO 10 c.qo :: ax_aJ 10 c.qu ::
  ax_ob 5 [.ref 19, .int (nI c.on)] :: ax_aI 140 c.parts ::
  ax_ob 2 [.ref 21, .ref 22] :: ax_aI 128 c.ab :: ax_aI 128 c.be ::
  ax_ob 9 [.int m.thrown, .int (nI m.units), .ref 24, .int (nI m.makers), .ref 25, .ref 26, .int (nI m.things), .ref 27, .ref 28, .ref 29, .ref 30, .ref 31, .int (nI m.remarks), .ref 32, .ref 33, .int (nI m.quotes), .ref 34, .ref 35, .int (nI m.orders), .ref 36, .ref 37, .ref 38, .int (nI m.at_), .int m.wrong] ::
  ax_aI 400 m.text :: ax_aI 15 m.classes :: ax_aJ 960 m.numbers :: ax_aI 60 m.kinds :: ax_aJ 60 m.values :: ax_aI 60 m.layers :: ax_aJ 60 m.x :: ax_aJ 60 m.y ::
  ax_aI 60 m.remarkOf :: ax_aJ 60 m.excess :: ax_aI 10 m.quoteMaker :: ax_aJ 10 m.until_ :: ax_aJ 140 m.orderRow :: ax_aJ 128 m.above :: ax_aJ 128 m.below ::
  ax_aJ 1 o :: pool
