/-- the tree: kinds, values, wheres, sizes; how many; the arrays' length -/
abbrev TR : Type := (Nat → Int32) × (Nat → Int32) × (Nat → Int32) × (Nat → Int32) × Nat × Nat
abbrev trK (t : TR) : Nat → Int32 := t.1
abbrev trV (t : TR) : Nat → Int32 := t.2.1
abbrev trW (t : TR) : Nat → Int32 := t.2.2.1
abbrev trS (t : TR) : Nat → Int32 := t.2.2.2.1
abbrev trn (t : TR) : Nat := t.2.2.2.2.1
abbrev trc (t : TR) : Nat := t.2.2.2.2.2
abbrev okTr (t : TR) : Prop := trn t ≤ trc t ∧ trc t < 2 ^ 31 ∧ 64 ≤ trc t
abbrev wTr (cI : ClassId) (h a1 a2 a3 a4 : Nat) (t : TR) : va_W := [(h, .inr (4, [.ref a1, .ref a2, .ref a3, .ref a4, .int (nI (trn t))])), (a1, .inl (cI, trc t, .inl (trK t))), (a2, .inl (cI, trc t, .inl (trV t))), (a3, .inl (cI, trc t, .inl (trW t))), (a4, .inl (cI, trc t, .inl (trS t)))]
/-- the labels: names, whether of a loop; how many -/
abbrev LB : Type := (Nat → Int32) × (Nat → Int32) × Nat
abbrev lbN (t : LB) : Nat → Int32 := t.1
abbrev lbL (t : LB) : Nat → Int32 := t.2.1
abbrev lbn (t : LB) : Nat := t.2.2
abbrev okLb (t : LB) : Prop := lbn t ≤ 100
abbrev wLa (cI cZ : ClassId) (h a1 a2 : Nat) (t : LB) : va_W := [(h, .inr (1, [.ref a1, .ref a2, .int (nI (lbn t))])), (a1, .inl (cI, 100, .inl (lbN t))), (a2, .inl (cZ, 100, .inl (lbL t)))]
/-- the code: function, firstLabel, strict, loops, switches -/
abbrev CO : Type := Int32 × Int32 × Int32 × Int32 × Int32
/-- the parser's state: tokens, tree, labels, code, and at, refusedAt, literals; and two numbers of mine: cells and slots that may still be made -/
abbrev ST : Type := TK × TR × LB × CO × Int32 × Int32 × Int32 × Nat × Nat
abbrev sTk (s : ST) : TK := s.1
abbrev sTr (s : ST) : TR := s.2.1
abbrev sLb (s : ST) : LB := s.2.2.1
abbrev sCo (s : ST) : CO := s.2.2.2.1
abbrev coF (s : ST) : Int32 := s.2.2.2.1.1
abbrev coL (s : ST) : Int32 := s.2.2.2.1.2.1
abbrev coS (s : ST) : Int32 := s.2.2.2.1.2.2.1
abbrev coP (s : ST) : Int32 := s.2.2.2.1.2.2.2.1
abbrev coW (s : ST) : Int32 := s.2.2.2.1.2.2.2.2
abbrev sAt (s : ST) : Int32 := s.2.2.2.2.1
abbrev sRa (s : ST) : Int32 := s.2.2.2.2.2.1
abbrev sLi (s : ST) : Int32 := s.2.2.2.2.2.2.1
abbrev bC (s : ST) : Nat := s.2.2.2.2.2.2.2.1
abbrev bS (s : ST) : Nat := s.2.2.2.2.2.2.2.2
abbrev okSt (s : ST) : Prop := okTk (sTk s) ∧ okTr (sTr s) ∧ okLb (sLb s) ∧ (coS s = 0 ∨ coS s = 1)
abbrev wP (cI cZ : ClassId) (hp hc h a1 a2 a3 a4 ht b1 b2 b3 b4 hq n1 n2 : Nat) (s : ST) : va_W :=
  [(hp, .inr (2, [.ref ht, .ref hq, .int (sLi s), .ref h, .int (sAt s), .int (sRa s), .ref hc])), (hc, .inr (0, [.int (coF s), .int (coL s), .int (coS s), .int (coP s), .int (coW s)])),
   (h, .inr (3, [.ref a1, .ref a2, .ref a3, .ref a4, .int (nI (tkn (sTk s)))])), (a1, .inl (cI, tkc (sTk s), .inl (tkK (sTk s)))), (a2, .inl (cI, tkc (sTk s), .inl (tkW (sTk s)))), (a3, .inl (cI, tkc (sTk s), .inl (tkN (sTk s)))), (a4, .inl (cI, tkc (sTk s), .inl (tkL (sTk s)))),
   (ht, .inr (4, [.ref b1, .ref b2, .ref b3, .ref b4, .int (nI (trn (sTr s)))])), (b1, .inl (cI, trc (sTr s), .inl (trK (sTr s)))), (b2, .inl (cI, trc (sTr s), .inl (trV (sTr s)))), (b3, .inl (cI, trc (sTr s), .inl (trW (sTr s)))), (b4, .inl (cI, trc (sTr s), .inl (trS (sTr s)))),
   (hq, .inr (1, [.ref n1, .ref n2, .int (nI (lbn (sLb s)))])), (n1, .inl (cI, 100, .inl (lbN (sLb s)))), (n2, .inl (cZ, 100, .inl (lbL (sLb s))))]
