/-! ===== the cells of each kind of thing ===== -/
def wTb (E : eT) (o a b : Nat) (wm st : Nat → Int32) : va_W := [(o, .inr (3, [.ref a, .ref b])), (a, .inl (E.2.1, 12, .inl wm)), (b, .inl (E.2.1, 12, .inl st))]
def wCo (E : eT) (o a b d : Nat) (gr co : Nat → Int32) (hb : Nat → Bool) (mo : Int32) : va_W := [(o, .inr (0, [.ref a, .ref b, .ref d, .int mo])), (a, .inl (E.2.1, 81, .inl gr)), (b, .inl (E.2.1, 81, .inl co)), (d, .inl (E.2.2.1, 81, .inl (fun k => b2i (hb k))))]
def wSo (E : eT) (o a b : Nat) (sd tk : Nat → Int32) : va_W := [(o, .inr (1, [.ref a, .ref b])), (a, .inl (E.2.1, 81, .inl sd)), (b, .inl (E.2.1, 81, .inl tk))]
def wSp (E : eT) (o a b d : Nat) (op : Nat → Bool) (sp rc : Nat → Int32) (rn : Int32) : va_W := [(o, .inr (2, [.ref a, .ref b, .ref d, .int rn])), (a, .inl (E.2.2.1, 81, .inl (fun k => b2i (op k)))), (b, .inl (E.2.1, 81, .inl sp)), (d, .inl (E.2.1, 81, .inl rc))]
def wPi (E : eT) (o : Nat) (ad : Nat → Nat) : va_W := [(o, .inr (4, [.ref (ad 0), .ref (ad 3), .ref (ad 7), .ref (ad 11), .ref (ad 14), .ref (ad 18)]))]
def wWa (E : eT) (a : Nat) (wa : Nat → Int32) : va_W := [(a, .inl (E.2.1, 81, .inl wa))]
/-- the pilot with all that it owns: table ad 0.., coast ad 3.., ahead ad 7.., soundings ad 11.., spread ad 14.., water ad 18 -/
def wAll (E : eT) (o : Nat) (ad : Nat → Nat) (wm st gr co : Nat → Int32) (hb : Nat → Bool) (mo : Int32) (ga ca : Nat → Int32) (ha : Nat → Bool) (ma : Int32) (sd tk : Nat → Int32) (op : Nat → Bool) (sp rc : Nat → Int32) (rn : Int32) (wa : Nat → Int32) : va_W :=
  [(o, .inr (4, [.ref (ad 0), .ref (ad 3), .ref (ad 7), .ref (ad 11), .ref (ad 14), .ref (ad 18)])),
   (ad 0, .inr (3, [.ref (ad 1), .ref (ad 2)])), (ad 1, .inl (E.2.1, 12, .inl wm)), (ad 2, .inl (E.2.1, 12, .inl st)),
   (ad 3, .inr (0, [.ref (ad 4), .ref (ad 5), .ref (ad 6), .int mo])), (ad 4, .inl (E.2.1, 81, .inl gr)), (ad 5, .inl (E.2.1, 81, .inl co)), (ad 6, .inl (E.2.2.1, 81, .inl (fun k => b2i (hb k)))),
   (ad 7, .inr (0, [.ref (ad 8), .ref (ad 9), .ref (ad 10), .int ma])), (ad 8, .inl (E.2.1, 81, .inl ga)), (ad 9, .inl (E.2.1, 81, .inl ca)), (ad 10, .inl (E.2.2.1, 81, .inl (fun k => b2i (ha k)))),
   (ad 11, .inr (1, [.ref (ad 12), .ref (ad 13)])), (ad 12, .inl (E.2.1, 81, .inl sd)), (ad 13, .inl (E.2.1, 81, .inl tk)),
   (ad 14, .inr (2, [.ref (ad 15), .ref (ad 16), .ref (ad 17), .int rn])), (ad 15, .inl (E.2.2.1, 81, .inl (fun k => b2i (op k)))), (ad 16, .inl (E.2.1, 81, .inl sp)), (ad 17, .inl (E.2.1, 81, .inl rc)),
   (ad 18, .inl (E.2.1, 81, .inl wa))]
/-- the reference: its object and its nine rows, ad 0 .. ad 8 -/
def wMo (E : eT) (o : Nat) (ad : Nat → Nat) (th : Int32) (gr co sd tk wm st : Nat → Int32) (mo : Int32) (nx lb fr : Nat → Int32) : va_W :=
  [(o, .inr (5, [.int th, .ref (ad 0), .ref (ad 1), .ref (ad 2), .ref (ad 3), .ref (ad 4), .ref (ad 5), .int mo, .ref (ad 6), .ref (ad 7), .ref (ad 8)])),
   (ad 0, .inl (E.2.1, 81, .inl gr)), (ad 1, .inl (E.2.1, 81, .inl co)), (ad 2, .inl (E.2.1, 81, .inl sd)), (ad 3, .inl (E.2.1, 81, .inl tk)), (ad 4, .inl (E.2.1, 12, .inl wm)), (ad 5, .inl (E.2.1, 12, .inl st)),
   (ad 6, .inl (E.2.1, 81, .inl nx)), (ad 7, .inl (E.2.1, 81, .inl lb)), (ad 8, .inl (E.2.1, 81, .inl fr))]
