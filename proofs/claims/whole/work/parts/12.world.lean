/-! ===== the cells of each kind of thing ===== -/
def wTb (E : eT) (o a b : Nat) (wm st : Nat → Int32) : va_W := [(o, .inr (3, [.ref a, .ref b])), (a, .inl (E.2.1, 12, .inl wm)), (b, .inl (E.2.1, 12, .inl st))]
def wCo (E : eT) (o a b d : Nat) (gr co : Nat → Int32) (hb : Nat → Bool) (mo : Int32) : va_W := [(o, .inr (0, [.ref a, .ref b, .ref d, .int mo])), (a, .inl (E.2.1, 81, .inl gr)), (b, .inl (E.2.1, 81, .inl co)), (d, .inl (E.2.2.1, 81, .inl (fun k => b2i (hb k))))]
def wSo (E : eT) (o a b : Nat) (sd tk : Nat → Int32) : va_W := [(o, .inr (1, [.ref a, .ref b])), (a, .inl (E.2.1, 81, .inl sd)), (b, .inl (E.2.1, 81, .inl tk))]
def wSp (E : eT) (o a b d : Nat) (op : Nat → Bool) (sp rc : Nat → Nat) (rn : Nat) : va_W := [(o, .inr (2, [.ref a, .ref b, .ref d, .int (nI rn)])), (a, .inl (E.2.2.1, 81, .inl (fun k => b2i (op k)))), (b, .inl (E.2.1, 81, .inl (fun k => nI (sp k)))), (d, .inl (E.2.1, 81, .inl (fun k => nI (rc k))))]
def wPi (E : eT) (o : Nat) (ad : Nat → Nat) : va_W := [(o, .inr (4, [.ref (ad 0), .ref (ad 3), .ref (ad 7), .ref (ad 11), .ref (ad 14), .ref (ad 18)]))]
def wWa (E : eT) (a : Nat) (wa : Nat → Int32) : va_W := [(a, .inl (E.2.1, 81, .inl wa))]
/-- the pilot with all that it owns: table ad 0.., coast ad 3.., ahead ad 7.., soundings ad 11.., spread ad 14.., water ad 18 -/
def wAll (E : eT) (o : Nat) (ad : Nat → Nat) (wm st gr co : Nat → Int32) (hb : Nat → Bool) (mo : Int32) (ga ca : Nat → Int32) (ha : Nat → Bool) (ma : Int32) (sd tk : Nat → Int32) (op : Nat → Bool) (sp rc : Nat → Nat) (rn : Nat) (wa : Nat → Int32) : va_W :=
  [(o, .inr (4, [.ref (ad 0), .ref (ad 3), .ref (ad 7), .ref (ad 11), .ref (ad 14), .ref (ad 18)])),
   (ad 0, .inr (3, [.ref (ad 1), .ref (ad 2)])), (ad 1, .inl (E.2.1, 12, .inl wm)), (ad 2, .inl (E.2.1, 12, .inl st)),
   (ad 3, .inr (0, [.ref (ad 4), .ref (ad 5), .ref (ad 6), .int mo])), (ad 4, .inl (E.2.1, 81, .inl gr)), (ad 5, .inl (E.2.1, 81, .inl co)), (ad 6, .inl (E.2.2.1, 81, .inl (fun k => b2i (hb k)))),
   (ad 7, .inr (0, [.ref (ad 8), .ref (ad 9), .ref (ad 10), .int ma])), (ad 8, .inl (E.2.1, 81, .inl ga)), (ad 9, .inl (E.2.1, 81, .inl ca)), (ad 10, .inl (E.2.2.1, 81, .inl (fun k => b2i (ha k)))),
   (ad 11, .inr (1, [.ref (ad 12), .ref (ad 13)])), (ad 12, .inl (E.2.1, 81, .inl sd)), (ad 13, .inl (E.2.1, 81, .inl tk)),
   (ad 14, .inr (2, [.ref (ad 15), .ref (ad 16), .ref (ad 17), .int (nI rn)])), (ad 15, .inl (E.2.2.1, 81, .inl (fun k => b2i (op k)))), (ad 16, .inl (E.2.1, 81, .inl (fun k => nI (sp k)))), (ad 17, .inl (E.2.1, 81, .inl (fun k => nI (rc k)))),
   (ad 18, .inl (E.2.1, 81, .inl wa))]
/-- the reference: its object and its nine rows, ad 0 .. ad 8 -/
def wMo (E : eT) (o : Nat) (ad : Nat → Nat) (th : Int32) (gr co sd tk wm st : Nat → Int32) (mo : Int32) (nx : Nat → Int32) (lb : Nat → Option Nat) (fr : Nat → Nat) : va_W :=
  [(o, .inr (5, [.int th, .ref (ad 0), .ref (ad 1), .ref (ad 2), .ref (ad 3), .ref (ad 4), .ref (ad 5), .int mo, .ref (ad 6), .ref (ad 7), .ref (ad 8)])),
   (ad 0, .inl (E.2.1, 81, .inl gr)), (ad 1, .inl (E.2.1, 81, .inl co)), (ad 2, .inl (E.2.1, 81, .inl sd)), (ad 3, .inl (E.2.1, 81, .inl tk)), (ad 4, .inl (E.2.1, 12, .inl wm)), (ad 5, .inl (E.2.1, 12, .inl st)),
   (ad 6, .inl (E.2.1, 81, .inl nx)), (ad 7, .inl (E.2.1, 81, .inl (fun k => oI (lb k)))), (ad 8, .inl (E.2.1, 81, .inl (fun k => nI (fr k))))]
/-! rows of numbers, of places or none -/
section ENO
variable {p : Program} {l : Launch} {e : Env} {R : Room} {s : State} {m : MethodId} {args : Array Value} {below : List Frame} {meth : Method} {c : Code} {H H0 : Heap} {locs : List Loc} {cells slots : Nat} {Q : State → Prop} {E : eT} {A : Nat → Prop} {ws : va_W} {cc : ByteArray} {pc : Nat} {ls : Array Slot} {rest : List Value} {a : Nat}
theorem upN (f : Nat → Nat) (k x : Nat) : upd (fun j => nI (f j)) k (nI x) = fun j => nI (va_up f k x j) := by
  funext j
  unfold upd va_up
  by_cases h : j = k
  · rw [if_pos h, if_pos h]
  · rw [if_neg h, if_neg h]
theorem upO (f : Nat → Option Nat) (k : Nat) (x : Option Nat) : upd (fun j => oI (f j)) k (oI x) = fun j => oI (va_up f k x j) := by
  funext j
  unfold upd va_up
  by_cases h : j = k
  · rw [if_pos h, if_pos h]
  · rw [if_neg h, if_neg h]
theorem e_nald (hK : eK E s) (hP : va_P E.1 vwCl ws H) (q0 : Nat) {n : Nat} {f : Nat → Nat} (ha : ws[q0]? = some (a, .inl (E.2.1, n, .inl (fun k => nI (f k))))) (j : Nat) (hj : j < n) (hn : n < 2 ^ 31) (hx : p.tables.exec = Jvm.exec) (hb : c.code = cc) (hdg : decode cc pc = .ok (.iaload, 1))
    (kk : W p l e R s m args below meth c H locs cells slots Q (F0 m (pc + 1) ls (.int (nI (f j)) :: rest))) : W p l e R s m args below meth c H locs cells slots Q (F0 m pc ls (.int (nI j) :: .ref a :: rest)) := e_iald hK hP q0 ha j hj hn hx hb hdg kk
theorem e_oald (hK : eK E s) (hP : va_P E.1 vwCl ws H) (q0 : Nat) {n : Nat} {f : Nat → Option Nat} (ha : ws[q0]? = some (a, .inl (E.2.1, n, .inl (fun k => oI (f k))))) (j : Nat) (hj : j < n) (hn : n < 2 ^ 31) (hx : p.tables.exec = Jvm.exec) (hb : c.code = cc) (hdg : decode cc pc = .ok (.iaload, 1))
    (kk : W p l e R s m args below meth c H locs cells slots Q (F0 m (pc + 1) ls (.int (oI (f j)) :: rest))) : W p l e R s m args below meth c H locs cells slots Q (F0 m pc ls (.int (nI j) :: .ref a :: rest)) := e_iald hK hP q0 ha j hj hn hx hb hdg kk
theorem e_nast (hK : eK E s) (hP : va_P E.1 vwCl ws H) (hD : va_D A ws) (hS : va_S A H0 H locs) (q0 : Nat) {n : Nat} {f : Nat → Nat} (ha : ws[q0]? = some (a, .inl (E.2.1, n, .inl (fun k => nI (f k))))) (j : Nat) (hj : j < n) (hn : n < 2 ^ 31) (hx : p.tables.exec = Jvm.exec) (hb : c.code = cc) {x : Nat} (hdg : decode cc pc = .ok (.iastore, 1))
    (kk : ∀ (H1 : Heap) (locs1 : List Loc), va_P E.1 vwCl (ws.set q0 (a, .inl (E.2.1, n, .inl (fun k => nI (va_up f j x k))))) H1 → va_D A (ws.set q0 (a, .inl (E.2.1, n, .inl (fun k => nI (va_up f j x k))))) → va_S A H0 H1 locs1 → W p l e R s m args below meth c H1 locs1 cells slots Q (F0 m (pc + 1) ls rest)) : W p l e R s m args below meth c H locs cells slots Q (F0 m pc ls (.int (nI x) :: .int (nI j) :: .ref a :: rest)) := by
  refine e_iast hK hP hD hS q0 ha j hj hn hx hb hdg ?_
  rw [upN]
  exact kk
theorem e_oast (hK : eK E s) (hP : va_P E.1 vwCl ws H) (hD : va_D A ws) (hS : va_S A H0 H locs) (q0 : Nat) {n : Nat} {f : Nat → Option Nat} (ha : ws[q0]? = some (a, .inl (E.2.1, n, .inl (fun k => oI (f k))))) (j : Nat) (hj : j < n) (hn : n < 2 ^ 31) (hx : p.tables.exec = Jvm.exec) (hb : c.code = cc) {x : Option Nat} (hdg : decode cc pc = .ok (.iastore, 1))
    (kk : ∀ (H1 : Heap) (locs1 : List Loc), va_P E.1 vwCl (ws.set q0 (a, .inl (E.2.1, n, .inl (fun k => oI (va_up f j x k))))) H1 → va_D A (ws.set q0 (a, .inl (E.2.1, n, .inl (fun k => oI (va_up f j x k))))) → va_S A H0 H1 locs1 → W p l e R s m args below meth c H1 locs1 cells slots Q (F0 m (pc + 1) ls rest)) : W p l e R s m args below meth c H locs cells slots Q (F0 m pc ls (.int (oI x) :: .int (nI j) :: .ref a :: rest)) := by
  refine e_iast hK hP hD hS q0 ha j hj hn hx hb hdg ?_
  rw [upO]
  exact kk
end ENO
