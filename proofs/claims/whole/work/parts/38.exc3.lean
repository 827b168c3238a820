/-! ===== calls that throw: what stands ready, the contract, its start, its calls, its ends ===== -/
abbrev nX1 : String := "java/lang/IndexOutOfBoundsException"
abbrev nX2 : String := "java/lang/IllegalArgumentException"
abbrev uX : List String := ["java/lang/RuntimeException", "java/lang/Exception"]
def eX (A : Nat → Prop) (U : State) (H : Heap) : Prop :=
  vx_Zq Bundle.tN "UNASSIGNED_STACK" Bundle.steD A U H ∧ vx_Zq Bundle.tN "SUPPRESSED_SENTINEL" Bundle.listD A U H ∧ (∃ q : Nat, vk_R RX4 158 "an index outside its bounds" q U) ∧ (∃ q : Nat, vk_R RX4 165 "a number outside its bounds" q U) ∧
  va_Nw (.castable nX1 nX1) U ∧ va_Nw (.castable nX2 nX2) U ∧ va_Nc nX1 nX2 U ∧ va_Nc nX2 nX1 U ∧
  va_Nw (.declares (Bundle.initS "java/lang/RuntimeException")) U ∧ va_Nw (.declares (Bundle.initS "java/lang/Exception")) U ∧ va_Nw (.declares (Bundle.initS Bundle.tN)) U
theorem eX.to {A B : Nat → Prop} {s U : State} {H : Heap} (hW : s.WarmedH U.vm) (hk : ∀ q : Nat, q < s.heap.size → ¬ A q → H[q]? = s.heap[q]?) (hAB : ∀ q, B q → A q) (h : eX A s s.heap) : eX B U H := by
  obtain ⟨h1, h2, ⟨q3, h3⟩, ⟨q4, h4⟩, h5, h6, h7, h8, h9, h10, h11⟩ := h
  exact ⟨vx_Zq.moved hW.alike ((h1.kept hk).narrow hAB), vx_Zq.moved hW.alike ((h2.kept hk).narrow hAB), ⟨q3, vk_R.warm hW h3⟩, ⟨q4, vk_R.warm hW h4⟩, va_Nw.warmC hW h5, va_Nw.warmC hW h6, va_Nc.moved hW.alike h7, va_Nc.moved hW.alike h8, va_Nw.warmD hW h9, va_Nw.warmD hW h10, va_Nw.warmD hW h11⟩
theorem eX.same {A : Nat → Prop} {u U : State} {H : Heap} (hv : u.vm = U.vm) (h : eX A u H) : eX A U H := by
  obtain ⟨h1, h2, ⟨q3, h3⟩, ⟨q4, h4⟩, h5, h6, h7, h8, h9, h10, h11⟩ := h
  have ha : u.vm.Alike U.vm := by rw [hv]; exact Vm.Alike.refl U.vm
  exact ⟨vx_Zq.moved ha h1, vx_Zq.moved ha h2, ⟨q3, vk_R.same hv.symm h3⟩, ⟨q4, vk_R.same hv.symm h4⟩, va_Nw.same rfl hv h5, va_Nw.same rfl hv h6, va_Nc.moved ha h7, va_Nc.moved ha h8, va_Nw.same rfl hv h9, va_Nw.same rfl hv h10, va_Nw.same rfl hv h11⟩
def cPX (E : eT) (W0 : va_W) (sz : Nat) (av : List Value) : Array Value → State → Prop := fun v U => cP E W0 sz av v U ∧ eX (va_A W0 sz) U U.heap
theorem cPX_blind {E : eT} {W0 : va_W} {sz : Nat} {av : List Value} : FrameBlind (cPX E W0 sz av) := by
  intro a U g mk h
  exact ⟨cP_blind a U g mk h.1, eX.same (u := U) rfl h.2⟩
theorem cPX_of {E : eT} {W0 : va_W} {av : List Value} {s : State} {H : Heap} {A B : Nat → Prop} {locs : List Loc} (hK : eK E s) (hX : eX A s s.heap) (hP : va_P E.1 vwCl W0 H) (hD : va_D B W0) (hS : va_S A s.heap H locs) (hF : ∀ q, va_A W0 H.size q → A q) : ∀ U : State, U.heap = H → s.WarmedH U.vm → cPX E W0 H.size av av.toArray U :=
  fun U hU hW => ⟨cP_of hK hP hD U hU hW, by rw [hU]; exact eX.to hW hS.2.1 hF hX⟩
def cN : Array Value → State → Outcome → State → Prop := fun _ _ _ _ => False
def cXC (E : eT) (W0 : va_W) (A : Nat → Prop) (cls : String) : String → State → State → Prop := fun n st t => n = cls ∧ va_P E.1 vwCl W0 t.heap ∧ va_F A st t
/-- THE CONTRACT of a call that throws a 'cls': the world stays -/
def cX (l : Launch) (y : MethodName) (ws : List Cond) (rm : Room) (E : eT) (sz : Nat) (av : List Value) (W0 : va_W) (cls : String) : Prop :=
  vx_Met l y ws rm (cPX E W0 sz av) cN (cXC E W0 (va_A W0 sz) cls) rm.cells rm.slots (va_A W0 sz)
theorem cX_intro {l : Launch} {y : MethodName} {ws ws' : List Cond} {rm : Room} {E : eT} {sz : Nat} {av : List Value} {W0 : va_W} {cls : String} {cc : ByteArray} {maxL : Nat} {ret : Option FieldType}
    (hy : plainName y.cls = true) (hw : ws = Cond.code y cc maxL ret :: ws') (hn : (lg_sl av).length ≤ maxL)
    (body : ∀ (p : Program) (e : Env) (s : State) (m : MethodId) (args : Array Value) (below : List Frame) (meth : Method) (c : Code), p.tables.exec = Jvm.exec → c.code = cc → meth.sig.returnType = ret → c.maxLocals = maxL → s.vm.findClass y.cls = some m.cls → meth.locks = false →
      (∀ w ∈ ws, w.before args s = true) → meth.name = y.name → (∀ x ∈ c.exceptionTable.toList, False) → eK E s → s.heap.size = sz → va_P E.1 vwCl W0 s.heap → ∀ A : Nat → Prop, va_D A W0 → (∀ q : Nat, s.heap.size ≤ q → A q) → eX A s s.heap → ∀ Q : State → Prop, Q = vx_MQ below cN (cXC E W0 A cls) args s rm.cells rm.slots A → ∀ ls : Array Slot, lv_has ls maxL (lv_args 0 av) →
      W p l e rm s m args below meth c s.heap [] 0 0 Q (F0 m 0 ls [])) : cX l y ws rm E sz av W0 cls := by
  refine vx_ofW (cc := cc) (maxL := maxL) (ret := ret) hy hw ?_
  intro p e s m args below meth c s₁ B hml ht hv
  obtain ⟨⟨rfl, hsz, hP, hK, hD⟩, hX⟩ := hv
  rw [lg_entry_eq]
  have hD1 : va_D (va_A W0 sz) W0 := hD.self
  exact body p e s m _ below meth c B.exec B.bytes B.returns hml (findClass_of_methodNamed B.named) B.notSynchronized (atoms_spec (ws := ws) B.pre) (name_of_methodNamed B.named B.method).1 ht hK hsz hP _ hD1 (fun q h => Or.inr (by omega)) hX _ rfl _ (lv_entry av hn)
/-- the contract of a method that has the throws' needs at hand, but returns -/
def cMX {S : Type} (l : Launch) (y : MethodName) (ws : List Cond) (rm : Room) (E : eT) (sz : Nat) (av : List Value) (W0 : va_W) (rv : S → Option Value) (post : S → Prop) (W' : S → va_W) : Prop :=
  Met l y ws rm (cPX E W0 sz av) (cQ E (va_A W0 sz) rv post W') rm.cells rm.slots (va_A W0 sz)
theorem cMX_introH {S : Type} {l : Launch} {y : MethodName} {ws ws' : List Cond} {rm : Room} {E : eT} {sz : Nat} {av : List Value} {W0 : va_W} {rv : S → Option Value} {post : S → Prop} {W' : S → va_W} {cc : ByteArray} {maxL : Nat} {ret : Option FieldType} {hh : List (Nat × Nat × Nat × Nat)}
    (hy : plainFor y = true) (hw : ws = Cond.codeWith y cc maxL ret hh :: ws') (hn : (lg_sl av).length ≤ maxL)
    (body : ∀ (p : Program) (e : Env) (s : State) (m : MethodId) (args : Array Value) (below : List Frame) (meth : Method) (c : Code), p.tables.exec = Jvm.exec → c.code = cc → meth.sig.returnType = ret → c.maxLocals = maxL → s.vm.findClass y.cls = some m.cls → meth.locks = false →
      (∀ w ∈ ws, w.before args s = true) → meth.name = y.name → c.exceptionTable.toList = tableOf hh → eK E s → s.heap.size = sz → va_P E.1 vwCl W0 s.heap → ∀ A : Nat → Prop, va_D A W0 → (∀ q : Nat, s.heap.size ≤ q → A q) → eX A s s.heap → ∀ Q : State → Prop, Q = MQ below (cQ E A rv post W') args s rm.cells rm.slots A → ∀ ls : Array Slot, lv_has ls maxL (lv_args 0 av) →
      W p l e rm s m args below meth c s.heap [] 0 0 Q (F0 m 0 ls [])) : cMX l y ws rm E sz av W0 rv post W' := by
  unfold cMX
  refine MetFree.of_bodySF (code := cc) (maxLocals := maxL) (ret := ret) hy ?_ ?_
  · intro args s m h hn
    obtain ⟨m9, meth, c, hn9, h1, h2, h3, h4, -, h5, h6, -⟩ := Cond.codeWith_spec (atoms_spec (ws := ws) h _ (by rw [hw]; exact List.mem_cons_self))
    cases hn.symm.trans hn9
    exact ⟨meth, c, h1, h2, h3, h4, h5, h6⟩
  · intro p e s m args below meth c s₁ B hml hP _
    have hh0 : s₁.heap = s.heap := by rw [B.state]; rfl
    have htab : c.exceptionTable.toList = tableOf hh := vx_table (x := y) B (atoms_spec (ws := ws) B.pre _ (by rw [hw]; exact List.mem_cons_self))
    obtain ⟨⟨rfl, hsz, hPW, hK, hD⟩, hX⟩ := hP
    have hD1 : va_D (va_A W0 sz) W0 := hD.self
    have h9 := body p e s m _ below meth c B.exec B.bytes B.returns hml (findClass_of_methodNamed B.named) B.notSynchronized (atoms_spec (ws := ws) B.pre) (name_of_methodNamed B.named B.method).1 htab hK hsz hPW _ hD1 (fun q h => Or.inr (by omega)) hX _ rfl _ (lv_entry av hn)
    rw [← lg_entry_eq] at h9
    obtain ⟨t, a1, o, b1, b2, b3⟩ := h9 s₁ hh0 (Stand.of_body B)
    exact ⟨t, o, a1, b1, b2, ⟨b3.1, b3.2⟩⟩
section XCALL
variable {p : Program} {l : Launch} {e : Env} {R : Room} {s : State} {m : MethodId} {args : Array Value} {below : List Frame} {meth : Method} {c : Code} {H : Heap} {locs : List Loc} {cells slots mc ms : Nat} {Q : State → Prop} {E : eT} {A : Nat → Prop} {ws wc W0 : va_W} {cc : ByteArray} {pc : Nat} {ls : Array Slot} {st0 rest : List Value}
variable {y : MethodName} {bytes : ByteArray} {maxL nL n index : Nat} {ret : Option FieldType} {wsY : List Cond} {rm : Room} {Ts : List Cond} {own C cls : String} {b : Addr} {As : List Value} {a : Array Value}
/-- behind a call that has thrown -/
theorem e_backX (hr : vx_Run p l e R s m args below meth c H locs cells slots mc ms (F0 m pc ls st0) rest (cN a) (cXC E wc (va_A wc H.size) cls) (va_A wc H.size)) (hP : va_P E.1 vwCl ws H) (hD : va_D A ws) (hS : va_S A s.heap H locs) (hA : ∀ q : Nat, s.heap.size ≤ q → A q)
    (isC isR : List Nat) (hnC : va_nd isC = true) (hC : isC.map (fun i => ws[i]?) = wc.map some) (hR : isR.map (fun i => ws[i]?) = (isR.filterMap (fun i => ws[i]?)).map some) (hn : va_nd isR = true) (hdis : ∀ i ∈ isR, i ∉ isC)
    (kx : ∀ (ce : Cell) (q9 : Addr) (H1 : Heap) (locs1 : List Loc), H.size ≤ H1.size → va_P E.1 vwCl (isR.filterMap (fun i => ws[i]?) ++ wc) H1 → va_D A (isR.filterMap (fun i => ws[i]?) ++ wc) → va_S A s.heap H1 locs1 → H1[q9]? = some ce → ce.vm = .none → s.vm.findClass cls = some ce.cls → vx_W p l e R s m args below meth c H1 locs1 (cells + mc) (slots + ms) Q (F0 m pc ls rest) q9) : W p l e R s m args below meth c H locs cells slots Q (F0 m pc ls st0) := by
  intro T hT X
  have hDc : va_D A wc := hD.sub isC hnC hC
  have hF := va_free (wc := wc) hD hS hA isC hC
  rcases hr T hT X with ⟨v, st₀, t, T', L, h0, X', hL, e1, e2, hv, st⟩ | ⟨q, st₀, t, T', L, n9, ce, h0, X', hL, e1, e2, ⟨hn9, hPu, hz, hk⟩, hce, hcv, hcl, st⟩
  · exact False.elim hv
  · rw [hn9] at hcl
    rw [h0] at hz hk
    rw [← e1] at hz hPu
    have hk' : ∀ q : Nat, q < H.size → ¬ va_A wc H.size q → T'.heap[q]? = H[q]? := fun q h1 h2 => by rw [e1]; exact hk q h1 h2
    obtain ⟨hP1, hD1⟩ := va_join (wr := isR.filterMap (fun i => ws[i]?)) hP hD isC isR hC hR hn hdis hk' hF hPu hDc.self
    obtain ⟨t2, a1, b1⟩ := kx ce q T'.heap (locs ++ L) hz hP1 hD1
      ⟨Nat.le_trans hS.1 hz, fun q h1 h2 => by rw [hk' q (Nat.lt_of_lt_of_le h1 hS.1) (fun z => h2 (hF q z))]; exact hS.2.1 q h1 h2, fun q hq => by
        rcases List.mem_append.mp hq with h | h
        · exact hS.2.2 q h
        · exact hF _ (hL q h)⟩ (by rw [e1]; exact hce) hcv hcl T' rfl X'
    exact ⟨t2, st.trans a1, b1⟩
/-- invokestatic of what throws -/
theorem e_callSX (F : CallFix p m c cc nL s args Ts own) (hK : eK E s) (hX : eX A s s.heap) (hP : va_P E.1 vwCl ws H) (hD : va_D A ws) (hS : va_S A s.heap H locs) (hA : ∀ q : Nat, s.heap.size ≤ q → A q) (hl : ls.size = nL)
    (hM : cX l y wsY rm E H.size (As) wc cls) (cw : CallB R s args own index y bytes maxL ret wsY rm rm.cells rm.slots n ∧ (Cond.static y).before args s = true)
    (isC isR : List Nat) (hnC : va_nd isC = true) (hC : isC.map (fun i => ws[i]?) = wc.map some) (hR : isR.map (fun i => ws[i]?) = (isR.filterMap (fun i => ws[i]?)).map some) (hn : va_nd isR = true) (hdis : ∀ i ∈ isR, i ∉ isC)
    (hst : st0 = As.reverse ++ rest) (hln : As.length = n) (hcat : (rest.map fun v => v.category).sum ≤ 8) (hdg : decode cc pc = .ok (.invokestatic index, 3)) (hf : cells + rm.cells ≤ R.cells ∧ slots + rm.slots ≤ R.slots)
    (kx : ∀ (ce : Cell) (q9 : Addr) (H1 : Heap) (locs1 : List Loc), H.size ≤ H1.size → va_P E.1 vwCl (isR.filterMap (fun i => ws[i]?) ++ wc) H1 → va_D A (isR.filterMap (fun i => ws[i]?) ++ wc) → va_S A s.heap H1 locs1 → H1[q9]? = some ce → ce.vm = .none → s.vm.findClass cls = some ce.cls → vx_W p l e R s m args below meth c H1 locs1 (cells + rm.cells) (slots + rm.slots) Q (F0 m pc ls rest) q9) : W p l e R s m args below meth c H locs cells slots Q (F0 m pc ls st0) := by
  subst hst
  have hPc : va_P E.1 vwCl wc H := e_sub hP isC hC
  have hDc : va_D A wc := hD.sub isC hnC hC
  have hF := va_free (wc := wc) hD hS hA isC hC
  exact e_backX (vx_runS F hM cw ⟨cPX_blind, cPX_of hK hX hPc hDc hS hF⟩ rfl hln hl rfl (lv_room hcat) hdg hf) hP hD hS hA isC isR hnC hC hR hn hdis kx
/-- invokevirtual of what throws -/
theorem e_callVX (F : CallFix p m c cc nL s args Ts own) (hK : eK E s) (hX : eX A s s.heap) (hP : va_P E.1 vwCl ws H) (hD : va_D A ws) (hS : va_S A s.heap H locs) (hA : ∀ q : Nat, s.heap.size ≤ q → A q) (hl : ls.size = nL)
    (hM : cX l y wsY rm E H.size (.ref b :: As) wc cls) (cw : CallW R s args own C index y bytes maxL ret wsY rm rm.cells rm.slots n)
    (isC isR : List Nat) (hnC : va_nd isC = true) (hC : isC.map (fun i => ws[i]?) = wc.map some) (hR : isR.map (fun i => ws[i]?) = (isR.filterMap (fun i => ws[i]?)).map some) (hn : va_nd isR = true) (hdis : ∀ i ∈ isR, i ∉ isC)
    {q0 ci : Nat} {fs : List Value} {T : u_T} {N : Nat} (he : ws[q0]? = some (b, .inr (ci, fs))) (hc : vwCl[ci]? = some (C, T, N))
    (hst : st0 = As.reverse ++ .ref b :: rest) (hln : As.length = n) (hcat : (rest.map fun v => v.category).sum ≤ 8) (hdg : decode cc pc = .ok (.invokevirtual index, 3)) (hf : cells + rm.cells ≤ R.cells ∧ slots + rm.slots ≤ R.slots)
    (kx : ∀ (ce : Cell) (q9 : Addr) (H1 : Heap) (locs1 : List Loc), H.size ≤ H1.size → va_P E.1 vwCl (isR.filterMap (fun i => ws[i]?) ++ wc) H1 → va_D A (isR.filterMap (fun i => ws[i]?) ++ wc) → va_S A s.heap H1 locs1 → H1[q9]? = some ce → ce.vm = .none → s.vm.findClass cls = some ce.cls → vx_W p l e R s m args below meth c H1 locs1 (cells + rm.cells) (slots + rm.slots) Q (F0 m pc ls rest) q9) : W p l e R s m args below meth c H locs cells slots Q (F0 m pc ls st0) := by
  subst hst
  have hPc : va_P E.1 vwCl wc H := e_sub hP isC hC
  have hDc : va_D A wc := hD.sub isC hnC hC
  have hF := va_free (wc := wc) hD hS hA isC hC
  exact e_backX (vx_runV F hM cw ⟨cPX_blind, va_recv hK.1 hP hc he, cPX_of hK hX hPc hDc hS hF⟩ rfl hln hl rfl (lv_room hcat) hdg hf) hP hD hS hA isC isR hnC hC hR hn hdis kx
/-- invokestatic of a method with a table -/
theorem e_callSH {S : Type} {rv : S → Option Value} {post : S → Prop} {W' : S → va_W} {hh : List (Nat × Nat × Nat × Nat)} (F : CallFix p m c cc nL s args Ts own) (hK : eK E s) (hX : eX A s s.heap) (hP : va_P E.1 vwCl ws H) (hD : va_D A ws) (hS : va_S A s.heap H locs) (hA : ∀ q : Nat, s.heap.size ≤ q → A q) (hl : ls.size = nL)
    (hM : cMX l y wsY rm E H.size (As) wc rv post W') (cw : vx_CSW R s args own index y bytes maxL ret hh wsY rm rm.cells rm.slots n)
    (isC isR : List Nat) (hnC : va_nd isC = true) (hC : isC.map (fun i => ws[i]?) = wc.map some) (hR : isR.map (fun i => ws[i]?) = (isR.filterMap (fun i => ws[i]?)).map some) (hn : va_nd isR = true) (hdis : ∀ i ∈ isR, i ∉ isC)
    (hst : st0 = As.reverse ++ rest) (hln : As.length = n) (hcat : (rest.map fun v => v.category).sum ≤ 8) (hdg : decode cc pc = .ok (.invokestatic index, 3)) (hf : cells + rm.cells ≤ R.cells ∧ slots + rm.slots ≤ R.slots)
    (kk : ∀ (u : S) (H1 : Heap) (locs1 : List Loc), post u → H.size ≤ H1.size → va_P E.1 vwCl (isR.filterMap (fun i => ws[i]?) ++ W' u) H1 → va_D A (isR.filterMap (fun i => ws[i]?) ++ W' u) → va_S A s.heap H1 locs1 → W p l e R s m args below meth c H1 locs1 (cells + rm.cells) (slots + rm.slots) Q (F0 m (pc + 3) ls ((rv u).toList ++ rest))) : W p l e R s m args below meth c H locs cells slots Q (F0 m pc ls st0) := by
  subst hst
  have hPc : va_P E.1 vwCl wc H := e_sub hP isC hC
  have hDc : va_D A wc := hD.sub isC hnC hC
  have hF := va_free (wc := wc) hD hS hA isC hC
  exact e_back (vx_runSW F hM cw ⟨cPX_blind, cPX_of hK hX hPc hDc hS hF⟩ rfl hln hl rfl (lv_room hcat) hdg hf) hP hD hS hA isC isR hC hR hn hdis kk
/-- it goes on to the caller -/
theorem e_outX {ce : Cell} {q9 : Addr} (hQ : Q = vx_MQ below cN (cXC E W0 A cls) args s mc ms A) (ht : ∀ x ∈ c.exceptionTable.toList, False) (hlocks : meth.locks = false) (hP : va_P E.1 vwCl W0 H) (hS : va_S A s.heap H locs) (hcell : H[q9]? = some ce) (hv : ce.vm = .none) (hcl : s.vm.findClass cls = some ce.cls) (hc : cells ≤ mc) (hs : slots ≤ ms) : vx_W p l e R s m args below meth c H locs cells slots Q (F0 m pc ls rest) q9 := by
  subst hQ
  exact vx_out (fun x h => (ht x h).elim) hlocks hcell hv hcl (fun t ht _ => ⟨rfl, by rw [ht]; exact hP, hS.F ht⟩) hS.2.2 hc hs
/-- it is thrown here -/
theorem e_thr {text : String} {ik is ic : Nat} (hl : l.stackTraces = false) (hQ : Q = vx_MQ below cN (cXC E W0 A cls) args s mc ms A) (hx : p.tables.exec = Jvm.exec) (hb : c.code = cc) (hown : s.vm.findClass own = some m.cls) (ht : ∀ x ∈ c.exceptionTable.toList, False) (hlocks : meth.locks = false) (hP : va_P E.1 vwCl W0 H) (hS : va_S A s.heap H locs) (hX : eX A s s.heap) (hsize : ls.size = c.maxLocals)
    (hcls : Bundle.fit cls = true) (hk : (Cond.classLink own ik cls).before args s = true) (hini : (Cond.initialized cls).before args s = true) (hstr : ∃ q : Nat, vk_R own is text q s) (hat : ∀ w ∈ vx_atS own ic cls uX, w.before args s = true)
    (hgood : ∀ w ∈ Cond.classLink own ik cls :: Cond.initialized cls :: vx_atS own ic cls uX, vx_ot w = true)
    (d0 : decode cc pc = .ok (.new ik, 3)) (d3 : decode cc (pc + 3) = .ok (.dup, 1)) (d4 : decode cc (pc + 4) = .ok (.ldc is, 2)) (d6 : decode cc (pc + 6) = .ok (.invokespecial ic, 3)) (d9 : decode cc (pc + 9) = .ok (.athrow, 1))
    (hRf : 5 < R.frames) (hRl : (rest.map fun v => v.category).sum + 82 ≤ R.locals) (hRc : cells + 1 ≤ R.cells) (hRs : slots + 6 ≤ R.slots) (hc : cells + 1 ≤ mc) (hs : slots + 6 ≤ ms) : W p l e R s m args below meth c H locs cells slots Q (F0 m pc ls rest) := by
  subst hQ
  obtain ⟨sa, hsa⟩ := hstr
  have h82 : 13 * (uX.length + 1) + 43 = 82 := by decide +kernel
  have hF9 : uX.length + 3 < R.frames := by
    have h2 : uX.length = 2 := rfl
    rw [h2]
    exact hRf
  have hL9 : (rest.map fun v => v.category).sum + (13 * (uX.length + 1) + 43) ≤ R.locals := by
    rw [h82]
    exact hRl
  exact vx_throwS hx hb hl (A := A) hown hcls (names := uX) (by decide +kernel) hk hini hsa hat hgood hX.1 hX.2.1 hS hsize d0 d3 d4 d6 d9 (fun x h => (ht x h).elim) hF9 hL9 hRc hRs hlocks
    (fun t _ hz hk => ⟨rfl, hP.kept (fun k q h => hk _ (vx_lt hP h)), ⟨Nat.le_trans hS.1 hz, fun q h1 h2 => by rw [hk q (Nat.lt_of_lt_of_le h1 hS.1)]; exact hS.2.1 q h1 h2⟩⟩) hS.2.2 hc hs
end XCALL
