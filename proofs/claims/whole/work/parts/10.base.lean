/-! ===== the layer that all methods stand on: one shape of contract, its start, its ends, its calls ===== -/
/-- the tables' part of a run: classes and slots, the array types of int, boolean, long -/
abbrev eT : Type := va_G × ClassId × ClassId × ClassId
abbrev eTy (E : eT) : List (ClassId × FieldType) := [(E.2.1, .int), (E.2.2.1, .boolean), (E.2.2.2, .long)]
def eK (E : eT) (U : State) : Prop := va_K E.1 vwCl (eTy E) U ∧ va_Nw (.methodLinkNest RX0 85 yX4_neighbour RX4) U ∧ va_Nw (.methodLinkNest RX2 40 yX4_neighbour RX4) U ∧ va_Nw (.methodLinkNest RX4 35 yX2_init RX4) U ∧ va_Nw (.castable "[I" "java/lang/Cloneable") U
theorem eK.warm {E : eT} {s U : State} (hW : s.WarmedH U.vm) (h : eK E s) : eK E U := ⟨va_K.moved hW.alike h.1, va_Nw.warmM hW h.2.1, va_Nw.warmM hW h.2.2.1, va_Nw.warmM hW h.2.2.2.1, va_Nw.warmC hW h.2.2.2.2⟩
theorem eK.same {E : eT} {s U : State} (hvm : s.vm = U.vm) (h : eK E s) : eK E U := ⟨va_K.moved (by rw [hvm]; exact Vm.Alike.refl U.vm) h.1, va_Nw.same rfl hvm h.2.1, va_Nw.same rfl hvm h.2.2.1, va_Nw.same rfl hvm h.2.2.2.1, va_Nw.same rfl hvm h.2.2.2.2⟩
def cP (E : eT) (W0 : va_W) (sz : Nat) (av : List Value) : Array Value → State → Prop := fun v U => v = av.toArray ∧ U.heap.size = sz ∧ va_P E.1 vwCl W0 U.heap ∧ eK E U ∧ va_D (fun _ => True) W0
def cQ {S : Type} (E : eT) (A : Nat → Prop) (rv : S → Option Value) (post : S → Prop) (W' : S → va_W) : Array Value → State → Outcome → State → Prop := fun _ st oc t => (∃ u : S, oc = .returned (rv u) ∧ post u ∧ va_P E.1 vwCl (W' u) t.heap ∧ va_D A (W' u)) ∧ va_F A st t
/-- THE CONTRACT: over the world W0 it returns 'rv u' for some u of 'post', and W0 has become 'W' u' -/
def cM {S : Type} (l : Launch) (y : MethodName) (ws : List Cond) (rm : Room) (E : eT) (sz : Nat) (av : List Value) (W0 : va_W) (rv : S → Option Value) (post : S → Prop) (W' : S → va_W) : Prop :=
  Met l y ws rm (cP E W0 sz av) (cQ E (va_A W0 sz) rv post W') rm.cells rm.slots (va_A W0 sz)
theorem cP_blind {E : eT} {W0 : va_W} {sz : Nat} {av : List Value} : FrameBlind (cP E W0 sz av) := by
  intro a U g mk h
  obtain ⟨h1, h2, h3, h4, h5⟩ := h
  exact ⟨h1, h2, h3, eK.same rfl h4, h5⟩
theorem cP_of {E : eT} {W0 : va_W} {av : List Value} {s : State} {H : Heap} {A : Nat → Prop} (hK : eK E s) (hP : va_P E.1 vwCl W0 H) (hD : va_D A W0) : ∀ U : State, U.heap = H → s.WarmedH U.vm → cP E W0 H.size av av.toArray U :=
  fun U hU hW => ⟨rfl, by rw [hU], by rw [hU]; exact hP, eK.warm hW hK, hD.weaken (fun _ _ _ _ => trivial)⟩
/-- the kit's Met.ofW, for a method of any class that is no native one's -/
theorem Met_ofW {l : Launch} {y : MethodName} {ws ws' : List Cond} {rm : Room} {Pc : Array Value → State → Prop} {Qc : Array Value → State → Outcome → State → Prop} {mc ms : Nat} {free : Addr → Prop} {cc : ByteArray} {maxL : Nat} {ret : Option FieldType}
    (hy : plainFor y = true) (hw : ws = Cond.code y cc maxL ret :: ws')
    (body : ∀ p e s m args below meth c s₁, BodyLoose p l y (headSpec ws rm) cc maxL ret e s m args below meth c s₁ → c.maxLocals = maxL → Pc args s →
      W p l e (headSpec ws rm).room s m args below meth c s.heap [] 0 0 (MQ below Qc args s mc ms free) (entryFrame m args maxL)) : Met l y ws rm Pc Qc mc ms free := by
  refine MetFree.of_bodySF (code := cc) (maxLocals := maxL) (ret := ret) hy ?_ ?_
  · intro args s m h hn
    obtain ⟨meth, c, h1, h2, h3, h4, h5, h6, -, -⟩ := Cond.code_spec hn (atoms_spec (ws := ws) h _ (by rw [hw]; exact List.mem_cons_self))
    exact ⟨meth, c, h1, h2, h3, h4, h5, h6⟩
  · intro p e s m args below meth c s₁ B hml hP _
    have hh0 : s₁.heap = s.heap := by rw [B.state]; rfl
    obtain ⟨t, a1, o, b1, b2, b3⟩ := body p e s m args below meth c s₁ B hml hP s₁ hh0 (Stand.of_body B)
    exact ⟨t, o, a1, b1, b2, ⟨b3.1, b3.2⟩⟩
theorem cM_intro {S : Type} {l : Launch} {y : MethodName} {ws ws' : List Cond} {rm : Room} {E : eT} {sz : Nat} {av : List Value} {W0 : va_W} {rv : S → Option Value} {post : S → Prop} {W' : S → va_W} {cc : ByteArray} {maxL : Nat} {ret : Option FieldType}
    (hy : plainFor y = true) (hw : ws = Cond.code y cc maxL ret :: ws') (hn : (lg_sl av).length ≤ maxL)
    (body : ∀ (p : Program) (e : Env) (s : State) (m : MethodId) (args : Array Value) (below : List Frame) (meth : Method) (c : Code), p.tables.exec = Jvm.exec → c.code = cc → meth.sig.returnType = ret → c.maxLocals = maxL → s.vm.findClass y.cls = some m.cls → meth.locks = false →
      (∀ w ∈ ws, w.before args s = true) → meth.name = y.name → eK E s → s.heap.size = sz → va_P E.1 vwCl W0 s.heap → ∀ A : Nat → Prop, va_D A W0 → (∀ q : Nat, s.heap.size ≤ q → A q) → ∀ Q : State → Prop, Q = MQ below (cQ E A rv post W') args s rm.cells rm.slots A → ∀ ls : Array Slot, lv_has ls maxL (lv_args 0 av) →
      W p l e rm s m args below meth c s.heap [] 0 0 Q (F0 m 0 ls [])) : cM l y ws rm E sz av W0 rv post W' := by
  refine Met_ofW (cc := cc) (maxL := maxL) (ret := ret) hy hw ?_
  intro p e s m args below meth c s₁ B hml hv
  obtain ⟨rfl, hsz, hP, hK, hD⟩ := hv
  rw [lg_entry_eq]
  have hD1 : va_D (va_A W0 sz) W0 := hD.self
  exact body p e s m _ below meth c B.exec B.bytes B.returns hml (findClass_of_methodNamed B.named) B.notSynchronized (atoms_spec (ws := ws) B.pre) (name_of_methodNamed B.named B.method).1 hK hsz hP _ hD1 (fun q h => Or.inr (by omega)) _ rfl _ (lv_entry av hn)
section EENDS
variable {S : Type} {p : Program} {l : Launch} {e : Env} {R : Room} {s : State} {m : MethodId} {args : Array Value} {below : List Frame} {meth : Method} {c : Code} {H : Heap} {locs : List Loc} {cells slots mc ms : Nat} {Q : State → Prop} {E : eT} {A : Nat → Prop} {rv : S → Option Value} {post : S → Prop} {W' : S → va_W} {cc : ByteArray} {pc : Nat} {ls : Array Slot}
theorem e_q {u : S} (hP : va_P E.1 vwCl (W' u) H) (hD : va_D A (W' u)) (hS : va_S A s.heap H locs) (hpost : post u) {v : Option Value} (hrv : rv u = v) : ∀ t : State, t.heap = H → s.WarmedH t.vm → cQ E A rv post W' args s (.returned v) t :=
  fun t ht _ => ⟨⟨u, by rw [hrv], hpost, by rw [ht]; exact hP, hD⟩, hS.F ht⟩
theorem e_iret (u : S) (hQ : Q = MQ below (cQ E A rv post W') args s mc ms A) (hx : p.tables.exec = Jvm.exec) (hb : c.code = cc) (hr : meth.sig.returnType = some .int) (hlocks : meth.locks = false) (hP : va_P E.1 vwCl (W' u) H) (hD : va_D A (W' u)) (hS : va_S A s.heap H locs) {v : Int32}
    (hdg : decode cc pc = .ok (.ireturn, 1)) (hrv : rv u = some (.int v)) (hc : cells ≤ mc) (hs : slots ≤ ms) (hpost : post u) : W p l e R s m args below meth c H locs cells slots Q (F0 m pc ls [.int v]) := by
  subst hQ
  refine W.widen hc hs ?_
  exact W.iret hx hb hr (e_q hP hD hS hpost hrv) hS.2.2 hdg hlocks
theorem e_zret (u : S) (hQ : Q = MQ below (cQ E A rv post W') args s mc ms A) (hx : p.tables.exec = Jvm.exec) (hb : c.code = cc) (hr : meth.sig.returnType = some .boolean) (hlocks : meth.locks = false) (hP : va_P E.1 vwCl (W' u) H) (hD : va_D A (W' u)) (hS : va_S A s.heap H locs) {v : Int32}
    (hdg : decode cc pc = .ok (.ireturn, 1)) (hrv : rv u = some (.int v)) (hc : cells ≤ mc) (hs : slots ≤ ms) (hn : narrow .boolean (.int v) = .int v) (hpost : post u) : W p l e R s m args below meth c H locs cells slots Q (F0 m pc ls [.int v]) := by
  subst hQ
  refine W.widen hc hs ?_
  exact W.zret hx hb hr hn (e_q hP hD hS hpost hrv) hS.2.2 hdg hlocks
theorem e_vret (u : S) (hQ : Q = MQ below (cQ E A rv post W') args s mc ms A) (hx : p.tables.exec = Jvm.exec) (hb : c.code = cc) (hr : meth.sig.returnType = none) (hlocks : meth.locks = false) (hP : va_P E.1 vwCl (W' u) H) (hD : va_D A (W' u)) (hS : va_S A s.heap H locs)
    (hdg : decode cc pc = .ok (.return_, 1)) (hrv : rv u = none) (hc : cells ≤ mc) (hs : slots ≤ ms) (hpost : post u) : W p l e R s m args below meth c H locs cells slots Q (F0 m pc ls []) := by
  subst hQ
  refine W.widen hc hs ?_
  exact W.vret hx hb hr (e_q hP hD hS hpost hrv) hS.2.2 hdg hlocks
theorem e_lret (u : S) (hQ : Q = MQ below (cQ E A rv post W') args s mc ms A) (hx : p.tables.exec = Jvm.exec) (hb : c.code = cc) (hr : meth.sig.returnType = some .long) (hlocks : meth.locks = false) (hP : va_P E.1 vwCl (W' u) H) (hD : va_D A (W' u)) (hS : va_S A s.heap H locs) {v : Int64}
    (hdg : decode cc pc = .ok (.lreturn, 1)) (hrv : rv u = some (.long v)) (hc : cells ≤ mc) (hs : slots ≤ ms) (hpost : post u) : W p l e R s m args below meth c H locs cells slots Q (F0 m pc ls [.long v]) := by
  subst hQ
  refine W.widen hc hs ?_
  exact W.lret hx hb hr (e_q hP hD hS hpost hrv) hS.2.2 hdg hlocks
theorem e_dret (u : S) (hQ : Q = MQ below (cQ E A rv post W') args s mc ms A) (hx : p.tables.exec = Jvm.exec) (hb : c.code = cc) (hr : meth.sig.returnType = some .double) (hlocks : meth.locks = false) (hP : va_P E.1 vwCl (W' u) H) (hD : va_D A (W' u)) (hS : va_S A s.heap H locs) {v : UInt64}
    (hdg : decode cc pc = .ok (.dreturn, 1)) (hrv : rv u = some (.double v)) (hc : cells ≤ mc) (hs : slots ≤ ms) (hpost : post u) : W p l e R s m args below meth c H locs cells slots Q (F0 m pc ls [.double v]) := by
  subst hQ
  refine W.widen hc hs ?_
  exact W.dret hx hb hr (e_q hP hD hS hpost hrv) hS.2.2 hdg hlocks
end EENDS
section ECALL
variable {S : Type} {p : Program} {l : Launch} {e : Env} {R : Room} {s : State} {m : MethodId} {args : Array Value} {below : List Frame} {meth : Method} {c : Code} {H H0 : Heap} {locs : List Loc} {cells slots mc ms : Nat} {Q : State → Prop} {E : eT} {A : Nat → Prop} {rv : S → Option Value} {post : S → Prop} {W' : S → va_W} {ws wc : va_W} {cc : ByteArray} {pc : Nat} {ls : Array Slot} {st0 rest : List Value} {a : Array Value}
/-- behind a call: what was not handed over (by places isR), then the callee's world -/
theorem e_back (hr : va_Run p l e R s m args below meth c H locs cells slots mc ms (F0 m pc ls st0) rest (cQ E (va_A wc H.size) rv post W' a) (va_A wc H.size)) (hP : va_P E.1 vwCl ws H) (hD : va_D A ws) (hS : va_S A H0 H locs) (hA : ∀ q : Nat, H0.size ≤ q → A q)
    (isC isR : List Nat) (hC : isC.map (fun i => ws[i]?) = wc.map some) (hR : isR.map (fun i => ws[i]?) = (isR.filterMap (fun i => ws[i]?)).map some) (hn : va_nd isR = true) (hdis : ∀ i ∈ isR, i ∉ isC)
    (kk : ∀ (u : S) (H1 : Heap) (locs1 : List Loc), post u → H.size ≤ H1.size → va_P E.1 vwCl (isR.filterMap (fun i => ws[i]?) ++ W' u) H1 → va_D A (isR.filterMap (fun i => ws[i]?) ++ W' u) → va_S A H0 H1 locs1 → W p l e R s m args below meth c H1 locs1 (cells + mc) (slots + ms) Q (F0 m (pc + 3) ls ((rv u).toList ++ rest))) : W p l e R s m args below meth c H locs cells slots Q (F0 m pc ls st0) := by
  intro T hT X
  have hF := va_free (wc := wc) hD hS hA isC hC
  obtain ⟨v, st₀, t, T', L, h0, X', hL, e1, e2, ⟨⟨u, hv, hp, hPu, hDu⟩, hz, hk⟩, st⟩ := hr T hT X
  cases hv
  rw [h0] at hz hk
  rw [← e1] at hz hPu
  have hk' : ∀ q : Nat, q < H.size → ¬ va_A wc H.size q → T'.heap[q]? = H[q]? := fun q h1 h2 => by rw [e1]; exact hk q h1 h2
  obtain ⟨hP1, hD1⟩ := va_join (wr := isR.filterMap (fun i => ws[i]?)) hP hD isC isR hC hR hn hdis hk' hF hPu hDu
  obtain ⟨t2, a1, b1⟩ := kk u T'.heap (locs ++ L) hp hz hP1 hD1
    ⟨Nat.le_trans hS.1 hz, fun q h1 h2 => by rw [hk' q (Nat.lt_of_lt_of_le h1 hS.1) (fun z => h2 (hF q z))]; exact hS.2.1 q h1 h2, fun q hq => by
      rcases List.mem_append.mp hq with h | h
      · exact hS.2.2 q h
      · exact hF _ (hL q h)⟩ T' rfl X'
  exact ⟨t2, st t2 a1, b1⟩
variable {y : MethodName} {bytes : ByteArray} {maxL nL n index : Nat} {ret : Option FieldType} {wsY : List Cond} {rm : Room} {Ts : List Cond} {own C host : String} {b : Addr} {As : List Value}
theorem e_sub (hP : va_P E.1 vwCl ws H) (isC : List Nat) (hC : isC.map (fun i => ws[i]?) = wc.map some) : va_P E.1 vwCl wc H := by
  intro k q hk
  have h1 : (isC.map (fun i => ws[i]?))[k]? = some (some q) := by rw [hC, List.getElem?_map, hk]; rfl
  rw [List.getElem?_map] at h1
  cases hi : isC[k]? with
  | none => rw [hi] at h1; cases h1
  | some i => rw [hi] at h1; exact hP i q (Option.some.inj h1)
/-- invokevirtual -/
theorem e_callV (F : CallFix p m c cc nL s args Ts own) (hK : eK E s) (hP : va_P E.1 vwCl ws H) (hD : va_D A ws) (hS : va_S A H0 H locs) (hA : ∀ q : Nat, H0.size ≤ q → A q) (hl : ls.size = nL)
    (hM : cM l y wsY rm E H.size (.ref b :: As) wc rv post W') (cw : CallW R s args own C index y bytes maxL ret wsY rm rm.cells rm.slots n)
    (isC isR : List Nat) (hnC : va_nd isC = true) (hC : isC.map (fun i => ws[i]?) = wc.map some) (hR : isR.map (fun i => ws[i]?) = (isR.filterMap (fun i => ws[i]?)).map some) (hn : va_nd isR = true) (hdis : ∀ i ∈ isR, i ∉ isC)
    {q0 ci : Nat} {fs : List Value} {T : u_T} {N : Nat} (he : ws[q0]? = some (b, .inr (ci, fs))) (hc : vwCl[ci]? = some (C, T, N))
    (hst : st0 = As.reverse ++ .ref b :: rest) (hln : As.length = n) (hcat : (rest.map fun v => v.category).sum ≤ 8) (hdg : decode cc pc = .ok (.invokevirtual index, 3)) (hf : cells + rm.cells ≤ R.cells ∧ slots + rm.slots ≤ R.slots)
    (kk : ∀ (u : S) (H1 : Heap) (locs1 : List Loc), post u → H.size ≤ H1.size → va_P E.1 vwCl (isR.filterMap (fun i => ws[i]?) ++ W' u) H1 → va_D A (isR.filterMap (fun i => ws[i]?) ++ W' u) → va_S A H0 H1 locs1 → W p l e R s m args below meth c H1 locs1 (cells + rm.cells) (slots + rm.slots) Q (F0 m (pc + 3) ls ((rv u).toList ++ rest))) : W p l e R s m args below meth c H locs cells slots Q (F0 m pc ls st0) := by
  subst hst
  have hPc : va_P E.1 vwCl wc H := e_sub hP isC hC
  have hDc : va_D A wc := hD.sub isC hnC hC
  exact e_back (va_runV F hM cw ⟨cP_blind, va_recv hK.1 hP hc he, cP_of hK hPc hDc⟩ rfl hln hl rfl (lv_room hcat) hdg hf) hP hD hS hA isC isR hC hR hn hdis kk
/-- invokespecial <init> -/
theorem e_callI (F : CallFix p m c cc nL s args Ts own) (hK : eK E s) (hP : va_P E.1 vwCl ws H) (hD : va_D A ws) (hS : va_S A H0 H locs) (hA : ∀ q : Nat, H0.size ≤ q → A q) (hl : ls.size = nL)
    (hM : cM l y wsY rm E H.size (.ref b :: As) wc rv post W') (cw : CallB R s args own index y bytes maxL none wsY rm rm.cells rm.slots n ∧ y.name = "<init>" ∧ (Cond.instanceMethod y).before args s = true)
    (isC isR : List Nat) (hnC : va_nd isC = true) (hC : isC.map (fun i => ws[i]?) = wc.map some) (hR : isR.map (fun i => ws[i]?) = (isR.filterMap (fun i => ws[i]?)).map some) (hn : va_nd isR = true) (hdis : ∀ i ∈ isR, i ∉ isC)
    (hst : st0 = As.reverse ++ .ref b :: rest) (hln : As.length = n) (hcat : (rest.map fun v => v.category).sum ≤ 8) (hdg : decode cc pc = .ok (.invokespecial index, 3)) (hf : cells + rm.cells ≤ R.cells ∧ slots + rm.slots ≤ R.slots)
    (kk : ∀ (u : S) (H1 : Heap) (locs1 : List Loc), post u → H.size ≤ H1.size → va_P E.1 vwCl (isR.filterMap (fun i => ws[i]?) ++ W' u) H1 → va_D A (isR.filterMap (fun i => ws[i]?) ++ W' u) → va_S A H0 H1 locs1 → W p l e R s m args below meth c H1 locs1 (cells + rm.cells) (slots + rm.slots) Q (F0 m (pc + 3) ls ((rv u).toList ++ rest))) : W p l e R s m args below meth c H locs cells slots Q (F0 m pc ls st0) := by
  subst hst
  have hPc : va_P E.1 vwCl wc H := e_sub hP isC hC
  have hDc : va_D A wc := hD.sub isC hnC hC
  exact e_back (va_runI F hM cw ⟨cP_blind, cP_of hK hPc hDc⟩ rfl hln hl rfl (lv_room hcat) hdg hf) hP hD hS hA isC isR hC hR hn hdis kk
/-- invokespecial <init> of a nest mate -/
theorem e_callIN (F : CallFix p m c cc nL s args Ts own) (hK : eK E s) (hP : va_P E.1 vwCl ws H) (hD : va_D A ws) (hS : va_S A H0 H locs) (hA : ∀ q : Nat, H0.size ≤ q → A q) (hl : ls.size = nL)
    (hM : cM l y wsY rm E H.size (.ref b :: As) wc rv post W') (cw : va_CN R s args own index y host bytes maxL none wsY rm rm.cells rm.slots n ∧ y.name = "<init>" ∧ (Cond.instanceMethod y).before args s = true)
    (isC isR : List Nat) (hnC : va_nd isC = true) (hC : isC.map (fun i => ws[i]?) = wc.map some) (hR : isR.map (fun i => ws[i]?) = (isR.filterMap (fun i => ws[i]?)).map some) (hn : va_nd isR = true) (hdis : ∀ i ∈ isR, i ∉ isC)
    (hst : st0 = As.reverse ++ .ref b :: rest) (hln : As.length = n) (hcat : (rest.map fun v => v.category).sum ≤ 8) (hdg : decode cc pc = .ok (.invokespecial index, 3)) (hf : cells + rm.cells ≤ R.cells ∧ slots + rm.slots ≤ R.slots)
    (kk : ∀ (u : S) (H1 : Heap) (locs1 : List Loc), post u → H.size ≤ H1.size → va_P E.1 vwCl (isR.filterMap (fun i => ws[i]?) ++ W' u) H1 → va_D A (isR.filterMap (fun i => ws[i]?) ++ W' u) → va_S A H0 H1 locs1 → W p l e R s m args below meth c H1 locs1 (cells + rm.cells) (slots + rm.slots) Q (F0 m (pc + 3) ls ((rv u).toList ++ rest))) : W p l e R s m args below meth c H locs cells slots Q (F0 m pc ls st0) := by
  subst hst
  have hPc : va_P E.1 vwCl wc H := e_sub hP isC hC
  have hDc : va_D A wc := hD.sub isC hnC hC
  exact e_back (va_runIN F hM cw ⟨cP_blind, cP_of hK hPc hDc⟩ rfl hln hl rfl (lv_room hcat) hdg hf) hP hD hS hA isC isR hC hR hn hdis kk
/-- invokestatic -/
theorem e_callS (F : CallFix p m c cc nL s args Ts own) (hK : eK E s) (hP : va_P E.1 vwCl ws H) (hD : va_D A ws) (hS : va_S A H0 H locs) (hA : ∀ q : Nat, H0.size ≤ q → A q) (hl : ls.size = nL)
    (hM : cM l y wsY rm E H.size (As) wc rv post W') (cw : CallB R s args own index y bytes maxL ret wsY rm rm.cells rm.slots n ∧ (Cond.static y).before args s = true)
    (isC isR : List Nat) (hnC : va_nd isC = true) (hC : isC.map (fun i => ws[i]?) = wc.map some) (hR : isR.map (fun i => ws[i]?) = (isR.filterMap (fun i => ws[i]?)).map some) (hn : va_nd isR = true) (hdis : ∀ i ∈ isR, i ∉ isC)
    (hst : st0 = As.reverse ++ rest) (hln : As.length = n) (hcat : (rest.map fun v => v.category).sum ≤ 8) (hdg : decode cc pc = .ok (.invokestatic index, 3)) (hf : cells + rm.cells ≤ R.cells ∧ slots + rm.slots ≤ R.slots)
    (kk : ∀ (u : S) (H1 : Heap) (locs1 : List Loc), post u → H.size ≤ H1.size → va_P E.1 vwCl (isR.filterMap (fun i => ws[i]?) ++ W' u) H1 → va_D A (isR.filterMap (fun i => ws[i]?) ++ W' u) → va_S A H0 H1 locs1 → W p l e R s m args below meth c H1 locs1 (cells + rm.cells) (slots + rm.slots) Q (F0 m (pc + 3) ls ((rv u).toList ++ rest))) : W p l e R s m args below meth c H locs cells slots Q (F0 m pc ls st0) := by
  subst hst
  have hPc : va_P E.1 vwCl wc H := e_sub hP isC hC
  have hDc : va_D A wc := hD.sub isC hnC hC
  exact e_back (va_runS F hM cw ⟨cP_blind, cP_of hK hPc hDc⟩ rfl hln hl rfl (lv_room hcat) hdg hf) hP hD hS hA isC isR hC hR hn hdis kk
/-- invokestatic, a nest mate's private method -/
theorem e_callSN (F : CallFix p m c cc nL s args Ts own) (hK : eK E s) (hP : va_P E.1 vwCl ws H) (hD : va_D A ws) (hS : va_S A H0 H locs) (hA : ∀ q : Nat, H0.size ≤ q → A q) (hl : ls.size = nL)
    (hM : cM l y wsY rm E H.size (As) wc rv post W') (cw : va_CN R s args own index y host bytes maxL ret wsY rm rm.cells rm.slots n ∧ (Cond.static y).before args s = true ∧ True)
    (isC isR : List Nat) (hnC : va_nd isC = true) (hC : isC.map (fun i => ws[i]?) = wc.map some) (hR : isR.map (fun i => ws[i]?) = (isR.filterMap (fun i => ws[i]?)).map some) (hn : va_nd isR = true) (hdis : ∀ i ∈ isR, i ∉ isC)
    (hst : st0 = As.reverse ++ rest) (hln : As.length = n) (hcat : (rest.map fun v => v.category).sum ≤ 8) (hdg : decode cc pc = .ok (.invokestatic index, 3)) (hf : cells + rm.cells ≤ R.cells ∧ slots + rm.slots ≤ R.slots)
    (kk : ∀ (u : S) (H1 : Heap) (locs1 : List Loc), post u → H.size ≤ H1.size → va_P E.1 vwCl (isR.filterMap (fun i => ws[i]?) ++ W' u) H1 → va_D A (isR.filterMap (fun i => ws[i]?) ++ W' u) → va_S A H0 H1 locs1 → W p l e R s m args below meth c H1 locs1 (cells + rm.cells) (slots + rm.slots) Q (F0 m (pc + 3) ls ((rv u).toList ++ rest))) : W p l e R s m args below meth c H locs cells slots Q (F0 m pc ls st0) := by
  subst hst
  have hPc : va_P E.1 vwCl wc H := e_sub hP isC hC
  have hDc : va_D A wc := hD.sub isC hnC hC
  exact e_back (va_runSN F hM cw ⟨cP_blind, cP_of hK hPc hDc⟩ rfl hln hl rfl (lv_room hcat) hdg hf) hP hD hS hA isC isR hC hR hn hdis kk
end ECALL
/-! ===== rows of arrays with an index that is a number ===== -/
section EARR
variable {p : Program} {l : Launch} {e : Env} {R : Room} {s : State} {m : MethodId} {args : Array Value} {below : List Frame} {meth : Method} {c : Code} {H H0 : Heap} {locs : List Loc} {cells slots : Nat} {Q : State → Prop} {E : eT} {A : Nat → Prop} {ws : va_W} {cc : ByteArray} {pc : Nat} {ls : Array Slot} {rest : List Value} {a : Nat}
def b2i (b : Bool) : Int32 := if b then 1 else 0
theorem b2i_nar (b : Bool) : vp_nar .boolean (b2i b) = b2i b := by cases b <;> decide +kernel
theorem b2i_narrow (b : Bool) : narrow .boolean (.int (b2i b)) = .int (b2i b) := by cases b <;> decide +kernel
theorem b2i_ne (b : Bool) : b2i b ≠ 0 ↔ b = true := by cases b <;> decide +kernel
theorem b2i_eq (b : Bool) : b2i b = 0 ↔ b = false := by cases b <;> decide +kernel
def updB (f : Nat → Bool) (k : Nat) (x : Bool) : Nat → Bool := fun j => if j = k then x else f j
theorem updB_b2i (f : Nat → Bool) (k : Nat) (x : Bool) : upd (fun j => b2i (f j)) k (b2i x) = fun j => b2i (updB f k x j) := by
  funext j
  unfold upd updB
  by_cases h : j = k
  · rw [if_pos h, if_pos h]
  · rw [if_neg h, if_neg h]
theorem e_iald (hK : eK E s) (hP : va_P E.1 vwCl ws H) (q0 : Nat) {n : Nat} {f : Nat → Int32} (ha : ws[q0]? = some (a, .inl (E.2.1, n, .inl f))) (j : Nat) (hj : j < n) (hn : n < 2 ^ 31) (hx : p.tables.exec = Jvm.exec) (hb : c.code = cc) (hdg : decode cc pc = .ok (.iaload, 1))
    (kk : W p l e R s m args below meth c H locs cells slots Q (F0 m (pc + 1) ls (.int (f j) :: rest))) : W p l e R s m args below meth c H locs cells slots Q (F0 m pc ls (.int (nI j) :: .ref a :: rest)) := by
  refine va_iald hx hb hK.1 hP q0 0 ha rfl (vp_in_nI hj hn) hdg ?_
  rw [nI_clamp (by omega)]
  exact kk
theorem e_zald (hK : eK E s) (hP : va_P E.1 vwCl ws H) (q0 : Nat) {n : Nat} {f : Nat → Bool} (ha : ws[q0]? = some (a, .inl (E.2.2.1, n, .inl (fun k => b2i (f k))))) (j : Nat) (hj : j < n) (hn : n < 2 ^ 31) (hx : p.tables.exec = Jvm.exec) (hb : c.code = cc) (hdg : decode cc pc = .ok (.baload, 1))
    (kk : W p l e R s m args below meth c H locs cells slots Q (F0 m (pc + 1) ls (.int (b2i (f j)) :: rest))) : W p l e R s m args below meth c H locs cells slots Q (F0 m pc ls (.int (nI j) :: .ref a :: rest)) := by
  refine va_zald hx hb hK.1 hP q0 1 ha rfl (vp_in_nI hj hn) hdg ?_
  rw [nI_clamp (by omega)]
  exact kk
theorem e_lald (hK : eK E s) (hP : va_P E.1 vwCl ws H) (q0 : Nat) {n : Nat} {f : Nat → Int64} (ha : ws[q0]? = some (a, .inl (E.2.2.2, n, .inr (.inl f)))) (j : Nat) (hj : j < n) (hn : n < 2 ^ 31) (hx : p.tables.exec = Jvm.exec) (hb : c.code = cc) (hdg : decode cc pc = .ok (.laload, 1))
    (kk : W p l e R s m args below meth c H locs cells slots Q (F0 m (pc + 1) ls (.long (f j) :: rest))) : W p l e R s m args below meth c H locs cells slots Q (F0 m pc ls (.int (nI j) :: .ref a :: rest)) := by
  refine va_lald hx hb hK.1 hP q0 2 ha rfl (vp_in_nI hj hn) hdg ?_
  rw [nI_clamp (by omega)]
  exact kk
theorem e_iast (hK : eK E s) (hP : va_P E.1 vwCl ws H) (hD : va_D A ws) (hS : va_S A H0 H locs) (q0 : Nat) {n : Nat} {f : Nat → Int32} (ha : ws[q0]? = some (a, .inl (E.2.1, n, .inl f))) (j : Nat) (hj : j < n) (hn : n < 2 ^ 31) (hx : p.tables.exec = Jvm.exec) (hb : c.code = cc) {x : Int32} (hdg : decode cc pc = .ok (.iastore, 1))
    (kk : ∀ (H1 : Heap) (locs1 : List Loc), va_P E.1 vwCl (ws.set q0 (a, .inl (E.2.1, n, .inl (upd f j x)))) H1 → va_D A (ws.set q0 (a, .inl (E.2.1, n, .inl (upd f j x)))) → va_S A H0 H1 locs1 → W p l e R s m args below meth c H1 locs1 cells slots Q (F0 m (pc + 1) ls rest)) : W p l e R s m args below meth c H locs cells slots Q (F0 m pc ls (.int x :: .int (nI j) :: .ref a :: rest)) := by
  refine va_iast hx hb hK.1 hP hD hS q0 0 ha rfl (vp_in_nI hj hn) hdg ?_
  rw [nI_clamp (by omega)]
  exact kk
theorem e_zast (hK : eK E s) (hP : va_P E.1 vwCl ws H) (hD : va_D A ws) (hS : va_S A H0 H locs) (q0 : Nat) {n : Nat} {f : Nat → Bool} (ha : ws[q0]? = some (a, .inl (E.2.2.1, n, .inl (fun k => b2i (f k))))) (j : Nat) (hj : j < n) (hn : n < 2 ^ 31) (hx : p.tables.exec = Jvm.exec) (hb : c.code = cc) {x : Bool} (hdg : decode cc pc = .ok (.bastore, 1))
    (kk : ∀ (H1 : Heap) (locs1 : List Loc), va_P E.1 vwCl (ws.set q0 (a, .inl (E.2.2.1, n, .inl (fun k => b2i (updB f j x k))))) H1 → va_D A (ws.set q0 (a, .inl (E.2.2.1, n, .inl (fun k => b2i (updB f j x k))))) → va_S A H0 H1 locs1 → W p l e R s m args below meth c H1 locs1 cells slots Q (F0 m (pc + 1) ls rest)) : W p l e R s m args below meth c H locs cells slots Q (F0 m pc ls (.int (b2i x) :: .int (nI j) :: .ref a :: rest)) := by
  refine va_zast hx hb hK.1 hP hD hS q0 1 ha rfl (vp_in_nI hj hn) hdg ?_
  rw [nI_clamp (by omega), b2i_nar, updB_b2i]
  exact kk
theorem e_last (hK : eK E s) (hP : va_P E.1 vwCl ws H) (hD : va_D A ws) (hS : va_S A H0 H locs) (q0 : Nat) {n : Nat} {f : Nat → Int64} (ha : ws[q0]? = some (a, .inl (E.2.2.2, n, .inr (.inl f)))) (j : Nat) (hj : j < n) (hn : n < 2 ^ 31) (hx : p.tables.exec = Jvm.exec) (hb : c.code = cc) {x : Int64} (hdg : decode cc pc = .ok (.lastore, 1))
    (kk : ∀ (H1 : Heap) (locs1 : List Loc), va_P E.1 vwCl (ws.set q0 (a, .inl (E.2.2.2, n, .inr (.inl (vp_updL f j x))))) H1 → va_D A (ws.set q0 (a, .inl (E.2.2.2, n, .inr (.inl (vp_updL f j x))))) → va_S A H0 H1 locs1 → W p l e R s m args below meth c H1 locs1 cells slots Q (F0 m (pc + 1) ls rest)) : W p l e R s m args below meth c H locs cells slots Q (F0 m pc ls (.long x :: .int (nI j) :: .ref a :: rest)) := by
  refine va_last hx hb hK.1 hP hD hS q0 2 ha rfl (vp_in_nI hj hn) hdg ?_
  rw [nI_clamp (by omega)]
  exact kk
/-- the number on the stack, by another writing of it -/
theorem e_top {x y : Int32} (h : x = y) (k : W p l e R s m args below meth c H locs cells slots Q (F0 m pc ls (.int y :: rest))) : W p l e R s m args below meth c H locs cells slots Q (F0 m pc ls (.int x :: rest)) := by rw [h]; exact k
theorem e_topL {x y : Int64} (h : x = y) (k : W p l e R s m args below meth c H locs cells slots Q (F0 m pc ls (.long y :: rest))) : W p l e R s m args below meth c H locs cells slots Q (F0 m pc ls (.long x :: rest)) := by rw [h]; exact k
/-- a new array: its class is the one that the tables name -/
theorem e_uniq {s : State} {cA cB : ClassId} {ty : FieldType} (hty : ty = .int ∨ ty = .boolean ∨ ty = .long) (h1 : va_RA s cA ty) (h2 : va_RA s cB ty) : cA = cB := by
  rcases hty with rfl | rfl | rfl
  all_goals
    have a1 : s.vm.findClass _ = some cA := h1
    have a2 : s.vm.findClass _ = some cB := h2
    exact Option.some.inj (a1.symm.trans a2)
theorem e_newI (hK : eK E s) (hP : va_P E.1 vwCl ws H) (hD : va_D A ws) (hS : va_S A H0 H locs) (hA : ∀ q : Nat, H0.size ≤ q → A q) (hx : p.tables.exec = Jvm.exec) (hb : c.code = cc) (harr : (Cond.arrayClass .int).before args s = true) (n : Nat) (hn : n < 1000) {x : Int32} (hxn : x = nI n) (hcells : cells + 1 ≤ R.cells) (hslots : slots + n ≤ R.slots) (hdg : decode cc pc = .ok (.newarray .int, 2))
    (kk : ∀ (q : Nat) (H1 : Heap), va_P E.1 vwCl (ws ++ [(q, .inl (E.2.1, n, .inl (fun _ => 0)))]) H1 → va_D A (ws ++ [(q, .inl (E.2.1, n, .inl (fun _ => 0)))]) → va_S A H0 H1 locs → W p l e R s m args below meth c H1 locs (cells + 1) (slots + n) Q (F0 m (pc + 2) ls (.ref q :: rest))) : W p l e R s m args below meth c H locs cells slots Q (F0 m pc ls (.int x :: rest)) := by
  subst hxn
  refine va_newa (atype := .int) hx hb harr (ty := .int) rfl hK.1 hP hD hS hA (n := nI n) (N' := n) (a0 := (n, .inl (fun _ => 0))) (fun cA => rfl) (nI_pos (by omega)) (nI_clamp (by omega)) (by show n * 4 ≤ _; omega) hcells hslots hdg (fun q cA H1 hK1 hP1 hD1 hS1 => ?_)
  have e1 : cA = E.2.1 := e_uniq (Or.inl rfl) (hK1.2 3 _ rfl).2 (hK.1.2 0 _ rfl).2
  subst e1
  exact kk q H1 hP1 hD1 hS1
theorem e_newZ (hK : eK E s) (hP : va_P E.1 vwCl ws H) (hD : va_D A ws) (hS : va_S A H0 H locs) (hA : ∀ q : Nat, H0.size ≤ q → A q) (hx : p.tables.exec = Jvm.exec) (hb : c.code = cc) (harr : (Cond.arrayClass .boolean).before args s = true) (n : Nat) (hn : n < 1000) {x : Int32} (hxn : x = nI n) (hcells : cells + 1 ≤ R.cells) (hslots : slots + n ≤ R.slots) (hdg : decode cc pc = .ok (.newarray .boolean, 2))
    (kk : ∀ (q : Nat) (H1 : Heap), va_P E.1 vwCl (ws ++ [(q, .inl (E.2.2.1, n, .inl (fun _ => b2i false)))]) H1 → va_D A (ws ++ [(q, .inl (E.2.2.1, n, .inl (fun _ => b2i false)))]) → va_S A H0 H1 locs → W p l e R s m args below meth c H1 locs (cells + 1) (slots + n) Q (F0 m (pc + 2) ls (.ref q :: rest))) : W p l e R s m args below meth c H locs cells slots Q (F0 m pc ls (.int x :: rest)) := by
  subst hxn
  refine va_newa (atype := .boolean) hx hb harr (ty := .boolean) rfl hK.1 hP hD hS hA (n := nI n) (N' := n) (a0 := (n, .inl (fun _ => b2i false))) (fun cA => rfl) (nI_pos (by omega)) (nI_clamp (by omega)) (by show n * 1 ≤ _; omega) hcells hslots hdg (fun q cA H1 hK1 hP1 hD1 hS1 => ?_)
  have e1 : cA = E.2.2.1 := e_uniq (Or.inr (Or.inl rfl)) (hK1.2 3 _ rfl).2 (hK.1.2 1 _ rfl).2
  subst e1
  exact kk q H1 hP1 hD1 hS1
theorem e_newL (hK : eK E s) (hP : va_P E.1 vwCl ws H) (hD : va_D A ws) (hS : va_S A H0 H locs) (hA : ∀ q : Nat, H0.size ≤ q → A q) (hx : p.tables.exec = Jvm.exec) (hb : c.code = cc) (harr : (Cond.arrayClass .long).before args s = true) (n : Nat) (hn : n < 1000) {x : Int32} (hxn : x = nI n) (hcells : cells + 1 ≤ R.cells) (hslots : slots + n ≤ R.slots) (hdg : decode cc pc = .ok (.newarray .long, 2))
    (kk : ∀ (q : Nat) (H1 : Heap), va_P E.1 vwCl (ws ++ [(q, .inl (E.2.2.2, n, .inr (.inl (fun _ => 0))))]) H1 → va_D A (ws ++ [(q, .inl (E.2.2.2, n, .inr (.inl (fun _ => 0))))]) → va_S A H0 H1 locs → W p l e R s m args below meth c H1 locs (cells + 1) (slots + n) Q (F0 m (pc + 2) ls (.ref q :: rest))) : W p l e R s m args below meth c H locs cells slots Q (F0 m pc ls (.int x :: rest)) := by
  subst hxn
  refine va_newa (atype := .long) hx hb harr (ty := .long) rfl hK.1 hP hD hS hA (n := nI n) (N' := n) (a0 := (n, .inr (.inl (fun _ => 0)))) (fun cA => rfl) (nI_pos (by omega)) (nI_clamp (by omega)) (by show n * 8 ≤ _; omega) hcells hslots hdg (fun q cA H1 hK1 hP1 hD1 hS1 => ?_)
  have e1 : cA = E.2.2.2 := e_uniq (Or.inr (Or.inr rfl)) (hK1.2 3 _ rfl).2 (hK.1.2 2 _ rfl).2
  subst e1
  exact kk q H1 hP1 hD1 hS1
end EARR
