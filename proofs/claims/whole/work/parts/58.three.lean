/-! ===== calls over a world of three: a ++ b ++ c, without a look into its cells ===== -/
theorem nd_of : ∀ l : List Nat, l.Nodup → va_nd l = true
  | [], _ => rfl
  | a :: l, h => by
    have h1 := List.nodup_cons.mp h
    show (decide (a ∉ l) && va_nd l) = true
    rw [nd_of l h1.2, decide_eq_true h1.1]
    rfl
theorem range_map (X : va_W) : (List.range X.length).map (fun i => X[i]?) = X.map some := by
  refine List.ext_getElem? (fun i => ?_)
  by_cases h : i < X.length
  · simp [h]
  · simp [h]
theorem P_right {D : va_G} {cl : List vw_C} {x y : va_W} {H : Heap} (h : va_P D cl (x ++ y) H) : va_P D cl y H := fun k q hk =>
  h (x.length + k) q (by rw [List.getElem?_append_right (by omega), Nat.add_sub_cancel_left]; exact hk)
theorem D_right {A : Nat → Prop} {x y : va_W} (h : va_D A (x ++ y)) : va_D A y := by
  have f : ∀ (k : Nat) (q : Nat × va_E), y[k]? = some q → (x ++ y)[x.length + k]? = some q := fun k q hk => by rw [List.getElem?_append_right (by omega), Nat.add_sub_cancel_left]; exact hk
  exact ⟨fun i j p q hi hj e => by have h9 := h.1 _ _ p q (f i p hi) (f j q hj) e; omega, fun k q hk => h.2 _ q (f k q hk)⟩
theorem P_comm {D : va_G} {cl : List vw_C} {x y : va_W} {H : Heap} (h : va_P D cl (x ++ y) H) : va_P D cl (y ++ x) H := by
  have h1 : va_P D cl (([] ++ x) ++ y) H := h
  have h2 := h1.swap
  exact h2
theorem D_comm {A : Nat → Prop} {x y : va_W} (h : va_D A (x ++ y)) : va_D A (y ++ x) := by
  have h1 : va_D A (([] ++ x) ++ y) := h
  have h2 := h1.swap
  exact h2
section THREE
variable {S : Type} {p : Program} {l : Launch} {e : Env} {R : Room} {s : State} {m : MethodId} {args : Array Value} {below : List Frame} {meth : Method} {c : Code} {H : Heap} {locs : List Loc} {cells slots mc ms : Nat} {Q : State → Prop} {E : eT} {A : Nat → Prop} {rv : S → Option Value} {post : S → Prop} {W' A1 C1 : S → va_W} {wr wc w1 w2 w3 : va_W} {cc : ByteArray} {pc : Nat} {ls : Array Slot} {st0 rest : List Value} {a : Array Value}
variable {y : MethodName} {bytes : ByteArray} {maxL nL n index : Nat} {ret : Option FieldType} {wsY : List Cond} {rm : Room} {Ts : List Cond} {own C : String} {b : Addr} {As : List Value}
theorem e_backT (hr : va_Run p l e R s m args below meth c H locs cells slots mc ms (F0 m pc ls st0) rest (cQ E (va_A wc H.size) rv post W' a) (va_A wc H.size)) (hP : va_P E.1 vwCl (wr ++ wc) H) (hD : va_D A (wr ++ wc)) (hS : va_S A s.heap H locs) (hA : ∀ q : Nat, s.heap.size ≤ q → A q)
    (kk : ∀ (u : S) (H1 : Heap) (locs1 : List Loc), post u → H.size ≤ H1.size → va_P E.1 vwCl (wr ++ W' u) H1 → va_D A (wr ++ W' u) → va_S A s.heap H1 locs1 → W p l e R s m args below meth c H1 locs1 (cells + mc) (slots + ms) Q (F0 m (pc + 3) ls ((rv u).toList ++ rest))) : W p l e R s m args below meth c H locs cells slots Q (F0 m pc ls st0) := by
  intro T hT X
  have hF : ∀ q, va_A ([] ++ wc) H.size q → A q := va_freeP (X := wr) (cx := []) hD hS hA [] rfl
  obtain ⟨v, st₀, t, T', L, h0, X', hL, e1, e2, ⟨⟨u, hv, hp, hPu, hDu⟩, hz, hk⟩, st⟩ := hr T hT X
  cases hv
  rw [h0] at hz hk
  rw [← e1] at hz hPu
  have hk' : ∀ q : Nat, q < H.size → ¬ va_A wc H.size q → T'.heap[q]? = H[q]? := fun q h1 h2 => by rw [e1]; exact hk q h1 h2
  have hj := va_joinP (X := wr) (cx := []) (wr := wr) (rx := []) (pl := wc) (pl1 := W' u) hP hD [] (List.range wr.length) rfl (range_map wr) (nd_of _ List.nodup_range) (fun i _ => List.not_mem_nil) hk' hF hPu hDu
  rw [List.append_nil] at hj
  obtain ⟨t2, a1, b1⟩ := kk u T'.heap (locs ++ L) hp hz hj.1 hj.2
    ⟨Nat.le_trans hS.1 hz, fun q h1 h2 => by rw [hk' q (Nat.lt_of_lt_of_le h1 hS.1) (fun z => h2 (hF q z))]; exact hS.2.1 q h1 h2, fun q hq => by
      rcases List.mem_append.mp hq with h | h
      · exact hS.2.2 q h
      · exact hF _ (hL q h)⟩ T' rfl X'
  exact ⟨t2, st t2 a1, b1⟩
/-- on the middle one -/
theorem e_callVb (F : CallFix p m c cc nL s args Ts own) (hK : eK E s) (hP : va_P E.1 vwCl (w1 ++ w2 ++ w3) H) (hD : va_D A (w1 ++ w2 ++ w3)) (hS : va_S A s.heap H locs) (hA : ∀ q : Nat, s.heap.size ≤ q → A q) (hl : ls.size = nL)
    (hM : cM l y wsY rm E H.size (.ref b :: As) w2 rv post W') (cw : CallW R s args own C index y bytes maxL ret wsY rm rm.cells rm.slots n)
    {ci : Nat} {fs : List Value} {T : u_T} {N : Nat} (he : w2[0]? = some (b, .inr (ci, fs))) (hc : vwCl[ci]? = some (C, T, N))
    (hst : st0 = As.reverse ++ .ref b :: rest) (hln : As.length = n) (hcat : (rest.map fun v => v.category).sum ≤ 8) (hdg : decode cc pc = .ok (.invokevirtual index, 3)) (hf : cells + rm.cells ≤ R.cells ∧ slots + rm.slots ≤ R.slots)
    (kk : ∀ (u : S) (H1 : Heap) (locs1 : List Loc), post u → H.size ≤ H1.size → va_P E.1 vwCl (w1 ++ W' u ++ w3) H1 → va_D A (w1 ++ W' u ++ w3) → va_S A s.heap H1 locs1 → W p l e R s m args below meth c H1 locs1 (cells + rm.cells) (slots + rm.slots) Q (F0 m (pc + 3) ls ((rv u).toList ++ rest))) : W p l e R s m args below meth c H locs cells slots Q (F0 m pc ls st0) := by
  subst hst
  have hP2 := hP.swap
  have hD2 := hD.swap
  exact e_backT (va_runV F hM cw ⟨cP_blind, va_recv hK.1 (P_right hP2) hc he, cP_of hK (P_right hP2) (D_right hD2)⟩ rfl hln hl rfl (lv_room hcat) hdg hf) hP2 hD2 hS hA (fun u H1 locs1 hp hz hP9 hD9 hS9 => kk u H1 locs1 hp hz hP9.swap hD9.swap hS9)
/-- on the first one -/
theorem e_callVa (F : CallFix p m c cc nL s args Ts own) (hK : eK E s) (hP : va_P E.1 vwCl (w1 ++ w2 ++ w3) H) (hD : va_D A (w1 ++ w2 ++ w3)) (hS : va_S A s.heap H locs) (hA : ∀ q : Nat, s.heap.size ≤ q → A q) (hl : ls.size = nL)
    (hM : cM l y wsY rm E H.size (.ref b :: As) w1 rv post W') (cw : CallW R s args own C index y bytes maxL ret wsY rm rm.cells rm.slots n)
    {ci : Nat} {fs : List Value} {T : u_T} {N : Nat} (he : w1[0]? = some (b, .inr (ci, fs))) (hc : vwCl[ci]? = some (C, T, N))
    (hst : st0 = As.reverse ++ .ref b :: rest) (hln : As.length = n) (hcat : (rest.map fun v => v.category).sum ≤ 8) (hdg : decode cc pc = .ok (.invokevirtual index, 3)) (hf : cells + rm.cells ≤ R.cells ∧ slots + rm.slots ≤ R.slots)
    (kk : ∀ (u : S) (H1 : Heap) (locs1 : List Loc), post u → H.size ≤ H1.size → va_P E.1 vwCl (W' u ++ w2 ++ w3) H1 → va_D A (W' u ++ w2 ++ w3) → va_S A s.heap H1 locs1 → W p l e R s m args below meth c H1 locs1 (cells + rm.cells) (slots + rm.slots) Q (F0 m (pc + 3) ls ((rv u).toList ++ rest))) : W p l e R s m args below meth c H locs cells slots Q (F0 m pc ls st0) := by
  subst hst
  rw [List.append_assoc] at hP hD
  have hP2 := P_comm hP
  have hD2 := D_comm hD
  exact e_backT (va_runV F hM cw ⟨cP_blind, va_recv hK.1 (P_right hP2) hc he, cP_of hK (P_right hP2) (D_right hD2)⟩ rfl hln hl rfl (lv_room hcat) hdg hf) hP2 hD2 hS hA (fun u H1 locs1 hp hz hP9 hD9 hS9 => kk u H1 locs1 hp hz (by rw [List.append_assoc]; exact P_comm hP9) (by rw [List.append_assoc]; exact D_comm hD9) hS9)
/-- a helper with a table, on the first and the last -/
theorem e_callSHac {hh : List (Nat × Nat × Nat × Nat)} (F : CallFix p m c cc nL s args Ts own) (hK : eK E s) (hX : eX A s s.heap) (hP : va_P E.1 vwCl (w1 ++ w2 ++ w3) H) (hD : va_D A (w1 ++ w2 ++ w3)) (hS : va_S A s.heap H locs) (hA : ∀ q : Nat, s.heap.size ≤ q → A q) (hl : ls.size = nL)
    (hM : cMX l y wsY rm E H.size (As) (w1 ++ w3) rv post (fun u => A1 u ++ C1 u)) (cw : vx_CSW R s args own index y bytes maxL ret hh wsY rm rm.cells rm.slots n)
    (hst : st0 = As.reverse ++ rest) (hln : As.length = n) (hcat : (rest.map fun v => v.category).sum ≤ 8) (hdg : decode cc pc = .ok (.invokestatic index, 3)) (hf : cells + rm.cells ≤ R.cells ∧ slots + rm.slots ≤ R.slots)
    (kk : ∀ (u : S) (H1 : Heap) (locs1 : List Loc), post u → H.size ≤ H1.size → va_P E.1 vwCl (A1 u ++ w2 ++ C1 u) H1 → va_D A (A1 u ++ w2 ++ C1 u) → va_S A s.heap H1 locs1 → W p l e R s m args below meth c H1 locs1 (cells + rm.cells) (slots + rm.slots) Q (F0 m (pc + 3) ls ((rv u).toList ++ rest))) : W p l e R s m args below meth c H locs cells slots Q (F0 m pc ls st0) := by
  subst hst
  have hP2 := P_comm hP.swap
  have hD2 := D_comm hD.swap
  have hF : ∀ q, va_A ([] ++ (w1 ++ w3)) H.size q → A q := va_freeP (X := w2) (cx := []) hD2 hS hA [] rfl
  exact e_backT (vx_runSW F hM cw ⟨cPX_blind, cPX_of hK hX (P_right hP2) (D_right hD2) hS hF⟩ rfl hln hl rfl (lv_room hcat) hdg hf) hP2 hD2 hS hA (fun u H1 locs1 hp hz hP9 hD9 hS9 => kk u H1 locs1 hp hz (P_comm hP9).swap (D_comm hD9).swap hS9)
end THREE
