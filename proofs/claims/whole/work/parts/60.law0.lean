/-! ===== the law: what stands at its head, its rows over the script, the ranges that hold from call to call ===== -/
def lA (s : State) : Nat → Prop := fun q => s.heap.size ≤ q
def lC (p : Program) (s : State) (m : MethodId) (cd : Code) (b L : Nat) (xs : Nat → Int32) (E : eT) : Prop :=
  p.tables.exec = Jvm.exec ∧ cd.code = cL_law ∧ cd.maxLocals = 9 ∧ s.vm.findClass RL = some m.cls ∧ (∀ w ∈ wsL_law, w.before #[Value.ref b] s = true) ∧ eK E s ∧ eX (lA s) s s.heap ∧ va_X b L xs s s.heap ∧ b < s.heap.size ∧ L ≤ 2048
section LROW
variable {p : Program} {l : Launch} {e : Env} {R : Room} {s : State} {m : MethodId} {args : Array Value} {below : List Frame} {meth : Method} {c : Code} {H : Heap} {locs : List Loc} {cells slots : Nat} {Q : State → Prop} {A : Nat → Prop} {cc : ByteArray} {pc : Nat} {ls : Array Slot} {rest : List Value}
theorem e_sld {b L : Nat} {xs : Nat → Int32} (hXs : va_X b L xs s s.heap) (hbl : b < s.heap.size) (hbA : ¬ A b) (hS : va_S A s.heap H locs) (k : Nat) (hk : k < L) (hL : L < 2 ^ 31) {v : Int32} (hv : xs k = v) (hx : p.tables.exec = Jvm.exec) (hb : c.code = cc) (hdg : decode cc pc = .ok (.iaload, 1))
    (kk : W p l e R s m args below meth c H locs cells slots Q (F0 m (pc + 1) ls (.int v :: rest))) : W p l e R s m args below meth c H locs cells slots Q (F0 m pc ls (.int (nI k) :: .ref b :: rest)) := by
  refine va_sld hx hb hXs hbl hbA hS (vp_in_nI hk hL) hdg ?_
  rw [nI_clamp (by omega), hv]
  exact kk
end LROW
theorem Rg_ground {gr co : Nat → Int32} (h : Rg gr co) {v : Int32} (hv : isInB v (nI 0) (nI 40) = true) (j : Nat) : Rg (upd gr j v) (upd co j (iMin (co j) v)) := by
  obtain ⟨n, -, hn, rfl⟩ := isInB_nat (by decide) hv (by decide)
  intro k hk
  obtain ⟨a, b, d⟩ := h k hk
  unfold upd
  by_cases e : k = j
  · subst e
    rw [if_pos rfl, if_pos rfl]
    have t := tI n (by omega)
    have u : (iMin (co k) (nI n)).toInt = if (nI n).toInt < (co k).toInt then (nI n).toInt else (co k).toInt := iMin_toInt _ _
    rw [u, t]
    split <;> omega
  · rw [if_neg e, if_neg e]; exact ⟨a, b, d⟩
theorem Rg_plant {gr co : Nat → Int32} (h : Rg gr co) {v : Int32} {j : Nat} (hv : isInB v (nI 0) (gr j) = true) : Rg gr (upd co j v) := by
  obtain ⟨h1, h2⟩ := isInB_iff.mp hv
  rw [i_lt, tI 0 (by decide)] at h1
  rw [i_lt] at h2
  intro k hk
  obtain ⟨a, b, d⟩ := h k hk
  unfold upd
  by_cases e : k = j
  · subst e
    rw [if_pos rfl]
    exact ⟨by omega, by omega, d⟩
  · rw [if_neg e]; exact ⟨a, b, d⟩
theorem Tb_month {wm st : Nat → Int32} (h : Tb wm st) {v u : Int32} {j : Nat} (hv : isInB v (nI 0) (nI 9) = true) (hu : isInB u (nI 0) (nI 9) = true) : Tb (upd wm j v) (upd st j u) := by
  obtain ⟨n, -, hn, rfl⟩ := isInB_nat (by decide) hv (by decide)
  obtain ⟨k, -, hk, rfl⟩ := isInB_nat (by decide) hu (by decide)
  intro i hi
  have t1 := tI n (by omega)
  have t2 := tI k (by omega)
  unfold upd
  by_cases e : i = j
  · rw [if_pos e, if_pos e, t1, t2]; omega
  · rw [if_neg e, if_neg e]; exact h i hi
theorem Rg_start : Rg (fun _ => nI 20) (fun _ => nI 0) := fun k _ => by
  rw [tI 0 (by decide), tI 20 (by decide)]; decide
theorem Tb_start : Tb (fun _ => nI 4) (fun _ => nI 0) := fun k _ => by
  rw [tI 0 (by decide), tI 4 (by decide)]; decide
theorem dep_nat {gr co : Nat → Int32} (h : Rg gr co) {k : Nat} (hk : k < 81) : ∃ n : Nat, n ≤ 40 ∧ dep gr co k = nI n := by
  obtain ⟨a, b, d⟩ := h k hk
  have t : (dep gr co k).toInt = (gr k).toInt - (co k).toInt := by
    unfold dep
    rw [iMax_toInt, subI (by omega) (by omega), tI 0 (by decide)]
    split <;> omega
  exact ⟨(dep gr co k).toInt.toNat, by omega, i_ext (by rw [tI _ (by omega)]; omega)⟩
theorem sum_nat {gr co : Nat → Int32} (h : Rg gr co) : ∀ n, n ≤ 81 → ∃ k : Nat, k ≤ 40 * n ∧ sumI (dep gr co) n = nI k
  | 0, _ => ⟨0, by omega, rfl⟩
  | n + 1, hn => by
    obtain ⟨k, hk, e⟩ := sum_nat h n (by omega)
    obtain ⟨d, hd, f⟩ := dep_nat h (k := n) (by omega)
    exact ⟨k + d, by omega, by show sumI (dep gr co) n + dep gr co n = _; rw [e, f]; exact nI_add k d⟩
theorem mean_all : ∀ (a : Fin 58) (b : Fin 57), (FP.ddiv (FP.i2d (nI (57 * a.val + b.val))) 4635400285215260672) &&& 0x7fffffffffffffff ≤ 0x7ff0000000000000 := by decide +kernel
theorem mean_ne {gr co : Nat → Int32} (h : Rg gr co) : vf_n64 (FP.ddiv (FP.i2d (sumI (dep gr co) 81)) 4635400285215260672) := by
  obtain ⟨k, hk, e⟩ := sum_nat h 81 (Nat.le_refl _)
  rw [e]
  have h9 := mean_all ⟨k / 57, by omega⟩ ⟨k % 57, Nat.mod_lt _ (by decide)⟩
  rw [show 57 * (k / 57) + k % 57 = k from Nat.div_add_mod k 57] at h9
  exact h9
theorem sw_split (v : Int32) : (v.toInt < 0 ∨ 16 < v.toInt) ∨ ∃ n : Nat, n ≤ 16 ∧ v = nI n := by
  by_cases h : v.toInt < 0 ∨ 16 < v.toInt
  · exact Or.inl h
  · exact Or.inr ⟨v.toInt.toNat, by omega, i_ext (by rw [tI _ (by omega)]; omega)⟩
theorem len_ok {L w : Nat} (hL : L ≤ 2048) (hw : w ≤ 4096) (h : ¬ nI L - nI 4 < nI w) : w + 4 ≤ L := by
  rw [i_lt, subI (by rw [tI L (by omega), tI 4 (by decide)]; omega) (by rw [tI L (by omega), tI 4 (by decide)]; omega), tI L (by omega), tI 4 (by decide), tI w (by omega)] at h
  omega
theorem len_ok2 {L w : Nat} (hL : L ≤ 2048) (hw : w ≤ 4096) (h : ¬ nI w > nI L - nI 4) : w + 4 ≤ L := len_ok hL hw h
/-- what the tables know of the classes and the arrays -/
theorem law_K {s : State} {args : Array Value} (hts : ∀ w ∈ lw_tbl, w.before args s = true) : ∃ E : eT, eK E s := by
  obtain ⟨c0, i0, h0⟩ := u_known (T := TX0) (N := 4) hts inX0 (hts (.instantiable RX0 4) (wsL_law_in _ (by decide +kernel)))
  obtain ⟨c1, i1, h1⟩ := u_known (T := TX1) (N := 2) hts inX1 (hts (.instantiable RX1 2) (wsL_law_in _ (by decide +kernel)))
  obtain ⟨c2, i2, h2⟩ := u_known (T := TX2) (N := 4) hts inX2 (hts (.instantiable RX2 4) (wsL_law_in _ (by decide +kernel)))
  obtain ⟨c3, i3, h3⟩ := u_known (T := TX3) (N := 2) hts inX3 (hts (.instantiable RX3 2) (wsL_law_in _ (by decide +kernel)))
  obtain ⟨c4, i4, h4⟩ := u_known (T := TX4) (N := 6) hts inX4 (hts (.instantiable RX4 6) (wsL_law_in _ (by decide +kernel)))
  obtain ⟨c5, i5, h5⟩ := u_known (T := TX5) (N := 11) hts inX5 (hts (.instantiable RX5 11) (wsL_law_in _ (by decide +kernel)))
  obtain ⟨cI, kI, pI, hI1, hI2, hI3⟩ := Cond.arrayClass_spec (hts (.arrayClass .int) (wsL_law_in _ (by decide +kernel)))
  obtain ⟨cZ, kZ, pZ, hZ1, hZ2, hZ3⟩ := Cond.arrayClass_spec (hts (.arrayClass .boolean) (wsL_law_in _ (by decide +kernel)))
  obtain ⟨cJ, kJ, pJ, hJ1, hJ2, hJ3⟩ := Cond.arrayClass_spec (hts (.arrayClass .long) (wsL_law_in _ (by decide +kernel)))
  refine ⟨((fun c => match c with | 0 => c0 | 1 => c1 | 2 => c2 | 3 => c3 | 4 => c4 | _ => c5, fun c => match c with | 0 => i0 | 1 => i1 | 2 => i2 | 3 => i3 | 4 => i4 | _ => i5), cI, cZ, cJ), ⟨fun c q hq => ?_, fun k q hk => ?_⟩, va_Nw.of rfl (hts _ (by decide +kernel)), va_Nw.of rfl (hts _ (by decide +kernel)), va_Nw.of rfl (hts _ (by decide +kernel)), va_Nw.of rfl (hts _ (by decide +kernel))⟩
  · match c, hq with
    | 0, hq =>
      obtain rfl := Option.some.inj (show some ((RX0, TX0, 4) : vw_C) = some q from hq)
      exact h0
    | 1, hq =>
      obtain rfl := Option.some.inj (show some ((RX1, TX1, 2) : vw_C) = some q from hq)
      exact h1
    | 2, hq =>
      obtain rfl := Option.some.inj (show some ((RX2, TX2, 4) : vw_C) = some q from hq)
      exact h2
    | 3, hq =>
      obtain rfl := Option.some.inj (show some ((RX3, TX3, 2) : vw_C) = some q from hq)
      exact h3
    | 4, hq =>
      obtain rfl := Option.some.inj (show some ((RX4, TX4, 6) : vw_C) = some q from hq)
      exact h4
    | 5, hq =>
      obtain rfl := Option.some.inj (show some ((RX5, TX5, 11) : vw_C) = some q from hq)
      exact h5
    | c + 6, hq => exact nomatch (show (none : Option vw_C) = some q from hq)
  · match k, hk with
    | 0, hk =>
      obtain rfl := Option.some.inj (show some ((cI, .int) : ClassId × FieldType) = some q from hk)
      exact ⟨fun n z => ⟨fun k h => (by cases h), kI, hI2, pI, hI3⟩, hI1⟩
    | 1, hk =>
      obtain rfl := Option.some.inj (show some ((cZ, .boolean) : ClassId × FieldType) = some q from hk)
      exact ⟨fun n z => ⟨fun k h => (by cases h), kZ, hZ2, pZ, hZ3⟩, hZ1⟩
    | 2, hk =>
      obtain rfl := Option.some.inj (show some ((cJ, .long) : ClassId × FieldType) = some q from hk)
      exact ⟨fun n z => ⟨fun k h => (by cases h), kJ, hJ2, pJ, hJ3⟩, hJ1⟩
    | k + 3, hk => exact nomatch (show (none : Option (ClassId × FieldType)) = some q from hk)
theorem law_str {s : State} {args : Array Value} {own tx : String} {k : Nat} (h1 : (Cond.stringRef own k tx).before args s = true) (h2 : (Cond.exactly (.string own k) "java/lang/String").before args s = true) : ∃ q : Nat, vk_R own k tx q s := by
  obtain ⟨a, c, cell, kA, q1, -⟩ := Cond.exactly_spec (args := args) (first := s) (o := none) (s := s) (idx := []) (t := .string own k) (cls := "java/lang/String") h2
  exact ⟨a, vk_R.of (A := args) h1 q1⟩
/-- what a throw needs stands at the start -/
theorem law_X {s : State} {args : Array Value} (hts : ∀ w ∈ lw_tbl, w.before args s = true) (hgv : (Jvm.Cond.and given_1 narrow_1).before args s = true) : eX (lA s) s s.heap := by
  have hs := flat_of_before _ hgv
  have hA : ∀ a : Nat, a < s.heap.size → ¬ lA s a := fun a h => Nat.not_le.mpr h
  exact ⟨vx_Zqof (hts _ (by decide +kernel)) (hts _ (by decide +kernel)) (hs _ (by decide +kernel)) hA, vx_Zqof (hts _ (by decide +kernel)) (hts _ (by decide +kernel)) (hs _ (by decide +kernel)) hA,
    law_str (hts _ (by decide +kernel)) (hs _ (by decide +kernel)), law_str (hts _ (by decide +kernel)) (hs _ (by decide +kernel)),
    va_Nw.of rfl (hts _ (by decide +kernel)), va_Nw.of rfl (hts _ (by decide +kernel)), va_Nc.of (hs _ (by decide +kernel)), va_Nc.of (hs _ (by decide +kernel)), va_Nw.of rfl (hts _ (by decide +kernel)), va_Nw.of rfl (hts _ (by decide +kernel)), va_Nw.of rfl (hts _ (by decide +kernel))⟩
theorem law_flag {l : Launch} (h : l.flags = flags0) : l.stackTraces = false := by
  unfold Launch.stackTraces
  rw [h]
  decide +kernel
