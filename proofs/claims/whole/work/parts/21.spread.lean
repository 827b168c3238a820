abbrev rm_X2_clear : Room := { frames := 1, cells := 0, slots := 0, locals := 23 }
set_option maxHeartbeats 4000000 in
set_option maxRecDepth 100000 in
theorem c_X2_clear (l : Launch) (E : eT) (sz : Nat) (o : Nat) (a : Nat) (b : Nat) (d : Nat) (op : Nat → Bool) (sp : Nat → Nat) (rc : Nat → Nat) (rn : Nat) : cM l yX2_clear wsX2_clear rm_X2_clear E sz [.ref o] (wSp E o a b d op sp rc rn) (fun u : Unit => none) (fun u : Unit => True) (fun u : Unit => wSp E o a b d op (fun _ => 0) rc 0) := by
  refine cM_intro (cc := cX2_clear) (maxL := 1) (ret := none) (by decide +kernel) rfl (Nat.le_of_ble_eq_true rfl) ?_
  intro p e s m args below meth cd hx hb hr hml hown hlocks hts hnm hK hsz hP A hD hA Q hQ ls hl
  have hown : s.vm.findClass RX2 = some m.cls := hown
  have hin2 : ∀ w ∈ u_ws RX2 TX2 4, w ∈ wsX2_clear := by decide +kernel
  have lk15 := hts (.fieldLink RX2 15 "ReefPilot$Spread" "steps" "[I") (by decide +kernel)
  have lk28 := hts (.fieldLink RX2 28 "ReefPilot$Spread" "reachedCells" "I") (by decide +kernel)
  have hS : va_S A s.heap s.heap [] := va_S.rf
  have hl : lv_has ls 1 [(0, .ref o)] := hl
  refine lv_aload_n hx hb dX2_clear_0 rfl (lv_at hl 0 rfl) ?_
  refine va_get (D := E.1) (ci := 2) (v := .ref b) (C := RX2) (T := TX2) (N := 4) hx hb hts hin2 hown hK.1 hP 0 rfl rfl 1 (by decide) lk15 (fun _ h9 => h9) rfl dX2_clear_1 ?_
  refine lv_iconst (v := nI 0) hx hb dX2_clear_4 (by decide +kernel) ?_
  refine e_callS (As := [.ref b, .int (nI 0)]) (rest := []) ⟨hx, hb, hml, hown, hts⟩ hK hP hD hS hA hl.1 (c_J7_fill_81 l E _ b (fun k => nI (sp k)) (nI 0)) (va_cwS 2 hts gX2_clear_J7_fill_53178 rfl rfl rfl (by decide +kernel) ⟨Nat.le_of_ble_eq_true rfl, Nat.le_of_ble_eq_true rfl⟩) [2] [0, 1, 3] rfl rfl rfl rfl (by decide) rfl rfl (Nat.le_of_ble_eq_true rfl) dX2_clear_5 ⟨Nat.le_of_ble_eq_true rfl, Nat.le_of_ble_eq_true rfl⟩ (fun u_1 H locs hu_2 hsz1 hP hD hS => ?_)
  have hP : va_P E.1 vwCl (wSp E o a b d op (fun _ => 0) rc rn) H := hP.sub [0, 1, 3, 2] rfl
  have hD : va_D A (wSp E o a b d op (fun _ => 0) rc rn) := hD.sub [0, 1, 3, 2] (by decide) rfl
  refine W.eq (g2 := F0 m 8 ls []) rfl ?_
  refine lv_aload_n hx hb dX2_clear_8 rfl (lv_at hl 0 rfl) ?_
  refine lv_iconst (v := nI 0) hx hb dX2_clear_9 (by decide +kernel) ?_
  refine va_put (D := E.1) (ci := 2) (v := .int (nI 0)) (ty := .int) (C := RX2) (T := TX2) (N := 4) hx hb hts hin2 tyX2 tyX2_ok nmX2 hown hK.1 hP hD hS 0 rfl rfl 3 (by decide) lk28 (fun _ h9 => h9) rfl (by decide +kernel) rfl rfl (Nat.le_of_ble_eq_true rfl) dX2_clear_10 (fun H locs hP hD hS => ?_)
  have hP : va_P E.1 vwCl (wSp E o a b d op (fun _ => 0) rc 0) H := hP
  have hD : va_D A (wSp E o a b d op (fun _ => 0) rc 0) := hD
  exact e_vret () hQ hx hb hr hlocks hP hD hS dX2_clear_13 (rfl) (Nat.le_of_ble_eq_true rfl) (Nat.le_of_ble_eq_true rfl) (trivial)

abbrev rm_X2_setOpen : Room := { frames := 0, cells := 0, slots := 0, locals := 0 }
set_option maxHeartbeats 4000000 in
set_option maxRecDepth 100000 in
theorem c_X2_setOpen (l : Launch) (E : eT) (sz : Nat) (o : Nat) (a : Nat) (b : Nat) (d : Nat) (op : Nat → Bool) (sp : Nat → Nat) (rc : Nat → Nat) (rn : Nat) (j : Nat) (v : Bool) (hj : j < 81) : cM l yX2_setOpen wsX2_setOpen rm_X2_setOpen E sz [.ref o, .int (nI j), .int (b2i v)] (wSp E o a b d op sp rc rn) (fun u : Unit => none) (fun u : Unit => True) (fun u : Unit => wSp E o a b d (updB op j v) sp rc rn) := by
  refine cM_intro (cc := cX2_setOpen) (maxL := 3) (ret := none) (by decide +kernel) rfl (Nat.le_of_ble_eq_true rfl) ?_
  intro p e s m args below meth cd hx hb hr hml hown hlocks hts hnm hK hsz hP A hD hA Q hQ ls hl
  have hown : s.vm.findClass RX2 = some m.cls := hown
  have hin2 : ∀ w ∈ u_ws RX2 TX2 4, w ∈ wsX2_setOpen := by decide +kernel
  have lk9 := hts (.fieldLink RX2 9 "ReefPilot$Spread" "open" "[Z") (by decide +kernel)
  have hS : va_S A s.heap s.heap [] := va_S.rf
  have hl : lv_has ls 3 [(0, .ref o), (1, .int (nI j)), (2, .int (b2i v))] := hl
  refine lv_aload_n hx hb dX2_setOpen_0 rfl (lv_at hl 0 rfl) ?_
  refine va_get (D := E.1) (ci := 2) (v := .ref a) (C := RX2) (T := TX2) (N := 4) hx hb hts hin2 hown hK.1 hP 0 rfl rfl 0 (by decide) lk9 (fun _ h9 => h9) rfl dX2_setOpen_1 ?_
  refine lv_iload_n hx hb dX2_setOpen_4 rfl (lv_at hl 1 rfl) ?_
  refine lv_iload_n hx hb dX2_setOpen_5 rfl (lv_at hl 2 rfl) ?_
  refine e_zast (x := v) hK hP hD hS 1 rfl j (by omega) (by decide) hx hb dX2_setOpen_6 (fun H locs hP hD hS => ?_)
  have hP : va_P E.1 vwCl (wSp E o a b d (updB op j v) sp rc rn) H := hP
  have hD : va_D A (wSp E o a b d (updB op j v) sp rc rn) := hD
  exact e_vret () hQ hx hb hr hlocks hP hD hS dX2_setOpen_7 (rfl) (Nat.le_of_ble_eq_true rfl) (Nat.le_of_ble_eq_true rfl) (trivial)

abbrev rm_X2_stepsTo : Room := { frames := 0, cells := 0, slots := 0, locals := 0 }
set_option maxHeartbeats 4000000 in
set_option maxRecDepth 100000 in
theorem c_X2_stepsTo (l : Launch) (E : eT) (sz : Nat) (o : Nat) (a : Nat) (b : Nat) (d : Nat) (op : Nat → Bool) (sp : Nat → Nat) (rc : Nat → Nat) (rn : Nat) (j : Nat) (hj : j < 81) : cM l yX2_stepsTo wsX2_stepsTo rm_X2_stepsTo E sz [.ref o, .int (nI j)] (wSp E o a b d op sp rc rn) (fun u : Unit => some (.int (nI (sp j)))) (fun u : Unit => True) (fun u : Unit => wSp E o a b d op sp rc rn) := by
  refine cM_intro (cc := cX2_stepsTo) (maxL := 2) (ret := (some .int)) (by decide +kernel) rfl (Nat.le_of_ble_eq_true rfl) ?_
  intro p e s m args below meth cd hx hb hr hml hown hlocks hts hnm hK hsz hP A hD hA Q hQ ls hl
  have hown : s.vm.findClass RX2 = some m.cls := hown
  have hin2 : ∀ w ∈ u_ws RX2 TX2 4, w ∈ wsX2_stepsTo := by decide +kernel
  have lk15 := hts (.fieldLink RX2 15 "ReefPilot$Spread" "steps" "[I") (by decide +kernel)
  have hS : va_S A s.heap s.heap [] := va_S.rf
  have hl : lv_has ls 2 [(0, .ref o), (1, .int (nI j))] := hl
  refine lv_aload_n hx hb dX2_stepsTo_0 rfl (lv_at hl 0 rfl) ?_
  refine va_get (D := E.1) (ci := 2) (v := .ref b) (C := RX2) (T := TX2) (N := 4) hx hb hts hin2 hown hK.1 hP 0 rfl rfl 1 (by decide) lk15 (fun _ h9 => h9) rfl dX2_stepsTo_1 ?_
  refine lv_iload_n hx hb dX2_stepsTo_4 rfl (lv_at hl 1 rfl) ?_
  refine e_nald hK hP 2 rfl j (by omega) (by decide) hx hb dX2_stepsTo_5 ?_
  exact e_iret () hQ hx hb hr hlocks hP hD hS dX2_stepsTo_6 (rfl) (Nat.le_of_ble_eq_true rfl) (Nat.le_of_ble_eq_true rfl) (trivial)

abbrev rm_X2_reach : Room := { frames := 0, cells := 0, slots := 0, locals := 0 }
set_option maxHeartbeats 4000000 in
set_option maxRecDepth 100000 in
theorem c_X2_reach (l : Launch) (E : eT) (sz : Nat) (o : Nat) (a : Nat) (b : Nat) (d : Nat) (op : Nat → Bool) (sp : Nat → Nat) (rc : Nat → Nat) (rn : Nat) (j : Nat) (c : Nat) (hj : j < 81) (hok : bOk (sp, rc, rn)) : cM l yX2_reach wsX2_reach rm_X2_reach E sz [.ref o, .int (nI j), .int (nI c)] (wSp E o a b d op sp rc rn) (fun u : Unit => none) (fun u : Unit => True) (fun u : Unit => wSp E o a b d op ((bReach op (sp, rc, rn) j c).1) ((bReach op (sp, rc, rn) j c).2.1) ((bReach op (sp, rc, rn) j c).2.2)) := by
  refine cM_intro (cc := cX2_reach) (maxL := 3) (ret := none) (by decide +kernel) rfl (Nat.le_of_ble_eq_true rfl) ?_
  intro p e s m args below meth cd hx hb hr hml hown hlocks hts hnm hK hsz hP A hD hA Q hQ ls hl
  have hown : s.vm.findClass RX2 = some m.cls := hown
  have hin2 : ∀ w ∈ u_ws RX2 TX2 4, w ∈ wsX2_reach := by decide +kernel
  have lk9 := hts (.fieldLink RX2 9 "ReefPilot$Spread" "open" "[Z") (by decide +kernel)
  have lk15 := hts (.fieldLink RX2 15 "ReefPilot$Spread" "steps" "[I") (by decide +kernel)
  have lk19 := hts (.fieldLink RX2 19 "ReefPilot$Spread" "reached" "[I") (by decide +kernel)
  have lk28 := hts (.fieldLink RX2 28 "ReefPilot$Spread" "reachedCells" "I") (by decide +kernel)
  have hS : va_S A s.heap s.heap [] := va_S.rf
  have hl : lv_has ls 3 [(0, .ref o), (1, .int (nI j)), (2, .int (nI c))] := hl
  have hn81 : rn ≤ 81 := hok.1
  refine lv_aload_n hx hb dX2_reach_0 rfl (lv_at hl 0 rfl) ?_
  refine va_get (D := E.1) (ci := 2) (v := .ref a) (C := RX2) (T := TX2) (N := 4) hx hb hts hin2 hown hK.1 hP 0 rfl rfl 0 (by decide) lk9 (fun _ h9 => h9) rfl dX2_reach_1 ?_
  refine lv_iload_n hx hb dX2_reach_4 rfl (lv_at hl 1 rfl) ?_
  refine e_zald hK hP 1 rfl j (by omega) (by decide) hx hb dX2_reach_5 ?_
  refine b_if_eq (x := op j) (tgt := 54) hx hb dX2_reach_6 (by decide) (fun c6 => ?_) (fun c6 => ?_)
  · have hP : va_P E.1 vwCl (wSp E o a b d op ((bReach op (sp, rc, rn) j c).1) ((bReach op (sp, rc, rn) j c).2.1) ((bReach op (sp, rc, rn) j c).2.2)) s.heap := by (first | rw [bReach_mk (c := c) c6 c15 c24] | rw [bReach_no (c := c) (fun z => by rw [c6] at z; exact absurd z.1 (by decide))] | rw [bReach_no (c := c) (fun z => c15 z.2)] | rw [bReach_no3 (c := c) c24]); exact hP
    have hD : va_D A (wSp E o a b d op ((bReach op (sp, rc, rn) j c).1) ((bReach op (sp, rc, rn) j c).2.1) ((bReach op (sp, rc, rn) j c).2.2)) := by (first | rw [bReach_mk (c := c) c6 c15 c24] | rw [bReach_no (c := c) (fun z => by rw [c6] at z; exact absurd z.1 (by decide))] | rw [bReach_no (c := c) (fun z => c15 z.2)] | rw [bReach_no3 (c := c) c24]); exact hD
    exact e_vret () hQ hx hb hr hlocks hP hD hS dX2_reach_54 (rfl) (Nat.le_of_ble_eq_true rfl) (Nat.le_of_ble_eq_true rfl) (trivial)
  · refine lv_aload_n hx hb dX2_reach_9 rfl (lv_at hl 0 rfl) ?_
    refine va_get (D := E.1) (ci := 2) (v := .ref b) (C := RX2) (T := TX2) (N := 4) hx hb hts hin2 hown hK.1 hP 0 rfl rfl 1 (by decide) lk15 (fun _ h9 => h9) rfl dX2_reach_10 ?_
    refine lv_iload_n hx hb dX2_reach_13 rfl (lv_at hl 1 rfl) ?_
    refine e_nald hK hP 2 rfl j (by omega) (by decide) hx hb dX2_reach_14 ?_
    have hs3 : sp j ≤ rn := hok.2.2 j
    refine n_if_ne (x := sp j) (by omega) (tgt := 54) hx hb dX2_reach_15 (by decide) (fun c15 => ?_) (fun c15 => ?_)
    · have hP : va_P E.1 vwCl (wSp E o a b d op ((bReach op (sp, rc, rn) j c).1) ((bReach op (sp, rc, rn) j c).2.1) ((bReach op (sp, rc, rn) j c).2.2)) s.heap := by (first | rw [bReach_mk (c := c) c6 c15 c24] | rw [bReach_no (c := c) (fun z => by rw [c6] at z; exact absurd z.1 (by decide))] | rw [bReach_no (c := c) (fun z => c15 z.2)] | rw [bReach_no3 (c := c) c24]); exact hP
      have hD : va_D A (wSp E o a b d op ((bReach op (sp, rc, rn) j c).1) ((bReach op (sp, rc, rn) j c).2.1) ((bReach op (sp, rc, rn) j c).2.2)) := by (first | rw [bReach_mk (c := c) c6 c15 c24] | rw [bReach_no (c := c) (fun z => by rw [c6] at z; exact absurd z.1 (by decide))] | rw [bReach_no (c := c) (fun z => c15 z.2)] | rw [bReach_no3 (c := c) c24]); exact hD
      exact e_vret () hQ hx hb hr hlocks hP hD hS dX2_reach_54 (rfl) (Nat.le_of_ble_eq_true rfl) (Nat.le_of_ble_eq_true rfl) (trivial)
    · refine lv_aload_n hx hb dX2_reach_18 rfl (lv_at hl 0 rfl) ?_
      refine va_get (D := E.1) (ci := 2) (v := .int (nI rn)) (C := RX2) (T := TX2) (N := 4) hx hb hts hin2 hown hK.1 hP 0 rfl rfl 3 (by decide) lk28 (fun _ h9 => h9) rfl dX2_reach_19 ?_
      refine lv_bipush (v := nI 81) hx hb dX2_reach_22 (by decide +kernel) ?_
      refine n_icmp_ge (x := rn) (y := 81) (by omega) (by omega) (tgt := 54) hx hb dX2_reach_24 (by decide) (fun c24 => ?_) (fun c24 => ?_)
      · have hP : va_P E.1 vwCl (wSp E o a b d op ((bReach op (sp, rc, rn) j c).1) ((bReach op (sp, rc, rn) j c).2.1) ((bReach op (sp, rc, rn) j c).2.2)) s.heap := by (first | rw [bReach_mk (c := c) c6 c15 c24] | rw [bReach_no (c := c) (fun z => by rw [c6] at z; exact absurd z.1 (by decide))] | rw [bReach_no (c := c) (fun z => c15 z.2)] | rw [bReach_no3 (c := c) c24]); exact hP
        have hD : va_D A (wSp E o a b d op ((bReach op (sp, rc, rn) j c).1) ((bReach op (sp, rc, rn) j c).2.1) ((bReach op (sp, rc, rn) j c).2.2)) := by (first | rw [bReach_mk (c := c) c6 c15 c24] | rw [bReach_no (c := c) (fun z => by rw [c6] at z; exact absurd z.1 (by decide))] | rw [bReach_no (c := c) (fun z => c15 z.2)] | rw [bReach_no3 (c := c) c24]); exact hD
        exact e_vret () hQ hx hb hr hlocks hP hD hS dX2_reach_54 (rfl) (Nat.le_of_ble_eq_true rfl) (Nat.le_of_ble_eq_true rfl) (trivial)
      · refine lv_aload_n hx hb dX2_reach_27 rfl (lv_at hl 0 rfl) ?_
        refine va_get (D := E.1) (ci := 2) (v := .ref b) (C := RX2) (T := TX2) (N := 4) hx hb hts hin2 hown hK.1 hP 0 rfl rfl 1 (by decide) lk15 (fun _ h9 => h9) rfl dX2_reach_28 ?_
        refine lv_iload_n hx hb dX2_reach_31 rfl (lv_at hl 1 rfl) ?_
        refine lv_iload_n hx hb dX2_reach_32 rfl (lv_at hl 2 rfl) ?_
        refine e_nast (x := c) hK hP hD hS 2 rfl j (by omega) (by decide) hx hb dX2_reach_33 (fun H locs hP hD hS => ?_)
        have hP : va_P E.1 vwCl (wSp E o a b d op (va_up sp j c) rc rn) H := hP
        have hD : va_D A (wSp E o a b d op (va_up sp j c) rc rn) := hD
        refine lv_aload_n hx hb dX2_reach_34 rfl (lv_at hl 0 rfl) ?_
        refine va_get (D := E.1) (ci := 2) (v := .ref d) (C := RX2) (T := TX2) (N := 4) hx hb hts hin2 hown hK.1 hP 0 rfl rfl 2 (by decide) lk19 (fun _ h9 => h9) rfl dX2_reach_35 ?_
        refine lv_aload_n hx hb dX2_reach_38 rfl (lv_at hl 0 rfl) ?_
        refine va_get (D := E.1) (ci := 2) (v := .int (nI rn)) (C := RX2) (T := TX2) (N := 4) hx hb hts hin2 hown hK.1 hP 0 rfl rfl 3 (by decide) lk28 (fun _ h9 => h9) rfl dX2_reach_39 ?_
        refine lv_iload_n hx hb dX2_reach_42 rfl (lv_at hl 1 rfl) ?_
        refine e_nast (x := j) hK hP hD hS 3 rfl rn (by omega) (by decide) hx hb dX2_reach_43 (fun H locs hP hD hS => ?_)
        have hP : va_P E.1 vwCl (wSp E o a b d op (va_up sp j c) (va_up rc rn j) rn) H := hP
        have hD : va_D A (wSp E o a b d op (va_up sp j c) (va_up rc rn j) rn) := hD
        refine lv_aload_n hx hb dX2_reach_44 rfl (lv_at hl 0 rfl) ?_
        refine lv_dup hx hb dX2_reach_45 rfl ?_
        refine va_get (D := E.1) (ci := 2) (v := .int (nI rn)) (C := RX2) (T := TX2) (N := 4) hx hb hts hin2 hown hK.1 hP 0 rfl rfl 3 (by decide) lk28 (fun _ h9 => h9) rfl dX2_reach_46 ?_
        refine lv_iconst (v := nI 1) hx hb dX2_reach_49 (by decide +kernel) ?_
        refine lv_iadd hx hb dX2_reach_50 ?_
        refine e_top (nI_add _ _) ?_
        refine va_put (D := E.1) (ci := 2) (v := .int (nI (rn + 1))) (ty := .int) (C := RX2) (T := TX2) (N := 4) hx hb hts hin2 tyX2 tyX2_ok nmX2 hown hK.1 hP hD hS 0 rfl rfl 3 (by decide) lk28 (fun _ h9 => h9) rfl (by decide +kernel) rfl rfl (Nat.le_of_ble_eq_true rfl) dX2_reach_51 (fun H locs hP hD hS => ?_)
        have hP : va_P E.1 vwCl (wSp E o a b d op (va_up sp j c) (va_up rc rn j) (rn + 1)) H := hP
        have hD : va_D A (wSp E o a b d op (va_up sp j c) (va_up rc rn j) (rn + 1)) := hD
        have hP : va_P E.1 vwCl (wSp E o a b d op ((bReach op (sp, rc, rn) j c).1) ((bReach op (sp, rc, rn) j c).2.1) ((bReach op (sp, rc, rn) j c).2.2)) H := by (first | rw [bReach_mk (c := c) c6 c15 c24] | rw [bReach_no (c := c) (fun z => by rw [c6] at z; exact absurd z.1 (by decide))] | rw [bReach_no (c := c) (fun z => c15 z.2)] | rw [bReach_no3 (c := c) c24]); exact hP
        have hD : va_D A (wSp E o a b d op ((bReach op (sp, rc, rn) j c).1) ((bReach op (sp, rc, rn) j c).2.1) ((bReach op (sp, rc, rn) j c).2.2)) := by (first | rw [bReach_mk (c := c) c6 c15 c24] | rw [bReach_no (c := c) (fun z => by rw [c6] at z; exact absurd z.1 (by decide))] | rw [bReach_no (c := c) (fun z => c15 z.2)] | rw [bReach_no3 (c := c) c24]); exact hD
        exact e_vret () hQ hx hb hr hlocks hP hD hS dX2_reach_54 (rfl) (Nat.le_of_ble_eq_true rfl) (Nat.le_of_ble_eq_true rfl) (trivial)

abbrev rm_X2_goOnFrom : Room := { frames := 1, cells := 0, slots := 0, locals := 22 }
set_option maxHeartbeats 4000000 in
set_option maxRecDepth 100000 in
theorem c_X2_goOnFrom (l : Launch) (E : eT) (sz : Nat) (o : Nat) (a : Nat) (b : Nat) (d : Nat) (op : Nat → Bool) (sp : Nat → Nat) (rc : Nat → Nat) (rn : Nat) (j : Nat) (hj : j ≤ 81) (hok : bOk (sp, rc, rn)) : cM l yX2_goOnFrom wsX2_goOnFrom rm_X2_goOnFrom E sz [.ref o, .int (nI j)] (wSp E o a b d op sp rc rn) (fun u : Unit => none) (fun u : Unit => True) (fun u : Unit => wSp E o a b d op ((bGo op 82 ((sp, rc, rn)) j).1) ((bGo op 82 ((sp, rc, rn)) j).2.1) ((bGo op 82 ((sp, rc, rn)) j).2.2)) := by
  refine cM_intro (cc := cX2_goOnFrom) (maxL := 6) (ret := none) (by decide +kernel) rfl (Nat.le_of_ble_eq_true rfl) ?_
  intro p e s m args below meth cd hx hb hr hml hown hlocks hts hnm hK hsz hP A hD hA Q hQ ls hl
  have hown : s.vm.findClass RX2 = some m.cls := hown
  have hin2 : ∀ w ∈ u_ws RX2 TX2 4, w ∈ wsX2_goOnFrom := by decide +kernel
  have lk15 := hts (.fieldLink RX2 15 "ReefPilot$Spread" "steps" "[I") (by decide +kernel)
  have lk19 := hts (.fieldLink RX2 19 "ReefPilot$Spread" "reached" "[I") (by decide +kernel)
  have lk28 := hts (.fieldLink RX2 28 "ReefPilot$Spread" "reachedCells" "I") (by decide +kernel)
  have hainiX4_neighbour := hts (.initialized RX4) (by decide +kernel)
  have hastX4_neighbour := hts (.static yX4_neighbour) (by decide +kernel)
  have hS : va_S A s.heap s.heap [] := va_S.rf
  have hl : lv_has ls 6 [(0, .ref o), (1, .int (nI j))] := hl
  refine lv_iload_n hx hb dX2_goOnFrom_0 rfl (lv_at hl 1 rfl) ?_
  refine lv_istore_n (lv' := [(2, .int (nI j)), (0, .ref o), (1, .int (nI j))]) hx hb dX2_goOnFrom_1 rfl hl (by decide) rfl (fun ls hl => ?_)
  have L2 : ∀ (fuel : Nat) (z : Nat) (f : Nat) (s1 : Nat → Nat) (r1 : Nat → Nat) (n1 : Nat) (hz : z ≤ 81) (hf : f + z = 82 + j) (hjz : j ≤ z) (hok1 : bOk (s1, r1, n1)) (hgo : bGo op f (s1, r1, n1) z = bGo op 82 (sp, rc, rn) j) (hfuel : 81 - z < fuel) (H : Heap) (locs : List Loc), va_P E.1 vwCl (wSp E o a b d op s1 r1 n1) H → va_D A (wSp E o a b d op s1 r1 n1) → va_S A s.heap H locs → ∀ ls : Array Slot, lv_has ls 6 [(2, .int (nI z)), (0, .ref o), (1, .int (nI j))] → W p l e rm_X2_goOnFrom s m args below meth cd H locs 0 0 Q (F0 m 2 ls []) := by
    intro fuel
    induction fuel with
    | zero => intros; omega
    | succ fuel ihL2 =>
      intro z f s1 r1 n1 hz hf hjz hok1 hgo hfuel H locs hP hD hS ls hl
      have hn81 : n1 ≤ 81 := hok1.1
      refine lv_iload_n hx hb dX2_goOnFrom_2 rfl (lv_at hl 0 rfl) ?_
      refine lv_bipush (v := nI 81) hx hb dX2_goOnFrom_3 (by decide +kernel) ?_
      refine n_icmp_ge (x := z) (y := 81) (by omega) (by omega) (tgt := 72) hx hb dX2_goOnFrom_5 (by decide) (fun c5 => ?_) (fun c5 => ?_)
      · have hP : va_P E.1 vwCl (wSp E o a b d op ((bGo op 82 ((sp, rc, rn)) j).1) ((bGo op 82 ((sp, rc, rn)) j).2.1) ((bGo op 82 ((sp, rc, rn)) j).2.2)) H := by (rw [← hgo, bGo_stop (x := (s1, r1, n1)) (by first | (rintro ⟨h1, h2⟩; omega) | (rintro ⟨h1, h2⟩; have h3 : z < n1 := h2; omega))]); exact hP
        have hD : va_D A (wSp E o a b d op ((bGo op 82 ((sp, rc, rn)) j).1) ((bGo op 82 ((sp, rc, rn)) j).2.1) ((bGo op 82 ((sp, rc, rn)) j).2.2)) := by (rw [← hgo, bGo_stop (x := (s1, r1, n1)) (by first | (rintro ⟨h1, h2⟩; omega) | (rintro ⟨h1, h2⟩; have h3 : z < n1 := h2; omega))]); exact hD
        exact e_vret () hQ hx hb hr hlocks hP hD hS dX2_goOnFrom_72 (rfl) (Nat.le_of_ble_eq_true rfl) (Nat.le_of_ble_eq_true rfl) (trivial)
      · refine lv_iload_n hx hb dX2_goOnFrom_8 rfl (lv_at hl 0 rfl) ?_
        refine lv_aload_n hx hb dX2_goOnFrom_9 rfl (lv_at hl 1 rfl) ?_
        refine va_get (D := E.1) (ci := 2) (v := .int (nI n1)) (C := RX2) (T := TX2) (N := 4) hx hb hts hin2 hown hK.1 hP 0 rfl rfl 3 (by decide) lk28 (fun _ h9 => h9) rfl dX2_goOnFrom_10 ?_
        refine n_icmp_ge (x := z) (y := n1) (by omega) (by omega) (tgt := 72) hx hb dX2_goOnFrom_13 (by decide) (fun c13 => ?_) (fun c13 => ?_)
        · have hP : va_P E.1 vwCl (wSp E o a b d op ((bGo op 82 ((sp, rc, rn)) j).1) ((bGo op 82 ((sp, rc, rn)) j).2.1) ((bGo op 82 ((sp, rc, rn)) j).2.2)) H := by (rw [← hgo, bGo_stop (x := (s1, r1, n1)) (by first | (rintro ⟨h1, h2⟩; omega) | (rintro ⟨h1, h2⟩; have h3 : z < n1 := h2; omega))]); exact hP
          have hD : va_D A (wSp E o a b d op ((bGo op 82 ((sp, rc, rn)) j).1) ((bGo op 82 ((sp, rc, rn)) j).2.1) ((bGo op 82 ((sp, rc, rn)) j).2.2)) := by (rw [← hgo, bGo_stop (x := (s1, r1, n1)) (by first | (rintro ⟨h1, h2⟩; omega) | (rintro ⟨h1, h2⟩; have h3 : z < n1 := h2; omega))]); exact hD
          exact e_vret () hQ hx hb hr hlocks hP hD hS dX2_goOnFrom_72 (rfl) (Nat.le_of_ble_eq_true rfl) (Nat.le_of_ble_eq_true rfl) (trivial)
        · refine lv_aload_n hx hb dX2_goOnFrom_16 rfl (lv_at hl 1 rfl) ?_
          refine va_get (D := E.1) (ci := 2) (v := .ref d) (C := RX2) (T := TX2) (N := 4) hx hb hts hin2 hown hK.1 hP 0 rfl rfl 2 (by decide) lk19 (fun _ h9 => h9) rfl dX2_goOnFrom_17 ?_
          refine lv_iload_n hx hb dX2_goOnFrom_20 rfl (lv_at hl 0 rfl) ?_
          refine e_nald hK hP 3 rfl z (by omega) (by decide) hx hb dX2_goOnFrom_21 ?_
          refine lv_istore_n (lv' := [(3, .int (nI (r1 z))), (2, .int (nI z)), (0, .ref o), (1, .int (nI j))]) hx hb dX2_goOnFrom_22 rfl hl (by decide) rfl (fun ls hl => ?_)
          refine lv_iconst (v := nI 0) hx hb dX2_goOnFrom_23 (by decide +kernel) ?_
          refine lv_istore (lv' := [(4, .int (nI 0)), (3, .int (nI (r1 z))), (2, .int (nI z)), (0, .ref o), (1, .int (nI j))]) hx hb dX2_goOnFrom_24 hl (by decide) rfl (fun ls hl => ?_)
          have L26 : ∀ (fuel : Nat) (q : Nat) (s2 : Nat → Nat) (r2 : Nat → Nat) (n2 : Nat) (hq : q ≤ 4) (hy : (s2, r2, n2) = bDirs op (s1, r1, n1) (r1 z) q) (hfuel : 4 - q < fuel) (H : Heap) (locs : List Loc), va_P E.1 vwCl (wSp E o a b d op s2 r2 n2) H → va_D A (wSp E o a b d op s2 r2 n2) → va_S A s.heap H locs → ∀ ls : Array Slot, lv_has ls 6 [(4, .int (nI q)), (3, .int (nI (r1 z))), (2, .int (nI z)), (0, .ref o), (1, .int (nI j))] → W p l e rm_X2_goOnFrom s m args below meth cd H locs 0 0 Q (F0 m 26 ls []) := by
            intro fuel
            induction fuel with
            | zero => intros; omega
            | succ fuel ihL26 =>
              intro q s2 r2 n2 hq hy hfuel H locs hP hD hS ls hl
              have hok2 : bOk (s2, r2, n2) := by rw [hy]; exact bDirs_ok hok1 (hok1.2.1 z (by assumption)) q
              have hr81 : r1 z < 81 := hok1.2.1 z (by assumption)
              have hs2 : s2 (r1 z) ≤ n2 := hok2.2.2 _
              have hn2 : n2 ≤ 81 := hok2.1
              refine lv_iload hx hb dX2_goOnFrom_26 (lv_at hl 0 rfl) ?_
              refine lv_iconst (v := nI 4) hx hb dX2_goOnFrom_28 (by decide +kernel) ?_
              refine n_icmp_ge (x := q) (y := 4) (by omega) (by omega) (tgt := 66) hx hb dX2_goOnFrom_29 (by decide) (fun c29 => ?_) (fun c29 => ?_)
              · have hye : bDirs op (s1, r1, n1) (r1 z) 4 = (s2, r2, n2) := by rw [hy, show q = 4 by omega]
                have hoke : bOk (s2, r2, n2) := hok2
                refine lv_iinc (v := nI (z + 1)) (lv' := [(2, .int (nI (z + 1))), (4, .int (nI q)), (3, .int (nI (r1 z))), (0, .ref o), (1, .int (nI j))]) hx hb dX2_goOnFrom_66 hl (k := 2) rfl (nI_add z 1) (by decide) rfl (fun ls hl => ?_)
                refine lv_goto (tgt := 2) hx hb dX2_goOnFrom_69 (by decide) ?_
                exact ihL2 (z + 1) (f - 1) s2 r2 n2 (by first | omega | assumption | rfl | (simp_all; done)) (by first | omega | assumption | rfl | (simp_all; done)) (by first | omega | assumption | rfl | (simp_all; done)) (hoke) (by rw [← hgo, show f = (f - 1) + 1 by omega, bGo_step (x := (s1, r1, n1)) ⟨by omega, by omega⟩]; exact congrArg (fun y => bGo op (f - 1) y (z + 1)) hye.symm) (by omega) _ _ hP hD hS _ (lv_sub hl [0, 3, 4] rfl)
              · refine lv_iload_n hx hb dX2_goOnFrom_32 rfl (lv_at hl 1 rfl) ?_
                refine lv_iload hx hb dX2_goOnFrom_33 (lv_at hl 0 rfl) ?_
                refine e_callSN (As := [.int (nI (r1 z)), .int (nI q)]) (rest := []) ⟨hx, hb, hml, hown, hts⟩ hK hP hD hS hA hl.1 (c_X4_neighbour l E _ (r1 z) q (by first | omega | assumption | rfl | (simp_all; done)) (by first | omega | assumption | rfl | (simp_all; done))) ⟨va_cnB 2 hts gX2_goOnFrom_X4_neighbour_n40 rfl rfl rfl hK.2.2.1 hainiX4_neighbour (by decide +kernel) ⟨Nat.le_of_ble_eq_true rfl, Nat.le_of_ble_eq_true rfl⟩, hastX4_neighbour, trivial⟩ [] [0, 1, 2, 3] rfl rfl rfl rfl (by decide) rfl rfl (Nat.le_of_ble_eq_true rfl) dX2_goOnFrom_35 ⟨Nat.le_of_ble_eq_true rfl, Nat.le_of_ble_eq_true rfl⟩ (fun u_1 H locs hu_2 hsz1 hP hD hS => ?_)
                have hP : va_P E.1 vwCl (wSp E o a b d op s2 r2 n2) H := hP.sub [0, 1, 2, 3] rfl
                have hD : va_D A (wSp E o a b d op s2 r2 n2) := hD.sub [0, 1, 2, 3] (by decide) rfl
                refine W.eq (g2 := F0 m 38 ls [.int (oI (nb (r1 z) q))]) rfl ?_
                refine lv_istore (lv' := [(5, .int (oI (nb (r1 z) q))), (4, .int (nI q)), (3, .int (nI (r1 z))), (2, .int (nI z)), (0, .ref o), (1, .int (nI j))]) hx hb dX2_goOnFrom_38 hl (by decide) rfl (fun ls hl => ?_)
                refine lv_iload hx hb dX2_goOnFrom_40 (lv_at hl 0 rfl) ?_
                refine lv_iconst (v := (-1)) hx hb dX2_goOnFrom_42 (by decide +kernel) ?_
                refine o_icmp_eq (x := nb (r1 z) q) (nb_ob hr81) (tgt := 60) hx hb dX2_goOnFrom_43 (by decide) (fun c43 => ?_) (fun q_3 c43 => ?_)
                · refine lv_iinc (v := nI (q + 1)) (lv' := [(4, .int (nI (q + 1))), (5, .int (oI (nb (r1 z) q))), (3, .int (nI (r1 z))), (2, .int (nI z)), (0, .ref o), (1, .int (nI j))]) hx hb dX2_goOnFrom_60 hl (k := 1) rfl (nI_add q 1) (by decide) rfl (fun ls hl => ?_)
                  refine lv_goto (tgt := 26) hx hb dX2_goOnFrom_63 (by decide) ?_
                  exact ihL26 (q + 1) s2 r2 n2 (by first | omega | assumption | rfl | (simp_all; done)) (by first | (show _ = bDir op (bDirs op (s1, r1, n1) (r1 z) q) (r1 z) q; rw [← hy, bDir_none c43]) | (show _ = bDir op (bDirs op (s1, r1, n1) (r1 z) q) (r1 z) q; rw [← hy, bDir_some c43])) (by omega) _ _ hP hD hS _ (lv_sub hl [0, 2, 3, 4, 5] rfl)
                · refine lv_aload_n hx hb dX2_goOnFrom_46 rfl (lv_at hl 4 rfl) ?_
                  refine lv_iload hx hb dX2_goOnFrom_47 (lv_at hl 0 rfl) ?_
                  refine e_top (show oI (nb (r1 z) q) = nI q_3 by rw [c43]; rfl) ?_
                  have hq_ : q_3 < 81 := nb_lt hr81 c43
                  refine lv_aload_n hx hb dX2_goOnFrom_49 rfl (lv_at hl 4 rfl) ?_
                  refine va_get (D := E.1) (ci := 2) (v := .ref b) (C := RX2) (T := TX2) (N := 4) hx hb hts hin2 hown hK.1 hP 0 rfl rfl 1 (by decide) lk15 (fun _ h9 => h9) rfl dX2_goOnFrom_50 ?_
                  refine lv_iload_n hx hb dX2_goOnFrom_53 rfl (lv_at hl 2 rfl) ?_
                  refine e_nald hK hP 2 rfl (r1 z) (by omega) (by decide) hx hb dX2_goOnFrom_54 ?_
                  refine lv_iconst (v := nI 1) hx hb dX2_goOnFrom_55 (by decide +kernel) ?_
                  refine lv_iadd hx hb dX2_goOnFrom_56 ?_
                  refine e_top (nI_add _ _) ?_
                  refine e_callV (As := [.int (nI q_3), .int (nI ((s2 (r1 z)) + 1))]) (rest := []) ⟨hx, hb, hml, hown, hts⟩ hK hP hD hS hA hl.1 (c_X2_reach l E _ o a b d op s2 r2 n2 q_3 ((s2 (r1 z)) + 1) (hq_) (hok2)) (cwV 2 hts gX2_goOnFrom_X2_reach rfl rfl rfl (by decide +kernel) ⟨Nat.le_of_ble_eq_true rfl, Nat.le_of_ble_eq_true rfl⟩) [0, 1, 2, 3] [] rfl rfl rfl rfl (by decide) (q0 := 0) (ci := 2) rfl rfl rfl rfl (Nat.le_of_ble_eq_true rfl) dX2_goOnFrom_57 ⟨Nat.le_of_ble_eq_true rfl, Nat.le_of_ble_eq_true rfl⟩ (fun u_4 H locs hu_5 hsz1 hP hD hS => ?_)
                  have hP : va_P E.1 vwCl (wSp E o a b d op ((bReach op (s2, r2, n2) q_3 ((s2 (r1 z)) + 1)).1) ((bReach op (s2, r2, n2) q_3 ((s2 (r1 z)) + 1)).2.1) ((bReach op (s2, r2, n2) q_3 ((s2 (r1 z)) + 1)).2.2)) H := hP.sub [0, 1, 2, 3] rfl
                  have hD : va_D A (wSp E o a b d op ((bReach op (s2, r2, n2) q_3 ((s2 (r1 z)) + 1)).1) ((bReach op (s2, r2, n2) q_3 ((s2 (r1 z)) + 1)).2.1) ((bReach op (s2, r2, n2) q_3 ((s2 (r1 z)) + 1)).2.2)) := hD.sub [0, 1, 2, 3] (by decide) rfl
                  refine W.eq (g2 := F0 m 60 ls []) rfl ?_
                  refine lv_iinc (v := nI (q + 1)) (lv' := [(4, .int (nI (q + 1))), (5, .int (oI (nb (r1 z) q))), (3, .int (nI (r1 z))), (2, .int (nI z)), (0, .ref o), (1, .int (nI j))]) hx hb dX2_goOnFrom_60 hl (k := 1) rfl (nI_add q 1) (by decide) rfl (fun ls hl => ?_)
                  refine lv_goto (tgt := 26) hx hb dX2_goOnFrom_63 (by decide) ?_
                  exact ihL26 (q + 1) ((bReach op (s2, r2, n2) q_3 ((s2 (r1 z)) + 1)).1) ((bReach op (s2, r2, n2) q_3 ((s2 (r1 z)) + 1)).2.1) ((bReach op (s2, r2, n2) q_3 ((s2 (r1 z)) + 1)).2.2) (by first | omega | assumption | rfl | (simp_all; done)) (by first | (show _ = bDir op (bDirs op (s1, r1, n1) (r1 z) q) (r1 z) q; rw [← hy, bDir_none c43]) | (show _ = bDir op (bDirs op (s1, r1, n1) (r1 z) q) (r1 z) q; rw [← hy, bDir_some c43])) (by omega) _ _ hP hD hS _ (lv_sub hl [0, 2, 3, 4, 5] rfl)
          exact L26 (4 - 0 + 1) 0 s1 r1 n1 (by first | omega | assumption | rfl | (simp_all; done)) (by first | omega | assumption | rfl | (simp_all; done)) (Nat.lt_succ_self _) _ _ hP hD hS _ (lv_sub hl [0, 1, 2, 3, 4] rfl)
  exact L2 (81 - j + 1) j 82 sp rc rn (by first | omega | assumption | rfl | (simp_all; done)) (by omega) (by first | omega | assumption | rfl | (simp_all; done)) (hok) (rfl) (Nat.lt_succ_self _) _ _ hP hD hS _ (lv_sub hl [0, 1, 2] rfl)

abbrev rm_X2_goFromRow : Room := { frames := 2, cells := 0, slots := 0, locals := 47 }
set_option maxHeartbeats 4000000 in
set_option maxRecDepth 100000 in
theorem c_X2_goFromRow (l : Launch) (E : eT) (sz : Nat) (o : Nat) (a : Nat) (b : Nat) (d : Nat) (op : Nat → Bool) (sp : Nat → Nat) (rc : Nat → Nat) (rn : Nat) (j : Nat) (hj : j + 9 ≤ 81) (hok : bOk (sp, rc, rn)) : cM l yX2_goFromRow wsX2_goFromRow rm_X2_goFromRow E sz [.ref o, .int (nI j)] (wSp E o a b d op sp rc rn) (fun u : Unit => none) (fun u : Unit => True) (fun u : Unit => wSp E o a b d op ((bGo op 82 (bRow op (sp, rc, rn) j 9) rn).1) ((bGo op 82 (bRow op (sp, rc, rn) j 9) rn).2.1) ((bGo op 82 (bRow op (sp, rc, rn) j 9) rn).2.2)) := by
  refine cM_intro (cc := cX2_goFromRow) (maxL := 4) (ret := none) (by decide +kernel) rfl (Nat.le_of_ble_eq_true rfl) ?_
  intro p e s m args below meth cd hx hb hr hml hown hlocks hts hnm hK hsz hP A hD hA Q hQ ls hl
  have hown : s.vm.findClass RX2 = some m.cls := hown
  have hin2 : ∀ w ∈ u_ws RX2 TX2 4, w ∈ wsX2_goFromRow := by decide +kernel
  have lk28 := hts (.fieldLink RX2 28 "ReefPilot$Spread" "reachedCells" "I") (by decide +kernel)
  have hS : va_S A s.heap s.heap [] := va_S.rf
  have hl : lv_has ls 4 [(0, .ref o), (1, .int (nI j))] := hl
  refine lv_aload_n hx hb dX2_goFromRow_0 rfl (lv_at hl 0 rfl) ?_
  refine va_get (D := E.1) (ci := 2) (v := .int (nI rn)) (C := RX2) (T := TX2) (N := 4) hx hb hts hin2 hown hK.1 hP 0 rfl rfl 3 (by decide) lk28 (fun _ h9 => h9) rfl dX2_goFromRow_1 ?_
  refine lv_istore_n (lv' := [(2, .int (nI rn)), (0, .ref o), (1, .int (nI j))]) hx hb dX2_goFromRow_4 rfl hl (by decide) rfl (fun ls hl => ?_)
  refine lv_iconst (v := nI 0) hx hb dX2_goFromRow_5 (by decide +kernel) ?_
  refine lv_istore_n (lv' := [(3, .int (nI 0)), (2, .int (nI rn)), (0, .ref o), (1, .int (nI j))]) hx hb dX2_goFromRow_6 rfl hl (by decide) rfl (fun ls hl => ?_)
  have L7 : ∀ (fuel : Nat) (z : Nat) (s1 : Nat → Nat) (r1 : Nat → Nat) (n1 : Nat) (hz : z ≤ 9) (hy : (s1, r1, n1) = bRow op (sp, rc, rn) j z) (hfuel : 9 - z < fuel) (H : Heap) (locs : List Loc), va_P E.1 vwCl (wSp E o a b d op s1 r1 n1) H → va_D A (wSp E o a b d op s1 r1 n1) → va_S A s.heap H locs → ∀ ls : Array Slot, lv_has ls 4 [(3, .int (nI z)), (2, .int (nI rn)), (0, .ref o), (1, .int (nI j))] → W p l e rm_X2_goFromRow s m args below meth cd H locs 0 0 Q (F0 m 7 ls []) := by
    intro fuel
    induction fuel with
    | zero => intros; omega
    | succ fuel ihL7 =>
      intro z s1 r1 n1 hz hy hfuel H locs hP hD hS ls hl
      have hok1 : bOk (s1, r1, n1) := by rw [hy]; exact bRow_ok hok z (by omega)
      refine lv_iload_n hx hb dX2_goFromRow_7 rfl (lv_at hl 0 rfl) ?_
      refine lv_bipush (v := nI 9) hx hb dX2_goFromRow_8 (by decide +kernel) ?_
      refine n_icmp_ge (x := z) (y := 9) (by omega) (by omega) (tgt := 27) hx hb dX2_goFromRow_10 (by decide) (fun c10 => ?_) (fun c10 => ?_)
      · have hye : (s1, r1, n1) = bRow op (sp, rc, rn) j 9 := by rw [hy, show z = 9 by omega]
        refine lv_aload_n hx hb dX2_goFromRow_27 rfl (lv_at hl 2 rfl) ?_
        refine lv_iload_n hx hb dX2_goFromRow_28 rfl (lv_at hl 1 rfl) ?_
        refine e_callV (As := [.int (nI rn)]) (rest := []) ⟨hx, hb, hml, hown, hts⟩ hK hP hD hS hA hl.1 (c_X2_goOnFrom l E _ o a b d op s1 r1 n1 rn (hok.1) (hok1)) (cwV 1 hts gX2_goFromRow_X2_goOnFrom rfl rfl rfl (by decide +kernel) ⟨Nat.le_of_ble_eq_true rfl, Nat.le_of_ble_eq_true rfl⟩) [0, 1, 2, 3] [] rfl rfl rfl rfl (by decide) (q0 := 0) (ci := 2) rfl rfl rfl rfl (Nat.le_of_ble_eq_true rfl) dX2_goFromRow_29 ⟨Nat.le_of_ble_eq_true rfl, Nat.le_of_ble_eq_true rfl⟩ (fun u_1 H locs hu_2 hsz1 hP hD hS => ?_)
        have hP : va_P E.1 vwCl (wSp E o a b d op ((bGo op 82 ((s1, r1, n1)) rn).1) ((bGo op 82 ((s1, r1, n1)) rn).2.1) ((bGo op 82 ((s1, r1, n1)) rn).2.2)) H := hP.sub [0, 1, 2, 3] rfl
        have hD : va_D A (wSp E o a b d op ((bGo op 82 ((s1, r1, n1)) rn).1) ((bGo op 82 ((s1, r1, n1)) rn).2.1) ((bGo op 82 ((s1, r1, n1)) rn).2.2)) := hD.sub [0, 1, 2, 3] (by decide) rfl
        refine W.eq (g2 := F0 m 32 ls []) rfl ?_
        have hP : va_P E.1 vwCl (wSp E o a b d op ((bGo op 82 (bRow op (sp, rc, rn) j 9) rn).1) ((bGo op 82 (bRow op (sp, rc, rn) j 9) rn).2.1) ((bGo op 82 (bRow op (sp, rc, rn) j 9) rn).2.2)) H := by (rw [← hye]); exact hP
        have hD : va_D A (wSp E o a b d op ((bGo op 82 (bRow op (sp, rc, rn) j 9) rn).1) ((bGo op 82 (bRow op (sp, rc, rn) j 9) rn).2.1) ((bGo op 82 (bRow op (sp, rc, rn) j 9) rn).2.2)) := by (rw [← hye]); exact hD
        exact e_vret () hQ hx hb hr hlocks hP hD hS dX2_goFromRow_32 (rfl) (Nat.le_of_ble_eq_true rfl) (Nat.le_of_ble_eq_true rfl) (trivial)
      · refine lv_aload_n hx hb dX2_goFromRow_13 rfl (lv_at hl 2 rfl) ?_
        refine lv_iload_n hx hb dX2_goFromRow_14 rfl (lv_at hl 3 rfl) ?_
        refine lv_iload_n hx hb dX2_goFromRow_15 rfl (lv_at hl 0 rfl) ?_
        refine lv_iadd hx hb dX2_goFromRow_16 ?_
        refine e_top (nI_add _ _) ?_
        refine lv_iconst (v := nI 1) hx hb dX2_goFromRow_17 (by decide +kernel) ?_
        refine e_callV (As := [.int (nI (j + z)), .int (nI 1)]) (rest := []) ⟨hx, hb, hml, hown, hts⟩ hK hP hD hS hA hl.1 (c_X2_reach l E _ o a b d op s1 r1 n1 (j + z) 1 (by omega) (hok1)) (cwV 2 hts gX2_goFromRow_X2_reach rfl rfl rfl (by decide +kernel) ⟨Nat.le_of_ble_eq_true rfl, Nat.le_of_ble_eq_true rfl⟩) [0, 1, 2, 3] [] rfl rfl rfl rfl (by decide) (q0 := 0) (ci := 2) rfl rfl rfl rfl (Nat.le_of_ble_eq_true rfl) dX2_goFromRow_18 ⟨Nat.le_of_ble_eq_true rfl, Nat.le_of_ble_eq_true rfl⟩ (fun u_3 H locs hu_4 hsz1 hP hD hS => ?_)
        have hP : va_P E.1 vwCl (wSp E o a b d op ((bReach op (s1, r1, n1) (j + z) 1).1) ((bReach op (s1, r1, n1) (j + z) 1).2.1) ((bReach op (s1, r1, n1) (j + z) 1).2.2)) H := hP.sub [0, 1, 2, 3] rfl
        have hD : va_D A (wSp E o a b d op ((bReach op (s1, r1, n1) (j + z) 1).1) ((bReach op (s1, r1, n1) (j + z) 1).2.1) ((bReach op (s1, r1, n1) (j + z) 1).2.2)) := hD.sub [0, 1, 2, 3] (by decide) rfl
        refine W.eq (g2 := F0 m 21 ls []) rfl ?_
        refine lv_iinc (v := nI (z + 1)) (lv' := [(3, .int (nI (z + 1))), (2, .int (nI rn)), (0, .ref o), (1, .int (nI j))]) hx hb dX2_goFromRow_21 hl (k := 0) rfl (nI_add z 1) (by decide) rfl (fun ls hl => ?_)
        refine lv_goto (tgt := 7) hx hb dX2_goFromRow_24 (by decide) ?_
        exact ihL7 (z + 1) ((bReach op (s1, r1, n1) (j + z) 1).1) ((bReach op (s1, r1, n1) (j + z) 1).2.1) ((bReach op (s1, r1, n1) (j + z) 1).2.2) (by first | omega | assumption | rfl | (simp_all; done)) (by show _ = bReach op (bRow op (sp, rc, rn) j z) (j + z) 1; rw [← hy]) (by omega) _ _ hP hD hS _ (lv_sub hl [0, 1, 2, 3] rfl)
  exact L7 (9 - 0 + 1) 0 sp rc rn (by first | omega | assumption | rfl | (simp_all; done)) (rfl) (Nat.lt_succ_self _) _ _ hP hD hS _ (lv_sub hl [0, 1, 2, 3] rfl)

abbrev rm_X2_goFromCell : Room := { frames := 2, cells := 0, slots := 0, locals := 47 }
set_option maxHeartbeats 4000000 in
set_option maxRecDepth 100000 in
theorem c_X2_goFromCell (l : Launch) (E : eT) (sz : Nat) (o : Nat) (a : Nat) (b : Nat) (d : Nat) (op : Nat → Bool) (sp : Nat → Nat) (rc : Nat → Nat) (rn : Nat) (j : Nat) (hj : j < 81) (hok : bOk (sp, rc, rn)) : cM l yX2_goFromCell wsX2_goFromCell rm_X2_goFromCell E sz [.ref o, .int (nI j)] (wSp E o a b d op sp rc rn) (fun u : Unit => some (.int (nI ((bCell op (sp, rc, rn) j).2.2 - rn)))) (fun u : Unit => True) (fun u : Unit => wSp E o a b d op ((bCell op (sp, rc, rn) j).1) ((bCell op (sp, rc, rn) j).2.1) ((bCell op (sp, rc, rn) j).2.2)) := by
  refine cM_intro (cc := cX2_goFromCell) (maxL := 3) (ret := (some .int)) (by decide +kernel) rfl (Nat.le_of_ble_eq_true rfl) ?_
  intro p e s m args below meth cd hx hb hr hml hown hlocks hts hnm hK hsz hP A hD hA Q hQ ls hl
  have hown : s.vm.findClass RX2 = some m.cls := hown
  have hin2 : ∀ w ∈ u_ws RX2 TX2 4, w ∈ wsX2_goFromCell := by decide +kernel
  have lk28 := hts (.fieldLink RX2 28 "ReefPilot$Spread" "reachedCells" "I") (by decide +kernel)
  have hS : va_S A s.heap s.heap [] := va_S.rf
  have hl : lv_has ls 3 [(0, .ref o), (1, .int (nI j))] := hl
  refine lv_aload_n hx hb dX2_goFromCell_0 rfl (lv_at hl 0 rfl) ?_
  refine va_get (D := E.1) (ci := 2) (v := .int (nI rn)) (C := RX2) (T := TX2) (N := 4) hx hb hts hin2 hown hK.1 hP 0 rfl rfl 3 (by decide) lk28 (fun _ h9 => h9) rfl dX2_goFromCell_1 ?_
  refine lv_istore_n (lv' := [(2, .int (nI rn)), (0, .ref o), (1, .int (nI j))]) hx hb dX2_goFromCell_4 rfl hl (by decide) rfl (fun ls hl => ?_)
  refine lv_aload_n hx hb dX2_goFromCell_5 rfl (lv_at hl 1 rfl) ?_
  refine lv_iload_n hx hb dX2_goFromCell_6 rfl (lv_at hl 2 rfl) ?_
  refine lv_iconst (v := nI 1) hx hb dX2_goFromCell_7 (by decide +kernel) ?_
  refine e_callV (As := [.int (nI j), .int (nI 1)]) (rest := []) ⟨hx, hb, hml, hown, hts⟩ hK hP hD hS hA hl.1 (c_X2_reach l E _ o a b d op sp rc rn j 1 (by first | omega | assumption | rfl | (simp_all; done)) (hok)) (cwV 2 hts gX2_goFromCell_X2_reach rfl rfl rfl (by decide +kernel) ⟨Nat.le_of_ble_eq_true rfl, Nat.le_of_ble_eq_true rfl⟩) [0, 1, 2, 3] [] rfl rfl rfl rfl (by decide) (q0 := 0) (ci := 2) rfl rfl rfl rfl (Nat.le_of_ble_eq_true rfl) dX2_goFromCell_8 ⟨Nat.le_of_ble_eq_true rfl, Nat.le_of_ble_eq_true rfl⟩ (fun u_1 H locs hu_2 hsz1 hP hD hS => ?_)
  have hP : va_P E.1 vwCl (wSp E o a b d op ((bReach op (sp, rc, rn) j 1).1) ((bReach op (sp, rc, rn) j 1).2.1) ((bReach op (sp, rc, rn) j 1).2.2)) H := hP.sub [0, 1, 2, 3] rfl
  have hD : va_D A (wSp E o a b d op ((bReach op (sp, rc, rn) j 1).1) ((bReach op (sp, rc, rn) j 1).2.1) ((bReach op (sp, rc, rn) j 1).2.2)) := hD.sub [0, 1, 2, 3] (by decide) rfl
  refine W.eq (g2 := F0 m 11 ls []) rfl ?_
  refine lv_aload_n hx hb dX2_goFromCell_11 rfl (lv_at hl 1 rfl) ?_
  refine lv_iload_n hx hb dX2_goFromCell_12 rfl (lv_at hl 0 rfl) ?_
  refine e_callV (As := [.int (nI rn)]) (rest := []) ⟨hx, hb, hml, hown, hts⟩ hK hP hD hS hA hl.1 (c_X2_goOnFrom l E _ o a b d op ((bReach op (sp, rc, rn) j 1).1) ((bReach op (sp, rc, rn) j 1).2.1) ((bReach op (sp, rc, rn) j 1).2.2) rn (hok.1) (bReach_ok hok hj (by omega))) (cwV 1 hts gX2_goFromCell_X2_goOnFrom rfl rfl rfl (by decide +kernel) ⟨Nat.le_of_ble_eq_true rfl, Nat.le_of_ble_eq_true rfl⟩) [0, 1, 2, 3] [] rfl rfl rfl rfl (by decide) (q0 := 0) (ci := 2) rfl rfl rfl rfl (Nat.le_of_ble_eq_true rfl) dX2_goFromCell_13 ⟨Nat.le_of_ble_eq_true rfl, Nat.le_of_ble_eq_true rfl⟩ (fun u_3 H locs hu_4 hsz1 hP hD hS => ?_)
  have hP : va_P E.1 vwCl (wSp E o a b d op ((bGo op 82 ((((bReach op (sp, rc, rn) j 1).1), ((bReach op (sp, rc, rn) j 1).2.1), ((bReach op (sp, rc, rn) j 1).2.2))) rn).1) ((bGo op 82 ((((bReach op (sp, rc, rn) j 1).1), ((bReach op (sp, rc, rn) j 1).2.1), ((bReach op (sp, rc, rn) j 1).2.2))) rn).2.1) ((bGo op 82 ((((bReach op (sp, rc, rn) j 1).1), ((bReach op (sp, rc, rn) j 1).2.1), ((bReach op (sp, rc, rn) j 1).2.2))) rn).2.2)) H := hP.sub [0, 1, 2, 3] rfl
  have hD : va_D A (wSp E o a b d op ((bGo op 82 ((((bReach op (sp, rc, rn) j 1).1), ((bReach op (sp, rc, rn) j 1).2.1), ((bReach op (sp, rc, rn) j 1).2.2))) rn).1) ((bGo op 82 ((((bReach op (sp, rc, rn) j 1).1), ((bReach op (sp, rc, rn) j 1).2.1), ((bReach op (sp, rc, rn) j 1).2.2))) rn).2.1) ((bGo op 82 ((((bReach op (sp, rc, rn) j 1).1), ((bReach op (sp, rc, rn) j 1).2.1), ((bReach op (sp, rc, rn) j 1).2.2))) rn).2.2)) := hD.sub [0, 1, 2, 3] (by decide) rfl
  refine W.eq (g2 := F0 m 16 ls []) rfl ?_
  refine lv_aload_n hx hb dX2_goFromCell_16 rfl (lv_at hl 1 rfl) ?_
  refine va_get (D := E.1) (ci := 2) (v := .int (nI ((bGo op 82 ((((bReach op (sp, rc, rn) j 1).1), ((bReach op (sp, rc, rn) j 1).2.1), ((bReach op (sp, rc, rn) j 1).2.2))) rn).2.2))) (C := RX2) (T := TX2) (N := 4) hx hb hts hin2 hown hK.1 hP 0 rfl rfl 3 (by decide) lk28 (fun _ h9 => h9) rfl dX2_goFromCell_17 ?_
  refine lv_iload_n hx hb dX2_goFromCell_20 rfl (lv_at hl 0 rfl) ?_
  refine lv_isub hx hb dX2_goFromCell_21 ?_
  refine e_top (pk_sub (bCell_le (op := op) (x := (sp, rc, rn)) (p := j)).1) ?_
  exact e_iret () hQ hx hb hr hlocks hP hD hS dX2_goFromCell_22 (rfl) (Nat.le_of_ble_eq_true rfl) (Nat.le_of_ble_eq_true rfl) (trivial)

abbrev rm_X2_nearerFrom : Room := { frames := 1, cells := 0, slots := 0, locals := 22 }
set_option maxHeartbeats 4000000 in
set_option maxRecDepth 100000 in
theorem c_X2_nearerFrom (l : Launch) (E : eT) (sz : Nat) (o : Nat) (a : Nat) (b : Nat) (d : Nat) (op : Nat → Bool) (sp : Nat → Nat) (rc : Nat → Nat) (rn : Nat) (j : Nat) (hj : j < 81) (hs : ∀ k, sp k ≤ 81) : cM l yX2_nearerFrom wsX2_nearerFrom rm_X2_nearerFrom E sz [.ref o, .int (nI j)] (wSp E o a b d op sp rc rn) (fun u : Unit => some (.int (nI (nrr sp j 4)))) (fun u : Unit => True) (fun u : Unit => wSp E o a b d op sp rc rn) := by
  refine cM_intro (cc := cX2_nearerFrom) (maxL := 5) (ret := (some .int)) (by decide +kernel) rfl (Nat.le_of_ble_eq_true rfl) ?_
  intro p e s m args below meth cd hx hb hr hml hown hlocks hts hnm hK hsz hP A hD hA Q hQ ls hl
  have hown : s.vm.findClass RX2 = some m.cls := hown
  have hin2 : ∀ w ∈ u_ws RX2 TX2 4, w ∈ wsX2_nearerFrom := by decide +kernel
  have lk15 := hts (.fieldLink RX2 15 "ReefPilot$Spread" "steps" "[I") (by decide +kernel)
  have hainiX4_neighbour := hts (.initialized RX4) (by decide +kernel)
  have hastX4_neighbour := hts (.static yX4_neighbour) (by decide +kernel)
  have hS : va_S A s.heap s.heap [] := va_S.rf
  have hl : lv_has ls 5 [(0, .ref o), (1, .int (nI j))] := hl
  refine lv_iload_n hx hb dX2_nearerFrom_0 rfl (lv_at hl 1 rfl) ?_
  refine lv_istore_n (lv' := [(2, .int (nI j)), (0, .ref o), (1, .int (nI j))]) hx hb dX2_nearerFrom_1 rfl hl (by decide) rfl (fun ls hl => ?_)
  refine lv_iconst (v := nI 0) hx hb dX2_nearerFrom_2 (by decide +kernel) ?_
  refine lv_istore_n (lv' := [(3, .int (nI 0)), (2, .int (nI j)), (0, .ref o), (1, .int (nI j))]) hx hb dX2_nearerFrom_3 rfl hl (by decide) rfl (fun ls hl => ?_)
  have L4 : ∀ (fuel : Nat) (v : Nat) (z : Nat) (hz : z ≤ 4) (hv : v = nrr sp j z) (hfuel : 4 - z < fuel) (H : Heap) (locs : List Loc), va_P E.1 vwCl (wSp E o a b d op sp rc rn) H → va_D A (wSp E o a b d op sp rc rn) → va_S A s.heap H locs → ∀ ls : Array Slot, lv_has ls 5 [(3, .int (nI z)), (2, .int (nI v)), (0, .ref o), (1, .int (nI j))] → W p l e rm_X2_nearerFrom s m args below meth cd H locs 0 0 Q (F0 m 4 ls []) := by
    intro fuel
    induction fuel with
    | zero => intros; omega
    | succ fuel ihL4 =>
      intro v z hz hv hfuel H locs hP hD hS ls hl
      have hv81 : v < 81 := by rw [hv]; exact nrr_lt hj z
      have hsv := hs v
      refine lv_iload_n hx hb dX2_nearerFrom_4 rfl (lv_at hl 0 rfl) ?_
      refine lv_iconst (v := nI 4) hx hb dX2_nearerFrom_5 (by decide +kernel) ?_
      refine n_icmp_ge (x := z) (y := 4) (by omega) (by omega) (tgt := 57) hx hb dX2_nearerFrom_6 (by decide) (fun c6 => ?_) (fun c6 => ?_)
      · refine lv_iload_n hx hb dX2_nearerFrom_57 rfl (lv_at hl 1 rfl) ?_
        exact e_iret () hQ hx hb hr hlocks hP hD hS dX2_nearerFrom_58 (rvi (by rw [hv, show z = 4 by omega])) (Nat.le_of_ble_eq_true rfl) (Nat.le_of_ble_eq_true rfl) (trivial)
      · refine lv_iload_n hx hb dX2_nearerFrom_9 rfl (lv_at hl 3 rfl) ?_
        refine lv_iload_n hx hb dX2_nearerFrom_10 rfl (lv_at hl 0 rfl) ?_
        refine e_callSN (As := [.int (nI j), .int (nI z)]) (rest := []) ⟨hx, hb, hml, hown, hts⟩ hK hP hD hS hA hl.1 (c_X4_neighbour l E _ j z (by first | omega | assumption | rfl | (simp_all; done)) (by first | omega | assumption | rfl | (simp_all; done))) ⟨va_cnB 2 hts gX2_nearerFrom_X4_neighbour_n40 rfl rfl rfl hK.2.2.1 hainiX4_neighbour (by decide +kernel) ⟨Nat.le_of_ble_eq_true rfl, Nat.le_of_ble_eq_true rfl⟩, hastX4_neighbour, trivial⟩ [] [0, 1, 2, 3] rfl rfl rfl rfl (by decide) rfl rfl (Nat.le_of_ble_eq_true rfl) dX2_nearerFrom_11 ⟨Nat.le_of_ble_eq_true rfl, Nat.le_of_ble_eq_true rfl⟩ (fun u_1 H locs hu_2 hsz1 hP hD hS => ?_)
        have hP : va_P E.1 vwCl (wSp E o a b d op sp rc rn) H := hP.sub [0, 1, 2, 3] rfl
        have hD : va_D A (wSp E o a b d op sp rc rn) := hD.sub [0, 1, 2, 3] (by decide) rfl
        refine W.eq (g2 := F0 m 14 ls [.int (oI (nb j z))]) rfl ?_
        refine lv_istore (lv' := [(4, .int (oI (nb j z))), (3, .int (nI z)), (2, .int (nI v)), (0, .ref o), (1, .int (nI j))]) hx hb dX2_nearerFrom_14 hl (by decide) rfl (fun ls hl => ?_)
        refine lv_iload hx hb dX2_nearerFrom_16 (lv_at hl 0 rfl) ?_
        refine lv_iconst (v := (-1)) hx hb dX2_nearerFrom_18 (by decide +kernel) ?_
        refine o_icmp_eq (x := nb j z) (nb_ob hj) (tgt := 51) hx hb dX2_nearerFrom_19 (by decide) (fun c19 => ?_) (fun q_3 c19 => ?_)
        · refine lv_iinc (v := nI (z + 1)) (lv' := [(3, .int (nI (z + 1))), (4, .int (oI (nb j z))), (2, .int (nI v)), (0, .ref o), (1, .int (nI j))]) hx hb dX2_nearerFrom_51 hl (k := 1) rfl (nI_add z 1) (by decide) rfl (fun ls hl => ?_)
          refine lv_goto (tgt := 4) hx hb dX2_nearerFrom_54 (by decide) ?_
          exact ihL4 v (z + 1) (by first | omega | assumption | rfl | (simp_all; done)) (by first | (rw [nrr_none c19]; exact hv) | (rw [nrr_some c19, ← hv, if_pos ⟨by omega, by omega⟩]; done) | (rw [nrr_some c19, ← hv, if_neg (by omega)]; done)) (by omega) _ _ hP hD hS _ (lv_sub hl [0, 2, 3, 4] rfl)
        · refine lv_aload_n hx hb dX2_nearerFrom_22 rfl (lv_at hl 3 rfl) ?_
          refine va_get (D := E.1) (ci := 2) (v := .ref b) (C := RX2) (T := TX2) (N := 4) hx hb hts hin2 hown hK.1 hP 0 rfl rfl 1 (by decide) lk15 (fun _ h9 => h9) rfl dX2_nearerFrom_23 ?_
          refine lv_iload hx hb dX2_nearerFrom_26 (lv_at hl 0 rfl) ?_
          refine e_top (show oI (nb j z) = nI q_3 by rw [c19]; rfl) ?_
          have hq_ : q_3 < 81 := nb_lt hj c19
          have hsq := hs q_3
          refine e_nald hK hP 2 rfl q_3 (by omega) (by decide) hx hb dX2_nearerFrom_28 ?_
          refine n_if_le (x := sp q_3) (by omega) (tgt := 51) hx hb dX2_nearerFrom_29 (by decide) (fun c29 => ?_) (fun c29 => ?_)
          · refine lv_iinc (v := nI (z + 1)) (lv' := [(3, .int (nI (z + 1))), (4, .int (oI (nb j z))), (2, .int (nI v)), (0, .ref o), (1, .int (nI j))]) hx hb dX2_nearerFrom_51 hl (k := 1) rfl (nI_add z 1) (by decide) rfl (fun ls hl => ?_)
            refine lv_goto (tgt := 4) hx hb dX2_nearerFrom_54 (by decide) ?_
            exact ihL4 v (z + 1) (by first | omega | assumption | rfl | (simp_all; done)) (by first | (rw [nrr_none c19]; exact hv) | (rw [nrr_some c19, ← hv, if_pos ⟨by omega, by omega⟩]; done) | (rw [nrr_some c19, ← hv, if_neg (by omega)]; done)) (by omega) _ _ hP hD hS _ (lv_sub hl [0, 2, 3, 4] rfl)
          · refine lv_aload_n hx hb dX2_nearerFrom_32 rfl (lv_at hl 3 rfl) ?_
            refine va_get (D := E.1) (ci := 2) (v := .ref b) (C := RX2) (T := TX2) (N := 4) hx hb hts hin2 hown hK.1 hP 0 rfl rfl 1 (by decide) lk15 (fun _ h9 => h9) rfl dX2_nearerFrom_33 ?_
            refine lv_iload hx hb dX2_nearerFrom_36 (lv_at hl 0 rfl) ?_
            refine e_top (show oI (nb j z) = nI q_3 by rw [c19]; rfl) ?_
            refine e_nald hK hP 2 rfl q_3 (by omega) (by decide) hx hb dX2_nearerFrom_38 ?_
            refine lv_aload_n hx hb dX2_nearerFrom_39 rfl (lv_at hl 3 rfl) ?_
            refine va_get (D := E.1) (ci := 2) (v := .ref b) (C := RX2) (T := TX2) (N := 4) hx hb hts hin2 hown hK.1 hP 0 rfl rfl 1 (by decide) lk15 (fun _ h9 => h9) rfl dX2_nearerFrom_40 ?_
            refine lv_iload_n hx hb dX2_nearerFrom_43 rfl (lv_at hl 2 rfl) ?_
            refine e_nald hK hP 2 rfl v (by omega) (by decide) hx hb dX2_nearerFrom_44 ?_
            refine n_icmp_ge (x := sp q_3) (y := sp v) (by omega) (by omega) (tgt := 51) hx hb dX2_nearerFrom_45 (by decide) (fun c45 => ?_) (fun c45 => ?_)
            · refine lv_iinc (v := nI (z + 1)) (lv' := [(3, .int (nI (z + 1))), (4, .int (oI (nb j z))), (2, .int (nI v)), (0, .ref o), (1, .int (nI j))]) hx hb dX2_nearerFrom_51 hl (k := 1) rfl (nI_add z 1) (by decide) rfl (fun ls hl => ?_)
              refine lv_goto (tgt := 4) hx hb dX2_nearerFrom_54 (by decide) ?_
              exact ihL4 v (z + 1) (by first | omega | assumption | rfl | (simp_all; done)) (by first | (rw [nrr_none c19]; exact hv) | (rw [nrr_some c19, ← hv, if_pos ⟨by omega, by omega⟩]; done) | (rw [nrr_some c19, ← hv, if_neg (by omega)]; done)) (by omega) _ _ hP hD hS _ (lv_sub hl [0, 2, 3, 4] rfl)
            · refine lv_iload hx hb dX2_nearerFrom_48 (lv_at hl 0 rfl) ?_
              refine e_top (show oI (nb j z) = nI q_3 by rw [c19]; rfl) ?_
              refine lv_istore_n (lv' := [(2, .int (nI q_3)), (4, .int (oI (nb j z))), (3, .int (nI z)), (0, .ref o), (1, .int (nI j))]) hx hb dX2_nearerFrom_50 rfl hl (by decide) rfl (fun ls hl => ?_)
              refine lv_iinc (v := nI (z + 1)) (lv' := [(3, .int (nI (z + 1))), (2, .int (nI q_3)), (4, .int (oI (nb j z))), (0, .ref o), (1, .int (nI j))]) hx hb dX2_nearerFrom_51 hl (k := 2) rfl (nI_add z 1) (by decide) rfl (fun ls hl => ?_)
              refine lv_goto (tgt := 4) hx hb dX2_nearerFrom_54 (by decide) ?_
              exact ihL4 q_3 (z + 1) (by first | omega | assumption | rfl | (simp_all; done)) (by first | (rw [nrr_none c19]; exact hv) | (rw [nrr_some c19, ← hv, if_pos ⟨by omega, by omega⟩]; done) | (rw [nrr_some c19, ← hv, if_neg (by omega)]; done)) (by omega) _ _ hP hD hS _ (lv_sub hl [0, 1, 3, 4] rfl)
  exact L4 (4 - 0 + 1) j 0 (by first | omega | assumption | rfl | (simp_all; done)) (rfl) (Nat.lt_succ_self _) _ _ hP hD hS _ (lv_sub hl [0, 1, 2, 3] rfl)
