abbrev rm_X3_write : Room := { frames := 0, cells := 0, slots := 0, locals := 0 }
set_option maxHeartbeats 4000000 in
set_option maxRecDepth 100000 in
theorem c_X3_write (l : Launch) (E : eT) (sz : Nat) (o : Nat) (a : Nat) (b : Nat) (wm : Nat → Int32) (st : Nat → Int32) (j : Nat) (v : Int32) (w : Int32) (hj : j < 12) : cM l yX3_write wsX3_write rm_X3_write E sz [.ref o, .int (nI j), .int v, .int w] (wTb E o a b wm st) (fun u : Unit => none) (fun u : Unit => True) (fun u : Unit => wTb E o a b (upd wm j v) (upd st j w)) := by
  refine cM_intro (cc := cX3_write) (maxL := 4) (ret := none) (by decide +kernel) rfl (Nat.le_of_ble_eq_true rfl) ?_
  intro p e s m args below meth cd hx hb hr hml hown hlocks hts hnm hK hsz hP A hD hA Q hQ ls hl
  have hown : s.vm.findClass RX3 = some m.cls := hown
  have hin3 : ∀ w ∈ u_ws RX3 TX3 2, w ∈ wsX3_write := by decide +kernel
  have lk9 := hts (.fieldLink RX3 9 "ReefPilot$Table" "warmth" "[I") (by decide +kernel)
  have lk15 := hts (.fieldLink RX3 15 "ReefPilot$Table" "storm" "[I") (by decide +kernel)
  have hS : va_S A s.heap s.heap [] := va_S.rf
  have hl : lv_has ls 4 [(0, .ref o), (1, .int (nI j)), (2, .int v), (3, .int w)] := hl
  refine lv_aload_n hx hb dX3_write_0 rfl (lv_at hl 0 rfl) ?_
  refine va_get (D := E.1) (ci := 3) (v := .ref a) (C := RX3) (T := TX3) (N := 2) hx hb hts hin3 hown hK.1 hP 0 rfl rfl 0 (by decide) lk9 (fun _ h9 => h9) rfl dX3_write_1 ?_
  refine lv_iload_n hx hb dX3_write_4 rfl (lv_at hl 1 rfl) ?_
  refine lv_iload_n hx hb dX3_write_5 rfl (lv_at hl 2 rfl) ?_
  refine e_iast hK hP hD hS 1 rfl j (by omega) (by decide) hx hb dX3_write_6 (fun H locs hP hD hS => ?_)
  have hP : va_P E.1 vwCl (wTb E o a b (upd wm j v) st) H := hP
  have hD : va_D A (wTb E o a b (upd wm j v) st) := hD
  refine lv_aload_n hx hb dX3_write_7 rfl (lv_at hl 0 rfl) ?_
  refine va_get (D := E.1) (ci := 3) (v := .ref b) (C := RX3) (T := TX3) (N := 2) hx hb hts hin3 hown hK.1 hP 0 rfl rfl 1 (by decide) lk15 (fun _ h9 => h9) rfl dX3_write_8 ?_
  refine lv_iload_n hx hb dX3_write_11 rfl (lv_at hl 1 rfl) ?_
  refine lv_iload_n hx hb dX3_write_12 rfl (lv_at hl 3 rfl) ?_
  refine e_iast hK hP hD hS 2 rfl j (by omega) (by decide) hx hb dX3_write_13 (fun H locs hP hD hS => ?_)
  have hP : va_P E.1 vwCl (wTb E o a b (upd wm j v) (upd st j w)) H := hP
  have hD : va_D A (wTb E o a b (upd wm j v) (upd st j w)) := hD
  exact e_vret () hQ hx hb hr hlocks hP hD hS dX3_write_14 (rfl) (Nat.le_of_ble_eq_true rfl) (Nat.le_of_ble_eq_true rfl) (trivial)

abbrev rm_X3_entry : Room := { frames := 0, cells := 0, slots := 0, locals := 0 }
set_option maxHeartbeats 4000000 in
set_option maxRecDepth 100000 in
theorem c_X3_entry (l : Launch) (E : eT) (sz : Nat) (o : Nat) (a : Nat) (b : Nat) (wm : Nat → Int32) (st : Nat → Int32) (j : Nat) (hj : j < 12) : cM l yX3_entry wsX3_entry rm_X3_entry E sz [.ref o, .int (nI j)] (wTb E o a b wm st) (fun u : Unit => some (.int (nI 10 * wm j + st j))) (fun u : Unit => True) (fun u : Unit => wTb E o a b wm st) := by
  refine cM_intro (cc := cX3_entry) (maxL := 2) (ret := (some .int)) (by decide +kernel) rfl (Nat.le_of_ble_eq_true rfl) ?_
  intro p e s m args below meth cd hx hb hr hml hown hlocks hts hnm hK hsz hP A hD hA Q hQ ls hl
  have hown : s.vm.findClass RX3 = some m.cls := hown
  have hin3 : ∀ w ∈ u_ws RX3 TX3 2, w ∈ wsX3_entry := by decide +kernel
  have lk9 := hts (.fieldLink RX3 9 "ReefPilot$Table" "warmth" "[I") (by decide +kernel)
  have lk15 := hts (.fieldLink RX3 15 "ReefPilot$Table" "storm" "[I") (by decide +kernel)
  have hS : va_S A s.heap s.heap [] := va_S.rf
  have hl : lv_has ls 2 [(0, .ref o), (1, .int (nI j))] := hl
  refine lv_bipush (v := nI 10) hx hb dX3_entry_0 (by decide +kernel) ?_
  refine lv_aload_n hx hb dX3_entry_2 rfl (lv_at hl 0 rfl) ?_
  refine va_get (D := E.1) (ci := 3) (v := .ref a) (C := RX3) (T := TX3) (N := 2) hx hb hts hin3 hown hK.1 hP 0 rfl rfl 0 (by decide) lk9 (fun _ h9 => h9) rfl dX3_entry_3 ?_
  refine lv_iload_n hx hb dX3_entry_6 rfl (lv_at hl 1 rfl) ?_
  refine e_iald hK hP 1 rfl j (by omega) (by decide) hx hb dX3_entry_7 ?_
  refine lv_imul hx hb dX3_entry_8 ?_
  refine lv_aload_n hx hb dX3_entry_9 rfl (lv_at hl 0 rfl) ?_
  refine va_get (D := E.1) (ci := 3) (v := .ref b) (C := RX3) (T := TX3) (N := 2) hx hb hts hin3 hown hK.1 hP 0 rfl rfl 1 (by decide) lk15 (fun _ h9 => h9) rfl dX3_entry_10 ?_
  refine lv_iload_n hx hb dX3_entry_13 rfl (lv_at hl 1 rfl) ?_
  refine e_iald hK hP 2 rfl j (by omega) (by decide) hx hb dX3_entry_14 ?_
  refine lv_iadd hx hb dX3_entry_15 ?_
  exact e_iret () hQ hx hb hr hlocks hP hD hS dX3_entry_16 (rfl) (Nat.le_of_ble_eq_true rfl) (Nat.le_of_ble_eq_true rfl) (trivial)

abbrev rm_X3_warmthIn : Room := { frames := 1, cells := 0, slots := 0, locals := 22 }
set_option maxHeartbeats 4000000 in
set_option maxRecDepth 100000 in
theorem c_X3_warmthIn (l : Launch) (E : eT) (sz : Nat) (o : Nat) (a : Nat) (b : Nat) (wm : Nat → Int32) (st : Nat → Int32) (x : Nat) (hx_ : x < 2 ^ 31) : cM l yX3_warmthIn wsX3_warmthIn rm_X3_warmthIn E sz [.ref o, .int (nI x)] (wTb E o a b wm st) (fun u : Unit => some (.int (wm (x % 12)))) (fun u : Unit => True) (fun u : Unit => wTb E o a b wm st) := by
  refine cM_intro (cc := cX3_warmthIn) (maxL := 2) (ret := (some .int)) (by decide +kernel) rfl (Nat.le_of_ble_eq_true rfl) ?_
  intro p e s m args below meth cd hx hb hr hml hown hlocks hts hnm hK hsz hP A hD hA Q hQ ls hl
  have hown : s.vm.findClass RX3 = some m.cls := hown
  have hin3 : ∀ w ∈ u_ws RX3 TX3 2, w ∈ wsX3_warmthIn := by decide +kernel
  have lk9 := hts (.fieldLink RX3 9 "ReefPilot$Table" "warmth" "[I") (by decide +kernel)
  have hS : va_S A s.heap s.heap [] := va_S.rf
  have hl : lv_has ls 2 [(0, .ref o), (1, .int (nI x))] := hl
  refine lv_aload_n hx hb dX3_warmthIn_0 rfl (lv_at hl 0 rfl) ?_
  refine va_get (D := E.1) (ci := 3) (v := .ref a) (C := RX3) (T := TX3) (N := 2) hx hb hts hin3 hown hK.1 hP 0 rfl rfl 0 (by decide) lk9 (fun _ h9 => h9) rfl dX3_warmthIn_1 ?_
  refine lv_iload_n hx hb dX3_warmthIn_4 rfl (lv_at hl 1 rfl) ?_
  refine lv_bipush (v := nI 12) hx hb dX3_warmthIn_5 (by decide +kernel) ?_
  refine e_callS (As := [.int (nI x), .int (nI 12)]) (rest := [.ref a]) ⟨hx, hb, hml, hown, hts⟩ hK hP hD hS hA hl.1 (c_J9_floorMod_7cf53 l E _ x (by first | omega | assumption | rfl | (simp_all; done))) (va_cwS 2 hts gX3_warmthIn_J9_floorMod_7cf53 rfl rfl rfl (by decide +kernel) ⟨Nat.le_of_ble_eq_true rfl, Nat.le_of_ble_eq_true rfl⟩) [] [0, 1, 2] rfl rfl rfl rfl (by decide) rfl rfl (Nat.le_of_ble_eq_true rfl) dX3_warmthIn_7 ⟨Nat.le_of_ble_eq_true rfl, Nat.le_of_ble_eq_true rfl⟩ (fun u_1 H locs hu_2 hsz1 hP hD hS => ?_)
  have hP : va_P E.1 vwCl (wTb E o a b wm st) H := hP.sub [0, 1, 2] rfl
  have hD : va_D A (wTb E o a b wm st) := hD.sub [0, 1, 2] (by decide) rfl
  refine W.eq (g2 := F0 m 10 ls [.int (nI (x % 12)), .ref a]) rfl ?_
  refine e_iald hK hP 1 rfl (x % 12) (by omega) (by decide) hx hb dX3_warmthIn_10 ?_
  exact e_iret () hQ hx hb hr hlocks hP hD hS dX3_warmthIn_11 (rfl) (Nat.le_of_ble_eq_true rfl) (Nat.le_of_ble_eq_true rfl) (trivial)

abbrev rm_X3_stormIn : Room := { frames := 1, cells := 0, slots := 0, locals := 22 }
set_option maxHeartbeats 4000000 in
set_option maxRecDepth 100000 in
theorem c_X3_stormIn (l : Launch) (E : eT) (sz : Nat) (o : Nat) (a : Nat) (b : Nat) (wm : Nat → Int32) (st : Nat → Int32) (x : Nat) (hx_ : x < 2 ^ 31) : cM l yX3_stormIn wsX3_stormIn rm_X3_stormIn E sz [.ref o, .int (nI x)] (wTb E o a b wm st) (fun u : Unit => some (.int (st (x % 12)))) (fun u : Unit => True) (fun u : Unit => wTb E o a b wm st) := by
  refine cM_intro (cc := cX3_stormIn) (maxL := 2) (ret := (some .int)) (by decide +kernel) rfl (Nat.le_of_ble_eq_true rfl) ?_
  intro p e s m args below meth cd hx hb hr hml hown hlocks hts hnm hK hsz hP A hD hA Q hQ ls hl
  have hown : s.vm.findClass RX3 = some m.cls := hown
  have hin3 : ∀ w ∈ u_ws RX3 TX3 2, w ∈ wsX3_stormIn := by decide +kernel
  have lk15 := hts (.fieldLink RX3 15 "ReefPilot$Table" "storm" "[I") (by decide +kernel)
  have hS : va_S A s.heap s.heap [] := va_S.rf
  have hl : lv_has ls 2 [(0, .ref o), (1, .int (nI x))] := hl
  refine lv_aload_n hx hb dX3_stormIn_0 rfl (lv_at hl 0 rfl) ?_
  refine va_get (D := E.1) (ci := 3) (v := .ref b) (C := RX3) (T := TX3) (N := 2) hx hb hts hin3 hown hK.1 hP 0 rfl rfl 1 (by decide) lk15 (fun _ h9 => h9) rfl dX3_stormIn_1 ?_
  refine lv_iload_n hx hb dX3_stormIn_4 rfl (lv_at hl 1 rfl) ?_
  refine lv_bipush (v := nI 12) hx hb dX3_stormIn_5 (by decide +kernel) ?_
  refine e_callS (As := [.int (nI x), .int (nI 12)]) (rest := [.ref b]) ⟨hx, hb, hml, hown, hts⟩ hK hP hD hS hA hl.1 (c_J9_floorMod_7cf53 l E _ x (by first | omega | assumption | rfl | (simp_all; done))) (va_cwS 2 hts gX3_stormIn_J9_floorMod_7cf53 rfl rfl rfl (by decide +kernel) ⟨Nat.le_of_ble_eq_true rfl, Nat.le_of_ble_eq_true rfl⟩) [] [0, 1, 2] rfl rfl rfl rfl (by decide) rfl rfl (Nat.le_of_ble_eq_true rfl) dX3_stormIn_7 ⟨Nat.le_of_ble_eq_true rfl, Nat.le_of_ble_eq_true rfl⟩ (fun u_1 H locs hu_2 hsz1 hP hD hS => ?_)
  have hP : va_P E.1 vwCl (wTb E o a b wm st) H := hP.sub [0, 1, 2] rfl
  have hD : va_D A (wTb E o a b wm st) := hD.sub [0, 1, 2] (by decide) rfl
  refine W.eq (g2 := F0 m 10 ls [.int (nI (x % 12)), .ref b]) rfl ?_
  refine e_iald hK hP 2 rfl (x % 12) (by omega) (by decide) hx hb dX3_stormIn_10 ?_
  exact e_iret () hQ hx hb hr hlocks hP hD hS dX3_stormIn_11 (rfl) (Nat.le_of_ble_eq_true rfl) (Nat.le_of_ble_eq_true rfl) (trivial)

abbrev rm_X1_note : Room := { frames := 0, cells := 0, slots := 0, locals := 0 }
set_option maxHeartbeats 4000000 in
set_option maxRecDepth 100000 in
theorem c_X1_note (l : Launch) (E : eT) (sz : Nat) (o : Nat) (a : Nat) (b : Nat) (sd : Nat → Int32) (tk : Nat → Int32) (j : Nat) (v : Int32) (w : Int32) (hj : j < 81) : cM l yX1_note wsX1_note rm_X1_note E sz [.ref o, .int (nI j), .int v, .int w] (wSo E o a b sd tk) (fun u : Unit => none) (fun u : Unit => True) (fun u : Unit => wSo E o a b (upd sd j v) (upd tk j w)) := by
  refine cM_intro (cc := cX1_note) (maxL := 4) (ret := none) (by decide +kernel) rfl (Nat.le_of_ble_eq_true rfl) ?_
  intro p e s m args below meth cd hx hb hr hml hown hlocks hts hnm hK hsz hP A hD hA Q hQ ls hl
  have hown : s.vm.findClass RX1 = some m.cls := hown
  have hin1 : ∀ w ∈ u_ws RX1 TX1 2, w ∈ wsX1_note := by decide +kernel
  have lk9 := hts (.fieldLink RX1 9 "ReefPilot$Soundings" "depth" "[I") (by decide +kernel)
  have lk15 := hts (.fieldLink RX1 15 "ReefPilot$Soundings" "takenIn" "[I") (by decide +kernel)
  have hS : va_S A s.heap s.heap [] := va_S.rf
  have hl : lv_has ls 4 [(0, .ref o), (1, .int (nI j)), (2, .int v), (3, .int w)] := hl
  refine lv_aload_n hx hb dX1_note_0 rfl (lv_at hl 0 rfl) ?_
  refine va_get (D := E.1) (ci := 1) (v := .ref a) (C := RX1) (T := TX1) (N := 2) hx hb hts hin1 hown hK.1 hP 0 rfl rfl 0 (by decide) lk9 (fun _ h9 => h9) rfl dX1_note_1 ?_
  refine lv_iload_n hx hb dX1_note_4 rfl (lv_at hl 1 rfl) ?_
  refine lv_iload_n hx hb dX1_note_5 rfl (lv_at hl 2 rfl) ?_
  refine e_iast hK hP hD hS 1 rfl j (by omega) (by decide) hx hb dX1_note_6 (fun H locs hP hD hS => ?_)
  have hP : va_P E.1 vwCl (wSo E o a b (upd sd j v) tk) H := hP
  have hD : va_D A (wSo E o a b (upd sd j v) tk) := hD
  refine lv_aload_n hx hb dX1_note_7 rfl (lv_at hl 0 rfl) ?_
  refine va_get (D := E.1) (ci := 1) (v := .ref b) (C := RX1) (T := TX1) (N := 2) hx hb hts hin1 hown hK.1 hP 0 rfl rfl 1 (by decide) lk15 (fun _ h9 => h9) rfl dX1_note_8 ?_
  refine lv_iload_n hx hb dX1_note_11 rfl (lv_at hl 1 rfl) ?_
  refine lv_iload_n hx hb dX1_note_12 rfl (lv_at hl 3 rfl) ?_
  refine e_iast hK hP hD hS 2 rfl j (by omega) (by decide) hx hb dX1_note_13 (fun H locs hP hD hS => ?_)
  have hP : va_P E.1 vwCl (wSo E o a b (upd sd j v) (upd tk j w)) H := hP
  have hD : va_D A (wSo E o a b (upd sd j v) (upd tk j w)) := hD
  exact e_vret () hQ hx hb hr hlocks hP hD hS dX1_note_14 (rfl) (Nat.le_of_ble_eq_true rfl) (Nat.le_of_ble_eq_true rfl) (trivial)

abbrev rm_X1_noted : Room := { frames := 0, cells := 0, slots := 0, locals := 0 }
set_option maxHeartbeats 4000000 in
set_option maxRecDepth 100000 in
theorem c_X1_noted (l : Launch) (E : eT) (sz : Nat) (o : Nat) (a : Nat) (b : Nat) (sd : Nat → Int32) (tk : Nat → Int32) (j : Nat) (hj : j < 81) : cM l yX1_noted wsX1_noted rm_X1_noted E sz [.ref o, .int (nI j)] (wSo E o a b sd tk) (fun u : Unit => some (.int (sd j))) (fun u : Unit => True) (fun u : Unit => wSo E o a b sd tk) := by
  refine cM_intro (cc := cX1_noted) (maxL := 2) (ret := (some .int)) (by decide +kernel) rfl (Nat.le_of_ble_eq_true rfl) ?_
  intro p e s m args below meth cd hx hb hr hml hown hlocks hts hnm hK hsz hP A hD hA Q hQ ls hl
  have hown : s.vm.findClass RX1 = some m.cls := hown
  have hin1 : ∀ w ∈ u_ws RX1 TX1 2, w ∈ wsX1_noted := by decide +kernel
  have lk9 := hts (.fieldLink RX1 9 "ReefPilot$Soundings" "depth" "[I") (by decide +kernel)
  have hS : va_S A s.heap s.heap [] := va_S.rf
  have hl : lv_has ls 2 [(0, .ref o), (1, .int (nI j))] := hl
  refine lv_aload_n hx hb dX1_noted_0 rfl (lv_at hl 0 rfl) ?_
  refine va_get (D := E.1) (ci := 1) (v := .ref a) (C := RX1) (T := TX1) (N := 2) hx hb hts hin1 hown hK.1 hP 0 rfl rfl 0 (by decide) lk9 (fun _ h9 => h9) rfl dX1_noted_1 ?_
  refine lv_iload_n hx hb dX1_noted_4 rfl (lv_at hl 1 rfl) ?_
  refine e_iald hK hP 1 rfl j (by omega) (by decide) hx hb dX1_noted_5 ?_
  exact e_iret () hQ hx hb hr hlocks hP hD hS dX1_noted_6 (rfl) (Nat.le_of_ble_eq_true rfl) (Nat.le_of_ble_eq_true rfl) (trivial)

abbrev rm_X1_age : Room := { frames := 0, cells := 0, slots := 0, locals := 0 }
set_option maxHeartbeats 4000000 in
set_option maxRecDepth 100000 in
theorem c_X1_age (l : Launch) (E : eT) (sz : Nat) (o : Nat) (a : Nat) (b : Nat) (sd : Nat → Int32) (tk : Nat → Int32) (j : Nat) (mo : Int32) (hj : j < 81) : cM l yX1_age wsX1_age rm_X1_age E sz [.ref o, .int (nI j), .int mo] (wSo E o a b sd tk) (fun u : Unit => some (.int (chOld sd tk mo j))) (fun u : Unit => True) (fun u : Unit => wSo E o a b sd tk) := by
  refine cM_intro (cc := cX1_age) (maxL := 3) (ret := (some .int)) (by decide +kernel) rfl (Nat.le_of_ble_eq_true rfl) ?_
  intro p e s m args below meth cd hx hb hr hml hown hlocks hts hnm hK hsz hP A hD hA Q hQ ls hl
  have hown : s.vm.findClass RX1 = some m.cls := hown
  have hin1 : ∀ w ∈ u_ws RX1 TX1 2, w ∈ wsX1_age := by decide +kernel
  have lk9 := hts (.fieldLink RX1 9 "ReefPilot$Soundings" "depth" "[I") (by decide +kernel)
  have lk15 := hts (.fieldLink RX1 15 "ReefPilot$Soundings" "takenIn" "[I") (by decide +kernel)
  have hS : va_S A s.heap s.heap [] := va_S.rf
  have hl : lv_has ls 3 [(0, .ref o), (1, .int (nI j)), (2, .int mo)] := hl
  refine lv_aload_n hx hb dX1_age_0 rfl (lv_at hl 0 rfl) ?_
  refine va_get (D := E.1) (ci := 1) (v := .ref a) (C := RX1) (T := TX1) (N := 2) hx hb hts hin1 hown hK.1 hP 0 rfl rfl 0 (by decide) lk9 (fun _ h9 => h9) rfl dX1_age_1 ?_
  refine lv_iload_n hx hb dX1_age_4 rfl (lv_at hl 1 rfl) ?_
  refine e_iald hK hP 1 rfl j (by omega) (by decide) hx hb dX1_age_5 ?_
  refine lv_iconst (v := (-1)) hx hb dX1_age_6 (by decide +kernel) ?_
  refine lv_icmp_ne (tgt := 14) hx hb dX1_age_7 (by decide) (fun c7 => ?_) (fun c7 => ?_)
  · refine lv_iload_n hx hb dX1_age_14 rfl (lv_at hl 2 rfl) ?_
    refine lv_aload_n hx hb dX1_age_15 rfl (lv_at hl 0 rfl) ?_
    refine va_get (D := E.1) (ci := 1) (v := .ref b) (C := RX1) (T := TX1) (N := 2) hx hb hts hin1 hown hK.1 hP 0 rfl rfl 1 (by decide) lk15 (fun _ h9 => h9) rfl dX1_age_16 ?_
    refine lv_iload_n hx hb dX1_age_19 rfl (lv_at hl 1 rfl) ?_
    refine e_iald hK hP 2 rfl j (by omega) (by decide) hx hb dX1_age_20 ?_
    refine lv_isub hx hb dX1_age_21 ?_
    exact e_iret () hQ hx hb hr hlocks hP hD hS dX1_age_22 (rvi (by unfold chOld; first | rw [if_pos c7] | rw [if_neg c7])) (Nat.le_of_ble_eq_true rfl) (Nat.le_of_ble_eq_true rfl) (trivial)
  · refine lv_iconst (v := (-1)) hx hb dX1_age_10 (by decide +kernel) ?_
    refine lv_goto (tgt := 22) hx hb dX1_age_11 (by decide) ?_
    exact e_iret () hQ hx hb hr hlocks hP hD hS dX1_age_22 (rvi (by unfold chOld; first | rw [if_pos c7] | rw [if_neg c7])) (Nat.le_of_ble_eq_true rfl) (Nat.le_of_ble_eq_true rfl) (trivial)

abbrev rm_X0_becomeLike : Room := { frames := 1, cells := 0, slots := 0, locals := 60 }
set_option maxHeartbeats 4000000 in
set_option maxRecDepth 100000 in
theorem c_X0_becomeLike (l : Launch) (E : eT) (sz : Nat) (o : Nat) (a : Nat) (b : Nat) (d : Nat) (gr : Nat → Int32) (co : Nat → Int32) (hb_ : Nat → Bool) (mo : Int32) (o2 : Nat) (a2 : Nat) (b2 : Nat) (d2 : Nat) (gr2 : Nat → Int32) (co2 : Nat → Int32) (hb2 : Nat → Bool) (mo2 : Int32) : cM l yX0_becomeLike wsX0_becomeLike rm_X0_becomeLike E sz [.ref o, .ref o2] (wCo E o a b d gr co hb_ mo ++ wCo E o2 a2 b2 d2 gr2 co2 hb2 mo2) (fun u : Unit => none) (fun u : Unit => True) (fun u : Unit => wCo E o a b d gr2 co2 hb_ mo2 ++ wCo E o2 a2 b2 d2 gr2 co2 hb2 mo2) := by
  refine cM_intro (cc := cX0_becomeLike) (maxL := 2) (ret := none) (by decide +kernel) rfl (Nat.le_of_ble_eq_true rfl) ?_
  intro p e s m args below meth cd hx hb hr hml hown hlocks hts hnm hK hsz hP A hD hA Q hQ ls hl
  have hown : s.vm.findClass RX0 = some m.cls := hown
  have hin0 : ∀ w ∈ u_ws RX0 TX0 4, w ∈ wsX0_becomeLike := by decide +kernel
  have lk9 := hts (.fieldLink RX0 9 "ReefPilot$Coast" "ground" "[I") (by decide +kernel)
  have lk15 := hts (.fieldLink RX0 15 "ReefPilot$Coast" "coral" "[I") (by decide +kernel)
  have lk34 := hts (.fieldLink RX0 34 "ReefPilot$Coast" "month" "I") (by decide +kernel)
  have haac28 := hts (.methodLink RX0 28 arraycopyName) (by decide +kernel)
  have haaci := hts (.initialized "java/lang/System") (by decide +kernel)
  have haacn := hts (.native arraycopyName) (by decide +kernel)
  have haacs := hts (.static arraycopyName) (by decide +kernel)
  have hS : va_S A s.heap s.heap [] := va_S.rf
  have hl : lv_has ls 2 [(0, .ref o), (1, .ref o2)] := hl
  refine lv_aload_n hx hb dX0_becomeLike_0 rfl (lv_at hl 1 rfl) ?_
  refine va_get (D := E.1) (ci := 0) (v := .ref a2) (C := RX0) (T := TX0) (N := 4) hx hb hts hin0 hown hK.1 hP 4 rfl rfl 0 (by decide) lk9 (fun _ h9 => h9) rfl dX0_becomeLike_1 ?_
  refine lv_iconst (v := nI 0) hx hb dX0_becomeLike_4 (by decide +kernel) ?_
  refine lv_aload_n hx hb dX0_becomeLike_5 rfl (lv_at hl 0 rfl) ?_
  refine va_get (D := E.1) (ci := 0) (v := .ref a) (C := RX0) (T := TX0) (N := 4) hx hb hts hin0 hown hK.1 hP 0 rfl rfl 0 (by decide) lk9 (fun _ h9 => h9) rfl dX0_becomeLike_6 ?_
  refine lv_iconst (v := nI 0) hx hb dX0_becomeLike_9 (by decide +kernel) ?_
  refine lv_bipush (v := nI 81) hx hb dX0_becomeLike_10 (by decide +kernel) ?_
  refine va_copyi hx hb (by rw [hml]; exact hl.1.symm) hown haac28 haacn haacs haaci hK.1 hP hD hS 5 1 0 0 rfl rfl rfl rfl rfl (by decide +kernel) (by decide +kernel) (by decide +kernel) (by decide +kernel) (by decide +kernel) (fun _ _ => rfl) (Nat.le_of_ble_eq_true rfl) (Nat.le_of_ble_eq_true rfl) dX0_becomeLike_12 (fun H locs hP hD hS => ?_)
  rw [show (nI 0).toNatClampNeg = 0 from by decide +kernel, show (nI 81).toNatClampNeg = 81 from by decide +kernel] at hP hD
  have hP : va_P E.1 vwCl (wCo E o a b d (va_cpy gr2 gr 0 0 81) co hb_ mo ++ wCo E o2 a2 b2 d2 gr2 co2 hb2 mo2) H := hP
  have hD : va_D A (wCo E o a b d (va_cpy gr2 gr 0 0 81) co hb_ mo ++ wCo E o2 a2 b2 d2 gr2 co2 hb2 mo2) := hD
  refine lv_aload_n hx hb dX0_becomeLike_15 rfl (lv_at hl 1 rfl) ?_
  refine va_get (D := E.1) (ci := 0) (v := .ref b2) (C := RX0) (T := TX0) (N := 4) hx hb hts hin0 hown hK.1 hP 4 rfl rfl 1 (by decide) lk15 (fun _ h9 => h9) rfl dX0_becomeLike_16 ?_
  refine lv_iconst (v := nI 0) hx hb dX0_becomeLike_19 (by decide +kernel) ?_
  refine lv_aload_n hx hb dX0_becomeLike_20 rfl (lv_at hl 0 rfl) ?_
  refine va_get (D := E.1) (ci := 0) (v := .ref b) (C := RX0) (T := TX0) (N := 4) hx hb hts hin0 hown hK.1 hP 0 rfl rfl 1 (by decide) lk15 (fun _ h9 => h9) rfl dX0_becomeLike_21 ?_
  refine lv_iconst (v := nI 0) hx hb dX0_becomeLike_24 (by decide +kernel) ?_
  refine lv_bipush (v := nI 81) hx hb dX0_becomeLike_25 (by decide +kernel) ?_
  refine va_copyi hx hb (by rw [hml]; exact hl.1.symm) hown haac28 haacn haacs haaci hK.1 hP hD hS 6 2 0 0 rfl rfl rfl rfl rfl (by decide +kernel) (by decide +kernel) (by decide +kernel) (by decide +kernel) (by decide +kernel) (fun _ _ => rfl) (Nat.le_of_ble_eq_true rfl) (Nat.le_of_ble_eq_true rfl) dX0_becomeLike_27 (fun H locs hP hD hS => ?_)
  rw [show (nI 0).toNatClampNeg = 0 from by decide +kernel, show (nI 81).toNatClampNeg = 81 from by decide +kernel] at hP hD
  have hP : va_P E.1 vwCl (wCo E o a b d (va_cpy gr2 gr 0 0 81) (va_cpy co2 co 0 0 81) hb_ mo ++ wCo E o2 a2 b2 d2 gr2 co2 hb2 mo2) H := hP
  have hD : va_D A (wCo E o a b d (va_cpy gr2 gr 0 0 81) (va_cpy co2 co 0 0 81) hb_ mo ++ wCo E o2 a2 b2 d2 gr2 co2 hb2 mo2) := hD
  have hP := e_cong hP 1 (g := gr2) rfl (fun k h => by rw [pk_cpy_in (by omega) (by omega)]; congr 1; omega)
  have hD := va_D.set (e := .inl (E.2.1, 81, .inl (gr2))) hD (p := 1) rfl
  have hP : va_P E.1 vwCl (wCo E o a b d gr2 (va_cpy co2 co 0 0 81) hb_ mo ++ wCo E o2 a2 b2 d2 gr2 co2 hb2 mo2) H := hP
  have hD : va_D A (wCo E o a b d gr2 (va_cpy co2 co 0 0 81) hb_ mo ++ wCo E o2 a2 b2 d2 gr2 co2 hb2 mo2) := hD
  have hP := e_cong hP 2 (g := co2) rfl (fun k h => by rw [pk_cpy_in (by omega) (by omega)]; congr 1; omega)
  have hD := va_D.set (e := .inl (E.2.1, 81, .inl (co2))) hD (p := 2) rfl
  have hP : va_P E.1 vwCl (wCo E o a b d gr2 co2 hb_ mo ++ wCo E o2 a2 b2 d2 gr2 co2 hb2 mo2) H := hP
  have hD : va_D A (wCo E o a b d gr2 co2 hb_ mo ++ wCo E o2 a2 b2 d2 gr2 co2 hb2 mo2) := hD
  refine lv_aload_n hx hb dX0_becomeLike_30 rfl (lv_at hl 0 rfl) ?_
  refine lv_aload_n hx hb dX0_becomeLike_31 rfl (lv_at hl 1 rfl) ?_
  refine va_get (D := E.1) (ci := 0) (v := .int mo2) (C := RX0) (T := TX0) (N := 4) hx hb hts hin0 hown hK.1 hP 4 rfl rfl 3 (by decide) lk34 (fun _ h9 => h9) rfl dX0_becomeLike_32 ?_
  refine va_put (D := E.1) (ci := 0) (v := .int mo2) (ty := .int) (C := RX0) (T := TX0) (N := 4) hx hb hts hin0 tyX0 tyX0_ok nmX0 hown hK.1 hP hD hS 0 rfl rfl 3 (by decide) lk34 (fun _ h9 => h9) rfl (by decide +kernel) rfl rfl (Nat.le_of_ble_eq_true rfl) dX0_becomeLike_35 (fun H locs hP hD hS => ?_)
  have hP : va_P E.1 vwCl (wCo E o a b d gr2 co2 hb_ mo2 ++ wCo E o2 a2 b2 d2 gr2 co2 hb2 mo2) H := hP
  have hD : va_D A (wCo E o a b d gr2 co2 hb_ mo2 ++ wCo E o2 a2 b2 d2 gr2 co2 hb2 mo2) := hD
  exact e_vret () hQ hx hb hr hlocks hP hD hS dX0_becomeLike_38 (rfl) (Nat.le_of_ble_eq_true rfl) (Nat.le_of_ble_eq_true rfl) (trivial)

abbrev rm_X0_letMonthGo : Room := { frames := 4, cells := 0, slots := 0, locals := 90 }
set_option maxHeartbeats 4000000 in
set_option maxRecDepth 100000 in
theorem c_X0_letMonthGo (l : Launch) (E : eT) (sz : Nat) (o : Nat) (a : Nat) (b : Nat) (d : Nat) (gr : Nat → Int32) (co : Nat → Int32) (hb_ : Nat → Bool) (mo : Nat) (to : Nat) (ta : Nat) (tb : Nat) (wm : Nat → Int32) (st : Nat → Int32) (hmo : mo < 2 ^ 31 - 1) : cM l yX0_letMonthGo wsX0_letMonthGo rm_X0_letMonthGo E sz [.ref o, .ref to] (wCo E o a b d gr co hb_ (nI mo) ++ wTb E to ta tb wm st) (fun u : (Nat → Bool) => none) (fun u : (Nat → Bool) => True) (fun u : (Nat → Bool) => wCo E o a b d ((month1 wm st (gr, co) mo).1) ((month1 wm st (gr, co) mo).2) u (nI (mo + 1)) ++ wTb E to ta tb wm st) := by
  refine cM_intro (cc := cX0_letMonthGo) (maxL := 2) (ret := none) (by decide +kernel) rfl (Nat.le_of_ble_eq_true rfl) ?_
  intro p e s m args below meth cd hx hb hr hml hown hlocks hts hnm hK hsz hP A hD hA Q hQ ls hl
  have hown : s.vm.findClass RX0 = some m.cls := hown
  have hin0 : ∀ w ∈ u_ws RX0 TX0 4, w ∈ wsX0_letMonthGo := by decide +kernel
  have lk34 := hts (.fieldLink RX0 34 "ReefPilot$Coast" "month" "I") (by decide +kernel)
  have hS : va_S A s.heap s.heap [] := va_S.rf
  have hl : lv_has ls 2 [(0, .ref o), (1, .ref to)] := hl
  refine lv_aload_n hx hb dX0_letMonthGo_0 rfl (lv_at hl 0 rfl) ?_
  refine lv_aload_n hx hb dX0_letMonthGo_1 rfl (lv_at hl 1 rfl) ?_
  refine lv_aload_n hx hb dX0_letMonthGo_2 rfl (lv_at hl 0 rfl) ?_
  refine va_get (D := E.1) (ci := 0) (v := .int (nI mo)) (C := RX0) (T := TX0) (N := 4) hx hb hts hin0 hown hK.1 hP 0 rfl rfl 3 (by decide) lk34 (fun _ h9 => h9) rfl dX0_letMonthGo_3 ?_
  refine e_callV (As := [.int (nI mo)]) (rest := [.ref o]) ⟨hx, hb, hml, hown, hts⟩ hK hP hD hS hA hl.1 (c_X3_warmthIn l E _ to ta tb wm st mo (by first | omega | assumption | rfl | (simp_all; done))) (cwV 1 hts gX0_letMonthGo_X3_warmthIn rfl rfl rfl (by decide +kernel) ⟨Nat.le_of_ble_eq_true rfl, Nat.le_of_ble_eq_true rfl⟩) [4, 5, 6] [0, 1, 2, 3] rfl rfl rfl rfl (by decide) (q0 := 4) (ci := 3) rfl rfl rfl rfl (Nat.le_of_ble_eq_true rfl) dX0_letMonthGo_6 ⟨Nat.le_of_ble_eq_true rfl, Nat.le_of_ble_eq_true rfl⟩ (fun u_1 H locs hu_2 hsz1 hP hD hS => ?_)
  have hP : va_P E.1 vwCl (wCo E o a b d gr co hb_ (nI mo) ++ wTb E to ta tb wm st) H := hP.sub [0, 1, 2, 3, 4, 5, 6] rfl
  have hD : va_D A (wCo E o a b d gr co hb_ (nI mo) ++ wTb E to ta tb wm st) := hD.sub [0, 1, 2, 3, 4, 5, 6] (by decide) rfl
  refine W.eq (g2 := F0 m 9 ls [.int (wm (mo % 12)), .ref o]) rfl ?_
  refine e_callV (As := [.int (wm (mo % 12))]) (rest := []) ⟨hx, hb, hml, hown, hts⟩ hK hP hD hS hA hl.1 (c_X0_changeByWarmth l E _ o a b d gr co hb_ (nI mo) (wm (mo % 12))) (cwV 1 hts gX0_letMonthGo_X0_changeByWarmth rfl rfl rfl (by decide +kernel) ⟨Nat.le_of_ble_eq_true rfl, Nat.le_of_ble_eq_true rfl⟩) [0, 1, 2, 3] [4, 5, 6] rfl rfl rfl rfl (by decide) (q0 := 0) (ci := 0) rfl rfl rfl rfl (Nat.le_of_ble_eq_true rfl) dX0_letMonthGo_9 ⟨Nat.le_of_ble_eq_true rfl, Nat.le_of_ble_eq_true rfl⟩ (fun u_3 H locs hu_4 hsz1 hP hD hS => ?_)
  obtain ⟨hz_5, rfl⟩ : ∃ z, z = u_3 := ⟨_, rfl⟩
  have hP : va_P E.1 vwCl (wCo E o a b d gr (warmed (wm (mo % 12)) gr co) hz_5 (nI mo) ++ wTb E to ta tb wm st) H := hP.sub [3, 4, 5, 6, 0, 1, 2] rfl
  have hD : va_D A (wCo E o a b d gr (warmed (wm (mo % 12)) gr co) hz_5 (nI mo) ++ wTb E to ta tb wm st) := hD.sub [3, 4, 5, 6, 0, 1, 2] (by decide) rfl
  refine W.eq (g2 := F0 m 12 ls []) rfl ?_
  refine lv_aload_n hx hb dX0_letMonthGo_12 rfl (lv_at hl 0 rfl) ?_
  refine e_callV (As := []) (rest := []) ⟨hx, hb, hml, hown, hts⟩ hK hP hD hS hA hl.1 (c_X0_seed l E _ o a b d gr (warmed (wm (mo % 12)) gr co) hz_5 (nI mo)) (cwV 0 hts gX0_letMonthGo_X0_seed rfl rfl rfl (by decide +kernel) ⟨Nat.le_of_ble_eq_true rfl, Nat.le_of_ble_eq_true rfl⟩) [0, 1, 2, 3] [4, 5, 6] rfl rfl rfl rfl (by decide) (q0 := 0) (ci := 0) rfl rfl rfl rfl (Nat.le_of_ble_eq_true rfl) dX0_letMonthGo_13 ⟨Nat.le_of_ble_eq_true rfl, Nat.le_of_ble_eq_true rfl⟩ (fun u_6 H locs hu_7 hsz1 hP hD hS => ?_)
  have hP : va_P E.1 vwCl (wCo E o a b d gr (seeded gr (warmed (wm (mo % 12)) gr co)) (hd (warmed (wm (mo % 12)) gr co)) (nI mo) ++ wTb E to ta tb wm st) H := hP.sub [3, 4, 5, 6, 0, 1, 2] rfl
  have hD : va_D A (wCo E o a b d gr (seeded gr (warmed (wm (mo % 12)) gr co)) (hd (warmed (wm (mo % 12)) gr co)) (nI mo) ++ wTb E to ta tb wm st) := hD.sub [3, 4, 5, 6, 0, 1, 2] (by decide) rfl
  refine W.eq (g2 := F0 m 16 ls []) rfl ?_
  refine lv_aload_n hx hb dX0_letMonthGo_16 rfl (lv_at hl 0 rfl) ?_
  refine lv_aload_n hx hb dX0_letMonthGo_17 rfl (lv_at hl 1 rfl) ?_
  refine lv_aload_n hx hb dX0_letMonthGo_18 rfl (lv_at hl 0 rfl) ?_
  refine va_get (D := E.1) (ci := 0) (v := .int (nI mo)) (C := RX0) (T := TX0) (N := 4) hx hb hts hin0 hown hK.1 hP 0 rfl rfl 3 (by decide) lk34 (fun _ h9 => h9) rfl dX0_letMonthGo_19 ?_
  refine e_callV (As := [.int (nI mo)]) (rest := [.ref o]) ⟨hx, hb, hml, hown, hts⟩ hK hP hD hS hA hl.1 (c_X3_stormIn l E _ to ta tb wm st mo (by first | omega | assumption | rfl | (simp_all; done))) (cwV 1 hts gX0_letMonthGo_X3_stormIn rfl rfl rfl (by decide +kernel) ⟨Nat.le_of_ble_eq_true rfl, Nat.le_of_ble_eq_true rfl⟩) [4, 5, 6] [0, 1, 2, 3] rfl rfl rfl rfl (by decide) (q0 := 4) (ci := 3) rfl rfl rfl rfl (Nat.le_of_ble_eq_true rfl) dX0_letMonthGo_22 ⟨Nat.le_of_ble_eq_true rfl, Nat.le_of_ble_eq_true rfl⟩ (fun u_8 H locs hu_9 hsz1 hP hD hS => ?_)
  have hP : va_P E.1 vwCl (wCo E o a b d gr (seeded gr (warmed (wm (mo % 12)) gr co)) (hd (warmed (wm (mo % 12)) gr co)) (nI mo) ++ wTb E to ta tb wm st) H := hP.sub [0, 1, 2, 3, 4, 5, 6] rfl
  have hD : va_D A (wCo E o a b d gr (seeded gr (warmed (wm (mo % 12)) gr co)) (hd (warmed (wm (mo % 12)) gr co)) (nI mo) ++ wTb E to ta tb wm st) := hD.sub [0, 1, 2, 3, 4, 5, 6] (by decide) rfl
  refine W.eq (g2 := F0 m 25 ls [.int (st (mo % 12)), .ref o]) rfl ?_
  refine e_callV (As := [.int (st (mo % 12))]) (rest := []) ⟨hx, hb, hml, hown, hts⟩ hK hP hD hS hA hl.1 (c_X0_breakByStorm l E _ o a b d gr (seeded gr (warmed (wm (mo % 12)) gr co)) (hd (warmed (wm (mo % 12)) gr co)) (nI mo) (st (mo % 12))) (cwV 1 hts gX0_letMonthGo_X0_breakByStorm rfl rfl rfl (by decide +kernel) ⟨Nat.le_of_ble_eq_true rfl, Nat.le_of_ble_eq_true rfl⟩) [0, 1, 2, 3] [4, 5, 6] rfl rfl rfl rfl (by decide) (q0 := 0) (ci := 0) rfl rfl rfl rfl (Nat.le_of_ble_eq_true rfl) dX0_letMonthGo_25 ⟨Nat.le_of_ble_eq_true rfl, Nat.le_of_ble_eq_true rfl⟩ (fun u_10 H locs hu_11 hsz1 hP hD hS => ?_)
  have hP : va_P E.1 vwCl (wCo E o a b d ((blows (st (mo % 12)) (gr, (seeded gr (warmed (wm (mo % 12)) gr co))) 81).1) ((blows (st (mo % 12)) (gr, (seeded gr (warmed (wm (mo % 12)) gr co))) 81).2) (hd (warmed (wm (mo % 12)) gr co)) (nI mo) ++ wTb E to ta tb wm st) H := hP.sub [3, 4, 5, 6, 0, 1, 2] rfl
  have hD : va_D A (wCo E o a b d ((blows (st (mo % 12)) (gr, (seeded gr (warmed (wm (mo % 12)) gr co))) 81).1) ((blows (st (mo % 12)) (gr, (seeded gr (warmed (wm (mo % 12)) gr co))) 81).2) (hd (warmed (wm (mo % 12)) gr co)) (nI mo) ++ wTb E to ta tb wm st) := hD.sub [3, 4, 5, 6, 0, 1, 2] (by decide) rfl
  refine W.eq (g2 := F0 m 28 ls []) rfl ?_
  refine lv_aload_n hx hb dX0_letMonthGo_28 rfl (lv_at hl 0 rfl) ?_
  refine lv_dup hx hb dX0_letMonthGo_29 rfl ?_
  refine va_get (D := E.1) (ci := 0) (v := .int (nI mo)) (C := RX0) (T := TX0) (N := 4) hx hb hts hin0 hown hK.1 hP 0 rfl rfl 3 (by decide) lk34 (fun _ h9 => h9) rfl dX0_letMonthGo_30 ?_
  refine lv_iconst (v := nI 1) hx hb dX0_letMonthGo_33 (by decide +kernel) ?_
  refine lv_iadd hx hb dX0_letMonthGo_34 ?_
  refine e_top (nI_add _ _) ?_
  refine va_put (D := E.1) (ci := 0) (v := .int (nI (mo + 1))) (ty := .int) (C := RX0) (T := TX0) (N := 4) hx hb hts hin0 tyX0 tyX0_ok nmX0 hown hK.1 hP hD hS 0 rfl rfl 3 (by decide) lk34 (fun _ h9 => h9) rfl (by decide +kernel) rfl rfl (Nat.le_of_ble_eq_true rfl) dX0_letMonthGo_35 (fun H locs hP hD hS => ?_)
  have hP : va_P E.1 vwCl (wCo E o a b d ((blows (st (mo % 12)) (gr, (seeded gr (warmed (wm (mo % 12)) gr co))) 81).1) ((blows (st (mo % 12)) (gr, (seeded gr (warmed (wm (mo % 12)) gr co))) 81).2) (hd (warmed (wm (mo % 12)) gr co)) (nI (mo + 1)) ++ wTb E to ta tb wm st) H := hP
  have hD : va_D A (wCo E o a b d ((blows (st (mo % 12)) (gr, (seeded gr (warmed (wm (mo % 12)) gr co))) 81).1) ((blows (st (mo % 12)) (gr, (seeded gr (warmed (wm (mo % 12)) gr co))) 81).2) (hd (warmed (wm (mo % 12)) gr co)) (nI (mo + 1)) ++ wTb E to ta tb wm st) := hD
  exact e_vret (hd (warmed (wm (mo % 12)) gr co)) hQ hx hb hr hlocks hP hD hS dX0_letMonthGo_38 (rfl) (Nat.le_of_ble_eq_true rfl) (Nat.le_of_ble_eq_true rfl) (trivial)

abbrev rm_X0_init : Room := { frames := 1, cells := 3, slots := 243, locals := 23 }
set_option maxHeartbeats 4000000 in
set_option maxRecDepth 100000 in
theorem c_X0_init (l : Launch) (E : eT) (sz : Nat) (o : Nat) : cM l yX0_init wsX0_init rm_X0_init E sz [.ref o] ([(o, .inr (0, [.null, .null, .null, .int 0]))]) (fun u : (Nat) × (Nat) × (Nat) => none) (fun u : (Nat) × (Nat) × (Nat) => True) (fun u : (Nat) × (Nat) × (Nat) => wCo E o u.1 u.2.1 u.2.2 (fun _ => nI 20) (fun _ => nI 0) (fun _ => false) (nI 0)) := by
  refine cM_intro (cc := cX0_init) (maxL := 1) (ret := none) (by decide +kernel) rfl (Nat.le_of_ble_eq_true rfl) ?_
  intro p e s m args below meth cd hx hb hr hml hown hlocks hts hnm hK hsz hP A hD hA Q hQ ls hl
  have hown : s.vm.findClass RX0 = some m.cls := hown
  have hin : meth.name = "<init>" := hnm
  have hin0 : ∀ w ∈ u_ws RX0 TX0 4, w ∈ wsX0_init := by decide +kernel
  have lk9 := hts (.fieldLink RX0 9 "ReefPilot$Coast" "ground" "[I") (by decide +kernel)
  have lk15 := hts (.fieldLink RX0 15 "ReefPilot$Coast" "coral" "[I") (by decide +kernel)
  have lk18 := hts (.fieldLink RX0 18 "ReefPilot$Coast" "headBefore" "[Z") (by decide +kernel)
  have haboolean := hts (.arrayClass .boolean) (by decide +kernel)
  have haint := hts (.arrayClass .int) (by decide +kernel)
  have haoi1 := hts (.methodLink RX0 3 objectInit) (by decide +kernel)
  have haoi2 := hts (.instanceMethod objectInit) (by decide +kernel)
  have haoi3 := hts (.code objectInit ⟨#[0xb1]⟩ 1 none) (by decide +kernel)
  have hS : va_S A s.heap s.heap [] := va_S.rf
  have hl : lv_has ls 1 [(0, .ref o)] := hl
  refine lv_aload_n hx hb dX0_init_0 rfl (lv_at hl 0 rfl) ?_
  refine W.objInit hx hb hown haoi1 haoi2 haoi3 rfl (by rw [hml]; exact hl.1) rfl dX0_init_1 (Nat.le_of_ble_eq_true rfl) (Nat.le_of_ble_eq_true rfl) ?_
  refine W.eq (g2 := F0 m 4 ls []) rfl ?_
  refine lv_aload_n hx hb dX0_init_4 rfl (lv_at hl 0 rfl) ?_
  refine lv_bipush (v := nI 81) hx hb dX0_init_5 (by decide +kernel) ?_
  refine e_newI hK hP hD hS hA hx hb haint 81 (by decide) rfl (Nat.le_of_ble_eq_true rfl) (Nat.le_of_ble_eq_true rfl) dX0_init_7 (fun q_1 H hP hD hS => ?_)
  have hP : va_P E.1 vwCl ([(o, .inr (0, [.null, .null, .null, .int 0]))] ++ [(q_1, .inl (E.2.1, 81, .inl (fun _ => 0)))]) H := hP
  have hD : va_D A ([(o, .inr (0, [.null, .null, .null, .int 0]))] ++ [(q_1, .inl (E.2.1, 81, .inl (fun _ => 0)))]) := hD
  refine va_putF (D := E.1) (ci := 0) (v := .ref q_1) (ty := (.array .int)) (C := RX0) (T := TX0) (N := 4) hx hb hts hin0 tyX0 tyX0_ok nmX0 hown hK.1 hP hD hS 0 rfl rfl 0 (by decide) lk9 (fun _ h9 => h9) rfl hin rfl (by decide +kernel) rfl rfl (Nat.le_of_ble_eq_true rfl) dX0_init_9 (fun H locs hP hD hS => ?_)
  have hP : va_P E.1 vwCl ([(o, .inr (0, [.ref q_1, .null, .null, .int 0]))] ++ [(q_1, .inl (E.2.1, 81, .inl (fun _ => 0)))]) H := hP
  have hD : va_D A ([(o, .inr (0, [.ref q_1, .null, .null, .int 0]))] ++ [(q_1, .inl (E.2.1, 81, .inl (fun _ => 0)))]) := hD
  refine lv_aload_n hx hb dX0_init_12 rfl (lv_at hl 0 rfl) ?_
  refine lv_bipush (v := nI 81) hx hb dX0_init_13 (by decide +kernel) ?_
  refine e_newI hK hP hD hS hA hx hb haint 81 (by decide) rfl (Nat.le_of_ble_eq_true rfl) (Nat.le_of_ble_eq_true rfl) dX0_init_15 (fun q_2 H hP hD hS => ?_)
  have hP : va_P E.1 vwCl ([(o, .inr (0, [.ref q_1, .null, .null, .int 0]))] ++ [(q_1, .inl (E.2.1, 81, .inl (fun _ => 0)))] ++ [(q_2, .inl (E.2.1, 81, .inl (fun _ => 0)))]) H := hP
  have hD : va_D A ([(o, .inr (0, [.ref q_1, .null, .null, .int 0]))] ++ [(q_1, .inl (E.2.1, 81, .inl (fun _ => 0)))] ++ [(q_2, .inl (E.2.1, 81, .inl (fun _ => 0)))]) := hD
  refine va_putF (D := E.1) (ci := 0) (v := .ref q_2) (ty := (.array .int)) (C := RX0) (T := TX0) (N := 4) hx hb hts hin0 tyX0 tyX0_ok nmX0 hown hK.1 hP hD hS 0 rfl rfl 1 (by decide) lk15 (fun _ h9 => h9) rfl hin rfl (by decide +kernel) rfl rfl (Nat.le_of_ble_eq_true rfl) dX0_init_17 (fun H locs hP hD hS => ?_)
  have hP : va_P E.1 vwCl ([(o, .inr (0, [.ref q_1, .ref q_2, .null, .int 0]))] ++ [(q_1, .inl (E.2.1, 81, .inl (fun _ => 0)))] ++ [(q_2, .inl (E.2.1, 81, .inl (fun _ => 0)))]) H := hP
  have hD : va_D A ([(o, .inr (0, [.ref q_1, .ref q_2, .null, .int 0]))] ++ [(q_1, .inl (E.2.1, 81, .inl (fun _ => 0)))] ++ [(q_2, .inl (E.2.1, 81, .inl (fun _ => 0)))]) := hD
  refine lv_aload_n hx hb dX0_init_20 rfl (lv_at hl 0 rfl) ?_
  refine lv_bipush (v := nI 81) hx hb dX0_init_21 (by decide +kernel) ?_
  refine e_newZ hK hP hD hS hA hx hb haboolean 81 (by decide) rfl (Nat.le_of_ble_eq_true rfl) (Nat.le_of_ble_eq_true rfl) dX0_init_23 (fun q_3 H hP hD hS => ?_)
  have hP : va_P E.1 vwCl ([(o, .inr (0, [.ref q_1, .ref q_2, .null, .int 0]))] ++ [(q_1, .inl (E.2.1, 81, .inl (fun _ => 0)))] ++ [(q_2, .inl (E.2.1, 81, .inl (fun _ => 0)))] ++ [(q_3, .inl (E.2.2.1, 81, .inl (fun k => b2i ((fun _ => false) k))))]) H := hP
  have hD : va_D A ([(o, .inr (0, [.ref q_1, .ref q_2, .null, .int 0]))] ++ [(q_1, .inl (E.2.1, 81, .inl (fun _ => 0)))] ++ [(q_2, .inl (E.2.1, 81, .inl (fun _ => 0)))] ++ [(q_3, .inl (E.2.2.1, 81, .inl (fun k => b2i ((fun _ => false) k))))]) := hD
  refine va_putF (D := E.1) (ci := 0) (v := .ref q_3) (ty := (.array .boolean)) (C := RX0) (T := TX0) (N := 4) hx hb hts hin0 tyX0 tyX0_ok nmX0 hown hK.1 hP hD hS 0 rfl rfl 2 (by decide) lk18 (fun _ h9 => h9) rfl hin rfl (by decide +kernel) rfl rfl (Nat.le_of_ble_eq_true rfl) dX0_init_25 (fun H locs hP hD hS => ?_)
  have hP : va_P E.1 vwCl ([(o, .inr (0, [.ref q_1, .ref q_2, .ref q_3, .int 0]))] ++ [(q_1, .inl (E.2.1, 81, .inl (fun _ => 0)))] ++ [(q_2, .inl (E.2.1, 81, .inl (fun _ => 0)))] ++ [(q_3, .inl (E.2.2.1, 81, .inl (fun k => b2i ((fun _ => false) k))))]) H := hP
  have hD : va_D A ([(o, .inr (0, [.ref q_1, .ref q_2, .ref q_3, .int 0]))] ++ [(q_1, .inl (E.2.1, 81, .inl (fun _ => 0)))] ++ [(q_2, .inl (E.2.1, 81, .inl (fun _ => 0)))] ++ [(q_3, .inl (E.2.2.1, 81, .inl (fun k => b2i ((fun _ => false) k))))]) := hD
  refine lv_aload_n hx hb dX0_init_28 rfl (lv_at hl 0 rfl) ?_
  refine va_get (D := E.1) (ci := 0) (v := .ref q_1) (C := RX0) (T := TX0) (N := 4) hx hb hts hin0 hown hK.1 hP 0 rfl rfl 0 (by decide) lk9 (fun _ h9 => h9) rfl dX0_init_29 ?_
  refine lv_bipush (v := nI 20) hx hb dX0_init_32 (by decide +kernel) ?_
  refine e_callS (As := [.ref q_1, .int (nI 20)]) (rest := []) ⟨hx, hb, hml, hown, hts⟩ hK hP hD hS hA hl.1 (c_J7_fill_81 l E _ q_1 (fun _ => 0) (nI 20)) (va_cwS 2 hts gX0_init_J7_fill_53178 rfl rfl rfl (by decide +kernel) ⟨Nat.le_of_ble_eq_true rfl, Nat.le_of_ble_eq_true rfl⟩) [1] [0, 2, 3] rfl rfl rfl rfl (by decide) rfl rfl (Nat.le_of_ble_eq_true rfl) dX0_init_34 ⟨Nat.le_of_ble_eq_true rfl, Nat.le_of_ble_eq_true rfl⟩ (fun u_4 H locs hu_5 hsz1 hP hD hS => ?_)
  have hP : va_P E.1 vwCl ([(o, .inr (0, [.ref q_1, .ref q_2, .ref q_3, .int 0]))] ++ [(q_1, .inl (E.2.1, 81, .inl (fun _ => (nI 20))))] ++ [(q_2, .inl (E.2.1, 81, .inl (fun _ => 0)))] ++ [(q_3, .inl (E.2.2.1, 81, .inl (fun k => b2i ((fun _ => false) k))))]) H := hP.sub [0, 3, 1, 2] rfl
  have hD : va_D A ([(o, .inr (0, [.ref q_1, .ref q_2, .ref q_3, .int 0]))] ++ [(q_1, .inl (E.2.1, 81, .inl (fun _ => (nI 20))))] ++ [(q_2, .inl (E.2.1, 81, .inl (fun _ => 0)))] ++ [(q_3, .inl (E.2.2.1, 81, .inl (fun k => b2i ((fun _ => false) k))))]) := hD.sub [0, 3, 1, 2] (by decide) rfl
  refine W.eq (g2 := F0 m 37 ls []) rfl ?_
  exact e_vret (q_1, q_2, q_3) hQ hx hb hr hlocks hP hD hS dX0_init_37 (rfl) (Nat.le_of_ble_eq_true rfl) (Nat.le_of_ble_eq_true rfl) (trivial)

abbrev rm_X1_init : Room := { frames := 1, cells := 2, slots := 162, locals := 23 }
set_option maxHeartbeats 4000000 in
set_option maxRecDepth 100000 in
theorem c_X1_init (l : Launch) (E : eT) (sz : Nat) (o : Nat) : cM l yX1_init wsX1_init rm_X1_init E sz [.ref o] ([(o, .inr (1, [.null, .null]))]) (fun u : (Nat) × (Nat) => none) (fun u : (Nat) × (Nat) => True) (fun u : (Nat) × (Nat) => wSo E o u.1 u.2 (fun _ => (-1)) (fun _ => nI 0)) := by
  refine cM_intro (cc := cX1_init) (maxL := 1) (ret := none) (by decide +kernel) rfl (Nat.le_of_ble_eq_true rfl) ?_
  intro p e s m args below meth cd hx hb hr hml hown hlocks hts hnm hK hsz hP A hD hA Q hQ ls hl
  have hown : s.vm.findClass RX1 = some m.cls := hown
  have hin : meth.name = "<init>" := hnm
  have hin1 : ∀ w ∈ u_ws RX1 TX1 2, w ∈ wsX1_init := by decide +kernel
  have lk9 := hts (.fieldLink RX1 9 "ReefPilot$Soundings" "depth" "[I") (by decide +kernel)
  have lk15 := hts (.fieldLink RX1 15 "ReefPilot$Soundings" "takenIn" "[I") (by decide +kernel)
  have haint := hts (.arrayClass .int) (by decide +kernel)
  have haoi1 := hts (.methodLink RX1 3 objectInit) (by decide +kernel)
  have haoi2 := hts (.instanceMethod objectInit) (by decide +kernel)
  have haoi3 := hts (.code objectInit ⟨#[0xb1]⟩ 1 none) (by decide +kernel)
  have hS : va_S A s.heap s.heap [] := va_S.rf
  have hl : lv_has ls 1 [(0, .ref o)] := hl
  refine lv_aload_n hx hb dX1_init_0 rfl (lv_at hl 0 rfl) ?_
  refine W.objInit hx hb hown haoi1 haoi2 haoi3 rfl (by rw [hml]; exact hl.1) rfl dX1_init_1 (Nat.le_of_ble_eq_true rfl) (Nat.le_of_ble_eq_true rfl) ?_
  refine W.eq (g2 := F0 m 4 ls []) rfl ?_
  refine lv_aload_n hx hb dX1_init_4 rfl (lv_at hl 0 rfl) ?_
  refine lv_bipush (v := nI 81) hx hb dX1_init_5 (by decide +kernel) ?_
  refine e_newI hK hP hD hS hA hx hb haint 81 (by decide) rfl (Nat.le_of_ble_eq_true rfl) (Nat.le_of_ble_eq_true rfl) dX1_init_7 (fun q_1 H hP hD hS => ?_)
  have hP : va_P E.1 vwCl ([(o, .inr (1, [.null, .null]))] ++ [(q_1, .inl (E.2.1, 81, .inl (fun _ => 0)))]) H := hP
  have hD : va_D A ([(o, .inr (1, [.null, .null]))] ++ [(q_1, .inl (E.2.1, 81, .inl (fun _ => 0)))]) := hD
  refine va_putF (D := E.1) (ci := 1) (v := .ref q_1) (ty := (.array .int)) (C := RX1) (T := TX1) (N := 2) hx hb hts hin1 tyX1 tyX1_ok nmX1 hown hK.1 hP hD hS 0 rfl rfl 0 (by decide) lk9 (fun _ h9 => h9) rfl hin rfl (by decide +kernel) rfl rfl (Nat.le_of_ble_eq_true rfl) dX1_init_9 (fun H locs hP hD hS => ?_)
  have hP : va_P E.1 vwCl ([(o, .inr (1, [.ref q_1, .null]))] ++ [(q_1, .inl (E.2.1, 81, .inl (fun _ => 0)))]) H := hP
  have hD : va_D A ([(o, .inr (1, [.ref q_1, .null]))] ++ [(q_1, .inl (E.2.1, 81, .inl (fun _ => 0)))]) := hD
  refine lv_aload_n hx hb dX1_init_12 rfl (lv_at hl 0 rfl) ?_
  refine lv_bipush (v := nI 81) hx hb dX1_init_13 (by decide +kernel) ?_
  refine e_newI hK hP hD hS hA hx hb haint 81 (by decide) rfl (Nat.le_of_ble_eq_true rfl) (Nat.le_of_ble_eq_true rfl) dX1_init_15 (fun q_2 H hP hD hS => ?_)
  have hP : va_P E.1 vwCl ([(o, .inr (1, [.ref q_1, .null]))] ++ [(q_1, .inl (E.2.1, 81, .inl (fun _ => 0)))] ++ [(q_2, .inl (E.2.1, 81, .inl (fun _ => 0)))]) H := hP
  have hD : va_D A ([(o, .inr (1, [.ref q_1, .null]))] ++ [(q_1, .inl (E.2.1, 81, .inl (fun _ => 0)))] ++ [(q_2, .inl (E.2.1, 81, .inl (fun _ => 0)))]) := hD
  refine va_putF (D := E.1) (ci := 1) (v := .ref q_2) (ty := (.array .int)) (C := RX1) (T := TX1) (N := 2) hx hb hts hin1 tyX1 tyX1_ok nmX1 hown hK.1 hP hD hS 0 rfl rfl 1 (by decide) lk15 (fun _ h9 => h9) rfl hin rfl (by decide +kernel) rfl rfl (Nat.le_of_ble_eq_true rfl) dX1_init_17 (fun H locs hP hD hS => ?_)
  have hP : va_P E.1 vwCl ([(o, .inr (1, [.ref q_1, .ref q_2]))] ++ [(q_1, .inl (E.2.1, 81, .inl (fun _ => 0)))] ++ [(q_2, .inl (E.2.1, 81, .inl (fun _ => 0)))]) H := hP
  have hD : va_D A ([(o, .inr (1, [.ref q_1, .ref q_2]))] ++ [(q_1, .inl (E.2.1, 81, .inl (fun _ => 0)))] ++ [(q_2, .inl (E.2.1, 81, .inl (fun _ => 0)))]) := hD
  refine lv_aload_n hx hb dX1_init_20 rfl (lv_at hl 0 rfl) ?_
  refine va_get (D := E.1) (ci := 1) (v := .ref q_1) (C := RX1) (T := TX1) (N := 2) hx hb hts hin1 hown hK.1 hP 0 rfl rfl 0 (by decide) lk9 (fun _ h9 => h9) rfl dX1_init_21 ?_
  refine lv_iconst (v := (-1)) hx hb dX1_init_24 (by decide +kernel) ?_
  refine e_callS (As := [.ref q_1, .int (-1)]) (rest := []) ⟨hx, hb, hml, hown, hts⟩ hK hP hD hS hA hl.1 (c_J7_fill_81 l E _ q_1 (fun _ => 0) (-1)) (va_cwS 2 hts gX1_init_J7_fill_53178 rfl rfl rfl (by decide +kernel) ⟨Nat.le_of_ble_eq_true rfl, Nat.le_of_ble_eq_true rfl⟩) [1] [0, 2] rfl rfl rfl rfl (by decide) rfl rfl (Nat.le_of_ble_eq_true rfl) dX1_init_25 ⟨Nat.le_of_ble_eq_true rfl, Nat.le_of_ble_eq_true rfl⟩ (fun u_3 H locs hu_4 hsz1 hP hD hS => ?_)
  have hP : va_P E.1 vwCl ([(o, .inr (1, [.ref q_1, .ref q_2]))] ++ [(q_1, .inl (E.2.1, 81, .inl (fun _ => (-1))))] ++ [(q_2, .inl (E.2.1, 81, .inl (fun _ => 0)))]) H := hP.sub [0, 2, 1] rfl
  have hD : va_D A ([(o, .inr (1, [.ref q_1, .ref q_2]))] ++ [(q_1, .inl (E.2.1, 81, .inl (fun _ => (-1))))] ++ [(q_2, .inl (E.2.1, 81, .inl (fun _ => 0)))]) := hD.sub [0, 2, 1] (by decide) rfl
  refine W.eq (g2 := F0 m 28 ls []) rfl ?_
  exact e_vret (q_1, q_2) hQ hx hb hr hlocks hP hD hS dX1_init_28 (rfl) (Nat.le_of_ble_eq_true rfl) (Nat.le_of_ble_eq_true rfl) (trivial)

abbrev rm_X2_init : Room := { frames := 1, cells := 3, slots := 243, locals := 12 }
set_option maxHeartbeats 4000000 in
set_option maxRecDepth 100000 in
theorem c_X2_init (l : Launch) (E : eT) (sz : Nat) (o : Nat) : cM l yX2_init wsX2_init rm_X2_init E sz [.ref o] ([(o, .inr (2, [.null, .null, .null, .int 0]))]) (fun u : (Nat) × (Nat) × (Nat) => none) (fun u : (Nat) × (Nat) × (Nat) => True) (fun u : (Nat) × (Nat) × (Nat) => wSp E o u.1 u.2.1 u.2.2 (fun _ => false) (fun _ => 0) (fun _ => 0) 0) := by
  refine cM_intro (cc := cX2_init) (maxL := 1) (ret := none) (by decide +kernel) rfl (Nat.le_of_ble_eq_true rfl) ?_
  intro p e s m args below meth cd hx hb hr hml hown hlocks hts hnm hK hsz hP A hD hA Q hQ ls hl
  have hown : s.vm.findClass RX2 = some m.cls := hown
  have hin : meth.name = "<init>" := hnm
  have hin2 : ∀ w ∈ u_ws RX2 TX2 4, w ∈ wsX2_init := by decide +kernel
  have lk9 := hts (.fieldLink RX2 9 "ReefPilot$Spread" "open" "[Z") (by decide +kernel)
  have lk15 := hts (.fieldLink RX2 15 "ReefPilot$Spread" "steps" "[I") (by decide +kernel)
  have lk19 := hts (.fieldLink RX2 19 "ReefPilot$Spread" "reached" "[I") (by decide +kernel)
  have haboolean := hts (.arrayClass .boolean) (by decide +kernel)
  have haint := hts (.arrayClass .int) (by decide +kernel)
  have haoi1 := hts (.methodLink RX2 3 objectInit) (by decide +kernel)
  have haoi2 := hts (.instanceMethod objectInit) (by decide +kernel)
  have haoi3 := hts (.code objectInit ⟨#[0xb1]⟩ 1 none) (by decide +kernel)
  have hS : va_S A s.heap s.heap [] := va_S.rf
  have hl : lv_has ls 1 [(0, .ref o)] := hl
  refine lv_aload_n hx hb dX2_init_0 rfl (lv_at hl 0 rfl) ?_
  refine W.objInit hx hb hown haoi1 haoi2 haoi3 rfl (by rw [hml]; exact hl.1) rfl dX2_init_1 (Nat.le_of_ble_eq_true rfl) (Nat.le_of_ble_eq_true rfl) ?_
  refine W.eq (g2 := F0 m 4 ls []) rfl ?_
  refine lv_aload_n hx hb dX2_init_4 rfl (lv_at hl 0 rfl) ?_
  refine lv_bipush (v := nI 81) hx hb dX2_init_5 (by decide +kernel) ?_
  refine e_newZ hK hP hD hS hA hx hb haboolean 81 (by decide) rfl (Nat.le_of_ble_eq_true rfl) (Nat.le_of_ble_eq_true rfl) dX2_init_7 (fun q_1 H hP hD hS => ?_)
  have hP : va_P E.1 vwCl ([(o, .inr (2, [.null, .null, .null, .int 0]))] ++ [(q_1, .inl (E.2.2.1, 81, .inl (fun k => b2i ((fun _ => false) k))))]) H := hP
  have hD : va_D A ([(o, .inr (2, [.null, .null, .null, .int 0]))] ++ [(q_1, .inl (E.2.2.1, 81, .inl (fun k => b2i ((fun _ => false) k))))]) := hD
  refine va_putF (D := E.1) (ci := 2) (v := .ref q_1) (ty := (.array .boolean)) (C := RX2) (T := TX2) (N := 4) hx hb hts hin2 tyX2 tyX2_ok nmX2 hown hK.1 hP hD hS 0 rfl rfl 0 (by decide) lk9 (fun _ h9 => h9) rfl hin rfl (by decide +kernel) rfl rfl (Nat.le_of_ble_eq_true rfl) dX2_init_9 (fun H locs hP hD hS => ?_)
  have hP : va_P E.1 vwCl ([(o, .inr (2, [.ref q_1, .null, .null, .int 0]))] ++ [(q_1, .inl (E.2.2.1, 81, .inl (fun k => b2i ((fun _ => false) k))))]) H := hP
  have hD : va_D A ([(o, .inr (2, [.ref q_1, .null, .null, .int 0]))] ++ [(q_1, .inl (E.2.2.1, 81, .inl (fun k => b2i ((fun _ => false) k))))]) := hD
  refine lv_aload_n hx hb dX2_init_12 rfl (lv_at hl 0 rfl) ?_
  refine lv_bipush (v := nI 81) hx hb dX2_init_13 (by decide +kernel) ?_
  refine e_newI hK hP hD hS hA hx hb haint 81 (by decide) rfl (Nat.le_of_ble_eq_true rfl) (Nat.le_of_ble_eq_true rfl) dX2_init_15 (fun q_2 H hP hD hS => ?_)
  have hP : va_P E.1 vwCl ([(o, .inr (2, [.ref q_1, .null, .null, .int 0]))] ++ [(q_1, .inl (E.2.2.1, 81, .inl (fun k => b2i ((fun _ => false) k))))] ++ [(q_2, .inl (E.2.1, 81, .inl (fun _ => 0)))]) H := hP
  have hD : va_D A ([(o, .inr (2, [.ref q_1, .null, .null, .int 0]))] ++ [(q_1, .inl (E.2.2.1, 81, .inl (fun k => b2i ((fun _ => false) k))))] ++ [(q_2, .inl (E.2.1, 81, .inl (fun _ => 0)))]) := hD
  refine va_putF (D := E.1) (ci := 2) (v := .ref q_2) (ty := (.array .int)) (C := RX2) (T := TX2) (N := 4) hx hb hts hin2 tyX2 tyX2_ok nmX2 hown hK.1 hP hD hS 0 rfl rfl 1 (by decide) lk15 (fun _ h9 => h9) rfl hin rfl (by decide +kernel) rfl rfl (Nat.le_of_ble_eq_true rfl) dX2_init_17 (fun H locs hP hD hS => ?_)
  have hP : va_P E.1 vwCl ([(o, .inr (2, [.ref q_1, .ref q_2, .null, .int 0]))] ++ [(q_1, .inl (E.2.2.1, 81, .inl (fun k => b2i ((fun _ => false) k))))] ++ [(q_2, .inl (E.2.1, 81, .inl (fun _ => 0)))]) H := hP
  have hD : va_D A ([(o, .inr (2, [.ref q_1, .ref q_2, .null, .int 0]))] ++ [(q_1, .inl (E.2.2.1, 81, .inl (fun k => b2i ((fun _ => false) k))))] ++ [(q_2, .inl (E.2.1, 81, .inl (fun _ => 0)))]) := hD
  refine lv_aload_n hx hb dX2_init_20 rfl (lv_at hl 0 rfl) ?_
  refine lv_bipush (v := nI 81) hx hb dX2_init_21 (by decide +kernel) ?_
  refine e_newI hK hP hD hS hA hx hb haint 81 (by decide) rfl (Nat.le_of_ble_eq_true rfl) (Nat.le_of_ble_eq_true rfl) dX2_init_23 (fun q_3 H hP hD hS => ?_)
  have hP : va_P E.1 vwCl ([(o, .inr (2, [.ref q_1, .ref q_2, .null, .int 0]))] ++ [(q_1, .inl (E.2.2.1, 81, .inl (fun k => b2i ((fun _ => false) k))))] ++ [(q_2, .inl (E.2.1, 81, .inl (fun _ => 0)))] ++ [(q_3, .inl (E.2.1, 81, .inl (fun _ => 0)))]) H := hP
  have hD : va_D A ([(o, .inr (2, [.ref q_1, .ref q_2, .null, .int 0]))] ++ [(q_1, .inl (E.2.2.1, 81, .inl (fun k => b2i ((fun _ => false) k))))] ++ [(q_2, .inl (E.2.1, 81, .inl (fun _ => 0)))] ++ [(q_3, .inl (E.2.1, 81, .inl (fun _ => 0)))]) := hD
  refine va_putF (D := E.1) (ci := 2) (v := .ref q_3) (ty := (.array .int)) (C := RX2) (T := TX2) (N := 4) hx hb hts hin2 tyX2 tyX2_ok nmX2 hown hK.1 hP hD hS 0 rfl rfl 2 (by decide) lk19 (fun _ h9 => h9) rfl hin rfl (by decide +kernel) rfl rfl (Nat.le_of_ble_eq_true rfl) dX2_init_25 (fun H locs hP hD hS => ?_)
  have hP : va_P E.1 vwCl ([(o, .inr (2, [.ref q_1, .ref q_2, .ref q_3, .int 0]))] ++ [(q_1, .inl (E.2.2.1, 81, .inl (fun k => b2i ((fun _ => false) k))))] ++ [(q_2, .inl (E.2.1, 81, .inl (fun _ => 0)))] ++ [(q_3, .inl (E.2.1, 81, .inl (fun _ => 0)))]) H := hP
  have hD : va_D A ([(o, .inr (2, [.ref q_1, .ref q_2, .ref q_3, .int 0]))] ++ [(q_1, .inl (E.2.2.1, 81, .inl (fun k => b2i ((fun _ => false) k))))] ++ [(q_2, .inl (E.2.1, 81, .inl (fun _ => 0)))] ++ [(q_3, .inl (E.2.1, 81, .inl (fun _ => 0)))]) := hD
  exact e_vret (q_1, q_2, q_3) hQ hx hb hr hlocks hP hD hS dX2_init_28 (rfl) (Nat.le_of_ble_eq_true rfl) (Nat.le_of_ble_eq_true rfl) (trivial)

abbrev rm_X3_init : Room := { frames := 1, cells := 2, slots := 24, locals := 23 }
set_option maxHeartbeats 4000000 in
set_option maxRecDepth 100000 in
theorem c_X3_init (l : Launch) (E : eT) (sz : Nat) (o : Nat) : cM l yX3_init wsX3_init rm_X3_init E sz [.ref o] ([(o, .inr (3, [.null, .null]))]) (fun u : (Nat) × (Nat) => none) (fun u : (Nat) × (Nat) => True) (fun u : (Nat) × (Nat) => wTb E o u.1 u.2 (fun _ => nI 4) (fun _ => nI 0)) := by
  refine cM_intro (cc := cX3_init) (maxL := 1) (ret := none) (by decide +kernel) rfl (Nat.le_of_ble_eq_true rfl) ?_
  intro p e s m args below meth cd hx hb hr hml hown hlocks hts hnm hK hsz hP A hD hA Q hQ ls hl
  have hown : s.vm.findClass RX3 = some m.cls := hown
  have hin : meth.name = "<init>" := hnm
  have hin3 : ∀ w ∈ u_ws RX3 TX3 2, w ∈ wsX3_init := by decide +kernel
  have lk9 := hts (.fieldLink RX3 9 "ReefPilot$Table" "warmth" "[I") (by decide +kernel)
  have lk15 := hts (.fieldLink RX3 15 "ReefPilot$Table" "storm" "[I") (by decide +kernel)
  have haint := hts (.arrayClass .int) (by decide +kernel)
  have haoi1 := hts (.methodLink RX3 3 objectInit) (by decide +kernel)
  have haoi2 := hts (.instanceMethod objectInit) (by decide +kernel)
  have haoi3 := hts (.code objectInit ⟨#[0xb1]⟩ 1 none) (by decide +kernel)
  have hS : va_S A s.heap s.heap [] := va_S.rf
  have hl : lv_has ls 1 [(0, .ref o)] := hl
  refine lv_aload_n hx hb dX3_init_0 rfl (lv_at hl 0 rfl) ?_
  refine W.objInit hx hb hown haoi1 haoi2 haoi3 rfl (by rw [hml]; exact hl.1) rfl dX3_init_1 (Nat.le_of_ble_eq_true rfl) (Nat.le_of_ble_eq_true rfl) ?_
  refine W.eq (g2 := F0 m 4 ls []) rfl ?_
  refine lv_aload_n hx hb dX3_init_4 rfl (lv_at hl 0 rfl) ?_
  refine lv_bipush (v := nI 12) hx hb dX3_init_5 (by decide +kernel) ?_
  refine e_newI hK hP hD hS hA hx hb haint 12 (by decide) rfl (Nat.le_of_ble_eq_true rfl) (Nat.le_of_ble_eq_true rfl) dX3_init_7 (fun q_1 H hP hD hS => ?_)
  have hP : va_P E.1 vwCl ([(o, .inr (3, [.null, .null]))] ++ [(q_1, .inl (E.2.1, 12, .inl (fun _ => 0)))]) H := hP
  have hD : va_D A ([(o, .inr (3, [.null, .null]))] ++ [(q_1, .inl (E.2.1, 12, .inl (fun _ => 0)))]) := hD
  refine va_putF (D := E.1) (ci := 3) (v := .ref q_1) (ty := (.array .int)) (C := RX3) (T := TX3) (N := 2) hx hb hts hin3 tyX3 tyX3_ok nmX3 hown hK.1 hP hD hS 0 rfl rfl 0 (by decide) lk9 (fun _ h9 => h9) rfl hin rfl (by decide +kernel) rfl rfl (Nat.le_of_ble_eq_true rfl) dX3_init_9 (fun H locs hP hD hS => ?_)
  have hP : va_P E.1 vwCl ([(o, .inr (3, [.ref q_1, .null]))] ++ [(q_1, .inl (E.2.1, 12, .inl (fun _ => 0)))]) H := hP
  have hD : va_D A ([(o, .inr (3, [.ref q_1, .null]))] ++ [(q_1, .inl (E.2.1, 12, .inl (fun _ => 0)))]) := hD
  refine lv_aload_n hx hb dX3_init_12 rfl (lv_at hl 0 rfl) ?_
  refine lv_bipush (v := nI 12) hx hb dX3_init_13 (by decide +kernel) ?_
  refine e_newI hK hP hD hS hA hx hb haint 12 (by decide) rfl (Nat.le_of_ble_eq_true rfl) (Nat.le_of_ble_eq_true rfl) dX3_init_15 (fun q_2 H hP hD hS => ?_)
  have hP : va_P E.1 vwCl ([(o, .inr (3, [.ref q_1, .null]))] ++ [(q_1, .inl (E.2.1, 12, .inl (fun _ => 0)))] ++ [(q_2, .inl (E.2.1, 12, .inl (fun _ => 0)))]) H := hP
  have hD : va_D A ([(o, .inr (3, [.ref q_1, .null]))] ++ [(q_1, .inl (E.2.1, 12, .inl (fun _ => 0)))] ++ [(q_2, .inl (E.2.1, 12, .inl (fun _ => 0)))]) := hD
  refine va_putF (D := E.1) (ci := 3) (v := .ref q_2) (ty := (.array .int)) (C := RX3) (T := TX3) (N := 2) hx hb hts hin3 tyX3 tyX3_ok nmX3 hown hK.1 hP hD hS 0 rfl rfl 1 (by decide) lk15 (fun _ h9 => h9) rfl hin rfl (by decide +kernel) rfl rfl (Nat.le_of_ble_eq_true rfl) dX3_init_17 (fun H locs hP hD hS => ?_)
  have hP : va_P E.1 vwCl ([(o, .inr (3, [.ref q_1, .ref q_2]))] ++ [(q_1, .inl (E.2.1, 12, .inl (fun _ => 0)))] ++ [(q_2, .inl (E.2.1, 12, .inl (fun _ => 0)))]) H := hP
  have hD : va_D A ([(o, .inr (3, [.ref q_1, .ref q_2]))] ++ [(q_1, .inl (E.2.1, 12, .inl (fun _ => 0)))] ++ [(q_2, .inl (E.2.1, 12, .inl (fun _ => 0)))]) := hD
  refine lv_aload_n hx hb dX3_init_20 rfl (lv_at hl 0 rfl) ?_
  refine va_get (D := E.1) (ci := 3) (v := .ref q_1) (C := RX3) (T := TX3) (N := 2) hx hb hts hin3 hown hK.1 hP 0 rfl rfl 0 (by decide) lk9 (fun _ h9 => h9) rfl dX3_init_21 ?_
  refine lv_iconst (v := nI 4) hx hb dX3_init_24 (by decide +kernel) ?_
  refine e_callS (As := [.ref q_1, .int (nI 4)]) (rest := []) ⟨hx, hb, hml, hown, hts⟩ hK hP hD hS hA hl.1 (c_J7_fill_12 l E _ q_1 (fun _ => 0) (nI 4)) (va_cwS 2 hts gX3_init_J7_fill_53178 rfl rfl rfl (by decide +kernel) ⟨Nat.le_of_ble_eq_true rfl, Nat.le_of_ble_eq_true rfl⟩) [1] [0, 2] rfl rfl rfl rfl (by decide) rfl rfl (Nat.le_of_ble_eq_true rfl) dX3_init_25 ⟨Nat.le_of_ble_eq_true rfl, Nat.le_of_ble_eq_true rfl⟩ (fun u_3 H locs hu_4 hsz1 hP hD hS => ?_)
  have hP : va_P E.1 vwCl ([(o, .inr (3, [.ref q_1, .ref q_2]))] ++ [(q_1, .inl (E.2.1, 12, .inl (fun _ => (nI 4))))] ++ [(q_2, .inl (E.2.1, 12, .inl (fun _ => 0)))]) H := hP.sub [0, 2, 1] rfl
  have hD : va_D A ([(o, .inr (3, [.ref q_1, .ref q_2]))] ++ [(q_1, .inl (E.2.1, 12, .inl (fun _ => (nI 4))))] ++ [(q_2, .inl (E.2.1, 12, .inl (fun _ => 0)))]) := hD.sub [0, 2, 1] (by decide) rfl
  refine W.eq (g2 := F0 m 28 ls []) rfl ?_
  exact e_vret (q_1, q_2) hQ hx hb hr hlocks hP hD hS dX3_init_28 (rfl) (Nat.le_of_ble_eq_true rfl) (Nat.le_of_ble_eq_true rfl) (trivial)

abbrev rm_X4_init : Room := { frames := 2, cells := 19, slots := 1012, locals := 43 }
set_option maxHeartbeats 4000000 in
set_option maxRecDepth 100000 in
theorem c_X4_init (l : Launch) (E : eT) (sz : Nat) (o : Nat) : cM l yX4_init wsX4_init rm_X4_init E sz [.ref o] ([(o, .inr (4, [.null, .null, .null, .null, .null, .null]))]) (fun u : (Nat → Nat) => none) (fun u : (Nat → Nat) => True) (fun u : (Nat → Nat) => wAll E o u (fun _ => nI 4) (fun _ => nI 0) (fun _ => nI 20) (fun _ => nI 0) (fun _ => false) (nI 0) (fun _ => nI 20) (fun _ => nI 0) (fun _ => false) (nI 0) (fun _ => (-1)) (fun _ => nI 0) (fun _ => false) (fun _ => 0) (fun _ => 0) 0 (fun _ => nI 0)) := by
  refine cM_intro (cc := cX4_init) (maxL := 1) (ret := none) (by decide +kernel) rfl (Nat.le_of_ble_eq_true rfl) ?_
  intro p e s m args below meth cd hx hb hr hml hown hlocks hts hnm hK hsz hP A hD hA Q hQ ls hl
  have hown : s.vm.findClass RX4 = some m.cls := hown
  have hin : meth.name = "<init>" := hnm
  have hin0 : ∀ w ∈ u_ws RX0 TX0 4, w ∈ wsX4_init := by decide +kernel
  have hin1 : ∀ w ∈ u_ws RX1 TX1 2, w ∈ wsX4_init := by decide +kernel
  have hin2 : ∀ w ∈ u_ws RX2 TX2 4, w ∈ wsX4_init := by decide +kernel
  have hin3 : ∀ w ∈ u_ws RX3 TX3 2, w ∈ wsX4_init := by decide +kernel
  have hin4 : ∀ w ∈ u_ws RX4 TX4 6, w ∈ wsX4_init := by decide +kernel
  have lk12 := hts (.fieldLink RX4 12 "ReefPilot" "table" "LReefPilot$Table;") (by decide +kernel)
  have lk19 := hts (.fieldLink RX4 19 "ReefPilot" "coast" "LReefPilot$Coast;") (by decide +kernel)
  have lk23 := hts (.fieldLink RX4 23 "ReefPilot" "ahead" "LReefPilot$Coast;") (by decide +kernel)
  have lk29 := hts (.fieldLink RX4 29 "ReefPilot" "soundings" "LReefPilot$Soundings;") (by decide +kernel)
  have lk36 := hts (.fieldLink RX4 36 "ReefPilot" "spread" "LReefPilot$Spread;") (by decide +kernel)
  have lk40 := hts (.fieldLink RX4 40 "ReefPilot" "water" "[I") (by decide +kernel)
  have hacl16 := hts (.classLink RX4 16 RX0) (by decide +kernel)
  have hacl26 := hts (.classLink RX4 26 RX1) (by decide +kernel)
  have hacl33 := hts (.classLink RX4 33 RX2) (by decide +kernel)
  have hacl9 := hts (.classLink RX4 9 RX3) (by decide +kernel)
  have haimX0_init := hts (.instanceMethod yX0_init) (by decide +kernel)
  have haimX1_init := hts (.instanceMethod yX1_init) (by decide +kernel)
  have haimX2_init := hts (.instanceMethod yX2_init) (by decide +kernel)
  have haimX3_init := hts (.instanceMethod yX3_init) (by decide +kernel)
  have hain0 := hts (.instantiable RX0 4) (by decide +kernel)
  have hain1 := hts (.instantiable RX1 2) (by decide +kernel)
  have hain2 := hts (.instantiable RX2 4) (by decide +kernel)
  have hain3 := hts (.instantiable RX3 2) (by decide +kernel)
  have haini0 := hts (.initialized RX0) (by decide +kernel)
  have haini1 := hts (.initialized RX1) (by decide +kernel)
  have haini2 := hts (.initialized RX2) (by decide +kernel)
  have haini3 := hts (.initialized RX3) (by decide +kernel)
  have hainiX0_init := hts (.initialized RX0) (by decide +kernel)
  have hainiX1_init := hts (.initialized RX1) (by decide +kernel)
  have hainiX2_init := hts (.initialized RX2) (by decide +kernel)
  have hainiX3_init := hts (.initialized RX3) (by decide +kernel)
  have haint := hts (.arrayClass .int) (by decide +kernel)
  have haml11 := hts (.methodLink RX4 11 yX3_init) (by decide +kernel)
  have haml18 := hts (.methodLink RX4 18 yX0_init) (by decide +kernel)
  have haml28 := hts (.methodLink RX4 28 yX1_init) (by decide +kernel)
  have haoi1 := hts (.methodLink RX4 3 objectInit) (by decide +kernel)
  have haoi2 := hts (.instanceMethod objectInit) (by decide +kernel)
  have haoi3 := hts (.code objectInit ⟨#[0xb1]⟩ 1 none) (by decide +kernel)
  have hS : va_S A s.heap s.heap [] := va_S.rf
  have hl : lv_has ls 1 [(0, .ref o)] := hl
  refine lv_aload_n hx hb dX4_init_0 rfl (lv_at hl 0 rfl) ?_
  refine W.objInit hx hb hown haoi1 haoi2 haoi3 rfl (by rw [hml]; exact hl.1) rfl dX4_init_1 (Nat.le_of_ble_eq_true rfl) (Nat.le_of_ble_eq_true rfl) ?_
  refine W.eq (g2 := F0 m 4 ls []) rfl ?_
  refine lv_aload_n hx hb dX4_init_4 rfl (lv_at hl 0 rfl) ?_
  refine va_new (ci := 3) (fs := [.null, .null]) (C := RX3) (T := TX3) (N := 2) hx hb hts hin3 tyX3 tyX3_ok hown hacl9 hain3 haini3 hK.1 hP hD hS hA rfl (fun j hj => by rcases (show j = 0 ∨ j = 1 by omega) with rfl | rfl <;> rfl) (Nat.le_of_ble_eq_true rfl) (Nat.le_of_ble_eq_true rfl) dX4_init_5 (fun q_1 H hP hD hS => ?_)
  have hP : va_P E.1 vwCl ([(o, .inr (4, [.null, .null, .null, .null, .null, .null]))] ++ [(q_1, .inr (3, [.null, .null]))]) H := hP
  have hD : va_D A ([(o, .inr (4, [.null, .null, .null, .null, .null, .null]))] ++ [(q_1, .inr (3, [.null, .null]))]) := hD
  refine lv_dup hx hb dX4_init_8 rfl ?_
  refine e_callI (As := []) (rest := [.ref q_1, .ref o]) ⟨hx, hb, hml, hown, hts⟩ hK hP hD hS hA hl.1 (c_X3_init l E _ q_1) (cwI 0 hts gX4_init_X3_init rfl rfl rfl hainiX3_init haml11 haimX3_init rfl (by decide +kernel) ⟨Nat.le_of_ble_eq_true rfl, Nat.le_of_ble_eq_true rfl⟩) [1] [0] rfl rfl rfl rfl (by decide) rfl rfl (Nat.le_of_ble_eq_true rfl) dX4_init_9 ⟨Nat.le_of_ble_eq_true rfl, Nat.le_of_ble_eq_true rfl⟩ (fun u_2 H locs hu_3 hsz1 hP hD hS => ?_)
  obtain ⟨a_4, b_5⟩ := u_2
  have hP : va_P E.1 vwCl ([(o, .inr (4, [.null, .null, .null, .null, .null, .null]))] ++ wTb E q_1 a_4 b_5 (fun _ => nI 4) (fun _ => nI 0)) H := hP.sub [0, 1, 2, 3] rfl
  have hD : va_D A ([(o, .inr (4, [.null, .null, .null, .null, .null, .null]))] ++ wTb E q_1 a_4 b_5 (fun _ => nI 4) (fun _ => nI 0)) := hD.sub [0, 1, 2, 3] (by decide) rfl
  refine W.eq (g2 := F0 m 12 ls [.ref q_1, .ref o]) rfl ?_
  refine va_putF (D := E.1) (ci := 4) (v := .ref q_1) (ty := (.object "ReefPilot$Table")) (C := RX4) (T := TX4) (N := 6) hx hb hts hin4 tyX4 tyX4_ok nmX4 hown hK.1 hP hD hS 0 rfl rfl 0 (by decide) lk12 (fun _ h9 => h9) rfl hin rfl (by decide +kernel) rfl rfl (Nat.le_of_ble_eq_true rfl) dX4_init_12 (fun H locs hP hD hS => ?_)
  have hP : va_P E.1 vwCl ([(o, .inr (4, [.ref q_1, .null, .null, .null, .null, .null]))] ++ wTb E q_1 a_4 b_5 (fun _ => nI 4) (fun _ => nI 0)) H := hP
  have hD : va_D A ([(o, .inr (4, [.ref q_1, .null, .null, .null, .null, .null]))] ++ wTb E q_1 a_4 b_5 (fun _ => nI 4) (fun _ => nI 0)) := hD
  refine lv_aload_n hx hb dX4_init_15 rfl (lv_at hl 0 rfl) ?_
  refine va_new (ci := 0) (fs := [.null, .null, .null, .int 0]) (C := RX0) (T := TX0) (N := 4) hx hb hts hin0 tyX0 tyX0_ok hown hacl16 hain0 haini0 hK.1 hP hD hS hA rfl (fun j hj => by rcases (show j = 0 ∨ j = 1 ∨ j = 2 ∨ j = 3 by omega) with rfl | rfl | rfl | rfl <;> rfl) (Nat.le_of_ble_eq_true rfl) (Nat.le_of_ble_eq_true rfl) dX4_init_16 (fun q_6 H hP hD hS => ?_)
  have hP : va_P E.1 vwCl ([(o, .inr (4, [.ref q_1, .null, .null, .null, .null, .null]))] ++ wTb E q_1 a_4 b_5 (fun _ => nI 4) (fun _ => nI 0) ++ [(q_6, .inr (0, [.null, .null, .null, .int 0]))]) H := hP
  have hD : va_D A ([(o, .inr (4, [.ref q_1, .null, .null, .null, .null, .null]))] ++ wTb E q_1 a_4 b_5 (fun _ => nI 4) (fun _ => nI 0) ++ [(q_6, .inr (0, [.null, .null, .null, .int 0]))]) := hD
  refine lv_dup hx hb dX4_init_19 rfl ?_
  refine e_callI (As := []) (rest := [.ref q_6, .ref o]) ⟨hx, hb, hml, hown, hts⟩ hK hP hD hS hA hl.1 (c_X0_init l E _ q_6) (cwI 0 hts gX4_init_X0_init rfl rfl rfl hainiX0_init haml18 haimX0_init rfl (by decide +kernel) ⟨Nat.le_of_ble_eq_true rfl, Nat.le_of_ble_eq_true rfl⟩) [4] [0, 1, 2, 3] rfl rfl rfl rfl (by decide) rfl rfl (Nat.le_of_ble_eq_true rfl) dX4_init_20 ⟨Nat.le_of_ble_eq_true rfl, Nat.le_of_ble_eq_true rfl⟩ (fun u_7 H locs hu_8 hsz1 hP hD hS => ?_)
  obtain ⟨a_9, b_10, d_11⟩ := u_7
  have hP : va_P E.1 vwCl ([(o, .inr (4, [.ref q_1, .null, .null, .null, .null, .null]))] ++ wTb E q_1 a_4 b_5 (fun _ => nI 4) (fun _ => nI 0) ++ wCo E q_6 a_9 b_10 d_11 (fun _ => nI 20) (fun _ => nI 0) (fun _ => false) (nI 0)) H := hP.sub [0, 1, 2, 3, 4, 5, 6, 7] rfl
  have hD : va_D A ([(o, .inr (4, [.ref q_1, .null, .null, .null, .null, .null]))] ++ wTb E q_1 a_4 b_5 (fun _ => nI 4) (fun _ => nI 0) ++ wCo E q_6 a_9 b_10 d_11 (fun _ => nI 20) (fun _ => nI 0) (fun _ => false) (nI 0)) := hD.sub [0, 1, 2, 3, 4, 5, 6, 7] (by decide) rfl
  refine W.eq (g2 := F0 m 23 ls [.ref q_6, .ref o]) rfl ?_
  refine va_putF (D := E.1) (ci := 4) (v := .ref q_6) (ty := (.object "ReefPilot$Coast")) (C := RX4) (T := TX4) (N := 6) hx hb hts hin4 tyX4 tyX4_ok nmX4 hown hK.1 hP hD hS 0 rfl rfl 1 (by decide) lk19 (fun _ h9 => h9) rfl hin rfl (by decide +kernel) rfl rfl (Nat.le_of_ble_eq_true rfl) dX4_init_23 (fun H locs hP hD hS => ?_)
  have hP : va_P E.1 vwCl ([(o, .inr (4, [.ref q_1, .ref q_6, .null, .null, .null, .null]))] ++ wTb E q_1 a_4 b_5 (fun _ => nI 4) (fun _ => nI 0) ++ wCo E q_6 a_9 b_10 d_11 (fun _ => nI 20) (fun _ => nI 0) (fun _ => false) (nI 0)) H := hP
  have hD : va_D A ([(o, .inr (4, [.ref q_1, .ref q_6, .null, .null, .null, .null]))] ++ wTb E q_1 a_4 b_5 (fun _ => nI 4) (fun _ => nI 0) ++ wCo E q_6 a_9 b_10 d_11 (fun _ => nI 20) (fun _ => nI 0) (fun _ => false) (nI 0)) := hD
  refine lv_aload_n hx hb dX4_init_26 rfl (lv_at hl 0 rfl) ?_
  refine va_new (ci := 0) (fs := [.null, .null, .null, .int 0]) (C := RX0) (T := TX0) (N := 4) hx hb hts hin0 tyX0 tyX0_ok hown hacl16 hain0 haini0 hK.1 hP hD hS hA rfl (fun j hj => by rcases (show j = 0 ∨ j = 1 ∨ j = 2 ∨ j = 3 by omega) with rfl | rfl | rfl | rfl <;> rfl) (Nat.le_of_ble_eq_true rfl) (Nat.le_of_ble_eq_true rfl) dX4_init_27 (fun q_12 H hP hD hS => ?_)
  have hP : va_P E.1 vwCl ([(o, .inr (4, [.ref q_1, .ref q_6, .null, .null, .null, .null]))] ++ wTb E q_1 a_4 b_5 (fun _ => nI 4) (fun _ => nI 0) ++ wCo E q_6 a_9 b_10 d_11 (fun _ => nI 20) (fun _ => nI 0) (fun _ => false) (nI 0) ++ [(q_12, .inr (0, [.null, .null, .null, .int 0]))]) H := hP
  have hD : va_D A ([(o, .inr (4, [.ref q_1, .ref q_6, .null, .null, .null, .null]))] ++ wTb E q_1 a_4 b_5 (fun _ => nI 4) (fun _ => nI 0) ++ wCo E q_6 a_9 b_10 d_11 (fun _ => nI 20) (fun _ => nI 0) (fun _ => false) (nI 0) ++ [(q_12, .inr (0, [.null, .null, .null, .int 0]))]) := hD
  refine lv_dup hx hb dX4_init_30 rfl ?_
  refine e_callI (As := []) (rest := [.ref q_12, .ref o]) ⟨hx, hb, hml, hown, hts⟩ hK hP hD hS hA hl.1 (c_X0_init l E _ q_12) (cwI 0 hts gX4_init_X0_init rfl rfl rfl hainiX0_init haml18 haimX0_init rfl (by decide +kernel) ⟨Nat.le_of_ble_eq_true rfl, Nat.le_of_ble_eq_true rfl⟩) [8] [0, 1, 2, 3, 4, 5, 6, 7] rfl rfl rfl rfl (by decide) rfl rfl (Nat.le_of_ble_eq_true rfl) dX4_init_31 ⟨Nat.le_of_ble_eq_true rfl, Nat.le_of_ble_eq_true rfl⟩ (fun u_13 H locs hu_14 hsz1 hP hD hS => ?_)
  obtain ⟨a_15, b_16, d_17⟩ := u_13
  have hP : va_P E.1 vwCl ([(o, .inr (4, [.ref q_1, .ref q_6, .null, .null, .null, .null]))] ++ wTb E q_1 a_4 b_5 (fun _ => nI 4) (fun _ => nI 0) ++ wCo E q_6 a_9 b_10 d_11 (fun _ => nI 20) (fun _ => nI 0) (fun _ => false) (nI 0) ++ wCo E q_12 a_15 b_16 d_17 (fun _ => nI 20) (fun _ => nI 0) (fun _ => false) (nI 0)) H := hP.sub [0, 1, 2, 3, 4, 5, 6, 7, 8, 9, 10, 11] rfl
  have hD : va_D A ([(o, .inr (4, [.ref q_1, .ref q_6, .null, .null, .null, .null]))] ++ wTb E q_1 a_4 b_5 (fun _ => nI 4) (fun _ => nI 0) ++ wCo E q_6 a_9 b_10 d_11 (fun _ => nI 20) (fun _ => nI 0) (fun _ => false) (nI 0) ++ wCo E q_12 a_15 b_16 d_17 (fun _ => nI 20) (fun _ => nI 0) (fun _ => false) (nI 0)) := hD.sub [0, 1, 2, 3, 4, 5, 6, 7, 8, 9, 10, 11] (by decide) rfl
  refine W.eq (g2 := F0 m 34 ls [.ref q_12, .ref o]) rfl ?_
  refine va_putF (D := E.1) (ci := 4) (v := .ref q_12) (ty := (.object "ReefPilot$Coast")) (C := RX4) (T := TX4) (N := 6) hx hb hts hin4 tyX4 tyX4_ok nmX4 hown hK.1 hP hD hS 0 rfl rfl 2 (by decide) lk23 (fun _ h9 => h9) rfl hin rfl (by decide +kernel) rfl rfl (Nat.le_of_ble_eq_true rfl) dX4_init_34 (fun H locs hP hD hS => ?_)
  have hP : va_P E.1 vwCl ([(o, .inr (4, [.ref q_1, .ref q_6, .ref q_12, .null, .null, .null]))] ++ wTb E q_1 a_4 b_5 (fun _ => nI 4) (fun _ => nI 0) ++ wCo E q_6 a_9 b_10 d_11 (fun _ => nI 20) (fun _ => nI 0) (fun _ => false) (nI 0) ++ wCo E q_12 a_15 b_16 d_17 (fun _ => nI 20) (fun _ => nI 0) (fun _ => false) (nI 0)) H := hP
  have hD : va_D A ([(o, .inr (4, [.ref q_1, .ref q_6, .ref q_12, .null, .null, .null]))] ++ wTb E q_1 a_4 b_5 (fun _ => nI 4) (fun _ => nI 0) ++ wCo E q_6 a_9 b_10 d_11 (fun _ => nI 20) (fun _ => nI 0) (fun _ => false) (nI 0) ++ wCo E q_12 a_15 b_16 d_17 (fun _ => nI 20) (fun _ => nI 0) (fun _ => false) (nI 0)) := hD
  refine lv_aload_n hx hb dX4_init_37 rfl (lv_at hl 0 rfl) ?_
  refine va_new (ci := 1) (fs := [.null, .null]) (C := RX1) (T := TX1) (N := 2) hx hb hts hin1 tyX1 tyX1_ok hown hacl26 hain1 haini1 hK.1 hP hD hS hA rfl (fun j hj => by rcases (show j = 0 ∨ j = 1 by omega) with rfl | rfl <;> rfl) (Nat.le_of_ble_eq_true rfl) (Nat.le_of_ble_eq_true rfl) dX4_init_38 (fun q_18 H hP hD hS => ?_)
  have hP : va_P E.1 vwCl ([(o, .inr (4, [.ref q_1, .ref q_6, .ref q_12, .null, .null, .null]))] ++ wTb E q_1 a_4 b_5 (fun _ => nI 4) (fun _ => nI 0) ++ wCo E q_6 a_9 b_10 d_11 (fun _ => nI 20) (fun _ => nI 0) (fun _ => false) (nI 0) ++ wCo E q_12 a_15 b_16 d_17 (fun _ => nI 20) (fun _ => nI 0) (fun _ => false) (nI 0) ++ [(q_18, .inr (1, [.null, .null]))]) H := hP
  have hD : va_D A ([(o, .inr (4, [.ref q_1, .ref q_6, .ref q_12, .null, .null, .null]))] ++ wTb E q_1 a_4 b_5 (fun _ => nI 4) (fun _ => nI 0) ++ wCo E q_6 a_9 b_10 d_11 (fun _ => nI 20) (fun _ => nI 0) (fun _ => false) (nI 0) ++ wCo E q_12 a_15 b_16 d_17 (fun _ => nI 20) (fun _ => nI 0) (fun _ => false) (nI 0) ++ [(q_18, .inr (1, [.null, .null]))]) := hD
  refine lv_dup hx hb dX4_init_41 rfl ?_
  refine e_callI (As := []) (rest := [.ref q_18, .ref o]) ⟨hx, hb, hml, hown, hts⟩ hK hP hD hS hA hl.1 (c_X1_init l E _ q_18) (cwI 0 hts gX4_init_X1_init rfl rfl rfl hainiX1_init haml28 haimX1_init rfl (by decide +kernel) ⟨Nat.le_of_ble_eq_true rfl, Nat.le_of_ble_eq_true rfl⟩) [12] [0, 1, 2, 3, 4, 5, 6, 7, 8, 9, 10, 11] rfl rfl rfl rfl (by decide) rfl rfl (Nat.le_of_ble_eq_true rfl) dX4_init_42 ⟨Nat.le_of_ble_eq_true rfl, Nat.le_of_ble_eq_true rfl⟩ (fun u_19 H locs hu_20 hsz1 hP hD hS => ?_)
  obtain ⟨a_21, b_22⟩ := u_19
  have hP : va_P E.1 vwCl ([(o, .inr (4, [.ref q_1, .ref q_6, .ref q_12, .null, .null, .null]))] ++ wTb E q_1 a_4 b_5 (fun _ => nI 4) (fun _ => nI 0) ++ wCo E q_6 a_9 b_10 d_11 (fun _ => nI 20) (fun _ => nI 0) (fun _ => false) (nI 0) ++ wCo E q_12 a_15 b_16 d_17 (fun _ => nI 20) (fun _ => nI 0) (fun _ => false) (nI 0) ++ wSo E q_18 a_21 b_22 (fun _ => (-1)) (fun _ => nI 0)) H := hP.sub [0, 1, 2, 3, 4, 5, 6, 7, 8, 9, 10, 11, 12, 13, 14] rfl
  have hD : va_D A ([(o, .inr (4, [.ref q_1, .ref q_6, .ref q_12, .null, .null, .null]))] ++ wTb E q_1 a_4 b_5 (fun _ => nI 4) (fun _ => nI 0) ++ wCo E q_6 a_9 b_10 d_11 (fun _ => nI 20) (fun _ => nI 0) (fun _ => false) (nI 0) ++ wCo E q_12 a_15 b_16 d_17 (fun _ => nI 20) (fun _ => nI 0) (fun _ => false) (nI 0) ++ wSo E q_18 a_21 b_22 (fun _ => (-1)) (fun _ => nI 0)) := hD.sub [0, 1, 2, 3, 4, 5, 6, 7, 8, 9, 10, 11, 12, 13, 14] (by decide) rfl
  refine W.eq (g2 := F0 m 45 ls [.ref q_18, .ref o]) rfl ?_
  refine va_putF (D := E.1) (ci := 4) (v := .ref q_18) (ty := (.object "ReefPilot$Soundings")) (C := RX4) (T := TX4) (N := 6) hx hb hts hin4 tyX4 tyX4_ok nmX4 hown hK.1 hP hD hS 0 rfl rfl 3 (by decide) lk29 (fun _ h9 => h9) rfl hin rfl (by decide +kernel) rfl rfl (Nat.le_of_ble_eq_true rfl) dX4_init_45 (fun H locs hP hD hS => ?_)
  have hP : va_P E.1 vwCl ([(o, .inr (4, [.ref q_1, .ref q_6, .ref q_12, .ref q_18, .null, .null]))] ++ wTb E q_1 a_4 b_5 (fun _ => nI 4) (fun _ => nI 0) ++ wCo E q_6 a_9 b_10 d_11 (fun _ => nI 20) (fun _ => nI 0) (fun _ => false) (nI 0) ++ wCo E q_12 a_15 b_16 d_17 (fun _ => nI 20) (fun _ => nI 0) (fun _ => false) (nI 0) ++ wSo E q_18 a_21 b_22 (fun _ => (-1)) (fun _ => nI 0)) H := hP
  have hD : va_D A ([(o, .inr (4, [.ref q_1, .ref q_6, .ref q_12, .ref q_18, .null, .null]))] ++ wTb E q_1 a_4 b_5 (fun _ => nI 4) (fun _ => nI 0) ++ wCo E q_6 a_9 b_10 d_11 (fun _ => nI 20) (fun _ => nI 0) (fun _ => false) (nI 0) ++ wCo E q_12 a_15 b_16 d_17 (fun _ => nI 20) (fun _ => nI 0) (fun _ => false) (nI 0) ++ wSo E q_18 a_21 b_22 (fun _ => (-1)) (fun _ => nI 0)) := hD
  refine lv_aload_n hx hb dX4_init_48 rfl (lv_at hl 0 rfl) ?_
  refine va_new (ci := 2) (fs := [.null, .null, .null, .int 0]) (C := RX2) (T := TX2) (N := 4) hx hb hts hin2 tyX2 tyX2_ok hown hacl33 hain2 haini2 hK.1 hP hD hS hA rfl (fun j hj => by rcases (show j = 0 ∨ j = 1 ∨ j = 2 ∨ j = 3 by omega) with rfl | rfl | rfl | rfl <;> rfl) (Nat.le_of_ble_eq_true rfl) (Nat.le_of_ble_eq_true rfl) dX4_init_49 (fun q_23 H hP hD hS => ?_)
  have hP : va_P E.1 vwCl ([(o, .inr (4, [.ref q_1, .ref q_6, .ref q_12, .ref q_18, .null, .null]))] ++ wTb E q_1 a_4 b_5 (fun _ => nI 4) (fun _ => nI 0) ++ wCo E q_6 a_9 b_10 d_11 (fun _ => nI 20) (fun _ => nI 0) (fun _ => false) (nI 0) ++ wCo E q_12 a_15 b_16 d_17 (fun _ => nI 20) (fun _ => nI 0) (fun _ => false) (nI 0) ++ wSo E q_18 a_21 b_22 (fun _ => (-1)) (fun _ => nI 0) ++ [(q_23, .inr (2, [.null, .null, .null, .int 0]))]) H := hP
  have hD : va_D A ([(o, .inr (4, [.ref q_1, .ref q_6, .ref q_12, .ref q_18, .null, .null]))] ++ wTb E q_1 a_4 b_5 (fun _ => nI 4) (fun _ => nI 0) ++ wCo E q_6 a_9 b_10 d_11 (fun _ => nI 20) (fun _ => nI 0) (fun _ => false) (nI 0) ++ wCo E q_12 a_15 b_16 d_17 (fun _ => nI 20) (fun _ => nI 0) (fun _ => false) (nI 0) ++ wSo E q_18 a_21 b_22 (fun _ => (-1)) (fun _ => nI 0) ++ [(q_23, .inr (2, [.null, .null, .null, .int 0]))]) := hD
  refine lv_dup hx hb dX4_init_52 rfl ?_
  refine e_callIN (As := []) (rest := [.ref q_23, .ref o]) ⟨hx, hb, hml, hown, hts⟩ hK hP hD hS hA hl.1 (c_X2_init l E _ q_23) ⟨va_cnB 0 hts gX4_init_X2_init_n35 rfl rfl rfl hK.2.2.2.1 hainiX2_init (by decide +kernel) ⟨Nat.le_of_ble_eq_true rfl, Nat.le_of_ble_eq_true rfl⟩, rfl, haimX2_init⟩ [15] [0, 1, 2, 3, 4, 5, 6, 7, 8, 9, 10, 11, 12, 13, 14] rfl rfl rfl rfl (by decide) rfl rfl (Nat.le_of_ble_eq_true rfl) dX4_init_53 ⟨Nat.le_of_ble_eq_true rfl, Nat.le_of_ble_eq_true rfl⟩ (fun u_24 H locs hu_25 hsz1 hP hD hS => ?_)
  obtain ⟨a_26, b_27, d_28⟩ := u_24
  have hP : va_P E.1 vwCl ([(o, .inr (4, [.ref q_1, .ref q_6, .ref q_12, .ref q_18, .null, .null]))] ++ wTb E q_1 a_4 b_5 (fun _ => nI 4) (fun _ => nI 0) ++ wCo E q_6 a_9 b_10 d_11 (fun _ => nI 20) (fun _ => nI 0) (fun _ => false) (nI 0) ++ wCo E q_12 a_15 b_16 d_17 (fun _ => nI 20) (fun _ => nI 0) (fun _ => false) (nI 0) ++ wSo E q_18 a_21 b_22 (fun _ => (-1)) (fun _ => nI 0) ++ wSp E q_23 a_26 b_27 d_28 (fun _ => false) (fun _ => 0) (fun _ => 0) 0) H := hP.sub [0, 1, 2, 3, 4, 5, 6, 7, 8, 9, 10, 11, 12, 13, 14, 15, 16, 17, 18] rfl
  have hD : va_D A ([(o, .inr (4, [.ref q_1, .ref q_6, .ref q_12, .ref q_18, .null, .null]))] ++ wTb E q_1 a_4 b_5 (fun _ => nI 4) (fun _ => nI 0) ++ wCo E q_6 a_9 b_10 d_11 (fun _ => nI 20) (fun _ => nI 0) (fun _ => false) (nI 0) ++ wCo E q_12 a_15 b_16 d_17 (fun _ => nI 20) (fun _ => nI 0) (fun _ => false) (nI 0) ++ wSo E q_18 a_21 b_22 (fun _ => (-1)) (fun _ => nI 0) ++ wSp E q_23 a_26 b_27 d_28 (fun _ => false) (fun _ => 0) (fun _ => 0) 0) := hD.sub [0, 1, 2, 3, 4, 5, 6, 7, 8, 9, 10, 11, 12, 13, 14, 15, 16, 17, 18] (by decide) rfl
  refine W.eq (g2 := F0 m 56 ls [.ref q_23, .ref o]) rfl ?_
  refine va_putF (D := E.1) (ci := 4) (v := .ref q_23) (ty := (.object "ReefPilot$Spread")) (C := RX4) (T := TX4) (N := 6) hx hb hts hin4 tyX4 tyX4_ok nmX4 hown hK.1 hP hD hS 0 rfl rfl 4 (by decide) lk36 (fun _ h9 => h9) rfl hin rfl (by decide +kernel) rfl rfl (Nat.le_of_ble_eq_true rfl) dX4_init_56 (fun H locs hP hD hS => ?_)
  have hP : va_P E.1 vwCl ([(o, .inr (4, [.ref q_1, .ref q_6, .ref q_12, .ref q_18, .ref q_23, .null]))] ++ wTb E q_1 a_4 b_5 (fun _ => nI 4) (fun _ => nI 0) ++ wCo E q_6 a_9 b_10 d_11 (fun _ => nI 20) (fun _ => nI 0) (fun _ => false) (nI 0) ++ wCo E q_12 a_15 b_16 d_17 (fun _ => nI 20) (fun _ => nI 0) (fun _ => false) (nI 0) ++ wSo E q_18 a_21 b_22 (fun _ => (-1)) (fun _ => nI 0) ++ wSp E q_23 a_26 b_27 d_28 (fun _ => false) (fun _ => 0) (fun _ => 0) 0) H := hP
  have hD : va_D A ([(o, .inr (4, [.ref q_1, .ref q_6, .ref q_12, .ref q_18, .ref q_23, .null]))] ++ wTb E q_1 a_4 b_5 (fun _ => nI 4) (fun _ => nI 0) ++ wCo E q_6 a_9 b_10 d_11 (fun _ => nI 20) (fun _ => nI 0) (fun _ => false) (nI 0) ++ wCo E q_12 a_15 b_16 d_17 (fun _ => nI 20) (fun _ => nI 0) (fun _ => false) (nI 0) ++ wSo E q_18 a_21 b_22 (fun _ => (-1)) (fun _ => nI 0) ++ wSp E q_23 a_26 b_27 d_28 (fun _ => false) (fun _ => 0) (fun _ => 0) 0) := hD
  refine lv_aload_n hx hb dX4_init_59 rfl (lv_at hl 0 rfl) ?_
  refine lv_bipush (v := nI 81) hx hb dX4_init_60 (by decide +kernel) ?_
  refine e_newI hK hP hD hS hA hx hb haint 81 (by decide) rfl (Nat.le_of_ble_eq_true rfl) (Nat.le_of_ble_eq_true rfl) dX4_init_62 (fun q_29 H hP hD hS => ?_)
  have hP : va_P E.1 vwCl ([(o, .inr (4, [.ref q_1, .ref q_6, .ref q_12, .ref q_18, .ref q_23, .null]))] ++ wTb E q_1 a_4 b_5 (fun _ => nI 4) (fun _ => nI 0) ++ wCo E q_6 a_9 b_10 d_11 (fun _ => nI 20) (fun _ => nI 0) (fun _ => false) (nI 0) ++ wCo E q_12 a_15 b_16 d_17 (fun _ => nI 20) (fun _ => nI 0) (fun _ => false) (nI 0) ++ wSo E q_18 a_21 b_22 (fun _ => (-1)) (fun _ => nI 0) ++ wSp E q_23 a_26 b_27 d_28 (fun _ => false) (fun _ => 0) (fun _ => 0) 0 ++ [(q_29, .inl (E.2.1, 81, .inl (fun _ => 0)))]) H := hP
  have hD : va_D A ([(o, .inr (4, [.ref q_1, .ref q_6, .ref q_12, .ref q_18, .ref q_23, .null]))] ++ wTb E q_1 a_4 b_5 (fun _ => nI 4) (fun _ => nI 0) ++ wCo E q_6 a_9 b_10 d_11 (fun _ => nI 20) (fun _ => nI 0) (fun _ => false) (nI 0) ++ wCo E q_12 a_15 b_16 d_17 (fun _ => nI 20) (fun _ => nI 0) (fun _ => false) (nI 0) ++ wSo E q_18 a_21 b_22 (fun _ => (-1)) (fun _ => nI 0) ++ wSp E q_23 a_26 b_27 d_28 (fun _ => false) (fun _ => 0) (fun _ => 0) 0 ++ [(q_29, .inl (E.2.1, 81, .inl (fun _ => 0)))]) := hD
  refine va_putF (D := E.1) (ci := 4) (v := .ref q_29) (ty := (.array .int)) (C := RX4) (T := TX4) (N := 6) hx hb hts hin4 tyX4 tyX4_ok nmX4 hown hK.1 hP hD hS 0 rfl rfl 5 (by decide) lk40 (fun _ h9 => h9) rfl hin rfl (by decide +kernel) rfl rfl (Nat.le_of_ble_eq_true rfl) dX4_init_64 (fun H locs hP hD hS => ?_)
  have hP : va_P E.1 vwCl ([(o, .inr (4, [.ref q_1, .ref q_6, .ref q_12, .ref q_18, .ref q_23, .ref q_29]))] ++ wTb E q_1 a_4 b_5 (fun _ => nI 4) (fun _ => nI 0) ++ wCo E q_6 a_9 b_10 d_11 (fun _ => nI 20) (fun _ => nI 0) (fun _ => false) (nI 0) ++ wCo E q_12 a_15 b_16 d_17 (fun _ => nI 20) (fun _ => nI 0) (fun _ => false) (nI 0) ++ wSo E q_18 a_21 b_22 (fun _ => (-1)) (fun _ => nI 0) ++ wSp E q_23 a_26 b_27 d_28 (fun _ => false) (fun _ => 0) (fun _ => 0) 0 ++ [(q_29, .inl (E.2.1, 81, .inl (fun _ => 0)))]) H := hP
  have hD : va_D A ([(o, .inr (4, [.ref q_1, .ref q_6, .ref q_12, .ref q_18, .ref q_23, .ref q_29]))] ++ wTb E q_1 a_4 b_5 (fun _ => nI 4) (fun _ => nI 0) ++ wCo E q_6 a_9 b_10 d_11 (fun _ => nI 20) (fun _ => nI 0) (fun _ => false) (nI 0) ++ wCo E q_12 a_15 b_16 d_17 (fun _ => nI 20) (fun _ => nI 0) (fun _ => false) (nI 0) ++ wSo E q_18 a_21 b_22 (fun _ => (-1)) (fun _ => nI 0) ++ wSp E q_23 a_26 b_27 d_28 (fun _ => false) (fun _ => 0) (fun _ => 0) 0 ++ [(q_29, .inl (E.2.1, 81, .inl (fun _ => 0)))]) := hD
  exact e_vret (fun k => List.getD [q_1, a_4, b_5, q_6, a_9, b_10, d_11, q_12, a_15, b_16, d_17, q_18, a_21, b_22, q_23, a_26, b_27, d_28, q_29] k 0) hQ hx hb hr hlocks hP hD hS dX4_init_67 (rfl) (Nat.le_of_ble_eq_true rfl) (Nat.le_of_ble_eq_true rfl) (trivial)
