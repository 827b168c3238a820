abbrev rm_X4_needIndex : Room := { frames := 0, cells := 0, slots := 0, locals := 0 }
set_option maxHeartbeats 4000000 in
set_option maxRecDepth 100000 in
theorem c_X4_needIndex (l : Launch) (E : eT) (sz : Nat) (X : Nat) (W : Nat) (hX : X < W) (hW : W < 2 ^ 31) : cM l yX4_needIndex wsX4_needIndex rm_X4_needIndex E sz [.int (nI X), .int (nI W)] ([]) (fun u : Unit => none) (fun u : Unit => True) (fun u : Unit => []) := by
  refine cM_intro (cc := cX4_needIndex) (maxL := 2) (ret := none) (by decide +kernel) rfl (Nat.le_of_ble_eq_true rfl) ?_
  intro p e s m args below meth cd hx hb hr hml hown hlocks hts hnm hK hsz hP A hD hA Q hQ ls hl
  have hown : s.vm.findClass RX4 = some m.cls := hown
  have hS : va_S A s.heap s.heap [] := va_S.rf
  have hl : lv_has ls 2 [(0, .int (nI X)), (1, .int (nI W))] := hl
  refine lv_iload_n hx hb dX4_needIndex_0 rfl (lv_at hl 0 rfl) ?_
  refine lv_if_lt (tgt := 9) hx hb dX4_needIndex_1 (by decide) (fun c1 => absurd c1 (nI_nn (by omega))) (fun c1 => ?_)
  refine lv_iload_n hx hb dX4_needIndex_4 rfl (lv_at hl 0 rfl) ?_
  refine lv_iload_n hx hb dX4_needIndex_5 rfl (lv_at hl 1 rfl) ?_
  refine n_icmp_lt (x := X) (y := W) (by omega) (by omega) (tgt := 19) hx hb dX4_needIndex_6 (by decide) (fun c6 => ?_) (fun c6 => by omega)
  exact e_vret () hQ hx hb hr hlocks hP hD hS dX4_needIndex_19 (rfl) (Nat.le_of_ble_eq_true rfl) (Nat.le_of_ble_eq_true rfl) (trivial)

abbrev rm_X4_needWithin : Room := { frames := 0, cells := 0, slots := 0, locals := 0 }
set_option maxHeartbeats 4000000 in
set_option maxRecDepth 100000 in
theorem c_X4_needWithin (l : Launch) (E : eT) (sz : Nat) (v : Int32) (lo : Int32) (hi : Int32) (hv : isInB v lo hi = true) : cM l yX4_needWithin wsX4_needWithin rm_X4_needWithin E sz [.int v, .int lo, .int hi] ([]) (fun u : Unit => none) (fun u : Unit => True) (fun u : Unit => []) := by
  refine cM_intro (cc := cX4_needWithin) (maxL := 3) (ret := none) (by decide +kernel) rfl (Nat.le_of_ble_eq_true rfl) ?_
  intro p e s m args below meth cd hx hb hr hml hown hlocks hts hnm hK hsz hP A hD hA Q hQ ls hl
  have hown : s.vm.findClass RX4 = some m.cls := hown
  have hS : va_S A s.heap s.heap [] := va_S.rf
  have hl : lv_has ls 3 [(0, .int v), (1, .int lo), (2, .int hi)] := hl
  refine lv_iload_n hx hb dX4_needWithin_0 rfl (lv_at hl 0 rfl) ?_
  refine lv_iload_n hx hb dX4_needWithin_1 rfl (lv_at hl 1 rfl) ?_
  refine lv_icmp_lt (tgt := 10) hx hb dX4_needWithin_2 (by decide) (fun c2 => absurd c2 (isInB_iff.mp hv).1) (fun c2 => ?_)
  refine lv_iload_n hx hb dX4_needWithin_5 rfl (lv_at hl 0 rfl) ?_
  refine lv_iload_n hx hb dX4_needWithin_6 rfl (lv_at hl 2 rfl) ?_
  refine lv_icmp_le (tgt := 20) hx hb dX4_needWithin_7 (by decide) (fun c7 => ?_) (fun c7 => absurd (i_nle2 c7) (isInB_iff.mp hv).2)
  exact e_vret () hQ hx hb hr hlocks hP hD hS dX4_needWithin_20 (rfl) (Nat.le_of_ble_eq_true rfl) (Nat.le_of_ble_eq_true rfl) (trivial)

abbrev rm_X4_needCell : Room := { frames := 1, cells := 0, slots := 0, locals := 21 }
set_option maxHeartbeats 4000000 in
set_option maxRecDepth 100000 in
theorem c_X4_needCell (l : Launch) (E : eT) (sz : Nat) (X : Nat) (Y : Nat) (hX : X < 9) (hY : Y < 9) : cM l yX4_needCell wsX4_needCell rm_X4_needCell E sz [.int (nI X), .int (nI Y)] ([]) (fun u : Unit => none) (fun u : Unit => True) (fun u : Unit => []) := by
  refine cM_intro (cc := cX4_needCell) (maxL := 2) (ret := none) (by decide +kernel) rfl (Nat.le_of_ble_eq_true rfl) ?_
  intro p e s m args below meth cd hx hb hr hml hown hlocks hts hnm hK hsz hP A hD hA Q hQ ls hl
  have hown : s.vm.findClass RX4 = some m.cls := hown
  have hS : va_S A s.heap s.heap [] := va_S.rf
  have hl : lv_has ls 2 [(0, .int (nI X)), (1, .int (nI Y))] := hl
  refine lv_iload_n hx hb dX4_needCell_0 rfl (lv_at hl 0 rfl) ?_
  refine lv_bipush (v := nI 9) hx hb dX4_needCell_1 (by decide +kernel) ?_
  refine e_callS (As := [.int (nI X), .int (nI 9)]) (rest := []) ⟨hx, hb, hml, hown, hts⟩ hK hP hD hS hA hl.1 (c_X4_needIndex l E _ X 9 (by first | omega | assumption | rfl | (simp_all; done)) (by first | omega | assumption | rfl | (simp_all; done))) (va_cwS 2 hts gX4_needCell_X4_needIndex rfl rfl rfl (by decide +kernel) ⟨Nat.le_of_ble_eq_true rfl, Nat.le_of_ble_eq_true rfl⟩) [] [] rfl rfl rfl rfl (by decide) rfl rfl (Nat.le_of_ble_eq_true rfl) dX4_needCell_3 ⟨Nat.le_of_ble_eq_true rfl, Nat.le_of_ble_eq_true rfl⟩ (fun u_1 H locs hu_2 hsz1 hP hD hS => ?_)
  have hP : va_P E.1 vwCl ([]) H := hP.sub [] rfl
  have hD : va_D A ([]) := hD.sub [] (by decide) rfl
  refine W.eq (g2 := F0 m 6 ls []) rfl ?_
  refine lv_iload_n hx hb dX4_needCell_6 rfl (lv_at hl 1 rfl) ?_
  refine lv_bipush (v := nI 9) hx hb dX4_needCell_7 (by decide +kernel) ?_
  refine e_callS (As := [.int (nI Y), .int (nI 9)]) (rest := []) ⟨hx, hb, hml, hown, hts⟩ hK hP hD hS hA hl.1 (c_X4_needIndex l E _ Y 9 (by first | omega | assumption | rfl | (simp_all; done)) (by first | omega | assumption | rfl | (simp_all; done))) (va_cwS 2 hts gX4_needCell_X4_needIndex rfl rfl rfl (by decide +kernel) ⟨Nat.le_of_ble_eq_true rfl, Nat.le_of_ble_eq_true rfl⟩) [] [] rfl rfl rfl rfl (by decide) rfl rfl (Nat.le_of_ble_eq_true rfl) dX4_needCell_9 ⟨Nat.le_of_ble_eq_true rfl, Nat.le_of_ble_eq_true rfl⟩ (fun u_3 H locs hu_4 hsz1 hP hD hS => ?_)
  have hP : va_P E.1 vwCl ([]) H := hP.sub [] rfl
  have hD : va_D A ([]) := hD.sub [] (by decide) rfl
  refine W.eq (g2 := F0 m 12 ls []) rfl ?_
  exact e_vret () hQ hx hb hr hlocks hP hD hS dX4_needCell_12 (rfl) (Nat.le_of_ble_eq_true rfl) (Nat.le_of_ble_eq_true rfl) (trivial)

abbrev rm_X4_needIndex_t : Room := { frames := 6, cells := 1, slots := 6, locals := 82 }
set_option maxHeartbeats 4000000 in
set_option maxRecDepth 100000 in
theorem c_X4_needIndex_t (l : Launch) (hlt : l.stackTraces = false) (E : eT) (sz : Nat) (v : Int32) (W : Nat) (hv : isInB v (nI 0) (nI (W - 1)) = false) (h0 : 0 < W) (hW : W < 2 ^ 31) : cX l yX4_needIndex wsX4_needIndex rm_X4_needIndex_t E sz [.int v, .int (nI W)] ([]) nX1 := by
  refine cX_intro (cc := cX4_needIndex) (maxL := 2) (ret := none) (by decide +kernel) rfl (Nat.le_of_ble_eq_true rfl) ?_
  intro p e s m args below meth cd hx hb hr hml hown hlocks hts hnm ht hK hsz hP A hD hA hX Q hQ ls hl
  have hown : s.vm.findClass RX4 = some m.cls := hown
  have hacl156 := hts (.classLink RX4 156 "java/lang/IndexOutOfBoundsException") (by decide +kernel)
  have hainiX := hts (.initialized "java/lang/IndexOutOfBoundsException") (by decide +kernel)
  have hS : va_S A s.heap s.heap [] := va_S.rf
  have hl : lv_has ls 2 [(0, .int v), (1, .int (nI W))] := hl
  refine lv_iload_n hx hb dX4_needIndex_0 rfl (lv_at hl 0 rfl) ?_
  refine lv_if_lt (tgt := 9) hx hb dX4_needIndex_1 (by decide) (fun c1 => ?_) (fun c1 => ?_)
  · have hat : ∀ w ∈ vx_atS RX4 160 nX1 uX, w.before args s = true := vx_hat (B := [.castable nX1 nX1, .declares (Bundle.initS "java/lang/RuntimeException"), .declares (Bundle.initS "java/lang/Exception"), .declares (Bundle.initS Bundle.tN)]) (fun w hw => hts w (List.mem_cons_of_mem _ (List.mem_append_right _ hw))) (by decide +kernel) (vx_c (va_Nw.use rfl hX.2.2.2.2.1) (vx_c (va_Nw.use rfl hX.2.2.2.2.2.2.2.2.1) (vx_c (va_Nw.use rfl hX.2.2.2.2.2.2.2.2.2.1) (vx_c (va_Nw.use rfl hX.2.2.2.2.2.2.2.2.2.2) vx_n))))
    exact e_thr hlt hQ hx hb hown ht hlocks hP hS hX (hl.1.trans hml.symm) (by decide +kernel) hacl156 hainiX hX.2.2.1 hat (by decide +kernel) dX4_needIndex_9 dX4_needIndex_12 dX4_needIndex_13 dX4_needIndex_15 dX4_needIndex_18 (Nat.le_of_ble_eq_true rfl) (Nat.le_of_ble_eq_true rfl) (Nat.le_of_ble_eq_true rfl) (Nat.le_of_ble_eq_true rfl) (Nat.le_of_ble_eq_true rfl) (Nat.le_of_ble_eq_true rfl)
  · refine lv_iload_n hx hb dX4_needIndex_4 rfl (lv_at hl 0 rfl) ?_
    refine lv_iload_n hx hb dX4_needIndex_5 rfl (lv_at hl 1 rfl) ?_
    refine lv_icmp_lt (tgt := 19) hx hb dX4_needIndex_6 (by decide) (fun c6 => absurd c6 (ix_f hv h0 hW c1)) (fun c6 => ?_)
    have hat : ∀ w ∈ vx_atS RX4 160 nX1 uX, w.before args s = true := vx_hat (B := [.castable nX1 nX1, .declares (Bundle.initS "java/lang/RuntimeException"), .declares (Bundle.initS "java/lang/Exception"), .declares (Bundle.initS Bundle.tN)]) (fun w hw => hts w (List.mem_cons_of_mem _ (List.mem_append_right _ hw))) (by decide +kernel) (vx_c (va_Nw.use rfl hX.2.2.2.2.1) (vx_c (va_Nw.use rfl hX.2.2.2.2.2.2.2.2.1) (vx_c (va_Nw.use rfl hX.2.2.2.2.2.2.2.2.2.1) (vx_c (va_Nw.use rfl hX.2.2.2.2.2.2.2.2.2.2) vx_n))))
    exact e_thr hlt hQ hx hb hown ht hlocks hP hS hX (hl.1.trans hml.symm) (by decide +kernel) hacl156 hainiX hX.2.2.1 hat (by decide +kernel) dX4_needIndex_9 dX4_needIndex_12 dX4_needIndex_13 dX4_needIndex_15 dX4_needIndex_18 (Nat.le_of_ble_eq_true rfl) (Nat.le_of_ble_eq_true rfl) (Nat.le_of_ble_eq_true rfl) (Nat.le_of_ble_eq_true rfl) (Nat.le_of_ble_eq_true rfl) (Nat.le_of_ble_eq_true rfl)

abbrev rm_X4_needWithin_t : Room := { frames := 6, cells := 1, slots := 6, locals := 82 }
set_option maxHeartbeats 4000000 in
set_option maxRecDepth 100000 in
theorem c_X4_needWithin_t (l : Launch) (hlt : l.stackTraces = false) (E : eT) (sz : Nat) (v : Int32) (lo : Int32) (hi : Int32) (hv : isInB v lo hi = false) : cX l yX4_needWithin wsX4_needWithin rm_X4_needWithin_t E sz [.int v, .int lo, .int hi] ([]) nX2 := by
  refine cX_intro (cc := cX4_needWithin) (maxL := 3) (ret := none) (by decide +kernel) rfl (Nat.le_of_ble_eq_true rfl) ?_
  intro p e s m args below meth cd hx hb hr hml hown hlocks hts hnm ht hK hsz hP A hD hA hX Q hQ ls hl
  have hown : s.vm.findClass RX4 = some m.cls := hown
  have hacl163 := hts (.classLink RX4 163 "java/lang/IllegalArgumentException") (by decide +kernel)
  have hainiX := hts (.initialized "java/lang/IllegalArgumentException") (by decide +kernel)
  have hS : va_S A s.heap s.heap [] := va_S.rf
  have hl : lv_has ls 3 [(0, .int v), (1, .int lo), (2, .int hi)] := hl
  refine lv_iload_n hx hb dX4_needWithin_0 rfl (lv_at hl 0 rfl) ?_
  refine lv_iload_n hx hb dX4_needWithin_1 rfl (lv_at hl 1 rfl) ?_
  refine lv_icmp_lt (tgt := 10) hx hb dX4_needWithin_2 (by decide) (fun c2 => ?_) (fun c2 => ?_)
  · have hat : ∀ w ∈ vx_atS RX4 167 nX2 uX, w.before args s = true := vx_hat (B := [.castable nX2 nX2, .declares (Bundle.initS "java/lang/RuntimeException"), .declares (Bundle.initS "java/lang/Exception"), .declares (Bundle.initS Bundle.tN)]) (fun w hw => hts w (List.mem_cons_of_mem _ (List.mem_append_right _ hw))) (by decide +kernel) (vx_c (va_Nw.use rfl hX.2.2.2.2.2.1) (vx_c (va_Nw.use rfl hX.2.2.2.2.2.2.2.2.1) (vx_c (va_Nw.use rfl hX.2.2.2.2.2.2.2.2.2.1) (vx_c (va_Nw.use rfl hX.2.2.2.2.2.2.2.2.2.2) vx_n))))
    exact e_thr hlt hQ hx hb hown ht hlocks hP hS hX (hl.1.trans hml.symm) (by decide +kernel) hacl163 hainiX hX.2.2.2.1 hat (by decide +kernel) dX4_needWithin_10 dX4_needWithin_13 dX4_needWithin_14 dX4_needWithin_16 dX4_needWithin_19 (Nat.le_of_ble_eq_true rfl) (Nat.le_of_ble_eq_true rfl) (Nat.le_of_ble_eq_true rfl) (Nat.le_of_ble_eq_true rfl) (Nat.le_of_ble_eq_true rfl) (Nat.le_of_ble_eq_true rfl)
  · refine lv_iload_n hx hb dX4_needWithin_5 rfl (lv_at hl 0 rfl) ?_
    refine lv_iload_n hx hb dX4_needWithin_6 rfl (lv_at hl 2 rfl) ?_
    refine lv_icmp_le (tgt := 20) hx hb dX4_needWithin_7 (by decide) (fun c7 => absurd c7 (iw_f hv c2)) (fun c7 => ?_)
    have hat : ∀ w ∈ vx_atS RX4 167 nX2 uX, w.before args s = true := vx_hat (B := [.castable nX2 nX2, .declares (Bundle.initS "java/lang/RuntimeException"), .declares (Bundle.initS "java/lang/Exception"), .declares (Bundle.initS Bundle.tN)]) (fun w hw => hts w (List.mem_cons_of_mem _ (List.mem_append_right _ hw))) (by decide +kernel) (vx_c (va_Nw.use rfl hX.2.2.2.2.2.1) (vx_c (va_Nw.use rfl hX.2.2.2.2.2.2.2.2.1) (vx_c (va_Nw.use rfl hX.2.2.2.2.2.2.2.2.2.1) (vx_c (va_Nw.use rfl hX.2.2.2.2.2.2.2.2.2.2) vx_n))))
    exact e_thr hlt hQ hx hb hown ht hlocks hP hS hX (hl.1.trans hml.symm) (by decide +kernel) hacl163 hainiX hX.2.2.2.1 hat (by decide +kernel) dX4_needWithin_10 dX4_needWithin_13 dX4_needWithin_14 dX4_needWithin_16 dX4_needWithin_19 (Nat.le_of_ble_eq_true rfl) (Nat.le_of_ble_eq_true rfl) (Nat.le_of_ble_eq_true rfl) (Nat.le_of_ble_eq_true rfl) (Nat.le_of_ble_eq_true rfl) (Nat.le_of_ble_eq_true rfl)

abbrev rm_X4_needCell_t : Room := { frames := 7, cells := 1, slots := 6, locals := 103 }
set_option maxHeartbeats 4000000 in
set_option maxRecDepth 100000 in
theorem c_X4_needCell_b1 (l : Launch) (hlt : l.stackTraces = false) (E : eT) (sz : Nat) (x : Int32) (y : Int32) (hc : isInB x (nI 0) (nI 8) = false) : cX l yX4_needCell wsX4_needCell rm_X4_needCell_t E sz [.int x, .int y] ([]) nX1 := by
  refine cX_intro (cc := cX4_needCell) (maxL := 2) (ret := none) (by decide +kernel) rfl (Nat.le_of_ble_eq_true rfl) ?_
  intro p e s m args below meth cd hx hb hr hml hown hlocks hts hnm ht hK hsz hP A hD hA hX Q hQ ls hl
  have hown : s.vm.findClass RX4 = some m.cls := hown
  have hS : va_S A s.heap s.heap [] := va_S.rf
  have hl : lv_has ls 2 [(0, .int x), (1, .int y)] := hl
  refine lv_iload_n hx hb dX4_needCell_0 rfl (lv_at hl 0 rfl) ?_
  refine lv_bipush (v := nI 9) hx hb dX4_needCell_1 (by decide +kernel) ?_
  refine e_callSX (As := [.int x, .int (nI 9)]) (rest := []) ⟨hx, hb, hml, hown, hts⟩ hK hX hP hD hS hA hl.1 (c_X4_needIndex_t l hlt E _ x 9 (hc) (by first | omega | assumption | rfl | (simp_all; done)) (by first | omega | assumption | rfl | (simp_all; done))) (va_cwS 2 hts gX4_needCell_X4_needIndex rfl rfl rfl (by decide +kernel) ⟨Nat.le_of_ble_eq_true rfl, Nat.le_of_ble_eq_true rfl⟩) [] [] rfl rfl rfl rfl (by decide) rfl rfl (Nat.le_of_ble_eq_true rfl) dX4_needCell_3 ⟨Nat.le_of_ble_eq_true rfl, Nat.le_of_ble_eq_true rfl⟩ (fun ce q9 H locs hsz1 hP hD hS hcell hvm hcl => ?_)
  have hP : va_P E.1 vwCl ([]) H := hP.sub [] rfl
  have hD : va_D A ([]) := hD.sub [] (by decide) rfl
  exact e_outX hQ ht hlocks hP hS hcell hvm hcl (Nat.le_of_ble_eq_true rfl) (Nat.le_of_ble_eq_true rfl)

set_option maxHeartbeats 4000000 in
set_option maxRecDepth 100000 in
theorem c_X4_needCell_b2 (l : Launch) (hlt : l.stackTraces = false) (E : eT) (sz : Nat) (X : Nat) (y : Int32) (hX : X < 9) (hc : isInB y (nI 0) (nI 8) = false) : cX l yX4_needCell wsX4_needCell rm_X4_needCell_t E sz [.int (nI X), .int y] ([]) nX1 := by
  refine cX_intro (cc := cX4_needCell) (maxL := 2) (ret := none) (by decide +kernel) rfl (Nat.le_of_ble_eq_true rfl) ?_
  intro p e s m args below meth cd hx hb hr hml hown hlocks hts hnm ht hK hsz hP A hD hA hX Q hQ ls hl
  have hown : s.vm.findClass RX4 = some m.cls := hown
  have hS : va_S A s.heap s.heap [] := va_S.rf
  have hl : lv_has ls 2 [(0, .int (nI X)), (1, .int y)] := hl
  refine lv_iload_n hx hb dX4_needCell_0 rfl (lv_at hl 0 rfl) ?_
  refine lv_bipush (v := nI 9) hx hb dX4_needCell_1 (by decide +kernel) ?_
  refine e_callS (As := [.int (nI X), .int (nI 9)]) (rest := []) ⟨hx, hb, hml, hown, hts⟩ hK hP hD hS hA hl.1 (c_X4_needIndex l E _ X 9 (by first | omega | assumption | rfl | (simp_all; done)) (by first | omega | assumption | rfl | (simp_all; done))) (va_cwS 2 hts gX4_needCell_X4_needIndex rfl rfl rfl (by decide +kernel) ⟨Nat.le_of_ble_eq_true rfl, Nat.le_of_ble_eq_true rfl⟩) [] [] rfl rfl rfl rfl (by decide) rfl rfl (Nat.le_of_ble_eq_true rfl) dX4_needCell_3 ⟨Nat.le_of_ble_eq_true rfl, Nat.le_of_ble_eq_true rfl⟩ (fun u_1 H locs hu_2 hsz1 hP hD hS => ?_)
  have hP : va_P E.1 vwCl ([]) H := hP.sub [] rfl
  have hD : va_D A ([]) := hD.sub [] (by decide) rfl
  refine W.eq (g2 := F0 m 6 ls []) rfl ?_
  refine lv_iload_n hx hb dX4_needCell_6 rfl (lv_at hl 1 rfl) ?_
  refine lv_bipush (v := nI 9) hx hb dX4_needCell_7 (by decide +kernel) ?_
  refine e_callSX (As := [.int y, .int (nI 9)]) (rest := []) ⟨hx, hb, hml, hown, hts⟩ hK hX hP hD hS hA hl.1 (c_X4_needIndex_t l hlt E _ y 9 (hc) (by first | omega | assumption | rfl | (simp_all; done)) (by first | omega | assumption | rfl | (simp_all; done))) (va_cwS 2 hts gX4_needCell_X4_needIndex rfl rfl rfl (by decide +kernel) ⟨Nat.le_of_ble_eq_true rfl, Nat.le_of_ble_eq_true rfl⟩) [] [] rfl rfl rfl rfl (by decide) rfl rfl (Nat.le_of_ble_eq_true rfl) dX4_needCell_9 ⟨Nat.le_of_ble_eq_true rfl, Nat.le_of_ble_eq_true rfl⟩ (fun ce q9 H locs hsz1 hP hD hS hcell hvm hcl => ?_)
  have hP : va_P E.1 vwCl ([]) H := hP.sub [] rfl
  have hD : va_D A ([]) := hD.sub [] (by decide) rfl
  exact e_outX hQ ht hlocks hP hS hcell hvm hcl (Nat.le_of_ble_eq_true rfl) (Nat.le_of_ble_eq_true rfl)

theorem c_X4_needCell_t (l : Launch) (hlt : l.stackTraces = false) (E : eT) (sz : Nat) (x : Int32) (y : Int32) (hc : isCellB x y = false) : cX l yX4_needCell wsX4_needCell rm_X4_needCell_t E sz [.int x, .int y] ([]) nX1 := by
  cases h1 : isInB x (nI 0) (nI 8) with
  | false => exact c_X4_needCell_b1 l hlt E sz x y h1
  | true =>
    obtain ⟨k, -, hk, rfl⟩ := isInB_nat (by decide) h1 (by decide)
    exact c_X4_needCell_b2 l hlt E sz k y (by omega) (by unfold isCellB at hc; rw [h1] at hc; exact hc)

abbrev rm_X4_setGround : Room := { frames := 2, cells := 0, slots := 0, locals := 42 }
set_option maxHeartbeats 4000000 in
set_option maxRecDepth 100000 in
theorem c_X4_setGround (l : Launch) (E : eT) (sz : Nat) (o : Nat) (ad : Nat → Nat) (wm : Nat → Int32) (st : Nat → Int32) (gr : Nat → Int32) (co : Nat → Int32) (hb_ : Nat → Bool) (mo : Nat) (ga : Nat → Int32) (ca : Nat → Int32) (ha_ : Nat → Bool) (ma : Nat) (sd : Nat → Int32) (tk : Nat → Int32) (op : Nat → Bool) (sp : Nat → Nat) (rc : Nat → Nat) (rn : Nat) (wa : Nat → Int32) (X : Nat) (Y : Nat) (v : Int32) (hX : X < 9) (hY : Y < 9) (hv : isInB v (nI 0) (nI 40) = true) : cM l yX4_setGround wsX4_setGround rm_X4_setGround E sz [.ref o, .int (nI X), .int (nI Y), .int v] (wAll E o ad wm st gr co hb_ (nI mo) ga ca ha_ (nI ma) sd tk op sp rc rn wa) (fun u : Unit => some (.int (gr ((9 * Y) + X)))) (fun u : Unit => True) (fun u : Unit => wAll E o ad wm st (upd gr ((9 * Y) + X) v) (upd co ((9 * Y) + X) (iMin (co ((9 * Y) + X)) v)) hb_ (nI mo) ga ca ha_ (nI ma) sd tk op sp rc rn wa) := by
  refine cM_intro (cc := cX4_setGround) (maxL := 4) (ret := (some .int)) (by decide +kernel) rfl (Nat.le_of_ble_eq_true rfl) ?_
  intro p e s m args below meth cd hx hb hr hml hown hlocks hts hnm hK hsz hP A hD hA Q hQ ls hl
  have hown : s.vm.findClass RX4 = some m.cls := hown
  have hin4 : ∀ w ∈ u_ws RX4 TX4 6, w ∈ wsX4_setGround := by decide +kernel
  have lk19 := hts (.fieldLink RX4 19 "ReefPilot" "coast" "LReefPilot$Coast;") (by decide +kernel)
  have hS : va_S A s.heap s.heap [] := va_S.rf
  have hl : lv_has ls 4 [(0, .ref o), (1, .int (nI X)), (2, .int (nI Y)), (3, .int v)] := hl
  refine lv_iload_n hx hb dX4_setGround_0 rfl (lv_at hl 1 rfl) ?_
  refine lv_iload_n hx hb dX4_setGround_1 rfl (lv_at hl 2 rfl) ?_
  refine e_callS (As := [.int (nI X), .int (nI Y)]) (rest := []) ⟨hx, hb, hml, hown, hts⟩ hK hP hD hS hA hl.1 (c_X4_needCell l E _ X Y (by first | omega | assumption | rfl | (simp_all; done)) (by first | omega | assumption | rfl | (simp_all; done))) (va_cwS 2 hts gX4_setGround_X4_needCell rfl rfl rfl (by decide +kernel) ⟨Nat.le_of_ble_eq_true rfl, Nat.le_of_ble_eq_true rfl⟩) [] [0, 1, 2, 3, 4, 5, 6, 7, 8, 9, 10, 11, 12, 13, 14, 15, 16, 17, 18, 19] rfl rfl rfl rfl (by decide) rfl rfl (Nat.le_of_ble_eq_true rfl) dX4_setGround_2 ⟨Nat.le_of_ble_eq_true rfl, Nat.le_of_ble_eq_true rfl⟩ (fun u_1 H locs hu_2 hsz1 hP hD hS => ?_)
  have hP : va_P E.1 vwCl (wAll E o ad wm st gr co hb_ (nI mo) ga ca ha_ (nI ma) sd tk op sp rc rn wa) H := hP.sub [0, 1, 2, 3, 4, 5, 6, 7, 8, 9, 10, 11, 12, 13, 14, 15, 16, 17, 18, 19] rfl
  have hD : va_D A (wAll E o ad wm st gr co hb_ (nI mo) ga ca ha_ (nI ma) sd tk op sp rc rn wa) := hD.sub [0, 1, 2, 3, 4, 5, 6, 7, 8, 9, 10, 11, 12, 13, 14, 15, 16, 17, 18, 19] (by decide) rfl
  refine W.eq (g2 := F0 m 5 ls []) rfl ?_
  refine lv_iload_n hx hb dX4_setGround_5 rfl (lv_at hl 3 rfl) ?_
  refine lv_iconst (v := nI 0) hx hb dX4_setGround_6 (by decide +kernel) ?_
  refine lv_bipush (v := nI 40) hx hb dX4_setGround_7 (by decide +kernel) ?_
  refine e_callS (As := [.int v, .int (nI 0), .int (nI 40)]) (rest := []) ⟨hx, hb, hml, hown, hts⟩ hK hP hD hS hA hl.1 (c_X4_needWithin l E _ v (nI 0) (nI 40) (by first | omega | assumption | rfl | (simp_all; done))) (va_cwS 3 hts gX4_setGround_X4_needWithin rfl rfl rfl (by decide +kernel) ⟨Nat.le_of_ble_eq_true rfl, Nat.le_of_ble_eq_true rfl⟩) [] [0, 1, 2, 3, 4, 5, 6, 7, 8, 9, 10, 11, 12, 13, 14, 15, 16, 17, 18, 19] rfl rfl rfl rfl (by decide) rfl rfl (Nat.le_of_ble_eq_true rfl) dX4_setGround_9 ⟨Nat.le_of_ble_eq_true rfl, Nat.le_of_ble_eq_true rfl⟩ (fun u_3 H locs hu_4 hsz1 hP hD hS => ?_)
  have hP : va_P E.1 vwCl (wAll E o ad wm st gr co hb_ (nI mo) ga ca ha_ (nI ma) sd tk op sp rc rn wa) H := hP.sub [0, 1, 2, 3, 4, 5, 6, 7, 8, 9, 10, 11, 12, 13, 14, 15, 16, 17, 18, 19] rfl
  have hD : va_D A (wAll E o ad wm st gr co hb_ (nI mo) ga ca ha_ (nI ma) sd tk op sp rc rn wa) := hD.sub [0, 1, 2, 3, 4, 5, 6, 7, 8, 9, 10, 11, 12, 13, 14, 15, 16, 17, 18, 19] (by decide) rfl
  refine W.eq (g2 := F0 m 12 ls []) rfl ?_
  refine lv_aload_n hx hb dX4_setGround_12 rfl (lv_at hl 0 rfl) ?_
  refine va_get (D := E.1) (ci := 4) (v := .ref (ad 3)) (C := RX4) (T := TX4) (N := 6) hx hb hts hin4 hown hK.1 hP 0 rfl rfl 1 (by decide) lk19 (fun _ h9 => h9) rfl dX4_setGround_13 ?_
  refine lv_bipush (v := nI 9) hx hb dX4_setGround_16 (by decide +kernel) ?_
  refine lv_iload_n hx hb dX4_setGround_18 rfl (lv_at hl 2 rfl) ?_
  refine lv_imul hx hb dX4_setGround_19 ?_
  refine e_top (pk_mul _ _) ?_
  refine lv_iload_n hx hb dX4_setGround_20 rfl (lv_at hl 1 rfl) ?_
  refine lv_iadd hx hb dX4_setGround_21 ?_
  refine e_top (nI_add _ _) ?_
  refine lv_iload_n hx hb dX4_setGround_22 rfl (lv_at hl 3 rfl) ?_
  refine e_callV (As := [.int (nI ((9 * Y) + X)), .int v]) (rest := []) ⟨hx, hb, hml, hown, hts⟩ hK hP hD hS hA hl.1 (c_X0_layGround l E _ (ad 3) (ad 4) (ad 5) (ad 6) gr co hb_ (nI mo) ((9 * Y) + X) v (by first | omega | assumption | rfl | (simp_all; done))) (cwV 2 hts gX4_setGround_X0_layGround rfl rfl rfl (by decide +kernel) ⟨Nat.le_of_ble_eq_true rfl, Nat.le_of_ble_eq_true rfl⟩) [4, 5, 6, 7] [0, 1, 2, 3, 8, 9, 10, 11, 12, 13, 14, 15, 16, 17, 18, 19] rfl rfl rfl rfl (by decide) (q0 := 4) (ci := 0) rfl rfl rfl rfl (Nat.le_of_ble_eq_true rfl) dX4_setGround_23 ⟨Nat.le_of_ble_eq_true rfl, Nat.le_of_ble_eq_true rfl⟩ (fun u_5 H locs hu_6 hsz1 hP hD hS => ?_)
  have hP : va_P E.1 vwCl (wAll E o ad wm st (upd gr ((9 * Y) + X) v) (upd co ((9 * Y) + X) (iMin (co ((9 * Y) + X)) v)) hb_ (nI mo) ga ca ha_ (nI ma) sd tk op sp rc rn wa) H := hP.sub [0, 1, 2, 3, 16, 17, 18, 19, 4, 5, 6, 7, 8, 9, 10, 11, 12, 13, 14, 15] rfl
  have hD : va_D A (wAll E o ad wm st (upd gr ((9 * Y) + X) v) (upd co ((9 * Y) + X) (iMin (co ((9 * Y) + X)) v)) hb_ (nI mo) ga ca ha_ (nI ma) sd tk op sp rc rn wa) := hD.sub [0, 1, 2, 3, 16, 17, 18, 19, 4, 5, 6, 7, 8, 9, 10, 11, 12, 13, 14, 15] (by decide) rfl
  refine W.eq (g2 := F0 m 26 ls [.int (gr ((9 * Y) + X))]) rfl ?_
  exact e_iret () hQ hx hb hr hlocks hP hD hS dX4_setGround_26 (rfl) (Nat.le_of_ble_eq_true rfl) (Nat.le_of_ble_eq_true rfl) (trivial)

abbrev rm_X4_setGround_b1 : Room := { frames := 8, cells := 1, slots := 6, locals := 124 }
set_option maxHeartbeats 4000000 in
set_option maxRecDepth 100000 in
theorem c_X4_setGround_b1 (l : Launch) (hlt : l.stackTraces = false) (E : eT) (sz : Nat) (o : Nat) (ad : Nat → Nat) (wm : Nat → Int32) (st : Nat → Int32) (gr : Nat → Int32) (co : Nat → Int32) (hb_ : Nat → Bool) (mo : Nat) (ga : Nat → Int32) (ca : Nat → Int32) (ha_ : Nat → Bool) (ma : Nat) (sd : Nat → Int32) (tk : Nat → Int32) (op : Nat → Bool) (sp : Nat → Nat) (rc : Nat → Nat) (rn : Nat) (wa : Nat → Int32) (x : Int32) (y : Int32) (v : Int32) (hc : isCellB x y = false) : cX l yX4_setGround wsX4_setGround rm_X4_setGround_b1 E sz [.ref o, .int x, .int y, .int v] (wAll E o ad wm st gr co hb_ (nI mo) ga ca ha_ (nI ma) sd tk op sp rc rn wa) nX1 := by
  refine cX_intro (cc := cX4_setGround) (maxL := 4) (ret := (some .int)) (by decide +kernel) rfl (Nat.le_of_ble_eq_true rfl) ?_
  intro p e s m args below meth cd hx hb hr hml hown hlocks hts hnm ht hK hsz hP A hD hA hX Q hQ ls hl
  have hown : s.vm.findClass RX4 = some m.cls := hown
  have hS : va_S A s.heap s.heap [] := va_S.rf
  have hl : lv_has ls 4 [(0, .ref o), (1, .int x), (2, .int y), (3, .int v)] := hl
  refine lv_iload_n hx hb dX4_setGround_0 rfl (lv_at hl 1 rfl) ?_
  refine lv_iload_n hx hb dX4_setGround_1 rfl (lv_at hl 2 rfl) ?_
  refine e_callSX (As := [.int x, .int y]) (rest := []) ⟨hx, hb, hml, hown, hts⟩ hK hX hP hD hS hA hl.1 (c_X4_needCell_t l hlt E _ x y (by first | omega | assumption | rfl | (simp_all; done))) (va_cwS 2 hts gX4_setGround_X4_needCell rfl rfl rfl (by decide +kernel) ⟨Nat.le_of_ble_eq_true rfl, Nat.le_of_ble_eq_true rfl⟩) [] [0, 1, 2, 3, 4, 5, 6, 7, 8, 9, 10, 11, 12, 13, 14, 15, 16, 17, 18, 19] rfl rfl rfl rfl (by decide) rfl rfl (Nat.le_of_ble_eq_true rfl) dX4_setGround_2 ⟨Nat.le_of_ble_eq_true rfl, Nat.le_of_ble_eq_true rfl⟩ (fun ce q9 H locs hsz1 hP hD hS hcell hvm hcl => ?_)
  have hP : va_P E.1 vwCl (wAll E o ad wm st gr co hb_ (nI mo) ga ca ha_ (nI ma) sd tk op sp rc rn wa) H := hP.sub [0, 1, 2, 3, 4, 5, 6, 7, 8, 9, 10, 11, 12, 13, 14, 15, 16, 17, 18, 19] rfl
  have hD : va_D A (wAll E o ad wm st gr co hb_ (nI mo) ga ca ha_ (nI ma) sd tk op sp rc rn wa) := hD.sub [0, 1, 2, 3, 4, 5, 6, 7, 8, 9, 10, 11, 12, 13, 14, 15, 16, 17, 18, 19] (by decide) rfl
  exact e_outX hQ ht hlocks hP hS hcell hvm hcl (Nat.le_of_ble_eq_true rfl) (Nat.le_of_ble_eq_true rfl)

abbrev rm_X4_setGround_b2 : Room := { frames := 7, cells := 1, slots := 6, locals := 104 }
set_option maxHeartbeats 4000000 in
set_option maxRecDepth 100000 in
theorem c_X4_setGround_b2 (l : Launch) (hlt : l.stackTraces = false) (E : eT) (sz : Nat) (o : Nat) (ad : Nat → Nat) (wm : Nat → Int32) (st : Nat → Int32) (gr : Nat → Int32) (co : Nat → Int32) (hb_ : Nat → Bool) (mo : Nat) (ga : Nat → Int32) (ca : Nat → Int32) (ha_ : Nat → Bool) (ma : Nat) (sd : Nat → Int32) (tk : Nat → Int32) (op : Nat → Bool) (sp : Nat → Nat) (rc : Nat → Nat) (rn : Nat) (wa : Nat → Int32) (X : Nat) (Y : Nat) (v : Int32) (hX : X < 9) (hY : Y < 9) (hv : isInB v (nI 0) (nI 40) = false) : cX l yX4_setGround wsX4_setGround rm_X4_setGround_b2 E sz [.ref o, .int (nI X), .int (nI Y), .int v] (wAll E o ad wm st gr co hb_ (nI mo) ga ca ha_ (nI ma) sd tk op sp rc rn wa) nX2 := by
  refine cX_intro (cc := cX4_setGround) (maxL := 4) (ret := (some .int)) (by decide +kernel) rfl (Nat.le_of_ble_eq_true rfl) ?_
  intro p e s m args below meth cd hx hb hr hml hown hlocks hts hnm ht hK hsz hP A hD hA hX Q hQ ls hl
  have hown : s.vm.findClass RX4 = some m.cls := hown
  have hS : va_S A s.heap s.heap [] := va_S.rf
  have hl : lv_has ls 4 [(0, .ref o), (1, .int (nI X)), (2, .int (nI Y)), (3, .int v)] := hl
  refine lv_iload_n hx hb dX4_setGround_0 rfl (lv_at hl 1 rfl) ?_
  refine lv_iload_n hx hb dX4_setGround_1 rfl (lv_at hl 2 rfl) ?_
  refine e_callS (As := [.int (nI X), .int (nI Y)]) (rest := []) ⟨hx, hb, hml, hown, hts⟩ hK hP hD hS hA hl.1 (c_X4_needCell l E _ X Y (by first | omega | assumption | rfl | (simp_all; done)) (by first | omega | assumption | rfl | (simp_all; done))) (va_cwS 2 hts gX4_setGround_X4_needCell rfl rfl rfl (by decide +kernel) ⟨Nat.le_of_ble_eq_true rfl, Nat.le_of_ble_eq_true rfl⟩) [] [0, 1, 2, 3, 4, 5, 6, 7, 8, 9, 10, 11, 12, 13, 14, 15, 16, 17, 18, 19] rfl rfl rfl rfl (by decide) rfl rfl (Nat.le_of_ble_eq_true rfl) dX4_setGround_2 ⟨Nat.le_of_ble_eq_true rfl, Nat.le_of_ble_eq_true rfl⟩ (fun u_1 H locs hu_2 hsz1 hP hD hS => ?_)
  have hP : va_P E.1 vwCl (wAll E o ad wm st gr co hb_ (nI mo) ga ca ha_ (nI ma) sd tk op sp rc rn wa) H := hP.sub [0, 1, 2, 3, 4, 5, 6, 7, 8, 9, 10, 11, 12, 13, 14, 15, 16, 17, 18, 19] rfl
  have hD : va_D A (wAll E o ad wm st gr co hb_ (nI mo) ga ca ha_ (nI ma) sd tk op sp rc rn wa) := hD.sub [0, 1, 2, 3, 4, 5, 6, 7, 8, 9, 10, 11, 12, 13, 14, 15, 16, 17, 18, 19] (by decide) rfl
  refine W.eq (g2 := F0 m 5 ls []) rfl ?_
  refine lv_iload_n hx hb dX4_setGround_5 rfl (lv_at hl 3 rfl) ?_
  refine lv_iconst (v := nI 0) hx hb dX4_setGround_6 (by decide +kernel) ?_
  refine lv_bipush (v := nI 40) hx hb dX4_setGround_7 (by decide +kernel) ?_
  refine e_callSX (As := [.int v, .int (nI 0), .int (nI 40)]) (rest := []) ⟨hx, hb, hml, hown, hts⟩ hK hX hP hD hS hA hl.1 (c_X4_needWithin_t l hlt E _ v (nI 0) (nI 40) (by first | omega | assumption | rfl | (simp_all; done))) (va_cwS 3 hts gX4_setGround_X4_needWithin rfl rfl rfl (by decide +kernel) ⟨Nat.le_of_ble_eq_true rfl, Nat.le_of_ble_eq_true rfl⟩) [] [0, 1, 2, 3, 4, 5, 6, 7, 8, 9, 10, 11, 12, 13, 14, 15, 16, 17, 18, 19] rfl rfl rfl rfl (by decide) rfl rfl (Nat.le_of_ble_eq_true rfl) dX4_setGround_9 ⟨Nat.le_of_ble_eq_true rfl, Nat.le_of_ble_eq_true rfl⟩ (fun ce q9 H locs hsz1 hP hD hS hcell hvm hcl => ?_)
  have hP : va_P E.1 vwCl (wAll E o ad wm st gr co hb_ (nI mo) ga ca ha_ (nI ma) sd tk op sp rc rn wa) H := hP.sub [0, 1, 2, 3, 4, 5, 6, 7, 8, 9, 10, 11, 12, 13, 14, 15, 16, 17, 18, 19] rfl
  have hD : va_D A (wAll E o ad wm st gr co hb_ (nI mo) ga ca ha_ (nI ma) sd tk op sp rc rn wa) := hD.sub [0, 1, 2, 3, 4, 5, 6, 7, 8, 9, 10, 11, 12, 13, 14, 15, 16, 17, 18, 19] (by decide) rfl
  exact e_outX hQ ht hlocks hP hS hcell hvm hcl (Nat.le_of_ble_eq_true rfl) (Nat.le_of_ble_eq_true rfl)

abbrev rm_X4_plant : Room := { frames := 2, cells := 0, slots := 0, locals := 42 }
set_option maxHeartbeats 4000000 in
set_option maxRecDepth 100000 in
theorem c_X4_plant (l : Launch) (E : eT) (sz : Nat) (o : Nat) (ad : Nat → Nat) (wm : Nat → Int32) (st : Nat → Int32) (gr : Nat → Int32) (co : Nat → Int32) (hb_ : Nat → Bool) (mo : Nat) (ga : Nat → Int32) (ca : Nat → Int32) (ha_ : Nat → Bool) (ma : Nat) (sd : Nat → Int32) (tk : Nat → Int32) (op : Nat → Bool) (sp : Nat → Nat) (rc : Nat → Nat) (rn : Nat) (wa : Nat → Int32) (X : Nat) (Y : Nat) (v : Int32) (hX : X < 9) (hY : Y < 9) (hv : isInB v (nI 0) (gr ((9 * Y) + X)) = true) : cM l yX4_plant wsX4_plant rm_X4_plant E sz [.ref o, .int (nI X), .int (nI Y), .int v] (wAll E o ad wm st gr co hb_ (nI mo) ga ca ha_ (nI ma) sd tk op sp rc rn wa) (fun u : Unit => some (.int (co ((9 * Y) + X)))) (fun u : Unit => True) (fun u : Unit => wAll E o ad wm st gr (upd co ((9 * Y) + X) v) hb_ (nI mo) ga ca ha_ (nI ma) sd tk op sp rc rn wa) := by
  refine cM_intro (cc := cX4_plant) (maxL := 4) (ret := (some .int)) (by decide +kernel) rfl (Nat.le_of_ble_eq_true rfl) ?_
  intro p e s m args below meth cd hx hb hr hml hown hlocks hts hnm hK hsz hP A hD hA Q hQ ls hl
  have hown : s.vm.findClass RX4 = some m.cls := hown
  have hin4 : ∀ w ∈ u_ws RX4 TX4 6, w ∈ wsX4_plant := by decide +kernel
  have lk19 := hts (.fieldLink RX4 19 "ReefPilot" "coast" "LReefPilot$Coast;") (by decide +kernel)
  have hS : va_S A s.heap s.heap [] := va_S.rf
  have hl : lv_has ls 4 [(0, .ref o), (1, .int (nI X)), (2, .int (nI Y)), (3, .int v)] := hl
  refine lv_iload_n hx hb dX4_plant_0 rfl (lv_at hl 1 rfl) ?_
  refine lv_iload_n hx hb dX4_plant_1 rfl (lv_at hl 2 rfl) ?_
  refine e_callS (As := [.int (nI X), .int (nI Y)]) (rest := []) ⟨hx, hb, hml, hown, hts⟩ hK hP hD hS hA hl.1 (c_X4_needCell l E _ X Y (by first | omega | assumption | rfl | (simp_all; done)) (by first | omega | assumption | rfl | (simp_all; done))) (va_cwS 2 hts gX4_plant_X4_needCell rfl rfl rfl (by decide +kernel) ⟨Nat.le_of_ble_eq_true rfl, Nat.le_of_ble_eq_true rfl⟩) [] [0, 1, 2, 3, 4, 5, 6, 7, 8, 9, 10, 11, 12, 13, 14, 15, 16, 17, 18, 19] rfl rfl rfl rfl (by decide) rfl rfl (Nat.le_of_ble_eq_true rfl) dX4_plant_2 ⟨Nat.le_of_ble_eq_true rfl, Nat.le_of_ble_eq_true rfl⟩ (fun u_1 H locs hu_2 hsz1 hP hD hS => ?_)
  have hP : va_P E.1 vwCl (wAll E o ad wm st gr co hb_ (nI mo) ga ca ha_ (nI ma) sd tk op sp rc rn wa) H := hP.sub [0, 1, 2, 3, 4, 5, 6, 7, 8, 9, 10, 11, 12, 13, 14, 15, 16, 17, 18, 19] rfl
  have hD : va_D A (wAll E o ad wm st gr co hb_ (nI mo) ga ca ha_ (nI ma) sd tk op sp rc rn wa) := hD.sub [0, 1, 2, 3, 4, 5, 6, 7, 8, 9, 10, 11, 12, 13, 14, 15, 16, 17, 18, 19] (by decide) rfl
  refine W.eq (g2 := F0 m 5 ls []) rfl ?_
  refine lv_iload_n hx hb dX4_plant_5 rfl (lv_at hl 3 rfl) ?_
  refine lv_iconst (v := nI 0) hx hb dX4_plant_6 (by decide +kernel) ?_
  refine lv_aload_n hx hb dX4_plant_7 rfl (lv_at hl 0 rfl) ?_
  refine va_get (D := E.1) (ci := 4) (v := .ref (ad 3)) (C := RX4) (T := TX4) (N := 6) hx hb hts hin4 hown hK.1 hP 0 rfl rfl 1 (by decide) lk19 (fun _ h9 => h9) rfl dX4_plant_8 ?_
  refine lv_bipush (v := nI 9) hx hb dX4_plant_11 (by decide +kernel) ?_
  refine lv_iload_n hx hb dX4_plant_13 rfl (lv_at hl 2 rfl) ?_
  refine lv_imul hx hb dX4_plant_14 ?_
  refine e_top (pk_mul _ _) ?_
  refine lv_iload_n hx hb dX4_plant_15 rfl (lv_at hl 1 rfl) ?_
  refine lv_iadd hx hb dX4_plant_16 ?_
  refine e_top (nI_add _ _) ?_
  refine e_callV (As := [.int (nI ((9 * Y) + X))]) (rest := [.int (nI 0), .int v]) ⟨hx, hb, hml, hown, hts⟩ hK hP hD hS hA hl.1 (c_X0_groundOf l E _ (ad 3) (ad 4) (ad 5) (ad 6) gr co hb_ (nI mo) ((9 * Y) + X) (by first | omega | assumption | rfl | (simp_all; done))) (cwV 1 hts gX4_plant_X0_groundOf rfl rfl rfl (by decide +kernel) ⟨Nat.le_of_ble_eq_true rfl, Nat.le_of_ble_eq_true rfl⟩) [4, 5, 6, 7] [0, 1, 2, 3, 8, 9, 10, 11, 12, 13, 14, 15, 16, 17, 18, 19] rfl rfl rfl rfl (by decide) (q0 := 4) (ci := 0) rfl rfl rfl rfl (Nat.le_of_ble_eq_true rfl) dX4_plant_17 ⟨Nat.le_of_ble_eq_true rfl, Nat.le_of_ble_eq_true rfl⟩ (fun u_3 H locs hu_4 hsz1 hP hD hS => ?_)
  have hP : va_P E.1 vwCl (wAll E o ad wm st gr co hb_ (nI mo) ga ca ha_ (nI ma) sd tk op sp rc rn wa) H := hP.sub [0, 1, 2, 3, 16, 17, 18, 19, 4, 5, 6, 7, 8, 9, 10, 11, 12, 13, 14, 15] rfl
  have hD : va_D A (wAll E o ad wm st gr co hb_ (nI mo) ga ca ha_ (nI ma) sd tk op sp rc rn wa) := hD.sub [0, 1, 2, 3, 16, 17, 18, 19, 4, 5, 6, 7, 8, 9, 10, 11, 12, 13, 14, 15] (by decide) rfl
  refine W.eq (g2 := F0 m 20 ls [.int (gr ((9 * Y) + X)), .int (nI 0), .int v]) rfl ?_
  refine e_callS (As := [.int v, .int (nI 0), .int (gr ((9 * Y) + X))]) (rest := []) ⟨hx, hb, hml, hown, hts⟩ hK hP hD hS hA hl.1 (c_X4_needWithin l E _ v (nI 0) (gr ((9 * Y) + X)) (by first | omega | assumption | rfl | (simp_all; done))) (va_cwS 3 hts gX4_plant_X4_needWithin rfl rfl rfl (by decide +kernel) ⟨Nat.le_of_ble_eq_true rfl, Nat.le_of_ble_eq_true rfl⟩) [] [0, 1, 2, 3, 4, 5, 6, 7, 8, 9, 10, 11, 12, 13, 14, 15, 16, 17, 18, 19] rfl rfl rfl rfl (by decide) rfl rfl (Nat.le_of_ble_eq_true rfl) dX4_plant_20 ⟨Nat.le_of_ble_eq_true rfl, Nat.le_of_ble_eq_true rfl⟩ (fun u_5 H locs hu_6 hsz1 hP hD hS => ?_)
  have hP : va_P E.1 vwCl (wAll E o ad wm st gr co hb_ (nI mo) ga ca ha_ (nI ma) sd tk op sp rc rn wa) H := hP.sub [0, 1, 2, 3, 4, 5, 6, 7, 8, 9, 10, 11, 12, 13, 14, 15, 16, 17, 18, 19] rfl
  have hD : va_D A (wAll E o ad wm st gr co hb_ (nI mo) ga ca ha_ (nI ma) sd tk op sp rc rn wa) := hD.sub [0, 1, 2, 3, 4, 5, 6, 7, 8, 9, 10, 11, 12, 13, 14, 15, 16, 17, 18, 19] (by decide) rfl
  refine W.eq (g2 := F0 m 23 ls []) rfl ?_
  refine lv_aload_n hx hb dX4_plant_23 rfl (lv_at hl 0 rfl) ?_
  refine va_get (D := E.1) (ci := 4) (v := .ref (ad 3)) (C := RX4) (T := TX4) (N := 6) hx hb hts hin4 hown hK.1 hP 0 rfl rfl 1 (by decide) lk19 (fun _ h9 => h9) rfl dX4_plant_24 ?_
  refine lv_bipush (v := nI 9) hx hb dX4_plant_27 (by decide +kernel) ?_
  refine lv_iload_n hx hb dX4_plant_29 rfl (lv_at hl 2 rfl) ?_
  refine lv_imul hx hb dX4_plant_30 ?_
  refine e_top (pk_mul _ _) ?_
  refine lv_iload_n hx hb dX4_plant_31 rfl (lv_at hl 1 rfl) ?_
  refine lv_iadd hx hb dX4_plant_32 ?_
  refine e_top (nI_add _ _) ?_
  refine lv_iload_n hx hb dX4_plant_33 rfl (lv_at hl 3 rfl) ?_
  refine e_callV (As := [.int (nI ((9 * Y) + X)), .int v]) (rest := []) ⟨hx, hb, hml, hown, hts⟩ hK hP hD hS hA hl.1 (c_X0_setCoral l E _ (ad 3) (ad 4) (ad 5) (ad 6) gr co hb_ (nI mo) ((9 * Y) + X) v (by first | omega | assumption | rfl | (simp_all; done))) (cwV 2 hts gX4_plant_X0_setCoral rfl rfl rfl (by decide +kernel) ⟨Nat.le_of_ble_eq_true rfl, Nat.le_of_ble_eq_true rfl⟩) [4, 5, 6, 7] [0, 1, 2, 3, 8, 9, 10, 11, 12, 13, 14, 15, 16, 17, 18, 19] rfl rfl rfl rfl (by decide) (q0 := 4) (ci := 0) rfl rfl rfl rfl (Nat.le_of_ble_eq_true rfl) dX4_plant_34 ⟨Nat.le_of_ble_eq_true rfl, Nat.le_of_ble_eq_true rfl⟩ (fun u_7 H locs hu_8 hsz1 hP hD hS => ?_)
  have hP : va_P E.1 vwCl (wAll E o ad wm st gr (upd co ((9 * Y) + X) v) hb_ (nI mo) ga ca ha_ (nI ma) sd tk op sp rc rn wa) H := hP.sub [0, 1, 2, 3, 16, 17, 18, 19, 4, 5, 6, 7, 8, 9, 10, 11, 12, 13, 14, 15] rfl
  have hD : va_D A (wAll E o ad wm st gr (upd co ((9 * Y) + X) v) hb_ (nI mo) ga ca ha_ (nI ma) sd tk op sp rc rn wa) := hD.sub [0, 1, 2, 3, 16, 17, 18, 19, 4, 5, 6, 7, 8, 9, 10, 11, 12, 13, 14, 15] (by decide) rfl
  refine W.eq (g2 := F0 m 37 ls [.int (co ((9 * Y) + X))]) rfl ?_
  exact e_iret () hQ hx hb hr hlocks hP hD hS dX4_plant_37 (rfl) (Nat.le_of_ble_eq_true rfl) (Nat.le_of_ble_eq_true rfl) (trivial)

abbrev rm_X4_plant_b1 : Room := { frames := 8, cells := 1, slots := 6, locals := 124 }
set_option maxHeartbeats 4000000 in
set_option maxRecDepth 100000 in
theorem c_X4_plant_b1 (l : Launch) (hlt : l.stackTraces = false) (E : eT) (sz : Nat) (o : Nat) (ad : Nat → Nat) (wm : Nat → Int32) (st : Nat → Int32) (gr : Nat → Int32) (co : Nat → Int32) (hb_ : Nat → Bool) (mo : Nat) (ga : Nat → Int32) (ca : Nat → Int32) (ha_ : Nat → Bool) (ma : Nat) (sd : Nat → Int32) (tk : Nat → Int32) (op : Nat → Bool) (sp : Nat → Nat) (rc : Nat → Nat) (rn : Nat) (wa : Nat → Int32) (x : Int32) (y : Int32) (v : Int32) (hc : isCellB x y = false) : cX l yX4_plant wsX4_plant rm_X4_plant_b1 E sz [.ref o, .int x, .int y, .int v] (wAll E o ad wm st gr co hb_ (nI mo) ga ca ha_ (nI ma) sd tk op sp rc rn wa) nX1 := by
  refine cX_intro (cc := cX4_plant) (maxL := 4) (ret := (some .int)) (by decide +kernel) rfl (Nat.le_of_ble_eq_true rfl) ?_
  intro p e s m args below meth cd hx hb hr hml hown hlocks hts hnm ht hK hsz hP A hD hA hX Q hQ ls hl
  have hown : s.vm.findClass RX4 = some m.cls := hown
  have hS : va_S A s.heap s.heap [] := va_S.rf
  have hl : lv_has ls 4 [(0, .ref o), (1, .int x), (2, .int y), (3, .int v)] := hl
  refine lv_iload_n hx hb dX4_plant_0 rfl (lv_at hl 1 rfl) ?_
  refine lv_iload_n hx hb dX4_plant_1 rfl (lv_at hl 2 rfl) ?_
  refine e_callSX (As := [.int x, .int y]) (rest := []) ⟨hx, hb, hml, hown, hts⟩ hK hX hP hD hS hA hl.1 (c_X4_needCell_t l hlt E _ x y (by first | omega | assumption | rfl | (simp_all; done))) (va_cwS 2 hts gX4_plant_X4_needCell rfl rfl rfl (by decide +kernel) ⟨Nat.le_of_ble_eq_true rfl, Nat.le_of_ble_eq_true rfl⟩) [] [0, 1, 2, 3, 4, 5, 6, 7, 8, 9, 10, 11, 12, 13, 14, 15, 16, 17, 18, 19] rfl rfl rfl rfl (by decide) rfl rfl (Nat.le_of_ble_eq_true rfl) dX4_plant_2 ⟨Nat.le_of_ble_eq_true rfl, Nat.le_of_ble_eq_true rfl⟩ (fun ce q9 H locs hsz1 hP hD hS hcell hvm hcl => ?_)
  have hP : va_P E.1 vwCl (wAll E o ad wm st gr co hb_ (nI mo) ga ca ha_ (nI ma) sd tk op sp rc rn wa) H := hP.sub [0, 1, 2, 3, 4, 5, 6, 7, 8, 9, 10, 11, 12, 13, 14, 15, 16, 17, 18, 19] rfl
  have hD : va_D A (wAll E o ad wm st gr co hb_ (nI mo) ga ca ha_ (nI ma) sd tk op sp rc rn wa) := hD.sub [0, 1, 2, 3, 4, 5, 6, 7, 8, 9, 10, 11, 12, 13, 14, 15, 16, 17, 18, 19] (by decide) rfl
  exact e_outX hQ ht hlocks hP hS hcell hvm hcl (Nat.le_of_ble_eq_true rfl) (Nat.le_of_ble_eq_true rfl)

abbrev rm_X4_plant_b2 : Room := { frames := 7, cells := 1, slots := 6, locals := 104 }
set_option maxHeartbeats 4000000 in
set_option maxRecDepth 100000 in
theorem c_X4_plant_b2 (l : Launch) (hlt : l.stackTraces = false) (E : eT) (sz : Nat) (o : Nat) (ad : Nat → Nat) (wm : Nat → Int32) (st : Nat → Int32) (gr : Nat → Int32) (co : Nat → Int32) (hb_ : Nat → Bool) (mo : Nat) (ga : Nat → Int32) (ca : Nat → Int32) (ha_ : Nat → Bool) (ma : Nat) (sd : Nat → Int32) (tk : Nat → Int32) (op : Nat → Bool) (sp : Nat → Nat) (rc : Nat → Nat) (rn : Nat) (wa : Nat → Int32) (X : Nat) (Y : Nat) (v : Int32) (hX : X < 9) (hY : Y < 9) (hv : isInB v (nI 0) (gr ((9 * Y) + X)) = false) : cX l yX4_plant wsX4_plant rm_X4_plant_b2 E sz [.ref o, .int (nI X), .int (nI Y), .int v] (wAll E o ad wm st gr co hb_ (nI mo) ga ca ha_ (nI ma) sd tk op sp rc rn wa) nX2 := by
  refine cX_intro (cc := cX4_plant) (maxL := 4) (ret := (some .int)) (by decide +kernel) rfl (Nat.le_of_ble_eq_true rfl) ?_
  intro p e s m args below meth cd hx hb hr hml hown hlocks hts hnm ht hK hsz hP A hD hA hX Q hQ ls hl
  have hown : s.vm.findClass RX4 = some m.cls := hown
  have hin4 : ∀ w ∈ u_ws RX4 TX4 6, w ∈ wsX4_plant := by decide +kernel
  have lk19 := hts (.fieldLink RX4 19 "ReefPilot" "coast" "LReefPilot$Coast;") (by decide +kernel)
  have hS : va_S A s.heap s.heap [] := va_S.rf
  have hl : lv_has ls 4 [(0, .ref o), (1, .int (nI X)), (2, .int (nI Y)), (3, .int v)] := hl
  refine lv_iload_n hx hb dX4_plant_0 rfl (lv_at hl 1 rfl) ?_
  refine lv_iload_n hx hb dX4_plant_1 rfl (lv_at hl 2 rfl) ?_
  refine e_callS (As := [.int (nI X), .int (nI Y)]) (rest := []) ⟨hx, hb, hml, hown, hts⟩ hK hP hD hS hA hl.1 (c_X4_needCell l E _ X Y (by first | omega | assumption | rfl | (simp_all; done)) (by first | omega | assumption | rfl | (simp_all; done))) (va_cwS 2 hts gX4_plant_X4_needCell rfl rfl rfl (by decide +kernel) ⟨Nat.le_of_ble_eq_true rfl, Nat.le_of_ble_eq_true rfl⟩) [] [0, 1, 2, 3, 4, 5, 6, 7, 8, 9, 10, 11, 12, 13, 14, 15, 16, 17, 18, 19] rfl rfl rfl rfl (by decide) rfl rfl (Nat.le_of_ble_eq_true rfl) dX4_plant_2 ⟨Nat.le_of_ble_eq_true rfl, Nat.le_of_ble_eq_true rfl⟩ (fun u_1 H locs hu_2 hsz1 hP hD hS => ?_)
  have hP : va_P E.1 vwCl (wAll E o ad wm st gr co hb_ (nI mo) ga ca ha_ (nI ma) sd tk op sp rc rn wa) H := hP.sub [0, 1, 2, 3, 4, 5, 6, 7, 8, 9, 10, 11, 12, 13, 14, 15, 16, 17, 18, 19] rfl
  have hD : va_D A (wAll E o ad wm st gr co hb_ (nI mo) ga ca ha_ (nI ma) sd tk op sp rc rn wa) := hD.sub [0, 1, 2, 3, 4, 5, 6, 7, 8, 9, 10, 11, 12, 13, 14, 15, 16, 17, 18, 19] (by decide) rfl
  refine W.eq (g2 := F0 m 5 ls []) rfl ?_
  refine lv_iload_n hx hb dX4_plant_5 rfl (lv_at hl 3 rfl) ?_
  refine lv_iconst (v := nI 0) hx hb dX4_plant_6 (by decide +kernel) ?_
  refine lv_aload_n hx hb dX4_plant_7 rfl (lv_at hl 0 rfl) ?_
  refine va_get (D := E.1) (ci := 4) (v := .ref (ad 3)) (C := RX4) (T := TX4) (N := 6) hx hb hts hin4 hown hK.1 hP 0 rfl rfl 1 (by decide) lk19 (fun _ h9 => h9) rfl dX4_plant_8 ?_
  refine lv_bipush (v := nI 9) hx hb dX4_plant_11 (by decide +kernel) ?_
  refine lv_iload_n hx hb dX4_plant_13 rfl (lv_at hl 2 rfl) ?_
  refine lv_imul hx hb dX4_plant_14 ?_
  refine e_top (pk_mul _ _) ?_
  refine lv_iload_n hx hb dX4_plant_15 rfl (lv_at hl 1 rfl) ?_
  refine lv_iadd hx hb dX4_plant_16 ?_
  refine e_top (nI_add _ _) ?_
  refine e_callV (As := [.int (nI ((9 * Y) + X))]) (rest := [.int (nI 0), .int v]) ⟨hx, hb, hml, hown, hts⟩ hK hP hD hS hA hl.1 (c_X0_groundOf l E _ (ad 3) (ad 4) (ad 5) (ad 6) gr co hb_ (nI mo) ((9 * Y) + X) (by first | omega | assumption | rfl | (simp_all; done))) (cwV 1 hts gX4_plant_X0_groundOf rfl rfl rfl (by decide +kernel) ⟨Nat.le_of_ble_eq_true rfl, Nat.le_of_ble_eq_true rfl⟩) [4, 5, 6, 7] [0, 1, 2, 3, 8, 9, 10, 11, 12, 13, 14, 15, 16, 17, 18, 19] rfl rfl rfl rfl (by decide) (q0 := 4) (ci := 0) rfl rfl rfl rfl (Nat.le_of_ble_eq_true rfl) dX4_plant_17 ⟨Nat.le_of_ble_eq_true rfl, Nat.le_of_ble_eq_true rfl⟩ (fun u_3 H locs hu_4 hsz1 hP hD hS => ?_)
  have hP : va_P E.1 vwCl (wAll E o ad wm st gr co hb_ (nI mo) ga ca ha_ (nI ma) sd tk op sp rc rn wa) H := hP.sub [0, 1, 2, 3, 16, 17, 18, 19, 4, 5, 6, 7, 8, 9, 10, 11, 12, 13, 14, 15] rfl
  have hD : va_D A (wAll E o ad wm st gr co hb_ (nI mo) ga ca ha_ (nI ma) sd tk op sp rc rn wa) := hD.sub [0, 1, 2, 3, 16, 17, 18, 19, 4, 5, 6, 7, 8, 9, 10, 11, 12, 13, 14, 15] (by decide) rfl
  refine W.eq (g2 := F0 m 20 ls [.int (gr ((9 * Y) + X)), .int (nI 0), .int v]) rfl ?_
  refine e_callSX (As := [.int v, .int (nI 0), .int (gr ((9 * Y) + X))]) (rest := []) ⟨hx, hb, hml, hown, hts⟩ hK hX hP hD hS hA hl.1 (c_X4_needWithin_t l hlt E _ v (nI 0) (gr ((9 * Y) + X)) (by first | omega | assumption | rfl | (simp_all; done))) (va_cwS 3 hts gX4_plant_X4_needWithin rfl rfl rfl (by decide +kernel) ⟨Nat.le_of_ble_eq_true rfl, Nat.le_of_ble_eq_true rfl⟩) [] [0, 1, 2, 3, 4, 5, 6, 7, 8, 9, 10, 11, 12, 13, 14, 15, 16, 17, 18, 19] rfl rfl rfl rfl (by decide) rfl rfl (Nat.le_of_ble_eq_true rfl) dX4_plant_20 ⟨Nat.le_of_ble_eq_true rfl, Nat.le_of_ble_eq_true rfl⟩ (fun ce q9 H locs hsz1 hP hD hS hcell hvm hcl => ?_)
  have hP : va_P E.1 vwCl (wAll E o ad wm st gr co hb_ (nI mo) ga ca ha_ (nI ma) sd tk op sp rc rn wa) H := hP.sub [0, 1, 2, 3, 4, 5, 6, 7, 8, 9, 10, 11, 12, 13, 14, 15, 16, 17, 18, 19] rfl
  have hD : va_D A (wAll E o ad wm st gr co hb_ (nI mo) ga ca ha_ (nI ma) sd tk op sp rc rn wa) := hD.sub [0, 1, 2, 3, 4, 5, 6, 7, 8, 9, 10, 11, 12, 13, 14, 15, 16, 17, 18, 19] (by decide) rfl
  exact e_outX hQ ht hlocks hP hS hcell hvm hcl (Nat.le_of_ble_eq_true rfl) (Nat.le_of_ble_eq_true rfl)

abbrev rm_X4_setMonth : Room := { frames := 1, cells := 0, slots := 0, locals := 23 }
set_option maxHeartbeats 4000000 in
set_option maxRecDepth 100000 in
theorem c_X4_setMonth (l : Launch) (E : eT) (sz : Nat) (o : Nat) (ad : Nat → Nat) (wm : Nat → Int32) (st : Nat → Int32) (gr : Nat → Int32) (co : Nat → Int32) (hb_ : Nat → Bool) (mo : Nat) (ga : Nat → Int32) (ca : Nat → Int32) (ha_ : Nat → Bool) (ma : Nat) (sd : Nat → Int32) (tk : Nat → Int32) (op : Nat → Bool) (sp : Nat → Nat) (rc : Nat → Nat) (rn : Nat) (wa : Nat → Int32) (M : Nat) (v : Int32) (u_ : Int32) (hM : M < 12) (hv : isInB v (nI 0) (nI 9) = true) (hu : isInB u_ (nI 0) (nI 9) = true) : cM l yX4_setMonth wsX4_setMonth rm_X4_setMonth E sz [.ref o, .int (nI M), .int v, .int u_] (wAll E o ad wm st gr co hb_ (nI mo) ga ca ha_ (nI ma) sd tk op sp rc rn wa) (fun u : Unit => some (.int (nI 10 * wm M + st M))) (fun u : Unit => True) (fun u : Unit => wAll E o ad (upd wm M v) (upd st M u_) gr co hb_ (nI mo) ga ca ha_ (nI ma) sd tk op sp rc rn wa) := by
  refine cM_intro (cc := cX4_setMonth) (maxL := 5) (ret := (some .int)) (by decide +kernel) rfl (Nat.le_of_ble_eq_true rfl) ?_
  intro p e s m args below meth cd hx hb hr hml hown hlocks hts hnm hK hsz hP A hD hA Q hQ ls hl
  have hown : s.vm.findClass RX4 = some m.cls := hown
  have hin4 : ∀ w ∈ u_ws RX4 TX4 6, w ∈ wsX4_setMonth := by decide +kernel
  have lk12 := hts (.fieldLink RX4 12 "ReefPilot" "table" "LReefPilot$Table;") (by decide +kernel)
  have hS : va_S A s.heap s.heap [] := va_S.rf
  have hl : lv_has ls 5 [(0, .ref o), (1, .int (nI M)), (2, .int v), (3, .int u_)] := hl
  refine lv_iload_n hx hb dX4_setMonth_0 rfl (lv_at hl 1 rfl) ?_
  refine lv_bipush (v := nI 12) hx hb dX4_setMonth_1 (by decide +kernel) ?_
  refine e_callS (As := [.int (nI M), .int (nI 12)]) (rest := []) ⟨hx, hb, hml, hown, hts⟩ hK hP hD hS hA hl.1 (c_X4_needIndex l E _ M 12 (by first | omega | assumption | rfl | (simp_all; done)) (by first | omega | assumption | rfl | (simp_all; done))) (va_cwS 2 hts gX4_setMonth_X4_needIndex rfl rfl rfl (by decide +kernel) ⟨Nat.le_of_ble_eq_true rfl, Nat.le_of_ble_eq_true rfl⟩) [] [0, 1, 2, 3, 4, 5, 6, 7, 8, 9, 10, 11, 12, 13, 14, 15, 16, 17, 18, 19] rfl rfl rfl rfl (by decide) rfl rfl (Nat.le_of_ble_eq_true rfl) dX4_setMonth_3 ⟨Nat.le_of_ble_eq_true rfl, Nat.le_of_ble_eq_true rfl⟩ (fun u_1 H locs hu_2 hsz1 hP hD hS => ?_)
  have hP : va_P E.1 vwCl (wAll E o ad wm st gr co hb_ (nI mo) ga ca ha_ (nI ma) sd tk op sp rc rn wa) H := hP.sub [0, 1, 2, 3, 4, 5, 6, 7, 8, 9, 10, 11, 12, 13, 14, 15, 16, 17, 18, 19] rfl
  have hD : va_D A (wAll E o ad wm st gr co hb_ (nI mo) ga ca ha_ (nI ma) sd tk op sp rc rn wa) := hD.sub [0, 1, 2, 3, 4, 5, 6, 7, 8, 9, 10, 11, 12, 13, 14, 15, 16, 17, 18, 19] (by decide) rfl
  refine W.eq (g2 := F0 m 6 ls []) rfl ?_
  refine lv_iload_n hx hb dX4_setMonth_6 rfl (lv_at hl 2 rfl) ?_
  refine lv_iconst (v := nI 0) hx hb dX4_setMonth_7 (by decide +kernel) ?_
  refine lv_bipush (v := nI 9) hx hb dX4_setMonth_8 (by decide +kernel) ?_
  refine e_callS (As := [.int v, .int (nI 0), .int (nI 9)]) (rest := []) ⟨hx, hb, hml, hown, hts⟩ hK hP hD hS hA hl.1 (c_X4_needWithin l E _ v (nI 0) (nI 9) (by first | omega | assumption | rfl | (simp_all; done))) (va_cwS 3 hts gX4_setMonth_X4_needWithin rfl rfl rfl (by decide +kernel) ⟨Nat.le_of_ble_eq_true rfl, Nat.le_of_ble_eq_true rfl⟩) [] [0, 1, 2, 3, 4, 5, 6, 7, 8, 9, 10, 11, 12, 13, 14, 15, 16, 17, 18, 19] rfl rfl rfl rfl (by decide) rfl rfl (Nat.le_of_ble_eq_true rfl) dX4_setMonth_10 ⟨Nat.le_of_ble_eq_true rfl, Nat.le_of_ble_eq_true rfl⟩ (fun u_3 H locs hu_4 hsz1 hP hD hS => ?_)
  have hP : va_P E.1 vwCl (wAll E o ad wm st gr co hb_ (nI mo) ga ca ha_ (nI ma) sd tk op sp rc rn wa) H := hP.sub [0, 1, 2, 3, 4, 5, 6, 7, 8, 9, 10, 11, 12, 13, 14, 15, 16, 17, 18, 19] rfl
  have hD : va_D A (wAll E o ad wm st gr co hb_ (nI mo) ga ca ha_ (nI ma) sd tk op sp rc rn wa) := hD.sub [0, 1, 2, 3, 4, 5, 6, 7, 8, 9, 10, 11, 12, 13, 14, 15, 16, 17, 18, 19] (by decide) rfl
  refine W.eq (g2 := F0 m 13 ls []) rfl ?_
  refine lv_iload_n hx hb dX4_setMonth_13 rfl (lv_at hl 3 rfl) ?_
  refine lv_iconst (v := nI 0) hx hb dX4_setMonth_14 (by decide +kernel) ?_
  refine lv_bipush (v := nI 9) hx hb dX4_setMonth_15 (by decide +kernel) ?_
  refine e_callS (As := [.int u_, .int (nI 0), .int (nI 9)]) (rest := []) ⟨hx, hb, hml, hown, hts⟩ hK hP hD hS hA hl.1 (c_X4_needWithin l E _ u_ (nI 0) (nI 9) (by first | omega | assumption | rfl | (simp_all; done))) (va_cwS 3 hts gX4_setMonth_X4_needWithin rfl rfl rfl (by decide +kernel) ⟨Nat.le_of_ble_eq_true rfl, Nat.le_of_ble_eq_true rfl⟩) [] [0, 1, 2, 3, 4, 5, 6, 7, 8, 9, 10, 11, 12, 13, 14, 15, 16, 17, 18, 19] rfl rfl rfl rfl (by decide) rfl rfl (Nat.le_of_ble_eq_true rfl) dX4_setMonth_17 ⟨Nat.le_of_ble_eq_true rfl, Nat.le_of_ble_eq_true rfl⟩ (fun u_5 H locs hu_6 hsz1 hP hD hS => ?_)
  have hP : va_P E.1 vwCl (wAll E o ad wm st gr co hb_ (nI mo) ga ca ha_ (nI ma) sd tk op sp rc rn wa) H := hP.sub [0, 1, 2, 3, 4, 5, 6, 7, 8, 9, 10, 11, 12, 13, 14, 15, 16, 17, 18, 19] rfl
  have hD : va_D A (wAll E o ad wm st gr co hb_ (nI mo) ga ca ha_ (nI ma) sd tk op sp rc rn wa) := hD.sub [0, 1, 2, 3, 4, 5, 6, 7, 8, 9, 10, 11, 12, 13, 14, 15, 16, 17, 18, 19] (by decide) rfl
  refine W.eq (g2 := F0 m 20 ls []) rfl ?_
  refine lv_aload_n hx hb dX4_setMonth_20 rfl (lv_at hl 0 rfl) ?_
  refine va_get (D := E.1) (ci := 4) (v := .ref (ad 0)) (C := RX4) (T := TX4) (N := 6) hx hb hts hin4 hown hK.1 hP 0 rfl rfl 0 (by decide) lk12 (fun _ h9 => h9) rfl dX4_setMonth_21 ?_
  refine lv_iload_n hx hb dX4_setMonth_24 rfl (lv_at hl 1 rfl) ?_
  refine e_callV (As := [.int (nI M)]) (rest := []) ⟨hx, hb, hml, hown, hts⟩ hK hP hD hS hA hl.1 (c_X3_entry l E _ (ad 0) (ad 1) (ad 2) wm st M (by first | omega | assumption | rfl | (simp_all; done))) (cwV 1 hts gX4_setMonth_X3_entry rfl rfl rfl (by decide +kernel) ⟨Nat.le_of_ble_eq_true rfl, Nat.le_of_ble_eq_true rfl⟩) [1, 2, 3] [0, 4, 5, 6, 7, 8, 9, 10, 11, 12, 13, 14, 15, 16, 17, 18, 19] rfl rfl rfl rfl (by decide) (q0 := 1) (ci := 3) rfl rfl rfl rfl (Nat.le_of_ble_eq_true rfl) dX4_setMonth_25 ⟨Nat.le_of_ble_eq_true rfl, Nat.le_of_ble_eq_true rfl⟩ (fun u_7 H locs hu_8 hsz1 hP hD hS => ?_)
  have hP : va_P E.1 vwCl (wAll E o ad wm st gr co hb_ (nI mo) ga ca ha_ (nI ma) sd tk op sp rc rn wa) H := hP.sub [0, 17, 18, 19, 1, 2, 3, 4, 5, 6, 7, 8, 9, 10, 11, 12, 13, 14, 15, 16] rfl
  have hD : va_D A (wAll E o ad wm st gr co hb_ (nI mo) ga ca ha_ (nI ma) sd tk op sp rc rn wa) := hD.sub [0, 17, 18, 19, 1, 2, 3, 4, 5, 6, 7, 8, 9, 10, 11, 12, 13, 14, 15, 16] (by decide) rfl
  refine W.eq (g2 := F0 m 28 ls [.int (nI 10 * wm M + st M)]) rfl ?_
  refine lv_istore (lv' := [(4, .int (nI 10 * wm M + st M)), (0, .ref o), (1, .int (nI M)), (2, .int v), (3, .int u_)]) hx hb dX4_setMonth_28 hl (by decide) rfl (fun ls hl => ?_)
  refine lv_aload_n hx hb dX4_setMonth_30 rfl (lv_at hl 1 rfl) ?_
  refine va_get (D := E.1) (ci := 4) (v := .ref (ad 0)) (C := RX4) (T := TX4) (N := 6) hx hb hts hin4 hown hK.1 hP 0 rfl rfl 0 (by decide) lk12 (fun _ h9 => h9) rfl dX4_setMonth_31 ?_
  refine lv_iload_n hx hb dX4_setMonth_34 rfl (lv_at hl 2 rfl) ?_
  refine lv_iload_n hx hb dX4_setMonth_35 rfl (lv_at hl 3 rfl) ?_
  refine lv_iload_n hx hb dX4_setMonth_36 rfl (lv_at hl 4 rfl) ?_
  refine e_callV (As := [.int (nI M), .int v, .int u_]) (rest := []) ⟨hx, hb, hml, hown, hts⟩ hK hP hD hS hA hl.1 (c_X3_write l E _ (ad 0) (ad 1) (ad 2) wm st M v u_ (by first | omega | assumption | rfl | (simp_all; done))) (cwV 3 hts gX4_setMonth_X3_write rfl rfl rfl (by decide +kernel) ⟨Nat.le_of_ble_eq_true rfl, Nat.le_of_ble_eq_true rfl⟩) [1, 2, 3] [0, 4, 5, 6, 7, 8, 9, 10, 11, 12, 13, 14, 15, 16, 17, 18, 19] rfl rfl rfl rfl (by decide) (q0 := 1) (ci := 3) rfl rfl rfl rfl (Nat.le_of_ble_eq_true rfl) dX4_setMonth_37 ⟨Nat.le_of_ble_eq_true rfl, Nat.le_of_ble_eq_true rfl⟩ (fun u_9 H locs hu_10 hsz1 hP hD hS => ?_)
  have hP : va_P E.1 vwCl (wAll E o ad (upd wm M v) (upd st M u_) gr co hb_ (nI mo) ga ca ha_ (nI ma) sd tk op sp rc rn wa) H := hP.sub [0, 17, 18, 19, 1, 2, 3, 4, 5, 6, 7, 8, 9, 10, 11, 12, 13, 14, 15, 16] rfl
  have hD : va_D A (wAll E o ad (upd wm M v) (upd st M u_) gr co hb_ (nI mo) ga ca ha_ (nI ma) sd tk op sp rc rn wa) := hD.sub [0, 17, 18, 19, 1, 2, 3, 4, 5, 6, 7, 8, 9, 10, 11, 12, 13, 14, 15, 16] (by decide) rfl
  refine W.eq (g2 := F0 m 40 ls []) rfl ?_
  refine lv_iload hx hb dX4_setMonth_40 (lv_at hl 0 rfl) ?_
  exact e_iret () hQ hx hb hr hlocks hP hD hS dX4_setMonth_42 (rfl) (Nat.le_of_ble_eq_true rfl) (Nat.le_of_ble_eq_true rfl) (trivial)

abbrev rm_X4_setMonth_b1 : Room := { frames := 7, cells := 1, slots := 6, locals := 103 }
set_option maxHeartbeats 4000000 in
set_option maxRecDepth 100000 in
theorem c_X4_setMonth_b1 (l : Launch) (hlt : l.stackTraces = false) (E : eT) (sz : Nat) (o : Nat) (ad : Nat → Nat) (wm : Nat → Int32) (st : Nat → Int32) (gr : Nat → Int32) (co : Nat → Int32) (hb_ : Nat → Bool) (mo : Nat) (ga : Nat → Int32) (ca : Nat → Int32) (ha_ : Nat → Bool) (ma : Nat) (sd : Nat → Int32) (tk : Nat → Int32) (op : Nat → Bool) (sp : Nat → Nat) (rc : Nat → Nat) (rn : Nat) (wa : Nat → Int32) (x : Int32) (v : Int32) (u_ : Int32) (hc : isInB x (nI 0) (nI 11) = false) : cX l yX4_setMonth wsX4_setMonth rm_X4_setMonth_b1 E sz [.ref o, .int x, .int v, .int u_] (wAll E o ad wm st gr co hb_ (nI mo) ga ca ha_ (nI ma) sd tk op sp rc rn wa) nX1 := by
  refine cX_intro (cc := cX4_setMonth) (maxL := 5) (ret := (some .int)) (by decide +kernel) rfl (Nat.le_of_ble_eq_true rfl) ?_
  intro p e s m args below meth cd hx hb hr hml hown hlocks hts hnm ht hK hsz hP A hD hA hX Q hQ ls hl
  have hown : s.vm.findClass RX4 = some m.cls := hown
  have hS : va_S A s.heap s.heap [] := va_S.rf
  have hl : lv_has ls 5 [(0, .ref o), (1, .int x), (2, .int v), (3, .int u_)] := hl
  refine lv_iload_n hx hb dX4_setMonth_0 rfl (lv_at hl 1 rfl) ?_
  refine lv_bipush (v := nI 12) hx hb dX4_setMonth_1 (by decide +kernel) ?_
  refine e_callSX (As := [.int x, .int (nI 12)]) (rest := []) ⟨hx, hb, hml, hown, hts⟩ hK hX hP hD hS hA hl.1 (c_X4_needIndex_t l hlt E _ x 12 (hc) (by first | omega | assumption | rfl | (simp_all; done)) (by first | omega | assumption | rfl | (simp_all; done))) (va_cwS 2 hts gX4_setMonth_X4_needIndex rfl rfl rfl (by decide +kernel) ⟨Nat.le_of_ble_eq_true rfl, Nat.le_of_ble_eq_true rfl⟩) [] [0, 1, 2, 3, 4, 5, 6, 7, 8, 9, 10, 11, 12, 13, 14, 15, 16, 17, 18, 19] rfl rfl rfl rfl (by decide) rfl rfl (Nat.le_of_ble_eq_true rfl) dX4_setMonth_3 ⟨Nat.le_of_ble_eq_true rfl, Nat.le_of_ble_eq_true rfl⟩ (fun ce q9 H locs hsz1 hP hD hS hcell hvm hcl => ?_)
  have hP : va_P E.1 vwCl (wAll E o ad wm st gr co hb_ (nI mo) ga ca ha_ (nI ma) sd tk op sp rc rn wa) H := hP.sub [0, 1, 2, 3, 4, 5, 6, 7, 8, 9, 10, 11, 12, 13, 14, 15, 16, 17, 18, 19] rfl
  have hD : va_D A (wAll E o ad wm st gr co hb_ (nI mo) ga ca ha_ (nI ma) sd tk op sp rc rn wa) := hD.sub [0, 1, 2, 3, 4, 5, 6, 7, 8, 9, 10, 11, 12, 13, 14, 15, 16, 17, 18, 19] (by decide) rfl
  exact e_outX hQ ht hlocks hP hS hcell hvm hcl (Nat.le_of_ble_eq_true rfl) (Nat.le_of_ble_eq_true rfl)

abbrev rm_X4_setMonth_b2 : Room := { frames := 7, cells := 1, slots := 6, locals := 104 }
set_option maxHeartbeats 4000000 in
set_option maxRecDepth 100000 in
theorem c_X4_setMonth_b2 (l : Launch) (hlt : l.stackTraces = false) (E : eT) (sz : Nat) (o : Nat) (ad : Nat → Nat) (wm : Nat → Int32) (st : Nat → Int32) (gr : Nat → Int32) (co : Nat → Int32) (hb_ : Nat → Bool) (mo : Nat) (ga : Nat → Int32) (ca : Nat → Int32) (ha_ : Nat → Bool) (ma : Nat) (sd : Nat → Int32) (tk : Nat → Int32) (op : Nat → Bool) (sp : Nat → Nat) (rc : Nat → Nat) (rn : Nat) (wa : Nat → Int32) (M : Nat) (v : Int32) (u_ : Int32) (hM : M < 12) (hv : isInB v (nI 0) (nI 9) = false) : cX l yX4_setMonth wsX4_setMonth rm_X4_setMonth_b2 E sz [.ref o, .int (nI M), .int v, .int u_] (wAll E o ad wm st gr co hb_ (nI mo) ga ca ha_ (nI ma) sd tk op sp rc rn wa) nX2 := by
  refine cX_intro (cc := cX4_setMonth) (maxL := 5) (ret := (some .int)) (by decide +kernel) rfl (Nat.le_of_ble_eq_true rfl) ?_
  intro p e s m args below meth cd hx hb hr hml hown hlocks hts hnm ht hK hsz hP A hD hA hX Q hQ ls hl
  have hown : s.vm.findClass RX4 = some m.cls := hown
  have hS : va_S A s.heap s.heap [] := va_S.rf
  have hl : lv_has ls 5 [(0, .ref o), (1, .int (nI M)), (2, .int v), (3, .int u_)] := hl
  refine lv_iload_n hx hb dX4_setMonth_0 rfl (lv_at hl 1 rfl) ?_
  refine lv_bipush (v := nI 12) hx hb dX4_setMonth_1 (by decide +kernel) ?_
  refine e_callS (As := [.int (nI M), .int (nI 12)]) (rest := []) ⟨hx, hb, hml, hown, hts⟩ hK hP hD hS hA hl.1 (c_X4_needIndex l E _ M 12 (by first | omega | assumption | rfl | (simp_all; done)) (by first | omega | assumption | rfl | (simp_all; done))) (va_cwS 2 hts gX4_setMonth_X4_needIndex rfl rfl rfl (by decide +kernel) ⟨Nat.le_of_ble_eq_true rfl, Nat.le_of_ble_eq_true rfl⟩) [] [0, 1, 2, 3, 4, 5, 6, 7, 8, 9, 10, 11, 12, 13, 14, 15, 16, 17, 18, 19] rfl rfl rfl rfl (by decide) rfl rfl (Nat.le_of_ble_eq_true rfl) dX4_setMonth_3 ⟨Nat.le_of_ble_eq_true rfl, Nat.le_of_ble_eq_true rfl⟩ (fun u_1 H locs hu_2 hsz1 hP hD hS => ?_)
  have hP : va_P E.1 vwCl (wAll E o ad wm st gr co hb_ (nI mo) ga ca ha_ (nI ma) sd tk op sp rc rn wa) H := hP.sub [0, 1, 2, 3, 4, 5, 6, 7, 8, 9, 10, 11, 12, 13, 14, 15, 16, 17, 18, 19] rfl
  have hD : va_D A (wAll E o ad wm st gr co hb_ (nI mo) ga ca ha_ (nI ma) sd tk op sp rc rn wa) := hD.sub [0, 1, 2, 3, 4, 5, 6, 7, 8, 9, 10, 11, 12, 13, 14, 15, 16, 17, 18, 19] (by decide) rfl
  refine W.eq (g2 := F0 m 6 ls []) rfl ?_
  refine lv_iload_n hx hb dX4_setMonth_6 rfl (lv_at hl 2 rfl) ?_
  refine lv_iconst (v := nI 0) hx hb dX4_setMonth_7 (by decide +kernel) ?_
  refine lv_bipush (v := nI 9) hx hb dX4_setMonth_8 (by decide +kernel) ?_
  refine e_callSX (As := [.int v, .int (nI 0), .int (nI 9)]) (rest := []) ⟨hx, hb, hml, hown, hts⟩ hK hX hP hD hS hA hl.1 (c_X4_needWithin_t l hlt E _ v (nI 0) (nI 9) (by first | omega | assumption | rfl | (simp_all; done))) (va_cwS 3 hts gX4_setMonth_X4_needWithin rfl rfl rfl (by decide +kernel) ⟨Nat.le_of_ble_eq_true rfl, Nat.le_of_ble_eq_true rfl⟩) [] [0, 1, 2, 3, 4, 5, 6, 7, 8, 9, 10, 11, 12, 13, 14, 15, 16, 17, 18, 19] rfl rfl rfl rfl (by decide) rfl rfl (Nat.le_of_ble_eq_true rfl) dX4_setMonth_10 ⟨Nat.le_of_ble_eq_true rfl, Nat.le_of_ble_eq_true rfl⟩ (fun ce q9 H locs hsz1 hP hD hS hcell hvm hcl => ?_)
  have hP : va_P E.1 vwCl (wAll E o ad wm st gr co hb_ (nI mo) ga ca ha_ (nI ma) sd tk op sp rc rn wa) H := hP.sub [0, 1, 2, 3, 4, 5, 6, 7, 8, 9, 10, 11, 12, 13, 14, 15, 16, 17, 18, 19] rfl
  have hD : va_D A (wAll E o ad wm st gr co hb_ (nI mo) ga ca ha_ (nI ma) sd tk op sp rc rn wa) := hD.sub [0, 1, 2, 3, 4, 5, 6, 7, 8, 9, 10, 11, 12, 13, 14, 15, 16, 17, 18, 19] (by decide) rfl
  exact e_outX hQ ht hlocks hP hS hcell hvm hcl (Nat.le_of_ble_eq_true rfl) (Nat.le_of_ble_eq_true rfl)

abbrev rm_X4_setMonth_b3 : Room := { frames := 7, cells := 1, slots := 6, locals := 104 }
set_option maxHeartbeats 4000000 in
set_option maxRecDepth 100000 in
theorem c_X4_setMonth_b3 (l : Launch) (hlt : l.stackTraces = false) (E : eT) (sz : Nat) (o : Nat) (ad : Nat → Nat) (wm : Nat → Int32) (st : Nat → Int32) (gr : Nat → Int32) (co : Nat → Int32) (hb_ : Nat → Bool) (mo : Nat) (ga : Nat → Int32) (ca : Nat → Int32) (ha_ : Nat → Bool) (ma : Nat) (sd : Nat → Int32) (tk : Nat → Int32) (op : Nat → Bool) (sp : Nat → Nat) (rc : Nat → Nat) (rn : Nat) (wa : Nat → Int32) (M : Nat) (v : Int32) (u_ : Int32) (hM : M < 12) (hv : isInB v (nI 0) (nI 9) = true) (hu : isInB u_ (nI 0) (nI 9) = false) : cX l yX4_setMonth wsX4_setMonth rm_X4_setMonth_b3 E sz [.ref o, .int (nI M), .int v, .int u_] (wAll E o ad wm st gr co hb_ (nI mo) ga ca ha_ (nI ma) sd tk op sp rc rn wa) nX2 := by
  refine cX_intro (cc := cX4_setMonth) (maxL := 5) (ret := (some .int)) (by decide +kernel) rfl (Nat.le_of_ble_eq_true rfl) ?_
  intro p e s m args below meth cd hx hb hr hml hown hlocks hts hnm ht hK hsz hP A hD hA hX Q hQ ls hl
  have hown : s.vm.findClass RX4 = some m.cls := hown
  have hS : va_S A s.heap s.heap [] := va_S.rf
  have hl : lv_has ls 5 [(0, .ref o), (1, .int (nI M)), (2, .int v), (3, .int u_)] := hl
  refine lv_iload_n hx hb dX4_setMonth_0 rfl (lv_at hl 1 rfl) ?_
  refine lv_bipush (v := nI 12) hx hb dX4_setMonth_1 (by decide +kernel) ?_
  refine e_callS (As := [.int (nI M), .int (nI 12)]) (rest := []) ⟨hx, hb, hml, hown, hts⟩ hK hP hD hS hA hl.1 (c_X4_needIndex l E _ M 12 (by first | omega | assumption | rfl | (simp_all; done)) (by first | omega | assumption | rfl | (simp_all; done))) (va_cwS 2 hts gX4_setMonth_X4_needIndex rfl rfl rfl (by decide +kernel) ⟨Nat.le_of_ble_eq_true rfl, Nat.le_of_ble_eq_true rfl⟩) [] [0, 1, 2, 3, 4, 5, 6, 7, 8, 9, 10, 11, 12, 13, 14, 15, 16, 17, 18, 19] rfl rfl rfl rfl (by decide) rfl rfl (Nat.le_of_ble_eq_true rfl) dX4_setMonth_3 ⟨Nat.le_of_ble_eq_true rfl, Nat.le_of_ble_eq_true rfl⟩ (fun u_1 H locs hu_2 hsz1 hP hD hS => ?_)
  have hP : va_P E.1 vwCl (wAll E o ad wm st gr co hb_ (nI mo) ga ca ha_ (nI ma) sd tk op sp rc rn wa) H := hP.sub [0, 1, 2, 3, 4, 5, 6, 7, 8, 9, 10, 11, 12, 13, 14, 15, 16, 17, 18, 19] rfl
  have hD : va_D A (wAll E o ad wm st gr co hb_ (nI mo) ga ca ha_ (nI ma) sd tk op sp rc rn wa) := hD.sub [0, 1, 2, 3, 4, 5, 6, 7, 8, 9, 10, 11, 12, 13, 14, 15, 16, 17, 18, 19] (by decide) rfl
  refine W.eq (g2 := F0 m 6 ls []) rfl ?_
  refine lv_iload_n hx hb dX4_setMonth_6 rfl (lv_at hl 2 rfl) ?_
  refine lv_iconst (v := nI 0) hx hb dX4_setMonth_7 (by decide +kernel) ?_
  refine lv_bipush (v := nI 9) hx hb dX4_setMonth_8 (by decide +kernel) ?_
  refine e_callS (As := [.int v, .int (nI 0), .int (nI 9)]) (rest := []) ⟨hx, hb, hml, hown, hts⟩ hK hP hD hS hA hl.1 (c_X4_needWithin l E _ v (nI 0) (nI 9) (by first | omega | assumption | rfl | (simp_all; done))) (va_cwS 3 hts gX4_setMonth_X4_needWithin rfl rfl rfl (by decide +kernel) ⟨Nat.le_of_ble_eq_true rfl, Nat.le_of_ble_eq_true rfl⟩) [] [0, 1, 2, 3, 4, 5, 6, 7, 8, 9, 10, 11, 12, 13, 14, 15, 16, 17, 18, 19] rfl rfl rfl rfl (by decide) rfl rfl (Nat.le_of_ble_eq_true rfl) dX4_setMonth_10 ⟨Nat.le_of_ble_eq_true rfl, Nat.le_of_ble_eq_true rfl⟩ (fun u_3 H locs hu_4 hsz1 hP hD hS => ?_)
  have hP : va_P E.1 vwCl (wAll E o ad wm st gr co hb_ (nI mo) ga ca ha_ (nI ma) sd tk op sp rc rn wa) H := hP.sub [0, 1, 2, 3, 4, 5, 6, 7, 8, 9, 10, 11, 12, 13, 14, 15, 16, 17, 18, 19] rfl
  have hD : va_D A (wAll E o ad wm st gr co hb_ (nI mo) ga ca ha_ (nI ma) sd tk op sp rc rn wa) := hD.sub [0, 1, 2, 3, 4, 5, 6, 7, 8, 9, 10, 11, 12, 13, 14, 15, 16, 17, 18, 19] (by decide) rfl
  refine W.eq (g2 := F0 m 13 ls []) rfl ?_
  refine lv_iload_n hx hb dX4_setMonth_13 rfl (lv_at hl 3 rfl) ?_
  refine lv_iconst (v := nI 0) hx hb dX4_setMonth_14 (by decide +kernel) ?_
  refine lv_bipush (v := nI 9) hx hb dX4_setMonth_15 (by decide +kernel) ?_
  refine e_callSX (As := [.int u_, .int (nI 0), .int (nI 9)]) (rest := []) ⟨hx, hb, hml, hown, hts⟩ hK hX hP hD hS hA hl.1 (c_X4_needWithin_t l hlt E _ u_ (nI 0) (nI 9) (by first | omega | assumption | rfl | (simp_all; done))) (va_cwS 3 hts gX4_setMonth_X4_needWithin rfl rfl rfl (by decide +kernel) ⟨Nat.le_of_ble_eq_true rfl, Nat.le_of_ble_eq_true rfl⟩) [] [0, 1, 2, 3, 4, 5, 6, 7, 8, 9, 10, 11, 12, 13, 14, 15, 16, 17, 18, 19] rfl rfl rfl rfl (by decide) rfl rfl (Nat.le_of_ble_eq_true rfl) dX4_setMonth_17 ⟨Nat.le_of_ble_eq_true rfl, Nat.le_of_ble_eq_true rfl⟩ (fun ce q9 H locs hsz1 hP hD hS hcell hvm hcl => ?_)
  have hP : va_P E.1 vwCl (wAll E o ad wm st gr co hb_ (nI mo) ga ca ha_ (nI ma) sd tk op sp rc rn wa) H := hP.sub [0, 1, 2, 3, 4, 5, 6, 7, 8, 9, 10, 11, 12, 13, 14, 15, 16, 17, 18, 19] rfl
  have hD : va_D A (wAll E o ad wm st gr co hb_ (nI mo) ga ca ha_ (nI ma) sd tk op sp rc rn wa) := hD.sub [0, 1, 2, 3, 4, 5, 6, 7, 8, 9, 10, 11, 12, 13, 14, 15, 16, 17, 18, 19] (by decide) rfl
  exact e_outX hQ ht hlocks hP hS hcell hvm hcl (Nat.le_of_ble_eq_true rfl) (Nat.le_of_ble_eq_true rfl)

abbrev rm_X4_cell : Room := { frames := 4, cells := 0, slots := 0, locals := 90 }
set_option maxHeartbeats 4000000 in
set_option maxRecDepth 100000 in
theorem c_X4_cell (l : Launch) (E : eT) (sz : Nat) (o : Nat) (ad : Nat → Nat) (wm : Nat → Int32) (st : Nat → Int32) (gr : Nat → Int32) (co : Nat → Int32) (hb_ : Nat → Bool) (mo : Nat) (ga : Nat → Int32) (ca : Nat → Int32) (ha_ : Nat → Bool) (ma : Nat) (sd : Nat → Int32) (tk : Nat → Int32) (op : Nat → Bool) (sp : Nat → Nat) (rc : Nat → Nat) (rn : Nat) (wa : Nat → Int32) (X : Nat) (Y : Nat) (k : Nat) (hX : X < 9) (hY : Y < 9) (hk : k < 5) : cM l yX4_cell wsX4_cell rm_X4_cell E sz [.ref o, .int (nI X), .int (nI Y), .int (nI k)] (wAll E o ad wm st gr co hb_ (nI mo) ga ca ha_ (nI ma) sd tk op sp rc rn wa) (fun u : (Nat → Bool) × (Nat → Nat) × (Nat → Nat) × (Nat) => some (.int (celA gr co ((9 * Y) + X) k))) (fun u : (Nat → Bool) × (Nat → Nat) × (Nat → Nat) × (Nat) => True) (fun u : (Nat → Bool) × (Nat → Nat) × (Nat → Nat) × (Nat) => wAll E o ad wm st gr co hb_ (nI mo) ga ca ha_ (nI ma) sd tk u.1 u.2.1 u.2.2.1 u.2.2.2 wa) := by
  refine cM_intro (cc := cX4_cell) (maxL := 5) (ret := (some .int)) (by decide +kernel) rfl (Nat.le_of_ble_eq_true rfl) ?_
  intro p e s m args below meth cd hx hb hr hml hown hlocks hts hnm hK hsz hP A hD hA Q hQ ls hl
  have hown : s.vm.findClass RX4 = some m.cls := hown
  have hin4 : ∀ w ∈ u_ws RX4 TX4 6, w ∈ wsX4_cell := by decide +kernel
  have lk19 := hts (.fieldLink RX4 19 "ReefPilot" "coast" "LReefPilot$Coast;") (by decide +kernel)
  have hS : va_S A s.heap s.heap [] := va_S.rf
  have hl : lv_has ls 5 [(0, .ref o), (1, .int (nI X)), (2, .int (nI Y)), (3, .int (nI k))] := hl
  refine lv_iload_n hx hb dX4_cell_0 rfl (lv_at hl 1 rfl) ?_
  refine lv_iload_n hx hb dX4_cell_1 rfl (lv_at hl 2 rfl) ?_
  refine e_callS (As := [.int (nI X), .int (nI Y)]) (rest := []) ⟨hx, hb, hml, hown, hts⟩ hK hP hD hS hA hl.1 (c_X4_needCell l E _ X Y (by first | omega | assumption | rfl | (simp_all; done)) (by first | omega | assumption | rfl | (simp_all; done))) (va_cwS 2 hts gX4_cell_X4_needCell rfl rfl rfl (by decide +kernel) ⟨Nat.le_of_ble_eq_true rfl, Nat.le_of_ble_eq_true rfl⟩) [] [0, 1, 2, 3, 4, 5, 6, 7, 8, 9, 10, 11, 12, 13, 14, 15, 16, 17, 18, 19] rfl rfl rfl rfl (by decide) rfl rfl (Nat.le_of_ble_eq_true rfl) dX4_cell_2 ⟨Nat.le_of_ble_eq_true rfl, Nat.le_of_ble_eq_true rfl⟩ (fun u_1 H locs hu_2 hsz1 hP hD hS => ?_)
  have hP : va_P E.1 vwCl (wAll E o ad wm st gr co hb_ (nI mo) ga ca ha_ (nI ma) sd tk op sp rc rn wa) H := hP.sub [0, 1, 2, 3, 4, 5, 6, 7, 8, 9, 10, 11, 12, 13, 14, 15, 16, 17, 18, 19] rfl
  have hD : va_D A (wAll E o ad wm st gr co hb_ (nI mo) ga ca ha_ (nI ma) sd tk op sp rc rn wa) := hD.sub [0, 1, 2, 3, 4, 5, 6, 7, 8, 9, 10, 11, 12, 13, 14, 15, 16, 17, 18, 19] (by decide) rfl
  refine W.eq (g2 := F0 m 5 ls []) rfl ?_
  refine lv_iload_n hx hb dX4_cell_5 rfl (lv_at hl 3 rfl) ?_
  refine lv_iconst (v := nI 5) hx hb dX4_cell_6 (by decide +kernel) ?_
  refine e_callS (As := [.int (nI k), .int (nI 5)]) (rest := []) ⟨hx, hb, hml, hown, hts⟩ hK hP hD hS hA hl.1 (c_X4_needIndex l E _ k 5 (by first | omega | assumption | rfl | (simp_all; done)) (by first | omega | assumption | rfl | (simp_all; done))) (va_cwS 2 hts gX4_cell_X4_needIndex rfl rfl rfl (by decide +kernel) ⟨Nat.le_of_ble_eq_true rfl, Nat.le_of_ble_eq_true rfl⟩) [] [0, 1, 2, 3, 4, 5, 6, 7, 8, 9, 10, 11, 12, 13, 14, 15, 16, 17, 18, 19] rfl rfl rfl rfl (by decide) rfl rfl (Nat.le_of_ble_eq_true rfl) dX4_cell_7 ⟨Nat.le_of_ble_eq_true rfl, Nat.le_of_ble_eq_true rfl⟩ (fun u_3 H locs hu_4 hsz1 hP hD hS => ?_)
  have hP : va_P E.1 vwCl (wAll E o ad wm st gr co hb_ (nI mo) ga ca ha_ (nI ma) sd tk op sp rc rn wa) H := hP.sub [0, 1, 2, 3, 4, 5, 6, 7, 8, 9, 10, 11, 12, 13, 14, 15, 16, 17, 18, 19] rfl
  have hD : va_D A (wAll E o ad wm st gr co hb_ (nI mo) ga ca ha_ (nI ma) sd tk op sp rc rn wa) := hD.sub [0, 1, 2, 3, 4, 5, 6, 7, 8, 9, 10, 11, 12, 13, 14, 15, 16, 17, 18, 19] (by decide) rfl
  refine W.eq (g2 := F0 m 10 ls []) rfl ?_
  refine lv_bipush (v := nI 9) hx hb dX4_cell_10 (by decide +kernel) ?_
  refine lv_iload_n hx hb dX4_cell_12 rfl (lv_at hl 2 rfl) ?_
  refine lv_imul hx hb dX4_cell_13 ?_
  refine e_top (pk_mul _ _) ?_
  refine lv_iload_n hx hb dX4_cell_14 rfl (lv_at hl 1 rfl) ?_
  refine lv_iadd hx hb dX4_cell_15 ?_
  refine e_top (nI_add _ _) ?_
  refine lv_istore (lv' := [(4, .int (nI ((9 * Y) + X))), (0, .ref o), (1, .int (nI X)), (2, .int (nI Y)), (3, .int (nI k))]) hx hb dX4_cell_16 hl (by decide) rfl (fun ls hl => ?_)
  refine lv_iload_n hx hb dX4_cell_18 rfl (lv_at hl 4 rfl) ?_
  rcases (show k = 0 ∨ k = 1 ∨ k = 2 ∨ k = 3 ∨ k = 4 by omega) with rfl | rfl | rfl | rfl | rfl
  · refine lv_tableIn (off := 29) (tgt := 48) hx hb dX4_cell_19 (by decide +kernel) (by decide +kernel) (by decide +kernel) (by decide) ?_
    refine lv_aload_n hx hb dX4_cell_48 rfl (lv_at hl 1 rfl) ?_
    refine va_get (D := E.1) (ci := 4) (v := .ref (ad 3)) (C := RX4) (T := TX4) (N := 6) hx hb hts hin4 hown hK.1 hP 0 rfl rfl 1 (by decide) lk19 (fun _ h9 => h9) rfl dX4_cell_49 ?_
    refine lv_iload hx hb dX4_cell_52 (lv_at hl 0 rfl) ?_
    refine e_callV (As := [.int (nI ((9 * Y) + X))]) (rest := []) ⟨hx, hb, hml, hown, hts⟩ hK hP hD hS hA hl.1 (c_X0_groundOf l E _ (ad 3) (ad 4) (ad 5) (ad 6) gr co hb_ (nI mo) ((9 * Y) + X) (by first | omega | assumption | rfl | (simp_all; done))) (cwV 1 hts gX4_cell_X0_groundOf rfl rfl rfl (by decide +kernel) ⟨Nat.le_of_ble_eq_true rfl, Nat.le_of_ble_eq_true rfl⟩) [4, 5, 6, 7] [0, 1, 2, 3, 8, 9, 10, 11, 12, 13, 14, 15, 16, 17, 18, 19] rfl rfl rfl rfl (by decide) (q0 := 4) (ci := 0) rfl rfl rfl rfl (Nat.le_of_ble_eq_true rfl) dX4_cell_54 ⟨Nat.le_of_ble_eq_true rfl, Nat.le_of_ble_eq_true rfl⟩ (fun u_5 H locs hu_6 hsz1 hP hD hS => ?_)
    have hP : va_P E.1 vwCl (wAll E o ad wm st gr co hb_ (nI mo) ga ca ha_ (nI ma) sd tk op sp rc rn wa) H := hP.sub [0, 1, 2, 3, 16, 17, 18, 19, 4, 5, 6, 7, 8, 9, 10, 11, 12, 13, 14, 15] rfl
    have hD : va_D A (wAll E o ad wm st gr co hb_ (nI mo) ga ca ha_ (nI ma) sd tk op sp rc rn wa) := hD.sub [0, 1, 2, 3, 16, 17, 18, 19, 4, 5, 6, 7, 8, 9, 10, 11, 12, 13, 14, 15] (by decide) rfl
    refine W.eq (g2 := F0 m 57 ls [.int (gr ((9 * Y) + X))]) rfl ?_
    exact e_iret (op, sp, rc, rn) hQ hx hb hr hlocks hP hD hS dX4_cell_57 (rfl) (Nat.le_of_ble_eq_true rfl) (Nat.le_of_ble_eq_true rfl) (trivial)
  · refine lv_tableIn (off := 39) (tgt := 58) hx hb dX4_cell_19 (by decide +kernel) (by decide +kernel) (by decide +kernel) (by decide) ?_
    refine lv_aload_n hx hb dX4_cell_58 rfl (lv_at hl 1 rfl) ?_
    refine va_get (D := E.1) (ci := 4) (v := .ref (ad 3)) (C := RX4) (T := TX4) (N := 6) hx hb hts hin4 hown hK.1 hP 0 rfl rfl 1 (by decide) lk19 (fun _ h9 => h9) rfl dX4_cell_59 ?_
    refine lv_iload hx hb dX4_cell_62 (lv_at hl 0 rfl) ?_
    refine e_callV (As := [.int (nI ((9 * Y) + X))]) (rest := []) ⟨hx, hb, hml, hown, hts⟩ hK hP hD hS hA hl.1 (c_X0_coralOf l E _ (ad 3) (ad 4) (ad 5) (ad 6) gr co hb_ (nI mo) ((9 * Y) + X) (by first | omega | assumption | rfl | (simp_all; done))) (cwV 1 hts gX4_cell_X0_coralOf rfl rfl rfl (by decide +kernel) ⟨Nat.le_of_ble_eq_true rfl, Nat.le_of_ble_eq_true rfl⟩) [4, 5, 6, 7] [0, 1, 2, 3, 8, 9, 10, 11, 12, 13, 14, 15, 16, 17, 18, 19] rfl rfl rfl rfl (by decide) (q0 := 4) (ci := 0) rfl rfl rfl rfl (Nat.le_of_ble_eq_true rfl) dX4_cell_64 ⟨Nat.le_of_ble_eq_true rfl, Nat.le_of_ble_eq_true rfl⟩ (fun u_7 H locs hu_8 hsz1 hP hD hS => ?_)
    have hP : va_P E.1 vwCl (wAll E o ad wm st gr co hb_ (nI mo) ga ca ha_ (nI ma) sd tk op sp rc rn wa) H := hP.sub [0, 1, 2, 3, 16, 17, 18, 19, 4, 5, 6, 7, 8, 9, 10, 11, 12, 13, 14, 15] rfl
    have hD : va_D A (wAll E o ad wm st gr co hb_ (nI mo) ga ca ha_ (nI ma) sd tk op sp rc rn wa) := hD.sub [0, 1, 2, 3, 16, 17, 18, 19, 4, 5, 6, 7, 8, 9, 10, 11, 12, 13, 14, 15] (by decide) rfl
    refine W.eq (g2 := F0 m 67 ls [.int (co ((9 * Y) + X))]) rfl ?_
    exact e_iret (op, sp, rc, rn) hQ hx hb hr hlocks hP hD hS dX4_cell_67 (rfl) (Nat.le_of_ble_eq_true rfl) (Nat.le_of_ble_eq_true rfl) (trivial)
  · refine lv_tableIn (off := 49) (tgt := 68) hx hb dX4_cell_19 (by decide +kernel) (by decide +kernel) (by decide +kernel) (by decide) ?_
    refine lv_aload_n hx hb dX4_cell_68 rfl (lv_at hl 1 rfl) ?_
    refine va_get (D := E.1) (ci := 4) (v := .ref (ad 3)) (C := RX4) (T := TX4) (N := 6) hx hb hts hin4 hown hK.1 hP 0 rfl rfl 1 (by decide) lk19 (fun _ h9 => h9) rfl dX4_cell_69 ?_
    refine lv_iload hx hb dX4_cell_72 (lv_at hl 0 rfl) ?_
    refine e_callV (As := [.int (nI ((9 * Y) + X))]) (rest := []) ⟨hx, hb, hml, hown, hts⟩ hK hP hD hS hA hl.1 (c_X0_depthOf l E _ (ad 3) (ad 4) (ad 5) (ad 6) gr co hb_ (nI mo) ((9 * Y) + X) (by first | omega | assumption | rfl | (simp_all; done))) (cwV 1 hts gX4_cell_X0_depthOf rfl rfl rfl (by decide +kernel) ⟨Nat.le_of_ble_eq_true rfl, Nat.le_of_ble_eq_true rfl⟩) [4, 5, 6, 7] [0, 1, 2, 3, 8, 9, 10, 11, 12, 13, 14, 15, 16, 17, 18, 19] rfl rfl rfl rfl (by decide) (q0 := 4) (ci := 0) rfl rfl rfl rfl (Nat.le_of_ble_eq_true rfl) dX4_cell_74 ⟨Nat.le_of_ble_eq_true rfl, Nat.le_of_ble_eq_true rfl⟩ (fun u_9 H locs hu_10 hsz1 hP hD hS => ?_)
    have hP : va_P E.1 vwCl (wAll E o ad wm st gr co hb_ (nI mo) ga ca ha_ (nI ma) sd tk op sp rc rn wa) H := hP.sub [0, 1, 2, 3, 16, 17, 18, 19, 4, 5, 6, 7, 8, 9, 10, 11, 12, 13, 14, 15] rfl
    have hD : va_D A (wAll E o ad wm st gr co hb_ (nI mo) ga ca ha_ (nI ma) sd tk op sp rc rn wa) := hD.sub [0, 1, 2, 3, 16, 17, 18, 19, 4, 5, 6, 7, 8, 9, 10, 11, 12, 13, 14, 15] (by decide) rfl
    refine W.eq (g2 := F0 m 77 ls [.int (dep gr co ((9 * Y) + X))]) rfl ?_
    exact e_iret (op, sp, rc, rn) hQ hx hb hr hlocks hP hD hS dX4_cell_77 (rfl) (Nat.le_of_ble_eq_true rfl) (Nat.le_of_ble_eq_true rfl) (trivial)
  · refine lv_tableIn (off := 59) (tgt := 78) hx hb dX4_cell_19 (by decide +kernel) (by decide +kernel) (by decide +kernel) (by decide) ?_
    refine lv_aload_n hx hb dX4_cell_78 rfl (lv_at hl 1 rfl) ?_
    refine va_get (D := E.1) (ci := 4) (v := .ref (ad 3)) (C := RX4) (T := TX4) (N := 6) hx hb hts hin4 hown hK.1 hP 0 rfl rfl 1 (by decide) lk19 (fun _ h9 => h9) rfl dX4_cell_79 ?_
    refine lv_iload hx hb dX4_cell_82 (lv_at hl 0 rfl) ?_
    refine e_callV (As := [.int (nI ((9 * Y) + X))]) (rest := []) ⟨hx, hb, hml, hown, hts⟩ hK hP hD hS hA hl.1 (c_X0_isHead l E _ (ad 3) (ad 4) (ad 5) (ad 6) gr co hb_ (nI mo) ((9 * Y) + X) (by first | omega | assumption | rfl | (simp_all; done))) (cwV 1 hts gX4_cell_X0_isHead rfl rfl rfl (by decide +kernel) ⟨Nat.le_of_ble_eq_true rfl, Nat.le_of_ble_eq_true rfl⟩) [4, 5, 6, 7] [0, 1, 2, 3, 8, 9, 10, 11, 12, 13, 14, 15, 16, 17, 18, 19] rfl rfl rfl rfl (by decide) (q0 := 4) (ci := 0) rfl rfl rfl rfl (Nat.le_of_ble_eq_true rfl) dX4_cell_84 ⟨Nat.le_of_ble_eq_true rfl, Nat.le_of_ble_eq_true rfl⟩ (fun u_11 H locs hu_12 hsz1 hP hD hS => ?_)
    have hP : va_P E.1 vwCl (wAll E o ad wm st gr co hb_ (nI mo) ga ca ha_ (nI ma) sd tk op sp rc rn wa) H := hP.sub [0, 1, 2, 3, 16, 17, 18, 19, 4, 5, 6, 7, 8, 9, 10, 11, 12, 13, 14, 15] rfl
    have hD : va_D A (wAll E o ad wm st gr co hb_ (nI mo) ga ca ha_ (nI ma) sd tk op sp rc rn wa) := hD.sub [0, 1, 2, 3, 16, 17, 18, 19, 4, 5, 6, 7, 8, 9, 10, 11, 12, 13, 14, 15] (by decide) rfl
    refine W.eq (g2 := F0 m 87 ls [.int (b2i (hd co ((9 * Y) + X)))]) rfl ?_
    refine b_if_eq (x := hd co ((9 * Y) + X)) (tgt := 94) hx hb dX4_cell_87 (by decide) (fun c87 => ?_) (fun c87 => ?_)
    · refine lv_iconst (v := nI 0) hx hb dX4_cell_94 (by decide +kernel) ?_
      exact e_iret (op, sp, rc, rn) hQ hx hb hr hlocks hP hD hS dX4_cell_95 (rvi (by show b2i (hd co ((9 * Y) + X)) = _; rw [c87]; rfl)) (Nat.le_of_ble_eq_true rfl) (Nat.le_of_ble_eq_true rfl) (trivial)
    · refine lv_iconst (v := nI 1) hx hb dX4_cell_90 (by decide +kernel) ?_
      refine lv_goto (tgt := 95) hx hb dX4_cell_91 (by decide) ?_
      exact e_iret (op, sp, rc, rn) hQ hx hb hr hlocks hP hD hS dX4_cell_95 (rvi (by show b2i (hd co ((9 * Y) + X)) = _; rw [c87]; rfl)) (Nat.le_of_ble_eq_true rfl) (Nat.le_of_ble_eq_true rfl) (trivial)
  · refine lv_tableOut (tgt := 96) hx hb dX4_cell_19 (Or.inr (by decide +kernel)) (by decide) ?_
    refine lv_aload_n hx hb dX4_cell_96 rfl (lv_at hl 1 rfl) ?_
    refine lv_iload hx hb dX4_cell_97 (lv_at hl 0 rfl) ?_
    refine e_callV (As := [.int (nI ((9 * Y) + X))]) (rest := []) ⟨hx, hb, hml, hown, hts⟩ hK hP hD hS hA hl.1 (c_X4_headsOfReefAt l E _ o ad wm st gr co hb_ mo ga ca ha_ ma sd tk op sp rc rn wa ((9 * Y) + X) (by first | omega | assumption | rfl | (simp_all; done))) (cwV 1 hts gX4_cell_X4_headsOfReefAt rfl rfl rfl (by decide +kernel) ⟨Nat.le_of_ble_eq_true rfl, Nat.le_of_ble_eq_true rfl⟩) [0, 1, 2, 3, 4, 5, 6, 7, 8, 9, 10, 11, 12, 13, 14, 15, 16, 17, 18, 19] [] rfl rfl rfl rfl (by decide) (q0 := 0) (ci := 4) rfl rfl rfl rfl (Nat.le_of_ble_eq_true rfl) dX4_cell_99 ⟨Nat.le_of_ble_eq_true rfl, Nat.le_of_ble_eq_true rfl⟩ (fun u_13 H locs hu_14 hsz1 hP hD hS => ?_)
    obtain ⟨op__15, sp__16, rc__17, rn__18⟩ := u_13
    have hP : va_P E.1 vwCl (wAll E o ad wm st gr co hb_ (nI mo) ga ca ha_ (nI ma) sd tk op__15 sp__16 rc__17 rn__18 wa) H := hP.sub [0, 1, 2, 3, 4, 5, 6, 7, 8, 9, 10, 11, 12, 13, 14, 15, 16, 17, 18, 19] rfl
    have hD : va_D A (wAll E o ad wm st gr co hb_ (nI mo) ga ca ha_ (nI ma) sd tk op__15 sp__16 rc__17 rn__18 wa) := hD.sub [0, 1, 2, 3, 4, 5, 6, 7, 8, 9, 10, 11, 12, 13, 14, 15, 16, 17, 18, 19] (by decide) rfl
    refine W.eq (g2 := F0 m 102 ls [.int (nI (sizeN (hd co) ((9 * Y) + X)))]) rfl ?_
    exact e_iret (op__15, sp__16, rc__17, rn__18) hQ hx hb hr hlocks hP hD hS dX4_cell_102 (rfl) (Nat.le_of_ble_eq_true rfl) (Nat.le_of_ble_eq_true rfl) (trivial)

abbrev rm_X4_cell_b1 : Room := { frames := 8, cells := 1, slots := 6, locals := 124 }
set_option maxHeartbeats 4000000 in
set_option maxRecDepth 100000 in
theorem c_X4_cell_b1 (l : Launch) (hlt : l.stackTraces = false) (E : eT) (sz : Nat) (o : Nat) (ad : Nat → Nat) (wm : Nat → Int32) (st : Nat → Int32) (gr : Nat → Int32) (co : Nat → Int32) (hb_ : Nat → Bool) (mo : Nat) (ga : Nat → Int32) (ca : Nat → Int32) (ha_ : Nat → Bool) (ma : Nat) (sd : Nat → Int32) (tk : Nat → Int32) (op : Nat → Bool) (sp : Nat → Nat) (rc : Nat → Nat) (rn : Nat) (wa : Nat → Int32) (x : Int32) (y : Int32) (v : Int32) (hc : isCellB x y = false) : cX l yX4_cell wsX4_cell rm_X4_cell_b1 E sz [.ref o, .int x, .int y, .int v] (wAll E o ad wm st gr co hb_ (nI mo) ga ca ha_ (nI ma) sd tk op sp rc rn wa) nX1 := by
  refine cX_intro (cc := cX4_cell) (maxL := 5) (ret := (some .int)) (by decide +kernel) rfl (Nat.le_of_ble_eq_true rfl) ?_
  intro p e s m args below meth cd hx hb hr hml hown hlocks hts hnm ht hK hsz hP A hD hA hX Q hQ ls hl
  have hown : s.vm.findClass RX4 = some m.cls := hown
  have hS : va_S A s.heap s.heap [] := va_S.rf
  have hl : lv_has ls 5 [(0, .ref o), (1, .int x), (2, .int y), (3, .int v)] := hl
  refine lv_iload_n hx hb dX4_cell_0 rfl (lv_at hl 1 rfl) ?_
  refine lv_iload_n hx hb dX4_cell_1 rfl (lv_at hl 2 rfl) ?_
  refine e_callSX (As := [.int x, .int y]) (rest := []) ⟨hx, hb, hml, hown, hts⟩ hK hX hP hD hS hA hl.1 (c_X4_needCell_t l hlt E _ x y (by first | omega | assumption | rfl | (simp_all; done))) (va_cwS 2 hts gX4_cell_X4_needCell rfl rfl rfl (by decide +kernel) ⟨Nat.le_of_ble_eq_true rfl, Nat.le_of_ble_eq_true rfl⟩) [] [0, 1, 2, 3, 4, 5, 6, 7, 8, 9, 10, 11, 12, 13, 14, 15, 16, 17, 18, 19] rfl rfl rfl rfl (by decide) rfl rfl (Nat.le_of_ble_eq_true rfl) dX4_cell_2 ⟨Nat.le_of_ble_eq_true rfl, Nat.le_of_ble_eq_true rfl⟩ (fun ce q9 H locs hsz1 hP hD hS hcell hvm hcl => ?_)
  have hP : va_P E.1 vwCl (wAll E o ad wm st gr co hb_ (nI mo) ga ca ha_ (nI ma) sd tk op sp rc rn wa) H := hP.sub [0, 1, 2, 3, 4, 5, 6, 7, 8, 9, 10, 11, 12, 13, 14, 15, 16, 17, 18, 19] rfl
  have hD : va_D A (wAll E o ad wm st gr co hb_ (nI mo) ga ca ha_ (nI ma) sd tk op sp rc rn wa) := hD.sub [0, 1, 2, 3, 4, 5, 6, 7, 8, 9, 10, 11, 12, 13, 14, 15, 16, 17, 18, 19] (by decide) rfl
  exact e_outX hQ ht hlocks hP hS hcell hvm hcl (Nat.le_of_ble_eq_true rfl) (Nat.le_of_ble_eq_true rfl)

abbrev rm_X4_cell_b2 : Room := { frames := 7, cells := 1, slots := 6, locals := 103 }
set_option maxHeartbeats 4000000 in
set_option maxRecDepth 100000 in
theorem c_X4_cell_b2 (l : Launch) (hlt : l.stackTraces = false) (E : eT) (sz : Nat) (o : Nat) (ad : Nat → Nat) (wm : Nat → Int32) (st : Nat → Int32) (gr : Nat → Int32) (co : Nat → Int32) (hb_ : Nat → Bool) (mo : Nat) (ga : Nat → Int32) (ca : Nat → Int32) (ha_ : Nat → Bool) (ma : Nat) (sd : Nat → Int32) (tk : Nat → Int32) (op : Nat → Bool) (sp : Nat → Nat) (rc : Nat → Nat) (rn : Nat) (wa : Nat → Int32) (X : Nat) (Y : Nat) (v : Int32) (hX : X < 9) (hY : Y < 9) (hv : isInB v (nI 0) (nI 4) = false) : cX l yX4_cell wsX4_cell rm_X4_cell_b2 E sz [.ref o, .int (nI X), .int (nI Y), .int v] (wAll E o ad wm st gr co hb_ (nI mo) ga ca ha_ (nI ma) sd tk op sp rc rn wa) nX1 := by
  refine cX_intro (cc := cX4_cell) (maxL := 5) (ret := (some .int)) (by decide +kernel) rfl (Nat.le_of_ble_eq_true rfl) ?_
  intro p e s m args below meth cd hx hb hr hml hown hlocks hts hnm ht hK hsz hP A hD hA hX Q hQ ls hl
  have hown : s.vm.findClass RX4 = some m.cls := hown
  have hS : va_S A s.heap s.heap [] := va_S.rf
  have hl : lv_has ls 5 [(0, .ref o), (1, .int (nI X)), (2, .int (nI Y)), (3, .int v)] := hl
  refine lv_iload_n hx hb dX4_cell_0 rfl (lv_at hl 1 rfl) ?_
  refine lv_iload_n hx hb dX4_cell_1 rfl (lv_at hl 2 rfl) ?_
  refine e_callS (As := [.int (nI X), .int (nI Y)]) (rest := []) ⟨hx, hb, hml, hown, hts⟩ hK hP hD hS hA hl.1 (c_X4_needCell l E _ X Y (by first | omega | assumption | rfl | (simp_all; done)) (by first | omega | assumption | rfl | (simp_all; done))) (va_cwS 2 hts gX4_cell_X4_needCell rfl rfl rfl (by decide +kernel) ⟨Nat.le_of_ble_eq_true rfl, Nat.le_of_ble_eq_true rfl⟩) [] [0, 1, 2, 3, 4, 5, 6, 7, 8, 9, 10, 11, 12, 13, 14, 15, 16, 17, 18, 19] rfl rfl rfl rfl (by decide) rfl rfl (Nat.le_of_ble_eq_true rfl) dX4_cell_2 ⟨Nat.le_of_ble_eq_true rfl, Nat.le_of_ble_eq_true rfl⟩ (fun u_1 H locs hu_2 hsz1 hP hD hS => ?_)
  have hP : va_P E.1 vwCl (wAll E o ad wm st gr co hb_ (nI mo) ga ca ha_ (nI ma) sd tk op sp rc rn wa) H := hP.sub [0, 1, 2, 3, 4, 5, 6, 7, 8, 9, 10, 11, 12, 13, 14, 15, 16, 17, 18, 19] rfl
  have hD : va_D A (wAll E o ad wm st gr co hb_ (nI mo) ga ca ha_ (nI ma) sd tk op sp rc rn wa) := hD.sub [0, 1, 2, 3, 4, 5, 6, 7, 8, 9, 10, 11, 12, 13, 14, 15, 16, 17, 18, 19] (by decide) rfl
  refine W.eq (g2 := F0 m 5 ls []) rfl ?_
  refine lv_iload_n hx hb dX4_cell_5 rfl (lv_at hl 3 rfl) ?_
  refine lv_iconst (v := nI 5) hx hb dX4_cell_6 (by decide +kernel) ?_
  refine e_callSX (As := [.int v, .int (nI 5)]) (rest := []) ⟨hx, hb, hml, hown, hts⟩ hK hX hP hD hS hA hl.1 (c_X4_needIndex_t l hlt E _ v 5 (hv) (by first | omega | assumption | rfl | (simp_all; done)) (by first | omega | assumption | rfl | (simp_all; done))) (va_cwS 2 hts gX4_cell_X4_needIndex rfl rfl rfl (by decide +kernel) ⟨Nat.le_of_ble_eq_true rfl, Nat.le_of_ble_eq_true rfl⟩) [] [0, 1, 2, 3, 4, 5, 6, 7, 8, 9, 10, 11, 12, 13, 14, 15, 16, 17, 18, 19] rfl rfl rfl rfl (by decide) rfl rfl (Nat.le_of_ble_eq_true rfl) dX4_cell_7 ⟨Nat.le_of_ble_eq_true rfl, Nat.le_of_ble_eq_true rfl⟩ (fun ce q9 H locs hsz1 hP hD hS hcell hvm hcl => ?_)
  have hP : va_P E.1 vwCl (wAll E o ad wm st gr co hb_ (nI mo) ga ca ha_ (nI ma) sd tk op sp rc rn wa) H := hP.sub [0, 1, 2, 3, 4, 5, 6, 7, 8, 9, 10, 11, 12, 13, 14, 15, 16, 17, 18, 19] rfl
  have hD : va_D A (wAll E o ad wm st gr co hb_ (nI mo) ga ca ha_ (nI ma) sd tk op sp rc rn wa) := hD.sub [0, 1, 2, 3, 4, 5, 6, 7, 8, 9, 10, 11, 12, 13, 14, 15, 16, 17, 18, 19] (by decide) rfl
  exact e_outX hQ ht hlocks hP hS hcell hvm hcl (Nat.le_of_ble_eq_true rfl) (Nat.le_of_ble_eq_true rfl)

abbrev rm_X4_sound : Room := { frames := 2, cells := 0, slots := 0, locals := 42 }
set_option maxHeartbeats 4000000 in
set_option maxRecDepth 100000 in
theorem c_X4_sound (l : Launch) (E : eT) (sz : Nat) (o : Nat) (ad : Nat → Nat) (wm : Nat → Int32) (st : Nat → Int32) (gr : Nat → Int32) (co : Nat → Int32) (hb_ : Nat → Bool) (mo : Nat) (ga : Nat → Int32) (ca : Nat → Int32) (ha_ : Nat → Bool) (ma : Nat) (sd : Nat → Int32) (tk : Nat → Int32) (op : Nat → Bool) (sp : Nat → Nat) (rc : Nat → Nat) (rn : Nat) (wa : Nat → Int32) (X : Nat) (Y : Nat) (hX : X < 9) (hY : Y < 9) : cM l yX4_sound wsX4_sound rm_X4_sound E sz [.ref o, .int (nI X), .int (nI Y)] (wAll E o ad wm st gr co hb_ (nI mo) ga ca ha_ (nI ma) sd tk op sp rc rn wa) (fun u : Unit => some (.int (sndR gr co sd ((9 * Y) + X)))) (fun u : Unit => True) (fun u : Unit => wAll E o ad wm st gr co hb_ (nI mo) ga ca ha_ (nI ma) (upd sd ((9 * Y) + X) (dep gr co ((9 * Y) + X))) (upd tk ((9 * Y) + X) (nI mo)) op sp rc rn wa) := by
  refine cM_intro (cc := cX4_sound) (maxL := 6) (ret := (some .int)) (by decide +kernel) rfl (Nat.le_of_ble_eq_true rfl) ?_
  intro p e s m args below meth cd hx hb hr hml hown hlocks hts hnm hK hsz hP A hD hA Q hQ ls hl
  have hown : s.vm.findClass RX4 = some m.cls := hown
  have hin4 : ∀ w ∈ u_ws RX4 TX4 6, w ∈ wsX4_sound := by decide +kernel
  have lk19 := hts (.fieldLink RX4 19 "ReefPilot" "coast" "LReefPilot$Coast;") (by decide +kernel)
  have lk29 := hts (.fieldLink RX4 29 "ReefPilot" "soundings" "LReefPilot$Soundings;") (by decide +kernel)
  have hS : va_S A s.heap s.heap [] := va_S.rf
  have hl : lv_has ls 6 [(0, .ref o), (1, .int (nI X)), (2, .int (nI Y))] := hl
  refine lv_iload_n hx hb dX4_sound_0 rfl (lv_at hl 1 rfl) ?_
  refine lv_iload_n hx hb dX4_sound_1 rfl (lv_at hl 2 rfl) ?_
  refine e_callS (As := [.int (nI X), .int (nI Y)]) (rest := []) ⟨hx, hb, hml, hown, hts⟩ hK hP hD hS hA hl.1 (c_X4_needCell l E _ X Y (by first | omega | assumption | rfl | (simp_all; done)) (by first | omega | assumption | rfl | (simp_all; done))) (va_cwS 2 hts gX4_sound_X4_needCell rfl rfl rfl (by decide +kernel) ⟨Nat.le_of_ble_eq_true rfl, Nat.le_of_ble_eq_true rfl⟩) [] [0, 1, 2, 3, 4, 5, 6, 7, 8, 9, 10, 11, 12, 13, 14, 15, 16, 17, 18, 19] rfl rfl rfl rfl (by decide) rfl rfl (Nat.le_of_ble_eq_true rfl) dX4_sound_2 ⟨Nat.le_of_ble_eq_true rfl, Nat.le_of_ble_eq_true rfl⟩ (fun u_1 H locs hu_2 hsz1 hP hD hS => ?_)
  have hP : va_P E.1 vwCl (wAll E o ad wm st gr co hb_ (nI mo) ga ca ha_ (nI ma) sd tk op sp rc rn wa) H := hP.sub [0, 1, 2, 3, 4, 5, 6, 7, 8, 9, 10, 11, 12, 13, 14, 15, 16, 17, 18, 19] rfl
  have hD : va_D A (wAll E o ad wm st gr co hb_ (nI mo) ga ca ha_ (nI ma) sd tk op sp rc rn wa) := hD.sub [0, 1, 2, 3, 4, 5, 6, 7, 8, 9, 10, 11, 12, 13, 14, 15, 16, 17, 18, 19] (by decide) rfl
  refine W.eq (g2 := F0 m 5 ls []) rfl ?_
  refine lv_bipush (v := nI 9) hx hb dX4_sound_5 (by decide +kernel) ?_
  refine lv_iload_n hx hb dX4_sound_7 rfl (lv_at hl 2 rfl) ?_
  refine lv_imul hx hb dX4_sound_8 ?_
  refine e_top (pk_mul _ _) ?_
  refine lv_iload_n hx hb dX4_sound_9 rfl (lv_at hl 1 rfl) ?_
  refine lv_iadd hx hb dX4_sound_10 ?_
  refine e_top (nI_add _ _) ?_
  refine lv_istore_n (lv' := [(3, .int (nI ((9 * Y) + X))), (0, .ref o), (1, .int (nI X)), (2, .int (nI Y))]) hx hb dX4_sound_11 rfl hl (by decide) rfl (fun ls hl => ?_)
  refine lv_aload_n hx hb dX4_sound_12 rfl (lv_at hl 1 rfl) ?_
  refine va_get (D := E.1) (ci := 4) (v := .ref (ad 11)) (C := RX4) (T := TX4) (N := 6) hx hb hts hin4 hown hK.1 hP 0 rfl rfl 3 (by decide) lk29 (fun _ h9 => h9) rfl dX4_sound_13 ?_
  refine lv_iload_n hx hb dX4_sound_16 rfl (lv_at hl 0 rfl) ?_
  refine e_callV (As := [.int (nI ((9 * Y) + X))]) (rest := []) ⟨hx, hb, hml, hown, hts⟩ hK hP hD hS hA hl.1 (c_X1_noted l E _ (ad 11) (ad 12) (ad 13) sd tk ((9 * Y) + X) (by first | omega | assumption | rfl | (simp_all; done))) (cwV 1 hts gX4_sound_X1_noted rfl rfl rfl (by decide +kernel) ⟨Nat.le_of_ble_eq_true rfl, Nat.le_of_ble_eq_true rfl⟩) [12, 13, 14] [0, 1, 2, 3, 4, 5, 6, 7, 8, 9, 10, 11, 15, 16, 17, 18, 19] rfl rfl rfl rfl (by decide) (q0 := 12) (ci := 1) rfl rfl rfl rfl (Nat.le_of_ble_eq_true rfl) dX4_sound_17 ⟨Nat.le_of_ble_eq_true rfl, Nat.le_of_ble_eq_true rfl⟩ (fun u_3 H locs hu_4 hsz1 hP hD hS => ?_)
  have hP : va_P E.1 vwCl (wAll E o ad wm st gr co hb_ (nI mo) ga ca ha_ (nI ma) sd tk op sp rc rn wa) H := hP.sub [0, 1, 2, 3, 4, 5, 6, 7, 8, 9, 10, 11, 17, 18, 19, 12, 13, 14, 15, 16] rfl
  have hD : va_D A (wAll E o ad wm st gr co hb_ (nI mo) ga ca ha_ (nI ma) sd tk op sp rc rn wa) := hD.sub [0, 1, 2, 3, 4, 5, 6, 7, 8, 9, 10, 11, 17, 18, 19, 12, 13, 14, 15, 16] (by decide) rfl
  refine W.eq (g2 := F0 m 20 ls [.int (sd ((9 * Y) + X))]) rfl ?_
  refine lv_istore (lv' := [(4, .int (sd ((9 * Y) + X))), (3, .int (nI ((9 * Y) + X))), (0, .ref o), (1, .int (nI X)), (2, .int (nI Y))]) hx hb dX4_sound_20 hl (by decide) rfl (fun ls hl => ?_)
  refine lv_aload_n hx hb dX4_sound_22 rfl (lv_at hl 2 rfl) ?_
  refine va_get (D := E.1) (ci := 4) (v := .ref (ad 3)) (C := RX4) (T := TX4) (N := 6) hx hb hts hin4 hown hK.1 hP 0 rfl rfl 1 (by decide) lk19 (fun _ h9 => h9) rfl dX4_sound_23 ?_
  refine lv_iload_n hx hb dX4_sound_26 rfl (lv_at hl 1 rfl) ?_
  refine e_callV (As := [.int (nI ((9 * Y) + X))]) (rest := []) ⟨hx, hb, hml, hown, hts⟩ hK hP hD hS hA hl.1 (c_X0_depthOf l E _ (ad 3) (ad 4) (ad 5) (ad 6) gr co hb_ (nI mo) ((9 * Y) + X) (by first | omega | assumption | rfl | (simp_all; done))) (cwV 1 hts gX4_sound_X0_depthOf rfl rfl rfl (by decide +kernel) ⟨Nat.le_of_ble_eq_true rfl, Nat.le_of_ble_eq_true rfl⟩) [4, 5, 6, 7] [0, 1, 2, 3, 8, 9, 10, 11, 12, 13, 14, 15, 16, 17, 18, 19] rfl rfl rfl rfl (by decide) (q0 := 4) (ci := 0) rfl rfl rfl rfl (Nat.le_of_ble_eq_true rfl) dX4_sound_27 ⟨Nat.le_of_ble_eq_true rfl, Nat.le_of_ble_eq_true rfl⟩ (fun u_5 H locs hu_6 hsz1 hP hD hS => ?_)
  have hP : va_P E.1 vwCl (wAll E o ad wm st gr co hb_ (nI mo) ga ca ha_ (nI ma) sd tk op sp rc rn wa) H := hP.sub [0, 1, 2, 3, 16, 17, 18, 19, 4, 5, 6, 7, 8, 9, 10, 11, 12, 13, 14, 15] rfl
  have hD : va_D A (wAll E o ad wm st gr co hb_ (nI mo) ga ca ha_ (nI ma) sd tk op sp rc rn wa) := hD.sub [0, 1, 2, 3, 16, 17, 18, 19, 4, 5, 6, 7, 8, 9, 10, 11, 12, 13, 14, 15] (by decide) rfl
  refine W.eq (g2 := F0 m 30 ls [.int (dep gr co ((9 * Y) + X))]) rfl ?_
  refine lv_istore (lv' := [(5, .int (dep gr co ((9 * Y) + X))), (4, .int (sd ((9 * Y) + X))), (3, .int (nI ((9 * Y) + X))), (0, .ref o), (1, .int (nI X)), (2, .int (nI Y))]) hx hb dX4_sound_30 hl (by decide) rfl (fun ls hl => ?_)
  refine lv_aload_n hx hb dX4_sound_32 rfl (lv_at hl 3 rfl) ?_
  refine va_get (D := E.1) (ci := 4) (v := .ref (ad 11)) (C := RX4) (T := TX4) (N := 6) hx hb hts hin4 hown hK.1 hP 0 rfl rfl 3 (by decide) lk29 (fun _ h9 => h9) rfl dX4_sound_33 ?_
  refine lv_iload_n hx hb dX4_sound_36 rfl (lv_at hl 2 rfl) ?_
  refine lv_iload hx hb dX4_sound_37 (lv_at hl 0 rfl) ?_
  refine lv_aload_n hx hb dX4_sound_39 rfl (lv_at hl 3 rfl) ?_
  refine va_get (D := E.1) (ci := 4) (v := .ref (ad 3)) (C := RX4) (T := TX4) (N := 6) hx hb hts hin4 hown hK.1 hP 0 rfl rfl 1 (by decide) lk19 (fun _ h9 => h9) rfl dX4_sound_40 ?_
  refine e_callV (As := []) (rest := [.int (dep gr co ((9 * Y) + X)), .int (nI ((9 * Y) + X)), .ref (ad 11)]) ⟨hx, hb, hml, hown, hts⟩ hK hP hD hS hA hl.1 (c_X0_monthNow l E _ (ad 3) (ad 4) (ad 5) (ad 6) gr co hb_ (nI mo)) (cwV 0 hts gX4_sound_X0_monthNow rfl rfl rfl (by decide +kernel) ⟨Nat.le_of_ble_eq_true rfl, Nat.le_of_ble_eq_true rfl⟩) [4, 5, 6, 7] [0, 1, 2, 3, 8, 9, 10, 11, 12, 13, 14, 15, 16, 17, 18, 19] rfl rfl rfl rfl (by decide) (q0 := 4) (ci := 0) rfl rfl rfl rfl (Nat.le_of_ble_eq_true rfl) dX4_sound_43 ⟨Nat.le_of_ble_eq_true rfl, Nat.le_of_ble_eq_true rfl⟩ (fun u_7 H locs hu_8 hsz1 hP hD hS => ?_)
  have hP : va_P E.1 vwCl (wAll E o ad wm st gr co hb_ (nI mo) ga ca ha_ (nI ma) sd tk op sp rc rn wa) H := hP.sub [0, 1, 2, 3, 16, 17, 18, 19, 4, 5, 6, 7, 8, 9, 10, 11, 12, 13, 14, 15] rfl
  have hD : va_D A (wAll E o ad wm st gr co hb_ (nI mo) ga ca ha_ (nI ma) sd tk op sp rc rn wa) := hD.sub [0, 1, 2, 3, 16, 17, 18, 19, 4, 5, 6, 7, 8, 9, 10, 11, 12, 13, 14, 15] (by decide) rfl
  refine W.eq (g2 := F0 m 46 ls [.int (nI mo), .int (dep gr co ((9 * Y) + X)), .int (nI ((9 * Y) + X)), .ref (ad 11)]) rfl ?_
  refine e_callV (As := [.int (nI ((9 * Y) + X)), .int (dep gr co ((9 * Y) + X)), .int (nI mo)]) (rest := []) ⟨hx, hb, hml, hown, hts⟩ hK hP hD hS hA hl.1 (c_X1_note l E _ (ad 11) (ad 12) (ad 13) sd tk ((9 * Y) + X) (dep gr co ((9 * Y) + X)) (nI mo) (by first | omega | assumption | rfl | (simp_all; done))) (cwV 3 hts gX4_sound_X1_note rfl rfl rfl (by decide +kernel) ⟨Nat.le_of_ble_eq_true rfl, Nat.le_of_ble_eq_true rfl⟩) [12, 13, 14] [0, 1, 2, 3, 4, 5, 6, 7, 8, 9, 10, 11, 15, 16, 17, 18, 19] rfl rfl rfl rfl (by decide) (q0 := 12) (ci := 1) rfl rfl rfl rfl (Nat.le_of_ble_eq_true rfl) dX4_sound_46 ⟨Nat.le_of_ble_eq_true rfl, Nat.le_of_ble_eq_true rfl⟩ (fun u_9 H locs hu_10 hsz1 hP hD hS => ?_)
  have hP : va_P E.1 vwCl (wAll E o ad wm st gr co hb_ (nI mo) ga ca ha_ (nI ma) (upd sd ((9 * Y) + X) (dep gr co ((9 * Y) + X))) (upd tk ((9 * Y) + X) (nI mo)) op sp rc rn wa) H := hP.sub [0, 1, 2, 3, 4, 5, 6, 7, 8, 9, 10, 11, 17, 18, 19, 12, 13, 14, 15, 16] rfl
  have hD : va_D A (wAll E o ad wm st gr co hb_ (nI mo) ga ca ha_ (nI ma) (upd sd ((9 * Y) + X) (dep gr co ((9 * Y) + X))) (upd tk ((9 * Y) + X) (nI mo)) op sp rc rn wa) := hD.sub [0, 1, 2, 3, 4, 5, 6, 7, 8, 9, 10, 11, 17, 18, 19, 12, 13, 14, 15, 16] (by decide) rfl
  refine W.eq (g2 := F0 m 49 ls []) rfl ?_
  refine lv_iload hx hb dX4_sound_49 (lv_at hl 1 rfl) ?_
  refine lv_iconst (v := (-1)) hx hb dX4_sound_51 (by decide +kernel) ?_
  refine lv_icmp_ne (tgt := 59) hx hb dX4_sound_52 (by decide) (fun c52 => ?_) (fun c52 => ?_)
  · refine lv_iload hx hb dX4_sound_59 (lv_at hl 0 rfl) ?_
    refine lv_iload hx hb dX4_sound_61 (lv_at hl 1 rfl) ?_
    refine lv_isub hx hb dX4_sound_63 ?_
    exact e_iret () hQ hx hb hr hlocks hP hD hS dX4_sound_64 (rvi (by unfold sndR; first | rw [if_pos c52] | rw [if_neg c52] | rw [if_pos (Decidable.of_not_not c52)])) (Nat.le_of_ble_eq_true rfl) (Nat.le_of_ble_eq_true rfl) (trivial)
  · refine lv_iconst (v := nI 0) hx hb dX4_sound_55 (by decide +kernel) ?_
    refine lv_goto (tgt := 64) hx hb dX4_sound_56 (by decide) ?_
    exact e_iret () hQ hx hb hr hlocks hP hD hS dX4_sound_64 (rvi (by unfold sndR; first | rw [if_pos c52] | rw [if_neg c52] | rw [if_pos (Decidable.of_not_not c52)])) (Nat.le_of_ble_eq_true rfl) (Nat.le_of_ble_eq_true rfl) (trivial)

abbrev rm_X4_sound_b1 : Room := { frames := 8, cells := 1, slots := 6, locals := 124 }
set_option maxHeartbeats 4000000 in
set_option maxRecDepth 100000 in
theorem c_X4_sound_b1 (l : Launch) (hlt : l.stackTraces = false) (E : eT) (sz : Nat) (o : Nat) (ad : Nat → Nat) (wm : Nat → Int32) (st : Nat → Int32) (gr : Nat → Int32) (co : Nat → Int32) (hb_ : Nat → Bool) (mo : Nat) (ga : Nat → Int32) (ca : Nat → Int32) (ha_ : Nat → Bool) (ma : Nat) (sd : Nat → Int32) (tk : Nat → Int32) (op : Nat → Bool) (sp : Nat → Nat) (rc : Nat → Nat) (rn : Nat) (wa : Nat → Int32) (x : Int32) (y : Int32) (hc : isCellB x y = false) : cX l yX4_sound wsX4_sound rm_X4_sound_b1 E sz [.ref o, .int x, .int y] (wAll E o ad wm st gr co hb_ (nI mo) ga ca ha_ (nI ma) sd tk op sp rc rn wa) nX1 := by
  refine cX_intro (cc := cX4_sound) (maxL := 6) (ret := (some .int)) (by decide +kernel) rfl (Nat.le_of_ble_eq_true rfl) ?_
  intro p e s m args below meth cd hx hb hr hml hown hlocks hts hnm ht hK hsz hP A hD hA hX Q hQ ls hl
  have hown : s.vm.findClass RX4 = some m.cls := hown
  have hS : va_S A s.heap s.heap [] := va_S.rf
  have hl : lv_has ls 6 [(0, .ref o), (1, .int x), (2, .int y)] := hl
  refine lv_iload_n hx hb dX4_sound_0 rfl (lv_at hl 1 rfl) ?_
  refine lv_iload_n hx hb dX4_sound_1 rfl (lv_at hl 2 rfl) ?_
  refine e_callSX (As := [.int x, .int y]) (rest := []) ⟨hx, hb, hml, hown, hts⟩ hK hX hP hD hS hA hl.1 (c_X4_needCell_t l hlt E _ x y (by first | omega | assumption | rfl | (simp_all; done))) (va_cwS 2 hts gX4_sound_X4_needCell rfl rfl rfl (by decide +kernel) ⟨Nat.le_of_ble_eq_true rfl, Nat.le_of_ble_eq_true rfl⟩) [] [0, 1, 2, 3, 4, 5, 6, 7, 8, 9, 10, 11, 12, 13, 14, 15, 16, 17, 18, 19] rfl rfl rfl rfl (by decide) rfl rfl (Nat.le_of_ble_eq_true rfl) dX4_sound_2 ⟨Nat.le_of_ble_eq_true rfl, Nat.le_of_ble_eq_true rfl⟩ (fun ce q9 H locs hsz1 hP hD hS hcell hvm hcl => ?_)
  have hP : va_P E.1 vwCl (wAll E o ad wm st gr co hb_ (nI mo) ga ca ha_ (nI ma) sd tk op sp rc rn wa) H := hP.sub [0, 1, 2, 3, 4, 5, 6, 7, 8, 9, 10, 11, 12, 13, 14, 15, 16, 17, 18, 19] rfl
  have hD : va_D A (wAll E o ad wm st gr co hb_ (nI mo) ga ca ha_ (nI ma) sd tk op sp rc rn wa) := hD.sub [0, 1, 2, 3, 4, 5, 6, 7, 8, 9, 10, 11, 12, 13, 14, 15, 16, 17, 18, 19] (by decide) rfl
  exact e_outX hQ ht hlocks hP hS hcell hvm hcl (Nat.le_of_ble_eq_true rfl) (Nat.le_of_ble_eq_true rfl)

abbrev rm_X4_chart : Room := { frames := 3, cells := 0, slots := 0, locals := 66 }
set_option maxHeartbeats 4000000 in
set_option maxRecDepth 100000 in
theorem c_X4_chart (l : Launch) (E : eT) (sz : Nat) (o : Nat) (ad : Nat → Nat) (wm : Nat → Int32) (st : Nat → Int32) (gr : Nat → Int32) (co : Nat → Int32) (hb_ : Nat → Bool) (mo : Nat) (ga : Nat → Int32) (ca : Nat → Int32) (ha_ : Nat → Bool) (ma : Nat) (sd : Nat → Int32) (tk : Nat → Int32) (op : Nat → Bool) (sp : Nat → Nat) (rc : Nat → Nat) (rn : Nat) (wa : Nat → Int32) (X : Nat) (Y : Nat) (k : Nat) (hX : X < 9) (hY : Y < 9) (hk : k < 3) : cM l yX4_chart wsX4_chart rm_X4_chart E sz [.ref o, .int (nI X), .int (nI Y), .int (nI k)] (wAll E o ad wm st gr co hb_ (nI mo) ga ca ha_ (nI ma) sd tk op sp rc rn wa) (fun u : Unit => some (.int (chA sd tk (nI mo) ((9 * Y) + X) k))) (fun u : Unit => True) (fun u : Unit => wAll E o ad wm st gr co hb_ (nI mo) ga ca ha_ (nI ma) sd tk op sp rc rn wa) := by
  refine cM_intro (cc := cX4_chart) (maxL := 4) (ret := (some .int)) (by decide +kernel) rfl (Nat.le_of_ble_eq_true rfl) ?_
  intro p e s m args below meth cd hx hb hr hml hown hlocks hts hnm hK hsz hP A hD hA Q hQ ls hl
  have hown : s.vm.findClass RX4 = some m.cls := hown
  have hS : va_S A s.heap s.heap [] := va_S.rf
  have hl : lv_has ls 4 [(0, .ref o), (1, .int (nI X)), (2, .int (nI Y)), (3, .int (nI k))] := hl
  refine lv_iload_n hx hb dX4_chart_0 rfl (lv_at hl 1 rfl) ?_
  refine lv_iload_n hx hb dX4_chart_1 rfl (lv_at hl 2 rfl) ?_
  refine e_callS (As := [.int (nI X), .int (nI Y)]) (rest := []) ⟨hx, hb, hml, hown, hts⟩ hK hP hD hS hA hl.1 (c_X4_needCell l E _ X Y (by first | omega | assumption | rfl | (simp_all; done)) (by first | omega | assumption | rfl | (simp_all; done))) (va_cwS 2 hts gX4_chart_X4_needCell rfl rfl rfl (by decide +kernel) ⟨Nat.le_of_ble_eq_true rfl, Nat.le_of_ble_eq_true rfl⟩) [] [0, 1, 2, 3, 4, 5, 6, 7, 8, 9, 10, 11, 12, 13, 14, 15, 16, 17, 18, 19] rfl rfl rfl rfl (by decide) rfl rfl (Nat.le_of_ble_eq_true rfl) dX4_chart_2 ⟨Nat.le_of_ble_eq_true rfl, Nat.le_of_ble_eq_true rfl⟩ (fun u_1 H locs hu_2 hsz1 hP hD hS => ?_)
  have hP : va_P E.1 vwCl (wAll E o ad wm st gr co hb_ (nI mo) ga ca ha_ (nI ma) sd tk op sp rc rn wa) H := hP.sub [0, 1, 2, 3, 4, 5, 6, 7, 8, 9, 10, 11, 12, 13, 14, 15, 16, 17, 18, 19] rfl
  have hD : va_D A (wAll E o ad wm st gr co hb_ (nI mo) ga ca ha_ (nI ma) sd tk op sp rc rn wa) := hD.sub [0, 1, 2, 3, 4, 5, 6, 7, 8, 9, 10, 11, 12, 13, 14, 15, 16, 17, 18, 19] (by decide) rfl
  refine W.eq (g2 := F0 m 5 ls []) rfl ?_
  refine lv_iload_n hx hb dX4_chart_5 rfl (lv_at hl 3 rfl) ?_
  refine lv_iconst (v := nI 3) hx hb dX4_chart_6 (by decide +kernel) ?_
  refine e_callS (As := [.int (nI k), .int (nI 3)]) (rest := []) ⟨hx, hb, hml, hown, hts⟩ hK hP hD hS hA hl.1 (c_X4_needIndex l E _ k 3 (by first | omega | assumption | rfl | (simp_all; done)) (by first | omega | assumption | rfl | (simp_all; done))) (va_cwS 2 hts gX4_chart_X4_needIndex rfl rfl rfl (by decide +kernel) ⟨Nat.le_of_ble_eq_true rfl, Nat.le_of_ble_eq_true rfl⟩) [] [0, 1, 2, 3, 4, 5, 6, 7, 8, 9, 10, 11, 12, 13, 14, 15, 16, 17, 18, 19] rfl rfl rfl rfl (by decide) rfl rfl (Nat.le_of_ble_eq_true rfl) dX4_chart_7 ⟨Nat.le_of_ble_eq_true rfl, Nat.le_of_ble_eq_true rfl⟩ (fun u_3 H locs hu_4 hsz1 hP hD hS => ?_)
  have hP : va_P E.1 vwCl (wAll E o ad wm st gr co hb_ (nI mo) ga ca ha_ (nI ma) sd tk op sp rc rn wa) H := hP.sub [0, 1, 2, 3, 4, 5, 6, 7, 8, 9, 10, 11, 12, 13, 14, 15, 16, 17, 18, 19] rfl
  have hD : va_D A (wAll E o ad wm st gr co hb_ (nI mo) ga ca ha_ (nI ma) sd tk op sp rc rn wa) := hD.sub [0, 1, 2, 3, 4, 5, 6, 7, 8, 9, 10, 11, 12, 13, 14, 15, 16, 17, 18, 19] (by decide) rfl
  refine W.eq (g2 := F0 m 10 ls []) rfl ?_
  refine lv_aload_n hx hb dX4_chart_10 rfl (lv_at hl 0 rfl) ?_
  refine lv_bipush (v := nI 9) hx hb dX4_chart_11 (by decide +kernel) ?_
  refine lv_iload_n hx hb dX4_chart_13 rfl (lv_at hl 2 rfl) ?_
  refine lv_imul hx hb dX4_chart_14 ?_
  refine e_top (pk_mul _ _) ?_
  refine lv_iload_n hx hb dX4_chart_15 rfl (lv_at hl 1 rfl) ?_
  refine lv_iadd hx hb dX4_chart_16 ?_
  refine e_top (nI_add _ _) ?_
  refine lv_iload_n hx hb dX4_chart_17 rfl (lv_at hl 3 rfl) ?_
  refine e_callV (As := [.int (nI ((9 * Y) + X)), .int (nI k)]) (rest := []) ⟨hx, hb, hml, hown, hts⟩ hK hP hD hS hA hl.1 (c_X4_chartAnswer l E _ o ad wm st gr co hb_ mo ga ca ha_ ma sd tk op sp rc rn wa ((9 * Y) + X) k (by first | omega | assumption | rfl | (simp_all; done)) (by first | omega | assumption | rfl | (simp_all; done))) (cwV 2 hts gX4_chart_X4_chartAnswer rfl rfl rfl (by decide +kernel) ⟨Nat.le_of_ble_eq_true rfl, Nat.le_of_ble_eq_true rfl⟩) [0, 1, 2, 3, 4, 5, 6, 7, 8, 9, 10, 11, 12, 13, 14, 15, 16, 17, 18, 19] [] rfl rfl rfl rfl (by decide) (q0 := 0) (ci := 4) rfl rfl rfl rfl (Nat.le_of_ble_eq_true rfl) dX4_chart_18 ⟨Nat.le_of_ble_eq_true rfl, Nat.le_of_ble_eq_true rfl⟩ (fun u_5 H locs hu_6 hsz1 hP hD hS => ?_)
  have hP : va_P E.1 vwCl (wAll E o ad wm st gr co hb_ (nI mo) ga ca ha_ (nI ma) sd tk op sp rc rn wa) H := hP.sub [0, 1, 2, 3, 4, 5, 6, 7, 8, 9, 10, 11, 12, 13, 14, 15, 16, 17, 18, 19] rfl
  have hD : va_D A (wAll E o ad wm st gr co hb_ (nI mo) ga ca ha_ (nI ma) sd tk op sp rc rn wa) := hD.sub [0, 1, 2, 3, 4, 5, 6, 7, 8, 9, 10, 11, 12, 13, 14, 15, 16, 17, 18, 19] (by decide) rfl
  refine W.eq (g2 := F0 m 21 ls [.int (chA sd tk (nI mo) ((9 * Y) + X) k)]) rfl ?_
  exact e_iret () hQ hx hb hr hlocks hP hD hS dX4_chart_21 (rfl) (Nat.le_of_ble_eq_true rfl) (Nat.le_of_ble_eq_true rfl) (trivial)

abbrev rm_X4_chart_b1 : Room := { frames := 8, cells := 1, slots := 6, locals := 124 }
set_option maxHeartbeats 4000000 in
set_option maxRecDepth 100000 in
theorem c_X4_chart_b1 (l : Launch) (hlt : l.stackTraces = false) (E : eT) (sz : Nat) (o : Nat) (ad : Nat → Nat) (wm : Nat → Int32) (st : Nat → Int32) (gr : Nat → Int32) (co : Nat → Int32) (hb_ : Nat → Bool) (mo : Nat) (ga : Nat → Int32) (ca : Nat → Int32) (ha_ : Nat → Bool) (ma : Nat) (sd : Nat → Int32) (tk : Nat → Int32) (op : Nat → Bool) (sp : Nat → Nat) (rc : Nat → Nat) (rn : Nat) (wa : Nat → Int32) (x : Int32) (y : Int32) (v : Int32) (hc : isCellB x y = false) : cX l yX4_chart wsX4_chart rm_X4_chart_b1 E sz [.ref o, .int x, .int y, .int v] (wAll E o ad wm st gr co hb_ (nI mo) ga ca ha_ (nI ma) sd tk op sp rc rn wa) nX1 := by
  refine cX_intro (cc := cX4_chart) (maxL := 4) (ret := (some .int)) (by decide +kernel) rfl (Nat.le_of_ble_eq_true rfl) ?_
  intro p e s m args below meth cd hx hb hr hml hown hlocks hts hnm ht hK hsz hP A hD hA hX Q hQ ls hl
  have hown : s.vm.findClass RX4 = some m.cls := hown
  have hS : va_S A s.heap s.heap [] := va_S.rf
  have hl : lv_has ls 4 [(0, .ref o), (1, .int x), (2, .int y), (3, .int v)] := hl
  refine lv_iload_n hx hb dX4_chart_0 rfl (lv_at hl 1 rfl) ?_
  refine lv_iload_n hx hb dX4_chart_1 rfl (lv_at hl 2 rfl) ?_
  refine e_callSX (As := [.int x, .int y]) (rest := []) ⟨hx, hb, hml, hown, hts⟩ hK hX hP hD hS hA hl.1 (c_X4_needCell_t l hlt E _ x y (by first | omega | assumption | rfl | (simp_all; done))) (va_cwS 2 hts gX4_chart_X4_needCell rfl rfl rfl (by decide +kernel) ⟨Nat.le_of_ble_eq_true rfl, Nat.le_of_ble_eq_true rfl⟩) [] [0, 1, 2, 3, 4, 5, 6, 7, 8, 9, 10, 11, 12, 13, 14, 15, 16, 17, 18, 19] rfl rfl rfl rfl (by decide) rfl rfl (Nat.le_of_ble_eq_true rfl) dX4_chart_2 ⟨Nat.le_of_ble_eq_true rfl, Nat.le_of_ble_eq_true rfl⟩ (fun ce q9 H locs hsz1 hP hD hS hcell hvm hcl => ?_)
  have hP : va_P E.1 vwCl (wAll E o ad wm st gr co hb_ (nI mo) ga ca ha_ (nI ma) sd tk op sp rc rn wa) H := hP.sub [0, 1, 2, 3, 4, 5, 6, 7, 8, 9, 10, 11, 12, 13, 14, 15, 16, 17, 18, 19] rfl
  have hD : va_D A (wAll E o ad wm st gr co hb_ (nI mo) ga ca ha_ (nI ma) sd tk op sp rc rn wa) := hD.sub [0, 1, 2, 3, 4, 5, 6, 7, 8, 9, 10, 11, 12, 13, 14, 15, 16, 17, 18, 19] (by decide) rfl
  exact e_outX hQ ht hlocks hP hS hcell hvm hcl (Nat.le_of_ble_eq_true rfl) (Nat.le_of_ble_eq_true rfl)

abbrev rm_X4_chart_b2 : Room := { frames := 7, cells := 1, slots := 6, locals := 103 }
set_option maxHeartbeats 4000000 in
set_option maxRecDepth 100000 in
theorem c_X4_chart_b2 (l : Launch) (hlt : l.stackTraces = false) (E : eT) (sz : Nat) (o : Nat) (ad : Nat → Nat) (wm : Nat → Int32) (st : Nat → Int32) (gr : Nat → Int32) (co : Nat → Int32) (hb_ : Nat → Bool) (mo : Nat) (ga : Nat → Int32) (ca : Nat → Int32) (ha_ : Nat → Bool) (ma : Nat) (sd : Nat → Int32) (tk : Nat → Int32) (op : Nat → Bool) (sp : Nat → Nat) (rc : Nat → Nat) (rn : Nat) (wa : Nat → Int32) (X : Nat) (Y : Nat) (v : Int32) (hX : X < 9) (hY : Y < 9) (hv : isInB v (nI 0) (nI 2) = false) : cX l yX4_chart wsX4_chart rm_X4_chart_b2 E sz [.ref o, .int (nI X), .int (nI Y), .int v] (wAll E o ad wm st gr co hb_ (nI mo) ga ca ha_ (nI ma) sd tk op sp rc rn wa) nX1 := by
  refine cX_intro (cc := cX4_chart) (maxL := 4) (ret := (some .int)) (by decide +kernel) rfl (Nat.le_of_ble_eq_true rfl) ?_
  intro p e s m args below meth cd hx hb hr hml hown hlocks hts hnm ht hK hsz hP A hD hA hX Q hQ ls hl
  have hown : s.vm.findClass RX4 = some m.cls := hown
  have hS : va_S A s.heap s.heap [] := va_S.rf
  have hl : lv_has ls 4 [(0, .ref o), (1, .int (nI X)), (2, .int (nI Y)), (3, .int v)] := hl
  refine lv_iload_n hx hb dX4_chart_0 rfl (lv_at hl 1 rfl) ?_
  refine lv_iload_n hx hb dX4_chart_1 rfl (lv_at hl 2 rfl) ?_
  refine e_callS (As := [.int (nI X), .int (nI Y)]) (rest := []) ⟨hx, hb, hml, hown, hts⟩ hK hP hD hS hA hl.1 (c_X4_needCell l E _ X Y (by first | omega | assumption | rfl | (simp_all; done)) (by first | omega | assumption | rfl | (simp_all; done))) (va_cwS 2 hts gX4_chart_X4_needCell rfl rfl rfl (by decide +kernel) ⟨Nat.le_of_ble_eq_true rfl, Nat.le_of_ble_eq_true rfl⟩) [] [0, 1, 2, 3, 4, 5, 6, 7, 8, 9, 10, 11, 12, 13, 14, 15, 16, 17, 18, 19] rfl rfl rfl rfl (by decide) rfl rfl (Nat.le_of_ble_eq_true rfl) dX4_chart_2 ⟨Nat.le_of_ble_eq_true rfl, Nat.le_of_ble_eq_true rfl⟩ (fun u_1 H locs hu_2 hsz1 hP hD hS => ?_)
  have hP : va_P E.1 vwCl (wAll E o ad wm st gr co hb_ (nI mo) ga ca ha_ (nI ma) sd tk op sp rc rn wa) H := hP.sub [0, 1, 2, 3, 4, 5, 6, 7, 8, 9, 10, 11, 12, 13, 14, 15, 16, 17, 18, 19] rfl
  have hD : va_D A (wAll E o ad wm st gr co hb_ (nI mo) ga ca ha_ (nI ma) sd tk op sp rc rn wa) := hD.sub [0, 1, 2, 3, 4, 5, 6, 7, 8, 9, 10, 11, 12, 13, 14, 15, 16, 17, 18, 19] (by decide) rfl
  refine W.eq (g2 := F0 m 5 ls []) rfl ?_
  refine lv_iload_n hx hb dX4_chart_5 rfl (lv_at hl 3 rfl) ?_
  refine lv_iconst (v := nI 3) hx hb dX4_chart_6 (by decide +kernel) ?_
  refine e_callSX (As := [.int v, .int (nI 3)]) (rest := []) ⟨hx, hb, hml, hown, hts⟩ hK hX hP hD hS hA hl.1 (c_X4_needIndex_t l hlt E _ v 3 (hv) (by first | omega | assumption | rfl | (simp_all; done)) (by first | omega | assumption | rfl | (simp_all; done))) (va_cwS 2 hts gX4_chart_X4_needIndex rfl rfl rfl (by decide +kernel) ⟨Nat.le_of_ble_eq_true rfl, Nat.le_of_ble_eq_true rfl⟩) [] [0, 1, 2, 3, 4, 5, 6, 7, 8, 9, 10, 11, 12, 13, 14, 15, 16, 17, 18, 19] rfl rfl rfl rfl (by decide) rfl rfl (Nat.le_of_ble_eq_true rfl) dX4_chart_7 ⟨Nat.le_of_ble_eq_true rfl, Nat.le_of_ble_eq_true rfl⟩ (fun ce q9 H locs hsz1 hP hD hS hcell hvm hcl => ?_)
  have hP : va_P E.1 vwCl (wAll E o ad wm st gr co hb_ (nI mo) ga ca ha_ (nI ma) sd tk op sp rc rn wa) H := hP.sub [0, 1, 2, 3, 4, 5, 6, 7, 8, 9, 10, 11, 12, 13, 14, 15, 16, 17, 18, 19] rfl
  have hD : va_D A (wAll E o ad wm st gr co hb_ (nI mo) ga ca ha_ (nI ma) sd tk op sp rc rn wa) := hD.sub [0, 1, 2, 3, 4, 5, 6, 7, 8, 9, 10, 11, 12, 13, 14, 15, 16, 17, 18, 19] (by decide) rfl
  exact e_outX hQ ht hlocks hP hS hcell hvm hcl (Nat.le_of_ble_eq_true rfl) (Nat.le_of_ble_eq_true rfl)

abbrev rm_X4_way : Room := { frames := 4, cells := 0, slots := 0, locals := 94 }
set_option maxHeartbeats 4000000 in
set_option maxRecDepth 100000 in
theorem c_X4_way (l : Launch) (E : eT) (sz : Nat) (o : Nat) (ad : Nat → Nat) (wm : Nat → Int32) (st : Nat → Int32) (gr : Nat → Int32) (co : Nat → Int32) (hb_ : Nat → Bool) (mo : Nat) (ga : Nat → Int32) (ca : Nat → Int32) (ha_ : Nat → Bool) (ma : Nat) (sd : Nat → Int32) (tk : Nat → Int32) (op : Nat → Bool) (sp : Nat → Nat) (rc : Nat → Nat) (rn : Nat) (wa : Nat → Int32) (dr : Int32) (v : Bool) (hdr : isInB dr (nI 0) (nI 39) = true) : cM l yX4_way wsX4_way rm_X4_way E sz [.ref o, .int dr, .int (b2i v)] (wAll E o ad wm st gr co hb_ (nI mo) ga ca ha_ (nI ma) sd tk op sp rc rn wa) (fun u : (Nat → Bool) × (Nat → Nat) × (Nat → Nat) × (Nat) × (Nat → Int32) => some (.int (wayN (if v = true then chSafe sd tk (nI mo) else dep gr co) dr))) (fun u : (Nat → Bool) × (Nat → Nat) × (Nat → Nat) × (Nat) × (Nat → Int32) => True) (fun u : (Nat → Bool) × (Nat → Nat) × (Nat → Nat) × (Nat) × (Nat → Int32) => wAll E o ad wm st gr co hb_ (nI mo) ga ca ha_ (nI ma) sd tk u.1 u.2.1 u.2.2.1 u.2.2.2.1 u.2.2.2.2) := by
  refine cM_intro (cc := cX4_way) (maxL := 4) (ret := (some .int)) (by decide +kernel) rfl (Nat.le_of_ble_eq_true rfl) ?_
  intro p e s m args below meth cd hx hb hr hml hown hlocks hts hnm hK hsz hP A hD hA Q hQ ls hl
  have hown : s.vm.findClass RX4 = some m.cls := hown
  have hin4 : ∀ w ∈ u_ws RX4 TX4 6, w ∈ wsX4_way := by decide +kernel
  have lk36 := hts (.fieldLink RX4 36 "ReefPilot" "spread" "LReefPilot$Spread;") (by decide +kernel)
  have hS : va_S A s.heap s.heap [] := va_S.rf
  have hl : lv_has ls 4 [(0, .ref o), (1, .int dr), (2, .int (b2i v))] := hl
  refine lv_iload_n hx hb dX4_way_0 rfl (lv_at hl 1 rfl) ?_
  refine lv_iconst (v := nI 0) hx hb dX4_way_1 (by decide +kernel) ?_
  refine lv_bipush (v := nI 39) hx hb dX4_way_2 (by decide +kernel) ?_
  refine e_callS (As := [.int dr, .int (nI 0), .int (nI 39)]) (rest := []) ⟨hx, hb, hml, hown, hts⟩ hK hP hD hS hA hl.1 (c_X4_needWithin l E _ dr (nI 0) (nI 39) (hdr)) (va_cwS 3 hts gX4_way_X4_needWithin rfl rfl rfl (by decide +kernel) ⟨Nat.le_of_ble_eq_true rfl, Nat.le_of_ble_eq_true rfl⟩) [] [0, 1, 2, 3, 4, 5, 6, 7, 8, 9, 10, 11, 12, 13, 14, 15, 16, 17, 18, 19] rfl rfl rfl rfl (by decide) rfl rfl (Nat.le_of_ble_eq_true rfl) dX4_way_4 ⟨Nat.le_of_ble_eq_true rfl, Nat.le_of_ble_eq_true rfl⟩ (fun u_1 H locs hu_2 hsz1 hP hD hS => ?_)
  have hP : va_P E.1 vwCl (wAll E o ad wm st gr co hb_ (nI mo) ga ca ha_ (nI ma) sd tk op sp rc rn wa) H := hP.sub [0, 1, 2, 3, 4, 5, 6, 7, 8, 9, 10, 11, 12, 13, 14, 15, 16, 17, 18, 19] rfl
  have hD : va_D A (wAll E o ad wm st gr co hb_ (nI mo) ga ca ha_ (nI ma) sd tk op sp rc rn wa) := hD.sub [0, 1, 2, 3, 4, 5, 6, 7, 8, 9, 10, 11, 12, 13, 14, 15, 16, 17, 18, 19] (by decide) rfl
  refine W.eq (g2 := F0 m 7 ls []) rfl ?_
  refine lv_aload_n hx hb dX4_way_7 rfl (lv_at hl 0 rfl) ?_
  refine lv_iload_n hx hb dX4_way_8 rfl (lv_at hl 2 rfl) ?_
  refine e_callV (As := [.int (b2i v)]) (rest := []) ⟨hx, hb, hml, hown, hts⟩ hK hP hD hS hA hl.1 (c_X4_countOn l E _ o ad wm st gr co hb_ mo ga ca ha_ ma sd tk op sp rc rn wa v) (cwV 1 hts gX4_way_X4_countOn rfl rfl rfl (by decide +kernel) ⟨Nat.le_of_ble_eq_true rfl, Nat.le_of_ble_eq_true rfl⟩) [0, 1, 2, 3, 4, 5, 6, 7, 8, 9, 10, 11, 12, 13, 14, 15, 16, 17, 18, 19] [] rfl rfl rfl rfl (by decide) (q0 := 0) (ci := 4) rfl rfl rfl rfl (Nat.le_of_ble_eq_true rfl) dX4_way_9 ⟨Nat.le_of_ble_eq_true rfl, Nat.le_of_ble_eq_true rfl⟩ (fun u_3 H locs hu_4 hsz1 hP hD hS => ?_)
  have hP : va_P E.1 vwCl (wAll E o ad wm st gr co hb_ (nI mo) ga ca ha_ (nI ma) sd tk op sp rc rn (if v = true then chSafe sd tk (nI mo) else dep gr co)) H := hP.sub [0, 1, 2, 3, 4, 5, 6, 7, 8, 9, 10, 11, 12, 13, 14, 15, 16, 17, 18, 19] rfl
  have hD : va_D A (wAll E o ad wm st gr co hb_ (nI mo) ga ca ha_ (nI ma) sd tk op sp rc rn (if v = true then chSafe sd tk (nI mo) else dep gr co)) := hD.sub [0, 1, 2, 3, 4, 5, 6, 7, 8, 9, 10, 11, 12, 13, 14, 15, 16, 17, 18, 19] (by decide) rfl
  refine W.eq (g2 := F0 m 12 ls []) rfl ?_
  refine lv_aload_n hx hb dX4_way_12 rfl (lv_at hl 0 rfl) ?_
  refine lv_iload_n hx hb dX4_way_13 rfl (lv_at hl 1 rfl) ?_
  refine e_callV (As := [.int dr]) (rest := []) ⟨hx, hb, hml, hown, hts⟩ hK hP hD hS hA hl.1 (c_X4_startOfShortestWay l E _ o ad wm st gr co hb_ mo ga ca ha_ ma sd tk op sp rc rn (if v = true then chSafe sd tk (nI mo) else dep gr co) dr) (cwV 1 hts gX4_way_X4_startOfShortestWay rfl rfl rfl (by decide +kernel) ⟨Nat.le_of_ble_eq_true rfl, Nat.le_of_ble_eq_true rfl⟩) [0, 1, 2, 3, 4, 5, 6, 7, 8, 9, 10, 11, 12, 13, 14, 15, 16, 17, 18, 19] [] rfl rfl rfl rfl (by decide) (q0 := 0) (ci := 4) rfl rfl rfl rfl (Nat.le_of_ble_eq_true rfl) dX4_way_14 ⟨Nat.le_of_ble_eq_true rfl, Nat.le_of_ble_eq_true rfl⟩ (fun u_5 H locs hu_6 hsz1 hP hD hS => ?_)
  obtain ⟨rc__7, rn__8⟩ := u_5
  have hP : va_P E.1 vwCl (wAll E o ad wm st gr co hb_ (nI mo) ga ca ha_ (nI ma) sd tk (opn (if v = true then chSafe sd tk (nI mo) else dep gr co) dr) (dist (opn (if v = true then chSafe sd tk (nI mo) else dep gr co) dr) 72) rc__7 rn__8 (if v = true then chSafe sd tk (nI mo) else dep gr co)) H := hP.sub [0, 1, 2, 3, 4, 5, 6, 7, 8, 9, 10, 11, 12, 13, 14, 15, 16, 17, 18, 19] rfl
  have hD : va_D A (wAll E o ad wm st gr co hb_ (nI mo) ga ca ha_ (nI ma) sd tk (opn (if v = true then chSafe sd tk (nI mo) else dep gr co) dr) (dist (opn (if v = true then chSafe sd tk (nI mo) else dep gr co) dr) 72) rc__7 rn__8 (if v = true then chSafe sd tk (nI mo) else dep gr co)) := hD.sub [0, 1, 2, 3, 4, 5, 6, 7, 8, 9, 10, 11, 12, 13, 14, 15, 16, 17, 18, 19] (by decide) rfl
  refine W.eq (g2 := F0 m 17 ls [.int (oI (bestW (if v = true then chSafe sd tk (nI mo) else dep gr co) dr))]) rfl ?_
  refine lv_istore_n (lv' := [(3, .int (oI (bestW (if v = true then chSafe sd tk (nI mo) else dep gr co) dr))), (0, .ref o), (1, .int dr), (2, .int (b2i v))]) hx hb dX4_way_17 rfl hl (by decide) rfl (fun ls hl => ?_)
  refine lv_iload_n hx hb dX4_way_18 rfl (lv_at hl 0 rfl) ?_
  refine lv_iconst (v := (-1)) hx hb dX4_way_19 (by decide +kernel) ?_
  refine o_icmp_ne (x := bestW (if v = true then chSafe sd tk (nI mo) else dep gr co) dr) (fun q hq => Nat.lt_trans (bestR_lt hq) (by decide)) (tgt := 27) hx hb dX4_way_20 (by decide) (fun qb c20 => ?_) (fun c20 => ?_)
  · have hq9 : qb < 81 := Nat.lt_trans (bestR_lt c20) (by decide)
    refine lv_aload_n hx hb dX4_way_27 rfl (lv_at hl 1 rfl) ?_
    refine va_get (D := E.1) (ci := 4) (v := .ref (ad 14)) (C := RX4) (T := TX4) (N := 6) hx hb hts hin4 hown hK.1 hP 0 rfl rfl 4 (by decide) lk36 (fun _ h9 => h9) rfl dX4_way_28 ?_
    refine lv_iload_n hx hb dX4_way_31 rfl (lv_at hl 0 rfl) ?_
    refine e_top (show oI (bestW (if v = true then chSafe sd tk (nI mo) else dep gr co) dr) = nI qb by rw [c20]; rfl) ?_
    refine e_callV (As := [.int (nI qb)]) (rest := []) ⟨hx, hb, hml, hown, hts⟩ hK hP hD hS hA hl.1 (c_X2_stepsTo l E _ (ad 14) (ad 15) (ad 16) (ad 17) (opn (if v = true then chSafe sd tk (nI mo) else dep gr co) dr) (dist (opn (if v = true then chSafe sd tk (nI mo) else dep gr co) dr) 72) rc__7 rn__8 qb (by first | omega | assumption | rfl | (simp_all; done))) (cwV 1 hts gX4_way_X2_stepsTo rfl rfl rfl (by decide +kernel) ⟨Nat.le_of_ble_eq_true rfl, Nat.le_of_ble_eq_true rfl⟩) [15, 16, 17, 18] [0, 1, 2, 3, 4, 5, 6, 7, 8, 9, 10, 11, 12, 13, 14, 19] rfl rfl rfl rfl (by decide) (q0 := 15) (ci := 2) rfl rfl rfl rfl (Nat.le_of_ble_eq_true rfl) dX4_way_32 ⟨Nat.le_of_ble_eq_true rfl, Nat.le_of_ble_eq_true rfl⟩ (fun u_10 H locs hu_11 hsz1 hP hD hS => ?_)
    have hP : va_P E.1 vwCl (wAll E o ad wm st gr co hb_ (nI mo) ga ca ha_ (nI ma) sd tk (opn (if v = true then chSafe sd tk (nI mo) else dep gr co) dr) (dist (opn (if v = true then chSafe sd tk (nI mo) else dep gr co) dr) 72) rc__7 rn__8 (if v = true then chSafe sd tk (nI mo) else dep gr co)) H := hP.sub [0, 1, 2, 3, 4, 5, 6, 7, 8, 9, 10, 11, 12, 13, 14, 16, 17, 18, 19, 15] rfl
    have hD : va_D A (wAll E o ad wm st gr co hb_ (nI mo) ga ca ha_ (nI ma) sd tk (opn (if v = true then chSafe sd tk (nI mo) else dep gr co) dr) (dist (opn (if v = true then chSafe sd tk (nI mo) else dep gr co) dr) 72) rc__7 rn__8 (if v = true then chSafe sd tk (nI mo) else dep gr co)) := hD.sub [0, 1, 2, 3, 4, 5, 6, 7, 8, 9, 10, 11, 12, 13, 14, 16, 17, 18, 19, 15] (by decide) rfl
    refine W.eq (g2 := F0 m 35 ls [.int (nI ((dist (opn (if v = true then chSafe sd tk (nI mo) else dep gr co) dr) 72) qb))]) rfl ?_
    exact e_iret ((opn (if v = true then chSafe sd tk (nI mo) else dep gr co) dr), (dist (opn (if v = true then chSafe sd tk (nI mo) else dep gr co) dr) 72), rc__7, rn__8, (if v = true then chSafe sd tk (nI mo) else dep gr co)) hQ hx hb hr hlocks hP hD hS dX4_way_35 (rvi (by unfold wayN; rw [c20])) (Nat.le_of_ble_eq_true rfl) (Nat.le_of_ble_eq_true rfl) (trivial)
  · refine lv_iconst (v := (-1)) hx hb dX4_way_23 (by decide +kernel) ?_
    refine lv_goto (tgt := 35) hx hb dX4_way_24 (by decide) ?_
    exact e_iret (opn (if v = true then chSafe sd tk (nI mo) else dep gr co) dr, dist (opn (if v = true then chSafe sd tk (nI mo) else dep gr co) dr) 72, rc__7, rn__8, (if v = true then chSafe sd tk (nI mo) else dep gr co)) hQ hx hb hr hlocks hP hD hS dX4_way_35 (rvi (wayN_none.mpr c20)) (Nat.le_of_ble_eq_true rfl) (Nat.le_of_ble_eq_true rfl) (trivial)

abbrev rm_X4_way_b1 : Room := { frames := 7, cells := 1, slots := 6, locals := 104 }
set_option maxHeartbeats 4000000 in
set_option maxRecDepth 100000 in
theorem c_X4_way_b1 (l : Launch) (hlt : l.stackTraces = false) (E : eT) (sz : Nat) (o : Nat) (ad : Nat → Nat) (wm : Nat → Int32) (st : Nat → Int32) (gr : Nat → Int32) (co : Nat → Int32) (hb_ : Nat → Bool) (mo : Nat) (ga : Nat → Int32) (ca : Nat → Int32) (ha_ : Nat → Bool) (ma : Nat) (sd : Nat → Int32) (tk : Nat → Int32) (op : Nat → Bool) (sp : Nat → Nat) (rc : Nat → Nat) (rn : Nat) (wa : Nat → Int32) (dr : Int32) (v : Bool) (hdr : isInB dr (nI 0) (nI 39) = false) : cX l yX4_way wsX4_way rm_X4_way_b1 E sz [.ref o, .int dr, .int (b2i v)] (wAll E o ad wm st gr co hb_ (nI mo) ga ca ha_ (nI ma) sd tk op sp rc rn wa) nX2 := by
  refine cX_intro (cc := cX4_way) (maxL := 4) (ret := (some .int)) (by decide +kernel) rfl (Nat.le_of_ble_eq_true rfl) ?_
  intro p e s m args below meth cd hx hb hr hml hown hlocks hts hnm ht hK hsz hP A hD hA hX Q hQ ls hl
  have hown : s.vm.findClass RX4 = some m.cls := hown
  have hS : va_S A s.heap s.heap [] := va_S.rf
  have hl : lv_has ls 4 [(0, .ref o), (1, .int dr), (2, .int (b2i v))] := hl
  refine lv_iload_n hx hb dX4_way_0 rfl (lv_at hl 1 rfl) ?_
  refine lv_iconst (v := nI 0) hx hb dX4_way_1 (by decide +kernel) ?_
  refine lv_bipush (v := nI 39) hx hb dX4_way_2 (by decide +kernel) ?_
  refine e_callSX (As := [.int dr, .int (nI 0), .int (nI 39)]) (rest := []) ⟨hx, hb, hml, hown, hts⟩ hK hX hP hD hS hA hl.1 (c_X4_needWithin_t l hlt E _ dr (nI 0) (nI 39) (hdr)) (va_cwS 3 hts gX4_way_X4_needWithin rfl rfl rfl (by decide +kernel) ⟨Nat.le_of_ble_eq_true rfl, Nat.le_of_ble_eq_true rfl⟩) [] [0, 1, 2, 3, 4, 5, 6, 7, 8, 9, 10, 11, 12, 13, 14, 15, 16, 17, 18, 19] rfl rfl rfl rfl (by decide) rfl rfl (Nat.le_of_ble_eq_true rfl) dX4_way_4 ⟨Nat.le_of_ble_eq_true rfl, Nat.le_of_ble_eq_true rfl⟩ (fun ce q9 H locs hsz1 hP hD hS hcell hvm hcl => ?_)
  have hP : va_P E.1 vwCl (wAll E o ad wm st gr co hb_ (nI mo) ga ca ha_ (nI ma) sd tk op sp rc rn wa) H := hP.sub [0, 1, 2, 3, 4, 5, 6, 7, 8, 9, 10, 11, 12, 13, 14, 15, 16, 17, 18, 19] rfl
  have hD : va_D A (wAll E o ad wm st gr co hb_ (nI mo) ga ca ha_ (nI ma) sd tk op sp rc rn wa) := hD.sub [0, 1, 2, 3, 4, 5, 6, 7, 8, 9, 10, 11, 12, 13, 14, 15, 16, 17, 18, 19] (by decide) rfl
  exact e_outX hQ ht hlocks hP hS hcell hvm hcl (Nat.le_of_ble_eq_true rfl) (Nat.le_of_ble_eq_true rfl)

abbrev rm_X4_harbours : Room := { frames := 4, cells := 0, slots := 0, locals := 86 }
set_option maxHeartbeats 4000000 in
set_option maxRecDepth 100000 in
theorem c_X4_harbours (l : Launch) (E : eT) (sz : Nat) (o : Nat) (ad : Nat → Nat) (wm : Nat → Int32) (st : Nat → Int32) (gr : Nat → Int32) (co : Nat → Int32) (hb_ : Nat → Bool) (mo : Nat) (ga : Nat → Int32) (ca : Nat → Int32) (ha_ : Nat → Bool) (ma : Nat) (sd : Nat → Int32) (tk : Nat → Int32) (op : Nat → Bool) (sp : Nat → Nat) (rc : Nat → Nat) (rn : Nat) (wa : Nat → Int32) (dr : Int32) (hdr : isInB dr (nI 0) (nI 39) = true) : cM l yX4_harbours wsX4_harbours rm_X4_harbours E sz [.ref o, .int dr] (wAll E o ad wm st gr co hb_ (nI mo) ga ca ha_ (nI ma) sd tk op sp rc rn wa) (fun u : (Nat → Bool) × (Nat → Nat) × (Nat → Nat) × (Nat) × (Nat → Int32) => some (.int (nI (harbN (dep gr co) dr)))) (fun u : (Nat → Bool) × (Nat → Nat) × (Nat → Nat) × (Nat) × (Nat → Int32) => True) (fun u : (Nat → Bool) × (Nat → Nat) × (Nat → Nat) × (Nat) × (Nat → Int32) => wAll E o ad wm st gr co hb_ (nI mo) ga ca ha_ (nI ma) sd tk u.1 u.2.1 u.2.2.1 u.2.2.2.1 u.2.2.2.2) := by
  refine cM_intro (cc := cX4_harbours) (maxL := 4) (ret := (some .int)) (by decide +kernel) rfl (Nat.le_of_ble_eq_true rfl) ?_
  intro p e s m args below meth cd hx hb hr hml hown hlocks hts hnm hK hsz hP A hD hA Q hQ ls hl
  have hown : s.vm.findClass RX4 = some m.cls := hown
  have hin4 : ∀ w ∈ u_ws RX4 TX4 6, w ∈ wsX4_harbours := by decide +kernel
  have lk36 := hts (.fieldLink RX4 36 "ReefPilot" "spread" "LReefPilot$Spread;") (by decide +kernel)
  have hS : va_S A s.heap s.heap [] := va_S.rf
  have hl : lv_has ls 4 [(0, .ref o), (1, .int dr)] := hl
  refine lv_iload_n hx hb dX4_harbours_0 rfl (lv_at hl 1 rfl) ?_
  refine lv_iconst (v := nI 0) hx hb dX4_harbours_1 (by decide +kernel) ?_
  refine lv_bipush (v := nI 39) hx hb dX4_harbours_2 (by decide +kernel) ?_
  refine e_callS (As := [.int dr, .int (nI 0), .int (nI 39)]) (rest := []) ⟨hx, hb, hml, hown, hts⟩ hK hP hD hS hA hl.1 (c_X4_needWithin l E _ dr (nI 0) (nI 39) (hdr)) (va_cwS 3 hts gX4_harbours_X4_needWithin rfl rfl rfl (by decide +kernel) ⟨Nat.le_of_ble_eq_true rfl, Nat.le_of_ble_eq_true rfl⟩) [] [0, 1, 2, 3, 4, 5, 6, 7, 8, 9, 10, 11, 12, 13, 14, 15, 16, 17, 18, 19] rfl rfl rfl rfl (by decide) rfl rfl (Nat.le_of_ble_eq_true rfl) dX4_harbours_4 ⟨Nat.le_of_ble_eq_true rfl, Nat.le_of_ble_eq_true rfl⟩ (fun u_1 H locs hu_2 hsz1 hP hD hS => ?_)
  have hP : va_P E.1 vwCl (wAll E o ad wm st gr co hb_ (nI mo) ga ca ha_ (nI ma) sd tk op sp rc rn wa) H := hP.sub [0, 1, 2, 3, 4, 5, 6, 7, 8, 9, 10, 11, 12, 13, 14, 15, 16, 17, 18, 19] rfl
  have hD : va_D A (wAll E o ad wm st gr co hb_ (nI mo) ga ca ha_ (nI ma) sd tk op sp rc rn wa) := hD.sub [0, 1, 2, 3, 4, 5, 6, 7, 8, 9, 10, 11, 12, 13, 14, 15, 16, 17, 18, 19] (by decide) rfl
  refine W.eq (g2 := F0 m 7 ls []) rfl ?_
  refine lv_aload_n hx hb dX4_harbours_7 rfl (lv_at hl 0 rfl) ?_
  refine lv_iconst (v := nI 0) hx hb dX4_harbours_8 (by decide +kernel) ?_
  refine e_callV (As := [.int (nI 0)]) (rest := []) ⟨hx, hb, hml, hown, hts⟩ hK hP hD hS hA hl.1 (c_X4_countOn l E _ o ad wm st gr co hb_ mo ga ca ha_ ma sd tk op sp rc rn wa false) (cwV 1 hts gX4_harbours_X4_countOn rfl rfl rfl (by decide +kernel) ⟨Nat.le_of_ble_eq_true rfl, Nat.le_of_ble_eq_true rfl⟩) [0, 1, 2, 3, 4, 5, 6, 7, 8, 9, 10, 11, 12, 13, 14, 15, 16, 17, 18, 19] [] rfl rfl rfl rfl (by decide) (q0 := 0) (ci := 4) rfl rfl rfl rfl (Nat.le_of_ble_eq_true rfl) dX4_harbours_9 ⟨Nat.le_of_ble_eq_true rfl, Nat.le_of_ble_eq_true rfl⟩ (fun u_3 H locs hu_4 hsz1 hP hD hS => ?_)
  have hP : va_P E.1 vwCl (wAll E o ad wm st gr co hb_ (nI mo) ga ca ha_ (nI ma) sd tk op sp rc rn (if false = true then chSafe sd tk (nI mo) else dep gr co)) H := hP.sub [0, 1, 2, 3, 4, 5, 6, 7, 8, 9, 10, 11, 12, 13, 14, 15, 16, 17, 18, 19] rfl
  have hD : va_D A (wAll E o ad wm st gr co hb_ (nI mo) ga ca ha_ (nI ma) sd tk op sp rc rn (if false = true then chSafe sd tk (nI mo) else dep gr co)) := hD.sub [0, 1, 2, 3, 4, 5, 6, 7, 8, 9, 10, 11, 12, 13, 14, 15, 16, 17, 18, 19] (by decide) rfl
  refine W.eq (g2 := F0 m 12 ls []) rfl ?_
  refine lv_aload_n hx hb dX4_harbours_12 rfl (lv_at hl 0 rfl) ?_
  refine lv_iload_n hx hb dX4_harbours_13 rfl (lv_at hl 1 rfl) ?_
  refine e_callV (As := [.int dr]) (rest := []) ⟨hx, hb, hml, hown, hts⟩ hK hP hD hS hA hl.1 (c_X4_openWater l E _ o ad wm st gr co hb_ mo ga ca ha_ ma sd tk op sp rc rn (if false = true then chSafe sd tk (nI mo) else dep gr co) dr) (cwV 1 hts gX4_harbours_X4_openWater rfl rfl rfl (by decide +kernel) ⟨Nat.le_of_ble_eq_true rfl, Nat.le_of_ble_eq_true rfl⟩) [0, 1, 2, 3, 4, 5, 6, 7, 8, 9, 10, 11, 12, 13, 14, 15, 16, 17, 18, 19] [] rfl rfl rfl rfl (by decide) (q0 := 0) (ci := 4) rfl rfl rfl rfl (Nat.le_of_ble_eq_true rfl) dX4_harbours_14 ⟨Nat.le_of_ble_eq_true rfl, Nat.le_of_ble_eq_true rfl⟩ (fun u_5 H locs hu_6 hsz1 hP hD hS => ?_)
  have hP : va_P E.1 vwCl (wAll E o ad wm st gr co hb_ (nI mo) ga ca ha_ (nI ma) sd tk (opn (if false = true then chSafe sd tk (nI mo) else dep gr co) dr) (fun _ => 0) rc 0 (if false = true then chSafe sd tk (nI mo) else dep gr co)) H := hP.sub [0, 1, 2, 3, 4, 5, 6, 7, 8, 9, 10, 11, 12, 13, 14, 15, 16, 17, 18, 19] rfl
  have hD : va_D A (wAll E o ad wm st gr co hb_ (nI mo) ga ca ha_ (nI ma) sd tk (opn (if false = true then chSafe sd tk (nI mo) else dep gr co) dr) (fun _ => 0) rc 0 (if false = true then chSafe sd tk (nI mo) else dep gr co)) := hD.sub [0, 1, 2, 3, 4, 5, 6, 7, 8, 9, 10, 11, 12, 13, 14, 15, 16, 17, 18, 19] (by decide) rfl
  refine W.eq (g2 := F0 m 17 ls []) rfl ?_
  refine lv_aload_n hx hb dX4_harbours_17 rfl (lv_at hl 0 rfl) ?_
  refine va_get (D := E.1) (ci := 4) (v := .ref (ad 14)) (C := RX4) (T := TX4) (N := 6) hx hb hts hin4 hown hK.1 hP 0 rfl rfl 4 (by decide) lk36 (fun _ h9 => h9) rfl dX4_harbours_18 ?_
  refine lv_iconst (v := nI 0) hx hb dX4_harbours_21 (by decide +kernel) ?_
  refine e_callV (As := [.int (nI 0)]) (rest := []) ⟨hx, hb, hml, hown, hts⟩ hK hP hD hS hA hl.1 (c_X2_goFromRow l E _ (ad 14) (ad 15) (ad 16) (ad 17) (opn (if false = true then chSafe sd tk (nI mo) else dep gr co) dr) (fun _ => 0) rc 0 0 (by decide) (bClr_ok)) (cwV 1 hts gX4_harbours_X2_goFromRow rfl rfl rfl (by decide +kernel) ⟨Nat.le_of_ble_eq_true rfl, Nat.le_of_ble_eq_true rfl⟩) [15, 16, 17, 18] [0, 1, 2, 3, 4, 5, 6, 7, 8, 9, 10, 11, 12, 13, 14, 19] rfl rfl rfl rfl (by decide) (q0 := 15) (ci := 2) rfl rfl rfl rfl (Nat.le_of_ble_eq_true rfl) dX4_harbours_22 ⟨Nat.le_of_ble_eq_true rfl, Nat.le_of_ble_eq_true rfl⟩ (fun u_7 H locs hu_8 hsz1 hP hD hS => ?_)
  have hP : va_P E.1 vwCl (wAll E o ad wm st gr co hb_ (nI mo) ga ca ha_ (nI ma) sd tk (opn (if false = true then chSafe sd tk (nI mo) else dep gr co) dr) ((bGo (opn (if false = true then chSafe sd tk (nI mo) else dep gr co) dr) 82 (bRow (opn (if false = true then chSafe sd tk (nI mo) else dep gr co) dr) ((fun _ => 0), rc, 0) 0 9) 0).1) ((bGo (opn (if false = true then chSafe sd tk (nI mo) else dep gr co) dr) 82 (bRow (opn (if false = true then chSafe sd tk (nI mo) else dep gr co) dr) ((fun _ => 0), rc, 0) 0 9) 0).2.1) ((bGo (opn (if false = true then chSafe sd tk (nI mo) else dep gr co) dr) 82 (bRow (opn (if false = true then chSafe sd tk (nI mo) else dep gr co) dr) ((fun _ => 0), rc, 0) 0 9) 0).2.2) (if false = true then chSafe sd tk (nI mo) else dep gr co)) H := hP.sub [0, 1, 2, 3, 4, 5, 6, 7, 8, 9, 10, 11, 12, 13, 14, 16, 17, 18, 19, 15] rfl
  have hD : va_D A (wAll E o ad wm st gr co hb_ (nI mo) ga ca ha_ (nI ma) sd tk (opn (if false = true then chSafe sd tk (nI mo) else dep gr co) dr) ((bGo (opn (if false = true then chSafe sd tk (nI mo) else dep gr co) dr) 82 (bRow (opn (if false = true then chSafe sd tk (nI mo) else dep gr co) dr) ((fun _ => 0), rc, 0) 0 9) 0).1) ((bGo (opn (if false = true then chSafe sd tk (nI mo) else dep gr co) dr) 82 (bRow (opn (if false = true then chSafe sd tk (nI mo) else dep gr co) dr) ((fun _ => 0), rc, 0) 0 9) 0).2.1) ((bGo (opn (if false = true then chSafe sd tk (nI mo) else dep gr co) dr) 82 (bRow (opn (if false = true then chSafe sd tk (nI mo) else dep gr co) dr) ((fun _ => 0), rc, 0) 0 9) 0).2.2) (if false = true then chSafe sd tk (nI mo) else dep gr co)) := hD.sub [0, 1, 2, 3, 4, 5, 6, 7, 8, 9, 10, 11, 12, 13, 14, 16, 17, 18, 19, 15] (by decide) rfl
  refine W.eq (g2 := F0 m 25 ls []) rfl ?_
  have hds : (bGo (opn (if false = true then chSafe sd tk (nI mo) else dep gr co) dr) 82 (bRow (opn (if false = true then chSafe sd tk (nI mo) else dep gr co) dr) ((fun _ => 0), rc, 0) 0 9) 0).1 = dist (opn (if false = true then chSafe sd tk (nI mo) else dep gr co) dr) 0 := distS_eq (by decide)
  have hP : va_P E.1 vwCl (wAll E o ad wm st gr co hb_ (nI mo) ga ca ha_ (nI ma) sd tk (opn (if false = true then chSafe sd tk (nI mo) else dep gr co) dr) (dist (opn (if false = true then chSafe sd tk (nI mo) else dep gr co) dr) 0) ((bGo (opn (if false = true then chSafe sd tk (nI mo) else dep gr co) dr) 82 (bRow (opn (if false = true then chSafe sd tk (nI mo) else dep gr co) dr) ((fun _ => 0), rc, 0) 0 9) 0).2.1) ((bGo (opn (if false = true then chSafe sd tk (nI mo) else dep gr co) dr) 82 (bRow (opn (if false = true then chSafe sd tk (nI mo) else dep gr co) dr) ((fun _ => 0), rc, 0) 0 9) 0).2.2) (if false = true then chSafe sd tk (nI mo) else dep gr co)) H := by (rw [← hds]); exact hP
  have hD : va_D A (wAll E o ad wm st gr co hb_ (nI mo) ga ca ha_ (nI ma) sd tk (opn (if false = true then chSafe sd tk (nI mo) else dep gr co) dr) (dist (opn (if false = true then chSafe sd tk (nI mo) else dep gr co) dr) 0) ((bGo (opn (if false = true then chSafe sd tk (nI mo) else dep gr co) dr) 82 (bRow (opn (if false = true then chSafe sd tk (nI mo) else dep gr co) dr) ((fun _ => 0), rc, 0) 0 9) 0).2.1) ((bGo (opn (if false = true then chSafe sd tk (nI mo) else dep gr co) dr) 82 (bRow (opn (if false = true then chSafe sd tk (nI mo) else dep gr co) dr) ((fun _ => 0), rc, 0) 0 9) 0).2.2) (if false = true then chSafe sd tk (nI mo) else dep gr co)) := by (rw [← hds]); exact hD
  refine lv_iconst (v := nI 0) hx hb dX4_harbours_25 (by decide +kernel) ?_
  refine lv_istore_n (lv' := [(2, .int (nI 0)), (0, .ref o), (1, .int dr)]) hx hb dX4_harbours_26 rfl hl (by decide) rfl (fun ls hl => ?_)
  refine lv_bipush (v := nI 72) hx hb dX4_harbours_27 (by decide +kernel) ?_
  refine lv_istore_n (lv' := [(3, .int (nI 72)), (2, .int (nI 0)), (0, .ref o), (1, .int dr)]) hx hb dX4_harbours_29 rfl hl (by decide) rfl (fun ls hl => ?_)
  have L30 : ∀ (fuel : Nat) (x : Nat) (z : Nat) (hz : z ≤ 81) (hz72 : 72 ≤ z) (hx_ : x = fb_ct (fun k => decide (0 < dist (opn (dep gr co) dr) 0 (72 + k))) (z - 72)) (hfuel : 81 - z < fuel) (H : Heap) (locs : List Loc), va_P E.1 vwCl (wAll E o ad wm st gr co hb_ (nI mo) ga ca ha_ (nI ma) sd tk (opn (if false = true then chSafe sd tk (nI mo) else dep gr co) dr) (dist (opn (if false = true then chSafe sd tk (nI mo) else dep gr co) dr) 0) ((bGo (opn (if false = true then chSafe sd tk (nI mo) else dep gr co) dr) 82 (bRow (opn (if false = true then chSafe sd tk (nI mo) else dep gr co) dr) ((fun _ => 0), rc, 0) 0 9) 0).2.1) ((bGo (opn (if false = true then chSafe sd tk (nI mo) else dep gr co) dr) 82 (bRow (opn (if false = true then chSafe sd tk (nI mo) else dep gr co) dr) ((fun _ => 0), rc, 0) 0 9) 0).2.2) (if false = true then chSafe sd tk (nI mo) else dep gr co)) H → va_D A (wAll E o ad wm st gr co hb_ (nI mo) ga ca ha_ (nI ma) sd tk (opn (if false = true then chSafe sd tk (nI mo) else dep gr co) dr) (dist (opn (if false = true then chSafe sd tk (nI mo) else dep gr co) dr) 0) ((bGo (opn (if false = true then chSafe sd tk (nI mo) else dep gr co) dr) 82 (bRow (opn (if false = true then chSafe sd tk (nI mo) else dep gr co) dr) ((fun _ => 0), rc, 0) 0 9) 0).2.1) ((bGo (opn (if false = true then chSafe sd tk (nI mo) else dep gr co) dr) 82 (bRow (opn (if false = true then chSafe sd tk (nI mo) else dep gr co) dr) ((fun _ => 0), rc, 0) 0 9) 0).2.2) (if false = true then chSafe sd tk (nI mo) else dep gr co)) → va_S A s.heap H locs → ∀ ls : Array Slot, lv_has ls 4 [(3, .int (nI z)), (2, .int (nI x)), (0, .ref o), (1, .int dr)] → W p l e rm_X4_harbours s m args below meth cd H locs 0 0 Q (F0 m 30 ls []) := by
    intro fuel
    induction fuel with
    | zero => intros; omega
    | succ fuel ihL30 =>
      intro x z hz hz72 hx_ hfuel H locs hP hD hS ls hl
      have hxz := fb_ct_le (fun k => decide (0 < dist (opn (dep gr co) dr) 0 (72 + k))) (z - 72)
      have hdz := dist_le (op := opn (if false = true then chSafe sd tk (nI mo) else dep gr co) dr) (r := 0) (by decide) z
      refine lv_iload_n hx hb dX4_harbours_30 rfl (lv_at hl 0 rfl) ?_
      refine lv_bipush (v := nI 81) hx hb dX4_harbours_31 (by decide +kernel) ?_
      refine n_icmp_ge (x := z) (y := 81) (by omega) (by omega) (tgt := 56) hx hb dX4_harbours_33 (by decide) (fun c33 => ?_) (fun c33 => ?_)
      · refine lv_iload_n hx hb dX4_harbours_56 rfl (lv_at hl 1 rfl) ?_
        exact e_iret ((opn (if false = true then chSafe sd tk (nI mo) else dep gr co) dr), dist (opn (if false = true then chSafe sd tk (nI mo) else dep gr co) dr) 0, (bGo (opn (if false = true then chSafe sd tk (nI mo) else dep gr co) dr) 82 (bRow (opn (if false = true then chSafe sd tk (nI mo) else dep gr co) dr) ((fun _ => 0), rc, 0) 0 9) 0).2.1, (bGo (opn (if false = true then chSafe sd tk (nI mo) else dep gr co) dr) 82 (bRow (opn (if false = true then chSafe sd tk (nI mo) else dep gr co) dr) ((fun _ => 0), rc, 0) 0 9) 0).2.2, (if false = true then chSafe sd tk (nI mo) else dep gr co)) hQ hx hb hr hlocks hP hD hS dX4_harbours_57 (rvi (by rw [hx_, show z = 81 by omega]; rfl)) (Nat.le_of_ble_eq_true rfl) (Nat.le_of_ble_eq_true rfl) (trivial)
      · refine lv_aload_n hx hb dX4_harbours_36 rfl (lv_at hl 2 rfl) ?_
        refine va_get (D := E.1) (ci := 4) (v := .ref (ad 14)) (C := RX4) (T := TX4) (N := 6) hx hb hts hin4 hown hK.1 hP 0 rfl rfl 4 (by decide) lk36 (fun _ h9 => h9) rfl dX4_harbours_37 ?_
        refine lv_iload_n hx hb dX4_harbours_40 rfl (lv_at hl 0 rfl) ?_
        refine e_callV (As := [.int (nI z)]) (rest := []) ⟨hx, hb, hml, hown, hts⟩ hK hP hD hS hA hl.1 (c_X2_stepsTo l E _ (ad 14) (ad 15) (ad 16) (ad 17) (opn (if false = true then chSafe sd tk (nI mo) else dep gr co) dr) (dist (opn (if false = true then chSafe sd tk (nI mo) else dep gr co) dr) 0) ((bGo (opn (if false = true then chSafe sd tk (nI mo) else dep gr co) dr) 82 (bRow (opn (if false = true then chSafe sd tk (nI mo) else dep gr co) dr) ((fun _ => 0), rc, 0) 0 9) 0).2.1) ((bGo (opn (if false = true then chSafe sd tk (nI mo) else dep gr co) dr) 82 (bRow (opn (if false = true then chSafe sd tk (nI mo) else dep gr co) dr) ((fun _ => 0), rc, 0) 0 9) 0).2.2) z (by first | omega | assumption | rfl | (simp_all; done))) (cwV 1 hts gX4_harbours_X2_stepsTo rfl rfl rfl (by decide +kernel) ⟨Nat.le_of_ble_eq_true rfl, Nat.le_of_ble_eq_true rfl⟩) [15, 16, 17, 18] [0, 1, 2, 3, 4, 5, 6, 7, 8, 9, 10, 11, 12, 13, 14, 19] rfl rfl rfl rfl (by decide) (q0 := 15) (ci := 2) rfl rfl rfl rfl (Nat.le_of_ble_eq_true rfl) dX4_harbours_41 ⟨Nat.le_of_ble_eq_true rfl, Nat.le_of_ble_eq_true rfl⟩ (fun u_9 H locs hu_10 hsz1 hP hD hS => ?_)
        have hP : va_P E.1 vwCl (wAll E o ad wm st gr co hb_ (nI mo) ga ca ha_ (nI ma) sd tk (opn (if false = true then chSafe sd tk (nI mo) else dep gr co) dr) (dist (opn (if false = true then chSafe sd tk (nI mo) else dep gr co) dr) 0) ((bGo (opn (if false = true then chSafe sd tk (nI mo) else dep gr co) dr) 82 (bRow (opn (if false = true then chSafe sd tk (nI mo) else dep gr co) dr) ((fun _ => 0), rc, 0) 0 9) 0).2.1) ((bGo (opn (if false = true then chSafe sd tk (nI mo) else dep gr co) dr) 82 (bRow (opn (if false = true then chSafe sd tk (nI mo) else dep gr co) dr) ((fun _ => 0), rc, 0) 0 9) 0).2.2) (if false = true then chSafe sd tk (nI mo) else dep gr co)) H := hP.sub [0, 1, 2, 3, 4, 5, 6, 7, 8, 9, 10, 11, 12, 13, 14, 16, 17, 18, 19, 15] rfl
        have hD : va_D A (wAll E o ad wm st gr co hb_ (nI mo) ga ca ha_ (nI ma) sd tk (opn (if false = true then chSafe sd tk (nI mo) else dep gr co) dr) (dist (opn (if false = true then chSafe sd tk (nI mo) else dep gr co) dr) 0) ((bGo (opn (if false = true then chSafe sd tk (nI mo) else dep gr co) dr) 82 (bRow (opn (if false = true then chSafe sd tk (nI mo) else dep gr co) dr) ((fun _ => 0), rc, 0) 0 9) 0).2.1) ((bGo (opn (if false = true then chSafe sd tk (nI mo) else dep gr co) dr) 82 (bRow (opn (if false = true then chSafe sd tk (nI mo) else dep gr co) dr) ((fun _ => 0), rc, 0) 0 9) 0).2.2) (if false = true then chSafe sd tk (nI mo) else dep gr co)) := hD.sub [0, 1, 2, 3, 4, 5, 6, 7, 8, 9, 10, 11, 12, 13, 14, 16, 17, 18, 19, 15] (by decide) rfl
        refine W.eq (g2 := F0 m 44 ls [.int (nI ((dist (opn (if false = true then chSafe sd tk (nI mo) else dep gr co) dr) 0) z))]) rfl ?_
        refine n_if_le (x := (dist (opn (if false = true then chSafe sd tk (nI mo) else dep gr co) dr) 0) z) (by omega) (tgt := 50) hx hb dX4_harbours_44 (by decide) (fun c44 => ?_) (fun c44 => ?_)
        · refine lv_iinc (v := nI (z + 1)) (lv' := [(3, .int (nI (z + 1))), (2, .int (nI x)), (0, .ref o), (1, .int dr)]) hx hb dX4_harbours_50 hl (k := 0) rfl (nI_add z 1) (by decide) rfl (fun ls hl => ?_)
          refine lv_goto (tgt := 30) hx hb dX4_harbours_53 (by decide) ?_
          exact ihL30 x (z + 1) (by first | omega | assumption | rfl | (simp_all; done)) (by first | omega | assumption | rfl | (simp_all; done)) (by rw [show z + 1 - 72 = (z - 72) + 1 by omega]; first | (rw [fb_t (f := fun k => decide (0 < dist (opn (dep gr co) dr) 0 (72 + k))) (decide_eq_true (show 0 < dist (opn (dep gr co) dr) 0 (72 + (z - 72)) by rw [show 72 + (z - 72) = z by omega]; exact c44))]; omega) | (rw [fb_f (f := fun k => decide (0 < dist (opn (dep gr co) dr) 0 (72 + k))) (decide_eq_false (show ¬ 0 < dist (opn (dep gr co) dr) 0 (72 + (z - 72)) by rw [show 72 + (z - 72) = z by omega]; first | exact c44 | exact Nat.not_lt.mpr c44 | exact Nat.not_lt.mpr (Nat.le_of_eq c44)))]; omega)) (by omega) _ _ hP hD hS _ (lv_sub hl [0, 1, 2, 3] rfl)
        · refine lv_iinc (v := nI (x + 1)) (lv' := [(2, .int (nI (x + 1))), (3, .int (nI z)), (0, .ref o), (1, .int dr)]) hx hb dX4_harbours_47 hl (k := 1) rfl (nI_add x 1) (by decide) rfl (fun ls hl => ?_)
          refine lv_iinc (v := nI (z + 1)) (lv' := [(3, .int (nI (z + 1))), (2, .int (nI (x + 1))), (0, .ref o), (1, .int dr)]) hx hb dX4_harbours_50 hl (k := 1) rfl (nI_add z 1) (by decide) rfl (fun ls hl => ?_)
          refine lv_goto (tgt := 30) hx hb dX4_harbours_53 (by decide) ?_
          exact ihL30 (x + 1) (z + 1) (by first | omega | assumption | rfl | (simp_all; done)) (by first | omega | assumption | rfl | (simp_all; done)) (by rw [show z + 1 - 72 = (z - 72) + 1 by omega]; first | (rw [fb_t (f := fun k => decide (0 < dist (opn (dep gr co) dr) 0 (72 + k))) (decide_eq_true (show 0 < dist (opn (dep gr co) dr) 0 (72 + (z - 72)) by rw [show 72 + (z - 72) = z by omega]; exact c44))]; omega) | (rw [fb_f (f := fun k => decide (0 < dist (opn (dep gr co) dr) 0 (72 + k))) (decide_eq_false (show ¬ 0 < dist (opn (dep gr co) dr) 0 (72 + (z - 72)) by rw [show 72 + (z - 72) = z by omega]; first | exact c44 | exact Nat.not_lt.mpr c44 | exact Nat.not_lt.mpr (Nat.le_of_eq c44)))]; omega)) (by omega) _ _ hP hD hS _ (lv_sub hl [0, 1, 2, 3] rfl)
  exact L30 (81 - 72 + 1) 0 72 (by first | omega | assumption | rfl | (simp_all; done)) (by first | omega | assumption | rfl | (simp_all; done)) (rfl) (Nat.lt_succ_self _) _ _ hP hD hS _ (lv_sub hl [0, 1, 2, 3] rfl)

abbrev rm_X4_harbours_b1 : Room := { frames := 7, cells := 1, slots := 6, locals := 104 }
set_option maxHeartbeats 4000000 in
set_option maxRecDepth 100000 in
theorem c_X4_harbours_b1 (l : Launch) (hlt : l.stackTraces = false) (E : eT) (sz : Nat) (o : Nat) (ad : Nat → Nat) (wm : Nat → Int32) (st : Nat → Int32) (gr : Nat → Int32) (co : Nat → Int32) (hb_ : Nat → Bool) (mo : Nat) (ga : Nat → Int32) (ca : Nat → Int32) (ha_ : Nat → Bool) (ma : Nat) (sd : Nat → Int32) (tk : Nat → Int32) (op : Nat → Bool) (sp : Nat → Nat) (rc : Nat → Nat) (rn : Nat) (wa : Nat → Int32) (dr : Int32) (hdr : isInB dr (nI 0) (nI 39) = false) : cX l yX4_harbours wsX4_harbours rm_X4_harbours_b1 E sz [.ref o, .int dr] (wAll E o ad wm st gr co hb_ (nI mo) ga ca ha_ (nI ma) sd tk op sp rc rn wa) nX2 := by
  refine cX_intro (cc := cX4_harbours) (maxL := 4) (ret := (some .int)) (by decide +kernel) rfl (Nat.le_of_ble_eq_true rfl) ?_
  intro p e s m args below meth cd hx hb hr hml hown hlocks hts hnm ht hK hsz hP A hD hA hX Q hQ ls hl
  have hown : s.vm.findClass RX4 = some m.cls := hown
  have hS : va_S A s.heap s.heap [] := va_S.rf
  have hl : lv_has ls 4 [(0, .ref o), (1, .int dr)] := hl
  refine lv_iload_n hx hb dX4_harbours_0 rfl (lv_at hl 1 rfl) ?_
  refine lv_iconst (v := nI 0) hx hb dX4_harbours_1 (by decide +kernel) ?_
  refine lv_bipush (v := nI 39) hx hb dX4_harbours_2 (by decide +kernel) ?_
  refine e_callSX (As := [.int dr, .int (nI 0), .int (nI 39)]) (rest := []) ⟨hx, hb, hml, hown, hts⟩ hK hX hP hD hS hA hl.1 (c_X4_needWithin_t l hlt E _ dr (nI 0) (nI 39) (hdr)) (va_cwS 3 hts gX4_harbours_X4_needWithin rfl rfl rfl (by decide +kernel) ⟨Nat.le_of_ble_eq_true rfl, Nat.le_of_ble_eq_true rfl⟩) [] [0, 1, 2, 3, 4, 5, 6, 7, 8, 9, 10, 11, 12, 13, 14, 15, 16, 17, 18, 19] rfl rfl rfl rfl (by decide) rfl rfl (Nat.le_of_ble_eq_true rfl) dX4_harbours_4 ⟨Nat.le_of_ble_eq_true rfl, Nat.le_of_ble_eq_true rfl⟩ (fun ce q9 H locs hsz1 hP hD hS hcell hvm hcl => ?_)
  have hP : va_P E.1 vwCl (wAll E o ad wm st gr co hb_ (nI mo) ga ca ha_ (nI ma) sd tk op sp rc rn wa) H := hP.sub [0, 1, 2, 3, 4, 5, 6, 7, 8, 9, 10, 11, 12, 13, 14, 15, 16, 17, 18, 19] rfl
  have hD : va_D A (wAll E o ad wm st gr co hb_ (nI mo) ga ca ha_ (nI ma) sd tk op sp rc rn wa) := hD.sub [0, 1, 2, 3, 4, 5, 6, 7, 8, 9, 10, 11, 12, 13, 14, 15, 16, 17, 18, 19] (by decide) rfl
  exact e_outX hQ ht hlocks hP hS hcell hvm hcl (Nat.le_of_ble_eq_true rfl) (Nat.le_of_ble_eq_true rfl)

abbrev rm_X4_pilot : Room := { frames := 4, cells := 0, slots := 0, locals := 94 }
set_option maxHeartbeats 4000000 in
set_option maxRecDepth 100000 in
theorem c_X4_pilot (l : Launch) (E : eT) (sz : Nat) (o : Nat) (ad : Nat → Nat) (wm : Nat → Int32) (st : Nat → Int32) (gr : Nat → Int32) (co : Nat → Int32) (hb_ : Nat → Bool) (mo : Nat) (ga : Nat → Int32) (ca : Nat → Int32) (ha_ : Nat → Bool) (ma : Nat) (sd : Nat → Int32) (tk : Nat → Int32) (op : Nat → Bool) (sp : Nat → Nat) (rc : Nat → Nat) (rn : Nat) (wa : Nat → Int32) (dr : Int32) (hdr : isInB dr (nI 0) (nI 39) = true) : cM l yX4_pilot wsX4_pilot rm_X4_pilot E sz [.ref o, .int dr] (wAll E o ad wm st gr co hb_ (nI mo) ga ca ha_ (nI ma) sd tk op sp rc rn wa) (fun u : (Nat → Bool) × (Nat → Nat) × (Nat → Nat) × (Nat) × (Nat → Int32) => some (.int (pilotN (chSafe sd tk (nI mo)) (dep gr co) dr))) (fun u : (Nat → Bool) × (Nat → Nat) × (Nat → Nat) × (Nat) × (Nat → Int32) => True) (fun u : (Nat → Bool) × (Nat → Nat) × (Nat → Nat) × (Nat) × (Nat → Int32) => wAll E o ad wm st gr co hb_ (nI mo) ga ca ha_ (nI ma) sd tk u.1 u.2.1 u.2.2.1 u.2.2.2.1 u.2.2.2.2) := by
  refine cM_intro (cc := cX4_pilot) (maxL := 3) (ret := (some .int)) (by decide +kernel) rfl (Nat.le_of_ble_eq_true rfl) ?_
  intro p e s m args below meth cd hx hb hr hml hown hlocks hts hnm hK hsz hP A hD hA Q hQ ls hl
  have hown : s.vm.findClass RX4 = some m.cls := hown
  have hS : va_S A s.heap s.heap [] := va_S.rf
  have hl : lv_has ls 3 [(0, .ref o), (1, .int dr)] := hl
  refine lv_iload_n hx hb dX4_pilot_0 rfl (lv_at hl 1 rfl) ?_
  refine lv_iconst (v := nI 0) hx hb dX4_pilot_1 (by decide +kernel) ?_
  refine lv_bipush (v := nI 39) hx hb dX4_pilot_2 (by decide +kernel) ?_
  refine e_callS (As := [.int dr, .int (nI 0), .int (nI 39)]) (rest := []) ⟨hx, hb, hml, hown, hts⟩ hK hP hD hS hA hl.1 (c_X4_needWithin l E _ dr (nI 0) (nI 39) (hdr)) (va_cwS 3 hts gX4_pilot_X4_needWithin rfl rfl rfl (by decide +kernel) ⟨Nat.le_of_ble_eq_true rfl, Nat.le_of_ble_eq_true rfl⟩) [] [0, 1, 2, 3, 4, 5, 6, 7, 8, 9, 10, 11, 12, 13, 14, 15, 16, 17, 18, 19] rfl rfl rfl rfl (by decide) rfl rfl (Nat.le_of_ble_eq_true rfl) dX4_pilot_4 ⟨Nat.le_of_ble_eq_true rfl, Nat.le_of_ble_eq_true rfl⟩ (fun u_1 H locs hu_2 hsz1 hP hD hS => ?_)
  have hP : va_P E.1 vwCl (wAll E o ad wm st gr co hb_ (nI mo) ga ca ha_ (nI ma) sd tk op sp rc rn wa) H := hP.sub [0, 1, 2, 3, 4, 5, 6, 7, 8, 9, 10, 11, 12, 13, 14, 15, 16, 17, 18, 19] rfl
  have hD : va_D A (wAll E o ad wm st gr co hb_ (nI mo) ga ca ha_ (nI ma) sd tk op sp rc rn wa) := hD.sub [0, 1, 2, 3, 4, 5, 6, 7, 8, 9, 10, 11, 12, 13, 14, 15, 16, 17, 18, 19] (by decide) rfl
  refine W.eq (g2 := F0 m 7 ls []) rfl ?_
  refine lv_aload_n hx hb dX4_pilot_7 rfl (lv_at hl 0 rfl) ?_
  refine lv_iconst (v := nI 1) hx hb dX4_pilot_8 (by decide +kernel) ?_
  refine e_callV (As := [.int (nI 1)]) (rest := []) ⟨hx, hb, hml, hown, hts⟩ hK hP hD hS hA hl.1 (c_X4_countOn l E _ o ad wm st gr co hb_ mo ga ca ha_ ma sd tk op sp rc rn wa true) (cwV 1 hts gX4_pilot_X4_countOn rfl rfl rfl (by decide +kernel) ⟨Nat.le_of_ble_eq_true rfl, Nat.le_of_ble_eq_true rfl⟩) [0, 1, 2, 3, 4, 5, 6, 7, 8, 9, 10, 11, 12, 13, 14, 15, 16, 17, 18, 19] [] rfl rfl rfl rfl (by decide) (q0 := 0) (ci := 4) rfl rfl rfl rfl (Nat.le_of_ble_eq_true rfl) dX4_pilot_9 ⟨Nat.le_of_ble_eq_true rfl, Nat.le_of_ble_eq_true rfl⟩ (fun u_3 H locs hu_4 hsz1 hP hD hS => ?_)
  have hP : va_P E.1 vwCl (wAll E o ad wm st gr co hb_ (nI mo) ga ca ha_ (nI ma) sd tk op sp rc rn (if true = true then chSafe sd tk (nI mo) else dep gr co)) H := hP.sub [0, 1, 2, 3, 4, 5, 6, 7, 8, 9, 10, 11, 12, 13, 14, 15, 16, 17, 18, 19] rfl
  have hD : va_D A (wAll E o ad wm st gr co hb_ (nI mo) ga ca ha_ (nI ma) sd tk op sp rc rn (if true = true then chSafe sd tk (nI mo) else dep gr co)) := hD.sub [0, 1, 2, 3, 4, 5, 6, 7, 8, 9, 10, 11, 12, 13, 14, 15, 16, 17, 18, 19] (by decide) rfl
  refine W.eq (g2 := F0 m 12 ls []) rfl ?_
  refine lv_aload_n hx hb dX4_pilot_12 rfl (lv_at hl 0 rfl) ?_
  refine lv_iload_n hx hb dX4_pilot_13 rfl (lv_at hl 1 rfl) ?_
  refine e_callV (As := [.int dr]) (rest := []) ⟨hx, hb, hml, hown, hts⟩ hK hP hD hS hA hl.1 (c_X4_startOfShortestWay l E _ o ad wm st gr co hb_ mo ga ca ha_ ma sd tk op sp rc rn (if true = true then chSafe sd tk (nI mo) else dep gr co) dr) (cwV 1 hts gX4_pilot_X4_startOfShortestWay rfl rfl rfl (by decide +kernel) ⟨Nat.le_of_ble_eq_true rfl, Nat.le_of_ble_eq_true rfl⟩) [0, 1, 2, 3, 4, 5, 6, 7, 8, 9, 10, 11, 12, 13, 14, 15, 16, 17, 18, 19] [] rfl rfl rfl rfl (by decide) (q0 := 0) (ci := 4) rfl rfl rfl rfl (Nat.le_of_ble_eq_true rfl) dX4_pilot_14 ⟨Nat.le_of_ble_eq_true rfl, Nat.le_of_ble_eq_true rfl⟩ (fun u_5 H locs hu_6 hsz1 hP hD hS => ?_)
  obtain ⟨rc__7, rn__8⟩ := u_5
  have hP : va_P E.1 vwCl (wAll E o ad wm st gr co hb_ (nI mo) ga ca ha_ (nI ma) sd tk (opn (if true = true then chSafe sd tk (nI mo) else dep gr co) dr) (dist (opn (if true = true then chSafe sd tk (nI mo) else dep gr co) dr) 72) rc__7 rn__8 (if true = true then chSafe sd tk (nI mo) else dep gr co)) H := hP.sub [0, 1, 2, 3, 4, 5, 6, 7, 8, 9, 10, 11, 12, 13, 14, 15, 16, 17, 18, 19] rfl
  have hD : va_D A (wAll E o ad wm st gr co hb_ (nI mo) ga ca ha_ (nI ma) sd tk (opn (if true = true then chSafe sd tk (nI mo) else dep gr co) dr) (dist (opn (if true = true then chSafe sd tk (nI mo) else dep gr co) dr) 72) rc__7 rn__8 (if true = true then chSafe sd tk (nI mo) else dep gr co)) := hD.sub [0, 1, 2, 3, 4, 5, 6, 7, 8, 9, 10, 11, 12, 13, 14, 15, 16, 17, 18, 19] (by decide) rfl
  refine W.eq (g2 := F0 m 17 ls [.int (oI (bestW (if true = true then chSafe sd tk (nI mo) else dep gr co) dr))]) rfl ?_
  refine lv_istore_n (lv' := [(2, .int (oI (bestW (if true = true then chSafe sd tk (nI mo) else dep gr co) dr))), (0, .ref o), (1, .int dr)]) hx hb dX4_pilot_17 rfl hl (by decide) rfl (fun ls hl => ?_)
  refine lv_iload_n hx hb dX4_pilot_18 rfl (lv_at hl 0 rfl) ?_
  refine lv_iconst (v := (-1)) hx hb dX4_pilot_19 (by decide +kernel) ?_
  refine o_icmp_ne (x := bestW (if true = true then chSafe sd tk (nI mo) else dep gr co) dr) (fun q hq => Nat.lt_trans (bestR_lt hq) (by decide)) (tgt := 27) hx hb dX4_pilot_20 (by decide) (fun qb c20 => ?_) (fun c20 => ?_)
  · have hq9 : qb < 81 := Nat.lt_trans (bestR_lt c20) (by decide)
    refine lv_aload_n hx hb dX4_pilot_27 rfl (lv_at hl 1 rfl) ?_
    refine lv_iload_n hx hb dX4_pilot_28 rfl (lv_at hl 0 rfl) ?_
    refine e_top (show oI (bestW (if true = true then chSafe sd tk (nI mo) else dep gr co) dr) = nI qb by rw [c20]; rfl) ?_
    refine lv_iload_n hx hb dX4_pilot_29 rfl (lv_at hl 2 rfl) ?_
    refine e_callV (As := [.int (nI qb), .int dr]) (rest := []) ⟨hx, hb, hml, hown, hts⟩ hK hP hD hS hA hl.1 (c_X4_leadFrom l E _ o ad wm st gr co hb_ mo ga ca ha_ ma sd tk (opn (if true = true then chSafe sd tk (nI mo) else dep gr co) dr) (dist (opn (if true = true then chSafe sd tk (nI mo) else dep gr co) dr) 72) rc__7 rn__8 (if true = true then chSafe sd tk (nI mo) else dep gr co) qb dr (hq9) (dist_le (by decide))) (cwV 2 hts gX4_pilot_X4_leadFrom rfl rfl rfl (by decide +kernel) ⟨Nat.le_of_ble_eq_true rfl, Nat.le_of_ble_eq_true rfl⟩) [0, 1, 2, 3, 4, 5, 6, 7, 8, 9, 10, 11, 12, 13, 14, 15, 16, 17, 18, 19] [] rfl rfl rfl rfl (by decide) (q0 := 0) (ci := 4) rfl rfl rfl rfl (Nat.le_of_ble_eq_true rfl) dX4_pilot_30 ⟨Nat.le_of_ble_eq_true rfl, Nat.le_of_ble_eq_true rfl⟩ (fun u_10 H locs hu_11 hsz1 hP hD hS => ?_)
    have hP : va_P E.1 vwCl (wAll E o ad wm st gr co hb_ (nI mo) ga ca ha_ (nI ma) sd tk (opn (if true = true then chSafe sd tk (nI mo) else dep gr co) dr) (dist (opn (if true = true then chSafe sd tk (nI mo) else dep gr co) dr) 72) rc__7 rn__8 (if true = true then chSafe sd tk (nI mo) else dep gr co)) H := hP.sub [0, 1, 2, 3, 4, 5, 6, 7, 8, 9, 10, 11, 12, 13, 14, 15, 16, 17, 18, 19] rfl
    have hD : va_D A (wAll E o ad wm st gr co hb_ (nI mo) ga ca ha_ (nI ma) sd tk (opn (if true = true then chSafe sd tk (nI mo) else dep gr co) dr) (dist (opn (if true = true then chSafe sd tk (nI mo) else dep gr co) dr) 72) rc__7 rn__8 (if true = true then chSafe sd tk (nI mo) else dep gr co)) := hD.sub [0, 1, 2, 3, 4, 5, 6, 7, 8, 9, 10, 11, 12, 13, 14, 15, 16, 17, 18, 19] (by decide) rfl
    refine W.eq (g2 := F0 m 33 ls [.int (nI (leadN (dep gr co) dr (dist (opn (if true = true then chSafe sd tk (nI mo) else dep gr co) dr) 72) ((dist (opn (if true = true then chSafe sd tk (nI mo) else dep gr co) dr) 72) qb) qb))]) rfl ?_
    exact e_iret ((opn (if true = true then chSafe sd tk (nI mo) else dep gr co) dr), (dist (opn (if true = true then chSafe sd tk (nI mo) else dep gr co) dr) 72), rc__7, rn__8, (if true = true then chSafe sd tk (nI mo) else dep gr co)) hQ hx hb hr hlocks hP hD hS dX4_pilot_33 (rvi (by unfold pilotN; rw [show bestW (chSafe sd tk (nI mo)) dr = some qb from c20]; rfl)) (Nat.le_of_ble_eq_true rfl) (Nat.le_of_ble_eq_true rfl) (trivial)
  · refine lv_iconst (v := (-1)) hx hb dX4_pilot_23 (by decide +kernel) ?_
    refine lv_goto (tgt := 33) hx hb dX4_pilot_24 (by decide) ?_
    exact e_iret (opn (if true = true then chSafe sd tk (nI mo) else dep gr co) dr, dist (opn (if true = true then chSafe sd tk (nI mo) else dep gr co) dr) 72, rc__7, rn__8, (if true = true then chSafe sd tk (nI mo) else dep gr co)) hQ hx hb hr hlocks hP hD hS dX4_pilot_33 (rvi (by unfold pilotN; rw [show bestW (chSafe sd tk (nI mo)) dr = none from c20])) (Nat.le_of_ble_eq_true rfl) (Nat.le_of_ble_eq_true rfl) (trivial)

abbrev rm_X4_pilot_b1 : Room := { frames := 7, cells := 1, slots := 6, locals := 104 }
set_option maxHeartbeats 4000000 in
set_option maxRecDepth 100000 in
theorem c_X4_pilot_b1 (l : Launch) (hlt : l.stackTraces = false) (E : eT) (sz : Nat) (o : Nat) (ad : Nat → Nat) (wm : Nat → Int32) (st : Nat → Int32) (gr : Nat → Int32) (co : Nat → Int32) (hb_ : Nat → Bool) (mo : Nat) (ga : Nat → Int32) (ca : Nat → Int32) (ha_ : Nat → Bool) (ma : Nat) (sd : Nat → Int32) (tk : Nat → Int32) (op : Nat → Bool) (sp : Nat → Nat) (rc : Nat → Nat) (rn : Nat) (wa : Nat → Int32) (dr : Int32) (hdr : isInB dr (nI 0) (nI 39) = false) : cX l yX4_pilot wsX4_pilot rm_X4_pilot_b1 E sz [.ref o, .int dr] (wAll E o ad wm st gr co hb_ (nI mo) ga ca ha_ (nI ma) sd tk op sp rc rn wa) nX2 := by
  refine cX_intro (cc := cX4_pilot) (maxL := 3) (ret := (some .int)) (by decide +kernel) rfl (Nat.le_of_ble_eq_true rfl) ?_
  intro p e s m args below meth cd hx hb hr hml hown hlocks hts hnm ht hK hsz hP A hD hA hX Q hQ ls hl
  have hown : s.vm.findClass RX4 = some m.cls := hown
  have hS : va_S A s.heap s.heap [] := va_S.rf
  have hl : lv_has ls 3 [(0, .ref o), (1, .int dr)] := hl
  refine lv_iload_n hx hb dX4_pilot_0 rfl (lv_at hl 1 rfl) ?_
  refine lv_iconst (v := nI 0) hx hb dX4_pilot_1 (by decide +kernel) ?_
  refine lv_bipush (v := nI 39) hx hb dX4_pilot_2 (by decide +kernel) ?_
  refine e_callSX (As := [.int dr, .int (nI 0), .int (nI 39)]) (rest := []) ⟨hx, hb, hml, hown, hts⟩ hK hX hP hD hS hA hl.1 (c_X4_needWithin_t l hlt E _ dr (nI 0) (nI 39) (hdr)) (va_cwS 3 hts gX4_pilot_X4_needWithin rfl rfl rfl (by decide +kernel) ⟨Nat.le_of_ble_eq_true rfl, Nat.le_of_ble_eq_true rfl⟩) [] [0, 1, 2, 3, 4, 5, 6, 7, 8, 9, 10, 11, 12, 13, 14, 15, 16, 17, 18, 19] rfl rfl rfl rfl (by decide) rfl rfl (Nat.le_of_ble_eq_true rfl) dX4_pilot_4 ⟨Nat.le_of_ble_eq_true rfl, Nat.le_of_ble_eq_true rfl⟩ (fun ce q9 H locs hsz1 hP hD hS hcell hvm hcl => ?_)
  have hP : va_P E.1 vwCl (wAll E o ad wm st gr co hb_ (nI mo) ga ca ha_ (nI ma) sd tk op sp rc rn wa) H := hP.sub [0, 1, 2, 3, 4, 5, 6, 7, 8, 9, 10, 11, 12, 13, 14, 15, 16, 17, 18, 19] rfl
  have hD : va_D A (wAll E o ad wm st gr co hb_ (nI mo) ga ca ha_ (nI ma) sd tk op sp rc rn wa) := hD.sub [0, 1, 2, 3, 4, 5, 6, 7, 8, 9, 10, 11, 12, 13, 14, 15, 16, 17, 18, 19] (by decide) rfl
  exact e_outX hQ ht hlocks hP hS hcell hvm hcl (Nat.le_of_ble_eq_true rfl) (Nat.le_of_ble_eq_true rfl)

abbrev rm_X4_pass : Room := { frames := 5, cells := 0, slots := 0, locals := 111 }
set_option maxHeartbeats 4000000 in
set_option maxRecDepth 100000 in
theorem c_X4_pass (l : Launch) (E : eT) (sz : Nat) (o : Nat) (ad : Nat → Nat) (wm : Nat → Int32) (st : Nat → Int32) (gr : Nat → Int32) (co : Nat → Int32) (hb_ : Nat → Bool) (mo : Nat) (ga : Nat → Int32) (ca : Nat → Int32) (ha_ : Nat → Bool) (ma : Nat) (sd : Nat → Int32) (tk : Nat → Int32) (op : Nat → Bool) (sp : Nat → Nat) (rc : Nat → Nat) (rn : Nat) (wa : Nat → Int32) (k : Nat) (hk1 : 1 ≤ k) (hk : k ≤ 120) (hmo : mo < 2 ^ 30) : cM l yX4_pass wsX4_pass rm_X4_pass E sz [.ref o, .int (nI k)] (wAll E o ad wm st gr co hb_ (nI mo) ga ca ha_ (nI ma) sd tk op sp rc rn wa) (fun u : (Nat → Bool) => some (.int (nI (heads (months wm st (gr, co) mo k).2) - nI (heads co)))) (fun u : (Nat → Bool) => True) (fun u : (Nat → Bool) => wAll E o ad wm st ((months wm st (gr, co) mo k).1) ((months wm st (gr, co) mo k).2) u (nI (mo + k)) ga ca ha_ (nI ma) sd tk op sp rc rn wa) := by
  refine cM_intro (cc := cX4_pass) (maxL := 4) (ret := (some .int)) (by decide +kernel) rfl (Nat.le_of_ble_eq_true rfl) ?_
  intro p e s m args below meth cd hx hb hr hml hown hlocks hts hnm hK hsz hP A hD hA Q hQ ls hl
  have hown : s.vm.findClass RX4 = some m.cls := hown
  have hin4 : ∀ w ∈ u_ws RX4 TX4 6, w ∈ wsX4_pass := by decide +kernel
  have lk12 := hts (.fieldLink RX4 12 "ReefPilot" "table" "LReefPilot$Table;") (by decide +kernel)
  have lk19 := hts (.fieldLink RX4 19 "ReefPilot" "coast" "LReefPilot$Coast;") (by decide +kernel)
  have hS : va_S A s.heap s.heap [] := va_S.rf
  have hl : lv_has ls 4 [(0, .ref o), (1, .int (nI k))] := hl
  refine lv_iload_n hx hb dX4_pass_0 rfl (lv_at hl 1 rfl) ?_
  refine lv_iconst (v := nI 1) hx hb dX4_pass_1 (by decide +kernel) ?_
  refine lv_bipush (v := nI 120) hx hb dX4_pass_2 (by decide +kernel) ?_
  refine e_callS (As := [.int (nI k), .int (nI 1), .int (nI 120)]) (rest := []) ⟨hx, hb, hml, hown, hts⟩ hK hP hD hS hA hl.1 (c_X4_needWithin l E _ (nI k) (nI 1) (nI 120) (isInB_n hk1 hk (by decide))) (va_cwS 3 hts gX4_pass_X4_needWithin rfl rfl rfl (by decide +kernel) ⟨Nat.le_of_ble_eq_true rfl, Nat.le_of_ble_eq_true rfl⟩) [] [0, 1, 2, 3, 4, 5, 6, 7, 8, 9, 10, 11, 12, 13, 14, 15, 16, 17, 18, 19] rfl rfl rfl rfl (by decide) rfl rfl (Nat.le_of_ble_eq_true rfl) dX4_pass_4 ⟨Nat.le_of_ble_eq_true rfl, Nat.le_of_ble_eq_true rfl⟩ (fun u_1 H locs hu_2 hsz1 hP hD hS => ?_)
  have hP : va_P E.1 vwCl (wAll E o ad wm st gr co hb_ (nI mo) ga ca ha_ (nI ma) sd tk op sp rc rn wa) H := hP.sub [0, 1, 2, 3, 4, 5, 6, 7, 8, 9, 10, 11, 12, 13, 14, 15, 16, 17, 18, 19] rfl
  have hD : va_D A (wAll E o ad wm st gr co hb_ (nI mo) ga ca ha_ (nI ma) sd tk op sp rc rn wa) := hD.sub [0, 1, 2, 3, 4, 5, 6, 7, 8, 9, 10, 11, 12, 13, 14, 15, 16, 17, 18, 19] (by decide) rfl
  refine W.eq (g2 := F0 m 7 ls []) rfl ?_
  refine lv_aload_n hx hb dX4_pass_7 rfl (lv_at hl 0 rfl) ?_
  refine va_get (D := E.1) (ci := 4) (v := .ref (ad 3)) (C := RX4) (T := TX4) (N := 6) hx hb hts hin4 hown hK.1 hP 0 rfl rfl 1 (by decide) lk19 (fun _ h9 => h9) rfl dX4_pass_8 ?_
  refine e_callV (As := []) (rest := []) ⟨hx, hb, hml, hown, hts⟩ hK hP hD hS hA hl.1 (c_X0_heads l E _ (ad 3) (ad 4) (ad 5) (ad 6) gr co hb_ (nI mo)) (cwV 0 hts gX4_pass_X0_heads rfl rfl rfl (by decide +kernel) ⟨Nat.le_of_ble_eq_true rfl, Nat.le_of_ble_eq_true rfl⟩) [4, 5, 6, 7] [0, 1, 2, 3, 8, 9, 10, 11, 12, 13, 14, 15, 16, 17, 18, 19] rfl rfl rfl rfl (by decide) (q0 := 4) (ci := 0) rfl rfl rfl rfl (Nat.le_of_ble_eq_true rfl) dX4_pass_11 ⟨Nat.le_of_ble_eq_true rfl, Nat.le_of_ble_eq_true rfl⟩ (fun u_3 H locs hu_4 hsz1 hP hD hS => ?_)
  have hP : va_P E.1 vwCl (wAll E o ad wm st gr co hb_ (nI mo) ga ca ha_ (nI ma) sd tk op sp rc rn wa) H := hP.sub [0, 1, 2, 3, 16, 17, 18, 19, 4, 5, 6, 7, 8, 9, 10, 11, 12, 13, 14, 15] rfl
  have hD : va_D A (wAll E o ad wm st gr co hb_ (nI mo) ga ca ha_ (nI ma) sd tk op sp rc rn wa) := hD.sub [0, 1, 2, 3, 16, 17, 18, 19, 4, 5, 6, 7, 8, 9, 10, 11, 12, 13, 14, 15] (by decide) rfl
  refine W.eq (g2 := F0 m 14 ls [.int (nI (heads co))]) rfl ?_
  refine lv_istore_n (lv' := [(2, .int (nI (heads co))), (0, .ref o), (1, .int (nI k))]) hx hb dX4_pass_14 rfl hl (by decide) rfl (fun ls hl => ?_)
  refine lv_iconst (v := nI 0) hx hb dX4_pass_15 (by decide +kernel) ?_
  refine lv_istore_n (lv' := [(3, .int (nI 0)), (2, .int (nI (heads co))), (0, .ref o), (1, .int (nI k))]) hx hb dX4_pass_16 rfl hl (by decide) rfl (fun ls hl => ?_)
  have L17 : ∀ (fuel : Nat) (z : Nat) (g : Nat → Int32) (f : Nat → Int32) (h1 : Nat → Bool) (hz : z ≤ k) (hg : (g, f) = months wm st (gr, co) mo z) (hfuel : k - z < fuel) (H : Heap) (locs : List Loc), va_P E.1 vwCl (wAll E o ad wm st g f h1 (nI (mo + z)) ga ca ha_ (nI ma) sd tk op sp rc rn wa) H → va_D A (wAll E o ad wm st g f h1 (nI (mo + z)) ga ca ha_ (nI ma) sd tk op sp rc rn wa) → va_S A s.heap H locs → ∀ ls : Array Slot, lv_has ls 4 [(3, .int (nI z)), (2, .int (nI (heads co))), (0, .ref o), (1, .int (nI k))] → W p l e rm_X4_pass s m args below meth cd H locs 0 0 Q (F0 m 17 ls []) := by
    intro fuel
    induction fuel with
    | zero => intros; omega
    | succ fuel ihL17 =>
      intro z g f h1 hz hg hfuel H locs hP hD hS ls hl
      refine lv_iload_n hx hb dX4_pass_17 rfl (lv_at hl 0 rfl) ?_
      refine lv_iload_n hx hb dX4_pass_18 rfl (lv_at hl 3 rfl) ?_
      refine n_icmp_ge (x := z) (y := k) (by omega) (by omega) (tgt := 39) hx hb dX4_pass_19 (by decide) (fun c19 => ?_) (fun c19 => ?_)
      · have hP : va_P E.1 vwCl (wAll E o ad wm st ((months wm st (gr, co) mo k).1) ((months wm st (gr, co) mo k).2) h1 (nI (mo + k)) ga ca ha_ (nI ma) sd tk op sp rc rn wa) H := by (rw [show k = z by omega, ← hg]); exact hP
        have hD : va_D A (wAll E o ad wm st ((months wm st (gr, co) mo k).1) ((months wm st (gr, co) mo k).2) h1 (nI (mo + k)) ga ca ha_ (nI ma) sd tk op sp rc rn wa) := by (rw [show k = z by omega, ← hg]); exact hD
        refine lv_aload_n hx hb dX4_pass_39 rfl (lv_at hl 2 rfl) ?_
        refine va_get (D := E.1) (ci := 4) (v := .ref (ad 3)) (C := RX4) (T := TX4) (N := 6) hx hb hts hin4 hown hK.1 hP 0 rfl rfl 1 (by decide) lk19 (fun _ h9 => h9) rfl dX4_pass_40 ?_
        refine e_callV (As := []) (rest := []) ⟨hx, hb, hml, hown, hts⟩ hK hP hD hS hA hl.1 (c_X0_heads l E _ (ad 3) (ad 4) (ad 5) (ad 6) ((months wm st (gr, co) mo k).1) ((months wm st (gr, co) mo k).2) h1 (nI (mo + k))) (cwV 0 hts gX4_pass_X0_heads rfl rfl rfl (by decide +kernel) ⟨Nat.le_of_ble_eq_true rfl, Nat.le_of_ble_eq_true rfl⟩) [4, 5, 6, 7] [0, 1, 2, 3, 8, 9, 10, 11, 12, 13, 14, 15, 16, 17, 18, 19] rfl rfl rfl rfl (by decide) (q0 := 4) (ci := 0) rfl rfl rfl rfl (Nat.le_of_ble_eq_true rfl) dX4_pass_43 ⟨Nat.le_of_ble_eq_true rfl, Nat.le_of_ble_eq_true rfl⟩ (fun u_5 H locs hu_6 hsz1 hP hD hS => ?_)
        have hP : va_P E.1 vwCl (wAll E o ad wm st ((months wm st (gr, co) mo k).1) ((months wm st (gr, co) mo k).2) h1 (nI (mo + k)) ga ca ha_ (nI ma) sd tk op sp rc rn wa) H := hP.sub [0, 1, 2, 3, 16, 17, 18, 19, 4, 5, 6, 7, 8, 9, 10, 11, 12, 13, 14, 15] rfl
        have hD : va_D A (wAll E o ad wm st ((months wm st (gr, co) mo k).1) ((months wm st (gr, co) mo k).2) h1 (nI (mo + k)) ga ca ha_ (nI ma) sd tk op sp rc rn wa) := hD.sub [0, 1, 2, 3, 16, 17, 18, 19, 4, 5, 6, 7, 8, 9, 10, 11, 12, 13, 14, 15] (by decide) rfl
        refine W.eq (g2 := F0 m 46 ls [.int (nI (heads ((months wm st (gr, co) mo k).2)))]) rfl ?_
        refine lv_iload_n hx hb dX4_pass_46 rfl (lv_at hl 1 rfl) ?_
        refine lv_isub hx hb dX4_pass_47 ?_
        exact e_iret h1 hQ hx hb hr hlocks hP hD hS dX4_pass_48 (rfl) (Nat.le_of_ble_eq_true rfl) (Nat.le_of_ble_eq_true rfl) (trivial)
      · refine lv_aload_n hx hb dX4_pass_22 rfl (lv_at hl 2 rfl) ?_
        refine va_get (D := E.1) (ci := 4) (v := .ref (ad 3)) (C := RX4) (T := TX4) (N := 6) hx hb hts hin4 hown hK.1 hP 0 rfl rfl 1 (by decide) lk19 (fun _ h9 => h9) rfl dX4_pass_23 ?_
        refine lv_aload_n hx hb dX4_pass_26 rfl (lv_at hl 2 rfl) ?_
        refine va_get (D := E.1) (ci := 4) (v := .ref (ad 0)) (C := RX4) (T := TX4) (N := 6) hx hb hts hin4 hown hK.1 hP 0 rfl rfl 0 (by decide) lk12 (fun _ h9 => h9) rfl dX4_pass_27 ?_
        refine e_callV (As := [.ref (ad 0)]) (rest := []) ⟨hx, hb, hml, hown, hts⟩ hK hP hD hS hA hl.1 (c_X0_letMonthGo l E _ (ad 3) (ad 4) (ad 5) (ad 6) g f h1 (mo + z) (ad 0) (ad 1) (ad 2) wm st (by omega)) (cwV 1 hts gX4_pass_X0_letMonthGo rfl rfl rfl (by decide +kernel) ⟨Nat.le_of_ble_eq_true rfl, Nat.le_of_ble_eq_true rfl⟩) [4, 5, 6, 7, 1, 2, 3] [0, 8, 9, 10, 11, 12, 13, 14, 15, 16, 17, 18, 19] rfl rfl rfl rfl (by decide) (q0 := 4) (ci := 0) rfl rfl rfl rfl (Nat.le_of_ble_eq_true rfl) dX4_pass_30 ⟨Nat.le_of_ble_eq_true rfl, Nat.le_of_ble_eq_true rfl⟩ (fun u_7 H locs hu_8 hsz1 hP hD hS => ?_)
        obtain ⟨hz_9, rfl⟩ : ∃ z, z = u_7 := ⟨_, rfl⟩
        have hP : va_P E.1 vwCl (wAll E o ad wm st ((month1 wm st (g, f) (mo + z)).1) ((month1 wm st (g, f) (mo + z)).2) hz_9 (nI ((mo + z) + 1)) ga ca ha_ (nI ma) sd tk op sp rc rn wa) H := hP.sub [0, 17, 18, 19, 13, 14, 15, 16, 1, 2, 3, 4, 5, 6, 7, 8, 9, 10, 11, 12] rfl
        have hD : va_D A (wAll E o ad wm st ((month1 wm st (g, f) (mo + z)).1) ((month1 wm st (g, f) (mo + z)).2) hz_9 (nI ((mo + z) + 1)) ga ca ha_ (nI ma) sd tk op sp rc rn wa) := hD.sub [0, 17, 18, 19, 13, 14, 15, 16, 1, 2, 3, 4, 5, 6, 7, 8, 9, 10, 11, 12] (by decide) rfl
        refine W.eq (g2 := F0 m 33 ls []) rfl ?_
        refine lv_iinc (v := nI (z + 1)) (lv' := [(3, .int (nI (z + 1))), (2, .int (nI (heads co))), (0, .ref o), (1, .int (nI k))]) hx hb dX4_pass_33 hl (k := 0) rfl (nI_add z 1) (by decide) rfl (fun ls hl => ?_)
        refine lv_goto (tgt := 17) hx hb dX4_pass_36 (by decide) ?_
        exact ihL17 (z + 1) ((month1 wm st (g, f) (mo + z)).1) ((month1 wm st (g, f) (mo + z)).2) hz_9 (by first | omega | assumption | rfl | (simp_all; done)) (by show _ = month1 wm st (months wm st (gr, co) mo z) (mo + z); rw [← hg]) (by omega) _ _ hP hD hS _ (lv_sub hl [0, 1, 2, 3] rfl)
  exact L17 (k - 0 + 1) 0 gr co hb_ (by first | omega | assumption | rfl | (simp_all; done)) (rfl) (Nat.lt_succ_self _) _ _ hP hD hS _ (lv_sub hl [0, 1, 2, 3] rfl)

abbrev rm_X4_pass_b1 : Room := { frames := 7, cells := 1, slots := 6, locals := 104 }
set_option maxHeartbeats 4000000 in
set_option maxRecDepth 100000 in
theorem c_X4_pass_b1 (l : Launch) (hlt : l.stackTraces = false) (E : eT) (sz : Nat) (o : Nat) (ad : Nat → Nat) (wm : Nat → Int32) (st : Nat → Int32) (gr : Nat → Int32) (co : Nat → Int32) (hb_ : Nat → Bool) (mo : Nat) (ga : Nat → Int32) (ca : Nat → Int32) (ha_ : Nat → Bool) (ma : Nat) (sd : Nat → Int32) (tk : Nat → Int32) (op : Nat → Bool) (sp : Nat → Nat) (rc : Nat → Nat) (rn : Nat) (wa : Nat → Int32) (x : Int32) (hc : isInB x (nI 1) (nI 120) = false) : cX l yX4_pass wsX4_pass rm_X4_pass_b1 E sz [.ref o, .int x] (wAll E o ad wm st gr co hb_ (nI mo) ga ca ha_ (nI ma) sd tk op sp rc rn wa) nX2 := by
  refine cX_intro (cc := cX4_pass) (maxL := 4) (ret := (some .int)) (by decide +kernel) rfl (Nat.le_of_ble_eq_true rfl) ?_
  intro p e s m args below meth cd hx hb hr hml hown hlocks hts hnm ht hK hsz hP A hD hA hX Q hQ ls hl
  have hown : s.vm.findClass RX4 = some m.cls := hown
  have hS : va_S A s.heap s.heap [] := va_S.rf
  have hl : lv_has ls 4 [(0, .ref o), (1, .int x)] := hl
  refine lv_iload_n hx hb dX4_pass_0 rfl (lv_at hl 1 rfl) ?_
  refine lv_iconst (v := nI 1) hx hb dX4_pass_1 (by decide +kernel) ?_
  refine lv_bipush (v := nI 120) hx hb dX4_pass_2 (by decide +kernel) ?_
  refine e_callSX (As := [.int x, .int (nI 1), .int (nI 120)]) (rest := []) ⟨hx, hb, hml, hown, hts⟩ hK hX hP hD hS hA hl.1 (c_X4_needWithin_t l hlt E _ x (nI 1) (nI 120) (hc)) (va_cwS 3 hts gX4_pass_X4_needWithin rfl rfl rfl (by decide +kernel) ⟨Nat.le_of_ble_eq_true rfl, Nat.le_of_ble_eq_true rfl⟩) [] [0, 1, 2, 3, 4, 5, 6, 7, 8, 9, 10, 11, 12, 13, 14, 15, 16, 17, 18, 19] rfl rfl rfl rfl (by decide) rfl rfl (Nat.le_of_ble_eq_true rfl) dX4_pass_4 ⟨Nat.le_of_ble_eq_true rfl, Nat.le_of_ble_eq_true rfl⟩ (fun ce q9 H locs hsz1 hP hD hS hcell hvm hcl => ?_)
  have hP : va_P E.1 vwCl (wAll E o ad wm st gr co hb_ (nI mo) ga ca ha_ (nI ma) sd tk op sp rc rn wa) H := hP.sub [0, 1, 2, 3, 4, 5, 6, 7, 8, 9, 10, 11, 12, 13, 14, 15, 16, 17, 18, 19] rfl
  have hD : va_D A (wAll E o ad wm st gr co hb_ (nI mo) ga ca ha_ (nI ma) sd tk op sp rc rn wa) := hD.sub [0, 1, 2, 3, 4, 5, 6, 7, 8, 9, 10, 11, 12, 13, 14, 15, 16, 17, 18, 19] (by decide) rfl
  exact e_outX hQ ht hlocks hP hS hcell hvm hcl (Nat.le_of_ble_eq_true rfl) (Nat.le_of_ble_eq_true rfl)

abbrev rm_X4_count : Room := { frames := 5, cells := 0, slots := 0, locals := 113 }
set_option maxHeartbeats 4000000 in
set_option maxRecDepth 100000 in
theorem c_X4_count (l : Launch) (E : eT) (sz : Nat) (o : Nat) (ad : Nat → Nat) (wm : Nat → Int32) (st : Nat → Int32) (gr : Nat → Int32) (co : Nat → Int32) (hb_ : Nat → Bool) (mo : Nat) (ga : Nat → Int32) (ca : Nat → Int32) (ha_ : Nat → Bool) (ma : Nat) (sd : Nat → Int32) (tk : Nat → Int32) (op : Nat → Bool) (sp : Nat → Nat) (rc : Nat → Nat) (rn : Nat) (wa : Nat → Int32) (k : Nat) (hk : k < 8) : cM l yX4_count wsX4_count rm_X4_count E sz [.ref o, .int (nI k)] (wAll E o ad wm st gr co hb_ (nI mo) ga ca ha_ (nI ma) sd tk op sp rc rn wa) (fun u : (Nat → Bool) × (Nat → Nat) × (Nat → Nat) × (Nat) => some (.int (cntA gr co sd mo k))) (fun u : (Nat → Bool) × (Nat → Nat) × (Nat → Nat) × (Nat) => True) (fun u : (Nat → Bool) × (Nat → Nat) × (Nat → Nat) × (Nat) => wAll E o ad wm st gr co hb_ (nI mo) ga ca ha_ (nI ma) sd tk u.1 u.2.1 u.2.2.1 u.2.2.2 wa) := by
  refine cM_intro (cc := cX4_count) (maxL := 2) (ret := (some .int)) (by decide +kernel) rfl (Nat.le_of_ble_eq_true rfl) ?_
  intro p e s m args below meth cd hx hb hr hml hown hlocks hts hnm hK hsz hP A hD hA Q hQ ls hl
  have hown : s.vm.findClass RX4 = some m.cls := hown
  have hS : va_S A s.heap s.heap [] := va_S.rf
  have hl : lv_has ls 2 [(0, .ref o), (1, .int (nI k))] := hl
  refine lv_iload_n hx hb dX4_count_0 rfl (lv_at hl 1 rfl) ?_
  refine lv_bipush (v := nI 8) hx hb dX4_count_1 (by decide +kernel) ?_
  refine e_callS (As := [.int (nI k), .int (nI 8)]) (rest := []) ⟨hx, hb, hml, hown, hts⟩ hK hP hD hS hA hl.1 (c_X4_needIndex l E _ k 8 (by first | omega | assumption | rfl | (simp_all; done)) (by first | omega | assumption | rfl | (simp_all; done))) (va_cwS 2 hts gX4_count_X4_needIndex rfl rfl rfl (by decide +kernel) ⟨Nat.le_of_ble_eq_true rfl, Nat.le_of_ble_eq_true rfl⟩) [] [0, 1, 2, 3, 4, 5, 6, 7, 8, 9, 10, 11, 12, 13, 14, 15, 16, 17, 18, 19] rfl rfl rfl rfl (by decide) rfl rfl (Nat.le_of_ble_eq_true rfl) dX4_count_3 ⟨Nat.le_of_ble_eq_true rfl, Nat.le_of_ble_eq_true rfl⟩ (fun u_1 H locs hu_2 hsz1 hP hD hS => ?_)
  have hP : va_P E.1 vwCl (wAll E o ad wm st gr co hb_ (nI mo) ga ca ha_ (nI ma) sd tk op sp rc rn wa) H := hP.sub [0, 1, 2, 3, 4, 5, 6, 7, 8, 9, 10, 11, 12, 13, 14, 15, 16, 17, 18, 19] rfl
  have hD : va_D A (wAll E o ad wm st gr co hb_ (nI mo) ga ca ha_ (nI ma) sd tk op sp rc rn wa) := hD.sub [0, 1, 2, 3, 4, 5, 6, 7, 8, 9, 10, 11, 12, 13, 14, 15, 16, 17, 18, 19] (by decide) rfl
  refine W.eq (g2 := F0 m 6 ls []) rfl ?_
  refine lv_aload_n hx hb dX4_count_6 rfl (lv_at hl 0 rfl) ?_
  refine lv_iload_n hx hb dX4_count_7 rfl (lv_at hl 1 rfl) ?_
  refine e_callV (As := [.int (nI k)]) (rest := []) ⟨hx, hb, hml, hown, hts⟩ hK hP hD hS hA hl.1 (c_X4_countAnswer l E _ o ad wm st gr co hb_ mo ga ca ha_ ma sd tk op sp rc rn wa k (by first | omega | assumption | rfl | (simp_all; done))) (cwV 1 hts gX4_count_X4_countAnswer rfl rfl rfl (by decide +kernel) ⟨Nat.le_of_ble_eq_true rfl, Nat.le_of_ble_eq_true rfl⟩) [0, 1, 2, 3, 4, 5, 6, 7, 8, 9, 10, 11, 12, 13, 14, 15, 16, 17, 18, 19] [] rfl rfl rfl rfl (by decide) (q0 := 0) (ci := 4) rfl rfl rfl rfl (Nat.le_of_ble_eq_true rfl) dX4_count_8 ⟨Nat.le_of_ble_eq_true rfl, Nat.le_of_ble_eq_true rfl⟩ (fun u_3 H locs hu_4 hsz1 hP hD hS => ?_)
  obtain ⟨op__5, sp__6, rc__7, rn__8⟩ := u_3
  have hP : va_P E.1 vwCl (wAll E o ad wm st gr co hb_ (nI mo) ga ca ha_ (nI ma) sd tk op__5 sp__6 rc__7 rn__8 wa) H := hP.sub [0, 1, 2, 3, 4, 5, 6, 7, 8, 9, 10, 11, 12, 13, 14, 15, 16, 17, 18, 19] rfl
  have hD : va_D A (wAll E o ad wm st gr co hb_ (nI mo) ga ca ha_ (nI ma) sd tk op__5 sp__6 rc__7 rn__8 wa) := hD.sub [0, 1, 2, 3, 4, 5, 6, 7, 8, 9, 10, 11, 12, 13, 14, 15, 16, 17, 18, 19] (by decide) rfl
  refine W.eq (g2 := F0 m 11 ls [.int (cntA gr co sd mo k)]) rfl ?_
  exact e_iret (op__5, sp__6, rc__7, rn__8) hQ hx hb hr hlocks hP hD hS dX4_count_11 (rfl) (Nat.le_of_ble_eq_true rfl) (Nat.le_of_ble_eq_true rfl) (trivial)

abbrev rm_X4_count_b1 : Room := { frames := 7, cells := 1, slots := 6, locals := 103 }
set_option maxHeartbeats 4000000 in
set_option maxRecDepth 100000 in
theorem c_X4_count_b1 (l : Launch) (hlt : l.stackTraces = false) (E : eT) (sz : Nat) (o : Nat) (ad : Nat → Nat) (wm : Nat → Int32) (st : Nat → Int32) (gr : Nat → Int32) (co : Nat → Int32) (hb_ : Nat → Bool) (mo : Nat) (ga : Nat → Int32) (ca : Nat → Int32) (ha_ : Nat → Bool) (ma : Nat) (sd : Nat → Int32) (tk : Nat → Int32) (op : Nat → Bool) (sp : Nat → Nat) (rc : Nat → Nat) (rn : Nat) (wa : Nat → Int32) (x : Int32) (hc : isInB x (nI 0) (nI 7) = false) : cX l yX4_count wsX4_count rm_X4_count_b1 E sz [.ref o, .int x] (wAll E o ad wm st gr co hb_ (nI mo) ga ca ha_ (nI ma) sd tk op sp rc rn wa) nX1 := by
  refine cX_intro (cc := cX4_count) (maxL := 2) (ret := (some .int)) (by decide +kernel) rfl (Nat.le_of_ble_eq_true rfl) ?_
  intro p e s m args below meth cd hx hb hr hml hown hlocks hts hnm ht hK hsz hP A hD hA hX Q hQ ls hl
  have hown : s.vm.findClass RX4 = some m.cls := hown
  have hS : va_S A s.heap s.heap [] := va_S.rf
  have hl : lv_has ls 2 [(0, .ref o), (1, .int x)] := hl
  refine lv_iload_n hx hb dX4_count_0 rfl (lv_at hl 1 rfl) ?_
  refine lv_bipush (v := nI 8) hx hb dX4_count_1 (by decide +kernel) ?_
  refine e_callSX (As := [.int x, .int (nI 8)]) (rest := []) ⟨hx, hb, hml, hown, hts⟩ hK hX hP hD hS hA hl.1 (c_X4_needIndex_t l hlt E _ x 8 (hc) (by first | omega | assumption | rfl | (simp_all; done)) (by first | omega | assumption | rfl | (simp_all; done))) (va_cwS 2 hts gX4_count_X4_needIndex rfl rfl rfl (by decide +kernel) ⟨Nat.le_of_ble_eq_true rfl, Nat.le_of_ble_eq_true rfl⟩) [] [0, 1, 2, 3, 4, 5, 6, 7, 8, 9, 10, 11, 12, 13, 14, 15, 16, 17, 18, 19] rfl rfl rfl rfl (by decide) rfl rfl (Nat.le_of_ble_eq_true rfl) dX4_count_3 ⟨Nat.le_of_ble_eq_true rfl, Nat.le_of_ble_eq_true rfl⟩ (fun ce q9 H locs hsz1 hP hD hS hcell hvm hcl => ?_)
  have hP : va_P E.1 vwCl (wAll E o ad wm st gr co hb_ (nI mo) ga ca ha_ (nI ma) sd tk op sp rc rn wa) H := hP.sub [0, 1, 2, 3, 4, 5, 6, 7, 8, 9, 10, 11, 12, 13, 14, 15, 16, 17, 18, 19] rfl
  have hD : va_D A (wAll E o ad wm st gr co hb_ (nI mo) ga ca ha_ (nI ma) sd tk op sp rc rn wa) := hD.sub [0, 1, 2, 3, 4, 5, 6, 7, 8, 9, 10, 11, 12, 13, 14, 15, 16, 17, 18, 19] (by decide) rfl
  exact e_outX hQ ht hlocks hP hS hcell hvm hcl (Nat.le_of_ble_eq_true rfl) (Nat.le_of_ble_eq_true rfl)

abbrev rm_X4_closes : Room := { frames := 5, cells := 0, slots := 0, locals := 111 }
set_option maxHeartbeats 4000000 in
set_option maxRecDepth 100000 in
theorem c_X4_closes (l : Launch) (E : eT) (sz : Nat) (o : Nat) (ad : Nat → Nat) (wm : Nat → Int32) (st : Nat → Int32) (gr : Nat → Int32) (co : Nat → Int32) (hb_ : Nat → Bool) (mo : Nat) (ga : Nat → Int32) (ca : Nat → Int32) (ha_ : Nat → Bool) (ma : Nat) (sd : Nat → Int32) (tk : Nat → Int32) (op : Nat → Bool) (sp : Nat → Nat) (rc : Nat → Nat) (rn : Nat) (wa : Nat → Int32) (dr : Int32) (hdr : isInB dr (nI 0) (nI 39) = true) (hmo : mo < 2 ^ 30) : cM l yX4_closes wsX4_closes rm_X4_closes E sz [.ref o, .int dr] (wAll E o ad wm st gr co hb_ (nI mo) ga ca ha_ (nI ma) sd tk op sp rc rn wa) (fun u : (Nat → Int32) × (Nat → Int32) × (Nat → Bool) × (Nat) × (Nat → Bool) × (Nat → Nat) × (Nat → Nat) × (Nat) × (Nat → Int32) => some (.int (closN wm st gr co mo dr))) (fun u : (Nat → Int32) × (Nat → Int32) × (Nat → Bool) × (Nat) × (Nat → Bool) × (Nat → Nat) × (Nat → Nat) × (Nat) × (Nat → Int32) => True) (fun u : (Nat → Int32) × (Nat → Int32) × (Nat → Bool) × (Nat) × (Nat → Bool) × (Nat → Nat) × (Nat → Nat) × (Nat) × (Nat → Int32) => wAll E o ad wm st gr co hb_ (nI mo) u.1 u.2.1 u.2.2.1 (nI u.2.2.2.1) sd tk u.2.2.2.2.1 u.2.2.2.2.2.1 u.2.2.2.2.2.2.1 u.2.2.2.2.2.2.2.1 u.2.2.2.2.2.2.2.2) := by
  refine cM_intro (cc := cX4_closes) (maxL := 3) (ret := (some .int)) (by decide +kernel) rfl (Nat.le_of_ble_eq_true rfl) ?_
  intro p e s m args below meth cd hx hb hr hml hown hlocks hts hnm hK hsz hP A hD hA Q hQ ls hl
  have hown : s.vm.findClass RX4 = some m.cls := hown
  have hin4 : ∀ w ∈ u_ws RX4 TX4 6, w ∈ wsX4_closes := by decide +kernel
  have lk12 := hts (.fieldLink RX4 12 "ReefPilot" "table" "LReefPilot$Table;") (by decide +kernel)
  have lk19 := hts (.fieldLink RX4 19 "ReefPilot" "coast" "LReefPilot$Coast;") (by decide +kernel)
  have lk23 := hts (.fieldLink RX4 23 "ReefPilot" "ahead" "LReefPilot$Coast;") (by decide +kernel)
  have hS : va_S A s.heap s.heap [] := va_S.rf
  have hl : lv_has ls 3 [(0, .ref o), (1, .int dr)] := hl
  refine lv_iload_n hx hb dX4_closes_0 rfl (lv_at hl 1 rfl) ?_
  refine lv_iconst (v := nI 0) hx hb dX4_closes_1 (by decide +kernel) ?_
  refine lv_bipush (v := nI 39) hx hb dX4_closes_2 (by decide +kernel) ?_
  refine e_callS (As := [.int dr, .int (nI 0), .int (nI 39)]) (rest := []) ⟨hx, hb, hml, hown, hts⟩ hK hP hD hS hA hl.1 (c_X4_needWithin l E _ dr (nI 0) (nI 39) (hdr)) (va_cwS 3 hts gX4_closes_X4_needWithin rfl rfl rfl (by decide +kernel) ⟨Nat.le_of_ble_eq_true rfl, Nat.le_of_ble_eq_true rfl⟩) [] [0, 1, 2, 3, 4, 5, 6, 7, 8, 9, 10, 11, 12, 13, 14, 15, 16, 17, 18, 19] rfl rfl rfl rfl (by decide) rfl rfl (Nat.le_of_ble_eq_true rfl) dX4_closes_4 ⟨Nat.le_of_ble_eq_true rfl, Nat.le_of_ble_eq_true rfl⟩ (fun u_1 H locs hu_2 hsz1 hP hD hS => ?_)
  have hP : va_P E.1 vwCl (wAll E o ad wm st gr co hb_ (nI mo) ga ca ha_ (nI ma) sd tk op sp rc rn wa) H := hP.sub [0, 1, 2, 3, 4, 5, 6, 7, 8, 9, 10, 11, 12, 13, 14, 15, 16, 17, 18, 19] rfl
  have hD : va_D A (wAll E o ad wm st gr co hb_ (nI mo) ga ca ha_ (nI ma) sd tk op sp rc rn wa) := hD.sub [0, 1, 2, 3, 4, 5, 6, 7, 8, 9, 10, 11, 12, 13, 14, 15, 16, 17, 18, 19] (by decide) rfl
  refine W.eq (g2 := F0 m 7 ls []) rfl ?_
  refine lv_aload_n hx hb dX4_closes_7 rfl (lv_at hl 0 rfl) ?_
  refine va_get (D := E.1) (ci := 4) (v := .ref (ad 7)) (C := RX4) (T := TX4) (N := 6) hx hb hts hin4 hown hK.1 hP 0 rfl rfl 2 (by decide) lk23 (fun _ h9 => h9) rfl dX4_closes_8 ?_
  refine lv_aload_n hx hb dX4_closes_11 rfl (lv_at hl 0 rfl) ?_
  refine va_get (D := E.1) (ci := 4) (v := .ref (ad 3)) (C := RX4) (T := TX4) (N := 6) hx hb hts hin4 hown hK.1 hP 0 rfl rfl 1 (by decide) lk19 (fun _ h9 => h9) rfl dX4_closes_12 ?_
  refine e_callV (As := [.ref (ad 3)]) (rest := []) ⟨hx, hb, hml, hown, hts⟩ hK hP hD hS hA hl.1 (c_X0_becomeLike l E _ (ad 7) (ad 8) (ad 9) (ad 10) ga ca ha_ (nI ma) (ad 3) (ad 4) (ad 5) (ad 6) gr co hb_ (nI mo)) (cwV 1 hts gX4_closes_X0_becomeLike rfl rfl rfl (by decide +kernel) ⟨Nat.le_of_ble_eq_true rfl, Nat.le_of_ble_eq_true rfl⟩) [8, 9, 10, 11, 4, 5, 6, 7] [0, 1, 2, 3, 12, 13, 14, 15, 16, 17, 18, 19] rfl rfl rfl rfl (by decide) (q0 := 8) (ci := 0) rfl rfl rfl rfl (Nat.le_of_ble_eq_true rfl) dX4_closes_15 ⟨Nat.le_of_ble_eq_true rfl, Nat.le_of_ble_eq_true rfl⟩ (fun u_3 H locs hu_4 hsz1 hP hD hS => ?_)
  have hP : va_P E.1 vwCl (wAll E o ad wm st gr co hb_ (nI mo) gr co ha_ (nI mo) sd tk op sp rc rn wa) H := hP.sub [0, 1, 2, 3, 16, 17, 18, 19, 12, 13, 14, 15, 4, 5, 6, 7, 8, 9, 10, 11] rfl
  have hD : va_D A (wAll E o ad wm st gr co hb_ (nI mo) gr co ha_ (nI mo) sd tk op sp rc rn wa) := hD.sub [0, 1, 2, 3, 16, 17, 18, 19, 12, 13, 14, 15, 4, 5, 6, 7, 8, 9, 10, 11] (by decide) rfl
  refine W.eq (g2 := F0 m 18 ls []) rfl ?_
  refine lv_iconst (v := nI 0) hx hb dX4_closes_18 (by decide +kernel) ?_
  refine lv_istore_n (lv' := [(2, .int (nI 0)), (0, .ref o), (1, .int dr)]) hx hb dX4_closes_19 rfl hl (by decide) rfl (fun ls hl => ?_)
  have L20 : ∀ (fuel : Nat) (z : Nat) (g : Nat → Int32) (f : Nat → Int32) (h1 : Nat → Bool) (o1 : Nat → Bool) (s1 : Nat → Nat) (r1 : Nat → Nat) (n1 : Nat) (w1 : Nat → Int32) (hz : z ≤ 101) (hg : (g, f) = months wm st (gr, co) mo z) (hcl : ∀ j, j < z → closB wm st gr co mo dr j = true) (hfuel : 101 - z < fuel) (H : Heap) (locs : List Loc), va_P E.1 vwCl (wAll E o ad wm st gr co hb_ (nI mo) g f h1 (nI (mo + z)) sd tk o1 s1 r1 n1 w1) H → va_D A (wAll E o ad wm st gr co hb_ (nI mo) g f h1 (nI (mo + z)) sd tk o1 s1 r1 n1 w1) → va_S A s.heap H locs → ∀ ls : Array Slot, lv_has ls 3 [(2, .int (nI z)), (0, .ref o), (1, .int dr)] → W p l e rm_X4_closes s m args below meth cd H locs 0 0 Q (F0 m 20 ls []) := by
    intro fuel
    induction fuel with
    | zero => intros; omega
    | succ fuel ihL20 =>
      intro z g f h1 o1 s1 r1 n1 w1 hz hg hcl hfuel H locs hP hD hS ls hl
      have hge : g = (months wm st (gr, co) mo z).1 ∧ f = (months wm st (gr, co) mo z).2 := by rw [← hg]; exact ⟨rfl, rfl⟩
      refine lv_iload_n hx hb dX4_closes_20 rfl (lv_at hl 0 rfl) ?_
      refine lv_bipush (v := nI 100) hx hb dX4_closes_21 (by decide +kernel) ?_
      refine n_icmp_gt (x := z) (y := 100) (by omega) (by omega) (tgt := 62) hx hb dX4_closes_23 (by decide) (fun c23 => ?_) (fun c23 => ?_)
      · refine lv_iconst (v := (-1)) hx hb dX4_closes_62 (by decide +kernel) ?_
        exact e_iret (g, f, h1, mo + z, o1, s1, r1, n1, w1) hQ hx hb hr hlocks hP hD hS dX4_closes_63 (rvi (closN_no (fun j hj => hcl j (by omega)))) (Nat.le_of_ble_eq_true rfl) (Nat.le_of_ble_eq_true rfl) (trivial)
      · refine lv_aload_n hx hb dX4_closes_26 rfl (lv_at hl 1 rfl) ?_
        refine lv_aload_n hx hb dX4_closes_27 rfl (lv_at hl 1 rfl) ?_
        refine va_get (D := E.1) (ci := 4) (v := .ref (ad 7)) (C := RX4) (T := TX4) (N := 6) hx hb hts hin4 hown hK.1 hP 0 rfl rfl 2 (by decide) lk23 (fun _ h9 => h9) rfl dX4_closes_28 ?_
        refine e_callV (As := [.ref (ad 7)]) (rest := []) ⟨hx, hb, hml, hown, hts⟩ hK hP hD hS hA hl.1 (c_X4_countOnDepths_a l E _ o ad wm st gr co hb_ mo g f h1 (mo + z) sd tk o1 s1 r1 n1 w1) (cwV 1 hts gX4_closes_X4_countOnDepths rfl rfl rfl (by decide +kernel) ⟨Nat.le_of_ble_eq_true rfl, Nat.le_of_ble_eq_true rfl⟩) [0, 1, 2, 3, 4, 5, 6, 7, 8, 9, 10, 11, 12, 13, 14, 15, 16, 17, 18, 19] [] rfl rfl rfl rfl (by decide) (q0 := 0) (ci := 4) rfl rfl rfl rfl (Nat.le_of_ble_eq_true rfl) dX4_closes_31 ⟨Nat.le_of_ble_eq_true rfl, Nat.le_of_ble_eq_true rfl⟩ (fun u_5 H locs hu_6 hsz1 hP hD hS => ?_)
        have hP : va_P E.1 vwCl (wAll E o ad wm st gr co hb_ (nI mo) g f h1 (nI (mo + z)) sd tk o1 s1 r1 n1 (dep g f)) H := hP.sub [0, 1, 2, 3, 4, 5, 6, 7, 8, 9, 10, 11, 12, 13, 14, 15, 16, 17, 18, 19] rfl
        have hD : va_D A (wAll E o ad wm st gr co hb_ (nI mo) g f h1 (nI (mo + z)) sd tk o1 s1 r1 n1 (dep g f)) := hD.sub [0, 1, 2, 3, 4, 5, 6, 7, 8, 9, 10, 11, 12, 13, 14, 15, 16, 17, 18, 19] (by decide) rfl
        refine W.eq (g2 := F0 m 34 ls []) rfl ?_
        refine lv_aload_n hx hb dX4_closes_34 rfl (lv_at hl 1 rfl) ?_
        refine lv_iload_n hx hb dX4_closes_35 rfl (lv_at hl 2 rfl) ?_
        refine e_callV (As := [.int dr]) (rest := []) ⟨hx, hb, hml, hown, hts⟩ hK hP hD hS hA hl.1 (c_X4_startOfShortestWay l E _ o ad wm st gr co hb_ mo g f h1 (mo + z) sd tk o1 s1 r1 n1 (dep g f) dr) (cwV 1 hts gX4_closes_X4_startOfShortestWay rfl rfl rfl (by decide +kernel) ⟨Nat.le_of_ble_eq_true rfl, Nat.le_of_ble_eq_true rfl⟩) [0, 1, 2, 3, 4, 5, 6, 7, 8, 9, 10, 11, 12, 13, 14, 15, 16, 17, 18, 19] [] rfl rfl rfl rfl (by decide) (q0 := 0) (ci := 4) rfl rfl rfl rfl (Nat.le_of_ble_eq_true rfl) dX4_closes_36 ⟨Nat.le_of_ble_eq_true rfl, Nat.le_of_ble_eq_true rfl⟩ (fun u_7 H locs hu_8 hsz1 hP hD hS => ?_)
        obtain ⟨rc__9, rn__10⟩ := u_7
        have hP : va_P E.1 vwCl (wAll E o ad wm st gr co hb_ (nI mo) g f h1 (nI (mo + z)) sd tk (opn (dep g f) dr) (dist (opn (dep g f) dr) 72) rc__9 rn__10 (dep g f)) H := hP.sub [0, 1, 2, 3, 4, 5, 6, 7, 8, 9, 10, 11, 12, 13, 14, 15, 16, 17, 18, 19] rfl
        have hD : va_D A (wAll E o ad wm st gr co hb_ (nI mo) g f h1 (nI (mo + z)) sd tk (opn (dep g f) dr) (dist (opn (dep g f) dr) 72) rc__9 rn__10 (dep g f)) := hD.sub [0, 1, 2, 3, 4, 5, 6, 7, 8, 9, 10, 11, 12, 13, 14, 15, 16, 17, 18, 19] (by decide) rfl
        refine W.eq (g2 := F0 m 39 ls [.int (oI (bestW (dep g f) dr))]) rfl ?_
        refine lv_iconst (v := (-1)) hx hb dX4_closes_39 (by decide +kernel) ?_
        refine o_icmp_ne (x := bestW (dep g f) dr) (fun q hq => Nat.lt_trans (bestR_lt hq) (by decide)) (tgt := 45) hx hb dX4_closes_40 (by decide) (fun qb c40 => ?_) (fun c40 => ?_)
        · refine lv_aload_n hx hb dX4_closes_45 rfl (lv_at hl 1 rfl) ?_
          refine va_get (D := E.1) (ci := 4) (v := .ref (ad 7)) (C := RX4) (T := TX4) (N := 6) hx hb hts hin4 hown hK.1 hP 0 rfl rfl 2 (by decide) lk23 (fun _ h9 => h9) rfl dX4_closes_46 ?_
          refine lv_aload_n hx hb dX4_closes_49 rfl (lv_at hl 1 rfl) ?_
          refine va_get (D := E.1) (ci := 4) (v := .ref (ad 0)) (C := RX4) (T := TX4) (N := 6) hx hb hts hin4 hown hK.1 hP 0 rfl rfl 0 (by decide) lk12 (fun _ h9 => h9) rfl dX4_closes_50 ?_
          refine e_callV (As := [.ref (ad 0)]) (rest := []) ⟨hx, hb, hml, hown, hts⟩ hK hP hD hS hA hl.1 (c_X0_letMonthGo l E _ (ad 7) (ad 8) (ad 9) (ad 10) g f h1 (mo + z) (ad 0) (ad 1) (ad 2) wm st (by omega)) (cwV 1 hts gX4_closes_X0_letMonthGo rfl rfl rfl (by decide +kernel) ⟨Nat.le_of_ble_eq_true rfl, Nat.le_of_ble_eq_true rfl⟩) [8, 9, 10, 11, 1, 2, 3] [0, 4, 5, 6, 7, 12, 13, 14, 15, 16, 17, 18, 19] rfl rfl rfl rfl (by decide) (q0 := 8) (ci := 0) rfl rfl rfl rfl (Nat.le_of_ble_eq_true rfl) dX4_closes_53 ⟨Nat.le_of_ble_eq_true rfl, Nat.le_of_ble_eq_true rfl⟩ (fun u_12 H locs hu_13 hsz1 hP hD hS => ?_)
          obtain ⟨hz_14, rfl⟩ : ∃ z, z = u_12 := ⟨_, rfl⟩
          have hP : va_P E.1 vwCl (wAll E o ad wm st gr co hb_ (nI mo) ((month1 wm st (g, f) (mo + z)).1) ((month1 wm st (g, f) (mo + z)).2) hz_14 (nI ((mo + z) + 1)) sd tk (opn (dep g f) dr) (dist (opn (dep g f) dr) 72) rc__9 rn__10 (dep g f)) H := hP.sub [0, 17, 18, 19, 1, 2, 3, 4, 13, 14, 15, 16, 5, 6, 7, 8, 9, 10, 11, 12] rfl
          have hD : va_D A (wAll E o ad wm st gr co hb_ (nI mo) ((month1 wm st (g, f) (mo + z)).1) ((month1 wm st (g, f) (mo + z)).2) hz_14 (nI ((mo + z) + 1)) sd tk (opn (dep g f) dr) (dist (opn (dep g f) dr) 72) rc__9 rn__10 (dep g f)) := hD.sub [0, 17, 18, 19, 1, 2, 3, 4, 13, 14, 15, 16, 5, 6, 7, 8, 9, 10, 11, 12] (by decide) rfl
          refine W.eq (g2 := F0 m 56 ls []) rfl ?_
          refine lv_iinc (v := nI (z + 1)) (lv' := [(2, .int (nI (z + 1))), (0, .ref o), (1, .int dr)]) hx hb dX4_closes_56 hl (k := 0) rfl (nI_add z 1) (by decide) rfl (fun ls hl => ?_)
          refine lv_goto (tgt := 20) hx hb dX4_closes_59 (by decide) ?_
          exact ihL20 (z + 1) ((month1 wm st (g, f) (mo + z)).1) ((month1 wm st (g, f) (mo + z)).2) hz_14 (opn (dep g f) dr) (dist (opn (dep g f) dr) 72) rc__9 rn__10 (dep g f) (by first | omega | assumption | rfl | (simp_all; done)) (by show _ = month1 wm st (months wm st (gr, co) mo z) (mo + z); rw [← hg]) (fun j hj => by rcases Nat.lt_or_ge j z with h9 | h9; exact hcl j h9; rw [show j = z by omega]; exact closB_t (by rw [← hge.1, ← hge.2]; exact fun h8 => by rw [wayN_none.mp h8] at c40; cases c40)) (by omega) _ _ hP hD hS _ (lv_sub hl [0, 1, 2] rfl)
        · refine lv_iload_n hx hb dX4_closes_43 rfl (lv_at hl 0 rfl) ?_
          exact e_iret (g, f, h1, (mo + z), opn (dep g f) dr, dist (opn (dep g f) dr) 72, rc__9, rn__10, (dep g f)) hQ hx hb hr hlocks hP hD hS dX4_closes_44 (rvi (closN_at (by omega) hcl (closB_f (by rw [← hge.1, ← hge.2]; exact wayN_none.mpr c40)))) (Nat.le_of_ble_eq_true rfl) (Nat.le_of_ble_eq_true rfl) (trivial)
  exact L20 (101 - 0 + 1) 0 gr co ha_ op sp rc rn wa (by first | omega | assumption | rfl | (simp_all; done)) (rfl) (fun j hj => absurd hj (Nat.not_lt_zero j)) (Nat.lt_succ_self _) _ _ hP hD hS _ (lv_sub hl [0, 1, 2] rfl)

abbrev rm_X4_closes_b1 : Room := { frames := 7, cells := 1, slots := 6, locals := 104 }
set_option maxHeartbeats 4000000 in
set_option maxRecDepth 100000 in
theorem c_X4_closes_b1 (l : Launch) (hlt : l.stackTraces = false) (E : eT) (sz : Nat) (o : Nat) (ad : Nat → Nat) (wm : Nat → Int32) (st : Nat → Int32) (gr : Nat → Int32) (co : Nat → Int32) (hb_ : Nat → Bool) (mo : Nat) (ga : Nat → Int32) (ca : Nat → Int32) (ha_ : Nat → Bool) (ma : Nat) (sd : Nat → Int32) (tk : Nat → Int32) (op : Nat → Bool) (sp : Nat → Nat) (rc : Nat → Nat) (rn : Nat) (wa : Nat → Int32) (dr : Int32) (hdr : isInB dr (nI 0) (nI 39) = false) : cX l yX4_closes wsX4_closes rm_X4_closes_b1 E sz [.ref o, .int dr] (wAll E o ad wm st gr co hb_ (nI mo) ga ca ha_ (nI ma) sd tk op sp rc rn wa) nX2 := by
  refine cX_intro (cc := cX4_closes) (maxL := 3) (ret := (some .int)) (by decide +kernel) rfl (Nat.le_of_ble_eq_true rfl) ?_
  intro p e s m args below meth cd hx hb hr hml hown hlocks hts hnm ht hK hsz hP A hD hA hX Q hQ ls hl
  have hown : s.vm.findClass RX4 = some m.cls := hown
  have hS : va_S A s.heap s.heap [] := va_S.rf
  have hl : lv_has ls 3 [(0, .ref o), (1, .int dr)] := hl
  refine lv_iload_n hx hb dX4_closes_0 rfl (lv_at hl 1 rfl) ?_
  refine lv_iconst (v := nI 0) hx hb dX4_closes_1 (by decide +kernel) ?_
  refine lv_bipush (v := nI 39) hx hb dX4_closes_2 (by decide +kernel) ?_
  refine e_callSX (As := [.int dr, .int (nI 0), .int (nI 39)]) (rest := []) ⟨hx, hb, hml, hown, hts⟩ hK hX hP hD hS hA hl.1 (c_X4_needWithin_t l hlt E _ dr (nI 0) (nI 39) (hdr)) (va_cwS 3 hts gX4_closes_X4_needWithin rfl rfl rfl (by decide +kernel) ⟨Nat.le_of_ble_eq_true rfl, Nat.le_of_ble_eq_true rfl⟩) [] [0, 1, 2, 3, 4, 5, 6, 7, 8, 9, 10, 11, 12, 13, 14, 15, 16, 17, 18, 19] rfl rfl rfl rfl (by decide) rfl rfl (Nat.le_of_ble_eq_true rfl) dX4_closes_4 ⟨Nat.le_of_ble_eq_true rfl, Nat.le_of_ble_eq_true rfl⟩ (fun ce q9 H locs hsz1 hP hD hS hcell hvm hcl => ?_)
  have hP : va_P E.1 vwCl (wAll E o ad wm st gr co hb_ (nI mo) ga ca ha_ (nI ma) sd tk op sp rc rn wa) H := hP.sub [0, 1, 2, 3, 4, 5, 6, 7, 8, 9, 10, 11, 12, 13, 14, 15, 16, 17, 18, 19] rfl
  have hD : va_D A (wAll E o ad wm st gr co hb_ (nI mo) ga ca ha_ (nI ma) sd tk op sp rc rn wa) := hD.sub [0, 1, 2, 3, 4, 5, 6, 7, 8, 9, 10, 11, 12, 13, 14, 15, 16, 17, 18, 19] (by decide) rfl
  exact e_outX hQ ht hlocks hP hS hcell hvm hcl (Nat.le_of_ble_eq_true rfl) (Nat.le_of_ble_eq_true rfl)

abbrev rm_X4_foresee : Room := { frames := 5, cells := 0, slots := 0, locals := 115 }
set_option maxHeartbeats 4000000 in
set_option maxRecDepth 100000 in
theorem c_X4_foresee (l : Launch) (E : eT) (sz : Nat) (o : Nat) (ad : Nat → Nat) (wm : Nat → Int32) (st : Nat → Int32) (gr : Nat → Int32) (co : Nat → Int32) (hb_ : Nat → Bool) (mo : Nat) (ga : Nat → Int32) (ca : Nat → Int32) (ha_ : Nat → Bool) (ma : Nat) (sd : Nat → Int32) (tk : Nat → Int32) (op : Nat → Bool) (sp : Nat → Nat) (rc : Nat → Nat) (rn : Nat) (wa : Nat → Int32) (k : Nat) (q : Nat) (hk1 : 1 ≤ k) (hk : k ≤ 100) (hq : q < 3) (hmo : mo < 2 ^ 30) : cM l yX4_foresee wsX4_foresee rm_X4_foresee E sz [.ref o, .int (nI k), .int (nI q)] (wAll E o ad wm st gr co hb_ (nI mo) ga ca ha_ (nI ma) sd tk op sp rc rn wa) (fun u : (Nat → Int32) × (Nat → Int32) × (Nat → Bool) × (Nat) × (Nat → Bool) × (Nat → Nat) × (Nat → Nat) × (Nat) × (Nat → Int32) => some (.int (forA (months wm st (gr, co) mo k).1 (months wm st (gr, co) mo k).2 q))) (fun u : (Nat → Int32) × (Nat → Int32) × (Nat → Bool) × (Nat) × (Nat → Bool) × (Nat → Nat) × (Nat → Nat) × (Nat) × (Nat → Int32) => True) (fun u : (Nat → Int32) × (Nat → Int32) × (Nat → Bool) × (Nat) × (Nat → Bool) × (Nat → Nat) × (Nat → Nat) × (Nat) × (Nat → Int32) => wAll E o ad wm st gr co hb_ (nI mo) u.1 u.2.1 u.2.2.1 (nI u.2.2.2.1) sd tk u.2.2.2.2.1 u.2.2.2.2.2.1 u.2.2.2.2.2.2.1 u.2.2.2.2.2.2.2.1 u.2.2.2.2.2.2.2.2) := by
  refine cM_intro (cc := cX4_foresee) (maxL := 4) (ret := (some .int)) (by decide +kernel) rfl (Nat.le_of_ble_eq_true rfl) ?_
  intro p e s m args below meth cd hx hb hr hml hown hlocks hts hnm hK hsz hP A hD hA Q hQ ls hl
  have hown : s.vm.findClass RX4 = some m.cls := hown
  have hin4 : ∀ w ∈ u_ws RX4 TX4 6, w ∈ wsX4_foresee := by decide +kernel
  have lk12 := hts (.fieldLink RX4 12 "ReefPilot" "table" "LReefPilot$Table;") (by decide +kernel)
  have lk19 := hts (.fieldLink RX4 19 "ReefPilot" "coast" "LReefPilot$Coast;") (by decide +kernel)
  have lk23 := hts (.fieldLink RX4 23 "ReefPilot" "ahead" "LReefPilot$Coast;") (by decide +kernel)
  have hS : va_S A s.heap s.heap [] := va_S.rf
  have hl : lv_has ls 4 [(0, .ref o), (1, .int (nI k)), (2, .int (nI q))] := hl
  refine lv_iload_n hx hb dX4_foresee_0 rfl (lv_at hl 1 rfl) ?_
  refine lv_iconst (v := nI 1) hx hb dX4_foresee_1 (by decide +kernel) ?_
  refine lv_bipush (v := nI 100) hx hb dX4_foresee_2 (by decide +kernel) ?_
  refine e_callS (As := [.int (nI k), .int (nI 1), .int (nI 100)]) (rest := []) ⟨hx, hb, hml, hown, hts⟩ hK hP hD hS hA hl.1 (c_X4_needWithin l E _ (nI k) (nI 1) (nI 100) (isInB_n hk1 hk (by decide))) (va_cwS 3 hts gX4_foresee_X4_needWithin rfl rfl rfl (by decide +kernel) ⟨Nat.le_of_ble_eq_true rfl, Nat.le_of_ble_eq_true rfl⟩) [] [0, 1, 2, 3, 4, 5, 6, 7, 8, 9, 10, 11, 12, 13, 14, 15, 16, 17, 18, 19] rfl rfl rfl rfl (by decide) rfl rfl (Nat.le_of_ble_eq_true rfl) dX4_foresee_4 ⟨Nat.le_of_ble_eq_true rfl, Nat.le_of_ble_eq_true rfl⟩ (fun u_1 H locs hu_2 hsz1 hP hD hS => ?_)
  have hP : va_P E.1 vwCl (wAll E o ad wm st gr co hb_ (nI mo) ga ca ha_ (nI ma) sd tk op sp rc rn wa) H := hP.sub [0, 1, 2, 3, 4, 5, 6, 7, 8, 9, 10, 11, 12, 13, 14, 15, 16, 17, 18, 19] rfl
  have hD : va_D A (wAll E o ad wm st gr co hb_ (nI mo) ga ca ha_ (nI ma) sd tk op sp rc rn wa) := hD.sub [0, 1, 2, 3, 4, 5, 6, 7, 8, 9, 10, 11, 12, 13, 14, 15, 16, 17, 18, 19] (by decide) rfl
  refine W.eq (g2 := F0 m 7 ls []) rfl ?_
  refine lv_iload_n hx hb dX4_foresee_7 rfl (lv_at hl 2 rfl) ?_
  refine lv_iconst (v := nI 3) hx hb dX4_foresee_8 (by decide +kernel) ?_
  refine e_callS (As := [.int (nI q), .int (nI 3)]) (rest := []) ⟨hx, hb, hml, hown, hts⟩ hK hP hD hS hA hl.1 (c_X4_needIndex l E _ q 3 (by first | omega | assumption | rfl | (simp_all; done)) (by first | omega | assumption | rfl | (simp_all; done))) (va_cwS 2 hts gX4_foresee_X4_needIndex rfl rfl rfl (by decide +kernel) ⟨Nat.le_of_ble_eq_true rfl, Nat.le_of_ble_eq_true rfl⟩) [] [0, 1, 2, 3, 4, 5, 6, 7, 8, 9, 10, 11, 12, 13, 14, 15, 16, 17, 18, 19] rfl rfl rfl rfl (by decide) rfl rfl (Nat.le_of_ble_eq_true rfl) dX4_foresee_9 ⟨Nat.le_of_ble_eq_true rfl, Nat.le_of_ble_eq_true rfl⟩ (fun u_3 H locs hu_4 hsz1 hP hD hS => ?_)
  have hP : va_P E.1 vwCl (wAll E o ad wm st gr co hb_ (nI mo) ga ca ha_ (nI ma) sd tk op sp rc rn wa) H := hP.sub [0, 1, 2, 3, 4, 5, 6, 7, 8, 9, 10, 11, 12, 13, 14, 15, 16, 17, 18, 19] rfl
  have hD : va_D A (wAll E o ad wm st gr co hb_ (nI mo) ga ca ha_ (nI ma) sd tk op sp rc rn wa) := hD.sub [0, 1, 2, 3, 4, 5, 6, 7, 8, 9, 10, 11, 12, 13, 14, 15, 16, 17, 18, 19] (by decide) rfl
  refine W.eq (g2 := F0 m 12 ls []) rfl ?_
  refine lv_aload_n hx hb dX4_foresee_12 rfl (lv_at hl 0 rfl) ?_
  refine va_get (D := E.1) (ci := 4) (v := .ref (ad 7)) (C := RX4) (T := TX4) (N := 6) hx hb hts hin4 hown hK.1 hP 0 rfl rfl 2 (by decide) lk23 (fun _ h9 => h9) rfl dX4_foresee_13 ?_
  refine lv_aload_n hx hb dX4_foresee_16 rfl (lv_at hl 0 rfl) ?_
  refine va_get (D := E.1) (ci := 4) (v := .ref (ad 3)) (C := RX4) (T := TX4) (N := 6) hx hb hts hin4 hown hK.1 hP 0 rfl rfl 1 (by decide) lk19 (fun _ h9 => h9) rfl dX4_foresee_17 ?_
  refine e_callV (As := [.ref (ad 3)]) (rest := []) ⟨hx, hb, hml, hown, hts⟩ hK hP hD hS hA hl.1 (c_X0_becomeLike l E _ (ad 7) (ad 8) (ad 9) (ad 10) ga ca ha_ (nI ma) (ad 3) (ad 4) (ad 5) (ad 6) gr co hb_ (nI mo)) (cwV 1 hts gX4_foresee_X0_becomeLike rfl rfl rfl (by decide +kernel) ⟨Nat.le_of_ble_eq_true rfl, Nat.le_of_ble_eq_true rfl⟩) [8, 9, 10, 11, 4, 5, 6, 7] [0, 1, 2, 3, 12, 13, 14, 15, 16, 17, 18, 19] rfl rfl rfl rfl (by decide) (q0 := 8) (ci := 0) rfl rfl rfl rfl (Nat.le_of_ble_eq_true rfl) dX4_foresee_20 ⟨Nat.le_of_ble_eq_true rfl, Nat.le_of_ble_eq_true rfl⟩ (fun u_5 H locs hu_6 hsz1 hP hD hS => ?_)
  have hP : va_P E.1 vwCl (wAll E o ad wm st gr co hb_ (nI mo) gr co ha_ (nI mo) sd tk op sp rc rn wa) H := hP.sub [0, 1, 2, 3, 16, 17, 18, 19, 12, 13, 14, 15, 4, 5, 6, 7, 8, 9, 10, 11] rfl
  have hD : va_D A (wAll E o ad wm st gr co hb_ (nI mo) gr co ha_ (nI mo) sd tk op sp rc rn wa) := hD.sub [0, 1, 2, 3, 16, 17, 18, 19, 12, 13, 14, 15, 4, 5, 6, 7, 8, 9, 10, 11] (by decide) rfl
  refine W.eq (g2 := F0 m 23 ls []) rfl ?_
  refine lv_iconst (v := nI 0) hx hb dX4_foresee_23 (by decide +kernel) ?_
  refine lv_istore_n (lv' := [(3, .int (nI 0)), (0, .ref o), (1, .int (nI k)), (2, .int (nI q))]) hx hb dX4_foresee_24 rfl hl (by decide) rfl (fun ls hl => ?_)
  have L25 : ∀ (fuel : Nat) (z : Nat) (g : Nat → Int32) (f : Nat → Int32) (h1 : Nat → Bool) (hz : z ≤ k) (hg : (g, f) = months wm st (gr, co) mo z) (hfuel : k - z < fuel) (H : Heap) (locs : List Loc), va_P E.1 vwCl (wAll E o ad wm st gr co hb_ (nI mo) g f h1 (nI (mo + z)) sd tk op sp rc rn wa) H → va_D A (wAll E o ad wm st gr co hb_ (nI mo) g f h1 (nI (mo + z)) sd tk op sp rc rn wa) → va_S A s.heap H locs → ∀ ls : Array Slot, lv_has ls 4 [(3, .int (nI z)), (0, .ref o), (1, .int (nI k)), (2, .int (nI q))] → W p l e rm_X4_foresee s m args below meth cd H locs 0 0 Q (F0 m 25 ls []) := by
    intro fuel
    induction fuel with
    | zero => intros; omega
    | succ fuel ihL25 =>
      intro z g f h1 hz hg hfuel H locs hP hD hS ls hl
      refine lv_iload_n hx hb dX4_foresee_25 rfl (lv_at hl 0 rfl) ?_
      refine lv_iload_n hx hb dX4_foresee_26 rfl (lv_at hl 2 rfl) ?_
      refine n_icmp_ge (x := z) (y := k) (by omega) (by omega) (tgt := 47) hx hb dX4_foresee_27 (by decide) (fun c27 => ?_) (fun c27 => ?_)
      · have hge : g = (months wm st (gr, co) mo k).1 ∧ f = (months wm st (gr, co) mo k).2 := by rw [show k = z by omega, ← hg]; exact ⟨rfl, rfl⟩
        refine lv_iload_n hx hb dX4_foresee_47 rfl (lv_at hl 3 rfl) ?_
        rcases (show q = 0 ∨ q = 1 ∨ q = 2 by omega) with rfl | rfl | rfl
        · refine lv_lookup (off := 28) (tgt := 76) hx hb dX4_foresee_48 (by decide +kernel) (by decide +kernel) (by decide) ?_
          refine lv_aload_n hx hb dX4_foresee_76 rfl (lv_at hl 1 rfl) ?_
          refine va_get (D := E.1) (ci := 4) (v := .ref (ad 7)) (C := RX4) (T := TX4) (N := 6) hx hb hts hin4 hown hK.1 hP 0 rfl rfl 2 (by decide) lk23 (fun _ h9 => h9) rfl dX4_foresee_77 ?_
          refine e_callV (As := []) (rest := []) ⟨hx, hb, hml, hown, hts⟩ hK hP hD hS hA hl.1 (c_X0_heads l E _ (ad 7) (ad 8) (ad 9) (ad 10) g f h1 (nI (mo + z))) (cwV 0 hts gX4_foresee_X0_heads rfl rfl rfl (by decide +kernel) ⟨Nat.le_of_ble_eq_true rfl, Nat.le_of_ble_eq_true rfl⟩) [8, 9, 10, 11] [0, 1, 2, 3, 4, 5, 6, 7, 12, 13, 14, 15, 16, 17, 18, 19] rfl rfl rfl rfl (by decide) (q0 := 8) (ci := 0) rfl rfl rfl rfl (Nat.le_of_ble_eq_true rfl) dX4_foresee_80 ⟨Nat.le_of_ble_eq_true rfl, Nat.le_of_ble_eq_true rfl⟩ (fun u_7 H locs hu_8 hsz1 hP hD hS => ?_)
          have hP : va_P E.1 vwCl (wAll E o ad wm st gr co hb_ (nI mo) g f h1 (nI (mo + z)) sd tk op sp rc rn wa) H := hP.sub [0, 1, 2, 3, 4, 5, 6, 7, 16, 17, 18, 19, 8, 9, 10, 11, 12, 13, 14, 15] rfl
          have hD : va_D A (wAll E o ad wm st gr co hb_ (nI mo) g f h1 (nI (mo + z)) sd tk op sp rc rn wa) := hD.sub [0, 1, 2, 3, 4, 5, 6, 7, 16, 17, 18, 19, 8, 9, 10, 11, 12, 13, 14, 15] (by decide) rfl
          refine W.eq (g2 := F0 m 83 ls [.int (nI (heads f))]) rfl ?_
          exact e_iret (g, f, h1, mo + z, op, sp, rc, rn, wa) hQ hx hb hr hlocks hP hD hS dX4_foresee_83 (rvi (by rw [← hge.1, ← hge.2]; rfl)) (Nat.le_of_ble_eq_true rfl) (Nat.le_of_ble_eq_true rfl) (trivial)
        · refine lv_lookup (off := 36) (tgt := 84) hx hb dX4_foresee_48 (by decide +kernel) (by decide +kernel) (by decide) ?_
          refine lv_aload_n hx hb dX4_foresee_84 rfl (lv_at hl 1 rfl) ?_
          refine lv_aload_n hx hb dX4_foresee_85 rfl (lv_at hl 1 rfl) ?_
          refine va_get (D := E.1) (ci := 4) (v := .ref (ad 7)) (C := RX4) (T := TX4) (N := 6) hx hb hts hin4 hown hK.1 hP 0 rfl rfl 2 (by decide) lk23 (fun _ h9 => h9) rfl dX4_foresee_86 ?_
          refine e_callV (As := [.ref (ad 7)]) (rest := []) ⟨hx, hb, hml, hown, hts⟩ hK hP hD hS hA hl.1 (c_X4_reefsOn_a l E _ o ad wm st gr co hb_ mo g f h1 (mo + z) sd tk op sp rc rn wa) (cwV 1 hts gX4_foresee_X4_reefsOn rfl rfl rfl (by decide +kernel) ⟨Nat.le_of_ble_eq_true rfl, Nat.le_of_ble_eq_true rfl⟩) [0, 1, 2, 3, 4, 5, 6, 7, 8, 9, 10, 11, 12, 13, 14, 15, 16, 17, 18, 19] [] rfl rfl rfl rfl (by decide) (q0 := 0) (ci := 4) rfl rfl rfl rfl (Nat.le_of_ble_eq_true rfl) dX4_foresee_89 ⟨Nat.le_of_ble_eq_true rfl, Nat.le_of_ble_eq_true rfl⟩ (fun u_9 H locs hu_10 hsz1 hP hD hS => ?_)
          obtain ⟨op__11, sp__12, rc__13, rn__14⟩ := u_9
          have hP : va_P E.1 vwCl (wAll E o ad wm st gr co hb_ (nI mo) g f h1 (nI (mo + z)) sd tk op__11 sp__12 rc__13 rn__14 wa) H := hP.sub [0, 1, 2, 3, 4, 5, 6, 7, 8, 9, 10, 11, 12, 13, 14, 15, 16, 17, 18, 19] rfl
          have hD : va_D A (wAll E o ad wm st gr co hb_ (nI mo) g f h1 (nI (mo + z)) sd tk op__11 sp__12 rc__13 rn__14 wa) := hD.sub [0, 1, 2, 3, 4, 5, 6, 7, 8, 9, 10, 11, 12, 13, 14, 15, 16, 17, 18, 19] (by decide) rfl
          refine W.eq (g2 := F0 m 92 ls [.int (nI (reefN (hd f)))]) rfl ?_
          exact e_iret (g, f, h1, (mo + z), op__11, sp__12, rc__13, rn__14, wa) hQ hx hb hr hlocks hP hD hS dX4_foresee_92 (rvi (by rw [← hge.1, ← hge.2]; rfl)) (Nat.le_of_ble_eq_true rfl) (Nat.le_of_ble_eq_true rfl) (trivial)
        · refine lv_lookup (off := 45) (tgt := 93) hx hb dX4_foresee_48 (by decide +kernel) (by decide +kernel) (by decide) ?_
          refine lv_aload_n hx hb dX4_foresee_93 rfl (lv_at hl 1 rfl) ?_
          refine lv_aload_n hx hb dX4_foresee_94 rfl (lv_at hl 1 rfl) ?_
          refine va_get (D := E.1) (ci := 4) (v := .ref (ad 7)) (C := RX4) (T := TX4) (N := 6) hx hb hts hin4 hown hK.1 hP 0 rfl rfl 2 (by decide) lk23 (fun _ h9 => h9) rfl dX4_foresee_95 ?_
          refine e_callV (As := [.ref (ad 7)]) (rest := []) ⟨hx, hb, hml, hown, hts⟩ hK hP hD hS hA hl.1 (c_X4_countOnDepths_a l E _ o ad wm st gr co hb_ mo g f h1 (mo + z) sd tk op sp rc rn wa) (cwV 1 hts gX4_foresee_X4_countOnDepths rfl rfl rfl (by decide +kernel) ⟨Nat.le_of_ble_eq_true rfl, Nat.le_of_ble_eq_true rfl⟩) [0, 1, 2, 3, 4, 5, 6, 7, 8, 9, 10, 11, 12, 13, 14, 15, 16, 17, 18, 19] [] rfl rfl rfl rfl (by decide) (q0 := 0) (ci := 4) rfl rfl rfl rfl (Nat.le_of_ble_eq_true rfl) dX4_foresee_98 ⟨Nat.le_of_ble_eq_true rfl, Nat.le_of_ble_eq_true rfl⟩ (fun u_15 H locs hu_16 hsz1 hP hD hS => ?_)
          have hP : va_P E.1 vwCl (wAll E o ad wm st gr co hb_ (nI mo) g f h1 (nI (mo + z)) sd tk op sp rc rn (dep g f)) H := hP.sub [0, 1, 2, 3, 4, 5, 6, 7, 8, 9, 10, 11, 12, 13, 14, 15, 16, 17, 18, 19] rfl
          have hD : va_D A (wAll E o ad wm st gr co hb_ (nI mo) g f h1 (nI (mo + z)) sd tk op sp rc rn (dep g f)) := hD.sub [0, 1, 2, 3, 4, 5, 6, 7, 8, 9, 10, 11, 12, 13, 14, 15, 16, 17, 18, 19] (by decide) rfl
          refine W.eq (g2 := F0 m 101 ls []) rfl ?_
          refine lv_aload_n hx hb dX4_foresee_101 rfl (lv_at hl 1 rfl) ?_
          refine e_callV (As := []) (rest := []) ⟨hx, hb, hml, hown, hts⟩ hK hP hD hS hA hl.1 (c_X4_greatestDraught l E _ o ad wm st gr co hb_ mo g f h1 (mo + z) sd tk op sp rc rn (dep g f)) (cwV 0 hts gX4_foresee_X4_greatestDraught rfl rfl rfl (by decide +kernel) ⟨Nat.le_of_ble_eq_true rfl, Nat.le_of_ble_eq_true rfl⟩) [0, 1, 2, 3, 4, 5, 6, 7, 8, 9, 10, 11, 12, 13, 14, 15, 16, 17, 18, 19] [] rfl rfl rfl rfl (by decide) (q0 := 0) (ci := 4) rfl rfl rfl rfl (Nat.le_of_ble_eq_true rfl) dX4_foresee_102 ⟨Nat.le_of_ble_eq_true rfl, Nat.le_of_ble_eq_true rfl⟩ (fun u_17 H locs hu_18 hsz1 hP hD hS => ?_)
          obtain ⟨op__19, sp__20, rc__21, rn__22⟩ := u_17
          have hP : va_P E.1 vwCl (wAll E o ad wm st gr co hb_ (nI mo) g f h1 (nI (mo + z)) sd tk op__19 sp__20 rc__21 rn__22 (dep g f)) H := hP.sub [0, 1, 2, 3, 4, 5, 6, 7, 8, 9, 10, 11, 12, 13, 14, 15, 16, 17, 18, 19] rfl
          have hD : va_D A (wAll E o ad wm st gr co hb_ (nI mo) g f h1 (nI (mo + z)) sd tk op__19 sp__20 rc__21 rn__22 (dep g f)) := hD.sub [0, 1, 2, 3, 4, 5, 6, 7, 8, 9, 10, 11, 12, 13, 14, 15, 16, 17, 18, 19] (by decide) rfl
          refine W.eq (g2 := F0 m 105 ls [.int (oI (mostD (someW (dep g f)) 40))]) rfl ?_
          exact e_iret (g, f, h1, (mo + z), op__19, sp__20, rc__21, rn__22, (dep g f)) hQ hx hb hr hlocks hP hD hS dX4_foresee_105 (rvi (by rw [← hge.1, ← hge.2]; rfl)) (Nat.le_of_ble_eq_true rfl) (Nat.le_of_ble_eq_true rfl) (trivial)
      · refine lv_aload_n hx hb dX4_foresee_30 rfl (lv_at hl 1 rfl) ?_
        refine va_get (D := E.1) (ci := 4) (v := .ref (ad 7)) (C := RX4) (T := TX4) (N := 6) hx hb hts hin4 hown hK.1 hP 0 rfl rfl 2 (by decide) lk23 (fun _ h9 => h9) rfl dX4_foresee_31 ?_
        refine lv_aload_n hx hb dX4_foresee_34 rfl (lv_at hl 1 rfl) ?_
        refine va_get (D := E.1) (ci := 4) (v := .ref (ad 0)) (C := RX4) (T := TX4) (N := 6) hx hb hts hin4 hown hK.1 hP 0 rfl rfl 0 (by decide) lk12 (fun _ h9 => h9) rfl dX4_foresee_35 ?_
        refine e_callV (As := [.ref (ad 0)]) (rest := []) ⟨hx, hb, hml, hown, hts⟩ hK hP hD hS hA hl.1 (c_X0_letMonthGo l E _ (ad 7) (ad 8) (ad 9) (ad 10) g f h1 (mo + z) (ad 0) (ad 1) (ad 2) wm st (by omega)) (cwV 1 hts gX4_foresee_X0_letMonthGo rfl rfl rfl (by decide +kernel) ⟨Nat.le_of_ble_eq_true rfl, Nat.le_of_ble_eq_true rfl⟩) [8, 9, 10, 11, 1, 2, 3] [0, 4, 5, 6, 7, 12, 13, 14, 15, 16, 17, 18, 19] rfl rfl rfl rfl (by decide) (q0 := 8) (ci := 0) rfl rfl rfl rfl (Nat.le_of_ble_eq_true rfl) dX4_foresee_38 ⟨Nat.le_of_ble_eq_true rfl, Nat.le_of_ble_eq_true rfl⟩ (fun u_23 H locs hu_24 hsz1 hP hD hS => ?_)
        obtain ⟨hz_25, rfl⟩ : ∃ z, z = u_23 := ⟨_, rfl⟩
        have hP : va_P E.1 vwCl (wAll E o ad wm st gr co hb_ (nI mo) ((month1 wm st (g, f) (mo + z)).1) ((month1 wm st (g, f) (mo + z)).2) hz_25 (nI ((mo + z) + 1)) sd tk op sp rc rn wa) H := hP.sub [0, 17, 18, 19, 1, 2, 3, 4, 13, 14, 15, 16, 5, 6, 7, 8, 9, 10, 11, 12] rfl
        have hD : va_D A (wAll E o ad wm st gr co hb_ (nI mo) ((month1 wm st (g, f) (mo + z)).1) ((month1 wm st (g, f) (mo + z)).2) hz_25 (nI ((mo + z) + 1)) sd tk op sp rc rn wa) := hD.sub [0, 17, 18, 19, 1, 2, 3, 4, 13, 14, 15, 16, 5, 6, 7, 8, 9, 10, 11, 12] (by decide) rfl
        refine W.eq (g2 := F0 m 41 ls []) rfl ?_
        refine lv_iinc (v := nI (z + 1)) (lv' := [(3, .int (nI (z + 1))), (0, .ref o), (1, .int (nI k)), (2, .int (nI q))]) hx hb dX4_foresee_41 hl (k := 0) rfl (nI_add z 1) (by decide) rfl (fun ls hl => ?_)
        refine lv_goto (tgt := 25) hx hb dX4_foresee_44 (by decide) ?_
        exact ihL25 (z + 1) ((month1 wm st (g, f) (mo + z)).1) ((month1 wm st (g, f) (mo + z)).2) hz_25 (by first | omega | assumption | rfl | (simp_all; done)) (by show _ = month1 wm st (months wm st (gr, co) mo z) (mo + z); rw [← hg]) (by omega) _ _ hP hD hS _ (lv_sub hl [0, 1, 2, 3] rfl)
  exact L25 (k - 0 + 1) 0 gr co ha_ (by first | omega | assumption | rfl | (simp_all; done)) (rfl) (Nat.lt_succ_self _) _ _ hP hD hS _ (lv_sub hl [0, 1, 2, 3] rfl)

abbrev rm_X4_foresee_b1 : Room := { frames := 7, cells := 1, slots := 6, locals := 104 }
set_option maxHeartbeats 4000000 in
set_option maxRecDepth 100000 in
theorem c_X4_foresee_b1 (l : Launch) (hlt : l.stackTraces = false) (E : eT) (sz : Nat) (o : Nat) (ad : Nat → Nat) (wm : Nat → Int32) (st : Nat → Int32) (gr : Nat → Int32) (co : Nat → Int32) (hb_ : Nat → Bool) (mo : Nat) (ga : Nat → Int32) (ca : Nat → Int32) (ha_ : Nat → Bool) (ma : Nat) (sd : Nat → Int32) (tk : Nat → Int32) (op : Nat → Bool) (sp : Nat → Nat) (rc : Nat → Nat) (rn : Nat) (wa : Nat → Int32) (x : Int32) (y : Int32) (hc : isInB x (nI 1) (nI 100) = false) : cX l yX4_foresee wsX4_foresee rm_X4_foresee_b1 E sz [.ref o, .int x, .int y] (wAll E o ad wm st gr co hb_ (nI mo) ga ca ha_ (nI ma) sd tk op sp rc rn wa) nX2 := by
  refine cX_intro (cc := cX4_foresee) (maxL := 4) (ret := (some .int)) (by decide +kernel) rfl (Nat.le_of_ble_eq_true rfl) ?_
  intro p e s m args below meth cd hx hb hr hml hown hlocks hts hnm ht hK hsz hP A hD hA hX Q hQ ls hl
  have hown : s.vm.findClass RX4 = some m.cls := hown
  have hS : va_S A s.heap s.heap [] := va_S.rf
  have hl : lv_has ls 4 [(0, .ref o), (1, .int x), (2, .int y)] := hl
  refine lv_iload_n hx hb dX4_foresee_0 rfl (lv_at hl 1 rfl) ?_
  refine lv_iconst (v := nI 1) hx hb dX4_foresee_1 (by decide +kernel) ?_
  refine lv_bipush (v := nI 100) hx hb dX4_foresee_2 (by decide +kernel) ?_
  refine e_callSX (As := [.int x, .int (nI 1), .int (nI 100)]) (rest := []) ⟨hx, hb, hml, hown, hts⟩ hK hX hP hD hS hA hl.1 (c_X4_needWithin_t l hlt E _ x (nI 1) (nI 100) (hc)) (va_cwS 3 hts gX4_foresee_X4_needWithin rfl rfl rfl (by decide +kernel) ⟨Nat.le_of_ble_eq_true rfl, Nat.le_of_ble_eq_true rfl⟩) [] [0, 1, 2, 3, 4, 5, 6, 7, 8, 9, 10, 11, 12, 13, 14, 15, 16, 17, 18, 19] rfl rfl rfl rfl (by decide) rfl rfl (Nat.le_of_ble_eq_true rfl) dX4_foresee_4 ⟨Nat.le_of_ble_eq_true rfl, Nat.le_of_ble_eq_true rfl⟩ (fun ce q9 H locs hsz1 hP hD hS hcell hvm hcl => ?_)
  have hP : va_P E.1 vwCl (wAll E o ad wm st gr co hb_ (nI mo) ga ca ha_ (nI ma) sd tk op sp rc rn wa) H := hP.sub [0, 1, 2, 3, 4, 5, 6, 7, 8, 9, 10, 11, 12, 13, 14, 15, 16, 17, 18, 19] rfl
  have hD : va_D A (wAll E o ad wm st gr co hb_ (nI mo) ga ca ha_ (nI ma) sd tk op sp rc rn wa) := hD.sub [0, 1, 2, 3, 4, 5, 6, 7, 8, 9, 10, 11, 12, 13, 14, 15, 16, 17, 18, 19] (by decide) rfl
  exact e_outX hQ ht hlocks hP hS hcell hvm hcl (Nat.le_of_ble_eq_true rfl) (Nat.le_of_ble_eq_true rfl)

abbrev rm_X4_foresee_b2 : Room := { frames := 7, cells := 1, slots := 6, locals := 103 }
set_option maxHeartbeats 4000000 in
set_option maxRecDepth 100000 in
theorem c_X4_foresee_b2 (l : Launch) (hlt : l.stackTraces = false) (E : eT) (sz : Nat) (o : Nat) (ad : Nat → Nat) (wm : Nat → Int32) (st : Nat → Int32) (gr : Nat → Int32) (co : Nat → Int32) (hb_ : Nat → Bool) (mo : Nat) (ga : Nat → Int32) (ca : Nat → Int32) (ha_ : Nat → Bool) (ma : Nat) (sd : Nat → Int32) (tk : Nat → Int32) (op : Nat → Bool) (sp : Nat → Nat) (rc : Nat → Nat) (rn : Nat) (wa : Nat → Int32) (k : Nat) (y : Int32) (hk1 : 1 ≤ k) (hk : k ≤ 100) (hc : isInB y (nI 0) (nI 2) = false) : cX l yX4_foresee wsX4_foresee rm_X4_foresee_b2 E sz [.ref o, .int (nI k), .int y] (wAll E o ad wm st gr co hb_ (nI mo) ga ca ha_ (nI ma) sd tk op sp rc rn wa) nX1 := by
  refine cX_intro (cc := cX4_foresee) (maxL := 4) (ret := (some .int)) (by decide +kernel) rfl (Nat.le_of_ble_eq_true rfl) ?_
  intro p e s m args below meth cd hx hb hr hml hown hlocks hts hnm ht hK hsz hP A hD hA hX Q hQ ls hl
  have hown : s.vm.findClass RX4 = some m.cls := hown
  have hS : va_S A s.heap s.heap [] := va_S.rf
  have hl : lv_has ls 4 [(0, .ref o), (1, .int (nI k)), (2, .int y)] := hl
  refine lv_iload_n hx hb dX4_foresee_0 rfl (lv_at hl 1 rfl) ?_
  refine lv_iconst (v := nI 1) hx hb dX4_foresee_1 (by decide +kernel) ?_
  refine lv_bipush (v := nI 100) hx hb dX4_foresee_2 (by decide +kernel) ?_
  refine e_callS (As := [.int (nI k), .int (nI 1), .int (nI 100)]) (rest := []) ⟨hx, hb, hml, hown, hts⟩ hK hP hD hS hA hl.1 (c_X4_needWithin l E _ (nI k) (nI 1) (nI 100) (isInB_n hk1 hk (by decide))) (va_cwS 3 hts gX4_foresee_X4_needWithin rfl rfl rfl (by decide +kernel) ⟨Nat.le_of_ble_eq_true rfl, Nat.le_of_ble_eq_true rfl⟩) [] [0, 1, 2, 3, 4, 5, 6, 7, 8, 9, 10, 11, 12, 13, 14, 15, 16, 17, 18, 19] rfl rfl rfl rfl (by decide) rfl rfl (Nat.le_of_ble_eq_true rfl) dX4_foresee_4 ⟨Nat.le_of_ble_eq_true rfl, Nat.le_of_ble_eq_true rfl⟩ (fun u_1 H locs hu_2 hsz1 hP hD hS => ?_)
  have hP : va_P E.1 vwCl (wAll E o ad wm st gr co hb_ (nI mo) ga ca ha_ (nI ma) sd tk op sp rc rn wa) H := hP.sub [0, 1, 2, 3, 4, 5, 6, 7, 8, 9, 10, 11, 12, 13, 14, 15, 16, 17, 18, 19] rfl
  have hD : va_D A (wAll E o ad wm st gr co hb_ (nI mo) ga ca ha_ (nI ma) sd tk op sp rc rn wa) := hD.sub [0, 1, 2, 3, 4, 5, 6, 7, 8, 9, 10, 11, 12, 13, 14, 15, 16, 17, 18, 19] (by decide) rfl
  refine W.eq (g2 := F0 m 7 ls []) rfl ?_
  refine lv_iload_n hx hb dX4_foresee_7 rfl (lv_at hl 2 rfl) ?_
  refine lv_iconst (v := nI 3) hx hb dX4_foresee_8 (by decide +kernel) ?_
  refine e_callSX (As := [.int y, .int (nI 3)]) (rest := []) ⟨hx, hb, hml, hown, hts⟩ hK hX hP hD hS hA hl.1 (c_X4_needIndex_t l hlt E _ y 3 (hc) (by first | omega | assumption | rfl | (simp_all; done)) (by first | omega | assumption | rfl | (simp_all; done))) (va_cwS 2 hts gX4_foresee_X4_needIndex rfl rfl rfl (by decide +kernel) ⟨Nat.le_of_ble_eq_true rfl, Nat.le_of_ble_eq_true rfl⟩) [] [0, 1, 2, 3, 4, 5, 6, 7, 8, 9, 10, 11, 12, 13, 14, 15, 16, 17, 18, 19] rfl rfl rfl rfl (by decide) rfl rfl (Nat.le_of_ble_eq_true rfl) dX4_foresee_9 ⟨Nat.le_of_ble_eq_true rfl, Nat.le_of_ble_eq_true rfl⟩ (fun ce q9 H locs hsz1 hP hD hS hcell hvm hcl => ?_)
  have hP : va_P E.1 vwCl (wAll E o ad wm st gr co hb_ (nI mo) ga ca ha_ (nI ma) sd tk op sp rc rn wa) H := hP.sub [0, 1, 2, 3, 4, 5, 6, 7, 8, 9, 10, 11, 12, 13, 14, 15, 16, 17, 18, 19] rfl
  have hD : va_D A (wAll E o ad wm st gr co hb_ (nI mo) ga ca ha_ (nI ma) sd tk op sp rc rn wa) := hD.sub [0, 1, 2, 3, 4, 5, 6, 7, 8, 9, 10, 11, 12, 13, 14, 15, 16, 17, 18, 19] (by decide) rfl
  exact e_outX hQ ht hlocks hP hS hcell hvm hcl (Nat.le_of_ble_eq_true rfl) (Nat.le_of_ble_eq_true rfl)
