abbrev rm_L_setGround : Room := { frames := 3, cells := 0, slots := 0, locals := 65 }
set_option maxHeartbeats 4000000 in
set_option maxRecDepth 100000 in
theorem c_L_setGround (l : Launch) (hlt : l.stackTraces = false) (E : eT) (sz : Nat) (o : Nat) (ad : Nat → Nat) (wm : Nat → Int32) (st : Nat → Int32) (gr : Nat → Int32) (co : Nat → Int32) (hb_ : Nat → Bool) (mo : Nat) (ga : Nat → Int32) (ca : Nat → Int32) (ha_ : Nat → Bool) (ma : Nat) (sd : Nat → Int32) (tk : Nat → Int32) (op : Nat → Bool) (sp : Nat → Nat) (rc : Nat → Nat) (rn : Nat) (wa : Nat → Int32) (X : Nat) (Y : Nat) (v : Int32) (oq : Nat) (lo : Nat → Int64) (hX : X < 9) (hY : Y < 9) (hv : isInB v (nI 0) (nI 40) = true) : cMX l yL_setGround wsL_setGround rm_L_setGround E sz [.ref o, .int (nI X), .int (nI Y), .int v, .ref oq] (wAll E o ad wm st gr co hb_ (nI mo) ga ca ha_ (nI ma) sd tk op sp rc rn wa ++ [(oq, .inl (E.2.2.2, 1, .inr (.inl lo)))]) (fun u : Unit => some (.int (nI 0))) (fun u : Unit => True) (fun u : Unit => wAll E o ad wm st (upd gr ((9 * Y) + X) v) (upd co ((9 * Y) + X) (iMin (co ((9 * Y) + X)) v)) hb_ (nI mo) ga ca ha_ (nI ma) sd tk op sp rc rn wa ++ [(oq, .inl (E.2.2.2, 1, .inr (.inl (vp_updL lo 0 ((gr ((9 * Y) + X)).toInt64)))))]) := by
  refine cMX_introH (cc := cL_setGround) (maxL := 6) (ret := (some .int)) (by decide +kernel) rfl (Nat.le_of_ble_eq_true rfl) ?_
  intro p e s m args below meth cd hx hb hr hml hown hlocks hts hnm htab hK hsz hP A hD hA hX Q hQ ls hl
  have hown : s.vm.findClass RL = some m.cls := hown
  have hS : va_S A s.heap s.heap [] := va_S.rf
  have hl : lv_has ls 6 [(0, .ref o), (1, .int (nI X)), (2, .int (nI Y)), (3, .int v), (4, .ref oq)] := hl
  refine lv_aload hx hb dL_setGround_0 (lv_at hl 4 rfl) ?_
  refine lv_iconst (v := nI 0) hx hb dL_setGround_2 (by decide +kernel) ?_
  refine lv_aload_n hx hb dL_setGround_3 rfl (lv_at hl 0 rfl) ?_
  refine lv_iload_n hx hb dL_setGround_4 rfl (lv_at hl 1 rfl) ?_
  refine lv_iload_n hx hb dL_setGround_5 rfl (lv_at hl 2 rfl) ?_
  refine lv_iload_n hx hb dL_setGround_6 rfl (lv_at hl 3 rfl) ?_
  refine e_callV (As := [.int (nI X), .int (nI Y), .int v]) (rest := [.int (nI 0), .ref oq]) ⟨hx, hb, hml, hown, hts⟩ hK hP hD hS hA hl.1 (c_X4_setGround l E _ o ad wm st gr co hb_ mo ga ca ha_ ma sd tk op sp rc rn wa X Y v (by first | omega | assumption | rfl | (simp_all; done)) (by first | omega | assumption | rfl | (simp_all; done)) (by first | omega | assumption | rfl | (simp_all; done))) (cwV 3 hts gL_setGround_X4_setGround rfl rfl rfl (by decide +kernel) ⟨Nat.le_of_ble_eq_true rfl, Nat.le_of_ble_eq_true rfl⟩) [0, 1, 2, 3, 4, 5, 6, 7, 8, 9, 10, 11, 12, 13, 14, 15, 16, 17, 18, 19] [20] rfl rfl rfl rfl (by decide) (q0 := 0) (ci := 4) rfl rfl rfl rfl (Nat.le_of_ble_eq_true rfl) dL_setGround_7 ⟨Nat.le_of_ble_eq_true rfl, Nat.le_of_ble_eq_true rfl⟩ (fun u_1 H locs hu_2 hsz1 hP hD hS => ?_)
  have hP : va_P E.1 vwCl (wAll E o ad wm st (upd gr ((9 * Y) + X) v) (upd co ((9 * Y) + X) (iMin (co ((9 * Y) + X)) v)) hb_ (nI mo) ga ca ha_ (nI ma) sd tk op sp rc rn wa ++ [(oq, .inl (E.2.2.2, 1, .inr (.inl lo)))]) H := hP.sub [1, 2, 3, 4, 5, 6, 7, 8, 9, 10, 11, 12, 13, 14, 15, 16, 17, 18, 19, 20, 0] rfl
  have hD : va_D A (wAll E o ad wm st (upd gr ((9 * Y) + X) v) (upd co ((9 * Y) + X) (iMin (co ((9 * Y) + X)) v)) hb_ (nI mo) ga ca ha_ (nI ma) sd tk op sp rc rn wa ++ [(oq, .inl (E.2.2.2, 1, .inr (.inl lo)))]) := hD.sub [1, 2, 3, 4, 5, 6, 7, 8, 9, 10, 11, 12, 13, 14, 15, 16, 17, 18, 19, 20, 0] (by decide) rfl
  refine W.eq (g2 := F0 m 10 ls [.int (gr ((9 * Y) + X)), .int (nI 0), .ref oq]) rfl ?_
  refine lv_i2l hx hb dL_setGround_10 rfl ?_
  refine e_last hK hP hD hS 20 rfl 0 (by omega) (by decide) hx hb dL_setGround_11 (fun H locs hP hD hS => ?_)
  have hP : va_P E.1 vwCl (wAll E o ad wm st (upd gr ((9 * Y) + X) v) (upd co ((9 * Y) + X) (iMin (co ((9 * Y) + X)) v)) hb_ (nI mo) ga ca ha_ (nI ma) sd tk op sp rc rn wa ++ [(oq, .inl (E.2.2.2, 1, .inr (.inl (vp_updL lo 0 ((gr ((9 * Y) + X)).toInt64)))))]) H := hP
  have hD : va_D A (wAll E o ad wm st (upd gr ((9 * Y) + X) v) (upd co ((9 * Y) + X) (iMin (co ((9 * Y) + X)) v)) hb_ (nI mo) ga ca ha_ (nI ma) sd tk op sp rc rn wa ++ [(oq, .inl (E.2.2.2, 1, .inr (.inl (vp_updL lo 0 ((gr ((9 * Y) + X)).toInt64)))))]) := hD
  refine lv_goto (tgt := 23) hx hb dL_setGround_12 (by decide) ?_
  refine lv_iconst (v := nI 0) hx hb dL_setGround_23 (by decide +kernel) ?_
  exact e_iret () hQ hx hb hr hlocks hP hD hS dL_setGround_24 (rfl) (Nat.le_of_ble_eq_true rfl) (Nat.le_of_ble_eq_true rfl) (trivial)

abbrev rm_L_setGround_b1 : Room := { frames := 9, cells := 1, slots := 6, locals := 147 }
set_option maxHeartbeats 4000000 in
set_option maxRecDepth 100000 in
theorem c_L_setGround_b1 (l : Launch) (hlt : l.stackTraces = false) (E : eT) (sz : Nat) (o : Nat) (ad : Nat → Nat) (wm : Nat → Int32) (st : Nat → Int32) (gr : Nat → Int32) (co : Nat → Int32) (hb_ : Nat → Bool) (mo : Nat) (ga : Nat → Int32) (ca : Nat → Int32) (ha_ : Nat → Bool) (ma : Nat) (sd : Nat → Int32) (tk : Nat → Int32) (op : Nat → Bool) (sp : Nat → Nat) (rc : Nat → Nat) (rn : Nat) (wa : Nat → Int32) (x : Int32) (y : Int32) (v : Int32) (oq : Nat) (lo : Nat → Int64) (hc : isCellB x y = false) : cMX l yL_setGround wsL_setGround rm_L_setGround_b1 E sz [.ref o, .int x, .int y, .int v, .ref oq] (wAll E o ad wm st gr co hb_ (nI mo) ga ca ha_ (nI ma) sd tk op sp rc rn wa ++ [(oq, .inl (E.2.2.2, 1, .inr (.inl lo)))]) (fun u : Unit => some (.int (nI 1))) (fun u : Unit => True) (fun u : Unit => wAll E o ad wm st gr co hb_ (nI mo) ga ca ha_ (nI ma) sd tk op sp rc rn wa ++ [(oq, .inl (E.2.2.2, 1, .inr (.inl lo)))]) := by
  refine cMX_introH (cc := cL_setGround) (maxL := 6) (ret := (some .int)) (by decide +kernel) rfl (Nat.le_of_ble_eq_true rfl) ?_
  intro p e s m args below meth cd hx hb hr hml hown hlocks hts hnm htab hK hsz hP A hD hA hX Q hQ ls hl
  have hown : s.vm.findClass RL = some m.cls := hown
  have hacl13 := hts (.classLink RL 13 "java/lang/IndexOutOfBoundsException") (by decide +kernel)
  have hS : va_S A s.heap s.heap [] := va_S.rf
  have hl : lv_has ls 6 [(0, .ref o), (1, .int x), (2, .int y), (3, .int v), (4, .ref oq)] := hl
  refine lv_aload hx hb dL_setGround_0 (lv_at hl 4 rfl) ?_
  refine lv_iconst (v := nI 0) hx hb dL_setGround_2 (by decide +kernel) ?_
  refine lv_aload_n hx hb dL_setGround_3 rfl (lv_at hl 0 rfl) ?_
  refine lv_iload_n hx hb dL_setGround_4 rfl (lv_at hl 1 rfl) ?_
  refine lv_iload_n hx hb dL_setGround_5 rfl (lv_at hl 2 rfl) ?_
  refine lv_iload_n hx hb dL_setGround_6 rfl (lv_at hl 3 rfl) ?_
  refine e_callVX (As := [.int x, .int y, .int v]) (rest := [.int (nI 0), .ref oq]) ⟨hx, hb, hml, hown, hts⟩ hK hX hP hD hS hA hl.1 (c_X4_setGround_b1 l hlt E _ o ad wm st gr co hb_ mo ga ca ha_ ma sd tk op sp rc rn wa x y v (by first | omega | assumption | rfl | (simp_all; done))) (cwV 3 hts gL_setGround_X4_setGround rfl rfl rfl (by decide +kernel) ⟨Nat.le_of_ble_eq_true rfl, Nat.le_of_ble_eq_true rfl⟩) [0, 1, 2, 3, 4, 5, 6, 7, 8, 9, 10, 11, 12, 13, 14, 15, 16, 17, 18, 19] [20] rfl rfl rfl rfl (by decide) (q0 := 0) (ci := 4) rfl rfl rfl rfl (Nat.le_of_ble_eq_true rfl) dL_setGround_7 ⟨Nat.le_of_ble_eq_true rfl, Nat.le_of_ble_eq_true rfl⟩ (fun ce q9 H locs hsz1 hP hD hS hcell hvm hcl => ?_)
  have hP : va_P E.1 vwCl (wAll E o ad wm st gr co hb_ (nI mo) ga ca ha_ (nI ma) sd tk op sp rc rn wa ++ [(oq, .inl (E.2.2.2, 1, .inr (.inl lo)))]) H := hP.sub [1, 2, 3, 4, 5, 6, 7, 8, 9, 10, 11, 12, 13, 14, 15, 16, 17, 18, 19, 20, 0] rfl
  have hD : va_D A (wAll E o ad wm st gr co hb_ (nI mo) ga ca ha_ (nI ma) sd tk op sp rc rn wa ++ [(oq, .inl (E.2.2.2, 1, .inr (.inl lo)))]) := hD.sub [1, 2, 3, 4, 5, 6, 7, 8, 9, 10, 11, 12, 13, 14, 15, 16, 17, 18, 19, 20, 0] (by decide) rfl
  refine vx_catch (name := "java/lang/IndexOutOfBoundsException") (E := nX1) hown [] ⟨0, 12, 15, 13⟩ [⟨0, 12, 19, 15⟩] (htab.trans rfl) (fun _ h => nomatch h) (by decide +kernel) (by decide) hacl13 (va_Nw.use rfl hX.2.2.2.2.1) hcell hvm hcl ?_
  refine lv_astore (lv' := [(5, .ref q9), (0, .ref o), (1, .int x), (2, .int y), (3, .int v), (4, .ref oq)]) hx hb dL_setGround_15 hl (by decide) rfl (fun ls hl => ?_)
  refine lv_iconst (v := nI 1) hx hb dL_setGround_17 (by decide +kernel) ?_
  exact e_iret () hQ hx hb hr hlocks hP hD hS dL_setGround_18 (rfl) (Nat.le_of_ble_eq_true rfl) (Nat.le_of_ble_eq_true rfl) (trivial)

abbrev rm_L_setGround_b2 : Room := { frames := 8, cells := 1, slots := 6, locals := 127 }
set_option maxHeartbeats 4000000 in
set_option maxRecDepth 100000 in
theorem c_L_setGround_b2 (l : Launch) (hlt : l.stackTraces = false) (E : eT) (sz : Nat) (o : Nat) (ad : Nat → Nat) (wm : Nat → Int32) (st : Nat → Int32) (gr : Nat → Int32) (co : Nat → Int32) (hb_ : Nat → Bool) (mo : Nat) (ga : Nat → Int32) (ca : Nat → Int32) (ha_ : Nat → Bool) (ma : Nat) (sd : Nat → Int32) (tk : Nat → Int32) (op : Nat → Bool) (sp : Nat → Nat) (rc : Nat → Nat) (rn : Nat) (wa : Nat → Int32) (X : Nat) (Y : Nat) (v : Int32) (oq : Nat) (lo : Nat → Int64) (hX : X < 9) (hY : Y < 9) (hv : isInB v (nI 0) (nI 40) = false) : cMX l yL_setGround wsL_setGround rm_L_setGround_b2 E sz [.ref o, .int (nI X), .int (nI Y), .int v, .ref oq] (wAll E o ad wm st gr co hb_ (nI mo) ga ca ha_ (nI ma) sd tk op sp rc rn wa ++ [(oq, .inl (E.2.2.2, 1, .inr (.inl lo)))]) (fun u : Unit => some (.int (nI 2))) (fun u : Unit => True) (fun u : Unit => wAll E o ad wm st gr co hb_ (nI mo) ga ca ha_ (nI ma) sd tk op sp rc rn wa ++ [(oq, .inl (E.2.2.2, 1, .inr (.inl lo)))]) := by
  refine cMX_introH (cc := cL_setGround) (maxL := 6) (ret := (some .int)) (by decide +kernel) rfl (Nat.le_of_ble_eq_true rfl) ?_
  intro p e s m args below meth cd hx hb hr hml hown hlocks hts hnm htab hK hsz hP A hD hA hX Q hQ ls hl
  have hown : s.vm.findClass RL = some m.cls := hown
  have hacl13 := hts (.classLink RL 13 "java/lang/IndexOutOfBoundsException") (by decide +kernel)
  have hacl15 := hts (.classLink RL 15 "java/lang/IllegalArgumentException") (by decide +kernel)
  have hS : va_S A s.heap s.heap [] := va_S.rf
  have hl : lv_has ls 6 [(0, .ref o), (1, .int (nI X)), (2, .int (nI Y)), (3, .int v), (4, .ref oq)] := hl
  refine lv_aload hx hb dL_setGround_0 (lv_at hl 4 rfl) ?_
  refine lv_iconst (v := nI 0) hx hb dL_setGround_2 (by decide +kernel) ?_
  refine lv_aload_n hx hb dL_setGround_3 rfl (lv_at hl 0 rfl) ?_
  refine lv_iload_n hx hb dL_setGround_4 rfl (lv_at hl 1 rfl) ?_
  refine lv_iload_n hx hb dL_setGround_5 rfl (lv_at hl 2 rfl) ?_
  refine lv_iload_n hx hb dL_setGround_6 rfl (lv_at hl 3 rfl) ?_
  refine e_callVX (As := [.int (nI X), .int (nI Y), .int v]) (rest := [.int (nI 0), .ref oq]) ⟨hx, hb, hml, hown, hts⟩ hK hX hP hD hS hA hl.1 (c_X4_setGround_b2 l hlt E _ o ad wm st gr co hb_ mo ga ca ha_ ma sd tk op sp rc rn wa X Y v (by first | omega | assumption | rfl | (simp_all; done)) (by first | omega | assumption | rfl | (simp_all; done)) (by first | omega | assumption | rfl | (simp_all; done))) (cwV 3 hts gL_setGround_X4_setGround rfl rfl rfl (by decide +kernel) ⟨Nat.le_of_ble_eq_true rfl, Nat.le_of_ble_eq_true rfl⟩) [0, 1, 2, 3, 4, 5, 6, 7, 8, 9, 10, 11, 12, 13, 14, 15, 16, 17, 18, 19] [20] rfl rfl rfl rfl (by decide) (q0 := 0) (ci := 4) rfl rfl rfl rfl (Nat.le_of_ble_eq_true rfl) dL_setGround_7 ⟨Nat.le_of_ble_eq_true rfl, Nat.le_of_ble_eq_true rfl⟩ (fun ce q9 H locs hsz1 hP hD hS hcell hvm hcl => ?_)
  have hP : va_P E.1 vwCl (wAll E o ad wm st gr co hb_ (nI mo) ga ca ha_ (nI ma) sd tk op sp rc rn wa ++ [(oq, .inl (E.2.2.2, 1, .inr (.inl lo)))]) H := hP.sub [1, 2, 3, 4, 5, 6, 7, 8, 9, 10, 11, 12, 13, 14, 15, 16, 17, 18, 19, 20, 0] rfl
  have hD : va_D A (wAll E o ad wm st gr co hb_ (nI mo) ga ca ha_ (nI ma) sd tk op sp rc rn wa ++ [(oq, .inl (E.2.2.2, 1, .inr (.inl lo)))]) := hD.sub [1, 2, 3, 4, 5, 6, 7, 8, 9, 10, 11, 12, 13, 14, 15, 16, 17, 18, 19, 20, 0] (by decide) rfl
  refine vx_catch (name := "java/lang/IllegalArgumentException") (E := nX2) hown [⟨0, 12, 15, 13⟩] ⟨0, 12, 19, 15⟩ [] (htab.trans rfl) (fun z hz => by cases List.mem_singleton.mp hz; exact Or.inr ⟨by decide, "java/lang/IndexOutOfBoundsException", hacl13, hX.2.2.2.2.2.2.2.1⟩) (by decide +kernel) (by decide) hacl15 (va_Nw.use rfl hX.2.2.2.2.2.1) hcell hvm hcl ?_
  refine lv_astore (lv' := [(5, .ref q9), (0, .ref o), (1, .int (nI X)), (2, .int (nI Y)), (3, .int v), (4, .ref oq)]) hx hb dL_setGround_19 hl (by decide) rfl (fun ls hl => ?_)
  refine lv_iconst (v := nI 2) hx hb dL_setGround_21 (by decide +kernel) ?_
  exact e_iret () hQ hx hb hr hlocks hP hD hS dL_setGround_22 (rfl) (Nat.le_of_ble_eq_true rfl) (Nat.le_of_ble_eq_true rfl) (trivial)

abbrev rm_L_plant : Room := { frames := 3, cells := 0, slots := 0, locals := 65 }
set_option maxHeartbeats 4000000 in
set_option maxRecDepth 100000 in
theorem c_L_plant (l : Launch) (hlt : l.stackTraces = false) (E : eT) (sz : Nat) (o : Nat) (ad : Nat → Nat) (wm : Nat → Int32) (st : Nat → Int32) (gr : Nat → Int32) (co : Nat → Int32) (hb_ : Nat → Bool) (mo : Nat) (ga : Nat → Int32) (ca : Nat → Int32) (ha_ : Nat → Bool) (ma : Nat) (sd : Nat → Int32) (tk : Nat → Int32) (op : Nat → Bool) (sp : Nat → Nat) (rc : Nat → Nat) (rn : Nat) (wa : Nat → Int32) (X : Nat) (Y : Nat) (v : Int32) (oq : Nat) (lo : Nat → Int64) (hX : X < 9) (hY : Y < 9) (hv : isInB v (nI 0) (gr ((9 * Y) + X)) = true) : cMX l yL_plant wsL_plant rm_L_plant E sz [.ref o, .int (nI X), .int (nI Y), .int v, .ref oq] (wAll E o ad wm st gr co hb_ (nI mo) ga ca ha_ (nI ma) sd tk op sp rc rn wa ++ [(oq, .inl (E.2.2.2, 1, .inr (.inl lo)))]) (fun u : Unit => some (.int (nI 0))) (fun u : Unit => True) (fun u : Unit => wAll E o ad wm st gr (upd co ((9 * Y) + X) v) hb_ (nI mo) ga ca ha_ (nI ma) sd tk op sp rc rn wa ++ [(oq, .inl (E.2.2.2, 1, .inr (.inl (vp_updL lo 0 ((co ((9 * Y) + X)).toInt64)))))]) := by
  refine cMX_introH (cc := cL_plant) (maxL := 6) (ret := (some .int)) (by decide +kernel) rfl (Nat.le_of_ble_eq_true rfl) ?_
  intro p e s m args below meth cd hx hb hr hml hown hlocks hts hnm htab hK hsz hP A hD hA hX Q hQ ls hl
  have hown : s.vm.findClass RL = some m.cls := hown
  have hS : va_S A s.heap s.heap [] := va_S.rf
  have hl : lv_has ls 6 [(0, .ref o), (1, .int (nI X)), (2, .int (nI Y)), (3, .int v), (4, .ref oq)] := hl
  refine lv_aload hx hb dL_plant_0 (lv_at hl 4 rfl) ?_
  refine lv_iconst (v := nI 0) hx hb dL_plant_2 (by decide +kernel) ?_
  refine lv_aload_n hx hb dL_plant_3 rfl (lv_at hl 0 rfl) ?_
  refine lv_iload_n hx hb dL_plant_4 rfl (lv_at hl 1 rfl) ?_
  refine lv_iload_n hx hb dL_plant_5 rfl (lv_at hl 2 rfl) ?_
  refine lv_iload_n hx hb dL_plant_6 rfl (lv_at hl 3 rfl) ?_
  refine e_callV (As := [.int (nI X), .int (nI Y), .int v]) (rest := [.int (nI 0), .ref oq]) ⟨hx, hb, hml, hown, hts⟩ hK hP hD hS hA hl.1 (c_X4_plant l E _ o ad wm st gr co hb_ mo ga ca ha_ ma sd tk op sp rc rn wa X Y v (by first | omega | assumption | rfl | (simp_all; done)) (by first | omega | assumption | rfl | (simp_all; done)) (by first | omega | assumption | rfl | (simp_all; done))) (cwV 3 hts gL_plant_X4_plant rfl rfl rfl (by decide +kernel) ⟨Nat.le_of_ble_eq_true rfl, Nat.le_of_ble_eq_true rfl⟩) [0, 1, 2, 3, 4, 5, 6, 7, 8, 9, 10, 11, 12, 13, 14, 15, 16, 17, 18, 19] [20] rfl rfl rfl rfl (by decide) (q0 := 0) (ci := 4) rfl rfl rfl rfl (Nat.le_of_ble_eq_true rfl) dL_plant_7 ⟨Nat.le_of_ble_eq_true rfl, Nat.le_of_ble_eq_true rfl⟩ (fun u_1 H locs hu_2 hsz1 hP hD hS => ?_)
  have hP : va_P E.1 vwCl (wAll E o ad wm st gr (upd co ((9 * Y) + X) v) hb_ (nI mo) ga ca ha_ (nI ma) sd tk op sp rc rn wa ++ [(oq, .inl (E.2.2.2, 1, .inr (.inl lo)))]) H := hP.sub [1, 2, 3, 4, 5, 6, 7, 8, 9, 10, 11, 12, 13, 14, 15, 16, 17, 18, 19, 20, 0] rfl
  have hD : va_D A (wAll E o ad wm st gr (upd co ((9 * Y) + X) v) hb_ (nI mo) ga ca ha_ (nI ma) sd tk op sp rc rn wa ++ [(oq, .inl (E.2.2.2, 1, .inr (.inl lo)))]) := hD.sub [1, 2, 3, 4, 5, 6, 7, 8, 9, 10, 11, 12, 13, 14, 15, 16, 17, 18, 19, 20, 0] (by decide) rfl
  refine W.eq (g2 := F0 m 10 ls [.int (co ((9 * Y) + X)), .int (nI 0), .ref oq]) rfl ?_
  refine lv_i2l hx hb dL_plant_10 rfl ?_
  refine e_last hK hP hD hS 20 rfl 0 (by omega) (by decide) hx hb dL_plant_11 (fun H locs hP hD hS => ?_)
  have hP : va_P E.1 vwCl (wAll E o ad wm st gr (upd co ((9 * Y) + X) v) hb_ (nI mo) ga ca ha_ (nI ma) sd tk op sp rc rn wa ++ [(oq, .inl (E.2.2.2, 1, .inr (.inl (vp_updL lo 0 ((co ((9 * Y) + X)).toInt64)))))]) H := hP
  have hD : va_D A (wAll E o ad wm st gr (upd co ((9 * Y) + X) v) hb_ (nI mo) ga ca ha_ (nI ma) sd tk op sp rc rn wa ++ [(oq, .inl (E.2.2.2, 1, .inr (.inl (vp_updL lo 0 ((co ((9 * Y) + X)).toInt64)))))]) := hD
  refine lv_goto (tgt := 23) hx hb dL_plant_12 (by decide) ?_
  refine lv_iconst (v := nI 0) hx hb dL_plant_23 (by decide +kernel) ?_
  exact e_iret () hQ hx hb hr hlocks hP hD hS dL_plant_24 (rfl) (Nat.le_of_ble_eq_true rfl) (Nat.le_of_ble_eq_true rfl) (trivial)

abbrev rm_L_plant_b1 : Room := { frames := 9, cells := 1, slots := 6, locals := 147 }
set_option maxHeartbeats 4000000 in
set_option maxRecDepth 100000 in
theorem c_L_plant_b1 (l : Launch) (hlt : l.stackTraces = false) (E : eT) (sz : Nat) (o : Nat) (ad : Nat → Nat) (wm : Nat → Int32) (st : Nat → Int32) (gr : Nat → Int32) (co : Nat → Int32) (hb_ : Nat → Bool) (mo : Nat) (ga : Nat → Int32) (ca : Nat → Int32) (ha_ : Nat → Bool) (ma : Nat) (sd : Nat → Int32) (tk : Nat → Int32) (op : Nat → Bool) (sp : Nat → Nat) (rc : Nat → Nat) (rn : Nat) (wa : Nat → Int32) (x : Int32) (y : Int32) (v : Int32) (oq : Nat) (lo : Nat → Int64) (hc : isCellB x y = false) : cMX l yL_plant wsL_plant rm_L_plant_b1 E sz [.ref o, .int x, .int y, .int v, .ref oq] (wAll E o ad wm st gr co hb_ (nI mo) ga ca ha_ (nI ma) sd tk op sp rc rn wa ++ [(oq, .inl (E.2.2.2, 1, .inr (.inl lo)))]) (fun u : Unit => some (.int (nI 1))) (fun u : Unit => True) (fun u : Unit => wAll E o ad wm st gr co hb_ (nI mo) ga ca ha_ (nI ma) sd tk op sp rc rn wa ++ [(oq, .inl (E.2.2.2, 1, .inr (.inl lo)))]) := by
  refine cMX_introH (cc := cL_plant) (maxL := 6) (ret := (some .int)) (by decide +kernel) rfl (Nat.le_of_ble_eq_true rfl) ?_
  intro p e s m args below meth cd hx hb hr hml hown hlocks hts hnm htab hK hsz hP A hD hA hX Q hQ ls hl
  have hown : s.vm.findClass RL = some m.cls := hown
  have hacl13 := hts (.classLink RL 13 "java/lang/IndexOutOfBoundsException") (by decide +kernel)
  have hS : va_S A s.heap s.heap [] := va_S.rf
  have hl : lv_has ls 6 [(0, .ref o), (1, .int x), (2, .int y), (3, .int v), (4, .ref oq)] := hl
  refine lv_aload hx hb dL_plant_0 (lv_at hl 4 rfl) ?_
  refine lv_iconst (v := nI 0) hx hb dL_plant_2 (by decide +kernel) ?_
  refine lv_aload_n hx hb dL_plant_3 rfl (lv_at hl 0 rfl) ?_
  refine lv_iload_n hx hb dL_plant_4 rfl (lv_at hl 1 rfl) ?_
  refine lv_iload_n hx hb dL_plant_5 rfl (lv_at hl 2 rfl) ?_
  refine lv_iload_n hx hb dL_plant_6 rfl (lv_at hl 3 rfl) ?_
  refine e_callVX (As := [.int x, .int y, .int v]) (rest := [.int (nI 0), .ref oq]) ⟨hx, hb, hml, hown, hts⟩ hK hX hP hD hS hA hl.1 (c_X4_plant_b1 l hlt E _ o ad wm st gr co hb_ mo ga ca ha_ ma sd tk op sp rc rn wa x y v (by first | omega | assumption | rfl | (simp_all; done))) (cwV 3 hts gL_plant_X4_plant rfl rfl rfl (by decide +kernel) ⟨Nat.le_of_ble_eq_true rfl, Nat.le_of_ble_eq_true rfl⟩) [0, 1, 2, 3, 4, 5, 6, 7, 8, 9, 10, 11, 12, 13, 14, 15, 16, 17, 18, 19] [20] rfl rfl rfl rfl (by decide) (q0 := 0) (ci := 4) rfl rfl rfl rfl (Nat.le_of_ble_eq_true rfl) dL_plant_7 ⟨Nat.le_of_ble_eq_true rfl, Nat.le_of_ble_eq_true rfl⟩ (fun ce q9 H locs hsz1 hP hD hS hcell hvm hcl => ?_)
  have hP : va_P E.1 vwCl (wAll E o ad wm st gr co hb_ (nI mo) ga ca ha_ (nI ma) sd tk op sp rc rn wa ++ [(oq, .inl (E.2.2.2, 1, .inr (.inl lo)))]) H := hP.sub [1, 2, 3, 4, 5, 6, 7, 8, 9, 10, 11, 12, 13, 14, 15, 16, 17, 18, 19, 20, 0] rfl
  have hD : va_D A (wAll E o ad wm st gr co hb_ (nI mo) ga ca ha_ (nI ma) sd tk op sp rc rn wa ++ [(oq, .inl (E.2.2.2, 1, .inr (.inl lo)))]) := hD.sub [1, 2, 3, 4, 5, 6, 7, 8, 9, 10, 11, 12, 13, 14, 15, 16, 17, 18, 19, 20, 0] (by decide) rfl
  refine vx_catch (name := "java/lang/IndexOutOfBoundsException") (E := nX1) hown [] ⟨0, 12, 15, 13⟩ [⟨0, 12, 19, 15⟩] (htab.trans rfl) (fun _ h => nomatch h) (by decide +kernel) (by decide) hacl13 (va_Nw.use rfl hX.2.2.2.2.1) hcell hvm hcl ?_
  refine lv_astore (lv' := [(5, .ref q9), (0, .ref o), (1, .int x), (2, .int y), (3, .int v), (4, .ref oq)]) hx hb dL_plant_15 hl (by decide) rfl (fun ls hl => ?_)
  refine lv_iconst (v := nI 1) hx hb dL_plant_17 (by decide +kernel) ?_
  exact e_iret () hQ hx hb hr hlocks hP hD hS dL_plant_18 (rfl) (Nat.le_of_ble_eq_true rfl) (Nat.le_of_ble_eq_true rfl) (trivial)

abbrev rm_L_plant_b2 : Room := { frames := 8, cells := 1, slots := 6, locals := 127 }
set_option maxHeartbeats 4000000 in
set_option maxRecDepth 100000 in
theorem c_L_plant_b2 (l : Launch) (hlt : l.stackTraces = false) (E : eT) (sz : Nat) (o : Nat) (ad : Nat → Nat) (wm : Nat → Int32) (st : Nat → Int32) (gr : Nat → Int32) (co : Nat → Int32) (hb_ : Nat → Bool) (mo : Nat) (ga : Nat → Int32) (ca : Nat → Int32) (ha_ : Nat → Bool) (ma : Nat) (sd : Nat → Int32) (tk : Nat → Int32) (op : Nat → Bool) (sp : Nat → Nat) (rc : Nat → Nat) (rn : Nat) (wa : Nat → Int32) (X : Nat) (Y : Nat) (v : Int32) (oq : Nat) (lo : Nat → Int64) (hX : X < 9) (hY : Y < 9) (hv : isInB v (nI 0) (gr ((9 * Y) + X)) = false) : cMX l yL_plant wsL_plant rm_L_plant_b2 E sz [.ref o, .int (nI X), .int (nI Y), .int v, .ref oq] (wAll E o ad wm st gr co hb_ (nI mo) ga ca ha_ (nI ma) sd tk op sp rc rn wa ++ [(oq, .inl (E.2.2.2, 1, .inr (.inl lo)))]) (fun u : Unit => some (.int (nI 2))) (fun u : Unit => True) (fun u : Unit => wAll E o ad wm st gr co hb_ (nI mo) ga ca ha_ (nI ma) sd tk op sp rc rn wa ++ [(oq, .inl (E.2.2.2, 1, .inr (.inl lo)))]) := by
  refine cMX_introH (cc := cL_plant) (maxL := 6) (ret := (some .int)) (by decide +kernel) rfl (Nat.le_of_ble_eq_true rfl) ?_
  intro p e s m args below meth cd hx hb hr hml hown hlocks hts hnm htab hK hsz hP A hD hA hX Q hQ ls hl
  have hown : s.vm.findClass RL = some m.cls := hown
  have hacl13 := hts (.classLink RL 13 "java/lang/IndexOutOfBoundsException") (by decide +kernel)
  have hacl15 := hts (.classLink RL 15 "java/lang/IllegalArgumentException") (by decide +kernel)
  have hS : va_S A s.heap s.heap [] := va_S.rf
  have hl : lv_has ls 6 [(0, .ref o), (1, .int (nI X)), (2, .int (nI Y)), (3, .int v), (4, .ref oq)] := hl
  refine lv_aload hx hb dL_plant_0 (lv_at hl 4 rfl) ?_
  refine lv_iconst (v := nI 0) hx hb dL_plant_2 (by decide +kernel) ?_
  refine lv_aload_n hx hb dL_plant_3 rfl (lv_at hl 0 rfl) ?_
  refine lv_iload_n hx hb dL_plant_4 rfl (lv_at hl 1 rfl) ?_
  refine lv_iload_n hx hb dL_plant_5 rfl (lv_at hl 2 rfl) ?_
  refine lv_iload_n hx hb dL_plant_6 rfl (lv_at hl 3 rfl) ?_
  refine e_callVX (As := [.int (nI X), .int (nI Y), .int v]) (rest := [.int (nI 0), .ref oq]) ⟨hx, hb, hml, hown, hts⟩ hK hX hP hD hS hA hl.1 (c_X4_plant_b2 l hlt E _ o ad wm st gr co hb_ mo ga ca ha_ ma sd tk op sp rc rn wa X Y v (by first | omega | assumption | rfl | (simp_all; done)) (by first | omega | assumption | rfl | (simp_all; done)) (by first | omega | assumption | rfl | (simp_all; done))) (cwV 3 hts gL_plant_X4_plant rfl rfl rfl (by decide +kernel) ⟨Nat.le_of_ble_eq_true rfl, Nat.le_of_ble_eq_true rfl⟩) [0, 1, 2, 3, 4, 5, 6, 7, 8, 9, 10, 11, 12, 13, 14, 15, 16, 17, 18, 19] [20] rfl rfl rfl rfl (by decide) (q0 := 0) (ci := 4) rfl rfl rfl rfl (Nat.le_of_ble_eq_true rfl) dL_plant_7 ⟨Nat.le_of_ble_eq_true rfl, Nat.le_of_ble_eq_true rfl⟩ (fun ce q9 H locs hsz1 hP hD hS hcell hvm hcl => ?_)
  have hP : va_P E.1 vwCl (wAll E o ad wm st gr co hb_ (nI mo) ga ca ha_ (nI ma) sd tk op sp rc rn wa ++ [(oq, .inl (E.2.2.2, 1, .inr (.inl lo)))]) H := hP.sub [1, 2, 3, 4, 5, 6, 7, 8, 9, 10, 11, 12, 13, 14, 15, 16, 17, 18, 19, 20, 0] rfl
  have hD : va_D A (wAll E o ad wm st gr co hb_ (nI mo) ga ca ha_ (nI ma) sd tk op sp rc rn wa ++ [(oq, .inl (E.2.2.2, 1, .inr (.inl lo)))]) := hD.sub [1, 2, 3, 4, 5, 6, 7, 8, 9, 10, 11, 12, 13, 14, 15, 16, 17, 18, 19, 20, 0] (by decide) rfl
  refine vx_catch (name := "java/lang/IllegalArgumentException") (E := nX2) hown [⟨0, 12, 15, 13⟩] ⟨0, 12, 19, 15⟩ [] (htab.trans rfl) (fun z hz => by cases List.mem_singleton.mp hz; exact Or.inr ⟨by decide, "java/lang/IndexOutOfBoundsException", hacl13, hX.2.2.2.2.2.2.2.1⟩) (by decide +kernel) (by decide) hacl15 (va_Nw.use rfl hX.2.2.2.2.2.1) hcell hvm hcl ?_
  refine lv_astore (lv' := [(5, .ref q9), (0, .ref o), (1, .int (nI X)), (2, .int (nI Y)), (3, .int v), (4, .ref oq)]) hx hb dL_plant_19 hl (by decide) rfl (fun ls hl => ?_)
  refine lv_iconst (v := nI 2) hx hb dL_plant_21 (by decide +kernel) ?_
  exact e_iret () hQ hx hb hr hlocks hP hD hS dL_plant_22 (rfl) (Nat.le_of_ble_eq_true rfl) (Nat.le_of_ble_eq_true rfl) (trivial)

abbrev rm_L_setMonth : Room := { frames := 2, cells := 0, slots := 0, locals := 47 }
set_option maxHeartbeats 4000000 in
set_option maxRecDepth 100000 in
theorem c_L_setMonth (l : Launch) (hlt : l.stackTraces = false) (E : eT) (sz : Nat) (o : Nat) (ad : Nat → Nat) (wm : Nat → Int32) (st : Nat → Int32) (gr : Nat → Int32) (co : Nat → Int32) (hb_ : Nat → Bool) (mo : Nat) (ga : Nat → Int32) (ca : Nat → Int32) (ha_ : Nat → Bool) (ma : Nat) (sd : Nat → Int32) (tk : Nat → Int32) (op : Nat → Bool) (sp : Nat → Nat) (rc : Nat → Nat) (rn : Nat) (wa : Nat → Int32) (M : Nat) (v : Int32) (u_ : Int32) (oq : Nat) (lo : Nat → Int64) (hM : M < 12) (hv : isInB v (nI 0) (nI 9) = true) (hu : isInB u_ (nI 0) (nI 9) = true) : cMX l yL_setMonth wsL_setMonth rm_L_setMonth E sz [.ref o, .int (nI M), .int v, .int u_, .ref oq] (wAll E o ad wm st gr co hb_ (nI mo) ga ca ha_ (nI ma) sd tk op sp rc rn wa ++ [(oq, .inl (E.2.2.2, 1, .inr (.inl lo)))]) (fun u : Unit => some (.int (nI 0))) (fun u : Unit => True) (fun u : Unit => wAll E o ad (upd wm M v) (upd st M u_) gr co hb_ (nI mo) ga ca ha_ (nI ma) sd tk op sp rc rn wa ++ [(oq, .inl (E.2.2.2, 1, .inr (.inl (vp_updL lo 0 ((nI 10 * wm M + st M).toInt64)))))]) := by
  refine cMX_introH (cc := cL_setMonth) (maxL := 6) (ret := (some .int)) (by decide +kernel) rfl (Nat.le_of_ble_eq_true rfl) ?_
  intro p e s m args below meth cd hx hb hr hml hown hlocks hts hnm htab hK hsz hP A hD hA hX Q hQ ls hl
  have hown : s.vm.findClass RL = some m.cls := hown
  have hS : va_S A s.heap s.heap [] := va_S.rf
  have hl : lv_has ls 6 [(0, .ref o), (1, .int (nI M)), (2, .int v), (3, .int u_), (4, .ref oq)] := hl
  refine lv_aload hx hb dL_setMonth_0 (lv_at hl 4 rfl) ?_
  refine lv_iconst (v := nI 0) hx hb dL_setMonth_2 (by decide +kernel) ?_
  refine lv_aload_n hx hb dL_setMonth_3 rfl (lv_at hl 0 rfl) ?_
  refine lv_iload_n hx hb dL_setMonth_4 rfl (lv_at hl 1 rfl) ?_
  refine lv_iload_n hx hb dL_setMonth_5 rfl (lv_at hl 2 rfl) ?_
  refine lv_iload_n hx hb dL_setMonth_6 rfl (lv_at hl 3 rfl) ?_
  refine e_callV (As := [.int (nI M), .int v, .int u_]) (rest := [.int (nI 0), .ref oq]) ⟨hx, hb, hml, hown, hts⟩ hK hP hD hS hA hl.1 (c_X4_setMonth l E _ o ad wm st gr co hb_ mo ga ca ha_ ma sd tk op sp rc rn wa M v u_ (by first | omega | assumption | rfl | (simp_all; done)) (by first | omega | assumption | rfl | (simp_all; done)) (by first | omega | assumption | rfl | (simp_all; done))) (cwV 3 hts gL_setMonth_X4_setMonth rfl rfl rfl (by decide +kernel) ⟨Nat.le_of_ble_eq_true rfl, Nat.le_of_ble_eq_true rfl⟩) [0, 1, 2, 3, 4, 5, 6, 7, 8, 9, 10, 11, 12, 13, 14, 15, 16, 17, 18, 19] [20] rfl rfl rfl rfl (by decide) (q0 := 0) (ci := 4) rfl rfl rfl rfl (Nat.le_of_ble_eq_true rfl) dL_setMonth_7 ⟨Nat.le_of_ble_eq_true rfl, Nat.le_of_ble_eq_true rfl⟩ (fun u_1 H locs hu_2 hsz1 hP hD hS => ?_)
  have hP : va_P E.1 vwCl (wAll E o ad (upd wm M v) (upd st M u_) gr co hb_ (nI mo) ga ca ha_ (nI ma) sd tk op sp rc rn wa ++ [(oq, .inl (E.2.2.2, 1, .inr (.inl lo)))]) H := hP.sub [1, 2, 3, 4, 5, 6, 7, 8, 9, 10, 11, 12, 13, 14, 15, 16, 17, 18, 19, 20, 0] rfl
  have hD : va_D A (wAll E o ad (upd wm M v) (upd st M u_) gr co hb_ (nI mo) ga ca ha_ (nI ma) sd tk op sp rc rn wa ++ [(oq, .inl (E.2.2.2, 1, .inr (.inl lo)))]) := hD.sub [1, 2, 3, 4, 5, 6, 7, 8, 9, 10, 11, 12, 13, 14, 15, 16, 17, 18, 19, 20, 0] (by decide) rfl
  refine W.eq (g2 := F0 m 10 ls [.int (nI 10 * wm M + st M), .int (nI 0), .ref oq]) rfl ?_
  refine lv_i2l hx hb dL_setMonth_10 rfl ?_
  refine e_last hK hP hD hS 20 rfl 0 (by omega) (by decide) hx hb dL_setMonth_11 (fun H locs hP hD hS => ?_)
  have hP : va_P E.1 vwCl (wAll E o ad (upd wm M v) (upd st M u_) gr co hb_ (nI mo) ga ca ha_ (nI ma) sd tk op sp rc rn wa ++ [(oq, .inl (E.2.2.2, 1, .inr (.inl (vp_updL lo 0 ((nI 10 * wm M + st M).toInt64)))))]) H := hP
  have hD : va_D A (wAll E o ad (upd wm M v) (upd st M u_) gr co hb_ (nI mo) ga ca ha_ (nI ma) sd tk op sp rc rn wa ++ [(oq, .inl (E.2.2.2, 1, .inr (.inl (vp_updL lo 0 ((nI 10 * wm M + st M).toInt64)))))]) := hD
  refine lv_goto (tgt := 23) hx hb dL_setMonth_12 (by decide) ?_
  refine lv_iconst (v := nI 0) hx hb dL_setMonth_23 (by decide +kernel) ?_
  exact e_iret () hQ hx hb hr hlocks hP hD hS dL_setMonth_24 (rfl) (Nat.le_of_ble_eq_true rfl) (Nat.le_of_ble_eq_true rfl) (trivial)

abbrev rm_L_setMonth_b1 : Room := { frames := 8, cells := 1, slots := 6, locals := 127 }
set_option maxHeartbeats 4000000 in
set_option maxRecDepth 100000 in
theorem c_L_setMonth_b1 (l : Launch) (hlt : l.stackTraces = false) (E : eT) (sz : Nat) (o : Nat) (ad : Nat → Nat) (wm : Nat → Int32) (st : Nat → Int32) (gr : Nat → Int32) (co : Nat → Int32) (hb_ : Nat → Bool) (mo : Nat) (ga : Nat → Int32) (ca : Nat → Int32) (ha_ : Nat → Bool) (ma : Nat) (sd : Nat → Int32) (tk : Nat → Int32) (op : Nat → Bool) (sp : Nat → Nat) (rc : Nat → Nat) (rn : Nat) (wa : Nat → Int32) (x : Int32) (v : Int32) (u_ : Int32) (oq : Nat) (lo : Nat → Int64) (hc : isInB x (nI 0) (nI 11) = false) : cMX l yL_setMonth wsL_setMonth rm_L_setMonth_b1 E sz [.ref o, .int x, .int v, .int u_, .ref oq] (wAll E o ad wm st gr co hb_ (nI mo) ga ca ha_ (nI ma) sd tk op sp rc rn wa ++ [(oq, .inl (E.2.2.2, 1, .inr (.inl lo)))]) (fun u : Unit => some (.int (nI 1))) (fun u : Unit => True) (fun u : Unit => wAll E o ad wm st gr co hb_ (nI mo) ga ca ha_ (nI ma) sd tk op sp rc rn wa ++ [(oq, .inl (E.2.2.2, 1, .inr (.inl lo)))]) := by
  refine cMX_introH (cc := cL_setMonth) (maxL := 6) (ret := (some .int)) (by decide +kernel) rfl (Nat.le_of_ble_eq_true rfl) ?_
  intro p e s m args below meth cd hx hb hr hml hown hlocks hts hnm htab hK hsz hP A hD hA hX Q hQ ls hl
  have hown : s.vm.findClass RL = some m.cls := hown
  have hacl13 := hts (.classLink RL 13 "java/lang/IndexOutOfBoundsException") (by decide +kernel)
  have hS : va_S A s.heap s.heap [] := va_S.rf
  have hl : lv_has ls 6 [(0, .ref o), (1, .int x), (2, .int v), (3, .int u_), (4, .ref oq)] := hl
  refine lv_aload hx hb dL_setMonth_0 (lv_at hl 4 rfl) ?_
  refine lv_iconst (v := nI 0) hx hb dL_setMonth_2 (by decide +kernel) ?_
  refine lv_aload_n hx hb dL_setMonth_3 rfl (lv_at hl 0 rfl) ?_
  refine lv_iload_n hx hb dL_setMonth_4 rfl (lv_at hl 1 rfl) ?_
  refine lv_iload_n hx hb dL_setMonth_5 rfl (lv_at hl 2 rfl) ?_
  refine lv_iload_n hx hb dL_setMonth_6 rfl (lv_at hl 3 rfl) ?_
  refine e_callVX (As := [.int x, .int v, .int u_]) (rest := [.int (nI 0), .ref oq]) ⟨hx, hb, hml, hown, hts⟩ hK hX hP hD hS hA hl.1 (c_X4_setMonth_b1 l hlt E _ o ad wm st gr co hb_ mo ga ca ha_ ma sd tk op sp rc rn wa x v u_ (by first | omega | assumption | rfl | (simp_all; done))) (cwV 3 hts gL_setMonth_X4_setMonth rfl rfl rfl (by decide +kernel) ⟨Nat.le_of_ble_eq_true rfl, Nat.le_of_ble_eq_true rfl⟩) [0, 1, 2, 3, 4, 5, 6, 7, 8, 9, 10, 11, 12, 13, 14, 15, 16, 17, 18, 19] [20] rfl rfl rfl rfl (by decide) (q0 := 0) (ci := 4) rfl rfl rfl rfl (Nat.le_of_ble_eq_true rfl) dL_setMonth_7 ⟨Nat.le_of_ble_eq_true rfl, Nat.le_of_ble_eq_true rfl⟩ (fun ce q9 H locs hsz1 hP hD hS hcell hvm hcl => ?_)
  have hP : va_P E.1 vwCl (wAll E o ad wm st gr co hb_ (nI mo) ga ca ha_ (nI ma) sd tk op sp rc rn wa ++ [(oq, .inl (E.2.2.2, 1, .inr (.inl lo)))]) H := hP.sub [1, 2, 3, 4, 5, 6, 7, 8, 9, 10, 11, 12, 13, 14, 15, 16, 17, 18, 19, 20, 0] rfl
  have hD : va_D A (wAll E o ad wm st gr co hb_ (nI mo) ga ca ha_ (nI ma) sd tk op sp rc rn wa ++ [(oq, .inl (E.2.2.2, 1, .inr (.inl lo)))]) := hD.sub [1, 2, 3, 4, 5, 6, 7, 8, 9, 10, 11, 12, 13, 14, 15, 16, 17, 18, 19, 20, 0] (by decide) rfl
  refine vx_catch (name := "java/lang/IndexOutOfBoundsException") (E := nX1) hown [] ⟨0, 12, 15, 13⟩ [⟨0, 12, 19, 15⟩] (htab.trans rfl) (fun _ h => nomatch h) (by decide +kernel) (by decide) hacl13 (va_Nw.use rfl hX.2.2.2.2.1) hcell hvm hcl ?_
  refine lv_astore (lv' := [(5, .ref q9), (0, .ref o), (1, .int x), (2, .int v), (3, .int u_), (4, .ref oq)]) hx hb dL_setMonth_15 hl (by decide) rfl (fun ls hl => ?_)
  refine lv_iconst (v := nI 1) hx hb dL_setMonth_17 (by decide +kernel) ?_
  exact e_iret () hQ hx hb hr hlocks hP hD hS dL_setMonth_18 (rfl) (Nat.le_of_ble_eq_true rfl) (Nat.le_of_ble_eq_true rfl) (trivial)

abbrev rm_L_setMonth_b2 : Room := { frames := 8, cells := 1, slots := 6, locals := 128 }
set_option maxHeartbeats 4000000 in
set_option maxRecDepth 100000 in
theorem c_L_setMonth_b2 (l : Launch) (hlt : l.stackTraces = false) (E : eT) (sz : Nat) (o : Nat) (ad : Nat → Nat) (wm : Nat → Int32) (st : Nat → Int32) (gr : Nat → Int32) (co : Nat → Int32) (hb_ : Nat → Bool) (mo : Nat) (ga : Nat → Int32) (ca : Nat → Int32) (ha_ : Nat → Bool) (ma : Nat) (sd : Nat → Int32) (tk : Nat → Int32) (op : Nat → Bool) (sp : Nat → Nat) (rc : Nat → Nat) (rn : Nat) (wa : Nat → Int32) (M : Nat) (v : Int32) (u_ : Int32) (oq : Nat) (lo : Nat → Int64) (hM : M < 12) (hv : isInB v (nI 0) (nI 9) = false) : cMX l yL_setMonth wsL_setMonth rm_L_setMonth_b2 E sz [.ref o, .int (nI M), .int v, .int u_, .ref oq] (wAll E o ad wm st gr co hb_ (nI mo) ga ca ha_ (nI ma) sd tk op sp rc rn wa ++ [(oq, .inl (E.2.2.2, 1, .inr (.inl lo)))]) (fun u : Unit => some (.int (nI 2))) (fun u : Unit => True) (fun u : Unit => wAll E o ad wm st gr co hb_ (nI mo) ga ca ha_ (nI ma) sd tk op sp rc rn wa ++ [(oq, .inl (E.2.2.2, 1, .inr (.inl lo)))]) := by
  refine cMX_introH (cc := cL_setMonth) (maxL := 6) (ret := (some .int)) (by decide +kernel) rfl (Nat.le_of_ble_eq_true rfl) ?_
  intro p e s m args below meth cd hx hb hr hml hown hlocks hts hnm htab hK hsz hP A hD hA hX Q hQ ls hl
  have hown : s.vm.findClass RL = some m.cls := hown
  have hacl13 := hts (.classLink RL 13 "java/lang/IndexOutOfBoundsException") (by decide +kernel)
  have hacl15 := hts (.classLink RL 15 "java/lang/IllegalArgumentException") (by decide +kernel)
  have hS : va_S A s.heap s.heap [] := va_S.rf
  have hl : lv_has ls 6 [(0, .ref o), (1, .int (nI M)), (2, .int v), (3, .int u_), (4, .ref oq)] := hl
  refine lv_aload hx hb dL_setMonth_0 (lv_at hl 4 rfl) ?_
  refine lv_iconst (v := nI 0) hx hb dL_setMonth_2 (by decide +kernel) ?_
  refine lv_aload_n hx hb dL_setMonth_3 rfl (lv_at hl 0 rfl) ?_
  refine lv_iload_n hx hb dL_setMonth_4 rfl (lv_at hl 1 rfl) ?_
  refine lv_iload_n hx hb dL_setMonth_5 rfl (lv_at hl 2 rfl) ?_
  refine lv_iload_n hx hb dL_setMonth_6 rfl (lv_at hl 3 rfl) ?_
  refine e_callVX (As := [.int (nI M), .int v, .int u_]) (rest := [.int (nI 0), .ref oq]) ⟨hx, hb, hml, hown, hts⟩ hK hX hP hD hS hA hl.1 (c_X4_setMonth_b2 l hlt E _ o ad wm st gr co hb_ mo ga ca ha_ ma sd tk op sp rc rn wa M v u_ (by first | omega | assumption | rfl | (simp_all; done)) (by first | omega | assumption | rfl | (simp_all; done))) (cwV 3 hts gL_setMonth_X4_setMonth rfl rfl rfl (by decide +kernel) ⟨Nat.le_of_ble_eq_true rfl, Nat.le_of_ble_eq_true rfl⟩) [0, 1, 2, 3, 4, 5, 6, 7, 8, 9, 10, 11, 12, 13, 14, 15, 16, 17, 18, 19] [20] rfl rfl rfl rfl (by decide) (q0 := 0) (ci := 4) rfl rfl rfl rfl (Nat.le_of_ble_eq_true rfl) dL_setMonth_7 ⟨Nat.le_of_ble_eq_true rfl, Nat.le_of_ble_eq_true rfl⟩ (fun ce q9 H locs hsz1 hP hD hS hcell hvm hcl => ?_)
  have hP : va_P E.1 vwCl (wAll E o ad wm st gr co hb_ (nI mo) ga ca ha_ (nI ma) sd tk op sp rc rn wa ++ [(oq, .inl (E.2.2.2, 1, .inr (.inl lo)))]) H := hP.sub [1, 2, 3, 4, 5, 6, 7, 8, 9, 10, 11, 12, 13, 14, 15, 16, 17, 18, 19, 20, 0] rfl
  have hD : va_D A (wAll E o ad wm st gr co hb_ (nI mo) ga ca ha_ (nI ma) sd tk op sp rc rn wa ++ [(oq, .inl (E.2.2.2, 1, .inr (.inl lo)))]) := hD.sub [1, 2, 3, 4, 5, 6, 7, 8, 9, 10, 11, 12, 13, 14, 15, 16, 17, 18, 19, 20, 0] (by decide) rfl
  refine vx_catch (name := "java/lang/IllegalArgumentException") (E := nX2) hown [⟨0, 12, 15, 13⟩] ⟨0, 12, 19, 15⟩ [] (htab.trans rfl) (fun z hz => by cases List.mem_singleton.mp hz; exact Or.inr ⟨by decide, "java/lang/IndexOutOfBoundsException", hacl13, hX.2.2.2.2.2.2.2.1⟩) (by decide +kernel) (by decide) hacl15 (va_Nw.use rfl hX.2.2.2.2.2.1) hcell hvm hcl ?_
  refine lv_astore (lv' := [(5, .ref q9), (0, .ref o), (1, .int (nI M)), (2, .int v), (3, .int u_), (4, .ref oq)]) hx hb dL_setMonth_19 hl (by decide) rfl (fun ls hl => ?_)
  refine lv_iconst (v := nI 2) hx hb dL_setMonth_21 (by decide +kernel) ?_
  exact e_iret () hQ hx hb hr hlocks hP hD hS dL_setMonth_22 (rfl) (Nat.le_of_ble_eq_true rfl) (Nat.le_of_ble_eq_true rfl) (trivial)

abbrev rm_L_setMonth_b3 : Room := { frames := 8, cells := 1, slots := 6, locals := 128 }
set_option maxHeartbeats 4000000 in
set_option maxRecDepth 100000 in
theorem c_L_setMonth_b3 (l : Launch) (hlt : l.stackTraces = false) (E : eT) (sz : Nat) (o : Nat) (ad : Nat → Nat) (wm : Nat → Int32) (st : Nat → Int32) (gr : Nat → Int32) (co : Nat → Int32) (hb_ : Nat → Bool) (mo : Nat) (ga : Nat → Int32) (ca : Nat → Int32) (ha_ : Nat → Bool) (ma : Nat) (sd : Nat → Int32) (tk : Nat → Int32) (op : Nat → Bool) (sp : Nat → Nat) (rc : Nat → Nat) (rn : Nat) (wa : Nat → Int32) (M : Nat) (v : Int32) (u_ : Int32) (oq : Nat) (lo : Nat → Int64) (hM : M < 12) (hv : isInB v (nI 0) (nI 9) = true) (hu : isInB u_ (nI 0) (nI 9) = false) : cMX l yL_setMonth wsL_setMonth rm_L_setMonth_b3 E sz [.ref o, .int (nI M), .int v, .int u_, .ref oq] (wAll E o ad wm st gr co hb_ (nI mo) ga ca ha_ (nI ma) sd tk op sp rc rn wa ++ [(oq, .inl (E.2.2.2, 1, .inr (.inl lo)))]) (fun u : Unit => some (.int (nI 2))) (fun u : Unit => True) (fun u : Unit => wAll E o ad wm st gr co hb_ (nI mo) ga ca ha_ (nI ma) sd tk op sp rc rn wa ++ [(oq, .inl (E.2.2.2, 1, .inr (.inl lo)))]) := by
  refine cMX_introH (cc := cL_setMonth) (maxL := 6) (ret := (some .int)) (by decide +kernel) rfl (Nat.le_of_ble_eq_true rfl) ?_
  intro p e s m args below meth cd hx hb hr hml hown hlocks hts hnm htab hK hsz hP A hD hA hX Q hQ ls hl
  have hown : s.vm.findClass RL = some m.cls := hown
  have hacl13 := hts (.classLink RL 13 "java/lang/IndexOutOfBoundsException") (by decide +kernel)
  have hacl15 := hts (.classLink RL 15 "java/lang/IllegalArgumentException") (by decide +kernel)
  have hS : va_S A s.heap s.heap [] := va_S.rf
  have hl : lv_has ls 6 [(0, .ref o), (1, .int (nI M)), (2, .int v), (3, .int u_), (4, .ref oq)] := hl
  refine lv_aload hx hb dL_setMonth_0 (lv_at hl 4 rfl) ?_
  refine lv_iconst (v := nI 0) hx hb dL_setMonth_2 (by decide +kernel) ?_
  refine lv_aload_n hx hb dL_setMonth_3 rfl (lv_at hl 0 rfl) ?_
  refine lv_iload_n hx hb dL_setMonth_4 rfl (lv_at hl 1 rfl) ?_
  refine lv_iload_n hx hb dL_setMonth_5 rfl (lv_at hl 2 rfl) ?_
  refine lv_iload_n hx hb dL_setMonth_6 rfl (lv_at hl 3 rfl) ?_
  refine e_callVX (As := [.int (nI M), .int v, .int u_]) (rest := [.int (nI 0), .ref oq]) ⟨hx, hb, hml, hown, hts⟩ hK hX hP hD hS hA hl.1 (c_X4_setMonth_b3 l hlt E _ o ad wm st gr co hb_ mo ga ca ha_ ma sd tk op sp rc rn wa M v u_ (by first | omega | assumption | rfl | (simp_all; done)) (by first | omega | assumption | rfl | (simp_all; done)) (by first | omega | assumption | rfl | (simp_all; done))) (cwV 3 hts gL_setMonth_X4_setMonth rfl rfl rfl (by decide +kernel) ⟨Nat.le_of_ble_eq_true rfl, Nat.le_of_ble_eq_true rfl⟩) [0, 1, 2, 3, 4, 5, 6, 7, 8, 9, 10, 11, 12, 13, 14, 15, 16, 17, 18, 19] [20] rfl rfl rfl rfl (by decide) (q0 := 0) (ci := 4) rfl rfl rfl rfl (Nat.le_of_ble_eq_true rfl) dL_setMonth_7 ⟨Nat.le_of_ble_eq_true rfl, Nat.le_of_ble_eq_true rfl⟩ (fun ce q9 H locs hsz1 hP hD hS hcell hvm hcl => ?_)
  have hP : va_P E.1 vwCl (wAll E o ad wm st gr co hb_ (nI mo) ga ca ha_ (nI ma) sd tk op sp rc rn wa ++ [(oq, .inl (E.2.2.2, 1, .inr (.inl lo)))]) H := hP.sub [1, 2, 3, 4, 5, 6, 7, 8, 9, 10, 11, 12, 13, 14, 15, 16, 17, 18, 19, 20, 0] rfl
  have hD : va_D A (wAll E o ad wm st gr co hb_ (nI mo) ga ca ha_ (nI ma) sd tk op sp rc rn wa ++ [(oq, .inl (E.2.2.2, 1, .inr (.inl lo)))]) := hD.sub [1, 2, 3, 4, 5, 6, 7, 8, 9, 10, 11, 12, 13, 14, 15, 16, 17, 18, 19, 20, 0] (by decide) rfl
  refine vx_catch (name := "java/lang/IllegalArgumentException") (E := nX2) hown [⟨0, 12, 15, 13⟩] ⟨0, 12, 19, 15⟩ [] (htab.trans rfl) (fun z hz => by cases List.mem_singleton.mp hz; exact Or.inr ⟨by decide, "java/lang/IndexOutOfBoundsException", hacl13, hX.2.2.2.2.2.2.2.1⟩) (by decide +kernel) (by decide) hacl15 (va_Nw.use rfl hX.2.2.2.2.2.1) hcell hvm hcl ?_
  refine lv_astore (lv' := [(5, .ref q9), (0, .ref o), (1, .int (nI M)), (2, .int v), (3, .int u_), (4, .ref oq)]) hx hb dL_setMonth_19 hl (by decide) rfl (fun ls hl => ?_)
  refine lv_iconst (v := nI 2) hx hb dL_setMonth_21 (by decide +kernel) ?_
  exact e_iret () hQ hx hb hr hlocks hP hD hS dL_setMonth_22 (rfl) (Nat.le_of_ble_eq_true rfl) (Nat.le_of_ble_eq_true rfl) (trivial)

abbrev rm_L_cell : Room := { frames := 5, cells := 0, slots := 0, locals := 114 }
set_option maxHeartbeats 4000000 in
set_option maxRecDepth 100000 in
theorem c_L_cell (l : Launch) (hlt : l.stackTraces = false) (E : eT) (sz : Nat) (o : Nat) (ad : Nat → Nat) (wm : Nat → Int32) (st : Nat → Int32) (gr : Nat → Int32) (co : Nat → Int32) (hb_ : Nat → Bool) (mo : Nat) (ga : Nat → Int32) (ca : Nat → Int32) (ha_ : Nat → Bool) (ma : Nat) (sd : Nat → Int32) (tk : Nat → Int32) (op : Nat → Bool) (sp : Nat → Nat) (rc : Nat → Nat) (rn : Nat) (wa : Nat → Int32) (X : Nat) (Y : Nat) (k : Nat) (oq : Nat) (lo : Nat → Int64) (hX : X < 9) (hY : Y < 9) (hk : k < 5) : cMX l yL_cell wsL_cell rm_L_cell E sz [.ref o, .int (nI X), .int (nI Y), .int (nI k), .ref oq] (wAll E o ad wm st gr co hb_ (nI mo) ga ca ha_ (nI ma) sd tk op sp rc rn wa ++ [(oq, .inl (E.2.2.2, 1, .inr (.inl lo)))]) (fun u : (Nat → Bool) × (Nat → Nat) × (Nat → Nat) × (Nat) => some (.int (nI 0))) (fun u : (Nat → Bool) × (Nat → Nat) × (Nat → Nat) × (Nat) => True) (fun u : (Nat → Bool) × (Nat → Nat) × (Nat → Nat) × (Nat) => wAll E o ad wm st gr co hb_ (nI mo) ga ca ha_ (nI ma) sd tk u.1 u.2.1 u.2.2.1 u.2.2.2 wa ++ [(oq, .inl (E.2.2.2, 1, .inr (.inl (vp_updL lo 0 ((celA gr co ((9 * Y) + X) k).toInt64)))))]) := by
  refine cMX_introH (cc := cL_cell) (maxL := 6) (ret := (some .int)) (by decide +kernel) rfl (Nat.le_of_ble_eq_true rfl) ?_
  intro p e s m args below meth cd hx hb hr hml hown hlocks hts hnm htab hK hsz hP A hD hA hX Q hQ ls hl
  have hown : s.vm.findClass RL = some m.cls := hown
  have hS : va_S A s.heap s.heap [] := va_S.rf
  have hl : lv_has ls 6 [(0, .ref o), (1, .int (nI X)), (2, .int (nI Y)), (3, .int (nI k)), (4, .ref oq)] := hl
  refine lv_aload hx hb dL_cell_0 (lv_at hl 4 rfl) ?_
  refine lv_iconst (v := nI 0) hx hb dL_cell_2 (by decide +kernel) ?_
  refine lv_aload_n hx hb dL_cell_3 rfl (lv_at hl 0 rfl) ?_
  refine lv_iload_n hx hb dL_cell_4 rfl (lv_at hl 1 rfl) ?_
  refine lv_iload_n hx hb dL_cell_5 rfl (lv_at hl 2 rfl) ?_
  refine lv_iload_n hx hb dL_cell_6 rfl (lv_at hl 3 rfl) ?_
  refine e_callV (As := [.int (nI X), .int (nI Y), .int (nI k)]) (rest := [.int (nI 0), .ref oq]) ⟨hx, hb, hml, hown, hts⟩ hK hP hD hS hA hl.1 (c_X4_cell l E _ o ad wm st gr co hb_ mo ga ca ha_ ma sd tk op sp rc rn wa X Y k (by first | omega | assumption | rfl | (simp_all; done)) (by first | omega | assumption | rfl | (simp_all; done)) (by first | omega | assumption | rfl | (simp_all; done))) (cwV 3 hts gL_cell_X4_cell rfl rfl rfl (by decide +kernel) ⟨Nat.le_of_ble_eq_true rfl, Nat.le_of_ble_eq_true rfl⟩) [0, 1, 2, 3, 4, 5, 6, 7, 8, 9, 10, 11, 12, 13, 14, 15, 16, 17, 18, 19] [20] rfl rfl rfl rfl (by decide) (q0 := 0) (ci := 4) rfl rfl rfl rfl (Nat.le_of_ble_eq_true rfl) dL_cell_7 ⟨Nat.le_of_ble_eq_true rfl, Nat.le_of_ble_eq_true rfl⟩ (fun u_1 H locs hu_2 hsz1 hP hD hS => ?_)
  obtain ⟨op__3, sp__4, rc__5, rn__6⟩ := u_1
  have hP : va_P E.1 vwCl (wAll E o ad wm st gr co hb_ (nI mo) ga ca ha_ (nI ma) sd tk op__3 sp__4 rc__5 rn__6 wa ++ [(oq, .inl (E.2.2.2, 1, .inr (.inl lo)))]) H := hP.sub [1, 2, 3, 4, 5, 6, 7, 8, 9, 10, 11, 12, 13, 14, 15, 16, 17, 18, 19, 20, 0] rfl
  have hD : va_D A (wAll E o ad wm st gr co hb_ (nI mo) ga ca ha_ (nI ma) sd tk op__3 sp__4 rc__5 rn__6 wa ++ [(oq, .inl (E.2.2.2, 1, .inr (.inl lo)))]) := hD.sub [1, 2, 3, 4, 5, 6, 7, 8, 9, 10, 11, 12, 13, 14, 15, 16, 17, 18, 19, 20, 0] (by decide) rfl
  refine W.eq (g2 := F0 m 10 ls [.int (celA gr co ((9 * Y) + X) k), .int (nI 0), .ref oq]) rfl ?_
  refine lv_i2l hx hb dL_cell_10 rfl ?_
  refine e_last hK hP hD hS 20 rfl 0 (by omega) (by decide) hx hb dL_cell_11 (fun H locs hP hD hS => ?_)
  have hP : va_P E.1 vwCl (wAll E o ad wm st gr co hb_ (nI mo) ga ca ha_ (nI ma) sd tk op__3 sp__4 rc__5 rn__6 wa ++ [(oq, .inl (E.2.2.2, 1, .inr (.inl (vp_updL lo 0 ((celA gr co ((9 * Y) + X) k).toInt64)))))]) H := hP
  have hD : va_D A (wAll E o ad wm st gr co hb_ (nI mo) ga ca ha_ (nI ma) sd tk op__3 sp__4 rc__5 rn__6 wa ++ [(oq, .inl (E.2.2.2, 1, .inr (.inl (vp_updL lo 0 ((celA gr co ((9 * Y) + X) k).toInt64)))))]) := hD
  refine lv_goto (tgt := 19) hx hb dL_cell_12 (by decide) ?_
  refine lv_iconst (v := nI 0) hx hb dL_cell_19 (by decide +kernel) ?_
  exact e_iret (op__3, sp__4, rc__5, rn__6) hQ hx hb hr hlocks hP hD hS dL_cell_20 (rfl) (Nat.le_of_ble_eq_true rfl) (Nat.le_of_ble_eq_true rfl) (trivial)

abbrev rm_L_cell_b1 : Room := { frames := 9, cells := 1, slots := 6, locals := 148 }
set_option maxHeartbeats 4000000 in
set_option maxRecDepth 100000 in
theorem c_L_cell_b1 (l : Launch) (hlt : l.stackTraces = false) (E : eT) (sz : Nat) (o : Nat) (ad : Nat → Nat) (wm : Nat → Int32) (st : Nat → Int32) (gr : Nat → Int32) (co : Nat → Int32) (hb_ : Nat → Bool) (mo : Nat) (ga : Nat → Int32) (ca : Nat → Int32) (ha_ : Nat → Bool) (ma : Nat) (sd : Nat → Int32) (tk : Nat → Int32) (op : Nat → Bool) (sp : Nat → Nat) (rc : Nat → Nat) (rn : Nat) (wa : Nat → Int32) (x : Int32) (y : Int32) (v : Int32) (oq : Nat) (lo : Nat → Int64) (hc : isCellB x y = false) : cMX l yL_cell wsL_cell rm_L_cell_b1 E sz [.ref o, .int x, .int y, .int v, .ref oq] (wAll E o ad wm st gr co hb_ (nI mo) ga ca ha_ (nI ma) sd tk op sp rc rn wa ++ [(oq, .inl (E.2.2.2, 1, .inr (.inl lo)))]) (fun u : Unit => some (.int (nI 1))) (fun u : Unit => True) (fun u : Unit => wAll E o ad wm st gr co hb_ (nI mo) ga ca ha_ (nI ma) sd tk op sp rc rn wa ++ [(oq, .inl (E.2.2.2, 1, .inr (.inl lo)))]) := by
  refine cMX_introH (cc := cL_cell) (maxL := 6) (ret := (some .int)) (by decide +kernel) rfl (Nat.le_of_ble_eq_true rfl) ?_
  intro p e s m args below meth cd hx hb hr hml hown hlocks hts hnm htab hK hsz hP A hD hA hX Q hQ ls hl
  have hown : s.vm.findClass RL = some m.cls := hown
  have hacl13 := hts (.classLink RL 13 "java/lang/IndexOutOfBoundsException") (by decide +kernel)
  have hS : va_S A s.heap s.heap [] := va_S.rf
  have hl : lv_has ls 6 [(0, .ref o), (1, .int x), (2, .int y), (3, .int v), (4, .ref oq)] := hl
  refine lv_aload hx hb dL_cell_0 (lv_at hl 4 rfl) ?_
  refine lv_iconst (v := nI 0) hx hb dL_cell_2 (by decide +kernel) ?_
  refine lv_aload_n hx hb dL_cell_3 rfl (lv_at hl 0 rfl) ?_
  refine lv_iload_n hx hb dL_cell_4 rfl (lv_at hl 1 rfl) ?_
  refine lv_iload_n hx hb dL_cell_5 rfl (lv_at hl 2 rfl) ?_
  refine lv_iload_n hx hb dL_cell_6 rfl (lv_at hl 3 rfl) ?_
  refine e_callVX (As := [.int x, .int y, .int v]) (rest := [.int (nI 0), .ref oq]) ⟨hx, hb, hml, hown, hts⟩ hK hX hP hD hS hA hl.1 (c_X4_cell_b1 l hlt E _ o ad wm st gr co hb_ mo ga ca ha_ ma sd tk op sp rc rn wa x y v (by first | omega | assumption | rfl | (simp_all; done))) (cwV 3 hts gL_cell_X4_cell rfl rfl rfl (by decide +kernel) ⟨Nat.le_of_ble_eq_true rfl, Nat.le_of_ble_eq_true rfl⟩) [0, 1, 2, 3, 4, 5, 6, 7, 8, 9, 10, 11, 12, 13, 14, 15, 16, 17, 18, 19] [20] rfl rfl rfl rfl (by decide) (q0 := 0) (ci := 4) rfl rfl rfl rfl (Nat.le_of_ble_eq_true rfl) dL_cell_7 ⟨Nat.le_of_ble_eq_true rfl, Nat.le_of_ble_eq_true rfl⟩ (fun ce q9 H locs hsz1 hP hD hS hcell hvm hcl => ?_)
  have hP : va_P E.1 vwCl (wAll E o ad wm st gr co hb_ (nI mo) ga ca ha_ (nI ma) sd tk op sp rc rn wa ++ [(oq, .inl (E.2.2.2, 1, .inr (.inl lo)))]) H := hP.sub [1, 2, 3, 4, 5, 6, 7, 8, 9, 10, 11, 12, 13, 14, 15, 16, 17, 18, 19, 20, 0] rfl
  have hD : va_D A (wAll E o ad wm st gr co hb_ (nI mo) ga ca ha_ (nI ma) sd tk op sp rc rn wa ++ [(oq, .inl (E.2.2.2, 1, .inr (.inl lo)))]) := hD.sub [1, 2, 3, 4, 5, 6, 7, 8, 9, 10, 11, 12, 13, 14, 15, 16, 17, 18, 19, 20, 0] (by decide) rfl
  refine vx_catch (name := "java/lang/IndexOutOfBoundsException") (E := nX1) hown [] ⟨0, 12, 15, 13⟩ [] (htab.trans rfl) (fun _ h => nomatch h) (by decide +kernel) (by decide) hacl13 (va_Nw.use rfl hX.2.2.2.2.1) hcell hvm hcl ?_
  refine lv_astore (lv' := [(5, .ref q9), (0, .ref o), (1, .int x), (2, .int y), (3, .int v), (4, .ref oq)]) hx hb dL_cell_15 hl (by decide) rfl (fun ls hl => ?_)
  refine lv_iconst (v := nI 1) hx hb dL_cell_17 (by decide +kernel) ?_
  exact e_iret () hQ hx hb hr hlocks hP hD hS dL_cell_18 (rfl) (Nat.le_of_ble_eq_true rfl) (Nat.le_of_ble_eq_true rfl) (trivial)

abbrev rm_L_cell_b2 : Room := { frames := 8, cells := 1, slots := 6, locals := 127 }
set_option maxHeartbeats 4000000 in
set_option maxRecDepth 100000 in
theorem c_L_cell_b2 (l : Launch) (hlt : l.stackTraces = false) (E : eT) (sz : Nat) (o : Nat) (ad : Nat → Nat) (wm : Nat → Int32) (st : Nat → Int32) (gr : Nat → Int32) (co : Nat → Int32) (hb_ : Nat → Bool) (mo : Nat) (ga : Nat → Int32) (ca : Nat → Int32) (ha_ : Nat → Bool) (ma : Nat) (sd : Nat → Int32) (tk : Nat → Int32) (op : Nat → Bool) (sp : Nat → Nat) (rc : Nat → Nat) (rn : Nat) (wa : Nat → Int32) (X : Nat) (Y : Nat) (v : Int32) (oq : Nat) (lo : Nat → Int64) (hX : X < 9) (hY : Y < 9) (hv : isInB v (nI 0) (nI 4) = false) : cMX l yL_cell wsL_cell rm_L_cell_b2 E sz [.ref o, .int (nI X), .int (nI Y), .int v, .ref oq] (wAll E o ad wm st gr co hb_ (nI mo) ga ca ha_ (nI ma) sd tk op sp rc rn wa ++ [(oq, .inl (E.2.2.2, 1, .inr (.inl lo)))]) (fun u : Unit => some (.int (nI 1))) (fun u : Unit => True) (fun u : Unit => wAll E o ad wm st gr co hb_ (nI mo) ga ca ha_ (nI ma) sd tk op sp rc rn wa ++ [(oq, .inl (E.2.2.2, 1, .inr (.inl lo)))]) := by
  refine cMX_introH (cc := cL_cell) (maxL := 6) (ret := (some .int)) (by decide +kernel) rfl (Nat.le_of_ble_eq_true rfl) ?_
  intro p e s m args below meth cd hx hb hr hml hown hlocks hts hnm htab hK hsz hP A hD hA hX Q hQ ls hl
  have hown : s.vm.findClass RL = some m.cls := hown
  have hacl13 := hts (.classLink RL 13 "java/lang/IndexOutOfBoundsException") (by decide +kernel)
  have hS : va_S A s.heap s.heap [] := va_S.rf
  have hl : lv_has ls 6 [(0, .ref o), (1, .int (nI X)), (2, .int (nI Y)), (3, .int v), (4, .ref oq)] := hl
  refine lv_aload hx hb dL_cell_0 (lv_at hl 4 rfl) ?_
  refine lv_iconst (v := nI 0) hx hb dL_cell_2 (by decide +kernel) ?_
  refine lv_aload_n hx hb dL_cell_3 rfl (lv_at hl 0 rfl) ?_
  refine lv_iload_n hx hb dL_cell_4 rfl (lv_at hl 1 rfl) ?_
  refine lv_iload_n hx hb dL_cell_5 rfl (lv_at hl 2 rfl) ?_
  refine lv_iload_n hx hb dL_cell_6 rfl (lv_at hl 3 rfl) ?_
  refine e_callVX (As := [.int (nI X), .int (nI Y), .int v]) (rest := [.int (nI 0), .ref oq]) ⟨hx, hb, hml, hown, hts⟩ hK hX hP hD hS hA hl.1 (c_X4_cell_b2 l hlt E _ o ad wm st gr co hb_ mo ga ca ha_ ma sd tk op sp rc rn wa X Y v (by first | omega | assumption | rfl | (simp_all; done)) (by first | omega | assumption | rfl | (simp_all; done)) (by first | omega | assumption | rfl | (simp_all; done))) (cwV 3 hts gL_cell_X4_cell rfl rfl rfl (by decide +kernel) ⟨Nat.le_of_ble_eq_true rfl, Nat.le_of_ble_eq_true rfl⟩) [0, 1, 2, 3, 4, 5, 6, 7, 8, 9, 10, 11, 12, 13, 14, 15, 16, 17, 18, 19] [20] rfl rfl rfl rfl (by decide) (q0 := 0) (ci := 4) rfl rfl rfl rfl (Nat.le_of_ble_eq_true rfl) dL_cell_7 ⟨Nat.le_of_ble_eq_true rfl, Nat.le_of_ble_eq_true rfl⟩ (fun ce q9 H locs hsz1 hP hD hS hcell hvm hcl => ?_)
  have hP : va_P E.1 vwCl (wAll E o ad wm st gr co hb_ (nI mo) ga ca ha_ (nI ma) sd tk op sp rc rn wa ++ [(oq, .inl (E.2.2.2, 1, .inr (.inl lo)))]) H := hP.sub [1, 2, 3, 4, 5, 6, 7, 8, 9, 10, 11, 12, 13, 14, 15, 16, 17, 18, 19, 20, 0] rfl
  have hD : va_D A (wAll E o ad wm st gr co hb_ (nI mo) ga ca ha_ (nI ma) sd tk op sp rc rn wa ++ [(oq, .inl (E.2.2.2, 1, .inr (.inl lo)))]) := hD.sub [1, 2, 3, 4, 5, 6, 7, 8, 9, 10, 11, 12, 13, 14, 15, 16, 17, 18, 19, 20, 0] (by decide) rfl
  refine vx_catch (name := "java/lang/IndexOutOfBoundsException") (E := nX1) hown [] ⟨0, 12, 15, 13⟩ [] (htab.trans rfl) (fun _ h => nomatch h) (by decide +kernel) (by decide) hacl13 (va_Nw.use rfl hX.2.2.2.2.1) hcell hvm hcl ?_
  refine lv_astore (lv' := [(5, .ref q9), (0, .ref o), (1, .int (nI X)), (2, .int (nI Y)), (3, .int v), (4, .ref oq)]) hx hb dL_cell_15 hl (by decide) rfl (fun ls hl => ?_)
  refine lv_iconst (v := nI 1) hx hb dL_cell_17 (by decide +kernel) ?_
  exact e_iret () hQ hx hb hr hlocks hP hD hS dL_cell_18 (rfl) (Nat.le_of_ble_eq_true rfl) (Nat.le_of_ble_eq_true rfl) (trivial)

abbrev rm_L_sound : Room := { frames := 3, cells := 0, slots := 0, locals := 67 }
set_option maxHeartbeats 4000000 in
set_option maxRecDepth 100000 in
theorem c_L_sound (l : Launch) (hlt : l.stackTraces = false) (E : eT) (sz : Nat) (o : Nat) (ad : Nat → Nat) (wm : Nat → Int32) (st : Nat → Int32) (gr : Nat → Int32) (co : Nat → Int32) (hb_ : Nat → Bool) (mo : Nat) (ga : Nat → Int32) (ca : Nat → Int32) (ha_ : Nat → Bool) (ma : Nat) (sd : Nat → Int32) (tk : Nat → Int32) (op : Nat → Bool) (sp : Nat → Nat) (rc : Nat → Nat) (rn : Nat) (wa : Nat → Int32) (X : Nat) (Y : Nat) (oq : Nat) (lo : Nat → Int64) (hX : X < 9) (hY : Y < 9) : cMX l yL_sound wsL_sound rm_L_sound E sz [.ref o, .int (nI X), .int (nI Y), .ref oq] (wAll E o ad wm st gr co hb_ (nI mo) ga ca ha_ (nI ma) sd tk op sp rc rn wa ++ [(oq, .inl (E.2.2.2, 1, .inr (.inl lo)))]) (fun u : Unit => some (.int (nI 0))) (fun u : Unit => True) (fun u : Unit => wAll E o ad wm st gr co hb_ (nI mo) ga ca ha_ (nI ma) (upd sd ((9 * Y) + X) (dep gr co ((9 * Y) + X))) (upd tk ((9 * Y) + X) (nI mo)) op sp rc rn wa ++ [(oq, .inl (E.2.2.2, 1, .inr (.inl (vp_updL lo 0 ((sndR gr co sd ((9 * Y) + X)).toInt64)))))]) := by
  refine cMX_introH (cc := cL_sound) (maxL := 5) (ret := (some .int)) (by decide +kernel) rfl (Nat.le_of_ble_eq_true rfl) ?_
  intro p e s m args below meth cd hx hb hr hml hown hlocks hts hnm htab hK hsz hP A hD hA hX Q hQ ls hl
  have hown : s.vm.findClass RL = some m.cls := hown
  have hS : va_S A s.heap s.heap [] := va_S.rf
  have hl : lv_has ls 5 [(0, .ref o), (1, .int (nI X)), (2, .int (nI Y)), (3, .ref oq)] := hl
  refine lv_aload_n hx hb dL_sound_0 rfl (lv_at hl 3 rfl) ?_
  refine lv_iconst (v := nI 0) hx hb dL_sound_1 (by decide +kernel) ?_
  refine lv_aload_n hx hb dL_sound_2 rfl (lv_at hl 0 rfl) ?_
  refine lv_iload_n hx hb dL_sound_3 rfl (lv_at hl 1 rfl) ?_
  refine lv_iload_n hx hb dL_sound_4 rfl (lv_at hl 2 rfl) ?_
  refine e_callV (As := [.int (nI X), .int (nI Y)]) (rest := [.int (nI 0), .ref oq]) ⟨hx, hb, hml, hown, hts⟩ hK hP hD hS hA hl.1 (c_X4_sound l E _ o ad wm st gr co hb_ mo ga ca ha_ ma sd tk op sp rc rn wa X Y (by first | omega | assumption | rfl | (simp_all; done)) (by first | omega | assumption | rfl | (simp_all; done))) (cwV 2 hts gL_sound_X4_sound rfl rfl rfl (by decide +kernel) ⟨Nat.le_of_ble_eq_true rfl, Nat.le_of_ble_eq_true rfl⟩) [0, 1, 2, 3, 4, 5, 6, 7, 8, 9, 10, 11, 12, 13, 14, 15, 16, 17, 18, 19] [20] rfl rfl rfl rfl (by decide) (q0 := 0) (ci := 4) rfl rfl rfl rfl (Nat.le_of_ble_eq_true rfl) dL_sound_5 ⟨Nat.le_of_ble_eq_true rfl, Nat.le_of_ble_eq_true rfl⟩ (fun u_1 H locs hu_2 hsz1 hP hD hS => ?_)
  have hP : va_P E.1 vwCl (wAll E o ad wm st gr co hb_ (nI mo) ga ca ha_ (nI ma) (upd sd ((9 * Y) + X) (dep gr co ((9 * Y) + X))) (upd tk ((9 * Y) + X) (nI mo)) op sp rc rn wa ++ [(oq, .inl (E.2.2.2, 1, .inr (.inl lo)))]) H := hP.sub [1, 2, 3, 4, 5, 6, 7, 8, 9, 10, 11, 12, 13, 14, 15, 16, 17, 18, 19, 20, 0] rfl
  have hD : va_D A (wAll E o ad wm st gr co hb_ (nI mo) ga ca ha_ (nI ma) (upd sd ((9 * Y) + X) (dep gr co ((9 * Y) + X))) (upd tk ((9 * Y) + X) (nI mo)) op sp rc rn wa ++ [(oq, .inl (E.2.2.2, 1, .inr (.inl lo)))]) := hD.sub [1, 2, 3, 4, 5, 6, 7, 8, 9, 10, 11, 12, 13, 14, 15, 16, 17, 18, 19, 20, 0] (by decide) rfl
  refine W.eq (g2 := F0 m 8 ls [.int (sndR gr co sd ((9 * Y) + X)), .int (nI 0), .ref oq]) rfl ?_
  refine lv_i2l hx hb dL_sound_8 rfl ?_
  refine e_last hK hP hD hS 20 rfl 0 (by omega) (by decide) hx hb dL_sound_9 (fun H locs hP hD hS => ?_)
  have hP : va_P E.1 vwCl (wAll E o ad wm st gr co hb_ (nI mo) ga ca ha_ (nI ma) (upd sd ((9 * Y) + X) (dep gr co ((9 * Y) + X))) (upd tk ((9 * Y) + X) (nI mo)) op sp rc rn wa ++ [(oq, .inl (E.2.2.2, 1, .inr (.inl (vp_updL lo 0 ((sndR gr co sd ((9 * Y) + X)).toInt64)))))]) H := hP
  have hD : va_D A (wAll E o ad wm st gr co hb_ (nI mo) ga ca ha_ (nI ma) (upd sd ((9 * Y) + X) (dep gr co ((9 * Y) + X))) (upd tk ((9 * Y) + X) (nI mo)) op sp rc rn wa ++ [(oq, .inl (E.2.2.2, 1, .inr (.inl (vp_updL lo 0 ((sndR gr co sd ((9 * Y) + X)).toInt64)))))]) := hD
  refine lv_goto (tgt := 17) hx hb dL_sound_10 (by decide) ?_
  refine lv_iconst (v := nI 0) hx hb dL_sound_17 (by decide +kernel) ?_
  exact e_iret () hQ hx hb hr hlocks hP hD hS dL_sound_18 (rfl) (Nat.le_of_ble_eq_true rfl) (Nat.le_of_ble_eq_true rfl) (trivial)

abbrev rm_L_sound_b1 : Room := { frames := 9, cells := 1, slots := 6, locals := 149 }
set_option maxHeartbeats 4000000 in
set_option maxRecDepth 100000 in
theorem c_L_sound_b1 (l : Launch) (hlt : l.stackTraces = false) (E : eT) (sz : Nat) (o : Nat) (ad : Nat → Nat) (wm : Nat → Int32) (st : Nat → Int32) (gr : Nat → Int32) (co : Nat → Int32) (hb_ : Nat → Bool) (mo : Nat) (ga : Nat → Int32) (ca : Nat → Int32) (ha_ : Nat → Bool) (ma : Nat) (sd : Nat → Int32) (tk : Nat → Int32) (op : Nat → Bool) (sp : Nat → Nat) (rc : Nat → Nat) (rn : Nat) (wa : Nat → Int32) (x : Int32) (y : Int32) (oq : Nat) (lo : Nat → Int64) (hc : isCellB x y = false) : cMX l yL_sound wsL_sound rm_L_sound_b1 E sz [.ref o, .int x, .int y, .ref oq] (wAll E o ad wm st gr co hb_ (nI mo) ga ca ha_ (nI ma) sd tk op sp rc rn wa ++ [(oq, .inl (E.2.2.2, 1, .inr (.inl lo)))]) (fun u : Unit => some (.int (nI 1))) (fun u : Unit => True) (fun u : Unit => wAll E o ad wm st gr co hb_ (nI mo) ga ca ha_ (nI ma) sd tk op sp rc rn wa ++ [(oq, .inl (E.2.2.2, 1, .inr (.inl lo)))]) := by
  refine cMX_introH (cc := cL_sound) (maxL := 5) (ret := (some .int)) (by decide +kernel) rfl (Nat.le_of_ble_eq_true rfl) ?_
  intro p e s m args below meth cd hx hb hr hml hown hlocks hts hnm htab hK hsz hP A hD hA hX Q hQ ls hl
  have hown : s.vm.findClass RL = some m.cls := hown
  have hacl13 := hts (.classLink RL 13 "java/lang/IndexOutOfBoundsException") (by decide +kernel)
  have hS : va_S A s.heap s.heap [] := va_S.rf
  have hl : lv_has ls 5 [(0, .ref o), (1, .int x), (2, .int y), (3, .ref oq)] := hl
  refine lv_aload_n hx hb dL_sound_0 rfl (lv_at hl 3 rfl) ?_
  refine lv_iconst (v := nI 0) hx hb dL_sound_1 (by decide +kernel) ?_
  refine lv_aload_n hx hb dL_sound_2 rfl (lv_at hl 0 rfl) ?_
  refine lv_iload_n hx hb dL_sound_3 rfl (lv_at hl 1 rfl) ?_
  refine lv_iload_n hx hb dL_sound_4 rfl (lv_at hl 2 rfl) ?_
  refine e_callVX (As := [.int x, .int y]) (rest := [.int (nI 0), .ref oq]) ⟨hx, hb, hml, hown, hts⟩ hK hX hP hD hS hA hl.1 (c_X4_sound_b1 l hlt E _ o ad wm st gr co hb_ mo ga ca ha_ ma sd tk op sp rc rn wa x y (by first | omega | assumption | rfl | (simp_all; done))) (cwV 2 hts gL_sound_X4_sound rfl rfl rfl (by decide +kernel) ⟨Nat.le_of_ble_eq_true rfl, Nat.le_of_ble_eq_true rfl⟩) [0, 1, 2, 3, 4, 5, 6, 7, 8, 9, 10, 11, 12, 13, 14, 15, 16, 17, 18, 19] [20] rfl rfl rfl rfl (by decide) (q0 := 0) (ci := 4) rfl rfl rfl rfl (Nat.le_of_ble_eq_true rfl) dL_sound_5 ⟨Nat.le_of_ble_eq_true rfl, Nat.le_of_ble_eq_true rfl⟩ (fun ce q9 H locs hsz1 hP hD hS hcell hvm hcl => ?_)
  have hP : va_P E.1 vwCl (wAll E o ad wm st gr co hb_ (nI mo) ga ca ha_ (nI ma) sd tk op sp rc rn wa ++ [(oq, .inl (E.2.2.2, 1, .inr (.inl lo)))]) H := hP.sub [1, 2, 3, 4, 5, 6, 7, 8, 9, 10, 11, 12, 13, 14, 15, 16, 17, 18, 19, 20, 0] rfl
  have hD : va_D A (wAll E o ad wm st gr co hb_ (nI mo) ga ca ha_ (nI ma) sd tk op sp rc rn wa ++ [(oq, .inl (E.2.2.2, 1, .inr (.inl lo)))]) := hD.sub [1, 2, 3, 4, 5, 6, 7, 8, 9, 10, 11, 12, 13, 14, 15, 16, 17, 18, 19, 20, 0] (by decide) rfl
  refine vx_catch (name := "java/lang/IndexOutOfBoundsException") (E := nX1) hown [] ⟨0, 10, 13, 13⟩ [] (htab.trans rfl) (fun _ h => nomatch h) (by decide +kernel) (by decide) hacl13 (va_Nw.use rfl hX.2.2.2.2.1) hcell hvm hcl ?_
  refine lv_astore (lv' := [(4, .ref q9), (0, .ref o), (1, .int x), (2, .int y), (3, .ref oq)]) hx hb dL_sound_13 hl (by decide) rfl (fun ls hl => ?_)
  refine lv_iconst (v := nI 1) hx hb dL_sound_15 (by decide +kernel) ?_
  exact e_iret () hQ hx hb hr hlocks hP hD hS dL_sound_16 (rfl) (Nat.le_of_ble_eq_true rfl) (Nat.le_of_ble_eq_true rfl) (trivial)

abbrev rm_L_chart : Room := { frames := 4, cells := 0, slots := 0, locals := 89 }
set_option maxHeartbeats 4000000 in
set_option maxRecDepth 100000 in
theorem c_L_chart (l : Launch) (hlt : l.stackTraces = false) (E : eT) (sz : Nat) (o : Nat) (ad : Nat → Nat) (wm : Nat → Int32) (st : Nat → Int32) (gr : Nat → Int32) (co : Nat → Int32) (hb_ : Nat → Bool) (mo : Nat) (ga : Nat → Int32) (ca : Nat → Int32) (ha_ : Nat → Bool) (ma : Nat) (sd : Nat → Int32) (tk : Nat → Int32) (op : Nat → Bool) (sp : Nat → Nat) (rc : Nat → Nat) (rn : Nat) (wa : Nat → Int32) (X : Nat) (Y : Nat) (k : Nat) (oq : Nat) (lo : Nat → Int64) (hX : X < 9) (hY : Y < 9) (hk : k < 3) : cMX l yL_chart wsL_chart rm_L_chart E sz [.ref o, .int (nI X), .int (nI Y), .int (nI k), .ref oq] (wAll E o ad wm st gr co hb_ (nI mo) ga ca ha_ (nI ma) sd tk op sp rc rn wa ++ [(oq, .inl (E.2.2.2, 1, .inr (.inl lo)))]) (fun u : Unit => some (.int (nI 0))) (fun u : Unit => True) (fun u : Unit => wAll E o ad wm st gr co hb_ (nI mo) ga ca ha_ (nI ma) sd tk op sp rc rn wa ++ [(oq, .inl (E.2.2.2, 1, .inr (.inl (vp_updL lo 0 ((chA sd tk (nI mo) ((9 * Y) + X) k).toInt64)))))]) := by
  refine cMX_introH (cc := cL_chart) (maxL := 6) (ret := (some .int)) (by decide +kernel) rfl (Nat.le_of_ble_eq_true rfl) ?_
  intro p e s m args below meth cd hx hb hr hml hown hlocks hts hnm htab hK hsz hP A hD hA hX Q hQ ls hl
  have hown : s.vm.findClass RL = some m.cls := hown
  have hS : va_S A s.heap s.heap [] := va_S.rf
  have hl : lv_has ls 6 [(0, .ref o), (1, .int (nI X)), (2, .int (nI Y)), (3, .int (nI k)), (4, .ref oq)] := hl
  refine lv_aload hx hb dL_chart_0 (lv_at hl 4 rfl) ?_
  refine lv_iconst (v := nI 0) hx hb dL_chart_2 (by decide +kernel) ?_
  refine lv_aload_n hx hb dL_chart_3 rfl (lv_at hl 0 rfl) ?_
  refine lv_iload_n hx hb dL_chart_4 rfl (lv_at hl 1 rfl) ?_
  refine lv_iload_n hx hb dL_chart_5 rfl (lv_at hl 2 rfl) ?_
  refine lv_iload_n hx hb dL_chart_6 rfl (lv_at hl 3 rfl) ?_
  refine e_callV (As := [.int (nI X), .int (nI Y), .int (nI k)]) (rest := [.int (nI 0), .ref oq]) ⟨hx, hb, hml, hown, hts⟩ hK hP hD hS hA hl.1 (c_X4_chart l E _ o ad wm st gr co hb_ mo ga ca ha_ ma sd tk op sp rc rn wa X Y k (by first | omega | assumption | rfl | (simp_all; done)) (by first | omega | assumption | rfl | (simp_all; done)) (by first | omega | assumption | rfl | (simp_all; done))) (cwV 3 hts gL_chart_X4_chart rfl rfl rfl (by decide +kernel) ⟨Nat.le_of_ble_eq_true rfl, Nat.le_of_ble_eq_true rfl⟩) [0, 1, 2, 3, 4, 5, 6, 7, 8, 9, 10, 11, 12, 13, 14, 15, 16, 17, 18, 19] [20] rfl rfl rfl rfl (by decide) (q0 := 0) (ci := 4) rfl rfl rfl rfl (Nat.le_of_ble_eq_true rfl) dL_chart_7 ⟨Nat.le_of_ble_eq_true rfl, Nat.le_of_ble_eq_true rfl⟩ (fun u_1 H locs hu_2 hsz1 hP hD hS => ?_)
  have hP : va_P E.1 vwCl (wAll E o ad wm st gr co hb_ (nI mo) ga ca ha_ (nI ma) sd tk op sp rc rn wa ++ [(oq, .inl (E.2.2.2, 1, .inr (.inl lo)))]) H := hP.sub [1, 2, 3, 4, 5, 6, 7, 8, 9, 10, 11, 12, 13, 14, 15, 16, 17, 18, 19, 20, 0] rfl
  have hD : va_D A (wAll E o ad wm st gr co hb_ (nI mo) ga ca ha_ (nI ma) sd tk op sp rc rn wa ++ [(oq, .inl (E.2.2.2, 1, .inr (.inl lo)))]) := hD.sub [1, 2, 3, 4, 5, 6, 7, 8, 9, 10, 11, 12, 13, 14, 15, 16, 17, 18, 19, 20, 0] (by decide) rfl
  refine W.eq (g2 := F0 m 10 ls [.int (chA sd tk (nI mo) ((9 * Y) + X) k), .int (nI 0), .ref oq]) rfl ?_
  refine lv_i2l hx hb dL_chart_10 rfl ?_
  refine e_last hK hP hD hS 20 rfl 0 (by omega) (by decide) hx hb dL_chart_11 (fun H locs hP hD hS => ?_)
  have hP : va_P E.1 vwCl (wAll E o ad wm st gr co hb_ (nI mo) ga ca ha_ (nI ma) sd tk op sp rc rn wa ++ [(oq, .inl (E.2.2.2, 1, .inr (.inl (vp_updL lo 0 ((chA sd tk (nI mo) ((9 * Y) + X) k).toInt64)))))]) H := hP
  have hD : va_D A (wAll E o ad wm st gr co hb_ (nI mo) ga ca ha_ (nI ma) sd tk op sp rc rn wa ++ [(oq, .inl (E.2.2.2, 1, .inr (.inl (vp_updL lo 0 ((chA sd tk (nI mo) ((9 * Y) + X) k).toInt64)))))]) := hD
  refine lv_goto (tgt := 19) hx hb dL_chart_12 (by decide) ?_
  refine lv_iconst (v := nI 0) hx hb dL_chart_19 (by decide +kernel) ?_
  exact e_iret () hQ hx hb hr hlocks hP hD hS dL_chart_20 (rfl) (Nat.le_of_ble_eq_true rfl) (Nat.le_of_ble_eq_true rfl) (trivial)

abbrev rm_L_chart_b1 : Room := { frames := 9, cells := 1, slots := 6, locals := 147 }
set_option maxHeartbeats 4000000 in
set_option maxRecDepth 100000 in
theorem c_L_chart_b1 (l : Launch) (hlt : l.stackTraces = false) (E : eT) (sz : Nat) (o : Nat) (ad : Nat → Nat) (wm : Nat → Int32) (st : Nat → Int32) (gr : Nat → Int32) (co : Nat → Int32) (hb_ : Nat → Bool) (mo : Nat) (ga : Nat → Int32) (ca : Nat → Int32) (ha_ : Nat → Bool) (ma : Nat) (sd : Nat → Int32) (tk : Nat → Int32) (op : Nat → Bool) (sp : Nat → Nat) (rc : Nat → Nat) (rn : Nat) (wa : Nat → Int32) (x : Int32) (y : Int32) (v : Int32) (oq : Nat) (lo : Nat → Int64) (hc : isCellB x y = false) : cMX l yL_chart wsL_chart rm_L_chart_b1 E sz [.ref o, .int x, .int y, .int v, .ref oq] (wAll E o ad wm st gr co hb_ (nI mo) ga ca ha_ (nI ma) sd tk op sp rc rn wa ++ [(oq, .inl (E.2.2.2, 1, .inr (.inl lo)))]) (fun u : Unit => some (.int (nI 1))) (fun u : Unit => True) (fun u : Unit => wAll E o ad wm st gr co hb_ (nI mo) ga ca ha_ (nI ma) sd tk op sp rc rn wa ++ [(oq, .inl (E.2.2.2, 1, .inr (.inl lo)))]) := by
  refine cMX_introH (cc := cL_chart) (maxL := 6) (ret := (some .int)) (by decide +kernel) rfl (Nat.le_of_ble_eq_true rfl) ?_
  intro p e s m args below meth cd hx hb hr hml hown hlocks hts hnm htab hK hsz hP A hD hA hX Q hQ ls hl
  have hown : s.vm.findClass RL = some m.cls := hown
  have hacl13 := hts (.classLink RL 13 "java/lang/IndexOutOfBoundsException") (by decide +kernel)
  have hS : va_S A s.heap s.heap [] := va_S.rf
  have hl : lv_has ls 6 [(0, .ref o), (1, .int x), (2, .int y), (3, .int v), (4, .ref oq)] := hl
  refine lv_aload hx hb dL_chart_0 (lv_at hl 4 rfl) ?_
  refine lv_iconst (v := nI 0) hx hb dL_chart_2 (by decide +kernel) ?_
  refine lv_aload_n hx hb dL_chart_3 rfl (lv_at hl 0 rfl) ?_
  refine lv_iload_n hx hb dL_chart_4 rfl (lv_at hl 1 rfl) ?_
  refine lv_iload_n hx hb dL_chart_5 rfl (lv_at hl 2 rfl) ?_
  refine lv_iload_n hx hb dL_chart_6 rfl (lv_at hl 3 rfl) ?_
  refine e_callVX (As := [.int x, .int y, .int v]) (rest := [.int (nI 0), .ref oq]) ⟨hx, hb, hml, hown, hts⟩ hK hX hP hD hS hA hl.1 (c_X4_chart_b1 l hlt E _ o ad wm st gr co hb_ mo ga ca ha_ ma sd tk op sp rc rn wa x y v (by first | omega | assumption | rfl | (simp_all; done))) (cwV 3 hts gL_chart_X4_chart rfl rfl rfl (by decide +kernel) ⟨Nat.le_of_ble_eq_true rfl, Nat.le_of_ble_eq_true rfl⟩) [0, 1, 2, 3, 4, 5, 6, 7, 8, 9, 10, 11, 12, 13, 14, 15, 16, 17, 18, 19] [20] rfl rfl rfl rfl (by decide) (q0 := 0) (ci := 4) rfl rfl rfl rfl (Nat.le_of_ble_eq_true rfl) dL_chart_7 ⟨Nat.le_of_ble_eq_true rfl, Nat.le_of_ble_eq_true rfl⟩ (fun ce q9 H locs hsz1 hP hD hS hcell hvm hcl => ?_)
  have hP : va_P E.1 vwCl (wAll E o ad wm st gr co hb_ (nI mo) ga ca ha_ (nI ma) sd tk op sp rc rn wa ++ [(oq, .inl (E.2.2.2, 1, .inr (.inl lo)))]) H := hP.sub [1, 2, 3, 4, 5, 6, 7, 8, 9, 10, 11, 12, 13, 14, 15, 16, 17, 18, 19, 20, 0] rfl
  have hD : va_D A (wAll E o ad wm st gr co hb_ (nI mo) ga ca ha_ (nI ma) sd tk op sp rc rn wa ++ [(oq, .inl (E.2.2.2, 1, .inr (.inl lo)))]) := hD.sub [1, 2, 3, 4, 5, 6, 7, 8, 9, 10, 11, 12, 13, 14, 15, 16, 17, 18, 19, 20, 0] (by decide) rfl
  refine vx_catch (name := "java/lang/IndexOutOfBoundsException") (E := nX1) hown [] ⟨0, 12, 15, 13⟩ [] (htab.trans rfl) (fun _ h => nomatch h) (by decide +kernel) (by decide) hacl13 (va_Nw.use rfl hX.2.2.2.2.1) hcell hvm hcl ?_
  refine lv_astore (lv' := [(5, .ref q9), (0, .ref o), (1, .int x), (2, .int y), (3, .int v), (4, .ref oq)]) hx hb dL_chart_15 hl (by decide) rfl (fun ls hl => ?_)
  refine lv_iconst (v := nI 1) hx hb dL_chart_17 (by decide +kernel) ?_
  exact e_iret () hQ hx hb hr hlocks hP hD hS dL_chart_18 (rfl) (Nat.le_of_ble_eq_true rfl) (Nat.le_of_ble_eq_true rfl) (trivial)

abbrev rm_L_chart_b2 : Room := { frames := 8, cells := 1, slots := 6, locals := 126 }
set_option maxHeartbeats 4000000 in
set_option maxRecDepth 100000 in
theorem c_L_chart_b2 (l : Launch) (hlt : l.stackTraces = false) (E : eT) (sz : Nat) (o : Nat) (ad : Nat → Nat) (wm : Nat → Int32) (st : Nat → Int32) (gr : Nat → Int32) (co : Nat → Int32) (hb_ : Nat → Bool) (mo : Nat) (ga : Nat → Int32) (ca : Nat → Int32) (ha_ : Nat → Bool) (ma : Nat) (sd : Nat → Int32) (tk : Nat → Int32) (op : Nat → Bool) (sp : Nat → Nat) (rc : Nat → Nat) (rn : Nat) (wa : Nat → Int32) (X : Nat) (Y : Nat) (v : Int32) (oq : Nat) (lo : Nat → Int64) (hX : X < 9) (hY : Y < 9) (hv : isInB v (nI 0) (nI 2) = false) : cMX l yL_chart wsL_chart rm_L_chart_b2 E sz [.ref o, .int (nI X), .int (nI Y), .int v, .ref oq] (wAll E o ad wm st gr co hb_ (nI mo) ga ca ha_ (nI ma) sd tk op sp rc rn wa ++ [(oq, .inl (E.2.2.2, 1, .inr (.inl lo)))]) (fun u : Unit => some (.int (nI 1))) (fun u : Unit => True) (fun u : Unit => wAll E o ad wm st gr co hb_ (nI mo) ga ca ha_ (nI ma) sd tk op sp rc rn wa ++ [(oq, .inl (E.2.2.2, 1, .inr (.inl lo)))]) := by
  refine cMX_introH (cc := cL_chart) (maxL := 6) (ret := (some .int)) (by decide +kernel) rfl (Nat.le_of_ble_eq_true rfl) ?_
  intro p e s m args below meth cd hx hb hr hml hown hlocks hts hnm htab hK hsz hP A hD hA hX Q hQ ls hl
  have hown : s.vm.findClass RL = some m.cls := hown
  have hacl13 := hts (.classLink RL 13 "java/lang/IndexOutOfBoundsException") (by decide +kernel)
  have hS : va_S A s.heap s.heap [] := va_S.rf
  have hl : lv_has ls 6 [(0, .ref o), (1, .int (nI X)), (2, .int (nI Y)), (3, .int v), (4, .ref oq)] := hl
  refine lv_aload hx hb dL_chart_0 (lv_at hl 4 rfl) ?_
  refine lv_iconst (v := nI 0) hx hb dL_chart_2 (by decide +kernel) ?_
  refine lv_aload_n hx hb dL_chart_3 rfl (lv_at hl 0 rfl) ?_
  refine lv_iload_n hx hb dL_chart_4 rfl (lv_at hl 1 rfl) ?_
  refine lv_iload_n hx hb dL_chart_5 rfl (lv_at hl 2 rfl) ?_
  refine lv_iload_n hx hb dL_chart_6 rfl (lv_at hl 3 rfl) ?_
  refine e_callVX (As := [.int (nI X), .int (nI Y), .int v]) (rest := [.int (nI 0), .ref oq]) ⟨hx, hb, hml, hown, hts⟩ hK hX hP hD hS hA hl.1 (c_X4_chart_b2 l hlt E _ o ad wm st gr co hb_ mo ga ca ha_ ma sd tk op sp rc rn wa X Y v (by first | omega | assumption | rfl | (simp_all; done)) (by first | omega | assumption | rfl | (simp_all; done)) (by first | omega | assumption | rfl | (simp_all; done))) (cwV 3 hts gL_chart_X4_chart rfl rfl rfl (by decide +kernel) ⟨Nat.le_of_ble_eq_true rfl, Nat.le_of_ble_eq_true rfl⟩) [0, 1, 2, 3, 4, 5, 6, 7, 8, 9, 10, 11, 12, 13, 14, 15, 16, 17, 18, 19] [20] rfl rfl rfl rfl (by decide) (q0 := 0) (ci := 4) rfl rfl rfl rfl (Nat.le_of_ble_eq_true rfl) dL_chart_7 ⟨Nat.le_of_ble_eq_true rfl, Nat.le_of_ble_eq_true rfl⟩ (fun ce q9 H locs hsz1 hP hD hS hcell hvm hcl => ?_)
  have hP : va_P E.1 vwCl (wAll E o ad wm st gr co hb_ (nI mo) ga ca ha_ (nI ma) sd tk op sp rc rn wa ++ [(oq, .inl (E.2.2.2, 1, .inr (.inl lo)))]) H := hP.sub [1, 2, 3, 4, 5, 6, 7, 8, 9, 10, 11, 12, 13, 14, 15, 16, 17, 18, 19, 20, 0] rfl
  have hD : va_D A (wAll E o ad wm st gr co hb_ (nI mo) ga ca ha_ (nI ma) sd tk op sp rc rn wa ++ [(oq, .inl (E.2.2.2, 1, .inr (.inl lo)))]) := hD.sub [1, 2, 3, 4, 5, 6, 7, 8, 9, 10, 11, 12, 13, 14, 15, 16, 17, 18, 19, 20, 0] (by decide) rfl
  refine vx_catch (name := "java/lang/IndexOutOfBoundsException") (E := nX1) hown [] ⟨0, 12, 15, 13⟩ [] (htab.trans rfl) (fun _ h => nomatch h) (by decide +kernel) (by decide) hacl13 (va_Nw.use rfl hX.2.2.2.2.1) hcell hvm hcl ?_
  refine lv_astore (lv' := [(5, .ref q9), (0, .ref o), (1, .int (nI X)), (2, .int (nI Y)), (3, .int v), (4, .ref oq)]) hx hb dL_chart_15 hl (by decide) rfl (fun ls hl => ?_)
  refine lv_iconst (v := nI 1) hx hb dL_chart_17 (by decide +kernel) ?_
  exact e_iret () hQ hx hb hr hlocks hP hD hS dL_chart_18 (rfl) (Nat.le_of_ble_eq_true rfl) (Nat.le_of_ble_eq_true rfl) (trivial)

abbrev rm_L_way : Room := { frames := 5, cells := 0, slots := 0, locals := 117 }
set_option maxHeartbeats 4000000 in
set_option maxRecDepth 100000 in
theorem c_L_way (l : Launch) (hlt : l.stackTraces = false) (E : eT) (sz : Nat) (o : Nat) (ad : Nat → Nat) (wm : Nat → Int32) (st : Nat → Int32) (gr : Nat → Int32) (co : Nat → Int32) (hb_ : Nat → Bool) (mo : Nat) (ga : Nat → Int32) (ca : Nat → Int32) (ha_ : Nat → Bool) (ma : Nat) (sd : Nat → Int32) (tk : Nat → Int32) (op : Nat → Bool) (sp : Nat → Nat) (rc : Nat → Nat) (rn : Nat) (wa : Nat → Int32) (dr : Int32) (v : Bool) (oq : Nat) (lo : Nat → Int64) (hdr : isInB dr (nI 0) (nI 39) = true) : cMX l yL_way wsL_way rm_L_way E sz [.ref o, .int dr, .int (b2i v), .ref oq] (wAll E o ad wm st gr co hb_ (nI mo) ga ca ha_ (nI ma) sd tk op sp rc rn wa ++ [(oq, .inl (E.2.2.2, 1, .inr (.inl lo)))]) (fun u : (Nat → Bool) × (Nat → Nat) × (Nat → Nat) × (Nat) × (Nat → Int32) => some (.int (nI 0))) (fun u : (Nat → Bool) × (Nat → Nat) × (Nat → Nat) × (Nat) × (Nat → Int32) => True) (fun u : (Nat → Bool) × (Nat → Nat) × (Nat → Nat) × (Nat) × (Nat → Int32) => wAll E o ad wm st gr co hb_ (nI mo) ga ca ha_ (nI ma) sd tk u.1 u.2.1 u.2.2.1 u.2.2.2.1 u.2.2.2.2 ++ [(oq, .inl (E.2.2.2, 1, .inr (.inl (vp_updL lo 0 ((wayN (if v = true then chSafe sd tk (nI mo) else dep gr co) dr).toInt64)))))]) := by
  refine cMX_introH (cc := cL_way) (maxL := 5) (ret := (some .int)) (by decide +kernel) rfl (Nat.le_of_ble_eq_true rfl) ?_
  intro p e s m args below meth cd hx hb hr hml hown hlocks hts hnm htab hK hsz hP A hD hA hX Q hQ ls hl
  have hown : s.vm.findClass RL = some m.cls := hown
  have hS : va_S A s.heap s.heap [] := va_S.rf
  have hl : lv_has ls 5 [(0, .ref o), (1, .int dr), (2, .int (b2i v)), (3, .ref oq)] := hl
  refine lv_aload_n hx hb dL_way_0 rfl (lv_at hl 3 rfl) ?_
  refine lv_iconst (v := nI 0) hx hb dL_way_1 (by decide +kernel) ?_
  refine lv_aload_n hx hb dL_way_2 rfl (lv_at hl 0 rfl) ?_
  refine lv_iload_n hx hb dL_way_3 rfl (lv_at hl 1 rfl) ?_
  refine lv_iload_n hx hb dL_way_4 rfl (lv_at hl 2 rfl) ?_
  refine e_callV (As := [.int dr, .int (b2i v)]) (rest := [.int (nI 0), .ref oq]) ⟨hx, hb, hml, hown, hts⟩ hK hP hD hS hA hl.1 (c_X4_way l E _ o ad wm st gr co hb_ mo ga ca ha_ ma sd tk op sp rc rn wa dr v (by first | omega | assumption | rfl | (simp_all; done))) (cwV 2 hts gL_way_X4_way rfl rfl rfl (by decide +kernel) ⟨Nat.le_of_ble_eq_true rfl, Nat.le_of_ble_eq_true rfl⟩) [0, 1, 2, 3, 4, 5, 6, 7, 8, 9, 10, 11, 12, 13, 14, 15, 16, 17, 18, 19] [20] rfl rfl rfl rfl (by decide) (q0 := 0) (ci := 4) rfl rfl rfl rfl (Nat.le_of_ble_eq_true rfl) dL_way_5 ⟨Nat.le_of_ble_eq_true rfl, Nat.le_of_ble_eq_true rfl⟩ (fun u_1 H locs hu_2 hsz1 hP hD hS => ?_)
  obtain ⟨op__3, sp__4, rc__5, rn__6, wa__7⟩ := u_1
  have hP : va_P E.1 vwCl (wAll E o ad wm st gr co hb_ (nI mo) ga ca ha_ (nI ma) sd tk op__3 sp__4 rc__5 rn__6 wa__7 ++ [(oq, .inl (E.2.2.2, 1, .inr (.inl lo)))]) H := hP.sub [1, 2, 3, 4, 5, 6, 7, 8, 9, 10, 11, 12, 13, 14, 15, 16, 17, 18, 19, 20, 0] rfl
  have hD : va_D A (wAll E o ad wm st gr co hb_ (nI mo) ga ca ha_ (nI ma) sd tk op__3 sp__4 rc__5 rn__6 wa__7 ++ [(oq, .inl (E.2.2.2, 1, .inr (.inl lo)))]) := hD.sub [1, 2, 3, 4, 5, 6, 7, 8, 9, 10, 11, 12, 13, 14, 15, 16, 17, 18, 19, 20, 0] (by decide) rfl
  refine W.eq (g2 := F0 m 8 ls [.int (wayN (if v = true then chSafe sd tk (nI mo) else dep gr co) dr), .int (nI 0), .ref oq]) rfl ?_
  refine lv_i2l hx hb dL_way_8 rfl ?_
  refine e_last hK hP hD hS 20 rfl 0 (by omega) (by decide) hx hb dL_way_9 (fun H locs hP hD hS => ?_)
  have hP : va_P E.1 vwCl (wAll E o ad wm st gr co hb_ (nI mo) ga ca ha_ (nI ma) sd tk op__3 sp__4 rc__5 rn__6 wa__7 ++ [(oq, .inl (E.2.2.2, 1, .inr (.inl (vp_updL lo 0 ((wayN (if v = true then chSafe sd tk (nI mo) else dep gr co) dr).toInt64)))))]) H := hP
  have hD : va_D A (wAll E o ad wm st gr co hb_ (nI mo) ga ca ha_ (nI ma) sd tk op__3 sp__4 rc__5 rn__6 wa__7 ++ [(oq, .inl (E.2.2.2, 1, .inr (.inl (vp_updL lo 0 ((wayN (if v = true then chSafe sd tk (nI mo) else dep gr co) dr).toInt64)))))]) := hD
  refine lv_goto (tgt := 17) hx hb dL_way_10 (by decide) ?_
  refine lv_iconst (v := nI 0) hx hb dL_way_17 (by decide +kernel) ?_
  exact e_iret (op__3, sp__4, rc__5, rn__6, wa__7) hQ hx hb hr hlocks hP hD hS dL_way_18 (rfl) (Nat.le_of_ble_eq_true rfl) (Nat.le_of_ble_eq_true rfl) (trivial)

abbrev rm_L_way_b1 : Room := { frames := 8, cells := 1, slots := 6, locals := 127 }
set_option maxHeartbeats 4000000 in
set_option maxRecDepth 100000 in
theorem c_L_way_b1 (l : Launch) (hlt : l.stackTraces = false) (E : eT) (sz : Nat) (o : Nat) (ad : Nat → Nat) (wm : Nat → Int32) (st : Nat → Int32) (gr : Nat → Int32) (co : Nat → Int32) (hb_ : Nat → Bool) (mo : Nat) (ga : Nat → Int32) (ca : Nat → Int32) (ha_ : Nat → Bool) (ma : Nat) (sd : Nat → Int32) (tk : Nat → Int32) (op : Nat → Bool) (sp : Nat → Nat) (rc : Nat → Nat) (rn : Nat) (wa : Nat → Int32) (dr : Int32) (v : Bool) (oq : Nat) (lo : Nat → Int64) (hdr : isInB dr (nI 0) (nI 39) = false) : cMX l yL_way wsL_way rm_L_way_b1 E sz [.ref o, .int dr, .int (b2i v), .ref oq] (wAll E o ad wm st gr co hb_ (nI mo) ga ca ha_ (nI ma) sd tk op sp rc rn wa ++ [(oq, .inl (E.2.2.2, 1, .inr (.inl lo)))]) (fun u : Unit => some (.int (nI 1))) (fun u : Unit => True) (fun u : Unit => wAll E o ad wm st gr co hb_ (nI mo) ga ca ha_ (nI ma) sd tk op sp rc rn wa ++ [(oq, .inl (E.2.2.2, 1, .inr (.inl lo)))]) := by
  refine cMX_introH (cc := cL_way) (maxL := 5) (ret := (some .int)) (by decide +kernel) rfl (Nat.le_of_ble_eq_true rfl) ?_
  intro p e s m args below meth cd hx hb hr hml hown hlocks hts hnm htab hK hsz hP A hD hA hX Q hQ ls hl
  have hown : s.vm.findClass RL = some m.cls := hown
  have hacl15 := hts (.classLink RL 15 "java/lang/IllegalArgumentException") (by decide +kernel)
  have hS : va_S A s.heap s.heap [] := va_S.rf
  have hl : lv_has ls 5 [(0, .ref o), (1, .int dr), (2, .int (b2i v)), (3, .ref oq)] := hl
  refine lv_aload_n hx hb dL_way_0 rfl (lv_at hl 3 rfl) ?_
  refine lv_iconst (v := nI 0) hx hb dL_way_1 (by decide +kernel) ?_
  refine lv_aload_n hx hb dL_way_2 rfl (lv_at hl 0 rfl) ?_
  refine lv_iload_n hx hb dL_way_3 rfl (lv_at hl 1 rfl) ?_
  refine lv_iload_n hx hb dL_way_4 rfl (lv_at hl 2 rfl) ?_
  refine e_callVX (As := [.int dr, .int (b2i v)]) (rest := [.int (nI 0), .ref oq]) ⟨hx, hb, hml, hown, hts⟩ hK hX hP hD hS hA hl.1 (c_X4_way_b1 l hlt E _ o ad wm st gr co hb_ mo ga ca ha_ ma sd tk op sp rc rn wa dr v (by first | omega | assumption | rfl | (simp_all; done))) (cwV 2 hts gL_way_X4_way rfl rfl rfl (by decide +kernel) ⟨Nat.le_of_ble_eq_true rfl, Nat.le_of_ble_eq_true rfl⟩) [0, 1, 2, 3, 4, 5, 6, 7, 8, 9, 10, 11, 12, 13, 14, 15, 16, 17, 18, 19] [20] rfl rfl rfl rfl (by decide) (q0 := 0) (ci := 4) rfl rfl rfl rfl (Nat.le_of_ble_eq_true rfl) dL_way_5 ⟨Nat.le_of_ble_eq_true rfl, Nat.le_of_ble_eq_true rfl⟩ (fun ce q9 H locs hsz1 hP hD hS hcell hvm hcl => ?_)
  have hP : va_P E.1 vwCl (wAll E o ad wm st gr co hb_ (nI mo) ga ca ha_ (nI ma) sd tk op sp rc rn wa ++ [(oq, .inl (E.2.2.2, 1, .inr (.inl lo)))]) H := hP.sub [1, 2, 3, 4, 5, 6, 7, 8, 9, 10, 11, 12, 13, 14, 15, 16, 17, 18, 19, 20, 0] rfl
  have hD : va_D A (wAll E o ad wm st gr co hb_ (nI mo) ga ca ha_ (nI ma) sd tk op sp rc rn wa ++ [(oq, .inl (E.2.2.2, 1, .inr (.inl lo)))]) := hD.sub [1, 2, 3, 4, 5, 6, 7, 8, 9, 10, 11, 12, 13, 14, 15, 16, 17, 18, 19, 20, 0] (by decide) rfl
  refine vx_catch (name := "java/lang/IllegalArgumentException") (E := nX2) hown [] ⟨0, 10, 13, 15⟩ [] (htab.trans rfl) (fun _ h => nomatch h) (by decide +kernel) (by decide) hacl15 (va_Nw.use rfl hX.2.2.2.2.2.1) hcell hvm hcl ?_
  refine lv_astore (lv' := [(4, .ref q9), (0, .ref o), (1, .int dr), (2, .int (b2i v)), (3, .ref oq)]) hx hb dL_way_13 hl (by decide) rfl (fun ls hl => ?_)
  refine lv_iconst (v := nI 1) hx hb dL_way_15 (by decide +kernel) ?_
  exact e_iret () hQ hx hb hr hlocks hP hD hS dL_way_16 (rfl) (Nat.le_of_ble_eq_true rfl) (Nat.le_of_ble_eq_true rfl) (trivial)

abbrev rm_L_harbours : Room := { frames := 5, cells := 0, slots := 0, locals := 109 }
set_option maxHeartbeats 4000000 in
set_option maxRecDepth 100000 in
theorem c_L_harbours (l : Launch) (hlt : l.stackTraces = false) (E : eT) (sz : Nat) (o : Nat) (ad : Nat → Nat) (wm : Nat → Int32) (st : Nat → Int32) (gr : Nat → Int32) (co : Nat → Int32) (hb_ : Nat → Bool) (mo : Nat) (ga : Nat → Int32) (ca : Nat → Int32) (ha_ : Nat → Bool) (ma : Nat) (sd : Nat → Int32) (tk : Nat → Int32) (op : Nat → Bool) (sp : Nat → Nat) (rc : Nat → Nat) (rn : Nat) (wa : Nat → Int32) (dr : Int32) (oq : Nat) (lo : Nat → Int64) (hdr : isInB dr (nI 0) (nI 39) = true) : cMX l yL_harbours wsL_harbours rm_L_harbours E sz [.ref o, .int dr, .ref oq] (wAll E o ad wm st gr co hb_ (nI mo) ga ca ha_ (nI ma) sd tk op sp rc rn wa ++ [(oq, .inl (E.2.2.2, 1, .inr (.inl lo)))]) (fun u : (Nat → Bool) × (Nat → Nat) × (Nat → Nat) × (Nat) × (Nat → Int32) => some (.int (nI 0))) (fun u : (Nat → Bool) × (Nat → Nat) × (Nat → Nat) × (Nat) × (Nat → Int32) => True) (fun u : (Nat → Bool) × (Nat → Nat) × (Nat → Nat) × (Nat) × (Nat → Int32) => wAll E o ad wm st gr co hb_ (nI mo) ga ca ha_ (nI ma) sd tk u.1 u.2.1 u.2.2.1 u.2.2.2.1 u.2.2.2.2 ++ [(oq, .inl (E.2.2.2, 1, .inr (.inl (vp_updL lo 0 ((nI (harbN (dep gr co) dr)).toInt64)))))]) := by
  refine cMX_introH (cc := cL_harbours) (maxL := 4) (ret := (some .int)) (by decide +kernel) rfl (Nat.le_of_ble_eq_true rfl) ?_
  intro p e s m args below meth cd hx hb hr hml hown hlocks hts hnm htab hK hsz hP A hD hA hX Q hQ ls hl
  have hown : s.vm.findClass RL = some m.cls := hown
  have hS : va_S A s.heap s.heap [] := va_S.rf
  have hl : lv_has ls 4 [(0, .ref o), (1, .int dr), (2, .ref oq)] := hl
  refine lv_aload_n hx hb dL_harbours_0 rfl (lv_at hl 2 rfl) ?_
  refine lv_iconst (v := nI 0) hx hb dL_harbours_1 (by decide +kernel) ?_
  refine lv_aload_n hx hb dL_harbours_2 rfl (lv_at hl 0 rfl) ?_
  refine lv_iload_n hx hb dL_harbours_3 rfl (lv_at hl 1 rfl) ?_
  refine e_callV (As := [.int dr]) (rest := [.int (nI 0), .ref oq]) ⟨hx, hb, hml, hown, hts⟩ hK hP hD hS hA hl.1 (c_X4_harbours l E _ o ad wm st gr co hb_ mo ga ca ha_ ma sd tk op sp rc rn wa dr (by first | omega | assumption | rfl | (simp_all; done))) (cwV 1 hts gL_harbours_X4_harbours rfl rfl rfl (by decide +kernel) ⟨Nat.le_of_ble_eq_true rfl, Nat.le_of_ble_eq_true rfl⟩) [0, 1, 2, 3, 4, 5, 6, 7, 8, 9, 10, 11, 12, 13, 14, 15, 16, 17, 18, 19] [20] rfl rfl rfl rfl (by decide) (q0 := 0) (ci := 4) rfl rfl rfl rfl (Nat.le_of_ble_eq_true rfl) dL_harbours_4 ⟨Nat.le_of_ble_eq_true rfl, Nat.le_of_ble_eq_true rfl⟩ (fun u_1 H locs hu_2 hsz1 hP hD hS => ?_)
  obtain ⟨op__3, sp__4, rc__5, rn__6, wa__7⟩ := u_1
  have hP : va_P E.1 vwCl (wAll E o ad wm st gr co hb_ (nI mo) ga ca ha_ (nI ma) sd tk op__3 sp__4 rc__5 rn__6 wa__7 ++ [(oq, .inl (E.2.2.2, 1, .inr (.inl lo)))]) H := hP.sub [1, 2, 3, 4, 5, 6, 7, 8, 9, 10, 11, 12, 13, 14, 15, 16, 17, 18, 19, 20, 0] rfl
  have hD : va_D A (wAll E o ad wm st gr co hb_ (nI mo) ga ca ha_ (nI ma) sd tk op__3 sp__4 rc__5 rn__6 wa__7 ++ [(oq, .inl (E.2.2.2, 1, .inr (.inl lo)))]) := hD.sub [1, 2, 3, 4, 5, 6, 7, 8, 9, 10, 11, 12, 13, 14, 15, 16, 17, 18, 19, 20, 0] (by decide) rfl
  refine W.eq (g2 := F0 m 7 ls [.int (nI (harbN (dep gr co) dr)), .int (nI 0), .ref oq]) rfl ?_
  refine lv_i2l hx hb dL_harbours_7 rfl ?_
  refine e_last hK hP hD hS 20 rfl 0 (by omega) (by decide) hx hb dL_harbours_8 (fun H locs hP hD hS => ?_)
  have hP : va_P E.1 vwCl (wAll E o ad wm st gr co hb_ (nI mo) ga ca ha_ (nI ma) sd tk op__3 sp__4 rc__5 rn__6 wa__7 ++ [(oq, .inl (E.2.2.2, 1, .inr (.inl (vp_updL lo 0 ((nI (harbN (dep gr co) dr)).toInt64)))))]) H := hP
  have hD : va_D A (wAll E o ad wm st gr co hb_ (nI mo) ga ca ha_ (nI ma) sd tk op__3 sp__4 rc__5 rn__6 wa__7 ++ [(oq, .inl (E.2.2.2, 1, .inr (.inl (vp_updL lo 0 ((nI (harbN (dep gr co) dr)).toInt64)))))]) := hD
  refine lv_goto (tgt := 15) hx hb dL_harbours_9 (by decide) ?_
  refine lv_iconst (v := nI 0) hx hb dL_harbours_15 (by decide +kernel) ?_
  exact e_iret (op__3, sp__4, rc__5, rn__6, wa__7) hQ hx hb hr hlocks hP hD hS dL_harbours_16 (rfl) (Nat.le_of_ble_eq_true rfl) (Nat.le_of_ble_eq_true rfl) (trivial)

abbrev rm_L_harbours_b1 : Room := { frames := 8, cells := 1, slots := 6, locals := 127 }
set_option maxHeartbeats 4000000 in
set_option maxRecDepth 100000 in
theorem c_L_harbours_b1 (l : Launch) (hlt : l.stackTraces = false) (E : eT) (sz : Nat) (o : Nat) (ad : Nat → Nat) (wm : Nat → Int32) (st : Nat → Int32) (gr : Nat → Int32) (co : Nat → Int32) (hb_ : Nat → Bool) (mo : Nat) (ga : Nat → Int32) (ca : Nat → Int32) (ha_ : Nat → Bool) (ma : Nat) (sd : Nat → Int32) (tk : Nat → Int32) (op : Nat → Bool) (sp : Nat → Nat) (rc : Nat → Nat) (rn : Nat) (wa : Nat → Int32) (dr : Int32) (oq : Nat) (lo : Nat → Int64) (hdr : isInB dr (nI 0) (nI 39) = false) : cMX l yL_harbours wsL_harbours rm_L_harbours_b1 E sz [.ref o, .int dr, .ref oq] (wAll E o ad wm st gr co hb_ (nI mo) ga ca ha_ (nI ma) sd tk op sp rc rn wa ++ [(oq, .inl (E.2.2.2, 1, .inr (.inl lo)))]) (fun u : Unit => some (.int (nI 1))) (fun u : Unit => True) (fun u : Unit => wAll E o ad wm st gr co hb_ (nI mo) ga ca ha_ (nI ma) sd tk op sp rc rn wa ++ [(oq, .inl (E.2.2.2, 1, .inr (.inl lo)))]) := by
  refine cMX_introH (cc := cL_harbours) (maxL := 4) (ret := (some .int)) (by decide +kernel) rfl (Nat.le_of_ble_eq_true rfl) ?_
  intro p e s m args below meth cd hx hb hr hml hown hlocks hts hnm htab hK hsz hP A hD hA hX Q hQ ls hl
  have hown : s.vm.findClass RL = some m.cls := hown
  have hacl15 := hts (.classLink RL 15 "java/lang/IllegalArgumentException") (by decide +kernel)
  have hS : va_S A s.heap s.heap [] := va_S.rf
  have hl : lv_has ls 4 [(0, .ref o), (1, .int dr), (2, .ref oq)] := hl
  refine lv_aload_n hx hb dL_harbours_0 rfl (lv_at hl 2 rfl) ?_
  refine lv_iconst (v := nI 0) hx hb dL_harbours_1 (by decide +kernel) ?_
  refine lv_aload_n hx hb dL_harbours_2 rfl (lv_at hl 0 rfl) ?_
  refine lv_iload_n hx hb dL_harbours_3 rfl (lv_at hl 1 rfl) ?_
  refine e_callVX (As := [.int dr]) (rest := [.int (nI 0), .ref oq]) ⟨hx, hb, hml, hown, hts⟩ hK hX hP hD hS hA hl.1 (c_X4_harbours_b1 l hlt E _ o ad wm st gr co hb_ mo ga ca ha_ ma sd tk op sp rc rn wa dr (by first | omega | assumption | rfl | (simp_all; done))) (cwV 1 hts gL_harbours_X4_harbours rfl rfl rfl (by decide +kernel) ⟨Nat.le_of_ble_eq_true rfl, Nat.le_of_ble_eq_true rfl⟩) [0, 1, 2, 3, 4, 5, 6, 7, 8, 9, 10, 11, 12, 13, 14, 15, 16, 17, 18, 19] [20] rfl rfl rfl rfl (by decide) (q0 := 0) (ci := 4) rfl rfl rfl rfl (Nat.le_of_ble_eq_true rfl) dL_harbours_4 ⟨Nat.le_of_ble_eq_true rfl, Nat.le_of_ble_eq_true rfl⟩ (fun ce q9 H locs hsz1 hP hD hS hcell hvm hcl => ?_)
  have hP : va_P E.1 vwCl (wAll E o ad wm st gr co hb_ (nI mo) ga ca ha_ (nI ma) sd tk op sp rc rn wa ++ [(oq, .inl (E.2.2.2, 1, .inr (.inl lo)))]) H := hP.sub [1, 2, 3, 4, 5, 6, 7, 8, 9, 10, 11, 12, 13, 14, 15, 16, 17, 18, 19, 20, 0] rfl
  have hD : va_D A (wAll E o ad wm st gr co hb_ (nI mo) ga ca ha_ (nI ma) sd tk op sp rc rn wa ++ [(oq, .inl (E.2.2.2, 1, .inr (.inl lo)))]) := hD.sub [1, 2, 3, 4, 5, 6, 7, 8, 9, 10, 11, 12, 13, 14, 15, 16, 17, 18, 19, 20, 0] (by decide) rfl
  refine vx_catch (name := "java/lang/IllegalArgumentException") (E := nX2) hown [] ⟨0, 9, 12, 15⟩ [] (htab.trans rfl) (fun _ h => nomatch h) (by decide +kernel) (by decide) hacl15 (va_Nw.use rfl hX.2.2.2.2.2.1) hcell hvm hcl ?_
  refine lv_astore_n (lv' := [(3, .ref q9), (0, .ref o), (1, .int dr), (2, .ref oq)]) hx hb dL_harbours_12 rfl hl (by decide) rfl (fun ls hl => ?_)
  refine lv_iconst (v := nI 1) hx hb dL_harbours_13 (by decide +kernel) ?_
  exact e_iret () hQ hx hb hr hlocks hP hD hS dL_harbours_14 (rfl) (Nat.le_of_ble_eq_true rfl) (Nat.le_of_ble_eq_true rfl) (trivial)

abbrev rm_L_pilot : Room := { frames := 5, cells := 0, slots := 0, locals := 116 }
set_option maxHeartbeats 4000000 in
set_option maxRecDepth 100000 in
theorem c_L_pilot (l : Launch) (hlt : l.stackTraces = false) (E : eT) (sz : Nat) (o : Nat) (ad : Nat → Nat) (wm : Nat → Int32) (st : Nat → Int32) (gr : Nat → Int32) (co : Nat → Int32) (hb_ : Nat → Bool) (mo : Nat) (ga : Nat → Int32) (ca : Nat → Int32) (ha_ : Nat → Bool) (ma : Nat) (sd : Nat → Int32) (tk : Nat → Int32) (op : Nat → Bool) (sp : Nat → Nat) (rc : Nat → Nat) (rn : Nat) (wa : Nat → Int32) (dr : Int32) (oq : Nat) (lo : Nat → Int64) (hdr : isInB dr (nI 0) (nI 39) = true) : cMX l yL_pilot wsL_pilot rm_L_pilot E sz [.ref o, .int dr, .ref oq] (wAll E o ad wm st gr co hb_ (nI mo) ga ca ha_ (nI ma) sd tk op sp rc rn wa ++ [(oq, .inl (E.2.2.2, 1, .inr (.inl lo)))]) (fun u : (Nat → Bool) × (Nat → Nat) × (Nat → Nat) × (Nat) × (Nat → Int32) => some (.int (nI 0))) (fun u : (Nat → Bool) × (Nat → Nat) × (Nat → Nat) × (Nat) × (Nat → Int32) => True) (fun u : (Nat → Bool) × (Nat → Nat) × (Nat → Nat) × (Nat) × (Nat → Int32) => wAll E o ad wm st gr co hb_ (nI mo) ga ca ha_ (nI ma) sd tk u.1 u.2.1 u.2.2.1 u.2.2.2.1 u.2.2.2.2 ++ [(oq, .inl (E.2.2.2, 1, .inr (.inl (vp_updL lo 0 ((pilotN (chSafe sd tk (nI mo)) (dep gr co) dr).toInt64)))))]) := by
  refine cMX_introH (cc := cL_pilot) (maxL := 4) (ret := (some .int)) (by decide +kernel) rfl (Nat.le_of_ble_eq_true rfl) ?_
  intro p e s m args below meth cd hx hb hr hml hown hlocks hts hnm htab hK hsz hP A hD hA hX Q hQ ls hl
  have hown : s.vm.findClass RL = some m.cls := hown
  have hS : va_S A s.heap s.heap [] := va_S.rf
  have hl : lv_has ls 4 [(0, .ref o), (1, .int dr), (2, .ref oq)] := hl
  refine lv_aload_n hx hb dL_pilot_0 rfl (lv_at hl 2 rfl) ?_
  refine lv_iconst (v := nI 0) hx hb dL_pilot_1 (by decide +kernel) ?_
  refine lv_aload_n hx hb dL_pilot_2 rfl (lv_at hl 0 rfl) ?_
  refine lv_iload_n hx hb dL_pilot_3 rfl (lv_at hl 1 rfl) ?_
  refine e_callV (As := [.int dr]) (rest := [.int (nI 0), .ref oq]) ⟨hx, hb, hml, hown, hts⟩ hK hP hD hS hA hl.1 (c_X4_pilot l E _ o ad wm st gr co hb_ mo ga ca ha_ ma sd tk op sp rc rn wa dr (by first | omega | assumption | rfl | (simp_all; done))) (cwV 1 hts gL_pilot_X4_pilot rfl rfl rfl (by decide +kernel) ⟨Nat.le_of_ble_eq_true rfl, Nat.le_of_ble_eq_true rfl⟩) [0, 1, 2, 3, 4, 5, 6, 7, 8, 9, 10, 11, 12, 13, 14, 15, 16, 17, 18, 19] [20] rfl rfl rfl rfl (by decide) (q0 := 0) (ci := 4) rfl rfl rfl rfl (Nat.le_of_ble_eq_true rfl) dL_pilot_4 ⟨Nat.le_of_ble_eq_true rfl, Nat.le_of_ble_eq_true rfl⟩ (fun u_1 H locs hu_2 hsz1 hP hD hS => ?_)
  obtain ⟨op__3, sp__4, rc__5, rn__6, wa__7⟩ := u_1
  have hP : va_P E.1 vwCl (wAll E o ad wm st gr co hb_ (nI mo) ga ca ha_ (nI ma) sd tk op__3 sp__4 rc__5 rn__6 wa__7 ++ [(oq, .inl (E.2.2.2, 1, .inr (.inl lo)))]) H := hP.sub [1, 2, 3, 4, 5, 6, 7, 8, 9, 10, 11, 12, 13, 14, 15, 16, 17, 18, 19, 20, 0] rfl
  have hD : va_D A (wAll E o ad wm st gr co hb_ (nI mo) ga ca ha_ (nI ma) sd tk op__3 sp__4 rc__5 rn__6 wa__7 ++ [(oq, .inl (E.2.2.2, 1, .inr (.inl lo)))]) := hD.sub [1, 2, 3, 4, 5, 6, 7, 8, 9, 10, 11, 12, 13, 14, 15, 16, 17, 18, 19, 20, 0] (by decide) rfl
  refine W.eq (g2 := F0 m 7 ls [.int (pilotN (chSafe sd tk (nI mo)) (dep gr co) dr), .int (nI 0), .ref oq]) rfl ?_
  refine lv_i2l hx hb dL_pilot_7 rfl ?_
  refine e_last hK hP hD hS 20 rfl 0 (by omega) (by decide) hx hb dL_pilot_8 (fun H locs hP hD hS => ?_)
  have hP : va_P E.1 vwCl (wAll E o ad wm st gr co hb_ (nI mo) ga ca ha_ (nI ma) sd tk op__3 sp__4 rc__5 rn__6 wa__7 ++ [(oq, .inl (E.2.2.2, 1, .inr (.inl (vp_updL lo 0 ((pilotN (chSafe sd tk (nI mo)) (dep gr co) dr).toInt64)))))]) H := hP
  have hD : va_D A (wAll E o ad wm st gr co hb_ (nI mo) ga ca ha_ (nI ma) sd tk op__3 sp__4 rc__5 rn__6 wa__7 ++ [(oq, .inl (E.2.2.2, 1, .inr (.inl (vp_updL lo 0 ((pilotN (chSafe sd tk (nI mo)) (dep gr co) dr).toInt64)))))]) := hD
  refine lv_goto (tgt := 15) hx hb dL_pilot_9 (by decide) ?_
  refine lv_iconst (v := nI 0) hx hb dL_pilot_15 (by decide +kernel) ?_
  exact e_iret (op__3, sp__4, rc__5, rn__6, wa__7) hQ hx hb hr hlocks hP hD hS dL_pilot_16 (rfl) (Nat.le_of_ble_eq_true rfl) (Nat.le_of_ble_eq_true rfl) (trivial)

abbrev rm_L_pilot_b1 : Room := { frames := 8, cells := 1, slots := 6, locals := 126 }
set_option maxHeartbeats 4000000 in
set_option maxRecDepth 100000 in
theorem c_L_pilot_b1 (l : Launch) (hlt : l.stackTraces = false) (E : eT) (sz : Nat) (o : Nat) (ad : Nat → Nat) (wm : Nat → Int32) (st : Nat → Int32) (gr : Nat → Int32) (co : Nat → Int32) (hb_ : Nat → Bool) (mo : Nat) (ga : Nat → Int32) (ca : Nat → Int32) (ha_ : Nat → Bool) (ma : Nat) (sd : Nat → Int32) (tk : Nat → Int32) (op : Nat → Bool) (sp : Nat → Nat) (rc : Nat → Nat) (rn : Nat) (wa : Nat → Int32) (dr : Int32) (oq : Nat) (lo : Nat → Int64) (hdr : isInB dr (nI 0) (nI 39) = false) : cMX l yL_pilot wsL_pilot rm_L_pilot_b1 E sz [.ref o, .int dr, .ref oq] (wAll E o ad wm st gr co hb_ (nI mo) ga ca ha_ (nI ma) sd tk op sp rc rn wa ++ [(oq, .inl (E.2.2.2, 1, .inr (.inl lo)))]) (fun u : Unit => some (.int (nI 1))) (fun u : Unit => True) (fun u : Unit => wAll E o ad wm st gr co hb_ (nI mo) ga ca ha_ (nI ma) sd tk op sp rc rn wa ++ [(oq, .inl (E.2.2.2, 1, .inr (.inl lo)))]) := by
  refine cMX_introH (cc := cL_pilot) (maxL := 4) (ret := (some .int)) (by decide +kernel) rfl (Nat.le_of_ble_eq_true rfl) ?_
  intro p e s m args below meth cd hx hb hr hml hown hlocks hts hnm htab hK hsz hP A hD hA hX Q hQ ls hl
  have hown : s.vm.findClass RL = some m.cls := hown
  have hacl15 := hts (.classLink RL 15 "java/lang/IllegalArgumentException") (by decide +kernel)
  have hS : va_S A s.heap s.heap [] := va_S.rf
  have hl : lv_has ls 4 [(0, .ref o), (1, .int dr), (2, .ref oq)] := hl
  refine lv_aload_n hx hb dL_pilot_0 rfl (lv_at hl 2 rfl) ?_
  refine lv_iconst (v := nI 0) hx hb dL_pilot_1 (by decide +kernel) ?_
  refine lv_aload_n hx hb dL_pilot_2 rfl (lv_at hl 0 rfl) ?_
  refine lv_iload_n hx hb dL_pilot_3 rfl (lv_at hl 1 rfl) ?_
  refine e_callVX (As := [.int dr]) (rest := [.int (nI 0), .ref oq]) ⟨hx, hb, hml, hown, hts⟩ hK hX hP hD hS hA hl.1 (c_X4_pilot_b1 l hlt E _ o ad wm st gr co hb_ mo ga ca ha_ ma sd tk op sp rc rn wa dr (by first | omega | assumption | rfl | (simp_all; done))) (cwV 1 hts gL_pilot_X4_pilot rfl rfl rfl (by decide +kernel) ⟨Nat.le_of_ble_eq_true rfl, Nat.le_of_ble_eq_true rfl⟩) [0, 1, 2, 3, 4, 5, 6, 7, 8, 9, 10, 11, 12, 13, 14, 15, 16, 17, 18, 19] [20] rfl rfl rfl rfl (by decide) (q0 := 0) (ci := 4) rfl rfl rfl rfl (Nat.le_of_ble_eq_true rfl) dL_pilot_4 ⟨Nat.le_of_ble_eq_true rfl, Nat.le_of_ble_eq_true rfl⟩ (fun ce q9 H locs hsz1 hP hD hS hcell hvm hcl => ?_)
  have hP : va_P E.1 vwCl (wAll E o ad wm st gr co hb_ (nI mo) ga ca ha_ (nI ma) sd tk op sp rc rn wa ++ [(oq, .inl (E.2.2.2, 1, .inr (.inl lo)))]) H := hP.sub [1, 2, 3, 4, 5, 6, 7, 8, 9, 10, 11, 12, 13, 14, 15, 16, 17, 18, 19, 20, 0] rfl
  have hD : va_D A (wAll E o ad wm st gr co hb_ (nI mo) ga ca ha_ (nI ma) sd tk op sp rc rn wa ++ [(oq, .inl (E.2.2.2, 1, .inr (.inl lo)))]) := hD.sub [1, 2, 3, 4, 5, 6, 7, 8, 9, 10, 11, 12, 13, 14, 15, 16, 17, 18, 19, 20, 0] (by decide) rfl
  refine vx_catch (name := "java/lang/IllegalArgumentException") (E := nX2) hown [] ⟨0, 9, 12, 15⟩ [] (htab.trans rfl) (fun _ h => nomatch h) (by decide +kernel) (by decide) hacl15 (va_Nw.use rfl hX.2.2.2.2.2.1) hcell hvm hcl ?_
  refine lv_astore_n (lv' := [(3, .ref q9), (0, .ref o), (1, .int dr), (2, .ref oq)]) hx hb dL_pilot_12 rfl hl (by decide) rfl (fun ls hl => ?_)
  refine lv_iconst (v := nI 1) hx hb dL_pilot_13 (by decide +kernel) ?_
  exact e_iret () hQ hx hb hr hlocks hP hD hS dL_pilot_14 (rfl) (Nat.le_of_ble_eq_true rfl) (Nat.le_of_ble_eq_true rfl) (trivial)

abbrev rm_L_pass : Room := { frames := 6, cells := 0, slots := 0, locals := 134 }
set_option maxHeartbeats 4000000 in
set_option maxRecDepth 100000 in
theorem c_L_pass (l : Launch) (hlt : l.stackTraces = false) (E : eT) (sz : Nat) (o : Nat) (ad : Nat → Nat) (wm : Nat → Int32) (st : Nat → Int32) (gr : Nat → Int32) (co : Nat → Int32) (hb_ : Nat → Bool) (mo : Nat) (ga : Nat → Int32) (ca : Nat → Int32) (ha_ : Nat → Bool) (ma : Nat) (sd : Nat → Int32) (tk : Nat → Int32) (op : Nat → Bool) (sp : Nat → Nat) (rc : Nat → Nat) (rn : Nat) (wa : Nat → Int32) (k : Nat) (oq : Nat) (lo : Nat → Int64) (hk1 : 1 ≤ k) (hk : k ≤ 120) (hmo : mo < 2 ^ 30) : cMX l yL_pass wsL_pass rm_L_pass E sz [.ref o, .int (nI k), .ref oq] (wAll E o ad wm st gr co hb_ (nI mo) ga ca ha_ (nI ma) sd tk op sp rc rn wa ++ [(oq, .inl (E.2.2.2, 1, .inr (.inl lo)))]) (fun u : (Nat → Bool) => some (.int (nI 0))) (fun u : (Nat → Bool) => True) (fun u : (Nat → Bool) => wAll E o ad wm st ((months wm st (gr, co) mo k).1) ((months wm st (gr, co) mo k).2) u (nI (mo + k)) ga ca ha_ (nI ma) sd tk op sp rc rn wa ++ [(oq, .inl (E.2.2.2, 1, .inr (.inl (vp_updL lo 0 ((nI (heads (months wm st (gr, co) mo k).2) - nI (heads co)).toInt64)))))]) := by
  refine cMX_introH (cc := cL_pass) (maxL := 4) (ret := (some .int)) (by decide +kernel) rfl (Nat.le_of_ble_eq_true rfl) ?_
  intro p e s m args below meth cd hx hb hr hml hown hlocks hts hnm htab hK hsz hP A hD hA hX Q hQ ls hl
  have hown : s.vm.findClass RL = some m.cls := hown
  have hS : va_S A s.heap s.heap [] := va_S.rf
  have hl : lv_has ls 4 [(0, .ref o), (1, .int (nI k)), (2, .ref oq)] := hl
  refine lv_aload_n hx hb dL_pass_0 rfl (lv_at hl 2 rfl) ?_
  refine lv_iconst (v := nI 0) hx hb dL_pass_1 (by decide +kernel) ?_
  refine lv_aload_n hx hb dL_pass_2 rfl (lv_at hl 0 rfl) ?_
  refine lv_iload_n hx hb dL_pass_3 rfl (lv_at hl 1 rfl) ?_
  refine e_callV (As := [.int (nI k)]) (rest := [.int (nI 0), .ref oq]) ⟨hx, hb, hml, hown, hts⟩ hK hP hD hS hA hl.1 (c_X4_pass l E _ o ad wm st gr co hb_ mo ga ca ha_ ma sd tk op sp rc rn wa k (by first | omega | assumption | rfl | (simp_all; done)) (by first | omega | assumption | rfl | (simp_all; done)) (by first | omega | assumption | rfl | (simp_all; done))) (cwV 1 hts gL_pass_X4_pass rfl rfl rfl (by decide +kernel) ⟨Nat.le_of_ble_eq_true rfl, Nat.le_of_ble_eq_true rfl⟩) [0, 1, 2, 3, 4, 5, 6, 7, 8, 9, 10, 11, 12, 13, 14, 15, 16, 17, 18, 19] [20] rfl rfl rfl rfl (by decide) (q0 := 0) (ci := 4) rfl rfl rfl rfl (Nat.le_of_ble_eq_true rfl) dL_pass_4 ⟨Nat.le_of_ble_eq_true rfl, Nat.le_of_ble_eq_true rfl⟩ (fun u_1 H locs hu_2 hsz1 hP hD hS => ?_)
  obtain ⟨hb1__3, rfl⟩ : ∃ z, z = u_1 := ⟨_, rfl⟩
  have hP : va_P E.1 vwCl (wAll E o ad wm st ((months wm st (gr, co) mo k).1) ((months wm st (gr, co) mo k).2) hb1__3 (nI (mo + k)) ga ca ha_ (nI ma) sd tk op sp rc rn wa ++ [(oq, .inl (E.2.2.2, 1, .inr (.inl lo)))]) H := hP.sub [1, 2, 3, 4, 5, 6, 7, 8, 9, 10, 11, 12, 13, 14, 15, 16, 17, 18, 19, 20, 0] rfl
  have hD : va_D A (wAll E o ad wm st ((months wm st (gr, co) mo k).1) ((months wm st (gr, co) mo k).2) hb1__3 (nI (mo + k)) ga ca ha_ (nI ma) sd tk op sp rc rn wa ++ [(oq, .inl (E.2.2.2, 1, .inr (.inl lo)))]) := hD.sub [1, 2, 3, 4, 5, 6, 7, 8, 9, 10, 11, 12, 13, 14, 15, 16, 17, 18, 19, 20, 0] (by decide) rfl
  refine W.eq (g2 := F0 m 7 ls [.int (nI (heads (months wm st (gr, co) mo k).2) - nI (heads co)), .int (nI 0), .ref oq]) rfl ?_
  refine lv_i2l hx hb dL_pass_7 rfl ?_
  refine e_last hK hP hD hS 20 rfl 0 (by omega) (by decide) hx hb dL_pass_8 (fun H locs hP hD hS => ?_)
  have hP : va_P E.1 vwCl (wAll E o ad wm st ((months wm st (gr, co) mo k).1) ((months wm st (gr, co) mo k).2) hb1__3 (nI (mo + k)) ga ca ha_ (nI ma) sd tk op sp rc rn wa ++ [(oq, .inl (E.2.2.2, 1, .inr (.inl (vp_updL lo 0 ((nI (heads (months wm st (gr, co) mo k).2) - nI (heads co)).toInt64)))))]) H := hP
  have hD : va_D A (wAll E o ad wm st ((months wm st (gr, co) mo k).1) ((months wm st (gr, co) mo k).2) hb1__3 (nI (mo + k)) ga ca ha_ (nI ma) sd tk op sp rc rn wa ++ [(oq, .inl (E.2.2.2, 1, .inr (.inl (vp_updL lo 0 ((nI (heads (months wm st (gr, co) mo k).2) - nI (heads co)).toInt64)))))]) := hD
  refine lv_goto (tgt := 15) hx hb dL_pass_9 (by decide) ?_
  refine lv_iconst (v := nI 0) hx hb dL_pass_15 (by decide +kernel) ?_
  exact e_iret hb1__3 hQ hx hb hr hlocks hP hD hS dL_pass_16 (rfl) (Nat.le_of_ble_eq_true rfl) (Nat.le_of_ble_eq_true rfl) (trivial)

abbrev rm_L_pass_b1 : Room := { frames := 8, cells := 1, slots := 6, locals := 127 }
set_option maxHeartbeats 4000000 in
set_option maxRecDepth 100000 in
theorem c_L_pass_b1 (l : Launch) (hlt : l.stackTraces = false) (E : eT) (sz : Nat) (o : Nat) (ad : Nat → Nat) (wm : Nat → Int32) (st : Nat → Int32) (gr : Nat → Int32) (co : Nat → Int32) (hb_ : Nat → Bool) (mo : Nat) (ga : Nat → Int32) (ca : Nat → Int32) (ha_ : Nat → Bool) (ma : Nat) (sd : Nat → Int32) (tk : Nat → Int32) (op : Nat → Bool) (sp : Nat → Nat) (rc : Nat → Nat) (rn : Nat) (wa : Nat → Int32) (x : Int32) (oq : Nat) (lo : Nat → Int64) (hc : isInB x (nI 1) (nI 120) = false) : cMX l yL_pass wsL_pass rm_L_pass_b1 E sz [.ref o, .int x, .ref oq] (wAll E o ad wm st gr co hb_ (nI mo) ga ca ha_ (nI ma) sd tk op sp rc rn wa ++ [(oq, .inl (E.2.2.2, 1, .inr (.inl lo)))]) (fun u : Unit => some (.int (nI 1))) (fun u : Unit => True) (fun u : Unit => wAll E o ad wm st gr co hb_ (nI mo) ga ca ha_ (nI ma) sd tk op sp rc rn wa ++ [(oq, .inl (E.2.2.2, 1, .inr (.inl lo)))]) := by
  refine cMX_introH (cc := cL_pass) (maxL := 4) (ret := (some .int)) (by decide +kernel) rfl (Nat.le_of_ble_eq_true rfl) ?_
  intro p e s m args below meth cd hx hb hr hml hown hlocks hts hnm htab hK hsz hP A hD hA hX Q hQ ls hl
  have hown : s.vm.findClass RL = some m.cls := hown
  have hacl15 := hts (.classLink RL 15 "java/lang/IllegalArgumentException") (by decide +kernel)
  have hS : va_S A s.heap s.heap [] := va_S.rf
  have hl : lv_has ls 4 [(0, .ref o), (1, .int x), (2, .ref oq)] := hl
  refine lv_aload_n hx hb dL_pass_0 rfl (lv_at hl 2 rfl) ?_
  refine lv_iconst (v := nI 0) hx hb dL_pass_1 (by decide +kernel) ?_
  refine lv_aload_n hx hb dL_pass_2 rfl (lv_at hl 0 rfl) ?_
  refine lv_iload_n hx hb dL_pass_3 rfl (lv_at hl 1 rfl) ?_
  refine e_callVX (As := [.int x]) (rest := [.int (nI 0), .ref oq]) ⟨hx, hb, hml, hown, hts⟩ hK hX hP hD hS hA hl.1 (c_X4_pass_b1 l hlt E _ o ad wm st gr co hb_ mo ga ca ha_ ma sd tk op sp rc rn wa x (by first | omega | assumption | rfl | (simp_all; done))) (cwV 1 hts gL_pass_X4_pass rfl rfl rfl (by decide +kernel) ⟨Nat.le_of_ble_eq_true rfl, Nat.le_of_ble_eq_true rfl⟩) [0, 1, 2, 3, 4, 5, 6, 7, 8, 9, 10, 11, 12, 13, 14, 15, 16, 17, 18, 19] [20] rfl rfl rfl rfl (by decide) (q0 := 0) (ci := 4) rfl rfl rfl rfl (Nat.le_of_ble_eq_true rfl) dL_pass_4 ⟨Nat.le_of_ble_eq_true rfl, Nat.le_of_ble_eq_true rfl⟩ (fun ce q9 H locs hsz1 hP hD hS hcell hvm hcl => ?_)
  have hP : va_P E.1 vwCl (wAll E o ad wm st gr co hb_ (nI mo) ga ca ha_ (nI ma) sd tk op sp rc rn wa ++ [(oq, .inl (E.2.2.2, 1, .inr (.inl lo)))]) H := hP.sub [1, 2, 3, 4, 5, 6, 7, 8, 9, 10, 11, 12, 13, 14, 15, 16, 17, 18, 19, 20, 0] rfl
  have hD : va_D A (wAll E o ad wm st gr co hb_ (nI mo) ga ca ha_ (nI ma) sd tk op sp rc rn wa ++ [(oq, .inl (E.2.2.2, 1, .inr (.inl lo)))]) := hD.sub [1, 2, 3, 4, 5, 6, 7, 8, 9, 10, 11, 12, 13, 14, 15, 16, 17, 18, 19, 20, 0] (by decide) rfl
  refine vx_catch (name := "java/lang/IllegalArgumentException") (E := nX2) hown [] ⟨0, 9, 12, 15⟩ [] (htab.trans rfl) (fun _ h => nomatch h) (by decide +kernel) (by decide) hacl15 (va_Nw.use rfl hX.2.2.2.2.2.1) hcell hvm hcl ?_
  refine lv_astore_n (lv' := [(3, .ref q9), (0, .ref o), (1, .int x), (2, .ref oq)]) hx hb dL_pass_12 rfl hl (by decide) rfl (fun ls hl => ?_)
  refine lv_iconst (v := nI 1) hx hb dL_pass_13 (by decide +kernel) ?_
  exact e_iret () hQ hx hb hr hlocks hP hD hS dL_pass_14 (rfl) (Nat.le_of_ble_eq_true rfl) (Nat.le_of_ble_eq_true rfl) (trivial)

abbrev rm_L_count : Room := { frames := 6, cells := 0, slots := 0, locals := 134 }
set_option maxHeartbeats 4000000 in
set_option maxRecDepth 100000 in
theorem c_L_count (l : Launch) (hlt : l.stackTraces = false) (E : eT) (sz : Nat) (o : Nat) (ad : Nat → Nat) (wm : Nat → Int32) (st : Nat → Int32) (gr : Nat → Int32) (co : Nat → Int32) (hb_ : Nat → Bool) (mo : Nat) (ga : Nat → Int32) (ca : Nat → Int32) (ha_ : Nat → Bool) (ma : Nat) (sd : Nat → Int32) (tk : Nat → Int32) (op : Nat → Bool) (sp : Nat → Nat) (rc : Nat → Nat) (rn : Nat) (wa : Nat → Int32) (k : Nat) (oq : Nat) (lo : Nat → Int64) (hk : k < 8) : cMX l yL_count wsL_count rm_L_count E sz [.ref o, .int (nI k), .ref oq] (wAll E o ad wm st gr co hb_ (nI mo) ga ca ha_ (nI ma) sd tk op sp rc rn wa ++ [(oq, .inl (E.2.2.2, 1, .inr (.inl lo)))]) (fun u : (Nat → Bool) × (Nat → Nat) × (Nat → Nat) × (Nat) => some (.int (nI 0))) (fun u : (Nat → Bool) × (Nat → Nat) × (Nat → Nat) × (Nat) => True) (fun u : (Nat → Bool) × (Nat → Nat) × (Nat → Nat) × (Nat) => wAll E o ad wm st gr co hb_ (nI mo) ga ca ha_ (nI ma) sd tk u.1 u.2.1 u.2.2.1 u.2.2.2 wa ++ [(oq, .inl (E.2.2.2, 1, .inr (.inl (vp_updL lo 0 ((cntA gr co sd mo k).toInt64)))))]) := by
  refine cMX_introH (cc := cL_count) (maxL := 4) (ret := (some .int)) (by decide +kernel) rfl (Nat.le_of_ble_eq_true rfl) ?_
  intro p e s m args below meth cd hx hb hr hml hown hlocks hts hnm htab hK hsz hP A hD hA hX Q hQ ls hl
  have hown : s.vm.findClass RL = some m.cls := hown
  have hS : va_S A s.heap s.heap [] := va_S.rf
  have hl : lv_has ls 4 [(0, .ref o), (1, .int (nI k)), (2, .ref oq)] := hl
  refine lv_aload_n hx hb dL_count_0 rfl (lv_at hl 2 rfl) ?_
  refine lv_iconst (v := nI 0) hx hb dL_count_1 (by decide +kernel) ?_
  refine lv_aload_n hx hb dL_count_2 rfl (lv_at hl 0 rfl) ?_
  refine lv_iload_n hx hb dL_count_3 rfl (lv_at hl 1 rfl) ?_
  refine e_callV (As := [.int (nI k)]) (rest := [.int (nI 0), .ref oq]) ⟨hx, hb, hml, hown, hts⟩ hK hP hD hS hA hl.1 (c_X4_count l E _ o ad wm st gr co hb_ mo ga ca ha_ ma sd tk op sp rc rn wa k (by first | omega | assumption | rfl | (simp_all; done))) (cwV 1 hts gL_count_X4_count rfl rfl rfl (by decide +kernel) ⟨Nat.le_of_ble_eq_true rfl, Nat.le_of_ble_eq_true rfl⟩) [0, 1, 2, 3, 4, 5, 6, 7, 8, 9, 10, 11, 12, 13, 14, 15, 16, 17, 18, 19] [20] rfl rfl rfl rfl (by decide) (q0 := 0) (ci := 4) rfl rfl rfl rfl (Nat.le_of_ble_eq_true rfl) dL_count_4 ⟨Nat.le_of_ble_eq_true rfl, Nat.le_of_ble_eq_true rfl⟩ (fun u_1 H locs hu_2 hsz1 hP hD hS => ?_)
  obtain ⟨op__3, sp__4, rc__5, rn__6⟩ := u_1
  have hP : va_P E.1 vwCl (wAll E o ad wm st gr co hb_ (nI mo) ga ca ha_ (nI ma) sd tk op__3 sp__4 rc__5 rn__6 wa ++ [(oq, .inl (E.2.2.2, 1, .inr (.inl lo)))]) H := hP.sub [1, 2, 3, 4, 5, 6, 7, 8, 9, 10, 11, 12, 13, 14, 15, 16, 17, 18, 19, 20, 0] rfl
  have hD : va_D A (wAll E o ad wm st gr co hb_ (nI mo) ga ca ha_ (nI ma) sd tk op__3 sp__4 rc__5 rn__6 wa ++ [(oq, .inl (E.2.2.2, 1, .inr (.inl lo)))]) := hD.sub [1, 2, 3, 4, 5, 6, 7, 8, 9, 10, 11, 12, 13, 14, 15, 16, 17, 18, 19, 20, 0] (by decide) rfl
  refine W.eq (g2 := F0 m 7 ls [.int (cntA gr co sd mo k), .int (nI 0), .ref oq]) rfl ?_
  refine lv_i2l hx hb dL_count_7 rfl ?_
  refine e_last hK hP hD hS 20 rfl 0 (by omega) (by decide) hx hb dL_count_8 (fun H locs hP hD hS => ?_)
  have hP : va_P E.1 vwCl (wAll E o ad wm st gr co hb_ (nI mo) ga ca ha_ (nI ma) sd tk op__3 sp__4 rc__5 rn__6 wa ++ [(oq, .inl (E.2.2.2, 1, .inr (.inl (vp_updL lo 0 ((cntA gr co sd mo k).toInt64)))))]) H := hP
  have hD : va_D A (wAll E o ad wm st gr co hb_ (nI mo) ga ca ha_ (nI ma) sd tk op__3 sp__4 rc__5 rn__6 wa ++ [(oq, .inl (E.2.2.2, 1, .inr (.inl (vp_updL lo 0 ((cntA gr co sd mo k).toInt64)))))]) := hD
  refine lv_goto (tgt := 15) hx hb dL_count_9 (by decide) ?_
  refine lv_iconst (v := nI 0) hx hb dL_count_15 (by decide +kernel) ?_
  exact e_iret (op__3, sp__4, rc__5, rn__6) hQ hx hb hr hlocks hP hD hS dL_count_16 (rfl) (Nat.le_of_ble_eq_true rfl) (Nat.le_of_ble_eq_true rfl) (trivial)

abbrev rm_L_count_b1 : Room := { frames := 8, cells := 1, slots := 6, locals := 124 }
set_option maxHeartbeats 4000000 in
set_option maxRecDepth 100000 in
theorem c_L_count_b1 (l : Launch) (hlt : l.stackTraces = false) (E : eT) (sz : Nat) (o : Nat) (ad : Nat → Nat) (wm : Nat → Int32) (st : Nat → Int32) (gr : Nat → Int32) (co : Nat → Int32) (hb_ : Nat → Bool) (mo : Nat) (ga : Nat → Int32) (ca : Nat → Int32) (ha_ : Nat → Bool) (ma : Nat) (sd : Nat → Int32) (tk : Nat → Int32) (op : Nat → Bool) (sp : Nat → Nat) (rc : Nat → Nat) (rn : Nat) (wa : Nat → Int32) (x : Int32) (oq : Nat) (lo : Nat → Int64) (hc : isInB x (nI 0) (nI 7) = false) : cMX l yL_count wsL_count rm_L_count_b1 E sz [.ref o, .int x, .ref oq] (wAll E o ad wm st gr co hb_ (nI mo) ga ca ha_ (nI ma) sd tk op sp rc rn wa ++ [(oq, .inl (E.2.2.2, 1, .inr (.inl lo)))]) (fun u : Unit => some (.int (nI 1))) (fun u : Unit => True) (fun u : Unit => wAll E o ad wm st gr co hb_ (nI mo) ga ca ha_ (nI ma) sd tk op sp rc rn wa ++ [(oq, .inl (E.2.2.2, 1, .inr (.inl lo)))]) := by
  refine cMX_introH (cc := cL_count) (maxL := 4) (ret := (some .int)) (by decide +kernel) rfl (Nat.le_of_ble_eq_true rfl) ?_
  intro p e s m args below meth cd hx hb hr hml hown hlocks hts hnm htab hK hsz hP A hD hA hX Q hQ ls hl
  have hown : s.vm.findClass RL = some m.cls := hown
  have hacl13 := hts (.classLink RL 13 "java/lang/IndexOutOfBoundsException") (by decide +kernel)
  have hS : va_S A s.heap s.heap [] := va_S.rf
  have hl : lv_has ls 4 [(0, .ref o), (1, .int x), (2, .ref oq)] := hl
  refine lv_aload_n hx hb dL_count_0 rfl (lv_at hl 2 rfl) ?_
  refine lv_iconst (v := nI 0) hx hb dL_count_1 (by decide +kernel) ?_
  refine lv_aload_n hx hb dL_count_2 rfl (lv_at hl 0 rfl) ?_
  refine lv_iload_n hx hb dL_count_3 rfl (lv_at hl 1 rfl) ?_
  refine e_callVX (As := [.int x]) (rest := [.int (nI 0), .ref oq]) ⟨hx, hb, hml, hown, hts⟩ hK hX hP hD hS hA hl.1 (c_X4_count_b1 l hlt E _ o ad wm st gr co hb_ mo ga ca ha_ ma sd tk op sp rc rn wa x (by first | omega | assumption | rfl | (simp_all; done))) (cwV 1 hts gL_count_X4_count rfl rfl rfl (by decide +kernel) ⟨Nat.le_of_ble_eq_true rfl, Nat.le_of_ble_eq_true rfl⟩) [0, 1, 2, 3, 4, 5, 6, 7, 8, 9, 10, 11, 12, 13, 14, 15, 16, 17, 18, 19] [20] rfl rfl rfl rfl (by decide) (q0 := 0) (ci := 4) rfl rfl rfl rfl (Nat.le_of_ble_eq_true rfl) dL_count_4 ⟨Nat.le_of_ble_eq_true rfl, Nat.le_of_ble_eq_true rfl⟩ (fun ce q9 H locs hsz1 hP hD hS hcell hvm hcl => ?_)
  have hP : va_P E.1 vwCl (wAll E o ad wm st gr co hb_ (nI mo) ga ca ha_ (nI ma) sd tk op sp rc rn wa ++ [(oq, .inl (E.2.2.2, 1, .inr (.inl lo)))]) H := hP.sub [1, 2, 3, 4, 5, 6, 7, 8, 9, 10, 11, 12, 13, 14, 15, 16, 17, 18, 19, 20, 0] rfl
  have hD : va_D A (wAll E o ad wm st gr co hb_ (nI mo) ga ca ha_ (nI ma) sd tk op sp rc rn wa ++ [(oq, .inl (E.2.2.2, 1, .inr (.inl lo)))]) := hD.sub [1, 2, 3, 4, 5, 6, 7, 8, 9, 10, 11, 12, 13, 14, 15, 16, 17, 18, 19, 20, 0] (by decide) rfl
  refine vx_catch (name := "java/lang/IndexOutOfBoundsException") (E := nX1) hown [] ⟨0, 9, 12, 13⟩ [] (htab.trans rfl) (fun _ h => nomatch h) (by decide +kernel) (by decide) hacl13 (va_Nw.use rfl hX.2.2.2.2.1) hcell hvm hcl ?_
  refine lv_astore_n (lv' := [(3, .ref q9), (0, .ref o), (1, .int x), (2, .ref oq)]) hx hb dL_count_12 rfl hl (by decide) rfl (fun ls hl => ?_)
  refine lv_iconst (v := nI 1) hx hb dL_count_13 (by decide +kernel) ?_
  exact e_iret () hQ hx hb hr hlocks hP hD hS dL_count_14 (rfl) (Nat.le_of_ble_eq_true rfl) (Nat.le_of_ble_eq_true rfl) (trivial)

abbrev rm_L_closes : Room := { frames := 6, cells := 0, slots := 0, locals := 133 }
set_option maxHeartbeats 4000000 in
set_option maxRecDepth 100000 in
theorem c_L_closes (l : Launch) (hlt : l.stackTraces = false) (E : eT) (sz : Nat) (o : Nat) (ad : Nat → Nat) (wm : Nat → Int32) (st : Nat → Int32) (gr : Nat → Int32) (co : Nat → Int32) (hb_ : Nat → Bool) (mo : Nat) (ga : Nat → Int32) (ca : Nat → Int32) (ha_ : Nat → Bool) (ma : Nat) (sd : Nat → Int32) (tk : Nat → Int32) (op : Nat → Bool) (sp : Nat → Nat) (rc : Nat → Nat) (rn : Nat) (wa : Nat → Int32) (dr : Int32) (oq : Nat) (lo : Nat → Int64) (hdr : isInB dr (nI 0) (nI 39) = true) (hmo : mo < 2 ^ 30) : cMX l yL_closes wsL_closes rm_L_closes E sz [.ref o, .int dr, .ref oq] (wAll E o ad wm st gr co hb_ (nI mo) ga ca ha_ (nI ma) sd tk op sp rc rn wa ++ [(oq, .inl (E.2.2.2, 1, .inr (.inl lo)))]) (fun u : (Nat → Int32) × (Nat → Int32) × (Nat → Bool) × (Nat) × (Nat → Bool) × (Nat → Nat) × (Nat → Nat) × (Nat) × (Nat → Int32) => some (.int (nI 0))) (fun u : (Nat → Int32) × (Nat → Int32) × (Nat → Bool) × (Nat) × (Nat → Bool) × (Nat → Nat) × (Nat → Nat) × (Nat) × (Nat → Int32) => True) (fun u : (Nat → Int32) × (Nat → Int32) × (Nat → Bool) × (Nat) × (Nat → Bool) × (Nat → Nat) × (Nat → Nat) × (Nat) × (Nat → Int32) => wAll E o ad wm st gr co hb_ (nI mo) u.1 u.2.1 u.2.2.1 (nI u.2.2.2.1) sd tk u.2.2.2.2.1 u.2.2.2.2.2.1 u.2.2.2.2.2.2.1 u.2.2.2.2.2.2.2.1 u.2.2.2.2.2.2.2.2 ++ [(oq, .inl (E.2.2.2, 1, .inr (.inl (vp_updL lo 0 ((closN wm st gr co mo dr).toInt64)))))]) := by
  refine cMX_introH (cc := cL_closes) (maxL := 4) (ret := (some .int)) (by decide +kernel) rfl (Nat.le_of_ble_eq_true rfl) ?_
  intro p e s m args below meth cd hx hb hr hml hown hlocks hts hnm htab hK hsz hP A hD hA hX Q hQ ls hl
  have hown : s.vm.findClass RL = some m.cls := hown
  have hS : va_S A s.heap s.heap [] := va_S.rf
  have hl : lv_has ls 4 [(0, .ref o), (1, .int dr), (2, .ref oq)] := hl
  refine lv_aload_n hx hb dL_closes_0 rfl (lv_at hl 2 rfl) ?_
  refine lv_iconst (v := nI 0) hx hb dL_closes_1 (by decide +kernel) ?_
  refine lv_aload_n hx hb dL_closes_2 rfl (lv_at hl 0 rfl) ?_
  refine lv_iload_n hx hb dL_closes_3 rfl (lv_at hl 1 rfl) ?_
  refine e_callV (As := [.int dr]) (rest := [.int (nI 0), .ref oq]) ⟨hx, hb, hml, hown, hts⟩ hK hP hD hS hA hl.1 (c_X4_closes l E _ o ad wm st gr co hb_ mo ga ca ha_ ma sd tk op sp rc rn wa dr (by first | omega | assumption | rfl | (simp_all; done)) (by first | omega | assumption | rfl | (simp_all; done))) (cwV 1 hts gL_closes_X4_closes rfl rfl rfl (by decide +kernel) ⟨Nat.le_of_ble_eq_true rfl, Nat.le_of_ble_eq_true rfl⟩) [0, 1, 2, 3, 4, 5, 6, 7, 8, 9, 10, 11, 12, 13, 14, 15, 16, 17, 18, 19] [20] rfl rfl rfl rfl (by decide) (q0 := 0) (ci := 4) rfl rfl rfl rfl (Nat.le_of_ble_eq_true rfl) dL_closes_4 ⟨Nat.le_of_ble_eq_true rfl, Nat.le_of_ble_eq_true rfl⟩ (fun u_1 H locs hu_2 hsz1 hP hD hS => ?_)
  obtain ⟨ga__3, ca__4, ha1__5, ma__6, op__7, sp__8, rc__9, rn__10, wa__11⟩ := u_1
  have hP : va_P E.1 vwCl (wAll E o ad wm st gr co hb_ (nI mo) ga__3 ca__4 ha1__5 (nI ma__6) sd tk op__7 sp__8 rc__9 rn__10 wa__11 ++ [(oq, .inl (E.2.2.2, 1, .inr (.inl lo)))]) H := hP.sub [1, 2, 3, 4, 5, 6, 7, 8, 9, 10, 11, 12, 13, 14, 15, 16, 17, 18, 19, 20, 0] rfl
  have hD : va_D A (wAll E o ad wm st gr co hb_ (nI mo) ga__3 ca__4 ha1__5 (nI ma__6) sd tk op__7 sp__8 rc__9 rn__10 wa__11 ++ [(oq, .inl (E.2.2.2, 1, .inr (.inl lo)))]) := hD.sub [1, 2, 3, 4, 5, 6, 7, 8, 9, 10, 11, 12, 13, 14, 15, 16, 17, 18, 19, 20, 0] (by decide) rfl
  refine W.eq (g2 := F0 m 7 ls [.int (closN wm st gr co mo dr), .int (nI 0), .ref oq]) rfl ?_
  refine lv_i2l hx hb dL_closes_7 rfl ?_
  refine e_last hK hP hD hS 20 rfl 0 (by omega) (by decide) hx hb dL_closes_8 (fun H locs hP hD hS => ?_)
  have hP : va_P E.1 vwCl (wAll E o ad wm st gr co hb_ (nI mo) ga__3 ca__4 ha1__5 (nI ma__6) sd tk op__7 sp__8 rc__9 rn__10 wa__11 ++ [(oq, .inl (E.2.2.2, 1, .inr (.inl (vp_updL lo 0 ((closN wm st gr co mo dr).toInt64)))))]) H := hP
  have hD : va_D A (wAll E o ad wm st gr co hb_ (nI mo) ga__3 ca__4 ha1__5 (nI ma__6) sd tk op__7 sp__8 rc__9 rn__10 wa__11 ++ [(oq, .inl (E.2.2.2, 1, .inr (.inl (vp_updL lo 0 ((closN wm st gr co mo dr).toInt64)))))]) := hD
  refine lv_goto (tgt := 15) hx hb dL_closes_9 (by decide) ?_
  refine lv_iconst (v := nI 0) hx hb dL_closes_15 (by decide +kernel) ?_
  exact e_iret (ga__3, ca__4, ha1__5, ma__6, op__7, sp__8, rc__9, rn__10, wa__11) hQ hx hb hr hlocks hP hD hS dL_closes_16 (rfl) (Nat.le_of_ble_eq_true rfl) (Nat.le_of_ble_eq_true rfl) (trivial)

abbrev rm_L_closes_b1 : Room := { frames := 8, cells := 1, slots := 6, locals := 126 }
set_option maxHeartbeats 4000000 in
set_option maxRecDepth 100000 in
theorem c_L_closes_b1 (l : Launch) (hlt : l.stackTraces = false) (E : eT) (sz : Nat) (o : Nat) (ad : Nat → Nat) (wm : Nat → Int32) (st : Nat → Int32) (gr : Nat → Int32) (co : Nat → Int32) (hb_ : Nat → Bool) (mo : Nat) (ga : Nat → Int32) (ca : Nat → Int32) (ha_ : Nat → Bool) (ma : Nat) (sd : Nat → Int32) (tk : Nat → Int32) (op : Nat → Bool) (sp : Nat → Nat) (rc : Nat → Nat) (rn : Nat) (wa : Nat → Int32) (dr : Int32) (oq : Nat) (lo : Nat → Int64) (hdr : isInB dr (nI 0) (nI 39) = false) : cMX l yL_closes wsL_closes rm_L_closes_b1 E sz [.ref o, .int dr, .ref oq] (wAll E o ad wm st gr co hb_ (nI mo) ga ca ha_ (nI ma) sd tk op sp rc rn wa ++ [(oq, .inl (E.2.2.2, 1, .inr (.inl lo)))]) (fun u : Unit => some (.int (nI 1))) (fun u : Unit => True) (fun u : Unit => wAll E o ad wm st gr co hb_ (nI mo) ga ca ha_ (nI ma) sd tk op sp rc rn wa ++ [(oq, .inl (E.2.2.2, 1, .inr (.inl lo)))]) := by
  refine cMX_introH (cc := cL_closes) (maxL := 4) (ret := (some .int)) (by decide +kernel) rfl (Nat.le_of_ble_eq_true rfl) ?_
  intro p e s m args below meth cd hx hb hr hml hown hlocks hts hnm htab hK hsz hP A hD hA hX Q hQ ls hl
  have hown : s.vm.findClass RL = some m.cls := hown
  have hacl15 := hts (.classLink RL 15 "java/lang/IllegalArgumentException") (by decide +kernel)
  have hS : va_S A s.heap s.heap [] := va_S.rf
  have hl : lv_has ls 4 [(0, .ref o), (1, .int dr), (2, .ref oq)] := hl
  refine lv_aload_n hx hb dL_closes_0 rfl (lv_at hl 2 rfl) ?_
  refine lv_iconst (v := nI 0) hx hb dL_closes_1 (by decide +kernel) ?_
  refine lv_aload_n hx hb dL_closes_2 rfl (lv_at hl 0 rfl) ?_
  refine lv_iload_n hx hb dL_closes_3 rfl (lv_at hl 1 rfl) ?_
  refine e_callVX (As := [.int dr]) (rest := [.int (nI 0), .ref oq]) ⟨hx, hb, hml, hown, hts⟩ hK hX hP hD hS hA hl.1 (c_X4_closes_b1 l hlt E _ o ad wm st gr co hb_ mo ga ca ha_ ma sd tk op sp rc rn wa dr (by first | omega | assumption | rfl | (simp_all; done))) (cwV 1 hts gL_closes_X4_closes rfl rfl rfl (by decide +kernel) ⟨Nat.le_of_ble_eq_true rfl, Nat.le_of_ble_eq_true rfl⟩) [0, 1, 2, 3, 4, 5, 6, 7, 8, 9, 10, 11, 12, 13, 14, 15, 16, 17, 18, 19] [20] rfl rfl rfl rfl (by decide) (q0 := 0) (ci := 4) rfl rfl rfl rfl (Nat.le_of_ble_eq_true rfl) dL_closes_4 ⟨Nat.le_of_ble_eq_true rfl, Nat.le_of_ble_eq_true rfl⟩ (fun ce q9 H locs hsz1 hP hD hS hcell hvm hcl => ?_)
  have hP : va_P E.1 vwCl (wAll E o ad wm st gr co hb_ (nI mo) ga ca ha_ (nI ma) sd tk op sp rc rn wa ++ [(oq, .inl (E.2.2.2, 1, .inr (.inl lo)))]) H := hP.sub [1, 2, 3, 4, 5, 6, 7, 8, 9, 10, 11, 12, 13, 14, 15, 16, 17, 18, 19, 20, 0] rfl
  have hD : va_D A (wAll E o ad wm st gr co hb_ (nI mo) ga ca ha_ (nI ma) sd tk op sp rc rn wa ++ [(oq, .inl (E.2.2.2, 1, .inr (.inl lo)))]) := hD.sub [1, 2, 3, 4, 5, 6, 7, 8, 9, 10, 11, 12, 13, 14, 15, 16, 17, 18, 19, 20, 0] (by decide) rfl
  refine vx_catch (name := "java/lang/IllegalArgumentException") (E := nX2) hown [] ⟨0, 9, 12, 15⟩ [] (htab.trans rfl) (fun _ h => nomatch h) (by decide +kernel) (by decide) hacl15 (va_Nw.use rfl hX.2.2.2.2.2.1) hcell hvm hcl ?_
  refine lv_astore_n (lv' := [(3, .ref q9), (0, .ref o), (1, .int dr), (2, .ref oq)]) hx hb dL_closes_12 rfl hl (by decide) rfl (fun ls hl => ?_)
  refine lv_iconst (v := nI 1) hx hb dL_closes_13 (by decide +kernel) ?_
  exact e_iret () hQ hx hb hr hlocks hP hD hS dL_closes_14 (rfl) (Nat.le_of_ble_eq_true rfl) (Nat.le_of_ble_eq_true rfl) (trivial)

abbrev rm_L_foresee : Room := { frames := 6, cells := 0, slots := 0, locals := 138 }
set_option maxHeartbeats 4000000 in
set_option maxRecDepth 100000 in
theorem c_L_foresee (l : Launch) (hlt : l.stackTraces = false) (E : eT) (sz : Nat) (o : Nat) (ad : Nat → Nat) (wm : Nat → Int32) (st : Nat → Int32) (gr : Nat → Int32) (co : Nat → Int32) (hb_ : Nat → Bool) (mo : Nat) (ga : Nat → Int32) (ca : Nat → Int32) (ha_ : Nat → Bool) (ma : Nat) (sd : Nat → Int32) (tk : Nat → Int32) (op : Nat → Bool) (sp : Nat → Nat) (rc : Nat → Nat) (rn : Nat) (wa : Nat → Int32) (k : Nat) (q : Nat) (oq : Nat) (lo : Nat → Int64) (hk1 : 1 ≤ k) (hk : k ≤ 100) (hq : q < 3) (hmo : mo < 2 ^ 30) : cMX l yL_foresee wsL_foresee rm_L_foresee E sz [.ref o, .int (nI k), .int (nI q), .ref oq] (wAll E o ad wm st gr co hb_ (nI mo) ga ca ha_ (nI ma) sd tk op sp rc rn wa ++ [(oq, .inl (E.2.2.2, 1, .inr (.inl lo)))]) (fun u : (Nat → Int32) × (Nat → Int32) × (Nat → Bool) × (Nat) × (Nat → Bool) × (Nat → Nat) × (Nat → Nat) × (Nat) × (Nat → Int32) => some (.int (nI 0))) (fun u : (Nat → Int32) × (Nat → Int32) × (Nat → Bool) × (Nat) × (Nat → Bool) × (Nat → Nat) × (Nat → Nat) × (Nat) × (Nat → Int32) => True) (fun u : (Nat → Int32) × (Nat → Int32) × (Nat → Bool) × (Nat) × (Nat → Bool) × (Nat → Nat) × (Nat → Nat) × (Nat) × (Nat → Int32) => wAll E o ad wm st gr co hb_ (nI mo) u.1 u.2.1 u.2.2.1 (nI u.2.2.2.1) sd tk u.2.2.2.2.1 u.2.2.2.2.2.1 u.2.2.2.2.2.2.1 u.2.2.2.2.2.2.2.1 u.2.2.2.2.2.2.2.2 ++ [(oq, .inl (E.2.2.2, 1, .inr (.inl (vp_updL lo 0 ((forA (months wm st (gr, co) mo k).1 (months wm st (gr, co) mo k).2 q).toInt64)))))]) := by
  refine cMX_introH (cc := cL_foresee) (maxL := 5) (ret := (some .int)) (by decide +kernel) rfl (Nat.le_of_ble_eq_true rfl) ?_
  intro p e s m args below meth cd hx hb hr hml hown hlocks hts hnm htab hK hsz hP A hD hA hX Q hQ ls hl
  have hown : s.vm.findClass RL = some m.cls := hown
  have hS : va_S A s.heap s.heap [] := va_S.rf
  have hl : lv_has ls 5 [(0, .ref o), (1, .int (nI k)), (2, .int (nI q)), (3, .ref oq)] := hl
  refine lv_aload_n hx hb dL_foresee_0 rfl (lv_at hl 3 rfl) ?_
  refine lv_iconst (v := nI 0) hx hb dL_foresee_1 (by decide +kernel) ?_
  refine lv_aload_n hx hb dL_foresee_2 rfl (lv_at hl 0 rfl) ?_
  refine lv_iload_n hx hb dL_foresee_3 rfl (lv_at hl 1 rfl) ?_
  refine lv_iload_n hx hb dL_foresee_4 rfl (lv_at hl 2 rfl) ?_
  refine e_callV (As := [.int (nI k), .int (nI q)]) (rest := [.int (nI 0), .ref oq]) ⟨hx, hb, hml, hown, hts⟩ hK hP hD hS hA hl.1 (c_X4_foresee l E _ o ad wm st gr co hb_ mo ga ca ha_ ma sd tk op sp rc rn wa k q (by first | omega | assumption | rfl | (simp_all; done)) (by first | omega | assumption | rfl | (simp_all; done)) (by first | omega | assumption | rfl | (simp_all; done)) (by first | omega | assumption | rfl | (simp_all; done))) (cwV 2 hts gL_foresee_X4_foresee rfl rfl rfl (by decide +kernel) ⟨Nat.le_of_ble_eq_true rfl, Nat.le_of_ble_eq_true rfl⟩) [0, 1, 2, 3, 4, 5, 6, 7, 8, 9, 10, 11, 12, 13, 14, 15, 16, 17, 18, 19] [20] rfl rfl rfl rfl (by decide) (q0 := 0) (ci := 4) rfl rfl rfl rfl (Nat.le_of_ble_eq_true rfl) dL_foresee_5 ⟨Nat.le_of_ble_eq_true rfl, Nat.le_of_ble_eq_true rfl⟩ (fun u_1 H locs hu_2 hsz1 hP hD hS => ?_)
  obtain ⟨ga__3, ca__4, ha1__5, ma__6, op__7, sp__8, rc__9, rn__10, wa__11⟩ := u_1
  have hP : va_P E.1 vwCl (wAll E o ad wm st gr co hb_ (nI mo) ga__3 ca__4 ha1__5 (nI ma__6) sd tk op__7 sp__8 rc__9 rn__10 wa__11 ++ [(oq, .inl (E.2.2.2, 1, .inr (.inl lo)))]) H := hP.sub [1, 2, 3, 4, 5, 6, 7, 8, 9, 10, 11, 12, 13, 14, 15, 16, 17, 18, 19, 20, 0] rfl
  have hD : va_D A (wAll E o ad wm st gr co hb_ (nI mo) ga__3 ca__4 ha1__5 (nI ma__6) sd tk op__7 sp__8 rc__9 rn__10 wa__11 ++ [(oq, .inl (E.2.2.2, 1, .inr (.inl lo)))]) := hD.sub [1, 2, 3, 4, 5, 6, 7, 8, 9, 10, 11, 12, 13, 14, 15, 16, 17, 18, 19, 20, 0] (by decide) rfl
  refine W.eq (g2 := F0 m 8 ls [.int (forA (months wm st (gr, co) mo k).1 (months wm st (gr, co) mo k).2 q), .int (nI 0), .ref oq]) rfl ?_
  refine lv_i2l hx hb dL_foresee_8 rfl ?_
  refine e_last hK hP hD hS 20 rfl 0 (by omega) (by decide) hx hb dL_foresee_9 (fun H locs hP hD hS => ?_)
  have hP : va_P E.1 vwCl (wAll E o ad wm st gr co hb_ (nI mo) ga__3 ca__4 ha1__5 (nI ma__6) sd tk op__7 sp__8 rc__9 rn__10 wa__11 ++ [(oq, .inl (E.2.2.2, 1, .inr (.inl (vp_updL lo 0 ((forA (months wm st (gr, co) mo k).1 (months wm st (gr, co) mo k).2 q).toInt64)))))]) H := hP
  have hD : va_D A (wAll E o ad wm st gr co hb_ (nI mo) ga__3 ca__4 ha1__5 (nI ma__6) sd tk op__7 sp__8 rc__9 rn__10 wa__11 ++ [(oq, .inl (E.2.2.2, 1, .inr (.inl (vp_updL lo 0 ((forA (months wm st (gr, co) mo k).1 (months wm st (gr, co) mo k).2 q).toInt64)))))]) := hD
  refine lv_goto (tgt := 21) hx hb dL_foresee_10 (by decide) ?_
  refine lv_iconst (v := nI 0) hx hb dL_foresee_21 (by decide +kernel) ?_
  exact e_iret (ga__3, ca__4, ha1__5, ma__6, op__7, sp__8, rc__9, rn__10, wa__11) hQ hx hb hr hlocks hP hD hS dL_foresee_22 (rfl) (Nat.le_of_ble_eq_true rfl) (Nat.le_of_ble_eq_true rfl) (trivial)

abbrev rm_L_foresee_b1 : Room := { frames := 8, cells := 1, slots := 6, locals := 127 }
set_option maxHeartbeats 4000000 in
set_option maxRecDepth 100000 in
theorem c_L_foresee_b1 (l : Launch) (hlt : l.stackTraces = false) (E : eT) (sz : Nat) (o : Nat) (ad : Nat → Nat) (wm : Nat → Int32) (st : Nat → Int32) (gr : Nat → Int32) (co : Nat → Int32) (hb_ : Nat → Bool) (mo : Nat) (ga : Nat → Int32) (ca : Nat → Int32) (ha_ : Nat → Bool) (ma : Nat) (sd : Nat → Int32) (tk : Nat → Int32) (op : Nat → Bool) (sp : Nat → Nat) (rc : Nat → Nat) (rn : Nat) (wa : Nat → Int32) (x : Int32) (y : Int32) (oq : Nat) (lo : Nat → Int64) (hc : isInB x (nI 1) (nI 100) = false) : cMX l yL_foresee wsL_foresee rm_L_foresee_b1 E sz [.ref o, .int x, .int y, .ref oq] (wAll E o ad wm st gr co hb_ (nI mo) ga ca ha_ (nI ma) sd tk op sp rc rn wa ++ [(oq, .inl (E.2.2.2, 1, .inr (.inl lo)))]) (fun u : Unit => some (.int (nI 1))) (fun u : Unit => True) (fun u : Unit => wAll E o ad wm st gr co hb_ (nI mo) ga ca ha_ (nI ma) sd tk op sp rc rn wa ++ [(oq, .inl (E.2.2.2, 1, .inr (.inl lo)))]) := by
  refine cMX_introH (cc := cL_foresee) (maxL := 5) (ret := (some .int)) (by decide +kernel) rfl (Nat.le_of_ble_eq_true rfl) ?_
  intro p e s m args below meth cd hx hb hr hml hown hlocks hts hnm htab hK hsz hP A hD hA hX Q hQ ls hl
  have hown : s.vm.findClass RL = some m.cls := hown
  have hacl15 := hts (.classLink RL 15 "java/lang/IllegalArgumentException") (by decide +kernel)
  have hS : va_S A s.heap s.heap [] := va_S.rf
  have hl : lv_has ls 5 [(0, .ref o), (1, .int x), (2, .int y), (3, .ref oq)] := hl
  refine lv_aload_n hx hb dL_foresee_0 rfl (lv_at hl 3 rfl) ?_
  refine lv_iconst (v := nI 0) hx hb dL_foresee_1 (by decide +kernel) ?_
  refine lv_aload_n hx hb dL_foresee_2 rfl (lv_at hl 0 rfl) ?_
  refine lv_iload_n hx hb dL_foresee_3 rfl (lv_at hl 1 rfl) ?_
  refine lv_iload_n hx hb dL_foresee_4 rfl (lv_at hl 2 rfl) ?_
  refine e_callVX (As := [.int x, .int y]) (rest := [.int (nI 0), .ref oq]) ⟨hx, hb, hml, hown, hts⟩ hK hX hP hD hS hA hl.1 (c_X4_foresee_b1 l hlt E _ o ad wm st gr co hb_ mo ga ca ha_ ma sd tk op sp rc rn wa x y (by first | omega | assumption | rfl | (simp_all; done))) (cwV 2 hts gL_foresee_X4_foresee rfl rfl rfl (by decide +kernel) ⟨Nat.le_of_ble_eq_true rfl, Nat.le_of_ble_eq_true rfl⟩) [0, 1, 2, 3, 4, 5, 6, 7, 8, 9, 10, 11, 12, 13, 14, 15, 16, 17, 18, 19] [20] rfl rfl rfl rfl (by decide) (q0 := 0) (ci := 4) rfl rfl rfl rfl (Nat.le_of_ble_eq_true rfl) dL_foresee_5 ⟨Nat.le_of_ble_eq_true rfl, Nat.le_of_ble_eq_true rfl⟩ (fun ce q9 H locs hsz1 hP hD hS hcell hvm hcl => ?_)
  have hP : va_P E.1 vwCl (wAll E o ad wm st gr co hb_ (nI mo) ga ca ha_ (nI ma) sd tk op sp rc rn wa ++ [(oq, .inl (E.2.2.2, 1, .inr (.inl lo)))]) H := hP.sub [1, 2, 3, 4, 5, 6, 7, 8, 9, 10, 11, 12, 13, 14, 15, 16, 17, 18, 19, 20, 0] rfl
  have hD : va_D A (wAll E o ad wm st gr co hb_ (nI mo) ga ca ha_ (nI ma) sd tk op sp rc rn wa ++ [(oq, .inl (E.2.2.2, 1, .inr (.inl lo)))]) := hD.sub [1, 2, 3, 4, 5, 6, 7, 8, 9, 10, 11, 12, 13, 14, 15, 16, 17, 18, 19, 20, 0] (by decide) rfl
  refine vx_catch (name := "java/lang/IllegalArgumentException") (E := nX2) hown [] ⟨0, 10, 13, 15⟩ [⟨0, 10, 17, 13⟩] (htab.trans rfl) (fun _ h => nomatch h) (by decide +kernel) (by decide) hacl15 (va_Nw.use rfl hX.2.2.2.2.2.1) hcell hvm hcl ?_
  refine lv_astore (lv' := [(4, .ref q9), (0, .ref o), (1, .int x), (2, .int y), (3, .ref oq)]) hx hb dL_foresee_13 hl (by decide) rfl (fun ls hl => ?_)
  refine lv_iconst (v := nI 1) hx hb dL_foresee_15 (by decide +kernel) ?_
  exact e_iret () hQ hx hb hr hlocks hP hD hS dL_foresee_16 (rfl) (Nat.le_of_ble_eq_true rfl) (Nat.le_of_ble_eq_true rfl) (trivial)

abbrev rm_L_foresee_b2 : Room := { frames := 8, cells := 1, slots := 6, locals := 126 }
set_option maxHeartbeats 4000000 in
set_option maxRecDepth 100000 in
theorem c_L_foresee_b2 (l : Launch) (hlt : l.stackTraces = false) (E : eT) (sz : Nat) (o : Nat) (ad : Nat → Nat) (wm : Nat → Int32) (st : Nat → Int32) (gr : Nat → Int32) (co : Nat → Int32) (hb_ : Nat → Bool) (mo : Nat) (ga : Nat → Int32) (ca : Nat → Int32) (ha_ : Nat → Bool) (ma : Nat) (sd : Nat → Int32) (tk : Nat → Int32) (op : Nat → Bool) (sp : Nat → Nat) (rc : Nat → Nat) (rn : Nat) (wa : Nat → Int32) (k : Nat) (y : Int32) (oq : Nat) (lo : Nat → Int64) (hk1 : 1 ≤ k) (hk : k ≤ 100) (hc : isInB y (nI 0) (nI 2) = false) : cMX l yL_foresee wsL_foresee rm_L_foresee_b2 E sz [.ref o, .int (nI k), .int y, .ref oq] (wAll E o ad wm st gr co hb_ (nI mo) ga ca ha_ (nI ma) sd tk op sp rc rn wa ++ [(oq, .inl (E.2.2.2, 1, .inr (.inl lo)))]) (fun u : Unit => some (.int (nI 2))) (fun u : Unit => True) (fun u : Unit => wAll E o ad wm st gr co hb_ (nI mo) ga ca ha_ (nI ma) sd tk op sp rc rn wa ++ [(oq, .inl (E.2.2.2, 1, .inr (.inl lo)))]) := by
  refine cMX_introH (cc := cL_foresee) (maxL := 5) (ret := (some .int)) (by decide +kernel) rfl (Nat.le_of_ble_eq_true rfl) ?_
  intro p e s m args below meth cd hx hb hr hml hown hlocks hts hnm htab hK hsz hP A hD hA hX Q hQ ls hl
  have hown : s.vm.findClass RL = some m.cls := hown
  have hacl13 := hts (.classLink RL 13 "java/lang/IndexOutOfBoundsException") (by decide +kernel)
  have hacl15 := hts (.classLink RL 15 "java/lang/IllegalArgumentException") (by decide +kernel)
  have hS : va_S A s.heap s.heap [] := va_S.rf
  have hl : lv_has ls 5 [(0, .ref o), (1, .int (nI k)), (2, .int y), (3, .ref oq)] := hl
  refine lv_aload_n hx hb dL_foresee_0 rfl (lv_at hl 3 rfl) ?_
  refine lv_iconst (v := nI 0) hx hb dL_foresee_1 (by decide +kernel) ?_
  refine lv_aload_n hx hb dL_foresee_2 rfl (lv_at hl 0 rfl) ?_
  refine lv_iload_n hx hb dL_foresee_3 rfl (lv_at hl 1 rfl) ?_
  refine lv_iload_n hx hb dL_foresee_4 rfl (lv_at hl 2 rfl) ?_
  refine e_callVX (As := [.int (nI k), .int y]) (rest := [.int (nI 0), .ref oq]) ⟨hx, hb, hml, hown, hts⟩ hK hX hP hD hS hA hl.1 (c_X4_foresee_b2 l hlt E _ o ad wm st gr co hb_ mo ga ca ha_ ma sd tk op sp rc rn wa k y (by first | omega | assumption | rfl | (simp_all; done)) (by first | omega | assumption | rfl | (simp_all; done)) (by first | omega | assumption | rfl | (simp_all; done))) (cwV 2 hts gL_foresee_X4_foresee rfl rfl rfl (by decide +kernel) ⟨Nat.le_of_ble_eq_true rfl, Nat.le_of_ble_eq_true rfl⟩) [0, 1, 2, 3, 4, 5, 6, 7, 8, 9, 10, 11, 12, 13, 14, 15, 16, 17, 18, 19] [20] rfl rfl rfl rfl (by decide) (q0 := 0) (ci := 4) rfl rfl rfl rfl (Nat.le_of_ble_eq_true rfl) dL_foresee_5 ⟨Nat.le_of_ble_eq_true rfl, Nat.le_of_ble_eq_true rfl⟩ (fun ce q9 H locs hsz1 hP hD hS hcell hvm hcl => ?_)
  have hP : va_P E.1 vwCl (wAll E o ad wm st gr co hb_ (nI mo) ga ca ha_ (nI ma) sd tk op sp rc rn wa ++ [(oq, .inl (E.2.2.2, 1, .inr (.inl lo)))]) H := hP.sub [1, 2, 3, 4, 5, 6, 7, 8, 9, 10, 11, 12, 13, 14, 15, 16, 17, 18, 19, 20, 0] rfl
  have hD : va_D A (wAll E o ad wm st gr co hb_ (nI mo) ga ca ha_ (nI ma) sd tk op sp rc rn wa ++ [(oq, .inl (E.2.2.2, 1, .inr (.inl lo)))]) := hD.sub [1, 2, 3, 4, 5, 6, 7, 8, 9, 10, 11, 12, 13, 14, 15, 16, 17, 18, 19, 20, 0] (by decide) rfl
  refine vx_catch (name := "java/lang/IndexOutOfBoundsException") (E := nX1) hown [⟨0, 10, 13, 15⟩] ⟨0, 10, 17, 13⟩ [] (htab.trans rfl) (fun z hz => by cases List.mem_singleton.mp hz; exact Or.inr ⟨by decide, "java/lang/IllegalArgumentException", hacl15, hX.2.2.2.2.2.2.1⟩) (by decide +kernel) (by decide) hacl13 (va_Nw.use rfl hX.2.2.2.2.1) hcell hvm hcl ?_
  refine lv_astore (lv' := [(4, .ref q9), (0, .ref o), (1, .int (nI k)), (2, .int y), (3, .ref oq)]) hx hb dL_foresee_17 hl (by decide) rfl (fun ls hl => ?_)
  refine lv_iconst (v := nI 2) hx hb dL_foresee_19 (by decide +kernel) ?_
  exact e_iret () hQ hx hb hr hlocks hP hD hS dL_foresee_20 (rfl) (Nat.le_of_ble_eq_true rfl) (Nat.le_of_ble_eq_true rfl) (trivial)
