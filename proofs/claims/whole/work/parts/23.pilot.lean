abbrev rm_X4_safeDepth : Room := { frames := 1, cells := 0, slots := 0, locals := 22 }
set_option maxHeartbeats 4000000 in
set_option maxRecDepth 100000 in
theorem c_X4_safeDepth (l : Launch) (E : eT) (sz : Nat) (o : Nat) (ad : Nat → Nat) (wm : Nat → Int32) (st : Nat → Int32) (gr : Nat → Int32) (co : Nat → Int32) (hb_ : Nat → Bool) (mo : Nat) (ga : Nat → Int32) (ca : Nat → Int32) (ha_ : Nat → Bool) (ma : Nat) (sd : Nat → Int32) (tk : Nat → Int32) (op : Nat → Bool) (sp : Nat → Nat) (rc : Nat → Nat) (rn : Nat) (wa : Nat → Int32) (j : Nat) (hj : j < 81) : cM l yX4_safeDepth wsX4_safeDepth rm_X4_safeDepth E sz [.ref o, .int (nI j)] (wAll E o ad wm st gr co hb_ (nI mo) ga ca ha_ (nI ma) sd tk op sp rc rn wa) (fun u : Unit => some (.int (chSafe sd tk (nI mo) j))) (fun u : Unit => True) (fun u : Unit => wAll E o ad wm st gr co hb_ (nI mo) ga ca ha_ (nI ma) sd tk op sp rc rn wa) := by
  refine cM_intro (cc := cX4_safeDepth) (maxL := 3) (ret := (some .int)) (by decide +kernel) rfl (Nat.le_of_ble_eq_true rfl) ?_
  intro p e s m args below meth cd hx hb hr hml hown hlocks hts hnm hK hsz hP A hD hA Q hQ ls hl
  have hown : s.vm.findClass RX4 = some m.cls := hown
  have hin4 : ∀ w ∈ u_ws RX4 TX4 6, w ∈ wsX4_safeDepth := by decide +kernel
  have lk19 := hts (.fieldLink RX4 19 "ReefPilot" "coast" "LReefPilot$Coast;") (by decide +kernel)
  have lk29 := hts (.fieldLink RX4 29 "ReefPilot" "soundings" "LReefPilot$Soundings;") (by decide +kernel)
  have hamcmax := hts (.code Lib.Math.max.name Lib.Math.max.code 2 (some .int)) (by decide +kernel)
  have hamini := hts (.initialized "java/lang/Math") (by decide +kernel)
  have haml145 := hts (.methodLink RX4 145 Lib.Math.max.name) (by decide +kernel)
  have hamsmax := hts (.static Lib.Math.max.name) (by decide +kernel)
  have hS : va_S A s.heap s.heap [] := va_S.rf
  have hl : lv_has ls 3 [(0, .ref o), (1, .int (nI j))] := hl
  refine lv_aload_n hx hb dX4_safeDepth_0 rfl (lv_at hl 0 rfl) ?_
  refine va_get (D := E.1) (ci := 4) (v := .ref (ad 11)) (C := RX4) (T := TX4) (N := 6) hx hb hts hin4 hown hK.1 hP 0 rfl rfl 3 (by decide) lk29 (fun _ h9 => h9) rfl dX4_safeDepth_1 ?_
  refine lv_iload_n hx hb dX4_safeDepth_4 rfl (lv_at hl 1 rfl) ?_
  refine e_callV (As := [.int (nI j)]) (rest := []) ⟨hx, hb, hml, hown, hts⟩ hK hP hD hS hA hl.1 (c_X1_noted l E _ (ad 11) (ad 12) (ad 13) sd tk j (by first | omega | assumption | rfl | (simp_all; done))) (cwV 1 hts gX4_safeDepth_X1_noted rfl rfl rfl (by decide +kernel) ⟨Nat.le_of_ble_eq_true rfl, Nat.le_of_ble_eq_true rfl⟩) [12, 13, 14] [0, 1, 2, 3, 4, 5, 6, 7, 8, 9, 10, 11, 15, 16, 17, 18, 19] rfl rfl rfl rfl (by decide) (q0 := 12) (ci := 1) rfl rfl rfl rfl (Nat.le_of_ble_eq_true rfl) dX4_safeDepth_5 ⟨Nat.le_of_ble_eq_true rfl, Nat.le_of_ble_eq_true rfl⟩ (fun u_1 H locs hu_2 hsz1 hP hD hS => ?_)
  have hP : va_P E.1 vwCl (wAll E o ad wm st gr co hb_ (nI mo) ga ca ha_ (nI ma) sd tk op sp rc rn wa) H := hP.sub [0, 1, 2, 3, 4, 5, 6, 7, 8, 9, 10, 11, 17, 18, 19, 12, 13, 14, 15, 16] rfl
  have hD : va_D A (wAll E o ad wm st gr co hb_ (nI mo) ga ca ha_ (nI ma) sd tk op sp rc rn wa) := hD.sub [0, 1, 2, 3, 4, 5, 6, 7, 8, 9, 10, 11, 17, 18, 19, 12, 13, 14, 15, 16] (by decide) rfl
  refine W.eq (g2 := F0 m 8 ls [.int (sd j)]) rfl ?_
  refine lv_istore_n (lv' := [(2, .int (sd j)), (0, .ref o), (1, .int (nI j))]) hx hb dX4_safeDepth_8 rfl hl (by decide) rfl (fun ls hl => ?_)
  refine lv_iload_n hx hb dX4_safeDepth_9 rfl (lv_at hl 0 rfl) ?_
  refine lv_iconst (v := (-1)) hx hb dX4_safeDepth_10 (by decide +kernel) ?_
  refine lv_icmp_ne (tgt := 16) hx hb dX4_safeDepth_11 (by decide) (fun c11 => ?_) (fun c11 => ?_)
  · refine lv_iload_n hx hb dX4_safeDepth_16 rfl (lv_at hl 0 rfl) ?_
    refine lv_aload_n hx hb dX4_safeDepth_17 rfl (lv_at hl 1 rfl) ?_
    refine va_get (D := E.1) (ci := 4) (v := .ref (ad 11)) (C := RX4) (T := TX4) (N := 6) hx hb hts hin4 hown hK.1 hP 0 rfl rfl 3 (by decide) lk29 (fun _ h9 => h9) rfl dX4_safeDepth_18 ?_
    refine lv_iload_n hx hb dX4_safeDepth_21 rfl (lv_at hl 2 rfl) ?_
    refine lv_aload_n hx hb dX4_safeDepth_22 rfl (lv_at hl 1 rfl) ?_
    refine va_get (D := E.1) (ci := 4) (v := .ref (ad 3)) (C := RX4) (T := TX4) (N := 6) hx hb hts hin4 hown hK.1 hP 0 rfl rfl 1 (by decide) lk19 (fun _ h9 => h9) rfl dX4_safeDepth_23 ?_
    refine e_callV (As := []) (rest := [.int (nI j), .ref (ad 11), .int (sd j)]) ⟨hx, hb, hml, hown, hts⟩ hK hP hD hS hA hl.1 (c_X0_monthNow l E _ (ad 3) (ad 4) (ad 5) (ad 6) gr co hb_ (nI mo)) (cwV 0 hts gX4_safeDepth_X0_monthNow rfl rfl rfl (by decide +kernel) ⟨Nat.le_of_ble_eq_true rfl, Nat.le_of_ble_eq_true rfl⟩) [4, 5, 6, 7] [0, 1, 2, 3, 8, 9, 10, 11, 12, 13, 14, 15, 16, 17, 18, 19] rfl rfl rfl rfl (by decide) (q0 := 4) (ci := 0) rfl rfl rfl rfl (Nat.le_of_ble_eq_true rfl) dX4_safeDepth_26 ⟨Nat.le_of_ble_eq_true rfl, Nat.le_of_ble_eq_true rfl⟩ (fun u_3 H locs hu_4 hsz1 hP hD hS => ?_)
    have hP : va_P E.1 vwCl (wAll E o ad wm st gr co hb_ (nI mo) ga ca ha_ (nI ma) sd tk op sp rc rn wa) H := hP.sub [0, 1, 2, 3, 16, 17, 18, 19, 4, 5, 6, 7, 8, 9, 10, 11, 12, 13, 14, 15] rfl
    have hD : va_D A (wAll E o ad wm st gr co hb_ (nI mo) ga ca ha_ (nI ma) sd tk op sp rc rn wa) := hD.sub [0, 1, 2, 3, 16, 17, 18, 19, 4, 5, 6, 7, 8, 9, 10, 11, 12, 13, 14, 15] (by decide) rfl
    refine W.eq (g2 := F0 m 29 ls [.int (nI mo), .int (nI j), .ref (ad 11), .int (sd j)]) rfl ?_
    refine e_callV (As := [.int (nI j), .int (nI mo)]) (rest := [.int (sd j)]) ⟨hx, hb, hml, hown, hts⟩ hK hP hD hS hA hl.1 (c_X1_age l E _ (ad 11) (ad 12) (ad 13) sd tk j (nI mo) (by first | omega | assumption | rfl | (simp_all; done))) (cwV 2 hts gX4_safeDepth_X1_age rfl rfl rfl (by decide +kernel) ⟨Nat.le_of_ble_eq_true rfl, Nat.le_of_ble_eq_true rfl⟩) [12, 13, 14] [0, 1, 2, 3, 4, 5, 6, 7, 8, 9, 10, 11, 15, 16, 17, 18, 19] rfl rfl rfl rfl (by decide) (q0 := 12) (ci := 1) rfl rfl rfl rfl (Nat.le_of_ble_eq_true rfl) dX4_safeDepth_29 ⟨Nat.le_of_ble_eq_true rfl, Nat.le_of_ble_eq_true rfl⟩ (fun u_5 H locs hu_6 hsz1 hP hD hS => ?_)
    have hP : va_P E.1 vwCl (wAll E o ad wm st gr co hb_ (nI mo) ga ca ha_ (nI ma) sd tk op sp rc rn wa) H := hP.sub [0, 1, 2, 3, 4, 5, 6, 7, 8, 9, 10, 11, 17, 18, 19, 12, 13, 14, 15, 16] rfl
    have hD : va_D A (wAll E o ad wm st gr co hb_ (nI mo) ga ca ha_ (nI ma) sd tk op sp rc rn wa) := hD.sub [0, 1, 2, 3, 4, 5, 6, 7, 8, 9, 10, 11, 17, 18, 19, 12, 13, 14, 15, 16] (by decide) rfl
    refine W.eq (g2 := F0 m 32 ls [.int (chOld sd tk (nI mo) j), .int (sd j)]) rfl ?_
    refine lv_iconst (v := nI 2) hx hb dX4_safeDepth_32 (by decide +kernel) ?_
    refine lv_idiv hx hb dX4_safeDepth_33 (by decide +kernel) ?_
    refine lv_isub hx hb dX4_safeDepth_34 ?_
    refine lv_iconst (v := nI 0) hx hb dX4_safeDepth_35 (by decide +kernel) ?_
    refine va_mmax hx hb (by rw [hml]; exact hl.1.symm) hown haml145 hamsmax hamini hamcmax (Nat.le_of_ble_eq_true rfl) (Nat.le_of_ble_eq_true rfl) (Nat.le_of_ble_eq_true rfl) (Nat.le_of_ble_eq_true rfl) dX4_safeDepth_36 ?_
    refine e_top (y := iMax ((sd j) - ((chOld sd tk (nI mo) j) / (nI 2))) (nI 0)) rfl ?_
    exact e_iret () hQ hx hb hr hlocks hP hD hS dX4_safeDepth_39 (rvi (by unfold chSafe; rw [if_neg c11]; unfold chOld; rw [if_neg c11])) (Nat.le_of_ble_eq_true rfl) (Nat.le_of_ble_eq_true rfl) (trivial)
  · refine lv_iconst (v := (-1)) hx hb dX4_safeDepth_14 (by decide +kernel) ?_
    exact e_iret () hQ hx hb hr hlocks hP hD hS dX4_safeDepth_15 (rvi (by unfold chSafe; rw [if_pos c11])) (Nat.le_of_ble_eq_true rfl) (Nat.le_of_ble_eq_true rfl) (trivial)

abbrev rm_X4_chartAnswer : Room := { frames := 2, cells := 0, slots := 0, locals := 44 }
set_option maxHeartbeats 4000000 in
set_option maxRecDepth 100000 in
theorem c_X4_chartAnswer (l : Launch) (E : eT) (sz : Nat) (o : Nat) (ad : Nat → Nat) (wm : Nat → Int32) (st : Nat → Int32) (gr : Nat → Int32) (co : Nat → Int32) (hb_ : Nat → Bool) (mo : Nat) (ga : Nat → Int32) (ca : Nat → Int32) (ha_ : Nat → Bool) (ma : Nat) (sd : Nat → Int32) (tk : Nat → Int32) (op : Nat → Bool) (sp : Nat → Nat) (rc : Nat → Nat) (rn : Nat) (wa : Nat → Int32) (j : Nat) (k : Nat) (hj : j < 81) (hk : k < 3) : cM l yX4_chartAnswer wsX4_chartAnswer rm_X4_chartAnswer E sz [.ref o, .int (nI j), .int (nI k)] (wAll E o ad wm st gr co hb_ (nI mo) ga ca ha_ (nI ma) sd tk op sp rc rn wa) (fun u : Unit => some (.int (chA sd tk (nI mo) j k))) (fun u : Unit => True) (fun u : Unit => wAll E o ad wm st gr co hb_ (nI mo) ga ca ha_ (nI ma) sd tk op sp rc rn wa) := by
  refine cM_intro (cc := cX4_chartAnswer) (maxL := 3) (ret := (some .int)) (by decide +kernel) rfl (Nat.le_of_ble_eq_true rfl) ?_
  intro p e s m args below meth cd hx hb hr hml hown hlocks hts hnm hK hsz hP A hD hA Q hQ ls hl
  have hown : s.vm.findClass RX4 = some m.cls := hown
  have hin4 : ∀ w ∈ u_ws RX4 TX4 6, w ∈ wsX4_chartAnswer := by decide +kernel
  have lk19 := hts (.fieldLink RX4 19 "ReefPilot" "coast" "LReefPilot$Coast;") (by decide +kernel)
  have lk29 := hts (.fieldLink RX4 29 "ReefPilot" "soundings" "LReefPilot$Soundings;") (by decide +kernel)
  have hS : va_S A s.heap s.heap [] := va_S.rf
  have hl : lv_has ls 3 [(0, .ref o), (1, .int (nI j)), (2, .int (nI k))] := hl
  refine lv_iload_n hx hb dX4_chartAnswer_0 rfl (lv_at hl 2 rfl) ?_
  rcases (show k = 0 ∨ k = 1 ∨ k = 2 by omega) with rfl | rfl | rfl
  · refine lv_lookup (off := 27) (tgt := 28) hx hb dX4_chartAnswer_1 (by decide +kernel) (by decide +kernel) (by decide) ?_
    refine lv_aload_n hx hb dX4_chartAnswer_28 rfl (lv_at hl 0 rfl) ?_
    refine va_get (D := E.1) (ci := 4) (v := .ref (ad 11)) (C := RX4) (T := TX4) (N := 6) hx hb hts hin4 hown hK.1 hP 0 rfl rfl 3 (by decide) lk29 (fun _ h9 => h9) rfl dX4_chartAnswer_29 ?_
    refine lv_iload_n hx hb dX4_chartAnswer_32 rfl (lv_at hl 1 rfl) ?_
    refine e_callV (As := [.int (nI j)]) (rest := []) ⟨hx, hb, hml, hown, hts⟩ hK hP hD hS hA hl.1 (c_X1_noted l E _ (ad 11) (ad 12) (ad 13) sd tk j (by first | omega | assumption | rfl | (simp_all; done))) (cwV 1 hts gX4_chartAnswer_X1_noted rfl rfl rfl (by decide +kernel) ⟨Nat.le_of_ble_eq_true rfl, Nat.le_of_ble_eq_true rfl⟩) [12, 13, 14] [0, 1, 2, 3, 4, 5, 6, 7, 8, 9, 10, 11, 15, 16, 17, 18, 19] rfl rfl rfl rfl (by decide) (q0 := 12) (ci := 1) rfl rfl rfl rfl (Nat.le_of_ble_eq_true rfl) dX4_chartAnswer_33 ⟨Nat.le_of_ble_eq_true rfl, Nat.le_of_ble_eq_true rfl⟩ (fun u_1 H locs hu_2 hsz1 hP hD hS => ?_)
    have hP : va_P E.1 vwCl (wAll E o ad wm st gr co hb_ (nI mo) ga ca ha_ (nI ma) sd tk op sp rc rn wa) H := hP.sub [0, 1, 2, 3, 4, 5, 6, 7, 8, 9, 10, 11, 17, 18, 19, 12, 13, 14, 15, 16] rfl
    have hD : va_D A (wAll E o ad wm st gr co hb_ (nI mo) ga ca ha_ (nI ma) sd tk op sp rc rn wa) := hD.sub [0, 1, 2, 3, 4, 5, 6, 7, 8, 9, 10, 11, 17, 18, 19, 12, 13, 14, 15, 16] (by decide) rfl
    refine W.eq (g2 := F0 m 36 ls [.int (sd j)]) rfl ?_
    exact e_iret () hQ hx hb hr hlocks hP hD hS dX4_chartAnswer_36 (rfl) (Nat.le_of_ble_eq_true rfl) (Nat.le_of_ble_eq_true rfl) (trivial)
  · refine lv_lookup (off := 36) (tgt := 37) hx hb dX4_chartAnswer_1 (by decide +kernel) (by decide +kernel) (by decide) ?_
    refine lv_aload_n hx hb dX4_chartAnswer_37 rfl (lv_at hl 0 rfl) ?_
    refine va_get (D := E.1) (ci := 4) (v := .ref (ad 11)) (C := RX4) (T := TX4) (N := 6) hx hb hts hin4 hown hK.1 hP 0 rfl rfl 3 (by decide) lk29 (fun _ h9 => h9) rfl dX4_chartAnswer_38 ?_
    refine lv_iload_n hx hb dX4_chartAnswer_41 rfl (lv_at hl 1 rfl) ?_
    refine lv_aload_n hx hb dX4_chartAnswer_42 rfl (lv_at hl 0 rfl) ?_
    refine va_get (D := E.1) (ci := 4) (v := .ref (ad 3)) (C := RX4) (T := TX4) (N := 6) hx hb hts hin4 hown hK.1 hP 0 rfl rfl 1 (by decide) lk19 (fun _ h9 => h9) rfl dX4_chartAnswer_43 ?_
    refine e_callV (As := []) (rest := [.int (nI j), .ref (ad 11)]) ⟨hx, hb, hml, hown, hts⟩ hK hP hD hS hA hl.1 (c_X0_monthNow l E _ (ad 3) (ad 4) (ad 5) (ad 6) gr co hb_ (nI mo)) (cwV 0 hts gX4_chartAnswer_X0_monthNow rfl rfl rfl (by decide +kernel) ⟨Nat.le_of_ble_eq_true rfl, Nat.le_of_ble_eq_true rfl⟩) [4, 5, 6, 7] [0, 1, 2, 3, 8, 9, 10, 11, 12, 13, 14, 15, 16, 17, 18, 19] rfl rfl rfl rfl (by decide) (q0 := 4) (ci := 0) rfl rfl rfl rfl (Nat.le_of_ble_eq_true rfl) dX4_chartAnswer_46 ⟨Nat.le_of_ble_eq_true rfl, Nat.le_of_ble_eq_true rfl⟩ (fun u_3 H locs hu_4 hsz1 hP hD hS => ?_)
    have hP : va_P E.1 vwCl (wAll E o ad wm st gr co hb_ (nI mo) ga ca ha_ (nI ma) sd tk op sp rc rn wa) H := hP.sub [0, 1, 2, 3, 16, 17, 18, 19, 4, 5, 6, 7, 8, 9, 10, 11, 12, 13, 14, 15] rfl
    have hD : va_D A (wAll E o ad wm st gr co hb_ (nI mo) ga ca ha_ (nI ma) sd tk op sp rc rn wa) := hD.sub [0, 1, 2, 3, 16, 17, 18, 19, 4, 5, 6, 7, 8, 9, 10, 11, 12, 13, 14, 15] (by decide) rfl
    refine W.eq (g2 := F0 m 49 ls [.int (nI mo), .int (nI j), .ref (ad 11)]) rfl ?_
    refine e_callV (As := [.int (nI j), .int (nI mo)]) (rest := []) ⟨hx, hb, hml, hown, hts⟩ hK hP hD hS hA hl.1 (c_X1_age l E _ (ad 11) (ad 12) (ad 13) sd tk j (nI mo) (by first | omega | assumption | rfl | (simp_all; done))) (cwV 2 hts gX4_chartAnswer_X1_age rfl rfl rfl (by decide +kernel) ⟨Nat.le_of_ble_eq_true rfl, Nat.le_of_ble_eq_true rfl⟩) [12, 13, 14] [0, 1, 2, 3, 4, 5, 6, 7, 8, 9, 10, 11, 15, 16, 17, 18, 19] rfl rfl rfl rfl (by decide) (q0 := 12) (ci := 1) rfl rfl rfl rfl (Nat.le_of_ble_eq_true rfl) dX4_chartAnswer_49 ⟨Nat.le_of_ble_eq_true rfl, Nat.le_of_ble_eq_true rfl⟩ (fun u_5 H locs hu_6 hsz1 hP hD hS => ?_)
    have hP : va_P E.1 vwCl (wAll E o ad wm st gr co hb_ (nI mo) ga ca ha_ (nI ma) sd tk op sp rc rn wa) H := hP.sub [0, 1, 2, 3, 4, 5, 6, 7, 8, 9, 10, 11, 17, 18, 19, 12, 13, 14, 15, 16] rfl
    have hD : va_D A (wAll E o ad wm st gr co hb_ (nI mo) ga ca ha_ (nI ma) sd tk op sp rc rn wa) := hD.sub [0, 1, 2, 3, 4, 5, 6, 7, 8, 9, 10, 11, 17, 18, 19, 12, 13, 14, 15, 16] (by decide) rfl
    refine W.eq (g2 := F0 m 52 ls [.int (chOld sd tk (nI mo) j)]) rfl ?_
    exact e_iret () hQ hx hb hr hlocks hP hD hS dX4_chartAnswer_52 (rfl) (Nat.le_of_ble_eq_true rfl) (Nat.le_of_ble_eq_true rfl) (trivial)
  · refine lv_lookup (off := 52) (tgt := 53) hx hb dX4_chartAnswer_1 (by decide +kernel) (by decide +kernel) (by decide) ?_
    refine lv_aload_n hx hb dX4_chartAnswer_53 rfl (lv_at hl 0 rfl) ?_
    refine lv_iload_n hx hb dX4_chartAnswer_54 rfl (lv_at hl 1 rfl) ?_
    refine e_callV (As := [.int (nI j)]) (rest := []) ⟨hx, hb, hml, hown, hts⟩ hK hP hD hS hA hl.1 (c_X4_safeDepth l E _ o ad wm st gr co hb_ mo ga ca ha_ ma sd tk op sp rc rn wa j (by first | omega | assumption | rfl | (simp_all; done))) (cwV 1 hts gX4_chartAnswer_X4_safeDepth rfl rfl rfl (by decide +kernel) ⟨Nat.le_of_ble_eq_true rfl, Nat.le_of_ble_eq_true rfl⟩) [0, 1, 2, 3, 4, 5, 6, 7, 8, 9, 10, 11, 12, 13, 14, 15, 16, 17, 18, 19] [] rfl rfl rfl rfl (by decide) (q0 := 0) (ci := 4) rfl rfl rfl rfl (Nat.le_of_ble_eq_true rfl) dX4_chartAnswer_55 ⟨Nat.le_of_ble_eq_true rfl, Nat.le_of_ble_eq_true rfl⟩ (fun u_7 H locs hu_8 hsz1 hP hD hS => ?_)
    have hP : va_P E.1 vwCl (wAll E o ad wm st gr co hb_ (nI mo) ga ca ha_ (nI ma) sd tk op sp rc rn wa) H := hP.sub [0, 1, 2, 3, 4, 5, 6, 7, 8, 9, 10, 11, 12, 13, 14, 15, 16, 17, 18, 19] rfl
    have hD : va_D A (wAll E o ad wm st gr co hb_ (nI mo) ga ca ha_ (nI ma) sd tk op sp rc rn wa) := hD.sub [0, 1, 2, 3, 4, 5, 6, 7, 8, 9, 10, 11, 12, 13, 14, 15, 16, 17, 18, 19] (by decide) rfl
    refine W.eq (g2 := F0 m 58 ls [.int (chSafe sd tk (nI mo) j)]) rfl ?_
    exact e_iret () hQ hx hb hr hlocks hP hD hS dX4_chartAnswer_58 (rfl) (Nat.le_of_ble_eq_true rfl) (Nat.le_of_ble_eq_true rfl) (trivial)

abbrev rm_X4_soundingsTaken : Room := { frames := 1, cells := 0, slots := 0, locals := 21 }
set_option maxHeartbeats 4000000 in
set_option maxRecDepth 100000 in
theorem c_X4_soundingsTaken (l : Launch) (E : eT) (sz : Nat) (o : Nat) (ad : Nat → Nat) (wm : Nat → Int32) (st : Nat → Int32) (gr : Nat → Int32) (co : Nat → Int32) (hb_ : Nat → Bool) (mo : Nat) (ga : Nat → Int32) (ca : Nat → Int32) (ha_ : Nat → Bool) (ma : Nat) (sd : Nat → Int32) (tk : Nat → Int32) (op : Nat → Bool) (sp : Nat → Nat) (rc : Nat → Nat) (rn : Nat) (wa : Nat → Int32) : cM l yX4_soundingsTaken wsX4_soundingsTaken rm_X4_soundingsTaken E sz [.ref o] (wAll E o ad wm st gr co hb_ (nI mo) ga ca ha_ (nI ma) sd tk op sp rc rn wa) (fun u : Unit => some (.int (nI (takenN sd)))) (fun u : Unit => True) (fun u : Unit => wAll E o ad wm st gr co hb_ (nI mo) ga ca ha_ (nI ma) sd tk op sp rc rn wa) := by
  refine cM_intro (cc := cX4_soundingsTaken) (maxL := 3) (ret := (some .int)) (by decide +kernel) rfl (Nat.le_of_ble_eq_true rfl) ?_
  intro p e s m args below meth cd hx hb hr hml hown hlocks hts hnm hK hsz hP A hD hA Q hQ ls hl
  have hown : s.vm.findClass RX4 = some m.cls := hown
  have hin4 : ∀ w ∈ u_ws RX4 TX4 6, w ∈ wsX4_soundingsTaken := by decide +kernel
  have lk29 := hts (.fieldLink RX4 29 "ReefPilot" "soundings" "LReefPilot$Soundings;") (by decide +kernel)
  have hS : va_S A s.heap s.heap [] := va_S.rf
  have hl : lv_has ls 3 [(0, .ref o)] := hl
  refine lv_iconst (v := nI 0) hx hb dX4_soundingsTaken_0 (by decide +kernel) ?_
  refine lv_istore_n (lv' := [(1, .int (nI 0)), (0, .ref o)]) hx hb dX4_soundingsTaken_1 rfl hl (by decide) rfl (fun ls hl => ?_)
  refine lv_iconst (v := nI 0) hx hb dX4_soundingsTaken_2 (by decide +kernel) ?_
  refine lv_istore_n (lv' := [(2, .int (nI 0)), (1, .int (nI 0)), (0, .ref o)]) hx hb dX4_soundingsTaken_3 rfl hl (by decide) rfl (fun ls hl => ?_)
  have L4 : ∀ (fuel : Nat) (x : Nat) (z : Nat) (hz : z ≤ 81) (hx_ : x = fb_ct (fun k => !decide (sd k = (-1))) z) (hfuel : 81 - z < fuel) (H : Heap) (locs : List Loc), va_P E.1 vwCl (wAll E o ad wm st gr co hb_ (nI mo) ga ca ha_ (nI ma) sd tk op sp rc rn wa) H → va_D A (wAll E o ad wm st gr co hb_ (nI mo) ga ca ha_ (nI ma) sd tk op sp rc rn wa) → va_S A s.heap H locs → ∀ ls : Array Slot, lv_has ls 3 [(2, .int (nI z)), (1, .int (nI x)), (0, .ref o)] → W p l e rm_X4_soundingsTaken s m args below meth cd H locs 0 0 Q (F0 m 4 ls []) := by
    intro fuel
    induction fuel with
    | zero => intros; omega
    | succ fuel ihL4 =>
      intro x z hz hx_ hfuel H locs hP hD hS ls hl
      refine lv_iload_n hx hb dX4_soundingsTaken_4 rfl (lv_at hl 0 rfl) ?_
      have hxz := fb_ct_le (fun k => !decide (sd k = (-1))) z
      refine lv_bipush (v := nI 81) hx hb dX4_soundingsTaken_5 (by decide +kernel) ?_
      refine n_icmp_ge (x := z) (y := 81) (by omega) (by omega) (tgt := 31) hx hb dX4_soundingsTaken_7 (by decide) (fun c7 => ?_) (fun c7 => ?_)
      · refine lv_iload_n hx hb dX4_soundingsTaken_31 rfl (lv_at hl 1 rfl) ?_
        exact e_iret () hQ hx hb hr hlocks hP hD hS dX4_soundingsTaken_32 (rvi (by rw [hx_, show z = 81 by omega]; rfl)) (Nat.le_of_ble_eq_true rfl) (Nat.le_of_ble_eq_true rfl) (trivial)
      · refine lv_aload_n hx hb dX4_soundingsTaken_10 rfl (lv_at hl 2 rfl) ?_
        refine va_get (D := E.1) (ci := 4) (v := .ref (ad 11)) (C := RX4) (T := TX4) (N := 6) hx hb hts hin4 hown hK.1 hP 0 rfl rfl 3 (by decide) lk29 (fun _ h9 => h9) rfl dX4_soundingsTaken_11 ?_
        refine lv_iload_n hx hb dX4_soundingsTaken_14 rfl (lv_at hl 0 rfl) ?_
        refine e_callV (As := [.int (nI z)]) (rest := []) ⟨hx, hb, hml, hown, hts⟩ hK hP hD hS hA hl.1 (c_X1_noted l E _ (ad 11) (ad 12) (ad 13) sd tk z (by first | omega | assumption | rfl | (simp_all; done))) (cwV 1 hts gX4_soundingsTaken_X1_noted rfl rfl rfl (by decide +kernel) ⟨Nat.le_of_ble_eq_true rfl, Nat.le_of_ble_eq_true rfl⟩) [12, 13, 14] [0, 1, 2, 3, 4, 5, 6, 7, 8, 9, 10, 11, 15, 16, 17, 18, 19] rfl rfl rfl rfl (by decide) (q0 := 12) (ci := 1) rfl rfl rfl rfl (Nat.le_of_ble_eq_true rfl) dX4_soundingsTaken_15 ⟨Nat.le_of_ble_eq_true rfl, Nat.le_of_ble_eq_true rfl⟩ (fun u_1 H locs hu_2 hsz1 hP hD hS => ?_)
        have hP : va_P E.1 vwCl (wAll E o ad wm st gr co hb_ (nI mo) ga ca ha_ (nI ma) sd tk op sp rc rn wa) H := hP.sub [0, 1, 2, 3, 4, 5, 6, 7, 8, 9, 10, 11, 17, 18, 19, 12, 13, 14, 15, 16] rfl
        have hD : va_D A (wAll E o ad wm st gr co hb_ (nI mo) ga ca ha_ (nI ma) sd tk op sp rc rn wa) := hD.sub [0, 1, 2, 3, 4, 5, 6, 7, 8, 9, 10, 11, 17, 18, 19, 12, 13, 14, 15, 16] (by decide) rfl
        refine W.eq (g2 := F0 m 18 ls [.int (sd z)]) rfl ?_
        refine lv_iconst (v := (-1)) hx hb dX4_soundingsTaken_18 (by decide +kernel) ?_
        refine lv_icmp_eq (tgt := 25) hx hb dX4_soundingsTaken_19 (by decide) (fun c19 => ?_) (fun c19 => ?_)
        · refine lv_iinc (v := nI (z + 1)) (lv' := [(2, .int (nI (z + 1))), (1, .int (nI x)), (0, .ref o)]) hx hb dX4_soundingsTaken_25 hl (k := 0) rfl (nI_add z 1) (by decide) rfl (fun ls hl => ?_)
          refine lv_goto (tgt := 4) hx hb dX4_soundingsTaken_28 (by decide) ?_
          exact ihL4 x (z + 1) (by first | omega | assumption | rfl | (simp_all; done)) (by first | (rw [fb_t (f := fun k => !decide (sd k = (-1))) (nd_t c19), hx_]; done) | (rw [fb_f (f := fun k => !decide (sd k = (-1))) (nd_f c19), hx_]; done)) (by omega) _ _ hP hD hS _ (lv_sub hl [0, 1, 2] rfl)
        · refine lv_iinc (v := nI (x + 1)) (lv' := [(1, .int (nI (x + 1))), (2, .int (nI z)), (0, .ref o)]) hx hb dX4_soundingsTaken_22 hl (k := 1) rfl (nI_add x 1) (by decide) rfl (fun ls hl => ?_)
          refine lv_iinc (v := nI (z + 1)) (lv' := [(2, .int (nI (z + 1))), (1, .int (nI (x + 1))), (0, .ref o)]) hx hb dX4_soundingsTaken_25 hl (k := 1) rfl (nI_add z 1) (by decide) rfl (fun ls hl => ?_)
          refine lv_goto (tgt := 4) hx hb dX4_soundingsTaken_28 (by decide) ?_
          exact ihL4 (x + 1) (z + 1) (by first | omega | assumption | rfl | (simp_all; done)) (by first | (rw [fb_t (f := fun k => !decide (sd k = (-1))) (nd_t c19), hx_]; done) | (rw [fb_f (f := fun k => !decide (sd k = (-1))) (nd_f c19), hx_]; done)) (by omega) _ _ hP hD hS _ (lv_sub hl [0, 1, 2] rfl)
  exact L4 (81 - 0 + 1) 0 0 (by first | omega | assumption | rfl | (simp_all; done)) (rfl) (Nat.lt_succ_self _) _ _ hP hD hS _ (lv_sub hl [0, 1, 2] rfl)

abbrev rm_X4_soundingsTooDeep : Room := { frames := 2, cells := 0, slots := 0, locals := 34 }
set_option maxHeartbeats 4000000 in
set_option maxRecDepth 100000 in
theorem c_X4_soundingsTooDeep (l : Launch) (E : eT) (sz : Nat) (o : Nat) (ad : Nat → Nat) (wm : Nat → Int32) (st : Nat → Int32) (gr : Nat → Int32) (co : Nat → Int32) (hb_ : Nat → Bool) (mo : Nat) (ga : Nat → Int32) (ca : Nat → Int32) (ha_ : Nat → Bool) (ma : Nat) (sd : Nat → Int32) (tk : Nat → Int32) (op : Nat → Bool) (sp : Nat → Nat) (rc : Nat → Nat) (rn : Nat) (wa : Nat → Int32) : cM l yX4_soundingsTooDeep wsX4_soundingsTooDeep rm_X4_soundingsTooDeep E sz [.ref o] (wAll E o ad wm st gr co hb_ (nI mo) ga ca ha_ (nI ma) sd tk op sp rc rn wa) (fun u : Unit => some (.int (nI (deepN gr co sd)))) (fun u : Unit => True) (fun u : Unit => wAll E o ad wm st gr co hb_ (nI mo) ga ca ha_ (nI ma) sd tk op sp rc rn wa) := by
  refine cM_intro (cc := cX4_soundingsTooDeep) (maxL := 3) (ret := (some .int)) (by decide +kernel) rfl (Nat.le_of_ble_eq_true rfl) ?_
  intro p e s m args below meth cd hx hb hr hml hown hlocks hts hnm hK hsz hP A hD hA Q hQ ls hl
  have hown : s.vm.findClass RX4 = some m.cls := hown
  have hin4 : ∀ w ∈ u_ws RX4 TX4 6, w ∈ wsX4_soundingsTooDeep := by decide +kernel
  have lk19 := hts (.fieldLink RX4 19 "ReefPilot" "coast" "LReefPilot$Coast;") (by decide +kernel)
  have lk29 := hts (.fieldLink RX4 29 "ReefPilot" "soundings" "LReefPilot$Soundings;") (by decide +kernel)
  have hS : va_S A s.heap s.heap [] := va_S.rf
  have hl : lv_has ls 3 [(0, .ref o)] := hl
  refine lv_iconst (v := nI 0) hx hb dX4_soundingsTooDeep_0 (by decide +kernel) ?_
  refine lv_istore_n (lv' := [(1, .int (nI 0)), (0, .ref o)]) hx hb dX4_soundingsTooDeep_1 rfl hl (by decide) rfl (fun ls hl => ?_)
  refine lv_iconst (v := nI 0) hx hb dX4_soundingsTooDeep_2 (by decide +kernel) ?_
  refine lv_istore_n (lv' := [(2, .int (nI 0)), (1, .int (nI 0)), (0, .ref o)]) hx hb dX4_soundingsTooDeep_3 rfl hl (by decide) rfl (fun ls hl => ?_)
  have L4 : ∀ (fuel : Nat) (x : Nat) (z : Nat) (hz : z ≤ 81) (hx_ : x = fb_ct (fun k => !decide (sd k ≤ dep gr co k)) z) (hfuel : 81 - z < fuel) (H : Heap) (locs : List Loc), va_P E.1 vwCl (wAll E o ad wm st gr co hb_ (nI mo) ga ca ha_ (nI ma) sd tk op sp rc rn wa) H → va_D A (wAll E o ad wm st gr co hb_ (nI mo) ga ca ha_ (nI ma) sd tk op sp rc rn wa) → va_S A s.heap H locs → ∀ ls : Array Slot, lv_has ls 3 [(2, .int (nI z)), (1, .int (nI x)), (0, .ref o)] → W p l e rm_X4_soundingsTooDeep s m args below meth cd H locs 0 0 Q (F0 m 4 ls []) := by
    intro fuel
    induction fuel with
    | zero => intros; omega
    | succ fuel ihL4 =>
      intro x z hz hx_ hfuel H locs hP hD hS ls hl
      refine lv_iload_n hx hb dX4_soundingsTooDeep_4 rfl (lv_at hl 0 rfl) ?_
      have hxz := fb_ct_le (fun k => !decide (sd k ≤ dep gr co k)) z
      refine lv_bipush (v := nI 81) hx hb dX4_soundingsTooDeep_5 (by decide +kernel) ?_
      refine n_icmp_ge (x := z) (y := 81) (by omega) (by omega) (tgt := 38) hx hb dX4_soundingsTooDeep_7 (by decide) (fun c7 => ?_) (fun c7 => ?_)
      · refine lv_iload_n hx hb dX4_soundingsTooDeep_38 rfl (lv_at hl 1 rfl) ?_
        exact e_iret () hQ hx hb hr hlocks hP hD hS dX4_soundingsTooDeep_39 (rvi (by rw [hx_, show z = 81 by omega]; rfl)) (Nat.le_of_ble_eq_true rfl) (Nat.le_of_ble_eq_true rfl) (trivial)
      · refine lv_aload_n hx hb dX4_soundingsTooDeep_10 rfl (lv_at hl 2 rfl) ?_
        refine va_get (D := E.1) (ci := 4) (v := .ref (ad 11)) (C := RX4) (T := TX4) (N := 6) hx hb hts hin4 hown hK.1 hP 0 rfl rfl 3 (by decide) lk29 (fun _ h9 => h9) rfl dX4_soundingsTooDeep_11 ?_
        refine lv_iload_n hx hb dX4_soundingsTooDeep_14 rfl (lv_at hl 0 rfl) ?_
        refine e_callV (As := [.int (nI z)]) (rest := []) ⟨hx, hb, hml, hown, hts⟩ hK hP hD hS hA hl.1 (c_X1_noted l E _ (ad 11) (ad 12) (ad 13) sd tk z (by first | omega | assumption | rfl | (simp_all; done))) (cwV 1 hts gX4_soundingsTooDeep_X1_noted rfl rfl rfl (by decide +kernel) ⟨Nat.le_of_ble_eq_true rfl, Nat.le_of_ble_eq_true rfl⟩) [12, 13, 14] [0, 1, 2, 3, 4, 5, 6, 7, 8, 9, 10, 11, 15, 16, 17, 18, 19] rfl rfl rfl rfl (by decide) (q0 := 12) (ci := 1) rfl rfl rfl rfl (Nat.le_of_ble_eq_true rfl) dX4_soundingsTooDeep_15 ⟨Nat.le_of_ble_eq_true rfl, Nat.le_of_ble_eq_true rfl⟩ (fun u_1 H locs hu_2 hsz1 hP hD hS => ?_)
        have hP : va_P E.1 vwCl (wAll E o ad wm st gr co hb_ (nI mo) ga ca ha_ (nI ma) sd tk op sp rc rn wa) H := hP.sub [0, 1, 2, 3, 4, 5, 6, 7, 8, 9, 10, 11, 17, 18, 19, 12, 13, 14, 15, 16] rfl
        have hD : va_D A (wAll E o ad wm st gr co hb_ (nI mo) ga ca ha_ (nI ma) sd tk op sp rc rn wa) := hD.sub [0, 1, 2, 3, 4, 5, 6, 7, 8, 9, 10, 11, 17, 18, 19, 12, 13, 14, 15, 16] (by decide) rfl
        refine W.eq (g2 := F0 m 18 ls [.int (sd z)]) rfl ?_
        refine lv_aload_n hx hb dX4_soundingsTooDeep_18 rfl (lv_at hl 2 rfl) ?_
        refine va_get (D := E.1) (ci := 4) (v := .ref (ad 3)) (C := RX4) (T := TX4) (N := 6) hx hb hts hin4 hown hK.1 hP 0 rfl rfl 1 (by decide) lk19 (fun _ h9 => h9) rfl dX4_soundingsTooDeep_19 ?_
        refine lv_iload_n hx hb dX4_soundingsTooDeep_22 rfl (lv_at hl 0 rfl) ?_
        refine e_callV (As := [.int (nI z)]) (rest := [.int (sd z)]) ⟨hx, hb, hml, hown, hts⟩ hK hP hD hS hA hl.1 (c_X0_depthOf l E _ (ad 3) (ad 4) (ad 5) (ad 6) gr co hb_ (nI mo) z (by first | omega | assumption | rfl | (simp_all; done))) (cwV 1 hts gX4_soundingsTooDeep_X0_depthOf rfl rfl rfl (by decide +kernel) ⟨Nat.le_of_ble_eq_true rfl, Nat.le_of_ble_eq_true rfl⟩) [4, 5, 6, 7] [0, 1, 2, 3, 8, 9, 10, 11, 12, 13, 14, 15, 16, 17, 18, 19] rfl rfl rfl rfl (by decide) (q0 := 4) (ci := 0) rfl rfl rfl rfl (Nat.le_of_ble_eq_true rfl) dX4_soundingsTooDeep_23 ⟨Nat.le_of_ble_eq_true rfl, Nat.le_of_ble_eq_true rfl⟩ (fun u_3 H locs hu_4 hsz1 hP hD hS => ?_)
        have hP : va_P E.1 vwCl (wAll E o ad wm st gr co hb_ (nI mo) ga ca ha_ (nI ma) sd tk op sp rc rn wa) H := hP.sub [0, 1, 2, 3, 16, 17, 18, 19, 4, 5, 6, 7, 8, 9, 10, 11, 12, 13, 14, 15] rfl
        have hD : va_D A (wAll E o ad wm st gr co hb_ (nI mo) ga ca ha_ (nI ma) sd tk op sp rc rn wa) := hD.sub [0, 1, 2, 3, 16, 17, 18, 19, 4, 5, 6, 7, 8, 9, 10, 11, 12, 13, 14, 15] (by decide) rfl
        refine W.eq (g2 := F0 m 26 ls [.int (dep gr co z), .int (sd z)]) rfl ?_
        refine lv_icmp_le (tgt := 32) hx hb dX4_soundingsTooDeep_26 (by decide) (fun c26 => ?_) (fun c26 => ?_)
        · refine lv_iinc (v := nI (z + 1)) (lv' := [(2, .int (nI (z + 1))), (1, .int (nI x)), (0, .ref o)]) hx hb dX4_soundingsTooDeep_32 hl (k := 0) rfl (nI_add z 1) (by decide) rfl (fun ls hl => ?_)
          refine lv_goto (tgt := 4) hx hb dX4_soundingsTooDeep_35 (by decide) ?_
          exact ihL4 x (z + 1) (by first | omega | assumption | rfl | (simp_all; done)) (by first | (rw [fb_t (f := fun k => !decide (sd k ≤ dep gr co k)) (nd_t c26), hx_]; done) | (rw [fb_f (f := fun k => !decide (sd k ≤ dep gr co k)) (nd_f c26), hx_]; done)) (by omega) _ _ hP hD hS _ (lv_sub hl [0, 1, 2] rfl)
        · refine lv_iinc (v := nI (x + 1)) (lv' := [(1, .int (nI (x + 1))), (2, .int (nI z)), (0, .ref o)]) hx hb dX4_soundingsTooDeep_29 hl (k := 1) rfl (nI_add x 1) (by decide) rfl (fun ls hl => ?_)
          refine lv_iinc (v := nI (z + 1)) (lv' := [(2, .int (nI (z + 1))), (1, .int (nI (x + 1))), (0, .ref o)]) hx hb dX4_soundingsTooDeep_32 hl (k := 1) rfl (nI_add z 1) (by decide) rfl (fun ls hl => ?_)
          refine lv_goto (tgt := 4) hx hb dX4_soundingsTooDeep_35 (by decide) ?_
          exact ihL4 (x + 1) (z + 1) (by first | omega | assumption | rfl | (simp_all; done)) (by first | (rw [fb_t (f := fun k => !decide (sd k ≤ dep gr co k)) (nd_t c26), hx_]; done) | (rw [fb_f (f := fun k => !decide (sd k ≤ dep gr co k)) (nd_f c26), hx_]; done)) (by omega) _ _ hP hD hS _ (lv_sub hl [0, 1, 2] rfl)
  exact L4 (81 - 0 + 1) 0 0 (by first | omega | assumption | rfl | (simp_all; done)) (rfl) (Nat.lt_succ_self _) _ _ hP hD hS _ (lv_sub hl [0, 1, 2] rfl)

abbrev rm_X4_cellsWithoutDepth : Room := { frames := 2, cells := 0, slots := 0, locals := 34 }
set_option maxHeartbeats 4000000 in
set_option maxRecDepth 100000 in
theorem c_X4_cellsWithoutDepth (l : Launch) (E : eT) (sz : Nat) (o : Nat) (ad : Nat → Nat) (wm : Nat → Int32) (st : Nat → Int32) (gr : Nat → Int32) (co : Nat → Int32) (hb_ : Nat → Bool) (mo : Nat) (ga : Nat → Int32) (ca : Nat → Int32) (ha_ : Nat → Bool) (ma : Nat) (sd : Nat → Int32) (tk : Nat → Int32) (op : Nat → Bool) (sp : Nat → Nat) (rc : Nat → Nat) (rn : Nat) (wa : Nat → Int32) : cM l yX4_cellsWithoutDepth wsX4_cellsWithoutDepth rm_X4_cellsWithoutDepth E sz [.ref o] (wAll E o ad wm st gr co hb_ (nI mo) ga ca ha_ (nI ma) sd tk op sp rc rn wa) (fun u : Unit => some (.int (nI (dryN gr co)))) (fun u : Unit => True) (fun u : Unit => wAll E o ad wm st gr co hb_ (nI mo) ga ca ha_ (nI ma) sd tk op sp rc rn wa) := by
  refine cM_intro (cc := cX4_cellsWithoutDepth) (maxL := 3) (ret := (some .int)) (by decide +kernel) rfl (Nat.le_of_ble_eq_true rfl) ?_
  intro p e s m args below meth cd hx hb hr hml hown hlocks hts hnm hK hsz hP A hD hA Q hQ ls hl
  have hown : s.vm.findClass RX4 = some m.cls := hown
  have hin4 : ∀ w ∈ u_ws RX4 TX4 6, w ∈ wsX4_cellsWithoutDepth := by decide +kernel
  have lk19 := hts (.fieldLink RX4 19 "ReefPilot" "coast" "LReefPilot$Coast;") (by decide +kernel)
  have hS : va_S A s.heap s.heap [] := va_S.rf
  have hl : lv_has ls 3 [(0, .ref o)] := hl
  refine lv_iconst (v := nI 0) hx hb dX4_cellsWithoutDepth_0 (by decide +kernel) ?_
  refine lv_istore_n (lv' := [(1, .int (nI 0)), (0, .ref o)]) hx hb dX4_cellsWithoutDepth_1 rfl hl (by decide) rfl (fun ls hl => ?_)
  refine lv_iconst (v := nI 0) hx hb dX4_cellsWithoutDepth_2 (by decide +kernel) ?_
  refine lv_istore_n (lv' := [(2, .int (nI 0)), (1, .int (nI 0)), (0, .ref o)]) hx hb dX4_cellsWithoutDepth_3 rfl hl (by decide) rfl (fun ls hl => ?_)
  have L4 : ∀ (fuel : Nat) (x : Nat) (z : Nat) (hz : z ≤ 81) (hx_ : x = fb_ct (fun k => decide (dep gr co k = 0)) z) (hfuel : 81 - z < fuel) (H : Heap) (locs : List Loc), va_P E.1 vwCl (wAll E o ad wm st gr co hb_ (nI mo) ga ca ha_ (nI ma) sd tk op sp rc rn wa) H → va_D A (wAll E o ad wm st gr co hb_ (nI mo) ga ca ha_ (nI ma) sd tk op sp rc rn wa) → va_S A s.heap H locs → ∀ ls : Array Slot, lv_has ls 3 [(2, .int (nI z)), (1, .int (nI x)), (0, .ref o)] → W p l e rm_X4_cellsWithoutDepth s m args below meth cd H locs 0 0 Q (F0 m 4 ls []) := by
    intro fuel
    induction fuel with
    | zero => intros; omega
    | succ fuel ihL4 =>
      intro x z hz hx_ hfuel H locs hP hD hS ls hl
      refine lv_iload_n hx hb dX4_cellsWithoutDepth_4 rfl (lv_at hl 0 rfl) ?_
      have hxz := fb_ct_le (fun k => decide (dep gr co k = 0)) z
      refine lv_bipush (v := nI 81) hx hb dX4_cellsWithoutDepth_5 (by decide +kernel) ?_
      refine n_icmp_ge (x := z) (y := 81) (by omega) (by omega) (tgt := 30) hx hb dX4_cellsWithoutDepth_7 (by decide) (fun c7 => ?_) (fun c7 => ?_)
      · refine lv_iload_n hx hb dX4_cellsWithoutDepth_30 rfl (lv_at hl 1 rfl) ?_
        exact e_iret () hQ hx hb hr hlocks hP hD hS dX4_cellsWithoutDepth_31 (rvi (by rw [hx_, show z = 81 by omega]; rfl)) (Nat.le_of_ble_eq_true rfl) (Nat.le_of_ble_eq_true rfl) (trivial)
      · refine lv_aload_n hx hb dX4_cellsWithoutDepth_10 rfl (lv_at hl 2 rfl) ?_
        refine va_get (D := E.1) (ci := 4) (v := .ref (ad 3)) (C := RX4) (T := TX4) (N := 6) hx hb hts hin4 hown hK.1 hP 0 rfl rfl 1 (by decide) lk19 (fun _ h9 => h9) rfl dX4_cellsWithoutDepth_11 ?_
        refine lv_iload_n hx hb dX4_cellsWithoutDepth_14 rfl (lv_at hl 0 rfl) ?_
        refine e_callV (As := [.int (nI z)]) (rest := []) ⟨hx, hb, hml, hown, hts⟩ hK hP hD hS hA hl.1 (c_X0_depthOf l E _ (ad 3) (ad 4) (ad 5) (ad 6) gr co hb_ (nI mo) z (by first | omega | assumption | rfl | (simp_all; done))) (cwV 1 hts gX4_cellsWithoutDepth_X0_depthOf rfl rfl rfl (by decide +kernel) ⟨Nat.le_of_ble_eq_true rfl, Nat.le_of_ble_eq_true rfl⟩) [4, 5, 6, 7] [0, 1, 2, 3, 8, 9, 10, 11, 12, 13, 14, 15, 16, 17, 18, 19] rfl rfl rfl rfl (by decide) (q0 := 4) (ci := 0) rfl rfl rfl rfl (Nat.le_of_ble_eq_true rfl) dX4_cellsWithoutDepth_15 ⟨Nat.le_of_ble_eq_true rfl, Nat.le_of_ble_eq_true rfl⟩ (fun u_1 H locs hu_2 hsz1 hP hD hS => ?_)
        have hP : va_P E.1 vwCl (wAll E o ad wm st gr co hb_ (nI mo) ga ca ha_ (nI ma) sd tk op sp rc rn wa) H := hP.sub [0, 1, 2, 3, 16, 17, 18, 19, 4, 5, 6, 7, 8, 9, 10, 11, 12, 13, 14, 15] rfl
        have hD : va_D A (wAll E o ad wm st gr co hb_ (nI mo) ga ca ha_ (nI ma) sd tk op sp rc rn wa) := hD.sub [0, 1, 2, 3, 16, 17, 18, 19, 4, 5, 6, 7, 8, 9, 10, 11, 12, 13, 14, 15] (by decide) rfl
        refine W.eq (g2 := F0 m 18 ls [.int (dep gr co z)]) rfl ?_
        refine lv_if_ne (tgt := 24) hx hb dX4_cellsWithoutDepth_18 (by decide) (fun c18 => ?_) (fun c18 => ?_)
        · refine lv_iinc (v := nI (z + 1)) (lv' := [(2, .int (nI (z + 1))), (1, .int (nI x)), (0, .ref o)]) hx hb dX4_cellsWithoutDepth_24 hl (k := 0) rfl (nI_add z 1) (by decide) rfl (fun ls hl => ?_)
          refine lv_goto (tgt := 4) hx hb dX4_cellsWithoutDepth_27 (by decide) ?_
          exact ihL4 x (z + 1) (by first | omega | assumption | rfl | (simp_all; done)) (by first | (rw [fb_t (f := fun k => decide (dep gr co k = 0)) (decide_eq_true c18), hx_]; done) | (rw [fb_f (f := fun k => decide (dep gr co k = 0)) (decide_eq_false c18), hx_]; done)) (by omega) _ _ hP hD hS _ (lv_sub hl [0, 1, 2] rfl)
        · refine lv_iinc (v := nI (x + 1)) (lv' := [(1, .int (nI (x + 1))), (2, .int (nI z)), (0, .ref o)]) hx hb dX4_cellsWithoutDepth_21 hl (k := 1) rfl (nI_add x 1) (by decide) rfl (fun ls hl => ?_)
          refine lv_iinc (v := nI (z + 1)) (lv' := [(2, .int (nI (z + 1))), (1, .int (nI (x + 1))), (0, .ref o)]) hx hb dX4_cellsWithoutDepth_24 hl (k := 1) rfl (nI_add z 1) (by decide) rfl (fun ls hl => ?_)
          refine lv_goto (tgt := 4) hx hb dX4_cellsWithoutDepth_27 (by decide) ?_
          exact ihL4 (x + 1) (z + 1) (by first | omega | assumption | rfl | (simp_all; done)) (by first | (rw [fb_t (f := fun k => decide (dep gr co k = 0)) (decide_eq_true c18), hx_]; done) | (rw [fb_f (f := fun k => decide (dep gr co k = 0)) (decide_eq_false c18), hx_]; done)) (by omega) _ _ hP hD hS _ (lv_sub hl [0, 1, 2] rfl)
  exact L4 (81 - 0 + 1) 0 0 (by first | omega | assumption | rfl | (simp_all; done)) (rfl) (Nat.lt_succ_self _) _ _ hP hD hS _ (lv_sub hl [0, 1, 2] rfl)

abbrev rm_X4_openHeads : Room := { frames := 2, cells := 0, slots := 0, locals := 43 }
set_option maxHeartbeats 4000000 in
set_option maxRecDepth 100000 in
theorem c_X4_openHeads (l : Launch) (E : eT) (sz : Nat) (o : Nat) (ad : Nat → Nat) (wm : Nat → Int32) (st : Nat → Int32) (gr : Nat → Int32) (co : Nat → Int32) (hb_ : Nat → Bool) (mo : Nat) (ga : Nat → Int32) (ca : Nat → Int32) (ha_ : Nat → Bool) (ma : Nat) (sd : Nat → Int32) (tk : Nat → Int32) (op : Nat → Bool) (sp : Nat → Nat) (rc : Nat → Nat) (rn : Nat) (wa : Nat → Int32) : cM l yX4_openHeads wsX4_openHeads rm_X4_openHeads E sz [.ref o, .ref (ad 3)] (wAll E o ad wm st gr co hb_ (nI mo) ga ca ha_ (nI ma) sd tk op sp rc rn wa) (fun u : Unit => none) (fun u : Unit => True) (fun u : Unit => wAll E o ad wm st gr co hb_ (nI mo) ga ca ha_ (nI ma) sd tk (hd co) (fun _ => 0) rc 0 wa) := by
  refine cM_intro (cc := cX4_openHeads) (maxL := 3) (ret := none) (by decide +kernel) rfl (Nat.le_of_ble_eq_true rfl) ?_
  intro p e s m args below meth cd hx hb hr hml hown hlocks hts hnm hK hsz hP A hD hA Q hQ ls hl
  have hown : s.vm.findClass RX4 = some m.cls := hown
  have hin4 : ∀ w ∈ u_ws RX4 TX4 6, w ∈ wsX4_openHeads := by decide +kernel
  have lk36 := hts (.fieldLink RX4 36 "ReefPilot" "spread" "LReefPilot$Spread;") (by decide +kernel)
  have hS : va_S A s.heap s.heap [] := va_S.rf
  have hl : lv_has ls 3 [(0, .ref o), (1, .ref (ad 3))] := hl
  refine lv_aload_n hx hb dX4_openHeads_0 rfl (lv_at hl 0 rfl) ?_
  refine va_get (D := E.1) (ci := 4) (v := .ref (ad 14)) (C := RX4) (T := TX4) (N := 6) hx hb hts hin4 hown hK.1 hP 0 rfl rfl 4 (by decide) lk36 (fun _ h9 => h9) rfl dX4_openHeads_1 ?_
  refine e_callV (As := []) (rest := []) ⟨hx, hb, hml, hown, hts⟩ hK hP hD hS hA hl.1 (c_X2_clear l E _ (ad 14) (ad 15) (ad 16) (ad 17) op sp rc rn) (cwV 0 hts gX4_openHeads_X2_clear rfl rfl rfl (by decide +kernel) ⟨Nat.le_of_ble_eq_true rfl, Nat.le_of_ble_eq_true rfl⟩) [15, 16, 17, 18] [0, 1, 2, 3, 4, 5, 6, 7, 8, 9, 10, 11, 12, 13, 14, 19] rfl rfl rfl rfl (by decide) (q0 := 15) (ci := 2) rfl rfl rfl rfl (Nat.le_of_ble_eq_true rfl) dX4_openHeads_4 ⟨Nat.le_of_ble_eq_true rfl, Nat.le_of_ble_eq_true rfl⟩ (fun u_1 H locs hu_2 hsz1 hP hD hS => ?_)
  have hP : va_P E.1 vwCl (wAll E o ad wm st gr co hb_ (nI mo) ga ca ha_ (nI ma) sd tk op (fun _ => 0) rc 0 wa) H := hP.sub [0, 1, 2, 3, 4, 5, 6, 7, 8, 9, 10, 11, 12, 13, 14, 16, 17, 18, 19, 15] rfl
  have hD : va_D A (wAll E o ad wm st gr co hb_ (nI mo) ga ca ha_ (nI ma) sd tk op (fun _ => 0) rc 0 wa) := hD.sub [0, 1, 2, 3, 4, 5, 6, 7, 8, 9, 10, 11, 12, 13, 14, 16, 17, 18, 19, 15] (by decide) rfl
  refine W.eq (g2 := F0 m 7 ls []) rfl ?_
  refine lv_iconst (v := nI 0) hx hb dX4_openHeads_7 (by decide +kernel) ?_
  refine lv_istore_n (lv' := [(2, .int (nI 0)), (0, .ref o), (1, .ref (ad 3))]) hx hb dX4_openHeads_8 rfl hl (by decide) rfl (fun ls hl => ?_)
  have L9 : ∀ (fuel : Nat) (z : Nat) (f : Nat → Bool) (hz : z ≤ 81) (hf : ∀ k : Nat, f k = if k < z then hd co k else op k) (hfuel : 81 - z < fuel) (H : Heap) (locs : List Loc), va_P E.1 vwCl (wAll E o ad wm st gr co hb_ (nI mo) ga ca ha_ (nI ma) sd tk f (fun _ => 0) rc 0 wa) H → va_D A (wAll E o ad wm st gr co hb_ (nI mo) ga ca ha_ (nI ma) sd tk f (fun _ => 0) rc 0 wa) → va_S A s.heap H locs → ∀ ls : Array Slot, lv_has ls 3 [(2, .int (nI z)), (0, .ref o), (1, .ref (ad 3))] → W p l e rm_X4_openHeads s m args below meth cd H locs 0 0 Q (F0 m 9 ls []) := by
    intro fuel
    induction fuel with
    | zero => intros; omega
    | succ fuel ihL9 =>
      intro z f hz hf hfuel H locs hP hD hS ls hl
      refine lv_iload_n hx hb dX4_openHeads_9 rfl (lv_at hl 0 rfl) ?_
      refine lv_bipush (v := nI 81) hx hb dX4_openHeads_10 (by decide +kernel) ?_
      refine n_icmp_ge (x := z) (y := 81) (by omega) (by omega) (tgt := 34) hx hb dX4_openHeads_12 (by decide) (fun c12 => ?_) (fun c12 => ?_)
      · have hP := e_cong hP 16 (g := fun k => b2i (hd co k)) rfl (layB_end hf (by omega))
        have hD := va_D.set (e := .inl (E.2.2.1, 81, .inl (fun k => b2i (hd co k)))) hD (p := 16) rfl
        have hP : va_P E.1 vwCl (wAll E o ad wm st gr co hb_ (nI mo) ga ca ha_ (nI ma) sd tk (hd co) (fun _ => 0) rc 0 wa) H := hP
        have hD : va_D A (wAll E o ad wm st gr co hb_ (nI mo) ga ca ha_ (nI ma) sd tk (hd co) (fun _ => 0) rc 0 wa) := hD
        exact e_vret () hQ hx hb hr hlocks hP hD hS dX4_openHeads_34 (rfl) (Nat.le_of_ble_eq_true rfl) (Nat.le_of_ble_eq_true rfl) (trivial)
      · refine lv_aload_n hx hb dX4_openHeads_15 rfl (lv_at hl 1 rfl) ?_
        refine va_get (D := E.1) (ci := 4) (v := .ref (ad 14)) (C := RX4) (T := TX4) (N := 6) hx hb hts hin4 hown hK.1 hP 0 rfl rfl 4 (by decide) lk36 (fun _ h9 => h9) rfl dX4_openHeads_16 ?_
        refine lv_iload_n hx hb dX4_openHeads_19 rfl (lv_at hl 0 rfl) ?_
        refine lv_aload_n hx hb dX4_openHeads_20 rfl (lv_at hl 2 rfl) ?_
        refine lv_iload_n hx hb dX4_openHeads_21 rfl (lv_at hl 0 rfl) ?_
        refine e_callV (As := [.int (nI z)]) (rest := [.int (nI z), .ref (ad 14)]) ⟨hx, hb, hml, hown, hts⟩ hK hP hD hS hA hl.1 (c_X0_isHead l E _ (ad 3) (ad 4) (ad 5) (ad 6) gr co hb_ (nI mo) z (by first | omega | assumption | rfl | (simp_all; done))) (cwV 1 hts gX4_openHeads_X0_isHead rfl rfl rfl (by decide +kernel) ⟨Nat.le_of_ble_eq_true rfl, Nat.le_of_ble_eq_true rfl⟩) [4, 5, 6, 7] [0, 1, 2, 3, 8, 9, 10, 11, 12, 13, 14, 15, 16, 17, 18, 19] rfl rfl rfl rfl (by decide) (q0 := 4) (ci := 0) rfl rfl rfl rfl (Nat.le_of_ble_eq_true rfl) dX4_openHeads_22 ⟨Nat.le_of_ble_eq_true rfl, Nat.le_of_ble_eq_true rfl⟩ (fun u_3 H locs hu_4 hsz1 hP hD hS => ?_)
        have hP : va_P E.1 vwCl (wAll E o ad wm st gr co hb_ (nI mo) ga ca ha_ (nI ma) sd tk f (fun _ => 0) rc 0 wa) H := hP.sub [0, 1, 2, 3, 16, 17, 18, 19, 4, 5, 6, 7, 8, 9, 10, 11, 12, 13, 14, 15] rfl
        have hD : va_D A (wAll E o ad wm st gr co hb_ (nI mo) ga ca ha_ (nI ma) sd tk f (fun _ => 0) rc 0 wa) := hD.sub [0, 1, 2, 3, 16, 17, 18, 19, 4, 5, 6, 7, 8, 9, 10, 11, 12, 13, 14, 15] (by decide) rfl
        refine W.eq (g2 := F0 m 25 ls [.int (b2i (hd co z)), .int (nI z), .ref (ad 14)]) rfl ?_
        refine e_callV (As := [.int (nI z), .int (b2i (hd co z))]) (rest := []) ⟨hx, hb, hml, hown, hts⟩ hK hP hD hS hA hl.1 (c_X2_setOpen l E _ (ad 14) (ad 15) (ad 16) (ad 17) f (fun _ => 0) rc 0 z (hd co z) (by first | omega | assumption | rfl | (simp_all; done))) (cwV 2 hts gX4_openHeads_X2_setOpen rfl rfl rfl (by decide +kernel) ⟨Nat.le_of_ble_eq_true rfl, Nat.le_of_ble_eq_true rfl⟩) [15, 16, 17, 18] [0, 1, 2, 3, 4, 5, 6, 7, 8, 9, 10, 11, 12, 13, 14, 19] rfl rfl rfl rfl (by decide) (q0 := 15) (ci := 2) rfl rfl rfl rfl (Nat.le_of_ble_eq_true rfl) dX4_openHeads_25 ⟨Nat.le_of_ble_eq_true rfl, Nat.le_of_ble_eq_true rfl⟩ (fun u_5 H locs hu_6 hsz1 hP hD hS => ?_)
        have hP : va_P E.1 vwCl (wAll E o ad wm st gr co hb_ (nI mo) ga ca ha_ (nI ma) sd tk (updB f z (hd co z)) (fun _ => 0) rc 0 wa) H := hP.sub [0, 1, 2, 3, 4, 5, 6, 7, 8, 9, 10, 11, 12, 13, 14, 16, 17, 18, 19, 15] rfl
        have hD : va_D A (wAll E o ad wm st gr co hb_ (nI mo) ga ca ha_ (nI ma) sd tk (updB f z (hd co z)) (fun _ => 0) rc 0 wa) := hD.sub [0, 1, 2, 3, 4, 5, 6, 7, 8, 9, 10, 11, 12, 13, 14, 16, 17, 18, 19, 15] (by decide) rfl
        refine W.eq (g2 := F0 m 28 ls []) rfl ?_
        refine lv_iinc (v := nI (z + 1)) (lv' := [(2, .int (nI (z + 1))), (0, .ref o), (1, .ref (ad 3))]) hx hb dX4_openHeads_28 hl (k := 0) rfl (nI_add z 1) (by decide) rfl (fun ls hl => ?_)
        refine lv_goto (tgt := 9) hx hb dX4_openHeads_31 (by decide) ?_
        exact ihL9 (z + 1) (updB f z (hd co z)) (by first | omega | assumption | rfl | (simp_all; done)) (layB_upd hf rfl) (by omega) _ _ hP hD hS _ (lv_sub hl [0, 1, 2] rfl)
  exact L9 (81 - 0 + 1) 0 op (by first | omega | assumption | rfl | (simp_all; done)) (layB_0) (Nat.lt_succ_self _) _ _ hP hD hS _ (lv_sub hl [0, 1, 2] rfl)

abbrev rm_X4_reefsOn : Room := { frames := 3, cells := 0, slots := 0, locals := 69 }
set_option maxHeartbeats 4000000 in
set_option maxRecDepth 100000 in
theorem c_X4_reefsOn (l : Launch) (E : eT) (sz : Nat) (o : Nat) (ad : Nat → Nat) (wm : Nat → Int32) (st : Nat → Int32) (gr : Nat → Int32) (co : Nat → Int32) (hb_ : Nat → Bool) (mo : Nat) (ga : Nat → Int32) (ca : Nat → Int32) (ha_ : Nat → Bool) (ma : Nat) (sd : Nat → Int32) (tk : Nat → Int32) (op : Nat → Bool) (sp : Nat → Nat) (rc : Nat → Nat) (rn : Nat) (wa : Nat → Int32) : cM l yX4_reefsOn wsX4_reefsOn rm_X4_reefsOn E sz [.ref o, .ref (ad 3)] (wAll E o ad wm st gr co hb_ (nI mo) ga ca ha_ (nI ma) sd tk op sp rc rn wa) (fun u : (Nat → Bool) × (Nat → Nat) × (Nat → Nat) × (Nat) => some (.int (nI (reefN (hd co))))) (fun u : (Nat → Bool) × (Nat → Nat) × (Nat → Nat) × (Nat) => True) (fun u : (Nat → Bool) × (Nat → Nat) × (Nat → Nat) × (Nat) => wAll E o ad wm st gr co hb_ (nI mo) ga ca ha_ (nI ma) sd tk u.1 u.2.1 u.2.2.1 u.2.2.2 wa) := by
  refine cM_intro (cc := cX4_reefsOn) (maxL := 4) (ret := (some .int)) (by decide +kernel) rfl (Nat.le_of_ble_eq_true rfl) ?_
  intro p e s m args below meth cd hx hb hr hml hown hlocks hts hnm hK hsz hP A hD hA Q hQ ls hl
  have hown : s.vm.findClass RX4 = some m.cls := hown
  have hin4 : ∀ w ∈ u_ws RX4 TX4 6, w ∈ wsX4_reefsOn := by decide +kernel
  have lk36 := hts (.fieldLink RX4 36 "ReefPilot" "spread" "LReefPilot$Spread;") (by decide +kernel)
  have hS : va_S A s.heap s.heap [] := va_S.rf
  have hl : lv_has ls 4 [(0, .ref o), (1, .ref (ad 3))] := hl
  refine lv_aload_n hx hb dX4_reefsOn_0 rfl (lv_at hl 0 rfl) ?_
  refine lv_aload_n hx hb dX4_reefsOn_1 rfl (lv_at hl 1 rfl) ?_
  refine e_callV (As := [.ref (ad 3)]) (rest := []) ⟨hx, hb, hml, hown, hts⟩ hK hP hD hS hA hl.1 (c_X4_openHeads l E _ o ad wm st gr co hb_ mo ga ca ha_ ma sd tk op sp rc rn wa) (cwV 1 hts gX4_reefsOn_X4_openHeads rfl rfl rfl (by decide +kernel) ⟨Nat.le_of_ble_eq_true rfl, Nat.le_of_ble_eq_true rfl⟩) [0, 1, 2, 3, 4, 5, 6, 7, 8, 9, 10, 11, 12, 13, 14, 15, 16, 17, 18, 19] [] rfl rfl rfl rfl (by decide) (q0 := 0) (ci := 4) rfl rfl rfl rfl (Nat.le_of_ble_eq_true rfl) dX4_reefsOn_2 ⟨Nat.le_of_ble_eq_true rfl, Nat.le_of_ble_eq_true rfl⟩ (fun u_1 H locs hu_2 hsz1 hP hD hS => ?_)
  have hP : va_P E.1 vwCl (wAll E o ad wm st gr co hb_ (nI mo) ga ca ha_ (nI ma) sd tk (hd co) (fun _ => 0) rc 0 wa) H := hP.sub [0, 1, 2, 3, 4, 5, 6, 7, 8, 9, 10, 11, 12, 13, 14, 15, 16, 17, 18, 19] rfl
  have hD : va_D A (wAll E o ad wm st gr co hb_ (nI mo) ga ca ha_ (nI ma) sd tk (hd co) (fun _ => 0) rc 0 wa) := hD.sub [0, 1, 2, 3, 4, 5, 6, 7, 8, 9, 10, 11, 12, 13, 14, 15, 16, 17, 18, 19] (by decide) rfl
  refine W.eq (g2 := F0 m 5 ls []) rfl ?_
  refine lv_iconst (v := nI 0) hx hb dX4_reefsOn_5 (by decide +kernel) ?_
  refine lv_istore_n (lv' := [(2, .int (nI 0)), (0, .ref o), (1, .ref (ad 3))]) hx hb dX4_reefsOn_6 rfl hl (by decide) rfl (fun ls hl => ?_)
  refine lv_iconst (v := nI 0) hx hb dX4_reefsOn_7 (by decide +kernel) ?_
  refine lv_istore_n (lv' := [(3, .int (nI 0)), (2, .int (nI 0)), (0, .ref o), (1, .ref (ad 3))]) hx hb dX4_reefsOn_8 rfl hl (by decide) rfl (fun ls hl => ?_)
  have L9 : ∀ (fuel : Nat) (x : Nat) (z : Nat) (s1 : Nat → Nat) (r1 : Nat → Nat) (n1 : Nat) (hz : z ≤ 81) (hx_ : x = fb_ct (isRt (hd co)) z) (hy : (s1, r1, n1) = bCells (hd co) rc z) (hfuel : 81 - z < fuel) (H : Heap) (locs : List Loc), va_P E.1 vwCl (wAll E o ad wm st gr co hb_ (nI mo) ga ca ha_ (nI ma) sd tk (hd co) s1 r1 n1 wa) H → va_D A (wAll E o ad wm st gr co hb_ (nI mo) ga ca ha_ (nI ma) sd tk (hd co) s1 r1 n1 wa) → va_S A s.heap H locs → ∀ ls : Array Slot, lv_has ls 4 [(3, .int (nI z)), (2, .int (nI x)), (0, .ref o), (1, .ref (ad 3))] → W p l e rm_X4_reefsOn s m args below meth cd H locs 0 0 Q (F0 m 9 ls []) := by
    intro fuel
    induction fuel with
    | zero => intros; omega
    | succ fuel ihL9 =>
      intro x z s1 r1 n1 hz hx_ hy hfuel H locs hP hD hS ls hl
      have hok1 : bOk (s1, r1, n1) := by rw [hy]; exact bCells_ok z hz
      have hxz := fb_ct_le (isRt (hd co)) z
      refine lv_iload_n hx hb dX4_reefsOn_9 rfl (lv_at hl 0 rfl) ?_
      refine lv_bipush (v := nI 81) hx hb dX4_reefsOn_10 (by decide +kernel) ?_
      refine n_icmp_ge (x := z) (y := 81) (by omega) (by omega) (tgt := 35) hx hb dX4_reefsOn_12 (by decide) (fun c12 => ?_) (fun c12 => ?_)
      · refine lv_iload_n hx hb dX4_reefsOn_35 rfl (lv_at hl 1 rfl) ?_
        exact e_iret (hd co, s1, r1, n1) hQ hx hb hr hlocks hP hD hS dX4_reefsOn_36 (rvi (by rw [hx_, show z = 81 by omega]; rfl)) (Nat.le_of_ble_eq_true rfl) (Nat.le_of_ble_eq_true rfl) (trivial)
      · refine lv_aload_n hx hb dX4_reefsOn_15 rfl (lv_at hl 2 rfl) ?_
        refine va_get (D := E.1) (ci := 4) (v := .ref (ad 14)) (C := RX4) (T := TX4) (N := 6) hx hb hts hin4 hown hK.1 hP 0 rfl rfl 4 (by decide) lk36 (fun _ h9 => h9) rfl dX4_reefsOn_16 ?_
        refine lv_iload_n hx hb dX4_reefsOn_19 rfl (lv_at hl 0 rfl) ?_
        refine e_callV (As := [.int (nI z)]) (rest := []) ⟨hx, hb, hml, hown, hts⟩ hK hP hD hS hA hl.1 (c_X2_goFromCell l E _ (ad 14) (ad 15) (ad 16) (ad 17) (hd co) s1 r1 n1 z (by first | omega | assumption | rfl | (simp_all; done)) (hok1)) (cwV 1 hts gX4_reefsOn_X2_goFromCell rfl rfl rfl (by decide +kernel) ⟨Nat.le_of_ble_eq_true rfl, Nat.le_of_ble_eq_true rfl⟩) [15, 16, 17, 18] [0, 1, 2, 3, 4, 5, 6, 7, 8, 9, 10, 11, 12, 13, 14, 19] rfl rfl rfl rfl (by decide) (q0 := 15) (ci := 2) rfl rfl rfl rfl (Nat.le_of_ble_eq_true rfl) dX4_reefsOn_20 ⟨Nat.le_of_ble_eq_true rfl, Nat.le_of_ble_eq_true rfl⟩ (fun u_3 H locs hu_4 hsz1 hP hD hS => ?_)
        have hP : va_P E.1 vwCl (wAll E o ad wm st gr co hb_ (nI mo) ga ca ha_ (nI ma) sd tk (hd co) ((bCell (hd co) (s1, r1, n1) z).1) ((bCell (hd co) (s1, r1, n1) z).2.1) ((bCell (hd co) (s1, r1, n1) z).2.2) wa) H := hP.sub [0, 1, 2, 3, 4, 5, 6, 7, 8, 9, 10, 11, 12, 13, 14, 16, 17, 18, 19, 15] rfl
        have hD : va_D A (wAll E o ad wm st gr co hb_ (nI mo) ga ca ha_ (nI ma) sd tk (hd co) ((bCell (hd co) (s1, r1, n1) z).1) ((bCell (hd co) (s1, r1, n1) z).2.1) ((bCell (hd co) (s1, r1, n1) z).2.2) wa) := hD.sub [0, 1, 2, 3, 4, 5, 6, 7, 8, 9, 10, 11, 12, 13, 14, 16, 17, 18, 19, 15] (by decide) rfl
        refine W.eq (g2 := F0 m 23 ls [.int (nI ((bCell (hd co) (s1, r1, n1) z).2.2 - n1))]) rfl ?_
        have hgo : (bCell (hd co) (s1, r1, n1) z).2.2 = n1 + rootN (hd co) z := by rw [hy]; exact (bCells_n (rc := rc) (by assumption)).trans (by rw [← hy])
        refine e_top (show nI _ = nI (rootN (hd co) z) by rw [hgo, Nat.add_sub_cancel_left]) ?_
        have hrl := rootN_le (hd co) z
        refine n_if_le (x := rootN (hd co) z) (by omega) (tgt := 29) hx hb dX4_reefsOn_23 (by decide) (fun c23 => ?_) (fun c23 => ?_)
        · refine lv_iinc (v := nI (z + 1)) (lv' := [(3, .int (nI (z + 1))), (2, .int (nI x)), (0, .ref o), (1, .ref (ad 3))]) hx hb dX4_reefsOn_29 hl (k := 0) rfl (nI_add z 1) (by decide) rfl (fun ls hl => ?_)
          refine lv_goto (tgt := 9) hx hb dX4_reefsOn_32 (by decide) ?_
          exact ihL9 x (z + 1) ((bCell (hd co) (s1, r1, n1) z).1) ((bCell (hd co) (s1, r1, n1) z).2.1) ((bCell (hd co) (s1, r1, n1) z).2.2) (by first | omega | assumption | rfl | (simp_all; done)) (by first | (rw [fb_t ((rootN_pos (by assumption)).mp (by omega)), hx_]; done) | (rw [fb_f (Bool.not_eq_true _ ▸ fun q => absurd ((rootN_pos (by assumption)).mpr q) (by omega)), hx_]; done)) (by show _ = bCell (hd co) (bCells (hd co) rc z) z; rw [← hy]) (by omega) _ _ hP hD hS _ (lv_sub hl [0, 1, 2, 3] rfl)
        · refine lv_iinc (v := nI (x + 1)) (lv' := [(2, .int (nI (x + 1))), (3, .int (nI z)), (0, .ref o), (1, .ref (ad 3))]) hx hb dX4_reefsOn_26 hl (k := 1) rfl (nI_add x 1) (by decide) rfl (fun ls hl => ?_)
          refine lv_iinc (v := nI (z + 1)) (lv' := [(3, .int (nI (z + 1))), (2, .int (nI (x + 1))), (0, .ref o), (1, .ref (ad 3))]) hx hb dX4_reefsOn_29 hl (k := 1) rfl (nI_add z 1) (by decide) rfl (fun ls hl => ?_)
          refine lv_goto (tgt := 9) hx hb dX4_reefsOn_32 (by decide) ?_
          exact ihL9 (x + 1) (z + 1) ((bCell (hd co) (s1, r1, n1) z).1) ((bCell (hd co) (s1, r1, n1) z).2.1) ((bCell (hd co) (s1, r1, n1) z).2.2) (by first | omega | assumption | rfl | (simp_all; done)) (by first | (rw [fb_t ((rootN_pos (by assumption)).mp (by omega)), hx_]; done) | (rw [fb_f (Bool.not_eq_true _ ▸ fun q => absurd ((rootN_pos (by assumption)).mpr q) (by omega)), hx_]; done)) (by show _ = bCell (hd co) (bCells (hd co) rc z) z; rw [← hy]) (by omega) _ _ hP hD hS _ (lv_sub hl [0, 1, 2, 3] rfl)
  exact L9 (81 - 0 + 1) 0 0 (fun _ => 0) rc 0 (by first | omega | assumption | rfl | (simp_all; done)) (rfl) (rfl) (Nat.lt_succ_self _) _ _ hP hD hS _ (lv_sub hl [0, 1, 2, 3] rfl)

abbrev rm_X4_openHeads_a : Room := { frames := 2, cells := 0, slots := 0, locals := 43 }
set_option maxHeartbeats 4000000 in
set_option maxRecDepth 100000 in
theorem c_X4_openHeads_a (l : Launch) (E : eT) (sz : Nat) (o : Nat) (ad : Nat → Nat) (wm : Nat → Int32) (st : Nat → Int32) (gr : Nat → Int32) (co : Nat → Int32) (hb_ : Nat → Bool) (mo : Nat) (ga : Nat → Int32) (ca : Nat → Int32) (ha_ : Nat → Bool) (ma : Nat) (sd : Nat → Int32) (tk : Nat → Int32) (op : Nat → Bool) (sp : Nat → Nat) (rc : Nat → Nat) (rn : Nat) (wa : Nat → Int32) : cM l yX4_openHeads wsX4_openHeads rm_X4_openHeads_a E sz [.ref o, .ref (ad 7)] (wAll E o ad wm st gr co hb_ (nI mo) ga ca ha_ (nI ma) sd tk op sp rc rn wa) (fun u : Unit => none) (fun u : Unit => True) (fun u : Unit => wAll E o ad wm st gr co hb_ (nI mo) ga ca ha_ (nI ma) sd tk (hd ca) (fun _ => 0) rc 0 wa) := by
  refine cM_intro (cc := cX4_openHeads) (maxL := 3) (ret := none) (by decide +kernel) rfl (Nat.le_of_ble_eq_true rfl) ?_
  intro p e s m args below meth cd hx hb hr hml hown hlocks hts hnm hK hsz hP A hD hA Q hQ ls hl
  have hown : s.vm.findClass RX4 = some m.cls := hown
  have hin4 : ∀ w ∈ u_ws RX4 TX4 6, w ∈ wsX4_openHeads := by decide +kernel
  have lk36 := hts (.fieldLink RX4 36 "ReefPilot" "spread" "LReefPilot$Spread;") (by decide +kernel)
  have hS : va_S A s.heap s.heap [] := va_S.rf
  have hl : lv_has ls 3 [(0, .ref o), (1, .ref (ad 7))] := hl
  refine lv_aload_n hx hb dX4_openHeads_0 rfl (lv_at hl 0 rfl) ?_
  refine va_get (D := E.1) (ci := 4) (v := .ref (ad 14)) (C := RX4) (T := TX4) (N := 6) hx hb hts hin4 hown hK.1 hP 0 rfl rfl 4 (by decide) lk36 (fun _ h9 => h9) rfl dX4_openHeads_1 ?_
  refine e_callV (As := []) (rest := []) ⟨hx, hb, hml, hown, hts⟩ hK hP hD hS hA hl.1 (c_X2_clear l E _ (ad 14) (ad 15) (ad 16) (ad 17) op sp rc rn) (cwV 0 hts gX4_openHeads_X2_clear rfl rfl rfl (by decide +kernel) ⟨Nat.le_of_ble_eq_true rfl, Nat.le_of_ble_eq_true rfl⟩) [15, 16, 17, 18] [0, 1, 2, 3, 4, 5, 6, 7, 8, 9, 10, 11, 12, 13, 14, 19] rfl rfl rfl rfl (by decide) (q0 := 15) (ci := 2) rfl rfl rfl rfl (Nat.le_of_ble_eq_true rfl) dX4_openHeads_4 ⟨Nat.le_of_ble_eq_true rfl, Nat.le_of_ble_eq_true rfl⟩ (fun u_1 H locs hu_2 hsz1 hP hD hS => ?_)
  have hP : va_P E.1 vwCl (wAll E o ad wm st gr co hb_ (nI mo) ga ca ha_ (nI ma) sd tk op (fun _ => 0) rc 0 wa) H := hP.sub [0, 1, 2, 3, 4, 5, 6, 7, 8, 9, 10, 11, 12, 13, 14, 16, 17, 18, 19, 15] rfl
  have hD : va_D A (wAll E o ad wm st gr co hb_ (nI mo) ga ca ha_ (nI ma) sd tk op (fun _ => 0) rc 0 wa) := hD.sub [0, 1, 2, 3, 4, 5, 6, 7, 8, 9, 10, 11, 12, 13, 14, 16, 17, 18, 19, 15] (by decide) rfl
  refine W.eq (g2 := F0 m 7 ls []) rfl ?_
  refine lv_iconst (v := nI 0) hx hb dX4_openHeads_7 (by decide +kernel) ?_
  refine lv_istore_n (lv' := [(2, .int (nI 0)), (0, .ref o), (1, .ref (ad 7))]) hx hb dX4_openHeads_8 rfl hl (by decide) rfl (fun ls hl => ?_)
  have L9 : ∀ (fuel : Nat) (z : Nat) (f : Nat → Bool) (hz : z ≤ 81) (hf : ∀ k : Nat, f k = if k < z then hd ca k else op k) (hfuel : 81 - z < fuel) (H : Heap) (locs : List Loc), va_P E.1 vwCl (wAll E o ad wm st gr co hb_ (nI mo) ga ca ha_ (nI ma) sd tk f (fun _ => 0) rc 0 wa) H → va_D A (wAll E o ad wm st gr co hb_ (nI mo) ga ca ha_ (nI ma) sd tk f (fun _ => 0) rc 0 wa) → va_S A s.heap H locs → ∀ ls : Array Slot, lv_has ls 3 [(2, .int (nI z)), (0, .ref o), (1, .ref (ad 7))] → W p l e rm_X4_openHeads_a s m args below meth cd H locs 0 0 Q (F0 m 9 ls []) := by
    intro fuel
    induction fuel with
    | zero => intros; omega
    | succ fuel ihL9 =>
      intro z f hz hf hfuel H locs hP hD hS ls hl
      refine lv_iload_n hx hb dX4_openHeads_9 rfl (lv_at hl 0 rfl) ?_
      refine lv_bipush (v := nI 81) hx hb dX4_openHeads_10 (by decide +kernel) ?_
      refine n_icmp_ge (x := z) (y := 81) (by omega) (by omega) (tgt := 34) hx hb dX4_openHeads_12 (by decide) (fun c12 => ?_) (fun c12 => ?_)
      · have hP := e_cong hP 16 (g := fun k => b2i (hd ca k)) rfl (layB_end hf (by omega))
        have hD := va_D.set (e := .inl (E.2.2.1, 81, .inl (fun k => b2i (hd ca k)))) hD (p := 16) rfl
        have hP : va_P E.1 vwCl (wAll E o ad wm st gr co hb_ (nI mo) ga ca ha_ (nI ma) sd tk (hd ca) (fun _ => 0) rc 0 wa) H := hP
        have hD : va_D A (wAll E o ad wm st gr co hb_ (nI mo) ga ca ha_ (nI ma) sd tk (hd ca) (fun _ => 0) rc 0 wa) := hD
        exact e_vret () hQ hx hb hr hlocks hP hD hS dX4_openHeads_34 (rfl) (Nat.le_of_ble_eq_true rfl) (Nat.le_of_ble_eq_true rfl) (trivial)
      · refine lv_aload_n hx hb dX4_openHeads_15 rfl (lv_at hl 1 rfl) ?_
        refine va_get (D := E.1) (ci := 4) (v := .ref (ad 14)) (C := RX4) (T := TX4) (N := 6) hx hb hts hin4 hown hK.1 hP 0 rfl rfl 4 (by decide) lk36 (fun _ h9 => h9) rfl dX4_openHeads_16 ?_
        refine lv_iload_n hx hb dX4_openHeads_19 rfl (lv_at hl 0 rfl) ?_
        refine lv_aload_n hx hb dX4_openHeads_20 rfl (lv_at hl 2 rfl) ?_
        refine lv_iload_n hx hb dX4_openHeads_21 rfl (lv_at hl 0 rfl) ?_
        refine e_callV (As := [.int (nI z)]) (rest := [.int (nI z), .ref (ad 14)]) ⟨hx, hb, hml, hown, hts⟩ hK hP hD hS hA hl.1 (c_X0_isHead l E _ (ad 7) (ad 8) (ad 9) (ad 10) ga ca ha_ (nI ma) z (by first | omega | assumption | rfl | (simp_all; done))) (cwV 1 hts gX4_openHeads_X0_isHead rfl rfl rfl (by decide +kernel) ⟨Nat.le_of_ble_eq_true rfl, Nat.le_of_ble_eq_true rfl⟩) [8, 9, 10, 11] [0, 1, 2, 3, 4, 5, 6, 7, 12, 13, 14, 15, 16, 17, 18, 19] rfl rfl rfl rfl (by decide) (q0 := 8) (ci := 0) rfl rfl rfl rfl (Nat.le_of_ble_eq_true rfl) dX4_openHeads_22 ⟨Nat.le_of_ble_eq_true rfl, Nat.le_of_ble_eq_true rfl⟩ (fun u_3 H locs hu_4 hsz1 hP hD hS => ?_)
        have hP : va_P E.1 vwCl (wAll E o ad wm st gr co hb_ (nI mo) ga ca ha_ (nI ma) sd tk f (fun _ => 0) rc 0 wa) H := hP.sub [0, 1, 2, 3, 4, 5, 6, 7, 16, 17, 18, 19, 8, 9, 10, 11, 12, 13, 14, 15] rfl
        have hD : va_D A (wAll E o ad wm st gr co hb_ (nI mo) ga ca ha_ (nI ma) sd tk f (fun _ => 0) rc 0 wa) := hD.sub [0, 1, 2, 3, 4, 5, 6, 7, 16, 17, 18, 19, 8, 9, 10, 11, 12, 13, 14, 15] (by decide) rfl
        refine W.eq (g2 := F0 m 25 ls [.int (b2i (hd ca z)), .int (nI z), .ref (ad 14)]) rfl ?_
        refine e_callV (As := [.int (nI z), .int (b2i (hd ca z))]) (rest := []) ⟨hx, hb, hml, hown, hts⟩ hK hP hD hS hA hl.1 (c_X2_setOpen l E _ (ad 14) (ad 15) (ad 16) (ad 17) f (fun _ => 0) rc 0 z (hd ca z) (by first | omega | assumption | rfl | (simp_all; done))) (cwV 2 hts gX4_openHeads_X2_setOpen rfl rfl rfl (by decide +kernel) ⟨Nat.le_of_ble_eq_true rfl, Nat.le_of_ble_eq_true rfl⟩) [15, 16, 17, 18] [0, 1, 2, 3, 4, 5, 6, 7, 8, 9, 10, 11, 12, 13, 14, 19] rfl rfl rfl rfl (by decide) (q0 := 15) (ci := 2) rfl rfl rfl rfl (Nat.le_of_ble_eq_true rfl) dX4_openHeads_25 ⟨Nat.le_of_ble_eq_true rfl, Nat.le_of_ble_eq_true rfl⟩ (fun u_5 H locs hu_6 hsz1 hP hD hS => ?_)
        have hP : va_P E.1 vwCl (wAll E o ad wm st gr co hb_ (nI mo) ga ca ha_ (nI ma) sd tk (updB f z (hd ca z)) (fun _ => 0) rc 0 wa) H := hP.sub [0, 1, 2, 3, 4, 5, 6, 7, 8, 9, 10, 11, 12, 13, 14, 16, 17, 18, 19, 15] rfl
        have hD : va_D A (wAll E o ad wm st gr co hb_ (nI mo) ga ca ha_ (nI ma) sd tk (updB f z (hd ca z)) (fun _ => 0) rc 0 wa) := hD.sub [0, 1, 2, 3, 4, 5, 6, 7, 8, 9, 10, 11, 12, 13, 14, 16, 17, 18, 19, 15] (by decide) rfl
        refine W.eq (g2 := F0 m 28 ls []) rfl ?_
        refine lv_iinc (v := nI (z + 1)) (lv' := [(2, .int (nI (z + 1))), (0, .ref o), (1, .ref (ad 7))]) hx hb dX4_openHeads_28 hl (k := 0) rfl (nI_add z 1) (by decide) rfl (fun ls hl => ?_)
        refine lv_goto (tgt := 9) hx hb dX4_openHeads_31 (by decide) ?_
        exact ihL9 (z + 1) (updB f z (hd ca z)) (by first | omega | assumption | rfl | (simp_all; done)) (layB_upd hf rfl) (by omega) _ _ hP hD hS _ (lv_sub hl [0, 1, 2] rfl)
  exact L9 (81 - 0 + 1) 0 op (by first | omega | assumption | rfl | (simp_all; done)) (layB_0) (Nat.lt_succ_self _) _ _ hP hD hS _ (lv_sub hl [0, 1, 2] rfl)

abbrev rm_X4_reefsOn_a : Room := { frames := 3, cells := 0, slots := 0, locals := 69 }
set_option maxHeartbeats 4000000 in
set_option maxRecDepth 100000 in
theorem c_X4_reefsOn_a (l : Launch) (E : eT) (sz : Nat) (o : Nat) (ad : Nat → Nat) (wm : Nat → Int32) (st : Nat → Int32) (gr : Nat → Int32) (co : Nat → Int32) (hb_ : Nat → Bool) (mo : Nat) (ga : Nat → Int32) (ca : Nat → Int32) (ha_ : Nat → Bool) (ma : Nat) (sd : Nat → Int32) (tk : Nat → Int32) (op : Nat → Bool) (sp : Nat → Nat) (rc : Nat → Nat) (rn : Nat) (wa : Nat → Int32) : cM l yX4_reefsOn wsX4_reefsOn rm_X4_reefsOn_a E sz [.ref o, .ref (ad 7)] (wAll E o ad wm st gr co hb_ (nI mo) ga ca ha_ (nI ma) sd tk op sp rc rn wa) (fun u : (Nat → Bool) × (Nat → Nat) × (Nat → Nat) × (Nat) => some (.int (nI (reefN (hd ca))))) (fun u : (Nat → Bool) × (Nat → Nat) × (Nat → Nat) × (Nat) => True) (fun u : (Nat → Bool) × (Nat → Nat) × (Nat → Nat) × (Nat) => wAll E o ad wm st gr co hb_ (nI mo) ga ca ha_ (nI ma) sd tk u.1 u.2.1 u.2.2.1 u.2.2.2 wa) := by
  refine cM_intro (cc := cX4_reefsOn) (maxL := 4) (ret := (some .int)) (by decide +kernel) rfl (Nat.le_of_ble_eq_true rfl) ?_
  intro p e s m args below meth cd hx hb hr hml hown hlocks hts hnm hK hsz hP A hD hA Q hQ ls hl
  have hown : s.vm.findClass RX4 = some m.cls := hown
  have hin4 : ∀ w ∈ u_ws RX4 TX4 6, w ∈ wsX4_reefsOn := by decide +kernel
  have lk36 := hts (.fieldLink RX4 36 "ReefPilot" "spread" "LReefPilot$Spread;") (by decide +kernel)
  have hS : va_S A s.heap s.heap [] := va_S.rf
  have hl : lv_has ls 4 [(0, .ref o), (1, .ref (ad 7))] := hl
  refine lv_aload_n hx hb dX4_reefsOn_0 rfl (lv_at hl 0 rfl) ?_
  refine lv_aload_n hx hb dX4_reefsOn_1 rfl (lv_at hl 1 rfl) ?_
  refine e_callV (As := [.ref (ad 7)]) (rest := []) ⟨hx, hb, hml, hown, hts⟩ hK hP hD hS hA hl.1 (c_X4_openHeads_a l E _ o ad wm st gr co hb_ mo ga ca ha_ ma sd tk op sp rc rn wa) (cwV 1 hts gX4_reefsOn_X4_openHeads rfl rfl rfl (by decide +kernel) ⟨Nat.le_of_ble_eq_true rfl, Nat.le_of_ble_eq_true rfl⟩) [0, 1, 2, 3, 4, 5, 6, 7, 8, 9, 10, 11, 12, 13, 14, 15, 16, 17, 18, 19] [] rfl rfl rfl rfl (by decide) (q0 := 0) (ci := 4) rfl rfl rfl rfl (Nat.le_of_ble_eq_true rfl) dX4_reefsOn_2 ⟨Nat.le_of_ble_eq_true rfl, Nat.le_of_ble_eq_true rfl⟩ (fun u_1 H locs hu_2 hsz1 hP hD hS => ?_)
  have hP : va_P E.1 vwCl (wAll E o ad wm st gr co hb_ (nI mo) ga ca ha_ (nI ma) sd tk (hd ca) (fun _ => 0) rc 0 wa) H := hP.sub [0, 1, 2, 3, 4, 5, 6, 7, 8, 9, 10, 11, 12, 13, 14, 15, 16, 17, 18, 19] rfl
  have hD : va_D A (wAll E o ad wm st gr co hb_ (nI mo) ga ca ha_ (nI ma) sd tk (hd ca) (fun _ => 0) rc 0 wa) := hD.sub [0, 1, 2, 3, 4, 5, 6, 7, 8, 9, 10, 11, 12, 13, 14, 15, 16, 17, 18, 19] (by decide) rfl
  refine W.eq (g2 := F0 m 5 ls []) rfl ?_
  refine lv_iconst (v := nI 0) hx hb dX4_reefsOn_5 (by decide +kernel) ?_
  refine lv_istore_n (lv' := [(2, .int (nI 0)), (0, .ref o), (1, .ref (ad 7))]) hx hb dX4_reefsOn_6 rfl hl (by decide) rfl (fun ls hl => ?_)
  refine lv_iconst (v := nI 0) hx hb dX4_reefsOn_7 (by decide +kernel) ?_
  refine lv_istore_n (lv' := [(3, .int (nI 0)), (2, .int (nI 0)), (0, .ref o), (1, .ref (ad 7))]) hx hb dX4_reefsOn_8 rfl hl (by decide) rfl (fun ls hl => ?_)
  have L9 : ∀ (fuel : Nat) (x : Nat) (z : Nat) (s1 : Nat → Nat) (r1 : Nat → Nat) (n1 : Nat) (hz : z ≤ 81) (hx_ : x = fb_ct (isRt (hd ca)) z) (hy : (s1, r1, n1) = bCells (hd ca) rc z) (hfuel : 81 - z < fuel) (H : Heap) (locs : List Loc), va_P E.1 vwCl (wAll E o ad wm st gr co hb_ (nI mo) ga ca ha_ (nI ma) sd tk (hd ca) s1 r1 n1 wa) H → va_D A (wAll E o ad wm st gr co hb_ (nI mo) ga ca ha_ (nI ma) sd tk (hd ca) s1 r1 n1 wa) → va_S A s.heap H locs → ∀ ls : Array Slot, lv_has ls 4 [(3, .int (nI z)), (2, .int (nI x)), (0, .ref o), (1, .ref (ad 7))] → W p l e rm_X4_reefsOn_a s m args below meth cd H locs 0 0 Q (F0 m 9 ls []) := by
    intro fuel
    induction fuel with
    | zero => intros; omega
    | succ fuel ihL9 =>
      intro x z s1 r1 n1 hz hx_ hy hfuel H locs hP hD hS ls hl
      have hok1 : bOk (s1, r1, n1) := by rw [hy]; exact bCells_ok z hz
      have hxz := fb_ct_le (isRt (hd ca)) z
      refine lv_iload_n hx hb dX4_reefsOn_9 rfl (lv_at hl 0 rfl) ?_
      refine lv_bipush (v := nI 81) hx hb dX4_reefsOn_10 (by decide +kernel) ?_
      refine n_icmp_ge (x := z) (y := 81) (by omega) (by omega) (tgt := 35) hx hb dX4_reefsOn_12 (by decide) (fun c12 => ?_) (fun c12 => ?_)
      · refine lv_iload_n hx hb dX4_reefsOn_35 rfl (lv_at hl 1 rfl) ?_
        exact e_iret (hd ca, s1, r1, n1) hQ hx hb hr hlocks hP hD hS dX4_reefsOn_36 (rvi (by rw [hx_, show z = 81 by omega]; rfl)) (Nat.le_of_ble_eq_true rfl) (Nat.le_of_ble_eq_true rfl) (trivial)
      · refine lv_aload_n hx hb dX4_reefsOn_15 rfl (lv_at hl 2 rfl) ?_
        refine va_get (D := E.1) (ci := 4) (v := .ref (ad 14)) (C := RX4) (T := TX4) (N := 6) hx hb hts hin4 hown hK.1 hP 0 rfl rfl 4 (by decide) lk36 (fun _ h9 => h9) rfl dX4_reefsOn_16 ?_
        refine lv_iload_n hx hb dX4_reefsOn_19 rfl (lv_at hl 0 rfl) ?_
        refine e_callV (As := [.int (nI z)]) (rest := []) ⟨hx, hb, hml, hown, hts⟩ hK hP hD hS hA hl.1 (c_X2_goFromCell l E _ (ad 14) (ad 15) (ad 16) (ad 17) (hd ca) s1 r1 n1 z (by first | omega | assumption | rfl | (simp_all; done)) (hok1)) (cwV 1 hts gX4_reefsOn_X2_goFromCell rfl rfl rfl (by decide +kernel) ⟨Nat.le_of_ble_eq_true rfl, Nat.le_of_ble_eq_true rfl⟩) [15, 16, 17, 18] [0, 1, 2, 3, 4, 5, 6, 7, 8, 9, 10, 11, 12, 13, 14, 19] rfl rfl rfl rfl (by decide) (q0 := 15) (ci := 2) rfl rfl rfl rfl (Nat.le_of_ble_eq_true rfl) dX4_reefsOn_20 ⟨Nat.le_of_ble_eq_true rfl, Nat.le_of_ble_eq_true rfl⟩ (fun u_3 H locs hu_4 hsz1 hP hD hS => ?_)
        have hP : va_P E.1 vwCl (wAll E o ad wm st gr co hb_ (nI mo) ga ca ha_ (nI ma) sd tk (hd ca) ((bCell (hd ca) (s1, r1, n1) z).1) ((bCell (hd ca) (s1, r1, n1) z).2.1) ((bCell (hd ca) (s1, r1, n1) z).2.2) wa) H := hP.sub [0, 1, 2, 3, 4, 5, 6, 7, 8, 9, 10, 11, 12, 13, 14, 16, 17, 18, 19, 15] rfl
        have hD : va_D A (wAll E o ad wm st gr co hb_ (nI mo) ga ca ha_ (nI ma) sd tk (hd ca) ((bCell (hd ca) (s1, r1, n1) z).1) ((bCell (hd ca) (s1, r1, n1) z).2.1) ((bCell (hd ca) (s1, r1, n1) z).2.2) wa) := hD.sub [0, 1, 2, 3, 4, 5, 6, 7, 8, 9, 10, 11, 12, 13, 14, 16, 17, 18, 19, 15] (by decide) rfl
        refine W.eq (g2 := F0 m 23 ls [.int (nI ((bCell (hd ca) (s1, r1, n1) z).2.2 - n1))]) rfl ?_
        have hgo : (bCell (hd ca) (s1, r1, n1) z).2.2 = n1 + rootN (hd ca) z := by rw [hy]; exact (bCells_n (rc := rc) (by assumption)).trans (by rw [← hy])
        refine e_top (show nI _ = nI (rootN (hd ca) z) by rw [hgo, Nat.add_sub_cancel_left]) ?_
        have hrl := rootN_le (hd ca) z
        refine n_if_le (x := rootN (hd ca) z) (by omega) (tgt := 29) hx hb dX4_reefsOn_23 (by decide) (fun c23 => ?_) (fun c23 => ?_)
        · refine lv_iinc (v := nI (z + 1)) (lv' := [(3, .int (nI (z + 1))), (2, .int (nI x)), (0, .ref o), (1, .ref (ad 7))]) hx hb dX4_reefsOn_29 hl (k := 0) rfl (nI_add z 1) (by decide) rfl (fun ls hl => ?_)
          refine lv_goto (tgt := 9) hx hb dX4_reefsOn_32 (by decide) ?_
          exact ihL9 x (z + 1) ((bCell (hd ca) (s1, r1, n1) z).1) ((bCell (hd ca) (s1, r1, n1) z).2.1) ((bCell (hd ca) (s1, r1, n1) z).2.2) (by first | omega | assumption | rfl | (simp_all; done)) (by first | (rw [fb_t ((rootN_pos (by assumption)).mp (by omega)), hx_]; done) | (rw [fb_f (Bool.not_eq_true _ ▸ fun q => absurd ((rootN_pos (by assumption)).mpr q) (by omega)), hx_]; done)) (by show _ = bCell (hd ca) (bCells (hd ca) rc z) z; rw [← hy]) (by omega) _ _ hP hD hS _ (lv_sub hl [0, 1, 2, 3] rfl)
        · refine lv_iinc (v := nI (x + 1)) (lv' := [(2, .int (nI (x + 1))), (3, .int (nI z)), (0, .ref o), (1, .ref (ad 7))]) hx hb dX4_reefsOn_26 hl (k := 1) rfl (nI_add x 1) (by decide) rfl (fun ls hl => ?_)
          refine lv_iinc (v := nI (z + 1)) (lv' := [(3, .int (nI (z + 1))), (2, .int (nI (x + 1))), (0, .ref o), (1, .ref (ad 7))]) hx hb dX4_reefsOn_29 hl (k := 1) rfl (nI_add z 1) (by decide) rfl (fun ls hl => ?_)
          refine lv_goto (tgt := 9) hx hb dX4_reefsOn_32 (by decide) ?_
          exact ihL9 (x + 1) (z + 1) ((bCell (hd ca) (s1, r1, n1) z).1) ((bCell (hd ca) (s1, r1, n1) z).2.1) ((bCell (hd ca) (s1, r1, n1) z).2.2) (by first | omega | assumption | rfl | (simp_all; done)) (by first | (rw [fb_t ((rootN_pos (by assumption)).mp (by omega)), hx_]; done) | (rw [fb_f (Bool.not_eq_true _ ▸ fun q => absurd ((rootN_pos (by assumption)).mpr q) (by omega)), hx_]; done)) (by show _ = bCell (hd ca) (bCells (hd ca) rc z) z; rw [← hy]) (by omega) _ _ hP hD hS _ (lv_sub hl [0, 1, 2, 3] rfl)
  exact L9 (81 - 0 + 1) 0 0 (fun _ => 0) rc 0 (by first | omega | assumption | rfl | (simp_all; done)) (rfl) (rfl) (Nat.lt_succ_self _) _ _ hP hD hS _ (lv_sub hl [0, 1, 2, 3] rfl)

abbrev rm_X4_headsOfReefAt : Room := { frames := 3, cells := 0, slots := 0, locals := 69 }
set_option maxHeartbeats 4000000 in
set_option maxRecDepth 100000 in
theorem c_X4_headsOfReefAt (l : Launch) (E : eT) (sz : Nat) (o : Nat) (ad : Nat → Nat) (wm : Nat → Int32) (st : Nat → Int32) (gr : Nat → Int32) (co : Nat → Int32) (hb_ : Nat → Bool) (mo : Nat) (ga : Nat → Int32) (ca : Nat → Int32) (ha_ : Nat → Bool) (ma : Nat) (sd : Nat → Int32) (tk : Nat → Int32) (op : Nat → Bool) (sp : Nat → Nat) (rc : Nat → Nat) (rn : Nat) (wa : Nat → Int32) (j : Nat) (hj : j < 81) : cM l yX4_headsOfReefAt wsX4_headsOfReefAt rm_X4_headsOfReefAt E sz [.ref o, .int (nI j)] (wAll E o ad wm st gr co hb_ (nI mo) ga ca ha_ (nI ma) sd tk op sp rc rn wa) (fun u : (Nat → Bool) × (Nat → Nat) × (Nat → Nat) × (Nat) => some (.int (nI (sizeN (hd co) j)))) (fun u : (Nat → Bool) × (Nat → Nat) × (Nat → Nat) × (Nat) => True) (fun u : (Nat → Bool) × (Nat → Nat) × (Nat → Nat) × (Nat) => wAll E o ad wm st gr co hb_ (nI mo) ga ca ha_ (nI ma) sd tk u.1 u.2.1 u.2.2.1 u.2.2.2 wa) := by
  refine cM_intro (cc := cX4_headsOfReefAt) (maxL := 2) (ret := (some .int)) (by decide +kernel) rfl (Nat.le_of_ble_eq_true rfl) ?_
  intro p e s m args below meth cd hx hb hr hml hown hlocks hts hnm hK hsz hP A hD hA Q hQ ls hl
  have hown : s.vm.findClass RX4 = some m.cls := hown
  have hin4 : ∀ w ∈ u_ws RX4 TX4 6, w ∈ wsX4_headsOfReefAt := by decide +kernel
  have lk19 := hts (.fieldLink RX4 19 "ReefPilot" "coast" "LReefPilot$Coast;") (by decide +kernel)
  have lk36 := hts (.fieldLink RX4 36 "ReefPilot" "spread" "LReefPilot$Spread;") (by decide +kernel)
  have hS : va_S A s.heap s.heap [] := va_S.rf
  have hl : lv_has ls 2 [(0, .ref o), (1, .int (nI j))] := hl
  refine lv_aload_n hx hb dX4_headsOfReefAt_0 rfl (lv_at hl 0 rfl) ?_
  refine lv_aload_n hx hb dX4_headsOfReefAt_1 rfl (lv_at hl 0 rfl) ?_
  refine va_get (D := E.1) (ci := 4) (v := .ref (ad 3)) (C := RX4) (T := TX4) (N := 6) hx hb hts hin4 hown hK.1 hP 0 rfl rfl 1 (by decide) lk19 (fun _ h9 => h9) rfl dX4_headsOfReefAt_2 ?_
  refine e_callV (As := [.ref (ad 3)]) (rest := []) ⟨hx, hb, hml, hown, hts⟩ hK hP hD hS hA hl.1 (c_X4_openHeads l E _ o ad wm st gr co hb_ mo ga ca ha_ ma sd tk op sp rc rn wa) (cwV 1 hts gX4_headsOfReefAt_X4_openHeads rfl rfl rfl (by decide +kernel) ⟨Nat.le_of_ble_eq_true rfl, Nat.le_of_ble_eq_true rfl⟩) [0, 1, 2, 3, 4, 5, 6, 7, 8, 9, 10, 11, 12, 13, 14, 15, 16, 17, 18, 19] [] rfl rfl rfl rfl (by decide) (q0 := 0) (ci := 4) rfl rfl rfl rfl (Nat.le_of_ble_eq_true rfl) dX4_headsOfReefAt_5 ⟨Nat.le_of_ble_eq_true rfl, Nat.le_of_ble_eq_true rfl⟩ (fun u_1 H locs hu_2 hsz1 hP hD hS => ?_)
  have hP : va_P E.1 vwCl (wAll E o ad wm st gr co hb_ (nI mo) ga ca ha_ (nI ma) sd tk (hd co) (fun _ => 0) rc 0 wa) H := hP.sub [0, 1, 2, 3, 4, 5, 6, 7, 8, 9, 10, 11, 12, 13, 14, 15, 16, 17, 18, 19] rfl
  have hD : va_D A (wAll E o ad wm st gr co hb_ (nI mo) ga ca ha_ (nI ma) sd tk (hd co) (fun _ => 0) rc 0 wa) := hD.sub [0, 1, 2, 3, 4, 5, 6, 7, 8, 9, 10, 11, 12, 13, 14, 15, 16, 17, 18, 19] (by decide) rfl
  refine W.eq (g2 := F0 m 8 ls []) rfl ?_
  refine lv_aload_n hx hb dX4_headsOfReefAt_8 rfl (lv_at hl 0 rfl) ?_
  refine va_get (D := E.1) (ci := 4) (v := .ref (ad 14)) (C := RX4) (T := TX4) (N := 6) hx hb hts hin4 hown hK.1 hP 0 rfl rfl 4 (by decide) lk36 (fun _ h9 => h9) rfl dX4_headsOfReefAt_9 ?_
  refine lv_iload_n hx hb dX4_headsOfReefAt_12 rfl (lv_at hl 1 rfl) ?_
  refine e_callV (As := [.int (nI j)]) (rest := []) ⟨hx, hb, hml, hown, hts⟩ hK hP hD hS hA hl.1 (c_X2_goFromCell l E _ (ad 14) (ad 15) (ad 16) (ad 17) (hd co) (fun _ => 0) rc 0 j (by first | omega | assumption | rfl | (simp_all; done)) (bClr_ok)) (cwV 1 hts gX4_headsOfReefAt_X2_goFromCell rfl rfl rfl (by decide +kernel) ⟨Nat.le_of_ble_eq_true rfl, Nat.le_of_ble_eq_true rfl⟩) [15, 16, 17, 18] [0, 1, 2, 3, 4, 5, 6, 7, 8, 9, 10, 11, 12, 13, 14, 19] rfl rfl rfl rfl (by decide) (q0 := 15) (ci := 2) rfl rfl rfl rfl (Nat.le_of_ble_eq_true rfl) dX4_headsOfReefAt_13 ⟨Nat.le_of_ble_eq_true rfl, Nat.le_of_ble_eq_true rfl⟩ (fun u_3 H locs hu_4 hsz1 hP hD hS => ?_)
  have hP : va_P E.1 vwCl (wAll E o ad wm st gr co hb_ (nI mo) ga ca ha_ (nI ma) sd tk (hd co) ((bCell (hd co) ((fun _ => 0), rc, 0) j).1) ((bCell (hd co) ((fun _ => 0), rc, 0) j).2.1) ((bCell (hd co) ((fun _ => 0), rc, 0) j).2.2) wa) H := hP.sub [0, 1, 2, 3, 4, 5, 6, 7, 8, 9, 10, 11, 12, 13, 14, 16, 17, 18, 19, 15] rfl
  have hD : va_D A (wAll E o ad wm st gr co hb_ (nI mo) ga ca ha_ (nI ma) sd tk (hd co) ((bCell (hd co) ((fun _ => 0), rc, 0) j).1) ((bCell (hd co) ((fun _ => 0), rc, 0) j).2.1) ((bCell (hd co) ((fun _ => 0), rc, 0) j).2.2) wa) := hD.sub [0, 1, 2, 3, 4, 5, 6, 7, 8, 9, 10, 11, 12, 13, 14, 16, 17, 18, 19, 15] (by decide) rfl
  refine W.eq (g2 := F0 m 16 ls [.int (nI ((bCell (hd co) ((fun _ => 0), rc, 0) j).2.2 - 0))]) rfl ?_
  exact e_iret ((hd co), (bCell (hd co) ((fun _ => 0), rc, 0) j).1, (bCell (hd co) ((fun _ => 0), rc, 0) j).2.1, (bCell (hd co) ((fun _ => 0), rc, 0) j).2.2) hQ hx hb hr hlocks hP hD hS dX4_headsOfReefAt_16 (rvi (by rw [Nat.sub_zero]; exact congrArg nI (bCell_size (rc := rc) hj).symm)) (Nat.le_of_ble_eq_true rfl) (Nat.le_of_ble_eq_true rfl) (trivial)

abbrev rm_X4_headsOfLargestReef : Room := { frames := 3, cells := 0, slots := 0, locals := 69 }
set_option maxHeartbeats 4000000 in
set_option maxRecDepth 100000 in
theorem c_X4_headsOfLargestReef (l : Launch) (E : eT) (sz : Nat) (o : Nat) (ad : Nat → Nat) (wm : Nat → Int32) (st : Nat → Int32) (gr : Nat → Int32) (co : Nat → Int32) (hb_ : Nat → Bool) (mo : Nat) (ga : Nat → Int32) (ca : Nat → Int32) (ha_ : Nat → Bool) (ma : Nat) (sd : Nat → Int32) (tk : Nat → Int32) (op : Nat → Bool) (sp : Nat → Nat) (rc : Nat → Nat) (rn : Nat) (wa : Nat → Int32) : cM l yX4_headsOfLargestReef wsX4_headsOfLargestReef rm_X4_headsOfLargestReef E sz [.ref o] (wAll E o ad wm st gr co hb_ (nI mo) ga ca ha_ (nI ma) sd tk op sp rc rn wa) (fun u : (Nat → Bool) × (Nat → Nat) × (Nat → Nat) × (Nat) => some (.int (nI (bigN (hd co) 81)))) (fun u : (Nat → Bool) × (Nat → Nat) × (Nat → Nat) × (Nat) => True) (fun u : (Nat → Bool) × (Nat → Nat) × (Nat → Nat) × (Nat) => wAll E o ad wm st gr co hb_ (nI mo) ga ca ha_ (nI ma) sd tk u.1 u.2.1 u.2.2.1 u.2.2.2 wa) := by
  refine cM_intro (cc := cX4_headsOfLargestReef) (maxL := 3) (ret := (some .int)) (by decide +kernel) rfl (Nat.le_of_ble_eq_true rfl) ?_
  intro p e s m args below meth cd hx hb hr hml hown hlocks hts hnm hK hsz hP A hD hA Q hQ ls hl
  have hown : s.vm.findClass RX4 = some m.cls := hown
  have hin4 : ∀ w ∈ u_ws RX4 TX4 6, w ∈ wsX4_headsOfLargestReef := by decide +kernel
  have lk19 := hts (.fieldLink RX4 19 "ReefPilot" "coast" "LReefPilot$Coast;") (by decide +kernel)
  have lk36 := hts (.fieldLink RX4 36 "ReefPilot" "spread" "LReefPilot$Spread;") (by decide +kernel)
  have hamcmax := hts (.code Lib.Math.max.name Lib.Math.max.code 2 (some .int)) (by decide +kernel)
  have hamini := hts (.initialized "java/lang/Math") (by decide +kernel)
  have haml145 := hts (.methodLink RX4 145 Lib.Math.max.name) (by decide +kernel)
  have hamsmax := hts (.static Lib.Math.max.name) (by decide +kernel)
  have hS : va_S A s.heap s.heap [] := va_S.rf
  have hl : lv_has ls 3 [(0, .ref o)] := hl
  refine lv_aload_n hx hb dX4_headsOfLargestReef_0 rfl (lv_at hl 0 rfl) ?_
  refine lv_aload_n hx hb dX4_headsOfLargestReef_1 rfl (lv_at hl 0 rfl) ?_
  refine va_get (D := E.1) (ci := 4) (v := .ref (ad 3)) (C := RX4) (T := TX4) (N := 6) hx hb hts hin4 hown hK.1 hP 0 rfl rfl 1 (by decide) lk19 (fun _ h9 => h9) rfl dX4_headsOfLargestReef_2 ?_
  refine e_callV (As := [.ref (ad 3)]) (rest := []) ⟨hx, hb, hml, hown, hts⟩ hK hP hD hS hA hl.1 (c_X4_openHeads l E _ o ad wm st gr co hb_ mo ga ca ha_ ma sd tk op sp rc rn wa) (cwV 1 hts gX4_headsOfLargestReef_X4_openHeads rfl rfl rfl (by decide +kernel) ⟨Nat.le_of_ble_eq_true rfl, Nat.le_of_ble_eq_true rfl⟩) [0, 1, 2, 3, 4, 5, 6, 7, 8, 9, 10, 11, 12, 13, 14, 15, 16, 17, 18, 19] [] rfl rfl rfl rfl (by decide) (q0 := 0) (ci := 4) rfl rfl rfl rfl (Nat.le_of_ble_eq_true rfl) dX4_headsOfLargestReef_5 ⟨Nat.le_of_ble_eq_true rfl, Nat.le_of_ble_eq_true rfl⟩ (fun u_1 H locs hu_2 hsz1 hP hD hS => ?_)
  have hP : va_P E.1 vwCl (wAll E o ad wm st gr co hb_ (nI mo) ga ca ha_ (nI ma) sd tk (hd co) (fun _ => 0) rc 0 wa) H := hP.sub [0, 1, 2, 3, 4, 5, 6, 7, 8, 9, 10, 11, 12, 13, 14, 15, 16, 17, 18, 19] rfl
  have hD : va_D A (wAll E o ad wm st gr co hb_ (nI mo) ga ca ha_ (nI ma) sd tk (hd co) (fun _ => 0) rc 0 wa) := hD.sub [0, 1, 2, 3, 4, 5, 6, 7, 8, 9, 10, 11, 12, 13, 14, 15, 16, 17, 18, 19] (by decide) rfl
  refine W.eq (g2 := F0 m 8 ls []) rfl ?_
  refine lv_iconst (v := nI 0) hx hb dX4_headsOfLargestReef_8 (by decide +kernel) ?_
  refine lv_istore_n (lv' := [(1, .int (nI 0)), (0, .ref o)]) hx hb dX4_headsOfLargestReef_9 rfl hl (by decide) rfl (fun ls hl => ?_)
  refine lv_iconst (v := nI 0) hx hb dX4_headsOfLargestReef_10 (by decide +kernel) ?_
  refine lv_istore_n (lv' := [(2, .int (nI 0)), (1, .int (nI 0)), (0, .ref o)]) hx hb dX4_headsOfLargestReef_11 rfl hl (by decide) rfl (fun ls hl => ?_)
  have L12 : ∀ (fuel : Nat) (z : Nat) (x : Nat) (s1 : Nat → Nat) (r1 : Nat → Nat) (n1 : Nat) (hz : z ≤ 81) (hx_ : x = bigN (hd co) z) (hy : (s1, r1, n1) = bCells (hd co) rc z) (hfuel : 81 - z < fuel) (H : Heap) (locs : List Loc), va_P E.1 vwCl (wAll E o ad wm st gr co hb_ (nI mo) ga ca ha_ (nI ma) sd tk (hd co) s1 r1 n1 wa) H → va_D A (wAll E o ad wm st gr co hb_ (nI mo) ga ca ha_ (nI ma) sd tk (hd co) s1 r1 n1 wa) → va_S A s.heap H locs → ∀ ls : Array Slot, lv_has ls 3 [(2, .int (nI z)), (1, .int (nI x)), (0, .ref o)] → W p l e rm_X4_headsOfLargestReef s m args below meth cd H locs 0 0 Q (F0 m 12 ls []) := by
    intro fuel
    induction fuel with
    | zero => intros; omega
    | succ fuel ihL12 =>
      intro z x s1 r1 n1 hz hx_ hy hfuel H locs hP hD hS ls hl
      have hok1 : bOk (s1, r1, n1) := by rw [hy]; exact bCells_ok z hz
      have hxz := bigN_le (hd co) z
      refine lv_iload_n hx hb dX4_headsOfLargestReef_12 rfl (lv_at hl 0 rfl) ?_
      refine lv_bipush (v := nI 81) hx hb dX4_headsOfLargestReef_13 (by decide +kernel) ?_
      refine n_icmp_ge (x := z) (y := 81) (by omega) (by omega) (tgt := 37) hx hb dX4_headsOfLargestReef_15 (by decide) (fun c15 => ?_) (fun c15 => ?_)
      · refine lv_iload_n hx hb dX4_headsOfLargestReef_37 rfl (lv_at hl 1 rfl) ?_
        exact e_iret (hd co, s1, r1, n1) hQ hx hb hr hlocks hP hD hS dX4_headsOfLargestReef_38 (rvi (by rw [hx_, show z = 81 by omega])) (Nat.le_of_ble_eq_true rfl) (Nat.le_of_ble_eq_true rfl) (trivial)
      · refine lv_iload_n hx hb dX4_headsOfLargestReef_18 rfl (lv_at hl 1 rfl) ?_
        refine lv_aload_n hx hb dX4_headsOfLargestReef_19 rfl (lv_at hl 2 rfl) ?_
        refine va_get (D := E.1) (ci := 4) (v := .ref (ad 14)) (C := RX4) (T := TX4) (N := 6) hx hb hts hin4 hown hK.1 hP 0 rfl rfl 4 (by decide) lk36 (fun _ h9 => h9) rfl dX4_headsOfLargestReef_20 ?_
        refine lv_iload_n hx hb dX4_headsOfLargestReef_23 rfl (lv_at hl 0 rfl) ?_
        refine e_callV (As := [.int (nI z)]) (rest := [.int (nI x)]) ⟨hx, hb, hml, hown, hts⟩ hK hP hD hS hA hl.1 (c_X2_goFromCell l E _ (ad 14) (ad 15) (ad 16) (ad 17) (hd co) s1 r1 n1 z (by first | omega | assumption | rfl | (simp_all; done)) (hok1)) (cwV 1 hts gX4_headsOfLargestReef_X2_goFromCell rfl rfl rfl (by decide +kernel) ⟨Nat.le_of_ble_eq_true rfl, Nat.le_of_ble_eq_true rfl⟩) [15, 16, 17, 18] [0, 1, 2, 3, 4, 5, 6, 7, 8, 9, 10, 11, 12, 13, 14, 19] rfl rfl rfl rfl (by decide) (q0 := 15) (ci := 2) rfl rfl rfl rfl (Nat.le_of_ble_eq_true rfl) dX4_headsOfLargestReef_24 ⟨Nat.le_of_ble_eq_true rfl, Nat.le_of_ble_eq_true rfl⟩ (fun u_3 H locs hu_4 hsz1 hP hD hS => ?_)
        have hP : va_P E.1 vwCl (wAll E o ad wm st gr co hb_ (nI mo) ga ca ha_ (nI ma) sd tk (hd co) ((bCell (hd co) (s1, r1, n1) z).1) ((bCell (hd co) (s1, r1, n1) z).2.1) ((bCell (hd co) (s1, r1, n1) z).2.2) wa) H := hP.sub [0, 1, 2, 3, 4, 5, 6, 7, 8, 9, 10, 11, 12, 13, 14, 16, 17, 18, 19, 15] rfl
        have hD : va_D A (wAll E o ad wm st gr co hb_ (nI mo) ga ca ha_ (nI ma) sd tk (hd co) ((bCell (hd co) (s1, r1, n1) z).1) ((bCell (hd co) (s1, r1, n1) z).2.1) ((bCell (hd co) (s1, r1, n1) z).2.2) wa) := hD.sub [0, 1, 2, 3, 4, 5, 6, 7, 8, 9, 10, 11, 12, 13, 14, 16, 17, 18, 19, 15] (by decide) rfl
        refine W.eq (g2 := F0 m 27 ls [.int (nI ((bCell (hd co) (s1, r1, n1) z).2.2 - n1)), .int (nI x)]) rfl ?_
        have hgo : (bCell (hd co) (s1, r1, n1) z).2.2 = n1 + rootN (hd co) z := by rw [hy]; exact (bCells_n (rc := rc) (by assumption)).trans (by rw [← hy])
        refine e_top (show nI _ = nI (rootN (hd co) z) by rw [hgo, Nat.add_sub_cancel_left]) ?_
        have hrl := rootN_le (hd co) z
        refine va_mmax hx hb (by rw [hml]; exact hl.1.symm) hown haml145 hamsmax hamini hamcmax (Nat.le_of_ble_eq_true rfl) (Nat.le_of_ble_eq_true rfl) (Nat.le_of_ble_eq_true rfl) (Nat.le_of_ble_eq_true rfl) dX4_headsOfLargestReef_27 ?_
        refine e_top (y := iMax (nI x) (nI (rootN (hd co) z))) rfl ?_
        refine e_top (y := nI (if x < rootN (hd co) z then rootN (hd co) z else x)) (nI_max (by omega) (by omega)) ?_
        refine lv_istore_n (lv' := [(1, .int (nI (if x < rootN (hd co) z then rootN (hd co) z else x))), (2, .int (nI z)), (0, .ref o)]) hx hb dX4_headsOfLargestReef_30 rfl hl (by decide) rfl (fun ls hl => ?_)
        refine lv_iinc (v := nI (z + 1)) (lv' := [(2, .int (nI (z + 1))), (1, .int (nI (if x < rootN (hd co) z then rootN (hd co) z else x))), (0, .ref o)]) hx hb dX4_headsOfLargestReef_31 hl (k := 1) rfl (nI_add z 1) (by decide) rfl (fun ls hl => ?_)
        refine lv_goto (tgt := 12) hx hb dX4_headsOfLargestReef_34 (by decide) ?_
        exact ihL12 (z + 1) (if x < rootN (hd co) z then rootN (hd co) z else x) ((bCell (hd co) (s1, r1, n1) z).1) ((bCell (hd co) (s1, r1, n1) z).2.1) ((bCell (hd co) (s1, r1, n1) z).2.2) (by first | omega | assumption | rfl | (simp_all; done)) (by rw [hx_]; rfl) (by show _ = bCell (hd co) (bCells (hd co) rc z) z; rw [← hy]) (by omega) _ _ hP hD hS _ (lv_sub hl [0, 1, 2] rfl)
  exact L12 (81 - 0 + 1) 0 0 (fun _ => 0) rc 0 (by first | omega | assumption | rfl | (simp_all; done)) (rfl) (rfl) (Nat.lt_succ_self _) _ _ hP hD hS _ (lv_sub hl [0, 1, 2] rfl)

abbrev rm_X4_countAnswer : Room := { frames := 4, cells := 0, slots := 0, locals := 92 }
set_option maxHeartbeats 4000000 in
set_option maxRecDepth 100000 in
theorem c_X4_countAnswer (l : Launch) (E : eT) (sz : Nat) (o : Nat) (ad : Nat → Nat) (wm : Nat → Int32) (st : Nat → Int32) (gr : Nat → Int32) (co : Nat → Int32) (hb_ : Nat → Bool) (mo : Nat) (ga : Nat → Int32) (ca : Nat → Int32) (ha_ : Nat → Bool) (ma : Nat) (sd : Nat → Int32) (tk : Nat → Int32) (op : Nat → Bool) (sp : Nat → Nat) (rc : Nat → Nat) (rn : Nat) (wa : Nat → Int32) (k : Nat) (hk : k < 8) : cM l yX4_countAnswer wsX4_countAnswer rm_X4_countAnswer E sz [.ref o, .int (nI k)] (wAll E o ad wm st gr co hb_ (nI mo) ga ca ha_ (nI ma) sd tk op sp rc rn wa) (fun u : (Nat → Bool) × (Nat → Nat) × (Nat → Nat) × (Nat) => some (.int (cntA gr co sd mo k))) (fun u : (Nat → Bool) × (Nat → Nat) × (Nat → Nat) × (Nat) => True) (fun u : (Nat → Bool) × (Nat → Nat) × (Nat → Nat) × (Nat) => wAll E o ad wm st gr co hb_ (nI mo) ga ca ha_ (nI ma) sd tk u.1 u.2.1 u.2.2.1 u.2.2.2 wa) := by
  refine cM_intro (cc := cX4_countAnswer) (maxL := 2) (ret := (some .int)) (by decide +kernel) rfl (Nat.le_of_ble_eq_true rfl) ?_
  intro p e s m args below meth cd hx hb hr hml hown hlocks hts hnm hK hsz hP A hD hA Q hQ ls hl
  have hown : s.vm.findClass RX4 = some m.cls := hown
  have hin4 : ∀ w ∈ u_ws RX4 TX4 6, w ∈ wsX4_countAnswer := by decide +kernel
  have lk19 := hts (.fieldLink RX4 19 "ReefPilot" "coast" "LReefPilot$Coast;") (by decide +kernel)
  have hS : va_S A s.heap s.heap [] := va_S.rf
  have hl : lv_has ls 2 [(0, .ref o), (1, .int (nI k))] := hl
  refine lv_iload_n hx hb dX4_countAnswer_0 rfl (lv_at hl 1 rfl) ?_
  rcases (show k = 0 ∨ k = 1 ∨ k = 2 ∨ k = 3 ∨ k = 4 ∨ k = 5 ∨ k = 6 ∨ k = 7 by omega) with rfl | rfl | rfl | rfl | rfl | rfl | rfl | rfl
  · refine lv_tableIn (off := 43) (tgt := 44) hx hb dX4_countAnswer_1 (by decide +kernel) (by decide +kernel) (by decide +kernel) (by decide) ?_
    refine lv_aload_n hx hb dX4_countAnswer_44 rfl (lv_at hl 0 rfl) ?_
    refine va_get (D := E.1) (ci := 4) (v := .ref (ad 3)) (C := RX4) (T := TX4) (N := 6) hx hb hts hin4 hown hK.1 hP 0 rfl rfl 1 (by decide) lk19 (fun _ h9 => h9) rfl dX4_countAnswer_45 ?_
    refine e_callV (As := []) (rest := []) ⟨hx, hb, hml, hown, hts⟩ hK hP hD hS hA hl.1 (c_X0_monthNow l E _ (ad 3) (ad 4) (ad 5) (ad 6) gr co hb_ (nI mo)) (cwV 0 hts gX4_countAnswer_X0_monthNow rfl rfl rfl (by decide +kernel) ⟨Nat.le_of_ble_eq_true rfl, Nat.le_of_ble_eq_true rfl⟩) [4, 5, 6, 7] [0, 1, 2, 3, 8, 9, 10, 11, 12, 13, 14, 15, 16, 17, 18, 19] rfl rfl rfl rfl (by decide) (q0 := 4) (ci := 0) rfl rfl rfl rfl (Nat.le_of_ble_eq_true rfl) dX4_countAnswer_48 ⟨Nat.le_of_ble_eq_true rfl, Nat.le_of_ble_eq_true rfl⟩ (fun u_1 H locs hu_2 hsz1 hP hD hS => ?_)
    have hP : va_P E.1 vwCl (wAll E o ad wm st gr co hb_ (nI mo) ga ca ha_ (nI ma) sd tk op sp rc rn wa) H := hP.sub [0, 1, 2, 3, 16, 17, 18, 19, 4, 5, 6, 7, 8, 9, 10, 11, 12, 13, 14, 15] rfl
    have hD : va_D A (wAll E o ad wm st gr co hb_ (nI mo) ga ca ha_ (nI ma) sd tk op sp rc rn wa) := hD.sub [0, 1, 2, 3, 16, 17, 18, 19, 4, 5, 6, 7, 8, 9, 10, 11, 12, 13, 14, 15] (by decide) rfl
    refine W.eq (g2 := F0 m 51 ls [.int (nI mo)]) rfl ?_
    exact e_iret (op, sp, rc, rn) hQ hx hb hr hlocks hP hD hS dX4_countAnswer_51 (rfl) (Nat.le_of_ble_eq_true rfl) (Nat.le_of_ble_eq_true rfl) (trivial)
  · refine lv_tableIn (off := 51) (tgt := 52) hx hb dX4_countAnswer_1 (by decide +kernel) (by decide +kernel) (by decide +kernel) (by decide) ?_
    refine lv_aload_n hx hb dX4_countAnswer_52 rfl (lv_at hl 0 rfl) ?_
    refine va_get (D := E.1) (ci := 4) (v := .ref (ad 3)) (C := RX4) (T := TX4) (N := 6) hx hb hts hin4 hown hK.1 hP 0 rfl rfl 1 (by decide) lk19 (fun _ h9 => h9) rfl dX4_countAnswer_53 ?_
    refine e_callV (As := []) (rest := []) ⟨hx, hb, hml, hown, hts⟩ hK hP hD hS hA hl.1 (c_X0_heads l E _ (ad 3) (ad 4) (ad 5) (ad 6) gr co hb_ (nI mo)) (cwV 0 hts gX4_countAnswer_X0_heads rfl rfl rfl (by decide +kernel) ⟨Nat.le_of_ble_eq_true rfl, Nat.le_of_ble_eq_true rfl⟩) [4, 5, 6, 7] [0, 1, 2, 3, 8, 9, 10, 11, 12, 13, 14, 15, 16, 17, 18, 19] rfl rfl rfl rfl (by decide) (q0 := 4) (ci := 0) rfl rfl rfl rfl (Nat.le_of_ble_eq_true rfl) dX4_countAnswer_56 ⟨Nat.le_of_ble_eq_true rfl, Nat.le_of_ble_eq_true rfl⟩ (fun u_3 H locs hu_4 hsz1 hP hD hS => ?_)
    have hP : va_P E.1 vwCl (wAll E o ad wm st gr co hb_ (nI mo) ga ca ha_ (nI ma) sd tk op sp rc rn wa) H := hP.sub [0, 1, 2, 3, 16, 17, 18, 19, 4, 5, 6, 7, 8, 9, 10, 11, 12, 13, 14, 15] rfl
    have hD : va_D A (wAll E o ad wm st gr co hb_ (nI mo) ga ca ha_ (nI ma) sd tk op sp rc rn wa) := hD.sub [0, 1, 2, 3, 16, 17, 18, 19, 4, 5, 6, 7, 8, 9, 10, 11, 12, 13, 14, 15] (by decide) rfl
    refine W.eq (g2 := F0 m 59 ls [.int (nI (heads co))]) rfl ?_
    exact e_iret (op, sp, rc, rn) hQ hx hb hr hlocks hP hD hS dX4_countAnswer_59 (rfl) (Nat.le_of_ble_eq_true rfl) (Nat.le_of_ble_eq_true rfl) (trivial)
  · refine lv_tableIn (off := 59) (tgt := 60) hx hb dX4_countAnswer_1 (by decide +kernel) (by decide +kernel) (by decide +kernel) (by decide) ?_
    refine lv_aload_n hx hb dX4_countAnswer_60 rfl (lv_at hl 0 rfl) ?_
    refine lv_aload_n hx hb dX4_countAnswer_61 rfl (lv_at hl 0 rfl) ?_
    refine va_get (D := E.1) (ci := 4) (v := .ref (ad 3)) (C := RX4) (T := TX4) (N := 6) hx hb hts hin4 hown hK.1 hP 0 rfl rfl 1 (by decide) lk19 (fun _ h9 => h9) rfl dX4_countAnswer_62 ?_
    refine e_callV (As := [.ref (ad 3)]) (rest := []) ⟨hx, hb, hml, hown, hts⟩ hK hP hD hS hA hl.1 (c_X4_reefsOn l E _ o ad wm st gr co hb_ mo ga ca ha_ ma sd tk op sp rc rn wa) (cwV 1 hts gX4_countAnswer_X4_reefsOn rfl rfl rfl (by decide +kernel) ⟨Nat.le_of_ble_eq_true rfl, Nat.le_of_ble_eq_true rfl⟩) [0, 1, 2, 3, 4, 5, 6, 7, 8, 9, 10, 11, 12, 13, 14, 15, 16, 17, 18, 19] [] rfl rfl rfl rfl (by decide) (q0 := 0) (ci := 4) rfl rfl rfl rfl (Nat.le_of_ble_eq_true rfl) dX4_countAnswer_65 ⟨Nat.le_of_ble_eq_true rfl, Nat.le_of_ble_eq_true rfl⟩ (fun u_5 H locs hu_6 hsz1 hP hD hS => ?_)
    obtain ⟨op__7, sp__8, rc__9, rn__10⟩ := u_5
    have hP : va_P E.1 vwCl (wAll E o ad wm st gr co hb_ (nI mo) ga ca ha_ (nI ma) sd tk op__7 sp__8 rc__9 rn__10 wa) H := hP.sub [0, 1, 2, 3, 4, 5, 6, 7, 8, 9, 10, 11, 12, 13, 14, 15, 16, 17, 18, 19] rfl
    have hD : va_D A (wAll E o ad wm st gr co hb_ (nI mo) ga ca ha_ (nI ma) sd tk op__7 sp__8 rc__9 rn__10 wa) := hD.sub [0, 1, 2, 3, 4, 5, 6, 7, 8, 9, 10, 11, 12, 13, 14, 15, 16, 17, 18, 19] (by decide) rfl
    refine W.eq (g2 := F0 m 68 ls [.int (nI (reefN (hd co)))]) rfl ?_
    exact e_iret (op__7, sp__8, rc__9, rn__10) hQ hx hb hr hlocks hP hD hS dX4_countAnswer_68 (rfl) (Nat.le_of_ble_eq_true rfl) (Nat.le_of_ble_eq_true rfl) (trivial)
  · refine lv_tableIn (off := 68) (tgt := 69) hx hb dX4_countAnswer_1 (by decide +kernel) (by decide +kernel) (by decide +kernel) (by decide) ?_
    refine lv_aload_n hx hb dX4_countAnswer_69 rfl (lv_at hl 0 rfl) ?_
    refine e_callV (As := []) (rest := []) ⟨hx, hb, hml, hown, hts⟩ hK hP hD hS hA hl.1 (c_X4_headsOfLargestReef l E _ o ad wm st gr co hb_ mo ga ca ha_ ma sd tk op sp rc rn wa) (cwV 0 hts gX4_countAnswer_X4_headsOfLargestReef rfl rfl rfl (by decide +kernel) ⟨Nat.le_of_ble_eq_true rfl, Nat.le_of_ble_eq_true rfl⟩) [0, 1, 2, 3, 4, 5, 6, 7, 8, 9, 10, 11, 12, 13, 14, 15, 16, 17, 18, 19] [] rfl rfl rfl rfl (by decide) (q0 := 0) (ci := 4) rfl rfl rfl rfl (Nat.le_of_ble_eq_true rfl) dX4_countAnswer_70 ⟨Nat.le_of_ble_eq_true rfl, Nat.le_of_ble_eq_true rfl⟩ (fun u_11 H locs hu_12 hsz1 hP hD hS => ?_)
    obtain ⟨op__13, sp__14, rc__15, rn__16⟩ := u_11
    have hP : va_P E.1 vwCl (wAll E o ad wm st gr co hb_ (nI mo) ga ca ha_ (nI ma) sd tk op__13 sp__14 rc__15 rn__16 wa) H := hP.sub [0, 1, 2, 3, 4, 5, 6, 7, 8, 9, 10, 11, 12, 13, 14, 15, 16, 17, 18, 19] rfl
    have hD : va_D A (wAll E o ad wm st gr co hb_ (nI mo) ga ca ha_ (nI ma) sd tk op__13 sp__14 rc__15 rn__16 wa) := hD.sub [0, 1, 2, 3, 4, 5, 6, 7, 8, 9, 10, 11, 12, 13, 14, 15, 16, 17, 18, 19] (by decide) rfl
    refine W.eq (g2 := F0 m 73 ls [.int (nI (bigN (hd co) 81))]) rfl ?_
    exact e_iret (op__13, sp__14, rc__15, rn__16) hQ hx hb hr hlocks hP hD hS dX4_countAnswer_73 (rfl) (Nat.le_of_ble_eq_true rfl) (Nat.le_of_ble_eq_true rfl) (trivial)
  · refine lv_tableIn (off := 73) (tgt := 74) hx hb dX4_countAnswer_1 (by decide +kernel) (by decide +kernel) (by decide +kernel) (by decide) ?_
    refine lv_aload_n hx hb dX4_countAnswer_74 rfl (lv_at hl 0 rfl) ?_
    refine va_get (D := E.1) (ci := 4) (v := .ref (ad 3)) (C := RX4) (T := TX4) (N := 6) hx hb hts hin4 hown hK.1 hP 0 rfl rfl 1 (by decide) lk19 (fun _ h9 => h9) rfl dX4_countAnswer_75 ?_
    refine e_callV (As := []) (rest := []) ⟨hx, hb, hml, hown, hts⟩ hK hP hD hS hA hl.1 (c_X0_allCoral l E _ (ad 3) (ad 4) (ad 5) (ad 6) gr co hb_ (nI mo)) (cwV 0 hts gX4_countAnswer_X0_allCoral rfl rfl rfl (by decide +kernel) ⟨Nat.le_of_ble_eq_true rfl, Nat.le_of_ble_eq_true rfl⟩) [4, 5, 6, 7] [0, 1, 2, 3, 8, 9, 10, 11, 12, 13, 14, 15, 16, 17, 18, 19] rfl rfl rfl rfl (by decide) (q0 := 4) (ci := 0) rfl rfl rfl rfl (Nat.le_of_ble_eq_true rfl) dX4_countAnswer_78 ⟨Nat.le_of_ble_eq_true rfl, Nat.le_of_ble_eq_true rfl⟩ (fun u_17 H locs hu_18 hsz1 hP hD hS => ?_)
    have hP : va_P E.1 vwCl (wAll E o ad wm st gr co hb_ (nI mo) ga ca ha_ (nI ma) sd tk op sp rc rn wa) H := hP.sub [0, 1, 2, 3, 16, 17, 18, 19, 4, 5, 6, 7, 8, 9, 10, 11, 12, 13, 14, 15] rfl
    have hD : va_D A (wAll E o ad wm st gr co hb_ (nI mo) ga ca ha_ (nI ma) sd tk op sp rc rn wa) := hD.sub [0, 1, 2, 3, 16, 17, 18, 19, 4, 5, 6, 7, 8, 9, 10, 11, 12, 13, 14, 15] (by decide) rfl
    refine W.eq (g2 := F0 m 81 ls [.int (sumI co 81)]) rfl ?_
    exact e_iret (op, sp, rc, rn) hQ hx hb hr hlocks hP hD hS dX4_countAnswer_81 (rfl) (Nat.le_of_ble_eq_true rfl) (Nat.le_of_ble_eq_true rfl) (trivial)
  · refine lv_tableIn (off := 81) (tgt := 82) hx hb dX4_countAnswer_1 (by decide +kernel) (by decide +kernel) (by decide +kernel) (by decide) ?_
    refine lv_aload_n hx hb dX4_countAnswer_82 rfl (lv_at hl 0 rfl) ?_
    refine e_callV (As := []) (rest := []) ⟨hx, hb, hml, hown, hts⟩ hK hP hD hS hA hl.1 (c_X4_soundingsTaken l E _ o ad wm st gr co hb_ mo ga ca ha_ ma sd tk op sp rc rn wa) (cwV 0 hts gX4_countAnswer_X4_soundingsTaken rfl rfl rfl (by decide +kernel) ⟨Nat.le_of_ble_eq_true rfl, Nat.le_of_ble_eq_true rfl⟩) [0, 1, 2, 3, 4, 5, 6, 7, 8, 9, 10, 11, 12, 13, 14, 15, 16, 17, 18, 19] [] rfl rfl rfl rfl (by decide) (q0 := 0) (ci := 4) rfl rfl rfl rfl (Nat.le_of_ble_eq_true rfl) dX4_countAnswer_83 ⟨Nat.le_of_ble_eq_true rfl, Nat.le_of_ble_eq_true rfl⟩ (fun u_19 H locs hu_20 hsz1 hP hD hS => ?_)
    have hP : va_P E.1 vwCl (wAll E o ad wm st gr co hb_ (nI mo) ga ca ha_ (nI ma) sd tk op sp rc rn wa) H := hP.sub [0, 1, 2, 3, 4, 5, 6, 7, 8, 9, 10, 11, 12, 13, 14, 15, 16, 17, 18, 19] rfl
    have hD : va_D A (wAll E o ad wm st gr co hb_ (nI mo) ga ca ha_ (nI ma) sd tk op sp rc rn wa) := hD.sub [0, 1, 2, 3, 4, 5, 6, 7, 8, 9, 10, 11, 12, 13, 14, 15, 16, 17, 18, 19] (by decide) rfl
    refine W.eq (g2 := F0 m 86 ls [.int (nI (takenN sd))]) rfl ?_
    exact e_iret (op, sp, rc, rn) hQ hx hb hr hlocks hP hD hS dX4_countAnswer_86 (rfl) (Nat.le_of_ble_eq_true rfl) (Nat.le_of_ble_eq_true rfl) (trivial)
  · refine lv_tableIn (off := 86) (tgt := 87) hx hb dX4_countAnswer_1 (by decide +kernel) (by decide +kernel) (by decide +kernel) (by decide) ?_
    refine lv_aload_n hx hb dX4_countAnswer_87 rfl (lv_at hl 0 rfl) ?_
    refine e_callV (As := []) (rest := []) ⟨hx, hb, hml, hown, hts⟩ hK hP hD hS hA hl.1 (c_X4_soundingsTooDeep l E _ o ad wm st gr co hb_ mo ga ca ha_ ma sd tk op sp rc rn wa) (cwV 0 hts gX4_countAnswer_X4_soundingsTooDeep rfl rfl rfl (by decide +kernel) ⟨Nat.le_of_ble_eq_true rfl, Nat.le_of_ble_eq_true rfl⟩) [0, 1, 2, 3, 4, 5, 6, 7, 8, 9, 10, 11, 12, 13, 14, 15, 16, 17, 18, 19] [] rfl rfl rfl rfl (by decide) (q0 := 0) (ci := 4) rfl rfl rfl rfl (Nat.le_of_ble_eq_true rfl) dX4_countAnswer_88 ⟨Nat.le_of_ble_eq_true rfl, Nat.le_of_ble_eq_true rfl⟩ (fun u_21 H locs hu_22 hsz1 hP hD hS => ?_)
    have hP : va_P E.1 vwCl (wAll E o ad wm st gr co hb_ (nI mo) ga ca ha_ (nI ma) sd tk op sp rc rn wa) H := hP.sub [0, 1, 2, 3, 4, 5, 6, 7, 8, 9, 10, 11, 12, 13, 14, 15, 16, 17, 18, 19] rfl
    have hD : va_D A (wAll E o ad wm st gr co hb_ (nI mo) ga ca ha_ (nI ma) sd tk op sp rc rn wa) := hD.sub [0, 1, 2, 3, 4, 5, 6, 7, 8, 9, 10, 11, 12, 13, 14, 15, 16, 17, 18, 19] (by decide) rfl
    refine W.eq (g2 := F0 m 91 ls [.int (nI (deepN gr co sd))]) rfl ?_
    exact e_iret (op, sp, rc, rn) hQ hx hb hr hlocks hP hD hS dX4_countAnswer_91 (rfl) (Nat.le_of_ble_eq_true rfl) (Nat.le_of_ble_eq_true rfl) (trivial)
  · refine lv_tableOut (tgt := 92) hx hb dX4_countAnswer_1 (Or.inr (by decide +kernel)) (by decide) ?_
    refine lv_aload_n hx hb dX4_countAnswer_92 rfl (lv_at hl 0 rfl) ?_
    refine e_callV (As := []) (rest := []) ⟨hx, hb, hml, hown, hts⟩ hK hP hD hS hA hl.1 (c_X4_cellsWithoutDepth l E _ o ad wm st gr co hb_ mo ga ca ha_ ma sd tk op sp rc rn wa) (cwV 0 hts gX4_countAnswer_X4_cellsWithoutDepth rfl rfl rfl (by decide +kernel) ⟨Nat.le_of_ble_eq_true rfl, Nat.le_of_ble_eq_true rfl⟩) [0, 1, 2, 3, 4, 5, 6, 7, 8, 9, 10, 11, 12, 13, 14, 15, 16, 17, 18, 19] [] rfl rfl rfl rfl (by decide) (q0 := 0) (ci := 4) rfl rfl rfl rfl (Nat.le_of_ble_eq_true rfl) dX4_countAnswer_93 ⟨Nat.le_of_ble_eq_true rfl, Nat.le_of_ble_eq_true rfl⟩ (fun u_23 H locs hu_24 hsz1 hP hD hS => ?_)
    have hP : va_P E.1 vwCl (wAll E o ad wm st gr co hb_ (nI mo) ga ca ha_ (nI ma) sd tk op sp rc rn wa) H := hP.sub [0, 1, 2, 3, 4, 5, 6, 7, 8, 9, 10, 11, 12, 13, 14, 15, 16, 17, 18, 19] rfl
    have hD : va_D A (wAll E o ad wm st gr co hb_ (nI mo) ga ca ha_ (nI ma) sd tk op sp rc rn wa) := hD.sub [0, 1, 2, 3, 4, 5, 6, 7, 8, 9, 10, 11, 12, 13, 14, 15, 16, 17, 18, 19] (by decide) rfl
    refine W.eq (g2 := F0 m 96 ls [.int (nI (dryN gr co))]) rfl ?_
    exact e_iret (op, sp, rc, rn) hQ hx hb hr hlocks hP hD hS dX4_countAnswer_96 (rfl) (Nat.le_of_ble_eq_true rfl) (Nat.le_of_ble_eq_true rfl) (trivial)

abbrev rm_X4_countOnChart : Room := { frames := 2, cells := 0, slots := 0, locals := 44 }
set_option maxHeartbeats 4000000 in
set_option maxRecDepth 100000 in
theorem c_X4_countOnChart (l : Launch) (E : eT) (sz : Nat) (o : Nat) (ad : Nat → Nat) (wm : Nat → Int32) (st : Nat → Int32) (gr : Nat → Int32) (co : Nat → Int32) (hb_ : Nat → Bool) (mo : Nat) (ga : Nat → Int32) (ca : Nat → Int32) (ha_ : Nat → Bool) (ma : Nat) (sd : Nat → Int32) (tk : Nat → Int32) (op : Nat → Bool) (sp : Nat → Nat) (rc : Nat → Nat) (rn : Nat) (wa : Nat → Int32) : cM l yX4_countOnChart wsX4_countOnChart rm_X4_countOnChart E sz [.ref o] (wAll E o ad wm st gr co hb_ (nI mo) ga ca ha_ (nI ma) sd tk op sp rc rn wa) (fun u : Unit => none) (fun u : Unit => True) (fun u : Unit => wAll E o ad wm st gr co hb_ (nI mo) ga ca ha_ (nI ma) sd tk op sp rc rn (chSafe sd tk (nI mo))) := by
  refine cM_intro (cc := cX4_countOnChart) (maxL := 2) (ret := none) (by decide +kernel) rfl (Nat.le_of_ble_eq_true rfl) ?_
  intro p e s m args below meth cd hx hb hr hml hown hlocks hts hnm hK hsz hP A hD hA Q hQ ls hl
  have hown : s.vm.findClass RX4 = some m.cls := hown
  have hin4 : ∀ w ∈ u_ws RX4 TX4 6, w ∈ wsX4_countOnChart := by decide +kernel
  have lk40 := hts (.fieldLink RX4 40 "ReefPilot" "water" "[I") (by decide +kernel)
  have hS : va_S A s.heap s.heap [] := va_S.rf
  have hl : lv_has ls 2 [(0, .ref o)] := hl
  refine lv_iconst (v := nI 0) hx hb dX4_countOnChart_0 (by decide +kernel) ?_
  refine lv_istore_n (lv' := [(1, .int (nI 0)), (0, .ref o)]) hx hb dX4_countOnChart_1 rfl hl (by decide) rfl (fun ls hl => ?_)
  have L2 : ∀ (fuel : Nat) (z : Nat) (f : Nat → Int32) (hz : z ≤ 81) (hf : ∀ k : Nat, f k = if k < z then chSafe sd tk (nI mo) k else wa k) (hfuel : 81 - z < fuel) (H : Heap) (locs : List Loc), va_P E.1 vwCl (wAll E o ad wm st gr co hb_ (nI mo) ga ca ha_ (nI ma) sd tk op sp rc rn f) H → va_D A (wAll E o ad wm st gr co hb_ (nI mo) ga ca ha_ (nI ma) sd tk op sp rc rn f) → va_S A s.heap H locs → ∀ ls : Array Slot, lv_has ls 2 [(1, .int (nI z)), (0, .ref o)] → W p l e rm_X4_countOnChart s m args below meth cd H locs 0 0 Q (F0 m 2 ls []) := by
    intro fuel
    induction fuel with
    | zero => intros; omega
    | succ fuel ihL2 =>
      intro z f hz hf hfuel H locs hP hD hS ls hl
      refine lv_iload_n hx hb dX4_countOnChart_2 rfl (lv_at hl 0 rfl) ?_
      refine lv_bipush (v := nI 81) hx hb dX4_countOnChart_3 (by decide +kernel) ?_
      refine n_icmp_ge (x := z) (y := 81) (by omega) (by omega) (tgt := 25) hx hb dX4_countOnChart_5 (by decide) (fun c5 => ?_) (fun c5 => ?_)
      · have hP := e_cong hP 19 (g := chSafe sd tk (nI mo)) rfl (lay_end hf (by omega))
        have hD := va_D.set (e := .inl (E.2.1, 81, .inl (chSafe sd tk (nI mo)))) hD (p := 19) rfl
        have hP : va_P E.1 vwCl (wAll E o ad wm st gr co hb_ (nI mo) ga ca ha_ (nI ma) sd tk op sp rc rn (chSafe sd tk (nI mo))) H := hP
        have hD : va_D A (wAll E o ad wm st gr co hb_ (nI mo) ga ca ha_ (nI ma) sd tk op sp rc rn (chSafe sd tk (nI mo))) := hD
        exact e_vret () hQ hx hb hr hlocks hP hD hS dX4_countOnChart_25 (rfl) (Nat.le_of_ble_eq_true rfl) (Nat.le_of_ble_eq_true rfl) (trivial)
      · refine lv_aload_n hx hb dX4_countOnChart_8 rfl (lv_at hl 1 rfl) ?_
        refine va_get (D := E.1) (ci := 4) (v := .ref (ad 18)) (C := RX4) (T := TX4) (N := 6) hx hb hts hin4 hown hK.1 hP 0 rfl rfl 5 (by decide) lk40 (fun _ h9 => h9) rfl dX4_countOnChart_9 ?_
        refine lv_iload_n hx hb dX4_countOnChart_12 rfl (lv_at hl 0 rfl) ?_
        refine lv_aload_n hx hb dX4_countOnChart_13 rfl (lv_at hl 1 rfl) ?_
        refine lv_iload_n hx hb dX4_countOnChart_14 rfl (lv_at hl 0 rfl) ?_
        refine e_callV (As := [.int (nI z)]) (rest := [.int (nI z), .ref (ad 18)]) ⟨hx, hb, hml, hown, hts⟩ hK hP hD hS hA hl.1 (c_X4_safeDepth l E _ o ad wm st gr co hb_ mo ga ca ha_ ma sd tk op sp rc rn f z (by first | omega | assumption | rfl | (simp_all; done))) (cwV 1 hts gX4_countOnChart_X4_safeDepth rfl rfl rfl (by decide +kernel) ⟨Nat.le_of_ble_eq_true rfl, Nat.le_of_ble_eq_true rfl⟩) [0, 1, 2, 3, 4, 5, 6, 7, 8, 9, 10, 11, 12, 13, 14, 15, 16, 17, 18, 19] [] rfl rfl rfl rfl (by decide) (q0 := 0) (ci := 4) rfl rfl rfl rfl (Nat.le_of_ble_eq_true rfl) dX4_countOnChart_15 ⟨Nat.le_of_ble_eq_true rfl, Nat.le_of_ble_eq_true rfl⟩ (fun u_1 H locs hu_2 hsz1 hP hD hS => ?_)
        have hP : va_P E.1 vwCl (wAll E o ad wm st gr co hb_ (nI mo) ga ca ha_ (nI ma) sd tk op sp rc rn f) H := hP.sub [0, 1, 2, 3, 4, 5, 6, 7, 8, 9, 10, 11, 12, 13, 14, 15, 16, 17, 18, 19] rfl
        have hD : va_D A (wAll E o ad wm st gr co hb_ (nI mo) ga ca ha_ (nI ma) sd tk op sp rc rn f) := hD.sub [0, 1, 2, 3, 4, 5, 6, 7, 8, 9, 10, 11, 12, 13, 14, 15, 16, 17, 18, 19] (by decide) rfl
        refine W.eq (g2 := F0 m 18 ls [.int (chSafe sd tk (nI mo) z), .int (nI z), .ref (ad 18)]) rfl ?_
        refine e_iast hK hP hD hS 19 rfl z (by omega) (by decide) hx hb dX4_countOnChart_18 (fun H locs hP hD hS => ?_)
        have hP : va_P E.1 vwCl (wAll E o ad wm st gr co hb_ (nI mo) ga ca ha_ (nI ma) sd tk op sp rc rn (upd f z (chSafe sd tk (nI mo) z))) H := hP
        have hD : va_D A (wAll E o ad wm st gr co hb_ (nI mo) ga ca ha_ (nI ma) sd tk op sp rc rn (upd f z (chSafe sd tk (nI mo) z))) := hD
        refine lv_iinc (v := nI (z + 1)) (lv' := [(1, .int (nI (z + 1))), (0, .ref o)]) hx hb dX4_countOnChart_19 hl (k := 0) rfl (nI_add z 1) (by decide) rfl (fun ls hl => ?_)
        refine lv_goto (tgt := 2) hx hb dX4_countOnChart_22 (by decide) ?_
        exact ihL2 (z + 1) (upd f z (chSafe sd tk (nI mo) z)) (by first | omega | assumption | rfl | (simp_all; done)) (lay_upd hf rfl) (by omega) _ _ hP hD hS _ (lv_sub hl [0, 1] rfl)
  exact L2 (81 - 0 + 1) 0 wa (by first | omega | assumption | rfl | (simp_all; done)) (lay_0) (Nat.lt_succ_self _) _ _ hP hD hS _ (lv_sub hl [0, 1] rfl)

abbrev rm_X4_countOnDepths : Room := { frames := 2, cells := 0, slots := 0, locals := 34 }
set_option maxHeartbeats 4000000 in
set_option maxRecDepth 100000 in
theorem c_X4_countOnDepths (l : Launch) (E : eT) (sz : Nat) (o : Nat) (ad : Nat → Nat) (wm : Nat → Int32) (st : Nat → Int32) (gr : Nat → Int32) (co : Nat → Int32) (hb_ : Nat → Bool) (mo : Nat) (ga : Nat → Int32) (ca : Nat → Int32) (ha_ : Nat → Bool) (ma : Nat) (sd : Nat → Int32) (tk : Nat → Int32) (op : Nat → Bool) (sp : Nat → Nat) (rc : Nat → Nat) (rn : Nat) (wa : Nat → Int32) : cM l yX4_countOnDepths wsX4_countOnDepths rm_X4_countOnDepths E sz [.ref o, .ref (ad 3)] (wAll E o ad wm st gr co hb_ (nI mo) ga ca ha_ (nI ma) sd tk op sp rc rn wa) (fun u : Unit => none) (fun u : Unit => True) (fun u : Unit => wAll E o ad wm st gr co hb_ (nI mo) ga ca ha_ (nI ma) sd tk op sp rc rn (dep gr co)) := by
  refine cM_intro (cc := cX4_countOnDepths) (maxL := 3) (ret := none) (by decide +kernel) rfl (Nat.le_of_ble_eq_true rfl) ?_
  intro p e s m args below meth cd hx hb hr hml hown hlocks hts hnm hK hsz hP A hD hA Q hQ ls hl
  have hown : s.vm.findClass RX4 = some m.cls := hown
  have hin4 : ∀ w ∈ u_ws RX4 TX4 6, w ∈ wsX4_countOnDepths := by decide +kernel
  have lk40 := hts (.fieldLink RX4 40 "ReefPilot" "water" "[I") (by decide +kernel)
  have hS : va_S A s.heap s.heap [] := va_S.rf
  have hl : lv_has ls 3 [(0, .ref o), (1, .ref (ad 3))] := hl
  refine lv_iconst (v := nI 0) hx hb dX4_countOnDepths_0 (by decide +kernel) ?_
  refine lv_istore_n (lv' := [(2, .int (nI 0)), (0, .ref o), (1, .ref (ad 3))]) hx hb dX4_countOnDepths_1 rfl hl (by decide) rfl (fun ls hl => ?_)
  have L2 : ∀ (fuel : Nat) (z : Nat) (f : Nat → Int32) (hz : z ≤ 81) (hf : ∀ k : Nat, f k = if k < z then dep gr co k else wa k) (hfuel : 81 - z < fuel) (H : Heap) (locs : List Loc), va_P E.1 vwCl (wAll E o ad wm st gr co hb_ (nI mo) ga ca ha_ (nI ma) sd tk op sp rc rn f) H → va_D A (wAll E o ad wm st gr co hb_ (nI mo) ga ca ha_ (nI ma) sd tk op sp rc rn f) → va_S A s.heap H locs → ∀ ls : Array Slot, lv_has ls 3 [(2, .int (nI z)), (0, .ref o), (1, .ref (ad 3))] → W p l e rm_X4_countOnDepths s m args below meth cd H locs 0 0 Q (F0 m 2 ls []) := by
    intro fuel
    induction fuel with
    | zero => intros; omega
    | succ fuel ihL2 =>
      intro z f hz hf hfuel H locs hP hD hS ls hl
      refine lv_iload_n hx hb dX4_countOnDepths_2 rfl (lv_at hl 0 rfl) ?_
      refine lv_bipush (v := nI 81) hx hb dX4_countOnDepths_3 (by decide +kernel) ?_
      refine n_icmp_ge (x := z) (y := 81) (by omega) (by omega) (tgt := 25) hx hb dX4_countOnDepths_5 (by decide) (fun c5 => ?_) (fun c5 => ?_)
      · have hP := e_cong hP 19 (g := dep gr co) rfl (lay_end hf (by omega))
        have hD := va_D.set (e := .inl (E.2.1, 81, .inl (dep gr co))) hD (p := 19) rfl
        have hP : va_P E.1 vwCl (wAll E o ad wm st gr co hb_ (nI mo) ga ca ha_ (nI ma) sd tk op sp rc rn (dep gr co)) H := hP
        have hD : va_D A (wAll E o ad wm st gr co hb_ (nI mo) ga ca ha_ (nI ma) sd tk op sp rc rn (dep gr co)) := hD
        exact e_vret () hQ hx hb hr hlocks hP hD hS dX4_countOnDepths_25 (rfl) (Nat.le_of_ble_eq_true rfl) (Nat.le_of_ble_eq_true rfl) (trivial)
      · refine lv_aload_n hx hb dX4_countOnDepths_8 rfl (lv_at hl 1 rfl) ?_
        refine va_get (D := E.1) (ci := 4) (v := .ref (ad 18)) (C := RX4) (T := TX4) (N := 6) hx hb hts hin4 hown hK.1 hP 0 rfl rfl 5 (by decide) lk40 (fun _ h9 => h9) rfl dX4_countOnDepths_9 ?_
        refine lv_iload_n hx hb dX4_countOnDepths_12 rfl (lv_at hl 0 rfl) ?_
        refine lv_aload_n hx hb dX4_countOnDepths_13 rfl (lv_at hl 2 rfl) ?_
        refine lv_iload_n hx hb dX4_countOnDepths_14 rfl (lv_at hl 0 rfl) ?_
        refine e_callV (As := [.int (nI z)]) (rest := [.int (nI z), .ref (ad 18)]) ⟨hx, hb, hml, hown, hts⟩ hK hP hD hS hA hl.1 (c_X0_depthOf l E _ (ad 3) (ad 4) (ad 5) (ad 6) gr co hb_ (nI mo) z (by first | omega | assumption | rfl | (simp_all; done))) (cwV 1 hts gX4_countOnDepths_X0_depthOf rfl rfl rfl (by decide +kernel) ⟨Nat.le_of_ble_eq_true rfl, Nat.le_of_ble_eq_true rfl⟩) [4, 5, 6, 7] [0, 1, 2, 3, 8, 9, 10, 11, 12, 13, 14, 15, 16, 17, 18, 19] rfl rfl rfl rfl (by decide) (q0 := 4) (ci := 0) rfl rfl rfl rfl (Nat.le_of_ble_eq_true rfl) dX4_countOnDepths_15 ⟨Nat.le_of_ble_eq_true rfl, Nat.le_of_ble_eq_true rfl⟩ (fun u_1 H locs hu_2 hsz1 hP hD hS => ?_)
        have hP : va_P E.1 vwCl (wAll E o ad wm st gr co hb_ (nI mo) ga ca ha_ (nI ma) sd tk op sp rc rn f) H := hP.sub [0, 1, 2, 3, 16, 17, 18, 19, 4, 5, 6, 7, 8, 9, 10, 11, 12, 13, 14, 15] rfl
        have hD : va_D A (wAll E o ad wm st gr co hb_ (nI mo) ga ca ha_ (nI ma) sd tk op sp rc rn f) := hD.sub [0, 1, 2, 3, 16, 17, 18, 19, 4, 5, 6, 7, 8, 9, 10, 11, 12, 13, 14, 15] (by decide) rfl
        refine W.eq (g2 := F0 m 18 ls [.int (dep gr co z), .int (nI z), .ref (ad 18)]) rfl ?_
        refine e_iast hK hP hD hS 19 rfl z (by omega) (by decide) hx hb dX4_countOnDepths_18 (fun H locs hP hD hS => ?_)
        have hP : va_P E.1 vwCl (wAll E o ad wm st gr co hb_ (nI mo) ga ca ha_ (nI ma) sd tk op sp rc rn (upd f z (dep gr co z))) H := hP
        have hD : va_D A (wAll E o ad wm st gr co hb_ (nI mo) ga ca ha_ (nI ma) sd tk op sp rc rn (upd f z (dep gr co z))) := hD
        refine lv_iinc (v := nI (z + 1)) (lv' := [(2, .int (nI (z + 1))), (0, .ref o), (1, .ref (ad 3))]) hx hb dX4_countOnDepths_19 hl (k := 0) rfl (nI_add z 1) (by decide) rfl (fun ls hl => ?_)
        refine lv_goto (tgt := 2) hx hb dX4_countOnDepths_22 (by decide) ?_
        exact ihL2 (z + 1) (upd f z (dep gr co z)) (by first | omega | assumption | rfl | (simp_all; done)) (lay_upd hf rfl) (by omega) _ _ hP hD hS _ (lv_sub hl [0, 1, 2] rfl)
  exact L2 (81 - 0 + 1) 0 wa (by first | omega | assumption | rfl | (simp_all; done)) (lay_0) (Nat.lt_succ_self _) _ _ hP hD hS _ (lv_sub hl [0, 1, 2] rfl)

abbrev rm_X4_countOnDepths_a : Room := { frames := 2, cells := 0, slots := 0, locals := 34 }
set_option maxHeartbeats 4000000 in
set_option maxRecDepth 100000 in
theorem c_X4_countOnDepths_a (l : Launch) (E : eT) (sz : Nat) (o : Nat) (ad : Nat → Nat) (wm : Nat → Int32) (st : Nat → Int32) (gr : Nat → Int32) (co : Nat → Int32) (hb_ : Nat → Bool) (mo : Nat) (ga : Nat → Int32) (ca : Nat → Int32) (ha_ : Nat → Bool) (ma : Nat) (sd : Nat → Int32) (tk : Nat → Int32) (op : Nat → Bool) (sp : Nat → Nat) (rc : Nat → Nat) (rn : Nat) (wa : Nat → Int32) : cM l yX4_countOnDepths wsX4_countOnDepths rm_X4_countOnDepths_a E sz [.ref o, .ref (ad 7)] (wAll E o ad wm st gr co hb_ (nI mo) ga ca ha_ (nI ma) sd tk op sp rc rn wa) (fun u : Unit => none) (fun u : Unit => True) (fun u : Unit => wAll E o ad wm st gr co hb_ (nI mo) ga ca ha_ (nI ma) sd tk op sp rc rn (dep ga ca)) := by
  refine cM_intro (cc := cX4_countOnDepths) (maxL := 3) (ret := none) (by decide +kernel) rfl (Nat.le_of_ble_eq_true rfl) ?_
  intro p e s m args below meth cd hx hb hr hml hown hlocks hts hnm hK hsz hP A hD hA Q hQ ls hl
  have hown : s.vm.findClass RX4 = some m.cls := hown
  have hin4 : ∀ w ∈ u_ws RX4 TX4 6, w ∈ wsX4_countOnDepths := by decide +kernel
  have lk40 := hts (.fieldLink RX4 40 "ReefPilot" "water" "[I") (by decide +kernel)
  have hS : va_S A s.heap s.heap [] := va_S.rf
  have hl : lv_has ls 3 [(0, .ref o), (1, .ref (ad 7))] := hl
  refine lv_iconst (v := nI 0) hx hb dX4_countOnDepths_0 (by decide +kernel) ?_
  refine lv_istore_n (lv' := [(2, .int (nI 0)), (0, .ref o), (1, .ref (ad 7))]) hx hb dX4_countOnDepths_1 rfl hl (by decide) rfl (fun ls hl => ?_)
  have L2 : ∀ (fuel : Nat) (z : Nat) (f : Nat → Int32) (hz : z ≤ 81) (hf : ∀ k : Nat, f k = if k < z then dep ga ca k else wa k) (hfuel : 81 - z < fuel) (H : Heap) (locs : List Loc), va_P E.1 vwCl (wAll E o ad wm st gr co hb_ (nI mo) ga ca ha_ (nI ma) sd tk op sp rc rn f) H → va_D A (wAll E o ad wm st gr co hb_ (nI mo) ga ca ha_ (nI ma) sd tk op sp rc rn f) → va_S A s.heap H locs → ∀ ls : Array Slot, lv_has ls 3 [(2, .int (nI z)), (0, .ref o), (1, .ref (ad 7))] → W p l e rm_X4_countOnDepths_a s m args below meth cd H locs 0 0 Q (F0 m 2 ls []) := by
    intro fuel
    induction fuel with
    | zero => intros; omega
    | succ fuel ihL2 =>
      intro z f hz hf hfuel H locs hP hD hS ls hl
      refine lv_iload_n hx hb dX4_countOnDepths_2 rfl (lv_at hl 0 rfl) ?_
      refine lv_bipush (v := nI 81) hx hb dX4_countOnDepths_3 (by decide +kernel) ?_
      refine n_icmp_ge (x := z) (y := 81) (by omega) (by omega) (tgt := 25) hx hb dX4_countOnDepths_5 (by decide) (fun c5 => ?_) (fun c5 => ?_)
      · have hP := e_cong hP 19 (g := dep ga ca) rfl (lay_end hf (by omega))
        have hD := va_D.set (e := .inl (E.2.1, 81, .inl (dep ga ca))) hD (p := 19) rfl
        have hP : va_P E.1 vwCl (wAll E o ad wm st gr co hb_ (nI mo) ga ca ha_ (nI ma) sd tk op sp rc rn (dep ga ca)) H := hP
        have hD : va_D A (wAll E o ad wm st gr co hb_ (nI mo) ga ca ha_ (nI ma) sd tk op sp rc rn (dep ga ca)) := hD
        exact e_vret () hQ hx hb hr hlocks hP hD hS dX4_countOnDepths_25 (rfl) (Nat.le_of_ble_eq_true rfl) (Nat.le_of_ble_eq_true rfl) (trivial)
      · refine lv_aload_n hx hb dX4_countOnDepths_8 rfl (lv_at hl 1 rfl) ?_
        refine va_get (D := E.1) (ci := 4) (v := .ref (ad 18)) (C := RX4) (T := TX4) (N := 6) hx hb hts hin4 hown hK.1 hP 0 rfl rfl 5 (by decide) lk40 (fun _ h9 => h9) rfl dX4_countOnDepths_9 ?_
        refine lv_iload_n hx hb dX4_countOnDepths_12 rfl (lv_at hl 0 rfl) ?_
        refine lv_aload_n hx hb dX4_countOnDepths_13 rfl (lv_at hl 2 rfl) ?_
        refine lv_iload_n hx hb dX4_countOnDepths_14 rfl (lv_at hl 0 rfl) ?_
        refine e_callV (As := [.int (nI z)]) (rest := [.int (nI z), .ref (ad 18)]) ⟨hx, hb, hml, hown, hts⟩ hK hP hD hS hA hl.1 (c_X0_depthOf l E _ (ad 7) (ad 8) (ad 9) (ad 10) ga ca ha_ (nI ma) z (by first | omega | assumption | rfl | (simp_all; done))) (cwV 1 hts gX4_countOnDepths_X0_depthOf rfl rfl rfl (by decide +kernel) ⟨Nat.le_of_ble_eq_true rfl, Nat.le_of_ble_eq_true rfl⟩) [8, 9, 10, 11] [0, 1, 2, 3, 4, 5, 6, 7, 12, 13, 14, 15, 16, 17, 18, 19] rfl rfl rfl rfl (by decide) (q0 := 8) (ci := 0) rfl rfl rfl rfl (Nat.le_of_ble_eq_true rfl) dX4_countOnDepths_15 ⟨Nat.le_of_ble_eq_true rfl, Nat.le_of_ble_eq_true rfl⟩ (fun u_1 H locs hu_2 hsz1 hP hD hS => ?_)
        have hP : va_P E.1 vwCl (wAll E o ad wm st gr co hb_ (nI mo) ga ca ha_ (nI ma) sd tk op sp rc rn f) H := hP.sub [0, 1, 2, 3, 4, 5, 6, 7, 16, 17, 18, 19, 8, 9, 10, 11, 12, 13, 14, 15] rfl
        have hD : va_D A (wAll E o ad wm st gr co hb_ (nI mo) ga ca ha_ (nI ma) sd tk op sp rc rn f) := hD.sub [0, 1, 2, 3, 4, 5, 6, 7, 16, 17, 18, 19, 8, 9, 10, 11, 12, 13, 14, 15] (by decide) rfl
        refine W.eq (g2 := F0 m 18 ls [.int (dep ga ca z), .int (nI z), .ref (ad 18)]) rfl ?_
        refine e_iast hK hP hD hS 19 rfl z (by omega) (by decide) hx hb dX4_countOnDepths_18 (fun H locs hP hD hS => ?_)
        have hP : va_P E.1 vwCl (wAll E o ad wm st gr co hb_ (nI mo) ga ca ha_ (nI ma) sd tk op sp rc rn (upd f z (dep ga ca z))) H := hP
        have hD : va_D A (wAll E o ad wm st gr co hb_ (nI mo) ga ca ha_ (nI ma) sd tk op sp rc rn (upd f z (dep ga ca z))) := hD
        refine lv_iinc (v := nI (z + 1)) (lv' := [(2, .int (nI (z + 1))), (0, .ref o), (1, .ref (ad 7))]) hx hb dX4_countOnDepths_19 hl (k := 0) rfl (nI_add z 1) (by decide) rfl (fun ls hl => ?_)
        refine lv_goto (tgt := 2) hx hb dX4_countOnDepths_22 (by decide) ?_
        exact ihL2 (z + 1) (upd f z (dep ga ca z)) (by first | omega | assumption | rfl | (simp_all; done)) (lay_upd hf rfl) (by omega) _ _ hP hD hS _ (lv_sub hl [0, 1, 2] rfl)
  exact L2 (81 - 0 + 1) 0 wa (by first | omega | assumption | rfl | (simp_all; done)) (lay_0) (Nat.lt_succ_self _) _ _ hP hD hS _ (lv_sub hl [0, 1, 2] rfl)

abbrev rm_X4_countOn : Room := { frames := 3, cells := 0, slots := 0, locals := 65 }
set_option maxHeartbeats 4000000 in
set_option maxRecDepth 100000 in
theorem c_X4_countOn (l : Launch) (E : eT) (sz : Nat) (o : Nat) (ad : Nat → Nat) (wm : Nat → Int32) (st : Nat → Int32) (gr : Nat → Int32) (co : Nat → Int32) (hb_ : Nat → Bool) (mo : Nat) (ga : Nat → Int32) (ca : Nat → Int32) (ha_ : Nat → Bool) (ma : Nat) (sd : Nat → Int32) (tk : Nat → Int32) (op : Nat → Bool) (sp : Nat → Nat) (rc : Nat → Nat) (rn : Nat) (wa : Nat → Int32) (v : Bool) : cM l yX4_countOn wsX4_countOn rm_X4_countOn E sz [.ref o, .int (b2i v)] (wAll E o ad wm st gr co hb_ (nI mo) ga ca ha_ (nI ma) sd tk op sp rc rn wa) (fun u : Unit => none) (fun u : Unit => True) (fun u : Unit => wAll E o ad wm st gr co hb_ (nI mo) ga ca ha_ (nI ma) sd tk op sp rc rn (if v = true then chSafe sd tk (nI mo) else dep gr co)) := by
  refine cM_intro (cc := cX4_countOn) (maxL := 2) (ret := none) (by decide +kernel) rfl (Nat.le_of_ble_eq_true rfl) ?_
  intro p e s m args below meth cd hx hb hr hml hown hlocks hts hnm hK hsz hP A hD hA Q hQ ls hl
  have hown : s.vm.findClass RX4 = some m.cls := hown
  have hin4 : ∀ w ∈ u_ws RX4 TX4 6, w ∈ wsX4_countOn := by decide +kernel
  have lk19 := hts (.fieldLink RX4 19 "ReefPilot" "coast" "LReefPilot$Coast;") (by decide +kernel)
  have hS : va_S A s.heap s.heap [] := va_S.rf
  have hl : lv_has ls 2 [(0, .ref o), (1, .int (b2i v))] := hl
  refine lv_iload_n hx hb dX4_countOn_0 rfl (lv_at hl 1 rfl) ?_
  refine b_if_eq (x := v) (tgt := 11) hx hb dX4_countOn_1 (by decide) (fun c1 => ?_) (fun c1 => ?_)
  · refine lv_aload_n hx hb dX4_countOn_11 rfl (lv_at hl 0 rfl) ?_
    refine lv_aload_n hx hb dX4_countOn_12 rfl (lv_at hl 0 rfl) ?_
    refine va_get (D := E.1) (ci := 4) (v := .ref (ad 3)) (C := RX4) (T := TX4) (N := 6) hx hb hts hin4 hown hK.1 hP 0 rfl rfl 1 (by decide) lk19 (fun _ h9 => h9) rfl dX4_countOn_13 ?_
    refine e_callV (As := [.ref (ad 3)]) (rest := []) ⟨hx, hb, hml, hown, hts⟩ hK hP hD hS hA hl.1 (c_X4_countOnDepths l E _ o ad wm st gr co hb_ mo ga ca ha_ ma sd tk op sp rc rn wa) (cwV 1 hts gX4_countOn_X4_countOnDepths rfl rfl rfl (by decide +kernel) ⟨Nat.le_of_ble_eq_true rfl, Nat.le_of_ble_eq_true rfl⟩) [0, 1, 2, 3, 4, 5, 6, 7, 8, 9, 10, 11, 12, 13, 14, 15, 16, 17, 18, 19] [] rfl rfl rfl rfl (by decide) (q0 := 0) (ci := 4) rfl rfl rfl rfl (Nat.le_of_ble_eq_true rfl) dX4_countOn_16 ⟨Nat.le_of_ble_eq_true rfl, Nat.le_of_ble_eq_true rfl⟩ (fun u_1 H locs hu_2 hsz1 hP hD hS => ?_)
    have hP : va_P E.1 vwCl (wAll E o ad wm st gr co hb_ (nI mo) ga ca ha_ (nI ma) sd tk op sp rc rn (dep gr co)) H := hP.sub [0, 1, 2, 3, 4, 5, 6, 7, 8, 9, 10, 11, 12, 13, 14, 15, 16, 17, 18, 19] rfl
    have hD : va_D A (wAll E o ad wm st gr co hb_ (nI mo) ga ca ha_ (nI ma) sd tk op sp rc rn (dep gr co)) := hD.sub [0, 1, 2, 3, 4, 5, 6, 7, 8, 9, 10, 11, 12, 13, 14, 15, 16, 17, 18, 19] (by decide) rfl
    refine W.eq (g2 := F0 m 19 ls []) rfl ?_
    have hP : va_P E.1 vwCl (wAll E o ad wm st gr co hb_ (nI mo) ga ca ha_ (nI ma) sd tk op sp rc rn (if v = true then chSafe sd tk (nI mo) else dep gr co)) H := by (first | rw [if_pos c1] | rw [if_neg (by rw [c1]; decide)]); exact hP
    have hD : va_D A (wAll E o ad wm st gr co hb_ (nI mo) ga ca ha_ (nI ma) sd tk op sp rc rn (if v = true then chSafe sd tk (nI mo) else dep gr co)) := by (first | rw [if_pos c1] | rw [if_neg (by rw [c1]; decide)]); exact hD
    exact e_vret () hQ hx hb hr hlocks hP hD hS dX4_countOn_19 (rfl) (Nat.le_of_ble_eq_true rfl) (Nat.le_of_ble_eq_true rfl) (trivial)
  · refine lv_aload_n hx hb dX4_countOn_4 rfl (lv_at hl 0 rfl) ?_
    refine e_callV (As := []) (rest := []) ⟨hx, hb, hml, hown, hts⟩ hK hP hD hS hA hl.1 (c_X4_countOnChart l E _ o ad wm st gr co hb_ mo ga ca ha_ ma sd tk op sp rc rn wa) (cwV 0 hts gX4_countOn_X4_countOnChart rfl rfl rfl (by decide +kernel) ⟨Nat.le_of_ble_eq_true rfl, Nat.le_of_ble_eq_true rfl⟩) [0, 1, 2, 3, 4, 5, 6, 7, 8, 9, 10, 11, 12, 13, 14, 15, 16, 17, 18, 19] [] rfl rfl rfl rfl (by decide) (q0 := 0) (ci := 4) rfl rfl rfl rfl (Nat.le_of_ble_eq_true rfl) dX4_countOn_5 ⟨Nat.le_of_ble_eq_true rfl, Nat.le_of_ble_eq_true rfl⟩ (fun u_3 H locs hu_4 hsz1 hP hD hS => ?_)
    have hP : va_P E.1 vwCl (wAll E o ad wm st gr co hb_ (nI mo) ga ca ha_ (nI ma) sd tk op sp rc rn (chSafe sd tk (nI mo))) H := hP.sub [0, 1, 2, 3, 4, 5, 6, 7, 8, 9, 10, 11, 12, 13, 14, 15, 16, 17, 18, 19] rfl
    have hD : va_D A (wAll E o ad wm st gr co hb_ (nI mo) ga ca ha_ (nI ma) sd tk op sp rc rn (chSafe sd tk (nI mo))) := hD.sub [0, 1, 2, 3, 4, 5, 6, 7, 8, 9, 10, 11, 12, 13, 14, 15, 16, 17, 18, 19] (by decide) rfl
    refine W.eq (g2 := F0 m 8 ls []) rfl ?_
    refine lv_goto (tgt := 19) hx hb dX4_countOn_8 (by decide) ?_
    have hP : va_P E.1 vwCl (wAll E o ad wm st gr co hb_ (nI mo) ga ca ha_ (nI ma) sd tk op sp rc rn (if v = true then chSafe sd tk (nI mo) else dep gr co)) H := by (first | rw [if_pos c1] | rw [if_neg (by rw [c1]; decide)]); exact hP
    have hD : va_D A (wAll E o ad wm st gr co hb_ (nI mo) ga ca ha_ (nI ma) sd tk op sp rc rn (if v = true then chSafe sd tk (nI mo) else dep gr co)) := by (first | rw [if_pos c1] | rw [if_neg (by rw [c1]; decide)]); exact hD
    exact e_vret () hQ hx hb hr hlocks hP hD hS dX4_countOn_19 (rfl) (Nat.le_of_ble_eq_true rfl) (Nat.le_of_ble_eq_true rfl) (trivial)

abbrev rm_X4_openWater : Room := { frames := 2, cells := 0, slots := 0, locals := 43 }
set_option maxHeartbeats 4000000 in
set_option maxRecDepth 100000 in
theorem c_X4_openWater (l : Launch) (E : eT) (sz : Nat) (o : Nat) (ad : Nat → Nat) (wm : Nat → Int32) (st : Nat → Int32) (gr : Nat → Int32) (co : Nat → Int32) (hb_ : Nat → Bool) (mo : Nat) (ga : Nat → Int32) (ca : Nat → Int32) (ha_ : Nat → Bool) (ma : Nat) (sd : Nat → Int32) (tk : Nat → Int32) (op : Nat → Bool) (sp : Nat → Nat) (rc : Nat → Nat) (rn : Nat) (wa : Nat → Int32) (dr : Int32) : cM l yX4_openWater wsX4_openWater rm_X4_openWater E sz [.ref o, .int dr] (wAll E o ad wm st gr co hb_ (nI mo) ga ca ha_ (nI ma) sd tk op sp rc rn wa) (fun u : Unit => none) (fun u : Unit => True) (fun u : Unit => wAll E o ad wm st gr co hb_ (nI mo) ga ca ha_ (nI ma) sd tk (opn wa dr) (fun _ => 0) rc 0 wa) := by
  refine cM_intro (cc := cX4_openWater) (maxL := 3) (ret := none) (by decide +kernel) rfl (Nat.le_of_ble_eq_true rfl) ?_
  intro p e s m args below meth cd hx hb hr hml hown hlocks hts hnm hK hsz hP A hD hA Q hQ ls hl
  have hown : s.vm.findClass RX4 = some m.cls := hown
  have hin4 : ∀ w ∈ u_ws RX4 TX4 6, w ∈ wsX4_openWater := by decide +kernel
  have lk36 := hts (.fieldLink RX4 36 "ReefPilot" "spread" "LReefPilot$Spread;") (by decide +kernel)
  have lk40 := hts (.fieldLink RX4 40 "ReefPilot" "water" "[I") (by decide +kernel)
  have hS : va_S A s.heap s.heap [] := va_S.rf
  have hl : lv_has ls 3 [(0, .ref o), (1, .int dr)] := hl
  refine lv_aload_n hx hb dX4_openWater_0 rfl (lv_at hl 0 rfl) ?_
  refine va_get (D := E.1) (ci := 4) (v := .ref (ad 14)) (C := RX4) (T := TX4) (N := 6) hx hb hts hin4 hown hK.1 hP 0 rfl rfl 4 (by decide) lk36 (fun _ h9 => h9) rfl dX4_openWater_1 ?_
  refine e_callV (As := []) (rest := []) ⟨hx, hb, hml, hown, hts⟩ hK hP hD hS hA hl.1 (c_X2_clear l E _ (ad 14) (ad 15) (ad 16) (ad 17) op sp rc rn) (cwV 0 hts gX4_openWater_X2_clear rfl rfl rfl (by decide +kernel) ⟨Nat.le_of_ble_eq_true rfl, Nat.le_of_ble_eq_true rfl⟩) [15, 16, 17, 18] [0, 1, 2, 3, 4, 5, 6, 7, 8, 9, 10, 11, 12, 13, 14, 19] rfl rfl rfl rfl (by decide) (q0 := 15) (ci := 2) rfl rfl rfl rfl (Nat.le_of_ble_eq_true rfl) dX4_openWater_4 ⟨Nat.le_of_ble_eq_true rfl, Nat.le_of_ble_eq_true rfl⟩ (fun u_1 H locs hu_2 hsz1 hP hD hS => ?_)
  have hP : va_P E.1 vwCl (wAll E o ad wm st gr co hb_ (nI mo) ga ca ha_ (nI ma) sd tk op (fun _ => 0) rc 0 wa) H := hP.sub [0, 1, 2, 3, 4, 5, 6, 7, 8, 9, 10, 11, 12, 13, 14, 16, 17, 18, 19, 15] rfl
  have hD : va_D A (wAll E o ad wm st gr co hb_ (nI mo) ga ca ha_ (nI ma) sd tk op (fun _ => 0) rc 0 wa) := hD.sub [0, 1, 2, 3, 4, 5, 6, 7, 8, 9, 10, 11, 12, 13, 14, 16, 17, 18, 19, 15] (by decide) rfl
  refine W.eq (g2 := F0 m 7 ls []) rfl ?_
  refine lv_iconst (v := nI 0) hx hb dX4_openWater_7 (by decide +kernel) ?_
  refine lv_istore_n (lv' := [(2, .int (nI 0)), (0, .ref o), (1, .int dr)]) hx hb dX4_openWater_8 rfl hl (by decide) rfl (fun ls hl => ?_)
  have L9 : ∀ (fuel : Nat) (z : Nat) (f : Nat → Bool) (hz : z ≤ 81) (hf : ∀ k : Nat, f k = if k < z then opn wa dr k else op k) (hfuel : 81 - z < fuel) (H : Heap) (locs : List Loc), va_P E.1 vwCl (wAll E o ad wm st gr co hb_ (nI mo) ga ca ha_ (nI ma) sd tk f (fun _ => 0) rc 0 wa) H → va_D A (wAll E o ad wm st gr co hb_ (nI mo) ga ca ha_ (nI ma) sd tk f (fun _ => 0) rc 0 wa) → va_S A s.heap H locs → ∀ ls : Array Slot, lv_has ls 3 [(2, .int (nI z)), (0, .ref o), (1, .int dr)] → W p l e rm_X4_openWater s m args below meth cd H locs 0 0 Q (F0 m 9 ls []) := by
    intro fuel
    induction fuel with
    | zero => intros; omega
    | succ fuel ihL9 =>
      intro z f hz hf hfuel H locs hP hD hS ls hl
      refine lv_iload_n hx hb dX4_openWater_9 rfl (lv_at hl 0 rfl) ?_
      refine lv_bipush (v := nI 81) hx hb dX4_openWater_10 (by decide +kernel) ?_
      refine n_icmp_ge (x := z) (y := 81) (by omega) (by omega) (tgt := 44) hx hb dX4_openWater_12 (by decide) (fun c12 => ?_) (fun c12 => ?_)
      · have hP := e_cong hP 16 (g := fun k => b2i (opn wa dr k)) rfl (layB_end hf (by omega))
        have hD := va_D.set (e := .inl (E.2.2.1, 81, .inl (fun k => b2i (opn wa dr k)))) hD (p := 16) rfl
        have hP : va_P E.1 vwCl (wAll E o ad wm st gr co hb_ (nI mo) ga ca ha_ (nI ma) sd tk (opn wa dr) (fun _ => 0) rc 0 wa) H := hP
        have hD : va_D A (wAll E o ad wm st gr co hb_ (nI mo) ga ca ha_ (nI ma) sd tk (opn wa dr) (fun _ => 0) rc 0 wa) := hD
        exact e_vret () hQ hx hb hr hlocks hP hD hS dX4_openWater_44 (rfl) (Nat.le_of_ble_eq_true rfl) (Nat.le_of_ble_eq_true rfl) (trivial)
      · refine lv_aload_n hx hb dX4_openWater_15 rfl (lv_at hl 1 rfl) ?_
        refine va_get (D := E.1) (ci := 4) (v := .ref (ad 14)) (C := RX4) (T := TX4) (N := 6) hx hb hts hin4 hown hK.1 hP 0 rfl rfl 4 (by decide) lk36 (fun _ h9 => h9) rfl dX4_openWater_16 ?_
        refine lv_iload_n hx hb dX4_openWater_19 rfl (lv_at hl 0 rfl) ?_
        refine lv_aload_n hx hb dX4_openWater_20 rfl (lv_at hl 1 rfl) ?_
        refine va_get (D := E.1) (ci := 4) (v := .ref (ad 18)) (C := RX4) (T := TX4) (N := 6) hx hb hts hin4 hown hK.1 hP 0 rfl rfl 5 (by decide) lk40 (fun _ h9 => h9) rfl dX4_openWater_21 ?_
        refine lv_iload_n hx hb dX4_openWater_24 rfl (lv_at hl 0 rfl) ?_
        refine e_iald hK hP 19 rfl z (by omega) (by decide) hx hb dX4_openWater_25 ?_
        refine lv_iload_n hx hb dX4_openWater_26 rfl (lv_at hl 2 rfl) ?_
        refine lv_icmp_le (tgt := 34) hx hb dX4_openWater_27 (by decide) (fun c27 => ?_) (fun c27 => ?_)
        · refine lv_iconst (v := nI 0) hx hb dX4_openWater_34 (by decide +kernel) ?_
          refine e_top (y := b2i (opn wa dr z)) (by first | exact (b2i_t (opn_t c27)).symm | exact (b2i_f (opn_f c27)).symm) ?_
          refine e_callV (As := [.int (nI z), .int (b2i (opn wa dr z))]) (rest := []) ⟨hx, hb, hml, hown, hts⟩ hK hP hD hS hA hl.1 (c_X2_setOpen l E _ (ad 14) (ad 15) (ad 16) (ad 17) f (fun _ => 0) rc 0 z (opn wa dr z) (by first | omega | assumption | rfl | (simp_all; done))) (cwV 2 hts gX4_openWater_X2_setOpen rfl rfl rfl (by decide +kernel) ⟨Nat.le_of_ble_eq_true rfl, Nat.le_of_ble_eq_true rfl⟩) [15, 16, 17, 18] [0, 1, 2, 3, 4, 5, 6, 7, 8, 9, 10, 11, 12, 13, 14, 19] rfl rfl rfl rfl (by decide) (q0 := 15) (ci := 2) rfl rfl rfl rfl (Nat.le_of_ble_eq_true rfl) dX4_openWater_35 ⟨Nat.le_of_ble_eq_true rfl, Nat.le_of_ble_eq_true rfl⟩ (fun u_3 H locs hu_4 hsz1 hP hD hS => ?_)
          have hP : va_P E.1 vwCl (wAll E o ad wm st gr co hb_ (nI mo) ga ca ha_ (nI ma) sd tk (updB f z (opn wa dr z)) (fun _ => 0) rc 0 wa) H := hP.sub [0, 1, 2, 3, 4, 5, 6, 7, 8, 9, 10, 11, 12, 13, 14, 16, 17, 18, 19, 15] rfl
          have hD : va_D A (wAll E o ad wm st gr co hb_ (nI mo) ga ca ha_ (nI ma) sd tk (updB f z (opn wa dr z)) (fun _ => 0) rc 0 wa) := hD.sub [0, 1, 2, 3, 4, 5, 6, 7, 8, 9, 10, 11, 12, 13, 14, 16, 17, 18, 19, 15] (by decide) rfl
          refine W.eq (g2 := F0 m 38 ls []) rfl ?_
          refine lv_iinc (v := nI (z + 1)) (lv' := [(2, .int (nI (z + 1))), (0, .ref o), (1, .int dr)]) hx hb dX4_openWater_38 hl (k := 0) rfl (nI_add z 1) (by decide) rfl (fun ls hl => ?_)
          refine lv_goto (tgt := 9) hx hb dX4_openWater_41 (by decide) ?_
          exact ihL9 (z + 1) (updB f z (opn wa dr z)) (by first | omega | assumption | rfl | (simp_all; done)) (layB_upd hf rfl) (by omega) _ _ hP hD hS _ (lv_sub hl [0, 1, 2] rfl)
        · refine lv_iconst (v := nI 1) hx hb dX4_openWater_30 (by decide +kernel) ?_
          refine lv_goto (tgt := 35) hx hb dX4_openWater_31 (by decide) ?_
          refine e_top (y := b2i (opn wa dr z)) (by first | exact (b2i_t (opn_t c27)).symm | exact (b2i_f (opn_f c27)).symm) ?_
          refine e_callV (As := [.int (nI z), .int (b2i (opn wa dr z))]) (rest := []) ⟨hx, hb, hml, hown, hts⟩ hK hP hD hS hA hl.1 (c_X2_setOpen l E _ (ad 14) (ad 15) (ad 16) (ad 17) f (fun _ => 0) rc 0 z (opn wa dr z) (by first | omega | assumption | rfl | (simp_all; done))) (cwV 2 hts gX4_openWater_X2_setOpen rfl rfl rfl (by decide +kernel) ⟨Nat.le_of_ble_eq_true rfl, Nat.le_of_ble_eq_true rfl⟩) [15, 16, 17, 18] [0, 1, 2, 3, 4, 5, 6, 7, 8, 9, 10, 11, 12, 13, 14, 19] rfl rfl rfl rfl (by decide) (q0 := 15) (ci := 2) rfl rfl rfl rfl (Nat.le_of_ble_eq_true rfl) dX4_openWater_35 ⟨Nat.le_of_ble_eq_true rfl, Nat.le_of_ble_eq_true rfl⟩ (fun u_5 H locs hu_6 hsz1 hP hD hS => ?_)
          have hP : va_P E.1 vwCl (wAll E o ad wm st gr co hb_ (nI mo) ga ca ha_ (nI ma) sd tk (updB f z (opn wa dr z)) (fun _ => 0) rc 0 wa) H := hP.sub [0, 1, 2, 3, 4, 5, 6, 7, 8, 9, 10, 11, 12, 13, 14, 16, 17, 18, 19, 15] rfl
          have hD : va_D A (wAll E o ad wm st gr co hb_ (nI mo) ga ca ha_ (nI ma) sd tk (updB f z (opn wa dr z)) (fun _ => 0) rc 0 wa) := hD.sub [0, 1, 2, 3, 4, 5, 6, 7, 8, 9, 10, 11, 12, 13, 14, 16, 17, 18, 19, 15] (by decide) rfl
          refine W.eq (g2 := F0 m 38 ls []) rfl ?_
          refine lv_iinc (v := nI (z + 1)) (lv' := [(2, .int (nI (z + 1))), (0, .ref o), (1, .int dr)]) hx hb dX4_openWater_38 hl (k := 0) rfl (nI_add z 1) (by decide) rfl (fun ls hl => ?_)
          refine lv_goto (tgt := 9) hx hb dX4_openWater_41 (by decide) ?_
          exact ihL9 (z + 1) (updB f z (opn wa dr z)) (by first | omega | assumption | rfl | (simp_all; done)) (layB_upd hf rfl) (by omega) _ _ hP hD hS _ (lv_sub hl [0, 1, 2] rfl)
  exact L9 (81 - 0 + 1) 0 op (by first | omega | assumption | rfl | (simp_all; done)) (layB_0) (Nat.lt_succ_self _) _ _ hP hD hS _ (lv_sub hl [0, 1, 2] rfl)

abbrev rm_X4_startOfShortestWay : Room := { frames := 3, cells := 0, slots := 0, locals := 70 }
set_option maxHeartbeats 4000000 in
set_option maxRecDepth 100000 in
theorem c_X4_startOfShortestWay (l : Launch) (E : eT) (sz : Nat) (o : Nat) (ad : Nat → Nat) (wm : Nat → Int32) (st : Nat → Int32) (gr : Nat → Int32) (co : Nat → Int32) (hb_ : Nat → Bool) (mo : Nat) (ga : Nat → Int32) (ca : Nat → Int32) (ha_ : Nat → Bool) (ma : Nat) (sd : Nat → Int32) (tk : Nat → Int32) (op : Nat → Bool) (sp : Nat → Nat) (rc : Nat → Nat) (rn : Nat) (wa : Nat → Int32) (dr : Int32) : cM l yX4_startOfShortestWay wsX4_startOfShortestWay rm_X4_startOfShortestWay E sz [.ref o, .int dr] (wAll E o ad wm st gr co hb_ (nI mo) ga ca ha_ (nI ma) sd tk op sp rc rn wa) (fun u : (Nat → Nat) × (Nat) => some (.int (oI (bestW wa dr)))) (fun u : (Nat → Nat) × (Nat) => True) (fun u : (Nat → Nat) × (Nat) => wAll E o ad wm st gr co hb_ (nI mo) ga ca ha_ (nI ma) sd tk (opn wa dr) (dist (opn wa dr) 72) u.1 u.2 wa) := by
  refine cM_intro (cc := cX4_startOfShortestWay) (maxL := 5) (ret := (some .int)) (by decide +kernel) rfl (Nat.le_of_ble_eq_true rfl) ?_
  intro p e s m args below meth cd hx hb hr hml hown hlocks hts hnm hK hsz hP A hD hA Q hQ ls hl
  have hown : s.vm.findClass RX4 = some m.cls := hown
  have hin4 : ∀ w ∈ u_ws RX4 TX4 6, w ∈ wsX4_startOfShortestWay := by decide +kernel
  have lk36 := hts (.fieldLink RX4 36 "ReefPilot" "spread" "LReefPilot$Spread;") (by decide +kernel)
  have hS : va_S A s.heap s.heap [] := va_S.rf
  have hl : lv_has ls 5 [(0, .ref o), (1, .int dr)] := hl
  refine lv_aload_n hx hb dX4_startOfShortestWay_0 rfl (lv_at hl 0 rfl) ?_
  refine lv_iload_n hx hb dX4_startOfShortestWay_1 rfl (lv_at hl 1 rfl) ?_
  refine e_callV (As := [.int dr]) (rest := []) ⟨hx, hb, hml, hown, hts⟩ hK hP hD hS hA hl.1 (c_X4_openWater l E _ o ad wm st gr co hb_ mo ga ca ha_ ma sd tk op sp rc rn wa dr) (cwV 1 hts gX4_startOfShortestWay_X4_openWater rfl rfl rfl (by decide +kernel) ⟨Nat.le_of_ble_eq_true rfl, Nat.le_of_ble_eq_true rfl⟩) [0, 1, 2, 3, 4, 5, 6, 7, 8, 9, 10, 11, 12, 13, 14, 15, 16, 17, 18, 19] [] rfl rfl rfl rfl (by decide) (q0 := 0) (ci := 4) rfl rfl rfl rfl (Nat.le_of_ble_eq_true rfl) dX4_startOfShortestWay_2 ⟨Nat.le_of_ble_eq_true rfl, Nat.le_of_ble_eq_true rfl⟩ (fun u_1 H locs hu_2 hsz1 hP hD hS => ?_)
  have hP : va_P E.1 vwCl (wAll E o ad wm st gr co hb_ (nI mo) ga ca ha_ (nI ma) sd tk (opn wa dr) (fun _ => 0) rc 0 wa) H := hP.sub [0, 1, 2, 3, 4, 5, 6, 7, 8, 9, 10, 11, 12, 13, 14, 15, 16, 17, 18, 19] rfl
  have hD : va_D A (wAll E o ad wm st gr co hb_ (nI mo) ga ca ha_ (nI ma) sd tk (opn wa dr) (fun _ => 0) rc 0 wa) := hD.sub [0, 1, 2, 3, 4, 5, 6, 7, 8, 9, 10, 11, 12, 13, 14, 15, 16, 17, 18, 19] (by decide) rfl
  refine W.eq (g2 := F0 m 5 ls []) rfl ?_
  refine lv_aload_n hx hb dX4_startOfShortestWay_5 rfl (lv_at hl 0 rfl) ?_
  refine va_get (D := E.1) (ci := 4) (v := .ref (ad 14)) (C := RX4) (T := TX4) (N := 6) hx hb hts hin4 hown hK.1 hP 0 rfl rfl 4 (by decide) lk36 (fun _ h9 => h9) rfl dX4_startOfShortestWay_6 ?_
  refine lv_bipush (v := nI 72) hx hb dX4_startOfShortestWay_9 (by decide +kernel) ?_
  refine e_callV (As := [.int (nI 72)]) (rest := []) ⟨hx, hb, hml, hown, hts⟩ hK hP hD hS hA hl.1 (c_X2_goFromRow l E _ (ad 14) (ad 15) (ad 16) (ad 17) (opn wa dr) (fun _ => 0) rc 0 72 (by decide) (bClr_ok)) (cwV 1 hts gX4_startOfShortestWay_X2_goFromRow rfl rfl rfl (by decide +kernel) ⟨Nat.le_of_ble_eq_true rfl, Nat.le_of_ble_eq_true rfl⟩) [15, 16, 17, 18] [0, 1, 2, 3, 4, 5, 6, 7, 8, 9, 10, 11, 12, 13, 14, 19] rfl rfl rfl rfl (by decide) (q0 := 15) (ci := 2) rfl rfl rfl rfl (Nat.le_of_ble_eq_true rfl) dX4_startOfShortestWay_11 ⟨Nat.le_of_ble_eq_true rfl, Nat.le_of_ble_eq_true rfl⟩ (fun u_3 H locs hu_4 hsz1 hP hD hS => ?_)
  have hP : va_P E.1 vwCl (wAll E o ad wm st gr co hb_ (nI mo) ga ca ha_ (nI ma) sd tk (opn wa dr) ((bGo (opn wa dr) 82 (bRow (opn wa dr) ((fun _ => 0), rc, 0) 72 9) 0).1) ((bGo (opn wa dr) 82 (bRow (opn wa dr) ((fun _ => 0), rc, 0) 72 9) 0).2.1) ((bGo (opn wa dr) 82 (bRow (opn wa dr) ((fun _ => 0), rc, 0) 72 9) 0).2.2) wa) H := hP.sub [0, 1, 2, 3, 4, 5, 6, 7, 8, 9, 10, 11, 12, 13, 14, 16, 17, 18, 19, 15] rfl
  have hD : va_D A (wAll E o ad wm st gr co hb_ (nI mo) ga ca ha_ (nI ma) sd tk (opn wa dr) ((bGo (opn wa dr) 82 (bRow (opn wa dr) ((fun _ => 0), rc, 0) 72 9) 0).1) ((bGo (opn wa dr) 82 (bRow (opn wa dr) ((fun _ => 0), rc, 0) 72 9) 0).2.1) ((bGo (opn wa dr) 82 (bRow (opn wa dr) ((fun _ => 0), rc, 0) 72 9) 0).2.2) wa) := hD.sub [0, 1, 2, 3, 4, 5, 6, 7, 8, 9, 10, 11, 12, 13, 14, 16, 17, 18, 19, 15] (by decide) rfl
  refine W.eq (g2 := F0 m 14 ls []) rfl ?_
  have hds : (bGo (opn wa dr) 82 (bRow (opn wa dr) ((fun _ => 0), rc, 0) 72 9) 0).1 = dist (opn wa dr) 72 := distS_eq (by decide)
  have hP : va_P E.1 vwCl (wAll E o ad wm st gr co hb_ (nI mo) ga ca ha_ (nI ma) sd tk (opn wa dr) (dist (opn wa dr) 72) ((bGo (opn wa dr) 82 (bRow (opn wa dr) ((fun _ => 0), rc, 0) 72 9) 0).2.1) ((bGo (opn wa dr) 82 (bRow (opn wa dr) ((fun _ => 0), rc, 0) 72 9) 0).2.2) wa) H := by (rw [← hds]); exact hP
  have hD : va_D A (wAll E o ad wm st gr co hb_ (nI mo) ga ca ha_ (nI ma) sd tk (opn wa dr) (dist (opn wa dr) 72) ((bGo (opn wa dr) 82 (bRow (opn wa dr) ((fun _ => 0), rc, 0) 72 9) 0).2.1) ((bGo (opn wa dr) 82 (bRow (opn wa dr) ((fun _ => 0), rc, 0) 72 9) 0).2.2) wa) := by (rw [← hds]); exact hD
  refine lv_iconst (v := (-1)) hx hb dX4_startOfShortestWay_14 (by decide +kernel) ?_
  refine lv_istore_n (lv' := [(2, .int (-1)), (0, .ref o), (1, .int dr)]) hx hb dX4_startOfShortestWay_15 rfl hl (by decide) rfl (fun ls hl => ?_)
  refine lv_iconst (v := nI 0) hx hb dX4_startOfShortestWay_16 (by decide +kernel) ?_
  refine lv_istore_n (lv' := [(3, .int (nI 0)), (2, .int (-1)), (0, .ref o), (1, .int dr)]) hx hb dX4_startOfShortestWay_17 rfl hl (by decide) rfl (fun ls hl => ?_)
  have L18 : ∀ (fuel : Nat) (v : Option Nat) (z : Nat) (hz : z ≤ 9) (hv : v = bestR (dist (opn wa dr) 72) z) (hfuel : 9 - z < fuel) (H : Heap) (locs : List Loc), va_P E.1 vwCl (wAll E o ad wm st gr co hb_ (nI mo) ga ca ha_ (nI ma) sd tk (opn wa dr) (dist (opn wa dr) 72) ((bGo (opn wa dr) 82 (bRow (opn wa dr) ((fun _ => 0), rc, 0) 72 9) 0).2.1) ((bGo (opn wa dr) 82 (bRow (opn wa dr) ((fun _ => 0), rc, 0) 72 9) 0).2.2) wa) H → va_D A (wAll E o ad wm st gr co hb_ (nI mo) ga ca ha_ (nI ma) sd tk (opn wa dr) (dist (opn wa dr) 72) ((bGo (opn wa dr) 82 (bRow (opn wa dr) ((fun _ => 0), rc, 0) 72 9) 0).2.1) ((bGo (opn wa dr) 82 (bRow (opn wa dr) ((fun _ => 0), rc, 0) 72 9) 0).2.2) wa) → va_S A s.heap H locs → ∀ ls : Array Slot, lv_has ls 5 [(3, .int (nI z)), (2, .int (oI v)), (0, .ref o), (1, .int dr)] → W p l e rm_X4_startOfShortestWay s m args below meth cd H locs 0 0 Q (F0 m 18 ls []) := by
    intro fuel
    induction fuel with
    | zero => intros; omega
    | succ fuel ihL18 =>
      intro v z hz hv hfuel H locs hP hD hS ls hl
      have hdz := dist_le (op := opn wa dr) (r := 72) (by decide) z
      refine lv_iload_n hx hb dX4_startOfShortestWay_18 rfl (lv_at hl 0 rfl) ?_
      refine lv_bipush (v := nI 9) hx hb dX4_startOfShortestWay_19 (by decide +kernel) ?_
      refine n_icmp_ge (x := z) (y := 9) (by omega) (by omega) (tgt := 65) hx hb dX4_startOfShortestWay_21 (by decide) (fun c21 => ?_) (fun c21 => ?_)
      · refine lv_iload_n hx hb dX4_startOfShortestWay_65 rfl (lv_at hl 1 rfl) ?_
        exact e_iret ((bGo (opn wa dr) 82 (bRow (opn wa dr) ((fun _ => 0), rc, 0) 72 9) 0).2.1, (bGo (opn wa dr) 82 (bRow (opn wa dr) ((fun _ => 0), rc, 0) 72 9) 0).2.2) hQ hx hb hr hlocks hP hD hS dX4_startOfShortestWay_66 (rvi (by rw [hv, show z = 9 by omega]; rfl)) (Nat.le_of_ble_eq_true rfl) (Nat.le_of_ble_eq_true rfl) (trivial)
      · refine lv_aload_n hx hb dX4_startOfShortestWay_24 rfl (lv_at hl 2 rfl) ?_
        refine va_get (D := E.1) (ci := 4) (v := .ref (ad 14)) (C := RX4) (T := TX4) (N := 6) hx hb hts hin4 hown hK.1 hP 0 rfl rfl 4 (by decide) lk36 (fun _ h9 => h9) rfl dX4_startOfShortestWay_25 ?_
        refine lv_iload_n hx hb dX4_startOfShortestWay_28 rfl (lv_at hl 0 rfl) ?_
        refine e_callV (As := [.int (nI z)]) (rest := []) ⟨hx, hb, hml, hown, hts⟩ hK hP hD hS hA hl.1 (c_X2_stepsTo l E _ (ad 14) (ad 15) (ad 16) (ad 17) (opn wa dr) (dist (opn wa dr) 72) ((bGo (opn wa dr) 82 (bRow (opn wa dr) ((fun _ => 0), rc, 0) 72 9) 0).2.1) ((bGo (opn wa dr) 82 (bRow (opn wa dr) ((fun _ => 0), rc, 0) 72 9) 0).2.2) z (by omega)) (cwV 1 hts gX4_startOfShortestWay_X2_stepsTo rfl rfl rfl (by decide +kernel) ⟨Nat.le_of_ble_eq_true rfl, Nat.le_of_ble_eq_true rfl⟩) [15, 16, 17, 18] [0, 1, 2, 3, 4, 5, 6, 7, 8, 9, 10, 11, 12, 13, 14, 19] rfl rfl rfl rfl (by decide) (q0 := 15) (ci := 2) rfl rfl rfl rfl (Nat.le_of_ble_eq_true rfl) dX4_startOfShortestWay_29 ⟨Nat.le_of_ble_eq_true rfl, Nat.le_of_ble_eq_true rfl⟩ (fun u_5 H locs hu_6 hsz1 hP hD hS => ?_)
        have hP : va_P E.1 vwCl (wAll E o ad wm st gr co hb_ (nI mo) ga ca ha_ (nI ma) sd tk (opn wa dr) (dist (opn wa dr) 72) ((bGo (opn wa dr) 82 (bRow (opn wa dr) ((fun _ => 0), rc, 0) 72 9) 0).2.1) ((bGo (opn wa dr) 82 (bRow (opn wa dr) ((fun _ => 0), rc, 0) 72 9) 0).2.2) wa) H := hP.sub [0, 1, 2, 3, 4, 5, 6, 7, 8, 9, 10, 11, 12, 13, 14, 16, 17, 18, 19, 15] rfl
        have hD : va_D A (wAll E o ad wm st gr co hb_ (nI mo) ga ca ha_ (nI ma) sd tk (opn wa dr) (dist (opn wa dr) 72) ((bGo (opn wa dr) 82 (bRow (opn wa dr) ((fun _ => 0), rc, 0) 72 9) 0).2.1) ((bGo (opn wa dr) 82 (bRow (opn wa dr) ((fun _ => 0), rc, 0) 72 9) 0).2.2) wa) := hD.sub [0, 1, 2, 3, 4, 5, 6, 7, 8, 9, 10, 11, 12, 13, 14, 16, 17, 18, 19, 15] (by decide) rfl
        refine W.eq (g2 := F0 m 32 ls [.int (nI ((dist (opn wa dr) 72) z))]) rfl ?_
        refine lv_istore (lv' := [(4, .int (nI ((dist (opn wa dr) 72) z))), (3, .int (nI z)), (2, .int (oI v)), (0, .ref o), (1, .int dr)]) hx hb dX4_startOfShortestWay_32 hl (by decide) rfl (fun ls hl => ?_)
        refine lv_iload hx hb dX4_startOfShortestWay_34 (lv_at hl 0 rfl) ?_
        refine n_if_le (x := (dist (opn wa dr) 72) z) (by omega) (tgt := 59) hx hb dX4_startOfShortestWay_36 (by decide) (fun c36 => ?_) (fun c36 => ?_)
        · refine lv_iinc (v := nI (z + 1)) (lv' := [(3, .int (nI (z + 1))), (4, .int (nI ((dist (opn wa dr) 72) z))), (2, .int (oI v)), (0, .ref o), (1, .int dr)]) hx hb dX4_startOfShortestWay_59 hl (k := 1) rfl (nI_add z 1) (by decide) rfl (fun ls hl => ?_)
          refine lv_goto (tgt := 18) hx hb dX4_startOfShortestWay_62 (by decide) ?_
          exact ihL18 v (z + 1) (by first | omega | assumption | rfl | (simp_all; done)) (by first | (rw [bestR_none (hv.symm.trans c41), if_pos c36]; done) | (rw [bestR_some (hv.symm.trans c41), if_pos ⟨c36, c54⟩]; done) | (rw [bestR_some (hv.symm.trans c41), if_neg (by omega)]; exact c41) | (rw [hv]; exact bestR_skip c36)) (by omega) _ _ hP hD hS _ (lv_sub hl [0, 2, 3, 4] rfl)
        · refine lv_iload_n hx hb dX4_startOfShortestWay_39 rfl (lv_at hl 2 rfl) ?_
          refine lv_iconst (v := (-1)) hx hb dX4_startOfShortestWay_40 (by decide +kernel) ?_
          refine o_icmp_eq (x := v) (fun q hq => Nat.lt_trans (bestR_lt (hv.symm.trans hq)) (by omega)) (tgt := 57) hx hb dX4_startOfShortestWay_41 (by decide) (fun c41 => ?_) (fun q_7 c41 => ?_)
          · refine lv_iload_n hx hb dX4_startOfShortestWay_57 rfl (lv_at hl 1 rfl) ?_
            refine lv_istore_n (lv' := [(2, .int (nI z)), (4, .int (nI ((dist (opn wa dr) 72) z))), (3, .int (nI z)), (0, .ref o), (1, .int dr)]) hx hb dX4_startOfShortestWay_58 rfl hl (by decide) rfl (fun ls hl => ?_)
            refine lv_iinc (v := nI (z + 1)) (lv' := [(3, .int (nI (z + 1))), (2, .int (nI z)), (4, .int (nI ((dist (opn wa dr) 72) z))), (0, .ref o), (1, .int dr)]) hx hb dX4_startOfShortestWay_59 hl (k := 2) rfl (nI_add z 1) (by decide) rfl (fun ls hl => ?_)
            refine lv_goto (tgt := 18) hx hb dX4_startOfShortestWay_62 (by decide) ?_
            exact ihL18 (some z) (z + 1) (by first | omega | assumption | rfl | (simp_all; done)) (by first | (rw [bestR_none (hv.symm.trans c41), if_pos c36]; done) | (rw [bestR_some (hv.symm.trans c41), if_pos ⟨c36, c54⟩]; done) | (rw [bestR_some (hv.symm.trans c41), if_neg (by omega)]; exact c41) | (rw [hv]; exact bestR_skip c36)) (by omega) _ _ hP hD hS _ (lv_sub hl [0, 1, 3, 4] rfl)
          · refine lv_iload hx hb dX4_startOfShortestWay_44 (lv_at hl 0 rfl) ?_
            refine lv_aload_n hx hb dX4_startOfShortestWay_46 rfl (lv_at hl 3 rfl) ?_
            refine va_get (D := E.1) (ci := 4) (v := .ref (ad 14)) (C := RX4) (T := TX4) (N := 6) hx hb hts hin4 hown hK.1 hP 0 rfl rfl 4 (by decide) lk36 (fun _ h9 => h9) rfl dX4_startOfShortestWay_47 ?_
            refine lv_iload_n hx hb dX4_startOfShortestWay_50 rfl (lv_at hl 2 rfl) ?_
            refine e_top (show oI v = nI q_7 by rw [c41]; rfl) ?_
            have hq_ : q_7 < 9 := Nat.lt_of_lt_of_le (bestR_lt (hv.symm.trans c41)) hz
            have hdq := dist_le (op := opn wa dr) (r := 72) (by decide) q_7
            refine e_callV (As := [.int (nI q_7)]) (rest := [.int (nI ((dist (opn wa dr) 72) z))]) ⟨hx, hb, hml, hown, hts⟩ hK hP hD hS hA hl.1 (c_X2_stepsTo l E _ (ad 14) (ad 15) (ad 16) (ad 17) (opn wa dr) (dist (opn wa dr) 72) ((bGo (opn wa dr) 82 (bRow (opn wa dr) ((fun _ => 0), rc, 0) 72 9) 0).2.1) ((bGo (opn wa dr) 82 (bRow (opn wa dr) ((fun _ => 0), rc, 0) 72 9) 0).2.2) q_7 (Nat.lt_trans hq_ (by decide))) (cwV 1 hts gX4_startOfShortestWay_X2_stepsTo rfl rfl rfl (by decide +kernel) ⟨Nat.le_of_ble_eq_true rfl, Nat.le_of_ble_eq_true rfl⟩) [15, 16, 17, 18] [0, 1, 2, 3, 4, 5, 6, 7, 8, 9, 10, 11, 12, 13, 14, 19] rfl rfl rfl rfl (by decide) (q0 := 15) (ci := 2) rfl rfl rfl rfl (Nat.le_of_ble_eq_true rfl) dX4_startOfShortestWay_51 ⟨Nat.le_of_ble_eq_true rfl, Nat.le_of_ble_eq_true rfl⟩ (fun u_8 H locs hu_9 hsz1 hP hD hS => ?_)
            have hP : va_P E.1 vwCl (wAll E o ad wm st gr co hb_ (nI mo) ga ca ha_ (nI ma) sd tk (opn wa dr) (dist (opn wa dr) 72) ((bGo (opn wa dr) 82 (bRow (opn wa dr) ((fun _ => 0), rc, 0) 72 9) 0).2.1) ((bGo (opn wa dr) 82 (bRow (opn wa dr) ((fun _ => 0), rc, 0) 72 9) 0).2.2) wa) H := hP.sub [0, 1, 2, 3, 4, 5, 6, 7, 8, 9, 10, 11, 12, 13, 14, 16, 17, 18, 19, 15] rfl
            have hD : va_D A (wAll E o ad wm st gr co hb_ (nI mo) ga ca ha_ (nI ma) sd tk (opn wa dr) (dist (opn wa dr) 72) ((bGo (opn wa dr) 82 (bRow (opn wa dr) ((fun _ => 0), rc, 0) 72 9) 0).2.1) ((bGo (opn wa dr) 82 (bRow (opn wa dr) ((fun _ => 0), rc, 0) 72 9) 0).2.2) wa) := hD.sub [0, 1, 2, 3, 4, 5, 6, 7, 8, 9, 10, 11, 12, 13, 14, 16, 17, 18, 19, 15] (by decide) rfl
            refine W.eq (g2 := F0 m 54 ls [.int (nI ((dist (opn wa dr) 72) q_7)), .int (nI ((dist (opn wa dr) 72) z))]) rfl ?_
            refine n_icmp_ge (x := (dist (opn wa dr) 72) z) (y := (dist (opn wa dr) 72) q_7) (by omega) (by omega) (tgt := 59) hx hb dX4_startOfShortestWay_54 (by decide) (fun c54 => ?_) (fun c54 => ?_)
            · refine lv_iinc (v := nI (z + 1)) (lv' := [(3, .int (nI (z + 1))), (4, .int (nI ((dist (opn wa dr) 72) z))), (2, .int (oI v)), (0, .ref o), (1, .int dr)]) hx hb dX4_startOfShortestWay_59 hl (k := 1) rfl (nI_add z 1) (by decide) rfl (fun ls hl => ?_)
              refine lv_goto (tgt := 18) hx hb dX4_startOfShortestWay_62 (by decide) ?_
              exact ihL18 v (z + 1) (by first | omega | assumption | rfl | (simp_all; done)) (by first | (rw [bestR_none (hv.symm.trans c41), if_pos c36]; done) | (rw [bestR_some (hv.symm.trans c41), if_pos ⟨c36, c54⟩]; done) | (rw [bestR_some (hv.symm.trans c41), if_neg (by omega)]; exact c41) | (rw [hv]; exact bestR_skip c36)) (by omega) _ _ hP hD hS _ (lv_sub hl [0, 2, 3, 4] rfl)
            · refine lv_iload_n hx hb dX4_startOfShortestWay_57 rfl (lv_at hl 1 rfl) ?_
              refine lv_istore_n (lv' := [(2, .int (nI z)), (4, .int (nI ((dist (opn wa dr) 72) z))), (3, .int (nI z)), (0, .ref o), (1, .int dr)]) hx hb dX4_startOfShortestWay_58 rfl hl (by decide) rfl (fun ls hl => ?_)
              refine lv_iinc (v := nI (z + 1)) (lv' := [(3, .int (nI (z + 1))), (2, .int (nI z)), (4, .int (nI ((dist (opn wa dr) 72) z))), (0, .ref o), (1, .int dr)]) hx hb dX4_startOfShortestWay_59 hl (k := 2) rfl (nI_add z 1) (by decide) rfl (fun ls hl => ?_)
              refine lv_goto (tgt := 18) hx hb dX4_startOfShortestWay_62 (by decide) ?_
              exact ihL18 (some z) (z + 1) (by first | omega | assumption | rfl | (simp_all; done)) (by first | (rw [bestR_none (hv.symm.trans c41), if_pos c36]; done) | (rw [bestR_some (hv.symm.trans c41), if_pos ⟨c36, c54⟩]; done) | (rw [bestR_some (hv.symm.trans c41), if_neg (by omega)]; exact c41) | (rw [hv]; exact bestR_skip c36)) (by omega) _ _ hP hD hS _ (lv_sub hl [0, 1, 3, 4] rfl)
  exact L18 (9 - 0 + 1) none 0 (by first | omega | assumption | rfl | (simp_all; done)) (rfl) (Nat.lt_succ_self _) _ _ hP hD hS _ (lv_sub hl [0, 1, 2, 3] rfl)

abbrev rm_X4_greatestDraught : Room := { frames := 4, cells := 0, slots := 0, locals := 94 }
set_option maxHeartbeats 4000000 in
set_option maxRecDepth 100000 in
theorem c_X4_greatestDraught (l : Launch) (E : eT) (sz : Nat) (o : Nat) (ad : Nat → Nat) (wm : Nat → Int32) (st : Nat → Int32) (gr : Nat → Int32) (co : Nat → Int32) (hb_ : Nat → Bool) (mo : Nat) (ga : Nat → Int32) (ca : Nat → Int32) (ha_ : Nat → Bool) (ma : Nat) (sd : Nat → Int32) (tk : Nat → Int32) (op : Nat → Bool) (sp : Nat → Nat) (rc : Nat → Nat) (rn : Nat) (wa : Nat → Int32) : cM l yX4_greatestDraught wsX4_greatestDraught rm_X4_greatestDraught E sz [.ref o] (wAll E o ad wm st gr co hb_ (nI mo) ga ca ha_ (nI ma) sd tk op sp rc rn wa) (fun u : (Nat → Bool) × (Nat → Nat) × (Nat → Nat) × (Nat) => some (.int (oI (mostD (someW wa) 40)))) (fun u : (Nat → Bool) × (Nat → Nat) × (Nat → Nat) × (Nat) => True) (fun u : (Nat → Bool) × (Nat → Nat) × (Nat → Nat) × (Nat) => wAll E o ad wm st gr co hb_ (nI mo) ga ca ha_ (nI ma) sd tk u.1 u.2.1 u.2.2.1 u.2.2.2 wa) := by
  refine cM_intro (cc := cX4_greatestDraught) (maxL := 2) (ret := (some .int)) (by decide +kernel) rfl (Nat.le_of_ble_eq_true rfl) ?_
  intro p e s m args below meth cd hx hb hr hml hown hlocks hts hnm hK hsz hP A hD hA Q hQ ls hl
  have hown : s.vm.findClass RX4 = some m.cls := hown
  have hS : va_S A s.heap s.heap [] := va_S.rf
  have hl : lv_has ls 2 [(0, .ref o)] := hl
  refine lv_bipush (v := nI 39) hx hb dX4_greatestDraught_0 (by decide +kernel) ?_
  refine lv_istore_n (lv' := [(1, .int (nI 39)), (0, .ref o)]) hx hb dX4_greatestDraught_2 rfl hl (by decide) rfl (fun ls hl => ?_)
  have L3 : ∀ (fuel : Nat) (k : Nat) (o1 : Nat → Bool) (s1 : Nat → Nat) (r1 : Nat → Nat) (n1 : Nat) (hk : k ≤ 40) (hm : mostD (someW wa) 40 = mostD (someW wa) k) (hfuel : k < fuel) (H : Heap) (locs : List Loc), va_P E.1 vwCl (wAll E o ad wm st gr co hb_ (nI mo) ga ca ha_ (nI ma) sd tk o1 s1 r1 n1 wa) H → va_D A (wAll E o ad wm st gr co hb_ (nI mo) ga ca ha_ (nI ma) sd tk o1 s1 r1 n1 wa) → va_S A s.heap H locs → ∀ ls : Array Slot, lv_has ls 2 [(1, .int (dn k)), (0, .ref o)] → W p l e rm_X4_greatestDraught s m args below meth cd H locs 0 0 Q (F0 m 3 ls []) := by
    intro fuel
    induction fuel with
    | zero => intros; omega
    | succ fuel ihL3 =>
      intro k o1 s1 r1 n1 hk hm hfuel H locs hP hD hS ls hl
      refine lv_iload_n hx hb dX4_greatestDraught_3 rfl (lv_at hl 0 rfl) ?_
      refine d_if_lt (k := k) (by omega) (tgt := 24) hx hb dX4_greatestDraught_4 (by decide) (fun c4 => ?_) (fun kq c4 => ?_)
      · refine lv_iconst (v := (-1)) hx hb dX4_greatestDraught_24 (by decide +kernel) ?_
        exact e_iret (o1, s1, r1, n1) hQ hx hb hr hlocks hP hD hS dX4_greatestDraught_25 (rvi (by rw [hm, c4]; rfl)) (Nat.le_of_ble_eq_true rfl) (Nat.le_of_ble_eq_true rfl) (trivial)
      · subst c4
        have hl : lv_has ls 2 [(1, .int (nI kq)), (0, .ref o)] := hl
        refine lv_aload_n hx hb dX4_greatestDraught_7 rfl (lv_at hl 1 rfl) ?_
        refine lv_iload_n hx hb dX4_greatestDraught_8 rfl (lv_at hl 0 rfl) ?_
        refine e_callV (As := [.int (nI kq)]) (rest := []) ⟨hx, hb, hml, hown, hts⟩ hK hP hD hS hA hl.1 (c_X4_startOfShortestWay l E _ o ad wm st gr co hb_ mo ga ca ha_ ma sd tk o1 s1 r1 n1 wa (nI kq)) (cwV 1 hts gX4_greatestDraught_X4_startOfShortestWay rfl rfl rfl (by decide +kernel) ⟨Nat.le_of_ble_eq_true rfl, Nat.le_of_ble_eq_true rfl⟩) [0, 1, 2, 3, 4, 5, 6, 7, 8, 9, 10, 11, 12, 13, 14, 15, 16, 17, 18, 19] [] rfl rfl rfl rfl (by decide) (q0 := 0) (ci := 4) rfl rfl rfl rfl (Nat.le_of_ble_eq_true rfl) dX4_greatestDraught_9 ⟨Nat.le_of_ble_eq_true rfl, Nat.le_of_ble_eq_true rfl⟩ (fun u_2 H locs hu_3 hsz1 hP hD hS => ?_)
        obtain ⟨rc__4, rn__5⟩ := u_2
        have hP : va_P E.1 vwCl (wAll E o ad wm st gr co hb_ (nI mo) ga ca ha_ (nI ma) sd tk (opn wa (nI kq)) (dist (opn wa (nI kq)) 72) rc__4 rn__5 wa) H := hP.sub [0, 1, 2, 3, 4, 5, 6, 7, 8, 9, 10, 11, 12, 13, 14, 15, 16, 17, 18, 19] rfl
        have hD : va_D A (wAll E o ad wm st gr co hb_ (nI mo) ga ca ha_ (nI ma) sd tk (opn wa (nI kq)) (dist (opn wa (nI kq)) 72) rc__4 rn__5 wa) := hD.sub [0, 1, 2, 3, 4, 5, 6, 7, 8, 9, 10, 11, 12, 13, 14, 15, 16, 17, 18, 19] (by decide) rfl
        refine W.eq (g2 := F0 m 12 ls [.int (oI (bestW wa (nI kq)))]) rfl ?_
        refine lv_iconst (v := (-1)) hx hb dX4_greatestDraught_12 (by decide +kernel) ?_
        refine o_icmp_eq (x := bestW wa (nI kq)) (fun q hq => Nat.lt_trans (bestR_lt hq) (by decide)) (tgt := 18) hx hb dX4_greatestDraught_13 (by decide) (fun c13 => ?_) (fun q_6 c13 => ?_)
        · refine lv_iinc (v := dn kq) (lv' := [(1, .int (dn kq)), (0, .ref o)]) hx hb dX4_greatestDraught_18 hl (k := 0) rfl (dn_dec kq) (by decide) rfl (fun ls hl => ?_)
          refine lv_goto (tgt := 3) hx hb dX4_greatestDraught_21 (by decide) ?_
          exact ihL3 kq (opn wa (nI kq)) (dist (opn wa (nI kq)) 72) rc__4 rn__5 (by first | omega | assumption | rfl | (simp_all; done)) (by rw [hm]; show (if someW wa kq = true then _ else _) = _; rw [if_neg (show ¬ someW wa kq = true by unfold someW; rw [c13]; decide)]) (by omega) _ _ hP hD hS _ (lv_sub hl [0, 1] rfl)
        · refine lv_iload_n hx hb dX4_greatestDraught_16 rfl (lv_at hl 0 rfl) ?_
          exact e_iret (opn wa (nI kq), dist (opn wa (nI kq)) 72, rc__4, rn__5) hQ hx hb hr hlocks hP hD hS dX4_greatestDraught_17 (rvi (by rw [hm]; show oI (if someW wa kq = true then some kq else _) = _; rw [if_pos (show someW wa kq = true from isNone_f c13)]; rfl)) (Nat.le_of_ble_eq_true rfl) (Nat.le_of_ble_eq_true rfl) (trivial)
  exact L3 (40 + 1) 40 op sp rc rn (by first | omega | assumption | rfl | (simp_all; done)) (rfl) (Nat.lt_succ_self _) _ _ hP hD hS _ (lv_sub hl [0, 1] rfl)

abbrev rm_X4_leadFrom : Room := { frames := 2, cells := 0, slots := 0, locals := 46 }
set_option maxHeartbeats 4000000 in
set_option maxRecDepth 100000 in
theorem c_X4_leadFrom (l : Launch) (E : eT) (sz : Nat) (o : Nat) (ad : Nat → Nat) (wm : Nat → Int32) (st : Nat → Int32) (gr : Nat → Int32) (co : Nat → Int32) (hb_ : Nat → Bool) (mo : Nat) (ga : Nat → Int32) (ca : Nat → Int32) (ha_ : Nat → Bool) (ma : Nat) (sd : Nat → Int32) (tk : Nat → Int32) (op : Nat → Bool) (sp : Nat → Nat) (rc : Nat → Nat) (rn : Nat) (wa : Nat → Int32) (j : Nat) (dr : Int32) (hj : j < 81) (hs : ∀ k, sp k ≤ 81) : cM l yX4_leadFrom wsX4_leadFrom rm_X4_leadFrom E sz [.ref o, .int (nI j), .int dr] (wAll E o ad wm st gr co hb_ (nI mo) ga ca ha_ (nI ma) sd tk op sp rc rn wa) (fun u : Unit => some (.int (nI (leadN (dep gr co) dr sp (sp j) j)))) (fun u : Unit => True) (fun u : Unit => wAll E o ad wm st gr co hb_ (nI mo) ga ca ha_ (nI ma) sd tk op sp rc rn wa) := by
  refine cM_intro (cc := cX4_leadFrom) (maxL := 5) (ret := (some .int)) (by decide +kernel) rfl (Nat.le_of_ble_eq_true rfl) ?_
  intro p e s m args below meth cd hx hb hr hml hown hlocks hts hnm hK hsz hP A hD hA Q hQ ls hl
  have hown : s.vm.findClass RX4 = some m.cls := hown
  have hin4 : ∀ w ∈ u_ws RX4 TX4 6, w ∈ wsX4_leadFrom := by decide +kernel
  have lk19 := hts (.fieldLink RX4 19 "ReefPilot" "coast" "LReefPilot$Coast;") (by decide +kernel)
  have lk36 := hts (.fieldLink RX4 36 "ReefPilot" "spread" "LReefPilot$Spread;") (by decide +kernel)
  have hS : va_S A s.heap s.heap [] := va_S.rf
  have hl : lv_has ls 5 [(0, .ref o), (1, .int (nI j)), (2, .int dr)] := hl
  refine lv_iload_n hx hb dX4_leadFrom_0 rfl (lv_at hl 1 rfl) ?_
  refine lv_istore_n (lv' := [(3, .int (nI j)), (0, .ref o), (1, .int (nI j)), (2, .int dr)]) hx hb dX4_leadFrom_1 rfl hl (by decide) rfl (fun ls hl => ?_)
  refine lv_aload_n hx hb dX4_leadFrom_2 rfl (lv_at hl 1 rfl) ?_
  refine va_get (D := E.1) (ci := 4) (v := .ref (ad 14)) (C := RX4) (T := TX4) (N := 6) hx hb hts hin4 hown hK.1 hP 0 rfl rfl 4 (by decide) lk36 (fun _ h9 => h9) rfl dX4_leadFrom_3 ?_
  refine lv_iload_n hx hb dX4_leadFrom_6 rfl (lv_at hl 2 rfl) ?_
  refine e_callV (As := [.int (nI j)]) (rest := []) ⟨hx, hb, hml, hown, hts⟩ hK hP hD hS hA hl.1 (c_X2_stepsTo l E _ (ad 14) (ad 15) (ad 16) (ad 17) op sp rc rn j (by first | omega | assumption | rfl | (simp_all; done))) (cwV 1 hts gX4_leadFrom_X2_stepsTo rfl rfl rfl (by decide +kernel) ⟨Nat.le_of_ble_eq_true rfl, Nat.le_of_ble_eq_true rfl⟩) [15, 16, 17, 18] [0, 1, 2, 3, 4, 5, 6, 7, 8, 9, 10, 11, 12, 13, 14, 19] rfl rfl rfl rfl (by decide) (q0 := 15) (ci := 2) rfl rfl rfl rfl (Nat.le_of_ble_eq_true rfl) dX4_leadFrom_7 ⟨Nat.le_of_ble_eq_true rfl, Nat.le_of_ble_eq_true rfl⟩ (fun u_1 H locs hu_2 hsz1 hP hD hS => ?_)
  have hP : va_P E.1 vwCl (wAll E o ad wm st gr co hb_ (nI mo) ga ca ha_ (nI ma) sd tk op sp rc rn wa) H := hP.sub [0, 1, 2, 3, 4, 5, 6, 7, 8, 9, 10, 11, 12, 13, 14, 16, 17, 18, 19, 15] rfl
  have hD : va_D A (wAll E o ad wm st gr co hb_ (nI mo) ga ca ha_ (nI ma) sd tk op sp rc rn wa) := hD.sub [0, 1, 2, 3, 4, 5, 6, 7, 8, 9, 10, 11, 12, 13, 14, 16, 17, 18, 19, 15] (by decide) rfl
  refine W.eq (g2 := F0 m 10 ls [.int (nI (sp j))]) rfl ?_
  refine lv_istore (lv' := [(4, .int (nI (sp j))), (3, .int (nI j)), (0, .ref o), (1, .int (nI j)), (2, .int dr)]) hx hb dX4_leadFrom_10 hl (by decide) rfl (fun ls hl => ?_)
  have L12 : ∀ (fuel : Nat) (v : Nat) (y : Nat) (hv81 : v < 81) (hy : y ≤ 81) (hv : leadN (dep gr co) dr sp (sp j) j = leadN (dep gr co) dr sp y v) (hfuel : y < fuel) (H : Heap) (locs : List Loc), va_P E.1 vwCl (wAll E o ad wm st gr co hb_ (nI mo) ga ca ha_ (nI ma) sd tk op sp rc rn wa) H → va_D A (wAll E o ad wm st gr co hb_ (nI mo) ga ca ha_ (nI ma) sd tk op sp rc rn wa) → va_S A s.heap H locs → ∀ ls : Array Slot, lv_has ls 5 [(4, .int (nI y)), (3, .int (nI v)), (0, .ref o), (1, .int (nI j)), (2, .int dr)] → W p l e rm_X4_leadFrom s m args below meth cd H locs 0 0 Q (F0 m 12 ls []) := by
    intro fuel
    induction fuel with
    | zero => intros; omega
    | succ fuel ihL12 =>
      intro v y hv81 hy hv hfuel H locs hP hD hS ls hl
      refine lv_iload hx hb dX4_leadFrom_12 (lv_at hl 0 rfl) ?_
      refine n_if_le (x := y) (by omega) (tgt := 46) hx hb dX4_leadFrom_14 (by decide) (fun c14 => ?_) (fun c14 => ?_)
      · refine lv_bipush (v := nI 81) hx hb dX4_leadFrom_46 (by decide +kernel) ?_
        exact e_iret () hQ hx hb hr hlocks hP hD hS dX4_leadFrom_48 (rvi (by rw [hv, show y = 0 by omega]; rfl)) (Nat.le_of_ble_eq_true rfl) (Nat.le_of_ble_eq_true rfl) (trivial)
      · refine lv_aload_n hx hb dX4_leadFrom_17 rfl (lv_at hl 2 rfl) ?_
        refine va_get (D := E.1) (ci := 4) (v := .ref (ad 3)) (C := RX4) (T := TX4) (N := 6) hx hb hts hin4 hown hK.1 hP 0 rfl rfl 1 (by decide) lk19 (fun _ h9 => h9) rfl dX4_leadFrom_18 ?_
        refine lv_iload_n hx hb dX4_leadFrom_21 rfl (lv_at hl 1 rfl) ?_
        refine e_callV (As := [.int (nI v)]) (rest := []) ⟨hx, hb, hml, hown, hts⟩ hK hP hD hS hA hl.1 (c_X0_depthOf l E _ (ad 3) (ad 4) (ad 5) (ad 6) gr co hb_ (nI mo) v (by first | omega | assumption | rfl | (simp_all; done))) (cwV 1 hts gX4_leadFrom_X0_depthOf rfl rfl rfl (by decide +kernel) ⟨Nat.le_of_ble_eq_true rfl, Nat.le_of_ble_eq_true rfl⟩) [4, 5, 6, 7] [0, 1, 2, 3, 8, 9, 10, 11, 12, 13, 14, 15, 16, 17, 18, 19] rfl rfl rfl rfl (by decide) (q0 := 4) (ci := 0) rfl rfl rfl rfl (Nat.le_of_ble_eq_true rfl) dX4_leadFrom_22 ⟨Nat.le_of_ble_eq_true rfl, Nat.le_of_ble_eq_true rfl⟩ (fun u_3 H locs hu_4 hsz1 hP hD hS => ?_)
        have hP : va_P E.1 vwCl (wAll E o ad wm st gr co hb_ (nI mo) ga ca ha_ (nI ma) sd tk op sp rc rn wa) H := hP.sub [0, 1, 2, 3, 16, 17, 18, 19, 4, 5, 6, 7, 8, 9, 10, 11, 12, 13, 14, 15] rfl
        have hD : va_D A (wAll E o ad wm st gr co hb_ (nI mo) ga ca ha_ (nI ma) sd tk op sp rc rn wa) := hD.sub [0, 1, 2, 3, 16, 17, 18, 19, 4, 5, 6, 7, 8, 9, 10, 11, 12, 13, 14, 15] (by decide) rfl
        refine W.eq (g2 := F0 m 25 ls [.int (dep gr co v)]) rfl ?_
        refine lv_iload_n hx hb dX4_leadFrom_25 rfl (lv_at hl 4 rfl) ?_
        refine lv_icmp_gt (tgt := 31) hx hb dX4_leadFrom_26 (by decide) (fun c26 => ?_) (fun c26 => ?_)
        · refine lv_aload_n hx hb dX4_leadFrom_31 rfl (lv_at hl 2 rfl) ?_
          refine va_get (D := E.1) (ci := 4) (v := .ref (ad 14)) (C := RX4) (T := TX4) (N := 6) hx hb hts hin4 hown hK.1 hP 0 rfl rfl 4 (by decide) lk36 (fun _ h9 => h9) rfl dX4_leadFrom_32 ?_
          refine lv_iload_n hx hb dX4_leadFrom_35 rfl (lv_at hl 1 rfl) ?_
          refine e_callV (As := [.int (nI v)]) (rest := []) ⟨hx, hb, hml, hown, hts⟩ hK hP hD hS hA hl.1 (c_X2_nearerFrom l E _ (ad 14) (ad 15) (ad 16) (ad 17) op sp rc rn v (by first | omega | assumption | rfl | (simp_all; done)) (hs)) (cwV 1 hts gX4_leadFrom_X2_nearerFrom rfl rfl rfl (by decide +kernel) ⟨Nat.le_of_ble_eq_true rfl, Nat.le_of_ble_eq_true rfl⟩) [15, 16, 17, 18] [0, 1, 2, 3, 4, 5, 6, 7, 8, 9, 10, 11, 12, 13, 14, 19] rfl rfl rfl rfl (by decide) (q0 := 15) (ci := 2) rfl rfl rfl rfl (Nat.le_of_ble_eq_true rfl) dX4_leadFrom_36 ⟨Nat.le_of_ble_eq_true rfl, Nat.le_of_ble_eq_true rfl⟩ (fun u_5 H locs hu_6 hsz1 hP hD hS => ?_)
          have hP : va_P E.1 vwCl (wAll E o ad wm st gr co hb_ (nI mo) ga ca ha_ (nI ma) sd tk op sp rc rn wa) H := hP.sub [0, 1, 2, 3, 4, 5, 6, 7, 8, 9, 10, 11, 12, 13, 14, 16, 17, 18, 19, 15] rfl
          have hD : va_D A (wAll E o ad wm st gr co hb_ (nI mo) ga ca ha_ (nI ma) sd tk op sp rc rn wa) := hD.sub [0, 1, 2, 3, 4, 5, 6, 7, 8, 9, 10, 11, 12, 13, 14, 16, 17, 18, 19, 15] (by decide) rfl
          refine W.eq (g2 := F0 m 39 ls [.int (nI (nrr sp v 4))]) rfl ?_
          refine lv_istore_n (lv' := [(3, .int (nI (nrr sp v 4))), (4, .int (nI y)), (0, .ref o), (1, .int (nI j)), (2, .int dr)]) hx hb dX4_leadFrom_39 rfl hl (by decide) rfl (fun ls hl => ?_)
          refine lv_iinc (v := nI (y - 1)) (lv' := [(4, .int (nI (y - 1))), (3, .int (nI (nrr sp v 4))), (0, .ref o), (1, .int (nI j)), (2, .int dr)]) hx hb dX4_leadFrom_40 hl (k := 1) rfl (nI_dec c14) (by decide) rfl (fun ls hl => ?_)
          refine lv_goto (tgt := 12) hx hb dX4_leadFrom_43 (by decide) ?_
          exact ihL12 (nrr sp v 4) (y - 1) (nrr_lt hv81 4) (by first | omega | assumption | rfl | (simp_all; done)) (by rw [hv, show y = (y - 1) + 1 by omega]; show (if dep gr co v ≤ dr then v else _) = _; rw [if_neg (i_nle c26)]; rfl) (by omega) _ _ hP hD hS _ (lv_sub hl [0, 1, 2, 3, 4] rfl)
        · refine lv_iload_n hx hb dX4_leadFrom_29 rfl (lv_at hl 1 rfl) ?_
          exact e_iret () hQ hx hb hr hlocks hP hD hS dX4_leadFrom_30 (rvi (by rw [hv, show y = (y - 1) + 1 by omega]; show nI (if dep gr co v ≤ dr then v else _) = _; rw [if_pos (i_nlt c26)])) (Nat.le_of_ble_eq_true rfl) (Nat.le_of_ble_eq_true rfl) (trivial)
  exact L12 ((sp j) + 1) j (sp j) (hj) (hs j) (rfl) (Nat.lt_succ_self _) _ _ hP hD hS _ (lv_sub hl [0, 1, 2, 3, 4] rfl)

abbrev rm_X4_deepest : Room := { frames := 5, cells := 0, slots := 0, locals := 115 }
set_option maxHeartbeats 4000000 in
set_option maxRecDepth 100000 in
theorem c_X4_deepest (l : Launch) (E : eT) (sz : Nat) (o : Nat) (ad : Nat → Nat) (wm : Nat → Int32) (st : Nat → Int32) (gr : Nat → Int32) (co : Nat → Int32) (hb_ : Nat → Bool) (mo : Nat) (ga : Nat → Int32) (ca : Nat → Int32) (ha_ : Nat → Bool) (ma : Nat) (sd : Nat → Int32) (tk : Nat → Int32) (op : Nat → Bool) (sp : Nat → Nat) (rc : Nat → Nat) (rn : Nat) (wa : Nat → Int32) (v : Bool) : cM l yX4_deepest wsX4_deepest rm_X4_deepest E sz [.ref o, .int (b2i v)] (wAll E o ad wm st gr co hb_ (nI mo) ga ca ha_ (nI ma) sd tk op sp rc rn wa) (fun u : (Nat → Bool) × (Nat → Nat) × (Nat → Nat) × (Nat) × (Nat → Int32) => some (.int (oI (mostD (someW (if v = true then chSafe sd tk (nI mo) else dep gr co)) 40)))) (fun u : (Nat → Bool) × (Nat → Nat) × (Nat → Nat) × (Nat) × (Nat → Int32) => True) (fun u : (Nat → Bool) × (Nat → Nat) × (Nat → Nat) × (Nat) × (Nat → Int32) => wAll E o ad wm st gr co hb_ (nI mo) ga ca ha_ (nI ma) sd tk u.1 u.2.1 u.2.2.1 u.2.2.2.1 u.2.2.2.2) := by
  refine cM_intro (cc := cX4_deepest) (maxL := 2) (ret := (some .int)) (by decide +kernel) rfl (Nat.le_of_ble_eq_true rfl) ?_
  intro p e s m args below meth cd hx hb hr hml hown hlocks hts hnm hK hsz hP A hD hA Q hQ ls hl
  have hown : s.vm.findClass RX4 = some m.cls := hown
  have hS : va_S A s.heap s.heap [] := va_S.rf
  have hl : lv_has ls 2 [(0, .ref o), (1, .int (b2i v))] := hl
  refine lv_aload_n hx hb dX4_deepest_0 rfl (lv_at hl 0 rfl) ?_
  refine lv_iload_n hx hb dX4_deepest_1 rfl (lv_at hl 1 rfl) ?_
  refine e_callV (As := [.int (b2i v)]) (rest := []) ⟨hx, hb, hml, hown, hts⟩ hK hP hD hS hA hl.1 (c_X4_countOn l E _ o ad wm st gr co hb_ mo ga ca ha_ ma sd tk op sp rc rn wa v) (cwV 1 hts gX4_deepest_X4_countOn rfl rfl rfl (by decide +kernel) ⟨Nat.le_of_ble_eq_true rfl, Nat.le_of_ble_eq_true rfl⟩) [0, 1, 2, 3, 4, 5, 6, 7, 8, 9, 10, 11, 12, 13, 14, 15, 16, 17, 18, 19] [] rfl rfl rfl rfl (by decide) (q0 := 0) (ci := 4) rfl rfl rfl rfl (Nat.le_of_ble_eq_true rfl) dX4_deepest_2 ⟨Nat.le_of_ble_eq_true rfl, Nat.le_of_ble_eq_true rfl⟩ (fun u_1 H locs hu_2 hsz1 hP hD hS => ?_)
  have hP : va_P E.1 vwCl (wAll E o ad wm st gr co hb_ (nI mo) ga ca ha_ (nI ma) sd tk op sp rc rn (if v = true then chSafe sd tk (nI mo) else dep gr co)) H := hP.sub [0, 1, 2, 3, 4, 5, 6, 7, 8, 9, 10, 11, 12, 13, 14, 15, 16, 17, 18, 19] rfl
  have hD : va_D A (wAll E o ad wm st gr co hb_ (nI mo) ga ca ha_ (nI ma) sd tk op sp rc rn (if v = true then chSafe sd tk (nI mo) else dep gr co)) := hD.sub [0, 1, 2, 3, 4, 5, 6, 7, 8, 9, 10, 11, 12, 13, 14, 15, 16, 17, 18, 19] (by decide) rfl
  refine W.eq (g2 := F0 m 5 ls []) rfl ?_
  refine lv_aload_n hx hb dX4_deepest_5 rfl (lv_at hl 0 rfl) ?_
  refine e_callV (As := []) (rest := []) ⟨hx, hb, hml, hown, hts⟩ hK hP hD hS hA hl.1 (c_X4_greatestDraught l E _ o ad wm st gr co hb_ mo ga ca ha_ ma sd tk op sp rc rn (if v = true then chSafe sd tk (nI mo) else dep gr co)) (cwV 0 hts gX4_deepest_X4_greatestDraught rfl rfl rfl (by decide +kernel) ⟨Nat.le_of_ble_eq_true rfl, Nat.le_of_ble_eq_true rfl⟩) [0, 1, 2, 3, 4, 5, 6, 7, 8, 9, 10, 11, 12, 13, 14, 15, 16, 17, 18, 19] [] rfl rfl rfl rfl (by decide) (q0 := 0) (ci := 4) rfl rfl rfl rfl (Nat.le_of_ble_eq_true rfl) dX4_deepest_6 ⟨Nat.le_of_ble_eq_true rfl, Nat.le_of_ble_eq_true rfl⟩ (fun u_3 H locs hu_4 hsz1 hP hD hS => ?_)
  obtain ⟨op__5, sp__6, rc__7, rn__8⟩ := u_3
  have hP : va_P E.1 vwCl (wAll E o ad wm st gr co hb_ (nI mo) ga ca ha_ (nI ma) sd tk op__5 sp__6 rc__7 rn__8 (if v = true then chSafe sd tk (nI mo) else dep gr co)) H := hP.sub [0, 1, 2, 3, 4, 5, 6, 7, 8, 9, 10, 11, 12, 13, 14, 15, 16, 17, 18, 19] rfl
  have hD : va_D A (wAll E o ad wm st gr co hb_ (nI mo) ga ca ha_ (nI ma) sd tk op__5 sp__6 rc__7 rn__8 (if v = true then chSafe sd tk (nI mo) else dep gr co)) := hD.sub [0, 1, 2, 3, 4, 5, 6, 7, 8, 9, 10, 11, 12, 13, 14, 15, 16, 17, 18, 19] (by decide) rfl
  refine W.eq (g2 := F0 m 9 ls [.int (oI (mostD (someW (if v = true then chSafe sd tk (nI mo) else dep gr co)) 40))]) rfl ?_
  exact e_iret (op__5, sp__6, rc__7, rn__8, (if v = true then chSafe sd tk (nI mo) else dep gr co)) hQ hx hb hr hlocks hP hD hS dX4_deepest_9 (rfl) (Nat.le_of_ble_eq_true rfl) (Nat.le_of_ble_eq_true rfl) (trivial)

abbrev rm_X4_advise : Room := { frames := 2, cells := 0, slots := 0, locals := 44 }
set_option maxHeartbeats 4000000 in
set_option maxRecDepth 100000 in
theorem c_X4_advise (l : Launch) (E : eT) (sz : Nat) (o : Nat) (ad : Nat → Nat) (wm : Nat → Int32) (st : Nat → Int32) (gr : Nat → Int32) (co : Nat → Int32) (hb_ : Nat → Bool) (mo : Nat) (ga : Nat → Int32) (ca : Nat → Int32) (ha_ : Nat → Bool) (ma : Nat) (sd : Nat → Int32) (tk : Nat → Int32) (op : Nat → Bool) (sp : Nat → Nat) (rc : Nat → Nat) (rn : Nat) (wa : Nat → Int32) : cM l yX4_advise wsX4_advise rm_X4_advise E sz [.ref o] (wAll E o ad wm st gr co hb_ (nI mo) ga ca ha_ (nI ma) sd tk op sp rc rn wa) (fun u : Unit => some (.int (oI ((advS (chSafe sd tk (nI mo)) (dep gr co) 81).1)))) (fun u : Unit => True) (fun u : Unit => wAll E o ad wm st gr co hb_ (nI mo) ga ca ha_ (nI ma) sd tk op sp rc rn wa) := by
  refine cM_intro (cc := cX4_advise) (maxL := 6) (ret := (some .int)) (by decide +kernel) rfl (Nat.le_of_ble_eq_true rfl) ?_
  intro p e s m args below meth cd hx hb hr hml hown hlocks hts hnm hK hsz hP A hD hA Q hQ ls hl
  have hown : s.vm.findClass RX4 = some m.cls := hown
  have hin4 : ∀ w ∈ u_ws RX4 TX4 6, w ∈ wsX4_advise := by decide +kernel
  have lk19 := hts (.fieldLink RX4 19 "ReefPilot" "coast" "LReefPilot$Coast;") (by decide +kernel)
  have hamcmax := hts (.code Lib.Math.max.name Lib.Math.max.code 2 (some .int)) (by decide +kernel)
  have hamini := hts (.initialized "java/lang/Math") (by decide +kernel)
  have haml145 := hts (.methodLink RX4 145 Lib.Math.max.name) (by decide +kernel)
  have hamsmax := hts (.static Lib.Math.max.name) (by decide +kernel)
  have hS : va_S A s.heap s.heap [] := va_S.rf
  have hl : lv_has ls 6 [(0, .ref o)] := hl
  refine lv_iconst (v := (-1)) hx hb dX4_advise_0 (by decide +kernel) ?_
  refine lv_istore_n (lv' := [(1, .int (-1)), (0, .ref o)]) hx hb dX4_advise_1 rfl hl (by decide) rfl (fun ls hl => ?_)
  refine lv_iconst (v := nI 0) hx hb dX4_advise_2 (by decide +kernel) ?_
  refine lv_istore_n (lv' := [(2, .int (nI 0)), (1, .int (-1)), (0, .ref o)]) hx hb dX4_advise_3 rfl hl (by decide) rfl (fun ls hl => ?_)
  refine lv_iconst (v := nI 0) hx hb dX4_advise_4 (by decide +kernel) ?_
  refine lv_istore_n (lv' := [(3, .int (nI 0)), (2, .int (nI 0)), (1, .int (-1)), (0, .ref o)]) hx hb dX4_advise_5 rfl hl (by decide) rfl (fun ls hl => ?_)
  have L6 : ∀ (fuel : Nat) (v : Option Nat) (x : Int32) (z : Nat) (hz : z ≤ 81) (hv : v = (advS (chSafe sd tk (nI mo)) (dep gr co) z).1) (hx_ : x = (advS (chSafe sd tk (nI mo)) (dep gr co) z).2) (hfuel : 81 - z < fuel) (H : Heap) (locs : List Loc), va_P E.1 vwCl (wAll E o ad wm st gr co hb_ (nI mo) ga ca ha_ (nI ma) sd tk op sp rc rn wa) H → va_D A (wAll E o ad wm st gr co hb_ (nI mo) ga ca ha_ (nI ma) sd tk op sp rc rn wa) → va_S A s.heap H locs → ∀ ls : Array Slot, lv_has ls 6 [(3, .int (nI z)), (2, .int x), (1, .int (oI v)), (0, .ref o)] → W p l e rm_X4_advise s m args below meth cd H locs 0 0 Q (F0 m 6 ls []) := by
    intro fuel
    induction fuel with
    | zero => intros; omega
    | succ fuel ihL6 =>
      intro v x z hz hv hx_ hfuel H locs hP hD hS ls hl
      have hb1 : advS (chSafe sd tk (nI mo)) (dep gr co) (z + 1) = if iMax (chSafe sd tk (nI mo) z) (nI 0) - dep gr co z ≤ x then advS (chSafe sd tk (nI mo)) (dep gr co) z else (some z, iMax (chSafe sd tk (nI mo) z) (nI 0) - dep gr co z) := by rw [hx_]; rfl
      refine lv_iload_n hx hb dX4_advise_6 rfl (lv_at hl 0 rfl) ?_
      refine lv_bipush (v := nI 81) hx hb dX4_advise_7 (by decide +kernel) ?_
      refine n_icmp_ge (x := z) (y := 81) (by omega) (by omega) (tgt := 53) hx hb dX4_advise_9 (by decide) (fun c9 => ?_) (fun c9 => ?_)
      · refine lv_iload_n hx hb dX4_advise_53 rfl (lv_at hl 2 rfl) ?_
        exact e_iret () hQ hx hb hr hlocks hP hD hS dX4_advise_54 (rvi (by rw [hv, show z = 81 by omega])) (Nat.le_of_ble_eq_true rfl) (Nat.le_of_ble_eq_true rfl) (trivial)
      · refine lv_aload_n hx hb dX4_advise_12 rfl (lv_at hl 3 rfl) ?_
        refine lv_iload_n hx hb dX4_advise_13 rfl (lv_at hl 0 rfl) ?_
        refine e_callV (As := [.int (nI z)]) (rest := []) ⟨hx, hb, hml, hown, hts⟩ hK hP hD hS hA hl.1 (c_X4_safeDepth l E _ o ad wm st gr co hb_ mo ga ca ha_ ma sd tk op sp rc rn wa z (by first | omega | assumption | rfl | (simp_all; done))) (cwV 1 hts gX4_advise_X4_safeDepth rfl rfl rfl (by decide +kernel) ⟨Nat.le_of_ble_eq_true rfl, Nat.le_of_ble_eq_true rfl⟩) [0, 1, 2, 3, 4, 5, 6, 7, 8, 9, 10, 11, 12, 13, 14, 15, 16, 17, 18, 19] [] rfl rfl rfl rfl (by decide) (q0 := 0) (ci := 4) rfl rfl rfl rfl (Nat.le_of_ble_eq_true rfl) dX4_advise_14 ⟨Nat.le_of_ble_eq_true rfl, Nat.le_of_ble_eq_true rfl⟩ (fun u_1 H locs hu_2 hsz1 hP hD hS => ?_)
        have hP : va_P E.1 vwCl (wAll E o ad wm st gr co hb_ (nI mo) ga ca ha_ (nI ma) sd tk op sp rc rn wa) H := hP.sub [0, 1, 2, 3, 4, 5, 6, 7, 8, 9, 10, 11, 12, 13, 14, 15, 16, 17, 18, 19] rfl
        have hD : va_D A (wAll E o ad wm st gr co hb_ (nI mo) ga ca ha_ (nI ma) sd tk op sp rc rn wa) := hD.sub [0, 1, 2, 3, 4, 5, 6, 7, 8, 9, 10, 11, 12, 13, 14, 15, 16, 17, 18, 19] (by decide) rfl
        refine W.eq (g2 := F0 m 17 ls [.int (chSafe sd tk (nI mo) z)]) rfl ?_
        refine lv_iconst (v := nI 0) hx hb dX4_advise_17 (by decide +kernel) ?_
        refine va_mmax hx hb (by rw [hml]; exact hl.1.symm) hown haml145 hamsmax hamini hamcmax (Nat.le_of_ble_eq_true rfl) (Nat.le_of_ble_eq_true rfl) (Nat.le_of_ble_eq_true rfl) (Nat.le_of_ble_eq_true rfl) dX4_advise_18 ?_
        refine e_top (y := iMax (chSafe sd tk (nI mo) z) (nI 0)) rfl ?_
        refine lv_istore (lv' := [(4, .int (iMax (chSafe sd tk (nI mo) z) (nI 0))), (3, .int (nI z)), (2, .int x), (1, .int (oI v)), (0, .ref o)]) hx hb dX4_advise_21 hl (by decide) rfl (fun ls hl => ?_)
        refine lv_iload hx hb dX4_advise_23 (lv_at hl 0 rfl) ?_
        refine lv_aload_n hx hb dX4_advise_25 rfl (lv_at hl 4 rfl) ?_
        refine va_get (D := E.1) (ci := 4) (v := .ref (ad 3)) (C := RX4) (T := TX4) (N := 6) hx hb hts hin4 hown hK.1 hP 0 rfl rfl 1 (by decide) lk19 (fun _ h9 => h9) rfl dX4_advise_26 ?_
        refine lv_iload_n hx hb dX4_advise_29 rfl (lv_at hl 1 rfl) ?_
        refine e_callV (As := [.int (nI z)]) (rest := [.int (iMax (chSafe sd tk (nI mo) z) (nI 0))]) ⟨hx, hb, hml, hown, hts⟩ hK hP hD hS hA hl.1 (c_X0_depthOf l E _ (ad 3) (ad 4) (ad 5) (ad 6) gr co hb_ (nI mo) z (by first | omega | assumption | rfl | (simp_all; done))) (cwV 1 hts gX4_advise_X0_depthOf rfl rfl rfl (by decide +kernel) ⟨Nat.le_of_ble_eq_true rfl, Nat.le_of_ble_eq_true rfl⟩) [4, 5, 6, 7] [0, 1, 2, 3, 8, 9, 10, 11, 12, 13, 14, 15, 16, 17, 18, 19] rfl rfl rfl rfl (by decide) (q0 := 4) (ci := 0) rfl rfl rfl rfl (Nat.le_of_ble_eq_true rfl) dX4_advise_30 ⟨Nat.le_of_ble_eq_true rfl, Nat.le_of_ble_eq_true rfl⟩ (fun u_3 H locs hu_4 hsz1 hP hD hS => ?_)
        have hP : va_P E.1 vwCl (wAll E o ad wm st gr co hb_ (nI mo) ga ca ha_ (nI ma) sd tk op sp rc rn wa) H := hP.sub [0, 1, 2, 3, 16, 17, 18, 19, 4, 5, 6, 7, 8, 9, 10, 11, 12, 13, 14, 15] rfl
        have hD : va_D A (wAll E o ad wm st gr co hb_ (nI mo) ga ca ha_ (nI ma) sd tk op sp rc rn wa) := hD.sub [0, 1, 2, 3, 16, 17, 18, 19, 4, 5, 6, 7, 8, 9, 10, 11, 12, 13, 14, 15] (by decide) rfl
        refine W.eq (g2 := F0 m 33 ls [.int (dep gr co z), .int (iMax (chSafe sd tk (nI mo) z) (nI 0))]) rfl ?_
        refine lv_isub hx hb dX4_advise_33 ?_
        refine lv_istore (lv' := [(5, .int ((iMax (chSafe sd tk (nI mo) z) (nI 0)) - (dep gr co z))), (4, .int (iMax (chSafe sd tk (nI mo) z) (nI 0))), (3, .int (nI z)), (2, .int x), (1, .int (oI v)), (0, .ref o)]) hx hb dX4_advise_34 hl (by decide) rfl (fun ls hl => ?_)
        refine lv_iload hx hb dX4_advise_36 (lv_at hl 0 rfl) ?_
        refine lv_iload_n hx hb dX4_advise_38 rfl (lv_at hl 3 rfl) ?_
        refine lv_icmp_le (tgt := 47) hx hb dX4_advise_39 (by decide) (fun c39 => ?_) (fun c39 => ?_)
        · refine lv_iinc (v := nI (z + 1)) (lv' := [(3, .int (nI (z + 1))), (5, .int ((iMax (chSafe sd tk (nI mo) z) (nI 0)) - (dep gr co z))), (4, .int (iMax (chSafe sd tk (nI mo) z) (nI 0))), (2, .int x), (1, .int (oI v)), (0, .ref o)]) hx hb dX4_advise_47 hl (k := 2) rfl (nI_add z 1) (by decide) rfl (fun ls hl => ?_)
          refine lv_goto (tgt := 6) hx hb dX4_advise_50 (by decide) ?_
          exact ihL6 v x (z + 1) (by first | omega | assumption | rfl | (simp_all; done)) (by rw [hb1]; first | (rw [if_pos c39]; exact hv) | (rw [if_neg c39])) (by rw [hb1]; first | (rw [if_pos c39]; exact hx_) | (rw [if_neg c39])) (by omega) _ _ hP hD hS _ (lv_sub hl [0, 3, 4, 5] rfl)
        · refine lv_iload hx hb dX4_advise_42 (lv_at hl 0 rfl) ?_
          refine lv_istore_n (lv' := [(2, .int ((iMax (chSafe sd tk (nI mo) z) (nI 0)) - (dep gr co z))), (5, .int ((iMax (chSafe sd tk (nI mo) z) (nI 0)) - (dep gr co z))), (4, .int (iMax (chSafe sd tk (nI mo) z) (nI 0))), (3, .int (nI z)), (1, .int (oI v)), (0, .ref o)]) hx hb dX4_advise_44 rfl hl (by decide) rfl (fun ls hl => ?_)
          refine lv_iload_n hx hb dX4_advise_45 rfl (lv_at hl 3 rfl) ?_
          refine lv_istore_n (lv' := [(1, .int (nI z)), (2, .int ((iMax (chSafe sd tk (nI mo) z) (nI 0)) - (dep gr co z))), (5, .int ((iMax (chSafe sd tk (nI mo) z) (nI 0)) - (dep gr co z))), (4, .int (iMax (chSafe sd tk (nI mo) z) (nI 0))), (3, .int (nI z)), (0, .ref o)]) hx hb dX4_advise_46 rfl hl (by decide) rfl (fun ls hl => ?_)
          refine lv_iinc (v := nI (z + 1)) (lv' := [(3, .int (nI (z + 1))), (1, .int (nI z)), (2, .int ((iMax (chSafe sd tk (nI mo) z) (nI 0)) - (dep gr co z))), (5, .int ((iMax (chSafe sd tk (nI mo) z) (nI 0)) - (dep gr co z))), (4, .int (iMax (chSafe sd tk (nI mo) z) (nI 0))), (0, .ref o)]) hx hb dX4_advise_47 hl (k := 4) rfl (nI_add z 1) (by decide) rfl (fun ls hl => ?_)
          refine lv_goto (tgt := 6) hx hb dX4_advise_50 (by decide) ?_
          exact ihL6 (some z) ((iMax (chSafe sd tk (nI mo) z) (nI 0)) - (dep gr co z)) (z + 1) (by first | omega | assumption | rfl | (simp_all; done)) (by rw [hb1]; first | (rw [if_pos c39]; exact hv) | (rw [if_neg c39])) (by rw [hb1]; first | (rw [if_pos c39]; exact hx_) | (rw [if_neg c39])) (by omega) _ _ hP hD hS _ (lv_sub hl [0, 2, 1, 5] rfl)
  exact L6 (81 - 0 + 1) none (nI 0) 0 (by first | omega | assumption | rfl | (simp_all; done)) (rfl) (rfl) (Nat.lt_succ_self _) _ _ hP hD hS _ (lv_sub hl [0, 1, 2, 3] rfl)

abbrev rm_X4_mean : Room := { frames := 2, cells := 0, slots := 0, locals := 34 }
set_option maxHeartbeats 4000000 in
set_option maxRecDepth 100000 in
theorem c_X4_mean (l : Launch) (E : eT) (sz : Nat) (o : Nat) (ad : Nat → Nat) (wm : Nat → Int32) (st : Nat → Int32) (gr : Nat → Int32) (co : Nat → Int32) (hb_ : Nat → Bool) (mo : Nat) (ga : Nat → Int32) (ca : Nat → Int32) (ha_ : Nat → Bool) (ma : Nat) (sd : Nat → Int32) (tk : Nat → Int32) (op : Nat → Bool) (sp : Nat → Nat) (rc : Nat → Nat) (rn : Nat) (wa : Nat → Int32) (hne : vf_n64 (FP.ddiv (FP.i2d (sumI (dep gr co) 81)) 4635400285215260672)) : cM l yX4_mean wsX4_mean rm_X4_mean E sz [.ref o] (wAll E o ad wm st gr co hb_ (nI mo) ga ca ha_ (nI ma) sd tk op sp rc rn wa) (fun u : Unit => some (.double (FP.ddiv (FP.i2d (sumI (dep gr co) 81)) 4635400285215260672))) (fun u : Unit => True) (fun u : Unit => wAll E o ad wm st gr co hb_ (nI mo) ga ca ha_ (nI ma) sd tk op sp rc rn wa) := by
  refine cM_intro (cc := cX4_mean) (maxL := 3) (ret := (some .double)) (by decide +kernel) rfl (Nat.le_of_ble_eq_true rfl) ?_
  intro p e s m args below meth cd hx hb hr hml hown hlocks hts hnm hK hsz hP A hD hA Q hQ ls hl
  have hown : s.vm.findClass RX4 = some m.cls := hown
  have hin4 : ∀ w ∈ u_ws RX4 TX4 6, w ∈ wsX4_mean := by decide +kernel
  have lk19 := hts (.fieldLink RX4 19 "ReefPilot" "coast" "LReefPilot$Coast;") (by decide +kernel)
  have hak150 := hts (.constantDouble RX4 150 (4635400285215260672)) (by decide +kernel)
  have hS : va_S A s.heap s.heap [] := va_S.rf
  have hl : lv_has ls 3 [(0, .ref o)] := hl
  refine lv_iconst (v := nI 0) hx hb dX4_mean_0 (by decide +kernel) ?_
  refine lv_istore_n (lv' := [(1, .int (nI 0)), (0, .ref o)]) hx hb dX4_mean_1 rfl hl (by decide) rfl (fun ls hl => ?_)
  refine lv_iconst (v := nI 0) hx hb dX4_mean_2 (by decide +kernel) ?_
  refine lv_istore_n (lv' := [(2, .int (nI 0)), (1, .int (nI 0)), (0, .ref o)]) hx hb dX4_mean_3 rfl hl (by decide) rfl (fun ls hl => ?_)
  have L4 : ∀ (fuel : Nat) (x : Int32) (z : Nat) (hz : z ≤ 81) (hx_ : x = sumI (dep gr co) z) (hfuel : 81 - z < fuel) (H : Heap) (locs : List Loc), va_P E.1 vwCl (wAll E o ad wm st gr co hb_ (nI mo) ga ca ha_ (nI ma) sd tk op sp rc rn wa) H → va_D A (wAll E o ad wm st gr co hb_ (nI mo) ga ca ha_ (nI ma) sd tk op sp rc rn wa) → va_S A s.heap H locs → ∀ ls : Array Slot, lv_has ls 3 [(2, .int (nI z)), (1, .int x), (0, .ref o)] → W p l e rm_X4_mean s m args below meth cd H locs 0 0 Q (F0 m 4 ls []) := by
    intro fuel
    induction fuel with
    | zero => intros; omega
    | succ fuel ihL4 =>
      intro x z hz hx_ hfuel H locs hP hD hS ls hl
      refine lv_iload_n hx hb dX4_mean_4 rfl (lv_at hl 0 rfl) ?_
      refine lv_bipush (v := nI 81) hx hb dX4_mean_5 (by decide +kernel) ?_
      refine n_icmp_ge (x := z) (y := 81) (by omega) (by omega) (tgt := 27) hx hb dX4_mean_7 (by decide) (fun c7 => ?_) (fun c7 => ?_)
      · refine lv_iload_n hx hb dX4_mean_27 rfl (lv_at hl 1 rfl) ?_
        have hxe : x = sumI (dep gr co) 81 := by rw [hx_, show z = 81 by omega]
        refine e_top hxe ?_
        refine lv_i2d hx hb dX4_mean_28 ?_
        refine lv_ldc2d hx hb hown hak150 dX4_mean_29 ?_
        refine lv_ddiv hx hb dX4_mean_32 (hne) ?_
        exact e_dret () hQ hx hb hr hlocks hP hD hS dX4_mean_33 (rfl) (Nat.le_of_ble_eq_true rfl) (Nat.le_of_ble_eq_true rfl) (trivial)
      · refine lv_iload_n hx hb dX4_mean_10 rfl (lv_at hl 1 rfl) ?_
        refine lv_aload_n hx hb dX4_mean_11 rfl (lv_at hl 2 rfl) ?_
        refine va_get (D := E.1) (ci := 4) (v := .ref (ad 3)) (C := RX4) (T := TX4) (N := 6) hx hb hts hin4 hown hK.1 hP 0 rfl rfl 1 (by decide) lk19 (fun _ h9 => h9) rfl dX4_mean_12 ?_
        refine lv_iload_n hx hb dX4_mean_15 rfl (lv_at hl 0 rfl) ?_
        refine e_callV (As := [.int (nI z)]) (rest := [.int x]) ⟨hx, hb, hml, hown, hts⟩ hK hP hD hS hA hl.1 (c_X0_depthOf l E _ (ad 3) (ad 4) (ad 5) (ad 6) gr co hb_ (nI mo) z (by first | omega | assumption | rfl | (simp_all; done))) (cwV 1 hts gX4_mean_X0_depthOf rfl rfl rfl (by decide +kernel) ⟨Nat.le_of_ble_eq_true rfl, Nat.le_of_ble_eq_true rfl⟩) [4, 5, 6, 7] [0, 1, 2, 3, 8, 9, 10, 11, 12, 13, 14, 15, 16, 17, 18, 19] rfl rfl rfl rfl (by decide) (q0 := 4) (ci := 0) rfl rfl rfl rfl (Nat.le_of_ble_eq_true rfl) dX4_mean_16 ⟨Nat.le_of_ble_eq_true rfl, Nat.le_of_ble_eq_true rfl⟩ (fun u_1 H locs hu_2 hsz1 hP hD hS => ?_)
        have hP : va_P E.1 vwCl (wAll E o ad wm st gr co hb_ (nI mo) ga ca ha_ (nI ma) sd tk op sp rc rn wa) H := hP.sub [0, 1, 2, 3, 16, 17, 18, 19, 4, 5, 6, 7, 8, 9, 10, 11, 12, 13, 14, 15] rfl
        have hD : va_D A (wAll E o ad wm st gr co hb_ (nI mo) ga ca ha_ (nI ma) sd tk op sp rc rn wa) := hD.sub [0, 1, 2, 3, 16, 17, 18, 19, 4, 5, 6, 7, 8, 9, 10, 11, 12, 13, 14, 15] (by decide) rfl
        refine W.eq (g2 := F0 m 19 ls [.int (dep gr co z), .int x]) rfl ?_
        refine lv_iadd hx hb dX4_mean_19 ?_
        refine lv_istore_n (lv' := [(1, .int (x + (dep gr co z))), (2, .int (nI z)), (0, .ref o)]) hx hb dX4_mean_20 rfl hl (by decide) rfl (fun ls hl => ?_)
        refine lv_iinc (v := nI (z + 1)) (lv' := [(2, .int (nI (z + 1))), (1, .int (x + (dep gr co z))), (0, .ref o)]) hx hb dX4_mean_21 hl (k := 1) rfl (nI_add z 1) (by decide) rfl (fun ls hl => ?_)
        refine lv_goto (tgt := 4) hx hb dX4_mean_24 (by decide) ?_
        exact ihL4 (x + (dep gr co z)) (z + 1) (by first | omega | assumption | rfl | (simp_all; done)) (by rw [hx_]; rfl) (by omega) _ _ hP hD hS _ (lv_sub hl [0, 1, 2] rfl)
  exact L4 (81 - 0 + 1) (nI 0) 0 (by first | omega | assumption | rfl | (simp_all; done)) (rfl) (Nat.lt_succ_self _) _ _ hP hD hS _ (lv_sub hl [0, 1, 2] rfl)

abbrev rm_X4_digest : Room := { frames := 5, cells := 0, slots := 0, locals := 113 }
set_option maxHeartbeats 4000000 in
set_option maxRecDepth 100000 in
theorem c_X4_digest (l : Launch) (E : eT) (sz : Nat) (o : Nat) (ad : Nat → Nat) (wm : Nat → Int32) (st : Nat → Int32) (gr : Nat → Int32) (co : Nat → Int32) (hb_ : Nat → Bool) (mo : Nat) (ga : Nat → Int32) (ca : Nat → Int32) (ha_ : Nat → Bool) (ma : Nat) (sd : Nat → Int32) (tk : Nat → Int32) (op : Nat → Bool) (sp : Nat → Nat) (rc : Nat → Nat) (rn : Nat) (wa : Nat → Int32) : cM l yX4_digest wsX4_digest rm_X4_digest E sz [.ref o] (wAll E o ad wm st gr co hb_ (nI mo) ga ca ha_ (nI ma) sd tk op sp rc rn wa) (fun u : (Nat → Bool) × (Nat → Nat) × (Nat → Nat) × (Nat) => some (.long (digA wm st gr co sd tk mo))) (fun u : (Nat → Bool) × (Nat → Nat) × (Nat → Nat) × (Nat) => True) (fun u : (Nat → Bool) × (Nat → Nat) × (Nat → Nat) × (Nat) => wAll E o ad wm st gr co hb_ (nI mo) ga ca ha_ (nI ma) sd tk u.1 u.2.1 u.2.2.1 u.2.2.2 wa) := by
  refine cM_intro (cc := cX4_digest) (maxL := 5) (ret := (some .long)) (by decide +kernel) rfl (Nat.le_of_ble_eq_true rfl) ?_
  intro p e s m args below meth cd hx hb hr hml hown hlocks hts hnm hK hsz hP A hD hA Q hQ ls hl
  have hown : s.vm.findClass RX4 = some m.cls := hown
  have hin4 : ∀ w ∈ u_ws RX4 TX4 6, w ∈ wsX4_digest := by decide +kernel
  have lk12 := hts (.fieldLink RX4 12 "ReefPilot" "table" "LReefPilot$Table;") (by decide +kernel)
  have lk19 := hts (.fieldLink RX4 19 "ReefPilot" "coast" "LReefPilot$Coast;") (by decide +kernel)
  have hak152 := hts (.constantLong RX4 152 (787)) (by decide +kernel)
  have hak154 := hts (.constantLong RX4 154 (31)) (by decide +kernel)
  have hS : va_S A s.heap s.heap [] := va_S.rf
  have hl : lv_has ls 5 [(0, .ref o)] := hl
  refine lv_ldc2 hx hb hown hak152 dX4_digest_0 ?_
  refine lv_lstore_n (lv' := [(1, .long 787), (0, .ref o)]) hx hb dX4_digest_3 rfl hl (by decide) rfl (fun ls hl => ?_)
  refine lv_iconst (v := nI 0) hx hb dX4_digest_4 (by decide +kernel) ?_
  refine lv_istore_n (lv' := [(3, .int (nI 0)), (1, .long 787), (0, .ref o)]) hx hb dX4_digest_5 rfl hl (by decide) rfl (fun ls hl => ?_)
  have L6 : ∀ (fuel : Nat) (x : Int64) (z : Nat) (o1 : Nat → Bool) (s1 : Nat → Nat) (r1 : Nat → Nat) (n1 : Nat) (hz : z ≤ 8) (hx_ : x = digC (cntA gr co sd mo) z) (hfuel : 8 - z < fuel) (H : Heap) (locs : List Loc), va_P E.1 vwCl (wAll E o ad wm st gr co hb_ (nI mo) ga ca ha_ (nI ma) sd tk o1 s1 r1 n1 wa) H → va_D A (wAll E o ad wm st gr co hb_ (nI mo) ga ca ha_ (nI ma) sd tk o1 s1 r1 n1 wa) → va_S A s.heap H locs → ∀ ls : Array Slot, lv_has ls 5 [(3, .int (nI z)), (1, .long x), (0, .ref o)] → W p l e rm_X4_digest s m args below meth cd H locs 0 0 Q (F0 m 6 ls []) := by
    intro fuel
    induction fuel with
    | zero => intros; omega
    | succ fuel ihL6 =>
      intro x z o1 s1 r1 n1 hz hx_ hfuel H locs hP hD hS ls hl
      refine lv_iload_n hx hb dX4_digest_6 rfl (lv_at hl 0 rfl) ?_
      refine lv_bipush (v := nI 8) hx hb dX4_digest_7 (by decide +kernel) ?_
      refine n_icmp_ge (x := z) (y := 8) (by omega) (by omega) (tgt := 31) hx hb dX4_digest_9 (by decide) (fun c9 => ?_) (fun c9 => ?_)
      · refine lv_iconst (v := nI 0) hx hb dX4_digest_31 (by decide +kernel) ?_
        refine lv_istore_n (lv' := [(3, .int (nI 0)), (1, .long x), (0, .ref o)]) hx hb dX4_digest_32 rfl hl (by decide) rfl (fun ls hl => ?_)
        have L33 : ∀ (fuel : Nat) (x2 : Int64) (z2 : Nat) (hz2 : z2 ≤ 12) (hx2 : x2 = digM (digC (cntA gr co sd mo) 8) (fun k => nI 10 * wm k + st k) z2) (hfuel : 12 - z2 < fuel) (H : Heap) (locs : List Loc), va_P E.1 vwCl (wAll E o ad wm st gr co hb_ (nI mo) ga ca ha_ (nI ma) sd tk o1 s1 r1 n1 wa) H → va_D A (wAll E o ad wm st gr co hb_ (nI mo) ga ca ha_ (nI ma) sd tk o1 s1 r1 n1 wa) → va_S A s.heap H locs → ∀ ls : Array Slot, lv_has ls 5 [(3, .int (nI z2)), (1, .long x2), (0, .ref o)] → W p l e rm_X4_digest s m args below meth cd H locs 0 0 Q (F0 m 33 ls []) := by
          intro fuel
          induction fuel with
          | zero => intros; omega
          | succ fuel ihL33 =>
            intro x2 z2 hz2 hx2 hfuel H locs hP hD hS ls hl
            refine lv_iload_n hx hb dX4_digest_33 rfl (lv_at hl 0 rfl) ?_
            refine lv_bipush (v := nI 12) hx hb dX4_digest_34 (by decide +kernel) ?_
            refine n_icmp_ge (x := z2) (y := 12) (by omega) (by omega) (tgt := 61) hx hb dX4_digest_36 (by decide) (fun c36 => ?_) (fun c36 => ?_)
            · refine lv_iconst (v := nI 0) hx hb dX4_digest_61 (by decide +kernel) ?_
              refine lv_istore_n (lv' := [(3, .int (nI 0)), (1, .long x2), (0, .ref o)]) hx hb dX4_digest_62 rfl hl (by decide) rfl (fun ls hl => ?_)
              have L63 : ∀ (fuel : Nat) (x3 : Int64) (y : Nat) (hy3 : y ≤ 81) (hx3 : x3 = digK (digM (digC (cntA gr co sd mo) 8) (fun k => nI 10 * wm k + st k) 12) gr co (chA sd tk (nI mo)) y) (hfuel : 81 - y < fuel) (H : Heap) (locs : List Loc), va_P E.1 vwCl (wAll E o ad wm st gr co hb_ (nI mo) ga ca ha_ (nI ma) sd tk o1 s1 r1 n1 wa) H → va_D A (wAll E o ad wm st gr co hb_ (nI mo) ga ca ha_ (nI ma) sd tk o1 s1 r1 n1 wa) → va_S A s.heap H locs → ∀ ls : Array Slot, lv_has ls 5 [(3, .int (nI y)), (1, .long x3), (0, .ref o)] → W p l e rm_X4_digest s m args below meth cd H locs 0 0 Q (F0 m 63 ls []) := by
                intro fuel
                induction fuel with
                | zero => intros; omega
                | succ fuel ihL63 =>
                  intro x3 y hy3 hx3 hfuel H locs hP hD hS ls hl
                  refine lv_iload_n hx hb dX4_digest_63 rfl (lv_at hl 0 rfl) ?_
                  refine lv_bipush (v := nI 81) hx hb dX4_digest_64 (by decide +kernel) ?_
                  refine n_icmp_ge (x := y) (y := 81) (by omega) (by omega) (tgt := 137) hx hb dX4_digest_66 (by decide) (fun c66 => ?_) (fun c66 => ?_)
                  · refine lv_lload_n hx hb dX4_digest_137 rfl (lv_at hl 1 rfl) ?_
                    exact e_lret (o1, s1, r1, n1) hQ hx hb hr hlocks hP hD hS dX4_digest_138 (rvl (by rw [hx3, show y = 81 by omega]; rfl)) (Nat.le_of_ble_eq_true rfl) (Nat.le_of_ble_eq_true rfl) (trivial)
                  · refine lv_lload_n hx hb dX4_digest_69 rfl (lv_at hl 1 rfl) ?_
                    refine lv_ldc2 hx hb hown hak154 dX4_digest_70 ?_
                    refine lv_lmul hx hb dX4_digest_73 ?_
                    refine lv_aload_n hx hb dX4_digest_74 rfl (lv_at hl 2 rfl) ?_
                    refine va_get (D := E.1) (ci := 4) (v := .ref (ad 3)) (C := RX4) (T := TX4) (N := 6) hx hb hts hin4 hown hK.1 hP 0 rfl rfl 1 (by decide) lk19 (fun _ h9 => h9) rfl dX4_digest_75 ?_
                    refine lv_iload_n hx hb dX4_digest_78 rfl (lv_at hl 0 rfl) ?_
                    refine e_callV (As := [.int (nI y)]) (rest := [.long (x3 * 31)]) ⟨hx, hb, hml, hown, hts⟩ hK hP hD hS hA hl.1 (c_X0_groundOf l E _ (ad 3) (ad 4) (ad 5) (ad 6) gr co hb_ (nI mo) y (by first | omega | assumption | rfl | (simp_all; done))) (cwV 1 hts gX4_digest_X0_groundOf rfl rfl rfl (by decide +kernel) ⟨Nat.le_of_ble_eq_true rfl, Nat.le_of_ble_eq_true rfl⟩) [4, 5, 6, 7] [0, 1, 2, 3, 8, 9, 10, 11, 12, 13, 14, 15, 16, 17, 18, 19] rfl rfl rfl rfl (by decide) (q0 := 4) (ci := 0) rfl rfl rfl rfl (Nat.le_of_ble_eq_true rfl) dX4_digest_79 ⟨Nat.le_of_ble_eq_true rfl, Nat.le_of_ble_eq_true rfl⟩ (fun u_1 H locs hu_2 hsz1 hP hD hS => ?_)
                    have hP : va_P E.1 vwCl (wAll E o ad wm st gr co hb_ (nI mo) ga ca ha_ (nI ma) sd tk o1 s1 r1 n1 wa) H := hP.sub [0, 1, 2, 3, 16, 17, 18, 19, 4, 5, 6, 7, 8, 9, 10, 11, 12, 13, 14, 15] rfl
                    have hD : va_D A (wAll E o ad wm st gr co hb_ (nI mo) ga ca ha_ (nI ma) sd tk o1 s1 r1 n1 wa) := hD.sub [0, 1, 2, 3, 16, 17, 18, 19, 4, 5, 6, 7, 8, 9, 10, 11, 12, 13, 14, 15] (by decide) rfl
                    refine W.eq (g2 := F0 m 82 ls [.int (gr y), .long (x3 * 31)]) rfl ?_
                    refine lv_i2l hx hb dX4_digest_82 rfl ?_
                    refine lv_ladd hx hb dX4_digest_83 ?_
                    refine lv_lstore_n (lv' := [(1, .long ((x3 * 31) + ((gr y).toInt64))), (3, .int (nI y)), (0, .ref o)]) hx hb dX4_digest_84 rfl hl (by decide) rfl (fun ls hl => ?_)
                    refine lv_lload_n hx hb dX4_digest_85 rfl (lv_at hl 0 rfl) ?_
                    refine lv_ldc2 hx hb hown hak154 dX4_digest_86 ?_
                    refine lv_lmul hx hb dX4_digest_89 ?_
                    refine lv_aload_n hx hb dX4_digest_90 rfl (lv_at hl 2 rfl) ?_
                    refine va_get (D := E.1) (ci := 4) (v := .ref (ad 3)) (C := RX4) (T := TX4) (N := 6) hx hb hts hin4 hown hK.1 hP 0 rfl rfl 1 (by decide) lk19 (fun _ h9 => h9) rfl dX4_digest_91 ?_
                    refine lv_iload_n hx hb dX4_digest_94 rfl (lv_at hl 1 rfl) ?_
                    refine e_callV (As := [.int (nI y)]) (rest := [.long (((x3 * 31) + ((gr y).toInt64)) * 31)]) ⟨hx, hb, hml, hown, hts⟩ hK hP hD hS hA hl.1 (c_X0_coralOf l E _ (ad 3) (ad 4) (ad 5) (ad 6) gr co hb_ (nI mo) y (by first | omega | assumption | rfl | (simp_all; done))) (cwV 1 hts gX4_digest_X0_coralOf rfl rfl rfl (by decide +kernel) ⟨Nat.le_of_ble_eq_true rfl, Nat.le_of_ble_eq_true rfl⟩) [4, 5, 6, 7] [0, 1, 2, 3, 8, 9, 10, 11, 12, 13, 14, 15, 16, 17, 18, 19] rfl rfl rfl rfl (by decide) (q0 := 4) (ci := 0) rfl rfl rfl rfl (Nat.le_of_ble_eq_true rfl) dX4_digest_95 ⟨Nat.le_of_ble_eq_true rfl, Nat.le_of_ble_eq_true rfl⟩ (fun u_3 H locs hu_4 hsz1 hP hD hS => ?_)
                    have hP : va_P E.1 vwCl (wAll E o ad wm st gr co hb_ (nI mo) ga ca ha_ (nI ma) sd tk o1 s1 r1 n1 wa) H := hP.sub [0, 1, 2, 3, 16, 17, 18, 19, 4, 5, 6, 7, 8, 9, 10, 11, 12, 13, 14, 15] rfl
                    have hD : va_D A (wAll E o ad wm st gr co hb_ (nI mo) ga ca ha_ (nI ma) sd tk o1 s1 r1 n1 wa) := hD.sub [0, 1, 2, 3, 16, 17, 18, 19, 4, 5, 6, 7, 8, 9, 10, 11, 12, 13, 14, 15] (by decide) rfl
                    refine W.eq (g2 := F0 m 98 ls [.int (co y), .long (((x3 * 31) + ((gr y).toInt64)) * 31)]) rfl ?_
                    refine lv_i2l hx hb dX4_digest_98 rfl ?_
                    refine lv_ladd hx hb dX4_digest_99 ?_
                    refine lv_lstore_n (lv' := [(1, .long ((((x3 * 31) + ((gr y).toInt64)) * 31) + ((co y).toInt64))), (3, .int (nI y)), (0, .ref o)]) hx hb dX4_digest_100 rfl hl (by decide) rfl (fun ls hl => ?_)
                    refine lv_iconst (v := nI 0) hx hb dX4_digest_101 (by decide +kernel) ?_
                    refine lv_istore (lv' := [(4, .int (nI 0)), (1, .long ((((x3 * 31) + ((gr y).toInt64)) * 31) + ((co y).toInt64))), (3, .int (nI y)), (0, .ref o)]) hx hb dX4_digest_102 hl (by decide) rfl (fun ls hl => ?_)
                    have L104 : ∀ (fuel : Nat) (x4 : Int64) (z4 : Nat) (hz4 : z4 ≤ 3) (hx4 : x4 = digM ((digK (digM (digC (cntA gr co sd mo) 8) (fun k => nI 10 * wm k + st k) 12) gr co (chA sd tk (nI mo)) y * 31 + (gr y).toInt64) * 31 + (co y).toInt64) (chA sd tk (nI mo) y) z4) (hfuel : 3 - z4 < fuel) (H : Heap) (locs : List Loc), va_P E.1 vwCl (wAll E o ad wm st gr co hb_ (nI mo) ga ca ha_ (nI ma) sd tk o1 s1 r1 n1 wa) H → va_D A (wAll E o ad wm st gr co hb_ (nI mo) ga ca ha_ (nI ma) sd tk o1 s1 r1 n1 wa) → va_S A s.heap H locs → ∀ ls : Array Slot, lv_has ls 5 [(4, .int (nI z4)), (1, .long x4), (3, .int (nI y)), (0, .ref o)] → W p l e rm_X4_digest s m args below meth cd H locs 0 0 Q (F0 m 104 ls []) := by
                      intro fuel
                      induction fuel with
                      | zero => intros; omega
                      | succ fuel ihL104 =>
                        intro x4 z4 hz4 hx4 hfuel H locs hP hD hS ls hl
                        refine lv_iload hx hb dX4_digest_104 (lv_at hl 0 rfl) ?_
                        refine lv_iconst (v := nI 3) hx hb dX4_digest_106 (by decide +kernel) ?_
                        refine n_icmp_ge (x := z4) (y := 3) (by omega) (by omega) (tgt := 131) hx hb dX4_digest_107 (by decide) (fun c107 => ?_) (fun c107 => ?_)
                        · refine lv_iinc (v := nI (y + 1)) (lv' := [(3, .int (nI (y + 1))), (4, .int (nI z4)), (1, .long x4), (0, .ref o)]) hx hb dX4_digest_131 hl (k := 2) rfl (nI_add y 1) (by decide) rfl (fun ls hl => ?_)
                          refine lv_goto (tgt := 63) hx hb dX4_digest_134 (by decide) ?_
                          exact ihL63 x4 (y + 1) (by first | omega | assumption | rfl | (simp_all; done)) (by rw [hx4, show z4 = 3 by omega]; rfl) (by omega) _ _ hP hD hS _ (lv_sub hl [0, 2, 3] rfl)
                        · refine lv_lload_n hx hb dX4_digest_110 rfl (lv_at hl 1 rfl) ?_
                          refine lv_ldc2 hx hb hown hak154 dX4_digest_111 ?_
                          refine lv_lmul hx hb dX4_digest_114 ?_
                          refine lv_aload_n hx hb dX4_digest_115 rfl (lv_at hl 3 rfl) ?_
                          refine lv_iload_n hx hb dX4_digest_116 rfl (lv_at hl 2 rfl) ?_
                          refine lv_iload hx hb dX4_digest_117 (lv_at hl 0 rfl) ?_
                          refine e_callV (As := [.int (nI y), .int (nI z4)]) (rest := [.long (x4 * 31)]) ⟨hx, hb, hml, hown, hts⟩ hK hP hD hS hA hl.1 (c_X4_chartAnswer l E _ o ad wm st gr co hb_ mo ga ca ha_ ma sd tk o1 s1 r1 n1 wa y z4 (by first | omega | assumption | rfl | (simp_all; done)) (by first | omega | assumption | rfl | (simp_all; done))) (cwV 2 hts gX4_digest_X4_chartAnswer rfl rfl rfl (by decide +kernel) ⟨Nat.le_of_ble_eq_true rfl, Nat.le_of_ble_eq_true rfl⟩) [0, 1, 2, 3, 4, 5, 6, 7, 8, 9, 10, 11, 12, 13, 14, 15, 16, 17, 18, 19] [] rfl rfl rfl rfl (by decide) (q0 := 0) (ci := 4) rfl rfl rfl rfl (Nat.le_of_ble_eq_true rfl) dX4_digest_119 ⟨Nat.le_of_ble_eq_true rfl, Nat.le_of_ble_eq_true rfl⟩ (fun u_5 H locs hu_6 hsz1 hP hD hS => ?_)
                          have hP : va_P E.1 vwCl (wAll E o ad wm st gr co hb_ (nI mo) ga ca ha_ (nI ma) sd tk o1 s1 r1 n1 wa) H := hP.sub [0, 1, 2, 3, 4, 5, 6, 7, 8, 9, 10, 11, 12, 13, 14, 15, 16, 17, 18, 19] rfl
                          have hD : va_D A (wAll E o ad wm st gr co hb_ (nI mo) ga ca ha_ (nI ma) sd tk o1 s1 r1 n1 wa) := hD.sub [0, 1, 2, 3, 4, 5, 6, 7, 8, 9, 10, 11, 12, 13, 14, 15, 16, 17, 18, 19] (by decide) rfl
                          refine W.eq (g2 := F0 m 122 ls [.int (chA sd tk (nI mo) y z4), .long (x4 * 31)]) rfl ?_
                          refine lv_i2l hx hb dX4_digest_122 rfl ?_
                          refine lv_ladd hx hb dX4_digest_123 ?_
                          refine lv_lstore_n (lv' := [(1, .long ((x4 * 31) + ((chA sd tk (nI mo) y z4).toInt64))), (4, .int (nI z4)), (3, .int (nI y)), (0, .ref o)]) hx hb dX4_digest_124 rfl hl (by decide) rfl (fun ls hl => ?_)
                          refine lv_iinc (v := nI (z4 + 1)) (lv' := [(4, .int (nI (z4 + 1))), (1, .long ((x4 * 31) + ((chA sd tk (nI mo) y z4).toInt64))), (3, .int (nI y)), (0, .ref o)]) hx hb dX4_digest_125 hl (k := 1) rfl (nI_add z4 1) (by decide) rfl (fun ls hl => ?_)
                          refine lv_goto (tgt := 104) hx hb dX4_digest_128 (by decide) ?_
                          exact ihL104 ((x4 * 31) + ((chA sd tk (nI mo) y z4).toInt64)) (z4 + 1) (by first | omega | assumption | rfl | (simp_all; done)) (by rw [hx4]; rfl) (by omega) _ _ hP hD hS _ (lv_sub hl [0, 1, 2, 3] rfl)
                    exact L104 (3 - 0 + 1) ((((x3 * 31) + ((gr y).toInt64)) * 31) + ((co y).toInt64)) 0 (by first | omega | assumption | rfl | (simp_all; done)) (by rw [hx3]; rfl) (Nat.lt_succ_self _) _ _ hP hD hS _ (lv_sub hl [0, 1, 2, 3] rfl)
              exact L63 (81 - 0 + 1) x2 0 (by first | omega | assumption | rfl | (simp_all; done)) (by rw [hx2, show z2 = 12 by omega]; rfl) (Nat.lt_succ_self _) _ _ hP hD hS _ (lv_sub hl [0, 1, 2] rfl)
            · refine lv_lload_n hx hb dX4_digest_39 rfl (lv_at hl 1 rfl) ?_
              refine lv_ldc2 hx hb hown hak154 dX4_digest_40 ?_
              refine lv_lmul hx hb dX4_digest_43 ?_
              refine lv_aload_n hx hb dX4_digest_44 rfl (lv_at hl 2 rfl) ?_
              refine va_get (D := E.1) (ci := 4) (v := .ref (ad 0)) (C := RX4) (T := TX4) (N := 6) hx hb hts hin4 hown hK.1 hP 0 rfl rfl 0 (by decide) lk12 (fun _ h9 => h9) rfl dX4_digest_45 ?_
              refine lv_iload_n hx hb dX4_digest_48 rfl (lv_at hl 0 rfl) ?_
              refine e_callV (As := [.int (nI z2)]) (rest := [.long (x2 * 31)]) ⟨hx, hb, hml, hown, hts⟩ hK hP hD hS hA hl.1 (c_X3_entry l E _ (ad 0) (ad 1) (ad 2) wm st z2 (by first | omega | assumption | rfl | (simp_all; done))) (cwV 1 hts gX4_digest_X3_entry rfl rfl rfl (by decide +kernel) ⟨Nat.le_of_ble_eq_true rfl, Nat.le_of_ble_eq_true rfl⟩) [1, 2, 3] [0, 4, 5, 6, 7, 8, 9, 10, 11, 12, 13, 14, 15, 16, 17, 18, 19] rfl rfl rfl rfl (by decide) (q0 := 1) (ci := 3) rfl rfl rfl rfl (Nat.le_of_ble_eq_true rfl) dX4_digest_49 ⟨Nat.le_of_ble_eq_true rfl, Nat.le_of_ble_eq_true rfl⟩ (fun u_7 H locs hu_8 hsz1 hP hD hS => ?_)
              have hP : va_P E.1 vwCl (wAll E o ad wm st gr co hb_ (nI mo) ga ca ha_ (nI ma) sd tk o1 s1 r1 n1 wa) H := hP.sub [0, 17, 18, 19, 1, 2, 3, 4, 5, 6, 7, 8, 9, 10, 11, 12, 13, 14, 15, 16] rfl
              have hD : va_D A (wAll E o ad wm st gr co hb_ (nI mo) ga ca ha_ (nI ma) sd tk o1 s1 r1 n1 wa) := hD.sub [0, 17, 18, 19, 1, 2, 3, 4, 5, 6, 7, 8, 9, 10, 11, 12, 13, 14, 15, 16] (by decide) rfl
              refine W.eq (g2 := F0 m 52 ls [.int (nI 10 * wm z2 + st z2), .long (x2 * 31)]) rfl ?_
              refine lv_i2l hx hb dX4_digest_52 rfl ?_
              refine lv_ladd hx hb dX4_digest_53 ?_
              refine lv_lstore_n (lv' := [(1, .long ((x2 * 31) + ((nI 10 * wm z2 + st z2).toInt64))), (3, .int (nI z2)), (0, .ref o)]) hx hb dX4_digest_54 rfl hl (by decide) rfl (fun ls hl => ?_)
              refine lv_iinc (v := nI (z2 + 1)) (lv' := [(3, .int (nI (z2 + 1))), (1, .long ((x2 * 31) + ((nI 10 * wm z2 + st z2).toInt64))), (0, .ref o)]) hx hb dX4_digest_55 hl (k := 1) rfl (nI_add z2 1) (by decide) rfl (fun ls hl => ?_)
              refine lv_goto (tgt := 33) hx hb dX4_digest_58 (by decide) ?_
              exact ihL33 ((x2 * 31) + ((nI 10 * wm z2 + st z2).toInt64)) (z2 + 1) (by first | omega | assumption | rfl | (simp_all; done)) (by rw [hx2]; rfl) (by omega) _ _ hP hD hS _ (lv_sub hl [0, 1, 2] rfl)
        exact L33 (12 - 0 + 1) x 0 (by first | omega | assumption | rfl | (simp_all; done)) (by rw [hx_, show z = 8 by omega]; rfl) (Nat.lt_succ_self _) _ _ hP hD hS _ (lv_sub hl [0, 1, 2] rfl)
      · refine lv_lload_n hx hb dX4_digest_12 rfl (lv_at hl 1 rfl) ?_
        refine lv_ldc2 hx hb hown hak154 dX4_digest_13 ?_
        refine lv_lmul hx hb dX4_digest_16 ?_
        refine lv_aload_n hx hb dX4_digest_17 rfl (lv_at hl 2 rfl) ?_
        refine lv_iload_n hx hb dX4_digest_18 rfl (lv_at hl 0 rfl) ?_
        refine e_callV (As := [.int (nI z)]) (rest := [.long (x * 31)]) ⟨hx, hb, hml, hown, hts⟩ hK hP hD hS hA hl.1 (c_X4_countAnswer l E _ o ad wm st gr co hb_ mo ga ca ha_ ma sd tk o1 s1 r1 n1 wa z (by first | omega | assumption | rfl | (simp_all; done))) (cwV 1 hts gX4_digest_X4_countAnswer rfl rfl rfl (by decide +kernel) ⟨Nat.le_of_ble_eq_true rfl, Nat.le_of_ble_eq_true rfl⟩) [0, 1, 2, 3, 4, 5, 6, 7, 8, 9, 10, 11, 12, 13, 14, 15, 16, 17, 18, 19] [] rfl rfl rfl rfl (by decide) (q0 := 0) (ci := 4) rfl rfl rfl rfl (Nat.le_of_ble_eq_true rfl) dX4_digest_19 ⟨Nat.le_of_ble_eq_true rfl, Nat.le_of_ble_eq_true rfl⟩ (fun u_9 H locs hu_10 hsz1 hP hD hS => ?_)
        obtain ⟨op__11, sp__12, rc__13, rn__14⟩ := u_9
        have hP : va_P E.1 vwCl (wAll E o ad wm st gr co hb_ (nI mo) ga ca ha_ (nI ma) sd tk op__11 sp__12 rc__13 rn__14 wa) H := hP.sub [0, 1, 2, 3, 4, 5, 6, 7, 8, 9, 10, 11, 12, 13, 14, 15, 16, 17, 18, 19] rfl
        have hD : va_D A (wAll E o ad wm st gr co hb_ (nI mo) ga ca ha_ (nI ma) sd tk op__11 sp__12 rc__13 rn__14 wa) := hD.sub [0, 1, 2, 3, 4, 5, 6, 7, 8, 9, 10, 11, 12, 13, 14, 15, 16, 17, 18, 19] (by decide) rfl
        refine W.eq (g2 := F0 m 22 ls [.int (cntA gr co sd mo z), .long (x * 31)]) rfl ?_
        refine lv_i2l hx hb dX4_digest_22 rfl ?_
        refine lv_ladd hx hb dX4_digest_23 ?_
        refine lv_lstore_n (lv' := [(1, .long ((x * 31) + ((cntA gr co sd mo z).toInt64))), (3, .int (nI z)), (0, .ref o)]) hx hb dX4_digest_24 rfl hl (by decide) rfl (fun ls hl => ?_)
        refine lv_iinc (v := nI (z + 1)) (lv' := [(3, .int (nI (z + 1))), (1, .long ((x * 31) + ((cntA gr co sd mo z).toInt64))), (0, .ref o)]) hx hb dX4_digest_25 hl (k := 1) rfl (nI_add z 1) (by decide) rfl (fun ls hl => ?_)
        refine lv_goto (tgt := 6) hx hb dX4_digest_28 (by decide) ?_
        exact ihL6 ((x * 31) + ((cntA gr co sd mo z).toInt64)) (z + 1) op__11 sp__12 rc__13 rn__14 (by first | omega | assumption | rfl | (simp_all; done)) (by rw [hx_]; rfl) (by omega) _ _ hP hD hS _ (lv_sub hl [0, 1, 2] rfl)
  exact L6 (8 - 0 + 1) 787 0 op sp rc rn (by first | omega | assumption | rfl | (simp_all; done)) (rfl) (Nat.lt_succ_self _) _ _ hP hD hS _ (lv_sub hl [0, 1, 2] rfl)
