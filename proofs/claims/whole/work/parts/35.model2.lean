abbrev rm_X5_monthOn : Room := { frames := 3, cells := 0, slots := 0, locals := 83 }
set_option maxHeartbeats 4000000 in
set_option maxRecDepth 100000 in
theorem c_X5_monthOn (l : Launch) (E : eT) (sz : Nat) (o : Nat) (ad : Nat → Nat) (th : Int32) (gr : Nat → Int32) (co : Nat → Int32) (sd : Nat → Int32) (tk : Nat → Int32) (wm : Nat → Int32) (st : Nat → Int32) (mo : Nat) (nx : Nat → Int32) (lb : Nat → Option Nat) (fr : Nat → Nat) (hmo : mo < 2 ^ 31 - 1) (hT : Tb wm st) (hR : Rg gr co) : cM l yX5_monthOn wsX5_monthOn rm_X5_monthOn E sz [.ref o] (wMo E o ad th gr co sd tk wm st (nI mo) nx lb fr) (fun u : (Nat → Int32) => none) (fun u : (Nat → Int32) => True) (fun u : (Nat → Int32) => wMo E o ad th ((month1 wm st (gr, co) mo).1) ((month1 wm st (gr, co) mo).2) sd tk wm st (nI (mo + 1)) u lb fr) := by
  refine cM_intro (cc := cX5_monthOn) (maxL := 2) (ret := none) (by decide +kernel) rfl (Nat.le_of_ble_eq_true rfl) ?_
  intro p e s m args below meth cd hx hb hr hml hown hlocks hts hnm hK hsz hP A hD hA Q hQ ls hl
  have hown : s.vm.findClass RX5 = some m.cls := hown
  have hin5 : ∀ w ∈ u_ws RX5 TX5 11, w ∈ wsX5_monthOn := by decide +kernel
  have lk22 := hts (.fieldLink RX5 22 "ReefPilotModel" "warmth" "[I") (by decide +kernel)
  have lk25 := hts (.fieldLink RX5 25 "ReefPilotModel" "storms" "[I") (by decide +kernel)
  have lk78 := hts (.fieldLink RX5 78 "ReefPilotModel" "month" "I") (by decide +kernel)
  have hS : va_S A s.heap s.heap [] := va_S.rf
  have hl : lv_has ls 2 [(0, .ref o)] := hl
  refine lv_aload_n hx hb dX5_monthOn_0 rfl (lv_at hl 0 rfl) ?_
  refine va_get (D := E.1) (ci := 5) (v := .int (nI mo)) (C := RX5) (T := TX5) (N := 11) hx hb hts hin5 hown hK.1 hP 0 rfl rfl 7 (by decide) lk78 (fun _ h9 => h9) rfl dX5_monthOn_1 ?_
  refine lv_bipush (v := nI 12) hx hb dX5_monthOn_4 (by decide +kernel) ?_
  refine lv_irem hx hb dX5_monthOn_6 (by decide +kernel) ?_
  refine e_top (pk_rem (by omega) (by omega) (by omega)) ?_
  refine lv_istore_n (lv' := [(1, .int (nI (mo % 12))), (0, .ref o)]) hx hb dX5_monthOn_7 rfl hl (by decide) rfl (fun ls hl => ?_)
  refine lv_aload_n hx hb dX5_monthOn_8 rfl (lv_at hl 1 rfl) ?_
  refine lv_aload_n hx hb dX5_monthOn_9 rfl (lv_at hl 1 rfl) ?_
  refine va_get (D := E.1) (ci := 5) (v := .ref (ad 4)) (C := RX5) (T := TX5) (N := 11) hx hb hts hin5 hown hK.1 hP 0 rfl rfl 5 (by decide) lk22 (fun _ h9 => h9) rfl dX5_monthOn_10 ?_
  refine lv_iload_n hx hb dX5_monthOn_13 rfl (lv_at hl 0 rfl) ?_
  refine e_iald hK hP 5 rfl (mo % 12) (by omega) (by decide) hx hb dX5_monthOn_14 ?_
  have hst9 := (hT (mo % 12) (Nat.mod_lt _ (by decide))).2
  refine e_callV (As := [.int (wm (mo % 12))]) (rest := []) ⟨hx, hb, hml, hown, hts⟩ hK hP hD hS hA hl.1 (c_X5_grow l E _ o ad th gr co sd tk wm st mo nx lb fr (wm (mo % 12))) (cwV 1 hts gX5_monthOn_X5_grow rfl rfl rfl (by decide +kernel) ⟨Nat.le_of_ble_eq_true rfl, Nat.le_of_ble_eq_true rfl⟩) [0, 1, 2, 3, 4, 5, 6, 7, 8, 9] [] rfl rfl rfl rfl (by decide) (q0 := 0) (ci := 5) rfl rfl rfl rfl (Nat.le_of_ble_eq_true rfl) dX5_monthOn_15 ⟨Nat.le_of_ble_eq_true rfl, Nat.le_of_ble_eq_true rfl⟩ (fun u_1 H locs hu_2 hsz1 hP hD hS => ?_)
  obtain ⟨nx__3, rfl⟩ : ∃ z, z = u_1 := ⟨_, rfl⟩
  have hP : va_P E.1 vwCl (wMo E o ad th gr (seeded gr (warmed (wm (mo % 12)) gr co)) sd tk wm st (nI mo) nx__3 lb fr) H := hP.sub [0, 1, 2, 3, 4, 5, 6, 7, 8, 9] rfl
  have hD : va_D A (wMo E o ad th gr (seeded gr (warmed (wm (mo % 12)) gr co)) sd tk wm st (nI mo) nx__3 lb fr) := hD.sub [0, 1, 2, 3, 4, 5, 6, 7, 8, 9] (by decide) rfl
  refine W.eq (g2 := F0 m 18 ls []) rfl ?_
  refine lv_aload_n hx hb dX5_monthOn_18 rfl (lv_at hl 1 rfl) ?_
  refine lv_aload_n hx hb dX5_monthOn_19 rfl (lv_at hl 1 rfl) ?_
  refine va_get (D := E.1) (ci := 5) (v := .ref (ad 5)) (C := RX5) (T := TX5) (N := 11) hx hb hts hin5 hown hK.1 hP 0 rfl rfl 6 (by decide) lk25 (fun _ h9 => h9) rfl dX5_monthOn_20 ?_
  refine lv_iload_n hx hb dX5_monthOn_23 rfl (lv_at hl 0 rfl) ?_
  refine e_iald hK hP 6 rfl (mo % 12) (by omega) (by decide) hx hb dX5_monthOn_24 ?_
  refine e_callV (As := [.int (st (mo % 12))]) (rest := []) ⟨hx, hb, hml, hown, hts⟩ hK hP hD hS hA hl.1 (c_X5_blow l E _ o ad th gr (seeded gr (warmed (wm (mo % 12)) gr co)) sd tk wm st mo nx__3 lb fr (st (mo % 12)) (hst9.1) (hst9.2) (Rg_seeded (Rg_warmed hR _))) (cwV 1 hts gX5_monthOn_X5_blow rfl rfl rfl (by decide +kernel) ⟨Nat.le_of_ble_eq_true rfl, Nat.le_of_ble_eq_true rfl⟩) [0, 1, 2, 3, 4, 5, 6, 7, 8, 9] [] rfl rfl rfl rfl (by decide) (q0 := 0) (ci := 5) rfl rfl rfl rfl (Nat.le_of_ble_eq_true rfl) dX5_monthOn_25 ⟨Nat.le_of_ble_eq_true rfl, Nat.le_of_ble_eq_true rfl⟩ (fun u_4 H locs hu_5 hsz1 hP hD hS => ?_)
  have hP : va_P E.1 vwCl (wMo E o ad th ((blows (st (mo % 12)) (gr, (seeded gr (warmed (wm (mo % 12)) gr co))) 81).1) ((blows (st (mo % 12)) (gr, (seeded gr (warmed (wm (mo % 12)) gr co))) 81).2) sd tk wm st (nI mo) nx__3 lb fr) H := hP.sub [0, 1, 2, 3, 4, 5, 6, 7, 8, 9] rfl
  have hD : va_D A (wMo E o ad th ((blows (st (mo % 12)) (gr, (seeded gr (warmed (wm (mo % 12)) gr co))) 81).1) ((blows (st (mo % 12)) (gr, (seeded gr (warmed (wm (mo % 12)) gr co))) 81).2) sd tk wm st (nI mo) nx__3 lb fr) := hD.sub [0, 1, 2, 3, 4, 5, 6, 7, 8, 9] (by decide) rfl
  refine W.eq (g2 := F0 m 28 ls []) rfl ?_
  refine lv_aload_n hx hb dX5_monthOn_28 rfl (lv_at hl 1 rfl) ?_
  refine lv_dup hx hb dX5_monthOn_29 rfl ?_
  refine va_get (D := E.1) (ci := 5) (v := .int (nI mo)) (C := RX5) (T := TX5) (N := 11) hx hb hts hin5 hown hK.1 hP 0 rfl rfl 7 (by decide) lk78 (fun _ h9 => h9) rfl dX5_monthOn_30 ?_
  refine lv_iconst (v := nI 1) hx hb dX5_monthOn_33 (by decide +kernel) ?_
  refine lv_iadd hx hb dX5_monthOn_34 ?_
  refine e_top (nI_add _ _) ?_
  refine va_put (D := E.1) (ci := 5) (v := .int (nI (mo + 1))) (ty := .int) (C := RX5) (T := TX5) (N := 11) hx hb hts hin5 tyX5 tyX5_ok nmX5 hown hK.1 hP hD hS 0 rfl rfl 7 (by decide) lk78 (fun _ h9 => h9) rfl (by decide +kernel) rfl rfl (Nat.le_of_ble_eq_true rfl) dX5_monthOn_35 (fun H locs hP hD hS => ?_)
  have hP : va_P E.1 vwCl (wMo E o ad th ((blows (st (mo % 12)) (gr, (seeded gr (warmed (wm (mo % 12)) gr co))) 81).1) ((blows (st (mo % 12)) (gr, (seeded gr (warmed (wm (mo % 12)) gr co))) 81).2) sd tk wm st (nI (mo + 1)) nx__3 lb fr) H := hP
  have hD : va_D A (wMo E o ad th ((blows (st (mo % 12)) (gr, (seeded gr (warmed (wm (mo % 12)) gr co))) 81).1) ((blows (st (mo % 12)) (gr, (seeded gr (warmed (wm (mo % 12)) gr co))) 81).2) sd tk wm st (nI (mo + 1)) nx__3 lb fr) := hD
  exact e_vret nx__3 hQ hx hb hr hlocks hP hD hS dX5_monthOn_38 (rfl) (Nat.le_of_ble_eq_true rfl) (Nat.le_of_ble_eq_true rfl) (trivial)

abbrev rm_X5_counted : Room := { frames := 3, cells := 0, slots := 0, locals := 69 }
set_option maxHeartbeats 4000000 in
set_option maxRecDepth 100000 in
theorem c_X5_counted (l : Launch) (E : eT) (sz : Nat) (o : Nat) (ad : Nat → Nat) (th : Int32) (gr : Nat → Int32) (co : Nat → Int32) (sd : Nat → Int32) (tk : Nat → Int32) (wm : Nat → Int32) (st : Nat → Int32) (mo : Nat) (nx : Nat → Int32) (lb : Nat → Option Nat) (fr : Nat → Nat) (k : Nat) (hk : k < 8) : cM l yX5_counted wsX5_counted rm_X5_counted E sz [.ref o, .int (nI k)] (wMo E o ad th gr co sd tk wm st (nI mo) nx lb fr) (fun u : (Nat → Option Nat) => some (.int (cntA gr co sd mo k))) (fun u : (Nat → Option Nat) => True) (fun u : (Nat → Option Nat) => wMo E o ad th gr co sd tk wm st (nI mo) nx u fr) := by
  refine cM_intro (cc := cX5_counted) (maxL := 7) (ret := (some .int)) (by decide +kernel) rfl (Nat.le_of_ble_eq_true rfl) ?_
  intro p e s m args below meth cd hx hb hr hml hown hlocks hts hnm hK hsz hP A hD hA Q hQ ls hl
  have hown : s.vm.findClass RX5 = some m.cls := hown
  have hin5 : ∀ w ∈ u_ws RX5 TX5 11, w ∈ wsX5_counted := by decide +kernel
  have lk13 := hts (.fieldLink RX5 13 "ReefPilotModel" "coral" "[I") (by decide +kernel)
  have lk16 := hts (.fieldLink RX5 16 "ReefPilotModel" "sounding" "[I") (by decide +kernel)
  have lk78 := hts (.fieldLink RX5 78 "ReefPilotModel" "month" "I") (by decide +kernel)
  have hS : va_S A s.heap s.heap [] := va_S.rf
  have hl : lv_has ls 7 [(0, .ref o), (1, .int (nI k))] := hl
  refine lv_iconst (v := nI 0) hx hb dX5_counted_0 (by decide +kernel) ?_
  refine lv_istore_n (lv' := [(2, .int (nI 0)), (0, .ref o), (1, .int (nI k))]) hx hb dX5_counted_1 rfl hl (by decide) rfl (fun ls hl => ?_)
  refine lv_iload_n hx hb dX5_counted_2 rfl (lv_at hl 2 rfl) ?_
  rcases (show k = 0 ∨ k = 1 ∨ k = 2 ∨ k = 3 ∨ k = 4 ∨ k = 5 ∨ k = 6 ∨ k = 7 by omega) with rfl | rfl | rfl | rfl | rfl | rfl | rfl | rfl
  · refine lv_tableIn (off := 41) (tgt := 44) hx hb dX5_counted_3 (by decide +kernel) (by decide +kernel) (by decide +kernel) (by decide) ?_
    refine lv_aload_n hx hb dX5_counted_44 rfl (lv_at hl 1 rfl) ?_
    refine va_get (D := E.1) (ci := 5) (v := .int (nI mo)) (C := RX5) (T := TX5) (N := 11) hx hb hts hin5 hown hK.1 hP 0 rfl rfl 7 (by decide) lk78 (fun _ h9 => h9) rfl dX5_counted_45 ?_
    exact e_iret lb hQ hx hb hr hlocks hP hD hS dX5_counted_48 (rfl) (Nat.le_of_ble_eq_true rfl) (Nat.le_of_ble_eq_true rfl) (trivial)
  · refine lv_tableIn (off := 46) (tgt := 49) hx hb dX5_counted_3 (by decide +kernel) (by decide +kernel) (by decide +kernel) (by decide) ?_
    refine lv_aload_n hx hb dX5_counted_49 rfl (lv_at hl 1 rfl) ?_
    refine e_callV (As := []) (rest := []) ⟨hx, hb, hml, hown, hts⟩ hK hP hD hS hA hl.1 (c_X5_heads l E _ o ad th gr co sd tk wm st mo nx lb fr) (cwV 0 hts gX5_counted_X5_heads rfl rfl rfl (by decide +kernel) ⟨Nat.le_of_ble_eq_true rfl, Nat.le_of_ble_eq_true rfl⟩) [0, 1, 2, 3, 4, 5, 6, 7, 8, 9] [] rfl rfl rfl rfl (by decide) (q0 := 0) (ci := 5) rfl rfl rfl rfl (Nat.le_of_ble_eq_true rfl) dX5_counted_50 ⟨Nat.le_of_ble_eq_true rfl, Nat.le_of_ble_eq_true rfl⟩ (fun u_1 H locs hu_2 hsz1 hP hD hS => ?_)
    have hP : va_P E.1 vwCl (wMo E o ad th gr co sd tk wm st (nI mo) nx lb fr) H := hP.sub [0, 1, 2, 3, 4, 5, 6, 7, 8, 9] rfl
    have hD : va_D A (wMo E o ad th gr co sd tk wm st (nI mo) nx lb fr) := hD.sub [0, 1, 2, 3, 4, 5, 6, 7, 8, 9] (by decide) rfl
    refine W.eq (g2 := F0 m 53 ls [.int (nI (heads co))]) rfl ?_
    exact e_iret lb hQ hx hb hr hlocks hP hD hS dX5_counted_53 (rfl) (Nat.le_of_ble_eq_true rfl) (Nat.le_of_ble_eq_true rfl) (trivial)
  · refine lv_tableIn (off := 51) (tgt := 54) hx hb dX5_counted_3 (by decide +kernel) (by decide +kernel) (by decide +kernel) (by decide) ?_
    refine lv_aload_n hx hb dX5_counted_54 rfl (lv_at hl 1 rfl) ?_
    refine e_callV (As := []) (rest := []) ⟨hx, hb, hml, hown, hts⟩ hK hP hD hS hA hl.1 (c_X5_reefs l E _ o ad th gr co sd tk wm st mo nx lb fr) (cwV 0 hts gX5_counted_X5_reefs rfl rfl rfl (by decide +kernel) ⟨Nat.le_of_ble_eq_true rfl, Nat.le_of_ble_eq_true rfl⟩) [0, 1, 2, 3, 4, 5, 6, 7, 8, 9] [] rfl rfl rfl rfl (by decide) (q0 := 0) (ci := 5) rfl rfl rfl rfl (Nat.le_of_ble_eq_true rfl) dX5_counted_55 ⟨Nat.le_of_ble_eq_true rfl, Nat.le_of_ble_eq_true rfl⟩ (fun u_3 H locs hu_4 hsz1 hP hD hS => ?_)
    obtain ⟨lb__5, rfl⟩ : ∃ z, z = u_3 := ⟨_, rfl⟩
    have hP : va_P E.1 vwCl (wMo E o ad th gr co sd tk wm st (nI mo) nx lb__5 fr) H := hP.sub [0, 1, 2, 3, 4, 5, 6, 7, 8, 9] rfl
    have hD : va_D A (wMo E o ad th gr co sd tk wm st (nI mo) nx lb__5 fr) := hD.sub [0, 1, 2, 3, 4, 5, 6, 7, 8, 9] (by decide) rfl
    refine W.eq (g2 := F0 m 58 ls [.int (nI (reefN (hd co)))]) rfl ?_
    exact e_iret lb__5 hQ hx hb hr hlocks hP hD hS dX5_counted_58 (rfl) (Nat.le_of_ble_eq_true rfl) (Nat.le_of_ble_eq_true rfl) (trivial)
  · refine lv_tableIn (off := 56) (tgt := 59) hx hb dX5_counted_3 (by decide +kernel) (by decide +kernel) (by decide +kernel) (by decide) ?_
    refine lv_aload_n hx hb dX5_counted_59 rfl (lv_at hl 1 rfl) ?_
    refine e_callV (As := []) (rest := []) ⟨hx, hb, hml, hown, hts⟩ hK hP hD hS hA hl.1 (c_X5_largest l E _ o ad th gr co sd tk wm st mo nx lb fr) (cwV 0 hts gX5_counted_X5_largest rfl rfl rfl (by decide +kernel) ⟨Nat.le_of_ble_eq_true rfl, Nat.le_of_ble_eq_true rfl⟩) [0, 1, 2, 3, 4, 5, 6, 7, 8, 9] [] rfl rfl rfl rfl (by decide) (q0 := 0) (ci := 5) rfl rfl rfl rfl (Nat.le_of_ble_eq_true rfl) dX5_counted_60 ⟨Nat.le_of_ble_eq_true rfl, Nat.le_of_ble_eq_true rfl⟩ (fun u_6 H locs hu_7 hsz1 hP hD hS => ?_)
    obtain ⟨lb__8, rfl⟩ : ∃ z, z = u_6 := ⟨_, rfl⟩
    have hP : va_P E.1 vwCl (wMo E o ad th gr co sd tk wm st (nI mo) nx lb__8 fr) H := hP.sub [0, 1, 2, 3, 4, 5, 6, 7, 8, 9] rfl
    have hD : va_D A (wMo E o ad th gr co sd tk wm st (nI mo) nx lb__8 fr) := hD.sub [0, 1, 2, 3, 4, 5, 6, 7, 8, 9] (by decide) rfl
    refine W.eq (g2 := F0 m 63 ls [.int (nI (bigN (hd co) 81))]) rfl ?_
    exact e_iret lb__8 hQ hx hb hr hlocks hP hD hS dX5_counted_63 (rfl) (Nat.le_of_ble_eq_true rfl) (Nat.le_of_ble_eq_true rfl) (trivial)
  · refine lv_tableIn (off := 61) (tgt := 64) hx hb dX5_counted_3 (by decide +kernel) (by decide +kernel) (by decide +kernel) (by decide) ?_
    refine lv_aload_n hx hb dX5_counted_64 rfl (lv_at hl 1 rfl) ?_
    refine va_get (D := E.1) (ci := 5) (v := .ref (ad 1)) (C := RX5) (T := TX5) (N := 11) hx hb hts hin5 hown hK.1 hP 0 rfl rfl 2 (by decide) lk13 (fun _ h9 => h9) rfl dX5_counted_65 ?_
    refine lv_astore_n (lv' := [(3, .ref (ad 1)), (2, .int (nI 0)), (0, .ref o), (1, .int (nI 4))]) hx hb dX5_counted_68 rfl hl (by decide) rfl (fun ls hl => ?_)
    refine lv_aload_n hx hb dX5_counted_69 rfl (lv_at hl 0 rfl) ?_
    refine va_alen (v := nI 81) hx hb hK.1 hP 2 0 rfl rfl rfl dX5_counted_70 ?_
    refine lv_istore (lv' := [(4, .int (nI 81)), (3, .ref (ad 1)), (2, .int (nI 0)), (0, .ref o), (1, .int (nI 4))]) hx hb dX5_counted_71 hl (by decide) rfl (fun ls hl => ?_)
    refine lv_iconst (v := nI 0) hx hb dX5_counted_73 (by decide +kernel) ?_
    refine lv_istore (lv' := [(5, .int (nI 0)), (4, .int (nI 81)), (3, .ref (ad 1)), (2, .int (nI 0)), (0, .ref o), (1, .int (nI 4))]) hx hb dX5_counted_74 hl (by decide) rfl (fun ls hl => ?_)
    have L76 : ∀ (fuel : Nat) (x : Int32) (z : Nat) (hz : z ≤ 81) (hx_ : x = sumI co z) (hfuel : 81 - z < fuel) (H : Heap) (locs : List Loc), va_P E.1 vwCl (wMo E o ad th gr co sd tk wm st (nI mo) nx lb fr) H → va_D A (wMo E o ad th gr co sd tk wm st (nI mo) nx lb fr) → va_S A s.heap H locs → ∀ ls : Array Slot, lv_has ls 7 [(5, .int (nI z)), (4, .int (nI 81)), (3, .ref (ad 1)), (2, .int x), (0, .ref o), (1, .int (nI 4))] → W p l e rm_X5_counted s m args below meth cd H locs 0 0 Q (F0 m 76 ls []) := by
      intro fuel
      induction fuel with
      | zero => intros; omega
      | succ fuel ihL76 =>
        intro x z hz hx_ hfuel H locs hP hD hS ls hl
        refine lv_iload hx hb dX5_counted_76 (lv_at hl 0 rfl) ?_
        refine lv_iload hx hb dX5_counted_78 (lv_at hl 1 rfl) ?_
        refine n_icmp_ge (x := z) (y := 81) (by omega) (by omega) (tgt := 100) hx hb dX5_counted_80 (by decide) (fun c80 => ?_) (fun c80 => ?_)
        · refine lv_iload_n hx hb dX5_counted_100 rfl (lv_at hl 3 rfl) ?_
          exact e_iret lb hQ hx hb hr hlocks hP hD hS dX5_counted_101 (rvi (by rw [hx_, show z = 81 by omega]; rfl)) (Nat.le_of_ble_eq_true rfl) (Nat.le_of_ble_eq_true rfl) (trivial)
        · refine lv_aload_n hx hb dX5_counted_83 rfl (lv_at hl 2 rfl) ?_
          refine lv_iload hx hb dX5_counted_84 (lv_at hl 0 rfl) ?_
          refine e_iald hK hP 2 rfl z (by omega) (by decide) hx hb dX5_counted_86 ?_
          refine lv_istore (lv' := [(6, .int (co z)), (5, .int (nI z)), (4, .int (nI 81)), (3, .ref (ad 1)), (2, .int x), (0, .ref o), (1, .int (nI 4))]) hx hb dX5_counted_87 hl (by decide) rfl (fun ls hl => ?_)
          refine lv_iload_n hx hb dX5_counted_89 rfl (lv_at hl 4 rfl) ?_
          refine lv_iload hx hb dX5_counted_90 (lv_at hl 0 rfl) ?_
          refine lv_iadd hx hb dX5_counted_92 ?_
          refine lv_istore_n (lv' := [(2, .int (x + (co z))), (6, .int (co z)), (5, .int (nI z)), (4, .int (nI 81)), (3, .ref (ad 1)), (0, .ref o), (1, .int (nI 4))]) hx hb dX5_counted_93 rfl hl (by decide) rfl (fun ls hl => ?_)
          refine lv_iinc (v := nI (z + 1)) (lv' := [(5, .int (nI (z + 1))), (2, .int (x + (co z))), (6, .int (co z)), (4, .int (nI 81)), (3, .ref (ad 1)), (0, .ref o), (1, .int (nI 4))]) hx hb dX5_counted_94 hl (k := 2) rfl (nI_add z 1) (by decide) rfl (fun ls hl => ?_)
          refine lv_goto (tgt := 76) hx hb dX5_counted_97 (by decide) ?_
          exact ihL76 (x + (co z)) (z + 1) (by first | omega | assumption | rfl | (simp_all; done)) (by rw [hx_]; rfl) (by omega) _ _ hP hD hS _ (lv_sub hl [0, 3, 4, 1, 5, 6] rfl)
    exact L76 (81 - 0 + 1) (nI 0) 0 (by first | omega | assumption | rfl | (simp_all; done)) (rfl) (Nat.lt_succ_self _) _ _ hP hD hS _ (lv_sub hl [0, 1, 2, 3, 4, 5] rfl)
  · refine lv_tableIn (off := 99) (tgt := 102) hx hb dX5_counted_3 (by decide +kernel) (by decide +kernel) (by decide +kernel) (by decide) ?_
    refine lv_aload_n hx hb dX5_counted_102 rfl (lv_at hl 1 rfl) ?_
    refine va_get (D := E.1) (ci := 5) (v := .ref (ad 2)) (C := RX5) (T := TX5) (N := 11) hx hb hts hin5 hown hK.1 hP 0 rfl rfl 3 (by decide) lk16 (fun _ h9 => h9) rfl dX5_counted_103 ?_
    refine lv_astore_n (lv' := [(3, .ref (ad 2)), (2, .int (nI 0)), (0, .ref o), (1, .int (nI 5))]) hx hb dX5_counted_106 rfl hl (by decide) rfl (fun ls hl => ?_)
    refine lv_aload_n hx hb dX5_counted_107 rfl (lv_at hl 0 rfl) ?_
    refine va_alen (v := nI 81) hx hb hK.1 hP 3 0 rfl rfl rfl dX5_counted_108 ?_
    refine lv_istore (lv' := [(4, .int (nI 81)), (3, .ref (ad 2)), (2, .int (nI 0)), (0, .ref o), (1, .int (nI 5))]) hx hb dX5_counted_109 hl (by decide) rfl (fun ls hl => ?_)
    refine lv_iconst (v := nI 0) hx hb dX5_counted_111 (by decide +kernel) ?_
    refine lv_istore (lv' := [(5, .int (nI 0)), (4, .int (nI 81)), (3, .ref (ad 2)), (2, .int (nI 0)), (0, .ref o), (1, .int (nI 5))]) hx hb dX5_counted_112 hl (by decide) rfl (fun ls hl => ?_)
    have L114 : ∀ (fuel : Nat) (x : Nat) (z : Nat) (hz : z ≤ 81) (hx_ : x = fb_ct (fun k => !decide (sd k = (-1))) z) (hfuel : 81 - z < fuel) (H : Heap) (locs : List Loc), va_P E.1 vwCl (wMo E o ad th gr co sd tk wm st (nI mo) nx lb fr) H → va_D A (wMo E o ad th gr co sd tk wm st (nI mo) nx lb fr) → va_S A s.heap H locs → ∀ ls : Array Slot, lv_has ls 7 [(5, .int (nI z)), (4, .int (nI 81)), (3, .ref (ad 2)), (2, .int (nI x)), (0, .ref o), (1, .int (nI 5))] → W p l e rm_X5_counted s m args below meth cd H locs 0 0 Q (F0 m 114 ls []) := by
      intro fuel
      induction fuel with
      | zero => intros; omega
      | succ fuel ihL114 =>
        intro x z hz hx_ hfuel H locs hP hD hS ls hl
        have hxz := fb_ct_le (fun k => !decide (sd k = (-1))) z
        refine lv_iload hx hb dX5_counted_114 (lv_at hl 0 rfl) ?_
        refine lv_iload hx hb dX5_counted_116 (lv_at hl 1 rfl) ?_
        refine n_icmp_ge (x := z) (y := 81) (by omega) (by omega) (tgt := 147) hx hb dX5_counted_118 (by decide) (fun c118 => ?_) (fun c118 => ?_)
        · refine lv_iload_n hx hb dX5_counted_147 rfl (lv_at hl 3 rfl) ?_
          exact e_iret lb hQ hx hb hr hlocks hP hD hS dX5_counted_148 (rvi (by rw [hx_, show z = 81 by omega]; rfl)) (Nat.le_of_ble_eq_true rfl) (Nat.le_of_ble_eq_true rfl) (trivial)
        · refine lv_aload_n hx hb dX5_counted_121 rfl (lv_at hl 2 rfl) ?_
          refine lv_iload hx hb dX5_counted_122 (lv_at hl 0 rfl) ?_
          refine e_iald hK hP 3 rfl z (by omega) (by decide) hx hb dX5_counted_124 ?_
          refine lv_istore (lv' := [(6, .int (sd z)), (5, .int (nI z)), (4, .int (nI 81)), (3, .ref (ad 2)), (2, .int (nI x)), (0, .ref o), (1, .int (nI 5))]) hx hb dX5_counted_125 hl (by decide) rfl (fun ls hl => ?_)
          refine lv_iload_n hx hb dX5_counted_127 rfl (lv_at hl 4 rfl) ?_
          refine lv_iload hx hb dX5_counted_128 (lv_at hl 0 rfl) ?_
          refine lv_iconst (v := (-1)) hx hb dX5_counted_130 (by decide +kernel) ?_
          refine lv_icmp_ne (tgt := 138) hx hb dX5_counted_131 (by decide) (fun c131 => ?_) (fun c131 => ?_)
          · refine lv_iconst (v := nI 1) hx hb dX5_counted_138 (by decide +kernel) ?_
            refine lv_iadd hx hb dX5_counted_139 ?_
            refine e_top (nI_add _ _) ?_
            refine lv_istore_n (lv' := [(2, .int (nI (x + 1))), (6, .int (sd z)), (5, .int (nI z)), (4, .int (nI 81)), (3, .ref (ad 2)), (0, .ref o), (1, .int (nI 5))]) hx hb dX5_counted_140 rfl hl (by decide) rfl (fun ls hl => ?_)
            refine lv_iinc (v := nI (z + 1)) (lv' := [(5, .int (nI (z + 1))), (2, .int (nI (x + 1))), (6, .int (sd z)), (4, .int (nI 81)), (3, .ref (ad 2)), (0, .ref o), (1, .int (nI 5))]) hx hb dX5_counted_141 hl (k := 2) rfl (nI_add z 1) (by decide) rfl (fun ls hl => ?_)
            refine lv_goto (tgt := 114) hx hb dX5_counted_144 (by decide) ?_
            exact ihL114 (x + 1) (z + 1) (by first | omega | assumption | rfl | (simp_all; done)) (by first | (rw [fb_t (f := fun k => !decide (sd k = (-1))) (nd_t c131)]; omega) | (rw [fb_f (f := fun k => !decide (sd k = (-1))) (nd_f c131)]; omega)) (by omega) _ _ hP hD hS _ (lv_sub hl [0, 3, 4, 1, 5, 6] rfl)
          · refine lv_iconst (v := nI 0) hx hb dX5_counted_134 (by decide +kernel) ?_
            refine lv_goto (tgt := 139) hx hb dX5_counted_135 (by decide) ?_
            refine lv_iadd hx hb dX5_counted_139 ?_
            refine e_top (nI_add _ _) ?_
            refine lv_istore_n (lv' := [(2, .int (nI (x + 0))), (6, .int (sd z)), (5, .int (nI z)), (4, .int (nI 81)), (3, .ref (ad 2)), (0, .ref o), (1, .int (nI 5))]) hx hb dX5_counted_140 rfl hl (by decide) rfl (fun ls hl => ?_)
            refine lv_iinc (v := nI (z + 1)) (lv' := [(5, .int (nI (z + 1))), (2, .int (nI (x + 0))), (6, .int (sd z)), (4, .int (nI 81)), (3, .ref (ad 2)), (0, .ref o), (1, .int (nI 5))]) hx hb dX5_counted_141 hl (k := 2) rfl (nI_add z 1) (by decide) rfl (fun ls hl => ?_)
            refine lv_goto (tgt := 114) hx hb dX5_counted_144 (by decide) ?_
            exact ihL114 (x + 0) (z + 1) (by first | omega | assumption | rfl | (simp_all; done)) (by first | (rw [fb_t (f := fun k => !decide (sd k = (-1))) (nd_t c131)]; omega) | (rw [fb_f (f := fun k => !decide (sd k = (-1))) (nd_f c131)]; omega)) (by omega) _ _ hP hD hS _ (lv_sub hl [0, 3, 4, 1, 5, 6] rfl)
    exact L114 (81 - 0 + 1) 0 0 (by first | omega | assumption | rfl | (simp_all; done)) (rfl) (Nat.lt_succ_self _) _ _ hP hD hS _ (lv_sub hl [0, 1, 2, 3, 4, 5] rfl)
  · refine lv_tableIn (off := 146) (tgt := 149) hx hb dX5_counted_3 (by decide +kernel) (by decide +kernel) (by decide +kernel) (by decide) ?_
    refine lv_iconst (v := nI 0) hx hb dX5_counted_149 (by decide +kernel) ?_
    refine lv_istore_n (lv' := [(3, .int (nI 0)), (2, .int (nI 0)), (0, .ref o), (1, .int (nI 6))]) hx hb dX5_counted_150 rfl hl (by decide) rfl (fun ls hl => ?_)
    have L151 : ∀ (fuel : Nat) (x : Nat) (z : Nat) (hz : z ≤ 81) (hx_ : x = fb_ct (fun k => !decide (sd k ≤ dep gr co k)) z) (hfuel : 81 - z < fuel) (H : Heap) (locs : List Loc), va_P E.1 vwCl (wMo E o ad th gr co sd tk wm st (nI mo) nx lb fr) H → va_D A (wMo E o ad th gr co sd tk wm st (nI mo) nx lb fr) → va_S A s.heap H locs → ∀ ls : Array Slot, lv_has ls 7 [(3, .int (nI z)), (2, .int (nI x)), (0, .ref o), (1, .int (nI 6))] → W p l e rm_X5_counted s m args below meth cd H locs 0 0 Q (F0 m 151 ls []) := by
      intro fuel
      induction fuel with
      | zero => intros; omega
      | succ fuel ihL151 =>
        intro x z hz hx_ hfuel H locs hP hD hS ls hl
        have hxz := fb_ct_le (fun k => !decide (sd k ≤ dep gr co k)) z
        refine lv_iload_n hx hb dX5_counted_151 rfl (lv_at hl 0 rfl) ?_
        refine lv_bipush (v := nI 81) hx hb dX5_counted_152 (by decide +kernel) ?_
        refine n_icmp_ge (x := z) (y := 81) (by omega) (by omega) (tgt := 185) hx hb dX5_counted_154 (by decide) (fun c154 => ?_) (fun c154 => ?_)
        · refine lv_iload_n hx hb dX5_counted_185 rfl (lv_at hl 1 rfl) ?_
          exact e_iret lb hQ hx hb hr hlocks hP hD hS dX5_counted_186 (rvi (by rw [hx_, show z = 81 by omega]; rfl)) (Nat.le_of_ble_eq_true rfl) (Nat.le_of_ble_eq_true rfl) (trivial)
        · refine lv_iload_n hx hb dX5_counted_157 rfl (lv_at hl 1 rfl) ?_
          refine lv_aload_n hx hb dX5_counted_158 rfl (lv_at hl 2 rfl) ?_
          refine va_get (D := E.1) (ci := 5) (v := .ref (ad 2)) (C := RX5) (T := TX5) (N := 11) hx hb hts hin5 hown hK.1 hP 0 rfl rfl 3 (by decide) lk16 (fun _ h9 => h9) rfl dX5_counted_159 ?_
          refine lv_iload_n hx hb dX5_counted_162 rfl (lv_at hl 0 rfl) ?_
          refine e_iald hK hP 3 rfl z (by omega) (by decide) hx hb dX5_counted_163 ?_
          refine lv_aload_n hx hb dX5_counted_164 rfl (lv_at hl 2 rfl) ?_
          refine lv_iload_n hx hb dX5_counted_165 rfl (lv_at hl 0 rfl) ?_
          refine e_callV (As := [.int (nI z)]) (rest := [.int (sd z), .int (nI x)]) ⟨hx, hb, hml, hown, hts⟩ hK hP hD hS hA hl.1 (c_X5_depth l E _ o ad th gr co sd tk wm st mo nx lb fr z (by first | omega | assumption | rfl | (simp_all; done))) (cwV 1 hts gX5_counted_X5_depth rfl rfl rfl (by decide +kernel) ⟨Nat.le_of_ble_eq_true rfl, Nat.le_of_ble_eq_true rfl⟩) [0, 1, 2, 3, 4, 5, 6, 7, 8, 9] [] rfl rfl rfl rfl (by decide) (q0 := 0) (ci := 5) rfl rfl rfl rfl (Nat.le_of_ble_eq_true rfl) dX5_counted_166 ⟨Nat.le_of_ble_eq_true rfl, Nat.le_of_ble_eq_true rfl⟩ (fun u_9 H locs hu_10 hsz1 hP hD hS => ?_)
          have hP : va_P E.1 vwCl (wMo E o ad th gr co sd tk wm st (nI mo) nx lb fr) H := hP.sub [0, 1, 2, 3, 4, 5, 6, 7, 8, 9] rfl
          have hD : va_D A (wMo E o ad th gr co sd tk wm st (nI mo) nx lb fr) := hD.sub [0, 1, 2, 3, 4, 5, 6, 7, 8, 9] (by decide) rfl
          refine W.eq (g2 := F0 m 169 ls [.int (dep gr co z), .int (sd z), .int (nI x)]) rfl ?_
          refine lv_icmp_le (tgt := 176) hx hb dX5_counted_169 (by decide) (fun c169 => ?_) (fun c169 => ?_)
          · refine lv_iconst (v := nI 0) hx hb dX5_counted_176 (by decide +kernel) ?_
            refine lv_iadd hx hb dX5_counted_177 ?_
            refine e_top (nI_add _ _) ?_
            refine lv_istore_n (lv' := [(2, .int (nI (x + 0))), (3, .int (nI z)), (0, .ref o), (1, .int (nI 6))]) hx hb dX5_counted_178 rfl hl (by decide) rfl (fun ls hl => ?_)
            refine lv_iinc (v := nI (z + 1)) (lv' := [(3, .int (nI (z + 1))), (2, .int (nI (x + 0))), (0, .ref o), (1, .int (nI 6))]) hx hb dX5_counted_179 hl (k := 1) rfl (nI_add z 1) (by decide) rfl (fun ls hl => ?_)
            refine lv_goto (tgt := 151) hx hb dX5_counted_182 (by decide) ?_
            exact ihL151 (x + 0) (z + 1) (by first | omega | assumption | rfl | (simp_all; done)) (by first | (rw [fb_t (f := fun k => !decide (sd k ≤ dep gr co k)) (nd_t c169)]; omega) | (rw [fb_f (f := fun k => !decide (sd k ≤ dep gr co k)) (nd_f c169)]; omega)) (by omega) _ _ hP hD hS _ (lv_sub hl [0, 1, 2, 3] rfl)
          · refine lv_iconst (v := nI 1) hx hb dX5_counted_172 (by decide +kernel) ?_
            refine lv_goto (tgt := 177) hx hb dX5_counted_173 (by decide) ?_
            refine lv_iadd hx hb dX5_counted_177 ?_
            refine e_top (nI_add _ _) ?_
            refine lv_istore_n (lv' := [(2, .int (nI (x + 1))), (3, .int (nI z)), (0, .ref o), (1, .int (nI 6))]) hx hb dX5_counted_178 rfl hl (by decide) rfl (fun ls hl => ?_)
            refine lv_iinc (v := nI (z + 1)) (lv' := [(3, .int (nI (z + 1))), (2, .int (nI (x + 1))), (0, .ref o), (1, .int (nI 6))]) hx hb dX5_counted_179 hl (k := 1) rfl (nI_add z 1) (by decide) rfl (fun ls hl => ?_)
            refine lv_goto (tgt := 151) hx hb dX5_counted_182 (by decide) ?_
            exact ihL151 (x + 1) (z + 1) (by first | omega | assumption | rfl | (simp_all; done)) (by first | (rw [fb_t (f := fun k => !decide (sd k ≤ dep gr co k)) (nd_t c169)]; omega) | (rw [fb_f (f := fun k => !decide (sd k ≤ dep gr co k)) (nd_f c169)]; omega)) (by omega) _ _ hP hD hS _ (lv_sub hl [0, 1, 2, 3] rfl)
    exact L151 (81 - 0 + 1) 0 0 (by first | omega | assumption | rfl | (simp_all; done)) (rfl) (Nat.lt_succ_self _) _ _ hP hD hS _ (lv_sub hl [0, 1, 2, 3] rfl)
  · refine lv_tableOut (tgt := 187) hx hb dX5_counted_3 (Or.inr (by decide +kernel)) (by decide) ?_
    refine lv_iconst (v := nI 0) hx hb dX5_counted_187 (by decide +kernel) ?_
    refine lv_istore_n (lv' := [(3, .int (nI 0)), (2, .int (nI 0)), (0, .ref o), (1, .int (nI 7))]) hx hb dX5_counted_188 rfl hl (by decide) rfl (fun ls hl => ?_)
    have L189 : ∀ (fuel : Nat) (x : Nat) (z : Nat) (hz : z ≤ 81) (hx_ : x = fb_ct (fun k => decide (dep gr co k = 0)) z) (hfuel : 81 - z < fuel) (H : Heap) (locs : List Loc), va_P E.1 vwCl (wMo E o ad th gr co sd tk wm st (nI mo) nx lb fr) H → va_D A (wMo E o ad th gr co sd tk wm st (nI mo) nx lb fr) → va_S A s.heap H locs → ∀ ls : Array Slot, lv_has ls 7 [(3, .int (nI z)), (2, .int (nI x)), (0, .ref o), (1, .int (nI 7))] → W p l e rm_X5_counted s m args below meth cd H locs 0 0 Q (F0 m 189 ls []) := by
      intro fuel
      induction fuel with
      | zero => intros; omega
      | succ fuel ihL189 =>
        intro x z hz hx_ hfuel H locs hP hD hS ls hl
        have hxz := fb_ct_le (fun k => decide (dep gr co k = 0)) z
        refine lv_iload_n hx hb dX5_counted_189 rfl (lv_at hl 0 rfl) ?_
        refine lv_bipush (v := nI 81) hx hb dX5_counted_190 (by decide +kernel) ?_
        refine n_icmp_ge (x := z) (y := 81) (by omega) (by omega) (tgt := 217) hx hb dX5_counted_192 (by decide) (fun c192 => ?_) (fun c192 => ?_)
        · refine lv_iload_n hx hb dX5_counted_217 rfl (lv_at hl 1 rfl) ?_
          exact e_iret lb hQ hx hb hr hlocks hP hD hS dX5_counted_218 (rvi (by rw [hx_, show z = 81 by omega]; rfl)) (Nat.le_of_ble_eq_true rfl) (Nat.le_of_ble_eq_true rfl) (trivial)
        · refine lv_iload_n hx hb dX5_counted_195 rfl (lv_at hl 1 rfl) ?_
          refine lv_aload_n hx hb dX5_counted_196 rfl (lv_at hl 2 rfl) ?_
          refine lv_iload_n hx hb dX5_counted_197 rfl (lv_at hl 0 rfl) ?_
          refine e_callV (As := [.int (nI z)]) (rest := [.int (nI x)]) ⟨hx, hb, hml, hown, hts⟩ hK hP hD hS hA hl.1 (c_X5_depth l E _ o ad th gr co sd tk wm st mo nx lb fr z (by first | omega | assumption | rfl | (simp_all; done))) (cwV 1 hts gX5_counted_X5_depth rfl rfl rfl (by decide +kernel) ⟨Nat.le_of_ble_eq_true rfl, Nat.le_of_ble_eq_true rfl⟩) [0, 1, 2, 3, 4, 5, 6, 7, 8, 9] [] rfl rfl rfl rfl (by decide) (q0 := 0) (ci := 5) rfl rfl rfl rfl (Nat.le_of_ble_eq_true rfl) dX5_counted_198 ⟨Nat.le_of_ble_eq_true rfl, Nat.le_of_ble_eq_true rfl⟩ (fun u_11 H locs hu_12 hsz1 hP hD hS => ?_)
          have hP : va_P E.1 vwCl (wMo E o ad th gr co sd tk wm st (nI mo) nx lb fr) H := hP.sub [0, 1, 2, 3, 4, 5, 6, 7, 8, 9] rfl
          have hD : va_D A (wMo E o ad th gr co sd tk wm st (nI mo) nx lb fr) := hD.sub [0, 1, 2, 3, 4, 5, 6, 7, 8, 9] (by decide) rfl
          refine W.eq (g2 := F0 m 201 ls [.int (dep gr co z), .int (nI x)]) rfl ?_
          refine lv_if_ne (tgt := 208) hx hb dX5_counted_201 (by decide) (fun c201 => ?_) (fun c201 => ?_)
          · refine lv_iconst (v := nI 0) hx hb dX5_counted_208 (by decide +kernel) ?_
            refine lv_iadd hx hb dX5_counted_209 ?_
            refine e_top (nI_add _ _) ?_
            refine lv_istore_n (lv' := [(2, .int (nI (x + 0))), (3, .int (nI z)), (0, .ref o), (1, .int (nI 7))]) hx hb dX5_counted_210 rfl hl (by decide) rfl (fun ls hl => ?_)
            refine lv_iinc (v := nI (z + 1)) (lv' := [(3, .int (nI (z + 1))), (2, .int (nI (x + 0))), (0, .ref o), (1, .int (nI 7))]) hx hb dX5_counted_211 hl (k := 1) rfl (nI_add z 1) (by decide) rfl (fun ls hl => ?_)
            refine lv_goto (tgt := 189) hx hb dX5_counted_214 (by decide) ?_
            exact ihL189 (x + 0) (z + 1) (by first | omega | assumption | rfl | (simp_all; done)) (by first | (rw [fb_t (f := fun k => decide (dep gr co k = 0)) (decide_eq_true c201)]; omega) | (rw [fb_f (f := fun k => decide (dep gr co k = 0)) (decide_eq_false c201)]; omega)) (by omega) _ _ hP hD hS _ (lv_sub hl [0, 1, 2, 3] rfl)
          · refine lv_iconst (v := nI 1) hx hb dX5_counted_204 (by decide +kernel) ?_
            refine lv_goto (tgt := 209) hx hb dX5_counted_205 (by decide) ?_
            refine lv_iadd hx hb dX5_counted_209 ?_
            refine e_top (nI_add _ _) ?_
            refine lv_istore_n (lv' := [(2, .int (nI (x + 1))), (3, .int (nI z)), (0, .ref o), (1, .int (nI 7))]) hx hb dX5_counted_210 rfl hl (by decide) rfl (fun ls hl => ?_)
            refine lv_iinc (v := nI (z + 1)) (lv' := [(3, .int (nI (z + 1))), (2, .int (nI (x + 1))), (0, .ref o), (1, .int (nI 7))]) hx hb dX5_counted_211 hl (k := 1) rfl (nI_add z 1) (by decide) rfl (fun ls hl => ?_)
            refine lv_goto (tgt := 189) hx hb dX5_counted_214 (by decide) ?_
            exact ihL189 (x + 1) (z + 1) (by first | omega | assumption | rfl | (simp_all; done)) (by first | (rw [fb_t (f := fun k => decide (dep gr co k = 0)) (decide_eq_true c201)]; omega) | (rw [fb_f (f := fun k => decide (dep gr co k = 0)) (decide_eq_false c201)]; omega)) (by omega) _ _ hP hD hS _ (lv_sub hl [0, 1, 2, 3] rfl)
    exact L189 (81 - 0 + 1) 0 0 (by first | omega | assumption | rfl | (simp_all; done)) (rfl) (Nat.lt_succ_self _) _ _ hP hD hS _ (lv_sub hl [0, 1, 2, 3] rfl)

abbrev rm_X5_bringBack : Room := { frames := 1, cells := 0, slots := 0, locals := 60 }
set_option maxHeartbeats 4000000 in
set_option maxRecDepth 100000 in
theorem c_X5_bringBack (l : Launch) (E : eT) (sz : Nat) (o : Nat) (ad : Nat → Nat) (th : Int32) (gr : Nat → Int32) (co : Nat → Int32) (sd : Nat → Int32) (tk : Nat → Int32) (wm : Nat → Int32) (st : Nat → Int32) (mo : Nat) (nx : Nat → Int32) (lb : Nat → Option Nat) (fr : Nat → Nat) (a1 : Nat) (f1 : Nat → Int32) (a2 : Nat) (f2 : Nat → Int32) (m0 : Nat) : cM l yX5_bringBack wsX5_bringBack rm_X5_bringBack E sz [.ref o, .ref a1, .ref a2, .int (nI m0)] (wMo E o ad th gr co sd tk wm st (nI mo) nx lb fr ++ [(a1, .inl (E.2.1, 81, .inl f1))] ++ [(a2, .inl (E.2.1, 81, .inl f2))]) (fun u : Unit => none) (fun u : Unit => True) (fun u : Unit => wMo E o ad th f1 f2 sd tk wm st (nI m0) nx lb fr ++ [(a1, .inl (E.2.1, 81, .inl f1))] ++ [(a2, .inl (E.2.1, 81, .inl f2))]) := by
  refine cM_intro (cc := cX5_bringBack) (maxL := 4) (ret := none) (by decide +kernel) rfl (Nat.le_of_ble_eq_true rfl) ?_
  intro p e s m args below meth cd hx hb hr hml hown hlocks hts hnm hK hsz hP A hD hA Q hQ ls hl
  have hown : s.vm.findClass RX5 = some m.cls := hown
  have hin5 : ∀ w ∈ u_ws RX5 TX5 11, w ∈ wsX5_bringBack := by decide +kernel
  have lk9 := hts (.fieldLink RX5 9 "ReefPilotModel" "ground" "[I") (by decide +kernel)
  have lk13 := hts (.fieldLink RX5 13 "ReefPilotModel" "coral" "[I") (by decide +kernel)
  have lk78 := hts (.fieldLink RX5 78 "ReefPilotModel" "month" "I") (by decide +kernel)
  have haac99 := hts (.methodLink RX5 99 arraycopyName) (by decide +kernel)
  have haaci := hts (.initialized "java/lang/System") (by decide +kernel)
  have haacn := hts (.native arraycopyName) (by decide +kernel)
  have haacs := hts (.static arraycopyName) (by decide +kernel)
  have hS : va_S A s.heap s.heap [] := va_S.rf
  have hl : lv_has ls 4 [(0, .ref o), (1, .ref a1), (2, .ref a2), (3, .int (nI m0))] := hl
  refine lv_aload_n hx hb dX5_bringBack_0 rfl (lv_at hl 1 rfl) ?_
  refine lv_iconst (v := nI 0) hx hb dX5_bringBack_1 (by decide +kernel) ?_
  refine lv_aload_n hx hb dX5_bringBack_2 rfl (lv_at hl 0 rfl) ?_
  refine va_get (D := E.1) (ci := 5) (v := .ref (ad 0)) (C := RX5) (T := TX5) (N := 11) hx hb hts hin5 hown hK.1 hP 0 rfl rfl 1 (by decide) lk9 (fun _ h9 => h9) rfl dX5_bringBack_3 ?_
  refine lv_iconst (v := nI 0) hx hb dX5_bringBack_6 (by decide +kernel) ?_
  refine lv_bipush (v := nI 81) hx hb dX5_bringBack_7 (by decide +kernel) ?_
  refine va_copyi hx hb (by rw [hml]; exact hl.1.symm) hown haac99 haacn haacs haaci hK.1 hP hD hS 10 1 0 0 rfl rfl rfl rfl rfl (by decide +kernel) (by decide +kernel) (by decide +kernel) (by decide +kernel) (by decide +kernel) (fun _ _ => rfl) (Nat.le_of_ble_eq_true rfl) (Nat.le_of_ble_eq_true rfl) dX5_bringBack_9 (fun H locs hP hD hS => ?_)
  rw [show (nI 0).toNatClampNeg = 0 from by decide +kernel, show (nI 81).toNatClampNeg = 81 from by decide +kernel] at hP hD
  have hP : va_P E.1 vwCl (wMo E o ad th (va_cpy f1 gr 0 0 81) co sd tk wm st (nI mo) nx lb fr ++ [(a1, .inl (E.2.1, 81, .inl f1))] ++ [(a2, .inl (E.2.1, 81, .inl f2))]) H := hP
  have hD : va_D A (wMo E o ad th (va_cpy f1 gr 0 0 81) co sd tk wm st (nI mo) nx lb fr ++ [(a1, .inl (E.2.1, 81, .inl f1))] ++ [(a2, .inl (E.2.1, 81, .inl f2))]) := hD
  refine lv_aload_n hx hb dX5_bringBack_12 rfl (lv_at hl 2 rfl) ?_
  refine lv_iconst (v := nI 0) hx hb dX5_bringBack_13 (by decide +kernel) ?_
  refine lv_aload_n hx hb dX5_bringBack_14 rfl (lv_at hl 0 rfl) ?_
  refine va_get (D := E.1) (ci := 5) (v := .ref (ad 1)) (C := RX5) (T := TX5) (N := 11) hx hb hts hin5 hown hK.1 hP 0 rfl rfl 2 (by decide) lk13 (fun _ h9 => h9) rfl dX5_bringBack_15 ?_
  refine lv_iconst (v := nI 0) hx hb dX5_bringBack_18 (by decide +kernel) ?_
  refine lv_bipush (v := nI 81) hx hb dX5_bringBack_19 (by decide +kernel) ?_
  refine va_copyi hx hb (by rw [hml]; exact hl.1.symm) hown haac99 haacn haacs haaci hK.1 hP hD hS 11 2 0 0 rfl rfl rfl rfl rfl (by decide +kernel) (by decide +kernel) (by decide +kernel) (by decide +kernel) (by decide +kernel) (fun _ _ => rfl) (Nat.le_of_ble_eq_true rfl) (Nat.le_of_ble_eq_true rfl) dX5_bringBack_21 (fun H locs hP hD hS => ?_)
  rw [show (nI 0).toNatClampNeg = 0 from by decide +kernel, show (nI 81).toNatClampNeg = 81 from by decide +kernel] at hP hD
  have hP : va_P E.1 vwCl (wMo E o ad th (va_cpy f1 gr 0 0 81) (va_cpy f2 co 0 0 81) sd tk wm st (nI mo) nx lb fr ++ [(a1, .inl (E.2.1, 81, .inl f1))] ++ [(a2, .inl (E.2.1, 81, .inl f2))]) H := hP
  have hD : va_D A (wMo E o ad th (va_cpy f1 gr 0 0 81) (va_cpy f2 co 0 0 81) sd tk wm st (nI mo) nx lb fr ++ [(a1, .inl (E.2.1, 81, .inl f1))] ++ [(a2, .inl (E.2.1, 81, .inl f2))]) := hD
  have hP := e_cong hP 1 (g := f1) rfl (fun k h => by rw [pk_cpy_in (by omega) (by omega)]; congr 1; omega)
  have hD := va_D.set (e := .inl (E.2.1, 81, .inl (f1))) hD (p := 1) rfl
  have hP : va_P E.1 vwCl (wMo E o ad th f1 (va_cpy f2 co 0 0 81) sd tk wm st (nI mo) nx lb fr ++ [(a1, .inl (E.2.1, 81, .inl f1))] ++ [(a2, .inl (E.2.1, 81, .inl f2))]) H := hP
  have hD : va_D A (wMo E o ad th f1 (va_cpy f2 co 0 0 81) sd tk wm st (nI mo) nx lb fr ++ [(a1, .inl (E.2.1, 81, .inl f1))] ++ [(a2, .inl (E.2.1, 81, .inl f2))]) := hD
  have hP := e_cong hP 2 (g := f2) rfl (fun k h => by rw [pk_cpy_in (by omega) (by omega)]; congr 1; omega)
  have hD := va_D.set (e := .inl (E.2.1, 81, .inl (f2))) hD (p := 2) rfl
  have hP : va_P E.1 vwCl (wMo E o ad th f1 f2 sd tk wm st (nI mo) nx lb fr ++ [(a1, .inl (E.2.1, 81, .inl f1))] ++ [(a2, .inl (E.2.1, 81, .inl f2))]) H := hP
  have hD : va_D A (wMo E o ad th f1 f2 sd tk wm st (nI mo) nx lb fr ++ [(a1, .inl (E.2.1, 81, .inl f1))] ++ [(a2, .inl (E.2.1, 81, .inl f2))]) := hD
  refine lv_aload_n hx hb dX5_bringBack_24 rfl (lv_at hl 0 rfl) ?_
  refine lv_iload_n hx hb dX5_bringBack_25 rfl (lv_at hl 3 rfl) ?_
  refine va_put (D := E.1) (ci := 5) (v := .int (nI m0)) (ty := .int) (C := RX5) (T := TX5) (N := 11) hx hb hts hin5 tyX5 tyX5_ok nmX5 hown hK.1 hP hD hS 0 rfl rfl 7 (by decide) lk78 (fun _ h9 => h9) rfl (by decide +kernel) rfl rfl (Nat.le_of_ble_eq_true rfl) dX5_bringBack_26 (fun H locs hP hD hS => ?_)
  have hP : va_P E.1 vwCl (wMo E o ad th f1 f2 sd tk wm st (nI m0) nx lb fr ++ [(a1, .inl (E.2.1, 81, .inl f1))] ++ [(a2, .inl (E.2.1, 81, .inl f2))]) H := hP
  have hD : va_D A (wMo E o ad th f1 f2 sd tk wm st (nI m0) nx lb fr ++ [(a1, .inl (E.2.1, 81, .inl f1))] ++ [(a2, .inl (E.2.1, 81, .inl f2))]) := hD
  exact e_vret () hQ hx hb hr hlocks hP hD hS dX5_bringBack_29 (rfl) (Nat.le_of_ble_eq_true rfl) (Nat.le_of_ble_eq_true rfl) (trivial)

abbrev rm_X5_setGround : Room := { frames := 2, cells := 0, slots := 0, locals := 43 }
set_option maxHeartbeats 4000000 in
set_option maxRecDepth 100000 in
theorem c_X5_setGround (l : Launch) (E : eT) (sz : Nat) (o : Nat) (ad : Nat → Nat) (th : Int32) (gr : Nat → Int32) (co : Nat → Int32) (sd : Nat → Int32) (tk : Nat → Int32) (wm : Nat → Int32) (st : Nat → Int32) (mo : Nat) (nx : Nat → Int32) (lb : Nat → Option Nat) (fr : Nat → Nat) (X : Nat) (Y : Nat) (v : Int32) (hX : X < 9) (hY : Y < 9) (hv : isInB v (nI 0) (nI 40) = true) : cM l yX5_setGround wsX5_setGround rm_X5_setGround E sz [.ref o, .int (nI X), .int (nI Y), .int v] (wMo E o ad th gr co sd tk wm st (nI mo) nx lb fr) (fun u : Unit => some (.int (gr ((9 * Y) + X)))) (fun u : Unit => True) (fun u : Unit => wMo E o ad (nI 0) (upd gr ((9 * Y) + X) v) (upd co ((9 * Y) + X) (iMin (co ((9 * Y) + X)) v)) sd tk wm st (nI mo) nx lb fr) := by
  refine cM_intro (cc := cX5_setGround) (maxL := 6) (ret := (some .int)) (by decide +kernel) rfl (Nat.le_of_ble_eq_true rfl) ?_
  intro p e s m args below meth cd hx hb hr hml hown hlocks hts hnm hK hsz hP A hD hA Q hQ ls hl
  have hown : s.vm.findClass RX5 = some m.cls := hown
  have hin5 : ∀ w ∈ u_ws RX5 TX5 11, w ∈ wsX5_setGround := by decide +kernel
  have lk9 := hts (.fieldLink RX5 9 "ReefPilotModel" "ground" "[I") (by decide +kernel)
  have lk13 := hts (.fieldLink RX5 13 "ReefPilotModel" "coral" "[I") (by decide +kernel)
  have lk37 := hts (.fieldLink RX5 37 "ReefPilotModel" "thrown" "I") (by decide +kernel)
  have hamcmin := hts (.code Lib.Math.min.name Lib.Math.min.code 2 (some .int)) (by decide +kernel)
  have hamini := hts (.initialized "java/lang/Math") (by decide +kernel)
  have haml66 := hts (.methodLink RX5 66 Lib.Math.min.name) (by decide +kernel)
  have hamsmin := hts (.static Lib.Math.min.name) (by decide +kernel)
  have hS : va_S A s.heap s.heap [] := va_S.rf
  have hl : lv_has ls 6 [(0, .ref o), (1, .int (nI X)), (2, .int (nI Y)), (3, .int v)] := hl
  refine lv_aload_n hx hb dX5_setGround_0 rfl (lv_at hl 0 rfl) ?_
  refine lv_iconst (v := nI 0) hx hb dX5_setGround_1 (by decide +kernel) ?_
  refine va_put (D := E.1) (ci := 5) (v := .int (nI 0)) (ty := .int) (C := RX5) (T := TX5) (N := 11) hx hb hts hin5 tyX5 tyX5_ok nmX5 hown hK.1 hP hD hS 0 rfl rfl 0 (by decide) lk37 (fun _ h9 => h9) rfl (by decide +kernel) rfl rfl (Nat.le_of_ble_eq_true rfl) dX5_setGround_2 (fun H locs hP hD hS => ?_)
  have hP : va_P E.1 vwCl (wMo E o ad (nI 0) gr co sd tk wm st (nI mo) nx lb fr) H := hP
  have hD : va_D A (wMo E o ad (nI 0) gr co sd tk wm st (nI mo) nx lb fr) := hD
  refine lv_iload_n hx hb dX5_setGround_5 rfl (lv_at hl 1 rfl) ?_
  refine lv_iload_n hx hb dX5_setGround_6 rfl (lv_at hl 2 rfl) ?_
  refine e_callS (As := [.int (nI X), .int (nI Y)]) (rest := []) ⟨hx, hb, hml, hown, hts⟩ hK hP hD hS hA hl.1 (c_X5_isCell l E _ (nI X) (nI Y)) (va_cwS 2 hts gX5_setGround_X5_isCell rfl rfl rfl (by decide +kernel) ⟨Nat.le_of_ble_eq_true rfl, Nat.le_of_ble_eq_true rfl⟩) [] [0, 1, 2, 3, 4, 5, 6, 7, 8, 9] rfl rfl rfl rfl (by decide) rfl rfl (Nat.le_of_ble_eq_true rfl) dX5_setGround_7 ⟨Nat.le_of_ble_eq_true rfl, Nat.le_of_ble_eq_true rfl⟩ (fun u_1 H locs hu_2 hsz1 hP hD hS => ?_)
  have hP : va_P E.1 vwCl (wMo E o ad (nI 0) gr co sd tk wm st (nI mo) nx lb fr) H := hP.sub [0, 1, 2, 3, 4, 5, 6, 7, 8, 9] rfl
  have hD : va_D A (wMo E o ad (nI 0) gr co sd tk wm st (nI mo) nx lb fr) := hD.sub [0, 1, 2, 3, 4, 5, 6, 7, 8, 9] (by decide) rfl
  refine W.eq (g2 := F0 m 10 ls [.int (b2i (isCellB (nI X) (nI Y)))]) rfl ?_
  refine b_if_ne (x := isCellB (nI X) (nI Y)) (tgt := 19) hx hb dX5_setGround_10 (by decide) (fun c10 => ?_) (fun c10 => by rw [isCellB_n hX hY] at c10; cases c10)
  refine lv_iload_n hx hb dX5_setGround_19 rfl (lv_at hl 3 rfl) ?_
  refine lv_iconst (v := nI 0) hx hb dX5_setGround_20 (by decide +kernel) ?_
  refine lv_bipush (v := nI 40) hx hb dX5_setGround_21 (by decide +kernel) ?_
  refine e_callS (As := [.int v, .int (nI 0), .int (nI 40)]) (rest := []) ⟨hx, hb, hml, hown, hts⟩ hK hP hD hS hA hl.1 (c_X5_isIn l E _ v (nI 0) (nI 40)) (va_cwS 3 hts gX5_setGround_X5_isIn rfl rfl rfl (by decide +kernel) ⟨Nat.le_of_ble_eq_true rfl, Nat.le_of_ble_eq_true rfl⟩) [] [0, 1, 2, 3, 4, 5, 6, 7, 8, 9] rfl rfl rfl rfl (by decide) rfl rfl (Nat.le_of_ble_eq_true rfl) dX5_setGround_23 ⟨Nat.le_of_ble_eq_true rfl, Nat.le_of_ble_eq_true rfl⟩ (fun u_3 H locs hu_4 hsz1 hP hD hS => ?_)
  have hP : va_P E.1 vwCl (wMo E o ad (nI 0) gr co sd tk wm st (nI mo) nx lb fr) H := hP.sub [0, 1, 2, 3, 4, 5, 6, 7, 8, 9] rfl
  have hD : va_D A (wMo E o ad (nI 0) gr co sd tk wm st (nI mo) nx lb fr) := hD.sub [0, 1, 2, 3, 4, 5, 6, 7, 8, 9] (by decide) rfl
  refine W.eq (g2 := F0 m 26 ls [.int (b2i (isInB v (nI 0) (nI 40)))]) rfl ?_
  refine b_if_ne (x := isInB v (nI 0) (nI 40)) (tgt := 35) hx hb dX5_setGround_26 (by decide) (fun c26 => ?_) (fun c26 => by rw [hv] at c26; cases c26)
  refine lv_bipush (v := nI 9) hx hb dX5_setGround_35 (by decide +kernel) ?_
  refine lv_iload_n hx hb dX5_setGround_37 rfl (lv_at hl 2 rfl) ?_
  refine lv_imul hx hb dX5_setGround_38 ?_
  refine e_top (pk_mul _ _) ?_
  refine lv_iload_n hx hb dX5_setGround_39 rfl (lv_at hl 1 rfl) ?_
  refine lv_iadd hx hb dX5_setGround_40 ?_
  refine e_top (nI_add _ _) ?_
  refine lv_istore (lv' := [(4, .int (nI ((9 * Y) + X))), (0, .ref o), (1, .int (nI X)), (2, .int (nI Y)), (3, .int v)]) hx hb dX5_setGround_41 hl (by decide) rfl (fun ls hl => ?_)
  refine lv_aload_n hx hb dX5_setGround_43 rfl (lv_at hl 1 rfl) ?_
  refine va_get (D := E.1) (ci := 5) (v := .ref (ad 0)) (C := RX5) (T := TX5) (N := 11) hx hb hts hin5 hown hK.1 hP 0 rfl rfl 1 (by decide) lk9 (fun _ h9 => h9) rfl dX5_setGround_44 ?_
  refine lv_iload hx hb dX5_setGround_47 (lv_at hl 0 rfl) ?_
  refine e_iald hK hP 1 rfl ((9 * Y) + X) (by omega) (by decide) hx hb dX5_setGround_49 ?_
  refine lv_istore (lv' := [(5, .int (gr ((9 * Y) + X))), (4, .int (nI ((9 * Y) + X))), (0, .ref o), (1, .int (nI X)), (2, .int (nI Y)), (3, .int v)]) hx hb dX5_setGround_50 hl (by decide) rfl (fun ls hl => ?_)
  refine lv_aload_n hx hb dX5_setGround_52 rfl (lv_at hl 2 rfl) ?_
  refine va_get (D := E.1) (ci := 5) (v := .ref (ad 0)) (C := RX5) (T := TX5) (N := 11) hx hb hts hin5 hown hK.1 hP 0 rfl rfl 1 (by decide) lk9 (fun _ h9 => h9) rfl dX5_setGround_53 ?_
  refine lv_iload hx hb dX5_setGround_56 (lv_at hl 1 rfl) ?_
  refine lv_iload_n hx hb dX5_setGround_58 rfl (lv_at hl 5 rfl) ?_
  refine e_iast hK hP hD hS 1 rfl ((9 * Y) + X) (by omega) (by decide) hx hb dX5_setGround_59 (fun H locs hP hD hS => ?_)
  have hP : va_P E.1 vwCl (wMo E o ad (nI 0) (upd gr ((9 * Y) + X) v) co sd tk wm st (nI mo) nx lb fr) H := hP
  have hD : va_D A (wMo E o ad (nI 0) (upd gr ((9 * Y) + X) v) co sd tk wm st (nI mo) nx lb fr) := hD
  refine lv_aload_n hx hb dX5_setGround_60 rfl (lv_at hl 2 rfl) ?_
  refine va_get (D := E.1) (ci := 5) (v := .ref (ad 1)) (C := RX5) (T := TX5) (N := 11) hx hb hts hin5 hown hK.1 hP 0 rfl rfl 2 (by decide) lk13 (fun _ h9 => h9) rfl dX5_setGround_61 ?_
  refine lv_iload hx hb dX5_setGround_64 (lv_at hl 1 rfl) ?_
  refine lv_iload_n hx hb dX5_setGround_66 rfl (lv_at hl 5 rfl) ?_
  refine lv_aload_n hx hb dX5_setGround_67 rfl (lv_at hl 2 rfl) ?_
  refine va_get (D := E.1) (ci := 5) (v := .ref (ad 1)) (C := RX5) (T := TX5) (N := 11) hx hb hts hin5 hown hK.1 hP 0 rfl rfl 2 (by decide) lk13 (fun _ h9 => h9) rfl dX5_setGround_68 ?_
  refine lv_iload hx hb dX5_setGround_71 (lv_at hl 1 rfl) ?_
  refine e_iald hK hP 2 rfl ((9 * Y) + X) (by omega) (by decide) hx hb dX5_setGround_73 ?_
  refine va_mmin hx hb (by rw [hml]; exact hl.1.symm) hown haml66 hamsmin hamini hamcmin (Nat.le_of_ble_eq_true rfl) (Nat.le_of_ble_eq_true rfl) (Nat.le_of_ble_eq_true rfl) (Nat.le_of_ble_eq_true rfl) dX5_setGround_74 ?_
  refine e_top (y := iMin v (co ((9 * Y) + X))) rfl ?_
  refine e_top (y := iMin (co ((9 * Y) + X)) v) (iMin_comm _ _) ?_
  refine e_iast hK hP hD hS 2 rfl ((9 * Y) + X) (by omega) (by decide) hx hb dX5_setGround_77 (fun H locs hP hD hS => ?_)
  have hP : va_P E.1 vwCl (wMo E o ad (nI 0) (upd gr ((9 * Y) + X) v) (upd co ((9 * Y) + X) (iMin (co ((9 * Y) + X)) v)) sd tk wm st (nI mo) nx lb fr) H := hP
  have hD : va_D A (wMo E o ad (nI 0) (upd gr ((9 * Y) + X) v) (upd co ((9 * Y) + X) (iMin (co ((9 * Y) + X)) v)) sd tk wm st (nI mo) nx lb fr) := hD
  refine lv_iload hx hb dX5_setGround_78 (lv_at hl 0 rfl) ?_
  exact e_iret () hQ hx hb hr hlocks hP hD hS dX5_setGround_80 (rfl) (Nat.le_of_ble_eq_true rfl) (Nat.le_of_ble_eq_true rfl) (trivial)

abbrev rm_X5_setGround_b1 : Room := { frames := 2, cells := 0, slots := 0, locals := 43 }
set_option maxHeartbeats 4000000 in
set_option maxRecDepth 100000 in
theorem c_X5_setGround_b1 (l : Launch) (E : eT) (sz : Nat) (o : Nat) (ad : Nat → Nat) (th : Int32) (gr : Nat → Int32) (co : Nat → Int32) (sd : Nat → Int32) (tk : Nat → Int32) (wm : Nat → Int32) (st : Nat → Int32) (mo : Nat) (nx : Nat → Int32) (lb : Nat → Option Nat) (fr : Nat → Nat) (x : Int32) (y : Int32) (v : Int32) (hc : isCellB x y = false) : cM l yX5_setGround wsX5_setGround rm_X5_setGround_b1 E sz [.ref o, .int x, .int y, .int v] (wMo E o ad th gr co sd tk wm st (nI mo) nx lb fr) (fun u : Unit => some (.int (nI 0))) (fun u : Unit => True) (fun u : Unit => wMo E o ad (nI 1) gr co sd tk wm st (nI mo) nx lb fr) := by
  refine cM_intro (cc := cX5_setGround) (maxL := 6) (ret := (some .int)) (by decide +kernel) rfl (Nat.le_of_ble_eq_true rfl) ?_
  intro p e s m args below meth cd hx hb hr hml hown hlocks hts hnm hK hsz hP A hD hA Q hQ ls hl
  have hown : s.vm.findClass RX5 = some m.cls := hown
  have hin5 : ∀ w ∈ u_ws RX5 TX5 11, w ∈ wsX5_setGround := by decide +kernel
  have lk37 := hts (.fieldLink RX5 37 "ReefPilotModel" "thrown" "I") (by decide +kernel)
  have hS : va_S A s.heap s.heap [] := va_S.rf
  have hl : lv_has ls 6 [(0, .ref o), (1, .int x), (2, .int y), (3, .int v)] := hl
  refine lv_aload_n hx hb dX5_setGround_0 rfl (lv_at hl 0 rfl) ?_
  refine lv_iconst (v := nI 0) hx hb dX5_setGround_1 (by decide +kernel) ?_
  refine va_put (D := E.1) (ci := 5) (v := .int (nI 0)) (ty := .int) (C := RX5) (T := TX5) (N := 11) hx hb hts hin5 tyX5 tyX5_ok nmX5 hown hK.1 hP hD hS 0 rfl rfl 0 (by decide) lk37 (fun _ h9 => h9) rfl (by decide +kernel) rfl rfl (Nat.le_of_ble_eq_true rfl) dX5_setGround_2 (fun H locs hP hD hS => ?_)
  have hP : va_P E.1 vwCl (wMo E o ad (nI 0) gr co sd tk wm st (nI mo) nx lb fr) H := hP
  have hD : va_D A (wMo E o ad (nI 0) gr co sd tk wm st (nI mo) nx lb fr) := hD
  refine lv_iload_n hx hb dX5_setGround_5 rfl (lv_at hl 1 rfl) ?_
  refine lv_iload_n hx hb dX5_setGround_6 rfl (lv_at hl 2 rfl) ?_
  refine e_callS (As := [.int x, .int y]) (rest := []) ⟨hx, hb, hml, hown, hts⟩ hK hP hD hS hA hl.1 (c_X5_isCell l E _ x y) (va_cwS 2 hts gX5_setGround_X5_isCell rfl rfl rfl (by decide +kernel) ⟨Nat.le_of_ble_eq_true rfl, Nat.le_of_ble_eq_true rfl⟩) [] [0, 1, 2, 3, 4, 5, 6, 7, 8, 9] rfl rfl rfl rfl (by decide) rfl rfl (Nat.le_of_ble_eq_true rfl) dX5_setGround_7 ⟨Nat.le_of_ble_eq_true rfl, Nat.le_of_ble_eq_true rfl⟩ (fun u_1 H locs hu_2 hsz1 hP hD hS => ?_)
  have hP : va_P E.1 vwCl (wMo E o ad (nI 0) gr co sd tk wm st (nI mo) nx lb fr) H := hP.sub [0, 1, 2, 3, 4, 5, 6, 7, 8, 9] rfl
  have hD : va_D A (wMo E o ad (nI 0) gr co sd tk wm st (nI mo) nx lb fr) := hD.sub [0, 1, 2, 3, 4, 5, 6, 7, 8, 9] (by decide) rfl
  refine W.eq (g2 := F0 m 10 ls [.int (b2i (isCellB x y))]) rfl ?_
  refine b_if_ne (x := isCellB x y) (tgt := 19) hx hb dX5_setGround_10 (by decide) (fun c10 => by rw [hc] at c10; cases c10) (fun c10 => ?_)
  refine lv_aload_n hx hb dX5_setGround_13 rfl (lv_at hl 0 rfl) ?_
  refine lv_iconst (v := nI 1) hx hb dX5_setGround_14 (by decide +kernel) ?_
  refine e_callV (As := [.int (nI 1)]) (rest := []) ⟨hx, hb, hml, hown, hts⟩ hK hP hD hS hA hl.1 (c_X5_fail l E _ o ad (nI 0) gr co sd tk wm st mo nx lb fr (nI 1)) (cwV 1 hts gX5_setGround_X5_fail rfl rfl rfl (by decide +kernel) ⟨Nat.le_of_ble_eq_true rfl, Nat.le_of_ble_eq_true rfl⟩) [0, 1, 2, 3, 4, 5, 6, 7, 8, 9] [] rfl rfl rfl rfl (by decide) (q0 := 0) (ci := 5) rfl rfl rfl rfl (Nat.le_of_ble_eq_true rfl) dX5_setGround_15 ⟨Nat.le_of_ble_eq_true rfl, Nat.le_of_ble_eq_true rfl⟩ (fun u_3 H locs hu_4 hsz1 hP hD hS => ?_)
  have hP : va_P E.1 vwCl (wMo E o ad (nI 1) gr co sd tk wm st (nI mo) nx lb fr) H := hP.sub [0, 1, 2, 3, 4, 5, 6, 7, 8, 9] rfl
  have hD : va_D A (wMo E o ad (nI 1) gr co sd tk wm st (nI mo) nx lb fr) := hD.sub [0, 1, 2, 3, 4, 5, 6, 7, 8, 9] (by decide) rfl
  refine W.eq (g2 := F0 m 18 ls [.int (nI 0)]) rfl ?_
  exact e_iret () hQ hx hb hr hlocks hP hD hS dX5_setGround_18 (rfl) (Nat.le_of_ble_eq_true rfl) (Nat.le_of_ble_eq_true rfl) (trivial)

abbrev rm_X5_setGround_b2 : Room := { frames := 2, cells := 0, slots := 0, locals := 43 }
set_option maxHeartbeats 4000000 in
set_option maxRecDepth 100000 in
theorem c_X5_setGround_b2 (l : Launch) (E : eT) (sz : Nat) (o : Nat) (ad : Nat → Nat) (th : Int32) (gr : Nat → Int32) (co : Nat → Int32) (sd : Nat → Int32) (tk : Nat → Int32) (wm : Nat → Int32) (st : Nat → Int32) (mo : Nat) (nx : Nat → Int32) (lb : Nat → Option Nat) (fr : Nat → Nat) (X : Nat) (Y : Nat) (v : Int32) (hX : X < 9) (hY : Y < 9) (hv : isInB v (nI 0) (nI 40) = false) : cM l yX5_setGround wsX5_setGround rm_X5_setGround_b2 E sz [.ref o, .int (nI X), .int (nI Y), .int v] (wMo E o ad th gr co sd tk wm st (nI mo) nx lb fr) (fun u : Unit => some (.int (nI 0))) (fun u : Unit => True) (fun u : Unit => wMo E o ad (nI 2) gr co sd tk wm st (nI mo) nx lb fr) := by
  refine cM_intro (cc := cX5_setGround) (maxL := 6) (ret := (some .int)) (by decide +kernel) rfl (Nat.le_of_ble_eq_true rfl) ?_
  intro p e s m args below meth cd hx hb hr hml hown hlocks hts hnm hK hsz hP A hD hA Q hQ ls hl
  have hown : s.vm.findClass RX5 = some m.cls := hown
  have hin5 : ∀ w ∈ u_ws RX5 TX5 11, w ∈ wsX5_setGround := by decide +kernel
  have lk37 := hts (.fieldLink RX5 37 "ReefPilotModel" "thrown" "I") (by decide +kernel)
  have hS : va_S A s.heap s.heap [] := va_S.rf
  have hl : lv_has ls 6 [(0, .ref o), (1, .int (nI X)), (2, .int (nI Y)), (3, .int v)] := hl
  refine lv_aload_n hx hb dX5_setGround_0 rfl (lv_at hl 0 rfl) ?_
  refine lv_iconst (v := nI 0) hx hb dX5_setGround_1 (by decide +kernel) ?_
  refine va_put (D := E.1) (ci := 5) (v := .int (nI 0)) (ty := .int) (C := RX5) (T := TX5) (N := 11) hx hb hts hin5 tyX5 tyX5_ok nmX5 hown hK.1 hP hD hS 0 rfl rfl 0 (by decide) lk37 (fun _ h9 => h9) rfl (by decide +kernel) rfl rfl (Nat.le_of_ble_eq_true rfl) dX5_setGround_2 (fun H locs hP hD hS => ?_)
  have hP : va_P E.1 vwCl (wMo E o ad (nI 0) gr co sd tk wm st (nI mo) nx lb fr) H := hP
  have hD : va_D A (wMo E o ad (nI 0) gr co sd tk wm st (nI mo) nx lb fr) := hD
  refine lv_iload_n hx hb dX5_setGround_5 rfl (lv_at hl 1 rfl) ?_
  refine lv_iload_n hx hb dX5_setGround_6 rfl (lv_at hl 2 rfl) ?_
  refine e_callS (As := [.int (nI X), .int (nI Y)]) (rest := []) ⟨hx, hb, hml, hown, hts⟩ hK hP hD hS hA hl.1 (c_X5_isCell l E _ (nI X) (nI Y)) (va_cwS 2 hts gX5_setGround_X5_isCell rfl rfl rfl (by decide +kernel) ⟨Nat.le_of_ble_eq_true rfl, Nat.le_of_ble_eq_true rfl⟩) [] [0, 1, 2, 3, 4, 5, 6, 7, 8, 9] rfl rfl rfl rfl (by decide) rfl rfl (Nat.le_of_ble_eq_true rfl) dX5_setGround_7 ⟨Nat.le_of_ble_eq_true rfl, Nat.le_of_ble_eq_true rfl⟩ (fun u_1 H locs hu_2 hsz1 hP hD hS => ?_)
  have hP : va_P E.1 vwCl (wMo E o ad (nI 0) gr co sd tk wm st (nI mo) nx lb fr) H := hP.sub [0, 1, 2, 3, 4, 5, 6, 7, 8, 9] rfl
  have hD : va_D A (wMo E o ad (nI 0) gr co sd tk wm st (nI mo) nx lb fr) := hD.sub [0, 1, 2, 3, 4, 5, 6, 7, 8, 9] (by decide) rfl
  refine W.eq (g2 := F0 m 10 ls [.int (b2i (isCellB (nI X) (nI Y)))]) rfl ?_
  refine b_if_ne (x := isCellB (nI X) (nI Y)) (tgt := 19) hx hb dX5_setGround_10 (by decide) (fun c10 => ?_) (fun c10 => by rw [isCellB_n hX hY] at c10; cases c10)
  refine lv_iload_n hx hb dX5_setGround_19 rfl (lv_at hl 3 rfl) ?_
  refine lv_iconst (v := nI 0) hx hb dX5_setGround_20 (by decide +kernel) ?_
  refine lv_bipush (v := nI 40) hx hb dX5_setGround_21 (by decide +kernel) ?_
  refine e_callS (As := [.int v, .int (nI 0), .int (nI 40)]) (rest := []) ⟨hx, hb, hml, hown, hts⟩ hK hP hD hS hA hl.1 (c_X5_isIn l E _ v (nI 0) (nI 40)) (va_cwS 3 hts gX5_setGround_X5_isIn rfl rfl rfl (by decide +kernel) ⟨Nat.le_of_ble_eq_true rfl, Nat.le_of_ble_eq_true rfl⟩) [] [0, 1, 2, 3, 4, 5, 6, 7, 8, 9] rfl rfl rfl rfl (by decide) rfl rfl (Nat.le_of_ble_eq_true rfl) dX5_setGround_23 ⟨Nat.le_of_ble_eq_true rfl, Nat.le_of_ble_eq_true rfl⟩ (fun u_3 H locs hu_4 hsz1 hP hD hS => ?_)
  have hP : va_P E.1 vwCl (wMo E o ad (nI 0) gr co sd tk wm st (nI mo) nx lb fr) H := hP.sub [0, 1, 2, 3, 4, 5, 6, 7, 8, 9] rfl
  have hD : va_D A (wMo E o ad (nI 0) gr co sd tk wm st (nI mo) nx lb fr) := hD.sub [0, 1, 2, 3, 4, 5, 6, 7, 8, 9] (by decide) rfl
  refine W.eq (g2 := F0 m 26 ls [.int (b2i (isInB v (nI 0) (nI 40)))]) rfl ?_
  refine b_if_ne (x := isInB v (nI 0) (nI 40)) (tgt := 35) hx hb dX5_setGround_26 (by decide) (fun c26 => by rw [hv] at c26; cases c26) (fun c26 => ?_)
  refine lv_aload_n hx hb dX5_setGround_29 rfl (lv_at hl 0 rfl) ?_
  refine lv_iconst (v := nI 2) hx hb dX5_setGround_30 (by decide +kernel) ?_
  refine e_callV (As := [.int (nI 2)]) (rest := []) ⟨hx, hb, hml, hown, hts⟩ hK hP hD hS hA hl.1 (c_X5_fail l E _ o ad (nI 0) gr co sd tk wm st mo nx lb fr (nI 2)) (cwV 1 hts gX5_setGround_X5_fail rfl rfl rfl (by decide +kernel) ⟨Nat.le_of_ble_eq_true rfl, Nat.le_of_ble_eq_true rfl⟩) [0, 1, 2, 3, 4, 5, 6, 7, 8, 9] [] rfl rfl rfl rfl (by decide) (q0 := 0) (ci := 5) rfl rfl rfl rfl (Nat.le_of_ble_eq_true rfl) dX5_setGround_31 ⟨Nat.le_of_ble_eq_true rfl, Nat.le_of_ble_eq_true rfl⟩ (fun u_5 H locs hu_6 hsz1 hP hD hS => ?_)
  have hP : va_P E.1 vwCl (wMo E o ad (nI 2) gr co sd tk wm st (nI mo) nx lb fr) H := hP.sub [0, 1, 2, 3, 4, 5, 6, 7, 8, 9] rfl
  have hD : va_D A (wMo E o ad (nI 2) gr co sd tk wm st (nI mo) nx lb fr) := hD.sub [0, 1, 2, 3, 4, 5, 6, 7, 8, 9] (by decide) rfl
  refine W.eq (g2 := F0 m 34 ls [.int (nI 0)]) rfl ?_
  exact e_iret () hQ hx hb hr hlocks hP hD hS dX5_setGround_34 (rfl) (Nat.le_of_ble_eq_true rfl) (Nat.le_of_ble_eq_true rfl) (trivial)

abbrev rm_X5_plant : Room := { frames := 2, cells := 0, slots := 0, locals := 43 }
set_option maxHeartbeats 4000000 in
set_option maxRecDepth 100000 in
theorem c_X5_plant (l : Launch) (E : eT) (sz : Nat) (o : Nat) (ad : Nat → Nat) (th : Int32) (gr : Nat → Int32) (co : Nat → Int32) (sd : Nat → Int32) (tk : Nat → Int32) (wm : Nat → Int32) (st : Nat → Int32) (mo : Nat) (nx : Nat → Int32) (lb : Nat → Option Nat) (fr : Nat → Nat) (X : Nat) (Y : Nat) (v : Int32) (hX : X < 9) (hY : Y < 9) (hv : isInB v (nI 0) (gr ((9 * Y) + X)) = true) : cM l yX5_plant wsX5_plant rm_X5_plant E sz [.ref o, .int (nI X), .int (nI Y), .int v] (wMo E o ad th gr co sd tk wm st (nI mo) nx lb fr) (fun u : Unit => some (.int (co ((9 * Y) + X)))) (fun u : Unit => True) (fun u : Unit => wMo E o ad (nI 0) gr (upd co ((9 * Y) + X) v) sd tk wm st (nI mo) nx lb fr) := by
  refine cM_intro (cc := cX5_plant) (maxL := 6) (ret := (some .int)) (by decide +kernel) rfl (Nat.le_of_ble_eq_true rfl) ?_
  intro p e s m args below meth cd hx hb hr hml hown hlocks hts hnm hK hsz hP A hD hA Q hQ ls hl
  have hown : s.vm.findClass RX5 = some m.cls := hown
  have hin5 : ∀ w ∈ u_ws RX5 TX5 11, w ∈ wsX5_plant := by decide +kernel
  have lk9 := hts (.fieldLink RX5 9 "ReefPilotModel" "ground" "[I") (by decide +kernel)
  have lk13 := hts (.fieldLink RX5 13 "ReefPilotModel" "coral" "[I") (by decide +kernel)
  have lk37 := hts (.fieldLink RX5 37 "ReefPilotModel" "thrown" "I") (by decide +kernel)
  have hS : va_S A s.heap s.heap [] := va_S.rf
  have hl : lv_has ls 6 [(0, .ref o), (1, .int (nI X)), (2, .int (nI Y)), (3, .int v)] := hl
  refine lv_aload_n hx hb dX5_plant_0 rfl (lv_at hl 0 rfl) ?_
  refine lv_iconst (v := nI 0) hx hb dX5_plant_1 (by decide +kernel) ?_
  refine va_put (D := E.1) (ci := 5) (v := .int (nI 0)) (ty := .int) (C := RX5) (T := TX5) (N := 11) hx hb hts hin5 tyX5 tyX5_ok nmX5 hown hK.1 hP hD hS 0 rfl rfl 0 (by decide) lk37 (fun _ h9 => h9) rfl (by decide +kernel) rfl rfl (Nat.le_of_ble_eq_true rfl) dX5_plant_2 (fun H locs hP hD hS => ?_)
  have hP : va_P E.1 vwCl (wMo E o ad (nI 0) gr co sd tk wm st (nI mo) nx lb fr) H := hP
  have hD : va_D A (wMo E o ad (nI 0) gr co sd tk wm st (nI mo) nx lb fr) := hD
  refine lv_iload_n hx hb dX5_plant_5 rfl (lv_at hl 1 rfl) ?_
  refine lv_iload_n hx hb dX5_plant_6 rfl (lv_at hl 2 rfl) ?_
  refine e_callS (As := [.int (nI X), .int (nI Y)]) (rest := []) ⟨hx, hb, hml, hown, hts⟩ hK hP hD hS hA hl.1 (c_X5_isCell l E _ (nI X) (nI Y)) (va_cwS 2 hts gX5_plant_X5_isCell rfl rfl rfl (by decide +kernel) ⟨Nat.le_of_ble_eq_true rfl, Nat.le_of_ble_eq_true rfl⟩) [] [0, 1, 2, 3, 4, 5, 6, 7, 8, 9] rfl rfl rfl rfl (by decide) rfl rfl (Nat.le_of_ble_eq_true rfl) dX5_plant_7 ⟨Nat.le_of_ble_eq_true rfl, Nat.le_of_ble_eq_true rfl⟩ (fun u_1 H locs hu_2 hsz1 hP hD hS => ?_)
  have hP : va_P E.1 vwCl (wMo E o ad (nI 0) gr co sd tk wm st (nI mo) nx lb fr) H := hP.sub [0, 1, 2, 3, 4, 5, 6, 7, 8, 9] rfl
  have hD : va_D A (wMo E o ad (nI 0) gr co sd tk wm st (nI mo) nx lb fr) := hD.sub [0, 1, 2, 3, 4, 5, 6, 7, 8, 9] (by decide) rfl
  refine W.eq (g2 := F0 m 10 ls [.int (b2i (isCellB (nI X) (nI Y)))]) rfl ?_
  refine b_if_ne (x := isCellB (nI X) (nI Y)) (tgt := 19) hx hb dX5_plant_10 (by decide) (fun c10 => ?_) (fun c10 => by rw [isCellB_n hX hY] at c10; cases c10)
  refine lv_bipush (v := nI 9) hx hb dX5_plant_19 (by decide +kernel) ?_
  refine lv_iload_n hx hb dX5_plant_21 rfl (lv_at hl 2 rfl) ?_
  refine lv_imul hx hb dX5_plant_22 ?_
  refine e_top (pk_mul _ _) ?_
  refine lv_iload_n hx hb dX5_plant_23 rfl (lv_at hl 1 rfl) ?_
  refine lv_iadd hx hb dX5_plant_24 ?_
  refine e_top (nI_add _ _) ?_
  refine lv_istore (lv' := [(4, .int (nI ((9 * Y) + X))), (0, .ref o), (1, .int (nI X)), (2, .int (nI Y)), (3, .int v)]) hx hb dX5_plant_25 hl (by decide) rfl (fun ls hl => ?_)
  refine lv_iload_n hx hb dX5_plant_27 rfl (lv_at hl 4 rfl) ?_
  refine lv_iconst (v := nI 0) hx hb dX5_plant_28 (by decide +kernel) ?_
  refine lv_aload_n hx hb dX5_plant_29 rfl (lv_at hl 1 rfl) ?_
  refine va_get (D := E.1) (ci := 5) (v := .ref (ad 0)) (C := RX5) (T := TX5) (N := 11) hx hb hts hin5 hown hK.1 hP 0 rfl rfl 1 (by decide) lk9 (fun _ h9 => h9) rfl dX5_plant_30 ?_
  refine lv_iload hx hb dX5_plant_33 (lv_at hl 0 rfl) ?_
  refine e_iald hK hP 1 rfl ((9 * Y) + X) (by omega) (by decide) hx hb dX5_plant_35 ?_
  refine e_callS (As := [.int v, .int (nI 0), .int (gr ((9 * Y) + X))]) (rest := []) ⟨hx, hb, hml, hown, hts⟩ hK hP hD hS hA hl.1 (c_X5_isIn l E _ v (nI 0) (gr ((9 * Y) + X))) (va_cwS 3 hts gX5_plant_X5_isIn rfl rfl rfl (by decide +kernel) ⟨Nat.le_of_ble_eq_true rfl, Nat.le_of_ble_eq_true rfl⟩) [] [0, 1, 2, 3, 4, 5, 6, 7, 8, 9] rfl rfl rfl rfl (by decide) rfl rfl (Nat.le_of_ble_eq_true rfl) dX5_plant_36 ⟨Nat.le_of_ble_eq_true rfl, Nat.le_of_ble_eq_true rfl⟩ (fun u_3 H locs hu_4 hsz1 hP hD hS => ?_)
  have hP : va_P E.1 vwCl (wMo E o ad (nI 0) gr co sd tk wm st (nI mo) nx lb fr) H := hP.sub [0, 1, 2, 3, 4, 5, 6, 7, 8, 9] rfl
  have hD : va_D A (wMo E o ad (nI 0) gr co sd tk wm st (nI mo) nx lb fr) := hD.sub [0, 1, 2, 3, 4, 5, 6, 7, 8, 9] (by decide) rfl
  refine W.eq (g2 := F0 m 39 ls [.int (b2i (isInB v (nI 0) (gr ((9 * Y) + X))))]) rfl ?_
  refine b_if_ne (x := isInB v (nI 0) (gr ((9 * Y) + X))) (tgt := 48) hx hb dX5_plant_39 (by decide) (fun c39 => ?_) (fun c39 => by rw [hv] at c39; cases c39)
  refine lv_aload_n hx hb dX5_plant_48 rfl (lv_at hl 1 rfl) ?_
  refine va_get (D := E.1) (ci := 5) (v := .ref (ad 1)) (C := RX5) (T := TX5) (N := 11) hx hb hts hin5 hown hK.1 hP 0 rfl rfl 2 (by decide) lk13 (fun _ h9 => h9) rfl dX5_plant_49 ?_
  refine lv_iload hx hb dX5_plant_52 (lv_at hl 0 rfl) ?_
  refine e_iald hK hP 2 rfl ((9 * Y) + X) (by omega) (by decide) hx hb dX5_plant_54 ?_
  refine lv_istore (lv' := [(5, .int (co ((9 * Y) + X))), (4, .int (nI ((9 * Y) + X))), (0, .ref o), (1, .int (nI X)), (2, .int (nI Y)), (3, .int v)]) hx hb dX5_plant_55 hl (by decide) rfl (fun ls hl => ?_)
  refine lv_aload_n hx hb dX5_plant_57 rfl (lv_at hl 2 rfl) ?_
  refine va_get (D := E.1) (ci := 5) (v := .ref (ad 1)) (C := RX5) (T := TX5) (N := 11) hx hb hts hin5 hown hK.1 hP 0 rfl rfl 2 (by decide) lk13 (fun _ h9 => h9) rfl dX5_plant_58 ?_
  refine lv_iload hx hb dX5_plant_61 (lv_at hl 1 rfl) ?_
  refine lv_iload_n hx hb dX5_plant_63 rfl (lv_at hl 5 rfl) ?_
  refine e_iast hK hP hD hS 2 rfl ((9 * Y) + X) (by omega) (by decide) hx hb dX5_plant_64 (fun H locs hP hD hS => ?_)
  have hP : va_P E.1 vwCl (wMo E o ad (nI 0) gr (upd co ((9 * Y) + X) v) sd tk wm st (nI mo) nx lb fr) H := hP
  have hD : va_D A (wMo E o ad (nI 0) gr (upd co ((9 * Y) + X) v) sd tk wm st (nI mo) nx lb fr) := hD
  refine lv_iload hx hb dX5_plant_65 (lv_at hl 0 rfl) ?_
  exact e_iret () hQ hx hb hr hlocks hP hD hS dX5_plant_67 (rfl) (Nat.le_of_ble_eq_true rfl) (Nat.le_of_ble_eq_true rfl) (trivial)

abbrev rm_X5_plant_b1 : Room := { frames := 2, cells := 0, slots := 0, locals := 43 }
set_option maxHeartbeats 4000000 in
set_option maxRecDepth 100000 in
theorem c_X5_plant_b1 (l : Launch) (E : eT) (sz : Nat) (o : Nat) (ad : Nat → Nat) (th : Int32) (gr : Nat → Int32) (co : Nat → Int32) (sd : Nat → Int32) (tk : Nat → Int32) (wm : Nat → Int32) (st : Nat → Int32) (mo : Nat) (nx : Nat → Int32) (lb : Nat → Option Nat) (fr : Nat → Nat) (x : Int32) (y : Int32) (v : Int32) (hc : isCellB x y = false) : cM l yX5_plant wsX5_plant rm_X5_plant_b1 E sz [.ref o, .int x, .int y, .int v] (wMo E o ad th gr co sd tk wm st (nI mo) nx lb fr) (fun u : Unit => some (.int (nI 0))) (fun u : Unit => True) (fun u : Unit => wMo E o ad (nI 1) gr co sd tk wm st (nI mo) nx lb fr) := by
  refine cM_intro (cc := cX5_plant) (maxL := 6) (ret := (some .int)) (by decide +kernel) rfl (Nat.le_of_ble_eq_true rfl) ?_
  intro p e s m args below meth cd hx hb hr hml hown hlocks hts hnm hK hsz hP A hD hA Q hQ ls hl
  have hown : s.vm.findClass RX5 = some m.cls := hown
  have hin5 : ∀ w ∈ u_ws RX5 TX5 11, w ∈ wsX5_plant := by decide +kernel
  have lk37 := hts (.fieldLink RX5 37 "ReefPilotModel" "thrown" "I") (by decide +kernel)
  have hS : va_S A s.heap s.heap [] := va_S.rf
  have hl : lv_has ls 6 [(0, .ref o), (1, .int x), (2, .int y), (3, .int v)] := hl
  refine lv_aload_n hx hb dX5_plant_0 rfl (lv_at hl 0 rfl) ?_
  refine lv_iconst (v := nI 0) hx hb dX5_plant_1 (by decide +kernel) ?_
  refine va_put (D := E.1) (ci := 5) (v := .int (nI 0)) (ty := .int) (C := RX5) (T := TX5) (N := 11) hx hb hts hin5 tyX5 tyX5_ok nmX5 hown hK.1 hP hD hS 0 rfl rfl 0 (by decide) lk37 (fun _ h9 => h9) rfl (by decide +kernel) rfl rfl (Nat.le_of_ble_eq_true rfl) dX5_plant_2 (fun H locs hP hD hS => ?_)
  have hP : va_P E.1 vwCl (wMo E o ad (nI 0) gr co sd tk wm st (nI mo) nx lb fr) H := hP
  have hD : va_D A (wMo E o ad (nI 0) gr co sd tk wm st (nI mo) nx lb fr) := hD
  refine lv_iload_n hx hb dX5_plant_5 rfl (lv_at hl 1 rfl) ?_
  refine lv_iload_n hx hb dX5_plant_6 rfl (lv_at hl 2 rfl) ?_
  refine e_callS (As := [.int x, .int y]) (rest := []) ⟨hx, hb, hml, hown, hts⟩ hK hP hD hS hA hl.1 (c_X5_isCell l E _ x y) (va_cwS 2 hts gX5_plant_X5_isCell rfl rfl rfl (by decide +kernel) ⟨Nat.le_of_ble_eq_true rfl, Nat.le_of_ble_eq_true rfl⟩) [] [0, 1, 2, 3, 4, 5, 6, 7, 8, 9] rfl rfl rfl rfl (by decide) rfl rfl (Nat.le_of_ble_eq_true rfl) dX5_plant_7 ⟨Nat.le_of_ble_eq_true rfl, Nat.le_of_ble_eq_true rfl⟩ (fun u_1 H locs hu_2 hsz1 hP hD hS => ?_)
  have hP : va_P E.1 vwCl (wMo E o ad (nI 0) gr co sd tk wm st (nI mo) nx lb fr) H := hP.sub [0, 1, 2, 3, 4, 5, 6, 7, 8, 9] rfl
  have hD : va_D A (wMo E o ad (nI 0) gr co sd tk wm st (nI mo) nx lb fr) := hD.sub [0, 1, 2, 3, 4, 5, 6, 7, 8, 9] (by decide) rfl
  refine W.eq (g2 := F0 m 10 ls [.int (b2i (isCellB x y))]) rfl ?_
  refine b_if_ne (x := isCellB x y) (tgt := 19) hx hb dX5_plant_10 (by decide) (fun c10 => by rw [hc] at c10; cases c10) (fun c10 => ?_)
  refine lv_aload_n hx hb dX5_plant_13 rfl (lv_at hl 0 rfl) ?_
  refine lv_iconst (v := nI 1) hx hb dX5_plant_14 (by decide +kernel) ?_
  refine e_callV (As := [.int (nI 1)]) (rest := []) ⟨hx, hb, hml, hown, hts⟩ hK hP hD hS hA hl.1 (c_X5_fail l E _ o ad (nI 0) gr co sd tk wm st mo nx lb fr (nI 1)) (cwV 1 hts gX5_plant_X5_fail rfl rfl rfl (by decide +kernel) ⟨Nat.le_of_ble_eq_true rfl, Nat.le_of_ble_eq_true rfl⟩) [0, 1, 2, 3, 4, 5, 6, 7, 8, 9] [] rfl rfl rfl rfl (by decide) (q0 := 0) (ci := 5) rfl rfl rfl rfl (Nat.le_of_ble_eq_true rfl) dX5_plant_15 ⟨Nat.le_of_ble_eq_true rfl, Nat.le_of_ble_eq_true rfl⟩ (fun u_3 H locs hu_4 hsz1 hP hD hS => ?_)
  have hP : va_P E.1 vwCl (wMo E o ad (nI 1) gr co sd tk wm st (nI mo) nx lb fr) H := hP.sub [0, 1, 2, 3, 4, 5, 6, 7, 8, 9] rfl
  have hD : va_D A (wMo E o ad (nI 1) gr co sd tk wm st (nI mo) nx lb fr) := hD.sub [0, 1, 2, 3, 4, 5, 6, 7, 8, 9] (by decide) rfl
  refine W.eq (g2 := F0 m 18 ls [.int (nI 0)]) rfl ?_
  exact e_iret () hQ hx hb hr hlocks hP hD hS dX5_plant_18 (rfl) (Nat.le_of_ble_eq_true rfl) (Nat.le_of_ble_eq_true rfl) (trivial)

abbrev rm_X5_plant_b2 : Room := { frames := 2, cells := 0, slots := 0, locals := 43 }
set_option maxHeartbeats 4000000 in
set_option maxRecDepth 100000 in
theorem c_X5_plant_b2 (l : Launch) (E : eT) (sz : Nat) (o : Nat) (ad : Nat → Nat) (th : Int32) (gr : Nat → Int32) (co : Nat → Int32) (sd : Nat → Int32) (tk : Nat → Int32) (wm : Nat → Int32) (st : Nat → Int32) (mo : Nat) (nx : Nat → Int32) (lb : Nat → Option Nat) (fr : Nat → Nat) (X : Nat) (Y : Nat) (v : Int32) (hX : X < 9) (hY : Y < 9) (hv : isInB v (nI 0) (gr ((9 * Y) + X)) = false) : cM l yX5_plant wsX5_plant rm_X5_plant_b2 E sz [.ref o, .int (nI X), .int (nI Y), .int v] (wMo E o ad th gr co sd tk wm st (nI mo) nx lb fr) (fun u : Unit => some (.int (nI 0))) (fun u : Unit => True) (fun u : Unit => wMo E o ad (nI 2) gr co sd tk wm st (nI mo) nx lb fr) := by
  refine cM_intro (cc := cX5_plant) (maxL := 6) (ret := (some .int)) (by decide +kernel) rfl (Nat.le_of_ble_eq_true rfl) ?_
  intro p e s m args below meth cd hx hb hr hml hown hlocks hts hnm hK hsz hP A hD hA Q hQ ls hl
  have hown : s.vm.findClass RX5 = some m.cls := hown
  have hin5 : ∀ w ∈ u_ws RX5 TX5 11, w ∈ wsX5_plant := by decide +kernel
  have lk9 := hts (.fieldLink RX5 9 "ReefPilotModel" "ground" "[I") (by decide +kernel)
  have lk37 := hts (.fieldLink RX5 37 "ReefPilotModel" "thrown" "I") (by decide +kernel)
  have hS : va_S A s.heap s.heap [] := va_S.rf
  have hl : lv_has ls 6 [(0, .ref o), (1, .int (nI X)), (2, .int (nI Y)), (3, .int v)] := hl
  refine lv_aload_n hx hb dX5_plant_0 rfl (lv_at hl 0 rfl) ?_
  refine lv_iconst (v := nI 0) hx hb dX5_plant_1 (by decide +kernel) ?_
  refine va_put (D := E.1) (ci := 5) (v := .int (nI 0)) (ty := .int) (C := RX5) (T := TX5) (N := 11) hx hb hts hin5 tyX5 tyX5_ok nmX5 hown hK.1 hP hD hS 0 rfl rfl 0 (by decide) lk37 (fun _ h9 => h9) rfl (by decide +kernel) rfl rfl (Nat.le_of_ble_eq_true rfl) dX5_plant_2 (fun H locs hP hD hS => ?_)
  have hP : va_P E.1 vwCl (wMo E o ad (nI 0) gr co sd tk wm st (nI mo) nx lb fr) H := hP
  have hD : va_D A (wMo E o ad (nI 0) gr co sd tk wm st (nI mo) nx lb fr) := hD
  refine lv_iload_n hx hb dX5_plant_5 rfl (lv_at hl 1 rfl) ?_
  refine lv_iload_n hx hb dX5_plant_6 rfl (lv_at hl 2 rfl) ?_
  refine e_callS (As := [.int (nI X), .int (nI Y)]) (rest := []) ⟨hx, hb, hml, hown, hts⟩ hK hP hD hS hA hl.1 (c_X5_isCell l E _ (nI X) (nI Y)) (va_cwS 2 hts gX5_plant_X5_isCell rfl rfl rfl (by decide +kernel) ⟨Nat.le_of_ble_eq_true rfl, Nat.le_of_ble_eq_true rfl⟩) [] [0, 1, 2, 3, 4, 5, 6, 7, 8, 9] rfl rfl rfl rfl (by decide) rfl rfl (Nat.le_of_ble_eq_true rfl) dX5_plant_7 ⟨Nat.le_of_ble_eq_true rfl, Nat.le_of_ble_eq_true rfl⟩ (fun u_1 H locs hu_2 hsz1 hP hD hS => ?_)
  have hP : va_P E.1 vwCl (wMo E o ad (nI 0) gr co sd tk wm st (nI mo) nx lb fr) H := hP.sub [0, 1, 2, 3, 4, 5, 6, 7, 8, 9] rfl
  have hD : va_D A (wMo E o ad (nI 0) gr co sd tk wm st (nI mo) nx lb fr) := hD.sub [0, 1, 2, 3, 4, 5, 6, 7, 8, 9] (by decide) rfl
  refine W.eq (g2 := F0 m 10 ls [.int (b2i (isCellB (nI X) (nI Y)))]) rfl ?_
  refine b_if_ne (x := isCellB (nI X) (nI Y)) (tgt := 19) hx hb dX5_plant_10 (by decide) (fun c10 => ?_) (fun c10 => by rw [isCellB_n hX hY] at c10; cases c10)
  refine lv_bipush (v := nI 9) hx hb dX5_plant_19 (by decide +kernel) ?_
  refine lv_iload_n hx hb dX5_plant_21 rfl (lv_at hl 2 rfl) ?_
  refine lv_imul hx hb dX5_plant_22 ?_
  refine e_top (pk_mul _ _) ?_
  refine lv_iload_n hx hb dX5_plant_23 rfl (lv_at hl 1 rfl) ?_
  refine lv_iadd hx hb dX5_plant_24 ?_
  refine e_top (nI_add _ _) ?_
  refine lv_istore (lv' := [(4, .int (nI ((9 * Y) + X))), (0, .ref o), (1, .int (nI X)), (2, .int (nI Y)), (3, .int v)]) hx hb dX5_plant_25 hl (by decide) rfl (fun ls hl => ?_)
  refine lv_iload_n hx hb dX5_plant_27 rfl (lv_at hl 4 rfl) ?_
  refine lv_iconst (v := nI 0) hx hb dX5_plant_28 (by decide +kernel) ?_
  refine lv_aload_n hx hb dX5_plant_29 rfl (lv_at hl 1 rfl) ?_
  refine va_get (D := E.1) (ci := 5) (v := .ref (ad 0)) (C := RX5) (T := TX5) (N := 11) hx hb hts hin5 hown hK.1 hP 0 rfl rfl 1 (by decide) lk9 (fun _ h9 => h9) rfl dX5_plant_30 ?_
  refine lv_iload hx hb dX5_plant_33 (lv_at hl 0 rfl) ?_
  refine e_iald hK hP 1 rfl ((9 * Y) + X) (by omega) (by decide) hx hb dX5_plant_35 ?_
  refine e_callS (As := [.int v, .int (nI 0), .int (gr ((9 * Y) + X))]) (rest := []) ⟨hx, hb, hml, hown, hts⟩ hK hP hD hS hA hl.1 (c_X5_isIn l E _ v (nI 0) (gr ((9 * Y) + X))) (va_cwS 3 hts gX5_plant_X5_isIn rfl rfl rfl (by decide +kernel) ⟨Nat.le_of_ble_eq_true rfl, Nat.le_of_ble_eq_true rfl⟩) [] [0, 1, 2, 3, 4, 5, 6, 7, 8, 9] rfl rfl rfl rfl (by decide) rfl rfl (Nat.le_of_ble_eq_true rfl) dX5_plant_36 ⟨Nat.le_of_ble_eq_true rfl, Nat.le_of_ble_eq_true rfl⟩ (fun u_3 H locs hu_4 hsz1 hP hD hS => ?_)
  have hP : va_P E.1 vwCl (wMo E o ad (nI 0) gr co sd tk wm st (nI mo) nx lb fr) H := hP.sub [0, 1, 2, 3, 4, 5, 6, 7, 8, 9] rfl
  have hD : va_D A (wMo E o ad (nI 0) gr co sd tk wm st (nI mo) nx lb fr) := hD.sub [0, 1, 2, 3, 4, 5, 6, 7, 8, 9] (by decide) rfl
  refine W.eq (g2 := F0 m 39 ls [.int (b2i (isInB v (nI 0) (gr ((9 * Y) + X))))]) rfl ?_
  refine b_if_ne (x := isInB v (nI 0) (gr ((9 * Y) + X))) (tgt := 48) hx hb dX5_plant_39 (by decide) (fun c39 => by rw [hv] at c39; cases c39) (fun c39 => ?_)
  refine lv_aload_n hx hb dX5_plant_42 rfl (lv_at hl 1 rfl) ?_
  refine lv_iconst (v := nI 2) hx hb dX5_plant_43 (by decide +kernel) ?_
  refine e_callV (As := [.int (nI 2)]) (rest := []) ⟨hx, hb, hml, hown, hts⟩ hK hP hD hS hA hl.1 (c_X5_fail l E _ o ad (nI 0) gr co sd tk wm st mo nx lb fr (nI 2)) (cwV 1 hts gX5_plant_X5_fail rfl rfl rfl (by decide +kernel) ⟨Nat.le_of_ble_eq_true rfl, Nat.le_of_ble_eq_true rfl⟩) [0, 1, 2, 3, 4, 5, 6, 7, 8, 9] [] rfl rfl rfl rfl (by decide) (q0 := 0) (ci := 5) rfl rfl rfl rfl (Nat.le_of_ble_eq_true rfl) dX5_plant_44 ⟨Nat.le_of_ble_eq_true rfl, Nat.le_of_ble_eq_true rfl⟩ (fun u_5 H locs hu_6 hsz1 hP hD hS => ?_)
  have hP : va_P E.1 vwCl (wMo E o ad (nI 2) gr co sd tk wm st (nI mo) nx lb fr) H := hP.sub [0, 1, 2, 3, 4, 5, 6, 7, 8, 9] rfl
  have hD : va_D A (wMo E o ad (nI 2) gr co sd tk wm st (nI mo) nx lb fr) := hD.sub [0, 1, 2, 3, 4, 5, 6, 7, 8, 9] (by decide) rfl
  refine W.eq (g2 := F0 m 47 ls [.int (nI 0)]) rfl ?_
  exact e_iret () hQ hx hb hr hlocks hP hD hS dX5_plant_47 (rfl) (Nat.le_of_ble_eq_true rfl) (Nat.le_of_ble_eq_true rfl) (trivial)

abbrev rm_X5_setMonth : Room := { frames := 1, cells := 0, slots := 0, locals := 22 }
set_option maxHeartbeats 4000000 in
set_option maxRecDepth 100000 in
theorem c_X5_setMonth (l : Launch) (E : eT) (sz : Nat) (o : Nat) (ad : Nat → Nat) (th : Int32) (gr : Nat → Int32) (co : Nat → Int32) (sd : Nat → Int32) (tk : Nat → Int32) (wm : Nat → Int32) (st : Nat → Int32) (mo : Nat) (nx : Nat → Int32) (lb : Nat → Option Nat) (fr : Nat → Nat) (M : Nat) (v : Int32) (u_ : Int32) (hM : M < 12) (hv : isInB v (nI 0) (nI 9) = true) (hu : isInB u_ (nI 0) (nI 9) = true) : cM l yX5_setMonth wsX5_setMonth rm_X5_setMonth E sz [.ref o, .int (nI M), .int v, .int u_] (wMo E o ad th gr co sd tk wm st (nI mo) nx lb fr) (fun u : Unit => some (.int (nI 10 * wm M + st M))) (fun u : Unit => True) (fun u : Unit => wMo E o ad (nI 0) gr co sd tk (upd wm M v) (upd st M u_) (nI mo) nx lb fr) := by
  refine cM_intro (cc := cX5_setMonth) (maxL := 5) (ret := (some .int)) (by decide +kernel) rfl (Nat.le_of_ble_eq_true rfl) ?_
  intro p e s m args below meth cd hx hb hr hml hown hlocks hts hnm hK hsz hP A hD hA Q hQ ls hl
  have hown : s.vm.findClass RX5 = some m.cls := hown
  have hin5 : ∀ w ∈ u_ws RX5 TX5 11, w ∈ wsX5_setMonth := by decide +kernel
  have lk22 := hts (.fieldLink RX5 22 "ReefPilotModel" "warmth" "[I") (by decide +kernel)
  have lk25 := hts (.fieldLink RX5 25 "ReefPilotModel" "storms" "[I") (by decide +kernel)
  have lk37 := hts (.fieldLink RX5 37 "ReefPilotModel" "thrown" "I") (by decide +kernel)
  have hS : va_S A s.heap s.heap [] := va_S.rf
  have hl : lv_has ls 5 [(0, .ref o), (1, .int (nI M)), (2, .int v), (3, .int u_)] := hl
  refine lv_aload_n hx hb dX5_setMonth_0 rfl (lv_at hl 0 rfl) ?_
  refine lv_iconst (v := nI 0) hx hb dX5_setMonth_1 (by decide +kernel) ?_
  refine va_put (D := E.1) (ci := 5) (v := .int (nI 0)) (ty := .int) (C := RX5) (T := TX5) (N := 11) hx hb hts hin5 tyX5 tyX5_ok nmX5 hown hK.1 hP hD hS 0 rfl rfl 0 (by decide) lk37 (fun _ h9 => h9) rfl (by decide +kernel) rfl rfl (Nat.le_of_ble_eq_true rfl) dX5_setMonth_2 (fun H locs hP hD hS => ?_)
  have hP : va_P E.1 vwCl (wMo E o ad (nI 0) gr co sd tk wm st (nI mo) nx lb fr) H := hP
  have hD : va_D A (wMo E o ad (nI 0) gr co sd tk wm st (nI mo) nx lb fr) := hD
  refine lv_iload_n hx hb dX5_setMonth_5 rfl (lv_at hl 1 rfl) ?_
  refine lv_iconst (v := nI 0) hx hb dX5_setMonth_6 (by decide +kernel) ?_
  refine lv_bipush (v := nI 11) hx hb dX5_setMonth_7 (by decide +kernel) ?_
  refine e_callS (As := [.int (nI M), .int (nI 0), .int (nI 11)]) (rest := []) ⟨hx, hb, hml, hown, hts⟩ hK hP hD hS hA hl.1 (c_X5_isIn l E _ (nI M) (nI 0) (nI 11)) (va_cwS 3 hts gX5_setMonth_X5_isIn rfl rfl rfl (by decide +kernel) ⟨Nat.le_of_ble_eq_true rfl, Nat.le_of_ble_eq_true rfl⟩) [] [0, 1, 2, 3, 4, 5, 6, 7, 8, 9] rfl rfl rfl rfl (by decide) rfl rfl (Nat.le_of_ble_eq_true rfl) dX5_setMonth_9 ⟨Nat.le_of_ble_eq_true rfl, Nat.le_of_ble_eq_true rfl⟩ (fun u_1 H locs hu_2 hsz1 hP hD hS => ?_)
  have hP : va_P E.1 vwCl (wMo E o ad (nI 0) gr co sd tk wm st (nI mo) nx lb fr) H := hP.sub [0, 1, 2, 3, 4, 5, 6, 7, 8, 9] rfl
  have hD : va_D A (wMo E o ad (nI 0) gr co sd tk wm st (nI mo) nx lb fr) := hD.sub [0, 1, 2, 3, 4, 5, 6, 7, 8, 9] (by decide) rfl
  refine W.eq (g2 := F0 m 12 ls [.int (b2i (isInB (nI M) (nI 0) (nI 11)))]) rfl ?_
  refine b_if_ne (x := isInB (nI M) (nI 0) (nI 11)) (tgt := 21) hx hb dX5_setMonth_12 (by decide) (fun c12 => ?_) (fun c12 => by rw [isInB_n (Nat.zero_le _) (show M ≤ 11 by omega) (by decide)] at c12; cases c12)
  refine lv_iload_n hx hb dX5_setMonth_21 rfl (lv_at hl 2 rfl) ?_
  refine lv_iconst (v := nI 0) hx hb dX5_setMonth_22 (by decide +kernel) ?_
  refine lv_bipush (v := nI 9) hx hb dX5_setMonth_23 (by decide +kernel) ?_
  refine e_callS (As := [.int v, .int (nI 0), .int (nI 9)]) (rest := []) ⟨hx, hb, hml, hown, hts⟩ hK hP hD hS hA hl.1 (c_X5_isIn l E _ v (nI 0) (nI 9)) (va_cwS 3 hts gX5_setMonth_X5_isIn rfl rfl rfl (by decide +kernel) ⟨Nat.le_of_ble_eq_true rfl, Nat.le_of_ble_eq_true rfl⟩) [] [0, 1, 2, 3, 4, 5, 6, 7, 8, 9] rfl rfl rfl rfl (by decide) rfl rfl (Nat.le_of_ble_eq_true rfl) dX5_setMonth_25 ⟨Nat.le_of_ble_eq_true rfl, Nat.le_of_ble_eq_true rfl⟩ (fun u_3 H locs hu_4 hsz1 hP hD hS => ?_)
  have hP : va_P E.1 vwCl (wMo E o ad (nI 0) gr co sd tk wm st (nI mo) nx lb fr) H := hP.sub [0, 1, 2, 3, 4, 5, 6, 7, 8, 9] rfl
  have hD : va_D A (wMo E o ad (nI 0) gr co sd tk wm st (nI mo) nx lb fr) := hD.sub [0, 1, 2, 3, 4, 5, 6, 7, 8, 9] (by decide) rfl
  refine W.eq (g2 := F0 m 28 ls [.int (b2i (isInB v (nI 0) (nI 9)))]) rfl ?_
  refine b_if_eq (x := isInB v (nI 0) (nI 9)) (tgt := 41) hx hb dX5_setMonth_28 (by decide) (fun c28 => by rw [hv] at c28; cases c28) (fun c28 => ?_)
  refine lv_iload_n hx hb dX5_setMonth_31 rfl (lv_at hl 3 rfl) ?_
  refine lv_iconst (v := nI 0) hx hb dX5_setMonth_32 (by decide +kernel) ?_
  refine lv_bipush (v := nI 9) hx hb dX5_setMonth_33 (by decide +kernel) ?_
  refine e_callS (As := [.int u_, .int (nI 0), .int (nI 9)]) (rest := []) ⟨hx, hb, hml, hown, hts⟩ hK hP hD hS hA hl.1 (c_X5_isIn l E _ u_ (nI 0) (nI 9)) (va_cwS 3 hts gX5_setMonth_X5_isIn rfl rfl rfl (by decide +kernel) ⟨Nat.le_of_ble_eq_true rfl, Nat.le_of_ble_eq_true rfl⟩) [] [0, 1, 2, 3, 4, 5, 6, 7, 8, 9] rfl rfl rfl rfl (by decide) rfl rfl (Nat.le_of_ble_eq_true rfl) dX5_setMonth_35 ⟨Nat.le_of_ble_eq_true rfl, Nat.le_of_ble_eq_true rfl⟩ (fun u_5 H locs hu_6 hsz1 hP hD hS => ?_)
  have hP : va_P E.1 vwCl (wMo E o ad (nI 0) gr co sd tk wm st (nI mo) nx lb fr) H := hP.sub [0, 1, 2, 3, 4, 5, 6, 7, 8, 9] rfl
  have hD : va_D A (wMo E o ad (nI 0) gr co sd tk wm st (nI mo) nx lb fr) := hD.sub [0, 1, 2, 3, 4, 5, 6, 7, 8, 9] (by decide) rfl
  refine W.eq (g2 := F0 m 38 ls [.int (b2i (isInB u_ (nI 0) (nI 9)))]) rfl ?_
  refine b_if_ne (x := isInB u_ (nI 0) (nI 9)) (tgt := 47) hx hb dX5_setMonth_38 (by decide) (fun c38 => ?_) (fun c38 => by rw [hu] at c38; cases c38)
  refine lv_bipush (v := nI 10) hx hb dX5_setMonth_47 (by decide +kernel) ?_
  refine lv_aload_n hx hb dX5_setMonth_49 rfl (lv_at hl 0 rfl) ?_
  refine va_get (D := E.1) (ci := 5) (v := .ref (ad 4)) (C := RX5) (T := TX5) (N := 11) hx hb hts hin5 hown hK.1 hP 0 rfl rfl 5 (by decide) lk22 (fun _ h9 => h9) rfl dX5_setMonth_50 ?_
  refine lv_iload_n hx hb dX5_setMonth_53 rfl (lv_at hl 1 rfl) ?_
  refine e_iald hK hP 5 rfl M (by omega) (by decide) hx hb dX5_setMonth_54 ?_
  refine lv_imul hx hb dX5_setMonth_55 ?_
  refine lv_aload_n hx hb dX5_setMonth_56 rfl (lv_at hl 0 rfl) ?_
  refine va_get (D := E.1) (ci := 5) (v := .ref (ad 5)) (C := RX5) (T := TX5) (N := 11) hx hb hts hin5 hown hK.1 hP 0 rfl rfl 6 (by decide) lk25 (fun _ h9 => h9) rfl dX5_setMonth_57 ?_
  refine lv_iload_n hx hb dX5_setMonth_60 rfl (lv_at hl 1 rfl) ?_
  refine e_iald hK hP 6 rfl M (by omega) (by decide) hx hb dX5_setMonth_61 ?_
  refine lv_iadd hx hb dX5_setMonth_62 ?_
  refine lv_istore (lv' := [(4, .int (((nI 10) * (wm M)) + (st M))), (0, .ref o), (1, .int (nI M)), (2, .int v), (3, .int u_)]) hx hb dX5_setMonth_63 hl (by decide) rfl (fun ls hl => ?_)
  refine lv_aload_n hx hb dX5_setMonth_65 rfl (lv_at hl 1 rfl) ?_
  refine va_get (D := E.1) (ci := 5) (v := .ref (ad 4)) (C := RX5) (T := TX5) (N := 11) hx hb hts hin5 hown hK.1 hP 0 rfl rfl 5 (by decide) lk22 (fun _ h9 => h9) rfl dX5_setMonth_66 ?_
  refine lv_iload_n hx hb dX5_setMonth_69 rfl (lv_at hl 2 rfl) ?_
  refine lv_iload_n hx hb dX5_setMonth_70 rfl (lv_at hl 3 rfl) ?_
  refine e_iast hK hP hD hS 5 rfl M (by omega) (by decide) hx hb dX5_setMonth_71 (fun H locs hP hD hS => ?_)
  have hP : va_P E.1 vwCl (wMo E o ad (nI 0) gr co sd tk (upd wm M v) st (nI mo) nx lb fr) H := hP
  have hD : va_D A (wMo E o ad (nI 0) gr co sd tk (upd wm M v) st (nI mo) nx lb fr) := hD
  refine lv_aload_n hx hb dX5_setMonth_72 rfl (lv_at hl 1 rfl) ?_
  refine va_get (D := E.1) (ci := 5) (v := .ref (ad 5)) (C := RX5) (T := TX5) (N := 11) hx hb hts hin5 hown hK.1 hP 0 rfl rfl 6 (by decide) lk25 (fun _ h9 => h9) rfl dX5_setMonth_73 ?_
  refine lv_iload_n hx hb dX5_setMonth_76 rfl (lv_at hl 2 rfl) ?_
  refine lv_iload_n hx hb dX5_setMonth_77 rfl (lv_at hl 4 rfl) ?_
  refine e_iast hK hP hD hS 6 rfl M (by omega) (by decide) hx hb dX5_setMonth_78 (fun H locs hP hD hS => ?_)
  have hP : va_P E.1 vwCl (wMo E o ad (nI 0) gr co sd tk (upd wm M v) (upd st M u_) (nI mo) nx lb fr) H := hP
  have hD : va_D A (wMo E o ad (nI 0) gr co sd tk (upd wm M v) (upd st M u_) (nI mo) nx lb fr) := hD
  refine lv_iload hx hb dX5_setMonth_79 (lv_at hl 0 rfl) ?_
  exact e_iret () hQ hx hb hr hlocks hP hD hS dX5_setMonth_81 (rfl) (Nat.le_of_ble_eq_true rfl) (Nat.le_of_ble_eq_true rfl) (trivial)

abbrev rm_X5_setMonth_b1 : Room := { frames := 1, cells := 0, slots := 0, locals := 22 }
set_option maxHeartbeats 4000000 in
set_option maxRecDepth 100000 in
theorem c_X5_setMonth_b1 (l : Launch) (E : eT) (sz : Nat) (o : Nat) (ad : Nat → Nat) (th : Int32) (gr : Nat → Int32) (co : Nat → Int32) (sd : Nat → Int32) (tk : Nat → Int32) (wm : Nat → Int32) (st : Nat → Int32) (mo : Nat) (nx : Nat → Int32) (lb : Nat → Option Nat) (fr : Nat → Nat) (x : Int32) (v : Int32) (u_ : Int32) (hc : isInB x (nI 0) (nI 11) = false) : cM l yX5_setMonth wsX5_setMonth rm_X5_setMonth_b1 E sz [.ref o, .int x, .int v, .int u_] (wMo E o ad th gr co sd tk wm st (nI mo) nx lb fr) (fun u : Unit => some (.int (nI 0))) (fun u : Unit => True) (fun u : Unit => wMo E o ad (nI 1) gr co sd tk wm st (nI mo) nx lb fr) := by
  refine cM_intro (cc := cX5_setMonth) (maxL := 5) (ret := (some .int)) (by decide +kernel) rfl (Nat.le_of_ble_eq_true rfl) ?_
  intro p e s m args below meth cd hx hb hr hml hown hlocks hts hnm hK hsz hP A hD hA Q hQ ls hl
  have hown : s.vm.findClass RX5 = some m.cls := hown
  have hin5 : ∀ w ∈ u_ws RX5 TX5 11, w ∈ wsX5_setMonth := by decide +kernel
  have lk37 := hts (.fieldLink RX5 37 "ReefPilotModel" "thrown" "I") (by decide +kernel)
  have hS : va_S A s.heap s.heap [] := va_S.rf
  have hl : lv_has ls 5 [(0, .ref o), (1, .int x), (2, .int v), (3, .int u_)] := hl
  refine lv_aload_n hx hb dX5_setMonth_0 rfl (lv_at hl 0 rfl) ?_
  refine lv_iconst (v := nI 0) hx hb dX5_setMonth_1 (by decide +kernel) ?_
  refine va_put (D := E.1) (ci := 5) (v := .int (nI 0)) (ty := .int) (C := RX5) (T := TX5) (N := 11) hx hb hts hin5 tyX5 tyX5_ok nmX5 hown hK.1 hP hD hS 0 rfl rfl 0 (by decide) lk37 (fun _ h9 => h9) rfl (by decide +kernel) rfl rfl (Nat.le_of_ble_eq_true rfl) dX5_setMonth_2 (fun H locs hP hD hS => ?_)
  have hP : va_P E.1 vwCl (wMo E o ad (nI 0) gr co sd tk wm st (nI mo) nx lb fr) H := hP
  have hD : va_D A (wMo E o ad (nI 0) gr co sd tk wm st (nI mo) nx lb fr) := hD
  refine lv_iload_n hx hb dX5_setMonth_5 rfl (lv_at hl 1 rfl) ?_
  refine lv_iconst (v := nI 0) hx hb dX5_setMonth_6 (by decide +kernel) ?_
  refine lv_bipush (v := nI 11) hx hb dX5_setMonth_7 (by decide +kernel) ?_
  refine e_callS (As := [.int x, .int (nI 0), .int (nI 11)]) (rest := []) ⟨hx, hb, hml, hown, hts⟩ hK hP hD hS hA hl.1 (c_X5_isIn l E _ x (nI 0) (nI 11)) (va_cwS 3 hts gX5_setMonth_X5_isIn rfl rfl rfl (by decide +kernel) ⟨Nat.le_of_ble_eq_true rfl, Nat.le_of_ble_eq_true rfl⟩) [] [0, 1, 2, 3, 4, 5, 6, 7, 8, 9] rfl rfl rfl rfl (by decide) rfl rfl (Nat.le_of_ble_eq_true rfl) dX5_setMonth_9 ⟨Nat.le_of_ble_eq_true rfl, Nat.le_of_ble_eq_true rfl⟩ (fun u_1 H locs hu_2 hsz1 hP hD hS => ?_)
  have hP : va_P E.1 vwCl (wMo E o ad (nI 0) gr co sd tk wm st (nI mo) nx lb fr) H := hP.sub [0, 1, 2, 3, 4, 5, 6, 7, 8, 9] rfl
  have hD : va_D A (wMo E o ad (nI 0) gr co sd tk wm st (nI mo) nx lb fr) := hD.sub [0, 1, 2, 3, 4, 5, 6, 7, 8, 9] (by decide) rfl
  refine W.eq (g2 := F0 m 12 ls [.int (b2i (isInB x (nI 0) (nI 11)))]) rfl ?_
  refine b_if_ne (x := isInB x (nI 0) (nI 11)) (tgt := 21) hx hb dX5_setMonth_12 (by decide) (fun c12 => by rw [hc] at c12; cases c12) (fun c12 => ?_)
  refine lv_aload_n hx hb dX5_setMonth_15 rfl (lv_at hl 0 rfl) ?_
  refine lv_iconst (v := nI 1) hx hb dX5_setMonth_16 (by decide +kernel) ?_
  refine e_callV (As := [.int (nI 1)]) (rest := []) ⟨hx, hb, hml, hown, hts⟩ hK hP hD hS hA hl.1 (c_X5_fail l E _ o ad (nI 0) gr co sd tk wm st mo nx lb fr (nI 1)) (cwV 1 hts gX5_setMonth_X5_fail rfl rfl rfl (by decide +kernel) ⟨Nat.le_of_ble_eq_true rfl, Nat.le_of_ble_eq_true rfl⟩) [0, 1, 2, 3, 4, 5, 6, 7, 8, 9] [] rfl rfl rfl rfl (by decide) (q0 := 0) (ci := 5) rfl rfl rfl rfl (Nat.le_of_ble_eq_true rfl) dX5_setMonth_17 ⟨Nat.le_of_ble_eq_true rfl, Nat.le_of_ble_eq_true rfl⟩ (fun u_3 H locs hu_4 hsz1 hP hD hS => ?_)
  have hP : va_P E.1 vwCl (wMo E o ad (nI 1) gr co sd tk wm st (nI mo) nx lb fr) H := hP.sub [0, 1, 2, 3, 4, 5, 6, 7, 8, 9] rfl
  have hD : va_D A (wMo E o ad (nI 1) gr co sd tk wm st (nI mo) nx lb fr) := hD.sub [0, 1, 2, 3, 4, 5, 6, 7, 8, 9] (by decide) rfl
  refine W.eq (g2 := F0 m 20 ls [.int (nI 0)]) rfl ?_
  exact e_iret () hQ hx hb hr hlocks hP hD hS dX5_setMonth_20 (rfl) (Nat.le_of_ble_eq_true rfl) (Nat.le_of_ble_eq_true rfl) (trivial)

abbrev rm_X5_setMonth_b2 : Room := { frames := 1, cells := 0, slots := 0, locals := 22 }
set_option maxHeartbeats 4000000 in
set_option maxRecDepth 100000 in
theorem c_X5_setMonth_b2 (l : Launch) (E : eT) (sz : Nat) (o : Nat) (ad : Nat → Nat) (th : Int32) (gr : Nat → Int32) (co : Nat → Int32) (sd : Nat → Int32) (tk : Nat → Int32) (wm : Nat → Int32) (st : Nat → Int32) (mo : Nat) (nx : Nat → Int32) (lb : Nat → Option Nat) (fr : Nat → Nat) (M : Nat) (v : Int32) (u_ : Int32) (hM : M < 12) (hv : isInB v (nI 0) (nI 9) = false) : cM l yX5_setMonth wsX5_setMonth rm_X5_setMonth_b2 E sz [.ref o, .int (nI M), .int v, .int u_] (wMo E o ad th gr co sd tk wm st (nI mo) nx lb fr) (fun u : Unit => some (.int (nI 0))) (fun u : Unit => True) (fun u : Unit => wMo E o ad (nI 2) gr co sd tk wm st (nI mo) nx lb fr) := by
  refine cM_intro (cc := cX5_setMonth) (maxL := 5) (ret := (some .int)) (by decide +kernel) rfl (Nat.le_of_ble_eq_true rfl) ?_
  intro p e s m args below meth cd hx hb hr hml hown hlocks hts hnm hK hsz hP A hD hA Q hQ ls hl
  have hown : s.vm.findClass RX5 = some m.cls := hown
  have hin5 : ∀ w ∈ u_ws RX5 TX5 11, w ∈ wsX5_setMonth := by decide +kernel
  have lk37 := hts (.fieldLink RX5 37 "ReefPilotModel" "thrown" "I") (by decide +kernel)
  have hS : va_S A s.heap s.heap [] := va_S.rf
  have hl : lv_has ls 5 [(0, .ref o), (1, .int (nI M)), (2, .int v), (3, .int u_)] := hl
  refine lv_aload_n hx hb dX5_setMonth_0 rfl (lv_at hl 0 rfl) ?_
  refine lv_iconst (v := nI 0) hx hb dX5_setMonth_1 (by decide +kernel) ?_
  refine va_put (D := E.1) (ci := 5) (v := .int (nI 0)) (ty := .int) (C := RX5) (T := TX5) (N := 11) hx hb hts hin5 tyX5 tyX5_ok nmX5 hown hK.1 hP hD hS 0 rfl rfl 0 (by decide) lk37 (fun _ h9 => h9) rfl (by decide +kernel) rfl rfl (Nat.le_of_ble_eq_true rfl) dX5_setMonth_2 (fun H locs hP hD hS => ?_)
  have hP : va_P E.1 vwCl (wMo E o ad (nI 0) gr co sd tk wm st (nI mo) nx lb fr) H := hP
  have hD : va_D A (wMo E o ad (nI 0) gr co sd tk wm st (nI mo) nx lb fr) := hD
  refine lv_iload_n hx hb dX5_setMonth_5 rfl (lv_at hl 1 rfl) ?_
  refine lv_iconst (v := nI 0) hx hb dX5_setMonth_6 (by decide +kernel) ?_
  refine lv_bipush (v := nI 11) hx hb dX5_setMonth_7 (by decide +kernel) ?_
  refine e_callS (As := [.int (nI M), .int (nI 0), .int (nI 11)]) (rest := []) ⟨hx, hb, hml, hown, hts⟩ hK hP hD hS hA hl.1 (c_X5_isIn l E _ (nI M) (nI 0) (nI 11)) (va_cwS 3 hts gX5_setMonth_X5_isIn rfl rfl rfl (by decide +kernel) ⟨Nat.le_of_ble_eq_true rfl, Nat.le_of_ble_eq_true rfl⟩) [] [0, 1, 2, 3, 4, 5, 6, 7, 8, 9] rfl rfl rfl rfl (by decide) rfl rfl (Nat.le_of_ble_eq_true rfl) dX5_setMonth_9 ⟨Nat.le_of_ble_eq_true rfl, Nat.le_of_ble_eq_true rfl⟩ (fun u_1 H locs hu_2 hsz1 hP hD hS => ?_)
  have hP : va_P E.1 vwCl (wMo E o ad (nI 0) gr co sd tk wm st (nI mo) nx lb fr) H := hP.sub [0, 1, 2, 3, 4, 5, 6, 7, 8, 9] rfl
  have hD : va_D A (wMo E o ad (nI 0) gr co sd tk wm st (nI mo) nx lb fr) := hD.sub [0, 1, 2, 3, 4, 5, 6, 7, 8, 9] (by decide) rfl
  refine W.eq (g2 := F0 m 12 ls [.int (b2i (isInB (nI M) (nI 0) (nI 11)))]) rfl ?_
  refine b_if_ne (x := isInB (nI M) (nI 0) (nI 11)) (tgt := 21) hx hb dX5_setMonth_12 (by decide) (fun c12 => ?_) (fun c12 => by rw [isInB_n (Nat.zero_le _) (show M ≤ 11 by omega) (by decide)] at c12; cases c12)
  refine lv_iload_n hx hb dX5_setMonth_21 rfl (lv_at hl 2 rfl) ?_
  refine lv_iconst (v := nI 0) hx hb dX5_setMonth_22 (by decide +kernel) ?_
  refine lv_bipush (v := nI 9) hx hb dX5_setMonth_23 (by decide +kernel) ?_
  refine e_callS (As := [.int v, .int (nI 0), .int (nI 9)]) (rest := []) ⟨hx, hb, hml, hown, hts⟩ hK hP hD hS hA hl.1 (c_X5_isIn l E _ v (nI 0) (nI 9)) (va_cwS 3 hts gX5_setMonth_X5_isIn rfl rfl rfl (by decide +kernel) ⟨Nat.le_of_ble_eq_true rfl, Nat.le_of_ble_eq_true rfl⟩) [] [0, 1, 2, 3, 4, 5, 6, 7, 8, 9] rfl rfl rfl rfl (by decide) rfl rfl (Nat.le_of_ble_eq_true rfl) dX5_setMonth_25 ⟨Nat.le_of_ble_eq_true rfl, Nat.le_of_ble_eq_true rfl⟩ (fun u_3 H locs hu_4 hsz1 hP hD hS => ?_)
  have hP : va_P E.1 vwCl (wMo E o ad (nI 0) gr co sd tk wm st (nI mo) nx lb fr) H := hP.sub [0, 1, 2, 3, 4, 5, 6, 7, 8, 9] rfl
  have hD : va_D A (wMo E o ad (nI 0) gr co sd tk wm st (nI mo) nx lb fr) := hD.sub [0, 1, 2, 3, 4, 5, 6, 7, 8, 9] (by decide) rfl
  refine W.eq (g2 := F0 m 28 ls [.int (b2i (isInB v (nI 0) (nI 9)))]) rfl ?_
  refine b_if_eq (x := isInB v (nI 0) (nI 9)) (tgt := 41) hx hb dX5_setMonth_28 (by decide) (fun c28 => ?_) (fun c28 => by rw [hv] at c28; cases c28)
  refine lv_aload_n hx hb dX5_setMonth_41 rfl (lv_at hl 0 rfl) ?_
  refine lv_iconst (v := nI 2) hx hb dX5_setMonth_42 (by decide +kernel) ?_
  refine e_callV (As := [.int (nI 2)]) (rest := []) ⟨hx, hb, hml, hown, hts⟩ hK hP hD hS hA hl.1 (c_X5_fail l E _ o ad (nI 0) gr co sd tk wm st mo nx lb fr (nI 2)) (cwV 1 hts gX5_setMonth_X5_fail rfl rfl rfl (by decide +kernel) ⟨Nat.le_of_ble_eq_true rfl, Nat.le_of_ble_eq_true rfl⟩) [0, 1, 2, 3, 4, 5, 6, 7, 8, 9] [] rfl rfl rfl rfl (by decide) (q0 := 0) (ci := 5) rfl rfl rfl rfl (Nat.le_of_ble_eq_true rfl) dX5_setMonth_43 ⟨Nat.le_of_ble_eq_true rfl, Nat.le_of_ble_eq_true rfl⟩ (fun u_5 H locs hu_6 hsz1 hP hD hS => ?_)
  have hP : va_P E.1 vwCl (wMo E o ad (nI 2) gr co sd tk wm st (nI mo) nx lb fr) H := hP.sub [0, 1, 2, 3, 4, 5, 6, 7, 8, 9] rfl
  have hD : va_D A (wMo E o ad (nI 2) gr co sd tk wm st (nI mo) nx lb fr) := hD.sub [0, 1, 2, 3, 4, 5, 6, 7, 8, 9] (by decide) rfl
  refine W.eq (g2 := F0 m 46 ls [.int (nI 0)]) rfl ?_
  exact e_iret () hQ hx hb hr hlocks hP hD hS dX5_setMonth_46 (rfl) (Nat.le_of_ble_eq_true rfl) (Nat.le_of_ble_eq_true rfl) (trivial)

abbrev rm_X5_setMonth_b3 : Room := { frames := 1, cells := 0, slots := 0, locals := 22 }
set_option maxHeartbeats 4000000 in
set_option maxRecDepth 100000 in
theorem c_X5_setMonth_b3 (l : Launch) (E : eT) (sz : Nat) (o : Nat) (ad : Nat → Nat) (th : Int32) (gr : Nat → Int32) (co : Nat → Int32) (sd : Nat → Int32) (tk : Nat → Int32) (wm : Nat → Int32) (st : Nat → Int32) (mo : Nat) (nx : Nat → Int32) (lb : Nat → Option Nat) (fr : Nat → Nat) (M : Nat) (v : Int32) (u_ : Int32) (hM : M < 12) (hv : isInB v (nI 0) (nI 9) = true) (hu : isInB u_ (nI 0) (nI 9) = false) : cM l yX5_setMonth wsX5_setMonth rm_X5_setMonth_b3 E sz [.ref o, .int (nI M), .int v, .int u_] (wMo E o ad th gr co sd tk wm st (nI mo) nx lb fr) (fun u : Unit => some (.int (nI 0))) (fun u : Unit => True) (fun u : Unit => wMo E o ad (nI 2) gr co sd tk wm st (nI mo) nx lb fr) := by
  refine cM_intro (cc := cX5_setMonth) (maxL := 5) (ret := (some .int)) (by decide +kernel) rfl (Nat.le_of_ble_eq_true rfl) ?_
  intro p e s m args below meth cd hx hb hr hml hown hlocks hts hnm hK hsz hP A hD hA Q hQ ls hl
  have hown : s.vm.findClass RX5 = some m.cls := hown
  have hin5 : ∀ w ∈ u_ws RX5 TX5 11, w ∈ wsX5_setMonth := by decide +kernel
  have lk37 := hts (.fieldLink RX5 37 "ReefPilotModel" "thrown" "I") (by decide +kernel)
  have hS : va_S A s.heap s.heap [] := va_S.rf
  have hl : lv_has ls 5 [(0, .ref o), (1, .int (nI M)), (2, .int v), (3, .int u_)] := hl
  refine lv_aload_n hx hb dX5_setMonth_0 rfl (lv_at hl 0 rfl) ?_
  refine lv_iconst (v := nI 0) hx hb dX5_setMonth_1 (by decide +kernel) ?_
  refine va_put (D := E.1) (ci := 5) (v := .int (nI 0)) (ty := .int) (C := RX5) (T := TX5) (N := 11) hx hb hts hin5 tyX5 tyX5_ok nmX5 hown hK.1 hP hD hS 0 rfl rfl 0 (by decide) lk37 (fun _ h9 => h9) rfl (by decide +kernel) rfl rfl (Nat.le_of_ble_eq_true rfl) dX5_setMonth_2 (fun H locs hP hD hS => ?_)
  have hP : va_P E.1 vwCl (wMo E o ad (nI 0) gr co sd tk wm st (nI mo) nx lb fr) H := hP
  have hD : va_D A (wMo E o ad (nI 0) gr co sd tk wm st (nI mo) nx lb fr) := hD
  refine lv_iload_n hx hb dX5_setMonth_5 rfl (lv_at hl 1 rfl) ?_
  refine lv_iconst (v := nI 0) hx hb dX5_setMonth_6 (by decide +kernel) ?_
  refine lv_bipush (v := nI 11) hx hb dX5_setMonth_7 (by decide +kernel) ?_
  refine e_callS (As := [.int (nI M), .int (nI 0), .int (nI 11)]) (rest := []) ⟨hx, hb, hml, hown, hts⟩ hK hP hD hS hA hl.1 (c_X5_isIn l E _ (nI M) (nI 0) (nI 11)) (va_cwS 3 hts gX5_setMonth_X5_isIn rfl rfl rfl (by decide +kernel) ⟨Nat.le_of_ble_eq_true rfl, Nat.le_of_ble_eq_true rfl⟩) [] [0, 1, 2, 3, 4, 5, 6, 7, 8, 9] rfl rfl rfl rfl (by decide) rfl rfl (Nat.le_of_ble_eq_true rfl) dX5_setMonth_9 ⟨Nat.le_of_ble_eq_true rfl, Nat.le_of_ble_eq_true rfl⟩ (fun u_1 H locs hu_2 hsz1 hP hD hS => ?_)
  have hP : va_P E.1 vwCl (wMo E o ad (nI 0) gr co sd tk wm st (nI mo) nx lb fr) H := hP.sub [0, 1, 2, 3, 4, 5, 6, 7, 8, 9] rfl
  have hD : va_D A (wMo E o ad (nI 0) gr co sd tk wm st (nI mo) nx lb fr) := hD.sub [0, 1, 2, 3, 4, 5, 6, 7, 8, 9] (by decide) rfl
  refine W.eq (g2 := F0 m 12 ls [.int (b2i (isInB (nI M) (nI 0) (nI 11)))]) rfl ?_
  refine b_if_ne (x := isInB (nI M) (nI 0) (nI 11)) (tgt := 21) hx hb dX5_setMonth_12 (by decide) (fun c12 => ?_) (fun c12 => by rw [isInB_n (Nat.zero_le _) (show M ≤ 11 by omega) (by decide)] at c12; cases c12)
  refine lv_iload_n hx hb dX5_setMonth_21 rfl (lv_at hl 2 rfl) ?_
  refine lv_iconst (v := nI 0) hx hb dX5_setMonth_22 (by decide +kernel) ?_
  refine lv_bipush (v := nI 9) hx hb dX5_setMonth_23 (by decide +kernel) ?_
  refine e_callS (As := [.int v, .int (nI 0), .int (nI 9)]) (rest := []) ⟨hx, hb, hml, hown, hts⟩ hK hP hD hS hA hl.1 (c_X5_isIn l E _ v (nI 0) (nI 9)) (va_cwS 3 hts gX5_setMonth_X5_isIn rfl rfl rfl (by decide +kernel) ⟨Nat.le_of_ble_eq_true rfl, Nat.le_of_ble_eq_true rfl⟩) [] [0, 1, 2, 3, 4, 5, 6, 7, 8, 9] rfl rfl rfl rfl (by decide) rfl rfl (Nat.le_of_ble_eq_true rfl) dX5_setMonth_25 ⟨Nat.le_of_ble_eq_true rfl, Nat.le_of_ble_eq_true rfl⟩ (fun u_3 H locs hu_4 hsz1 hP hD hS => ?_)
  have hP : va_P E.1 vwCl (wMo E o ad (nI 0) gr co sd tk wm st (nI mo) nx lb fr) H := hP.sub [0, 1, 2, 3, 4, 5, 6, 7, 8, 9] rfl
  have hD : va_D A (wMo E o ad (nI 0) gr co sd tk wm st (nI mo) nx lb fr) := hD.sub [0, 1, 2, 3, 4, 5, 6, 7, 8, 9] (by decide) rfl
  refine W.eq (g2 := F0 m 28 ls [.int (b2i (isInB v (nI 0) (nI 9)))]) rfl ?_
  refine b_if_eq (x := isInB v (nI 0) (nI 9)) (tgt := 41) hx hb dX5_setMonth_28 (by decide) (fun c28 => by rw [hv] at c28; cases c28) (fun c28 => ?_)
  refine lv_iload_n hx hb dX5_setMonth_31 rfl (lv_at hl 3 rfl) ?_
  refine lv_iconst (v := nI 0) hx hb dX5_setMonth_32 (by decide +kernel) ?_
  refine lv_bipush (v := nI 9) hx hb dX5_setMonth_33 (by decide +kernel) ?_
  refine e_callS (As := [.int u_, .int (nI 0), .int (nI 9)]) (rest := []) ⟨hx, hb, hml, hown, hts⟩ hK hP hD hS hA hl.1 (c_X5_isIn l E _ u_ (nI 0) (nI 9)) (va_cwS 3 hts gX5_setMonth_X5_isIn rfl rfl rfl (by decide +kernel) ⟨Nat.le_of_ble_eq_true rfl, Nat.le_of_ble_eq_true rfl⟩) [] [0, 1, 2, 3, 4, 5, 6, 7, 8, 9] rfl rfl rfl rfl (by decide) rfl rfl (Nat.le_of_ble_eq_true rfl) dX5_setMonth_35 ⟨Nat.le_of_ble_eq_true rfl, Nat.le_of_ble_eq_true rfl⟩ (fun u_5 H locs hu_6 hsz1 hP hD hS => ?_)
  have hP : va_P E.1 vwCl (wMo E o ad (nI 0) gr co sd tk wm st (nI mo) nx lb fr) H := hP.sub [0, 1, 2, 3, 4, 5, 6, 7, 8, 9] rfl
  have hD : va_D A (wMo E o ad (nI 0) gr co sd tk wm st (nI mo) nx lb fr) := hD.sub [0, 1, 2, 3, 4, 5, 6, 7, 8, 9] (by decide) rfl
  refine W.eq (g2 := F0 m 38 ls [.int (b2i (isInB u_ (nI 0) (nI 9)))]) rfl ?_
  refine b_if_ne (x := isInB u_ (nI 0) (nI 9)) (tgt := 47) hx hb dX5_setMonth_38 (by decide) (fun c38 => by rw [hu] at c38; cases c38) (fun c38 => ?_)
  refine lv_aload_n hx hb dX5_setMonth_41 rfl (lv_at hl 0 rfl) ?_
  refine lv_iconst (v := nI 2) hx hb dX5_setMonth_42 (by decide +kernel) ?_
  refine e_callV (As := [.int (nI 2)]) (rest := []) ⟨hx, hb, hml, hown, hts⟩ hK hP hD hS hA hl.1 (c_X5_fail l E _ o ad (nI 0) gr co sd tk wm st mo nx lb fr (nI 2)) (cwV 1 hts gX5_setMonth_X5_fail rfl rfl rfl (by decide +kernel) ⟨Nat.le_of_ble_eq_true rfl, Nat.le_of_ble_eq_true rfl⟩) [0, 1, 2, 3, 4, 5, 6, 7, 8, 9] [] rfl rfl rfl rfl (by decide) (q0 := 0) (ci := 5) rfl rfl rfl rfl (Nat.le_of_ble_eq_true rfl) dX5_setMonth_43 ⟨Nat.le_of_ble_eq_true rfl, Nat.le_of_ble_eq_true rfl⟩ (fun u_7 H locs hu_8 hsz1 hP hD hS => ?_)
  have hP : va_P E.1 vwCl (wMo E o ad (nI 2) gr co sd tk wm st (nI mo) nx lb fr) H := hP.sub [0, 1, 2, 3, 4, 5, 6, 7, 8, 9] rfl
  have hD : va_D A (wMo E o ad (nI 2) gr co sd tk wm st (nI mo) nx lb fr) := hD.sub [0, 1, 2, 3, 4, 5, 6, 7, 8, 9] (by decide) rfl
  refine W.eq (g2 := F0 m 46 ls [.int (nI 0)]) rfl ?_
  exact e_iret () hQ hx hb hr hlocks hP hD hS dX5_setMonth_46 (rfl) (Nat.le_of_ble_eq_true rfl) (Nat.le_of_ble_eq_true rfl) (trivial)

abbrev rm_X5_cell : Room := { frames := 3, cells := 0, slots := 0, locals := 68 }
set_option maxHeartbeats 4000000 in
set_option maxRecDepth 100000 in
theorem c_X5_cell (l : Launch) (E : eT) (sz : Nat) (o : Nat) (ad : Nat → Nat) (th : Int32) (gr : Nat → Int32) (co : Nat → Int32) (sd : Nat → Int32) (tk : Nat → Int32) (wm : Nat → Int32) (st : Nat → Int32) (mo : Nat) (nx : Nat → Int32) (lb : Nat → Option Nat) (fr : Nat → Nat) (X : Nat) (Y : Nat) (k : Nat) (hX : X < 9) (hY : Y < 9) (hk : k < 5) : cM l yX5_cell wsX5_cell rm_X5_cell E sz [.ref o, .int (nI X), .int (nI Y), .int (nI k)] (wMo E o ad th gr co sd tk wm st (nI mo) nx lb fr) (fun u : (Nat → Option Nat) => some (.int (celA gr co ((9 * Y) + X) k))) (fun u : (Nat → Option Nat) => True) (fun u : (Nat → Option Nat) => wMo E o ad (nI 0) gr co sd tk wm st (nI mo) nx u fr) := by
  refine cM_intro (cc := cX5_cell) (maxL := 5) (ret := (some .int)) (by decide +kernel) rfl (Nat.le_of_ble_eq_true rfl) ?_
  intro p e s m args below meth cd hx hb hr hml hown hlocks hts hnm hK hsz hP A hD hA Q hQ ls hl
  have hown : s.vm.findClass RX5 = some m.cls := hown
  have hin5 : ∀ w ∈ u_ws RX5 TX5 11, w ∈ wsX5_cell := by decide +kernel
  have lk9 := hts (.fieldLink RX5 9 "ReefPilotModel" "ground" "[I") (by decide +kernel)
  have lk13 := hts (.fieldLink RX5 13 "ReefPilotModel" "coral" "[I") (by decide +kernel)
  have lk37 := hts (.fieldLink RX5 37 "ReefPilotModel" "thrown" "I") (by decide +kernel)
  have hS : va_S A s.heap s.heap [] := va_S.rf
  have hl : lv_has ls 5 [(0, .ref o), (1, .int (nI X)), (2, .int (nI Y)), (3, .int (nI k))] := hl
  refine lv_aload_n hx hb dX5_cell_0 rfl (lv_at hl 0 rfl) ?_
  refine lv_iconst (v := nI 0) hx hb dX5_cell_1 (by decide +kernel) ?_
  refine va_put (D := E.1) (ci := 5) (v := .int (nI 0)) (ty := .int) (C := RX5) (T := TX5) (N := 11) hx hb hts hin5 tyX5 tyX5_ok nmX5 hown hK.1 hP hD hS 0 rfl rfl 0 (by decide) lk37 (fun _ h9 => h9) rfl (by decide +kernel) rfl rfl (Nat.le_of_ble_eq_true rfl) dX5_cell_2 (fun H locs hP hD hS => ?_)
  have hP : va_P E.1 vwCl (wMo E o ad (nI 0) gr co sd tk wm st (nI mo) nx lb fr) H := hP
  have hD : va_D A (wMo E o ad (nI 0) gr co sd tk wm st (nI mo) nx lb fr) := hD
  refine lv_iload_n hx hb dX5_cell_5 rfl (lv_at hl 1 rfl) ?_
  refine lv_iload_n hx hb dX5_cell_6 rfl (lv_at hl 2 rfl) ?_
  refine e_callS (As := [.int (nI X), .int (nI Y)]) (rest := []) ⟨hx, hb, hml, hown, hts⟩ hK hP hD hS hA hl.1 (c_X5_isCell l E _ (nI X) (nI Y)) (va_cwS 2 hts gX5_cell_X5_isCell rfl rfl rfl (by decide +kernel) ⟨Nat.le_of_ble_eq_true rfl, Nat.le_of_ble_eq_true rfl⟩) [] [0, 1, 2, 3, 4, 5, 6, 7, 8, 9] rfl rfl rfl rfl (by decide) rfl rfl (Nat.le_of_ble_eq_true rfl) dX5_cell_7 ⟨Nat.le_of_ble_eq_true rfl, Nat.le_of_ble_eq_true rfl⟩ (fun u_1 H locs hu_2 hsz1 hP hD hS => ?_)
  have hP : va_P E.1 vwCl (wMo E o ad (nI 0) gr co sd tk wm st (nI mo) nx lb fr) H := hP.sub [0, 1, 2, 3, 4, 5, 6, 7, 8, 9] rfl
  have hD : va_D A (wMo E o ad (nI 0) gr co sd tk wm st (nI mo) nx lb fr) := hD.sub [0, 1, 2, 3, 4, 5, 6, 7, 8, 9] (by decide) rfl
  refine W.eq (g2 := F0 m 10 ls [.int (b2i (isCellB (nI X) (nI Y)))]) rfl ?_
  refine b_if_eq (x := isCellB (nI X) (nI Y)) (tgt := 22) hx hb dX5_cell_10 (by decide) (fun c10 => by rw [isCellB_n hX hY] at c10; cases c10) (fun c10 => ?_)
  refine lv_iload_n hx hb dX5_cell_13 rfl (lv_at hl 3 rfl) ?_
  refine lv_iconst (v := nI 0) hx hb dX5_cell_14 (by decide +kernel) ?_
  refine lv_iconst (v := nI 4) hx hb dX5_cell_15 (by decide +kernel) ?_
  refine e_callS (As := [.int (nI k), .int (nI 0), .int (nI 4)]) (rest := []) ⟨hx, hb, hml, hown, hts⟩ hK hP hD hS hA hl.1 (c_X5_isIn l E _ (nI k) (nI 0) (nI 4)) (va_cwS 3 hts gX5_cell_X5_isIn rfl rfl rfl (by decide +kernel) ⟨Nat.le_of_ble_eq_true rfl, Nat.le_of_ble_eq_true rfl⟩) [] [0, 1, 2, 3, 4, 5, 6, 7, 8, 9] rfl rfl rfl rfl (by decide) rfl rfl (Nat.le_of_ble_eq_true rfl) dX5_cell_16 ⟨Nat.le_of_ble_eq_true rfl, Nat.le_of_ble_eq_true rfl⟩ (fun u_3 H locs hu_4 hsz1 hP hD hS => ?_)
  have hP : va_P E.1 vwCl (wMo E o ad (nI 0) gr co sd tk wm st (nI mo) nx lb fr) H := hP.sub [0, 1, 2, 3, 4, 5, 6, 7, 8, 9] rfl
  have hD : va_D A (wMo E o ad (nI 0) gr co sd tk wm st (nI mo) nx lb fr) := hD.sub [0, 1, 2, 3, 4, 5, 6, 7, 8, 9] (by decide) rfl
  refine W.eq (g2 := F0 m 19 ls [.int (b2i (isInB (nI k) (nI 0) (nI 4)))]) rfl ?_
  refine b_if_ne (x := isInB (nI k) (nI 0) (nI 4)) (tgt := 28) hx hb dX5_cell_19 (by decide) (fun c19 => ?_) (fun c19 => by rw [isInB_n (Nat.zero_le _) (show k ≤ 4 by omega) (by decide)] at c19; cases c19)
  refine lv_bipush (v := nI 9) hx hb dX5_cell_28 (by decide +kernel) ?_
  refine lv_iload_n hx hb dX5_cell_30 rfl (lv_at hl 2 rfl) ?_
  refine lv_imul hx hb dX5_cell_31 ?_
  refine e_top (pk_mul _ _) ?_
  refine lv_iload_n hx hb dX5_cell_32 rfl (lv_at hl 1 rfl) ?_
  refine lv_iadd hx hb dX5_cell_33 ?_
  refine e_top (nI_add _ _) ?_
  refine lv_istore (lv' := [(4, .int (nI ((9 * Y) + X))), (0, .ref o), (1, .int (nI X)), (2, .int (nI Y)), (3, .int (nI k))]) hx hb dX5_cell_34 hl (by decide) rfl (fun ls hl => ?_)
  refine lv_iload_n hx hb dX5_cell_36 rfl (lv_at hl 4 rfl) ?_
  refine n_if_ne (x := k) (by omega) (tgt := 50) hx hb dX5_cell_37 (by decide) (fun c37 => ?_) (fun c37 => ?_)
  · refine lv_iload_n hx hb dX5_cell_50 rfl (lv_at hl 4 rfl) ?_
    refine lv_iconst (v := nI 1) hx hb dX5_cell_51 (by decide +kernel) ?_
    refine n_icmp_ne (x := k) (y := 1) (by omega) (by omega) (tgt := 65) hx hb dX5_cell_52 (by decide) (fun c52 => ?_) (fun c52 => ?_)
    · refine lv_iload_n hx hb dX5_cell_65 rfl (lv_at hl 4 rfl) ?_
      refine lv_iconst (v := nI 2) hx hb dX5_cell_66 (by decide +kernel) ?_
      refine n_icmp_ne (x := k) (y := 2) (by omega) (by omega) (tgt := 79) hx hb dX5_cell_67 (by decide) (fun c67 => ?_) (fun c67 => ?_)
      · refine lv_iload_n hx hb dX5_cell_79 rfl (lv_at hl 4 rfl) ?_
        refine lv_iconst (v := nI 3) hx hb dX5_cell_80 (by decide +kernel) ?_
        refine n_icmp_ne (x := k) (y := 3) (by omega) (by omega) (tgt := 101) hx hb dX5_cell_81 (by decide) (fun c81 => ?_) (fun c81 => ?_)
        · refine lv_aload_n hx hb dX5_cell_101 rfl (lv_at hl 1 rfl) ?_
          refine lv_iload hx hb dX5_cell_102 (lv_at hl 0 rfl) ?_
          refine e_callV (As := [.int (nI ((9 * Y) + X))]) (rest := []) ⟨hx, hb, hml, hown, hts⟩ hK hP hD hS hA hl.1 (c_X5_reefOf l E _ o ad (nI 0) gr co sd tk wm st mo nx lb fr ((9 * Y) + X) (by first | omega | assumption | rfl | (simp_all; done))) (cwV 1 hts gX5_cell_X5_reefOf rfl rfl rfl (by decide +kernel) ⟨Nat.le_of_ble_eq_true rfl, Nat.le_of_ble_eq_true rfl⟩) [0, 1, 2, 3, 4, 5, 6, 7, 8, 9] [] rfl rfl rfl rfl (by decide) (q0 := 0) (ci := 5) rfl rfl rfl rfl (Nat.le_of_ble_eq_true rfl) dX5_cell_104 ⟨Nat.le_of_ble_eq_true rfl, Nat.le_of_ble_eq_true rfl⟩ (fun u_5 H locs hu_6 hsz1 hP hD hS => ?_)
          obtain ⟨lb__7, rfl⟩ : ∃ z, z = u_5 := ⟨_, rfl⟩
          have hP : va_P E.1 vwCl (wMo E o ad (nI 0) gr co sd tk wm st (nI mo) nx lb__7 fr) H := hP.sub [0, 1, 2, 3, 4, 5, 6, 7, 8, 9] rfl
          have hD : va_D A (wMo E o ad (nI 0) gr co sd tk wm st (nI mo) nx lb__7 fr) := hD.sub [0, 1, 2, 3, 4, 5, 6, 7, 8, 9] (by decide) rfl
          refine W.eq (g2 := F0 m 107 ls [.int (nI (sizeN (hd co) ((9 * Y) + X)))]) rfl ?_
          exact e_iret lb__7 hQ hx hb hr hlocks hP hD hS dX5_cell_107 (rvi (by rcases (show k = 0 ∨ k = 1 ∨ k = 2 ∨ k = 3 ∨ k = 4 by omega) with rfl | rfl | rfl | rfl | rfl <;> first | (exfalso; omega) | rfl | (show b2i (hd co _) = _; rw [c90]; rfl))) (Nat.le_of_ble_eq_true rfl) (Nat.le_of_ble_eq_true rfl) (trivial)
        · refine lv_aload_n hx hb dX5_cell_84 rfl (lv_at hl 1 rfl) ?_
          refine lv_iload hx hb dX5_cell_85 (lv_at hl 0 rfl) ?_
          refine e_callV (As := [.int (nI ((9 * Y) + X))]) (rest := []) ⟨hx, hb, hml, hown, hts⟩ hK hP hD hS hA hl.1 (c_X5_isHead l E _ o ad (nI 0) gr co sd tk wm st mo nx lb fr ((9 * Y) + X) (by first | omega | assumption | rfl | (simp_all; done))) (cwV 1 hts gX5_cell_X5_isHead rfl rfl rfl (by decide +kernel) ⟨Nat.le_of_ble_eq_true rfl, Nat.le_of_ble_eq_true rfl⟩) [0, 1, 2, 3, 4, 5, 6, 7, 8, 9] [] rfl rfl rfl rfl (by decide) (q0 := 0) (ci := 5) rfl rfl rfl rfl (Nat.le_of_ble_eq_true rfl) dX5_cell_87 ⟨Nat.le_of_ble_eq_true rfl, Nat.le_of_ble_eq_true rfl⟩ (fun u_8 H locs hu_9 hsz1 hP hD hS => ?_)
          have hP : va_P E.1 vwCl (wMo E o ad (nI 0) gr co sd tk wm st (nI mo) nx lb fr) H := hP.sub [0, 1, 2, 3, 4, 5, 6, 7, 8, 9] rfl
          have hD : va_D A (wMo E o ad (nI 0) gr co sd tk wm st (nI mo) nx lb fr) := hD.sub [0, 1, 2, 3, 4, 5, 6, 7, 8, 9] (by decide) rfl
          refine W.eq (g2 := F0 m 90 ls [.int (b2i (hd co ((9 * Y) + X)))]) rfl ?_
          refine b_if_eq (x := hd co ((9 * Y) + X)) (tgt := 97) hx hb dX5_cell_90 (by decide) (fun c90 => ?_) (fun c90 => ?_)
          · refine lv_iconst (v := nI 0) hx hb dX5_cell_97 (by decide +kernel) ?_
            refine lv_goto (tgt := 107) hx hb dX5_cell_98 (by decide) ?_
            exact e_iret lb hQ hx hb hr hlocks hP hD hS dX5_cell_107 (rvi (by rcases (show k = 0 ∨ k = 1 ∨ k = 2 ∨ k = 3 ∨ k = 4 by omega) with rfl | rfl | rfl | rfl | rfl <;> first | (exfalso; omega) | rfl | (show b2i (hd co _) = _; rw [c90]; rfl))) (Nat.le_of_ble_eq_true rfl) (Nat.le_of_ble_eq_true rfl) (trivial)
          · refine lv_iconst (v := nI 1) hx hb dX5_cell_93 (by decide +kernel) ?_
            refine lv_goto (tgt := 107) hx hb dX5_cell_94 (by decide) ?_
            exact e_iret lb hQ hx hb hr hlocks hP hD hS dX5_cell_107 (rvi (by rcases (show k = 0 ∨ k = 1 ∨ k = 2 ∨ k = 3 ∨ k = 4 by omega) with rfl | rfl | rfl | rfl | rfl <;> first | (exfalso; omega) | rfl | (show b2i (hd co _) = _; rw [c90]; rfl))) (Nat.le_of_ble_eq_true rfl) (Nat.le_of_ble_eq_true rfl) (trivial)
      · refine lv_aload_n hx hb dX5_cell_70 rfl (lv_at hl 1 rfl) ?_
        refine lv_iload hx hb dX5_cell_71 (lv_at hl 0 rfl) ?_
        refine e_callV (As := [.int (nI ((9 * Y) + X))]) (rest := []) ⟨hx, hb, hml, hown, hts⟩ hK hP hD hS hA hl.1 (c_X5_depth l E _ o ad (nI 0) gr co sd tk wm st mo nx lb fr ((9 * Y) + X) (by first | omega | assumption | rfl | (simp_all; done))) (cwV 1 hts gX5_cell_X5_depth rfl rfl rfl (by decide +kernel) ⟨Nat.le_of_ble_eq_true rfl, Nat.le_of_ble_eq_true rfl⟩) [0, 1, 2, 3, 4, 5, 6, 7, 8, 9] [] rfl rfl rfl rfl (by decide) (q0 := 0) (ci := 5) rfl rfl rfl rfl (Nat.le_of_ble_eq_true rfl) dX5_cell_73 ⟨Nat.le_of_ble_eq_true rfl, Nat.le_of_ble_eq_true rfl⟩ (fun u_10 H locs hu_11 hsz1 hP hD hS => ?_)
        have hP : va_P E.1 vwCl (wMo E o ad (nI 0) gr co sd tk wm st (nI mo) nx lb fr) H := hP.sub [0, 1, 2, 3, 4, 5, 6, 7, 8, 9] rfl
        have hD : va_D A (wMo E o ad (nI 0) gr co sd tk wm st (nI mo) nx lb fr) := hD.sub [0, 1, 2, 3, 4, 5, 6, 7, 8, 9] (by decide) rfl
        refine W.eq (g2 := F0 m 76 ls [.int (dep gr co ((9 * Y) + X))]) rfl ?_
        refine lv_goto (tgt := 107) hx hb dX5_cell_76 (by decide) ?_
        exact e_iret lb hQ hx hb hr hlocks hP hD hS dX5_cell_107 (rvi (by rcases (show k = 0 ∨ k = 1 ∨ k = 2 ∨ k = 3 ∨ k = 4 by omega) with rfl | rfl | rfl | rfl | rfl <;> first | (exfalso; omega) | rfl | (show b2i (hd co _) = _; rw [c90]; rfl))) (Nat.le_of_ble_eq_true rfl) (Nat.le_of_ble_eq_true rfl) (trivial)
    · refine lv_aload_n hx hb dX5_cell_55 rfl (lv_at hl 1 rfl) ?_
      refine va_get (D := E.1) (ci := 5) (v := .ref (ad 1)) (C := RX5) (T := TX5) (N := 11) hx hb hts hin5 hown hK.1 hP 0 rfl rfl 2 (by decide) lk13 (fun _ h9 => h9) rfl dX5_cell_56 ?_
      refine lv_iload hx hb dX5_cell_59 (lv_at hl 0 rfl) ?_
      refine e_iald hK hP 2 rfl ((9 * Y) + X) (by omega) (by decide) hx hb dX5_cell_61 ?_
      refine lv_goto (tgt := 107) hx hb dX5_cell_62 (by decide) ?_
      exact e_iret lb hQ hx hb hr hlocks hP hD hS dX5_cell_107 (rvi (by rcases (show k = 0 ∨ k = 1 ∨ k = 2 ∨ k = 3 ∨ k = 4 by omega) with rfl | rfl | rfl | rfl | rfl <;> first | (exfalso; omega) | rfl | (show b2i (hd co _) = _; rw [c90]; rfl))) (Nat.le_of_ble_eq_true rfl) (Nat.le_of_ble_eq_true rfl) (trivial)
  · refine lv_aload_n hx hb dX5_cell_40 rfl (lv_at hl 1 rfl) ?_
    refine va_get (D := E.1) (ci := 5) (v := .ref (ad 0)) (C := RX5) (T := TX5) (N := 11) hx hb hts hin5 hown hK.1 hP 0 rfl rfl 1 (by decide) lk9 (fun _ h9 => h9) rfl dX5_cell_41 ?_
    refine lv_iload hx hb dX5_cell_44 (lv_at hl 0 rfl) ?_
    refine e_iald hK hP 1 rfl ((9 * Y) + X) (by omega) (by decide) hx hb dX5_cell_46 ?_
    refine lv_goto (tgt := 107) hx hb dX5_cell_47 (by decide) ?_
    exact e_iret lb hQ hx hb hr hlocks hP hD hS dX5_cell_107 (rvi (by rcases (show k = 0 ∨ k = 1 ∨ k = 2 ∨ k = 3 ∨ k = 4 by omega) with rfl | rfl | rfl | rfl | rfl <;> first | (exfalso; omega) | rfl | (show b2i (hd co _) = _; rw [c90]; rfl))) (Nat.le_of_ble_eq_true rfl) (Nat.le_of_ble_eq_true rfl) (trivial)

abbrev rm_X5_cell_b1 : Room := { frames := 2, cells := 0, slots := 0, locals := 43 }
set_option maxHeartbeats 4000000 in
set_option maxRecDepth 100000 in
theorem c_X5_cell_b1 (l : Launch) (E : eT) (sz : Nat) (o : Nat) (ad : Nat → Nat) (th : Int32) (gr : Nat → Int32) (co : Nat → Int32) (sd : Nat → Int32) (tk : Nat → Int32) (wm : Nat → Int32) (st : Nat → Int32) (mo : Nat) (nx : Nat → Int32) (lb : Nat → Option Nat) (fr : Nat → Nat) (x : Int32) (y : Int32) (v : Int32) (hc : isCellB x y = false) : cM l yX5_cell wsX5_cell rm_X5_cell_b1 E sz [.ref o, .int x, .int y, .int v] (wMo E o ad th gr co sd tk wm st (nI mo) nx lb fr) (fun u : Unit => some (.int (nI 0))) (fun u : Unit => True) (fun u : Unit => wMo E o ad (nI 1) gr co sd tk wm st (nI mo) nx lb fr) := by
  refine cM_intro (cc := cX5_cell) (maxL := 5) (ret := (some .int)) (by decide +kernel) rfl (Nat.le_of_ble_eq_true rfl) ?_
  intro p e s m args below meth cd hx hb hr hml hown hlocks hts hnm hK hsz hP A hD hA Q hQ ls hl
  have hown : s.vm.findClass RX5 = some m.cls := hown
  have hin5 : ∀ w ∈ u_ws RX5 TX5 11, w ∈ wsX5_cell := by decide +kernel
  have lk37 := hts (.fieldLink RX5 37 "ReefPilotModel" "thrown" "I") (by decide +kernel)
  have hS : va_S A s.heap s.heap [] := va_S.rf
  have hl : lv_has ls 5 [(0, .ref o), (1, .int x), (2, .int y), (3, .int v)] := hl
  refine lv_aload_n hx hb dX5_cell_0 rfl (lv_at hl 0 rfl) ?_
  refine lv_iconst (v := nI 0) hx hb dX5_cell_1 (by decide +kernel) ?_
  refine va_put (D := E.1) (ci := 5) (v := .int (nI 0)) (ty := .int) (C := RX5) (T := TX5) (N := 11) hx hb hts hin5 tyX5 tyX5_ok nmX5 hown hK.1 hP hD hS 0 rfl rfl 0 (by decide) lk37 (fun _ h9 => h9) rfl (by decide +kernel) rfl rfl (Nat.le_of_ble_eq_true rfl) dX5_cell_2 (fun H locs hP hD hS => ?_)
  have hP : va_P E.1 vwCl (wMo E o ad (nI 0) gr co sd tk wm st (nI mo) nx lb fr) H := hP
  have hD : va_D A (wMo E o ad (nI 0) gr co sd tk wm st (nI mo) nx lb fr) := hD
  refine lv_iload_n hx hb dX5_cell_5 rfl (lv_at hl 1 rfl) ?_
  refine lv_iload_n hx hb dX5_cell_6 rfl (lv_at hl 2 rfl) ?_
  refine e_callS (As := [.int x, .int y]) (rest := []) ⟨hx, hb, hml, hown, hts⟩ hK hP hD hS hA hl.1 (c_X5_isCell l E _ x y) (va_cwS 2 hts gX5_cell_X5_isCell rfl rfl rfl (by decide +kernel) ⟨Nat.le_of_ble_eq_true rfl, Nat.le_of_ble_eq_true rfl⟩) [] [0, 1, 2, 3, 4, 5, 6, 7, 8, 9] rfl rfl rfl rfl (by decide) rfl rfl (Nat.le_of_ble_eq_true rfl) dX5_cell_7 ⟨Nat.le_of_ble_eq_true rfl, Nat.le_of_ble_eq_true rfl⟩ (fun u_1 H locs hu_2 hsz1 hP hD hS => ?_)
  have hP : va_P E.1 vwCl (wMo E o ad (nI 0) gr co sd tk wm st (nI mo) nx lb fr) H := hP.sub [0, 1, 2, 3, 4, 5, 6, 7, 8, 9] rfl
  have hD : va_D A (wMo E o ad (nI 0) gr co sd tk wm st (nI mo) nx lb fr) := hD.sub [0, 1, 2, 3, 4, 5, 6, 7, 8, 9] (by decide) rfl
  refine W.eq (g2 := F0 m 10 ls [.int (b2i (isCellB x y))]) rfl ?_
  refine b_if_eq (x := isCellB x y) (tgt := 22) hx hb dX5_cell_10 (by decide) (fun c10 => ?_) (fun c10 => by rw [hc] at c10; cases c10)
  refine lv_aload_n hx hb dX5_cell_22 rfl (lv_at hl 0 rfl) ?_
  refine lv_iconst (v := nI 1) hx hb dX5_cell_23 (by decide +kernel) ?_
  refine e_callV (As := [.int (nI 1)]) (rest := []) ⟨hx, hb, hml, hown, hts⟩ hK hP hD hS hA hl.1 (c_X5_fail l E _ o ad (nI 0) gr co sd tk wm st mo nx lb fr (nI 1)) (cwV 1 hts gX5_cell_X5_fail rfl rfl rfl (by decide +kernel) ⟨Nat.le_of_ble_eq_true rfl, Nat.le_of_ble_eq_true rfl⟩) [0, 1, 2, 3, 4, 5, 6, 7, 8, 9] [] rfl rfl rfl rfl (by decide) (q0 := 0) (ci := 5) rfl rfl rfl rfl (Nat.le_of_ble_eq_true rfl) dX5_cell_24 ⟨Nat.le_of_ble_eq_true rfl, Nat.le_of_ble_eq_true rfl⟩ (fun u_3 H locs hu_4 hsz1 hP hD hS => ?_)
  have hP : va_P E.1 vwCl (wMo E o ad (nI 1) gr co sd tk wm st (nI mo) nx lb fr) H := hP.sub [0, 1, 2, 3, 4, 5, 6, 7, 8, 9] rfl
  have hD : va_D A (wMo E o ad (nI 1) gr co sd tk wm st (nI mo) nx lb fr) := hD.sub [0, 1, 2, 3, 4, 5, 6, 7, 8, 9] (by decide) rfl
  refine W.eq (g2 := F0 m 27 ls [.int (nI 0)]) rfl ?_
  exact e_iret () hQ hx hb hr hlocks hP hD hS dX5_cell_27 (rfl) (Nat.le_of_ble_eq_true rfl) (Nat.le_of_ble_eq_true rfl) (trivial)

abbrev rm_X5_cell_b2 : Room := { frames := 2, cells := 0, slots := 0, locals := 43 }
set_option maxHeartbeats 4000000 in
set_option maxRecDepth 100000 in
theorem c_X5_cell_b2 (l : Launch) (E : eT) (sz : Nat) (o : Nat) (ad : Nat → Nat) (th : Int32) (gr : Nat → Int32) (co : Nat → Int32) (sd : Nat → Int32) (tk : Nat → Int32) (wm : Nat → Int32) (st : Nat → Int32) (mo : Nat) (nx : Nat → Int32) (lb : Nat → Option Nat) (fr : Nat → Nat) (X : Nat) (Y : Nat) (v : Int32) (hX : X < 9) (hY : Y < 9) (hv : isInB v (nI 0) (nI 4) = false) : cM l yX5_cell wsX5_cell rm_X5_cell_b2 E sz [.ref o, .int (nI X), .int (nI Y), .int v] (wMo E o ad th gr co sd tk wm st (nI mo) nx lb fr) (fun u : Unit => some (.int (nI 0))) (fun u : Unit => True) (fun u : Unit => wMo E o ad (nI 1) gr co sd tk wm st (nI mo) nx lb fr) := by
  refine cM_intro (cc := cX5_cell) (maxL := 5) (ret := (some .int)) (by decide +kernel) rfl (Nat.le_of_ble_eq_true rfl) ?_
  intro p e s m args below meth cd hx hb hr hml hown hlocks hts hnm hK hsz hP A hD hA Q hQ ls hl
  have hown : s.vm.findClass RX5 = some m.cls := hown
  have hin5 : ∀ w ∈ u_ws RX5 TX5 11, w ∈ wsX5_cell := by decide +kernel
  have lk37 := hts (.fieldLink RX5 37 "ReefPilotModel" "thrown" "I") (by decide +kernel)
  have hS : va_S A s.heap s.heap [] := va_S.rf
  have hl : lv_has ls 5 [(0, .ref o), (1, .int (nI X)), (2, .int (nI Y)), (3, .int v)] := hl
  refine lv_aload_n hx hb dX5_cell_0 rfl (lv_at hl 0 rfl) ?_
  refine lv_iconst (v := nI 0) hx hb dX5_cell_1 (by decide +kernel) ?_
  refine va_put (D := E.1) (ci := 5) (v := .int (nI 0)) (ty := .int) (C := RX5) (T := TX5) (N := 11) hx hb hts hin5 tyX5 tyX5_ok nmX5 hown hK.1 hP hD hS 0 rfl rfl 0 (by decide) lk37 (fun _ h9 => h9) rfl (by decide +kernel) rfl rfl (Nat.le_of_ble_eq_true rfl) dX5_cell_2 (fun H locs hP hD hS => ?_)
  have hP : va_P E.1 vwCl (wMo E o ad (nI 0) gr co sd tk wm st (nI mo) nx lb fr) H := hP
  have hD : va_D A (wMo E o ad (nI 0) gr co sd tk wm st (nI mo) nx lb fr) := hD
  refine lv_iload_n hx hb dX5_cell_5 rfl (lv_at hl 1 rfl) ?_
  refine lv_iload_n hx hb dX5_cell_6 rfl (lv_at hl 2 rfl) ?_
  refine e_callS (As := [.int (nI X), .int (nI Y)]) (rest := []) ⟨hx, hb, hml, hown, hts⟩ hK hP hD hS hA hl.1 (c_X5_isCell l E _ (nI X) (nI Y)) (va_cwS 2 hts gX5_cell_X5_isCell rfl rfl rfl (by decide +kernel) ⟨Nat.le_of_ble_eq_true rfl, Nat.le_of_ble_eq_true rfl⟩) [] [0, 1, 2, 3, 4, 5, 6, 7, 8, 9] rfl rfl rfl rfl (by decide) rfl rfl (Nat.le_of_ble_eq_true rfl) dX5_cell_7 ⟨Nat.le_of_ble_eq_true rfl, Nat.le_of_ble_eq_true rfl⟩ (fun u_1 H locs hu_2 hsz1 hP hD hS => ?_)
  have hP : va_P E.1 vwCl (wMo E o ad (nI 0) gr co sd tk wm st (nI mo) nx lb fr) H := hP.sub [0, 1, 2, 3, 4, 5, 6, 7, 8, 9] rfl
  have hD : va_D A (wMo E o ad (nI 0) gr co sd tk wm st (nI mo) nx lb fr) := hD.sub [0, 1, 2, 3, 4, 5, 6, 7, 8, 9] (by decide) rfl
  refine W.eq (g2 := F0 m 10 ls [.int (b2i (isCellB (nI X) (nI Y)))]) rfl ?_
  refine b_if_eq (x := isCellB (nI X) (nI Y)) (tgt := 22) hx hb dX5_cell_10 (by decide) (fun c10 => by rw [isCellB_n hX hY] at c10; cases c10) (fun c10 => ?_)
  refine lv_iload_n hx hb dX5_cell_13 rfl (lv_at hl 3 rfl) ?_
  refine lv_iconst (v := nI 0) hx hb dX5_cell_14 (by decide +kernel) ?_
  refine lv_iconst (v := nI 4) hx hb dX5_cell_15 (by decide +kernel) ?_
  refine e_callS (As := [.int v, .int (nI 0), .int (nI 4)]) (rest := []) ⟨hx, hb, hml, hown, hts⟩ hK hP hD hS hA hl.1 (c_X5_isIn l E _ v (nI 0) (nI 4)) (va_cwS 3 hts gX5_cell_X5_isIn rfl rfl rfl (by decide +kernel) ⟨Nat.le_of_ble_eq_true rfl, Nat.le_of_ble_eq_true rfl⟩) [] [0, 1, 2, 3, 4, 5, 6, 7, 8, 9] rfl rfl rfl rfl (by decide) rfl rfl (Nat.le_of_ble_eq_true rfl) dX5_cell_16 ⟨Nat.le_of_ble_eq_true rfl, Nat.le_of_ble_eq_true rfl⟩ (fun u_3 H locs hu_4 hsz1 hP hD hS => ?_)
  have hP : va_P E.1 vwCl (wMo E o ad (nI 0) gr co sd tk wm st (nI mo) nx lb fr) H := hP.sub [0, 1, 2, 3, 4, 5, 6, 7, 8, 9] rfl
  have hD : va_D A (wMo E o ad (nI 0) gr co sd tk wm st (nI mo) nx lb fr) := hD.sub [0, 1, 2, 3, 4, 5, 6, 7, 8, 9] (by decide) rfl
  refine W.eq (g2 := F0 m 19 ls [.int (b2i (isInB v (nI 0) (nI 4)))]) rfl ?_
  refine b_if_ne (x := isInB v (nI 0) (nI 4)) (tgt := 28) hx hb dX5_cell_19 (by decide) (fun c19 => by rw [hv] at c19; cases c19) (fun c19 => ?_)
  refine lv_aload_n hx hb dX5_cell_22 rfl (lv_at hl 0 rfl) ?_
  refine lv_iconst (v := nI 1) hx hb dX5_cell_23 (by decide +kernel) ?_
  refine e_callV (As := [.int (nI 1)]) (rest := []) ⟨hx, hb, hml, hown, hts⟩ hK hP hD hS hA hl.1 (c_X5_fail l E _ o ad (nI 0) gr co sd tk wm st mo nx lb fr (nI 1)) (cwV 1 hts gX5_cell_X5_fail rfl rfl rfl (by decide +kernel) ⟨Nat.le_of_ble_eq_true rfl, Nat.le_of_ble_eq_true rfl⟩) [0, 1, 2, 3, 4, 5, 6, 7, 8, 9] [] rfl rfl rfl rfl (by decide) (q0 := 0) (ci := 5) rfl rfl rfl rfl (Nat.le_of_ble_eq_true rfl) dX5_cell_24 ⟨Nat.le_of_ble_eq_true rfl, Nat.le_of_ble_eq_true rfl⟩ (fun u_5 H locs hu_6 hsz1 hP hD hS => ?_)
  have hP : va_P E.1 vwCl (wMo E o ad (nI 1) gr co sd tk wm st (nI mo) nx lb fr) H := hP.sub [0, 1, 2, 3, 4, 5, 6, 7, 8, 9] rfl
  have hD : va_D A (wMo E o ad (nI 1) gr co sd tk wm st (nI mo) nx lb fr) := hD.sub [0, 1, 2, 3, 4, 5, 6, 7, 8, 9] (by decide) rfl
  refine W.eq (g2 := F0 m 27 ls [.int (nI 0)]) rfl ?_
  exact e_iret () hQ hx hb hr hlocks hP hD hS dX5_cell_27 (rfl) (Nat.le_of_ble_eq_true rfl) (Nat.le_of_ble_eq_true rfl) (trivial)

abbrev rm_X5_sound : Room := { frames := 2, cells := 0, slots := 0, locals := 43 }
set_option maxHeartbeats 4000000 in
set_option maxRecDepth 100000 in
theorem c_X5_sound (l : Launch) (E : eT) (sz : Nat) (o : Nat) (ad : Nat → Nat) (th : Int32) (gr : Nat → Int32) (co : Nat → Int32) (sd : Nat → Int32) (tk : Nat → Int32) (wm : Nat → Int32) (st : Nat → Int32) (mo : Nat) (nx : Nat → Int32) (lb : Nat → Option Nat) (fr : Nat → Nat) (X : Nat) (Y : Nat) (hX : X < 9) (hY : Y < 9) : cM l yX5_sound wsX5_sound rm_X5_sound E sz [.ref o, .int (nI X), .int (nI Y)] (wMo E o ad th gr co sd tk wm st (nI mo) nx lb fr) (fun u : Unit => some (.int (sndR gr co sd ((9 * Y) + X)))) (fun u : Unit => True) (fun u : Unit => wMo E o ad (nI 0) gr co (upd sd ((9 * Y) + X) (dep gr co ((9 * Y) + X))) (upd tk ((9 * Y) + X) (nI mo)) wm st (nI mo) nx lb fr) := by
  refine cM_intro (cc := cX5_sound) (maxL := 5) (ret := (some .int)) (by decide +kernel) rfl (Nat.le_of_ble_eq_true rfl) ?_
  intro p e s m args below meth cd hx hb hr hml hown hlocks hts hnm hK hsz hP A hD hA Q hQ ls hl
  have hown : s.vm.findClass RX5 = some m.cls := hown
  have hin5 : ∀ w ∈ u_ws RX5 TX5 11, w ∈ wsX5_sound := by decide +kernel
  have lk16 := hts (.fieldLink RX5 16 "ReefPilotModel" "sounding" "[I") (by decide +kernel)
  have lk19 := hts (.fieldLink RX5 19 "ReefPilotModel" "taken" "[I") (by decide +kernel)
  have lk37 := hts (.fieldLink RX5 37 "ReefPilotModel" "thrown" "I") (by decide +kernel)
  have lk78 := hts (.fieldLink RX5 78 "ReefPilotModel" "month" "I") (by decide +kernel)
  have hS : va_S A s.heap s.heap [] := va_S.rf
  have hl : lv_has ls 5 [(0, .ref o), (1, .int (nI X)), (2, .int (nI Y))] := hl
  refine lv_aload_n hx hb dX5_sound_0 rfl (lv_at hl 0 rfl) ?_
  refine lv_iconst (v := nI 0) hx hb dX5_sound_1 (by decide +kernel) ?_
  refine va_put (D := E.1) (ci := 5) (v := .int (nI 0)) (ty := .int) (C := RX5) (T := TX5) (N := 11) hx hb hts hin5 tyX5 tyX5_ok nmX5 hown hK.1 hP hD hS 0 rfl rfl 0 (by decide) lk37 (fun _ h9 => h9) rfl (by decide +kernel) rfl rfl (Nat.le_of_ble_eq_true rfl) dX5_sound_2 (fun H locs hP hD hS => ?_)
  have hP : va_P E.1 vwCl (wMo E o ad (nI 0) gr co sd tk wm st (nI mo) nx lb fr) H := hP
  have hD : va_D A (wMo E o ad (nI 0) gr co sd tk wm st (nI mo) nx lb fr) := hD
  refine lv_iload_n hx hb dX5_sound_5 rfl (lv_at hl 1 rfl) ?_
  refine lv_iload_n hx hb dX5_sound_6 rfl (lv_at hl 2 rfl) ?_
  refine e_callS (As := [.int (nI X), .int (nI Y)]) (rest := []) ⟨hx, hb, hml, hown, hts⟩ hK hP hD hS hA hl.1 (c_X5_isCell l E _ (nI X) (nI Y)) (va_cwS 2 hts gX5_sound_X5_isCell rfl rfl rfl (by decide +kernel) ⟨Nat.le_of_ble_eq_true rfl, Nat.le_of_ble_eq_true rfl⟩) [] [0, 1, 2, 3, 4, 5, 6, 7, 8, 9] rfl rfl rfl rfl (by decide) rfl rfl (Nat.le_of_ble_eq_true rfl) dX5_sound_7 ⟨Nat.le_of_ble_eq_true rfl, Nat.le_of_ble_eq_true rfl⟩ (fun u_1 H locs hu_2 hsz1 hP hD hS => ?_)
  have hP : va_P E.1 vwCl (wMo E o ad (nI 0) gr co sd tk wm st (nI mo) nx lb fr) H := hP.sub [0, 1, 2, 3, 4, 5, 6, 7, 8, 9] rfl
  have hD : va_D A (wMo E o ad (nI 0) gr co sd tk wm st (nI mo) nx lb fr) := hD.sub [0, 1, 2, 3, 4, 5, 6, 7, 8, 9] (by decide) rfl
  refine W.eq (g2 := F0 m 10 ls [.int (b2i (isCellB (nI X) (nI Y)))]) rfl ?_
  refine b_if_ne (x := isCellB (nI X) (nI Y)) (tgt := 19) hx hb dX5_sound_10 (by decide) (fun c10 => ?_) (fun c10 => by rw [isCellB_n hX hY] at c10; cases c10)
  refine lv_bipush (v := nI 9) hx hb dX5_sound_19 (by decide +kernel) ?_
  refine lv_iload_n hx hb dX5_sound_21 rfl (lv_at hl 2 rfl) ?_
  refine lv_imul hx hb dX5_sound_22 ?_
  refine e_top (pk_mul _ _) ?_
  refine lv_iload_n hx hb dX5_sound_23 rfl (lv_at hl 1 rfl) ?_
  refine lv_iadd hx hb dX5_sound_24 ?_
  refine e_top (nI_add _ _) ?_
  refine lv_istore_n (lv' := [(3, .int (nI ((9 * Y) + X))), (0, .ref o), (1, .int (nI X)), (2, .int (nI Y))]) hx hb dX5_sound_25 rfl hl (by decide) rfl (fun ls hl => ?_)
  refine lv_aload_n hx hb dX5_sound_26 rfl (lv_at hl 1 rfl) ?_
  refine va_get (D := E.1) (ci := 5) (v := .ref (ad 2)) (C := RX5) (T := TX5) (N := 11) hx hb hts hin5 hown hK.1 hP 0 rfl rfl 3 (by decide) lk16 (fun _ h9 => h9) rfl dX5_sound_27 ?_
  refine lv_iload_n hx hb dX5_sound_30 rfl (lv_at hl 0 rfl) ?_
  refine e_iald hK hP 3 rfl ((9 * Y) + X) (by omega) (by decide) hx hb dX5_sound_31 ?_
  refine lv_iconst (v := (-1)) hx hb dX5_sound_32 (by decide +kernel) ?_
  refine lv_icmp_ne (tgt := 40) hx hb dX5_sound_33 (by decide) (fun c33 => ?_) (fun c33 => ?_)
  · refine lv_aload_n hx hb dX5_sound_40 rfl (lv_at hl 1 rfl) ?_
    refine lv_iload_n hx hb dX5_sound_41 rfl (lv_at hl 0 rfl) ?_
    refine e_callV (As := [.int (nI ((9 * Y) + X))]) (rest := []) ⟨hx, hb, hml, hown, hts⟩ hK hP hD hS hA hl.1 (c_X5_depth l E _ o ad (nI 0) gr co sd tk wm st mo nx lb fr ((9 * Y) + X) (by first | omega | assumption | rfl | (simp_all; done))) (cwV 1 hts gX5_sound_X5_depth rfl rfl rfl (by decide +kernel) ⟨Nat.le_of_ble_eq_true rfl, Nat.le_of_ble_eq_true rfl⟩) [0, 1, 2, 3, 4, 5, 6, 7, 8, 9] [] rfl rfl rfl rfl (by decide) (q0 := 0) (ci := 5) rfl rfl rfl rfl (Nat.le_of_ble_eq_true rfl) dX5_sound_42 ⟨Nat.le_of_ble_eq_true rfl, Nat.le_of_ble_eq_true rfl⟩ (fun u_3 H locs hu_4 hsz1 hP hD hS => ?_)
    have hP : va_P E.1 vwCl (wMo E o ad (nI 0) gr co sd tk wm st (nI mo) nx lb fr) H := hP.sub [0, 1, 2, 3, 4, 5, 6, 7, 8, 9] rfl
    have hD : va_D A (wMo E o ad (nI 0) gr co sd tk wm st (nI mo) nx lb fr) := hD.sub [0, 1, 2, 3, 4, 5, 6, 7, 8, 9] (by decide) rfl
    refine W.eq (g2 := F0 m 45 ls [.int (dep gr co ((9 * Y) + X))]) rfl ?_
    refine lv_aload_n hx hb dX5_sound_45 rfl (lv_at hl 1 rfl) ?_
    refine va_get (D := E.1) (ci := 5) (v := .ref (ad 2)) (C := RX5) (T := TX5) (N := 11) hx hb hts hin5 hown hK.1 hP 0 rfl rfl 3 (by decide) lk16 (fun _ h9 => h9) rfl dX5_sound_46 ?_
    refine lv_iload_n hx hb dX5_sound_49 rfl (lv_at hl 0 rfl) ?_
    refine e_iald hK hP 3 rfl ((9 * Y) + X) (by omega) (by decide) hx hb dX5_sound_50 ?_
    refine lv_isub hx hb dX5_sound_51 ?_
    refine lv_istore (lv' := [(4, .int ((dep gr co ((9 * Y) + X)) - (sd ((9 * Y) + X)))), (3, .int (nI ((9 * Y) + X))), (0, .ref o), (1, .int (nI X)), (2, .int (nI Y))]) hx hb dX5_sound_52 hl (by decide) rfl (fun ls hl => ?_)
    refine lv_aload_n hx hb dX5_sound_54 rfl (lv_at hl 2 rfl) ?_
    refine va_get (D := E.1) (ci := 5) (v := .ref (ad 2)) (C := RX5) (T := TX5) (N := 11) hx hb hts hin5 hown hK.1 hP 0 rfl rfl 3 (by decide) lk16 (fun _ h9 => h9) rfl dX5_sound_55 ?_
    refine lv_iload_n hx hb dX5_sound_58 rfl (lv_at hl 1 rfl) ?_
    refine lv_aload_n hx hb dX5_sound_59 rfl (lv_at hl 2 rfl) ?_
    refine lv_iload_n hx hb dX5_sound_60 rfl (lv_at hl 1 rfl) ?_
    refine e_callV (As := [.int (nI ((9 * Y) + X))]) (rest := [.int (nI ((9 * Y) + X)), .ref (ad 2)]) ⟨hx, hb, hml, hown, hts⟩ hK hP hD hS hA hl.1 (c_X5_depth l E _ o ad (nI 0) gr co sd tk wm st mo nx lb fr ((9 * Y) + X) (by first | omega | assumption | rfl | (simp_all; done))) (cwV 1 hts gX5_sound_X5_depth rfl rfl rfl (by decide +kernel) ⟨Nat.le_of_ble_eq_true rfl, Nat.le_of_ble_eq_true rfl⟩) [0, 1, 2, 3, 4, 5, 6, 7, 8, 9] [] rfl rfl rfl rfl (by decide) (q0 := 0) (ci := 5) rfl rfl rfl rfl (Nat.le_of_ble_eq_true rfl) dX5_sound_61 ⟨Nat.le_of_ble_eq_true rfl, Nat.le_of_ble_eq_true rfl⟩ (fun u_5 H locs hu_6 hsz1 hP hD hS => ?_)
    have hP : va_P E.1 vwCl (wMo E o ad (nI 0) gr co sd tk wm st (nI mo) nx lb fr) H := hP.sub [0, 1, 2, 3, 4, 5, 6, 7, 8, 9] rfl
    have hD : va_D A (wMo E o ad (nI 0) gr co sd tk wm st (nI mo) nx lb fr) := hD.sub [0, 1, 2, 3, 4, 5, 6, 7, 8, 9] (by decide) rfl
    refine W.eq (g2 := F0 m 64 ls [.int (dep gr co ((9 * Y) + X)), .int (nI ((9 * Y) + X)), .ref (ad 2)]) rfl ?_
    refine e_iast hK hP hD hS 3 rfl ((9 * Y) + X) (by omega) (by decide) hx hb dX5_sound_64 (fun H locs hP hD hS => ?_)
    have hP : va_P E.1 vwCl (wMo E o ad (nI 0) gr co (upd sd ((9 * Y) + X) (dep gr co ((9 * Y) + X))) tk wm st (nI mo) nx lb fr) H := hP
    have hD : va_D A (wMo E o ad (nI 0) gr co (upd sd ((9 * Y) + X) (dep gr co ((9 * Y) + X))) tk wm st (nI mo) nx lb fr) := hD
    refine lv_aload_n hx hb dX5_sound_65 rfl (lv_at hl 2 rfl) ?_
    refine va_get (D := E.1) (ci := 5) (v := .ref (ad 3)) (C := RX5) (T := TX5) (N := 11) hx hb hts hin5 hown hK.1 hP 0 rfl rfl 4 (by decide) lk19 (fun _ h9 => h9) rfl dX5_sound_66 ?_
    refine lv_iload_n hx hb dX5_sound_69 rfl (lv_at hl 1 rfl) ?_
    refine lv_aload_n hx hb dX5_sound_70 rfl (lv_at hl 2 rfl) ?_
    refine va_get (D := E.1) (ci := 5) (v := .int (nI mo)) (C := RX5) (T := TX5) (N := 11) hx hb hts hin5 hown hK.1 hP 0 rfl rfl 7 (by decide) lk78 (fun _ h9 => h9) rfl dX5_sound_71 ?_
    refine e_iast hK hP hD hS 4 rfl ((9 * Y) + X) (by omega) (by decide) hx hb dX5_sound_74 (fun H locs hP hD hS => ?_)
    have hP : va_P E.1 vwCl (wMo E o ad (nI 0) gr co (upd sd ((9 * Y) + X) (dep gr co ((9 * Y) + X))) (upd tk ((9 * Y) + X) (nI mo)) wm st (nI mo) nx lb fr) H := hP
    have hD : va_D A (wMo E o ad (nI 0) gr co (upd sd ((9 * Y) + X) (dep gr co ((9 * Y) + X))) (upd tk ((9 * Y) + X) (nI mo)) wm st (nI mo) nx lb fr) := hD
    refine lv_iload hx hb dX5_sound_75 (lv_at hl 0 rfl) ?_
    exact e_iret () hQ hx hb hr hlocks hP hD hS dX5_sound_77 (rvi (by unfold sndR; first | rw [if_pos c33] | rw [if_neg c33])) (Nat.le_of_ble_eq_true rfl) (Nat.le_of_ble_eq_true rfl) (trivial)
  · refine lv_iconst (v := nI 0) hx hb dX5_sound_36 (by decide +kernel) ?_
    refine lv_goto (tgt := 52) hx hb dX5_sound_37 (by decide) ?_
    refine lv_istore (lv' := [(4, .int (nI 0)), (3, .int (nI ((9 * Y) + X))), (0, .ref o), (1, .int (nI X)), (2, .int (nI Y))]) hx hb dX5_sound_52 hl (by decide) rfl (fun ls hl => ?_)
    refine lv_aload_n hx hb dX5_sound_54 rfl (lv_at hl 2 rfl) ?_
    refine va_get (D := E.1) (ci := 5) (v := .ref (ad 2)) (C := RX5) (T := TX5) (N := 11) hx hb hts hin5 hown hK.1 hP 0 rfl rfl 3 (by decide) lk16 (fun _ h9 => h9) rfl dX5_sound_55 ?_
    refine lv_iload_n hx hb dX5_sound_58 rfl (lv_at hl 1 rfl) ?_
    refine lv_aload_n hx hb dX5_sound_59 rfl (lv_at hl 2 rfl) ?_
    refine lv_iload_n hx hb dX5_sound_60 rfl (lv_at hl 1 rfl) ?_
    refine e_callV (As := [.int (nI ((9 * Y) + X))]) (rest := [.int (nI ((9 * Y) + X)), .ref (ad 2)]) ⟨hx, hb, hml, hown, hts⟩ hK hP hD hS hA hl.1 (c_X5_depth l E _ o ad (nI 0) gr co sd tk wm st mo nx lb fr ((9 * Y) + X) (by first | omega | assumption | rfl | (simp_all; done))) (cwV 1 hts gX5_sound_X5_depth rfl rfl rfl (by decide +kernel) ⟨Nat.le_of_ble_eq_true rfl, Nat.le_of_ble_eq_true rfl⟩) [0, 1, 2, 3, 4, 5, 6, 7, 8, 9] [] rfl rfl rfl rfl (by decide) (q0 := 0) (ci := 5) rfl rfl rfl rfl (Nat.le_of_ble_eq_true rfl) dX5_sound_61 ⟨Nat.le_of_ble_eq_true rfl, Nat.le_of_ble_eq_true rfl⟩ (fun u_7 H locs hu_8 hsz1 hP hD hS => ?_)
    have hP : va_P E.1 vwCl (wMo E o ad (nI 0) gr co sd tk wm st (nI mo) nx lb fr) H := hP.sub [0, 1, 2, 3, 4, 5, 6, 7, 8, 9] rfl
    have hD : va_D A (wMo E o ad (nI 0) gr co sd tk wm st (nI mo) nx lb fr) := hD.sub [0, 1, 2, 3, 4, 5, 6, 7, 8, 9] (by decide) rfl
    refine W.eq (g2 := F0 m 64 ls [.int (dep gr co ((9 * Y) + X)), .int (nI ((9 * Y) + X)), .ref (ad 2)]) rfl ?_
    refine e_iast hK hP hD hS 3 rfl ((9 * Y) + X) (by omega) (by decide) hx hb dX5_sound_64 (fun H locs hP hD hS => ?_)
    have hP : va_P E.1 vwCl (wMo E o ad (nI 0) gr co (upd sd ((9 * Y) + X) (dep gr co ((9 * Y) + X))) tk wm st (nI mo) nx lb fr) H := hP
    have hD : va_D A (wMo E o ad (nI 0) gr co (upd sd ((9 * Y) + X) (dep gr co ((9 * Y) + X))) tk wm st (nI mo) nx lb fr) := hD
    refine lv_aload_n hx hb dX5_sound_65 rfl (lv_at hl 2 rfl) ?_
    refine va_get (D := E.1) (ci := 5) (v := .ref (ad 3)) (C := RX5) (T := TX5) (N := 11) hx hb hts hin5 hown hK.1 hP 0 rfl rfl 4 (by decide) lk19 (fun _ h9 => h9) rfl dX5_sound_66 ?_
    refine lv_iload_n hx hb dX5_sound_69 rfl (lv_at hl 1 rfl) ?_
    refine lv_aload_n hx hb dX5_sound_70 rfl (lv_at hl 2 rfl) ?_
    refine va_get (D := E.1) (ci := 5) (v := .int (nI mo)) (C := RX5) (T := TX5) (N := 11) hx hb hts hin5 hown hK.1 hP 0 rfl rfl 7 (by decide) lk78 (fun _ h9 => h9) rfl dX5_sound_71 ?_
    refine e_iast hK hP hD hS 4 rfl ((9 * Y) + X) (by omega) (by decide) hx hb dX5_sound_74 (fun H locs hP hD hS => ?_)
    have hP : va_P E.1 vwCl (wMo E o ad (nI 0) gr co (upd sd ((9 * Y) + X) (dep gr co ((9 * Y) + X))) (upd tk ((9 * Y) + X) (nI mo)) wm st (nI mo) nx lb fr) H := hP
    have hD : va_D A (wMo E o ad (nI 0) gr co (upd sd ((9 * Y) + X) (dep gr co ((9 * Y) + X))) (upd tk ((9 * Y) + X) (nI mo)) wm st (nI mo) nx lb fr) := hD
    refine lv_iload hx hb dX5_sound_75 (lv_at hl 0 rfl) ?_
    exact e_iret () hQ hx hb hr hlocks hP hD hS dX5_sound_77 (rvi (by unfold sndR; first | rw [if_pos c33] | rw [if_neg c33])) (Nat.le_of_ble_eq_true rfl) (Nat.le_of_ble_eq_true rfl) (trivial)

abbrev rm_X5_sound_b1 : Room := { frames := 2, cells := 0, slots := 0, locals := 43 }
set_option maxHeartbeats 4000000 in
set_option maxRecDepth 100000 in
theorem c_X5_sound_b1 (l : Launch) (E : eT) (sz : Nat) (o : Nat) (ad : Nat → Nat) (th : Int32) (gr : Nat → Int32) (co : Nat → Int32) (sd : Nat → Int32) (tk : Nat → Int32) (wm : Nat → Int32) (st : Nat → Int32) (mo : Nat) (nx : Nat → Int32) (lb : Nat → Option Nat) (fr : Nat → Nat) (x : Int32) (y : Int32) (hc : isCellB x y = false) : cM l yX5_sound wsX5_sound rm_X5_sound_b1 E sz [.ref o, .int x, .int y] (wMo E o ad th gr co sd tk wm st (nI mo) nx lb fr) (fun u : Unit => some (.int (nI 0))) (fun u : Unit => True) (fun u : Unit => wMo E o ad (nI 1) gr co sd tk wm st (nI mo) nx lb fr) := by
  refine cM_intro (cc := cX5_sound) (maxL := 5) (ret := (some .int)) (by decide +kernel) rfl (Nat.le_of_ble_eq_true rfl) ?_
  intro p e s m args below meth cd hx hb hr hml hown hlocks hts hnm hK hsz hP A hD hA Q hQ ls hl
  have hown : s.vm.findClass RX5 = some m.cls := hown
  have hin5 : ∀ w ∈ u_ws RX5 TX5 11, w ∈ wsX5_sound := by decide +kernel
  have lk37 := hts (.fieldLink RX5 37 "ReefPilotModel" "thrown" "I") (by decide +kernel)
  have hS : va_S A s.heap s.heap [] := va_S.rf
  have hl : lv_has ls 5 [(0, .ref o), (1, .int x), (2, .int y)] := hl
  refine lv_aload_n hx hb dX5_sound_0 rfl (lv_at hl 0 rfl) ?_
  refine lv_iconst (v := nI 0) hx hb dX5_sound_1 (by decide +kernel) ?_
  refine va_put (D := E.1) (ci := 5) (v := .int (nI 0)) (ty := .int) (C := RX5) (T := TX5) (N := 11) hx hb hts hin5 tyX5 tyX5_ok nmX5 hown hK.1 hP hD hS 0 rfl rfl 0 (by decide) lk37 (fun _ h9 => h9) rfl (by decide +kernel) rfl rfl (Nat.le_of_ble_eq_true rfl) dX5_sound_2 (fun H locs hP hD hS => ?_)
  have hP : va_P E.1 vwCl (wMo E o ad (nI 0) gr co sd tk wm st (nI mo) nx lb fr) H := hP
  have hD : va_D A (wMo E o ad (nI 0) gr co sd tk wm st (nI mo) nx lb fr) := hD
  refine lv_iload_n hx hb dX5_sound_5 rfl (lv_at hl 1 rfl) ?_
  refine lv_iload_n hx hb dX5_sound_6 rfl (lv_at hl 2 rfl) ?_
  refine e_callS (As := [.int x, .int y]) (rest := []) ⟨hx, hb, hml, hown, hts⟩ hK hP hD hS hA hl.1 (c_X5_isCell l E _ x y) (va_cwS 2 hts gX5_sound_X5_isCell rfl rfl rfl (by decide +kernel) ⟨Nat.le_of_ble_eq_true rfl, Nat.le_of_ble_eq_true rfl⟩) [] [0, 1, 2, 3, 4, 5, 6, 7, 8, 9] rfl rfl rfl rfl (by decide) rfl rfl (Nat.le_of_ble_eq_true rfl) dX5_sound_7 ⟨Nat.le_of_ble_eq_true rfl, Nat.le_of_ble_eq_true rfl⟩ (fun u_1 H locs hu_2 hsz1 hP hD hS => ?_)
  have hP : va_P E.1 vwCl (wMo E o ad (nI 0) gr co sd tk wm st (nI mo) nx lb fr) H := hP.sub [0, 1, 2, 3, 4, 5, 6, 7, 8, 9] rfl
  have hD : va_D A (wMo E o ad (nI 0) gr co sd tk wm st (nI mo) nx lb fr) := hD.sub [0, 1, 2, 3, 4, 5, 6, 7, 8, 9] (by decide) rfl
  refine W.eq (g2 := F0 m 10 ls [.int (b2i (isCellB x y))]) rfl ?_
  refine b_if_ne (x := isCellB x y) (tgt := 19) hx hb dX5_sound_10 (by decide) (fun c10 => by rw [hc] at c10; cases c10) (fun c10 => ?_)
  refine lv_aload_n hx hb dX5_sound_13 rfl (lv_at hl 0 rfl) ?_
  refine lv_iconst (v := nI 1) hx hb dX5_sound_14 (by decide +kernel) ?_
  refine e_callV (As := [.int (nI 1)]) (rest := []) ⟨hx, hb, hml, hown, hts⟩ hK hP hD hS hA hl.1 (c_X5_fail l E _ o ad (nI 0) gr co sd tk wm st mo nx lb fr (nI 1)) (cwV 1 hts gX5_sound_X5_fail rfl rfl rfl (by decide +kernel) ⟨Nat.le_of_ble_eq_true rfl, Nat.le_of_ble_eq_true rfl⟩) [0, 1, 2, 3, 4, 5, 6, 7, 8, 9] [] rfl rfl rfl rfl (by decide) (q0 := 0) (ci := 5) rfl rfl rfl rfl (Nat.le_of_ble_eq_true rfl) dX5_sound_15 ⟨Nat.le_of_ble_eq_true rfl, Nat.le_of_ble_eq_true rfl⟩ (fun u_3 H locs hu_4 hsz1 hP hD hS => ?_)
  have hP : va_P E.1 vwCl (wMo E o ad (nI 1) gr co sd tk wm st (nI mo) nx lb fr) H := hP.sub [0, 1, 2, 3, 4, 5, 6, 7, 8, 9] rfl
  have hD : va_D A (wMo E o ad (nI 1) gr co sd tk wm st (nI mo) nx lb fr) := hD.sub [0, 1, 2, 3, 4, 5, 6, 7, 8, 9] (by decide) rfl
  refine W.eq (g2 := F0 m 18 ls [.int (nI 0)]) rfl ?_
  exact e_iret () hQ hx hb hr hlocks hP hD hS dX5_sound_18 (rfl) (Nat.le_of_ble_eq_true rfl) (Nat.le_of_ble_eq_true rfl) (trivial)

abbrev rm_X5_chart : Room := { frames := 2, cells := 0, slots := 0, locals := 43 }
set_option maxHeartbeats 4000000 in
set_option maxRecDepth 100000 in
theorem c_X5_chart (l : Launch) (E : eT) (sz : Nat) (o : Nat) (ad : Nat → Nat) (th : Int32) (gr : Nat → Int32) (co : Nat → Int32) (sd : Nat → Int32) (tk : Nat → Int32) (wm : Nat → Int32) (st : Nat → Int32) (mo : Nat) (nx : Nat → Int32) (lb : Nat → Option Nat) (fr : Nat → Nat) (X : Nat) (Y : Nat) (k : Nat) (hX : X < 9) (hY : Y < 9) (hk : k < 3) : cM l yX5_chart wsX5_chart rm_X5_chart E sz [.ref o, .int (nI X), .int (nI Y), .int (nI k)] (wMo E o ad th gr co sd tk wm st (nI mo) nx lb fr) (fun u : Unit => some (.int (chA sd tk (nI mo) ((9 * Y) + X) k))) (fun u : Unit => True) (fun u : Unit => wMo E o ad (nI 0) gr co sd tk wm st (nI mo) nx lb fr) := by
  refine cM_intro (cc := cX5_chart) (maxL := 4) (ret := (some .int)) (by decide +kernel) rfl (Nat.le_of_ble_eq_true rfl) ?_
  intro p e s m args below meth cd hx hb hr hml hown hlocks hts hnm hK hsz hP A hD hA Q hQ ls hl
  have hown : s.vm.findClass RX5 = some m.cls := hown
  have hin5 : ∀ w ∈ u_ws RX5 TX5 11, w ∈ wsX5_chart := by decide +kernel
  have lk37 := hts (.fieldLink RX5 37 "ReefPilotModel" "thrown" "I") (by decide +kernel)
  have hS : va_S A s.heap s.heap [] := va_S.rf
  have hl : lv_has ls 4 [(0, .ref o), (1, .int (nI X)), (2, .int (nI Y)), (3, .int (nI k))] := hl
  refine lv_aload_n hx hb dX5_chart_0 rfl (lv_at hl 0 rfl) ?_
  refine lv_iconst (v := nI 0) hx hb dX5_chart_1 (by decide +kernel) ?_
  refine va_put (D := E.1) (ci := 5) (v := .int (nI 0)) (ty := .int) (C := RX5) (T := TX5) (N := 11) hx hb hts hin5 tyX5 tyX5_ok nmX5 hown hK.1 hP hD hS 0 rfl rfl 0 (by decide) lk37 (fun _ h9 => h9) rfl (by decide +kernel) rfl rfl (Nat.le_of_ble_eq_true rfl) dX5_chart_2 (fun H locs hP hD hS => ?_)
  have hP : va_P E.1 vwCl (wMo E o ad (nI 0) gr co sd tk wm st (nI mo) nx lb fr) H := hP
  have hD : va_D A (wMo E o ad (nI 0) gr co sd tk wm st (nI mo) nx lb fr) := hD
  refine lv_iload_n hx hb dX5_chart_5 rfl (lv_at hl 1 rfl) ?_
  refine lv_iload_n hx hb dX5_chart_6 rfl (lv_at hl 2 rfl) ?_
  refine e_callS (As := [.int (nI X), .int (nI Y)]) (rest := []) ⟨hx, hb, hml, hown, hts⟩ hK hP hD hS hA hl.1 (c_X5_isCell l E _ (nI X) (nI Y)) (va_cwS 2 hts gX5_chart_X5_isCell rfl rfl rfl (by decide +kernel) ⟨Nat.le_of_ble_eq_true rfl, Nat.le_of_ble_eq_true rfl⟩) [] [0, 1, 2, 3, 4, 5, 6, 7, 8, 9] rfl rfl rfl rfl (by decide) rfl rfl (Nat.le_of_ble_eq_true rfl) dX5_chart_7 ⟨Nat.le_of_ble_eq_true rfl, Nat.le_of_ble_eq_true rfl⟩ (fun u_1 H locs hu_2 hsz1 hP hD hS => ?_)
  have hP : va_P E.1 vwCl (wMo E o ad (nI 0) gr co sd tk wm st (nI mo) nx lb fr) H := hP.sub [0, 1, 2, 3, 4, 5, 6, 7, 8, 9] rfl
  have hD : va_D A (wMo E o ad (nI 0) gr co sd tk wm st (nI mo) nx lb fr) := hD.sub [0, 1, 2, 3, 4, 5, 6, 7, 8, 9] (by decide) rfl
  refine W.eq (g2 := F0 m 10 ls [.int (b2i (isCellB (nI X) (nI Y)))]) rfl ?_
  refine b_if_eq (x := isCellB (nI X) (nI Y)) (tgt := 36) hx hb dX5_chart_10 (by decide) (fun c10 => by rw [isCellB_n hX hY] at c10; cases c10) (fun c10 => ?_)
  refine lv_iload_n hx hb dX5_chart_13 rfl (lv_at hl 3 rfl) ?_
  refine lv_iconst (v := nI 0) hx hb dX5_chart_14 (by decide +kernel) ?_
  refine lv_iconst (v := nI 2) hx hb dX5_chart_15 (by decide +kernel) ?_
  refine e_callS (As := [.int (nI k), .int (nI 0), .int (nI 2)]) (rest := []) ⟨hx, hb, hml, hown, hts⟩ hK hP hD hS hA hl.1 (c_X5_isIn l E _ (nI k) (nI 0) (nI 2)) (va_cwS 3 hts gX5_chart_X5_isIn rfl rfl rfl (by decide +kernel) ⟨Nat.le_of_ble_eq_true rfl, Nat.le_of_ble_eq_true rfl⟩) [] [0, 1, 2, 3, 4, 5, 6, 7, 8, 9] rfl rfl rfl rfl (by decide) rfl rfl (Nat.le_of_ble_eq_true rfl) dX5_chart_16 ⟨Nat.le_of_ble_eq_true rfl, Nat.le_of_ble_eq_true rfl⟩ (fun u_3 H locs hu_4 hsz1 hP hD hS => ?_)
  have hP : va_P E.1 vwCl (wMo E o ad (nI 0) gr co sd tk wm st (nI mo) nx lb fr) H := hP.sub [0, 1, 2, 3, 4, 5, 6, 7, 8, 9] rfl
  have hD : va_D A (wMo E o ad (nI 0) gr co sd tk wm st (nI mo) nx lb fr) := hD.sub [0, 1, 2, 3, 4, 5, 6, 7, 8, 9] (by decide) rfl
  refine W.eq (g2 := F0 m 19 ls [.int (b2i (isInB (nI k) (nI 0) (nI 2)))]) rfl ?_
  refine b_if_eq (x := isInB (nI k) (nI 0) (nI 2)) (tgt := 36) hx hb dX5_chart_19 (by decide) (fun c19 => by rw [isInB_n (Nat.zero_le _) (show k ≤ 2 by omega) (by decide)] at c19; cases c19) (fun c19 => ?_)
  refine lv_aload_n hx hb dX5_chart_22 rfl (lv_at hl 0 rfl) ?_
  refine lv_bipush (v := nI 9) hx hb dX5_chart_23 (by decide +kernel) ?_
  refine lv_iload_n hx hb dX5_chart_25 rfl (lv_at hl 2 rfl) ?_
  refine lv_imul hx hb dX5_chart_26 ?_
  refine e_top (pk_mul _ _) ?_
  refine lv_iload_n hx hb dX5_chart_27 rfl (lv_at hl 1 rfl) ?_
  refine lv_iadd hx hb dX5_chart_28 ?_
  refine e_top (nI_add _ _) ?_
  refine lv_iload_n hx hb dX5_chart_29 rfl (lv_at hl 3 rfl) ?_
  refine e_callV (As := [.int (nI ((9 * Y) + X)), .int (nI k)]) (rest := []) ⟨hx, hb, hml, hown, hts⟩ hK hP hD hS hA hl.1 (c_X5_charted l E _ o ad (nI 0) gr co sd tk wm st mo nx lb fr ((9 * Y) + X) k (by first | omega | assumption | rfl | (simp_all; done)) (by first | omega | assumption | rfl | (simp_all; done))) (cwV 2 hts gX5_chart_X5_charted rfl rfl rfl (by decide +kernel) ⟨Nat.le_of_ble_eq_true rfl, Nat.le_of_ble_eq_true rfl⟩) [0, 1, 2, 3, 4, 5, 6, 7, 8, 9] [] rfl rfl rfl rfl (by decide) (q0 := 0) (ci := 5) rfl rfl rfl rfl (Nat.le_of_ble_eq_true rfl) dX5_chart_30 ⟨Nat.le_of_ble_eq_true rfl, Nat.le_of_ble_eq_true rfl⟩ (fun u_5 H locs hu_6 hsz1 hP hD hS => ?_)
  have hP : va_P E.1 vwCl (wMo E o ad (nI 0) gr co sd tk wm st (nI mo) nx lb fr) H := hP.sub [0, 1, 2, 3, 4, 5, 6, 7, 8, 9] rfl
  have hD : va_D A (wMo E o ad (nI 0) gr co sd tk wm st (nI mo) nx lb fr) := hD.sub [0, 1, 2, 3, 4, 5, 6, 7, 8, 9] (by decide) rfl
  refine W.eq (g2 := F0 m 33 ls [.int (chA sd tk (nI mo) ((9 * Y) + X) k)]) rfl ?_
  refine lv_goto (tgt := 41) hx hb dX5_chart_33 (by decide) ?_
  exact e_iret () hQ hx hb hr hlocks hP hD hS dX5_chart_41 (rfl) (Nat.le_of_ble_eq_true rfl) (Nat.le_of_ble_eq_true rfl) (trivial)

abbrev rm_X5_chart_b1 : Room := { frames := 2, cells := 0, slots := 0, locals := 43 }
set_option maxHeartbeats 4000000 in
set_option maxRecDepth 100000 in
theorem c_X5_chart_b1 (l : Launch) (E : eT) (sz : Nat) (o : Nat) (ad : Nat → Nat) (th : Int32) (gr : Nat → Int32) (co : Nat → Int32) (sd : Nat → Int32) (tk : Nat → Int32) (wm : Nat → Int32) (st : Nat → Int32) (mo : Nat) (nx : Nat → Int32) (lb : Nat → Option Nat) (fr : Nat → Nat) (x : Int32) (y : Int32) (v : Int32) (hc : isCellB x y = false) : cM l yX5_chart wsX5_chart rm_X5_chart_b1 E sz [.ref o, .int x, .int y, .int v] (wMo E o ad th gr co sd tk wm st (nI mo) nx lb fr) (fun u : Unit => some (.int (nI 0))) (fun u : Unit => True) (fun u : Unit => wMo E o ad (nI 1) gr co sd tk wm st (nI mo) nx lb fr) := by
  refine cM_intro (cc := cX5_chart) (maxL := 4) (ret := (some .int)) (by decide +kernel) rfl (Nat.le_of_ble_eq_true rfl) ?_
  intro p e s m args below meth cd hx hb hr hml hown hlocks hts hnm hK hsz hP A hD hA Q hQ ls hl
  have hown : s.vm.findClass RX5 = some m.cls := hown
  have hin5 : ∀ w ∈ u_ws RX5 TX5 11, w ∈ wsX5_chart := by decide +kernel
  have lk37 := hts (.fieldLink RX5 37 "ReefPilotModel" "thrown" "I") (by decide +kernel)
  have hS : va_S A s.heap s.heap [] := va_S.rf
  have hl : lv_has ls 4 [(0, .ref o), (1, .int x), (2, .int y), (3, .int v)] := hl
  refine lv_aload_n hx hb dX5_chart_0 rfl (lv_at hl 0 rfl) ?_
  refine lv_iconst (v := nI 0) hx hb dX5_chart_1 (by decide +kernel) ?_
  refine va_put (D := E.1) (ci := 5) (v := .int (nI 0)) (ty := .int) (C := RX5) (T := TX5) (N := 11) hx hb hts hin5 tyX5 tyX5_ok nmX5 hown hK.1 hP hD hS 0 rfl rfl 0 (by decide) lk37 (fun _ h9 => h9) rfl (by decide +kernel) rfl rfl (Nat.le_of_ble_eq_true rfl) dX5_chart_2 (fun H locs hP hD hS => ?_)
  have hP : va_P E.1 vwCl (wMo E o ad (nI 0) gr co sd tk wm st (nI mo) nx lb fr) H := hP
  have hD : va_D A (wMo E o ad (nI 0) gr co sd tk wm st (nI mo) nx lb fr) := hD
  refine lv_iload_n hx hb dX5_chart_5 rfl (lv_at hl 1 rfl) ?_
  refine lv_iload_n hx hb dX5_chart_6 rfl (lv_at hl 2 rfl) ?_
  refine e_callS (As := [.int x, .int y]) (rest := []) ⟨hx, hb, hml, hown, hts⟩ hK hP hD hS hA hl.1 (c_X5_isCell l E _ x y) (va_cwS 2 hts gX5_chart_X5_isCell rfl rfl rfl (by decide +kernel) ⟨Nat.le_of_ble_eq_true rfl, Nat.le_of_ble_eq_true rfl⟩) [] [0, 1, 2, 3, 4, 5, 6, 7, 8, 9] rfl rfl rfl rfl (by decide) rfl rfl (Nat.le_of_ble_eq_true rfl) dX5_chart_7 ⟨Nat.le_of_ble_eq_true rfl, Nat.le_of_ble_eq_true rfl⟩ (fun u_1 H locs hu_2 hsz1 hP hD hS => ?_)
  have hP : va_P E.1 vwCl (wMo E o ad (nI 0) gr co sd tk wm st (nI mo) nx lb fr) H := hP.sub [0, 1, 2, 3, 4, 5, 6, 7, 8, 9] rfl
  have hD : va_D A (wMo E o ad (nI 0) gr co sd tk wm st (nI mo) nx lb fr) := hD.sub [0, 1, 2, 3, 4, 5, 6, 7, 8, 9] (by decide) rfl
  refine W.eq (g2 := F0 m 10 ls [.int (b2i (isCellB x y))]) rfl ?_
  refine b_if_eq (x := isCellB x y) (tgt := 36) hx hb dX5_chart_10 (by decide) (fun c10 => ?_) (fun c10 => by rw [hc] at c10; cases c10)
  refine lv_aload_n hx hb dX5_chart_36 rfl (lv_at hl 0 rfl) ?_
  refine lv_iconst (v := nI 1) hx hb dX5_chart_37 (by decide +kernel) ?_
  refine e_callV (As := [.int (nI 1)]) (rest := []) ⟨hx, hb, hml, hown, hts⟩ hK hP hD hS hA hl.1 (c_X5_fail l E _ o ad (nI 0) gr co sd tk wm st mo nx lb fr (nI 1)) (cwV 1 hts gX5_chart_X5_fail rfl rfl rfl (by decide +kernel) ⟨Nat.le_of_ble_eq_true rfl, Nat.le_of_ble_eq_true rfl⟩) [0, 1, 2, 3, 4, 5, 6, 7, 8, 9] [] rfl rfl rfl rfl (by decide) (q0 := 0) (ci := 5) rfl rfl rfl rfl (Nat.le_of_ble_eq_true rfl) dX5_chart_38 ⟨Nat.le_of_ble_eq_true rfl, Nat.le_of_ble_eq_true rfl⟩ (fun u_3 H locs hu_4 hsz1 hP hD hS => ?_)
  have hP : va_P E.1 vwCl (wMo E o ad (nI 1) gr co sd tk wm st (nI mo) nx lb fr) H := hP.sub [0, 1, 2, 3, 4, 5, 6, 7, 8, 9] rfl
  have hD : va_D A (wMo E o ad (nI 1) gr co sd tk wm st (nI mo) nx lb fr) := hD.sub [0, 1, 2, 3, 4, 5, 6, 7, 8, 9] (by decide) rfl
  refine W.eq (g2 := F0 m 41 ls [.int (nI 0)]) rfl ?_
  exact e_iret () hQ hx hb hr hlocks hP hD hS dX5_chart_41 (rfl) (Nat.le_of_ble_eq_true rfl) (Nat.le_of_ble_eq_true rfl) (trivial)

abbrev rm_X5_chart_b2 : Room := { frames := 2, cells := 0, slots := 0, locals := 43 }
set_option maxHeartbeats 4000000 in
set_option maxRecDepth 100000 in
theorem c_X5_chart_b2 (l : Launch) (E : eT) (sz : Nat) (o : Nat) (ad : Nat → Nat) (th : Int32) (gr : Nat → Int32) (co : Nat → Int32) (sd : Nat → Int32) (tk : Nat → Int32) (wm : Nat → Int32) (st : Nat → Int32) (mo : Nat) (nx : Nat → Int32) (lb : Nat → Option Nat) (fr : Nat → Nat) (X : Nat) (Y : Nat) (v : Int32) (hX : X < 9) (hY : Y < 9) (hv : isInB v (nI 0) (nI 2) = false) : cM l yX5_chart wsX5_chart rm_X5_chart_b2 E sz [.ref o, .int (nI X), .int (nI Y), .int v] (wMo E o ad th gr co sd tk wm st (nI mo) nx lb fr) (fun u : Unit => some (.int (nI 0))) (fun u : Unit => True) (fun u : Unit => wMo E o ad (nI 1) gr co sd tk wm st (nI mo) nx lb fr) := by
  refine cM_intro (cc := cX5_chart) (maxL := 4) (ret := (some .int)) (by decide +kernel) rfl (Nat.le_of_ble_eq_true rfl) ?_
  intro p e s m args below meth cd hx hb hr hml hown hlocks hts hnm hK hsz hP A hD hA Q hQ ls hl
  have hown : s.vm.findClass RX5 = some m.cls := hown
  have hin5 : ∀ w ∈ u_ws RX5 TX5 11, w ∈ wsX5_chart := by decide +kernel
  have lk37 := hts (.fieldLink RX5 37 "ReefPilotModel" "thrown" "I") (by decide +kernel)
  have hS : va_S A s.heap s.heap [] := va_S.rf
  have hl : lv_has ls 4 [(0, .ref o), (1, .int (nI X)), (2, .int (nI Y)), (3, .int v)] := hl
  refine lv_aload_n hx hb dX5_chart_0 rfl (lv_at hl 0 rfl) ?_
  refine lv_iconst (v := nI 0) hx hb dX5_chart_1 (by decide +kernel) ?_
  refine va_put (D := E.1) (ci := 5) (v := .int (nI 0)) (ty := .int) (C := RX5) (T := TX5) (N := 11) hx hb hts hin5 tyX5 tyX5_ok nmX5 hown hK.1 hP hD hS 0 rfl rfl 0 (by decide) lk37 (fun _ h9 => h9) rfl (by decide +kernel) rfl rfl (Nat.le_of_ble_eq_true rfl) dX5_chart_2 (fun H locs hP hD hS => ?_)
  have hP : va_P E.1 vwCl (wMo E o ad (nI 0) gr co sd tk wm st (nI mo) nx lb fr) H := hP
  have hD : va_D A (wMo E o ad (nI 0) gr co sd tk wm st (nI mo) nx lb fr) := hD
  refine lv_iload_n hx hb dX5_chart_5 rfl (lv_at hl 1 rfl) ?_
  refine lv_iload_n hx hb dX5_chart_6 rfl (lv_at hl 2 rfl) ?_
  refine e_callS (As := [.int (nI X), .int (nI Y)]) (rest := []) ⟨hx, hb, hml, hown, hts⟩ hK hP hD hS hA hl.1 (c_X5_isCell l E _ (nI X) (nI Y)) (va_cwS 2 hts gX5_chart_X5_isCell rfl rfl rfl (by decide +kernel) ⟨Nat.le_of_ble_eq_true rfl, Nat.le_of_ble_eq_true rfl⟩) [] [0, 1, 2, 3, 4, 5, 6, 7, 8, 9] rfl rfl rfl rfl (by decide) rfl rfl (Nat.le_of_ble_eq_true rfl) dX5_chart_7 ⟨Nat.le_of_ble_eq_true rfl, Nat.le_of_ble_eq_true rfl⟩ (fun u_1 H locs hu_2 hsz1 hP hD hS => ?_)
  have hP : va_P E.1 vwCl (wMo E o ad (nI 0) gr co sd tk wm st (nI mo) nx lb fr) H := hP.sub [0, 1, 2, 3, 4, 5, 6, 7, 8, 9] rfl
  have hD : va_D A (wMo E o ad (nI 0) gr co sd tk wm st (nI mo) nx lb fr) := hD.sub [0, 1, 2, 3, 4, 5, 6, 7, 8, 9] (by decide) rfl
  refine W.eq (g2 := F0 m 10 ls [.int (b2i (isCellB (nI X) (nI Y)))]) rfl ?_
  refine b_if_eq (x := isCellB (nI X) (nI Y)) (tgt := 36) hx hb dX5_chart_10 (by decide) (fun c10 => by rw [isCellB_n hX hY] at c10; cases c10) (fun c10 => ?_)
  refine lv_iload_n hx hb dX5_chart_13 rfl (lv_at hl 3 rfl) ?_
  refine lv_iconst (v := nI 0) hx hb dX5_chart_14 (by decide +kernel) ?_
  refine lv_iconst (v := nI 2) hx hb dX5_chart_15 (by decide +kernel) ?_
  refine e_callS (As := [.int v, .int (nI 0), .int (nI 2)]) (rest := []) ⟨hx, hb, hml, hown, hts⟩ hK hP hD hS hA hl.1 (c_X5_isIn l E _ v (nI 0) (nI 2)) (va_cwS 3 hts gX5_chart_X5_isIn rfl rfl rfl (by decide +kernel) ⟨Nat.le_of_ble_eq_true rfl, Nat.le_of_ble_eq_true rfl⟩) [] [0, 1, 2, 3, 4, 5, 6, 7, 8, 9] rfl rfl rfl rfl (by decide) rfl rfl (Nat.le_of_ble_eq_true rfl) dX5_chart_16 ⟨Nat.le_of_ble_eq_true rfl, Nat.le_of_ble_eq_true rfl⟩ (fun u_3 H locs hu_4 hsz1 hP hD hS => ?_)
  have hP : va_P E.1 vwCl (wMo E o ad (nI 0) gr co sd tk wm st (nI mo) nx lb fr) H := hP.sub [0, 1, 2, 3, 4, 5, 6, 7, 8, 9] rfl
  have hD : va_D A (wMo E o ad (nI 0) gr co sd tk wm st (nI mo) nx lb fr) := hD.sub [0, 1, 2, 3, 4, 5, 6, 7, 8, 9] (by decide) rfl
  refine W.eq (g2 := F0 m 19 ls [.int (b2i (isInB v (nI 0) (nI 2)))]) rfl ?_
  refine b_if_eq (x := isInB v (nI 0) (nI 2)) (tgt := 36) hx hb dX5_chart_19 (by decide) (fun c19 => ?_) (fun c19 => by rw [hv] at c19; cases c19)
  refine lv_aload_n hx hb dX5_chart_36 rfl (lv_at hl 0 rfl) ?_
  refine lv_iconst (v := nI 1) hx hb dX5_chart_37 (by decide +kernel) ?_
  refine e_callV (As := [.int (nI 1)]) (rest := []) ⟨hx, hb, hml, hown, hts⟩ hK hP hD hS hA hl.1 (c_X5_fail l E _ o ad (nI 0) gr co sd tk wm st mo nx lb fr (nI 1)) (cwV 1 hts gX5_chart_X5_fail rfl rfl rfl (by decide +kernel) ⟨Nat.le_of_ble_eq_true rfl, Nat.le_of_ble_eq_true rfl⟩) [0, 1, 2, 3, 4, 5, 6, 7, 8, 9] [] rfl rfl rfl rfl (by decide) (q0 := 0) (ci := 5) rfl rfl rfl rfl (Nat.le_of_ble_eq_true rfl) dX5_chart_38 ⟨Nat.le_of_ble_eq_true rfl, Nat.le_of_ble_eq_true rfl⟩ (fun u_5 H locs hu_6 hsz1 hP hD hS => ?_)
  have hP : va_P E.1 vwCl (wMo E o ad (nI 1) gr co sd tk wm st (nI mo) nx lb fr) H := hP.sub [0, 1, 2, 3, 4, 5, 6, 7, 8, 9] rfl
  have hD : va_D A (wMo E o ad (nI 1) gr co sd tk wm st (nI mo) nx lb fr) := hD.sub [0, 1, 2, 3, 4, 5, 6, 7, 8, 9] (by decide) rfl
  refine W.eq (g2 := F0 m 41 ls [.int (nI 0)]) rfl ?_
  exact e_iret () hQ hx hb hr hlocks hP hD hS dX5_chart_41 (rfl) (Nat.le_of_ble_eq_true rfl) (Nat.le_of_ble_eq_true rfl) (trivial)

abbrev rm_X5_way : Room := { frames := 4, cells := 0, slots := 0, locals := 87 }
set_option maxHeartbeats 4000000 in
set_option maxRecDepth 100000 in
theorem c_X5_way (l : Launch) (E : eT) (sz : Nat) (o : Nat) (ad : Nat → Nat) (th : Int32) (gr : Nat → Int32) (co : Nat → Int32) (sd : Nat → Int32) (tk : Nat → Int32) (wm : Nat → Int32) (st : Nat → Int32) (mo : Nat) (nx : Nat → Int32) (lb : Nat → Option Nat) (fr : Nat → Nat) (dr : Int32) (v : Bool) (hdr : isInB dr (nI 0) (nI 39) = true) : cM l yX5_way wsX5_way rm_X5_way E sz [.ref o, .int dr, .int (b2i v)] (wMo E o ad th gr co sd tk wm st (nI mo) nx lb fr) (fun u : (Nat → Nat) => some (.int (wayN (if v = true then chSafe sd tk (nI mo) else dep gr co) dr))) (fun u : (Nat → Nat) => True) (fun u : (Nat → Nat) => wMo E o ad (nI 0) gr co sd tk wm st (nI mo) nx lb u) := by
  refine cM_intro (cc := cX5_way) (maxL := 3) (ret := (some .int)) (by decide +kernel) rfl (Nat.le_of_ble_eq_true rfl) ?_
  intro p e s m args below meth cd hx hb hr hml hown hlocks hts hnm hK hsz hP A hD hA Q hQ ls hl
  have hown : s.vm.findClass RX5 = some m.cls := hown
  have hin5 : ∀ w ∈ u_ws RX5 TX5 11, w ∈ wsX5_way := by decide +kernel
  have lk37 := hts (.fieldLink RX5 37 "ReefPilotModel" "thrown" "I") (by decide +kernel)
  have hS : va_S A s.heap s.heap [] := va_S.rf
  have hl : lv_has ls 3 [(0, .ref o), (1, .int dr), (2, .int (b2i v))] := hl
  refine lv_aload_n hx hb dX5_way_0 rfl (lv_at hl 0 rfl) ?_
  refine lv_iconst (v := nI 0) hx hb dX5_way_1 (by decide +kernel) ?_
  refine va_put (D := E.1) (ci := 5) (v := .int (nI 0)) (ty := .int) (C := RX5) (T := TX5) (N := 11) hx hb hts hin5 tyX5 tyX5_ok nmX5 hown hK.1 hP hD hS 0 rfl rfl 0 (by decide) lk37 (fun _ h9 => h9) rfl (by decide +kernel) rfl rfl (Nat.le_of_ble_eq_true rfl) dX5_way_2 (fun H locs hP hD hS => ?_)
  have hP : va_P E.1 vwCl (wMo E o ad (nI 0) gr co sd tk wm st (nI mo) nx lb fr) H := hP
  have hD : va_D A (wMo E o ad (nI 0) gr co sd tk wm st (nI mo) nx lb fr) := hD
  refine lv_iload_n hx hb dX5_way_5 rfl (lv_at hl 1 rfl) ?_
  refine lv_iconst (v := nI 0) hx hb dX5_way_6 (by decide +kernel) ?_
  refine lv_bipush (v := nI 39) hx hb dX5_way_7 (by decide +kernel) ?_
  refine e_callS (As := [.int dr, .int (nI 0), .int (nI 39)]) (rest := []) ⟨hx, hb, hml, hown, hts⟩ hK hP hD hS hA hl.1 (c_X5_isIn l E _ dr (nI 0) (nI 39)) (va_cwS 3 hts gX5_way_X5_isIn rfl rfl rfl (by decide +kernel) ⟨Nat.le_of_ble_eq_true rfl, Nat.le_of_ble_eq_true rfl⟩) [] [0, 1, 2, 3, 4, 5, 6, 7, 8, 9] rfl rfl rfl rfl (by decide) rfl rfl (Nat.le_of_ble_eq_true rfl) dX5_way_9 ⟨Nat.le_of_ble_eq_true rfl, Nat.le_of_ble_eq_true rfl⟩ (fun u_1 H locs hu_2 hsz1 hP hD hS => ?_)
  have hP : va_P E.1 vwCl (wMo E o ad (nI 0) gr co sd tk wm st (nI mo) nx lb fr) H := hP.sub [0, 1, 2, 3, 4, 5, 6, 7, 8, 9] rfl
  have hD : va_D A (wMo E o ad (nI 0) gr co sd tk wm st (nI mo) nx lb fr) := hD.sub [0, 1, 2, 3, 4, 5, 6, 7, 8, 9] (by decide) rfl
  refine W.eq (g2 := F0 m 12 ls [.int (b2i (isInB dr (nI 0) (nI 39)))]) rfl ?_
  refine b_if_eq (x := isInB dr (nI 0) (nI 39)) (tgt := 24) hx hb dX5_way_12 (by decide) (fun c12 => by rw [hdr] at c12; cases c12) (fun c12 => ?_)
  refine lv_aload_n hx hb dX5_way_15 rfl (lv_at hl 0 rfl) ?_
  refine lv_iload_n hx hb dX5_way_16 rfl (lv_at hl 1 rfl) ?_
  refine lv_iload_n hx hb dX5_way_17 rfl (lv_at hl 2 rfl) ?_
  refine e_callV (As := [.int dr, .int (b2i v)]) (rest := []) ⟨hx, hb, hml, hown, hts⟩ hK hP hD hS hA hl.1 (c_X5_shortest l E _ o ad (nI 0) gr co sd tk wm st mo nx lb fr dr v) (cwV 2 hts gX5_way_X5_shortest rfl rfl rfl (by decide +kernel) ⟨Nat.le_of_ble_eq_true rfl, Nat.le_of_ble_eq_true rfl⟩) [0, 1, 2, 3, 4, 5, 6, 7, 8, 9] [] rfl rfl rfl rfl (by decide) (q0 := 0) (ci := 5) rfl rfl rfl rfl (Nat.le_of_ble_eq_true rfl) dX5_way_18 ⟨Nat.le_of_ble_eq_true rfl, Nat.le_of_ble_eq_true rfl⟩ (fun u_3 H locs hu_4 hsz1 hP hD hS => ?_)
  have hP : va_P E.1 vwCl (wMo E o ad (nI 0) gr co sd tk wm st (nI mo) nx lb (farN (opn (if v = true then chSafe sd tk (nI mo) else dep gr co) dr) 72)) H := hP.sub [0, 1, 2, 3, 4, 5, 6, 7, 8, 9] rfl
  have hD : va_D A (wMo E o ad (nI 0) gr co sd tk wm st (nI mo) nx lb (farN (opn (if v = true then chSafe sd tk (nI mo) else dep gr co) dr) 72)) := hD.sub [0, 1, 2, 3, 4, 5, 6, 7, 8, 9] (by decide) rfl
  refine W.eq (g2 := F0 m 21 ls [.int (wayN (if v = true then chSafe sd tk (nI mo) else dep gr co) dr)]) rfl ?_
  refine lv_goto (tgt := 29) hx hb dX5_way_21 (by decide) ?_
  exact e_iret (farN (opn (if v = true then chSafe sd tk (nI mo) else dep gr co) dr) 72) hQ hx hb hr hlocks hP hD hS dX5_way_29 (rfl) (Nat.le_of_ble_eq_true rfl) (Nat.le_of_ble_eq_true rfl) (trivial)

abbrev rm_X5_way_b1 : Room := { frames := 1, cells := 0, slots := 0, locals := 22 }
set_option maxHeartbeats 4000000 in
set_option maxRecDepth 100000 in
theorem c_X5_way_b1 (l : Launch) (E : eT) (sz : Nat) (o : Nat) (ad : Nat → Nat) (th : Int32) (gr : Nat → Int32) (co : Nat → Int32) (sd : Nat → Int32) (tk : Nat → Int32) (wm : Nat → Int32) (st : Nat → Int32) (mo : Nat) (nx : Nat → Int32) (lb : Nat → Option Nat) (fr : Nat → Nat) (dr : Int32) (v : Bool) (hdr : isInB dr (nI 0) (nI 39) = false) : cM l yX5_way wsX5_way rm_X5_way_b1 E sz [.ref o, .int dr, .int (b2i v)] (wMo E o ad th gr co sd tk wm st (nI mo) nx lb fr) (fun u : Unit => some (.int (nI 0))) (fun u : Unit => True) (fun u : Unit => wMo E o ad (nI 1) gr co sd tk wm st (nI mo) nx lb fr) := by
  refine cM_intro (cc := cX5_way) (maxL := 3) (ret := (some .int)) (by decide +kernel) rfl (Nat.le_of_ble_eq_true rfl) ?_
  intro p e s m args below meth cd hx hb hr hml hown hlocks hts hnm hK hsz hP A hD hA Q hQ ls hl
  have hown : s.vm.findClass RX5 = some m.cls := hown
  have hin5 : ∀ w ∈ u_ws RX5 TX5 11, w ∈ wsX5_way := by decide +kernel
  have lk37 := hts (.fieldLink RX5 37 "ReefPilotModel" "thrown" "I") (by decide +kernel)
  have hS : va_S A s.heap s.heap [] := va_S.rf
  have hl : lv_has ls 3 [(0, .ref o), (1, .int dr), (2, .int (b2i v))] := hl
  refine lv_aload_n hx hb dX5_way_0 rfl (lv_at hl 0 rfl) ?_
  refine lv_iconst (v := nI 0) hx hb dX5_way_1 (by decide +kernel) ?_
  refine va_put (D := E.1) (ci := 5) (v := .int (nI 0)) (ty := .int) (C := RX5) (T := TX5) (N := 11) hx hb hts hin5 tyX5 tyX5_ok nmX5 hown hK.1 hP hD hS 0 rfl rfl 0 (by decide) lk37 (fun _ h9 => h9) rfl (by decide +kernel) rfl rfl (Nat.le_of_ble_eq_true rfl) dX5_way_2 (fun H locs hP hD hS => ?_)
  have hP : va_P E.1 vwCl (wMo E o ad (nI 0) gr co sd tk wm st (nI mo) nx lb fr) H := hP
  have hD : va_D A (wMo E o ad (nI 0) gr co sd tk wm st (nI mo) nx lb fr) := hD
  refine lv_iload_n hx hb dX5_way_5 rfl (lv_at hl 1 rfl) ?_
  refine lv_iconst (v := nI 0) hx hb dX5_way_6 (by decide +kernel) ?_
  refine lv_bipush (v := nI 39) hx hb dX5_way_7 (by decide +kernel) ?_
  refine e_callS (As := [.int dr, .int (nI 0), .int (nI 39)]) (rest := []) ⟨hx, hb, hml, hown, hts⟩ hK hP hD hS hA hl.1 (c_X5_isIn l E _ dr (nI 0) (nI 39)) (va_cwS 3 hts gX5_way_X5_isIn rfl rfl rfl (by decide +kernel) ⟨Nat.le_of_ble_eq_true rfl, Nat.le_of_ble_eq_true rfl⟩) [] [0, 1, 2, 3, 4, 5, 6, 7, 8, 9] rfl rfl rfl rfl (by decide) rfl rfl (Nat.le_of_ble_eq_true rfl) dX5_way_9 ⟨Nat.le_of_ble_eq_true rfl, Nat.le_of_ble_eq_true rfl⟩ (fun u_1 H locs hu_2 hsz1 hP hD hS => ?_)
  have hP : va_P E.1 vwCl (wMo E o ad (nI 0) gr co sd tk wm st (nI mo) nx lb fr) H := hP.sub [0, 1, 2, 3, 4, 5, 6, 7, 8, 9] rfl
  have hD : va_D A (wMo E o ad (nI 0) gr co sd tk wm st (nI mo) nx lb fr) := hD.sub [0, 1, 2, 3, 4, 5, 6, 7, 8, 9] (by decide) rfl
  refine W.eq (g2 := F0 m 12 ls [.int (b2i (isInB dr (nI 0) (nI 39)))]) rfl ?_
  refine b_if_eq (x := isInB dr (nI 0) (nI 39)) (tgt := 24) hx hb dX5_way_12 (by decide) (fun c12 => ?_) (fun c12 => by rw [hdr] at c12; cases c12)
  refine lv_aload_n hx hb dX5_way_24 rfl (lv_at hl 0 rfl) ?_
  refine lv_iconst (v := nI 1) hx hb dX5_way_25 (by decide +kernel) ?_
  refine e_callV (As := [.int (nI 1)]) (rest := []) ⟨hx, hb, hml, hown, hts⟩ hK hP hD hS hA hl.1 (c_X5_fail l E _ o ad (nI 0) gr co sd tk wm st mo nx lb fr (nI 1)) (cwV 1 hts gX5_way_X5_fail rfl rfl rfl (by decide +kernel) ⟨Nat.le_of_ble_eq_true rfl, Nat.le_of_ble_eq_true rfl⟩) [0, 1, 2, 3, 4, 5, 6, 7, 8, 9] [] rfl rfl rfl rfl (by decide) (q0 := 0) (ci := 5) rfl rfl rfl rfl (Nat.le_of_ble_eq_true rfl) dX5_way_26 ⟨Nat.le_of_ble_eq_true rfl, Nat.le_of_ble_eq_true rfl⟩ (fun u_3 H locs hu_4 hsz1 hP hD hS => ?_)
  have hP : va_P E.1 vwCl (wMo E o ad (nI 1) gr co sd tk wm st (nI mo) nx lb fr) H := hP.sub [0, 1, 2, 3, 4, 5, 6, 7, 8, 9] rfl
  have hD : va_D A (wMo E o ad (nI 1) gr co sd tk wm st (nI mo) nx lb fr) := hD.sub [0, 1, 2, 3, 4, 5, 6, 7, 8, 9] (by decide) rfl
  refine W.eq (g2 := F0 m 29 ls [.int (nI 0)]) rfl ?_
  exact e_iret () hQ hx hb hr hlocks hP hD hS dX5_way_29 (rfl) (Nat.le_of_ble_eq_true rfl) (Nat.le_of_ble_eq_true rfl) (trivial)

abbrev rm_X5_deepest : Room := { frames := 5, cells := 0, slots := 0, locals := 109 }
set_option maxHeartbeats 4000000 in
set_option maxRecDepth 100000 in
theorem c_X5_deepest (l : Launch) (E : eT) (sz : Nat) (o : Nat) (ad : Nat → Nat) (th : Int32) (gr : Nat → Int32) (co : Nat → Int32) (sd : Nat → Int32) (tk : Nat → Int32) (wm : Nat → Int32) (st : Nat → Int32) (mo : Nat) (nx : Nat → Int32) (lb : Nat → Option Nat) (fr : Nat → Nat) (v : Bool) : cM l yX5_deepest wsX5_deepest rm_X5_deepest E sz [.ref o, .int (b2i v)] (wMo E o ad th gr co sd tk wm st (nI mo) nx lb fr) (fun u : (Nat → Nat) => some (.int (oI (mostD (someW (if v = true then chSafe sd tk (nI mo) else dep gr co)) 40)))) (fun u : (Nat → Nat) => True) (fun u : (Nat → Nat) => wMo E o ad (nI 0) gr co sd tk wm st (nI mo) nx lb u) := by
  refine cM_intro (cc := cX5_deepest) (maxL := 2) (ret := (some .int)) (by decide +kernel) rfl (Nat.le_of_ble_eq_true rfl) ?_
  intro p e s m args below meth cd hx hb hr hml hown hlocks hts hnm hK hsz hP A hD hA Q hQ ls hl
  have hown : s.vm.findClass RX5 = some m.cls := hown
  have hin5 : ∀ w ∈ u_ws RX5 TX5 11, w ∈ wsX5_deepest := by decide +kernel
  have lk37 := hts (.fieldLink RX5 37 "ReefPilotModel" "thrown" "I") (by decide +kernel)
  have hS : va_S A s.heap s.heap [] := va_S.rf
  have hl : lv_has ls 2 [(0, .ref o), (1, .int (b2i v))] := hl
  refine lv_aload_n hx hb dX5_deepest_0 rfl (lv_at hl 0 rfl) ?_
  refine lv_iconst (v := nI 0) hx hb dX5_deepest_1 (by decide +kernel) ?_
  refine va_put (D := E.1) (ci := 5) (v := .int (nI 0)) (ty := .int) (C := RX5) (T := TX5) (N := 11) hx hb hts hin5 tyX5 tyX5_ok nmX5 hown hK.1 hP hD hS 0 rfl rfl 0 (by decide) lk37 (fun _ h9 => h9) rfl (by decide +kernel) rfl rfl (Nat.le_of_ble_eq_true rfl) dX5_deepest_2 (fun H locs hP hD hS => ?_)
  have hP : va_P E.1 vwCl (wMo E o ad (nI 0) gr co sd tk wm st (nI mo) nx lb fr) H := hP
  have hD : va_D A (wMo E o ad (nI 0) gr co sd tk wm st (nI mo) nx lb fr) := hD
  refine lv_aload_n hx hb dX5_deepest_5 rfl (lv_at hl 0 rfl) ?_
  refine lv_iload_n hx hb dX5_deepest_6 rfl (lv_at hl 1 rfl) ?_
  refine e_callV (As := [.int (b2i v)]) (rest := []) ⟨hx, hb, hml, hown, hts⟩ hK hP hD hS hA hl.1 (c_X5_most l E _ o ad (nI 0) gr co sd tk wm st mo nx lb fr v) (cwV 1 hts gX5_deepest_X5_most rfl rfl rfl (by decide +kernel) ⟨Nat.le_of_ble_eq_true rfl, Nat.le_of_ble_eq_true rfl⟩) [0, 1, 2, 3, 4, 5, 6, 7, 8, 9] [] rfl rfl rfl rfl (by decide) (q0 := 0) (ci := 5) rfl rfl rfl rfl (Nat.le_of_ble_eq_true rfl) dX5_deepest_7 ⟨Nat.le_of_ble_eq_true rfl, Nat.le_of_ble_eq_true rfl⟩ (fun u_1 H locs hu_2 hsz1 hP hD hS => ?_)
  obtain ⟨fr__3, rfl⟩ : ∃ z, z = u_1 := ⟨_, rfl⟩
  have hP : va_P E.1 vwCl (wMo E o ad (nI 0) gr co sd tk wm st (nI mo) nx lb fr__3) H := hP.sub [0, 1, 2, 3, 4, 5, 6, 7, 8, 9] rfl
  have hD : va_D A (wMo E o ad (nI 0) gr co sd tk wm st (nI mo) nx lb fr__3) := hD.sub [0, 1, 2, 3, 4, 5, 6, 7, 8, 9] (by decide) rfl
  refine W.eq (g2 := F0 m 10 ls [.int (oI (mostD (someW (if v = true then chSafe sd tk (nI mo) else dep gr co)) 40))]) rfl ?_
  exact e_iret fr__3 hQ hx hb hr hlocks hP hD hS dX5_deepest_10 (rfl) (Nat.le_of_ble_eq_true rfl) (Nat.le_of_ble_eq_true rfl) (trivial)

abbrev rm_X5_harbours : Room := { frames := 3, cells := 0, slots := 0, locals := 63 }
set_option maxHeartbeats 4000000 in
set_option maxRecDepth 100000 in
theorem c_X5_harbours (l : Launch) (E : eT) (sz : Nat) (o : Nat) (ad : Nat → Nat) (th : Int32) (gr : Nat → Int32) (co : Nat → Int32) (sd : Nat → Int32) (tk : Nat → Int32) (wm : Nat → Int32) (st : Nat → Int32) (mo : Nat) (nx : Nat → Int32) (lb : Nat → Option Nat) (fr : Nat → Nat) (dr : Int32) (hdr : isInB dr (nI 0) (nI 39) = true) : cM l yX5_harbours wsX5_harbours rm_X5_harbours E sz [.ref o, .int dr] (wMo E o ad th gr co sd tk wm st (nI mo) nx lb fr) (fun u : (Nat → Nat) => some (.int (nI (harbN (dep gr co) dr)))) (fun u : (Nat → Nat) => True) (fun u : (Nat → Nat) => wMo E o ad (nI 0) gr co sd tk wm st (nI mo) nx lb u) := by
  refine cM_intro (cc := cX5_harbours) (maxL := 4) (ret := (some .int)) (by decide +kernel) rfl (Nat.le_of_ble_eq_true rfl) ?_
  intro p e s m args below meth cd hx hb hr hml hown hlocks hts hnm hK hsz hP A hD hA Q hQ ls hl
  have hown : s.vm.findClass RX5 = some m.cls := hown
  have hin5 : ∀ w ∈ u_ws RX5 TX5 11, w ∈ wsX5_harbours := by decide +kernel
  have lk34 := hts (.fieldLink RX5 34 "ReefPilotModel" "far" "[I") (by decide +kernel)
  have lk37 := hts (.fieldLink RX5 37 "ReefPilotModel" "thrown" "I") (by decide +kernel)
  have hS : va_S A s.heap s.heap [] := va_S.rf
  have hl : lv_has ls 4 [(0, .ref o), (1, .int dr)] := hl
  refine lv_aload_n hx hb dX5_harbours_0 rfl (lv_at hl 0 rfl) ?_
  refine lv_iconst (v := nI 0) hx hb dX5_harbours_1 (by decide +kernel) ?_
  refine va_put (D := E.1) (ci := 5) (v := .int (nI 0)) (ty := .int) (C := RX5) (T := TX5) (N := 11) hx hb hts hin5 tyX5 tyX5_ok nmX5 hown hK.1 hP hD hS 0 rfl rfl 0 (by decide) lk37 (fun _ h9 => h9) rfl (by decide +kernel) rfl rfl (Nat.le_of_ble_eq_true rfl) dX5_harbours_2 (fun H locs hP hD hS => ?_)
  have hP : va_P E.1 vwCl (wMo E o ad (nI 0) gr co sd tk wm st (nI mo) nx lb fr) H := hP
  have hD : va_D A (wMo E o ad (nI 0) gr co sd tk wm st (nI mo) nx lb fr) := hD
  refine lv_iload_n hx hb dX5_harbours_5 rfl (lv_at hl 1 rfl) ?_
  refine lv_iconst (v := nI 0) hx hb dX5_harbours_6 (by decide +kernel) ?_
  refine lv_bipush (v := nI 39) hx hb dX5_harbours_7 (by decide +kernel) ?_
  refine e_callS (As := [.int dr, .int (nI 0), .int (nI 39)]) (rest := []) ⟨hx, hb, hml, hown, hts⟩ hK hP hD hS hA hl.1 (c_X5_isIn l E _ dr (nI 0) (nI 39)) (va_cwS 3 hts gX5_harbours_X5_isIn rfl rfl rfl (by decide +kernel) ⟨Nat.le_of_ble_eq_true rfl, Nat.le_of_ble_eq_true rfl⟩) [] [0, 1, 2, 3, 4, 5, 6, 7, 8, 9] rfl rfl rfl rfl (by decide) rfl rfl (Nat.le_of_ble_eq_true rfl) dX5_harbours_9 ⟨Nat.le_of_ble_eq_true rfl, Nat.le_of_ble_eq_true rfl⟩ (fun u_1 H locs hu_2 hsz1 hP hD hS => ?_)
  have hP : va_P E.1 vwCl (wMo E o ad (nI 0) gr co sd tk wm st (nI mo) nx lb fr) H := hP.sub [0, 1, 2, 3, 4, 5, 6, 7, 8, 9] rfl
  have hD : va_D A (wMo E o ad (nI 0) gr co sd tk wm st (nI mo) nx lb fr) := hD.sub [0, 1, 2, 3, 4, 5, 6, 7, 8, 9] (by decide) rfl
  refine W.eq (g2 := F0 m 12 ls [.int (b2i (isInB dr (nI 0) (nI 39)))]) rfl ?_
  refine b_if_ne (x := isInB dr (nI 0) (nI 39)) (tgt := 21) hx hb dX5_harbours_12 (by decide) (fun c12 => ?_) (fun c12 => by rw [hdr] at c12; cases c12)
  refine lv_aload_n hx hb dX5_harbours_21 rfl (lv_at hl 0 rfl) ?_
  refine lv_iload_n hx hb dX5_harbours_22 rfl (lv_at hl 1 rfl) ?_
  refine lv_iconst (v := nI 0) hx hb dX5_harbours_23 (by decide +kernel) ?_
  refine lv_iconst (v := nI 0) hx hb dX5_harbours_24 (by decide +kernel) ?_
  refine e_callV (As := [.int dr, .int (nI 0), .int (nI 0)]) (rest := []) ⟨hx, hb, hml, hown, hts⟩ hK hP hD hS hA hl.1 (c_X5_spread l E _ o ad (nI 0) gr co sd tk wm st mo nx lb fr dr false false) (cwV 3 hts gX5_harbours_X5_spread rfl rfl rfl (by decide +kernel) ⟨Nat.le_of_ble_eq_true rfl, Nat.le_of_ble_eq_true rfl⟩) [0, 1, 2, 3, 4, 5, 6, 7, 8, 9] [] rfl rfl rfl rfl (by decide) (q0 := 0) (ci := 5) rfl rfl rfl rfl (Nat.le_of_ble_eq_true rfl) dX5_harbours_25 ⟨Nat.le_of_ble_eq_true rfl, Nat.le_of_ble_eq_true rfl⟩ (fun u_3 H locs hu_4 hsz1 hP hD hS => ?_)
  have hP : va_P E.1 vwCl (wMo E o ad (nI 0) gr co sd tk wm st (nI mo) nx lb (farN (opn (if false = true then chSafe sd tk (nI mo) else dep gr co) dr) (rowV false))) H := hP.sub [0, 1, 2, 3, 4, 5, 6, 7, 8, 9] rfl
  have hD : va_D A (wMo E o ad (nI 0) gr co sd tk wm st (nI mo) nx lb (farN (opn (if false = true then chSafe sd tk (nI mo) else dep gr co) dr) (rowV false))) := hD.sub [0, 1, 2, 3, 4, 5, 6, 7, 8, 9] (by decide) rfl
  refine W.eq (g2 := F0 m 28 ls []) rfl ?_
  refine lv_iconst (v := nI 0) hx hb dX5_harbours_28 (by decide +kernel) ?_
  refine lv_istore_n (lv' := [(2, .int (nI 0)), (0, .ref o), (1, .int dr)]) hx hb dX5_harbours_29 rfl hl (by decide) rfl (fun ls hl => ?_)
  refine lv_bipush (v := nI 72) hx hb dX5_harbours_30 (by decide +kernel) ?_
  refine lv_istore_n (lv' := [(3, .int (nI 72)), (2, .int (nI 0)), (0, .ref o), (1, .int dr)]) hx hb dX5_harbours_32 rfl hl (by decide) rfl (fun ls hl => ?_)
  have L33 : ∀ (fuel : Nat) (x : Nat) (z : Nat) (hz : z ≤ 81) (hz72 : 72 ≤ z) (hx_ : x = fb_ct (fun k => decide (0 < dist (opn (dep gr co) dr) 0 (72 + k))) (z - 72)) (hfuel : 81 - z < fuel) (H : Heap) (locs : List Loc), va_P E.1 vwCl (wMo E o ad (nI 0) gr co sd tk wm st (nI mo) nx lb (farN (opn (if false = true then chSafe sd tk (nI mo) else dep gr co) dr) (rowV false))) H → va_D A (wMo E o ad (nI 0) gr co sd tk wm st (nI mo) nx lb (farN (opn (if false = true then chSafe sd tk (nI mo) else dep gr co) dr) (rowV false))) → va_S A s.heap H locs → ∀ ls : Array Slot, lv_has ls 4 [(3, .int (nI z)), (2, .int (nI x)), (0, .ref o), (1, .int dr)] → W p l e rm_X5_harbours s m args below meth cd H locs 0 0 Q (F0 m 33 ls []) := by
    intro fuel
    induction fuel with
    | zero => intros; omega
    | succ fuel ihL33 =>
      intro x z hz hz72 hx_ hfuel H locs hP hD hS ls hl
      have hxz := fb_ct_le (fun k => decide (0 < dist (opn (dep gr co) dr) 0 (72 + k))) (z - 72)
      have hfl : farN (opn (if false = true then chSafe sd tk (nI mo) else dep gr co) dr) (rowV false) z ≤ 999 := farN_le (by decide)
      refine lv_iload_n hx hb dX5_harbours_33 rfl (lv_at hl 0 rfl) ?_
      refine lv_bipush (v := nI 81) hx hb dX5_harbours_34 (by decide +kernel) ?_
      refine n_icmp_ge (x := z) (y := 81) (by omega) (by omega) (tgt := 65) hx hb dX5_harbours_36 (by decide) (fun c36 => ?_) (fun c36 => ?_)
      · refine lv_iload_n hx hb dX5_harbours_65 rfl (lv_at hl 1 rfl) ?_
        exact e_iret (farN (opn (if false = true then chSafe sd tk (nI mo) else dep gr co) dr) (rowV false)) hQ hx hb hr hlocks hP hD hS dX5_harbours_66 (rvi (by rw [hx_, show z = 81 by omega]; rfl)) (Nat.le_of_ble_eq_true rfl) (Nat.le_of_ble_eq_true rfl) (trivial)
      · refine lv_iload_n hx hb dX5_harbours_39 rfl (lv_at hl 1 rfl) ?_
        refine lv_aload_n hx hb dX5_harbours_40 rfl (lv_at hl 2 rfl) ?_
        refine va_get (D := E.1) (ci := 5) (v := .ref (ad 8)) (C := RX5) (T := TX5) (N := 11) hx hb hts hin5 hown hK.1 hP 0 rfl rfl 10 (by decide) lk34 (fun _ h9 => h9) rfl dX5_harbours_41 ?_
        refine lv_iload_n hx hb dX5_harbours_44 rfl (lv_at hl 0 rfl) ?_
        refine e_nald hK hP 9 rfl z (by omega) (by decide) hx hb dX5_harbours_45 ?_
        refine lv_sipush (v := nI 999) hx hb dX5_harbours_46 (by decide +kernel) ?_
        refine n_icmp_ge (x := (farN (opn (if false = true then chSafe sd tk (nI mo) else dep gr co) dr) (rowV false)) z) (y := 999) (by omega) (by omega) (tgt := 56) hx hb dX5_harbours_49 (by decide) (fun c49 => ?_) (fun c49 => ?_)
        · refine lv_iconst (v := nI 0) hx hb dX5_harbours_56 (by decide +kernel) ?_
          refine lv_iadd hx hb dX5_harbours_57 ?_
          refine e_top (nI_add _ _) ?_
          refine lv_istore_n (lv' := [(2, .int (nI (x + 0))), (3, .int (nI z)), (0, .ref o), (1, .int dr)]) hx hb dX5_harbours_58 rfl hl (by decide) rfl (fun ls hl => ?_)
          refine lv_iinc (v := nI (z + 1)) (lv' := [(3, .int (nI (z + 1))), (2, .int (nI (x + 0))), (0, .ref o), (1, .int dr)]) hx hb dX5_harbours_59 hl (k := 1) rfl (nI_add z 1) (by decide) rfl (fun ls hl => ?_)
          refine lv_goto (tgt := 33) hx hb dX5_harbours_62 (by decide) ?_
          exact ihL33 (x + 0) (z + 1) (by first | omega | assumption | rfl | (simp_all; done)) (by first | omega | assumption | rfl | (simp_all; done)) (by rw [show z + 1 - 72 = (z - 72) + 1 by omega]; first | (rw [fb_t (f := fun k => decide (0 < dist (opn (dep gr co) dr) 0 (72 + k))) (decide_eq_true (by rw [show 72 + (z - 72) = z by omega]; exact (farN_lt (op := opn (dep gr co) dr) (r := 0) (by decide)).mp c49))]; omega) | (rw [fb_f (f := fun k => decide (0 < dist (opn (dep gr co) dr) 0 (72 + k))) (decide_eq_false (by rw [show 72 + (z - 72) = z by omega]; exact fun h9 => absurd ((farN_lt (op := opn (dep gr co) dr) (r := 0) (by decide)).mpr h9) (Nat.not_lt.mpr c49)))]; omega)) (by omega) _ _ hP hD hS _ (lv_sub hl [0, 1, 2, 3] rfl)
        · refine lv_iconst (v := nI 1) hx hb dX5_harbours_52 (by decide +kernel) ?_
          refine lv_goto (tgt := 57) hx hb dX5_harbours_53 (by decide) ?_
          refine lv_iadd hx hb dX5_harbours_57 ?_
          refine e_top (nI_add _ _) ?_
          refine lv_istore_n (lv' := [(2, .int (nI (x + 1))), (3, .int (nI z)), (0, .ref o), (1, .int dr)]) hx hb dX5_harbours_58 rfl hl (by decide) rfl (fun ls hl => ?_)
          refine lv_iinc (v := nI (z + 1)) (lv' := [(3, .int (nI (z + 1))), (2, .int (nI (x + 1))), (0, .ref o), (1, .int dr)]) hx hb dX5_harbours_59 hl (k := 1) rfl (nI_add z 1) (by decide) rfl (fun ls hl => ?_)
          refine lv_goto (tgt := 33) hx hb dX5_harbours_62 (by decide) ?_
          exact ihL33 (x + 1) (z + 1) (by first | omega | assumption | rfl | (simp_all; done)) (by first | omega | assumption | rfl | (simp_all; done)) (by rw [show z + 1 - 72 = (z - 72) + 1 by omega]; first | (rw [fb_t (f := fun k => decide (0 < dist (opn (dep gr co) dr) 0 (72 + k))) (decide_eq_true (by rw [show 72 + (z - 72) = z by omega]; exact (farN_lt (op := opn (dep gr co) dr) (r := 0) (by decide)).mp c49))]; omega) | (rw [fb_f (f := fun k => decide (0 < dist (opn (dep gr co) dr) 0 (72 + k))) (decide_eq_false (by rw [show 72 + (z - 72) = z by omega]; exact fun h9 => absurd ((farN_lt (op := opn (dep gr co) dr) (r := 0) (by decide)).mpr h9) (Nat.not_lt.mpr c49)))]; omega)) (by omega) _ _ hP hD hS _ (lv_sub hl [0, 1, 2, 3] rfl)
  exact L33 (81 - 72 + 1) 0 72 (by first | omega | assumption | rfl | (simp_all; done)) (by first | omega | assumption | rfl | (simp_all; done)) (by first | omega | assumption | rfl | (simp_all; done)) (Nat.lt_succ_self _) _ _ hP hD hS _ (lv_sub hl [0, 1, 2, 3] rfl)

abbrev rm_X5_harbours_b1 : Room := { frames := 1, cells := 0, slots := 0, locals := 22 }
set_option maxHeartbeats 4000000 in
set_option maxRecDepth 100000 in
theorem c_X5_harbours_b1 (l : Launch) (E : eT) (sz : Nat) (o : Nat) (ad : Nat → Nat) (th : Int32) (gr : Nat → Int32) (co : Nat → Int32) (sd : Nat → Int32) (tk : Nat → Int32) (wm : Nat → Int32) (st : Nat → Int32) (mo : Nat) (nx : Nat → Int32) (lb : Nat → Option Nat) (fr : Nat → Nat) (dr : Int32) (hdr : isInB dr (nI 0) (nI 39) = false) : cM l yX5_harbours wsX5_harbours rm_X5_harbours_b1 E sz [.ref o, .int dr] (wMo E o ad th gr co sd tk wm st (nI mo) nx lb fr) (fun u : Unit => some (.int (nI 0))) (fun u : Unit => True) (fun u : Unit => wMo E o ad (nI 1) gr co sd tk wm st (nI mo) nx lb fr) := by
  refine cM_intro (cc := cX5_harbours) (maxL := 4) (ret := (some .int)) (by decide +kernel) rfl (Nat.le_of_ble_eq_true rfl) ?_
  intro p e s m args below meth cd hx hb hr hml hown hlocks hts hnm hK hsz hP A hD hA Q hQ ls hl
  have hown : s.vm.findClass RX5 = some m.cls := hown
  have hin5 : ∀ w ∈ u_ws RX5 TX5 11, w ∈ wsX5_harbours := by decide +kernel
  have lk37 := hts (.fieldLink RX5 37 "ReefPilotModel" "thrown" "I") (by decide +kernel)
  have hS : va_S A s.heap s.heap [] := va_S.rf
  have hl : lv_has ls 4 [(0, .ref o), (1, .int dr)] := hl
  refine lv_aload_n hx hb dX5_harbours_0 rfl (lv_at hl 0 rfl) ?_
  refine lv_iconst (v := nI 0) hx hb dX5_harbours_1 (by decide +kernel) ?_
  refine va_put (D := E.1) (ci := 5) (v := .int (nI 0)) (ty := .int) (C := RX5) (T := TX5) (N := 11) hx hb hts hin5 tyX5 tyX5_ok nmX5 hown hK.1 hP hD hS 0 rfl rfl 0 (by decide) lk37 (fun _ h9 => h9) rfl (by decide +kernel) rfl rfl (Nat.le_of_ble_eq_true rfl) dX5_harbours_2 (fun H locs hP hD hS => ?_)
  have hP : va_P E.1 vwCl (wMo E o ad (nI 0) gr co sd tk wm st (nI mo) nx lb fr) H := hP
  have hD : va_D A (wMo E o ad (nI 0) gr co sd tk wm st (nI mo) nx lb fr) := hD
  refine lv_iload_n hx hb dX5_harbours_5 rfl (lv_at hl 1 rfl) ?_
  refine lv_iconst (v := nI 0) hx hb dX5_harbours_6 (by decide +kernel) ?_
  refine lv_bipush (v := nI 39) hx hb dX5_harbours_7 (by decide +kernel) ?_
  refine e_callS (As := [.int dr, .int (nI 0), .int (nI 39)]) (rest := []) ⟨hx, hb, hml, hown, hts⟩ hK hP hD hS hA hl.1 (c_X5_isIn l E _ dr (nI 0) (nI 39)) (va_cwS 3 hts gX5_harbours_X5_isIn rfl rfl rfl (by decide +kernel) ⟨Nat.le_of_ble_eq_true rfl, Nat.le_of_ble_eq_true rfl⟩) [] [0, 1, 2, 3, 4, 5, 6, 7, 8, 9] rfl rfl rfl rfl (by decide) rfl rfl (Nat.le_of_ble_eq_true rfl) dX5_harbours_9 ⟨Nat.le_of_ble_eq_true rfl, Nat.le_of_ble_eq_true rfl⟩ (fun u_1 H locs hu_2 hsz1 hP hD hS => ?_)
  have hP : va_P E.1 vwCl (wMo E o ad (nI 0) gr co sd tk wm st (nI mo) nx lb fr) H := hP.sub [0, 1, 2, 3, 4, 5, 6, 7, 8, 9] rfl
  have hD : va_D A (wMo E o ad (nI 0) gr co sd tk wm st (nI mo) nx lb fr) := hD.sub [0, 1, 2, 3, 4, 5, 6, 7, 8, 9] (by decide) rfl
  refine W.eq (g2 := F0 m 12 ls [.int (b2i (isInB dr (nI 0) (nI 39)))]) rfl ?_
  refine b_if_ne (x := isInB dr (nI 0) (nI 39)) (tgt := 21) hx hb dX5_harbours_12 (by decide) (fun c12 => by rw [hdr] at c12; cases c12) (fun c12 => ?_)
  refine lv_aload_n hx hb dX5_harbours_15 rfl (lv_at hl 0 rfl) ?_
  refine lv_iconst (v := nI 1) hx hb dX5_harbours_16 (by decide +kernel) ?_
  refine e_callV (As := [.int (nI 1)]) (rest := []) ⟨hx, hb, hml, hown, hts⟩ hK hP hD hS hA hl.1 (c_X5_fail l E _ o ad (nI 0) gr co sd tk wm st mo nx lb fr (nI 1)) (cwV 1 hts gX5_harbours_X5_fail rfl rfl rfl (by decide +kernel) ⟨Nat.le_of_ble_eq_true rfl, Nat.le_of_ble_eq_true rfl⟩) [0, 1, 2, 3, 4, 5, 6, 7, 8, 9] [] rfl rfl rfl rfl (by decide) (q0 := 0) (ci := 5) rfl rfl rfl rfl (Nat.le_of_ble_eq_true rfl) dX5_harbours_17 ⟨Nat.le_of_ble_eq_true rfl, Nat.le_of_ble_eq_true rfl⟩ (fun u_3 H locs hu_4 hsz1 hP hD hS => ?_)
  have hP : va_P E.1 vwCl (wMo E o ad (nI 1) gr co sd tk wm st (nI mo) nx lb fr) H := hP.sub [0, 1, 2, 3, 4, 5, 6, 7, 8, 9] rfl
  have hD : va_D A (wMo E o ad (nI 1) gr co sd tk wm st (nI mo) nx lb fr) := hD.sub [0, 1, 2, 3, 4, 5, 6, 7, 8, 9] (by decide) rfl
  refine W.eq (g2 := F0 m 20 ls [.int (nI 0)]) rfl ?_
  exact e_iret () hQ hx hb hr hlocks hP hD hS dX5_harbours_20 (rfl) (Nat.le_of_ble_eq_true rfl) (Nat.le_of_ble_eq_true rfl) (trivial)

abbrev rm_X5_pilot : Room := { frames := 4, cells := 0, slots := 0, locals := 87 }
set_option maxHeartbeats 4000000 in
set_option maxRecDepth 100000 in
theorem c_X5_pilot (l : Launch) (E : eT) (sz : Nat) (o : Nat) (ad : Nat → Nat) (th : Int32) (gr : Nat → Int32) (co : Nat → Int32) (sd : Nat → Int32) (tk : Nat → Int32) (wm : Nat → Int32) (st : Nat → Int32) (mo : Nat) (nx : Nat → Int32) (lb : Nat → Option Nat) (fr : Nat → Nat) (dr : Int32) (hdr : isInB dr (nI 0) (nI 39) = true) : cM l yX5_pilot wsX5_pilot rm_X5_pilot E sz [.ref o, .int dr] (wMo E o ad th gr co sd tk wm st (nI mo) nx lb fr) (fun u : (Nat → Nat) => some (.int (pilotN (chSafe sd tk (nI mo)) (dep gr co) dr))) (fun u : (Nat → Nat) => True) (fun u : (Nat → Nat) => wMo E o ad (nI 0) gr co sd tk wm st (nI mo) nx lb u) := by
  refine cM_intro (cc := cX5_pilot) (maxL := 6) (ret := (some .int)) (by decide +kernel) rfl (Nat.le_of_ble_eq_true rfl) ?_
  intro p e s m args below meth cd hx hb hr hml hown hlocks hts hnm hK hsz hP A hD hA Q hQ ls hl
  have hown : s.vm.findClass RX5 = some m.cls := hown
  have hin5 : ∀ w ∈ u_ws RX5 TX5 11, w ∈ wsX5_pilot := by decide +kernel
  have lk34 := hts (.fieldLink RX5 34 "ReefPilotModel" "far" "[I") (by decide +kernel)
  have lk37 := hts (.fieldLink RX5 37 "ReefPilotModel" "thrown" "I") (by decide +kernel)
  have hS : va_S A s.heap s.heap [] := va_S.rf
  have hl : lv_has ls 6 [(0, .ref o), (1, .int dr)] := hl
  refine lv_aload_n hx hb dX5_pilot_0 rfl (lv_at hl 0 rfl) ?_
  refine lv_iconst (v := nI 0) hx hb dX5_pilot_1 (by decide +kernel) ?_
  refine va_put (D := E.1) (ci := 5) (v := .int (nI 0)) (ty := .int) (C := RX5) (T := TX5) (N := 11) hx hb hts hin5 tyX5 tyX5_ok nmX5 hown hK.1 hP hD hS 0 rfl rfl 0 (by decide) lk37 (fun _ h9 => h9) rfl (by decide +kernel) rfl rfl (Nat.le_of_ble_eq_true rfl) dX5_pilot_2 (fun H locs hP hD hS => ?_)
  have hP : va_P E.1 vwCl (wMo E o ad (nI 0) gr co sd tk wm st (nI mo) nx lb fr) H := hP
  have hD : va_D A (wMo E o ad (nI 0) gr co sd tk wm st (nI mo) nx lb fr) := hD
  refine lv_iload_n hx hb dX5_pilot_5 rfl (lv_at hl 1 rfl) ?_
  refine lv_iconst (v := nI 0) hx hb dX5_pilot_6 (by decide +kernel) ?_
  refine lv_bipush (v := nI 39) hx hb dX5_pilot_7 (by decide +kernel) ?_
  refine e_callS (As := [.int dr, .int (nI 0), .int (nI 39)]) (rest := []) ⟨hx, hb, hml, hown, hts⟩ hK hP hD hS hA hl.1 (c_X5_isIn l E _ dr (nI 0) (nI 39)) (va_cwS 3 hts gX5_pilot_X5_isIn rfl rfl rfl (by decide +kernel) ⟨Nat.le_of_ble_eq_true rfl, Nat.le_of_ble_eq_true rfl⟩) [] [0, 1, 2, 3, 4, 5, 6, 7, 8, 9] rfl rfl rfl rfl (by decide) rfl rfl (Nat.le_of_ble_eq_true rfl) dX5_pilot_9 ⟨Nat.le_of_ble_eq_true rfl, Nat.le_of_ble_eq_true rfl⟩ (fun u_1 H locs hu_2 hsz1 hP hD hS => ?_)
  have hP : va_P E.1 vwCl (wMo E o ad (nI 0) gr co sd tk wm st (nI mo) nx lb fr) H := hP.sub [0, 1, 2, 3, 4, 5, 6, 7, 8, 9] rfl
  have hD : va_D A (wMo E o ad (nI 0) gr co sd tk wm st (nI mo) nx lb fr) := hD.sub [0, 1, 2, 3, 4, 5, 6, 7, 8, 9] (by decide) rfl
  refine W.eq (g2 := F0 m 12 ls [.int (b2i (isInB dr (nI 0) (nI 39)))]) rfl ?_
  refine b_if_ne (x := isInB dr (nI 0) (nI 39)) (tgt := 21) hx hb dX5_pilot_12 (by decide) (fun c12 => ?_) (fun c12 => by rw [hdr] at c12; cases c12)
  refine lv_aload_n hx hb dX5_pilot_21 rfl (lv_at hl 0 rfl) ?_
  refine lv_iload_n hx hb dX5_pilot_22 rfl (lv_at hl 1 rfl) ?_
  refine lv_iconst (v := nI 1) hx hb dX5_pilot_23 (by decide +kernel) ?_
  refine e_callV (As := [.int dr, .int (nI 1)]) (rest := []) ⟨hx, hb, hml, hown, hts⟩ hK hP hD hS hA hl.1 (c_X5_shortest l E _ o ad (nI 0) gr co sd tk wm st mo nx lb fr dr true) (cwV 2 hts gX5_pilot_X5_shortest rfl rfl rfl (by decide +kernel) ⟨Nat.le_of_ble_eq_true rfl, Nat.le_of_ble_eq_true rfl⟩) [0, 1, 2, 3, 4, 5, 6, 7, 8, 9] [] rfl rfl rfl rfl (by decide) (q0 := 0) (ci := 5) rfl rfl rfl rfl (Nat.le_of_ble_eq_true rfl) dX5_pilot_24 ⟨Nat.le_of_ble_eq_true rfl, Nat.le_of_ble_eq_true rfl⟩ (fun u_3 H locs hu_4 hsz1 hP hD hS => ?_)
  have hP : va_P E.1 vwCl (wMo E o ad (nI 0) gr co sd tk wm st (nI mo) nx lb (farN (opn (if true = true then chSafe sd tk (nI mo) else dep gr co) dr) 72)) H := hP.sub [0, 1, 2, 3, 4, 5, 6, 7, 8, 9] rfl
  have hD : va_D A (wMo E o ad (nI 0) gr co sd tk wm st (nI mo) nx lb (farN (opn (if true = true then chSafe sd tk (nI mo) else dep gr co) dr) 72)) := hD.sub [0, 1, 2, 3, 4, 5, 6, 7, 8, 9] (by decide) rfl
  refine W.eq (g2 := F0 m 27 ls [.int (wayN (if true = true then chSafe sd tk (nI mo) else dep gr co) dr)]) rfl ?_
  refine lv_istore_n (lv' := [(2, .int (wayN (if true = true then chSafe sd tk (nI mo) else dep gr co) dr)), (0, .ref o), (1, .int dr)]) hx hb dX5_pilot_27 rfl hl (by decide) rfl (fun ls hl => ?_)
  refine lv_iload_n hx hb dX5_pilot_28 rfl (lv_at hl 0 rfl) ?_
  refine lv_iconst (v := (-1)) hx hb dX5_pilot_29 (by decide +kernel) ?_
  refine lv_icmp_ne (tgt := 35) hx hb dX5_pilot_30 (by decide) (fun c30 => ?_) (fun c30 => ?_)
  · obtain ⟨b9, hbw, hwe⟩ := wayN_some c30
    obtain ⟨hb9, hpos, hnot, hfb⟩ := bestW_is hbw
    have hd81 := dist_le (op := opn (if true = true then chSafe sd tk (nI mo) else dep gr co) dr) (r := 72) (by decide)
    have hdb := hd81 b9
    have hl : lv_has ls 6 [(2, .int (nI (dist (opn (if true = true then chSafe sd tk (nI mo) else dep gr co) dr) 72 b9))), (0, .ref o), (1, .int dr)] := by rw [hwe] at hl; exact hl
    refine lv_iconst (v := nI 0) hx hb dX5_pilot_35 (by decide +kernel) ?_
    refine lv_istore_n (lv' := [(3, .int (nI 0)), (2, .int (nI (dist (opn (if true = true then chSafe sd tk (nI mo) else dep gr co) dr) 72 b9))), (0, .ref o), (1, .int dr)]) hx hb dX5_pilot_36 rfl hl (by decide) rfl (fun ls hl => ?_)
    have L37 : ∀ (fuel : Nat) (z : Nat) (hz : z ≤ b9) (hfuel : b9 - z < fuel) (H : Heap) (locs : List Loc), va_P E.1 vwCl (wMo E o ad (nI 0) gr co sd tk wm st (nI mo) nx lb (farN (opn (if true = true then chSafe sd tk (nI mo) else dep gr co) dr) 72)) H → va_D A (wMo E o ad (nI 0) gr co sd tk wm st (nI mo) nx lb (farN (opn (if true = true then chSafe sd tk (nI mo) else dep gr co) dr) 72)) → va_S A s.heap H locs → ∀ ls : Array Slot, lv_has ls 6 [(3, .int (nI z)), (2, .int (nI (dist (opn (if true = true then chSafe sd tk (nI mo) else dep gr co) dr) 72 b9))), (0, .ref o), (1, .int dr)] → W p l e rm_X5_pilot s m args below meth cd H locs 0 0 Q (F0 m 37 ls []) := by
      intro fuel
      induction fuel with
      | zero => intros; omega
      | succ fuel ihL37 =>
        intro z hz hfuel H locs hP hD hS ls hl
        have hfz : farN (opn (if true = true then chSafe sd tk (nI mo) else dep gr co) dr) 72 z ≤ 999 := farN_le (by decide)
        refine lv_aload_n hx hb dX5_pilot_37 rfl (lv_at hl 2 rfl) ?_
        refine va_get (D := E.1) (ci := 5) (v := .ref (ad 8)) (C := RX5) (T := TX5) (N := 11) hx hb hts hin5 hown hK.1 hP 0 rfl rfl 10 (by decide) lk34 (fun _ h9 => h9) rfl dX5_pilot_38 ?_
        refine lv_iload_n hx hb dX5_pilot_41 rfl (lv_at hl 0 rfl) ?_
        refine e_nald hK hP 9 rfl z (by omega) (by decide) hx hb dX5_pilot_42 ?_
        refine lv_iload_n hx hb dX5_pilot_43 rfl (lv_at hl 1 rfl) ?_
        refine n_icmp_eq (x := (farN (opn (if true = true then chSafe sd tk (nI mo) else dep gr co) dr) 72) z) (y := dist (opn (if true = true then chSafe sd tk (nI mo) else dep gr co) dr) 72 b9) (by omega) (by omega) (tgt := 53) hx hb dX5_pilot_44 (by decide) (fun c44 => ?_) (fun c44 => ?_)
        · have hzb : z = b9 := by rcases Nat.lt_or_ge z b9 with h9 | h9; exact absurd c44 (hnot z h9); omega
          have L53 : ∀ (fuel : Nat) (v : Nat) (y : Nat) (hv81 : v < 81) (hy1 : 0 < y) (hdv : dist (opn (if true = true then chSafe sd tk (nI mo) else dep gr co) dr) 72 v = y) (hv : leadN (dep gr co) dr (dist (opn (if true = true then chSafe sd tk (nI mo) else dep gr co) dr) 72) (dist (opn (if true = true then chSafe sd tk (nI mo) else dep gr co) dr) 72 b9) b9 = leadN (dep gr co) dr (dist (opn (if true = true then chSafe sd tk (nI mo) else dep gr co) dr) 72) y v) (hfuel : y < fuel) (H : Heap) (locs : List Loc), va_P E.1 vwCl (wMo E o ad (nI 0) gr co sd tk wm st (nI mo) nx lb (farN (opn (if true = true then chSafe sd tk (nI mo) else dep gr co) dr) 72)) H → va_D A (wMo E o ad (nI 0) gr co sd tk wm st (nI mo) nx lb (farN (opn (if true = true then chSafe sd tk (nI mo) else dep gr co) dr) 72)) → va_S A s.heap H locs → ∀ ls : Array Slot, lv_has ls 6 [(3, .int (nI v)), (2, .int (nI y)), (0, .ref o), (1, .int dr)] → W p l e rm_X5_pilot s m args below meth cd H locs 0 0 Q (F0 m 53 ls []) := by
            intro fuel
            induction fuel with
            | zero => intros; omega
            | succ fuel ihL53 =>
              intro v y hv81 hy1 hdv hv hfuel H locs hP hD hS ls hl
              have hy81 : y ≤ 81 := by rw [← hdv]; exact hd81 v
              refine lv_aload_n hx hb dX5_pilot_53 rfl (lv_at hl 2 rfl) ?_
              refine lv_iload_n hx hb dX5_pilot_54 rfl (lv_at hl 0 rfl) ?_
              refine e_callV (As := [.int (nI v)]) (rest := []) ⟨hx, hb, hml, hown, hts⟩ hK hP hD hS hA hl.1 (c_X5_depth l E _ o ad (nI 0) gr co sd tk wm st mo nx lb (farN (opn (if true = true then chSafe sd tk (nI mo) else dep gr co) dr) 72) v (by first | omega | assumption | rfl | (simp_all; done))) (cwV 1 hts gX5_pilot_X5_depth rfl rfl rfl (by decide +kernel) ⟨Nat.le_of_ble_eq_true rfl, Nat.le_of_ble_eq_true rfl⟩) [0, 1, 2, 3, 4, 5, 6, 7, 8, 9] [] rfl rfl rfl rfl (by decide) (q0 := 0) (ci := 5) rfl rfl rfl rfl (Nat.le_of_ble_eq_true rfl) dX5_pilot_55 ⟨Nat.le_of_ble_eq_true rfl, Nat.le_of_ble_eq_true rfl⟩ (fun u_5 H locs hu_6 hsz1 hP hD hS => ?_)
              have hP : va_P E.1 vwCl (wMo E o ad (nI 0) gr co sd tk wm st (nI mo) nx lb (farN (opn (if true = true then chSafe sd tk (nI mo) else dep gr co) dr) 72)) H := hP.sub [0, 1, 2, 3, 4, 5, 6, 7, 8, 9] rfl
              have hD : va_D A (wMo E o ad (nI 0) gr co sd tk wm st (nI mo) nx lb (farN (opn (if true = true then chSafe sd tk (nI mo) else dep gr co) dr) 72)) := hD.sub [0, 1, 2, 3, 4, 5, 6, 7, 8, 9] (by decide) rfl
              refine W.eq (g2 := F0 m 58 ls [.int (dep gr co v)]) rfl ?_
              refine lv_iload_n hx hb dX5_pilot_58 rfl (lv_at hl 3 rfl) ?_
              refine lv_icmp_le (tgt := 135) hx hb dX5_pilot_59 (by decide) (fun c59 => ?_) (fun c59 => ?_)
              · refine lv_iload_n hx hb dX5_pilot_135 rfl (lv_at hl 0 rfl) ?_
                exact e_iret (farN (opn (if true = true then chSafe sd tk (nI mo) else dep gr co) dr) 72) hQ hx hb hr hlocks hP hD hS dX5_pilot_136 (rvi (by unfold pilotN; rw [show bestW (chSafe sd tk (nI mo)) dr = some b9 from hbw]; show nI _ = _; refine congrArg nI ?_; refine Eq.trans hv ?_; rw [show y = (y - 1) + 1 by omega]; show (if dep gr co v ≤ dr then v else _) = _; rw [if_pos c59])) (Nat.le_of_ble_eq_true rfl) (Nat.le_of_ble_eq_true rfl) (trivial)
              · refine lv_iinc (v := nI (y - 1)) (lv' := [(2, .int (nI (y - 1))), (3, .int (nI v)), (0, .ref o), (1, .int dr)]) hx hb dX5_pilot_62 hl (k := 1) rfl (nI_dec hy1) (by decide) rfl (fun ls hl => ?_)
                refine lv_iload_n hx hb dX5_pilot_65 rfl (lv_at hl 0 rfl) ?_
                refine n_if_ne (x := y - 1) (by omega) (tgt := 72) hx hb dX5_pilot_66 (by decide) (fun c66 => ?_) (fun c66 => ?_)
                · refine lv_iconst (v := (-1)) hx hb dX5_pilot_72 (by decide +kernel) ?_
                  refine lv_istore (lv' := [(4, .int (-1)), (2, .int (nI (y - 1))), (3, .int (nI v)), (0, .ref o), (1, .int dr)]) hx hb dX5_pilot_73 hl (by decide) rfl (fun ls hl => ?_)
                  refine lv_iconst (v := nI 0) hx hb dX5_pilot_75 (by decide +kernel) ?_
                  refine lv_istore (lv' := [(5, .int (nI 0)), (4, .int (-1)), (2, .int (nI (y - 1))), (3, .int (nI v)), (0, .ref o), (1, .int dr)]) hx hb dX5_pilot_76 hl (by decide) rfl (fun ls hl => ?_)
                  have L78 : ∀ (fuel : Nat) (t : Option Nat) (w : Nat) (hw : w ≤ 4) (ht : t = fstN (farN (opn (if true = true then chSafe sd tk (nI mo) else dep gr co) dr) 72) v (y - 1) w) (hfuel : 4 - w < fuel) (H : Heap) (locs : List Loc), va_P E.1 vwCl (wMo E o ad (nI 0) gr co sd tk wm st (nI mo) nx lb (farN (opn (if true = true then chSafe sd tk (nI mo) else dep gr co) dr) 72)) H → va_D A (wMo E o ad (nI 0) gr co sd tk wm st (nI mo) nx lb (farN (opn (if true = true then chSafe sd tk (nI mo) else dep gr co) dr) 72)) → va_S A s.heap H locs → ∀ ls : Array Slot, lv_has ls 6 [(5, .int (nI w)), (4, .int (oI t)), (2, .int (nI (y - 1))), (3, .int (nI v)), (0, .ref o), (1, .int dr)] → W p l e rm_X5_pilot s m args below meth cd H locs 0 0 Q (F0 m 78 ls []) := by
                    intro fuel
                    induction fuel with
                    | zero => intros; omega
                    | succ fuel ihL78 =>
                      intro t w hw ht hfuel H locs hP hD hS ls hl
                      refine lv_iload hx hb dX5_pilot_78 (lv_at hl 0 rfl) ?_
                      refine lv_iconst (v := nI 4) hx hb dX5_pilot_80 (by decide +kernel) ?_
                      refine n_icmp_ge (x := w) (y := 4) (by omega) (by omega) (tgt := 129) hx hb dX5_pilot_81 (by decide) (fun c81 => ?_) (fun c81 => ?_)
                      · refine lv_iload hx hb dX5_pilot_129 (lv_at hl 1 rfl) ?_
                        have hnx := fstN_next (dist_is (op := opn (if true = true then chSafe sd tk (nI mo) else dep gr co) dr) (r := 72) (by decide)) hv81 (y - 2) (show dist (opn (if true = true then chSafe sd tk (nI mo) else dep gr co) dr) 72 v = (y - 2) + 2 by omega)
                        rw [show y - 2 + 1 = y - 1 by omega] at hnx
                        have hcg := fstN_cong (D := dist (opn (if true = true then chSafe sd tk (nI mo) else dep gr co) dr) 72) (F := farN (opn (if true = true then chSafe sd tk (nI mo) else dep gr co) dr) 72) (p := v) (y := y - 1) (fun q => farN_eq (by omega) (by have := hd81 v; omega)) 4
                        have hte : t = some (nrr (dist (opn (if true = true then chSafe sd tk (nI mo) else dep gr co) dr) 72) v 4) := by first | (rw [ht, show w = 4 by omega, hcg]; exact hnx.1) | (rw [c87] at ht ⊢; rw [← hnx.1, ← hcg]; have h9 := fstN_stay ht.symm (4 - w); rw [show w + (4 - w) = 4 by omega] at h9; exact h9.symm)
                        refine e_top (show oI t = nI (nrr (dist (opn (if true = true then chSafe sd tk (nI mo) else dep gr co) dr) 72) v 4) by rw [hte]; rfl) ?_
                        refine lv_istore_n (lv' := [(3, .int (nI (nrr (dist (opn (if true = true then chSafe sd tk (nI mo) else dep gr co) dr) 72) v 4))), (5, .int (nI w)), (4, .int (oI t)), (2, .int (nI (y - 1))), (0, .ref o), (1, .int dr)]) hx hb dX5_pilot_131 rfl hl (by decide) rfl (fun ls hl => ?_)
                        refine lv_goto (tgt := 53) hx hb dX5_pilot_132 (by decide) ?_
                        exact ihL53 (nrr (dist (opn (if true = true then chSafe sd tk (nI mo) else dep gr co) dr) 72) v 4) (y - 1) (nrr_lt hv81 4) (by omega) (hnx.2) (by rw [hv, show y = (y - 1) + 1 by omega]; show (if dep gr co v ≤ dr then v else _) = _; rw [if_neg c59]; rfl) (by omega) _ _ hP hD hS _ (lv_sub hl [0, 3, 4, 5] rfl)
                      · refine lv_iload hx hb dX5_pilot_84 (lv_at hl 1 rfl) ?_
                        refine lv_iconst (v := (-1)) hx hb dX5_pilot_86 (by decide +kernel) ?_
                        refine o_icmp_ne (x := t) (fun q hq => Nat.lt_trans (fstN_lt hv81 (ht.symm.trans hq)) (by decide)) (tgt := 129) hx hb dX5_pilot_87 (by decide) (fun qt c87 => ?_) (fun c87 => ?_)
                        · refine lv_iload hx hb dX5_pilot_129 (lv_at hl 1 rfl) ?_
                          have hnx := fstN_next (dist_is (op := opn (if true = true then chSafe sd tk (nI mo) else dep gr co) dr) (r := 72) (by decide)) hv81 (y - 2) (show dist (opn (if true = true then chSafe sd tk (nI mo) else dep gr co) dr) 72 v = (y - 2) + 2 by omega)
                          rw [show y - 2 + 1 = y - 1 by omega] at hnx
                          have hcg := fstN_cong (D := dist (opn (if true = true then chSafe sd tk (nI mo) else dep gr co) dr) 72) (F := farN (opn (if true = true then chSafe sd tk (nI mo) else dep gr co) dr) 72) (p := v) (y := y - 1) (fun q => farN_eq (by omega) (by have := hd81 v; omega)) 4
                          have hte : t = some (nrr (dist (opn (if true = true then chSafe sd tk (nI mo) else dep gr co) dr) 72) v 4) := by first | (rw [ht, show w = 4 by omega, hcg]; exact hnx.1) | (rw [c87] at ht ⊢; rw [← hnx.1, ← hcg]; have h9 := fstN_stay ht.symm (4 - w); rw [show w + (4 - w) = 4 by omega] at h9; exact h9.symm)
                          refine e_top (show oI t = nI (nrr (dist (opn (if true = true then chSafe sd tk (nI mo) else dep gr co) dr) 72) v 4) by rw [hte]; rfl) ?_
                          refine lv_istore_n (lv' := [(3, .int (nI (nrr (dist (opn (if true = true then chSafe sd tk (nI mo) else dep gr co) dr) 72) v 4))), (5, .int (nI w)), (4, .int (oI t)), (2, .int (nI (y - 1))), (0, .ref o), (1, .int dr)]) hx hb dX5_pilot_131 rfl hl (by decide) rfl (fun ls hl => ?_)
                          refine lv_goto (tgt := 53) hx hb dX5_pilot_132 (by decide) ?_
                          exact ihL53 (nrr (dist (opn (if true = true then chSafe sd tk (nI mo) else dep gr co) dr) 72) v 4) (y - 1) (nrr_lt hv81 4) (by omega) (hnx.2) (by rw [hv, show y = (y - 1) + 1 by omega]; show (if dep gr co v ≤ dr then v else _) = _; rw [if_neg c59]; rfl) (by omega) _ _ hP hD hS _ (lv_sub hl [0, 3, 4, 5] rfl)
                        · refine lv_iload_n hx hb dX5_pilot_90 rfl (lv_at hl 3 rfl) ?_
                          refine lv_iload hx hb dX5_pilot_91 (lv_at hl 0 rfl) ?_
                          refine e_callS (As := [.int (nI v), .int (nI w)]) (rest := []) ⟨hx, hb, hml, hown, hts⟩ hK hP hD hS hA hl.1 (c_X5_beside l E _ v w (by first | omega | assumption | rfl | (simp_all; done)) (by first | omega | assumption | rfl | (simp_all; done))) (va_cwS 2 hts gX5_pilot_X5_beside rfl rfl rfl (by decide +kernel) ⟨Nat.le_of_ble_eq_true rfl, Nat.le_of_ble_eq_true rfl⟩) [] [0, 1, 2, 3, 4, 5, 6, 7, 8, 9] rfl rfl rfl rfl (by decide) rfl rfl (Nat.le_of_ble_eq_true rfl) dX5_pilot_93 ⟨Nat.le_of_ble_eq_true rfl, Nat.le_of_ble_eq_true rfl⟩ (fun u_8 H locs hu_9 hsz1 hP hD hS => ?_)
                          have hP : va_P E.1 vwCl (wMo E o ad (nI 0) gr co sd tk wm st (nI mo) nx lb (farN (opn (if true = true then chSafe sd tk (nI mo) else dep gr co) dr) 72)) H := hP.sub [0, 1, 2, 3, 4, 5, 6, 7, 8, 9] rfl
                          have hD : va_D A (wMo E o ad (nI 0) gr co sd tk wm st (nI mo) nx lb (farN (opn (if true = true then chSafe sd tk (nI mo) else dep gr co) dr) 72)) := hD.sub [0, 1, 2, 3, 4, 5, 6, 7, 8, 9] (by decide) rfl
                          refine W.eq (g2 := F0 m 96 ls [.int (oI (nb v w))]) rfl ?_
                          refine lv_iconst (v := (-1)) hx hb dX5_pilot_96 (by decide +kernel) ?_
                          refine o_icmp_eq (x := nb v w) (nb_ob hv81) (tgt := 123) hx hb dX5_pilot_97 (by decide) (fun c97 => ?_) (fun qn c97 => ?_)
                          · refine lv_iinc (v := nI (w + 1)) (lv' := [(5, .int (nI (w + 1))), (4, .int (oI t)), (2, .int (nI (y - 1))), (3, .int (nI v)), (0, .ref o), (1, .int dr)]) hx hb dX5_pilot_123 hl (k := 0) rfl (nI_add w 1) (by decide) rfl (fun ls hl => ?_)
                            refine lv_goto (tgt := 78) hx hb dX5_pilot_126 (by decide) ?_
                            exact ihL78 t (w + 1) (by first | omega | assumption | rfl | (simp_all; done)) (by first | (rw [fstN_none (ht.symm.trans c87) c97]; exact c87) | (rw [fstN_nb (ht.symm.trans c87) c97, if_neg c112]; exact c87) | (rw [fstN_nb (ht.symm.trans c87) c97, if_pos c112]; exact c97)) (by omega) _ _ hP hD hS _ (lv_sub hl [0, 1, 2, 3, 4, 5] rfl)
                          · have hq_ : qn < 81 := nb_lt hv81 c97
                            have hfq : farN (opn (if true = true then chSafe sd tk (nI mo) else dep gr co) dr) 72 qn ≤ 999 := farN_le (by decide)
                            refine lv_aload_n hx hb dX5_pilot_100 rfl (lv_at hl 4 rfl) ?_
                            refine va_get (D := E.1) (ci := 5) (v := .ref (ad 8)) (C := RX5) (T := TX5) (N := 11) hx hb hts hin5 hown hK.1 hP 0 rfl rfl 10 (by decide) lk34 (fun _ h9 => h9) rfl dX5_pilot_101 ?_
                            refine lv_iload_n hx hb dX5_pilot_104 rfl (lv_at hl 3 rfl) ?_
                            refine lv_iload hx hb dX5_pilot_105 (lv_at hl 0 rfl) ?_
                            refine e_callS (As := [.int (nI v), .int (nI w)]) (rest := [.ref (ad 8)]) ⟨hx, hb, hml, hown, hts⟩ hK hP hD hS hA hl.1 (c_X5_beside l E _ v w (by first | omega | assumption | rfl | (simp_all; done)) (by first | omega | assumption | rfl | (simp_all; done))) (va_cwS 2 hts gX5_pilot_X5_beside rfl rfl rfl (by decide +kernel) ⟨Nat.le_of_ble_eq_true rfl, Nat.le_of_ble_eq_true rfl⟩) [] [0, 1, 2, 3, 4, 5, 6, 7, 8, 9] rfl rfl rfl rfl (by decide) rfl rfl (Nat.le_of_ble_eq_true rfl) dX5_pilot_107 ⟨Nat.le_of_ble_eq_true rfl, Nat.le_of_ble_eq_true rfl⟩ (fun u_11 H locs hu_12 hsz1 hP hD hS => ?_)
                            have hP : va_P E.1 vwCl (wMo E o ad (nI 0) gr co sd tk wm st (nI mo) nx lb (farN (opn (if true = true then chSafe sd tk (nI mo) else dep gr co) dr) 72)) H := hP.sub [0, 1, 2, 3, 4, 5, 6, 7, 8, 9] rfl
                            have hD : va_D A (wMo E o ad (nI 0) gr co sd tk wm st (nI mo) nx lb (farN (opn (if true = true then chSafe sd tk (nI mo) else dep gr co) dr) 72)) := hD.sub [0, 1, 2, 3, 4, 5, 6, 7, 8, 9] (by decide) rfl
                            refine W.eq (g2 := F0 m 110 ls [.int (oI (nb v w)), .ref (ad 8)]) rfl ?_
                            refine e_top (show oI (nb v w) = nI qn by rw [c97]; rfl) ?_
                            refine e_nald hK hP 9 rfl qn (by omega) (by decide) hx hb dX5_pilot_110 ?_
                            refine lv_iload_n hx hb dX5_pilot_111 rfl (lv_at hl 2 rfl) ?_
                            refine n_icmp_ne (x := (farN (opn (if true = true then chSafe sd tk (nI mo) else dep gr co) dr) 72) qn) (y := y - 1) (by omega) (by omega) (tgt := 123) hx hb dX5_pilot_112 (by decide) (fun c112 => ?_) (fun c112 => ?_)
                            · refine lv_iinc (v := nI (w + 1)) (lv' := [(5, .int (nI (w + 1))), (4, .int (oI t)), (2, .int (nI (y - 1))), (3, .int (nI v)), (0, .ref o), (1, .int dr)]) hx hb dX5_pilot_123 hl (k := 0) rfl (nI_add w 1) (by decide) rfl (fun ls hl => ?_)
                              refine lv_goto (tgt := 78) hx hb dX5_pilot_126 (by decide) ?_
                              exact ihL78 t (w + 1) (by first | omega | assumption | rfl | (simp_all; done)) (by first | (rw [fstN_none (ht.symm.trans c87) c97]; exact c87) | (rw [fstN_nb (ht.symm.trans c87) c97, if_neg c112]; exact c87) | (rw [fstN_nb (ht.symm.trans c87) c97, if_pos c112]; exact c97)) (by omega) _ _ hP hD hS _ (lv_sub hl [0, 1, 2, 3, 4, 5] rfl)
                            · refine lv_iload_n hx hb dX5_pilot_115 rfl (lv_at hl 3 rfl) ?_
                              refine lv_iload hx hb dX5_pilot_116 (lv_at hl 0 rfl) ?_
                              refine e_callS (As := [.int (nI v), .int (nI w)]) (rest := []) ⟨hx, hb, hml, hown, hts⟩ hK hP hD hS hA hl.1 (c_X5_beside l E _ v w (by first | omega | assumption | rfl | (simp_all; done)) (by first | omega | assumption | rfl | (simp_all; done))) (va_cwS 2 hts gX5_pilot_X5_beside rfl rfl rfl (by decide +kernel) ⟨Nat.le_of_ble_eq_true rfl, Nat.le_of_ble_eq_true rfl⟩) [] [0, 1, 2, 3, 4, 5, 6, 7, 8, 9] rfl rfl rfl rfl (by decide) rfl rfl (Nat.le_of_ble_eq_true rfl) dX5_pilot_118 ⟨Nat.le_of_ble_eq_true rfl, Nat.le_of_ble_eq_true rfl⟩ (fun u_13 H locs hu_14 hsz1 hP hD hS => ?_)
                              have hP : va_P E.1 vwCl (wMo E o ad (nI 0) gr co sd tk wm st (nI mo) nx lb (farN (opn (if true = true then chSafe sd tk (nI mo) else dep gr co) dr) 72)) H := hP.sub [0, 1, 2, 3, 4, 5, 6, 7, 8, 9] rfl
                              have hD : va_D A (wMo E o ad (nI 0) gr co sd tk wm st (nI mo) nx lb (farN (opn (if true = true then chSafe sd tk (nI mo) else dep gr co) dr) 72)) := hD.sub [0, 1, 2, 3, 4, 5, 6, 7, 8, 9] (by decide) rfl
                              refine W.eq (g2 := F0 m 121 ls [.int (oI (nb v w))]) rfl ?_
                              refine lv_istore (lv' := [(4, .int (oI (nb v w))), (5, .int (nI w)), (2, .int (nI (y - 1))), (3, .int (nI v)), (0, .ref o), (1, .int dr)]) hx hb dX5_pilot_121 hl (by decide) rfl (fun ls hl => ?_)
                              refine lv_iinc (v := nI (w + 1)) (lv' := [(5, .int (nI (w + 1))), (4, .int (oI (nb v w))), (2, .int (nI (y - 1))), (3, .int (nI v)), (0, .ref o), (1, .int dr)]) hx hb dX5_pilot_123 hl (k := 1) rfl (nI_add w 1) (by decide) rfl (fun ls hl => ?_)
                              refine lv_goto (tgt := 78) hx hb dX5_pilot_126 (by decide) ?_
                              exact ihL78 (nb v w) (w + 1) (by first | omega | assumption | rfl | (simp_all; done)) (by first | (rw [fstN_none (ht.symm.trans c87) c97]; exact c87) | (rw [fstN_nb (ht.symm.trans c87) c97, if_neg c112]; exact c87) | (rw [fstN_nb (ht.symm.trans c87) c97, if_pos c112]; exact c97)) (by omega) _ _ hP hD hS _ (lv_sub hl [0, 1, 2, 3, 4, 5] rfl)
                  exact L78 (4 - 0 + 1) none 0 (by first | omega | assumption | rfl | (simp_all; done)) (rfl) (Nat.lt_succ_self _) _ _ hP hD hS _ (lv_sub hl [0, 1, 2, 3, 4, 5] rfl)
                · refine lv_bipush (v := nI 81) hx hb dX5_pilot_69 (by decide +kernel) ?_
                  exact e_iret (farN (opn (if true = true then chSafe sd tk (nI mo) else dep gr co) dr) 72) hQ hx hb hr hlocks hP hD hS dX5_pilot_71 (rvi (by unfold pilotN; rw [show bestW (chSafe sd tk (nI mo)) dr = some b9 from hbw]; show nI _ = _; refine congrArg nI ?_; refine Eq.trans hv ?_; rw [show y = (y - 1) + 1 by omega, show y - 1 = 0 by omega]; show (if dep gr co v ≤ dr then v else _) = _; rw [if_neg c59]; rfl)) (Nat.le_of_ble_eq_true rfl) (Nat.le_of_ble_eq_true rfl) (trivial)
          exact L53 ((dist (opn (if true = true then chSafe sd tk (nI mo) else dep gr co) dr) 72 b9) + 1) z (dist (opn (if true = true then chSafe sd tk (nI mo) else dep gr co) dr) 72 b9) (by omega) (hpos) (by rw [hzb]) (by rw [hzb]) (Nat.lt_succ_self _) _ _ hP hD hS _ (lv_sub hl [0, 1, 2, 3] rfl)
        · have hzb : ¬ z = b9 := fun h9 => c44 (by rw [h9]; exact hfb)
          refine lv_iinc (v := nI (z + 1)) (lv' := [(3, .int (nI (z + 1))), (2, .int (nI (dist (opn (if true = true then chSafe sd tk (nI mo) else dep gr co) dr) 72 b9))), (0, .ref o), (1, .int dr)]) hx hb dX5_pilot_47 hl (k := 0) rfl (nI_add z 1) (by decide) rfl (fun ls hl => ?_)
          refine lv_goto (tgt := 37) hx hb dX5_pilot_50 (by decide) ?_
          exact ihL37 (z + 1) (by first | omega | assumption | rfl | (simp_all; done)) (by omega) _ _ hP hD hS _ (lv_sub hl [0, 1, 2, 3] rfl)
    exact L37 (b9 - 0 + 1) 0 (by first | omega | assumption | rfl | (simp_all; done)) (Nat.lt_succ_self _) _ _ hP hD hS _ (lv_sub hl [0, 1, 2, 3] rfl)
  · refine lv_iconst (v := (-1)) hx hb dX5_pilot_33 (by decide +kernel) ?_
    exact e_iret (farN (opn (if true = true then chSafe sd tk (nI mo) else dep gr co) dr) 72) hQ hx hb hr hlocks hP hD hS dX5_pilot_34 (rvi (by unfold pilotN; rw [show bestW (chSafe sd tk (nI mo)) dr = none from wayN_none.mp c30])) (Nat.le_of_ble_eq_true rfl) (Nat.le_of_ble_eq_true rfl) (trivial)

abbrev rm_X5_pilot_b1 : Room := { frames := 1, cells := 0, slots := 0, locals := 22 }
set_option maxHeartbeats 4000000 in
set_option maxRecDepth 100000 in
theorem c_X5_pilot_b1 (l : Launch) (E : eT) (sz : Nat) (o : Nat) (ad : Nat → Nat) (th : Int32) (gr : Nat → Int32) (co : Nat → Int32) (sd : Nat → Int32) (tk : Nat → Int32) (wm : Nat → Int32) (st : Nat → Int32) (mo : Nat) (nx : Nat → Int32) (lb : Nat → Option Nat) (fr : Nat → Nat) (dr : Int32) (hdr : isInB dr (nI 0) (nI 39) = false) : cM l yX5_pilot wsX5_pilot rm_X5_pilot_b1 E sz [.ref o, .int dr] (wMo E o ad th gr co sd tk wm st (nI mo) nx lb fr) (fun u : Unit => some (.int (nI 0))) (fun u : Unit => True) (fun u : Unit => wMo E o ad (nI 1) gr co sd tk wm st (nI mo) nx lb fr) := by
  refine cM_intro (cc := cX5_pilot) (maxL := 6) (ret := (some .int)) (by decide +kernel) rfl (Nat.le_of_ble_eq_true rfl) ?_
  intro p e s m args below meth cd hx hb hr hml hown hlocks hts hnm hK hsz hP A hD hA Q hQ ls hl
  have hown : s.vm.findClass RX5 = some m.cls := hown
  have hin5 : ∀ w ∈ u_ws RX5 TX5 11, w ∈ wsX5_pilot := by decide +kernel
  have lk37 := hts (.fieldLink RX5 37 "ReefPilotModel" "thrown" "I") (by decide +kernel)
  have hS : va_S A s.heap s.heap [] := va_S.rf
  have hl : lv_has ls 6 [(0, .ref o), (1, .int dr)] := hl
  refine lv_aload_n hx hb dX5_pilot_0 rfl (lv_at hl 0 rfl) ?_
  refine lv_iconst (v := nI 0) hx hb dX5_pilot_1 (by decide +kernel) ?_
  refine va_put (D := E.1) (ci := 5) (v := .int (nI 0)) (ty := .int) (C := RX5) (T := TX5) (N := 11) hx hb hts hin5 tyX5 tyX5_ok nmX5 hown hK.1 hP hD hS 0 rfl rfl 0 (by decide) lk37 (fun _ h9 => h9) rfl (by decide +kernel) rfl rfl (Nat.le_of_ble_eq_true rfl) dX5_pilot_2 (fun H locs hP hD hS => ?_)
  have hP : va_P E.1 vwCl (wMo E o ad (nI 0) gr co sd tk wm st (nI mo) nx lb fr) H := hP
  have hD : va_D A (wMo E o ad (nI 0) gr co sd tk wm st (nI mo) nx lb fr) := hD
  refine lv_iload_n hx hb dX5_pilot_5 rfl (lv_at hl 1 rfl) ?_
  refine lv_iconst (v := nI 0) hx hb dX5_pilot_6 (by decide +kernel) ?_
  refine lv_bipush (v := nI 39) hx hb dX5_pilot_7 (by decide +kernel) ?_
  refine e_callS (As := [.int dr, .int (nI 0), .int (nI 39)]) (rest := []) ⟨hx, hb, hml, hown, hts⟩ hK hP hD hS hA hl.1 (c_X5_isIn l E _ dr (nI 0) (nI 39)) (va_cwS 3 hts gX5_pilot_X5_isIn rfl rfl rfl (by decide +kernel) ⟨Nat.le_of_ble_eq_true rfl, Nat.le_of_ble_eq_true rfl⟩) [] [0, 1, 2, 3, 4, 5, 6, 7, 8, 9] rfl rfl rfl rfl (by decide) rfl rfl (Nat.le_of_ble_eq_true rfl) dX5_pilot_9 ⟨Nat.le_of_ble_eq_true rfl, Nat.le_of_ble_eq_true rfl⟩ (fun u_1 H locs hu_2 hsz1 hP hD hS => ?_)
  have hP : va_P E.1 vwCl (wMo E o ad (nI 0) gr co sd tk wm st (nI mo) nx lb fr) H := hP.sub [0, 1, 2, 3, 4, 5, 6, 7, 8, 9] rfl
  have hD : va_D A (wMo E o ad (nI 0) gr co sd tk wm st (nI mo) nx lb fr) := hD.sub [0, 1, 2, 3, 4, 5, 6, 7, 8, 9] (by decide) rfl
  refine W.eq (g2 := F0 m 12 ls [.int (b2i (isInB dr (nI 0) (nI 39)))]) rfl ?_
  refine b_if_ne (x := isInB dr (nI 0) (nI 39)) (tgt := 21) hx hb dX5_pilot_12 (by decide) (fun c12 => by rw [hdr] at c12; cases c12) (fun c12 => ?_)
  refine lv_aload_n hx hb dX5_pilot_15 rfl (lv_at hl 0 rfl) ?_
  refine lv_iconst (v := nI 1) hx hb dX5_pilot_16 (by decide +kernel) ?_
  refine e_callV (As := [.int (nI 1)]) (rest := []) ⟨hx, hb, hml, hown, hts⟩ hK hP hD hS hA hl.1 (c_X5_fail l E _ o ad (nI 0) gr co sd tk wm st mo nx lb fr (nI 1)) (cwV 1 hts gX5_pilot_X5_fail rfl rfl rfl (by decide +kernel) ⟨Nat.le_of_ble_eq_true rfl, Nat.le_of_ble_eq_true rfl⟩) [0, 1, 2, 3, 4, 5, 6, 7, 8, 9] [] rfl rfl rfl rfl (by decide) (q0 := 0) (ci := 5) rfl rfl rfl rfl (Nat.le_of_ble_eq_true rfl) dX5_pilot_17 ⟨Nat.le_of_ble_eq_true rfl, Nat.le_of_ble_eq_true rfl⟩ (fun u_3 H locs hu_4 hsz1 hP hD hS => ?_)
  have hP : va_P E.1 vwCl (wMo E o ad (nI 1) gr co sd tk wm st (nI mo) nx lb fr) H := hP.sub [0, 1, 2, 3, 4, 5, 6, 7, 8, 9] rfl
  have hD : va_D A (wMo E o ad (nI 1) gr co sd tk wm st (nI mo) nx lb fr) := hD.sub [0, 1, 2, 3, 4, 5, 6, 7, 8, 9] (by decide) rfl
  refine W.eq (g2 := F0 m 20 ls [.int (nI 0)]) rfl ?_
  exact e_iret () hQ hx hb hr hlocks hP hD hS dX5_pilot_20 (rfl) (Nat.le_of_ble_eq_true rfl) (Nat.le_of_ble_eq_true rfl) (trivial)

abbrev rm_X5_pass : Room := { frames := 4, cells := 0, slots := 0, locals := 104 }
set_option maxHeartbeats 4000000 in
set_option maxRecDepth 100000 in
theorem c_X5_pass (l : Launch) (E : eT) (sz : Nat) (o : Nat) (ad : Nat → Nat) (th : Int32) (gr : Nat → Int32) (co : Nat → Int32) (sd : Nat → Int32) (tk : Nat → Int32) (wm : Nat → Int32) (st : Nat → Int32) (mo : Nat) (nx : Nat → Int32) (lb : Nat → Option Nat) (fr : Nat → Nat) (k : Nat) (hk1 : 1 ≤ k) (hk : k ≤ 120) (hmo : mo < 2 ^ 30) (hT : Tb wm st) (hR : Rg gr co) : cM l yX5_pass wsX5_pass rm_X5_pass E sz [.ref o, .int (nI k)] (wMo E o ad th gr co sd tk wm st (nI mo) nx lb fr) (fun u : (Nat → Int32) => some (.int (nI (heads (months wm st (gr, co) mo k).2) - nI (heads co)))) (fun u : (Nat → Int32) => True) (fun u : (Nat → Int32) => wMo E o ad (nI 0) ((months wm st (gr, co) mo k).1) ((months wm st (gr, co) mo k).2) sd tk wm st (nI (mo + k)) u lb fr) := by
  refine cM_intro (cc := cX5_pass) (maxL := 4) (ret := (some .int)) (by decide +kernel) rfl (Nat.le_of_ble_eq_true rfl) ?_
  intro p e s m args below meth cd hx hb hr hml hown hlocks hts hnm hK hsz hP A hD hA Q hQ ls hl
  have hown : s.vm.findClass RX5 = some m.cls := hown
  have hin5 : ∀ w ∈ u_ws RX5 TX5 11, w ∈ wsX5_pass := by decide +kernel
  have lk37 := hts (.fieldLink RX5 37 "ReefPilotModel" "thrown" "I") (by decide +kernel)
  have hS : va_S A s.heap s.heap [] := va_S.rf
  have hl : lv_has ls 4 [(0, .ref o), (1, .int (nI k))] := hl
  refine lv_aload_n hx hb dX5_pass_0 rfl (lv_at hl 0 rfl) ?_
  refine lv_iconst (v := nI 0) hx hb dX5_pass_1 (by decide +kernel) ?_
  refine va_put (D := E.1) (ci := 5) (v := .int (nI 0)) (ty := .int) (C := RX5) (T := TX5) (N := 11) hx hb hts hin5 tyX5 tyX5_ok nmX5 hown hK.1 hP hD hS 0 rfl rfl 0 (by decide) lk37 (fun _ h9 => h9) rfl (by decide +kernel) rfl rfl (Nat.le_of_ble_eq_true rfl) dX5_pass_2 (fun H locs hP hD hS => ?_)
  have hP : va_P E.1 vwCl (wMo E o ad (nI 0) gr co sd tk wm st (nI mo) nx lb fr) H := hP
  have hD : va_D A (wMo E o ad (nI 0) gr co sd tk wm st (nI mo) nx lb fr) := hD
  refine lv_iload_n hx hb dX5_pass_5 rfl (lv_at hl 1 rfl) ?_
  refine lv_iconst (v := nI 1) hx hb dX5_pass_6 (by decide +kernel) ?_
  refine lv_bipush (v := nI 120) hx hb dX5_pass_7 (by decide +kernel) ?_
  refine e_callS (As := [.int (nI k), .int (nI 1), .int (nI 120)]) (rest := []) ⟨hx, hb, hml, hown, hts⟩ hK hP hD hS hA hl.1 (c_X5_isIn l E _ (nI k) (nI 1) (nI 120)) (va_cwS 3 hts gX5_pass_X5_isIn rfl rfl rfl (by decide +kernel) ⟨Nat.le_of_ble_eq_true rfl, Nat.le_of_ble_eq_true rfl⟩) [] [0, 1, 2, 3, 4, 5, 6, 7, 8, 9] rfl rfl rfl rfl (by decide) rfl rfl (Nat.le_of_ble_eq_true rfl) dX5_pass_9 ⟨Nat.le_of_ble_eq_true rfl, Nat.le_of_ble_eq_true rfl⟩ (fun u_1 H locs hu_2 hsz1 hP hD hS => ?_)
  have hP : va_P E.1 vwCl (wMo E o ad (nI 0) gr co sd tk wm st (nI mo) nx lb fr) H := hP.sub [0, 1, 2, 3, 4, 5, 6, 7, 8, 9] rfl
  have hD : va_D A (wMo E o ad (nI 0) gr co sd tk wm st (nI mo) nx lb fr) := hD.sub [0, 1, 2, 3, 4, 5, 6, 7, 8, 9] (by decide) rfl
  refine W.eq (g2 := F0 m 12 ls [.int (b2i (isInB (nI k) (nI 1) (nI 120)))]) rfl ?_
  refine b_if_ne (x := isInB (nI k) (nI 1) (nI 120)) (tgt := 21) hx hb dX5_pass_12 (by decide) (fun c12 => ?_) (fun c12 => by rw [isInB_n hk1 hk (by decide)] at c12; cases c12)
  refine lv_aload_n hx hb dX5_pass_21 rfl (lv_at hl 0 rfl) ?_
  refine e_callV (As := []) (rest := []) ⟨hx, hb, hml, hown, hts⟩ hK hP hD hS hA hl.1 (c_X5_heads l E _ o ad (nI 0) gr co sd tk wm st mo nx lb fr) (cwV 0 hts gX5_pass_X5_heads rfl rfl rfl (by decide +kernel) ⟨Nat.le_of_ble_eq_true rfl, Nat.le_of_ble_eq_true rfl⟩) [0, 1, 2, 3, 4, 5, 6, 7, 8, 9] [] rfl rfl rfl rfl (by decide) (q0 := 0) (ci := 5) rfl rfl rfl rfl (Nat.le_of_ble_eq_true rfl) dX5_pass_22 ⟨Nat.le_of_ble_eq_true rfl, Nat.le_of_ble_eq_true rfl⟩ (fun u_3 H locs hu_4 hsz1 hP hD hS => ?_)
  have hP : va_P E.1 vwCl (wMo E o ad (nI 0) gr co sd tk wm st (nI mo) nx lb fr) H := hP.sub [0, 1, 2, 3, 4, 5, 6, 7, 8, 9] rfl
  have hD : va_D A (wMo E o ad (nI 0) gr co sd tk wm st (nI mo) nx lb fr) := hD.sub [0, 1, 2, 3, 4, 5, 6, 7, 8, 9] (by decide) rfl
  refine W.eq (g2 := F0 m 25 ls [.int (nI (heads co))]) rfl ?_
  refine lv_istore_n (lv' := [(2, .int (nI (heads co))), (0, .ref o), (1, .int (nI k))]) hx hb dX5_pass_25 rfl hl (by decide) rfl (fun ls hl => ?_)
  refine lv_iconst (v := nI 0) hx hb dX5_pass_26 (by decide +kernel) ?_
  refine lv_istore_n (lv' := [(3, .int (nI 0)), (2, .int (nI (heads co))), (0, .ref o), (1, .int (nI k))]) hx hb dX5_pass_27 rfl hl (by decide) rfl (fun ls hl => ?_)
  have L28 : ∀ (fuel : Nat) (z : Nat) (g : Nat → Int32) (f : Nat → Int32) (x1 : Nat → Int32) (hz : z ≤ k) (hg : (g, f) = months wm st (gr, co) mo z) (hfuel : k - z < fuel) (H : Heap) (locs : List Loc), va_P E.1 vwCl (wMo E o ad (nI 0) g f sd tk wm st (nI (mo + z)) x1 lb fr) H → va_D A (wMo E o ad (nI 0) g f sd tk wm st (nI (mo + z)) x1 lb fr) → va_S A s.heap H locs → ∀ ls : Array Slot, lv_has ls 4 [(3, .int (nI z)), (2, .int (nI (heads co))), (0, .ref o), (1, .int (nI k))] → W p l e rm_X5_pass s m args below meth cd H locs 0 0 Q (F0 m 28 ls []) := by
    intro fuel
    induction fuel with
    | zero => intros; omega
    | succ fuel ihL28 =>
      intro z g f x1 hz hg hfuel H locs hP hD hS ls hl
      have hRz : Rg g f := by have h9 := Rg_months hT (x := (gr, co)) hR mo z; rw [← hg] at h9; exact h9
      refine lv_iload_n hx hb dX5_pass_28 rfl (lv_at hl 0 rfl) ?_
      refine lv_iload_n hx hb dX5_pass_29 rfl (lv_at hl 3 rfl) ?_
      refine n_icmp_ge (x := z) (y := k) (by omega) (by omega) (tgt := 43) hx hb dX5_pass_30 (by decide) (fun c30 => ?_) (fun c30 => ?_)
      · have hP : va_P E.1 vwCl (wMo E o ad (nI 0) ((months wm st (gr, co) mo k).1) ((months wm st (gr, co) mo k).2) sd tk wm st (nI (mo + k)) x1 lb fr) H := by (rw [show k = z by omega, ← hg]); exact hP
        have hD : va_D A (wMo E o ad (nI 0) ((months wm st (gr, co) mo k).1) ((months wm st (gr, co) mo k).2) sd tk wm st (nI (mo + k)) x1 lb fr) := by (rw [show k = z by omega, ← hg]); exact hD
        refine lv_aload_n hx hb dX5_pass_43 rfl (lv_at hl 2 rfl) ?_
        refine e_callV (As := []) (rest := []) ⟨hx, hb, hml, hown, hts⟩ hK hP hD hS hA hl.1 (c_X5_heads l E _ o ad (nI 0) ((months wm st (gr, co) mo k).1) ((months wm st (gr, co) mo k).2) sd tk wm st (mo + k) x1 lb fr) (cwV 0 hts gX5_pass_X5_heads rfl rfl rfl (by decide +kernel) ⟨Nat.le_of_ble_eq_true rfl, Nat.le_of_ble_eq_true rfl⟩) [0, 1, 2, 3, 4, 5, 6, 7, 8, 9] [] rfl rfl rfl rfl (by decide) (q0 := 0) (ci := 5) rfl rfl rfl rfl (Nat.le_of_ble_eq_true rfl) dX5_pass_44 ⟨Nat.le_of_ble_eq_true rfl, Nat.le_of_ble_eq_true rfl⟩ (fun u_5 H locs hu_6 hsz1 hP hD hS => ?_)
        have hP : va_P E.1 vwCl (wMo E o ad (nI 0) ((months wm st (gr, co) mo k).1) ((months wm st (gr, co) mo k).2) sd tk wm st (nI (mo + k)) x1 lb fr) H := hP.sub [0, 1, 2, 3, 4, 5, 6, 7, 8, 9] rfl
        have hD : va_D A (wMo E o ad (nI 0) ((months wm st (gr, co) mo k).1) ((months wm st (gr, co) mo k).2) sd tk wm st (nI (mo + k)) x1 lb fr) := hD.sub [0, 1, 2, 3, 4, 5, 6, 7, 8, 9] (by decide) rfl
        refine W.eq (g2 := F0 m 47 ls [.int (nI (heads ((months wm st (gr, co) mo k).2)))]) rfl ?_
        refine lv_iload_n hx hb dX5_pass_47 rfl (lv_at hl 1 rfl) ?_
        refine lv_isub hx hb dX5_pass_48 ?_
        exact e_iret x1 hQ hx hb hr hlocks hP hD hS dX5_pass_49 (rfl) (Nat.le_of_ble_eq_true rfl) (Nat.le_of_ble_eq_true rfl) (trivial)
      · refine lv_aload_n hx hb dX5_pass_33 rfl (lv_at hl 2 rfl) ?_
        refine e_callV (As := []) (rest := []) ⟨hx, hb, hml, hown, hts⟩ hK hP hD hS hA hl.1 (c_X5_monthOn l E _ o ad (nI 0) g f sd tk wm st (mo + z) x1 lb fr (by omega) (hT) (hRz)) (cwV 0 hts gX5_pass_X5_monthOn rfl rfl rfl (by decide +kernel) ⟨Nat.le_of_ble_eq_true rfl, Nat.le_of_ble_eq_true rfl⟩) [0, 1, 2, 3, 4, 5, 6, 7, 8, 9] [] rfl rfl rfl rfl (by decide) (q0 := 0) (ci := 5) rfl rfl rfl rfl (Nat.le_of_ble_eq_true rfl) dX5_pass_34 ⟨Nat.le_of_ble_eq_true rfl, Nat.le_of_ble_eq_true rfl⟩ (fun u_7 H locs hu_8 hsz1 hP hD hS => ?_)
        obtain ⟨nx__9, rfl⟩ : ∃ z, z = u_7 := ⟨_, rfl⟩
        have hP : va_P E.1 vwCl (wMo E o ad (nI 0) ((month1 wm st (g, f) (mo + z)).1) ((month1 wm st (g, f) (mo + z)).2) sd tk wm st (nI ((mo + z) + 1)) nx__9 lb fr) H := hP.sub [0, 1, 2, 3, 4, 5, 6, 7, 8, 9] rfl
        have hD : va_D A (wMo E o ad (nI 0) ((month1 wm st (g, f) (mo + z)).1) ((month1 wm st (g, f) (mo + z)).2) sd tk wm st (nI ((mo + z) + 1)) nx__9 lb fr) := hD.sub [0, 1, 2, 3, 4, 5, 6, 7, 8, 9] (by decide) rfl
        refine W.eq (g2 := F0 m 37 ls []) rfl ?_
        refine lv_iinc (v := nI (z + 1)) (lv' := [(3, .int (nI (z + 1))), (2, .int (nI (heads co))), (0, .ref o), (1, .int (nI k))]) hx hb dX5_pass_37 hl (k := 0) rfl (nI_add z 1) (by decide) rfl (fun ls hl => ?_)
        refine lv_goto (tgt := 28) hx hb dX5_pass_40 (by decide) ?_
        exact ihL28 (z + 1) ((month1 wm st (g, f) (mo + z)).1) ((month1 wm st (g, f) (mo + z)).2) nx__9 (by first | omega | assumption | rfl | (simp_all; done)) (by show _ = month1 wm st (months wm st (gr, co) mo z) (mo + z); rw [← hg]) (by omega) _ _ hP hD hS _ (lv_sub hl [0, 1, 2, 3] rfl)
  exact L28 (k - 0 + 1) 0 gr co nx (by first | omega | assumption | rfl | (simp_all; done)) (by first | omega | assumption | rfl | (simp_all; done)) (Nat.lt_succ_self _) _ _ hP hD hS _ (lv_sub hl [0, 1, 2, 3] rfl)

abbrev rm_X5_pass_b1 : Room := { frames := 1, cells := 0, slots := 0, locals := 22 }
set_option maxHeartbeats 4000000 in
set_option maxRecDepth 100000 in
theorem c_X5_pass_b1 (l : Launch) (E : eT) (sz : Nat) (o : Nat) (ad : Nat → Nat) (th : Int32) (gr : Nat → Int32) (co : Nat → Int32) (sd : Nat → Int32) (tk : Nat → Int32) (wm : Nat → Int32) (st : Nat → Int32) (mo : Nat) (nx : Nat → Int32) (lb : Nat → Option Nat) (fr : Nat → Nat) (x : Int32) (hc : isInB x (nI 1) (nI 120) = false) : cM l yX5_pass wsX5_pass rm_X5_pass_b1 E sz [.ref o, .int x] (wMo E o ad th gr co sd tk wm st (nI mo) nx lb fr) (fun u : Unit => some (.int (nI 0))) (fun u : Unit => True) (fun u : Unit => wMo E o ad (nI 1) gr co sd tk wm st (nI mo) nx lb fr) := by
  refine cM_intro (cc := cX5_pass) (maxL := 4) (ret := (some .int)) (by decide +kernel) rfl (Nat.le_of_ble_eq_true rfl) ?_
  intro p e s m args below meth cd hx hb hr hml hown hlocks hts hnm hK hsz hP A hD hA Q hQ ls hl
  have hown : s.vm.findClass RX5 = some m.cls := hown
  have hin5 : ∀ w ∈ u_ws RX5 TX5 11, w ∈ wsX5_pass := by decide +kernel
  have lk37 := hts (.fieldLink RX5 37 "ReefPilotModel" "thrown" "I") (by decide +kernel)
  have hS : va_S A s.heap s.heap [] := va_S.rf
  have hl : lv_has ls 4 [(0, .ref o), (1, .int x)] := hl
  refine lv_aload_n hx hb dX5_pass_0 rfl (lv_at hl 0 rfl) ?_
  refine lv_iconst (v := nI 0) hx hb dX5_pass_1 (by decide +kernel) ?_
  refine va_put (D := E.1) (ci := 5) (v := .int (nI 0)) (ty := .int) (C := RX5) (T := TX5) (N := 11) hx hb hts hin5 tyX5 tyX5_ok nmX5 hown hK.1 hP hD hS 0 rfl rfl 0 (by decide) lk37 (fun _ h9 => h9) rfl (by decide +kernel) rfl rfl (Nat.le_of_ble_eq_true rfl) dX5_pass_2 (fun H locs hP hD hS => ?_)
  have hP : va_P E.1 vwCl (wMo E o ad (nI 0) gr co sd tk wm st (nI mo) nx lb fr) H := hP
  have hD : va_D A (wMo E o ad (nI 0) gr co sd tk wm st (nI mo) nx lb fr) := hD
  refine lv_iload_n hx hb dX5_pass_5 rfl (lv_at hl 1 rfl) ?_
  refine lv_iconst (v := nI 1) hx hb dX5_pass_6 (by decide +kernel) ?_
  refine lv_bipush (v := nI 120) hx hb dX5_pass_7 (by decide +kernel) ?_
  refine e_callS (As := [.int x, .int (nI 1), .int (nI 120)]) (rest := []) ⟨hx, hb, hml, hown, hts⟩ hK hP hD hS hA hl.1 (c_X5_isIn l E _ x (nI 1) (nI 120)) (va_cwS 3 hts gX5_pass_X5_isIn rfl rfl rfl (by decide +kernel) ⟨Nat.le_of_ble_eq_true rfl, Nat.le_of_ble_eq_true rfl⟩) [] [0, 1, 2, 3, 4, 5, 6, 7, 8, 9] rfl rfl rfl rfl (by decide) rfl rfl (Nat.le_of_ble_eq_true rfl) dX5_pass_9 ⟨Nat.le_of_ble_eq_true rfl, Nat.le_of_ble_eq_true rfl⟩ (fun u_1 H locs hu_2 hsz1 hP hD hS => ?_)
  have hP : va_P E.1 vwCl (wMo E o ad (nI 0) gr co sd tk wm st (nI mo) nx lb fr) H := hP.sub [0, 1, 2, 3, 4, 5, 6, 7, 8, 9] rfl
  have hD : va_D A (wMo E o ad (nI 0) gr co sd tk wm st (nI mo) nx lb fr) := hD.sub [0, 1, 2, 3, 4, 5, 6, 7, 8, 9] (by decide) rfl
  refine W.eq (g2 := F0 m 12 ls [.int (b2i (isInB x (nI 1) (nI 120)))]) rfl ?_
  refine b_if_ne (x := isInB x (nI 1) (nI 120)) (tgt := 21) hx hb dX5_pass_12 (by decide) (fun c12 => by rw [hc] at c12; cases c12) (fun c12 => ?_)
  refine lv_aload_n hx hb dX5_pass_15 rfl (lv_at hl 0 rfl) ?_
  refine lv_iconst (v := nI 1) hx hb dX5_pass_16 (by decide +kernel) ?_
  refine e_callV (As := [.int (nI 1)]) (rest := []) ⟨hx, hb, hml, hown, hts⟩ hK hP hD hS hA hl.1 (c_X5_fail l E _ o ad (nI 0) gr co sd tk wm st mo nx lb fr (nI 1)) (cwV 1 hts gX5_pass_X5_fail rfl rfl rfl (by decide +kernel) ⟨Nat.le_of_ble_eq_true rfl, Nat.le_of_ble_eq_true rfl⟩) [0, 1, 2, 3, 4, 5, 6, 7, 8, 9] [] rfl rfl rfl rfl (by decide) (q0 := 0) (ci := 5) rfl rfl rfl rfl (Nat.le_of_ble_eq_true rfl) dX5_pass_17 ⟨Nat.le_of_ble_eq_true rfl, Nat.le_of_ble_eq_true rfl⟩ (fun u_3 H locs hu_4 hsz1 hP hD hS => ?_)
  have hP : va_P E.1 vwCl (wMo E o ad (nI 1) gr co sd tk wm st (nI mo) nx lb fr) H := hP.sub [0, 1, 2, 3, 4, 5, 6, 7, 8, 9] rfl
  have hD : va_D A (wMo E o ad (nI 1) gr co sd tk wm st (nI mo) nx lb fr) := hD.sub [0, 1, 2, 3, 4, 5, 6, 7, 8, 9] (by decide) rfl
  refine W.eq (g2 := F0 m 20 ls [.int (nI 0)]) rfl ?_
  exact e_iret () hQ hx hb hr hlocks hP hD hS dX5_pass_20 (rfl) (Nat.le_of_ble_eq_true rfl) (Nat.le_of_ble_eq_true rfl) (trivial)

abbrev rm_X5_count : Room := { frames := 4, cells := 0, slots := 0, locals := 95 }
set_option maxHeartbeats 4000000 in
set_option maxRecDepth 100000 in
theorem c_X5_count (l : Launch) (E : eT) (sz : Nat) (o : Nat) (ad : Nat → Nat) (th : Int32) (gr : Nat → Int32) (co : Nat → Int32) (sd : Nat → Int32) (tk : Nat → Int32) (wm : Nat → Int32) (st : Nat → Int32) (mo : Nat) (nx : Nat → Int32) (lb : Nat → Option Nat) (fr : Nat → Nat) (k : Nat) (hk : k < 8) : cM l yX5_count wsX5_count rm_X5_count E sz [.ref o, .int (nI k)] (wMo E o ad th gr co sd tk wm st (nI mo) nx lb fr) (fun u : (Nat → Option Nat) => some (.int (cntA gr co sd mo k))) (fun u : (Nat → Option Nat) => True) (fun u : (Nat → Option Nat) => wMo E o ad (nI 0) gr co sd tk wm st (nI mo) nx u fr) := by
  refine cM_intro (cc := cX5_count) (maxL := 2) (ret := (some .int)) (by decide +kernel) rfl (Nat.le_of_ble_eq_true rfl) ?_
  intro p e s m args below meth cd hx hb hr hml hown hlocks hts hnm hK hsz hP A hD hA Q hQ ls hl
  have hown : s.vm.findClass RX5 = some m.cls := hown
  have hin5 : ∀ w ∈ u_ws RX5 TX5 11, w ∈ wsX5_count := by decide +kernel
  have lk37 := hts (.fieldLink RX5 37 "ReefPilotModel" "thrown" "I") (by decide +kernel)
  have hS : va_S A s.heap s.heap [] := va_S.rf
  have hl : lv_has ls 2 [(0, .ref o), (1, .int (nI k))] := hl
  refine lv_aload_n hx hb dX5_count_0 rfl (lv_at hl 0 rfl) ?_
  refine lv_iconst (v := nI 0) hx hb dX5_count_1 (by decide +kernel) ?_
  refine va_put (D := E.1) (ci := 5) (v := .int (nI 0)) (ty := .int) (C := RX5) (T := TX5) (N := 11) hx hb hts hin5 tyX5 tyX5_ok nmX5 hown hK.1 hP hD hS 0 rfl rfl 0 (by decide) lk37 (fun _ h9 => h9) rfl (by decide +kernel) rfl rfl (Nat.le_of_ble_eq_true rfl) dX5_count_2 (fun H locs hP hD hS => ?_)
  have hP : va_P E.1 vwCl (wMo E o ad (nI 0) gr co sd tk wm st (nI mo) nx lb fr) H := hP
  have hD : va_D A (wMo E o ad (nI 0) gr co sd tk wm st (nI mo) nx lb fr) := hD
  refine lv_iload_n hx hb dX5_count_5 rfl (lv_at hl 1 rfl) ?_
  refine lv_iconst (v := nI 0) hx hb dX5_count_6 (by decide +kernel) ?_
  refine lv_bipush (v := nI 7) hx hb dX5_count_7 (by decide +kernel) ?_
  refine e_callS (As := [.int (nI k), .int (nI 0), .int (nI 7)]) (rest := []) ⟨hx, hb, hml, hown, hts⟩ hK hP hD hS hA hl.1 (c_X5_isIn l E _ (nI k) (nI 0) (nI 7)) (va_cwS 3 hts gX5_count_X5_isIn rfl rfl rfl (by decide +kernel) ⟨Nat.le_of_ble_eq_true rfl, Nat.le_of_ble_eq_true rfl⟩) [] [0, 1, 2, 3, 4, 5, 6, 7, 8, 9] rfl rfl rfl rfl (by decide) rfl rfl (Nat.le_of_ble_eq_true rfl) dX5_count_9 ⟨Nat.le_of_ble_eq_true rfl, Nat.le_of_ble_eq_true rfl⟩ (fun u_1 H locs hu_2 hsz1 hP hD hS => ?_)
  have hP : va_P E.1 vwCl (wMo E o ad (nI 0) gr co sd tk wm st (nI mo) nx lb fr) H := hP.sub [0, 1, 2, 3, 4, 5, 6, 7, 8, 9] rfl
  have hD : va_D A (wMo E o ad (nI 0) gr co sd tk wm st (nI mo) nx lb fr) := hD.sub [0, 1, 2, 3, 4, 5, 6, 7, 8, 9] (by decide) rfl
  refine W.eq (g2 := F0 m 12 ls [.int (b2i (isInB (nI k) (nI 0) (nI 7)))]) rfl ?_
  refine b_if_eq (x := isInB (nI k) (nI 0) (nI 7)) (tgt := 23) hx hb dX5_count_12 (by decide) (fun c12 => by rw [isInB_n (Nat.zero_le _) (show k ≤ 7 by omega) (by decide)] at c12; cases c12) (fun c12 => ?_)
  refine lv_aload_n hx hb dX5_count_15 rfl (lv_at hl 0 rfl) ?_
  refine lv_iload_n hx hb dX5_count_16 rfl (lv_at hl 1 rfl) ?_
  refine e_callV (As := [.int (nI k)]) (rest := []) ⟨hx, hb, hml, hown, hts⟩ hK hP hD hS hA hl.1 (c_X5_counted l E _ o ad (nI 0) gr co sd tk wm st mo nx lb fr k (by first | omega | assumption | rfl | (simp_all; done))) (cwV 1 hts gX5_count_X5_counted rfl rfl rfl (by decide +kernel) ⟨Nat.le_of_ble_eq_true rfl, Nat.le_of_ble_eq_true rfl⟩) [0, 1, 2, 3, 4, 5, 6, 7, 8, 9] [] rfl rfl rfl rfl (by decide) (q0 := 0) (ci := 5) rfl rfl rfl rfl (Nat.le_of_ble_eq_true rfl) dX5_count_17 ⟨Nat.le_of_ble_eq_true rfl, Nat.le_of_ble_eq_true rfl⟩ (fun u_3 H locs hu_4 hsz1 hP hD hS => ?_)
  obtain ⟨lb__5, rfl⟩ : ∃ z, z = u_3 := ⟨_, rfl⟩
  have hP : va_P E.1 vwCl (wMo E o ad (nI 0) gr co sd tk wm st (nI mo) nx lb__5 fr) H := hP.sub [0, 1, 2, 3, 4, 5, 6, 7, 8, 9] rfl
  have hD : va_D A (wMo E o ad (nI 0) gr co sd tk wm st (nI mo) nx lb__5 fr) := hD.sub [0, 1, 2, 3, 4, 5, 6, 7, 8, 9] (by decide) rfl
  refine W.eq (g2 := F0 m 20 ls [.int (cntA gr co sd mo k)]) rfl ?_
  refine lv_goto (tgt := 28) hx hb dX5_count_20 (by decide) ?_
  exact e_iret lb__5 hQ hx hb hr hlocks hP hD hS dX5_count_28 (rfl) (Nat.le_of_ble_eq_true rfl) (Nat.le_of_ble_eq_true rfl) (trivial)

abbrev rm_X5_count_b1 : Room := { frames := 1, cells := 0, slots := 0, locals := 22 }
set_option maxHeartbeats 4000000 in
set_option maxRecDepth 100000 in
theorem c_X5_count_b1 (l : Launch) (E : eT) (sz : Nat) (o : Nat) (ad : Nat → Nat) (th : Int32) (gr : Nat → Int32) (co : Nat → Int32) (sd : Nat → Int32) (tk : Nat → Int32) (wm : Nat → Int32) (st : Nat → Int32) (mo : Nat) (nx : Nat → Int32) (lb : Nat → Option Nat) (fr : Nat → Nat) (x : Int32) (hc : isInB x (nI 0) (nI 7) = false) : cM l yX5_count wsX5_count rm_X5_count_b1 E sz [.ref o, .int x] (wMo E o ad th gr co sd tk wm st (nI mo) nx lb fr) (fun u : Unit => some (.int (nI 0))) (fun u : Unit => True) (fun u : Unit => wMo E o ad (nI 1) gr co sd tk wm st (nI mo) nx lb fr) := by
  refine cM_intro (cc := cX5_count) (maxL := 2) (ret := (some .int)) (by decide +kernel) rfl (Nat.le_of_ble_eq_true rfl) ?_
  intro p e s m args below meth cd hx hb hr hml hown hlocks hts hnm hK hsz hP A hD hA Q hQ ls hl
  have hown : s.vm.findClass RX5 = some m.cls := hown
  have hin5 : ∀ w ∈ u_ws RX5 TX5 11, w ∈ wsX5_count := by decide +kernel
  have lk37 := hts (.fieldLink RX5 37 "ReefPilotModel" "thrown" "I") (by decide +kernel)
  have hS : va_S A s.heap s.heap [] := va_S.rf
  have hl : lv_has ls 2 [(0, .ref o), (1, .int x)] := hl
  refine lv_aload_n hx hb dX5_count_0 rfl (lv_at hl 0 rfl) ?_
  refine lv_iconst (v := nI 0) hx hb dX5_count_1 (by decide +kernel) ?_
  refine va_put (D := E.1) (ci := 5) (v := .int (nI 0)) (ty := .int) (C := RX5) (T := TX5) (N := 11) hx hb hts hin5 tyX5 tyX5_ok nmX5 hown hK.1 hP hD hS 0 rfl rfl 0 (by decide) lk37 (fun _ h9 => h9) rfl (by decide +kernel) rfl rfl (Nat.le_of_ble_eq_true rfl) dX5_count_2 (fun H locs hP hD hS => ?_)
  have hP : va_P E.1 vwCl (wMo E o ad (nI 0) gr co sd tk wm st (nI mo) nx lb fr) H := hP
  have hD : va_D A (wMo E o ad (nI 0) gr co sd tk wm st (nI mo) nx lb fr) := hD
  refine lv_iload_n hx hb dX5_count_5 rfl (lv_at hl 1 rfl) ?_
  refine lv_iconst (v := nI 0) hx hb dX5_count_6 (by decide +kernel) ?_
  refine lv_bipush (v := nI 7) hx hb dX5_count_7 (by decide +kernel) ?_
  refine e_callS (As := [.int x, .int (nI 0), .int (nI 7)]) (rest := []) ⟨hx, hb, hml, hown, hts⟩ hK hP hD hS hA hl.1 (c_X5_isIn l E _ x (nI 0) (nI 7)) (va_cwS 3 hts gX5_count_X5_isIn rfl rfl rfl (by decide +kernel) ⟨Nat.le_of_ble_eq_true rfl, Nat.le_of_ble_eq_true rfl⟩) [] [0, 1, 2, 3, 4, 5, 6, 7, 8, 9] rfl rfl rfl rfl (by decide) rfl rfl (Nat.le_of_ble_eq_true rfl) dX5_count_9 ⟨Nat.le_of_ble_eq_true rfl, Nat.le_of_ble_eq_true rfl⟩ (fun u_1 H locs hu_2 hsz1 hP hD hS => ?_)
  have hP : va_P E.1 vwCl (wMo E o ad (nI 0) gr co sd tk wm st (nI mo) nx lb fr) H := hP.sub [0, 1, 2, 3, 4, 5, 6, 7, 8, 9] rfl
  have hD : va_D A (wMo E o ad (nI 0) gr co sd tk wm st (nI mo) nx lb fr) := hD.sub [0, 1, 2, 3, 4, 5, 6, 7, 8, 9] (by decide) rfl
  refine W.eq (g2 := F0 m 12 ls [.int (b2i (isInB x (nI 0) (nI 7)))]) rfl ?_
  refine b_if_eq (x := isInB x (nI 0) (nI 7)) (tgt := 23) hx hb dX5_count_12 (by decide) (fun c12 => ?_) (fun c12 => by rw [hc] at c12; cases c12)
  refine lv_aload_n hx hb dX5_count_23 rfl (lv_at hl 0 rfl) ?_
  refine lv_iconst (v := nI 1) hx hb dX5_count_24 (by decide +kernel) ?_
  refine e_callV (As := [.int (nI 1)]) (rest := []) ⟨hx, hb, hml, hown, hts⟩ hK hP hD hS hA hl.1 (c_X5_fail l E _ o ad (nI 0) gr co sd tk wm st mo nx lb fr (nI 1)) (cwV 1 hts gX5_count_X5_fail rfl rfl rfl (by decide +kernel) ⟨Nat.le_of_ble_eq_true rfl, Nat.le_of_ble_eq_true rfl⟩) [0, 1, 2, 3, 4, 5, 6, 7, 8, 9] [] rfl rfl rfl rfl (by decide) (q0 := 0) (ci := 5) rfl rfl rfl rfl (Nat.le_of_ble_eq_true rfl) dX5_count_25 ⟨Nat.le_of_ble_eq_true rfl, Nat.le_of_ble_eq_true rfl⟩ (fun u_3 H locs hu_4 hsz1 hP hD hS => ?_)
  have hP : va_P E.1 vwCl (wMo E o ad (nI 1) gr co sd tk wm st (nI mo) nx lb fr) H := hP.sub [0, 1, 2, 3, 4, 5, 6, 7, 8, 9] rfl
  have hD : va_D A (wMo E o ad (nI 1) gr co sd tk wm st (nI mo) nx lb fr) := hD.sub [0, 1, 2, 3, 4, 5, 6, 7, 8, 9] (by decide) rfl
  refine W.eq (g2 := F0 m 28 ls [.int (nI 0)]) rfl ?_
  exact e_iret () hQ hx hb hr hlocks hP hD hS dX5_count_28 (rfl) (Nat.le_of_ble_eq_true rfl) (Nat.le_of_ble_eq_true rfl) (trivial)

abbrev rm_X5_closes : Room := { frames := 4, cells := 2, slots := 162, locals := 104 }
set_option maxHeartbeats 4000000 in
set_option maxRecDepth 100000 in
theorem c_X5_closes (l : Launch) (E : eT) (sz : Nat) (o : Nat) (ad : Nat → Nat) (th : Int32) (gr : Nat → Int32) (co : Nat → Int32) (sd : Nat → Int32) (tk : Nat → Int32) (wm : Nat → Int32) (st : Nat → Int32) (mo : Nat) (nx : Nat → Int32) (lb : Nat → Option Nat) (fr : Nat → Nat) (dr : Int32) (hdr : isInB dr (nI 0) (nI 39) = true) (hmo : mo < 2 ^ 30) (hT : Tb wm st) (hR : Rg gr co) : cM l yX5_closes wsX5_closes rm_X5_closes E sz [.ref o, .int dr] (wMo E o ad th gr co sd tk wm st (nI mo) nx lb fr) (fun u : (Nat → Int32) × (Nat → Nat) => some (.int (closN wm st gr co mo dr))) (fun u : (Nat → Int32) × (Nat → Nat) => True) (fun u : (Nat → Int32) × (Nat → Nat) => wMo E o ad (nI 0) gr co sd tk wm st (nI mo) u.1 lb u.2) := by
  refine cM_intro (cc := cX5_closes) (maxL := 6) (ret := (some .int)) (by decide +kernel) rfl (Nat.le_of_ble_eq_true rfl) ?_
  intro p e s m args below meth cd hx hb hr hml hown hlocks hts hnm hK hsz hP A hD hA Q hQ ls hl
  have hown : s.vm.findClass RX5 = some m.cls := hown
  have hin5 : ∀ w ∈ u_ws RX5 TX5 11, w ∈ wsX5_closes := by decide +kernel
  have lk9 := hts (.fieldLink RX5 9 "ReefPilotModel" "ground" "[I") (by decide +kernel)
  have lk13 := hts (.fieldLink RX5 13 "ReefPilotModel" "coral" "[I") (by decide +kernel)
  have lk37 := hts (.fieldLink RX5 37 "ReefPilotModel" "thrown" "I") (by decide +kernel)
  have lk78 := hts (.fieldLink RX5 78 "ReefPilotModel" "month" "I") (by decide +kernel)
  have hac1 := hts (.methodLink RX5 128 ⟨"[I", "clone", "()Ljava/lang/Object;"⟩) (by decide +kernel)
  have hac2 := hts (.sameMethod "[I" "java/lang/Object" "clone" "()Ljava/lang/Object;") (by decide +kernel)
  have hac3 := hts (.native ⟨"java/lang/Object", "clone", "()Ljava/lang/Object;"⟩) (by decide +kernel)
  have hac4 := hts (.instanceMethod ⟨"java/lang/Object", "clone", "()Ljava/lang/Object;"⟩) (by decide +kernel)
  have hac5 := hts (.selects "[I" ⟨"[I", "clone", "()Ljava/lang/Object;"⟩ ⟨"java/lang/Object", "clone", "()Ljava/lang/Object;"⟩) (by decide +kernel)
  have hacc := hts (.classLink RX5 129 "[I") (by decide +kernel)
  have hS : va_S A s.heap s.heap [] := va_S.rf
  have hl : lv_has ls 6 [(0, .ref o), (1, .int dr)] := hl
  refine lv_aload_n hx hb dX5_closes_0 rfl (lv_at hl 0 rfl) ?_
  refine lv_iconst (v := nI 0) hx hb dX5_closes_1 (by decide +kernel) ?_
  refine va_put (D := E.1) (ci := 5) (v := .int (nI 0)) (ty := .int) (C := RX5) (T := TX5) (N := 11) hx hb hts hin5 tyX5 tyX5_ok nmX5 hown hK.1 hP hD hS 0 rfl rfl 0 (by decide) lk37 (fun _ h9 => h9) rfl (by decide +kernel) rfl rfl (Nat.le_of_ble_eq_true rfl) dX5_closes_2 (fun H locs hP hD hS => ?_)
  have hP : va_P E.1 vwCl (wMo E o ad (nI 0) gr co sd tk wm st (nI mo) nx lb fr) H := hP
  have hD : va_D A (wMo E o ad (nI 0) gr co sd tk wm st (nI mo) nx lb fr) := hD
  refine lv_iload_n hx hb dX5_closes_5 rfl (lv_at hl 1 rfl) ?_
  refine lv_iconst (v := nI 0) hx hb dX5_closes_6 (by decide +kernel) ?_
  refine lv_bipush (v := nI 39) hx hb dX5_closes_7 (by decide +kernel) ?_
  refine e_callS (As := [.int dr, .int (nI 0), .int (nI 39)]) (rest := []) ⟨hx, hb, hml, hown, hts⟩ hK hP hD hS hA hl.1 (c_X5_isIn l E _ dr (nI 0) (nI 39)) (va_cwS 3 hts gX5_closes_X5_isIn rfl rfl rfl (by decide +kernel) ⟨Nat.le_of_ble_eq_true rfl, Nat.le_of_ble_eq_true rfl⟩) [] [0, 1, 2, 3, 4, 5, 6, 7, 8, 9] rfl rfl rfl rfl (by decide) rfl rfl (Nat.le_of_ble_eq_true rfl) dX5_closes_9 ⟨Nat.le_of_ble_eq_true rfl, Nat.le_of_ble_eq_true rfl⟩ (fun u_1 H locs hu_2 hsz1 hP hD hS => ?_)
  have hP : va_P E.1 vwCl (wMo E o ad (nI 0) gr co sd tk wm st (nI mo) nx lb fr) H := hP.sub [0, 1, 2, 3, 4, 5, 6, 7, 8, 9] rfl
  have hD : va_D A (wMo E o ad (nI 0) gr co sd tk wm st (nI mo) nx lb fr) := hD.sub [0, 1, 2, 3, 4, 5, 6, 7, 8, 9] (by decide) rfl
  refine W.eq (g2 := F0 m 12 ls [.int (b2i (isInB dr (nI 0) (nI 39)))]) rfl ?_
  refine b_if_ne (x := isInB dr (nI 0) (nI 39)) (tgt := 21) hx hb dX5_closes_12 (by decide) (fun c12 => ?_) (fun c12 => by rw [hdr] at c12; cases c12)
  refine lv_aload_n hx hb dX5_closes_21 rfl (lv_at hl 0 rfl) ?_
  refine va_get (D := E.1) (ci := 5) (v := .ref (ad 0)) (C := RX5) (T := TX5) (N := 11) hx hb hts hin5 hown hK.1 hP 0 rfl rfl 1 (by decide) lk9 (fun _ h9 => h9) rfl dX5_closes_22 ?_
  refine e_clone hK hP hD hS hA hx hb (by rw [hml]; exact hl.1.symm) hown hac1 hac2 hac3 hac4 hac5 1 rfl (Nat.le_of_ble_eq_true rfl) (Nat.le_of_ble_eq_true rfl) (Nat.le_of_ble_eq_true rfl) (Nat.le_of_ble_eq_true rfl) dX5_closes_25 (fun q_3 H hP hD hS => ?_)
  have hP : va_P E.1 vwCl (wMo E o ad (nI 0) gr co sd tk wm st (nI mo) nx lb fr ++ [(q_3, .inl (E.2.1, 81, .inl gr))]) H := hP
  have hD : va_D A (wMo E o ad (nI 0) gr co sd tk wm st (nI mo) nx lb fr ++ [(q_3, .inl (E.2.1, 81, .inl gr))]) := hD
  refine va_castA hx hb hown hacc hP 10 rfl (e_arrI hK) dX5_closes_28 ?_
  refine lv_astore_n (lv' := [(2, .ref q_3), (0, .ref o), (1, .int dr)]) hx hb dX5_closes_31 rfl hl (by decide) rfl (fun ls hl => ?_)
  refine lv_aload_n hx hb dX5_closes_32 rfl (lv_at hl 1 rfl) ?_
  refine va_get (D := E.1) (ci := 5) (v := .ref (ad 1)) (C := RX5) (T := TX5) (N := 11) hx hb hts hin5 hown hK.1 hP 0 rfl rfl 2 (by decide) lk13 (fun _ h9 => h9) rfl dX5_closes_33 ?_
  refine e_clone hK hP hD hS hA hx hb (by rw [hml]; exact hl.1.symm) hown hac1 hac2 hac3 hac4 hac5 2 rfl (Nat.le_of_ble_eq_true rfl) (Nat.le_of_ble_eq_true rfl) (Nat.le_of_ble_eq_true rfl) (Nat.le_of_ble_eq_true rfl) dX5_closes_36 (fun q_4 H hP hD hS => ?_)
  have hP : va_P E.1 vwCl (wMo E o ad (nI 0) gr co sd tk wm st (nI mo) nx lb fr ++ [(q_3, .inl (E.2.1, 81, .inl gr))] ++ [(q_4, .inl (E.2.1, 81, .inl co))]) H := hP
  have hD : va_D A (wMo E o ad (nI 0) gr co sd tk wm st (nI mo) nx lb fr ++ [(q_3, .inl (E.2.1, 81, .inl gr))] ++ [(q_4, .inl (E.2.1, 81, .inl co))]) := hD
  refine va_castA hx hb hown hacc hP 11 rfl (e_arrI hK) dX5_closes_39 ?_
  refine lv_astore_n (lv' := [(3, .ref q_4), (2, .ref q_3), (0, .ref o), (1, .int dr)]) hx hb dX5_closes_42 rfl hl (by decide) rfl (fun ls hl => ?_)
  refine lv_aload_n hx hb dX5_closes_43 rfl (lv_at hl 2 rfl) ?_
  refine va_get (D := E.1) (ci := 5) (v := .int (nI mo)) (C := RX5) (T := TX5) (N := 11) hx hb hts hin5 hown hK.1 hP 0 rfl rfl 7 (by decide) lk78 (fun _ h9 => h9) rfl dX5_closes_44 ?_
  refine lv_istore (lv' := [(4, .int (nI mo)), (3, .ref q_4), (2, .ref q_3), (0, .ref o), (1, .int dr)]) hx hb dX5_closes_47 hl (by decide) rfl (fun ls hl => ?_)
  refine lv_iconst (v := nI 0) hx hb dX5_closes_49 (by decide +kernel) ?_
  refine lv_istore (lv' := [(5, .int (nI 0)), (4, .int (nI mo)), (3, .ref q_4), (2, .ref q_3), (0, .ref o), (1, .int dr)]) hx hb dX5_closes_50 hl (by decide) rfl (fun ls hl => ?_)
  have L52 : ∀ (fuel : Nat) (z : Nat) (g : Nat → Int32) (f : Nat → Int32) (x1 : Nat → Int32) (f1 : Nat → Nat) (hz : z ≤ 100) (hg : (g, f) = months wm st (gr, co) mo z) (hcl : ∀ j, j < z → closB wm st gr co mo dr j = true) (hfuel : 100 - z < fuel) (H : Heap) (locs : List Loc), va_P E.1 vwCl (wMo E o ad (nI 0) g f sd tk wm st (nI (mo + z)) x1 lb f1 ++ [(q_3, .inl (E.2.1, 81, .inl gr))] ++ [(q_4, .inl (E.2.1, 81, .inl co))]) H → va_D A (wMo E o ad (nI 0) g f sd tk wm st (nI (mo + z)) x1 lb f1 ++ [(q_3, .inl (E.2.1, 81, .inl gr))] ++ [(q_4, .inl (E.2.1, 81, .inl co))]) → va_S A s.heap H locs → ∀ ls : Array Slot, lv_has ls 6 [(5, .int (nI z)), (4, .int (nI mo)), (3, .ref q_4), (2, .ref q_3), (0, .ref o), (1, .int dr)] → W p l e rm_X5_closes s m args below meth cd H locs 2 162 Q (F0 m 52 ls []) := by
    intro fuel
    induction fuel with
    | zero => intros; omega
    | succ fuel ihL52 =>
      intro z g f x1 f1 hz hg hcl hfuel H locs hP hD hS ls hl
      have hRz : Rg g f := by have h9 := Rg_months hT (x := (gr, co)) hR mo z; rw [← hg] at h9; exact h9
      have hge : g = (months wm st (gr, co) mo z).1 ∧ f = (months wm st (gr, co) mo z).2 := by rw [← hg]; exact ⟨rfl, rfl⟩
      refine lv_iload hx hb dX5_closes_52 (lv_at hl 0 rfl) ?_
      refine lv_bipush (v := nI 100) hx hb dX5_closes_54 (by decide +kernel) ?_
      refine n_icmp_ge (x := z) (y := 100) (by omega) (by omega) (tgt := 79) hx hb dX5_closes_56 (by decide) (fun c56 => ?_) (fun c56 => ?_)
      · refine lv_aload_n hx hb dX5_closes_79 rfl (lv_at hl 4 rfl) ?_
        refine lv_iload_n hx hb dX5_closes_80 rfl (lv_at hl 5 rfl) ?_
        refine lv_iconst (v := nI 0) hx hb dX5_closes_81 (by decide +kernel) ?_
        refine e_callV (As := [.int dr, .int (nI 0)]) (rest := []) ⟨hx, hb, hml, hown, hts⟩ hK hP hD hS hA hl.1 (c_X5_shortest l E _ o ad (nI 0) g f sd tk wm st (mo + z) x1 lb f1 dr false) (cwV 2 hts gX5_closes_X5_shortest rfl rfl rfl (by decide +kernel) ⟨Nat.le_of_ble_eq_true rfl, Nat.le_of_ble_eq_true rfl⟩) [0, 1, 2, 3, 4, 5, 6, 7, 8, 9] [10, 11] rfl rfl rfl rfl (by decide) (q0 := 0) (ci := 5) rfl rfl rfl rfl (Nat.le_of_ble_eq_true rfl) dX5_closes_82 ⟨Nat.le_of_ble_eq_true rfl, Nat.le_of_ble_eq_true rfl⟩ (fun u_5 H locs hu_6 hsz1 hP hD hS => ?_)
        have hP : va_P E.1 vwCl (wMo E o ad (nI 0) g f sd tk wm st (nI (mo + z)) x1 lb (farN (opn (if false = true then chSafe sd tk (nI (mo + z)) else dep g f) dr) 72) ++ [(q_3, .inl (E.2.1, 81, .inl gr))] ++ [(q_4, .inl (E.2.1, 81, .inl co))]) H := hP.sub [2, 3, 4, 5, 6, 7, 8, 9, 10, 11, 0, 1] rfl
        have hD : va_D A (wMo E o ad (nI 0) g f sd tk wm st (nI (mo + z)) x1 lb (farN (opn (if false = true then chSafe sd tk (nI (mo + z)) else dep g f) dr) 72) ++ [(q_3, .inl (E.2.1, 81, .inl gr))] ++ [(q_4, .inl (E.2.1, 81, .inl co))]) := hD.sub [2, 3, 4, 5, 6, 7, 8, 9, 10, 11, 0, 1] (by decide) rfl
        refine W.eq (g2 := F0 m 85 ls [.int (wayN (if false = true then chSafe sd tk (nI (mo + z)) else dep g f) dr)]) rfl ?_
        refine lv_iconst (v := (-1)) hx hb dX5_closes_85 (by decide +kernel) ?_
        refine lv_icmp_eq (tgt := 92) hx hb dX5_closes_86 (by decide) (fun c86 => ?_) (fun c86 => ?_)
        · refine lv_aload_n hx hb dX5_closes_92 rfl (lv_at hl 4 rfl) ?_
          refine lv_aload_n hx hb dX5_closes_93 rfl (lv_at hl 3 rfl) ?_
          refine lv_aload_n hx hb dX5_closes_94 rfl (lv_at hl 2 rfl) ?_
          refine lv_iload hx hb dX5_closes_95 (lv_at hl 1 rfl) ?_
          refine e_callV (As := [.ref q_3, .ref q_4, .int (nI mo)]) (rest := []) ⟨hx, hb, hml, hown, hts⟩ hK hP hD hS hA hl.1 (c_X5_bringBack l E _ o ad (nI 0) g f sd tk wm st (mo + z) x1 lb (farN (opn (if false = true then chSafe sd tk (nI (mo + z)) else dep g f) dr) 72) q_3 gr q_4 co mo) (cwV 3 hts gX5_closes_X5_bringBack rfl rfl rfl (by decide +kernel) ⟨Nat.le_of_ble_eq_true rfl, Nat.le_of_ble_eq_true rfl⟩) [0, 1, 2, 3, 4, 5, 6, 7, 8, 9, 10, 11] [] rfl rfl rfl rfl (by decide) (q0 := 0) (ci := 5) rfl rfl rfl rfl (Nat.le_of_ble_eq_true rfl) dX5_closes_97 ⟨Nat.le_of_ble_eq_true rfl, Nat.le_of_ble_eq_true rfl⟩ (fun u_7 H locs hu_8 hsz1 hP hD hS => ?_)
          have hP : va_P E.1 vwCl (wMo E o ad (nI 0) gr co sd tk wm st (nI mo) x1 lb (farN (opn (if false = true then chSafe sd tk (nI (mo + z)) else dep g f) dr) 72) ++ [(q_3, .inl (E.2.1, 81, .inl gr))] ++ [(q_4, .inl (E.2.1, 81, .inl co))]) H := hP.sub [0, 1, 2, 3, 4, 5, 6, 7, 8, 9, 10, 11] rfl
          have hD : va_D A (wMo E o ad (nI 0) gr co sd tk wm st (nI mo) x1 lb (farN (opn (if false = true then chSafe sd tk (nI (mo + z)) else dep g f) dr) 72) ++ [(q_3, .inl (E.2.1, 81, .inl gr))] ++ [(q_4, .inl (E.2.1, 81, .inl co))]) := hD.sub [0, 1, 2, 3, 4, 5, 6, 7, 8, 9, 10, 11] (by decide) rfl
          refine W.eq (g2 := F0 m 100 ls []) rfl ?_
          refine lv_iload hx hb dX5_closes_100 (lv_at hl 0 rfl) ?_
          have hP : va_P E.1 vwCl (wMo E o ad (nI 0) gr co sd tk wm st (nI mo) x1 lb (farN (opn (if false = true then chSafe sd tk (nI (mo + z)) else dep g f) dr) 72)) H := hP.sub [0, 1, 2, 3, 4, 5, 6, 7, 8, 9] rfl
          have hD : va_D A (wMo E o ad (nI 0) gr co sd tk wm st (nI mo) x1 lb (farN (opn (if false = true then chSafe sd tk (nI (mo + z)) else dep g f) dr) 72)) := hD.sub [0, 1, 2, 3, 4, 5, 6, 7, 8, 9] (by decide) rfl
          exact e_iret (x1, (farN (opn (if false = true then chSafe sd tk (nI (mo + z)) else dep g f) dr) 72)) hQ hx hb hr hlocks hP hD hS dX5_closes_102 (rvi (by first | exact absurd c66 c86 | exact closN_at hz hcl (closB_f (by rw [← hge.1, ← hge.2]; exact c66)) | exact closN_at hz hcl (closB_f (by rw [← hge.1, ← hge.2]; exact c86)) | exact closN_no (fun j hj => by rcases Nat.lt_or_ge j z with h9 | h9; exact hcl j h9; rw [show j = z by omega]; exact closB_t (by rw [← hge.1, ← hge.2]; exact c86)))) (Nat.le_of_ble_eq_true rfl) (Nat.le_of_ble_eq_true rfl) (trivial)
        · refine lv_iconst (v := (-1)) hx hb dX5_closes_89 (by decide +kernel) ?_
          refine lv_istore (lv' := [(5, .int (-1)), (4, .int (nI mo)), (3, .ref q_4), (2, .ref q_3), (0, .ref o), (1, .int dr)]) hx hb dX5_closes_90 hl (by decide) rfl (fun ls hl => ?_)
          refine lv_aload_n hx hb dX5_closes_92 rfl (lv_at hl 4 rfl) ?_
          refine lv_aload_n hx hb dX5_closes_93 rfl (lv_at hl 3 rfl) ?_
          refine lv_aload_n hx hb dX5_closes_94 rfl (lv_at hl 2 rfl) ?_
          refine lv_iload hx hb dX5_closes_95 (lv_at hl 1 rfl) ?_
          refine e_callV (As := [.ref q_3, .ref q_4, .int (nI mo)]) (rest := []) ⟨hx, hb, hml, hown, hts⟩ hK hP hD hS hA hl.1 (c_X5_bringBack l E _ o ad (nI 0) g f sd tk wm st (mo + z) x1 lb (farN (opn (if false = true then chSafe sd tk (nI (mo + z)) else dep g f) dr) 72) q_3 gr q_4 co mo) (cwV 3 hts gX5_closes_X5_bringBack rfl rfl rfl (by decide +kernel) ⟨Nat.le_of_ble_eq_true rfl, Nat.le_of_ble_eq_true rfl⟩) [0, 1, 2, 3, 4, 5, 6, 7, 8, 9, 10, 11] [] rfl rfl rfl rfl (by decide) (q0 := 0) (ci := 5) rfl rfl rfl rfl (Nat.le_of_ble_eq_true rfl) dX5_closes_97 ⟨Nat.le_of_ble_eq_true rfl, Nat.le_of_ble_eq_true rfl⟩ (fun u_9 H locs hu_10 hsz1 hP hD hS => ?_)
          have hP : va_P E.1 vwCl (wMo E o ad (nI 0) gr co sd tk wm st (nI mo) x1 lb (farN (opn (if false = true then chSafe sd tk (nI (mo + z)) else dep g f) dr) 72) ++ [(q_3, .inl (E.2.1, 81, .inl gr))] ++ [(q_4, .inl (E.2.1, 81, .inl co))]) H := hP.sub [0, 1, 2, 3, 4, 5, 6, 7, 8, 9, 10, 11] rfl
          have hD : va_D A (wMo E o ad (nI 0) gr co sd tk wm st (nI mo) x1 lb (farN (opn (if false = true then chSafe sd tk (nI (mo + z)) else dep g f) dr) 72) ++ [(q_3, .inl (E.2.1, 81, .inl gr))] ++ [(q_4, .inl (E.2.1, 81, .inl co))]) := hD.sub [0, 1, 2, 3, 4, 5, 6, 7, 8, 9, 10, 11] (by decide) rfl
          refine W.eq (g2 := F0 m 100 ls []) rfl ?_
          refine lv_iload hx hb dX5_closes_100 (lv_at hl 0 rfl) ?_
          have hP : va_P E.1 vwCl (wMo E o ad (nI 0) gr co sd tk wm st (nI mo) x1 lb (farN (opn (if false = true then chSafe sd tk (nI (mo + z)) else dep g f) dr) 72)) H := hP.sub [0, 1, 2, 3, 4, 5, 6, 7, 8, 9] rfl
          have hD : va_D A (wMo E o ad (nI 0) gr co sd tk wm st (nI mo) x1 lb (farN (opn (if false = true then chSafe sd tk (nI (mo + z)) else dep g f) dr) 72)) := hD.sub [0, 1, 2, 3, 4, 5, 6, 7, 8, 9] (by decide) rfl
          exact e_iret (x1, (farN (opn (if false = true then chSafe sd tk (nI (mo + z)) else dep g f) dr) 72)) hQ hx hb hr hlocks hP hD hS dX5_closes_102 (rvi (by first | exact absurd c66 c86 | exact closN_at hz hcl (closB_f (by rw [← hge.1, ← hge.2]; exact c66)) | exact closN_at hz hcl (closB_f (by rw [← hge.1, ← hge.2]; exact c86)) | exact closN_no (fun j hj => by rcases Nat.lt_or_ge j z with h9 | h9; exact hcl j h9; rw [show j = z by omega]; exact closB_t (by rw [← hge.1, ← hge.2]; exact c86)))) (Nat.le_of_ble_eq_true rfl) (Nat.le_of_ble_eq_true rfl) (trivial)
      · refine lv_aload_n hx hb dX5_closes_59 rfl (lv_at hl 4 rfl) ?_
        refine lv_iload_n hx hb dX5_closes_60 rfl (lv_at hl 5 rfl) ?_
        refine lv_iconst (v := nI 0) hx hb dX5_closes_61 (by decide +kernel) ?_
        refine e_callV (As := [.int dr, .int (nI 0)]) (rest := []) ⟨hx, hb, hml, hown, hts⟩ hK hP hD hS hA hl.1 (c_X5_shortest l E _ o ad (nI 0) g f sd tk wm st (mo + z) x1 lb f1 dr false) (cwV 2 hts gX5_closes_X5_shortest rfl rfl rfl (by decide +kernel) ⟨Nat.le_of_ble_eq_true rfl, Nat.le_of_ble_eq_true rfl⟩) [0, 1, 2, 3, 4, 5, 6, 7, 8, 9] [10, 11] rfl rfl rfl rfl (by decide) (q0 := 0) (ci := 5) rfl rfl rfl rfl (Nat.le_of_ble_eq_true rfl) dX5_closes_62 ⟨Nat.le_of_ble_eq_true rfl, Nat.le_of_ble_eq_true rfl⟩ (fun u_11 H locs hu_12 hsz1 hP hD hS => ?_)
        have hP : va_P E.1 vwCl (wMo E o ad (nI 0) g f sd tk wm st (nI (mo + z)) x1 lb (farN (opn (if false = true then chSafe sd tk (nI (mo + z)) else dep g f) dr) 72) ++ [(q_3, .inl (E.2.1, 81, .inl gr))] ++ [(q_4, .inl (E.2.1, 81, .inl co))]) H := hP.sub [2, 3, 4, 5, 6, 7, 8, 9, 10, 11, 0, 1] rfl
        have hD : va_D A (wMo E o ad (nI 0) g f sd tk wm st (nI (mo + z)) x1 lb (farN (opn (if false = true then chSafe sd tk (nI (mo + z)) else dep g f) dr) 72) ++ [(q_3, .inl (E.2.1, 81, .inl gr))] ++ [(q_4, .inl (E.2.1, 81, .inl co))]) := hD.sub [2, 3, 4, 5, 6, 7, 8, 9, 10, 11, 0, 1] (by decide) rfl
        refine W.eq (g2 := F0 m 65 ls [.int (wayN (if false = true then chSafe sd tk (nI (mo + z)) else dep g f) dr)]) rfl ?_
        refine lv_iconst (v := (-1)) hx hb dX5_closes_65 (by decide +kernel) ?_
        refine lv_icmp_eq (tgt := 79) hx hb dX5_closes_66 (by decide) (fun c66 => ?_) (fun c66 => ?_)
        · refine lv_aload_n hx hb dX5_closes_79 rfl (lv_at hl 4 rfl) ?_
          refine lv_iload_n hx hb dX5_closes_80 rfl (lv_at hl 5 rfl) ?_
          refine lv_iconst (v := nI 0) hx hb dX5_closes_81 (by decide +kernel) ?_
          refine e_callV (As := [.int dr, .int (nI 0)]) (rest := []) ⟨hx, hb, hml, hown, hts⟩ hK hP hD hS hA hl.1 (c_X5_shortest l E _ o ad (nI 0) g f sd tk wm st (mo + z) x1 lb (farN (opn (if false = true then chSafe sd tk (nI (mo + z)) else dep g f) dr) 72) dr false) (cwV 2 hts gX5_closes_X5_shortest rfl rfl rfl (by decide +kernel) ⟨Nat.le_of_ble_eq_true rfl, Nat.le_of_ble_eq_true rfl⟩) [0, 1, 2, 3, 4, 5, 6, 7, 8, 9] [10, 11] rfl rfl rfl rfl (by decide) (q0 := 0) (ci := 5) rfl rfl rfl rfl (Nat.le_of_ble_eq_true rfl) dX5_closes_82 ⟨Nat.le_of_ble_eq_true rfl, Nat.le_of_ble_eq_true rfl⟩ (fun u_13 H locs hu_14 hsz1 hP hD hS => ?_)
          have hP : va_P E.1 vwCl (wMo E o ad (nI 0) g f sd tk wm st (nI (mo + z)) x1 lb (farN (opn (if false = true then chSafe sd tk (nI (mo + z)) else dep g f) dr) 72) ++ [(q_3, .inl (E.2.1, 81, .inl gr))] ++ [(q_4, .inl (E.2.1, 81, .inl co))]) H := hP.sub [2, 3, 4, 5, 6, 7, 8, 9, 10, 11, 0, 1] rfl
          have hD : va_D A (wMo E o ad (nI 0) g f sd tk wm st (nI (mo + z)) x1 lb (farN (opn (if false = true then chSafe sd tk (nI (mo + z)) else dep g f) dr) 72) ++ [(q_3, .inl (E.2.1, 81, .inl gr))] ++ [(q_4, .inl (E.2.1, 81, .inl co))]) := hD.sub [2, 3, 4, 5, 6, 7, 8, 9, 10, 11, 0, 1] (by decide) rfl
          refine W.eq (g2 := F0 m 85 ls [.int (wayN (if false = true then chSafe sd tk (nI (mo + z)) else dep g f) dr)]) rfl ?_
          refine lv_iconst (v := (-1)) hx hb dX5_closes_85 (by decide +kernel) ?_
          refine lv_icmp_eq (tgt := 92) hx hb dX5_closes_86 (by decide) (fun c86 => ?_) (fun c86 => ?_)
          · refine lv_aload_n hx hb dX5_closes_92 rfl (lv_at hl 4 rfl) ?_
            refine lv_aload_n hx hb dX5_closes_93 rfl (lv_at hl 3 rfl) ?_
            refine lv_aload_n hx hb dX5_closes_94 rfl (lv_at hl 2 rfl) ?_
            refine lv_iload hx hb dX5_closes_95 (lv_at hl 1 rfl) ?_
            refine e_callV (As := [.ref q_3, .ref q_4, .int (nI mo)]) (rest := []) ⟨hx, hb, hml, hown, hts⟩ hK hP hD hS hA hl.1 (c_X5_bringBack l E _ o ad (nI 0) g f sd tk wm st (mo + z) x1 lb (farN (opn (if false = true then chSafe sd tk (nI (mo + z)) else dep g f) dr) 72) q_3 gr q_4 co mo) (cwV 3 hts gX5_closes_X5_bringBack rfl rfl rfl (by decide +kernel) ⟨Nat.le_of_ble_eq_true rfl, Nat.le_of_ble_eq_true rfl⟩) [0, 1, 2, 3, 4, 5, 6, 7, 8, 9, 10, 11] [] rfl rfl rfl rfl (by decide) (q0 := 0) (ci := 5) rfl rfl rfl rfl (Nat.le_of_ble_eq_true rfl) dX5_closes_97 ⟨Nat.le_of_ble_eq_true rfl, Nat.le_of_ble_eq_true rfl⟩ (fun u_15 H locs hu_16 hsz1 hP hD hS => ?_)
            have hP : va_P E.1 vwCl (wMo E o ad (nI 0) gr co sd tk wm st (nI mo) x1 lb (farN (opn (if false = true then chSafe sd tk (nI (mo + z)) else dep g f) dr) 72) ++ [(q_3, .inl (E.2.1, 81, .inl gr))] ++ [(q_4, .inl (E.2.1, 81, .inl co))]) H := hP.sub [0, 1, 2, 3, 4, 5, 6, 7, 8, 9, 10, 11] rfl
            have hD : va_D A (wMo E o ad (nI 0) gr co sd tk wm st (nI mo) x1 lb (farN (opn (if false = true then chSafe sd tk (nI (mo + z)) else dep g f) dr) 72) ++ [(q_3, .inl (E.2.1, 81, .inl gr))] ++ [(q_4, .inl (E.2.1, 81, .inl co))]) := hD.sub [0, 1, 2, 3, 4, 5, 6, 7, 8, 9, 10, 11] (by decide) rfl
            refine W.eq (g2 := F0 m 100 ls []) rfl ?_
            refine lv_iload hx hb dX5_closes_100 (lv_at hl 0 rfl) ?_
            have hP : va_P E.1 vwCl (wMo E o ad (nI 0) gr co sd tk wm st (nI mo) x1 lb (farN (opn (if false = true then chSafe sd tk (nI (mo + z)) else dep g f) dr) 72)) H := hP.sub [0, 1, 2, 3, 4, 5, 6, 7, 8, 9] rfl
            have hD : va_D A (wMo E o ad (nI 0) gr co sd tk wm st (nI mo) x1 lb (farN (opn (if false = true then chSafe sd tk (nI (mo + z)) else dep g f) dr) 72)) := hD.sub [0, 1, 2, 3, 4, 5, 6, 7, 8, 9] (by decide) rfl
            exact e_iret (x1, (farN (opn (if false = true then chSafe sd tk (nI (mo + z)) else dep g f) dr) 72)) hQ hx hb hr hlocks hP hD hS dX5_closes_102 (rvi (by first | exact absurd c66 c86 | exact closN_at hz hcl (closB_f (by rw [← hge.1, ← hge.2]; exact c66)) | exact closN_at hz hcl (closB_f (by rw [← hge.1, ← hge.2]; exact c86)) | exact closN_no (fun j hj => by rcases Nat.lt_or_ge j z with h9 | h9; exact hcl j h9; rw [show j = z by omega]; exact closB_t (by rw [← hge.1, ← hge.2]; exact c86)))) (Nat.le_of_ble_eq_true rfl) (Nat.le_of_ble_eq_true rfl) (trivial)
          · refine lv_iconst (v := (-1)) hx hb dX5_closes_89 (by decide +kernel) ?_
            refine lv_istore (lv' := [(5, .int (-1)), (4, .int (nI mo)), (3, .ref q_4), (2, .ref q_3), (0, .ref o), (1, .int dr)]) hx hb dX5_closes_90 hl (by decide) rfl (fun ls hl => ?_)
            refine lv_aload_n hx hb dX5_closes_92 rfl (lv_at hl 4 rfl) ?_
            refine lv_aload_n hx hb dX5_closes_93 rfl (lv_at hl 3 rfl) ?_
            refine lv_aload_n hx hb dX5_closes_94 rfl (lv_at hl 2 rfl) ?_
            refine lv_iload hx hb dX5_closes_95 (lv_at hl 1 rfl) ?_
            refine e_callV (As := [.ref q_3, .ref q_4, .int (nI mo)]) (rest := []) ⟨hx, hb, hml, hown, hts⟩ hK hP hD hS hA hl.1 (c_X5_bringBack l E _ o ad (nI 0) g f sd tk wm st (mo + z) x1 lb (farN (opn (if false = true then chSafe sd tk (nI (mo + z)) else dep g f) dr) 72) q_3 gr q_4 co mo) (cwV 3 hts gX5_closes_X5_bringBack rfl rfl rfl (by decide +kernel) ⟨Nat.le_of_ble_eq_true rfl, Nat.le_of_ble_eq_true rfl⟩) [0, 1, 2, 3, 4, 5, 6, 7, 8, 9, 10, 11] [] rfl rfl rfl rfl (by decide) (q0 := 0) (ci := 5) rfl rfl rfl rfl (Nat.le_of_ble_eq_true rfl) dX5_closes_97 ⟨Nat.le_of_ble_eq_true rfl, Nat.le_of_ble_eq_true rfl⟩ (fun u_17 H locs hu_18 hsz1 hP hD hS => ?_)
            have hP : va_P E.1 vwCl (wMo E o ad (nI 0) gr co sd tk wm st (nI mo) x1 lb (farN (opn (if false = true then chSafe sd tk (nI (mo + z)) else dep g f) dr) 72) ++ [(q_3, .inl (E.2.1, 81, .inl gr))] ++ [(q_4, .inl (E.2.1, 81, .inl co))]) H := hP.sub [0, 1, 2, 3, 4, 5, 6, 7, 8, 9, 10, 11] rfl
            have hD : va_D A (wMo E o ad (nI 0) gr co sd tk wm st (nI mo) x1 lb (farN (opn (if false = true then chSafe sd tk (nI (mo + z)) else dep g f) dr) 72) ++ [(q_3, .inl (E.2.1, 81, .inl gr))] ++ [(q_4, .inl (E.2.1, 81, .inl co))]) := hD.sub [0, 1, 2, 3, 4, 5, 6, 7, 8, 9, 10, 11] (by decide) rfl
            refine W.eq (g2 := F0 m 100 ls []) rfl ?_
            refine lv_iload hx hb dX5_closes_100 (lv_at hl 0 rfl) ?_
            have hP : va_P E.1 vwCl (wMo E o ad (nI 0) gr co sd tk wm st (nI mo) x1 lb (farN (opn (if false = true then chSafe sd tk (nI (mo + z)) else dep g f) dr) 72)) H := hP.sub [0, 1, 2, 3, 4, 5, 6, 7, 8, 9] rfl
            have hD : va_D A (wMo E o ad (nI 0) gr co sd tk wm st (nI mo) x1 lb (farN (opn (if false = true then chSafe sd tk (nI (mo + z)) else dep g f) dr) 72)) := hD.sub [0, 1, 2, 3, 4, 5, 6, 7, 8, 9] (by decide) rfl
            exact e_iret (x1, (farN (opn (if false = true then chSafe sd tk (nI (mo + z)) else dep g f) dr) 72)) hQ hx hb hr hlocks hP hD hS dX5_closes_102 (rvi (by first | exact absurd c66 c86 | exact closN_at hz hcl (closB_f (by rw [← hge.1, ← hge.2]; exact c66)) | exact closN_at hz hcl (closB_f (by rw [← hge.1, ← hge.2]; exact c86)) | exact closN_no (fun j hj => by rcases Nat.lt_or_ge j z with h9 | h9; exact hcl j h9; rw [show j = z by omega]; exact closB_t (by rw [← hge.1, ← hge.2]; exact c86)))) (Nat.le_of_ble_eq_true rfl) (Nat.le_of_ble_eq_true rfl) (trivial)
        · refine lv_aload_n hx hb dX5_closes_69 rfl (lv_at hl 4 rfl) ?_
          refine e_callV (As := []) (rest := []) ⟨hx, hb, hml, hown, hts⟩ hK hP hD hS hA hl.1 (c_X5_monthOn l E _ o ad (nI 0) g f sd tk wm st (mo + z) x1 lb (farN (opn (if false = true then chSafe sd tk (nI (mo + z)) else dep g f) dr) 72) (by omega) (hT) (hRz)) (cwV 0 hts gX5_closes_X5_monthOn rfl rfl rfl (by decide +kernel) ⟨Nat.le_of_ble_eq_true rfl, Nat.le_of_ble_eq_true rfl⟩) [0, 1, 2, 3, 4, 5, 6, 7, 8, 9] [10, 11] rfl rfl rfl rfl (by decide) (q0 := 0) (ci := 5) rfl rfl rfl rfl (Nat.le_of_ble_eq_true rfl) dX5_closes_70 ⟨Nat.le_of_ble_eq_true rfl, Nat.le_of_ble_eq_true rfl⟩ (fun u_19 H locs hu_20 hsz1 hP hD hS => ?_)
          obtain ⟨nx__21, rfl⟩ : ∃ z, z = u_19 := ⟨_, rfl⟩
          have hP : va_P E.1 vwCl (wMo E o ad (nI 0) ((month1 wm st (g, f) (mo + z)).1) ((month1 wm st (g, f) (mo + z)).2) sd tk wm st (nI ((mo + z) + 1)) nx__21 lb (farN (opn (if false = true then chSafe sd tk (nI (mo + z)) else dep g f) dr) 72) ++ [(q_3, .inl (E.2.1, 81, .inl gr))] ++ [(q_4, .inl (E.2.1, 81, .inl co))]) H := hP.sub [2, 3, 4, 5, 6, 7, 8, 9, 10, 11, 0, 1] rfl
          have hD : va_D A (wMo E o ad (nI 0) ((month1 wm st (g, f) (mo + z)).1) ((month1 wm st (g, f) (mo + z)).2) sd tk wm st (nI ((mo + z) + 1)) nx__21 lb (farN (opn (if false = true then chSafe sd tk (nI (mo + z)) else dep g f) dr) 72) ++ [(q_3, .inl (E.2.1, 81, .inl gr))] ++ [(q_4, .inl (E.2.1, 81, .inl co))]) := hD.sub [2, 3, 4, 5, 6, 7, 8, 9, 10, 11, 0, 1] (by decide) rfl
          refine W.eq (g2 := F0 m 73 ls []) rfl ?_
          refine lv_iinc (v := nI (z + 1)) (lv' := [(5, .int (nI (z + 1))), (4, .int (nI mo)), (3, .ref q_4), (2, .ref q_3), (0, .ref o), (1, .int dr)]) hx hb dX5_closes_73 hl (k := 0) rfl (nI_add z 1) (by decide) rfl (fun ls hl => ?_)
          refine lv_goto (tgt := 52) hx hb dX5_closes_76 (by decide) ?_
          exact ihL52 (z + 1) ((month1 wm st (g, f) (mo + z)).1) ((month1 wm st (g, f) (mo + z)).2) nx__21 (farN (opn (if false = true then chSafe sd tk (nI (mo + z)) else dep g f) dr) 72) (by first | omega | assumption | rfl | (simp_all; done)) (by show _ = month1 wm st (months wm st (gr, co) mo z) (mo + z); rw [← hg]) (fun j hj => by rcases Nat.lt_or_ge j z with h9 | h9; exact hcl j h9; rw [show j = z by omega]; exact closB_t (by rw [← hge.1, ← hge.2]; exact c66)) (by omega) _ _ hP hD hS _ (lv_sub hl [0, 1, 2, 3, 4, 5] rfl)
  exact L52 (100 - 0 + 1) 0 gr co nx fr (by first | omega | assumption | rfl | (simp_all; done)) (rfl) (fun j hj => absurd hj (Nat.not_lt_zero j)) (Nat.lt_succ_self _) _ _ hP hD hS _ (lv_sub hl [0, 1, 2, 3, 4, 5] rfl)

abbrev rm_X5_closes_b1 : Room := { frames := 1, cells := 0, slots := 0, locals := 22 }
set_option maxHeartbeats 4000000 in
set_option maxRecDepth 100000 in
theorem c_X5_closes_b1 (l : Launch) (E : eT) (sz : Nat) (o : Nat) (ad : Nat → Nat) (th : Int32) (gr : Nat → Int32) (co : Nat → Int32) (sd : Nat → Int32) (tk : Nat → Int32) (wm : Nat → Int32) (st : Nat → Int32) (mo : Nat) (nx : Nat → Int32) (lb : Nat → Option Nat) (fr : Nat → Nat) (dr : Int32) (hdr : isInB dr (nI 0) (nI 39) = false) : cM l yX5_closes wsX5_closes rm_X5_closes_b1 E sz [.ref o, .int dr] (wMo E o ad th gr co sd tk wm st (nI mo) nx lb fr) (fun u : Unit => some (.int (nI 0))) (fun u : Unit => True) (fun u : Unit => wMo E o ad (nI 1) gr co sd tk wm st (nI mo) nx lb fr) := by
  refine cM_intro (cc := cX5_closes) (maxL := 6) (ret := (some .int)) (by decide +kernel) rfl (Nat.le_of_ble_eq_true rfl) ?_
  intro p e s m args below meth cd hx hb hr hml hown hlocks hts hnm hK hsz hP A hD hA Q hQ ls hl
  have hown : s.vm.findClass RX5 = some m.cls := hown
  have hin5 : ∀ w ∈ u_ws RX5 TX5 11, w ∈ wsX5_closes := by decide +kernel
  have lk37 := hts (.fieldLink RX5 37 "ReefPilotModel" "thrown" "I") (by decide +kernel)
  have hS : va_S A s.heap s.heap [] := va_S.rf
  have hl : lv_has ls 6 [(0, .ref o), (1, .int dr)] := hl
  refine lv_aload_n hx hb dX5_closes_0 rfl (lv_at hl 0 rfl) ?_
  refine lv_iconst (v := nI 0) hx hb dX5_closes_1 (by decide +kernel) ?_
  refine va_put (D := E.1) (ci := 5) (v := .int (nI 0)) (ty := .int) (C := RX5) (T := TX5) (N := 11) hx hb hts hin5 tyX5 tyX5_ok nmX5 hown hK.1 hP hD hS 0 rfl rfl 0 (by decide) lk37 (fun _ h9 => h9) rfl (by decide +kernel) rfl rfl (Nat.le_of_ble_eq_true rfl) dX5_closes_2 (fun H locs hP hD hS => ?_)
  have hP : va_P E.1 vwCl (wMo E o ad (nI 0) gr co sd tk wm st (nI mo) nx lb fr) H := hP
  have hD : va_D A (wMo E o ad (nI 0) gr co sd tk wm st (nI mo) nx lb fr) := hD
  refine lv_iload_n hx hb dX5_closes_5 rfl (lv_at hl 1 rfl) ?_
  refine lv_iconst (v := nI 0) hx hb dX5_closes_6 (by decide +kernel) ?_
  refine lv_bipush (v := nI 39) hx hb dX5_closes_7 (by decide +kernel) ?_
  refine e_callS (As := [.int dr, .int (nI 0), .int (nI 39)]) (rest := []) ⟨hx, hb, hml, hown, hts⟩ hK hP hD hS hA hl.1 (c_X5_isIn l E _ dr (nI 0) (nI 39)) (va_cwS 3 hts gX5_closes_X5_isIn rfl rfl rfl (by decide +kernel) ⟨Nat.le_of_ble_eq_true rfl, Nat.le_of_ble_eq_true rfl⟩) [] [0, 1, 2, 3, 4, 5, 6, 7, 8, 9] rfl rfl rfl rfl (by decide) rfl rfl (Nat.le_of_ble_eq_true rfl) dX5_closes_9 ⟨Nat.le_of_ble_eq_true rfl, Nat.le_of_ble_eq_true rfl⟩ (fun u_1 H locs hu_2 hsz1 hP hD hS => ?_)
  have hP : va_P E.1 vwCl (wMo E o ad (nI 0) gr co sd tk wm st (nI mo) nx lb fr) H := hP.sub [0, 1, 2, 3, 4, 5, 6, 7, 8, 9] rfl
  have hD : va_D A (wMo E o ad (nI 0) gr co sd tk wm st (nI mo) nx lb fr) := hD.sub [0, 1, 2, 3, 4, 5, 6, 7, 8, 9] (by decide) rfl
  refine W.eq (g2 := F0 m 12 ls [.int (b2i (isInB dr (nI 0) (nI 39)))]) rfl ?_
  refine b_if_ne (x := isInB dr (nI 0) (nI 39)) (tgt := 21) hx hb dX5_closes_12 (by decide) (fun c12 => by rw [hdr] at c12; cases c12) (fun c12 => ?_)
  refine lv_aload_n hx hb dX5_closes_15 rfl (lv_at hl 0 rfl) ?_
  refine lv_iconst (v := nI 1) hx hb dX5_closes_16 (by decide +kernel) ?_
  refine e_callV (As := [.int (nI 1)]) (rest := []) ⟨hx, hb, hml, hown, hts⟩ hK hP hD hS hA hl.1 (c_X5_fail l E _ o ad (nI 0) gr co sd tk wm st mo nx lb fr (nI 1)) (cwV 1 hts gX5_closes_X5_fail rfl rfl rfl (by decide +kernel) ⟨Nat.le_of_ble_eq_true rfl, Nat.le_of_ble_eq_true rfl⟩) [0, 1, 2, 3, 4, 5, 6, 7, 8, 9] [] rfl rfl rfl rfl (by decide) (q0 := 0) (ci := 5) rfl rfl rfl rfl (Nat.le_of_ble_eq_true rfl) dX5_closes_17 ⟨Nat.le_of_ble_eq_true rfl, Nat.le_of_ble_eq_true rfl⟩ (fun u_3 H locs hu_4 hsz1 hP hD hS => ?_)
  have hP : va_P E.1 vwCl (wMo E o ad (nI 1) gr co sd tk wm st (nI mo) nx lb fr) H := hP.sub [0, 1, 2, 3, 4, 5, 6, 7, 8, 9] rfl
  have hD : va_D A (wMo E o ad (nI 1) gr co sd tk wm st (nI mo) nx lb fr) := hD.sub [0, 1, 2, 3, 4, 5, 6, 7, 8, 9] (by decide) rfl
  refine W.eq (g2 := F0 m 20 ls [.int (nI 0)]) rfl ?_
  exact e_iret () hQ hx hb hr hlocks hP hD hS dX5_closes_20 (rfl) (Nat.le_of_ble_eq_true rfl) (Nat.le_of_ble_eq_true rfl) (trivial)

abbrev rm_X5_foresee : Room := { frames := 5, cells := 2, slots := 162, locals := 109 }
set_option maxHeartbeats 4000000 in
set_option maxRecDepth 100000 in
theorem c_X5_foresee (l : Launch) (E : eT) (sz : Nat) (o : Nat) (ad : Nat → Nat) (th : Int32) (gr : Nat → Int32) (co : Nat → Int32) (sd : Nat → Int32) (tk : Nat → Int32) (wm : Nat → Int32) (st : Nat → Int32) (mo : Nat) (nx : Nat → Int32) (lb : Nat → Option Nat) (fr : Nat → Nat) (k : Nat) (q : Nat) (hk1 : 1 ≤ k) (hk : k ≤ 100) (hq : q < 3) (hmo : mo < 2 ^ 30) (hT : Tb wm st) (hR : Rg gr co) : cM l yX5_foresee wsX5_foresee rm_X5_foresee E sz [.ref o, .int (nI k), .int (nI q)] (wMo E o ad th gr co sd tk wm st (nI mo) nx lb fr) (fun u : (Nat → Int32) × (Nat → Option Nat) × (Nat → Nat) => some (.int (forA (months wm st (gr, co) mo k).1 (months wm st (gr, co) mo k).2 q))) (fun u : (Nat → Int32) × (Nat → Option Nat) × (Nat → Nat) => True) (fun u : (Nat → Int32) × (Nat → Option Nat) × (Nat → Nat) => wMo E o ad (nI 0) gr co sd tk wm st (nI mo) u.1 u.2.1 u.2.2) := by
  refine cM_intro (cc := cX5_foresee) (maxL := 7) (ret := (some .int)) (by decide +kernel) rfl (Nat.le_of_ble_eq_true rfl) ?_
  intro p e s m args below meth cd hx hb hr hml hown hlocks hts hnm hK hsz hP A hD hA Q hQ ls hl
  have hown : s.vm.findClass RX5 = some m.cls := hown
  have hin5 : ∀ w ∈ u_ws RX5 TX5 11, w ∈ wsX5_foresee := by decide +kernel
  have lk9 := hts (.fieldLink RX5 9 "ReefPilotModel" "ground" "[I") (by decide +kernel)
  have lk13 := hts (.fieldLink RX5 13 "ReefPilotModel" "coral" "[I") (by decide +kernel)
  have lk37 := hts (.fieldLink RX5 37 "ReefPilotModel" "thrown" "I") (by decide +kernel)
  have lk78 := hts (.fieldLink RX5 78 "ReefPilotModel" "month" "I") (by decide +kernel)
  have hac1 := hts (.methodLink RX5 128 ⟨"[I", "clone", "()Ljava/lang/Object;"⟩) (by decide +kernel)
  have hac2 := hts (.sameMethod "[I" "java/lang/Object" "clone" "()Ljava/lang/Object;") (by decide +kernel)
  have hac3 := hts (.native ⟨"java/lang/Object", "clone", "()Ljava/lang/Object;"⟩) (by decide +kernel)
  have hac4 := hts (.instanceMethod ⟨"java/lang/Object", "clone", "()Ljava/lang/Object;"⟩) (by decide +kernel)
  have hac5 := hts (.selects "[I" ⟨"[I", "clone", "()Ljava/lang/Object;"⟩ ⟨"java/lang/Object", "clone", "()Ljava/lang/Object;"⟩) (by decide +kernel)
  have hacc := hts (.classLink RX5 129 "[I") (by decide +kernel)
  have hS : va_S A s.heap s.heap [] := va_S.rf
  have hl : lv_has ls 7 [(0, .ref o), (1, .int (nI k)), (2, .int (nI q))] := hl
  refine lv_aload_n hx hb dX5_foresee_0 rfl (lv_at hl 0 rfl) ?_
  refine lv_iconst (v := nI 0) hx hb dX5_foresee_1 (by decide +kernel) ?_
  refine va_put (D := E.1) (ci := 5) (v := .int (nI 0)) (ty := .int) (C := RX5) (T := TX5) (N := 11) hx hb hts hin5 tyX5 tyX5_ok nmX5 hown hK.1 hP hD hS 0 rfl rfl 0 (by decide) lk37 (fun _ h9 => h9) rfl (by decide +kernel) rfl rfl (Nat.le_of_ble_eq_true rfl) dX5_foresee_2 (fun H locs hP hD hS => ?_)
  have hP : va_P E.1 vwCl (wMo E o ad (nI 0) gr co sd tk wm st (nI mo) nx lb fr) H := hP
  have hD : va_D A (wMo E o ad (nI 0) gr co sd tk wm st (nI mo) nx lb fr) := hD
  refine lv_iload_n hx hb dX5_foresee_5 rfl (lv_at hl 1 rfl) ?_
  refine lv_iconst (v := nI 1) hx hb dX5_foresee_6 (by decide +kernel) ?_
  refine lv_bipush (v := nI 100) hx hb dX5_foresee_7 (by decide +kernel) ?_
  refine e_callS (As := [.int (nI k), .int (nI 1), .int (nI 100)]) (rest := []) ⟨hx, hb, hml, hown, hts⟩ hK hP hD hS hA hl.1 (c_X5_isIn l E _ (nI k) (nI 1) (nI 100)) (va_cwS 3 hts gX5_foresee_X5_isIn rfl rfl rfl (by decide +kernel) ⟨Nat.le_of_ble_eq_true rfl, Nat.le_of_ble_eq_true rfl⟩) [] [0, 1, 2, 3, 4, 5, 6, 7, 8, 9] rfl rfl rfl rfl (by decide) rfl rfl (Nat.le_of_ble_eq_true rfl) dX5_foresee_9 ⟨Nat.le_of_ble_eq_true rfl, Nat.le_of_ble_eq_true rfl⟩ (fun u_1 H locs hu_2 hsz1 hP hD hS => ?_)
  have hP : va_P E.1 vwCl (wMo E o ad (nI 0) gr co sd tk wm st (nI mo) nx lb fr) H := hP.sub [0, 1, 2, 3, 4, 5, 6, 7, 8, 9] rfl
  have hD : va_D A (wMo E o ad (nI 0) gr co sd tk wm st (nI mo) nx lb fr) := hD.sub [0, 1, 2, 3, 4, 5, 6, 7, 8, 9] (by decide) rfl
  refine W.eq (g2 := F0 m 12 ls [.int (b2i (isInB (nI k) (nI 1) (nI 100)))]) rfl ?_
  refine b_if_ne (x := isInB (nI k) (nI 1) (nI 100)) (tgt := 21) hx hb dX5_foresee_12 (by decide) (fun c12 => ?_) (fun c12 => by rw [isInB_n hk1 hk (by decide)] at c12; cases c12)
  refine lv_iload_n hx hb dX5_foresee_21 rfl (lv_at hl 2 rfl) ?_
  refine lv_iconst (v := nI 0) hx hb dX5_foresee_22 (by decide +kernel) ?_
  refine lv_iconst (v := nI 2) hx hb dX5_foresee_23 (by decide +kernel) ?_
  refine e_callS (As := [.int (nI q), .int (nI 0), .int (nI 2)]) (rest := []) ⟨hx, hb, hml, hown, hts⟩ hK hP hD hS hA hl.1 (c_X5_isIn l E _ (nI q) (nI 0) (nI 2)) (va_cwS 3 hts gX5_foresee_X5_isIn rfl rfl rfl (by decide +kernel) ⟨Nat.le_of_ble_eq_true rfl, Nat.le_of_ble_eq_true rfl⟩) [] [0, 1, 2, 3, 4, 5, 6, 7, 8, 9] rfl rfl rfl rfl (by decide) rfl rfl (Nat.le_of_ble_eq_true rfl) dX5_foresee_24 ⟨Nat.le_of_ble_eq_true rfl, Nat.le_of_ble_eq_true rfl⟩ (fun u_3 H locs hu_4 hsz1 hP hD hS => ?_)
  have hP : va_P E.1 vwCl (wMo E o ad (nI 0) gr co sd tk wm st (nI mo) nx lb fr) H := hP.sub [0, 1, 2, 3, 4, 5, 6, 7, 8, 9] rfl
  have hD : va_D A (wMo E o ad (nI 0) gr co sd tk wm st (nI mo) nx lb fr) := hD.sub [0, 1, 2, 3, 4, 5, 6, 7, 8, 9] (by decide) rfl
  refine W.eq (g2 := F0 m 27 ls [.int (b2i (isInB (nI q) (nI 0) (nI 2)))]) rfl ?_
  refine b_if_ne (x := isInB (nI q) (nI 0) (nI 2)) (tgt := 36) hx hb dX5_foresee_27 (by decide) (fun c27 => ?_) (fun c27 => by rw [isInB_n (Nat.zero_le _) (show q ≤ 2 by omega) (by decide)] at c27; cases c27)
  refine lv_aload_n hx hb dX5_foresee_36 rfl (lv_at hl 0 rfl) ?_
  refine va_get (D := E.1) (ci := 5) (v := .ref (ad 0)) (C := RX5) (T := TX5) (N := 11) hx hb hts hin5 hown hK.1 hP 0 rfl rfl 1 (by decide) lk9 (fun _ h9 => h9) rfl dX5_foresee_37 ?_
  refine e_clone hK hP hD hS hA hx hb (by rw [hml]; exact hl.1.symm) hown hac1 hac2 hac3 hac4 hac5 1 rfl (Nat.le_of_ble_eq_true rfl) (Nat.le_of_ble_eq_true rfl) (Nat.le_of_ble_eq_true rfl) (Nat.le_of_ble_eq_true rfl) dX5_foresee_40 (fun q_5 H hP hD hS => ?_)
  have hP : va_P E.1 vwCl (wMo E o ad (nI 0) gr co sd tk wm st (nI mo) nx lb fr ++ [(q_5, .inl (E.2.1, 81, .inl gr))]) H := hP
  have hD : va_D A (wMo E o ad (nI 0) gr co sd tk wm st (nI mo) nx lb fr ++ [(q_5, .inl (E.2.1, 81, .inl gr))]) := hD
  refine va_castA hx hb hown hacc hP 10 rfl (e_arrI hK) dX5_foresee_43 ?_
  refine lv_astore_n (lv' := [(3, .ref q_5), (0, .ref o), (1, .int (nI k)), (2, .int (nI q))]) hx hb dX5_foresee_46 rfl hl (by decide) rfl (fun ls hl => ?_)
  refine lv_aload_n hx hb dX5_foresee_47 rfl (lv_at hl 1 rfl) ?_
  refine va_get (D := E.1) (ci := 5) (v := .ref (ad 1)) (C := RX5) (T := TX5) (N := 11) hx hb hts hin5 hown hK.1 hP 0 rfl rfl 2 (by decide) lk13 (fun _ h9 => h9) rfl dX5_foresee_48 ?_
  refine e_clone hK hP hD hS hA hx hb (by rw [hml]; exact hl.1.symm) hown hac1 hac2 hac3 hac4 hac5 2 rfl (Nat.le_of_ble_eq_true rfl) (Nat.le_of_ble_eq_true rfl) (Nat.le_of_ble_eq_true rfl) (Nat.le_of_ble_eq_true rfl) dX5_foresee_51 (fun q_6 H hP hD hS => ?_)
  have hP : va_P E.1 vwCl (wMo E o ad (nI 0) gr co sd tk wm st (nI mo) nx lb fr ++ [(q_5, .inl (E.2.1, 81, .inl gr))] ++ [(q_6, .inl (E.2.1, 81, .inl co))]) H := hP
  have hD : va_D A (wMo E o ad (nI 0) gr co sd tk wm st (nI mo) nx lb fr ++ [(q_5, .inl (E.2.1, 81, .inl gr))] ++ [(q_6, .inl (E.2.1, 81, .inl co))]) := hD
  refine va_castA hx hb hown hacc hP 11 rfl (e_arrI hK) dX5_foresee_54 ?_
  refine lv_astore (lv' := [(4, .ref q_6), (3, .ref q_5), (0, .ref o), (1, .int (nI k)), (2, .int (nI q))]) hx hb dX5_foresee_57 hl (by decide) rfl (fun ls hl => ?_)
  refine lv_aload_n hx hb dX5_foresee_59 rfl (lv_at hl 2 rfl) ?_
  refine va_get (D := E.1) (ci := 5) (v := .int (nI mo)) (C := RX5) (T := TX5) (N := 11) hx hb hts hin5 hown hK.1 hP 0 rfl rfl 7 (by decide) lk78 (fun _ h9 => h9) rfl dX5_foresee_60 ?_
  refine lv_istore (lv' := [(5, .int (nI mo)), (4, .ref q_6), (3, .ref q_5), (0, .ref o), (1, .int (nI k)), (2, .int (nI q))]) hx hb dX5_foresee_63 hl (by decide) rfl (fun ls hl => ?_)
  refine lv_iconst (v := nI 0) hx hb dX5_foresee_65 (by decide +kernel) ?_
  refine lv_istore (lv' := [(6, .int (nI 0)), (5, .int (nI mo)), (4, .ref q_6), (3, .ref q_5), (0, .ref o), (1, .int (nI k)), (2, .int (nI q))]) hx hb dX5_foresee_66 hl (by decide) rfl (fun ls hl => ?_)
  have L68 : ∀ (fuel : Nat) (z : Nat) (g : Nat → Int32) (f : Nat → Int32) (x1 : Nat → Int32) (hz : z ≤ k) (hg : (g, f) = months wm st (gr, co) mo z) (hfuel : k - z < fuel) (H : Heap) (locs : List Loc), va_P E.1 vwCl (wMo E o ad (nI 0) g f sd tk wm st (nI (mo + z)) x1 lb fr ++ [(q_5, .inl (E.2.1, 81, .inl gr))] ++ [(q_6, .inl (E.2.1, 81, .inl co))]) H → va_D A (wMo E o ad (nI 0) g f sd tk wm st (nI (mo + z)) x1 lb fr ++ [(q_5, .inl (E.2.1, 81, .inl gr))] ++ [(q_6, .inl (E.2.1, 81, .inl co))]) → va_S A s.heap H locs → ∀ ls : Array Slot, lv_has ls 7 [(6, .int (nI z)), (5, .int (nI mo)), (4, .ref q_6), (3, .ref q_5), (0, .ref o), (1, .int (nI k)), (2, .int (nI q))] → W p l e rm_X5_foresee s m args below meth cd H locs 2 162 Q (F0 m 68 ls []) := by
    intro fuel
    induction fuel with
    | zero => intros; omega
    | succ fuel ihL68 =>
      intro z g f x1 hz hg hfuel H locs hP hD hS ls hl
      have hRz : Rg g f := by have h9 := Rg_months hT (x := (gr, co)) hR mo z; rw [← hg] at h9; exact h9
      refine lv_iload hx hb dX5_foresee_68 (lv_at hl 0 rfl) ?_
      refine lv_iload_n hx hb dX5_foresee_70 rfl (lv_at hl 5 rfl) ?_
      refine n_icmp_ge (x := z) (y := k) (by omega) (by omega) (tgt := 84) hx hb dX5_foresee_71 (by decide) (fun c71 => ?_) (fun c71 => ?_)
      · have hge : g = (months wm st (gr, co) mo k).1 ∧ f = (months wm st (gr, co) mo k).2 := by rw [show k = z by omega, ← hg]; exact ⟨rfl, rfl⟩
        refine lv_iload_n hx hb dX5_foresee_84 rfl (lv_at hl 6 rfl) ?_
        refine n_if_ne (x := q) (by omega) (tgt := 95) hx hb dX5_foresee_85 (by decide) (fun c85 => ?_) (fun c85 => ?_)
        · refine lv_iload_n hx hb dX5_foresee_95 rfl (lv_at hl 6 rfl) ?_
          refine lv_iconst (v := nI 1) hx hb dX5_foresee_96 (by decide +kernel) ?_
          refine n_icmp_ne (x := q) (y := 1) (by omega) (by omega) (tgt := 107) hx hb dX5_foresee_97 (by decide) (fun c97 => ?_) (fun c97 => ?_)
          · refine lv_aload_n hx hb dX5_foresee_107 rfl (lv_at hl 4 rfl) ?_
            refine lv_iconst (v := nI 0) hx hb dX5_foresee_108 (by decide +kernel) ?_
            refine e_callV (As := [.int (nI 0)]) (rest := []) ⟨hx, hb, hml, hown, hts⟩ hK hP hD hS hA hl.1 (c_X5_most l E _ o ad (nI 0) g f sd tk wm st (mo + z) x1 lb fr false) (cwV 1 hts gX5_foresee_X5_most rfl rfl rfl (by decide +kernel) ⟨Nat.le_of_ble_eq_true rfl, Nat.le_of_ble_eq_true rfl⟩) [0, 1, 2, 3, 4, 5, 6, 7, 8, 9] [10, 11] rfl rfl rfl rfl (by decide) (q0 := 0) (ci := 5) rfl rfl rfl rfl (Nat.le_of_ble_eq_true rfl) dX5_foresee_109 ⟨Nat.le_of_ble_eq_true rfl, Nat.le_of_ble_eq_true rfl⟩ (fun u_7 H locs hu_8 hsz1 hP hD hS => ?_)
            obtain ⟨fr__9, rfl⟩ : ∃ z, z = u_7 := ⟨_, rfl⟩
            have hP : va_P E.1 vwCl (wMo E o ad (nI 0) g f sd tk wm st (nI (mo + z)) x1 lb fr__9 ++ [(q_5, .inl (E.2.1, 81, .inl gr))] ++ [(q_6, .inl (E.2.1, 81, .inl co))]) H := hP.sub [2, 3, 4, 5, 6, 7, 8, 9, 10, 11, 0, 1] rfl
            have hD : va_D A (wMo E o ad (nI 0) g f sd tk wm st (nI (mo + z)) x1 lb fr__9 ++ [(q_5, .inl (E.2.1, 81, .inl gr))] ++ [(q_6, .inl (E.2.1, 81, .inl co))]) := hD.sub [2, 3, 4, 5, 6, 7, 8, 9, 10, 11, 0, 1] (by decide) rfl
            refine W.eq (g2 := F0 m 112 ls [.int (oI (mostD (someW (if false = true then chSafe sd tk (nI (mo + z)) else dep g f)) 40))]) rfl ?_
            refine lv_istore (lv' := [(6, .int (oI (mostD (someW (if false = true then chSafe sd tk (nI (mo + z)) else dep g f)) 40))), (5, .int (nI mo)), (4, .ref q_6), (3, .ref q_5), (0, .ref o), (1, .int (nI k)), (2, .int (nI q))]) hx hb dX5_foresee_112 hl (by decide) rfl (fun ls hl => ?_)
            refine lv_aload_n hx hb dX5_foresee_114 rfl (lv_at hl 4 rfl) ?_
            refine lv_aload_n hx hb dX5_foresee_115 rfl (lv_at hl 3 rfl) ?_
            refine lv_aload hx hb dX5_foresee_116 (lv_at hl 2 rfl) ?_
            refine lv_iload hx hb dX5_foresee_118 (lv_at hl 1 rfl) ?_
            refine e_callV (As := [.ref q_5, .ref q_6, .int (nI mo)]) (rest := []) ⟨hx, hb, hml, hown, hts⟩ hK hP hD hS hA hl.1 (c_X5_bringBack l E _ o ad (nI 0) g f sd tk wm st (mo + z) x1 lb fr__9 q_5 gr q_6 co mo) (cwV 3 hts gX5_foresee_X5_bringBack rfl rfl rfl (by decide +kernel) ⟨Nat.le_of_ble_eq_true rfl, Nat.le_of_ble_eq_true rfl⟩) [0, 1, 2, 3, 4, 5, 6, 7, 8, 9, 10, 11] [] rfl rfl rfl rfl (by decide) (q0 := 0) (ci := 5) rfl rfl rfl rfl (Nat.le_of_ble_eq_true rfl) dX5_foresee_120 ⟨Nat.le_of_ble_eq_true rfl, Nat.le_of_ble_eq_true rfl⟩ (fun u_10 H locs hu_11 hsz1 hP hD hS => ?_)
            have hP : va_P E.1 vwCl (wMo E o ad (nI 0) gr co sd tk wm st (nI mo) x1 lb fr__9 ++ [(q_5, .inl (E.2.1, 81, .inl gr))] ++ [(q_6, .inl (E.2.1, 81, .inl co))]) H := hP.sub [0, 1, 2, 3, 4, 5, 6, 7, 8, 9, 10, 11] rfl
            have hD : va_D A (wMo E o ad (nI 0) gr co sd tk wm st (nI mo) x1 lb fr__9 ++ [(q_5, .inl (E.2.1, 81, .inl gr))] ++ [(q_6, .inl (E.2.1, 81, .inl co))]) := hD.sub [0, 1, 2, 3, 4, 5, 6, 7, 8, 9, 10, 11] (by decide) rfl
            refine W.eq (g2 := F0 m 123 ls []) rfl ?_
            refine lv_iload hx hb dX5_foresee_123 (lv_at hl 0 rfl) ?_
            have hP : va_P E.1 vwCl (wMo E o ad (nI 0) gr co sd tk wm st (nI mo) x1 lb fr__9) H := hP.sub [0, 1, 2, 3, 4, 5, 6, 7, 8, 9] rfl
            have hD : va_D A (wMo E o ad (nI 0) gr co sd tk wm st (nI mo) x1 lb fr__9) := hD.sub [0, 1, 2, 3, 4, 5, 6, 7, 8, 9] (by decide) rfl
            exact e_iret (x1, lb, fr__9) hQ hx hb hr hlocks hP hD hS dX5_foresee_125 (rvi (by rcases (show q = 0 ∨ q = 1 ∨ q = 2 by omega) with rfl | rfl | rfl <;> first | (exfalso; omega) | (rw [← hge.1, ← hge.2]; rfl))) (Nat.le_of_ble_eq_true rfl) (Nat.le_of_ble_eq_true rfl) (trivial)
          · refine lv_aload_n hx hb dX5_foresee_100 rfl (lv_at hl 4 rfl) ?_
            refine e_callV (As := []) (rest := []) ⟨hx, hb, hml, hown, hts⟩ hK hP hD hS hA hl.1 (c_X5_reefs l E _ o ad (nI 0) g f sd tk wm st (mo + z) x1 lb fr) (cwV 0 hts gX5_foresee_X5_reefs rfl rfl rfl (by decide +kernel) ⟨Nat.le_of_ble_eq_true rfl, Nat.le_of_ble_eq_true rfl⟩) [0, 1, 2, 3, 4, 5, 6, 7, 8, 9] [10, 11] rfl rfl rfl rfl (by decide) (q0 := 0) (ci := 5) rfl rfl rfl rfl (Nat.le_of_ble_eq_true rfl) dX5_foresee_101 ⟨Nat.le_of_ble_eq_true rfl, Nat.le_of_ble_eq_true rfl⟩ (fun u_12 H locs hu_13 hsz1 hP hD hS => ?_)
            obtain ⟨lb__14, rfl⟩ : ∃ z, z = u_12 := ⟨_, rfl⟩
            have hP : va_P E.1 vwCl (wMo E o ad (nI 0) g f sd tk wm st (nI (mo + z)) x1 lb__14 fr ++ [(q_5, .inl (E.2.1, 81, .inl gr))] ++ [(q_6, .inl (E.2.1, 81, .inl co))]) H := hP.sub [2, 3, 4, 5, 6, 7, 8, 9, 10, 11, 0, 1] rfl
            have hD : va_D A (wMo E o ad (nI 0) g f sd tk wm st (nI (mo + z)) x1 lb__14 fr ++ [(q_5, .inl (E.2.1, 81, .inl gr))] ++ [(q_6, .inl (E.2.1, 81, .inl co))]) := hD.sub [2, 3, 4, 5, 6, 7, 8, 9, 10, 11, 0, 1] (by decide) rfl
            refine W.eq (g2 := F0 m 104 ls [.int (nI (reefN (hd f)))]) rfl ?_
            refine lv_goto (tgt := 112) hx hb dX5_foresee_104 (by decide) ?_
            refine lv_istore (lv' := [(6, .int (nI (reefN (hd f)))), (5, .int (nI mo)), (4, .ref q_6), (3, .ref q_5), (0, .ref o), (1, .int (nI k)), (2, .int (nI q))]) hx hb dX5_foresee_112 hl (by decide) rfl (fun ls hl => ?_)
            refine lv_aload_n hx hb dX5_foresee_114 rfl (lv_at hl 4 rfl) ?_
            refine lv_aload_n hx hb dX5_foresee_115 rfl (lv_at hl 3 rfl) ?_
            refine lv_aload hx hb dX5_foresee_116 (lv_at hl 2 rfl) ?_
            refine lv_iload hx hb dX5_foresee_118 (lv_at hl 1 rfl) ?_
            refine e_callV (As := [.ref q_5, .ref q_6, .int (nI mo)]) (rest := []) ⟨hx, hb, hml, hown, hts⟩ hK hP hD hS hA hl.1 (c_X5_bringBack l E _ o ad (nI 0) g f sd tk wm st (mo + z) x1 lb__14 fr q_5 gr q_6 co mo) (cwV 3 hts gX5_foresee_X5_bringBack rfl rfl rfl (by decide +kernel) ⟨Nat.le_of_ble_eq_true rfl, Nat.le_of_ble_eq_true rfl⟩) [0, 1, 2, 3, 4, 5, 6, 7, 8, 9, 10, 11] [] rfl rfl rfl rfl (by decide) (q0 := 0) (ci := 5) rfl rfl rfl rfl (Nat.le_of_ble_eq_true rfl) dX5_foresee_120 ⟨Nat.le_of_ble_eq_true rfl, Nat.le_of_ble_eq_true rfl⟩ (fun u_15 H locs hu_16 hsz1 hP hD hS => ?_)
            have hP : va_P E.1 vwCl (wMo E o ad (nI 0) gr co sd tk wm st (nI mo) x1 lb__14 fr ++ [(q_5, .inl (E.2.1, 81, .inl gr))] ++ [(q_6, .inl (E.2.1, 81, .inl co))]) H := hP.sub [0, 1, 2, 3, 4, 5, 6, 7, 8, 9, 10, 11] rfl
            have hD : va_D A (wMo E o ad (nI 0) gr co sd tk wm st (nI mo) x1 lb__14 fr ++ [(q_5, .inl (E.2.1, 81, .inl gr))] ++ [(q_6, .inl (E.2.1, 81, .inl co))]) := hD.sub [0, 1, 2, 3, 4, 5, 6, 7, 8, 9, 10, 11] (by decide) rfl
            refine W.eq (g2 := F0 m 123 ls []) rfl ?_
            refine lv_iload hx hb dX5_foresee_123 (lv_at hl 0 rfl) ?_
            have hP : va_P E.1 vwCl (wMo E o ad (nI 0) gr co sd tk wm st (nI mo) x1 lb__14 fr) H := hP.sub [0, 1, 2, 3, 4, 5, 6, 7, 8, 9] rfl
            have hD : va_D A (wMo E o ad (nI 0) gr co sd tk wm st (nI mo) x1 lb__14 fr) := hD.sub [0, 1, 2, 3, 4, 5, 6, 7, 8, 9] (by decide) rfl
            exact e_iret (x1, lb__14, fr) hQ hx hb hr hlocks hP hD hS dX5_foresee_125 (rvi (by rcases (show q = 0 ∨ q = 1 ∨ q = 2 by omega) with rfl | rfl | rfl <;> first | (exfalso; omega) | (rw [← hge.1, ← hge.2]; rfl))) (Nat.le_of_ble_eq_true rfl) (Nat.le_of_ble_eq_true rfl) (trivial)
        · refine lv_aload_n hx hb dX5_foresee_88 rfl (lv_at hl 4 rfl) ?_
          refine e_callV (As := []) (rest := []) ⟨hx, hb, hml, hown, hts⟩ hK hP hD hS hA hl.1 (c_X5_heads l E _ o ad (nI 0) g f sd tk wm st (mo + z) x1 lb fr) (cwV 0 hts gX5_foresee_X5_heads rfl rfl rfl (by decide +kernel) ⟨Nat.le_of_ble_eq_true rfl, Nat.le_of_ble_eq_true rfl⟩) [0, 1, 2, 3, 4, 5, 6, 7, 8, 9] [10, 11] rfl rfl rfl rfl (by decide) (q0 := 0) (ci := 5) rfl rfl rfl rfl (Nat.le_of_ble_eq_true rfl) dX5_foresee_89 ⟨Nat.le_of_ble_eq_true rfl, Nat.le_of_ble_eq_true rfl⟩ (fun u_17 H locs hu_18 hsz1 hP hD hS => ?_)
          have hP : va_P E.1 vwCl (wMo E o ad (nI 0) g f sd tk wm st (nI (mo + z)) x1 lb fr ++ [(q_5, .inl (E.2.1, 81, .inl gr))] ++ [(q_6, .inl (E.2.1, 81, .inl co))]) H := hP.sub [2, 3, 4, 5, 6, 7, 8, 9, 10, 11, 0, 1] rfl
          have hD : va_D A (wMo E o ad (nI 0) g f sd tk wm st (nI (mo + z)) x1 lb fr ++ [(q_5, .inl (E.2.1, 81, .inl gr))] ++ [(q_6, .inl (E.2.1, 81, .inl co))]) := hD.sub [2, 3, 4, 5, 6, 7, 8, 9, 10, 11, 0, 1] (by decide) rfl
          refine W.eq (g2 := F0 m 92 ls [.int (nI (heads f))]) rfl ?_
          refine lv_goto (tgt := 112) hx hb dX5_foresee_92 (by decide) ?_
          refine lv_istore (lv' := [(6, .int (nI (heads f))), (5, .int (nI mo)), (4, .ref q_6), (3, .ref q_5), (0, .ref o), (1, .int (nI k)), (2, .int (nI q))]) hx hb dX5_foresee_112 hl (by decide) rfl (fun ls hl => ?_)
          refine lv_aload_n hx hb dX5_foresee_114 rfl (lv_at hl 4 rfl) ?_
          refine lv_aload_n hx hb dX5_foresee_115 rfl (lv_at hl 3 rfl) ?_
          refine lv_aload hx hb dX5_foresee_116 (lv_at hl 2 rfl) ?_
          refine lv_iload hx hb dX5_foresee_118 (lv_at hl 1 rfl) ?_
          refine e_callV (As := [.ref q_5, .ref q_6, .int (nI mo)]) (rest := []) ⟨hx, hb, hml, hown, hts⟩ hK hP hD hS hA hl.1 (c_X5_bringBack l E _ o ad (nI 0) g f sd tk wm st (mo + z) x1 lb fr q_5 gr q_6 co mo) (cwV 3 hts gX5_foresee_X5_bringBack rfl rfl rfl (by decide +kernel) ⟨Nat.le_of_ble_eq_true rfl, Nat.le_of_ble_eq_true rfl⟩) [0, 1, 2, 3, 4, 5, 6, 7, 8, 9, 10, 11] [] rfl rfl rfl rfl (by decide) (q0 := 0) (ci := 5) rfl rfl rfl rfl (Nat.le_of_ble_eq_true rfl) dX5_foresee_120 ⟨Nat.le_of_ble_eq_true rfl, Nat.le_of_ble_eq_true rfl⟩ (fun u_19 H locs hu_20 hsz1 hP hD hS => ?_)
          have hP : va_P E.1 vwCl (wMo E o ad (nI 0) gr co sd tk wm st (nI mo) x1 lb fr ++ [(q_5, .inl (E.2.1, 81, .inl gr))] ++ [(q_6, .inl (E.2.1, 81, .inl co))]) H := hP.sub [0, 1, 2, 3, 4, 5, 6, 7, 8, 9, 10, 11] rfl
          have hD : va_D A (wMo E o ad (nI 0) gr co sd tk wm st (nI mo) x1 lb fr ++ [(q_5, .inl (E.2.1, 81, .inl gr))] ++ [(q_6, .inl (E.2.1, 81, .inl co))]) := hD.sub [0, 1, 2, 3, 4, 5, 6, 7, 8, 9, 10, 11] (by decide) rfl
          refine W.eq (g2 := F0 m 123 ls []) rfl ?_
          refine lv_iload hx hb dX5_foresee_123 (lv_at hl 0 rfl) ?_
          have hP : va_P E.1 vwCl (wMo E o ad (nI 0) gr co sd tk wm st (nI mo) x1 lb fr) H := hP.sub [0, 1, 2, 3, 4, 5, 6, 7, 8, 9] rfl
          have hD : va_D A (wMo E o ad (nI 0) gr co sd tk wm st (nI mo) x1 lb fr) := hD.sub [0, 1, 2, 3, 4, 5, 6, 7, 8, 9] (by decide) rfl
          exact e_iret (x1, lb, fr) hQ hx hb hr hlocks hP hD hS dX5_foresee_125 (rvi (by rcases (show q = 0 ∨ q = 1 ∨ q = 2 by omega) with rfl | rfl | rfl <;> first | (exfalso; omega) | (rw [← hge.1, ← hge.2]; rfl))) (Nat.le_of_ble_eq_true rfl) (Nat.le_of_ble_eq_true rfl) (trivial)
      · refine lv_aload_n hx hb dX5_foresee_74 rfl (lv_at hl 4 rfl) ?_
        refine e_callV (As := []) (rest := []) ⟨hx, hb, hml, hown, hts⟩ hK hP hD hS hA hl.1 (c_X5_monthOn l E _ o ad (nI 0) g f sd tk wm st (mo + z) x1 lb fr (by omega) (hT) (hRz)) (cwV 0 hts gX5_foresee_X5_monthOn rfl rfl rfl (by decide +kernel) ⟨Nat.le_of_ble_eq_true rfl, Nat.le_of_ble_eq_true rfl⟩) [0, 1, 2, 3, 4, 5, 6, 7, 8, 9] [10, 11] rfl rfl rfl rfl (by decide) (q0 := 0) (ci := 5) rfl rfl rfl rfl (Nat.le_of_ble_eq_true rfl) dX5_foresee_75 ⟨Nat.le_of_ble_eq_true rfl, Nat.le_of_ble_eq_true rfl⟩ (fun u_21 H locs hu_22 hsz1 hP hD hS => ?_)
        obtain ⟨nx__23, rfl⟩ : ∃ z, z = u_21 := ⟨_, rfl⟩
        have hP : va_P E.1 vwCl (wMo E o ad (nI 0) ((month1 wm st (g, f) (mo + z)).1) ((month1 wm st (g, f) (mo + z)).2) sd tk wm st (nI ((mo + z) + 1)) nx__23 lb fr ++ [(q_5, .inl (E.2.1, 81, .inl gr))] ++ [(q_6, .inl (E.2.1, 81, .inl co))]) H := hP.sub [2, 3, 4, 5, 6, 7, 8, 9, 10, 11, 0, 1] rfl
        have hD : va_D A (wMo E o ad (nI 0) ((month1 wm st (g, f) (mo + z)).1) ((month1 wm st (g, f) (mo + z)).2) sd tk wm st (nI ((mo + z) + 1)) nx__23 lb fr ++ [(q_5, .inl (E.2.1, 81, .inl gr))] ++ [(q_6, .inl (E.2.1, 81, .inl co))]) := hD.sub [2, 3, 4, 5, 6, 7, 8, 9, 10, 11, 0, 1] (by decide) rfl
        refine W.eq (g2 := F0 m 78 ls []) rfl ?_
        refine lv_iinc (v := nI (z + 1)) (lv' := [(6, .int (nI (z + 1))), (5, .int (nI mo)), (4, .ref q_6), (3, .ref q_5), (0, .ref o), (1, .int (nI k)), (2, .int (nI q))]) hx hb dX5_foresee_78 hl (k := 0) rfl (nI_add z 1) (by decide) rfl (fun ls hl => ?_)
        refine lv_goto (tgt := 68) hx hb dX5_foresee_81 (by decide) ?_
        exact ihL68 (z + 1) ((month1 wm st (g, f) (mo + z)).1) ((month1 wm st (g, f) (mo + z)).2) nx__23 (by first | omega | assumption | rfl | (simp_all; done)) (by show _ = month1 wm st (months wm st (gr, co) mo z) (mo + z); rw [← hg]) (by omega) _ _ hP hD hS _ (lv_sub hl [0, 1, 2, 3, 4, 5, 6] rfl)
  exact L68 (k - 0 + 1) 0 gr co nx (by first | omega | assumption | rfl | (simp_all; done)) (rfl) (Nat.lt_succ_self _) _ _ hP hD hS _ (lv_sub hl [0, 1, 2, 3, 4, 5, 6] rfl)

abbrev rm_X5_foresee_b1 : Room := { frames := 1, cells := 0, slots := 0, locals := 22 }
set_option maxHeartbeats 4000000 in
set_option maxRecDepth 100000 in
theorem c_X5_foresee_b1 (l : Launch) (E : eT) (sz : Nat) (o : Nat) (ad : Nat → Nat) (th : Int32) (gr : Nat → Int32) (co : Nat → Int32) (sd : Nat → Int32) (tk : Nat → Int32) (wm : Nat → Int32) (st : Nat → Int32) (mo : Nat) (nx : Nat → Int32) (lb : Nat → Option Nat) (fr : Nat → Nat) (x : Int32) (y : Int32) (hc : isInB x (nI 1) (nI 100) = false) : cM l yX5_foresee wsX5_foresee rm_X5_foresee_b1 E sz [.ref o, .int x, .int y] (wMo E o ad th gr co sd tk wm st (nI mo) nx lb fr) (fun u : Unit => some (.int (nI 0))) (fun u : Unit => True) (fun u : Unit => wMo E o ad (nI 1) gr co sd tk wm st (nI mo) nx lb fr) := by
  refine cM_intro (cc := cX5_foresee) (maxL := 7) (ret := (some .int)) (by decide +kernel) rfl (Nat.le_of_ble_eq_true rfl) ?_
  intro p e s m args below meth cd hx hb hr hml hown hlocks hts hnm hK hsz hP A hD hA Q hQ ls hl
  have hown : s.vm.findClass RX5 = some m.cls := hown
  have hin5 : ∀ w ∈ u_ws RX5 TX5 11, w ∈ wsX5_foresee := by decide +kernel
  have lk37 := hts (.fieldLink RX5 37 "ReefPilotModel" "thrown" "I") (by decide +kernel)
  have hS : va_S A s.heap s.heap [] := va_S.rf
  have hl : lv_has ls 7 [(0, .ref o), (1, .int x), (2, .int y)] := hl
  refine lv_aload_n hx hb dX5_foresee_0 rfl (lv_at hl 0 rfl) ?_
  refine lv_iconst (v := nI 0) hx hb dX5_foresee_1 (by decide +kernel) ?_
  refine va_put (D := E.1) (ci := 5) (v := .int (nI 0)) (ty := .int) (C := RX5) (T := TX5) (N := 11) hx hb hts hin5 tyX5 tyX5_ok nmX5 hown hK.1 hP hD hS 0 rfl rfl 0 (by decide) lk37 (fun _ h9 => h9) rfl (by decide +kernel) rfl rfl (Nat.le_of_ble_eq_true rfl) dX5_foresee_2 (fun H locs hP hD hS => ?_)
  have hP : va_P E.1 vwCl (wMo E o ad (nI 0) gr co sd tk wm st (nI mo) nx lb fr) H := hP
  have hD : va_D A (wMo E o ad (nI 0) gr co sd tk wm st (nI mo) nx lb fr) := hD
  refine lv_iload_n hx hb dX5_foresee_5 rfl (lv_at hl 1 rfl) ?_
  refine lv_iconst (v := nI 1) hx hb dX5_foresee_6 (by decide +kernel) ?_
  refine lv_bipush (v := nI 100) hx hb dX5_foresee_7 (by decide +kernel) ?_
  refine e_callS (As := [.int x, .int (nI 1), .int (nI 100)]) (rest := []) ⟨hx, hb, hml, hown, hts⟩ hK hP hD hS hA hl.1 (c_X5_isIn l E _ x (nI 1) (nI 100)) (va_cwS 3 hts gX5_foresee_X5_isIn rfl rfl rfl (by decide +kernel) ⟨Nat.le_of_ble_eq_true rfl, Nat.le_of_ble_eq_true rfl⟩) [] [0, 1, 2, 3, 4, 5, 6, 7, 8, 9] rfl rfl rfl rfl (by decide) rfl rfl (Nat.le_of_ble_eq_true rfl) dX5_foresee_9 ⟨Nat.le_of_ble_eq_true rfl, Nat.le_of_ble_eq_true rfl⟩ (fun u_1 H locs hu_2 hsz1 hP hD hS => ?_)
  have hP : va_P E.1 vwCl (wMo E o ad (nI 0) gr co sd tk wm st (nI mo) nx lb fr) H := hP.sub [0, 1, 2, 3, 4, 5, 6, 7, 8, 9] rfl
  have hD : va_D A (wMo E o ad (nI 0) gr co sd tk wm st (nI mo) nx lb fr) := hD.sub [0, 1, 2, 3, 4, 5, 6, 7, 8, 9] (by decide) rfl
  refine W.eq (g2 := F0 m 12 ls [.int (b2i (isInB x (nI 1) (nI 100)))]) rfl ?_
  refine b_if_ne (x := isInB x (nI 1) (nI 100)) (tgt := 21) hx hb dX5_foresee_12 (by decide) (fun c12 => by rw [hc] at c12; cases c12) (fun c12 => ?_)
  refine lv_aload_n hx hb dX5_foresee_15 rfl (lv_at hl 0 rfl) ?_
  refine lv_iconst (v := nI 1) hx hb dX5_foresee_16 (by decide +kernel) ?_
  refine e_callV (As := [.int (nI 1)]) (rest := []) ⟨hx, hb, hml, hown, hts⟩ hK hP hD hS hA hl.1 (c_X5_fail l E _ o ad (nI 0) gr co sd tk wm st mo nx lb fr (nI 1)) (cwV 1 hts gX5_foresee_X5_fail rfl rfl rfl (by decide +kernel) ⟨Nat.le_of_ble_eq_true rfl, Nat.le_of_ble_eq_true rfl⟩) [0, 1, 2, 3, 4, 5, 6, 7, 8, 9] [] rfl rfl rfl rfl (by decide) (q0 := 0) (ci := 5) rfl rfl rfl rfl (Nat.le_of_ble_eq_true rfl) dX5_foresee_17 ⟨Nat.le_of_ble_eq_true rfl, Nat.le_of_ble_eq_true rfl⟩ (fun u_3 H locs hu_4 hsz1 hP hD hS => ?_)
  have hP : va_P E.1 vwCl (wMo E o ad (nI 1) gr co sd tk wm st (nI mo) nx lb fr) H := hP.sub [0, 1, 2, 3, 4, 5, 6, 7, 8, 9] rfl
  have hD : va_D A (wMo E o ad (nI 1) gr co sd tk wm st (nI mo) nx lb fr) := hD.sub [0, 1, 2, 3, 4, 5, 6, 7, 8, 9] (by decide) rfl
  refine W.eq (g2 := F0 m 20 ls [.int (nI 0)]) rfl ?_
  exact e_iret () hQ hx hb hr hlocks hP hD hS dX5_foresee_20 (rfl) (Nat.le_of_ble_eq_true rfl) (Nat.le_of_ble_eq_true rfl) (trivial)

abbrev rm_X5_foresee_b2 : Room := { frames := 1, cells := 0, slots := 0, locals := 22 }
set_option maxHeartbeats 4000000 in
set_option maxRecDepth 100000 in
theorem c_X5_foresee_b2 (l : Launch) (E : eT) (sz : Nat) (o : Nat) (ad : Nat → Nat) (th : Int32) (gr : Nat → Int32) (co : Nat → Int32) (sd : Nat → Int32) (tk : Nat → Int32) (wm : Nat → Int32) (st : Nat → Int32) (mo : Nat) (nx : Nat → Int32) (lb : Nat → Option Nat) (fr : Nat → Nat) (k : Nat) (y : Int32) (hk1 : 1 ≤ k) (hk : k ≤ 100) (hc : isInB y (nI 0) (nI 2) = false) : cM l yX5_foresee wsX5_foresee rm_X5_foresee_b2 E sz [.ref o, .int (nI k), .int y] (wMo E o ad th gr co sd tk wm st (nI mo) nx lb fr) (fun u : Unit => some (.int (nI 0))) (fun u : Unit => True) (fun u : Unit => wMo E o ad (nI 2) gr co sd tk wm st (nI mo) nx lb fr) := by
  refine cM_intro (cc := cX5_foresee) (maxL := 7) (ret := (some .int)) (by decide +kernel) rfl (Nat.le_of_ble_eq_true rfl) ?_
  intro p e s m args below meth cd hx hb hr hml hown hlocks hts hnm hK hsz hP A hD hA Q hQ ls hl
  have hown : s.vm.findClass RX5 = some m.cls := hown
  have hin5 : ∀ w ∈ u_ws RX5 TX5 11, w ∈ wsX5_foresee := by decide +kernel
  have lk37 := hts (.fieldLink RX5 37 "ReefPilotModel" "thrown" "I") (by decide +kernel)
  have hS : va_S A s.heap s.heap [] := va_S.rf
  have hl : lv_has ls 7 [(0, .ref o), (1, .int (nI k)), (2, .int y)] := hl
  refine lv_aload_n hx hb dX5_foresee_0 rfl (lv_at hl 0 rfl) ?_
  refine lv_iconst (v := nI 0) hx hb dX5_foresee_1 (by decide +kernel) ?_
  refine va_put (D := E.1) (ci := 5) (v := .int (nI 0)) (ty := .int) (C := RX5) (T := TX5) (N := 11) hx hb hts hin5 tyX5 tyX5_ok nmX5 hown hK.1 hP hD hS 0 rfl rfl 0 (by decide) lk37 (fun _ h9 => h9) rfl (by decide +kernel) rfl rfl (Nat.le_of_ble_eq_true rfl) dX5_foresee_2 (fun H locs hP hD hS => ?_)
  have hP : va_P E.1 vwCl (wMo E o ad (nI 0) gr co sd tk wm st (nI mo) nx lb fr) H := hP
  have hD : va_D A (wMo E o ad (nI 0) gr co sd tk wm st (nI mo) nx lb fr) := hD
  refine lv_iload_n hx hb dX5_foresee_5 rfl (lv_at hl 1 rfl) ?_
  refine lv_iconst (v := nI 1) hx hb dX5_foresee_6 (by decide +kernel) ?_
  refine lv_bipush (v := nI 100) hx hb dX5_foresee_7 (by decide +kernel) ?_
  refine e_callS (As := [.int (nI k), .int (nI 1), .int (nI 100)]) (rest := []) ⟨hx, hb, hml, hown, hts⟩ hK hP hD hS hA hl.1 (c_X5_isIn l E _ (nI k) (nI 1) (nI 100)) (va_cwS 3 hts gX5_foresee_X5_isIn rfl rfl rfl (by decide +kernel) ⟨Nat.le_of_ble_eq_true rfl, Nat.le_of_ble_eq_true rfl⟩) [] [0, 1, 2, 3, 4, 5, 6, 7, 8, 9] rfl rfl rfl rfl (by decide) rfl rfl (Nat.le_of_ble_eq_true rfl) dX5_foresee_9 ⟨Nat.le_of_ble_eq_true rfl, Nat.le_of_ble_eq_true rfl⟩ (fun u_1 H locs hu_2 hsz1 hP hD hS => ?_)
  have hP : va_P E.1 vwCl (wMo E o ad (nI 0) gr co sd tk wm st (nI mo) nx lb fr) H := hP.sub [0, 1, 2, 3, 4, 5, 6, 7, 8, 9] rfl
  have hD : va_D A (wMo E o ad (nI 0) gr co sd tk wm st (nI mo) nx lb fr) := hD.sub [0, 1, 2, 3, 4, 5, 6, 7, 8, 9] (by decide) rfl
  refine W.eq (g2 := F0 m 12 ls [.int (b2i (isInB (nI k) (nI 1) (nI 100)))]) rfl ?_
  refine b_if_ne (x := isInB (nI k) (nI 1) (nI 100)) (tgt := 21) hx hb dX5_foresee_12 (by decide) (fun c12 => ?_) (fun c12 => by rw [isInB_n hk1 hk (by decide)] at c12; cases c12)
  refine lv_iload_n hx hb dX5_foresee_21 rfl (lv_at hl 2 rfl) ?_
  refine lv_iconst (v := nI 0) hx hb dX5_foresee_22 (by decide +kernel) ?_
  refine lv_iconst (v := nI 2) hx hb dX5_foresee_23 (by decide +kernel) ?_
  refine e_callS (As := [.int y, .int (nI 0), .int (nI 2)]) (rest := []) ⟨hx, hb, hml, hown, hts⟩ hK hP hD hS hA hl.1 (c_X5_isIn l E _ y (nI 0) (nI 2)) (va_cwS 3 hts gX5_foresee_X5_isIn rfl rfl rfl (by decide +kernel) ⟨Nat.le_of_ble_eq_true rfl, Nat.le_of_ble_eq_true rfl⟩) [] [0, 1, 2, 3, 4, 5, 6, 7, 8, 9] rfl rfl rfl rfl (by decide) rfl rfl (Nat.le_of_ble_eq_true rfl) dX5_foresee_24 ⟨Nat.le_of_ble_eq_true rfl, Nat.le_of_ble_eq_true rfl⟩ (fun u_3 H locs hu_4 hsz1 hP hD hS => ?_)
  have hP : va_P E.1 vwCl (wMo E o ad (nI 0) gr co sd tk wm st (nI mo) nx lb fr) H := hP.sub [0, 1, 2, 3, 4, 5, 6, 7, 8, 9] rfl
  have hD : va_D A (wMo E o ad (nI 0) gr co sd tk wm st (nI mo) nx lb fr) := hD.sub [0, 1, 2, 3, 4, 5, 6, 7, 8, 9] (by decide) rfl
  refine W.eq (g2 := F0 m 27 ls [.int (b2i (isInB y (nI 0) (nI 2)))]) rfl ?_
  refine b_if_ne (x := isInB y (nI 0) (nI 2)) (tgt := 36) hx hb dX5_foresee_27 (by decide) (fun c27 => by rw [hc] at c27; cases c27) (fun c27 => ?_)
  refine lv_aload_n hx hb dX5_foresee_30 rfl (lv_at hl 0 rfl) ?_
  refine lv_iconst (v := nI 2) hx hb dX5_foresee_31 (by decide +kernel) ?_
  refine e_callV (As := [.int (nI 2)]) (rest := []) ⟨hx, hb, hml, hown, hts⟩ hK hP hD hS hA hl.1 (c_X5_fail l E _ o ad (nI 0) gr co sd tk wm st mo nx lb fr (nI 2)) (cwV 1 hts gX5_foresee_X5_fail rfl rfl rfl (by decide +kernel) ⟨Nat.le_of_ble_eq_true rfl, Nat.le_of_ble_eq_true rfl⟩) [0, 1, 2, 3, 4, 5, 6, 7, 8, 9] [] rfl rfl rfl rfl (by decide) (q0 := 0) (ci := 5) rfl rfl rfl rfl (Nat.le_of_ble_eq_true rfl) dX5_foresee_32 ⟨Nat.le_of_ble_eq_true rfl, Nat.le_of_ble_eq_true rfl⟩ (fun u_5 H locs hu_6 hsz1 hP hD hS => ?_)
  have hP : va_P E.1 vwCl (wMo E o ad (nI 2) gr co sd tk wm st (nI mo) nx lb fr) H := hP.sub [0, 1, 2, 3, 4, 5, 6, 7, 8, 9] rfl
  have hD : va_D A (wMo E o ad (nI 2) gr co sd tk wm st (nI mo) nx lb fr) := hD.sub [0, 1, 2, 3, 4, 5, 6, 7, 8, 9] (by decide) rfl
  refine W.eq (g2 := F0 m 35 ls [.int (nI 0)]) rfl ?_
  exact e_iret () hQ hx hb hr hlocks hP hD hS dX5_foresee_35 (rfl) (Nat.le_of_ble_eq_true rfl) (Nat.le_of_ble_eq_true rfl) (trivial)

abbrev rm_X5_advise : Room := { frames := 2, cells := 0, slots := 0, locals := 36 }
set_option maxHeartbeats 4000000 in
set_option maxRecDepth 100000 in
theorem c_X5_advise (l : Launch) (E : eT) (sz : Nat) (o : Nat) (ad : Nat → Nat) (th : Int32) (gr : Nat → Int32) (co : Nat → Int32) (sd : Nat → Int32) (tk : Nat → Int32) (wm : Nat → Int32) (st : Nat → Int32) (mo : Nat) (nx : Nat → Int32) (lb : Nat → Option Nat) (fr : Nat → Nat) : cM l yX5_advise wsX5_advise rm_X5_advise E sz [.ref o] (wMo E o ad th gr co sd tk wm st (nI mo) nx lb fr) (fun u : Unit => some (.int (oI ((advS (chSafe sd tk (nI mo)) (dep gr co) 81).1)))) (fun u : Unit => True) (fun u : Unit => wMo E o ad (nI 0) gr co sd tk wm st (nI mo) nx lb fr) := by
  refine cM_intro (cc := cX5_advise) (maxL := 5) (ret := (some .int)) (by decide +kernel) rfl (Nat.le_of_ble_eq_true rfl) ?_
  intro p e s m args below meth cd hx hb hr hml hown hlocks hts hnm hK hsz hP A hD hA Q hQ ls hl
  have hown : s.vm.findClass RX5 = some m.cls := hown
  have hin5 : ∀ w ∈ u_ws RX5 TX5 11, w ∈ wsX5_advise := by decide +kernel
  have lk37 := hts (.fieldLink RX5 37 "ReefPilotModel" "thrown" "I") (by decide +kernel)
  have hamcmax := hts (.code Lib.Math.max.name Lib.Math.max.code 2 (some .int)) (by decide +kernel)
  have hamini := hts (.initialized "java/lang/Math") (by decide +kernel)
  have haml45 := hts (.methodLink RX5 45 Lib.Math.max.name) (by decide +kernel)
  have hamsmax := hts (.static Lib.Math.max.name) (by decide +kernel)
  have hS : va_S A s.heap s.heap [] := va_S.rf
  have hl : lv_has ls 5 [(0, .ref o)] := hl
  refine lv_aload_n hx hb dX5_advise_0 rfl (lv_at hl 0 rfl) ?_
  refine lv_iconst (v := nI 0) hx hb dX5_advise_1 (by decide +kernel) ?_
  refine va_put (D := E.1) (ci := 5) (v := .int (nI 0)) (ty := .int) (C := RX5) (T := TX5) (N := 11) hx hb hts hin5 tyX5 tyX5_ok nmX5 hown hK.1 hP hD hS 0 rfl rfl 0 (by decide) lk37 (fun _ h9 => h9) rfl (by decide +kernel) rfl rfl (Nat.le_of_ble_eq_true rfl) dX5_advise_2 (fun H locs hP hD hS => ?_)
  have hP : va_P E.1 vwCl (wMo E o ad (nI 0) gr co sd tk wm st (nI mo) nx lb fr) H := hP
  have hD : va_D A (wMo E o ad (nI 0) gr co sd tk wm st (nI mo) nx lb fr) := hD
  refine lv_iconst (v := (-1)) hx hb dX5_advise_5 (by decide +kernel) ?_
  refine lv_istore_n (lv' := [(1, .int (-1)), (0, .ref o)]) hx hb dX5_advise_6 rfl hl (by decide) rfl (fun ls hl => ?_)
  refine lv_iconst (v := nI 0) hx hb dX5_advise_7 (by decide +kernel) ?_
  refine lv_istore_n (lv' := [(2, .int (nI 0)), (1, .int (-1)), (0, .ref o)]) hx hb dX5_advise_8 rfl hl (by decide) rfl (fun ls hl => ?_)
  refine lv_iconst (v := nI 0) hx hb dX5_advise_9 (by decide +kernel) ?_
  refine lv_istore_n (lv' := [(3, .int (nI 0)), (2, .int (nI 0)), (1, .int (-1)), (0, .ref o)]) hx hb dX5_advise_10 rfl hl (by decide) rfl (fun ls hl => ?_)
  have L11 : ∀ (fuel : Nat) (v : Option Nat) (x : Int32) (z : Nat) (hz : z ≤ 81) (hv : v = (advS (chSafe sd tk (nI mo)) (dep gr co) z).1) (hx_ : x = (advS (chSafe sd tk (nI mo)) (dep gr co) z).2) (hfuel : 81 - z < fuel) (H : Heap) (locs : List Loc), va_P E.1 vwCl (wMo E o ad (nI 0) gr co sd tk wm st (nI mo) nx lb fr) H → va_D A (wMo E o ad (nI 0) gr co sd tk wm st (nI mo) nx lb fr) → va_S A s.heap H locs → ∀ ls : Array Slot, lv_has ls 5 [(3, .int (nI z)), (2, .int x), (1, .int (oI v)), (0, .ref o)] → W p l e rm_X5_advise s m args below meth cd H locs 0 0 Q (F0 m 11 ls []) := by
    intro fuel
    induction fuel with
    | zero => intros; omega
    | succ fuel ihL11 =>
      intro v x z hz hv hx_ hfuel H locs hP hD hS ls hl
      have hb1 : advS (chSafe sd tk (nI mo)) (dep gr co) (z + 1) = if iMax (chSafe sd tk (nI mo) z) (nI 0) - dep gr co z ≤ x then advS (chSafe sd tk (nI mo)) (dep gr co) z else (some z, iMax (chSafe sd tk (nI mo) z) (nI 0) - dep gr co z) := by rw [hx_]; rfl
      refine lv_iload_n hx hb dX5_advise_11 rfl (lv_at hl 0 rfl) ?_
      refine lv_bipush (v := nI 81) hx hb dX5_advise_12 (by decide +kernel) ?_
      refine n_icmp_ge (x := z) (y := 81) (by omega) (by omega) (tgt := 55) hx hb dX5_advise_14 (by decide) (fun c14 => ?_) (fun c14 => ?_)
      · refine lv_iload_n hx hb dX5_advise_55 rfl (lv_at hl 2 rfl) ?_
        exact e_iret () hQ hx hb hr hlocks hP hD hS dX5_advise_56 (rvi (by rw [hv, show z = 81 by omega])) (Nat.le_of_ble_eq_true rfl) (Nat.le_of_ble_eq_true rfl) (trivial)
      · refine lv_iconst (v := nI 0) hx hb dX5_advise_17 (by decide +kernel) ?_
        refine lv_aload_n hx hb dX5_advise_18 rfl (lv_at hl 3 rfl) ?_
        refine lv_iload_n hx hb dX5_advise_19 rfl (lv_at hl 0 rfl) ?_
        refine lv_iconst (v := nI 2) hx hb dX5_advise_20 (by decide +kernel) ?_
        refine e_callV (As := [.int (nI z), .int (nI 2)]) (rest := [.int (nI 0)]) ⟨hx, hb, hml, hown, hts⟩ hK hP hD hS hA hl.1 (c_X5_charted l E _ o ad (nI 0) gr co sd tk wm st mo nx lb fr z 2 (by first | omega | assumption | rfl | (simp_all; done)) (by first | omega | assumption | rfl | (simp_all; done))) (cwV 2 hts gX5_advise_X5_charted rfl rfl rfl (by decide +kernel) ⟨Nat.le_of_ble_eq_true rfl, Nat.le_of_ble_eq_true rfl⟩) [0, 1, 2, 3, 4, 5, 6, 7, 8, 9] [] rfl rfl rfl rfl (by decide) (q0 := 0) (ci := 5) rfl rfl rfl rfl (Nat.le_of_ble_eq_true rfl) dX5_advise_21 ⟨Nat.le_of_ble_eq_true rfl, Nat.le_of_ble_eq_true rfl⟩ (fun u_1 H locs hu_2 hsz1 hP hD hS => ?_)
        have hP : va_P E.1 vwCl (wMo E o ad (nI 0) gr co sd tk wm st (nI mo) nx lb fr) H := hP.sub [0, 1, 2, 3, 4, 5, 6, 7, 8, 9] rfl
        have hD : va_D A (wMo E o ad (nI 0) gr co sd tk wm st (nI mo) nx lb fr) := hD.sub [0, 1, 2, 3, 4, 5, 6, 7, 8, 9] (by decide) rfl
        refine W.eq (g2 := F0 m 24 ls [.int (chA sd tk (nI mo) z 2), .int (nI 0)]) rfl ?_
        refine va_mmax hx hb (by rw [hml]; exact hl.1.symm) hown haml45 hamsmax hamini hamcmax (Nat.le_of_ble_eq_true rfl) (Nat.le_of_ble_eq_true rfl) (Nat.le_of_ble_eq_true rfl) (Nat.le_of_ble_eq_true rfl) dX5_advise_24 ?_
        refine e_top (y := iMax (nI 0) (chA sd tk (nI mo) z 2)) rfl ?_
        refine e_top (y := iMax (chSafe sd tk (nI mo) z) (nI 0)) (iMax_comm _ _) ?_
        refine lv_aload_n hx hb dX5_advise_27 rfl (lv_at hl 3 rfl) ?_
        refine lv_iload_n hx hb dX5_advise_28 rfl (lv_at hl 0 rfl) ?_
        refine e_callV (As := [.int (nI z)]) (rest := [.int (iMax (chSafe sd tk (nI mo) z) (nI 0))]) ⟨hx, hb, hml, hown, hts⟩ hK hP hD hS hA hl.1 (c_X5_depth l E _ o ad (nI 0) gr co sd tk wm st mo nx lb fr z (by first | omega | assumption | rfl | (simp_all; done))) (cwV 1 hts gX5_advise_X5_depth rfl rfl rfl (by decide +kernel) ⟨Nat.le_of_ble_eq_true rfl, Nat.le_of_ble_eq_true rfl⟩) [0, 1, 2, 3, 4, 5, 6, 7, 8, 9] [] rfl rfl rfl rfl (by decide) (q0 := 0) (ci := 5) rfl rfl rfl rfl (Nat.le_of_ble_eq_true rfl) dX5_advise_29 ⟨Nat.le_of_ble_eq_true rfl, Nat.le_of_ble_eq_true rfl⟩ (fun u_3 H locs hu_4 hsz1 hP hD hS => ?_)
        have hP : va_P E.1 vwCl (wMo E o ad (nI 0) gr co sd tk wm st (nI mo) nx lb fr) H := hP.sub [0, 1, 2, 3, 4, 5, 6, 7, 8, 9] rfl
        have hD : va_D A (wMo E o ad (nI 0) gr co sd tk wm st (nI mo) nx lb fr) := hD.sub [0, 1, 2, 3, 4, 5, 6, 7, 8, 9] (by decide) rfl
        refine W.eq (g2 := F0 m 32 ls [.int (dep gr co z), .int (iMax (chSafe sd tk (nI mo) z) (nI 0))]) rfl ?_
        refine lv_isub hx hb dX5_advise_32 ?_
        refine lv_istore (lv' := [(4, .int ((iMax (chSafe sd tk (nI mo) z) (nI 0)) - (dep gr co z))), (3, .int (nI z)), (2, .int x), (1, .int (oI v)), (0, .ref o)]) hx hb dX5_advise_33 hl (by decide) rfl (fun ls hl => ?_)
        refine lv_iload hx hb dX5_advise_35 (lv_at hl 0 rfl) ?_
        refine lv_iload_n hx hb dX5_advise_37 rfl (lv_at hl 2 rfl) ?_
        refine lv_icmp_gt (tgt := 44) hx hb dX5_advise_38 (by decide) (fun c38 => ?_) (fun c38 => ?_)
        · refine lv_iload_n hx hb dX5_advise_44 rfl (lv_at hl 1 rfl) ?_
          refine lv_istore_n (lv' := [(1, .int (nI z)), (4, .int ((iMax (chSafe sd tk (nI mo) z) (nI 0)) - (dep gr co z))), (3, .int (nI z)), (2, .int x), (0, .ref o)]) hx hb dX5_advise_45 rfl hl (by decide) rfl (fun ls hl => ?_)
          refine lv_iload hx hb dX5_advise_46 (lv_at hl 1 rfl) ?_
          refine lv_istore_n (lv' := [(2, .int ((iMax (chSafe sd tk (nI mo) z) (nI 0)) - (dep gr co z))), (1, .int (nI z)), (4, .int ((iMax (chSafe sd tk (nI mo) z) (nI 0)) - (dep gr co z))), (3, .int (nI z)), (0, .ref o)]) hx hb dX5_advise_48 rfl hl (by decide) rfl (fun ls hl => ?_)
          refine lv_iinc (v := nI (z + 1)) (lv' := [(3, .int (nI (z + 1))), (2, .int ((iMax (chSafe sd tk (nI mo) z) (nI 0)) - (dep gr co z))), (1, .int (nI z)), (4, .int ((iMax (chSafe sd tk (nI mo) z) (nI 0)) - (dep gr co z))), (0, .ref o)]) hx hb dX5_advise_49 hl (k := 3) rfl (nI_add z 1) (by decide) rfl (fun ls hl => ?_)
          refine lv_goto (tgt := 11) hx hb dX5_advise_52 (by decide) ?_
          exact ihL11 (some z) ((iMax (chSafe sd tk (nI mo) z) (nI 0)) - (dep gr co z)) (z + 1) (by first | omega | assumption | rfl | (simp_all; done)) (by rw [hb1]; first | (rw [if_pos (i_nlt c38)]; exact hv) | (rw [if_neg (i_nle c38)])) (by rw [hb1]; first | (rw [if_pos (i_nlt c38)]; exact hx_) | (rw [if_neg (i_nle c38)])) (by omega) _ _ hP hD hS _ (lv_sub hl [0, 1, 2, 4] rfl)
        · refine lv_goto (tgt := 49) hx hb dX5_advise_41 (by decide) ?_
          refine lv_iinc (v := nI (z + 1)) (lv' := [(3, .int (nI (z + 1))), (4, .int ((iMax (chSafe sd tk (nI mo) z) (nI 0)) - (dep gr co z))), (2, .int x), (1, .int (oI v)), (0, .ref o)]) hx hb dX5_advise_49 hl (k := 1) rfl (nI_add z 1) (by decide) rfl (fun ls hl => ?_)
          refine lv_goto (tgt := 11) hx hb dX5_advise_52 (by decide) ?_
          exact ihL11 v x (z + 1) (by first | omega | assumption | rfl | (simp_all; done)) (by rw [hb1]; first | (rw [if_pos (i_nlt c38)]; exact hv) | (rw [if_neg (i_nle c38)])) (by rw [hb1]; first | (rw [if_pos (i_nlt c38)]; exact hx_) | (rw [if_neg (i_nle c38)])) (by omega) _ _ hP hD hS _ (lv_sub hl [0, 2, 3, 4] rfl)
  exact L11 (81 - 0 + 1) none (nI 0) 0 (by first | omega | assumption | rfl | (simp_all; done)) (rfl) (rfl) (Nat.lt_succ_self _) _ _ hP hD hS _ (lv_sub hl [0, 1, 2, 3] rfl)

abbrev rm_X5_mean : Room := { frames := 2, cells := 0, slots := 0, locals := 34 }
set_option maxHeartbeats 4000000 in
set_option maxRecDepth 100000 in
theorem c_X5_mean (l : Launch) (E : eT) (sz : Nat) (o : Nat) (ad : Nat → Nat) (th : Int32) (gr : Nat → Int32) (co : Nat → Int32) (sd : Nat → Int32) (tk : Nat → Int32) (wm : Nat → Int32) (st : Nat → Int32) (mo : Nat) (nx : Nat → Int32) (lb : Nat → Option Nat) (fr : Nat → Nat) (hne : vf_n64 (FP.ddiv (FP.i2d (sumI (dep gr co) 81)) 4635400285215260672)) : cM l yX5_mean wsX5_mean rm_X5_mean E sz [.ref o] (wMo E o ad th gr co sd tk wm st (nI mo) nx lb fr) (fun u : Unit => some (.double (FP.ddiv (FP.i2d (sumI (dep gr co) 81)) 4635400285215260672))) (fun u : Unit => True) (fun u : Unit => wMo E o ad (nI 0) gr co sd tk wm st (nI mo) nx lb fr) := by
  refine cM_intro (cc := cX5_mean) (maxL := 3) (ret := (some .double)) (by decide +kernel) rfl (Nat.le_of_ble_eq_true rfl) ?_
  intro p e s m args below meth cd hx hb hr hml hown hlocks hts hnm hK hsz hP A hD hA Q hQ ls hl
  have hown : s.vm.findClass RX5 = some m.cls := hown
  have hin5 : ∀ w ∈ u_ws RX5 TX5 11, w ∈ wsX5_mean := by decide +kernel
  have lk37 := hts (.fieldLink RX5 37 "ReefPilotModel" "thrown" "I") (by decide +kernel)
  have hak137 := hts (.constantDouble RX5 137 (4635400285215260672)) (by decide +kernel)
  have hS : va_S A s.heap s.heap [] := va_S.rf
  have hl : lv_has ls 3 [(0, .ref o)] := hl
  refine lv_aload_n hx hb dX5_mean_0 rfl (lv_at hl 0 rfl) ?_
  refine lv_iconst (v := nI 0) hx hb dX5_mean_1 (by decide +kernel) ?_
  refine va_put (D := E.1) (ci := 5) (v := .int (nI 0)) (ty := .int) (C := RX5) (T := TX5) (N := 11) hx hb hts hin5 tyX5 tyX5_ok nmX5 hown hK.1 hP hD hS 0 rfl rfl 0 (by decide) lk37 (fun _ h9 => h9) rfl (by decide +kernel) rfl rfl (Nat.le_of_ble_eq_true rfl) dX5_mean_2 (fun H locs hP hD hS => ?_)
  have hP : va_P E.1 vwCl (wMo E o ad (nI 0) gr co sd tk wm st (nI mo) nx lb fr) H := hP
  have hD : va_D A (wMo E o ad (nI 0) gr co sd tk wm st (nI mo) nx lb fr) := hD
  refine lv_iconst (v := nI 0) hx hb dX5_mean_5 (by decide +kernel) ?_
  refine lv_istore_n (lv' := [(1, .int (nI 0)), (0, .ref o)]) hx hb dX5_mean_6 rfl hl (by decide) rfl (fun ls hl => ?_)
  refine lv_iconst (v := nI 0) hx hb dX5_mean_7 (by decide +kernel) ?_
  refine lv_istore_n (lv' := [(2, .int (nI 0)), (1, .int (nI 0)), (0, .ref o)]) hx hb dX5_mean_8 rfl hl (by decide) rfl (fun ls hl => ?_)
  have L9 : ∀ (fuel : Nat) (x : Int32) (z : Nat) (hz : z ≤ 81) (hx_ : x = sumI (dep gr co) z) (hfuel : 81 - z < fuel) (H : Heap) (locs : List Loc), va_P E.1 vwCl (wMo E o ad (nI 0) gr co sd tk wm st (nI mo) nx lb fr) H → va_D A (wMo E o ad (nI 0) gr co sd tk wm st (nI mo) nx lb fr) → va_S A s.heap H locs → ∀ ls : Array Slot, lv_has ls 3 [(2, .int (nI z)), (1, .int x), (0, .ref o)] → W p l e rm_X5_mean s m args below meth cd H locs 0 0 Q (F0 m 9 ls []) := by
    intro fuel
    induction fuel with
    | zero => intros; omega
    | succ fuel ihL9 =>
      intro x z hz hx_ hfuel H locs hP hD hS ls hl
      refine lv_iload_n hx hb dX5_mean_9 rfl (lv_at hl 0 rfl) ?_
      refine lv_bipush (v := nI 81) hx hb dX5_mean_10 (by decide +kernel) ?_
      refine n_icmp_ge (x := z) (y := 81) (by omega) (by omega) (tgt := 29) hx hb dX5_mean_12 (by decide) (fun c12 => ?_) (fun c12 => ?_)
      · refine lv_iload_n hx hb dX5_mean_29 rfl (lv_at hl 1 rfl) ?_
        have hxe : x = sumI (dep gr co) 81 := by rw [hx_, show z = 81 by omega]
        refine e_top hxe ?_
        refine lv_i2d hx hb dX5_mean_30 ?_
        refine lv_ldc2d hx hb hown hak137 dX5_mean_31 ?_
        refine lv_ddiv hx hb dX5_mean_34 (hne) ?_
        exact e_dret () hQ hx hb hr hlocks hP hD hS dX5_mean_35 (rfl) (Nat.le_of_ble_eq_true rfl) (Nat.le_of_ble_eq_true rfl) (trivial)
      · refine lv_iload_n hx hb dX5_mean_15 rfl (lv_at hl 1 rfl) ?_
        refine lv_aload_n hx hb dX5_mean_16 rfl (lv_at hl 2 rfl) ?_
        refine lv_iload_n hx hb dX5_mean_17 rfl (lv_at hl 0 rfl) ?_
        refine e_callV (As := [.int (nI z)]) (rest := [.int x]) ⟨hx, hb, hml, hown, hts⟩ hK hP hD hS hA hl.1 (c_X5_depth l E _ o ad (nI 0) gr co sd tk wm st mo nx lb fr z (by first | omega | assumption | rfl | (simp_all; done))) (cwV 1 hts gX5_mean_X5_depth rfl rfl rfl (by decide +kernel) ⟨Nat.le_of_ble_eq_true rfl, Nat.le_of_ble_eq_true rfl⟩) [0, 1, 2, 3, 4, 5, 6, 7, 8, 9] [] rfl rfl rfl rfl (by decide) (q0 := 0) (ci := 5) rfl rfl rfl rfl (Nat.le_of_ble_eq_true rfl) dX5_mean_18 ⟨Nat.le_of_ble_eq_true rfl, Nat.le_of_ble_eq_true rfl⟩ (fun u_1 H locs hu_2 hsz1 hP hD hS => ?_)
        have hP : va_P E.1 vwCl (wMo E o ad (nI 0) gr co sd tk wm st (nI mo) nx lb fr) H := hP.sub [0, 1, 2, 3, 4, 5, 6, 7, 8, 9] rfl
        have hD : va_D A (wMo E o ad (nI 0) gr co sd tk wm st (nI mo) nx lb fr) := hD.sub [0, 1, 2, 3, 4, 5, 6, 7, 8, 9] (by decide) rfl
        refine W.eq (g2 := F0 m 21 ls [.int (dep gr co z), .int x]) rfl ?_
        refine lv_iadd hx hb dX5_mean_21 ?_
        refine lv_istore_n (lv' := [(1, .int (x + (dep gr co z))), (2, .int (nI z)), (0, .ref o)]) hx hb dX5_mean_22 rfl hl (by decide) rfl (fun ls hl => ?_)
        refine lv_iinc (v := nI (z + 1)) (lv' := [(2, .int (nI (z + 1))), (1, .int (x + (dep gr co z))), (0, .ref o)]) hx hb dX5_mean_23 hl (k := 1) rfl (nI_add z 1) (by decide) rfl (fun ls hl => ?_)
        refine lv_goto (tgt := 9) hx hb dX5_mean_26 (by decide) ?_
        exact ihL9 (x + (dep gr co z)) (z + 1) (by first | omega | assumption | rfl | (simp_all; done)) (by rw [hx_]; rfl) (by omega) _ _ hP hD hS _ (lv_sub hl [0, 1, 2] rfl)
  exact L9 (81 - 0 + 1) (nI 0) 0 (by first | omega | assumption | rfl | (simp_all; done)) (rfl) (Nat.lt_succ_self _) _ _ hP hD hS _ (lv_sub hl [0, 1, 2] rfl)

abbrev rm_X5_digest : Room := { frames := 4, cells := 0, slots := 0, locals := 95 }
set_option maxHeartbeats 4000000 in
set_option maxRecDepth 100000 in
theorem c_X5_digest (l : Launch) (E : eT) (sz : Nat) (o : Nat) (ad : Nat → Nat) (th : Int32) (gr : Nat → Int32) (co : Nat → Int32) (sd : Nat → Int32) (tk : Nat → Int32) (wm : Nat → Int32) (st : Nat → Int32) (mo : Nat) (nx : Nat → Int32) (lb : Nat → Option Nat) (fr : Nat → Nat) : cM l yX5_digest wsX5_digest rm_X5_digest E sz [.ref o] (wMo E o ad th gr co sd tk wm st (nI mo) nx lb fr) (fun u : (Nat → Option Nat) => some (.long (digA wm st gr co sd tk mo))) (fun u : (Nat → Option Nat) => True) (fun u : (Nat → Option Nat) => wMo E o ad (nI 0) gr co sd tk wm st (nI mo) nx u fr) := by
  refine cM_intro (cc := cX5_digest) (maxL := 5) (ret := (some .long)) (by decide +kernel) rfl (Nat.le_of_ble_eq_true rfl) ?_
  intro p e s m args below meth cd hx hb hr hml hown hlocks hts hnm hK hsz hP A hD hA Q hQ ls hl
  have hown : s.vm.findClass RX5 = some m.cls := hown
  have hin5 : ∀ w ∈ u_ws RX5 TX5 11, w ∈ wsX5_digest := by decide +kernel
  have lk9 := hts (.fieldLink RX5 9 "ReefPilotModel" "ground" "[I") (by decide +kernel)
  have lk13 := hts (.fieldLink RX5 13 "ReefPilotModel" "coral" "[I") (by decide +kernel)
  have lk22 := hts (.fieldLink RX5 22 "ReefPilotModel" "warmth" "[I") (by decide +kernel)
  have lk25 := hts (.fieldLink RX5 25 "ReefPilotModel" "storms" "[I") (by decide +kernel)
  have lk37 := hts (.fieldLink RX5 37 "ReefPilotModel" "thrown" "I") (by decide +kernel)
  have hak139 := hts (.constantLong RX5 139 (787)) (by decide +kernel)
  have hak141 := hts (.constantLong RX5 141 (31)) (by decide +kernel)
  have hS : va_S A s.heap s.heap [] := va_S.rf
  have hl : lv_has ls 5 [(0, .ref o)] := hl
  refine lv_aload_n hx hb dX5_digest_0 rfl (lv_at hl 0 rfl) ?_
  refine lv_iconst (v := nI 0) hx hb dX5_digest_1 (by decide +kernel) ?_
  refine va_put (D := E.1) (ci := 5) (v := .int (nI 0)) (ty := .int) (C := RX5) (T := TX5) (N := 11) hx hb hts hin5 tyX5 tyX5_ok nmX5 hown hK.1 hP hD hS 0 rfl rfl 0 (by decide) lk37 (fun _ h9 => h9) rfl (by decide +kernel) rfl rfl (Nat.le_of_ble_eq_true rfl) dX5_digest_2 (fun H locs hP hD hS => ?_)
  have hP : va_P E.1 vwCl (wMo E o ad (nI 0) gr co sd tk wm st (nI mo) nx lb fr) H := hP
  have hD : va_D A (wMo E o ad (nI 0) gr co sd tk wm st (nI mo) nx lb fr) := hD
  refine lv_ldc2 hx hb hown hak139 dX5_digest_5 ?_
  refine lv_lstore_n (lv' := [(1, .long 787), (0, .ref o)]) hx hb dX5_digest_8 rfl hl (by decide) rfl (fun ls hl => ?_)
  refine lv_iconst (v := nI 0) hx hb dX5_digest_9 (by decide +kernel) ?_
  refine lv_istore_n (lv' := [(3, .int (nI 0)), (1, .long 787), (0, .ref o)]) hx hb dX5_digest_10 rfl hl (by decide) rfl (fun ls hl => ?_)
  have L11 : ∀ (fuel : Nat) (x : Int64) (z : Nat) (l1 : Nat → Option Nat) (hz : z ≤ 8) (hx_ : x = digC (cntA gr co sd mo) z) (hfuel : 8 - z < fuel) (H : Heap) (locs : List Loc), va_P E.1 vwCl (wMo E o ad (nI 0) gr co sd tk wm st (nI mo) nx l1 fr) H → va_D A (wMo E o ad (nI 0) gr co sd tk wm st (nI mo) nx l1 fr) → va_S A s.heap H locs → ∀ ls : Array Slot, lv_has ls 5 [(3, .int (nI z)), (1, .long x), (0, .ref o)] → W p l e rm_X5_digest s m args below meth cd H locs 0 0 Q (F0 m 11 ls []) := by
    intro fuel
    induction fuel with
    | zero => intros; omega
    | succ fuel ihL11 =>
      intro x z l1 hz hx_ hfuel H locs hP hD hS ls hl
      refine lv_iload_n hx hb dX5_digest_11 rfl (lv_at hl 0 rfl) ?_
      refine lv_bipush (v := nI 8) hx hb dX5_digest_12 (by decide +kernel) ?_
      refine n_icmp_ge (x := z) (y := 8) (by omega) (by omega) (tgt := 36) hx hb dX5_digest_14 (by decide) (fun c14 => ?_) (fun c14 => ?_)
      · refine lv_iconst (v := nI 0) hx hb dX5_digest_36 (by decide +kernel) ?_
        refine lv_istore_n (lv' := [(3, .int (nI 0)), (1, .long x), (0, .ref o)]) hx hb dX5_digest_37 rfl hl (by decide) rfl (fun ls hl => ?_)
        have L38 : ∀ (fuel : Nat) (x2 : Int64) (z2 : Nat) (hz2 : z2 ≤ 12) (hx2 : x2 = digM (digC (cntA gr co sd mo) 8) (fun k => nI 10 * wm k + st k) z2) (hfuel : 12 - z2 < fuel) (H : Heap) (locs : List Loc), va_P E.1 vwCl (wMo E o ad (nI 0) gr co sd tk wm st (nI mo) nx l1 fr) H → va_D A (wMo E o ad (nI 0) gr co sd tk wm st (nI mo) nx l1 fr) → va_S A s.heap H locs → ∀ ls : Array Slot, lv_has ls 5 [(3, .int (nI z2)), (1, .long x2), (0, .ref o)] → W p l e rm_X5_digest s m args below meth cd H locs 0 0 Q (F0 m 38 ls []) := by
          intro fuel
          induction fuel with
          | zero => intros; omega
          | succ fuel ihL38 =>
            intro x2 z2 hz2 hx2 hfuel H locs hP hD hS ls hl
            refine lv_iload_n hx hb dX5_digest_38 rfl (lv_at hl 0 rfl) ?_
            refine lv_bipush (v := nI 12) hx hb dX5_digest_39 (by decide +kernel) ?_
            refine n_icmp_ge (x := z2) (y := 12) (by omega) (by omega) (tgt := 74) hx hb dX5_digest_41 (by decide) (fun c41 => ?_) (fun c41 => ?_)
            · refine lv_iconst (v := nI 0) hx hb dX5_digest_74 (by decide +kernel) ?_
              refine lv_istore_n (lv' := [(3, .int (nI 0)), (1, .long x2), (0, .ref o)]) hx hb dX5_digest_75 rfl hl (by decide) rfl (fun ls hl => ?_)
              have L76 : ∀ (fuel : Nat) (x3 : Int64) (y : Nat) (hy3 : y ≤ 81) (hx3 : x3 = digK (digM (digC (cntA gr co sd mo) 8) (fun k => nI 10 * wm k + st k) 12) gr co (chA sd tk (nI mo)) y) (hfuel : 81 - y < fuel) (H : Heap) (locs : List Loc), va_P E.1 vwCl (wMo E o ad (nI 0) gr co sd tk wm st (nI mo) nx l1 fr) H → va_D A (wMo E o ad (nI 0) gr co sd tk wm st (nI mo) nx l1 fr) → va_S A s.heap H locs → ∀ ls : Array Slot, lv_has ls 5 [(3, .int (nI y)), (1, .long x3), (0, .ref o)] → W p l e rm_X5_digest s m args below meth cd H locs 0 0 Q (F0 m 76 ls []) := by
                intro fuel
                induction fuel with
                | zero => intros; omega
                | succ fuel ihL76 =>
                  intro x3 y hy3 hx3 hfuel H locs hP hD hS ls hl
                  refine lv_iload_n hx hb dX5_digest_76 rfl (lv_at hl 0 rfl) ?_
                  refine lv_bipush (v := nI 81) hx hb dX5_digest_77 (by decide +kernel) ?_
                  refine n_icmp_ge (x := y) (y := 81) (by omega) (by omega) (tgt := 144) hx hb dX5_digest_79 (by decide) (fun c79 => ?_) (fun c79 => ?_)
                  · refine lv_lload_n hx hb dX5_digest_144 rfl (lv_at hl 1 rfl) ?_
                    exact e_lret l1 hQ hx hb hr hlocks hP hD hS dX5_digest_145 (rvl (by rw [hx3, show y = 81 by omega]; rfl)) (Nat.le_of_ble_eq_true rfl) (Nat.le_of_ble_eq_true rfl) (trivial)
                  · refine lv_lload_n hx hb dX5_digest_82 rfl (lv_at hl 1 rfl) ?_
                    refine lv_ldc2 hx hb hown hak141 dX5_digest_83 ?_
                    refine lv_lmul hx hb dX5_digest_86 ?_
                    refine lv_aload_n hx hb dX5_digest_87 rfl (lv_at hl 2 rfl) ?_
                    refine va_get (D := E.1) (ci := 5) (v := .ref (ad 0)) (C := RX5) (T := TX5) (N := 11) hx hb hts hin5 hown hK.1 hP 0 rfl rfl 1 (by decide) lk9 (fun _ h9 => h9) rfl dX5_digest_88 ?_
                    refine lv_iload_n hx hb dX5_digest_91 rfl (lv_at hl 0 rfl) ?_
                    refine e_iald hK hP 1 rfl y (by omega) (by decide) hx hb dX5_digest_92 ?_
                    refine lv_i2l hx hb dX5_digest_93 rfl ?_
                    refine lv_ladd hx hb dX5_digest_94 ?_
                    refine lv_ldc2 hx hb hown hak141 dX5_digest_95 ?_
                    refine lv_lmul hx hb dX5_digest_98 ?_
                    refine lv_aload_n hx hb dX5_digest_99 rfl (lv_at hl 2 rfl) ?_
                    refine va_get (D := E.1) (ci := 5) (v := .ref (ad 1)) (C := RX5) (T := TX5) (N := 11) hx hb hts hin5 hown hK.1 hP 0 rfl rfl 2 (by decide) lk13 (fun _ h9 => h9) rfl dX5_digest_100 ?_
                    refine lv_iload_n hx hb dX5_digest_103 rfl (lv_at hl 0 rfl) ?_
                    refine e_iald hK hP 2 rfl y (by omega) (by decide) hx hb dX5_digest_104 ?_
                    refine lv_i2l hx hb dX5_digest_105 rfl ?_
                    refine lv_ladd hx hb dX5_digest_106 ?_
                    refine lv_lstore_n (lv' := [(1, .long ((((x3 * 31) + ((gr y).toInt64)) * 31) + ((co y).toInt64))), (3, .int (nI y)), (0, .ref o)]) hx hb dX5_digest_107 rfl hl (by decide) rfl (fun ls hl => ?_)
                    refine lv_iconst (v := nI 0) hx hb dX5_digest_108 (by decide +kernel) ?_
                    refine lv_istore (lv' := [(4, .int (nI 0)), (1, .long ((((x3 * 31) + ((gr y).toInt64)) * 31) + ((co y).toInt64))), (3, .int (nI y)), (0, .ref o)]) hx hb dX5_digest_109 hl (by decide) rfl (fun ls hl => ?_)
                    have L111 : ∀ (fuel : Nat) (x4 : Int64) (z4 : Nat) (hz4 : z4 ≤ 3) (hx4 : x4 = digM ((digK (digM (digC (cntA gr co sd mo) 8) (fun k => nI 10 * wm k + st k) 12) gr co (chA sd tk (nI mo)) y * 31 + (gr y).toInt64) * 31 + (co y).toInt64) (chA sd tk (nI mo) y) z4) (hfuel : 3 - z4 < fuel) (H : Heap) (locs : List Loc), va_P E.1 vwCl (wMo E o ad (nI 0) gr co sd tk wm st (nI mo) nx l1 fr) H → va_D A (wMo E o ad (nI 0) gr co sd tk wm st (nI mo) nx l1 fr) → va_S A s.heap H locs → ∀ ls : Array Slot, lv_has ls 5 [(4, .int (nI z4)), (1, .long x4), (3, .int (nI y)), (0, .ref o)] → W p l e rm_X5_digest s m args below meth cd H locs 0 0 Q (F0 m 111 ls []) := by
                      intro fuel
                      induction fuel with
                      | zero => intros; omega
                      | succ fuel ihL111 =>
                        intro x4 z4 hz4 hx4 hfuel H locs hP hD hS ls hl
                        refine lv_iload hx hb dX5_digest_111 (lv_at hl 0 rfl) ?_
                        refine lv_iconst (v := nI 3) hx hb dX5_digest_113 (by decide +kernel) ?_
                        refine n_icmp_ge (x := z4) (y := 3) (by omega) (by omega) (tgt := 138) hx hb dX5_digest_114 (by decide) (fun c114 => ?_) (fun c114 => ?_)
                        · refine lv_iinc (v := nI (y + 1)) (lv' := [(3, .int (nI (y + 1))), (4, .int (nI z4)), (1, .long x4), (0, .ref o)]) hx hb dX5_digest_138 hl (k := 2) rfl (nI_add y 1) (by decide) rfl (fun ls hl => ?_)
                          refine lv_goto (tgt := 76) hx hb dX5_digest_141 (by decide) ?_
                          exact ihL76 x4 (y + 1) (by first | omega | assumption | rfl | (simp_all; done)) (by rw [hx4, show z4 = 3 by omega]; rfl) (by omega) _ _ hP hD hS _ (lv_sub hl [0, 2, 3] rfl)
                        · refine lv_lload_n hx hb dX5_digest_117 rfl (lv_at hl 1 rfl) ?_
                          refine lv_ldc2 hx hb hown hak141 dX5_digest_118 ?_
                          refine lv_lmul hx hb dX5_digest_121 ?_
                          refine lv_aload_n hx hb dX5_digest_122 rfl (lv_at hl 3 rfl) ?_
                          refine lv_iload_n hx hb dX5_digest_123 rfl (lv_at hl 2 rfl) ?_
                          refine lv_iload hx hb dX5_digest_124 (lv_at hl 0 rfl) ?_
                          refine e_callV (As := [.int (nI y), .int (nI z4)]) (rest := [.long (x4 * 31)]) ⟨hx, hb, hml, hown, hts⟩ hK hP hD hS hA hl.1 (c_X5_charted l E _ o ad (nI 0) gr co sd tk wm st mo nx l1 fr y z4 (by first | omega | assumption | rfl | (simp_all; done)) (by first | omega | assumption | rfl | (simp_all; done))) (cwV 2 hts gX5_digest_X5_charted rfl rfl rfl (by decide +kernel) ⟨Nat.le_of_ble_eq_true rfl, Nat.le_of_ble_eq_true rfl⟩) [0, 1, 2, 3, 4, 5, 6, 7, 8, 9] [] rfl rfl rfl rfl (by decide) (q0 := 0) (ci := 5) rfl rfl rfl rfl (Nat.le_of_ble_eq_true rfl) dX5_digest_126 ⟨Nat.le_of_ble_eq_true rfl, Nat.le_of_ble_eq_true rfl⟩ (fun u_1 H locs hu_2 hsz1 hP hD hS => ?_)
                          have hP : va_P E.1 vwCl (wMo E o ad (nI 0) gr co sd tk wm st (nI mo) nx l1 fr) H := hP.sub [0, 1, 2, 3, 4, 5, 6, 7, 8, 9] rfl
                          have hD : va_D A (wMo E o ad (nI 0) gr co sd tk wm st (nI mo) nx l1 fr) := hD.sub [0, 1, 2, 3, 4, 5, 6, 7, 8, 9] (by decide) rfl
                          refine W.eq (g2 := F0 m 129 ls [.int (chA sd tk (nI mo) y z4), .long (x4 * 31)]) rfl ?_
                          refine lv_i2l hx hb dX5_digest_129 rfl ?_
                          refine lv_ladd hx hb dX5_digest_130 ?_
                          refine lv_lstore_n (lv' := [(1, .long ((x4 * 31) + ((chA sd tk (nI mo) y z4).toInt64))), (4, .int (nI z4)), (3, .int (nI y)), (0, .ref o)]) hx hb dX5_digest_131 rfl hl (by decide) rfl (fun ls hl => ?_)
                          refine lv_iinc (v := nI (z4 + 1)) (lv' := [(4, .int (nI (z4 + 1))), (1, .long ((x4 * 31) + ((chA sd tk (nI mo) y z4).toInt64))), (3, .int (nI y)), (0, .ref o)]) hx hb dX5_digest_132 hl (k := 1) rfl (nI_add z4 1) (by decide) rfl (fun ls hl => ?_)
                          refine lv_goto (tgt := 111) hx hb dX5_digest_135 (by decide) ?_
                          exact ihL111 ((x4 * 31) + ((chA sd tk (nI mo) y z4).toInt64)) (z4 + 1) (by first | omega | assumption | rfl | (simp_all; done)) (by rw [hx4]; rfl) (by omega) _ _ hP hD hS _ (lv_sub hl [0, 1, 2, 3] rfl)
                    exact L111 (3 - 0 + 1) ((((x3 * 31) + ((gr y).toInt64)) * 31) + ((co y).toInt64)) 0 (by first | omega | assumption | rfl | (simp_all; done)) (by rw [hx3]; rfl) (Nat.lt_succ_self _) _ _ hP hD hS _ (lv_sub hl [0, 1, 2, 3] rfl)
              exact L76 (81 - 0 + 1) x2 0 (by first | omega | assumption | rfl | (simp_all; done)) (by rw [hx2, show z2 = 12 by omega]; rfl) (Nat.lt_succ_self _) _ _ hP hD hS _ (lv_sub hl [0, 1, 2] rfl)
            · refine lv_lload_n hx hb dX5_digest_44 rfl (lv_at hl 1 rfl) ?_
              refine lv_ldc2 hx hb hown hak141 dX5_digest_45 ?_
              refine lv_lmul hx hb dX5_digest_48 ?_
              refine lv_bipush (v := nI 10) hx hb dX5_digest_49 (by decide +kernel) ?_
              refine lv_aload_n hx hb dX5_digest_51 rfl (lv_at hl 2 rfl) ?_
              refine va_get (D := E.1) (ci := 5) (v := .ref (ad 4)) (C := RX5) (T := TX5) (N := 11) hx hb hts hin5 hown hK.1 hP 0 rfl rfl 5 (by decide) lk22 (fun _ h9 => h9) rfl dX5_digest_52 ?_
              refine lv_iload_n hx hb dX5_digest_55 rfl (lv_at hl 0 rfl) ?_
              refine e_iald hK hP 5 rfl z2 (by omega) (by decide) hx hb dX5_digest_56 ?_
              refine lv_imul hx hb dX5_digest_57 ?_
              refine lv_aload_n hx hb dX5_digest_58 rfl (lv_at hl 2 rfl) ?_
              refine va_get (D := E.1) (ci := 5) (v := .ref (ad 5)) (C := RX5) (T := TX5) (N := 11) hx hb hts hin5 hown hK.1 hP 0 rfl rfl 6 (by decide) lk25 (fun _ h9 => h9) rfl dX5_digest_59 ?_
              refine lv_iload_n hx hb dX5_digest_62 rfl (lv_at hl 0 rfl) ?_
              refine e_iald hK hP 6 rfl z2 (by omega) (by decide) hx hb dX5_digest_63 ?_
              refine lv_iadd hx hb dX5_digest_64 ?_
              refine lv_i2l hx hb dX5_digest_65 rfl ?_
              refine lv_ladd hx hb dX5_digest_66 ?_
              refine lv_lstore_n (lv' := [(1, .long ((x2 * 31) + ((((nI 10) * (wm z2)) + (st z2)).toInt64))), (3, .int (nI z2)), (0, .ref o)]) hx hb dX5_digest_67 rfl hl (by decide) rfl (fun ls hl => ?_)
              refine lv_iinc (v := nI (z2 + 1)) (lv' := [(3, .int (nI (z2 + 1))), (1, .long ((x2 * 31) + ((((nI 10) * (wm z2)) + (st z2)).toInt64))), (0, .ref o)]) hx hb dX5_digest_68 hl (k := 1) rfl (nI_add z2 1) (by decide) rfl (fun ls hl => ?_)
              refine lv_goto (tgt := 38) hx hb dX5_digest_71 (by decide) ?_
              exact ihL38 ((x2 * 31) + ((((nI 10) * (wm z2)) + (st z2)).toInt64)) (z2 + 1) (by first | omega | assumption | rfl | (simp_all; done)) (by rw [hx2]; rfl) (by omega) _ _ hP hD hS _ (lv_sub hl [0, 1, 2] rfl)
        exact L38 (12 - 0 + 1) x 0 (by first | omega | assumption | rfl | (simp_all; done)) (by rw [hx_, show z = 8 by omega]; rfl) (Nat.lt_succ_self _) _ _ hP hD hS _ (lv_sub hl [0, 1, 2] rfl)
      · refine lv_lload_n hx hb dX5_digest_17 rfl (lv_at hl 1 rfl) ?_
        refine lv_ldc2 hx hb hown hak141 dX5_digest_18 ?_
        refine lv_lmul hx hb dX5_digest_21 ?_
        refine lv_aload_n hx hb dX5_digest_22 rfl (lv_at hl 2 rfl) ?_
        refine lv_iload_n hx hb dX5_digest_23 rfl (lv_at hl 0 rfl) ?_
        refine e_callV (As := [.int (nI z)]) (rest := [.long (x * 31)]) ⟨hx, hb, hml, hown, hts⟩ hK hP hD hS hA hl.1 (c_X5_counted l E _ o ad (nI 0) gr co sd tk wm st mo nx l1 fr z (by first | omega | assumption | rfl | (simp_all; done))) (cwV 1 hts gX5_digest_X5_counted rfl rfl rfl (by decide +kernel) ⟨Nat.le_of_ble_eq_true rfl, Nat.le_of_ble_eq_true rfl⟩) [0, 1, 2, 3, 4, 5, 6, 7, 8, 9] [] rfl rfl rfl rfl (by decide) (q0 := 0) (ci := 5) rfl rfl rfl rfl (Nat.le_of_ble_eq_true rfl) dX5_digest_24 ⟨Nat.le_of_ble_eq_true rfl, Nat.le_of_ble_eq_true rfl⟩ (fun u_3 H locs hu_4 hsz1 hP hD hS => ?_)
        obtain ⟨lb__5, rfl⟩ : ∃ z, z = u_3 := ⟨_, rfl⟩
        have hP : va_P E.1 vwCl (wMo E o ad (nI 0) gr co sd tk wm st (nI mo) nx lb__5 fr) H := hP.sub [0, 1, 2, 3, 4, 5, 6, 7, 8, 9] rfl
        have hD : va_D A (wMo E o ad (nI 0) gr co sd tk wm st (nI mo) nx lb__5 fr) := hD.sub [0, 1, 2, 3, 4, 5, 6, 7, 8, 9] (by decide) rfl
        refine W.eq (g2 := F0 m 27 ls [.int (cntA gr co sd mo z), .long (x * 31)]) rfl ?_
        refine lv_i2l hx hb dX5_digest_27 rfl ?_
        refine lv_ladd hx hb dX5_digest_28 ?_
        refine lv_lstore_n (lv' := [(1, .long ((x * 31) + ((cntA gr co sd mo z).toInt64))), (3, .int (nI z)), (0, .ref o)]) hx hb dX5_digest_29 rfl hl (by decide) rfl (fun ls hl => ?_)
        refine lv_iinc (v := nI (z + 1)) (lv' := [(3, .int (nI (z + 1))), (1, .long ((x * 31) + ((cntA gr co sd mo z).toInt64))), (0, .ref o)]) hx hb dX5_digest_30 hl (k := 1) rfl (nI_add z 1) (by decide) rfl (fun ls hl => ?_)
        refine lv_goto (tgt := 11) hx hb dX5_digest_33 (by decide) ?_
        exact ihL11 ((x * 31) + ((cntA gr co sd mo z).toInt64)) (z + 1) lb__5 (by first | omega | assumption | rfl | (simp_all; done)) (by rw [hx_]; rfl) (by omega) _ _ hP hD hS _ (lv_sub hl [0, 1, 2] rfl)
  exact L11 (8 - 0 + 1) 787 0 lb (by first | omega | assumption | rfl | (simp_all; done)) (rfl) (Nat.lt_succ_self _) _ _ hP hD hS _ (lv_sub hl [0, 1, 2] rfl)

abbrev rm_X5_init : Room := { frames := 1, cells := 9, slots := 591, locals := 12 }
set_option maxHeartbeats 4000000 in
set_option maxRecDepth 100000 in
theorem c_X5_init (l : Launch) (E : eT) (sz : Nat) (o : Nat) : cM l yX5_init wsX5_init rm_X5_init E sz [.ref o] ([(o, .inr (5, [.int 0, .null, .null, .null, .null, .null, .null, .int 0, .null, .null, .null]))]) (fun u : (Nat → Nat) => none) (fun u : (Nat → Nat) => True) (fun u : (Nat → Nat) => wMo E o u (nI 0) (fun _ => nI 20) (fun _ => nI 0) (fun _ => (-1)) (fun _ => nI 0) (fun _ => nI 4) (fun _ => nI 0) (nI 0) (fun _ => nI 0) (fun _ => some 0) (fun _ => 0)) := by
  refine cM_intro (cc := cX5_init) (maxL := 2) (ret := none) (by decide +kernel) rfl (Nat.le_of_ble_eq_true rfl) ?_
  intro p e s m args below meth cd hx hb hr hml hown hlocks hts hnm hK hsz hP A hD hA Q hQ ls hl
  have hown : s.vm.findClass RX5 = some m.cls := hown
  have hin : meth.name = "<init>" := hnm
  have hin5 : ∀ w ∈ u_ws RX5 TX5 11, w ∈ wsX5_init := by decide +kernel
  have lk9 := hts (.fieldLink RX5 9 "ReefPilotModel" "ground" "[I") (by decide +kernel)
  have lk13 := hts (.fieldLink RX5 13 "ReefPilotModel" "coral" "[I") (by decide +kernel)
  have lk16 := hts (.fieldLink RX5 16 "ReefPilotModel" "sounding" "[I") (by decide +kernel)
  have lk19 := hts (.fieldLink RX5 19 "ReefPilotModel" "taken" "[I") (by decide +kernel)
  have lk22 := hts (.fieldLink RX5 22 "ReefPilotModel" "warmth" "[I") (by decide +kernel)
  have lk25 := hts (.fieldLink RX5 25 "ReefPilotModel" "storms" "[I") (by decide +kernel)
  have lk28 := hts (.fieldLink RX5 28 "ReefPilotModel" "next" "[I") (by decide +kernel)
  have lk31 := hts (.fieldLink RX5 31 "ReefPilotModel" "label" "[I") (by decide +kernel)
  have lk34 := hts (.fieldLink RX5 34 "ReefPilotModel" "far" "[I") (by decide +kernel)
  have haint := hts (.arrayClass .int) (by decide +kernel)
  have haoi1 := hts (.methodLink RX5 1 objectInit) (by decide +kernel)
  have haoi2 := hts (.instanceMethod objectInit) (by decide +kernel)
  have haoi3 := hts (.code objectInit ⟨#[0xb1]⟩ 1 none) (by decide +kernel)
  have hS : va_S A s.heap s.heap [] := va_S.rf
  have hl : lv_has ls 2 [(0, .ref o)] := hl
  refine lv_aload_n hx hb dX5_init_0 rfl (lv_at hl 0 rfl) ?_
  refine W.objInit hx hb hown haoi1 haoi2 haoi3 rfl (by rw [hml]; exact hl.1) rfl dX5_init_1 (Nat.le_of_ble_eq_true rfl) (Nat.le_of_ble_eq_true rfl) ?_
  refine W.eq (g2 := F0 m 4 ls []) rfl ?_
  refine lv_aload_n hx hb dX5_init_4 rfl (lv_at hl 0 rfl) ?_
  refine lv_bipush (v := nI 81) hx hb dX5_init_5 (by decide +kernel) ?_
  refine e_newI hK hP hD hS hA hx hb haint 81 (by decide) rfl (Nat.le_of_ble_eq_true rfl) (Nat.le_of_ble_eq_true rfl) dX5_init_7 (fun q_1 H hP hD hS => ?_)
  have hP : va_P E.1 vwCl ([(o, .inr (5, [.int 0, .null, .null, .null, .null, .null, .null, .int 0, .null, .null, .null]))] ++ [(q_1, .inl (E.2.1, 81, .inl (fun _ => 0)))]) H := hP
  have hD : va_D A ([(o, .inr (5, [.int 0, .null, .null, .null, .null, .null, .null, .int 0, .null, .null, .null]))] ++ [(q_1, .inl (E.2.1, 81, .inl (fun _ => 0)))]) := hD
  refine va_putF (D := E.1) (ci := 5) (v := .ref q_1) (ty := (.array .int)) (C := RX5) (T := TX5) (N := 11) hx hb hts hin5 tyX5 tyX5_ok nmX5 hown hK.1 hP hD hS 0 rfl rfl 1 (by decide) lk9 (fun _ h9 => h9) rfl hin rfl (by decide +kernel) rfl rfl (Nat.le_of_ble_eq_true rfl) dX5_init_9 (fun H locs hP hD hS => ?_)
  have hP : va_P E.1 vwCl ([(o, .inr (5, [.int 0, .ref q_1, .null, .null, .null, .null, .null, .int 0, .null, .null, .null]))] ++ [(q_1, .inl (E.2.1, 81, .inl (fun _ => 0)))]) H := hP
  have hD : va_D A ([(o, .inr (5, [.int 0, .ref q_1, .null, .null, .null, .null, .null, .int 0, .null, .null, .null]))] ++ [(q_1, .inl (E.2.1, 81, .inl (fun _ => 0)))]) := hD
  refine lv_aload_n hx hb dX5_init_12 rfl (lv_at hl 0 rfl) ?_
  refine lv_bipush (v := nI 81) hx hb dX5_init_13 (by decide +kernel) ?_
  refine e_newI hK hP hD hS hA hx hb haint 81 (by decide) rfl (Nat.le_of_ble_eq_true rfl) (Nat.le_of_ble_eq_true rfl) dX5_init_15 (fun q_2 H hP hD hS => ?_)
  have hP : va_P E.1 vwCl ([(o, .inr (5, [.int 0, .ref q_1, .null, .null, .null, .null, .null, .int 0, .null, .null, .null]))] ++ [(q_1, .inl (E.2.1, 81, .inl (fun _ => 0)))] ++ [(q_2, .inl (E.2.1, 81, .inl (fun _ => 0)))]) H := hP
  have hD : va_D A ([(o, .inr (5, [.int 0, .ref q_1, .null, .null, .null, .null, .null, .int 0, .null, .null, .null]))] ++ [(q_1, .inl (E.2.1, 81, .inl (fun _ => 0)))] ++ [(q_2, .inl (E.2.1, 81, .inl (fun _ => 0)))]) := hD
  refine va_putF (D := E.1) (ci := 5) (v := .ref q_2) (ty := (.array .int)) (C := RX5) (T := TX5) (N := 11) hx hb hts hin5 tyX5 tyX5_ok nmX5 hown hK.1 hP hD hS 0 rfl rfl 2 (by decide) lk13 (fun _ h9 => h9) rfl hin rfl (by decide +kernel) rfl rfl (Nat.le_of_ble_eq_true rfl) dX5_init_17 (fun H locs hP hD hS => ?_)
  have hP : va_P E.1 vwCl ([(o, .inr (5, [.int 0, .ref q_1, .ref q_2, .null, .null, .null, .null, .int 0, .null, .null, .null]))] ++ [(q_1, .inl (E.2.1, 81, .inl (fun _ => 0)))] ++ [(q_2, .inl (E.2.1, 81, .inl (fun _ => 0)))]) H := hP
  have hD : va_D A ([(o, .inr (5, [.int 0, .ref q_1, .ref q_2, .null, .null, .null, .null, .int 0, .null, .null, .null]))] ++ [(q_1, .inl (E.2.1, 81, .inl (fun _ => 0)))] ++ [(q_2, .inl (E.2.1, 81, .inl (fun _ => 0)))]) := hD
  refine lv_aload_n hx hb dX5_init_20 rfl (lv_at hl 0 rfl) ?_
  refine lv_bipush (v := nI 81) hx hb dX5_init_21 (by decide +kernel) ?_
  refine e_newI hK hP hD hS hA hx hb haint 81 (by decide) rfl (Nat.le_of_ble_eq_true rfl) (Nat.le_of_ble_eq_true rfl) dX5_init_23 (fun q_3 H hP hD hS => ?_)
  have hP : va_P E.1 vwCl ([(o, .inr (5, [.int 0, .ref q_1, .ref q_2, .null, .null, .null, .null, .int 0, .null, .null, .null]))] ++ [(q_1, .inl (E.2.1, 81, .inl (fun _ => 0)))] ++ [(q_2, .inl (E.2.1, 81, .inl (fun _ => 0)))] ++ [(q_3, .inl (E.2.1, 81, .inl (fun _ => 0)))]) H := hP
  have hD : va_D A ([(o, .inr (5, [.int 0, .ref q_1, .ref q_2, .null, .null, .null, .null, .int 0, .null, .null, .null]))] ++ [(q_1, .inl (E.2.1, 81, .inl (fun _ => 0)))] ++ [(q_2, .inl (E.2.1, 81, .inl (fun _ => 0)))] ++ [(q_3, .inl (E.2.1, 81, .inl (fun _ => 0)))]) := hD
  refine va_putF (D := E.1) (ci := 5) (v := .ref q_3) (ty := (.array .int)) (C := RX5) (T := TX5) (N := 11) hx hb hts hin5 tyX5 tyX5_ok nmX5 hown hK.1 hP hD hS 0 rfl rfl 3 (by decide) lk16 (fun _ h9 => h9) rfl hin rfl (by decide +kernel) rfl rfl (Nat.le_of_ble_eq_true rfl) dX5_init_25 (fun H locs hP hD hS => ?_)
  have hP : va_P E.1 vwCl ([(o, .inr (5, [.int 0, .ref q_1, .ref q_2, .ref q_3, .null, .null, .null, .int 0, .null, .null, .null]))] ++ [(q_1, .inl (E.2.1, 81, .inl (fun _ => 0)))] ++ [(q_2, .inl (E.2.1, 81, .inl (fun _ => 0)))] ++ [(q_3, .inl (E.2.1, 81, .inl (fun _ => 0)))]) H := hP
  have hD : va_D A ([(o, .inr (5, [.int 0, .ref q_1, .ref q_2, .ref q_3, .null, .null, .null, .int 0, .null, .null, .null]))] ++ [(q_1, .inl (E.2.1, 81, .inl (fun _ => 0)))] ++ [(q_2, .inl (E.2.1, 81, .inl (fun _ => 0)))] ++ [(q_3, .inl (E.2.1, 81, .inl (fun _ => 0)))]) := hD
  refine lv_aload_n hx hb dX5_init_28 rfl (lv_at hl 0 rfl) ?_
  refine lv_bipush (v := nI 81) hx hb dX5_init_29 (by decide +kernel) ?_
  refine e_newI hK hP hD hS hA hx hb haint 81 (by decide) rfl (Nat.le_of_ble_eq_true rfl) (Nat.le_of_ble_eq_true rfl) dX5_init_31 (fun q_4 H hP hD hS => ?_)
  have hP : va_P E.1 vwCl ([(o, .inr (5, [.int 0, .ref q_1, .ref q_2, .ref q_3, .null, .null, .null, .int 0, .null, .null, .null]))] ++ [(q_1, .inl (E.2.1, 81, .inl (fun _ => 0)))] ++ [(q_2, .inl (E.2.1, 81, .inl (fun _ => 0)))] ++ [(q_3, .inl (E.2.1, 81, .inl (fun _ => 0)))] ++ [(q_4, .inl (E.2.1, 81, .inl (fun _ => 0)))]) H := hP
  have hD : va_D A ([(o, .inr (5, [.int 0, .ref q_1, .ref q_2, .ref q_3, .null, .null, .null, .int 0, .null, .null, .null]))] ++ [(q_1, .inl (E.2.1, 81, .inl (fun _ => 0)))] ++ [(q_2, .inl (E.2.1, 81, .inl (fun _ => 0)))] ++ [(q_3, .inl (E.2.1, 81, .inl (fun _ => 0)))] ++ [(q_4, .inl (E.2.1, 81, .inl (fun _ => 0)))]) := hD
  refine va_putF (D := E.1) (ci := 5) (v := .ref q_4) (ty := (.array .int)) (C := RX5) (T := TX5) (N := 11) hx hb hts hin5 tyX5 tyX5_ok nmX5 hown hK.1 hP hD hS 0 rfl rfl 4 (by decide) lk19 (fun _ h9 => h9) rfl hin rfl (by decide +kernel) rfl rfl (Nat.le_of_ble_eq_true rfl) dX5_init_33 (fun H locs hP hD hS => ?_)
  have hP : va_P E.1 vwCl ([(o, .inr (5, [.int 0, .ref q_1, .ref q_2, .ref q_3, .ref q_4, .null, .null, .int 0, .null, .null, .null]))] ++ [(q_1, .inl (E.2.1, 81, .inl (fun _ => 0)))] ++ [(q_2, .inl (E.2.1, 81, .inl (fun _ => 0)))] ++ [(q_3, .inl (E.2.1, 81, .inl (fun _ => 0)))] ++ [(q_4, .inl (E.2.1, 81, .inl (fun _ => 0)))]) H := hP
  have hD : va_D A ([(o, .inr (5, [.int 0, .ref q_1, .ref q_2, .ref q_3, .ref q_4, .null, .null, .int 0, .null, .null, .null]))] ++ [(q_1, .inl (E.2.1, 81, .inl (fun _ => 0)))] ++ [(q_2, .inl (E.2.1, 81, .inl (fun _ => 0)))] ++ [(q_3, .inl (E.2.1, 81, .inl (fun _ => 0)))] ++ [(q_4, .inl (E.2.1, 81, .inl (fun _ => 0)))]) := hD
  refine lv_aload_n hx hb dX5_init_36 rfl (lv_at hl 0 rfl) ?_
  refine lv_bipush (v := nI 12) hx hb dX5_init_37 (by decide +kernel) ?_
  refine e_newI hK hP hD hS hA hx hb haint 12 (by decide) rfl (Nat.le_of_ble_eq_true rfl) (Nat.le_of_ble_eq_true rfl) dX5_init_39 (fun q_5 H hP hD hS => ?_)
  have hP : va_P E.1 vwCl ([(o, .inr (5, [.int 0, .ref q_1, .ref q_2, .ref q_3, .ref q_4, .null, .null, .int 0, .null, .null, .null]))] ++ [(q_1, .inl (E.2.1, 81, .inl (fun _ => 0)))] ++ [(q_2, .inl (E.2.1, 81, .inl (fun _ => 0)))] ++ [(q_3, .inl (E.2.1, 81, .inl (fun _ => 0)))] ++ [(q_4, .inl (E.2.1, 81, .inl (fun _ => 0)))] ++ [(q_5, .inl (E.2.1, 12, .inl (fun _ => 0)))]) H := hP
  have hD : va_D A ([(o, .inr (5, [.int 0, .ref q_1, .ref q_2, .ref q_3, .ref q_4, .null, .null, .int 0, .null, .null, .null]))] ++ [(q_1, .inl (E.2.1, 81, .inl (fun _ => 0)))] ++ [(q_2, .inl (E.2.1, 81, .inl (fun _ => 0)))] ++ [(q_3, .inl (E.2.1, 81, .inl (fun _ => 0)))] ++ [(q_4, .inl (E.2.1, 81, .inl (fun _ => 0)))] ++ [(q_5, .inl (E.2.1, 12, .inl (fun _ => 0)))]) := hD
  refine va_putF (D := E.1) (ci := 5) (v := .ref q_5) (ty := (.array .int)) (C := RX5) (T := TX5) (N := 11) hx hb hts hin5 tyX5 tyX5_ok nmX5 hown hK.1 hP hD hS 0 rfl rfl 5 (by decide) lk22 (fun _ h9 => h9) rfl hin rfl (by decide +kernel) rfl rfl (Nat.le_of_ble_eq_true rfl) dX5_init_41 (fun H locs hP hD hS => ?_)
  have hP : va_P E.1 vwCl ([(o, .inr (5, [.int 0, .ref q_1, .ref q_2, .ref q_3, .ref q_4, .ref q_5, .null, .int 0, .null, .null, .null]))] ++ [(q_1, .inl (E.2.1, 81, .inl (fun _ => 0)))] ++ [(q_2, .inl (E.2.1, 81, .inl (fun _ => 0)))] ++ [(q_3, .inl (E.2.1, 81, .inl (fun _ => 0)))] ++ [(q_4, .inl (E.2.1, 81, .inl (fun _ => 0)))] ++ [(q_5, .inl (E.2.1, 12, .inl (fun _ => 0)))]) H := hP
  have hD : va_D A ([(o, .inr (5, [.int 0, .ref q_1, .ref q_2, .ref q_3, .ref q_4, .ref q_5, .null, .int 0, .null, .null, .null]))] ++ [(q_1, .inl (E.2.1, 81, .inl (fun _ => 0)))] ++ [(q_2, .inl (E.2.1, 81, .inl (fun _ => 0)))] ++ [(q_3, .inl (E.2.1, 81, .inl (fun _ => 0)))] ++ [(q_4, .inl (E.2.1, 81, .inl (fun _ => 0)))] ++ [(q_5, .inl (E.2.1, 12, .inl (fun _ => 0)))]) := hD
  refine lv_aload_n hx hb dX5_init_44 rfl (lv_at hl 0 rfl) ?_
  refine lv_bipush (v := nI 12) hx hb dX5_init_45 (by decide +kernel) ?_
  refine e_newI hK hP hD hS hA hx hb haint 12 (by decide) rfl (Nat.le_of_ble_eq_true rfl) (Nat.le_of_ble_eq_true rfl) dX5_init_47 (fun q_6 H hP hD hS => ?_)
  have hP : va_P E.1 vwCl ([(o, .inr (5, [.int 0, .ref q_1, .ref q_2, .ref q_3, .ref q_4, .ref q_5, .null, .int 0, .null, .null, .null]))] ++ [(q_1, .inl (E.2.1, 81, .inl (fun _ => 0)))] ++ [(q_2, .inl (E.2.1, 81, .inl (fun _ => 0)))] ++ [(q_3, .inl (E.2.1, 81, .inl (fun _ => 0)))] ++ [(q_4, .inl (E.2.1, 81, .inl (fun _ => 0)))] ++ [(q_5, .inl (E.2.1, 12, .inl (fun _ => 0)))] ++ [(q_6, .inl (E.2.1, 12, .inl (fun _ => 0)))]) H := hP
  have hD : va_D A ([(o, .inr (5, [.int 0, .ref q_1, .ref q_2, .ref q_3, .ref q_4, .ref q_5, .null, .int 0, .null, .null, .null]))] ++ [(q_1, .inl (E.2.1, 81, .inl (fun _ => 0)))] ++ [(q_2, .inl (E.2.1, 81, .inl (fun _ => 0)))] ++ [(q_3, .inl (E.2.1, 81, .inl (fun _ => 0)))] ++ [(q_4, .inl (E.2.1, 81, .inl (fun _ => 0)))] ++ [(q_5, .inl (E.2.1, 12, .inl (fun _ => 0)))] ++ [(q_6, .inl (E.2.1, 12, .inl (fun _ => 0)))]) := hD
  refine va_putF (D := E.1) (ci := 5) (v := .ref q_6) (ty := (.array .int)) (C := RX5) (T := TX5) (N := 11) hx hb hts hin5 tyX5 tyX5_ok nmX5 hown hK.1 hP hD hS 0 rfl rfl 6 (by decide) lk25 (fun _ h9 => h9) rfl hin rfl (by decide +kernel) rfl rfl (Nat.le_of_ble_eq_true rfl) dX5_init_49 (fun H locs hP hD hS => ?_)
  have hP : va_P E.1 vwCl ([(o, .inr (5, [.int 0, .ref q_1, .ref q_2, .ref q_3, .ref q_4, .ref q_5, .ref q_6, .int 0, .null, .null, .null]))] ++ [(q_1, .inl (E.2.1, 81, .inl (fun _ => 0)))] ++ [(q_2, .inl (E.2.1, 81, .inl (fun _ => 0)))] ++ [(q_3, .inl (E.2.1, 81, .inl (fun _ => 0)))] ++ [(q_4, .inl (E.2.1, 81, .inl (fun _ => 0)))] ++ [(q_5, .inl (E.2.1, 12, .inl (fun _ => 0)))] ++ [(q_6, .inl (E.2.1, 12, .inl (fun _ => 0)))]) H := hP
  have hD : va_D A ([(o, .inr (5, [.int 0, .ref q_1, .ref q_2, .ref q_3, .ref q_4, .ref q_5, .ref q_6, .int 0, .null, .null, .null]))] ++ [(q_1, .inl (E.2.1, 81, .inl (fun _ => 0)))] ++ [(q_2, .inl (E.2.1, 81, .inl (fun _ => 0)))] ++ [(q_3, .inl (E.2.1, 81, .inl (fun _ => 0)))] ++ [(q_4, .inl (E.2.1, 81, .inl (fun _ => 0)))] ++ [(q_5, .inl (E.2.1, 12, .inl (fun _ => 0)))] ++ [(q_6, .inl (E.2.1, 12, .inl (fun _ => 0)))]) := hD
  refine lv_aload_n hx hb dX5_init_52 rfl (lv_at hl 0 rfl) ?_
  refine lv_bipush (v := nI 81) hx hb dX5_init_53 (by decide +kernel) ?_
  refine e_newI hK hP hD hS hA hx hb haint 81 (by decide) rfl (Nat.le_of_ble_eq_true rfl) (Nat.le_of_ble_eq_true rfl) dX5_init_55 (fun q_7 H hP hD hS => ?_)
  have hP : va_P E.1 vwCl ([(o, .inr (5, [.int 0, .ref q_1, .ref q_2, .ref q_3, .ref q_4, .ref q_5, .ref q_6, .int 0, .null, .null, .null]))] ++ [(q_1, .inl (E.2.1, 81, .inl (fun _ => 0)))] ++ [(q_2, .inl (E.2.1, 81, .inl (fun _ => 0)))] ++ [(q_3, .inl (E.2.1, 81, .inl (fun _ => 0)))] ++ [(q_4, .inl (E.2.1, 81, .inl (fun _ => 0)))] ++ [(q_5, .inl (E.2.1, 12, .inl (fun _ => 0)))] ++ [(q_6, .inl (E.2.1, 12, .inl (fun _ => 0)))] ++ [(q_7, .inl (E.2.1, 81, .inl (fun _ => 0)))]) H := hP
  have hD : va_D A ([(o, .inr (5, [.int 0, .ref q_1, .ref q_2, .ref q_3, .ref q_4, .ref q_5, .ref q_6, .int 0, .null, .null, .null]))] ++ [(q_1, .inl (E.2.1, 81, .inl (fun _ => 0)))] ++ [(q_2, .inl (E.2.1, 81, .inl (fun _ => 0)))] ++ [(q_3, .inl (E.2.1, 81, .inl (fun _ => 0)))] ++ [(q_4, .inl (E.2.1, 81, .inl (fun _ => 0)))] ++ [(q_5, .inl (E.2.1, 12, .inl (fun _ => 0)))] ++ [(q_6, .inl (E.2.1, 12, .inl (fun _ => 0)))] ++ [(q_7, .inl (E.2.1, 81, .inl (fun _ => 0)))]) := hD
  refine va_putF (D := E.1) (ci := 5) (v := .ref q_7) (ty := (.array .int)) (C := RX5) (T := TX5) (N := 11) hx hb hts hin5 tyX5 tyX5_ok nmX5 hown hK.1 hP hD hS 0 rfl rfl 8 (by decide) lk28 (fun _ h9 => h9) rfl hin rfl (by decide +kernel) rfl rfl (Nat.le_of_ble_eq_true rfl) dX5_init_57 (fun H locs hP hD hS => ?_)
  have hP : va_P E.1 vwCl ([(o, .inr (5, [.int 0, .ref q_1, .ref q_2, .ref q_3, .ref q_4, .ref q_5, .ref q_6, .int 0, .ref q_7, .null, .null]))] ++ [(q_1, .inl (E.2.1, 81, .inl (fun _ => 0)))] ++ [(q_2, .inl (E.2.1, 81, .inl (fun _ => 0)))] ++ [(q_3, .inl (E.2.1, 81, .inl (fun _ => 0)))] ++ [(q_4, .inl (E.2.1, 81, .inl (fun _ => 0)))] ++ [(q_5, .inl (E.2.1, 12, .inl (fun _ => 0)))] ++ [(q_6, .inl (E.2.1, 12, .inl (fun _ => 0)))] ++ [(q_7, .inl (E.2.1, 81, .inl (fun _ => 0)))]) H := hP
  have hD : va_D A ([(o, .inr (5, [.int 0, .ref q_1, .ref q_2, .ref q_3, .ref q_4, .ref q_5, .ref q_6, .int 0, .ref q_7, .null, .null]))] ++ [(q_1, .inl (E.2.1, 81, .inl (fun _ => 0)))] ++ [(q_2, .inl (E.2.1, 81, .inl (fun _ => 0)))] ++ [(q_3, .inl (E.2.1, 81, .inl (fun _ => 0)))] ++ [(q_4, .inl (E.2.1, 81, .inl (fun _ => 0)))] ++ [(q_5, .inl (E.2.1, 12, .inl (fun _ => 0)))] ++ [(q_6, .inl (E.2.1, 12, .inl (fun _ => 0)))] ++ [(q_7, .inl (E.2.1, 81, .inl (fun _ => 0)))]) := hD
  refine lv_aload_n hx hb dX5_init_60 rfl (lv_at hl 0 rfl) ?_
  refine lv_bipush (v := nI 81) hx hb dX5_init_61 (by decide +kernel) ?_
  refine e_newI hK hP hD hS hA hx hb haint 81 (by decide) rfl (Nat.le_of_ble_eq_true rfl) (Nat.le_of_ble_eq_true rfl) dX5_init_63 (fun q_8 H hP hD hS => ?_)
  have hP : va_P E.1 vwCl ([(o, .inr (5, [.int 0, .ref q_1, .ref q_2, .ref q_3, .ref q_4, .ref q_5, .ref q_6, .int 0, .ref q_7, .null, .null]))] ++ [(q_1, .inl (E.2.1, 81, .inl (fun _ => 0)))] ++ [(q_2, .inl (E.2.1, 81, .inl (fun _ => 0)))] ++ [(q_3, .inl (E.2.1, 81, .inl (fun _ => 0)))] ++ [(q_4, .inl (E.2.1, 81, .inl (fun _ => 0)))] ++ [(q_5, .inl (E.2.1, 12, .inl (fun _ => 0)))] ++ [(q_6, .inl (E.2.1, 12, .inl (fun _ => 0)))] ++ [(q_7, .inl (E.2.1, 81, .inl (fun _ => 0)))] ++ [(q_8, .inl (E.2.1, 81, .inl (fun _ => 0)))]) H := hP
  have hD : va_D A ([(o, .inr (5, [.int 0, .ref q_1, .ref q_2, .ref q_3, .ref q_4, .ref q_5, .ref q_6, .int 0, .ref q_7, .null, .null]))] ++ [(q_1, .inl (E.2.1, 81, .inl (fun _ => 0)))] ++ [(q_2, .inl (E.2.1, 81, .inl (fun _ => 0)))] ++ [(q_3, .inl (E.2.1, 81, .inl (fun _ => 0)))] ++ [(q_4, .inl (E.2.1, 81, .inl (fun _ => 0)))] ++ [(q_5, .inl (E.2.1, 12, .inl (fun _ => 0)))] ++ [(q_6, .inl (E.2.1, 12, .inl (fun _ => 0)))] ++ [(q_7, .inl (E.2.1, 81, .inl (fun _ => 0)))] ++ [(q_8, .inl (E.2.1, 81, .inl (fun _ => 0)))]) := hD
  refine va_putF (D := E.1) (ci := 5) (v := .ref q_8) (ty := (.array .int)) (C := RX5) (T := TX5) (N := 11) hx hb hts hin5 tyX5 tyX5_ok nmX5 hown hK.1 hP hD hS 0 rfl rfl 9 (by decide) lk31 (fun _ h9 => h9) rfl hin rfl (by decide +kernel) rfl rfl (Nat.le_of_ble_eq_true rfl) dX5_init_65 (fun H locs hP hD hS => ?_)
  have hP : va_P E.1 vwCl ([(o, .inr (5, [.int 0, .ref q_1, .ref q_2, .ref q_3, .ref q_4, .ref q_5, .ref q_6, .int 0, .ref q_7, .ref q_8, .null]))] ++ [(q_1, .inl (E.2.1, 81, .inl (fun _ => 0)))] ++ [(q_2, .inl (E.2.1, 81, .inl (fun _ => 0)))] ++ [(q_3, .inl (E.2.1, 81, .inl (fun _ => 0)))] ++ [(q_4, .inl (E.2.1, 81, .inl (fun _ => 0)))] ++ [(q_5, .inl (E.2.1, 12, .inl (fun _ => 0)))] ++ [(q_6, .inl (E.2.1, 12, .inl (fun _ => 0)))] ++ [(q_7, .inl (E.2.1, 81, .inl (fun _ => 0)))] ++ [(q_8, .inl (E.2.1, 81, .inl (fun _ => 0)))]) H := hP
  have hD : va_D A ([(o, .inr (5, [.int 0, .ref q_1, .ref q_2, .ref q_3, .ref q_4, .ref q_5, .ref q_6, .int 0, .ref q_7, .ref q_8, .null]))] ++ [(q_1, .inl (E.2.1, 81, .inl (fun _ => 0)))] ++ [(q_2, .inl (E.2.1, 81, .inl (fun _ => 0)))] ++ [(q_3, .inl (E.2.1, 81, .inl (fun _ => 0)))] ++ [(q_4, .inl (E.2.1, 81, .inl (fun _ => 0)))] ++ [(q_5, .inl (E.2.1, 12, .inl (fun _ => 0)))] ++ [(q_6, .inl (E.2.1, 12, .inl (fun _ => 0)))] ++ [(q_7, .inl (E.2.1, 81, .inl (fun _ => 0)))] ++ [(q_8, .inl (E.2.1, 81, .inl (fun _ => 0)))]) := hD
  refine lv_aload_n hx hb dX5_init_68 rfl (lv_at hl 0 rfl) ?_
  refine lv_bipush (v := nI 81) hx hb dX5_init_69 (by decide +kernel) ?_
  refine e_newI hK hP hD hS hA hx hb haint 81 (by decide) rfl (Nat.le_of_ble_eq_true rfl) (Nat.le_of_ble_eq_true rfl) dX5_init_71 (fun q_9 H hP hD hS => ?_)
  have hP : va_P E.1 vwCl ([(o, .inr (5, [.int 0, .ref q_1, .ref q_2, .ref q_3, .ref q_4, .ref q_5, .ref q_6, .int 0, .ref q_7, .ref q_8, .null]))] ++ [(q_1, .inl (E.2.1, 81, .inl (fun _ => 0)))] ++ [(q_2, .inl (E.2.1, 81, .inl (fun _ => 0)))] ++ [(q_3, .inl (E.2.1, 81, .inl (fun _ => 0)))] ++ [(q_4, .inl (E.2.1, 81, .inl (fun _ => 0)))] ++ [(q_5, .inl (E.2.1, 12, .inl (fun _ => 0)))] ++ [(q_6, .inl (E.2.1, 12, .inl (fun _ => 0)))] ++ [(q_7, .inl (E.2.1, 81, .inl (fun _ => 0)))] ++ [(q_8, .inl (E.2.1, 81, .inl (fun _ => 0)))] ++ [(q_9, .inl (E.2.1, 81, .inl (fun _ => 0)))]) H := hP
  have hD : va_D A ([(o, .inr (5, [.int 0, .ref q_1, .ref q_2, .ref q_3, .ref q_4, .ref q_5, .ref q_6, .int 0, .ref q_7, .ref q_8, .null]))] ++ [(q_1, .inl (E.2.1, 81, .inl (fun _ => 0)))] ++ [(q_2, .inl (E.2.1, 81, .inl (fun _ => 0)))] ++ [(q_3, .inl (E.2.1, 81, .inl (fun _ => 0)))] ++ [(q_4, .inl (E.2.1, 81, .inl (fun _ => 0)))] ++ [(q_5, .inl (E.2.1, 12, .inl (fun _ => 0)))] ++ [(q_6, .inl (E.2.1, 12, .inl (fun _ => 0)))] ++ [(q_7, .inl (E.2.1, 81, .inl (fun _ => 0)))] ++ [(q_8, .inl (E.2.1, 81, .inl (fun _ => 0)))] ++ [(q_9, .inl (E.2.1, 81, .inl (fun _ => 0)))]) := hD
  refine va_putF (D := E.1) (ci := 5) (v := .ref q_9) (ty := (.array .int)) (C := RX5) (T := TX5) (N := 11) hx hb hts hin5 tyX5 tyX5_ok nmX5 hown hK.1 hP hD hS 0 rfl rfl 10 (by decide) lk34 (fun _ h9 => h9) rfl hin rfl (by decide +kernel) rfl rfl (Nat.le_of_ble_eq_true rfl) dX5_init_73 (fun H locs hP hD hS => ?_)
  have hP : va_P E.1 vwCl ([(o, .inr (5, [.int 0, .ref q_1, .ref q_2, .ref q_3, .ref q_4, .ref q_5, .ref q_6, .int 0, .ref q_7, .ref q_8, .ref q_9]))] ++ [(q_1, .inl (E.2.1, 81, .inl (fun _ => 0)))] ++ [(q_2, .inl (E.2.1, 81, .inl (fun _ => 0)))] ++ [(q_3, .inl (E.2.1, 81, .inl (fun _ => 0)))] ++ [(q_4, .inl (E.2.1, 81, .inl (fun _ => 0)))] ++ [(q_5, .inl (E.2.1, 12, .inl (fun _ => 0)))] ++ [(q_6, .inl (E.2.1, 12, .inl (fun _ => 0)))] ++ [(q_7, .inl (E.2.1, 81, .inl (fun _ => 0)))] ++ [(q_8, .inl (E.2.1, 81, .inl (fun _ => 0)))] ++ [(q_9, .inl (E.2.1, 81, .inl (fun _ => 0)))]) H := hP
  have hD : va_D A ([(o, .inr (5, [.int 0, .ref q_1, .ref q_2, .ref q_3, .ref q_4, .ref q_5, .ref q_6, .int 0, .ref q_7, .ref q_8, .ref q_9]))] ++ [(q_1, .inl (E.2.1, 81, .inl (fun _ => 0)))] ++ [(q_2, .inl (E.2.1, 81, .inl (fun _ => 0)))] ++ [(q_3, .inl (E.2.1, 81, .inl (fun _ => 0)))] ++ [(q_4, .inl (E.2.1, 81, .inl (fun _ => 0)))] ++ [(q_5, .inl (E.2.1, 12, .inl (fun _ => 0)))] ++ [(q_6, .inl (E.2.1, 12, .inl (fun _ => 0)))] ++ [(q_7, .inl (E.2.1, 81, .inl (fun _ => 0)))] ++ [(q_8, .inl (E.2.1, 81, .inl (fun _ => 0)))] ++ [(q_9, .inl (E.2.1, 81, .inl (fun _ => 0)))]) := hD
  have hP : va_P E.1 vwCl ([(o, .inr (5, [.int 0, .ref q_1, .ref q_2, .ref q_3, .ref q_4, .ref q_5, .ref q_6, .int 0, .ref q_7, .ref q_8, .ref q_9])), (q_1, .inl (E.2.1, 81, .inl (fun _ => 0))), (q_2, .inl (E.2.1, 81, .inl (fun _ => 0))), (q_3, .inl (E.2.1, 81, .inl (fun _ => 0))), (q_4, .inl (E.2.1, 81, .inl (fun _ => 0))), (q_5, .inl (E.2.1, 12, .inl (fun _ => 0))), (q_6, .inl (E.2.1, 12, .inl (fun _ => 0))), (q_7, .inl (E.2.1, 81, .inl (fun _ => 0))), (q_8, .inl (E.2.1, 81, .inl (fun _ => 0))), (q_9, .inl (E.2.1, 81, .inl (fun _ => 0)))]) H := hP
  have hD : va_D A ([(o, .inr (5, [.int 0, .ref q_1, .ref q_2, .ref q_3, .ref q_4, .ref q_5, .ref q_6, .int 0, .ref q_7, .ref q_8, .ref q_9])), (q_1, .inl (E.2.1, 81, .inl (fun _ => 0))), (q_2, .inl (E.2.1, 81, .inl (fun _ => 0))), (q_3, .inl (E.2.1, 81, .inl (fun _ => 0))), (q_4, .inl (E.2.1, 81, .inl (fun _ => 0))), (q_5, .inl (E.2.1, 12, .inl (fun _ => 0))), (q_6, .inl (E.2.1, 12, .inl (fun _ => 0))), (q_7, .inl (E.2.1, 81, .inl (fun _ => 0))), (q_8, .inl (E.2.1, 81, .inl (fun _ => 0))), (q_9, .inl (E.2.1, 81, .inl (fun _ => 0)))]) := hD
  refine lv_iconst (v := nI 0) hx hb dX5_init_76 (by decide +kernel) ?_
  refine lv_istore_n (lv' := [(1, .int (nI 0)), (0, .ref o)]) hx hb dX5_init_77 rfl hl (by decide) rfl (fun ls hl => ?_)
  have L78 : ∀ (fuel : Nat) (z : Nat) (f : Nat → Int32) (f3 : Nat → Int32) (hz : z ≤ 81) (hf : ∀ k : Nat, f k = if k < z then (fun _ => nI 20) k else (fun _ => 0) k) (hf3 : ∀ k : Nat, f3 k = if k < z then (fun _ => (-1)) k else (fun _ => 0) k) (hfuel : 81 - z < fuel) (H : Heap) (locs : List Loc), va_P E.1 vwCl ([(o, .inr (5, [.int 0, .ref q_1, .ref q_2, .ref q_3, .ref q_4, .ref q_5, .ref q_6, .int 0, .ref q_7, .ref q_8, .ref q_9])), (q_1, .inl (E.2.1, 81, .inl f)), (q_2, .inl (E.2.1, 81, .inl (fun _ => 0))), (q_3, .inl (E.2.1, 81, .inl f3)), (q_4, .inl (E.2.1, 81, .inl (fun _ => 0))), (q_5, .inl (E.2.1, 12, .inl (fun _ => 0))), (q_6, .inl (E.2.1, 12, .inl (fun _ => 0))), (q_7, .inl (E.2.1, 81, .inl (fun _ => 0))), (q_8, .inl (E.2.1, 81, .inl (fun _ => 0))), (q_9, .inl (E.2.1, 81, .inl (fun _ => 0)))]) H → va_D A ([(o, .inr (5, [.int 0, .ref q_1, .ref q_2, .ref q_3, .ref q_4, .ref q_5, .ref q_6, .int 0, .ref q_7, .ref q_8, .ref q_9])), (q_1, .inl (E.2.1, 81, .inl f)), (q_2, .inl (E.2.1, 81, .inl (fun _ => 0))), (q_3, .inl (E.2.1, 81, .inl f3)), (q_4, .inl (E.2.1, 81, .inl (fun _ => 0))), (q_5, .inl (E.2.1, 12, .inl (fun _ => 0))), (q_6, .inl (E.2.1, 12, .inl (fun _ => 0))), (q_7, .inl (E.2.1, 81, .inl (fun _ => 0))), (q_8, .inl (E.2.1, 81, .inl (fun _ => 0))), (q_9, .inl (E.2.1, 81, .inl (fun _ => 0)))]) → va_S A s.heap H locs → ∀ ls : Array Slot, lv_has ls 2 [(1, .int (nI z)), (0, .ref o)] → W p l e rm_X5_init s m args below meth cd H locs 9 591 Q (F0 m 78 ls []) := by
    intro fuel
    induction fuel with
    | zero => intros; omega
    | succ fuel ihL78 =>
      intro z f f3 hz hf hf3 hfuel H locs hP hD hS ls hl
      refine lv_iload_n hx hb dX5_init_78 rfl (lv_at hl 0 rfl) ?_
      refine lv_bipush (v := nI 81) hx hb dX5_init_79 (by decide +kernel) ?_
      refine n_icmp_ge (x := z) (y := 81) (by omega) (by omega) (tgt := 105) hx hb dX5_init_81 (by decide) (fun c81 => ?_) (fun c81 => ?_)
      · have hP := e_cong hP 1 (g := fun _ => nI 20) rfl (lay_end hf (by omega))
        have hD := va_D.set (e := .inl (E.2.1, 81, .inl (fun _ => nI 20))) hD (p := 1) rfl
        have hP : va_P E.1 vwCl ([(o, .inr (5, [.int 0, .ref q_1, .ref q_2, .ref q_3, .ref q_4, .ref q_5, .ref q_6, .int 0, .ref q_7, .ref q_8, .ref q_9])), (q_1, .inl (E.2.1, 81, .inl (fun _ => nI 20))), (q_2, .inl (E.2.1, 81, .inl (fun _ => 0))), (q_3, .inl (E.2.1, 81, .inl f3)), (q_4, .inl (E.2.1, 81, .inl (fun _ => 0))), (q_5, .inl (E.2.1, 12, .inl (fun _ => 0))), (q_6, .inl (E.2.1, 12, .inl (fun _ => 0))), (q_7, .inl (E.2.1, 81, .inl (fun _ => 0))), (q_8, .inl (E.2.1, 81, .inl (fun _ => 0))), (q_9, .inl (E.2.1, 81, .inl (fun _ => 0)))]) H := hP
        have hD : va_D A ([(o, .inr (5, [.int 0, .ref q_1, .ref q_2, .ref q_3, .ref q_4, .ref q_5, .ref q_6, .int 0, .ref q_7, .ref q_8, .ref q_9])), (q_1, .inl (E.2.1, 81, .inl (fun _ => nI 20))), (q_2, .inl (E.2.1, 81, .inl (fun _ => 0))), (q_3, .inl (E.2.1, 81, .inl f3)), (q_4, .inl (E.2.1, 81, .inl (fun _ => 0))), (q_5, .inl (E.2.1, 12, .inl (fun _ => 0))), (q_6, .inl (E.2.1, 12, .inl (fun _ => 0))), (q_7, .inl (E.2.1, 81, .inl (fun _ => 0))), (q_8, .inl (E.2.1, 81, .inl (fun _ => 0))), (q_9, .inl (E.2.1, 81, .inl (fun _ => 0)))]) := hD
        have hP := e_cong hP 3 (g := fun _ => (-1)) rfl (lay_end hf3 (by omega))
        have hD := va_D.set (e := .inl (E.2.1, 81, .inl (fun _ => (-1)))) hD (p := 3) rfl
        have hP : va_P E.1 vwCl ([(o, .inr (5, [.int 0, .ref q_1, .ref q_2, .ref q_3, .ref q_4, .ref q_5, .ref q_6, .int 0, .ref q_7, .ref q_8, .ref q_9])), (q_1, .inl (E.2.1, 81, .inl (fun _ => nI 20))), (q_2, .inl (E.2.1, 81, .inl (fun _ => 0))), (q_3, .inl (E.2.1, 81, .inl (fun _ => (-1)))), (q_4, .inl (E.2.1, 81, .inl (fun _ => 0))), (q_5, .inl (E.2.1, 12, .inl (fun _ => 0))), (q_6, .inl (E.2.1, 12, .inl (fun _ => 0))), (q_7, .inl (E.2.1, 81, .inl (fun _ => 0))), (q_8, .inl (E.2.1, 81, .inl (fun _ => 0))), (q_9, .inl (E.2.1, 81, .inl (fun _ => 0)))]) H := hP
        have hD : va_D A ([(o, .inr (5, [.int 0, .ref q_1, .ref q_2, .ref q_3, .ref q_4, .ref q_5, .ref q_6, .int 0, .ref q_7, .ref q_8, .ref q_9])), (q_1, .inl (E.2.1, 81, .inl (fun _ => nI 20))), (q_2, .inl (E.2.1, 81, .inl (fun _ => 0))), (q_3, .inl (E.2.1, 81, .inl (fun _ => (-1)))), (q_4, .inl (E.2.1, 81, .inl (fun _ => 0))), (q_5, .inl (E.2.1, 12, .inl (fun _ => 0))), (q_6, .inl (E.2.1, 12, .inl (fun _ => 0))), (q_7, .inl (E.2.1, 81, .inl (fun _ => 0))), (q_8, .inl (E.2.1, 81, .inl (fun _ => 0))), (q_9, .inl (E.2.1, 81, .inl (fun _ => 0)))]) := hD
        refine lv_iconst (v := nI 0) hx hb dX5_init_105 (by decide +kernel) ?_
        refine lv_istore_n (lv' := [(1, .int (nI 0)), (0, .ref o)]) hx hb dX5_init_106 rfl hl (by decide) rfl (fun ls hl => ?_)
        have L107 : ∀ (fuel : Nat) (y : Nat) (f5 : Nat → Int32) (hy : y ≤ 12) (hf5 : ∀ k : Nat, f5 k = if k < y then (fun _ => nI 4) k else (fun _ => 0) k) (hfuel : 12 - y < fuel) (H : Heap) (locs : List Loc), va_P E.1 vwCl ([(o, .inr (5, [.int 0, .ref q_1, .ref q_2, .ref q_3, .ref q_4, .ref q_5, .ref q_6, .int 0, .ref q_7, .ref q_8, .ref q_9])), (q_1, .inl (E.2.1, 81, .inl (fun _ => nI 20))), (q_2, .inl (E.2.1, 81, .inl (fun _ => 0))), (q_3, .inl (E.2.1, 81, .inl (fun _ => (-1)))), (q_4, .inl (E.2.1, 81, .inl (fun _ => 0))), (q_5, .inl (E.2.1, 12, .inl f5)), (q_6, .inl (E.2.1, 12, .inl (fun _ => 0))), (q_7, .inl (E.2.1, 81, .inl (fun _ => 0))), (q_8, .inl (E.2.1, 81, .inl (fun _ => 0))), (q_9, .inl (E.2.1, 81, .inl (fun _ => 0)))]) H → va_D A ([(o, .inr (5, [.int 0, .ref q_1, .ref q_2, .ref q_3, .ref q_4, .ref q_5, .ref q_6, .int 0, .ref q_7, .ref q_8, .ref q_9])), (q_1, .inl (E.2.1, 81, .inl (fun _ => nI 20))), (q_2, .inl (E.2.1, 81, .inl (fun _ => 0))), (q_3, .inl (E.2.1, 81, .inl (fun _ => (-1)))), (q_4, .inl (E.2.1, 81, .inl (fun _ => 0))), (q_5, .inl (E.2.1, 12, .inl f5)), (q_6, .inl (E.2.1, 12, .inl (fun _ => 0))), (q_7, .inl (E.2.1, 81, .inl (fun _ => 0))), (q_8, .inl (E.2.1, 81, .inl (fun _ => 0))), (q_9, .inl (E.2.1, 81, .inl (fun _ => 0)))]) → va_S A s.heap H locs → ∀ ls : Array Slot, lv_has ls 2 [(1, .int (nI y)), (0, .ref o)] → W p l e rm_X5_init s m args below meth cd H locs 9 591 Q (F0 m 107 ls []) := by
          intro fuel
          induction fuel with
          | zero => intros; omega
          | succ fuel ihL107 =>
            intro y f5 hy hf5 hfuel H locs hP hD hS ls hl
            refine lv_iload_n hx hb dX5_init_107 rfl (lv_at hl 0 rfl) ?_
            refine lv_bipush (v := nI 12) hx hb dX5_init_108 (by decide +kernel) ?_
            refine n_icmp_ge (x := y) (y := 12) (by omega) (by omega) (tgt := 126) hx hb dX5_init_110 (by decide) (fun c110 => ?_) (fun c110 => ?_)
            · have hP := e_cong hP 5 (g := fun _ => nI 4) rfl (lay_end hf5 (by omega))
              have hD := va_D.set (e := .inl (E.2.1, 12, .inl (fun _ => nI 4))) hD (p := 5) rfl
              have hP : va_P E.1 vwCl ([(o, .inr (5, [.int 0, .ref q_1, .ref q_2, .ref q_3, .ref q_4, .ref q_5, .ref q_6, .int 0, .ref q_7, .ref q_8, .ref q_9])), (q_1, .inl (E.2.1, 81, .inl (fun _ => nI 20))), (q_2, .inl (E.2.1, 81, .inl (fun _ => 0))), (q_3, .inl (E.2.1, 81, .inl (fun _ => (-1)))), (q_4, .inl (E.2.1, 81, .inl (fun _ => 0))), (q_5, .inl (E.2.1, 12, .inl (fun _ => nI 4))), (q_6, .inl (E.2.1, 12, .inl (fun _ => 0))), (q_7, .inl (E.2.1, 81, .inl (fun _ => 0))), (q_8, .inl (E.2.1, 81, .inl (fun _ => 0))), (q_9, .inl (E.2.1, 81, .inl (fun _ => 0)))]) H := hP
              have hD : va_D A ([(o, .inr (5, [.int 0, .ref q_1, .ref q_2, .ref q_3, .ref q_4, .ref q_5, .ref q_6, .int 0, .ref q_7, .ref q_8, .ref q_9])), (q_1, .inl (E.2.1, 81, .inl (fun _ => nI 20))), (q_2, .inl (E.2.1, 81, .inl (fun _ => 0))), (q_3, .inl (E.2.1, 81, .inl (fun _ => (-1)))), (q_4, .inl (E.2.1, 81, .inl (fun _ => 0))), (q_5, .inl (E.2.1, 12, .inl (fun _ => nI 4))), (q_6, .inl (E.2.1, 12, .inl (fun _ => 0))), (q_7, .inl (E.2.1, 81, .inl (fun _ => 0))), (q_8, .inl (E.2.1, 81, .inl (fun _ => 0))), (q_9, .inl (E.2.1, 81, .inl (fun _ => 0)))]) := hD
              exact e_vret (fun k => List.getD [q_1, q_2, q_3, q_4, q_5, q_6, q_7, q_8, q_9] k 0) hQ hx hb hr hlocks hP hD hS dX5_init_126 (rfl) (Nat.le_of_ble_eq_true rfl) (Nat.le_of_ble_eq_true rfl) (trivial)
            · refine lv_aload_n hx hb dX5_init_113 rfl (lv_at hl 1 rfl) ?_
              refine va_get (D := E.1) (ci := 5) (v := .ref q_5) (C := RX5) (T := TX5) (N := 11) hx hb hts hin5 hown hK.1 hP 0 rfl rfl 5 (by decide) lk22 (fun _ h9 => h9) rfl dX5_init_114 ?_
              refine lv_iload_n hx hb dX5_init_117 rfl (lv_at hl 0 rfl) ?_
              refine lv_iconst (v := nI 4) hx hb dX5_init_118 (by decide +kernel) ?_
              refine e_iast hK hP hD hS 5 rfl y (by omega) (by decide) hx hb dX5_init_119 (fun H locs hP hD hS => ?_)
              have hP : va_P E.1 vwCl ([(o, .inr (5, [.int 0, .ref q_1, .ref q_2, .ref q_3, .ref q_4, .ref q_5, .ref q_6, .int 0, .ref q_7, .ref q_8, .ref q_9])), (q_1, .inl (E.2.1, 81, .inl (fun _ => nI 20))), (q_2, .inl (E.2.1, 81, .inl (fun _ => 0))), (q_3, .inl (E.2.1, 81, .inl (fun _ => (-1)))), (q_4, .inl (E.2.1, 81, .inl (fun _ => 0))), (q_5, .inl (E.2.1, 12, .inl (upd f5 y (nI 4)))), (q_6, .inl (E.2.1, 12, .inl (fun _ => 0))), (q_7, .inl (E.2.1, 81, .inl (fun _ => 0))), (q_8, .inl (E.2.1, 81, .inl (fun _ => 0))), (q_9, .inl (E.2.1, 81, .inl (fun _ => 0)))]) H := hP
              have hD : va_D A ([(o, .inr (5, [.int 0, .ref q_1, .ref q_2, .ref q_3, .ref q_4, .ref q_5, .ref q_6, .int 0, .ref q_7, .ref q_8, .ref q_9])), (q_1, .inl (E.2.1, 81, .inl (fun _ => nI 20))), (q_2, .inl (E.2.1, 81, .inl (fun _ => 0))), (q_3, .inl (E.2.1, 81, .inl (fun _ => (-1)))), (q_4, .inl (E.2.1, 81, .inl (fun _ => 0))), (q_5, .inl (E.2.1, 12, .inl (upd f5 y (nI 4)))), (q_6, .inl (E.2.1, 12, .inl (fun _ => 0))), (q_7, .inl (E.2.1, 81, .inl (fun _ => 0))), (q_8, .inl (E.2.1, 81, .inl (fun _ => 0))), (q_9, .inl (E.2.1, 81, .inl (fun _ => 0)))]) := hD
              refine lv_iinc (v := nI (y + 1)) (lv' := [(1, .int (nI (y + 1))), (0, .ref o)]) hx hb dX5_init_120 hl (k := 0) rfl (nI_add y 1) (by decide) rfl (fun ls hl => ?_)
              refine lv_goto (tgt := 107) hx hb dX5_init_123 (by decide) ?_
              exact ihL107 (y + 1) (upd f5 y (nI 4)) (by first | omega | assumption | rfl | (simp_all; done)) (lay_upd hf5 rfl) (by omega) _ _ hP hD hS _ (lv_sub hl [0, 1] rfl)
        exact L107 (12 - 0 + 1) 0 (fun _ => 0) (by first | omega | assumption | rfl | (simp_all; done)) (lay_0) (Nat.lt_succ_self _) _ _ hP hD hS _ (lv_sub hl [0, 1] rfl)
      · refine lv_aload_n hx hb dX5_init_84 rfl (lv_at hl 1 rfl) ?_
        refine va_get (D := E.1) (ci := 5) (v := .ref q_1) (C := RX5) (T := TX5) (N := 11) hx hb hts hin5 hown hK.1 hP 0 rfl rfl 1 (by decide) lk9 (fun _ h9 => h9) rfl dX5_init_85 ?_
        refine lv_iload_n hx hb dX5_init_88 rfl (lv_at hl 0 rfl) ?_
        refine lv_bipush (v := nI 20) hx hb dX5_init_89 (by decide +kernel) ?_
        refine e_iast hK hP hD hS 1 rfl z (by omega) (by decide) hx hb dX5_init_91 (fun H locs hP hD hS => ?_)
        have hP : va_P E.1 vwCl ([(o, .inr (5, [.int 0, .ref q_1, .ref q_2, .ref q_3, .ref q_4, .ref q_5, .ref q_6, .int 0, .ref q_7, .ref q_8, .ref q_9])), (q_1, .inl (E.2.1, 81, .inl (upd f z (nI 20)))), (q_2, .inl (E.2.1, 81, .inl (fun _ => 0))), (q_3, .inl (E.2.1, 81, .inl f3)), (q_4, .inl (E.2.1, 81, .inl (fun _ => 0))), (q_5, .inl (E.2.1, 12, .inl (fun _ => 0))), (q_6, .inl (E.2.1, 12, .inl (fun _ => 0))), (q_7, .inl (E.2.1, 81, .inl (fun _ => 0))), (q_8, .inl (E.2.1, 81, .inl (fun _ => 0))), (q_9, .inl (E.2.1, 81, .inl (fun _ => 0)))]) H := hP
        have hD : va_D A ([(o, .inr (5, [.int 0, .ref q_1, .ref q_2, .ref q_3, .ref q_4, .ref q_5, .ref q_6, .int 0, .ref q_7, .ref q_8, .ref q_9])), (q_1, .inl (E.2.1, 81, .inl (upd f z (nI 20)))), (q_2, .inl (E.2.1, 81, .inl (fun _ => 0))), (q_3, .inl (E.2.1, 81, .inl f3)), (q_4, .inl (E.2.1, 81, .inl (fun _ => 0))), (q_5, .inl (E.2.1, 12, .inl (fun _ => 0))), (q_6, .inl (E.2.1, 12, .inl (fun _ => 0))), (q_7, .inl (E.2.1, 81, .inl (fun _ => 0))), (q_8, .inl (E.2.1, 81, .inl (fun _ => 0))), (q_9, .inl (E.2.1, 81, .inl (fun _ => 0)))]) := hD
        refine lv_aload_n hx hb dX5_init_92 rfl (lv_at hl 1 rfl) ?_
        refine va_get (D := E.1) (ci := 5) (v := .ref q_3) (C := RX5) (T := TX5) (N := 11) hx hb hts hin5 hown hK.1 hP 0 rfl rfl 3 (by decide) lk16 (fun _ h9 => h9) rfl dX5_init_93 ?_
        refine lv_iload_n hx hb dX5_init_96 rfl (lv_at hl 0 rfl) ?_
        refine lv_iconst (v := (-1)) hx hb dX5_init_97 (by decide +kernel) ?_
        refine e_iast hK hP hD hS 3 rfl z (by omega) (by decide) hx hb dX5_init_98 (fun H locs hP hD hS => ?_)
        have hP : va_P E.1 vwCl ([(o, .inr (5, [.int 0, .ref q_1, .ref q_2, .ref q_3, .ref q_4, .ref q_5, .ref q_6, .int 0, .ref q_7, .ref q_8, .ref q_9])), (q_1, .inl (E.2.1, 81, .inl (upd f z (nI 20)))), (q_2, .inl (E.2.1, 81, .inl (fun _ => 0))), (q_3, .inl (E.2.1, 81, .inl (upd f3 z (-1)))), (q_4, .inl (E.2.1, 81, .inl (fun _ => 0))), (q_5, .inl (E.2.1, 12, .inl (fun _ => 0))), (q_6, .inl (E.2.1, 12, .inl (fun _ => 0))), (q_7, .inl (E.2.1, 81, .inl (fun _ => 0))), (q_8, .inl (E.2.1, 81, .inl (fun _ => 0))), (q_9, .inl (E.2.1, 81, .inl (fun _ => 0)))]) H := hP
        have hD : va_D A ([(o, .inr (5, [.int 0, .ref q_1, .ref q_2, .ref q_3, .ref q_4, .ref q_5, .ref q_6, .int 0, .ref q_7, .ref q_8, .ref q_9])), (q_1, .inl (E.2.1, 81, .inl (upd f z (nI 20)))), (q_2, .inl (E.2.1, 81, .inl (fun _ => 0))), (q_3, .inl (E.2.1, 81, .inl (upd f3 z (-1)))), (q_4, .inl (E.2.1, 81, .inl (fun _ => 0))), (q_5, .inl (E.2.1, 12, .inl (fun _ => 0))), (q_6, .inl (E.2.1, 12, .inl (fun _ => 0))), (q_7, .inl (E.2.1, 81, .inl (fun _ => 0))), (q_8, .inl (E.2.1, 81, .inl (fun _ => 0))), (q_9, .inl (E.2.1, 81, .inl (fun _ => 0)))]) := hD
        refine lv_iinc (v := nI (z + 1)) (lv' := [(1, .int (nI (z + 1))), (0, .ref o)]) hx hb dX5_init_99 hl (k := 0) rfl (nI_add z 1) (by decide) rfl (fun ls hl => ?_)
        refine lv_goto (tgt := 78) hx hb dX5_init_102 (by decide) ?_
        exact ihL78 (z + 1) (upd f z (nI 20)) (upd f3 z (-1)) (by first | omega | assumption | rfl | (simp_all; done)) (lay_upd hf rfl) (lay_upd hf3 rfl) (by omega) _ _ hP hD hS _ (lv_sub hl [0, 1] rfl)
  exact L78 (81 - 0 + 1) 0 (fun _ => 0) (fun _ => 0) (by first | omega | assumption | rfl | (simp_all; done)) (lay_0) (lay_0) (Nat.lt_succ_self _) _ _ hP hD hS _ (lv_sub hl [0, 1] rfl)
