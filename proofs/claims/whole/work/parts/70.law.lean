set_option maxHeartbeats 16000000 in
set_option maxRecDepth 100000 in
theorem law_loop {p : Program} {e : Env} {s : State} {m : MethodId} {below : List Frame} {meth : Method} {cd : Code} (l : Launch) (hlt : l.stackTraces = false) {b L : Nat} {xs : Nat → Int32} {E : eT} (C : lC p s m cd b L xs E) {Q : State → Prop} {o : Nat} {ad : Nat → Nat} {o2 : Nat} {ad2 : Nat → Nat} {oq : Nat} (hr : meth.sig.returnType = ret) (hlocks : meth.locks = false) (hQ : Q = lw_Z below #[Value.ref b] s) : ∀ (fuel z : Nat), z ≤ 513 → 513 - z < fuel → lHead p l e s m below meth cd b E Q o ad o2 ad2 oq z := by
  intro fuel
  induction fuel with
  | zero => intro z h1 h2; omega
  | succ fuel ih =>
    intro z hz9 hzf w wm st gr co hb_ mo ga ca ha_ ma sd tk op sp rc rn wa th nx lb fr lo H locs ls hw hmo hT hR hP hD hS hl
    obtain ⟨hx, hb, hml, hown, hts, hK, hX, hXs, hbl, hL⟩ := id C
    have hA : ∀ q : Nat, s.heap.size ≤ q → lA s q := fun _ h => h
    have hbA : ¬ lA s b := Nat.not_le.mpr hbl
    refine lv_iload hx hb dL_law_23 (lv_at hl 0 rfl) ?_
    refine lv_aload_n hx hb dL_law_25 rfl (lv_at hl 4 rfl) ?_
    refine va_slen hx hb hXs hbl hbA hS dL_law_26 ?_
    refine lv_iconst (v := nI 4) hx hb dL_law_27 (by decide +kernel) ?_
    refine lv_isub hx hb dL_law_28 ?_
    refine lv_icmp_gt (tgt := 1135) hx hb dL_law_29 (by decide) (fun c29 => ?_) (fun c29 => ?_)
    · refine lv_iconst (v := nI 1) hx hb dL_law_1135 (by decide +kernel) ?_
      refine W.widen (k := 601024) (n := 7293034) (by omega) (by omega) ?_
      refine va_forget (fun q hq => hS.2.2 q hq) ?_
      rw [hQ]
      exact W.base (lw_ret (d0 := s.drawn) (Drawn.sameBut.refl s.drawn lw_cs) hx hb hr hlocks dL_law_1136)
    · have hi : w + 4 ≤ L := by first | exact len_ok hL (by omega) c29 | exact len_ok2 hL (by omega) c29
      refine lv_aload_n hx hb dL_law_32 rfl (lv_at hl 4 rfl) ?_
      refine lv_iload hx hb dL_law_33 (lv_at hl 0 rfl) ?_
      refine e_sld hXs hbl hbA hS w (by omega) (by omega) (v := xs w) rfl hx hb dL_law_35 ?_
      refine lv_bipush (v := nI 31) hx hb dL_law_36 (by decide +kernel) ?_
      refine lv_iand hx hb dL_law_38 ?_
      rcases sw_split (xs w &&& nI 31) with hs0 | ⟨n9, hn9, hs0⟩
      · refine lv_tableOut (tgt := 1129) hx hb dL_law_39 hs0 (by decide) ?_
        have kk := ih (z + 1) (by omega) (by omega)
        refine lv_iinc (v := nI (w + 4)) (lv' := [(4, .int (nI (w + 4))), (3, .ref oq), (2, .ref o2), (1, .ref o), (0, .ref b)]) hx hb dL_law_1129 hl (k := 0) rfl (nI_add w 4) (by decide) rfl (fun ls hl => ?_)
        refine lv_goto (tgt := 23) hx hb dL_law_1132 (by decide) ?_
        exact W.widen (by show 40 + 3 * z ≤ 40 + 3 * (z + 1); omega) (by show 2500 + 168 * z ≤ 2500 + 168 * (z + 1); omega) (kk (w + 4) wm st gr co hb_ mo ga ca ha_ ma sd tk op sp rc rn wa th nx lb fr lo H locs ls (by omega) (by omega) hT hR hP hD hS (lv_sub hl [0, 1, 2, 3, 4] rfl))
      · refine e_top hs0 ?_
        rcases (show n9 = 0 ∨ n9 = 1 ∨ n9 = 2 ∨ n9 = 3 ∨ n9 = 4 ∨ n9 = 5 ∨ n9 = 6 ∨ n9 = 7 ∨ n9 = 8 ∨ n9 = 9 ∨ n9 = 10 ∨ n9 = 11 ∨ n9 = 12 ∨ n9 = 13 ∨ n9 = 14 ∨ n9 = 15 ∨ n9 = 16 by omega) with rfl | rfl | rfl | rfl | rfl | rfl | rfl | rfl | rfl | rfl | rfl | rfl | rfl | rfl | rfl | rfl | rfl
        · refine lv_tableIn (off := 81) (tgt := 120) hx hb dL_law_39 (by decide +kernel) (by decide +kernel) (by decide +kernel) (by decide) ?_
          exact k_case0 l hlt C z w (ih (z + 1) (by omega) (by omega)) hi wm st gr co hb_ mo ga ca ha_ ma sd tk op sp rc rn wa th nx lb fr lo H locs ls hw hmo hT hR hP hD hS hl
        · refine lv_tableIn (off := 161) (tgt := 200) hx hb dL_law_39 (by decide +kernel) (by decide +kernel) (by decide +kernel) (by decide) ?_
          exact k_case1 l hlt C z w (ih (z + 1) (by omega) (by omega)) hi wm st gr co hb_ mo ga ca ha_ ma sd tk op sp rc rn wa th nx lb fr lo H locs ls hw hmo hT hR hP hD hS hl
        · refine lv_tableIn (off := 241) (tgt := 280) hx hb dL_law_39 (by decide +kernel) (by decide +kernel) (by decide +kernel) (by decide) ?_
          exact k_case2 l hlt C z w (ih (z + 1) (by omega) (by omega)) hi wm st gr co hb_ mo ga ca ha_ ma sd tk op sp rc rn wa th nx lb fr lo H locs ls hw hmo hT hR hP hD hS hl
        · refine lv_tableIn (off := 321) (tgt := 360) hx hb dL_law_39 (by decide +kernel) (by decide +kernel) (by decide +kernel) (by decide) ?_
          exact k_case3 l hlt C z w (ih (z + 1) (by omega) (by omega)) hi wm st gr co hb_ mo ga ca ha_ ma sd tk op sp rc rn wa th nx lb fr lo H locs ls hw hmo hT hR hP hD hS hl
        · refine lv_tableIn (off := 401) (tgt := 440) hx hb dL_law_39 (by decide +kernel) (by decide +kernel) (by decide +kernel) (by decide) ?_
          exact k_case4 l hlt C z w (ih (z + 1) (by omega) (by omega)) hi wm st gr co hb_ mo ga ca ha_ ma sd tk op sp rc rn wa th nx lb fr lo H locs ls hw hmo hT hR hP hD hS hl
        · refine lv_tableIn (off := 469) (tgt := 508) hx hb dL_law_39 (by decide +kernel) (by decide +kernel) (by decide +kernel) (by decide) ?_
          exact k_case5 l hlt C z w (ih (z + 1) (by omega) (by omega)) hi wm st gr co hb_ mo ga ca ha_ ma sd tk op sp rc rn wa th nx lb fr lo H locs ls hw hmo hT hR hP hD hS hl
        · refine lv_tableIn (off := 549) (tgt := 588) hx hb dL_law_39 (by decide +kernel) (by decide +kernel) (by decide +kernel) (by decide) ?_
          exact k_case6 l hlt C z w (ih (z + 1) (by omega) (by omega)) hi wm st gr co hb_ mo ga ca ha_ ma sd tk op sp rc rn wa th nx lb fr lo H locs ls hw hmo hT hR hP hD hS hl
        · refine lv_tableIn (off := 633) (tgt := 672) hx hb dL_law_39 (by decide +kernel) (by decide +kernel) (by decide +kernel) (by decide) ?_
          exact k_case7 l hlt C z w (ih (z + 1) (by omega) (by omega)) hi wm st gr co hb_ mo ga ca ha_ ma sd tk op sp rc rn wa th nx lb fr lo H locs ls hw hmo hT hR hP hD hS hl
        · refine lv_tableIn (off := 674) (tgt := 713) hx hb dL_law_39 (by decide +kernel) (by decide +kernel) (by decide +kernel) (by decide) ?_
          exact k_case8 l hlt C z w (ih (z + 1) (by omega) (by omega)) hi wm st gr co hb_ mo ga ca ha_ ma sd tk op sp rc rn wa th nx lb fr lo H locs ls hw hmo hT hR hP hD hS hl
        · refine lv_tableIn (off := 730) (tgt := 769) hx hb dL_law_39 (by decide +kernel) (by decide +kernel) (by decide +kernel) (by decide) ?_
          exact k_case9 l hlt C z w (ih (z + 1) (by omega) (by omega)) hi wm st gr co hb_ mo ga ca ha_ ma sd tk op sp rc rn wa th nx lb fr lo H locs ls hw hmo hT hR hP hD hS hl
        · refine lv_tableIn (off := 786) (tgt := 825) hx hb dL_law_39 (by decide +kernel) (by decide +kernel) (by decide +kernel) (by decide) ?_
          exact k_case10 l hlt C z w (ih (z + 1) (by omega) (by omega)) hi wm st gr co hb_ mo ga ca ha_ ma sd tk op sp rc rn wa th nx lb fr lo H locs ls hw hmo hT hR hP hD hS hl
        · refine lv_tableIn (off := 842) (tgt := 881) hx hb dL_law_39 (by decide +kernel) (by decide +kernel) (by decide +kernel) (by decide) ?_
          exact k_case11 l hlt C z w (ih (z + 1) (by omega) (by omega)) hi wm st gr co hb_ mo ga ca ha_ ma sd tk op sp rc rn wa th nx lb fr lo H locs ls hw hmo hT hR hP hD hS hl
        · refine lv_tableIn (off := 898) (tgt := 937) hx hb dL_law_39 (by decide +kernel) (by decide +kernel) (by decide +kernel) (by decide) ?_
          exact k_case12 l hlt C z w (ih (z + 1) (by omega) (by omega)) hi wm st gr co hb_ mo ga ca ha_ ma sd tk op sp rc rn wa th nx lb fr lo H locs ls hw hmo hT hR hP hD hS hl
        · refine lv_tableIn (off := 954) (tgt := 993) hx hb dL_law_39 (by decide +kernel) (by decide +kernel) (by decide +kernel) (by decide) ?_
          exact k_case13 l hlt C z w (ih (z + 1) (by omega) (by omega)) hi wm st gr co hb_ mo ga ca ha_ ma sd tk op sp rc rn wa th nx lb fr lo H locs ls hw hmo hT hR hP hD hS hl
        · refine lv_tableIn (off := 1022) (tgt := 1061) hx hb dL_law_39 (by decide +kernel) (by decide +kernel) (by decide +kernel) (by decide) ?_
          exact k_case14 l hlt C z w (ih (z + 1) (by omega) (by omega)) hi wm st gr co hb_ mo ga ca ha_ ma sd tk op sp rc rn wa th nx lb fr lo H locs ls hw hmo hT hR hP hD hS hl
        · refine lv_tableIn (off := 1035) (tgt := 1074) hx hb dL_law_39 (by decide +kernel) (by decide +kernel) (by decide +kernel) (by decide) ?_
          exact k_case15 l hlt C z w (ih (z + 1) (by omega) (by omega)) hi wm st gr co hb_ mo ga ca ha_ ma sd tk op sp rc rn wa th nx lb fr lo H locs ls hw hmo hT hR hP hD hS hl
        · refine lv_tableIn (off := 1076) (tgt := 1115) hx hb dL_law_39 (by decide +kernel) (by decide +kernel) (by decide +kernel) (by decide) ?_
          exact k_case16 l hlt C z w (ih (z + 1) (by omega) (by omega)) hi wm st gr co hb_ mo ga ca ha_ ma sd tk op sp rc rn wa th nx lb fr lo H locs ls hw hmo hT hR hP hD hS hl
set_option maxHeartbeats 16000000 in
set_option maxRecDepth 100000 in
theorem whole_start {p : Program} {e : Env} {s : State} {m : MethodId} {below : List Frame} {meth : Method} {c : Code} (l : Launch) (hflags : l.flags = flags0) {b L : Nat} {xs : Nat → Int32} (hL : L ≤ 2048) (C0 : lw_At p s m meth c b L xs) : W p l e room_1 s m #[Value.ref b] below meth c s.heap [] 0 0 (lw_Z below #[Value.ref b] s) (entryFrame m ([Value.ref b] : List Value).toArray 9) := by
  obtain ⟨hx, hb, hr, hml, hown, hts0, hXs, hbl, hlocks, hgv⟩ := id C0
  obtain ⟨E, hK⟩ := law_K hts0
  have hX := law_X hts0 hgv
  have hts : ∀ w ∈ wsL_law, w.before #[Value.ref b] s = true := fun w h => hts0 w (wsL_law_in w h)
  have hlt : l.stackTraces = false := law_flag hflags
  have hown : s.vm.findClass RL = some m.cls := hown
  have C : lC p s m c b L xs E := ⟨hx, hb, hml, hown, hts, hK, hX, hXs, hbl, hL⟩
  have hA : ∀ q : Nat, s.heap.size ≤ q → lA s q := fun _ h => h
  have hS : va_S (lA s) s.heap s.heap [] := va_S.rf
  have hP : va_P E.1 vwCl ([]) s.heap := fun k q h => by simp at h
  have hD : va_D (lA s) ([]) := ⟨fun i j p q h => by simp at h, fun k q h => by simp at h⟩
  have hl := lv_entry ([.ref b]) (n := 9) (Nat.le_of_ble_eq_true rfl)
  rw [lg_entry_eq]
  generalize (lg_sl ([.ref b]) ++ List.replicate (9 - (lg_sl ([.ref b])).length) Slot.unset).toArray = ls at hl ⊢
  have hl : lv_has ls 9 [(0, .ref b)] := hl
  have hin5 : ∀ w ∈ u_ws RX5 TX5 11, w ∈ wsL_law := inlX5
  have hin4 : ∀ w ∈ u_ws RX4 TX4 6, w ∈ wsL_law := inlX4
  have hacl57 := hts (.classLink RL 57 RX5) (by decide +kernel)
  have hacl8 := hts (.classLink RL 8 RX4) (by decide +kernel)
  have haimX4_init := hts (.instanceMethod yX4_init) (by decide +kernel)
  have haimX5_init := hts (.instanceMethod yX5_init) (by decide +kernel)
  have hain4 := hts (.instantiable RX4 6) (by decide +kernel)
  have hain5 := hts (.instantiable RX5 11) (by decide +kernel)
  have haini4 := hts (.initialized RX4) (by decide +kernel)
  have haini5 := hts (.initialized RX5) (by decide +kernel)
  have hainiX4_init := hts (.initialized RX4) (by decide +kernel)
  have hainiX5_init := hts (.initialized RX5) (by decide +kernel)
  have halong := hts (.arrayClass .long) (by decide +kernel)
  have haml56 := hts (.methodLink RL 56 yX4_init) (by decide +kernel)
  have haml59 := hts (.methodLink RL 59 yX5_init) (by decide +kernel)
  refine va_new (ci := 4) (fs := [.null, .null, .null, .null, .null, .null]) (C := RX4) (T := TX4) (N := 6) hx hb hts hin4 tyX4 tyX4_ok hown hacl8 hain4 haini4 hK.1 hP hD hS hA rfl (fun j hj => by rcases (show j = 0 ∨ j = 1 ∨ j = 2 ∨ j = 3 ∨ j = 4 ∨ j = 5 by omega) with rfl | rfl | rfl | rfl | rfl | rfl <;> rfl) (Nat.le_of_ble_eq_true rfl) (Nat.le_of_ble_eq_true rfl) dL_law_0 (fun q_1 H hP hD hS => ?_)
  have hP : va_P E.1 vwCl ([(q_1, .inr (4, [.null, .null, .null, .null, .null, .null]))]) H := hP
  have hD : va_D (lA s) ([(q_1, .inr (4, [.null, .null, .null, .null, .null, .null]))]) := hD
  refine lv_dup hx hb dL_law_3 rfl ?_
  refine e_callI (As := []) (rest := [.ref q_1]) ⟨hx, hb, hml, hown, hts⟩ hK hP hD hS hA hl.1 (c_X4_init l E _ q_1) (cwI 0 hts gL_law_X4_init rfl rfl rfl hainiX4_init haml56 haimX4_init rfl (by decide +kernel) ⟨Nat.le_of_ble_eq_true rfl, Nat.le_of_ble_eq_true rfl⟩) [0] [] rfl rfl rfl rfl (by decide) rfl rfl (Nat.le_of_ble_eq_true rfl) dL_law_4 ⟨Nat.le_of_ble_eq_true rfl, Nat.le_of_ble_eq_true rfl⟩ (fun u_2 H locs hu_3 hsz1 hP hD hS => ?_)
  obtain ⟨ad_4, rfl⟩ : ∃ z, z = u_2 := ⟨_, rfl⟩
  have hP : va_P E.1 vwCl (wAll E q_1 ad_4 (fun _ => nI 4) (fun _ => nI 0) (fun _ => nI 20) (fun _ => nI 0) (fun _ => false) (nI 0) (fun _ => nI 20) (fun _ => nI 0) (fun _ => false) (nI 0) (fun _ => (-1)) (fun _ => nI 0) (fun _ => false) (fun _ => 0) (fun _ => 0) 0 (fun _ => nI 0)) H := hP.sub [0, 1, 2, 3, 4, 5, 6, 7, 8, 9, 10, 11, 12, 13, 14, 15, 16, 17, 18, 19] rfl
  have hD : va_D (lA s) (wAll E q_1 ad_4 (fun _ => nI 4) (fun _ => nI 0) (fun _ => nI 20) (fun _ => nI 0) (fun _ => false) (nI 0) (fun _ => nI 20) (fun _ => nI 0) (fun _ => false) (nI 0) (fun _ => (-1)) (fun _ => nI 0) (fun _ => false) (fun _ => 0) (fun _ => 0) 0 (fun _ => nI 0)) := hD.sub [0, 1, 2, 3, 4, 5, 6, 7, 8, 9, 10, 11, 12, 13, 14, 15, 16, 17, 18, 19] (by decide) rfl
  refine W.eq (g2 := F0 m 7 ls [.ref q_1]) rfl ?_
  refine lv_astore_n (lv' := [(1, .ref q_1), (0, .ref b)]) hx hb dL_law_7 rfl hl (by decide) rfl (fun ls hl => ?_)
  refine va_new (ci := 5) (fs := [.int 0, .null, .null, .null, .null, .null, .null, .int 0, .null, .null, .null]) (C := RX5) (T := TX5) (N := 11) hx hb hts hin5 tyX5 tyX5_ok hown hacl57 hain5 haini5 hK.1 hP hD hS hA rfl (fun j hj => by rcases (show j = 0 ∨ j = 1 ∨ j = 2 ∨ j = 3 ∨ j = 4 ∨ j = 5 ∨ j = 6 ∨ j = 7 ∨ j = 8 ∨ j = 9 ∨ j = 10 by omega) with rfl | rfl | rfl | rfl | rfl | rfl | rfl | rfl | rfl | rfl | rfl <;> rfl) (Nat.le_of_ble_eq_true rfl) (Nat.le_of_ble_eq_true rfl) dL_law_8 (fun q_5 H hP hD hS => ?_)
  have hP : va_P E.1 vwCl (wAll E q_1 ad_4 (fun _ => nI 4) (fun _ => nI 0) (fun _ => nI 20) (fun _ => nI 0) (fun _ => false) (nI 0) (fun _ => nI 20) (fun _ => nI 0) (fun _ => false) (nI 0) (fun _ => (-1)) (fun _ => nI 0) (fun _ => false) (fun _ => 0) (fun _ => 0) 0 (fun _ => nI 0) ++ [(q_5, .inr (5, [.int 0, .null, .null, .null, .null, .null, .null, .int 0, .null, .null, .null]))]) H := hP
  have hD : va_D (lA s) (wAll E q_1 ad_4 (fun _ => nI 4) (fun _ => nI 0) (fun _ => nI 20) (fun _ => nI 0) (fun _ => false) (nI 0) (fun _ => nI 20) (fun _ => nI 0) (fun _ => false) (nI 0) (fun _ => (-1)) (fun _ => nI 0) (fun _ => false) (fun _ => 0) (fun _ => 0) 0 (fun _ => nI 0) ++ [(q_5, .inr (5, [.int 0, .null, .null, .null, .null, .null, .null, .int 0, .null, .null, .null]))]) := hD
  refine lv_dup hx hb dL_law_11 rfl ?_
  refine e_callI (As := []) (rest := [.ref q_5]) ⟨hx, hb, hml, hown, hts⟩ hK hP hD hS hA hl.1 (c_X5_init l E _ q_5) (cwI 0 hts gL_law_X5_init rfl rfl rfl hainiX5_init haml59 haimX5_init rfl (by decide +kernel) ⟨Nat.le_of_ble_eq_true rfl, Nat.le_of_ble_eq_true rfl⟩) [20] [0, 1, 2, 3, 4, 5, 6, 7, 8, 9, 10, 11, 12, 13, 14, 15, 16, 17, 18, 19] rfl rfl rfl rfl (by decide) rfl rfl (Nat.le_of_ble_eq_true rfl) dL_law_12 ⟨Nat.le_of_ble_eq_true rfl, Nat.le_of_ble_eq_true rfl⟩ (fun u_6 H locs hu_7 hsz1 hP hD hS => ?_)
  obtain ⟨ad_8, rfl⟩ : ∃ z, z = u_6 := ⟨_, rfl⟩
  have hP : va_P E.1 vwCl (wAll E q_1 ad_4 (fun _ => nI 4) (fun _ => nI 0) (fun _ => nI 20) (fun _ => nI 0) (fun _ => false) (nI 0) (fun _ => nI 20) (fun _ => nI 0) (fun _ => false) (nI 0) (fun _ => (-1)) (fun _ => nI 0) (fun _ => false) (fun _ => 0) (fun _ => 0) 0 (fun _ => nI 0) ++ wMo E q_5 ad_8 (nI 0) (fun _ => nI 20) (fun _ => nI 0) (fun _ => (-1)) (fun _ => nI 0) (fun _ => nI 4) (fun _ => nI 0) (nI 0) (fun _ => nI 0) (fun _ => some 0) (fun _ => 0)) H := hP.sub [0, 1, 2, 3, 4, 5, 6, 7, 8, 9, 10, 11, 12, 13, 14, 15, 16, 17, 18, 19, 20, 21, 22, 23, 24, 25, 26, 27, 28, 29] rfl
  have hD : va_D (lA s) (wAll E q_1 ad_4 (fun _ => nI 4) (fun _ => nI 0) (fun _ => nI 20) (fun _ => nI 0) (fun _ => false) (nI 0) (fun _ => nI 20) (fun _ => nI 0) (fun _ => false) (nI 0) (fun _ => (-1)) (fun _ => nI 0) (fun _ => false) (fun _ => 0) (fun _ => 0) 0 (fun _ => nI 0) ++ wMo E q_5 ad_8 (nI 0) (fun _ => nI 20) (fun _ => nI 0) (fun _ => (-1)) (fun _ => nI 0) (fun _ => nI 4) (fun _ => nI 0) (nI 0) (fun _ => nI 0) (fun _ => some 0) (fun _ => 0)) := hD.sub [0, 1, 2, 3, 4, 5, 6, 7, 8, 9, 10, 11, 12, 13, 14, 15, 16, 17, 18, 19, 20, 21, 22, 23, 24, 25, 26, 27, 28, 29] (by decide) rfl
  refine W.eq (g2 := F0 m 15 ls [.ref q_5]) rfl ?_
  refine lv_astore_n (lv' := [(2, .ref q_5), (1, .ref q_1), (0, .ref b)]) hx hb dL_law_15 rfl hl (by decide) rfl (fun ls hl => ?_)
  refine lv_iconst (v := nI 1) hx hb dL_law_16 (by decide +kernel) ?_
  refine e_newL hK hP hD hS hA hx hb halong 1 (by decide) rfl (Nat.le_of_ble_eq_true rfl) (Nat.le_of_ble_eq_true rfl) dL_law_17 (fun q_9 H hP hD hS => ?_)
  have hP : va_P E.1 vwCl (wAll E q_1 ad_4 (fun _ => nI 4) (fun _ => nI 0) (fun _ => nI 20) (fun _ => nI 0) (fun _ => false) (nI 0) (fun _ => nI 20) (fun _ => nI 0) (fun _ => false) (nI 0) (fun _ => (-1)) (fun _ => nI 0) (fun _ => false) (fun _ => 0) (fun _ => 0) 0 (fun _ => nI 0) ++ wMo E q_5 ad_8 (nI 0) (fun _ => nI 20) (fun _ => nI 0) (fun _ => (-1)) (fun _ => nI 0) (fun _ => nI 4) (fun _ => nI 0) (nI 0) (fun _ => nI 0) (fun _ => some 0) (fun _ => 0) ++ [(q_9, .inl (E.2.2.2, 1, .inr (.inl (fun _ => 0))))]) H := hP
  have hD : va_D (lA s) (wAll E q_1 ad_4 (fun _ => nI 4) (fun _ => nI 0) (fun _ => nI 20) (fun _ => nI 0) (fun _ => false) (nI 0) (fun _ => nI 20) (fun _ => nI 0) (fun _ => false) (nI 0) (fun _ => (-1)) (fun _ => nI 0) (fun _ => false) (fun _ => 0) (fun _ => 0) 0 (fun _ => nI 0) ++ wMo E q_5 ad_8 (nI 0) (fun _ => nI 20) (fun _ => nI 0) (fun _ => (-1)) (fun _ => nI 0) (fun _ => nI 4) (fun _ => nI 0) (nI 0) (fun _ => nI 0) (fun _ => some 0) (fun _ => 0) ++ [(q_9, .inl (E.2.2.2, 1, .inr (.inl (fun _ => 0))))]) := hD
  refine lv_astore_n (lv' := [(3, .ref q_9), (2, .ref q_5), (1, .ref q_1), (0, .ref b)]) hx hb dL_law_19 rfl hl (by decide) rfl (fun ls hl => ?_)
  refine lv_iconst (v := nI 0) hx hb dL_law_20 (by decide +kernel) ?_
  refine lv_istore (lv' := [(4, .int (nI 0)), (3, .ref q_9), (2, .ref q_5), (1, .ref q_1), (0, .ref b)]) hx hb dL_law_21 hl (by decide) rfl (fun ls hl => ?_)
  exact W.widen (Nat.le_of_ble_eq_true rfl) (Nat.le_of_ble_eq_true rfl) (law_loop l hlt C hr hlocks rfl 600 0 (by omega) (by omega) 0 (fun _ => nI 4) (fun _ => nI 0) (fun _ => nI 20) (fun _ => nI 0) (fun _ => false) 0 (fun _ => nI 20) (fun _ => nI 0) (fun _ => false) 0 (fun _ => (-1)) (fun _ => nI 0) (fun _ => false) (fun _ => 0) (fun _ => 0) 0 (fun _ => nI 0) (nI 0) (fun _ => nI 0) (fun _ => some 0) (fun _ => 0) (fun _ => 0) H _ ls rfl (by omega) Tb_start Rg_start hP hD hS (lv_sub hl [0, 1, 2, 3, 4] rfl))
