set_option maxHeartbeats 16000000 in
set_option maxRecDepth 100000 in
theorem k_case13 {p : Program} {e : Env} {s : State} {m : MethodId} {below : List Frame} {meth : Method} {cd : Code} (l : Launch) (hlt : l.stackTraces = false) {b L : Nat} {xs : Nat → Int32} {E : eT} (C : lC p s m cd b L xs E) {Q : State → Prop} {o : Nat} {ad : Nat → Nat} {o2 : Nat} {ad2 : Nat → Nat} {oq : Nat} (z w : Nat) (kk : lHead p l e s m below meth cd b E Q o ad o2 ad2 oq (z + 1)) (hi : w + 4 ≤ L) (wm : Nat → Int32) (st : Nat → Int32) (gr : Nat → Int32) (co : Nat → Int32) (hb_ : Nat → Bool) (mo : Nat) (ga : Nat → Int32) (ca : Nat → Int32) (ha_ : Nat → Bool) (ma : Nat) (sd : Nat → Int32) (tk : Nat → Int32) (op : Nat → Bool) (sp : Nat → Nat) (rc : Nat → Nat) (rn : Nat) (wa : Nat → Int32) (th : Int32) (nx : Nat → Int32) (lb : Nat → Option Nat) (fr : Nat → Nat) (lo : Nat → Int64) (H : Heap) (locs : List Loc) (ls : Array Slot) (hw : w = 4 * z) (hmo : mo ≤ 120 * z) (hT : Tb wm st) (hR : Rg gr co) (hP : va_P E.1 vwCl (wAll E o ad wm st gr co hb_ (nI mo) ga ca ha_ (nI ma) sd tk op sp rc rn wa ++ wMo E o2 ad2 th gr co sd tk wm st (nI mo) nx lb fr ++ [(oq, .inl (E.2.2.2, 1, .inr (.inl lo)))]) H) (hD : va_D (lA s) (wAll E o ad wm st gr co hb_ (nI mo) ga ca ha_ (nI ma) sd tk op sp rc rn wa ++ wMo E o2 ad2 th gr co sd tk wm st (nI mo) nx lb fr ++ [(oq, .inl (E.2.2.2, 1, .inr (.inl lo)))])) (hS : va_S (lA s) s.heap H locs) (hl : lv_has ls 9 [(4, .int (nI w)), (3, .ref oq), (2, .ref o2), (1, .ref o), (0, .ref b)]) : W p l e room_1 s m #[Value.ref b] below meth cd H locs (40 + 3 * z) (2500 + 168 * z) Q (F0 m 993 ls []) := by
  obtain ⟨hx, hb, hml, hown, hts, hK, hX, hXs, hbl, hL⟩ := C
  have hA : ∀ q : Nat, s.heap.size ≤ q → lA s q := fun _ h => h
  have hbA : ¬ lA s b := Nat.not_le.mpr hbl
  have hz : z ≤ 512 := by omega
  cases hv : isInB (xs (w + 1)) (nI 1) (nI 100) with
  | false =>
    refine lv_aload_n hx hb dL_law_993 rfl (lv_at hl 3 rfl) ?_
    refine lv_aload_n hx hb dL_law_994 rfl (lv_at hl 4 rfl) ?_
    refine lv_iload hx hb dL_law_995 (lv_at hl 0 rfl) ?_
    refine lv_iconst (v := nI 1) hx hb dL_law_997 (by decide +kernel) ?_
    refine lv_iadd hx hb dL_law_998 ?_
    refine e_top (nI_add _ _) ?_
    refine e_sld hXs hbl hbA hS (w + 1) (by omega) (by omega) (v := xs (w + 1)) rfl hx hb dL_law_999 ?_
    refine lv_aload_n hx hb dL_law_1000 rfl (lv_at hl 4 rfl) ?_
    refine lv_iload hx hb dL_law_1001 (lv_at hl 0 rfl) ?_
    refine lv_iconst (v := nI 2) hx hb dL_law_1003 (by decide +kernel) ?_
    refine lv_iadd hx hb dL_law_1004 ?_
    refine e_top (nI_add _ _) ?_
    refine e_sld hXs hbl hbA hS (w + 2) (by omega) (by omega) (v := xs (w + 2)) rfl hx hb dL_law_1005 ?_
    refine lv_aload_n hx hb dL_law_1006 rfl (lv_at hl 1 rfl) ?_
    refine e_callSHac (As := [.ref o, .int (xs (w + 1)), .int (xs (w + 2)), .ref oq]) (rest := []) ⟨hx, hb, hml, hown, hts⟩ hK hX hP hD hS hA hl.1 (c_L_foresee_b1 l hlt E _ o ad wm st gr co hb_ mo ga ca ha_ ma sd tk op sp rc rn wa (xs (w + 1)) (xs (w + 2)) oq lo (hv)) (vx_cwSW 4 hts gL_law_L_foresee rfl rfl rfl (by decide +kernel) ⟨Nat.le_of_ble_eq_true rfl, Nat.le_of_ble_eq_true rfl⟩) rfl rfl (Nat.le_of_ble_eq_true rfl) dL_law_1007 ⟨by show 40 + 3 * z + 1 ≤ 601024; omega, by show 2500 + 168 * z + 6 ≤ 7293034; omega⟩ (fun u_1 H locs hu_2 hsz1 hP hD hS => ?_)
    have hP : va_P E.1 vwCl (wAll E o ad wm st gr co hb_ (nI mo) ga ca ha_ (nI ma) sd tk op sp rc rn wa ++ wMo E o2 ad2 th gr co sd tk wm st (nI mo) nx lb fr ++ [(oq, .inl (E.2.2.2, 1, .inr (.inl lo)))]) H := hP
    have hD : va_D (lA s) (wAll E o ad wm st gr co hb_ (nI mo) ga ca ha_ (nI ma) sd tk op sp rc rn wa ++ wMo E o2 ad2 th gr co sd tk wm st (nI mo) nx lb fr ++ [(oq, .inl (E.2.2.2, 1, .inr (.inl lo)))]) := hD
    refine W.eq (g2 := F0 m 1010 ls [.int (nI 1)]) rfl ?_
    refine lv_istore (lv' := [(5, .int (nI 1)), (4, .int (nI w)), (3, .ref oq), (2, .ref o2), (1, .ref o), (0, .ref b)]) hx hb dL_law_1010 hl (by decide) rfl (fun ls hl => ?_)
    refine lv_aload_n hx hb dL_law_1012 rfl (lv_at hl 3 rfl) ?_
    refine lv_aload_n hx hb dL_law_1013 rfl (lv_at hl 5 rfl) ?_
    refine lv_iload hx hb dL_law_1014 (lv_at hl 1 rfl) ?_
    refine lv_iconst (v := nI 1) hx hb dL_law_1016 (by decide +kernel) ?_
    refine lv_iadd hx hb dL_law_1017 ?_
    refine e_top (nI_add _ _) ?_
    refine e_sld hXs hbl hbA hS (w + 1) (by omega) (by omega) (v := xs (w + 1)) rfl hx hb dL_law_1018 ?_
    refine lv_aload_n hx hb dL_law_1019 rfl (lv_at hl 5 rfl) ?_
    refine lv_iload hx hb dL_law_1020 (lv_at hl 1 rfl) ?_
    refine lv_iconst (v := nI 2) hx hb dL_law_1022 (by decide +kernel) ?_
    refine lv_iadd hx hb dL_law_1023 ?_
    refine e_top (nI_add _ _) ?_
    refine e_sld hXs hbl hbA hS (w + 2) (by omega) (by omega) (v := xs (w + 2)) rfl hx hb dL_law_1024 ?_
    refine e_callVb (As := [.int (xs (w + 1)), .int (xs (w + 2))]) (rest := []) ⟨hx, hb, hml, hown, hts⟩ hK hP hD hS hA hl.1 (c_X5_foresee_b1 l E _ o2 ad2 th gr co sd tk wm st mo nx lb fr (xs (w + 1)) (xs (w + 2)) (hv)) (cwV 2 hts gL_law_X5_foresee rfl rfl rfl (by decide +kernel) ⟨Nat.le_of_ble_eq_true rfl, Nat.le_of_ble_eq_true rfl⟩) (ci := 5) rfl rfl rfl rfl (Nat.le_of_ble_eq_true rfl) dL_law_1025 ⟨by show 40 + 3 * z + 1 + 0 ≤ 601024; omega, by show 2500 + 168 * z + 6 + 0 ≤ 7293034; omega⟩ (fun u_3 H locs hu_4 hsz1 hP hD hS => ?_)
    have hP : va_P E.1 vwCl (wAll E o ad wm st gr co hb_ (nI mo) ga ca ha_ (nI ma) sd tk op sp rc rn wa ++ wMo E o2 ad2 (nI 1) gr co sd tk wm st (nI mo) nx lb fr ++ [(oq, .inl (E.2.2.2, 1, .inr (.inl lo)))]) H := hP
    have hD : va_D (lA s) (wAll E o ad wm st gr co hb_ (nI mo) ga ca ha_ (nI ma) sd tk op sp rc rn wa ++ wMo E o2 ad2 (nI 1) gr co sd tk wm st (nI mo) nx lb fr ++ [(oq, .inl (E.2.2.2, 1, .inr (.inl lo)))]) := hD
    refine W.eq (g2 := F0 m 1028 ls [.int (nI 0)]) rfl ?_
    refine lv_istore (lv' := [(6, .int (nI 0)), (5, .int (nI 1)), (4, .int (nI w)), (3, .ref oq), (2, .ref o2), (1, .ref o), (0, .ref b)]) hx hb dL_law_1028 hl (by decide) rfl (fun ls hl => ?_)
    refine lv_aload_n hx hb dL_law_1030 rfl (lv_at hl 4 rfl) ?_
    refine e_callVb (As := []) (rest := []) ⟨hx, hb, hml, hown, hts⟩ hK hP hD hS hA hl.1 (c_X5_thrown l E _ o2 ad2 (nI 1) gr co sd tk wm st mo nx lb fr) (cwV 0 hts gL_law_X5_thrown rfl rfl rfl (by decide +kernel) ⟨Nat.le_of_ble_eq_true rfl, Nat.le_of_ble_eq_true rfl⟩) (ci := 5) rfl rfl rfl rfl (Nat.le_of_ble_eq_true rfl) dL_law_1031 ⟨by show 40 + 3 * z + 1 + 0 + 0 ≤ 601024; omega, by show 2500 + 168 * z + 6 + 0 + 0 ≤ 7293034; omega⟩ (fun u_5 H locs hu_6 hsz1 hP hD hS => ?_)
    have hP : va_P E.1 vwCl (wAll E o ad wm st gr co hb_ (nI mo) ga ca ha_ (nI ma) sd tk op sp rc rn wa ++ wMo E o2 ad2 (nI 1) gr co sd tk wm st (nI mo) nx lb fr ++ [(oq, .inl (E.2.2.2, 1, .inr (.inl lo)))]) H := hP
    have hD : va_D (lA s) (wAll E o ad wm st gr co hb_ (nI mo) ga ca ha_ (nI ma) sd tk op sp rc rn wa ++ wMo E o2 ad2 (nI 1) gr co sd tk wm st (nI mo) nx lb fr ++ [(oq, .inl (E.2.2.2, 1, .inr (.inl lo)))]) := hD
    refine W.eq (g2 := F0 m 1034 ls [.int (nI 1)]) rfl ?_
    refine lv_iload hx hb dL_law_1034 (lv_at hl 1 rfl) ?_
    refine n_icmp_eq (x := 1) (y := 1) (by omega) (by omega) (tgt := 1041) hx hb dL_law_1036 (by decide) (fun c1036 => ?_) (fun c1036 => absurd rfl c1036)
    refine lv_iload hx hb dL_law_1041 (lv_at hl 1 rfl) ?_
    refine n_if_ne (x := 1) (by omega) (tgt := 1058) hx hb dL_law_1043 (by decide) (fun c1043 => ?_) (fun c1043 => (by omega))
    refine lv_goto (tgt := 1129) hx hb dL_law_1058 (by decide) ?_
    refine lv_iinc (v := nI (w + 4)) (lv' := [(4, .int (nI (w + 4))), (6, .int (nI 0)), (5, .int (nI 1)), (3, .ref oq), (2, .ref o2), (1, .ref o), (0, .ref b)]) hx hb dL_law_1129 hl (k := 2) rfl (nI_add w 4) (by decide) rfl (fun ls hl => ?_)
    refine lv_goto (tgt := 23) hx hb dL_law_1132 (by decide) ?_
    exact W.widen (by show 40 + 3 * z + 1 + 0 + 0 ≤ 40 + 3 * (z + 1); omega) (by show 2500 + 168 * z + 6 + 0 + 0 ≤ 2500 + 168 * (z + 1); omega) (kk (w + 4) wm st gr co hb_ mo ga ca ha_ ma sd tk op sp rc rn wa (nI 1) nx lb fr lo H locs ls (by omega) (by omega) hT hR hP hD hS (lv_sub hl [0, 3, 4, 5, 6] rfl))
  | true =>
    obtain ⟨k, hv1, hv2, e1⟩ := isInB_nat (by decide) hv (by decide)
    cases hu : isInB (xs (w + 2)) (nI 0) (nI 2) with
    | false =>
      refine lv_aload_n hx hb dL_law_993 rfl (lv_at hl 3 rfl) ?_
      refine lv_aload_n hx hb dL_law_994 rfl (lv_at hl 4 rfl) ?_
      refine lv_iload hx hb dL_law_995 (lv_at hl 0 rfl) ?_
      refine lv_iconst (v := nI 1) hx hb dL_law_997 (by decide +kernel) ?_
      refine lv_iadd hx hb dL_law_998 ?_
      refine e_top (nI_add _ _) ?_
      refine e_sld hXs hbl hbA hS (w + 1) (by omega) (by omega) (v := nI k) e1 hx hb dL_law_999 ?_
      refine lv_aload_n hx hb dL_law_1000 rfl (lv_at hl 4 rfl) ?_
      refine lv_iload hx hb dL_law_1001 (lv_at hl 0 rfl) ?_
      refine lv_iconst (v := nI 2) hx hb dL_law_1003 (by decide +kernel) ?_
      refine lv_iadd hx hb dL_law_1004 ?_
      refine e_top (nI_add _ _) ?_
      refine e_sld hXs hbl hbA hS (w + 2) (by omega) (by omega) (v := xs (w + 2)) rfl hx hb dL_law_1005 ?_
      refine lv_aload_n hx hb dL_law_1006 rfl (lv_at hl 1 rfl) ?_
      refine e_callSHac (As := [.ref o, .int (nI k), .int (xs (w + 2)), .ref oq]) (rest := []) ⟨hx, hb, hml, hown, hts⟩ hK hX hP hD hS hA hl.1 (c_L_foresee_b2 l hlt E _ o ad wm st gr co hb_ mo ga ca ha_ ma sd tk op sp rc rn wa k (xs (w + 2)) oq lo (by first | omega | assumption | rfl | (simp_all; done)) (by first | omega | assumption | rfl | (simp_all; done)) (hu)) (vx_cwSW 4 hts gL_law_L_foresee rfl rfl rfl (by decide +kernel) ⟨Nat.le_of_ble_eq_true rfl, Nat.le_of_ble_eq_true rfl⟩) rfl rfl (Nat.le_of_ble_eq_true rfl) dL_law_1007 ⟨by show 40 + 3 * z + 1 ≤ 601024; omega, by show 2500 + 168 * z + 6 ≤ 7293034; omega⟩ (fun u_7 H locs hu_8 hsz1 hP hD hS => ?_)
      have hP : va_P E.1 vwCl (wAll E o ad wm st gr co hb_ (nI mo) ga ca ha_ (nI ma) sd tk op sp rc rn wa ++ wMo E o2 ad2 th gr co sd tk wm st (nI mo) nx lb fr ++ [(oq, .inl (E.2.2.2, 1, .inr (.inl lo)))]) H := hP
      have hD : va_D (lA s) (wAll E o ad wm st gr co hb_ (nI mo) ga ca ha_ (nI ma) sd tk op sp rc rn wa ++ wMo E o2 ad2 th gr co sd tk wm st (nI mo) nx lb fr ++ [(oq, .inl (E.2.2.2, 1, .inr (.inl lo)))]) := hD
      refine W.eq (g2 := F0 m 1010 ls [.int (nI 2)]) rfl ?_
      refine lv_istore (lv' := [(5, .int (nI 2)), (4, .int (nI w)), (3, .ref oq), (2, .ref o2), (1, .ref o), (0, .ref b)]) hx hb dL_law_1010 hl (by decide) rfl (fun ls hl => ?_)
      refine lv_aload_n hx hb dL_law_1012 rfl (lv_at hl 3 rfl) ?_
      refine lv_aload_n hx hb dL_law_1013 rfl (lv_at hl 5 rfl) ?_
      refine lv_iload hx hb dL_law_1014 (lv_at hl 1 rfl) ?_
      refine lv_iconst (v := nI 1) hx hb dL_law_1016 (by decide +kernel) ?_
      refine lv_iadd hx hb dL_law_1017 ?_
      refine e_top (nI_add _ _) ?_
      refine e_sld hXs hbl hbA hS (w + 1) (by omega) (by omega) (v := nI k) e1 hx hb dL_law_1018 ?_
      refine lv_aload_n hx hb dL_law_1019 rfl (lv_at hl 5 rfl) ?_
      refine lv_iload hx hb dL_law_1020 (lv_at hl 1 rfl) ?_
      refine lv_iconst (v := nI 2) hx hb dL_law_1022 (by decide +kernel) ?_
      refine lv_iadd hx hb dL_law_1023 ?_
      refine e_top (nI_add _ _) ?_
      refine e_sld hXs hbl hbA hS (w + 2) (by omega) (by omega) (v := xs (w + 2)) rfl hx hb dL_law_1024 ?_
      refine e_callVb (As := [.int (nI k), .int (xs (w + 2))]) (rest := []) ⟨hx, hb, hml, hown, hts⟩ hK hP hD hS hA hl.1 (c_X5_foresee_b2 l E _ o2 ad2 th gr co sd tk wm st mo nx lb fr k (xs (w + 2)) (by first | omega | assumption | rfl | (simp_all; done)) (by first | omega | assumption | rfl | (simp_all; done)) (hu)) (cwV 2 hts gL_law_X5_foresee rfl rfl rfl (by decide +kernel) ⟨Nat.le_of_ble_eq_true rfl, Nat.le_of_ble_eq_true rfl⟩) (ci := 5) rfl rfl rfl rfl (Nat.le_of_ble_eq_true rfl) dL_law_1025 ⟨by show 40 + 3 * z + 1 + 0 ≤ 601024; omega, by show 2500 + 168 * z + 6 + 0 ≤ 7293034; omega⟩ (fun u_9 H locs hu_10 hsz1 hP hD hS => ?_)
      have hP : va_P E.1 vwCl (wAll E o ad wm st gr co hb_ (nI mo) ga ca ha_ (nI ma) sd tk op sp rc rn wa ++ wMo E o2 ad2 (nI 2) gr co sd tk wm st (nI mo) nx lb fr ++ [(oq, .inl (E.2.2.2, 1, .inr (.inl lo)))]) H := hP
      have hD : va_D (lA s) (wAll E o ad wm st gr co hb_ (nI mo) ga ca ha_ (nI ma) sd tk op sp rc rn wa ++ wMo E o2 ad2 (nI 2) gr co sd tk wm st (nI mo) nx lb fr ++ [(oq, .inl (E.2.2.2, 1, .inr (.inl lo)))]) := hD
      refine W.eq (g2 := F0 m 1028 ls [.int (nI 0)]) rfl ?_
      refine lv_istore (lv' := [(6, .int (nI 0)), (5, .int (nI 2)), (4, .int (nI w)), (3, .ref oq), (2, .ref o2), (1, .ref o), (0, .ref b)]) hx hb dL_law_1028 hl (by decide) rfl (fun ls hl => ?_)
      refine lv_aload_n hx hb dL_law_1030 rfl (lv_at hl 4 rfl) ?_
      refine e_callVb (As := []) (rest := []) ⟨hx, hb, hml, hown, hts⟩ hK hP hD hS hA hl.1 (c_X5_thrown l E _ o2 ad2 (nI 2) gr co sd tk wm st mo nx lb fr) (cwV 0 hts gL_law_X5_thrown rfl rfl rfl (by decide +kernel) ⟨Nat.le_of_ble_eq_true rfl, Nat.le_of_ble_eq_true rfl⟩) (ci := 5) rfl rfl rfl rfl (Nat.le_of_ble_eq_true rfl) dL_law_1031 ⟨by show 40 + 3 * z + 1 + 0 + 0 ≤ 601024; omega, by show 2500 + 168 * z + 6 + 0 + 0 ≤ 7293034; omega⟩ (fun u_11 H locs hu_12 hsz1 hP hD hS => ?_)
      have hP : va_P E.1 vwCl (wAll E o ad wm st gr co hb_ (nI mo) ga ca ha_ (nI ma) sd tk op sp rc rn wa ++ wMo E o2 ad2 (nI 2) gr co sd tk wm st (nI mo) nx lb fr ++ [(oq, .inl (E.2.2.2, 1, .inr (.inl lo)))]) H := hP
      have hD : va_D (lA s) (wAll E o ad wm st gr co hb_ (nI mo) ga ca ha_ (nI ma) sd tk op sp rc rn wa ++ wMo E o2 ad2 (nI 2) gr co sd tk wm st (nI mo) nx lb fr ++ [(oq, .inl (E.2.2.2, 1, .inr (.inl lo)))]) := hD
      refine W.eq (g2 := F0 m 1034 ls [.int (nI 2)]) rfl ?_
      refine lv_iload hx hb dL_law_1034 (lv_at hl 1 rfl) ?_
      refine n_icmp_eq (x := 2) (y := 2) (by omega) (by omega) (tgt := 1041) hx hb dL_law_1036 (by decide) (fun c1036 => ?_) (fun c1036 => absurd rfl c1036)
      refine lv_iload hx hb dL_law_1041 (lv_at hl 1 rfl) ?_
      refine n_if_ne (x := 2) (by omega) (tgt := 1058) hx hb dL_law_1043 (by decide) (fun c1043 => ?_) (fun c1043 => (by omega))
      refine lv_goto (tgt := 1129) hx hb dL_law_1058 (by decide) ?_
      refine lv_iinc (v := nI (w + 4)) (lv' := [(4, .int (nI (w + 4))), (6, .int (nI 0)), (5, .int (nI 2)), (3, .ref oq), (2, .ref o2), (1, .ref o), (0, .ref b)]) hx hb dL_law_1129 hl (k := 2) rfl (nI_add w 4) (by decide) rfl (fun ls hl => ?_)
      refine lv_goto (tgt := 23) hx hb dL_law_1132 (by decide) ?_
      exact W.widen (by show 40 + 3 * z + 1 + 0 + 0 ≤ 40 + 3 * (z + 1); omega) (by show 2500 + 168 * z + 6 + 0 + 0 ≤ 2500 + 168 * (z + 1); omega) (kk (w + 4) wm st gr co hb_ mo ga ca ha_ ma sd tk op sp rc rn wa (nI 2) nx lb fr lo H locs ls (by omega) (by omega) hT hR hP hD hS (lv_sub hl [0, 3, 4, 5, 6] rfl))
    | true =>
      obtain ⟨q, hu1, hu2, e2⟩ := isInB_nat (by decide) hu (by decide)
      refine lv_aload_n hx hb dL_law_993 rfl (lv_at hl 3 rfl) ?_
      refine lv_aload_n hx hb dL_law_994 rfl (lv_at hl 4 rfl) ?_
      refine lv_iload hx hb dL_law_995 (lv_at hl 0 rfl) ?_
      refine lv_iconst (v := nI 1) hx hb dL_law_997 (by decide +kernel) ?_
      refine lv_iadd hx hb dL_law_998 ?_
      refine e_top (nI_add _ _) ?_
      refine e_sld hXs hbl hbA hS (w + 1) (by omega) (by omega) (v := nI k) e1 hx hb dL_law_999 ?_
      refine lv_aload_n hx hb dL_law_1000 rfl (lv_at hl 4 rfl) ?_
      refine lv_iload hx hb dL_law_1001 (lv_at hl 0 rfl) ?_
      refine lv_iconst (v := nI 2) hx hb dL_law_1003 (by decide +kernel) ?_
      refine lv_iadd hx hb dL_law_1004 ?_
      refine e_top (nI_add _ _) ?_
      refine e_sld hXs hbl hbA hS (w + 2) (by omega) (by omega) (v := nI q) e2 hx hb dL_law_1005 ?_
      refine lv_aload_n hx hb dL_law_1006 rfl (lv_at hl 1 rfl) ?_
      refine e_callSHac (As := [.ref o, .int (nI k), .int (nI q), .ref oq]) (rest := []) ⟨hx, hb, hml, hown, hts⟩ hK hX hP hD hS hA hl.1 (c_L_foresee l hlt E _ o ad wm st gr co hb_ mo ga ca ha_ ma sd tk op sp rc rn wa k q oq lo (by first | omega | assumption | rfl | (simp_all; done)) (by first | omega | assumption | rfl | (simp_all; done)) (by first | omega | assumption | rfl | (simp_all; done)) (by first | omega | assumption | rfl | (simp_all; done))) (vx_cwSW 4 hts gL_law_L_foresee rfl rfl rfl (by decide +kernel) ⟨Nat.le_of_ble_eq_true rfl, Nat.le_of_ble_eq_true rfl⟩) rfl rfl (Nat.le_of_ble_eq_true rfl) dL_law_1007 ⟨by show 40 + 3 * z + 0 ≤ 601024; omega, by show 2500 + 168 * z + 0 ≤ 7293034; omega⟩ (fun u_13 H locs hu_14 hsz1 hP hD hS => ?_)
      obtain ⟨ga__15, ca__16, ha1__17, ma__18, op__19, sp__20, rc__21, rn__22, wa__23⟩ := u_13
      have hP : va_P E.1 vwCl (wAll E o ad wm st gr co hb_ (nI mo) ga__15 ca__16 ha1__17 (nI ma__18) sd tk op__19 sp__20 rc__21 rn__22 wa__23 ++ wMo E o2 ad2 th gr co sd tk wm st (nI mo) nx lb fr ++ [(oq, .inl (E.2.2.2, 1, .inr (.inl (vp_updL lo 0 ((forA (months wm st (gr, co) mo k).1 (months wm st (gr, co) mo k).2 q).toInt64)))))]) H := hP
      have hD : va_D (lA s) (wAll E o ad wm st gr co hb_ (nI mo) ga__15 ca__16 ha1__17 (nI ma__18) sd tk op__19 sp__20 rc__21 rn__22 wa__23 ++ wMo E o2 ad2 th gr co sd tk wm st (nI mo) nx lb fr ++ [(oq, .inl (E.2.2.2, 1, .inr (.inl (vp_updL lo 0 ((forA (months wm st (gr, co) mo k).1 (months wm st (gr, co) mo k).2 q).toInt64)))))]) := hD
      refine W.eq (g2 := F0 m 1010 ls [.int (nI 0)]) rfl ?_
      refine lv_istore (lv' := [(5, .int (nI 0)), (4, .int (nI w)), (3, .ref oq), (2, .ref o2), (1, .ref o), (0, .ref b)]) hx hb dL_law_1010 hl (by decide) rfl (fun ls hl => ?_)
      refine lv_aload_n hx hb dL_law_1012 rfl (lv_at hl 3 rfl) ?_
      refine lv_aload_n hx hb dL_law_1013 rfl (lv_at hl 5 rfl) ?_
      refine lv_iload hx hb dL_law_1014 (lv_at hl 1 rfl) ?_
      refine lv_iconst (v := nI 1) hx hb dL_law_1016 (by decide +kernel) ?_
      refine lv_iadd hx hb dL_law_1017 ?_
      refine e_top (nI_add _ _) ?_
      refine e_sld hXs hbl hbA hS (w + 1) (by omega) (by omega) (v := nI k) e1 hx hb dL_law_1018 ?_
      refine lv_aload_n hx hb dL_law_1019 rfl (lv_at hl 5 rfl) ?_
      refine lv_iload hx hb dL_law_1020 (lv_at hl 1 rfl) ?_
      refine lv_iconst (v := nI 2) hx hb dL_law_1022 (by decide +kernel) ?_
      refine lv_iadd hx hb dL_law_1023 ?_
      refine e_top (nI_add _ _) ?_
      refine e_sld hXs hbl hbA hS (w + 2) (by omega) (by omega) (v := nI q) e2 hx hb dL_law_1024 ?_
      refine e_callVb (As := [.int (nI k), .int (nI q)]) (rest := []) ⟨hx, hb, hml, hown, hts⟩ hK hP hD hS hA hl.1 (c_X5_foresee l E _ o2 ad2 th gr co sd tk wm st mo nx lb fr k q (by first | omega | assumption | rfl | (simp_all; done)) (by first | omega | assumption | rfl | (simp_all; done)) (by first | omega | assumption | rfl | (simp_all; done)) (by first | omega | assumption | rfl | (simp_all; done)) (by first | omega | assumption | rfl | (simp_all; done)) (by first | omega | assumption | rfl | (simp_all; done))) (cwV 2 hts gL_law_X5_foresee rfl rfl rfl (by decide +kernel) ⟨Nat.le_of_ble_eq_true rfl, Nat.le_of_ble_eq_true rfl⟩) (ci := 5) rfl rfl rfl rfl (Nat.le_of_ble_eq_true rfl) dL_law_1025 ⟨by show 40 + 3 * z + 0 + 2 ≤ 601024; omega, by show 2500 + 168 * z + 0 + 162 ≤ 7293034; omega⟩ (fun u_24 H locs hu_25 hsz1 hP hD hS => ?_)
      obtain ⟨nx__26, lb__27, fr__28⟩ := u_24
      have hP : va_P E.1 vwCl (wAll E o ad wm st gr co hb_ (nI mo) ga__15 ca__16 ha1__17 (nI ma__18) sd tk op__19 sp__20 rc__21 rn__22 wa__23 ++ wMo E o2 ad2 (nI 0) gr co sd tk wm st (nI mo) nx__26 lb__27 fr__28 ++ [(oq, .inl (E.2.2.2, 1, .inr (.inl (vp_updL lo 0 ((forA (months wm st (gr, co) mo k).1 (months wm st (gr, co) mo k).2 q).toInt64)))))]) H := hP
      have hD : va_D (lA s) (wAll E o ad wm st gr co hb_ (nI mo) ga__15 ca__16 ha1__17 (nI ma__18) sd tk op__19 sp__20 rc__21 rn__22 wa__23 ++ wMo E o2 ad2 (nI 0) gr co sd tk wm st (nI mo) nx__26 lb__27 fr__28 ++ [(oq, .inl (E.2.2.2, 1, .inr (.inl (vp_updL lo 0 ((forA (months wm st (gr, co) mo k).1 (months wm st (gr, co) mo k).2 q).toInt64)))))]) := hD
      refine W.eq (g2 := F0 m 1028 ls [.int (forA (months wm st (gr, co) mo k).1 (months wm st (gr, co) mo k).2 q)]) rfl ?_
      refine lv_istore (lv' := [(6, .int (forA (months wm st (gr, co) mo k).1 (months wm st (gr, co) mo k).2 q)), (5, .int (nI 0)), (4, .int (nI w)), (3, .ref oq), (2, .ref o2), (1, .ref o), (0, .ref b)]) hx hb dL_law_1028 hl (by decide) rfl (fun ls hl => ?_)
      refine lv_aload_n hx hb dL_law_1030 rfl (lv_at hl 4 rfl) ?_
      refine e_callVb (As := []) (rest := []) ⟨hx, hb, hml, hown, hts⟩ hK hP hD hS hA hl.1 (c_X5_thrown l E _ o2 ad2 (nI 0) gr co sd tk wm st mo nx__26 lb__27 fr__28) (cwV 0 hts gL_law_X5_thrown rfl rfl rfl (by decide +kernel) ⟨Nat.le_of_ble_eq_true rfl, Nat.le_of_ble_eq_true rfl⟩) (ci := 5) rfl rfl rfl rfl (Nat.le_of_ble_eq_true rfl) dL_law_1031 ⟨by show 40 + 3 * z + 0 + 2 + 0 ≤ 601024; omega, by show 2500 + 168 * z + 0 + 162 + 0 ≤ 7293034; omega⟩ (fun u_29 H locs hu_30 hsz1 hP hD hS => ?_)
      have hP : va_P E.1 vwCl (wAll E o ad wm st gr co hb_ (nI mo) ga__15 ca__16 ha1__17 (nI ma__18) sd tk op__19 sp__20 rc__21 rn__22 wa__23 ++ wMo E o2 ad2 (nI 0) gr co sd tk wm st (nI mo) nx__26 lb__27 fr__28 ++ [(oq, .inl (E.2.2.2, 1, .inr (.inl (vp_updL lo 0 ((forA (months wm st (gr, co) mo k).1 (months wm st (gr, co) mo k).2 q).toInt64)))))]) H := hP
      have hD : va_D (lA s) (wAll E o ad wm st gr co hb_ (nI mo) ga__15 ca__16 ha1__17 (nI ma__18) sd tk op__19 sp__20 rc__21 rn__22 wa__23 ++ wMo E o2 ad2 (nI 0) gr co sd tk wm st (nI mo) nx__26 lb__27 fr__28 ++ [(oq, .inl (E.2.2.2, 1, .inr (.inl (vp_updL lo 0 ((forA (months wm st (gr, co) mo k).1 (months wm st (gr, co) mo k).2 q).toInt64)))))]) := hD
      refine W.eq (g2 := F0 m 1034 ls [.int (nI 0)]) rfl ?_
      refine lv_iload hx hb dL_law_1034 (lv_at hl 1 rfl) ?_
      refine n_icmp_eq (x := 0) (y := 0) (by omega) (by omega) (tgt := 1041) hx hb dL_law_1036 (by decide) (fun c1036 => ?_) (fun c1036 => absurd rfl c1036)
      refine lv_iload hx hb dL_law_1041 (lv_at hl 1 rfl) ?_
      refine n_if_ne (x := 0) (by omega) (tgt := 1058) hx hb dL_law_1043 (by decide) (fun c1043 => (by omega)) (fun c1043 => ?_)
      refine lv_aload_n hx hb dL_law_1046 rfl (lv_at hl 3 rfl) ?_
      refine lv_iconst (v := nI 0) hx hb dL_law_1047 (by decide +kernel) ?_
      refine e_lald hK hP 30 rfl 0 (by omega) (by decide) hx hb dL_law_1048 ?_
      refine lv_iload hx hb dL_law_1049 (lv_at hl 0 rfl) ?_
      refine lv_i2l hx hb dL_law_1051 rfl ?_
      refine W.lcmp hx hb dL_law_1052 ?_
      refine e_top (y := nI 0) (show lg_cmp ((vp_updL lo 0 ((forA (months wm st (gr, co) mo k).1 (months wm st (gr, co) mo k).2 q).toInt64)) 0) ((forA (months wm st (gr, co) mo k).1 (months wm st (gr, co) mo k).2 q).toInt64) = nI 0 from (lg_cmp_eq _ _).mpr rfl) ?_
      refine n_if_eq (x := 0) (by omega) (tgt := 1058) hx hb dL_law_1053 (by decide) (fun c1053 => ?_) (fun c1053 => (by omega))
      refine lv_goto (tgt := 1129) hx hb dL_law_1058 (by decide) ?_
      refine lv_iinc (v := nI (w + 4)) (lv' := [(4, .int (nI (w + 4))), (6, .int (forA (months wm st (gr, co) mo k).1 (months wm st (gr, co) mo k).2 q)), (5, .int (nI 0)), (3, .ref oq), (2, .ref o2), (1, .ref o), (0, .ref b)]) hx hb dL_law_1129 hl (k := 2) rfl (nI_add w 4) (by decide) rfl (fun ls hl => ?_)
      refine lv_goto (tgt := 23) hx hb dL_law_1132 (by decide) ?_
      exact W.widen (by show 40 + 3 * z + 0 + 2 + 0 ≤ 40 + 3 * (z + 1); omega) (by show 2500 + 168 * z + 0 + 162 + 0 ≤ 2500 + 168 * (z + 1); omega) (kk (w + 4) wm st gr co hb_ mo ga__15 ca__16 ha1__17 ma__18 sd tk op__19 sp__20 rc__21 rn__22 wa__23 (nI 0) nx__26 lb__27 fr__28 (vp_updL lo 0 ((forA (months wm st (gr, co) mo k).1 (months wm st (gr, co) mo k).2 q).toInt64)) H locs ls (by omega) (by omega) hT hR hP hD hS (lv_sub hl [0, 3, 4, 5, 6] rfl))

