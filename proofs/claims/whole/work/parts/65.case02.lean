set_option maxHeartbeats 16000000 in
set_option maxRecDepth 100000 in
theorem k_case2 {p : Program} {e : Env} {s : State} {m : MethodId} {below : List Frame} {meth : Method} {cd : Code} (l : Launch) (hlt : l.stackTraces = false) {b L : Nat} {xs : Nat → Int32} {E : eT} (C : lC p s m cd b L xs E) {Q : State → Prop} {o : Nat} {ad : Nat → Nat} {o2 : Nat} {ad2 : Nat → Nat} {oq : Nat} (z w : Nat) (kk : lHead p l e s m below meth cd b E Q o ad o2 ad2 oq (z + 1)) (hi : w + 4 ≤ L) (wm : Nat → Int32) (st : Nat → Int32) (gr : Nat → Int32) (co : Nat → Int32) (hb_ : Nat → Bool) (mo : Nat) (ga : Nat → Int32) (ca : Nat → Int32) (ha_ : Nat → Bool) (ma : Nat) (sd : Nat → Int32) (tk : Nat → Int32) (op : Nat → Bool) (sp : Nat → Nat) (rc : Nat → Nat) (rn : Nat) (wa : Nat → Int32) (th : Int32) (nx : Nat → Int32) (lb : Nat → Option Nat) (fr : Nat → Nat) (lo : Nat → Int64) (H : Heap) (locs : List Loc) (ls : Array Slot) (hw : w = 4 * z) (hmo : mo ≤ 120 * z) (hT : Tb wm st) (hR : Rg gr co) (hP : va_P E.1 vwCl (wAll E o ad wm st gr co hb_ (nI mo) ga ca ha_ (nI ma) sd tk op sp rc rn wa ++ wMo E o2 ad2 th gr co sd tk wm st (nI mo) nx lb fr ++ [(oq, .inl (E.2.2.2, 1, .inr (.inl lo)))]) H) (hD : va_D (lA s) (wAll E o ad wm st gr co hb_ (nI mo) ga ca ha_ (nI ma) sd tk op sp rc rn wa ++ wMo E o2 ad2 th gr co sd tk wm st (nI mo) nx lb fr ++ [(oq, .inl (E.2.2.2, 1, .inr (.inl lo)))])) (hS : va_S (lA s) s.heap H locs) (hl : lv_has ls 9 [(4, .int (nI w)), (3, .ref oq), (2, .ref o2), (1, .ref o), (0, .ref b)]) : W p l e room_1 s m #[Value.ref b] below meth cd H locs (40 + 3 * z) (2500 + 168 * z) Q (F0 m 280 ls []) := by
  obtain ⟨hx, hb, hml, hown, hts, hK, hX, hXs, hbl, hL⟩ := C
  have hA : ∀ q : Nat, s.heap.size ≤ q → lA s q := fun _ h => h
  have hbA : ¬ lA s b := Nat.not_le.mpr hbl
  have hz : z ≤ 512 := by omega
  cases hM : isInB (xs (w + 1)) (nI 0) (nI 11) with
  | false =>
    refine lv_aload_n hx hb dL_law_280 rfl (lv_at hl 3 rfl) ?_
    refine lv_aload_n hx hb dL_law_281 rfl (lv_at hl 4 rfl) ?_
    refine lv_iload hx hb dL_law_282 (lv_at hl 0 rfl) ?_
    refine lv_iconst (v := nI 1) hx hb dL_law_284 (by decide +kernel) ?_
    refine lv_iadd hx hb dL_law_285 ?_
    refine e_top (nI_add _ _) ?_
    refine e_sld hXs hbl hbA hS (w + 1) (by omega) (by omega) (v := xs (w + 1)) rfl hx hb dL_law_286 ?_
    refine lv_aload_n hx hb dL_law_287 rfl (lv_at hl 4 rfl) ?_
    refine lv_iload hx hb dL_law_288 (lv_at hl 0 rfl) ?_
    refine lv_iconst (v := nI 2) hx hb dL_law_290 (by decide +kernel) ?_
    refine lv_iadd hx hb dL_law_291 ?_
    refine e_top (nI_add _ _) ?_
    refine e_sld hXs hbl hbA hS (w + 2) (by omega) (by omega) (v := xs (w + 2)) rfl hx hb dL_law_292 ?_
    refine lv_aload_n hx hb dL_law_293 rfl (lv_at hl 4 rfl) ?_
    refine lv_iload hx hb dL_law_294 (lv_at hl 0 rfl) ?_
    refine lv_iconst (v := nI 3) hx hb dL_law_296 (by decide +kernel) ?_
    refine lv_iadd hx hb dL_law_297 ?_
    refine e_top (nI_add _ _) ?_
    refine e_sld hXs hbl hbA hS (w + 3) (by omega) (by omega) (v := xs (w + 3)) rfl hx hb dL_law_298 ?_
    refine lv_aload_n hx hb dL_law_299 rfl (lv_at hl 1 rfl) ?_
    refine e_callSHac (As := [.ref o, .int (xs (w + 1)), .int (xs (w + 2)), .int (xs (w + 3)), .ref oq]) (rest := []) ⟨hx, hb, hml, hown, hts⟩ hK hX hP hD hS hA hl.1 (c_L_setMonth_b1 l hlt E _ o ad wm st gr co hb_ mo ga ca ha_ ma sd tk op sp rc rn wa (xs (w + 1)) (xs (w + 2)) (xs (w + 3)) oq lo (hM)) (vx_cwSW 5 hts gL_law_L_setMonth rfl rfl rfl (by decide +kernel) ⟨Nat.le_of_ble_eq_true rfl, Nat.le_of_ble_eq_true rfl⟩) rfl rfl (Nat.le_of_ble_eq_true rfl) dL_law_300 ⟨by show 40 + 3 * z + 1 ≤ 601024; omega, by show 2500 + 168 * z + 6 ≤ 7293034; omega⟩ (fun u_1 H locs hu_2 hsz1 hP hD hS => ?_)
    have hP : va_P E.1 vwCl (wAll E o ad wm st gr co hb_ (nI mo) ga ca ha_ (nI ma) sd tk op sp rc rn wa ++ wMo E o2 ad2 th gr co sd tk wm st (nI mo) nx lb fr ++ [(oq, .inl (E.2.2.2, 1, .inr (.inl lo)))]) H := hP
    have hD : va_D (lA s) (wAll E o ad wm st gr co hb_ (nI mo) ga ca ha_ (nI ma) sd tk op sp rc rn wa ++ wMo E o2 ad2 th gr co sd tk wm st (nI mo) nx lb fr ++ [(oq, .inl (E.2.2.2, 1, .inr (.inl lo)))]) := hD
    refine W.eq (g2 := F0 m 303 ls [.int (nI 1)]) rfl ?_
    refine lv_istore (lv' := [(5, .int (nI 1)), (4, .int (nI w)), (3, .ref oq), (2, .ref o2), (1, .ref o), (0, .ref b)]) hx hb dL_law_303 hl (by decide) rfl (fun ls hl => ?_)
    refine lv_aload_n hx hb dL_law_305 rfl (lv_at hl 3 rfl) ?_
    refine lv_aload_n hx hb dL_law_306 rfl (lv_at hl 5 rfl) ?_
    refine lv_iload hx hb dL_law_307 (lv_at hl 1 rfl) ?_
    refine lv_iconst (v := nI 1) hx hb dL_law_309 (by decide +kernel) ?_
    refine lv_iadd hx hb dL_law_310 ?_
    refine e_top (nI_add _ _) ?_
    refine e_sld hXs hbl hbA hS (w + 1) (by omega) (by omega) (v := xs (w + 1)) rfl hx hb dL_law_311 ?_
    refine lv_aload_n hx hb dL_law_312 rfl (lv_at hl 5 rfl) ?_
    refine lv_iload hx hb dL_law_313 (lv_at hl 1 rfl) ?_
    refine lv_iconst (v := nI 2) hx hb dL_law_315 (by decide +kernel) ?_
    refine lv_iadd hx hb dL_law_316 ?_
    refine e_top (nI_add _ _) ?_
    refine e_sld hXs hbl hbA hS (w + 2) (by omega) (by omega) (v := xs (w + 2)) rfl hx hb dL_law_317 ?_
    refine lv_aload_n hx hb dL_law_318 rfl (lv_at hl 5 rfl) ?_
    refine lv_iload hx hb dL_law_319 (lv_at hl 1 rfl) ?_
    refine lv_iconst (v := nI 3) hx hb dL_law_321 (by decide +kernel) ?_
    refine lv_iadd hx hb dL_law_322 ?_
    refine e_top (nI_add _ _) ?_
    refine e_sld hXs hbl hbA hS (w + 3) (by omega) (by omega) (v := xs (w + 3)) rfl hx hb dL_law_323 ?_
    refine e_callVb (As := [.int (xs (w + 1)), .int (xs (w + 2)), .int (xs (w + 3))]) (rest := []) ⟨hx, hb, hml, hown, hts⟩ hK hP hD hS hA hl.1 (c_X5_setMonth_b1 l E _ o2 ad2 th gr co sd tk wm st mo nx lb fr (xs (w + 1)) (xs (w + 2)) (xs (w + 3)) (hM)) (cwV 3 hts gL_law_X5_setMonth rfl rfl rfl (by decide +kernel) ⟨Nat.le_of_ble_eq_true rfl, Nat.le_of_ble_eq_true rfl⟩) (ci := 5) rfl rfl rfl rfl (Nat.le_of_ble_eq_true rfl) dL_law_324 ⟨by show 40 + 3 * z + 1 + 0 ≤ 601024; omega, by show 2500 + 168 * z + 6 + 0 ≤ 7293034; omega⟩ (fun u_3 H locs hu_4 hsz1 hP hD hS => ?_)
    have hP : va_P E.1 vwCl (wAll E o ad wm st gr co hb_ (nI mo) ga ca ha_ (nI ma) sd tk op sp rc rn wa ++ wMo E o2 ad2 (nI 1) gr co sd tk wm st (nI mo) nx lb fr ++ [(oq, .inl (E.2.2.2, 1, .inr (.inl lo)))]) H := hP
    have hD : va_D (lA s) (wAll E o ad wm st gr co hb_ (nI mo) ga ca ha_ (nI ma) sd tk op sp rc rn wa ++ wMo E o2 ad2 (nI 1) gr co sd tk wm st (nI mo) nx lb fr ++ [(oq, .inl (E.2.2.2, 1, .inr (.inl lo)))]) := hD
    refine W.eq (g2 := F0 m 327 ls [.int (nI 0)]) rfl ?_
    refine lv_istore (lv' := [(6, .int (nI 0)), (5, .int (nI 1)), (4, .int (nI w)), (3, .ref oq), (2, .ref o2), (1, .ref o), (0, .ref b)]) hx hb dL_law_327 hl (by decide) rfl (fun ls hl => ?_)
    refine lv_aload_n hx hb dL_law_329 rfl (lv_at hl 4 rfl) ?_
    refine e_callVb (As := []) (rest := []) ⟨hx, hb, hml, hown, hts⟩ hK hP hD hS hA hl.1 (c_X5_thrown l E _ o2 ad2 (nI 1) gr co sd tk wm st mo nx lb fr) (cwV 0 hts gL_law_X5_thrown rfl rfl rfl (by decide +kernel) ⟨Nat.le_of_ble_eq_true rfl, Nat.le_of_ble_eq_true rfl⟩) (ci := 5) rfl rfl rfl rfl (Nat.le_of_ble_eq_true rfl) dL_law_330 ⟨by show 40 + 3 * z + 1 + 0 + 0 ≤ 601024; omega, by show 2500 + 168 * z + 6 + 0 + 0 ≤ 7293034; omega⟩ (fun u_5 H locs hu_6 hsz1 hP hD hS => ?_)
    have hP : va_P E.1 vwCl (wAll E o ad wm st gr co hb_ (nI mo) ga ca ha_ (nI ma) sd tk op sp rc rn wa ++ wMo E o2 ad2 (nI 1) gr co sd tk wm st (nI mo) nx lb fr ++ [(oq, .inl (E.2.2.2, 1, .inr (.inl lo)))]) H := hP
    have hD : va_D (lA s) (wAll E o ad wm st gr co hb_ (nI mo) ga ca ha_ (nI ma) sd tk op sp rc rn wa ++ wMo E o2 ad2 (nI 1) gr co sd tk wm st (nI mo) nx lb fr ++ [(oq, .inl (E.2.2.2, 1, .inr (.inl lo)))]) := hD
    refine W.eq (g2 := F0 m 333 ls [.int (nI 1)]) rfl ?_
    refine lv_iload hx hb dL_law_333 (lv_at hl 1 rfl) ?_
    refine n_icmp_eq (x := 1) (y := 1) (by omega) (by omega) (tgt := 340) hx hb dL_law_335 (by decide) (fun c335 => ?_) (fun c335 => absurd rfl c335)
    refine lv_iload hx hb dL_law_340 (lv_at hl 1 rfl) ?_
    refine n_if_ne (x := 1) (by omega) (tgt := 357) hx hb dL_law_342 (by decide) (fun c342 => ?_) (fun c342 => (by omega))
    refine lv_goto (tgt := 1129) hx hb dL_law_357 (by decide) ?_
    refine lv_iinc (v := nI (w + 4)) (lv' := [(4, .int (nI (w + 4))), (6, .int (nI 0)), (5, .int (nI 1)), (3, .ref oq), (2, .ref o2), (1, .ref o), (0, .ref b)]) hx hb dL_law_1129 hl (k := 2) rfl (nI_add w 4) (by decide) rfl (fun ls hl => ?_)
    refine lv_goto (tgt := 23) hx hb dL_law_1132 (by decide) ?_
    exact W.widen (by show 40 + 3 * z + 1 + 0 + 0 ≤ 40 + 3 * (z + 1); omega) (by show 2500 + 168 * z + 6 + 0 + 0 ≤ 2500 + 168 * (z + 1); omega) (kk (w + 4) wm st gr co hb_ mo ga ca ha_ ma sd tk op sp rc rn wa (nI 1) nx lb fr lo H locs ls (by omega) (by omega) hT hR hP hD hS (lv_sub hl [0, 3, 4, 5, 6] rfl))
  | true =>
    obtain ⟨M, hM1, hM2, e1⟩ := isInB_nat (by decide) hM (by decide)
    cases hv : isInB (xs (w + 2)) (nI 0) (nI 9) with
    | false =>
      refine lv_aload_n hx hb dL_law_280 rfl (lv_at hl 3 rfl) ?_
      refine lv_aload_n hx hb dL_law_281 rfl (lv_at hl 4 rfl) ?_
      refine lv_iload hx hb dL_law_282 (lv_at hl 0 rfl) ?_
      refine lv_iconst (v := nI 1) hx hb dL_law_284 (by decide +kernel) ?_
      refine lv_iadd hx hb dL_law_285 ?_
      refine e_top (nI_add _ _) ?_
      refine e_sld hXs hbl hbA hS (w + 1) (by omega) (by omega) (v := nI M) e1 hx hb dL_law_286 ?_
      refine lv_aload_n hx hb dL_law_287 rfl (lv_at hl 4 rfl) ?_
      refine lv_iload hx hb dL_law_288 (lv_at hl 0 rfl) ?_
      refine lv_iconst (v := nI 2) hx hb dL_law_290 (by decide +kernel) ?_
      refine lv_iadd hx hb dL_law_291 ?_
      refine e_top (nI_add _ _) ?_
      refine e_sld hXs hbl hbA hS (w + 2) (by omega) (by omega) (v := xs (w + 2)) rfl hx hb dL_law_292 ?_
      refine lv_aload_n hx hb dL_law_293 rfl (lv_at hl 4 rfl) ?_
      refine lv_iload hx hb dL_law_294 (lv_at hl 0 rfl) ?_
      refine lv_iconst (v := nI 3) hx hb dL_law_296 (by decide +kernel) ?_
      refine lv_iadd hx hb dL_law_297 ?_
      refine e_top (nI_add _ _) ?_
      refine e_sld hXs hbl hbA hS (w + 3) (by omega) (by omega) (v := xs (w + 3)) rfl hx hb dL_law_298 ?_
      refine lv_aload_n hx hb dL_law_299 rfl (lv_at hl 1 rfl) ?_
      refine e_callSHac (As := [.ref o, .int (nI M), .int (xs (w + 2)), .int (xs (w + 3)), .ref oq]) (rest := []) ⟨hx, hb, hml, hown, hts⟩ hK hX hP hD hS hA hl.1 (c_L_setMonth_b2 l hlt E _ o ad wm st gr co hb_ mo ga ca ha_ ma sd tk op sp rc rn wa M (xs (w + 2)) (xs (w + 3)) oq lo (by first | omega | assumption | rfl | (simp_all; done)) (by first | omega | assumption | rfl | (simp_all; done))) (vx_cwSW 5 hts gL_law_L_setMonth rfl rfl rfl (by decide +kernel) ⟨Nat.le_of_ble_eq_true rfl, Nat.le_of_ble_eq_true rfl⟩) rfl rfl (Nat.le_of_ble_eq_true rfl) dL_law_300 ⟨by show 40 + 3 * z + 1 ≤ 601024; omega, by show 2500 + 168 * z + 6 ≤ 7293034; omega⟩ (fun u_7 H locs hu_8 hsz1 hP hD hS => ?_)
      have hP : va_P E.1 vwCl (wAll E o ad wm st gr co hb_ (nI mo) ga ca ha_ (nI ma) sd tk op sp rc rn wa ++ wMo E o2 ad2 th gr co sd tk wm st (nI mo) nx lb fr ++ [(oq, .inl (E.2.2.2, 1, .inr (.inl lo)))]) H := hP
      have hD : va_D (lA s) (wAll E o ad wm st gr co hb_ (nI mo) ga ca ha_ (nI ma) sd tk op sp rc rn wa ++ wMo E o2 ad2 th gr co sd tk wm st (nI mo) nx lb fr ++ [(oq, .inl (E.2.2.2, 1, .inr (.inl lo)))]) := hD
      refine W.eq (g2 := F0 m 303 ls [.int (nI 2)]) rfl ?_
      refine lv_istore (lv' := [(5, .int (nI 2)), (4, .int (nI w)), (3, .ref oq), (2, .ref o2), (1, .ref o), (0, .ref b)]) hx hb dL_law_303 hl (by decide) rfl (fun ls hl => ?_)
      refine lv_aload_n hx hb dL_law_305 rfl (lv_at hl 3 rfl) ?_
      refine lv_aload_n hx hb dL_law_306 rfl (lv_at hl 5 rfl) ?_
      refine lv_iload hx hb dL_law_307 (lv_at hl 1 rfl) ?_
      refine lv_iconst (v := nI 1) hx hb dL_law_309 (by decide +kernel) ?_
      refine lv_iadd hx hb dL_law_310 ?_
      refine e_top (nI_add _ _) ?_
      refine e_sld hXs hbl hbA hS (w + 1) (by omega) (by omega) (v := nI M) e1 hx hb dL_law_311 ?_
      refine lv_aload_n hx hb dL_law_312 rfl (lv_at hl 5 rfl) ?_
      refine lv_iload hx hb dL_law_313 (lv_at hl 1 rfl) ?_
      refine lv_iconst (v := nI 2) hx hb dL_law_315 (by decide +kernel) ?_
      refine lv_iadd hx hb dL_law_316 ?_
      refine e_top (nI_add _ _) ?_
      refine e_sld hXs hbl hbA hS (w + 2) (by omega) (by omega) (v := xs (w + 2)) rfl hx hb dL_law_317 ?_
      refine lv_aload_n hx hb dL_law_318 rfl (lv_at hl 5 rfl) ?_
      refine lv_iload hx hb dL_law_319 (lv_at hl 1 rfl) ?_
      refine lv_iconst (v := nI 3) hx hb dL_law_321 (by decide +kernel) ?_
      refine lv_iadd hx hb dL_law_322 ?_
      refine e_top (nI_add _ _) ?_
      refine e_sld hXs hbl hbA hS (w + 3) (by omega) (by omega) (v := xs (w + 3)) rfl hx hb dL_law_323 ?_
      refine e_callVb (As := [.int (nI M), .int (xs (w + 2)), .int (xs (w + 3))]) (rest := []) ⟨hx, hb, hml, hown, hts⟩ hK hP hD hS hA hl.1 (c_X5_setMonth_b2 l E _ o2 ad2 th gr co sd tk wm st mo nx lb fr M (xs (w + 2)) (xs (w + 3)) (by first | omega | assumption | rfl | (simp_all; done)) (by first | omega | assumption | rfl | (simp_all; done))) (cwV 3 hts gL_law_X5_setMonth rfl rfl rfl (by decide +kernel) ⟨Nat.le_of_ble_eq_true rfl, Nat.le_of_ble_eq_true rfl⟩) (ci := 5) rfl rfl rfl rfl (Nat.le_of_ble_eq_true rfl) dL_law_324 ⟨by show 40 + 3 * z + 1 + 0 ≤ 601024; omega, by show 2500 + 168 * z + 6 + 0 ≤ 7293034; omega⟩ (fun u_9 H locs hu_10 hsz1 hP hD hS => ?_)
      have hP : va_P E.1 vwCl (wAll E o ad wm st gr co hb_ (nI mo) ga ca ha_ (nI ma) sd tk op sp rc rn wa ++ wMo E o2 ad2 (nI 2) gr co sd tk wm st (nI mo) nx lb fr ++ [(oq, .inl (E.2.2.2, 1, .inr (.inl lo)))]) H := hP
      have hD : va_D (lA s) (wAll E o ad wm st gr co hb_ (nI mo) ga ca ha_ (nI ma) sd tk op sp rc rn wa ++ wMo E o2 ad2 (nI 2) gr co sd tk wm st (nI mo) nx lb fr ++ [(oq, .inl (E.2.2.2, 1, .inr (.inl lo)))]) := hD
      refine W.eq (g2 := F0 m 327 ls [.int (nI 0)]) rfl ?_
      refine lv_istore (lv' := [(6, .int (nI 0)), (5, .int (nI 2)), (4, .int (nI w)), (3, .ref oq), (2, .ref o2), (1, .ref o), (0, .ref b)]) hx hb dL_law_327 hl (by decide) rfl (fun ls hl => ?_)
      refine lv_aload_n hx hb dL_law_329 rfl (lv_at hl 4 rfl) ?_
      refine e_callVb (As := []) (rest := []) ⟨hx, hb, hml, hown, hts⟩ hK hP hD hS hA hl.1 (c_X5_thrown l E _ o2 ad2 (nI 2) gr co sd tk wm st mo nx lb fr) (cwV 0 hts gL_law_X5_thrown rfl rfl rfl (by decide +kernel) ⟨Nat.le_of_ble_eq_true rfl, Nat.le_of_ble_eq_true rfl⟩) (ci := 5) rfl rfl rfl rfl (Nat.le_of_ble_eq_true rfl) dL_law_330 ⟨by show 40 + 3 * z + 1 + 0 + 0 ≤ 601024; omega, by show 2500 + 168 * z + 6 + 0 + 0 ≤ 7293034; omega⟩ (fun u_11 H locs hu_12 hsz1 hP hD hS => ?_)
      have hP : va_P E.1 vwCl (wAll E o ad wm st gr co hb_ (nI mo) ga ca ha_ (nI ma) sd tk op sp rc rn wa ++ wMo E o2 ad2 (nI 2) gr co sd tk wm st (nI mo) nx lb fr ++ [(oq, .inl (E.2.2.2, 1, .inr (.inl lo)))]) H := hP
      have hD : va_D (lA s) (wAll E o ad wm st gr co hb_ (nI mo) ga ca ha_ (nI ma) sd tk op sp rc rn wa ++ wMo E o2 ad2 (nI 2) gr co sd tk wm st (nI mo) nx lb fr ++ [(oq, .inl (E.2.2.2, 1, .inr (.inl lo)))]) := hD
      refine W.eq (g2 := F0 m 333 ls [.int (nI 2)]) rfl ?_
      refine lv_iload hx hb dL_law_333 (lv_at hl 1 rfl) ?_
      refine n_icmp_eq (x := 2) (y := 2) (by omega) (by omega) (tgt := 340) hx hb dL_law_335 (by decide) (fun c335 => ?_) (fun c335 => absurd rfl c335)
      refine lv_iload hx hb dL_law_340 (lv_at hl 1 rfl) ?_
      refine n_if_ne (x := 2) (by omega) (tgt := 357) hx hb dL_law_342 (by decide) (fun c342 => ?_) (fun c342 => (by omega))
      refine lv_goto (tgt := 1129) hx hb dL_law_357 (by decide) ?_
      refine lv_iinc (v := nI (w + 4)) (lv' := [(4, .int (nI (w + 4))), (6, .int (nI 0)), (5, .int (nI 2)), (3, .ref oq), (2, .ref o2), (1, .ref o), (0, .ref b)]) hx hb dL_law_1129 hl (k := 2) rfl (nI_add w 4) (by decide) rfl (fun ls hl => ?_)
      refine lv_goto (tgt := 23) hx hb dL_law_1132 (by decide) ?_
      exact W.widen (by show 40 + 3 * z + 1 + 0 + 0 ≤ 40 + 3 * (z + 1); omega) (by show 2500 + 168 * z + 6 + 0 + 0 ≤ 2500 + 168 * (z + 1); omega) (kk (w + 4) wm st gr co hb_ mo ga ca ha_ ma sd tk op sp rc rn wa (nI 2) nx lb fr lo H locs ls (by omega) (by omega) hT hR hP hD hS (lv_sub hl [0, 3, 4, 5, 6] rfl))
    | true =>
      cases hu : isInB (xs (w + 3)) (nI 0) (nI 9) with
      | false =>
        refine lv_aload_n hx hb dL_law_280 rfl (lv_at hl 3 rfl) ?_
        refine lv_aload_n hx hb dL_law_281 rfl (lv_at hl 4 rfl) ?_
        refine lv_iload hx hb dL_law_282 (lv_at hl 0 rfl) ?_
        refine lv_iconst (v := nI 1) hx hb dL_law_284 (by decide +kernel) ?_
        refine lv_iadd hx hb dL_law_285 ?_
        refine e_top (nI_add _ _) ?_
        refine e_sld hXs hbl hbA hS (w + 1) (by omega) (by omega) (v := nI M) e1 hx hb dL_law_286 ?_
        refine lv_aload_n hx hb dL_law_287 rfl (lv_at hl 4 rfl) ?_
        refine lv_iload hx hb dL_law_288 (lv_at hl 0 rfl) ?_
        refine lv_iconst (v := nI 2) hx hb dL_law_290 (by decide +kernel) ?_
        refine lv_iadd hx hb dL_law_291 ?_
        refine e_top (nI_add _ _) ?_
        refine e_sld hXs hbl hbA hS (w + 2) (by omega) (by omega) (v := xs (w + 2)) rfl hx hb dL_law_292 ?_
        refine lv_aload_n hx hb dL_law_293 rfl (lv_at hl 4 rfl) ?_
        refine lv_iload hx hb dL_law_294 (lv_at hl 0 rfl) ?_
        refine lv_iconst (v := nI 3) hx hb dL_law_296 (by decide +kernel) ?_
        refine lv_iadd hx hb dL_law_297 ?_
        refine e_top (nI_add _ _) ?_
        refine e_sld hXs hbl hbA hS (w + 3) (by omega) (by omega) (v := xs (w + 3)) rfl hx hb dL_law_298 ?_
        refine lv_aload_n hx hb dL_law_299 rfl (lv_at hl 1 rfl) ?_
        refine e_callSHac (As := [.ref o, .int (nI M), .int (xs (w + 2)), .int (xs (w + 3)), .ref oq]) (rest := []) ⟨hx, hb, hml, hown, hts⟩ hK hX hP hD hS hA hl.1 (c_L_setMonth_b3 l hlt E _ o ad wm st gr co hb_ mo ga ca ha_ ma sd tk op sp rc rn wa M (xs (w + 2)) (xs (w + 3)) oq lo (by first | omega | assumption | rfl | (simp_all; done)) (by first | omega | assumption | rfl | (simp_all; done)) (by first | omega | assumption | rfl | (simp_all; done))) (vx_cwSW 5 hts gL_law_L_setMonth rfl rfl rfl (by decide +kernel) ⟨Nat.le_of_ble_eq_true rfl, Nat.le_of_ble_eq_true rfl⟩) rfl rfl (Nat.le_of_ble_eq_true rfl) dL_law_300 ⟨by show 40 + 3 * z + 1 ≤ 601024; omega, by show 2500 + 168 * z + 6 ≤ 7293034; omega⟩ (fun u_13 H locs hu_14 hsz1 hP hD hS => ?_)
        have hP : va_P E.1 vwCl (wAll E o ad wm st gr co hb_ (nI mo) ga ca ha_ (nI ma) sd tk op sp rc rn wa ++ wMo E o2 ad2 th gr co sd tk wm st (nI mo) nx lb fr ++ [(oq, .inl (E.2.2.2, 1, .inr (.inl lo)))]) H := hP
        have hD : va_D (lA s) (wAll E o ad wm st gr co hb_ (nI mo) ga ca ha_ (nI ma) sd tk op sp rc rn wa ++ wMo E o2 ad2 th gr co sd tk wm st (nI mo) nx lb fr ++ [(oq, .inl (E.2.2.2, 1, .inr (.inl lo)))]) := hD
        refine W.eq (g2 := F0 m 303 ls [.int (nI 2)]) rfl ?_
        refine lv_istore (lv' := [(5, .int (nI 2)), (4, .int (nI w)), (3, .ref oq), (2, .ref o2), (1, .ref o), (0, .ref b)]) hx hb dL_law_303 hl (by decide) rfl (fun ls hl => ?_)
        refine lv_aload_n hx hb dL_law_305 rfl (lv_at hl 3 rfl) ?_
        refine lv_aload_n hx hb dL_law_306 rfl (lv_at hl 5 rfl) ?_
        refine lv_iload hx hb dL_law_307 (lv_at hl 1 rfl) ?_
        refine lv_iconst (v := nI 1) hx hb dL_law_309 (by decide +kernel) ?_
        refine lv_iadd hx hb dL_law_310 ?_
        refine e_top (nI_add _ _) ?_
        refine e_sld hXs hbl hbA hS (w + 1) (by omega) (by omega) (v := nI M) e1 hx hb dL_law_311 ?_
        refine lv_aload_n hx hb dL_law_312 rfl (lv_at hl 5 rfl) ?_
        refine lv_iload hx hb dL_law_313 (lv_at hl 1 rfl) ?_
        refine lv_iconst (v := nI 2) hx hb dL_law_315 (by decide +kernel) ?_
        refine lv_iadd hx hb dL_law_316 ?_
        refine e_top (nI_add _ _) ?_
        refine e_sld hXs hbl hbA hS (w + 2) (by omega) (by omega) (v := xs (w + 2)) rfl hx hb dL_law_317 ?_
        refine lv_aload_n hx hb dL_law_318 rfl (lv_at hl 5 rfl) ?_
        refine lv_iload hx hb dL_law_319 (lv_at hl 1 rfl) ?_
        refine lv_iconst (v := nI 3) hx hb dL_law_321 (by decide +kernel) ?_
        refine lv_iadd hx hb dL_law_322 ?_
        refine e_top (nI_add _ _) ?_
        refine e_sld hXs hbl hbA hS (w + 3) (by omega) (by omega) (v := xs (w + 3)) rfl hx hb dL_law_323 ?_
        refine e_callVb (As := [.int (nI M), .int (xs (w + 2)), .int (xs (w + 3))]) (rest := []) ⟨hx, hb, hml, hown, hts⟩ hK hP hD hS hA hl.1 (c_X5_setMonth_b3 l E _ o2 ad2 th gr co sd tk wm st mo nx lb fr M (xs (w + 2)) (xs (w + 3)) (by first | omega | assumption | rfl | (simp_all; done)) (by first | omega | assumption | rfl | (simp_all; done)) (by first | omega | assumption | rfl | (simp_all; done))) (cwV 3 hts gL_law_X5_setMonth rfl rfl rfl (by decide +kernel) ⟨Nat.le_of_ble_eq_true rfl, Nat.le_of_ble_eq_true rfl⟩) (ci := 5) rfl rfl rfl rfl (Nat.le_of_ble_eq_true rfl) dL_law_324 ⟨by show 40 + 3 * z + 1 + 0 ≤ 601024; omega, by show 2500 + 168 * z + 6 + 0 ≤ 7293034; omega⟩ (fun u_15 H locs hu_16 hsz1 hP hD hS => ?_)
        have hP : va_P E.1 vwCl (wAll E o ad wm st gr co hb_ (nI mo) ga ca ha_ (nI ma) sd tk op sp rc rn wa ++ wMo E o2 ad2 (nI 2) gr co sd tk wm st (nI mo) nx lb fr ++ [(oq, .inl (E.2.2.2, 1, .inr (.inl lo)))]) H := hP
        have hD : va_D (lA s) (wAll E o ad wm st gr co hb_ (nI mo) ga ca ha_ (nI ma) sd tk op sp rc rn wa ++ wMo E o2 ad2 (nI 2) gr co sd tk wm st (nI mo) nx lb fr ++ [(oq, .inl (E.2.2.2, 1, .inr (.inl lo)))]) := hD
        refine W.eq (g2 := F0 m 327 ls [.int (nI 0)]) rfl ?_
        refine lv_istore (lv' := [(6, .int (nI 0)), (5, .int (nI 2)), (4, .int (nI w)), (3, .ref oq), (2, .ref o2), (1, .ref o), (0, .ref b)]) hx hb dL_law_327 hl (by decide) rfl (fun ls hl => ?_)
        refine lv_aload_n hx hb dL_law_329 rfl (lv_at hl 4 rfl) ?_
        refine e_callVb (As := []) (rest := []) ⟨hx, hb, hml, hown, hts⟩ hK hP hD hS hA hl.1 (c_X5_thrown l E _ o2 ad2 (nI 2) gr co sd tk wm st mo nx lb fr) (cwV 0 hts gL_law_X5_thrown rfl rfl rfl (by decide +kernel) ⟨Nat.le_of_ble_eq_true rfl, Nat.le_of_ble_eq_true rfl⟩) (ci := 5) rfl rfl rfl rfl (Nat.le_of_ble_eq_true rfl) dL_law_330 ⟨by show 40 + 3 * z + 1 + 0 + 0 ≤ 601024; omega, by show 2500 + 168 * z + 6 + 0 + 0 ≤ 7293034; omega⟩ (fun u_17 H locs hu_18 hsz1 hP hD hS => ?_)
        have hP : va_P E.1 vwCl (wAll E o ad wm st gr co hb_ (nI mo) ga ca ha_ (nI ma) sd tk op sp rc rn wa ++ wMo E o2 ad2 (nI 2) gr co sd tk wm st (nI mo) nx lb fr ++ [(oq, .inl (E.2.2.2, 1, .inr (.inl lo)))]) H := hP
        have hD : va_D (lA s) (wAll E o ad wm st gr co hb_ (nI mo) ga ca ha_ (nI ma) sd tk op sp rc rn wa ++ wMo E o2 ad2 (nI 2) gr co sd tk wm st (nI mo) nx lb fr ++ [(oq, .inl (E.2.2.2, 1, .inr (.inl lo)))]) := hD
        refine W.eq (g2 := F0 m 333 ls [.int (nI 2)]) rfl ?_
        refine lv_iload hx hb dL_law_333 (lv_at hl 1 rfl) ?_
        refine n_icmp_eq (x := 2) (y := 2) (by omega) (by omega) (tgt := 340) hx hb dL_law_335 (by decide) (fun c335 => ?_) (fun c335 => absurd rfl c335)
        refine lv_iload hx hb dL_law_340 (lv_at hl 1 rfl) ?_
        refine n_if_ne (x := 2) (by omega) (tgt := 357) hx hb dL_law_342 (by decide) (fun c342 => ?_) (fun c342 => (by omega))
        refine lv_goto (tgt := 1129) hx hb dL_law_357 (by decide) ?_
        refine lv_iinc (v := nI (w + 4)) (lv' := [(4, .int (nI (w + 4))), (6, .int (nI 0)), (5, .int (nI 2)), (3, .ref oq), (2, .ref o2), (1, .ref o), (0, .ref b)]) hx hb dL_law_1129 hl (k := 2) rfl (nI_add w 4) (by decide) rfl (fun ls hl => ?_)
        refine lv_goto (tgt := 23) hx hb dL_law_1132 (by decide) ?_
        exact W.widen (by show 40 + 3 * z + 1 + 0 + 0 ≤ 40 + 3 * (z + 1); omega) (by show 2500 + 168 * z + 6 + 0 + 0 ≤ 2500 + 168 * (z + 1); omega) (kk (w + 4) wm st gr co hb_ mo ga ca ha_ ma sd tk op sp rc rn wa (nI 2) nx lb fr lo H locs ls (by omega) (by omega) hT hR hP hD hS (lv_sub hl [0, 3, 4, 5, 6] rfl))
      | true =>
        refine lv_aload_n hx hb dL_law_280 rfl (lv_at hl 3 rfl) ?_
        refine lv_aload_n hx hb dL_law_281 rfl (lv_at hl 4 rfl) ?_
        refine lv_iload hx hb dL_law_282 (lv_at hl 0 rfl) ?_
        refine lv_iconst (v := nI 1) hx hb dL_law_284 (by decide +kernel) ?_
        refine lv_iadd hx hb dL_law_285 ?_
        refine e_top (nI_add _ _) ?_
        refine e_sld hXs hbl hbA hS (w + 1) (by omega) (by omega) (v := nI M) e1 hx hb dL_law_286 ?_
        refine lv_aload_n hx hb dL_law_287 rfl (lv_at hl 4 rfl) ?_
        refine lv_iload hx hb dL_law_288 (lv_at hl 0 rfl) ?_
        refine lv_iconst (v := nI 2) hx hb dL_law_290 (by decide +kernel) ?_
        refine lv_iadd hx hb dL_law_291 ?_
        refine e_top (nI_add _ _) ?_
        refine e_sld hXs hbl hbA hS (w + 2) (by omega) (by omega) (v := xs (w + 2)) rfl hx hb dL_law_292 ?_
        refine lv_aload_n hx hb dL_law_293 rfl (lv_at hl 4 rfl) ?_
        refine lv_iload hx hb dL_law_294 (lv_at hl 0 rfl) ?_
        refine lv_iconst (v := nI 3) hx hb dL_law_296 (by decide +kernel) ?_
        refine lv_iadd hx hb dL_law_297 ?_
        refine e_top (nI_add _ _) ?_
        refine e_sld hXs hbl hbA hS (w + 3) (by omega) (by omega) (v := xs (w + 3)) rfl hx hb dL_law_298 ?_
        refine lv_aload_n hx hb dL_law_299 rfl (lv_at hl 1 rfl) ?_
        refine e_callSHac (As := [.ref o, .int (nI M), .int (xs (w + 2)), .int (xs (w + 3)), .ref oq]) (rest := []) ⟨hx, hb, hml, hown, hts⟩ hK hX hP hD hS hA hl.1 (c_L_setMonth l hlt E _ o ad wm st gr co hb_ mo ga ca ha_ ma sd tk op sp rc rn wa M (xs (w + 2)) (xs (w + 3)) oq lo (by first | omega | assumption | rfl | (simp_all; done)) (by first | omega | assumption | rfl | (simp_all; done)) (by first | omega | assumption | rfl | (simp_all; done))) (vx_cwSW 5 hts gL_law_L_setMonth rfl rfl rfl (by decide +kernel) ⟨Nat.le_of_ble_eq_true rfl, Nat.le_of_ble_eq_true rfl⟩) rfl rfl (Nat.le_of_ble_eq_true rfl) dL_law_300 ⟨by show 40 + 3 * z + 0 ≤ 601024; omega, by show 2500 + 168 * z + 0 ≤ 7293034; omega⟩ (fun u_19 H locs hu_20 hsz1 hP hD hS => ?_)
        have hP : va_P E.1 vwCl (wAll E o ad (upd wm M (xs (w + 2))) (upd st M (xs (w + 3))) gr co hb_ (nI mo) ga ca ha_ (nI ma) sd tk op sp rc rn wa ++ wMo E o2 ad2 th gr co sd tk wm st (nI mo) nx lb fr ++ [(oq, .inl (E.2.2.2, 1, .inr (.inl (vp_updL lo 0 ((nI 10 * wm M + st M).toInt64)))))]) H := hP
        have hD : va_D (lA s) (wAll E o ad (upd wm M (xs (w + 2))) (upd st M (xs (w + 3))) gr co hb_ (nI mo) ga ca ha_ (nI ma) sd tk op sp rc rn wa ++ wMo E o2 ad2 th gr co sd tk wm st (nI mo) nx lb fr ++ [(oq, .inl (E.2.2.2, 1, .inr (.inl (vp_updL lo 0 ((nI 10 * wm M + st M).toInt64)))))]) := hD
        refine W.eq (g2 := F0 m 303 ls [.int (nI 0)]) rfl ?_
        refine lv_istore (lv' := [(5, .int (nI 0)), (4, .int (nI w)), (3, .ref oq), (2, .ref o2), (1, .ref o), (0, .ref b)]) hx hb dL_law_303 hl (by decide) rfl (fun ls hl => ?_)
        refine lv_aload_n hx hb dL_law_305 rfl (lv_at hl 3 rfl) ?_
        refine lv_aload_n hx hb dL_law_306 rfl (lv_at hl 5 rfl) ?_
        refine lv_iload hx hb dL_law_307 (lv_at hl 1 rfl) ?_
        refine lv_iconst (v := nI 1) hx hb dL_law_309 (by decide +kernel) ?_
        refine lv_iadd hx hb dL_law_310 ?_
        refine e_top (nI_add _ _) ?_
        refine e_sld hXs hbl hbA hS (w + 1) (by omega) (by omega) (v := nI M) e1 hx hb dL_law_311 ?_
        refine lv_aload_n hx hb dL_law_312 rfl (lv_at hl 5 rfl) ?_
        refine lv_iload hx hb dL_law_313 (lv_at hl 1 rfl) ?_
        refine lv_iconst (v := nI 2) hx hb dL_law_315 (by decide +kernel) ?_
        refine lv_iadd hx hb dL_law_316 ?_
        refine e_top (nI_add _ _) ?_
        refine e_sld hXs hbl hbA hS (w + 2) (by omega) (by omega) (v := xs (w + 2)) rfl hx hb dL_law_317 ?_
        refine lv_aload_n hx hb dL_law_318 rfl (lv_at hl 5 rfl) ?_
        refine lv_iload hx hb dL_law_319 (lv_at hl 1 rfl) ?_
        refine lv_iconst (v := nI 3) hx hb dL_law_321 (by decide +kernel) ?_
        refine lv_iadd hx hb dL_law_322 ?_
        refine e_top (nI_add _ _) ?_
        refine e_sld hXs hbl hbA hS (w + 3) (by omega) (by omega) (v := xs (w + 3)) rfl hx hb dL_law_323 ?_
        refine e_callVb (As := [.int (nI M), .int (xs (w + 2)), .int (xs (w + 3))]) (rest := []) ⟨hx, hb, hml, hown, hts⟩ hK hP hD hS hA hl.1 (c_X5_setMonth l E _ o2 ad2 th gr co sd tk wm st mo nx lb fr M (xs (w + 2)) (xs (w + 3)) (by first | omega | assumption | rfl | (simp_all; done)) (by first | omega | assumption | rfl | (simp_all; done)) (by first | omega | assumption | rfl | (simp_all; done))) (cwV 3 hts gL_law_X5_setMonth rfl rfl rfl (by decide +kernel) ⟨Nat.le_of_ble_eq_true rfl, Nat.le_of_ble_eq_true rfl⟩) (ci := 5) rfl rfl rfl rfl (Nat.le_of_ble_eq_true rfl) dL_law_324 ⟨by show 40 + 3 * z + 0 + 0 ≤ 601024; omega, by show 2500 + 168 * z + 0 + 0 ≤ 7293034; omega⟩ (fun u_21 H locs hu_22 hsz1 hP hD hS => ?_)
        have hP : va_P E.1 vwCl (wAll E o ad (upd wm M (xs (w + 2))) (upd st M (xs (w + 3))) gr co hb_ (nI mo) ga ca ha_ (nI ma) sd tk op sp rc rn wa ++ wMo E o2 ad2 (nI 0) gr co sd tk (upd wm M (xs (w + 2))) (upd st M (xs (w + 3))) (nI mo) nx lb fr ++ [(oq, .inl (E.2.2.2, 1, .inr (.inl (vp_updL lo 0 ((nI 10 * wm M + st M).toInt64)))))]) H := hP
        have hD : va_D (lA s) (wAll E o ad (upd wm M (xs (w + 2))) (upd st M (xs (w + 3))) gr co hb_ (nI mo) ga ca ha_ (nI ma) sd tk op sp rc rn wa ++ wMo E o2 ad2 (nI 0) gr co sd tk (upd wm M (xs (w + 2))) (upd st M (xs (w + 3))) (nI mo) nx lb fr ++ [(oq, .inl (E.2.2.2, 1, .inr (.inl (vp_updL lo 0 ((nI 10 * wm M + st M).toInt64)))))]) := hD
        refine W.eq (g2 := F0 m 327 ls [.int (nI 10 * wm M + st M)]) rfl ?_
        refine lv_istore (lv' := [(6, .int (nI 10 * wm M + st M)), (5, .int (nI 0)), (4, .int (nI w)), (3, .ref oq), (2, .ref o2), (1, .ref o), (0, .ref b)]) hx hb dL_law_327 hl (by decide) rfl (fun ls hl => ?_)
        refine lv_aload_n hx hb dL_law_329 rfl (lv_at hl 4 rfl) ?_
        refine e_callVb (As := []) (rest := []) ⟨hx, hb, hml, hown, hts⟩ hK hP hD hS hA hl.1 (c_X5_thrown l E _ o2 ad2 (nI 0) gr co sd tk (upd wm M (xs (w + 2))) (upd st M (xs (w + 3))) mo nx lb fr) (cwV 0 hts gL_law_X5_thrown rfl rfl rfl (by decide +kernel) ⟨Nat.le_of_ble_eq_true rfl, Nat.le_of_ble_eq_true rfl⟩) (ci := 5) rfl rfl rfl rfl (Nat.le_of_ble_eq_true rfl) dL_law_330 ⟨by show 40 + 3 * z + 0 + 0 + 0 ≤ 601024; omega, by show 2500 + 168 * z + 0 + 0 + 0 ≤ 7293034; omega⟩ (fun u_23 H locs hu_24 hsz1 hP hD hS => ?_)
        have hP : va_P E.1 vwCl (wAll E o ad (upd wm M (xs (w + 2))) (upd st M (xs (w + 3))) gr co hb_ (nI mo) ga ca ha_ (nI ma) sd tk op sp rc rn wa ++ wMo E o2 ad2 (nI 0) gr co sd tk (upd wm M (xs (w + 2))) (upd st M (xs (w + 3))) (nI mo) nx lb fr ++ [(oq, .inl (E.2.2.2, 1, .inr (.inl (vp_updL lo 0 ((nI 10 * wm M + st M).toInt64)))))]) H := hP
        have hD : va_D (lA s) (wAll E o ad (upd wm M (xs (w + 2))) (upd st M (xs (w + 3))) gr co hb_ (nI mo) ga ca ha_ (nI ma) sd tk op sp rc rn wa ++ wMo E o2 ad2 (nI 0) gr co sd tk (upd wm M (xs (w + 2))) (upd st M (xs (w + 3))) (nI mo) nx lb fr ++ [(oq, .inl (E.2.2.2, 1, .inr (.inl (vp_updL lo 0 ((nI 10 * wm M + st M).toInt64)))))]) := hD
        refine W.eq (g2 := F0 m 333 ls [.int (nI 0)]) rfl ?_
        refine lv_iload hx hb dL_law_333 (lv_at hl 1 rfl) ?_
        refine n_icmp_eq (x := 0) (y := 0) (by omega) (by omega) (tgt := 340) hx hb dL_law_335 (by decide) (fun c335 => ?_) (fun c335 => absurd rfl c335)
        refine lv_iload hx hb dL_law_340 (lv_at hl 1 rfl) ?_
        refine n_if_ne (x := 0) (by omega) (tgt := 357) hx hb dL_law_342 (by decide) (fun c342 => (by omega)) (fun c342 => ?_)
        refine lv_aload_n hx hb dL_law_345 rfl (lv_at hl 3 rfl) ?_
        refine lv_iconst (v := nI 0) hx hb dL_law_346 (by decide +kernel) ?_
        refine e_lald hK hP 30 rfl 0 (by omega) (by decide) hx hb dL_law_347 ?_
        refine lv_iload hx hb dL_law_348 (lv_at hl 0 rfl) ?_
        refine lv_i2l hx hb dL_law_350 rfl ?_
        refine W.lcmp hx hb dL_law_351 ?_
        refine e_top (y := nI 0) (show lg_cmp ((vp_updL lo 0 ((nI 10 * wm M + st M).toInt64)) 0) ((nI 10 * wm M + st M).toInt64) = nI 0 from (lg_cmp_eq _ _).mpr rfl) ?_
        refine n_if_eq (x := 0) (by omega) (tgt := 357) hx hb dL_law_352 (by decide) (fun c352 => ?_) (fun c352 => (by omega))
        refine lv_goto (tgt := 1129) hx hb dL_law_357 (by decide) ?_
        refine lv_iinc (v := nI (w + 4)) (lv' := [(4, .int (nI (w + 4))), (6, .int (nI 10 * wm M + st M)), (5, .int (nI 0)), (3, .ref oq), (2, .ref o2), (1, .ref o), (0, .ref b)]) hx hb dL_law_1129 hl (k := 2) rfl (nI_add w 4) (by decide) rfl (fun ls hl => ?_)
        refine lv_goto (tgt := 23) hx hb dL_law_1132 (by decide) ?_
        exact W.widen (by show 40 + 3 * z + 0 + 0 + 0 ≤ 40 + 3 * (z + 1); omega) (by show 2500 + 168 * z + 0 + 0 + 0 ≤ 2500 + 168 * (z + 1); omega) (kk (w + 4) (upd wm M (xs (w + 2))) (upd st M (xs (w + 3))) gr co hb_ mo ga ca ha_ ma sd tk op sp rc rn wa (nI 0) nx lb fr (vp_updL lo 0 ((nI 10 * wm M + st M).toInt64)) H locs ls (by omega) (by omega) (Tb_month hT hv hu) hR hP hD hS (lv_sub hl [0, 3, 4, 5, 6] rfl))

