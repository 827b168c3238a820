set_option maxHeartbeats 16000000 in
set_option maxRecDepth 100000 in
theorem k_case6 {p : Program} {e : Env} {s : State} {m : MethodId} {below : List Frame} {meth : Method} {cd : Code} (l : Launch) (hlt : l.stackTraces = false) {b L : Nat} {xs : Nat → Int32} {E : eT} (C : lC p s m cd b L xs E) {Q : State → Prop} {o : Nat} {ad : Nat → Nat} {o2 : Nat} {ad2 : Nat → Nat} {oq : Nat} (z w : Nat) (kk : lHead p l e s m below meth cd b E Q o ad o2 ad2 oq (z + 1)) (hi : w + 4 ≤ L) (wm : Nat → Int32) (st : Nat → Int32) (gr : Nat → Int32) (co : Nat → Int32) (hb_ : Nat → Bool) (mo : Nat) (ga : Nat → Int32) (ca : Nat → Int32) (ha_ : Nat → Bool) (ma : Nat) (sd : Nat → Int32) (tk : Nat → Int32) (op : Nat → Bool) (sp : Nat → Nat) (rc : Nat → Nat) (rn : Nat) (wa : Nat → Int32) (th : Int32) (nx : Nat → Int32) (lb : Nat → Option Nat) (fr : Nat → Nat) (lo : Nat → Int64) (H : Heap) (locs : List Loc) (ls : Array Slot) (hw : w = 4 * z) (hmo : mo ≤ 120 * z) (hT : Tb wm st) (hR : Rg gr co) (hP : va_P E.1 vwCl (wAll E o ad wm st gr co hb_ (nI mo) ga ca ha_ (nI ma) sd tk op sp rc rn wa ++ wMo E o2 ad2 th gr co sd tk wm st (nI mo) nx lb fr ++ [(oq, .inl (E.2.2.2, 1, .inr (.inl lo)))]) H) (hD : va_D (lA s) (wAll E o ad wm st gr co hb_ (nI mo) ga ca ha_ (nI ma) sd tk op sp rc rn wa ++ wMo E o2 ad2 th gr co sd tk wm st (nI mo) nx lb fr ++ [(oq, .inl (E.2.2.2, 1, .inr (.inl lo)))])) (hS : va_S (lA s) s.heap H locs) (hl : lv_has ls 9 [(4, .int (nI w)), (3, .ref oq), (2, .ref o2), (1, .ref o), (0, .ref b)]) : W p l e room_1 s m #[Value.ref b] below meth cd H locs (40 + 3 * z) (2500 + 168 * z) Q (F0 m 588 ls []) := by
  obtain ⟨hx, hb, hml, hown, hts, hK, hX, hXs, hbl, hL⟩ := C
  have hA : ∀ q : Nat, s.heap.size ≤ q → lA s q := fun _ h => h
  have hbA : ¬ lA s b := Nat.not_le.mpr hbl
  have hz : z ≤ 512 := by omega
  cases hdr : isInB (xs (w + 1)) (nI 0) (nI 39) with
  | false =>
    by_cases hz0 : xs (w + 2) = 0
    · refine lv_aload_n hx hb dL_law_588 rfl (lv_at hl 3 rfl) ?_
      refine lv_aload_n hx hb dL_law_589 rfl (lv_at hl 4 rfl) ?_
      refine lv_iload hx hb dL_law_590 (lv_at hl 0 rfl) ?_
      refine lv_iconst (v := nI 1) hx hb dL_law_592 (by decide +kernel) ?_
      refine lv_iadd hx hb dL_law_593 ?_
      refine e_top (nI_add _ _) ?_
      refine e_sld hXs hbl hbA hS (w + 1) (by omega) (by omega) (v := xs (w + 1)) rfl hx hb dL_law_594 ?_
      refine lv_aload_n hx hb dL_law_595 rfl (lv_at hl 4 rfl) ?_
      refine lv_iload hx hb dL_law_596 (lv_at hl 0 rfl) ?_
      refine lv_iconst (v := nI 2) hx hb dL_law_598 (by decide +kernel) ?_
      refine lv_iadd hx hb dL_law_599 ?_
      refine e_top (nI_add _ _) ?_
      refine e_sld hXs hbl hbA hS (w + 2) (by omega) (by omega) (v := xs (w + 2)) rfl hx hb dL_law_600 ?_
      refine lv_if_eq (tgt := 608) hx hb dL_law_601 (by decide) (fun c601 => ?_) (fun c601 => absurd hz0 c601)
      refine lv_iconst (v := nI 0) hx hb dL_law_608 (by decide +kernel) ?_
      refine lv_aload_n hx hb dL_law_609 rfl (lv_at hl 1 rfl) ?_
      refine e_callSHac (As := [.ref o, .int (xs (w + 1)), .int (nI 0), .ref oq]) (rest := []) ⟨hx, hb, hml, hown, hts⟩ hK hX hP hD hS hA hl.1 (c_L_way_b1 l hlt E _ o ad wm st gr co hb_ mo ga ca ha_ ma sd tk op sp rc rn wa (xs (w + 1)) false oq lo (by first | omega | assumption | rfl | (simp_all; done))) (vx_cwSW 4 hts gL_law_L_way rfl rfl rfl (by decide +kernel) ⟨Nat.le_of_ble_eq_true rfl, Nat.le_of_ble_eq_true rfl⟩) rfl rfl (Nat.le_of_ble_eq_true rfl) dL_law_610 ⟨by show 40 + 3 * z + 1 ≤ 601024; omega, by show 2500 + 168 * z + 6 ≤ 7293034; omega⟩ (fun u_1 H locs hu_2 hsz1 hP hD hS => ?_)
      have hP : va_P E.1 vwCl (wAll E o ad wm st gr co hb_ (nI mo) ga ca ha_ (nI ma) sd tk op sp rc rn wa ++ wMo E o2 ad2 th gr co sd tk wm st (nI mo) nx lb fr ++ [(oq, .inl (E.2.2.2, 1, .inr (.inl lo)))]) H := hP
      have hD : va_D (lA s) (wAll E o ad wm st gr co hb_ (nI mo) ga ca ha_ (nI ma) sd tk op sp rc rn wa ++ wMo E o2 ad2 th gr co sd tk wm st (nI mo) nx lb fr ++ [(oq, .inl (E.2.2.2, 1, .inr (.inl lo)))]) := hD
      refine W.eq (g2 := F0 m 613 ls [.int (nI 1)]) rfl ?_
      refine lv_istore (lv' := [(5, .int (nI 1)), (4, .int (nI w)), (3, .ref oq), (2, .ref o2), (1, .ref o), (0, .ref b)]) hx hb dL_law_613 hl (by decide) rfl (fun ls hl => ?_)
      refine lv_aload_n hx hb dL_law_615 rfl (lv_at hl 3 rfl) ?_
      refine lv_aload_n hx hb dL_law_616 rfl (lv_at hl 5 rfl) ?_
      refine lv_iload hx hb dL_law_617 (lv_at hl 1 rfl) ?_
      refine lv_iconst (v := nI 1) hx hb dL_law_619 (by decide +kernel) ?_
      refine lv_iadd hx hb dL_law_620 ?_
      refine e_top (nI_add _ _) ?_
      refine e_sld hXs hbl hbA hS (w + 1) (by omega) (by omega) (v := xs (w + 1)) rfl hx hb dL_law_621 ?_
      refine lv_aload_n hx hb dL_law_622 rfl (lv_at hl 5 rfl) ?_
      refine lv_iload hx hb dL_law_623 (lv_at hl 1 rfl) ?_
      refine lv_iconst (v := nI 2) hx hb dL_law_625 (by decide +kernel) ?_
      refine lv_iadd hx hb dL_law_626 ?_
      refine e_top (nI_add _ _) ?_
      refine e_sld hXs hbl hbA hS (w + 2) (by omega) (by omega) (v := xs (w + 2)) rfl hx hb dL_law_627 ?_
      refine lv_if_eq (tgt := 635) hx hb dL_law_628 (by decide) (fun c628 => ?_) (fun c628 => absurd hz0 c628)
      refine lv_iconst (v := nI 0) hx hb dL_law_635 (by decide +kernel) ?_
      refine e_callVb (As := [.int (xs (w + 1)), .int (nI 0)]) (rest := []) ⟨hx, hb, hml, hown, hts⟩ hK hP hD hS hA hl.1 (c_X5_way_b1 l E _ o2 ad2 th gr co sd tk wm st mo nx lb fr (xs (w + 1)) false (by first | omega | assumption | rfl | (simp_all; done))) (cwV 2 hts gL_law_X5_way rfl rfl rfl (by decide +kernel) ⟨Nat.le_of_ble_eq_true rfl, Nat.le_of_ble_eq_true rfl⟩) (ci := 5) rfl rfl rfl rfl (Nat.le_of_ble_eq_true rfl) dL_law_636 ⟨by show 40 + 3 * z + 1 + 0 ≤ 601024; omega, by show 2500 + 168 * z + 6 + 0 ≤ 7293034; omega⟩ (fun u_3 H locs hu_4 hsz1 hP hD hS => ?_)
      have hP : va_P E.1 vwCl (wAll E o ad wm st gr co hb_ (nI mo) ga ca ha_ (nI ma) sd tk op sp rc rn wa ++ wMo E o2 ad2 (nI 1) gr co sd tk wm st (nI mo) nx lb fr ++ [(oq, .inl (E.2.2.2, 1, .inr (.inl lo)))]) H := hP
      have hD : va_D (lA s) (wAll E o ad wm st gr co hb_ (nI mo) ga ca ha_ (nI ma) sd tk op sp rc rn wa ++ wMo E o2 ad2 (nI 1) gr co sd tk wm st (nI mo) nx lb fr ++ [(oq, .inl (E.2.2.2, 1, .inr (.inl lo)))]) := hD
      refine W.eq (g2 := F0 m 639 ls [.int (nI 0)]) rfl ?_
      refine lv_istore (lv' := [(6, .int (nI 0)), (5, .int (nI 1)), (4, .int (nI w)), (3, .ref oq), (2, .ref o2), (1, .ref o), (0, .ref b)]) hx hb dL_law_639 hl (by decide) rfl (fun ls hl => ?_)
      refine lv_aload_n hx hb dL_law_641 rfl (lv_at hl 4 rfl) ?_
      refine e_callVb (As := []) (rest := []) ⟨hx, hb, hml, hown, hts⟩ hK hP hD hS hA hl.1 (c_X5_thrown l E _ o2 ad2 (nI 1) gr co sd tk wm st mo nx lb fr) (cwV 0 hts gL_law_X5_thrown rfl rfl rfl (by decide +kernel) ⟨Nat.le_of_ble_eq_true rfl, Nat.le_of_ble_eq_true rfl⟩) (ci := 5) rfl rfl rfl rfl (Nat.le_of_ble_eq_true rfl) dL_law_642 ⟨by show 40 + 3 * z + 1 + 0 + 0 ≤ 601024; omega, by show 2500 + 168 * z + 6 + 0 + 0 ≤ 7293034; omega⟩ (fun u_5 H locs hu_6 hsz1 hP hD hS => ?_)
      have hP : va_P E.1 vwCl (wAll E o ad wm st gr co hb_ (nI mo) ga ca ha_ (nI ma) sd tk op sp rc rn wa ++ wMo E o2 ad2 (nI 1) gr co sd tk wm st (nI mo) nx lb fr ++ [(oq, .inl (E.2.2.2, 1, .inr (.inl lo)))]) H := hP
      have hD : va_D (lA s) (wAll E o ad wm st gr co hb_ (nI mo) ga ca ha_ (nI ma) sd tk op sp rc rn wa ++ wMo E o2 ad2 (nI 1) gr co sd tk wm st (nI mo) nx lb fr ++ [(oq, .inl (E.2.2.2, 1, .inr (.inl lo)))]) := hD
      refine W.eq (g2 := F0 m 645 ls [.int (nI 1)]) rfl ?_
      refine lv_iload hx hb dL_law_645 (lv_at hl 1 rfl) ?_
      refine n_icmp_eq (x := 1) (y := 1) (by omega) (by omega) (tgt := 652) hx hb dL_law_647 (by decide) (fun c647 => ?_) (fun c647 => absurd rfl c647)
      refine lv_iload hx hb dL_law_652 (lv_at hl 1 rfl) ?_
      refine n_if_ne (x := 1) (by omega) (tgt := 669) hx hb dL_law_654 (by decide) (fun c654 => ?_) (fun c654 => (by omega))
      refine lv_goto (tgt := 1129) hx hb dL_law_669 (by decide) ?_
      refine lv_iinc (v := nI (w + 4)) (lv' := [(4, .int (nI (w + 4))), (6, .int (nI 0)), (5, .int (nI 1)), (3, .ref oq), (2, .ref o2), (1, .ref o), (0, .ref b)]) hx hb dL_law_1129 hl (k := 2) rfl (nI_add w 4) (by decide) rfl (fun ls hl => ?_)
      refine lv_goto (tgt := 23) hx hb dL_law_1132 (by decide) ?_
      exact W.widen (by show 40 + 3 * z + 1 + 0 + 0 ≤ 40 + 3 * (z + 1); omega) (by show 2500 + 168 * z + 6 + 0 + 0 ≤ 2500 + 168 * (z + 1); omega) (kk (w + 4) wm st gr co hb_ mo ga ca ha_ ma sd tk op sp rc rn wa (nI 1) nx lb fr lo H locs ls (by omega) (by omega) hT hR hP hD hS (lv_sub hl [0, 3, 4, 5, 6] rfl))
    · refine lv_aload_n hx hb dL_law_588 rfl (lv_at hl 3 rfl) ?_
      refine lv_aload_n hx hb dL_law_589 rfl (lv_at hl 4 rfl) ?_
      refine lv_iload hx hb dL_law_590 (lv_at hl 0 rfl) ?_
      refine lv_iconst (v := nI 1) hx hb dL_law_592 (by decide +kernel) ?_
      refine lv_iadd hx hb dL_law_593 ?_
      refine e_top (nI_add _ _) ?_
      refine e_sld hXs hbl hbA hS (w + 1) (by omega) (by omega) (v := xs (w + 1)) rfl hx hb dL_law_594 ?_
      refine lv_aload_n hx hb dL_law_595 rfl (lv_at hl 4 rfl) ?_
      refine lv_iload hx hb dL_law_596 (lv_at hl 0 rfl) ?_
      refine lv_iconst (v := nI 2) hx hb dL_law_598 (by decide +kernel) ?_
      refine lv_iadd hx hb dL_law_599 ?_
      refine e_top (nI_add _ _) ?_
      refine e_sld hXs hbl hbA hS (w + 2) (by omega) (by omega) (v := xs (w + 2)) rfl hx hb dL_law_600 ?_
      refine lv_if_eq (tgt := 608) hx hb dL_law_601 (by decide) (fun c601 => absurd c601 hz0) (fun c601 => ?_)
      refine lv_iconst (v := nI 1) hx hb dL_law_604 (by decide +kernel) ?_
      refine lv_goto (tgt := 609) hx hb dL_law_605 (by decide) ?_
      refine lv_aload_n hx hb dL_law_609 rfl (lv_at hl 1 rfl) ?_
      refine e_callSHac (As := [.ref o, .int (xs (w + 1)), .int (nI 1), .ref oq]) (rest := []) ⟨hx, hb, hml, hown, hts⟩ hK hX hP hD hS hA hl.1 (c_L_way_b1 l hlt E _ o ad wm st gr co hb_ mo ga ca ha_ ma sd tk op sp rc rn wa (xs (w + 1)) true oq lo (by first | omega | assumption | rfl | (simp_all; done))) (vx_cwSW 4 hts gL_law_L_way rfl rfl rfl (by decide +kernel) ⟨Nat.le_of_ble_eq_true rfl, Nat.le_of_ble_eq_true rfl⟩) rfl rfl (Nat.le_of_ble_eq_true rfl) dL_law_610 ⟨by show 40 + 3 * z + 1 ≤ 601024; omega, by show 2500 + 168 * z + 6 ≤ 7293034; omega⟩ (fun u_7 H locs hu_8 hsz1 hP hD hS => ?_)
      have hP : va_P E.1 vwCl (wAll E o ad wm st gr co hb_ (nI mo) ga ca ha_ (nI ma) sd tk op sp rc rn wa ++ wMo E o2 ad2 th gr co sd tk wm st (nI mo) nx lb fr ++ [(oq, .inl (E.2.2.2, 1, .inr (.inl lo)))]) H := hP
      have hD : va_D (lA s) (wAll E o ad wm st gr co hb_ (nI mo) ga ca ha_ (nI ma) sd tk op sp rc rn wa ++ wMo E o2 ad2 th gr co sd tk wm st (nI mo) nx lb fr ++ [(oq, .inl (E.2.2.2, 1, .inr (.inl lo)))]) := hD
      refine W.eq (g2 := F0 m 613 ls [.int (nI 1)]) rfl ?_
      refine lv_istore (lv' := [(5, .int (nI 1)), (4, .int (nI w)), (3, .ref oq), (2, .ref o2), (1, .ref o), (0, .ref b)]) hx hb dL_law_613 hl (by decide) rfl (fun ls hl => ?_)
      refine lv_aload_n hx hb dL_law_615 rfl (lv_at hl 3 rfl) ?_
      refine lv_aload_n hx hb dL_law_616 rfl (lv_at hl 5 rfl) ?_
      refine lv_iload hx hb dL_law_617 (lv_at hl 1 rfl) ?_
      refine lv_iconst (v := nI 1) hx hb dL_law_619 (by decide +kernel) ?_
      refine lv_iadd hx hb dL_law_620 ?_
      refine e_top (nI_add _ _) ?_
      refine e_sld hXs hbl hbA hS (w + 1) (by omega) (by omega) (v := xs (w + 1)) rfl hx hb dL_law_621 ?_
      refine lv_aload_n hx hb dL_law_622 rfl (lv_at hl 5 rfl) ?_
      refine lv_iload hx hb dL_law_623 (lv_at hl 1 rfl) ?_
      refine lv_iconst (v := nI 2) hx hb dL_law_625 (by decide +kernel) ?_
      refine lv_iadd hx hb dL_law_626 ?_
      refine e_top (nI_add _ _) ?_
      refine e_sld hXs hbl hbA hS (w + 2) (by omega) (by omega) (v := xs (w + 2)) rfl hx hb dL_law_627 ?_
      refine lv_if_eq (tgt := 635) hx hb dL_law_628 (by decide) (fun c628 => absurd c628 hz0) (fun c628 => ?_)
      refine lv_iconst (v := nI 1) hx hb dL_law_631 (by decide +kernel) ?_
      refine lv_goto (tgt := 636) hx hb dL_law_632 (by decide) ?_
      refine e_callVb (As := [.int (xs (w + 1)), .int (nI 1)]) (rest := []) ⟨hx, hb, hml, hown, hts⟩ hK hP hD hS hA hl.1 (c_X5_way_b1 l E _ o2 ad2 th gr co sd tk wm st mo nx lb fr (xs (w + 1)) true (by first | omega | assumption | rfl | (simp_all; done))) (cwV 2 hts gL_law_X5_way rfl rfl rfl (by decide +kernel) ⟨Nat.le_of_ble_eq_true rfl, Nat.le_of_ble_eq_true rfl⟩) (ci := 5) rfl rfl rfl rfl (Nat.le_of_ble_eq_true rfl) dL_law_636 ⟨by show 40 + 3 * z + 1 + 0 ≤ 601024; omega, by show 2500 + 168 * z + 6 + 0 ≤ 7293034; omega⟩ (fun u_9 H locs hu_10 hsz1 hP hD hS => ?_)
      have hP : va_P E.1 vwCl (wAll E o ad wm st gr co hb_ (nI mo) ga ca ha_ (nI ma) sd tk op sp rc rn wa ++ wMo E o2 ad2 (nI 1) gr co sd tk wm st (nI mo) nx lb fr ++ [(oq, .inl (E.2.2.2, 1, .inr (.inl lo)))]) H := hP
      have hD : va_D (lA s) (wAll E o ad wm st gr co hb_ (nI mo) ga ca ha_ (nI ma) sd tk op sp rc rn wa ++ wMo E o2 ad2 (nI 1) gr co sd tk wm st (nI mo) nx lb fr ++ [(oq, .inl (E.2.2.2, 1, .inr (.inl lo)))]) := hD
      refine W.eq (g2 := F0 m 639 ls [.int (nI 0)]) rfl ?_
      refine lv_istore (lv' := [(6, .int (nI 0)), (5, .int (nI 1)), (4, .int (nI w)), (3, .ref oq), (2, .ref o2), (1, .ref o), (0, .ref b)]) hx hb dL_law_639 hl (by decide) rfl (fun ls hl => ?_)
      refine lv_aload_n hx hb dL_law_641 rfl (lv_at hl 4 rfl) ?_
      refine e_callVb (As := []) (rest := []) ⟨hx, hb, hml, hown, hts⟩ hK hP hD hS hA hl.1 (c_X5_thrown l E _ o2 ad2 (nI 1) gr co sd tk wm st mo nx lb fr) (cwV 0 hts gL_law_X5_thrown rfl rfl rfl (by decide +kernel) ⟨Nat.le_of_ble_eq_true rfl, Nat.le_of_ble_eq_true rfl⟩) (ci := 5) rfl rfl rfl rfl (Nat.le_of_ble_eq_true rfl) dL_law_642 ⟨by show 40 + 3 * z + 1 + 0 + 0 ≤ 601024; omega, by show 2500 + 168 * z + 6 + 0 + 0 ≤ 7293034; omega⟩ (fun u_11 H locs hu_12 hsz1 hP hD hS => ?_)
      have hP : va_P E.1 vwCl (wAll E o ad wm st gr co hb_ (nI mo) ga ca ha_ (nI ma) sd tk op sp rc rn wa ++ wMo E o2 ad2 (nI 1) gr co sd tk wm st (nI mo) nx lb fr ++ [(oq, .inl (E.2.2.2, 1, .inr (.inl lo)))]) H := hP
      have hD : va_D (lA s) (wAll E o ad wm st gr co hb_ (nI mo) ga ca ha_ (nI ma) sd tk op sp rc rn wa ++ wMo E o2 ad2 (nI 1) gr co sd tk wm st (nI mo) nx lb fr ++ [(oq, .inl (E.2.2.2, 1, .inr (.inl lo)))]) := hD
      refine W.eq (g2 := F0 m 645 ls [.int (nI 1)]) rfl ?_
      refine lv_iload hx hb dL_law_645 (lv_at hl 1 rfl) ?_
      refine n_icmp_eq (x := 1) (y := 1) (by omega) (by omega) (tgt := 652) hx hb dL_law_647 (by decide) (fun c647 => ?_) (fun c647 => absurd rfl c647)
      refine lv_iload hx hb dL_law_652 (lv_at hl 1 rfl) ?_
      refine n_if_ne (x := 1) (by omega) (tgt := 669) hx hb dL_law_654 (by decide) (fun c654 => ?_) (fun c654 => (by omega))
      refine lv_goto (tgt := 1129) hx hb dL_law_669 (by decide) ?_
      refine lv_iinc (v := nI (w + 4)) (lv' := [(4, .int (nI (w + 4))), (6, .int (nI 0)), (5, .int (nI 1)), (3, .ref oq), (2, .ref o2), (1, .ref o), (0, .ref b)]) hx hb dL_law_1129 hl (k := 2) rfl (nI_add w 4) (by decide) rfl (fun ls hl => ?_)
      refine lv_goto (tgt := 23) hx hb dL_law_1132 (by decide) ?_
      exact W.widen (by show 40 + 3 * z + 1 + 0 + 0 ≤ 40 + 3 * (z + 1); omega) (by show 2500 + 168 * z + 6 + 0 + 0 ≤ 2500 + 168 * (z + 1); omega) (kk (w + 4) wm st gr co hb_ mo ga ca ha_ ma sd tk op sp rc rn wa (nI 1) nx lb fr lo H locs ls (by omega) (by omega) hT hR hP hD hS (lv_sub hl [0, 3, 4, 5, 6] rfl))
  | true =>
    by_cases hz0 : xs (w + 2) = 0
    · refine lv_aload_n hx hb dL_law_588 rfl (lv_at hl 3 rfl) ?_
      refine lv_aload_n hx hb dL_law_589 rfl (lv_at hl 4 rfl) ?_
      refine lv_iload hx hb dL_law_590 (lv_at hl 0 rfl) ?_
      refine lv_iconst (v := nI 1) hx hb dL_law_592 (by decide +kernel) ?_
      refine lv_iadd hx hb dL_law_593 ?_
      refine e_top (nI_add _ _) ?_
      refine e_sld hXs hbl hbA hS (w + 1) (by omega) (by omega) (v := xs (w + 1)) rfl hx hb dL_law_594 ?_
      refine lv_aload_n hx hb dL_law_595 rfl (lv_at hl 4 rfl) ?_
      refine lv_iload hx hb dL_law_596 (lv_at hl 0 rfl) ?_
      refine lv_iconst (v := nI 2) hx hb dL_law_598 (by decide +kernel) ?_
      refine lv_iadd hx hb dL_law_599 ?_
      refine e_top (nI_add _ _) ?_
      refine e_sld hXs hbl hbA hS (w + 2) (by omega) (by omega) (v := xs (w + 2)) rfl hx hb dL_law_600 ?_
      refine lv_if_eq (tgt := 608) hx hb dL_law_601 (by decide) (fun c601 => ?_) (fun c601 => absurd hz0 c601)
      refine lv_iconst (v := nI 0) hx hb dL_law_608 (by decide +kernel) ?_
      refine lv_aload_n hx hb dL_law_609 rfl (lv_at hl 1 rfl) ?_
      refine e_callSHac (As := [.ref o, .int (xs (w + 1)), .int (nI 0), .ref oq]) (rest := []) ⟨hx, hb, hml, hown, hts⟩ hK hX hP hD hS hA hl.1 (c_L_way l hlt E _ o ad wm st gr co hb_ mo ga ca ha_ ma sd tk op sp rc rn wa (xs (w + 1)) false oq lo (by first | omega | assumption | rfl | (simp_all; done))) (vx_cwSW 4 hts gL_law_L_way rfl rfl rfl (by decide +kernel) ⟨Nat.le_of_ble_eq_true rfl, Nat.le_of_ble_eq_true rfl⟩) rfl rfl (Nat.le_of_ble_eq_true rfl) dL_law_610 ⟨by show 40 + 3 * z + 0 ≤ 601024; omega, by show 2500 + 168 * z + 0 ≤ 7293034; omega⟩ (fun u_13 H locs hu_14 hsz1 hP hD hS => ?_)
      obtain ⟨op__15, sp__16, rc__17, rn__18, wa__19⟩ := u_13
      have hP : va_P E.1 vwCl (wAll E o ad wm st gr co hb_ (nI mo) ga ca ha_ (nI ma) sd tk op__15 sp__16 rc__17 rn__18 wa__19 ++ wMo E o2 ad2 th gr co sd tk wm st (nI mo) nx lb fr ++ [(oq, .inl (E.2.2.2, 1, .inr (.inl (vp_updL lo 0 ((wayN (if false = true then chSafe sd tk (nI mo) else dep gr co) (xs (w + 1))).toInt64)))))]) H := hP
      have hD : va_D (lA s) (wAll E o ad wm st gr co hb_ (nI mo) ga ca ha_ (nI ma) sd tk op__15 sp__16 rc__17 rn__18 wa__19 ++ wMo E o2 ad2 th gr co sd tk wm st (nI mo) nx lb fr ++ [(oq, .inl (E.2.2.2, 1, .inr (.inl (vp_updL lo 0 ((wayN (if false = true then chSafe sd tk (nI mo) else dep gr co) (xs (w + 1))).toInt64)))))]) := hD
      refine W.eq (g2 := F0 m 613 ls [.int (nI 0)]) rfl ?_
      refine lv_istore (lv' := [(5, .int (nI 0)), (4, .int (nI w)), (3, .ref oq), (2, .ref o2), (1, .ref o), (0, .ref b)]) hx hb dL_law_613 hl (by decide) rfl (fun ls hl => ?_)
      refine lv_aload_n hx hb dL_law_615 rfl (lv_at hl 3 rfl) ?_
      refine lv_aload_n hx hb dL_law_616 rfl (lv_at hl 5 rfl) ?_
      refine lv_iload hx hb dL_law_617 (lv_at hl 1 rfl) ?_
      refine lv_iconst (v := nI 1) hx hb dL_law_619 (by decide +kernel) ?_
      refine lv_iadd hx hb dL_law_620 ?_
      refine e_top (nI_add _ _) ?_
      refine e_sld hXs hbl hbA hS (w + 1) (by omega) (by omega) (v := xs (w + 1)) rfl hx hb dL_law_621 ?_
      refine lv_aload_n hx hb dL_law_622 rfl (lv_at hl 5 rfl) ?_
      refine lv_iload hx hb dL_law_623 (lv_at hl 1 rfl) ?_
      refine lv_iconst (v := nI 2) hx hb dL_law_625 (by decide +kernel) ?_
      refine lv_iadd hx hb dL_law_626 ?_
      refine e_top (nI_add _ _) ?_
      refine e_sld hXs hbl hbA hS (w + 2) (by omega) (by omega) (v := xs (w + 2)) rfl hx hb dL_law_627 ?_
      refine lv_if_eq (tgt := 635) hx hb dL_law_628 (by decide) (fun c628 => ?_) (fun c628 => absurd hz0 c628)
      refine lv_iconst (v := nI 0) hx hb dL_law_635 (by decide +kernel) ?_
      refine e_callVb (As := [.int (xs (w + 1)), .int (nI 0)]) (rest := []) ⟨hx, hb, hml, hown, hts⟩ hK hP hD hS hA hl.1 (c_X5_way l E _ o2 ad2 th gr co sd tk wm st mo nx lb fr (xs (w + 1)) false (by first | omega | assumption | rfl | (simp_all; done))) (cwV 2 hts gL_law_X5_way rfl rfl rfl (by decide +kernel) ⟨Nat.le_of_ble_eq_true rfl, Nat.le_of_ble_eq_true rfl⟩) (ci := 5) rfl rfl rfl rfl (Nat.le_of_ble_eq_true rfl) dL_law_636 ⟨by show 40 + 3 * z + 0 + 0 ≤ 601024; omega, by show 2500 + 168 * z + 0 + 0 ≤ 7293034; omega⟩ (fun u_20 H locs hu_21 hsz1 hP hD hS => ?_)
      obtain ⟨fr__22, rfl⟩ : ∃ z, z = u_20 := ⟨_, rfl⟩
      have hP : va_P E.1 vwCl (wAll E o ad wm st gr co hb_ (nI mo) ga ca ha_ (nI ma) sd tk op__15 sp__16 rc__17 rn__18 wa__19 ++ wMo E o2 ad2 (nI 0) gr co sd tk wm st (nI mo) nx lb fr__22 ++ [(oq, .inl (E.2.2.2, 1, .inr (.inl (vp_updL lo 0 ((wayN (if false = true then chSafe sd tk (nI mo) else dep gr co) (xs (w + 1))).toInt64)))))]) H := hP
      have hD : va_D (lA s) (wAll E o ad wm st gr co hb_ (nI mo) ga ca ha_ (nI ma) sd tk op__15 sp__16 rc__17 rn__18 wa__19 ++ wMo E o2 ad2 (nI 0) gr co sd tk wm st (nI mo) nx lb fr__22 ++ [(oq, .inl (E.2.2.2, 1, .inr (.inl (vp_updL lo 0 ((wayN (if false = true then chSafe sd tk (nI mo) else dep gr co) (xs (w + 1))).toInt64)))))]) := hD
      refine W.eq (g2 := F0 m 639 ls [.int (wayN (if false = true then chSafe sd tk (nI mo) else dep gr co) (xs (w + 1)))]) rfl ?_
      refine lv_istore (lv' := [(6, .int (wayN (if false = true then chSafe sd tk (nI mo) else dep gr co) (xs (w + 1)))), (5, .int (nI 0)), (4, .int (nI w)), (3, .ref oq), (2, .ref o2), (1, .ref o), (0, .ref b)]) hx hb dL_law_639 hl (by decide) rfl (fun ls hl => ?_)
      refine lv_aload_n hx hb dL_law_641 rfl (lv_at hl 4 rfl) ?_
      refine e_callVb (As := []) (rest := []) ⟨hx, hb, hml, hown, hts⟩ hK hP hD hS hA hl.1 (c_X5_thrown l E _ o2 ad2 (nI 0) gr co sd tk wm st mo nx lb fr__22) (cwV 0 hts gL_law_X5_thrown rfl rfl rfl (by decide +kernel) ⟨Nat.le_of_ble_eq_true rfl, Nat.le_of_ble_eq_true rfl⟩) (ci := 5) rfl rfl rfl rfl (Nat.le_of_ble_eq_true rfl) dL_law_642 ⟨by show 40 + 3 * z + 0 + 0 + 0 ≤ 601024; omega, by show 2500 + 168 * z + 0 + 0 + 0 ≤ 7293034; omega⟩ (fun u_23 H locs hu_24 hsz1 hP hD hS => ?_)
      have hP : va_P E.1 vwCl (wAll E o ad wm st gr co hb_ (nI mo) ga ca ha_ (nI ma) sd tk op__15 sp__16 rc__17 rn__18 wa__19 ++ wMo E o2 ad2 (nI 0) gr co sd tk wm st (nI mo) nx lb fr__22 ++ [(oq, .inl (E.2.2.2, 1, .inr (.inl (vp_updL lo 0 ((wayN (if false = true then chSafe sd tk (nI mo) else dep gr co) (xs (w + 1))).toInt64)))))]) H := hP
      have hD : va_D (lA s) (wAll E o ad wm st gr co hb_ (nI mo) ga ca ha_ (nI ma) sd tk op__15 sp__16 rc__17 rn__18 wa__19 ++ wMo E o2 ad2 (nI 0) gr co sd tk wm st (nI mo) nx lb fr__22 ++ [(oq, .inl (E.2.2.2, 1, .inr (.inl (vp_updL lo 0 ((wayN (if false = true then chSafe sd tk (nI mo) else dep gr co) (xs (w + 1))).toInt64)))))]) := hD
      refine W.eq (g2 := F0 m 645 ls [.int (nI 0)]) rfl ?_
      refine lv_iload hx hb dL_law_645 (lv_at hl 1 rfl) ?_
      refine n_icmp_eq (x := 0) (y := 0) (by omega) (by omega) (tgt := 652) hx hb dL_law_647 (by decide) (fun c647 => ?_) (fun c647 => absurd rfl c647)
      refine lv_iload hx hb dL_law_652 (lv_at hl 1 rfl) ?_
      refine n_if_ne (x := 0) (by omega) (tgt := 669) hx hb dL_law_654 (by decide) (fun c654 => (by omega)) (fun c654 => ?_)
      refine lv_aload_n hx hb dL_law_657 rfl (lv_at hl 3 rfl) ?_
      refine lv_iconst (v := nI 0) hx hb dL_law_658 (by decide +kernel) ?_
      refine e_lald hK hP 30 rfl 0 (by omega) (by decide) hx hb dL_law_659 ?_
      refine lv_iload hx hb dL_law_660 (lv_at hl 0 rfl) ?_
      refine lv_i2l hx hb dL_law_662 rfl ?_
      refine W.lcmp hx hb dL_law_663 ?_
      refine e_top (y := nI 0) (show lg_cmp ((vp_updL lo 0 ((wayN (if false = true then chSafe sd tk (nI mo) else dep gr co) (xs (w + 1))).toInt64)) 0) ((wayN (if false = true then chSafe sd tk (nI mo) else dep gr co) (xs (w + 1))).toInt64) = nI 0 from (lg_cmp_eq _ _).mpr rfl) ?_
      refine n_if_eq (x := 0) (by omega) (tgt := 669) hx hb dL_law_664 (by decide) (fun c664 => ?_) (fun c664 => (by omega))
      refine lv_goto (tgt := 1129) hx hb dL_law_669 (by decide) ?_
      refine lv_iinc (v := nI (w + 4)) (lv' := [(4, .int (nI (w + 4))), (6, .int (wayN (if false = true then chSafe sd tk (nI mo) else dep gr co) (xs (w + 1)))), (5, .int (nI 0)), (3, .ref oq), (2, .ref o2), (1, .ref o), (0, .ref b)]) hx hb dL_law_1129 hl (k := 2) rfl (nI_add w 4) (by decide) rfl (fun ls hl => ?_)
      refine lv_goto (tgt := 23) hx hb dL_law_1132 (by decide) ?_
      exact W.widen (by show 40 + 3 * z + 0 + 0 + 0 ≤ 40 + 3 * (z + 1); omega) (by show 2500 + 168 * z + 0 + 0 + 0 ≤ 2500 + 168 * (z + 1); omega) (kk (w + 4) wm st gr co hb_ mo ga ca ha_ ma sd tk op__15 sp__16 rc__17 rn__18 wa__19 (nI 0) nx lb fr__22 (vp_updL lo 0 ((wayN (if false = true then chSafe sd tk (nI mo) else dep gr co) (xs (w + 1))).toInt64)) H locs ls (by omega) (by omega) hT hR hP hD hS (lv_sub hl [0, 3, 4, 5, 6] rfl))
    · refine lv_aload_n hx hb dL_law_588 rfl (lv_at hl 3 rfl) ?_
      refine lv_aload_n hx hb dL_law_589 rfl (lv_at hl 4 rfl) ?_
      refine lv_iload hx hb dL_law_590 (lv_at hl 0 rfl) ?_
      refine lv_iconst (v := nI 1) hx hb dL_law_592 (by decide +kernel) ?_
      refine lv_iadd hx hb dL_law_593 ?_
      refine e_top (nI_add _ _) ?_
      refine e_sld hXs hbl hbA hS (w + 1) (by omega) (by omega) (v := xs (w + 1)) rfl hx hb dL_law_594 ?_
      refine lv_aload_n hx hb dL_law_595 rfl (lv_at hl 4 rfl) ?_
      refine lv_iload hx hb dL_law_596 (lv_at hl 0 rfl) ?_
      refine lv_iconst (v := nI 2) hx hb dL_law_598 (by decide +kernel) ?_
      refine lv_iadd hx hb dL_law_599 ?_
      refine e_top (nI_add _ _) ?_
      refine e_sld hXs hbl hbA hS (w + 2) (by omega) (by omega) (v := xs (w + 2)) rfl hx hb dL_law_600 ?_
      refine lv_if_eq (tgt := 608) hx hb dL_law_601 (by decide) (fun c601 => absurd c601 hz0) (fun c601 => ?_)
      refine lv_iconst (v := nI 1) hx hb dL_law_604 (by decide +kernel) ?_
      refine lv_goto (tgt := 609) hx hb dL_law_605 (by decide) ?_
      refine lv_aload_n hx hb dL_law_609 rfl (lv_at hl 1 rfl) ?_
      refine e_callSHac (As := [.ref o, .int (xs (w + 1)), .int (nI 1), .ref oq]) (rest := []) ⟨hx, hb, hml, hown, hts⟩ hK hX hP hD hS hA hl.1 (c_L_way l hlt E _ o ad wm st gr co hb_ mo ga ca ha_ ma sd tk op sp rc rn wa (xs (w + 1)) true oq lo (by first | omega | assumption | rfl | (simp_all; done))) (vx_cwSW 4 hts gL_law_L_way rfl rfl rfl (by decide +kernel) ⟨Nat.le_of_ble_eq_true rfl, Nat.le_of_ble_eq_true rfl⟩) rfl rfl (Nat.le_of_ble_eq_true rfl) dL_law_610 ⟨by show 40 + 3 * z + 0 ≤ 601024; omega, by show 2500 + 168 * z + 0 ≤ 7293034; omega⟩ (fun u_25 H locs hu_26 hsz1 hP hD hS => ?_)
      obtain ⟨op__27, sp__28, rc__29, rn__30, wa__31⟩ := u_25
      have hP : va_P E.1 vwCl (wAll E o ad wm st gr co hb_ (nI mo) ga ca ha_ (nI ma) sd tk op__27 sp__28 rc__29 rn__30 wa__31 ++ wMo E o2 ad2 th gr co sd tk wm st (nI mo) nx lb fr ++ [(oq, .inl (E.2.2.2, 1, .inr (.inl (vp_updL lo 0 ((wayN (if true = true then chSafe sd tk (nI mo) else dep gr co) (xs (w + 1))).toInt64)))))]) H := hP
      have hD : va_D (lA s) (wAll E o ad wm st gr co hb_ (nI mo) ga ca ha_ (nI ma) sd tk op__27 sp__28 rc__29 rn__30 wa__31 ++ wMo E o2 ad2 th gr co sd tk wm st (nI mo) nx lb fr ++ [(oq, .inl (E.2.2.2, 1, .inr (.inl (vp_updL lo 0 ((wayN (if true = true then chSafe sd tk (nI mo) else dep gr co) (xs (w + 1))).toInt64)))))]) := hD
      refine W.eq (g2 := F0 m 613 ls [.int (nI 0)]) rfl ?_
      refine lv_istore (lv' := [(5, .int (nI 0)), (4, .int (nI w)), (3, .ref oq), (2, .ref o2), (1, .ref o), (0, .ref b)]) hx hb dL_law_613 hl (by decide) rfl (fun ls hl => ?_)
      refine lv_aload_n hx hb dL_law_615 rfl (lv_at hl 3 rfl) ?_
      refine lv_aload_n hx hb dL_law_616 rfl (lv_at hl 5 rfl) ?_
      refine lv_iload hx hb dL_law_617 (lv_at hl 1 rfl) ?_
      refine lv_iconst (v := nI 1) hx hb dL_law_619 (by decide +kernel) ?_
      refine lv_iadd hx hb dL_law_620 ?_
      refine e_top (nI_add _ _) ?_
      refine e_sld hXs hbl hbA hS (w + 1) (by omega) (by omega) (v := xs (w + 1)) rfl hx hb dL_law_621 ?_
      refine lv_aload_n hx hb dL_law_622 rfl (lv_at hl 5 rfl) ?_
      refine lv_iload hx hb dL_law_623 (lv_at hl 1 rfl) ?_
      refine lv_iconst (v := nI 2) hx hb dL_law_625 (by decide +kernel) ?_
      refine lv_iadd hx hb dL_law_626 ?_
      refine e_top (nI_add _ _) ?_
      refine e_sld hXs hbl hbA hS (w + 2) (by omega) (by omega) (v := xs (w + 2)) rfl hx hb dL_law_627 ?_
      refine lv_if_eq (tgt := 635) hx hb dL_law_628 (by decide) (fun c628 => absurd c628 hz0) (fun c628 => ?_)
      refine lv_iconst (v := nI 1) hx hb dL_law_631 (by decide +kernel) ?_
      refine lv_goto (tgt := 636) hx hb dL_law_632 (by decide) ?_
      refine e_callVb (As := [.int (xs (w + 1)), .int (nI 1)]) (rest := []) ⟨hx, hb, hml, hown, hts⟩ hK hP hD hS hA hl.1 (c_X5_way l E _ o2 ad2 th gr co sd tk wm st mo nx lb fr (xs (w + 1)) true (by first | omega | assumption | rfl | (simp_all; done))) (cwV 2 hts gL_law_X5_way rfl rfl rfl (by decide +kernel) ⟨Nat.le_of_ble_eq_true rfl, Nat.le_of_ble_eq_true rfl⟩) (ci := 5) rfl rfl rfl rfl (Nat.le_of_ble_eq_true rfl) dL_law_636 ⟨by show 40 + 3 * z + 0 + 0 ≤ 601024; omega, by show 2500 + 168 * z + 0 + 0 ≤ 7293034; omega⟩ (fun u_32 H locs hu_33 hsz1 hP hD hS => ?_)
      obtain ⟨fr__34, rfl⟩ : ∃ z, z = u_32 := ⟨_, rfl⟩
      have hP : va_P E.1 vwCl (wAll E o ad wm st gr co hb_ (nI mo) ga ca ha_ (nI ma) sd tk op__27 sp__28 rc__29 rn__30 wa__31 ++ wMo E o2 ad2 (nI 0) gr co sd tk wm st (nI mo) nx lb fr__34 ++ [(oq, .inl (E.2.2.2, 1, .inr (.inl (vp_updL lo 0 ((wayN (if true = true then chSafe sd tk (nI mo) else dep gr co) (xs (w + 1))).toInt64)))))]) H := hP
      have hD : va_D (lA s) (wAll E o ad wm st gr co hb_ (nI mo) ga ca ha_ (nI ma) sd tk op__27 sp__28 rc__29 rn__30 wa__31 ++ wMo E o2 ad2 (nI 0) gr co sd tk wm st (nI mo) nx lb fr__34 ++ [(oq, .inl (E.2.2.2, 1, .inr (.inl (vp_updL lo 0 ((wayN (if true = true then chSafe sd tk (nI mo) else dep gr co) (xs (w + 1))).toInt64)))))]) := hD
      refine W.eq (g2 := F0 m 639 ls [.int (wayN (if true = true then chSafe sd tk (nI mo) else dep gr co) (xs (w + 1)))]) rfl ?_
      refine lv_istore (lv' := [(6, .int (wayN (if true = true then chSafe sd tk (nI mo) else dep gr co) (xs (w + 1)))), (5, .int (nI 0)), (4, .int (nI w)), (3, .ref oq), (2, .ref o2), (1, .ref o), (0, .ref b)]) hx hb dL_law_639 hl (by decide) rfl (fun ls hl => ?_)
      refine lv_aload_n hx hb dL_law_641 rfl (lv_at hl 4 rfl) ?_
      refine e_callVb (As := []) (rest := []) ⟨hx, hb, hml, hown, hts⟩ hK hP hD hS hA hl.1 (c_X5_thrown l E _ o2 ad2 (nI 0) gr co sd tk wm st mo nx lb fr__34) (cwV 0 hts gL_law_X5_thrown rfl rfl rfl (by decide +kernel) ⟨Nat.le_of_ble_eq_true rfl, Nat.le_of_ble_eq_true rfl⟩) (ci := 5) rfl rfl rfl rfl (Nat.le_of_ble_eq_true rfl) dL_law_642 ⟨by show 40 + 3 * z + 0 + 0 + 0 ≤ 601024; omega, by show 2500 + 168 * z + 0 + 0 + 0 ≤ 7293034; omega⟩ (fun u_35 H locs hu_36 hsz1 hP hD hS => ?_)
      have hP : va_P E.1 vwCl (wAll E o ad wm st gr co hb_ (nI mo) ga ca ha_ (nI ma) sd tk op__27 sp__28 rc__29 rn__30 wa__31 ++ wMo E o2 ad2 (nI 0) gr co sd tk wm st (nI mo) nx lb fr__34 ++ [(oq, .inl (E.2.2.2, 1, .inr (.inl (vp_updL lo 0 ((wayN (if true = true then chSafe sd tk (nI mo) else dep gr co) (xs (w + 1))).toInt64)))))]) H := hP
      have hD : va_D (lA s) (wAll E o ad wm st gr co hb_ (nI mo) ga ca ha_ (nI ma) sd tk op__27 sp__28 rc__29 rn__30 wa__31 ++ wMo E o2 ad2 (nI 0) gr co sd tk wm st (nI mo) nx lb fr__34 ++ [(oq, .inl (E.2.2.2, 1, .inr (.inl (vp_updL lo 0 ((wayN (if true = true then chSafe sd tk (nI mo) else dep gr co) (xs (w + 1))).toInt64)))))]) := hD
      refine W.eq (g2 := F0 m 645 ls [.int (nI 0)]) rfl ?_
      refine lv_iload hx hb dL_law_645 (lv_at hl 1 rfl) ?_
      refine n_icmp_eq (x := 0) (y := 0) (by omega) (by omega) (tgt := 652) hx hb dL_law_647 (by decide) (fun c647 => ?_) (fun c647 => absurd rfl c647)
      refine lv_iload hx hb dL_law_652 (lv_at hl 1 rfl) ?_
      refine n_if_ne (x := 0) (by omega) (tgt := 669) hx hb dL_law_654 (by decide) (fun c654 => (by omega)) (fun c654 => ?_)
      refine lv_aload_n hx hb dL_law_657 rfl (lv_at hl 3 rfl) ?_
      refine lv_iconst (v := nI 0) hx hb dL_law_658 (by decide +kernel) ?_
      refine e_lald hK hP 30 rfl 0 (by omega) (by decide) hx hb dL_law_659 ?_
      refine lv_iload hx hb dL_law_660 (lv_at hl 0 rfl) ?_
      refine lv_i2l hx hb dL_law_662 rfl ?_
      refine W.lcmp hx hb dL_law_663 ?_
      refine e_top (y := nI 0) (show lg_cmp ((vp_updL lo 0 ((wayN (if true = true then chSafe sd tk (nI mo) else dep gr co) (xs (w + 1))).toInt64)) 0) ((wayN (if true = true then chSafe sd tk (nI mo) else dep gr co) (xs (w + 1))).toInt64) = nI 0 from (lg_cmp_eq _ _).mpr rfl) ?_
      refine n_if_eq (x := 0) (by omega) (tgt := 669) hx hb dL_law_664 (by decide) (fun c664 => ?_) (fun c664 => (by omega))
      refine lv_goto (tgt := 1129) hx hb dL_law_669 (by decide) ?_
      refine lv_iinc (v := nI (w + 4)) (lv' := [(4, .int (nI (w + 4))), (6, .int (wayN (if true = true then chSafe sd tk (nI mo) else dep gr co) (xs (w + 1)))), (5, .int (nI 0)), (3, .ref oq), (2, .ref o2), (1, .ref o), (0, .ref b)]) hx hb dL_law_1129 hl (k := 2) rfl (nI_add w 4) (by decide) rfl (fun ls hl => ?_)
      refine lv_goto (tgt := 23) hx hb dL_law_1132 (by decide) ?_
      exact W.widen (by show 40 + 3 * z + 0 + 0 + 0 ≤ 40 + 3 * (z + 1); omega) (by show 2500 + 168 * z + 0 + 0 + 0 ≤ 2500 + 168 * (z + 1); omega) (kk (w + 4) wm st gr co hb_ mo ga ca ha_ ma sd tk op__27 sp__28 rc__29 rn__30 wa__31 (nI 0) nx lb fr__34 (vp_updL lo 0 ((wayN (if true = true then chSafe sd tk (nI mo) else dep gr co) (xs (w + 1))).toInt64)) H locs ls (by omega) (by omega) hT hR hP hD hS (lv_sub hl [0, 3, 4, 5, 6] rfl))

