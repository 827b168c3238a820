set_option maxHeartbeats 16000000 in
set_option maxRecDepth 100000 in
theorem k_case7 {p : Program} {e : Env} {s : State} {m : MethodId} {below : List Frame} {meth : Method} {cd : Code} (l : Launch) (hlt : l.stackTraces = false) {b L : Nat} {xs : Nat → Int32} {E : eT} (C : lC p s m cd b L xs E) {Q : State → Prop} {o : Nat} {ad : Nat → Nat} {o2 : Nat} {ad2 : Nat → Nat} {oq : Nat} (z w : Nat) (kk : lHead p l e s m below meth cd b E Q o ad o2 ad2 oq (z + 1)) (hi : w + 4 ≤ L) (wm : Nat → Int32) (st : Nat → Int32) (gr : Nat → Int32) (co : Nat → Int32) (hb_ : Nat → Bool) (mo : Nat) (ga : Nat → Int32) (ca : Nat → Int32) (ha_ : Nat → Bool) (ma : Nat) (sd : Nat → Int32) (tk : Nat → Int32) (op : Nat → Bool) (sp : Nat → Nat) (rc : Nat → Nat) (rn : Nat) (wa : Nat → Int32) (th : Int32) (nx : Nat → Int32) (lb : Nat → Option Nat) (fr : Nat → Nat) (lo : Nat → Int64) (H : Heap) (locs : List Loc) (ls : Array Slot) (hw : w = 4 * z) (hmo : mo ≤ 120 * z) (hT : Tb wm st) (hR : Rg gr co) (hP : va_P E.1 vwCl (wAll E o ad wm st gr co hb_ (nI mo) ga ca ha_ (nI ma) sd tk op sp rc rn wa ++ wMo E o2 ad2 th gr co sd tk wm st (nI mo) nx lb fr ++ [(oq, .inl (E.2.2.2, 1, .inr (.inl lo)))]) H) (hD : va_D (lA s) (wAll E o ad wm st gr co hb_ (nI mo) ga ca ha_ (nI ma) sd tk op sp rc rn wa ++ wMo E o2 ad2 th gr co sd tk wm st (nI mo) nx lb fr ++ [(oq, .inl (E.2.2.2, 1, .inr (.inl lo)))])) (hS : va_S (lA s) s.heap H locs) (hl : lv_has ls 9 [(4, .int (nI w)), (3, .ref oq), (2, .ref o2), (1, .ref o), (0, .ref b)]) : W p l e room_1 s m #[Value.ref b] below meth cd H locs (40 + 3 * z) (2500 + 168 * z) Q (F0 m 672 ls []) := by
  obtain ⟨hx, hb, hml, hown, hts, hK, hX, hXs, hbl, hL⟩ := C
  have hA : ∀ q : Nat, s.heap.size ≤ q → lA s q := fun _ h => h
  have hbA : ¬ lA s b := Nat.not_le.mpr hbl
  have hz : z ≤ 512 := by omega
  by_cases hz0 : xs (w + 1) = 0
  · refine lv_aload_n hx hb dL_law_672 rfl (lv_at hl 3 rfl) ?_
    refine lv_aload_n hx hb dL_law_673 rfl (lv_at hl 4 rfl) ?_
    refine lv_iload hx hb dL_law_674 (lv_at hl 0 rfl) ?_
    refine lv_iconst (v := nI 1) hx hb dL_law_676 (by decide +kernel) ?_
    refine lv_iadd hx hb dL_law_677 ?_
    refine e_top (nI_add _ _) ?_
    refine e_sld hXs hbl hbA hS (w + 1) (by omega) (by omega) (v := xs (w + 1)) rfl hx hb dL_law_678 ?_
    refine lv_if_eq (tgt := 686) hx hb dL_law_679 (by decide) (fun c679 => ?_) (fun c679 => absurd hz0 c679)
    refine lv_iconst (v := nI 0) hx hb dL_law_686 (by decide +kernel) ?_
    refine e_callVa (As := [.int (nI 0)]) (rest := []) ⟨hx, hb, hml, hown, hts⟩ hK hP hD hS hA hl.1 (c_X4_deepest l E _ o ad wm st gr co hb_ mo ga ca ha_ ma sd tk op sp rc rn wa false) (cwV 1 hts gL_law_X4_deepest rfl rfl rfl (by decide +kernel) ⟨Nat.le_of_ble_eq_true rfl, Nat.le_of_ble_eq_true rfl⟩) (ci := 4) rfl rfl rfl rfl (Nat.le_of_ble_eq_true rfl) dL_law_687 ⟨by show 40 + 3 * z + 0 ≤ 601024; omega, by show 2500 + 168 * z + 0 ≤ 7293034; omega⟩ (fun u_1 H locs hu_2 hsz1 hP hD hS => ?_)
    obtain ⟨op__3, sp__4, rc__5, rn__6, wa__7⟩ := u_1
    have hP : va_P E.1 vwCl (wAll E o ad wm st gr co hb_ (nI mo) ga ca ha_ (nI ma) sd tk op__3 sp__4 rc__5 rn__6 wa__7 ++ wMo E o2 ad2 th gr co sd tk wm st (nI mo) nx lb fr ++ [(oq, .inl (E.2.2.2, 1, .inr (.inl lo)))]) H := hP
    have hD : va_D (lA s) (wAll E o ad wm st gr co hb_ (nI mo) ga ca ha_ (nI ma) sd tk op__3 sp__4 rc__5 rn__6 wa__7 ++ wMo E o2 ad2 th gr co sd tk wm st (nI mo) nx lb fr ++ [(oq, .inl (E.2.2.2, 1, .inr (.inl lo)))]) := hD
    refine W.eq (g2 := F0 m 690 ls [.int (oI (mostD (someW (if false = true then chSafe sd tk (nI mo) else dep gr co)) 40))]) rfl ?_
    refine lv_aload_n hx hb dL_law_690 rfl (lv_at hl 2 rfl) ?_
    refine lv_aload_n hx hb dL_law_691 rfl (lv_at hl 4 rfl) ?_
    refine lv_iload hx hb dL_law_692 (lv_at hl 0 rfl) ?_
    refine lv_iconst (v := nI 1) hx hb dL_law_694 (by decide +kernel) ?_
    refine lv_iadd hx hb dL_law_695 ?_
    refine e_top (nI_add _ _) ?_
    refine e_sld hXs hbl hbA hS (w + 1) (by omega) (by omega) (v := xs (w + 1)) rfl hx hb dL_law_696 ?_
    refine lv_if_eq (tgt := 704) hx hb dL_law_697 (by decide) (fun c697 => ?_) (fun c697 => absurd hz0 c697)
    refine lv_iconst (v := nI 0) hx hb dL_law_704 (by decide +kernel) ?_
    refine e_callVb (As := [.int (nI 0)]) (rest := [.int (oI (mostD (someW (if false = true then chSafe sd tk (nI mo) else dep gr co)) 40))]) ⟨hx, hb, hml, hown, hts⟩ hK hP hD hS hA hl.1 (c_X5_deepest l E _ o2 ad2 th gr co sd tk wm st mo nx lb fr false) (cwV 1 hts gL_law_X5_deepest rfl rfl rfl (by decide +kernel) ⟨Nat.le_of_ble_eq_true rfl, Nat.le_of_ble_eq_true rfl⟩) (ci := 5) rfl rfl rfl rfl (Nat.le_of_ble_eq_true rfl) dL_law_705 ⟨by show 40 + 3 * z + 0 + 0 ≤ 601024; omega, by show 2500 + 168 * z + 0 + 0 ≤ 7293034; omega⟩ (fun u_8 H locs hu_9 hsz1 hP hD hS => ?_)
    obtain ⟨fr__10, rfl⟩ : ∃ z, z = u_8 := ⟨_, rfl⟩
    have hP : va_P E.1 vwCl (wAll E o ad wm st gr co hb_ (nI mo) ga ca ha_ (nI ma) sd tk op__3 sp__4 rc__5 rn__6 wa__7 ++ wMo E o2 ad2 (nI 0) gr co sd tk wm st (nI mo) nx lb fr__10 ++ [(oq, .inl (E.2.2.2, 1, .inr (.inl lo)))]) H := hP
    have hD : va_D (lA s) (wAll E o ad wm st gr co hb_ (nI mo) ga ca ha_ (nI ma) sd tk op__3 sp__4 rc__5 rn__6 wa__7 ++ wMo E o2 ad2 (nI 0) gr co sd tk wm st (nI mo) nx lb fr__10 ++ [(oq, .inl (E.2.2.2, 1, .inr (.inl lo)))]) := hD
    refine W.eq (g2 := F0 m 708 ls [.int (oI (mostD (someW (if false = true then chSafe sd tk (nI mo) else dep gr co)) 40)), .int (oI (mostD (someW (if false = true then chSafe sd tk (nI mo) else dep gr co)) 40))]) rfl ?_
    refine lv_icmp_eq (tgt := 1129) hx hb dL_law_708 (by decide) (fun c708 => ?_) (fun c708 => absurd rfl c708)
    refine lv_iinc (v := nI (w + 4)) (lv' := [(4, .int (nI (w + 4))), (3, .ref oq), (2, .ref o2), (1, .ref o), (0, .ref b)]) hx hb dL_law_1129 hl (k := 0) rfl (nI_add w 4) (by decide) rfl (fun ls hl => ?_)
    refine lv_goto (tgt := 23) hx hb dL_law_1132 (by decide) ?_
    exact W.widen (by show 40 + 3 * z + 0 + 0 ≤ 40 + 3 * (z + 1); omega) (by show 2500 + 168 * z + 0 + 0 ≤ 2500 + 168 * (z + 1); omega) (kk (w + 4) wm st gr co hb_ mo ga ca ha_ ma sd tk op__3 sp__4 rc__5 rn__6 wa__7 (nI 0) nx lb fr__10 lo H locs ls (by omega) (by omega) hT hR hP hD hS (lv_sub hl [0, 1, 2, 3, 4] rfl))
  · refine lv_aload_n hx hb dL_law_672 rfl (lv_at hl 3 rfl) ?_
    refine lv_aload_n hx hb dL_law_673 rfl (lv_at hl 4 rfl) ?_
    refine lv_iload hx hb dL_law_674 (lv_at hl 0 rfl) ?_
    refine lv_iconst (v := nI 1) hx hb dL_law_676 (by decide +kernel) ?_
    refine lv_iadd hx hb dL_law_677 ?_
    refine e_top (nI_add _ _) ?_
    refine e_sld hXs hbl hbA hS (w + 1) (by omega) (by omega) (v := xs (w + 1)) rfl hx hb dL_law_678 ?_
    refine lv_if_eq (tgt := 686) hx hb dL_law_679 (by decide) (fun c679 => absurd c679 hz0) (fun c679 => ?_)
    refine lv_iconst (v := nI 1) hx hb dL_law_682 (by decide +kernel) ?_
    refine lv_goto (tgt := 687) hx hb dL_law_683 (by decide) ?_
    refine e_callVa (As := [.int (nI 1)]) (rest := []) ⟨hx, hb, hml, hown, hts⟩ hK hP hD hS hA hl.1 (c_X4_deepest l E _ o ad wm st gr co hb_ mo ga ca ha_ ma sd tk op sp rc rn wa true) (cwV 1 hts gL_law_X4_deepest rfl rfl rfl (by decide +kernel) ⟨Nat.le_of_ble_eq_true rfl, Nat.le_of_ble_eq_true rfl⟩) (ci := 4) rfl rfl rfl rfl (Nat.le_of_ble_eq_true rfl) dL_law_687 ⟨by show 40 + 3 * z + 0 ≤ 601024; omega, by show 2500 + 168 * z + 0 ≤ 7293034; omega⟩ (fun u_11 H locs hu_12 hsz1 hP hD hS => ?_)
    obtain ⟨op__13, sp__14, rc__15, rn__16, wa__17⟩ := u_11
    have hP : va_P E.1 vwCl (wAll E o ad wm st gr co hb_ (nI mo) ga ca ha_ (nI ma) sd tk op__13 sp__14 rc__15 rn__16 wa__17 ++ wMo E o2 ad2 th gr co sd tk wm st (nI mo) nx lb fr ++ [(oq, .inl (E.2.2.2, 1, .inr (.inl lo)))]) H := hP
    have hD : va_D (lA s) (wAll E o ad wm st gr co hb_ (nI mo) ga ca ha_ (nI ma) sd tk op__13 sp__14 rc__15 rn__16 wa__17 ++ wMo E o2 ad2 th gr co sd tk wm st (nI mo) nx lb fr ++ [(oq, .inl (E.2.2.2, 1, .inr (.inl lo)))]) := hD
    refine W.eq (g2 := F0 m 690 ls [.int (oI (mostD (someW (if true = true then chSafe sd tk (nI mo) else dep gr co)) 40))]) rfl ?_
    refine lv_aload_n hx hb dL_law_690 rfl (lv_at hl 2 rfl) ?_
    refine lv_aload_n hx hb dL_law_691 rfl (lv_at hl 4 rfl) ?_
    refine lv_iload hx hb dL_law_692 (lv_at hl 0 rfl) ?_
    refine lv_iconst (v := nI 1) hx hb dL_law_694 (by decide +kernel) ?_
    refine lv_iadd hx hb dL_law_695 ?_
    refine e_top (nI_add _ _) ?_
    refine e_sld hXs hbl hbA hS (w + 1) (by omega) (by omega) (v := xs (w + 1)) rfl hx hb dL_law_696 ?_
    refine lv_if_eq (tgt := 704) hx hb dL_law_697 (by decide) (fun c697 => absurd c697 hz0) (fun c697 => ?_)
    refine lv_iconst (v := nI 1) hx hb dL_law_700 (by decide +kernel) ?_
    refine lv_goto (tgt := 705) hx hb dL_law_701 (by decide) ?_
    refine e_callVb (As := [.int (nI 1)]) (rest := [.int (oI (mostD (someW (if true = true then chSafe sd tk (nI mo) else dep gr co)) 40))]) ⟨hx, hb, hml, hown, hts⟩ hK hP hD hS hA hl.1 (c_X5_deepest l E _ o2 ad2 th gr co sd tk wm st mo nx lb fr true) (cwV 1 hts gL_law_X5_deepest rfl rfl rfl (by decide +kernel) ⟨Nat.le_of_ble_eq_true rfl, Nat.le_of_ble_eq_true rfl⟩) (ci := 5) rfl rfl rfl rfl (Nat.le_of_ble_eq_true rfl) dL_law_705 ⟨by show 40 + 3 * z + 0 + 0 ≤ 601024; omega, by show 2500 + 168 * z + 0 + 0 ≤ 7293034; omega⟩ (fun u_18 H locs hu_19 hsz1 hP hD hS => ?_)
    obtain ⟨fr__20, rfl⟩ : ∃ z, z = u_18 := ⟨_, rfl⟩
    have hP : va_P E.1 vwCl (wAll E o ad wm st gr co hb_ (nI mo) ga ca ha_ (nI ma) sd tk op__13 sp__14 rc__15 rn__16 wa__17 ++ wMo E o2 ad2 (nI 0) gr co sd tk wm st (nI mo) nx lb fr__20 ++ [(oq, .inl (E.2.2.2, 1, .inr (.inl lo)))]) H := hP
    have hD : va_D (lA s) (wAll E o ad wm st gr co hb_ (nI mo) ga ca ha_ (nI ma) sd tk op__13 sp__14 rc__15 rn__16 wa__17 ++ wMo E o2 ad2 (nI 0) gr co sd tk wm st (nI mo) nx lb fr__20 ++ [(oq, .inl (E.2.2.2, 1, .inr (.inl lo)))]) := hD
    refine W.eq (g2 := F0 m 708 ls [.int (oI (mostD (someW (if true = true then chSafe sd tk (nI mo) else dep gr co)) 40)), .int (oI (mostD (someW (if true = true then chSafe sd tk (nI mo) else dep gr co)) 40))]) rfl ?_
    refine lv_icmp_eq (tgt := 1129) hx hb dL_law_708 (by decide) (fun c708 => ?_) (fun c708 => absurd rfl c708)
    refine lv_iinc (v := nI (w + 4)) (lv' := [(4, .int (nI (w + 4))), (3, .ref oq), (2, .ref o2), (1, .ref o), (0, .ref b)]) hx hb dL_law_1129 hl (k := 0) rfl (nI_add w 4) (by decide) rfl (fun ls hl => ?_)
    refine lv_goto (tgt := 23) hx hb dL_law_1132 (by decide) ?_
    exact W.widen (by show 40 + 3 * z + 0 + 0 ≤ 40 + 3 * (z + 1); omega) (by show 2500 + 168 * z + 0 + 0 ≤ 2500 + 168 * (z + 1); omega) (kk (w + 4) wm st gr co hb_ mo ga ca ha_ ma sd tk op__13 sp__14 rc__15 rn__16 wa__17 (nI 0) nx lb fr__20 lo H locs ls (by omega) (by omega) hT hR hP hD hS (lv_sub hl [0, 1, 2, 3, 4] rfl))

