set_option maxHeartbeats 16000000 in
set_option maxRecDepth 100000 in
theorem k_case10 {p : Program} {e : Env} {s : State} {m : MethodId} {below : List Frame} {meth : Method} {cd : Code} (l : Launch) (hlt : l.stackTraces = false) {b L : Nat} {xs : Nat → Int32} {E : eT} (C : lC p s m cd b L xs E) {Q : State → Prop} {o : Nat} {ad : Nat → Nat} {o2 : Nat} {ad2 : Nat → Nat} {oq : Nat} (z w : Nat) (kk : lHead p l e s m below meth cd b E Q o ad o2 ad2 oq (z + 1)) (hi : w + 4 ≤ L) (wm : Nat → Int32) (st : Nat → Int32) (gr : Nat → Int32) (co : Nat → Int32) (hb_ : Nat → Bool) (mo : Nat) (ga : Nat → Int32) (ca : Nat → Int32) (ha_ : Nat → Bool) (ma : Nat) (sd : Nat → Int32) (tk : Nat → Int32) (op : Nat → Bool) (sp : Nat → Nat) (rc : Nat → Nat) (rn : Nat) (wa : Nat → Int32) (th : Int32) (nx : Nat → Int32) (lb : Nat → Option Nat) (fr : Nat → Nat) (lo : Nat → Int64) (H : Heap) (locs : List Loc) (ls : Array Slot) (hw : w = 4 * z) (hmo : mo ≤ 120 * z) (hT : Tb wm st) (hR : Rg gr co) (hP : va_P E.1 vwCl (wAll E o ad wm st gr co hb_ (nI mo) ga ca ha_ (nI ma) sd tk op sp rc rn wa ++ wMo E o2 ad2 th gr co sd tk wm st (nI mo) nx lb fr ++ [(oq, .inl (E.2.2.2, 1, .inr (.inl lo)))]) H) (hD : va_D (lA s) (wAll E o ad wm st gr co hb_ (nI mo) ga ca ha_ (nI ma) sd tk op sp rc rn wa ++ wMo E o2 ad2 th gr co sd tk wm st (nI mo) nx lb fr ++ [(oq, .inl (E.2.2.2, 1, .inr (.inl lo)))])) (hS : va_S (lA s) s.heap H locs) (hl : lv_has ls 9 [(4, .int (nI w)), (3, .ref oq), (2, .ref o2), (1, .ref o), (0, .ref b)]) : W p l e room_1 s m #[Value.ref b] below meth cd H locs (40 + 3 * z) (2500 + 168 * z) Q (F0 m 825 ls []) := by
  obtain ⟨hx, hb, hml, hown, hts, hK, hX, hXs, hbl, hL⟩ := C
  have hA : ∀ q : Nat, s.heap.size ≤ q → lA s q := fun _ h => h
  have hbA : ¬ lA s b := Nat.not_le.mpr hbl
  have hz : z ≤ 512 := by omega
  cases hv : isInB (xs (w + 1)) (nI 1) (nI 120) with
  | false =>
    refine lv_aload_n hx hb dL_law_825 rfl (lv_at hl 3 rfl) ?_
    refine lv_aload_n hx hb dL_law_826 rfl (lv_at hl 4 rfl) ?_
    refine lv_iload hx hb dL_law_827 (lv_at hl 0 rfl) ?_
    refine lv_iconst (v := nI 1) hx hb dL_law_829 (by decide +kernel) ?_
    refine lv_iadd hx hb dL_law_830 ?_
    refine e_top (nI_add _ _) ?_
    refine e_sld hXs hbl hbA hS (w + 1) (by omega) (by omega) (v := xs (w + 1)) rfl hx hb dL_law_831 ?_
    refine lv_aload_n hx hb dL_law_832 rfl (lv_at hl 1 rfl) ?_
    refine e_callSHac (As := [.ref o, .int (xs (w + 1)), .ref oq]) (rest := []) ⟨hx, hb, hml, hown, hts⟩ hK hX hP hD hS hA hl.1 (c_L_pass_b1 l hlt E _ o ad wm st gr co hb_ mo ga ca ha_ ma sd tk op sp rc rn wa (xs (w + 1)) oq lo (hv)) (vx_cwSW 3 hts gL_law_L_pass rfl rfl rfl (by decide +kernel) ⟨Nat.le_of_ble_eq_true rfl, Nat.le_of_ble_eq_true rfl⟩) rfl rfl (Nat.le_of_ble_eq_true rfl) dL_law_833 ⟨by show 40 + 3 * z + 1 ≤ 601024; omega, by show 2500 + 168 * z + 6 ≤ 7293034; omega⟩ (fun u_1 H locs hu_2 hsz1 hP hD hS => ?_)
    have hP : va_P E.1 vwCl (wAll E o ad wm st gr co hb_ (nI mo) ga ca ha_ (nI ma) sd tk op sp rc rn wa ++ wMo E o2 ad2 th gr co sd tk wm st (nI mo) nx lb fr ++ [(oq, .inl (E.2.2.2, 1, .inr (.inl lo)))]) H := hP
    have hD : va_D (lA s) (wAll E o ad wm st gr co hb_ (nI mo) ga ca ha_ (nI ma) sd tk op sp rc rn wa ++ wMo E o2 ad2 th gr co sd tk wm st (nI mo) nx lb fr ++ [(oq, .inl (E.2.2.2, 1, .inr (.inl lo)))]) := hD
    refine W.eq (g2 := F0 m 836 ls [.int (nI 1)]) rfl ?_
    refine lv_istore (lv' := [(5, .int (nI 1)), (4, .int (nI w)), (3, .ref oq), (2, .ref o2), (1, .ref o), (0, .ref b)]) hx hb dL_law_836 hl (by decide) rfl (fun ls hl => ?_)
    refine lv_aload_n hx hb dL_law_838 rfl (lv_at hl 3 rfl) ?_
    refine lv_aload_n hx hb dL_law_839 rfl (lv_at hl 5 rfl) ?_
    refine lv_iload hx hb dL_law_840 (lv_at hl 1 rfl) ?_
    refine lv_iconst (v := nI 1) hx hb dL_law_842 (by decide +kernel) ?_
    refine lv_iadd hx hb dL_law_843 ?_
    refine e_top (nI_add _ _) ?_
    refine e_sld hXs hbl hbA hS (w + 1) (by omega) (by omega) (v := xs (w + 1)) rfl hx hb dL_law_844 ?_
    refine e_callVb (As := [.int (xs (w + 1))]) (rest := []) ⟨hx, hb, hml, hown, hts⟩ hK hP hD hS hA hl.1 (c_X5_pass_b1 l E _ o2 ad2 th gr co sd tk wm st mo nx lb fr (xs (w + 1)) (hv)) (cwV 1 hts gL_law_X5_pass rfl rfl rfl (by decide +kernel) ⟨Nat.le_of_ble_eq_true rfl, Nat.le_of_ble_eq_true rfl⟩) (ci := 5) rfl rfl rfl rfl (Nat.le_of_ble_eq_true rfl) dL_law_845 ⟨by show 40 + 3 * z + 1 + 0 ≤ 601024; omega, by show 2500 + 168 * z + 6 + 0 ≤ 7293034; omega⟩ (fun u_3 H locs hu_4 hsz1 hP hD hS => ?_)
    have hP : va_P E.1 vwCl (wAll E o ad wm st gr co hb_ (nI mo) ga ca ha_ (nI ma) sd tk op sp rc rn wa ++ wMo E o2 ad2 (nI 1) gr co sd tk wm st (nI mo) nx lb fr ++ [(oq, .inl (E.2.2.2, 1, .inr (.inl lo)))]) H := hP
    have hD : va_D (lA s) (wAll E o ad wm st gr co hb_ (nI mo) ga ca ha_ (nI ma) sd tk op sp rc rn wa ++ wMo E o2 ad2 (nI 1) gr co sd tk wm st (nI mo) nx lb fr ++ [(oq, .inl (E.2.2.2, 1, .inr (.inl lo)))]) := hD
    refine W.eq (g2 := F0 m 848 ls [.int (nI 0)]) rfl ?_
    refine lv_istore (lv' := [(6, .int (nI 0)), (5, .int (nI 1)), (4, .int (nI w)), (3, .ref oq), (2, .ref o2), (1, .ref o), (0, .ref b)]) hx hb dL_law_848 hl (by decide) rfl (fun ls hl => ?_)
    refine lv_aload_n hx hb dL_law_850 rfl (lv_at hl 4 rfl) ?_
    refine e_callVb (As := []) (rest := []) ⟨hx, hb, hml, hown, hts⟩ hK hP hD hS hA hl.1 (c_X5_thrown l E _ o2 ad2 (nI 1) gr co sd tk wm st mo nx lb fr) (cwV 0 hts gL_law_X5_thrown rfl rfl rfl (by decide +kernel) ⟨Nat.le_of_ble_eq_true rfl, Nat.le_of_ble_eq_true rfl⟩) (ci := 5) rfl rfl rfl rfl (Nat.le_of_ble_eq_true rfl) dL_law_851 ⟨by show 40 + 3 * z + 1 + 0 + 0 ≤ 601024; omega, by show 2500 + 168 * z + 6 + 0 + 0 ≤ 7293034; omega⟩ (fun u_5 H locs hu_6 hsz1 hP hD hS => ?_)
    have hP : va_P E.1 vwCl (wAll E o ad wm st gr co hb_ (nI mo) ga ca ha_ (nI ma) sd tk op sp rc rn wa ++ wMo E o2 ad2 (nI 1) gr co sd tk wm st (nI mo) nx lb fr ++ [(oq, .inl (E.2.2.2, 1, .inr (.inl lo)))]) H := hP
    have hD : va_D (lA s) (wAll E o ad wm st gr co hb_ (nI mo) ga ca ha_ (nI ma) sd tk op sp rc rn wa ++ wMo E o2 ad2 (nI 1) gr co sd tk wm st (nI mo) nx lb fr ++ [(oq, .inl (E.2.2.2, 1, .inr (.inl lo)))]) := hD
    refine W.eq (g2 := F0 m 854 ls [.int (nI 1)]) rfl ?_
    refine lv_iload hx hb dL_law_854 (lv_at hl 1 rfl) ?_
    refine n_icmp_eq (x := 1) (y := 1) (by omega) (by omega) (tgt := 861) hx hb dL_law_856 (by decide) (fun c856 => ?_) (fun c856 => absurd rfl c856)
    refine lv_iload hx hb dL_law_861 (lv_at hl 1 rfl) ?_
    refine n_if_ne (x := 1) (by omega) (tgt := 878) hx hb dL_law_863 (by decide) (fun c863 => ?_) (fun c863 => (by omega))
    refine lv_goto (tgt := 1129) hx hb dL_law_878 (by decide) ?_
    refine lv_iinc (v := nI (w + 4)) (lv' := [(4, .int (nI (w + 4))), (6, .int (nI 0)), (5, .int (nI 1)), (3, .ref oq), (2, .ref o2), (1, .ref o), (0, .ref b)]) hx hb dL_law_1129 hl (k := 2) rfl (nI_add w 4) (by decide) rfl (fun ls hl => ?_)
    refine lv_goto (tgt := 23) hx hb dL_law_1132 (by decide) ?_
    exact W.widen (by show 40 + 3 * z + 1 + 0 + 0 ≤ 40 + 3 * (z + 1); omega) (by show 2500 + 168 * z + 6 + 0 + 0 ≤ 2500 + 168 * (z + 1); omega) (kk (w + 4) wm st gr co hb_ mo ga ca ha_ ma sd tk op sp rc rn wa (nI 1) nx lb fr lo H locs ls (by omega) (by omega) hT hR hP hD hS (lv_sub hl [0, 3, 4, 5, 6] rfl))
  | true =>
    obtain ⟨k, hv1, hv2, e1⟩ := isInB_nat (by decide) hv (by decide)
    refine lv_aload_n hx hb dL_law_825 rfl (lv_at hl 3 rfl) ?_
    refine lv_aload_n hx hb dL_law_826 rfl (lv_at hl 4 rfl) ?_
    refine lv_iload hx hb dL_law_827 (lv_at hl 0 rfl) ?_
    refine lv_iconst (v := nI 1) hx hb dL_law_829 (by decide +kernel) ?_
    refine lv_iadd hx hb dL_law_830 ?_
    refine e_top (nI_add _ _) ?_
    refine e_sld hXs hbl hbA hS (w + 1) (by omega) (by omega) (v := nI k) e1 hx hb dL_law_831 ?_
    refine lv_aload_n hx hb dL_law_832 rfl (lv_at hl 1 rfl) ?_
    refine e_callSHac (As := [.ref o, .int (nI k), .ref oq]) (rest := []) ⟨hx, hb, hml, hown, hts⟩ hK hX hP hD hS hA hl.1 (c_L_pass l hlt E _ o ad wm st gr co hb_ mo ga ca ha_ ma sd tk op sp rc rn wa k oq lo (by first | omega | assumption | rfl | (simp_all; done)) (by first | omega | assumption | rfl | (simp_all; done)) (by first | omega | assumption | rfl | (simp_all; done))) (vx_cwSW 3 hts gL_law_L_pass rfl rfl rfl (by decide +kernel) ⟨Nat.le_of_ble_eq_true rfl, Nat.le_of_ble_eq_true rfl⟩) rfl rfl (Nat.le_of_ble_eq_true rfl) dL_law_833 ⟨by show 40 + 3 * z + 0 ≤ 601024; omega, by show 2500 + 168 * z + 0 ≤ 7293034; omega⟩ (fun u_7 H locs hu_8 hsz1 hP hD hS => ?_)
    obtain ⟨hb1__9, rfl⟩ : ∃ z, z = u_7 := ⟨_, rfl⟩
    have hP : va_P E.1 vwCl (wAll E o ad wm st ((months wm st (gr, co) mo k).1) ((months wm st (gr, co) mo k).2) hb1__9 (nI (mo + k)) ga ca ha_ (nI ma) sd tk op sp rc rn wa ++ wMo E o2 ad2 th gr co sd tk wm st (nI mo) nx lb fr ++ [(oq, .inl (E.2.2.2, 1, .inr (.inl (vp_updL lo 0 ((nI (heads (months wm st (gr, co) mo k).2) - nI (heads co)).toInt64)))))]) H := hP
    have hD : va_D (lA s) (wAll E o ad wm st ((months wm st (gr, co) mo k).1) ((months wm st (gr, co) mo k).2) hb1__9 (nI (mo + k)) ga ca ha_ (nI ma) sd tk op sp rc rn wa ++ wMo E o2 ad2 th gr co sd tk wm st (nI mo) nx lb fr ++ [(oq, .inl (E.2.2.2, 1, .inr (.inl (vp_updL lo 0 ((nI (heads (months wm st (gr, co) mo k).2) - nI (heads co)).toInt64)))))]) := hD
    refine W.eq (g2 := F0 m 836 ls [.int (nI 0)]) rfl ?_
    refine lv_istore (lv' := [(5, .int (nI 0)), (4, .int (nI w)), (3, .ref oq), (2, .ref o2), (1, .ref o), (0, .ref b)]) hx hb dL_law_836 hl (by decide) rfl (fun ls hl => ?_)
    refine lv_aload_n hx hb dL_law_838 rfl (lv_at hl 3 rfl) ?_
    refine lv_aload_n hx hb dL_law_839 rfl (lv_at hl 5 rfl) ?_
    refine lv_iload hx hb dL_law_840 (lv_at hl 1 rfl) ?_
    refine lv_iconst (v := nI 1) hx hb dL_law_842 (by decide +kernel) ?_
    refine lv_iadd hx hb dL_law_843 ?_
    refine e_top (nI_add _ _) ?_
    refine e_sld hXs hbl hbA hS (w + 1) (by omega) (by omega) (v := nI k) e1 hx hb dL_law_844 ?_
    refine e_callVb (As := [.int (nI k)]) (rest := []) ⟨hx, hb, hml, hown, hts⟩ hK hP hD hS hA hl.1 (c_X5_pass l E _ o2 ad2 th gr co sd tk wm st mo nx lb fr k (by first | omega | assumption | rfl | (simp_all; done)) (by first | omega | assumption | rfl | (simp_all; done)) (by first | omega | assumption | rfl | (simp_all; done)) (by first | omega | assumption | rfl | (simp_all; done)) (by first | omega | assumption | rfl | (simp_all; done))) (cwV 1 hts gL_law_X5_pass rfl rfl rfl (by decide +kernel) ⟨Nat.le_of_ble_eq_true rfl, Nat.le_of_ble_eq_true rfl⟩) (ci := 5) rfl rfl rfl rfl (Nat.le_of_ble_eq_true rfl) dL_law_845 ⟨by show 40 + 3 * z + 0 + 0 ≤ 601024; omega, by show 2500 + 168 * z + 0 + 0 ≤ 7293034; omega⟩ (fun u_10 H locs hu_11 hsz1 hP hD hS => ?_)
    obtain ⟨nx__12, rfl⟩ : ∃ z, z = u_10 := ⟨_, rfl⟩
    have hP : va_P E.1 vwCl (wAll E o ad wm st ((months wm st (gr, co) mo k).1) ((months wm st (gr, co) mo k).2) hb1__9 (nI (mo + k)) ga ca ha_ (nI ma) sd tk op sp rc rn wa ++ wMo E o2 ad2 (nI 0) ((months wm st (gr, co) mo k).1) ((months wm st (gr, co) mo k).2) sd tk wm st (nI (mo + k)) nx__12 lb fr ++ [(oq, .inl (E.2.2.2, 1, .inr (.inl (vp_updL lo 0 ((nI (heads (months wm st (gr, co) mo k).2) - nI (heads co)).toInt64)))))]) H := hP
    have hD : va_D (lA s) (wAll E o ad wm st ((months wm st (gr, co) mo k).1) ((months wm st (gr, co) mo k).2) hb1__9 (nI (mo + k)) ga ca ha_ (nI ma) sd tk op sp rc rn wa ++ wMo E o2 ad2 (nI 0) ((months wm st (gr, co) mo k).1) ((months wm st (gr, co) mo k).2) sd tk wm st (nI (mo + k)) nx__12 lb fr ++ [(oq, .inl (E.2.2.2, 1, .inr (.inl (vp_updL lo 0 ((nI (heads (months wm st (gr, co) mo k).2) - nI (heads co)).toInt64)))))]) := hD
    refine W.eq (g2 := F0 m 848 ls [.int (nI (heads (months wm st (gr, co) mo k).2) - nI (heads co))]) rfl ?_
    refine lv_istore (lv' := [(6, .int (nI (heads (months wm st (gr, co) mo k).2) - nI (heads co))), (5, .int (nI 0)), (4, .int (nI w)), (3, .ref oq), (2, .ref o2), (1, .ref o), (0, .ref b)]) hx hb dL_law_848 hl (by decide) rfl (fun ls hl => ?_)
    refine lv_aload_n hx hb dL_law_850 rfl (lv_at hl 4 rfl) ?_
    refine e_callVb (As := []) (rest := []) ⟨hx, hb, hml, hown, hts⟩ hK hP hD hS hA hl.1 (c_X5_thrown l E _ o2 ad2 (nI 0) ((months wm st (gr, co) mo k).1) ((months wm st (gr, co) mo k).2) sd tk wm st (mo + k) nx__12 lb fr) (cwV 0 hts gL_law_X5_thrown rfl rfl rfl (by decide +kernel) ⟨Nat.le_of_ble_eq_true rfl, Nat.le_of_ble_eq_true rfl⟩) (ci := 5) rfl rfl rfl rfl (Nat.le_of_ble_eq_true rfl) dL_law_851 ⟨by show 40 + 3 * z + 0 + 0 + 0 ≤ 601024; omega, by show 2500 + 168 * z + 0 + 0 + 0 ≤ 7293034; omega⟩ (fun u_13 H locs hu_14 hsz1 hP hD hS => ?_)
    have hP : va_P E.1 vwCl (wAll E o ad wm st ((months wm st (gr, co) mo k).1) ((months wm st (gr, co) mo k).2) hb1__9 (nI (mo + k)) ga ca ha_ (nI ma) sd tk op sp rc rn wa ++ wMo E o2 ad2 (nI 0) ((months wm st (gr, co) mo k).1) ((months wm st (gr, co) mo k).2) sd tk wm st (nI (mo + k)) nx__12 lb fr ++ [(oq, .inl (E.2.2.2, 1, .inr (.inl (vp_updL lo 0 ((nI (heads (months wm st (gr, co) mo k).2) - nI (heads co)).toInt64)))))]) H := hP
    have hD : va_D (lA s) (wAll E o ad wm st ((months wm st (gr, co) mo k).1) ((months wm st (gr, co) mo k).2) hb1__9 (nI (mo + k)) ga ca ha_ (nI ma) sd tk op sp rc rn wa ++ wMo E o2 ad2 (nI 0) ((months wm st (gr, co) mo k).1) ((months wm st (gr, co) mo k).2) sd tk wm st (nI (mo + k)) nx__12 lb fr ++ [(oq, .inl (E.2.2.2, 1, .inr (.inl (vp_updL lo 0 ((nI (heads (months wm st (gr, co) mo k).2) - nI (heads co)).toInt64)))))]) := hD
    refine W.eq (g2 := F0 m 854 ls [.int (nI 0)]) rfl ?_
    refine lv_iload hx hb dL_law_854 (lv_at hl 1 rfl) ?_
    refine n_icmp_eq (x := 0) (y := 0) (by omega) (by omega) (tgt := 861) hx hb dL_law_856 (by decide) (fun c856 => ?_) (fun c856 => absurd rfl c856)
    refine lv_iload hx hb dL_law_861 (lv_at hl 1 rfl) ?_
    refine n_if_ne (x := 0) (by omega) (tgt := 878) hx hb dL_law_863 (by decide) (fun c863 => (by omega)) (fun c863 => ?_)
    refine lv_aload_n hx hb dL_law_866 rfl (lv_at hl 3 rfl) ?_
    refine lv_iconst (v := nI 0) hx hb dL_law_867 (by decide +kernel) ?_
    refine e_lald hK hP 30 rfl 0 (by omega) (by decide) hx hb dL_law_868 ?_
    refine lv_iload hx hb dL_law_869 (lv_at hl 0 rfl) ?_
    refine lv_i2l hx hb dL_law_871 rfl ?_
    refine W.lcmp hx hb dL_law_872 ?_
    refine e_top (y := nI 0) (show lg_cmp ((vp_updL lo 0 ((nI (heads (months wm st (gr, co) mo k).2) - nI (heads co)).toInt64)) 0) ((nI (heads (months wm st (gr, co) mo k).2) - nI (heads co)).toInt64) = nI 0 from (lg_cmp_eq _ _).mpr rfl) ?_
    refine n_if_eq (x := 0) (by omega) (tgt := 878) hx hb dL_law_873 (by decide) (fun c873 => ?_) (fun c873 => (by omega))
    refine lv_goto (tgt := 1129) hx hb dL_law_878 (by decide) ?_
    refine lv_iinc (v := nI (w + 4)) (lv' := [(4, .int (nI (w + 4))), (6, .int (nI (heads (months wm st (gr, co) mo k).2) - nI (heads co))), (5, .int (nI 0)), (3, .ref oq), (2, .ref o2), (1, .ref o), (0, .ref b)]) hx hb dL_law_1129 hl (k := 2) rfl (nI_add w 4) (by decide) rfl (fun ls hl => ?_)
    refine lv_goto (tgt := 23) hx hb dL_law_1132 (by decide) ?_
    exact W.widen (by show 40 + 3 * z + 0 + 0 + 0 ≤ 40 + 3 * (z + 1); omega) (by show 2500 + 168 * z + 0 + 0 + 0 ≤ 2500 + 168 * (z + 1); omega) (kk (w + 4) wm st ((months wm st (gr, co) mo k).1) ((months wm st (gr, co) mo k).2) hb1__9 (mo + k) ga ca ha_ ma sd tk op sp rc rn wa (nI 0) nx__12 lb fr (vp_updL lo 0 ((nI (heads (months wm st (gr, co) mo k).2) - nI (heads co)).toInt64)) H locs ls (by omega) (by omega) hT (Rg_months hT (x := (gr, co)) hR mo k) hP hD hS (lv_sub hl [0, 3, 4, 5, 6] rfl))

