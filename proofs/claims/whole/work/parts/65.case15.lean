set_option maxHeartbeats 16000000 in
set_option maxRecDepth 100000 in
theorem k_case15 {p : Program} {e : Env} {s : State} {m : MethodId} {below : List Frame} {meth : Method} {cd : Code} (l : Launch) (hlt : l.stackTraces = false) {b L : Nat} {xs : Nat → Int32} {E : eT} (C : lC p s m cd b L xs E) {Q : State → Prop} {o : Nat} {ad : Nat → Nat} {o2 : Nat} {ad2 : Nat → Nat} {oq : Nat} (z w : Nat) (kk : lHead p l e s m below meth cd b E Q o ad o2 ad2 oq (z + 1)) (hi : w + 4 ≤ L) (wm : Nat → Int32) (st : Nat → Int32) (gr : Nat → Int32) (co : Nat → Int32) (hb_ : Nat → Bool) (mo : Nat) (ga : Nat → Int32) (ca : Nat → Int32) (ha_ : Nat → Bool) (ma : Nat) (sd : Nat → Int32) (tk : Nat → Int32) (op : Nat → Bool) (sp : Nat → Nat) (rc : Nat → Nat) (rn : Nat) (wa : Nat → Int32) (th : Int32) (nx : Nat → Int32) (lb : Nat → Option Nat) (fr : Nat → Nat) (lo : Nat → Int64) (H : Heap) (locs : List Loc) (ls : Array Slot) (hw : w = 4 * z) (hmo : mo ≤ 120 * z) (hT : Tb wm st) (hR : Rg gr co) (hP : va_P E.1 vwCl (wAll E o ad wm st gr co hb_ (nI mo) ga ca ha_ (nI ma) sd tk op sp rc rn wa ++ wMo E o2 ad2 th gr co sd tk wm st (nI mo) nx lb fr ++ [(oq, .inl (E.2.2.2, 1, .inr (.inl lo)))]) H) (hD : va_D (lA s) (wAll E o ad wm st gr co hb_ (nI mo) ga ca ha_ (nI ma) sd tk op sp rc rn wa ++ wMo E o2 ad2 th gr co sd tk wm st (nI mo) nx lb fr ++ [(oq, .inl (E.2.2.2, 1, .inr (.inl lo)))])) (hS : va_S (lA s) s.heap H locs) (hl : lv_has ls 9 [(4, .int (nI w)), (3, .ref oq), (2, .ref o2), (1, .ref o), (0, .ref b)]) : W p l e room_1 s m #[Value.ref b] below meth cd H locs (40 + 3 * z) (2500 + 168 * z) Q (F0 m 1074 ls []) := by
  obtain ⟨hx, hb, hml, hown, hts, hK, hX, hXs, hbl, hL⟩ := C
  have hA : ∀ q : Nat, s.heap.size ≤ q → lA s q := fun _ h => h
  have hbA : ¬ lA s b := Nat.not_le.mpr hbl
  have hz : z ≤ 512 := by omega
  refine lv_aload_n hx hb dL_law_1074 rfl (lv_at hl 3 rfl) ?_
  refine e_callVa (As := []) (rest := []) ⟨hx, hb, hml, hown, hts⟩ hK hP hD hS hA hl.1 (c_X4_mean l E _ o ad wm st gr co hb_ mo ga ca ha_ ma sd tk op sp rc rn wa (mean_ne hR)) (cwV 0 hts gL_law_X4_mean rfl rfl rfl (by decide +kernel) ⟨Nat.le_of_ble_eq_true rfl, Nat.le_of_ble_eq_true rfl⟩) (ci := 4) rfl rfl rfl rfl (Nat.le_of_ble_eq_true rfl) dL_law_1075 ⟨by show 40 + 3 * z + 0 ≤ 601024; omega, by show 2500 + 168 * z + 0 ≤ 7293034; omega⟩ (fun u_1 H locs hu_2 hsz1 hP hD hS => ?_)
  have hP : va_P E.1 vwCl (wAll E o ad wm st gr co hb_ (nI mo) ga ca ha_ (nI ma) sd tk op sp rc rn wa ++ wMo E o2 ad2 th gr co sd tk wm st (nI mo) nx lb fr ++ [(oq, .inl (E.2.2.2, 1, .inr (.inl lo)))]) H := hP
  have hD : va_D (lA s) (wAll E o ad wm st gr co hb_ (nI mo) ga ca ha_ (nI ma) sd tk op sp rc rn wa ++ wMo E o2 ad2 th gr co sd tk wm st (nI mo) nx lb fr ++ [(oq, .inl (E.2.2.2, 1, .inr (.inl lo)))]) := hD
  refine W.eq (g2 := F0 m 1078 ls [.double (FP.ddiv (FP.i2d (sumI (dep gr co) 81)) 4635400285215260672)]) rfl ?_
  refine lv_dstore (lv' := [(5, .double (FP.ddiv (FP.i2d (sumI (dep gr co) 81)) 4635400285215260672)), (4, .int (nI w)), (3, .ref oq), (2, .ref o2), (1, .ref o), (0, .ref b)]) hx hb dL_law_1078 hl (by decide) rfl (fun ls hl => ?_)
  refine lv_aload_n hx hb dL_law_1080 rfl (lv_at hl 3 rfl) ?_
  refine e_callVb (As := []) (rest := []) ⟨hx, hb, hml, hown, hts⟩ hK hP hD hS hA hl.1 (c_X5_mean l E _ o2 ad2 th gr co sd tk wm st mo nx lb fr (mean_ne hR)) (cwV 0 hts gL_law_X5_mean rfl rfl rfl (by decide +kernel) ⟨Nat.le_of_ble_eq_true rfl, Nat.le_of_ble_eq_true rfl⟩) (ci := 5) rfl rfl rfl rfl (Nat.le_of_ble_eq_true rfl) dL_law_1081 ⟨by show 40 + 3 * z + 0 + 0 ≤ 601024; omega, by show 2500 + 168 * z + 0 + 0 ≤ 7293034; omega⟩ (fun u_3 H locs hu_4 hsz1 hP hD hS => ?_)
  have hP : va_P E.1 vwCl (wAll E o ad wm st gr co hb_ (nI mo) ga ca ha_ (nI ma) sd tk op sp rc rn wa ++ wMo E o2 ad2 (nI 0) gr co sd tk wm st (nI mo) nx lb fr ++ [(oq, .inl (E.2.2.2, 1, .inr (.inl lo)))]) H := hP
  have hD : va_D (lA s) (wAll E o ad wm st gr co hb_ (nI mo) ga ca ha_ (nI ma) sd tk op sp rc rn wa ++ wMo E o2 ad2 (nI 0) gr co sd tk wm st (nI mo) nx lb fr ++ [(oq, .inl (E.2.2.2, 1, .inr (.inl lo)))]) := hD
  refine W.eq (g2 := F0 m 1084 ls [.double (FP.ddiv (FP.i2d (sumI (dep gr co) 81)) 4635400285215260672)]) rfl ?_
  refine lv_dstore (lv' := [(7, .double (FP.ddiv (FP.i2d (sumI (dep gr co) 81)) 4635400285215260672)), (5, .double (FP.ddiv (FP.i2d (sumI (dep gr co) 81)) 4635400285215260672)), (4, .int (nI w)), (3, .ref oq), (2, .ref o2), (1, .ref o), (0, .ref b)]) hx hb dL_law_1084 hl (by decide) rfl (fun ls hl => ?_)
  refine lv_dload hx hb dL_law_1086 (lv_at hl 1 rfl) ?_
  refine lv_dload hx hb dL_law_1088 (lv_at hl 0 rfl) ?_
  refine lv_dcmp hx hb dL_law_1090 ?_
  refine lv_if_eq (tgt := 1112) hx hb dL_law_1091 (by decide) (fun c1091 => ?_) (fun c1091 => ?_)
  · refine lv_goto (tgt := 1129) hx hb dL_law_1112 (by decide) ?_
    refine lv_iinc (v := nI (w + 4)) (lv' := [(4, .int (nI (w + 4))), (7, .double (FP.ddiv (FP.i2d (sumI (dep gr co) 81)) 4635400285215260672)), (5, .double (FP.ddiv (FP.i2d (sumI (dep gr co) 81)) 4635400285215260672)), (3, .ref oq), (2, .ref o2), (1, .ref o), (0, .ref b)]) hx hb dL_law_1129 hl (k := 2) rfl (nI_add w 4) (by decide) rfl (fun ls hl => ?_)
    refine lv_goto (tgt := 23) hx hb dL_law_1132 (by decide) ?_
    exact W.widen (by show 40 + 3 * z + 0 + 0 ≤ 40 + 3 * (z + 1); omega) (by show 2500 + 168 * z + 0 + 0 ≤ 2500 + 168 * (z + 1); omega) (kk (w + 4) wm st gr co hb_ mo ga ca ha_ ma sd tk op sp rc rn wa (nI 0) nx lb fr lo H locs ls (by omega) (by omega) hT hR hP hD hS (lv_sub hl [0, 3, 4, 5, 6] rfl))
  · refine lv_dload hx hb dL_law_1094 (lv_at hl 1 rfl) ?_
    refine lv_dload hx hb dL_law_1096 (lv_at hl 1 rfl) ?_
    refine lv_dcmp hx hb dL_law_1098 ?_
    refine lv_if_eq (tgt := 1110) hx hb dL_law_1099 (by decide) (fun c1099 => absurd c1099 c1091) (fun c1099 => ?_)
    refine lv_dload hx hb dL_law_1102 (lv_at hl 0 rfl) ?_
    refine lv_dload hx hb dL_law_1104 (lv_at hl 0 rfl) ?_
    refine lv_dcmp hx hb dL_law_1106 ?_
    refine lv_if_ne (tgt := 1112) hx hb dL_law_1107 (by decide) (fun c1107 => ?_) (fun c1107 => (by first | exact absurd c1107 c1091 | exact absurd c1091 c1107))
    refine lv_goto (tgt := 1129) hx hb dL_law_1112 (by decide) ?_
    refine lv_iinc (v := nI (w + 4)) (lv' := [(4, .int (nI (w + 4))), (7, .double (FP.ddiv (FP.i2d (sumI (dep gr co) 81)) 4635400285215260672)), (5, .double (FP.ddiv (FP.i2d (sumI (dep gr co) 81)) 4635400285215260672)), (3, .ref oq), (2, .ref o2), (1, .ref o), (0, .ref b)]) hx hb dL_law_1129 hl (k := 2) rfl (nI_add w 4) (by decide) rfl (fun ls hl => ?_)
    refine lv_goto (tgt := 23) hx hb dL_law_1132 (by decide) ?_
    exact W.widen (by show 40 + 3 * z + 0 + 0 ≤ 40 + 3 * (z + 1); omega) (by show 2500 + 168 * z + 0 + 0 ≤ 2500 + 168 * (z + 1); omega) (kk (w + 4) wm st gr co hb_ mo ga ca ha_ ma sd tk op sp rc rn wa (nI 0) nx lb fr lo H locs ls (by omega) (by omega) hT hR hP hD hS (lv_sub hl [0, 3, 4, 5, 6] rfl))

