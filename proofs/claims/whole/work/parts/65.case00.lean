set_option maxHeartbeats 16000000 in
set_option maxRecDepth 100000 in
theorem k_case0 {p : Program} {e : Env} {s : State} {m : MethodId} {below : List Frame} {meth : Method} {cd : Code} (l : Launch) (hlt : l.stackTraces = false) {b L : Nat} {xs : Nat → Int32} {E : eT} (C : lC p s m cd b L xs E) {Q : State → Prop} {o : Nat} {ad : Nat → Nat} {o2 : Nat} {ad2 : Nat → Nat} {oq : Nat} (z w : Nat) (kk : lHead p l e s m below meth cd b E Q o ad o2 ad2 oq (z + 1)) (hi : w + 4 ≤ L) (wm : Nat → Int32) (st : Nat → Int32) (gr : Nat → Int32) (co : Nat → Int32) (hb_ : Nat → Bool) (mo : Nat) (ga : Nat → Int32) (ca : Nat → Int32) (ha_ : Nat → Bool) (ma : Nat) (sd : Nat → Int32) (tk : Nat → Int32) (op : Nat → Bool) (sp : Nat → Nat) (rc : Nat → Nat) (rn : Nat) (wa : Nat → Int32) (th : Int32) (nx : Nat → Int32) (lb : Nat → Option Nat) (fr : Nat → Nat) (lo : Nat → Int64) (H : Heap) (locs : List Loc) (ls : Array Slot) (hw : w = 4 * z) (hmo : mo ≤ 120 * z) (hT : Tb wm st) (hR : Rg gr co) (hP : va_P E.1 vwCl (wAll E o ad wm st gr co hb_ (nI mo) ga ca ha_ (nI ma) sd tk op sp rc rn wa ++ wMo E o2 ad2 th gr co sd tk wm st (nI mo) nx lb fr ++ [(oq, .inl (E.2.2.2, 1, .inr (.inl lo)))]) H) (hD : va_D (lA s) (wAll E o ad wm st gr co hb_ (nI mo) ga ca ha_ (nI ma) sd tk op sp rc rn wa ++ wMo E o2 ad2 th gr co sd tk wm st (nI mo) nx lb fr ++ [(oq, .inl (E.2.2.2, 1, .inr (.inl lo)))])) (hS : va_S (lA s) s.heap H locs) (hl : lv_has ls 9 [(4, .int (nI w)), (3, .ref oq), (2, .ref o2), (1, .ref o), (0, .ref b)]) : W p l e room_1 s m #[Value.ref b] below meth cd H locs (40 + 3 * z) (2500 + 168 * z) Q (F0 m 120 ls []) := by
  obtain ⟨hx, hb, hml, hown, hts, hK, hX, hXs, hbl, hL⟩ := C
  have hA : ∀ q : Nat, s.heap.size ≤ q → lA s q := fun _ h => h
  have hbA : ¬ lA s b := Nat.not_le.mpr hbl
  have hz : z ≤ 512 := by omega
  cases hc : isCellB (xs (w + 1)) (xs (w + 2)) with
  | false =>
    refine lv_aload_n hx hb dL_law_120 rfl (lv_at hl 3 rfl) ?_
    refine lv_aload_n hx hb dL_law_121 rfl (lv_at hl 4 rfl) ?_
    refine lv_iload hx hb dL_law_122 (lv_at hl 0 rfl) ?_
    refine lv_iconst (v := nI 1) hx hb dL_law_124 (by decide +kernel) ?_
    refine lv_iadd hx hb dL_law_125 ?_
    refine e_top (nI_add _ _) ?_
    refine e_sld hXs hbl hbA hS (w + 1) (by omega) (by omega) (v := xs (w + 1)) rfl hx hb dL_law_126 ?_
    refine lv_aload_n hx hb dL_law_127 rfl (lv_at hl 4 rfl) ?_
    refine lv_iload hx hb dL_law_128 (lv_at hl 0 rfl) ?_
    refine lv_iconst (v := nI 2) hx hb dL_law_130 (by decide +kernel) ?_
    refine lv_iadd hx hb dL_law_131 ?_
    refine e_top (nI_add _ _) ?_
    refine e_sld hXs hbl hbA hS (w + 2) (by omega) (by omega) (v := xs (w + 2)) rfl hx hb dL_law_132 ?_
    refine lv_aload_n hx hb dL_law_133 rfl (lv_at hl 4 rfl) ?_
    refine lv_iload hx hb dL_law_134 (lv_at hl 0 rfl) ?_
    refine lv_iconst (v := nI 3) hx hb dL_law_136 (by decide +kernel) ?_
    refine lv_iadd hx hb dL_law_137 ?_
    refine e_top (nI_add _ _) ?_
    refine e_sld hXs hbl hbA hS (w + 3) (by omega) (by omega) (v := xs (w + 3)) rfl hx hb dL_law_138 ?_
    refine lv_aload_n hx hb dL_law_139 rfl (lv_at hl 1 rfl) ?_
    refine e_callSHac (As := [.ref o, .int (xs (w + 1)), .int (xs (w + 2)), .int (xs (w + 3)), .ref oq]) (rest := []) ⟨hx, hb, hml, hown, hts⟩ hK hX hP hD hS hA hl.1 (c_L_setGround_b1 l hlt E _ o ad wm st gr co hb_ mo ga ca ha_ ma sd tk op sp rc rn wa (xs (w + 1)) (xs (w + 2)) (xs (w + 3)) oq lo (by first | omega | assumption | rfl | (simp_all; done))) (vx_cwSW 5 hts gL_law_L_setGround rfl rfl rfl (by decide +kernel) ⟨Nat.le_of_ble_eq_true rfl, Nat.le_of_ble_eq_true rfl⟩) rfl rfl (Nat.le_of_ble_eq_true rfl) dL_law_140 ⟨by show 40 + 3 * z + 1 ≤ 601024; omega, by show 2500 + 168 * z + 6 ≤ 7293034; omega⟩ (fun u_1 H locs hu_2 hsz1 hP hD hS => ?_)
    have hP : va_P E.1 vwCl (wAll E o ad wm st gr co hb_ (nI mo) ga ca ha_ (nI ma) sd tk op sp rc rn wa ++ wMo E o2 ad2 th gr co sd tk wm st (nI mo) nx lb fr ++ [(oq, .inl (E.2.2.2, 1, .inr (.inl lo)))]) H := hP
    have hD : va_D (lA s) (wAll E o ad wm st gr co hb_ (nI mo) ga ca ha_ (nI ma) sd tk op sp rc rn wa ++ wMo E o2 ad2 th gr co sd tk wm st (nI mo) nx lb fr ++ [(oq, .inl (E.2.2.2, 1, .inr (.inl lo)))]) := hD
    refine W.eq (g2 := F0 m 143 ls [.int (nI 1)]) rfl ?_
    refine lv_istore (lv' := [(5, .int (nI 1)), (4, .int (nI w)), (3, .ref oq), (2, .ref o2), (1, .ref o), (0, .ref b)]) hx hb dL_law_143 hl (by decide) rfl (fun ls hl => ?_)
    refine lv_aload_n hx hb dL_law_145 rfl (lv_at hl 3 rfl) ?_
    refine lv_aload_n hx hb dL_law_146 rfl (lv_at hl 5 rfl) ?_
    refine lv_iload hx hb dL_law_147 (lv_at hl 1 rfl) ?_
    refine lv_iconst (v := nI 1) hx hb dL_law_149 (by decide +kernel) ?_
    refine lv_iadd hx hb dL_law_150 ?_
    refine e_top (nI_add _ _) ?_
    refine e_sld hXs hbl hbA hS (w + 1) (by omega) (by omega) (v := xs (w + 1)) rfl hx hb dL_law_151 ?_
    refine lv_aload_n hx hb dL_law_152 rfl (lv_at hl 5 rfl) ?_
    refine lv_iload hx hb dL_law_153 (lv_at hl 1 rfl) ?_
    refine lv_iconst (v := nI 2) hx hb dL_law_155 (by decide +kernel) ?_
    refine lv_iadd hx hb dL_law_156 ?_
    refine e_top (nI_add _ _) ?_
    refine e_sld hXs hbl hbA hS (w + 2) (by omega) (by omega) (v := xs (w + 2)) rfl hx hb dL_law_157 ?_
    refine lv_aload_n hx hb dL_law_158 rfl (lv_at hl 5 rfl) ?_
    refine lv_iload hx hb dL_law_159 (lv_at hl 1 rfl) ?_
    refine lv_iconst (v := nI 3) hx hb dL_law_161 (by decide +kernel) ?_
    refine lv_iadd hx hb dL_law_162 ?_
    refine e_top (nI_add _ _) ?_
    refine e_sld hXs hbl hbA hS (w + 3) (by omega) (by omega) (v := xs (w + 3)) rfl hx hb dL_law_163 ?_
    refine e_callVb (As := [.int (xs (w + 1)), .int (xs (w + 2)), .int (xs (w + 3))]) (rest := []) ⟨hx, hb, hml, hown, hts⟩ hK hP hD hS hA hl.1 (c_X5_setGround_b1 l E _ o2 ad2 th gr co sd tk wm st mo nx lb fr (xs (w + 1)) (xs (w + 2)) (xs (w + 3)) (by first | omega | assumption | rfl | (simp_all; done))) (cwV 3 hts gL_law_X5_setGround rfl rfl rfl (by decide +kernel) ⟨Nat.le_of_ble_eq_true rfl, Nat.le_of_ble_eq_true rfl⟩) (ci := 5) rfl rfl rfl rfl (Nat.le_of_ble_eq_true rfl) dL_law_164 ⟨by show 40 + 3 * z + 1 + 0 ≤ 601024; omega, by show 2500 + 168 * z + 6 + 0 ≤ 7293034; omega⟩ (fun u_3 H locs hu_4 hsz1 hP hD hS => ?_)
    have hP : va_P E.1 vwCl (wAll E o ad wm st gr co hb_ (nI mo) ga ca ha_ (nI ma) sd tk op sp rc rn wa ++ wMo E o2 ad2 (nI 1) gr co sd tk wm st (nI mo) nx lb fr ++ [(oq, .inl (E.2.2.2, 1, .inr (.inl lo)))]) H := hP
    have hD : va_D (lA s) (wAll E o ad wm st gr co hb_ (nI mo) ga ca ha_ (nI ma) sd tk op sp rc rn wa ++ wMo E o2 ad2 (nI 1) gr co sd tk wm st (nI mo) nx lb fr ++ [(oq, .inl (E.2.2.2, 1, .inr (.inl lo)))]) := hD
    refine W.eq (g2 := F0 m 167 ls [.int (nI 0)]) rfl ?_
    refine lv_istore (lv' := [(6, .int (nI 0)), (5, .int (nI 1)), (4, .int (nI w)), (3, .ref oq), (2, .ref o2), (1, .ref o), (0, .ref b)]) hx hb dL_law_167 hl (by decide) rfl (fun ls hl => ?_)
    refine lv_aload_n hx hb dL_law_169 rfl (lv_at hl 4 rfl) ?_
    refine e_callVb (As := []) (rest := []) ⟨hx, hb, hml, hown, hts⟩ hK hP hD hS hA hl.1 (c_X5_thrown l E _ o2 ad2 (nI 1) gr co sd tk wm st mo nx lb fr) (cwV 0 hts gL_law_X5_thrown rfl rfl rfl (by decide +kernel) ⟨Nat.le_of_ble_eq_true rfl, Nat.le_of_ble_eq_true rfl⟩) (ci := 5) rfl rfl rfl rfl (Nat.le_of_ble_eq_true rfl) dL_law_170 ⟨by show 40 + 3 * z + 1 + 0 + 0 ≤ 601024; omega, by show 2500 + 168 * z + 6 + 0 + 0 ≤ 7293034; omega⟩ (fun u_5 H locs hu_6 hsz1 hP hD hS => ?_)
    have hP : va_P E.1 vwCl (wAll E o ad wm st gr co hb_ (nI mo) ga ca ha_ (nI ma) sd tk op sp rc rn wa ++ wMo E o2 ad2 (nI 1) gr co sd tk wm st (nI mo) nx lb fr ++ [(oq, .inl (E.2.2.2, 1, .inr (.inl lo)))]) H := hP
    have hD : va_D (lA s) (wAll E o ad wm st gr co hb_ (nI mo) ga ca ha_ (nI ma) sd tk op sp rc rn wa ++ wMo E o2 ad2 (nI 1) gr co sd tk wm st (nI mo) nx lb fr ++ [(oq, .inl (E.2.2.2, 1, .inr (.inl lo)))]) := hD
    refine W.eq (g2 := F0 m 173 ls [.int (nI 1)]) rfl ?_
    refine lv_iload hx hb dL_law_173 (lv_at hl 1 rfl) ?_
    refine n_icmp_eq (x := 1) (y := 1) (by omega) (by omega) (tgt := 180) hx hb dL_law_175 (by decide) (fun c175 => ?_) (fun c175 => absurd rfl c175)
    refine lv_iload hx hb dL_law_180 (lv_at hl 1 rfl) ?_
    refine n_if_ne (x := 1) (by omega) (tgt := 197) hx hb dL_law_182 (by decide) (fun c182 => ?_) (fun c182 => (by omega))
    refine lv_goto (tgt := 1129) hx hb dL_law_197 (by decide) ?_
    refine lv_iinc (v := nI (w + 4)) (lv' := [(4, .int (nI (w + 4))), (6, .int (nI 0)), (5, .int (nI 1)), (3, .ref oq), (2, .ref o2), (1, .ref o), (0, .ref b)]) hx hb dL_law_1129 hl (k := 2) rfl (nI_add w 4) (by decide) rfl (fun ls hl => ?_)
    refine lv_goto (tgt := 23) hx hb dL_law_1132 (by decide) ?_
    exact W.widen (by show 40 + 3 * z + 1 + 0 + 0 ≤ 40 + 3 * (z + 1); omega) (by show 2500 + 168 * z + 6 + 0 + 0 ≤ 2500 + 168 * (z + 1); omega) (kk (w + 4) wm st gr co hb_ mo ga ca ha_ ma sd tk op sp rc rn wa (nI 1) nx lb fr lo H locs ls (by omega) (by omega) hT hR hP hD hS (lv_sub hl [0, 3, 4, 5, 6] rfl))
  | true =>
    obtain ⟨X, Y, hX9, hY9, e1, e2⟩ := isCellB_nat hc
    cases hv : isInB (xs (w + 3)) (nI 0) (nI 40) with
    | false =>
      refine lv_aload_n hx hb dL_law_120 rfl (lv_at hl 3 rfl) ?_
      refine lv_aload_n hx hb dL_law_121 rfl (lv_at hl 4 rfl) ?_
      refine lv_iload hx hb dL_law_122 (lv_at hl 0 rfl) ?_
      refine lv_iconst (v := nI 1) hx hb dL_law_124 (by decide +kernel) ?_
      refine lv_iadd hx hb dL_law_125 ?_
      refine e_top (nI_add _ _) ?_
      refine e_sld hXs hbl hbA hS (w + 1) (by omega) (by omega) (v := nI X) e1 hx hb dL_law_126 ?_
      refine lv_aload_n hx hb dL_law_127 rfl (lv_at hl 4 rfl) ?_
      refine lv_iload hx hb dL_law_128 (lv_at hl 0 rfl) ?_
      refine lv_iconst (v := nI 2) hx hb dL_law_130 (by decide +kernel) ?_
      refine lv_iadd hx hb dL_law_131 ?_
      refine e_top (nI_add _ _) ?_
      refine e_sld hXs hbl hbA hS (w + 2) (by omega) (by omega) (v := nI Y) e2 hx hb dL_law_132 ?_
      refine lv_aload_n hx hb dL_law_133 rfl (lv_at hl 4 rfl) ?_
      refine lv_iload hx hb dL_law_134 (lv_at hl 0 rfl) ?_
      refine lv_iconst (v := nI 3) hx hb dL_law_136 (by decide +kernel) ?_
      refine lv_iadd hx hb dL_law_137 ?_
      refine e_top (nI_add _ _) ?_
      refine e_sld hXs hbl hbA hS (w + 3) (by omega) (by omega) (v := xs (w + 3)) rfl hx hb dL_law_138 ?_
      refine lv_aload_n hx hb dL_law_139 rfl (lv_at hl 1 rfl) ?_
      refine e_callSHac (As := [.ref o, .int (nI X), .int (nI Y), .int (xs (w + 3)), .ref oq]) (rest := []) ⟨hx, hb, hml, hown, hts⟩ hK hX hP hD hS hA hl.1 (c_L_setGround_b2 l hlt E _ o ad wm st gr co hb_ mo ga ca ha_ ma sd tk op sp rc rn wa X Y (xs (w + 3)) oq lo (by first | omega | assumption | rfl | (simp_all; done)) (by first | omega | assumption | rfl | (simp_all; done)) (by first | omega | assumption | rfl | (simp_all; done))) (vx_cwSW 5 hts gL_law_L_setGround rfl rfl rfl (by decide +kernel) ⟨Nat.le_of_ble_eq_true rfl, Nat.le_of_ble_eq_true rfl⟩) rfl rfl (Nat.le_of_ble_eq_true rfl) dL_law_140 ⟨by show 40 + 3 * z + 1 ≤ 601024; omega, by show 2500 + 168 * z + 6 ≤ 7293034; omega⟩ (fun u_7 H locs hu_8 hsz1 hP hD hS => ?_)
      have hP : va_P E.1 vwCl (wAll E o ad wm st gr co hb_ (nI mo) ga ca ha_ (nI ma) sd tk op sp rc rn wa ++ wMo E o2 ad2 th gr co sd tk wm st (nI mo) nx lb fr ++ [(oq, .inl (E.2.2.2, 1, .inr (.inl lo)))]) H := hP
      have hD : va_D (lA s) (wAll E o ad wm st gr co hb_ (nI mo) ga ca ha_ (nI ma) sd tk op sp rc rn wa ++ wMo E o2 ad2 th gr co sd tk wm st (nI mo) nx lb fr ++ [(oq, .inl (E.2.2.2, 1, .inr (.inl lo)))]) := hD
      refine W.eq (g2 := F0 m 143 ls [.int (nI 2)]) rfl ?_
      refine lv_istore (lv' := [(5, .int (nI 2)), (4, .int (nI w)), (3, .ref oq), (2, .ref o2), (1, .ref o), (0, .ref b)]) hx hb dL_law_143 hl (by decide) rfl (fun ls hl => ?_)
      refine lv_aload_n hx hb dL_law_145 rfl (lv_at hl 3 rfl) ?_
      refine lv_aload_n hx hb dL_law_146 rfl (lv_at hl 5 rfl) ?_
      refine lv_iload hx hb dL_law_147 (lv_at hl 1 rfl) ?_
      refine lv_iconst (v := nI 1) hx hb dL_law_149 (by decide +kernel) ?_
      refine lv_iadd hx hb dL_law_150 ?_
      refine e_top (nI_add _ _) ?_
      refine e_sld hXs hbl hbA hS (w + 1) (by omega) (by omega) (v := nI X) e1 hx hb dL_law_151 ?_
      refine lv_aload_n hx hb dL_law_152 rfl (lv_at hl 5 rfl) ?_
      refine lv_iload hx hb dL_law_153 (lv_at hl 1 rfl) ?_
      refine lv_iconst (v := nI 2) hx hb dL_law_155 (by decide +kernel) ?_
      refine lv_iadd hx hb dL_law_156 ?_
      refine e_top (nI_add _ _) ?_
      refine e_sld hXs hbl hbA hS (w + 2) (by omega) (by omega) (v := nI Y) e2 hx hb dL_law_157 ?_
      refine lv_aload_n hx hb dL_law_158 rfl (lv_at hl 5 rfl) ?_
      refine lv_iload hx hb dL_law_159 (lv_at hl 1 rfl) ?_
      refine lv_iconst (v := nI 3) hx hb dL_law_161 (by decide +kernel) ?_
      refine lv_iadd hx hb dL_law_162 ?_
      refine e_top (nI_add _ _) ?_
      refine e_sld hXs hbl hbA hS (w + 3) (by omega) (by omega) (v := xs (w + 3)) rfl hx hb dL_law_163 ?_
      refine e_callVb (As := [.int (nI X), .int (nI Y), .int (xs (w + 3))]) (rest := []) ⟨hx, hb, hml, hown, hts⟩ hK hP hD hS hA hl.1 (c_X5_setGround_b2 l E _ o2 ad2 th gr co sd tk wm st mo nx lb fr X Y (xs (w + 3)) (by first | omega | assumption | rfl | (simp_all; done)) (by first | omega | assumption | rfl | (simp_all; done)) (by first | omega | assumption | rfl | (simp_all; done))) (cwV 3 hts gL_law_X5_setGround rfl rfl rfl (by decide +kernel) ⟨Nat.le_of_ble_eq_true rfl, Nat.le_of_ble_eq_true rfl⟩) (ci := 5) rfl rfl rfl rfl (Nat.le_of_ble_eq_true rfl) dL_law_164 ⟨by show 40 + 3 * z + 1 + 0 ≤ 601024; omega, by show 2500 + 168 * z + 6 + 0 ≤ 7293034; omega⟩ (fun u_9 H locs hu_10 hsz1 hP hD hS => ?_)
      have hP : va_P E.1 vwCl (wAll E o ad wm st gr co hb_ (nI mo) ga ca ha_ (nI ma) sd tk op sp rc rn wa ++ wMo E o2 ad2 (nI 2) gr co sd tk wm st (nI mo) nx lb fr ++ [(oq, .inl (E.2.2.2, 1, .inr (.inl lo)))]) H := hP
      have hD : va_D (lA s) (wAll E o ad wm st gr co hb_ (nI mo) ga ca ha_ (nI ma) sd tk op sp rc rn wa ++ wMo E o2 ad2 (nI 2) gr co sd tk wm st (nI mo) nx lb fr ++ [(oq, .inl (E.2.2.2, 1, .inr (.inl lo)))]) := hD
      refine W.eq (g2 := F0 m 167 ls [.int (nI 0)]) rfl ?_
      refine lv_istore (lv' := [(6, .int (nI 0)), (5, .int (nI 2)), (4, .int (nI w)), (3, .ref oq), (2, .ref o2), (1, .ref o), (0, .ref b)]) hx hb dL_law_167 hl (by decide) rfl (fun ls hl => ?_)
      refine lv_aload_n hx hb dL_law_169 rfl (lv_at hl 4 rfl) ?_
      refine e_callVb (As := []) (rest := []) ⟨hx, hb, hml, hown, hts⟩ hK hP hD hS hA hl.1 (c_X5_thrown l E _ o2 ad2 (nI 2) gr co sd tk wm st mo nx lb fr) (cwV 0 hts gL_law_X5_thrown rfl rfl rfl (by decide +kernel) ⟨Nat.le_of_ble_eq_true rfl, Nat.le_of_ble_eq_true rfl⟩) (ci := 5) rfl rfl rfl rfl (Nat.le_of_ble_eq_true rfl) dL_law_170 ⟨by show 40 + 3 * z + 1 + 0 + 0 ≤ 601024; omega, by show 2500 + 168 * z + 6 + 0 + 0 ≤ 7293034; omega⟩ (fun u_11 H locs hu_12 hsz1 hP hD hS => ?_)
      have hP : va_P E.1 vwCl (wAll E o ad wm st gr co hb_ (nI mo) ga ca ha_ (nI ma) sd tk op sp rc rn wa ++ wMo E o2 ad2 (nI 2) gr co sd tk wm st (nI mo) nx lb fr ++ [(oq, .inl (E.2.2.2, 1, .inr (.inl lo)))]) H := hP
      have hD : va_D (lA s) (wAll E o ad wm st gr co hb_ (nI mo) ga ca ha_ (nI ma) sd tk op sp rc rn wa ++ wMo E o2 ad2 (nI 2) gr co sd tk wm st (nI mo) nx lb fr ++ [(oq, .inl (E.2.2.2, 1, .inr (.inl lo)))]) := hD
      refine W.eq (g2 := F0 m 173 ls [.int (nI 2)]) rfl ?_
      refine lv_iload hx hb dL_law_173 (lv_at hl 1 rfl) ?_
      refine n_icmp_eq (x := 2) (y := 2) (by omega) (by omega) (tgt := 180) hx hb dL_law_175 (by decide) (fun c175 => ?_) (fun c175 => absurd rfl c175)
      refine lv_iload hx hb dL_law_180 (lv_at hl 1 rfl) ?_
      refine n_if_ne (x := 2) (by omega) (tgt := 197) hx hb dL_law_182 (by decide) (fun c182 => ?_) (fun c182 => (by omega))
      refine lv_goto (tgt := 1129) hx hb dL_law_197 (by decide) ?_
      refine lv_iinc (v := nI (w + 4)) (lv' := [(4, .int (nI (w + 4))), (6, .int (nI 0)), (5, .int (nI 2)), (3, .ref oq), (2, .ref o2), (1, .ref o), (0, .ref b)]) hx hb dL_law_1129 hl (k := 2) rfl (nI_add w 4) (by decide) rfl (fun ls hl => ?_)
      refine lv_goto (tgt := 23) hx hb dL_law_1132 (by decide) ?_
      exact W.widen (by show 40 + 3 * z + 1 + 0 + 0 ≤ 40 + 3 * (z + 1); omega) (by show 2500 + 168 * z + 6 + 0 + 0 ≤ 2500 + 168 * (z + 1); omega) (kk (w + 4) wm st gr co hb_ mo ga ca ha_ ma sd tk op sp rc rn wa (nI 2) nx lb fr lo H locs ls (by omega) (by omega) hT hR hP hD hS (lv_sub hl [0, 3, 4, 5, 6] rfl))
    | true =>
      refine lv_aload_n hx hb dL_law_120 rfl (lv_at hl 3 rfl) ?_
      refine lv_aload_n hx hb dL_law_121 rfl (lv_at hl 4 rfl) ?_
      refine lv_iload hx hb dL_law_122 (lv_at hl 0 rfl) ?_
      refine lv_iconst (v := nI 1) hx hb dL_law_124 (by decide +kernel) ?_
      refine lv_iadd hx hb dL_law_125 ?_
      refine e_top (nI_add _ _) ?_
      refine e_sld hXs hbl hbA hS (w + 1) (by omega) (by omega) (v := nI X) e1 hx hb dL_law_126 ?_
      refine lv_aload_n hx hb dL_law_127 rfl (lv_at hl 4 rfl) ?_
      refine lv_iload hx hb dL_law_128 (lv_at hl 0 rfl) ?_
      refine lv_iconst (v := nI 2) hx hb dL_law_130 (by decide +kernel) ?_
      refine lv_iadd hx hb dL_law_131 ?_
      refine e_top (nI_add _ _) ?_
      refine e_sld hXs hbl hbA hS (w + 2) (by omega) (by omega) (v := nI Y) e2 hx hb dL_law_132 ?_
      refine lv_aload_n hx hb dL_law_133 rfl (lv_at hl 4 rfl) ?_
      refine lv_iload hx hb dL_law_134 (lv_at hl 0 rfl) ?_
      refine lv_iconst (v := nI 3) hx hb dL_law_136 (by decide +kernel) ?_
      refine lv_iadd hx hb dL_law_137 ?_
      refine e_top (nI_add _ _) ?_
      refine e_sld hXs hbl hbA hS (w + 3) (by omega) (by omega) (v := xs (w + 3)) rfl hx hb dL_law_138 ?_
      refine lv_aload_n hx hb dL_law_139 rfl (lv_at hl 1 rfl) ?_
      refine e_callSHac (As := [.ref o, .int (nI X), .int (nI Y), .int (xs (w + 3)), .ref oq]) (rest := []) ⟨hx, hb, hml, hown, hts⟩ hK hX hP hD hS hA hl.1 (c_L_setGround l hlt E _ o ad wm st gr co hb_ mo ga ca ha_ ma sd tk op sp rc rn wa X Y (xs (w + 3)) oq lo (by first | omega | assumption | rfl | (simp_all; done)) (by first | omega | assumption | rfl | (simp_all; done)) (by first | omega | assumption | rfl | (simp_all; done))) (vx_cwSW 5 hts gL_law_L_setGround rfl rfl rfl (by decide +kernel) ⟨Nat.le_of_ble_eq_true rfl, Nat.le_of_ble_eq_true rfl⟩) rfl rfl (Nat.le_of_ble_eq_true rfl) dL_law_140 ⟨by show 40 + 3 * z + 0 ≤ 601024; omega, by show 2500 + 168 * z + 0 ≤ 7293034; omega⟩ (fun u_13 H locs hu_14 hsz1 hP hD hS => ?_)
      have hP : va_P E.1 vwCl (wAll E o ad wm st (upd gr ((9 * Y) + X) (xs (w + 3))) (upd co ((9 * Y) + X) (iMin (co ((9 * Y) + X)) (xs (w + 3)))) hb_ (nI mo) ga ca ha_ (nI ma) sd tk op sp rc rn wa ++ wMo E o2 ad2 th gr co sd tk wm st (nI mo) nx lb fr ++ [(oq, .inl (E.2.2.2, 1, .inr (.inl (vp_updL lo 0 ((gr ((9 * Y) + X)).toInt64)))))]) H := hP
      have hD : va_D (lA s) (wAll E o ad wm st (upd gr ((9 * Y) + X) (xs (w + 3))) (upd co ((9 * Y) + X) (iMin (co ((9 * Y) + X)) (xs (w + 3)))) hb_ (nI mo) ga ca ha_ (nI ma) sd tk op sp rc rn wa ++ wMo E o2 ad2 th gr co sd tk wm st (nI mo) nx lb fr ++ [(oq, .inl (E.2.2.2, 1, .inr (.inl (vp_updL lo 0 ((gr ((9 * Y) + X)).toInt64)))))]) := hD
      refine W.eq (g2 := F0 m 143 ls [.int (nI 0)]) rfl ?_
      refine lv_istore (lv' := [(5, .int (nI 0)), (4, .int (nI w)), (3, .ref oq), (2, .ref o2), (1, .ref o), (0, .ref b)]) hx hb dL_law_143 hl (by decide) rfl (fun ls hl => ?_)
      refine lv_aload_n hx hb dL_law_145 rfl (lv_at hl 3 rfl) ?_
      refine lv_aload_n hx hb dL_law_146 rfl (lv_at hl 5 rfl) ?_
      refine lv_iload hx hb dL_law_147 (lv_at hl 1 rfl) ?_
      refine lv_iconst (v := nI 1) hx hb dL_law_149 (by decide +kernel) ?_
      refine lv_iadd hx hb dL_law_150 ?_
      refine e_top (nI_add _ _) ?_
      refine e_sld hXs hbl hbA hS (w + 1) (by omega) (by omega) (v := nI X) e1 hx hb dL_law_151 ?_
      refine lv_aload_n hx hb dL_law_152 rfl (lv_at hl 5 rfl) ?_
      refine lv_iload hx hb dL_law_153 (lv_at hl 1 rfl) ?_
      refine lv_iconst (v := nI 2) hx hb dL_law_155 (by decide +kernel) ?_
      refine lv_iadd hx hb dL_law_156 ?_
      refine e_top (nI_add _ _) ?_
      refine e_sld hXs hbl hbA hS (w + 2) (by omega) (by omega) (v := nI Y) e2 hx hb dL_law_157 ?_
      refine lv_aload_n hx hb dL_law_158 rfl (lv_at hl 5 rfl) ?_
      refine lv_iload hx hb dL_law_159 (lv_at hl 1 rfl) ?_
      refine lv_iconst (v := nI 3) hx hb dL_law_161 (by decide +kernel) ?_
      refine lv_iadd hx hb dL_law_162 ?_
      refine e_top (nI_add _ _) ?_
      refine e_sld hXs hbl hbA hS (w + 3) (by omega) (by omega) (v := xs (w + 3)) rfl hx hb dL_law_163 ?_
      refine e_callVb (As := [.int (nI X), .int (nI Y), .int (xs (w + 3))]) (rest := []) ⟨hx, hb, hml, hown, hts⟩ hK hP hD hS hA hl.1 (c_X5_setGround l E _ o2 ad2 th gr co sd tk wm st mo nx lb fr X Y (xs (w + 3)) (by first | omega | assumption | rfl | (simp_all; done)) (by first | omega | assumption | rfl | (simp_all; done)) (by first | omega | assumption | rfl | (simp_all; done))) (cwV 3 hts gL_law_X5_setGround rfl rfl rfl (by decide +kernel) ⟨Nat.le_of_ble_eq_true rfl, Nat.le_of_ble_eq_true rfl⟩) (ci := 5) rfl rfl rfl rfl (Nat.le_of_ble_eq_true rfl) dL_law_164 ⟨by show 40 + 3 * z + 0 + 0 ≤ 601024; omega, by show 2500 + 168 * z + 0 + 0 ≤ 7293034; omega⟩ (fun u_15 H locs hu_16 hsz1 hP hD hS => ?_)
      have hP : va_P E.1 vwCl (wAll E o ad wm st (upd gr ((9 * Y) + X) (xs (w + 3))) (upd co ((9 * Y) + X) (iMin (co ((9 * Y) + X)) (xs (w + 3)))) hb_ (nI mo) ga ca ha_ (nI ma) sd tk op sp rc rn wa ++ wMo E o2 ad2 (nI 0) (upd gr ((9 * Y) + X) (xs (w + 3))) (upd co ((9 * Y) + X) (iMin (co ((9 * Y) + X)) (xs (w + 3)))) sd tk wm st (nI mo) nx lb fr ++ [(oq, .inl (E.2.2.2, 1, .inr (.inl (vp_updL lo 0 ((gr ((9 * Y) + X)).toInt64)))))]) H := hP
      have hD : va_D (lA s) (wAll E o ad wm st (upd gr ((9 * Y) + X) (xs (w + 3))) (upd co ((9 * Y) + X) (iMin (co ((9 * Y) + X)) (xs (w + 3)))) hb_ (nI mo) ga ca ha_ (nI ma) sd tk op sp rc rn wa ++ wMo E o2 ad2 (nI 0) (upd gr ((9 * Y) + X) (xs (w + 3))) (upd co ((9 * Y) + X) (iMin (co ((9 * Y) + X)) (xs (w + 3)))) sd tk wm st (nI mo) nx lb fr ++ [(oq, .inl (E.2.2.2, 1, .inr (.inl (vp_updL lo 0 ((gr ((9 * Y) + X)).toInt64)))))]) := hD
      refine W.eq (g2 := F0 m 167 ls [.int (gr ((9 * Y) + X))]) rfl ?_
      refine lv_istore (lv' := [(6, .int (gr ((9 * Y) + X))), (5, .int (nI 0)), (4, .int (nI w)), (3, .ref oq), (2, .ref o2), (1, .ref o), (0, .ref b)]) hx hb dL_law_167 hl (by decide) rfl (fun ls hl => ?_)
      refine lv_aload_n hx hb dL_law_169 rfl (lv_at hl 4 rfl) ?_
      refine e_callVb (As := []) (rest := []) ⟨hx, hb, hml, hown, hts⟩ hK hP hD hS hA hl.1 (c_X5_thrown l E _ o2 ad2 (nI 0) (upd gr ((9 * Y) + X) (xs (w + 3))) (upd co ((9 * Y) + X) (iMin (co ((9 * Y) + X)) (xs (w + 3)))) sd tk wm st mo nx lb fr) (cwV 0 hts gL_law_X5_thrown rfl rfl rfl (by decide +kernel) ⟨Nat.le_of_ble_eq_true rfl, Nat.le_of_ble_eq_true rfl⟩) (ci := 5) rfl rfl rfl rfl (Nat.le_of_ble_eq_true rfl) dL_law_170 ⟨by show 40 + 3 * z + 0 + 0 + 0 ≤ 601024; omega, by show 2500 + 168 * z + 0 + 0 + 0 ≤ 7293034; omega⟩ (fun u_17 H locs hu_18 hsz1 hP hD hS => ?_)
      have hP : va_P E.1 vwCl (wAll E o ad wm st (upd gr ((9 * Y) + X) (xs (w + 3))) (upd co ((9 * Y) + X) (iMin (co ((9 * Y) + X)) (xs (w + 3)))) hb_ (nI mo) ga ca ha_ (nI ma) sd tk op sp rc rn wa ++ wMo E o2 ad2 (nI 0) (upd gr ((9 * Y) + X) (xs (w + 3))) (upd co ((9 * Y) + X) (iMin (co ((9 * Y) + X)) (xs (w + 3)))) sd tk wm st (nI mo) nx lb fr ++ [(oq, .inl (E.2.2.2, 1, .inr (.inl (vp_updL lo 0 ((gr ((9 * Y) + X)).toInt64)))))]) H := hP
      have hD : va_D (lA s) (wAll E o ad wm st (upd gr ((9 * Y) + X) (xs (w + 3))) (upd co ((9 * Y) + X) (iMin (co ((9 * Y) + X)) (xs (w + 3)))) hb_ (nI mo) ga ca ha_ (nI ma) sd tk op sp rc rn wa ++ wMo E o2 ad2 (nI 0) (upd gr ((9 * Y) + X) (xs (w + 3))) (upd co ((9 * Y) + X) (iMin (co ((9 * Y) + X)) (xs (w + 3)))) sd tk wm st (nI mo) nx lb fr ++ [(oq, .inl (E.2.2.2, 1, .inr (.inl (vp_updL lo 0 ((gr ((9 * Y) + X)).toInt64)))))]) := hD
      refine W.eq (g2 := F0 m 173 ls [.int (nI 0)]) rfl ?_
      refine lv_iload hx hb dL_law_173 (lv_at hl 1 rfl) ?_
      refine n_icmp_eq (x := 0) (y := 0) (by omega) (by omega) (tgt := 180) hx hb dL_law_175 (by decide) (fun c175 => ?_) (fun c175 => absurd rfl c175)
      refine lv_iload hx hb dL_law_180 (lv_at hl 1 rfl) ?_
      refine n_if_ne (x := 0) (by omega) (tgt := 197) hx hb dL_law_182 (by decide) (fun c182 => (by omega)) (fun c182 => ?_)
      refine lv_aload_n hx hb dL_law_185 rfl (lv_at hl 3 rfl) ?_
      refine lv_iconst (v := nI 0) hx hb dL_law_186 (by decide +kernel) ?_
      refine e_lald hK hP 30 rfl 0 (by omega) (by decide) hx hb dL_law_187 ?_
      refine lv_iload hx hb dL_law_188 (lv_at hl 0 rfl) ?_
      refine lv_i2l hx hb dL_law_190 rfl ?_
      refine W.lcmp hx hb dL_law_191 ?_
      refine e_top (y := nI 0) (show lg_cmp ((vp_updL lo 0 ((gr ((9 * Y) + X)).toInt64)) 0) ((gr ((9 * Y) + X)).toInt64) = nI 0 from (lg_cmp_eq _ _).mpr rfl) ?_
      refine n_if_eq (x := 0) (by omega) (tgt := 197) hx hb dL_law_192 (by decide) (fun c192 => ?_) (fun c192 => (by omega))
      refine lv_goto (tgt := 1129) hx hb dL_law_197 (by decide) ?_
      refine lv_iinc (v := nI (w + 4)) (lv' := [(4, .int (nI (w + 4))), (6, .int (gr ((9 * Y) + X))), (5, .int (nI 0)), (3, .ref oq), (2, .ref o2), (1, .ref o), (0, .ref b)]) hx hb dL_law_1129 hl (k := 2) rfl (nI_add w 4) (by decide) rfl (fun ls hl => ?_)
      refine lv_goto (tgt := 23) hx hb dL_law_1132 (by decide) ?_
      exact W.widen (by show 40 + 3 * z + 0 + 0 + 0 ≤ 40 + 3 * (z + 1); omega) (by show 2500 + 168 * z + 0 + 0 + 0 ≤ 2500 + 168 * (z + 1); omega) (kk (w + 4) wm st (upd gr ((9 * Y) + X) (xs (w + 3))) (upd co ((9 * Y) + X) (iMin (co ((9 * Y) + X)) (xs (w + 3)))) hb_ mo ga ca ha_ ma sd tk op sp rc rn wa (nI 0) nx lb fr (vp_updL lo 0 ((gr ((9 * Y) + X)).toInt64)) H locs ls (by omega) (by omega) hT (Rg_ground hR hv _) hP hD hS (lv_sub hl [0, 3, 4, 5, 6] rfl))

