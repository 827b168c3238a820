/-- the head of the law's loop, with z calls done -/
def lHead (p : Program) (l : Launch) (e : Env) (s : State) (m : MethodId) (below : List Frame) (meth : Method) (cd : Code) (b : Nat) (E : eT) (Q : State → Prop) (o : Nat) (ad : Nat → Nat) (o2 : Nat) (ad2 : Nat → Nat) (oq : Nat) (z : Nat) : Prop :=
  ∀ (w : Nat) (wm : Nat → Int32) (st : Nat → Int32) (gr : Nat → Int32) (co : Nat → Int32) (hb_ : Nat → Bool) (mo : Nat) (ga : Nat → Int32) (ca : Nat → Int32) (ha_ : Nat → Bool) (ma : Nat) (sd : Nat → Int32) (tk : Nat → Int32) (op : Nat → Bool) (sp : Nat → Nat) (rc : Nat → Nat) (rn : Nat) (wa : Nat → Int32) (th : Int32) (nx : Nat → Int32) (lb : Nat → Option Nat) (fr : Nat → Nat) (lo : Nat → Int64) (H : Heap) (locs : List Loc) (ls : Array Slot), w = 4 * z → mo ≤ 120 * z → Tb wm st → Rg gr co → va_P E.1 vwCl (wAll E o ad wm st gr co hb_ (nI mo) ga ca ha_ (nI ma) sd tk op sp rc rn wa ++ wMo E o2 ad2 th gr co sd tk wm st (nI mo) nx lb fr ++ [(oq, .inl (E.2.2.2, 1, .inr (.inl lo)))]) H → va_D (lA s) (wAll E o ad wm st gr co hb_ (nI mo) ga ca ha_ (nI ma) sd tk op sp rc rn wa ++ wMo E o2 ad2 th gr co sd tk wm st (nI mo) nx lb fr ++ [(oq, .inl (E.2.2.2, 1, .inr (.inl lo)))]) → va_S (lA s) s.heap H locs → lv_has ls 9 [(4, .int (nI w)), (3, .ref oq), (2, .ref o2), (1, .ref o), (0, .ref b)] → W p l e room_1 s m #[Value.ref b] below meth cd H locs (40 + 3 * z) (2500 + 168 * z) Q (F0 m 23 ls [])

set_option maxHeartbeats 16000000 in
set_option maxRecDepth 100000 in
theorem k_case0 {p : Program} {e : Env} {s : State} {m : MethodId} {below : List Frame} {meth : Method} {cd : Code} (l : Launch) (hlt : l.stackTraces = false) {b L : Nat} {xs : Nat → Int32} {E : eT} (C : lC p s m cd b L xs E) {Q : State → Prop} {o : Nat} {ad : Nat → Nat} {o2 : Nat} {ad2 : Nat → Nat} {oq : Nat} (z w : Nat) (kk : lHead p l e s m below meth cd b E Q o ad o2 ad2 oq (z + 1)) (hi : w + 4 ≤ L) (wm : Nat → Int32) (st : Nat → Int32) (gr : Nat → Int32) (co : Nat → Int32) (hb_ : Nat → Bool) (mo : Nat) (ga : Nat → Int32) (ca : Nat → Int32) (ha_ : Nat → Bool) (ma : Nat) (sd : Nat → Int32) (tk : Nat → Int32) (op : Nat → Bool) (sp : Nat → Nat) (rc : Nat → Nat) (rn : Nat) (wa : Nat → Int32) (th : Int32) (nx : Nat → Int32) (lb : Nat → Option Nat) (fr : Nat → Nat) (lo : Nat → Int64) (H : Heap) (locs : List Loc) (ls : Array Slot) (hw : w = 4 * z) (hmo : mo ≤ 120 * z) (hT : Tb wm st) (hR : Rg gr co) (hP : va_P E.1 vwCl (wAll E o ad wm st gr co hb_ (nI mo) ga ca ha_ (nI ma) sd tk op sp rc rn wa ++ wMo E o2 ad2 th gr co sd tk wm st (nI mo) nx lb fr ++ [(oq, .inl (E.2.2.2, 1, .inr (.inl lo)))]) H) (hD : va_D (lA s) (wAll E o ad wm st gr co hb_ (nI mo) ga ca ha_ (nI ma) sd tk op sp rc rn wa ++ wMo E o2 ad2 th gr co sd tk wm st (nI mo) nx lb fr ++ [(oq, .inl (E.2.2.2, 1, .inr (.inl lo)))])) (hS : va_S (lA s) s.heap H locs) (hl : lv_has ls 9 [(4, .int (nI w)), (3, .ref oq), (2, .ref o2), (1, .ref o), (0, .ref b)]) : W p l e room_1 s m #[Value.ref b] below meth cd H locs (40 + 3 * z) (2500 + 168 * z) Q (F0 m 120 ls []) := by
  obtain ⟨hx, hb, hml, hown, hts, hK, hX, hXs, hbl, hL⟩ := C
  have hA : ∀ q : Nat, s.heap.size ≤ q → lA s q := fun _ h => h
  have hbA : ¬ lA s b := Nat.not_le.mpr hbl
  have hz : z ≤ 512 := by omega
  cases hc : isCellB (xs (w + 1)) (xs (w + 2)) with
  | false =>
    refine lv_aload_n hx hb dL_law_120 rfl (lv_at hl 3 rfl) ?_
    refine lv_aload_n hx hb dL_law_121 rfl (lv_at hl 4 rfl) ?_
    refine lv_iload hx hb dL_law_122 (lv_at hl 0 rfl) ?_
    refine lv_iconst (v := nI 1) hx hb dL_law_124 (by decide +kernel) ?_
    refine lv_iadd hx hb dL_law_125 ?_
    refine e_top (nI_add _ _) ?_
    refine e_sld hXs hbl hbA hS (w + 1) (by omega) (by omega) (v := xs (w + 1)) rfl hx hb dL_law_126 ?_
    refine lv_aload_n hx hb dL_law_127 rfl (lv_at hl 4 rfl) ?_
    refine lv_iload hx hb dL_law_128 (lv_at hl 0 rfl) ?_
    refine lv_iconst (v := nI 2) hx hb dL_law_130 (by decide +kernel) ?_
    refine lv_iadd hx hb dL_law_131 ?_
    refine e_top (nI_add _ _) ?_
    refine e_sld hXs hbl hbA hS (w + 2) (by omega) (by omega) (v := xs (w + 2)) rfl hx hb dL_law_132 ?_
    refine lv_aload_n hx hb dL_law_133 rfl (lv_at hl 4 rfl) ?_
    refine lv_iload hx hb dL_law_134 (lv_at hl 0 rfl) ?_
    refine lv_iconst (v := nI 3) hx hb dL_law_136 (by decide +kernel) ?_
    refine lv_iadd hx hb dL_law_137 ?_
    refine e_top (nI_add _ _) ?_
    refine e_sld hXs hbl hbA hS (w + 3) (by omega) (by omega) (v := xs (w + 3)) rfl hx hb dL_law_138 ?_
    refine lv_aload_n hx hb dL_law_139 rfl (lv_at hl 1 rfl) ?_
    refine e_callSH (As := [.ref o, .int (xs (w + 1)), .int (xs (w + 2)), .int (xs (w + 3)), .ref oq]) (rest := []) ⟨hx, hb, hml, hown, hts⟩ hK hX hP hD hS hA hl.1 (c_L_setGround_b1 l hlt E _ o ad wm st gr co hb_ mo ga ca ha_ ma sd tk op sp rc rn wa (xs (w + 1)) (xs (w + 2)) (xs (w + 3)) oq lo (by first | omega | assumption | rfl | (simp_all; done))) (vx_cwSW 5 hts gL_law_L_setGround rfl rfl rfl (by decide +kernel) ⟨Nat.le_of_ble_eq_true rfl, Nat.le_of_ble_eq_true rfl⟩) [0, 1, 2, 3, 4, 5, 6, 7, 8, 9, 10, 11, 12, 13, 14, 15, 16, 17, 18, 19, 30] [20, 21, 22, 23, 24, 25, 26, 27, 28, 29] rfl rfl rfl rfl (by decide) rfl rfl (Nat.le_of_ble_eq_true rfl) dL_law_140 ⟨by show 40 + 3 * z + 1 ≤ 601024; omega, by show 2500 + 168 * z + 6 ≤ 7293034; omega⟩ (fun u_1 H locs hu_2 hsz1 hP hD hS => ?_)
    have hP : va_P E.1 vwCl (wAll E o ad wm st gr co hb_ (nI mo) ga ca ha_ (nI ma) sd tk op sp rc rn wa ++ wMo E o2 ad2 th gr co sd tk wm st (nI mo) nx lb fr ++ [(oq, .inl (E.2.2.2, 1, .inr (.inl lo)))]) H := hP.sub [10, 11, 12, 13, 14, 15, 16, 17, 18, 19, 20, 21, 22, 23, 24, 25, 26, 27, 28, 29, 0, 1, 2, 3, 4, 5, 6, 7, 8, 9, 30] rfl
    have hD : va_D (lA s) (wAll E o ad wm st gr co hb_ (nI mo) ga ca ha_ (nI ma) sd tk op sp rc rn wa ++ wMo E o2 ad2 th gr co sd tk wm st (nI mo) nx lb fr ++ [(oq, .inl (E.2.2.2, 1, .inr (.inl lo)))]) := hD.sub [10, 11, 12, 13, 14, 15, 16, 17, 18, 19, 20, 21, 22, 23, 24, 25, 26, 27, 28, 29, 0, 1, 2, 3, 4, 5, 6, 7, 8, 9, 30] (by decide) rfl
    refine W.eq (g2 := F0 m 143 ls [.int (nI 1)]) rfl ?_
    refine lv_istore (lv' := [(5, .int (nI 1)), (4, .int (nI w)), (3, .ref oq), (2, .ref o2), (1, .ref o), (0, .ref b)]) hx hb dL_law_143 hl (by decide) rfl (fun ls hl => ?_)
    refine lv_aload_n hx hb dL_law_145 rfl (lv_at hl 3 rfl) ?_
    refine lv_aload_n hx hb dL_law_146 rfl (lv_at hl 5 rfl) ?_
    refine lv_iload hx hb dL_law_147 (lv_at hl 1 rfl) ?_
    refine lv_iconst (v := nI 1) hx hb dL_law_149 (by decide +kernel) ?_
    refine lv_iadd hx hb dL_law_150 ?_
    refine e_top (nI_add _ _) ?_
    refine e_sld hXs hbl hbA hS (w + 1) (by omega) (by omega) (v := xs (w + 1)) rfl hx hb dL_law_151 ?_
    refine lv_aload_n hx hb dL_law_152 rfl (lv_at hl 5 rfl) ?_
    refine lv_iload hx hb dL_law_153 (lv_at hl 1 rfl) ?_
    refine lv_iconst (v := nI 2) hx hb dL_law_155 (by decide +kernel) ?_
    refine lv_iadd hx hb dL_law_156 ?_
    refine e_top (nI_add _ _) ?_
    refine e_sld hXs hbl hbA hS (w + 2) (by omega) (by omega) (v := xs (w + 2)) rfl hx hb dL_law_157 ?_
    refine lv_aload_n hx hb dL_law_158 rfl (lv_at hl 5 rfl) ?_
    refine lv_iload hx hb dL_law_159 (lv_at hl 1 rfl) ?_
    refine lv_iconst (v := nI 3) hx hb dL_law_161 (by decide +kernel) ?_
    refine lv_iadd hx hb dL_law_162 ?_
    refine e_top (nI_add _ _) ?_
    refine e_sld hXs hbl hbA hS (w + 3) (by omega) (by omega) (v := xs (w + 3)) rfl hx hb dL_law_163 ?_
    refine e_callV (As := [.int (xs (w + 1)), .int (xs (w + 2)), .int (xs (w + 3))]) (rest := []) ⟨hx, hb, hml, hown, hts⟩ hK hP hD hS hA hl.1 (c_X5_setGround_b1 l E _ o2 ad2 th gr co sd tk wm st mo nx lb fr (xs (w + 1)) (xs (w + 2)) (xs (w + 3)) (by first | omega | assumption | rfl | (simp_all; done))) (cwV 3 hts gL_law_X5_setGround rfl rfl rfl (by decide +kernel) ⟨Nat.le_of_ble_eq_true rfl, Nat.le_of_ble_eq_true rfl⟩) [20, 21, 22, 23, 24, 25, 26, 27, 28, 29] [0, 1, 2, 3, 4, 5, 6, 7, 8, 9, 10, 11, 12, 13, 14, 15, 16, 17, 18, 19, 30] rfl rfl rfl rfl (by decide) (q0 := 20) (ci := 5) rfl rfl rfl rfl (Nat.le_of_ble_eq_true rfl) dL_law_164 ⟨by show 40 + 3 * z + 1 + 0 ≤ 601024; omega, by show 2500 + 168 * z + 6 + 0 ≤ 7293034; omega⟩ (fun u_3 H locs hu_4 hsz1 hP hD hS => ?_)
    have hP : va_P E.1 vwCl (wAll E o ad wm st gr co hb_ (nI mo) ga ca ha_ (nI ma) sd tk op sp rc rn wa ++ wMo E o2 ad2 (nI 1) gr co sd tk wm st (nI mo) nx lb fr ++ [(oq, .inl (E.2.2.2, 1, .inr (.inl lo)))]) H := hP.sub [0, 1, 2, 3, 4, 5, 6, 7, 8, 9, 10, 11, 12, 13, 14, 15, 16, 17, 18, 19, 21, 22, 23, 24, 25, 26, 27, 28, 29, 30, 20] rfl
    have hD : va_D (lA s) (wAll E o ad wm st gr co hb_ (nI mo) ga ca ha_ (nI ma) sd tk op sp rc rn wa ++ wMo E o2 ad2 (nI 1) gr co sd tk wm st (nI mo) nx lb fr ++ [(oq, .inl (E.2.2.2, 1, .inr (.inl lo)))]) := hD.sub [0, 1, 2, 3, 4, 5, 6, 7, 8, 9, 10, 11, 12, 13, 14, 15, 16, 17, 18, 19, 21, 22, 23, 24, 25, 26, 27, 28, 29, 30, 20] (by decide) rfl
    refine W.eq (g2 := F0 m 167 ls [.int (nI 0)]) rfl ?_
    refine lv_istore (lv' := [(6, .int (nI 0)), (5, .int (nI 1)), (4, .int (nI w)), (3, .ref oq), (2, .ref o2), (1, .ref o), (0, .ref b)]) hx hb dL_law_167 hl (by decide) rfl (fun ls hl => ?_)
    refine lv_aload_n hx hb dL_law_169 rfl (lv_at hl 4 rfl) ?_
    refine e_callV (As := []) (rest := []) ⟨hx, hb, hml, hown, hts⟩ hK hP hD hS hA hl.1 (c_X5_thrown l E _ o2 ad2 (nI 1) gr co sd tk wm st mo nx lb fr) (cwV 0 hts gL_law_X5_thrown rfl rfl rfl (by decide +kernel) ⟨Nat.le_of_ble_eq_true rfl, Nat.le_of_ble_eq_true rfl⟩) [20, 21, 22, 23, 24, 25, 26, 27, 28, 29] [0, 1, 2, 3, 4, 5, 6, 7, 8, 9, 10, 11, 12, 13, 14, 15, 16, 17, 18, 19, 30] rfl rfl rfl rfl (by decide) (q0 := 20) (ci := 5) rfl rfl rfl rfl (Nat.le_of_ble_eq_true rfl) dL_law_170 ⟨by show 40 + 3 * z + 1 + 0 + 0 ≤ 601024; omega, by show 2500 + 168 * z + 6 + 0 + 0 ≤ 7293034; omega⟩ (fun u_5 H locs hu_6 hsz1 hP hD hS => ?_)
    have hP : va_P E.1 vwCl (wAll E o ad wm st gr co hb_ (nI mo) ga ca ha_ (nI ma) sd tk op sp rc rn wa ++ wMo E o2 ad2 (nI 1) gr co sd tk wm st (nI mo) nx lb fr ++ [(oq, .inl (E.2.2.2, 1, .inr (.inl lo)))]) H := hP.sub [0, 1, 2, 3, 4, 5, 6, 7, 8, 9, 10, 11, 12, 13, 14, 15, 16, 17, 18, 19, 21, 22, 23, 24, 25, 26, 27, 28, 29, 30, 20] rfl
    have hD : va_D (lA s) (wAll E o ad wm st gr co hb_ (nI mo) ga ca ha_ (nI ma) sd tk op sp rc rn wa ++ wMo E o2 ad2 (nI 1) gr co sd tk wm st (nI mo) nx lb fr ++ [(oq, .inl (E.2.2.2, 1, .inr (.inl lo)))]) := hD.sub [0, 1, 2, 3, 4, 5, 6, 7, 8, 9, 10, 11, 12, 13, 14, 15, 16, 17, 18, 19, 21, 22, 23, 24, 25, 26, 27, 28, 29, 30, 20] (by decide) rfl
    refine W.eq (g2 := F0 m 173 ls [.int (nI 1)]) rfl ?_
    refine lv_iload hx hb dL_law_173 (lv_at hl 1 rfl) ?_
    refine n_icmp_eq (x := 1) (y := 1) (by omega) (by omega) (tgt := 180) hx hb dL_law_175 (by decide) (fun c175 => ?_) (fun c175 => absurd rfl c175)
    refine lv_iload hx hb dL_law_180 (lv_at hl 1 rfl) ?_
    refine n_if_ne (x := 1) (by omega) (tgt := 197) hx hb dL_law_182 (by decide) (fun c182 => ?_) (fun c182 => (by omega))
    refine lv_goto (tgt := 1129) hx hb dL_law_197 (by decide) ?_
    refine lv_iinc (v := nI (w + 4)) (lv' := [(4, .int (nI (w + 4))), (6, .int (nI 0)), (5, .int (nI 1)), (3, .ref oq), (2, .ref o2), (1, .ref o), (0, .ref b)]) hx hb dL_law_1129 hl (k := 2) rfl (nI_add w 4) (by decide) rfl (fun ls hl => ?_)
    refine lv_goto (tgt := 23) hx hb dL_law_1132 (by decide) ?_
    exact W.widen (by show 40 + 3 * z + 1 + 0 + 0 ≤ 40 + 3 * (z + 1); omega) (by show 2500 + 168 * z + 6 + 0 + 0 ≤ 2500 + 168 * (z + 1); omega) (kk (w + 4) wm st gr co hb_ mo ga ca ha_ ma sd tk op sp rc rn wa (nI 1) nx lb fr lo H locs ls (by omega) (by omega) hT hR hP hD hS (lv_sub hl [0, 3, 4, 5, 6] rfl))
  | true =>
    obtain ⟨X, Y, hX9, hY9, e1, e2⟩ := isCellB_nat hc
    cases hv : isInB (xs (w + 3)) (nI 0) (nI 40) with
    | false =>
      refine lv_aload_n hx hb dL_law_120 rfl (lv_at hl 3 rfl) ?_
      refine lv_aload_n hx hb dL_law_121 rfl (lv_at hl 4 rfl) ?_
      refine lv_iload hx hb dL_law_122 (lv_at hl 0 rfl) ?_
      refine lv_iconst (v := nI 1) hx hb dL_law_124 (by decide +kernel) ?_
      refine lv_iadd hx hb dL_law_125 ?_
      refine e_top (nI_add _ _) ?_
      refine e_sld hXs hbl hbA hS (w + 1) (by omega) (by omega) (v := nI X) e1 hx hb dL_law_126 ?_
      refine lv_aload_n hx hb dL_law_127 rfl (lv_at hl 4 rfl) ?_
      refine lv_iload hx hb dL_law_128 (lv_at hl 0 rfl) ?_
      refine lv_iconst (v := nI 2) hx hb dL_law_130 (by decide +kernel) ?_
      refine lv_iadd hx hb dL_law_131 ?_
      refine e_top (nI_add _ _) ?_
      refine e_sld hXs hbl hbA hS (w + 2) (by omega) (by omega) (v := nI Y) e2 hx hb dL_law_132 ?_
      refine lv_aload_n hx hb dL_law_133 rfl (lv_at hl 4 rfl) ?_
      refine lv_iload hx hb dL_law_134 (lv_at hl 0 rfl) ?_
      refine lv_iconst (v := nI 3) hx hb dL_law_136 (by decide +kernel) ?_
      refine lv_iadd hx hb dL_law_137 ?_
      refine e_top (nI_add _ _) ?_
      refine e_sld hXs hbl hbA hS (w + 3) (by omega) (by omega) (v := xs (w + 3)) rfl hx hb dL_law_138 ?_
      refine lv_aload_n hx hb dL_law_139 rfl (lv_at hl 1 rfl) ?_
      refine e_callSH (As := [.ref o, .int (nI X), .int (nI Y), .int (xs (w + 3)), .ref oq]) (rest := []) ⟨hx, hb, hml, hown, hts⟩ hK hX hP hD hS hA hl.1 (c_L_setGround_b2 l hlt E _ o ad wm st gr co hb_ mo ga ca ha_ ma sd tk op sp rc rn wa X Y (xs (w + 3)) oq lo (by first | omega | assumption | rfl | (simp_all; done)) (by first | omega | assumption | rfl | (simp_all; done)) (by first | omega | assumption | rfl | (simp_all; done))) (vx_cwSW 5 hts gL_law_L_setGround rfl rfl rfl (by decide +kernel) ⟨Nat.le_of_ble_eq_true rfl, Nat.le_of_ble_eq_true rfl⟩) [0, 1, 2, 3, 4, 5, 6, 7, 8, 9, 10, 11, 12, 13, 14, 15, 16, 17, 18, 19, 30] [20, 21, 22, 23, 24, 25, 26, 27, 28, 29] rfl rfl rfl rfl (by decide) rfl rfl (Nat.le_of_ble_eq_true rfl) dL_law_140 ⟨by show 40 + 3 * z + 1 ≤ 601024; omega, by show 2500 + 168 * z + 6 ≤ 7293034; omega⟩ (fun u_7 H locs hu_8 hsz1 hP hD hS => ?_)
      have hP : va_P E.1 vwCl (wAll E o ad wm st gr co hb_ (nI mo) ga ca ha_ (nI ma) sd tk op sp rc rn wa ++ wMo E o2 ad2 th gr co sd tk wm st (nI mo) nx lb fr ++ [(oq, .inl (E.2.2.2, 1, .inr (.inl lo)))]) H := hP.sub [10, 11, 12, 13, 14, 15, 16, 17, 18, 19, 20, 21, 22, 23, 24, 25, 26, 27, 28, 29, 0, 1, 2, 3, 4, 5, 6, 7, 8, 9, 30] rfl
      have hD : va_D (lA s) (wAll E o ad wm st gr co hb_ (nI mo) ga ca ha_ (nI ma) sd tk op sp rc rn wa ++ wMo E o2 ad2 th gr co sd tk wm st (nI mo) nx lb fr ++ [(oq, .inl (E.2.2.2, 1, .inr (.inl lo)))]) := hD.sub [10, 11, 12, 13, 14, 15, 16, 17, 18, 19, 20, 21, 22, 23, 24, 25, 26, 27, 28, 29, 0, 1, 2, 3, 4, 5, 6, 7, 8, 9, 30] (by decide) rfl
      refine W.eq (g2 := F0 m 143 ls [.int (nI 2)]) rfl ?_
      refine lv_istore (lv' := [(5, .int (nI 2)), (4, .int (nI w)), (3, .ref oq), (2, .ref o2), (1, .ref o), (0, .ref b)]) hx hb dL_law_143 hl (by decide) rfl (fun ls hl => ?_)
      refine lv_aload_n hx hb dL_law_145 rfl (lv_at hl 3 rfl) ?_
      refine lv_aload_n hx hb dL_law_146 rfl (lv_at hl 5 rfl) ?_
      refine lv_iload hx hb dL_law_147 (lv_at hl 1 rfl) ?_
      refine lv_iconst (v := nI 1) hx hb dL_law_149 (by decide +kernel) ?_
      refine lv_iadd hx hb dL_law_150 ?_
      refine e_top (nI_add _ _) ?_
      refine e_sld hXs hbl hbA hS (w + 1) (by omega) (by omega) (v := nI X) e1 hx hb dL_law_151 ?_
      refine lv_aload_n hx hb dL_law_152 rfl (lv_at hl 5 rfl) ?_
      refine lv_iload hx hb dL_law_153 (lv_at hl 1 rfl) ?_
      refine lv_iconst (v := nI 2) hx hb dL_law_155 (by decide +kernel) ?_
      refine lv_iadd hx hb dL_law_156 ?_
      refine e_top (nI_add _ _) ?_
      refine e_sld hXs hbl hbA hS (w + 2) (by omega) (by omega) (v := nI Y) e2 hx hb dL_law_157 ?_
      refine lv_aload_n hx hb dL_law_158 rfl (lv_at hl 5 rfl) ?_
      refine lv_iload hx hb dL_law_159 (lv_at hl 1 rfl) ?_
      refine lv_iconst (v := nI 3) hx hb dL_law_161 (by decide +kernel) ?_
      refine lv_iadd hx hb dL_law_162 ?_
      refine e_top (nI_add _ _) ?_
      refine e_sld hXs hbl hbA hS (w + 3) (by omega) (by omega) (v := xs (w + 3)) rfl hx hb dL_law_163 ?_
      refine e_callV (As := [.int (nI X), .int (nI Y), .int (xs (w + 3))]) (rest := []) ⟨hx, hb, hml, hown, hts⟩ hK hP hD hS hA hl.1 (c_X5_setGround_b2 l E _ o2 ad2 th gr co sd tk wm st mo nx lb fr X Y (xs (w + 3)) (by first | omega | assumption | rfl | (simp_all; done)) (by first | omega | assumption | rfl | (simp_all; done)) (by first | omega | assumption | rfl | (simp_all; done))) (cwV 3 hts gL_law_X5_setGround rfl rfl rfl (by decide +kernel) ⟨Nat.le_of_ble_eq_true rfl, Nat.le_of_ble_eq_true rfl⟩) [20, 21, 22, 23, 24, 25, 26, 27, 28, 29] [0, 1, 2, 3, 4, 5, 6, 7, 8, 9, 10, 11, 12, 13, 14, 15, 16, 17, 18, 19, 30] rfl rfl rfl rfl (by decide) (q0 := 20) (ci := 5) rfl rfl rfl rfl (Nat.le_of_ble_eq_true rfl) dL_law_164 ⟨by show 40 + 3 * z + 1 + 0 ≤ 601024; omega, by show 2500 + 168 * z + 6 + 0 ≤ 7293034; omega⟩ (fun u_9 H locs hu_10 hsz1 hP hD hS => ?_)
      have hP : va_P E.1 vwCl (wAll E o ad wm st gr co hb_ (nI mo) ga ca ha_ (nI ma) sd tk op sp rc rn wa ++ wMo E o2 ad2 (nI 2) gr co sd tk wm st (nI mo) nx lb fr ++ [(oq, .inl (E.2.2.2, 1, .inr (.inl lo)))]) H := hP.sub [0, 1, 2, 3, 4, 5, 6, 7, 8, 9, 10, 11, 12, 13, 14, 15, 16, 17, 18, 19, 21, 22, 23, 24, 25, 26, 27, 28, 29, 30, 20] rfl
      have hD : va_D (lA s) (wAll E o ad wm st gr co hb_ (nI mo) ga ca ha_ (nI ma) sd tk op sp rc rn wa ++ wMo E o2 ad2 (nI 2) gr co sd tk wm st (nI mo) nx lb fr ++ [(oq, .inl (E.2.2.2, 1, .inr (.inl lo)))]) := hD.sub [0, 1, 2, 3, 4, 5, 6, 7, 8, 9, 10, 11, 12, 13, 14, 15, 16, 17, 18, 19, 21, 22, 23, 24, 25, 26, 27, 28, 29, 30, 20] (by decide) rfl
      refine W.eq (g2 := F0 m 167 ls [.int (nI 0)]) rfl ?_
      refine lv_istore (lv' := [(6, .int (nI 0)), (5, .int (nI 2)), (4, .int (nI w)), (3, .ref oq), (2, .ref o2), (1, .ref o), (0, .ref b)]) hx hb dL_law_167 hl (by decide) rfl (fun ls hl => ?_)
      refine lv_aload_n hx hb dL_law_169 rfl (lv_at hl 4 rfl) ?_
      refine e_callV (As := []) (rest := []) ⟨hx, hb, hml, hown, hts⟩ hK hP hD hS hA hl.1 (c_X5_thrown l E _ o2 ad2 (nI 2) gr co sd tk wm st mo nx lb fr) (cwV 0 hts gL_law_X5_thrown rfl rfl rfl (by decide +kernel) ⟨Nat.le_of_ble_eq_true rfl, Nat.le_of_ble_eq_true rfl⟩) [20, 21, 22, 23, 24, 25, 26, 27, 28, 29] [0, 1, 2, 3, 4, 5, 6, 7, 8, 9, 10, 11, 12, 13, 14, 15, 16, 17, 18, 19, 30] rfl rfl rfl rfl (by decide) (q0 := 20) (ci := 5) rfl rfl rfl rfl (Nat.le_of_ble_eq_true rfl) dL_law_170 ⟨by show 40 + 3 * z + 1 + 0 + 0 ≤ 601024; omega, by show 2500 + 168 * z + 6 + 0 + 0 ≤ 7293034; omega⟩ (fun u_11 H locs hu_12 hsz1 hP hD hS => ?_)
      have hP : va_P E.1 vwCl (wAll E o ad wm st gr co hb_ (nI mo) ga ca ha_ (nI ma) sd tk op sp rc rn wa ++ wMo E o2 ad2 (nI 2) gr co sd tk wm st (nI mo) nx lb fr ++ [(oq, .inl (E.2.2.2, 1, .inr (.inl lo)))]) H := hP.sub [0, 1, 2, 3, 4, 5, 6, 7, 8, 9, 10, 11, 12, 13, 14, 15, 16, 17, 18, 19, 21, 22, 23, 24, 25, 26, 27, 28, 29, 30, 20] rfl
      have hD : va_D (lA s) (wAll E o ad wm st gr co hb_ (nI mo) ga ca ha_ (nI ma) sd tk op sp rc rn wa ++ wMo E o2 ad2 (nI 2) gr co sd tk wm st (nI mo) nx lb fr ++ [(oq, .inl (E.2.2.2, 1, .inr (.inl lo)))]) := hD.sub [0, 1, 2, 3, 4, 5, 6, 7, 8, 9, 10, 11, 12, 13, 14, 15, 16, 17, 18, 19, 21, 22, 23, 24, 25, 26, 27, 28, 29, 30, 20] (by decide) rfl
      refine W.eq (g2 := F0 m 173 ls [.int (nI 2)]) rfl ?_
      refine lv_iload hx hb dL_law_173 (lv_at hl 1 rfl) ?_
      refine n_icmp_eq (x := 2) (y := 2) (by omega) (by omega) (tgt := 180) hx hb dL_law_175 (by decide) (fun c175 => ?_) (fun c175 => absurd rfl c175)
      refine lv_iload hx hb dL_law_180 (lv_at hl 1 rfl) ?_
      refine n_if_ne (x := 2) (by omega) (tgt := 197) hx hb dL_law_182 (by decide) (fun c182 => ?_) (fun c182 => (by omega))
      refine lv_goto (tgt := 1129) hx hb dL_law_197 (by decide) ?_
      refine lv_iinc (v := nI (w + 4)) (lv' := [(4, .int (nI (w + 4))), (6, .int (nI 0)), (5, .int (nI 2)), (3, .ref oq), (2, .ref o2), (1, .ref o), (0, .ref b)]) hx hb dL_law_1129 hl (k := 2) rfl (nI_add w 4) (by decide) rfl (fun ls hl => ?_)
      refine lv_goto (tgt := 23) hx hb dL_law_1132 (by decide) ?_
      exact W.widen (by show 40 + 3 * z + 1 + 0 + 0 ≤ 40 + 3 * (z + 1); omega) (by show 2500 + 168 * z + 6 + 0 + 0 ≤ 2500 + 168 * (z + 1); omega) (kk (w + 4) wm st gr co hb_ mo ga ca ha_ ma sd tk op sp rc rn wa (nI 2) nx lb fr lo H locs ls (by omega) (by omega) hT hR hP hD hS (lv_sub hl [0, 3, 4, 5, 6] rfl))
    | true =>
      refine lv_aload_n hx hb dL_law_120 rfl (lv_at hl 3 rfl) ?_
      refine lv_aload_n hx hb dL_law_121 rfl (lv_at hl 4 rfl) ?_
      refine lv_iload hx hb dL_law_122 (lv_at hl 0 rfl) ?_
      refine lv_iconst (v := nI 1) hx hb dL_law_124 (by decide +kernel) ?_
      refine lv_iadd hx hb dL_law_125 ?_
      refine e_top (nI_add _ _) ?_
      refine e_sld hXs hbl hbA hS (w + 1) (by omega) (by omega) (v := nI X) e1 hx hb dL_law_126 ?_
      refine lv_aload_n hx hb dL_law_127 rfl (lv_at hl 4 rfl) ?_
      refine lv_iload hx hb dL_law_128 (lv_at hl 0 rfl) ?_
      refine lv_iconst (v := nI 2) hx hb dL_law_130 (by decide +kernel) ?_
      refine lv_iadd hx hb dL_law_131 ?_
      refine e_top (nI_add _ _) ?_
      refine e_sld hXs hbl hbA hS (w + 2) (by omega) (by omega) (v := nI Y) e2 hx hb dL_law_132 ?_
      refine lv_aload_n hx hb dL_law_133 rfl (lv_at hl 4 rfl) ?_
      refine lv_iload hx hb dL_law_134 (lv_at hl 0 rfl) ?_
      refine lv_iconst (v := nI 3) hx hb dL_law_136 (by decide +kernel) ?_
      refine lv_iadd hx hb dL_law_137 ?_
      refine e_top (nI_add _ _) ?_
      refine e_sld hXs hbl hbA hS (w + 3) (by omega) (by omega) (v := xs (w + 3)) rfl hx hb dL_law_138 ?_
      refine lv_aload_n hx hb dL_law_139 rfl (lv_at hl 1 rfl) ?_
      refine e_callSH (As := [.ref o, .int (nI X), .int (nI Y), .int (xs (w + 3)), .ref oq]) (rest := []) ⟨hx, hb, hml, hown, hts⟩ hK hX hP hD hS hA hl.1 (c_L_setGround l hlt E _ o ad wm st gr co hb_ mo ga ca ha_ ma sd tk op sp rc rn wa X Y (xs (w + 3)) oq lo (by first | omega | assumption | rfl | (simp_all; done)) (by first | omega | assumption | rfl | (simp_all; done)) (by first | omega | assumption | rfl | (simp_all; done))) (vx_cwSW 5 hts gL_law_L_setGround rfl rfl rfl (by decide +kernel) ⟨Nat.le_of_ble_eq_true rfl, Nat.le_of_ble_eq_true rfl⟩) [0, 1, 2, 3, 4, 5, 6, 7, 8, 9, 10, 11, 12, 13, 14, 15, 16, 17, 18, 19, 30] [20, 21, 22, 23, 24, 25, 26, 27, 28, 29] rfl rfl rfl rfl (by decide) rfl rfl (Nat.le_of_ble_eq_true rfl) dL_law_140 ⟨by show 40 + 3 * z + 0 ≤ 601024; omega, by show 2500 + 168 * z + 0 ≤ 7293034; omega⟩ (fun u_13 H locs hu_14 hsz1 hP hD hS => ?_)
      have hP : va_P E.1 vwCl (wAll E o ad wm st (upd gr ((9 * Y) + X) (xs (w + 3))) (upd co ((9 * Y) + X) (iMin (co ((9 * Y) + X)) (xs (w + 3)))) hb_ (nI mo) ga ca ha_ (nI ma) sd tk op sp rc rn wa ++ wMo E o2 ad2 th gr co sd tk wm st (nI mo) nx lb fr ++ [(oq, .inl (E.2.2.2, 1, .inr (.inl (vp_updL lo 0 ((gr ((9 * Y) + X)).toInt64)))))]) H := hP.sub [10, 11, 12, 13, 14, 15, 16, 17, 18, 19, 20, 21, 22, 23, 24, 25, 26, 27, 28, 29, 0, 1, 2, 3, 4, 5, 6, 7, 8, 9, 30] rfl
      have hD : va_D (lA s) (wAll E o ad wm st (upd gr ((9 * Y) + X) (xs (w + 3))) (upd co ((9 * Y) + X) (iMin (co ((9 * Y) + X)) (xs (w + 3)))) hb_ (nI mo) ga ca ha_ (nI ma) sd tk op sp rc rn wa ++ wMo E o2 ad2 th gr co sd tk wm st (nI mo) nx lb fr ++ [(oq, .inl (E.2.2.2, 1, .inr (.inl (vp_updL lo 0 ((gr ((9 * Y) + X)).toInt64)))))]) := hD.sub [10, 11, 12, 13, 14, 15, 16, 17, 18, 19, 20, 21, 22, 23, 24, 25, 26, 27, 28, 29, 0, 1, 2, 3, 4, 5, 6, 7, 8, 9, 30] (by decide) rfl
      refine W.eq (g2 := F0 m 143 ls [.int (nI 0)]) rfl ?_
      refine lv_istore (lv' := [(5, .int (nI 0)), (4, .int (nI w)), (3, .ref oq), (2, .ref o2), (1, .ref o), (0, .ref b)]) hx hb dL_law_143 hl (by decide) rfl (fun ls hl => ?_)
      refine lv_aload_n hx hb dL_law_145 rfl (lv_at hl 3 rfl) ?_
      refine lv_aload_n hx hb dL_law_146 rfl (lv_at hl 5 rfl) ?_
      refine lv_iload hx hb dL_law_147 (lv_at hl 1 rfl) ?_
      refine lv_iconst (v := nI 1) hx hb dL_law_149 (by decide +kernel) ?_
      refine lv_iadd hx hb dL_law_150 ?_
      refine e_top (nI_add _ _) ?_
      refine e_sld hXs hbl hbA hS (w + 1) (by omega) (by omega) (v := nI X) e1 hx hb dL_law_151 ?_
      refine lv_aload_n hx hb dL_law_152 rfl (lv_at hl 5 rfl) ?_
      refine lv_iload hx hb dL_law_153 (lv_at hl 1 rfl) ?_
      refine lv_iconst (v := nI 2) hx hb dL_law_155 (by decide +kernel) ?_
      refine lv_iadd hx hb dL_law_156 ?_
      refine e_top (nI_add _ _) ?_
      refine e_sld hXs hbl hbA hS (w + 2) (by omega) (by omega) (v := nI Y) e2 hx hb dL_law_157 ?_
      refine lv_aload_n hx hb dL_law_158 rfl (lv_at hl 5 rfl) ?_
      refine lv_iload hx hb dL_law_159 (lv_at hl 1 rfl) ?_
      refine lv_iconst (v := nI 3) hx hb dL_law_161 (by decide +kernel) ?_
      refine lv_iadd hx hb dL_law_162 ?_
      refine e_top (nI_add _ _) ?_
      refine e_sld hXs hbl hbA hS (w + 3) (by omega) (by omega) (v := xs (w + 3)) rfl hx hb dL_law_163 ?_
      refine e_callV (As := [.int (nI X), .int (nI Y), .int (xs (w + 3))]) (rest := []) ⟨hx, hb, hml, hown, hts⟩ hK hP hD hS hA hl.1 (c_X5_setGround l E _ o2 ad2 th gr co sd tk wm st mo nx lb fr X Y (xs (w + 3)) (by first | omega | assumption | rfl | (simp_all; done)) (by first | omega | assumption | rfl | (simp_all; done)) (by first | omega | assumption | rfl | (simp_all; done))) (cwV 3 hts gL_law_X5_setGround rfl rfl rfl (by decide +kernel) ⟨Nat.le_of_ble_eq_true rfl, Nat.le_of_ble_eq_true rfl⟩) [20, 21, 22, 23, 24, 25, 26, 27, 28, 29] [0, 1, 2, 3, 4, 5, 6, 7, 8, 9, 10, 11, 12, 13, 14, 15, 16, 17, 18, 19, 30] rfl rfl rfl rfl (by decide) (q0 := 20) (ci := 5) rfl rfl rfl rfl (Nat.le_of_ble_eq_true rfl) dL_law_164 ⟨by show 40 + 3 * z + 0 + 0 ≤ 601024; omega, by show 2500 + 168 * z + 0 + 0 ≤ 7293034; omega⟩ (fun u_15 H locs hu_16 hsz1 hP hD hS => ?_)
      have hP : va_P E.1 vwCl (wAll E o ad wm st (upd gr ((9 * Y) + X) (xs (w + 3))) (upd co ((9 * Y) + X) (iMin (co ((9 * Y) + X)) (xs (w + 3)))) hb_ (nI mo) ga ca ha_ (nI ma) sd tk op sp rc rn wa ++ wMo E o2 ad2 (nI 0) (upd gr ((9 * Y) + X) (xs (w + 3))) (upd co ((9 * Y) + X) (iMin (co ((9 * Y) + X)) (xs (w + 3)))) sd tk wm st (nI mo) nx lb fr ++ [(oq, .inl (E.2.2.2, 1, .inr (.inl (vp_updL lo 0 ((gr ((9 * Y) + X)).toInt64)))))]) H := hP.sub [0, 1, 2, 3, 4, 5, 6, 7, 8, 9, 10, 11, 12, 13, 14, 15, 16, 17, 18, 19, 21, 22, 23, 24, 25, 26, 27, 28, 29, 30, 20] rfl
      have hD : va_D (lA s) (wAll E o ad wm st (upd gr ((9 * Y) + X) (xs (w + 3))) (upd co ((9 * Y) + X) (iMin (co ((9 * Y) + X)) (xs (w + 3)))) hb_ (nI mo) ga ca ha_ (nI ma) sd tk op sp rc rn wa ++ wMo E o2 ad2 (nI 0) (upd gr ((9 * Y) + X) (xs (w + 3))) (upd co ((9 * Y) + X) (iMin (co ((9 * Y) + X)) (xs (w + 3)))) sd tk wm st (nI mo) nx lb fr ++ [(oq, .inl (E.2.2.2, 1, .inr (.inl (vp_updL lo 0 ((gr ((9 * Y) + X)).toInt64)))))]) := hD.sub [0, 1, 2, 3, 4, 5, 6, 7, 8, 9, 10, 11, 12, 13, 14, 15, 16, 17, 18, 19, 21, 22, 23, 24, 25, 26, 27, 28, 29, 30, 20] (by decide) rfl
      refine W.eq (g2 := F0 m 167 ls [.int (gr ((9 * Y) + X))]) rfl ?_
      refine lv_istore (lv' := [(6, .int (gr ((9 * Y) + X))), (5, .int (nI 0)), (4, .int (nI w)), (3, .ref oq), (2, .ref o2), (1, .ref o), (0, .ref b)]) hx hb dL_law_167 hl (by decide) rfl (fun ls hl => ?_)
      refine lv_aload_n hx hb dL_law_169 rfl (lv_at hl 4 rfl) ?_
      refine e_callV (As := []) (rest := []) ⟨hx, hb, hml, hown, hts⟩ hK hP hD hS hA hl.1 (c_X5_thrown l E _ o2 ad2 (nI 0) (upd gr ((9 * Y) + X) (xs (w + 3))) (upd co ((9 * Y) + X) (iMin (co ((9 * Y) + X)) (xs (w + 3)))) sd tk wm st mo nx lb fr) (cwV 0 hts gL_law_X5_thrown rfl rfl rfl (by decide +kernel) ⟨Nat.le_of_ble_eq_true rfl, Nat.le_of_ble_eq_true rfl⟩) [20, 21, 22, 23, 24, 25, 26, 27, 28, 29] [0, 1, 2, 3, 4, 5, 6, 7, 8, 9, 10, 11, 12, 13, 14, 15, 16, 17, 18, 19, 30] rfl rfl rfl rfl (by decide) (q0 := 20) (ci := 5) rfl rfl rfl rfl (Nat.le_of_ble_eq_true rfl) dL_law_170 ⟨by show 40 + 3 * z + 0 + 0 + 0 ≤ 601024; omega, by show 2500 + 168 * z + 0 + 0 + 0 ≤ 7293034; omega⟩ (fun u_17 H locs hu_18 hsz1 hP hD hS => ?_)
      have hP : va_P E.1 vwCl (wAll E o ad wm st (upd gr ((9 * Y) + X) (xs (w + 3))) (upd co ((9 * Y) + X) (iMin (co ((9 * Y) + X)) (xs (w + 3)))) hb_ (nI mo) ga ca ha_ (nI ma) sd tk op sp rc rn wa ++ wMo E o2 ad2 (nI 0) (upd gr ((9 * Y) + X) (xs (w + 3))) (upd co ((9 * Y) + X) (iMin (co ((9 * Y) + X)) (xs (w + 3)))) sd tk wm st (nI mo) nx lb fr ++ [(oq, .inl (E.2.2.2, 1, .inr (.inl (vp_updL lo 0 ((gr ((9 * Y) + X)).toInt64)))))]) H := hP.sub [0, 1, 2, 3, 4, 5, 6, 7, 8, 9, 10, 11, 12, 13, 14, 15, 16, 17, 18, 19, 21, 22, 23, 24, 25, 26, 27, 28, 29, 30, 20] rfl
      have hD : va_D (lA s) (wAll E o ad wm st (upd gr ((9 * Y) + X) (xs (w + 3))) (upd co ((9 * Y) + X) (iMin (co ((9 * Y) + X)) (xs (w + 3)))) hb_ (nI mo) ga ca ha_ (nI ma) sd tk op sp rc rn wa ++ wMo E o2 ad2 (nI 0) (upd gr ((9 * Y) + X) (xs (w + 3))) (upd co ((9 * Y) + X) (iMin (co ((9 * Y) + X)) (xs (w + 3)))) sd tk wm st (nI mo) nx lb fr ++ [(oq, .inl (E.2.2.2, 1, .inr (.inl (vp_updL lo 0 ((gr ((9 * Y) + X)).toInt64)))))]) := hD.sub [0, 1, 2, 3, 4, 5, 6, 7, 8, 9, 10, 11, 12, 13, 14, 15, 16, 17, 18, 19, 21, 22, 23, 24, 25, 26, 27, 28, 29, 30, 20] (by decide) rfl
      refine W.eq (g2 := F0 m 173 ls [.int (nI 0)]) rfl ?_
      refine lv_iload hx hb dL_law_173 (lv_at hl 1 rfl) ?_
      refine n_icmp_eq (x := 0) (y := 0) (by omega) (by omega) (tgt := 180) hx hb dL_law_175 (by decide) (fun c175 => ?_) (fun c175 => absurd rfl c175)
      refine lv_iload hx hb dL_law_180 (lv_at hl 1 rfl) ?_
      refine n_if_ne (x := 0) (by omega) (tgt := 197) hx hb dL_law_182 (by decide) (fun c182 => (by omega)) (fun c182 => ?_)
      refine lv_aload_n hx hb dL_law_185 rfl (lv_at hl 3 rfl) ?_
      refine lv_iconst (v := nI 0) hx hb dL_law_186 (by decide +kernel) ?_
      refine e_lald hK hP 30 rfl 0 (by omega) (by decide) hx hb dL_law_187 ?_
      refine lv_iload hx hb dL_law_188 (lv_at hl 0 rfl) ?_
      refine lv_i2l hx hb dL_law_190 rfl ?_
      refine W.lcmp hx hb dL_law_191 ?_
      refine e_top (y := nI 0) (show lg_cmp ((vp_updL lo 0 ((gr ((9 * Y) + X)).toInt64)) 0) ((gr ((9 * Y) + X)).toInt64) = nI 0 from (lg_cmp_eq _ _).mpr rfl) ?_
      refine n_if_eq (x := 0) (by omega) (tgt := 197) hx hb dL_law_192 (by decide) (fun c192 => ?_) (fun c192 => (by omega))
      refine lv_goto (tgt := 1129) hx hb dL_law_197 (by decide) ?_
      refine lv_iinc (v := nI (w + 4)) (lv' := [(4, .int (nI (w + 4))), (6, .int (gr ((9 * Y) + X))), (5, .int (nI 0)), (3, .ref oq), (2, .ref o2), (1, .ref o), (0, .ref b)]) hx hb dL_law_1129 hl (k := 2) rfl (nI_add w 4) (by decide) rfl (fun ls hl => ?_)
      refine lv_goto (tgt := 23) hx hb dL_law_1132 (by decide) ?_
      exact W.widen (by show 40 + 3 * z + 0 + 0 + 0 ≤ 40 + 3 * (z + 1); omega) (by show 2500 + 168 * z + 0 + 0 + 0 ≤ 2500 + 168 * (z + 1); omega) (kk (w + 4) wm st (upd gr ((9 * Y) + X) (xs (w + 3))) (upd co ((9 * Y) + X) (iMin (co ((9 * Y) + X)) (xs (w + 3)))) hb_ mo ga ca ha_ ma sd tk op sp rc rn wa (nI 0) nx lb fr (vp_updL lo 0 ((gr ((9 * Y) + X)).toInt64)) H locs ls (by omega) (by omega) hT (Rg_ground hR hv _) hP hD hS (lv_sub hl [0, 3, 4, 5, 6] rfl))

set_option maxHeartbeats 16000000 in
set_option maxRecDepth 100000 in
theorem k_case1 {p : Program} {e : Env} {s : State} {m : MethodId} {below : List Frame} {meth : Method} {cd : Code} (l : Launch) (hlt : l.stackTraces = false) {b L : Nat} {xs : Nat → Int32} {E : eT} (C : lC p s m cd b L xs E) {Q : State → Prop} {o : Nat} {ad : Nat → Nat} {o2 : Nat} {ad2 : Nat → Nat} {oq : Nat} (z w : Nat) (kk : lHead p l e s m below meth cd b E Q o ad o2 ad2 oq (z + 1)) (hi : w + 4 ≤ L) (wm : Nat → Int32) (st : Nat → Int32) (gr : Nat → Int32) (co : Nat → Int32) (hb_ : Nat → Bool) (mo : Nat) (ga : Nat → Int32) (ca : Nat → Int32) (ha_ : Nat → Bool) (ma : Nat) (sd : Nat → Int32) (tk : Nat → Int32) (op : Nat → Bool) (sp : Nat → Nat) (rc : Nat → Nat) (rn : Nat) (wa : Nat → Int32) (th : Int32) (nx : Nat → Int32) (lb : Nat → Option Nat) (fr : Nat → Nat) (lo : Nat → Int64) (H : Heap) (locs : List Loc) (ls : Array Slot) (hw : w = 4 * z) (hmo : mo ≤ 120 * z) (hT : Tb wm st) (hR : Rg gr co) (hP : va_P E.1 vwCl (wAll E o ad wm st gr co hb_ (nI mo) ga ca ha_ (nI ma) sd tk op sp rc rn wa ++ wMo E o2 ad2 th gr co sd tk wm st (nI mo) nx lb fr ++ [(oq, .inl (E.2.2.2, 1, .inr (.inl lo)))]) H) (hD : va_D (lA s) (wAll E o ad wm st gr co hb_ (nI mo) ga ca ha_ (nI ma) sd tk op sp rc rn wa ++ wMo E o2 ad2 th gr co sd tk wm st (nI mo) nx lb fr ++ [(oq, .inl (E.2.2.2, 1, .inr (.inl lo)))])) (hS : va_S (lA s) s.heap H locs) (hl : lv_has ls 9 [(4, .int (nI w)), (3, .ref oq), (2, .ref o2), (1, .ref o), (0, .ref b)]) : W p l e room_1 s m #[Value.ref b] below meth cd H locs (40 + 3 * z) (2500 + 168 * z) Q (F0 m 200 ls []) := by
  obtain ⟨hx, hb, hml, hown, hts, hK, hX, hXs, hbl, hL⟩ := C
  have hA : ∀ q : Nat, s.heap.size ≤ q → lA s q := fun _ h => h
  have hbA : ¬ lA s b := Nat.not_le.mpr hbl
  have hz : z ≤ 512 := by omega
  cases hc : isCellB (xs (w + 1)) (xs (w + 2)) with
  | false =>
    refine lv_aload_n hx hb dL_law_200 rfl (lv_at hl 3 rfl) ?_
    refine lv_aload_n hx hb dL_law_201 rfl (lv_at hl 4 rfl) ?_
    refine lv_iload hx hb dL_law_202 (lv_at hl 0 rfl) ?_
    refine lv_iconst (v := nI 1) hx hb dL_law_204 (by decide +kernel) ?_
    refine lv_iadd hx hb dL_law_205 ?_
    refine e_top (nI_add _ _) ?_
    refine e_sld hXs hbl hbA hS (w + 1) (by omega) (by omega) (v := xs (w + 1)) rfl hx hb dL_law_206 ?_
    refine lv_aload_n hx hb dL_law_207 rfl (lv_at hl 4 rfl) ?_
    refine lv_iload hx hb dL_law_208 (lv_at hl 0 rfl) ?_
    refine lv_iconst (v := nI 2) hx hb dL_law_210 (by decide +kernel) ?_
    refine lv_iadd hx hb dL_law_211 ?_
    refine e_top (nI_add _ _) ?_
    refine e_sld hXs hbl hbA hS (w + 2) (by omega) (by omega) (v := xs (w + 2)) rfl hx hb dL_law_212 ?_
    refine lv_aload_n hx hb dL_law_213 rfl (lv_at hl 4 rfl) ?_
    refine lv_iload hx hb dL_law_214 (lv_at hl 0 rfl) ?_
    refine lv_iconst (v := nI 3) hx hb dL_law_216 (by decide +kernel) ?_
    refine lv_iadd hx hb dL_law_217 ?_
    refine e_top (nI_add _ _) ?_
    refine e_sld hXs hbl hbA hS (w + 3) (by omega) (by omega) (v := xs (w + 3)) rfl hx hb dL_law_218 ?_
    refine lv_aload_n hx hb dL_law_219 rfl (lv_at hl 1 rfl) ?_
    refine e_callSH (As := [.ref o, .int (xs (w + 1)), .int (xs (w + 2)), .int (xs (w + 3)), .ref oq]) (rest := []) ⟨hx, hb, hml, hown, hts⟩ hK hX hP hD hS hA hl.1 (c_L_plant_b1 l hlt E _ o ad wm st gr co hb_ mo ga ca ha_ ma sd tk op sp rc rn wa (xs (w + 1)) (xs (w + 2)) (xs (w + 3)) oq lo (by first | omega | assumption | rfl | (simp_all; done))) (vx_cwSW 5 hts gL_law_L_plant rfl rfl rfl (by decide +kernel) ⟨Nat.le_of_ble_eq_true rfl, Nat.le_of_ble_eq_true rfl⟩) [0, 1, 2, 3, 4, 5, 6, 7, 8, 9, 10, 11, 12, 13, 14, 15, 16, 17, 18, 19, 30] [20, 21, 22, 23, 24, 25, 26, 27, 28, 29] rfl rfl rfl rfl (by decide) rfl rfl (Nat.le_of_ble_eq_true rfl) dL_law_220 ⟨by show 40 + 3 * z + 1 ≤ 601024; omega, by show 2500 + 168 * z + 6 ≤ 7293034; omega⟩ (fun u_1 H locs hu_2 hsz1 hP hD hS => ?_)
    have hP : va_P E.1 vwCl (wAll E o ad wm st gr co hb_ (nI mo) ga ca ha_ (nI ma) sd tk op sp rc rn wa ++ wMo E o2 ad2 th gr co sd tk wm st (nI mo) nx lb fr ++ [(oq, .inl (E.2.2.2, 1, .inr (.inl lo)))]) H := hP.sub [10, 11, 12, 13, 14, 15, 16, 17, 18, 19, 20, 21, 22, 23, 24, 25, 26, 27, 28, 29, 0, 1, 2, 3, 4, 5, 6, 7, 8, 9, 30] rfl
    have hD : va_D (lA s) (wAll E o ad wm st gr co hb_ (nI mo) ga ca ha_ (nI ma) sd tk op sp rc rn wa ++ wMo E o2 ad2 th gr co sd tk wm st (nI mo) nx lb fr ++ [(oq, .inl (E.2.2.2, 1, .inr (.inl lo)))]) := hD.sub [10, 11, 12, 13, 14, 15, 16, 17, 18, 19, 20, 21, 22, 23, 24, 25, 26, 27, 28, 29, 0, 1, 2, 3, 4, 5, 6, 7, 8, 9, 30] (by decide) rfl
    refine W.eq (g2 := F0 m 223 ls [.int (nI 1)]) rfl ?_
    refine lv_istore (lv' := [(5, .int (nI 1)), (4, .int (nI w)), (3, .ref oq), (2, .ref o2), (1, .ref o), (0, .ref b)]) hx hb dL_law_223 hl (by decide) rfl (fun ls hl => ?_)
    refine lv_aload_n hx hb dL_law_225 rfl (lv_at hl 3 rfl) ?_
    refine lv_aload_n hx hb dL_law_226 rfl (lv_at hl 5 rfl) ?_
    refine lv_iload hx hb dL_law_227 (lv_at hl 1 rfl) ?_
    refine lv_iconst (v := nI 1) hx hb dL_law_229 (by decide +kernel) ?_
    refine lv_iadd hx hb dL_law_230 ?_
    refine e_top (nI_add _ _) ?_
    refine e_sld hXs hbl hbA hS (w + 1) (by omega) (by omega) (v := xs (w + 1)) rfl hx hb dL_law_231 ?_
    refine lv_aload_n hx hb dL_law_232 rfl (lv_at hl 5 rfl) ?_
    refine lv_iload hx hb dL_law_233 (lv_at hl 1 rfl) ?_
    refine lv_iconst (v := nI 2) hx hb dL_law_235 (by decide +kernel) ?_
    refine lv_iadd hx hb dL_law_236 ?_
    refine e_top (nI_add _ _) ?_
    refine e_sld hXs hbl hbA hS (w + 2) (by omega) (by omega) (v := xs (w + 2)) rfl hx hb dL_law_237 ?_
    refine lv_aload_n hx hb dL_law_238 rfl (lv_at hl 5 rfl) ?_
    refine lv_iload hx hb dL_law_239 (lv_at hl 1 rfl) ?_
    refine lv_iconst (v := nI 3) hx hb dL_law_241 (by decide +kernel) ?_
    refine lv_iadd hx hb dL_law_242 ?_
    refine e_top (nI_add _ _) ?_
    refine e_sld hXs hbl hbA hS (w + 3) (by omega) (by omega) (v := xs (w + 3)) rfl hx hb dL_law_243 ?_
    refine e_callV (As := [.int (xs (w + 1)), .int (xs (w + 2)), .int (xs (w + 3))]) (rest := []) ⟨hx, hb, hml, hown, hts⟩ hK hP hD hS hA hl.1 (c_X5_plant_b1 l E _ o2 ad2 th gr co sd tk wm st mo nx lb fr (xs (w + 1)) (xs (w + 2)) (xs (w + 3)) (by first | omega | assumption | rfl | (simp_all; done))) (cwV 3 hts gL_law_X5_plant rfl rfl rfl (by decide +kernel) ⟨Nat.le_of_ble_eq_true rfl, Nat.le_of_ble_eq_true rfl⟩) [20, 21, 22, 23, 24, 25, 26, 27, 28, 29] [0, 1, 2, 3, 4, 5, 6, 7, 8, 9, 10, 11, 12, 13, 14, 15, 16, 17, 18, 19, 30] rfl rfl rfl rfl (by decide) (q0 := 20) (ci := 5) rfl rfl rfl rfl (Nat.le_of_ble_eq_true rfl) dL_law_244 ⟨by show 40 + 3 * z + 1 + 0 ≤ 601024; omega, by show 2500 + 168 * z + 6 + 0 ≤ 7293034; omega⟩ (fun u_3 H locs hu_4 hsz1 hP hD hS => ?_)
    have hP : va_P E.1 vwCl (wAll E o ad wm st gr co hb_ (nI mo) ga ca ha_ (nI ma) sd tk op sp rc rn wa ++ wMo E o2 ad2 (nI 1) gr co sd tk wm st (nI mo) nx lb fr ++ [(oq, .inl (E.2.2.2, 1, .inr (.inl lo)))]) H := hP.sub [0, 1, 2, 3, 4, 5, 6, 7, 8, 9, 10, 11, 12, 13, 14, 15, 16, 17, 18, 19, 21, 22, 23, 24, 25, 26, 27, 28, 29, 30, 20] rfl
    have hD : va_D (lA s) (wAll E o ad wm st gr co hb_ (nI mo) ga ca ha_ (nI ma) sd tk op sp rc rn wa ++ wMo E o2 ad2 (nI 1) gr co sd tk wm st (nI mo) nx lb fr ++ [(oq, .inl (E.2.2.2, 1, .inr (.inl lo)))]) := hD.sub [0, 1, 2, 3, 4, 5, 6, 7, 8, 9, 10, 11, 12, 13, 14, 15, 16, 17, 18, 19, 21, 22, 23, 24, 25, 26, 27, 28, 29, 30, 20] (by decide) rfl
    refine W.eq (g2 := F0 m 247 ls [.int (nI 0)]) rfl ?_
    refine lv_istore (lv' := [(6, .int (nI 0)), (5, .int (nI 1)), (4, .int (nI w)), (3, .ref oq), (2, .ref o2), (1, .ref o), (0, .ref b)]) hx hb dL_law_247 hl (by decide) rfl (fun ls hl => ?_)
    refine lv_aload_n hx hb dL_law_249 rfl (lv_at hl 4 rfl) ?_
    refine e_callV (As := []) (rest := []) ⟨hx, hb, hml, hown, hts⟩ hK hP hD hS hA hl.1 (c_X5_thrown l E _ o2 ad2 (nI 1) gr co sd tk wm st mo nx lb fr) (cwV 0 hts gL_law_X5_thrown rfl rfl rfl (by decide +kernel) ⟨Nat.le_of_ble_eq_true rfl, Nat.le_of_ble_eq_true rfl⟩) [20, 21, 22, 23, 24, 25, 26, 27, 28, 29] [0, 1, 2, 3, 4, 5, 6, 7, 8, 9, 10, 11, 12, 13, 14, 15, 16, 17, 18, 19, 30] rfl rfl rfl rfl (by decide) (q0 := 20) (ci := 5) rfl rfl rfl rfl (Nat.le_of_ble_eq_true rfl) dL_law_250 ⟨by show 40 + 3 * z + 1 + 0 + 0 ≤ 601024; omega, by show 2500 + 168 * z + 6 + 0 + 0 ≤ 7293034; omega⟩ (fun u_5 H locs hu_6 hsz1 hP hD hS => ?_)
    have hP : va_P E.1 vwCl (wAll E o ad wm st gr co hb_ (nI mo) ga ca ha_ (nI ma) sd tk op sp rc rn wa ++ wMo E o2 ad2 (nI 1) gr co sd tk wm st (nI mo) nx lb fr ++ [(oq, .inl (E.2.2.2, 1, .inr (.inl lo)))]) H := hP.sub [0, 1, 2, 3, 4, 5, 6, 7, 8, 9, 10, 11, 12, 13, 14, 15, 16, 17, 18, 19, 21, 22, 23, 24, 25, 26, 27, 28, 29, 30, 20] rfl
    have hD : va_D (lA s) (wAll E o ad wm st gr co hb_ (nI mo) ga ca ha_ (nI ma) sd tk op sp rc rn wa ++ wMo E o2 ad2 (nI 1) gr co sd tk wm st (nI mo) nx lb fr ++ [(oq, .inl (E.2.2.2, 1, .inr (.inl lo)))]) := hD.sub [0, 1, 2, 3, 4, 5, 6, 7, 8, 9, 10, 11, 12, 13, 14, 15, 16, 17, 18, 19, 21, 22, 23, 24, 25, 26, 27, 28, 29, 30, 20] (by decide) rfl
    refine W.eq (g2 := F0 m 253 ls [.int (nI 1)]) rfl ?_
    refine lv_iload hx hb dL_law_253 (lv_at hl 1 rfl) ?_
    refine n_icmp_eq (x := 1) (y := 1) (by omega) (by omega) (tgt := 260) hx hb dL_law_255 (by decide) (fun c255 => ?_) (fun c255 => absurd rfl c255)
    refine lv_iload hx hb dL_law_260 (lv_at hl 1 rfl) ?_
    refine n_if_ne (x := 1) (by omega) (tgt := 277) hx hb dL_law_262 (by decide) (fun c262 => ?_) (fun c262 => (by omega))
    refine lv_goto (tgt := 1129) hx hb dL_law_277 (by decide) ?_
    refine lv_iinc (v := nI (w + 4)) (lv' := [(4, .int (nI (w + 4))), (6, .int (nI 0)), (5, .int (nI 1)), (3, .ref oq), (2, .ref o2), (1, .ref o), (0, .ref b)]) hx hb dL_law_1129 hl (k := 2) rfl (nI_add w 4) (by decide) rfl (fun ls hl => ?_)
    refine lv_goto (tgt := 23) hx hb dL_law_1132 (by decide) ?_
    exact W.widen (by show 40 + 3 * z + 1 + 0 + 0 ≤ 40 + 3 * (z + 1); omega) (by show 2500 + 168 * z + 6 + 0 + 0 ≤ 2500 + 168 * (z + 1); omega) (kk (w + 4) wm st gr co hb_ mo ga ca ha_ ma sd tk op sp rc rn wa (nI 1) nx lb fr lo H locs ls (by omega) (by omega) hT hR hP hD hS (lv_sub hl [0, 3, 4, 5, 6] rfl))
  | true =>
    obtain ⟨X, Y, hX9, hY9, e1, e2⟩ := isCellB_nat hc
    cases hv : isInB (xs (w + 3)) (nI 0) (gr ((9 * Y) + X)) with
    | false =>
      refine lv_aload_n hx hb dL_law_200 rfl (lv_at hl 3 rfl) ?_
      refine lv_aload_n hx hb dL_law_201 rfl (lv_at hl 4 rfl) ?_
      refine lv_iload hx hb dL_law_202 (lv_at hl 0 rfl) ?_
      refine lv_iconst (v := nI 1) hx hb dL_law_204 (by decide +kernel) ?_
      refine lv_iadd hx hb dL_law_205 ?_
      refine e_top (nI_add _ _) ?_
      refine e_sld hXs hbl hbA hS (w + 1) (by omega) (by omega) (v := nI X) e1 hx hb dL_law_206 ?_
      refine lv_aload_n hx hb dL_law_207 rfl (lv_at hl 4 rfl) ?_
      refine lv_iload hx hb dL_law_208 (lv_at hl 0 rfl) ?_
      refine lv_iconst (v := nI 2) hx hb dL_law_210 (by decide +kernel) ?_
      refine lv_iadd hx hb dL_law_211 ?_
      refine e_top (nI_add _ _) ?_
      refine e_sld hXs hbl hbA hS (w + 2) (by omega) (by omega) (v := nI Y) e2 hx hb dL_law_212 ?_
      refine lv_aload_n hx hb dL_law_213 rfl (lv_at hl 4 rfl) ?_
      refine lv_iload hx hb dL_law_214 (lv_at hl 0 rfl) ?_
      refine lv_iconst (v := nI 3) hx hb dL_law_216 (by decide +kernel) ?_
      refine lv_iadd hx hb dL_law_217 ?_
      refine e_top (nI_add _ _) ?_
      refine e_sld hXs hbl hbA hS (w + 3) (by omega) (by omega) (v := xs (w + 3)) rfl hx hb dL_law_218 ?_
      refine lv_aload_n hx hb dL_law_219 rfl (lv_at hl 1 rfl) ?_
      refine e_callSH (As := [.ref o, .int (nI X), .int (nI Y), .int (xs (w + 3)), .ref oq]) (rest := []) ⟨hx, hb, hml, hown, hts⟩ hK hX hP hD hS hA hl.1 (c_L_plant_b2 l hlt E _ o ad wm st gr co hb_ mo ga ca ha_ ma sd tk op sp rc rn wa X Y (xs (w + 3)) oq lo (by first | omega | assumption | rfl | (simp_all; done)) (by first | omega | assumption | rfl | (simp_all; done)) (by first | omega | assumption | rfl | (simp_all; done))) (vx_cwSW 5 hts gL_law_L_plant rfl rfl rfl (by decide +kernel) ⟨Nat.le_of_ble_eq_true rfl, Nat.le_of_ble_eq_true rfl⟩) [0, 1, 2, 3, 4, 5, 6, 7, 8, 9, 10, 11, 12, 13, 14, 15, 16, 17, 18, 19, 30] [20, 21, 22, 23, 24, 25, 26, 27, 28, 29] rfl rfl rfl rfl (by decide) rfl rfl (Nat.le_of_ble_eq_true rfl) dL_law_220 ⟨by show 40 + 3 * z + 1 ≤ 601024; omega, by show 2500 + 168 * z + 6 ≤ 7293034; omega⟩ (fun u_7 H locs hu_8 hsz1 hP hD hS => ?_)
      have hP : va_P E.1 vwCl (wAll E o ad wm st gr co hb_ (nI mo) ga ca ha_ (nI ma) sd tk op sp rc rn wa ++ wMo E o2 ad2 th gr co sd tk wm st (nI mo) nx lb fr ++ [(oq, .inl (E.2.2.2, 1, .inr (.inl lo)))]) H := hP.sub [10, 11, 12, 13, 14, 15, 16, 17, 18, 19, 20, 21, 22, 23, 24, 25, 26, 27, 28, 29, 0, 1, 2, 3, 4, 5, 6, 7, 8, 9, 30] rfl
      have hD : va_D (lA s) (wAll E o ad wm st gr co hb_ (nI mo) ga ca ha_ (nI ma) sd tk op sp rc rn wa ++ wMo E o2 ad2 th gr co sd tk wm st (nI mo) nx lb fr ++ [(oq, .inl (E.2.2.2, 1, .inr (.inl lo)))]) := hD.sub [10, 11, 12, 13, 14, 15, 16, 17, 18, 19, 20, 21, 22, 23, 24, 25, 26, 27, 28, 29, 0, 1, 2, 3, 4, 5, 6, 7, 8, 9, 30] (by decide) rfl
      refine W.eq (g2 := F0 m 223 ls [.int (nI 2)]) rfl ?_
      refine lv_istore (lv' := [(5, .int (nI 2)), (4, .int (nI w)), (3, .ref oq), (2, .ref o2), (1, .ref o), (0, .ref b)]) hx hb dL_law_223 hl (by decide) rfl (fun ls hl => ?_)
      refine lv_aload_n hx hb dL_law_225 rfl (lv_at hl 3 rfl) ?_
      refine lv_aload_n hx hb dL_law_226 rfl (lv_at hl 5 rfl) ?_
      refine lv_iload hx hb dL_law_227 (lv_at hl 1 rfl) ?_
      refine lv_iconst (v := nI 1) hx hb dL_law_229 (by decide +kernel) ?_
      refine lv_iadd hx hb dL_law_230 ?_
      refine e_top (nI_add _ _) ?_
      refine e_sld hXs hbl hbA hS (w + 1) (by omega) (by omega) (v := nI X) e1 hx hb dL_law_231 ?_
      refine lv_aload_n hx hb dL_law_232 rfl (lv_at hl 5 rfl) ?_
      refine lv_iload hx hb dL_law_233 (lv_at hl 1 rfl) ?_
      refine lv_iconst (v := nI 2) hx hb dL_law_235 (by decide +kernel) ?_
      refine lv_iadd hx hb dL_law_236 ?_
      refine e_top (nI_add _ _) ?_
      refine e_sld hXs hbl hbA hS (w + 2) (by omega) (by omega) (v := nI Y) e2 hx hb dL_law_237 ?_
      refine lv_aload_n hx hb dL_law_238 rfl (lv_at hl 5 rfl) ?_
      refine lv_iload hx hb dL_law_239 (lv_at hl 1 rfl) ?_
      refine lv_iconst (v := nI 3) hx hb dL_law_241 (by decide +kernel) ?_
      refine lv_iadd hx hb dL_law_242 ?_
      refine e_top (nI_add _ _) ?_
      refine e_sld hXs hbl hbA hS (w + 3) (by omega) (by omega) (v := xs (w + 3)) rfl hx hb dL_law_243 ?_
      refine e_callV (As := [.int (nI X), .int (nI Y), .int (xs (w + 3))]) (rest := []) ⟨hx, hb, hml, hown, hts⟩ hK hP hD hS hA hl.1 (c_X5_plant_b2 l E _ o2 ad2 th gr co sd tk wm st mo nx lb fr X Y (xs (w + 3)) (by first | omega | assumption | rfl | (simp_all; done)) (by first | omega | assumption | rfl | (simp_all; done)) (by first | omega | assumption | rfl | (simp_all; done))) (cwV 3 hts gL_law_X5_plant rfl rfl rfl (by decide +kernel) ⟨Nat.le_of_ble_eq_true rfl, Nat.le_of_ble_eq_true rfl⟩) [20, 21, 22, 23, 24, 25, 26, 27, 28, 29] [0, 1, 2, 3, 4, 5, 6, 7, 8, 9, 10, 11, 12, 13, 14, 15, 16, 17, 18, 19, 30] rfl rfl rfl rfl (by decide) (q0 := 20) (ci := 5) rfl rfl rfl rfl (Nat.le_of_ble_eq_true rfl) dL_law_244 ⟨by show 40 + 3 * z + 1 + 0 ≤ 601024; omega, by show 2500 + 168 * z + 6 + 0 ≤ 7293034; omega⟩ (fun u_9 H locs hu_10 hsz1 hP hD hS => ?_)
      have hP : va_P E.1 vwCl (wAll E o ad wm st gr co hb_ (nI mo) ga ca ha_ (nI ma) sd tk op sp rc rn wa ++ wMo E o2 ad2 (nI 2) gr co sd tk wm st (nI mo) nx lb fr ++ [(oq, .inl (E.2.2.2, 1, .inr (.inl lo)))]) H := hP.sub [0, 1, 2, 3, 4, 5, 6, 7, 8, 9, 10, 11, 12, 13, 14, 15, 16, 17, 18, 19, 21, 22, 23, 24, 25, 26, 27, 28, 29, 30, 20] rfl
      have hD : va_D (lA s) (wAll E o ad wm st gr co hb_ (nI mo) ga ca ha_ (nI ma) sd tk op sp rc rn wa ++ wMo E o2 ad2 (nI 2) gr co sd tk wm st (nI mo) nx lb fr ++ [(oq, .inl (E.2.2.2, 1, .inr (.inl lo)))]) := hD.sub [0, 1, 2, 3, 4, 5, 6, 7, 8, 9, 10, 11, 12, 13, 14, 15, 16, 17, 18, 19, 21, 22, 23, 24, 25, 26, 27, 28, 29, 30, 20] (by decide) rfl
      refine W.eq (g2 := F0 m 247 ls [.int (nI 0)]) rfl ?_
      refine lv_istore (lv' := [(6, .int (nI 0)), (5, .int (nI 2)), (4, .int (nI w)), (3, .ref oq), (2, .ref o2), (1, .ref o), (0, .ref b)]) hx hb dL_law_247 hl (by decide) rfl (fun ls hl => ?_)
      refine lv_aload_n hx hb dL_law_249 rfl (lv_at hl 4 rfl) ?_
      refine e_callV (As := []) (rest := []) ⟨hx, hb, hml, hown, hts⟩ hK hP hD hS hA hl.1 (c_X5_thrown l E _ o2 ad2 (nI 2) gr co sd tk wm st mo nx lb fr) (cwV 0 hts gL_law_X5_thrown rfl rfl rfl (by decide +kernel) ⟨Nat.le_of_ble_eq_true rfl, Nat.le_of_ble_eq_true rfl⟩) [20, 21, 22, 23, 24, 25, 26, 27, 28, 29] [0, 1, 2, 3, 4, 5, 6, 7, 8, 9, 10, 11, 12, 13, 14, 15, 16, 17, 18, 19, 30] rfl rfl rfl rfl (by decide) (q0 := 20) (ci := 5) rfl rfl rfl rfl (Nat.le_of_ble_eq_true rfl) dL_law_250 ⟨by show 40 + 3 * z + 1 + 0 + 0 ≤ 601024; omega, by show 2500 + 168 * z + 6 + 0 + 0 ≤ 7293034; omega⟩ (fun u_11 H locs hu_12 hsz1 hP hD hS => ?_)
      have hP : va_P E.1 vwCl (wAll E o ad wm st gr co hb_ (nI mo) ga ca ha_ (nI ma) sd tk op sp rc rn wa ++ wMo E o2 ad2 (nI 2) gr co sd tk wm st (nI mo) nx lb fr ++ [(oq, .inl (E.2.2.2, 1, .inr (.inl lo)))]) H := hP.sub [0, 1, 2, 3, 4, 5, 6, 7, 8, 9, 10, 11, 12, 13, 14, 15, 16, 17, 18, 19, 21, 22, 23, 24, 25, 26, 27, 28, 29, 30, 20] rfl
      have hD : va_D (lA s) (wAll E o ad wm st gr co hb_ (nI mo) ga ca ha_ (nI ma) sd tk op sp rc rn wa ++ wMo E o2 ad2 (nI 2) gr co sd tk wm st (nI mo) nx lb fr ++ [(oq, .inl (E.2.2.2, 1, .inr (.inl lo)))]) := hD.sub [0, 1, 2, 3, 4, 5, 6, 7, 8, 9, 10, 11, 12, 13, 14, 15, 16, 17, 18, 19, 21, 22, 23, 24, 25, 26, 27, 28, 29, 30, 20] (by decide) rfl
      refine W.eq (g2 := F0 m 253 ls [.int (nI 2)]) rfl ?_
      refine lv_iload hx hb dL_law_253 (lv_at hl 1 rfl) ?_
      refine n_icmp_eq (x := 2) (y := 2) (by omega) (by omega) (tgt := 260) hx hb dL_law_255 (by decide) (fun c255 => ?_) (fun c255 => absurd rfl c255)
      refine lv_iload hx hb dL_law_260 (lv_at hl 1 rfl) ?_
      refine n_if_ne (x := 2) (by omega) (tgt := 277) hx hb dL_law_262 (by decide) (fun c262 => ?_) (fun c262 => (by omega))
      refine lv_goto (tgt := 1129) hx hb dL_law_277 (by decide) ?_
      refine lv_iinc (v := nI (w + 4)) (lv' := [(4, .int (nI (w + 4))), (6, .int (nI 0)), (5, .int (nI 2)), (3, .ref oq), (2, .ref o2), (1, .ref o), (0, .ref b)]) hx hb dL_law_1129 hl (k := 2) rfl (nI_add w 4) (by decide) rfl (fun ls hl => ?_)
      refine lv_goto (tgt := 23) hx hb dL_law_1132 (by decide) ?_
      exact W.widen (by show 40 + 3 * z + 1 + 0 + 0 ≤ 40 + 3 * (z + 1); omega) (by show 2500 + 168 * z + 6 + 0 + 0 ≤ 2500 + 168 * (z + 1); omega) (kk (w + 4) wm st gr co hb_ mo ga ca ha_ ma sd tk op sp rc rn wa (nI 2) nx lb fr lo H locs ls (by omega) (by omega) hT hR hP hD hS (lv_sub hl [0, 3, 4, 5, 6] rfl))
    | true =>
      refine lv_aload_n hx hb dL_law_200 rfl (lv_at hl 3 rfl) ?_
      refine lv_aload_n hx hb dL_law_201 rfl (lv_at hl 4 rfl) ?_
      refine lv_iload hx hb dL_law_202 (lv_at hl 0 rfl) ?_
      refine lv_iconst (v := nI 1) hx hb dL_law_204 (by decide +kernel) ?_
      refine lv_iadd hx hb dL_law_205 ?_
      refine e_top (nI_add _ _) ?_
      refine e_sld hXs hbl hbA hS (w + 1) (by omega) (by omega) (v := nI X) e1 hx hb dL_law_206 ?_
      refine lv_aload_n hx hb dL_law_207 rfl (lv_at hl 4 rfl) ?_
      refine lv_iload hx hb dL_law_208 (lv_at hl 0 rfl) ?_
      refine lv_iconst (v := nI 2) hx hb dL_law_210 (by decide +kernel) ?_
      refine lv_iadd hx hb dL_law_211 ?_
      refine e_top (nI_add _ _) ?_
      refine e_sld hXs hbl hbA hS (w + 2) (by omega) (by omega) (v := nI Y) e2 hx hb dL_law_212 ?_
      refine lv_aload_n hx hb dL_law_213 rfl (lv_at hl 4 rfl) ?_
      refine lv_iload hx hb dL_law_214 (lv_at hl 0 rfl) ?_
      refine lv_iconst (v := nI 3) hx hb dL_law_216 (by decide +kernel) ?_
      refine lv_iadd hx hb dL_law_217 ?_
      refine e_top (nI_add _ _) ?_
      refine e_sld hXs hbl hbA hS (w + 3) (by omega) (by omega) (v := xs (w + 3)) rfl hx hb dL_law_218 ?_
      refine lv_aload_n hx hb dL_law_219 rfl (lv_at hl 1 rfl) ?_
      refine e_callSH (As := [.ref o, .int (nI X), .int (nI Y), .int (xs (w + 3)), .ref oq]) (rest := []) ⟨hx, hb, hml, hown, hts⟩ hK hX hP hD hS hA hl.1 (c_L_plant l hlt E _ o ad wm st gr co hb_ mo ga ca ha_ ma sd tk op sp rc rn wa X Y (xs (w + 3)) oq lo (by first | omega | assumption | rfl | (simp_all; done)) (by first | omega | assumption | rfl | (simp_all; done)) (by first | omega | assumption | rfl | (simp_all; done))) (vx_cwSW 5 hts gL_law_L_plant rfl rfl rfl (by decide +kernel) ⟨Nat.le_of_ble_eq_true rfl, Nat.le_of_ble_eq_true rfl⟩) [0, 1, 2, 3, 4, 5, 6, 7, 8, 9, 10, 11, 12, 13, 14, 15, 16, 17, 18, 19, 30] [20, 21, 22, 23, 24, 25, 26, 27, 28, 29] rfl rfl rfl rfl (by decide) rfl rfl (Nat.le_of_ble_eq_true rfl) dL_law_220 ⟨by show 40 + 3 * z + 0 ≤ 601024; omega, by show 2500 + 168 * z + 0 ≤ 7293034; omega⟩ (fun u_13 H locs hu_14 hsz1 hP hD hS => ?_)
      have hP : va_P E.1 vwCl (wAll E o ad wm st gr (upd co ((9 * Y) + X) (xs (w + 3))) hb_ (nI mo) ga ca ha_ (nI ma) sd tk op sp rc rn wa ++ wMo E o2 ad2 th gr co sd tk wm st (nI mo) nx lb fr ++ [(oq, .inl (E.2.2.2, 1, .inr (.inl (vp_updL lo 0 ((co ((9 * Y) + X)).toInt64)))))]) H := hP.sub [10, 11, 12, 13, 14, 15, 16, 17, 18, 19, 20, 21, 22, 23, 24, 25, 26, 27, 28, 29, 0, 1, 2, 3, 4, 5, 6, 7, 8, 9, 30] rfl
      have hD : va_D (lA s) (wAll E o ad wm st gr (upd co ((9 * Y) + X) (xs (w + 3))) hb_ (nI mo) ga ca ha_ (nI ma) sd tk op sp rc rn wa ++ wMo E o2 ad2 th gr co sd tk wm st (nI mo) nx lb fr ++ [(oq, .inl (E.2.2.2, 1, .inr (.inl (vp_updL lo 0 ((co ((9 * Y) + X)).toInt64)))))]) := hD.sub [10, 11, 12, 13, 14, 15, 16, 17, 18, 19, 20, 21, 22, 23, 24, 25, 26, 27, 28, 29, 0, 1, 2, 3, 4, 5, 6, 7, 8, 9, 30] (by decide) rfl
      refine W.eq (g2 := F0 m 223 ls [.int (nI 0)]) rfl ?_
      refine lv_istore (lv' := [(5, .int (nI 0)), (4, .int (nI w)), (3, .ref oq), (2, .ref o2), (1, .ref o), (0, .ref b)]) hx hb dL_law_223 hl (by decide) rfl (fun ls hl => ?_)
      refine lv_aload_n hx hb dL_law_225 rfl (lv_at hl 3 rfl) ?_
      refine lv_aload_n hx hb dL_law_226 rfl (lv_at hl 5 rfl) ?_
      refine lv_iload hx hb dL_law_227 (lv_at hl 1 rfl) ?_
      refine lv_iconst (v := nI 1) hx hb dL_law_229 (by decide +kernel) ?_
      refine lv_iadd hx hb dL_law_230 ?_
      refine e_top (nI_add _ _) ?_
      refine e_sld hXs hbl hbA hS (w + 1) (by omega) (by omega) (v := nI X) e1 hx hb dL_law_231 ?_
      refine lv_aload_n hx hb dL_law_232 rfl (lv_at hl 5 rfl) ?_
      refine lv_iload hx hb dL_law_233 (lv_at hl 1 rfl) ?_
      refine lv_iconst (v := nI 2) hx hb dL_law_235 (by decide +kernel) ?_
      refine lv_iadd hx hb dL_law_236 ?_
      refine e_top (nI_add _ _) ?_
      refine e_sld hXs hbl hbA hS (w + 2) (by omega) (by omega) (v := nI Y) e2 hx hb dL_law_237 ?_
      refine lv_aload_n hx hb dL_law_238 rfl (lv_at hl 5 rfl) ?_
      refine lv_iload hx hb dL_law_239 (lv_at hl 1 rfl) ?_
      refine lv_iconst (v := nI 3) hx hb dL_law_241 (by decide +kernel) ?_
      refine lv_iadd hx hb dL_law_242 ?_
      refine e_top (nI_add _ _) ?_
      refine e_sld hXs hbl hbA hS (w + 3) (by omega) (by omega) (v := xs (w + 3)) rfl hx hb dL_law_243 ?_
      refine e_callV (As := [.int (nI X), .int (nI Y), .int (xs (w + 3))]) (rest := []) ⟨hx, hb, hml, hown, hts⟩ hK hP hD hS hA hl.1 (c_X5_plant l E _ o2 ad2 th gr co sd tk wm st mo nx lb fr X Y (xs (w + 3)) (by first | omega | assumption | rfl | (simp_all; done)) (by first | omega | assumption | rfl | (simp_all; done)) (by first | omega | assumption | rfl | (simp_all; done))) (cwV 3 hts gL_law_X5_plant rfl rfl rfl (by decide +kernel) ⟨Nat.le_of_ble_eq_true rfl, Nat.le_of_ble_eq_true rfl⟩) [20, 21, 22, 23, 24, 25, 26, 27, 28, 29] [0, 1, 2, 3, 4, 5, 6, 7, 8, 9, 10, 11, 12, 13, 14, 15, 16, 17, 18, 19, 30] rfl rfl rfl rfl (by decide) (q0 := 20) (ci := 5) rfl rfl rfl rfl (Nat.le_of_ble_eq_true rfl) dL_law_244 ⟨by show 40 + 3 * z + 0 + 0 ≤ 601024; omega, by show 2500 + 168 * z + 0 + 0 ≤ 7293034; omega⟩ (fun u_15 H locs hu_16 hsz1 hP hD hS => ?_)
      have hP : va_P E.1 vwCl (wAll E o ad wm st gr (upd co ((9 * Y) + X) (xs (w + 3))) hb_ (nI mo) ga ca ha_ (nI ma) sd tk op sp rc rn wa ++ wMo E o2 ad2 (nI 0) gr (upd co ((9 * Y) + X) (xs (w + 3))) sd tk wm st (nI mo) nx lb fr ++ [(oq, .inl (E.2.2.2, 1, .inr (.inl (vp_updL lo 0 ((co ((9 * Y) + X)).toInt64)))))]) H := hP.sub [0, 1, 2, 3, 4, 5, 6, 7, 8, 9, 10, 11, 12, 13, 14, 15, 16, 17, 18, 19, 21, 22, 23, 24, 25, 26, 27, 28, 29, 30, 20] rfl
      have hD : va_D (lA s) (wAll E o ad wm st gr (upd co ((9 * Y) + X) (xs (w + 3))) hb_ (nI mo) ga ca ha_ (nI ma) sd tk op sp rc rn wa ++ wMo E o2 ad2 (nI 0) gr (upd co ((9 * Y) + X) (xs (w + 3))) sd tk wm st (nI mo) nx lb fr ++ [(oq, .inl (E.2.2.2, 1, .inr (.inl (vp_updL lo 0 ((co ((9 * Y) + X)).toInt64)))))]) := hD.sub [0, 1, 2, 3, 4, 5, 6, 7, 8, 9, 10, 11, 12, 13, 14, 15, 16, 17, 18, 19, 21, 22, 23, 24, 25, 26, 27, 28, 29, 30, 20] (by decide) rfl
      refine W.eq (g2 := F0 m 247 ls [.int (co ((9 * Y) + X))]) rfl ?_
      refine lv_istore (lv' := [(6, .int (co ((9 * Y) + X))), (5, .int (nI 0)), (4, .int (nI w)), (3, .ref oq), (2, .ref o2), (1, .ref o), (0, .ref b)]) hx hb dL_law_247 hl (by decide) rfl (fun ls hl => ?_)
      refine lv_aload_n hx hb dL_law_249 rfl (lv_at hl 4 rfl) ?_
      refine e_callV (As := []) (rest := []) ⟨hx, hb, hml, hown, hts⟩ hK hP hD hS hA hl.1 (c_X5_thrown l E _ o2 ad2 (nI 0) gr (upd co ((9 * Y) + X) (xs (w + 3))) sd tk wm st mo nx lb fr) (cwV 0 hts gL_law_X5_thrown rfl rfl rfl (by decide +kernel) ⟨Nat.le_of_ble_eq_true rfl, Nat.le_of_ble_eq_true rfl⟩) [20, 21, 22, 23, 24, 25, 26, 27, 28, 29] [0, 1, 2, 3, 4, 5, 6, 7, 8, 9, 10, 11, 12, 13, 14, 15, 16, 17, 18, 19, 30] rfl rfl rfl rfl (by decide) (q0 := 20) (ci := 5) rfl rfl rfl rfl (Nat.le_of_ble_eq_true rfl) dL_law_250 ⟨by show 40 + 3 * z + 0 + 0 + 0 ≤ 601024; omega, by show 2500 + 168 * z + 0 + 0 + 0 ≤ 7293034; omega⟩ (fun u_17 H locs hu_18 hsz1 hP hD hS => ?_)
      have hP : va_P E.1 vwCl (wAll E o ad wm st gr (upd co ((9 * Y) + X) (xs (w + 3))) hb_ (nI mo) ga ca ha_ (nI ma) sd tk op sp rc rn wa ++ wMo E o2 ad2 (nI 0) gr (upd co ((9 * Y) + X) (xs (w + 3))) sd tk wm st (nI mo) nx lb fr ++ [(oq, .inl (E.2.2.2, 1, .inr (.inl (vp_updL lo 0 ((co ((9 * Y) + X)).toInt64)))))]) H := hP.sub [0, 1, 2, 3, 4, 5, 6, 7, 8, 9, 10, 11, 12, 13, 14, 15, 16, 17, 18, 19, 21, 22, 23, 24, 25, 26, 27, 28, 29, 30, 20] rfl
      have hD : va_D (lA s) (wAll E o ad wm st gr (upd co ((9 * Y) + X) (xs (w + 3))) hb_ (nI mo) ga ca ha_ (nI ma) sd tk op sp rc rn wa ++ wMo E o2 ad2 (nI 0) gr (upd co ((9 * Y) + X) (xs (w + 3))) sd tk wm st (nI mo) nx lb fr ++ [(oq, .inl (E.2.2.2, 1, .inr (.inl (vp_updL lo 0 ((co ((9 * Y) + X)).toInt64)))))]) := hD.sub [0, 1, 2, 3, 4, 5, 6, 7, 8, 9, 10, 11, 12, 13, 14, 15, 16, 17, 18, 19, 21, 22, 23, 24, 25, 26, 27, 28, 29, 30, 20] (by decide) rfl
      refine W.eq (g2 := F0 m 253 ls [.int (nI 0)]) rfl ?_
      refine lv_iload hx hb dL_law_253 (lv_at hl 1 rfl) ?_
      refine n_icmp_eq (x := 0) (y := 0) (by omega) (by omega) (tgt := 260) hx hb dL_law_255 (by decide) (fun c255 => ?_) (fun c255 => absurd rfl c255)
      refine lv_iload hx hb dL_law_260 (lv_at hl 1 rfl) ?_
      refine n_if_ne (x := 0) (by omega) (tgt := 277) hx hb dL_law_262 (by decide) (fun c262 => (by omega)) (fun c262 => ?_)
      refine lv_aload_n hx hb dL_law_265 rfl (lv_at hl 3 rfl) ?_
      refine lv_iconst (v := nI 0) hx hb dL_law_266 (by decide +kernel) ?_
      refine e_lald hK hP 30 rfl 0 (by omega) (by decide) hx hb dL_law_267 ?_
      refine lv_iload hx hb dL_law_268 (lv_at hl 0 rfl) ?_
      refine lv_i2l hx hb dL_law_270 rfl ?_
      refine W.lcmp hx hb dL_law_271 ?_
      refine e_top (y := nI 0) (show lg_cmp ((vp_updL lo 0 ((co ((9 * Y) + X)).toInt64)) 0) ((co ((9 * Y) + X)).toInt64) = nI 0 from (lg_cmp_eq _ _).mpr rfl) ?_
      refine n_if_eq (x := 0) (by omega) (tgt := 277) hx hb dL_law_272 (by decide) (fun c272 => ?_) (fun c272 => (by omega))
      refine lv_goto (tgt := 1129) hx hb dL_law_277 (by decide) ?_
      refine lv_iinc (v := nI (w + 4)) (lv' := [(4, .int (nI (w + 4))), (6, .int (co ((9 * Y) + X))), (5, .int (nI 0)), (3, .ref oq), (2, .ref o2), (1, .ref o), (0, .ref b)]) hx hb dL_law_1129 hl (k := 2) rfl (nI_add w 4) (by decide) rfl (fun ls hl => ?_)
      refine lv_goto (tgt := 23) hx hb dL_law_1132 (by decide) ?_
      exact W.widen (by show 40 + 3 * z + 0 + 0 + 0 ≤ 40 + 3 * (z + 1); omega) (by show 2500 + 168 * z + 0 + 0 + 0 ≤ 2500 + 168 * (z + 1); omega) (kk (w + 4) wm st gr (upd co ((9 * Y) + X) (xs (w + 3))) hb_ mo ga ca ha_ ma sd tk op sp rc rn wa (nI 0) nx lb fr (vp_updL lo 0 ((co ((9 * Y) + X)).toInt64)) H locs ls (by omega) (by omega) hT (Rg_plant hR hv) hP hD hS (lv_sub hl [0, 3, 4, 5, 6] rfl))

set_option maxHeartbeats 16000000 in
set_option maxRecDepth 100000 in
theorem k_case2 {p : Program} {e : Env} {s : State} {m : MethodId} {below : List Frame} {meth : Method} {cd : Code} (l : Launch) (hlt : l.stackTraces = false) {b L : Nat} {xs : Nat → Int32} {E : eT} (C : lC p s m cd b L xs E) {Q : State → Prop} {o : Nat} {ad : Nat → Nat} {o2 : Nat} {ad2 : Nat → Nat} {oq : Nat} (z w : Nat) (kk : lHead p l e s m below meth cd b E Q o ad o2 ad2 oq (z + 1)) (hi : w + 4 ≤ L) (wm : Nat → Int32) (st : Nat → Int32) (gr : Nat → Int32) (co : Nat → Int32) (hb_ : Nat → Bool) (mo : Nat) (ga : Nat → Int32) (ca : Nat → Int32) (ha_ : Nat → Bool) (ma : Nat) (sd : Nat → Int32) (tk : Nat → Int32) (op : Nat → Bool) (sp : Nat → Nat) (rc : Nat → Nat) (rn : Nat) (wa : Nat → Int32) (th : Int32) (nx : Nat → Int32) (lb : Nat → Option Nat) (fr : Nat → Nat) (lo : Nat → Int64) (H : Heap) (locs : List Loc) (ls : Array Slot) (hw : w = 4 * z) (hmo : mo ≤ 120 * z) (hT : Tb wm st) (hR : Rg gr co) (hP : va_P E.1 vwCl (wAll E o ad wm st gr co hb_ (nI mo) ga ca ha_ (nI ma) sd tk op sp rc rn wa ++ wMo E o2 ad2 th gr co sd tk wm st (nI mo) nx lb fr ++ [(oq, .inl (E.2.2.2, 1, .inr (.inl lo)))]) H) (hD : va_D (lA s) (wAll E o ad wm st gr co hb_ (nI mo) ga ca ha_ (nI ma) sd tk op sp rc rn wa ++ wMo E o2 ad2 th gr co sd tk wm st (nI mo) nx lb fr ++ [(oq, .inl (E.2.2.2, 1, .inr (.inl lo)))])) (hS : va_S (lA s) s.heap H locs) (hl : lv_has ls 9 [(4, .int (nI w)), (3, .ref oq), (2, .ref o2), (1, .ref o), (0, .ref b)]) : W p l e room_1 s m #[Value.ref b] below meth cd H locs (40 + 3 * z) (2500 + 168 * z) Q (F0 m 280 ls []) := by
  obtain ⟨hx, hb, hml, hown, hts, hK, hX, hXs, hbl, hL⟩ := C
  have hA : ∀ q : Nat, s.heap.size ≤ q → lA s q := fun _ h => h
  have hbA : ¬ lA s b := Nat.not_le.mpr hbl
  have hz : z ≤ 512 := by omega
  cases hM : isInB (xs (w + 1)) (nI 0) (nI 11) with
  | false =>
    refine lv_aload_n hx hb dL_law_280 rfl (lv_at hl 3 rfl) ?_
    refine lv_aload_n hx hb dL_law_281 rfl (lv_at hl 4 rfl) ?_
    refine lv_iload hx hb dL_law_282 (lv_at hl 0 rfl) ?_
    refine lv_iconst (v := nI 1) hx hb dL_law_284 (by decide +kernel) ?_
    refine lv_iadd hx hb dL_law_285 ?_
    refine e_top (nI_add _ _) ?_
    refine e_sld hXs hbl hbA hS (w + 1) (by omega) (by omega) (v := xs (w + 1)) rfl hx hb dL_law_286 ?_
    refine lv_aload_n hx hb dL_law_287 rfl (lv_at hl 4 rfl) ?_
    refine lv_iload hx hb dL_law_288 (lv_at hl 0 rfl) ?_
    refine lv_iconst (v := nI 2) hx hb dL_law_290 (by decide +kernel) ?_
    refine lv_iadd hx hb dL_law_291 ?_
    refine e_top (nI_add _ _) ?_
    refine e_sld hXs hbl hbA hS (w + 2) (by omega) (by omega) (v := xs (w + 2)) rfl hx hb dL_law_292 ?_
    refine lv_aload_n hx hb dL_law_293 rfl (lv_at hl 4 rfl) ?_
    refine lv_iload hx hb dL_law_294 (lv_at hl 0 rfl) ?_
    refine lv_iconst (v := nI 3) hx hb dL_law_296 (by decide +kernel) ?_
    refine lv_iadd hx hb dL_law_297 ?_
    refine e_top (nI_add _ _) ?_
    refine e_sld hXs hbl hbA hS (w + 3) (by omega) (by omega) (v := xs (w + 3)) rfl hx hb dL_law_298 ?_
    refine lv_aload_n hx hb dL_law_299 rfl (lv_at hl 1 rfl) ?_
    refine e_callSH (As := [.ref o, .int (xs (w + 1)), .int (xs (w + 2)), .int (xs (w + 3)), .ref oq]) (rest := []) ⟨hx, hb, hml, hown, hts⟩ hK hX hP hD hS hA hl.1 (c_L_setMonth_b1 l hlt E _ o ad wm st gr co hb_ mo ga ca ha_ ma sd tk op sp rc rn wa (xs (w + 1)) (xs (w + 2)) (xs (w + 3)) oq lo (hM)) (vx_cwSW 5 hts gL_law_L_setMonth rfl rfl rfl (by decide +kernel) ⟨Nat.le_of_ble_eq_true rfl, Nat.le_of_ble_eq_true rfl⟩) [0, 1, 2, 3, 4, 5, 6, 7, 8, 9, 10, 11, 12, 13, 14, 15, 16, 17, 18, 19, 30] [20, 21, 22, 23, 24, 25, 26, 27, 28, 29] rfl rfl rfl rfl (by decide) rfl rfl (Nat.le_of_ble_eq_true rfl) dL_law_300 ⟨by show 40 + 3 * z + 1 ≤ 601024; omega, by show 2500 + 168 * z + 6 ≤ 7293034; omega⟩ (fun u_1 H locs hu_2 hsz1 hP hD hS => ?_)
    have hP : va_P E.1 vwCl (wAll E o ad wm st gr co hb_ (nI mo) ga ca ha_ (nI ma) sd tk op sp rc rn wa ++ wMo E o2 ad2 th gr co sd tk wm st (nI mo) nx lb fr ++ [(oq, .inl (E.2.2.2, 1, .inr (.inl lo)))]) H := hP.sub [10, 11, 12, 13, 14, 15, 16, 17, 18, 19, 20, 21, 22, 23, 24, 25, 26, 27, 28, 29, 0, 1, 2, 3, 4, 5, 6, 7, 8, 9, 30] rfl
    have hD : va_D (lA s) (wAll E o ad wm st gr co hb_ (nI mo) ga ca ha_ (nI ma) sd tk op sp rc rn wa ++ wMo E o2 ad2 th gr co sd tk wm st (nI mo) nx lb fr ++ [(oq, .inl (E.2.2.2, 1, .inr (.inl lo)))]) := hD.sub [10, 11, 12, 13, 14, 15, 16, 17, 18, 19, 20, 21, 22, 23, 24, 25, 26, 27, 28, 29, 0, 1, 2, 3, 4, 5, 6, 7, 8, 9, 30] (by decide) rfl
    refine W.eq (g2 := F0 m 303 ls [.int (nI 1)]) rfl ?_
    refine lv_istore (lv' := [(5, .int (nI 1)), (4, .int (nI w)), (3, .ref oq), (2, .ref o2), (1, .ref o), (0, .ref b)]) hx hb dL_law_303 hl (by decide) rfl (fun ls hl => ?_)
    refine lv_aload_n hx hb dL_law_305 rfl (lv_at hl 3 rfl) ?_
    refine lv_aload_n hx hb dL_law_306 rfl (lv_at hl 5 rfl) ?_
    refine lv_iload hx hb dL_law_307 (lv_at hl 1 rfl) ?_
    refine lv_iconst (v := nI 1) hx hb dL_law_309 (by decide +kernel) ?_
    refine lv_iadd hx hb dL_law_310 ?_
    refine e_top (nI_add _ _) ?_
    refine e_sld hXs hbl hbA hS (w + 1) (by omega) (by omega) (v := xs (w + 1)) rfl hx hb dL_law_311 ?_
    refine lv_aload_n hx hb dL_law_312 rfl (lv_at hl 5 rfl) ?_
    refine lv_iload hx hb dL_law_313 (lv_at hl 1 rfl) ?_
    refine lv_iconst (v := nI 2) hx hb dL_law_315 (by decide +kernel) ?_
    refine lv_iadd hx hb dL_law_316 ?_
    refine e_top (nI_add _ _) ?_
    refine e_sld hXs hbl hbA hS (w + 2) (by omega) (by omega) (v := xs (w + 2)) rfl hx hb dL_law_317 ?_
    refine lv_aload_n hx hb dL_law_318 rfl (lv_at hl 5 rfl) ?_
    refine lv_iload hx hb dL_law_319 (lv_at hl 1 rfl) ?_
    refine lv_iconst (v := nI 3) hx hb dL_law_321 (by decide +kernel) ?_
    refine lv_iadd hx hb dL_law_322 ?_
    refine e_top (nI_add _ _) ?_
    refine e_sld hXs hbl hbA hS (w + 3) (by omega) (by omega) (v := xs (w + 3)) rfl hx hb dL_law_323 ?_
    refine e_callV (As := [.int (xs (w + 1)), .int (xs (w + 2)), .int (xs (w + 3))]) (rest := []) ⟨hx, hb, hml, hown, hts⟩ hK hP hD hS hA hl.1 (c_X5_setMonth_b1 l E _ o2 ad2 th gr co sd tk wm st mo nx lb fr (xs (w + 1)) (xs (w + 2)) (xs (w + 3)) (hM)) (cwV 3 hts gL_law_X5_setMonth rfl rfl rfl (by decide +kernel) ⟨Nat.le_of_ble_eq_true rfl, Nat.le_of_ble_eq_true rfl⟩) [20, 21, 22, 23, 24, 25, 26, 27, 28, 29] [0, 1, 2, 3, 4, 5, 6, 7, 8, 9, 10, 11, 12, 13, 14, 15, 16, 17, 18, 19, 30] rfl rfl rfl rfl (by decide) (q0 := 20) (ci := 5) rfl rfl rfl rfl (Nat.le_of_ble_eq_true rfl) dL_law_324 ⟨by show 40 + 3 * z + 1 + 0 ≤ 601024; omega, by show 2500 + 168 * z + 6 + 0 ≤ 7293034; omega⟩ (fun u_3 H locs hu_4 hsz1 hP hD hS => ?_)
    have hP : va_P E.1 vwCl (wAll E o ad wm st gr co hb_ (nI mo) ga ca ha_ (nI ma) sd tk op sp rc rn wa ++ wMo E o2 ad2 (nI 1) gr co sd tk wm st (nI mo) nx lb fr ++ [(oq, .inl (E.2.2.2, 1, .inr (.inl lo)))]) H := hP.sub [0, 1, 2, 3, 4, 5, 6, 7, 8, 9, 10, 11, 12, 13, 14, 15, 16, 17, 18, 19, 21, 22, 23, 24, 25, 26, 27, 28, 29, 30, 20] rfl
    have hD : va_D (lA s) (wAll E o ad wm st gr co hb_ (nI mo) ga ca ha_ (nI ma) sd tk op sp rc rn wa ++ wMo E o2 ad2 (nI 1) gr co sd tk wm st (nI mo) nx lb fr ++ [(oq, .inl (E.2.2.2, 1, .inr (.inl lo)))]) := hD.sub [0, 1, 2, 3, 4, 5, 6, 7, 8, 9, 10, 11, 12, 13, 14, 15, 16, 17, 18, 19, 21, 22, 23, 24, 25, 26, 27, 28, 29, 30, 20] (by decide) rfl
    refine W.eq (g2 := F0 m 327 ls [.int (nI 0)]) rfl ?_
    refine lv_istore (lv' := [(6, .int (nI 0)), (5, .int (nI 1)), (4, .int (nI w)), (3, .ref oq), (2, .ref o2), (1, .ref o), (0, .ref b)]) hx hb dL_law_327 hl (by decide) rfl (fun ls hl => ?_)
    refine lv_aload_n hx hb dL_law_329 rfl (lv_at hl 4 rfl) ?_
    refine e_callV (As := []) (rest := []) ⟨hx, hb, hml, hown, hts⟩ hK hP hD hS hA hl.1 (c_X5_thrown l E _ o2 ad2 (nI 1) gr co sd tk wm st mo nx lb fr) (cwV 0 hts gL_law_X5_thrown rfl rfl rfl (by decide +kernel) ⟨Nat.le_of_ble_eq_true rfl, Nat.le_of_ble_eq_true rfl⟩) [20, 21, 22, 23, 24, 25, 26, 27, 28, 29] [0, 1, 2, 3, 4, 5, 6, 7, 8, 9, 10, 11, 12, 13, 14, 15, 16, 17, 18, 19, 30] rfl rfl rfl rfl (by decide) (q0 := 20) (ci := 5) rfl rfl rfl rfl (Nat.le_of_ble_eq_true rfl) dL_law_330 ⟨by show 40 + 3 * z + 1 + 0 + 0 ≤ 601024; omega, by show 2500 + 168 * z + 6 + 0 + 0 ≤ 7293034; omega⟩ (fun u_5 H locs hu_6 hsz1 hP hD hS => ?_)
    have hP : va_P E.1 vwCl (wAll E o ad wm st gr co hb_ (nI mo) ga ca ha_ (nI ma) sd tk op sp rc rn wa ++ wMo E o2 ad2 (nI 1) gr co sd tk wm st (nI mo) nx lb fr ++ [(oq, .inl (E.2.2.2, 1, .inr (.inl lo)))]) H := hP.sub [0, 1, 2, 3, 4, 5, 6, 7, 8, 9, 10, 11, 12, 13, 14, 15, 16, 17, 18, 19, 21, 22, 23, 24, 25, 26, 27, 28, 29, 30, 20] rfl
    have hD : va_D (lA s) (wAll E o ad wm st gr co hb_ (nI mo) ga ca ha_ (nI ma) sd tk op sp rc rn wa ++ wMo E o2 ad2 (nI 1) gr co sd tk wm st (nI mo) nx lb fr ++ [(oq, .inl (E.2.2.2, 1, .inr (.inl lo)))]) := hD.sub [0, 1, 2, 3, 4, 5, 6, 7, 8, 9, 10, 11, 12, 13, 14, 15, 16, 17, 18, 19, 21, 22, 23, 24, 25, 26, 27, 28, 29, 30, 20] (by decide) rfl
    refine W.eq (g2 := F0 m 333 ls [.int (nI 1)]) rfl ?_
    refine lv_iload hx hb dL_law_333 (lv_at hl 1 rfl) ?_
    refine n_icmp_eq (x := 1) (y := 1) (by omega) (by omega) (tgt := 340) hx hb dL_law_335 (by decide) (fun c335 => ?_) (fun c335 => absurd rfl c335)
    refine lv_iload hx hb dL_law_340 (lv_at hl 1 rfl) ?_
    refine n_if_ne (x := 1) (by omega) (tgt := 357) hx hb dL_law_342 (by decide) (fun c342 => ?_) (fun c342 => (by omega))
    refine lv_goto (tgt := 1129) hx hb dL_law_357 (by decide) ?_
    refine lv_iinc (v := nI (w + 4)) (lv' := [(4, .int (nI (w + 4))), (6, .int (nI 0)), (5, .int (nI 1)), (3, .ref oq), (2, .ref o2), (1, .ref o), (0, .ref b)]) hx hb dL_law_1129 hl (k := 2) rfl (nI_add w 4) (by decide) rfl (fun ls hl => ?_)
    refine lv_goto (tgt := 23) hx hb dL_law_1132 (by decide) ?_
    exact W.widen (by show 40 + 3 * z + 1 + 0 + 0 ≤ 40 + 3 * (z + 1); omega) (by show 2500 + 168 * z + 6 + 0 + 0 ≤ 2500 + 168 * (z + 1); omega) (kk (w + 4) wm st gr co hb_ mo ga ca ha_ ma sd tk op sp rc rn wa (nI 1) nx lb fr lo H locs ls (by omega) (by omega) hT hR hP hD hS (lv_sub hl [0, 3, 4, 5, 6] rfl))
  | true =>
    obtain ⟨M, hM1, hM2, e1⟩ := isInB_nat (by decide) hM (by decide)
    cases hv : isInB (xs (w + 2)) (nI 0) (nI 9) with
    | false =>
      refine lv_aload_n hx hb dL_law_280 rfl (lv_at hl 3 rfl) ?_
      refine lv_aload_n hx hb dL_law_281 rfl (lv_at hl 4 rfl) ?_
      refine lv_iload hx hb dL_law_282 (lv_at hl 0 rfl) ?_
      refine lv_iconst (v := nI 1) hx hb dL_law_284 (by decide +kernel) ?_
      refine lv_iadd hx hb dL_law_285 ?_
      refine e_top (nI_add _ _) ?_
      refine e_sld hXs hbl hbA hS (w + 1) (by omega) (by omega) (v := nI M) e1 hx hb dL_law_286 ?_
      refine lv_aload_n hx hb dL_law_287 rfl (lv_at hl 4 rfl) ?_
      refine lv_iload hx hb dL_law_288 (lv_at hl 0 rfl) ?_
      refine lv_iconst (v := nI 2) hx hb dL_law_290 (by decide +kernel) ?_
      refine lv_iadd hx hb dL_law_291 ?_
      refine e_top (nI_add _ _) ?_
      refine e_sld hXs hbl hbA hS (w + 2) (by omega) (by omega) (v := xs (w + 2)) rfl hx hb dL_law_292 ?_
      refine lv_aload_n hx hb dL_law_293 rfl (lv_at hl 4 rfl) ?_
      refine lv_iload hx hb dL_law_294 (lv_at hl 0 rfl) ?_
      refine lv_iconst (v := nI 3) hx hb dL_law_296 (by decide +kernel) ?_
      refine lv_iadd hx hb dL_law_297 ?_
      refine e_top (nI_add _ _) ?_
      refine e_sld hXs hbl hbA hS (w + 3) (by omega) (by omega) (v := xs (w + 3)) rfl hx hb dL_law_298 ?_
      refine lv_aload_n hx hb dL_law_299 rfl (lv_at hl 1 rfl) ?_
      refine e_callSH (As := [.ref o, .int (nI M), .int (xs (w + 2)), .int (xs (w + 3)), .ref oq]) (rest := []) ⟨hx, hb, hml, hown, hts⟩ hK hX hP hD hS hA hl.1 (c_L_setMonth_b2 l hlt E _ o ad wm st gr co hb_ mo ga ca ha_ ma sd tk op sp rc rn wa M (xs (w + 2)) (xs (w + 3)) oq lo (by first | omega | assumption | rfl | (simp_all; done)) (by first | omega | assumption | rfl | (simp_all; done))) (vx_cwSW 5 hts gL_law_L_setMonth rfl rfl rfl (by decide +kernel) ⟨Nat.le_of_ble_eq_true rfl, Nat.le_of_ble_eq_true rfl⟩) [0, 1, 2, 3, 4, 5, 6, 7, 8, 9, 10, 11, 12, 13, 14, 15, 16, 17, 18, 19, 30] [20, 21, 22, 23, 24, 25, 26, 27, 28, 29] rfl rfl rfl rfl (by decide) rfl rfl (Nat.le_of_ble_eq_true rfl) dL_law_300 ⟨by show 40 + 3 * z + 1 ≤ 601024; omega, by show 2500 + 168 * z + 6 ≤ 7293034; omega⟩ (fun u_7 H locs hu_8 hsz1 hP hD hS => ?_)
      have hP : va_P E.1 vwCl (wAll E o ad wm st gr co hb_ (nI mo) ga ca ha_ (nI ma) sd tk op sp rc rn wa ++ wMo E o2 ad2 th gr co sd tk wm st (nI mo) nx lb fr ++ [(oq, .inl (E.2.2.2, 1, .inr (.inl lo)))]) H := hP.sub [10, 11, 12, 13, 14, 15, 16, 17, 18, 19, 20, 21, 22, 23, 24, 25, 26, 27, 28, 29, 0, 1, 2, 3, 4, 5, 6, 7, 8, 9, 30] rfl
      have hD : va_D (lA s) (wAll E o ad wm st gr co hb_ (nI mo) ga ca ha_ (nI ma) sd tk op sp rc rn wa ++ wMo E o2 ad2 th gr co sd tk wm st (nI mo) nx lb fr ++ [(oq, .inl (E.2.2.2, 1, .inr (.inl lo)))]) := hD.sub [10, 11, 12, 13, 14, 15, 16, 17, 18, 19, 20, 21, 22, 23, 24, 25, 26, 27, 28, 29, 0, 1, 2, 3, 4, 5, 6, 7, 8, 9, 30] (by decide) rfl
      refine W.eq (g2 := F0 m 303 ls [.int (nI 2)]) rfl ?_
      refine lv_istore (lv' := [(5, .int (nI 2)), (4, .int (nI w)), (3, .ref oq), (2, .ref o2), (1, .ref o), (0, .ref b)]) hx hb dL_law_303 hl (by decide) rfl (fun ls hl => ?_)
      refine lv_aload_n hx hb dL_law_305 rfl (lv_at hl 3 rfl) ?_
      refine lv_aload_n hx hb dL_law_306 rfl (lv_at hl 5 rfl) ?_
      refine lv_iload hx hb dL_law_307 (lv_at hl 1 rfl) ?_
      refine lv_iconst (v := nI 1) hx hb dL_law_309 (by decide +kernel) ?_
      refine lv_iadd hx hb dL_law_310 ?_
      refine e_top (nI_add _ _) ?_
      refine e_sld hXs hbl hbA hS (w + 1) (by omega) (by omega) (v := nI M) e1 hx hb dL_law_311 ?_
      refine lv_aload_n hx hb dL_law_312 rfl (lv_at hl 5 rfl) ?_
      refine lv_iload hx hb dL_law_313 (lv_at hl 1 rfl) ?_
      refine lv_iconst (v := nI 2) hx hb dL_law_315 (by decide +kernel) ?_
      refine lv_iadd hx hb dL_law_316 ?_
      refine e_top (nI_add _ _) ?_
      refine e_sld hXs hbl hbA hS (w + 2) (by omega) (by omega) (v := xs (w + 2)) rfl hx hb dL_law_317 ?_
      refine lv_aload_n hx hb dL_law_318 rfl (lv_at hl 5 rfl) ?_
      refine lv_iload hx hb dL_law_319 (lv_at hl 1 rfl) ?_
      refine lv_iconst (v := nI 3) hx hb dL_law_321 (by decide +kernel) ?_
      refine lv_iadd hx hb dL_law_322 ?_
      refine e_top (nI_add _ _) ?_
      refine e_sld hXs hbl hbA hS (w + 3) (by omega) (by omega) (v := xs (w + 3)) rfl hx hb dL_law_323 ?_
      refine e_callV (As := [.int (nI M), .int (xs (w + 2)), .int (xs (w + 3))]) (rest := []) ⟨hx, hb, hml, hown, hts⟩ hK hP hD hS hA hl.1 (c_X5_setMonth_b2 l E _ o2 ad2 th gr co sd tk wm st mo nx lb fr M (xs (w + 2)) (xs (w + 3)) (by first | omega | assumption | rfl | (simp_all; done)) (by first | omega | assumption | rfl | (simp_all; done))) (cwV 3 hts gL_law_X5_setMonth rfl rfl rfl (by decide +kernel) ⟨Nat.le_of_ble_eq_true rfl, Nat.le_of_ble_eq_true rfl⟩) [20, 21, 22, 23, 24, 25, 26, 27, 28, 29] [0, 1, 2, 3, 4, 5, 6, 7, 8, 9, 10, 11, 12, 13, 14, 15, 16, 17, 18, 19, 30] rfl rfl rfl rfl (by decide) (q0 := 20) (ci := 5) rfl rfl rfl rfl (Nat.le_of_ble_eq_true rfl) dL_law_324 ⟨by show 40 + 3 * z + 1 + 0 ≤ 601024; omega, by show 2500 + 168 * z + 6 + 0 ≤ 7293034; omega⟩ (fun u_9 H locs hu_10 hsz1 hP hD hS => ?_)
      have hP : va_P E.1 vwCl (wAll E o ad wm st gr co hb_ (nI mo) ga ca ha_ (nI ma) sd tk op sp rc rn wa ++ wMo E o2 ad2 (nI 2) gr co sd tk wm st (nI mo) nx lb fr ++ [(oq, .inl (E.2.2.2, 1, .inr (.inl lo)))]) H := hP.sub [0, 1, 2, 3, 4, 5, 6, 7, 8, 9, 10, 11, 12, 13, 14, 15, 16, 17, 18, 19, 21, 22, 23, 24, 25, 26, 27, 28, 29, 30, 20] rfl
      have hD : va_D (lA s) (wAll E o ad wm st gr co hb_ (nI mo) ga ca ha_ (nI ma) sd tk op sp rc rn wa ++ wMo E o2 ad2 (nI 2) gr co sd tk wm st (nI mo) nx lb fr ++ [(oq, .inl (E.2.2.2, 1, .inr (.inl lo)))]) := hD.sub [0, 1, 2, 3, 4, 5, 6, 7, 8, 9, 10, 11, 12, 13, 14, 15, 16, 17, 18, 19, 21, 22, 23, 24, 25, 26, 27, 28, 29, 30, 20] (by decide) rfl
      refine W.eq (g2 := F0 m 327 ls [.int (nI 0)]) rfl ?_
      refine lv_istore (lv' := [(6, .int (nI 0)), (5, .int (nI 2)), (4, .int (nI w)), (3, .ref oq), (2, .ref o2), (1, .ref o), (0, .ref b)]) hx hb dL_law_327 hl (by decide) rfl (fun ls hl => ?_)
      refine lv_aload_n hx hb dL_law_329 rfl (lv_at hl 4 rfl) ?_
      refine e_callV (As := []) (rest := []) ⟨hx, hb, hml, hown, hts⟩ hK hP hD hS hA hl.1 (c_X5_thrown l E _ o2 ad2 (nI 2) gr co sd tk wm st mo nx lb fr) (cwV 0 hts gL_law_X5_thrown rfl rfl rfl (by decide +kernel) ⟨Nat.le_of_ble_eq_true rfl, Nat.le_of_ble_eq_true rfl⟩) [20, 21, 22, 23, 24, 25, 26, 27, 28, 29] [0, 1, 2, 3, 4, 5, 6, 7, 8, 9, 10, 11, 12, 13, 14, 15, 16, 17, 18, 19, 30] rfl rfl rfl rfl (by decide) (q0 := 20) (ci := 5) rfl rfl rfl rfl (Nat.le_of_ble_eq_true rfl) dL_law_330 ⟨by show 40 + 3 * z + 1 + 0 + 0 ≤ 601024; omega, by show 2500 + 168 * z + 6 + 0 + 0 ≤ 7293034; omega⟩ (fun u_11 H locs hu_12 hsz1 hP hD hS => ?_)
      have hP : va_P E.1 vwCl (wAll E o ad wm st gr co hb_ (nI mo) ga ca ha_ (nI ma) sd tk op sp rc rn wa ++ wMo E o2 ad2 (nI 2) gr co sd tk wm st (nI mo) nx lb fr ++ [(oq, .inl (E.2.2.2, 1, .inr (.inl lo)))]) H := hP.sub [0, 1, 2, 3, 4, 5, 6, 7, 8, 9, 10, 11, 12, 13, 14, 15, 16, 17, 18, 19, 21, 22, 23, 24, 25, 26, 27, 28, 29, 30, 20] rfl
      have hD : va_D (lA s) (wAll E o ad wm st gr co hb_ (nI mo) ga ca ha_ (nI ma) sd tk op sp rc rn wa ++ wMo E o2 ad2 (nI 2) gr co sd tk wm st (nI mo) nx lb fr ++ [(oq, .inl (E.2.2.2, 1, .inr (.inl lo)))]) := hD.sub [0, 1, 2, 3, 4, 5, 6, 7, 8, 9, 10, 11, 12, 13, 14, 15, 16, 17, 18, 19, 21, 22, 23, 24, 25, 26, 27, 28, 29, 30, 20] (by decide) rfl
      refine W.eq (g2 := F0 m 333 ls [.int (nI 2)]) rfl ?_
      refine lv_iload hx hb dL_law_333 (lv_at hl 1 rfl) ?_
      refine n_icmp_eq (x := 2) (y := 2) (by omega) (by omega) (tgt := 340) hx hb dL_law_335 (by decide) (fun c335 => ?_) (fun c335 => absurd rfl c335)
      refine lv_iload hx hb dL_law_340 (lv_at hl 1 rfl) ?_
      refine n_if_ne (x := 2) (by omega) (tgt := 357) hx hb dL_law_342 (by decide) (fun c342 => ?_) (fun c342 => (by omega))
      refine lv_goto (tgt := 1129) hx hb dL_law_357 (by decide) ?_
      refine lv_iinc (v := nI (w + 4)) (lv' := [(4, .int (nI (w + 4))), (6, .int (nI 0)), (5, .int (nI 2)), (3, .ref oq), (2, .ref o2), (1, .ref o), (0, .ref b)]) hx hb dL_law_1129 hl (k := 2) rfl (nI_add w 4) (by decide) rfl (fun ls hl => ?_)
      refine lv_goto (tgt := 23) hx hb dL_law_1132 (by decide) ?_
      exact W.widen (by show 40 + 3 * z + 1 + 0 + 0 ≤ 40 + 3 * (z + 1); omega) (by show 2500 + 168 * z + 6 + 0 + 0 ≤ 2500 + 168 * (z + 1); omega) (kk (w + 4) wm st gr co hb_ mo ga ca ha_ ma sd tk op sp rc rn wa (nI 2) nx lb fr lo H locs ls (by omega) (by omega) hT hR hP hD hS (lv_sub hl [0, 3, 4, 5, 6] rfl))
    | true =>
      cases hu : isInB (xs (w + 3)) (nI 0) (nI 9) with
      | false =>
        refine lv_aload_n hx hb dL_law_280 rfl (lv_at hl 3 rfl) ?_
        refine lv_aload_n hx hb dL_law_281 rfl (lv_at hl 4 rfl) ?_
        refine lv_iload hx hb dL_law_282 (lv_at hl 0 rfl) ?_
        refine lv_iconst (v := nI 1) hx hb dL_law_284 (by decide +kernel) ?_
        refine lv_iadd hx hb dL_law_285 ?_
        refine e_top (nI_add _ _) ?_
        refine e_sld hXs hbl hbA hS (w + 1) (by omega) (by omega) (v := nI M) e1 hx hb dL_law_286 ?_
        refine lv_aload_n hx hb dL_law_287 rfl (lv_at hl 4 rfl) ?_
        refine lv_iload hx hb dL_law_288 (lv_at hl 0 rfl) ?_
        refine lv_iconst (v := nI 2) hx hb dL_law_290 (by decide +kernel) ?_
        refine lv_iadd hx hb dL_law_291 ?_
        refine e_top (nI_add _ _) ?_
        refine e_sld hXs hbl hbA hS (w + 2) (by omega) (by omega) (v := xs (w + 2)) rfl hx hb dL_law_292 ?_
        refine lv_aload_n hx hb dL_law_293 rfl (lv_at hl 4 rfl) ?_
        refine lv_iload hx hb dL_law_294 (lv_at hl 0 rfl) ?_
        refine lv_iconst (v := nI 3) hx hb dL_law_296 (by decide +kernel) ?_
        refine lv_iadd hx hb dL_law_297 ?_
        refine e_top (nI_add _ _) ?_
        refine e_sld hXs hbl hbA hS (w + 3) (by omega) (by omega) (v := xs (w + 3)) rfl hx hb dL_law_298 ?_
        refine lv_aload_n hx hb dL_law_299 rfl (lv_at hl 1 rfl) ?_
        refine e_callSH (As := [.ref o, .int (nI M), .int (xs (w + 2)), .int (xs (w + 3)), .ref oq]) (rest := []) ⟨hx, hb, hml, hown, hts⟩ hK hX hP hD hS hA hl.1 (c_L_setMonth_b3 l hlt E _ o ad wm st gr co hb_ mo ga ca ha_ ma sd tk op sp rc rn wa M (xs (w + 2)) (xs (w + 3)) oq lo (by first | omega | assumption | rfl | (simp_all; done)) (by first | omega | assumption | rfl | (simp_all; done)) (by first | omega | assumption | rfl | (simp_all; done))) (vx_cwSW 5 hts gL_law_L_setMonth rfl rfl rfl (by decide +kernel) ⟨Nat.le_of_ble_eq_true rfl, Nat.le_of_ble_eq_true rfl⟩) [0, 1, 2, 3, 4, 5, 6, 7, 8, 9, 10, 11, 12, 13, 14, 15, 16, 17, 18, 19, 30] [20, 21, 22, 23, 24, 25, 26, 27, 28, 29] rfl rfl rfl rfl (by decide) rfl rfl (Nat.le_of_ble_eq_true rfl) dL_law_300 ⟨by show 40 + 3 * z + 1 ≤ 601024; omega, by show 2500 + 168 * z + 6 ≤ 7293034; omega⟩ (fun u_13 H locs hu_14 hsz1 hP hD hS => ?_)
        have hP : va_P E.1 vwCl (wAll E o ad wm st gr co hb_ (nI mo) ga ca ha_ (nI ma) sd tk op sp rc rn wa ++ wMo E o2 ad2 th gr co sd tk wm st (nI mo) nx lb fr ++ [(oq, .inl (E.2.2.2, 1, .inr (.inl lo)))]) H := hP.sub [10, 11, 12, 13, 14, 15, 16, 17, 18, 19, 20, 21, 22, 23, 24, 25, 26, 27, 28, 29, 0, 1, 2, 3, 4, 5, 6, 7, 8, 9, 30] rfl
        have hD : va_D (lA s) (wAll E o ad wm st gr co hb_ (nI mo) ga ca ha_ (nI ma) sd tk op sp rc rn wa ++ wMo E o2 ad2 th gr co sd tk wm st (nI mo) nx lb fr ++ [(oq, .inl (E.2.2.2, 1, .inr (.inl lo)))]) := hD.sub [10, 11, 12, 13, 14, 15, 16, 17, 18, 19, 20, 21, 22, 23, 24, 25, 26, 27, 28, 29, 0, 1, 2, 3, 4, 5, 6, 7, 8, 9, 30] (by decide) rfl
        refine W.eq (g2 := F0 m 303 ls [.int (nI 2)]) rfl ?_
        refine lv_istore (lv' := [(5, .int (nI 2)), (4, .int (nI w)), (3, .ref oq), (2, .ref o2), (1, .ref o), (0, .ref b)]) hx hb dL_law_303 hl (by decide) rfl (fun ls hl => ?_)
        refine lv_aload_n hx hb dL_law_305 rfl (lv_at hl 3 rfl) ?_
        refine lv_aload_n hx hb dL_law_306 rfl (lv_at hl 5 rfl) ?_
        refine lv_iload hx hb dL_law_307 (lv_at hl 1 rfl) ?_
        refine lv_iconst (v := nI 1) hx hb dL_law_309 (by decide +kernel) ?_
        refine lv_iadd hx hb dL_law_310 ?_
        refine e_top (nI_add _ _) ?_
        refine e_sld hXs hbl hbA hS (w + 1) (by omega) (by omega) (v := nI M) e1 hx hb dL_law_311 ?_
        refine lv_aload_n hx hb dL_law_312 rfl (lv_at hl 5 rfl) ?_
        refine lv_iload hx hb dL_law_313 (lv_at hl 1 rfl) ?_
        refine lv_iconst (v := nI 2) hx hb dL_law_315 (by decide +kernel) ?_
        refine lv_iadd hx hb dL_law_316 ?_
        refine e_top (nI_add _ _) ?_
        refine e_sld hXs hbl hbA hS (w + 2) (by omega) (by omega) (v := xs (w + 2)) rfl hx hb dL_law_317 ?_
        refine lv_aload_n hx hb dL_law_318 rfl (lv_at hl 5 rfl) ?_
        refine lv_iload hx hb dL_law_319 (lv_at hl 1 rfl) ?_
        refine lv_iconst (v := nI 3) hx hb dL_law_321 (by decide +kernel) ?_
        refine lv_iadd hx hb dL_law_322 ?_
        refine e_top (nI_add _ _) ?_
        refine e_sld hXs hbl hbA hS (w + 3) (by omega) (by omega) (v := xs (w + 3)) rfl hx hb dL_law_323 ?_
        refine e_callV (As := [.int (nI M), .int (xs (w + 2)), .int (xs (w + 3))]) (rest := []) ⟨hx, hb, hml, hown, hts⟩ hK hP hD hS hA hl.1 (c_X5_setMonth_b3 l E _ o2 ad2 th gr co sd tk wm st mo nx lb fr M (xs (w + 2)) (xs (w + 3)) (by first | omega | assumption | rfl | (simp_all; done)) (by first | omega | assumption | rfl | (simp_all; done)) (by first | omega | assumption | rfl | (simp_all; done))) (cwV 3 hts gL_law_X5_setMonth rfl rfl rfl (by decide +kernel) ⟨Nat.le_of_ble_eq_true rfl, Nat.le_of_ble_eq_true rfl⟩) [20, 21, 22, 23, 24, 25, 26, 27, 28, 29] [0, 1, 2, 3, 4, 5, 6, 7, 8, 9, 10, 11, 12, 13, 14, 15, 16, 17, 18, 19, 30] rfl rfl rfl rfl (by decide) (q0 := 20) (ci := 5) rfl rfl rfl rfl (Nat.le_of_ble_eq_true rfl) dL_law_324 ⟨by show 40 + 3 * z + 1 + 0 ≤ 601024; omega, by show 2500 + 168 * z + 6 + 0 ≤ 7293034; omega⟩ (fun u_15 H locs hu_16 hsz1 hP hD hS => ?_)
        have hP : va_P E.1 vwCl (wAll E o ad wm st gr co hb_ (nI mo) ga ca ha_ (nI ma) sd tk op sp rc rn wa ++ wMo E o2 ad2 (nI 2) gr co sd tk wm st (nI mo) nx lb fr ++ [(oq, .inl (E.2.2.2, 1, .inr (.inl lo)))]) H := hP.sub [0, 1, 2, 3, 4, 5, 6, 7, 8, 9, 10, 11, 12, 13, 14, 15, 16, 17, 18, 19, 21, 22, 23, 24, 25, 26, 27, 28, 29, 30, 20] rfl
        have hD : va_D (lA s) (wAll E o ad wm st gr co hb_ (nI mo) ga ca ha_ (nI ma) sd tk op sp rc rn wa ++ wMo E o2 ad2 (nI 2) gr co sd tk wm st (nI mo) nx lb fr ++ [(oq, .inl (E.2.2.2, 1, .inr (.inl lo)))]) := hD.sub [0, 1, 2, 3, 4, 5, 6, 7, 8, 9, 10, 11, 12, 13, 14, 15, 16, 17, 18, 19, 21, 22, 23, 24, 25, 26, 27, 28, 29, 30, 20] (by decide) rfl
        refine W.eq (g2 := F0 m 327 ls [.int (nI 0)]) rfl ?_
        refine lv_istore (lv' := [(6, .int (nI 0)), (5, .int (nI 2)), (4, .int (nI w)), (3, .ref oq), (2, .ref o2), (1, .ref o), (0, .ref b)]) hx hb dL_law_327 hl (by decide) rfl (fun ls hl => ?_)
        refine lv_aload_n hx hb dL_law_329 rfl (lv_at hl 4 rfl) ?_
        refine e_callV (As := []) (rest := []) ⟨hx, hb, hml, hown, hts⟩ hK hP hD hS hA hl.1 (c_X5_thrown l E _ o2 ad2 (nI 2) gr co sd tk wm st mo nx lb fr) (cwV 0 hts gL_law_X5_thrown rfl rfl rfl (by decide +kernel) ⟨Nat.le_of_ble_eq_true rfl, Nat.le_of_ble_eq_true rfl⟩) [20, 21, 22, 23, 24, 25, 26, 27, 28, 29] [0, 1, 2, 3, 4, 5, 6, 7, 8, 9, 10, 11, 12, 13, 14, 15, 16, 17, 18, 19, 30] rfl rfl rfl rfl (by decide) (q0 := 20) (ci := 5) rfl rfl rfl rfl (Nat.le_of_ble_eq_true rfl) dL_law_330 ⟨by show 40 + 3 * z + 1 + 0 + 0 ≤ 601024; omega, by show 2500 + 168 * z + 6 + 0 + 0 ≤ 7293034; omega⟩ (fun u_17 H locs hu_18 hsz1 hP hD hS => ?_)
        have hP : va_P E.1 vwCl (wAll E o ad wm st gr co hb_ (nI mo) ga ca ha_ (nI ma) sd tk op sp rc rn wa ++ wMo E o2 ad2 (nI 2) gr co sd tk wm st (nI mo) nx lb fr ++ [(oq, .inl (E.2.2.2, 1, .inr (.inl lo)))]) H := hP.sub [0, 1, 2, 3, 4, 5, 6, 7, 8, 9, 10, 11, 12, 13, 14, 15, 16, 17, 18, 19, 21, 22, 23, 24, 25, 26, 27, 28, 29, 30, 20] rfl
        have hD : va_D (lA s) (wAll E o ad wm st gr co hb_ (nI mo) ga ca ha_ (nI ma) sd tk op sp rc rn wa ++ wMo E o2 ad2 (nI 2) gr co sd tk wm st (nI mo) nx lb fr ++ [(oq, .inl (E.2.2.2, 1, .inr (.inl lo)))]) := hD.sub [0, 1, 2, 3, 4, 5, 6, 7, 8, 9, 10, 11, 12, 13, 14, 15, 16, 17, 18, 19, 21, 22, 23, 24, 25, 26, 27, 28, 29, 30, 20] (by decide) rfl
        refine W.eq (g2 := F0 m 333 ls [.int (nI 2)]) rfl ?_
        refine lv_iload hx hb dL_law_333 (lv_at hl 1 rfl) ?_
        refine n_icmp_eq (x := 2) (y := 2) (by omega) (by omega) (tgt := 340) hx hb dL_law_335 (by decide) (fun c335 => ?_) (fun c335 => absurd rfl c335)
        refine lv_iload hx hb dL_law_340 (lv_at hl 1 rfl) ?_
        refine n_if_ne (x := 2) (by omega) (tgt := 357) hx hb dL_law_342 (by decide) (fun c342 => ?_) (fun c342 => (by omega))
        refine lv_goto (tgt := 1129) hx hb dL_law_357 (by decide) ?_
        refine lv_iinc (v := nI (w + 4)) (lv' := [(4, .int (nI (w + 4))), (6, .int (nI 0)), (5, .int (nI 2)), (3, .ref oq), (2, .ref o2), (1, .ref o), (0, .ref b)]) hx hb dL_law_1129 hl (k := 2) rfl (nI_add w 4) (by decide) rfl (fun ls hl => ?_)
        refine lv_goto (tgt := 23) hx hb dL_law_1132 (by decide) ?_
        exact W.widen (by show 40 + 3 * z + 1 + 0 + 0 ≤ 40 + 3 * (z + 1); omega) (by show 2500 + 168 * z + 6 + 0 + 0 ≤ 2500 + 168 * (z + 1); omega) (kk (w + 4) wm st gr co hb_ mo ga ca ha_ ma sd tk op sp rc rn wa (nI 2) nx lb fr lo H locs ls (by omega) (by omega) hT hR hP hD hS (lv_sub hl [0, 3, 4, 5, 6] rfl))
      | true =>
        refine lv_aload_n hx hb dL_law_280 rfl (lv_at hl 3 rfl) ?_
        refine lv_aload_n hx hb dL_law_281 rfl (lv_at hl 4 rfl) ?_
        refine lv_iload hx hb dL_law_282 (lv_at hl 0 rfl) ?_
        refine lv_iconst (v := nI 1) hx hb dL_law_284 (by decide +kernel) ?_
        refine lv_iadd hx hb dL_law_285 ?_
        refine e_top (nI_add _ _) ?_
        refine e_sld hXs hbl hbA hS (w + 1) (by omega) (by omega) (v := nI M) e1 hx hb dL_law_286 ?_
        refine lv_aload_n hx hb dL_law_287 rfl (lv_at hl 4 rfl) ?_
        refine lv_iload hx hb dL_law_288 (lv_at hl 0 rfl) ?_
        refine lv_iconst (v := nI 2) hx hb dL_law_290 (by decide +kernel) ?_
        refine lv_iadd hx hb dL_law_291 ?_
        refine e_top (nI_add _ _) ?_
        refine e_sld hXs hbl hbA hS (w + 2) (by omega) (by omega) (v := xs (w + 2)) rfl hx hb dL_law_292 ?_
        refine lv_aload_n hx hb dL_law_293 rfl (lv_at hl 4 rfl) ?_
        refine lv_iload hx hb dL_law_294 (lv_at hl 0 rfl) ?_
        refine lv_iconst (v := nI 3) hx hb dL_law_296 (by decide +kernel) ?_
        refine lv_iadd hx hb dL_law_297 ?_
        refine e_top (nI_add _ _) ?_
        refine e_sld hXs hbl hbA hS (w + 3) (by omega) (by omega) (v := xs (w + 3)) rfl hx hb dL_law_298 ?_
        refine lv_aload_n hx hb dL_law_299 rfl (lv_at hl 1 rfl) ?_
        refine e_callSH (As := [.ref o, .int (nI M), .int (xs (w + 2)), .int (xs (w + 3)), .ref oq]) (rest := []) ⟨hx, hb, hml, hown, hts⟩ hK hX hP hD hS hA hl.1 (c_L_setMonth l hlt E _ o ad wm st gr co hb_ mo ga ca ha_ ma sd tk op sp rc rn wa M (xs (w + 2)) (xs (w + 3)) oq lo (by first | omega | assumption | rfl | (simp_all; done)) (by first | omega | assumption | rfl | (simp_all; done)) (by first | omega | assumption | rfl | (simp_all; done))) (vx_cwSW 5 hts gL_law_L_setMonth rfl rfl rfl (by decide +kernel) ⟨Nat.le_of_ble_eq_true rfl, Nat.le_of_ble_eq_true rfl⟩) [0, 1, 2, 3, 4, 5, 6, 7, 8, 9, 10, 11, 12, 13, 14, 15, 16, 17, 18, 19, 30] [20, 21, 22, 23, 24, 25, 26, 27, 28, 29] rfl rfl rfl rfl (by decide) rfl rfl (Nat.le_of_ble_eq_true rfl) dL_law_300 ⟨by show 40 + 3 * z + 0 ≤ 601024; omega, by show 2500 + 168 * z + 0 ≤ 7293034; omega⟩ (fun u_19 H locs hu_20 hsz1 hP hD hS => ?_)
        have hP : va_P E.1 vwCl (wAll E o ad (upd wm M (xs (w + 2))) (upd st M (xs (w + 3))) gr co hb_ (nI mo) ga ca ha_ (nI ma) sd tk op sp rc rn wa ++ wMo E o2 ad2 th gr co sd tk wm st (nI mo) nx lb fr ++ [(oq, .inl (E.2.2.2, 1, .inr (.inl (vp_updL lo 0 ((nI 10 * wm M + st M).toInt64)))))]) H := hP.sub [10, 11, 12, 13, 14, 15, 16, 17, 18, 19, 20, 21, 22, 23, 24, 25, 26, 27, 28, 29, 0, 1, 2, 3, 4, 5, 6, 7, 8, 9, 30] rfl
        have hD : va_D (lA s) (wAll E o ad (upd wm M (xs (w + 2))) (upd st M (xs (w + 3))) gr co hb_ (nI mo) ga ca ha_ (nI ma) sd tk op sp rc rn wa ++ wMo E o2 ad2 th gr co sd tk wm st (nI mo) nx lb fr ++ [(oq, .inl (E.2.2.2, 1, .inr (.inl (vp_updL lo 0 ((nI 10 * wm M + st M).toInt64)))))]) := hD.sub [10, 11, 12, 13, 14, 15, 16, 17, 18, 19, 20, 21, 22, 23, 24, 25, 26, 27, 28, 29, 0, 1, 2, 3, 4, 5, 6, 7, 8, 9, 30] (by decide) rfl
        refine W.eq (g2 := F0 m 303 ls [.int (nI 0)]) rfl ?_
        refine lv_istore (lv' := [(5, .int (nI 0)), (4, .int (nI w)), (3, .ref oq), (2, .ref o2), (1, .ref o), (0, .ref b)]) hx hb dL_law_303 hl (by decide) rfl (fun ls hl => ?_)
        refine lv_aload_n hx hb dL_law_305 rfl (lv_at hl 3 rfl) ?_
        refine lv_aload_n hx hb dL_law_306 rfl (lv_at hl 5 rfl) ?_
        refine lv_iload hx hb dL_law_307 (lv_at hl 1 rfl) ?_
        refine lv_iconst (v := nI 1) hx hb dL_law_309 (by decide +kernel) ?_
        refine lv_iadd hx hb dL_law_310 ?_
        refine e_top (nI_add _ _) ?_
        refine e_sld hXs hbl hbA hS (w + 1) (by omega) (by omega) (v := nI M) e1 hx hb dL_law_311 ?_
        refine lv_aload_n hx hb dL_law_312 rfl (lv_at hl 5 rfl) ?_
        refine lv_iload hx hb dL_law_313 (lv_at hl 1 rfl) ?_
        refine lv_iconst (v := nI 2) hx hb dL_law_315 (by decide +kernel) ?_
        refine lv_iadd hx hb dL_law_316 ?_
        refine e_top (nI_add _ _) ?_
        refine e_sld hXs hbl hbA hS (w + 2) (by omega) (by omega) (v := xs (w + 2)) rfl hx hb dL_law_317 ?_
        refine lv_aload_n hx hb dL_law_318 rfl (lv_at hl 5 rfl) ?_
        refine lv_iload hx hb dL_law_319 (lv_at hl 1 rfl) ?_
        refine lv_iconst (v := nI 3) hx hb dL_law_321 (by decide +kernel) ?_
        refine lv_iadd hx hb dL_law_322 ?_
        refine e_top (nI_add _ _) ?_
        refine e_sld hXs hbl hbA hS (w + 3) (by omega) (by omega) (v := xs (w + 3)) rfl hx hb dL_law_323 ?_
        refine e_callV (As := [.int (nI M), .int (xs (w + 2)), .int (xs (w + 3))]) (rest := []) ⟨hx, hb, hml, hown, hts⟩ hK hP hD hS hA hl.1 (c_X5_setMonth l E _ o2 ad2 th gr co sd tk wm st mo nx lb fr M (xs (w + 2)) (xs (w + 3)) (by first | omega | assumption | rfl | (simp_all; done)) (by first | omega | assumption | rfl | (simp_all; done)) (by first | omega | assumption | rfl | (simp_all; done))) (cwV 3 hts gL_law_X5_setMonth rfl rfl rfl (by decide +kernel) ⟨Nat.le_of_ble_eq_true rfl, Nat.le_of_ble_eq_true rfl⟩) [20, 21, 22, 23, 24, 25, 26, 27, 28, 29] [0, 1, 2, 3, 4, 5, 6, 7, 8, 9, 10, 11, 12, 13, 14, 15, 16, 17, 18, 19, 30] rfl rfl rfl rfl (by decide) (q0 := 20) (ci := 5) rfl rfl rfl rfl (Nat.le_of_ble_eq_true rfl) dL_law_324 ⟨by show 40 + 3 * z + 0 + 0 ≤ 601024; omega, by show 2500 + 168 * z + 0 + 0 ≤ 7293034; omega⟩ (fun u_21 H locs hu_22 hsz1 hP hD hS => ?_)
        have hP : va_P E.1 vwCl (wAll E o ad (upd wm M (xs (w + 2))) (upd st M (xs (w + 3))) gr co hb_ (nI mo) ga ca ha_ (nI ma) sd tk op sp rc rn wa ++ wMo E o2 ad2 (nI 0) gr co sd tk (upd wm M (xs (w + 2))) (upd st M (xs (w + 3))) (nI mo) nx lb fr ++ [(oq, .inl (E.2.2.2, 1, .inr (.inl (vp_updL lo 0 ((nI 10 * wm M + st M).toInt64)))))]) H := hP.sub [0, 1, 2, 3, 4, 5, 6, 7, 8, 9, 10, 11, 12, 13, 14, 15, 16, 17, 18, 19, 21, 22, 23, 24, 25, 26, 27, 28, 29, 30, 20] rfl
        have hD : va_D (lA s) (wAll E o ad (upd wm M (xs (w + 2))) (upd st M (xs (w + 3))) gr co hb_ (nI mo) ga ca ha_ (nI ma) sd tk op sp rc rn wa ++ wMo E o2 ad2 (nI 0) gr co sd tk (upd wm M (xs (w + 2))) (upd st M (xs (w + 3))) (nI mo) nx lb fr ++ [(oq, .inl (E.2.2.2, 1, .inr (.inl (vp_updL lo 0 ((nI 10 * wm M + st M).toInt64)))))]) := hD.sub [0, 1, 2, 3, 4, 5, 6, 7, 8, 9, 10, 11, 12, 13, 14, 15, 16, 17, 18, 19, 21, 22, 23, 24, 25, 26, 27, 28, 29, 30, 20] (by decide) rfl
        refine W.eq (g2 := F0 m 327 ls [.int (nI 10 * wm M + st M)]) rfl ?_
        refine lv_istore (lv' := [(6, .int (nI 10 * wm M + st M)), (5, .int (nI 0)), (4, .int (nI w)), (3, .ref oq), (2, .ref o2), (1, .ref o), (0, .ref b)]) hx hb dL_law_327 hl (by decide) rfl (fun ls hl => ?_)
        refine lv_aload_n hx hb dL_law_329 rfl (lv_at hl 4 rfl) ?_
        refine e_callV (As := []) (rest := []) ⟨hx, hb, hml, hown, hts⟩ hK hP hD hS hA hl.1 (c_X5_thrown l E _ o2 ad2 (nI 0) gr co sd tk (upd wm M (xs (w + 2))) (upd st M (xs (w + 3))) mo nx lb fr) (cwV 0 hts gL_law_X5_thrown rfl rfl rfl (by decide +kernel) ⟨Nat.le_of_ble_eq_true rfl, Nat.le_of_ble_eq_true rfl⟩) [20, 21, 22, 23, 24, 25, 26, 27, 28, 29] [0, 1, 2, 3, 4, 5, 6, 7, 8, 9, 10, 11, 12, 13, 14, 15, 16, 17, 18, 19, 30] rfl rfl rfl rfl (by decide) (q0 := 20) (ci := 5) rfl rfl rfl rfl (Nat.le_of_ble_eq_true rfl) dL_law_330 ⟨by show 40 + 3 * z + 0 + 0 + 0 ≤ 601024; omega, by show 2500 + 168 * z + 0 + 0 + 0 ≤ 7293034; omega⟩ (fun u_23 H locs hu_24 hsz1 hP hD hS => ?_)
        have hP : va_P E.1 vwCl (wAll E o ad (upd wm M (xs (w + 2))) (upd st M (xs (w + 3))) gr co hb_ (nI mo) ga ca ha_ (nI ma) sd tk op sp rc rn wa ++ wMo E o2 ad2 (nI 0) gr co sd tk (upd wm M (xs (w + 2))) (upd st M (xs (w + 3))) (nI mo) nx lb fr ++ [(oq, .inl (E.2.2.2, 1, .inr (.inl (vp_updL lo 0 ((nI 10 * wm M + st M).toInt64)))))]) H := hP.sub [0, 1, 2, 3, 4, 5, 6, 7, 8, 9, 10, 11, 12, 13, 14, 15, 16, 17, 18, 19, 21, 22, 23, 24, 25, 26, 27, 28, 29, 30, 20] rfl
        have hD : va_D (lA s) (wAll E o ad (upd wm M (xs (w + 2))) (upd st M (xs (w + 3))) gr co hb_ (nI mo) ga ca ha_ (nI ma) sd tk op sp rc rn wa ++ wMo E o2 ad2 (nI 0) gr co sd tk (upd wm M (xs (w + 2))) (upd st M (xs (w + 3))) (nI mo) nx lb fr ++ [(oq, .inl (E.2.2.2, 1, .inr (.inl (vp_updL lo 0 ((nI 10 * wm M + st M).toInt64)))))]) := hD.sub [0, 1, 2, 3, 4, 5, 6, 7, 8, 9, 10, 11, 12, 13, 14, 15, 16, 17, 18, 19, 21, 22, 23, 24, 25, 26, 27, 28, 29, 30, 20] (by decide) rfl
        refine W.eq (g2 := F0 m 333 ls [.int (nI 0)]) rfl ?_
        refine lv_iload hx hb dL_law_333 (lv_at hl 1 rfl) ?_
        refine n_icmp_eq (x := 0) (y := 0) (by omega) (by omega) (tgt := 340) hx hb dL_law_335 (by decide) (fun c335 => ?_) (fun c335 => absurd rfl c335)
        refine lv_iload hx hb dL_law_340 (lv_at hl 1 rfl) ?_
        refine n_if_ne (x := 0) (by omega) (tgt := 357) hx hb dL_law_342 (by decide) (fun c342 => (by omega)) (fun c342 => ?_)
        refine lv_aload_n hx hb dL_law_345 rfl (lv_at hl 3 rfl) ?_
        refine lv_iconst (v := nI 0) hx hb dL_law_346 (by decide +kernel) ?_
        refine e_lald hK hP 30 rfl 0 (by omega) (by decide) hx hb dL_law_347 ?_
        refine lv_iload hx hb dL_law_348 (lv_at hl 0 rfl) ?_
        refine lv_i2l hx hb dL_law_350 rfl ?_
        refine W.lcmp hx hb dL_law_351 ?_
        refine e_top (y := nI 0) (show lg_cmp ((vp_updL lo 0 ((nI 10 * wm M + st M).toInt64)) 0) ((nI 10 * wm M + st M).toInt64) = nI 0 from (lg_cmp_eq _ _).mpr rfl) ?_
        refine n_if_eq (x := 0) (by omega) (tgt := 357) hx hb dL_law_352 (by decide) (fun c352 => ?_) (fun c352 => (by omega))
        refine lv_goto (tgt := 1129) hx hb dL_law_357 (by decide) ?_
        refine lv_iinc (v := nI (w + 4)) (lv' := [(4, .int (nI (w + 4))), (6, .int (nI 10 * wm M + st M)), (5, .int (nI 0)), (3, .ref oq), (2, .ref o2), (1, .ref o), (0, .ref b)]) hx hb dL_law_1129 hl (k := 2) rfl (nI_add w 4) (by decide) rfl (fun ls hl => ?_)
        refine lv_goto (tgt := 23) hx hb dL_law_1132 (by decide) ?_
        exact W.widen (by show 40 + 3 * z + 0 + 0 + 0 ≤ 40 + 3 * (z + 1); omega) (by show 2500 + 168 * z + 0 + 0 + 0 ≤ 2500 + 168 * (z + 1); omega) (kk (w + 4) (upd wm M (xs (w + 2))) (upd st M (xs (w + 3))) gr co hb_ mo ga ca ha_ ma sd tk op sp rc rn wa (nI 0) nx lb fr (vp_updL lo 0 ((nI 10 * wm M + st M).toInt64)) H locs ls (by omega) (by omega) (Tb_month hT hv hu) hR hP hD hS (lv_sub hl [0, 3, 4, 5, 6] rfl))

set_option maxHeartbeats 16000000 in
set_option maxRecDepth 100000 in
theorem k_case3 {p : Program} {e : Env} {s : State} {m : MethodId} {below : List Frame} {meth : Method} {cd : Code} (l : Launch) (hlt : l.stackTraces = false) {b L : Nat} {xs : Nat → Int32} {E : eT} (C : lC p s m cd b L xs E) {Q : State → Prop} {o : Nat} {ad : Nat → Nat} {o2 : Nat} {ad2 : Nat → Nat} {oq : Nat} (z w : Nat) (kk : lHead p l e s m below meth cd b E Q o ad o2 ad2 oq (z + 1)) (hi : w + 4 ≤ L) (wm : Nat → Int32) (st : Nat → Int32) (gr : Nat → Int32) (co : Nat → Int32) (hb_ : Nat → Bool) (mo : Nat) (ga : Nat → Int32) (ca : Nat → Int32) (ha_ : Nat → Bool) (ma : Nat) (sd : Nat → Int32) (tk : Nat → Int32) (op : Nat → Bool) (sp : Nat → Nat) (rc : Nat → Nat) (rn : Nat) (wa : Nat → Int32) (th : Int32) (nx : Nat → Int32) (lb : Nat → Option Nat) (fr : Nat → Nat) (lo : Nat → Int64) (H : Heap) (locs : List Loc) (ls : Array Slot) (hw : w = 4 * z) (hmo : mo ≤ 120 * z) (hT : Tb wm st) (hR : Rg gr co) (hP : va_P E.1 vwCl (wAll E o ad wm st gr co hb_ (nI mo) ga ca ha_ (nI ma) sd tk op sp rc rn wa ++ wMo E o2 ad2 th gr co sd tk wm st (nI mo) nx lb fr ++ [(oq, .inl (E.2.2.2, 1, .inr (.inl lo)))]) H) (hD : va_D (lA s) (wAll E o ad wm st gr co hb_ (nI mo) ga ca ha_ (nI ma) sd tk op sp rc rn wa ++ wMo E o2 ad2 th gr co sd tk wm st (nI mo) nx lb fr ++ [(oq, .inl (E.2.2.2, 1, .inr (.inl lo)))])) (hS : va_S (lA s) s.heap H locs) (hl : lv_has ls 9 [(4, .int (nI w)), (3, .ref oq), (2, .ref o2), (1, .ref o), (0, .ref b)]) : W p l e room_1 s m #[Value.ref b] below meth cd H locs (40 + 3 * z) (2500 + 168 * z) Q (F0 m 360 ls []) := by
  obtain ⟨hx, hb, hml, hown, hts, hK, hX, hXs, hbl, hL⟩ := C
  have hA : ∀ q : Nat, s.heap.size ≤ q → lA s q := fun _ h => h
  have hbA : ¬ lA s b := Nat.not_le.mpr hbl
  have hz : z ≤ 512 := by omega
  cases hc : isCellB (xs (w + 1)) (xs (w + 2)) with
  | false =>
    refine lv_aload_n hx hb dL_law_360 rfl (lv_at hl 3 rfl) ?_
    refine lv_aload_n hx hb dL_law_361 rfl (lv_at hl 4 rfl) ?_
    refine lv_iload hx hb dL_law_362 (lv_at hl 0 rfl) ?_
    refine lv_iconst (v := nI 1) hx hb dL_law_364 (by decide +kernel) ?_
    refine lv_iadd hx hb dL_law_365 ?_
    refine e_top (nI_add _ _) ?_
    refine e_sld hXs hbl hbA hS (w + 1) (by omega) (by omega) (v := xs (w + 1)) rfl hx hb dL_law_366 ?_
    refine lv_aload_n hx hb dL_law_367 rfl (lv_at hl 4 rfl) ?_
    refine lv_iload hx hb dL_law_368 (lv_at hl 0 rfl) ?_
    refine lv_iconst (v := nI 2) hx hb dL_law_370 (by decide +kernel) ?_
    refine lv_iadd hx hb dL_law_371 ?_
    refine e_top (nI_add _ _) ?_
    refine e_sld hXs hbl hbA hS (w + 2) (by omega) (by omega) (v := xs (w + 2)) rfl hx hb dL_law_372 ?_
    refine lv_aload_n hx hb dL_law_373 rfl (lv_at hl 4 rfl) ?_
    refine lv_iload hx hb dL_law_374 (lv_at hl 0 rfl) ?_
    refine lv_iconst (v := nI 3) hx hb dL_law_376 (by decide +kernel) ?_
    refine lv_iadd hx hb dL_law_377 ?_
    refine e_top (nI_add _ _) ?_
    refine e_sld hXs hbl hbA hS (w + 3) (by omega) (by omega) (v := xs (w + 3)) rfl hx hb dL_law_378 ?_
    refine lv_aload_n hx hb dL_law_379 rfl (lv_at hl 1 rfl) ?_
    refine e_callSH (As := [.ref o, .int (xs (w + 1)), .int (xs (w + 2)), .int (xs (w + 3)), .ref oq]) (rest := []) ⟨hx, hb, hml, hown, hts⟩ hK hX hP hD hS hA hl.1 (c_L_cell_b1 l hlt E _ o ad wm st gr co hb_ mo ga ca ha_ ma sd tk op sp rc rn wa (xs (w + 1)) (xs (w + 2)) (xs (w + 3)) oq lo (by first | omega | assumption | rfl | (simp_all; done))) (vx_cwSW 5 hts gL_law_L_cell rfl rfl rfl (by decide +kernel) ⟨Nat.le_of_ble_eq_true rfl, Nat.le_of_ble_eq_true rfl⟩) [0, 1, 2, 3, 4, 5, 6, 7, 8, 9, 10, 11, 12, 13, 14, 15, 16, 17, 18, 19, 30] [20, 21, 22, 23, 24, 25, 26, 27, 28, 29] rfl rfl rfl rfl (by decide) rfl rfl (Nat.le_of_ble_eq_true rfl) dL_law_380 ⟨by show 40 + 3 * z + 1 ≤ 601024; omega, by show 2500 + 168 * z + 6 ≤ 7293034; omega⟩ (fun u_1 H locs hu_2 hsz1 hP hD hS => ?_)
    have hP : va_P E.1 vwCl (wAll E o ad wm st gr co hb_ (nI mo) ga ca ha_ (nI ma) sd tk op sp rc rn wa ++ wMo E o2 ad2 th gr co sd tk wm st (nI mo) nx lb fr ++ [(oq, .inl (E.2.2.2, 1, .inr (.inl lo)))]) H := hP.sub [10, 11, 12, 13, 14, 15, 16, 17, 18, 19, 20, 21, 22, 23, 24, 25, 26, 27, 28, 29, 0, 1, 2, 3, 4, 5, 6, 7, 8, 9, 30] rfl
    have hD : va_D (lA s) (wAll E o ad wm st gr co hb_ (nI mo) ga ca ha_ (nI ma) sd tk op sp rc rn wa ++ wMo E o2 ad2 th gr co sd tk wm st (nI mo) nx lb fr ++ [(oq, .inl (E.2.2.2, 1, .inr (.inl lo)))]) := hD.sub [10, 11, 12, 13, 14, 15, 16, 17, 18, 19, 20, 21, 22, 23, 24, 25, 26, 27, 28, 29, 0, 1, 2, 3, 4, 5, 6, 7, 8, 9, 30] (by decide) rfl
    refine W.eq (g2 := F0 m 383 ls [.int (nI 1)]) rfl ?_
    refine lv_istore (lv' := [(5, .int (nI 1)), (4, .int (nI w)), (3, .ref oq), (2, .ref o2), (1, .ref o), (0, .ref b)]) hx hb dL_law_383 hl (by decide) rfl (fun ls hl => ?_)
    refine lv_aload_n hx hb dL_law_385 rfl (lv_at hl 3 rfl) ?_
    refine lv_aload_n hx hb dL_law_386 rfl (lv_at hl 5 rfl) ?_
    refine lv_iload hx hb dL_law_387 (lv_at hl 1 rfl) ?_
    refine lv_iconst (v := nI 1) hx hb dL_law_389 (by decide +kernel) ?_
    refine lv_iadd hx hb dL_law_390 ?_
    refine e_top (nI_add _ _) ?_
    refine e_sld hXs hbl hbA hS (w + 1) (by omega) (by omega) (v := xs (w + 1)) rfl hx hb dL_law_391 ?_
    refine lv_aload_n hx hb dL_law_392 rfl (lv_at hl 5 rfl) ?_
    refine lv_iload hx hb dL_law_393 (lv_at hl 1 rfl) ?_
    refine lv_iconst (v := nI 2) hx hb dL_law_395 (by decide +kernel) ?_
    refine lv_iadd hx hb dL_law_396 ?_
    refine e_top (nI_add _ _) ?_
    refine e_sld hXs hbl hbA hS (w + 2) (by omega) (by omega) (v := xs (w + 2)) rfl hx hb dL_law_397 ?_
    refine lv_aload_n hx hb dL_law_398 rfl (lv_at hl 5 rfl) ?_
    refine lv_iload hx hb dL_law_399 (lv_at hl 1 rfl) ?_
    refine lv_iconst (v := nI 3) hx hb dL_law_401 (by decide +kernel) ?_
    refine lv_iadd hx hb dL_law_402 ?_
    refine e_top (nI_add _ _) ?_
    refine e_sld hXs hbl hbA hS (w + 3) (by omega) (by omega) (v := xs (w + 3)) rfl hx hb dL_law_403 ?_
    refine e_callV (As := [.int (xs (w + 1)), .int (xs (w + 2)), .int (xs (w + 3))]) (rest := []) ⟨hx, hb, hml, hown, hts⟩ hK hP hD hS hA hl.1 (c_X5_cell_b1 l E _ o2 ad2 th gr co sd tk wm st mo nx lb fr (xs (w + 1)) (xs (w + 2)) (xs (w + 3)) (by first | omega | assumption | rfl | (simp_all; done))) (cwV 3 hts gL_law_X5_cell rfl rfl rfl (by decide +kernel) ⟨Nat.le_of_ble_eq_true rfl, Nat.le_of_ble_eq_true rfl⟩) [20, 21, 22, 23, 24, 25, 26, 27, 28, 29] [0, 1, 2, 3, 4, 5, 6, 7, 8, 9, 10, 11, 12, 13, 14, 15, 16, 17, 18, 19, 30] rfl rfl rfl rfl (by decide) (q0 := 20) (ci := 5) rfl rfl rfl rfl (Nat.le_of_ble_eq_true rfl) dL_law_404 ⟨by show 40 + 3 * z + 1 + 0 ≤ 601024; omega, by show 2500 + 168 * z + 6 + 0 ≤ 7293034; omega⟩ (fun u_3 H locs hu_4 hsz1 hP hD hS => ?_)
    have hP : va_P E.1 vwCl (wAll E o ad wm st gr co hb_ (nI mo) ga ca ha_ (nI ma) sd tk op sp rc rn wa ++ wMo E o2 ad2 (nI 1) gr co sd tk wm st (nI mo) nx lb fr ++ [(oq, .inl (E.2.2.2, 1, .inr (.inl lo)))]) H := hP.sub [0, 1, 2, 3, 4, 5, 6, 7, 8, 9, 10, 11, 12, 13, 14, 15, 16, 17, 18, 19, 21, 22, 23, 24, 25, 26, 27, 28, 29, 30, 20] rfl
    have hD : va_D (lA s) (wAll E o ad wm st gr co hb_ (nI mo) ga ca ha_ (nI ma) sd tk op sp rc rn wa ++ wMo E o2 ad2 (nI 1) gr co sd tk wm st (nI mo) nx lb fr ++ [(oq, .inl (E.2.2.2, 1, .inr (.inl lo)))]) := hD.sub [0, 1, 2, 3, 4, 5, 6, 7, 8, 9, 10, 11, 12, 13, 14, 15, 16, 17, 18, 19, 21, 22, 23, 24, 25, 26, 27, 28, 29, 30, 20] (by decide) rfl
    refine W.eq (g2 := F0 m 407 ls [.int (nI 0)]) rfl ?_
    refine lv_istore (lv' := [(6, .int (nI 0)), (5, .int (nI 1)), (4, .int (nI w)), (3, .ref oq), (2, .ref o2), (1, .ref o), (0, .ref b)]) hx hb dL_law_407 hl (by decide) rfl (fun ls hl => ?_)
    refine lv_aload_n hx hb dL_law_409 rfl (lv_at hl 4 rfl) ?_
    refine e_callV (As := []) (rest := []) ⟨hx, hb, hml, hown, hts⟩ hK hP hD hS hA hl.1 (c_X5_thrown l E _ o2 ad2 (nI 1) gr co sd tk wm st mo nx lb fr) (cwV 0 hts gL_law_X5_thrown rfl rfl rfl (by decide +kernel) ⟨Nat.le_of_ble_eq_true rfl, Nat.le_of_ble_eq_true rfl⟩) [20, 21, 22, 23, 24, 25, 26, 27, 28, 29] [0, 1, 2, 3, 4, 5, 6, 7, 8, 9, 10, 11, 12, 13, 14, 15, 16, 17, 18, 19, 30] rfl rfl rfl rfl (by decide) (q0 := 20) (ci := 5) rfl rfl rfl rfl (Nat.le_of_ble_eq_true rfl) dL_law_410 ⟨by show 40 + 3 * z + 1 + 0 + 0 ≤ 601024; omega, by show 2500 + 168 * z + 6 + 0 + 0 ≤ 7293034; omega⟩ (fun u_5 H locs hu_6 hsz1 hP hD hS => ?_)
    have hP : va_P E.1 vwCl (wAll E o ad wm st gr co hb_ (nI mo) ga ca ha_ (nI ma) sd tk op sp rc rn wa ++ wMo E o2 ad2 (nI 1) gr co sd tk wm st (nI mo) nx lb fr ++ [(oq, .inl (E.2.2.2, 1, .inr (.inl lo)))]) H := hP.sub [0, 1, 2, 3, 4, 5, 6, 7, 8, 9, 10, 11, 12, 13, 14, 15, 16, 17, 18, 19, 21, 22, 23, 24, 25, 26, 27, 28, 29, 30, 20] rfl
    have hD : va_D (lA s) (wAll E o ad wm st gr co hb_ (nI mo) ga ca ha_ (nI ma) sd tk op sp rc rn wa ++ wMo E o2 ad2 (nI 1) gr co sd tk wm st (nI mo) nx lb fr ++ [(oq, .inl (E.2.2.2, 1, .inr (.inl lo)))]) := hD.sub [0, 1, 2, 3, 4, 5, 6, 7, 8, 9, 10, 11, 12, 13, 14, 15, 16, 17, 18, 19, 21, 22, 23, 24, 25, 26, 27, 28, 29, 30, 20] (by decide) rfl
    refine W.eq (g2 := F0 m 413 ls [.int (nI 1)]) rfl ?_
    refine lv_iload hx hb dL_law_413 (lv_at hl 1 rfl) ?_
    refine n_icmp_eq (x := 1) (y := 1) (by omega) (by omega) (tgt := 420) hx hb dL_law_415 (by decide) (fun c415 => ?_) (fun c415 => absurd rfl c415)
    refine lv_iload hx hb dL_law_420 (lv_at hl 1 rfl) ?_
    refine n_if_ne (x := 1) (by omega) (tgt := 437) hx hb dL_law_422 (by decide) (fun c422 => ?_) (fun c422 => (by omega))
    refine lv_goto (tgt := 1129) hx hb dL_law_437 (by decide) ?_
    refine lv_iinc (v := nI (w + 4)) (lv' := [(4, .int (nI (w + 4))), (6, .int (nI 0)), (5, .int (nI 1)), (3, .ref oq), (2, .ref o2), (1, .ref o), (0, .ref b)]) hx hb dL_law_1129 hl (k := 2) rfl (nI_add w 4) (by decide) rfl (fun ls hl => ?_)
    refine lv_goto (tgt := 23) hx hb dL_law_1132 (by decide) ?_
    exact W.widen (by show 40 + 3 * z + 1 + 0 + 0 ≤ 40 + 3 * (z + 1); omega) (by show 2500 + 168 * z + 6 + 0 + 0 ≤ 2500 + 168 * (z + 1); omega) (kk (w + 4) wm st gr co hb_ mo ga ca ha_ ma sd tk op sp rc rn wa (nI 1) nx lb fr lo H locs ls (by omega) (by omega) hT hR hP hD hS (lv_sub hl [0, 3, 4, 5, 6] rfl))
  | true =>
    obtain ⟨X, Y, hX9, hY9, e1, e2⟩ := isCellB_nat hc
    cases hv : isInB (xs (w + 3)) (nI 0) (nI 4) with
    | false =>
      refine lv_aload_n hx hb dL_law_360 rfl (lv_at hl 3 rfl) ?_
      refine lv_aload_n hx hb dL_law_361 rfl (lv_at hl 4 rfl) ?_
      refine lv_iload hx hb dL_law_362 (lv_at hl 0 rfl) ?_
      refine lv_iconst (v := nI 1) hx hb dL_law_364 (by decide +kernel) ?_
      refine lv_iadd hx hb dL_law_365 ?_
      refine e_top (nI_add _ _) ?_
      refine e_sld hXs hbl hbA hS (w + 1) (by omega) (by omega) (v := nI X) e1 hx hb dL_law_366 ?_
      refine lv_aload_n hx hb dL_law_367 rfl (lv_at hl 4 rfl) ?_
      refine lv_iload hx hb dL_law_368 (lv_at hl 0 rfl) ?_
      refine lv_iconst (v := nI 2) hx hb dL_law_370 (by decide +kernel) ?_
      refine lv_iadd hx hb dL_law_371 ?_
      refine e_top (nI_add _ _) ?_
      refine e_sld hXs hbl hbA hS (w + 2) (by omega) (by omega) (v := nI Y) e2 hx hb dL_law_372 ?_
      refine lv_aload_n hx hb dL_law_373 rfl (lv_at hl 4 rfl) ?_
      refine lv_iload hx hb dL_law_374 (lv_at hl 0 rfl) ?_
      refine lv_iconst (v := nI 3) hx hb dL_law_376 (by decide +kernel) ?_
      refine lv_iadd hx hb dL_law_377 ?_
      refine e_top (nI_add _ _) ?_
      refine e_sld hXs hbl hbA hS (w + 3) (by omega) (by omega) (v := xs (w + 3)) rfl hx hb dL_law_378 ?_
      refine lv_aload_n hx hb dL_law_379 rfl (lv_at hl 1 rfl) ?_
      refine e_callSH (As := [.ref o, .int (nI X), .int (nI Y), .int (xs (w + 3)), .ref oq]) (rest := []) ⟨hx, hb, hml, hown, hts⟩ hK hX hP hD hS hA hl.1 (c_L_cell_b2 l hlt E _ o ad wm st gr co hb_ mo ga ca ha_ ma sd tk op sp rc rn wa X Y (xs (w + 3)) oq lo (by first | omega | assumption | rfl | (simp_all; done)) (by first | omega | assumption | rfl | (simp_all; done)) (by first | omega | assumption | rfl | (simp_all; done))) (vx_cwSW 5 hts gL_law_L_cell rfl rfl rfl (by decide +kernel) ⟨Nat.le_of_ble_eq_true rfl, Nat.le_of_ble_eq_true rfl⟩) [0, 1, 2, 3, 4, 5, 6, 7, 8, 9, 10, 11, 12, 13, 14, 15, 16, 17, 18, 19, 30] [20, 21, 22, 23, 24, 25, 26, 27, 28, 29] rfl rfl rfl rfl (by decide) rfl rfl (Nat.le_of_ble_eq_true rfl) dL_law_380 ⟨by show 40 + 3 * z + 1 ≤ 601024; omega, by show 2500 + 168 * z + 6 ≤ 7293034; omega⟩ (fun u_7 H locs hu_8 hsz1 hP hD hS => ?_)
      have hP : va_P E.1 vwCl (wAll E o ad wm st gr co hb_ (nI mo) ga ca ha_ (nI ma) sd tk op sp rc rn wa ++ wMo E o2 ad2 th gr co sd tk wm st (nI mo) nx lb fr ++ [(oq, .inl (E.2.2.2, 1, .inr (.inl lo)))]) H := hP.sub [10, 11, 12, 13, 14, 15, 16, 17, 18, 19, 20, 21, 22, 23, 24, 25, 26, 27, 28, 29, 0, 1, 2, 3, 4, 5, 6, 7, 8, 9, 30] rfl
      have hD : va_D (lA s) (wAll E o ad wm st gr co hb_ (nI mo) ga ca ha_ (nI ma) sd tk op sp rc rn wa ++ wMo E o2 ad2 th gr co sd tk wm st (nI mo) nx lb fr ++ [(oq, .inl (E.2.2.2, 1, .inr (.inl lo)))]) := hD.sub [10, 11, 12, 13, 14, 15, 16, 17, 18, 19, 20, 21, 22, 23, 24, 25, 26, 27, 28, 29, 0, 1, 2, 3, 4, 5, 6, 7, 8, 9, 30] (by decide) rfl
      refine W.eq (g2 := F0 m 383 ls [.int (nI 1)]) rfl ?_
      refine lv_istore (lv' := [(5, .int (nI 1)), (4, .int (nI w)), (3, .ref oq), (2, .ref o2), (1, .ref o), (0, .ref b)]) hx hb dL_law_383 hl (by decide) rfl (fun ls hl => ?_)
      refine lv_aload_n hx hb dL_law_385 rfl (lv_at hl 3 rfl) ?_
      refine lv_aload_n hx hb dL_law_386 rfl (lv_at hl 5 rfl) ?_
      refine lv_iload hx hb dL_law_387 (lv_at hl 1 rfl) ?_
      refine lv_iconst (v := nI 1) hx hb dL_law_389 (by decide +kernel) ?_
      refine lv_iadd hx hb dL_law_390 ?_
      refine e_top (nI_add _ _) ?_
      refine e_sld hXs hbl hbA hS (w + 1) (by omega) (by omega) (v := nI X) e1 hx hb dL_law_391 ?_
      refine lv_aload_n hx hb dL_law_392 rfl (lv_at hl 5 rfl) ?_
      refine lv_iload hx hb dL_law_393 (lv_at hl 1 rfl) ?_
      refine lv_iconst (v := nI 2) hx hb dL_law_395 (by decide +kernel) ?_
      refine lv_iadd hx hb dL_law_396 ?_
      refine e_top (nI_add _ _) ?_
      refine e_sld hXs hbl hbA hS (w + 2) (by omega) (by omega) (v := nI Y) e2 hx hb dL_law_397 ?_
      refine lv_aload_n hx hb dL_law_398 rfl (lv_at hl 5 rfl) ?_
      refine lv_iload hx hb dL_law_399 (lv_at hl 1 rfl) ?_
      refine lv_iconst (v := nI 3) hx hb dL_law_401 (by decide +kernel) ?_
      refine lv_iadd hx hb dL_law_402 ?_
      refine e_top (nI_add _ _) ?_
      refine e_sld hXs hbl hbA hS (w + 3) (by omega) (by omega) (v := xs (w + 3)) rfl hx hb dL_law_403 ?_
      refine e_callV (As := [.int (nI X), .int (nI Y), .int (xs (w + 3))]) (rest := []) ⟨hx, hb, hml, hown, hts⟩ hK hP hD hS hA hl.1 (c_X5_cell_b2 l E _ o2 ad2 th gr co sd tk wm st mo nx lb fr X Y (xs (w + 3)) (by first | omega | assumption | rfl | (simp_all; done)) (by first | omega | assumption | rfl | (simp_all; done)) (by first | omega | assumption | rfl | (simp_all; done))) (cwV 3 hts gL_law_X5_cell rfl rfl rfl (by decide +kernel) ⟨Nat.le_of_ble_eq_true rfl, Nat.le_of_ble_eq_true rfl⟩) [20, 21, 22, 23, 24, 25, 26, 27, 28, 29] [0, 1, 2, 3, 4, 5, 6, 7, 8, 9, 10, 11, 12, 13, 14, 15, 16, 17, 18, 19, 30] rfl rfl rfl rfl (by decide) (q0 := 20) (ci := 5) rfl rfl rfl rfl (Nat.le_of_ble_eq_true rfl) dL_law_404 ⟨by show 40 + 3 * z + 1 + 0 ≤ 601024; omega, by show 2500 + 168 * z + 6 + 0 ≤ 7293034; omega⟩ (fun u_9 H locs hu_10 hsz1 hP hD hS => ?_)
      have hP : va_P E.1 vwCl (wAll E o ad wm st gr co hb_ (nI mo) ga ca ha_ (nI ma) sd tk op sp rc rn wa ++ wMo E o2 ad2 (nI 1) gr co sd tk wm st (nI mo) nx lb fr ++ [(oq, .inl (E.2.2.2, 1, .inr (.inl lo)))]) H := hP.sub [0, 1, 2, 3, 4, 5, 6, 7, 8, 9, 10, 11, 12, 13, 14, 15, 16, 17, 18, 19, 21, 22, 23, 24, 25, 26, 27, 28, 29, 30, 20] rfl
      have hD : va_D (lA s) (wAll E o ad wm st gr co hb_ (nI mo) ga ca ha_ (nI ma) sd tk op sp rc rn wa ++ wMo E o2 ad2 (nI 1) gr co sd tk wm st (nI mo) nx lb fr ++ [(oq, .inl (E.2.2.2, 1, .inr (.inl lo)))]) := hD.sub [0, 1, 2, 3, 4, 5, 6, 7, 8, 9, 10, 11, 12, 13, 14, 15, 16, 17, 18, 19, 21, 22, 23, 24, 25, 26, 27, 28, 29, 30, 20] (by decide) rfl
      refine W.eq (g2 := F0 m 407 ls [.int (nI 0)]) rfl ?_
      refine lv_istore (lv' := [(6, .int (nI 0)), (5, .int (nI 1)), (4, .int (nI w)), (3, .ref oq), (2, .ref o2), (1, .ref o), (0, .ref b)]) hx hb dL_law_407 hl (by decide) rfl (fun ls hl => ?_)
      refine lv_aload_n hx hb dL_law_409 rfl (lv_at hl 4 rfl) ?_
      refine e_callV (As := []) (rest := []) ⟨hx, hb, hml, hown, hts⟩ hK hP hD hS hA hl.1 (c_X5_thrown l E _ o2 ad2 (nI 1) gr co sd tk wm st mo nx lb fr) (cwV 0 hts gL_law_X5_thrown rfl rfl rfl (by decide +kernel) ⟨Nat.le_of_ble_eq_true rfl, Nat.le_of_ble_eq_true rfl⟩) [20, 21, 22, 23, 24, 25, 26, 27, 28, 29] [0, 1, 2, 3, 4, 5, 6, 7, 8, 9, 10, 11, 12, 13, 14, 15, 16, 17, 18, 19, 30] rfl rfl rfl rfl (by decide) (q0 := 20) (ci := 5) rfl rfl rfl rfl (Nat.le_of_ble_eq_true rfl) dL_law_410 ⟨by show 40 + 3 * z + 1 + 0 + 0 ≤ 601024; omega, by show 2500 + 168 * z + 6 + 0 + 0 ≤ 7293034; omega⟩ (fun u_11 H locs hu_12 hsz1 hP hD hS => ?_)
      have hP : va_P E.1 vwCl (wAll E o ad wm st gr co hb_ (nI mo) ga ca ha_ (nI ma) sd tk op sp rc rn wa ++ wMo E o2 ad2 (nI 1) gr co sd tk wm st (nI mo) nx lb fr ++ [(oq, .inl (E.2.2.2, 1, .inr (.inl lo)))]) H := hP.sub [0, 1, 2, 3, 4, 5, 6, 7, 8, 9, 10, 11, 12, 13, 14, 15, 16, 17, 18, 19, 21, 22, 23, 24, 25, 26, 27, 28, 29, 30, 20] rfl
      have hD : va_D (lA s) (wAll E o ad wm st gr co hb_ (nI mo) ga ca ha_ (nI ma) sd tk op sp rc rn wa ++ wMo E o2 ad2 (nI 1) gr co sd tk wm st (nI mo) nx lb fr ++ [(oq, .inl (E.2.2.2, 1, .inr (.inl lo)))]) := hD.sub [0, 1, 2, 3, 4, 5, 6, 7, 8, 9, 10, 11, 12, 13, 14, 15, 16, 17, 18, 19, 21, 22, 23, 24, 25, 26, 27, 28, 29, 30, 20] (by decide) rfl
      refine W.eq (g2 := F0 m 413 ls [.int (nI 1)]) rfl ?_
      refine lv_iload hx hb dL_law_413 (lv_at hl 1 rfl) ?_
      refine n_icmp_eq (x := 1) (y := 1) (by omega) (by omega) (tgt := 420) hx hb dL_law_415 (by decide) (fun c415 => ?_) (fun c415 => absurd rfl c415)
      refine lv_iload hx hb dL_law_420 (lv_at hl 1 rfl) ?_
      refine n_if_ne (x := 1) (by omega) (tgt := 437) hx hb dL_law_422 (by decide) (fun c422 => ?_) (fun c422 => (by omega))
      refine lv_goto (tgt := 1129) hx hb dL_law_437 (by decide) ?_
      refine lv_iinc (v := nI (w + 4)) (lv' := [(4, .int (nI (w + 4))), (6, .int (nI 0)), (5, .int (nI 1)), (3, .ref oq), (2, .ref o2), (1, .ref o), (0, .ref b)]) hx hb dL_law_1129 hl (k := 2) rfl (nI_add w 4) (by decide) rfl (fun ls hl => ?_)
      refine lv_goto (tgt := 23) hx hb dL_law_1132 (by decide) ?_
      exact W.widen (by show 40 + 3 * z + 1 + 0 + 0 ≤ 40 + 3 * (z + 1); omega) (by show 2500 + 168 * z + 6 + 0 + 0 ≤ 2500 + 168 * (z + 1); omega) (kk (w + 4) wm st gr co hb_ mo ga ca ha_ ma sd tk op sp rc rn wa (nI 1) nx lb fr lo H locs ls (by omega) (by omega) hT hR hP hD hS (lv_sub hl [0, 3, 4, 5, 6] rfl))
    | true =>
      obtain ⟨k, hv1, hv2, e3⟩ := isInB_nat (by decide) hv (by decide)
      refine lv_aload_n hx hb dL_law_360 rfl (lv_at hl 3 rfl) ?_
      refine lv_aload_n hx hb dL_law_361 rfl (lv_at hl 4 rfl) ?_
      refine lv_iload hx hb dL_law_362 (lv_at hl 0 rfl) ?_
      refine lv_iconst (v := nI 1) hx hb dL_law_364 (by decide +kernel) ?_
      refine lv_iadd hx hb dL_law_365 ?_
      refine e_top (nI_add _ _) ?_
      refine e_sld hXs hbl hbA hS (w + 1) (by omega) (by omega) (v := nI X) e1 hx hb dL_law_366 ?_
      refine lv_aload_n hx hb dL_law_367 rfl (lv_at hl 4 rfl) ?_
      refine lv_iload hx hb dL_law_368 (lv_at hl 0 rfl) ?_
      refine lv_iconst (v := nI 2) hx hb dL_law_370 (by decide +kernel) ?_
      refine lv_iadd hx hb dL_law_371 ?_
      refine e_top (nI_add _ _) ?_
      refine e_sld hXs hbl hbA hS (w + 2) (by omega) (by omega) (v := nI Y) e2 hx hb dL_law_372 ?_
      refine lv_aload_n hx hb dL_law_373 rfl (lv_at hl 4 rfl) ?_
      refine lv_iload hx hb dL_law_374 (lv_at hl 0 rfl) ?_
      refine lv_iconst (v := nI 3) hx hb dL_law_376 (by decide +kernel) ?_
      refine lv_iadd hx hb dL_law_377 ?_
      refine e_top (nI_add _ _) ?_
      refine e_sld hXs hbl hbA hS (w + 3) (by omega) (by omega) (v := nI k) e3 hx hb dL_law_378 ?_
      refine lv_aload_n hx hb dL_law_379 rfl (lv_at hl 1 rfl) ?_
      refine e_callSH (As := [.ref o, .int (nI X), .int (nI Y), .int (nI k), .ref oq]) (rest := []) ⟨hx, hb, hml, hown, hts⟩ hK hX hP hD hS hA hl.1 (c_L_cell l hlt E _ o ad wm st gr co hb_ mo ga ca ha_ ma sd tk op sp rc rn wa X Y k oq lo (by first | omega | assumption | rfl | (simp_all; done)) (by first | omega | assumption | rfl | (simp_all; done)) (by first | omega | assumption | rfl | (simp_all; done))) (vx_cwSW 5 hts gL_law_L_cell rfl rfl rfl (by decide +kernel) ⟨Nat.le_of_ble_eq_true rfl, Nat.le_of_ble_eq_true rfl⟩) [0, 1, 2, 3, 4, 5, 6, 7, 8, 9, 10, 11, 12, 13, 14, 15, 16, 17, 18, 19, 30] [20, 21, 22, 23, 24, 25, 26, 27, 28, 29] rfl rfl rfl rfl (by decide) rfl rfl (Nat.le_of_ble_eq_true rfl) dL_law_380 ⟨by show 40 + 3 * z + 0 ≤ 601024; omega, by show 2500 + 168 * z + 0 ≤ 7293034; omega⟩ (fun u_13 H locs hu_14 hsz1 hP hD hS => ?_)
      obtain ⟨op__15, sp__16, rc__17, rn__18⟩ := u_13
      have hP : va_P E.1 vwCl (wAll E o ad wm st gr co hb_ (nI mo) ga ca ha_ (nI ma) sd tk op__15 sp__16 rc__17 rn__18 wa ++ wMo E o2 ad2 th gr co sd tk wm st (nI mo) nx lb fr ++ [(oq, .inl (E.2.2.2, 1, .inr (.inl (vp_updL lo 0 ((celA gr co ((9 * Y) + X) k).toInt64)))))]) H := hP.sub [10, 11, 12, 13, 14, 15, 16, 17, 18, 19, 20, 21, 22, 23, 24, 25, 26, 27, 28, 29, 0, 1, 2, 3, 4, 5, 6, 7, 8, 9, 30] rfl
      have hD : va_D (lA s) (wAll E o ad wm st gr co hb_ (nI mo) ga ca ha_ (nI ma) sd tk op__15 sp__16 rc__17 rn__18 wa ++ wMo E o2 ad2 th gr co sd tk wm st (nI mo) nx lb fr ++ [(oq, .inl (E.2.2.2, 1, .inr (.inl (vp_updL lo 0 ((celA gr co ((9 * Y) + X) k).toInt64)))))]) := hD.sub [10, 11, 12, 13, 14, 15, 16, 17, 18, 19, 20, 21, 22, 23, 24, 25, 26, 27, 28, 29, 0, 1, 2, 3, 4, 5, 6, 7, 8, 9, 30] (by decide) rfl
      refine W.eq (g2 := F0 m 383 ls [.int (nI 0)]) rfl ?_
      refine lv_istore (lv' := [(5, .int (nI 0)), (4, .int (nI w)), (3, .ref oq), (2, .ref o2), (1, .ref o), (0, .ref b)]) hx hb dL_law_383 hl (by decide) rfl (fun ls hl => ?_)
      refine lv_aload_n hx hb dL_law_385 rfl (lv_at hl 3 rfl) ?_
      refine lv_aload_n hx hb dL_law_386 rfl (lv_at hl 5 rfl) ?_
      refine lv_iload hx hb dL_law_387 (lv_at hl 1 rfl) ?_
      refine lv_iconst (v := nI 1) hx hb dL_law_389 (by decide +kernel) ?_
      refine lv_iadd hx hb dL_law_390 ?_
      refine e_top (nI_add _ _) ?_
      refine e_sld hXs hbl hbA hS (w + 1) (by omega) (by omega) (v := nI X) e1 hx hb dL_law_391 ?_
      refine lv_aload_n hx hb dL_law_392 rfl (lv_at hl 5 rfl) ?_
      refine lv_iload hx hb dL_law_393 (lv_at hl 1 rfl) ?_
      refine lv_iconst (v := nI 2) hx hb dL_law_395 (by decide +kernel) ?_
      refine lv_iadd hx hb dL_law_396 ?_
      refine e_top (nI_add _ _) ?_
      refine e_sld hXs hbl hbA hS (w + 2) (by omega) (by omega) (v := nI Y) e2 hx hb dL_law_397 ?_
      refine lv_aload_n hx hb dL_law_398 rfl (lv_at hl 5 rfl) ?_
      refine lv_iload hx hb dL_law_399 (lv_at hl 1 rfl) ?_
      refine lv_iconst (v := nI 3) hx hb dL_law_401 (by decide +kernel) ?_
      refine lv_iadd hx hb dL_law_402 ?_
      refine e_top (nI_add _ _) ?_
      refine e_sld hXs hbl hbA hS (w + 3) (by omega) (by omega) (v := nI k) e3 hx hb dL_law_403 ?_
      refine e_callV (As := [.int (nI X), .int (nI Y), .int (nI k)]) (rest := []) ⟨hx, hb, hml, hown, hts⟩ hK hP hD hS hA hl.1 (c_X5_cell l E _ o2 ad2 th gr co sd tk wm st mo nx lb fr X Y k (by first | omega | assumption | rfl | (simp_all; done)) (by first | omega | assumption | rfl | (simp_all; done)) (by first | omega | assumption | rfl | (simp_all; done))) (cwV 3 hts gL_law_X5_cell rfl rfl rfl (by decide +kernel) ⟨Nat.le_of_ble_eq_true rfl, Nat.le_of_ble_eq_true rfl⟩) [20, 21, 22, 23, 24, 25, 26, 27, 28, 29] [0, 1, 2, 3, 4, 5, 6, 7, 8, 9, 10, 11, 12, 13, 14, 15, 16, 17, 18, 19, 30] rfl rfl rfl rfl (by decide) (q0 := 20) (ci := 5) rfl rfl rfl rfl (Nat.le_of_ble_eq_true rfl) dL_law_404 ⟨by show 40 + 3 * z + 0 + 0 ≤ 601024; omega, by show 2500 + 168 * z + 0 + 0 ≤ 7293034; omega⟩ (fun u_19 H locs hu_20 hsz1 hP hD hS => ?_)
      obtain ⟨lb__21, rfl⟩ : ∃ z, z = u_19 := ⟨_, rfl⟩
      have hP : va_P E.1 vwCl (wAll E o ad wm st gr co hb_ (nI mo) ga ca ha_ (nI ma) sd tk op__15 sp__16 rc__17 rn__18 wa ++ wMo E o2 ad2 (nI 0) gr co sd tk wm st (nI mo) nx lb__21 fr ++ [(oq, .inl (E.2.2.2, 1, .inr (.inl (vp_updL lo 0 ((celA gr co ((9 * Y) + X) k).toInt64)))))]) H := hP.sub [0, 1, 2, 3, 4, 5, 6, 7, 8, 9, 10, 11, 12, 13, 14, 15, 16, 17, 18, 19, 21, 22, 23, 24, 25, 26, 27, 28, 29, 30, 20] rfl
      have hD : va_D (lA s) (wAll E o ad wm st gr co hb_ (nI mo) ga ca ha_ (nI ma) sd tk op__15 sp__16 rc__17 rn__18 wa ++ wMo E o2 ad2 (nI 0) gr co sd tk wm st (nI mo) nx lb__21 fr ++ [(oq, .inl (E.2.2.2, 1, .inr (.inl (vp_updL lo 0 ((celA gr co ((9 * Y) + X) k).toInt64)))))]) := hD.sub [0, 1, 2, 3, 4, 5, 6, 7, 8, 9, 10, 11, 12, 13, 14, 15, 16, 17, 18, 19, 21, 22, 23, 24, 25, 26, 27, 28, 29, 30, 20] (by decide) rfl
      refine W.eq (g2 := F0 m 407 ls [.int (celA gr co ((9 * Y) + X) k)]) rfl ?_
      refine lv_istore (lv' := [(6, .int (celA gr co ((9 * Y) + X) k)), (5, .int (nI 0)), (4, .int (nI w)), (3, .ref oq), (2, .ref o2), (1, .ref o), (0, .ref b)]) hx hb dL_law_407 hl (by decide) rfl (fun ls hl => ?_)
      refine lv_aload_n hx hb dL_law_409 rfl (lv_at hl 4 rfl) ?_
      refine e_callV (As := []) (rest := []) ⟨hx, hb, hml, hown, hts⟩ hK hP hD hS hA hl.1 (c_X5_thrown l E _ o2 ad2 (nI 0) gr co sd tk wm st mo nx lb__21 fr) (cwV 0 hts gL_law_X5_thrown rfl rfl rfl (by decide +kernel) ⟨Nat.le_of_ble_eq_true rfl, Nat.le_of_ble_eq_true rfl⟩) [20, 21, 22, 23, 24, 25, 26, 27, 28, 29] [0, 1, 2, 3, 4, 5, 6, 7, 8, 9, 10, 11, 12, 13, 14, 15, 16, 17, 18, 19, 30] rfl rfl rfl rfl (by decide) (q0 := 20) (ci := 5) rfl rfl rfl rfl (Nat.le_of_ble_eq_true rfl) dL_law_410 ⟨by show 40 + 3 * z + 0 + 0 + 0 ≤ 601024; omega, by show 2500 + 168 * z + 0 + 0 + 0 ≤ 7293034; omega⟩ (fun u_22 H locs hu_23 hsz1 hP hD hS => ?_)
      have hP : va_P E.1 vwCl (wAll E o ad wm st gr co hb_ (nI mo) ga ca ha_ (nI ma) sd tk op__15 sp__16 rc__17 rn__18 wa ++ wMo E o2 ad2 (nI 0) gr co sd tk wm st (nI mo) nx lb__21 fr ++ [(oq, .inl (E.2.2.2, 1, .inr (.inl (vp_updL lo 0 ((celA gr co ((9 * Y) + X) k).toInt64)))))]) H := hP.sub [0, 1, 2, 3, 4, 5, 6, 7, 8, 9, 10, 11, 12, 13, 14, 15, 16, 17, 18, 19, 21, 22, 23, 24, 25, 26, 27, 28, 29, 30, 20] rfl
      have hD : va_D (lA s) (wAll E o ad wm st gr co hb_ (nI mo) ga ca ha_ (nI ma) sd tk op__15 sp__16 rc__17 rn__18 wa ++ wMo E o2 ad2 (nI 0) gr co sd tk wm st (nI mo) nx lb__21 fr ++ [(oq, .inl (E.2.2.2, 1, .inr (.inl (vp_updL lo 0 ((celA gr co ((9 * Y) + X) k).toInt64)))))]) := hD.sub [0, 1, 2, 3, 4, 5, 6, 7, 8, 9, 10, 11, 12, 13, 14, 15, 16, 17, 18, 19, 21, 22, 23, 24, 25, 26, 27, 28, 29, 30, 20] (by decide) rfl
      refine W.eq (g2 := F0 m 413 ls [.int (nI 0)]) rfl ?_
      refine lv_iload hx hb dL_law_413 (lv_at hl 1 rfl) ?_
      refine n_icmp_eq (x := 0) (y := 0) (by omega) (by omega) (tgt := 420) hx hb dL_law_415 (by decide) (fun c415 => ?_) (fun c415 => absurd rfl c415)
      refine lv_iload hx hb dL_law_420 (lv_at hl 1 rfl) ?_
      refine n_if_ne (x := 0) (by omega) (tgt := 437) hx hb dL_law_422 (by decide) (fun c422 => (by omega)) (fun c422 => ?_)
      refine lv_aload_n hx hb dL_law_425 rfl (lv_at hl 3 rfl) ?_
      refine lv_iconst (v := nI 0) hx hb dL_law_426 (by decide +kernel) ?_
      refine e_lald hK hP 30 rfl 0 (by omega) (by decide) hx hb dL_law_427 ?_
      refine lv_iload hx hb dL_law_428 (lv_at hl 0 rfl) ?_
      refine lv_i2l hx hb dL_law_430 rfl ?_
      refine W.lcmp hx hb dL_law_431 ?_
      refine e_top (y := nI 0) (show lg_cmp ((vp_updL lo 0 ((celA gr co ((9 * Y) + X) k).toInt64)) 0) ((celA gr co ((9 * Y) + X) k).toInt64) = nI 0 from (lg_cmp_eq _ _).mpr rfl) ?_
      refine n_if_eq (x := 0) (by omega) (tgt := 437) hx hb dL_law_432 (by decide) (fun c432 => ?_) (fun c432 => (by omega))
      refine lv_goto (tgt := 1129) hx hb dL_law_437 (by decide) ?_
      refine lv_iinc (v := nI (w + 4)) (lv' := [(4, .int (nI (w + 4))), (6, .int (celA gr co ((9 * Y) + X) k)), (5, .int (nI 0)), (3, .ref oq), (2, .ref o2), (1, .ref o), (0, .ref b)]) hx hb dL_law_1129 hl (k := 2) rfl (nI_add w 4) (by decide) rfl (fun ls hl => ?_)
      refine lv_goto (tgt := 23) hx hb dL_law_1132 (by decide) ?_
      exact W.widen (by show 40 + 3 * z + 0 + 0 + 0 ≤ 40 + 3 * (z + 1); omega) (by show 2500 + 168 * z + 0 + 0 + 0 ≤ 2500 + 168 * (z + 1); omega) (kk (w + 4) wm st gr co hb_ mo ga ca ha_ ma sd tk op__15 sp__16 rc__17 rn__18 wa (nI 0) nx lb__21 fr (vp_updL lo 0 ((celA gr co ((9 * Y) + X) k).toInt64)) H locs ls (by omega) (by omega) hT hR hP hD hS (lv_sub hl [0, 3, 4, 5, 6] rfl))

set_option maxHeartbeats 16000000 in
set_option maxRecDepth 100000 in
theorem k_case4 {p : Program} {e : Env} {s : State} {m : MethodId} {below : List Frame} {meth : Method} {cd : Code} (l : Launch) (hlt : l.stackTraces = false) {b L : Nat} {xs : Nat → Int32} {E : eT} (C : lC p s m cd b L xs E) {Q : State → Prop} {o : Nat} {ad : Nat → Nat} {o2 : Nat} {ad2 : Nat → Nat} {oq : Nat} (z w : Nat) (kk : lHead p l e s m below meth cd b E Q o ad o2 ad2 oq (z + 1)) (hi : w + 4 ≤ L) (wm : Nat → Int32) (st : Nat → Int32) (gr : Nat → Int32) (co : Nat → Int32) (hb_ : Nat → Bool) (mo : Nat) (ga : Nat → Int32) (ca : Nat → Int32) (ha_ : Nat → Bool) (ma : Nat) (sd : Nat → Int32) (tk : Nat → Int32) (op : Nat → Bool) (sp : Nat → Nat) (rc : Nat → Nat) (rn : Nat) (wa : Nat → Int32) (th : Int32) (nx : Nat → Int32) (lb : Nat → Option Nat) (fr : Nat → Nat) (lo : Nat → Int64) (H : Heap) (locs : List Loc) (ls : Array Slot) (hw : w = 4 * z) (hmo : mo ≤ 120 * z) (hT : Tb wm st) (hR : Rg gr co) (hP : va_P E.1 vwCl (wAll E o ad wm st gr co hb_ (nI mo) ga ca ha_ (nI ma) sd tk op sp rc rn wa ++ wMo E o2 ad2 th gr co sd tk wm st (nI mo) nx lb fr ++ [(oq, .inl (E.2.2.2, 1, .inr (.inl lo)))]) H) (hD : va_D (lA s) (wAll E o ad wm st gr co hb_ (nI mo) ga ca ha_ (nI ma) sd tk op sp rc rn wa ++ wMo E o2 ad2 th gr co sd tk wm st (nI mo) nx lb fr ++ [(oq, .inl (E.2.2.2, 1, .inr (.inl lo)))])) (hS : va_S (lA s) s.heap H locs) (hl : lv_has ls 9 [(4, .int (nI w)), (3, .ref oq), (2, .ref o2), (1, .ref o), (0, .ref b)]) : W p l e room_1 s m #[Value.ref b] below meth cd H locs (40 + 3 * z) (2500 + 168 * z) Q (F0 m 440 ls []) := by
  obtain ⟨hx, hb, hml, hown, hts, hK, hX, hXs, hbl, hL⟩ := C
  have hA : ∀ q : Nat, s.heap.size ≤ q → lA s q := fun _ h => h
  have hbA : ¬ lA s b := Nat.not_le.mpr hbl
  have hz : z ≤ 512 := by omega
  cases hc : isCellB (xs (w + 1)) (xs (w + 2)) with
  | false =>
    refine lv_aload_n hx hb dL_law_440 rfl (lv_at hl 3 rfl) ?_
    refine lv_aload_n hx hb dL_law_441 rfl (lv_at hl 4 rfl) ?_
    refine lv_iload hx hb dL_law_442 (lv_at hl 0 rfl) ?_
    refine lv_iconst (v := nI 1) hx hb dL_law_444 (by decide +kernel) ?_
    refine lv_iadd hx hb dL_law_445 ?_
    refine e_top (nI_add _ _) ?_
    refine e_sld hXs hbl hbA hS (w + 1) (by omega) (by omega) (v := xs (w + 1)) rfl hx hb dL_law_446 ?_
    refine lv_aload_n hx hb dL_law_447 rfl (lv_at hl 4 rfl) ?_
    refine lv_iload hx hb dL_law_448 (lv_at hl 0 rfl) ?_
    refine lv_iconst (v := nI 2) hx hb dL_law_450 (by decide +kernel) ?_
    refine lv_iadd hx hb dL_law_451 ?_
    refine e_top (nI_add _ _) ?_
    refine e_sld hXs hbl hbA hS (w + 2) (by omega) (by omega) (v := xs (w + 2)) rfl hx hb dL_law_452 ?_
    refine lv_aload_n hx hb dL_law_453 rfl (lv_at hl 1 rfl) ?_
    refine e_callSH (As := [.ref o, .int (xs (w + 1)), .int (xs (w + 2)), .ref oq]) (rest := []) ⟨hx, hb, hml, hown, hts⟩ hK hX hP hD hS hA hl.1 (c_L_sound_b1 l hlt E _ o ad wm st gr co hb_ mo ga ca ha_ ma sd tk op sp rc rn wa (xs (w + 1)) (xs (w + 2)) oq lo (by first | omega | assumption | rfl | (simp_all; done))) (vx_cwSW 4 hts gL_law_L_sound rfl rfl rfl (by decide +kernel) ⟨Nat.le_of_ble_eq_true rfl, Nat.le_of_ble_eq_true rfl⟩) [0, 1, 2, 3, 4, 5, 6, 7, 8, 9, 10, 11, 12, 13, 14, 15, 16, 17, 18, 19, 30] [20, 21, 22, 23, 24, 25, 26, 27, 28, 29] rfl rfl rfl rfl (by decide) rfl rfl (Nat.le_of_ble_eq_true rfl) dL_law_454 ⟨by show 40 + 3 * z + 1 ≤ 601024; omega, by show 2500 + 168 * z + 6 ≤ 7293034; omega⟩ (fun u_1 H locs hu_2 hsz1 hP hD hS => ?_)
    have hP : va_P E.1 vwCl (wAll E o ad wm st gr co hb_ (nI mo) ga ca ha_ (nI ma) sd tk op sp rc rn wa ++ wMo E o2 ad2 th gr co sd tk wm st (nI mo) nx lb fr ++ [(oq, .inl (E.2.2.2, 1, .inr (.inl lo)))]) H := hP.sub [10, 11, 12, 13, 14, 15, 16, 17, 18, 19, 20, 21, 22, 23, 24, 25, 26, 27, 28, 29, 0, 1, 2, 3, 4, 5, 6, 7, 8, 9, 30] rfl
    have hD : va_D (lA s) (wAll E o ad wm st gr co hb_ (nI mo) ga ca ha_ (nI ma) sd tk op sp rc rn wa ++ wMo E o2 ad2 th gr co sd tk wm st (nI mo) nx lb fr ++ [(oq, .inl (E.2.2.2, 1, .inr (.inl lo)))]) := hD.sub [10, 11, 12, 13, 14, 15, 16, 17, 18, 19, 20, 21, 22, 23, 24, 25, 26, 27, 28, 29, 0, 1, 2, 3, 4, 5, 6, 7, 8, 9, 30] (by decide) rfl
    refine W.eq (g2 := F0 m 457 ls [.int (nI 1)]) rfl ?_
    refine lv_istore (lv' := [(5, .int (nI 1)), (4, .int (nI w)), (3, .ref oq), (2, .ref o2), (1, .ref o), (0, .ref b)]) hx hb dL_law_457 hl (by decide) rfl (fun ls hl => ?_)
    refine lv_aload_n hx hb dL_law_459 rfl (lv_at hl 3 rfl) ?_
    refine lv_aload_n hx hb dL_law_460 rfl (lv_at hl 5 rfl) ?_
    refine lv_iload hx hb dL_law_461 (lv_at hl 1 rfl) ?_
    refine lv_iconst (v := nI 1) hx hb dL_law_463 (by decide +kernel) ?_
    refine lv_iadd hx hb dL_law_464 ?_
    refine e_top (nI_add _ _) ?_
    refine e_sld hXs hbl hbA hS (w + 1) (by omega) (by omega) (v := xs (w + 1)) rfl hx hb dL_law_465 ?_
    refine lv_aload_n hx hb dL_law_466 rfl (lv_at hl 5 rfl) ?_
    refine lv_iload hx hb dL_law_467 (lv_at hl 1 rfl) ?_
    refine lv_iconst (v := nI 2) hx hb dL_law_469 (by decide +kernel) ?_
    refine lv_iadd hx hb dL_law_470 ?_
    refine e_top (nI_add _ _) ?_
    refine e_sld hXs hbl hbA hS (w + 2) (by omega) (by omega) (v := xs (w + 2)) rfl hx hb dL_law_471 ?_
    refine e_callV (As := [.int (xs (w + 1)), .int (xs (w + 2))]) (rest := []) ⟨hx, hb, hml, hown, hts⟩ hK hP hD hS hA hl.1 (c_X5_sound_b1 l E _ o2 ad2 th gr co sd tk wm st mo nx lb fr (xs (w + 1)) (xs (w + 2)) (by first | omega | assumption | rfl | (simp_all; done))) (cwV 2 hts gL_law_X5_sound rfl rfl rfl (by decide +kernel) ⟨Nat.le_of_ble_eq_true rfl, Nat.le_of_ble_eq_true rfl⟩) [20, 21, 22, 23, 24, 25, 26, 27, 28, 29] [0, 1, 2, 3, 4, 5, 6, 7, 8, 9, 10, 11, 12, 13, 14, 15, 16, 17, 18, 19, 30] rfl rfl rfl rfl (by decide) (q0 := 20) (ci := 5) rfl rfl rfl rfl (Nat.le_of_ble_eq_true rfl) dL_law_472 ⟨by show 40 + 3 * z + 1 + 0 ≤ 601024; omega, by show 2500 + 168 * z + 6 + 0 ≤ 7293034; omega⟩ (fun u_3 H locs hu_4 hsz1 hP hD hS => ?_)
    have hP : va_P E.1 vwCl (wAll E o ad wm st gr co hb_ (nI mo) ga ca ha_ (nI ma) sd tk op sp rc rn wa ++ wMo E o2 ad2 (nI 1) gr co sd tk wm st (nI mo) nx lb fr ++ [(oq, .inl (E.2.2.2, 1, .inr (.inl lo)))]) H := hP.sub [0, 1, 2, 3, 4, 5, 6, 7, 8, 9, 10, 11, 12, 13, 14, 15, 16, 17, 18, 19, 21, 22, 23, 24, 25, 26, 27, 28, 29, 30, 20] rfl
    have hD : va_D (lA s) (wAll E o ad wm st gr co hb_ (nI mo) ga ca ha_ (nI ma) sd tk op sp rc rn wa ++ wMo E o2 ad2 (nI 1) gr co sd tk wm st (nI mo) nx lb fr ++ [(oq, .inl (E.2.2.2, 1, .inr (.inl lo)))]) := hD.sub [0, 1, 2, 3, 4, 5, 6, 7, 8, 9, 10, 11, 12, 13, 14, 15, 16, 17, 18, 19, 21, 22, 23, 24, 25, 26, 27, 28, 29, 30, 20] (by decide) rfl
    refine W.eq (g2 := F0 m 475 ls [.int (nI 0)]) rfl ?_
    refine lv_istore (lv' := [(6, .int (nI 0)), (5, .int (nI 1)), (4, .int (nI w)), (3, .ref oq), (2, .ref o2), (1, .ref o), (0, .ref b)]) hx hb dL_law_475 hl (by decide) rfl (fun ls hl => ?_)
    refine lv_aload_n hx hb dL_law_477 rfl (lv_at hl 4 rfl) ?_
    refine e_callV (As := []) (rest := []) ⟨hx, hb, hml, hown, hts⟩ hK hP hD hS hA hl.1 (c_X5_thrown l E _ o2 ad2 (nI 1) gr co sd tk wm st mo nx lb fr) (cwV 0 hts gL_law_X5_thrown rfl rfl rfl (by decide +kernel) ⟨Nat.le_of_ble_eq_true rfl, Nat.le_of_ble_eq_true rfl⟩) [20, 21, 22, 23, 24, 25, 26, 27, 28, 29] [0, 1, 2, 3, 4, 5, 6, 7, 8, 9, 10, 11, 12, 13, 14, 15, 16, 17, 18, 19, 30] rfl rfl rfl rfl (by decide) (q0 := 20) (ci := 5) rfl rfl rfl rfl (Nat.le_of_ble_eq_true rfl) dL_law_478 ⟨by show 40 + 3 * z + 1 + 0 + 0 ≤ 601024; omega, by show 2500 + 168 * z + 6 + 0 + 0 ≤ 7293034; omega⟩ (fun u_5 H locs hu_6 hsz1 hP hD hS => ?_)
    have hP : va_P E.1 vwCl (wAll E o ad wm st gr co hb_ (nI mo) ga ca ha_ (nI ma) sd tk op sp rc rn wa ++ wMo E o2 ad2 (nI 1) gr co sd tk wm st (nI mo) nx lb fr ++ [(oq, .inl (E.2.2.2, 1, .inr (.inl lo)))]) H := hP.sub [0, 1, 2, 3, 4, 5, 6, 7, 8, 9, 10, 11, 12, 13, 14, 15, 16, 17, 18, 19, 21, 22, 23, 24, 25, 26, 27, 28, 29, 30, 20] rfl
    have hD : va_D (lA s) (wAll E o ad wm st gr co hb_ (nI mo) ga ca ha_ (nI ma) sd tk op sp rc rn wa ++ wMo E o2 ad2 (nI 1) gr co sd tk wm st (nI mo) nx lb fr ++ [(oq, .inl (E.2.2.2, 1, .inr (.inl lo)))]) := hD.sub [0, 1, 2, 3, 4, 5, 6, 7, 8, 9, 10, 11, 12, 13, 14, 15, 16, 17, 18, 19, 21, 22, 23, 24, 25, 26, 27, 28, 29, 30, 20] (by decide) rfl
    refine W.eq (g2 := F0 m 481 ls [.int (nI 1)]) rfl ?_
    refine lv_iload hx hb dL_law_481 (lv_at hl 1 rfl) ?_
    refine n_icmp_eq (x := 1) (y := 1) (by omega) (by omega) (tgt := 488) hx hb dL_law_483 (by decide) (fun c483 => ?_) (fun c483 => absurd rfl c483)
    refine lv_iload hx hb dL_law_488 (lv_at hl 1 rfl) ?_
    refine n_if_ne (x := 1) (by omega) (tgt := 505) hx hb dL_law_490 (by decide) (fun c490 => ?_) (fun c490 => (by omega))
    refine lv_goto (tgt := 1129) hx hb dL_law_505 (by decide) ?_
    refine lv_iinc (v := nI (w + 4)) (lv' := [(4, .int (nI (w + 4))), (6, .int (nI 0)), (5, .int (nI 1)), (3, .ref oq), (2, .ref o2), (1, .ref o), (0, .ref b)]) hx hb dL_law_1129 hl (k := 2) rfl (nI_add w 4) (by decide) rfl (fun ls hl => ?_)
    refine lv_goto (tgt := 23) hx hb dL_law_1132 (by decide) ?_
    exact W.widen (by show 40 + 3 * z + 1 + 0 + 0 ≤ 40 + 3 * (z + 1); omega) (by show 2500 + 168 * z + 6 + 0 + 0 ≤ 2500 + 168 * (z + 1); omega) (kk (w + 4) wm st gr co hb_ mo ga ca ha_ ma sd tk op sp rc rn wa (nI 1) nx lb fr lo H locs ls (by omega) (by omega) hT hR hP hD hS (lv_sub hl [0, 3, 4, 5, 6] rfl))
  | true =>
    obtain ⟨X, Y, hX9, hY9, e1, e2⟩ := isCellB_nat hc
    refine lv_aload_n hx hb dL_law_440 rfl (lv_at hl 3 rfl) ?_
    refine lv_aload_n hx hb dL_law_441 rfl (lv_at hl 4 rfl) ?_
    refine lv_iload hx hb dL_law_442 (lv_at hl 0 rfl) ?_
    refine lv_iconst (v := nI 1) hx hb dL_law_444 (by decide +kernel) ?_
    refine lv_iadd hx hb dL_law_445 ?_
    refine e_top (nI_add _ _) ?_
    refine e_sld hXs hbl hbA hS (w + 1) (by omega) (by omega) (v := nI X) e1 hx hb dL_law_446 ?_
    refine lv_aload_n hx hb dL_law_447 rfl (lv_at hl 4 rfl) ?_
    refine lv_iload hx hb dL_law_448 (lv_at hl 0 rfl) ?_
    refine lv_iconst (v := nI 2) hx hb dL_law_450 (by decide +kernel) ?_
    refine lv_iadd hx hb dL_law_451 ?_
    refine e_top (nI_add _ _) ?_
    refine e_sld hXs hbl hbA hS (w + 2) (by omega) (by omega) (v := nI Y) e2 hx hb dL_law_452 ?_
    refine lv_aload_n hx hb dL_law_453 rfl (lv_at hl 1 rfl) ?_
    refine e_callSH (As := [.ref o, .int (nI X), .int (nI Y), .ref oq]) (rest := []) ⟨hx, hb, hml, hown, hts⟩ hK hX hP hD hS hA hl.1 (c_L_sound l hlt E _ o ad wm st gr co hb_ mo ga ca ha_ ma sd tk op sp rc rn wa X Y oq lo (by first | omega | assumption | rfl | (simp_all; done)) (by first | omega | assumption | rfl | (simp_all; done))) (vx_cwSW 4 hts gL_law_L_sound rfl rfl rfl (by decide +kernel) ⟨Nat.le_of_ble_eq_true rfl, Nat.le_of_ble_eq_true rfl⟩) [0, 1, 2, 3, 4, 5, 6, 7, 8, 9, 10, 11, 12, 13, 14, 15, 16, 17, 18, 19, 30] [20, 21, 22, 23, 24, 25, 26, 27, 28, 29] rfl rfl rfl rfl (by decide) rfl rfl (Nat.le_of_ble_eq_true rfl) dL_law_454 ⟨by show 40 + 3 * z + 0 ≤ 601024; omega, by show 2500 + 168 * z + 0 ≤ 7293034; omega⟩ (fun u_7 H locs hu_8 hsz1 hP hD hS => ?_)
    have hP : va_P E.1 vwCl (wAll E o ad wm st gr co hb_ (nI mo) ga ca ha_ (nI ma) (upd sd ((9 * Y) + X) (dep gr co ((9 * Y) + X))) (upd tk ((9 * Y) + X) (nI mo)) op sp rc rn wa ++ wMo E o2 ad2 th gr co sd tk wm st (nI mo) nx lb fr ++ [(oq, .inl (E.2.2.2, 1, .inr (.inl (vp_updL lo 0 ((sndR gr co sd ((9 * Y) + X)).toInt64)))))]) H := hP.sub [10, 11, 12, 13, 14, 15, 16, 17, 18, 19, 20, 21, 22, 23, 24, 25, 26, 27, 28, 29, 0, 1, 2, 3, 4, 5, 6, 7, 8, 9, 30] rfl
    have hD : va_D (lA s) (wAll E o ad wm st gr co hb_ (nI mo) ga ca ha_ (nI ma) (upd sd ((9 * Y) + X) (dep gr co ((9 * Y) + X))) (upd tk ((9 * Y) + X) (nI mo)) op sp rc rn wa ++ wMo E o2 ad2 th gr co sd tk wm st (nI mo) nx lb fr ++ [(oq, .inl (E.2.2.2, 1, .inr (.inl (vp_updL lo 0 ((sndR gr co sd ((9 * Y) + X)).toInt64)))))]) := hD.sub [10, 11, 12, 13, 14, 15, 16, 17, 18, 19, 20, 21, 22, 23, 24, 25, 26, 27, 28, 29, 0, 1, 2, 3, 4, 5, 6, 7, 8, 9, 30] (by decide) rfl
    refine W.eq (g2 := F0 m 457 ls [.int (nI 0)]) rfl ?_
    refine lv_istore (lv' := [(5, .int (nI 0)), (4, .int (nI w)), (3, .ref oq), (2, .ref o2), (1, .ref o), (0, .ref b)]) hx hb dL_law_457 hl (by decide) rfl (fun ls hl => ?_)
    refine lv_aload_n hx hb dL_law_459 rfl (lv_at hl 3 rfl) ?_
    refine lv_aload_n hx hb dL_law_460 rfl (lv_at hl 5 rfl) ?_
    refine lv_iload hx hb dL_law_461 (lv_at hl 1 rfl) ?_
    refine lv_iconst (v := nI 1) hx hb dL_law_463 (by decide +kernel) ?_
    refine lv_iadd hx hb dL_law_464 ?_
    refine e_top (nI_add _ _) ?_
    refine e_sld hXs hbl hbA hS (w + 1) (by omega) (by omega) (v := nI X) e1 hx hb dL_law_465 ?_
    refine lv_aload_n hx hb dL_law_466 rfl (lv_at hl 5 rfl) ?_
    refine lv_iload hx hb dL_law_467 (lv_at hl 1 rfl) ?_
    refine lv_iconst (v := nI 2) hx hb dL_law_469 (by decide +kernel) ?_
    refine lv_iadd hx hb dL_law_470 ?_
    refine e_top (nI_add _ _) ?_
    refine e_sld hXs hbl hbA hS (w + 2) (by omega) (by omega) (v := nI Y) e2 hx hb dL_law_471 ?_
    refine e_callV (As := [.int (nI X), .int (nI Y)]) (rest := []) ⟨hx, hb, hml, hown, hts⟩ hK hP hD hS hA hl.1 (c_X5_sound l E _ o2 ad2 th gr co sd tk wm st mo nx lb fr X Y (by first | omega | assumption | rfl | (simp_all; done)) (by first | omega | assumption | rfl | (simp_all; done))) (cwV 2 hts gL_law_X5_sound rfl rfl rfl (by decide +kernel) ⟨Nat.le_of_ble_eq_true rfl, Nat.le_of_ble_eq_true rfl⟩) [20, 21, 22, 23, 24, 25, 26, 27, 28, 29] [0, 1, 2, 3, 4, 5, 6, 7, 8, 9, 10, 11, 12, 13, 14, 15, 16, 17, 18, 19, 30] rfl rfl rfl rfl (by decide) (q0 := 20) (ci := 5) rfl rfl rfl rfl (Nat.le_of_ble_eq_true rfl) dL_law_472 ⟨by show 40 + 3 * z + 0 + 0 ≤ 601024; omega, by show 2500 + 168 * z + 0 + 0 ≤ 7293034; omega⟩ (fun u_9 H locs hu_10 hsz1 hP hD hS => ?_)
    have hP : va_P E.1 vwCl (wAll E o ad wm st gr co hb_ (nI mo) ga ca ha_ (nI ma) (upd sd ((9 * Y) + X) (dep gr co ((9 * Y) + X))) (upd tk ((9 * Y) + X) (nI mo)) op sp rc rn wa ++ wMo E o2 ad2 (nI 0) gr co (upd sd ((9 * Y) + X) (dep gr co ((9 * Y) + X))) (upd tk ((9 * Y) + X) (nI mo)) wm st (nI mo) nx lb fr ++ [(oq, .inl (E.2.2.2, 1, .inr (.inl (vp_updL lo 0 ((sndR gr co sd ((9 * Y) + X)).toInt64)))))]) H := hP.sub [0, 1, 2, 3, 4, 5, 6, 7, 8, 9, 10, 11, 12, 13, 14, 15, 16, 17, 18, 19, 21, 22, 23, 24, 25, 26, 27, 28, 29, 30, 20] rfl
    have hD : va_D (lA s) (wAll E o ad wm st gr co hb_ (nI mo) ga ca ha_ (nI ma) (upd sd ((9 * Y) + X) (dep gr co ((9 * Y) + X))) (upd tk ((9 * Y) + X) (nI mo)) op sp rc rn wa ++ wMo E o2 ad2 (nI 0) gr co (upd sd ((9 * Y) + X) (dep gr co ((9 * Y) + X))) (upd tk ((9 * Y) + X) (nI mo)) wm st (nI mo) nx lb fr ++ [(oq, .inl (E.2.2.2, 1, .inr (.inl (vp_updL lo 0 ((sndR gr co sd ((9 * Y) + X)).toInt64)))))]) := hD.sub [0, 1, 2, 3, 4, 5, 6, 7, 8, 9, 10, 11, 12, 13, 14, 15, 16, 17, 18, 19, 21, 22, 23, 24, 25, 26, 27, 28, 29, 30, 20] (by decide) rfl
    refine W.eq (g2 := F0 m 475 ls [.int (sndR gr co sd ((9 * Y) + X))]) rfl ?_
    refine lv_istore (lv' := [(6, .int (sndR gr co sd ((9 * Y) + X))), (5, .int (nI 0)), (4, .int (nI w)), (3, .ref oq), (2, .ref o2), (1, .ref o), (0, .ref b)]) hx hb dL_law_475 hl (by decide) rfl (fun ls hl => ?_)
    refine lv_aload_n hx hb dL_law_477 rfl (lv_at hl 4 rfl) ?_
    refine e_callV (As := []) (rest := []) ⟨hx, hb, hml, hown, hts⟩ hK hP hD hS hA hl.1 (c_X5_thrown l E _ o2 ad2 (nI 0) gr co (upd sd ((9 * Y) + X) (dep gr co ((9 * Y) + X))) (upd tk ((9 * Y) + X) (nI mo)) wm st mo nx lb fr) (cwV 0 hts gL_law_X5_thrown rfl rfl rfl (by decide +kernel) ⟨Nat.le_of_ble_eq_true rfl, Nat.le_of_ble_eq_true rfl⟩) [20, 21, 22, 23, 24, 25, 26, 27, 28, 29] [0, 1, 2, 3, 4, 5, 6, 7, 8, 9, 10, 11, 12, 13, 14, 15, 16, 17, 18, 19, 30] rfl rfl rfl rfl (by decide) (q0 := 20) (ci := 5) rfl rfl rfl rfl (Nat.le_of_ble_eq_true rfl) dL_law_478 ⟨by show 40 + 3 * z + 0 + 0 + 0 ≤ 601024; omega, by show 2500 + 168 * z + 0 + 0 + 0 ≤ 7293034; omega⟩ (fun u_11 H locs hu_12 hsz1 hP hD hS => ?_)
    have hP : va_P E.1 vwCl (wAll E o ad wm st gr co hb_ (nI mo) ga ca ha_ (nI ma) (upd sd ((9 * Y) + X) (dep gr co ((9 * Y) + X))) (upd tk ((9 * Y) + X) (nI mo)) op sp rc rn wa ++ wMo E o2 ad2 (nI 0) gr co (upd sd ((9 * Y) + X) (dep gr co ((9 * Y) + X))) (upd tk ((9 * Y) + X) (nI mo)) wm st (nI mo) nx lb fr ++ [(oq, .inl (E.2.2.2, 1, .inr (.inl (vp_updL lo 0 ((sndR gr co sd ((9 * Y) + X)).toInt64)))))]) H := hP.sub [0, 1, 2, 3, 4, 5, 6, 7, 8, 9, 10, 11, 12, 13, 14, 15, 16, 17, 18, 19, 21, 22, 23, 24, 25, 26, 27, 28, 29, 30, 20] rfl
    have hD : va_D (lA s) (wAll E o ad wm st gr co hb_ (nI mo) ga ca ha_ (nI ma) (upd sd ((9 * Y) + X) (dep gr co ((9 * Y) + X))) (upd tk ((9 * Y) + X) (nI mo)) op sp rc rn wa ++ wMo E o2 ad2 (nI 0) gr co (upd sd ((9 * Y) + X) (dep gr co ((9 * Y) + X))) (upd tk ((9 * Y) + X) (nI mo)) wm st (nI mo) nx lb fr ++ [(oq, .inl (E.2.2.2, 1, .inr (.inl (vp_updL lo 0 ((sndR gr co sd ((9 * Y) + X)).toInt64)))))]) := hD.sub [0, 1, 2, 3, 4, 5, 6, 7, 8, 9, 10, 11, 12, 13, 14, 15, 16, 17, 18, 19, 21, 22, 23, 24, 25, 26, 27, 28, 29, 30, 20] (by decide) rfl
    refine W.eq (g2 := F0 m 481 ls [.int (nI 0)]) rfl ?_
    refine lv_iload hx hb dL_law_481 (lv_at hl 1 rfl) ?_
    refine n_icmp_eq (x := 0) (y := 0) (by omega) (by omega) (tgt := 488) hx hb dL_law_483 (by decide) (fun c483 => ?_) (fun c483 => absurd rfl c483)
    refine lv_iload hx hb dL_law_488 (lv_at hl 1 rfl) ?_
    refine n_if_ne (x := 0) (by omega) (tgt := 505) hx hb dL_law_490 (by decide) (fun c490 => (by omega)) (fun c490 => ?_)
    refine lv_aload_n hx hb dL_law_493 rfl (lv_at hl 3 rfl) ?_
    refine lv_iconst (v := nI 0) hx hb dL_law_494 (by decide +kernel) ?_
    refine e_lald hK hP 30 rfl 0 (by omega) (by decide) hx hb dL_law_495 ?_
    refine lv_iload hx hb dL_law_496 (lv_at hl 0 rfl) ?_
    refine lv_i2l hx hb dL_law_498 rfl ?_
    refine W.lcmp hx hb dL_law_499 ?_
    refine e_top (y := nI 0) (show lg_cmp ((vp_updL lo 0 ((sndR gr co sd ((9 * Y) + X)).toInt64)) 0) ((sndR gr co sd ((9 * Y) + X)).toInt64) = nI 0 from (lg_cmp_eq _ _).mpr rfl) ?_
    refine n_if_eq (x := 0) (by omega) (tgt := 505) hx hb dL_law_500 (by decide) (fun c500 => ?_) (fun c500 => (by omega))
    refine lv_goto (tgt := 1129) hx hb dL_law_505 (by decide) ?_
    refine lv_iinc (v := nI (w + 4)) (lv' := [(4, .int (nI (w + 4))), (6, .int (sndR gr co sd ((9 * Y) + X))), (5, .int (nI 0)), (3, .ref oq), (2, .ref o2), (1, .ref o), (0, .ref b)]) hx hb dL_law_1129 hl (k := 2) rfl (nI_add w 4) (by decide) rfl (fun ls hl => ?_)
    refine lv_goto (tgt := 23) hx hb dL_law_1132 (by decide) ?_
    exact W.widen (by show 40 + 3 * z + 0 + 0 + 0 ≤ 40 + 3 * (z + 1); omega) (by show 2500 + 168 * z + 0 + 0 + 0 ≤ 2500 + 168 * (z + 1); omega) (kk (w + 4) wm st gr co hb_ mo ga ca ha_ ma (upd sd ((9 * Y) + X) (dep gr co ((9 * Y) + X))) (upd tk ((9 * Y) + X) (nI mo)) op sp rc rn wa (nI 0) nx lb fr (vp_updL lo 0 ((sndR gr co sd ((9 * Y) + X)).toInt64)) H locs ls (by omega) (by omega) hT hR hP hD hS (lv_sub hl [0, 3, 4, 5, 6] rfl))

set_option maxHeartbeats 16000000 in
set_option maxRecDepth 100000 in
theorem k_case5 {p : Program} {e : Env} {s : State} {m : MethodId} {below : List Frame} {meth : Method} {cd : Code} (l : Launch) (hlt : l.stackTraces = false) {b L : Nat} {xs : Nat → Int32} {E : eT} (C : lC p s m cd b L xs E) {Q : State → Prop} {o : Nat} {ad : Nat → Nat} {o2 : Nat} {ad2 : Nat → Nat} {oq : Nat} (z w : Nat) (kk : lHead p l e s m below meth cd b E Q o ad o2 ad2 oq (z + 1)) (hi : w + 4 ≤ L) (wm : Nat → Int32) (st : Nat → Int32) (gr : Nat → Int32) (co : Nat → Int32) (hb_ : Nat → Bool) (mo : Nat) (ga : Nat → Int32) (ca : Nat → Int32) (ha_ : Nat → Bool) (ma : Nat) (sd : Nat → Int32) (tk : Nat → Int32) (op : Nat → Bool) (sp : Nat → Nat) (rc : Nat → Nat) (rn : Nat) (wa : Nat → Int32) (th : Int32) (nx : Nat → Int32) (lb : Nat → Option Nat) (fr : Nat → Nat) (lo : Nat → Int64) (H : Heap) (locs : List Loc) (ls : Array Slot) (hw : w = 4 * z) (hmo : mo ≤ 120 * z) (hT : Tb wm st) (hR : Rg gr co) (hP : va_P E.1 vwCl (wAll E o ad wm st gr co hb_ (nI mo) ga ca ha_ (nI ma) sd tk op sp rc rn wa ++ wMo E o2 ad2 th gr co sd tk wm st (nI mo) nx lb fr ++ [(oq, .inl (E.2.2.2, 1, .inr (.inl lo)))]) H) (hD : va_D (lA s) (wAll E o ad wm st gr co hb_ (nI mo) ga ca ha_ (nI ma) sd tk op sp rc rn wa ++ wMo E o2 ad2 th gr co sd tk wm st (nI mo) nx lb fr ++ [(oq, .inl (E.2.2.2, 1, .inr (.inl lo)))])) (hS : va_S (lA s) s.heap H locs) (hl : lv_has ls 9 [(4, .int (nI w)), (3, .ref oq), (2, .ref o2), (1, .ref o), (0, .ref b)]) : W p l e room_1 s m #[Value.ref b] below meth cd H locs (40 + 3 * z) (2500 + 168 * z) Q (F0 m 508 ls []) := by
  obtain ⟨hx, hb, hml, hown, hts, hK, hX, hXs, hbl, hL⟩ := C
  have hA : ∀ q : Nat, s.heap.size ≤ q → lA s q := fun _ h => h
  have hbA : ¬ lA s b := Nat.not_le.mpr hbl
  have hz : z ≤ 512 := by omega
  cases hc : isCellB (xs (w + 1)) (xs (w + 2)) with
  | false =>
    refine lv_aload_n hx hb dL_law_508 rfl (lv_at hl 3 rfl) ?_
    refine lv_aload_n hx hb dL_law_509 rfl (lv_at hl 4 rfl) ?_
    refine lv_iload hx hb dL_law_510 (lv_at hl 0 rfl) ?_
    refine lv_iconst (v := nI 1) hx hb dL_law_512 (by decide +kernel) ?_
    refine lv_iadd hx hb dL_law_513 ?_
    refine e_top (nI_add _ _) ?_
    refine e_sld hXs hbl hbA hS (w + 1) (by omega) (by omega) (v := xs (w + 1)) rfl hx hb dL_law_514 ?_
    refine lv_aload_n hx hb dL_law_515 rfl (lv_at hl 4 rfl) ?_
    refine lv_iload hx hb dL_law_516 (lv_at hl 0 rfl) ?_
    refine lv_iconst (v := nI 2) hx hb dL_law_518 (by decide +kernel) ?_
    refine lv_iadd hx hb dL_law_519 ?_
    refine e_top (nI_add _ _) ?_
    refine e_sld hXs hbl hbA hS (w + 2) (by omega) (by omega) (v := xs (w + 2)) rfl hx hb dL_law_520 ?_
    refine lv_aload_n hx hb dL_law_521 rfl (lv_at hl 4 rfl) ?_
    refine lv_iload hx hb dL_law_522 (lv_at hl 0 rfl) ?_
    refine lv_iconst (v := nI 3) hx hb dL_law_524 (by decide +kernel) ?_
    refine lv_iadd hx hb dL_law_525 ?_
    refine e_top (nI_add _ _) ?_
    refine e_sld hXs hbl hbA hS (w + 3) (by omega) (by omega) (v := xs (w + 3)) rfl hx hb dL_law_526 ?_
    refine lv_aload_n hx hb dL_law_527 rfl (lv_at hl 1 rfl) ?_
    refine e_callSH (As := [.ref o, .int (xs (w + 1)), .int (xs (w + 2)), .int (xs (w + 3)), .ref oq]) (rest := []) ⟨hx, hb, hml, hown, hts⟩ hK hX hP hD hS hA hl.1 (c_L_chart_b1 l hlt E _ o ad wm st gr co hb_ mo ga ca ha_ ma sd tk op sp rc rn wa (xs (w + 1)) (xs (w + 2)) (xs (w + 3)) oq lo (by first | omega | assumption | rfl | (simp_all; done))) (vx_cwSW 5 hts gL_law_L_chart rfl rfl rfl (by decide +kernel) ⟨Nat.le_of_ble_eq_true rfl, Nat.le_of_ble_eq_true rfl⟩) [0, 1, 2, 3, 4, 5, 6, 7, 8, 9, 10, 11, 12, 13, 14, 15, 16, 17, 18, 19, 30] [20, 21, 22, 23, 24, 25, 26, 27, 28, 29] rfl rfl rfl rfl (by decide) rfl rfl (Nat.le_of_ble_eq_true rfl) dL_law_528 ⟨by show 40 + 3 * z + 1 ≤ 601024; omega, by show 2500 + 168 * z + 6 ≤ 7293034; omega⟩ (fun u_1 H locs hu_2 hsz1 hP hD hS => ?_)
    have hP : va_P E.1 vwCl (wAll E o ad wm st gr co hb_ (nI mo) ga ca ha_ (nI ma) sd tk op sp rc rn wa ++ wMo E o2 ad2 th gr co sd tk wm st (nI mo) nx lb fr ++ [(oq, .inl (E.2.2.2, 1, .inr (.inl lo)))]) H := hP.sub [10, 11, 12, 13, 14, 15, 16, 17, 18, 19, 20, 21, 22, 23, 24, 25, 26, 27, 28, 29, 0, 1, 2, 3, 4, 5, 6, 7, 8, 9, 30] rfl
    have hD : va_D (lA s) (wAll E o ad wm st gr co hb_ (nI mo) ga ca ha_ (nI ma) sd tk op sp rc rn wa ++ wMo E o2 ad2 th gr co sd tk wm st (nI mo) nx lb fr ++ [(oq, .inl (E.2.2.2, 1, .inr (.inl lo)))]) := hD.sub [10, 11, 12, 13, 14, 15, 16, 17, 18, 19, 20, 21, 22, 23, 24, 25, 26, 27, 28, 29, 0, 1, 2, 3, 4, 5, 6, 7, 8, 9, 30] (by decide) rfl
    refine W.eq (g2 := F0 m 531 ls [.int (nI 1)]) rfl ?_
    refine lv_istore (lv' := [(5, .int (nI 1)), (4, .int (nI w)), (3, .ref oq), (2, .ref o2), (1, .ref o), (0, .ref b)]) hx hb dL_law_531 hl (by decide) rfl (fun ls hl => ?_)
    refine lv_aload_n hx hb dL_law_533 rfl (lv_at hl 3 rfl) ?_
    refine lv_aload_n hx hb dL_law_534 rfl (lv_at hl 5 rfl) ?_
    refine lv_iload hx hb dL_law_535 (lv_at hl 1 rfl) ?_
    refine lv_iconst (v := nI 1) hx hb dL_law_537 (by decide +kernel) ?_
    refine lv_iadd hx hb dL_law_538 ?_
    refine e_top (nI_add _ _) ?_
    refine e_sld hXs hbl hbA hS (w + 1) (by omega) (by omega) (v := xs (w + 1)) rfl hx hb dL_law_539 ?_
    refine lv_aload_n hx hb dL_law_540 rfl (lv_at hl 5 rfl) ?_
    refine lv_iload hx hb dL_law_541 (lv_at hl 1 rfl) ?_
    refine lv_iconst (v := nI 2) hx hb dL_law_543 (by decide +kernel) ?_
    refine lv_iadd hx hb dL_law_544 ?_
    refine e_top (nI_add _ _) ?_
    refine e_sld hXs hbl hbA hS (w + 2) (by omega) (by omega) (v := xs (w + 2)) rfl hx hb dL_law_545 ?_
    refine lv_aload_n hx hb dL_law_546 rfl (lv_at hl 5 rfl) ?_
    refine lv_iload hx hb dL_law_547 (lv_at hl 1 rfl) ?_
    refine lv_iconst (v := nI 3) hx hb dL_law_549 (by decide +kernel) ?_
    refine lv_iadd hx hb dL_law_550 ?_
    refine e_top (nI_add _ _) ?_
    refine e_sld hXs hbl hbA hS (w + 3) (by omega) (by omega) (v := xs (w + 3)) rfl hx hb dL_law_551 ?_
    refine e_callV (As := [.int (xs (w + 1)), .int (xs (w + 2)), .int (xs (w + 3))]) (rest := []) ⟨hx, hb, hml, hown, hts⟩ hK hP hD hS hA hl.1 (c_X5_chart_b1 l E _ o2 ad2 th gr co sd tk wm st mo nx lb fr (xs (w + 1)) (xs (w + 2)) (xs (w + 3)) (by first | omega | assumption | rfl | (simp_all; done))) (cwV 3 hts gL_law_X5_chart rfl rfl rfl (by decide +kernel) ⟨Nat.le_of_ble_eq_true rfl, Nat.le_of_ble_eq_true rfl⟩) [20, 21, 22, 23, 24, 25, 26, 27, 28, 29] [0, 1, 2, 3, 4, 5, 6, 7, 8, 9, 10, 11, 12, 13, 14, 15, 16, 17, 18, 19, 30] rfl rfl rfl rfl (by decide) (q0 := 20) (ci := 5) rfl rfl rfl rfl (Nat.le_of_ble_eq_true rfl) dL_law_552 ⟨by show 40 + 3 * z + 1 + 0 ≤ 601024; omega, by show 2500 + 168 * z + 6 + 0 ≤ 7293034; omega⟩ (fun u_3 H locs hu_4 hsz1 hP hD hS => ?_)
    have hP : va_P E.1 vwCl (wAll E o ad wm st gr co hb_ (nI mo) ga ca ha_ (nI ma) sd tk op sp rc rn wa ++ wMo E o2 ad2 (nI 1) gr co sd tk wm st (nI mo) nx lb fr ++ [(oq, .inl (E.2.2.2, 1, .inr (.inl lo)))]) H := hP.sub [0, 1, 2, 3, 4, 5, 6, 7, 8, 9, 10, 11, 12, 13, 14, 15, 16, 17, 18, 19, 21, 22, 23, 24, 25, 26, 27, 28, 29, 30, 20] rfl
    have hD : va_D (lA s) (wAll E o ad wm st gr co hb_ (nI mo) ga ca ha_ (nI ma) sd tk op sp rc rn wa ++ wMo E o2 ad2 (nI 1) gr co sd tk wm st (nI mo) nx lb fr ++ [(oq, .inl (E.2.2.2, 1, .inr (.inl lo)))]) := hD.sub [0, 1, 2, 3, 4, 5, 6, 7, 8, 9, 10, 11, 12, 13, 14, 15, 16, 17, 18, 19, 21, 22, 23, 24, 25, 26, 27, 28, 29, 30, 20] (by decide) rfl
    refine W.eq (g2 := F0 m 555 ls [.int (nI 0)]) rfl ?_
    refine lv_istore (lv' := [(6, .int (nI 0)), (5, .int (nI 1)), (4, .int (nI w)), (3, .ref oq), (2, .ref o2), (1, .ref o), (0, .ref b)]) hx hb dL_law_555 hl (by decide) rfl (fun ls hl => ?_)
    refine lv_aload_n hx hb dL_law_557 rfl (lv_at hl 4 rfl) ?_
    refine e_callV (As := []) (rest := []) ⟨hx, hb, hml, hown, hts⟩ hK hP hD hS hA hl.1 (c_X5_thrown l E _ o2 ad2 (nI 1) gr co sd tk wm st mo nx lb fr) (cwV 0 hts gL_law_X5_thrown rfl rfl rfl (by decide +kernel) ⟨Nat.le_of_ble_eq_true rfl, Nat.le_of_ble_eq_true rfl⟩) [20, 21, 22, 23, 24, 25, 26, 27, 28, 29] [0, 1, 2, 3, 4, 5, 6, 7, 8, 9, 10, 11, 12, 13, 14, 15, 16, 17, 18, 19, 30] rfl rfl rfl rfl (by decide) (q0 := 20) (ci := 5) rfl rfl rfl rfl (Nat.le_of_ble_eq_true rfl) dL_law_558 ⟨by show 40 + 3 * z + 1 + 0 + 0 ≤ 601024; omega, by show 2500 + 168 * z + 6 + 0 + 0 ≤ 7293034; omega⟩ (fun u_5 H locs hu_6 hsz1 hP hD hS => ?_)
    have hP : va_P E.1 vwCl (wAll E o ad wm st gr co hb_ (nI mo) ga ca ha_ (nI ma) sd tk op sp rc rn wa ++ wMo E o2 ad2 (nI 1) gr co sd tk wm st (nI mo) nx lb fr ++ [(oq, .inl (E.2.2.2, 1, .inr (.inl lo)))]) H := hP.sub [0, 1, 2, 3, 4, 5, 6, 7, 8, 9, 10, 11, 12, 13, 14, 15, 16, 17, 18, 19, 21, 22, 23, 24, 25, 26, 27, 28, 29, 30, 20] rfl
    have hD : va_D (lA s) (wAll E o ad wm st gr co hb_ (nI mo) ga ca ha_ (nI ma) sd tk op sp rc rn wa ++ wMo E o2 ad2 (nI 1) gr co sd tk wm st (nI mo) nx lb fr ++ [(oq, .inl (E.2.2.2, 1, .inr (.inl lo)))]) := hD.sub [0, 1, 2, 3, 4, 5, 6, 7, 8, 9, 10, 11, 12, 13, 14, 15, 16, 17, 18, 19, 21, 22, 23, 24, 25, 26, 27, 28, 29, 30, 20] (by decide) rfl
    refine W.eq (g2 := F0 m 561 ls [.int (nI 1)]) rfl ?_
    refine lv_iload hx hb dL_law_561 (lv_at hl 1 rfl) ?_
    refine n_icmp_eq (x := 1) (y := 1) (by omega) (by omega) (tgt := 568) hx hb dL_law_563 (by decide) (fun c563 => ?_) (fun c563 => absurd rfl c563)
    refine lv_iload hx hb dL_law_568 (lv_at hl 1 rfl) ?_
    refine n_if_ne (x := 1) (by omega) (tgt := 585) hx hb dL_law_570 (by decide) (fun c570 => ?_) (fun c570 => (by omega))
    refine lv_goto (tgt := 1129) hx hb dL_law_585 (by decide) ?_
    refine lv_iinc (v := nI (w + 4)) (lv' := [(4, .int (nI (w + 4))), (6, .int (nI 0)), (5, .int (nI 1)), (3, .ref oq), (2, .ref o2), (1, .ref o), (0, .ref b)]) hx hb dL_law_1129 hl (k := 2) rfl (nI_add w 4) (by decide) rfl (fun ls hl => ?_)
    refine lv_goto (tgt := 23) hx hb dL_law_1132 (by decide) ?_
    exact W.widen (by show 40 + 3 * z + 1 + 0 + 0 ≤ 40 + 3 * (z + 1); omega) (by show 2500 + 168 * z + 6 + 0 + 0 ≤ 2500 + 168 * (z + 1); omega) (kk (w + 4) wm st gr co hb_ mo ga ca ha_ ma sd tk op sp rc rn wa (nI 1) nx lb fr lo H locs ls (by omega) (by omega) hT hR hP hD hS (lv_sub hl [0, 3, 4, 5, 6] rfl))
  | true =>
    obtain ⟨X, Y, hX9, hY9, e1, e2⟩ := isCellB_nat hc
    cases hv : isInB (xs (w + 3)) (nI 0) (nI 2) with
    | false =>
      refine lv_aload_n hx hb dL_law_508 rfl (lv_at hl 3 rfl) ?_
      refine lv_aload_n hx hb dL_law_509 rfl (lv_at hl 4 rfl) ?_
      refine lv_iload hx hb dL_law_510 (lv_at hl 0 rfl) ?_
      refine lv_iconst (v := nI 1) hx hb dL_law_512 (by decide +kernel) ?_
      refine lv_iadd hx hb dL_law_513 ?_
      refine e_top (nI_add _ _) ?_
      refine e_sld hXs hbl hbA hS (w + 1) (by omega) (by omega) (v := nI X) e1 hx hb dL_law_514 ?_
      refine lv_aload_n hx hb dL_law_515 rfl (lv_at hl 4 rfl) ?_
      refine lv_iload hx hb dL_law_516 (lv_at hl 0 rfl) ?_
      refine lv_iconst (v := nI 2) hx hb dL_law_518 (by decide +kernel) ?_
      refine lv_iadd hx hb dL_law_519 ?_
      refine e_top (nI_add _ _) ?_
      refine e_sld hXs hbl hbA hS (w + 2) (by omega) (by omega) (v := nI Y) e2 hx hb dL_law_520 ?_
      refine lv_aload_n hx hb dL_law_521 rfl (lv_at hl 4 rfl) ?_
      refine lv_iload hx hb dL_law_522 (lv_at hl 0 rfl) ?_
      refine lv_iconst (v := nI 3) hx hb dL_law_524 (by decide +kernel) ?_
      refine lv_iadd hx hb dL_law_525 ?_
      refine e_top (nI_add _ _) ?_
      refine e_sld hXs hbl hbA hS (w + 3) (by omega) (by omega) (v := xs (w + 3)) rfl hx hb dL_law_526 ?_
      refine lv_aload_n hx hb dL_law_527 rfl (lv_at hl 1 rfl) ?_
      refine e_callSH (As := [.ref o, .int (nI X), .int (nI Y), .int (xs (w + 3)), .ref oq]) (rest := []) ⟨hx, hb, hml, hown, hts⟩ hK hX hP hD hS hA hl.1 (c_L_chart_b2 l hlt E _ o ad wm st gr co hb_ mo ga ca ha_ ma sd tk op sp rc rn wa X Y (xs (w + 3)) oq lo (by first | omega | assumption | rfl | (simp_all; done)) (by first | omega | assumption | rfl | (simp_all; done)) (by first | omega | assumption | rfl | (simp_all; done))) (vx_cwSW 5 hts gL_law_L_chart rfl rfl rfl (by decide +kernel) ⟨Nat.le_of_ble_eq_true rfl, Nat.le_of_ble_eq_true rfl⟩) [0, 1, 2, 3, 4, 5, 6, 7, 8, 9, 10, 11, 12, 13, 14, 15, 16, 17, 18, 19, 30] [20, 21, 22, 23, 24, 25, 26, 27, 28, 29] rfl rfl rfl rfl (by decide) rfl rfl (Nat.le_of_ble_eq_true rfl) dL_law_528 ⟨by show 40 + 3 * z + 1 ≤ 601024; omega, by show 2500 + 168 * z + 6 ≤ 7293034; omega⟩ (fun u_7 H locs hu_8 hsz1 hP hD hS => ?_)
      have hP : va_P E.1 vwCl (wAll E o ad wm st gr co hb_ (nI mo) ga ca ha_ (nI ma) sd tk op sp rc rn wa ++ wMo E o2 ad2 th gr co sd tk wm st (nI mo) nx lb fr ++ [(oq, .inl (E.2.2.2, 1, .inr (.inl lo)))]) H := hP.sub [10, 11, 12, 13, 14, 15, 16, 17, 18, 19, 20, 21, 22, 23, 24, 25, 26, 27, 28, 29, 0, 1, 2, 3, 4, 5, 6, 7, 8, 9, 30] rfl
      have hD : va_D (lA s) (wAll E o ad wm st gr co hb_ (nI mo) ga ca ha_ (nI ma) sd tk op sp rc rn wa ++ wMo E o2 ad2 th gr co sd tk wm st (nI mo) nx lb fr ++ [(oq, .inl (E.2.2.2, 1, .inr (.inl lo)))]) := hD.sub [10, 11, 12, 13, 14, 15, 16, 17, 18, 19, 20, 21, 22, 23, 24, 25, 26, 27, 28, 29, 0, 1, 2, 3, 4, 5, 6, 7, 8, 9, 30] (by decide) rfl
      refine W.eq (g2 := F0 m 531 ls [.int (nI 1)]) rfl ?_
      refine lv_istore (lv' := [(5, .int (nI 1)), (4, .int (nI w)), (3, .ref oq), (2, .ref o2), (1, .ref o), (0, .ref b)]) hx hb dL_law_531 hl (by decide) rfl (fun ls hl => ?_)
      refine lv_aload_n hx hb dL_law_533 rfl (lv_at hl 3 rfl) ?_
      refine lv_aload_n hx hb dL_law_534 rfl (lv_at hl 5 rfl) ?_
      refine lv_iload hx hb dL_law_535 (lv_at hl 1 rfl) ?_
      refine lv_iconst (v := nI 1) hx hb dL_law_537 (by decide +kernel) ?_
      refine lv_iadd hx hb dL_law_538 ?_
      refine e_top (nI_add _ _) ?_
      refine e_sld hXs hbl hbA hS (w + 1) (by omega) (by omega) (v := nI X) e1 hx hb dL_law_539 ?_
      refine lv_aload_n hx hb dL_law_540 rfl (lv_at hl 5 rfl) ?_
      refine lv_iload hx hb dL_law_541 (lv_at hl 1 rfl) ?_
      refine lv_iconst (v := nI 2) hx hb dL_law_543 (by decide +kernel) ?_
      refine lv_iadd hx hb dL_law_544 ?_
      refine e_top (nI_add _ _) ?_
      refine e_sld hXs hbl hbA hS (w + 2) (by omega) (by omega) (v := nI Y) e2 hx hb dL_law_545 ?_
      refine lv_aload_n hx hb dL_law_546 rfl (lv_at hl 5 rfl) ?_
      refine lv_iload hx hb dL_law_547 (lv_at hl 1 rfl) ?_
      refine lv_iconst (v := nI 3) hx hb dL_law_549 (by decide +kernel) ?_
      refine lv_iadd hx hb dL_law_550 ?_
      refine e_top (nI_add _ _) ?_
      refine e_sld hXs hbl hbA hS (w + 3) (by omega) (by omega) (v := xs (w + 3)) rfl hx hb dL_law_551 ?_
      refine e_callV (As := [.int (nI X), .int (nI Y), .int (xs (w + 3))]) (rest := []) ⟨hx, hb, hml, hown, hts⟩ hK hP hD hS hA hl.1 (c_X5_chart_b2 l E _ o2 ad2 th gr co sd tk wm st mo nx lb fr X Y (xs (w + 3)) (by first | omega | assumption | rfl | (simp_all; done)) (by first | omega | assumption | rfl | (simp_all; done)) (by first | omega | assumption | rfl | (simp_all; done))) (cwV 3 hts gL_law_X5_chart rfl rfl rfl (by decide +kernel) ⟨Nat.le_of_ble_eq_true rfl, Nat.le_of_ble_eq_true rfl⟩) [20, 21, 22, 23, 24, 25, 26, 27, 28, 29] [0, 1, 2, 3, 4, 5, 6, 7, 8, 9, 10, 11, 12, 13, 14, 15, 16, 17, 18, 19, 30] rfl rfl rfl rfl (by decide) (q0 := 20) (ci := 5) rfl rfl rfl rfl (Nat.le_of_ble_eq_true rfl) dL_law_552 ⟨by show 40 + 3 * z + 1 + 0 ≤ 601024; omega, by show 2500 + 168 * z + 6 + 0 ≤ 7293034; omega⟩ (fun u_9 H locs hu_10 hsz1 hP hD hS => ?_)
      have hP : va_P E.1 vwCl (wAll E o ad wm st gr co hb_ (nI mo) ga ca ha_ (nI ma) sd tk op sp rc rn wa ++ wMo E o2 ad2 (nI 1) gr co sd tk wm st (nI mo) nx lb fr ++ [(oq, .inl (E.2.2.2, 1, .inr (.inl lo)))]) H := hP.sub [0, 1, 2, 3, 4, 5, 6, 7, 8, 9, 10, 11, 12, 13, 14, 15, 16, 17, 18, 19, 21, 22, 23, 24, 25, 26, 27, 28, 29, 30, 20] rfl
      have hD : va_D (lA s) (wAll E o ad wm st gr co hb_ (nI mo) ga ca ha_ (nI ma) sd tk op sp rc rn wa ++ wMo E o2 ad2 (nI 1) gr co sd tk wm st (nI mo) nx lb fr ++ [(oq, .inl (E.2.2.2, 1, .inr (.inl lo)))]) := hD.sub [0, 1, 2, 3, 4, 5, 6, 7, 8, 9, 10, 11, 12, 13, 14, 15, 16, 17, 18, 19, 21, 22, 23, 24, 25, 26, 27, 28, 29, 30, 20] (by decide) rfl
      refine W.eq (g2 := F0 m 555 ls [.int (nI 0)]) rfl ?_
      refine lv_istore (lv' := [(6, .int (nI 0)), (5, .int (nI 1)), (4, .int (nI w)), (3, .ref oq), (2, .ref o2), (1, .ref o), (0, .ref b)]) hx hb dL_law_555 hl (by decide) rfl (fun ls hl => ?_)
      refine lv_aload_n hx hb dL_law_557 rfl (lv_at hl 4 rfl) ?_
      refine e_callV (As := []) (rest := []) ⟨hx, hb, hml, hown, hts⟩ hK hP hD hS hA hl.1 (c_X5_thrown l E _ o2 ad2 (nI 1) gr co sd tk wm st mo nx lb fr) (cwV 0 hts gL_law_X5_thrown rfl rfl rfl (by decide +kernel) ⟨Nat.le_of_ble_eq_true rfl, Nat.le_of_ble_eq_true rfl⟩) [20, 21, 22, 23, 24, 25, 26, 27, 28, 29] [0, 1, 2, 3, 4, 5, 6, 7, 8, 9, 10, 11, 12, 13, 14, 15, 16, 17, 18, 19, 30] rfl rfl rfl rfl (by decide) (q0 := 20) (ci := 5) rfl rfl rfl rfl (Nat.le_of_ble_eq_true rfl) dL_law_558 ⟨by show 40 + 3 * z + 1 + 0 + 0 ≤ 601024; omega, by show 2500 + 168 * z + 6 + 0 + 0 ≤ 7293034; omega⟩ (fun u_11 H locs hu_12 hsz1 hP hD hS => ?_)
      have hP : va_P E.1 vwCl (wAll E o ad wm st gr co hb_ (nI mo) ga ca ha_ (nI ma) sd tk op sp rc rn wa ++ wMo E o2 ad2 (nI 1) gr co sd tk wm st (nI mo) nx lb fr ++ [(oq, .inl (E.2.2.2, 1, .inr (.inl lo)))]) H := hP.sub [0, 1, 2, 3, 4, 5, 6, 7, 8, 9, 10, 11, 12, 13, 14, 15, 16, 17, 18, 19, 21, 22, 23, 24, 25, 26, 27, 28, 29, 30, 20] rfl
      have hD : va_D (lA s) (wAll E o ad wm st gr co hb_ (nI mo) ga ca ha_ (nI ma) sd tk op sp rc rn wa ++ wMo E o2 ad2 (nI 1) gr co sd tk wm st (nI mo) nx lb fr ++ [(oq, .inl (E.2.2.2, 1, .inr (.inl lo)))]) := hD.sub [0, 1, 2, 3, 4, 5, 6, 7, 8, 9, 10, 11, 12, 13, 14, 15, 16, 17, 18, 19, 21, 22, 23, 24, 25, 26, 27, 28, 29, 30, 20] (by decide) rfl
      refine W.eq (g2 := F0 m 561 ls [.int (nI 1)]) rfl ?_
      refine lv_iload hx hb dL_law_561 (lv_at hl 1 rfl) ?_
      refine n_icmp_eq (x := 1) (y := 1) (by omega) (by omega) (tgt := 568) hx hb dL_law_563 (by decide) (fun c563 => ?_) (fun c563 => absurd rfl c563)
      refine lv_iload hx hb dL_law_568 (lv_at hl 1 rfl) ?_
      refine n_if_ne (x := 1) (by omega) (tgt := 585) hx hb dL_law_570 (by decide) (fun c570 => ?_) (fun c570 => (by omega))
      refine lv_goto (tgt := 1129) hx hb dL_law_585 (by decide) ?_
      refine lv_iinc (v := nI (w + 4)) (lv' := [(4, .int (nI (w + 4))), (6, .int (nI 0)), (5, .int (nI 1)), (3, .ref oq), (2, .ref o2), (1, .ref o), (0, .ref b)]) hx hb dL_law_1129 hl (k := 2) rfl (nI_add w 4) (by decide) rfl (fun ls hl => ?_)
      refine lv_goto (tgt := 23) hx hb dL_law_1132 (by decide) ?_
      exact W.widen (by show 40 + 3 * z + 1 + 0 + 0 ≤ 40 + 3 * (z + 1); omega) (by show 2500 + 168 * z + 6 + 0 + 0 ≤ 2500 + 168 * (z + 1); omega) (kk (w + 4) wm st gr co hb_ mo ga ca ha_ ma sd tk op sp rc rn wa (nI 1) nx lb fr lo H locs ls (by omega) (by omega) hT hR hP hD hS (lv_sub hl [0, 3, 4, 5, 6] rfl))
    | true =>
      obtain ⟨k, hv1, hv2, e3⟩ := isInB_nat (by decide) hv (by decide)
      refine lv_aload_n hx hb dL_law_508 rfl (lv_at hl 3 rfl) ?_
      refine lv_aload_n hx hb dL_law_509 rfl (lv_at hl 4 rfl) ?_
      refine lv_iload hx hb dL_law_510 (lv_at hl 0 rfl) ?_
      refine lv_iconst (v := nI 1) hx hb dL_law_512 (by decide +kernel) ?_
      refine lv_iadd hx hb dL_law_513 ?_
      refine e_top (nI_add _ _) ?_
      refine e_sld hXs hbl hbA hS (w + 1) (by omega) (by omega) (v := nI X) e1 hx hb dL_law_514 ?_
      refine lv_aload_n hx hb dL_law_515 rfl (lv_at hl 4 rfl) ?_
      refine lv_iload hx hb dL_law_516 (lv_at hl 0 rfl) ?_
      refine lv_iconst (v := nI 2) hx hb dL_law_518 (by decide +kernel) ?_
      refine lv_iadd hx hb dL_law_519 ?_
      refine e_top (nI_add _ _) ?_
      refine e_sld hXs hbl hbA hS (w + 2) (by omega) (by omega) (v := nI Y) e2 hx hb dL_law_520 ?_
      refine lv_aload_n hx hb dL_law_521 rfl (lv_at hl 4 rfl) ?_
      refine lv_iload hx hb dL_law_522 (lv_at hl 0 rfl) ?_
      refine lv_iconst (v := nI 3) hx hb dL_law_524 (by decide +kernel) ?_
      refine lv_iadd hx hb dL_law_525 ?_
      refine e_top (nI_add _ _) ?_
      refine e_sld hXs hbl hbA hS (w + 3) (by omega) (by omega) (v := nI k) e3 hx hb dL_law_526 ?_
      refine lv_aload_n hx hb dL_law_527 rfl (lv_at hl 1 rfl) ?_
      refine e_callSH (As := [.ref o, .int (nI X), .int (nI Y), .int (nI k), .ref oq]) (rest := []) ⟨hx, hb, hml, hown, hts⟩ hK hX hP hD hS hA hl.1 (c_L_chart l hlt E _ o ad wm st gr co hb_ mo ga ca ha_ ma sd tk op sp rc rn wa X Y k oq lo (by first | omega | assumption | rfl | (simp_all; done)) (by first | omega | assumption | rfl | (simp_all; done)) (by first | omega | assumption | rfl | (simp_all; done))) (vx_cwSW 5 hts gL_law_L_chart rfl rfl rfl (by decide +kernel) ⟨Nat.le_of_ble_eq_true rfl, Nat.le_of_ble_eq_true rfl⟩) [0, 1, 2, 3, 4, 5, 6, 7, 8, 9, 10, 11, 12, 13, 14, 15, 16, 17, 18, 19, 30] [20, 21, 22, 23, 24, 25, 26, 27, 28, 29] rfl rfl rfl rfl (by decide) rfl rfl (Nat.le_of_ble_eq_true rfl) dL_law_528 ⟨by show 40 + 3 * z + 0 ≤ 601024; omega, by show 2500 + 168 * z + 0 ≤ 7293034; omega⟩ (fun u_13 H locs hu_14 hsz1 hP hD hS => ?_)
      have hP : va_P E.1 vwCl (wAll E o ad wm st gr co hb_ (nI mo) ga ca ha_ (nI ma) sd tk op sp rc rn wa ++ wMo E o2 ad2 th gr co sd tk wm st (nI mo) nx lb fr ++ [(oq, .inl (E.2.2.2, 1, .inr (.inl (vp_updL lo 0 ((chA sd tk (nI mo) ((9 * Y) + X) k).toInt64)))))]) H := hP.sub [10, 11, 12, 13, 14, 15, 16, 17, 18, 19, 20, 21, 22, 23, 24, 25, 26, 27, 28, 29, 0, 1, 2, 3, 4, 5, 6, 7, 8, 9, 30] rfl
      have hD : va_D (lA s) (wAll E o ad wm st gr co hb_ (nI mo) ga ca ha_ (nI ma) sd tk op sp rc rn wa ++ wMo E o2 ad2 th gr co sd tk wm st (nI mo) nx lb fr ++ [(oq, .inl (E.2.2.2, 1, .inr (.inl (vp_updL lo 0 ((chA sd tk (nI mo) ((9 * Y) + X) k).toInt64)))))]) := hD.sub [10, 11, 12, 13, 14, 15, 16, 17, 18, 19, 20, 21, 22, 23, 24, 25, 26, 27, 28, 29, 0, 1, 2, 3, 4, 5, 6, 7, 8, 9, 30] (by decide) rfl
      refine W.eq (g2 := F0 m 531 ls [.int (nI 0)]) rfl ?_
      refine lv_istore (lv' := [(5, .int (nI 0)), (4, .int (nI w)), (3, .ref oq), (2, .ref o2), (1, .ref o), (0, .ref b)]) hx hb dL_law_531 hl (by decide) rfl (fun ls hl => ?_)
      refine lv_aload_n hx hb dL_law_533 rfl (lv_at hl 3 rfl) ?_
      refine lv_aload_n hx hb dL_law_534 rfl (lv_at hl 5 rfl) ?_
      refine lv_iload hx hb dL_law_535 (lv_at hl 1 rfl) ?_
      refine lv_iconst (v := nI 1) hx hb dL_law_537 (by decide +kernel) ?_
      refine lv_iadd hx hb dL_law_538 ?_
      refine e_top (nI_add _ _) ?_
      refine e_sld hXs hbl hbA hS (w + 1) (by omega) (by omega) (v := nI X) e1 hx hb dL_law_539 ?_
      refine lv_aload_n hx hb dL_law_540 rfl (lv_at hl 5 rfl) ?_
      refine lv_iload hx hb dL_law_541 (lv_at hl 1 rfl) ?_
      refine lv_iconst (v := nI 2) hx hb dL_law_543 (by decide +kernel) ?_
      refine lv_iadd hx hb dL_law_544 ?_
      refine e_top (nI_add _ _) ?_
      refine e_sld hXs hbl hbA hS (w + 2) (by omega) (by omega) (v := nI Y) e2 hx hb dL_law_545 ?_
      refine lv_aload_n hx hb dL_law_546 rfl (lv_at hl 5 rfl) ?_
      refine lv_iload hx hb dL_law_547 (lv_at hl 1 rfl) ?_
      refine lv_iconst (v := nI 3) hx hb dL_law_549 (by decide +kernel) ?_
      refine lv_iadd hx hb dL_law_550 ?_
      refine e_top (nI_add _ _) ?_
      refine e_sld hXs hbl hbA hS (w + 3) (by omega) (by omega) (v := nI k) e3 hx hb dL_law_551 ?_
      refine e_callV (As := [.int (nI X), .int (nI Y), .int (nI k)]) (rest := []) ⟨hx, hb, hml, hown, hts⟩ hK hP hD hS hA hl.1 (c_X5_chart l E _ o2 ad2 th gr co sd tk wm st mo nx lb fr X Y k (by first | omega | assumption | rfl | (simp_all; done)) (by first | omega | assumption | rfl | (simp_all; done)) (by first | omega | assumption | rfl | (simp_all; done))) (cwV 3 hts gL_law_X5_chart rfl rfl rfl (by decide +kernel) ⟨Nat.le_of_ble_eq_true rfl, Nat.le_of_ble_eq_true rfl⟩) [20, 21, 22, 23, 24, 25, 26, 27, 28, 29] [0, 1, 2, 3, 4, 5, 6, 7, 8, 9, 10, 11, 12, 13, 14, 15, 16, 17, 18, 19, 30] rfl rfl rfl rfl (by decide) (q0 := 20) (ci := 5) rfl rfl rfl rfl (Nat.le_of_ble_eq_true rfl) dL_law_552 ⟨by show 40 + 3 * z + 0 + 0 ≤ 601024; omega, by show 2500 + 168 * z + 0 + 0 ≤ 7293034; omega⟩ (fun u_15 H locs hu_16 hsz1 hP hD hS => ?_)
      have hP : va_P E.1 vwCl (wAll E o ad wm st gr co hb_ (nI mo) ga ca ha_ (nI ma) sd tk op sp rc rn wa ++ wMo E o2 ad2 (nI 0) gr co sd tk wm st (nI mo) nx lb fr ++ [(oq, .inl (E.2.2.2, 1, .inr (.inl (vp_updL lo 0 ((chA sd tk (nI mo) ((9 * Y) + X) k).toInt64)))))]) H := hP.sub [0, 1, 2, 3, 4, 5, 6, 7, 8, 9, 10, 11, 12, 13, 14, 15, 16, 17, 18, 19, 21, 22, 23, 24, 25, 26, 27, 28, 29, 30, 20] rfl
      have hD : va_D (lA s) (wAll E o ad wm st gr co hb_ (nI mo) ga ca ha_ (nI ma) sd tk op sp rc rn wa ++ wMo E o2 ad2 (nI 0) gr co sd tk wm st (nI mo) nx lb fr ++ [(oq, .inl (E.2.2.2, 1, .inr (.inl (vp_updL lo 0 ((chA sd tk (nI mo) ((9 * Y) + X) k).toInt64)))))]) := hD.sub [0, 1, 2, 3, 4, 5, 6, 7, 8, 9, 10, 11, 12, 13, 14, 15, 16, 17, 18, 19, 21, 22, 23, 24, 25, 26, 27, 28, 29, 30, 20] (by decide) rfl
      refine W.eq (g2 := F0 m 555 ls [.int (chA sd tk (nI mo) ((9 * Y) + X) k)]) rfl ?_
      refine lv_istore (lv' := [(6, .int (chA sd tk (nI mo) ((9 * Y) + X) k)), (5, .int (nI 0)), (4, .int (nI w)), (3, .ref oq), (2, .ref o2), (1, .ref o), (0, .ref b)]) hx hb dL_law_555 hl (by decide) rfl (fun ls hl => ?_)
      refine lv_aload_n hx hb dL_law_557 rfl (lv_at hl 4 rfl) ?_
      refine e_callV (As := []) (rest := []) ⟨hx, hb, hml, hown, hts⟩ hK hP hD hS hA hl.1 (c_X5_thrown l E _ o2 ad2 (nI 0) gr co sd tk wm st mo nx lb fr) (cwV 0 hts gL_law_X5_thrown rfl rfl rfl (by decide +kernel) ⟨Nat.le_of_ble_eq_true rfl, Nat.le_of_ble_eq_true rfl⟩) [20, 21, 22, 23, 24, 25, 26, 27, 28, 29] [0, 1, 2, 3, 4, 5, 6, 7, 8, 9, 10, 11, 12, 13, 14, 15, 16, 17, 18, 19, 30] rfl rfl rfl rfl (by decide) (q0 := 20) (ci := 5) rfl rfl rfl rfl (Nat.le_of_ble_eq_true rfl) dL_law_558 ⟨by show 40 + 3 * z + 0 + 0 + 0 ≤ 601024; omega, by show 2500 + 168 * z + 0 + 0 + 0 ≤ 7293034; omega⟩ (fun u_17 H locs hu_18 hsz1 hP hD hS => ?_)
      have hP : va_P E.1 vwCl (wAll E o ad wm st gr co hb_ (nI mo) ga ca ha_ (nI ma) sd tk op sp rc rn wa ++ wMo E o2 ad2 (nI 0) gr co sd tk wm st (nI mo) nx lb fr ++ [(oq, .inl (E.2.2.2, 1, .inr (.inl (vp_updL lo 0 ((chA sd tk (nI mo) ((9 * Y) + X) k).toInt64)))))]) H := hP.sub [0, 1, 2, 3, 4, 5, 6, 7, 8, 9, 10, 11, 12, 13, 14, 15, 16, 17, 18, 19, 21, 22, 23, 24, 25, 26, 27, 28, 29, 30, 20] rfl
      have hD : va_D (lA s) (wAll E o ad wm st gr co hb_ (nI mo) ga ca ha_ (nI ma) sd tk op sp rc rn wa ++ wMo E o2 ad2 (nI 0) gr co sd tk wm st (nI mo) nx lb fr ++ [(oq, .inl (E.2.2.2, 1, .inr (.inl (vp_updL lo 0 ((chA sd tk (nI mo) ((9 * Y) + X) k).toInt64)))))]) := hD.sub [0, 1, 2, 3, 4, 5, 6, 7, 8, 9, 10, 11, 12, 13, 14, 15, 16, 17, 18, 19, 21, 22, 23, 24, 25, 26, 27, 28, 29, 30, 20] (by decide) rfl
      refine W.eq (g2 := F0 m 561 ls [.int (nI 0)]) rfl ?_
      refine lv_iload hx hb dL_law_561 (lv_at hl 1 rfl) ?_
      refine n_icmp_eq (x := 0) (y := 0) (by omega) (by omega) (tgt := 568) hx hb dL_law_563 (by decide) (fun c563 => ?_) (fun c563 => absurd rfl c563)
      refine lv_iload hx hb dL_law_568 (lv_at hl 1 rfl) ?_
      refine n_if_ne (x := 0) (by omega) (tgt := 585) hx hb dL_law_570 (by decide) (fun c570 => (by omega)) (fun c570 => ?_)
      refine lv_aload_n hx hb dL_law_573 rfl (lv_at hl 3 rfl) ?_
      refine lv_iconst (v := nI 0) hx hb dL_law_574 (by decide +kernel) ?_
      refine e_lald hK hP 30 rfl 0 (by omega) (by decide) hx hb dL_law_575 ?_
      refine lv_iload hx hb dL_law_576 (lv_at hl 0 rfl) ?_
      refine lv_i2l hx hb dL_law_578 rfl ?_
      refine W.lcmp hx hb dL_law_579 ?_
      refine e_top (y := nI 0) (show lg_cmp ((vp_updL lo 0 ((chA sd tk (nI mo) ((9 * Y) + X) k).toInt64)) 0) ((chA sd tk (nI mo) ((9 * Y) + X) k).toInt64) = nI 0 from (lg_cmp_eq _ _).mpr rfl) ?_
      refine n_if_eq (x := 0) (by omega) (tgt := 585) hx hb dL_law_580 (by decide) (fun c580 => ?_) (fun c580 => (by omega))
      refine lv_goto (tgt := 1129) hx hb dL_law_585 (by decide) ?_
      refine lv_iinc (v := nI (w + 4)) (lv' := [(4, .int (nI (w + 4))), (6, .int (chA sd tk (nI mo) ((9 * Y) + X) k)), (5, .int (nI 0)), (3, .ref oq), (2, .ref o2), (1, .ref o), (0, .ref b)]) hx hb dL_law_1129 hl (k := 2) rfl (nI_add w 4) (by decide) rfl (fun ls hl => ?_)
      refine lv_goto (tgt := 23) hx hb dL_law_1132 (by decide) ?_
      exact W.widen (by show 40 + 3 * z + 0 + 0 + 0 ≤ 40 + 3 * (z + 1); omega) (by show 2500 + 168 * z + 0 + 0 + 0 ≤ 2500 + 168 * (z + 1); omega) (kk (w + 4) wm st gr co hb_ mo ga ca ha_ ma sd tk op sp rc rn wa (nI 0) nx lb fr (vp_updL lo 0 ((chA sd tk (nI mo) ((9 * Y) + X) k).toInt64)) H locs ls (by omega) (by omega) hT hR hP hD hS (lv_sub hl [0, 3, 4, 5, 6] rfl))

set_option maxHeartbeats 16000000 in
set_option maxRecDepth 100000 in
theorem k_case6 {p : Program} {e : Env} {s : State} {m : MethodId} {below : List Frame} {meth : Method} {cd : Code} (l : Launch) (hlt : l.stackTraces = false) {b L : Nat} {xs : Nat → Int32} {E : eT} (C : lC p s m cd b L xs E) {Q : State → Prop} {o : Nat} {ad : Nat → Nat} {o2 : Nat} {ad2 : Nat → Nat} {oq : Nat} (z w : Nat) (kk : lHead p l e s m below meth cd b E Q o ad o2 ad2 oq (z + 1)) (hi : w + 4 ≤ L) (wm : Nat → Int32) (st : Nat → Int32) (gr : Nat → Int32) (co : Nat → Int32) (hb_ : Nat → Bool) (mo : Nat) (ga : Nat → Int32) (ca : Nat → Int32) (ha_ : Nat → Bool) (ma : Nat) (sd : Nat → Int32) (tk : Nat → Int32) (op : Nat → Bool) (sp : Nat → Nat) (rc : Nat → Nat) (rn : Nat) (wa : Nat → Int32) (th : Int32) (nx : Nat → Int32) (lb : Nat → Option Nat) (fr : Nat → Nat) (lo : Nat → Int64) (H : Heap) (locs : List Loc) (ls : Array Slot) (hw : w = 4 * z) (hmo : mo ≤ 120 * z) (hT : Tb wm st) (hR : Rg gr co) (hP : va_P E.1 vwCl (wAll E o ad wm st gr co hb_ (nI mo) ga ca ha_ (nI ma) sd tk op sp rc rn wa ++ wMo E o2 ad2 th gr co sd tk wm st (nI mo) nx lb fr ++ [(oq, .inl (E.2.2.2, 1, .inr (.inl lo)))]) H) (hD : va_D (lA s) (wAll E o ad wm st gr co hb_ (nI mo) ga ca ha_ (nI ma) sd tk op sp rc rn wa ++ wMo E o2 ad2 th gr co sd tk wm st (nI mo) nx lb fr ++ [(oq, .inl (E.2.2.2, 1, .inr (.inl lo)))])) (hS : va_S (lA s) s.heap H locs) (hl : lv_has ls 9 [(4, .int (nI w)), (3, .ref oq), (2, .ref o2), (1, .ref o), (0, .ref b)]) : W p l e room_1 s m #[Value.ref b] below meth cd H locs (40 + 3 * z) (2500 + 168 * z) Q (F0 m 588 ls []) := by
  obtain ⟨hx, hb, hml, hown, hts, hK, hX, hXs, hbl, hL⟩ := C
  have hA : ∀ q : Nat, s.heap.size ≤ q → lA s q := fun _ h => h
  have hbA : ¬ lA s b := Nat.not_le.mpr hbl
  have hz : z ≤ 512 := by omega
  cases hdr : isInB (xs (w + 1)) (nI 0) (nI 39) with
  | false =>
    by_cases hz0 : xs (w + 2) = 0
    · refine lv_aload_n hx hb dL_law_588 rfl (lv_at hl 3 rfl) ?_
      refine lv_aload_n hx hb dL_law_589 rfl (lv_at hl 4 rfl) ?_
      refine lv_iload hx hb dL_law_590 (lv_at hl 0 rfl) ?_
      refine lv_iconst (v := nI 1) hx hb dL_law_592 (by decide +kernel) ?_
      refine lv_iadd hx hb dL_law_593 ?_
      refine e_top (nI_add _ _) ?_
      refine e_sld hXs hbl hbA hS (w + 1) (by omega) (by omega) (v := xs (w + 1)) rfl hx hb dL_law_594 ?_
      refine lv_aload_n hx hb dL_law_595 rfl (lv_at hl 4 rfl) ?_
      refine lv_iload hx hb dL_law_596 (lv_at hl 0 rfl) ?_
      refine lv_iconst (v := nI 2) hx hb dL_law_598 (by decide +kernel) ?_
      refine lv_iadd hx hb dL_law_599 ?_
      refine e_top (nI_add _ _) ?_
      refine e_sld hXs hbl hbA hS (w + 2) (by omega) (by omega) (v := xs (w + 2)) rfl hx hb dL_law_600 ?_
      refine lv_if_eq (tgt := 608) hx hb dL_law_601 (by decide) (fun c601 => ?_) (fun c601 => absurd hz0 c601)
      refine lv_iconst (v := nI 0) hx hb dL_law_608 (by decide +kernel) ?_
      refine lv_aload_n hx hb dL_law_609 rfl (lv_at hl 1 rfl) ?_
      refine e_callSH (As := [.ref o, .int (xs (w + 1)), .int (nI 0), .ref oq]) (rest := []) ⟨hx, hb, hml, hown, hts⟩ hK hX hP hD hS hA hl.1 (c_L_way_b1 l hlt E _ o ad wm st gr co hb_ mo ga ca ha_ ma sd tk op sp rc rn wa (xs (w + 1)) false oq lo (by first | omega | assumption | rfl | (simp_all; done))) (vx_cwSW 4 hts gL_law_L_way rfl rfl rfl (by decide +kernel) ⟨Nat.le_of_ble_eq_true rfl, Nat.le_of_ble_eq_true rfl⟩) [0, 1, 2, 3, 4, 5, 6, 7, 8, 9, 10, 11, 12, 13, 14, 15, 16, 17, 18, 19, 30] [20, 21, 22, 23, 24, 25, 26, 27, 28, 29] rfl rfl rfl rfl (by decide) rfl rfl (Nat.le_of_ble_eq_true rfl) dL_law_610 ⟨by show 40 + 3 * z + 1 ≤ 601024; omega, by show 2500 + 168 * z + 6 ≤ 7293034; omega⟩ (fun u_1 H locs hu_2 hsz1 hP hD hS => ?_)
      have hP : va_P E.1 vwCl (wAll E o ad wm st gr co hb_ (nI mo) ga ca ha_ (nI ma) sd tk op sp rc rn wa ++ wMo E o2 ad2 th gr co sd tk wm st (nI mo) nx lb fr ++ [(oq, .inl (E.2.2.2, 1, .inr (.inl lo)))]) H := hP.sub [10, 11, 12, 13, 14, 15, 16, 17, 18, 19, 20, 21, 22, 23, 24, 25, 26, 27, 28, 29, 0, 1, 2, 3, 4, 5, 6, 7, 8, 9, 30] rfl
      have hD : va_D (lA s) (wAll E o ad wm st gr co hb_ (nI mo) ga ca ha_ (nI ma) sd tk op sp rc rn wa ++ wMo E o2 ad2 th gr co sd tk wm st (nI mo) nx lb fr ++ [(oq, .inl (E.2.2.2, 1, .inr (.inl lo)))]) := hD.sub [10, 11, 12, 13, 14, 15, 16, 17, 18, 19, 20, 21, 22, 23, 24, 25, 26, 27, 28, 29, 0, 1, 2, 3, 4, 5, 6, 7, 8, 9, 30] (by decide) rfl
      refine W.eq (g2 := F0 m 613 ls [.int (nI 1)]) rfl ?_
      refine lv_istore (lv' := [(5, .int (nI 1)), (4, .int (nI w)), (3, .ref oq), (2, .ref o2), (1, .ref o), (0, .ref b)]) hx hb dL_law_613 hl (by decide) rfl (fun ls hl => ?_)
      refine lv_aload_n hx hb dL_law_615 rfl (lv_at hl 3 rfl) ?_
      refine lv_aload_n hx hb dL_law_616 rfl (lv_at hl 5 rfl) ?_
      refine lv_iload hx hb dL_law_617 (lv_at hl 1 rfl) ?_
      refine lv_iconst (v := nI 1) hx hb dL_law_619 (by decide +kernel) ?_
      refine lv_iadd hx hb dL_law_620 ?_
      refine e_top (nI_add _ _) ?_
      refine e_sld hXs hbl hbA hS (w + 1) (by omega) (by omega) (v := xs (w + 1)) rfl hx hb dL_law_621 ?_
      refine lv_aload_n hx hb dL_law_622 rfl (lv_at hl 5 rfl) ?_
      refine lv_iload hx hb dL_law_623 (lv_at hl 1 rfl) ?_
      refine lv_iconst (v := nI 2) hx hb dL_law_625 (by decide +kernel) ?_
      refine lv_iadd hx hb dL_law_626 ?_
      refine e_top (nI_add _ _) ?_
      refine e_sld hXs hbl hbA hS (w + 2) (by omega) (by omega) (v := xs (w + 2)) rfl hx hb dL_law_627 ?_
      refine lv_if_eq (tgt := 635) hx hb dL_law_628 (by decide) (fun c628 => ?_) (fun c628 => absurd hz0 c628)
      refine lv_iconst (v := nI 0) hx hb dL_law_635 (by decide +kernel) ?_
      refine e_callV (As := [.int (xs (w + 1)), .int (nI 0)]) (rest := []) ⟨hx, hb, hml, hown, hts⟩ hK hP hD hS hA hl.1 (c_X5_way_b1 l E _ o2 ad2 th gr co sd tk wm st mo nx lb fr (xs (w + 1)) false (by first | omega | assumption | rfl | (simp_all; done))) (cwV 2 hts gL_law_X5_way rfl rfl rfl (by decide +kernel) ⟨Nat.le_of_ble_eq_true rfl, Nat.le_of_ble_eq_true rfl⟩) [20, 21, 22, 23, 24, 25, 26, 27, 28, 29] [0, 1, 2, 3, 4, 5, 6, 7, 8, 9, 10, 11, 12, 13, 14, 15, 16, 17, 18, 19, 30] rfl rfl rfl rfl (by decide) (q0 := 20) (ci := 5) rfl rfl rfl rfl (Nat.le_of_ble_eq_true rfl) dL_law_636 ⟨by show 40 + 3 * z + 1 + 0 ≤ 601024; omega, by show 2500 + 168 * z + 6 + 0 ≤ 7293034; omega⟩ (fun u_3 H locs hu_4 hsz1 hP hD hS => ?_)
      have hP : va_P E.1 vwCl (wAll E o ad wm st gr co hb_ (nI mo) ga ca ha_ (nI ma) sd tk op sp rc rn wa ++ wMo E o2 ad2 (nI 1) gr co sd tk wm st (nI mo) nx lb fr ++ [(oq, .inl (E.2.2.2, 1, .inr (.inl lo)))]) H := hP.sub [0, 1, 2, 3, 4, 5, 6, 7, 8, 9, 10, 11, 12, 13, 14, 15, 16, 17, 18, 19, 21, 22, 23, 24, 25, 26, 27, 28, 29, 30, 20] rfl
      have hD : va_D (lA s) (wAll E o ad wm st gr co hb_ (nI mo) ga ca ha_ (nI ma) sd tk op sp rc rn wa ++ wMo E o2 ad2 (nI 1) gr co sd tk wm st (nI mo) nx lb fr ++ [(oq, .inl (E.2.2.2, 1, .inr (.inl lo)))]) := hD.sub [0, 1, 2, 3, 4, 5, 6, 7, 8, 9, 10, 11, 12, 13, 14, 15, 16, 17, 18, 19, 21, 22, 23, 24, 25, 26, 27, 28, 29, 30, 20] (by decide) rfl
      refine W.eq (g2 := F0 m 639 ls [.int (nI 0)]) rfl ?_
      refine lv_istore (lv' := [(6, .int (nI 0)), (5, .int (nI 1)), (4, .int (nI w)), (3, .ref oq), (2, .ref o2), (1, .ref o), (0, .ref b)]) hx hb dL_law_639 hl (by decide) rfl (fun ls hl => ?_)
      refine lv_aload_n hx hb dL_law_641 rfl (lv_at hl 4 rfl) ?_
      refine e_callV (As := []) (rest := []) ⟨hx, hb, hml, hown, hts⟩ hK hP hD hS hA hl.1 (c_X5_thrown l E _ o2 ad2 (nI 1) gr co sd tk wm st mo nx lb fr) (cwV 0 hts gL_law_X5_thrown rfl rfl rfl (by decide +kernel) ⟨Nat.le_of_ble_eq_true rfl, Nat.le_of_ble_eq_true rfl⟩) [20, 21, 22, 23, 24, 25, 26, 27, 28, 29] [0, 1, 2, 3, 4, 5, 6, 7, 8, 9, 10, 11, 12, 13, 14, 15, 16, 17, 18, 19, 30] rfl rfl rfl rfl (by decide) (q0 := 20) (ci := 5) rfl rfl rfl rfl (Nat.le_of_ble_eq_true rfl) dL_law_642 ⟨by show 40 + 3 * z + 1 + 0 + 0 ≤ 601024; omega, by show 2500 + 168 * z + 6 + 0 + 0 ≤ 7293034; omega⟩ (fun u_5 H locs hu_6 hsz1 hP hD hS => ?_)
      have hP : va_P E.1 vwCl (wAll E o ad wm st gr co hb_ (nI mo) ga ca ha_ (nI ma) sd tk op sp rc rn wa ++ wMo E o2 ad2 (nI 1) gr co sd tk wm st (nI mo) nx lb fr ++ [(oq, .inl (E.2.2.2, 1, .inr (.inl lo)))]) H := hP.sub [0, 1, 2, 3, 4, 5, 6, 7, 8, 9, 10, 11, 12, 13, 14, 15, 16, 17, 18, 19, 21, 22, 23, 24, 25, 26, 27, 28, 29, 30, 20] rfl
      have hD : va_D (lA s) (wAll E o ad wm st gr co hb_ (nI mo) ga ca ha_ (nI ma) sd tk op sp rc rn wa ++ wMo E o2 ad2 (nI 1) gr co sd tk wm st (nI mo) nx lb fr ++ [(oq, .inl (E.2.2.2, 1, .inr (.inl lo)))]) := hD.sub [0, 1, 2, 3, 4, 5, 6, 7, 8, 9, 10, 11, 12, 13, 14, 15, 16, 17, 18, 19, 21, 22, 23, 24, 25, 26, 27, 28, 29, 30, 20] (by decide) rfl
      refine W.eq (g2 := F0 m 645 ls [.int (nI 1)]) rfl ?_
      refine lv_iload hx hb dL_law_645 (lv_at hl 1 rfl) ?_
      refine n_icmp_eq (x := 1) (y := 1) (by omega) (by omega) (tgt := 652) hx hb dL_law_647 (by decide) (fun c647 => ?_) (fun c647 => absurd rfl c647)
      refine lv_iload hx hb dL_law_652 (lv_at hl 1 rfl) ?_
      refine n_if_ne (x := 1) (by omega) (tgt := 669) hx hb dL_law_654 (by decide) (fun c654 => ?_) (fun c654 => (by omega))
      refine lv_goto (tgt := 1129) hx hb dL_law_669 (by decide) ?_
      refine lv_iinc (v := nI (w + 4)) (lv' := [(4, .int (nI (w + 4))), (6, .int (nI 0)), (5, .int (nI 1)), (3, .ref oq), (2, .ref o2), (1, .ref o), (0, .ref b)]) hx hb dL_law_1129 hl (k := 2) rfl (nI_add w 4) (by decide) rfl (fun ls hl => ?_)
      refine lv_goto (tgt := 23) hx hb dL_law_1132 (by decide) ?_
      exact W.widen (by show 40 + 3 * z + 1 + 0 + 0 ≤ 40 + 3 * (z + 1); omega) (by show 2500 + 168 * z + 6 + 0 + 0 ≤ 2500 + 168 * (z + 1); omega) (kk (w + 4) wm st gr co hb_ mo ga ca ha_ ma sd tk op sp rc rn wa (nI 1) nx lb fr lo H locs ls (by omega) (by omega) hT hR hP hD hS (lv_sub hl [0, 3, 4, 5, 6] rfl))
    · refine lv_aload_n hx hb dL_law_588 rfl (lv_at hl 3 rfl) ?_
      refine lv_aload_n hx hb dL_law_589 rfl (lv_at hl 4 rfl) ?_
      refine lv_iload hx hb dL_law_590 (lv_at hl 0 rfl) ?_
      refine lv_iconst (v := nI 1) hx hb dL_law_592 (by decide +kernel) ?_
      refine lv_iadd hx hb dL_law_593 ?_
      refine e_top (nI_add _ _) ?_
      refine e_sld hXs hbl hbA hS (w + 1) (by omega) (by omega) (v := xs (w + 1)) rfl hx hb dL_law_594 ?_
      refine lv_aload_n hx hb dL_law_595 rfl (lv_at hl 4 rfl) ?_
      refine lv_iload hx hb dL_law_596 (lv_at hl 0 rfl) ?_
      refine lv_iconst (v := nI 2) hx hb dL_law_598 (by decide +kernel) ?_
      refine lv_iadd hx hb dL_law_599 ?_
      refine e_top (nI_add _ _) ?_
      refine e_sld hXs hbl hbA hS (w + 2) (by omega) (by omega) (v := xs (w + 2)) rfl hx hb dL_law_600 ?_
      refine lv_if_eq (tgt := 608) hx hb dL_law_601 (by decide) (fun c601 => absurd c601 hz0) (fun c601 => ?_)
      refine lv_iconst (v := nI 1) hx hb dL_law_604 (by decide +kernel) ?_
      refine lv_goto (tgt := 609) hx hb dL_law_605 (by decide) ?_
      refine lv_aload_n hx hb dL_law_609 rfl (lv_at hl 1 rfl) ?_
      refine e_callSH (As := [.ref o, .int (xs (w + 1)), .int (nI 1), .ref oq]) (rest := []) ⟨hx, hb, hml, hown, hts⟩ hK hX hP hD hS hA hl.1 (c_L_way_b1 l hlt E _ o ad wm st gr co hb_ mo ga ca ha_ ma sd tk op sp rc rn wa (xs (w + 1)) true oq lo (by first | omega | assumption | rfl | (simp_all; done))) (vx_cwSW 4 hts gL_law_L_way rfl rfl rfl (by decide +kernel) ⟨Nat.le_of_ble_eq_true rfl, Nat.le_of_ble_eq_true rfl⟩) [0, 1, 2, 3, 4, 5, 6, 7, 8, 9, 10, 11, 12, 13, 14, 15, 16, 17, 18, 19, 30] [20, 21, 22, 23, 24, 25, 26, 27, 28, 29] rfl rfl rfl rfl (by decide) rfl rfl (Nat.le_of_ble_eq_true rfl) dL_law_610 ⟨by show 40 + 3 * z + 1 ≤ 601024; omega, by show 2500 + 168 * z + 6 ≤ 7293034; omega⟩ (fun u_7 H locs hu_8 hsz1 hP hD hS => ?_)
      have hP : va_P E.1 vwCl (wAll E o ad wm st gr co hb_ (nI mo) ga ca ha_ (nI ma) sd tk op sp rc rn wa ++ wMo E o2 ad2 th gr co sd tk wm st (nI mo) nx lb fr ++ [(oq, .inl (E.2.2.2, 1, .inr (.inl lo)))]) H := hP.sub [10, 11, 12, 13, 14, 15, 16, 17, 18, 19, 20, 21, 22, 23, 24, 25, 26, 27, 28, 29, 0, 1, 2, 3, 4, 5, 6, 7, 8, 9, 30] rfl
      have hD : va_D (lA s) (wAll E o ad wm st gr co hb_ (nI mo) ga ca ha_ (nI ma) sd tk op sp rc rn wa ++ wMo E o2 ad2 th gr co sd tk wm st (nI mo) nx lb fr ++ [(oq, .inl (E.2.2.2, 1, .inr (.inl lo)))]) := hD.sub [10, 11, 12, 13, 14, 15, 16, 17, 18, 19, 20, 21, 22, 23, 24, 25, 26, 27, 28, 29, 0, 1, 2, 3, 4, 5, 6, 7, 8, 9, 30] (by decide) rfl
      refine W.eq (g2 := F0 m 613 ls [.int (nI 1)]) rfl ?_
      refine lv_istore (lv' := [(5, .int (nI 1)), (4, .int (nI w)), (3, .ref oq), (2, .ref o2), (1, .ref o), (0, .ref b)]) hx hb dL_law_613 hl (by decide) rfl (fun ls hl => ?_)
      refine lv_aload_n hx hb dL_law_615 rfl (lv_at hl 3 rfl) ?_
      refine lv_aload_n hx hb dL_law_616 rfl (lv_at hl 5 rfl) ?_
      refine lv_iload hx hb dL_law_617 (lv_at hl 1 rfl) ?_
      refine lv_iconst (v := nI 1) hx hb dL_law_619 (by decide +kernel) ?_
      refine lv_iadd hx hb dL_law_620 ?_
      refine e_top (nI_add _ _) ?_
      refine e_sld hXs hbl hbA hS (w + 1) (by omega) (by omega) (v := xs (w + 1)) rfl hx hb dL_law_621 ?_
      refine lv_aload_n hx hb dL_law_622 rfl (lv_at hl 5 rfl) ?_
      refine lv_iload hx hb dL_law_623 (lv_at hl 1 rfl) ?_
      refine lv_iconst (v := nI 2) hx hb dL_law_625 (by decide +kernel) ?_
      refine lv_iadd hx hb dL_law_626 ?_
      refine e_top (nI_add _ _) ?_
      refine e_sld hXs hbl hbA hS (w + 2) (by omega) (by omega) (v := xs (w + 2)) rfl hx hb dL_law_627 ?_
      refine lv_if_eq (tgt := 635) hx hb dL_law_628 (by decide) (fun c628 => absurd c628 hz0) (fun c628 => ?_)
      refine lv_iconst (v := nI 1) hx hb dL_law_631 (by decide +kernel) ?_
      refine lv_goto (tgt := 636) hx hb dL_law_632 (by decide) ?_
      refine e_callV (As := [.int (xs (w + 1)), .int (nI 1)]) (rest := []) ⟨hx, hb, hml, hown, hts⟩ hK hP hD hS hA hl.1 (c_X5_way_b1 l E _ o2 ad2 th gr co sd tk wm st mo nx lb fr (xs (w + 1)) true (by first | omega | assumption | rfl | (simp_all; done))) (cwV 2 hts gL_law_X5_way rfl rfl rfl (by decide +kernel) ⟨Nat.le_of_ble_eq_true rfl, Nat.le_of_ble_eq_true rfl⟩) [20, 21, 22, 23, 24, 25, 26, 27, 28, 29] [0, 1, 2, 3, 4, 5, 6, 7, 8, 9, 10, 11, 12, 13, 14, 15, 16, 17, 18, 19, 30] rfl rfl rfl rfl (by decide) (q0 := 20) (ci := 5) rfl rfl rfl rfl (Nat.le_of_ble_eq_true rfl) dL_law_636 ⟨by show 40 + 3 * z + 1 + 0 ≤ 601024; omega, by show 2500 + 168 * z + 6 + 0 ≤ 7293034; omega⟩ (fun u_9 H locs hu_10 hsz1 hP hD hS => ?_)
      have hP : va_P E.1 vwCl (wAll E o ad wm st gr co hb_ (nI mo) ga ca ha_ (nI ma) sd tk op sp rc rn wa ++ wMo E o2 ad2 (nI 1) gr co sd tk wm st (nI mo) nx lb fr ++ [(oq, .inl (E.2.2.2, 1, .inr (.inl lo)))]) H := hP.sub [0, 1, 2, 3, 4, 5, 6, 7, 8, 9, 10, 11, 12, 13, 14, 15, 16, 17, 18, 19, 21, 22, 23, 24, 25, 26, 27, 28, 29, 30, 20] rfl
      have hD : va_D (lA s) (wAll E o ad wm st gr co hb_ (nI mo) ga ca ha_ (nI ma) sd tk op sp rc rn wa ++ wMo E o2 ad2 (nI 1) gr co sd tk wm st (nI mo) nx lb fr ++ [(oq, .inl (E.2.2.2, 1, .inr (.inl lo)))]) := hD.sub [0, 1, 2, 3, 4, 5, 6, 7, 8, 9, 10, 11, 12, 13, 14, 15, 16, 17, 18, 19, 21, 22, 23, 24, 25, 26, 27, 28, 29, 30, 20] (by decide) rfl
      refine W.eq (g2 := F0 m 639 ls [.int (nI 0)]) rfl ?_
      refine lv_istore (lv' := [(6, .int (nI 0)), (5, .int (nI 1)), (4, .int (nI w)), (3, .ref oq), (2, .ref o2), (1, .ref o), (0, .ref b)]) hx hb dL_law_639 hl (by decide) rfl (fun ls hl => ?_)
      refine lv_aload_n hx hb dL_law_641 rfl (lv_at hl 4 rfl) ?_
      refine e_callV (As := []) (rest := []) ⟨hx, hb, hml, hown, hts⟩ hK hP hD hS hA hl.1 (c_X5_thrown l E _ o2 ad2 (nI 1) gr co sd tk wm st mo nx lb fr) (cwV 0 hts gL_law_X5_thrown rfl rfl rfl (by decide +kernel) ⟨Nat.le_of_ble_eq_true rfl, Nat.le_of_ble_eq_true rfl⟩) [20, 21, 22, 23, 24, 25, 26, 27, 28, 29] [0, 1, 2, 3, 4, 5, 6, 7, 8, 9, 10, 11, 12, 13, 14, 15, 16, 17, 18, 19, 30] rfl rfl rfl rfl (by decide) (q0 := 20) (ci := 5) rfl rfl rfl rfl (Nat.le_of_ble_eq_true rfl) dL_law_642 ⟨by show 40 + 3 * z + 1 + 0 + 0 ≤ 601024; omega, by show 2500 + 168 * z + 6 + 0 + 0 ≤ 7293034; omega⟩ (fun u_11 H locs hu_12 hsz1 hP hD hS => ?_)
      have hP : va_P E.1 vwCl (wAll E o ad wm st gr co hb_ (nI mo) ga ca ha_ (nI ma) sd tk op sp rc rn wa ++ wMo E o2 ad2 (nI 1) gr co sd tk wm st (nI mo) nx lb fr ++ [(oq, .inl (E.2.2.2, 1, .inr (.inl lo)))]) H := hP.sub [0, 1, 2, 3, 4, 5, 6, 7, 8, 9, 10, 11, 12, 13, 14, 15, 16, 17, 18, 19, 21, 22, 23, 24, 25, 26, 27, 28, 29, 30, 20] rfl
      have hD : va_D (lA s) (wAll E o ad wm st gr co hb_ (nI mo) ga ca ha_ (nI ma) sd tk op sp rc rn wa ++ wMo E o2 ad2 (nI 1) gr co sd tk wm st (nI mo) nx lb fr ++ [(oq, .inl (E.2.2.2, 1, .inr (.inl lo)))]) := hD.sub [0, 1, 2, 3, 4, 5, 6, 7, 8, 9, 10, 11, 12, 13, 14, 15, 16, 17, 18, 19, 21, 22, 23, 24, 25, 26, 27, 28, 29, 30, 20] (by decide) rfl
      refine W.eq (g2 := F0 m 645 ls [.int (nI 1)]) rfl ?_
      refine lv_iload hx hb dL_law_645 (lv_at hl 1 rfl) ?_
      refine n_icmp_eq (x := 1) (y := 1) (by omega) (by omega) (tgt := 652) hx hb dL_law_647 (by decide) (fun c647 => ?_) (fun c647 => absurd rfl c647)
      refine lv_iload hx hb dL_law_652 (lv_at hl 1 rfl) ?_
      refine n_if_ne (x := 1) (by omega) (tgt := 669) hx hb dL_law_654 (by decide) (fun c654 => ?_) (fun c654 => (by omega))
      refine lv_goto (tgt := 1129) hx hb dL_law_669 (by decide) ?_
      refine lv_iinc (v := nI (w + 4)) (lv' := [(4, .int (nI (w + 4))), (6, .int (nI 0)), (5, .int (nI 1)), (3, .ref oq), (2, .ref o2), (1, .ref o), (0, .ref b)]) hx hb dL_law_1129 hl (k := 2) rfl (nI_add w 4) (by decide) rfl (fun ls hl => ?_)
      refine lv_goto (tgt := 23) hx hb dL_law_1132 (by decide) ?_
      exact W.widen (by show 40 + 3 * z + 1 + 0 + 0 ≤ 40 + 3 * (z + 1); omega) (by show 2500 + 168 * z + 6 + 0 + 0 ≤ 2500 + 168 * (z + 1); omega) (kk (w + 4) wm st gr co hb_ mo ga ca ha_ ma sd tk op sp rc rn wa (nI 1) nx lb fr lo H locs ls (by omega) (by omega) hT hR hP hD hS (lv_sub hl [0, 3, 4, 5, 6] rfl))
  | true =>
    by_cases hz0 : xs (w + 2) = 0
    · refine lv_aload_n hx hb dL_law_588 rfl (lv_at hl 3 rfl) ?_
      refine lv_aload_n hx hb dL_law_589 rfl (lv_at hl 4 rfl) ?_
      refine lv_iload hx hb dL_law_590 (lv_at hl 0 rfl) ?_
      refine lv_iconst (v := nI 1) hx hb dL_law_592 (by decide +kernel) ?_
      refine lv_iadd hx hb dL_law_593 ?_
      refine e_top (nI_add _ _) ?_
      refine e_sld hXs hbl hbA hS (w + 1) (by omega) (by omega) (v := xs (w + 1)) rfl hx hb dL_law_594 ?_
      refine lv_aload_n hx hb dL_law_595 rfl (lv_at hl 4 rfl) ?_
      refine lv_iload hx hb dL_law_596 (lv_at hl 0 rfl) ?_
      refine lv_iconst (v := nI 2) hx hb dL_law_598 (by decide +kernel) ?_
      refine lv_iadd hx hb dL_law_599 ?_
      refine e_top (nI_add _ _) ?_
      refine e_sld hXs hbl hbA hS (w + 2) (by omega) (by omega) (v := xs (w + 2)) rfl hx hb dL_law_600 ?_
      refine lv_if_eq (tgt := 608) hx hb dL_law_601 (by decide) (fun c601 => ?_) (fun c601 => absurd hz0 c601)
      refine lv_iconst (v := nI 0) hx hb dL_law_608 (by decide +kernel) ?_
      refine lv_aload_n hx hb dL_law_609 rfl (lv_at hl 1 rfl) ?_
      refine e_callSH (As := [.ref o, .int (xs (w + 1)), .int (nI 0), .ref oq]) (rest := []) ⟨hx, hb, hml, hown, hts⟩ hK hX hP hD hS hA hl.1 (c_L_way l hlt E _ o ad wm st gr co hb_ mo ga ca ha_ ma sd tk op sp rc rn wa (xs (w + 1)) false oq lo (by first | omega | assumption | rfl | (simp_all; done))) (vx_cwSW 4 hts gL_law_L_way rfl rfl rfl (by decide +kernel) ⟨Nat.le_of_ble_eq_true rfl, Nat.le_of_ble_eq_true rfl⟩) [0, 1, 2, 3, 4, 5, 6, 7, 8, 9, 10, 11, 12, 13, 14, 15, 16, 17, 18, 19, 30] [20, 21, 22, 23, 24, 25, 26, 27, 28, 29] rfl rfl rfl rfl (by decide) rfl rfl (Nat.le_of_ble_eq_true rfl) dL_law_610 ⟨by show 40 + 3 * z + 0 ≤ 601024; omega, by show 2500 + 168 * z + 0 ≤ 7293034; omega⟩ (fun u_13 H locs hu_14 hsz1 hP hD hS => ?_)
      obtain ⟨op__15, sp__16, rc__17, rn__18, wa__19⟩ := u_13
      have hP : va_P E.1 vwCl (wAll E o ad wm st gr co hb_ (nI mo) ga ca ha_ (nI ma) sd tk op__15 sp__16 rc__17 rn__18 wa__19 ++ wMo E o2 ad2 th gr co sd tk wm st (nI mo) nx lb fr ++ [(oq, .inl (E.2.2.2, 1, .inr (.inl (vp_updL lo 0 ((wayN (if false = true then chSafe sd tk (nI mo) else dep gr co) (xs (w + 1))).toInt64)))))]) H := hP.sub [10, 11, 12, 13, 14, 15, 16, 17, 18, 19, 20, 21, 22, 23, 24, 25, 26, 27, 28, 29, 0, 1, 2, 3, 4, 5, 6, 7, 8, 9, 30] rfl
      have hD : va_D (lA s) (wAll E o ad wm st gr co hb_ (nI mo) ga ca ha_ (nI ma) sd tk op__15 sp__16 rc__17 rn__18 wa__19 ++ wMo E o2 ad2 th gr co sd tk wm st (nI mo) nx lb fr ++ [(oq, .inl (E.2.2.2, 1, .inr (.inl (vp_updL lo 0 ((wayN (if false = true then chSafe sd tk (nI mo) else dep gr co) (xs (w + 1))).toInt64)))))]) := hD.sub [10, 11, 12, 13, 14, 15, 16, 17, 18, 19, 20, 21, 22, 23, 24, 25, 26, 27, 28, 29, 0, 1, 2, 3, 4, 5, 6, 7, 8, 9, 30] (by decide) rfl
      refine W.eq (g2 := F0 m 613 ls [.int (nI 0)]) rfl ?_
      refine lv_istore (lv' := [(5, .int (nI 0)), (4, .int (nI w)), (3, .ref oq), (2, .ref o2), (1, .ref o), (0, .ref b)]) hx hb dL_law_613 hl (by decide) rfl (fun ls hl => ?_)
      refine lv_aload_n hx hb dL_law_615 rfl (lv_at hl 3 rfl) ?_
      refine lv_aload_n hx hb dL_law_616 rfl (lv_at hl 5 rfl) ?_
      refine lv_iload hx hb dL_law_617 (lv_at hl 1 rfl) ?_
      refine lv_iconst (v := nI 1) hx hb dL_law_619 (by decide +kernel) ?_
      refine lv_iadd hx hb dL_law_620 ?_
      refine e_top (nI_add _ _) ?_
      refine e_sld hXs hbl hbA hS (w + 1) (by omega) (by omega) (v := xs (w + 1)) rfl hx hb dL_law_621 ?_
      refine lv_aload_n hx hb dL_law_622 rfl (lv_at hl 5 rfl) ?_
      refine lv_iload hx hb dL_law_623 (lv_at hl 1 rfl) ?_
      refine lv_iconst (v := nI 2) hx hb dL_law_625 (by decide +kernel) ?_
      refine lv_iadd hx hb dL_law_626 ?_
      refine e_top (nI_add _ _) ?_
      refine e_sld hXs hbl hbA hS (w + 2) (by omega) (by omega) (v := xs (w + 2)) rfl hx hb dL_law_627 ?_
      refine lv_if_eq (tgt := 635) hx hb dL_law_628 (by decide) (fun c628 => ?_) (fun c628 => absurd hz0 c628)
      refine lv_iconst (v := nI 0) hx hb dL_law_635 (by decide +kernel) ?_
      refine e_callV (As := [.int (xs (w + 1)), .int (nI 0)]) (rest := []) ⟨hx, hb, hml, hown, hts⟩ hK hP hD hS hA hl.1 (c_X5_way l E _ o2 ad2 th gr co sd tk wm st mo nx lb fr (xs (w + 1)) false (by first | omega | assumption | rfl | (simp_all; done))) (cwV 2 hts gL_law_X5_way rfl rfl rfl (by decide +kernel) ⟨Nat.le_of_ble_eq_true rfl, Nat.le_of_ble_eq_true rfl⟩) [20, 21, 22, 23, 24, 25, 26, 27, 28, 29] [0, 1, 2, 3, 4, 5, 6, 7, 8, 9, 10, 11, 12, 13, 14, 15, 16, 17, 18, 19, 30] rfl rfl rfl rfl (by decide) (q0 := 20) (ci := 5) rfl rfl rfl rfl (Nat.le_of_ble_eq_true rfl) dL_law_636 ⟨by show 40 + 3 * z + 0 + 0 ≤ 601024; omega, by show 2500 + 168 * z + 0 + 0 ≤ 7293034; omega⟩ (fun u_20 H locs hu_21 hsz1 hP hD hS => ?_)
      obtain ⟨fr__22, rfl⟩ : ∃ z, z = u_20 := ⟨_, rfl⟩
      have hP : va_P E.1 vwCl (wAll E o ad wm st gr co hb_ (nI mo) ga ca ha_ (nI ma) sd tk op__15 sp__16 rc__17 rn__18 wa__19 ++ wMo E o2 ad2 (nI 0) gr co sd tk wm st (nI mo) nx lb fr__22 ++ [(oq, .inl (E.2.2.2, 1, .inr (.inl (vp_updL lo 0 ((wayN (if false = true then chSafe sd tk (nI mo) else dep gr co) (xs (w + 1))).toInt64)))))]) H := hP.sub [0, 1, 2, 3, 4, 5, 6, 7, 8, 9, 10, 11, 12, 13, 14, 15, 16, 17, 18, 19, 21, 22, 23, 24, 25, 26, 27, 28, 29, 30, 20] rfl
      have hD : va_D (lA s) (wAll E o ad wm st gr co hb_ (nI mo) ga ca ha_ (nI ma) sd tk op__15 sp__16 rc__17 rn__18 wa__19 ++ wMo E o2 ad2 (nI 0) gr co sd tk wm st (nI mo) nx lb fr__22 ++ [(oq, .inl (E.2.2.2, 1, .inr (.inl (vp_updL lo 0 ((wayN (if false = true then chSafe sd tk (nI mo) else dep gr co) (xs (w + 1))).toInt64)))))]) := hD.sub [0, 1, 2, 3, 4, 5, 6, 7, 8, 9, 10, 11, 12, 13, 14, 15, 16, 17, 18, 19, 21, 22, 23, 24, 25, 26, 27, 28, 29, 30, 20] (by decide) rfl
      refine W.eq (g2 := F0 m 639 ls [.int (wayN (if false = true then chSafe sd tk (nI mo) else dep gr co) (xs (w + 1)))]) rfl ?_
      refine lv_istore (lv' := [(6, .int (wayN (if false = true then chSafe sd tk (nI mo) else dep gr co) (xs (w + 1)))), (5, .int (nI 0)), (4, .int (nI w)), (3, .ref oq), (2, .ref o2), (1, .ref o), (0, .ref b)]) hx hb dL_law_639 hl (by decide) rfl (fun ls hl => ?_)
      refine lv_aload_n hx hb dL_law_641 rfl (lv_at hl 4 rfl) ?_
      refine e_callV (As := []) (rest := []) ⟨hx, hb, hml, hown, hts⟩ hK hP hD hS hA hl.1 (c_X5_thrown l E _ o2 ad2 (nI 0) gr co sd tk wm st mo nx lb fr__22) (cwV 0 hts gL_law_X5_thrown rfl rfl rfl (by decide +kernel) ⟨Nat.le_of_ble_eq_true rfl, Nat.le_of_ble_eq_true rfl⟩) [20, 21, 22, 23, 24, 25, 26, 27, 28, 29] [0, 1, 2, 3, 4, 5, 6, 7, 8, 9, 10, 11, 12, 13, 14, 15, 16, 17, 18, 19, 30] rfl rfl rfl rfl (by decide) (q0 := 20) (ci := 5) rfl rfl rfl rfl (Nat.le_of_ble_eq_true rfl) dL_law_642 ⟨by show 40 + 3 * z + 0 + 0 + 0 ≤ 601024; omega, by show 2500 + 168 * z + 0 + 0 + 0 ≤ 7293034; omega⟩ (fun u_23 H locs hu_24 hsz1 hP hD hS => ?_)
      have hP : va_P E.1 vwCl (wAll E o ad wm st gr co hb_ (nI mo) ga ca ha_ (nI ma) sd tk op__15 sp__16 rc__17 rn__18 wa__19 ++ wMo E o2 ad2 (nI 0) gr co sd tk wm st (nI mo) nx lb fr__22 ++ [(oq, .inl (E.2.2.2, 1, .inr (.inl (vp_updL lo 0 ((wayN (if false = true then chSafe sd tk (nI mo) else dep gr co) (xs (w + 1))).toInt64)))))]) H := hP.sub [0, 1, 2, 3, 4, 5, 6, 7, 8, 9, 10, 11, 12, 13, 14, 15, 16, 17, 18, 19, 21, 22, 23, 24, 25, 26, 27, 28, 29, 30, 20] rfl
      have hD : va_D (lA s) (wAll E o ad wm st gr co hb_ (nI mo) ga ca ha_ (nI ma) sd tk op__15 sp__16 rc__17 rn__18 wa__19 ++ wMo E o2 ad2 (nI 0) gr co sd tk wm st (nI mo) nx lb fr__22 ++ [(oq, .inl (E.2.2.2, 1, .inr (.inl (vp_updL lo 0 ((wayN (if false = true then chSafe sd tk (nI mo) else dep gr co) (xs (w + 1))).toInt64)))))]) := hD.sub [0, 1, 2, 3, 4, 5, 6, 7, 8, 9, 10, 11, 12, 13, 14, 15, 16, 17, 18, 19, 21, 22, 23, 24, 25, 26, 27, 28, 29, 30, 20] (by decide) rfl
      refine W.eq (g2 := F0 m 645 ls [.int (nI 0)]) rfl ?_
      refine lv_iload hx hb dL_law_645 (lv_at hl 1 rfl) ?_
      refine n_icmp_eq (x := 0) (y := 0) (by omega) (by omega) (tgt := 652) hx hb dL_law_647 (by decide) (fun c647 => ?_) (fun c647 => absurd rfl c647)
      refine lv_iload hx hb dL_law_652 (lv_at hl 1 rfl) ?_
      refine n_if_ne (x := 0) (by omega) (tgt := 669) hx hb dL_law_654 (by decide) (fun c654 => (by omega)) (fun c654 => ?_)
      refine lv_aload_n hx hb dL_law_657 rfl (lv_at hl 3 rfl) ?_
      refine lv_iconst (v := nI 0) hx hb dL_law_658 (by decide +kernel) ?_
      refine e_lald hK hP 30 rfl 0 (by omega) (by decide) hx hb dL_law_659 ?_
      refine lv_iload hx hb dL_law_660 (lv_at hl 0 rfl) ?_
      refine lv_i2l hx hb dL_law_662 rfl ?_
      refine W.lcmp hx hb dL_law_663 ?_
      refine e_top (y := nI 0) (show lg_cmp ((vp_updL lo 0 ((wayN (if false = true then chSafe sd tk (nI mo) else dep gr co) (xs (w + 1))).toInt64)) 0) ((wayN (if false = true then chSafe sd tk (nI mo) else dep gr co) (xs (w + 1))).toInt64) = nI 0 from (lg_cmp_eq _ _).mpr rfl) ?_
      refine n_if_eq (x := 0) (by omega) (tgt := 669) hx hb dL_law_664 (by decide) (fun c664 => ?_) (fun c664 => (by omega))
      refine lv_goto (tgt := 1129) hx hb dL_law_669 (by decide) ?_
      refine lv_iinc (v := nI (w + 4)) (lv' := [(4, .int (nI (w + 4))), (6, .int (wayN (if false = true then chSafe sd tk (nI mo) else dep gr co) (xs (w + 1)))), (5, .int (nI 0)), (3, .ref oq), (2, .ref o2), (1, .ref o), (0, .ref b)]) hx hb dL_law_1129 hl (k := 2) rfl (nI_add w 4) (by decide) rfl (fun ls hl => ?_)
      refine lv_goto (tgt := 23) hx hb dL_law_1132 (by decide) ?_
      exact W.widen (by show 40 + 3 * z + 0 + 0 + 0 ≤ 40 + 3 * (z + 1); omega) (by show 2500 + 168 * z + 0 + 0 + 0 ≤ 2500 + 168 * (z + 1); omega) (kk (w + 4) wm st gr co hb_ mo ga ca ha_ ma sd tk op__15 sp__16 rc__17 rn__18 wa__19 (nI 0) nx lb fr__22 (vp_updL lo 0 ((wayN (if false = true then chSafe sd tk (nI mo) else dep gr co) (xs (w + 1))).toInt64)) H locs ls (by omega) (by omega) hT hR hP hD hS (lv_sub hl [0, 3, 4, 5, 6] rfl))
    · refine lv_aload_n hx hb dL_law_588 rfl (lv_at hl 3 rfl) ?_
      refine lv_aload_n hx hb dL_law_589 rfl (lv_at hl 4 rfl) ?_
      refine lv_iload hx hb dL_law_590 (lv_at hl 0 rfl) ?_
      refine lv_iconst (v := nI 1) hx hb dL_law_592 (by decide +kernel) ?_
      refine lv_iadd hx hb dL_law_593 ?_
      refine e_top (nI_add _ _) ?_
      refine e_sld hXs hbl hbA hS (w + 1) (by omega) (by omega) (v := xs (w + 1)) rfl hx hb dL_law_594 ?_
      refine lv_aload_n hx hb dL_law_595 rfl (lv_at hl 4 rfl) ?_
      refine lv_iload hx hb dL_law_596 (lv_at hl 0 rfl) ?_
      refine lv_iconst (v := nI 2) hx hb dL_law_598 (by decide +kernel) ?_
      refine lv_iadd hx hb dL_law_599 ?_
      refine e_top (nI_add _ _) ?_
      refine e_sld hXs hbl hbA hS (w + 2) (by omega) (by omega) (v := xs (w + 2)) rfl hx hb dL_law_600 ?_
      refine lv_if_eq (tgt := 608) hx hb dL_law_601 (by decide) (fun c601 => absurd c601 hz0) (fun c601 => ?_)
      refine lv_iconst (v := nI 1) hx hb dL_law_604 (by decide +kernel) ?_
      refine lv_goto (tgt := 609) hx hb dL_law_605 (by decide) ?_
      refine lv_aload_n hx hb dL_law_609 rfl (lv_at hl 1 rfl) ?_
      refine e_callSH (As := [.ref o, .int (xs (w + 1)), .int (nI 1), .ref oq]) (rest := []) ⟨hx, hb, hml, hown, hts⟩ hK hX hP hD hS hA hl.1 (c_L_way l hlt E _ o ad wm st gr co hb_ mo ga ca ha_ ma sd tk op sp rc rn wa (xs (w + 1)) true oq lo (by first | omega | assumption | rfl | (simp_all; done))) (vx_cwSW 4 hts gL_law_L_way rfl rfl rfl (by decide +kernel) ⟨Nat.le_of_ble_eq_true rfl, Nat.le_of_ble_eq_true rfl⟩) [0, 1, 2, 3, 4, 5, 6, 7, 8, 9, 10, 11, 12, 13, 14, 15, 16, 17, 18, 19, 30] [20, 21, 22, 23, 24, 25, 26, 27, 28, 29] rfl rfl rfl rfl (by decide) rfl rfl (Nat.le_of_ble_eq_true rfl) dL_law_610 ⟨by show 40 + 3 * z + 0 ≤ 601024; omega, by show 2500 + 168 * z + 0 ≤ 7293034; omega⟩ (fun u_25 H locs hu_26 hsz1 hP hD hS => ?_)
      obtain ⟨op__27, sp__28, rc__29, rn__30, wa__31⟩ := u_25
      have hP : va_P E.1 vwCl (wAll E o ad wm st gr co hb_ (nI mo) ga ca ha_ (nI ma) sd tk op__27 sp__28 rc__29 rn__30 wa__31 ++ wMo E o2 ad2 th gr co sd tk wm st (nI mo) nx lb fr ++ [(oq, .inl (E.2.2.2, 1, .inr (.inl (vp_updL lo 0 ((wayN (if true = true then chSafe sd tk (nI mo) else dep gr co) (xs (w + 1))).toInt64)))))]) H := hP.sub [10, 11, 12, 13, 14, 15, 16, 17, 18, 19, 20, 21, 22, 23, 24, 25, 26, 27, 28, 29, 0, 1, 2, 3, 4, 5, 6, 7, 8, 9, 30] rfl
      have hD : va_D (lA s) (wAll E o ad wm st gr co hb_ (nI mo) ga ca ha_ (nI ma) sd tk op__27 sp__28 rc__29 rn__30 wa__31 ++ wMo E o2 ad2 th gr co sd tk wm st (nI mo) nx lb fr ++ [(oq, .inl (E.2.2.2, 1, .inr (.inl (vp_updL lo 0 ((wayN (if true = true then chSafe sd tk (nI mo) else dep gr co) (xs (w + 1))).toInt64)))))]) := hD.sub [10, 11, 12, 13, 14, 15, 16, 17, 18, 19, 20, 21, 22, 23, 24, 25, 26, 27, 28, 29, 0, 1, 2, 3, 4, 5, 6, 7, 8, 9, 30] (by decide) rfl
      refine W.eq (g2 := F0 m 613 ls [.int (nI 0)]) rfl ?_
      refine lv_istore (lv' := [(5, .int (nI 0)), (4, .int (nI w)), (3, .ref oq), (2, .ref o2), (1, .ref o), (0, .ref b)]) hx hb dL_law_613 hl (by decide) rfl (fun ls hl => ?_)
      refine lv_aload_n hx hb dL_law_615 rfl (lv_at hl 3 rfl) ?_
      refine lv_aload_n hx hb dL_law_616 rfl (lv_at hl 5 rfl) ?_
      refine lv_iload hx hb dL_law_617 (lv_at hl 1 rfl) ?_
      refine lv_iconst (v := nI 1) hx hb dL_law_619 (by decide +kernel) ?_
      refine lv_iadd hx hb dL_law_620 ?_
      refine e_top (nI_add _ _) ?_
      refine e_sld hXs hbl hbA hS (w + 1) (by omega) (by omega) (v := xs (w + 1)) rfl hx hb dL_law_621 ?_
      refine lv_aload_n hx hb dL_law_622 rfl (lv_at hl 5 rfl) ?_
      refine lv_iload hx hb dL_law_623 (lv_at hl 1 rfl) ?_
      refine lv_iconst (v := nI 2) hx hb dL_law_625 (by decide +kernel) ?_
      refine lv_iadd hx hb dL_law_626 ?_
      refine e_top (nI_add _ _) ?_
      refine e_sld hXs hbl hbA hS (w + 2) (by omega) (by omega) (v := xs (w + 2)) rfl hx hb dL_law_627 ?_
      refine lv_if_eq (tgt := 635) hx hb dL_law_628 (by decide) (fun c628 => absurd c628 hz0) (fun c628 => ?_)
      refine lv_iconst (v := nI 1) hx hb dL_law_631 (by decide +kernel) ?_
      refine lv_goto (tgt := 636) hx hb dL_law_632 (by decide) ?_
      refine e_callV (As := [.int (xs (w + 1)), .int (nI 1)]) (rest := []) ⟨hx, hb, hml, hown, hts⟩ hK hP hD hS hA hl.1 (c_X5_way l E _ o2 ad2 th gr co sd tk wm st mo nx lb fr (xs (w + 1)) true (by first | omega | assumption | rfl | (simp_all; done))) (cwV 2 hts gL_law_X5_way rfl rfl rfl (by decide +kernel) ⟨Nat.le_of_ble_eq_true rfl, Nat.le_of_ble_eq_true rfl⟩) [20, 21, 22, 23, 24, 25, 26, 27, 28, 29] [0, 1, 2, 3, 4, 5, 6, 7, 8, 9, 10, 11, 12, 13, 14, 15, 16, 17, 18, 19, 30] rfl rfl rfl rfl (by decide) (q0 := 20) (ci := 5) rfl rfl rfl rfl (Nat.le_of_ble_eq_true rfl) dL_law_636 ⟨by show 40 + 3 * z + 0 + 0 ≤ 601024; omega, by show 2500 + 168 * z + 0 + 0 ≤ 7293034; omega⟩ (fun u_32 H locs hu_33 hsz1 hP hD hS => ?_)
      obtain ⟨fr__34, rfl⟩ : ∃ z, z = u_32 := ⟨_, rfl⟩
      have hP : va_P E.1 vwCl (wAll E o ad wm st gr co hb_ (nI mo) ga ca ha_ (nI ma) sd tk op__27 sp__28 rc__29 rn__30 wa__31 ++ wMo E o2 ad2 (nI 0) gr co sd tk wm st (nI mo) nx lb fr__34 ++ [(oq, .inl (E.2.2.2, 1, .inr (.inl (vp_updL lo 0 ((wayN (if true = true then chSafe sd tk (nI mo) else dep gr co) (xs (w + 1))).toInt64)))))]) H := hP.sub [0, 1, 2, 3, 4, 5, 6, 7, 8, 9, 10, 11, 12, 13, 14, 15, 16, 17, 18, 19, 21, 22, 23, 24, 25, 26, 27, 28, 29, 30, 20] rfl
      have hD : va_D (lA s) (wAll E o ad wm st gr co hb_ (nI mo) ga ca ha_ (nI ma) sd tk op__27 sp__28 rc__29 rn__30 wa__31 ++ wMo E o2 ad2 (nI 0) gr co sd tk wm st (nI mo) nx lb fr__34 ++ [(oq, .inl (E.2.2.2, 1, .inr (.inl (vp_updL lo 0 ((wayN (if true = true then chSafe sd tk (nI mo) else dep gr co) (xs (w + 1))).toInt64)))))]) := hD.sub [0, 1, 2, 3, 4, 5, 6, 7, 8, 9, 10, 11, 12, 13, 14, 15, 16, 17, 18, 19, 21, 22, 23, 24, 25, 26, 27, 28, 29, 30, 20] (by decide) rfl
      refine W.eq (g2 := F0 m 639 ls [.int (wayN (if true = true then chSafe sd tk (nI mo) else dep gr co) (xs (w + 1)))]) rfl ?_
      refine lv_istore (lv' := [(6, .int (wayN (if true = true then chSafe sd tk (nI mo) else dep gr co) (xs (w + 1)))), (5, .int (nI 0)), (4, .int (nI w)), (3, .ref oq), (2, .ref o2), (1, .ref o), (0, .ref b)]) hx hb dL_law_639 hl (by decide) rfl (fun ls hl => ?_)
      refine lv_aload_n hx hb dL_law_641 rfl (lv_at hl 4 rfl) ?_
      refine e_callV (As := []) (rest := []) ⟨hx, hb, hml, hown, hts⟩ hK hP hD hS hA hl.1 (c_X5_thrown l E _ o2 ad2 (nI 0) gr co sd tk wm st mo nx lb fr__34) (cwV 0 hts gL_law_X5_thrown rfl rfl rfl (by decide +kernel) ⟨Nat.le_of_ble_eq_true rfl, Nat.le_of_ble_eq_true rfl⟩) [20, 21, 22, 23, 24, 25, 26, 27, 28, 29] [0, 1, 2, 3, 4, 5, 6, 7, 8, 9, 10, 11, 12, 13, 14, 15, 16, 17, 18, 19, 30] rfl rfl rfl rfl (by decide) (q0 := 20) (ci := 5) rfl rfl rfl rfl (Nat.le_of_ble_eq_true rfl) dL_law_642 ⟨by show 40 + 3 * z + 0 + 0 + 0 ≤ 601024; omega, by show 2500 + 168 * z + 0 + 0 + 0 ≤ 7293034; omega⟩ (fun u_35 H locs hu_36 hsz1 hP hD hS => ?_)
      have hP : va_P E.1 vwCl (wAll E o ad wm st gr co hb_ (nI mo) ga ca ha_ (nI ma) sd tk op__27 sp__28 rc__29 rn__30 wa__31 ++ wMo E o2 ad2 (nI 0) gr co sd tk wm st (nI mo) nx lb fr__34 ++ [(oq, .inl (E.2.2.2, 1, .inr (.inl (vp_updL lo 0 ((wayN (if true = true then chSafe sd tk (nI mo) else dep gr co) (xs (w + 1))).toInt64)))))]) H := hP.sub [0, 1, 2, 3, 4, 5, 6, 7, 8, 9, 10, 11, 12, 13, 14, 15, 16, 17, 18, 19, 21, 22, 23, 24, 25, 26, 27, 28, 29, 30, 20] rfl
      have hD : va_D (lA s) (wAll E o ad wm st gr co hb_ (nI mo) ga ca ha_ (nI ma) sd tk op__27 sp__28 rc__29 rn__30 wa__31 ++ wMo E o2 ad2 (nI 0) gr co sd tk wm st (nI mo) nx lb fr__34 ++ [(oq, .inl (E.2.2.2, 1, .inr (.inl (vp_updL lo 0 ((wayN (if true = true then chSafe sd tk (nI mo) else dep gr co) (xs (w + 1))).toInt64)))))]) := hD.sub [0, 1, 2, 3, 4, 5, 6, 7, 8, 9, 10, 11, 12, 13, 14, 15, 16, 17, 18, 19, 21, 22, 23, 24, 25, 26, 27, 28, 29, 30, 20] (by decide) rfl
      refine W.eq (g2 := F0 m 645 ls [.int (nI 0)]) rfl ?_
      refine lv_iload hx hb dL_law_645 (lv_at hl 1 rfl) ?_
      refine n_icmp_eq (x := 0) (y := 0) (by omega) (by omega) (tgt := 652) hx hb dL_law_647 (by decide) (fun c647 => ?_) (fun c647 => absurd rfl c647)
      refine lv_iload hx hb dL_law_652 (lv_at hl 1 rfl) ?_
      refine n_if_ne (x := 0) (by omega) (tgt := 669) hx hb dL_law_654 (by decide) (fun c654 => (by omega)) (fun c654 => ?_)
      refine lv_aload_n hx hb dL_law_657 rfl (lv_at hl 3 rfl) ?_
      refine lv_iconst (v := nI 0) hx hb dL_law_658 (by decide +kernel) ?_
      refine e_lald hK hP 30 rfl 0 (by omega) (by decide) hx hb dL_law_659 ?_
      refine lv_iload hx hb dL_law_660 (lv_at hl 0 rfl) ?_
      refine lv_i2l hx hb dL_law_662 rfl ?_
      refine W.lcmp hx hb dL_law_663 ?_
      refine e_top (y := nI 0) (show lg_cmp ((vp_updL lo 0 ((wayN (if true = true then chSafe sd tk (nI mo) else dep gr co) (xs (w + 1))).toInt64)) 0) ((wayN (if true = true then chSafe sd tk (nI mo) else dep gr co) (xs (w + 1))).toInt64) = nI 0 from (lg_cmp_eq _ _).mpr rfl) ?_
      refine n_if_eq (x := 0) (by omega) (tgt := 669) hx hb dL_law_664 (by decide) (fun c664 => ?_) (fun c664 => (by omega))
      refine lv_goto (tgt := 1129) hx hb dL_law_669 (by decide) ?_
      refine lv_iinc (v := nI (w + 4)) (lv' := [(4, .int (nI (w + 4))), (6, .int (wayN (if true = true then chSafe sd tk (nI mo) else dep gr co) (xs (w + 1)))), (5, .int (nI 0)), (3, .ref oq), (2, .ref o2), (1, .ref o), (0, .ref b)]) hx hb dL_law_1129 hl (k := 2) rfl (nI_add w 4) (by decide) rfl (fun ls hl => ?_)
      refine lv_goto (tgt := 23) hx hb dL_law_1132 (by decide) ?_
      exact W.widen (by show 40 + 3 * z + 0 + 0 + 0 ≤ 40 + 3 * (z + 1); omega) (by show 2500 + 168 * z + 0 + 0 + 0 ≤ 2500 + 168 * (z + 1); omega) (kk (w + 4) wm st gr co hb_ mo ga ca ha_ ma sd tk op__27 sp__28 rc__29 rn__30 wa__31 (nI 0) nx lb fr__34 (vp_updL lo 0 ((wayN (if true = true then chSafe sd tk (nI mo) else dep gr co) (xs (w + 1))).toInt64)) H locs ls (by omega) (by omega) hT hR hP hD hS (lv_sub hl [0, 3, 4, 5, 6] rfl))

set_option maxHeartbeats 16000000 in
set_option maxRecDepth 100000 in
theorem k_case7 {p : Program} {e : Env} {s : State} {m : MethodId} {below : List Frame} {meth : Method} {cd : Code} (l : Launch) (hlt : l.stackTraces = false) {b L : Nat} {xs : Nat → Int32} {E : eT} (C : lC p s m cd b L xs E) {Q : State → Prop} {o : Nat} {ad : Nat → Nat} {o2 : Nat} {ad2 : Nat → Nat} {oq : Nat} (z w : Nat) (kk : lHead p l e s m below meth cd b E Q o ad o2 ad2 oq (z + 1)) (hi : w + 4 ≤ L) (wm : Nat → Int32) (st : Nat → Int32) (gr : Nat → Int32) (co : Nat → Int32) (hb_ : Nat → Bool) (mo : Nat) (ga : Nat → Int32) (ca : Nat → Int32) (ha_ : Nat → Bool) (ma : Nat) (sd : Nat → Int32) (tk : Nat → Int32) (op : Nat → Bool) (sp : Nat → Nat) (rc : Nat → Nat) (rn : Nat) (wa : Nat → Int32) (th : Int32) (nx : Nat → Int32) (lb : Nat → Option Nat) (fr : Nat → Nat) (lo : Nat → Int64) (H : Heap) (locs : List Loc) (ls : Array Slot) (hw : w = 4 * z) (hmo : mo ≤ 120 * z) (hT : Tb wm st) (hR : Rg gr co) (hP : va_P E.1 vwCl (wAll E o ad wm st gr co hb_ (nI mo) ga ca ha_ (nI ma) sd tk op sp rc rn wa ++ wMo E o2 ad2 th gr co sd tk wm st (nI mo) nx lb fr ++ [(oq, .inl (E.2.2.2, 1, .inr (.inl lo)))]) H) (hD : va_D (lA s) (wAll E o ad wm st gr co hb_ (nI mo) ga ca ha_ (nI ma) sd tk op sp rc rn wa ++ wMo E o2 ad2 th gr co sd tk wm st (nI mo) nx lb fr ++ [(oq, .inl (E.2.2.2, 1, .inr (.inl lo)))])) (hS : va_S (lA s) s.heap H locs) (hl : lv_has ls 9 [(4, .int (nI w)), (3, .ref oq), (2, .ref o2), (1, .ref o), (0, .ref b)]) : W p l e room_1 s m #[Value.ref b] below meth cd H locs (40 + 3 * z) (2500 + 168 * z) Q (F0 m 672 ls []) := by
  obtain ⟨hx, hb, hml, hown, hts, hK, hX, hXs, hbl, hL⟩ := C
  have hA : ∀ q : Nat, s.heap.size ≤ q → lA s q := fun _ h => h
  have hbA : ¬ lA s b := Nat.not_le.mpr hbl
  have hz : z ≤ 512 := by omega
  by_cases hz0 : xs (w + 1) = 0
  · refine lv_aload_n hx hb dL_law_672 rfl (lv_at hl 3 rfl) ?_
    refine lv_aload_n hx hb dL_law_673 rfl (lv_at hl 4 rfl) ?_
    refine lv_iload hx hb dL_law_674 (lv_at hl 0 rfl) ?_
    refine lv_iconst (v := nI 1) hx hb dL_law_676 (by decide +kernel) ?_
    refine lv_iadd hx hb dL_law_677 ?_
    refine e_top (nI_add _ _) ?_
    refine e_sld hXs hbl hbA hS (w + 1) (by omega) (by omega) (v := xs (w + 1)) rfl hx hb dL_law_678 ?_
    refine lv_if_eq (tgt := 686) hx hb dL_law_679 (by decide) (fun c679 => ?_) (fun c679 => absurd hz0 c679)
    refine lv_iconst (v := nI 0) hx hb dL_law_686 (by decide +kernel) ?_
    refine e_callV (As := [.int (nI 0)]) (rest := []) ⟨hx, hb, hml, hown, hts⟩ hK hP hD hS hA hl.1 (c_X4_deepest l E _ o ad wm st gr co hb_ mo ga ca ha_ ma sd tk op sp rc rn wa false) (cwV 1 hts gL_law_X4_deepest rfl rfl rfl (by decide +kernel) ⟨Nat.le_of_ble_eq_true rfl, Nat.le_of_ble_eq_true rfl⟩) [0, 1, 2, 3, 4, 5, 6, 7, 8, 9, 10, 11, 12, 13, 14, 15, 16, 17, 18, 19] [20, 21, 22, 23, 24, 25, 26, 27, 28, 29, 30] rfl rfl rfl rfl (by decide) (q0 := 0) (ci := 4) rfl rfl rfl rfl (Nat.le_of_ble_eq_true rfl) dL_law_687 ⟨by show 40 + 3 * z + 0 ≤ 601024; omega, by show 2500 + 168 * z + 0 ≤ 7293034; omega⟩ (fun u_1 H locs hu_2 hsz1 hP hD hS => ?_)
    obtain ⟨op__3, sp__4, rc__5, rn__6, wa__7⟩ := u_1
    have hP : va_P E.1 vwCl (wAll E o ad wm st gr co hb_ (nI mo) ga ca ha_ (nI ma) sd tk op__3 sp__4 rc__5 rn__6 wa__7 ++ wMo E o2 ad2 th gr co sd tk wm st (nI mo) nx lb fr ++ [(oq, .inl (E.2.2.2, 1, .inr (.inl lo)))]) H := hP.sub [11, 12, 13, 14, 15, 16, 17, 18, 19, 20, 21, 22, 23, 24, 25, 26, 27, 28, 29, 30, 0, 1, 2, 3, 4, 5, 6, 7, 8, 9, 10] rfl
    have hD : va_D (lA s) (wAll E o ad wm st gr co hb_ (nI mo) ga ca ha_ (nI ma) sd tk op__3 sp__4 rc__5 rn__6 wa__7 ++ wMo E o2 ad2 th gr co sd tk wm st (nI mo) nx lb fr ++ [(oq, .inl (E.2.2.2, 1, .inr (.inl lo)))]) := hD.sub [11, 12, 13, 14, 15, 16, 17, 18, 19, 20, 21, 22, 23, 24, 25, 26, 27, 28, 29, 30, 0, 1, 2, 3, 4, 5, 6, 7, 8, 9, 10] (by decide) rfl
    refine W.eq (g2 := F0 m 690 ls [.int (oI (mostD (someW (if false = true then chSafe sd tk (nI mo) else dep gr co)) 40))]) rfl ?_
    refine lv_aload_n hx hb dL_law_690 rfl (lv_at hl 2 rfl) ?_
    refine lv_aload_n hx hb dL_law_691 rfl (lv_at hl 4 rfl) ?_
    refine lv_iload hx hb dL_law_692 (lv_at hl 0 rfl) ?_
    refine lv_iconst (v := nI 1) hx hb dL_law_694 (by decide +kernel) ?_
    refine lv_iadd hx hb dL_law_695 ?_
    refine e_top (nI_add _ _) ?_
    refine e_sld hXs hbl hbA hS (w + 1) (by omega) (by omega) (v := xs (w + 1)) rfl hx hb dL_law_696 ?_
    refine lv_if_eq (tgt := 704) hx hb dL_law_697 (by decide) (fun c697 => ?_) (fun c697 => absurd hz0 c697)
    refine lv_iconst (v := nI 0) hx hb dL_law_704 (by decide +kernel) ?_
    refine e_callV (As := [.int (nI 0)]) (rest := [.int (oI (mostD (someW (if false = true then chSafe sd tk (nI mo) else dep gr co)) 40))]) ⟨hx, hb, hml, hown, hts⟩ hK hP hD hS hA hl.1 (c_X5_deepest l E _ o2 ad2 th gr co sd tk wm st mo nx lb fr false) (cwV 1 hts gL_law_X5_deepest rfl rfl rfl (by decide +kernel) ⟨Nat.le_of_ble_eq_true rfl, Nat.le_of_ble_eq_true rfl⟩) [20, 21, 22, 23, 24, 25, 26, 27, 28, 29] [0, 1, 2, 3, 4, 5, 6, 7, 8, 9, 10, 11, 12, 13, 14, 15, 16, 17, 18, 19, 30] rfl rfl rfl rfl (by decide) (q0 := 20) (ci := 5) rfl rfl rfl rfl (Nat.le_of_ble_eq_true rfl) dL_law_705 ⟨by show 40 + 3 * z + 0 + 0 ≤ 601024; omega, by show 2500 + 168 * z + 0 + 0 ≤ 7293034; omega⟩ (fun u_8 H locs hu_9 hsz1 hP hD hS => ?_)
    obtain ⟨fr__10, rfl⟩ : ∃ z, z = u_8 := ⟨_, rfl⟩
    have hP : va_P E.1 vwCl (wAll E o ad wm st gr co hb_ (nI mo) ga ca ha_ (nI ma) sd tk op__3 sp__4 rc__5 rn__6 wa__7 ++ wMo E o2 ad2 (nI 0) gr co sd tk wm st (nI mo) nx lb fr__10 ++ [(oq, .inl (E.2.2.2, 1, .inr (.inl lo)))]) H := hP.sub [0, 1, 2, 3, 4, 5, 6, 7, 8, 9, 10, 11, 12, 13, 14, 15, 16, 17, 18, 19, 21, 22, 23, 24, 25, 26, 27, 28, 29, 30, 20] rfl
    have hD : va_D (lA s) (wAll E o ad wm st gr co hb_ (nI mo) ga ca ha_ (nI ma) sd tk op__3 sp__4 rc__5 rn__6 wa__7 ++ wMo E o2 ad2 (nI 0) gr co sd tk wm st (nI mo) nx lb fr__10 ++ [(oq, .inl (E.2.2.2, 1, .inr (.inl lo)))]) := hD.sub [0, 1, 2, 3, 4, 5, 6, 7, 8, 9, 10, 11, 12, 13, 14, 15, 16, 17, 18, 19, 21, 22, 23, 24, 25, 26, 27, 28, 29, 30, 20] (by decide) rfl
    refine W.eq (g2 := F0 m 708 ls [.int (oI (mostD (someW (if false = true then chSafe sd tk (nI mo) else dep gr co)) 40)), .int (oI (mostD (someW (if false = true then chSafe sd tk (nI mo) else dep gr co)) 40))]) rfl ?_
    refine lv_icmp_eq (tgt := 1129) hx hb dL_law_708 (by decide) (fun c708 => ?_) (fun c708 => absurd rfl c708)
    refine lv_iinc (v := nI (w + 4)) (lv' := [(4, .int (nI (w + 4))), (3, .ref oq), (2, .ref o2), (1, .ref o), (0, .ref b)]) hx hb dL_law_1129 hl (k := 0) rfl (nI_add w 4) (by decide) rfl (fun ls hl => ?_)
    refine lv_goto (tgt := 23) hx hb dL_law_1132 (by decide) ?_
    exact W.widen (by show 40 + 3 * z + 0 + 0 ≤ 40 + 3 * (z + 1); omega) (by show 2500 + 168 * z + 0 + 0 ≤ 2500 + 168 * (z + 1); omega) (kk (w + 4) wm st gr co hb_ mo ga ca ha_ ma sd tk op__3 sp__4 rc__5 rn__6 wa__7 (nI 0) nx lb fr__10 lo H locs ls (by omega) (by omega) hT hR hP hD hS (lv_sub hl [0, 1, 2, 3, 4] rfl))
  · refine lv_aload_n hx hb dL_law_672 rfl (lv_at hl 3 rfl) ?_
    refine lv_aload_n hx hb dL_law_673 rfl (lv_at hl 4 rfl) ?_
    refine lv_iload hx hb dL_law_674 (lv_at hl 0 rfl) ?_
    refine lv_iconst (v := nI 1) hx hb dL_law_676 (by decide +kernel) ?_
    refine lv_iadd hx hb dL_law_677 ?_
    refine e_top (nI_add _ _) ?_
    refine e_sld hXs hbl hbA hS (w + 1) (by omega) (by omega) (v := xs (w + 1)) rfl hx hb dL_law_678 ?_
    refine lv_if_eq (tgt := 686) hx hb dL_law_679 (by decide) (fun c679 => absurd c679 hz0) (fun c679 => ?_)
    refine lv_iconst (v := nI 1) hx hb dL_law_682 (by decide +kernel) ?_
    refine lv_goto (tgt := 687) hx hb dL_law_683 (by decide) ?_
    refine e_callV (As := [.int (nI 1)]) (rest := []) ⟨hx, hb, hml, hown, hts⟩ hK hP hD hS hA hl.1 (c_X4_deepest l E _ o ad wm st gr co hb_ mo ga ca ha_ ma sd tk op sp rc rn wa true) (cwV 1 hts gL_law_X4_deepest rfl rfl rfl (by decide +kernel) ⟨Nat.le_of_ble_eq_true rfl, Nat.le_of_ble_eq_true rfl⟩) [0, 1, 2, 3, 4, 5, 6, 7, 8, 9, 10, 11, 12, 13, 14, 15, 16, 17, 18, 19] [20, 21, 22, 23, 24, 25, 26, 27, 28, 29, 30] rfl rfl rfl rfl (by decide) (q0 := 0) (ci := 4) rfl rfl rfl rfl (Nat.le_of_ble_eq_true rfl) dL_law_687 ⟨by show 40 + 3 * z + 0 ≤ 601024; omega, by show 2500 + 168 * z + 0 ≤ 7293034; omega⟩ (fun u_11 H locs hu_12 hsz1 hP hD hS => ?_)
    obtain ⟨op__13, sp__14, rc__15, rn__16, wa__17⟩ := u_11
    have hP : va_P E.1 vwCl (wAll E o ad wm st gr co hb_ (nI mo) ga ca ha_ (nI ma) sd tk op__13 sp__14 rc__15 rn__16 wa__17 ++ wMo E o2 ad2 th gr co sd tk wm st (nI mo) nx lb fr ++ [(oq, .inl (E.2.2.2, 1, .inr (.inl lo)))]) H := hP.sub [11, 12, 13, 14, 15, 16, 17, 18, 19, 20, 21, 22, 23, 24, 25, 26, 27, 28, 29, 30, 0, 1, 2, 3, 4, 5, 6, 7, 8, 9, 10] rfl
    have hD : va_D (lA s) (wAll E o ad wm st gr co hb_ (nI mo) ga ca ha_ (nI ma) sd tk op__13 sp__14 rc__15 rn__16 wa__17 ++ wMo E o2 ad2 th gr co sd tk wm st (nI mo) nx lb fr ++ [(oq, .inl (E.2.2.2, 1, .inr (.inl lo)))]) := hD.sub [11, 12, 13, 14, 15, 16, 17, 18, 19, 20, 21, 22, 23, 24, 25, 26, 27, 28, 29, 30, 0, 1, 2, 3, 4, 5, 6, 7, 8, 9, 10] (by decide) rfl
    refine W.eq (g2 := F0 m 690 ls [.int (oI (mostD (someW (if true = true then chSafe sd tk (nI mo) else dep gr co)) 40))]) rfl ?_
    refine lv_aload_n hx hb dL_law_690 rfl (lv_at hl 2 rfl) ?_
    refine lv_aload_n hx hb dL_law_691 rfl (lv_at hl 4 rfl) ?_
    refine lv_iload hx hb dL_law_692 (lv_at hl 0 rfl) ?_
    refine lv_iconst (v := nI 1) hx hb dL_law_694 (by decide +kernel) ?_
    refine lv_iadd hx hb dL_law_695 ?_
    refine e_top (nI_add _ _) ?_
    refine e_sld hXs hbl hbA hS (w + 1) (by omega) (by omega) (v := xs (w + 1)) rfl hx hb dL_law_696 ?_
    refine lv_if_eq (tgt := 704) hx hb dL_law_697 (by decide) (fun c697 => absurd c697 hz0) (fun c697 => ?_)
    refine lv_iconst (v := nI 1) hx hb dL_law_700 (by decide +kernel) ?_
    refine lv_goto (tgt := 705) hx hb dL_law_701 (by decide) ?_
    refine e_callV (As := [.int (nI 1)]) (rest := [.int (oI (mostD (someW (if true = true then chSafe sd tk (nI mo) else dep gr co)) 40))]) ⟨hx, hb, hml, hown, hts⟩ hK hP hD hS hA hl.1 (c_X5_deepest l E _ o2 ad2 th gr co sd tk wm st mo nx lb fr true) (cwV 1 hts gL_law_X5_deepest rfl rfl rfl (by decide +kernel) ⟨Nat.le_of_ble_eq_true rfl, Nat.le_of_ble_eq_true rfl⟩) [20, 21, 22, 23, 24, 25, 26, 27, 28, 29] [0, 1, 2, 3, 4, 5, 6, 7, 8, 9, 10, 11, 12, 13, 14, 15, 16, 17, 18, 19, 30] rfl rfl rfl rfl (by decide) (q0 := 20) (ci := 5) rfl rfl rfl rfl (Nat.le_of_ble_eq_true rfl) dL_law_705 ⟨by show 40 + 3 * z + 0 + 0 ≤ 601024; omega, by show 2500 + 168 * z + 0 + 0 ≤ 7293034; omega⟩ (fun u_18 H locs hu_19 hsz1 hP hD hS => ?_)
    obtain ⟨fr__20, rfl⟩ : ∃ z, z = u_18 := ⟨_, rfl⟩
    have hP : va_P E.1 vwCl (wAll E o ad wm st gr co hb_ (nI mo) ga ca ha_ (nI ma) sd tk op__13 sp__14 rc__15 rn__16 wa__17 ++ wMo E o2 ad2 (nI 0) gr co sd tk wm st (nI mo) nx lb fr__20 ++ [(oq, .inl (E.2.2.2, 1, .inr (.inl lo)))]) H := hP.sub [0, 1, 2, 3, 4, 5, 6, 7, 8, 9, 10, 11, 12, 13, 14, 15, 16, 17, 18, 19, 21, 22, 23, 24, 25, 26, 27, 28, 29, 30, 20] rfl
    have hD : va_D (lA s) (wAll E o ad wm st gr co hb_ (nI mo) ga ca ha_ (nI ma) sd tk op__13 sp__14 rc__15 rn__16 wa__17 ++ wMo E o2 ad2 (nI 0) gr co sd tk wm st (nI mo) nx lb fr__20 ++ [(oq, .inl (E.2.2.2, 1, .inr (.inl lo)))]) := hD.sub [0, 1, 2, 3, 4, 5, 6, 7, 8, 9, 10, 11, 12, 13, 14, 15, 16, 17, 18, 19, 21, 22, 23, 24, 25, 26, 27, 28, 29, 30, 20] (by decide) rfl
    refine W.eq (g2 := F0 m 708 ls [.int (oI (mostD (someW (if true = true then chSafe sd tk (nI mo) else dep gr co)) 40)), .int (oI (mostD (someW (if true = true then chSafe sd tk (nI mo) else dep gr co)) 40))]) rfl ?_
    refine lv_icmp_eq (tgt := 1129) hx hb dL_law_708 (by decide) (fun c708 => ?_) (fun c708 => absurd rfl c708)
    refine lv_iinc (v := nI (w + 4)) (lv' := [(4, .int (nI (w + 4))), (3, .ref oq), (2, .ref o2), (1, .ref o), (0, .ref b)]) hx hb dL_law_1129 hl (k := 0) rfl (nI_add w 4) (by decide) rfl (fun ls hl => ?_)
    refine lv_goto (tgt := 23) hx hb dL_law_1132 (by decide) ?_
    exact W.widen (by show 40 + 3 * z + 0 + 0 ≤ 40 + 3 * (z + 1); omega) (by show 2500 + 168 * z + 0 + 0 ≤ 2500 + 168 * (z + 1); omega) (kk (w + 4) wm st gr co hb_ mo ga ca ha_ ma sd tk op__13 sp__14 rc__15 rn__16 wa__17 (nI 0) nx lb fr__20 lo H locs ls (by omega) (by omega) hT hR hP hD hS (lv_sub hl [0, 1, 2, 3, 4] rfl))

set_option maxHeartbeats 16000000 in
set_option maxRecDepth 100000 in
theorem k_case8 {p : Program} {e : Env} {s : State} {m : MethodId} {below : List Frame} {meth : Method} {cd : Code} (l : Launch) (hlt : l.stackTraces = false) {b L : Nat} {xs : Nat → Int32} {E : eT} (C : lC p s m cd b L xs E) {Q : State → Prop} {o : Nat} {ad : Nat → Nat} {o2 : Nat} {ad2 : Nat → Nat} {oq : Nat} (z w : Nat) (kk : lHead p l e s m below meth cd b E Q o ad o2 ad2 oq (z + 1)) (hi : w + 4 ≤ L) (wm : Nat → Int32) (st : Nat → Int32) (gr : Nat → Int32) (co : Nat → Int32) (hb_ : Nat → Bool) (mo : Nat) (ga : Nat → Int32) (ca : Nat → Int32) (ha_ : Nat → Bool) (ma : Nat) (sd : Nat → Int32) (tk : Nat → Int32) (op : Nat → Bool) (sp : Nat → Nat) (rc : Nat → Nat) (rn : Nat) (wa : Nat → Int32) (th : Int32) (nx : Nat → Int32) (lb : Nat → Option Nat) (fr : Nat → Nat) (lo : Nat → Int64) (H : Heap) (locs : List Loc) (ls : Array Slot) (hw : w = 4 * z) (hmo : mo ≤ 120 * z) (hT : Tb wm st) (hR : Rg gr co) (hP : va_P E.1 vwCl (wAll E o ad wm st gr co hb_ (nI mo) ga ca ha_ (nI ma) sd tk op sp rc rn wa ++ wMo E o2 ad2 th gr co sd tk wm st (nI mo) nx lb fr ++ [(oq, .inl (E.2.2.2, 1, .inr (.inl lo)))]) H) (hD : va_D (lA s) (wAll E o ad wm st gr co hb_ (nI mo) ga ca ha_ (nI ma) sd tk op sp rc rn wa ++ wMo E o2 ad2 th gr co sd tk wm st (nI mo) nx lb fr ++ [(oq, .inl (E.2.2.2, 1, .inr (.inl lo)))])) (hS : va_S (lA s) s.heap H locs) (hl : lv_has ls 9 [(4, .int (nI w)), (3, .ref oq), (2, .ref o2), (1, .ref o), (0, .ref b)]) : W p l e room_1 s m #[Value.ref b] below meth cd H locs (40 + 3 * z) (2500 + 168 * z) Q (F0 m 713 ls []) := by
  obtain ⟨hx, hb, hml, hown, hts, hK, hX, hXs, hbl, hL⟩ := C
  have hA : ∀ q : Nat, s.heap.size ≤ q → lA s q := fun _ h => h
  have hbA : ¬ lA s b := Nat.not_le.mpr hbl
  have hz : z ≤ 512 := by omega
  cases hdr : isInB (xs (w + 1)) (nI 0) (nI 39) with
  | false =>
    refine lv_aload_n hx hb dL_law_713 rfl (lv_at hl 3 rfl) ?_
    refine lv_aload_n hx hb dL_law_714 rfl (lv_at hl 4 rfl) ?_
    refine lv_iload hx hb dL_law_715 (lv_at hl 0 rfl) ?_
    refine lv_iconst (v := nI 1) hx hb dL_law_717 (by decide +kernel) ?_
    refine lv_iadd hx hb dL_law_718 ?_
    refine e_top (nI_add _ _) ?_
    refine e_sld hXs hbl hbA hS (w + 1) (by omega) (by omega) (v := xs (w + 1)) rfl hx hb dL_law_719 ?_
    refine lv_aload_n hx hb dL_law_720 rfl (lv_at hl 1 rfl) ?_
    refine e_callSH (As := [.ref o, .int (xs (w + 1)), .ref oq]) (rest := []) ⟨hx, hb, hml, hown, hts⟩ hK hX hP hD hS hA hl.1 (c_L_harbours_b1 l hlt E _ o ad wm st gr co hb_ mo ga ca ha_ ma sd tk op sp rc rn wa (xs (w + 1)) oq lo (by first | omega | assumption | rfl | (simp_all; done))) (vx_cwSW 3 hts gL_law_L_harbours rfl rfl rfl (by decide +kernel) ⟨Nat.le_of_ble_eq_true rfl, Nat.le_of_ble_eq_true rfl⟩) [0, 1, 2, 3, 4, 5, 6, 7, 8, 9, 10, 11, 12, 13, 14, 15, 16, 17, 18, 19, 30] [20, 21, 22, 23, 24, 25, 26, 27, 28, 29] rfl rfl rfl rfl (by decide) rfl rfl (Nat.le_of_ble_eq_true rfl) dL_law_721 ⟨by show 40 + 3 * z + 1 ≤ 601024; omega, by show 2500 + 168 * z + 6 ≤ 7293034; omega⟩ (fun u_1 H locs hu_2 hsz1 hP hD hS => ?_)
    have hP : va_P E.1 vwCl (wAll E o ad wm st gr co hb_ (nI mo) ga ca ha_ (nI ma) sd tk op sp rc rn wa ++ wMo E o2 ad2 th gr co sd tk wm st (nI mo) nx lb fr ++ [(oq, .inl (E.2.2.2, 1, .inr (.inl lo)))]) H := hP.sub [10, 11, 12, 13, 14, 15, 16, 17, 18, 19, 20, 21, 22, 23, 24, 25, 26, 27, 28, 29, 0, 1, 2, 3, 4, 5, 6, 7, 8, 9, 30] rfl
    have hD : va_D (lA s) (wAll E o ad wm st gr co hb_ (nI mo) ga ca ha_ (nI ma) sd tk op sp rc rn wa ++ wMo E o2 ad2 th gr co sd tk wm st (nI mo) nx lb fr ++ [(oq, .inl (E.2.2.2, 1, .inr (.inl lo)))]) := hD.sub [10, 11, 12, 13, 14, 15, 16, 17, 18, 19, 20, 21, 22, 23, 24, 25, 26, 27, 28, 29, 0, 1, 2, 3, 4, 5, 6, 7, 8, 9, 30] (by decide) rfl
    refine W.eq (g2 := F0 m 724 ls [.int (nI 1)]) rfl ?_
    refine lv_istore (lv' := [(5, .int (nI 1)), (4, .int (nI w)), (3, .ref oq), (2, .ref o2), (1, .ref o), (0, .ref b)]) hx hb dL_law_724 hl (by decide) rfl (fun ls hl => ?_)
    refine lv_aload_n hx hb dL_law_726 rfl (lv_at hl 3 rfl) ?_
    refine lv_aload_n hx hb dL_law_727 rfl (lv_at hl 5 rfl) ?_
    refine lv_iload hx hb dL_law_728 (lv_at hl 1 rfl) ?_
    refine lv_iconst (v := nI 1) hx hb dL_law_730 (by decide +kernel) ?_
    refine lv_iadd hx hb dL_law_731 ?_
    refine e_top (nI_add _ _) ?_
    refine e_sld hXs hbl hbA hS (w + 1) (by omega) (by omega) (v := xs (w + 1)) rfl hx hb dL_law_732 ?_
    refine e_callV (As := [.int (xs (w + 1))]) (rest := []) ⟨hx, hb, hml, hown, hts⟩ hK hP hD hS hA hl.1 (c_X5_harbours_b1 l E _ o2 ad2 th gr co sd tk wm st mo nx lb fr (xs (w + 1)) (by first | omega | assumption | rfl | (simp_all; done))) (cwV 1 hts gL_law_X5_harbours rfl rfl rfl (by decide +kernel) ⟨Nat.le_of_ble_eq_true rfl, Nat.le_of_ble_eq_true rfl⟩) [20, 21, 22, 23, 24, 25, 26, 27, 28, 29] [0, 1, 2, 3, 4, 5, 6, 7, 8, 9, 10, 11, 12, 13, 14, 15, 16, 17, 18, 19, 30] rfl rfl rfl rfl (by decide) (q0 := 20) (ci := 5) rfl rfl rfl rfl (Nat.le_of_ble_eq_true rfl) dL_law_733 ⟨by show 40 + 3 * z + 1 + 0 ≤ 601024; omega, by show 2500 + 168 * z + 6 + 0 ≤ 7293034; omega⟩ (fun u_3 H locs hu_4 hsz1 hP hD hS => ?_)
    have hP : va_P E.1 vwCl (wAll E o ad wm st gr co hb_ (nI mo) ga ca ha_ (nI ma) sd tk op sp rc rn wa ++ wMo E o2 ad2 (nI 1) gr co sd tk wm st (nI mo) nx lb fr ++ [(oq, .inl (E.2.2.2, 1, .inr (.inl lo)))]) H := hP.sub [0, 1, 2, 3, 4, 5, 6, 7, 8, 9, 10, 11, 12, 13, 14, 15, 16, 17, 18, 19, 21, 22, 23, 24, 25, 26, 27, 28, 29, 30, 20] rfl
    have hD : va_D (lA s) (wAll E o ad wm st gr co hb_ (nI mo) ga ca ha_ (nI ma) sd tk op sp rc rn wa ++ wMo E o2 ad2 (nI 1) gr co sd tk wm st (nI mo) nx lb fr ++ [(oq, .inl (E.2.2.2, 1, .inr (.inl lo)))]) := hD.sub [0, 1, 2, 3, 4, 5, 6, 7, 8, 9, 10, 11, 12, 13, 14, 15, 16, 17, 18, 19, 21, 22, 23, 24, 25, 26, 27, 28, 29, 30, 20] (by decide) rfl
    refine W.eq (g2 := F0 m 736 ls [.int (nI 0)]) rfl ?_
    refine lv_istore (lv' := [(6, .int (nI 0)), (5, .int (nI 1)), (4, .int (nI w)), (3, .ref oq), (2, .ref o2), (1, .ref o), (0, .ref b)]) hx hb dL_law_736 hl (by decide) rfl (fun ls hl => ?_)
    refine lv_aload_n hx hb dL_law_738 rfl (lv_at hl 4 rfl) ?_
    refine e_callV (As := []) (rest := []) ⟨hx, hb, hml, hown, hts⟩ hK hP hD hS hA hl.1 (c_X5_thrown l E _ o2 ad2 (nI 1) gr co sd tk wm st mo nx lb fr) (cwV 0 hts gL_law_X5_thrown rfl rfl rfl (by decide +kernel) ⟨Nat.le_of_ble_eq_true rfl, Nat.le_of_ble_eq_true rfl⟩) [20, 21, 22, 23, 24, 25, 26, 27, 28, 29] [0, 1, 2, 3, 4, 5, 6, 7, 8, 9, 10, 11, 12, 13, 14, 15, 16, 17, 18, 19, 30] rfl rfl rfl rfl (by decide) (q0 := 20) (ci := 5) rfl rfl rfl rfl (Nat.le_of_ble_eq_true rfl) dL_law_739 ⟨by show 40 + 3 * z + 1 + 0 + 0 ≤ 601024; omega, by show 2500 + 168 * z + 6 + 0 + 0 ≤ 7293034; omega⟩ (fun u_5 H locs hu_6 hsz1 hP hD hS => ?_)
    have hP : va_P E.1 vwCl (wAll E o ad wm st gr co hb_ (nI mo) ga ca ha_ (nI ma) sd tk op sp rc rn wa ++ wMo E o2 ad2 (nI 1) gr co sd tk wm st (nI mo) nx lb fr ++ [(oq, .inl (E.2.2.2, 1, .inr (.inl lo)))]) H := hP.sub [0, 1, 2, 3, 4, 5, 6, 7, 8, 9, 10, 11, 12, 13, 14, 15, 16, 17, 18, 19, 21, 22, 23, 24, 25, 26, 27, 28, 29, 30, 20] rfl
    have hD : va_D (lA s) (wAll E o ad wm st gr co hb_ (nI mo) ga ca ha_ (nI ma) sd tk op sp rc rn wa ++ wMo E o2 ad2 (nI 1) gr co sd tk wm st (nI mo) nx lb fr ++ [(oq, .inl (E.2.2.2, 1, .inr (.inl lo)))]) := hD.sub [0, 1, 2, 3, 4, 5, 6, 7, 8, 9, 10, 11, 12, 13, 14, 15, 16, 17, 18, 19, 21, 22, 23, 24, 25, 26, 27, 28, 29, 30, 20] (by decide) rfl
    refine W.eq (g2 := F0 m 742 ls [.int (nI 1)]) rfl ?_
    refine lv_iload hx hb dL_law_742 (lv_at hl 1 rfl) ?_
    refine n_icmp_eq (x := 1) (y := 1) (by omega) (by omega) (tgt := 749) hx hb dL_law_744 (by decide) (fun c744 => ?_) (fun c744 => absurd rfl c744)
    refine lv_iload hx hb dL_law_749 (lv_at hl 1 rfl) ?_
    refine n_if_ne (x := 1) (by omega) (tgt := 766) hx hb dL_law_751 (by decide) (fun c751 => ?_) (fun c751 => (by omega))
    refine lv_goto (tgt := 1129) hx hb dL_law_766 (by decide) ?_
    refine lv_iinc (v := nI (w + 4)) (lv' := [(4, .int (nI (w + 4))), (6, .int (nI 0)), (5, .int (nI 1)), (3, .ref oq), (2, .ref o2), (1, .ref o), (0, .ref b)]) hx hb dL_law_1129 hl (k := 2) rfl (nI_add w 4) (by decide) rfl (fun ls hl => ?_)
    refine lv_goto (tgt := 23) hx hb dL_law_1132 (by decide) ?_
    exact W.widen (by show 40 + 3 * z + 1 + 0 + 0 ≤ 40 + 3 * (z + 1); omega) (by show 2500 + 168 * z + 6 + 0 + 0 ≤ 2500 + 168 * (z + 1); omega) (kk (w + 4) wm st gr co hb_ mo ga ca ha_ ma sd tk op sp rc rn wa (nI 1) nx lb fr lo H locs ls (by omega) (by omega) hT hR hP hD hS (lv_sub hl [0, 3, 4, 5, 6] rfl))
  | true =>
    refine lv_aload_n hx hb dL_law_713 rfl (lv_at hl 3 rfl) ?_
    refine lv_aload_n hx hb dL_law_714 rfl (lv_at hl 4 rfl) ?_
    refine lv_iload hx hb dL_law_715 (lv_at hl 0 rfl) ?_
    refine lv_iconst (v := nI 1) hx hb dL_law_717 (by decide +kernel) ?_
    refine lv_iadd hx hb dL_law_718 ?_
    refine e_top (nI_add _ _) ?_
    refine e_sld hXs hbl hbA hS (w + 1) (by omega) (by omega) (v := xs (w + 1)) rfl hx hb dL_law_719 ?_
    refine lv_aload_n hx hb dL_law_720 rfl (lv_at hl 1 rfl) ?_
    refine e_callSH (As := [.ref o, .int (xs (w + 1)), .ref oq]) (rest := []) ⟨hx, hb, hml, hown, hts⟩ hK hX hP hD hS hA hl.1 (c_L_harbours l hlt E _ o ad wm st gr co hb_ mo ga ca ha_ ma sd tk op sp rc rn wa (xs (w + 1)) oq lo (by first | omega | assumption | rfl | (simp_all; done))) (vx_cwSW 3 hts gL_law_L_harbours rfl rfl rfl (by decide +kernel) ⟨Nat.le_of_ble_eq_true rfl, Nat.le_of_ble_eq_true rfl⟩) [0, 1, 2, 3, 4, 5, 6, 7, 8, 9, 10, 11, 12, 13, 14, 15, 16, 17, 18, 19, 30] [20, 21, 22, 23, 24, 25, 26, 27, 28, 29] rfl rfl rfl rfl (by decide) rfl rfl (Nat.le_of_ble_eq_true rfl) dL_law_721 ⟨by show 40 + 3 * z + 0 ≤ 601024; omega, by show 2500 + 168 * z + 0 ≤ 7293034; omega⟩ (fun u_7 H locs hu_8 hsz1 hP hD hS => ?_)
    obtain ⟨op__9, sp__10, rc__11, rn__12, wa__13⟩ := u_7
    have hP : va_P E.1 vwCl (wAll E o ad wm st gr co hb_ (nI mo) ga ca ha_ (nI ma) sd tk op__9 sp__10 rc__11 rn__12 wa__13 ++ wMo E o2 ad2 th gr co sd tk wm st (nI mo) nx lb fr ++ [(oq, .inl (E.2.2.2, 1, .inr (.inl (vp_updL lo 0 ((nI (harbN (dep gr co) (xs (w + 1)))).toInt64)))))]) H := hP.sub [10, 11, 12, 13, 14, 15, 16, 17, 18, 19, 20, 21, 22, 23, 24, 25, 26, 27, 28, 29, 0, 1, 2, 3, 4, 5, 6, 7, 8, 9, 30] rfl
    have hD : va_D (lA s) (wAll E o ad wm st gr co hb_ (nI mo) ga ca ha_ (nI ma) sd tk op__9 sp__10 rc__11 rn__12 wa__13 ++ wMo E o2 ad2 th gr co sd tk wm st (nI mo) nx lb fr ++ [(oq, .inl (E.2.2.2, 1, .inr (.inl (vp_updL lo 0 ((nI (harbN (dep gr co) (xs (w + 1)))).toInt64)))))]) := hD.sub [10, 11, 12, 13, 14, 15, 16, 17, 18, 19, 20, 21, 22, 23, 24, 25, 26, 27, 28, 29, 0, 1, 2, 3, 4, 5, 6, 7, 8, 9, 30] (by decide) rfl
    refine W.eq (g2 := F0 m 724 ls [.int (nI 0)]) rfl ?_
    refine lv_istore (lv' := [(5, .int (nI 0)), (4, .int (nI w)), (3, .ref oq), (2, .ref o2), (1, .ref o), (0, .ref b)]) hx hb dL_law_724 hl (by decide) rfl (fun ls hl => ?_)
    refine lv_aload_n hx hb dL_law_726 rfl (lv_at hl 3 rfl) ?_
    refine lv_aload_n hx hb dL_law_727 rfl (lv_at hl 5 rfl) ?_
    refine lv_iload hx hb dL_law_728 (lv_at hl 1 rfl) ?_
    refine lv_iconst (v := nI 1) hx hb dL_law_730 (by decide +kernel) ?_
    refine lv_iadd hx hb dL_law_731 ?_
    refine e_top (nI_add _ _) ?_
    refine e_sld hXs hbl hbA hS (w + 1) (by omega) (by omega) (v := xs (w + 1)) rfl hx hb dL_law_732 ?_
    refine e_callV (As := [.int (xs (w + 1))]) (rest := []) ⟨hx, hb, hml, hown, hts⟩ hK hP hD hS hA hl.1 (c_X5_harbours l E _ o2 ad2 th gr co sd tk wm st mo nx lb fr (xs (w + 1)) (by first | omega | assumption | rfl | (simp_all; done))) (cwV 1 hts gL_law_X5_harbours rfl rfl rfl (by decide +kernel) ⟨Nat.le_of_ble_eq_true rfl, Nat.le_of_ble_eq_true rfl⟩) [20, 21, 22, 23, 24, 25, 26, 27, 28, 29] [0, 1, 2, 3, 4, 5, 6, 7, 8, 9, 10, 11, 12, 13, 14, 15, 16, 17, 18, 19, 30] rfl rfl rfl rfl (by decide) (q0 := 20) (ci := 5) rfl rfl rfl rfl (Nat.le_of_ble_eq_true rfl) dL_law_733 ⟨by show 40 + 3 * z + 0 + 0 ≤ 601024; omega, by show 2500 + 168 * z + 0 + 0 ≤ 7293034; omega⟩ (fun u_14 H locs hu_15 hsz1 hP hD hS => ?_)
    obtain ⟨fr__16, rfl⟩ : ∃ z, z = u_14 := ⟨_, rfl⟩
    have hP : va_P E.1 vwCl (wAll E o ad wm st gr co hb_ (nI mo) ga ca ha_ (nI ma) sd tk op__9 sp__10 rc__11 rn__12 wa__13 ++ wMo E o2 ad2 (nI 0) gr co sd tk wm st (nI mo) nx lb fr__16 ++ [(oq, .inl (E.2.2.2, 1, .inr (.inl (vp_updL lo 0 ((nI (harbN (dep gr co) (xs (w + 1)))).toInt64)))))]) H := hP.sub [0, 1, 2, 3, 4, 5, 6, 7, 8, 9, 10, 11, 12, 13, 14, 15, 16, 17, 18, 19, 21, 22, 23, 24, 25, 26, 27, 28, 29, 30, 20] rfl
    have hD : va_D (lA s) (wAll E o ad wm st gr co hb_ (nI mo) ga ca ha_ (nI ma) sd tk op__9 sp__10 rc__11 rn__12 wa__13 ++ wMo E o2 ad2 (nI 0) gr co sd tk wm st (nI mo) nx lb fr__16 ++ [(oq, .inl (E.2.2.2, 1, .inr (.inl (vp_updL lo 0 ((nI (harbN (dep gr co) (xs (w + 1)))).toInt64)))))]) := hD.sub [0, 1, 2, 3, 4, 5, 6, 7, 8, 9, 10, 11, 12, 13, 14, 15, 16, 17, 18, 19, 21, 22, 23, 24, 25, 26, 27, 28, 29, 30, 20] (by decide) rfl
    refine W.eq (g2 := F0 m 736 ls [.int (nI (harbN (dep gr co) (xs (w + 1))))]) rfl ?_
    refine lv_istore (lv' := [(6, .int (nI (harbN (dep gr co) (xs (w + 1))))), (5, .int (nI 0)), (4, .int (nI w)), (3, .ref oq), (2, .ref o2), (1, .ref o), (0, .ref b)]) hx hb dL_law_736 hl (by decide) rfl (fun ls hl => ?_)
    refine lv_aload_n hx hb dL_law_738 rfl (lv_at hl 4 rfl) ?_
    refine e_callV (As := []) (rest := []) ⟨hx, hb, hml, hown, hts⟩ hK hP hD hS hA hl.1 (c_X5_thrown l E _ o2 ad2 (nI 0) gr co sd tk wm st mo nx lb fr__16) (cwV 0 hts gL_law_X5_thrown rfl rfl rfl (by decide +kernel) ⟨Nat.le_of_ble_eq_true rfl, Nat.le_of_ble_eq_true rfl⟩) [20, 21, 22, 23, 24, 25, 26, 27, 28, 29] [0, 1, 2, 3, 4, 5, 6, 7, 8, 9, 10, 11, 12, 13, 14, 15, 16, 17, 18, 19, 30] rfl rfl rfl rfl (by decide) (q0 := 20) (ci := 5) rfl rfl rfl rfl (Nat.le_of_ble_eq_true rfl) dL_law_739 ⟨by show 40 + 3 * z + 0 + 0 + 0 ≤ 601024; omega, by show 2500 + 168 * z + 0 + 0 + 0 ≤ 7293034; omega⟩ (fun u_17 H locs hu_18 hsz1 hP hD hS => ?_)
    have hP : va_P E.1 vwCl (wAll E o ad wm st gr co hb_ (nI mo) ga ca ha_ (nI ma) sd tk op__9 sp__10 rc__11 rn__12 wa__13 ++ wMo E o2 ad2 (nI 0) gr co sd tk wm st (nI mo) nx lb fr__16 ++ [(oq, .inl (E.2.2.2, 1, .inr (.inl (vp_updL lo 0 ((nI (harbN (dep gr co) (xs (w + 1)))).toInt64)))))]) H := hP.sub [0, 1, 2, 3, 4, 5, 6, 7, 8, 9, 10, 11, 12, 13, 14, 15, 16, 17, 18, 19, 21, 22, 23, 24, 25, 26, 27, 28, 29, 30, 20] rfl
    have hD : va_D (lA s) (wAll E o ad wm st gr co hb_ (nI mo) ga ca ha_ (nI ma) sd tk op__9 sp__10 rc__11 rn__12 wa__13 ++ wMo E o2 ad2 (nI 0) gr co sd tk wm st (nI mo) nx lb fr__16 ++ [(oq, .inl (E.2.2.2, 1, .inr (.inl (vp_updL lo 0 ((nI (harbN (dep gr co) (xs (w + 1)))).toInt64)))))]) := hD.sub [0, 1, 2, 3, 4, 5, 6, 7, 8, 9, 10, 11, 12, 13, 14, 15, 16, 17, 18, 19, 21, 22, 23, 24, 25, 26, 27, 28, 29, 30, 20] (by decide) rfl
    refine W.eq (g2 := F0 m 742 ls [.int (nI 0)]) rfl ?_
    refine lv_iload hx hb dL_law_742 (lv_at hl 1 rfl) ?_
    refine n_icmp_eq (x := 0) (y := 0) (by omega) (by omega) (tgt := 749) hx hb dL_law_744 (by decide) (fun c744 => ?_) (fun c744 => absurd rfl c744)
    refine lv_iload hx hb dL_law_749 (lv_at hl 1 rfl) ?_
    refine n_if_ne (x := 0) (by omega) (tgt := 766) hx hb dL_law_751 (by decide) (fun c751 => (by omega)) (fun c751 => ?_)
    refine lv_aload_n hx hb dL_law_754 rfl (lv_at hl 3 rfl) ?_
    refine lv_iconst (v := nI 0) hx hb dL_law_755 (by decide +kernel) ?_
    refine e_lald hK hP 30 rfl 0 (by omega) (by decide) hx hb dL_law_756 ?_
    refine lv_iload hx hb dL_law_757 (lv_at hl 0 rfl) ?_
    refine lv_i2l hx hb dL_law_759 rfl ?_
    refine W.lcmp hx hb dL_law_760 ?_
    refine e_top (y := nI 0) (show lg_cmp ((vp_updL lo 0 ((nI (harbN (dep gr co) (xs (w + 1)))).toInt64)) 0) ((nI (harbN (dep gr co) (xs (w + 1)))).toInt64) = nI 0 from (lg_cmp_eq _ _).mpr rfl) ?_
    refine n_if_eq (x := 0) (by omega) (tgt := 766) hx hb dL_law_761 (by decide) (fun c761 => ?_) (fun c761 => (by omega))
    refine lv_goto (tgt := 1129) hx hb dL_law_766 (by decide) ?_
    refine lv_iinc (v := nI (w + 4)) (lv' := [(4, .int (nI (w + 4))), (6, .int (nI (harbN (dep gr co) (xs (w + 1))))), (5, .int (nI 0)), (3, .ref oq), (2, .ref o2), (1, .ref o), (0, .ref b)]) hx hb dL_law_1129 hl (k := 2) rfl (nI_add w 4) (by decide) rfl (fun ls hl => ?_)
    refine lv_goto (tgt := 23) hx hb dL_law_1132 (by decide) ?_
    exact W.widen (by show 40 + 3 * z + 0 + 0 + 0 ≤ 40 + 3 * (z + 1); omega) (by show 2500 + 168 * z + 0 + 0 + 0 ≤ 2500 + 168 * (z + 1); omega) (kk (w + 4) wm st gr co hb_ mo ga ca ha_ ma sd tk op__9 sp__10 rc__11 rn__12 wa__13 (nI 0) nx lb fr__16 (vp_updL lo 0 ((nI (harbN (dep gr co) (xs (w + 1)))).toInt64)) H locs ls (by omega) (by omega) hT hR hP hD hS (lv_sub hl [0, 3, 4, 5, 6] rfl))

set_option maxHeartbeats 16000000 in
set_option maxRecDepth 100000 in
theorem k_case9 {p : Program} {e : Env} {s : State} {m : MethodId} {below : List Frame} {meth : Method} {cd : Code} (l : Launch) (hlt : l.stackTraces = false) {b L : Nat} {xs : Nat → Int32} {E : eT} (C : lC p s m cd b L xs E) {Q : State → Prop} {o : Nat} {ad : Nat → Nat} {o2 : Nat} {ad2 : Nat → Nat} {oq : Nat} (z w : Nat) (kk : lHead p l e s m below meth cd b E Q o ad o2 ad2 oq (z + 1)) (hi : w + 4 ≤ L) (wm : Nat → Int32) (st : Nat → Int32) (gr : Nat → Int32) (co : Nat → Int32) (hb_ : Nat → Bool) (mo : Nat) (ga : Nat → Int32) (ca : Nat → Int32) (ha_ : Nat → Bool) (ma : Nat) (sd : Nat → Int32) (tk : Nat → Int32) (op : Nat → Bool) (sp : Nat → Nat) (rc : Nat → Nat) (rn : Nat) (wa : Nat → Int32) (th : Int32) (nx : Nat → Int32) (lb : Nat → Option Nat) (fr : Nat → Nat) (lo : Nat → Int64) (H : Heap) (locs : List Loc) (ls : Array Slot) (hw : w = 4 * z) (hmo : mo ≤ 120 * z) (hT : Tb wm st) (hR : Rg gr co) (hP : va_P E.1 vwCl (wAll E o ad wm st gr co hb_ (nI mo) ga ca ha_ (nI ma) sd tk op sp rc rn wa ++ wMo E o2 ad2 th gr co sd tk wm st (nI mo) nx lb fr ++ [(oq, .inl (E.2.2.2, 1, .inr (.inl lo)))]) H) (hD : va_D (lA s) (wAll E o ad wm st gr co hb_ (nI mo) ga ca ha_ (nI ma) sd tk op sp rc rn wa ++ wMo E o2 ad2 th gr co sd tk wm st (nI mo) nx lb fr ++ [(oq, .inl (E.2.2.2, 1, .inr (.inl lo)))])) (hS : va_S (lA s) s.heap H locs) (hl : lv_has ls 9 [(4, .int (nI w)), (3, .ref oq), (2, .ref o2), (1, .ref o), (0, .ref b)]) : W p l e room_1 s m #[Value.ref b] below meth cd H locs (40 + 3 * z) (2500 + 168 * z) Q (F0 m 769 ls []) := by
  obtain ⟨hx, hb, hml, hown, hts, hK, hX, hXs, hbl, hL⟩ := C
  have hA : ∀ q : Nat, s.heap.size ≤ q → lA s q := fun _ h => h
  have hbA : ¬ lA s b := Nat.not_le.mpr hbl
  have hz : z ≤ 512 := by omega
  cases hdr : isInB (xs (w + 1)) (nI 0) (nI 39) with
  | false =>
    refine lv_aload_n hx hb dL_law_769 rfl (lv_at hl 3 rfl) ?_
    refine lv_aload_n hx hb dL_law_770 rfl (lv_at hl 4 rfl) ?_
    refine lv_iload hx hb dL_law_771 (lv_at hl 0 rfl) ?_
    refine lv_iconst (v := nI 1) hx hb dL_law_773 (by decide +kernel) ?_
    refine lv_iadd hx hb dL_law_774 ?_
    refine e_top (nI_add _ _) ?_
    refine e_sld hXs hbl hbA hS (w + 1) (by omega) (by omega) (v := xs (w + 1)) rfl hx hb dL_law_775 ?_
    refine lv_aload_n hx hb dL_law_776 rfl (lv_at hl 1 rfl) ?_
    refine e_callSH (As := [.ref o, .int (xs (w + 1)), .ref oq]) (rest := []) ⟨hx, hb, hml, hown, hts⟩ hK hX hP hD hS hA hl.1 (c_L_pilot_b1 l hlt E _ o ad wm st gr co hb_ mo ga ca ha_ ma sd tk op sp rc rn wa (xs (w + 1)) oq lo (by first | omega | assumption | rfl | (simp_all; done))) (vx_cwSW 3 hts gL_law_L_pilot rfl rfl rfl (by decide +kernel) ⟨Nat.le_of_ble_eq_true rfl, Nat.le_of_ble_eq_true rfl⟩) [0, 1, 2, 3, 4, 5, 6, 7, 8, 9, 10, 11, 12, 13, 14, 15, 16, 17, 18, 19, 30] [20, 21, 22, 23, 24, 25, 26, 27, 28, 29] rfl rfl rfl rfl (by decide) rfl rfl (Nat.le_of_ble_eq_true rfl) dL_law_777 ⟨by show 40 + 3 * z + 1 ≤ 601024; omega, by show 2500 + 168 * z + 6 ≤ 7293034; omega⟩ (fun u_1 H locs hu_2 hsz1 hP hD hS => ?_)
    have hP : va_P E.1 vwCl (wAll E o ad wm st gr co hb_ (nI mo) ga ca ha_ (nI ma) sd tk op sp rc rn wa ++ wMo E o2 ad2 th gr co sd tk wm st (nI mo) nx lb fr ++ [(oq, .inl (E.2.2.2, 1, .inr (.inl lo)))]) H := hP.sub [10, 11, 12, 13, 14, 15, 16, 17, 18, 19, 20, 21, 22, 23, 24, 25, 26, 27, 28, 29, 0, 1, 2, 3, 4, 5, 6, 7, 8, 9, 30] rfl
    have hD : va_D (lA s) (wAll E o ad wm st gr co hb_ (nI mo) ga ca ha_ (nI ma) sd tk op sp rc rn wa ++ wMo E o2 ad2 th gr co sd tk wm st (nI mo) nx lb fr ++ [(oq, .inl (E.2.2.2, 1, .inr (.inl lo)))]) := hD.sub [10, 11, 12, 13, 14, 15, 16, 17, 18, 19, 20, 21, 22, 23, 24, 25, 26, 27, 28, 29, 0, 1, 2, 3, 4, 5, 6, 7, 8, 9, 30] (by decide) rfl
    refine W.eq (g2 := F0 m 780 ls [.int (nI 1)]) rfl ?_
    refine lv_istore (lv' := [(5, .int (nI 1)), (4, .int (nI w)), (3, .ref oq), (2, .ref o2), (1, .ref o), (0, .ref b)]) hx hb dL_law_780 hl (by decide) rfl (fun ls hl => ?_)
    refine lv_aload_n hx hb dL_law_782 rfl (lv_at hl 3 rfl) ?_
    refine lv_aload_n hx hb dL_law_783 rfl (lv_at hl 5 rfl) ?_
    refine lv_iload hx hb dL_law_784 (lv_at hl 1 rfl) ?_
    refine lv_iconst (v := nI 1) hx hb dL_law_786 (by decide +kernel) ?_
    refine lv_iadd hx hb dL_law_787 ?_
    refine e_top (nI_add _ _) ?_
    refine e_sld hXs hbl hbA hS (w + 1) (by omega) (by omega) (v := xs (w + 1)) rfl hx hb dL_law_788 ?_
    refine e_callV (As := [.int (xs (w + 1))]) (rest := []) ⟨hx, hb, hml, hown, hts⟩ hK hP hD hS hA hl.1 (c_X5_pilot_b1 l E _ o2 ad2 th gr co sd tk wm st mo nx lb fr (xs (w + 1)) (by first | omega | assumption | rfl | (simp_all; done))) (cwV 1 hts gL_law_X5_pilot rfl rfl rfl (by decide +kernel) ⟨Nat.le_of_ble_eq_true rfl, Nat.le_of_ble_eq_true rfl⟩) [20, 21, 22, 23, 24, 25, 26, 27, 28, 29] [0, 1, 2, 3, 4, 5, 6, 7, 8, 9, 10, 11, 12, 13, 14, 15, 16, 17, 18, 19, 30] rfl rfl rfl rfl (by decide) (q0 := 20) (ci := 5) rfl rfl rfl rfl (Nat.le_of_ble_eq_true rfl) dL_law_789 ⟨by show 40 + 3 * z + 1 + 0 ≤ 601024; omega, by show 2500 + 168 * z + 6 + 0 ≤ 7293034; omega⟩ (fun u_3 H locs hu_4 hsz1 hP hD hS => ?_)
    have hP : va_P E.1 vwCl (wAll E o ad wm st gr co hb_ (nI mo) ga ca ha_ (nI ma) sd tk op sp rc rn wa ++ wMo E o2 ad2 (nI 1) gr co sd tk wm st (nI mo) nx lb fr ++ [(oq, .inl (E.2.2.2, 1, .inr (.inl lo)))]) H := hP.sub [0, 1, 2, 3, 4, 5, 6, 7, 8, 9, 10, 11, 12, 13, 14, 15, 16, 17, 18, 19, 21, 22, 23, 24, 25, 26, 27, 28, 29, 30, 20] rfl
    have hD : va_D (lA s) (wAll E o ad wm st gr co hb_ (nI mo) ga ca ha_ (nI ma) sd tk op sp rc rn wa ++ wMo E o2 ad2 (nI 1) gr co sd tk wm st (nI mo) nx lb fr ++ [(oq, .inl (E.2.2.2, 1, .inr (.inl lo)))]) := hD.sub [0, 1, 2, 3, 4, 5, 6, 7, 8, 9, 10, 11, 12, 13, 14, 15, 16, 17, 18, 19, 21, 22, 23, 24, 25, 26, 27, 28, 29, 30, 20] (by decide) rfl
    refine W.eq (g2 := F0 m 792 ls [.int (nI 0)]) rfl ?_
    refine lv_istore (lv' := [(6, .int (nI 0)), (5, .int (nI 1)), (4, .int (nI w)), (3, .ref oq), (2, .ref o2), (1, .ref o), (0, .ref b)]) hx hb dL_law_792 hl (by decide) rfl (fun ls hl => ?_)
    refine lv_aload_n hx hb dL_law_794 rfl (lv_at hl 4 rfl) ?_
    refine e_callV (As := []) (rest := []) ⟨hx, hb, hml, hown, hts⟩ hK hP hD hS hA hl.1 (c_X5_thrown l E _ o2 ad2 (nI 1) gr co sd tk wm st mo nx lb fr) (cwV 0 hts gL_law_X5_thrown rfl rfl rfl (by decide +kernel) ⟨Nat.le_of_ble_eq_true rfl, Nat.le_of_ble_eq_true rfl⟩) [20, 21, 22, 23, 24, 25, 26, 27, 28, 29] [0, 1, 2, 3, 4, 5, 6, 7, 8, 9, 10, 11, 12, 13, 14, 15, 16, 17, 18, 19, 30] rfl rfl rfl rfl (by decide) (q0 := 20) (ci := 5) rfl rfl rfl rfl (Nat.le_of_ble_eq_true rfl) dL_law_795 ⟨by show 40 + 3 * z + 1 + 0 + 0 ≤ 601024; omega, by show 2500 + 168 * z + 6 + 0 + 0 ≤ 7293034; omega⟩ (fun u_5 H locs hu_6 hsz1 hP hD hS => ?_)
    have hP : va_P E.1 vwCl (wAll E o ad wm st gr co hb_ (nI mo) ga ca ha_ (nI ma) sd tk op sp rc rn wa ++ wMo E o2 ad2 (nI 1) gr co sd tk wm st (nI mo) nx lb fr ++ [(oq, .inl (E.2.2.2, 1, .inr (.inl lo)))]) H := hP.sub [0, 1, 2, 3, 4, 5, 6, 7, 8, 9, 10, 11, 12, 13, 14, 15, 16, 17, 18, 19, 21, 22, 23, 24, 25, 26, 27, 28, 29, 30, 20] rfl
    have hD : va_D (lA s) (wAll E o ad wm st gr co hb_ (nI mo) ga ca ha_ (nI ma) sd tk op sp rc rn wa ++ wMo E o2 ad2 (nI 1) gr co sd tk wm st (nI mo) nx lb fr ++ [(oq, .inl (E.2.2.2, 1, .inr (.inl lo)))]) := hD.sub [0, 1, 2, 3, 4, 5, 6, 7, 8, 9, 10, 11, 12, 13, 14, 15, 16, 17, 18, 19, 21, 22, 23, 24, 25, 26, 27, 28, 29, 30, 20] (by decide) rfl
    refine W.eq (g2 := F0 m 798 ls [.int (nI 1)]) rfl ?_
    refine lv_iload hx hb dL_law_798 (lv_at hl 1 rfl) ?_
    refine n_icmp_eq (x := 1) (y := 1) (by omega) (by omega) (tgt := 805) hx hb dL_law_800 (by decide) (fun c800 => ?_) (fun c800 => absurd rfl c800)
    refine lv_iload hx hb dL_law_805 (lv_at hl 1 rfl) ?_
    refine n_if_ne (x := 1) (by omega) (tgt := 822) hx hb dL_law_807 (by decide) (fun c807 => ?_) (fun c807 => (by omega))
    refine lv_goto (tgt := 1129) hx hb dL_law_822 (by decide) ?_
    refine lv_iinc (v := nI (w + 4)) (lv' := [(4, .int (nI (w + 4))), (6, .int (nI 0)), (5, .int (nI 1)), (3, .ref oq), (2, .ref o2), (1, .ref o), (0, .ref b)]) hx hb dL_law_1129 hl (k := 2) rfl (nI_add w 4) (by decide) rfl (fun ls hl => ?_)
    refine lv_goto (tgt := 23) hx hb dL_law_1132 (by decide) ?_
    exact W.widen (by show 40 + 3 * z + 1 + 0 + 0 ≤ 40 + 3 * (z + 1); omega) (by show 2500 + 168 * z + 6 + 0 + 0 ≤ 2500 + 168 * (z + 1); omega) (kk (w + 4) wm st gr co hb_ mo ga ca ha_ ma sd tk op sp rc rn wa (nI 1) nx lb fr lo H locs ls (by omega) (by omega) hT hR hP hD hS (lv_sub hl [0, 3, 4, 5, 6] rfl))
  | true =>
    refine lv_aload_n hx hb dL_law_769 rfl (lv_at hl 3 rfl) ?_
    refine lv_aload_n hx hb dL_law_770 rfl (lv_at hl 4 rfl) ?_
    refine lv_iload hx hb dL_law_771 (lv_at hl 0 rfl) ?_
    refine lv_iconst (v := nI 1) hx hb dL_law_773 (by decide +kernel) ?_
    refine lv_iadd hx hb dL_law_774 ?_
    refine e_top (nI_add _ _) ?_
    refine e_sld hXs hbl hbA hS (w + 1) (by omega) (by omega) (v := xs (w + 1)) rfl hx hb dL_law_775 ?_
    refine lv_aload_n hx hb dL_law_776 rfl (lv_at hl 1 rfl) ?_
    refine e_callSH (As := [.ref o, .int (xs (w + 1)), .ref oq]) (rest := []) ⟨hx, hb, hml, hown, hts⟩ hK hX hP hD hS hA hl.1 (c_L_pilot l hlt E _ o ad wm st gr co hb_ mo ga ca ha_ ma sd tk op sp rc rn wa (xs (w + 1)) oq lo (by first | omega | assumption | rfl | (simp_all; done))) (vx_cwSW 3 hts gL_law_L_pilot rfl rfl rfl (by decide +kernel) ⟨Nat.le_of_ble_eq_true rfl, Nat.le_of_ble_eq_true rfl⟩) [0, 1, 2, 3, 4, 5, 6, 7, 8, 9, 10, 11, 12, 13, 14, 15, 16, 17, 18, 19, 30] [20, 21, 22, 23, 24, 25, 26, 27, 28, 29] rfl rfl rfl rfl (by decide) rfl rfl (Nat.le_of_ble_eq_true rfl) dL_law_777 ⟨by show 40 + 3 * z + 0 ≤ 601024; omega, by show 2500 + 168 * z + 0 ≤ 7293034; omega⟩ (fun u_7 H locs hu_8 hsz1 hP hD hS => ?_)
    obtain ⟨op__9, sp__10, rc__11, rn__12, wa__13⟩ := u_7
    have hP : va_P E.1 vwCl (wAll E o ad wm st gr co hb_ (nI mo) ga ca ha_ (nI ma) sd tk op__9 sp__10 rc__11 rn__12 wa__13 ++ wMo E o2 ad2 th gr co sd tk wm st (nI mo) nx lb fr ++ [(oq, .inl (E.2.2.2, 1, .inr (.inl (vp_updL lo 0 ((pilotN (chSafe sd tk (nI mo)) (dep gr co) (xs (w + 1))).toInt64)))))]) H := hP.sub [10, 11, 12, 13, 14, 15, 16, 17, 18, 19, 20, 21, 22, 23, 24, 25, 26, 27, 28, 29, 0, 1, 2, 3, 4, 5, 6, 7, 8, 9, 30] rfl
    have hD : va_D (lA s) (wAll E o ad wm st gr co hb_ (nI mo) ga ca ha_ (nI ma) sd tk op__9 sp__10 rc__11 rn__12 wa__13 ++ wMo E o2 ad2 th gr co sd tk wm st (nI mo) nx lb fr ++ [(oq, .inl (E.2.2.2, 1, .inr (.inl (vp_updL lo 0 ((pilotN (chSafe sd tk (nI mo)) (dep gr co) (xs (w + 1))).toInt64)))))]) := hD.sub [10, 11, 12, 13, 14, 15, 16, 17, 18, 19, 20, 21, 22, 23, 24, 25, 26, 27, 28, 29, 0, 1, 2, 3, 4, 5, 6, 7, 8, 9, 30] (by decide) rfl
    refine W.eq (g2 := F0 m 780 ls [.int (nI 0)]) rfl ?_
    refine lv_istore (lv' := [(5, .int (nI 0)), (4, .int (nI w)), (3, .ref oq), (2, .ref o2), (1, .ref o), (0, .ref b)]) hx hb dL_law_780 hl (by decide) rfl (fun ls hl => ?_)
    refine lv_aload_n hx hb dL_law_782 rfl (lv_at hl 3 rfl) ?_
    refine lv_aload_n hx hb dL_law_783 rfl (lv_at hl 5 rfl) ?_
    refine lv_iload hx hb dL_law_784 (lv_at hl 1 rfl) ?_
    refine lv_iconst (v := nI 1) hx hb dL_law_786 (by decide +kernel) ?_
    refine lv_iadd hx hb dL_law_787 ?_
    refine e_top (nI_add _ _) ?_
    refine e_sld hXs hbl hbA hS (w + 1) (by omega) (by omega) (v := xs (w + 1)) rfl hx hb dL_law_788 ?_
    refine e_callV (As := [.int (xs (w + 1))]) (rest := []) ⟨hx, hb, hml, hown, hts⟩ hK hP hD hS hA hl.1 (c_X5_pilot l E _ o2 ad2 th gr co sd tk wm st mo nx lb fr (xs (w + 1)) (by first | omega | assumption | rfl | (simp_all; done))) (cwV 1 hts gL_law_X5_pilot rfl rfl rfl (by decide +kernel) ⟨Nat.le_of_ble_eq_true rfl, Nat.le_of_ble_eq_true rfl⟩) [20, 21, 22, 23, 24, 25, 26, 27, 28, 29] [0, 1, 2, 3, 4, 5, 6, 7, 8, 9, 10, 11, 12, 13, 14, 15, 16, 17, 18, 19, 30] rfl rfl rfl rfl (by decide) (q0 := 20) (ci := 5) rfl rfl rfl rfl (Nat.le_of_ble_eq_true rfl) dL_law_789 ⟨by show 40 + 3 * z + 0 + 0 ≤ 601024; omega, by show 2500 + 168 * z + 0 + 0 ≤ 7293034; omega⟩ (fun u_14 H locs hu_15 hsz1 hP hD hS => ?_)
    obtain ⟨fr__16, rfl⟩ : ∃ z, z = u_14 := ⟨_, rfl⟩
    have hP : va_P E.1 vwCl (wAll E o ad wm st gr co hb_ (nI mo) ga ca ha_ (nI ma) sd tk op__9 sp__10 rc__11 rn__12 wa__13 ++ wMo E o2 ad2 (nI 0) gr co sd tk wm st (nI mo) nx lb fr__16 ++ [(oq, .inl (E.2.2.2, 1, .inr (.inl (vp_updL lo 0 ((pilotN (chSafe sd tk (nI mo)) (dep gr co) (xs (w + 1))).toInt64)))))]) H := hP.sub [0, 1, 2, 3, 4, 5, 6, 7, 8, 9, 10, 11, 12, 13, 14, 15, 16, 17, 18, 19, 21, 22, 23, 24, 25, 26, 27, 28, 29, 30, 20] rfl
    have hD : va_D (lA s) (wAll E o ad wm st gr co hb_ (nI mo) ga ca ha_ (nI ma) sd tk op__9 sp__10 rc__11 rn__12 wa__13 ++ wMo E o2 ad2 (nI 0) gr co sd tk wm st (nI mo) nx lb fr__16 ++ [(oq, .inl (E.2.2.2, 1, .inr (.inl (vp_updL lo 0 ((pilotN (chSafe sd tk (nI mo)) (dep gr co) (xs (w + 1))).toInt64)))))]) := hD.sub [0, 1, 2, 3, 4, 5, 6, 7, 8, 9, 10, 11, 12, 13, 14, 15, 16, 17, 18, 19, 21, 22, 23, 24, 25, 26, 27, 28, 29, 30, 20] (by decide) rfl
    refine W.eq (g2 := F0 m 792 ls [.int (pilotN (chSafe sd tk (nI mo)) (dep gr co) (xs (w + 1)))]) rfl ?_
    refine lv_istore (lv' := [(6, .int (pilotN (chSafe sd tk (nI mo)) (dep gr co) (xs (w + 1)))), (5, .int (nI 0)), (4, .int (nI w)), (3, .ref oq), (2, .ref o2), (1, .ref o), (0, .ref b)]) hx hb dL_law_792 hl (by decide) rfl (fun ls hl => ?_)
    refine lv_aload_n hx hb dL_law_794 rfl (lv_at hl 4 rfl) ?_
    refine e_callV (As := []) (rest := []) ⟨hx, hb, hml, hown, hts⟩ hK hP hD hS hA hl.1 (c_X5_thrown l E _ o2 ad2 (nI 0) gr co sd tk wm st mo nx lb fr__16) (cwV 0 hts gL_law_X5_thrown rfl rfl rfl (by decide +kernel) ⟨Nat.le_of_ble_eq_true rfl, Nat.le_of_ble_eq_true rfl⟩) [20, 21, 22, 23, 24, 25, 26, 27, 28, 29] [0, 1, 2, 3, 4, 5, 6, 7, 8, 9, 10, 11, 12, 13, 14, 15, 16, 17, 18, 19, 30] rfl rfl rfl rfl (by decide) (q0 := 20) (ci := 5) rfl rfl rfl rfl (Nat.le_of_ble_eq_true rfl) dL_law_795 ⟨by show 40 + 3 * z + 0 + 0 + 0 ≤ 601024; omega, by show 2500 + 168 * z + 0 + 0 + 0 ≤ 7293034; omega⟩ (fun u_17 H locs hu_18 hsz1 hP hD hS => ?_)
    have hP : va_P E.1 vwCl (wAll E o ad wm st gr co hb_ (nI mo) ga ca ha_ (nI ma) sd tk op__9 sp__10 rc__11 rn__12 wa__13 ++ wMo E o2 ad2 (nI 0) gr co sd tk wm st (nI mo) nx lb fr__16 ++ [(oq, .inl (E.2.2.2, 1, .inr (.inl (vp_updL lo 0 ((pilotN (chSafe sd tk (nI mo)) (dep gr co) (xs (w + 1))).toInt64)))))]) H := hP.sub [0, 1, 2, 3, 4, 5, 6, 7, 8, 9, 10, 11, 12, 13, 14, 15, 16, 17, 18, 19, 21, 22, 23, 24, 25, 26, 27, 28, 29, 30, 20] rfl
    have hD : va_D (lA s) (wAll E o ad wm st gr co hb_ (nI mo) ga ca ha_ (nI ma) sd tk op__9 sp__10 rc__11 rn__12 wa__13 ++ wMo E o2 ad2 (nI 0) gr co sd tk wm st (nI mo) nx lb fr__16 ++ [(oq, .inl (E.2.2.2, 1, .inr (.inl (vp_updL lo 0 ((pilotN (chSafe sd tk (nI mo)) (dep gr co) (xs (w + 1))).toInt64)))))]) := hD.sub [0, 1, 2, 3, 4, 5, 6, 7, 8, 9, 10, 11, 12, 13, 14, 15, 16, 17, 18, 19, 21, 22, 23, 24, 25, 26, 27, 28, 29, 30, 20] (by decide) rfl
    refine W.eq (g2 := F0 m 798 ls [.int (nI 0)]) rfl ?_
    refine lv_iload hx hb dL_law_798 (lv_at hl 1 rfl) ?_
    refine n_icmp_eq (x := 0) (y := 0) (by omega) (by omega) (tgt := 805) hx hb dL_law_800 (by decide) (fun c800 => ?_) (fun c800 => absurd rfl c800)
    refine lv_iload hx hb dL_law_805 (lv_at hl 1 rfl) ?_
    refine n_if_ne (x := 0) (by omega) (tgt := 822) hx hb dL_law_807 (by decide) (fun c807 => (by omega)) (fun c807 => ?_)
    refine lv_aload_n hx hb dL_law_810 rfl (lv_at hl 3 rfl) ?_
    refine lv_iconst (v := nI 0) hx hb dL_law_811 (by decide +kernel) ?_
    refine e_lald hK hP 30 rfl 0 (by omega) (by decide) hx hb dL_law_812 ?_
    refine lv_iload hx hb dL_law_813 (lv_at hl 0 rfl) ?_
    refine lv_i2l hx hb dL_law_815 rfl ?_
    refine W.lcmp hx hb dL_law_816 ?_
    refine e_top (y := nI 0) (show lg_cmp ((vp_updL lo 0 ((pilotN (chSafe sd tk (nI mo)) (dep gr co) (xs (w + 1))).toInt64)) 0) ((pilotN (chSafe sd tk (nI mo)) (dep gr co) (xs (w + 1))).toInt64) = nI 0 from (lg_cmp_eq _ _).mpr rfl) ?_
    refine n_if_eq (x := 0) (by omega) (tgt := 822) hx hb dL_law_817 (by decide) (fun c817 => ?_) (fun c817 => (by omega))
    refine lv_goto (tgt := 1129) hx hb dL_law_822 (by decide) ?_
    refine lv_iinc (v := nI (w + 4)) (lv' := [(4, .int (nI (w + 4))), (6, .int (pilotN (chSafe sd tk (nI mo)) (dep gr co) (xs (w + 1)))), (5, .int (nI 0)), (3, .ref oq), (2, .ref o2), (1, .ref o), (0, .ref b)]) hx hb dL_law_1129 hl (k := 2) rfl (nI_add w 4) (by decide) rfl (fun ls hl => ?_)
    refine lv_goto (tgt := 23) hx hb dL_law_1132 (by decide) ?_
    exact W.widen (by show 40 + 3 * z + 0 + 0 + 0 ≤ 40 + 3 * (z + 1); omega) (by show 2500 + 168 * z + 0 + 0 + 0 ≤ 2500 + 168 * (z + 1); omega) (kk (w + 4) wm st gr co hb_ mo ga ca ha_ ma sd tk op__9 sp__10 rc__11 rn__12 wa__13 (nI 0) nx lb fr__16 (vp_updL lo 0 ((pilotN (chSafe sd tk (nI mo)) (dep gr co) (xs (w + 1))).toInt64)) H locs ls (by omega) (by omega) hT hR hP hD hS (lv_sub hl [0, 3, 4, 5, 6] rfl))

set_option maxHeartbeats 16000000 in
set_option maxRecDepth 100000 in
theorem k_case10 {p : Program} {e : Env} {s : State} {m : MethodId} {below : List Frame} {meth : Method} {cd : Code} (l : Launch) (hlt : l.stackTraces = false) {b L : Nat} {xs : Nat → Int32} {E : eT} (C : lC p s m cd b L xs E) {Q : State → Prop} {o : Nat} {ad : Nat → Nat} {o2 : Nat} {ad2 : Nat → Nat} {oq : Nat} (z w : Nat) (kk : lHead p l e s m below meth cd b E Q o ad o2 ad2 oq (z + 1)) (hi : w + 4 ≤ L) (wm : Nat → Int32) (st : Nat → Int32) (gr : Nat → Int32) (co : Nat → Int32) (hb_ : Nat → Bool) (mo : Nat) (ga : Nat → Int32) (ca : Nat → Int32) (ha_ : Nat → Bool) (ma : Nat) (sd : Nat → Int32) (tk : Nat → Int32) (op : Nat → Bool) (sp : Nat → Nat) (rc : Nat → Nat) (rn : Nat) (wa : Nat → Int32) (th : Int32) (nx : Nat → Int32) (lb : Nat → Option Nat) (fr : Nat → Nat) (lo : Nat → Int64) (H : Heap) (locs : List Loc) (ls : Array Slot) (hw : w = 4 * z) (hmo : mo ≤ 120 * z) (hT : Tb wm st) (hR : Rg gr co) (hP : va_P E.1 vwCl (wAll E o ad wm st gr co hb_ (nI mo) ga ca ha_ (nI ma) sd tk op sp rc rn wa ++ wMo E o2 ad2 th gr co sd tk wm st (nI mo) nx lb fr ++ [(oq, .inl (E.2.2.2, 1, .inr (.inl lo)))]) H) (hD : va_D (lA s) (wAll E o ad wm st gr co hb_ (nI mo) ga ca ha_ (nI ma) sd tk op sp rc rn wa ++ wMo E o2 ad2 th gr co sd tk wm st (nI mo) nx lb fr ++ [(oq, .inl (E.2.2.2, 1, .inr (.inl lo)))])) (hS : va_S (lA s) s.heap H locs) (hl : lv_has ls 9 [(4, .int (nI w)), (3, .ref oq), (2, .ref o2), (1, .ref o), (0, .ref b)]) : W p l e room_1 s m #[Value.ref b] below meth cd H locs (40 + 3 * z) (2500 + 168 * z) Q (F0 m 825 ls []) := by
  obtain ⟨hx, hb, hml, hown, hts, hK, hX, hXs, hbl, hL⟩ := C
  have hA : ∀ q : Nat, s.heap.size ≤ q → lA s q := fun _ h => h
  have hbA : ¬ lA s b := Nat.not_le.mpr hbl
  have hz : z ≤ 512 := by omega
  cases hv : isInB (xs (w + 1)) (nI 1) (nI 120) with
  | false =>
    refine lv_aload_n hx hb dL_law_825 rfl (lv_at hl 3 rfl) ?_
    refine lv_aload_n hx hb dL_law_826 rfl (lv_at hl 4 rfl) ?_
    refine lv_iload hx hb dL_law_827 (lv_at hl 0 rfl) ?_
    refine lv_iconst (v := nI 1) hx hb dL_law_829 (by decide +kernel) ?_
    refine lv_iadd hx hb dL_law_830 ?_
    refine e_top (nI_add _ _) ?_
    refine e_sld hXs hbl hbA hS (w + 1) (by omega) (by omega) (v := xs (w + 1)) rfl hx hb dL_law_831 ?_
    refine lv_aload_n hx hb dL_law_832 rfl (lv_at hl 1 rfl) ?_
    refine e_callSH (As := [.ref o, .int (xs (w + 1)), .ref oq]) (rest := []) ⟨hx, hb, hml, hown, hts⟩ hK hX hP hD hS hA hl.1 (c_L_pass_b1 l hlt E _ o ad wm st gr co hb_ mo ga ca ha_ ma sd tk op sp rc rn wa (xs (w + 1)) oq lo (hv)) (vx_cwSW 3 hts gL_law_L_pass rfl rfl rfl (by decide +kernel) ⟨Nat.le_of_ble_eq_true rfl, Nat.le_of_ble_eq_true rfl⟩) [0, 1, 2, 3, 4, 5, 6, 7, 8, 9, 10, 11, 12, 13, 14, 15, 16, 17, 18, 19, 30] [20, 21, 22, 23, 24, 25, 26, 27, 28, 29] rfl rfl rfl rfl (by decide) rfl rfl (Nat.le_of_ble_eq_true rfl) dL_law_833 ⟨by show 40 + 3 * z + 1 ≤ 601024; omega, by show 2500 + 168 * z + 6 ≤ 7293034; omega⟩ (fun u_1 H locs hu_2 hsz1 hP hD hS => ?_)
    have hP : va_P E.1 vwCl (wAll E o ad wm st gr co hb_ (nI mo) ga ca ha_ (nI ma) sd tk op sp rc rn wa ++ wMo E o2 ad2 th gr co sd tk wm st (nI mo) nx lb fr ++ [(oq, .inl (E.2.2.2, 1, .inr (.inl lo)))]) H := hP.sub [10, 11, 12, 13, 14, 15, 16, 17, 18, 19, 20, 21, 22, 23, 24, 25, 26, 27, 28, 29, 0, 1, 2, 3, 4, 5, 6, 7, 8, 9, 30] rfl
    have hD : va_D (lA s) (wAll E o ad wm st gr co hb_ (nI mo) ga ca ha_ (nI ma) sd tk op sp rc rn wa ++ wMo E o2 ad2 th gr co sd tk wm st (nI mo) nx lb fr ++ [(oq, .inl (E.2.2.2, 1, .inr (.inl lo)))]) := hD.sub [10, 11, 12, 13, 14, 15, 16, 17, 18, 19, 20, 21, 22, 23, 24, 25, 26, 27, 28, 29, 0, 1, 2, 3, 4, 5, 6, 7, 8, 9, 30] (by decide) rfl
    refine W.eq (g2 := F0 m 836 ls [.int (nI 1)]) rfl ?_
    refine lv_istore (lv' := [(5, .int (nI 1)), (4, .int (nI w)), (3, .ref oq), (2, .ref o2), (1, .ref o), (0, .ref b)]) hx hb dL_law_836 hl (by decide) rfl (fun ls hl => ?_)
    refine lv_aload_n hx hb dL_law_838 rfl (lv_at hl 3 rfl) ?_
    refine lv_aload_n hx hb dL_law_839 rfl (lv_at hl 5 rfl) ?_
    refine lv_iload hx hb dL_law_840 (lv_at hl 1 rfl) ?_
    refine lv_iconst (v := nI 1) hx hb dL_law_842 (by decide +kernel) ?_
    refine lv_iadd hx hb dL_law_843 ?_
    refine e_top (nI_add _ _) ?_
    refine e_sld hXs hbl hbA hS (w + 1) (by omega) (by omega) (v := xs (w + 1)) rfl hx hb dL_law_844 ?_
    refine e_callV (As := [.int (xs (w + 1))]) (rest := []) ⟨hx, hb, hml, hown, hts⟩ hK hP hD hS hA hl.1 (c_X5_pass_b1 l E _ o2 ad2 th gr co sd tk wm st mo nx lb fr (xs (w + 1)) (hv)) (cwV 1 hts gL_law_X5_pass rfl rfl rfl (by decide +kernel) ⟨Nat.le_of_ble_eq_true rfl, Nat.le_of_ble_eq_true rfl⟩) [20, 21, 22, 23, 24, 25, 26, 27, 28, 29] [0, 1, 2, 3, 4, 5, 6, 7, 8, 9, 10, 11, 12, 13, 14, 15, 16, 17, 18, 19, 30] rfl rfl rfl rfl (by decide) (q0 := 20) (ci := 5) rfl rfl rfl rfl (Nat.le_of_ble_eq_true rfl) dL_law_845 ⟨by show 40 + 3 * z + 1 + 0 ≤ 601024; omega, by show 2500 + 168 * z + 6 + 0 ≤ 7293034; omega⟩ (fun u_3 H locs hu_4 hsz1 hP hD hS => ?_)
    have hP : va_P E.1 vwCl (wAll E o ad wm st gr co hb_ (nI mo) ga ca ha_ (nI ma) sd tk op sp rc rn wa ++ wMo E o2 ad2 (nI 1) gr co sd tk wm st (nI mo) nx lb fr ++ [(oq, .inl (E.2.2.2, 1, .inr (.inl lo)))]) H := hP.sub [0, 1, 2, 3, 4, 5, 6, 7, 8, 9, 10, 11, 12, 13, 14, 15, 16, 17, 18, 19, 21, 22, 23, 24, 25, 26, 27, 28, 29, 30, 20] rfl
    have hD : va_D (lA s) (wAll E o ad wm st gr co hb_ (nI mo) ga ca ha_ (nI ma) sd tk op sp rc rn wa ++ wMo E o2 ad2 (nI 1) gr co sd tk wm st (nI mo) nx lb fr ++ [(oq, .inl (E.2.2.2, 1, .inr (.inl lo)))]) := hD.sub [0, 1, 2, 3, 4, 5, 6, 7, 8, 9, 10, 11, 12, 13, 14, 15, 16, 17, 18, 19, 21, 22, 23, 24, 25, 26, 27, 28, 29, 30, 20] (by decide) rfl
    refine W.eq (g2 := F0 m 848 ls [.int (nI 0)]) rfl ?_
    refine lv_istore (lv' := [(6, .int (nI 0)), (5, .int (nI 1)), (4, .int (nI w)), (3, .ref oq), (2, .ref o2), (1, .ref o), (0, .ref b)]) hx hb dL_law_848 hl (by decide) rfl (fun ls hl => ?_)
    refine lv_aload_n hx hb dL_law_850 rfl (lv_at hl 4 rfl) ?_
    refine e_callV (As := []) (rest := []) ⟨hx, hb, hml, hown, hts⟩ hK hP hD hS hA hl.1 (c_X5_thrown l E _ o2 ad2 (nI 1) gr co sd tk wm st mo nx lb fr) (cwV 0 hts gL_law_X5_thrown rfl rfl rfl (by decide +kernel) ⟨Nat.le_of_ble_eq_true rfl, Nat.le_of_ble_eq_true rfl⟩) [20, 21, 22, 23, 24, 25, 26, 27, 28, 29] [0, 1, 2, 3, 4, 5, 6, 7, 8, 9, 10, 11, 12, 13, 14, 15, 16, 17, 18, 19, 30] rfl rfl rfl rfl (by decide) (q0 := 20) (ci := 5) rfl rfl rfl rfl (Nat.le_of_ble_eq_true rfl) dL_law_851 ⟨by show 40 + 3 * z + 1 + 0 + 0 ≤ 601024; omega, by show 2500 + 168 * z + 6 + 0 + 0 ≤ 7293034; omega⟩ (fun u_5 H locs hu_6 hsz1 hP hD hS => ?_)
    have hP : va_P E.1 vwCl (wAll E o ad wm st gr co hb_ (nI mo) ga ca ha_ (nI ma) sd tk op sp rc rn wa ++ wMo E o2 ad2 (nI 1) gr co sd tk wm st (nI mo) nx lb fr ++ [(oq, .inl (E.2.2.2, 1, .inr (.inl lo)))]) H := hP.sub [0, 1, 2, 3, 4, 5, 6, 7, 8, 9, 10, 11, 12, 13, 14, 15, 16, 17, 18, 19, 21, 22, 23, 24, 25, 26, 27, 28, 29, 30, 20] rfl
    have hD : va_D (lA s) (wAll E o ad wm st gr co hb_ (nI mo) ga ca ha_ (nI ma) sd tk op sp rc rn wa ++ wMo E o2 ad2 (nI 1) gr co sd tk wm st (nI mo) nx lb fr ++ [(oq, .inl (E.2.2.2, 1, .inr (.inl lo)))]) := hD.sub [0, 1, 2, 3, 4, 5, 6, 7, 8, 9, 10, 11, 12, 13, 14, 15, 16, 17, 18, 19, 21, 22, 23, 24, 25, 26, 27, 28, 29, 30, 20] (by decide) rfl
    refine W.eq (g2 := F0 m 854 ls [.int (nI 1)]) rfl ?_
    refine lv_iload hx hb dL_law_854 (lv_at hl 1 rfl) ?_
    refine n_icmp_eq (x := 1) (y := 1) (by omega) (by omega) (tgt := 861) hx hb dL_law_856 (by decide) (fun c856 => ?_) (fun c856 => absurd rfl c856)
    refine lv_iload hx hb dL_law_861 (lv_at hl 1 rfl) ?_
    refine n_if_ne (x := 1) (by omega) (tgt := 878) hx hb dL_law_863 (by decide) (fun c863 => ?_) (fun c863 => (by omega))
    refine lv_goto (tgt := 1129) hx hb dL_law_878 (by decide) ?_
    refine lv_iinc (v := nI (w + 4)) (lv' := [(4, .int (nI (w + 4))), (6, .int (nI 0)), (5, .int (nI 1)), (3, .ref oq), (2, .ref o2), (1, .ref o), (0, .ref b)]) hx hb dL_law_1129 hl (k := 2) rfl (nI_add w 4) (by decide) rfl (fun ls hl => ?_)
    refine lv_goto (tgt := 23) hx hb dL_law_1132 (by decide) ?_
    exact W.widen (by show 40 + 3 * z + 1 + 0 + 0 ≤ 40 + 3 * (z + 1); omega) (by show 2500 + 168 * z + 6 + 0 + 0 ≤ 2500 + 168 * (z + 1); omega) (kk (w + 4) wm st gr co hb_ mo ga ca ha_ ma sd tk op sp rc rn wa (nI 1) nx lb fr lo H locs ls (by omega) (by omega) hT hR hP hD hS (lv_sub hl [0, 3, 4, 5, 6] rfl))
  | true =>
    obtain ⟨k, hv1, hv2, e1⟩ := isInB_nat (by decide) hv (by decide)
    refine lv_aload_n hx hb dL_law_825 rfl (lv_at hl 3 rfl) ?_
    refine lv_aload_n hx hb dL_law_826 rfl (lv_at hl 4 rfl) ?_
    refine lv_iload hx hb dL_law_827 (lv_at hl 0 rfl) ?_
    refine lv_iconst (v := nI 1) hx hb dL_law_829 (by decide +kernel) ?_
    refine lv_iadd hx hb dL_law_830 ?_
    refine e_top (nI_add _ _) ?_
    refine e_sld hXs hbl hbA hS (w + 1) (by omega) (by omega) (v := nI k) e1 hx hb dL_law_831 ?_
    refine lv_aload_n hx hb dL_law_832 rfl (lv_at hl 1 rfl) ?_
    refine e_callSH (As := [.ref o, .int (nI k), .ref oq]) (rest := []) ⟨hx, hb, hml, hown, hts⟩ hK hX hP hD hS hA hl.1 (c_L_pass l hlt E _ o ad wm st gr co hb_ mo ga ca ha_ ma sd tk op sp rc rn wa k oq lo (by first | omega | assumption | rfl | (simp_all; done)) (by first | omega | assumption | rfl | (simp_all; done)) (by first | omega | assumption | rfl | (simp_all; done))) (vx_cwSW 3 hts gL_law_L_pass rfl rfl rfl (by decide +kernel) ⟨Nat.le_of_ble_eq_true rfl, Nat.le_of_ble_eq_true rfl⟩) [0, 1, 2, 3, 4, 5, 6, 7, 8, 9, 10, 11, 12, 13, 14, 15, 16, 17, 18, 19, 30] [20, 21, 22, 23, 24, 25, 26, 27, 28, 29] rfl rfl rfl rfl (by decide) rfl rfl (Nat.le_of_ble_eq_true rfl) dL_law_833 ⟨by show 40 + 3 * z + 0 ≤ 601024; omega, by show 2500 + 168 * z + 0 ≤ 7293034; omega⟩ (fun u_7 H locs hu_8 hsz1 hP hD hS => ?_)
    obtain ⟨hb1__9, rfl⟩ : ∃ z, z = u_7 := ⟨_, rfl⟩
    have hP : va_P E.1 vwCl (wAll E o ad wm st ((months wm st (gr, co) mo k).1) ((months wm st (gr, co) mo k).2) hb1__9 (nI (mo + k)) ga ca ha_ (nI ma) sd tk op sp rc rn wa ++ wMo E o2 ad2 th gr co sd tk wm st (nI mo) nx lb fr ++ [(oq, .inl (E.2.2.2, 1, .inr (.inl (vp_updL lo 0 ((nI (heads (months wm st (gr, co) mo k).2) - nI (heads co)).toInt64)))))]) H := hP.sub [10, 11, 12, 13, 14, 15, 16, 17, 18, 19, 20, 21, 22, 23, 24, 25, 26, 27, 28, 29, 0, 1, 2, 3, 4, 5, 6, 7, 8, 9, 30] rfl
    have hD : va_D (lA s) (wAll E o ad wm st ((months wm st (gr, co) mo k).1) ((months wm st (gr, co) mo k).2) hb1__9 (nI (mo + k)) ga ca ha_ (nI ma) sd tk op sp rc rn wa ++ wMo E o2 ad2 th gr co sd tk wm st (nI mo) nx lb fr ++ [(oq, .inl (E.2.2.2, 1, .inr (.inl (vp_updL lo 0 ((nI (heads (months wm st (gr, co) mo k).2) - nI (heads co)).toInt64)))))]) := hD.sub [10, 11, 12, 13, 14, 15, 16, 17, 18, 19, 20, 21, 22, 23, 24, 25, 26, 27, 28, 29, 0, 1, 2, 3, 4, 5, 6, 7, 8, 9, 30] (by decide) rfl
    refine W.eq (g2 := F0 m 836 ls [.int (nI 0)]) rfl ?_
    refine lv_istore (lv' := [(5, .int (nI 0)), (4, .int (nI w)), (3, .ref oq), (2, .ref o2), (1, .ref o), (0, .ref b)]) hx hb dL_law_836 hl (by decide) rfl (fun ls hl => ?_)
    refine lv_aload_n hx hb dL_law_838 rfl (lv_at hl 3 rfl) ?_
    refine lv_aload_n hx hb dL_law_839 rfl (lv_at hl 5 rfl) ?_
    refine lv_iload hx hb dL_law_840 (lv_at hl 1 rfl) ?_
    refine lv_iconst (v := nI 1) hx hb dL_law_842 (by decide +kernel) ?_
    refine lv_iadd hx hb dL_law_843 ?_
    refine e_top (nI_add _ _) ?_
    refine e_sld hXs hbl hbA hS (w + 1) (by omega) (by omega) (v := nI k) e1 hx hb dL_law_844 ?_
    refine e_callV (As := [.int (nI k)]) (rest := []) ⟨hx, hb, hml, hown, hts⟩ hK hP hD hS hA hl.1 (c_X5_pass l E _ o2 ad2 th gr co sd tk wm st mo nx lb fr k (by first | omega | assumption | rfl | (simp_all; done)) (by first | omega | assumption | rfl | (simp_all; done)) (by first | omega | assumption | rfl | (simp_all; done)) (by first | omega | assumption | rfl | (simp_all; done)) (by first | omega | assumption | rfl | (simp_all; done))) (cwV 1 hts gL_law_X5_pass rfl rfl rfl (by decide +kernel) ⟨Nat.le_of_ble_eq_true rfl, Nat.le_of_ble_eq_true rfl⟩) [20, 21, 22, 23, 24, 25, 26, 27, 28, 29] [0, 1, 2, 3, 4, 5, 6, 7, 8, 9, 10, 11, 12, 13, 14, 15, 16, 17, 18, 19, 30] rfl rfl rfl rfl (by decide) (q0 := 20) (ci := 5) rfl rfl rfl rfl (Nat.le_of_ble_eq_true rfl) dL_law_845 ⟨by show 40 + 3 * z + 0 + 0 ≤ 601024; omega, by show 2500 + 168 * z + 0 + 0 ≤ 7293034; omega⟩ (fun u_10 H locs hu_11 hsz1 hP hD hS => ?_)
    obtain ⟨nx__12, rfl⟩ : ∃ z, z = u_10 := ⟨_, rfl⟩
    have hP : va_P E.1 vwCl (wAll E o ad wm st ((months wm st (gr, co) mo k).1) ((months wm st (gr, co) mo k).2) hb1__9 (nI (mo + k)) ga ca ha_ (nI ma) sd tk op sp rc rn wa ++ wMo E o2 ad2 (nI 0) ((months wm st (gr, co) mo k).1) ((months wm st (gr, co) mo k).2) sd tk wm st (nI (mo + k)) nx__12 lb fr ++ [(oq, .inl (E.2.2.2, 1, .inr (.inl (vp_updL lo 0 ((nI (heads (months wm st (gr, co) mo k).2) - nI (heads co)).toInt64)))))]) H := hP.sub [0, 1, 2, 3, 4, 5, 6, 7, 8, 9, 10, 11, 12, 13, 14, 15, 16, 17, 18, 19, 21, 22, 23, 24, 25, 26, 27, 28, 29, 30, 20] rfl
    have hD : va_D (lA s) (wAll E o ad wm st ((months wm st (gr, co) mo k).1) ((months wm st (gr, co) mo k).2) hb1__9 (nI (mo + k)) ga ca ha_ (nI ma) sd tk op sp rc rn wa ++ wMo E o2 ad2 (nI 0) ((months wm st (gr, co) mo k).1) ((months wm st (gr, co) mo k).2) sd tk wm st (nI (mo + k)) nx__12 lb fr ++ [(oq, .inl (E.2.2.2, 1, .inr (.inl (vp_updL lo 0 ((nI (heads (months wm st (gr, co) mo k).2) - nI (heads co)).toInt64)))))]) := hD.sub [0, 1, 2, 3, 4, 5, 6, 7, 8, 9, 10, 11, 12, 13, 14, 15, 16, 17, 18, 19, 21, 22, 23, 24, 25, 26, 27, 28, 29, 30, 20] (by decide) rfl
    refine W.eq (g2 := F0 m 848 ls [.int (nI (heads (months wm st (gr, co) mo k).2) - nI (heads co))]) rfl ?_
    refine lv_istore (lv' := [(6, .int (nI (heads (months wm st (gr, co) mo k).2) - nI (heads co))), (5, .int (nI 0)), (4, .int (nI w)), (3, .ref oq), (2, .ref o2), (1, .ref o), (0, .ref b)]) hx hb dL_law_848 hl (by decide) rfl (fun ls hl => ?_)
    refine lv_aload_n hx hb dL_law_850 rfl (lv_at hl 4 rfl) ?_
    refine e_callV (As := []) (rest := []) ⟨hx, hb, hml, hown, hts⟩ hK hP hD hS hA hl.1 (c_X5_thrown l E _ o2 ad2 (nI 0) ((months wm st (gr, co) mo k).1) ((months wm st (gr, co) mo k).2) sd tk wm st (mo + k) nx__12 lb fr) (cwV 0 hts gL_law_X5_thrown rfl rfl rfl (by decide +kernel) ⟨Nat.le_of_ble_eq_true rfl, Nat.le_of_ble_eq_true rfl⟩) [20, 21, 22, 23, 24, 25, 26, 27, 28, 29] [0, 1, 2, 3, 4, 5, 6, 7, 8, 9, 10, 11, 12, 13, 14, 15, 16, 17, 18, 19, 30] rfl rfl rfl rfl (by decide) (q0 := 20) (ci := 5) rfl rfl rfl rfl (Nat.le_of_ble_eq_true rfl) dL_law_851 ⟨by show 40 + 3 * z + 0 + 0 + 0 ≤ 601024; omega, by show 2500 + 168 * z + 0 + 0 + 0 ≤ 7293034; omega⟩ (fun u_13 H locs hu_14 hsz1 hP hD hS => ?_)
    have hP : va_P E.1 vwCl (wAll E o ad wm st ((months wm st (gr, co) mo k).1) ((months wm st (gr, co) mo k).2) hb1__9 (nI (mo + k)) ga ca ha_ (nI ma) sd tk op sp rc rn wa ++ wMo E o2 ad2 (nI 0) ((months wm st (gr, co) mo k).1) ((months wm st (gr, co) mo k).2) sd tk wm st (nI (mo + k)) nx__12 lb fr ++ [(oq, .inl (E.2.2.2, 1, .inr (.inl (vp_updL lo 0 ((nI (heads (months wm st (gr, co) mo k).2) - nI (heads co)).toInt64)))))]) H := hP.sub [0, 1, 2, 3, 4, 5, 6, 7, 8, 9, 10, 11, 12, 13, 14, 15, 16, 17, 18, 19, 21, 22, 23, 24, 25, 26, 27, 28, 29, 30, 20] rfl
    have hD : va_D (lA s) (wAll E o ad wm st ((months wm st (gr, co) mo k).1) ((months wm st (gr, co) mo k).2) hb1__9 (nI (mo + k)) ga ca ha_ (nI ma) sd tk op sp rc rn wa ++ wMo E o2 ad2 (nI 0) ((months wm st (gr, co) mo k).1) ((months wm st (gr, co) mo k).2) sd tk wm st (nI (mo + k)) nx__12 lb fr ++ [(oq, .inl (E.2.2.2, 1, .inr (.inl (vp_updL lo 0 ((nI (heads (months wm st (gr, co) mo k).2) - nI (heads co)).toInt64)))))]) := hD.sub [0, 1, 2, 3, 4, 5, 6, 7, 8, 9, 10, 11, 12, 13, 14, 15, 16, 17, 18, 19, 21, 22, 23, 24, 25, 26, 27, 28, 29, 30, 20] (by decide) rfl
    refine W.eq (g2 := F0 m 854 ls [.int (nI 0)]) rfl ?_
    refine lv_iload hx hb dL_law_854 (lv_at hl 1 rfl) ?_
    refine n_icmp_eq (x := 0) (y := 0) (by omega) (by omega) (tgt := 861) hx hb dL_law_856 (by decide) (fun c856 => ?_) (fun c856 => absurd rfl c856)
    refine lv_iload hx hb dL_law_861 (lv_at hl 1 rfl) ?_
    refine n_if_ne (x := 0) (by omega) (tgt := 878) hx hb dL_law_863 (by decide) (fun c863 => (by omega)) (fun c863 => ?_)
    refine lv_aload_n hx hb dL_law_866 rfl (lv_at hl 3 rfl) ?_
    refine lv_iconst (v := nI 0) hx hb dL_law_867 (by decide +kernel) ?_
    refine e_lald hK hP 30 rfl 0 (by omega) (by decide) hx hb dL_law_868 ?_
    refine lv_iload hx hb dL_law_869 (lv_at hl 0 rfl) ?_
    refine lv_i2l hx hb dL_law_871 rfl ?_
    refine W.lcmp hx hb dL_law_872 ?_
    refine e_top (y := nI 0) (show lg_cmp ((vp_updL lo 0 ((nI (heads (months wm st (gr, co) mo k).2) - nI (heads co)).toInt64)) 0) ((nI (heads (months wm st (gr, co) mo k).2) - nI (heads co)).toInt64) = nI 0 from (lg_cmp_eq _ _).mpr rfl) ?_
    refine n_if_eq (x := 0) (by omega) (tgt := 878) hx hb dL_law_873 (by decide) (fun c873 => ?_) (fun c873 => (by omega))
    refine lv_goto (tgt := 1129) hx hb dL_law_878 (by decide) ?_
    refine lv_iinc (v := nI (w + 4)) (lv' := [(4, .int (nI (w + 4))), (6, .int (nI (heads (months wm st (gr, co) mo k).2) - nI (heads co))), (5, .int (nI 0)), (3, .ref oq), (2, .ref o2), (1, .ref o), (0, .ref b)]) hx hb dL_law_1129 hl (k := 2) rfl (nI_add w 4) (by decide) rfl (fun ls hl => ?_)
    refine lv_goto (tgt := 23) hx hb dL_law_1132 (by decide) ?_
    exact W.widen (by show 40 + 3 * z + 0 + 0 + 0 ≤ 40 + 3 * (z + 1); omega) (by show 2500 + 168 * z + 0 + 0 + 0 ≤ 2500 + 168 * (z + 1); omega) (kk (w + 4) wm st ((months wm st (gr, co) mo k).1) ((months wm st (gr, co) mo k).2) hb1__9 (mo + k) ga ca ha_ ma sd tk op sp rc rn wa (nI 0) nx__12 lb fr (vp_updL lo 0 ((nI (heads (months wm st (gr, co) mo k).2) - nI (heads co)).toInt64)) H locs ls (by omega) (by omega) hT (Rg_months hT (x := (gr, co)) hR mo k) hP hD hS (lv_sub hl [0, 3, 4, 5, 6] rfl))

set_option maxHeartbeats 16000000 in
set_option maxRecDepth 100000 in
theorem k_case11 {p : Program} {e : Env} {s : State} {m : MethodId} {below : List Frame} {meth : Method} {cd : Code} (l : Launch) (hlt : l.stackTraces = false) {b L : Nat} {xs : Nat → Int32} {E : eT} (C : lC p s m cd b L xs E) {Q : State → Prop} {o : Nat} {ad : Nat → Nat} {o2 : Nat} {ad2 : Nat → Nat} {oq : Nat} (z w : Nat) (kk : lHead p l e s m below meth cd b E Q o ad o2 ad2 oq (z + 1)) (hi : w + 4 ≤ L) (wm : Nat → Int32) (st : Nat → Int32) (gr : Nat → Int32) (co : Nat → Int32) (hb_ : Nat → Bool) (mo : Nat) (ga : Nat → Int32) (ca : Nat → Int32) (ha_ : Nat → Bool) (ma : Nat) (sd : Nat → Int32) (tk : Nat → Int32) (op : Nat → Bool) (sp : Nat → Nat) (rc : Nat → Nat) (rn : Nat) (wa : Nat → Int32) (th : Int32) (nx : Nat → Int32) (lb : Nat → Option Nat) (fr : Nat → Nat) (lo : Nat → Int64) (H : Heap) (locs : List Loc) (ls : Array Slot) (hw : w = 4 * z) (hmo : mo ≤ 120 * z) (hT : Tb wm st) (hR : Rg gr co) (hP : va_P E.1 vwCl (wAll E o ad wm st gr co hb_ (nI mo) ga ca ha_ (nI ma) sd tk op sp rc rn wa ++ wMo E o2 ad2 th gr co sd tk wm st (nI mo) nx lb fr ++ [(oq, .inl (E.2.2.2, 1, .inr (.inl lo)))]) H) (hD : va_D (lA s) (wAll E o ad wm st gr co hb_ (nI mo) ga ca ha_ (nI ma) sd tk op sp rc rn wa ++ wMo E o2 ad2 th gr co sd tk wm st (nI mo) nx lb fr ++ [(oq, .inl (E.2.2.2, 1, .inr (.inl lo)))])) (hS : va_S (lA s) s.heap H locs) (hl : lv_has ls 9 [(4, .int (nI w)), (3, .ref oq), (2, .ref o2), (1, .ref o), (0, .ref b)]) : W p l e room_1 s m #[Value.ref b] below meth cd H locs (40 + 3 * z) (2500 + 168 * z) Q (F0 m 881 ls []) := by
  obtain ⟨hx, hb, hml, hown, hts, hK, hX, hXs, hbl, hL⟩ := C
  have hA : ∀ q : Nat, s.heap.size ≤ q → lA s q := fun _ h => h
  have hbA : ¬ lA s b := Nat.not_le.mpr hbl
  have hz : z ≤ 512 := by omega
  cases hv : isInB (xs (w + 1)) (nI 0) (nI 7) with
  | false =>
    refine lv_aload_n hx hb dL_law_881 rfl (lv_at hl 3 rfl) ?_
    refine lv_aload_n hx hb dL_law_882 rfl (lv_at hl 4 rfl) ?_
    refine lv_iload hx hb dL_law_883 (lv_at hl 0 rfl) ?_
    refine lv_iconst (v := nI 1) hx hb dL_law_885 (by decide +kernel) ?_
    refine lv_iadd hx hb dL_law_886 ?_
    refine e_top (nI_add _ _) ?_
    refine e_sld hXs hbl hbA hS (w + 1) (by omega) (by omega) (v := xs (w + 1)) rfl hx hb dL_law_887 ?_
    refine lv_aload_n hx hb dL_law_888 rfl (lv_at hl 1 rfl) ?_
    refine e_callSH (As := [.ref o, .int (xs (w + 1)), .ref oq]) (rest := []) ⟨hx, hb, hml, hown, hts⟩ hK hX hP hD hS hA hl.1 (c_L_count_b1 l hlt E _ o ad wm st gr co hb_ mo ga ca ha_ ma sd tk op sp rc rn wa (xs (w + 1)) oq lo (hv)) (vx_cwSW 3 hts gL_law_L_count rfl rfl rfl (by decide +kernel) ⟨Nat.le_of_ble_eq_true rfl, Nat.le_of_ble_eq_true rfl⟩) [0, 1, 2, 3, 4, 5, 6, 7, 8, 9, 10, 11, 12, 13, 14, 15, 16, 17, 18, 19, 30] [20, 21, 22, 23, 24, 25, 26, 27, 28, 29] rfl rfl rfl rfl (by decide) rfl rfl (Nat.le_of_ble_eq_true rfl) dL_law_889 ⟨by show 40 + 3 * z + 1 ≤ 601024; omega, by show 2500 + 168 * z + 6 ≤ 7293034; omega⟩ (fun u_1 H locs hu_2 hsz1 hP hD hS => ?_)
    have hP : va_P E.1 vwCl (wAll E o ad wm st gr co hb_ (nI mo) ga ca ha_ (nI ma) sd tk op sp rc rn wa ++ wMo E o2 ad2 th gr co sd tk wm st (nI mo) nx lb fr ++ [(oq, .inl (E.2.2.2, 1, .inr (.inl lo)))]) H := hP.sub [10, 11, 12, 13, 14, 15, 16, 17, 18, 19, 20, 21, 22, 23, 24, 25, 26, 27, 28, 29, 0, 1, 2, 3, 4, 5, 6, 7, 8, 9, 30] rfl
    have hD : va_D (lA s) (wAll E o ad wm st gr co hb_ (nI mo) ga ca ha_ (nI ma) sd tk op sp rc rn wa ++ wMo E o2 ad2 th gr co sd tk wm st (nI mo) nx lb fr ++ [(oq, .inl (E.2.2.2, 1, .inr (.inl lo)))]) := hD.sub [10, 11, 12, 13, 14, 15, 16, 17, 18, 19, 20, 21, 22, 23, 24, 25, 26, 27, 28, 29, 0, 1, 2, 3, 4, 5, 6, 7, 8, 9, 30] (by decide) rfl
    refine W.eq (g2 := F0 m 892 ls [.int (nI 1)]) rfl ?_
    refine lv_istore (lv' := [(5, .int (nI 1)), (4, .int (nI w)), (3, .ref oq), (2, .ref o2), (1, .ref o), (0, .ref b)]) hx hb dL_law_892 hl (by decide) rfl (fun ls hl => ?_)
    refine lv_aload_n hx hb dL_law_894 rfl (lv_at hl 3 rfl) ?_
    refine lv_aload_n hx hb dL_law_895 rfl (lv_at hl 5 rfl) ?_
    refine lv_iload hx hb dL_law_896 (lv_at hl 1 rfl) ?_
    refine lv_iconst (v := nI 1) hx hb dL_law_898 (by decide +kernel) ?_
    refine lv_iadd hx hb dL_law_899 ?_
    refine e_top (nI_add _ _) ?_
    refine e_sld hXs hbl hbA hS (w + 1) (by omega) (by omega) (v := xs (w + 1)) rfl hx hb dL_law_900 ?_
    refine e_callV (As := [.int (xs (w + 1))]) (rest := []) ⟨hx, hb, hml, hown, hts⟩ hK hP hD hS hA hl.1 (c_X5_count_b1 l E _ o2 ad2 th gr co sd tk wm st mo nx lb fr (xs (w + 1)) (hv)) (cwV 1 hts gL_law_X5_count rfl rfl rfl (by decide +kernel) ⟨Nat.le_of_ble_eq_true rfl, Nat.le_of_ble_eq_true rfl⟩) [20, 21, 22, 23, 24, 25, 26, 27, 28, 29] [0, 1, 2, 3, 4, 5, 6, 7, 8, 9, 10, 11, 12, 13, 14, 15, 16, 17, 18, 19, 30] rfl rfl rfl rfl (by decide) (q0 := 20) (ci := 5) rfl rfl rfl rfl (Nat.le_of_ble_eq_true rfl) dL_law_901 ⟨by show 40 + 3 * z + 1 + 0 ≤ 601024; omega, by show 2500 + 168 * z + 6 + 0 ≤ 7293034; omega⟩ (fun u_3 H locs hu_4 hsz1 hP hD hS => ?_)
    have hP : va_P E.1 vwCl (wAll E o ad wm st gr co hb_ (nI mo) ga ca ha_ (nI ma) sd tk op sp rc rn wa ++ wMo E o2 ad2 (nI 1) gr co sd tk wm st (nI mo) nx lb fr ++ [(oq, .inl (E.2.2.2, 1, .inr (.inl lo)))]) H := hP.sub [0, 1, 2, 3, 4, 5, 6, 7, 8, 9, 10, 11, 12, 13, 14, 15, 16, 17, 18, 19, 21, 22, 23, 24, 25, 26, 27, 28, 29, 30, 20] rfl
    have hD : va_D (lA s) (wAll E o ad wm st gr co hb_ (nI mo) ga ca ha_ (nI ma) sd tk op sp rc rn wa ++ wMo E o2 ad2 (nI 1) gr co sd tk wm st (nI mo) nx lb fr ++ [(oq, .inl (E.2.2.2, 1, .inr (.inl lo)))]) := hD.sub [0, 1, 2, 3, 4, 5, 6, 7, 8, 9, 10, 11, 12, 13, 14, 15, 16, 17, 18, 19, 21, 22, 23, 24, 25, 26, 27, 28, 29, 30, 20] (by decide) rfl
    refine W.eq (g2 := F0 m 904 ls [.int (nI 0)]) rfl ?_
    refine lv_istore (lv' := [(6, .int (nI 0)), (5, .int (nI 1)), (4, .int (nI w)), (3, .ref oq), (2, .ref o2), (1, .ref o), (0, .ref b)]) hx hb dL_law_904 hl (by decide) rfl (fun ls hl => ?_)
    refine lv_aload_n hx hb dL_law_906 rfl (lv_at hl 4 rfl) ?_
    refine e_callV (As := []) (rest := []) ⟨hx, hb, hml, hown, hts⟩ hK hP hD hS hA hl.1 (c_X5_thrown l E _ o2 ad2 (nI 1) gr co sd tk wm st mo nx lb fr) (cwV 0 hts gL_law_X5_thrown rfl rfl rfl (by decide +kernel) ⟨Nat.le_of_ble_eq_true rfl, Nat.le_of_ble_eq_true rfl⟩) [20, 21, 22, 23, 24, 25, 26, 27, 28, 29] [0, 1, 2, 3, 4, 5, 6, 7, 8, 9, 10, 11, 12, 13, 14, 15, 16, 17, 18, 19, 30] rfl rfl rfl rfl (by decide) (q0 := 20) (ci := 5) rfl rfl rfl rfl (Nat.le_of_ble_eq_true rfl) dL_law_907 ⟨by show 40 + 3 * z + 1 + 0 + 0 ≤ 601024; omega, by show 2500 + 168 * z + 6 + 0 + 0 ≤ 7293034; omega⟩ (fun u_5 H locs hu_6 hsz1 hP hD hS => ?_)
    have hP : va_P E.1 vwCl (wAll E o ad wm st gr co hb_ (nI mo) ga ca ha_ (nI ma) sd tk op sp rc rn wa ++ wMo E o2 ad2 (nI 1) gr co sd tk wm st (nI mo) nx lb fr ++ [(oq, .inl (E.2.2.2, 1, .inr (.inl lo)))]) H := hP.sub [0, 1, 2, 3, 4, 5, 6, 7, 8, 9, 10, 11, 12, 13, 14, 15, 16, 17, 18, 19, 21, 22, 23, 24, 25, 26, 27, 28, 29, 30, 20] rfl
    have hD : va_D (lA s) (wAll E o ad wm st gr co hb_ (nI mo) ga ca ha_ (nI ma) sd tk op sp rc rn wa ++ wMo E o2 ad2 (nI 1) gr co sd tk wm st (nI mo) nx lb fr ++ [(oq, .inl (E.2.2.2, 1, .inr (.inl lo)))]) := hD.sub [0, 1, 2, 3, 4, 5, 6, 7, 8, 9, 10, 11, 12, 13, 14, 15, 16, 17, 18, 19, 21, 22, 23, 24, 25, 26, 27, 28, 29, 30, 20] (by decide) rfl
    refine W.eq (g2 := F0 m 910 ls [.int (nI 1)]) rfl ?_
    refine lv_iload hx hb dL_law_910 (lv_at hl 1 rfl) ?_
    refine n_icmp_eq (x := 1) (y := 1) (by omega) (by omega) (tgt := 917) hx hb dL_law_912 (by decide) (fun c912 => ?_) (fun c912 => absurd rfl c912)
    refine lv_iload hx hb dL_law_917 (lv_at hl 1 rfl) ?_
    refine n_if_ne (x := 1) (by omega) (tgt := 934) hx hb dL_law_919 (by decide) (fun c919 => ?_) (fun c919 => (by omega))
    refine lv_goto (tgt := 1129) hx hb dL_law_934 (by decide) ?_
    refine lv_iinc (v := nI (w + 4)) (lv' := [(4, .int (nI (w + 4))), (6, .int (nI 0)), (5, .int (nI 1)), (3, .ref oq), (2, .ref o2), (1, .ref o), (0, .ref b)]) hx hb dL_law_1129 hl (k := 2) rfl (nI_add w 4) (by decide) rfl (fun ls hl => ?_)
    refine lv_goto (tgt := 23) hx hb dL_law_1132 (by decide) ?_
    exact W.widen (by show 40 + 3 * z + 1 + 0 + 0 ≤ 40 + 3 * (z + 1); omega) (by show 2500 + 168 * z + 6 + 0 + 0 ≤ 2500 + 168 * (z + 1); omega) (kk (w + 4) wm st gr co hb_ mo ga ca ha_ ma sd tk op sp rc rn wa (nI 1) nx lb fr lo H locs ls (by omega) (by omega) hT hR hP hD hS (lv_sub hl [0, 3, 4, 5, 6] rfl))
  | true =>
    obtain ⟨k, hv1, hv2, e1⟩ := isInB_nat (by decide) hv (by decide)
    refine lv_aload_n hx hb dL_law_881 rfl (lv_at hl 3 rfl) ?_
    refine lv_aload_n hx hb dL_law_882 rfl (lv_at hl 4 rfl) ?_
    refine lv_iload hx hb dL_law_883 (lv_at hl 0 rfl) ?_
    refine lv_iconst (v := nI 1) hx hb dL_law_885 (by decide +kernel) ?_
    refine lv_iadd hx hb dL_law_886 ?_
    refine e_top (nI_add _ _) ?_
    refine e_sld hXs hbl hbA hS (w + 1) (by omega) (by omega) (v := nI k) e1 hx hb dL_law_887 ?_
    refine lv_aload_n hx hb dL_law_888 rfl (lv_at hl 1 rfl) ?_
    refine e_callSH (As := [.ref o, .int (nI k), .ref oq]) (rest := []) ⟨hx, hb, hml, hown, hts⟩ hK hX hP hD hS hA hl.1 (c_L_count l hlt E _ o ad wm st gr co hb_ mo ga ca ha_ ma sd tk op sp rc rn wa k oq lo (by first | omega | assumption | rfl | (simp_all; done))) (vx_cwSW 3 hts gL_law_L_count rfl rfl rfl (by decide +kernel) ⟨Nat.le_of_ble_eq_true rfl, Nat.le_of_ble_eq_true rfl⟩) [0, 1, 2, 3, 4, 5, 6, 7, 8, 9, 10, 11, 12, 13, 14, 15, 16, 17, 18, 19, 30] [20, 21, 22, 23, 24, 25, 26, 27, 28, 29] rfl rfl rfl rfl (by decide) rfl rfl (Nat.le_of_ble_eq_true rfl) dL_law_889 ⟨by show 40 + 3 * z + 0 ≤ 601024; omega, by show 2500 + 168 * z + 0 ≤ 7293034; omega⟩ (fun u_7 H locs hu_8 hsz1 hP hD hS => ?_)
    obtain ⟨op__9, sp__10, rc__11, rn__12⟩ := u_7
    have hP : va_P E.1 vwCl (wAll E o ad wm st gr co hb_ (nI mo) ga ca ha_ (nI ma) sd tk op__9 sp__10 rc__11 rn__12 wa ++ wMo E o2 ad2 th gr co sd tk wm st (nI mo) nx lb fr ++ [(oq, .inl (E.2.2.2, 1, .inr (.inl (vp_updL lo 0 ((cntA gr co sd mo k).toInt64)))))]) H := hP.sub [10, 11, 12, 13, 14, 15, 16, 17, 18, 19, 20, 21, 22, 23, 24, 25, 26, 27, 28, 29, 0, 1, 2, 3, 4, 5, 6, 7, 8, 9, 30] rfl
    have hD : va_D (lA s) (wAll E o ad wm st gr co hb_ (nI mo) ga ca ha_ (nI ma) sd tk op__9 sp__10 rc__11 rn__12 wa ++ wMo E o2 ad2 th gr co sd tk wm st (nI mo) nx lb fr ++ [(oq, .inl (E.2.2.2, 1, .inr (.inl (vp_updL lo 0 ((cntA gr co sd mo k).toInt64)))))]) := hD.sub [10, 11, 12, 13, 14, 15, 16, 17, 18, 19, 20, 21, 22, 23, 24, 25, 26, 27, 28, 29, 0, 1, 2, 3, 4, 5, 6, 7, 8, 9, 30] (by decide) rfl
    refine W.eq (g2 := F0 m 892 ls [.int (nI 0)]) rfl ?_
    refine lv_istore (lv' := [(5, .int (nI 0)), (4, .int (nI w)), (3, .ref oq), (2, .ref o2), (1, .ref o), (0, .ref b)]) hx hb dL_law_892 hl (by decide) rfl (fun ls hl => ?_)
    refine lv_aload_n hx hb dL_law_894 rfl (lv_at hl 3 rfl) ?_
    refine lv_aload_n hx hb dL_law_895 rfl (lv_at hl 5 rfl) ?_
    refine lv_iload hx hb dL_law_896 (lv_at hl 1 rfl) ?_
    refine lv_iconst (v := nI 1) hx hb dL_law_898 (by decide +kernel) ?_
    refine lv_iadd hx hb dL_law_899 ?_
    refine e_top (nI_add _ _) ?_
    refine e_sld hXs hbl hbA hS (w + 1) (by omega) (by omega) (v := nI k) e1 hx hb dL_law_900 ?_
    refine e_callV (As := [.int (nI k)]) (rest := []) ⟨hx, hb, hml, hown, hts⟩ hK hP hD hS hA hl.1 (c_X5_count l E _ o2 ad2 th gr co sd tk wm st mo nx lb fr k (by first | omega | assumption | rfl | (simp_all; done))) (cwV 1 hts gL_law_X5_count rfl rfl rfl (by decide +kernel) ⟨Nat.le_of_ble_eq_true rfl, Nat.le_of_ble_eq_true rfl⟩) [20, 21, 22, 23, 24, 25, 26, 27, 28, 29] [0, 1, 2, 3, 4, 5, 6, 7, 8, 9, 10, 11, 12, 13, 14, 15, 16, 17, 18, 19, 30] rfl rfl rfl rfl (by decide) (q0 := 20) (ci := 5) rfl rfl rfl rfl (Nat.le_of_ble_eq_true rfl) dL_law_901 ⟨by show 40 + 3 * z + 0 + 0 ≤ 601024; omega, by show 2500 + 168 * z + 0 + 0 ≤ 7293034; omega⟩ (fun u_13 H locs hu_14 hsz1 hP hD hS => ?_)
    obtain ⟨lb__15, rfl⟩ : ∃ z, z = u_13 := ⟨_, rfl⟩
    have hP : va_P E.1 vwCl (wAll E o ad wm st gr co hb_ (nI mo) ga ca ha_ (nI ma) sd tk op__9 sp__10 rc__11 rn__12 wa ++ wMo E o2 ad2 (nI 0) gr co sd tk wm st (nI mo) nx lb__15 fr ++ [(oq, .inl (E.2.2.2, 1, .inr (.inl (vp_updL lo 0 ((cntA gr co sd mo k).toInt64)))))]) H := hP.sub [0, 1, 2, 3, 4, 5, 6, 7, 8, 9, 10, 11, 12, 13, 14, 15, 16, 17, 18, 19, 21, 22, 23, 24, 25, 26, 27, 28, 29, 30, 20] rfl
    have hD : va_D (lA s) (wAll E o ad wm st gr co hb_ (nI mo) ga ca ha_ (nI ma) sd tk op__9 sp__10 rc__11 rn__12 wa ++ wMo E o2 ad2 (nI 0) gr co sd tk wm st (nI mo) nx lb__15 fr ++ [(oq, .inl (E.2.2.2, 1, .inr (.inl (vp_updL lo 0 ((cntA gr co sd mo k).toInt64)))))]) := hD.sub [0, 1, 2, 3, 4, 5, 6, 7, 8, 9, 10, 11, 12, 13, 14, 15, 16, 17, 18, 19, 21, 22, 23, 24, 25, 26, 27, 28, 29, 30, 20] (by decide) rfl
    refine W.eq (g2 := F0 m 904 ls [.int (cntA gr co sd mo k)]) rfl ?_
    refine lv_istore (lv' := [(6, .int (cntA gr co sd mo k)), (5, .int (nI 0)), (4, .int (nI w)), (3, .ref oq), (2, .ref o2), (1, .ref o), (0, .ref b)]) hx hb dL_law_904 hl (by decide) rfl (fun ls hl => ?_)
    refine lv_aload_n hx hb dL_law_906 rfl (lv_at hl 4 rfl) ?_
    refine e_callV (As := []) (rest := []) ⟨hx, hb, hml, hown, hts⟩ hK hP hD hS hA hl.1 (c_X5_thrown l E _ o2 ad2 (nI 0) gr co sd tk wm st mo nx lb__15 fr) (cwV 0 hts gL_law_X5_thrown rfl rfl rfl (by decide +kernel) ⟨Nat.le_of_ble_eq_true rfl, Nat.le_of_ble_eq_true rfl⟩) [20, 21, 22, 23, 24, 25, 26, 27, 28, 29] [0, 1, 2, 3, 4, 5, 6, 7, 8, 9, 10, 11, 12, 13, 14, 15, 16, 17, 18, 19, 30] rfl rfl rfl rfl (by decide) (q0 := 20) (ci := 5) rfl rfl rfl rfl (Nat.le_of_ble_eq_true rfl) dL_law_907 ⟨by show 40 + 3 * z + 0 + 0 + 0 ≤ 601024; omega, by show 2500 + 168 * z + 0 + 0 + 0 ≤ 7293034; omega⟩ (fun u_16 H locs hu_17 hsz1 hP hD hS => ?_)
    have hP : va_P E.1 vwCl (wAll E o ad wm st gr co hb_ (nI mo) ga ca ha_ (nI ma) sd tk op__9 sp__10 rc__11 rn__12 wa ++ wMo E o2 ad2 (nI 0) gr co sd tk wm st (nI mo) nx lb__15 fr ++ [(oq, .inl (E.2.2.2, 1, .inr (.inl (vp_updL lo 0 ((cntA gr co sd mo k).toInt64)))))]) H := hP.sub [0, 1, 2, 3, 4, 5, 6, 7, 8, 9, 10, 11, 12, 13, 14, 15, 16, 17, 18, 19, 21, 22, 23, 24, 25, 26, 27, 28, 29, 30, 20] rfl
    have hD : va_D (lA s) (wAll E o ad wm st gr co hb_ (nI mo) ga ca ha_ (nI ma) sd tk op__9 sp__10 rc__11 rn__12 wa ++ wMo E o2 ad2 (nI 0) gr co sd tk wm st (nI mo) nx lb__15 fr ++ [(oq, .inl (E.2.2.2, 1, .inr (.inl (vp_updL lo 0 ((cntA gr co sd mo k).toInt64)))))]) := hD.sub [0, 1, 2, 3, 4, 5, 6, 7, 8, 9, 10, 11, 12, 13, 14, 15, 16, 17, 18, 19, 21, 22, 23, 24, 25, 26, 27, 28, 29, 30, 20] (by decide) rfl
    refine W.eq (g2 := F0 m 910 ls [.int (nI 0)]) rfl ?_
    refine lv_iload hx hb dL_law_910 (lv_at hl 1 rfl) ?_
    refine n_icmp_eq (x := 0) (y := 0) (by omega) (by omega) (tgt := 917) hx hb dL_law_912 (by decide) (fun c912 => ?_) (fun c912 => absurd rfl c912)
    refine lv_iload hx hb dL_law_917 (lv_at hl 1 rfl) ?_
    refine n_if_ne (x := 0) (by omega) (tgt := 934) hx hb dL_law_919 (by decide) (fun c919 => (by omega)) (fun c919 => ?_)
    refine lv_aload_n hx hb dL_law_922 rfl (lv_at hl 3 rfl) ?_
    refine lv_iconst (v := nI 0) hx hb dL_law_923 (by decide +kernel) ?_
    refine e_lald hK hP 30 rfl 0 (by omega) (by decide) hx hb dL_law_924 ?_
    refine lv_iload hx hb dL_law_925 (lv_at hl 0 rfl) ?_
    refine lv_i2l hx hb dL_law_927 rfl ?_
    refine W.lcmp hx hb dL_law_928 ?_
    refine e_top (y := nI 0) (show lg_cmp ((vp_updL lo 0 ((cntA gr co sd mo k).toInt64)) 0) ((cntA gr co sd mo k).toInt64) = nI 0 from (lg_cmp_eq _ _).mpr rfl) ?_
    refine n_if_eq (x := 0) (by omega) (tgt := 934) hx hb dL_law_929 (by decide) (fun c929 => ?_) (fun c929 => (by omega))
    refine lv_goto (tgt := 1129) hx hb dL_law_934 (by decide) ?_
    refine lv_iinc (v := nI (w + 4)) (lv' := [(4, .int (nI (w + 4))), (6, .int (cntA gr co sd mo k)), (5, .int (nI 0)), (3, .ref oq), (2, .ref o2), (1, .ref o), (0, .ref b)]) hx hb dL_law_1129 hl (k := 2) rfl (nI_add w 4) (by decide) rfl (fun ls hl => ?_)
    refine lv_goto (tgt := 23) hx hb dL_law_1132 (by decide) ?_
    exact W.widen (by show 40 + 3 * z + 0 + 0 + 0 ≤ 40 + 3 * (z + 1); omega) (by show 2500 + 168 * z + 0 + 0 + 0 ≤ 2500 + 168 * (z + 1); omega) (kk (w + 4) wm st gr co hb_ mo ga ca ha_ ma sd tk op__9 sp__10 rc__11 rn__12 wa (nI 0) nx lb__15 fr (vp_updL lo 0 ((cntA gr co sd mo k).toInt64)) H locs ls (by omega) (by omega) hT hR hP hD hS (lv_sub hl [0, 3, 4, 5, 6] rfl))

set_option maxHeartbeats 16000000 in
set_option maxRecDepth 100000 in
theorem k_case12 {p : Program} {e : Env} {s : State} {m : MethodId} {below : List Frame} {meth : Method} {cd : Code} (l : Launch) (hlt : l.stackTraces = false) {b L : Nat} {xs : Nat → Int32} {E : eT} (C : lC p s m cd b L xs E) {Q : State → Prop} {o : Nat} {ad : Nat → Nat} {o2 : Nat} {ad2 : Nat → Nat} {oq : Nat} (z w : Nat) (kk : lHead p l e s m below meth cd b E Q o ad o2 ad2 oq (z + 1)) (hi : w + 4 ≤ L) (wm : Nat → Int32) (st : Nat → Int32) (gr : Nat → Int32) (co : Nat → Int32) (hb_ : Nat → Bool) (mo : Nat) (ga : Nat → Int32) (ca : Nat → Int32) (ha_ : Nat → Bool) (ma : Nat) (sd : Nat → Int32) (tk : Nat → Int32) (op : Nat → Bool) (sp : Nat → Nat) (rc : Nat → Nat) (rn : Nat) (wa : Nat → Int32) (th : Int32) (nx : Nat → Int32) (lb : Nat → Option Nat) (fr : Nat → Nat) (lo : Nat → Int64) (H : Heap) (locs : List Loc) (ls : Array Slot) (hw : w = 4 * z) (hmo : mo ≤ 120 * z) (hT : Tb wm st) (hR : Rg gr co) (hP : va_P E.1 vwCl (wAll E o ad wm st gr co hb_ (nI mo) ga ca ha_ (nI ma) sd tk op sp rc rn wa ++ wMo E o2 ad2 th gr co sd tk wm st (nI mo) nx lb fr ++ [(oq, .inl (E.2.2.2, 1, .inr (.inl lo)))]) H) (hD : va_D (lA s) (wAll E o ad wm st gr co hb_ (nI mo) ga ca ha_ (nI ma) sd tk op sp rc rn wa ++ wMo E o2 ad2 th gr co sd tk wm st (nI mo) nx lb fr ++ [(oq, .inl (E.2.2.2, 1, .inr (.inl lo)))])) (hS : va_S (lA s) s.heap H locs) (hl : lv_has ls 9 [(4, .int (nI w)), (3, .ref oq), (2, .ref o2), (1, .ref o), (0, .ref b)]) : W p l e room_1 s m #[Value.ref b] below meth cd H locs (40 + 3 * z) (2500 + 168 * z) Q (F0 m 937 ls []) := by
  obtain ⟨hx, hb, hml, hown, hts, hK, hX, hXs, hbl, hL⟩ := C
  have hA : ∀ q : Nat, s.heap.size ≤ q → lA s q := fun _ h => h
  have hbA : ¬ lA s b := Nat.not_le.mpr hbl
  have hz : z ≤ 512 := by omega
  cases hdr : isInB (xs (w + 1)) (nI 0) (nI 39) with
  | false =>
    refine lv_aload_n hx hb dL_law_937 rfl (lv_at hl 3 rfl) ?_
    refine lv_aload_n hx hb dL_law_938 rfl (lv_at hl 4 rfl) ?_
    refine lv_iload hx hb dL_law_939 (lv_at hl 0 rfl) ?_
    refine lv_iconst (v := nI 1) hx hb dL_law_941 (by decide +kernel) ?_
    refine lv_iadd hx hb dL_law_942 ?_
    refine e_top (nI_add _ _) ?_
    refine e_sld hXs hbl hbA hS (w + 1) (by omega) (by omega) (v := xs (w + 1)) rfl hx hb dL_law_943 ?_
    refine lv_aload_n hx hb dL_law_944 rfl (lv_at hl 1 rfl) ?_
    refine e_callSH (As := [.ref o, .int (xs (w + 1)), .ref oq]) (rest := []) ⟨hx, hb, hml, hown, hts⟩ hK hX hP hD hS hA hl.1 (c_L_closes_b1 l hlt E _ o ad wm st gr co hb_ mo ga ca ha_ ma sd tk op sp rc rn wa (xs (w + 1)) oq lo (by first | omega | assumption | rfl | (simp_all; done))) (vx_cwSW 3 hts gL_law_L_closes rfl rfl rfl (by decide +kernel) ⟨Nat.le_of_ble_eq_true rfl, Nat.le_of_ble_eq_true rfl⟩) [0, 1, 2, 3, 4, 5, 6, 7, 8, 9, 10, 11, 12, 13, 14, 15, 16, 17, 18, 19, 30] [20, 21, 22, 23, 24, 25, 26, 27, 28, 29] rfl rfl rfl rfl (by decide) rfl rfl (Nat.le_of_ble_eq_true rfl) dL_law_945 ⟨by show 40 + 3 * z + 1 ≤ 601024; omega, by show 2500 + 168 * z + 6 ≤ 7293034; omega⟩ (fun u_1 H locs hu_2 hsz1 hP hD hS => ?_)
    have hP : va_P E.1 vwCl (wAll E o ad wm st gr co hb_ (nI mo) ga ca ha_ (nI ma) sd tk op sp rc rn wa ++ wMo E o2 ad2 th gr co sd tk wm st (nI mo) nx lb fr ++ [(oq, .inl (E.2.2.2, 1, .inr (.inl lo)))]) H := hP.sub [10, 11, 12, 13, 14, 15, 16, 17, 18, 19, 20, 21, 22, 23, 24, 25, 26, 27, 28, 29, 0, 1, 2, 3, 4, 5, 6, 7, 8, 9, 30] rfl
    have hD : va_D (lA s) (wAll E o ad wm st gr co hb_ (nI mo) ga ca ha_ (nI ma) sd tk op sp rc rn wa ++ wMo E o2 ad2 th gr co sd tk wm st (nI mo) nx lb fr ++ [(oq, .inl (E.2.2.2, 1, .inr (.inl lo)))]) := hD.sub [10, 11, 12, 13, 14, 15, 16, 17, 18, 19, 20, 21, 22, 23, 24, 25, 26, 27, 28, 29, 0, 1, 2, 3, 4, 5, 6, 7, 8, 9, 30] (by decide) rfl
    refine W.eq (g2 := F0 m 948 ls [.int (nI 1)]) rfl ?_
    refine lv_istore (lv' := [(5, .int (nI 1)), (4, .int (nI w)), (3, .ref oq), (2, .ref o2), (1, .ref o), (0, .ref b)]) hx hb dL_law_948 hl (by decide) rfl (fun ls hl => ?_)
    refine lv_aload_n hx hb dL_law_950 rfl (lv_at hl 3 rfl) ?_
    refine lv_aload_n hx hb dL_law_951 rfl (lv_at hl 5 rfl) ?_
    refine lv_iload hx hb dL_law_952 (lv_at hl 1 rfl) ?_
    refine lv_iconst (v := nI 1) hx hb dL_law_954 (by decide +kernel) ?_
    refine lv_iadd hx hb dL_law_955 ?_
    refine e_top (nI_add _ _) ?_
    refine e_sld hXs hbl hbA hS (w + 1) (by omega) (by omega) (v := xs (w + 1)) rfl hx hb dL_law_956 ?_
    refine e_callV (As := [.int (xs (w + 1))]) (rest := []) ⟨hx, hb, hml, hown, hts⟩ hK hP hD hS hA hl.1 (c_X5_closes_b1 l E _ o2 ad2 th gr co sd tk wm st mo nx lb fr (xs (w + 1)) (by first | omega | assumption | rfl | (simp_all; done))) (cwV 1 hts gL_law_X5_closes rfl rfl rfl (by decide +kernel) ⟨Nat.le_of_ble_eq_true rfl, Nat.le_of_ble_eq_true rfl⟩) [20, 21, 22, 23, 24, 25, 26, 27, 28, 29] [0, 1, 2, 3, 4, 5, 6, 7, 8, 9, 10, 11, 12, 13, 14, 15, 16, 17, 18, 19, 30] rfl rfl rfl rfl (by decide) (q0 := 20) (ci := 5) rfl rfl rfl rfl (Nat.le_of_ble_eq_true rfl) dL_law_957 ⟨by show 40 + 3 * z + 1 + 0 ≤ 601024; omega, by show 2500 + 168 * z + 6 + 0 ≤ 7293034; omega⟩ (fun u_3 H locs hu_4 hsz1 hP hD hS => ?_)
    have hP : va_P E.1 vwCl (wAll E o ad wm st gr co hb_ (nI mo) ga ca ha_ (nI ma) sd tk op sp rc rn wa ++ wMo E o2 ad2 (nI 1) gr co sd tk wm st (nI mo) nx lb fr ++ [(oq, .inl (E.2.2.2, 1, .inr (.inl lo)))]) H := hP.sub [0, 1, 2, 3, 4, 5, 6, 7, 8, 9, 10, 11, 12, 13, 14, 15, 16, 17, 18, 19, 21, 22, 23, 24, 25, 26, 27, 28, 29, 30, 20] rfl
    have hD : va_D (lA s) (wAll E o ad wm st gr co hb_ (nI mo) ga ca ha_ (nI ma) sd tk op sp rc rn wa ++ wMo E o2 ad2 (nI 1) gr co sd tk wm st (nI mo) nx lb fr ++ [(oq, .inl (E.2.2.2, 1, .inr (.inl lo)))]) := hD.sub [0, 1, 2, 3, 4, 5, 6, 7, 8, 9, 10, 11, 12, 13, 14, 15, 16, 17, 18, 19, 21, 22, 23, 24, 25, 26, 27, 28, 29, 30, 20] (by decide) rfl
    refine W.eq (g2 := F0 m 960 ls [.int (nI 0)]) rfl ?_
    refine lv_istore (lv' := [(6, .int (nI 0)), (5, .int (nI 1)), (4, .int (nI w)), (3, .ref oq), (2, .ref o2), (1, .ref o), (0, .ref b)]) hx hb dL_law_960 hl (by decide) rfl (fun ls hl => ?_)
    refine lv_aload_n hx hb dL_law_962 rfl (lv_at hl 4 rfl) ?_
    refine e_callV (As := []) (rest := []) ⟨hx, hb, hml, hown, hts⟩ hK hP hD hS hA hl.1 (c_X5_thrown l E _ o2 ad2 (nI 1) gr co sd tk wm st mo nx lb fr) (cwV 0 hts gL_law_X5_thrown rfl rfl rfl (by decide +kernel) ⟨Nat.le_of_ble_eq_true rfl, Nat.le_of_ble_eq_true rfl⟩) [20, 21, 22, 23, 24, 25, 26, 27, 28, 29] [0, 1, 2, 3, 4, 5, 6, 7, 8, 9, 10, 11, 12, 13, 14, 15, 16, 17, 18, 19, 30] rfl rfl rfl rfl (by decide) (q0 := 20) (ci := 5) rfl rfl rfl rfl (Nat.le_of_ble_eq_true rfl) dL_law_963 ⟨by show 40 + 3 * z + 1 + 0 + 0 ≤ 601024; omega, by show 2500 + 168 * z + 6 + 0 + 0 ≤ 7293034; omega⟩ (fun u_5 H locs hu_6 hsz1 hP hD hS => ?_)
    have hP : va_P E.1 vwCl (wAll E o ad wm st gr co hb_ (nI mo) ga ca ha_ (nI ma) sd tk op sp rc rn wa ++ wMo E o2 ad2 (nI 1) gr co sd tk wm st (nI mo) nx lb fr ++ [(oq, .inl (E.2.2.2, 1, .inr (.inl lo)))]) H := hP.sub [0, 1, 2, 3, 4, 5, 6, 7, 8, 9, 10, 11, 12, 13, 14, 15, 16, 17, 18, 19, 21, 22, 23, 24, 25, 26, 27, 28, 29, 30, 20] rfl
    have hD : va_D (lA s) (wAll E o ad wm st gr co hb_ (nI mo) ga ca ha_ (nI ma) sd tk op sp rc rn wa ++ wMo E o2 ad2 (nI 1) gr co sd tk wm st (nI mo) nx lb fr ++ [(oq, .inl (E.2.2.2, 1, .inr (.inl lo)))]) := hD.sub [0, 1, 2, 3, 4, 5, 6, 7, 8, 9, 10, 11, 12, 13, 14, 15, 16, 17, 18, 19, 21, 22, 23, 24, 25, 26, 27, 28, 29, 30, 20] (by decide) rfl
    refine W.eq (g2 := F0 m 966 ls [.int (nI 1)]) rfl ?_
    refine lv_iload hx hb dL_law_966 (lv_at hl 1 rfl) ?_
    refine n_icmp_eq (x := 1) (y := 1) (by omega) (by omega) (tgt := 973) hx hb dL_law_968 (by decide) (fun c968 => ?_) (fun c968 => absurd rfl c968)
    refine lv_iload hx hb dL_law_973 (lv_at hl 1 rfl) ?_
    refine n_if_ne (x := 1) (by omega) (tgt := 990) hx hb dL_law_975 (by decide) (fun c975 => ?_) (fun c975 => (by omega))
    refine lv_goto (tgt := 1129) hx hb dL_law_990 (by decide) ?_
    refine lv_iinc (v := nI (w + 4)) (lv' := [(4, .int (nI (w + 4))), (6, .int (nI 0)), (5, .int (nI 1)), (3, .ref oq), (2, .ref o2), (1, .ref o), (0, .ref b)]) hx hb dL_law_1129 hl (k := 2) rfl (nI_add w 4) (by decide) rfl (fun ls hl => ?_)
    refine lv_goto (tgt := 23) hx hb dL_law_1132 (by decide) ?_
    exact W.widen (by show 40 + 3 * z + 1 + 0 + 0 ≤ 40 + 3 * (z + 1); omega) (by show 2500 + 168 * z + 6 + 0 + 0 ≤ 2500 + 168 * (z + 1); omega) (kk (w + 4) wm st gr co hb_ mo ga ca ha_ ma sd tk op sp rc rn wa (nI 1) nx lb fr lo H locs ls (by omega) (by omega) hT hR hP hD hS (lv_sub hl [0, 3, 4, 5, 6] rfl))
  | true =>
    refine lv_aload_n hx hb dL_law_937 rfl (lv_at hl 3 rfl) ?_
    refine lv_aload_n hx hb dL_law_938 rfl (lv_at hl 4 rfl) ?_
    refine lv_iload hx hb dL_law_939 (lv_at hl 0 rfl) ?_
    refine lv_iconst (v := nI 1) hx hb dL_law_941 (by decide +kernel) ?_
    refine lv_iadd hx hb dL_law_942 ?_
    refine e_top (nI_add _ _) ?_
    refine e_sld hXs hbl hbA hS (w + 1) (by omega) (by omega) (v := xs (w + 1)) rfl hx hb dL_law_943 ?_
    refine lv_aload_n hx hb dL_law_944 rfl (lv_at hl 1 rfl) ?_
    refine e_callSH (As := [.ref o, .int (xs (w + 1)), .ref oq]) (rest := []) ⟨hx, hb, hml, hown, hts⟩ hK hX hP hD hS hA hl.1 (c_L_closes l hlt E _ o ad wm st gr co hb_ mo ga ca ha_ ma sd tk op sp rc rn wa (xs (w + 1)) oq lo (by first | omega | assumption | rfl | (simp_all; done)) (by first | omega | assumption | rfl | (simp_all; done))) (vx_cwSW 3 hts gL_law_L_closes rfl rfl rfl (by decide +kernel) ⟨Nat.le_of_ble_eq_true rfl, Nat.le_of_ble_eq_true rfl⟩) [0, 1, 2, 3, 4, 5, 6, 7, 8, 9, 10, 11, 12, 13, 14, 15, 16, 17, 18, 19, 30] [20, 21, 22, 23, 24, 25, 26, 27, 28, 29] rfl rfl rfl rfl (by decide) rfl rfl (Nat.le_of_ble_eq_true rfl) dL_law_945 ⟨by show 40 + 3 * z + 0 ≤ 601024; omega, by show 2500 + 168 * z + 0 ≤ 7293034; omega⟩ (fun u_7 H locs hu_8 hsz1 hP hD hS => ?_)
    obtain ⟨ga__9, ca__10, ha1__11, ma__12, op__13, sp__14, rc__15, rn__16, wa__17⟩ := u_7
    have hP : va_P E.1 vwCl (wAll E o ad wm st gr co hb_ (nI mo) ga__9 ca__10 ha1__11 (nI ma__12) sd tk op__13 sp__14 rc__15 rn__16 wa__17 ++ wMo E o2 ad2 th gr co sd tk wm st (nI mo) nx lb fr ++ [(oq, .inl (E.2.2.2, 1, .inr (.inl (vp_updL lo 0 ((closN wm st gr co mo (xs (w + 1))).toInt64)))))]) H := hP.sub [10, 11, 12, 13, 14, 15, 16, 17, 18, 19, 20, 21, 22, 23, 24, 25, 26, 27, 28, 29, 0, 1, 2, 3, 4, 5, 6, 7, 8, 9, 30] rfl
    have hD : va_D (lA s) (wAll E o ad wm st gr co hb_ (nI mo) ga__9 ca__10 ha1__11 (nI ma__12) sd tk op__13 sp__14 rc__15 rn__16 wa__17 ++ wMo E o2 ad2 th gr co sd tk wm st (nI mo) nx lb fr ++ [(oq, .inl (E.2.2.2, 1, .inr (.inl (vp_updL lo 0 ((closN wm st gr co mo (xs (w + 1))).toInt64)))))]) := hD.sub [10, 11, 12, 13, 14, 15, 16, 17, 18, 19, 20, 21, 22, 23, 24, 25, 26, 27, 28, 29, 0, 1, 2, 3, 4, 5, 6, 7, 8, 9, 30] (by decide) rfl
    refine W.eq (g2 := F0 m 948 ls [.int (nI 0)]) rfl ?_
    refine lv_istore (lv' := [(5, .int (nI 0)), (4, .int (nI w)), (3, .ref oq), (2, .ref o2), (1, .ref o), (0, .ref b)]) hx hb dL_law_948 hl (by decide) rfl (fun ls hl => ?_)
    refine lv_aload_n hx hb dL_law_950 rfl (lv_at hl 3 rfl) ?_
    refine lv_aload_n hx hb dL_law_951 rfl (lv_at hl 5 rfl) ?_
    refine lv_iload hx hb dL_law_952 (lv_at hl 1 rfl) ?_
    refine lv_iconst (v := nI 1) hx hb dL_law_954 (by decide +kernel) ?_
    refine lv_iadd hx hb dL_law_955 ?_
    refine e_top (nI_add _ _) ?_
    refine e_sld hXs hbl hbA hS (w + 1) (by omega) (by omega) (v := xs (w + 1)) rfl hx hb dL_law_956 ?_
    refine e_callV (As := [.int (xs (w + 1))]) (rest := []) ⟨hx, hb, hml, hown, hts⟩ hK hP hD hS hA hl.1 (c_X5_closes l E _ o2 ad2 th gr co sd tk wm st mo nx lb fr (xs (w + 1)) (by first | omega | assumption | rfl | (simp_all; done)) (by first | omega | assumption | rfl | (simp_all; done)) (by first | omega | assumption | rfl | (simp_all; done)) (by first | omega | assumption | rfl | (simp_all; done))) (cwV 1 hts gL_law_X5_closes rfl rfl rfl (by decide +kernel) ⟨Nat.le_of_ble_eq_true rfl, Nat.le_of_ble_eq_true rfl⟩) [20, 21, 22, 23, 24, 25, 26, 27, 28, 29] [0, 1, 2, 3, 4, 5, 6, 7, 8, 9, 10, 11, 12, 13, 14, 15, 16, 17, 18, 19, 30] rfl rfl rfl rfl (by decide) (q0 := 20) (ci := 5) rfl rfl rfl rfl (Nat.le_of_ble_eq_true rfl) dL_law_957 ⟨by show 40 + 3 * z + 0 + 2 ≤ 601024; omega, by show 2500 + 168 * z + 0 + 162 ≤ 7293034; omega⟩ (fun u_18 H locs hu_19 hsz1 hP hD hS => ?_)
    obtain ⟨nx__20, fr__21⟩ := u_18
    have hP : va_P E.1 vwCl (wAll E o ad wm st gr co hb_ (nI mo) ga__9 ca__10 ha1__11 (nI ma__12) sd tk op__13 sp__14 rc__15 rn__16 wa__17 ++ wMo E o2 ad2 (nI 0) gr co sd tk wm st (nI mo) nx__20 lb fr__21 ++ [(oq, .inl (E.2.2.2, 1, .inr (.inl (vp_updL lo 0 ((closN wm st gr co mo (xs (w + 1))).toInt64)))))]) H := hP.sub [0, 1, 2, 3, 4, 5, 6, 7, 8, 9, 10, 11, 12, 13, 14, 15, 16, 17, 18, 19, 21, 22, 23, 24, 25, 26, 27, 28, 29, 30, 20] rfl
    have hD : va_D (lA s) (wAll E o ad wm st gr co hb_ (nI mo) ga__9 ca__10 ha1__11 (nI ma__12) sd tk op__13 sp__14 rc__15 rn__16 wa__17 ++ wMo E o2 ad2 (nI 0) gr co sd tk wm st (nI mo) nx__20 lb fr__21 ++ [(oq, .inl (E.2.2.2, 1, .inr (.inl (vp_updL lo 0 ((closN wm st gr co mo (xs (w + 1))).toInt64)))))]) := hD.sub [0, 1, 2, 3, 4, 5, 6, 7, 8, 9, 10, 11, 12, 13, 14, 15, 16, 17, 18, 19, 21, 22, 23, 24, 25, 26, 27, 28, 29, 30, 20] (by decide) rfl
    refine W.eq (g2 := F0 m 960 ls [.int (closN wm st gr co mo (xs (w + 1)))]) rfl ?_
    refine lv_istore (lv' := [(6, .int (closN wm st gr co mo (xs (w + 1)))), (5, .int (nI 0)), (4, .int (nI w)), (3, .ref oq), (2, .ref o2), (1, .ref o), (0, .ref b)]) hx hb dL_law_960 hl (by decide) rfl (fun ls hl => ?_)
    refine lv_aload_n hx hb dL_law_962 rfl (lv_at hl 4 rfl) ?_
    refine e_callV (As := []) (rest := []) ⟨hx, hb, hml, hown, hts⟩ hK hP hD hS hA hl.1 (c_X5_thrown l E _ o2 ad2 (nI 0) gr co sd tk wm st mo nx__20 lb fr__21) (cwV 0 hts gL_law_X5_thrown rfl rfl rfl (by decide +kernel) ⟨Nat.le_of_ble_eq_true rfl, Nat.le_of_ble_eq_true rfl⟩) [20, 21, 22, 23, 24, 25, 26, 27, 28, 29] [0, 1, 2, 3, 4, 5, 6, 7, 8, 9, 10, 11, 12, 13, 14, 15, 16, 17, 18, 19, 30] rfl rfl rfl rfl (by decide) (q0 := 20) (ci := 5) rfl rfl rfl rfl (Nat.le_of_ble_eq_true rfl) dL_law_963 ⟨by show 40 + 3 * z + 0 + 2 + 0 ≤ 601024; omega, by show 2500 + 168 * z + 0 + 162 + 0 ≤ 7293034; omega⟩ (fun u_22 H locs hu_23 hsz1 hP hD hS => ?_)
    have hP : va_P E.1 vwCl (wAll E o ad wm st gr co hb_ (nI mo) ga__9 ca__10 ha1__11 (nI ma__12) sd tk op__13 sp__14 rc__15 rn__16 wa__17 ++ wMo E o2 ad2 (nI 0) gr co sd tk wm st (nI mo) nx__20 lb fr__21 ++ [(oq, .inl (E.2.2.2, 1, .inr (.inl (vp_updL lo 0 ((closN wm st gr co mo (xs (w + 1))).toInt64)))))]) H := hP.sub [0, 1, 2, 3, 4, 5, 6, 7, 8, 9, 10, 11, 12, 13, 14, 15, 16, 17, 18, 19, 21, 22, 23, 24, 25, 26, 27, 28, 29, 30, 20] rfl
    have hD : va_D (lA s) (wAll E o ad wm st gr co hb_ (nI mo) ga__9 ca__10 ha1__11 (nI ma__12) sd tk op__13 sp__14 rc__15 rn__16 wa__17 ++ wMo E o2 ad2 (nI 0) gr co sd tk wm st (nI mo) nx__20 lb fr__21 ++ [(oq, .inl (E.2.2.2, 1, .inr (.inl (vp_updL lo 0 ((closN wm st gr co mo (xs (w + 1))).toInt64)))))]) := hD.sub [0, 1, 2, 3, 4, 5, 6, 7, 8, 9, 10, 11, 12, 13, 14, 15, 16, 17, 18, 19, 21, 22, 23, 24, 25, 26, 27, 28, 29, 30, 20] (by decide) rfl
    refine W.eq (g2 := F0 m 966 ls [.int (nI 0)]) rfl ?_
    refine lv_iload hx hb dL_law_966 (lv_at hl 1 rfl) ?_
    refine n_icmp_eq (x := 0) (y := 0) (by omega) (by omega) (tgt := 973) hx hb dL_law_968 (by decide) (fun c968 => ?_) (fun c968 => absurd rfl c968)
    refine lv_iload hx hb dL_law_973 (lv_at hl 1 rfl) ?_
    refine n_if_ne (x := 0) (by omega) (tgt := 990) hx hb dL_law_975 (by decide) (fun c975 => (by omega)) (fun c975 => ?_)
    refine lv_aload_n hx hb dL_law_978 rfl (lv_at hl 3 rfl) ?_
    refine lv_iconst (v := nI 0) hx hb dL_law_979 (by decide +kernel) ?_
    refine e_lald hK hP 30 rfl 0 (by omega) (by decide) hx hb dL_law_980 ?_
    refine lv_iload hx hb dL_law_981 (lv_at hl 0 rfl) ?_
    refine lv_i2l hx hb dL_law_983 rfl ?_
    refine W.lcmp hx hb dL_law_984 ?_
    refine e_top (y := nI 0) (show lg_cmp ((vp_updL lo 0 ((closN wm st gr co mo (xs (w + 1))).toInt64)) 0) ((closN wm st gr co mo (xs (w + 1))).toInt64) = nI 0 from (lg_cmp_eq _ _).mpr rfl) ?_
    refine n_if_eq (x := 0) (by omega) (tgt := 990) hx hb dL_law_985 (by decide) (fun c985 => ?_) (fun c985 => (by omega))
    refine lv_goto (tgt := 1129) hx hb dL_law_990 (by decide) ?_
    refine lv_iinc (v := nI (w + 4)) (lv' := [(4, .int (nI (w + 4))), (6, .int (closN wm st gr co mo (xs (w + 1)))), (5, .int (nI 0)), (3, .ref oq), (2, .ref o2), (1, .ref o), (0, .ref b)]) hx hb dL_law_1129 hl (k := 2) rfl (nI_add w 4) (by decide) rfl (fun ls hl => ?_)
    refine lv_goto (tgt := 23) hx hb dL_law_1132 (by decide) ?_
    exact W.widen (by show 40 + 3 * z + 0 + 2 + 0 ≤ 40 + 3 * (z + 1); omega) (by show 2500 + 168 * z + 0 + 162 + 0 ≤ 2500 + 168 * (z + 1); omega) (kk (w + 4) wm st gr co hb_ mo ga__9 ca__10 ha1__11 ma__12 sd tk op__13 sp__14 rc__15 rn__16 wa__17 (nI 0) nx__20 lb fr__21 (vp_updL lo 0 ((closN wm st gr co mo (xs (w + 1))).toInt64)) H locs ls (by omega) (by omega) hT hR hP hD hS (lv_sub hl [0, 3, 4, 5, 6] rfl))

set_option maxHeartbeats 16000000 in
set_option maxRecDepth 100000 in
theorem k_case13 {p : Program} {e : Env} {s : State} {m : MethodId} {below : List Frame} {meth : Method} {cd : Code} (l : Launch) (hlt : l.stackTraces = false) {b L : Nat} {xs : Nat → Int32} {E : eT} (C : lC p s m cd b L xs E) {Q : State → Prop} {o : Nat} {ad : Nat → Nat} {o2 : Nat} {ad2 : Nat → Nat} {oq : Nat} (z w : Nat) (kk : lHead p l e s m below meth cd b E Q o ad o2 ad2 oq (z + 1)) (hi : w + 4 ≤ L) (wm : Nat → Int32) (st : Nat → Int32) (gr : Nat → Int32) (co : Nat → Int32) (hb_ : Nat → Bool) (mo : Nat) (ga : Nat → Int32) (ca : Nat → Int32) (ha_ : Nat → Bool) (ma : Nat) (sd : Nat → Int32) (tk : Nat → Int32) (op : Nat → Bool) (sp : Nat → Nat) (rc : Nat → Nat) (rn : Nat) (wa : Nat → Int32) (th : Int32) (nx : Nat → Int32) (lb : Nat → Option Nat) (fr : Nat → Nat) (lo : Nat → Int64) (H : Heap) (locs : List Loc) (ls : Array Slot) (hw : w = 4 * z) (hmo : mo ≤ 120 * z) (hT : Tb wm st) (hR : Rg gr co) (hP : va_P E.1 vwCl (wAll E o ad wm st gr co hb_ (nI mo) ga ca ha_ (nI ma) sd tk op sp rc rn wa ++ wMo E o2 ad2 th gr co sd tk wm st (nI mo) nx lb fr ++ [(oq, .inl (E.2.2.2, 1, .inr (.inl lo)))]) H) (hD : va_D (lA s) (wAll E o ad wm st gr co hb_ (nI mo) ga ca ha_ (nI ma) sd tk op sp rc rn wa ++ wMo E o2 ad2 th gr co sd tk wm st (nI mo) nx lb fr ++ [(oq, .inl (E.2.2.2, 1, .inr (.inl lo)))])) (hS : va_S (lA s) s.heap H locs) (hl : lv_has ls 9 [(4, .int (nI w)), (3, .ref oq), (2, .ref o2), (1, .ref o), (0, .ref b)]) : W p l e room_1 s m #[Value.ref b] below meth cd H locs (40 + 3 * z) (2500 + 168 * z) Q (F0 m 993 ls []) := by
  obtain ⟨hx, hb, hml, hown, hts, hK, hX, hXs, hbl, hL⟩ := C
  have hA : ∀ q : Nat, s.heap.size ≤ q → lA s q := fun _ h => h
  have hbA : ¬ lA s b := Nat.not_le.mpr hbl
  have hz : z ≤ 512 := by omega
  cases hv : isInB (xs (w + 1)) (nI 1) (nI 100) with
  | false =>
    refine lv_aload_n hx hb dL_law_993 rfl (lv_at hl 3 rfl) ?_
    refine lv_aload_n hx hb dL_law_994 rfl (lv_at hl 4 rfl) ?_
    refine lv_iload hx hb dL_law_995 (lv_at hl 0 rfl) ?_
    refine lv_iconst (v := nI 1) hx hb dL_law_997 (by decide +kernel) ?_
    refine lv_iadd hx hb dL_law_998 ?_
    refine e_top (nI_add _ _) ?_
    refine e_sld hXs hbl hbA hS (w + 1) (by omega) (by omega) (v := xs (w + 1)) rfl hx hb dL_law_999 ?_
    refine lv_aload_n hx hb dL_law_1000 rfl (lv_at hl 4 rfl) ?_
    refine lv_iload hx hb dL_law_1001 (lv_at hl 0 rfl) ?_
    refine lv_iconst (v := nI 2) hx hb dL_law_1003 (by decide +kernel) ?_
    refine lv_iadd hx hb dL_law_1004 ?_
    refine e_top (nI_add _ _) ?_
    refine e_sld hXs hbl hbA hS (w + 2) (by omega) (by omega) (v := xs (w + 2)) rfl hx hb dL_law_1005 ?_
    refine lv_aload_n hx hb dL_law_1006 rfl (lv_at hl 1 rfl) ?_
    refine e_callSH (As := [.ref o, .int (xs (w + 1)), .int (xs (w + 2)), .ref oq]) (rest := []) ⟨hx, hb, hml, hown, hts⟩ hK hX hP hD hS hA hl.1 (c_L_foresee_b1 l hlt E _ o ad wm st gr co hb_ mo ga ca ha_ ma sd tk op sp rc rn wa (xs (w + 1)) (xs (w + 2)) oq lo (hv)) (vx_cwSW 4 hts gL_law_L_foresee rfl rfl rfl (by decide +kernel) ⟨Nat.le_of_ble_eq_true rfl, Nat.le_of_ble_eq_true rfl⟩) [0, 1, 2, 3, 4, 5, 6, 7, 8, 9, 10, 11, 12, 13, 14, 15, 16, 17, 18, 19, 30] [20, 21, 22, 23, 24, 25, 26, 27, 28, 29] rfl rfl rfl rfl (by decide) rfl rfl (Nat.le_of_ble_eq_true rfl) dL_law_1007 ⟨by show 40 + 3 * z + 1 ≤ 601024; omega, by show 2500 + 168 * z + 6 ≤ 7293034; omega⟩ (fun u_1 H locs hu_2 hsz1 hP hD hS => ?_)
    have hP : va_P E.1 vwCl (wAll E o ad wm st gr co hb_ (nI mo) ga ca ha_ (nI ma) sd tk op sp rc rn wa ++ wMo E o2 ad2 th gr co sd tk wm st (nI mo) nx lb fr ++ [(oq, .inl (E.2.2.2, 1, .inr (.inl lo)))]) H := hP.sub [10, 11, 12, 13, 14, 15, 16, 17, 18, 19, 20, 21, 22, 23, 24, 25, 26, 27, 28, 29, 0, 1, 2, 3, 4, 5, 6, 7, 8, 9, 30] rfl
    have hD : va_D (lA s) (wAll E o ad wm st gr co hb_ (nI mo) ga ca ha_ (nI ma) sd tk op sp rc rn wa ++ wMo E o2 ad2 th gr co sd tk wm st (nI mo) nx lb fr ++ [(oq, .inl (E.2.2.2, 1, .inr (.inl lo)))]) := hD.sub [10, 11, 12, 13, 14, 15, 16, 17, 18, 19, 20, 21, 22, 23, 24, 25, 26, 27, 28, 29, 0, 1, 2, 3, 4, 5, 6, 7, 8, 9, 30] (by decide) rfl
    refine W.eq (g2 := F0 m 1010 ls [.int (nI 1)]) rfl ?_
    refine lv_istore (lv' := [(5, .int (nI 1)), (4, .int (nI w)), (3, .ref oq), (2, .ref o2), (1, .ref o), (0, .ref b)]) hx hb dL_law_1010 hl (by decide) rfl (fun ls hl => ?_)
    refine lv_aload_n hx hb dL_law_1012 rfl (lv_at hl 3 rfl) ?_
    refine lv_aload_n hx hb dL_law_1013 rfl (lv_at hl 5 rfl) ?_
    refine lv_iload hx hb dL_law_1014 (lv_at hl 1 rfl) ?_
    refine lv_iconst (v := nI 1) hx hb dL_law_1016 (by decide +kernel) ?_
    refine lv_iadd hx hb dL_law_1017 ?_
    refine e_top (nI_add _ _) ?_
    refine e_sld hXs hbl hbA hS (w + 1) (by omega) (by omega) (v := xs (w + 1)) rfl hx hb dL_law_1018 ?_
    refine lv_aload_n hx hb dL_law_1019 rfl (lv_at hl 5 rfl) ?_
    refine lv_iload hx hb dL_law_1020 (lv_at hl 1 rfl) ?_
    refine lv_iconst (v := nI 2) hx hb dL_law_1022 (by decide +kernel) ?_
    refine lv_iadd hx hb dL_law_1023 ?_
    refine e_top (nI_add _ _) ?_
    refine e_sld hXs hbl hbA hS (w + 2) (by omega) (by omega) (v := xs (w + 2)) rfl hx hb dL_law_1024 ?_
    refine e_callV (As := [.int (xs (w + 1)), .int (xs (w + 2))]) (rest := []) ⟨hx, hb, hml, hown, hts⟩ hK hP hD hS hA hl.1 (c_X5_foresee_b1 l E _ o2 ad2 th gr co sd tk wm st mo nx lb fr (xs (w + 1)) (xs (w + 2)) (hv)) (cwV 2 hts gL_law_X5_foresee rfl rfl rfl (by decide +kernel) ⟨Nat.le_of_ble_eq_true rfl, Nat.le_of_ble_eq_true rfl⟩) [20, 21, 22, 23, 24, 25, 26, 27, 28, 29] [0, 1, 2, 3, 4, 5, 6, 7, 8, 9, 10, 11, 12, 13, 14, 15, 16, 17, 18, 19, 30] rfl rfl rfl rfl (by decide) (q0 := 20) (ci := 5) rfl rfl rfl rfl (Nat.le_of_ble_eq_true rfl) dL_law_1025 ⟨by show 40 + 3 * z + 1 + 0 ≤ 601024; omega, by show 2500 + 168 * z + 6 + 0 ≤ 7293034; omega⟩ (fun u_3 H locs hu_4 hsz1 hP hD hS => ?_)
    have hP : va_P E.1 vwCl (wAll E o ad wm st gr co hb_ (nI mo) ga ca ha_ (nI ma) sd tk op sp rc rn wa ++ wMo E o2 ad2 (nI 1) gr co sd tk wm st (nI mo) nx lb fr ++ [(oq, .inl (E.2.2.2, 1, .inr (.inl lo)))]) H := hP.sub [0, 1, 2, 3, 4, 5, 6, 7, 8, 9, 10, 11, 12, 13, 14, 15, 16, 17, 18, 19, 21, 22, 23, 24, 25, 26, 27, 28, 29, 30, 20] rfl
    have hD : va_D (lA s) (wAll E o ad wm st gr co hb_ (nI mo) ga ca ha_ (nI ma) sd tk op sp rc rn wa ++ wMo E o2 ad2 (nI 1) gr co sd tk wm st (nI mo) nx lb fr ++ [(oq, .inl (E.2.2.2, 1, .inr (.inl lo)))]) := hD.sub [0, 1, 2, 3, 4, 5, 6, 7, 8, 9, 10, 11, 12, 13, 14, 15, 16, 17, 18, 19, 21, 22, 23, 24, 25, 26, 27, 28, 29, 30, 20] (by decide) rfl
    refine W.eq (g2 := F0 m 1028 ls [.int (nI 0)]) rfl ?_
    refine lv_istore (lv' := [(6, .int (nI 0)), (5, .int (nI 1)), (4, .int (nI w)), (3, .ref oq), (2, .ref o2), (1, .ref o), (0, .ref b)]) hx hb dL_law_1028 hl (by decide) rfl (fun ls hl => ?_)
    refine lv_aload_n hx hb dL_law_1030 rfl (lv_at hl 4 rfl) ?_
    refine e_callV (As := []) (rest := []) ⟨hx, hb, hml, hown, hts⟩ hK hP hD hS hA hl.1 (c_X5_thrown l E _ o2 ad2 (nI 1) gr co sd tk wm st mo nx lb fr) (cwV 0 hts gL_law_X5_thrown rfl rfl rfl (by decide +kernel) ⟨Nat.le_of_ble_eq_true rfl, Nat.le_of_ble_eq_true rfl⟩) [20, 21, 22, 23, 24, 25, 26, 27, 28, 29] [0, 1, 2, 3, 4, 5, 6, 7, 8, 9, 10, 11, 12, 13, 14, 15, 16, 17, 18, 19, 30] rfl rfl rfl rfl (by decide) (q0 := 20) (ci := 5) rfl rfl rfl rfl (Nat.le_of_ble_eq_true rfl) dL_law_1031 ⟨by show 40 + 3 * z + 1 + 0 + 0 ≤ 601024; omega, by show 2500 + 168 * z + 6 + 0 + 0 ≤ 7293034; omega⟩ (fun u_5 H locs hu_6 hsz1 hP hD hS => ?_)
    have hP : va_P E.1 vwCl (wAll E o ad wm st gr co hb_ (nI mo) ga ca ha_ (nI ma) sd tk op sp rc rn wa ++ wMo E o2 ad2 (nI 1) gr co sd tk wm st (nI mo) nx lb fr ++ [(oq, .inl (E.2.2.2, 1, .inr (.inl lo)))]) H := hP.sub [0, 1, 2, 3, 4, 5, 6, 7, 8, 9, 10, 11, 12, 13, 14, 15, 16, 17, 18, 19, 21, 22, 23, 24, 25, 26, 27, 28, 29, 30, 20] rfl
    have hD : va_D (lA s) (wAll E o ad wm st gr co hb_ (nI mo) ga ca ha_ (nI ma) sd tk op sp rc rn wa ++ wMo E o2 ad2 (nI 1) gr co sd tk wm st (nI mo) nx lb fr ++ [(oq, .inl (E.2.2.2, 1, .inr (.inl lo)))]) := hD.sub [0, 1, 2, 3, 4, 5, 6, 7, 8, 9, 10, 11, 12, 13, 14, 15, 16, 17, 18, 19, 21, 22, 23, 24, 25, 26, 27, 28, 29, 30, 20] (by decide) rfl
    refine W.eq (g2 := F0 m 1034 ls [.int (nI 1)]) rfl ?_
    refine lv_iload hx hb dL_law_1034 (lv_at hl 1 rfl) ?_
    refine n_icmp_eq (x := 1) (y := 1) (by omega) (by omega) (tgt := 1041) hx hb dL_law_1036 (by decide) (fun c1036 => ?_) (fun c1036 => absurd rfl c1036)
    refine lv_iload hx hb dL_law_1041 (lv_at hl 1 rfl) ?_
    refine n_if_ne (x := 1) (by omega) (tgt := 1058) hx hb dL_law_1043 (by decide) (fun c1043 => ?_) (fun c1043 => (by omega))
    refine lv_goto (tgt := 1129) hx hb dL_law_1058 (by decide) ?_
    refine lv_iinc (v := nI (w + 4)) (lv' := [(4, .int (nI (w + 4))), (6, .int (nI 0)), (5, .int (nI 1)), (3, .ref oq), (2, .ref o2), (1, .ref o), (0, .ref b)]) hx hb dL_law_1129 hl (k := 2) rfl (nI_add w 4) (by decide) rfl (fun ls hl => ?_)
    refine lv_goto (tgt := 23) hx hb dL_law_1132 (by decide) ?_
    exact W.widen (by show 40 + 3 * z + 1 + 0 + 0 ≤ 40 + 3 * (z + 1); omega) (by show 2500 + 168 * z + 6 + 0 + 0 ≤ 2500 + 168 * (z + 1); omega) (kk (w + 4) wm st gr co hb_ mo ga ca ha_ ma sd tk op sp rc rn wa (nI 1) nx lb fr lo H locs ls (by omega) (by omega) hT hR hP hD hS (lv_sub hl [0, 3, 4, 5, 6] rfl))
  | true =>
    obtain ⟨k, hv1, hv2, e1⟩ := isInB_nat (by decide) hv (by decide)
    cases hu : isInB (xs (w + 2)) (nI 0) (nI 2) with
    | false =>
      refine lv_aload_n hx hb dL_law_993 rfl (lv_at hl 3 rfl) ?_
      refine lv_aload_n hx hb dL_law_994 rfl (lv_at hl 4 rfl) ?_
      refine lv_iload hx hb dL_law_995 (lv_at hl 0 rfl) ?_
      refine lv_iconst (v := nI 1) hx hb dL_law_997 (by decide +kernel) ?_
      refine lv_iadd hx hb dL_law_998 ?_
      refine e_top (nI_add _ _) ?_
      refine e_sld hXs hbl hbA hS (w + 1) (by omega) (by omega) (v := nI k) e1 hx hb dL_law_999 ?_
      refine lv_aload_n hx hb dL_law_1000 rfl (lv_at hl 4 rfl) ?_
      refine lv_iload hx hb dL_law_1001 (lv_at hl 0 rfl) ?_
      refine lv_iconst (v := nI 2) hx hb dL_law_1003 (by decide +kernel) ?_
      refine lv_iadd hx hb dL_law_1004 ?_
      refine e_top (nI_add _ _) ?_
      refine e_sld hXs hbl hbA hS (w + 2) (by omega) (by omega) (v := xs (w + 2)) rfl hx hb dL_law_1005 ?_
      refine lv_aload_n hx hb dL_law_1006 rfl (lv_at hl 1 rfl) ?_
      refine e_callSH (As := [.ref o, .int (nI k), .int (xs (w + 2)), .ref oq]) (rest := []) ⟨hx, hb, hml, hown, hts⟩ hK hX hP hD hS hA hl.1 (c_L_foresee_b2 l hlt E _ o ad wm st gr co hb_ mo ga ca ha_ ma sd tk op sp rc rn wa k (xs (w + 2)) oq lo (by first | omega | assumption | rfl | (simp_all; done)) (by first | omega | assumption | rfl | (simp_all; done)) (hu)) (vx_cwSW 4 hts gL_law_L_foresee rfl rfl rfl (by decide +kernel) ⟨Nat.le_of_ble_eq_true rfl, Nat.le_of_ble_eq_true rfl⟩) [0, 1, 2, 3, 4, 5, 6, 7, 8, 9, 10, 11, 12, 13, 14, 15, 16, 17, 18, 19, 30] [20, 21, 22, 23, 24, 25, 26, 27, 28, 29] rfl rfl rfl rfl (by decide) rfl rfl (Nat.le_of_ble_eq_true rfl) dL_law_1007 ⟨by show 40 + 3 * z + 1 ≤ 601024; omega, by show 2500 + 168 * z + 6 ≤ 7293034; omega⟩ (fun u_7 H locs hu_8 hsz1 hP hD hS => ?_)
      have hP : va_P E.1 vwCl (wAll E o ad wm st gr co hb_ (nI mo) ga ca ha_ (nI ma) sd tk op sp rc rn wa ++ wMo E o2 ad2 th gr co sd tk wm st (nI mo) nx lb fr ++ [(oq, .inl (E.2.2.2, 1, .inr (.inl lo)))]) H := hP.sub [10, 11, 12, 13, 14, 15, 16, 17, 18, 19, 20, 21, 22, 23, 24, 25, 26, 27, 28, 29, 0, 1, 2, 3, 4, 5, 6, 7, 8, 9, 30] rfl
      have hD : va_D (lA s) (wAll E o ad wm st gr co hb_ (nI mo) ga ca ha_ (nI ma) sd tk op sp rc rn wa ++ wMo E o2 ad2 th gr co sd tk wm st (nI mo) nx lb fr ++ [(oq, .inl (E.2.2.2, 1, .inr (.inl lo)))]) := hD.sub [10, 11, 12, 13, 14, 15, 16, 17, 18, 19, 20, 21, 22, 23, 24, 25, 26, 27, 28, 29, 0, 1, 2, 3, 4, 5, 6, 7, 8, 9, 30] (by decide) rfl
      refine W.eq (g2 := F0 m 1010 ls [.int (nI 2)]) rfl ?_
      refine lv_istore (lv' := [(5, .int (nI 2)), (4, .int (nI w)), (3, .ref oq), (2, .ref o2), (1, .ref o), (0, .ref b)]) hx hb dL_law_1010 hl (by decide) rfl (fun ls hl => ?_)
      refine lv_aload_n hx hb dL_law_1012 rfl (lv_at hl 3 rfl) ?_
      refine lv_aload_n hx hb dL_law_1013 rfl (lv_at hl 5 rfl) ?_
      refine lv_iload hx hb dL_law_1014 (lv_at hl 1 rfl) ?_
      refine lv_iconst (v := nI 1) hx hb dL_law_1016 (by decide +kernel) ?_
      refine lv_iadd hx hb dL_law_1017 ?_
      refine e_top (nI_add _ _) ?_
      refine e_sld hXs hbl hbA hS (w + 1) (by omega) (by omega) (v := nI k) e1 hx hb dL_law_1018 ?_
      refine lv_aload_n hx hb dL_law_1019 rfl (lv_at hl 5 rfl) ?_
      refine lv_iload hx hb dL_law_1020 (lv_at hl 1 rfl) ?_
      refine lv_iconst (v := nI 2) hx hb dL_law_1022 (by decide +kernel) ?_
      refine lv_iadd hx hb dL_law_1023 ?_
      refine e_top (nI_add _ _) ?_
      refine e_sld hXs hbl hbA hS (w + 2) (by omega) (by omega) (v := xs (w + 2)) rfl hx hb dL_law_1024 ?_
      refine e_callV (As := [.int (nI k), .int (xs (w + 2))]) (rest := []) ⟨hx, hb, hml, hown, hts⟩ hK hP hD hS hA hl.1 (c_X5_foresee_b2 l E _ o2 ad2 th gr co sd tk wm st mo nx lb fr k (xs (w + 2)) (by first | omega | assumption | rfl | (simp_all; done)) (by first | omega | assumption | rfl | (simp_all; done)) (hu)) (cwV 2 hts gL_law_X5_foresee rfl rfl rfl (by decide +kernel) ⟨Nat.le_of_ble_eq_true rfl, Nat.le_of_ble_eq_true rfl⟩) [20, 21, 22, 23, 24, 25, 26, 27, 28, 29] [0, 1, 2, 3, 4, 5, 6, 7, 8, 9, 10, 11, 12, 13, 14, 15, 16, 17, 18, 19, 30] rfl rfl rfl rfl (by decide) (q0 := 20) (ci := 5) rfl rfl rfl rfl (Nat.le_of_ble_eq_true rfl) dL_law_1025 ⟨by show 40 + 3 * z + 1 + 0 ≤ 601024; omega, by show 2500 + 168 * z + 6 + 0 ≤ 7293034; omega⟩ (fun u_9 H locs hu_10 hsz1 hP hD hS => ?_)
      have hP : va_P E.1 vwCl (wAll E o ad wm st gr co hb_ (nI mo) ga ca ha_ (nI ma) sd tk op sp rc rn wa ++ wMo E o2 ad2 (nI 2) gr co sd tk wm st (nI mo) nx lb fr ++ [(oq, .inl (E.2.2.2, 1, .inr (.inl lo)))]) H := hP.sub [0, 1, 2, 3, 4, 5, 6, 7, 8, 9, 10, 11, 12, 13, 14, 15, 16, 17, 18, 19, 21, 22, 23, 24, 25, 26, 27, 28, 29, 30, 20] rfl
      have hD : va_D (lA s) (wAll E o ad wm st gr co hb_ (nI mo) ga ca ha_ (nI ma) sd tk op sp rc rn wa ++ wMo E o2 ad2 (nI 2) gr co sd tk wm st (nI mo) nx lb fr ++ [(oq, .inl (E.2.2.2, 1, .inr (.inl lo)))]) := hD.sub [0, 1, 2, 3, 4, 5, 6, 7, 8, 9, 10, 11, 12, 13, 14, 15, 16, 17, 18, 19, 21, 22, 23, 24, 25, 26, 27, 28, 29, 30, 20] (by decide) rfl
      refine W.eq (g2 := F0 m 1028 ls [.int (nI 0)]) rfl ?_
      refine lv_istore (lv' := [(6, .int (nI 0)), (5, .int (nI 2)), (4, .int (nI w)), (3, .ref oq), (2, .ref o2), (1, .ref o), (0, .ref b)]) hx hb dL_law_1028 hl (by decide) rfl (fun ls hl => ?_)
      refine lv_aload_n hx hb dL_law_1030 rfl (lv_at hl 4 rfl) ?_
      refine e_callV (As := []) (rest := []) ⟨hx, hb, hml, hown, hts⟩ hK hP hD hS hA hl.1 (c_X5_thrown l E _ o2 ad2 (nI 2) gr co sd tk wm st mo nx lb fr) (cwV 0 hts gL_law_X5_thrown rfl rfl rfl (by decide +kernel) ⟨Nat.le_of_ble_eq_true rfl, Nat.le_of_ble_eq_true rfl⟩) [20, 21, 22, 23, 24, 25, 26, 27, 28, 29] [0, 1, 2, 3, 4, 5, 6, 7, 8, 9, 10, 11, 12, 13, 14, 15, 16, 17, 18, 19, 30] rfl rfl rfl rfl (by decide) (q0 := 20) (ci := 5) rfl rfl rfl rfl (Nat.le_of_ble_eq_true rfl) dL_law_1031 ⟨by show 40 + 3 * z + 1 + 0 + 0 ≤ 601024; omega, by show 2500 + 168 * z + 6 + 0 + 0 ≤ 7293034; omega⟩ (fun u_11 H locs hu_12 hsz1 hP hD hS => ?_)
      have hP : va_P E.1 vwCl (wAll E o ad wm st gr co hb_ (nI mo) ga ca ha_ (nI ma) sd tk op sp rc rn wa ++ wMo E o2 ad2 (nI 2) gr co sd tk wm st (nI mo) nx lb fr ++ [(oq, .inl (E.2.2.2, 1, .inr (.inl lo)))]) H := hP.sub [0, 1, 2, 3, 4, 5, 6, 7, 8, 9, 10, 11, 12, 13, 14, 15, 16, 17, 18, 19, 21, 22, 23, 24, 25, 26, 27, 28, 29, 30, 20] rfl
      have hD : va_D (lA s) (wAll E o ad wm st gr co hb_ (nI mo) ga ca ha_ (nI ma) sd tk op sp rc rn wa ++ wMo E o2 ad2 (nI 2) gr co sd tk wm st (nI mo) nx lb fr ++ [(oq, .inl (E.2.2.2, 1, .inr (.inl lo)))]) := hD.sub [0, 1, 2, 3, 4, 5, 6, 7, 8, 9, 10, 11, 12, 13, 14, 15, 16, 17, 18, 19, 21, 22, 23, 24, 25, 26, 27, 28, 29, 30, 20] (by decide) rfl
      refine W.eq (g2 := F0 m 1034 ls [.int (nI 2)]) rfl ?_
      refine lv_iload hx hb dL_law_1034 (lv_at hl 1 rfl) ?_
      refine n_icmp_eq (x := 2) (y := 2) (by omega) (by omega) (tgt := 1041) hx hb dL_law_1036 (by decide) (fun c1036 => ?_) (fun c1036 => absurd rfl c1036)
      refine lv_iload hx hb dL_law_1041 (lv_at hl 1 rfl) ?_
      refine n_if_ne (x := 2) (by omega) (tgt := 1058) hx hb dL_law_1043 (by decide) (fun c1043 => ?_) (fun c1043 => (by omega))
      refine lv_goto (tgt := 1129) hx hb dL_law_1058 (by decide) ?_
      refine lv_iinc (v := nI (w + 4)) (lv' := [(4, .int (nI (w + 4))), (6, .int (nI 0)), (5, .int (nI 2)), (3, .ref oq), (2, .ref o2), (1, .ref o), (0, .ref b)]) hx hb dL_law_1129 hl (k := 2) rfl (nI_add w 4) (by decide) rfl (fun ls hl => ?_)
      refine lv_goto (tgt := 23) hx hb dL_law_1132 (by decide) ?_
      exact W.widen (by show 40 + 3 * z + 1 + 0 + 0 ≤ 40 + 3 * (z + 1); omega) (by show 2500 + 168 * z + 6 + 0 + 0 ≤ 2500 + 168 * (z + 1); omega) (kk (w + 4) wm st gr co hb_ mo ga ca ha_ ma sd tk op sp rc rn wa (nI 2) nx lb fr lo H locs ls (by omega) (by omega) hT hR hP hD hS (lv_sub hl [0, 3, 4, 5, 6] rfl))
    | true =>
      obtain ⟨q, hu1, hu2, e2⟩ := isInB_nat (by decide) hu (by decide)
      refine lv_aload_n hx hb dL_law_993 rfl (lv_at hl 3 rfl) ?_
      refine lv_aload_n hx hb dL_law_994 rfl (lv_at hl 4 rfl) ?_
      refine lv_iload hx hb dL_law_995 (lv_at hl 0 rfl) ?_
      refine lv_iconst (v := nI 1) hx hb dL_law_997 (by decide +kernel) ?_
      refine lv_iadd hx hb dL_law_998 ?_
      refine e_top (nI_add _ _) ?_
      refine e_sld hXs hbl hbA hS (w + 1) (by omega) (by omega) (v := nI k) e1 hx hb dL_law_999 ?_
      refine lv_aload_n hx hb dL_law_1000 rfl (lv_at hl 4 rfl) ?_
      refine lv_iload hx hb dL_law_1001 (lv_at hl 0 rfl) ?_
      refine lv_iconst (v := nI 2) hx hb dL_law_1003 (by decide +kernel) ?_
      refine lv_iadd hx hb dL_law_1004 ?_
      refine e_top (nI_add _ _) ?_
      refine e_sld hXs hbl hbA hS (w + 2) (by omega) (by omega) (v := nI q) e2 hx hb dL_law_1005 ?_
      refine lv_aload_n hx hb dL_law_1006 rfl (lv_at hl 1 rfl) ?_
      refine e_callSH (As := [.ref o, .int (nI k), .int (nI q), .ref oq]) (rest := []) ⟨hx, hb, hml, hown, hts⟩ hK hX hP hD hS hA hl.1 (c_L_foresee l hlt E _ o ad wm st gr co hb_ mo ga ca ha_ ma sd tk op sp rc rn wa k q oq lo (by first | omega | assumption | rfl | (simp_all; done)) (by first | omega | assumption | rfl | (simp_all; done)) (by first | omega | assumption | rfl | (simp_all; done)) (by first | omega | assumption | rfl | (simp_all; done))) (vx_cwSW 4 hts gL_law_L_foresee rfl rfl rfl (by decide +kernel) ⟨Nat.le_of_ble_eq_true rfl, Nat.le_of_ble_eq_true rfl⟩) [0, 1, 2, 3, 4, 5, 6, 7, 8, 9, 10, 11, 12, 13, 14, 15, 16, 17, 18, 19, 30] [20, 21, 22, 23, 24, 25, 26, 27, 28, 29] rfl rfl rfl rfl (by decide) rfl rfl (Nat.le_of_ble_eq_true rfl) dL_law_1007 ⟨by show 40 + 3 * z + 0 ≤ 601024; omega, by show 2500 + 168 * z + 0 ≤ 7293034; omega⟩ (fun u_13 H locs hu_14 hsz1 hP hD hS => ?_)
      obtain ⟨ga__15, ca__16, ha1__17, ma__18, op__19, sp__20, rc__21, rn__22, wa__23⟩ := u_13
      have hP : va_P E.1 vwCl (wAll E o ad wm st gr co hb_ (nI mo) ga__15 ca__16 ha1__17 (nI ma__18) sd tk op__19 sp__20 rc__21 rn__22 wa__23 ++ wMo E o2 ad2 th gr co sd tk wm st (nI mo) nx lb fr ++ [(oq, .inl (E.2.2.2, 1, .inr (.inl (vp_updL lo 0 ((forA (months wm st (gr, co) mo k).1 (months wm st (gr, co) mo k).2 q).toInt64)))))]) H := hP.sub [10, 11, 12, 13, 14, 15, 16, 17, 18, 19, 20, 21, 22, 23, 24, 25, 26, 27, 28, 29, 0, 1, 2, 3, 4, 5, 6, 7, 8, 9, 30] rfl
      have hD : va_D (lA s) (wAll E o ad wm st gr co hb_ (nI mo) ga__15 ca__16 ha1__17 (nI ma__18) sd tk op__19 sp__20 rc__21 rn__22 wa__23 ++ wMo E o2 ad2 th gr co sd tk wm st (nI mo) nx lb fr ++ [(oq, .inl (E.2.2.2, 1, .inr (.inl (vp_updL lo 0 ((forA (months wm st (gr, co) mo k).1 (months wm st (gr, co) mo k).2 q).toInt64)))))]) := hD.sub [10, 11, 12, 13, 14, 15, 16, 17, 18, 19, 20, 21, 22, 23, 24, 25, 26, 27, 28, 29, 0, 1, 2, 3, 4, 5, 6, 7, 8, 9, 30] (by decide) rfl
      refine W.eq (g2 := F0 m 1010 ls [.int (nI 0)]) rfl ?_
      refine lv_istore (lv' := [(5, .int (nI 0)), (4, .int (nI w)), (3, .ref oq), (2, .ref o2), (1, .ref o), (0, .ref b)]) hx hb dL_law_1010 hl (by decide) rfl (fun ls hl => ?_)
      refine lv_aload_n hx hb dL_law_1012 rfl (lv_at hl 3 rfl) ?_
      refine lv_aload_n hx hb dL_law_1013 rfl (lv_at hl 5 rfl) ?_
      refine lv_iload hx hb dL_law_1014 (lv_at hl 1 rfl) ?_
      refine lv_iconst (v := nI 1) hx hb dL_law_1016 (by decide +kernel) ?_
      refine lv_iadd hx hb dL_law_1017 ?_
      refine e_top (nI_add _ _) ?_
      refine e_sld hXs hbl hbA hS (w + 1) (by omega) (by omega) (v := nI k) e1 hx hb dL_law_1018 ?_
      refine lv_aload_n hx hb dL_law_1019 rfl (lv_at hl 5 rfl) ?_
      refine lv_iload hx hb dL_law_1020 (lv_at hl 1 rfl) ?_
      refine lv_iconst (v := nI 2) hx hb dL_law_1022 (by decide +kernel) ?_
      refine lv_iadd hx hb dL_law_1023 ?_
      refine e_top (nI_add _ _) ?_
      refine e_sld hXs hbl hbA hS (w + 2) (by omega) (by omega) (v := nI q) e2 hx hb dL_law_1024 ?_
      refine e_callV (As := [.int (nI k), .int (nI q)]) (rest := []) ⟨hx, hb, hml, hown, hts⟩ hK hP hD hS hA hl.1 (c_X5_foresee l E _ o2 ad2 th gr co sd tk wm st mo nx lb fr k q (by first | omega | assumption | rfl | (simp_all; done)) (by first | omega | assumption | rfl | (simp_all; done)) (by first | omega | assumption | rfl | (simp_all; done)) (by first | omega | assumption | rfl | (simp_all; done)) (by first | omega | assumption | rfl | (simp_all; done)) (by first | omega | assumption | rfl | (simp_all; done))) (cwV 2 hts gL_law_X5_foresee rfl rfl rfl (by decide +kernel) ⟨Nat.le_of_ble_eq_true rfl, Nat.le_of_ble_eq_true rfl⟩) [20, 21, 22, 23, 24, 25, 26, 27, 28, 29] [0, 1, 2, 3, 4, 5, 6, 7, 8, 9, 10, 11, 12, 13, 14, 15, 16, 17, 18, 19, 30] rfl rfl rfl rfl (by decide) (q0 := 20) (ci := 5) rfl rfl rfl rfl (Nat.le_of_ble_eq_true rfl) dL_law_1025 ⟨by show 40 + 3 * z + 0 + 2 ≤ 601024; omega, by show 2500 + 168 * z + 0 + 162 ≤ 7293034; omega⟩ (fun u_24 H locs hu_25 hsz1 hP hD hS => ?_)
      obtain ⟨nx__26, lb__27, fr__28⟩ := u_24
      have hP : va_P E.1 vwCl (wAll E o ad wm st gr co hb_ (nI mo) ga__15 ca__16 ha1__17 (nI ma__18) sd tk op__19 sp__20 rc__21 rn__22 wa__23 ++ wMo E o2 ad2 (nI 0) gr co sd tk wm st (nI mo) nx__26 lb__27 fr__28 ++ [(oq, .inl (E.2.2.2, 1, .inr (.inl (vp_updL lo 0 ((forA (months wm st (gr, co) mo k).1 (months wm st (gr, co) mo k).2 q).toInt64)))))]) H := hP.sub [0, 1, 2, 3, 4, 5, 6, 7, 8, 9, 10, 11, 12, 13, 14, 15, 16, 17, 18, 19, 21, 22, 23, 24, 25, 26, 27, 28, 29, 30, 20] rfl
      have hD : va_D (lA s) (wAll E o ad wm st gr co hb_ (nI mo) ga__15 ca__16 ha1__17 (nI ma__18) sd tk op__19 sp__20 rc__21 rn__22 wa__23 ++ wMo E o2 ad2 (nI 0) gr co sd tk wm st (nI mo) nx__26 lb__27 fr__28 ++ [(oq, .inl (E.2.2.2, 1, .inr (.inl (vp_updL lo 0 ((forA (months wm st (gr, co) mo k).1 (months wm st (gr, co) mo k).2 q).toInt64)))))]) := hD.sub [0, 1, 2, 3, 4, 5, 6, 7, 8, 9, 10, 11, 12, 13, 14, 15, 16, 17, 18, 19, 21, 22, 23, 24, 25, 26, 27, 28, 29, 30, 20] (by decide) rfl
      refine W.eq (g2 := F0 m 1028 ls [.int (forA (months wm st (gr, co) mo k).1 (months wm st (gr, co) mo k).2 q)]) rfl ?_
      refine lv_istore (lv' := [(6, .int (forA (months wm st (gr, co) mo k).1 (months wm st (gr, co) mo k).2 q)), (5, .int (nI 0)), (4, .int (nI w)), (3, .ref oq), (2, .ref o2), (1, .ref o), (0, .ref b)]) hx hb dL_law_1028 hl (by decide) rfl (fun ls hl => ?_)
      refine lv_aload_n hx hb dL_law_1030 rfl (lv_at hl 4 rfl) ?_
      refine e_callV (As := []) (rest := []) ⟨hx, hb, hml, hown, hts⟩ hK hP hD hS hA hl.1 (c_X5_thrown l E _ o2 ad2 (nI 0) gr co sd tk wm st mo nx__26 lb__27 fr__28) (cwV 0 hts gL_law_X5_thrown rfl rfl rfl (by decide +kernel) ⟨Nat.le_of_ble_eq_true rfl, Nat.le_of_ble_eq_true rfl⟩) [20, 21, 22, 23, 24, 25, 26, 27, 28, 29] [0, 1, 2, 3, 4, 5, 6, 7, 8, 9, 10, 11, 12, 13, 14, 15, 16, 17, 18, 19, 30] rfl rfl rfl rfl (by decide) (q0 := 20) (ci := 5) rfl rfl rfl rfl (Nat.le_of_ble_eq_true rfl) dL_law_1031 ⟨by show 40 + 3 * z + 0 + 2 + 0 ≤ 601024; omega, by show 2500 + 168 * z + 0 + 162 + 0 ≤ 7293034; omega⟩ (fun u_29 H locs hu_30 hsz1 hP hD hS => ?_)
      have hP : va_P E.1 vwCl (wAll E o ad wm st gr co hb_ (nI mo) ga__15 ca__16 ha1__17 (nI ma__18) sd tk op__19 sp__20 rc__21 rn__22 wa__23 ++ wMo E o2 ad2 (nI 0) gr co sd tk wm st (nI mo) nx__26 lb__27 fr__28 ++ [(oq, .inl (E.2.2.2, 1, .inr (.inl (vp_updL lo 0 ((forA (months wm st (gr, co) mo k).1 (months wm st (gr, co) mo k).2 q).toInt64)))))]) H := hP.sub [0, 1, 2, 3, 4, 5, 6, 7, 8, 9, 10, 11, 12, 13, 14, 15, 16, 17, 18, 19, 21, 22, 23, 24, 25, 26, 27, 28, 29, 30, 20] rfl
      have hD : va_D (lA s) (wAll E o ad wm st gr co hb_ (nI mo) ga__15 ca__16 ha1__17 (nI ma__18) sd tk op__19 sp__20 rc__21 rn__22 wa__23 ++ wMo E o2 ad2 (nI 0) gr co sd tk wm st (nI mo) nx__26 lb__27 fr__28 ++ [(oq, .inl (E.2.2.2, 1, .inr (.inl (vp_updL lo 0 ((forA (months wm st (gr, co) mo k).1 (months wm st (gr, co) mo k).2 q).toInt64)))))]) := hD.sub [0, 1, 2, 3, 4, 5, 6, 7, 8, 9, 10, 11, 12, 13, 14, 15, 16, 17, 18, 19, 21, 22, 23, 24, 25, 26, 27, 28, 29, 30, 20] (by decide) rfl
      refine W.eq (g2 := F0 m 1034 ls [.int (nI 0)]) rfl ?_
      refine lv_iload hx hb dL_law_1034 (lv_at hl 1 rfl) ?_
      refine n_icmp_eq (x := 0) (y := 0) (by omega) (by omega) (tgt := 1041) hx hb dL_law_1036 (by decide) (fun c1036 => ?_) (fun c1036 => absurd rfl c1036)
      refine lv_iload hx hb dL_law_1041 (lv_at hl 1 rfl) ?_
      refine n_if_ne (x := 0) (by omega) (tgt := 1058) hx hb dL_law_1043 (by decide) (fun c1043 => (by omega)) (fun c1043 => ?_)
      refine lv_aload_n hx hb dL_law_1046 rfl (lv_at hl 3 rfl) ?_
      refine lv_iconst (v := nI 0) hx hb dL_law_1047 (by decide +kernel) ?_
      refine e_lald hK hP 30 rfl 0 (by omega) (by decide) hx hb dL_law_1048 ?_
      refine lv_iload hx hb dL_law_1049 (lv_at hl 0 rfl) ?_
      refine lv_i2l hx hb dL_law_1051 rfl ?_
      refine W.lcmp hx hb dL_law_1052 ?_
      refine e_top (y := nI 0) (show lg_cmp ((vp_updL lo 0 ((forA (months wm st (gr, co) mo k).1 (months wm st (gr, co) mo k).2 q).toInt64)) 0) ((forA (months wm st (gr, co) mo k).1 (months wm st (gr, co) mo k).2 q).toInt64) = nI 0 from (lg_cmp_eq _ _).mpr rfl) ?_
      refine n_if_eq (x := 0) (by omega) (tgt := 1058) hx hb dL_law_1053 (by decide) (fun c1053 => ?_) (fun c1053 => (by omega))
      refine lv_goto (tgt := 1129) hx hb dL_law_1058 (by decide) ?_
      refine lv_iinc (v := nI (w + 4)) (lv' := [(4, .int (nI (w + 4))), (6, .int (forA (months wm st (gr, co) mo k).1 (months wm st (gr, co) mo k).2 q)), (5, .int (nI 0)), (3, .ref oq), (2, .ref o2), (1, .ref o), (0, .ref b)]) hx hb dL_law_1129 hl (k := 2) rfl (nI_add w 4) (by decide) rfl (fun ls hl => ?_)
      refine lv_goto (tgt := 23) hx hb dL_law_1132 (by decide) ?_
      exact W.widen (by show 40 + 3 * z + 0 + 2 + 0 ≤ 40 + 3 * (z + 1); omega) (by show 2500 + 168 * z + 0 + 162 + 0 ≤ 2500 + 168 * (z + 1); omega) (kk (w + 4) wm st gr co hb_ mo ga__15 ca__16 ha1__17 ma__18 sd tk op__19 sp__20 rc__21 rn__22 wa__23 (nI 0) nx__26 lb__27 fr__28 (vp_updL lo 0 ((forA (months wm st (gr, co) mo k).1 (months wm st (gr, co) mo k).2 q).toInt64)) H locs ls (by omega) (by omega) hT hR hP hD hS (lv_sub hl [0, 3, 4, 5, 6] rfl))

set_option maxHeartbeats 16000000 in
set_option maxRecDepth 100000 in
theorem k_case14 {p : Program} {e : Env} {s : State} {m : MethodId} {below : List Frame} {meth : Method} {cd : Code} (l : Launch) (hlt : l.stackTraces = false) {b L : Nat} {xs : Nat → Int32} {E : eT} (C : lC p s m cd b L xs E) {Q : State → Prop} {o : Nat} {ad : Nat → Nat} {o2 : Nat} {ad2 : Nat → Nat} {oq : Nat} (z w : Nat) (kk : lHead p l e s m below meth cd b E Q o ad o2 ad2 oq (z + 1)) (hi : w + 4 ≤ L) (wm : Nat → Int32) (st : Nat → Int32) (gr : Nat → Int32) (co : Nat → Int32) (hb_ : Nat → Bool) (mo : Nat) (ga : Nat → Int32) (ca : Nat → Int32) (ha_ : Nat → Bool) (ma : Nat) (sd : Nat → Int32) (tk : Nat → Int32) (op : Nat → Bool) (sp : Nat → Nat) (rc : Nat → Nat) (rn : Nat) (wa : Nat → Int32) (th : Int32) (nx : Nat → Int32) (lb : Nat → Option Nat) (fr : Nat → Nat) (lo : Nat → Int64) (H : Heap) (locs : List Loc) (ls : Array Slot) (hw : w = 4 * z) (hmo : mo ≤ 120 * z) (hT : Tb wm st) (hR : Rg gr co) (hP : va_P E.1 vwCl (wAll E o ad wm st gr co hb_ (nI mo) ga ca ha_ (nI ma) sd tk op sp rc rn wa ++ wMo E o2 ad2 th gr co sd tk wm st (nI mo) nx lb fr ++ [(oq, .inl (E.2.2.2, 1, .inr (.inl lo)))]) H) (hD : va_D (lA s) (wAll E o ad wm st gr co hb_ (nI mo) ga ca ha_ (nI ma) sd tk op sp rc rn wa ++ wMo E o2 ad2 th gr co sd tk wm st (nI mo) nx lb fr ++ [(oq, .inl (E.2.2.2, 1, .inr (.inl lo)))])) (hS : va_S (lA s) s.heap H locs) (hl : lv_has ls 9 [(4, .int (nI w)), (3, .ref oq), (2, .ref o2), (1, .ref o), (0, .ref b)]) : W p l e room_1 s m #[Value.ref b] below meth cd H locs (40 + 3 * z) (2500 + 168 * z) Q (F0 m 1061 ls []) := by
  obtain ⟨hx, hb, hml, hown, hts, hK, hX, hXs, hbl, hL⟩ := C
  have hA : ∀ q : Nat, s.heap.size ≤ q → lA s q := fun _ h => h
  have hbA : ¬ lA s b := Nat.not_le.mpr hbl
  have hz : z ≤ 512 := by omega
  refine lv_aload_n hx hb dL_law_1061 rfl (lv_at hl 3 rfl) ?_
  refine e_callV (As := []) (rest := []) ⟨hx, hb, hml, hown, hts⟩ hK hP hD hS hA hl.1 (c_X4_advise l E _ o ad wm st gr co hb_ mo ga ca ha_ ma sd tk op sp rc rn wa) (cwV 0 hts gL_law_X4_advise rfl rfl rfl (by decide +kernel) ⟨Nat.le_of_ble_eq_true rfl, Nat.le_of_ble_eq_true rfl⟩) [0, 1, 2, 3, 4, 5, 6, 7, 8, 9, 10, 11, 12, 13, 14, 15, 16, 17, 18, 19] [20, 21, 22, 23, 24, 25, 26, 27, 28, 29, 30] rfl rfl rfl rfl (by decide) (q0 := 0) (ci := 4) rfl rfl rfl rfl (Nat.le_of_ble_eq_true rfl) dL_law_1062 ⟨by show 40 + 3 * z + 0 ≤ 601024; omega, by show 2500 + 168 * z + 0 ≤ 7293034; omega⟩ (fun u_1 H locs hu_2 hsz1 hP hD hS => ?_)
  have hP : va_P E.1 vwCl (wAll E o ad wm st gr co hb_ (nI mo) ga ca ha_ (nI ma) sd tk op sp rc rn wa ++ wMo E o2 ad2 th gr co sd tk wm st (nI mo) nx lb fr ++ [(oq, .inl (E.2.2.2, 1, .inr (.inl lo)))]) H := hP.sub [11, 12, 13, 14, 15, 16, 17, 18, 19, 20, 21, 22, 23, 24, 25, 26, 27, 28, 29, 30, 0, 1, 2, 3, 4, 5, 6, 7, 8, 9, 10] rfl
  have hD : va_D (lA s) (wAll E o ad wm st gr co hb_ (nI mo) ga ca ha_ (nI ma) sd tk op sp rc rn wa ++ wMo E o2 ad2 th gr co sd tk wm st (nI mo) nx lb fr ++ [(oq, .inl (E.2.2.2, 1, .inr (.inl lo)))]) := hD.sub [11, 12, 13, 14, 15, 16, 17, 18, 19, 20, 21, 22, 23, 24, 25, 26, 27, 28, 29, 30, 0, 1, 2, 3, 4, 5, 6, 7, 8, 9, 10] (by decide) rfl
  refine W.eq (g2 := F0 m 1065 ls [.int (oI ((advS (chSafe sd tk (nI mo)) (dep gr co) 81).1))]) rfl ?_
  refine lv_aload_n hx hb dL_law_1065 rfl (lv_at hl 2 rfl) ?_
  refine e_callV (As := []) (rest := [.int (oI ((advS (chSafe sd tk (nI mo)) (dep gr co) 81).1))]) ⟨hx, hb, hml, hown, hts⟩ hK hP hD hS hA hl.1 (c_X5_advise l E _ o2 ad2 th gr co sd tk wm st mo nx lb fr) (cwV 0 hts gL_law_X5_advise rfl rfl rfl (by decide +kernel) ⟨Nat.le_of_ble_eq_true rfl, Nat.le_of_ble_eq_true rfl⟩) [20, 21, 22, 23, 24, 25, 26, 27, 28, 29] [0, 1, 2, 3, 4, 5, 6, 7, 8, 9, 10, 11, 12, 13, 14, 15, 16, 17, 18, 19, 30] rfl rfl rfl rfl (by decide) (q0 := 20) (ci := 5) rfl rfl rfl rfl (Nat.le_of_ble_eq_true rfl) dL_law_1066 ⟨by show 40 + 3 * z + 0 + 0 ≤ 601024; omega, by show 2500 + 168 * z + 0 + 0 ≤ 7293034; omega⟩ (fun u_3 H locs hu_4 hsz1 hP hD hS => ?_)
  have hP : va_P E.1 vwCl (wAll E o ad wm st gr co hb_ (nI mo) ga ca ha_ (nI ma) sd tk op sp rc rn wa ++ wMo E o2 ad2 (nI 0) gr co sd tk wm st (nI mo) nx lb fr ++ [(oq, .inl (E.2.2.2, 1, .inr (.inl lo)))]) H := hP.sub [0, 1, 2, 3, 4, 5, 6, 7, 8, 9, 10, 11, 12, 13, 14, 15, 16, 17, 18, 19, 21, 22, 23, 24, 25, 26, 27, 28, 29, 30, 20] rfl
  have hD : va_D (lA s) (wAll E o ad wm st gr co hb_ (nI mo) ga ca ha_ (nI ma) sd tk op sp rc rn wa ++ wMo E o2 ad2 (nI 0) gr co sd tk wm st (nI mo) nx lb fr ++ [(oq, .inl (E.2.2.2, 1, .inr (.inl lo)))]) := hD.sub [0, 1, 2, 3, 4, 5, 6, 7, 8, 9, 10, 11, 12, 13, 14, 15, 16, 17, 18, 19, 21, 22, 23, 24, 25, 26, 27, 28, 29, 30, 20] (by decide) rfl
  refine W.eq (g2 := F0 m 1069 ls [.int (oI ((advS (chSafe sd tk (nI mo)) (dep gr co) 81).1)), .int (oI ((advS (chSafe sd tk (nI mo)) (dep gr co) 81).1))]) rfl ?_
  refine lv_icmp_eq (tgt := 1129) hx hb dL_law_1069 (by decide) (fun c1069 => ?_) (fun c1069 => absurd rfl c1069)
  refine lv_iinc (v := nI (w + 4)) (lv' := [(4, .int (nI (w + 4))), (3, .ref oq), (2, .ref o2), (1, .ref o), (0, .ref b)]) hx hb dL_law_1129 hl (k := 0) rfl (nI_add w 4) (by decide) rfl (fun ls hl => ?_)
  refine lv_goto (tgt := 23) hx hb dL_law_1132 (by decide) ?_
  exact W.widen (by show 40 + 3 * z + 0 + 0 ≤ 40 + 3 * (z + 1); omega) (by show 2500 + 168 * z + 0 + 0 ≤ 2500 + 168 * (z + 1); omega) (kk (w + 4) wm st gr co hb_ mo ga ca ha_ ma sd tk op sp rc rn wa (nI 0) nx lb fr lo H locs ls (by omega) (by omega) hT hR hP hD hS (lv_sub hl [0, 1, 2, 3, 4] rfl))

set_option maxHeartbeats 16000000 in
set_option maxRecDepth 100000 in
theorem k_case15 {p : Program} {e : Env} {s : State} {m : MethodId} {below : List Frame} {meth : Method} {cd : Code} (l : Launch) (hlt : l.stackTraces = false) {b L : Nat} {xs : Nat → Int32} {E : eT} (C : lC p s m cd b L xs E) {Q : State → Prop} {o : Nat} {ad : Nat → Nat} {o2 : Nat} {ad2 : Nat → Nat} {oq : Nat} (z w : Nat) (kk : lHead p l e s m below meth cd b E Q o ad o2 ad2 oq (z + 1)) (hi : w + 4 ≤ L) (wm : Nat → Int32) (st : Nat → Int32) (gr : Nat → Int32) (co : Nat → Int32) (hb_ : Nat → Bool) (mo : Nat) (ga : Nat → Int32) (ca : Nat → Int32) (ha_ : Nat → Bool) (ma : Nat) (sd : Nat → Int32) (tk : Nat → Int32) (op : Nat → Bool) (sp : Nat → Nat) (rc : Nat → Nat) (rn : Nat) (wa : Nat → Int32) (th : Int32) (nx : Nat → Int32) (lb : Nat → Option Nat) (fr : Nat → Nat) (lo : Nat → Int64) (H : Heap) (locs : List Loc) (ls : Array Slot) (hw : w = 4 * z) (hmo : mo ≤ 120 * z) (hT : Tb wm st) (hR : Rg gr co) (hP : va_P E.1 vwCl (wAll E o ad wm st gr co hb_ (nI mo) ga ca ha_ (nI ma) sd tk op sp rc rn wa ++ wMo E o2 ad2 th gr co sd tk wm st (nI mo) nx lb fr ++ [(oq, .inl (E.2.2.2, 1, .inr (.inl lo)))]) H) (hD : va_D (lA s) (wAll E o ad wm st gr co hb_ (nI mo) ga ca ha_ (nI ma) sd tk op sp rc rn wa ++ wMo E o2 ad2 th gr co sd tk wm st (nI mo) nx lb fr ++ [(oq, .inl (E.2.2.2, 1, .inr (.inl lo)))])) (hS : va_S (lA s) s.heap H locs) (hl : lv_has ls 9 [(4, .int (nI w)), (3, .ref oq), (2, .ref o2), (1, .ref o), (0, .ref b)]) : W p l e room_1 s m #[Value.ref b] below meth cd H locs (40 + 3 * z) (2500 + 168 * z) Q (F0 m 1074 ls []) := by
  obtain ⟨hx, hb, hml, hown, hts, hK, hX, hXs, hbl, hL⟩ := C
  have hA : ∀ q : Nat, s.heap.size ≤ q → lA s q := fun _ h => h
  have hbA : ¬ lA s b := Nat.not_le.mpr hbl
  have hz : z ≤ 512 := by omega
  refine lv_aload_n hx hb dL_law_1074 rfl (lv_at hl 3 rfl) ?_
  refine e_callV (As := []) (rest := []) ⟨hx, hb, hml, hown, hts⟩ hK hP hD hS hA hl.1 (c_X4_mean l E _ o ad wm st gr co hb_ mo ga ca ha_ ma sd tk op sp rc rn wa (mean_ne hR)) (cwV 0 hts gL_law_X4_mean rfl rfl rfl (by decide +kernel) ⟨Nat.le_of_ble_eq_true rfl, Nat.le_of_ble_eq_true rfl⟩) [0, 1, 2, 3, 4, 5, 6, 7, 8, 9, 10, 11, 12, 13, 14, 15, 16, 17, 18, 19] [20, 21, 22, 23, 24, 25, 26, 27, 28, 29, 30] rfl rfl rfl rfl (by decide) (q0 := 0) (ci := 4) rfl rfl rfl rfl (Nat.le_of_ble_eq_true rfl) dL_law_1075 ⟨by show 40 + 3 * z + 0 ≤ 601024; omega, by show 2500 + 168 * z + 0 ≤ 7293034; omega⟩ (fun u_1 H locs hu_2 hsz1 hP hD hS => ?_)
  have hP : va_P E.1 vwCl (wAll E o ad wm st gr co hb_ (nI mo) ga ca ha_ (nI ma) sd tk op sp rc rn wa ++ wMo E o2 ad2 th gr co sd tk wm st (nI mo) nx lb fr ++ [(oq, .inl (E.2.2.2, 1, .inr (.inl lo)))]) H := hP.sub [11, 12, 13, 14, 15, 16, 17, 18, 19, 20, 21, 22, 23, 24, 25, 26, 27, 28, 29, 30, 0, 1, 2, 3, 4, 5, 6, 7, 8, 9, 10] rfl
  have hD : va_D (lA s) (wAll E o ad wm st gr co hb_ (nI mo) ga ca ha_ (nI ma) sd tk op sp rc rn wa ++ wMo E o2 ad2 th gr co sd tk wm st (nI mo) nx lb fr ++ [(oq, .inl (E.2.2.2, 1, .inr (.inl lo)))]) := hD.sub [11, 12, 13, 14, 15, 16, 17, 18, 19, 20, 21, 22, 23, 24, 25, 26, 27, 28, 29, 30, 0, 1, 2, 3, 4, 5, 6, 7, 8, 9, 10] (by decide) rfl
  refine W.eq (g2 := F0 m 1078 ls [.double (FP.ddiv (FP.i2d (sumI (dep gr co) 81)) 4635400285215260672)]) rfl ?_
  refine lv_dstore (lv' := [(5, .double (FP.ddiv (FP.i2d (sumI (dep gr co) 81)) 4635400285215260672)), (4, .int (nI w)), (3, .ref oq), (2, .ref o2), (1, .ref o), (0, .ref b)]) hx hb dL_law_1078 hl (by decide) rfl (fun ls hl => ?_)
  refine lv_aload_n hx hb dL_law_1080 rfl (lv_at hl 3 rfl) ?_
  refine e_callV (As := []) (rest := []) ⟨hx, hb, hml, hown, hts⟩ hK hP hD hS hA hl.1 (c_X5_mean l E _ o2 ad2 th gr co sd tk wm st mo nx lb fr (mean_ne hR)) (cwV 0 hts gL_law_X5_mean rfl rfl rfl (by decide +kernel) ⟨Nat.le_of_ble_eq_true rfl, Nat.le_of_ble_eq_true rfl⟩) [20, 21, 22, 23, 24, 25, 26, 27, 28, 29] [0, 1, 2, 3, 4, 5, 6, 7, 8, 9, 10, 11, 12, 13, 14, 15, 16, 17, 18, 19, 30] rfl rfl rfl rfl (by decide) (q0 := 20) (ci := 5) rfl rfl rfl rfl (Nat.le_of_ble_eq_true rfl) dL_law_1081 ⟨by show 40 + 3 * z + 0 + 0 ≤ 601024; omega, by show 2500 + 168 * z + 0 + 0 ≤ 7293034; omega⟩ (fun u_3 H locs hu_4 hsz1 hP hD hS => ?_)
  have hP : va_P E.1 vwCl (wAll E o ad wm st gr co hb_ (nI mo) ga ca ha_ (nI ma) sd tk op sp rc rn wa ++ wMo E o2 ad2 (nI 0) gr co sd tk wm st (nI mo) nx lb fr ++ [(oq, .inl (E.2.2.2, 1, .inr (.inl lo)))]) H := hP.sub [0, 1, 2, 3, 4, 5, 6, 7, 8, 9, 10, 11, 12, 13, 14, 15, 16, 17, 18, 19, 21, 22, 23, 24, 25, 26, 27, 28, 29, 30, 20] rfl
  have hD : va_D (lA s) (wAll E o ad wm st gr co hb_ (nI mo) ga ca ha_ (nI ma) sd tk op sp rc rn wa ++ wMo E o2 ad2 (nI 0) gr co sd tk wm st (nI mo) nx lb fr ++ [(oq, .inl (E.2.2.2, 1, .inr (.inl lo)))]) := hD.sub [0, 1, 2, 3, 4, 5, 6, 7, 8, 9, 10, 11, 12, 13, 14, 15, 16, 17, 18, 19, 21, 22, 23, 24, 25, 26, 27, 28, 29, 30, 20] (by decide) rfl
  refine W.eq (g2 := F0 m 1084 ls [.double (FP.ddiv (FP.i2d (sumI (dep gr co) 81)) 4635400285215260672)]) rfl ?_
  refine lv_dstore (lv' := [(7, .double (FP.ddiv (FP.i2d (sumI (dep gr co) 81)) 4635400285215260672)), (5, .double (FP.ddiv (FP.i2d (sumI (dep gr co) 81)) 4635400285215260672)), (4, .int (nI w)), (3, .ref oq), (2, .ref o2), (1, .ref o), (0, .ref b)]) hx hb dL_law_1084 hl (by decide) rfl (fun ls hl => ?_)
  refine lv_dload hx hb dL_law_1086 (lv_at hl 1 rfl) ?_
  refine lv_dload hx hb dL_law_1088 (lv_at hl 0 rfl) ?_
  refine lv_dcmp hx hb dL_law_1090 ?_
  refine lv_if_eq (tgt := 1112) hx hb dL_law_1091 (by decide) (fun c1091 => ?_) (fun c1091 => ?_)
  · refine lv_goto (tgt := 1129) hx hb dL_law_1112 (by decide) ?_
    refine lv_iinc (v := nI (w + 4)) (lv' := [(4, .int (nI (w + 4))), (7, .double (FP.ddiv (FP.i2d (sumI (dep gr co) 81)) 4635400285215260672)), (5, .double (FP.ddiv (FP.i2d (sumI (dep gr co) 81)) 4635400285215260672)), (3, .ref oq), (2, .ref o2), (1, .ref o), (0, .ref b)]) hx hb dL_law_1129 hl (k := 2) rfl (nI_add w 4) (by decide) rfl (fun ls hl => ?_)
    refine lv_goto (tgt := 23) hx hb dL_law_1132 (by decide) ?_
    exact W.widen (by show 40 + 3 * z + 0 + 0 ≤ 40 + 3 * (z + 1); omega) (by show 2500 + 168 * z + 0 + 0 ≤ 2500 + 168 * (z + 1); omega) (kk (w + 4) wm st gr co hb_ mo ga ca ha_ ma sd tk op sp rc rn wa (nI 0) nx lb fr lo H locs ls (by omega) (by omega) hT hR hP hD hS (lv_sub hl [0, 3, 4, 5, 6] rfl))
  · refine lv_dload hx hb dL_law_1094 (lv_at hl 1 rfl) ?_
    refine lv_dload hx hb dL_law_1096 (lv_at hl 1 rfl) ?_
    refine lv_dcmp hx hb dL_law_1098 ?_
    refine lv_if_eq (tgt := 1110) hx hb dL_law_1099 (by decide) (fun c1099 => absurd c1099 c1091) (fun c1099 => ?_)
    refine lv_dload hx hb dL_law_1102 (lv_at hl 0 rfl) ?_
    refine lv_dload hx hb dL_law_1104 (lv_at hl 0 rfl) ?_
    refine lv_dcmp hx hb dL_law_1106 ?_
    refine lv_if_ne (tgt := 1112) hx hb dL_law_1107 (by decide) (fun c1107 => ?_) (fun c1107 => (by first | exact absurd c1107 c1091 | exact absurd c1091 c1107))
    refine lv_goto (tgt := 1129) hx hb dL_law_1112 (by decide) ?_
    refine lv_iinc (v := nI (w + 4)) (lv' := [(4, .int (nI (w + 4))), (7, .double (FP.ddiv (FP.i2d (sumI (dep gr co) 81)) 4635400285215260672)), (5, .double (FP.ddiv (FP.i2d (sumI (dep gr co) 81)) 4635400285215260672)), (3, .ref oq), (2, .ref o2), (1, .ref o), (0, .ref b)]) hx hb dL_law_1129 hl (k := 2) rfl (nI_add w 4) (by decide) rfl (fun ls hl => ?_)
    refine lv_goto (tgt := 23) hx hb dL_law_1132 (by decide) ?_
    exact W.widen (by show 40 + 3 * z + 0 + 0 ≤ 40 + 3 * (z + 1); omega) (by show 2500 + 168 * z + 0 + 0 ≤ 2500 + 168 * (z + 1); omega) (kk (w + 4) wm st gr co hb_ mo ga ca ha_ ma sd tk op sp rc rn wa (nI 0) nx lb fr lo H locs ls (by omega) (by omega) hT hR hP hD hS (lv_sub hl [0, 3, 4, 5, 6] rfl))

set_option maxHeartbeats 16000000 in
set_option maxRecDepth 100000 in
theorem k_case16 {p : Program} {e : Env} {s : State} {m : MethodId} {below : List Frame} {meth : Method} {cd : Code} (l : Launch) (hlt : l.stackTraces = false) {b L : Nat} {xs : Nat → Int32} {E : eT} (C : lC p s m cd b L xs E) {Q : State → Prop} {o : Nat} {ad : Nat → Nat} {o2 : Nat} {ad2 : Nat → Nat} {oq : Nat} (z w : Nat) (kk : lHead p l e s m below meth cd b E Q o ad o2 ad2 oq (z + 1)) (hi : w + 4 ≤ L) (wm : Nat → Int32) (st : Nat → Int32) (gr : Nat → Int32) (co : Nat → Int32) (hb_ : Nat → Bool) (mo : Nat) (ga : Nat → Int32) (ca : Nat → Int32) (ha_ : Nat → Bool) (ma : Nat) (sd : Nat → Int32) (tk : Nat → Int32) (op : Nat → Bool) (sp : Nat → Nat) (rc : Nat → Nat) (rn : Nat) (wa : Nat → Int32) (th : Int32) (nx : Nat → Int32) (lb : Nat → Option Nat) (fr : Nat → Nat) (lo : Nat → Int64) (H : Heap) (locs : List Loc) (ls : Array Slot) (hw : w = 4 * z) (hmo : mo ≤ 120 * z) (hT : Tb wm st) (hR : Rg gr co) (hP : va_P E.1 vwCl (wAll E o ad wm st gr co hb_ (nI mo) ga ca ha_ (nI ma) sd tk op sp rc rn wa ++ wMo E o2 ad2 th gr co sd tk wm st (nI mo) nx lb fr ++ [(oq, .inl (E.2.2.2, 1, .inr (.inl lo)))]) H) (hD : va_D (lA s) (wAll E o ad wm st gr co hb_ (nI mo) ga ca ha_ (nI ma) sd tk op sp rc rn wa ++ wMo E o2 ad2 th gr co sd tk wm st (nI mo) nx lb fr ++ [(oq, .inl (E.2.2.2, 1, .inr (.inl lo)))])) (hS : va_S (lA s) s.heap H locs) (hl : lv_has ls 9 [(4, .int (nI w)), (3, .ref oq), (2, .ref o2), (1, .ref o), (0, .ref b)]) : W p l e room_1 s m #[Value.ref b] below meth cd H locs (40 + 3 * z) (2500 + 168 * z) Q (F0 m 1115 ls []) := by
  obtain ⟨hx, hb, hml, hown, hts, hK, hX, hXs, hbl, hL⟩ := C
  have hA : ∀ q : Nat, s.heap.size ≤ q → lA s q := fun _ h => h
  have hbA : ¬ lA s b := Nat.not_le.mpr hbl
  have hz : z ≤ 512 := by omega
  refine lv_aload_n hx hb dL_law_1115 rfl (lv_at hl 3 rfl) ?_
  refine e_callV (As := []) (rest := []) ⟨hx, hb, hml, hown, hts⟩ hK hP hD hS hA hl.1 (c_X4_digest l E _ o ad wm st gr co hb_ mo ga ca ha_ ma sd tk op sp rc rn wa) (cwV 0 hts gL_law_X4_digest rfl rfl rfl (by decide +kernel) ⟨Nat.le_of_ble_eq_true rfl, Nat.le_of_ble_eq_true rfl⟩) [0, 1, 2, 3, 4, 5, 6, 7, 8, 9, 10, 11, 12, 13, 14, 15, 16, 17, 18, 19] [20, 21, 22, 23, 24, 25, 26, 27, 28, 29, 30] rfl rfl rfl rfl (by decide) (q0 := 0) (ci := 4) rfl rfl rfl rfl (Nat.le_of_ble_eq_true rfl) dL_law_1116 ⟨by show 40 + 3 * z + 0 ≤ 601024; omega, by show 2500 + 168 * z + 0 ≤ 7293034; omega⟩ (fun u_1 H locs hu_2 hsz1 hP hD hS => ?_)
  obtain ⟨op__3, sp__4, rc__5, rn__6⟩ := u_1
  have hP : va_P E.1 vwCl (wAll E o ad wm st gr co hb_ (nI mo) ga ca ha_ (nI ma) sd tk op__3 sp__4 rc__5 rn__6 wa ++ wMo E o2 ad2 th gr co sd tk wm st (nI mo) nx lb fr ++ [(oq, .inl (E.2.2.2, 1, .inr (.inl lo)))]) H := hP.sub [11, 12, 13, 14, 15, 16, 17, 18, 19, 20, 21, 22, 23, 24, 25, 26, 27, 28, 29, 30, 0, 1, 2, 3, 4, 5, 6, 7, 8, 9, 10] rfl
  have hD : va_D (lA s) (wAll E o ad wm st gr co hb_ (nI mo) ga ca ha_ (nI ma) sd tk op__3 sp__4 rc__5 rn__6 wa ++ wMo E o2 ad2 th gr co sd tk wm st (nI mo) nx lb fr ++ [(oq, .inl (E.2.2.2, 1, .inr (.inl lo)))]) := hD.sub [11, 12, 13, 14, 15, 16, 17, 18, 19, 20, 21, 22, 23, 24, 25, 26, 27, 28, 29, 30, 0, 1, 2, 3, 4, 5, 6, 7, 8, 9, 10] (by decide) rfl
  refine W.eq (g2 := F0 m 1119 ls [.long (digA wm st gr co sd tk mo)]) rfl ?_
  refine lv_aload_n hx hb dL_law_1119 rfl (lv_at hl 2 rfl) ?_
  refine e_callV (As := []) (rest := [.long (digA wm st gr co sd tk mo)]) ⟨hx, hb, hml, hown, hts⟩ hK hP hD hS hA hl.1 (c_X5_digest l E _ o2 ad2 th gr co sd tk wm st mo nx lb fr) (cwV 0 hts gL_law_X5_digest rfl rfl rfl (by decide +kernel) ⟨Nat.le_of_ble_eq_true rfl, Nat.le_of_ble_eq_true rfl⟩) [20, 21, 22, 23, 24, 25, 26, 27, 28, 29] [0, 1, 2, 3, 4, 5, 6, 7, 8, 9, 10, 11, 12, 13, 14, 15, 16, 17, 18, 19, 30] rfl rfl rfl rfl (by decide) (q0 := 20) (ci := 5) rfl rfl rfl rfl (Nat.le_of_ble_eq_true rfl) dL_law_1120 ⟨by show 40 + 3 * z + 0 + 0 ≤ 601024; omega, by show 2500 + 168 * z + 0 + 0 ≤ 7293034; omega⟩ (fun u_7 H locs hu_8 hsz1 hP hD hS => ?_)
  obtain ⟨lb__9, rfl⟩ : ∃ z, z = u_7 := ⟨_, rfl⟩
  have hP : va_P E.1 vwCl (wAll E o ad wm st gr co hb_ (nI mo) ga ca ha_ (nI ma) sd tk op__3 sp__4 rc__5 rn__6 wa ++ wMo E o2 ad2 (nI 0) gr co sd tk wm st (nI mo) nx lb__9 fr ++ [(oq, .inl (E.2.2.2, 1, .inr (.inl lo)))]) H := hP.sub [0, 1, 2, 3, 4, 5, 6, 7, 8, 9, 10, 11, 12, 13, 14, 15, 16, 17, 18, 19, 21, 22, 23, 24, 25, 26, 27, 28, 29, 30, 20] rfl
  have hD : va_D (lA s) (wAll E o ad wm st gr co hb_ (nI mo) ga ca ha_ (nI ma) sd tk op__3 sp__4 rc__5 rn__6 wa ++ wMo E o2 ad2 (nI 0) gr co sd tk wm st (nI mo) nx lb__9 fr ++ [(oq, .inl (E.2.2.2, 1, .inr (.inl lo)))]) := hD.sub [0, 1, 2, 3, 4, 5, 6, 7, 8, 9, 10, 11, 12, 13, 14, 15, 16, 17, 18, 19, 21, 22, 23, 24, 25, 26, 27, 28, 29, 30, 20] (by decide) rfl
  refine W.eq (g2 := F0 m 1123 ls [.long (digA wm st gr co sd tk mo), .long (digA wm st gr co sd tk mo)]) rfl ?_
  refine W.lcmp hx hb dL_law_1123 ?_
  refine e_top (y := nI 0) (show lg_cmp (digA wm st gr co sd tk mo) (digA wm st gr co sd tk mo) = nI 0 from (lg_cmp_eq _ _).mpr rfl) ?_
  refine n_if_eq (x := 0) (by omega) (tgt := 1129) hx hb dL_law_1124 (by decide) (fun c1124 => ?_) (fun c1124 => (by omega))
  refine lv_iinc (v := nI (w + 4)) (lv' := [(4, .int (nI (w + 4))), (3, .ref oq), (2, .ref o2), (1, .ref o), (0, .ref b)]) hx hb dL_law_1129 hl (k := 0) rfl (nI_add w 4) (by decide) rfl (fun ls hl => ?_)
  refine lv_goto (tgt := 23) hx hb dL_law_1132 (by decide) ?_
  exact W.widen (by show 40 + 3 * z + 0 + 0 ≤ 40 + 3 * (z + 1); omega) (by show 2500 + 168 * z + 0 + 0 ≤ 2500 + 168 * (z + 1); omega) (kk (w + 4) wm st gr co hb_ mo ga ca ha_ ma sd tk op__3 sp__4 rc__5 rn__6 wa (nI 0) nx lb__9 fr lo H locs ls (by omega) (by omega) hT hR hP hD hS (lv_sub hl [0, 1, 2, 3, 4] rfl))
