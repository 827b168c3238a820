abbrev rm_J9_floorMod_7cf53 : Room := { frames := 0, cells := 0, slots := 0, locals := 0 }
set_option maxHeartbeats 4000000 in
set_option maxRecDepth 100000 in
/-- Math.floorMod(x, 12), x not less than 0 -/
theorem c_J9_floorMod_7cf53 (l : Launch) (E : eT) (sz : Nat) (x : Nat) (hx_ : x < 2 ^ 31) : cM l yJ9_floorMod_7cf53 wsJ9_floorMod_7cf53 rm_J9_floorMod_7cf53 E sz [.int (nI x), .int (nI 12)] ([]) (fun u : Unit => some (.int (nI (x % 12)))) (fun u : Unit => True) (fun u : Unit => []) := by
  refine cM_intro (cc := cJ9_floorMod_7cf53) (maxL := 3) (ret := (some .int)) (by decide +kernel) rfl (Nat.le_of_ble_eq_true rfl) ?_
  intro p e s m args below meth cd hx hb hr hml hown hlocks hts hnm hK hsz hP A hD hA Q hQ ls hl
  have hown : s.vm.findClass RJ9 = some m.cls := hown
  have hS : va_S A s.heap s.heap [] := va_S.rf
  have hl : lv_has ls 3 [(0, .int (nI x)), (1, .int (nI 12))] := hl
  refine lv_iload_n hx hb dJ9_floorMod_7cf53_0 rfl (lv_at hl 0 rfl) ?_
  refine lv_iload_n hx hb dJ9_floorMod_7cf53_1 rfl (lv_at hl 1 rfl) ?_
  refine lv_irem hx hb dJ9_floorMod_7cf53_2 (by decide +kernel) ?_
  refine e_top (pk_rem (by omega) (by omega) (by omega)) ?_
  refine lv_istore_n (lv' := [(2, .int (nI (x % 12))), (0, .int (nI x)), (1, .int (nI 12))]) hx hb dJ9_floorMod_7cf53_3 rfl hl (by decide) rfl (fun ls hl => ?_)
  refine lv_iload_n hx hb dJ9_floorMod_7cf53_4 rfl (lv_at hl 1 rfl) ?_
  refine lv_iload_n hx hb dJ9_floorMod_7cf53_5 rfl (lv_at hl 2 rfl) ?_
  refine lv_ixor hx hb dJ9_floorMod_7cf53_6 ?_
  refine lv_if_ge (tgt := 18) hx hb dJ9_floorMod_7cf53_7 (by decide) (fun c7 => ?_) (fun c7 => absurd (nI_x12 hx_) c7)
  refine lv_iload_n hx hb dJ9_floorMod_7cf53_18 rfl (lv_at hl 0 rfl) ?_
  exact e_iret () hQ hx hb hr hlocks hP hD hS dJ9_floorMod_7cf53_19 (rfl) (Nat.le_of_ble_eq_true rfl) (Nat.le_of_ble_eq_true rfl) (trivial)

abbrev rm_J7_fill_81 : Room := { frames := 0, cells := 0, slots := 0, locals := 0 }
set_option maxHeartbeats 4000000 in
set_option maxRecDepth 100000 in
/-- Arrays.fill of 81 places -/
theorem c_J7_fill_81 (l : Launch) (E : eT) (sz : Nat) (q : Nat) (f : Nat → Int32) (v : Int32) : cM l yJ7_fill_53178 wsJ7_fill_53178 rm_J7_fill_81 E sz [.ref q, .int v] ([(q, .inl (E.2.1, 81, .inl f))]) (fun u : Unit => none) (fun u : Unit => True) (fun u : Unit => [(q, .inl (E.2.1, 81, .inl (fun _ => v)))]) := by
  refine cM_intro (cc := cJ7_fill_53178) (maxL := 4) (ret := none) (by decide +kernel) rfl (Nat.le_of_ble_eq_true rfl) ?_
  intro p e s m args below meth cd hx hb hr hml hown hlocks hts hnm hK hsz hP A hD hA Q hQ ls hl
  have hown : s.vm.findClass RJ7 = some m.cls := hown
  have hS : va_S A s.heap s.heap [] := va_S.rf
  have hl : lv_has ls 4 [(0, .ref q), (1, .int v)] := hl
  refine lv_iconst (v := nI 0) hx hb dJ7_fill_53178_0 (by decide +kernel) ?_
  refine lv_istore_n (lv' := [(2, .int (nI 0)), (0, .ref q), (1, .int v)]) hx hb dJ7_fill_53178_1 rfl hl (by decide) rfl (fun ls hl => ?_)
  refine lv_aload_n hx hb dJ7_fill_53178_2 rfl (lv_at hl 1 rfl) ?_
  refine va_alen (v := nI 81) hx hb hK.1 hP 0 0 rfl rfl rfl dJ7_fill_53178_3 ?_
  refine lv_istore_n (lv' := [(3, .int (nI 81)), (2, .int (nI 0)), (0, .ref q), (1, .int v)]) hx hb dJ7_fill_53178_4 rfl hl (by decide) rfl (fun ls hl => ?_)
  have L5 : ∀ (fuel : Nat) (z : Nat) (g : Nat → Int32) (hz : z ≤ 81) (hg : ∀ k, k < z → g k = v) (hfuel : 81 - z < fuel) (H : Heap) (locs : List Loc), va_P E.1 vwCl ([(q, .inl (E.2.1, 81, .inl g))]) H → va_D A ([(q, .inl (E.2.1, 81, .inl g))]) → va_S A s.heap H locs → ∀ ls : Array Slot, lv_has ls 4 [(3, .int (nI 81)), (2, .int (nI z)), (0, .ref q), (1, .int v)] → W p l e rm_J7_fill_81 s m args below meth cd H locs 0 0 Q (F0 m 5 ls []) := by
    intro fuel
    induction fuel with
    | zero => intros; omega
    | succ fuel ihL5 =>
      intro z g hz hg hfuel H locs hP hD hS ls hl
      refine lv_iload_n hx hb dJ7_fill_53178_5 rfl (lv_at hl 1 rfl) ?_
      refine lv_iload_n hx hb dJ7_fill_53178_6 rfl (lv_at hl 0 rfl) ?_
      refine n_icmp_ge (x := z) (y := 81) (by omega) (by omega) (tgt := 20) hx hb dJ7_fill_53178_7 (by decide) (fun c7 => ?_) (fun c7 => ?_)
      · have hP := e_cong hP 0 (g := (fun _ => v)) rfl (fun k h => hg k (by omega))
        have hD := va_D.set (e := .inl (E.2.1, 81, .inl ((fun _ => v)))) hD (p := 0) rfl
        have hP : va_P E.1 vwCl ([(q, .inl (E.2.1, 81, .inl (fun _ => v)))]) H := hP
        have hD : va_D A ([(q, .inl (E.2.1, 81, .inl (fun _ => v)))]) := hD
        exact e_vret () hQ hx hb hr hlocks hP hD hS dJ7_fill_53178_20 (rfl) (Nat.le_of_ble_eq_true rfl) (Nat.le_of_ble_eq_true rfl) (trivial)
      · refine lv_aload_n hx hb dJ7_fill_53178_10 rfl (lv_at hl 2 rfl) ?_
        refine lv_iload_n hx hb dJ7_fill_53178_11 rfl (lv_at hl 1 rfl) ?_
        refine lv_iload_n hx hb dJ7_fill_53178_12 rfl (lv_at hl 3 rfl) ?_
        refine e_iast hK hP hD hS 0 rfl z (by omega) (by decide) hx hb dJ7_fill_53178_13 (fun H locs hP hD hS => ?_)
        have hP : va_P E.1 vwCl ([(q, .inl (E.2.1, 81, .inl (upd g z v)))]) H := hP
        have hD : va_D A ([(q, .inl (E.2.1, 81, .inl (upd g z v)))]) := hD
        refine lv_iinc (v := nI (z + 1)) (lv' := [(2, .int (nI (z + 1))), (3, .int (nI 81)), (0, .ref q), (1, .int v)]) hx hb dJ7_fill_53178_14 hl (k := 1) rfl (nI_add z 1) (by decide) rfl (fun ls hl => ?_)
        refine lv_goto (tgt := 5) hx hb dJ7_fill_53178_17 (by decide) ?_
        exact ihL5 (z + 1) (upd g z v) (by first | omega | assumption | rfl | (simp_all; done)) (fun k h => by unfold upd; by_cases e : k = z; rw [if_pos e]; rw [if_neg e]; exact hg k (by omega)) (by omega) _ _ hP hD hS _ (lv_sub hl [1, 0, 2, 3] rfl)
  exact L5 (81 - 0 + 1) 0 f (by first | omega | assumption | rfl | (simp_all; done)) (fun k h => absurd h (Nat.not_lt_zero k)) (Nat.lt_succ_self _) _ _ hP hD hS _ (lv_sub hl [0, 1, 2, 3] rfl)

abbrev rm_J7_fill_12 : Room := { frames := 0, cells := 0, slots := 0, locals := 0 }
set_option maxHeartbeats 4000000 in
set_option maxRecDepth 100000 in
/-- Arrays.fill of 12 places -/
theorem c_J7_fill_12 (l : Launch) (E : eT) (sz : Nat) (q : Nat) (f : Nat → Int32) (v : Int32) : cM l yJ7_fill_53178 wsJ7_fill_53178 rm_J7_fill_12 E sz [.ref q, .int v] ([(q, .inl (E.2.1, 12, .inl f))]) (fun u : Unit => none) (fun u : Unit => True) (fun u : Unit => [(q, .inl (E.2.1, 12, .inl (fun _ => v)))]) := by
  refine cM_intro (cc := cJ7_fill_53178) (maxL := 4) (ret := none) (by decide +kernel) rfl (Nat.le_of_ble_eq_true rfl) ?_
  intro p e s m args below meth cd hx hb hr hml hown hlocks hts hnm hK hsz hP A hD hA Q hQ ls hl
  have hown : s.vm.findClass RJ7 = some m.cls := hown
  have hS : va_S A s.heap s.heap [] := va_S.rf
  have hl : lv_has ls 4 [(0, .ref q), (1, .int v)] := hl
  refine lv_iconst (v := nI 0) hx hb dJ7_fill_53178_0 (by decide +kernel) ?_
  refine lv_istore_n (lv' := [(2, .int (nI 0)), (0, .ref q), (1, .int v)]) hx hb dJ7_fill_53178_1 rfl hl (by decide) rfl (fun ls hl => ?_)
  refine lv_aload_n hx hb dJ7_fill_53178_2 rfl (lv_at hl 1 rfl) ?_
  refine va_alen (v := nI 12) hx hb hK.1 hP 0 0 rfl rfl rfl dJ7_fill_53178_3 ?_
  refine lv_istore_n (lv' := [(3, .int (nI 12)), (2, .int (nI 0)), (0, .ref q), (1, .int v)]) hx hb dJ7_fill_53178_4 rfl hl (by decide) rfl (fun ls hl => ?_)
  have L5 : ∀ (fuel : Nat) (z : Nat) (g : Nat → Int32) (hz : z ≤ 12) (hg : ∀ k, k < z → g k = v) (hfuel : 12 - z < fuel) (H : Heap) (locs : List Loc), va_P E.1 vwCl ([(q, .inl (E.2.1, 12, .inl g))]) H → va_D A ([(q, .inl (E.2.1, 12, .inl g))]) → va_S A s.heap H locs → ∀ ls : Array Slot, lv_has ls 4 [(3, .int (nI 12)), (2, .int (nI z)), (0, .ref q), (1, .int v)] → W p l e rm_J7_fill_12 s m args below meth cd H locs 0 0 Q (F0 m 5 ls []) := by
    intro fuel
    induction fuel with
    | zero => intros; omega
    | succ fuel ihL5 =>
      intro z g hz hg hfuel H locs hP hD hS ls hl
      refine lv_iload_n hx hb dJ7_fill_53178_5 rfl (lv_at hl 1 rfl) ?_
      refine lv_iload_n hx hb dJ7_fill_53178_6 rfl (lv_at hl 0 rfl) ?_
      refine n_icmp_ge (x := z) (y := 12) (by omega) (by omega) (tgt := 20) hx hb dJ7_fill_53178_7 (by decide) (fun c7 => ?_) (fun c7 => ?_)
      · have hP := e_cong hP 0 (g := (fun _ => v)) rfl (fun k h => hg k (by omega))
        have hD := va_D.set (e := .inl (E.2.1, 12, .inl ((fun _ => v)))) hD (p := 0) rfl
        have hP : va_P E.1 vwCl ([(q, .inl (E.2.1, 12, .inl (fun _ => v)))]) H := hP
        have hD : va_D A ([(q, .inl (E.2.1, 12, .inl (fun _ => v)))]) := hD
        exact e_vret () hQ hx hb hr hlocks hP hD hS dJ7_fill_53178_20 (rfl) (Nat.le_of_ble_eq_true rfl) (Nat.le_of_ble_eq_true rfl) (trivial)
      · refine lv_aload_n hx hb dJ7_fill_53178_10 rfl (lv_at hl 2 rfl) ?_
        refine lv_iload_n hx hb dJ7_fill_53178_11 rfl (lv_at hl 1 rfl) ?_
        refine lv_iload_n hx hb dJ7_fill_53178_12 rfl (lv_at hl 3 rfl) ?_
        refine e_iast hK hP hD hS 0 rfl z (by omega) (by decide) hx hb dJ7_fill_53178_13 (fun H locs hP hD hS => ?_)
        have hP : va_P E.1 vwCl ([(q, .inl (E.2.1, 12, .inl (upd g z v)))]) H := hP
        have hD : va_D A ([(q, .inl (E.2.1, 12, .inl (upd g z v)))]) := hD
        refine lv_iinc (v := nI (z + 1)) (lv' := [(2, .int (nI (z + 1))), (3, .int (nI 12)), (0, .ref q), (1, .int v)]) hx hb dJ7_fill_53178_14 hl (k := 1) rfl (nI_add z 1) (by decide) rfl (fun ls hl => ?_)
        refine lv_goto (tgt := 5) hx hb dJ7_fill_53178_17 (by decide) ?_
        exact ihL5 (z + 1) (upd g z v) (by first | omega | assumption | rfl | (simp_all; done)) (fun k h => by unfold upd; by_cases e : k = z; rw [if_pos e]; rw [if_neg e]; exact hg k (by omega)) (by omega) _ _ hP hD hS _ (lv_sub hl [1, 0, 2, 3] rfl)
  exact L5 (12 - 0 + 1) 0 f (by first | omega | assumption | rfl | (simp_all; done)) (fun k h => absurd h (Nat.not_lt_zero k)) (Nat.lt_succ_self _) _ _ hP hD hS _ (lv_sub hl [0, 1, 2, 3] rfl)

abbrev rm_X4_neighbour : Room := { frames := 0, cells := 0, slots := 0, locals := 0 }
set_option maxHeartbeats 4000000 in
set_option maxRecDepth 100000 in
/-- the neighbour, that way -/
theorem c_X4_neighbour (l : Launch) (E : eT) (sz : Nat) (x : Nat) (k : Nat) (hx_ : x < 81) (hk : k < 4) : cM l yX4_neighbour wsX4_neighbour rm_X4_neighbour E sz [.int (nI x), .int (nI k)] ([]) (fun u : Unit => some (.int (oI (nb x k)))) (fun u : Unit => True) (fun u : Unit => []) := by
  refine cM_intro (cc := cX4_neighbour) (maxL := 3) (ret := (some .int)) (by decide +kernel) rfl (Nat.le_of_ble_eq_true rfl) ?_
  intro p e s m args below meth cd hx hb hr hml hown hlocks hts hnm hK hsz hP A hD hA Q hQ ls hl
  have hown : s.vm.findClass RX4 = some m.cls := hown
  have hS : va_S A s.heap s.heap [] := va_S.rf
  have hl : lv_has ls 3 [(0, .int (nI x)), (1, .int (nI k))] := hl
  refine lv_iload_n hx hb dX4_neighbour_0 rfl (lv_at hl 0 rfl) ?_
  refine lv_bipush (v := nI 9) hx hb dX4_neighbour_1 (by decide +kernel) ?_
  refine lv_irem hx hb dX4_neighbour_3 (by decide +kernel) ?_
  refine e_top (pk_rem (by omega) (by omega) (by omega)) ?_
  refine lv_istore_n (lv' := [(2, .int (nI (x % 9))), (0, .int (nI x)), (1, .int (nI k))]) hx hb dX4_neighbour_4 rfl hl (by decide) rfl (fun ls hl => ?_)
  refine lv_iload_n hx hb dX4_neighbour_5 rfl (lv_at hl 2 rfl) ?_
  rcases (show k = 0 ∨ k = 1 ∨ k = 2 ∨ k = 3 by omega) with rfl | rfl | rfl | rfl
  · refine lv_tableIn (off := 26) (tgt := 32) hx hb dX4_neighbour_6 (by decide +kernel) (by decide +kernel) (by decide +kernel) (by decide) ?_
    refine lv_iload_n hx hb dX4_neighbour_32 rfl (lv_at hl 1 rfl) ?_
    refine lv_bipush (v := nI 9) hx hb dX4_neighbour_33 (by decide +kernel) ?_
    refine n_icmp_lt (x := x) (y := 9) (by omega) (by omega) (tgt := 45) hx hb dX4_neighbour_35 (by decide) (fun c35 => ?_) (fun c35 => ?_)
    · refine lv_iconst (v := (-1)) hx hb dX4_neighbour_45 (by decide +kernel) ?_
      exact e_iret () hQ hx hb hr hlocks hP hD hS dX4_neighbour_46 (rvi (by unfold nb; rw [if_pos rfl]; first | (rw [if_pos (by omega)]; exact (pk_sub (by omega)).symm) | (rw [if_neg (by omega)]; rfl))) (Nat.le_of_ble_eq_true rfl) (Nat.le_of_ble_eq_true rfl) (trivial)
    · refine lv_iload_n hx hb dX4_neighbour_38 rfl (lv_at hl 1 rfl) ?_
      refine lv_bipush (v := nI 9) hx hb dX4_neighbour_39 (by decide +kernel) ?_
      refine lv_isub hx hb dX4_neighbour_41 ?_
      refine lv_goto (tgt := 46) hx hb dX4_neighbour_42 (by decide) ?_
      exact e_iret () hQ hx hb hr hlocks hP hD hS dX4_neighbour_46 (rvi (by unfold nb; rw [if_pos rfl]; first | (rw [if_pos (by omega)]; exact (pk_sub (by omega)).symm) | (rw [if_neg (by omega)]; rfl))) (Nat.le_of_ble_eq_true rfl) (Nat.le_of_ble_eq_true rfl) (trivial)
  · refine lv_tableIn (off := 41) (tgt := 47) hx hb dX4_neighbour_6 (by decide +kernel) (by decide +kernel) (by decide +kernel) (by decide) ?_
    refine lv_iload_n hx hb dX4_neighbour_47 rfl (lv_at hl 0 rfl) ?_
    refine n_if_le (x := x % 9) (by omega) (tgt := 57) hx hb dX4_neighbour_48 (by decide) (fun c48 => ?_) (fun c48 => ?_)
    · refine lv_iconst (v := (-1)) hx hb dX4_neighbour_57 (by decide +kernel) ?_
      exact e_iret () hQ hx hb hr hlocks hP hD hS dX4_neighbour_58 (rvi (by unfold nb; rw [if_neg (by decide), if_pos rfl]; first | (rw [if_neg (by omega)]; exact (pk_sub (by omega)).symm) | (rw [if_pos (by omega)]; rfl))) (Nat.le_of_ble_eq_true rfl) (Nat.le_of_ble_eq_true rfl) (trivial)
    · refine lv_iload_n hx hb dX4_neighbour_51 rfl (lv_at hl 1 rfl) ?_
      refine lv_iconst (v := nI 1) hx hb dX4_neighbour_52 (by decide +kernel) ?_
      refine lv_isub hx hb dX4_neighbour_53 ?_
      refine lv_goto (tgt := 58) hx hb dX4_neighbour_54 (by decide) ?_
      exact e_iret () hQ hx hb hr hlocks hP hD hS dX4_neighbour_58 (rvi (by unfold nb; rw [if_neg (by decide), if_pos rfl]; first | (rw [if_neg (by omega)]; exact (pk_sub (by omega)).symm) | (rw [if_pos (by omega)]; rfl))) (Nat.le_of_ble_eq_true rfl) (Nat.le_of_ble_eq_true rfl) (trivial)
  · refine lv_tableIn (off := 53) (tgt := 59) hx hb dX4_neighbour_6 (by decide +kernel) (by decide +kernel) (by decide +kernel) (by decide) ?_
    refine lv_iload_n hx hb dX4_neighbour_59 rfl (lv_at hl 0 rfl) ?_
    refine lv_bipush (v := nI 8) hx hb dX4_neighbour_60 (by decide +kernel) ?_
    refine n_icmp_ge (x := x % 9) (y := 8) (by omega) (by omega) (tgt := 71) hx hb dX4_neighbour_62 (by decide) (fun c62 => ?_) (fun c62 => ?_)
    · refine lv_iconst (v := (-1)) hx hb dX4_neighbour_71 (by decide +kernel) ?_
      exact e_iret () hQ hx hb hr hlocks hP hD hS dX4_neighbour_72 (rvi (by unfold nb; rw [if_neg (by decide), if_neg (by decide), if_pos rfl]; first | (rw [if_neg (by omega)]; rfl) | (rw [if_pos (by omega)]; rfl))) (Nat.le_of_ble_eq_true rfl) (Nat.le_of_ble_eq_true rfl) (trivial)
    · refine lv_iload_n hx hb dX4_neighbour_65 rfl (lv_at hl 1 rfl) ?_
      refine lv_iconst (v := nI 1) hx hb dX4_neighbour_66 (by decide +kernel) ?_
      refine lv_iadd hx hb dX4_neighbour_67 ?_
      refine e_top (nI_add _ _) ?_
      refine lv_goto (tgt := 72) hx hb dX4_neighbour_68 (by decide) ?_
      exact e_iret () hQ hx hb hr hlocks hP hD hS dX4_neighbour_72 (rvi (by unfold nb; rw [if_neg (by decide), if_neg (by decide), if_pos rfl]; first | (rw [if_neg (by omega)]; rfl) | (rw [if_pos (by omega)]; rfl))) (Nat.le_of_ble_eq_true rfl) (Nat.le_of_ble_eq_true rfl) (trivial)
  · refine lv_tableOut (tgt := 73) hx hb dX4_neighbour_6 (Or.inr (by decide +kernel)) (by decide) ?_
    refine lv_iload_n hx hb dX4_neighbour_73 rfl (lv_at hl 1 rfl) ?_
    refine lv_bipush (v := nI 72) hx hb dX4_neighbour_74 (by decide +kernel) ?_
    refine n_icmp_ge (x := x) (y := 72) (by omega) (by omega) (tgt := 86) hx hb dX4_neighbour_76 (by decide) (fun c76 => ?_) (fun c76 => ?_)
    · refine lv_iconst (v := (-1)) hx hb dX4_neighbour_86 (by decide +kernel) ?_
      exact e_iret () hQ hx hb hr hlocks hP hD hS dX4_neighbour_87 (rvi (by unfold nb; rw [if_neg (by decide), if_neg (by decide), if_neg (by decide)]; first | (rw [if_pos (by omega)]; rfl) | (rw [if_neg (by omega)]; rfl))) (Nat.le_of_ble_eq_true rfl) (Nat.le_of_ble_eq_true rfl) (trivial)
    · refine lv_iload_n hx hb dX4_neighbour_79 rfl (lv_at hl 1 rfl) ?_
      refine lv_bipush (v := nI 9) hx hb dX4_neighbour_80 (by decide +kernel) ?_
      refine lv_iadd hx hb dX4_neighbour_82 ?_
      refine e_top (nI_add _ _) ?_
      refine lv_goto (tgt := 87) hx hb dX4_neighbour_83 (by decide) ?_
      exact e_iret () hQ hx hb hr hlocks hP hD hS dX4_neighbour_87 (rvi (by unfold nb; rw [if_neg (by decide), if_neg (by decide), if_neg (by decide)]; first | (rw [if_pos (by omega)]; rfl) | (rw [if_neg (by omega)]; rfl))) (Nat.le_of_ble_eq_true rfl) (Nat.le_of_ble_eq_true rfl) (trivial)

abbrev rm_X0_groundOf : Room := { frames := 0, cells := 0, slots := 0, locals := 0 }
set_option maxHeartbeats 4000000 in
set_option maxRecDepth 100000 in
theorem c_X0_groundOf (l : Launch) (E : eT) (sz : Nat) (o : Nat) (a : Nat) (b : Nat) (d : Nat) (gr : Nat → Int32) (co : Nat → Int32) (hb_ : Nat → Bool) (mo : Int32) (j : Nat) (hj : j < 81) : cM l yX0_groundOf wsX0_groundOf rm_X0_groundOf E sz [.ref o, .int (nI j)] (wCo E o a b d gr co hb_ mo) (fun u : Unit => some (.int (gr j))) (fun u : Unit => True) (fun u : Unit => wCo E o a b d gr co hb_ mo) := by
  refine cM_intro (cc := cX0_groundOf) (maxL := 2) (ret := (some .int)) (by decide +kernel) rfl (Nat.le_of_ble_eq_true rfl) ?_
  intro p e s m args below meth cd hx hb hr hml hown hlocks hts hnm hK hsz hP A hD hA Q hQ ls hl
  have hown : s.vm.findClass RX0 = some m.cls := hown
  have hin0 : ∀ w ∈ u_ws RX0 TX0 4, w ∈ wsX0_groundOf := by decide +kernel
  have lk9 := hts (.fieldLink RX0 9 "ReefPilot$Coast" "ground" "[I") (by decide +kernel)
  have hS : va_S A s.heap s.heap [] := va_S.rf
  have hl : lv_has ls 2 [(0, .ref o), (1, .int (nI j))] := hl
  refine lv_aload_n hx hb dX0_groundOf_0 rfl (lv_at hl 0 rfl) ?_
  refine va_get (D := E.1) (ci := 0) (v := .ref a) (C := RX0) (T := TX0) (N := 4) hx hb hts hin0 hown hK.1 hP 0 rfl rfl 0 (by decide) lk9 (fun _ h9 => h9) rfl dX0_groundOf_1 ?_
  refine lv_iload_n hx hb dX0_groundOf_4 rfl (lv_at hl 1 rfl) ?_
  refine e_iald hK hP 1 rfl j (by omega) (by decide) hx hb dX0_groundOf_5 ?_
  exact e_iret () hQ hx hb hr hlocks hP hD hS dX0_groundOf_6 (rfl) (Nat.le_of_ble_eq_true rfl) (Nat.le_of_ble_eq_true rfl) (trivial)

abbrev rm_X0_coralOf : Room := { frames := 0, cells := 0, slots := 0, locals := 0 }
set_option maxHeartbeats 4000000 in
set_option maxRecDepth 100000 in
theorem c_X0_coralOf (l : Launch) (E : eT) (sz : Nat) (o : Nat) (a : Nat) (b : Nat) (d : Nat) (gr : Nat → Int32) (co : Nat → Int32) (hb_ : Nat → Bool) (mo : Int32) (j : Nat) (hj : j < 81) : cM l yX0_coralOf wsX0_coralOf rm_X0_coralOf E sz [.ref o, .int (nI j)] (wCo E o a b d gr co hb_ mo) (fun u : Unit => some (.int (co j))) (fun u : Unit => True) (fun u : Unit => wCo E o a b d gr co hb_ mo) := by
  refine cM_intro (cc := cX0_coralOf) (maxL := 2) (ret := (some .int)) (by decide +kernel) rfl (Nat.le_of_ble_eq_true rfl) ?_
  intro p e s m args below meth cd hx hb hr hml hown hlocks hts hnm hK hsz hP A hD hA Q hQ ls hl
  have hown : s.vm.findClass RX0 = some m.cls := hown
  have hin0 : ∀ w ∈ u_ws RX0 TX0 4, w ∈ wsX0_coralOf := by decide +kernel
  have lk15 := hts (.fieldLink RX0 15 "ReefPilot$Coast" "coral" "[I") (by decide +kernel)
  have hS : va_S A s.heap s.heap [] := va_S.rf
  have hl : lv_has ls 2 [(0, .ref o), (1, .int (nI j))] := hl
  refine lv_aload_n hx hb dX0_coralOf_0 rfl (lv_at hl 0 rfl) ?_
  refine va_get (D := E.1) (ci := 0) (v := .ref b) (C := RX0) (T := TX0) (N := 4) hx hb hts hin0 hown hK.1 hP 0 rfl rfl 1 (by decide) lk15 (fun _ h9 => h9) rfl dX0_coralOf_1 ?_
  refine lv_iload_n hx hb dX0_coralOf_4 rfl (lv_at hl 1 rfl) ?_
  refine e_iald hK hP 2 rfl j (by omega) (by decide) hx hb dX0_coralOf_5 ?_
  exact e_iret () hQ hx hb hr hlocks hP hD hS dX0_coralOf_6 (rfl) (Nat.le_of_ble_eq_true rfl) (Nat.le_of_ble_eq_true rfl) (trivial)

abbrev rm_X0_depthOf : Room := { frames := 1, cells := 0, slots := 0, locals := 13 }
set_option maxHeartbeats 4000000 in
set_option maxRecDepth 100000 in
theorem c_X0_depthOf (l : Launch) (E : eT) (sz : Nat) (o : Nat) (a : Nat) (b : Nat) (d : Nat) (gr : Nat → Int32) (co : Nat → Int32) (hb_ : Nat → Bool) (mo : Int32) (j : Nat) (hj : j < 81) : cM l yX0_depthOf wsX0_depthOf rm_X0_depthOf E sz [.ref o, .int (nI j)] (wCo E o a b d gr co hb_ mo) (fun u : Unit => some (.int (dep gr co j))) (fun u : Unit => True) (fun u : Unit => wCo E o a b d gr co hb_ mo) := by
  refine cM_intro (cc := cX0_depthOf) (maxL := 2) (ret := (some .int)) (by decide +kernel) rfl (Nat.le_of_ble_eq_true rfl) ?_
  intro p e s m args below meth cd hx hb hr hml hown hlocks hts hnm hK hsz hP A hD hA Q hQ ls hl
  have hown : s.vm.findClass RX0 = some m.cls := hown
  have hin0 : ∀ w ∈ u_ws RX0 TX0 4, w ∈ wsX0_depthOf := by decide +kernel
  have lk9 := hts (.fieldLink RX0 9 "ReefPilot$Coast" "ground" "[I") (by decide +kernel)
  have lk15 := hts (.fieldLink RX0 15 "ReefPilot$Coast" "coral" "[I") (by decide +kernel)
  have hamcmax := hts (.code Lib.Math.max.name Lib.Math.max.code 2 (some .int)) (by decide +kernel)
  have hamini := hts (.initialized "java/lang/Math") (by decide +kernel)
  have haml44 := hts (.methodLink RX0 44 Lib.Math.max.name) (by decide +kernel)
  have hamsmax := hts (.static Lib.Math.max.name) (by decide +kernel)
  have hS : va_S A s.heap s.heap [] := va_S.rf
  have hl : lv_has ls 2 [(0, .ref o), (1, .int (nI j))] := hl
  refine lv_aload_n hx hb dX0_depthOf_0 rfl (lv_at hl 0 rfl) ?_
  refine va_get (D := E.1) (ci := 0) (v := .ref a) (C := RX0) (T := TX0) (N := 4) hx hb hts hin0 hown hK.1 hP 0 rfl rfl 0 (by decide) lk9 (fun _ h9 => h9) rfl dX0_depthOf_1 ?_
  refine lv_iload_n hx hb dX0_depthOf_4 rfl (lv_at hl 1 rfl) ?_
  refine e_iald hK hP 1 rfl j (by omega) (by decide) hx hb dX0_depthOf_5 ?_
  refine lv_aload_n hx hb dX0_depthOf_6 rfl (lv_at hl 0 rfl) ?_
  refine va_get (D := E.1) (ci := 0) (v := .ref b) (C := RX0) (T := TX0) (N := 4) hx hb hts hin0 hown hK.1 hP 0 rfl rfl 1 (by decide) lk15 (fun _ h9 => h9) rfl dX0_depthOf_7 ?_
  refine lv_iload_n hx hb dX0_depthOf_10 rfl (lv_at hl 1 rfl) ?_
  refine e_iald hK hP 2 rfl j (by omega) (by decide) hx hb dX0_depthOf_11 ?_
  refine lv_isub hx hb dX0_depthOf_12 ?_
  refine lv_iconst (v := nI 0) hx hb dX0_depthOf_13 (by decide +kernel) ?_
  refine va_mmax hx hb (by rw [hml]; exact hl.1.symm) hown haml44 hamsmax hamini hamcmax (Nat.le_of_ble_eq_true rfl) (Nat.le_of_ble_eq_true rfl) (Nat.le_of_ble_eq_true rfl) (Nat.le_of_ble_eq_true rfl) dX0_depthOf_14 ?_
  refine e_top (y := iMax ((gr j) - (co j)) (nI 0)) rfl ?_
  exact e_iret () hQ hx hb hr hlocks hP hD hS dX0_depthOf_17 (rfl) (Nat.le_of_ble_eq_true rfl) (Nat.le_of_ble_eq_true rfl) (trivial)

abbrev rm_X0_isHead : Room := { frames := 0, cells := 0, slots := 0, locals := 0 }
set_option maxHeartbeats 4000000 in
set_option maxRecDepth 100000 in
theorem c_X0_isHead (l : Launch) (E : eT) (sz : Nat) (o : Nat) (a : Nat) (b : Nat) (d : Nat) (gr : Nat → Int32) (co : Nat → Int32) (hb_ : Nat → Bool) (mo : Int32) (j : Nat) (hj : j < 81) : cM l yX0_isHead wsX0_isHead rm_X0_isHead E sz [.ref o, .int (nI j)] (wCo E o a b d gr co hb_ mo) (fun u : Unit => some (.int (b2i (hd co j)))) (fun u : Unit => True) (fun u : Unit => wCo E o a b d gr co hb_ mo) := by
  refine cM_intro (cc := cX0_isHead) (maxL := 2) (ret := (some .boolean)) (by decide +kernel) rfl (Nat.le_of_ble_eq_true rfl) ?_
  intro p e s m args below meth cd hx hb hr hml hown hlocks hts hnm hK hsz hP A hD hA Q hQ ls hl
  have hown : s.vm.findClass RX0 = some m.cls := hown
  have hin0 : ∀ w ∈ u_ws RX0 TX0 4, w ∈ wsX0_isHead := by decide +kernel
  have lk15 := hts (.fieldLink RX0 15 "ReefPilot$Coast" "coral" "[I") (by decide +kernel)
  have hS : va_S A s.heap s.heap [] := va_S.rf
  have hl : lv_has ls 2 [(0, .ref o), (1, .int (nI j))] := hl
  refine lv_aload_n hx hb dX0_isHead_0 rfl (lv_at hl 0 rfl) ?_
  refine va_get (D := E.1) (ci := 0) (v := .ref b) (C := RX0) (T := TX0) (N := 4) hx hb hts hin0 hown hK.1 hP 0 rfl rfl 1 (by decide) lk15 (fun _ h9 => h9) rfl dX0_isHead_1 ?_
  refine lv_iload_n hx hb dX0_isHead_4 rfl (lv_at hl 1 rfl) ?_
  refine e_iald hK hP 2 rfl j (by omega) (by decide) hx hb dX0_isHead_5 ?_
  refine lv_iconst (v := nI 5) hx hb dX0_isHead_6 (by decide +kernel) ?_
  refine lv_icmp_lt (tgt := 14) hx hb dX0_isHead_7 (by decide) (fun c7 => ?_) (fun c7 => ?_)
  · refine lv_iconst (v := nI 0) hx hb dX0_isHead_14 (by decide +kernel) ?_
    exact e_zret () hQ hx hb hr hlocks hP hD hS dX0_isHead_15 (rvi (b2i_f (hd_f c7))) (Nat.le_of_ble_eq_true rfl) (Nat.le_of_ble_eq_true rfl) (by first | exact b2i_narrow _ | rfl | decide +kernel) (trivial)
  · refine lv_iconst (v := nI 1) hx hb dX0_isHead_10 (by decide +kernel) ?_
    refine lv_goto (tgt := 15) hx hb dX0_isHead_11 (by decide) ?_
    exact e_zret () hQ hx hb hr hlocks hP hD hS dX0_isHead_15 (rvi (b2i_t (hd_t c7))) (Nat.le_of_ble_eq_true rfl) (Nat.le_of_ble_eq_true rfl) (by first | exact b2i_narrow _ | rfl | decide +kernel) (trivial)

abbrev rm_X0_monthNow : Room := { frames := 0, cells := 0, slots := 0, locals := 0 }
set_option maxHeartbeats 4000000 in
set_option maxRecDepth 100000 in
theorem c_X0_monthNow (l : Launch) (E : eT) (sz : Nat) (o : Nat) (a : Nat) (b : Nat) (d : Nat) (gr : Nat → Int32) (co : Nat → Int32) (hb_ : Nat → Bool) (mo : Int32) : cM l yX0_monthNow wsX0_monthNow rm_X0_monthNow E sz [.ref o] (wCo E o a b d gr co hb_ mo) (fun u : Unit => some (.int mo)) (fun u : Unit => True) (fun u : Unit => wCo E o a b d gr co hb_ mo) := by
  refine cM_intro (cc := cX0_monthNow) (maxL := 1) (ret := (some .int)) (by decide +kernel) rfl (Nat.le_of_ble_eq_true rfl) ?_
  intro p e s m args below meth cd hx hb hr hml hown hlocks hts hnm hK hsz hP A hD hA Q hQ ls hl
  have hown : s.vm.findClass RX0 = some m.cls := hown
  have hin0 : ∀ w ∈ u_ws RX0 TX0 4, w ∈ wsX0_monthNow := by decide +kernel
  have lk34 := hts (.fieldLink RX0 34 "ReefPilot$Coast" "month" "I") (by decide +kernel)
  have hS : va_S A s.heap s.heap [] := va_S.rf
  have hl : lv_has ls 1 [(0, .ref o)] := hl
  refine lv_aload_n hx hb dX0_monthNow_0 rfl (lv_at hl 0 rfl) ?_
  refine va_get (D := E.1) (ci := 0) (v := .int mo) (C := RX0) (T := TX0) (N := 4) hx hb hts hin0 hown hK.1 hP 0 rfl rfl 3 (by decide) lk34 (fun _ h9 => h9) rfl dX0_monthNow_1 ?_
  exact e_iret () hQ hx hb hr hlocks hP hD hS dX0_monthNow_4 (rfl) (Nat.le_of_ble_eq_true rfl) (Nat.le_of_ble_eq_true rfl) (trivial)

abbrev rm_X0_layGround : Room := { frames := 1, cells := 0, slots := 0, locals := 15 }
set_option maxHeartbeats 4000000 in
set_option maxRecDepth 100000 in
theorem c_X0_layGround (l : Launch) (E : eT) (sz : Nat) (o : Nat) (a : Nat) (b : Nat) (d : Nat) (gr : Nat → Int32) (co : Nat → Int32) (hb_ : Nat → Bool) (mo : Int32) (j : Nat) (v : Int32) (hj : j < 81) : cM l yX0_layGround wsX0_layGround rm_X0_layGround E sz [.ref o, .int (nI j), .int v] (wCo E o a b d gr co hb_ mo) (fun u : Unit => some (.int (gr j))) (fun u : Unit => True) (fun u : Unit => wCo E o a b d (upd gr j v) (upd co j (iMin (co j) v)) hb_ mo) := by
  refine cM_intro (cc := cX0_layGround) (maxL := 4) (ret := (some .int)) (by decide +kernel) rfl (Nat.le_of_ble_eq_true rfl) ?_
  intro p e s m args below meth cd hx hb hr hml hown hlocks hts hnm hK hsz hP A hD hA Q hQ ls hl
  have hown : s.vm.findClass RX0 = some m.cls := hown
  have hin0 : ∀ w ∈ u_ws RX0 TX0 4, w ∈ wsX0_layGround := by decide +kernel
  have lk9 := hts (.fieldLink RX0 9 "ReefPilot$Coast" "ground" "[I") (by decide +kernel)
  have lk15 := hts (.fieldLink RX0 15 "ReefPilot$Coast" "coral" "[I") (by decide +kernel)
  have hamcmin := hts (.code Lib.Math.min.name Lib.Math.min.code 2 (some .int)) (by decide +kernel)
  have hamini := hts (.initialized "java/lang/Math") (by decide +kernel)
  have haml38 := hts (.methodLink RX0 38 Lib.Math.min.name) (by decide +kernel)
  have hamsmin := hts (.static Lib.Math.min.name) (by decide +kernel)
  have hS : va_S A s.heap s.heap [] := va_S.rf
  have hl : lv_has ls 4 [(0, .ref o), (1, .int (nI j)), (2, .int v)] := hl
  refine lv_aload_n hx hb dX0_layGround_0 rfl (lv_at hl 0 rfl) ?_
  refine va_get (D := E.1) (ci := 0) (v := .ref a) (C := RX0) (T := TX0) (N := 4) hx hb hts hin0 hown hK.1 hP 0 rfl rfl 0 (by decide) lk9 (fun _ h9 => h9) rfl dX0_layGround_1 ?_
  refine lv_iload_n hx hb dX0_layGround_4 rfl (lv_at hl 1 rfl) ?_
  refine e_iald hK hP 1 rfl j (by omega) (by decide) hx hb dX0_layGround_5 ?_
  refine lv_istore_n (lv' := [(3, .int (gr j)), (0, .ref o), (1, .int (nI j)), (2, .int v)]) hx hb dX0_layGround_6 rfl hl (by decide) rfl (fun ls hl => ?_)
  refine lv_aload_n hx hb dX0_layGround_7 rfl (lv_at hl 1 rfl) ?_
  refine va_get (D := E.1) (ci := 0) (v := .ref a) (C := RX0) (T := TX0) (N := 4) hx hb hts hin0 hown hK.1 hP 0 rfl rfl 0 (by decide) lk9 (fun _ h9 => h9) rfl dX0_layGround_8 ?_
  refine lv_iload_n hx hb dX0_layGround_11 rfl (lv_at hl 2 rfl) ?_
  refine lv_iload_n hx hb dX0_layGround_12 rfl (lv_at hl 3 rfl) ?_
  refine e_iast hK hP hD hS 1 rfl j (by omega) (by decide) hx hb dX0_layGround_13 (fun H locs hP hD hS => ?_)
  have hP : va_P E.1 vwCl (wCo E o a b d (upd gr j v) co hb_ mo) H := hP
  have hD : va_D A (wCo E o a b d (upd gr j v) co hb_ mo) := hD
  refine lv_aload_n hx hb dX0_layGround_14 rfl (lv_at hl 1 rfl) ?_
  refine va_get (D := E.1) (ci := 0) (v := .ref b) (C := RX0) (T := TX0) (N := 4) hx hb hts hin0 hown hK.1 hP 0 rfl rfl 1 (by decide) lk15 (fun _ h9 => h9) rfl dX0_layGround_15 ?_
  refine lv_iload_n hx hb dX0_layGround_18 rfl (lv_at hl 2 rfl) ?_
  refine lv_aload_n hx hb dX0_layGround_19 rfl (lv_at hl 1 rfl) ?_
  refine va_get (D := E.1) (ci := 0) (v := .ref b) (C := RX0) (T := TX0) (N := 4) hx hb hts hin0 hown hK.1 hP 0 rfl rfl 1 (by decide) lk15 (fun _ h9 => h9) rfl dX0_layGround_20 ?_
  refine lv_iload_n hx hb dX0_layGround_23 rfl (lv_at hl 2 rfl) ?_
  refine e_iald hK hP 2 rfl j (by omega) (by decide) hx hb dX0_layGround_24 ?_
  refine lv_iload_n hx hb dX0_layGround_25 rfl (lv_at hl 3 rfl) ?_
  refine va_mmin hx hb (by rw [hml]; exact hl.1.symm) hown haml38 hamsmin hamini hamcmin (Nat.le_of_ble_eq_true rfl) (Nat.le_of_ble_eq_true rfl) (Nat.le_of_ble_eq_true rfl) (Nat.le_of_ble_eq_true rfl) dX0_layGround_26 ?_
  refine e_top (y := iMin (co j) v) rfl ?_
  refine e_iast hK hP hD hS 2 rfl j (by omega) (by decide) hx hb dX0_layGround_29 (fun H locs hP hD hS => ?_)
  have hP : va_P E.1 vwCl (wCo E o a b d (upd gr j v) (upd co j (iMin (co j) v)) hb_ mo) H := hP
  have hD : va_D A (wCo E o a b d (upd gr j v) (upd co j (iMin (co j) v)) hb_ mo) := hD
  refine lv_iload_n hx hb dX0_layGround_30 rfl (lv_at hl 0 rfl) ?_
  exact e_iret () hQ hx hb hr hlocks hP hD hS dX0_layGround_31 (rfl) (Nat.le_of_ble_eq_true rfl) (Nat.le_of_ble_eq_true rfl) (trivial)

abbrev rm_X0_setCoral : Room := { frames := 0, cells := 0, slots := 0, locals := 0 }
set_option maxHeartbeats 4000000 in
set_option maxRecDepth 100000 in
theorem c_X0_setCoral (l : Launch) (E : eT) (sz : Nat) (o : Nat) (a : Nat) (b : Nat) (d : Nat) (gr : Nat → Int32) (co : Nat → Int32) (hb_ : Nat → Bool) (mo : Int32) (j : Nat) (v : Int32) (hj : j < 81) : cM l yX0_setCoral wsX0_setCoral rm_X0_setCoral E sz [.ref o, .int (nI j), .int v] (wCo E o a b d gr co hb_ mo) (fun u : Unit => some (.int (co j))) (fun u : Unit => True) (fun u : Unit => wCo E o a b d gr (upd co j v) hb_ mo) := by
  refine cM_intro (cc := cX0_setCoral) (maxL := 4) (ret := (some .int)) (by decide +kernel) rfl (Nat.le_of_ble_eq_true rfl) ?_
  intro p e s m args below meth cd hx hb hr hml hown hlocks hts hnm hK hsz hP A hD hA Q hQ ls hl
  have hown : s.vm.findClass RX0 = some m.cls := hown
  have hin0 : ∀ w ∈ u_ws RX0 TX0 4, w ∈ wsX0_setCoral := by decide +kernel
  have lk15 := hts (.fieldLink RX0 15 "ReefPilot$Coast" "coral" "[I") (by decide +kernel)
  have hS : va_S A s.heap s.heap [] := va_S.rf
  have hl : lv_has ls 4 [(0, .ref o), (1, .int (nI j)), (2, .int v)] := hl
  refine lv_aload_n hx hb dX0_setCoral_0 rfl (lv_at hl 0 rfl) ?_
  refine va_get (D := E.1) (ci := 0) (v := .ref b) (C := RX0) (T := TX0) (N := 4) hx hb hts hin0 hown hK.1 hP 0 rfl rfl 1 (by decide) lk15 (fun _ h9 => h9) rfl dX0_setCoral_1 ?_
  refine lv_iload_n hx hb dX0_setCoral_4 rfl (lv_at hl 1 rfl) ?_
  refine e_iald hK hP 2 rfl j (by omega) (by decide) hx hb dX0_setCoral_5 ?_
  refine lv_istore_n (lv' := [(3, .int (co j)), (0, .ref o), (1, .int (nI j)), (2, .int v)]) hx hb dX0_setCoral_6 rfl hl (by decide) rfl (fun ls hl => ?_)
  refine lv_aload_n hx hb dX0_setCoral_7 rfl (lv_at hl 1 rfl) ?_
  refine va_get (D := E.1) (ci := 0) (v := .ref b) (C := RX0) (T := TX0) (N := 4) hx hb hts hin0 hown hK.1 hP 0 rfl rfl 1 (by decide) lk15 (fun _ h9 => h9) rfl dX0_setCoral_8 ?_
  refine lv_iload_n hx hb dX0_setCoral_11 rfl (lv_at hl 2 rfl) ?_
  refine lv_iload_n hx hb dX0_setCoral_12 rfl (lv_at hl 3 rfl) ?_
  refine e_iast hK hP hD hS 2 rfl j (by omega) (by decide) hx hb dX0_setCoral_13 (fun H locs hP hD hS => ?_)
  have hP : va_P E.1 vwCl (wCo E o a b d gr (upd co j v) hb_ mo) H := hP
  have hD : va_D A (wCo E o a b d gr (upd co j v) hb_ mo) := hD
  refine lv_iload_n hx hb dX0_setCoral_14 rfl (lv_at hl 0 rfl) ?_
  exact e_iret () hQ hx hb hr hlocks hP hD hS dX0_setCoral_15 (rfl) (Nat.le_of_ble_eq_true rfl) (Nat.le_of_ble_eq_true rfl) (trivial)

abbrev rm_X0_heads : Room := { frames := 1, cells := 0, slots := 0, locals := 21 }
set_option maxHeartbeats 4000000 in
set_option maxRecDepth 100000 in
theorem c_X0_heads (l : Launch) (E : eT) (sz : Nat) (o : Nat) (a : Nat) (b : Nat) (d : Nat) (gr : Nat → Int32) (co : Nat → Int32) (hb_ : Nat → Bool) (mo : Int32) : cM l yX0_heads wsX0_heads rm_X0_heads E sz [.ref o] (wCo E o a b d gr co hb_ mo) (fun u : Unit => some (.int (nI (heads co)))) (fun u : Unit => True) (fun u : Unit => wCo E o a b d gr co hb_ mo) := by
  refine cM_intro (cc := cX0_heads) (maxL := 3) (ret := (some .int)) (by decide +kernel) rfl (Nat.le_of_ble_eq_true rfl) ?_
  intro p e s m args below meth cd hx hb hr hml hown hlocks hts hnm hK hsz hP A hD hA Q hQ ls hl
  have hown : s.vm.findClass RX0 = some m.cls := hown
  have hS : va_S A s.heap s.heap [] := va_S.rf
  have hl : lv_has ls 3 [(0, .ref o)] := hl
  refine lv_iconst (v := nI 0) hx hb dX0_heads_0 (by decide +kernel) ?_
  refine lv_istore_n (lv' := [(1, .int (nI 0)), (0, .ref o)]) hx hb dX0_heads_1 rfl hl (by decide) rfl (fun ls hl => ?_)
  refine lv_iconst (v := nI 0) hx hb dX0_heads_2 (by decide +kernel) ?_
  refine lv_istore_n (lv' := [(2, .int (nI 0)), (1, .int (nI 0)), (0, .ref o)]) hx hb dX0_heads_3 rfl hl (by decide) rfl (fun ls hl => ?_)
  have L4 : ∀ (fuel : Nat) (x : Nat) (z : Nat) (hz : z ≤ 81) (hx_ : x = fb_ct (hd co) z) (hfuel : 81 - z < fuel) (H : Heap) (locs : List Loc), va_P E.1 vwCl (wCo E o a b d gr co hb_ mo) H → va_D A (wCo E o a b d gr co hb_ mo) → va_S A s.heap H locs → ∀ ls : Array Slot, lv_has ls 3 [(2, .int (nI z)), (1, .int (nI x)), (0, .ref o)] → W p l e rm_X0_heads s m args below meth cd H locs 0 0 Q (F0 m 4 ls []) := by
    intro fuel
    induction fuel with
    | zero => intros; omega
    | succ fuel ihL4 =>
      intro x z hz hx_ hfuel H locs hP hD hS ls hl
      refine lv_iload_n hx hb dX0_heads_4 rfl (lv_at hl 0 rfl) ?_
      have hxz := fb_ct_le (hd co) z
      refine lv_bipush (v := nI 81) hx hb dX0_heads_5 (by decide +kernel) ?_
      refine n_icmp_ge (x := z) (y := 81) (by omega) (by omega) (tgt := 27) hx hb dX0_heads_7 (by decide) (fun c7 => ?_) (fun c7 => ?_)
      · refine lv_iload_n hx hb dX0_heads_27 rfl (lv_at hl 1 rfl) ?_
        exact e_iret () hQ hx hb hr hlocks hP hD hS dX0_heads_28 (rvi (by rw [hx_, show z = 81 by omega]; rfl)) (Nat.le_of_ble_eq_true rfl) (Nat.le_of_ble_eq_true rfl) (trivial)
      · refine lv_aload_n hx hb dX0_heads_10 rfl (lv_at hl 2 rfl) ?_
        refine lv_iload_n hx hb dX0_heads_11 rfl (lv_at hl 0 rfl) ?_
        refine e_callV (As := [.int (nI z)]) (rest := []) ⟨hx, hb, hml, hown, hts⟩ hK hP hD hS hA hl.1 (c_X0_isHead l E _ o a b d gr co hb_ mo z (by omega)) (cwV 1 hts gX0_heads_X0_isHead rfl rfl rfl (by decide +kernel) ⟨Nat.le_of_ble_eq_true rfl, Nat.le_of_ble_eq_true rfl⟩) [0, 1, 2, 3] [] rfl rfl rfl rfl (by decide) (q0 := 0) (ci := 0) rfl rfl rfl rfl (Nat.le_of_ble_eq_true rfl) dX0_heads_12 ⟨Nat.le_of_ble_eq_true rfl, Nat.le_of_ble_eq_true rfl⟩ (fun u_1 H locs hu_2 hsz1 hP hD hS => ?_)
        have hP : va_P E.1 vwCl (wCo E o a b d gr co hb_ mo) H := hP.sub [0, 1, 2, 3] rfl
        have hD : va_D A (wCo E o a b d gr co hb_ mo) := hD.sub [0, 1, 2, 3] (by decide) rfl
        refine W.eq (g2 := F0 m 15 ls [.int (b2i (hd co z))]) rfl ?_
        refine b_if_eq (x := hd co z) (tgt := 21) hx hb dX0_heads_15 (by decide) (fun c15 => ?_) (fun c15 => ?_)
        · refine lv_iinc (v := nI (z + 1)) (lv' := [(2, .int (nI (z + 1))), (1, .int (nI x)), (0, .ref o)]) hx hb dX0_heads_21 hl (k := 0) rfl (nI_add z 1) (by decide) rfl (fun ls hl => ?_)
          refine lv_goto (tgt := 4) hx hb dX0_heads_24 (by decide) ?_
          exact ihL4 x (z + 1) (by first | omega | assumption | rfl | (simp_all; done)) (by subst hx_; simp [fb_ct_succ, c15]) (by omega) _ _ hP hD hS _ (lv_sub hl [0, 1, 2] rfl)
        · refine lv_iinc (v := nI (x + 1)) (lv' := [(1, .int (nI (x + 1))), (2, .int (nI z)), (0, .ref o)]) hx hb dX0_heads_18 hl (k := 1) rfl (nI_add x 1) (by decide) rfl (fun ls hl => ?_)
          refine lv_iinc (v := nI (z + 1)) (lv' := [(2, .int (nI (z + 1))), (1, .int (nI (x + 1))), (0, .ref o)]) hx hb dX0_heads_21 hl (k := 1) rfl (nI_add z 1) (by decide) rfl (fun ls hl => ?_)
          refine lv_goto (tgt := 4) hx hb dX0_heads_24 (by decide) ?_
          exact ihL4 (x + 1) (z + 1) (by first | omega | assumption | rfl | (simp_all; done)) (by subst hx_; simp [fb_ct_succ, c15]) (by omega) _ _ hP hD hS _ (lv_sub hl [0, 1, 2] rfl)
  exact L4 (81 - 0 + 1) 0 0 (by first | omega | assumption | rfl | (simp_all; done)) (rfl) (Nat.lt_succ_self _) _ _ hP hD hS _ (lv_sub hl [0, 1, 2] rfl)

abbrev rm_X0_allCoral : Room := { frames := 0, cells := 0, slots := 0, locals := 0 }
set_option maxHeartbeats 4000000 in
set_option maxRecDepth 100000 in
theorem c_X0_allCoral (l : Launch) (E : eT) (sz : Nat) (o : Nat) (a : Nat) (b : Nat) (d : Nat) (gr : Nat → Int32) (co : Nat → Int32) (hb_ : Nat → Bool) (mo : Int32) : cM l yX0_allCoral wsX0_allCoral rm_X0_allCoral E sz [.ref o] (wCo E o a b d gr co hb_ mo) (fun u : Unit => some (.int (sumI co 81))) (fun u : Unit => True) (fun u : Unit => wCo E o a b d gr co hb_ mo) := by
  refine cM_intro (cc := cX0_allCoral) (maxL := 3) (ret := (some .int)) (by decide +kernel) rfl (Nat.le_of_ble_eq_true rfl) ?_
  intro p e s m args below meth cd hx hb hr hml hown hlocks hts hnm hK hsz hP A hD hA Q hQ ls hl
  have hown : s.vm.findClass RX0 = some m.cls := hown
  have hin0 : ∀ w ∈ u_ws RX0 TX0 4, w ∈ wsX0_allCoral := by decide +kernel
  have lk15 := hts (.fieldLink RX0 15 "ReefPilot$Coast" "coral" "[I") (by decide +kernel)
  have hS : va_S A s.heap s.heap [] := va_S.rf
  have hl : lv_has ls 3 [(0, .ref o)] := hl
  refine lv_iconst (v := nI 0) hx hb dX0_allCoral_0 (by decide +kernel) ?_
  refine lv_istore_n (lv' := [(1, .int (nI 0)), (0, .ref o)]) hx hb dX0_allCoral_1 rfl hl (by decide) rfl (fun ls hl => ?_)
  refine lv_iconst (v := nI 0) hx hb dX0_allCoral_2 (by decide +kernel) ?_
  refine lv_istore_n (lv' := [(2, .int (nI 0)), (1, .int (nI 0)), (0, .ref o)]) hx hb dX0_allCoral_3 rfl hl (by decide) rfl (fun ls hl => ?_)
  have L4 : ∀ (fuel : Nat) (x : Int32) (z : Nat) (hz : z ≤ 81) (hx_ : x = sumI co z) (hfuel : 81 - z < fuel) (H : Heap) (locs : List Loc), va_P E.1 vwCl (wCo E o a b d gr co hb_ mo) H → va_D A (wCo E o a b d gr co hb_ mo) → va_S A s.heap H locs → ∀ ls : Array Slot, lv_has ls 3 [(2, .int (nI z)), (1, .int x), (0, .ref o)] → W p l e rm_X0_allCoral s m args below meth cd H locs 0 0 Q (F0 m 4 ls []) := by
    intro fuel
    induction fuel with
    | zero => intros; omega
    | succ fuel ihL4 =>
      intro x z hz hx_ hfuel H locs hP hD hS ls hl
      refine lv_iload_n hx hb dX0_allCoral_4 rfl (lv_at hl 0 rfl) ?_
      refine lv_bipush (v := nI 81) hx hb dX0_allCoral_5 (by decide +kernel) ?_
      refine n_icmp_ge (x := z) (y := 81) (by omega) (by omega) (tgt := 25) hx hb dX0_allCoral_7 (by decide) (fun c7 => ?_) (fun c7 => ?_)
      · refine lv_iload_n hx hb dX0_allCoral_25 rfl (lv_at hl 1 rfl) ?_
        exact e_iret () hQ hx hb hr hlocks hP hD hS dX0_allCoral_26 (rvi (by rw [hx_, show z = 81 by omega])) (Nat.le_of_ble_eq_true rfl) (Nat.le_of_ble_eq_true rfl) (trivial)
      · refine lv_iload_n hx hb dX0_allCoral_10 rfl (lv_at hl 1 rfl) ?_
        refine lv_aload_n hx hb dX0_allCoral_11 rfl (lv_at hl 2 rfl) ?_
        refine va_get (D := E.1) (ci := 0) (v := .ref b) (C := RX0) (T := TX0) (N := 4) hx hb hts hin0 hown hK.1 hP 0 rfl rfl 1 (by decide) lk15 (fun _ h9 => h9) rfl dX0_allCoral_12 ?_
        refine lv_iload_n hx hb dX0_allCoral_15 rfl (lv_at hl 0 rfl) ?_
        refine e_iald hK hP 2 rfl z (by omega) (by decide) hx hb dX0_allCoral_16 ?_
        refine lv_iadd hx hb dX0_allCoral_17 ?_
        refine lv_istore_n (lv' := [(1, .int (x + (co z))), (2, .int (nI z)), (0, .ref o)]) hx hb dX0_allCoral_18 rfl hl (by decide) rfl (fun ls hl => ?_)
        refine lv_iinc (v := nI (z + 1)) (lv' := [(2, .int (nI (z + 1))), (1, .int (x + (co z))), (0, .ref o)]) hx hb dX0_allCoral_19 hl (k := 1) rfl (nI_add z 1) (by decide) rfl (fun ls hl => ?_)
        refine lv_goto (tgt := 4) hx hb dX0_allCoral_22 (by decide) ?_
        exact ihL4 (x + (co z)) (z + 1) (by first | omega | assumption | rfl | (simp_all; done)) (by rw [hx_]; rfl) (by omega) _ _ hP hD hS _ (lv_sub hl [0, 1, 2] rfl)
  exact L4 (81 - 0 + 1) (nI 0) 0 (by first | omega | assumption | rfl | (simp_all; done)) (rfl) (Nat.lt_succ_self _) _ _ hP hD hS _ (lv_sub hl [0, 1, 2] rfl)

abbrev rm_X0_dieBack : Room := { frames := 1, cells := 0, slots := 0, locals := 15 }
set_option maxHeartbeats 4000000 in
set_option maxRecDepth 100000 in
theorem c_X0_dieBack (l : Launch) (E : eT) (sz : Nat) (o : Nat) (a : Nat) (b : Nat) (d : Nat) (gr : Nat → Int32) (co : Nat → Int32) (hb_ : Nat → Bool) (mo : Int32) : cM l yX0_dieBack wsX0_dieBack rm_X0_dieBack E sz [.ref o] (wCo E o a b d gr co hb_ mo) (fun u : Unit => none) (fun u : Unit => True) (fun u : Unit => wCo E o a b d gr (die co) hb_ mo) := by
  refine cM_intro (cc := cX0_dieBack) (maxL := 2) (ret := none) (by decide +kernel) rfl (Nat.le_of_ble_eq_true rfl) ?_
  intro p e s m args below meth cd hx hb hr hml hown hlocks hts hnm hK hsz hP A hD hA Q hQ ls hl
  have hown : s.vm.findClass RX0 = some m.cls := hown
  have hin0 : ∀ w ∈ u_ws RX0 TX0 4, w ∈ wsX0_dieBack := by decide +kernel
  have lk15 := hts (.fieldLink RX0 15 "ReefPilot$Coast" "coral" "[I") (by decide +kernel)
  have hamcmax := hts (.code Lib.Math.max.name Lib.Math.max.code 2 (some .int)) (by decide +kernel)
  have hamini := hts (.initialized "java/lang/Math") (by decide +kernel)
  have haml44 := hts (.methodLink RX0 44 Lib.Math.max.name) (by decide +kernel)
  have hamsmax := hts (.static Lib.Math.max.name) (by decide +kernel)
  have hS : va_S A s.heap s.heap [] := va_S.rf
  have hl : lv_has ls 2 [(0, .ref o)] := hl
  refine lv_iconst (v := nI 0) hx hb dX0_dieBack_0 (by decide +kernel) ?_
  refine lv_istore_n (lv' := [(1, .int (nI 0)), (0, .ref o)]) hx hb dX0_dieBack_1 rfl hl (by decide) rfl (fun ls hl => ?_)
  have L2 : ∀ (fuel : Nat) (z : Nat) (f : Nat → Int32) (hz : z ≤ 81) (hf : ∀ k : Nat, f k = if k < z then die co k else co k) (hfuel : 81 - z < fuel) (H : Heap) (locs : List Loc), va_P E.1 vwCl (wCo E o a b d gr f hb_ mo) H → va_D A (wCo E o a b d gr f hb_ mo) → va_S A s.heap H locs → ∀ ls : Array Slot, lv_has ls 2 [(1, .int (nI z)), (0, .ref o)] → W p l e rm_X0_dieBack s m args below meth cd H locs 0 0 Q (F0 m 2 ls []) := by
    intro fuel
    induction fuel with
    | zero => intros; omega
    | succ fuel ihL2 =>
      intro z f hz hf hfuel H locs hP hD hS ls hl
      refine lv_iload_n hx hb dX0_dieBack_2 rfl (lv_at hl 0 rfl) ?_
      refine lv_bipush (v := nI 81) hx hb dX0_dieBack_3 (by decide +kernel) ?_
      refine n_icmp_ge (x := z) (y := 81) (by omega) (by omega) (tgt := 32) hx hb dX0_dieBack_5 (by decide) (fun c5 => ?_) (fun c5 => ?_)
      · have hP := e_cong hP 2 (g := die co) rfl (lay_end hf (by omega))
        have hD := va_D.set (e := .inl (E.2.1, 81, .inl (die co))) hD (p := 2) rfl
        have hP : va_P E.1 vwCl (wCo E o a b d gr (die co) hb_ mo) H := hP
        have hD : va_D A (wCo E o a b d gr (die co) hb_ mo) := hD
        exact e_vret () hQ hx hb hr hlocks hP hD hS dX0_dieBack_32 (rfl) (Nat.le_of_ble_eq_true rfl) (Nat.le_of_ble_eq_true rfl) (trivial)
      · refine lv_aload_n hx hb dX0_dieBack_8 rfl (lv_at hl 1 rfl) ?_
        refine va_get (D := E.1) (ci := 0) (v := .ref b) (C := RX0) (T := TX0) (N := 4) hx hb hts hin0 hown hK.1 hP 0 rfl rfl 1 (by decide) lk15 (fun _ h9 => h9) rfl dX0_dieBack_9 ?_
        refine lv_iload_n hx hb dX0_dieBack_12 rfl (lv_at hl 0 rfl) ?_
        refine lv_aload_n hx hb dX0_dieBack_13 rfl (lv_at hl 1 rfl) ?_
        refine va_get (D := E.1) (ci := 0) (v := .ref b) (C := RX0) (T := TX0) (N := 4) hx hb hts hin0 hown hK.1 hP 0 rfl rfl 1 (by decide) lk15 (fun _ h9 => h9) rfl dX0_dieBack_14 ?_
        refine lv_iload_n hx hb dX0_dieBack_17 rfl (lv_at hl 0 rfl) ?_
        refine e_iald hK hP 2 rfl z (by omega) (by decide) hx hb dX0_dieBack_18 ?_
        refine lv_iconst (v := nI 1) hx hb dX0_dieBack_19 (by decide +kernel) ?_
        refine lv_isub hx hb dX0_dieBack_20 ?_
        refine lv_iconst (v := nI 0) hx hb dX0_dieBack_21 (by decide +kernel) ?_
        refine va_mmax hx hb (by rw [hml]; exact hl.1.symm) hown haml44 hamsmax hamini hamcmax (Nat.le_of_ble_eq_true rfl) (Nat.le_of_ble_eq_true rfl) (Nat.le_of_ble_eq_true rfl) (Nat.le_of_ble_eq_true rfl) dX0_dieBack_22 ?_
        refine e_top (y := iMax ((f z) - (nI 1)) (nI 0)) rfl ?_
        refine e_iast hK hP hD hS 2 rfl z (by omega) (by decide) hx hb dX0_dieBack_25 (fun H locs hP hD hS => ?_)
        have hP : va_P E.1 vwCl (wCo E o a b d gr (upd f z (iMax ((f z) - (nI 1)) (nI 0))) hb_ mo) H := hP
        have hD : va_D A (wCo E o a b d gr (upd f z (iMax ((f z) - (nI 1)) (nI 0))) hb_ mo) := hD
        refine lv_iinc (v := nI (z + 1)) (lv' := [(1, .int (nI (z + 1))), (0, .ref o)]) hx hb dX0_dieBack_26 hl (k := 0) rfl (nI_add z 1) (by decide) rfl (fun ls hl => ?_)
        refine lv_goto (tgt := 2) hx hb dX0_dieBack_29 (by decide) ?_
        exact ihL2 (z + 1) (upd f z (iMax ((f z) - (nI 1)) (nI 0))) (by first | omega | assumption | rfl | (simp_all; done)) (lay_upd hf (by unfold die; rw [lay_at hf])) (by omega) _ _ hP hD hS _ (lv_sub hl [0, 1] rfl)
  exact L2 (81 - 0 + 1) 0 co (by first | omega | assumption | rfl | (simp_all; done)) (lay_0) (Nat.lt_succ_self _) _ _ hP hD hS _ (lv_sub hl [0, 1] rfl)

abbrev rm_X0_rememberHeads : Room := { frames := 1, cells := 0, slots := 0, locals := 21 }
set_option maxHeartbeats 4000000 in
set_option maxRecDepth 100000 in
theorem c_X0_rememberHeads (l : Launch) (E : eT) (sz : Nat) (o : Nat) (a : Nat) (b : Nat) (d : Nat) (gr : Nat → Int32) (co : Nat → Int32) (hb_ : Nat → Bool) (mo : Int32) : cM l yX0_rememberHeads wsX0_rememberHeads rm_X0_rememberHeads E sz [.ref o] (wCo E o a b d gr co hb_ mo) (fun u : Unit => none) (fun u : Unit => True) (fun u : Unit => wCo E o a b d gr co (hd co) mo) := by
  refine cM_intro (cc := cX0_rememberHeads) (maxL := 2) (ret := none) (by decide +kernel) rfl (Nat.le_of_ble_eq_true rfl) ?_
  intro p e s m args below meth cd hx hb hr hml hown hlocks hts hnm hK hsz hP A hD hA Q hQ ls hl
  have hown : s.vm.findClass RX0 = some m.cls := hown
  have hin0 : ∀ w ∈ u_ws RX0 TX0 4, w ∈ wsX0_rememberHeads := by decide +kernel
  have lk18 := hts (.fieldLink RX0 18 "ReefPilot$Coast" "headBefore" "[Z") (by decide +kernel)
  have hS : va_S A s.heap s.heap [] := va_S.rf
  have hl : lv_has ls 2 [(0, .ref o)] := hl
  refine lv_iconst (v := nI 0) hx hb dX0_rememberHeads_0 (by decide +kernel) ?_
  refine lv_istore_n (lv' := [(1, .int (nI 0)), (0, .ref o)]) hx hb dX0_rememberHeads_1 rfl hl (by decide) rfl (fun ls hl => ?_)
  have L2 : ∀ (fuel : Nat) (z : Nat) (f : Nat → Bool) (hz : z ≤ 81) (hf : ∀ k : Nat, f k = if k < z then hd co k else hb_ k) (hfuel : 81 - z < fuel) (H : Heap) (locs : List Loc), va_P E.1 vwCl (wCo E o a b d gr co f mo) H → va_D A (wCo E o a b d gr co f mo) → va_S A s.heap H locs → ∀ ls : Array Slot, lv_has ls 2 [(1, .int (nI z)), (0, .ref o)] → W p l e rm_X0_rememberHeads s m args below meth cd H locs 0 0 Q (F0 m 2 ls []) := by
    intro fuel
    induction fuel with
    | zero => intros; omega
    | succ fuel ihL2 =>
      intro z f hz hf hfuel H locs hP hD hS ls hl
      refine lv_iload_n hx hb dX0_rememberHeads_2 rfl (lv_at hl 0 rfl) ?_
      refine lv_bipush (v := nI 81) hx hb dX0_rememberHeads_3 (by decide +kernel) ?_
      refine n_icmp_ge (x := z) (y := 81) (by omega) (by omega) (tgt := 25) hx hb dX0_rememberHeads_5 (by decide) (fun c5 => ?_) (fun c5 => ?_)
      · have hP := e_cong hP 3 (g := fun k => b2i (hd co k)) rfl (layB_end hf (by omega))
        have hD := va_D.set (e := .inl (E.2.2.1, 81, .inl (fun k => b2i (hd co k)))) hD (p := 3) rfl
        have hP : va_P E.1 vwCl (wCo E o a b d gr co (hd co) mo) H := hP
        have hD : va_D A (wCo E o a b d gr co (hd co) mo) := hD
        exact e_vret () hQ hx hb hr hlocks hP hD hS dX0_rememberHeads_25 (rfl) (Nat.le_of_ble_eq_true rfl) (Nat.le_of_ble_eq_true rfl) (trivial)
      · refine lv_aload_n hx hb dX0_rememberHeads_8 rfl (lv_at hl 1 rfl) ?_
        refine va_get (D := E.1) (ci := 0) (v := .ref d) (C := RX0) (T := TX0) (N := 4) hx hb hts hin0 hown hK.1 hP 0 rfl rfl 2 (by decide) lk18 (fun _ h9 => h9) rfl dX0_rememberHeads_9 ?_
        refine lv_iload_n hx hb dX0_rememberHeads_12 rfl (lv_at hl 0 rfl) ?_
        refine lv_aload_n hx hb dX0_rememberHeads_13 rfl (lv_at hl 1 rfl) ?_
        refine lv_iload_n hx hb dX0_rememberHeads_14 rfl (lv_at hl 0 rfl) ?_
        refine e_callV (As := [.int (nI z)]) (rest := [.int (nI z), .ref d]) ⟨hx, hb, hml, hown, hts⟩ hK hP hD hS hA hl.1 (c_X0_isHead l E _ o a b d gr co f mo z (by first | omega | assumption | rfl | (simp_all; done))) (cwV 1 hts gX0_rememberHeads_X0_isHead rfl rfl rfl (by decide +kernel) ⟨Nat.le_of_ble_eq_true rfl, Nat.le_of_ble_eq_true rfl⟩) [0, 1, 2, 3] [] rfl rfl rfl rfl (by decide) (q0 := 0) (ci := 0) rfl rfl rfl rfl (Nat.le_of_ble_eq_true rfl) dX0_rememberHeads_15 ⟨Nat.le_of_ble_eq_true rfl, Nat.le_of_ble_eq_true rfl⟩ (fun u_1 H locs hu_2 hsz1 hP hD hS => ?_)
        have hP : va_P E.1 vwCl (wCo E o a b d gr co f mo) H := hP.sub [0, 1, 2, 3] rfl
        have hD : va_D A (wCo E o a b d gr co f mo) := hD.sub [0, 1, 2, 3] (by decide) rfl
        refine W.eq (g2 := F0 m 18 ls [.int (b2i (hd co z)), .int (nI z), .ref d]) rfl ?_
        refine e_zast (x := hd co z) hK hP hD hS 3 rfl z (by omega) (by decide) hx hb dX0_rememberHeads_18 (fun H locs hP hD hS => ?_)
        have hP : va_P E.1 vwCl (wCo E o a b d gr co (updB f z (hd co z)) mo) H := hP
        have hD : va_D A (wCo E o a b d gr co (updB f z (hd co z)) mo) := hD
        refine lv_iinc (v := nI (z + 1)) (lv' := [(1, .int (nI (z + 1))), (0, .ref o)]) hx hb dX0_rememberHeads_19 hl (k := 0) rfl (nI_add z 1) (by decide) rfl (fun ls hl => ?_)
        refine lv_goto (tgt := 2) hx hb dX0_rememberHeads_22 (by decide) ?_
        exact ihL2 (z + 1) (updB f z (hd co z)) (by first | omega | assumption | rfl | (simp_all; done)) (layB_upd hf rfl) (by omega) _ _ hP hD hS _ (lv_sub hl [0, 1] rfl)
  exact L2 (81 - 0 + 1) 0 hb_ (by first | omega | assumption | rfl | (simp_all; done)) (layB_0) (Nat.lt_succ_self _) _ _ hP hD hS _ (lv_sub hl [0, 1] rfl)

abbrev rm_X0_headsBeside : Room := { frames := 1, cells := 0, slots := 0, locals := 22 }
set_option maxHeartbeats 4000000 in
set_option maxRecDepth 100000 in
theorem c_X0_headsBeside (l : Launch) (E : eT) (sz : Nat) (o : Nat) (a : Nat) (b : Nat) (d : Nat) (gr : Nat → Int32) (co : Nat → Int32) (hb_ : Nat → Bool) (mo : Int32) (j : Nat) (hj : j < 81) : cM l yX0_headsBeside wsX0_headsBeside rm_X0_headsBeside E sz [.ref o, .int (nI j)] (wCo E o a b d gr co hb_ mo) (fun u : Unit => some (.int (nI (hbs hb_ j)))) (fun u : Unit => True) (fun u : Unit => wCo E o a b d gr co hb_ mo) := by
  refine cM_intro (cc := cX0_headsBeside) (maxL := 5) (ret := (some .int)) (by decide +kernel) rfl (Nat.le_of_ble_eq_true rfl) ?_
  intro p e s m args below meth cd hx hb hr hml hown hlocks hts hnm hK hsz hP A hD hA Q hQ ls hl
  have hown : s.vm.findClass RX0 = some m.cls := hown
  have hin0 : ∀ w ∈ u_ws RX0 TX0 4, w ∈ wsX0_headsBeside := by decide +kernel
  have lk18 := hts (.fieldLink RX0 18 "ReefPilot$Coast" "headBefore" "[Z") (by decide +kernel)
  have hainiX4_neighbour := hts (.initialized RX4) (by decide +kernel)
  have hastX4_neighbour := hts (.static yX4_neighbour) (by decide +kernel)
  have hS : va_S A s.heap s.heap [] := va_S.rf
  have hl : lv_has ls 5 [(0, .ref o), (1, .int (nI j))] := hl
  refine lv_iconst (v := nI 0) hx hb dX0_headsBeside_0 (by decide +kernel) ?_
  refine lv_istore_n (lv' := [(2, .int (nI 0)), (0, .ref o), (1, .int (nI j))]) hx hb dX0_headsBeside_1 rfl hl (by decide) rfl (fun ls hl => ?_)
  refine lv_iconst (v := nI 0) hx hb dX0_headsBeside_2 (by decide +kernel) ?_
  refine lv_istore_n (lv' := [(3, .int (nI 0)), (2, .int (nI 0)), (0, .ref o), (1, .int (nI j))]) hx hb dX0_headsBeside_3 rfl hl (by decide) rfl (fun ls hl => ?_)
  have L4 : ∀ (fuel : Nat) (x : Nat) (z : Nat) (hz : z ≤ 4) (hx_ : x = fb_ct (hbq hb_ j) z) (hfuel : 4 - z < fuel) (H : Heap) (locs : List Loc), va_P E.1 vwCl (wCo E o a b d gr co hb_ mo) H → va_D A (wCo E o a b d gr co hb_ mo) → va_S A s.heap H locs → ∀ ls : Array Slot, lv_has ls 5 [(3, .int (nI z)), (2, .int (nI x)), (0, .ref o), (1, .int (nI j))] → W p l e rm_X0_headsBeside s m args below meth cd H locs 0 0 Q (F0 m 4 ls []) := by
    intro fuel
    induction fuel with
    | zero => intros; omega
    | succ fuel ihL4 =>
      intro x z hz hx_ hfuel H locs hP hD hS ls hl
      refine lv_iload_n hx hb dX0_headsBeside_4 rfl (lv_at hl 0 rfl) ?_
      have hxz := fb_ct_le (hbq hb_ j) z
      refine lv_iconst (v := nI 4) hx hb dX0_headsBeside_5 (by decide +kernel) ?_
      refine n_icmp_ge (x := z) (y := 4) (by omega) (by omega) (tgt := 41) hx hb dX0_headsBeside_6 (by decide) (fun c6 => ?_) (fun c6 => ?_)
      · refine lv_iload_n hx hb dX0_headsBeside_41 rfl (lv_at hl 1 rfl) ?_
        exact e_iret () hQ hx hb hr hlocks hP hD hS dX0_headsBeside_42 (rvi (by rw [hx_, show z = 4 by omega]; rfl)) (Nat.le_of_ble_eq_true rfl) (Nat.le_of_ble_eq_true rfl) (trivial)
      · refine lv_iload_n hx hb dX0_headsBeside_9 rfl (lv_at hl 3 rfl) ?_
        refine lv_iload_n hx hb dX0_headsBeside_10 rfl (lv_at hl 0 rfl) ?_
        refine e_callSN (As := [.int (nI j), .int (nI z)]) (rest := []) ⟨hx, hb, hml, hown, hts⟩ hK hP hD hS hA hl.1 (c_X4_neighbour l E _ j z (by first | omega | assumption | rfl | (simp_all; done)) (by first | omega | assumption | rfl | (simp_all; done))) ⟨va_cnB 2 hts gX0_headsBeside_X4_neighbour_n85 rfl rfl rfl hK.2.1 hainiX4_neighbour (by decide +kernel) ⟨Nat.le_of_ble_eq_true rfl, Nat.le_of_ble_eq_true rfl⟩, hastX4_neighbour, trivial⟩ [] [0, 1, 2, 3] rfl rfl rfl rfl (by decide) rfl rfl (Nat.le_of_ble_eq_true rfl) dX0_headsBeside_11 ⟨Nat.le_of_ble_eq_true rfl, Nat.le_of_ble_eq_true rfl⟩ (fun u_1 H locs hu_2 hsz1 hP hD hS => ?_)
        have hP : va_P E.1 vwCl (wCo E o a b d gr co hb_ mo) H := hP.sub [0, 1, 2, 3] rfl
        have hD : va_D A (wCo E o a b d gr co hb_ mo) := hD.sub [0, 1, 2, 3] (by decide) rfl
        refine W.eq (g2 := F0 m 14 ls [.int (oI (nb j z))]) rfl ?_
        refine lv_istore (lv' := [(4, .int (oI (nb j z))), (3, .int (nI z)), (2, .int (nI x)), (0, .ref o), (1, .int (nI j))]) hx hb dX0_headsBeside_14 hl (by decide) rfl (fun ls hl => ?_)
        refine lv_iload hx hb dX0_headsBeside_16 (lv_at hl 0 rfl) ?_
        refine lv_iconst (v := (-1)) hx hb dX0_headsBeside_18 (by decide +kernel) ?_
        refine o_icmp_eq (x := nb j z) (nb_ob hj) (tgt := 35) hx hb dX0_headsBeside_19 (by decide) (fun c19 => ?_) (fun q_3 c19 => ?_)
        · refine lv_iinc (v := nI (z + 1)) (lv' := [(3, .int (nI (z + 1))), (4, .int (oI (nb j z))), (2, .int (nI x)), (0, .ref o), (1, .int (nI j))]) hx hb dX0_headsBeside_35 hl (k := 1) rfl (nI_add z 1) (by decide) rfl (fun ls hl => ?_)
          refine lv_goto (tgt := 4) hx hb dX0_headsBeside_38 (by decide) ?_
          exact ihL4 x (z + 1) (by first | omega | assumption | rfl | (simp_all; done)) (by subst hx_; rw [fb_ct_succ]; first | (rw [hbq_none c19]; rfl) | (rw [hbq_some c19, c29]; rfl)) (by omega) _ _ hP hD hS _ (lv_sub hl [0, 2, 3, 4] rfl)
        · refine lv_aload_n hx hb dX0_headsBeside_22 rfl (lv_at hl 3 rfl) ?_
          refine va_get (D := E.1) (ci := 0) (v := .ref d) (C := RX0) (T := TX0) (N := 4) hx hb hts hin0 hown hK.1 hP 0 rfl rfl 2 (by decide) lk18 (fun _ h9 => h9) rfl dX0_headsBeside_23 ?_
          refine lv_iload hx hb dX0_headsBeside_26 (lv_at hl 0 rfl) ?_
          refine e_top (show oI (nb j z) = nI q_3 by rw [c19]; rfl) ?_
          have hq_ : q_3 < 81 := nb_lt hj c19
          refine e_zald hK hP 3 rfl q_3 (by omega) (by decide) hx hb dX0_headsBeside_28 ?_
          refine b_if_eq (x := hb_ q_3) (tgt := 35) hx hb dX0_headsBeside_29 (by decide) (fun c29 => ?_) (fun c29 => ?_)
          · refine lv_iinc (v := nI (z + 1)) (lv' := [(3, .int (nI (z + 1))), (4, .int (oI (nb j z))), (2, .int (nI x)), (0, .ref o), (1, .int (nI j))]) hx hb dX0_headsBeside_35 hl (k := 1) rfl (nI_add z 1) (by decide) rfl (fun ls hl => ?_)
            refine lv_goto (tgt := 4) hx hb dX0_headsBeside_38 (by decide) ?_
            exact ihL4 x (z + 1) (by first | omega | assumption | rfl | (simp_all; done)) (by subst hx_; rw [fb_ct_succ]; first | (rw [hbq_none c19]; rfl) | (rw [hbq_some c19, c29]; rfl)) (by omega) _ _ hP hD hS _ (lv_sub hl [0, 2, 3, 4] rfl)
          · refine lv_iinc (v := nI (x + 1)) (lv' := [(2, .int (nI (x + 1))), (4, .int (oI (nb j z))), (3, .int (nI z)), (0, .ref o), (1, .int (nI j))]) hx hb dX0_headsBeside_32 hl (k := 2) rfl (nI_add x 1) (by decide) rfl (fun ls hl => ?_)
            refine lv_iinc (v := nI (z + 1)) (lv' := [(3, .int (nI (z + 1))), (2, .int (nI (x + 1))), (4, .int (oI (nb j z))), (0, .ref o), (1, .int (nI j))]) hx hb dX0_headsBeside_35 hl (k := 2) rfl (nI_add z 1) (by decide) rfl (fun ls hl => ?_)
            refine lv_goto (tgt := 4) hx hb dX0_headsBeside_38 (by decide) ?_
            exact ihL4 (x + 1) (z + 1) (by first | omega | assumption | rfl | (simp_all; done)) (by subst hx_; rw [fb_ct_succ]; first | (rw [hbq_none c19]; rfl) | (rw [hbq_some c19, c29]; rfl)) (by omega) _ _ hP hD hS _ (lv_sub hl [0, 1, 3, 4] rfl)
  exact L4 (4 - 0 + 1) 0 0 (by first | omega | assumption | rfl | (simp_all; done)) (rfl) (Nat.lt_succ_self _) _ _ hP hD hS _ (lv_sub hl [0, 1, 2, 3] rfl)

abbrev rm_X0_grow : Room := { frames := 2, cells := 0, slots := 0, locals := 46 }
set_option maxHeartbeats 4000000 in
set_option maxRecDepth 100000 in
theorem c_X0_grow (l : Launch) (E : eT) (sz : Nat) (o : Nat) (a : Nat) (b : Nat) (d : Nat) (gr : Nat → Int32) (co : Nat → Int32) (hb_ : Nat → Bool) (mo : Int32) : cM l yX0_grow wsX0_grow rm_X0_grow E sz [.ref o] (wCo E o a b d gr co hb_ mo) (fun u : Unit => none) (fun u : Unit => True) (fun u : Unit => wCo E o a b d gr (grw gr co (hd co)) (hd co) mo) := by
  refine cM_intro (cc := cX0_grow) (maxL := 4) (ret := none) (by decide +kernel) rfl (Nat.le_of_ble_eq_true rfl) ?_
  intro p e s m args below meth cd hx hb hr hml hown hlocks hts hnm hK hsz hP A hD hA Q hQ ls hl
  have hown : s.vm.findClass RX0 = some m.cls := hown
  have hin0 : ∀ w ∈ u_ws RX0 TX0 4, w ∈ wsX0_grow := by decide +kernel
  have lk9 := hts (.fieldLink RX0 9 "ReefPilot$Coast" "ground" "[I") (by decide +kernel)
  have lk15 := hts (.fieldLink RX0 15 "ReefPilot$Coast" "coral" "[I") (by decide +kernel)
  have hamcmin := hts (.code Lib.Math.min.name Lib.Math.min.code 2 (some .int)) (by decide +kernel)
  have hamini := hts (.initialized "java/lang/Math") (by decide +kernel)
  have haml38 := hts (.methodLink RX0 38 Lib.Math.min.name) (by decide +kernel)
  have hamsmin := hts (.static Lib.Math.min.name) (by decide +kernel)
  have hS : va_S A s.heap s.heap [] := va_S.rf
  have hl : lv_has ls 4 [(0, .ref o)] := hl
  refine lv_aload_n hx hb dX0_grow_0 rfl (lv_at hl 0 rfl) ?_
  refine e_callV (As := []) (rest := []) ⟨hx, hb, hml, hown, hts⟩ hK hP hD hS hA hl.1 (c_X0_rememberHeads l E _ o a b d gr co hb_ mo) (cwV 0 hts gX0_grow_X0_rememberHeads rfl rfl rfl (by decide +kernel) ⟨Nat.le_of_ble_eq_true rfl, Nat.le_of_ble_eq_true rfl⟩) [0, 1, 2, 3] [] rfl rfl rfl rfl (by decide) (q0 := 0) (ci := 0) rfl rfl rfl rfl (Nat.le_of_ble_eq_true rfl) dX0_grow_1 ⟨Nat.le_of_ble_eq_true rfl, Nat.le_of_ble_eq_true rfl⟩ (fun u_1 H locs hu_2 hsz1 hP hD hS => ?_)
  have hP : va_P E.1 vwCl (wCo E o a b d gr co (hd co) mo) H := hP.sub [0, 1, 2, 3] rfl
  have hD : va_D A (wCo E o a b d gr co (hd co) mo) := hD.sub [0, 1, 2, 3] (by decide) rfl
  refine W.eq (g2 := F0 m 4 ls []) rfl ?_
  refine lv_iconst (v := nI 0) hx hb dX0_grow_4 (by decide +kernel) ?_
  refine lv_istore_n (lv' := [(1, .int (nI 0)), (0, .ref o)]) hx hb dX0_grow_5 rfl hl (by decide) rfl (fun ls hl => ?_)
  have L6 : ∀ (fuel : Nat) (z : Nat) (f : Nat → Int32) (hz : z ≤ 81) (hf : ∀ k : Nat, f k = if k < z then grw gr co (hd co) k else co k) (hfuel : 81 - z < fuel) (H : Heap) (locs : List Loc), va_P E.1 vwCl (wCo E o a b d gr f (hd co) mo) H → va_D A (wCo E o a b d gr f (hd co) mo) → va_S A s.heap H locs → ∀ ls : Array Slot, lv_has ls 4 [(1, .int (nI z)), (0, .ref o)] → W p l e rm_X0_grow s m args below meth cd H locs 0 0 Q (F0 m 6 ls []) := by
    intro fuel
    induction fuel with
    | zero => intros; omega
    | succ fuel ihL6 =>
      intro z f hz hf hfuel H locs hP hD hS ls hl
      have hfz := lay_at hf
      have hdz : dep gr f z = dep gr co z := dep_cong rfl hfz
      refine lv_iload_n hx hb dX0_grow_6 rfl (lv_at hl 0 rfl) ?_
      refine lv_bipush (v := nI 81) hx hb dX0_grow_7 (by decide +kernel) ?_
      refine n_icmp_ge (x := z) (y := 81) (by omega) (by omega) (tgt := 84) hx hb dX0_grow_9 (by decide) (fun c9 => ?_) (fun c9 => ?_)
      · have hP := e_cong hP 2 (g := grw gr co (hd co)) rfl (lay_end hf (by omega))
        have hD := va_D.set (e := .inl (E.2.1, 81, .inl (grw gr co (hd co)))) hD (p := 2) rfl
        have hP : va_P E.1 vwCl (wCo E o a b d gr (grw gr co (hd co)) (hd co) mo) H := hP
        have hD : va_D A (wCo E o a b d gr (grw gr co (hd co)) (hd co) mo) := hD
        exact e_vret () hQ hx hb hr hlocks hP hD hS dX0_grow_84 (rfl) (Nat.le_of_ble_eq_true rfl) (Nat.le_of_ble_eq_true rfl) (trivial)
      · refine lv_aload_n hx hb dX0_grow_12 rfl (lv_at hl 1 rfl) ?_
        refine lv_iload_n hx hb dX0_grow_13 rfl (lv_at hl 0 rfl) ?_
        refine e_callV (As := [.int (nI z)]) (rest := []) ⟨hx, hb, hml, hown, hts⟩ hK hP hD hS hA hl.1 (c_X0_depthOf l E _ o a b d gr f (hd co) mo z (by first | omega | assumption | rfl | (simp_all; done))) (cwV 1 hts gX0_grow_X0_depthOf rfl rfl rfl (by decide +kernel) ⟨Nat.le_of_ble_eq_true rfl, Nat.le_of_ble_eq_true rfl⟩) [0, 1, 2, 3] [] rfl rfl rfl rfl (by decide) (q0 := 0) (ci := 0) rfl rfl rfl rfl (Nat.le_of_ble_eq_true rfl) dX0_grow_14 ⟨Nat.le_of_ble_eq_true rfl, Nat.le_of_ble_eq_true rfl⟩ (fun u_3 H locs hu_4 hsz1 hP hD hS => ?_)
        have hP : va_P E.1 vwCl (wCo E o a b d gr f (hd co) mo) H := hP.sub [0, 1, 2, 3] rfl
        have hD : va_D A (wCo E o a b d gr f (hd co) mo) := hD.sub [0, 1, 2, 3] (by decide) rfl
        refine W.eq (g2 := F0 m 17 ls [.int (dep gr f z)]) rfl ?_
        refine lv_istore_n (lv' := [(2, .int (dep gr f z)), (1, .int (nI z)), (0, .ref o)]) hx hb dX0_grow_17 rfl hl (by decide) rfl (fun ls hl => ?_)
        refine lv_aload_n hx hb dX0_grow_18 rfl (lv_at hl 2 rfl) ?_
        refine va_get (D := E.1) (ci := 0) (v := .ref b) (C := RX0) (T := TX0) (N := 4) hx hb hts hin0 hown hK.1 hP 0 rfl rfl 1 (by decide) lk15 (fun _ h9 => h9) rfl dX0_grow_19 ?_
        refine lv_iload_n hx hb dX0_grow_22 rfl (lv_at hl 1 rfl) ?_
        refine e_iald hK hP 2 rfl z (by omega) (by decide) hx hb dX0_grow_23 ?_
        refine lv_if_le (tgt := 78) hx hb dX0_grow_24 (by decide) (fun c24 => ?_) (fun c24 => ?_)
        · refine lv_iinc (v := nI (z + 1)) (lv' := [(1, .int (nI (z + 1))), (2, .int (dep gr f z)), (0, .ref o)]) hx hb dX0_grow_78 hl (k := 1) rfl (nI_add z 1) (by decide) rfl (fun ls hl => ?_)
          refine lv_goto (tgt := 6) hx hb dX0_grow_81 (by decide) ?_
          exact ihL6 (z + 1) f (by first | omega | assumption | rfl | (simp_all; done)) (by first | exact lay_upd hf (by rw [hfz]; exact grw_yes (by rw [← hfz]; exact c24) (by rw [← hdz]; exact c29) (by rw [← hdz]; exact c35) (by first | rw [if_neg (show ¬ 2 ≤ hbs (hd co) z by omega)] | rw [if_pos (show 2 ≤ hbs (hd co) z by omega)])) | exact lay_same hf (grw_no (Or.inl (by rw [← hfz]; exact c24))) | exact lay_same hf (grw_no (Or.inr (Or.inl (by rw [← hdz]; exact c29)))) | exact lay_same hf (grw_no (Or.inr (Or.inr (by rw [← hdz]; exact c35))))) (by omega) _ _ hP hD hS _ (lv_sub hl [0, 2] rfl)
        · refine lv_iload_n hx hb dX0_grow_27 rfl (lv_at hl 0 rfl) ?_
          refine lv_iconst (v := nI 2) hx hb dX0_grow_28 (by decide +kernel) ?_
          refine lv_icmp_lt (tgt := 78) hx hb dX0_grow_29 (by decide) (fun c29 => ?_) (fun c29 => ?_)
          · refine lv_iinc (v := nI (z + 1)) (lv' := [(1, .int (nI (z + 1))), (2, .int (dep gr f z)), (0, .ref o)]) hx hb dX0_grow_78 hl (k := 1) rfl (nI_add z 1) (by decide) rfl (fun ls hl => ?_)
            refine lv_goto (tgt := 6) hx hb dX0_grow_81 (by decide) ?_
            exact ihL6 (z + 1) f (by first | omega | assumption | rfl | (simp_all; done)) (by first | exact lay_upd hf (by rw [hfz]; exact grw_yes (by rw [← hfz]; exact c24) (by rw [← hdz]; exact c29) (by rw [← hdz]; exact c35) (by first | rw [if_neg (show ¬ 2 ≤ hbs (hd co) z by omega)] | rw [if_pos (show 2 ≤ hbs (hd co) z by omega)])) | exact lay_same hf (grw_no (Or.inl (by rw [← hfz]; exact c24))) | exact lay_same hf (grw_no (Or.inr (Or.inl (by rw [← hdz]; exact c29)))) | exact lay_same hf (grw_no (Or.inr (Or.inr (by rw [← hdz]; exact c35))))) (by omega) _ _ hP hD hS _ (lv_sub hl [0, 2] rfl)
          · refine lv_iload_n hx hb dX0_grow_32 rfl (lv_at hl 0 rfl) ?_
            refine lv_bipush (v := nI 15) hx hb dX0_grow_33 (by decide +kernel) ?_
            refine lv_icmp_gt (tgt := 78) hx hb dX0_grow_35 (by decide) (fun c35 => ?_) (fun c35 => ?_)
            · refine lv_iinc (v := nI (z + 1)) (lv' := [(1, .int (nI (z + 1))), (2, .int (dep gr f z)), (0, .ref o)]) hx hb dX0_grow_78 hl (k := 1) rfl (nI_add z 1) (by decide) rfl (fun ls hl => ?_)
              refine lv_goto (tgt := 6) hx hb dX0_grow_81 (by decide) ?_
              exact ihL6 (z + 1) f (by first | omega | assumption | rfl | (simp_all; done)) (by first | exact lay_upd hf (by rw [hfz]; exact grw_yes (by rw [← hfz]; exact c24) (by rw [← hdz]; exact c29) (by rw [← hdz]; exact c35) (by first | rw [if_neg (show ¬ 2 ≤ hbs (hd co) z by omega)] | rw [if_pos (show 2 ≤ hbs (hd co) z by omega)])) | exact lay_same hf (grw_no (Or.inl (by rw [← hfz]; exact c24))) | exact lay_same hf (grw_no (Or.inr (Or.inl (by rw [← hdz]; exact c29)))) | exact lay_same hf (grw_no (Or.inr (Or.inr (by rw [← hdz]; exact c35))))) (by omega) _ _ hP hD hS _ (lv_sub hl [0, 2] rfl)
            · refine lv_aload_n hx hb dX0_grow_38 rfl (lv_at hl 2 rfl) ?_
              refine lv_iload_n hx hb dX0_grow_39 rfl (lv_at hl 1 rfl) ?_
              refine e_callV (As := [.int (nI z)]) (rest := []) ⟨hx, hb, hml, hown, hts⟩ hK hP hD hS hA hl.1 (c_X0_headsBeside l E _ o a b d gr f (hd co) mo z (by first | omega | assumption | rfl | (simp_all; done))) (cwV 1 hts gX0_grow_X0_headsBeside rfl rfl rfl (by decide +kernel) ⟨Nat.le_of_ble_eq_true rfl, Nat.le_of_ble_eq_true rfl⟩) [0, 1, 2, 3] [] rfl rfl rfl rfl (by decide) (q0 := 0) (ci := 0) rfl rfl rfl rfl (Nat.le_of_ble_eq_true rfl) dX0_grow_40 ⟨Nat.le_of_ble_eq_true rfl, Nat.le_of_ble_eq_true rfl⟩ (fun u_5 H locs hu_6 hsz1 hP hD hS => ?_)
              have hP : va_P E.1 vwCl (wCo E o a b d gr f (hd co) mo) H := hP.sub [0, 1, 2, 3] rfl
              have hD : va_D A (wCo E o a b d gr f (hd co) mo) := hD.sub [0, 1, 2, 3] (by decide) rfl
              refine W.eq (g2 := F0 m 43 ls [.int (nI (hbs (hd co) z))]) rfl ?_
              have hhb := hbs_le (hd co) z
              refine lv_iconst (v := nI 2) hx hb dX0_grow_43 (by decide +kernel) ?_
              refine n_icmp_lt (x := hbs (hd co) z) (y := 2) (by omega) (by omega) (tgt := 51) hx hb dX0_grow_44 (by decide) (fun c44 => ?_) (fun c44 => ?_)
              · refine lv_iconst (v := nI 1) hx hb dX0_grow_51 (by decide +kernel) ?_
                refine lv_istore_n (lv' := [(3, .int (nI 1)), (2, .int (dep gr f z)), (1, .int (nI z)), (0, .ref o)]) hx hb dX0_grow_52 rfl hl (by decide) rfl (fun ls hl => ?_)
                refine lv_aload_n hx hb dX0_grow_53 rfl (lv_at hl 3 rfl) ?_
                refine va_get (D := E.1) (ci := 0) (v := .ref b) (C := RX0) (T := TX0) (N := 4) hx hb hts hin0 hown hK.1 hP 0 rfl rfl 1 (by decide) lk15 (fun _ h9 => h9) rfl dX0_grow_54 ?_
                refine lv_iload_n hx hb dX0_grow_57 rfl (lv_at hl 2 rfl) ?_
                refine lv_aload_n hx hb dX0_grow_58 rfl (lv_at hl 3 rfl) ?_
                refine va_get (D := E.1) (ci := 0) (v := .ref b) (C := RX0) (T := TX0) (N := 4) hx hb hts hin0 hown hK.1 hP 0 rfl rfl 1 (by decide) lk15 (fun _ h9 => h9) rfl dX0_grow_59 ?_
                refine lv_iload_n hx hb dX0_grow_62 rfl (lv_at hl 2 rfl) ?_
                refine e_iald hK hP 2 rfl z (by omega) (by decide) hx hb dX0_grow_63 ?_
                refine lv_iload_n hx hb dX0_grow_64 rfl (lv_at hl 0 rfl) ?_
                refine lv_iadd hx hb dX0_grow_65 ?_
                refine lv_aload_n hx hb dX0_grow_66 rfl (lv_at hl 3 rfl) ?_
                refine va_get (D := E.1) (ci := 0) (v := .ref a) (C := RX0) (T := TX0) (N := 4) hx hb hts hin0 hown hK.1 hP 0 rfl rfl 0 (by decide) lk9 (fun _ h9 => h9) rfl dX0_grow_67 ?_
                refine lv_iload_n hx hb dX0_grow_70 rfl (lv_at hl 2 rfl) ?_
                refine e_iald hK hP 1 rfl z (by omega) (by decide) hx hb dX0_grow_71 ?_
                refine lv_iconst (v := nI 1) hx hb dX0_grow_72 (by decide +kernel) ?_
                refine lv_isub hx hb dX0_grow_73 ?_
                refine va_mmin hx hb (by rw [hml]; exact hl.1.symm) hown haml38 hamsmin hamini hamcmin (Nat.le_of_ble_eq_true rfl) (Nat.le_of_ble_eq_true rfl) (Nat.le_of_ble_eq_true rfl) (Nat.le_of_ble_eq_true rfl) dX0_grow_74 ?_
                refine e_top (y := iMin ((f z) + (nI 1)) ((gr z) - (nI 1))) rfl ?_
                refine e_iast hK hP hD hS 2 rfl z (by omega) (by decide) hx hb dX0_grow_77 (fun H locs hP hD hS => ?_)
                have hP : va_P E.1 vwCl (wCo E o a b d gr (upd f z (iMin ((f z) + (nI 1)) ((gr z) - (nI 1)))) (hd co) mo) H := hP
                have hD : va_D A (wCo E o a b d gr (upd f z (iMin ((f z) + (nI 1)) ((gr z) - (nI 1)))) (hd co) mo) := hD
                refine lv_iinc (v := nI (z + 1)) (lv' := [(1, .int (nI (z + 1))), (3, .int (nI 1)), (2, .int (dep gr f z)), (0, .ref o)]) hx hb dX0_grow_78 hl (k := 2) rfl (nI_add z 1) (by decide) rfl (fun ls hl => ?_)
                refine lv_goto (tgt := 6) hx hb dX0_grow_81 (by decide) ?_
                exact ihL6 (z + 1) (upd f z (iMin ((f z) + (nI 1)) ((gr z) - (nI 1)))) (by first | omega | assumption | rfl | (simp_all; done)) (by first | exact lay_upd hf (by rw [hfz]; exact grw_yes (by rw [← hfz]; exact c24) (by rw [← hdz]; exact c29) (by rw [← hdz]; exact c35) (by first | rw [if_neg (show ¬ 2 ≤ hbs (hd co) z by omega)] | rw [if_pos (show 2 ≤ hbs (hd co) z by omega)])) | exact lay_same hf (grw_no (Or.inl (by rw [← hfz]; exact c24))) | exact lay_same hf (grw_no (Or.inr (Or.inl (by rw [← hdz]; exact c29)))) | exact lay_same hf (grw_no (Or.inr (Or.inr (by rw [← hdz]; exact c35))))) (by omega) _ _ hP hD hS _ (lv_sub hl [0, 3] rfl)
              · refine lv_iconst (v := nI 2) hx hb dX0_grow_47 (by decide +kernel) ?_
                refine lv_goto (tgt := 52) hx hb dX0_grow_48 (by decide) ?_
                refine lv_istore_n (lv' := [(3, .int (nI 2)), (2, .int (dep gr f z)), (1, .int (nI z)), (0, .ref o)]) hx hb dX0_grow_52 rfl hl (by decide) rfl (fun ls hl => ?_)
                refine lv_aload_n hx hb dX0_grow_53 rfl (lv_at hl 3 rfl) ?_
                refine va_get (D := E.1) (ci := 0) (v := .ref b) (C := RX0) (T := TX0) (N := 4) hx hb hts hin0 hown hK.1 hP 0 rfl rfl 1 (by decide) lk15 (fun _ h9 => h9) rfl dX0_grow_54 ?_
                refine lv_iload_n hx hb dX0_grow_57 rfl (lv_at hl 2 rfl) ?_
                refine lv_aload_n hx hb dX0_grow_58 rfl (lv_at hl 3 rfl) ?_
                refine va_get (D := E.1) (ci := 0) (v := .ref b) (C := RX0) (T := TX0) (N := 4) hx hb hts hin0 hown hK.1 hP 0 rfl rfl 1 (by decide) lk15 (fun _ h9 => h9) rfl dX0_grow_59 ?_
                refine lv_iload_n hx hb dX0_grow_62 rfl (lv_at hl 2 rfl) ?_
                refine e_iald hK hP 2 rfl z (by omega) (by decide) hx hb dX0_grow_63 ?_
                refine lv_iload_n hx hb dX0_grow_64 rfl (lv_at hl 0 rfl) ?_
                refine lv_iadd hx hb dX0_grow_65 ?_
                refine lv_aload_n hx hb dX0_grow_66 rfl (lv_at hl 3 rfl) ?_
                refine va_get (D := E.1) (ci := 0) (v := .ref a) (C := RX0) (T := TX0) (N := 4) hx hb hts hin0 hown hK.1 hP 0 rfl rfl 0 (by decide) lk9 (fun _ h9 => h9) rfl dX0_grow_67 ?_
                refine lv_iload_n hx hb dX0_grow_70 rfl (lv_at hl 2 rfl) ?_
                refine e_iald hK hP 1 rfl z (by omega) (by decide) hx hb dX0_grow_71 ?_
                refine lv_iconst (v := nI 1) hx hb dX0_grow_72 (by decide +kernel) ?_
                refine lv_isub hx hb dX0_grow_73 ?_
                refine va_mmin hx hb (by rw [hml]; exact hl.1.symm) hown haml38 hamsmin hamini hamcmin (Nat.le_of_ble_eq_true rfl) (Nat.le_of_ble_eq_true rfl) (Nat.le_of_ble_eq_true rfl) (Nat.le_of_ble_eq_true rfl) dX0_grow_74 ?_
                refine e_top (y := iMin ((f z) + (nI 2)) ((gr z) - (nI 1))) rfl ?_
                refine e_iast hK hP hD hS 2 rfl z (by omega) (by decide) hx hb dX0_grow_77 (fun H locs hP hD hS => ?_)
                have hP : va_P E.1 vwCl (wCo E o a b d gr (upd f z (iMin ((f z) + (nI 2)) ((gr z) - (nI 1)))) (hd co) mo) H := hP
                have hD : va_D A (wCo E o a b d gr (upd f z (iMin ((f z) + (nI 2)) ((gr z) - (nI 1)))) (hd co) mo) := hD
                refine lv_iinc (v := nI (z + 1)) (lv' := [(1, .int (nI (z + 1))), (3, .int (nI 2)), (2, .int (dep gr f z)), (0, .ref o)]) hx hb dX0_grow_78 hl (k := 2) rfl (nI_add z 1) (by decide) rfl (fun ls hl => ?_)
                refine lv_goto (tgt := 6) hx hb dX0_grow_81 (by decide) ?_
                exact ihL6 (z + 1) (upd f z (iMin ((f z) + (nI 2)) ((gr z) - (nI 1)))) (by first | omega | assumption | rfl | (simp_all; done)) (by first | exact lay_upd hf (by rw [hfz]; exact grw_yes (by rw [← hfz]; exact c24) (by rw [← hdz]; exact c29) (by rw [← hdz]; exact c35) (by first | rw [if_neg (show ¬ 2 ≤ hbs (hd co) z by omega)] | rw [if_pos (show 2 ≤ hbs (hd co) z by omega)])) | exact lay_same hf (grw_no (Or.inl (by rw [← hfz]; exact c24))) | exact lay_same hf (grw_no (Or.inr (Or.inl (by rw [← hdz]; exact c29)))) | exact lay_same hf (grw_no (Or.inr (Or.inr (by rw [← hdz]; exact c35))))) (by omega) _ _ hP hD hS _ (lv_sub hl [0, 3] rfl)
  exact L6 (81 - 0 + 1) 0 co (by first | omega | assumption | rfl | (simp_all; done)) (lay_0) (Nat.lt_succ_self _) _ _ hP hD hS _ (lv_sub hl [0, 1] rfl)

abbrev rm_X0_seed : Room := { frames := 2, cells := 0, slots := 0, locals := 46 }
set_option maxHeartbeats 4000000 in
set_option maxRecDepth 100000 in
theorem c_X0_seed (l : Launch) (E : eT) (sz : Nat) (o : Nat) (a : Nat) (b : Nat) (d : Nat) (gr : Nat → Int32) (co : Nat → Int32) (hb_ : Nat → Bool) (mo : Int32) : cM l yX0_seed wsX0_seed rm_X0_seed E sz [.ref o] (wCo E o a b d gr co hb_ mo) (fun u : Unit => none) (fun u : Unit => True) (fun u : Unit => wCo E o a b d gr (seeded gr co) (hd co) mo) := by
  refine cM_intro (cc := cX0_seed) (maxL := 3) (ret := none) (by decide +kernel) rfl (Nat.le_of_ble_eq_true rfl) ?_
  intro p e s m args below meth cd hx hb hr hml hown hlocks hts hnm hK hsz hP A hD hA Q hQ ls hl
  have hown : s.vm.findClass RX0 = some m.cls := hown
  have hin0 : ∀ w ∈ u_ws RX0 TX0 4, w ∈ wsX0_seed := by decide +kernel
  have lk9 := hts (.fieldLink RX0 9 "ReefPilot$Coast" "ground" "[I") (by decide +kernel)
  have lk15 := hts (.fieldLink RX0 15 "ReefPilot$Coast" "coral" "[I") (by decide +kernel)
  have hS : va_S A s.heap s.heap [] := va_S.rf
  have hl : lv_has ls 3 [(0, .ref o)] := hl
  refine lv_aload_n hx hb dX0_seed_0 rfl (lv_at hl 0 rfl) ?_
  refine e_callV (As := []) (rest := []) ⟨hx, hb, hml, hown, hts⟩ hK hP hD hS hA hl.1 (c_X0_rememberHeads l E _ o a b d gr co hb_ mo) (cwV 0 hts gX0_seed_X0_rememberHeads rfl rfl rfl (by decide +kernel) ⟨Nat.le_of_ble_eq_true rfl, Nat.le_of_ble_eq_true rfl⟩) [0, 1, 2, 3] [] rfl rfl rfl rfl (by decide) (q0 := 0) (ci := 0) rfl rfl rfl rfl (Nat.le_of_ble_eq_true rfl) dX0_seed_1 ⟨Nat.le_of_ble_eq_true rfl, Nat.le_of_ble_eq_true rfl⟩ (fun u_1 H locs hu_2 hsz1 hP hD hS => ?_)
  have hP : va_P E.1 vwCl (wCo E o a b d gr co (hd co) mo) H := hP.sub [0, 1, 2, 3] rfl
  have hD : va_D A (wCo E o a b d gr co (hd co) mo) := hD.sub [0, 1, 2, 3] (by decide) rfl
  refine W.eq (g2 := F0 m 4 ls []) rfl ?_
  refine lv_iconst (v := nI 0) hx hb dX0_seed_4 (by decide +kernel) ?_
  refine lv_istore_n (lv' := [(1, .int (nI 0)), (0, .ref o)]) hx hb dX0_seed_5 rfl hl (by decide) rfl (fun ls hl => ?_)
  have L6 : ∀ (fuel : Nat) (z : Nat) (f : Nat → Int32) (hz : z ≤ 81) (hf : ∀ k : Nat, f k = if k < z then sdd gr co (hd co) k else co k) (hfuel : 81 - z < fuel) (H : Heap) (locs : List Loc), va_P E.1 vwCl (wCo E o a b d gr f (hd co) mo) H → va_D A (wCo E o a b d gr f (hd co) mo) → va_S A s.heap H locs → ∀ ls : Array Slot, lv_has ls 3 [(1, .int (nI z)), (0, .ref o)] → W p l e rm_X0_seed s m args below meth cd H locs 0 0 Q (F0 m 6 ls []) := by
    intro fuel
    induction fuel with
    | zero => intros; omega
    | succ fuel ihL6 =>
      intro z f hz hf hfuel H locs hP hD hS ls hl
      have hfz := lay_at hf
      have hhb := hbs_le (hd co) z
      refine lv_iload_n hx hb dX0_seed_6 rfl (lv_at hl 0 rfl) ?_
      refine lv_bipush (v := nI 81) hx hb dX0_seed_7 (by decide +kernel) ?_
      refine n_icmp_ge (x := z) (y := 81) (by omega) (by omega) (tgt := 73) hx hb dX0_seed_9 (by decide) (fun c9 => ?_) (fun c9 => ?_)
      · have hP := e_cong hP 2 (g := seeded gr co) rfl (lay_end hf (by omega))
        have hD := va_D.set (e := .inl (E.2.1, 81, .inl (seeded gr co))) hD (p := 2) rfl
        have hP : va_P E.1 vwCl (wCo E o a b d gr (seeded gr co) (hd co) mo) H := hP
        have hD : va_D A (wCo E o a b d gr (seeded gr co) (hd co) mo) := hD
        exact e_vret () hQ hx hb hr hlocks hP hD hS dX0_seed_73 (rfl) (Nat.le_of_ble_eq_true rfl) (Nat.le_of_ble_eq_true rfl) (trivial)
      · refine lv_aload_n hx hb dX0_seed_12 rfl (lv_at hl 1 rfl) ?_
        refine va_get (D := E.1) (ci := 0) (v := .ref b) (C := RX0) (T := TX0) (N := 4) hx hb hts hin0 hown hK.1 hP 0 rfl rfl 1 (by decide) lk15 (fun _ h9 => h9) rfl dX0_seed_13 ?_
        refine lv_iload_n hx hb dX0_seed_16 rfl (lv_at hl 0 rfl) ?_
        refine e_iald hK hP 2 rfl z (by omega) (by decide) hx hb dX0_seed_17 ?_
        refine lv_if_ne (tgt := 46) hx hb dX0_seed_18 (by decide) (fun c18 => ?_) (fun c18 => ?_)
        · refine lv_iconst (v := nI 0) hx hb dX0_seed_46 (by decide +kernel) ?_
          refine lv_istore_n (lv' := [(2, .int (nI 0)), (1, .int (nI z)), (0, .ref o)]) hx hb dX0_seed_47 rfl hl (by decide) rfl (fun ls hl => ?_)
          refine lv_iload_n hx hb dX0_seed_48 rfl (lv_at hl 0 rfl) ?_
          refine n_if_eq (x := 0) (by omega) (tgt := 67) hx hb dX0_seed_49 (by decide) (fun c49 => ?_) (fun c49 => by omega)
          refine lv_iinc (v := nI (z + 1)) (lv' := [(1, .int (nI (z + 1))), (2, .int (nI 0)), (0, .ref o)]) hx hb dX0_seed_67 hl (k := 1) rfl (nI_add z 1) (by decide) rfl (fun ls hl => ?_)
          refine lv_goto (tgt := 6) hx hb dX0_seed_70 (by decide) ?_
          exact ihL6 (z + 1) f (by first | omega | assumption | rfl | (simp_all; done)) (by first | exact lay_upd hf (sdd_yes (by rw [← hfz]; exact c18) c28 c39 c57) | exact lay_same hf (sdd_no (Or.inl (by rw [← hfz]; exact c18))) | exact lay_same hf (sdd_no (Or.inr (Or.inl c28))) | exact lay_same hf (sdd_no (Or.inr (Or.inr (Or.inl c39)))) | exact lay_same hf (sdd_no (Or.inr (Or.inr (Or.inr c57))))) (by omega) _ _ hP hD hS _ (lv_sub hl [0, 2] rfl)
        · refine lv_aload_n hx hb dX0_seed_21 rfl (lv_at hl 1 rfl) ?_
          refine va_get (D := E.1) (ci := 0) (v := .ref a) (C := RX0) (T := TX0) (N := 4) hx hb hts hin0 hown hK.1 hP 0 rfl rfl 0 (by decide) lk9 (fun _ h9 => h9) rfl dX0_seed_22 ?_
          refine lv_iload_n hx hb dX0_seed_25 rfl (lv_at hl 0 rfl) ?_
          refine e_iald hK hP 1 rfl z (by omega) (by decide) hx hb dX0_seed_26 ?_
          refine lv_iconst (v := nI 3) hx hb dX0_seed_27 (by decide +kernel) ?_
          refine lv_icmp_lt (tgt := 46) hx hb dX0_seed_28 (by decide) (fun c28 => ?_) (fun c28 => ?_)
          · refine lv_iconst (v := nI 0) hx hb dX0_seed_46 (by decide +kernel) ?_
            refine lv_istore_n (lv' := [(2, .int (nI 0)), (1, .int (nI z)), (0, .ref o)]) hx hb dX0_seed_47 rfl hl (by decide) rfl (fun ls hl => ?_)
            refine lv_iload_n hx hb dX0_seed_48 rfl (lv_at hl 0 rfl) ?_
            refine n_if_eq (x := 0) (by omega) (tgt := 67) hx hb dX0_seed_49 (by decide) (fun c49 => ?_) (fun c49 => by omega)
            refine lv_iinc (v := nI (z + 1)) (lv' := [(1, .int (nI (z + 1))), (2, .int (nI 0)), (0, .ref o)]) hx hb dX0_seed_67 hl (k := 1) rfl (nI_add z 1) (by decide) rfl (fun ls hl => ?_)
            refine lv_goto (tgt := 6) hx hb dX0_seed_70 (by decide) ?_
            exact ihL6 (z + 1) f (by first | omega | assumption | rfl | (simp_all; done)) (by first | exact lay_upd hf (sdd_yes (by rw [← hfz]; exact c18) c28 c39 c57) | exact lay_same hf (sdd_no (Or.inl (by rw [← hfz]; exact c18))) | exact lay_same hf (sdd_no (Or.inr (Or.inl c28))) | exact lay_same hf (sdd_no (Or.inr (Or.inr (Or.inl c39)))) | exact lay_same hf (sdd_no (Or.inr (Or.inr (Or.inr c57))))) (by omega) _ _ hP hD hS _ (lv_sub hl [0, 2] rfl)
          · refine lv_aload_n hx hb dX0_seed_31 rfl (lv_at hl 1 rfl) ?_
            refine va_get (D := E.1) (ci := 0) (v := .ref a) (C := RX0) (T := TX0) (N := 4) hx hb hts hin0 hown hK.1 hP 0 rfl rfl 0 (by decide) lk9 (fun _ h9 => h9) rfl dX0_seed_32 ?_
            refine lv_iload_n hx hb dX0_seed_35 rfl (lv_at hl 0 rfl) ?_
            refine e_iald hK hP 1 rfl z (by omega) (by decide) hx hb dX0_seed_36 ?_
            refine lv_bipush (v := nI 15) hx hb dX0_seed_37 (by decide +kernel) ?_
            refine lv_icmp_gt (tgt := 46) hx hb dX0_seed_39 (by decide) (fun c39 => ?_) (fun c39 => ?_)
            · refine lv_iconst (v := nI 0) hx hb dX0_seed_46 (by decide +kernel) ?_
              refine lv_istore_n (lv' := [(2, .int (nI 0)), (1, .int (nI z)), (0, .ref o)]) hx hb dX0_seed_47 rfl hl (by decide) rfl (fun ls hl => ?_)
              refine lv_iload_n hx hb dX0_seed_48 rfl (lv_at hl 0 rfl) ?_
              refine n_if_eq (x := 0) (by omega) (tgt := 67) hx hb dX0_seed_49 (by decide) (fun c49 => ?_) (fun c49 => by omega)
              refine lv_iinc (v := nI (z + 1)) (lv' := [(1, .int (nI (z + 1))), (2, .int (nI 0)), (0, .ref o)]) hx hb dX0_seed_67 hl (k := 1) rfl (nI_add z 1) (by decide) rfl (fun ls hl => ?_)
              refine lv_goto (tgt := 6) hx hb dX0_seed_70 (by decide) ?_
              exact ihL6 (z + 1) f (by first | omega | assumption | rfl | (simp_all; done)) (by first | exact lay_upd hf (sdd_yes (by rw [← hfz]; exact c18) c28 c39 c57) | exact lay_same hf (sdd_no (Or.inl (by rw [← hfz]; exact c18))) | exact lay_same hf (sdd_no (Or.inr (Or.inl c28))) | exact lay_same hf (sdd_no (Or.inr (Or.inr (Or.inl c39)))) | exact lay_same hf (sdd_no (Or.inr (Or.inr (Or.inr c57))))) (by omega) _ _ hP hD hS _ (lv_sub hl [0, 2] rfl)
            · refine lv_iconst (v := nI 1) hx hb dX0_seed_42 (by decide +kernel) ?_
              refine lv_goto (tgt := 47) hx hb dX0_seed_43 (by decide) ?_
              refine lv_istore_n (lv' := [(2, .int (nI 1)), (1, .int (nI z)), (0, .ref o)]) hx hb dX0_seed_47 rfl hl (by decide) rfl (fun ls hl => ?_)
              refine lv_iload_n hx hb dX0_seed_48 rfl (lv_at hl 0 rfl) ?_
              refine n_if_eq (x := 1) (by omega) (tgt := 67) hx hb dX0_seed_49 (by decide) (fun c49 => by omega) (fun c49 => ?_)
              refine lv_aload_n hx hb dX0_seed_52 rfl (lv_at hl 2 rfl) ?_
              refine lv_iload_n hx hb dX0_seed_53 rfl (lv_at hl 1 rfl) ?_
              refine e_callV (As := [.int (nI z)]) (rest := []) ⟨hx, hb, hml, hown, hts⟩ hK hP hD hS hA hl.1 (c_X0_headsBeside l E _ o a b d gr f (hd co) mo z (by first | omega | assumption | rfl | (simp_all; done))) (cwV 1 hts gX0_seed_X0_headsBeside rfl rfl rfl (by decide +kernel) ⟨Nat.le_of_ble_eq_true rfl, Nat.le_of_ble_eq_true rfl⟩) [0, 1, 2, 3] [] rfl rfl rfl rfl (by decide) (q0 := 0) (ci := 0) rfl rfl rfl rfl (Nat.le_of_ble_eq_true rfl) dX0_seed_54 ⟨Nat.le_of_ble_eq_true rfl, Nat.le_of_ble_eq_true rfl⟩ (fun u_3 H locs hu_4 hsz1 hP hD hS => ?_)
              have hP : va_P E.1 vwCl (wCo E o a b d gr f (hd co) mo) H := hP.sub [0, 1, 2, 3] rfl
              have hD : va_D A (wCo E o a b d gr f (hd co) mo) := hD.sub [0, 1, 2, 3] (by decide) rfl
              refine W.eq (g2 := F0 m 57 ls [.int (nI (hbs (hd co) z))]) rfl ?_
              refine n_if_le (x := hbs (hd co) z) (by omega) (tgt := 67) hx hb dX0_seed_57 (by decide) (fun c57 => ?_) (fun c57 => ?_)
              · refine lv_iinc (v := nI (z + 1)) (lv' := [(1, .int (nI (z + 1))), (2, .int (nI 1)), (0, .ref o)]) hx hb dX0_seed_67 hl (k := 1) rfl (nI_add z 1) (by decide) rfl (fun ls hl => ?_)
                refine lv_goto (tgt := 6) hx hb dX0_seed_70 (by decide) ?_
                exact ihL6 (z + 1) f (by first | omega | assumption | rfl | (simp_all; done)) (by first | exact lay_upd hf (sdd_yes (by rw [← hfz]; exact c18) c28 c39 c57) | exact lay_same hf (sdd_no (Or.inl (by rw [← hfz]; exact c18))) | exact lay_same hf (sdd_no (Or.inr (Or.inl c28))) | exact lay_same hf (sdd_no (Or.inr (Or.inr (Or.inl c39)))) | exact lay_same hf (sdd_no (Or.inr (Or.inr (Or.inr c57))))) (by omega) _ _ hP hD hS _ (lv_sub hl [0, 2] rfl)
              · refine lv_aload_n hx hb dX0_seed_60 rfl (lv_at hl 2 rfl) ?_
                refine va_get (D := E.1) (ci := 0) (v := .ref b) (C := RX0) (T := TX0) (N := 4) hx hb hts hin0 hown hK.1 hP 0 rfl rfl 1 (by decide) lk15 (fun _ h9 => h9) rfl dX0_seed_61 ?_
                refine lv_iload_n hx hb dX0_seed_64 rfl (lv_at hl 1 rfl) ?_
                refine lv_iconst (v := nI 1) hx hb dX0_seed_65 (by decide +kernel) ?_
                refine e_iast hK hP hD hS 2 rfl z (by omega) (by decide) hx hb dX0_seed_66 (fun H locs hP hD hS => ?_)
                have hP : va_P E.1 vwCl (wCo E o a b d gr (upd f z (nI 1)) (hd co) mo) H := hP
                have hD : va_D A (wCo E o a b d gr (upd f z (nI 1)) (hd co) mo) := hD
                refine lv_iinc (v := nI (z + 1)) (lv' := [(1, .int (nI (z + 1))), (2, .int (nI 1)), (0, .ref o)]) hx hb dX0_seed_67 hl (k := 1) rfl (nI_add z 1) (by decide) rfl (fun ls hl => ?_)
                refine lv_goto (tgt := 6) hx hb dX0_seed_70 (by decide) ?_
                exact ihL6 (z + 1) (upd f z (nI 1)) (by first | omega | assumption | rfl | (simp_all; done)) (by first | exact lay_upd hf (sdd_yes (by rw [← hfz]; exact c18) c28 c39 c57) | exact lay_same hf (sdd_no (Or.inl (by rw [← hfz]; exact c18))) | exact lay_same hf (sdd_no (Or.inr (Or.inl c28))) | exact lay_same hf (sdd_no (Or.inr (Or.inr (Or.inl c39)))) | exact lay_same hf (sdd_no (Or.inr (Or.inr (Or.inr c57))))) (by omega) _ _ hP hD hS _ (lv_sub hl [0, 2] rfl)
  exact L6 (81 - 0 + 1) 0 co (by first | omega | assumption | rfl | (simp_all; done)) (lay_0) (Nat.lt_succ_self _) _ _ hP hD hS _ (lv_sub hl [0, 1] rfl)

abbrev rm_X0_dropRubble : Room := { frames := 1, cells := 0, slots := 0, locals := 15 }
set_option maxHeartbeats 4000000 in
set_option maxRecDepth 100000 in
theorem c_X0_dropRubble (l : Launch) (E : eT) (sz : Nat) (o : Nat) (a : Nat) (b : Nat) (d : Nat) (gr : Nat → Int32) (co : Nat → Int32) (hb_ : Nat → Bool) (mo : Int32) (j : Nat) (v : Int32) (hj : j < 1000) : cM l yX0_dropRubble wsX0_dropRubble rm_X0_dropRubble E sz [.ref o, .int (nI j), .int v] (wCo E o a b d gr co hb_ mo) (fun u : Unit => none) (fun u : Unit => True) (fun u : Unit => wCo E o a b d (if j < 81 then upd gr j (iMax (gr j - v) (co j)) else gr) co hb_ mo) := by
  refine cM_intro (cc := cX0_dropRubble) (maxL := 3) (ret := none) (by decide +kernel) rfl (Nat.le_of_ble_eq_true rfl) ?_
  intro p e s m args below meth cd hx hb hr hml hown hlocks hts hnm hK hsz hP A hD hA Q hQ ls hl
  have hown : s.vm.findClass RX0 = some m.cls := hown
  have hin0 : ∀ w ∈ u_ws RX0 TX0 4, w ∈ wsX0_dropRubble := by decide +kernel
  have lk9 := hts (.fieldLink RX0 9 "ReefPilot$Coast" "ground" "[I") (by decide +kernel)
  have lk15 := hts (.fieldLink RX0 15 "ReefPilot$Coast" "coral" "[I") (by decide +kernel)
  have hamcmax := hts (.code Lib.Math.max.name Lib.Math.max.code 2 (some .int)) (by decide +kernel)
  have hamini := hts (.initialized "java/lang/Math") (by decide +kernel)
  have haml44 := hts (.methodLink RX0 44 Lib.Math.max.name) (by decide +kernel)
  have hamsmax := hts (.static Lib.Math.max.name) (by decide +kernel)
  have hS : va_S A s.heap s.heap [] := va_S.rf
  have hl : lv_has ls 3 [(0, .ref o), (1, .int (nI j)), (2, .int v)] := hl
  refine lv_iload_n hx hb dX0_dropRubble_0 rfl (lv_at hl 1 rfl) ?_
  refine lv_bipush (v := nI 81) hx hb dX0_dropRubble_1 (by decide +kernel) ?_
  refine n_icmp_ge (x := j) (y := 81) (by omega) (by omega) (tgt := 29) hx hb dX0_dropRubble_3 (by decide) (fun c3 => ?_) (fun c3 => ?_)
  · have hP := e_cong hP 1 (g := (if j < 81 then upd gr j (iMax (gr j - v) (co j)) else gr)) rfl (fun k _ => by first | rw [if_pos (show j < 81 by omega)] | rw [if_neg (show ¬ j < 81 by omega)])
    have hD := va_D.set (e := .inl (E.2.1, 81, .inl ((if j < 81 then upd gr j (iMax (gr j - v) (co j)) else gr)))) hD (p := 1) rfl
    have hP : va_P E.1 vwCl (wCo E o a b d (if j < 81 then upd gr j (iMax (gr j - v) (co j)) else gr) co hb_ mo) s.heap := hP
    have hD : va_D A (wCo E o a b d (if j < 81 then upd gr j (iMax (gr j - v) (co j)) else gr) co hb_ mo) := hD
    exact e_vret () hQ hx hb hr hlocks hP hD hS dX0_dropRubble_29 (rfl) (Nat.le_of_ble_eq_true rfl) (Nat.le_of_ble_eq_true rfl) (trivial)
  · refine lv_aload_n hx hb dX0_dropRubble_6 rfl (lv_at hl 0 rfl) ?_
    refine va_get (D := E.1) (ci := 0) (v := .ref a) (C := RX0) (T := TX0) (N := 4) hx hb hts hin0 hown hK.1 hP 0 rfl rfl 0 (by decide) lk9 (fun _ h9 => h9) rfl dX0_dropRubble_7 ?_
    refine lv_iload_n hx hb dX0_dropRubble_10 rfl (lv_at hl 1 rfl) ?_
    refine lv_aload_n hx hb dX0_dropRubble_11 rfl (lv_at hl 0 rfl) ?_
    refine va_get (D := E.1) (ci := 0) (v := .ref a) (C := RX0) (T := TX0) (N := 4) hx hb hts hin0 hown hK.1 hP 0 rfl rfl 0 (by decide) lk9 (fun _ h9 => h9) rfl dX0_dropRubble_12 ?_
    refine lv_iload_n hx hb dX0_dropRubble_15 rfl (lv_at hl 1 rfl) ?_
    refine e_iald hK hP 1 rfl j (by omega) (by decide) hx hb dX0_dropRubble_16 ?_
    refine lv_iload_n hx hb dX0_dropRubble_17 rfl (lv_at hl 2 rfl) ?_
    refine lv_isub hx hb dX0_dropRubble_18 ?_
    refine lv_aload_n hx hb dX0_dropRubble_19 rfl (lv_at hl 0 rfl) ?_
    refine va_get (D := E.1) (ci := 0) (v := .ref b) (C := RX0) (T := TX0) (N := 4) hx hb hts hin0 hown hK.1 hP 0 rfl rfl 1 (by decide) lk15 (fun _ h9 => h9) rfl dX0_dropRubble_20 ?_
    refine lv_iload_n hx hb dX0_dropRubble_23 rfl (lv_at hl 1 rfl) ?_
    refine e_iald hK hP 2 rfl j (by omega) (by decide) hx hb dX0_dropRubble_24 ?_
    refine va_mmax hx hb (by rw [hml]; exact hl.1.symm) hown haml44 hamsmax hamini hamcmax (Nat.le_of_ble_eq_true rfl) (Nat.le_of_ble_eq_true rfl) (Nat.le_of_ble_eq_true rfl) (Nat.le_of_ble_eq_true rfl) dX0_dropRubble_25 ?_
    refine e_top (y := iMax ((gr j) - v) (co j)) rfl ?_
    refine e_iast hK hP hD hS 1 rfl j (by omega) (by decide) hx hb dX0_dropRubble_28 (fun H locs hP hD hS => ?_)
    have hP : va_P E.1 vwCl (wCo E o a b d (upd gr j (iMax ((gr j) - v) (co j))) co hb_ mo) H := hP
    have hD : va_D A (wCo E o a b d (upd gr j (iMax ((gr j) - v) (co j))) co hb_ mo) := hD
    have hP := e_cong hP 1 (g := (if j < 81 then upd gr j (iMax (gr j - v) (co j)) else gr)) rfl (fun k _ => by first | rw [if_pos (show j < 81 by omega)] | rw [if_neg (show ¬ j < 81 by omega)])
    have hD := va_D.set (e := .inl (E.2.1, 81, .inl ((if j < 81 then upd gr j (iMax (gr j - v) (co j)) else gr)))) hD (p := 1) rfl
    have hP : va_P E.1 vwCl (wCo E o a b d (if j < 81 then upd gr j (iMax (gr j - v) (co j)) else gr) co hb_ mo) H := hP
    have hD : va_D A (wCo E o a b d (if j < 81 then upd gr j (iMax (gr j - v) (co j)) else gr) co hb_ mo) := hD
    exact e_vret () hQ hx hb hr hlocks hP hD hS dX0_dropRubble_29 (rfl) (Nat.le_of_ble_eq_true rfl) (Nat.le_of_ble_eq_true rfl) (trivial)

abbrev rm_X0_breakByStorm : Room := { frames := 2, cells := 0, slots := 0, locals := 37 }
set_option maxHeartbeats 4000000 in
set_option maxRecDepth 100000 in
theorem c_X0_breakByStorm (l : Launch) (E : eT) (sz : Nat) (o : Nat) (a : Nat) (b : Nat) (d : Nat) (gr : Nat → Int32) (co : Nat → Int32) (hb_ : Nat → Bool) (mo : Int32) (v : Int32) : cM l yX0_breakByStorm wsX0_breakByStorm rm_X0_breakByStorm E sz [.ref o, .int v] (wCo E o a b d gr co hb_ mo) (fun u : Unit => none) (fun u : Unit => True) (fun u : Unit => wCo E o a b d ((blows v (gr, co) 81).1) ((blows v (gr, co) 81).2) hb_ mo) := by
  refine cM_intro (cc := cX0_breakByStorm) (maxL := 4) (ret := none) (by decide +kernel) rfl (Nat.le_of_ble_eq_true rfl) ?_
  intro p e s m args below meth cd hx hb hr hml hown hlocks hts hnm hK hsz hP A hD hA Q hQ ls hl
  have hown : s.vm.findClass RX0 = some m.cls := hown
  have hin0 : ∀ w ∈ u_ws RX0 TX0 4, w ∈ wsX0_breakByStorm := by decide +kernel
  have lk15 := hts (.fieldLink RX0 15 "ReefPilot$Coast" "coral" "[I") (by decide +kernel)
  have hamcmin := hts (.code Lib.Math.min.name Lib.Math.min.code 2 (some .int)) (by decide +kernel)
  have hamini := hts (.initialized "java/lang/Math") (by decide +kernel)
  have haml38 := hts (.methodLink RX0 38 Lib.Math.min.name) (by decide +kernel)
  have hamsmin := hts (.static Lib.Math.min.name) (by decide +kernel)
  have hS : va_S A s.heap s.heap [] := va_S.rf
  have hl : lv_has ls 4 [(0, .ref o), (1, .int v)] := hl
  refine lv_iconst (v := nI 0) hx hb dX0_breakByStorm_0 (by decide +kernel) ?_
  refine lv_istore_n (lv' := [(2, .int (nI 0)), (0, .ref o), (1, .int v)]) hx hb dX0_breakByStorm_1 rfl hl (by decide) rfl (fun ls hl => ?_)
  have L2 : ∀ (fuel : Nat) (z : Nat) (g : Nat → Int32) (f : Nat → Int32) (hz : z ≤ 81) (hg : g = (blows v (gr, co) z).1) (hf : f = (blows v (gr, co) z).2) (hfuel : 81 - z < fuel) (H : Heap) (locs : List Loc), va_P E.1 vwCl (wCo E o a b d g f hb_ mo) H → va_D A (wCo E o a b d g f hb_ mo) → va_S A s.heap H locs → ∀ ls : Array Slot, lv_has ls 4 [(2, .int (nI z)), (0, .ref o), (1, .int v)] → W p l e rm_X0_breakByStorm s m args below meth cd H locs 0 0 Q (F0 m 2 ls []) := by
    intro fuel
    induction fuel with
    | zero => intros; omega
    | succ fuel ihL2 =>
      intro z g f hz hg hf hfuel H locs hP hD hS ls hl
      have hb1 : blows v (gr, co) (z + 1) = blow1 v (g, f) z := by rw [hg, hf]; rfl
      refine lv_iload_n hx hb dX0_breakByStorm_2 rfl (lv_at hl 0 rfl) ?_
      refine lv_bipush (v := nI 81) hx hb dX0_breakByStorm_3 (by decide +kernel) ?_
      refine n_icmp_ge (x := z) (y := 81) (by omega) (by omega) (tgt := 57) hx hb dX0_breakByStorm_5 (by decide) (fun c5 => ?_) (fun c5 => ?_)
      · have hP := e_cong hP 1 (g := (blows v (gr, co) 81).1) rfl (fun k _ => by rw [hg, show z = 81 by omega])
        have hD := va_D.set (e := .inl (E.2.1, 81, .inl ((blows v (gr, co) 81).1))) hD (p := 1) rfl
        have hP : va_P E.1 vwCl (wCo E o a b d ((blows v (gr, co) 81).1) f hb_ mo) H := hP
        have hD : va_D A (wCo E o a b d ((blows v (gr, co) 81).1) f hb_ mo) := hD
        have hP := e_cong hP 2 (g := (blows v (gr, co) 81).2) rfl (fun k _ => by rw [hf, show z = 81 by omega])
        have hD := va_D.set (e := .inl (E.2.1, 81, .inl ((blows v (gr, co) 81).2))) hD (p := 2) rfl
        have hP : va_P E.1 vwCl (wCo E o a b d ((blows v (gr, co) 81).1) ((blows v (gr, co) 81).2) hb_ mo) H := hP
        have hD : va_D A (wCo E o a b d ((blows v (gr, co) 81).1) ((blows v (gr, co) 81).2) hb_ mo) := hD
        exact e_vret () hQ hx hb hr hlocks hP hD hS dX0_breakByStorm_57 (rfl) (Nat.le_of_ble_eq_true rfl) (Nat.le_of_ble_eq_true rfl) (trivial)
      · refine lv_aload_n hx hb dX0_breakByStorm_8 rfl (lv_at hl 1 rfl) ?_
        refine lv_iload_n hx hb dX0_breakByStorm_9 rfl (lv_at hl 0 rfl) ?_
        refine e_callV (As := [.int (nI z)]) (rest := []) ⟨hx, hb, hml, hown, hts⟩ hK hP hD hS hA hl.1 (c_X0_depthOf l E _ o a b d g f hb_ mo z (by first | omega | assumption | rfl | (simp_all; done))) (cwV 1 hts gX0_breakByStorm_X0_depthOf rfl rfl rfl (by decide +kernel) ⟨Nat.le_of_ble_eq_true rfl, Nat.le_of_ble_eq_true rfl⟩) [0, 1, 2, 3] [] rfl rfl rfl rfl (by decide) (q0 := 0) (ci := 0) rfl rfl rfl rfl (Nat.le_of_ble_eq_true rfl) dX0_breakByStorm_10 ⟨Nat.le_of_ble_eq_true rfl, Nat.le_of_ble_eq_true rfl⟩ (fun u_1 H locs hu_2 hsz1 hP hD hS => ?_)
        have hP : va_P E.1 vwCl (wCo E o a b d g f hb_ mo) H := hP.sub [0, 1, 2, 3] rfl
        have hD : va_D A (wCo E o a b d g f hb_ mo) := hD.sub [0, 1, 2, 3] (by decide) rfl
        refine W.eq (g2 := F0 m 13 ls [.int (dep g f z)]) rfl ?_
        refine lv_iload_n hx hb dX0_breakByStorm_13 rfl (lv_at hl 2 rfl) ?_
        refine lv_iconst (v := nI 2) hx hb dX0_breakByStorm_14 (by decide +kernel) ?_
        refine lv_idiv hx hb dX0_breakByStorm_15 (by decide +kernel) ?_
        refine lv_icmp_ge (tgt := 51) hx hb dX0_breakByStorm_16 (by decide) (fun c16 => ?_) (fun c16 => ?_)
        · refine lv_iinc (v := nI (z + 1)) (lv' := [(2, .int (nI (z + 1))), (0, .ref o), (1, .int v)]) hx hb dX0_breakByStorm_51 hl (k := 0) rfl (nI_add z 1) (by decide) rfl (fun ls hl => ?_)
          refine lv_goto (tgt := 2) hx hb dX0_breakByStorm_54 (by decide) ?_
          exact ihL2 (z + 1) g f (by first | omega | assumption | rfl | (simp_all; done)) (by rw [hb1]; unfold blow1; first | rw [if_pos c16] | (rw [if_neg c16])) (by rw [hb1]; unfold blow1; first | rw [if_pos c16] | (rw [if_neg c16])) (by omega) _ _ hP hD hS _ (lv_sub hl [0, 1, 2] rfl)
        · refine lv_iload_n hx hb dX0_breakByStorm_19 rfl (lv_at hl 2 rfl) ?_
          refine lv_iconst (v := nI 3) hx hb dX0_breakByStorm_20 (by decide +kernel) ?_
          refine lv_idiv hx hb dX0_breakByStorm_21 (by decide +kernel) ?_
          refine lv_aload_n hx hb dX0_breakByStorm_22 rfl (lv_at hl 1 rfl) ?_
          refine va_get (D := E.1) (ci := 0) (v := .ref b) (C := RX0) (T := TX0) (N := 4) hx hb hts hin0 hown hK.1 hP 0 rfl rfl 1 (by decide) lk15 (fun _ h9 => h9) rfl dX0_breakByStorm_23 ?_
          refine lv_iload_n hx hb dX0_breakByStorm_26 rfl (lv_at hl 0 rfl) ?_
          refine e_iald hK hP 2 rfl z (by omega) (by decide) hx hb dX0_breakByStorm_27 ?_
          refine va_mmin hx hb (by rw [hml]; exact hl.1.symm) hown haml38 hamsmin hamini hamcmin (Nat.le_of_ble_eq_true rfl) (Nat.le_of_ble_eq_true rfl) (Nat.le_of_ble_eq_true rfl) (Nat.le_of_ble_eq_true rfl) dX0_breakByStorm_28 ?_
          refine e_top (y := iMin (v / (nI 3)) (f z)) rfl ?_
          refine lv_istore_n (lv' := [(3, .int (iMin (v / (nI 3)) (f z))), (2, .int (nI z)), (0, .ref o), (1, .int v)]) hx hb dX0_breakByStorm_31 rfl hl (by decide) rfl (fun ls hl => ?_)
          refine lv_aload_n hx hb dX0_breakByStorm_32 rfl (lv_at hl 2 rfl) ?_
          refine va_get (D := E.1) (ci := 0) (v := .ref b) (C := RX0) (T := TX0) (N := 4) hx hb hts hin0 hown hK.1 hP 0 rfl rfl 1 (by decide) lk15 (fun _ h9 => h9) rfl dX0_breakByStorm_33 ?_
          refine lv_iload_n hx hb dX0_breakByStorm_36 rfl (lv_at hl 1 rfl) ?_
          refine lv_dup2_11 hx hb dX0_breakByStorm_37 rfl rfl ?_
          refine e_iald hK hP 2 rfl z (by omega) (by decide) hx hb dX0_breakByStorm_38 ?_
          refine lv_iload_n hx hb dX0_breakByStorm_39 rfl (lv_at hl 0 rfl) ?_
          refine lv_isub hx hb dX0_breakByStorm_40 ?_
          refine e_iast hK hP hD hS 2 rfl z (by omega) (by decide) hx hb dX0_breakByStorm_41 (fun H locs hP hD hS => ?_)
          have hP : va_P E.1 vwCl (wCo E o a b d g (upd f z ((f z) - (iMin (v / (nI 3)) (f z)))) hb_ mo) H := hP
          have hD : va_D A (wCo E o a b d g (upd f z ((f z) - (iMin (v / (nI 3)) (f z)))) hb_ mo) := hD
          refine lv_aload_n hx hb dX0_breakByStorm_42 rfl (lv_at hl 2 rfl) ?_
          refine lv_iload_n hx hb dX0_breakByStorm_43 rfl (lv_at hl 1 rfl) ?_
          refine lv_bipush (v := nI 9) hx hb dX0_breakByStorm_44 (by decide +kernel) ?_
          refine lv_iadd hx hb dX0_breakByStorm_46 ?_
          refine e_top (nI_add _ _) ?_
          refine lv_iload_n hx hb dX0_breakByStorm_47 rfl (lv_at hl 0 rfl) ?_
          refine e_callV (As := [.int (nI (z + 9)), .int (iMin (v / (nI 3)) (f z))]) (rest := []) ⟨hx, hb, hml, hown, hts⟩ hK hP hD hS hA hl.1 (c_X0_dropRubble l E _ o a b d g (upd f z ((f z) - (iMin (v / (nI 3)) (f z)))) hb_ mo (z + 9) (iMin (v / (nI 3)) (f z)) (by first | omega | assumption | rfl | (simp_all; done))) (cwV 2 hts gX0_breakByStorm_X0_dropRubble rfl rfl rfl (by decide +kernel) ⟨Nat.le_of_ble_eq_true rfl, Nat.le_of_ble_eq_true rfl⟩) [0, 1, 2, 3] [] rfl rfl rfl rfl (by decide) (q0 := 0) (ci := 0) rfl rfl rfl rfl (Nat.le_of_ble_eq_true rfl) dX0_breakByStorm_48 ⟨Nat.le_of_ble_eq_true rfl, Nat.le_of_ble_eq_true rfl⟩ (fun u_3 H locs hu_4 hsz1 hP hD hS => ?_)
          have hP : va_P E.1 vwCl (wCo E o a b d (if (z + 9) < 81 then upd g (z + 9) (iMax (g (z + 9) - (iMin (v / (nI 3)) (f z))) ((upd f z ((f z) - (iMin (v / (nI 3)) (f z)))) (z + 9))) else g) (upd f z ((f z) - (iMin (v / (nI 3)) (f z)))) hb_ mo) H := hP.sub [0, 1, 2, 3] rfl
          have hD : va_D A (wCo E o a b d (if (z + 9) < 81 then upd g (z + 9) (iMax (g (z + 9) - (iMin (v / (nI 3)) (f z))) ((upd f z ((f z) - (iMin (v / (nI 3)) (f z)))) (z + 9))) else g) (upd f z ((f z) - (iMin (v / (nI 3)) (f z)))) hb_ mo) := hD.sub [0, 1, 2, 3] (by decide) rfl
          refine W.eq (g2 := F0 m 51 ls []) rfl ?_
          refine lv_iinc (v := nI (z + 1)) (lv' := [(2, .int (nI (z + 1))), (3, .int (iMin (v / (nI 3)) (f z))), (0, .ref o), (1, .int v)]) hx hb dX0_breakByStorm_51 hl (k := 1) rfl (nI_add z 1) (by decide) rfl (fun ls hl => ?_)
          refine lv_goto (tgt := 2) hx hb dX0_breakByStorm_54 (by decide) ?_
          exact ihL2 (z + 1) (if (z + 9) < 81 then upd g (z + 9) (iMax (g (z + 9) - (iMin (v / (nI 3)) (f z))) ((upd f z ((f z) - (iMin (v / (nI 3)) (f z)))) (z + 9))) else g) (upd f z ((f z) - (iMin (v / (nI 3)) (f z)))) (by first | omega | assumption | rfl | (simp_all; done)) (by rw [hb1]; unfold blow1; first | rw [if_pos c16] | (rw [if_neg c16])) (by rw [hb1]; unfold blow1; first | rw [if_pos c16] | (rw [if_neg c16])) (by omega) _ _ hP hD hS _ (lv_sub hl [0, 2, 3] rfl)
  exact L2 (81 - 0 + 1) 0 gr co (by first | omega | assumption | rfl | (simp_all; done)) (rfl) (rfl) (Nat.lt_succ_self _) _ _ hP hD hS _ (lv_sub hl [0, 1, 2] rfl)

abbrev rm_X0_changeByWarmth : Room := { frames := 3, cells := 0, slots := 0, locals := 69 }
set_option maxHeartbeats 4000000 in
set_option maxRecDepth 100000 in
theorem c_X0_changeByWarmth (l : Launch) (E : eT) (sz : Nat) (o : Nat) (a : Nat) (b : Nat) (d : Nat) (gr : Nat → Int32) (co : Nat → Int32) (hb_ : Nat → Bool) (mo : Int32) (v : Int32) : cM l yX0_changeByWarmth wsX0_changeByWarmth rm_X0_changeByWarmth E sz [.ref o, .int v] (wCo E o a b d gr co hb_ mo) (fun u : (Nat → Bool) => none) (fun u : (Nat → Bool) => True) (fun u : (Nat → Bool) => wCo E o a b d gr (warmed v gr co) u mo) := by
  refine cM_intro (cc := cX0_changeByWarmth) (maxL := 2) (ret := none) (by decide +kernel) rfl (Nat.le_of_ble_eq_true rfl) ?_
  intro p e s m args below meth cd hx hb hr hml hown hlocks hts hnm hK hsz hP A hD hA Q hQ ls hl
  have hown : s.vm.findClass RX0 = some m.cls := hown
  have hS : va_S A s.heap s.heap [] := va_S.rf
  have hl : lv_has ls 2 [(0, .ref o), (1, .int v)] := hl
  refine lv_iload_n hx hb dX0_changeByWarmth_0 rfl (lv_at hl 1 rfl) ?_
  refine lv_bipush (v := nI 8) hx hb dX0_changeByWarmth_1 (by decide +kernel) ?_
  refine lv_icmp_lt (tgt := 13) hx hb dX0_changeByWarmth_3 (by decide) (fun c3 => ?_) (fun c3 => ?_)
  · refine lv_iload_n hx hb dX0_changeByWarmth_13 rfl (lv_at hl 1 rfl) ?_
    refine lv_iconst (v := nI 3) hx hb dX0_changeByWarmth_14 (by decide +kernel) ?_
    refine lv_icmp_lt (tgt := 22) hx hb dX0_changeByWarmth_15 (by decide) (fun c15 => ?_) (fun c15 => ?_)
    · have hP := e_cong hP 2 (g := (warmed v gr co)) rfl (fun k _ => by unfold warmed; first | (rw [if_neg (i_nle c3), if_neg (i_nle c15)]) | (rw [if_neg (i_nle c3), if_pos (i_nlt c15)]) | (rw [if_pos (i_nlt c3)]))
      have hD := va_D.set (e := .inl (E.2.1, 81, .inl ((warmed v gr co)))) hD (p := 2) rfl
      have hP : va_P E.1 vwCl (wCo E o a b d gr (warmed v gr co) hb_ mo) s.heap := hP
      have hD : va_D A (wCo E o a b d gr (warmed v gr co) hb_ mo) := hD
      exact e_vret hb_ hQ hx hb hr hlocks hP hD hS dX0_changeByWarmth_22 (rfl) (Nat.le_of_ble_eq_true rfl) (Nat.le_of_ble_eq_true rfl) (trivial)
    · refine lv_aload_n hx hb dX0_changeByWarmth_18 rfl (lv_at hl 0 rfl) ?_
      refine e_callV (As := []) (rest := []) ⟨hx, hb, hml, hown, hts⟩ hK hP hD hS hA hl.1 (c_X0_grow l E _ o a b d gr co hb_ mo) (cwV 0 hts gX0_changeByWarmth_X0_grow rfl rfl rfl (by decide +kernel) ⟨Nat.le_of_ble_eq_true rfl, Nat.le_of_ble_eq_true rfl⟩) [0, 1, 2, 3] [] rfl rfl rfl rfl (by decide) (q0 := 0) (ci := 0) rfl rfl rfl rfl (Nat.le_of_ble_eq_true rfl) dX0_changeByWarmth_19 ⟨Nat.le_of_ble_eq_true rfl, Nat.le_of_ble_eq_true rfl⟩ (fun u_1 H locs hu_2 hsz1 hP hD hS => ?_)
      have hP : va_P E.1 vwCl (wCo E o a b d gr (grw gr co (hd co)) (hd co) mo) H := hP.sub [0, 1, 2, 3] rfl
      have hD : va_D A (wCo E o a b d gr (grw gr co (hd co)) (hd co) mo) := hD.sub [0, 1, 2, 3] (by decide) rfl
      refine W.eq (g2 := F0 m 22 ls []) rfl ?_
      have hP := e_cong hP 2 (g := (warmed v gr co)) rfl (fun k _ => by unfold warmed; first | (rw [if_neg (i_nle c3), if_neg (i_nle c15)]) | (rw [if_neg (i_nle c3), if_pos (i_nlt c15)]) | (rw [if_pos (i_nlt c3)]))
      have hD := va_D.set (e := .inl (E.2.1, 81, .inl ((warmed v gr co)))) hD (p := 2) rfl
      have hP : va_P E.1 vwCl (wCo E o a b d gr (warmed v gr co) (hd co) mo) H := hP
      have hD : va_D A (wCo E o a b d gr (warmed v gr co) (hd co) mo) := hD
      exact e_vret (hd co) hQ hx hb hr hlocks hP hD hS dX0_changeByWarmth_22 (rfl) (Nat.le_of_ble_eq_true rfl) (Nat.le_of_ble_eq_true rfl) (trivial)
  · refine lv_aload_n hx hb dX0_changeByWarmth_6 rfl (lv_at hl 0 rfl) ?_
    refine e_callV (As := []) (rest := []) ⟨hx, hb, hml, hown, hts⟩ hK hP hD hS hA hl.1 (c_X0_dieBack l E _ o a b d gr co hb_ mo) (cwV 0 hts gX0_changeByWarmth_X0_dieBack rfl rfl rfl (by decide +kernel) ⟨Nat.le_of_ble_eq_true rfl, Nat.le_of_ble_eq_true rfl⟩) [0, 1, 2, 3] [] rfl rfl rfl rfl (by decide) (q0 := 0) (ci := 0) rfl rfl rfl rfl (Nat.le_of_ble_eq_true rfl) dX0_changeByWarmth_7 ⟨Nat.le_of_ble_eq_true rfl, Nat.le_of_ble_eq_true rfl⟩ (fun u_3 H locs hu_4 hsz1 hP hD hS => ?_)
    have hP : va_P E.1 vwCl (wCo E o a b d gr (die co) hb_ mo) H := hP.sub [0, 1, 2, 3] rfl
    have hD : va_D A (wCo E o a b d gr (die co) hb_ mo) := hD.sub [0, 1, 2, 3] (by decide) rfl
    refine W.eq (g2 := F0 m 10 ls []) rfl ?_
    refine lv_goto (tgt := 22) hx hb dX0_changeByWarmth_10 (by decide) ?_
    have hP := e_cong hP 2 (g := (warmed v gr co)) rfl (fun k _ => by unfold warmed; first | (rw [if_neg (i_nle c3), if_neg (i_nle c15)]) | (rw [if_neg (i_nle c3), if_pos (i_nlt c15)]) | (rw [if_pos (i_nlt c3)]))
    have hD := va_D.set (e := .inl (E.2.1, 81, .inl ((warmed v gr co)))) hD (p := 2) rfl
    have hP : va_P E.1 vwCl (wCo E o a b d gr (warmed v gr co) hb_ mo) H := hP
    have hD : va_D A (wCo E o a b d gr (warmed v gr co) hb_ mo) := hD
    exact e_vret hb_ hQ hx hb hr hlocks hP hD hS dX0_changeByWarmth_22 (rfl) (Nat.le_of_ble_eq_true rfl) (Nat.le_of_ble_eq_true rfl) (trivial)
