abbrev rm_J9_floorMod_7cf53 : Room := { frames := 0, cells := 0, slots := 0, locals := 0 }
set_option maxHeartbeats 4000000 in
set_option maxRecDepth 100000 in
/-- Math.floorMod(x, 12), x not less than 0 -/
theorem c_J9_floorMod_7cf53 (l : Launch) (E : eT) (sz : Nat) (x : Nat) (hx_ : x < 2 ^ 31) : cM l yJ9_floorMod_7cf53 wsJ9_floorMod_7cf53 rm_J9_floorMod_7cf53 E sz [.int (nI x), .int (nI 12)] ([]) (fun u : Unit => some (.int (nI (x % 12)))) (fun u : Unit => True) (fun u : Unit => []) := by
  refine cM_intro (cc := cJ9_floorMod_7cf53) (maxL := 3) (ret := (some .int)) (by decide) rfl (Nat.le_of_ble_eq_true rfl) ?_
  intro p e s m args below meth cd hx hb hr hml hown hlocks hts hnm hK hsz hP A hD hA Q hQ ls hl
  have hown : s.vm.findClass RJ9 = some m.cls := hown
  have hS : va_S A s.heap s.heap [] := va_S.rf
  have hl : lv_has ls 3 [(0, .int (nI x)), (1, .int (nI 12))] := hl
  refine lv_iload_n hx hb dJ9_floorMod_7cf53_0 rfl (lv_at hl 0 rfl) ?_
  refine lv_iload_n hx hb dJ9_floorMod_7cf53_1 rfl (lv_at hl 1 rfl) ?_
  refine lv_irem hx hb dJ9_floorMod_7cf53_2 (by decide +kernel) ?_
  refine e_top (pk_rem (by omega) (by omega) (by omega)) ?_
  refine lv_istore_n (lv' := [(2, .int (nI (x % 12))), (0, .int (nI x)), (1, .int (nI 12))]) hx hb dJ9_floorMod_7cf53_3 rfl hl (by decide) rfl (fun ls hl => ?_)
  refine lv_iload_n hx hb dJ9_floorMod_7cf53_4 rfl (lv_at hl 1 rfl) ?_
  refine lv_iload_n hx hb dJ9_floorMod_7cf53_5 rfl (lv_at hl 2 rfl) ?_
  refine lv_ixor hx hb dJ9_floorMod_7cf53_6 ?_
  refine lv_if_ge (tgt := 18) hx hb dJ9_floorMod_7cf53_7 (by decide) (fun c7 => ?_) (fun c7 => absurd (nI_x12 hx_) c7)
  refine lv_iload_n hx hb dJ9_floorMod_7cf53_18 rfl (lv_at hl 0 rfl) ?_
  exact e_iret () hQ hx hb hr hlocks hP hD hS dJ9_floorMod_7cf53_19 (rfl) (Nat.le_of_ble_eq_true rfl) (Nat.le_of_ble_eq_true rfl) (trivial)

abbrev rm_J7_fill_81 : Room := { frames := 0, cells := 0, slots := 0, locals := 0 }
set_option maxHeartbeats 4000000 in
set_option maxRecDepth 100000 in
/-- Arrays.fill of 81 places -/
theorem c_J7_fill_81 (l : Launch) (E : eT) (sz : Nat) (q : Nat) (f : Nat → Int32) (v : Int32) : cM l yJ7_fill_53178 wsJ7_fill_53178 rm_J7_fill_81 E sz [.ref q, .int v] ([(q, .inl (E.2.1, 81, .inl f))]) (fun u : Unit => none) (fun u : Unit => True) (fun u : Unit => [(q, .inl (E.2.1, 81, .inl (fun _ => v)))]) := by
  refine cM_intro (cc := cJ7_fill_53178) (maxL := 4) (ret := none) (by decide) rfl (Nat.le_of_ble_eq_true rfl) ?_
  intro p e s m args below meth cd hx hb hr hml hown hlocks hts hnm hK hsz hP A hD hA Q hQ ls hl
  have hown : s.vm.findClass RJ7 = some m.cls := hown
  have hS : va_S A s.heap s.heap [] := va_S.rf
  have hl : lv_has ls 4 [(0, .ref q), (1, .int v)] := hl
  refine lv_iconst (v := nI 0) hx hb dJ7_fill_53178_0 (by decide +kernel) ?_
  refine lv_istore_n (lv' := [(2, .int (nI 0)), (0, .ref q), (1, .int v)]) hx hb dJ7_fill_53178_1 rfl hl (by decide) rfl (fun ls hl => ?_)
  refine lv_aload_n hx hb dJ7_fill_53178_2 rfl (lv_at hl 1 rfl) ?_
  refine va_alen (v := nI 81) hx hb hK.1 hP 0 0 rfl rfl rfl dJ7_fill_53178_3 ?_
  refine lv_istore_n (lv' := [(3, .int (nI 81)), (2, .int (nI 0)), (0, .ref q), (1, .int v)]) hx hb dJ7_fill_53178_4 rfl hl (by decide) rfl (fun ls hl => ?_)
  have L5 : ∀ (fuel : Nat) (z : Nat) (g : Nat → Int32) (hz : z ≤ 81) (hg : ∀ k, k < z → g k = v) (hfuel : 81 - z < fuel) (H : Heap) (locs : List Loc), va_P E.1 vwCl ([(q, .inl (E.2.1, 81, .inl g))]) H → va_D A ([(q, .inl (E.2.1, 81, .inl g))]) → va_S A s.heap H locs → ∀ ls : Array Slot, lv_has ls 4 [(3, .int (nI 81)), (2, .int (nI z)), (0, .ref q), (1, .int v)] → W p l e rm_J7_fill_81 s m args below meth cd H locs 0 0 Q (F0 m 5 ls []) := by
    intro fuel
    induction fuel with
    | zero => intros; omega
    | succ fuel ihL5 =>
      intro z g hz hg hfuel H locs hP hD hS ls hl
      refine lv_iload_n hx hb dJ7_fill_53178_5 rfl (lv_at hl 1 rfl) ?_
      refine lv_iload_n hx hb dJ7_fill_53178_6 rfl (lv_at hl 0 rfl) ?_
      refine n_icmp_ge (x := z) (y := 81) (by omega) (by omega) (tgt := 20) hx hb dJ7_fill_53178_7 (by decide) (fun c7 => ?_) (fun c7 => ?_)
      · have hP := e_cong hP 0 (g := (fun _ => v)) rfl (fun k h => hg k (by omega))
        have hD := va_D.set (e := .inl (E.2.1, 81, .inl ((fun _ => v)))) hD (p := 0) rfl
        have hP : va_P E.1 vwCl ([(q, .inl (E.2.1, 81, .inl (fun _ => v)))]) H := hP
        have hD : va_D A ([(q, .inl (E.2.1, 81, .inl (fun _ => v)))]) := hD
        exact e_vret () hQ hx hb hr hlocks hP hD hS dJ7_fill_53178_20 (rfl) (Nat.le_of_ble_eq_true rfl) (Nat.le_of_ble_eq_true rfl) (trivial)
      · refine lv_aload_n hx hb dJ7_fill_53178_10 rfl (lv_at hl 2 rfl) ?_
        refine lv_iload_n hx hb dJ7_fill_53178_11 rfl (lv_at hl 1 rfl) ?_
        refine lv_iload_n hx hb dJ7_fill_53178_12 rfl (lv_at hl 3 rfl) ?_
        refine e_iast hK hP hD hS 0 rfl z (by omega) (by decide) hx hb dJ7_fill_53178_13 (fun H locs hP hD hS => ?_)
        have hP : va_P E.1 vwCl ([(q, .inl (E.2.1, 81, .inl (upd g z v)))]) H := hP
        have hD : va_D A ([(q, .inl (E.2.1, 81, .inl (upd g z v)))]) := hD
        refine lv_iinc (v := nI (z + 1)) (lv' := [(2, .int (nI (z + 1))), (3, .int (nI 81)), (0, .ref q), (1, .int v)]) hx hb dJ7_fill_53178_14 hl (k := 1) rfl (nI_add z 1) (by decide) rfl (fun ls hl => ?_)
        refine lv_goto (tgt := 5) hx hb dJ7_fill_53178_17 (by decide) ?_
        exact L5 (81 - (z + 1) + 1) (z + 1) (upd g z v) (by first | omega | assumption | rfl | (simp_all; done)) (fun k h => by unfold upd; by_cases e : k = z; rw [if_pos e]; rw [if_neg e]; exact hg k (by omega)) (Nat.lt_succ_self _) _ _ hP hD hS _ (lv_sub hl [1, 0, 2, 3] rfl)
  exact L5 (81 - 0 + 1) 0 f (by first | omega | assumption | rfl | (simp_all; done)) (fun k h => absurd h (Nat.not_lt_zero k)) (Nat.lt_succ_self _) _ _ hP hD hS _ (lv_sub hl [0, 1, 2, 3] rfl)

abbrev rm_J7_fill_12 : Room := { frames := 0, cells := 0, slots := 0, locals := 0 }
set_option maxHeartbeats 4000000 in
set_option maxRecDepth 100000 in
/-- Arrays.fill of 12 places -/
theorem c_J7_fill_12 (l : Launch) (E : eT) (sz : Nat) (q : Nat) (f : Nat → Int32) (v : Int32) : cM l yJ7_fill_53178 wsJ7_fill_53178 rm_J7_fill_12 E sz [.ref q, .int v] ([(q, .inl (E.2.1, 12, .inl f))]) (fun u : Unit => none) (fun u : Unit => True) (fun u : Unit => [(q, .inl (E.2.1, 12, .inl (fun _ => v)))]) := by
  refine cM_intro (cc := cJ7_fill_53178) (maxL := 4) (ret := none) (by decide) rfl (Nat.le_of_ble_eq_true rfl) ?_
  intro p e s m args below meth cd hx hb hr hml hown hlocks hts hnm hK hsz hP A hD hA Q hQ ls hl
  have hown : s.vm.findClass RJ7 = some m.cls := hown
  have hS : va_S A s.heap s.heap [] := va_S.rf
  have hl : lv_has ls 4 [(0, .ref q), (1, .int v)] := hl
  refine lv_iconst (v := nI 0) hx hb dJ7_fill_53178_0 (by decide +kernel) ?_
  refine lv_istore_n (lv' := [(2, .int (nI 0)), (0, .ref q), (1, .int v)]) hx hb dJ7_fill_53178_1 rfl hl (by decide) rfl (fun ls hl => ?_)
  refine lv_aload_n hx hb dJ7_fill_53178_2 rfl (lv_at hl 1 rfl) ?_
  refine va_alen (v := nI 12) hx hb hK.1 hP 0 0 rfl rfl rfl dJ7_fill_53178_3 ?_
  refine lv_istore_n (lv' := [(3, .int (nI 12)), (2, .int (nI 0)), (0, .ref q), (1, .int v)]) hx hb dJ7_fill_53178_4 rfl hl (by decide) rfl (fun ls hl => ?_)
  have L5 : ∀ (fuel : Nat) (z : Nat) (g : Nat → Int32) (hz : z ≤ 12) (hg : ∀ k, k < z → g k = v) (hfuel : 12 - z < fuel) (H : Heap) (locs : List Loc), va_P E.1 vwCl ([(q, .inl (E.2.1, 12, .inl g))]) H → va_D A ([(q, .inl (E.2.1, 12, .inl g))]) → va_S A s.heap H locs → ∀ ls : Array Slot, lv_has ls 4 [(3, .int (nI 12)), (2, .int (nI z)), (0, .ref q), (1, .int v)] → W p l e rm_J7_fill_12 s m args below meth cd H locs 0 0 Q (F0 m 5 ls []) := by
    intro fuel
    induction fuel with
    | zero => intros; omega
    | succ fuel ihL5 =>
      intro z g hz hg hfuel H locs hP hD hS ls hl
      refine lv_iload_n hx hb dJ7_fill_53178_5 rfl (lv_at hl 1 rfl) ?_
      refine lv_iload_n hx hb dJ7_fill_53178_6 rfl (lv_at hl 0 rfl) ?_
      refine n_icmp_ge (x := z) (y := 12) (by omega) (by omega) (tgt := 20) hx hb dJ7_fill_53178_7 (by decide) (fun c7 => ?_) (fun c7 => ?_)
      · have hP := e_cong hP 0 (g := (fun _ => v)) rfl (fun k h => hg k (by omega))
        have hD := va_D.set (e := .inl (E.2.1, 12, .inl ((fun _ => v)))) hD (p := 0) rfl
        have hP : va_P E.1 vwCl ([(q, .inl (E.2.1, 12, .inl (fun _ => v)))]) H := hP
        have hD : va_D A ([(q, .inl (E.2.1, 12, .inl (fun _ => v)))]) := hD
        exact e_vret () hQ hx hb hr hlocks hP hD hS dJ7_fill_53178_20 (rfl) (Nat.le_of_ble_eq_true rfl) (Nat.le_of_ble_eq_true rfl) (trivial)
      · refine lv_aload_n hx hb dJ7_fill_53178_10 rfl (lv_at hl 2 rfl) ?_
        refine lv_iload_n hx hb dJ7_fill_53178_11 rfl (lv_at hl 1 rfl) ?_
        refine lv_iload_n hx hb dJ7_fill_53178_12 rfl (lv_at hl 3 rfl) ?_
        refine e_iast hK hP hD hS 0 rfl z (by omega) (by decide) hx hb dJ7_fill_53178_13 (fun H locs hP hD hS => ?_)
        have hP : va_P E.1 vwCl ([(q, .inl (E.2.1, 12, .inl (upd g z v)))]) H := hP
        have hD : va_D A ([(q, .inl (E.2.1, 12, .inl (upd g z v)))]) := hD
        refine lv_iinc (v := nI (z + 1)) (lv' := [(2, .int (nI (z + 1))), (3, .int (nI 12)), (0, .ref q), (1, .int v)]) hx hb dJ7_fill_53178_14 hl (k := 1) rfl (nI_add z 1) (by decide) rfl (fun ls hl => ?_)
        refine lv_goto (tgt := 5) hx hb dJ7_fill_53178_17 (by decide) ?_
        exact L5 (12 - (z + 1) + 1) (z + 1) (upd g z v) (by first | omega | assumption | rfl | (simp_all; done)) (fun k h => by unfold upd; by_cases e : k = z; rw [if_pos e]; rw [if_neg e]; exact hg k (by omega)) (Nat.lt_succ_self _) _ _ hP hD hS _ (lv_sub hl [1, 0, 2, 3] rfl)
  exact L5 (12 - 0 + 1) 0 f (by first | omega | assumption | rfl | (simp_all; done)) (fun k h => absurd h (Nat.not_lt_zero k)) (Nat.lt_succ_self _) _ _ hP hD hS _ (lv_sub hl [0, 1, 2, 3] rfl)

abbrev rm_X4_neighbour : Room := { frames := 0, cells := 0, slots := 0, locals := 0 }
set_option maxHeartbeats 4000000 in
set_option maxRecDepth 100000 in
/-- the neighbour, that way -/
theorem c_X4_neighbour (l : Launch) (E : eT) (sz : Nat) (x : Nat) (k : Nat) (hx_ : x < 81) (hk : k < 4) : cM l yX4_neighbour wsX4_neighbour rm_X4_neighbour E sz [.int (nI x), .int (nI k)] ([]) (fun u : Unit => some (.int (oI (nb x k)))) (fun u : Unit => True) (fun u : Unit => []) := by
  refine cM_intro (cc := cX4_neighbour) (maxL := 3) (ret := (some .int)) (by decide) rfl (Nat.le_of_ble_eq_true rfl) ?_
  intro p e s m args below meth cd hx hb hr hml hown hlocks hts hnm hK hsz hP A hD hA Q hQ ls hl
  have hown : s.vm.findClass RX4 = some m.cls := hown
  have hS : va_S A s.heap s.heap [] := va_S.rf
  have hl : lv_has ls 3 [(0, .int (nI x)), (1, .int (nI k))] := hl
  refine lv_iload_n hx hb dX4_neighbour_0 rfl (lv_at hl 0 rfl) ?_
  refine lv_bipush (v := nI 9) hx hb dX4_neighbour_1 (by decide +kernel) ?_
  refine lv_irem hx hb dX4_neighbour_3 (by decide +kernel) ?_
  refine e_top (pk_rem (by omega) (by omega) (by omega)) ?_
  refine lv_istore_n (lv' := [(2, .int (nI (x % 9))), (0, .int (nI x)), (1, .int (nI k))]) hx hb dX4_neighbour_4 rfl hl (by decide) rfl (fun ls hl => ?_)
  refine lv_iload_n hx hb dX4_neighbour_5 rfl (lv_at hl 2 rfl) ?_
  rcases (show k = 0 ∨ k = 1 ∨ k = 2 ∨ k = 3 by omega) with rfl | rfl | rfl | rfl
  · refine lv_tableIn (off := 26) (tgt := 32) hx hb dX4_neighbour_6 (by decide +kernel) (by decide +kernel) (by decide +kernel) (by decide) ?_
    refine lv_iload_n hx hb dX4_neighbour_32 rfl (lv_at hl 1 rfl) ?_
    refine lv_bipush (v := nI 9) hx hb dX4_neighbour_33 (by decide +kernel) ?_
    refine n_icmp_lt (x := x) (y := 9) (by omega) (by omega) (tgt := 45) hx hb dX4_neighbour_35 (by decide) (fun c35 => ?_) (fun c35 => ?_)
    · refine lv_iconst (v := (-1)) hx hb dX4_neighbour_45 (by decide +kernel) ?_
      exact e_iret () hQ hx hb hr hlocks hP hD hS dX4_neighbour_46 (rvi (by unfold nb; rw [if_pos rfl]; first | (rw [if_pos (by omega)]; exact (pk_sub (by omega)).symm) | (rw [if_neg (by omega)]; rfl))) (Nat.le_of_ble_eq_true rfl) (Nat.le_of_ble_eq_true rfl) (trivial)
    · refine lv_iload_n hx hb dX4_neighbour_38 rfl (lv_at hl 1 rfl) ?_
      refine lv_bipush (v := nI 9) hx hb dX4_neighbour_39 (by decide +kernel) ?_
      refine lv_isub hx hb dX4_neighbour_41 ?_
      refine lv_goto (tgt := 46) hx hb dX4_neighbour_42 (by decide) ?_
      exact e_iret () hQ hx hb hr hlocks hP hD hS dX4_neighbour_46 (rvi (by unfold nb; rw [if_pos rfl]; first | (rw [if_pos (by omega)]; exact (pk_sub (by omega)).symm) | (rw [if_neg (by omega)]; rfl))) (Nat.le_of_ble_eq_true rfl) (Nat.le_of_ble_eq_true rfl) (trivial)
  · refine lv_tableIn (off := 41) (tgt := 47) hx hb dX4_neighbour_6 (by decide +kernel) (by decide +kernel) (by decide +kernel) (by decide) ?_
    refine lv_iload_n hx hb dX4_neighbour_47 rfl (lv_at hl 0 rfl) ?_
    refine n_if_le (x := x % 9) (by omega) (tgt := 57) hx hb dX4_neighbour_48 (by decide) (fun c48 => ?_) (fun c48 => ?_)
    · refine lv_iconst (v := (-1)) hx hb dX4_neighbour_57 (by decide +kernel) ?_
      exact e_iret () hQ hx hb hr hlocks hP hD hS dX4_neighbour_58 (rvi (by unfold nb; rw [if_neg (by decide), if_pos rfl]; first | (rw [if_neg (by omega)]; exact (pk_sub (by omega)).symm) | (rw [if_pos (by omega)]; rfl))) (Nat.le_of_ble_eq_true rfl) (Nat.le_of_ble_eq_true rfl) (trivial)
    · refine lv_iload_n hx hb dX4_neighbour_51 rfl (lv_at hl 1 rfl) ?_
      refine lv_iconst (v := nI 1) hx hb dX4_neighbour_52 (by decide +kernel) ?_
      refine lv_isub hx hb dX4_neighbour_53 ?_
      refine lv_goto (tgt := 58) hx hb dX4_neighbour_54 (by decide) ?_
      exact e_iret () hQ hx hb hr hlocks hP hD hS dX4_neighbour_58 (rvi (by unfold nb; rw [if_neg (by decide), if_pos rfl]; first | (rw [if_neg (by omega)]; exact (pk_sub (by omega)).symm) | (rw [if_pos (by omega)]; rfl))) (Nat.le_of_ble_eq_true rfl) (Nat.le_of_ble_eq_true rfl) (trivial)
  · refine lv_tableIn (off := 53) (tgt := 59) hx hb dX4_neighbour_6 (by decide +kernel) (by decide +kernel) (by decide +kernel) (by decide) ?_
    refine lv_iload_n hx hb dX4_neighbour_59 rfl (lv_at hl 0 rfl) ?_
    refine lv_bipush (v := nI 8) hx hb dX4_neighbour_60 (by decide +kernel) ?_
    refine n_icmp_ge (x := x % 9) (y := 8) (by omega) (by omega) (tgt := 71) hx hb dX4_neighbour_62 (by decide) (fun c62 => ?_) (fun c62 => ?_)
    · refine lv_iconst (v := (-1)) hx hb dX4_neighbour_71 (by decide +kernel) ?_
      exact e_iret () hQ hx hb hr hlocks hP hD hS dX4_neighbour_72 (rvi (by unfold nb; rw [if_neg (by decide), if_neg (by decide), if_pos rfl]; first | (rw [if_neg (by omega)]; rfl) | (rw [if_pos (by omega)]; rfl))) (Nat.le_of_ble_eq_true rfl) (Nat.le_of_ble_eq_true rfl) (trivial)
    · refine lv_iload_n hx hb dX4_neighbour_65 rfl (lv_at hl 1 rfl) ?_
      refine lv_iconst (v := nI 1) hx hb dX4_neighbour_66 (by decide +kernel) ?_
      refine lv_iadd hx hb dX4_neighbour_67 ?_
      refine e_top (nI_add _ _) ?_
      refine lv_goto (tgt := 72) hx hb dX4_neighbour_68 (by decide) ?_
      exact e_iret () hQ hx hb hr hlocks hP hD hS dX4_neighbour_72 (rvi (by unfold nb; rw [if_neg (by decide), if_neg (by decide), if_pos rfl]; first | (rw [if_neg (by omega)]; rfl) | (rw [if_pos (by omega)]; rfl))) (Nat.le_of_ble_eq_true rfl) (Nat.le_of_ble_eq_true rfl) (trivial)
  · refine lv_tableOut (tgt := 73) hx hb dX4_neighbour_6 (Or.inr (by decide +kernel)) (by decide) ?_
    refine lv_iload_n hx hb dX4_neighbour_73 rfl (lv_at hl 1 rfl) ?_
    refine lv_bipush (v := nI 72) hx hb dX4_neighbour_74 (by decide +kernel) ?_
    refine n_icmp_ge (x := x) (y := 72) (by omega) (by omega) (tgt := 86) hx hb dX4_neighbour_76 (by decide) (fun c76 => ?_) (fun c76 => ?_)
    · refine lv_iconst (v := (-1)) hx hb dX4_neighbour_86 (by decide +kernel) ?_
      exact e_iret () hQ hx hb hr hlocks hP hD hS dX4_neighbour_87 (rvi (by unfold nb; rw [if_neg (by decide), if_neg (by decide), if_neg (by decide)]; first | (rw [if_pos (by omega)]; rfl) | (rw [if_neg (by omega)]; rfl))) (Nat.le_of_ble_eq_true rfl) (Nat.le_of_ble_eq_true rfl) (trivial)
    · refine lv_iload_n hx hb dX4_neighbour_79 rfl (lv_at hl 1 rfl) ?_
      refine lv_bipush (v := nI 9) hx hb dX4_neighbour_80 (by decide +kernel) ?_
      refine lv_iadd hx hb dX4_neighbour_82 ?_
      refine e_top (nI_add _ _) ?_
      refine lv_goto (tgt := 87) hx hb dX4_neighbour_83 (by decide) ?_
      exact e_iret () hQ hx hb hr hlocks hP hD hS dX4_neighbour_87 (rvi (by unfold nb; rw [if_neg (by decide), if_neg (by decide), if_neg (by decide)]; first | (rw [if_pos (by omega)]; rfl) | (rw [if_neg (by omega)]; rfl))) (Nat.le_of_ble_eq_true rfl) (Nat.le_of_ble_eq_true rfl) (trivial)

abbrev rm_X0_groundOf : Room := { frames := 0, cells := 0, slots := 0, locals := 0 }
set_option maxHeartbeats 4000000 in
set_option maxRecDepth 100000 in
theorem c_X0_groundOf (l : Launch) (E : eT) (sz : Nat) (o : Nat) (a : Nat) (b : Nat) (d : Nat) (gr : Nat → Int32) (co : Nat → Int32) (hb_ : Nat → Bool) (mo : Int32) (j : Nat) (hj : j < 81) : cM l yX0_groundOf wsX0_groundOf rm_X0_groundOf E sz [.ref o, .int (nI j)] (wCo E o a b d gr co hb_ mo) (fun u : Unit => some (.int (gr j))) (fun u : Unit => True) (fun u : Unit => wCo E o a b d gr co hb_ mo) := by
  refine cM_intro (cc := cX0_groundOf) (maxL := 2) (ret := (some .int)) (by decide) rfl (Nat.le_of_ble_eq_true rfl) ?_
  intro p e s m args below meth cd hx hb hr hml hown hlocks hts hnm hK hsz hP A hD hA Q hQ ls hl
  have hown : s.vm.findClass RX0 = some m.cls := hown
  have hin0 : ∀ w ∈ u_ws RX0 TX0 4, w ∈ wsX0_groundOf := by decide +kernel
  have lk9 := hts (.fieldLink RX0 9 "ReefPilot$Coast" "ground" "[I") (by decide +kernel)
  have hS : va_S A s.heap s.heap [] := va_S.rf
  have hl : lv_has ls 2 [(0, .ref o), (1, .int (nI j))] := hl
  refine lv_aload_n hx hb dX0_groundOf_0 rfl (lv_at hl 0 rfl) ?_
  refine va_get (D := E.1) (ci := 0) (v := .ref a) (C := RX0) (T := TX0) (N := 4) hx hb hts hin0 hown hK.1 hP 0 rfl rfl 0 (by decide) lk9 (fun _ h9 => h9) rfl dX0_groundOf_1 ?_
  refine lv_iload_n hx hb dX0_groundOf_4 rfl (lv_at hl 1 rfl) ?_
  refine e_iald hK hP 1 rfl j (by omega) (by decide) hx hb dX0_groundOf_5 ?_
  exact e_iret () hQ hx hb hr hlocks hP hD hS dX0_groundOf_6 (rfl) (Nat.le_of_ble_eq_true rfl) (Nat.le_of_ble_eq_true rfl) (trivial)

abbrev rm_X0_coralOf : Room := { frames := 0, cells := 0, slots := 0, locals := 0 }
set_option maxHeartbeats 4000000 in
set_option maxRecDepth 100000 in
theorem c_X0_coralOf (l : Launch) (E : eT) (sz : Nat) (o : Nat) (a : Nat) (b : Nat) (d : Nat) (gr : Nat → Int32) (co : Nat → Int32) (hb_ : Nat → Bool) (mo : Int32) (j : Nat) (hj : j < 81) : cM l yX0_coralOf wsX0_coralOf rm_X0_coralOf E sz [.ref o, .int (nI j)] (wCo E o a b d gr co hb_ mo) (fun u : Unit => some (.int (co j))) (fun u : Unit => True) (fun u : Unit => wCo E o a b d gr co hb_ mo) := by
  refine cM_intro (cc := cX0_coralOf) (maxL := 2) (ret := (some .int)) (by decide) rfl (Nat.le_of_ble_eq_true rfl) ?_
  intro p e s m args below meth cd hx hb hr hml hown hlocks hts hnm hK hsz hP A hD hA Q hQ ls hl
  have hown : s.vm.findClass RX0 = some m.cls := hown
  have hin0 : ∀ w ∈ u_ws RX0 TX0 4, w ∈ wsX0_coralOf := by decide +kernel
  have lk15 := hts (.fieldLink RX0 15 "ReefPilot$Coast" "coral" "[I") (by decide +kernel)
  have hS : va_S A s.heap s.heap [] := va_S.rf
  have hl : lv_has ls 2 [(0, .ref o), (1, .int (nI j))] := hl
  refine lv_aload_n hx hb dX0_coralOf_0 rfl (lv_at hl 0 rfl) ?_
  refine va_get (D := E.1) (ci := 0) (v := .ref b) (C := RX0) (T := TX0) (N := 4) hx hb hts hin0 hown hK.1 hP 0 rfl rfl 1 (by decide) lk15 (fun _ h9 => h9) rfl dX0_coralOf_1 ?_
  refine lv_iload_n hx hb dX0_coralOf_4 rfl (lv_at hl 1 rfl) ?_
  refine e_iald hK hP 2 rfl j (by omega) (by decide) hx hb dX0_coralOf_5 ?_
  exact e_iret () hQ hx hb hr hlocks hP hD hS dX0_coralOf_6 (rfl) (Nat.le_of_ble_eq_true rfl) (Nat.le_of_ble_eq_true rfl) (trivial)

abbrev rm_X0_depthOf : Room := { frames := 1, cells := 0, slots := 0, locals := 13 }
set_option maxHeartbeats 4000000 in
set_option maxRecDepth 100000 in
theorem c_X0_depthOf (l : Launch) (E : eT) (sz : Nat) (o : Nat) (a : Nat) (b : Nat) (d : Nat) (gr : Nat → Int32) (co : Nat → Int32) (hb_ : Nat → Bool) (mo : Int32) (j : Nat) (hj : j < 81) : cM l yX0_depthOf wsX0_depthOf rm_X0_depthOf E sz [.ref o, .int (nI j)] (wCo E o a b d gr co hb_ mo) (fun u : Unit => some (.int (dep gr co j))) (fun u : Unit => True) (fun u : Unit => wCo E o a b d gr co hb_ mo) := by
  refine cM_intro (cc := cX0_depthOf) (maxL := 2) (ret := (some .int)) (by decide) rfl (Nat.le_of_ble_eq_true rfl) ?_
  intro p e s m args below meth cd hx hb hr hml hown hlocks hts hnm hK hsz hP A hD hA Q hQ ls hl
  have hown : s.vm.findClass RX0 = some m.cls := hown
  have hin0 : ∀ w ∈ u_ws RX0 TX0 4, w ∈ wsX0_depthOf := by decide +kernel
  have lk9 := hts (.fieldLink RX0 9 "ReefPilot$Coast" "ground" "[I") (by decide +kernel)
  have lk15 := hts (.fieldLink RX0 15 "ReefPilot$Coast" "coral" "[I") (by decide +kernel)
  have hamcmax := hts (.code Lib.Math.max.name Lib.Math.max.code 2 (some .int)) (by decide +kernel)
  have hamini := hts (.initialized "java/lang/Math") (by decide +kernel)
  have haml44 := hts (.methodLink RX0 44 Lib.Math.max.name) (by decide +kernel)
  have hamsmax := hts (.static Lib.Math.max.name) (by decide +kernel)
  have hS : va_S A s.heap s.heap [] := va_S.rf
  have hl : lv_has ls 2 [(0, .ref o), (1, .int (nI j))] := hl
  refine lv_aload_n hx hb dX0_depthOf_0 rfl (lv_at hl 0 rfl) ?_
  refine va_get (D := E.1) (ci := 0) (v := .ref a) (C := RX0) (T := TX0) (N := 4) hx hb hts hin0 hown hK.1 hP 0 rfl rfl 0 (by decide) lk9 (fun _ h9 => h9) rfl dX0_depthOf_1 ?_
  refine lv_iload_n hx hb dX0_depthOf_4 rfl (lv_at hl 1 rfl) ?_
  refine e_iald hK hP 1 rfl j (by omega) (by decide) hx hb dX0_depthOf_5 ?_
  refine lv_aload_n hx hb dX0_depthOf_6 rfl (lv_at hl 0 rfl) ?_
  refine va_get (D := E.1) (ci := 0) (v := .ref b) (C := RX0) (T := TX0) (N := 4) hx hb hts hin0 hown hK.1 hP 0 rfl rfl 1 (by decide) lk15 (fun _ h9 => h9) rfl dX0_depthOf_7 ?_
  refine lv_iload_n hx hb dX0_depthOf_10 rfl (lv_at hl 1 rfl) ?_
  refine e_iald hK hP 2 rfl j (by omega) (by decide) hx hb dX0_depthOf_11 ?_
  refine lv_isub hx hb dX0_depthOf_12 ?_
  refine lv_iconst (v := nI 0) hx hb dX0_depthOf_13 (by decide +kernel) ?_
  refine va_mmax hx hb (by rw [hml]; exact hl.1.symm) hown haml44 hamsmax hamini hamcmax (Nat.le_of_ble_eq_true rfl) (Nat.le_of_ble_eq_true rfl) (Nat.le_of_ble_eq_true rfl) (Nat.le_of_ble_eq_true rfl) dX0_depthOf_14 ?_
  refine e_top (y := iMax ((gr j) - (co j)) (nI 0)) rfl ?_
  exact e_iret () hQ hx hb hr hlocks hP hD hS dX0_depthOf_17 (rfl) (Nat.le_of_ble_eq_true rfl) (Nat.le_of_ble_eq_true rfl) (trivial)

abbrev rm_X0_isHead : Room := { frames := 0, cells := 0, slots := 0, locals := 0 }
set_option maxHeartbeats 4000000 in
set_option maxRecDepth 100000 in
theorem c_X0_isHead (l : Launch) (E : eT) (sz : Nat) (o : Nat) (a : Nat) (b : Nat) (d : Nat) (gr : Nat → Int32) (co : Nat → Int32) (hb_ : Nat → Bool) (mo : Int32) (j : Nat) (hj : j < 81) : cM l yX0_isHead wsX0_isHead rm_X0_isHead E sz [.ref o, .int (nI j)] (wCo E o a b d gr co hb_ mo) (fun u : Unit => some (.int (b2i (hd co j)))) (fun u : Unit => True) (fun u : Unit => wCo E o a b d gr co hb_ mo) := by
  refine cM_intro (cc := cX0_isHead) (maxL := 2) (ret := (some .boolean)) (by decide) rfl (Nat.le_of_ble_eq_true rfl) ?_
  intro p e s m args below meth cd hx hb hr hml hown hlocks hts hnm hK hsz hP A hD hA Q hQ ls hl
  have hown : s.vm.findClass RX0 = some m.cls := hown
  have hin0 : ∀ w ∈ u_ws RX0 TX0 4, w ∈ wsX0_isHead := by decide +kernel
  have lk15 := hts (.fieldLink RX0 15 "ReefPilot$Coast" "coral" "[I") (by decide +kernel)
  have hS : va_S A s.heap s.heap [] := va_S.rf
  have hl : lv_has ls 2 [(0, .ref o), (1, .int (nI j))] := hl
  refine lv_aload_n hx hb dX0_isHead_0 rfl (lv_at hl 0 rfl) ?_
  refine va_get (D := E.1) (ci := 0) (v := .ref b) (C := RX0) (T := TX0) (N := 4) hx hb hts hin0 hown hK.1 hP 0 rfl rfl 1 (by decide) lk15 (fun _ h9 => h9) rfl dX0_isHead_1 ?_
  refine lv_iload_n hx hb dX0_isHead_4 rfl (lv_at hl 1 rfl) ?_
  refine e_iald hK hP 2 rfl j (by omega) (by decide) hx hb dX0_isHead_5 ?_
  refine lv_iconst (v := nI 5) hx hb dX0_isHead_6 (by decide +kernel) ?_
  refine lv_icmp_lt (tgt := 14) hx hb dX0_isHead_7 (by decide) (fun c7 => ?_) (fun c7 => ?_)
  · refine lv_iconst (v := nI 0) hx hb dX0_isHead_14 (by decide +kernel) ?_
    exact e_zret () hQ hx hb hr hlocks hP hD hS dX0_isHead_15 (rvi (b2i_f (hd_f c7))) (Nat.le_of_ble_eq_true rfl) (Nat.le_of_ble_eq_true rfl) (by first | exact b2i_narrow _ | rfl | decide +kernel) (trivial)
  · refine lv_iconst (v := nI 1) hx hb dX0_isHead_10 (by decide +kernel) ?_
    refine lv_goto (tgt := 15) hx hb dX0_isHead_11 (by decide) ?_
    exact e_zret () hQ hx hb hr hlocks hP hD hS dX0_isHead_15 (rvi (b2i_t (hd_t c7))) (Nat.le_of_ble_eq_true rfl) (Nat.le_of_ble_eq_true rfl) (by first | exact b2i_narrow _ | rfl | decide +kernel) (trivial)

abbrev rm_X0_monthNow : Room := { frames := 0, cells := 0, slots := 0, locals := 0 }
set_option maxHeartbeats 4000000 in
set_option maxRecDepth 100000 in
theorem c_X0_monthNow (l : Launch) (E : eT) (sz : Nat) (o : Nat) (a : Nat) (b : Nat) (d : Nat) (gr : Nat → Int32) (co : Nat → Int32) (hb_ : Nat → Bool) (mo : Int32) : cM l yX0_monthNow wsX0_monthNow rm_X0_monthNow E sz [.ref o] (wCo E o a b d gr co hb_ mo) (fun u : Unit => some (.int mo)) (fun u : Unit => True) (fun u : Unit => wCo E o a b d gr co hb_ mo) := by
  refine cM_intro (cc := cX0_monthNow) (maxL := 1) (ret := (some .int)) (by decide) rfl (Nat.le_of_ble_eq_true rfl) ?_
  intro p e s m args below meth cd hx hb hr hml hown hlocks hts hnm hK hsz hP A hD hA Q hQ ls hl
  have hown : s.vm.findClass RX0 = some m.cls := hown
  have hin0 : ∀ w ∈ u_ws RX0 TX0 4, w ∈ wsX0_monthNow := by decide +kernel
  have lk34 := hts (.fieldLink RX0 34 "ReefPilot$Coast" "month" "I") (by decide +kernel)
  have hS : va_S A s.heap s.heap [] := va_S.rf
  have hl : lv_has ls 1 [(0, .ref o)] := hl
  refine lv_aload_n hx hb dX0_monthNow_0 rfl (lv_at hl 0 rfl) ?_
  refine va_get (D := E.1) (ci := 0) (v := .int mo) (C := RX0) (T := TX0) (N := 4) hx hb hts hin0 hown hK.1 hP 0 rfl rfl 3 (by decide) lk34 (fun _ h9 => h9) rfl dX0_monthNow_1 ?_
  exact e_iret () hQ hx hb hr hlocks hP hD hS dX0_monthNow_4 (rfl) (Nat.le_of_ble_eq_true rfl) (Nat.le_of_ble_eq_true rfl) (trivial)

abbrev rm_X0_layGround : Room := { frames := 1, cells := 0, slots := 0, locals := 15 }
set_option maxHeartbeats 4000000 in
set_option maxRecDepth 100000 in
theorem c_X0_layGround (l : Launch) (E : eT) (sz : Nat) (o : Nat) (a : Nat) (b : Nat) (d : Nat) (gr : Nat → Int32) (co : Nat → Int32) (hb_ : Nat → Bool) (mo : Int32) (j : Nat) (v : Int32) (hj : j < 81) : cM l yX0_layGround wsX0_layGround rm_X0_layGround E sz [.ref o, .int (nI j), .int v] (wCo E o a b d gr co hb_ mo) (fun u : Unit => some (.int (gr j))) (fun u : Unit => True) (fun u : Unit => wCo E o a b d (upd gr j v) (upd co j (iMin (co j) v)) hb_ mo) := by
  refine cM_intro (cc := cX0_layGround) (maxL := 4) (ret := (some .int)) (by decide) rfl (Nat.le_of_ble_eq_true rfl) ?_
  intro p e s m args below meth cd hx hb hr hml hown hlocks hts hnm hK hsz hP A hD hA Q hQ ls hl
  have hown : s.vm.findClass RX0 = some m.cls := hown
  have hin0 : ∀ w ∈ u_ws RX0 TX0 4, w ∈ wsX0_layGround := by decide +kernel
  have lk9 := hts (.fieldLink RX0 9 "ReefPilot$Coast" "ground" "[I") (by decide +kernel)
  have lk15 := hts (.fieldLink RX0 15 "ReefPilot$Coast" "coral" "[I") (by decide +kernel)
  have hamcmin := hts (.code Lib.Math.min.name Lib.Math.min.code 2 (some .int)) (by decide +kernel)
  have hamini := hts (.initialized "java/lang/Math") (by decide +kernel)
  have haml38 := hts (.methodLink RX0 38 Lib.Math.min.name) (by decide +kernel)
  have hamsmin := hts (.static Lib.Math.min.name) (by decide +kernel)
  have hS : va_S A s.heap s.heap [] := va_S.rf
  have hl : lv_has ls 4 [(0, .ref o), (1, .int (nI j)), (2, .int v)] := hl
  refine lv_aload_n hx hb dX0_layGround_0 rfl (lv_at hl 0 rfl) ?_
  refine va_get (D := E.1) (ci := 0) (v := .ref a) (C := RX0) (T := TX0) (N := 4) hx hb hts hin0 hown hK.1 hP 0 rfl rfl 0 (by decide) lk9 (fun _ h9 => h9) rfl dX0_layGround_1 ?_
  refine lv_iload_n hx hb dX0_layGround_4 rfl (lv_at hl 1 rfl) ?_
  refine e_iald hK hP 1 rfl j (by omega) (by decide) hx hb dX0_layGround_5 ?_
  refine lv_istore_n (lv' := [(3, .int (gr j)), (0, .ref o), (1, .int (nI j)), (2, .int v)]) hx hb dX0_layGround_6 rfl hl (by decide) rfl (fun ls hl => ?_)
  refine lv_aload_n hx hb dX0_layGround_7 rfl (lv_at hl 1 rfl) ?_
  refine va_get (D := E.1) (ci := 0) (v := .ref a) (C := RX0) (T := TX0) (N := 4) hx hb hts hin0 hown hK.1 hP 0 rfl rfl 0 (by decide) lk9 (fun _ h9 => h9) rfl dX0_layGround_8 ?_
  refine lv_iload_n hx hb dX0_layGround_11 rfl (lv_at hl 2 rfl) ?_
  refine lv_iload_n hx hb dX0_layGround_12 rfl (lv_at hl 3 rfl) ?_
  refine e_iast hK hP hD hS 1 rfl j (by omega) (by decide) hx hb dX0_layGround_13 (fun H locs hP hD hS => ?_)
  have hP : va_P E.1 vwCl (wCo E o a b d (upd gr j v) co hb_ mo) H := hP
  have hD : va_D A (wCo E o a b d (upd gr j v) co hb_ mo) := hD
  refine lv_aload_n hx hb dX0_layGround_14 rfl (lv_at hl 1 rfl) ?_
  refine va_get (D := E.1) (ci := 0) (v := .ref b) (C := RX0) (T := TX0) (N := 4) hx hb hts hin0 hown hK.1 hP 0 rfl rfl 1 (by decide) lk15 (fun _ h9 => h9) rfl dX0_layGround_15 ?_
  refine lv_iload_n hx hb dX0_layGround_18 rfl (lv_at hl 2 rfl) ?_
  refine lv_aload_n hx hb dX0_layGround_19 rfl (lv_at hl 1 rfl) ?_
  refine va_get (D := E.1) (ci := 0) (v := .ref b) (C := RX0) (T := TX0) (N := 4) hx hb hts hin0 hown hK.1 hP 0 rfl rfl 1 (by decide) lk15 (fun _ h9 => h9) rfl dX0_layGround_20 ?_
  refine lv_iload_n hx hb dX0_layGround_23 rfl (lv_at hl 2 rfl) ?_
  refine e_iald hK hP 2 rfl j (by omega) (by decide) hx hb dX0_layGround_24 ?_
  refine lv_iload_n hx hb dX0_layGround_25 rfl (lv_at hl 3 rfl) ?_
  refine va_mmin hx hb (by rw [hml]; exact hl.1.symm) hown haml38 hamsmin hamini hamcmin (Nat.le_of_ble_eq_true rfl) (Nat.le_of_ble_eq_true rfl) (Nat.le_of_ble_eq_true rfl) (Nat.le_of_ble_eq_true rfl) dX0_layGround_26 ?_
  refine e_top (y := iMin (co j) v) rfl ?_
  refine e_iast hK hP hD hS 2 rfl j (by omega) (by decide) hx hb dX0_layGround_29 (fun H locs hP hD hS => ?_)
  have hP : va_P E.1 vwCl (wCo E o a b d (upd gr j v) (upd co j (iMin (co j) v)) hb_ mo) H := hP
  have hD : va_D A (wCo E o a b d (upd gr j v) (upd co j (iMin (co j) v)) hb_ mo) := hD
  refine lv_iload_n hx hb dX0_layGround_30 rfl (lv_at hl 0 rfl) ?_
  exact e_iret () hQ hx hb hr hlocks hP hD hS dX0_layGround_31 (rfl) (Nat.le_of_ble_eq_true rfl) (Nat.le_of_ble_eq_true rfl) (trivial)

abbrev rm_X0_setCoral : Room := { frames := 0, cells := 0, slots := 0, locals := 0 }
set_option maxHeartbeats 4000000 in
set_option maxRecDepth 100000 in
theorem c_X0_setCoral (l : Launch) (E : eT) (sz : Nat) (o : Nat) (a : Nat) (b : Nat) (d : Nat) (gr : Nat → Int32) (co : Nat → Int32) (hb_ : Nat → Bool) (mo : Int32) (j : Nat) (v : Int32) (hj : j < 81) : cM l yX0_setCoral wsX0_setCoral rm_X0_setCoral E sz [.ref o, .int (nI j), .int v] (wCo E o a b d gr co hb_ mo) (fun u : Unit => some (.int (co j))) (fun u : Unit => True) (fun u : Unit => wCo E o a b d gr (upd co j v) hb_ mo) := by
  refine cM_intro (cc := cX0_setCoral) (maxL := 4) (ret := (some .int)) (by decide) rfl (Nat.le_of_ble_eq_true rfl) ?_
  intro p e s m args below meth cd hx hb hr hml hown hlocks hts hnm hK hsz hP A hD hA Q hQ ls hl
  have hown : s.vm.findClass RX0 = some m.cls := hown
  have hin0 : ∀ w ∈ u_ws RX0 TX0 4, w ∈ wsX0_setCoral := by decide +kernel
  have lk15 := hts (.fieldLink RX0 15 "ReefPilot$Coast" "coral" "[I") (by decide +kernel)
  have hS : va_S A s.heap s.heap [] := va_S.rf
  have hl : lv_has ls 4 [(0, .ref o), (1, .int (nI j)), (2, .int v)] := hl
  refine lv_aload_n hx hb dX0_setCoral_0 rfl (lv_at hl 0 rfl) ?_
  refine va_get (D := E.1) (ci := 0) (v := .ref b) (C := RX0) (T := TX0) (N := 4) hx hb hts hin0 hown hK.1 hP 0 rfl rfl 1 (by decide) lk15 (fun _ h9 => h9) rfl dX0_setCoral_1 ?_
  refine lv_iload_n hx hb dX0_setCoral_4 rfl (lv_at hl 1 rfl) ?_
  refine e_iald hK hP 2 rfl j (by omega) (by decide) hx hb dX0_setCoral_5 ?_
  refine lv_istore_n (lv' := [(3, .int (co j)), (0, .ref o), (1, .int (nI j)), (2, .int v)]) hx hb dX0_setCoral_6 rfl hl (by decide) rfl (fun ls hl => ?_)
  refine lv_aload_n hx hb dX0_setCoral_7 rfl (lv_at hl 1 rfl) ?_
  refine va_get (D := E.1) (ci := 0) (v := .ref b) (C := RX0) (T := TX0) (N := 4) hx hb hts hin0 hown hK.1 hP 0 rfl rfl 1 (by decide) lk15 (fun _ h9 => h9) rfl dX0_setCoral_8 ?_
  refine lv_iload_n hx hb dX0_setCoral_11 rfl (lv_at hl 2 rfl) ?_
  refine lv_iload_n hx hb dX0_setCoral_12 rfl (lv_at hl 3 rfl) ?_
  refine e_iast hK hP hD hS 2 rfl j (by omega) (by decide) hx hb dX0_setCoral_13 (fun H locs hP hD hS => ?_)
  have hP : va_P E.1 vwCl (wCo E o a b d gr (upd co j v) hb_ mo) H := hP
  have hD : va_D A (wCo E o a b d gr (upd co j v) hb_ mo) := hD
  refine lv_iload_n hx hb dX0_setCoral_14 rfl (lv_at hl 0 rfl) ?_
  exact e_iret () hQ hx hb hr hlocks hP hD hS dX0_setCoral_15 (rfl) (Nat.le_of_ble_eq_true rfl) (Nat.le_of_ble_eq_true rfl) (trivial)

abbrev rm_X0_heads : Room := { frames := 1, cells := 0, slots := 0, locals := 21 }
set_option maxHeartbeats 4000000 in
set_option maxRecDepth 100000 in
theorem c_X0_heads (l : Launch) (E : eT) (sz : Nat) (o : Nat) (a : Nat) (b : Nat) (d : Nat) (gr : Nat → Int32) (co : Nat → Int32) (hb_ : Nat → Bool) (mo : Int32) : cM l yX0_heads wsX0_heads rm_X0_heads E sz [.ref o] (wCo E o a b d gr co hb_ mo) (fun u : Unit => some (.int (nI (heads co)))) (fun u : Unit => True) (fun u : Unit => wCo E o a b d gr co hb_ mo) := by
  refine cM_intro (cc := cX0_heads) (maxL := 3) (ret := (some .int)) (by decide) rfl (Nat.le_of_ble_eq_true rfl) ?_
  intro p e s m args below meth cd hx hb hr hml hown hlocks hts hnm hK hsz hP A hD hA Q hQ ls hl
  have hown : s.vm.findClass RX0 = some m.cls := hown
  have hS : va_S A s.heap s.heap [] := va_S.rf
  have hl : lv_has ls 3 [(0, .ref o)] := hl
  refine lv_iconst (v := nI 0) hx hb dX0_heads_0 (by decide +kernel) ?_
  refine lv_istore_n (lv' := [(1, .int (nI 0)), (0, .ref o)]) hx hb dX0_heads_1 rfl hl (by decide) rfl (fun ls hl => ?_)
  refine lv_iconst (v := nI 0) hx hb dX0_heads_2 (by decide +kernel) ?_
  refine lv_istore_n (lv' := [(2, .int (nI 0)), (1, .int (nI 0)), (0, .ref o)]) hx hb dX0_heads_3 rfl hl (by decide) rfl (fun ls hl => ?_)
  have L4 : ∀ (fuel : Nat) (x : Nat) (z : Nat) (hz : z ≤ 81) (hx_ : x = fb_ct (hd co) z) (hfuel : 81 - z < fuel) (H : Heap) (locs : List Loc), va_P E.1 vwCl (wCo E o a b d gr co hb_ mo) H → va_D A (wCo E o a b d gr co hb_ mo) → va_S A s.heap H locs → ∀ ls : Array Slot, lv_has ls 3 [(2, .int (nI z)), (1, .int (nI x)), (0, .ref o)] → W p l e rm_X0_heads s m args below meth cd H locs 0 0 Q (F0 m 4 ls []) := by
    intro fuel
    induction fuel with
    | zero => intros; omega
    | succ fuel ihL4 =>
      intro x z hz hx_ hfuel H locs hP hD hS ls hl
      refine lv_iload_n hx hb dX0_heads_4 rfl (lv_at hl 0 rfl) ?_
      have hxz := fb_ct_le (hd co) z
      refine lv_bipush (v := nI 81) hx hb dX0_heads_5 (by decide +kernel) ?_
      refine n_icmp_ge (x := z) (y := 81) (by omega) (by omega) (tgt := 27) hx hb dX0_heads_7 (by decide) (fun c7 => ?_) (fun c7 => ?_)
      · refine lv_iload_n hx hb dX0_heads_27 rfl (lv_at hl 1 rfl) ?_
        exact e_iret () hQ hx hb hr hlocks hP hD hS dX0_heads_28 (rvi (by rw [hx_, show z = 81 by omega]; rfl)) (Nat.le_of_ble_eq_true rfl) (Nat.le_of_ble_eq_true rfl) (trivial)
      · refine lv_aload_n hx hb dX0_heads_10 rfl (lv_at hl 2 rfl) ?_
        refine lv_iload_n hx hb dX0_heads_11 rfl (lv_at hl 0 rfl) ?_
        refine e_callV (As := [.int (nI z)]) (rest := []) ⟨hx, hb, hml, hown, hts⟩ hK hP hD hS hA hl.1 (c_X0_isHead l E _ o a b d gr co hb_ mo z (by omega)) (cwV 1 hts gX0_heads_X0_isHead rfl rfl rfl (by decide +kernel) ⟨Nat.le_of_ble_eq_true rfl, Nat.le_of_ble_eq_true rfl⟩) [0, 1, 2, 3] [] rfl rfl rfl rfl (by decide) (q0 := 0) (ci := 0) rfl rfl rfl rfl (Nat.le_of_ble_eq_true rfl) dX0_heads_12 ⟨Nat.le_of_ble_eq_true rfl, Nat.le_of_ble_eq_true rfl⟩ (fun u_1 H locs hu_2 hz hP hD hS => ?_)
        have hP : va_P E.1 vwCl (wCo E o a b d gr co hb_ mo) H := hP.sub [0, 1, 2, 3] rfl
        have hD : va_D A (wCo E o a b d gr co hb_ mo) := hD.sub [0, 1, 2, 3] (by decide) rfl
        refine W.eq (g2 := F0 m 15 ls [.int (b2i (hd co z))]) rfl ?_
        refine b_if_eq (x := hd co z) (tgt := 21) hx hb dX0_heads_15 (by decide) (fun c15 => ?_) (fun c15 => ?_)
        · refine lv_iinc (v := nI (z + 1)) (lv' := [(2, .int (nI (z + 1))), (1, .int (nI x)), (0, .ref o)]) hx hb dX0_heads_21 hl (k := 0) rfl (nI_add z 1) (by decide) rfl (fun ls hl => ?_)
          refine lv_goto (tgt := 4) hx hb dX0_heads_24 (by decide) ?_
          exact L4 (81 - (z + 1) + 1) x (z + 1) (by first | omega | assumption | rfl | (simp_all; done)) (by subst hx_; simp [fb_ct_succ, c15]) (Nat.lt_succ_self _) _ _ hP hD hS _ (lv_sub hl [0, 1, 2] rfl)
        · refine lv_iinc (v := nI (x + 1)) (lv' := [(1, .int (nI (x + 1))), (2, .int (nI z)), (0, .ref o)]) hx hb dX0_heads_18 hl (k := 1) rfl (nI_add x 1) (by decide) rfl (fun ls hl => ?_)
          refine lv_iinc (v := nI (z + 1)) (lv' := [(2, .int (nI (z + 1))), (1, .int (nI (x + 1))), (0, .ref o)]) hx hb dX0_heads_21 hl (k := 1) rfl (nI_add z 1) (by decide) rfl (fun ls hl => ?_)
          refine lv_goto (tgt := 4) hx hb dX0_heads_24 (by decide) ?_
          exact L4 (81 - (z + 1) + 1) (x + 1) (z + 1) (by first | omega | assumption | rfl | (simp_all; done)) (by subst hx_; simp [fb_ct_succ, c15]) (Nat.lt_succ_self _) _ _ hP hD hS _ (lv_sub hl [0, 1, 2] rfl)
  exact L4 (81 - 0 + 1) 0 0 (by first | omega | assumption | rfl | (simp_all; done)) (rfl) (Nat.lt_succ_self _) _ _ hP hD hS _ (lv_sub hl [0, 1, 2] rfl)

abbrev rm_X0_allCoral : Room := { frames := 0, cells := 0, slots := 0, locals := 0 }
set_option maxHeartbeats 4000000 in
set_option maxRecDepth 100000 in
theorem c_X0_allCoral (l : Launch) (E : eT) (sz : Nat) (o : Nat) (a : Nat) (b : Nat) (d : Nat) (gr : Nat → Int32) (co : Nat → Int32) (hb_ : Nat → Bool) (mo : Int32) : cM l yX0_allCoral wsX0_allCoral rm_X0_allCoral E sz [.ref o] (wCo E o a b d gr co hb_ mo) (fun u : Unit => some (.int (sumI co 81))) (fun u : Unit => True) (fun u : Unit => wCo E o a b d gr co hb_ mo) := by
  refine cM_intro (cc := cX0_allCoral) (maxL := 3) (ret := (some .int)) (by decide) rfl (Nat.le_of_ble_eq_true rfl) ?_
  intro p e s m args below meth cd hx hb hr hml hown hlocks hts hnm hK hsz hP A hD hA Q hQ ls hl
  have hown : s.vm.findClass RX0 = some m.cls := hown
  have hin0 : ∀ w ∈ u_ws RX0 TX0 4, w ∈ wsX0_allCoral := by decide +kernel
  have lk15 := hts (.fieldLink RX0 15 "ReefPilot$Coast" "coral" "[I") (by decide +kernel)
  have hS : va_S A s.heap s.heap [] := va_S.rf
  have hl : lv_has ls 3 [(0, .ref o)] := hl
  refine lv_iconst (v := nI 0) hx hb dX0_allCoral_0 (by decide +kernel) ?_
  refine lv_istore_n (lv' := [(1, .int (nI 0)), (0, .ref o)]) hx hb dX0_allCoral_1 rfl hl (by decide) rfl (fun ls hl => ?_)
  refine lv_iconst (v := nI 0) hx hb dX0_allCoral_2 (by decide +kernel) ?_
  refine lv_istore_n (lv' := [(2, .int (nI 0)), (1, .int (nI 0)), (0, .ref o)]) hx hb dX0_allCoral_3 rfl hl (by decide) rfl (fun ls hl => ?_)
  have L4 : ∀ (fuel : Nat) (x : Int32) (z : Nat) (hz : z ≤ 81) (hx_ : x = sumI co z) (hfuel : 81 - z < fuel) (H : Heap) (locs : List Loc), va_P E.1 vwCl (wCo E o a b d gr co hb_ mo) H → va_D A (wCo E o a b d gr co hb_ mo) → va_S A s.heap H locs → ∀ ls : Array Slot, lv_has ls 3 [(2, .int (nI z)), (1, .int x), (0, .ref o)] → W p l e rm_X0_allCoral s m args below meth cd H locs 0 0 Q (F0 m 4 ls []) := by
    intro fuel
    induction fuel with
    | zero => intros; omega
    | succ fuel ihL4 =>
      intro x z hz hx_ hfuel H locs hP hD hS ls hl
      refine lv_iload_n hx hb dX0_allCoral_4 rfl (lv_at hl 0 rfl) ?_
      refine lv_bipush (v := nI 81) hx hb dX0_allCoral_5 (by decide +kernel) ?_
      refine n_icmp_ge (x := z) (y := 81) (by omega) (by omega) (tgt := 25) hx hb dX0_allCoral_7 (by decide) (fun c7 => ?_) (fun c7 => ?_)
      · refine lv_iload_n hx hb dX0_allCoral_25 rfl (lv_at hl 1 rfl) ?_
        exact e_iret () hQ hx hb hr hlocks hP hD hS dX0_allCoral_26 (rvi (by rw [hx_, show z = 81 by omega])) (Nat.le_of_ble_eq_true rfl) (Nat.le_of_ble_eq_true rfl) (trivial)
      · refine lv_iload_n hx hb dX0_allCoral_10 rfl (lv_at hl 1 rfl) ?_
        refine lv_aload_n hx hb dX0_allCoral_11 rfl (lv_at hl 2 rfl) ?_
        refine va_get (D := E.1) (ci := 0) (v := .ref b) (C := RX0) (T := TX0) (N := 4) hx hb hts hin0 hown hK.1 hP 0 rfl rfl 1 (by decide) lk15 (fun _ h9 => h9) rfl dX0_allCoral_12 ?_
        refine lv_iload_n hx hb dX0_allCoral_15 rfl (lv_at hl 0 rfl) ?_
        refine e_iald hK hP 2 rfl z (by omega) (by decide) hx hb dX0_allCoral_16 ?_
        refine lv_iadd hx hb dX0_allCoral_17 ?_
        refine lv_istore_n (lv' := [(1, .int (x + (co z))), (2, .int (nI z)), (0, .ref o)]) hx hb dX0_allCoral_18 rfl hl (by decide) rfl (fun ls hl => ?_)
        refine lv_iinc (v := nI (z + 1)) (lv' := [(2, .int (nI (z + 1))), (1, .int (x + (co z))), (0, .ref o)]) hx hb dX0_allCoral_19 hl (k := 1) rfl (nI_add z 1) (by decide) rfl (fun ls hl => ?_)
        refine lv_goto (tgt := 4) hx hb dX0_allCoral_22 (by decide) ?_
        exact L4 (81 - (z + 1) + 1) (x + (co z)) (z + 1) (by first | omega | assumption | rfl | (simp_all; done)) (by rw [hx_]; rfl) (Nat.lt_succ_self _) _ _ hP hD hS _ (lv_sub hl [0, 1, 2] rfl)
  exact L4 (81 - 0 + 1) (nI 0) 0 (by first | omega | assumption | rfl | (simp_all; done)) (rfl) (Nat.lt_succ_self _) _ _ hP hD hS _ (lv_sub hl [0, 1, 2] rfl)
