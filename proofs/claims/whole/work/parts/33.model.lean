abbrev rm_X5_isIn : Room := { frames := 0, cells := 0, slots := 0, locals := 0 }
set_option maxHeartbeats 4000000 in
set_option maxRecDepth 100000 in
theorem c_X5_isIn (l : Launch) (E : eT) (sz : Nat) (v : Int32) (lo : Int32) (hi : Int32) : cM l yX5_isIn wsX5_isIn rm_X5_isIn E sz [.int v, .int lo, .int hi] ([]) (fun u : Unit => some (.int (b2i (isInB v lo hi)))) (fun u : Unit => True) (fun u : Unit => []) := by
  refine cM_intro (cc := cX5_isIn) (maxL := 3) (ret := (some .boolean)) (by decide +kernel) rfl (Nat.le_of_ble_eq_true rfl) ?_
  intro p e s m args below meth cd hx hb hr hml hown hlocks hts hnm hK hsz hP A hD hA Q hQ ls hl
  have hown : s.vm.findClass RX5 = some m.cls := hown
  have hS : va_S A s.heap s.heap [] := va_S.rf
  have hl : lv_has ls 3 [(0, .int v), (1, .int lo), (2, .int hi)] := hl
  refine lv_iload_n hx hb dX5_isIn_0 rfl (lv_at hl 0 rfl) ?_
  refine lv_iload_n hx hb dX5_isIn_1 rfl (lv_at hl 1 rfl) ?_
  refine lv_icmp_lt (tgt := 14) hx hb dX5_isIn_2 (by decide) (fun c2 => ?_) (fun c2 => ?_)
  · refine lv_iconst (v := nI 0) hx hb dX5_isIn_14 (by decide +kernel) ?_
    exact e_zret () hQ hx hb hr hlocks hP hD hS dX5_isIn_15 (rvi (b2i_f (by first | exact isInB_f1 c2 | exact isInB_f2 c7))) (Nat.le_of_ble_eq_true rfl) (Nat.le_of_ble_eq_true rfl) (by first | exact b2i_narrow _ | rfl | decide +kernel) (trivial)
  · refine lv_iload_n hx hb dX5_isIn_5 rfl (lv_at hl 0 rfl) ?_
    refine lv_iload_n hx hb dX5_isIn_6 rfl (lv_at hl 2 rfl) ?_
    refine lv_icmp_gt (tgt := 14) hx hb dX5_isIn_7 (by decide) (fun c7 => ?_) (fun c7 => ?_)
    · refine lv_iconst (v := nI 0) hx hb dX5_isIn_14 (by decide +kernel) ?_
      exact e_zret () hQ hx hb hr hlocks hP hD hS dX5_isIn_15 (rvi (b2i_f (by first | exact isInB_f1 c2 | exact isInB_f2 c7))) (Nat.le_of_ble_eq_true rfl) (Nat.le_of_ble_eq_true rfl) (by first | exact b2i_narrow _ | rfl | decide +kernel) (trivial)
    · refine lv_iconst (v := nI 1) hx hb dX5_isIn_10 (by decide +kernel) ?_
      refine lv_goto (tgt := 15) hx hb dX5_isIn_11 (by decide) ?_
      exact e_zret () hQ hx hb hr hlocks hP hD hS dX5_isIn_15 (rvi (b2i_t (isInB_t c2 c7))) (Nat.le_of_ble_eq_true rfl) (Nat.le_of_ble_eq_true rfl) (by first | exact b2i_narrow _ | rfl | decide +kernel) (trivial)

abbrev rm_X5_isCell : Room := { frames := 1, cells := 0, slots := 0, locals := 22 }
set_option maxHeartbeats 4000000 in
set_option maxRecDepth 100000 in
theorem c_X5_isCell (l : Launch) (E : eT) (sz : Nat) (x : Int32) (y : Int32) : cM l yX5_isCell wsX5_isCell rm_X5_isCell E sz [.int x, .int y] ([]) (fun u : Unit => some (.int (b2i (isCellB x y)))) (fun u : Unit => True) (fun u : Unit => []) := by
  refine cM_intro (cc := cX5_isCell) (maxL := 2) (ret := (some .boolean)) (by decide +kernel) rfl (Nat.le_of_ble_eq_true rfl) ?_
  intro p e s m args below meth cd hx hb hr hml hown hlocks hts hnm hK hsz hP A hD hA Q hQ ls hl
  have hown : s.vm.findClass RX5 = some m.cls := hown
  have hS : va_S A s.heap s.heap [] := va_S.rf
  have hl : lv_has ls 2 [(0, .int x), (1, .int y)] := hl
  refine lv_iload_n hx hb dX5_isCell_0 rfl (lv_at hl 0 rfl) ?_
  refine lv_iconst (v := nI 0) hx hb dX5_isCell_1 (by decide +kernel) ?_
  refine lv_bipush (v := nI 8) hx hb dX5_isCell_2 (by decide +kernel) ?_
  refine e_callS (As := [.int x, .int (nI 0), .int (nI 8)]) (rest := []) ⟨hx, hb, hml, hown, hts⟩ hK hP hD hS hA hl.1 (c_X5_isIn l E _ x (nI 0) (nI 8)) (va_cwS 3 hts gX5_isCell_X5_isIn rfl rfl rfl (by decide +kernel) ⟨Nat.le_of_ble_eq_true rfl, Nat.le_of_ble_eq_true rfl⟩) [] [] rfl rfl rfl rfl (by decide) rfl rfl (Nat.le_of_ble_eq_true rfl) dX5_isCell_4 ⟨Nat.le_of_ble_eq_true rfl, Nat.le_of_ble_eq_true rfl⟩ (fun u_1 H locs hu_2 hsz1 hP hD hS => ?_)
  have hP : va_P E.1 vwCl ([]) H := hP.sub [] rfl
  have hD : va_D A ([]) := hD.sub [] (by decide) rfl
  refine W.eq (g2 := F0 m 7 ls [.int (b2i (isInB x (nI 0) (nI 8)))]) rfl ?_
  refine b_if_eq (x := isInB x (nI 0) (nI 8)) (tgt := 24) hx hb dX5_isCell_7 (by decide) (fun c7 => ?_) (fun c7 => ?_)
  · refine lv_iconst (v := nI 0) hx hb dX5_isCell_24 (by decide +kernel) ?_
    exact e_zret () hQ hx hb hr hlocks hP hD hS dX5_isCell_25 (rvi (b2i_f (by unfold isCellB; first | (rw [c7]; rfl) | (rw [c17]; exact Bool.and_false _)))) (Nat.le_of_ble_eq_true rfl) (Nat.le_of_ble_eq_true rfl) (by first | exact b2i_narrow _ | rfl | decide +kernel) (trivial)
  · refine lv_iload_n hx hb dX5_isCell_10 rfl (lv_at hl 1 rfl) ?_
    refine lv_iconst (v := nI 0) hx hb dX5_isCell_11 (by decide +kernel) ?_
    refine lv_bipush (v := nI 8) hx hb dX5_isCell_12 (by decide +kernel) ?_
    refine e_callS (As := [.int y, .int (nI 0), .int (nI 8)]) (rest := []) ⟨hx, hb, hml, hown, hts⟩ hK hP hD hS hA hl.1 (c_X5_isIn l E _ y (nI 0) (nI 8)) (va_cwS 3 hts gX5_isCell_X5_isIn rfl rfl rfl (by decide +kernel) ⟨Nat.le_of_ble_eq_true rfl, Nat.le_of_ble_eq_true rfl⟩) [] [] rfl rfl rfl rfl (by decide) rfl rfl (Nat.le_of_ble_eq_true rfl) dX5_isCell_14 ⟨Nat.le_of_ble_eq_true rfl, Nat.le_of_ble_eq_true rfl⟩ (fun u_3 H locs hu_4 hsz1 hP hD hS => ?_)
    have hP : va_P E.1 vwCl ([]) H := hP.sub [] rfl
    have hD : va_D A ([]) := hD.sub [] (by decide) rfl
    refine W.eq (g2 := F0 m 17 ls [.int (b2i (isInB y (nI 0) (nI 8)))]) rfl ?_
    refine b_if_eq (x := isInB y (nI 0) (nI 8)) (tgt := 24) hx hb dX5_isCell_17 (by decide) (fun c17 => ?_) (fun c17 => ?_)
    · refine lv_iconst (v := nI 0) hx hb dX5_isCell_24 (by decide +kernel) ?_
      exact e_zret () hQ hx hb hr hlocks hP hD hS dX5_isCell_25 (rvi (b2i_f (by unfold isCellB; first | (rw [c7]; rfl) | (rw [c17]; exact Bool.and_false _)))) (Nat.le_of_ble_eq_true rfl) (Nat.le_of_ble_eq_true rfl) (by first | exact b2i_narrow _ | rfl | decide +kernel) (trivial)
    · refine lv_iconst (v := nI 1) hx hb dX5_isCell_20 (by decide +kernel) ?_
      refine lv_goto (tgt := 25) hx hb dX5_isCell_21 (by decide) ?_
      exact e_zret () hQ hx hb hr hlocks hP hD hS dX5_isCell_25 (rvi (b2i_t (by unfold isCellB; rw [c7, c17]; rfl))) (Nat.le_of_ble_eq_true rfl) (Nat.le_of_ble_eq_true rfl) (by first | exact b2i_narrow _ | rfl | decide +kernel) (trivial)

abbrev rm_X5_beside : Room := { frames := 0, cells := 0, slots := 0, locals := 0 }
set_option maxHeartbeats 4000000 in
set_option maxRecDepth 100000 in
theorem c_X5_beside (l : Launch) (E : eT) (sz : Nat) (x : Nat) (k : Nat) (hx_ : x < 81) (hk : k < 4) : cM l yX5_beside wsX5_beside rm_X5_beside E sz [.int (nI x), .int (nI k)] ([]) (fun u : Unit => some (.int (oI (nb x k)))) (fun u : Unit => True) (fun u : Unit => []) := by
  refine cM_intro (cc := cX5_beside) (maxL := 2) (ret := (some .int)) (by decide +kernel) rfl (Nat.le_of_ble_eq_true rfl) ?_
  intro p e s m args below meth cd hx hb hr hml hown hlocks hts hnm hK hsz hP A hD hA Q hQ ls hl
  have hown : s.vm.findClass RX5 = some m.cls := hown
  have hS : va_S A s.heap s.heap [] := va_S.rf
  have hl : lv_has ls 2 [(0, .int (nI x)), (1, .int (nI k))] := hl
  refine lv_iload_n hx hb dX5_beside_0 rfl (lv_at hl 1 rfl) ?_
  refine n_if_ne (x := k) (by omega) (tgt := 19) hx hb dX5_beside_1 (by decide) (fun c1 => ?_) (fun c1 => ?_)
  · refine lv_iload_n hx hb dX5_beside_19 rfl (lv_at hl 1 rfl) ?_
    refine lv_iconst (v := nI 1) hx hb dX5_beside_20 (by decide +kernel) ?_
    refine n_icmp_ne (x := k) (y := 1) (by omega) (by omega) (tgt := 39) hx hb dX5_beside_21 (by decide) (fun c21 => ?_) (fun c21 => ?_)
    · refine lv_iload_n hx hb dX5_beside_39 rfl (lv_at hl 1 rfl) ?_
      refine lv_iconst (v := nI 2) hx hb dX5_beside_40 (by decide +kernel) ?_
      refine n_icmp_ne (x := k) (y := 2) (by omega) (by omega) (tgt := 61) hx hb dX5_beside_41 (by decide) (fun c41 => ?_) (fun c41 => ?_)
      · refine lv_iload_n hx hb dX5_beside_61 rfl (lv_at hl 0 rfl) ?_
        refine lv_bipush (v := nI 9) hx hb dX5_beside_62 (by decide +kernel) ?_
        refine lv_iadd hx hb dX5_beside_64 ?_
        refine e_top (nI_add _ _) ?_
        refine lv_bipush (v := nI 81) hx hb dX5_beside_65 (by decide +kernel) ?_
        refine n_icmp_ge (x := x + 9) (y := 81) (by omega) (by omega) (tgt := 77) hx hb dX5_beside_67 (by decide) (fun c67 => ?_) (fun c67 => ?_)
        · refine lv_iconst (v := (-1)) hx hb dX5_beside_77 (by decide +kernel) ?_
          exact e_iret () hQ hx hb hr hlocks hP hD hS dX5_beside_78 (rvi (by unfold nb; first | (rw [if_pos (show k = 0 by omega), if_neg (by omega)]; rfl) | (rw [if_pos (show k = 0 by omega), if_pos (by omega)]; exact (pk_sub (by omega)).symm) | (rw [if_neg (show ¬ k = 0 by omega), if_pos (show k = 1 by omega), if_pos (by omega)]; rfl) | (rw [if_neg (show ¬ k = 0 by omega), if_pos (show k = 1 by omega), if_neg (by omega)]; exact (pk_sub (by omega)).symm) | (rw [if_neg (show ¬ k = 0 by omega), if_neg (show ¬ k = 1 by omega), if_pos (show k = 2 by omega), if_pos (by omega)]; rfl) | (rw [if_neg (show ¬ k = 0 by omega), if_neg (show ¬ k = 1 by omega), if_pos (show k = 2 by omega), if_neg (by omega)]; rfl) | (rw [if_neg (show ¬ k = 0 by omega), if_neg (show ¬ k = 1 by omega), if_neg (show ¬ k = 2 by omega), if_pos (by omega)]; rfl) | (rw [if_neg (show ¬ k = 0 by omega), if_neg (show ¬ k = 1 by omega), if_neg (show ¬ k = 2 by omega), if_neg (by omega)]; rfl))) (Nat.le_of_ble_eq_true rfl) (Nat.le_of_ble_eq_true rfl) (trivial)
        · refine lv_iload_n hx hb dX5_beside_70 rfl (lv_at hl 0 rfl) ?_
          refine lv_bipush (v := nI 9) hx hb dX5_beside_71 (by decide +kernel) ?_
          refine lv_iadd hx hb dX5_beside_73 ?_
          refine e_top (nI_add _ _) ?_
          refine lv_goto (tgt := 78) hx hb dX5_beside_74 (by decide) ?_
          exact e_iret () hQ hx hb hr hlocks hP hD hS dX5_beside_78 (rvi (by unfold nb; first | (rw [if_pos (show k = 0 by omega), if_neg (by omega)]; rfl) | (rw [if_pos (show k = 0 by omega), if_pos (by omega)]; exact (pk_sub (by omega)).symm) | (rw [if_neg (show ¬ k = 0 by omega), if_pos (show k = 1 by omega), if_pos (by omega)]; rfl) | (rw [if_neg (show ¬ k = 0 by omega), if_pos (show k = 1 by omega), if_neg (by omega)]; exact (pk_sub (by omega)).symm) | (rw [if_neg (show ¬ k = 0 by omega), if_neg (show ¬ k = 1 by omega), if_pos (show k = 2 by omega), if_pos (by omega)]; rfl) | (rw [if_neg (show ¬ k = 0 by omega), if_neg (show ¬ k = 1 by omega), if_pos (show k = 2 by omega), if_neg (by omega)]; rfl) | (rw [if_neg (show ¬ k = 0 by omega), if_neg (show ¬ k = 1 by omega), if_neg (show ¬ k = 2 by omega), if_pos (by omega)]; rfl) | (rw [if_neg (show ¬ k = 0 by omega), if_neg (show ¬ k = 1 by omega), if_neg (show ¬ k = 2 by omega), if_neg (by omega)]; rfl))) (Nat.le_of_ble_eq_true rfl) (Nat.le_of_ble_eq_true rfl) (trivial)
      · refine lv_iload_n hx hb dX5_beside_44 rfl (lv_at hl 0 rfl) ?_
        refine lv_bipush (v := nI 9) hx hb dX5_beside_45 (by decide +kernel) ?_
        refine lv_irem hx hb dX5_beside_47 (by decide +kernel) ?_
        refine e_top (pk_rem (by omega) (by omega) (by omega)) ?_
        refine lv_bipush (v := nI 8) hx hb dX5_beside_48 (by decide +kernel) ?_
        refine n_icmp_ne (x := x % 9) (y := 8) (by omega) (by omega) (tgt := 57) hx hb dX5_beside_50 (by decide) (fun c50 => ?_) (fun c50 => ?_)
        · refine lv_iload_n hx hb dX5_beside_57 rfl (lv_at hl 0 rfl) ?_
          refine lv_iconst (v := nI 1) hx hb dX5_beside_58 (by decide +kernel) ?_
          refine lv_iadd hx hb dX5_beside_59 ?_
          refine e_top (nI_add _ _) ?_
          exact e_iret () hQ hx hb hr hlocks hP hD hS dX5_beside_60 (rvi (by unfold nb; first | (rw [if_pos (show k = 0 by omega), if_neg (by omega)]; rfl) | (rw [if_pos (show k = 0 by omega), if_pos (by omega)]; exact (pk_sub (by omega)).symm) | (rw [if_neg (show ¬ k = 0 by omega), if_pos (show k = 1 by omega), if_pos (by omega)]; rfl) | (rw [if_neg (show ¬ k = 0 by omega), if_pos (show k = 1 by omega), if_neg (by omega)]; exact (pk_sub (by omega)).symm) | (rw [if_neg (show ¬ k = 0 by omega), if_neg (show ¬ k = 1 by omega), if_pos (show k = 2 by omega), if_pos (by omega)]; rfl) | (rw [if_neg (show ¬ k = 0 by omega), if_neg (show ¬ k = 1 by omega), if_pos (show k = 2 by omega), if_neg (by omega)]; rfl) | (rw [if_neg (show ¬ k = 0 by omega), if_neg (show ¬ k = 1 by omega), if_neg (show ¬ k = 2 by omega), if_pos (by omega)]; rfl) | (rw [if_neg (show ¬ k = 0 by omega), if_neg (show ¬ k = 1 by omega), if_neg (show ¬ k = 2 by omega), if_neg (by omega)]; rfl))) (Nat.le_of_ble_eq_true rfl) (Nat.le_of_ble_eq_true rfl) (trivial)
        · refine lv_iconst (v := (-1)) hx hb dX5_beside_53 (by decide +kernel) ?_
          refine lv_goto (tgt := 60) hx hb dX5_beside_54 (by decide) ?_
          exact e_iret () hQ hx hb hr hlocks hP hD hS dX5_beside_60 (rvi (by unfold nb; first | (rw [if_pos (show k = 0 by omega), if_neg (by omega)]; rfl) | (rw [if_pos (show k = 0 by omega), if_pos (by omega)]; exact (pk_sub (by omega)).symm) | (rw [if_neg (show ¬ k = 0 by omega), if_pos (show k = 1 by omega), if_pos (by omega)]; rfl) | (rw [if_neg (show ¬ k = 0 by omega), if_pos (show k = 1 by omega), if_neg (by omega)]; exact (pk_sub (by omega)).symm) | (rw [if_neg (show ¬ k = 0 by omega), if_neg (show ¬ k = 1 by omega), if_pos (show k = 2 by omega), if_pos (by omega)]; rfl) | (rw [if_neg (show ¬ k = 0 by omega), if_neg (show ¬ k = 1 by omega), if_pos (show k = 2 by omega), if_neg (by omega)]; rfl) | (rw [if_neg (show ¬ k = 0 by omega), if_neg (show ¬ k = 1 by omega), if_neg (show ¬ k = 2 by omega), if_pos (by omega)]; rfl) | (rw [if_neg (show ¬ k = 0 by omega), if_neg (show ¬ k = 1 by omega), if_neg (show ¬ k = 2 by omega), if_neg (by omega)]; rfl))) (Nat.le_of_ble_eq_true rfl) (Nat.le_of_ble_eq_true rfl) (trivial)
    · refine lv_iload_n hx hb dX5_beside_24 rfl (lv_at hl 0 rfl) ?_
      refine lv_bipush (v := nI 9) hx hb dX5_beside_25 (by decide +kernel) ?_
      refine lv_irem hx hb dX5_beside_27 (by decide +kernel) ?_
      refine e_top (pk_rem (by omega) (by omega) (by omega)) ?_
      refine n_if_ne (x := x % 9) (by omega) (tgt := 35) hx hb dX5_beside_28 (by decide) (fun c28 => ?_) (fun c28 => ?_)
      · refine lv_iload_n hx hb dX5_beside_35 rfl (lv_at hl 0 rfl) ?_
        refine lv_iconst (v := nI 1) hx hb dX5_beside_36 (by decide +kernel) ?_
        refine lv_isub hx hb dX5_beside_37 ?_
        exact e_iret () hQ hx hb hr hlocks hP hD hS dX5_beside_38 (rvi (by unfold nb; first | (rw [if_pos (show k = 0 by omega), if_neg (by omega)]; rfl) | (rw [if_pos (show k = 0 by omega), if_pos (by omega)]; exact (pk_sub (by omega)).symm) | (rw [if_neg (show ¬ k = 0 by omega), if_pos (show k = 1 by omega), if_pos (by omega)]; rfl) | (rw [if_neg (show ¬ k = 0 by omega), if_pos (show k = 1 by omega), if_neg (by omega)]; exact (pk_sub (by omega)).symm) | (rw [if_neg (show ¬ k = 0 by omega), if_neg (show ¬ k = 1 by omega), if_pos (show k = 2 by omega), if_pos (by omega)]; rfl) | (rw [if_neg (show ¬ k = 0 by omega), if_neg (show ¬ k = 1 by omega), if_pos (show k = 2 by omega), if_neg (by omega)]; rfl) | (rw [if_neg (show ¬ k = 0 by omega), if_neg (show ¬ k = 1 by omega), if_neg (show ¬ k = 2 by omega), if_pos (by omega)]; rfl) | (rw [if_neg (show ¬ k = 0 by omega), if_neg (show ¬ k = 1 by omega), if_neg (show ¬ k = 2 by omega), if_neg (by omega)]; rfl))) (Nat.le_of_ble_eq_true rfl) (Nat.le_of_ble_eq_true rfl) (trivial)
      · refine lv_iconst (v := (-1)) hx hb dX5_beside_31 (by decide +kernel) ?_
        refine lv_goto (tgt := 38) hx hb dX5_beside_32 (by decide) ?_
        exact e_iret () hQ hx hb hr hlocks hP hD hS dX5_beside_38 (rvi (by unfold nb; first | (rw [if_pos (show k = 0 by omega), if_neg (by omega)]; rfl) | (rw [if_pos (show k = 0 by omega), if_pos (by omega)]; exact (pk_sub (by omega)).symm) | (rw [if_neg (show ¬ k = 0 by omega), if_pos (show k = 1 by omega), if_pos (by omega)]; rfl) | (rw [if_neg (show ¬ k = 0 by omega), if_pos (show k = 1 by omega), if_neg (by omega)]; exact (pk_sub (by omega)).symm) | (rw [if_neg (show ¬ k = 0 by omega), if_neg (show ¬ k = 1 by omega), if_pos (show k = 2 by omega), if_pos (by omega)]; rfl) | (rw [if_neg (show ¬ k = 0 by omega), if_neg (show ¬ k = 1 by omega), if_pos (show k = 2 by omega), if_neg (by omega)]; rfl) | (rw [if_neg (show ¬ k = 0 by omega), if_neg (show ¬ k = 1 by omega), if_neg (show ¬ k = 2 by omega), if_pos (by omega)]; rfl) | (rw [if_neg (show ¬ k = 0 by omega), if_neg (show ¬ k = 1 by omega), if_neg (show ¬ k = 2 by omega), if_neg (by omega)]; rfl))) (Nat.le_of_ble_eq_true rfl) (Nat.le_of_ble_eq_true rfl) (trivial)
  · refine lv_iload_n hx hb dX5_beside_4 rfl (lv_at hl 0 rfl) ?_
    refine lv_bipush (v := nI 9) hx hb dX5_beside_5 (by decide +kernel) ?_
    refine n_icmp_ge (x := x) (y := 9) (by omega) (by omega) (tgt := 14) hx hb dX5_beside_7 (by decide) (fun c7 => ?_) (fun c7 => ?_)
    · refine lv_iload_n hx hb dX5_beside_14 rfl (lv_at hl 0 rfl) ?_
      refine lv_bipush (v := nI 9) hx hb dX5_beside_15 (by decide +kernel) ?_
      refine lv_isub hx hb dX5_beside_17 ?_
      exact e_iret () hQ hx hb hr hlocks hP hD hS dX5_beside_18 (rvi (by unfold nb; first | (rw [if_pos (show k = 0 by omega), if_neg (by omega)]; rfl) | (rw [if_pos (show k = 0 by omega), if_pos (by omega)]; exact (pk_sub (by omega)).symm) | (rw [if_neg (show ¬ k = 0 by omega), if_pos (show k = 1 by omega), if_pos (by omega)]; rfl) | (rw [if_neg (show ¬ k = 0 by omega), if_pos (show k = 1 by omega), if_neg (by omega)]; exact (pk_sub (by omega)).symm) | (rw [if_neg (show ¬ k = 0 by omega), if_neg (show ¬ k = 1 by omega), if_pos (show k = 2 by omega), if_pos (by omega)]; rfl) | (rw [if_neg (show ¬ k = 0 by omega), if_neg (show ¬ k = 1 by omega), if_pos (show k = 2 by omega), if_neg (by omega)]; rfl) | (rw [if_neg (show ¬ k = 0 by omega), if_neg (show ¬ k = 1 by omega), if_neg (show ¬ k = 2 by omega), if_pos (by omega)]; rfl) | (rw [if_neg (show ¬ k = 0 by omega), if_neg (show ¬ k = 1 by omega), if_neg (show ¬ k = 2 by omega), if_neg (by omega)]; rfl))) (Nat.le_of_ble_eq_true rfl) (Nat.le_of_ble_eq_true rfl) (trivial)
    · refine lv_iconst (v := (-1)) hx hb dX5_beside_10 (by decide +kernel) ?_
      refine lv_goto (tgt := 18) hx hb dX5_beside_11 (by decide) ?_
      exact e_iret () hQ hx hb hr hlocks hP hD hS dX5_beside_18 (rvi (by unfold nb; first | (rw [if_pos (show k = 0 by omega), if_neg (by omega)]; rfl) | (rw [if_pos (show k = 0 by omega), if_pos (by omega)]; exact (pk_sub (by omega)).symm) | (rw [if_neg (show ¬ k = 0 by omega), if_pos (show k = 1 by omega), if_pos (by omega)]; rfl) | (rw [if_neg (show ¬ k = 0 by omega), if_pos (show k = 1 by omega), if_neg (by omega)]; exact (pk_sub (by omega)).symm) | (rw [if_neg (show ¬ k = 0 by omega), if_neg (show ¬ k = 1 by omega), if_pos (show k = 2 by omega), if_pos (by omega)]; rfl) | (rw [if_neg (show ¬ k = 0 by omega), if_neg (show ¬ k = 1 by omega), if_pos (show k = 2 by omega), if_neg (by omega)]; rfl) | (rw [if_neg (show ¬ k = 0 by omega), if_neg (show ¬ k = 1 by omega), if_neg (show ¬ k = 2 by omega), if_pos (by omega)]; rfl) | (rw [if_neg (show ¬ k = 0 by omega), if_neg (show ¬ k = 1 by omega), if_neg (show ¬ k = 2 by omega), if_neg (by omega)]; rfl))) (Nat.le_of_ble_eq_true rfl) (Nat.le_of_ble_eq_true rfl) (trivial)

abbrev rm_X5_thrown : Room := { frames := 0, cells := 0, slots := 0, locals := 0 }
set_option maxHeartbeats 4000000 in
set_option maxRecDepth 100000 in
theorem c_X5_thrown (l : Launch) (E : eT) (sz : Nat) (o : Nat) (ad : Nat → Nat) (th : Int32) (gr : Nat → Int32) (co : Nat → Int32) (sd : Nat → Int32) (tk : Nat → Int32) (wm : Nat → Int32) (st : Nat → Int32) (mo : Nat) (nx : Nat → Int32) (lb : Nat → Option Nat) (fr : Nat → Nat) : cM l yX5_thrown wsX5_thrown rm_X5_thrown E sz [.ref o] (wMo E o ad th gr co sd tk wm st (nI mo) nx lb fr) (fun u : Unit => some (.int th)) (fun u : Unit => True) (fun u : Unit => wMo E o ad th gr co sd tk wm st (nI mo) nx lb fr) := by
  refine cM_intro (cc := cX5_thrown) (maxL := 1) (ret := (some .int)) (by decide +kernel) rfl (Nat.le_of_ble_eq_true rfl) ?_
  intro p e s m args below meth cd hx hb hr hml hown hlocks hts hnm hK hsz hP A hD hA Q hQ ls hl
  have hown : s.vm.findClass RX5 = some m.cls := hown
  have hin5 : ∀ w ∈ u_ws RX5 TX5 11, w ∈ wsX5_thrown := by decide +kernel
  have lk37 := hts (.fieldLink RX5 37 "ReefPilotModel" "thrown" "I") (by decide +kernel)
  have hS : va_S A s.heap s.heap [] := va_S.rf
  have hl : lv_has ls 1 [(0, .ref o)] := hl
  refine lv_aload_n hx hb dX5_thrown_0 rfl (lv_at hl 0 rfl) ?_
  refine va_get (D := E.1) (ci := 5) (v := .int th) (C := RX5) (T := TX5) (N := 11) hx hb hts hin5 hown hK.1 hP 0 rfl rfl 0 (by decide) lk37 (fun _ h9 => h9) rfl dX5_thrown_1 ?_
  exact e_iret () hQ hx hb hr hlocks hP hD hS dX5_thrown_4 (rfl) (Nat.le_of_ble_eq_true rfl) (Nat.le_of_ble_eq_true rfl) (trivial)

abbrev rm_X5_fail : Room := { frames := 0, cells := 0, slots := 0, locals := 0 }
set_option maxHeartbeats 4000000 in
set_option maxRecDepth 100000 in
theorem c_X5_fail (l : Launch) (E : eT) (sz : Nat) (o : Nat) (ad : Nat → Nat) (th : Int32) (gr : Nat → Int32) (co : Nat → Int32) (sd : Nat → Int32) (tk : Nat → Int32) (wm : Nat → Int32) (st : Nat → Int32) (mo : Nat) (nx : Nat → Int32) (lb : Nat → Option Nat) (fr : Nat → Nat) (v : Int32) : cM l yX5_fail wsX5_fail rm_X5_fail E sz [.ref o, .int v] (wMo E o ad th gr co sd tk wm st (nI mo) nx lb fr) (fun u : Unit => some (.int (nI 0))) (fun u : Unit => True) (fun u : Unit => wMo E o ad v gr co sd tk wm st (nI mo) nx lb fr) := by
  refine cM_intro (cc := cX5_fail) (maxL := 2) (ret := (some .int)) (by decide +kernel) rfl (Nat.le_of_ble_eq_true rfl) ?_
  intro p e s m args below meth cd hx hb hr hml hown hlocks hts hnm hK hsz hP A hD hA Q hQ ls hl
  have hown : s.vm.findClass RX5 = some m.cls := hown
  have hin5 : ∀ w ∈ u_ws RX5 TX5 11, w ∈ wsX5_fail := by decide +kernel
  have lk37 := hts (.fieldLink RX5 37 "ReefPilotModel" "thrown" "I") (by decide +kernel)
  have hS : va_S A s.heap s.heap [] := va_S.rf
  have hl : lv_has ls 2 [(0, .ref o), (1, .int v)] := hl
  refine lv_aload_n hx hb dX5_fail_0 rfl (lv_at hl 0 rfl) ?_
  refine lv_iload_n hx hb dX5_fail_1 rfl (lv_at hl 1 rfl) ?_
  refine va_put (D := E.1) (ci := 5) (v := .int v) (ty := .int) (C := RX5) (T := TX5) (N := 11) hx hb hts hin5 tyX5 tyX5_ok nmX5 hown hK.1 hP hD hS 0 rfl rfl 0 (by decide) lk37 (fun _ h9 => h9) rfl (by decide +kernel) rfl rfl (Nat.le_of_ble_eq_true rfl) dX5_fail_2 (fun H locs hP hD hS => ?_)
  have hP : va_P E.1 vwCl (wMo E o ad v gr co sd tk wm st (nI mo) nx lb fr) H := hP
  have hD : va_D A (wMo E o ad v gr co sd tk wm st (nI mo) nx lb fr) := hD
  refine lv_iconst (v := nI 0) hx hb dX5_fail_5 (by decide +kernel) ?_
  exact e_iret () hQ hx hb hr hlocks hP hD hS dX5_fail_6 (rfl) (Nat.le_of_ble_eq_true rfl) (Nat.le_of_ble_eq_true rfl) (trivial)

abbrev rm_X5_depth : Room := { frames := 1, cells := 0, slots := 0, locals := 13 }
set_option maxHeartbeats 4000000 in
set_option maxRecDepth 100000 in
theorem c_X5_depth (l : Launch) (E : eT) (sz : Nat) (o : Nat) (ad : Nat → Nat) (th : Int32) (gr : Nat → Int32) (co : Nat → Int32) (sd : Nat → Int32) (tk : Nat → Int32) (wm : Nat → Int32) (st : Nat → Int32) (mo : Nat) (nx : Nat → Int32) (lb : Nat → Option Nat) (fr : Nat → Nat) (j : Nat) (hj : j < 81) : cM l yX5_depth wsX5_depth rm_X5_depth E sz [.ref o, .int (nI j)] (wMo E o ad th gr co sd tk wm st (nI mo) nx lb fr) (fun u : Unit => some (.int (dep gr co j))) (fun u : Unit => True) (fun u : Unit => wMo E o ad th gr co sd tk wm st (nI mo) nx lb fr) := by
  refine cM_intro (cc := cX5_depth) (maxL := 2) (ret := (some .int)) (by decide +kernel) rfl (Nat.le_of_ble_eq_true rfl) ?_
  intro p e s m args below meth cd hx hb hr hml hown hlocks hts hnm hK hsz hP A hD hA Q hQ ls hl
  have hown : s.vm.findClass RX5 = some m.cls := hown
  have hin5 : ∀ w ∈ u_ws RX5 TX5 11, w ∈ wsX5_depth := by decide +kernel
  have lk9 := hts (.fieldLink RX5 9 "ReefPilotModel" "ground" "[I") (by decide +kernel)
  have lk13 := hts (.fieldLink RX5 13 "ReefPilotModel" "coral" "[I") (by decide +kernel)
  have hamcmax := hts (.code Lib.Math.max.name Lib.Math.max.code 2 (some .int)) (by decide +kernel)
  have hamini := hts (.initialized "java/lang/Math") (by decide +kernel)
  have haml45 := hts (.methodLink RX5 45 Lib.Math.max.name) (by decide +kernel)
  have hamsmax := hts (.static Lib.Math.max.name) (by decide +kernel)
  have hS : va_S A s.heap s.heap [] := va_S.rf
  have hl : lv_has ls 2 [(0, .ref o), (1, .int (nI j))] := hl
  refine lv_iconst (v := nI 0) hx hb dX5_depth_0 (by decide +kernel) ?_
  refine lv_aload_n hx hb dX5_depth_1 rfl (lv_at hl 0 rfl) ?_
  refine va_get (D := E.1) (ci := 5) (v := .ref (ad 0)) (C := RX5) (T := TX5) (N := 11) hx hb hts hin5 hown hK.1 hP 0 rfl rfl 1 (by decide) lk9 (fun _ h9 => h9) rfl dX5_depth_2 ?_
  refine lv_iload_n hx hb dX5_depth_5 rfl (lv_at hl 1 rfl) ?_
  refine e_iald hK hP 1 rfl j (by omega) (by decide) hx hb dX5_depth_6 ?_
  refine lv_aload_n hx hb dX5_depth_7 rfl (lv_at hl 0 rfl) ?_
  refine va_get (D := E.1) (ci := 5) (v := .ref (ad 1)) (C := RX5) (T := TX5) (N := 11) hx hb hts hin5 hown hK.1 hP 0 rfl rfl 2 (by decide) lk13 (fun _ h9 => h9) rfl dX5_depth_8 ?_
  refine lv_iload_n hx hb dX5_depth_11 rfl (lv_at hl 1 rfl) ?_
  refine e_iald hK hP 2 rfl j (by omega) (by decide) hx hb dX5_depth_12 ?_
  refine lv_isub hx hb dX5_depth_13 ?_
  refine va_mmax hx hb (by rw [hml]; exact hl.1.symm) hown haml45 hamsmax hamini hamcmax (Nat.le_of_ble_eq_true rfl) (Nat.le_of_ble_eq_true rfl) (Nat.le_of_ble_eq_true rfl) (Nat.le_of_ble_eq_true rfl) dX5_depth_14 ?_
  refine e_top (y := iMax (nI 0) ((gr j) - (co j))) rfl ?_
  exact e_iret () hQ hx hb hr hlocks hP hD hS dX5_depth_17 (rvi (by unfold dep; exact iMax_comm _ _)) (Nat.le_of_ble_eq_true rfl) (Nat.le_of_ble_eq_true rfl) (trivial)

abbrev rm_X5_isHead : Room := { frames := 0, cells := 0, slots := 0, locals := 0 }
set_option maxHeartbeats 4000000 in
set_option maxRecDepth 100000 in
theorem c_X5_isHead (l : Launch) (E : eT) (sz : Nat) (o : Nat) (ad : Nat → Nat) (th : Int32) (gr : Nat → Int32) (co : Nat → Int32) (sd : Nat → Int32) (tk : Nat → Int32) (wm : Nat → Int32) (st : Nat → Int32) (mo : Nat) (nx : Nat → Int32) (lb : Nat → Option Nat) (fr : Nat → Nat) (j : Nat) (hj : j < 81) : cM l yX5_isHead wsX5_isHead rm_X5_isHead E sz [.ref o, .int (nI j)] (wMo E o ad th gr co sd tk wm st (nI mo) nx lb fr) (fun u : Unit => some (.int (b2i (hd co j)))) (fun u : Unit => True) (fun u : Unit => wMo E o ad th gr co sd tk wm st (nI mo) nx lb fr) := by
  refine cM_intro (cc := cX5_isHead) (maxL := 2) (ret := (some .boolean)) (by decide +kernel) rfl (Nat.le_of_ble_eq_true rfl) ?_
  intro p e s m args below meth cd hx hb hr hml hown hlocks hts hnm hK hsz hP A hD hA Q hQ ls hl
  have hown : s.vm.findClass RX5 = some m.cls := hown
  have hin5 : ∀ w ∈ u_ws RX5 TX5 11, w ∈ wsX5_isHead := by decide +kernel
  have lk13 := hts (.fieldLink RX5 13 "ReefPilotModel" "coral" "[I") (by decide +kernel)
  have hS : va_S A s.heap s.heap [] := va_S.rf
  have hl : lv_has ls 2 [(0, .ref o), (1, .int (nI j))] := hl
  refine lv_aload_n hx hb dX5_isHead_0 rfl (lv_at hl 0 rfl) ?_
  refine va_get (D := E.1) (ci := 5) (v := .ref (ad 1)) (C := RX5) (T := TX5) (N := 11) hx hb hts hin5 hown hK.1 hP 0 rfl rfl 2 (by decide) lk13 (fun _ h9 => h9) rfl dX5_isHead_1 ?_
  refine lv_iload_n hx hb dX5_isHead_4 rfl (lv_at hl 1 rfl) ?_
  refine e_iald hK hP 2 rfl j (by omega) (by decide) hx hb dX5_isHead_5 ?_
  refine lv_iconst (v := nI 5) hx hb dX5_isHead_6 (by decide +kernel) ?_
  refine lv_icmp_lt (tgt := 14) hx hb dX5_isHead_7 (by decide) (fun c7 => ?_) (fun c7 => ?_)
  · refine lv_iconst (v := nI 0) hx hb dX5_isHead_14 (by decide +kernel) ?_
    exact e_zret () hQ hx hb hr hlocks hP hD hS dX5_isHead_15 (rvi (b2i_f (hd_f c7))) (Nat.le_of_ble_eq_true rfl) (Nat.le_of_ble_eq_true rfl) (by first | exact b2i_narrow _ | rfl | decide +kernel) (trivial)
  · refine lv_iconst (v := nI 1) hx hb dX5_isHead_10 (by decide +kernel) ?_
    refine lv_goto (tgt := 15) hx hb dX5_isHead_11 (by decide) ?_
    exact e_zret () hQ hx hb hr hlocks hP hD hS dX5_isHead_15 (rvi (b2i_t (hd_t c7))) (Nat.le_of_ble_eq_true rfl) (Nat.le_of_ble_eq_true rfl) (by first | exact b2i_narrow _ | rfl | decide +kernel) (trivial)

abbrev rm_X5_headsBeside : Room := { frames := 1, cells := 0, slots := 0, locals := 21 }
set_option maxHeartbeats 4000000 in
set_option maxRecDepth 100000 in
theorem c_X5_headsBeside (l : Launch) (E : eT) (sz : Nat) (o : Nat) (ad : Nat → Nat) (th : Int32) (gr : Nat → Int32) (co : Nat → Int32) (sd : Nat → Int32) (tk : Nat → Int32) (wm : Nat → Int32) (st : Nat → Int32) (mo : Nat) (nx : Nat → Int32) (lb : Nat → Option Nat) (fr : Nat → Nat) (j : Nat) (hj : j < 81) : cM l yX5_headsBeside wsX5_headsBeside rm_X5_headsBeside E sz [.ref o, .int (nI j)] (wMo E o ad th gr co sd tk wm st (nI mo) nx lb fr) (fun u : Unit => some (.int (nI (hbs (hd co) j)))) (fun u : Unit => True) (fun u : Unit => wMo E o ad th gr co sd tk wm st (nI mo) nx lb fr) := by
  refine cM_intro (cc := cX5_headsBeside) (maxL := 4) (ret := (some .int)) (by decide +kernel) rfl (Nat.le_of_ble_eq_true rfl) ?_
  intro p e s m args below meth cd hx hb hr hml hown hlocks hts hnm hK hsz hP A hD hA Q hQ ls hl
  have hown : s.vm.findClass RX5 = some m.cls := hown
  have hS : va_S A s.heap s.heap [] := va_S.rf
  have hl : lv_has ls 4 [(0, .ref o), (1, .int (nI j))] := hl
  refine lv_iconst (v := nI 0) hx hb dX5_headsBeside_0 (by decide +kernel) ?_
  refine lv_istore_n (lv' := [(2, .int (nI 0)), (0, .ref o), (1, .int (nI j))]) hx hb dX5_headsBeside_1 rfl hl (by decide) rfl (fun ls hl => ?_)
  refine lv_iconst (v := nI 0) hx hb dX5_headsBeside_2 (by decide +kernel) ?_
  refine lv_istore_n (lv' := [(3, .int (nI 0)), (2, .int (nI 0)), (0, .ref o), (1, .int (nI j))]) hx hb dX5_headsBeside_3 rfl hl (by decide) rfl (fun ls hl => ?_)
  have L4 : ∀ (fuel : Nat) (x : Nat) (z : Nat) (hz : z ≤ 4) (hx_ : x = fb_ct (hbq (hd co) j) z) (hfuel : 4 - z < fuel) (H : Heap) (locs : List Loc), va_P E.1 vwCl (wMo E o ad th gr co sd tk wm st (nI mo) nx lb fr) H → va_D A (wMo E o ad th gr co sd tk wm st (nI mo) nx lb fr) → va_S A s.heap H locs → ∀ ls : Array Slot, lv_has ls 4 [(3, .int (nI z)), (2, .int (nI x)), (0, .ref o), (1, .int (nI j))] → W p l e rm_X5_headsBeside s m args below meth cd H locs 0 0 Q (F0 m 4 ls []) := by
    intro fuel
    induction fuel with
    | zero => intros; omega
    | succ fuel ihL4 =>
      intro x z hz hx_ hfuel H locs hP hD hS ls hl
      refine lv_iload_n hx hb dX5_headsBeside_4 rfl (lv_at hl 0 rfl) ?_
      have hxz := fb_ct_le (hbq (hd co) j) z
      refine lv_iconst (v := nI 4) hx hb dX5_headsBeside_5 (by decide +kernel) ?_
      refine n_icmp_ge (x := z) (y := 4) (by omega) (by omega) (tgt := 44) hx hb dX5_headsBeside_6 (by decide) (fun c6 => ?_) (fun c6 => ?_)
      · refine lv_iload_n hx hb dX5_headsBeside_44 rfl (lv_at hl 1 rfl) ?_
        exact e_iret () hQ hx hb hr hlocks hP hD hS dX5_headsBeside_45 (rvi (by rw [hx_, show z = 4 by omega]; rfl)) (Nat.le_of_ble_eq_true rfl) (Nat.le_of_ble_eq_true rfl) (trivial)
      · refine lv_iload_n hx hb dX5_headsBeside_9 rfl (lv_at hl 1 rfl) ?_
        refine lv_iload_n hx hb dX5_headsBeside_10 rfl (lv_at hl 3 rfl) ?_
        refine lv_iload_n hx hb dX5_headsBeside_11 rfl (lv_at hl 0 rfl) ?_
        refine e_callS (As := [.int (nI j), .int (nI z)]) (rest := [.int (nI x)]) ⟨hx, hb, hml, hown, hts⟩ hK hP hD hS hA hl.1 (c_X5_beside l E _ j z (by first | omega | assumption | rfl | (simp_all; done)) (by first | omega | assumption | rfl | (simp_all; done))) (va_cwS 2 hts gX5_headsBeside_X5_beside rfl rfl rfl (by decide +kernel) ⟨Nat.le_of_ble_eq_true rfl, Nat.le_of_ble_eq_true rfl⟩) [] [0, 1, 2, 3, 4, 5, 6, 7, 8, 9] rfl rfl rfl rfl (by decide) rfl rfl (Nat.le_of_ble_eq_true rfl) dX5_headsBeside_12 ⟨Nat.le_of_ble_eq_true rfl, Nat.le_of_ble_eq_true rfl⟩ (fun u_1 H locs hu_2 hsz1 hP hD hS => ?_)
        have hP : va_P E.1 vwCl (wMo E o ad th gr co sd tk wm st (nI mo) nx lb fr) H := hP.sub [0, 1, 2, 3, 4, 5, 6, 7, 8, 9] rfl
        have hD : va_D A (wMo E o ad th gr co sd tk wm st (nI mo) nx lb fr) := hD.sub [0, 1, 2, 3, 4, 5, 6, 7, 8, 9] (by decide) rfl
        refine W.eq (g2 := F0 m 15 ls [.int (oI (nb j z)), .int (nI x)]) rfl ?_
        refine lv_iconst (v := (-1)) hx hb dX5_headsBeside_15 (by decide +kernel) ?_
        refine o_icmp_eq (x := nb j z) (nb_ob hj) (tgt := 35) hx hb dX5_headsBeside_16 (by decide) (fun c16 => ?_) (fun q_3 c16 => ?_)
        · refine lv_iconst (v := nI 0) hx hb dX5_headsBeside_35 (by decide +kernel) ?_
          refine lv_iadd hx hb dX5_headsBeside_36 ?_
          refine e_top (nI_add _ _) ?_
          refine lv_istore_n (lv' := [(2, .int (nI (x + 0))), (3, .int (nI z)), (0, .ref o), (1, .int (nI j))]) hx hb dX5_headsBeside_37 rfl hl (by decide) rfl (fun ls hl => ?_)
          refine lv_iinc (v := nI (z + 1)) (lv' := [(3, .int (nI (z + 1))), (2, .int (nI (x + 0))), (0, .ref o), (1, .int (nI j))]) hx hb dX5_headsBeside_38 hl (k := 1) rfl (nI_add z 1) (by decide) rfl (fun ls hl => ?_)
          refine lv_goto (tgt := 4) hx hb dX5_headsBeside_41 (by decide) ?_
          exact ihL4 (x + 0) (z + 1) (by first | omega | assumption | rfl | (simp_all; done)) (by first | (rw [fb_f (hbq_none c16)]; omega) | (rw [fb_f (by rw [hbq_some c16]; exact c28)]; omega) | (rw [fb_t (by rw [hbq_some c16]; exact c28)]; omega)) (by omega) _ _ hP hD hS _ (lv_sub hl [0, 1, 2, 3] rfl)
        · have hq_ : q_3 < 81 := nb_lt hj c16
          refine lv_aload_n hx hb dX5_headsBeside_19 rfl (lv_at hl 2 rfl) ?_
          refine lv_iload_n hx hb dX5_headsBeside_20 rfl (lv_at hl 3 rfl) ?_
          refine lv_iload_n hx hb dX5_headsBeside_21 rfl (lv_at hl 0 rfl) ?_
          refine e_callS (As := [.int (nI j), .int (nI z)]) (rest := [.ref o, .int (nI x)]) ⟨hx, hb, hml, hown, hts⟩ hK hP hD hS hA hl.1 (c_X5_beside l E _ j z (by first | omega | assumption | rfl | (simp_all; done)) (by first | omega | assumption | rfl | (simp_all; done))) (va_cwS 2 hts gX5_headsBeside_X5_beside rfl rfl rfl (by decide +kernel) ⟨Nat.le_of_ble_eq_true rfl, Nat.le_of_ble_eq_true rfl⟩) [] [0, 1, 2, 3, 4, 5, 6, 7, 8, 9] rfl rfl rfl rfl (by decide) rfl rfl (Nat.le_of_ble_eq_true rfl) dX5_headsBeside_22 ⟨Nat.le_of_ble_eq_true rfl, Nat.le_of_ble_eq_true rfl⟩ (fun u_4 H locs hu_5 hsz1 hP hD hS => ?_)
          have hP : va_P E.1 vwCl (wMo E o ad th gr co sd tk wm st (nI mo) nx lb fr) H := hP.sub [0, 1, 2, 3, 4, 5, 6, 7, 8, 9] rfl
          have hD : va_D A (wMo E o ad th gr co sd tk wm st (nI mo) nx lb fr) := hD.sub [0, 1, 2, 3, 4, 5, 6, 7, 8, 9] (by decide) rfl
          refine W.eq (g2 := F0 m 25 ls [.int (oI (nb j z)), .ref o, .int (nI x)]) rfl ?_
          refine e_top (show oI (nb j z) = nI q_3 by rw [c16]; rfl) ?_
          refine e_callV (As := [.int (nI q_3)]) (rest := [.int (nI x)]) ⟨hx, hb, hml, hown, hts⟩ hK hP hD hS hA hl.1 (c_X5_isHead l E _ o ad th gr co sd tk wm st mo nx lb fr q_3 (by first | omega | assumption | rfl | (simp_all; done))) (cwV 1 hts gX5_headsBeside_X5_isHead rfl rfl rfl (by decide +kernel) ⟨Nat.le_of_ble_eq_true rfl, Nat.le_of_ble_eq_true rfl⟩) [0, 1, 2, 3, 4, 5, 6, 7, 8, 9] [] rfl rfl rfl rfl (by decide) (q0 := 0) (ci := 5) rfl rfl rfl rfl (Nat.le_of_ble_eq_true rfl) dX5_headsBeside_25 ⟨Nat.le_of_ble_eq_true rfl, Nat.le_of_ble_eq_true rfl⟩ (fun u_6 H locs hu_7 hsz1 hP hD hS => ?_)
          have hP : va_P E.1 vwCl (wMo E o ad th gr co sd tk wm st (nI mo) nx lb fr) H := hP.sub [0, 1, 2, 3, 4, 5, 6, 7, 8, 9] rfl
          have hD : va_D A (wMo E o ad th gr co sd tk wm st (nI mo) nx lb fr) := hD.sub [0, 1, 2, 3, 4, 5, 6, 7, 8, 9] (by decide) rfl
          refine W.eq (g2 := F0 m 28 ls [.int (b2i (hd co q_3)), .int (nI x)]) rfl ?_
          refine b_if_eq (x := hd co q_3) (tgt := 35) hx hb dX5_headsBeside_28 (by decide) (fun c28 => ?_) (fun c28 => ?_)
          · refine lv_iconst (v := nI 0) hx hb dX5_headsBeside_35 (by decide +kernel) ?_
            refine lv_iadd hx hb dX5_headsBeside_36 ?_
            refine e_top (nI_add _ _) ?_
            refine lv_istore_n (lv' := [(2, .int (nI (x + 0))), (3, .int (nI z)), (0, .ref o), (1, .int (nI j))]) hx hb dX5_headsBeside_37 rfl hl (by decide) rfl (fun ls hl => ?_)
            refine lv_iinc (v := nI (z + 1)) (lv' := [(3, .int (nI (z + 1))), (2, .int (nI (x + 0))), (0, .ref o), (1, .int (nI j))]) hx hb dX5_headsBeside_38 hl (k := 1) rfl (nI_add z 1) (by decide) rfl (fun ls hl => ?_)
            refine lv_goto (tgt := 4) hx hb dX5_headsBeside_41 (by decide) ?_
            exact ihL4 (x + 0) (z + 1) (by first | omega | assumption | rfl | (simp_all; done)) (by first | (rw [fb_f (hbq_none c16)]; omega) | (rw [fb_f (by rw [hbq_some c16]; exact c28)]; omega) | (rw [fb_t (by rw [hbq_some c16]; exact c28)]; omega)) (by omega) _ _ hP hD hS _ (lv_sub hl [0, 1, 2, 3] rfl)
          · refine lv_iconst (v := nI 1) hx hb dX5_headsBeside_31 (by decide +kernel) ?_
            refine lv_goto (tgt := 36) hx hb dX5_headsBeside_32 (by decide) ?_
            refine lv_iadd hx hb dX5_headsBeside_36 ?_
            refine e_top (nI_add _ _) ?_
            refine lv_istore_n (lv' := [(2, .int (nI (x + 1))), (3, .int (nI z)), (0, .ref o), (1, .int (nI j))]) hx hb dX5_headsBeside_37 rfl hl (by decide) rfl (fun ls hl => ?_)
            refine lv_iinc (v := nI (z + 1)) (lv' := [(3, .int (nI (z + 1))), (2, .int (nI (x + 1))), (0, .ref o), (1, .int (nI j))]) hx hb dX5_headsBeside_38 hl (k := 1) rfl (nI_add z 1) (by decide) rfl (fun ls hl => ?_)
            refine lv_goto (tgt := 4) hx hb dX5_headsBeside_41 (by decide) ?_
            exact ihL4 (x + 1) (z + 1) (by first | omega | assumption | rfl | (simp_all; done)) (by first | (rw [fb_f (hbq_none c16)]; omega) | (rw [fb_f (by rw [hbq_some c16]; exact c28)]; omega) | (rw [fb_t (by rw [hbq_some c16]; exact c28)]; omega)) (by omega) _ _ hP hD hS _ (lv_sub hl [0, 1, 2, 3] rfl)
  exact L4 (4 - 0 + 1) 0 0 (by first | omega | assumption | rfl | (simp_all; done)) (rfl) (Nat.lt_succ_self _) _ _ hP hD hS _ (lv_sub hl [0, 1, 2, 3] rfl)

abbrev rm_X5_mark : Room := { frames := 1, cells := 0, slots := 0, locals := 21 }
set_option maxHeartbeats 4000000 in
set_option maxRecDepth 100000 in
theorem c_X5_mark (l : Launch) (E : eT) (sz : Nat) (o : Nat) (ad : Nat → Nat) (th : Int32) (gr : Nat → Int32) (co : Nat → Int32) (sd : Nat → Int32) (tk : Nat → Int32) (wm : Nat → Int32) (st : Nat → Int32) (mo : Nat) (nx : Nat → Int32) (lb : Nat → Option Nat) (fr : Nat → Nat) : cM l yX5_mark wsX5_mark rm_X5_mark E sz [.ref o] (wMo E o ad th gr co sd tk wm st (nI mo) nx lb fr) (fun u : (Nat → Option Nat) => none) (fun u : (Nat → Option Nat) => isLab (hd co) u) (fun u : (Nat → Option Nat) => wMo E o ad th gr co sd tk wm st (nI mo) nx u fr) := by
  refine cM_intro (cc := cX5_mark) (maxL := 5) (ret := none) (by decide +kernel) rfl (Nat.le_of_ble_eq_true rfl) ?_
  intro p e s m args below meth cd hx hb hr hml hown hlocks hts hnm hK hsz hP A hD hA Q hQ ls hl
  have hown : s.vm.findClass RX5 = some m.cls := hown
  have hin5 : ∀ w ∈ u_ws RX5 TX5 11, w ∈ wsX5_mark := by decide +kernel
  have lk31 := hts (.fieldLink RX5 31 "ReefPilotModel" "label" "[I") (by decide +kernel)
  have hS : va_S A s.heap s.heap [] := va_S.rf
  have hl : lv_has ls 5 [(0, .ref o)] := hl
  refine lv_iconst (v := nI 0) hx hb dX5_mark_0 (by decide +kernel) ?_
  refine lv_istore_n (lv' := [(1, .int (nI 0)), (0, .ref o)]) hx hb dX5_mark_1 rfl hl (by decide) rfl (fun ls hl => ?_)
  have L2 : ∀ (fuel : Nat) (z : Nat) (f : Nat → Option Nat) (hz : z ≤ 81) (hf : ∀ k : Nat, f k = if k < z then lab0 (hd co) k else lb k) (hfuel : 81 - z < fuel) (H : Heap) (locs : List Loc), va_P E.1 vwCl (wMo E o ad th gr co sd tk wm st (nI mo) nx f fr) H → va_D A (wMo E o ad th gr co sd tk wm st (nI mo) nx f fr) → va_S A s.heap H locs → ∀ ls : Array Slot, lv_has ls 5 [(1, .int (nI z)), (0, .ref o)] → W p l e rm_X5_mark s m args below meth cd H locs 0 0 Q (F0 m 2 ls []) := by
    intro fuel
    induction fuel with
    | zero => intros; omega
    | succ fuel ihL2 =>
      intro z f hz hf hfuel H locs hP hD hS ls hl
      refine lv_iload_n hx hb dX5_mark_2 rfl (lv_at hl 0 rfl) ?_
      refine lv_bipush (v := nI 81) hx hb dX5_mark_3 (by decide +kernel) ?_
      refine n_icmp_ge (x := z) (y := 81) (by omega) (by omega) (tgt := 33) hx hb dX5_mark_5 (by decide) (fun c5 => ?_) (fun c5 => ?_)
      · refine lv_iconst (v := nI 1) hx hb dX5_mark_33 (by decide +kernel) ?_
        refine lv_istore_n (lv' := [(1, .int (nI 1)), (0, .ref o)]) hx hb dX5_mark_34 rfl hl (by decide) rfl (fun ls hl => ?_)
        have L35 : ∀ (fuel : Nat) (g : Bool) (L0 : Nat → Option Nat) (hL0 : labI (hd co) L0) (hst : g = false → ∀ k, k < 81 → ∀ d, d < 4 → stb L0 k d) (hfuel : 2 * labM L0 + (if g = true then 1 else 0) < fuel) (H : Heap) (locs : List Loc), va_P E.1 vwCl (wMo E o ad th gr co sd tk wm st (nI mo) nx L0 fr) H → va_D A (wMo E o ad th gr co sd tk wm st (nI mo) nx L0 fr) → va_S A s.heap H locs → ∀ ls : Array Slot, lv_has ls 5 [(1, .int (b2i g)), (0, .ref o)] → W p l e rm_X5_mark s m args below meth cd H locs 0 0 Q (F0 m 35 ls []) := by
          intro fuel
          induction fuel with
          | zero => intros; omega
          | succ fuel ihL35 =>
            intro g L0 hL0 hst hfuel H locs hP hD hS ls hl
            have hfo := hfuel
            refine lv_iload_n hx hb dX5_mark_35 rfl (lv_at hl 0 rfl) ?_
            refine b_if_eq (x := g) (tgt := 139) hx hb dX5_mark_36 (by decide) (fun c36 => ?_) (fun c36 => ?_)
            · exact e_vret L0 hQ hx hb hr hlocks hP hD hS dX5_mark_139 (rfl) (Nat.le_of_ble_eq_true rfl) (Nat.le_of_ble_eq_true rfl) (isLab_of hL0 (hst c36))
            · refine lv_iconst (v := nI 0) hx hb dX5_mark_39 (by decide +kernel) ?_
              refine lv_istore_n (lv' := [(1, .int (nI 0)), (0, .ref o)]) hx hb dX5_mark_40 rfl hl (by decide) rfl (fun ls hl => ?_)
              refine lv_iconst (v := nI 0) hx hb dX5_mark_41 (by decide +kernel) ?_
              refine lv_istore_n (lv' := [(2, .int (nI 0)), (1, .int (nI 0)), (0, .ref o)]) hx hb dX5_mark_42 rfl hl (by decide) rfl (fun ls hl => ?_)
              have L43 : ∀ (fuel : Nat) (z : Nat) (g1 : Bool) (L1 : Nat → Option Nat) (hz : z ≤ 81) (hL1 : labI (hd co) L1) (hs1 : (g1 = false → labM L1 = labM L0 ∧ ∀ k, k < z → ∀ d, d < 4 → stb L1 k d)) (hg1 : g1 = true → labM L1 < labM L0) (hfuel : 81 - z < fuel) (H : Heap) (locs : List Loc), va_P E.1 vwCl (wMo E o ad th gr co sd tk wm st (nI mo) nx L1 fr) H → va_D A (wMo E o ad th gr co sd tk wm st (nI mo) nx L1 fr) → va_S A s.heap H locs → ∀ ls : Array Slot, lv_has ls 5 [(2, .int (nI z)), (1, .int (b2i g1)), (0, .ref o)] → W p l e rm_X5_mark s m args below meth cd H locs 0 0 Q (F0 m 43 ls []) := by
                intro fuel
                induction fuel with
                | zero => intros; omega
                | succ fuel ihL43 =>
                  intro z g1 L1 hz hL1 hs1 hg1 hfuel H locs hP hD hS ls hl
                  refine lv_iload_n hx hb dX5_mark_43 rfl (lv_at hl 0 rfl) ?_
                  refine lv_bipush (v := nI 81) hx hb dX5_mark_44 (by decide +kernel) ?_
                  refine n_icmp_ge (x := z) (y := 81) (by omega) (by omega) (tgt := 136) hx hb dX5_mark_46 (by decide) (fun c46 => ?_) (fun c46 => ?_)
                  · refine lv_goto (tgt := 35) hx hb dX5_mark_136 (by decide) ?_
                    exact ihL35 g1 L1 (hL1) (fun hg => fun k hk => (hs1 hg).2 k (by omega)) (by cases g1 with | false => (have h9 := (hs1 rfl).1; rw [c36] at hfo; simp only [if_true, Bool.false_eq_true, if_false] at hfo ⊢; omega) | true => (have h9 := hg1 rfl; rw [c36] at hfo; simp only [if_true] at hfo ⊢; omega)) _ _ hP hD hS _ (lv_sub hl [1, 2] rfl)
                  · refine lv_iconst (v := nI 0) hx hb dX5_mark_49 (by decide +kernel) ?_
                    refine lv_istore_n (lv' := [(3, .int (nI 0)), (2, .int (nI z)), (1, .int (b2i g1)), (0, .ref o)]) hx hb dX5_mark_50 rfl hl (by decide) rfl (fun ls hl => ?_)
                    have L51 : ∀ (fuel : Nat) (y : Nat) (g2 : Bool) (L2 : Nat → Option Nat) (hy : y ≤ 4) (hL2 : labI (hd co) L2) (hs2 : g2 = false → labM L2 = labM L0 ∧ (∀ k, k < z → ∀ d, d < 4 → stb L2 k d) ∧ ∀ d, d < y → stb L2 z d) (hg2 : g2 = true → labM L2 < labM L0) (hfuel : 4 - y < fuel) (H : Heap) (locs : List Loc), va_P E.1 vwCl (wMo E o ad th gr co sd tk wm st (nI mo) nx L2 fr) H → va_D A (wMo E o ad th gr co sd tk wm st (nI mo) nx L2 fr) → va_S A s.heap H locs → ∀ ls : Array Slot, lv_has ls 5 [(3, .int (nI y)), (2, .int (nI z)), (1, .int (b2i g2)), (0, .ref o)] → W p l e rm_X5_mark s m args below meth cd H locs 0 0 Q (F0 m 51 ls []) := by
                      intro fuel
                      induction fuel with
                      | zero => intros; omega
                      | succ fuel ihL51 =>
                        intro y g2 L2 hy hL2 hs2 hg2 hfuel H locs hP hD hS ls hl
                        have hz81 : z < 81 := by assumption
                        refine lv_iload_n hx hb dX5_mark_51 rfl (lv_at hl 0 rfl) ?_
                        refine lv_iconst (v := nI 4) hx hb dX5_mark_52 (by decide +kernel) ?_
                        refine n_icmp_ge (x := y) (y := 4) (by omega) (by omega) (tgt := 130) hx hb dX5_mark_53 (by decide) (fun c53 => ?_) (fun c53 => ?_)
                        · refine lv_iinc (v := nI (z + 1)) (lv' := [(2, .int (nI (z + 1))), (3, .int (nI y)), (1, .int (b2i g2)), (0, .ref o)]) hx hb dX5_mark_130 hl (k := 1) rfl (nI_add z 1) (by decide) rfl (fun ls hl => ?_)
                          refine lv_goto (tgt := 43) hx hb dX5_mark_133 (by decide) ?_
                          exact ihL43 (z + 1) g2 L2 (by first | omega | assumption | rfl | (simp_all; done)) (hL2) (fun hg => ⟨(hs2 hg).1, fun k hk d hd => by rcases Nat.lt_or_ge k z with h9 | h9; exact (hs2 hg).2.1 k h9 d hd; rw [show k = z by omega]; first | exact (hs2 hg).2.2 d (by omega) | exact (fun q a b _ ha _ => by rw [c63] at ha; cases ha)⟩) (hg2) (by omega) _ _ hP hD hS _ (lv_sub hl [0, 2, 3] rfl)
                        · refine lv_aload_n hx hb dX5_mark_56 rfl (lv_at hl 3 rfl) ?_
                          refine va_get (D := E.1) (ci := 5) (v := .ref (ad 7)) (C := RX5) (T := TX5) (N := 11) hx hb hts hin5 hown hK.1 hP 0 rfl rfl 9 (by decide) lk31 (fun _ h9 => h9) rfl dX5_mark_57 ?_
                          refine lv_iload_n hx hb dX5_mark_60 rfl (lv_at hl 1 rfl) ?_
                          refine e_oald hK hP 8 rfl z (by omega) (by decide) hx hb dX5_mark_61 ?_
                          refine lv_iconst (v := (-1)) hx hb dX5_mark_62 (by decide +kernel) ?_
                          refine o_icmp_eq (x := L2 z) (fun q hq => by have h9 := (labI_ob hL2 hz81 hq).1; omega) (tgt := 130) hx hb dX5_mark_63 (by decide) (fun c63 => ?_) (fun ql c63 => ?_)
                          · refine lv_iinc (v := nI (z + 1)) (lv' := [(2, .int (nI (z + 1))), (3, .int (nI y)), (1, .int (b2i g2)), (0, .ref o)]) hx hb dX5_mark_130 hl (k := 1) rfl (nI_add z 1) (by decide) rfl (fun ls hl => ?_)
                            refine lv_goto (tgt := 43) hx hb dX5_mark_133 (by decide) ?_
                            exact ihL43 (z + 1) g2 L2 (by first | omega | assumption | rfl | (simp_all; done)) (hL2) (fun hg => ⟨(hs2 hg).1, fun k hk d hd => by rcases Nat.lt_or_ge k z with h9 | h9; exact (hs2 hg).2.1 k h9 d hd; rw [show k = z by omega]; first | exact (hs2 hg).2.2 d (by omega) | exact (fun q a b _ ha _ => by rw [c63] at ha; cases ha)⟩) (hg2) (by omega) _ _ hP hD hS _ (lv_sub hl [0, 2, 3] rfl)
                          · refine lv_iload_n hx hb dX5_mark_66 rfl (lv_at hl 1 rfl) ?_
                            refine lv_iload_n hx hb dX5_mark_67 rfl (lv_at hl 0 rfl) ?_
                            refine e_callS (As := [.int (nI z), .int (nI y)]) (rest := []) ⟨hx, hb, hml, hown, hts⟩ hK hP hD hS hA hl.1 (c_X5_beside l E _ z y (by first | omega | assumption | rfl | (simp_all; done)) (by first | omega | assumption | rfl | (simp_all; done))) (va_cwS 2 hts gX5_mark_X5_beside rfl rfl rfl (by decide +kernel) ⟨Nat.le_of_ble_eq_true rfl, Nat.le_of_ble_eq_true rfl⟩) [] [0, 1, 2, 3, 4, 5, 6, 7, 8, 9] rfl rfl rfl rfl (by decide) rfl rfl (Nat.le_of_ble_eq_true rfl) dX5_mark_68 ⟨Nat.le_of_ble_eq_true rfl, Nat.le_of_ble_eq_true rfl⟩ (fun u_2 H locs hu_3 hsz1 hP hD hS => ?_)
                            have hP : va_P E.1 vwCl (wMo E o ad th gr co sd tk wm st (nI mo) nx L2 fr) H := hP.sub [0, 1, 2, 3, 4, 5, 6, 7, 8, 9] rfl
                            have hD : va_D A (wMo E o ad th gr co sd tk wm st (nI mo) nx L2 fr) := hD.sub [0, 1, 2, 3, 4, 5, 6, 7, 8, 9] (by decide) rfl
                            refine W.eq (g2 := F0 m 71 ls [.int (oI (nb z y))]) rfl ?_
                            refine lv_istore (lv' := [(4, .int (oI (nb z y))), (3, .int (nI y)), (2, .int (nI z)), (1, .int (b2i g2)), (0, .ref o)]) hx hb dX5_mark_71 hl (by decide) rfl (fun ls hl => ?_)
                            refine lv_iload hx hb dX5_mark_73 (lv_at hl 0 rfl) ?_
                            refine lv_iconst (v := (-1)) hx hb dX5_mark_75 (by decide +kernel) ?_
                            refine o_icmp_eq (x := nb z y) (nb_ob hz81) (tgt := 124) hx hb dX5_mark_76 (by decide) (fun c76 => ?_) (fun qn c76 => ?_)
                            · refine lv_iinc (v := nI (y + 1)) (lv' := [(3, .int (nI (y + 1))), (4, .int (oI (nb z y))), (2, .int (nI z)), (1, .int (b2i g2)), (0, .ref o)]) hx hb dX5_mark_124 hl (k := 1) rfl (nI_add y 1) (by decide) rfl (fun ls hl => ?_)
                              refine lv_goto (tgt := 51) hx hb dX5_mark_127 (by decide) ?_
                              exact ihL51 (y + 1) g2 L2 (by first | omega | assumption | rfl | (simp_all; done)) (by first | exact hL2 | exact (labI_up hL2 hz81 (by omega) c76 c63 c87 c103).1) (fun hg => by first | exact absurd hg (by decide) | exact ⟨(hs2 hg).1, (hs2 hg).2.1, fun d hd => by rcases Nat.lt_or_ge d y with h9 | h9; exact (hs2 hg).2.2 d h9; rw [show d = y by omega]; intro q a b hn ha hb; first | (rw [c76] at hn; cases hn; done) | (rw [c76] at hn; cases hn; rw [c87] at hb; cases hb; done) | (rw [c76] at hn; cases hn; rw [c63] at ha; cases ha; rw [c87] at hb; cases hb; omega)⟩) (by first | exact hg2 | (intro _; have h9 := (labI_up hL2 hz81 (by omega) c76 c63 c87 c103).2; cases hgc : g2 with | false => (have h8 := (hs2 hgc).1; omega) | true => (have h8 := hg2 hgc; omega))) (by omega) _ _ hP hD hS _ (lv_sub hl [0, 2, 3, 4] rfl)
                            · have hq_ : qn < 81 := nb_lt hz81 c76
                              refine lv_aload_n hx hb dX5_mark_79 rfl (lv_at hl 4 rfl) ?_
                              refine va_get (D := E.1) (ci := 5) (v := .ref (ad 7)) (C := RX5) (T := TX5) (N := 11) hx hb hts hin5 hown hK.1 hP 0 rfl rfl 9 (by decide) lk31 (fun _ h9 => h9) rfl dX5_mark_80 ?_
                              refine lv_iload hx hb dX5_mark_83 (lv_at hl 0 rfl) ?_
                              refine e_top (show oI (nb z y) = nI qn by rw [c76]; rfl) ?_
                              refine e_oald hK hP 8 rfl qn (by omega) (by decide) hx hb dX5_mark_85 ?_
                              refine lv_iconst (v := (-1)) hx hb dX5_mark_86 (by decide +kernel) ?_
                              refine o_icmp_eq (x := L2 qn) (fun q hq => by have h9 := (labI_ob hL2 hq_ hq).1; omega) (tgt := 124) hx hb dX5_mark_87 (by decide) (fun c87 => ?_) (fun qo c87 => ?_)
                              · refine lv_iinc (v := nI (y + 1)) (lv' := [(3, .int (nI (y + 1))), (4, .int (oI (nb z y))), (2, .int (nI z)), (1, .int (b2i g2)), (0, .ref o)]) hx hb dX5_mark_124 hl (k := 1) rfl (nI_add y 1) (by decide) rfl (fun ls hl => ?_)
                                refine lv_goto (tgt := 51) hx hb dX5_mark_127 (by decide) ?_
                                exact ihL51 (y + 1) g2 L2 (by first | omega | assumption | rfl | (simp_all; done)) (by first | exact hL2 | exact (labI_up hL2 hz81 (by omega) c76 c63 c87 c103).1) (fun hg => by first | exact absurd hg (by decide) | exact ⟨(hs2 hg).1, (hs2 hg).2.1, fun d hd => by rcases Nat.lt_or_ge d y with h9 | h9; exact (hs2 hg).2.2 d h9; rw [show d = y by omega]; intro q a b hn ha hb; first | (rw [c76] at hn; cases hn; done) | (rw [c76] at hn; cases hn; rw [c87] at hb; cases hb; done) | (rw [c76] at hn; cases hn; rw [c63] at ha; cases ha; rw [c87] at hb; cases hb; omega)⟩) (by first | exact hg2 | (intro _; have h9 := (labI_up hL2 hz81 (by omega) c76 c63 c87 c103).2; cases hgc : g2 with | false => (have h8 := (hs2 hgc).1; omega) | true => (have h8 := hg2 hgc; omega))) (by omega) _ _ hP hD hS _ (lv_sub hl [0, 2, 3, 4] rfl)
                              · have hqo1 := (labI_ob hL2 hq_ c87).1
                                have hql1 := (labI_ob hL2 hz81 c63).1
                                refine lv_aload_n hx hb dX5_mark_90 rfl (lv_at hl 4 rfl) ?_
                                refine va_get (D := E.1) (ci := 5) (v := .ref (ad 7)) (C := RX5) (T := TX5) (N := 11) hx hb hts hin5 hown hK.1 hP 0 rfl rfl 9 (by decide) lk31 (fun _ h9 => h9) rfl dX5_mark_91 ?_
                                refine lv_iload hx hb dX5_mark_94 (lv_at hl 0 rfl) ?_
                                refine e_top (show oI (nb z y) = nI qn by rw [c76]; rfl) ?_
                                refine e_oald hK hP 8 rfl qn (by omega) (by decide) hx hb dX5_mark_96 ?_
                                refine e_top (show oI (L2 qn) = nI qo by rw [c87]; rfl) ?_
                                refine lv_aload_n hx hb dX5_mark_97 rfl (lv_at hl 4 rfl) ?_
                                refine va_get (D := E.1) (ci := 5) (v := .ref (ad 7)) (C := RX5) (T := TX5) (N := 11) hx hb hts hin5 hown hK.1 hP 0 rfl rfl 9 (by decide) lk31 (fun _ h9 => h9) rfl dX5_mark_98 ?_
                                refine lv_iload_n hx hb dX5_mark_101 rfl (lv_at hl 2 rfl) ?_
                                refine e_oald hK hP 8 rfl z (by omega) (by decide) hx hb dX5_mark_102 ?_
                                refine e_top (show oI (L2 z) = nI ql by rw [c63]; rfl) ?_
                                refine n_icmp_lt (x := qo) (y := ql) (by omega) (by omega) (tgt := 109) hx hb dX5_mark_103 (by decide) (fun c103 => ?_) (fun c103 => ?_)
                                · refine lv_aload_n hx hb dX5_mark_109 rfl (lv_at hl 4 rfl) ?_
                                  refine va_get (D := E.1) (ci := 5) (v := .ref (ad 7)) (C := RX5) (T := TX5) (N := 11) hx hb hts hin5 hown hK.1 hP 0 rfl rfl 9 (by decide) lk31 (fun _ h9 => h9) rfl dX5_mark_110 ?_
                                  refine lv_iload_n hx hb dX5_mark_113 rfl (lv_at hl 2 rfl) ?_
                                  refine lv_aload_n hx hb dX5_mark_114 rfl (lv_at hl 4 rfl) ?_
                                  refine va_get (D := E.1) (ci := 5) (v := .ref (ad 7)) (C := RX5) (T := TX5) (N := 11) hx hb hts hin5 hown hK.1 hP 0 rfl rfl 9 (by decide) lk31 (fun _ h9 => h9) rfl dX5_mark_115 ?_
                                  refine lv_iload hx hb dX5_mark_118 (lv_at hl 0 rfl) ?_
                                  refine e_top (show oI (nb z y) = nI qn by rw [c76]; rfl) ?_
                                  refine e_oald hK hP 8 rfl qn (by omega) (by decide) hx hb dX5_mark_120 ?_
                                  refine e_oast (x := L2 qn) hK hP hD hS 8 rfl z (by omega) (by decide) hx hb dX5_mark_121 (fun H locs hP hD hS => ?_)
                                  have hP : va_P E.1 vwCl (wMo E o ad th gr co sd tk wm st (nI mo) nx (va_up L2 z (L2 qn)) fr) H := hP
                                  have hD : va_D A (wMo E o ad th gr co sd tk wm st (nI mo) nx (va_up L2 z (L2 qn)) fr) := hD
                                  refine lv_iconst (v := nI 1) hx hb dX5_mark_122 (by decide +kernel) ?_
                                  refine lv_istore_n (lv' := [(1, .int (nI 1)), (4, .int (oI (nb z y))), (3, .int (nI y)), (2, .int (nI z)), (0, .ref o)]) hx hb dX5_mark_123 rfl hl (by decide) rfl (fun ls hl => ?_)
                                  refine lv_iinc (v := nI (y + 1)) (lv' := [(3, .int (nI (y + 1))), (1, .int (nI 1)), (4, .int (oI (nb z y))), (2, .int (nI z)), (0, .ref o)]) hx hb dX5_mark_124 hl (k := 2) rfl (nI_add y 1) (by decide) rfl (fun ls hl => ?_)
                                  refine lv_goto (tgt := 51) hx hb dX5_mark_127 (by decide) ?_
                                  exact ihL51 (y + 1) true (va_up L2 z (L2 qn)) (by first | omega | assumption | rfl | (simp_all; done)) (by first | exact hL2 | exact (labI_up hL2 hz81 (by omega) c76 c63 c87 c103).1) (fun hg => by first | exact absurd hg (by decide) | exact ⟨(hs2 hg).1, (hs2 hg).2.1, fun d hd => by rcases Nat.lt_or_ge d y with h9 | h9; exact (hs2 hg).2.2 d h9; rw [show d = y by omega]; intro q a b hn ha hb; first | (rw [c76] at hn; cases hn; done) | (rw [c76] at hn; cases hn; rw [c87] at hb; cases hb; done) | (rw [c76] at hn; cases hn; rw [c63] at ha; cases ha; rw [c87] at hb; cases hb; omega)⟩) (by first | exact hg2 | (intro _; have h9 := (labI_up hL2 hz81 (by omega) c76 c63 c87 c103).2; cases hgc : g2 with | false => (have h8 := (hs2 hgc).1; omega) | true => (have h8 := hg2 hgc; omega))) (by omega) _ _ hP hD hS _ (lv_sub hl [0, 3, 1, 4] rfl)
                                · refine lv_goto (tgt := 124) hx hb dX5_mark_106 (by decide) ?_
                                  refine lv_iinc (v := nI (y + 1)) (lv' := [(3, .int (nI (y + 1))), (4, .int (oI (nb z y))), (2, .int (nI z)), (1, .int (b2i g2)), (0, .ref o)]) hx hb dX5_mark_124 hl (k := 1) rfl (nI_add y 1) (by decide) rfl (fun ls hl => ?_)
                                  refine lv_goto (tgt := 51) hx hb dX5_mark_127 (by decide) ?_
                                  exact ihL51 (y + 1) g2 L2 (by first | omega | assumption | rfl | (simp_all; done)) (by first | exact hL2 | exact (labI_up hL2 hz81 (by omega) c76 c63 c87 c103).1) (fun hg => by first | exact absurd hg (by decide) | exact ⟨(hs2 hg).1, (hs2 hg).2.1, fun d hd => by rcases Nat.lt_or_ge d y with h9 | h9; exact (hs2 hg).2.2 d h9; rw [show d = y by omega]; intro q a b hn ha hb; first | (rw [c76] at hn; cases hn; done) | (rw [c76] at hn; cases hn; rw [c87] at hb; cases hb; done) | (rw [c76] at hn; cases hn; rw [c63] at ha; cases ha; rw [c87] at hb; cases hb; omega)⟩) (by first | exact hg2 | (intro _; have h9 := (labI_up hL2 hz81 (by omega) c76 c63 c87 c103).2; cases hgc : g2 with | false => (have h8 := (hs2 hgc).1; omega) | true => (have h8 := hg2 hgc; omega))) (by omega) _ _ hP hD hS _ (lv_sub hl [0, 2, 3, 4] rfl)
                    exact L51 (4 - 0 + 1) 0 g1 L1 (by first | omega | assumption | rfl | (simp_all; done)) (hL1) (fun hg => ⟨(hs1 hg).1, (hs1 hg).2, fun d hd => absurd hd (Nat.not_lt_zero d)⟩) (hg1) (Nat.lt_succ_self _) _ _ hP hD hS _ (lv_sub hl [0, 1, 2, 3] rfl)
              exact L43 (81 - 0 + 1) 0 false L0 (by first | omega | assumption | rfl | (simp_all; done)) (hL0) (fun _ => ⟨rfl, fun k hk => absurd hk (Nat.not_lt_zero k)⟩) (fun h => by cases h) (Nat.lt_succ_self _) _ _ hP hD hS _ (lv_sub hl [0, 1, 2] rfl)
        exact L35 (2 * labM f + (if true = true then 1 else 0) + 1) true f (lab0_I (layG_end hf (by omega))) (fun h => by cases h) (Nat.lt_succ_self _) _ _ hP hD hS _ (lv_sub hl [0, 1] rfl)
      · refine lv_aload_n hx hb dX5_mark_8 rfl (lv_at hl 1 rfl) ?_
        refine va_get (D := E.1) (ci := 5) (v := .ref (ad 7)) (C := RX5) (T := TX5) (N := 11) hx hb hts hin5 hown hK.1 hP 0 rfl rfl 9 (by decide) lk31 (fun _ h9 => h9) rfl dX5_mark_9 ?_
        refine lv_iload_n hx hb dX5_mark_12 rfl (lv_at hl 0 rfl) ?_
        refine lv_aload_n hx hb dX5_mark_13 rfl (lv_at hl 1 rfl) ?_
        refine lv_iload_n hx hb dX5_mark_14 rfl (lv_at hl 0 rfl) ?_
        refine e_callV (As := [.int (nI z)]) (rest := [.int (nI z), .ref (ad 7)]) ⟨hx, hb, hml, hown, hts⟩ hK hP hD hS hA hl.1 (c_X5_isHead l E _ o ad th gr co sd tk wm st mo nx f fr z (by first | omega | assumption | rfl | (simp_all; done))) (cwV 1 hts gX5_mark_X5_isHead rfl rfl rfl (by decide +kernel) ⟨Nat.le_of_ble_eq_true rfl, Nat.le_of_ble_eq_true rfl⟩) [0, 1, 2, 3, 4, 5, 6, 7, 8, 9] [] rfl rfl rfl rfl (by decide) (q0 := 0) (ci := 5) rfl rfl rfl rfl (Nat.le_of_ble_eq_true rfl) dX5_mark_15 ⟨Nat.le_of_ble_eq_true rfl, Nat.le_of_ble_eq_true rfl⟩ (fun u_6 H locs hu_7 hsz1 hP hD hS => ?_)
        have hP : va_P E.1 vwCl (wMo E o ad th gr co sd tk wm st (nI mo) nx f fr) H := hP.sub [0, 1, 2, 3, 4, 5, 6, 7, 8, 9] rfl
        have hD : va_D A (wMo E o ad th gr co sd tk wm st (nI mo) nx f fr) := hD.sub [0, 1, 2, 3, 4, 5, 6, 7, 8, 9] (by decide) rfl
        refine W.eq (g2 := F0 m 18 ls [.int (b2i (hd co z)), .int (nI z), .ref (ad 7)]) rfl ?_
        refine b_if_eq (x := hd co z) (tgt := 25) hx hb dX5_mark_18 (by decide) (fun c18 => ?_) (fun c18 => ?_)
        · refine lv_iconst (v := (-1)) hx hb dX5_mark_25 (by decide +kernel) ?_
          refine e_top (y := oI (lab0 (hd co) z)) (by unfold lab0; rw [if_neg (by rw [c18]; decide)]; rfl) ?_
          refine e_oast (x := lab0 (hd co) z) hK hP hD hS 8 rfl z (by omega) (by decide) hx hb dX5_mark_26 (fun H locs hP hD hS => ?_)
          have hP : va_P E.1 vwCl (wMo E o ad th gr co sd tk wm st (nI mo) nx (va_up f z (lab0 (hd co) z)) fr) H := hP
          have hD : va_D A (wMo E o ad th gr co sd tk wm st (nI mo) nx (va_up f z (lab0 (hd co) z)) fr) := hD
          refine lv_iinc (v := nI (z + 1)) (lv' := [(1, .int (nI (z + 1))), (0, .ref o)]) hx hb dX5_mark_27 hl (k := 0) rfl (nI_add z 1) (by decide) rfl (fun ls hl => ?_)
          refine lv_goto (tgt := 2) hx hb dX5_mark_30 (by decide) ?_
          exact ihL2 (z + 1) (va_up f z (lab0 (hd co) z)) (by first | omega | assumption | rfl | (simp_all; done)) (layG_upd hf rfl) (by omega) _ _ hP hD hS _ (lv_sub hl [0, 1] rfl)
        · refine lv_iload_n hx hb dX5_mark_21 rfl (lv_at hl 0 rfl) ?_
          refine lv_goto (tgt := 26) hx hb dX5_mark_22 (by decide) ?_
          refine e_top (y := oI (lab0 (hd co) z)) (by unfold lab0; rw [if_pos c18]; rfl) ?_
          refine e_oast (x := lab0 (hd co) z) hK hP hD hS 8 rfl z (by omega) (by decide) hx hb dX5_mark_26 (fun H locs hP hD hS => ?_)
          have hP : va_P E.1 vwCl (wMo E o ad th gr co sd tk wm st (nI mo) nx (va_up f z (lab0 (hd co) z)) fr) H := hP
          have hD : va_D A (wMo E o ad th gr co sd tk wm st (nI mo) nx (va_up f z (lab0 (hd co) z)) fr) := hD
          refine lv_iinc (v := nI (z + 1)) (lv' := [(1, .int (nI (z + 1))), (0, .ref o)]) hx hb dX5_mark_27 hl (k := 0) rfl (nI_add z 1) (by decide) rfl (fun ls hl => ?_)
          refine lv_goto (tgt := 2) hx hb dX5_mark_30 (by decide) ?_
          exact ihL2 (z + 1) (va_up f z (lab0 (hd co) z)) (by first | omega | assumption | rfl | (simp_all; done)) (layG_upd hf rfl) (by omega) _ _ hP hD hS _ (lv_sub hl [0, 1] rfl)
  exact L2 (81 - 0 + 1) 0 lb (by first | omega | assumption | rfl | (simp_all; done)) (layG_0) (Nat.lt_succ_self _) _ _ hP hD hS _ (lv_sub hl [0, 1] rfl)

abbrev rm_X5_reefOf : Room := { frames := 2, cells := 0, slots := 0, locals := 45 }
set_option maxHeartbeats 4000000 in
set_option maxRecDepth 100000 in
theorem c_X5_reefOf (l : Launch) (E : eT) (sz : Nat) (o : Nat) (ad : Nat → Nat) (th : Int32) (gr : Nat → Int32) (co : Nat → Int32) (sd : Nat → Int32) (tk : Nat → Int32) (wm : Nat → Int32) (st : Nat → Int32) (mo : Nat) (nx : Nat → Int32) (lb : Nat → Option Nat) (fr : Nat → Nat) (j : Nat) (hj : j < 81) : cM l yX5_reefOf wsX5_reefOf rm_X5_reefOf E sz [.ref o, .int (nI j)] (wMo E o ad th gr co sd tk wm st (nI mo) nx lb fr) (fun u : (Nat → Option Nat) => some (.int (nI (sizeN (hd co) j)))) (fun u : (Nat → Option Nat) => True) (fun u : (Nat → Option Nat) => wMo E o ad th gr co sd tk wm st (nI mo) nx u fr) := by
  refine cM_intro (cc := cX5_reefOf) (maxL := 4) (ret := (some .int)) (by decide +kernel) rfl (Nat.le_of_ble_eq_true rfl) ?_
  intro p e s m args below meth cd hx hb hr hml hown hlocks hts hnm hK hsz hP A hD hA Q hQ ls hl
  have hown : s.vm.findClass RX5 = some m.cls := hown
  have hin5 : ∀ w ∈ u_ws RX5 TX5 11, w ∈ wsX5_reefOf := by decide +kernel
  have lk31 := hts (.fieldLink RX5 31 "ReefPilotModel" "label" "[I") (by decide +kernel)
  have hS : va_S A s.heap s.heap [] := va_S.rf
  have hl : lv_has ls 4 [(0, .ref o), (1, .int (nI j))] := hl
  refine lv_aload_n hx hb dX5_reefOf_0 rfl (lv_at hl 0 rfl) ?_
  refine lv_iload_n hx hb dX5_reefOf_1 rfl (lv_at hl 1 rfl) ?_
  refine e_callV (As := [.int (nI j)]) (rest := []) ⟨hx, hb, hml, hown, hts⟩ hK hP hD hS hA hl.1 (c_X5_isHead l E _ o ad th gr co sd tk wm st mo nx lb fr j (by first | omega | assumption | rfl | (simp_all; done))) (cwV 1 hts gX5_reefOf_X5_isHead rfl rfl rfl (by decide +kernel) ⟨Nat.le_of_ble_eq_true rfl, Nat.le_of_ble_eq_true rfl⟩) [0, 1, 2, 3, 4, 5, 6, 7, 8, 9] [] rfl rfl rfl rfl (by decide) (q0 := 0) (ci := 5) rfl rfl rfl rfl (Nat.le_of_ble_eq_true rfl) dX5_reefOf_2 ⟨Nat.le_of_ble_eq_true rfl, Nat.le_of_ble_eq_true rfl⟩ (fun u_1 H locs hu_2 hsz1 hP hD hS => ?_)
  have hP : va_P E.1 vwCl (wMo E o ad th gr co sd tk wm st (nI mo) nx lb fr) H := hP.sub [0, 1, 2, 3, 4, 5, 6, 7, 8, 9] rfl
  have hD : va_D A (wMo E o ad th gr co sd tk wm st (nI mo) nx lb fr) := hD.sub [0, 1, 2, 3, 4, 5, 6, 7, 8, 9] (by decide) rfl
  refine W.eq (g2 := F0 m 5 ls [.int (b2i (hd co j))]) rfl ?_
  refine b_if_ne (x := hd co j) (tgt := 10) hx hb dX5_reefOf_5 (by decide) (fun c5 => ?_) (fun c5 => ?_)
  · refine lv_aload_n hx hb dX5_reefOf_10 rfl (lv_at hl 0 rfl) ?_
    refine e_callV (As := []) (rest := []) ⟨hx, hb, hml, hown, hts⟩ hK hP hD hS hA hl.1 (c_X5_mark l E _ o ad th gr co sd tk wm st mo nx lb fr) (cwV 0 hts gX5_reefOf_X5_mark rfl rfl rfl (by decide +kernel) ⟨Nat.le_of_ble_eq_true rfl, Nat.le_of_ble_eq_true rfl⟩) [0, 1, 2, 3, 4, 5, 6, 7, 8, 9] [] rfl rfl rfl rfl (by decide) (q0 := 0) (ci := 5) rfl rfl rfl rfl (Nat.le_of_ble_eq_true rfl) dX5_reefOf_11 ⟨Nat.le_of_ble_eq_true rfl, Nat.le_of_ble_eq_true rfl⟩ (fun u_3 H locs hu_4 hsz1 hP hD hS => ?_)
    obtain ⟨lb__5, rfl⟩ : ∃ z, z = u_3 := ⟨_, rfl⟩
    have hu_4 : isLab (hd co) lb__5 := hu_4
    have hP : va_P E.1 vwCl (wMo E o ad th gr co sd tk wm st (nI mo) nx lb__5 fr) H := hP.sub [0, 1, 2, 3, 4, 5, 6, 7, 8, 9] rfl
    have hD : va_D A (wMo E o ad th gr co sd tk wm st (nI mo) nx lb__5 fr) := hD.sub [0, 1, 2, 3, 4, 5, 6, 7, 8, 9] (by decide) rfl
    refine W.eq (g2 := F0 m 14 ls []) rfl ?_
    have HLU := hu_4
    refine lv_iconst (v := nI 0) hx hb dX5_reefOf_14 (by decide +kernel) ?_
    refine lv_istore_n (lv' := [(2, .int (nI 0)), (0, .ref o), (1, .int (nI j))]) hx hb dX5_reefOf_15 rfl hl (by decide) rfl (fun ls hl => ?_)
    refine lv_iconst (v := nI 0) hx hb dX5_reefOf_16 (by decide +kernel) ?_
    refine lv_istore_n (lv' := [(3, .int (nI 0)), (2, .int (nI 0)), (0, .ref o), (1, .int (nI j))]) hx hb dX5_reefOf_17 rfl hl (by decide) rfl (fun ls hl => ?_)
    have L18 : ∀ (fuel : Nat) (x : Nat) (z : Nat) (hz : z ≤ 81) (hx_ : x = fb_ct (fun y => decide (lb__5 y = lb__5 j)) z) (hfuel : 81 - z < fuel) (H : Heap) (locs : List Loc), va_P E.1 vwCl (wMo E o ad th gr co sd tk wm st (nI mo) nx lb__5 fr) H → va_D A (wMo E o ad th gr co sd tk wm st (nI mo) nx lb__5 fr) → va_S A s.heap H locs → ∀ ls : Array Slot, lv_has ls 4 [(3, .int (nI z)), (2, .int (nI x)), (0, .ref o), (1, .int (nI j))] → W p l e rm_X5_reefOf s m args below meth cd H locs 0 0 Q (F0 m 18 ls []) := by
      intro fuel
      induction fuel with
      | zero => intros; omega
      | succ fuel ihL18 =>
        intro x z hz hx_ hfuel H locs hP hD hS ls hl
        have hxz := fb_ct_le (fun y => decide (lb__5 y = lb__5 j)) z
        refine lv_iload_n hx hb dX5_reefOf_18 rfl (lv_at hl 0 rfl) ?_
        refine lv_bipush (v := nI 81) hx hb dX5_reefOf_19 (by decide +kernel) ?_
        refine n_icmp_ge (x := z) (y := 81) (by omega) (by omega) (tgt := 53) hx hb dX5_reefOf_21 (by decide) (fun c21 => ?_) (fun c21 => ?_)
        · refine lv_iload_n hx hb dX5_reefOf_53 rfl (lv_at hl 1 rfl) ?_
          exact e_iret lb__5 hQ hx hb hr hlocks hP hD hS dX5_reefOf_54 (rvi (by unfold sizeN; rw [if_pos c5, hx_, show z = 81 by omega, isLab_size HLU hj c5])) (Nat.le_of_ble_eq_true rfl) (Nat.le_of_ble_eq_true rfl) (trivial)
        · refine lv_iload_n hx hb dX5_reefOf_24 rfl (lv_at hl 1 rfl) ?_
          refine lv_aload_n hx hb dX5_reefOf_25 rfl (lv_at hl 2 rfl) ?_
          refine va_get (D := E.1) (ci := 5) (v := .ref (ad 7)) (C := RX5) (T := TX5) (N := 11) hx hb hts hin5 hown hK.1 hP 0 rfl rfl 9 (by decide) lk31 (fun _ h9 => h9) rfl dX5_reefOf_26 ?_
          refine lv_iload_n hx hb dX5_reefOf_29 rfl (lv_at hl 0 rfl) ?_
          refine e_oald hK hP 8 rfl z (by omega) (by decide) hx hb dX5_reefOf_30 ?_
          refine lv_aload_n hx hb dX5_reefOf_31 rfl (lv_at hl 2 rfl) ?_
          refine va_get (D := E.1) (ci := 5) (v := .ref (ad 7)) (C := RX5) (T := TX5) (N := 11) hx hb hts hin5 hown hK.1 hP 0 rfl rfl 9 (by decide) lk31 (fun _ h9 => h9) rfl dX5_reefOf_32 ?_
          refine lv_iload_n hx hb dX5_reefOf_35 rfl (lv_at hl 3 rfl) ?_
          refine e_oald hK hP 8 rfl j (by omega) (by decide) hx hb dX5_reefOf_36 ?_
          refine oo_icmp_ne (x := lb__5 z) (y := lb__5 j) (by intro q hq; first | (cases hq; omega) | exact isLab_ob HLU (by omega) hq) (by intro q hq; first | (cases hq; omega) | exact isLab_ob HLU (by omega) hq) (tgt := 44) hx hb dX5_reefOf_37 (by decide) (fun c37 => ?_) (fun c37 => ?_)
          · refine lv_iconst (v := nI 0) hx hb dX5_reefOf_44 (by decide +kernel) ?_
            refine lv_iadd hx hb dX5_reefOf_45 ?_
            refine e_top (nI_add _ _) ?_
            refine lv_istore_n (lv' := [(2, .int (nI (x + 0))), (3, .int (nI z)), (0, .ref o), (1, .int (nI j))]) hx hb dX5_reefOf_46 rfl hl (by decide) rfl (fun ls hl => ?_)
            refine lv_iinc (v := nI (z + 1)) (lv' := [(3, .int (nI (z + 1))), (2, .int (nI (x + 0))), (0, .ref o), (1, .int (nI j))]) hx hb dX5_reefOf_47 hl (k := 1) rfl (nI_add z 1) (by decide) rfl (fun ls hl => ?_)
            refine lv_goto (tgt := 18) hx hb dX5_reefOf_50 (by decide) ?_
            exact ihL18 (x + 0) (z + 1) (by first | omega | assumption | rfl | (simp_all; done)) (by first | (rw [fb_t (f := fun y => decide (lb__5 y = lb__5 j)) (decide_eq_true c37)]; omega) | (rw [fb_f (f := fun y => decide (lb__5 y = lb__5 j)) (decide_eq_false c37)]; omega)) (by omega) _ _ hP hD hS _ (lv_sub hl [0, 1, 2, 3] rfl)
          · refine lv_iconst (v := nI 1) hx hb dX5_reefOf_40 (by decide +kernel) ?_
            refine lv_goto (tgt := 45) hx hb dX5_reefOf_41 (by decide) ?_
            refine lv_iadd hx hb dX5_reefOf_45 ?_
            refine e_top (nI_add _ _) ?_
            refine lv_istore_n (lv' := [(2, .int (nI (x + 1))), (3, .int (nI z)), (0, .ref o), (1, .int (nI j))]) hx hb dX5_reefOf_46 rfl hl (by decide) rfl (fun ls hl => ?_)
            refine lv_iinc (v := nI (z + 1)) (lv' := [(3, .int (nI (z + 1))), (2, .int (nI (x + 1))), (0, .ref o), (1, .int (nI j))]) hx hb dX5_reefOf_47 hl (k := 1) rfl (nI_add z 1) (by decide) rfl (fun ls hl => ?_)
            refine lv_goto (tgt := 18) hx hb dX5_reefOf_50 (by decide) ?_
            exact ihL18 (x + 1) (z + 1) (by first | omega | assumption | rfl | (simp_all; done)) (by first | (rw [fb_t (f := fun y => decide (lb__5 y = lb__5 j)) (decide_eq_true c37)]; omega) | (rw [fb_f (f := fun y => decide (lb__5 y = lb__5 j)) (decide_eq_false c37)]; omega)) (by omega) _ _ hP hD hS _ (lv_sub hl [0, 1, 2, 3] rfl)
    exact L18 (81 - 0 + 1) 0 0 (by first | omega | assumption | rfl | (simp_all; done)) (by first | omega | assumption | rfl | (simp_all; done)) (Nat.lt_succ_self _) _ _ hP hD hS _ (lv_sub hl [0, 1, 2, 3] rfl)
  · refine lv_iconst (v := nI 0) hx hb dX5_reefOf_8 (by decide +kernel) ?_
    exact e_iret lb hQ hx hb hr hlocks hP hD hS dX5_reefOf_9 (rvi (by unfold sizeN; rw [if_neg (by rw [c5]; decide)])) (Nat.le_of_ble_eq_true rfl) (Nat.le_of_ble_eq_true rfl) (trivial)

abbrev rm_X5_heads : Room := { frames := 1, cells := 0, slots := 0, locals := 21 }
set_option maxHeartbeats 4000000 in
set_option maxRecDepth 100000 in
theorem c_X5_heads (l : Launch) (E : eT) (sz : Nat) (o : Nat) (ad : Nat → Nat) (th : Int32) (gr : Nat → Int32) (co : Nat → Int32) (sd : Nat → Int32) (tk : Nat → Int32) (wm : Nat → Int32) (st : Nat → Int32) (mo : Nat) (nx : Nat → Int32) (lb : Nat → Option Nat) (fr : Nat → Nat) : cM l yX5_heads wsX5_heads rm_X5_heads E sz [.ref o] (wMo E o ad th gr co sd tk wm st (nI mo) nx lb fr) (fun u : Unit => some (.int (nI (heads co)))) (fun u : Unit => True) (fun u : Unit => wMo E o ad th gr co sd tk wm st (nI mo) nx lb fr) := by
  refine cM_intro (cc := cX5_heads) (maxL := 3) (ret := (some .int)) (by decide +kernel) rfl (Nat.le_of_ble_eq_true rfl) ?_
  intro p e s m args below meth cd hx hb hr hml hown hlocks hts hnm hK hsz hP A hD hA Q hQ ls hl
  have hown : s.vm.findClass RX5 = some m.cls := hown
  have hS : va_S A s.heap s.heap [] := va_S.rf
  have hl : lv_has ls 3 [(0, .ref o)] := hl
  refine lv_iconst (v := nI 0) hx hb dX5_heads_0 (by decide +kernel) ?_
  refine lv_istore_n (lv' := [(1, .int (nI 0)), (0, .ref o)]) hx hb dX5_heads_1 rfl hl (by decide) rfl (fun ls hl => ?_)
  refine lv_iconst (v := nI 0) hx hb dX5_heads_2 (by decide +kernel) ?_
  refine lv_istore_n (lv' := [(2, .int (nI 0)), (1, .int (nI 0)), (0, .ref o)]) hx hb dX5_heads_3 rfl hl (by decide) rfl (fun ls hl => ?_)
  have L4 : ∀ (fuel : Nat) (x : Nat) (z : Nat) (hz : z ≤ 81) (hx_ : x = fb_ct (hd co) z) (hfuel : 81 - z < fuel) (H : Heap) (locs : List Loc), va_P E.1 vwCl (wMo E o ad th gr co sd tk wm st (nI mo) nx lb fr) H → va_D A (wMo E o ad th gr co sd tk wm st (nI mo) nx lb fr) → va_S A s.heap H locs → ∀ ls : Array Slot, lv_has ls 3 [(2, .int (nI z)), (1, .int (nI x)), (0, .ref o)] → W p l e rm_X5_heads s m args below meth cd H locs 0 0 Q (F0 m 4 ls []) := by
    intro fuel
    induction fuel with
    | zero => intros; omega
    | succ fuel ihL4 =>
      intro x z hz hx_ hfuel H locs hP hD hS ls hl
      have hxz := fb_ct_le (hd co) z
      refine lv_iload_n hx hb dX5_heads_4 rfl (lv_at hl 0 rfl) ?_
      refine lv_bipush (v := nI 81) hx hb dX5_heads_5 (by decide +kernel) ?_
      refine n_icmp_ge (x := z) (y := 81) (by omega) (by omega) (tgt := 32) hx hb dX5_heads_7 (by decide) (fun c7 => ?_) (fun c7 => ?_)
      · refine lv_iload_n hx hb dX5_heads_32 rfl (lv_at hl 1 rfl) ?_
        exact e_iret () hQ hx hb hr hlocks hP hD hS dX5_heads_33 (rvi (by rw [hx_, show z = 81 by omega]; rfl)) (Nat.le_of_ble_eq_true rfl) (Nat.le_of_ble_eq_true rfl) (trivial)
      · refine lv_iload_n hx hb dX5_heads_10 rfl (lv_at hl 1 rfl) ?_
        refine lv_aload_n hx hb dX5_heads_11 rfl (lv_at hl 2 rfl) ?_
        refine lv_iload_n hx hb dX5_heads_12 rfl (lv_at hl 0 rfl) ?_
        refine e_callV (As := [.int (nI z)]) (rest := [.int (nI x)]) ⟨hx, hb, hml, hown, hts⟩ hK hP hD hS hA hl.1 (c_X5_isHead l E _ o ad th gr co sd tk wm st mo nx lb fr z (by first | omega | assumption | rfl | (simp_all; done))) (cwV 1 hts gX5_heads_X5_isHead rfl rfl rfl (by decide +kernel) ⟨Nat.le_of_ble_eq_true rfl, Nat.le_of_ble_eq_true rfl⟩) [0, 1, 2, 3, 4, 5, 6, 7, 8, 9] [] rfl rfl rfl rfl (by decide) (q0 := 0) (ci := 5) rfl rfl rfl rfl (Nat.le_of_ble_eq_true rfl) dX5_heads_13 ⟨Nat.le_of_ble_eq_true rfl, Nat.le_of_ble_eq_true rfl⟩ (fun u_1 H locs hu_2 hsz1 hP hD hS => ?_)
        have hP : va_P E.1 vwCl (wMo E o ad th gr co sd tk wm st (nI mo) nx lb fr) H := hP.sub [0, 1, 2, 3, 4, 5, 6, 7, 8, 9] rfl
        have hD : va_D A (wMo E o ad th gr co sd tk wm st (nI mo) nx lb fr) := hD.sub [0, 1, 2, 3, 4, 5, 6, 7, 8, 9] (by decide) rfl
        refine W.eq (g2 := F0 m 16 ls [.int (b2i (hd co z)), .int (nI x)]) rfl ?_
        refine b_if_eq (x := hd co z) (tgt := 23) hx hb dX5_heads_16 (by decide) (fun c16 => ?_) (fun c16 => ?_)
        · refine lv_iconst (v := nI 0) hx hb dX5_heads_23 (by decide +kernel) ?_
          refine lv_iadd hx hb dX5_heads_24 ?_
          refine e_top (nI_add _ _) ?_
          refine lv_istore_n (lv' := [(1, .int (nI (x + 0))), (2, .int (nI z)), (0, .ref o)]) hx hb dX5_heads_25 rfl hl (by decide) rfl (fun ls hl => ?_)
          refine lv_iinc (v := nI (z + 1)) (lv' := [(2, .int (nI (z + 1))), (1, .int (nI (x + 0))), (0, .ref o)]) hx hb dX5_heads_26 hl (k := 1) rfl (nI_add z 1) (by decide) rfl (fun ls hl => ?_)
          refine lv_goto (tgt := 4) hx hb dX5_heads_29 (by decide) ?_
          exact ihL4 (x + 0) (z + 1) (by first | omega | assumption | rfl | (simp_all; done)) (by first | (rw [fb_t (f := hd co) (c16)]; omega) | (rw [fb_f (f := hd co) (c16)]; omega)) (by omega) _ _ hP hD hS _ (lv_sub hl [0, 1, 2] rfl)
        · refine lv_iconst (v := nI 1) hx hb dX5_heads_19 (by decide +kernel) ?_
          refine lv_goto (tgt := 24) hx hb dX5_heads_20 (by decide) ?_
          refine lv_iadd hx hb dX5_heads_24 ?_
          refine e_top (nI_add _ _) ?_
          refine lv_istore_n (lv' := [(1, .int (nI (x + 1))), (2, .int (nI z)), (0, .ref o)]) hx hb dX5_heads_25 rfl hl (by decide) rfl (fun ls hl => ?_)
          refine lv_iinc (v := nI (z + 1)) (lv' := [(2, .int (nI (z + 1))), (1, .int (nI (x + 1))), (0, .ref o)]) hx hb dX5_heads_26 hl (k := 1) rfl (nI_add z 1) (by decide) rfl (fun ls hl => ?_)
          refine lv_goto (tgt := 4) hx hb dX5_heads_29 (by decide) ?_
          exact ihL4 (x + 1) (z + 1) (by first | omega | assumption | rfl | (simp_all; done)) (by first | (rw [fb_t (f := hd co) (c16)]; omega) | (rw [fb_f (f := hd co) (c16)]; omega)) (by omega) _ _ hP hD hS _ (lv_sub hl [0, 1, 2] rfl)
  exact L4 (81 - 0 + 1) 0 0 (by first | omega | assumption | rfl | (simp_all; done)) (rfl) (Nat.lt_succ_self _) _ _ hP hD hS _ (lv_sub hl [0, 1, 2] rfl)

abbrev rm_X5_reefs : Room := { frames := 2, cells := 0, slots := 0, locals := 45 }
set_option maxHeartbeats 4000000 in
set_option maxRecDepth 100000 in
theorem c_X5_reefs (l : Launch) (E : eT) (sz : Nat) (o : Nat) (ad : Nat → Nat) (th : Int32) (gr : Nat → Int32) (co : Nat → Int32) (sd : Nat → Int32) (tk : Nat → Int32) (wm : Nat → Int32) (st : Nat → Int32) (mo : Nat) (nx : Nat → Int32) (lb : Nat → Option Nat) (fr : Nat → Nat) : cM l yX5_reefs wsX5_reefs rm_X5_reefs E sz [.ref o] (wMo E o ad th gr co sd tk wm st (nI mo) nx lb fr) (fun u : (Nat → Option Nat) => some (.int (nI (reefN (hd co))))) (fun u : (Nat → Option Nat) => True) (fun u : (Nat → Option Nat) => wMo E o ad th gr co sd tk wm st (nI mo) nx u fr) := by
  refine cM_intro (cc := cX5_reefs) (maxL := 3) (ret := (some .int)) (by decide +kernel) rfl (Nat.le_of_ble_eq_true rfl) ?_
  intro p e s m args below meth cd hx hb hr hml hown hlocks hts hnm hK hsz hP A hD hA Q hQ ls hl
  have hown : s.vm.findClass RX5 = some m.cls := hown
  have hin5 : ∀ w ∈ u_ws RX5 TX5 11, w ∈ wsX5_reefs := by decide +kernel
  have lk31 := hts (.fieldLink RX5 31 "ReefPilotModel" "label" "[I") (by decide +kernel)
  have hS : va_S A s.heap s.heap [] := va_S.rf
  have hl : lv_has ls 3 [(0, .ref o)] := hl
  refine lv_aload_n hx hb dX5_reefs_0 rfl (lv_at hl 0 rfl) ?_
  refine e_callV (As := []) (rest := []) ⟨hx, hb, hml, hown, hts⟩ hK hP hD hS hA hl.1 (c_X5_mark l E _ o ad th gr co sd tk wm st mo nx lb fr) (cwV 0 hts gX5_reefs_X5_mark rfl rfl rfl (by decide +kernel) ⟨Nat.le_of_ble_eq_true rfl, Nat.le_of_ble_eq_true rfl⟩) [0, 1, 2, 3, 4, 5, 6, 7, 8, 9] [] rfl rfl rfl rfl (by decide) (q0 := 0) (ci := 5) rfl rfl rfl rfl (Nat.le_of_ble_eq_true rfl) dX5_reefs_1 ⟨Nat.le_of_ble_eq_true rfl, Nat.le_of_ble_eq_true rfl⟩ (fun u_1 H locs hu_2 hsz1 hP hD hS => ?_)
  obtain ⟨lb__3, rfl⟩ : ∃ z, z = u_1 := ⟨_, rfl⟩
  have hu_2 : isLab (hd co) lb__3 := hu_2
  have hP : va_P E.1 vwCl (wMo E o ad th gr co sd tk wm st (nI mo) nx lb__3 fr) H := hP.sub [0, 1, 2, 3, 4, 5, 6, 7, 8, 9] rfl
  have hD : va_D A (wMo E o ad th gr co sd tk wm st (nI mo) nx lb__3 fr) := hD.sub [0, 1, 2, 3, 4, 5, 6, 7, 8, 9] (by decide) rfl
  refine W.eq (g2 := F0 m 4 ls []) rfl ?_
  have HLU := hu_2
  refine lv_iconst (v := nI 0) hx hb dX5_reefs_4 (by decide +kernel) ?_
  refine lv_istore_n (lv' := [(1, .int (nI 0)), (0, .ref o)]) hx hb dX5_reefs_5 rfl hl (by decide) rfl (fun ls hl => ?_)
  refine lv_iconst (v := nI 0) hx hb dX5_reefs_6 (by decide +kernel) ?_
  refine lv_istore_n (lv' := [(2, .int (nI 0)), (1, .int (nI 0)), (0, .ref o)]) hx hb dX5_reefs_7 rfl hl (by decide) rfl (fun ls hl => ?_)
  have L8 : ∀ (fuel : Nat) (x : Nat) (z : Nat) (hz : z ≤ 81) (hx_ : x = fb_ct (isRt (hd co)) z) (hfuel : 81 - z < fuel) (H : Heap) (locs : List Loc), va_P E.1 vwCl (wMo E o ad th gr co sd tk wm st (nI mo) nx lb__3 fr) H → va_D A (wMo E o ad th gr co sd tk wm st (nI mo) nx lb__3 fr) → va_S A s.heap H locs → ∀ ls : Array Slot, lv_has ls 3 [(2, .int (nI z)), (1, .int (nI x)), (0, .ref o)] → W p l e rm_X5_reefs s m args below meth cd H locs 0 0 Q (F0 m 8 ls []) := by
    intro fuel
    induction fuel with
    | zero => intros; omega
    | succ fuel ihL8 =>
      intro x z hz hx_ hfuel H locs hP hD hS ls hl
      have hxz := fb_ct_le (isRt (hd co)) z
      refine lv_iload_n hx hb dX5_reefs_8 rfl (lv_at hl 0 rfl) ?_
      refine lv_bipush (v := nI 81) hx hb dX5_reefs_9 (by decide +kernel) ?_
      refine n_icmp_ge (x := z) (y := 81) (by omega) (by omega) (tgt := 38) hx hb dX5_reefs_11 (by decide) (fun c11 => ?_) (fun c11 => ?_)
      · refine lv_iload_n hx hb dX5_reefs_38 rfl (lv_at hl 1 rfl) ?_
        exact e_iret lb__3 hQ hx hb hr hlocks hP hD hS dX5_reefs_39 (rvi (by rw [hx_, show z = 81 by omega]; rfl)) (Nat.le_of_ble_eq_true rfl) (Nat.le_of_ble_eq_true rfl) (trivial)
      · refine lv_iload_n hx hb dX5_reefs_14 rfl (lv_at hl 1 rfl) ?_
        refine lv_aload_n hx hb dX5_reefs_15 rfl (lv_at hl 2 rfl) ?_
        refine va_get (D := E.1) (ci := 5) (v := .ref (ad 7)) (C := RX5) (T := TX5) (N := 11) hx hb hts hin5 hown hK.1 hP 0 rfl rfl 9 (by decide) lk31 (fun _ h9 => h9) rfl dX5_reefs_16 ?_
        refine lv_iload_n hx hb dX5_reefs_19 rfl (lv_at hl 0 rfl) ?_
        refine e_oald hK hP 8 rfl z (by omega) (by decide) hx hb dX5_reefs_20 ?_
        refine lv_iload_n hx hb dX5_reefs_21 rfl (lv_at hl 0 rfl) ?_
        refine oo_icmp_ne (x := lb__3 z) (y := some z) (by intro q hq; first | (cases hq; omega) | exact isLab_ob HLU (by omega) hq) (by intro q hq; first | (cases hq; omega) | exact isLab_ob HLU (by omega) hq) (tgt := 29) hx hb dX5_reefs_22 (by decide) (fun c22 => ?_) (fun c22 => ?_)
        · refine lv_iconst (v := nI 0) hx hb dX5_reefs_29 (by decide +kernel) ?_
          refine lv_iadd hx hb dX5_reefs_30 ?_
          refine e_top (nI_add _ _) ?_
          refine lv_istore_n (lv' := [(1, .int (nI (x + 0))), (2, .int (nI z)), (0, .ref o)]) hx hb dX5_reefs_31 rfl hl (by decide) rfl (fun ls hl => ?_)
          refine lv_iinc (v := nI (z + 1)) (lv' := [(2, .int (nI (z + 1))), (1, .int (nI (x + 0))), (0, .ref o)]) hx hb dX5_reefs_32 hl (k := 1) rfl (nI_add z 1) (by decide) rfl (fun ls hl => ?_)
          refine lv_goto (tgt := 8) hx hb dX5_reefs_35 (by decide) ?_
          exact ihL8 (x + 0) (z + 1) (by first | omega | assumption | rfl | (simp_all; done)) (by first | (rw [fb_t (f := isRt (hd co)) (by rw [isLab_root HLU (by assumption)]; exact decide_eq_true c22)]; omega) | (rw [fb_f (f := isRt (hd co)) (by rw [isLab_root HLU (by assumption)]; exact decide_eq_false c22)]; omega)) (by omega) _ _ hP hD hS _ (lv_sub hl [0, 1, 2] rfl)
        · refine lv_iconst (v := nI 1) hx hb dX5_reefs_25 (by decide +kernel) ?_
          refine lv_goto (tgt := 30) hx hb dX5_reefs_26 (by decide) ?_
          refine lv_iadd hx hb dX5_reefs_30 ?_
          refine e_top (nI_add _ _) ?_
          refine lv_istore_n (lv' := [(1, .int (nI (x + 1))), (2, .int (nI z)), (0, .ref o)]) hx hb dX5_reefs_31 rfl hl (by decide) rfl (fun ls hl => ?_)
          refine lv_iinc (v := nI (z + 1)) (lv' := [(2, .int (nI (z + 1))), (1, .int (nI (x + 1))), (0, .ref o)]) hx hb dX5_reefs_32 hl (k := 1) rfl (nI_add z 1) (by decide) rfl (fun ls hl => ?_)
          refine lv_goto (tgt := 8) hx hb dX5_reefs_35 (by decide) ?_
          exact ihL8 (x + 1) (z + 1) (by first | omega | assumption | rfl | (simp_all; done)) (by first | (rw [fb_t (f := isRt (hd co)) (by rw [isLab_root HLU (by assumption)]; exact decide_eq_true c22)]; omega) | (rw [fb_f (f := isRt (hd co)) (by rw [isLab_root HLU (by assumption)]; exact decide_eq_false c22)]; omega)) (by omega) _ _ hP hD hS _ (lv_sub hl [0, 1, 2] rfl)
  exact L8 (81 - 0 + 1) 0 0 (by first | omega | assumption | rfl | (simp_all; done)) (rfl) (Nat.lt_succ_self _) _ _ hP hD hS _ (lv_sub hl [0, 1, 2] rfl)

abbrev rm_X5_largest : Room := { frames := 2, cells := 0, slots := 0, locals := 45 }
set_option maxHeartbeats 4000000 in
set_option maxRecDepth 100000 in
theorem c_X5_largest (l : Launch) (E : eT) (sz : Nat) (o : Nat) (ad : Nat → Nat) (th : Int32) (gr : Nat → Int32) (co : Nat → Int32) (sd : Nat → Int32) (tk : Nat → Int32) (wm : Nat → Int32) (st : Nat → Int32) (mo : Nat) (nx : Nat → Int32) (lb : Nat → Option Nat) (fr : Nat → Nat) : cM l yX5_largest wsX5_largest rm_X5_largest E sz [.ref o] (wMo E o ad th gr co sd tk wm st (nI mo) nx lb fr) (fun u : (Nat → Option Nat) => some (.int (nI (bigN (hd co) 81)))) (fun u : (Nat → Option Nat) => True) (fun u : (Nat → Option Nat) => wMo E o ad th gr co sd tk wm st (nI mo) nx u fr) := by
  refine cM_intro (cc := cX5_largest) (maxL := 5) (ret := (some .int)) (by decide +kernel) rfl (Nat.le_of_ble_eq_true rfl) ?_
  intro p e s m args below meth cd hx hb hr hml hown hlocks hts hnm hK hsz hP A hD hA Q hQ ls hl
  have hown : s.vm.findClass RX5 = some m.cls := hown
  have hin5 : ∀ w ∈ u_ws RX5 TX5 11, w ∈ wsX5_largest := by decide +kernel
  have lk31 := hts (.fieldLink RX5 31 "ReefPilotModel" "label" "[I") (by decide +kernel)
  have hamcmax := hts (.code Lib.Math.max.name Lib.Math.max.code 2 (some .int)) (by decide +kernel)
  have hamini := hts (.initialized "java/lang/Math") (by decide +kernel)
  have haml45 := hts (.methodLink RX5 45 Lib.Math.max.name) (by decide +kernel)
  have hamsmax := hts (.static Lib.Math.max.name) (by decide +kernel)
  have hS : va_S A s.heap s.heap [] := va_S.rf
  have hl : lv_has ls 5 [(0, .ref o)] := hl
  refine lv_iconst (v := nI 0) hx hb dX5_largest_0 (by decide +kernel) ?_
  refine lv_istore_n (lv' := [(1, .int (nI 0)), (0, .ref o)]) hx hb dX5_largest_1 rfl hl (by decide) rfl (fun ls hl => ?_)
  refine lv_aload_n hx hb dX5_largest_2 rfl (lv_at hl 1 rfl) ?_
  refine e_callV (As := []) (rest := []) ⟨hx, hb, hml, hown, hts⟩ hK hP hD hS hA hl.1 (c_X5_mark l E _ o ad th gr co sd tk wm st mo nx lb fr) (cwV 0 hts gX5_largest_X5_mark rfl rfl rfl (by decide +kernel) ⟨Nat.le_of_ble_eq_true rfl, Nat.le_of_ble_eq_true rfl⟩) [0, 1, 2, 3, 4, 5, 6, 7, 8, 9] [] rfl rfl rfl rfl (by decide) (q0 := 0) (ci := 5) rfl rfl rfl rfl (Nat.le_of_ble_eq_true rfl) dX5_largest_3 ⟨Nat.le_of_ble_eq_true rfl, Nat.le_of_ble_eq_true rfl⟩ (fun u_1 H locs hu_2 hsz1 hP hD hS => ?_)
  obtain ⟨lb__3, rfl⟩ : ∃ z, z = u_1 := ⟨_, rfl⟩
  have hu_2 : isLab (hd co) lb__3 := hu_2
  have hP : va_P E.1 vwCl (wMo E o ad th gr co sd tk wm st (nI mo) nx lb__3 fr) H := hP.sub [0, 1, 2, 3, 4, 5, 6, 7, 8, 9] rfl
  have hD : va_D A (wMo E o ad th gr co sd tk wm st (nI mo) nx lb__3 fr) := hD.sub [0, 1, 2, 3, 4, 5, 6, 7, 8, 9] (by decide) rfl
  refine W.eq (g2 := F0 m 6 ls []) rfl ?_
  have HLU := hu_2
  refine lv_iconst (v := nI 0) hx hb dX5_largest_6 (by decide +kernel) ?_
  refine lv_istore_n (lv' := [(2, .int (nI 0)), (1, .int (nI 0)), (0, .ref o)]) hx hb dX5_largest_7 rfl hl (by decide) rfl (fun ls hl => ?_)
  have L8 : ∀ (fuel : Nat) (x : Nat) (z : Nat) (hz : z ≤ 81) (hx_ : x = bigN (hd co) z) (hfuel : 81 - z < fuel) (H : Heap) (locs : List Loc), va_P E.1 vwCl (wMo E o ad th gr co sd tk wm st (nI mo) nx lb__3 fr) H → va_D A (wMo E o ad th gr co sd tk wm st (nI mo) nx lb__3 fr) → va_S A s.heap H locs → ∀ ls : Array Slot, lv_has ls 5 [(2, .int (nI z)), (1, .int (nI x)), (0, .ref o)] → W p l e rm_X5_largest s m args below meth cd H locs 0 0 Q (F0 m 8 ls []) := by
    intro fuel
    induction fuel with
    | zero => intros; omega
    | succ fuel ihL8 =>
      intro x z hz hx_ hfuel H locs hP hD hS ls hl
      have hxz := bigN_le (hd co) z
      refine lv_iload_n hx hb dX5_largest_8 rfl (lv_at hl 0 rfl) ?_
      refine lv_bipush (v := nI 81) hx hb dX5_largest_9 (by decide +kernel) ?_
      refine n_icmp_ge (x := z) (y := 81) (by omega) (by omega) (tgt := 73) hx hb dX5_largest_11 (by decide) (fun c11 => ?_) (fun c11 => ?_)
      · refine lv_iload_n hx hb dX5_largest_73 rfl (lv_at hl 1 rfl) ?_
        exact e_iret lb__3 hQ hx hb hr hlocks hP hD hS dX5_largest_74 (rvi (by rw [hx_, show z = 81 by omega])) (Nat.le_of_ble_eq_true rfl) (Nat.le_of_ble_eq_true rfl) (trivial)
      · refine lv_iconst (v := nI 0) hx hb dX5_largest_14 (by decide +kernel) ?_
        refine lv_istore_n (lv' := [(3, .int (nI 0)), (2, .int (nI z)), (1, .int (nI x)), (0, .ref o)]) hx hb dX5_largest_15 rfl hl (by decide) rfl (fun ls hl => ?_)
        refine lv_iconst (v := nI 0) hx hb dX5_largest_16 (by decide +kernel) ?_
        refine lv_istore (lv' := [(4, .int (nI 0)), (3, .int (nI 0)), (2, .int (nI z)), (1, .int (nI x)), (0, .ref o)]) hx hb dX5_largest_17 hl (by decide) rfl (fun ls hl => ?_)
        have L19 : ∀ (fuel : Nat) (w : Nat) (y : Nat) (hy : y ≤ 81) (hw : w = fb_ct (fun y => decide (lb__3 z = some z) && decide (lb__3 y = some z)) y) (hyz : lb__3 z = some z ∨ w = 0) (hfuel : 81 - y < fuel) (H : Heap) (locs : List Loc), va_P E.1 vwCl (wMo E o ad th gr co sd tk wm st (nI mo) nx lb__3 fr) H → va_D A (wMo E o ad th gr co sd tk wm st (nI mo) nx lb__3 fr) → va_S A s.heap H locs → ∀ ls : Array Slot, lv_has ls 5 [(4, .int (nI y)), (3, .int (nI w)), (2, .int (nI z)), (1, .int (nI x)), (0, .ref o)] → W p l e rm_X5_largest s m args below meth cd H locs 0 0 Q (F0 m 19 ls []) := by
          intro fuel
          induction fuel with
          | zero => intros; omega
          | succ fuel ihL19 =>
            intro w y hy hw hyz hfuel H locs hP hD hS ls hl
            have hwy := fb_ct_le (fun y => decide (lb__3 z = some z) && decide (lb__3 y = some z)) y
            have hz81 : z < 81 := by assumption
            refine lv_iload hx hb dX5_largest_19 (lv_at hl 0 rfl) ?_
            refine lv_bipush (v := nI 81) hx hb dX5_largest_21 (by decide +kernel) ?_
            refine n_icmp_ge (x := y) (y := 81) (by omega) (by omega) (tgt := 61) hx hb dX5_largest_23 (by decide) (fun c23 => ?_) (fun c23 => ?_)
            · have hwe : w = rootN (hd co) z := by first | (rw [hw, show y = 81 by omega]; exact isLab_rootN HLU hz81) | (rw [hw]; exact isLab_root0 HLU hz81 c33)
              refine lv_iload_n hx hb dX5_largest_61 rfl (lv_at hl 3 rfl) ?_
              refine lv_iload_n hx hb dX5_largest_62 rfl (lv_at hl 1 rfl) ?_
              refine va_mmax hx hb (by rw [hml]; exact hl.1.symm) hown haml45 hamsmax hamini hamcmax (Nat.le_of_ble_eq_true rfl) (Nat.le_of_ble_eq_true rfl) (Nat.le_of_ble_eq_true rfl) (Nat.le_of_ble_eq_true rfl) dX5_largest_63 ?_
              refine e_top (y := iMax (nI x) (nI w)) rfl ?_
              refine e_top (y := nI (if x < w then w else x)) (nI_max (by omega) (by omega)) ?_
              refine lv_istore_n (lv' := [(1, .int (nI (if x < w then w else x))), (4, .int (nI y)), (3, .int (nI w)), (2, .int (nI z)), (0, .ref o)]) hx hb dX5_largest_66 rfl hl (by decide) rfl (fun ls hl => ?_)
              refine lv_iinc (v := nI (z + 1)) (lv' := [(2, .int (nI (z + 1))), (1, .int (nI (if x < w then w else x))), (4, .int (nI y)), (3, .int (nI w)), (0, .ref o)]) hx hb dX5_largest_67 hl (k := 3) rfl (nI_add z 1) (by decide) rfl (fun ls hl => ?_)
              refine lv_goto (tgt := 8) hx hb dX5_largest_70 (by decide) ?_
              exact ihL8 (if x < w then w else x) (z + 1) (by first | omega | assumption | rfl | (simp_all; done)) (by rw [hx_, show w = rootN (hd co) z from hwe]; rfl) (by omega) _ _ hP hD hS _ (lv_sub hl [0, 1, 4] rfl)
            · refine lv_aload_n hx hb dX5_largest_26 rfl (lv_at hl 4 rfl) ?_
              refine va_get (D := E.1) (ci := 5) (v := .ref (ad 7)) (C := RX5) (T := TX5) (N := 11) hx hb hts hin5 hown hK.1 hP 0 rfl rfl 9 (by decide) lk31 (fun _ h9 => h9) rfl dX5_largest_27 ?_
              refine lv_iload_n hx hb dX5_largest_30 rfl (lv_at hl 2 rfl) ?_
              refine e_oald hK hP 8 rfl z (by omega) (by decide) hx hb dX5_largest_31 ?_
              refine lv_iload_n hx hb dX5_largest_32 rfl (lv_at hl 2 rfl) ?_
              refine oo_icmp_ne (x := lb__3 z) (y := some z) (by intro q hq; first | (cases hq; omega) | exact isLab_ob HLU (by omega) hq) (by intro q hq; first | (cases hq; omega) | exact isLab_ob HLU (by omega) hq) (tgt := 61) hx hb dX5_largest_33 (by decide) (fun c33 => ?_) (fun c33 => ?_)
              · have hwe : w = rootN (hd co) z := by first | (rw [hw, show y = 81 by omega]; exact isLab_rootN HLU hz81) | (rw [hw]; exact isLab_root0 HLU hz81 c33)
                refine lv_iload_n hx hb dX5_largest_61 rfl (lv_at hl 3 rfl) ?_
                refine lv_iload_n hx hb dX5_largest_62 rfl (lv_at hl 1 rfl) ?_
                refine va_mmax hx hb (by rw [hml]; exact hl.1.symm) hown haml45 hamsmax hamini hamcmax (Nat.le_of_ble_eq_true rfl) (Nat.le_of_ble_eq_true rfl) (Nat.le_of_ble_eq_true rfl) (Nat.le_of_ble_eq_true rfl) dX5_largest_63 ?_
                refine e_top (y := iMax (nI x) (nI w)) rfl ?_
                refine e_top (y := nI (if x < w then w else x)) (nI_max (by omega) (by omega)) ?_
                refine lv_istore_n (lv' := [(1, .int (nI (if x < w then w else x))), (4, .int (nI y)), (3, .int (nI w)), (2, .int (nI z)), (0, .ref o)]) hx hb dX5_largest_66 rfl hl (by decide) rfl (fun ls hl => ?_)
                refine lv_iinc (v := nI (z + 1)) (lv' := [(2, .int (nI (z + 1))), (1, .int (nI (if x < w then w else x))), (4, .int (nI y)), (3, .int (nI w)), (0, .ref o)]) hx hb dX5_largest_67 hl (k := 3) rfl (nI_add z 1) (by decide) rfl (fun ls hl => ?_)
                refine lv_goto (tgt := 8) hx hb dX5_largest_70 (by decide) ?_
                exact ihL8 (if x < w then w else x) (z + 1) (by first | omega | assumption | rfl | (simp_all; done)) (by rw [hx_, show w = rootN (hd co) z from hwe]; rfl) (by omega) _ _ hP hD hS _ (lv_sub hl [0, 1, 4] rfl)
              · refine lv_iload_n hx hb dX5_largest_36 rfl (lv_at hl 1 rfl) ?_
                refine lv_aload_n hx hb dX5_largest_37 rfl (lv_at hl 4 rfl) ?_
                refine va_get (D := E.1) (ci := 5) (v := .ref (ad 7)) (C := RX5) (T := TX5) (N := 11) hx hb hts hin5 hown hK.1 hP 0 rfl rfl 9 (by decide) lk31 (fun _ h9 => h9) rfl dX5_largest_38 ?_
                refine lv_iload hx hb dX5_largest_41 (lv_at hl 0 rfl) ?_
                refine e_oald hK hP 8 rfl y (by omega) (by decide) hx hb dX5_largest_43 ?_
                refine lv_iload_n hx hb dX5_largest_44 rfl (lv_at hl 2 rfl) ?_
                refine oo_icmp_ne (x := lb__3 y) (y := some z) (by intro q hq; first | (cases hq; omega) | exact isLab_ob HLU (by omega) hq) (by intro q hq; first | (cases hq; omega) | exact isLab_ob HLU (by omega) hq) (tgt := 52) hx hb dX5_largest_45 (by decide) (fun c45 => ?_) (fun c45 => ?_)
                · refine lv_iconst (v := nI 0) hx hb dX5_largest_52 (by decide +kernel) ?_
                  refine lv_iadd hx hb dX5_largest_53 ?_
                  refine e_top (nI_add _ _) ?_
                  refine lv_istore_n (lv' := [(3, .int (nI (w + 0))), (4, .int (nI y)), (2, .int (nI z)), (1, .int (nI x)), (0, .ref o)]) hx hb dX5_largest_54 rfl hl (by decide) rfl (fun ls hl => ?_)
                  refine lv_iinc (v := nI (y + 1)) (lv' := [(4, .int (nI (y + 1))), (3, .int (nI (w + 0))), (2, .int (nI z)), (1, .int (nI x)), (0, .ref o)]) hx hb dX5_largest_55 hl (k := 1) rfl (nI_add y 1) (by decide) rfl (fun ls hl => ?_)
                  refine lv_goto (tgt := 19) hx hb dX5_largest_58 (by decide) ?_
                  exact ihL19 (w + 0) (y + 1) (by first | omega | assumption | rfl | (simp_all; done)) (by first | (rw [fb_t (f := (fun y => decide (lb__3 z = some z) && decide (lb__3 y = some z))) (by rw [decide_eq_true c33, decide_eq_true c45]; rfl)]; omega) | (rw [fb_f (f := (fun y => decide (lb__3 z = some z) && decide (lb__3 y = some z))) (by rw [decide_eq_true c33, decide_eq_false c45]; rfl)]; omega)) (Or.inl c33) (by omega) _ _ hP hD hS _ (lv_sub hl [0, 1, 2, 3, 4] rfl)
                · refine lv_iconst (v := nI 1) hx hb dX5_largest_48 (by decide +kernel) ?_
                  refine lv_goto (tgt := 53) hx hb dX5_largest_49 (by decide) ?_
                  refine lv_iadd hx hb dX5_largest_53 ?_
                  refine e_top (nI_add _ _) ?_
                  refine lv_istore_n (lv' := [(3, .int (nI (w + 1))), (4, .int (nI y)), (2, .int (nI z)), (1, .int (nI x)), (0, .ref o)]) hx hb dX5_largest_54 rfl hl (by decide) rfl (fun ls hl => ?_)
                  refine lv_iinc (v := nI (y + 1)) (lv' := [(4, .int (nI (y + 1))), (3, .int (nI (w + 1))), (2, .int (nI z)), (1, .int (nI x)), (0, .ref o)]) hx hb dX5_largest_55 hl (k := 1) rfl (nI_add y 1) (by decide) rfl (fun ls hl => ?_)
                  refine lv_goto (tgt := 19) hx hb dX5_largest_58 (by decide) ?_
                  exact ihL19 (w + 1) (y + 1) (by first | omega | assumption | rfl | (simp_all; done)) (by first | (rw [fb_t (f := (fun y => decide (lb__3 z = some z) && decide (lb__3 y = some z))) (by rw [decide_eq_true c33, decide_eq_true c45]; rfl)]; omega) | (rw [fb_f (f := (fun y => decide (lb__3 z = some z) && decide (lb__3 y = some z))) (by rw [decide_eq_true c33, decide_eq_false c45]; rfl)]; omega)) (Or.inl c33) (by omega) _ _ hP hD hS _ (lv_sub hl [0, 1, 2, 3, 4] rfl)
        exact L19 (81 - 0 + 1) 0 0 (by first | omega | assumption | rfl | (simp_all; done)) (rfl) (Or.inr rfl) (Nat.lt_succ_self _) _ _ hP hD hS _ (lv_sub hl [0, 1, 2, 3, 4] rfl)
  exact L8 (81 - 0 + 1) 0 0 (by first | omega | assumption | rfl | (simp_all; done)) (rfl) (Nat.lt_succ_self _) _ _ hP hD hS _ (lv_sub hl [0, 1, 2] rfl)

abbrev rm_X5_charted : Room := { frames := 1, cells := 0, slots := 0, locals := 13 }
set_option maxHeartbeats 4000000 in
set_option maxRecDepth 100000 in
theorem c_X5_charted (l : Launch) (E : eT) (sz : Nat) (o : Nat) (ad : Nat → Nat) (th : Int32) (gr : Nat → Int32) (co : Nat → Int32) (sd : Nat → Int32) (tk : Nat → Int32) (wm : Nat → Int32) (st : Nat → Int32) (mo : Nat) (nx : Nat → Int32) (lb : Nat → Option Nat) (fr : Nat → Nat) (j : Nat) (k : Nat) (hj : j < 81) (hk : k < 3) : cM l yX5_charted wsX5_charted rm_X5_charted E sz [.ref o, .int (nI j), .int (nI k)] (wMo E o ad th gr co sd tk wm st (nI mo) nx lb fr) (fun u : Unit => some (.int (chA sd tk (nI mo) j k))) (fun u : Unit => True) (fun u : Unit => wMo E o ad th gr co sd tk wm st (nI mo) nx lb fr) := by
  refine cM_intro (cc := cX5_charted) (maxL := 4) (ret := (some .int)) (by decide +kernel) rfl (Nat.le_of_ble_eq_true rfl) ?_
  intro p e s m args below meth cd hx hb hr hml hown hlocks hts hnm hK hsz hP A hD hA Q hQ ls hl
  have hown : s.vm.findClass RX5 = some m.cls := hown
  have hin5 : ∀ w ∈ u_ws RX5 TX5 11, w ∈ wsX5_charted := by decide +kernel
  have lk16 := hts (.fieldLink RX5 16 "ReefPilotModel" "sounding" "[I") (by decide +kernel)
  have lk19 := hts (.fieldLink RX5 19 "ReefPilotModel" "taken" "[I") (by decide +kernel)
  have lk78 := hts (.fieldLink RX5 78 "ReefPilotModel" "month" "I") (by decide +kernel)
  have hamcmax := hts (.code Lib.Math.max.name Lib.Math.max.code 2 (some .int)) (by decide +kernel)
  have hamini := hts (.initialized "java/lang/Math") (by decide +kernel)
  have haml45 := hts (.methodLink RX5 45 Lib.Math.max.name) (by decide +kernel)
  have hamsmax := hts (.static Lib.Math.max.name) (by decide +kernel)
  have hS : va_S A s.heap s.heap [] := va_S.rf
  have hl : lv_has ls 4 [(0, .ref o), (1, .int (nI j)), (2, .int (nI k))] := hl
  refine lv_aload_n hx hb dX5_charted_0 rfl (lv_at hl 0 rfl) ?_
  refine va_get (D := E.1) (ci := 5) (v := .ref (ad 2)) (C := RX5) (T := TX5) (N := 11) hx hb hts hin5 hown hK.1 hP 0 rfl rfl 3 (by decide) lk16 (fun _ h9 => h9) rfl dX5_charted_1 ?_
  refine lv_iload_n hx hb dX5_charted_4 rfl (lv_at hl 1 rfl) ?_
  refine e_iald hK hP 3 rfl j (by omega) (by decide) hx hb dX5_charted_5 ?_
  refine lv_iconst (v := (-1)) hx hb dX5_charted_6 (by decide +kernel) ?_
  refine lv_icmp_ne (tgt := 12) hx hb dX5_charted_7 (by decide) (fun c7 => ?_) (fun c7 => ?_)
  · refine lv_aload_n hx hb dX5_charted_12 rfl (lv_at hl 0 rfl) ?_
    refine va_get (D := E.1) (ci := 5) (v := .int (nI mo)) (C := RX5) (T := TX5) (N := 11) hx hb hts hin5 hown hK.1 hP 0 rfl rfl 7 (by decide) lk78 (fun _ h9 => h9) rfl dX5_charted_13 ?_
    refine lv_aload_n hx hb dX5_charted_16 rfl (lv_at hl 0 rfl) ?_
    refine va_get (D := E.1) (ci := 5) (v := .ref (ad 3)) (C := RX5) (T := TX5) (N := 11) hx hb hts hin5 hown hK.1 hP 0 rfl rfl 4 (by decide) lk19 (fun _ h9 => h9) rfl dX5_charted_17 ?_
    refine lv_iload_n hx hb dX5_charted_20 rfl (lv_at hl 1 rfl) ?_
    refine e_iald hK hP 4 rfl j (by omega) (by decide) hx hb dX5_charted_21 ?_
    refine lv_isub hx hb dX5_charted_22 ?_
    refine lv_istore_n (lv' := [(3, .int ((nI mo) - (tk j))), (0, .ref o), (1, .int (nI j)), (2, .int (nI k))]) hx hb dX5_charted_23 rfl hl (by decide) rfl (fun ls hl => ?_)
    refine lv_iload_n hx hb dX5_charted_24 rfl (lv_at hl 3 rfl) ?_
    refine n_if_ne (x := k) (by omega) (tgt := 37) hx hb dX5_charted_25 (by decide) (fun c25 => ?_) (fun c25 => ?_)
    · refine lv_iload_n hx hb dX5_charted_37 rfl (lv_at hl 3 rfl) ?_
      refine lv_iconst (v := nI 1) hx hb dX5_charted_38 (by decide +kernel) ?_
      refine n_icmp_ne (x := k) (y := 1) (by omega) (by omega) (tgt := 46) hx hb dX5_charted_39 (by decide) (fun c39 => ?_) (fun c39 => ?_)
      · refine lv_iconst (v := nI 0) hx hb dX5_charted_46 (by decide +kernel) ?_
        refine lv_aload_n hx hb dX5_charted_47 rfl (lv_at hl 1 rfl) ?_
        refine va_get (D := E.1) (ci := 5) (v := .ref (ad 2)) (C := RX5) (T := TX5) (N := 11) hx hb hts hin5 hown hK.1 hP 0 rfl rfl 3 (by decide) lk16 (fun _ h9 => h9) rfl dX5_charted_48 ?_
        refine lv_iload_n hx hb dX5_charted_51 rfl (lv_at hl 2 rfl) ?_
        refine e_iald hK hP 3 rfl j (by omega) (by decide) hx hb dX5_charted_52 ?_
        refine lv_iload_n hx hb dX5_charted_53 rfl (lv_at hl 0 rfl) ?_
        refine lv_iconst (v := nI 2) hx hb dX5_charted_54 (by decide +kernel) ?_
        refine lv_idiv hx hb dX5_charted_55 (by decide +kernel) ?_
        refine lv_isub hx hb dX5_charted_56 ?_
        refine va_mmax hx hb (by rw [hml]; exact hl.1.symm) hown haml45 hamsmax hamini hamcmax (Nat.le_of_ble_eq_true rfl) (Nat.le_of_ble_eq_true rfl) (Nat.le_of_ble_eq_true rfl) (Nat.le_of_ble_eq_true rfl) dX5_charted_57 ?_
        refine e_top (y := iMax (nI 0) ((sd j) - (((nI mo) - (tk j)) / (nI 2)))) rfl ?_
        exact e_iret () hQ hx hb hr hlocks hP hD hS dX5_charted_60 (rvi (by rcases (show k = 0 ∨ k = 1 ∨ k = 2 by omega) with rfl | rfl | rfl <;> first | (exfalso; omega) | rfl | exact c7 | (show chOld sd tk (nI mo) j = _; unfold chOld; first | rw [if_pos c7] | rw [if_neg c7]) | (show chSafe sd tk (nI mo) j = _; unfold chSafe; first | rw [if_pos c7] | (rw [if_neg c7]; exact iMax_comm _ _)))) (Nat.le_of_ble_eq_true rfl) (Nat.le_of_ble_eq_true rfl) (trivial)
      · refine lv_iload_n hx hb dX5_charted_42 rfl (lv_at hl 0 rfl) ?_
        refine lv_goto (tgt := 60) hx hb dX5_charted_43 (by decide) ?_
        exact e_iret () hQ hx hb hr hlocks hP hD hS dX5_charted_60 (rvi (by rcases (show k = 0 ∨ k = 1 ∨ k = 2 by omega) with rfl | rfl | rfl <;> first | (exfalso; omega) | rfl | exact c7 | (show chOld sd tk (nI mo) j = _; unfold chOld; first | rw [if_pos c7] | rw [if_neg c7]) | (show chSafe sd tk (nI mo) j = _; unfold chSafe; first | rw [if_pos c7] | (rw [if_neg c7]; exact iMax_comm _ _)))) (Nat.le_of_ble_eq_true rfl) (Nat.le_of_ble_eq_true rfl) (trivial)
    · refine lv_aload_n hx hb dX5_charted_28 rfl (lv_at hl 1 rfl) ?_
      refine va_get (D := E.1) (ci := 5) (v := .ref (ad 2)) (C := RX5) (T := TX5) (N := 11) hx hb hts hin5 hown hK.1 hP 0 rfl rfl 3 (by decide) lk16 (fun _ h9 => h9) rfl dX5_charted_29 ?_
      refine lv_iload_n hx hb dX5_charted_32 rfl (lv_at hl 2 rfl) ?_
      refine e_iald hK hP 3 rfl j (by omega) (by decide) hx hb dX5_charted_33 ?_
      refine lv_goto (tgt := 60) hx hb dX5_charted_34 (by decide) ?_
      exact e_iret () hQ hx hb hr hlocks hP hD hS dX5_charted_60 (rvi (by rcases (show k = 0 ∨ k = 1 ∨ k = 2 by omega) with rfl | rfl | rfl <;> first | (exfalso; omega) | rfl | exact c7 | (show chOld sd tk (nI mo) j = _; unfold chOld; first | rw [if_pos c7] | rw [if_neg c7]) | (show chSafe sd tk (nI mo) j = _; unfold chSafe; first | rw [if_pos c7] | (rw [if_neg c7]; exact iMax_comm _ _)))) (Nat.le_of_ble_eq_true rfl) (Nat.le_of_ble_eq_true rfl) (trivial)
  · refine lv_iconst (v := (-1)) hx hb dX5_charted_10 (by decide +kernel) ?_
    exact e_iret () hQ hx hb hr hlocks hP hD hS dX5_charted_11 (rvi (by rcases (show k = 0 ∨ k = 1 ∨ k = 2 by omega) with rfl | rfl | rfl <;> first | (exfalso; omega) | rfl | exact c7 | (show chOld sd tk (nI mo) j = _; unfold chOld; first | rw [if_pos c7] | rw [if_neg c7]) | (show chSafe sd tk (nI mo) j = _; unfold chSafe; first | rw [if_pos c7] | (rw [if_neg c7]; exact iMax_comm _ _)))) (Nat.le_of_ble_eq_true rfl) (Nat.le_of_ble_eq_true rfl) (trivial)

abbrev rm_X5_spread : Room := { frames := 2, cells := 0, slots := 0, locals := 36 }
set_option maxHeartbeats 4000000 in
set_option maxRecDepth 100000 in
theorem c_X5_spread (l : Launch) (E : eT) (sz : Nat) (o : Nat) (ad : Nat → Nat) (th : Int32) (gr : Nat → Int32) (co : Nat → Int32) (sd : Nat → Int32) (tk : Nat → Int32) (wm : Nat → Int32) (st : Nat → Int32) (mo : Nat) (nx : Nat → Int32) (lb : Nat → Option Nat) (fr : Nat → Nat) (dr : Int32) (v : Bool) (v2 : Bool) : cM l yX5_spread wsX5_spread rm_X5_spread E sz [.ref o, .int dr, .int (b2i v), .int (b2i v2)] (wMo E o ad th gr co sd tk wm st (nI mo) nx lb fr) (fun u : Unit => none) (fun u : Unit => True) (fun u : Unit => wMo E o ad th gr co sd tk wm st (nI mo) nx lb (farN (opn (if v = true then chSafe sd tk (nI mo) else dep gr co) dr) (rowV v2))) := by
  refine cM_intro (cc := cX5_spread) (maxL := 8) (ret := none) (by decide +kernel) rfl (Nat.le_of_ble_eq_true rfl) ?_
  intro p e s m args below meth cd hx hb hr hml hown hlocks hts hnm hK hsz hP A hD hA Q hQ ls hl
  have hown : s.vm.findClass RX5 = some m.cls := hown
  have hin5 : ∀ w ∈ u_ws RX5 TX5 11, w ∈ wsX5_spread := by decide +kernel
  have lk34 := hts (.fieldLink RX5 34 "ReefPilotModel" "far" "[I") (by decide +kernel)
  have hamcmin := hts (.code Lib.Math.min.name Lib.Math.min.code 2 (some .int)) (by decide +kernel)
  have hamini := hts (.initialized "java/lang/Math") (by decide +kernel)
  have haml66 := hts (.methodLink RX5 66 Lib.Math.min.name) (by decide +kernel)
  have hamsmin := hts (.static Lib.Math.min.name) (by decide +kernel)
  have hS : va_S A s.heap s.heap [] := va_S.rf
  have hl : lv_has ls 8 [(0, .ref o), (1, .int dr), (2, .int (b2i v)), (3, .int (b2i v2))] := hl
  refine lv_iconst (v := nI 0) hx hb dX5_spread_0 (by decide +kernel) ?_
  refine lv_istore (lv' := [(4, .int (nI 0)), (0, .ref o), (1, .int dr), (2, .int (b2i v)), (3, .int (b2i v2))]) hx hb dX5_spread_1 hl (by decide) rfl (fun ls hl => ?_)
  have L3 : ∀ (fuel : Nat) (z : Nat) (f : Nat → Nat) (hz : z ≤ 81) (hf : ∀ k : Nat, f k = if k < z then (fun _ => 999) k else fr k) (hfuel : 81 - z < fuel) (H : Heap) (locs : List Loc), va_P E.1 vwCl (wMo E o ad th gr co sd tk wm st (nI mo) nx lb f) H → va_D A (wMo E o ad th gr co sd tk wm st (nI mo) nx lb f) → va_S A s.heap H locs → ∀ ls : Array Slot, lv_has ls 8 [(4, .int (nI z)), (0, .ref o), (1, .int dr), (2, .int (b2i v)), (3, .int (b2i v2))] → W p l e rm_X5_spread s m args below meth cd H locs 0 0 Q (F0 m 3 ls []) := by
    intro fuel
    induction fuel with
    | zero => intros; omega
    | succ fuel ihL3 =>
      intro z f hz hf hfuel H locs hP hD hS ls hl
      refine lv_iload hx hb dX5_spread_3 (lv_at hl 0 rfl) ?_
      refine lv_bipush (v := nI 81) hx hb dX5_spread_5 (by decide +kernel) ?_
      refine n_icmp_ge (x := z) (y := 81) (by omega) (by omega) (tgt := 26) hx hb dX5_spread_7 (by decide) (fun c7 => ?_) (fun c7 => ?_)
      · refine lv_iconst (v := nI 1) hx hb dX5_spread_26 (by decide +kernel) ?_
        refine lv_istore (lv' := [(4, .int (nI 1)), (0, .ref o), (1, .int dr), (2, .int (b2i v)), (3, .int (b2i v2))]) hx hb dX5_spread_27 hl (by decide) rfl (fun ls hl => ?_)
        have L29 : ∀ (fuel : Nat) (g : Bool) (FA : Nat → Nat) (hF0 : farI (opn (if v = true then chSafe sd tk (nI mo) else dep gr co) dr) v2 FA) (hst : g = false → ∀ k, k < 81 → opn (if v = true then chSafe sd tk (nI mo) else dep gr co) dr k = true → ¬ itsF FA (src0 v2 k) k 4 < FA k) (hfuel : 2 * farM FA + (if g = true then 1 else 0) < fuel) (H : Heap) (locs : List Loc), va_P E.1 vwCl (wMo E o ad th gr co sd tk wm st (nI mo) nx lb FA) H → va_D A (wMo E o ad th gr co sd tk wm st (nI mo) nx lb FA) → va_S A s.heap H locs → ∀ ls : Array Slot, lv_has ls 8 [(4, .int (b2i g)), (0, .ref o), (1, .int dr), (2, .int (b2i v)), (3, .int (b2i v2))] → W p l e rm_X5_spread s m args below meth cd H locs 0 0 Q (F0 m 29 ls []) := by
          intro fuel
          induction fuel with
          | zero => intros; omega
          | succ fuel ihL29 =>
            intro g FA hF0 hst hfuel H locs hP hD hS ls hl
            have hfo := hfuel
            refine lv_iload hx hb dX5_spread_29 (lv_at hl 0 rfl) ?_
            refine b_if_eq (x := g) (tgt := 184) hx hb dX5_spread_31 (by decide) (fun c31 => ?_) (fun c31 => ?_)
            · have hP := e_cong hP 9 (g := fun k => nI ((farN (opn (if v = true then chSafe sd tk (nI mo) else dep gr co) dr) (rowV v2)) k)) rfl (fun k hk => congrArg nI (farN_of hF0 (hst c31) k hk))
              have hD := va_D.set (e := .inl (E.2.1, 81, .inl (fun k => nI ((farN (opn (if v = true then chSafe sd tk (nI mo) else dep gr co) dr) (rowV v2)) k)))) hD (p := 9) rfl
              have hP : va_P E.1 vwCl (wMo E o ad th gr co sd tk wm st (nI mo) nx lb (farN (opn (if v = true then chSafe sd tk (nI mo) else dep gr co) dr) (rowV v2))) H := hP
              have hD : va_D A (wMo E o ad th gr co sd tk wm st (nI mo) nx lb (farN (opn (if v = true then chSafe sd tk (nI mo) else dep gr co) dr) (rowV v2))) := hD
              exact e_vret () hQ hx hb hr hlocks hP hD hS dX5_spread_184 (rfl) (Nat.le_of_ble_eq_true rfl) (Nat.le_of_ble_eq_true rfl) (trivial)
            · refine lv_iconst (v := nI 0) hx hb dX5_spread_34 (by decide +kernel) ?_
              refine lv_istore (lv' := [(4, .int (nI 0)), (0, .ref o), (1, .int dr), (2, .int (b2i v)), (3, .int (b2i v2))]) hx hb dX5_spread_35 hl (by decide) rfl (fun ls hl => ?_)
              refine lv_iconst (v := nI 0) hx hb dX5_spread_37 (by decide +kernel) ?_
              refine lv_istore (lv' := [(5, .int (nI 0)), (4, .int (nI 0)), (0, .ref o), (1, .int dr), (2, .int (b2i v)), (3, .int (b2i v2))]) hx hb dX5_spread_38 hl (by decide) rfl (fun ls hl => ?_)
              have L40 : ∀ (fuel : Nat) (z : Nat) (g1 : Bool) (FB : Nat → Nat) (hz : z ≤ 81) (hF1 : farI (opn (if v = true then chSafe sd tk (nI mo) else dep gr co) dr) v2 FB) (hs1 : g1 = false → farM FB = farM FA ∧ ∀ k, k < z → opn (if v = true then chSafe sd tk (nI mo) else dep gr co) dr k = true → ¬ itsF FB (src0 v2 k) k 4 < FB k) (hg1 : g1 = true → farM FB < farM FA) (hfuel : 81 - z < fuel) (H : Heap) (locs : List Loc), va_P E.1 vwCl (wMo E o ad th gr co sd tk wm st (nI mo) nx lb FB) H → va_D A (wMo E o ad th gr co sd tk wm st (nI mo) nx lb FB) → va_S A s.heap H locs → ∀ ls : Array Slot, lv_has ls 8 [(5, .int (nI z)), (4, .int (b2i g1)), (0, .ref o), (1, .int dr), (2, .int (b2i v)), (3, .int (b2i v2))] → W p l e rm_X5_spread s m args below meth cd H locs 0 0 Q (F0 m 40 ls []) := by
                intro fuel
                induction fuel with
                | zero => intros; omega
                | succ fuel ihL40 =>
                  intro z g1 FB hz hF1 hs1 hg1 hfuel H locs hP hD hS ls hl
                  refine lv_iload hx hb dX5_spread_40 (lv_at hl 0 rfl) ?_
                  refine lv_bipush (v := nI 81) hx hb dX5_spread_42 (by decide +kernel) ?_
                  refine n_icmp_ge (x := z) (y := 81) (by omega) (by omega) (tgt := 181) hx hb dX5_spread_44 (by decide) (fun c44 => ?_) (fun c44 => ?_)
                  · refine lv_goto (tgt := 29) hx hb dX5_spread_181 (by decide) ?_
                    exact ihL29 g1 FB (hF1) (fun hg => fun k hk => (hs1 hg).2 k (by omega)) (by cases g1 with | false => (have h9 := (hs1 rfl).1; rw [c31] at hfo; simp only [if_true, Bool.false_eq_true, if_false] at hfo ⊢; omega) | true => (have h9 := hg1 rfl; rw [c31] at hfo; simp only [if_true] at hfo ⊢; omega)) _ _ hP hD hS _ (lv_sub hl [1, 2, 3, 4, 5] rfl)
                  · refine lv_iload_n hx hb dX5_spread_47 rfl (lv_at hl 4 rfl) ?_
                    refine b_if_eq (x := v) (tgt := 61) hx hb dX5_spread_48 (by decide) (fun c48 => ?_) (fun c48 => ?_)
                    · refine lv_aload_n hx hb dX5_spread_61 rfl (lv_at hl 2 rfl) ?_
                      refine lv_iload hx hb dX5_spread_62 (lv_at hl 0 rfl) ?_
                      refine e_callV (As := [.int (nI z)]) (rest := []) ⟨hx, hb, hml, hown, hts⟩ hK hP hD hS hA hl.1 (c_X5_depth l E _ o ad th gr co sd tk wm st mo nx lb FB z (by first | omega | assumption | rfl | (simp_all; done))) (cwV 1 hts gX5_spread_X5_depth rfl rfl rfl (by decide +kernel) ⟨Nat.le_of_ble_eq_true rfl, Nat.le_of_ble_eq_true rfl⟩) [0, 1, 2, 3, 4, 5, 6, 7, 8, 9] [] rfl rfl rfl rfl (by decide) (q0 := 0) (ci := 5) rfl rfl rfl rfl (Nat.le_of_ble_eq_true rfl) dX5_spread_64 ⟨Nat.le_of_ble_eq_true rfl, Nat.le_of_ble_eq_true rfl⟩ (fun u_1 H locs hu_2 hsz1 hP hD hS => ?_)
                      have hP : va_P E.1 vwCl (wMo E o ad th gr co sd tk wm st (nI mo) nx lb FB) H := hP.sub [0, 1, 2, 3, 4, 5, 6, 7, 8, 9] rfl
                      have hD : va_D A (wMo E o ad th gr co sd tk wm st (nI mo) nx lb FB) := hD.sub [0, 1, 2, 3, 4, 5, 6, 7, 8, 9] (by decide) rfl
                      refine W.eq (g2 := F0 m 67 ls [.int (dep gr co z)]) rfl ?_
                      refine e_top (y := (if v = true then chSafe sd tk (nI mo) else dep gr co) z) (by first | (rw [if_pos c48]; rfl) | (rw [if_neg (show ¬ v = true by rw [c48]; decide)])) ?_
                      have L67 : ∀ (H : Heap) (locs : List Loc), va_P E.1 vwCl (wMo E o ad th gr co sd tk wm st (nI mo) nx lb FB) H → va_D A (wMo E o ad th gr co sd tk wm st (nI mo) nx lb FB) → va_S A s.heap H locs → ∀ ls : Array Slot, lv_has ls 8 [(5, .int (nI z)), (4, .int (b2i g1)), (0, .ref o), (1, .int dr), (2, .int (b2i v)), (3, .int (b2i v2))] → W p l e rm_X5_spread s m args below meth cd H locs 0 0 Q (F0 m 67 ls [.int ((if v = true then chSafe sd tk (nI mo) else dep gr co) z)]) := by
                        intro  H locs hP hD hS ls hl
                        have hz81 : z < 81 := by assumption
                        refine lv_iload_n hx hb dX5_spread_67 rfl (lv_at hl 3 rfl) ?_
                        refine lv_icmp_gt (tgt := 74) hx hb dX5_spread_68 (by decide) (fun c68 => ?_) (fun c68 => ?_)
                        · refine lv_iload hx hb dX5_spread_74 (lv_at hl 0 rfl) ?_
                          refine lv_bipush (v := nI 9) hx hb dX5_spread_76 (by decide +kernel) ?_
                          refine lv_idiv hx hb dX5_spread_78 (by decide +kernel) ?_
                          refine e_top (pk_div (by omega) (by omega) (by omega)) ?_
                          refine lv_iload_n hx hb dX5_spread_79 rfl (lv_at hl 5 rfl) ?_
                          refine b_if_eq (x := v2) (tgt := 88) hx hb dX5_spread_80 (by decide) (fun c80 => ?_) (fun c80 => ?_)
                          · refine lv_iconst (v := nI 0) hx hb dX5_spread_88 (by decide +kernel) ?_
                            refine n_icmp_ne (x := z / 9) (y := 0) (by omega) (by omega) (tgt := 96) hx hb dX5_spread_89 (by decide) (fun c89 => ?_) (fun c89 => ?_)
                            · refine lv_sipush (v := nI 999) hx hb dX5_spread_96 (by decide +kernel) ?_
                              refine e_top (y := nI (src0 v2 z)) (congrArg nI (by first | exact (src0_1 c80 c89).symm | exact (src0_2 c80 c89).symm | exact (src0_3 c80 c89).symm | exact (src0_4 c80 c89).symm)) ?_
                              have L99 : ∀ (H : Heap) (locs : List Loc), va_P E.1 vwCl (wMo E o ad th gr co sd tk wm st (nI mo) nx lb FB) H → va_D A (wMo E o ad th gr co sd tk wm st (nI mo) nx lb FB) → va_S A s.heap H locs → ∀ ls : Array Slot, lv_has ls 8 [(5, .int (nI z)), (4, .int (b2i g1)), (0, .ref o), (1, .int dr), (2, .int (b2i v)), (3, .int (b2i v2))] → W p l e rm_X5_spread s m args below meth cd H locs 0 0 Q (F0 m 99 ls [.int (nI (src0 v2 z))]) := by
                                intro  H locs hP hD hS ls hl
                                refine lv_istore (lv' := [(6, .int (nI (src0 v2 z))), (5, .int (nI z)), (4, .int (b2i g1)), (0, .ref o), (1, .int dr), (2, .int (b2i v)), (3, .int (b2i v2))]) hx hb dX5_spread_99 hl (by decide) rfl (fun ls hl => ?_)
                                refine lv_iconst (v := nI 0) hx hb dX5_spread_101 (by decide +kernel) ?_
                                refine lv_istore (lv' := [(7, .int (nI 0)), (6, .int (nI (src0 v2 z))), (5, .int (nI z)), (4, .int (b2i g1)), (0, .ref o), (1, .int dr), (2, .int (b2i v)), (3, .int (b2i v2))]) hx hb dX5_spread_102 hl (by decide) rfl (fun ls hl => ?_)
                                have L104 : ∀ (fuel : Nat) (t : Nat) (y : Nat) (hy : y ≤ 4) (ht : t = itsF FB (src0 v2 z) z y) (hfuel : 4 - y < fuel) (H : Heap) (locs : List Loc), va_P E.1 vwCl (wMo E o ad th gr co sd tk wm st (nI mo) nx lb FB) H → va_D A (wMo E o ad th gr co sd tk wm st (nI mo) nx lb FB) → va_S A s.heap H locs → ∀ ls : Array Slot, lv_has ls 8 [(7, .int (nI y)), (6, .int (nI t)), (5, .int (nI z)), (4, .int (b2i g1)), (0, .ref o), (1, .int dr), (2, .int (b2i v)), (3, .int (b2i v2))] → W p l e rm_X5_spread s m args below meth cd H locs 0 0 Q (F0 m 104 ls []) := by
                                  intro fuel
                                  induction fuel with
                                  | zero => intros; omega
                                  | succ fuel ihL104 =>
                                    intro t y hy ht hfuel H locs hP hD hS ls hl
                                    have hs09 : src0 v2 z ≤ 999 := by unfold src0; by_cases h9 : srcB v2 z = true; rw [if_pos h9]; decide; rw [if_neg h9]; decide
                                    have hit := itsF_le (F := FB) (s0 := src0 v2 z) (k := z) y
                                    have hFz := (hF1 z hz81).2.1
                                    refine lv_iload hx hb dX5_spread_104 (lv_at hl 0 rfl) ?_
                                    refine lv_iconst (v := nI 4) hx hb dX5_spread_106 (by decide +kernel) ?_
                                    refine n_icmp_ge (x := y) (y := 4) (by omega) (by omega) (tgt := 148) hx hb dX5_spread_107 (by decide) (fun c107 => ?_) (fun c107 => ?_)
                                    · have hte : t = itsF FB (src0 v2 z) z 4 := by rw [ht, show y = 4 by omega]
                                      refine lv_iload hx hb dX5_spread_148 (lv_at hl 1 rfl) ?_
                                      refine lv_aload_n hx hb dX5_spread_150 rfl (lv_at hl 4 rfl) ?_
                                      refine va_get (D := E.1) (ci := 5) (v := .ref (ad 8)) (C := RX5) (T := TX5) (N := 11) hx hb hts hin5 hown hK.1 hP 0 rfl rfl 10 (by decide) lk34 (fun _ h9 => h9) rfl dX5_spread_151 ?_
                                      refine lv_iload hx hb dX5_spread_154 (lv_at hl 2 rfl) ?_
                                      refine e_nald hK hP 9 rfl z (by omega) (by decide) hx hb dX5_spread_156 ?_
                                      refine n_icmp_lt (x := t) (y := FB z) (by omega) (by omega) (tgt := 163) hx hb dX5_spread_157 (by decide) (fun c157 => ?_) (fun c157 => ?_)
                                      · refine lv_aload_n hx hb dX5_spread_163 rfl (lv_at hl 4 rfl) ?_
                                        refine va_get (D := E.1) (ci := 5) (v := .ref (ad 8)) (C := RX5) (T := TX5) (N := 11) hx hb hts hin5 hown hK.1 hP 0 rfl rfl 10 (by decide) lk34 (fun _ h9 => h9) rfl dX5_spread_164 ?_
                                        refine lv_iload hx hb dX5_spread_167 (lv_at hl 2 rfl) ?_
                                        refine lv_iload hx hb dX5_spread_169 (lv_at hl 1 rfl) ?_
                                        refine e_nast (x := t) hK hP hD hS 9 rfl z (by omega) (by decide) hx hb dX5_spread_171 (fun H locs hP hD hS => ?_)
                                        have hP : va_P E.1 vwCl (wMo E o ad th gr co sd tk wm st (nI mo) nx lb (va_up FB z t)) H := hP
                                        have hD : va_D A (wMo E o ad th gr co sd tk wm st (nI mo) nx lb (va_up FB z t)) := hD
                                        refine lv_iconst (v := nI 1) hx hb dX5_spread_172 (by decide +kernel) ?_
                                        refine lv_istore (lv' := [(4, .int (nI 1)), (7, .int (nI y)), (6, .int (nI t)), (5, .int (nI z)), (0, .ref o), (1, .int dr), (2, .int (b2i v)), (3, .int (b2i v2))]) hx hb dX5_spread_173 hl (by decide) rfl (fun ls hl => ?_)
                                        refine lv_iinc (v := nI (z + 1)) (lv' := [(5, .int (nI (z + 1))), (4, .int (nI 1)), (7, .int (nI y)), (6, .int (nI t)), (0, .ref o), (1, .int dr), (2, .int (b2i v)), (3, .int (b2i v2))]) hx hb dX5_spread_175 hl (k := 3) rfl (nI_add z 1) (by decide) rfl (fun ls hl => ?_)
                                        refine lv_goto (tgt := 40) hx hb dX5_spread_178 (by decide) ?_
                                        exact ihL40 (z + 1) true (va_up FB z t) (by first | omega | assumption | rfl | (simp_all; done)) (by first | exact hF1 | (rw [hte]; exact (farI_up hF1 hz81 (opn_t (i_nle c68)) (by rw [← hte]; exact c157)).1)) (fun hg => by first | exact absurd hg (by decide) | exact ⟨(hs1 hg).1, fun k hk ho => by rcases Nat.lt_or_ge k z with h9 | h9; exact (hs1 hg).2 k h9 ho; rw [show k = z by omega] at ho ⊢; first | (rw [opn_f (i_nlt c68)] at ho; cases ho; done) | (rw [← hte]; omega)⟩) (by first | exact hg1 | (intro _; have h9 := (farI_up hF1 hz81 (opn_t (i_nle c68)) (by rw [← hte]; exact c157)).2; rw [← hte] at h9; cases hgc : g1 with | false => (have h8 := (hs1 hgc).1; omega) | true => (have h8 := hg1 hgc; omega))) (by omega) _ _ hP hD hS _ (lv_sub hl [0, 1, 4, 5, 6, 7] rfl)
                                      · refine lv_goto (tgt := 175) hx hb dX5_spread_160 (by decide) ?_
                                        refine lv_iinc (v := nI (z + 1)) (lv' := [(5, .int (nI (z + 1))), (7, .int (nI y)), (6, .int (nI t)), (4, .int (b2i g1)), (0, .ref o), (1, .int dr), (2, .int (b2i v)), (3, .int (b2i v2))]) hx hb dX5_spread_175 hl (k := 2) rfl (nI_add z 1) (by decide) rfl (fun ls hl => ?_)
                                        refine lv_goto (tgt := 40) hx hb dX5_spread_178 (by decide) ?_
                                        exact ihL40 (z + 1) g1 FB (by first | omega | assumption | rfl | (simp_all; done)) (by first | exact hF1 | (rw [hte]; exact (farI_up hF1 hz81 (opn_t (i_nle c68)) (by rw [← hte]; exact c157)).1)) (fun hg => by first | exact absurd hg (by decide) | exact ⟨(hs1 hg).1, fun k hk ho => by rcases Nat.lt_or_ge k z with h9 | h9; exact (hs1 hg).2 k h9 ho; rw [show k = z by omega] at ho ⊢; first | (rw [opn_f (i_nlt c68)] at ho; cases ho; done) | (rw [← hte]; omega)⟩) (by first | exact hg1 | (intro _; have h9 := (farI_up hF1 hz81 (opn_t (i_nle c68)) (by rw [← hte]; exact c157)).2; rw [← hte] at h9; cases hgc : g1 with | false => (have h8 := (hs1 hgc).1; omega) | true => (have h8 := hg1 hgc; omega))) (by omega) _ _ hP hD hS _ (lv_sub hl [0, 3, 4, 5, 6, 7] rfl)
                                    · refine lv_iload hx hb dX5_spread_110 (lv_at hl 2 rfl) ?_
                                      refine lv_iload hx hb dX5_spread_112 (lv_at hl 0 rfl) ?_
                                      refine e_callS (As := [.int (nI z), .int (nI y)]) (rest := []) ⟨hx, hb, hml, hown, hts⟩ hK hP hD hS hA hl.1 (c_X5_beside l E _ z y (by first | omega | assumption | rfl | (simp_all; done)) (by first | omega | assumption | rfl | (simp_all; done))) (va_cwS 2 hts gX5_spread_X5_beside rfl rfl rfl (by decide +kernel) ⟨Nat.le_of_ble_eq_true rfl, Nat.le_of_ble_eq_true rfl⟩) [] [0, 1, 2, 3, 4, 5, 6, 7, 8, 9] rfl rfl rfl rfl (by decide) rfl rfl (Nat.le_of_ble_eq_true rfl) dX5_spread_114 ⟨Nat.le_of_ble_eq_true rfl, Nat.le_of_ble_eq_true rfl⟩ (fun u_3 H locs hu_4 hsz1 hP hD hS => ?_)
                                      have hP : va_P E.1 vwCl (wMo E o ad th gr co sd tk wm st (nI mo) nx lb FB) H := hP.sub [0, 1, 2, 3, 4, 5, 6, 7, 8, 9] rfl
                                      have hD : va_D A (wMo E o ad th gr co sd tk wm st (nI mo) nx lb FB) := hD.sub [0, 1, 2, 3, 4, 5, 6, 7, 8, 9] (by decide) rfl
                                      refine W.eq (g2 := F0 m 117 ls [.int (oI (nb z y))]) rfl ?_
                                      refine lv_iconst (v := (-1)) hx hb dX5_spread_117 (by decide +kernel) ?_
                                      refine o_icmp_eq (x := nb z y) (nb_ob hz81) (tgt := 142) hx hb dX5_spread_118 (by decide) (fun c118 => ?_) (fun qn c118 => ?_)
                                      · refine lv_iinc (v := nI (y + 1)) (lv' := [(7, .int (nI (y + 1))), (6, .int (nI t)), (5, .int (nI z)), (4, .int (b2i g1)), (0, .ref o), (1, .int dr), (2, .int (b2i v)), (3, .int (b2i v2))]) hx hb dX5_spread_142 hl (k := 0) rfl (nI_add y 1) (by decide) rfl (fun ls hl => ?_)
                                        refine lv_goto (tgt := 104) hx hb dX5_spread_145 (by decide) ?_
                                        exact ihL104 t (y + 1) (by first | omega | assumption | rfl | (simp_all; done)) (by first | (rw [itsF_none c118]; exact ht) | (rw [itsF_some c118, ← ht])) (by omega) _ _ hP hD hS _ (lv_sub hl [0, 1, 2, 3, 4, 5, 6, 7] rfl)
                                      · have hq_ : qn < 81 := nb_lt hz81 c118
                                        have hFq := (hF1 qn hq_).2.1
                                        refine lv_iload hx hb dX5_spread_121 (lv_at hl 1 rfl) ?_
                                        refine lv_aload_n hx hb dX5_spread_123 rfl (lv_at hl 4 rfl) ?_
                                        refine va_get (D := E.1) (ci := 5) (v := .ref (ad 8)) (C := RX5) (T := TX5) (N := 11) hx hb hts hin5 hown hK.1 hP 0 rfl rfl 10 (by decide) lk34 (fun _ h9 => h9) rfl dX5_spread_124 ?_
                                        refine lv_iload hx hb dX5_spread_127 (lv_at hl 2 rfl) ?_
                                        refine lv_iload hx hb dX5_spread_129 (lv_at hl 0 rfl) ?_
                                        refine e_callS (As := [.int (nI z), .int (nI y)]) (rest := [.ref (ad 8), .int (nI t)]) ⟨hx, hb, hml, hown, hts⟩ hK hP hD hS hA hl.1 (c_X5_beside l E _ z y (by first | omega | assumption | rfl | (simp_all; done)) (by first | omega | assumption | rfl | (simp_all; done))) (va_cwS 2 hts gX5_spread_X5_beside rfl rfl rfl (by decide +kernel) ⟨Nat.le_of_ble_eq_true rfl, Nat.le_of_ble_eq_true rfl⟩) [] [0, 1, 2, 3, 4, 5, 6, 7, 8, 9] rfl rfl rfl rfl (by decide) rfl rfl (Nat.le_of_ble_eq_true rfl) dX5_spread_131 ⟨Nat.le_of_ble_eq_true rfl, Nat.le_of_ble_eq_true rfl⟩ (fun u_6 H locs hu_7 hsz1 hP hD hS => ?_)
                                        have hP : va_P E.1 vwCl (wMo E o ad th gr co sd tk wm st (nI mo) nx lb FB) H := hP.sub [0, 1, 2, 3, 4, 5, 6, 7, 8, 9] rfl
                                        have hD : va_D A (wMo E o ad th gr co sd tk wm st (nI mo) nx lb FB) := hD.sub [0, 1, 2, 3, 4, 5, 6, 7, 8, 9] (by decide) rfl
                                        refine W.eq (g2 := F0 m 134 ls [.int (oI (nb z y)), .ref (ad 8), .int (nI t)]) rfl ?_
                                        refine e_top (show oI (nb z y) = nI qn by rw [c118]; rfl) ?_
                                        refine e_nald hK hP 9 rfl qn (by omega) (by decide) hx hb dX5_spread_134 ?_
                                        refine lv_iconst (v := nI 1) hx hb dX5_spread_135 (by decide +kernel) ?_
                                        refine lv_iadd hx hb dX5_spread_136 ?_
                                        refine e_top (nI_add _ _) ?_
                                        refine va_mmin hx hb (by rw [hml]; exact hl.1.symm) hown haml66 hamsmin hamini hamcmin (Nat.le_of_ble_eq_true rfl) (Nat.le_of_ble_eq_true rfl) (Nat.le_of_ble_eq_true rfl) (Nat.le_of_ble_eq_true rfl) dX5_spread_137 ?_
                                        refine e_top (y := iMin (nI t) (nI ((FB qn) + 1))) rfl ?_
                                        refine e_top (y := nI (if (FB qn) + 1 < t then (FB qn) + 1 else t)) (nI_min (by omega) (by omega)) ?_
                                        refine lv_istore (lv' := [(6, .int (nI (if (FB qn) + 1 < t then (FB qn) + 1 else t))), (7, .int (nI y)), (5, .int (nI z)), (4, .int (b2i g1)), (0, .ref o), (1, .int dr), (2, .int (b2i v)), (3, .int (b2i v2))]) hx hb dX5_spread_140 hl (by decide) rfl (fun ls hl => ?_)
                                        refine lv_iinc (v := nI (y + 1)) (lv' := [(7, .int (nI (y + 1))), (6, .int (nI (if (FB qn) + 1 < t then (FB qn) + 1 else t))), (5, .int (nI z)), (4, .int (b2i g1)), (0, .ref o), (1, .int dr), (2, .int (b2i v)), (3, .int (b2i v2))]) hx hb dX5_spread_142 hl (k := 1) rfl (nI_add y 1) (by decide) rfl (fun ls hl => ?_)
                                        refine lv_goto (tgt := 104) hx hb dX5_spread_145 (by decide) ?_
                                        exact ihL104 (if (FB qn) + 1 < t then (FB qn) + 1 else t) (y + 1) (by first | omega | assumption | rfl | (simp_all; done)) (by first | (rw [itsF_none c118]; exact ht) | (rw [itsF_some c118, ← ht])) (by omega) _ _ hP hD hS _ (lv_sub hl [0, 1, 2, 3, 4, 5, 6, 7] rfl)
                                exact L104 (4 - 0 + 1) (src0 v2 z) 0 (by first | omega | assumption | rfl | (simp_all; done)) (rfl) (Nat.lt_succ_self _) _ _ hP hD hS _ (lv_sub hl [0, 1, 2, 3, 4, 5, 6, 7] rfl)
                              exact L99  _ _ hP hD hS _ (lv_sub hl [0, 1, 2, 3, 4, 5] rfl)
                            · refine lv_iconst (v := nI 1) hx hb dX5_spread_92 (by decide +kernel) ?_
                              refine e_top (y := nI (src0 v2 z)) (congrArg nI (by first | exact (src0_1 c80 c89).symm | exact (src0_2 c80 c89).symm | exact (src0_3 c80 c89).symm | exact (src0_4 c80 c89).symm)) ?_
                              refine lv_goto (tgt := 99) hx hb dX5_spread_93 (by decide) ?_
                              have L99 : ∀ (H : Heap) (locs : List Loc), va_P E.1 vwCl (wMo E o ad th gr co sd tk wm st (nI mo) nx lb FB) H → va_D A (wMo E o ad th gr co sd tk wm st (nI mo) nx lb FB) → va_S A s.heap H locs → ∀ ls : Array Slot, lv_has ls 8 [(5, .int (nI z)), (4, .int (b2i g1)), (0, .ref o), (1, .int dr), (2, .int (b2i v)), (3, .int (b2i v2))] → W p l e rm_X5_spread s m args below meth cd H locs 0 0 Q (F0 m 99 ls [.int (nI (src0 v2 z))]) := by
                                intro  H locs hP hD hS ls hl
                                refine lv_istore (lv' := [(6, .int (nI (src0 v2 z))), (5, .int (nI z)), (4, .int (b2i g1)), (0, .ref o), (1, .int dr), (2, .int (b2i v)), (3, .int (b2i v2))]) hx hb dX5_spread_99 hl (by decide) rfl (fun ls hl => ?_)
                                refine lv_iconst (v := nI 0) hx hb dX5_spread_101 (by decide +kernel) ?_
                                refine lv_istore (lv' := [(7, .int (nI 0)), (6, .int (nI (src0 v2 z))), (5, .int (nI z)), (4, .int (b2i g1)), (0, .ref o), (1, .int dr), (2, .int (b2i v)), (3, .int (b2i v2))]) hx hb dX5_spread_102 hl (by decide) rfl (fun ls hl => ?_)
                                have L104 : ∀ (fuel : Nat) (t : Nat) (y : Nat) (hy : y ≤ 4) (ht : t = itsF FB (src0 v2 z) z y) (hfuel : 4 - y < fuel) (H : Heap) (locs : List Loc), va_P E.1 vwCl (wMo E o ad th gr co sd tk wm st (nI mo) nx lb FB) H → va_D A (wMo E o ad th gr co sd tk wm st (nI mo) nx lb FB) → va_S A s.heap H locs → ∀ ls : Array Slot, lv_has ls 8 [(7, .int (nI y)), (6, .int (nI t)), (5, .int (nI z)), (4, .int (b2i g1)), (0, .ref o), (1, .int dr), (2, .int (b2i v)), (3, .int (b2i v2))] → W p l e rm_X5_spread s m args below meth cd H locs 0 0 Q (F0 m 104 ls []) := by
                                  intro fuel
                                  induction fuel with
                                  | zero => intros; omega
                                  | succ fuel ihL104 =>
                                    intro t y hy ht hfuel H locs hP hD hS ls hl
                                    have hs09 : src0 v2 z ≤ 999 := by unfold src0; by_cases h9 : srcB v2 z = true; rw [if_pos h9]; decide; rw [if_neg h9]; decide
                                    have hit := itsF_le (F := FB) (s0 := src0 v2 z) (k := z) y
                                    have hFz := (hF1 z hz81).2.1
                                    refine lv_iload hx hb dX5_spread_104 (lv_at hl 0 rfl) ?_
                                    refine lv_iconst (v := nI 4) hx hb dX5_spread_106 (by decide +kernel) ?_
                                    refine n_icmp_ge (x := y) (y := 4) (by omega) (by omega) (tgt := 148) hx hb dX5_spread_107 (by decide) (fun c107 => ?_) (fun c107 => ?_)
                                    · have hte : t = itsF FB (src0 v2 z) z 4 := by rw [ht, show y = 4 by omega]
                                      refine lv_iload hx hb dX5_spread_148 (lv_at hl 1 rfl) ?_
                                      refine lv_aload_n hx hb dX5_spread_150 rfl (lv_at hl 4 rfl) ?_
                                      refine va_get (D := E.1) (ci := 5) (v := .ref (ad 8)) (C := RX5) (T := TX5) (N := 11) hx hb hts hin5 hown hK.1 hP 0 rfl rfl 10 (by decide) lk34 (fun _ h9 => h9) rfl dX5_spread_151 ?_
                                      refine lv_iload hx hb dX5_spread_154 (lv_at hl 2 rfl) ?_
                                      refine e_nald hK hP 9 rfl z (by omega) (by decide) hx hb dX5_spread_156 ?_
                                      refine n_icmp_lt (x := t) (y := FB z) (by omega) (by omega) (tgt := 163) hx hb dX5_spread_157 (by decide) (fun c157 => ?_) (fun c157 => ?_)
                                      · refine lv_aload_n hx hb dX5_spread_163 rfl (lv_at hl 4 rfl) ?_
                                        refine va_get (D := E.1) (ci := 5) (v := .ref (ad 8)) (C := RX5) (T := TX5) (N := 11) hx hb hts hin5 hown hK.1 hP 0 rfl rfl 10 (by decide) lk34 (fun _ h9 => h9) rfl dX5_spread_164 ?_
                                        refine lv_iload hx hb dX5_spread_167 (lv_at hl 2 rfl) ?_
                                        refine lv_iload hx hb dX5_spread_169 (lv_at hl 1 rfl) ?_
                                        refine e_nast (x := t) hK hP hD hS 9 rfl z (by omega) (by decide) hx hb dX5_spread_171 (fun H locs hP hD hS => ?_)
                                        have hP : va_P E.1 vwCl (wMo E o ad th gr co sd tk wm st (nI mo) nx lb (va_up FB z t)) H := hP
                                        have hD : va_D A (wMo E o ad th gr co sd tk wm st (nI mo) nx lb (va_up FB z t)) := hD
                                        refine lv_iconst (v := nI 1) hx hb dX5_spread_172 (by decide +kernel) ?_
                                        refine lv_istore (lv' := [(4, .int (nI 1)), (7, .int (nI y)), (6, .int (nI t)), (5, .int (nI z)), (0, .ref o), (1, .int dr), (2, .int (b2i v)), (3, .int (b2i v2))]) hx hb dX5_spread_173 hl (by decide) rfl (fun ls hl => ?_)
                                        refine lv_iinc (v := nI (z + 1)) (lv' := [(5, .int (nI (z + 1))), (4, .int (nI 1)), (7, .int (nI y)), (6, .int (nI t)), (0, .ref o), (1, .int dr), (2, .int (b2i v)), (3, .int (b2i v2))]) hx hb dX5_spread_175 hl (k := 3) rfl (nI_add z 1) (by decide) rfl (fun ls hl => ?_)
                                        refine lv_goto (tgt := 40) hx hb dX5_spread_178 (by decide) ?_
                                        exact ihL40 (z + 1) true (va_up FB z t) (by first | omega | assumption | rfl | (simp_all; done)) (by first | exact hF1 | (rw [hte]; exact (farI_up hF1 hz81 (opn_t (i_nle c68)) (by rw [← hte]; exact c157)).1)) (fun hg => by first | exact absurd hg (by decide) | exact ⟨(hs1 hg).1, fun k hk ho => by rcases Nat.lt_or_ge k z with h9 | h9; exact (hs1 hg).2 k h9 ho; rw [show k = z by omega] at ho ⊢; first | (rw [opn_f (i_nlt c68)] at ho; cases ho; done) | (rw [← hte]; omega)⟩) (by first | exact hg1 | (intro _; have h9 := (farI_up hF1 hz81 (opn_t (i_nle c68)) (by rw [← hte]; exact c157)).2; rw [← hte] at h9; cases hgc : g1 with | false => (have h8 := (hs1 hgc).1; omega) | true => (have h8 := hg1 hgc; omega))) (by omega) _ _ hP hD hS _ (lv_sub hl [0, 1, 4, 5, 6, 7] rfl)
                                      · refine lv_goto (tgt := 175) hx hb dX5_spread_160 (by decide) ?_
                                        refine lv_iinc (v := nI (z + 1)) (lv' := [(5, .int (nI (z + 1))), (7, .int (nI y)), (6, .int (nI t)), (4, .int (b2i g1)), (0, .ref o), (1, .int dr), (2, .int (b2i v)), (3, .int (b2i v2))]) hx hb dX5_spread_175 hl (k := 2) rfl (nI_add z 1) (by decide) rfl (fun ls hl => ?_)
                                        refine lv_goto (tgt := 40) hx hb dX5_spread_178 (by decide) ?_
                                        exact ihL40 (z + 1) g1 FB (by first | omega | assumption | rfl | (simp_all; done)) (by first | exact hF1 | (rw [hte]; exact (farI_up hF1 hz81 (opn_t (i_nle c68)) (by rw [← hte]; exact c157)).1)) (fun hg => by first | exact absurd hg (by decide) | exact ⟨(hs1 hg).1, fun k hk ho => by rcases Nat.lt_or_ge k z with h9 | h9; exact (hs1 hg).2 k h9 ho; rw [show k = z by omega] at ho ⊢; first | (rw [opn_f (i_nlt c68)] at ho; cases ho; done) | (rw [← hte]; omega)⟩) (by first | exact hg1 | (intro _; have h9 := (farI_up hF1 hz81 (opn_t (i_nle c68)) (by rw [← hte]; exact c157)).2; rw [← hte] at h9; cases hgc : g1 with | false => (have h8 := (hs1 hgc).1; omega) | true => (have h8 := hg1 hgc; omega))) (by omega) _ _ hP hD hS _ (lv_sub hl [0, 3, 4, 5, 6, 7] rfl)
                                    · refine lv_iload hx hb dX5_spread_110 (lv_at hl 2 rfl) ?_
                                      refine lv_iload hx hb dX5_spread_112 (lv_at hl 0 rfl) ?_
                                      refine e_callS (As := [.int (nI z), .int (nI y)]) (rest := []) ⟨hx, hb, hml, hown, hts⟩ hK hP hD hS hA hl.1 (c_X5_beside l E _ z y (by first | omega | assumption | rfl | (simp_all; done)) (by first | omega | assumption | rfl | (simp_all; done))) (va_cwS 2 hts gX5_spread_X5_beside rfl rfl rfl (by decide +kernel) ⟨Nat.le_of_ble_eq_true rfl, Nat.le_of_ble_eq_true rfl⟩) [] [0, 1, 2, 3, 4, 5, 6, 7, 8, 9] rfl rfl rfl rfl (by decide) rfl rfl (Nat.le_of_ble_eq_true rfl) dX5_spread_114 ⟨Nat.le_of_ble_eq_true rfl, Nat.le_of_ble_eq_true rfl⟩ (fun u_8 H locs hu_9 hsz1 hP hD hS => ?_)
                                      have hP : va_P E.1 vwCl (wMo E o ad th gr co sd tk wm st (nI mo) nx lb FB) H := hP.sub [0, 1, 2, 3, 4, 5, 6, 7, 8, 9] rfl
                                      have hD : va_D A (wMo E o ad th gr co sd tk wm st (nI mo) nx lb FB) := hD.sub [0, 1, 2, 3, 4, 5, 6, 7, 8, 9] (by decide) rfl
                                      refine W.eq (g2 := F0 m 117 ls [.int (oI (nb z y))]) rfl ?_
                                      refine lv_iconst (v := (-1)) hx hb dX5_spread_117 (by decide +kernel) ?_
                                      refine o_icmp_eq (x := nb z y) (nb_ob hz81) (tgt := 142) hx hb dX5_spread_118 (by decide) (fun c118 => ?_) (fun qn c118 => ?_)
                                      · refine lv_iinc (v := nI (y + 1)) (lv' := [(7, .int (nI (y + 1))), (6, .int (nI t)), (5, .int (nI z)), (4, .int (b2i g1)), (0, .ref o), (1, .int dr), (2, .int (b2i v)), (3, .int (b2i v2))]) hx hb dX5_spread_142 hl (k := 0) rfl (nI_add y 1) (by decide) rfl (fun ls hl => ?_)
                                        refine lv_goto (tgt := 104) hx hb dX5_spread_145 (by decide) ?_
                                        exact ihL104 t (y + 1) (by first | omega | assumption | rfl | (simp_all; done)) (by first | (rw [itsF_none c118]; exact ht) | (rw [itsF_some c118, ← ht])) (by omega) _ _ hP hD hS _ (lv_sub hl [0, 1, 2, 3, 4, 5, 6, 7] rfl)
                                      · have hq_ : qn < 81 := nb_lt hz81 c118
                                        have hFq := (hF1 qn hq_).2.1
                                        refine lv_iload hx hb dX5_spread_121 (lv_at hl 1 rfl) ?_
                                        refine lv_aload_n hx hb dX5_spread_123 rfl (lv_at hl 4 rfl) ?_
                                        refine va_get (D := E.1) (ci := 5) (v := .ref (ad 8)) (C := RX5) (T := TX5) (N := 11) hx hb hts hin5 hown hK.1 hP 0 rfl rfl 10 (by decide) lk34 (fun _ h9 => h9) rfl dX5_spread_124 ?_
                                        refine lv_iload hx hb dX5_spread_127 (lv_at hl 2 rfl) ?_
                                        refine lv_iload hx hb dX5_spread_129 (lv_at hl 0 rfl) ?_
                                        refine e_callS (As := [.int (nI z), .int (nI y)]) (rest := [.ref (ad 8), .int (nI t)]) ⟨hx, hb, hml, hown, hts⟩ hK hP hD hS hA hl.1 (c_X5_beside l E _ z y (by first | omega | assumption | rfl | (simp_all; done)) (by first | omega | assumption | rfl | (simp_all; done))) (va_cwS 2 hts gX5_spread_X5_beside rfl rfl rfl (by decide +kernel) ⟨Nat.le_of_ble_eq_true rfl, Nat.le_of_ble_eq_true rfl⟩) [] [0, 1, 2, 3, 4, 5, 6, 7, 8, 9] rfl rfl rfl rfl (by decide) rfl rfl (Nat.le_of_ble_eq_true rfl) dX5_spread_131 ⟨Nat.le_of_ble_eq_true rfl, Nat.le_of_ble_eq_true rfl⟩ (fun u_11 H locs hu_12 hsz1 hP hD hS => ?_)
                                        have hP : va_P E.1 vwCl (wMo E o ad th gr co sd tk wm st (nI mo) nx lb FB) H := hP.sub [0, 1, 2, 3, 4, 5, 6, 7, 8, 9] rfl
                                        have hD : va_D A (wMo E o ad th gr co sd tk wm st (nI mo) nx lb FB) := hD.sub [0, 1, 2, 3, 4, 5, 6, 7, 8, 9] (by decide) rfl
                                        refine W.eq (g2 := F0 m 134 ls [.int (oI (nb z y)), .ref (ad 8), .int (nI t)]) rfl ?_
                                        refine e_top (show oI (nb z y) = nI qn by rw [c118]; rfl) ?_
                                        refine e_nald hK hP 9 rfl qn (by omega) (by decide) hx hb dX5_spread_134 ?_
                                        refine lv_iconst (v := nI 1) hx hb dX5_spread_135 (by decide +kernel) ?_
                                        refine lv_iadd hx hb dX5_spread_136 ?_
                                        refine e_top (nI_add _ _) ?_
                                        refine va_mmin hx hb (by rw [hml]; exact hl.1.symm) hown haml66 hamsmin hamini hamcmin (Nat.le_of_ble_eq_true rfl) (Nat.le_of_ble_eq_true rfl) (Nat.le_of_ble_eq_true rfl) (Nat.le_of_ble_eq_true rfl) dX5_spread_137 ?_
                                        refine e_top (y := iMin (nI t) (nI ((FB qn) + 1))) rfl ?_
                                        refine e_top (y := nI (if (FB qn) + 1 < t then (FB qn) + 1 else t)) (nI_min (by omega) (by omega)) ?_
                                        refine lv_istore (lv' := [(6, .int (nI (if (FB qn) + 1 < t then (FB qn) + 1 else t))), (7, .int (nI y)), (5, .int (nI z)), (4, .int (b2i g1)), (0, .ref o), (1, .int dr), (2, .int (b2i v)), (3, .int (b2i v2))]) hx hb dX5_spread_140 hl (by decide) rfl (fun ls hl => ?_)
                                        refine lv_iinc (v := nI (y + 1)) (lv' := [(7, .int (nI (y + 1))), (6, .int (nI (if (FB qn) + 1 < t then (FB qn) + 1 else t))), (5, .int (nI z)), (4, .int (b2i g1)), (0, .ref o), (1, .int dr), (2, .int (b2i v)), (3, .int (b2i v2))]) hx hb dX5_spread_142 hl (k := 1) rfl (nI_add y 1) (by decide) rfl (fun ls hl => ?_)
                                        refine lv_goto (tgt := 104) hx hb dX5_spread_145 (by decide) ?_
                                        exact ihL104 (if (FB qn) + 1 < t then (FB qn) + 1 else t) (y + 1) (by first | omega | assumption | rfl | (simp_all; done)) (by first | (rw [itsF_none c118]; exact ht) | (rw [itsF_some c118, ← ht])) (by omega) _ _ hP hD hS _ (lv_sub hl [0, 1, 2, 3, 4, 5, 6, 7] rfl)
                                exact L104 (4 - 0 + 1) (src0 v2 z) 0 (by first | omega | assumption | rfl | (simp_all; done)) (rfl) (Nat.lt_succ_self _) _ _ hP hD hS _ (lv_sub hl [0, 1, 2, 3, 4, 5, 6, 7] rfl)
                              exact L99  _ _ hP hD hS _ (lv_sub hl [0, 1, 2, 3, 4, 5] rfl)
                          · refine lv_bipush (v := nI 8) hx hb dX5_spread_83 (by decide +kernel) ?_
                            refine lv_goto (tgt := 89) hx hb dX5_spread_85 (by decide) ?_
                            refine n_icmp_ne (x := z / 9) (y := 8) (by omega) (by omega) (tgt := 96) hx hb dX5_spread_89 (by decide) (fun c89 => ?_) (fun c89 => ?_)
                            · refine lv_sipush (v := nI 999) hx hb dX5_spread_96 (by decide +kernel) ?_
                              refine e_top (y := nI (src0 v2 z)) (congrArg nI (by first | exact (src0_1 c80 c89).symm | exact (src0_2 c80 c89).symm | exact (src0_3 c80 c89).symm | exact (src0_4 c80 c89).symm)) ?_
                              have L99 : ∀ (H : Heap) (locs : List Loc), va_P E.1 vwCl (wMo E o ad th gr co sd tk wm st (nI mo) nx lb FB) H → va_D A (wMo E o ad th gr co sd tk wm st (nI mo) nx lb FB) → va_S A s.heap H locs → ∀ ls : Array Slot, lv_has ls 8 [(5, .int (nI z)), (4, .int (b2i g1)), (0, .ref o), (1, .int dr), (2, .int (b2i v)), (3, .int (b2i v2))] → W p l e rm_X5_spread s m args below meth cd H locs 0 0 Q (F0 m 99 ls [.int (nI (src0 v2 z))]) := by
                                intro  H locs hP hD hS ls hl
                                refine lv_istore (lv' := [(6, .int (nI (src0 v2 z))), (5, .int (nI z)), (4, .int (b2i g1)), (0, .ref o), (1, .int dr), (2, .int (b2i v)), (3, .int (b2i v2))]) hx hb dX5_spread_99 hl (by decide) rfl (fun ls hl => ?_)
                                refine lv_iconst (v := nI 0) hx hb dX5_spread_101 (by decide +kernel) ?_
                                refine lv_istore (lv' := [(7, .int (nI 0)), (6, .int (nI (src0 v2 z))), (5, .int (nI z)), (4, .int (b2i g1)), (0, .ref o), (1, .int dr), (2, .int (b2i v)), (3, .int (b2i v2))]) hx hb dX5_spread_102 hl (by decide) rfl (fun ls hl => ?_)
                                have L104 : ∀ (fuel : Nat) (t : Nat) (y : Nat) (hy : y ≤ 4) (ht : t = itsF FB (src0 v2 z) z y) (hfuel : 4 - y < fuel) (H : Heap) (locs : List Loc), va_P E.1 vwCl (wMo E o ad th gr co sd tk wm st (nI mo) nx lb FB) H → va_D A (wMo E o ad th gr co sd tk wm st (nI mo) nx lb FB) → va_S A s.heap H locs → ∀ ls : Array Slot, lv_has ls 8 [(7, .int (nI y)), (6, .int (nI t)), (5, .int (nI z)), (4, .int (b2i g1)), (0, .ref o), (1, .int dr), (2, .int (b2i v)), (3, .int (b2i v2))] → W p l e rm_X5_spread s m args below meth cd H locs 0 0 Q (F0 m 104 ls []) := by
                                  intro fuel
                                  induction fuel with
                                  | zero => intros; omega
                                  | succ fuel ihL104 =>
                                    intro t y hy ht hfuel H locs hP hD hS ls hl
                                    have hs09 : src0 v2 z ≤ 999 := by unfold src0; by_cases h9 : srcB v2 z = true; rw [if_pos h9]; decide; rw [if_neg h9]; decide
                                    have hit := itsF_le (F := FB) (s0 := src0 v2 z) (k := z) y
                                    have hFz := (hF1 z hz81).2.1
                                    refine lv_iload hx hb dX5_spread_104 (lv_at hl 0 rfl) ?_
                                    refine lv_iconst (v := nI 4) hx hb dX5_spread_106 (by decide +kernel) ?_
                                    refine n_icmp_ge (x := y) (y := 4) (by omega) (by omega) (tgt := 148) hx hb dX5_spread_107 (by decide) (fun c107 => ?_) (fun c107 => ?_)
                                    · have hte : t = itsF FB (src0 v2 z) z 4 := by rw [ht, show y = 4 by omega]
                                      refine lv_iload hx hb dX5_spread_148 (lv_at hl 1 rfl) ?_
                                      refine lv_aload_n hx hb dX5_spread_150 rfl (lv_at hl 4 rfl) ?_
                                      refine va_get (D := E.1) (ci := 5) (v := .ref (ad 8)) (C := RX5) (T := TX5) (N := 11) hx hb hts hin5 hown hK.1 hP 0 rfl rfl 10 (by decide) lk34 (fun _ h9 => h9) rfl dX5_spread_151 ?_
                                      refine lv_iload hx hb dX5_spread_154 (lv_at hl 2 rfl) ?_
                                      refine e_nald hK hP 9 rfl z (by omega) (by decide) hx hb dX5_spread_156 ?_
                                      refine n_icmp_lt (x := t) (y := FB z) (by omega) (by omega) (tgt := 163) hx hb dX5_spread_157 (by decide) (fun c157 => ?_) (fun c157 => ?_)
                                      · refine lv_aload_n hx hb dX5_spread_163 rfl (lv_at hl 4 rfl) ?_
                                        refine va_get (D := E.1) (ci := 5) (v := .ref (ad 8)) (C := RX5) (T := TX5) (N := 11) hx hb hts hin5 hown hK.1 hP 0 rfl rfl 10 (by decide) lk34 (fun _ h9 => h9) rfl dX5_spread_164 ?_
                                        refine lv_iload hx hb dX5_spread_167 (lv_at hl 2 rfl) ?_
                                        refine lv_iload hx hb dX5_spread_169 (lv_at hl 1 rfl) ?_
                                        refine e_nast (x := t) hK hP hD hS 9 rfl z (by omega) (by decide) hx hb dX5_spread_171 (fun H locs hP hD hS => ?_)
                                        have hP : va_P E.1 vwCl (wMo E o ad th gr co sd tk wm st (nI mo) nx lb (va_up FB z t)) H := hP
                                        have hD : va_D A (wMo E o ad th gr co sd tk wm st (nI mo) nx lb (va_up FB z t)) := hD
                                        refine lv_iconst (v := nI 1) hx hb dX5_spread_172 (by decide +kernel) ?_
                                        refine lv_istore (lv' := [(4, .int (nI 1)), (7, .int (nI y)), (6, .int (nI t)), (5, .int (nI z)), (0, .ref o), (1, .int dr), (2, .int (b2i v)), (3, .int (b2i v2))]) hx hb dX5_spread_173 hl (by decide) rfl (fun ls hl => ?_)
                                        refine lv_iinc (v := nI (z + 1)) (lv' := [(5, .int (nI (z + 1))), (4, .int (nI 1)), (7, .int (nI y)), (6, .int (nI t)), (0, .ref o), (1, .int dr), (2, .int (b2i v)), (3, .int (b2i v2))]) hx hb dX5_spread_175 hl (k := 3) rfl (nI_add z 1) (by decide) rfl (fun ls hl => ?_)
                                        refine lv_goto (tgt := 40) hx hb dX5_spread_178 (by decide) ?_
                                        exact ihL40 (z + 1) true (va_up FB z t) (by first | omega | assumption | rfl | (simp_all; done)) (by first | exact hF1 | (rw [hte]; exact (farI_up hF1 hz81 (opn_t (i_nle c68)) (by rw [← hte]; exact c157)).1)) (fun hg => by first | exact absurd hg (by decide) | exact ⟨(hs1 hg).1, fun k hk ho => by rcases Nat.lt_or_ge k z with h9 | h9; exact (hs1 hg).2 k h9 ho; rw [show k = z by omega] at ho ⊢; first | (rw [opn_f (i_nlt c68)] at ho; cases ho; done) | (rw [← hte]; omega)⟩) (by first | exact hg1 | (intro _; have h9 := (farI_up hF1 hz81 (opn_t (i_nle c68)) (by rw [← hte]; exact c157)).2; rw [← hte] at h9; cases hgc : g1 with | false => (have h8 := (hs1 hgc).1; omega) | true => (have h8 := hg1 hgc; omega))) (by omega) _ _ hP hD hS _ (lv_sub hl [0, 1, 4, 5, 6, 7] rfl)
                                      · refine lv_goto (tgt := 175) hx hb dX5_spread_160 (by decide) ?_
                                        refine lv_iinc (v := nI (z + 1)) (lv' := [(5, .int (nI (z + 1))), (7, .int (nI y)), (6, .int (nI t)), (4, .int (b2i g1)), (0, .ref o), (1, .int dr), (2, .int (b2i v)), (3, .int (b2i v2))]) hx hb dX5_spread_175 hl (k := 2) rfl (nI_add z 1) (by decide) rfl (fun ls hl => ?_)
                                        refine lv_goto (tgt := 40) hx hb dX5_spread_178 (by decide) ?_
                                        exact ihL40 (z + 1) g1 FB (by first | omega | assumption | rfl | (simp_all; done)) (by first | exact hF1 | (rw [hte]; exact (farI_up hF1 hz81 (opn_t (i_nle c68)) (by rw [← hte]; exact c157)).1)) (fun hg => by first | exact absurd hg (by decide) | exact ⟨(hs1 hg).1, fun k hk ho => by rcases Nat.lt_or_ge k z with h9 | h9; exact (hs1 hg).2 k h9 ho; rw [show k = z by omega] at ho ⊢; first | (rw [opn_f (i_nlt c68)] at ho; cases ho; done) | (rw [← hte]; omega)⟩) (by first | exact hg1 | (intro _; have h9 := (farI_up hF1 hz81 (opn_t (i_nle c68)) (by rw [← hte]; exact c157)).2; rw [← hte] at h9; cases hgc : g1 with | false => (have h8 := (hs1 hgc).1; omega) | true => (have h8 := hg1 hgc; omega))) (by omega) _ _ hP hD hS _ (lv_sub hl [0, 3, 4, 5, 6, 7] rfl)
                                    · refine lv_iload hx hb dX5_spread_110 (lv_at hl 2 rfl) ?_
                                      refine lv_iload hx hb dX5_spread_112 (lv_at hl 0 rfl) ?_
                                      refine e_callS (As := [.int (nI z), .int (nI y)]) (rest := []) ⟨hx, hb, hml, hown, hts⟩ hK hP hD hS hA hl.1 (c_X5_beside l E _ z y (by first | omega | assumption | rfl | (simp_all; done)) (by first | omega | assumption | rfl | (simp_all; done))) (va_cwS 2 hts gX5_spread_X5_beside rfl rfl rfl (by decide +kernel) ⟨Nat.le_of_ble_eq_true rfl, Nat.le_of_ble_eq_true rfl⟩) [] [0, 1, 2, 3, 4, 5, 6, 7, 8, 9] rfl rfl rfl rfl (by decide) rfl rfl (Nat.le_of_ble_eq_true rfl) dX5_spread_114 ⟨Nat.le_of_ble_eq_true rfl, Nat.le_of_ble_eq_true rfl⟩ (fun u_13 H locs hu_14 hsz1 hP hD hS => ?_)
                                      have hP : va_P E.1 vwCl (wMo E o ad th gr co sd tk wm st (nI mo) nx lb FB) H := hP.sub [0, 1, 2, 3, 4, 5, 6, 7, 8, 9] rfl
                                      have hD : va_D A (wMo E o ad th gr co sd tk wm st (nI mo) nx lb FB) := hD.sub [0, 1, 2, 3, 4, 5, 6, 7, 8, 9] (by decide) rfl
                                      refine W.eq (g2 := F0 m 117 ls [.int (oI (nb z y))]) rfl ?_
                                      refine lv_iconst (v := (-1)) hx hb dX5_spread_117 (by decide +kernel) ?_
                                      refine o_icmp_eq (x := nb z y) (nb_ob hz81) (tgt := 142) hx hb dX5_spread_118 (by decide) (fun c118 => ?_) (fun qn c118 => ?_)
                                      · refine lv_iinc (v := nI (y + 1)) (lv' := [(7, .int (nI (y + 1))), (6, .int (nI t)), (5, .int (nI z)), (4, .int (b2i g1)), (0, .ref o), (1, .int dr), (2, .int (b2i v)), (3, .int (b2i v2))]) hx hb dX5_spread_142 hl (k := 0) rfl (nI_add y 1) (by decide) rfl (fun ls hl => ?_)
                                        refine lv_goto (tgt := 104) hx hb dX5_spread_145 (by decide) ?_
                                        exact ihL104 t (y + 1) (by first | omega | assumption | rfl | (simp_all; done)) (by first | (rw [itsF_none c118]; exact ht) | (rw [itsF_some c118, ← ht])) (by omega) _ _ hP hD hS _ (lv_sub hl [0, 1, 2, 3, 4, 5, 6, 7] rfl)
                                      · have hq_ : qn < 81 := nb_lt hz81 c118
                                        have hFq := (hF1 qn hq_).2.1
                                        refine lv_iload hx hb dX5_spread_121 (lv_at hl 1 rfl) ?_
                                        refine lv_aload_n hx hb dX5_spread_123 rfl (lv_at hl 4 rfl) ?_
                                        refine va_get (D := E.1) (ci := 5) (v := .ref (ad 8)) (C := RX5) (T := TX5) (N := 11) hx hb hts hin5 hown hK.1 hP 0 rfl rfl 10 (by decide) lk34 (fun _ h9 => h9) rfl dX5_spread_124 ?_
                                        refine lv_iload hx hb dX5_spread_127 (lv_at hl 2 rfl) ?_
                                        refine lv_iload hx hb dX5_spread_129 (lv_at hl 0 rfl) ?_
                                        refine e_callS (As := [.int (nI z), .int (nI y)]) (rest := [.ref (ad 8), .int (nI t)]) ⟨hx, hb, hml, hown, hts⟩ hK hP hD hS hA hl.1 (c_X5_beside l E _ z y (by first | omega | assumption | rfl | (simp_all; done)) (by first | omega | assumption | rfl | (simp_all; done))) (va_cwS 2 hts gX5_spread_X5_beside rfl rfl rfl (by decide +kernel) ⟨Nat.le_of_ble_eq_true rfl, Nat.le_of_ble_eq_true rfl⟩) [] [0, 1, 2, 3, 4, 5, 6, 7, 8, 9] rfl rfl rfl rfl (by decide) rfl rfl (Nat.le_of_ble_eq_true rfl) dX5_spread_131 ⟨Nat.le_of_ble_eq_true rfl, Nat.le_of_ble_eq_true rfl⟩ (fun u_16 H locs hu_17 hsz1 hP hD hS => ?_)
                                        have hP : va_P E.1 vwCl (wMo E o ad th gr co sd tk wm st (nI mo) nx lb FB) H := hP.sub [0, 1, 2, 3, 4, 5, 6, 7, 8, 9] rfl
                                        have hD : va_D A (wMo E o ad th gr co sd tk wm st (nI mo) nx lb FB) := hD.sub [0, 1, 2, 3, 4, 5, 6, 7, 8, 9] (by decide) rfl
                                        refine W.eq (g2 := F0 m 134 ls [.int (oI (nb z y)), .ref (ad 8), .int (nI t)]) rfl ?_
                                        refine e_top (show oI (nb z y) = nI qn by rw [c118]; rfl) ?_
                                        refine e_nald hK hP 9 rfl qn (by omega) (by decide) hx hb dX5_spread_134 ?_
                                        refine lv_iconst (v := nI 1) hx hb dX5_spread_135 (by decide +kernel) ?_
                                        refine lv_iadd hx hb dX5_spread_136 ?_
                                        refine e_top (nI_add _ _) ?_
                                        refine va_mmin hx hb (by rw [hml]; exact hl.1.symm) hown haml66 hamsmin hamini hamcmin (Nat.le_of_ble_eq_true rfl) (Nat.le_of_ble_eq_true rfl) (Nat.le_of_ble_eq_true rfl) (Nat.le_of_ble_eq_true rfl) dX5_spread_137 ?_
                                        refine e_top (y := iMin (nI t) (nI ((FB qn) + 1))) rfl ?_
                                        refine e_top (y := nI (if (FB qn) + 1 < t then (FB qn) + 1 else t)) (nI_min (by omega) (by omega)) ?_
                                        refine lv_istore (lv' := [(6, .int (nI (if (FB qn) + 1 < t then (FB qn) + 1 else t))), (7, .int (nI y)), (5, .int (nI z)), (4, .int (b2i g1)), (0, .ref o), (1, .int dr), (2, .int (b2i v)), (3, .int (b2i v2))]) hx hb dX5_spread_140 hl (by decide) rfl (fun ls hl => ?_)
                                        refine lv_iinc (v := nI (y + 1)) (lv' := [(7, .int (nI (y + 1))), (6, .int (nI (if (FB qn) + 1 < t then (FB qn) + 1 else t))), (5, .int (nI z)), (4, .int (b2i g1)), (0, .ref o), (1, .int dr), (2, .int (b2i v)), (3, .int (b2i v2))]) hx hb dX5_spread_142 hl (k := 1) rfl (nI_add y 1) (by decide) rfl (fun ls hl => ?_)
                                        refine lv_goto (tgt := 104) hx hb dX5_spread_145 (by decide) ?_
                                        exact ihL104 (if (FB qn) + 1 < t then (FB qn) + 1 else t) (y + 1) (by first | omega | assumption | rfl | (simp_all; done)) (by first | (rw [itsF_none c118]; exact ht) | (rw [itsF_some c118, ← ht])) (by omega) _ _ hP hD hS _ (lv_sub hl [0, 1, 2, 3, 4, 5, 6, 7] rfl)
                                exact L104 (4 - 0 + 1) (src0 v2 z) 0 (by first | omega | assumption | rfl | (simp_all; done)) (rfl) (Nat.lt_succ_self _) _ _ hP hD hS _ (lv_sub hl [0, 1, 2, 3, 4, 5, 6, 7] rfl)
                              exact L99  _ _ hP hD hS _ (lv_sub hl [0, 1, 2, 3, 4, 5] rfl)
                            · refine lv_iconst (v := nI 1) hx hb dX5_spread_92 (by decide +kernel) ?_
                              refine e_top (y := nI (src0 v2 z)) (congrArg nI (by first | exact (src0_1 c80 c89).symm | exact (src0_2 c80 c89).symm | exact (src0_3 c80 c89).symm | exact (src0_4 c80 c89).symm)) ?_
                              refine lv_goto (tgt := 99) hx hb dX5_spread_93 (by decide) ?_
                              have L99 : ∀ (H : Heap) (locs : List Loc), va_P E.1 vwCl (wMo E o ad th gr co sd tk wm st (nI mo) nx lb FB) H → va_D A (wMo E o ad th gr co sd tk wm st (nI mo) nx lb FB) → va_S A s.heap H locs → ∀ ls : Array Slot, lv_has ls 8 [(5, .int (nI z)), (4, .int (b2i g1)), (0, .ref o), (1, .int dr), (2, .int (b2i v)), (3, .int (b2i v2))] → W p l e rm_X5_spread s m args below meth cd H locs 0 0 Q (F0 m 99 ls [.int (nI (src0 v2 z))]) := by
                                intro  H locs hP hD hS ls hl
                                refine lv_istore (lv' := [(6, .int (nI (src0 v2 z))), (5, .int (nI z)), (4, .int (b2i g1)), (0, .ref o), (1, .int dr), (2, .int (b2i v)), (3, .int (b2i v2))]) hx hb dX5_spread_99 hl (by decide) rfl (fun ls hl => ?_)
                                refine lv_iconst (v := nI 0) hx hb dX5_spread_101 (by decide +kernel) ?_
                                refine lv_istore (lv' := [(7, .int (nI 0)), (6, .int (nI (src0 v2 z))), (5, .int (nI z)), (4, .int (b2i g1)), (0, .ref o), (1, .int dr), (2, .int (b2i v)), (3, .int (b2i v2))]) hx hb dX5_spread_102 hl (by decide) rfl (fun ls hl => ?_)
                                have L104 : ∀ (fuel : Nat) (t : Nat) (y : Nat) (hy : y ≤ 4) (ht : t = itsF FB (src0 v2 z) z y) (hfuel : 4 - y < fuel) (H : Heap) (locs : List Loc), va_P E.1 vwCl (wMo E o ad th gr co sd tk wm st (nI mo) nx lb FB) H → va_D A (wMo E o ad th gr co sd tk wm st (nI mo) nx lb FB) → va_S A s.heap H locs → ∀ ls : Array Slot, lv_has ls 8 [(7, .int (nI y)), (6, .int (nI t)), (5, .int (nI z)), (4, .int (b2i g1)), (0, .ref o), (1, .int dr), (2, .int (b2i v)), (3, .int (b2i v2))] → W p l e rm_X5_spread s m args below meth cd H locs 0 0 Q (F0 m 104 ls []) := by
                                  intro fuel
                                  induction fuel with
                                  | zero => intros; omega
                                  | succ fuel ihL104 =>
                                    intro t y hy ht hfuel H locs hP hD hS ls hl
                                    have hs09 : src0 v2 z ≤ 999 := by unfold src0; by_cases h9 : srcB v2 z = true; rw [if_pos h9]; decide; rw [if_neg h9]; decide
                                    have hit := itsF_le (F := FB) (s0 := src0 v2 z) (k := z) y
                                    have hFz := (hF1 z hz81).2.1
                                    refine lv_iload hx hb dX5_spread_104 (lv_at hl 0 rfl) ?_
                                    refine lv_iconst (v := nI 4) hx hb dX5_spread_106 (by decide +kernel) ?_
                                    refine n_icmp_ge (x := y) (y := 4) (by omega) (by omega) (tgt := 148) hx hb dX5_spread_107 (by decide) (fun c107 => ?_) (fun c107 => ?_)
                                    · have hte : t = itsF FB (src0 v2 z) z 4 := by rw [ht, show y = 4 by omega]
                                      refine lv_iload hx hb dX5_spread_148 (lv_at hl 1 rfl) ?_
                                      refine lv_aload_n hx hb dX5_spread_150 rfl (lv_at hl 4 rfl) ?_
                                      refine va_get (D := E.1) (ci := 5) (v := .ref (ad 8)) (C := RX5) (T := TX5) (N := 11) hx hb hts hin5 hown hK.1 hP 0 rfl rfl 10 (by decide) lk34 (fun _ h9 => h9) rfl dX5_spread_151 ?_
                                      refine lv_iload hx hb dX5_spread_154 (lv_at hl 2 rfl) ?_
                                      refine e_nald hK hP 9 rfl z (by omega) (by decide) hx hb dX5_spread_156 ?_
                                      refine n_icmp_lt (x := t) (y := FB z) (by omega) (by omega) (tgt := 163) hx hb dX5_spread_157 (by decide) (fun c157 => ?_) (fun c157 => ?_)
                                      · refine lv_aload_n hx hb dX5_spread_163 rfl (lv_at hl 4 rfl) ?_
                                        refine va_get (D := E.1) (ci := 5) (v := .ref (ad 8)) (C := RX5) (T := TX5) (N := 11) hx hb hts hin5 hown hK.1 hP 0 rfl rfl 10 (by decide) lk34 (fun _ h9 => h9) rfl dX5_spread_164 ?_
                                        refine lv_iload hx hb dX5_spread_167 (lv_at hl 2 rfl) ?_
                                        refine lv_iload hx hb dX5_spread_169 (lv_at hl 1 rfl) ?_
                                        refine e_nast (x := t) hK hP hD hS 9 rfl z (by omega) (by decide) hx hb dX5_spread_171 (fun H locs hP hD hS => ?_)
                                        have hP : va_P E.1 vwCl (wMo E o ad th gr co sd tk wm st (nI mo) nx lb (va_up FB z t)) H := hP
                                        have hD : va_D A (wMo E o ad th gr co sd tk wm st (nI mo) nx lb (va_up FB z t)) := hD
                                        refine lv_iconst (v := nI 1) hx hb dX5_spread_172 (by decide +kernel) ?_
                                        refine lv_istore (lv' := [(4, .int (nI 1)), (7, .int (nI y)), (6, .int (nI t)), (5, .int (nI z)), (0, .ref o), (1, .int dr), (2, .int (b2i v)), (3, .int (b2i v2))]) hx hb dX5_spread_173 hl (by decide) rfl (fun ls hl => ?_)
                                        refine lv_iinc (v := nI (z + 1)) (lv' := [(5, .int (nI (z + 1))), (4, .int (nI 1)), (7, .int (nI y)), (6, .int (nI t)), (0, .ref o), (1, .int dr), (2, .int (b2i v)), (3, .int (b2i v2))]) hx hb dX5_spread_175 hl (k := 3) rfl (nI_add z 1) (by decide) rfl (fun ls hl => ?_)
                                        refine lv_goto (tgt := 40) hx hb dX5_spread_178 (by decide) ?_
                                        exact ihL40 (z + 1) true (va_up FB z t) (by first | omega | assumption | rfl | (simp_all; done)) (by first | exact hF1 | (rw [hte]; exact (farI_up hF1 hz81 (opn_t (i_nle c68)) (by rw [← hte]; exact c157)).1)) (fun hg => by first | exact absurd hg (by decide) | exact ⟨(hs1 hg).1, fun k hk ho => by rcases Nat.lt_or_ge k z with h9 | h9; exact (hs1 hg).2 k h9 ho; rw [show k = z by omega] at ho ⊢; first | (rw [opn_f (i_nlt c68)] at ho; cases ho; done) | (rw [← hte]; omega)⟩) (by first | exact hg1 | (intro _; have h9 := (farI_up hF1 hz81 (opn_t (i_nle c68)) (by rw [← hte]; exact c157)).2; rw [← hte] at h9; cases hgc : g1 with | false => (have h8 := (hs1 hgc).1; omega) | true => (have h8 := hg1 hgc; omega))) (by omega) _ _ hP hD hS _ (lv_sub hl [0, 1, 4, 5, 6, 7] rfl)
                                      · refine lv_goto (tgt := 175) hx hb dX5_spread_160 (by decide) ?_
                                        refine lv_iinc (v := nI (z + 1)) (lv' := [(5, .int (nI (z + 1))), (7, .int (nI y)), (6, .int (nI t)), (4, .int (b2i g1)), (0, .ref o), (1, .int dr), (2, .int (b2i v)), (3, .int (b2i v2))]) hx hb dX5_spread_175 hl (k := 2) rfl (nI_add z 1) (by decide) rfl (fun ls hl => ?_)
                                        refine lv_goto (tgt := 40) hx hb dX5_spread_178 (by decide) ?_
                                        exact ihL40 (z + 1) g1 FB (by first | omega | assumption | rfl | (simp_all; done)) (by first | exact hF1 | (rw [hte]; exact (farI_up hF1 hz81 (opn_t (i_nle c68)) (by rw [← hte]; exact c157)).1)) (fun hg => by first | exact absurd hg (by decide) | exact ⟨(hs1 hg).1, fun k hk ho => by rcases Nat.lt_or_ge k z with h9 | h9; exact (hs1 hg).2 k h9 ho; rw [show k = z by omega] at ho ⊢; first | (rw [opn_f (i_nlt c68)] at ho; cases ho; done) | (rw [← hte]; omega)⟩) (by first | exact hg1 | (intro _; have h9 := (farI_up hF1 hz81 (opn_t (i_nle c68)) (by rw [← hte]; exact c157)).2; rw [← hte] at h9; cases hgc : g1 with | false => (have h8 := (hs1 hgc).1; omega) | true => (have h8 := hg1 hgc; omega))) (by omega) _ _ hP hD hS _ (lv_sub hl [0, 3, 4, 5, 6, 7] rfl)
                                    · refine lv_iload hx hb dX5_spread_110 (lv_at hl 2 rfl) ?_
                                      refine lv_iload hx hb dX5_spread_112 (lv_at hl 0 rfl) ?_
                                      refine e_callS (As := [.int (nI z), .int (nI y)]) (rest := []) ⟨hx, hb, hml, hown, hts⟩ hK hP hD hS hA hl.1 (c_X5_beside l E _ z y (by first | omega | assumption | rfl | (simp_all; done)) (by first | omega | assumption | rfl | (simp_all; done))) (va_cwS 2 hts gX5_spread_X5_beside rfl rfl rfl (by decide +kernel) ⟨Nat.le_of_ble_eq_true rfl, Nat.le_of_ble_eq_true rfl⟩) [] [0, 1, 2, 3, 4, 5, 6, 7, 8, 9] rfl rfl rfl rfl (by decide) rfl rfl (Nat.le_of_ble_eq_true rfl) dX5_spread_114 ⟨Nat.le_of_ble_eq_true rfl, Nat.le_of_ble_eq_true rfl⟩ (fun u_18 H locs hu_19 hsz1 hP hD hS => ?_)
                                      have hP : va_P E.1 vwCl (wMo E o ad th gr co sd tk wm st (nI mo) nx lb FB) H := hP.sub [0, 1, 2, 3, 4, 5, 6, 7, 8, 9] rfl
                                      have hD : va_D A (wMo E o ad th gr co sd tk wm st (nI mo) nx lb FB) := hD.sub [0, 1, 2, 3, 4, 5, 6, 7, 8, 9] (by decide) rfl
                                      refine W.eq (g2 := F0 m 117 ls [.int (oI (nb z y))]) rfl ?_
                                      refine lv_iconst (v := (-1)) hx hb dX5_spread_117 (by decide +kernel) ?_
                                      refine o_icmp_eq (x := nb z y) (nb_ob hz81) (tgt := 142) hx hb dX5_spread_118 (by decide) (fun c118 => ?_) (fun qn c118 => ?_)
                                      · refine lv_iinc (v := nI (y + 1)) (lv' := [(7, .int (nI (y + 1))), (6, .int (nI t)), (5, .int (nI z)), (4, .int (b2i g1)), (0, .ref o), (1, .int dr), (2, .int (b2i v)), (3, .int (b2i v2))]) hx hb dX5_spread_142 hl (k := 0) rfl (nI_add y 1) (by decide) rfl (fun ls hl => ?_)
                                        refine lv_goto (tgt := 104) hx hb dX5_spread_145 (by decide) ?_
                                        exact ihL104 t (y + 1) (by first | omega | assumption | rfl | (simp_all; done)) (by first | (rw [itsF_none c118]; exact ht) | (rw [itsF_some c118, ← ht])) (by omega) _ _ hP hD hS _ (lv_sub hl [0, 1, 2, 3, 4, 5, 6, 7] rfl)
                                      · have hq_ : qn < 81 := nb_lt hz81 c118
                                        have hFq := (hF1 qn hq_).2.1
                                        refine lv_iload hx hb dX5_spread_121 (lv_at hl 1 rfl) ?_
                                        refine lv_aload_n hx hb dX5_spread_123 rfl (lv_at hl 4 rfl) ?_
                                        refine va_get (D := E.1) (ci := 5) (v := .ref (ad 8)) (C := RX5) (T := TX5) (N := 11) hx hb hts hin5 hown hK.1 hP 0 rfl rfl 10 (by decide) lk34 (fun _ h9 => h9) rfl dX5_spread_124 ?_
                                        refine lv_iload hx hb dX5_spread_127 (lv_at hl 2 rfl) ?_
                                        refine lv_iload hx hb dX5_spread_129 (lv_at hl 0 rfl) ?_
                                        refine e_callS (As := [.int (nI z), .int (nI y)]) (rest := [.ref (ad 8), .int (nI t)]) ⟨hx, hb, hml, hown, hts⟩ hK hP hD hS hA hl.1 (c_X5_beside l E _ z y (by first | omega | assumption | rfl | (simp_all; done)) (by first | omega | assumption | rfl | (simp_all; done))) (va_cwS 2 hts gX5_spread_X5_beside rfl rfl rfl (by decide +kernel) ⟨Nat.le_of_ble_eq_true rfl, Nat.le_of_ble_eq_true rfl⟩) [] [0, 1, 2, 3, 4, 5, 6, 7, 8, 9] rfl rfl rfl rfl (by decide) rfl rfl (Nat.le_of_ble_eq_true rfl) dX5_spread_131 ⟨Nat.le_of_ble_eq_true rfl, Nat.le_of_ble_eq_true rfl⟩ (fun u_21 H locs hu_22 hsz1 hP hD hS => ?_)
                                        have hP : va_P E.1 vwCl (wMo E o ad th gr co sd tk wm st (nI mo) nx lb FB) H := hP.sub [0, 1, 2, 3, 4, 5, 6, 7, 8, 9] rfl
                                        have hD : va_D A (wMo E o ad th gr co sd tk wm st (nI mo) nx lb FB) := hD.sub [0, 1, 2, 3, 4, 5, 6, 7, 8, 9] (by decide) rfl
                                        refine W.eq (g2 := F0 m 134 ls [.int (oI (nb z y)), .ref (ad 8), .int (nI t)]) rfl ?_
                                        refine e_top (show oI (nb z y) = nI qn by rw [c118]; rfl) ?_
                                        refine e_nald hK hP 9 rfl qn (by omega) (by decide) hx hb dX5_spread_134 ?_
                                        refine lv_iconst (v := nI 1) hx hb dX5_spread_135 (by decide +kernel) ?_
                                        refine lv_iadd hx hb dX5_spread_136 ?_
                                        refine e_top (nI_add _ _) ?_
                                        refine va_mmin hx hb (by rw [hml]; exact hl.1.symm) hown haml66 hamsmin hamini hamcmin (Nat.le_of_ble_eq_true rfl) (Nat.le_of_ble_eq_true rfl) (Nat.le_of_ble_eq_true rfl) (Nat.le_of_ble_eq_true rfl) dX5_spread_137 ?_
                                        refine e_top (y := iMin (nI t) (nI ((FB qn) + 1))) rfl ?_
                                        refine e_top (y := nI (if (FB qn) + 1 < t then (FB qn) + 1 else t)) (nI_min (by omega) (by omega)) ?_
                                        refine lv_istore (lv' := [(6, .int (nI (if (FB qn) + 1 < t then (FB qn) + 1 else t))), (7, .int (nI y)), (5, .int (nI z)), (4, .int (b2i g1)), (0, .ref o), (1, .int dr), (2, .int (b2i v)), (3, .int (b2i v2))]) hx hb dX5_spread_140 hl (by decide) rfl (fun ls hl => ?_)
                                        refine lv_iinc (v := nI (y + 1)) (lv' := [(7, .int (nI (y + 1))), (6, .int (nI (if (FB qn) + 1 < t then (FB qn) + 1 else t))), (5, .int (nI z)), (4, .int (b2i g1)), (0, .ref o), (1, .int dr), (2, .int (b2i v)), (3, .int (b2i v2))]) hx hb dX5_spread_142 hl (k := 1) rfl (nI_add y 1) (by decide) rfl (fun ls hl => ?_)
                                        refine lv_goto (tgt := 104) hx hb dX5_spread_145 (by decide) ?_
                                        exact ihL104 (if (FB qn) + 1 < t then (FB qn) + 1 else t) (y + 1) (by first | omega | assumption | rfl | (simp_all; done)) (by first | (rw [itsF_none c118]; exact ht) | (rw [itsF_some c118, ← ht])) (by omega) _ _ hP hD hS _ (lv_sub hl [0, 1, 2, 3, 4, 5, 6, 7] rfl)
                                exact L104 (4 - 0 + 1) (src0 v2 z) 0 (by first | omega | assumption | rfl | (simp_all; done)) (rfl) (Nat.lt_succ_self _) _ _ hP hD hS _ (lv_sub hl [0, 1, 2, 3, 4, 5, 6, 7] rfl)
                              exact L99  _ _ hP hD hS _ (lv_sub hl [0, 1, 2, 3, 4, 5] rfl)
                        · refine lv_goto (tgt := 175) hx hb dX5_spread_71 (by decide) ?_
                          refine lv_iinc (v := nI (z + 1)) (lv' := [(5, .int (nI (z + 1))), (4, .int (b2i g1)), (0, .ref o), (1, .int dr), (2, .int (b2i v)), (3, .int (b2i v2))]) hx hb dX5_spread_175 hl (k := 0) rfl (nI_add z 1) (by decide) rfl (fun ls hl => ?_)
                          refine lv_goto (tgt := 40) hx hb dX5_spread_178 (by decide) ?_
                          exact ihL40 (z + 1) g1 FB (by first | omega | assumption | rfl | (simp_all; done)) (by first | exact hF1 | (rw [hte]; exact (farI_up hF1 hz81 (opn_t (i_nle c68)) (by rw [← hte]; exact c157)).1)) (fun hg => by first | exact absurd hg (by decide) | exact ⟨(hs1 hg).1, fun k hk ho => by rcases Nat.lt_or_ge k z with h9 | h9; exact (hs1 hg).2 k h9 ho; rw [show k = z by omega] at ho ⊢; first | (rw [opn_f (i_nlt c68)] at ho; cases ho; done) | (rw [← hte]; omega)⟩) (by first | exact hg1 | (intro _; have h9 := (farI_up hF1 hz81 (opn_t (i_nle c68)) (by rw [← hte]; exact c157)).2; rw [← hte] at h9; cases hgc : g1 with | false => (have h8 := (hs1 hgc).1; omega) | true => (have h8 := hg1 hgc; omega))) (by omega) _ _ hP hD hS _ (lv_sub hl [0, 1, 2, 3, 4, 5] rfl)
                      exact L67  _ _ hP hD hS _ (lv_sub hl [0, 1, 2, 3, 4, 5] rfl)
                    · refine lv_aload_n hx hb dX5_spread_51 rfl (lv_at hl 2 rfl) ?_
                      refine lv_iload hx hb dX5_spread_52 (lv_at hl 0 rfl) ?_
                      refine lv_iconst (v := nI 2) hx hb dX5_spread_54 (by decide +kernel) ?_
                      refine e_callV (As := [.int (nI z), .int (nI 2)]) (rest := []) ⟨hx, hb, hml, hown, hts⟩ hK hP hD hS hA hl.1 (c_X5_charted l E _ o ad th gr co sd tk wm st mo nx lb FB z 2 (by first | omega | assumption | rfl | (simp_all; done)) (by first | omega | assumption | rfl | (simp_all; done))) (cwV 2 hts gX5_spread_X5_charted rfl rfl rfl (by decide +kernel) ⟨Nat.le_of_ble_eq_true rfl, Nat.le_of_ble_eq_true rfl⟩) [0, 1, 2, 3, 4, 5, 6, 7, 8, 9] [] rfl rfl rfl rfl (by decide) (q0 := 0) (ci := 5) rfl rfl rfl rfl (Nat.le_of_ble_eq_true rfl) dX5_spread_55 ⟨Nat.le_of_ble_eq_true rfl, Nat.le_of_ble_eq_true rfl⟩ (fun u_23 H locs hu_24 hsz1 hP hD hS => ?_)
                      have hP : va_P E.1 vwCl (wMo E o ad th gr co sd tk wm st (nI mo) nx lb FB) H := hP.sub [0, 1, 2, 3, 4, 5, 6, 7, 8, 9] rfl
                      have hD : va_D A (wMo E o ad th gr co sd tk wm st (nI mo) nx lb FB) := hD.sub [0, 1, 2, 3, 4, 5, 6, 7, 8, 9] (by decide) rfl
                      refine W.eq (g2 := F0 m 58 ls [.int (chA sd tk (nI mo) z 2)]) rfl ?_
                      refine e_top (y := (if v = true then chSafe sd tk (nI mo) else dep gr co) z) (by first | (rw [if_pos c48]; rfl) | (rw [if_neg (show ¬ v = true by rw [c48]; decide)])) ?_
                      refine lv_goto (tgt := 67) hx hb dX5_spread_58 (by decide) ?_
                      have L67 : ∀ (H : Heap) (locs : List Loc), va_P E.1 vwCl (wMo E o ad th gr co sd tk wm st (nI mo) nx lb FB) H → va_D A (wMo E o ad th gr co sd tk wm st (nI mo) nx lb FB) → va_S A s.heap H locs → ∀ ls : Array Slot, lv_has ls 8 [(5, .int (nI z)), (4, .int (b2i g1)), (0, .ref o), (1, .int dr), (2, .int (b2i v)), (3, .int (b2i v2))] → W p l e rm_X5_spread s m args below meth cd H locs 0 0 Q (F0 m 67 ls [.int ((if v = true then chSafe sd tk (nI mo) else dep gr co) z)]) := by
                        intro  H locs hP hD hS ls hl
                        have hz81 : z < 81 := by assumption
                        refine lv_iload_n hx hb dX5_spread_67 rfl (lv_at hl 3 rfl) ?_
                        refine lv_icmp_gt (tgt := 74) hx hb dX5_spread_68 (by decide) (fun c68 => ?_) (fun c68 => ?_)
                        · refine lv_iload hx hb dX5_spread_74 (lv_at hl 0 rfl) ?_
                          refine lv_bipush (v := nI 9) hx hb dX5_spread_76 (by decide +kernel) ?_
                          refine lv_idiv hx hb dX5_spread_78 (by decide +kernel) ?_
                          refine e_top (pk_div (by omega) (by omega) (by omega)) ?_
                          refine lv_iload_n hx hb dX5_spread_79 rfl (lv_at hl 5 rfl) ?_
                          refine b_if_eq (x := v2) (tgt := 88) hx hb dX5_spread_80 (by decide) (fun c80 => ?_) (fun c80 => ?_)
                          · refine lv_iconst (v := nI 0) hx hb dX5_spread_88 (by decide +kernel) ?_
                            refine n_icmp_ne (x := z / 9) (y := 0) (by omega) (by omega) (tgt := 96) hx hb dX5_spread_89 (by decide) (fun c89 => ?_) (fun c89 => ?_)
                            · refine lv_sipush (v := nI 999) hx hb dX5_spread_96 (by decide +kernel) ?_
                              refine e_top (y := nI (src0 v2 z)) (congrArg nI (by first | exact (src0_1 c80 c89).symm | exact (src0_2 c80 c89).symm | exact (src0_3 c80 c89).symm | exact (src0_4 c80 c89).symm)) ?_
                              have L99 : ∀ (H : Heap) (locs : List Loc), va_P E.1 vwCl (wMo E o ad th gr co sd tk wm st (nI mo) nx lb FB) H → va_D A (wMo E o ad th gr co sd tk wm st (nI mo) nx lb FB) → va_S A s.heap H locs → ∀ ls : Array Slot, lv_has ls 8 [(5, .int (nI z)), (4, .int (b2i g1)), (0, .ref o), (1, .int dr), (2, .int (b2i v)), (3, .int (b2i v2))] → W p l e rm_X5_spread s m args below meth cd H locs 0 0 Q (F0 m 99 ls [.int (nI (src0 v2 z))]) := by
                                intro  H locs hP hD hS ls hl
                                refine lv_istore (lv' := [(6, .int (nI (src0 v2 z))), (5, .int (nI z)), (4, .int (b2i g1)), (0, .ref o), (1, .int dr), (2, .int (b2i v)), (3, .int (b2i v2))]) hx hb dX5_spread_99 hl (by decide) rfl (fun ls hl => ?_)
                                refine lv_iconst (v := nI 0) hx hb dX5_spread_101 (by decide +kernel) ?_
                                refine lv_istore (lv' := [(7, .int (nI 0)), (6, .int (nI (src0 v2 z))), (5, .int (nI z)), (4, .int (b2i g1)), (0, .ref o), (1, .int dr), (2, .int (b2i v)), (3, .int (b2i v2))]) hx hb dX5_spread_102 hl (by decide) rfl (fun ls hl => ?_)
                                have L104 : ∀ (fuel : Nat) (t : Nat) (y : Nat) (hy : y ≤ 4) (ht : t = itsF FB (src0 v2 z) z y) (hfuel : 4 - y < fuel) (H : Heap) (locs : List Loc), va_P E.1 vwCl (wMo E o ad th gr co sd tk wm st (nI mo) nx lb FB) H → va_D A (wMo E o ad th gr co sd tk wm st (nI mo) nx lb FB) → va_S A s.heap H locs → ∀ ls : Array Slot, lv_has ls 8 [(7, .int (nI y)), (6, .int (nI t)), (5, .int (nI z)), (4, .int (b2i g1)), (0, .ref o), (1, .int dr), (2, .int (b2i v)), (3, .int (b2i v2))] → W p l e rm_X5_spread s m args below meth cd H locs 0 0 Q (F0 m 104 ls []) := by
                                  intro fuel
                                  induction fuel with
                                  | zero => intros; omega
                                  | succ fuel ihL104 =>
                                    intro t y hy ht hfuel H locs hP hD hS ls hl
                                    have hs09 : src0 v2 z ≤ 999 := by unfold src0; by_cases h9 : srcB v2 z = true; rw [if_pos h9]; decide; rw [if_neg h9]; decide
                                    have hit := itsF_le (F := FB) (s0 := src0 v2 z) (k := z) y
                                    have hFz := (hF1 z hz81).2.1
                                    refine lv_iload hx hb dX5_spread_104 (lv_at hl 0 rfl) ?_
                                    refine lv_iconst (v := nI 4) hx hb dX5_spread_106 (by decide +kernel) ?_
                                    refine n_icmp_ge (x := y) (y := 4) (by omega) (by omega) (tgt := 148) hx hb dX5_spread_107 (by decide) (fun c107 => ?_) (fun c107 => ?_)
                                    · have hte : t = itsF FB (src0 v2 z) z 4 := by rw [ht, show y = 4 by omega]
                                      refine lv_iload hx hb dX5_spread_148 (lv_at hl 1 rfl) ?_
                                      refine lv_aload_n hx hb dX5_spread_150 rfl (lv_at hl 4 rfl) ?_
                                      refine va_get (D := E.1) (ci := 5) (v := .ref (ad 8)) (C := RX5) (T := TX5) (N := 11) hx hb hts hin5 hown hK.1 hP 0 rfl rfl 10 (by decide) lk34 (fun _ h9 => h9) rfl dX5_spread_151 ?_
                                      refine lv_iload hx hb dX5_spread_154 (lv_at hl 2 rfl) ?_
                                      refine e_nald hK hP 9 rfl z (by omega) (by decide) hx hb dX5_spread_156 ?_
                                      refine n_icmp_lt (x := t) (y := FB z) (by omega) (by omega) (tgt := 163) hx hb dX5_spread_157 (by decide) (fun c157 => ?_) (fun c157 => ?_)
                                      · refine lv_aload_n hx hb dX5_spread_163 rfl (lv_at hl 4 rfl) ?_
                                        refine va_get (D := E.1) (ci := 5) (v := .ref (ad 8)) (C := RX5) (T := TX5) (N := 11) hx hb hts hin5 hown hK.1 hP 0 rfl rfl 10 (by decide) lk34 (fun _ h9 => h9) rfl dX5_spread_164 ?_
                                        refine lv_iload hx hb dX5_spread_167 (lv_at hl 2 rfl) ?_
                                        refine lv_iload hx hb dX5_spread_169 (lv_at hl 1 rfl) ?_
                                        refine e_nast (x := t) hK hP hD hS 9 rfl z (by omega) (by decide) hx hb dX5_spread_171 (fun H locs hP hD hS => ?_)
                                        have hP : va_P E.1 vwCl (wMo E o ad th gr co sd tk wm st (nI mo) nx lb (va_up FB z t)) H := hP
                                        have hD : va_D A (wMo E o ad th gr co sd tk wm st (nI mo) nx lb (va_up FB z t)) := hD
                                        refine lv_iconst (v := nI 1) hx hb dX5_spread_172 (by decide +kernel) ?_
                                        refine lv_istore (lv' := [(4, .int (nI 1)), (7, .int (nI y)), (6, .int (nI t)), (5, .int (nI z)), (0, .ref o), (1, .int dr), (2, .int (b2i v)), (3, .int (b2i v2))]) hx hb dX5_spread_173 hl (by decide) rfl (fun ls hl => ?_)
                                        refine lv_iinc (v := nI (z + 1)) (lv' := [(5, .int (nI (z + 1))), (4, .int (nI 1)), (7, .int (nI y)), (6, .int (nI t)), (0, .ref o), (1, .int dr), (2, .int (b2i v)), (3, .int (b2i v2))]) hx hb dX5_spread_175 hl (k := 3) rfl (nI_add z 1) (by decide) rfl (fun ls hl => ?_)
                                        refine lv_goto (tgt := 40) hx hb dX5_spread_178 (by decide) ?_
                                        exact ihL40 (z + 1) true (va_up FB z t) (by first | omega | assumption | rfl | (simp_all; done)) (by first | exact hF1 | (rw [hte]; exact (farI_up hF1 hz81 (opn_t (i_nle c68)) (by rw [← hte]; exact c157)).1)) (fun hg => by first | exact absurd hg (by decide) | exact ⟨(hs1 hg).1, fun k hk ho => by rcases Nat.lt_or_ge k z with h9 | h9; exact (hs1 hg).2 k h9 ho; rw [show k = z by omega] at ho ⊢; first | (rw [opn_f (i_nlt c68)] at ho; cases ho; done) | (rw [← hte]; omega)⟩) (by first | exact hg1 | (intro _; have h9 := (farI_up hF1 hz81 (opn_t (i_nle c68)) (by rw [← hte]; exact c157)).2; rw [← hte] at h9; cases hgc : g1 with | false => (have h8 := (hs1 hgc).1; omega) | true => (have h8 := hg1 hgc; omega))) (by omega) _ _ hP hD hS _ (lv_sub hl [0, 1, 4, 5, 6, 7] rfl)
                                      · refine lv_goto (tgt := 175) hx hb dX5_spread_160 (by decide) ?_
                                        refine lv_iinc (v := nI (z + 1)) (lv' := [(5, .int (nI (z + 1))), (7, .int (nI y)), (6, .int (nI t)), (4, .int (b2i g1)), (0, .ref o), (1, .int dr), (2, .int (b2i v)), (3, .int (b2i v2))]) hx hb dX5_spread_175 hl (k := 2) rfl (nI_add z 1) (by decide) rfl (fun ls hl => ?_)
                                        refine lv_goto (tgt := 40) hx hb dX5_spread_178 (by decide) ?_
                                        exact ihL40 (z + 1) g1 FB (by first | omega | assumption | rfl | (simp_all; done)) (by first | exact hF1 | (rw [hte]; exact (farI_up hF1 hz81 (opn_t (i_nle c68)) (by rw [← hte]; exact c157)).1)) (fun hg => by first | exact absurd hg (by decide) | exact ⟨(hs1 hg).1, fun k hk ho => by rcases Nat.lt_or_ge k z with h9 | h9; exact (hs1 hg).2 k h9 ho; rw [show k = z by omega] at ho ⊢; first | (rw [opn_f (i_nlt c68)] at ho; cases ho; done) | (rw [← hte]; omega)⟩) (by first | exact hg1 | (intro _; have h9 := (farI_up hF1 hz81 (opn_t (i_nle c68)) (by rw [← hte]; exact c157)).2; rw [← hte] at h9; cases hgc : g1 with | false => (have h8 := (hs1 hgc).1; omega) | true => (have h8 := hg1 hgc; omega))) (by omega) _ _ hP hD hS _ (lv_sub hl [0, 3, 4, 5, 6, 7] rfl)
                                    · refine lv_iload hx hb dX5_spread_110 (lv_at hl 2 rfl) ?_
                                      refine lv_iload hx hb dX5_spread_112 (lv_at hl 0 rfl) ?_
                                      refine e_callS (As := [.int (nI z), .int (nI y)]) (rest := []) ⟨hx, hb, hml, hown, hts⟩ hK hP hD hS hA hl.1 (c_X5_beside l E _ z y (by first | omega | assumption | rfl | (simp_all; done)) (by first | omega | assumption | rfl | (simp_all; done))) (va_cwS 2 hts gX5_spread_X5_beside rfl rfl rfl (by decide +kernel) ⟨Nat.le_of_ble_eq_true rfl, Nat.le_of_ble_eq_true rfl⟩) [] [0, 1, 2, 3, 4, 5, 6, 7, 8, 9] rfl rfl rfl rfl (by decide) rfl rfl (Nat.le_of_ble_eq_true rfl) dX5_spread_114 ⟨Nat.le_of_ble_eq_true rfl, Nat.le_of_ble_eq_true rfl⟩ (fun u_25 H locs hu_26 hsz1 hP hD hS => ?_)
                                      have hP : va_P E.1 vwCl (wMo E o ad th gr co sd tk wm st (nI mo) nx lb FB) H := hP.sub [0, 1, 2, 3, 4, 5, 6, 7, 8, 9] rfl
                                      have hD : va_D A (wMo E o ad th gr co sd tk wm st (nI mo) nx lb FB) := hD.sub [0, 1, 2, 3, 4, 5, 6, 7, 8, 9] (by decide) rfl
                                      refine W.eq (g2 := F0 m 117 ls [.int (oI (nb z y))]) rfl ?_
                                      refine lv_iconst (v := (-1)) hx hb dX5_spread_117 (by decide +kernel) ?_
                                      refine o_icmp_eq (x := nb z y) (nb_ob hz81) (tgt := 142) hx hb dX5_spread_118 (by decide) (fun c118 => ?_) (fun qn c118 => ?_)
                                      · refine lv_iinc (v := nI (y + 1)) (lv' := [(7, .int (nI (y + 1))), (6, .int (nI t)), (5, .int (nI z)), (4, .int (b2i g1)), (0, .ref o), (1, .int dr), (2, .int (b2i v)), (3, .int (b2i v2))]) hx hb dX5_spread_142 hl (k := 0) rfl (nI_add y 1) (by decide) rfl (fun ls hl => ?_)
                                        refine lv_goto (tgt := 104) hx hb dX5_spread_145 (by decide) ?_
                                        exact ihL104 t (y + 1) (by first | omega | assumption | rfl | (simp_all; done)) (by first | (rw [itsF_none c118]; exact ht) | (rw [itsF_some c118, ← ht])) (by omega) _ _ hP hD hS _ (lv_sub hl [0, 1, 2, 3, 4, 5, 6, 7] rfl)
                                      · have hq_ : qn < 81 := nb_lt hz81 c118
                                        have hFq := (hF1 qn hq_).2.1
                                        refine lv_iload hx hb dX5_spread_121 (lv_at hl 1 rfl) ?_
                                        refine lv_aload_n hx hb dX5_spread_123 rfl (lv_at hl 4 rfl) ?_
                                        refine va_get (D := E.1) (ci := 5) (v := .ref (ad 8)) (C := RX5) (T := TX5) (N := 11) hx hb hts hin5 hown hK.1 hP 0 rfl rfl 10 (by decide) lk34 (fun _ h9 => h9) rfl dX5_spread_124 ?_
                                        refine lv_iload hx hb dX5_spread_127 (lv_at hl 2 rfl) ?_
                                        refine lv_iload hx hb dX5_spread_129 (lv_at hl 0 rfl) ?_
                                        refine e_callS (As := [.int (nI z), .int (nI y)]) (rest := [.ref (ad 8), .int (nI t)]) ⟨hx, hb, hml, hown, hts⟩ hK hP hD hS hA hl.1 (c_X5_beside l E _ z y (by first | omega | assumption | rfl | (simp_all; done)) (by first | omega | assumption | rfl | (simp_all; done))) (va_cwS 2 hts gX5_spread_X5_beside rfl rfl rfl (by decide +kernel) ⟨Nat.le_of_ble_eq_true rfl, Nat.le_of_ble_eq_true rfl⟩) [] [0, 1, 2, 3, 4, 5, 6, 7, 8, 9] rfl rfl rfl rfl (by decide) rfl rfl (Nat.le_of_ble_eq_true rfl) dX5_spread_131 ⟨Nat.le_of_ble_eq_true rfl, Nat.le_of_ble_eq_true rfl⟩ (fun u_28 H locs hu_29 hsz1 hP hD hS => ?_)
                                        have hP : va_P E.1 vwCl (wMo E o ad th gr co sd tk wm st (nI mo) nx lb FB) H := hP.sub [0, 1, 2, 3, 4, 5, 6, 7, 8, 9] rfl
                                        have hD : va_D A (wMo E o ad th gr co sd tk wm st (nI mo) nx lb FB) := hD.sub [0, 1, 2, 3, 4, 5, 6, 7, 8, 9] (by decide) rfl
                                        refine W.eq (g2 := F0 m 134 ls [.int (oI (nb z y)), .ref (ad 8), .int (nI t)]) rfl ?_
                                        refine e_top (show oI (nb z y) = nI qn by rw [c118]; rfl) ?_
                                        refine e_nald hK hP 9 rfl qn (by omega) (by decide) hx hb dX5_spread_134 ?_
                                        refine lv_iconst (v := nI 1) hx hb dX5_spread_135 (by decide +kernel) ?_
                                        refine lv_iadd hx hb dX5_spread_136 ?_
                                        refine e_top (nI_add _ _) ?_
                                        refine va_mmin hx hb (by rw [hml]; exact hl.1.symm) hown haml66 hamsmin hamini hamcmin (Nat.le_of_ble_eq_true rfl) (Nat.le_of_ble_eq_true rfl) (Nat.le_of_ble_eq_true rfl) (Nat.le_of_ble_eq_true rfl) dX5_spread_137 ?_
                                        refine e_top (y := iMin (nI t) (nI ((FB qn) + 1))) rfl ?_
                                        refine e_top (y := nI (if (FB qn) + 1 < t then (FB qn) + 1 else t)) (nI_min (by omega) (by omega)) ?_
                                        refine lv_istore (lv' := [(6, .int (nI (if (FB qn) + 1 < t then (FB qn) + 1 else t))), (7, .int (nI y)), (5, .int (nI z)), (4, .int (b2i g1)), (0, .ref o), (1, .int dr), (2, .int (b2i v)), (3, .int (b2i v2))]) hx hb dX5_spread_140 hl (by decide) rfl (fun ls hl => ?_)
                                        refine lv_iinc (v := nI (y + 1)) (lv' := [(7, .int (nI (y + 1))), (6, .int (nI (if (FB qn) + 1 < t then (FB qn) + 1 else t))), (5, .int (nI z)), (4, .int (b2i g1)), (0, .ref o), (1, .int dr), (2, .int (b2i v)), (3, .int (b2i v2))]) hx hb dX5_spread_142 hl (k := 1) rfl (nI_add y 1) (by decide) rfl (fun ls hl => ?_)
                                        refine lv_goto (tgt := 104) hx hb dX5_spread_145 (by decide) ?_
                                        exact ihL104 (if (FB qn) + 1 < t then (FB qn) + 1 else t) (y + 1) (by first | omega | assumption | rfl | (simp_all; done)) (by first | (rw [itsF_none c118]; exact ht) | (rw [itsF_some c118, ← ht])) (by omega) _ _ hP hD hS _ (lv_sub hl [0, 1, 2, 3, 4, 5, 6, 7] rfl)
                                exact L104 (4 - 0 + 1) (src0 v2 z) 0 (by first | omega | assumption | rfl | (simp_all; done)) (rfl) (Nat.lt_succ_self _) _ _ hP hD hS _ (lv_sub hl [0, 1, 2, 3, 4, 5, 6, 7] rfl)
                              exact L99  _ _ hP hD hS _ (lv_sub hl [0, 1, 2, 3, 4, 5] rfl)
                            · refine lv_iconst (v := nI 1) hx hb dX5_spread_92 (by decide +kernel) ?_
                              refine e_top (y := nI (src0 v2 z)) (congrArg nI (by first | exact (src0_1 c80 c89).symm | exact (src0_2 c80 c89).symm | exact (src0_3 c80 c89).symm | exact (src0_4 c80 c89).symm)) ?_
                              refine lv_goto (tgt := 99) hx hb dX5_spread_93 (by decide) ?_
                              have L99 : ∀ (H : Heap) (locs : List Loc), va_P E.1 vwCl (wMo E o ad th gr co sd tk wm st (nI mo) nx lb FB) H → va_D A (wMo E o ad th gr co sd tk wm st (nI mo) nx lb FB) → va_S A s.heap H locs → ∀ ls : Array Slot, lv_has ls 8 [(5, .int (nI z)), (4, .int (b2i g1)), (0, .ref o), (1, .int dr), (2, .int (b2i v)), (3, .int (b2i v2))] → W p l e rm_X5_spread s m args below meth cd H locs 0 0 Q (F0 m 99 ls [.int (nI (src0 v2 z))]) := by
                                intro  H locs hP hD hS ls hl
                                refine lv_istore (lv' := [(6, .int (nI (src0 v2 z))), (5, .int (nI z)), (4, .int (b2i g1)), (0, .ref o), (1, .int dr), (2, .int (b2i v)), (3, .int (b2i v2))]) hx hb dX5_spread_99 hl (by decide) rfl (fun ls hl => ?_)
                                refine lv_iconst (v := nI 0) hx hb dX5_spread_101 (by decide +kernel) ?_
                                refine lv_istore (lv' := [(7, .int (nI 0)), (6, .int (nI (src0 v2 z))), (5, .int (nI z)), (4, .int (b2i g1)), (0, .ref o), (1, .int dr), (2, .int (b2i v)), (3, .int (b2i v2))]) hx hb dX5_spread_102 hl (by decide) rfl (fun ls hl => ?_)
                                have L104 : ∀ (fuel : Nat) (t : Nat) (y : Nat) (hy : y ≤ 4) (ht : t = itsF FB (src0 v2 z) z y) (hfuel : 4 - y < fuel) (H : Heap) (locs : List Loc), va_P E.1 vwCl (wMo E o ad th gr co sd tk wm st (nI mo) nx lb FB) H → va_D A (wMo E o ad th gr co sd tk wm st (nI mo) nx lb FB) → va_S A s.heap H locs → ∀ ls : Array Slot, lv_has ls 8 [(7, .int (nI y)), (6, .int (nI t)), (5, .int (nI z)), (4, .int (b2i g1)), (0, .ref o), (1, .int dr), (2, .int (b2i v)), (3, .int (b2i v2))] → W p l e rm_X5_spread s m args below meth cd H locs 0 0 Q (F0 m 104 ls []) := by
                                  intro fuel
                                  induction fuel with
                                  | zero => intros; omega
                                  | succ fuel ihL104 =>
                                    intro t y hy ht hfuel H locs hP hD hS ls hl
                                    have hs09 : src0 v2 z ≤ 999 := by unfold src0; by_cases h9 : srcB v2 z = true; rw [if_pos h9]; decide; rw [if_neg h9]; decide
                                    have hit := itsF_le (F := FB) (s0 := src0 v2 z) (k := z) y
                                    have hFz := (hF1 z hz81).2.1
                                    refine lv_iload hx hb dX5_spread_104 (lv_at hl 0 rfl) ?_
                                    refine lv_iconst (v := nI 4) hx hb dX5_spread_106 (by decide +kernel) ?_
                                    refine n_icmp_ge (x := y) (y := 4) (by omega) (by omega) (tgt := 148) hx hb dX5_spread_107 (by decide) (fun c107 => ?_) (fun c107 => ?_)
                                    · have hte : t = itsF FB (src0 v2 z) z 4 := by rw [ht, show y = 4 by omega]
                                      refine lv_iload hx hb dX5_spread_148 (lv_at hl 1 rfl) ?_
                                      refine lv_aload_n hx hb dX5_spread_150 rfl (lv_at hl 4 rfl) ?_
                                      refine va_get (D := E.1) (ci := 5) (v := .ref (ad 8)) (C := RX5) (T := TX5) (N := 11) hx hb hts hin5 hown hK.1 hP 0 rfl rfl 10 (by decide) lk34 (fun _ h9 => h9) rfl dX5_spread_151 ?_
                                      refine lv_iload hx hb dX5_spread_154 (lv_at hl 2 rfl) ?_
                                      refine e_nald hK hP 9 rfl z (by omega) (by decide) hx hb dX5_spread_156 ?_
                                      refine n_icmp_lt (x := t) (y := FB z) (by omega) (by omega) (tgt := 163) hx hb dX5_spread_157 (by decide) (fun c157 => ?_) (fun c157 => ?_)
                                      · refine lv_aload_n hx hb dX5_spread_163 rfl (lv_at hl 4 rfl) ?_
                                        refine va_get (D := E.1) (ci := 5) (v := .ref (ad 8)) (C := RX5) (T := TX5) (N := 11) hx hb hts hin5 hown hK.1 hP 0 rfl rfl 10 (by decide) lk34 (fun _ h9 => h9) rfl dX5_spread_164 ?_
                                        refine lv_iload hx hb dX5_spread_167 (lv_at hl 2 rfl) ?_
                                        refine lv_iload hx hb dX5_spread_169 (lv_at hl 1 rfl) ?_
                                        refine e_nast (x := t) hK hP hD hS 9 rfl z (by omega) (by decide) hx hb dX5_spread_171 (fun H locs hP hD hS => ?_)
                                        have hP : va_P E.1 vwCl (wMo E o ad th gr co sd tk wm st (nI mo) nx lb (va_up FB z t)) H := hP
                                        have hD : va_D A (wMo E o ad th gr co sd tk wm st (nI mo) nx lb (va_up FB z t)) := hD
                                        refine lv_iconst (v := nI 1) hx hb dX5_spread_172 (by decide +kernel) ?_
                                        refine lv_istore (lv' := [(4, .int (nI 1)), (7, .int (nI y)), (6, .int (nI t)), (5, .int (nI z)), (0, .ref o), (1, .int dr), (2, .int (b2i v)), (3, .int (b2i v2))]) hx hb dX5_spread_173 hl (by decide) rfl (fun ls hl => ?_)
                                        refine lv_iinc (v := nI (z + 1)) (lv' := [(5, .int (nI (z + 1))), (4, .int (nI 1)), (7, .int (nI y)), (6, .int (nI t)), (0, .ref o), (1, .int dr), (2, .int (b2i v)), (3, .int (b2i v2))]) hx hb dX5_spread_175 hl (k := 3) rfl (nI_add z 1) (by decide) rfl (fun ls hl => ?_)
                                        refine lv_goto (tgt := 40) hx hb dX5_spread_178 (by decide) ?_
                                        exact ihL40 (z + 1) true (va_up FB z t) (by first | omega | assumption | rfl | (simp_all; done)) (by first | exact hF1 | (rw [hte]; exact (farI_up hF1 hz81 (opn_t (i_nle c68)) (by rw [← hte]; exact c157)).1)) (fun hg => by first | exact absurd hg (by decide) | exact ⟨(hs1 hg).1, fun k hk ho => by rcases Nat.lt_or_ge k z with h9 | h9; exact (hs1 hg).2 k h9 ho; rw [show k = z by omega] at ho ⊢; first | (rw [opn_f (i_nlt c68)] at ho; cases ho; done) | (rw [← hte]; omega)⟩) (by first | exact hg1 | (intro _; have h9 := (farI_up hF1 hz81 (opn_t (i_nle c68)) (by rw [← hte]; exact c157)).2; rw [← hte] at h9; cases hgc : g1 with | false => (have h8 := (hs1 hgc).1; omega) | true => (have h8 := hg1 hgc; omega))) (by omega) _ _ hP hD hS _ (lv_sub hl [0, 1, 4, 5, 6, 7] rfl)
                                      · refine lv_goto (tgt := 175) hx hb dX5_spread_160 (by decide) ?_
                                        refine lv_iinc (v := nI (z + 1)) (lv' := [(5, .int (nI (z + 1))), (7, .int (nI y)), (6, .int (nI t)), (4, .int (b2i g1)), (0, .ref o), (1, .int dr), (2, .int (b2i v)), (3, .int (b2i v2))]) hx hb dX5_spread_175 hl (k := 2) rfl (nI_add z 1) (by decide) rfl (fun ls hl => ?_)
                                        refine lv_goto (tgt := 40) hx hb dX5_spread_178 (by decide) ?_
                                        exact ihL40 (z + 1) g1 FB (by first | omega | assumption | rfl | (simp_all; done)) (by first | exact hF1 | (rw [hte]; exact (farI_up hF1 hz81 (opn_t (i_nle c68)) (by rw [← hte]; exact c157)).1)) (fun hg => by first | exact absurd hg (by decide) | exact ⟨(hs1 hg).1, fun k hk ho => by rcases Nat.lt_or_ge k z with h9 | h9; exact (hs1 hg).2 k h9 ho; rw [show k = z by omega] at ho ⊢; first | (rw [opn_f (i_nlt c68)] at ho; cases ho; done) | (rw [← hte]; omega)⟩) (by first | exact hg1 | (intro _; have h9 := (farI_up hF1 hz81 (opn_t (i_nle c68)) (by rw [← hte]; exact c157)).2; rw [← hte] at h9; cases hgc : g1 with | false => (have h8 := (hs1 hgc).1; omega) | true => (have h8 := hg1 hgc; omega))) (by omega) _ _ hP hD hS _ (lv_sub hl [0, 3, 4, 5, 6, 7] rfl)
                                    · refine lv_iload hx hb dX5_spread_110 (lv_at hl 2 rfl) ?_
                                      refine lv_iload hx hb dX5_spread_112 (lv_at hl 0 rfl) ?_
                                      refine e_callS (As := [.int (nI z), .int (nI y)]) (rest := []) ⟨hx, hb, hml, hown, hts⟩ hK hP hD hS hA hl.1 (c_X5_beside l E _ z y (by first | omega | assumption | rfl | (simp_all; done)) (by first | omega | assumption | rfl | (simp_all; done))) (va_cwS 2 hts gX5_spread_X5_beside rfl rfl rfl (by decide +kernel) ⟨Nat.le_of_ble_eq_true rfl, Nat.le_of_ble_eq_true rfl⟩) [] [0, 1, 2, 3, 4, 5, 6, 7, 8, 9] rfl rfl rfl rfl (by decide) rfl rfl (Nat.le_of_ble_eq_true rfl) dX5_spread_114 ⟨Nat.le_of_ble_eq_true rfl, Nat.le_of_ble_eq_true rfl⟩ (fun u_30 H locs hu_31 hsz1 hP hD hS => ?_)
                                      have hP : va_P E.1 vwCl (wMo E o ad th gr co sd tk wm st (nI mo) nx lb FB) H := hP.sub [0, 1, 2, 3, 4, 5, 6, 7, 8, 9] rfl
                                      have hD : va_D A (wMo E o ad th gr co sd tk wm st (nI mo) nx lb FB) := hD.sub [0, 1, 2, 3, 4, 5, 6, 7, 8, 9] (by decide) rfl
                                      refine W.eq (g2 := F0 m 117 ls [.int (oI (nb z y))]) rfl ?_
                                      refine lv_iconst (v := (-1)) hx hb dX5_spread_117 (by decide +kernel) ?_
                                      refine o_icmp_eq (x := nb z y) (nb_ob hz81) (tgt := 142) hx hb dX5_spread_118 (by decide) (fun c118 => ?_) (fun qn c118 => ?_)
                                      · refine lv_iinc (v := nI (y + 1)) (lv' := [(7, .int (nI (y + 1))), (6, .int (nI t)), (5, .int (nI z)), (4, .int (b2i g1)), (0, .ref o), (1, .int dr), (2, .int (b2i v)), (3, .int (b2i v2))]) hx hb dX5_spread_142 hl (k := 0) rfl (nI_add y 1) (by decide) rfl (fun ls hl => ?_)
                                        refine lv_goto (tgt := 104) hx hb dX5_spread_145 (by decide) ?_
                                        exact ihL104 t (y + 1) (by first | omega | assumption | rfl | (simp_all; done)) (by first | (rw [itsF_none c118]; exact ht) | (rw [itsF_some c118, ← ht])) (by omega) _ _ hP hD hS _ (lv_sub hl [0, 1, 2, 3, 4, 5, 6, 7] rfl)
                                      · have hq_ : qn < 81 := nb_lt hz81 c118
                                        have hFq := (hF1 qn hq_).2.1
                                        refine lv_iload hx hb dX5_spread_121 (lv_at hl 1 rfl) ?_
                                        refine lv_aload_n hx hb dX5_spread_123 rfl (lv_at hl 4 rfl) ?_
                                        refine va_get (D := E.1) (ci := 5) (v := .ref (ad 8)) (C := RX5) (T := TX5) (N := 11) hx hb hts hin5 hown hK.1 hP 0 rfl rfl 10 (by decide) lk34 (fun _ h9 => h9) rfl dX5_spread_124 ?_
                                        refine lv_iload hx hb dX5_spread_127 (lv_at hl 2 rfl) ?_
                                        refine lv_iload hx hb dX5_spread_129 (lv_at hl 0 rfl) ?_
                                        refine e_callS (As := [.int (nI z), .int (nI y)]) (rest := [.ref (ad 8), .int (nI t)]) ⟨hx, hb, hml, hown, hts⟩ hK hP hD hS hA hl.1 (c_X5_beside l E _ z y (by first | omega | assumption | rfl | (simp_all; done)) (by first | omega | assumption | rfl | (simp_all; done))) (va_cwS 2 hts gX5_spread_X5_beside rfl rfl rfl (by decide +kernel) ⟨Nat.le_of_ble_eq_true rfl, Nat.le_of_ble_eq_true rfl⟩) [] [0, 1, 2, 3, 4, 5, 6, 7, 8, 9] rfl rfl rfl rfl (by decide) rfl rfl (Nat.le_of_ble_eq_true rfl) dX5_spread_131 ⟨Nat.le_of_ble_eq_true rfl, Nat.le_of_ble_eq_true rfl⟩ (fun u_33 H locs hu_34 hsz1 hP hD hS => ?_)
                                        have hP : va_P E.1 vwCl (wMo E o ad th gr co sd tk wm st (nI mo) nx lb FB) H := hP.sub [0, 1, 2, 3, 4, 5, 6, 7, 8, 9] rfl
                                        have hD : va_D A (wMo E o ad th gr co sd tk wm st (nI mo) nx lb FB) := hD.sub [0, 1, 2, 3, 4, 5, 6, 7, 8, 9] (by decide) rfl
                                        refine W.eq (g2 := F0 m 134 ls [.int (oI (nb z y)), .ref (ad 8), .int (nI t)]) rfl ?_
                                        refine e_top (show oI (nb z y) = nI qn by rw [c118]; rfl) ?_
                                        refine e_nald hK hP 9 rfl qn (by omega) (by decide) hx hb dX5_spread_134 ?_
                                        refine lv_iconst (v := nI 1) hx hb dX5_spread_135 (by decide +kernel) ?_
                                        refine lv_iadd hx hb dX5_spread_136 ?_
                                        refine e_top (nI_add _ _) ?_
                                        refine va_mmin hx hb (by rw [hml]; exact hl.1.symm) hown haml66 hamsmin hamini hamcmin (Nat.le_of_ble_eq_true rfl) (Nat.le_of_ble_eq_true rfl) (Nat.le_of_ble_eq_true rfl) (Nat.le_of_ble_eq_true rfl) dX5_spread_137 ?_
                                        refine e_top (y := iMin (nI t) (nI ((FB qn) + 1))) rfl ?_
                                        refine e_top (y := nI (if (FB qn) + 1 < t then (FB qn) + 1 else t)) (nI_min (by omega) (by omega)) ?_
                                        refine lv_istore (lv' := [(6, .int (nI (if (FB qn) + 1 < t then (FB qn) + 1 else t))), (7, .int (nI y)), (5, .int (nI z)), (4, .int (b2i g1)), (0, .ref o), (1, .int dr), (2, .int (b2i v)), (3, .int (b2i v2))]) hx hb dX5_spread_140 hl (by decide) rfl (fun ls hl => ?_)
                                        refine lv_iinc (v := nI (y + 1)) (lv' := [(7, .int (nI (y + 1))), (6, .int (nI (if (FB qn) + 1 < t then (FB qn) + 1 else t))), (5, .int (nI z)), (4, .int (b2i g1)), (0, .ref o), (1, .int dr), (2, .int (b2i v)), (3, .int (b2i v2))]) hx hb dX5_spread_142 hl (k := 1) rfl (nI_add y 1) (by decide) rfl (fun ls hl => ?_)
                                        refine lv_goto (tgt := 104) hx hb dX5_spread_145 (by decide) ?_
                                        exact ihL104 (if (FB qn) + 1 < t then (FB qn) + 1 else t) (y + 1) (by first | omega | assumption | rfl | (simp_all; done)) (by first | (rw [itsF_none c118]; exact ht) | (rw [itsF_some c118, ← ht])) (by omega) _ _ hP hD hS _ (lv_sub hl [0, 1, 2, 3, 4, 5, 6, 7] rfl)
                                exact L104 (4 - 0 + 1) (src0 v2 z) 0 (by first | omega | assumption | rfl | (simp_all; done)) (rfl) (Nat.lt_succ_self _) _ _ hP hD hS _ (lv_sub hl [0, 1, 2, 3, 4, 5, 6, 7] rfl)
                              exact L99  _ _ hP hD hS _ (lv_sub hl [0, 1, 2, 3, 4, 5] rfl)
                          · refine lv_bipush (v := nI 8) hx hb dX5_spread_83 (by decide +kernel) ?_
                            refine lv_goto (tgt := 89) hx hb dX5_spread_85 (by decide) ?_
                            refine n_icmp_ne (x := z / 9) (y := 8) (by omega) (by omega) (tgt := 96) hx hb dX5_spread_89 (by decide) (fun c89 => ?_) (fun c89 => ?_)
                            · refine lv_sipush (v := nI 999) hx hb dX5_spread_96 (by decide +kernel) ?_
                              refine e_top (y := nI (src0 v2 z)) (congrArg nI (by first | exact (src0_1 c80 c89).symm | exact (src0_2 c80 c89).symm | exact (src0_3 c80 c89).symm | exact (src0_4 c80 c89).symm)) ?_
                              have L99 : ∀ (H : Heap) (locs : List Loc), va_P E.1 vwCl (wMo E o ad th gr co sd tk wm st (nI mo) nx lb FB) H → va_D A (wMo E o ad th gr co sd tk wm st (nI mo) nx lb FB) → va_S A s.heap H locs → ∀ ls : Array Slot, lv_has ls 8 [(5, .int (nI z)), (4, .int (b2i g1)), (0, .ref o), (1, .int dr), (2, .int (b2i v)), (3, .int (b2i v2))] → W p l e rm_X5_spread s m args below meth cd H locs 0 0 Q (F0 m 99 ls [.int (nI (src0 v2 z))]) := by
                                intro  H locs hP hD hS ls hl
                                refine lv_istore (lv' := [(6, .int (nI (src0 v2 z))), (5, .int (nI z)), (4, .int (b2i g1)), (0, .ref o), (1, .int dr), (2, .int (b2i v)), (3, .int (b2i v2))]) hx hb dX5_spread_99 hl (by decide) rfl (fun ls hl => ?_)
                                refine lv_iconst (v := nI 0) hx hb dX5_spread_101 (by decide +kernel) ?_
                                refine lv_istore (lv' := [(7, .int (nI 0)), (6, .int (nI (src0 v2 z))), (5, .int (nI z)), (4, .int (b2i g1)), (0, .ref o), (1, .int dr), (2, .int (b2i v)), (3, .int (b2i v2))]) hx hb dX5_spread_102 hl (by decide) rfl (fun ls hl => ?_)
                                have L104 : ∀ (fuel : Nat) (t : Nat) (y : Nat) (hy : y ≤ 4) (ht : t = itsF FB (src0 v2 z) z y) (hfuel : 4 - y < fuel) (H : Heap) (locs : List Loc), va_P E.1 vwCl (wMo E o ad th gr co sd tk wm st (nI mo) nx lb FB) H → va_D A (wMo E o ad th gr co sd tk wm st (nI mo) nx lb FB) → va_S A s.heap H locs → ∀ ls : Array Slot, lv_has ls 8 [(7, .int (nI y)), (6, .int (nI t)), (5, .int (nI z)), (4, .int (b2i g1)), (0, .ref o), (1, .int dr), (2, .int (b2i v)), (3, .int (b2i v2))] → W p l e rm_X5_spread s m args below meth cd H locs 0 0 Q (F0 m 104 ls []) := by
                                  intro fuel
                                  induction fuel with
                                  | zero => intros; omega
                                  | succ fuel ihL104 =>
                                    intro t y hy ht hfuel H locs hP hD hS ls hl
                                    have hs09 : src0 v2 z ≤ 999 := by unfold src0; by_cases h9 : srcB v2 z = true; rw [if_pos h9]; decide; rw [if_neg h9]; decide
                                    have hit := itsF_le (F := FB) (s0 := src0 v2 z) (k := z) y
                                    have hFz := (hF1 z hz81).2.1
                                    refine lv_iload hx hb dX5_spread_104 (lv_at hl 0 rfl) ?_
                                    refine lv_iconst (v := nI 4) hx hb dX5_spread_106 (by decide +kernel) ?_
                                    refine n_icmp_ge (x := y) (y := 4) (by omega) (by omega) (tgt := 148) hx hb dX5_spread_107 (by decide) (fun c107 => ?_) (fun c107 => ?_)
                                    · have hte : t = itsF FB (src0 v2 z) z 4 := by rw [ht, show y = 4 by omega]
                                      refine lv_iload hx hb dX5_spread_148 (lv_at hl 1 rfl) ?_
                                      refine lv_aload_n hx hb dX5_spread_150 rfl (lv_at hl 4 rfl) ?_
                                      refine va_get (D := E.1) (ci := 5) (v := .ref (ad 8)) (C := RX5) (T := TX5) (N := 11) hx hb hts hin5 hown hK.1 hP 0 rfl rfl 10 (by decide) lk34 (fun _ h9 => h9) rfl dX5_spread_151 ?_
                                      refine lv_iload hx hb dX5_spread_154 (lv_at hl 2 rfl) ?_
                                      refine e_nald hK hP 9 rfl z (by omega) (by decide) hx hb dX5_spread_156 ?_
                                      refine n_icmp_lt (x := t) (y := FB z) (by omega) (by omega) (tgt := 163) hx hb dX5_spread_157 (by decide) (fun c157 => ?_) (fun c157 => ?_)
                                      · refine lv_aload_n hx hb dX5_spread_163 rfl (lv_at hl 4 rfl) ?_
                                        refine va_get (D := E.1) (ci := 5) (v := .ref (ad 8)) (C := RX5) (T := TX5) (N := 11) hx hb hts hin5 hown hK.1 hP 0 rfl rfl 10 (by decide) lk34 (fun _ h9 => h9) rfl dX5_spread_164 ?_
                                        refine lv_iload hx hb dX5_spread_167 (lv_at hl 2 rfl) ?_
                                        refine lv_iload hx hb dX5_spread_169 (lv_at hl 1 rfl) ?_
                                        refine e_nast (x := t) hK hP hD hS 9 rfl z (by omega) (by decide) hx hb dX5_spread_171 (fun H locs hP hD hS => ?_)
                                        have hP : va_P E.1 vwCl (wMo E o ad th gr co sd tk wm st (nI mo) nx lb (va_up FB z t)) H := hP
                                        have hD : va_D A (wMo E o ad th gr co sd tk wm st (nI mo) nx lb (va_up FB z t)) := hD
                                        refine lv_iconst (v := nI 1) hx hb dX5_spread_172 (by decide +kernel) ?_
                                        refine lv_istore (lv' := [(4, .int (nI 1)), (7, .int (nI y)), (6, .int (nI t)), (5, .int (nI z)), (0, .ref o), (1, .int dr), (2, .int (b2i v)), (3, .int (b2i v2))]) hx hb dX5_spread_173 hl (by decide) rfl (fun ls hl => ?_)
                                        refine lv_iinc (v := nI (z + 1)) (lv' := [(5, .int (nI (z + 1))), (4, .int (nI 1)), (7, .int (nI y)), (6, .int (nI t)), (0, .ref o), (1, .int dr), (2, .int (b2i v)), (3, .int (b2i v2))]) hx hb dX5_spread_175 hl (k := 3) rfl (nI_add z 1) (by decide) rfl (fun ls hl => ?_)
                                        refine lv_goto (tgt := 40) hx hb dX5_spread_178 (by decide) ?_
                                        exact ihL40 (z + 1) true (va_up FB z t) (by first | omega | assumption | rfl | (simp_all; done)) (by first | exact hF1 | (rw [hte]; exact (farI_up hF1 hz81 (opn_t (i_nle c68)) (by rw [← hte]; exact c157)).1)) (fun hg => by first | exact absurd hg (by decide) | exact ⟨(hs1 hg).1, fun k hk ho => by rcases Nat.lt_or_ge k z with h9 | h9; exact (hs1 hg).2 k h9 ho; rw [show k = z by omega] at ho ⊢; first | (rw [opn_f (i_nlt c68)] at ho; cases ho; done) | (rw [← hte]; omega)⟩) (by first | exact hg1 | (intro _; have h9 := (farI_up hF1 hz81 (opn_t (i_nle c68)) (by rw [← hte]; exact c157)).2; rw [← hte] at h9; cases hgc : g1 with | false => (have h8 := (hs1 hgc).1; omega) | true => (have h8 := hg1 hgc; omega))) (by omega) _ _ hP hD hS _ (lv_sub hl [0, 1, 4, 5, 6, 7] rfl)
                                      · refine lv_goto (tgt := 175) hx hb dX5_spread_160 (by decide) ?_
                                        refine lv_iinc (v := nI (z + 1)) (lv' := [(5, .int (nI (z + 1))), (7, .int (nI y)), (6, .int (nI t)), (4, .int (b2i g1)), (0, .ref o), (1, .int dr), (2, .int (b2i v)), (3, .int (b2i v2))]) hx hb dX5_spread_175 hl (k := 2) rfl (nI_add z 1) (by decide) rfl (fun ls hl => ?_)
                                        refine lv_goto (tgt := 40) hx hb dX5_spread_178 (by decide) ?_
                                        exact ihL40 (z + 1) g1 FB (by first | omega | assumption | rfl | (simp_all; done)) (by first | exact hF1 | (rw [hte]; exact (farI_up hF1 hz81 (opn_t (i_nle c68)) (by rw [← hte]; exact c157)).1)) (fun hg => by first | exact absurd hg (by decide) | exact ⟨(hs1 hg).1, fun k hk ho => by rcases Nat.lt_or_ge k z with h9 | h9; exact (hs1 hg).2 k h9 ho; rw [show k = z by omega] at ho ⊢; first | (rw [opn_f (i_nlt c68)] at ho; cases ho; done) | (rw [← hte]; omega)⟩) (by first | exact hg1 | (intro _; have h9 := (farI_up hF1 hz81 (opn_t (i_nle c68)) (by rw [← hte]; exact c157)).2; rw [← hte] at h9; cases hgc : g1 with | false => (have h8 := (hs1 hgc).1; omega) | true => (have h8 := hg1 hgc; omega))) (by omega) _ _ hP hD hS _ (lv_sub hl [0, 3, 4, 5, 6, 7] rfl)
                                    · refine lv_iload hx hb dX5_spread_110 (lv_at hl 2 rfl) ?_
                                      refine lv_iload hx hb dX5_spread_112 (lv_at hl 0 rfl) ?_
                                      refine e_callS (As := [.int (nI z), .int (nI y)]) (rest := []) ⟨hx, hb, hml, hown, hts⟩ hK hP hD hS hA hl.1 (c_X5_beside l E _ z y (by first | omega | assumption | rfl | (simp_all; done)) (by first | omega | assumption | rfl | (simp_all; done))) (va_cwS 2 hts gX5_spread_X5_beside rfl rfl rfl (by decide +kernel) ⟨Nat.le_of_ble_eq_true rfl, Nat.le_of_ble_eq_true rfl⟩) [] [0, 1, 2, 3, 4, 5, 6, 7, 8, 9] rfl rfl rfl rfl (by decide) rfl rfl (Nat.le_of_ble_eq_true rfl) dX5_spread_114 ⟨Nat.le_of_ble_eq_true rfl, Nat.le_of_ble_eq_true rfl⟩ (fun u_35 H locs hu_36 hsz1 hP hD hS => ?_)
                                      have hP : va_P E.1 vwCl (wMo E o ad th gr co sd tk wm st (nI mo) nx lb FB) H := hP.sub [0, 1, 2, 3, 4, 5, 6, 7, 8, 9] rfl
                                      have hD : va_D A (wMo E o ad th gr co sd tk wm st (nI mo) nx lb FB) := hD.sub [0, 1, 2, 3, 4, 5, 6, 7, 8, 9] (by decide) rfl
                                      refine W.eq (g2 := F0 m 117 ls [.int (oI (nb z y))]) rfl ?_
                                      refine lv_iconst (v := (-1)) hx hb dX5_spread_117 (by decide +kernel) ?_
                                      refine o_icmp_eq (x := nb z y) (nb_ob hz81) (tgt := 142) hx hb dX5_spread_118 (by decide) (fun c118 => ?_) (fun qn c118 => ?_)
                                      · refine lv_iinc (v := nI (y + 1)) (lv' := [(7, .int (nI (y + 1))), (6, .int (nI t)), (5, .int (nI z)), (4, .int (b2i g1)), (0, .ref o), (1, .int dr), (2, .int (b2i v)), (3, .int (b2i v2))]) hx hb dX5_spread_142 hl (k := 0) rfl (nI_add y 1) (by decide) rfl (fun ls hl => ?_)
                                        refine lv_goto (tgt := 104) hx hb dX5_spread_145 (by decide) ?_
                                        exact ihL104 t (y + 1) (by first | omega | assumption | rfl | (simp_all; done)) (by first | (rw [itsF_none c118]; exact ht) | (rw [itsF_some c118, ← ht])) (by omega) _ _ hP hD hS _ (lv_sub hl [0, 1, 2, 3, 4, 5, 6, 7] rfl)
                                      · have hq_ : qn < 81 := nb_lt hz81 c118
                                        have hFq := (hF1 qn hq_).2.1
                                        refine lv_iload hx hb dX5_spread_121 (lv_at hl 1 rfl) ?_
                                        refine lv_aload_n hx hb dX5_spread_123 rfl (lv_at hl 4 rfl) ?_
                                        refine va_get (D := E.1) (ci := 5) (v := .ref (ad 8)) (C := RX5) (T := TX5) (N := 11) hx hb hts hin5 hown hK.1 hP 0 rfl rfl 10 (by decide) lk34 (fun _ h9 => h9) rfl dX5_spread_124 ?_
                                        refine lv_iload hx hb dX5_spread_127 (lv_at hl 2 rfl) ?_
                                        refine lv_iload hx hb dX5_spread_129 (lv_at hl 0 rfl) ?_
                                        refine e_callS (As := [.int (nI z), .int (nI y)]) (rest := [.ref (ad 8), .int (nI t)]) ⟨hx, hb, hml, hown, hts⟩ hK hP hD hS hA hl.1 (c_X5_beside l E _ z y (by first | omega | assumption | rfl | (simp_all; done)) (by first | omega | assumption | rfl | (simp_all; done))) (va_cwS 2 hts gX5_spread_X5_beside rfl rfl rfl (by decide +kernel) ⟨Nat.le_of_ble_eq_true rfl, Nat.le_of_ble_eq_true rfl⟩) [] [0, 1, 2, 3, 4, 5, 6, 7, 8, 9] rfl rfl rfl rfl (by decide) rfl rfl (Nat.le_of_ble_eq_true rfl) dX5_spread_131 ⟨Nat.le_of_ble_eq_true rfl, Nat.le_of_ble_eq_true rfl⟩ (fun u_38 H locs hu_39 hsz1 hP hD hS => ?_)
                                        have hP : va_P E.1 vwCl (wMo E o ad th gr co sd tk wm st (nI mo) nx lb FB) H := hP.sub [0, 1, 2, 3, 4, 5, 6, 7, 8, 9] rfl
                                        have hD : va_D A (wMo E o ad th gr co sd tk wm st (nI mo) nx lb FB) := hD.sub [0, 1, 2, 3, 4, 5, 6, 7, 8, 9] (by decide) rfl
                                        refine W.eq (g2 := F0 m 134 ls [.int (oI (nb z y)), .ref (ad 8), .int (nI t)]) rfl ?_
                                        refine e_top (show oI (nb z y) = nI qn by rw [c118]; rfl) ?_
                                        refine e_nald hK hP 9 rfl qn (by omega) (by decide) hx hb dX5_spread_134 ?_
                                        refine lv_iconst (v := nI 1) hx hb dX5_spread_135 (by decide +kernel) ?_
                                        refine lv_iadd hx hb dX5_spread_136 ?_
                                        refine e_top (nI_add _ _) ?_
                                        refine va_mmin hx hb (by rw [hml]; exact hl.1.symm) hown haml66 hamsmin hamini hamcmin (Nat.le_of_ble_eq_true rfl) (Nat.le_of_ble_eq_true rfl) (Nat.le_of_ble_eq_true rfl) (Nat.le_of_ble_eq_true rfl) dX5_spread_137 ?_
                                        refine e_top (y := iMin (nI t) (nI ((FB qn) + 1))) rfl ?_
                                        refine e_top (y := nI (if (FB qn) + 1 < t then (FB qn) + 1 else t)) (nI_min (by omega) (by omega)) ?_
                                        refine lv_istore (lv' := [(6, .int (nI (if (FB qn) + 1 < t then (FB qn) + 1 else t))), (7, .int (nI y)), (5, .int (nI z)), (4, .int (b2i g1)), (0, .ref o), (1, .int dr), (2, .int (b2i v)), (3, .int (b2i v2))]) hx hb dX5_spread_140 hl (by decide) rfl (fun ls hl => ?_)
                                        refine lv_iinc (v := nI (y + 1)) (lv' := [(7, .int (nI (y + 1))), (6, .int (nI (if (FB qn) + 1 < t then (FB qn) + 1 else t))), (5, .int (nI z)), (4, .int (b2i g1)), (0, .ref o), (1, .int dr), (2, .int (b2i v)), (3, .int (b2i v2))]) hx hb dX5_spread_142 hl (k := 1) rfl (nI_add y 1) (by decide) rfl (fun ls hl => ?_)
                                        refine lv_goto (tgt := 104) hx hb dX5_spread_145 (by decide) ?_
                                        exact ihL104 (if (FB qn) + 1 < t then (FB qn) + 1 else t) (y + 1) (by first | omega | assumption | rfl | (simp_all; done)) (by first | (rw [itsF_none c118]; exact ht) | (rw [itsF_some c118, ← ht])) (by omega) _ _ hP hD hS _ (lv_sub hl [0, 1, 2, 3, 4, 5, 6, 7] rfl)
                                exact L104 (4 - 0 + 1) (src0 v2 z) 0 (by first | omega | assumption | rfl | (simp_all; done)) (rfl) (Nat.lt_succ_self _) _ _ hP hD hS _ (lv_sub hl [0, 1, 2, 3, 4, 5, 6, 7] rfl)
                              exact L99  _ _ hP hD hS _ (lv_sub hl [0, 1, 2, 3, 4, 5] rfl)
                            · refine lv_iconst (v := nI 1) hx hb dX5_spread_92 (by decide +kernel) ?_
                              refine e_top (y := nI (src0 v2 z)) (congrArg nI (by first | exact (src0_1 c80 c89).symm | exact (src0_2 c80 c89).symm | exact (src0_3 c80 c89).symm | exact (src0_4 c80 c89).symm)) ?_
                              refine lv_goto (tgt := 99) hx hb dX5_spread_93 (by decide) ?_
                              have L99 : ∀ (H : Heap) (locs : List Loc), va_P E.1 vwCl (wMo E o ad th gr co sd tk wm st (nI mo) nx lb FB) H → va_D A (wMo E o ad th gr co sd tk wm st (nI mo) nx lb FB) → va_S A s.heap H locs → ∀ ls : Array Slot, lv_has ls 8 [(5, .int (nI z)), (4, .int (b2i g1)), (0, .ref o), (1, .int dr), (2, .int (b2i v)), (3, .int (b2i v2))] → W p l e rm_X5_spread s m args below meth cd H locs 0 0 Q (F0 m 99 ls [.int (nI (src0 v2 z))]) := by
                                intro  H locs hP hD hS ls hl
                                refine lv_istore (lv' := [(6, .int (nI (src0 v2 z))), (5, .int (nI z)), (4, .int (b2i g1)), (0, .ref o), (1, .int dr), (2, .int (b2i v)), (3, .int (b2i v2))]) hx hb dX5_spread_99 hl (by decide) rfl (fun ls hl => ?_)
                                refine lv_iconst (v := nI 0) hx hb dX5_spread_101 (by decide +kernel) ?_
                                refine lv_istore (lv' := [(7, .int (nI 0)), (6, .int (nI (src0 v2 z))), (5, .int (nI z)), (4, .int (b2i g1)), (0, .ref o), (1, .int dr), (2, .int (b2i v)), (3, .int (b2i v2))]) hx hb dX5_spread_102 hl (by decide) rfl (fun ls hl => ?_)
                                have L104 : ∀ (fuel : Nat) (t : Nat) (y : Nat) (hy : y ≤ 4) (ht : t = itsF FB (src0 v2 z) z y) (hfuel : 4 - y < fuel) (H : Heap) (locs : List Loc), va_P E.1 vwCl (wMo E o ad th gr co sd tk wm st (nI mo) nx lb FB) H → va_D A (wMo E o ad th gr co sd tk wm st (nI mo) nx lb FB) → va_S A s.heap H locs → ∀ ls : Array Slot, lv_has ls 8 [(7, .int (nI y)), (6, .int (nI t)), (5, .int (nI z)), (4, .int (b2i g1)), (0, .ref o), (1, .int dr), (2, .int (b2i v)), (3, .int (b2i v2))] → W p l e rm_X5_spread s m args below meth cd H locs 0 0 Q (F0 m 104 ls []) := by
                                  intro fuel
                                  induction fuel with
                                  | zero => intros; omega
                                  | succ fuel ihL104 =>
                                    intro t y hy ht hfuel H locs hP hD hS ls hl
                                    have hs09 : src0 v2 z ≤ 999 := by unfold src0; by_cases h9 : srcB v2 z = true; rw [if_pos h9]; decide; rw [if_neg h9]; decide
                                    have hit := itsF_le (F := FB) (s0 := src0 v2 z) (k := z) y
                                    have hFz := (hF1 z hz81).2.1
                                    refine lv_iload hx hb dX5_spread_104 (lv_at hl 0 rfl) ?_
                                    refine lv_iconst (v := nI 4) hx hb dX5_spread_106 (by decide +kernel) ?_
                                    refine n_icmp_ge (x := y) (y := 4) (by omega) (by omega) (tgt := 148) hx hb dX5_spread_107 (by decide) (fun c107 => ?_) (fun c107 => ?_)
                                    · have hte : t = itsF FB (src0 v2 z) z 4 := by rw [ht, show y = 4 by omega]
                                      refine lv_iload hx hb dX5_spread_148 (lv_at hl 1 rfl) ?_
                                      refine lv_aload_n hx hb dX5_spread_150 rfl (lv_at hl 4 rfl) ?_
                                      refine va_get (D := E.1) (ci := 5) (v := .ref (ad 8)) (C := RX5) (T := TX5) (N := 11) hx hb hts hin5 hown hK.1 hP 0 rfl rfl 10 (by decide) lk34 (fun _ h9 => h9) rfl dX5_spread_151 ?_
                                      refine lv_iload hx hb dX5_spread_154 (lv_at hl 2 rfl) ?_
                                      refine e_nald hK hP 9 rfl z (by omega) (by decide) hx hb dX5_spread_156 ?_
                                      refine n_icmp_lt (x := t) (y := FB z) (by omega) (by omega) (tgt := 163) hx hb dX5_spread_157 (by decide) (fun c157 => ?_) (fun c157 => ?_)
                                      · refine lv_aload_n hx hb dX5_spread_163 rfl (lv_at hl 4 rfl) ?_
                                        refine va_get (D := E.1) (ci := 5) (v := .ref (ad 8)) (C := RX5) (T := TX5) (N := 11) hx hb hts hin5 hown hK.1 hP 0 rfl rfl 10 (by decide) lk34 (fun _ h9 => h9) rfl dX5_spread_164 ?_
                                        refine lv_iload hx hb dX5_spread_167 (lv_at hl 2 rfl) ?_
                                        refine lv_iload hx hb dX5_spread_169 (lv_at hl 1 rfl) ?_
                                        refine e_nast (x := t) hK hP hD hS 9 rfl z (by omega) (by decide) hx hb dX5_spread_171 (fun H locs hP hD hS => ?_)
                                        have hP : va_P E.1 vwCl (wMo E o ad th gr co sd tk wm st (nI mo) nx lb (va_up FB z t)) H := hP
                                        have hD : va_D A (wMo E o ad th gr co sd tk wm st (nI mo) nx lb (va_up FB z t)) := hD
                                        refine lv_iconst (v := nI 1) hx hb dX5_spread_172 (by decide +kernel) ?_
                                        refine lv_istore (lv' := [(4, .int (nI 1)), (7, .int (nI y)), (6, .int (nI t)), (5, .int (nI z)), (0, .ref o), (1, .int dr), (2, .int (b2i v)), (3, .int (b2i v2))]) hx hb dX5_spread_173 hl (by decide) rfl (fun ls hl => ?_)
                                        refine lv_iinc (v := nI (z + 1)) (lv' := [(5, .int (nI (z + 1))), (4, .int (nI 1)), (7, .int (nI y)), (6, .int (nI t)), (0, .ref o), (1, .int dr), (2, .int (b2i v)), (3, .int (b2i v2))]) hx hb dX5_spread_175 hl (k := 3) rfl (nI_add z 1) (by decide) rfl (fun ls hl => ?_)
                                        refine lv_goto (tgt := 40) hx hb dX5_spread_178 (by decide) ?_
                                        exact ihL40 (z + 1) true (va_up FB z t) (by first | omega | assumption | rfl | (simp_all; done)) (by first | exact hF1 | (rw [hte]; exact (farI_up hF1 hz81 (opn_t (i_nle c68)) (by rw [← hte]; exact c157)).1)) (fun hg => by first | exact absurd hg (by decide) | exact ⟨(hs1 hg).1, fun k hk ho => by rcases Nat.lt_or_ge k z with h9 | h9; exact (hs1 hg).2 k h9 ho; rw [show k = z by omega] at ho ⊢; first | (rw [opn_f (i_nlt c68)] at ho; cases ho; done) | (rw [← hte]; omega)⟩) (by first | exact hg1 | (intro _; have h9 := (farI_up hF1 hz81 (opn_t (i_nle c68)) (by rw [← hte]; exact c157)).2; rw [← hte] at h9; cases hgc : g1 with | false => (have h8 := (hs1 hgc).1; omega) | true => (have h8 := hg1 hgc; omega))) (by omega) _ _ hP hD hS _ (lv_sub hl [0, 1, 4, 5, 6, 7] rfl)
                                      · refine lv_goto (tgt := 175) hx hb dX5_spread_160 (by decide) ?_
                                        refine lv_iinc (v := nI (z + 1)) (lv' := [(5, .int (nI (z + 1))), (7, .int (nI y)), (6, .int (nI t)), (4, .int (b2i g1)), (0, .ref o), (1, .int dr), (2, .int (b2i v)), (3, .int (b2i v2))]) hx hb dX5_spread_175 hl (k := 2) rfl (nI_add z 1) (by decide) rfl (fun ls hl => ?_)
                                        refine lv_goto (tgt := 40) hx hb dX5_spread_178 (by decide) ?_
                                        exact ihL40 (z + 1) g1 FB (by first | omega | assumption | rfl | (simp_all; done)) (by first | exact hF1 | (rw [hte]; exact (farI_up hF1 hz81 (opn_t (i_nle c68)) (by rw [← hte]; exact c157)).1)) (fun hg => by first | exact absurd hg (by decide) | exact ⟨(hs1 hg).1, fun k hk ho => by rcases Nat.lt_or_ge k z with h9 | h9; exact (hs1 hg).2 k h9 ho; rw [show k = z by omega] at ho ⊢; first | (rw [opn_f (i_nlt c68)] at ho; cases ho; done) | (rw [← hte]; omega)⟩) (by first | exact hg1 | (intro _; have h9 := (farI_up hF1 hz81 (opn_t (i_nle c68)) (by rw [← hte]; exact c157)).2; rw [← hte] at h9; cases hgc : g1 with | false => (have h8 := (hs1 hgc).1; omega) | true => (have h8 := hg1 hgc; omega))) (by omega) _ _ hP hD hS _ (lv_sub hl [0, 3, 4, 5, 6, 7] rfl)
                                    · refine lv_iload hx hb dX5_spread_110 (lv_at hl 2 rfl) ?_
                                      refine lv_iload hx hb dX5_spread_112 (lv_at hl 0 rfl) ?_
                                      refine e_callS (As := [.int (nI z), .int (nI y)]) (rest := []) ⟨hx, hb, hml, hown, hts⟩ hK hP hD hS hA hl.1 (c_X5_beside l E _ z y (by first | omega | assumption | rfl | (simp_all; done)) (by first | omega | assumption | rfl | (simp_all; done))) (va_cwS 2 hts gX5_spread_X5_beside rfl rfl rfl (by decide +kernel) ⟨Nat.le_of_ble_eq_true rfl, Nat.le_of_ble_eq_true rfl⟩) [] [0, 1, 2, 3, 4, 5, 6, 7, 8, 9] rfl rfl rfl rfl (by decide) rfl rfl (Nat.le_of_ble_eq_true rfl) dX5_spread_114 ⟨Nat.le_of_ble_eq_true rfl, Nat.le_of_ble_eq_true rfl⟩ (fun u_40 H locs hu_41 hsz1 hP hD hS => ?_)
                                      have hP : va_P E.1 vwCl (wMo E o ad th gr co sd tk wm st (nI mo) nx lb FB) H := hP.sub [0, 1, 2, 3, 4, 5, 6, 7, 8, 9] rfl
                                      have hD : va_D A (wMo E o ad th gr co sd tk wm st (nI mo) nx lb FB) := hD.sub [0, 1, 2, 3, 4, 5, 6, 7, 8, 9] (by decide) rfl
                                      refine W.eq (g2 := F0 m 117 ls [.int (oI (nb z y))]) rfl ?_
                                      refine lv_iconst (v := (-1)) hx hb dX5_spread_117 (by decide +kernel) ?_
                                      refine o_icmp_eq (x := nb z y) (nb_ob hz81) (tgt := 142) hx hb dX5_spread_118 (by decide) (fun c118 => ?_) (fun qn c118 => ?_)
                                      · refine lv_iinc (v := nI (y + 1)) (lv' := [(7, .int (nI (y + 1))), (6, .int (nI t)), (5, .int (nI z)), (4, .int (b2i g1)), (0, .ref o), (1, .int dr), (2, .int (b2i v)), (3, .int (b2i v2))]) hx hb dX5_spread_142 hl (k := 0) rfl (nI_add y 1) (by decide) rfl (fun ls hl => ?_)
                                        refine lv_goto (tgt := 104) hx hb dX5_spread_145 (by decide) ?_
                                        exact ihL104 t (y + 1) (by first | omega | assumption | rfl | (simp_all; done)) (by first | (rw [itsF_none c118]; exact ht) | (rw [itsF_some c118, ← ht])) (by omega) _ _ hP hD hS _ (lv_sub hl [0, 1, 2, 3, 4, 5, 6, 7] rfl)
                                      · have hq_ : qn < 81 := nb_lt hz81 c118
                                        have hFq := (hF1 qn hq_).2.1
                                        refine lv_iload hx hb dX5_spread_121 (lv_at hl 1 rfl) ?_
                                        refine lv_aload_n hx hb dX5_spread_123 rfl (lv_at hl 4 rfl) ?_
                                        refine va_get (D := E.1) (ci := 5) (v := .ref (ad 8)) (C := RX5) (T := TX5) (N := 11) hx hb hts hin5 hown hK.1 hP 0 rfl rfl 10 (by decide) lk34 (fun _ h9 => h9) rfl dX5_spread_124 ?_
                                        refine lv_iload hx hb dX5_spread_127 (lv_at hl 2 rfl) ?_
                                        refine lv_iload hx hb dX5_spread_129 (lv_at hl 0 rfl) ?_
                                        refine e_callS (As := [.int (nI z), .int (nI y)]) (rest := [.ref (ad 8), .int (nI t)]) ⟨hx, hb, hml, hown, hts⟩ hK hP hD hS hA hl.1 (c_X5_beside l E _ z y (by first | omega | assumption | rfl | (simp_all; done)) (by first | omega | assumption | rfl | (simp_all; done))) (va_cwS 2 hts gX5_spread_X5_beside rfl rfl rfl (by decide +kernel) ⟨Nat.le_of_ble_eq_true rfl, Nat.le_of_ble_eq_true rfl⟩) [] [0, 1, 2, 3, 4, 5, 6, 7, 8, 9] rfl rfl rfl rfl (by decide) rfl rfl (Nat.le_of_ble_eq_true rfl) dX5_spread_131 ⟨Nat.le_of_ble_eq_true rfl, Nat.le_of_ble_eq_true rfl⟩ (fun u_43 H locs hu_44 hsz1 hP hD hS => ?_)
                                        have hP : va_P E.1 vwCl (wMo E o ad th gr co sd tk wm st (nI mo) nx lb FB) H := hP.sub [0, 1, 2, 3, 4, 5, 6, 7, 8, 9] rfl
                                        have hD : va_D A (wMo E o ad th gr co sd tk wm st (nI mo) nx lb FB) := hD.sub [0, 1, 2, 3, 4, 5, 6, 7, 8, 9] (by decide) rfl
                                        refine W.eq (g2 := F0 m 134 ls [.int (oI (nb z y)), .ref (ad 8), .int (nI t)]) rfl ?_
                                        refine e_top (show oI (nb z y) = nI qn by rw [c118]; rfl) ?_
                                        refine e_nald hK hP 9 rfl qn (by omega) (by decide) hx hb dX5_spread_134 ?_
                                        refine lv_iconst (v := nI 1) hx hb dX5_spread_135 (by decide +kernel) ?_
                                        refine lv_iadd hx hb dX5_spread_136 ?_
                                        refine e_top (nI_add _ _) ?_
                                        refine va_mmin hx hb (by rw [hml]; exact hl.1.symm) hown haml66 hamsmin hamini hamcmin (Nat.le_of_ble_eq_true rfl) (Nat.le_of_ble_eq_true rfl) (Nat.le_of_ble_eq_true rfl) (Nat.le_of_ble_eq_true rfl) dX5_spread_137 ?_
                                        refine e_top (y := iMin (nI t) (nI ((FB qn) + 1))) rfl ?_
                                        refine e_top (y := nI (if (FB qn) + 1 < t then (FB qn) + 1 else t)) (nI_min (by omega) (by omega)) ?_
                                        refine lv_istore (lv' := [(6, .int (nI (if (FB qn) + 1 < t then (FB qn) + 1 else t))), (7, .int (nI y)), (5, .int (nI z)), (4, .int (b2i g1)), (0, .ref o), (1, .int dr), (2, .int (b2i v)), (3, .int (b2i v2))]) hx hb dX5_spread_140 hl (by decide) rfl (fun ls hl => ?_)
                                        refine lv_iinc (v := nI (y + 1)) (lv' := [(7, .int (nI (y + 1))), (6, .int (nI (if (FB qn) + 1 < t then (FB qn) + 1 else t))), (5, .int (nI z)), (4, .int (b2i g1)), (0, .ref o), (1, .int dr), (2, .int (b2i v)), (3, .int (b2i v2))]) hx hb dX5_spread_142 hl (k := 1) rfl (nI_add y 1) (by decide) rfl (fun ls hl => ?_)
                                        refine lv_goto (tgt := 104) hx hb dX5_spread_145 (by decide) ?_
                                        exact ihL104 (if (FB qn) + 1 < t then (FB qn) + 1 else t) (y + 1) (by first | omega | assumption | rfl | (simp_all; done)) (by first | (rw [itsF_none c118]; exact ht) | (rw [itsF_some c118, ← ht])) (by omega) _ _ hP hD hS _ (lv_sub hl [0, 1, 2, 3, 4, 5, 6, 7] rfl)
                                exact L104 (4 - 0 + 1) (src0 v2 z) 0 (by first | omega | assumption | rfl | (simp_all; done)) (rfl) (Nat.lt_succ_self _) _ _ hP hD hS _ (lv_sub hl [0, 1, 2, 3, 4, 5, 6, 7] rfl)
                              exact L99  _ _ hP hD hS _ (lv_sub hl [0, 1, 2, 3, 4, 5] rfl)
                        · refine lv_goto (tgt := 175) hx hb dX5_spread_71 (by decide) ?_
                          refine lv_iinc (v := nI (z + 1)) (lv' := [(5, .int (nI (z + 1))), (4, .int (b2i g1)), (0, .ref o), (1, .int dr), (2, .int (b2i v)), (3, .int (b2i v2))]) hx hb dX5_spread_175 hl (k := 0) rfl (nI_add z 1) (by decide) rfl (fun ls hl => ?_)
                          refine lv_goto (tgt := 40) hx hb dX5_spread_178 (by decide) ?_
                          exact ihL40 (z + 1) g1 FB (by first | omega | assumption | rfl | (simp_all; done)) (by first | exact hF1 | (rw [hte]; exact (farI_up hF1 hz81 (opn_t (i_nle c68)) (by rw [← hte]; exact c157)).1)) (fun hg => by first | exact absurd hg (by decide) | exact ⟨(hs1 hg).1, fun k hk ho => by rcases Nat.lt_or_ge k z with h9 | h9; exact (hs1 hg).2 k h9 ho; rw [show k = z by omega] at ho ⊢; first | (rw [opn_f (i_nlt c68)] at ho; cases ho; done) | (rw [← hte]; omega)⟩) (by first | exact hg1 | (intro _; have h9 := (farI_up hF1 hz81 (opn_t (i_nle c68)) (by rw [← hte]; exact c157)).2; rw [← hte] at h9; cases hgc : g1 with | false => (have h8 := (hs1 hgc).1; omega) | true => (have h8 := hg1 hgc; omega))) (by omega) _ _ hP hD hS _ (lv_sub hl [0, 1, 2, 3, 4, 5] rfl)
                      exact L67  _ _ hP hD hS _ (lv_sub hl [0, 1, 2, 3, 4, 5] rfl)
              exact L40 (81 - 0 + 1) 0 false FA (by first | omega | assumption | rfl | (simp_all; done)) (hF0) (fun _ => ⟨rfl, fun k hk => absurd hk (Nat.not_lt_zero k)⟩) (fun h => by cases h) (Nat.lt_succ_self _) _ _ hP hD hS _ (lv_sub hl [0, 1, 2, 3, 4, 5] rfl)
        exact L29 (2 * farM f + (if true = true then 1 else 0) + 1) true f (farI_0 (layG_end hf (by omega))) (fun h => by cases h) (Nat.lt_succ_self _) _ _ hP hD hS _ (lv_sub hl [0, 1, 2, 3, 4] rfl)
      · refine lv_aload_n hx hb dX5_spread_10 rfl (lv_at hl 1 rfl) ?_
        refine va_get (D := E.1) (ci := 5) (v := .ref (ad 8)) (C := RX5) (T := TX5) (N := 11) hx hb hts hin5 hown hK.1 hP 0 rfl rfl 10 (by decide) lk34 (fun _ h9 => h9) rfl dX5_spread_11 ?_
        refine lv_iload hx hb dX5_spread_14 (lv_at hl 0 rfl) ?_
        refine lv_sipush (v := nI 999) hx hb dX5_spread_16 (by decide +kernel) ?_
        refine e_nast (x := 999) hK hP hD hS 9 rfl z (by omega) (by decide) hx hb dX5_spread_19 (fun H locs hP hD hS => ?_)
        have hP : va_P E.1 vwCl (wMo E o ad th gr co sd tk wm st (nI mo) nx lb (va_up f z 999)) H := hP
        have hD : va_D A (wMo E o ad th gr co sd tk wm st (nI mo) nx lb (va_up f z 999)) := hD
        refine lv_iinc (v := nI (z + 1)) (lv' := [(4, .int (nI (z + 1))), (0, .ref o), (1, .int dr), (2, .int (b2i v)), (3, .int (b2i v2))]) hx hb dX5_spread_20 hl (k := 0) rfl (nI_add z 1) (by decide) rfl (fun ls hl => ?_)
        refine lv_goto (tgt := 3) hx hb dX5_spread_23 (by decide) ?_
        exact ihL3 (z + 1) (va_up f z 999) (by first | omega | assumption | rfl | (simp_all; done)) (layG_upd hf rfl) (by omega) _ _ hP hD hS _ (lv_sub hl [0, 1, 2, 3, 4] rfl)
  exact L3 (81 - 0 + 1) 0 fr (by first | omega | assumption | rfl | (simp_all; done)) (layG_0) (Nat.lt_succ_self _) _ _ hP hD hS _ (lv_sub hl [0, 1, 2, 3, 4] rfl)

abbrev rm_X5_shortest : Room := { frames := 3, cells := 0, slots := 0, locals := 63 }
set_option maxHeartbeats 4000000 in
set_option maxRecDepth 100000 in
theorem c_X5_shortest (l : Launch) (E : eT) (sz : Nat) (o : Nat) (ad : Nat → Nat) (th : Int32) (gr : Nat → Int32) (co : Nat → Int32) (sd : Nat → Int32) (tk : Nat → Int32) (wm : Nat → Int32) (st : Nat → Int32) (mo : Nat) (nx : Nat → Int32) (lb : Nat → Option Nat) (fr : Nat → Nat) (dr : Int32) (v : Bool) : cM l yX5_shortest wsX5_shortest rm_X5_shortest E sz [.ref o, .int dr, .int (b2i v)] (wMo E o ad th gr co sd tk wm st (nI mo) nx lb fr) (fun u : Unit => some (.int (wayN (if v = true then chSafe sd tk (nI mo) else dep gr co) dr))) (fun u : Unit => True) (fun u : Unit => wMo E o ad th gr co sd tk wm st (nI mo) nx lb (farN (opn (if v = true then chSafe sd tk (nI mo) else dep gr co) dr) 72)) := by
  refine cM_intro (cc := cX5_shortest) (maxL := 5) (ret := (some .int)) (by decide +kernel) rfl (Nat.le_of_ble_eq_true rfl) ?_
  intro p e s m args below meth cd hx hb hr hml hown hlocks hts hnm hK hsz hP A hD hA Q hQ ls hl
  have hown : s.vm.findClass RX5 = some m.cls := hown
  have hin5 : ∀ w ∈ u_ws RX5 TX5 11, w ∈ wsX5_shortest := by decide +kernel
  have lk34 := hts (.fieldLink RX5 34 "ReefPilotModel" "far" "[I") (by decide +kernel)
  have hamcmin := hts (.code Lib.Math.min.name Lib.Math.min.code 2 (some .int)) (by decide +kernel)
  have hamini := hts (.initialized "java/lang/Math") (by decide +kernel)
  have haml66 := hts (.methodLink RX5 66 Lib.Math.min.name) (by decide +kernel)
  have hamsmin := hts (.static Lib.Math.min.name) (by decide +kernel)
  have hS : va_S A s.heap s.heap [] := va_S.rf
  have hl : lv_has ls 5 [(0, .ref o), (1, .int dr), (2, .int (b2i v))] := hl
  refine lv_aload_n hx hb dX5_shortest_0 rfl (lv_at hl 0 rfl) ?_
  refine lv_iload_n hx hb dX5_shortest_1 rfl (lv_at hl 1 rfl) ?_
  refine lv_iload_n hx hb dX5_shortest_2 rfl (lv_at hl 2 rfl) ?_
  refine lv_iconst (v := nI 1) hx hb dX5_shortest_3 (by decide +kernel) ?_
  refine e_callV (As := [.int dr, .int (b2i v), .int (nI 1)]) (rest := []) ⟨hx, hb, hml, hown, hts⟩ hK hP hD hS hA hl.1 (c_X5_spread l E _ o ad th gr co sd tk wm st mo nx lb fr dr v true) (cwV 3 hts gX5_shortest_X5_spread rfl rfl rfl (by decide +kernel) ⟨Nat.le_of_ble_eq_true rfl, Nat.le_of_ble_eq_true rfl⟩) [0, 1, 2, 3, 4, 5, 6, 7, 8, 9] [] rfl rfl rfl rfl (by decide) (q0 := 0) (ci := 5) rfl rfl rfl rfl (Nat.le_of_ble_eq_true rfl) dX5_shortest_4 ⟨Nat.le_of_ble_eq_true rfl, Nat.le_of_ble_eq_true rfl⟩ (fun u_1 H locs hu_2 hsz1 hP hD hS => ?_)
  have hP : va_P E.1 vwCl (wMo E o ad th gr co sd tk wm st (nI mo) nx lb (farN (opn (if v = true then chSafe sd tk (nI mo) else dep gr co) dr) (rowV true))) H := hP.sub [0, 1, 2, 3, 4, 5, 6, 7, 8, 9] rfl
  have hD : va_D A (wMo E o ad th gr co sd tk wm st (nI mo) nx lb (farN (opn (if v = true then chSafe sd tk (nI mo) else dep gr co) dr) (rowV true))) := hD.sub [0, 1, 2, 3, 4, 5, 6, 7, 8, 9] (by decide) rfl
  refine W.eq (g2 := F0 m 7 ls []) rfl ?_
  have hP : va_P E.1 vwCl (wMo E o ad th gr co sd tk wm st (nI mo) nx lb (farN (opn (if v = true then chSafe sd tk (nI mo) else dep gr co) dr) 72)) H := by (skip); exact hP
  have hD : va_D A (wMo E o ad th gr co sd tk wm st (nI mo) nx lb (farN (opn (if v = true then chSafe sd tk (nI mo) else dep gr co) dr) 72)) := by (skip); exact hD
  refine lv_sipush (v := nI 999) hx hb dX5_shortest_7 (by decide +kernel) ?_
  refine lv_istore_n (lv' := [(3, .int (nI 999)), (0, .ref o), (1, .int dr), (2, .int (b2i v))]) hx hb dX5_shortest_10 rfl hl (by decide) rfl (fun ls hl => ?_)
  refine lv_iconst (v := nI 0) hx hb dX5_shortest_11 (by decide +kernel) ?_
  refine lv_istore (lv' := [(4, .int (nI 0)), (3, .int (nI 999)), (0, .ref o), (1, .int dr), (2, .int (b2i v))]) hx hb dX5_shortest_12 hl (by decide) rfl (fun ls hl => ?_)
  have L14 : ∀ (fuel : Nat) (x : Nat) (z : Nat) (hz : z ≤ 9) (hx_ : x = minF (farN (opn (if v = true then chSafe sd tk (nI mo) else dep gr co) dr) 72) z) (hfuel : 9 - z < fuel) (H : Heap) (locs : List Loc), va_P E.1 vwCl (wMo E o ad th gr co sd tk wm st (nI mo) nx lb (farN (opn (if v = true then chSafe sd tk (nI mo) else dep gr co) dr) 72)) H → va_D A (wMo E o ad th gr co sd tk wm st (nI mo) nx lb (farN (opn (if v = true then chSafe sd tk (nI mo) else dep gr co) dr) 72)) → va_S A s.heap H locs → ∀ ls : Array Slot, lv_has ls 5 [(4, .int (nI z)), (3, .int (nI x)), (0, .ref o), (1, .int dr), (2, .int (b2i v))] → W p l e rm_X5_shortest s m args below meth cd H locs 0 0 Q (F0 m 14 ls []) := by
    intro fuel
    induction fuel with
    | zero => intros; omega
    | succ fuel ihL14 =>
      intro x z hz hx_ hfuel H locs hP hD hS ls hl
      have hxz := minF_le (farN (opn (if v = true then chSafe sd tk (nI mo) else dep gr co) dr) 72) z
      refine lv_iload hx hb dX5_shortest_14 (lv_at hl 0 rfl) ?_
      refine lv_bipush (v := nI 9) hx hb dX5_shortest_16 (by decide +kernel) ?_
      refine n_icmp_ge (x := z) (y := 9) (by omega) (by omega) (tgt := 39) hx hb dX5_shortest_18 (by decide) (fun c18 => ?_) (fun c18 => ?_)
      · refine lv_iload_n hx hb dX5_shortest_39 rfl (lv_at hl 1 rfl) ?_
        refine lv_sipush (v := nI 999) hx hb dX5_shortest_40 (by decide +kernel) ?_
        refine n_icmp_ne (x := x) (y := 999) (by omega) (by omega) (tgt := 50) hx hb dX5_shortest_43 (by decide) (fun c43 => ?_) (fun c43 => ?_)
        · refine lv_iload_n hx hb dX5_shortest_50 rfl (lv_at hl 1 rfl) ?_
          exact e_iret () hQ hx hb hr hlocks hP hD hS dX5_shortest_51 (rvi (by rw [wayN_of, ← show x = minF (farN (opn (if v = true then chSafe sd tk (nI mo) else dep gr co) dr) 72) 9 by rw [hx_, show z = 9 by omega]]; rw [if_neg c43])) (Nat.le_of_ble_eq_true rfl) (Nat.le_of_ble_eq_true rfl) (trivial)
        · refine lv_iconst (v := (-1)) hx hb dX5_shortest_46 (by decide +kernel) ?_
          refine lv_goto (tgt := 51) hx hb dX5_shortest_47 (by decide) ?_
          exact e_iret () hQ hx hb hr hlocks hP hD hS dX5_shortest_51 (rvi (by rw [wayN_of, ← show x = minF (farN (opn (if v = true then chSafe sd tk (nI mo) else dep gr co) dr) 72) 9 by rw [hx_, show z = 9 by omega]]; rw [if_pos c43])) (Nat.le_of_ble_eq_true rfl) (Nat.le_of_ble_eq_true rfl) (trivial)
      · refine lv_iload_n hx hb dX5_shortest_21 rfl (lv_at hl 1 rfl) ?_
        refine lv_aload_n hx hb dX5_shortest_22 rfl (lv_at hl 2 rfl) ?_
        refine va_get (D := E.1) (ci := 5) (v := .ref (ad 8)) (C := RX5) (T := TX5) (N := 11) hx hb hts hin5 hown hK.1 hP 0 rfl rfl 10 (by decide) lk34 (fun _ h9 => h9) rfl dX5_shortest_23 ?_
        refine lv_iload hx hb dX5_shortest_26 (lv_at hl 0 rfl) ?_
        refine e_nald hK hP 9 rfl z (by omega) (by decide) hx hb dX5_shortest_28 ?_
        have hfz : farN (opn (if v = true then chSafe sd tk (nI mo) else dep gr co) dr) 72 z ≤ 999 := by unfold farN; by_cases h9 : dist (opn (if v = true then chSafe sd tk (nI mo) else dep gr co) dr) 72 z = 0; rw [if_pos h9]; exact Nat.le_refl _; rw [if_neg h9]; exact Nat.le_trans (dist_le (by decide) z) (by decide)
        refine va_mmin hx hb (by rw [hml]; exact hl.1.symm) hown haml66 hamsmin hamini hamcmin (Nat.le_of_ble_eq_true rfl) (Nat.le_of_ble_eq_true rfl) (Nat.le_of_ble_eq_true rfl) (Nat.le_of_ble_eq_true rfl) dX5_shortest_29 ?_
        refine e_top (y := iMin (nI x) (nI ((farN (opn (if v = true then chSafe sd tk (nI mo) else dep gr co) dr) 72) z))) rfl ?_
        refine e_top (y := nI (if farN (opn (if v = true then chSafe sd tk (nI mo) else dep gr co) dr) 72 z < x then farN (opn (if v = true then chSafe sd tk (nI mo) else dep gr co) dr) 72 z else x)) (nI_min (by omega) (by omega)) ?_
        refine lv_istore_n (lv' := [(3, .int (nI (if farN (opn (if v = true then chSafe sd tk (nI mo) else dep gr co) dr) 72 z < x then farN (opn (if v = true then chSafe sd tk (nI mo) else dep gr co) dr) 72 z else x))), (4, .int (nI z)), (0, .ref o), (1, .int dr), (2, .int (b2i v))]) hx hb dX5_shortest_32 rfl hl (by decide) rfl (fun ls hl => ?_)
        refine lv_iinc (v := nI (z + 1)) (lv' := [(4, .int (nI (z + 1))), (3, .int (nI (if farN (opn (if v = true then chSafe sd tk (nI mo) else dep gr co) dr) 72 z < x then farN (opn (if v = true then chSafe sd tk (nI mo) else dep gr co) dr) 72 z else x))), (0, .ref o), (1, .int dr), (2, .int (b2i v))]) hx hb dX5_shortest_33 hl (k := 1) rfl (nI_add z 1) (by decide) rfl (fun ls hl => ?_)
        refine lv_goto (tgt := 14) hx hb dX5_shortest_36 (by decide) ?_
        exact ihL14 (if farN (opn (if v = true then chSafe sd tk (nI mo) else dep gr co) dr) 72 z < x then farN (opn (if v = true then chSafe sd tk (nI mo) else dep gr co) dr) 72 z else x) (z + 1) (by first | omega | assumption | rfl | (simp_all; done)) (by rw [hx_]; rfl) (by omega) _ _ hP hD hS _ (lv_sub hl [0, 1, 2, 3, 4] rfl)
  exact L14 (9 - 0 + 1) 999 0 (by first | omega | assumption | rfl | (simp_all; done)) (rfl) (Nat.lt_succ_self _) _ _ hP hD hS _ (lv_sub hl [0, 1, 2, 3, 4] rfl)

abbrev rm_X5_most : Room := { frames := 4, cells := 0, slots := 0, locals := 87 }
set_option maxHeartbeats 4000000 in
set_option maxRecDepth 100000 in
theorem c_X5_most (l : Launch) (E : eT) (sz : Nat) (o : Nat) (ad : Nat → Nat) (th : Int32) (gr : Nat → Int32) (co : Nat → Int32) (sd : Nat → Int32) (tk : Nat → Int32) (wm : Nat → Int32) (st : Nat → Int32) (mo : Nat) (nx : Nat → Int32) (lb : Nat → Option Nat) (fr : Nat → Nat) (v : Bool) : cM l yX5_most wsX5_most rm_X5_most E sz [.ref o, .int (b2i v)] (wMo E o ad th gr co sd tk wm st (nI mo) nx lb fr) (fun u : (Nat → Nat) => some (.int (oI (mostD (someW (if v = true then chSafe sd tk (nI mo) else dep gr co)) 40)))) (fun u : (Nat → Nat) => True) (fun u : (Nat → Nat) => wMo E o ad th gr co sd tk wm st (nI mo) nx lb u) := by
  refine cM_intro (cc := cX5_most) (maxL := 3) (ret := (some .int)) (by decide +kernel) rfl (Nat.le_of_ble_eq_true rfl) ?_
  intro p e s m args below meth cd hx hb hr hml hown hlocks hts hnm hK hsz hP A hD hA Q hQ ls hl
  have hown : s.vm.findClass RX5 = some m.cls := hown
  have hS : va_S A s.heap s.heap [] := va_S.rf
  have hl : lv_has ls 3 [(0, .ref o), (1, .int (b2i v))] := hl
  refine lv_bipush (v := nI 39) hx hb dX5_most_0 (by decide +kernel) ?_
  refine lv_istore_n (lv' := [(2, .int (nI 39)), (0, .ref o), (1, .int (b2i v))]) hx hb dX5_most_2 rfl hl (by decide) rfl (fun ls hl => ?_)
  have L3 : ∀ (fuel : Nat) (k : Nat) (f1 : Nat → Nat) (hk : k ≤ 40) (hm : mostD (someW (if v = true then chSafe sd tk (nI mo) else dep gr co)) 40 = mostD (someW (if v = true then chSafe sd tk (nI mo) else dep gr co)) k) (hfuel : k < fuel) (H : Heap) (locs : List Loc), va_P E.1 vwCl (wMo E o ad th gr co sd tk wm st (nI mo) nx lb f1) H → va_D A (wMo E o ad th gr co sd tk wm st (nI mo) nx lb f1) → va_S A s.heap H locs → ∀ ls : Array Slot, lv_has ls 3 [(2, .int (dn k)), (0, .ref o), (1, .int (b2i v))] → W p l e rm_X5_most s m args below meth cd H locs 0 0 Q (F0 m 3 ls []) := by
    intro fuel
    induction fuel with
    | zero => intros; omega
    | succ fuel ihL3 =>
      intro k f1 hk hm hfuel H locs hP hD hS ls hl
      refine lv_iload_n hx hb dX5_most_3 rfl (lv_at hl 0 rfl) ?_
      refine d_if_lt (k := k) (by omega) (tgt := 23) hx hb dX5_most_4 (by decide) (fun c4 => ?_) (fun kq c4 => ?_)
      · refine lv_iload_n hx hb dX5_most_23 rfl (lv_at hl 0 rfl) ?_
        exact e_iret f1 hQ hx hb hr hlocks hP hD hS dX5_most_24 (rvi (by rw [hm, c4]; rfl)) (Nat.le_of_ble_eq_true rfl) (Nat.le_of_ble_eq_true rfl) (trivial)
      · subst c4
        have hl : lv_has ls 3 [(2, .int (nI kq)), (0, .ref o), (1, .int (b2i v))] := hl
        refine lv_aload_n hx hb dX5_most_7 rfl (lv_at hl 1 rfl) ?_
        refine lv_iload_n hx hb dX5_most_8 rfl (lv_at hl 0 rfl) ?_
        refine lv_iload_n hx hb dX5_most_9 rfl (lv_at hl 2 rfl) ?_
        refine e_callV (As := [.int (nI kq), .int (b2i v)]) (rest := []) ⟨hx, hb, hml, hown, hts⟩ hK hP hD hS hA hl.1 (c_X5_shortest l E _ o ad th gr co sd tk wm st mo nx lb f1 (nI kq) v) (cwV 2 hts gX5_most_X5_shortest rfl rfl rfl (by decide +kernel) ⟨Nat.le_of_ble_eq_true rfl, Nat.le_of_ble_eq_true rfl⟩) [0, 1, 2, 3, 4, 5, 6, 7, 8, 9] [] rfl rfl rfl rfl (by decide) (q0 := 0) (ci := 5) rfl rfl rfl rfl (Nat.le_of_ble_eq_true rfl) dX5_most_10 ⟨Nat.le_of_ble_eq_true rfl, Nat.le_of_ble_eq_true rfl⟩ (fun u_2 H locs hu_3 hsz1 hP hD hS => ?_)
        have hP : va_P E.1 vwCl (wMo E o ad th gr co sd tk wm st (nI mo) nx lb (farN (opn (if v = true then chSafe sd tk (nI mo) else dep gr co) (nI kq)) 72)) H := hP.sub [0, 1, 2, 3, 4, 5, 6, 7, 8, 9] rfl
        have hD : va_D A (wMo E o ad th gr co sd tk wm st (nI mo) nx lb (farN (opn (if v = true then chSafe sd tk (nI mo) else dep gr co) (nI kq)) 72)) := hD.sub [0, 1, 2, 3, 4, 5, 6, 7, 8, 9] (by decide) rfl
        refine W.eq (g2 := F0 m 13 ls [.int (wayN (if v = true then chSafe sd tk (nI mo) else dep gr co) (nI kq))]) rfl ?_
        refine lv_iconst (v := (-1)) hx hb dX5_most_13 (by decide +kernel) ?_
        refine lv_icmp_ne (tgt := 23) hx hb dX5_most_14 (by decide) (fun c14 => ?_) (fun c14 => ?_)
        · refine lv_iload_n hx hb dX5_most_23 rfl (lv_at hl 0 rfl) ?_
          exact e_iret (farN (opn (if v = true then chSafe sd tk (nI mo) else dep gr co) (nI kq)) 72) hQ hx hb hr hlocks hP hD hS dX5_most_24 (rvi (by rw [hm]; show oI (if someW (if v = true then chSafe sd tk (nI mo) else dep gr co) kq = true then some kq else _) = _; rw [if_pos (show someW (if v = true then chSafe sd tk (nI mo) else dep gr co) kq = true from someW_iff.mpr c14)]; rfl)) (Nat.le_of_ble_eq_true rfl) (Nat.le_of_ble_eq_true rfl) (trivial)
        · refine lv_iinc (v := dn kq) (lv' := [(2, .int (dn kq)), (0, .ref o), (1, .int (b2i v))]) hx hb dX5_most_17 hl (k := 0) rfl (dn_dec kq) (by decide) rfl (fun ls hl => ?_)
          refine lv_goto (tgt := 3) hx hb dX5_most_20 (by decide) ?_
          exact ihL3 kq (farN (opn (if v = true then chSafe sd tk (nI mo) else dep gr co) (nI kq)) 72) (by first | omega | assumption | rfl | (simp_all; done)) (by rw [hm]; show (if someW (if v = true then chSafe sd tk (nI mo) else dep gr co) kq = true then _ else _) = _; rw [if_neg (show ¬ someW (if v = true then chSafe sd tk (nI mo) else dep gr co) kq = true from fun h9 => someW_iff.mp h9 c14)]) (by omega) _ _ hP hD hS _ (lv_sub hl [0, 1, 2] rfl)
  exact L3 (40 + 1) 40 fr (by first | omega | assumption | rfl | (simp_all; done)) (rfl) (Nat.lt_succ_self _) _ _ hP hD hS _ (lv_sub hl [0, 1, 2] rfl)

abbrev rm_X5_grow : Room := { frames := 2, cells := 0, slots := 0, locals := 60 }
set_option maxHeartbeats 4000000 in
set_option maxRecDepth 100000 in
theorem c_X5_grow (l : Launch) (E : eT) (sz : Nat) (o : Nat) (ad : Nat → Nat) (th : Int32) (gr : Nat → Int32) (co : Nat → Int32) (sd : Nat → Int32) (tk : Nat → Int32) (wm : Nat → Int32) (st : Nat → Int32) (mo : Nat) (nx : Nat → Int32) (lb : Nat → Option Nat) (fr : Nat → Nat) (v : Int32) : cM l yX5_grow wsX5_grow rm_X5_grow E sz [.ref o, .int v] (wMo E o ad th gr co sd tk wm st (nI mo) nx lb fr) (fun u : (Nat → Int32) => none) (fun u : (Nat → Int32) => True) (fun u : (Nat → Int32) => wMo E o ad th gr (seeded gr (warmed v gr co)) sd tk wm st (nI mo) u lb fr) := by
  refine cM_intro (cc := cX5_grow) (maxL := 4) (ret := none) (by decide +kernel) rfl (Nat.le_of_ble_eq_true rfl) ?_
  intro p e s m args below meth cd hx hb hr hml hown hlocks hts hnm hK hsz hP A hD hA Q hQ ls hl
  have hown : s.vm.findClass RX5 = some m.cls := hown
  have hin5 : ∀ w ∈ u_ws RX5 TX5 11, w ∈ wsX5_grow := by decide +kernel
  have lk9 := hts (.fieldLink RX5 9 "ReefPilotModel" "ground" "[I") (by decide +kernel)
  have lk13 := hts (.fieldLink RX5 13 "ReefPilotModel" "coral" "[I") (by decide +kernel)
  have lk28 := hts (.fieldLink RX5 28 "ReefPilotModel" "next" "[I") (by decide +kernel)
  have haac99 := hts (.methodLink RX5 99 arraycopyName) (by decide +kernel)
  have haaci := hts (.initialized "java/lang/System") (by decide +kernel)
  have haacn := hts (.native arraycopyName) (by decide +kernel)
  have haacs := hts (.static arraycopyName) (by decide +kernel)
  have hamcmax := hts (.code Lib.Math.max.name Lib.Math.max.code 2 (some .int)) (by decide +kernel)
  have hamcmin := hts (.code Lib.Math.min.name Lib.Math.min.code 2 (some .int)) (by decide +kernel)
  have hamini := hts (.initialized "java/lang/Math") (by decide +kernel)
  have haml45 := hts (.methodLink RX5 45 Lib.Math.max.name) (by decide +kernel)
  have haml66 := hts (.methodLink RX5 66 Lib.Math.min.name) (by decide +kernel)
  have hamsmax := hts (.static Lib.Math.max.name) (by decide +kernel)
  have hamsmin := hts (.static Lib.Math.min.name) (by decide +kernel)
  have hS : va_S A s.heap s.heap [] := va_S.rf
  have hl : lv_has ls 4 [(0, .ref o), (1, .int v)] := hl
  refine lv_iconst (v := nI 0) hx hb dX5_grow_0 (by decide +kernel) ?_
  refine lv_istore_n (lv' := [(2, .int (nI 0)), (0, .ref o), (1, .int v)]) hx hb dX5_grow_1 rfl hl (by decide) rfl (fun ls hl => ?_)
  have L2 : ∀ (fuel : Nat) (z : Nat) (f : Nat → Int32) (hz : z ≤ 81) (hf : ∀ k : Nat, f k = if k < z then warmed v gr co k else nx k) (hfuel : 81 - z < fuel) (H : Heap) (locs : List Loc), va_P E.1 vwCl (wMo E o ad th gr co sd tk wm st (nI mo) f lb fr) H → va_D A (wMo E o ad th gr co sd tk wm st (nI mo) f lb fr) → va_S A s.heap H locs → ∀ ls : Array Slot, lv_has ls 4 [(2, .int (nI z)), (0, .ref o), (1, .int v)] → W p l e rm_X5_grow s m args below meth cd H locs 0 0 Q (F0 m 2 ls []) := by
    intro fuel
    induction fuel with
    | zero => intros; omega
    | succ fuel ihL2 =>
      intro z f hz hf hfuel H locs hP hD hS ls hl
      have t3 : (nI 3).toInt = 3 := by decide +kernel
      have t7 : (nI 7).toInt = 7 := by decide +kernel
      have hhb := hbs_le (hd co) z
      refine lv_iload_n hx hb dX5_grow_2 rfl (lv_at hl 0 rfl) ?_
      refine lv_bipush (v := nI 81) hx hb dX5_grow_3 (by decide +kernel) ?_
      refine n_icmp_ge (x := z) (y := 81) (by omega) (by omega) (tgt := 132) hx hb dX5_grow_5 (by decide) (fun c5 => ?_) (fun c5 => ?_)
      · refine lv_aload_n hx hb dX5_grow_132 rfl (lv_at hl 1 rfl) ?_
        refine va_get (D := E.1) (ci := 5) (v := .ref (ad 6)) (C := RX5) (T := TX5) (N := 11) hx hb hts hin5 hown hK.1 hP 0 rfl rfl 8 (by decide) lk28 (fun _ h9 => h9) rfl dX5_grow_133 ?_
        refine lv_iconst (v := nI 0) hx hb dX5_grow_136 (by decide +kernel) ?_
        refine lv_aload_n hx hb dX5_grow_137 rfl (lv_at hl 1 rfl) ?_
        refine va_get (D := E.1) (ci := 5) (v := .ref (ad 1)) (C := RX5) (T := TX5) (N := 11) hx hb hts hin5 hown hK.1 hP 0 rfl rfl 2 (by decide) lk13 (fun _ h9 => h9) rfl dX5_grow_138 ?_
        refine lv_iconst (v := nI 0) hx hb dX5_grow_141 (by decide +kernel) ?_
        refine lv_bipush (v := nI 81) hx hb dX5_grow_142 (by decide +kernel) ?_
        refine va_copyi hx hb (by rw [hml]; exact hl.1.symm) hown haac99 haacn haacs haaci hK.1 hP hD hS 7 2 0 0 rfl rfl rfl rfl rfl (by decide +kernel) (by decide +kernel) (by decide +kernel) (by decide +kernel) (by decide +kernel) (fun _ _ => rfl) (Nat.le_of_ble_eq_true rfl) (Nat.le_of_ble_eq_true rfl) dX5_grow_144 (fun H locs hP hD hS => ?_)
        rw [show (nI 0).toNatClampNeg = 0 from by decide +kernel, show (nI 81).toNatClampNeg = 81 from by decide +kernel] at hP hD
        have hP : va_P E.1 vwCl (wMo E o ad th gr (va_cpy f co 0 0 81) sd tk wm st (nI mo) f lb fr) H := hP
        have hD : va_D A (wMo E o ad th gr (va_cpy f co 0 0 81) sd tk wm st (nI mo) f lb fr) := hD
        have hP := e_cong hP 2 (g := warmed v gr co) rfl (fun k h => by rw [pk_cpy_in (by omega) (by omega)]; rw [show 0 + (k - 0) = k by omega]; exact lay_end hf (by omega) k h)
        have hD := va_D.set (e := .inl (E.2.1, 81, .inl (warmed v gr co))) hD (p := 2) rfl
        have hP : va_P E.1 vwCl (wMo E o ad th gr (warmed v gr co) sd tk wm st (nI mo) f lb fr) H := hP
        have hD : va_D A (wMo E o ad th gr (warmed v gr co) sd tk wm st (nI mo) f lb fr) := hD
        refine lv_iconst (v := nI 0) hx hb dX5_grow_147 (by decide +kernel) ?_
        refine lv_istore_n (lv' := [(2, .int (nI 0)), (0, .ref o), (1, .int v)]) hx hb dX5_grow_148 rfl hl (by decide) rfl (fun ls hl => ?_)
        have L149 : ∀ (fuel : Nat) (z : Nat) (f2 : Nat → Int32) (hz : z ≤ 81) (hf2 : ∀ k : Nat, f2 k = if k < z then sdd gr (warmed v gr co) (hd (warmed v gr co)) k else f k) (hfuel : 81 - z < fuel) (H : Heap) (locs : List Loc), va_P E.1 vwCl (wMo E o ad th gr (warmed v gr co) sd tk wm st (nI mo) f2 lb fr) H → va_D A (wMo E o ad th gr (warmed v gr co) sd tk wm st (nI mo) f2 lb fr) → va_S A s.heap H locs → ∀ ls : Array Slot, lv_has ls 4 [(2, .int (nI z)), (0, .ref o), (1, .int v)] → W p l e rm_X5_grow s m args below meth cd H locs 0 0 Q (F0 m 149 ls []) := by
          intro fuel
          induction fuel with
          | zero => intros; omega
          | succ fuel ihL149 =>
            intro z f2 hz hf2 hfuel H locs hP hD hS ls hl
            have hhb := hbs_le (hd (warmed v gr co)) z
            refine lv_iload_n hx hb dX5_grow_149 rfl (lv_at hl 0 rfl) ?_
            refine lv_bipush (v := nI 81) hx hb dX5_grow_150 (by decide +kernel) ?_
            refine n_icmp_ge (x := z) (y := 81) (by omega) (by omega) (tgt := 209) hx hb dX5_grow_152 (by decide) (fun c152 => ?_) (fun c152 => ?_)
            · refine lv_aload_n hx hb dX5_grow_209 rfl (lv_at hl 1 rfl) ?_
              refine va_get (D := E.1) (ci := 5) (v := .ref (ad 6)) (C := RX5) (T := TX5) (N := 11) hx hb hts hin5 hown hK.1 hP 0 rfl rfl 8 (by decide) lk28 (fun _ h9 => h9) rfl dX5_grow_210 ?_
              refine lv_iconst (v := nI 0) hx hb dX5_grow_213 (by decide +kernel) ?_
              refine lv_aload_n hx hb dX5_grow_214 rfl (lv_at hl 1 rfl) ?_
              refine va_get (D := E.1) (ci := 5) (v := .ref (ad 1)) (C := RX5) (T := TX5) (N := 11) hx hb hts hin5 hown hK.1 hP 0 rfl rfl 2 (by decide) lk13 (fun _ h9 => h9) rfl dX5_grow_215 ?_
              refine lv_iconst (v := nI 0) hx hb dX5_grow_218 (by decide +kernel) ?_
              refine lv_bipush (v := nI 81) hx hb dX5_grow_219 (by decide +kernel) ?_
              refine va_copyi hx hb (by rw [hml]; exact hl.1.symm) hown haac99 haacn haacs haaci hK.1 hP hD hS 7 2 0 0 rfl rfl rfl rfl rfl (by decide +kernel) (by decide +kernel) (by decide +kernel) (by decide +kernel) (by decide +kernel) (fun _ _ => rfl) (Nat.le_of_ble_eq_true rfl) (Nat.le_of_ble_eq_true rfl) dX5_grow_221 (fun H locs hP hD hS => ?_)
              rw [show (nI 0).toNatClampNeg = 0 from by decide +kernel, show (nI 81).toNatClampNeg = 81 from by decide +kernel] at hP hD
              have hP : va_P E.1 vwCl (wMo E o ad th gr (va_cpy f2 (warmed v gr co) 0 0 81) sd tk wm st (nI mo) f2 lb fr) H := hP
              have hD : va_D A (wMo E o ad th gr (va_cpy f2 (warmed v gr co) 0 0 81) sd tk wm st (nI mo) f2 lb fr) := hD
              have hP := e_cong hP 2 (g := seeded gr (warmed v gr co)) rfl (fun k h => by rw [pk_cpy_in (by omega) (by omega)]; rw [show 0 + (k - 0) = k by omega]; exact lay_end hf2 (by omega) k h)
              have hD := va_D.set (e := .inl (E.2.1, 81, .inl (seeded gr (warmed v gr co)))) hD (p := 2) rfl
              have hP : va_P E.1 vwCl (wMo E o ad th gr (seeded gr (warmed v gr co)) sd tk wm st (nI mo) f2 lb fr) H := hP
              have hD : va_D A (wMo E o ad th gr (seeded gr (warmed v gr co)) sd tk wm st (nI mo) f2 lb fr) := hD
              exact e_vret f2 hQ hx hb hr hlocks hP hD hS dX5_grow_224 (rfl) (Nat.le_of_ble_eq_true rfl) (Nat.le_of_ble_eq_true rfl) (trivial)
            · refine lv_aload_n hx hb dX5_grow_155 rfl (lv_at hl 1 rfl) ?_
              refine va_get (D := E.1) (ci := 5) (v := .ref (ad 6)) (C := RX5) (T := TX5) (N := 11) hx hb hts hin5 hown hK.1 hP 0 rfl rfl 8 (by decide) lk28 (fun _ h9 => h9) rfl dX5_grow_156 ?_
              refine lv_iload_n hx hb dX5_grow_159 rfl (lv_at hl 0 rfl) ?_
              refine lv_aload_n hx hb dX5_grow_160 rfl (lv_at hl 1 rfl) ?_
              refine va_get (D := E.1) (ci := 5) (v := .ref (ad 1)) (C := RX5) (T := TX5) (N := 11) hx hb hts hin5 hown hK.1 hP 0 rfl rfl 2 (by decide) lk13 (fun _ h9 => h9) rfl dX5_grow_161 ?_
              refine lv_iload_n hx hb dX5_grow_164 rfl (lv_at hl 0 rfl) ?_
              refine e_iald hK hP 2 rfl z (by omega) (by decide) hx hb dX5_grow_165 ?_
              refine lv_if_ne (tgt := 196) hx hb dX5_grow_166 (by decide) (fun c166 => ?_) (fun c166 => ?_)
              · refine lv_aload_n hx hb dX5_grow_196 rfl (lv_at hl 1 rfl) ?_
                refine va_get (D := E.1) (ci := 5) (v := .ref (ad 1)) (C := RX5) (T := TX5) (N := 11) hx hb hts hin5 hown hK.1 hP 0 rfl rfl 2 (by decide) lk13 (fun _ h9 => h9) rfl dX5_grow_197 ?_
                refine lv_iload_n hx hb dX5_grow_200 rfl (lv_at hl 0 rfl) ?_
                refine e_iald hK hP 2 rfl z (by omega) (by decide) hx hb dX5_grow_201 ?_
                refine e_iast hK hP hD hS 7 rfl z (by omega) (by decide) hx hb dX5_grow_202 (fun H locs hP hD hS => ?_)
                have hP : va_P E.1 vwCl (wMo E o ad th gr (warmed v gr co) sd tk wm st (nI mo) (upd f2 z ((warmed v gr co) z)) lb fr) H := hP
                have hD : va_D A (wMo E o ad th gr (warmed v gr co) sd tk wm st (nI mo) (upd f2 z ((warmed v gr co) z)) lb fr) := hD
                refine lv_iinc (v := nI (z + 1)) (lv' := [(2, .int (nI (z + 1))), (0, .ref o), (1, .int v)]) hx hb dX5_grow_203 hl (k := 0) rfl (nI_add z 1) (by decide) rfl (fun ls hl => ?_)
                refine lv_goto (tgt := 149) hx hb dX5_grow_206 (by decide) ?_
                exact ihL149 (z + 1) (upd f2 z ((warmed v gr co) z)) (by first | omega | assumption | rfl | (simp_all; done)) (by first | exact lay_upd hf2 (sdd_yesB c166 c181 c189) | exact lay_upd hf2 ((sdd_noB (Or.inl c166)).symm) | exact lay_upd hf2 ((sdd_noB (Or.inr (Or.inl c181))).symm) | exact lay_upd hf2 ((sdd_noB (Or.inr (Or.inr c189))).symm)) (by omega) _ _ hP hD hS _ (lv_sub hl [0, 1, 2] rfl)
              · refine lv_aload_n hx hb dX5_grow_169 rfl (lv_at hl 1 rfl) ?_
                refine va_get (D := E.1) (ci := 5) (v := .ref (ad 0)) (C := RX5) (T := TX5) (N := 11) hx hb hts hin5 hown hK.1 hP 0 rfl rfl 1 (by decide) lk9 (fun _ h9 => h9) rfl dX5_grow_170 ?_
                refine lv_iload_n hx hb dX5_grow_173 rfl (lv_at hl 0 rfl) ?_
                refine e_iald hK hP 1 rfl z (by omega) (by decide) hx hb dX5_grow_174 ?_
                refine lv_iconst (v := nI 3) hx hb dX5_grow_175 (by decide +kernel) ?_
                refine lv_bipush (v := nI 15) hx hb dX5_grow_176 (by decide +kernel) ?_
                refine e_callS (As := [.int (gr z), .int (nI 3), .int (nI 15)]) (rest := [.int (nI z), .ref (ad 6)]) ⟨hx, hb, hml, hown, hts⟩ hK hP hD hS hA hl.1 (c_X5_isIn l E _ (gr z) (nI 3) (nI 15)) (va_cwS 3 hts gX5_grow_X5_isIn rfl rfl rfl (by decide +kernel) ⟨Nat.le_of_ble_eq_true rfl, Nat.le_of_ble_eq_true rfl⟩) [] [0, 1, 2, 3, 4, 5, 6, 7, 8, 9] rfl rfl rfl rfl (by decide) rfl rfl (Nat.le_of_ble_eq_true rfl) dX5_grow_178 ⟨Nat.le_of_ble_eq_true rfl, Nat.le_of_ble_eq_true rfl⟩ (fun u_1 H locs hu_2 hsz1 hP hD hS => ?_)
                have hP : va_P E.1 vwCl (wMo E o ad th gr (warmed v gr co) sd tk wm st (nI mo) f2 lb fr) H := hP.sub [0, 1, 2, 3, 4, 5, 6, 7, 8, 9] rfl
                have hD : va_D A (wMo E o ad th gr (warmed v gr co) sd tk wm st (nI mo) f2 lb fr) := hD.sub [0, 1, 2, 3, 4, 5, 6, 7, 8, 9] (by decide) rfl
                refine W.eq (g2 := F0 m 181 ls [.int (b2i (isInB (gr z) (nI 3) (nI 15))), .int (nI z), .ref (ad 6)]) rfl ?_
                refine b_if_eq (x := isInB (gr z) (nI 3) (nI 15)) (tgt := 196) hx hb dX5_grow_181 (by decide) (fun c181 => ?_) (fun c181 => ?_)
                · refine lv_aload_n hx hb dX5_grow_196 rfl (lv_at hl 1 rfl) ?_
                  refine va_get (D := E.1) (ci := 5) (v := .ref (ad 1)) (C := RX5) (T := TX5) (N := 11) hx hb hts hin5 hown hK.1 hP 0 rfl rfl 2 (by decide) lk13 (fun _ h9 => h9) rfl dX5_grow_197 ?_
                  refine lv_iload_n hx hb dX5_grow_200 rfl (lv_at hl 0 rfl) ?_
                  refine e_iald hK hP 2 rfl z (by omega) (by decide) hx hb dX5_grow_201 ?_
                  refine e_iast hK hP hD hS 7 rfl z (by omega) (by decide) hx hb dX5_grow_202 (fun H locs hP hD hS => ?_)
                  have hP : va_P E.1 vwCl (wMo E o ad th gr (warmed v gr co) sd tk wm st (nI mo) (upd f2 z ((warmed v gr co) z)) lb fr) H := hP
                  have hD : va_D A (wMo E o ad th gr (warmed v gr co) sd tk wm st (nI mo) (upd f2 z ((warmed v gr co) z)) lb fr) := hD
                  refine lv_iinc (v := nI (z + 1)) (lv' := [(2, .int (nI (z + 1))), (0, .ref o), (1, .int v)]) hx hb dX5_grow_203 hl (k := 0) rfl (nI_add z 1) (by decide) rfl (fun ls hl => ?_)
                  refine lv_goto (tgt := 149) hx hb dX5_grow_206 (by decide) ?_
                  exact ihL149 (z + 1) (upd f2 z ((warmed v gr co) z)) (by first | omega | assumption | rfl | (simp_all; done)) (by first | exact lay_upd hf2 (sdd_yesB c166 c181 c189) | exact lay_upd hf2 ((sdd_noB (Or.inl c166)).symm) | exact lay_upd hf2 ((sdd_noB (Or.inr (Or.inl c181))).symm) | exact lay_upd hf2 ((sdd_noB (Or.inr (Or.inr c189))).symm)) (by omega) _ _ hP hD hS _ (lv_sub hl [0, 1, 2] rfl)
                · refine lv_aload_n hx hb dX5_grow_184 rfl (lv_at hl 1 rfl) ?_
                  refine lv_iload_n hx hb dX5_grow_185 rfl (lv_at hl 0 rfl) ?_
                  refine e_callV (As := [.int (nI z)]) (rest := [.int (nI z), .ref (ad 6)]) ⟨hx, hb, hml, hown, hts⟩ hK hP hD hS hA hl.1 (c_X5_headsBeside l E _ o ad th gr (warmed v gr co) sd tk wm st mo f2 lb fr z (by first | omega | assumption | rfl | (simp_all; done))) (cwV 1 hts gX5_grow_X5_headsBeside rfl rfl rfl (by decide +kernel) ⟨Nat.le_of_ble_eq_true rfl, Nat.le_of_ble_eq_true rfl⟩) [0, 1, 2, 3, 4, 5, 6, 7, 8, 9] [] rfl rfl rfl rfl (by decide) (q0 := 0) (ci := 5) rfl rfl rfl rfl (Nat.le_of_ble_eq_true rfl) dX5_grow_186 ⟨Nat.le_of_ble_eq_true rfl, Nat.le_of_ble_eq_true rfl⟩ (fun u_3 H locs hu_4 hsz1 hP hD hS => ?_)
                  have hP : va_P E.1 vwCl (wMo E o ad th gr (warmed v gr co) sd tk wm st (nI mo) f2 lb fr) H := hP.sub [0, 1, 2, 3, 4, 5, 6, 7, 8, 9] rfl
                  have hD : va_D A (wMo E o ad th gr (warmed v gr co) sd tk wm st (nI mo) f2 lb fr) := hD.sub [0, 1, 2, 3, 4, 5, 6, 7, 8, 9] (by decide) rfl
                  refine W.eq (g2 := F0 m 189 ls [.int (nI (hbs (hd (warmed v gr co)) z)), .int (nI z), .ref (ad 6)]) rfl ?_
                  refine n_if_le (x := hbs (hd (warmed v gr co)) z) (by omega) (tgt := 196) hx hb dX5_grow_189 (by decide) (fun c189 => ?_) (fun c189 => ?_)
                  · refine lv_aload_n hx hb dX5_grow_196 rfl (lv_at hl 1 rfl) ?_
                    refine va_get (D := E.1) (ci := 5) (v := .ref (ad 1)) (C := RX5) (T := TX5) (N := 11) hx hb hts hin5 hown hK.1 hP 0 rfl rfl 2 (by decide) lk13 (fun _ h9 => h9) rfl dX5_grow_197 ?_
                    refine lv_iload_n hx hb dX5_grow_200 rfl (lv_at hl 0 rfl) ?_
                    refine e_iald hK hP 2 rfl z (by omega) (by decide) hx hb dX5_grow_201 ?_
                    refine e_iast hK hP hD hS 7 rfl z (by omega) (by decide) hx hb dX5_grow_202 (fun H locs hP hD hS => ?_)
                    have hP : va_P E.1 vwCl (wMo E o ad th gr (warmed v gr co) sd tk wm st (nI mo) (upd f2 z ((warmed v gr co) z)) lb fr) H := hP
                    have hD : va_D A (wMo E o ad th gr (warmed v gr co) sd tk wm st (nI mo) (upd f2 z ((warmed v gr co) z)) lb fr) := hD
                    refine lv_iinc (v := nI (z + 1)) (lv' := [(2, .int (nI (z + 1))), (0, .ref o), (1, .int v)]) hx hb dX5_grow_203 hl (k := 0) rfl (nI_add z 1) (by decide) rfl (fun ls hl => ?_)
                    refine lv_goto (tgt := 149) hx hb dX5_grow_206 (by decide) ?_
                    exact ihL149 (z + 1) (upd f2 z ((warmed v gr co) z)) (by first | omega | assumption | rfl | (simp_all; done)) (by first | exact lay_upd hf2 (sdd_yesB c166 c181 c189) | exact lay_upd hf2 ((sdd_noB (Or.inl c166)).symm) | exact lay_upd hf2 ((sdd_noB (Or.inr (Or.inl c181))).symm) | exact lay_upd hf2 ((sdd_noB (Or.inr (Or.inr c189))).symm)) (by omega) _ _ hP hD hS _ (lv_sub hl [0, 1, 2] rfl)
                  · refine lv_iconst (v := nI 1) hx hb dX5_grow_192 (by decide +kernel) ?_
                    refine lv_goto (tgt := 202) hx hb dX5_grow_193 (by decide) ?_
                    refine e_iast hK hP hD hS 7 rfl z (by omega) (by decide) hx hb dX5_grow_202 (fun H locs hP hD hS => ?_)
                    have hP : va_P E.1 vwCl (wMo E o ad th gr (warmed v gr co) sd tk wm st (nI mo) (upd f2 z (nI 1)) lb fr) H := hP
                    have hD : va_D A (wMo E o ad th gr (warmed v gr co) sd tk wm st (nI mo) (upd f2 z (nI 1)) lb fr) := hD
                    refine lv_iinc (v := nI (z + 1)) (lv' := [(2, .int (nI (z + 1))), (0, .ref o), (1, .int v)]) hx hb dX5_grow_203 hl (k := 0) rfl (nI_add z 1) (by decide) rfl (fun ls hl => ?_)
                    refine lv_goto (tgt := 149) hx hb dX5_grow_206 (by decide) ?_
                    exact ihL149 (z + 1) (upd f2 z (nI 1)) (by first | omega | assumption | rfl | (simp_all; done)) (by first | exact lay_upd hf2 (sdd_yesB c166 c181 c189) | exact lay_upd hf2 ((sdd_noB (Or.inl c166)).symm) | exact lay_upd hf2 ((sdd_noB (Or.inr (Or.inl c181))).symm) | exact lay_upd hf2 ((sdd_noB (Or.inr (Or.inr c189))).symm)) (by omega) _ _ hP hD hS _ (lv_sub hl [0, 1, 2] rfl)
        exact L149 (81 - 0 + 1) 0 f (by first | omega | assumption | rfl | (simp_all; done)) (lay_0) (Nat.lt_succ_self _) _ _ hP hD hS _ (lv_sub hl [0, 1, 2] rfl)
      · refine lv_aload_n hx hb dX5_grow_8 rfl (lv_at hl 1 rfl) ?_
        refine va_get (D := E.1) (ci := 5) (v := .ref (ad 6)) (C := RX5) (T := TX5) (N := 11) hx hb hts hin5 hown hK.1 hP 0 rfl rfl 8 (by decide) lk28 (fun _ h9 => h9) rfl dX5_grow_9 ?_
        refine lv_iload_n hx hb dX5_grow_12 rfl (lv_at hl 0 rfl) ?_
        refine lv_aload_n hx hb dX5_grow_13 rfl (lv_at hl 1 rfl) ?_
        refine va_get (D := E.1) (ci := 5) (v := .ref (ad 1)) (C := RX5) (T := TX5) (N := 11) hx hb hts hin5 hown hK.1 hP 0 rfl rfl 2 (by decide) lk13 (fun _ h9 => h9) rfl dX5_grow_14 ?_
        refine lv_iload_n hx hb dX5_grow_17 rfl (lv_at hl 0 rfl) ?_
        refine e_iald hK hP 2 rfl z (by omega) (by decide) hx hb dX5_grow_18 ?_
        refine e_iast hK hP hD hS 7 rfl z (by omega) (by decide) hx hb dX5_grow_19 (fun H locs hP hD hS => ?_)
        have hP : va_P E.1 vwCl (wMo E o ad th gr co sd tk wm st (nI mo) (upd f z (co z)) lb fr) H := hP
        have hD : va_D A (wMo E o ad th gr co sd tk wm st (nI mo) (upd f z (co z)) lb fr) := hD
        refine lv_iload_n hx hb dX5_grow_20 rfl (lv_at hl 2 rfl) ?_
        refine lv_iconst (v := nI 3) hx hb dX5_grow_21 (by decide +kernel) ?_
        refine lv_icmp_lt (tgt := 58) hx hb dX5_grow_22 (by decide) (fun c22 => ?_) (fun c22 => ?_)
        · refine lv_iconst (v := nI 0) hx hb dX5_grow_58 (by decide +kernel) ?_
          refine lv_istore_n (lv' := [(3, .int (nI 0)), (2, .int (nI z)), (0, .ref o), (1, .int v)]) hx hb dX5_grow_59 rfl hl (by decide) rfl (fun ls hl => ?_)
          refine lv_iload_n hx hb dX5_grow_60 rfl (lv_at hl 0 rfl) ?_
          refine n_if_eq (x := 0) (by omega) (tgt := 102) hx hb dX5_grow_61 (by decide) (fun c61 => ?_) (fun c61 => by omega)
          refine lv_iload_n hx hb dX5_grow_102 rfl (lv_at hl 3 rfl) ?_
          refine lv_bipush (v := nI 7) hx hb dX5_grow_103 (by decide +kernel) ?_
          refine lv_icmp_le (tgt := 126) hx hb dX5_grow_105 (by decide) (fun c105 => ?_) (fun c105 => ?_)
          · refine lv_iinc (v := nI (z + 1)) (lv' := [(2, .int (nI (z + 1))), (3, .int (nI 0)), (0, .ref o), (1, .int v)]) hx hb dX5_grow_126 hl (k := 1) rfl (nI_add z 1) (by decide) rfl (fun ls hl => ?_)
            refine lv_goto (tgt := 2) hx hb dX5_grow_129 (by decide) ?_
            exact ihL2 (z + 1) (upd f z (co z)) (by first | omega | assumption | rfl | (simp_all; done)) (by first | (exfalso; simp only [i_lt, i_le] at c22 c105; omega) | (exfalso; simp only [i_lt, i_le] at c28 c105; omega) | (rw [upd_upd]; exact lay_upd hf (by rw [wr_low c22])) | (rw [upd_upd, upd_upd]; exact lay_upd hf (by rw [wr_low c22])) | exact lay_upd hf (by rw [wr_low c22]) | (rw [upd_upd]; exact lay_upd hf (by rw [wr_die (by first | exact c28 | exact i_nle2 c105)]; unfold die; exact iMax_comm _ _)) | (rw [upd_upd, upd_upd]; exact lay_upd hf (by rw [wr_die (by first | exact c28 | exact i_nle2 c105)]; unfold die; exact iMax_comm _ _)) | exact lay_upd hf (by rw [wr_die (by first | exact c28 | exact i_nle2 c105)]; unfold die; exact iMax_comm _ _) | (rw [upd_upd]; exact lay_upd hf (by rw [wr_mid c22 c28]; exact (grw_noB (Or.inl c37)).symm)) | (rw [upd_upd, upd_upd]; exact lay_upd hf (by rw [wr_mid c22 c28]; exact (grw_noB (Or.inl c37)).symm)) | exact lay_upd hf (by rw [wr_mid c22 c28]; exact (grw_noB (Or.inl c37)).symm) | (rw [upd_upd]; exact lay_upd hf (by rw [wr_mid c22 c28]; exact (grw_noB (Or.inr c51)).symm)) | (rw [upd_upd, upd_upd]; exact lay_upd hf (by rw [wr_mid c22 c28]; exact (grw_noB (Or.inr c51)).symm)) | exact lay_upd hf (by rw [wr_mid c22 c28]; exact (grw_noB (Or.inr c51)).symm) | (rw [upd_upd]; exact lay_upd hf (by rw [wr_mid c22 c28]; exact grw_yesB c37 c51 (by rw [if_neg (show ¬ 2 ≤ hbs (hd co) z by omega)]))) | (rw [upd_upd, upd_upd]; exact lay_upd hf (by rw [wr_mid c22 c28]; exact grw_yesB c37 c51 (by rw [if_neg (show ¬ 2 ≤ hbs (hd co) z by omega)]))) | exact lay_upd hf (by rw [wr_mid c22 c28]; exact grw_yesB c37 c51 (by rw [if_neg (show ¬ 2 ≤ hbs (hd co) z by omega)])) | (rw [upd_upd]; exact lay_upd hf (by rw [wr_mid c22 c28]; exact grw_yesB c37 c51 (by rw [if_pos (show 2 ≤ hbs (hd co) z by omega)]))) | (rw [upd_upd, upd_upd]; exact lay_upd hf (by rw [wr_mid c22 c28]; exact grw_yesB c37 c51 (by rw [if_pos (show 2 ≤ hbs (hd co) z by omega)]))) | exact lay_upd hf (by rw [wr_mid c22 c28]; exact grw_yesB c37 c51 (by rw [if_pos (show 2 ≤ hbs (hd co) z by omega)]))) (by omega) _ _ hP hD hS _ (lv_sub hl [0, 2, 3] rfl)
          · refine lv_aload_n hx hb dX5_grow_108 rfl (lv_at hl 2 rfl) ?_
            refine va_get (D := E.1) (ci := 5) (v := .ref (ad 6)) (C := RX5) (T := TX5) (N := 11) hx hb hts hin5 hown hK.1 hP 0 rfl rfl 8 (by decide) lk28 (fun _ h9 => h9) rfl dX5_grow_109 ?_
            refine lv_iload_n hx hb dX5_grow_112 rfl (lv_at hl 1 rfl) ?_
            refine lv_iconst (v := nI 0) hx hb dX5_grow_113 (by decide +kernel) ?_
            refine lv_aload_n hx hb dX5_grow_114 rfl (lv_at hl 2 rfl) ?_
            refine va_get (D := E.1) (ci := 5) (v := .ref (ad 1)) (C := RX5) (T := TX5) (N := 11) hx hb hts hin5 hown hK.1 hP 0 rfl rfl 2 (by decide) lk13 (fun _ h9 => h9) rfl dX5_grow_115 ?_
            refine lv_iload_n hx hb dX5_grow_118 rfl (lv_at hl 1 rfl) ?_
            refine e_iald hK hP 2 rfl z (by omega) (by decide) hx hb dX5_grow_119 ?_
            refine lv_iconst (v := nI 1) hx hb dX5_grow_120 (by decide +kernel) ?_
            refine lv_isub hx hb dX5_grow_121 ?_
            refine va_mmax hx hb (by rw [hml]; exact hl.1.symm) hown haml45 hamsmax hamini hamcmax (Nat.le_of_ble_eq_true rfl) (Nat.le_of_ble_eq_true rfl) (Nat.le_of_ble_eq_true rfl) (Nat.le_of_ble_eq_true rfl) dX5_grow_122 ?_
            refine e_top (y := iMax (nI 0) ((co z) - (nI 1))) rfl ?_
            refine e_iast hK hP hD hS 7 rfl z (by omega) (by decide) hx hb dX5_grow_125 (fun H locs hP hD hS => ?_)
            have hP : va_P E.1 vwCl (wMo E o ad th gr co sd tk wm st (nI mo) (upd (upd f z (co z)) z (iMax (nI 0) ((co z) - (nI 1)))) lb fr) H := hP
            have hD : va_D A (wMo E o ad th gr co sd tk wm st (nI mo) (upd (upd f z (co z)) z (iMax (nI 0) ((co z) - (nI 1)))) lb fr) := hD
            refine lv_iinc (v := nI (z + 1)) (lv' := [(2, .int (nI (z + 1))), (3, .int (nI 0)), (0, .ref o), (1, .int v)]) hx hb dX5_grow_126 hl (k := 1) rfl (nI_add z 1) (by decide) rfl (fun ls hl => ?_)
            refine lv_goto (tgt := 2) hx hb dX5_grow_129 (by decide) ?_
            exact ihL2 (z + 1) (upd (upd f z (co z)) z (iMax (nI 0) ((co z) - (nI 1)))) (by first | omega | assumption | rfl | (simp_all; done)) (by first | (exfalso; simp only [i_lt, i_le] at c22 c105; omega) | (exfalso; simp only [i_lt, i_le] at c28 c105; omega) | (rw [upd_upd]; exact lay_upd hf (by rw [wr_low c22])) | (rw [upd_upd, upd_upd]; exact lay_upd hf (by rw [wr_low c22])) | exact lay_upd hf (by rw [wr_low c22]) | (rw [upd_upd]; exact lay_upd hf (by rw [wr_die (by first | exact c28 | exact i_nle2 c105)]; unfold die; exact iMax_comm _ _)) | (rw [upd_upd, upd_upd]; exact lay_upd hf (by rw [wr_die (by first | exact c28 | exact i_nle2 c105)]; unfold die; exact iMax_comm _ _)) | exact lay_upd hf (by rw [wr_die (by first | exact c28 | exact i_nle2 c105)]; unfold die; exact iMax_comm _ _) | (rw [upd_upd]; exact lay_upd hf (by rw [wr_mid c22 c28]; exact (grw_noB (Or.inl c37)).symm)) | (rw [upd_upd, upd_upd]; exact lay_upd hf (by rw [wr_mid c22 c28]; exact (grw_noB (Or.inl c37)).symm)) | exact lay_upd hf (by rw [wr_mid c22 c28]; exact (grw_noB (Or.inl c37)).symm) | (rw [upd_upd]; exact lay_upd hf (by rw [wr_mid c22 c28]; exact (grw_noB (Or.inr c51)).symm)) | (rw [upd_upd, upd_upd]; exact lay_upd hf (by rw [wr_mid c22 c28]; exact (grw_noB (Or.inr c51)).symm)) | exact lay_upd hf (by rw [wr_mid c22 c28]; exact (grw_noB (Or.inr c51)).symm) | (rw [upd_upd]; exact lay_upd hf (by rw [wr_mid c22 c28]; exact grw_yesB c37 c51 (by rw [if_neg (show ¬ 2 ≤ hbs (hd co) z by omega)]))) | (rw [upd_upd, upd_upd]; exact lay_upd hf (by rw [wr_mid c22 c28]; exact grw_yesB c37 c51 (by rw [if_neg (show ¬ 2 ≤ hbs (hd co) z by omega)]))) | exact lay_upd hf (by rw [wr_mid c22 c28]; exact grw_yesB c37 c51 (by rw [if_neg (show ¬ 2 ≤ hbs (hd co) z by omega)])) | (rw [upd_upd]; exact lay_upd hf (by rw [wr_mid c22 c28]; exact grw_yesB c37 c51 (by rw [if_pos (show 2 ≤ hbs (hd co) z by omega)]))) | (rw [upd_upd, upd_upd]; exact lay_upd hf (by rw [wr_mid c22 c28]; exact grw_yesB c37 c51 (by rw [if_pos (show 2 ≤ hbs (hd co) z by omega)]))) | exact lay_upd hf (by rw [wr_mid c22 c28]; exact grw_yesB c37 c51 (by rw [if_pos (show 2 ≤ hbs (hd co) z by omega)]))) (by omega) _ _ hP hD hS _ (lv_sub hl [0, 2, 3] rfl)
        · refine lv_iload_n hx hb dX5_grow_25 rfl (lv_at hl 2 rfl) ?_
          refine lv_bipush (v := nI 7) hx hb dX5_grow_26 (by decide +kernel) ?_
          refine lv_icmp_gt (tgt := 58) hx hb dX5_grow_28 (by decide) (fun c28 => ?_) (fun c28 => ?_)
          · refine lv_iconst (v := nI 0) hx hb dX5_grow_58 (by decide +kernel) ?_
            refine lv_istore_n (lv' := [(3, .int (nI 0)), (2, .int (nI z)), (0, .ref o), (1, .int v)]) hx hb dX5_grow_59 rfl hl (by decide) rfl (fun ls hl => ?_)
            refine lv_iload_n hx hb dX5_grow_60 rfl (lv_at hl 0 rfl) ?_
            refine n_if_eq (x := 0) (by omega) (tgt := 102) hx hb dX5_grow_61 (by decide) (fun c61 => ?_) (fun c61 => by omega)
            refine lv_iload_n hx hb dX5_grow_102 rfl (lv_at hl 3 rfl) ?_
            refine lv_bipush (v := nI 7) hx hb dX5_grow_103 (by decide +kernel) ?_
            refine lv_icmp_le (tgt := 126) hx hb dX5_grow_105 (by decide) (fun c105 => ?_) (fun c105 => ?_)
            · refine lv_iinc (v := nI (z + 1)) (lv' := [(2, .int (nI (z + 1))), (3, .int (nI 0)), (0, .ref o), (1, .int v)]) hx hb dX5_grow_126 hl (k := 1) rfl (nI_add z 1) (by decide) rfl (fun ls hl => ?_)
              refine lv_goto (tgt := 2) hx hb dX5_grow_129 (by decide) ?_
              exact ihL2 (z + 1) (upd f z (co z)) (by first | omega | assumption | rfl | (simp_all; done)) (by first | (exfalso; simp only [i_lt, i_le] at c22 c105; omega) | (exfalso; simp only [i_lt, i_le] at c28 c105; omega) | (rw [upd_upd]; exact lay_upd hf (by rw [wr_low c22])) | (rw [upd_upd, upd_upd]; exact lay_upd hf (by rw [wr_low c22])) | exact lay_upd hf (by rw [wr_low c22]) | (rw [upd_upd]; exact lay_upd hf (by rw [wr_die (by first | exact c28 | exact i_nle2 c105)]; unfold die; exact iMax_comm _ _)) | (rw [upd_upd, upd_upd]; exact lay_upd hf (by rw [wr_die (by first | exact c28 | exact i_nle2 c105)]; unfold die; exact iMax_comm _ _)) | exact lay_upd hf (by rw [wr_die (by first | exact c28 | exact i_nle2 c105)]; unfold die; exact iMax_comm _ _) | (rw [upd_upd]; exact lay_upd hf (by rw [wr_mid c22 c28]; exact (grw_noB (Or.inl c37)).symm)) | (rw [upd_upd, upd_upd]; exact lay_upd hf (by rw [wr_mid c22 c28]; exact (grw_noB (Or.inl c37)).symm)) | exact lay_upd hf (by rw [wr_mid c22 c28]; exact (grw_noB (Or.inl c37)).symm) | (rw [upd_upd]; exact lay_upd hf (by rw [wr_mid c22 c28]; exact (grw_noB (Or.inr c51)).symm)) | (rw [upd_upd, upd_upd]; exact lay_upd hf (by rw [wr_mid c22 c28]; exact (grw_noB (Or.inr c51)).symm)) | exact lay_upd hf (by rw [wr_mid c22 c28]; exact (grw_noB (Or.inr c51)).symm) | (rw [upd_upd]; exact lay_upd hf (by rw [wr_mid c22 c28]; exact grw_yesB c37 c51 (by rw [if_neg (show ¬ 2 ≤ hbs (hd co) z by omega)]))) | (rw [upd_upd, upd_upd]; exact lay_upd hf (by rw [wr_mid c22 c28]; exact grw_yesB c37 c51 (by rw [if_neg (show ¬ 2 ≤ hbs (hd co) z by omega)]))) | exact lay_upd hf (by rw [wr_mid c22 c28]; exact grw_yesB c37 c51 (by rw [if_neg (show ¬ 2 ≤ hbs (hd co) z by omega)])) | (rw [upd_upd]; exact lay_upd hf (by rw [wr_mid c22 c28]; exact grw_yesB c37 c51 (by rw [if_pos (show 2 ≤ hbs (hd co) z by omega)]))) | (rw [upd_upd, upd_upd]; exact lay_upd hf (by rw [wr_mid c22 c28]; exact grw_yesB c37 c51 (by rw [if_pos (show 2 ≤ hbs (hd co) z by omega)]))) | exact lay_upd hf (by rw [wr_mid c22 c28]; exact grw_yesB c37 c51 (by rw [if_pos (show 2 ≤ hbs (hd co) z by omega)]))) (by omega) _ _ hP hD hS _ (lv_sub hl [0, 2, 3] rfl)
            · refine lv_aload_n hx hb dX5_grow_108 rfl (lv_at hl 2 rfl) ?_
              refine va_get (D := E.1) (ci := 5) (v := .ref (ad 6)) (C := RX5) (T := TX5) (N := 11) hx hb hts hin5 hown hK.1 hP 0 rfl rfl 8 (by decide) lk28 (fun _ h9 => h9) rfl dX5_grow_109 ?_
              refine lv_iload_n hx hb dX5_grow_112 rfl (lv_at hl 1 rfl) ?_
              refine lv_iconst (v := nI 0) hx hb dX5_grow_113 (by decide +kernel) ?_
              refine lv_aload_n hx hb dX5_grow_114 rfl (lv_at hl 2 rfl) ?_
              refine va_get (D := E.1) (ci := 5) (v := .ref (ad 1)) (C := RX5) (T := TX5) (N := 11) hx hb hts hin5 hown hK.1 hP 0 rfl rfl 2 (by decide) lk13 (fun _ h9 => h9) rfl dX5_grow_115 ?_
              refine lv_iload_n hx hb dX5_grow_118 rfl (lv_at hl 1 rfl) ?_
              refine e_iald hK hP 2 rfl z (by omega) (by decide) hx hb dX5_grow_119 ?_
              refine lv_iconst (v := nI 1) hx hb dX5_grow_120 (by decide +kernel) ?_
              refine lv_isub hx hb dX5_grow_121 ?_
              refine va_mmax hx hb (by rw [hml]; exact hl.1.symm) hown haml45 hamsmax hamini hamcmax (Nat.le_of_ble_eq_true rfl) (Nat.le_of_ble_eq_true rfl) (Nat.le_of_ble_eq_true rfl) (Nat.le_of_ble_eq_true rfl) dX5_grow_122 ?_
              refine e_top (y := iMax (nI 0) ((co z) - (nI 1))) rfl ?_
              refine e_iast hK hP hD hS 7 rfl z (by omega) (by decide) hx hb dX5_grow_125 (fun H locs hP hD hS => ?_)
              have hP : va_P E.1 vwCl (wMo E o ad th gr co sd tk wm st (nI mo) (upd (upd f z (co z)) z (iMax (nI 0) ((co z) - (nI 1)))) lb fr) H := hP
              have hD : va_D A (wMo E o ad th gr co sd tk wm st (nI mo) (upd (upd f z (co z)) z (iMax (nI 0) ((co z) - (nI 1)))) lb fr) := hD
              refine lv_iinc (v := nI (z + 1)) (lv' := [(2, .int (nI (z + 1))), (3, .int (nI 0)), (0, .ref o), (1, .int v)]) hx hb dX5_grow_126 hl (k := 1) rfl (nI_add z 1) (by decide) rfl (fun ls hl => ?_)
              refine lv_goto (tgt := 2) hx hb dX5_grow_129 (by decide) ?_
              exact ihL2 (z + 1) (upd (upd f z (co z)) z (iMax (nI 0) ((co z) - (nI 1)))) (by first | omega | assumption | rfl | (simp_all; done)) (by first | (exfalso; simp only [i_lt, i_le] at c22 c105; omega) | (exfalso; simp only [i_lt, i_le] at c28 c105; omega) | (rw [upd_upd]; exact lay_upd hf (by rw [wr_low c22])) | (rw [upd_upd, upd_upd]; exact lay_upd hf (by rw [wr_low c22])) | exact lay_upd hf (by rw [wr_low c22]) | (rw [upd_upd]; exact lay_upd hf (by rw [wr_die (by first | exact c28 | exact i_nle2 c105)]; unfold die; exact iMax_comm _ _)) | (rw [upd_upd, upd_upd]; exact lay_upd hf (by rw [wr_die (by first | exact c28 | exact i_nle2 c105)]; unfold die; exact iMax_comm _ _)) | exact lay_upd hf (by rw [wr_die (by first | exact c28 | exact i_nle2 c105)]; unfold die; exact iMax_comm _ _) | (rw [upd_upd]; exact lay_upd hf (by rw [wr_mid c22 c28]; exact (grw_noB (Or.inl c37)).symm)) | (rw [upd_upd, upd_upd]; exact lay_upd hf (by rw [wr_mid c22 c28]; exact (grw_noB (Or.inl c37)).symm)) | exact lay_upd hf (by rw [wr_mid c22 c28]; exact (grw_noB (Or.inl c37)).symm) | (rw [upd_upd]; exact lay_upd hf (by rw [wr_mid c22 c28]; exact (grw_noB (Or.inr c51)).symm)) | (rw [upd_upd, upd_upd]; exact lay_upd hf (by rw [wr_mid c22 c28]; exact (grw_noB (Or.inr c51)).symm)) | exact lay_upd hf (by rw [wr_mid c22 c28]; exact (grw_noB (Or.inr c51)).symm) | (rw [upd_upd]; exact lay_upd hf (by rw [wr_mid c22 c28]; exact grw_yesB c37 c51 (by rw [if_neg (show ¬ 2 ≤ hbs (hd co) z by omega)]))) | (rw [upd_upd, upd_upd]; exact lay_upd hf (by rw [wr_mid c22 c28]; exact grw_yesB c37 c51 (by rw [if_neg (show ¬ 2 ≤ hbs (hd co) z by omega)]))) | exact lay_upd hf (by rw [wr_mid c22 c28]; exact grw_yesB c37 c51 (by rw [if_neg (show ¬ 2 ≤ hbs (hd co) z by omega)])) | (rw [upd_upd]; exact lay_upd hf (by rw [wr_mid c22 c28]; exact grw_yesB c37 c51 (by rw [if_pos (show 2 ≤ hbs (hd co) z by omega)]))) | (rw [upd_upd, upd_upd]; exact lay_upd hf (by rw [wr_mid c22 c28]; exact grw_yesB c37 c51 (by rw [if_pos (show 2 ≤ hbs (hd co) z by omega)]))) | exact lay_upd hf (by rw [wr_mid c22 c28]; exact grw_yesB c37 c51 (by rw [if_pos (show 2 ≤ hbs (hd co) z by omega)]))) (by omega) _ _ hP hD hS _ (lv_sub hl [0, 2, 3] rfl)
          · refine lv_aload_n hx hb dX5_grow_31 rfl (lv_at hl 1 rfl) ?_
            refine va_get (D := E.1) (ci := 5) (v := .ref (ad 1)) (C := RX5) (T := TX5) (N := 11) hx hb hts hin5 hown hK.1 hP 0 rfl rfl 2 (by decide) lk13 (fun _ h9 => h9) rfl dX5_grow_32 ?_
            refine lv_iload_n hx hb dX5_grow_35 rfl (lv_at hl 0 rfl) ?_
            refine e_iald hK hP 2 rfl z (by omega) (by decide) hx hb dX5_grow_36 ?_
            refine lv_if_le (tgt := 58) hx hb dX5_grow_37 (by decide) (fun c37 => ?_) (fun c37 => ?_)
            · refine lv_iconst (v := nI 0) hx hb dX5_grow_58 (by decide +kernel) ?_
              refine lv_istore_n (lv' := [(3, .int (nI 0)), (2, .int (nI z)), (0, .ref o), (1, .int v)]) hx hb dX5_grow_59 rfl hl (by decide) rfl (fun ls hl => ?_)
              refine lv_iload_n hx hb dX5_grow_60 rfl (lv_at hl 0 rfl) ?_
              refine n_if_eq (x := 0) (by omega) (tgt := 102) hx hb dX5_grow_61 (by decide) (fun c61 => ?_) (fun c61 => by omega)
              refine lv_iload_n hx hb dX5_grow_102 rfl (lv_at hl 3 rfl) ?_
              refine lv_bipush (v := nI 7) hx hb dX5_grow_103 (by decide +kernel) ?_
              refine lv_icmp_le (tgt := 126) hx hb dX5_grow_105 (by decide) (fun c105 => ?_) (fun c105 => ?_)
              · refine lv_iinc (v := nI (z + 1)) (lv' := [(2, .int (nI (z + 1))), (3, .int (nI 0)), (0, .ref o), (1, .int v)]) hx hb dX5_grow_126 hl (k := 1) rfl (nI_add z 1) (by decide) rfl (fun ls hl => ?_)
                refine lv_goto (tgt := 2) hx hb dX5_grow_129 (by decide) ?_
                exact ihL2 (z + 1) (upd f z (co z)) (by first | omega | assumption | rfl | (simp_all; done)) (by first | (exfalso; simp only [i_lt, i_le] at c22 c105; omega) | (exfalso; simp only [i_lt, i_le] at c28 c105; omega) | (rw [upd_upd]; exact lay_upd hf (by rw [wr_low c22])) | (rw [upd_upd, upd_upd]; exact lay_upd hf (by rw [wr_low c22])) | exact lay_upd hf (by rw [wr_low c22]) | (rw [upd_upd]; exact lay_upd hf (by rw [wr_die (by first | exact c28 | exact i_nle2 c105)]; unfold die; exact iMax_comm _ _)) | (rw [upd_upd, upd_upd]; exact lay_upd hf (by rw [wr_die (by first | exact c28 | exact i_nle2 c105)]; unfold die; exact iMax_comm _ _)) | exact lay_upd hf (by rw [wr_die (by first | exact c28 | exact i_nle2 c105)]; unfold die; exact iMax_comm _ _) | (rw [upd_upd]; exact lay_upd hf (by rw [wr_mid c22 c28]; exact (grw_noB (Or.inl c37)).symm)) | (rw [upd_upd, upd_upd]; exact lay_upd hf (by rw [wr_mid c22 c28]; exact (grw_noB (Or.inl c37)).symm)) | exact lay_upd hf (by rw [wr_mid c22 c28]; exact (grw_noB (Or.inl c37)).symm) | (rw [upd_upd]; exact lay_upd hf (by rw [wr_mid c22 c28]; exact (grw_noB (Or.inr c51)).symm)) | (rw [upd_upd, upd_upd]; exact lay_upd hf (by rw [wr_mid c22 c28]; exact (grw_noB (Or.inr c51)).symm)) | exact lay_upd hf (by rw [wr_mid c22 c28]; exact (grw_noB (Or.inr c51)).symm) | (rw [upd_upd]; exact lay_upd hf (by rw [wr_mid c22 c28]; exact grw_yesB c37 c51 (by rw [if_neg (show ¬ 2 ≤ hbs (hd co) z by omega)]))) | (rw [upd_upd, upd_upd]; exact lay_upd hf (by rw [wr_mid c22 c28]; exact grw_yesB c37 c51 (by rw [if_neg (show ¬ 2 ≤ hbs (hd co) z by omega)]))) | exact lay_upd hf (by rw [wr_mid c22 c28]; exact grw_yesB c37 c51 (by rw [if_neg (show ¬ 2 ≤ hbs (hd co) z by omega)])) | (rw [upd_upd]; exact lay_upd hf (by rw [wr_mid c22 c28]; exact grw_yesB c37 c51 (by rw [if_pos (show 2 ≤ hbs (hd co) z by omega)]))) | (rw [upd_upd, upd_upd]; exact lay_upd hf (by rw [wr_mid c22 c28]; exact grw_yesB c37 c51 (by rw [if_pos (show 2 ≤ hbs (hd co) z by omega)]))) | exact lay_upd hf (by rw [wr_mid c22 c28]; exact grw_yesB c37 c51 (by rw [if_pos (show 2 ≤ hbs (hd co) z by omega)]))) (by omega) _ _ hP hD hS _ (lv_sub hl [0, 2, 3] rfl)
              · refine lv_aload_n hx hb dX5_grow_108 rfl (lv_at hl 2 rfl) ?_
                refine va_get (D := E.1) (ci := 5) (v := .ref (ad 6)) (C := RX5) (T := TX5) (N := 11) hx hb hts hin5 hown hK.1 hP 0 rfl rfl 8 (by decide) lk28 (fun _ h9 => h9) rfl dX5_grow_109 ?_
                refine lv_iload_n hx hb dX5_grow_112 rfl (lv_at hl 1 rfl) ?_
                refine lv_iconst (v := nI 0) hx hb dX5_grow_113 (by decide +kernel) ?_
                refine lv_aload_n hx hb dX5_grow_114 rfl (lv_at hl 2 rfl) ?_
                refine va_get (D := E.1) (ci := 5) (v := .ref (ad 1)) (C := RX5) (T := TX5) (N := 11) hx hb hts hin5 hown hK.1 hP 0 rfl rfl 2 (by decide) lk13 (fun _ h9 => h9) rfl dX5_grow_115 ?_
                refine lv_iload_n hx hb dX5_grow_118 rfl (lv_at hl 1 rfl) ?_
                refine e_iald hK hP 2 rfl z (by omega) (by decide) hx hb dX5_grow_119 ?_
                refine lv_iconst (v := nI 1) hx hb dX5_grow_120 (by decide +kernel) ?_
                refine lv_isub hx hb dX5_grow_121 ?_
                refine va_mmax hx hb (by rw [hml]; exact hl.1.symm) hown haml45 hamsmax hamini hamcmax (Nat.le_of_ble_eq_true rfl) (Nat.le_of_ble_eq_true rfl) (Nat.le_of_ble_eq_true rfl) (Nat.le_of_ble_eq_true rfl) dX5_grow_122 ?_
                refine e_top (y := iMax (nI 0) ((co z) - (nI 1))) rfl ?_
                refine e_iast hK hP hD hS 7 rfl z (by omega) (by decide) hx hb dX5_grow_125 (fun H locs hP hD hS => ?_)
                have hP : va_P E.1 vwCl (wMo E o ad th gr co sd tk wm st (nI mo) (upd (upd f z (co z)) z (iMax (nI 0) ((co z) - (nI 1)))) lb fr) H := hP
                have hD : va_D A (wMo E o ad th gr co sd tk wm st (nI mo) (upd (upd f z (co z)) z (iMax (nI 0) ((co z) - (nI 1)))) lb fr) := hD
                refine lv_iinc (v := nI (z + 1)) (lv' := [(2, .int (nI (z + 1))), (3, .int (nI 0)), (0, .ref o), (1, .int v)]) hx hb dX5_grow_126 hl (k := 1) rfl (nI_add z 1) (by decide) rfl (fun ls hl => ?_)
                refine lv_goto (tgt := 2) hx hb dX5_grow_129 (by decide) ?_
                exact ihL2 (z + 1) (upd (upd f z (co z)) z (iMax (nI 0) ((co z) - (nI 1)))) (by first | omega | assumption | rfl | (simp_all; done)) (by first | (exfalso; simp only [i_lt, i_le] at c22 c105; omega) | (exfalso; simp only [i_lt, i_le] at c28 c105; omega) | (rw [upd_upd]; exact lay_upd hf (by rw [wr_low c22])) | (rw [upd_upd, upd_upd]; exact lay_upd hf (by rw [wr_low c22])) | exact lay_upd hf (by rw [wr_low c22]) | (rw [upd_upd]; exact lay_upd hf (by rw [wr_die (by first | exact c28 | exact i_nle2 c105)]; unfold die; exact iMax_comm _ _)) | (rw [upd_upd, upd_upd]; exact lay_upd hf (by rw [wr_die (by first | exact c28 | exact i_nle2 c105)]; unfold die; exact iMax_comm _ _)) | exact lay_upd hf (by rw [wr_die (by first | exact c28 | exact i_nle2 c105)]; unfold die; exact iMax_comm _ _) | (rw [upd_upd]; exact lay_upd hf (by rw [wr_mid c22 c28]; exact (grw_noB (Or.inl c37)).symm)) | (rw [upd_upd, upd_upd]; exact lay_upd hf (by rw [wr_mid c22 c28]; exact (grw_noB (Or.inl c37)).symm)) | exact lay_upd hf (by rw [wr_mid c22 c28]; exact (grw_noB (Or.inl c37)).symm) | (rw [upd_upd]; exact lay_upd hf (by rw [wr_mid c22 c28]; exact (grw_noB (Or.inr c51)).symm)) | (rw [upd_upd, upd_upd]; exact lay_upd hf (by rw [wr_mid c22 c28]; exact (grw_noB (Or.inr c51)).symm)) | exact lay_upd hf (by rw [wr_mid c22 c28]; exact (grw_noB (Or.inr c51)).symm) | (rw [upd_upd]; exact lay_upd hf (by rw [wr_mid c22 c28]; exact grw_yesB c37 c51 (by rw [if_neg (show ¬ 2 ≤ hbs (hd co) z by omega)]))) | (rw [upd_upd, upd_upd]; exact lay_upd hf (by rw [wr_mid c22 c28]; exact grw_yesB c37 c51 (by rw [if_neg (show ¬ 2 ≤ hbs (hd co) z by omega)]))) | exact lay_upd hf (by rw [wr_mid c22 c28]; exact grw_yesB c37 c51 (by rw [if_neg (show ¬ 2 ≤ hbs (hd co) z by omega)])) | (rw [upd_upd]; exact lay_upd hf (by rw [wr_mid c22 c28]; exact grw_yesB c37 c51 (by rw [if_pos (show 2 ≤ hbs (hd co) z by omega)]))) | (rw [upd_upd, upd_upd]; exact lay_upd hf (by rw [wr_mid c22 c28]; exact grw_yesB c37 c51 (by rw [if_pos (show 2 ≤ hbs (hd co) z by omega)]))) | exact lay_upd hf (by rw [wr_mid c22 c28]; exact grw_yesB c37 c51 (by rw [if_pos (show 2 ≤ hbs (hd co) z by omega)]))) (by omega) _ _ hP hD hS _ (lv_sub hl [0, 2, 3] rfl)
            · refine lv_aload_n hx hb dX5_grow_40 rfl (lv_at hl 1 rfl) ?_
              refine lv_iload_n hx hb dX5_grow_41 rfl (lv_at hl 0 rfl) ?_
              refine e_callV (As := [.int (nI z)]) (rest := []) ⟨hx, hb, hml, hown, hts⟩ hK hP hD hS hA hl.1 (c_X5_depth l E _ o ad th gr co sd tk wm st mo (upd f z (co z)) lb fr z (by first | omega | assumption | rfl | (simp_all; done))) (cwV 1 hts gX5_grow_X5_depth rfl rfl rfl (by decide +kernel) ⟨Nat.le_of_ble_eq_true rfl, Nat.le_of_ble_eq_true rfl⟩) [0, 1, 2, 3, 4, 5, 6, 7, 8, 9] [] rfl rfl rfl rfl (by decide) (q0 := 0) (ci := 5) rfl rfl rfl rfl (Nat.le_of_ble_eq_true rfl) dX5_grow_42 ⟨Nat.le_of_ble_eq_true rfl, Nat.le_of_ble_eq_true rfl⟩ (fun u_5 H locs hu_6 hsz1 hP hD hS => ?_)
              have hP : va_P E.1 vwCl (wMo E o ad th gr co sd tk wm st (nI mo) (upd f z (co z)) lb fr) H := hP.sub [0, 1, 2, 3, 4, 5, 6, 7, 8, 9] rfl
              have hD : va_D A (wMo E o ad th gr co sd tk wm st (nI mo) (upd f z (co z)) lb fr) := hD.sub [0, 1, 2, 3, 4, 5, 6, 7, 8, 9] (by decide) rfl
              refine W.eq (g2 := F0 m 45 ls [.int (dep gr co z)]) rfl ?_
              refine lv_iconst (v := nI 2) hx hb dX5_grow_45 (by decide +kernel) ?_
              refine lv_bipush (v := nI 15) hx hb dX5_grow_46 (by decide +kernel) ?_
              refine e_callS (As := [.int (dep gr co z), .int (nI 2), .int (nI 15)]) (rest := []) ⟨hx, hb, hml, hown, hts⟩ hK hP hD hS hA hl.1 (c_X5_isIn l E _ (dep gr co z) (nI 2) (nI 15)) (va_cwS 3 hts gX5_grow_X5_isIn rfl rfl rfl (by decide +kernel) ⟨Nat.le_of_ble_eq_true rfl, Nat.le_of_ble_eq_true rfl⟩) [] [0, 1, 2, 3, 4, 5, 6, 7, 8, 9] rfl rfl rfl rfl (by decide) rfl rfl (Nat.le_of_ble_eq_true rfl) dX5_grow_48 ⟨Nat.le_of_ble_eq_true rfl, Nat.le_of_ble_eq_true rfl⟩ (fun u_7 H locs hu_8 hsz1 hP hD hS => ?_)
              have hP : va_P E.1 vwCl (wMo E o ad th gr co sd tk wm st (nI mo) (upd f z (co z)) lb fr) H := hP.sub [0, 1, 2, 3, 4, 5, 6, 7, 8, 9] rfl
              have hD : va_D A (wMo E o ad th gr co sd tk wm st (nI mo) (upd f z (co z)) lb fr) := hD.sub [0, 1, 2, 3, 4, 5, 6, 7, 8, 9] (by decide) rfl
              refine W.eq (g2 := F0 m 51 ls [.int (b2i (isInB (dep gr co z) (nI 2) (nI 15)))]) rfl ?_
              refine b_if_eq (x := isInB (dep gr co z) (nI 2) (nI 15)) (tgt := 58) hx hb dX5_grow_51 (by decide) (fun c51 => ?_) (fun c51 => ?_)
              · refine lv_iconst (v := nI 0) hx hb dX5_grow_58 (by decide +kernel) ?_
                refine lv_istore_n (lv' := [(3, .int (nI 0)), (2, .int (nI z)), (0, .ref o), (1, .int v)]) hx hb dX5_grow_59 rfl hl (by decide) rfl (fun ls hl => ?_)
                refine lv_iload_n hx hb dX5_grow_60 rfl (lv_at hl 0 rfl) ?_
                refine n_if_eq (x := 0) (by omega) (tgt := 102) hx hb dX5_grow_61 (by decide) (fun c61 => ?_) (fun c61 => by omega)
                refine lv_iload_n hx hb dX5_grow_102 rfl (lv_at hl 3 rfl) ?_
                refine lv_bipush (v := nI 7) hx hb dX5_grow_103 (by decide +kernel) ?_
                refine lv_icmp_le (tgt := 126) hx hb dX5_grow_105 (by decide) (fun c105 => ?_) (fun c105 => ?_)
                · refine lv_iinc (v := nI (z + 1)) (lv' := [(2, .int (nI (z + 1))), (3, .int (nI 0)), (0, .ref o), (1, .int v)]) hx hb dX5_grow_126 hl (k := 1) rfl (nI_add z 1) (by decide) rfl (fun ls hl => ?_)
                  refine lv_goto (tgt := 2) hx hb dX5_grow_129 (by decide) ?_
                  exact ihL2 (z + 1) (upd f z (co z)) (by first | omega | assumption | rfl | (simp_all; done)) (by first | (exfalso; simp only [i_lt, i_le] at c22 c105; omega) | (exfalso; simp only [i_lt, i_le] at c28 c105; omega) | (rw [upd_upd]; exact lay_upd hf (by rw [wr_low c22])) | (rw [upd_upd, upd_upd]; exact lay_upd hf (by rw [wr_low c22])) | exact lay_upd hf (by rw [wr_low c22]) | (rw [upd_upd]; exact lay_upd hf (by rw [wr_die (by first | exact c28 | exact i_nle2 c105)]; unfold die; exact iMax_comm _ _)) | (rw [upd_upd, upd_upd]; exact lay_upd hf (by rw [wr_die (by first | exact c28 | exact i_nle2 c105)]; unfold die; exact iMax_comm _ _)) | exact lay_upd hf (by rw [wr_die (by first | exact c28 | exact i_nle2 c105)]; unfold die; exact iMax_comm _ _) | (rw [upd_upd]; exact lay_upd hf (by rw [wr_mid c22 c28]; exact (grw_noB (Or.inl c37)).symm)) | (rw [upd_upd, upd_upd]; exact lay_upd hf (by rw [wr_mid c22 c28]; exact (grw_noB (Or.inl c37)).symm)) | exact lay_upd hf (by rw [wr_mid c22 c28]; exact (grw_noB (Or.inl c37)).symm) | (rw [upd_upd]; exact lay_upd hf (by rw [wr_mid c22 c28]; exact (grw_noB (Or.inr c51)).symm)) | (rw [upd_upd, upd_upd]; exact lay_upd hf (by rw [wr_mid c22 c28]; exact (grw_noB (Or.inr c51)).symm)) | exact lay_upd hf (by rw [wr_mid c22 c28]; exact (grw_noB (Or.inr c51)).symm) | (rw [upd_upd]; exact lay_upd hf (by rw [wr_mid c22 c28]; exact grw_yesB c37 c51 (by rw [if_neg (show ¬ 2 ≤ hbs (hd co) z by omega)]))) | (rw [upd_upd, upd_upd]; exact lay_upd hf (by rw [wr_mid c22 c28]; exact grw_yesB c37 c51 (by rw [if_neg (show ¬ 2 ≤ hbs (hd co) z by omega)]))) | exact lay_upd hf (by rw [wr_mid c22 c28]; exact grw_yesB c37 c51 (by rw [if_neg (show ¬ 2 ≤ hbs (hd co) z by omega)])) | (rw [upd_upd]; exact lay_upd hf (by rw [wr_mid c22 c28]; exact grw_yesB c37 c51 (by rw [if_pos (show 2 ≤ hbs (hd co) z by omega)]))) | (rw [upd_upd, upd_upd]; exact lay_upd hf (by rw [wr_mid c22 c28]; exact grw_yesB c37 c51 (by rw [if_pos (show 2 ≤ hbs (hd co) z by omega)]))) | exact lay_upd hf (by rw [wr_mid c22 c28]; exact grw_yesB c37 c51 (by rw [if_pos (show 2 ≤ hbs (hd co) z by omega)]))) (by omega) _ _ hP hD hS _ (lv_sub hl [0, 2, 3] rfl)
                · refine lv_aload_n hx hb dX5_grow_108 rfl (lv_at hl 2 rfl) ?_
                  refine va_get (D := E.1) (ci := 5) (v := .ref (ad 6)) (C := RX5) (T := TX5) (N := 11) hx hb hts hin5 hown hK.1 hP 0 rfl rfl 8 (by decide) lk28 (fun _ h9 => h9) rfl dX5_grow_109 ?_
                  refine lv_iload_n hx hb dX5_grow_112 rfl (lv_at hl 1 rfl) ?_
                  refine lv_iconst (v := nI 0) hx hb dX5_grow_113 (by decide +kernel) ?_
                  refine lv_aload_n hx hb dX5_grow_114 rfl (lv_at hl 2 rfl) ?_
                  refine va_get (D := E.1) (ci := 5) (v := .ref (ad 1)) (C := RX5) (T := TX5) (N := 11) hx hb hts hin5 hown hK.1 hP 0 rfl rfl 2 (by decide) lk13 (fun _ h9 => h9) rfl dX5_grow_115 ?_
                  refine lv_iload_n hx hb dX5_grow_118 rfl (lv_at hl 1 rfl) ?_
                  refine e_iald hK hP 2 rfl z (by omega) (by decide) hx hb dX5_grow_119 ?_
                  refine lv_iconst (v := nI 1) hx hb dX5_grow_120 (by decide +kernel) ?_
                  refine lv_isub hx hb dX5_grow_121 ?_
                  refine va_mmax hx hb (by rw [hml]; exact hl.1.symm) hown haml45 hamsmax hamini hamcmax (Nat.le_of_ble_eq_true rfl) (Nat.le_of_ble_eq_true rfl) (Nat.le_of_ble_eq_true rfl) (Nat.le_of_ble_eq_true rfl) dX5_grow_122 ?_
                  refine e_top (y := iMax (nI 0) ((co z) - (nI 1))) rfl ?_
                  refine e_iast hK hP hD hS 7 rfl z (by omega) (by decide) hx hb dX5_grow_125 (fun H locs hP hD hS => ?_)
                  have hP : va_P E.1 vwCl (wMo E o ad th gr co sd tk wm st (nI mo) (upd (upd f z (co z)) z (iMax (nI 0) ((co z) - (nI 1)))) lb fr) H := hP
                  have hD : va_D A (wMo E o ad th gr co sd tk wm st (nI mo) (upd (upd f z (co z)) z (iMax (nI 0) ((co z) - (nI 1)))) lb fr) := hD
                  refine lv_iinc (v := nI (z + 1)) (lv' := [(2, .int (nI (z + 1))), (3, .int (nI 0)), (0, .ref o), (1, .int v)]) hx hb dX5_grow_126 hl (k := 1) rfl (nI_add z 1) (by decide) rfl (fun ls hl => ?_)
                  refine lv_goto (tgt := 2) hx hb dX5_grow_129 (by decide) ?_
                  exact ihL2 (z + 1) (upd (upd f z (co z)) z (iMax (nI 0) ((co z) - (nI 1)))) (by first | omega | assumption | rfl | (simp_all; done)) (by first | (exfalso; simp only [i_lt, i_le] at c22 c105; omega) | (exfalso; simp only [i_lt, i_le] at c28 c105; omega) | (rw [upd_upd]; exact lay_upd hf (by rw [wr_low c22])) | (rw [upd_upd, upd_upd]; exact lay_upd hf (by rw [wr_low c22])) | exact lay_upd hf (by rw [wr_low c22]) | (rw [upd_upd]; exact lay_upd hf (by rw [wr_die (by first | exact c28 | exact i_nle2 c105)]; unfold die; exact iMax_comm _ _)) | (rw [upd_upd, upd_upd]; exact lay_upd hf (by rw [wr_die (by first | exact c28 | exact i_nle2 c105)]; unfold die; exact iMax_comm _ _)) | exact lay_upd hf (by rw [wr_die (by first | exact c28 | exact i_nle2 c105)]; unfold die; exact iMax_comm _ _) | (rw [upd_upd]; exact lay_upd hf (by rw [wr_mid c22 c28]; exact (grw_noB (Or.inl c37)).symm)) | (rw [upd_upd, upd_upd]; exact lay_upd hf (by rw [wr_mid c22 c28]; exact (grw_noB (Or.inl c37)).symm)) | exact lay_upd hf (by rw [wr_mid c22 c28]; exact (grw_noB (Or.inl c37)).symm) | (rw [upd_upd]; exact lay_upd hf (by rw [wr_mid c22 c28]; exact (grw_noB (Or.inr c51)).symm)) | (rw [upd_upd, upd_upd]; exact lay_upd hf (by rw [wr_mid c22 c28]; exact (grw_noB (Or.inr c51)).symm)) | exact lay_upd hf (by rw [wr_mid c22 c28]; exact (grw_noB (Or.inr c51)).symm) | (rw [upd_upd]; exact lay_upd hf (by rw [wr_mid c22 c28]; exact grw_yesB c37 c51 (by rw [if_neg (show ¬ 2 ≤ hbs (hd co) z by omega)]))) | (rw [upd_upd, upd_upd]; exact lay_upd hf (by rw [wr_mid c22 c28]; exact grw_yesB c37 c51 (by rw [if_neg (show ¬ 2 ≤ hbs (hd co) z by omega)]))) | exact lay_upd hf (by rw [wr_mid c22 c28]; exact grw_yesB c37 c51 (by rw [if_neg (show ¬ 2 ≤ hbs (hd co) z by omega)])) | (rw [upd_upd]; exact lay_upd hf (by rw [wr_mid c22 c28]; exact grw_yesB c37 c51 (by rw [if_pos (show 2 ≤ hbs (hd co) z by omega)]))) | (rw [upd_upd, upd_upd]; exact lay_upd hf (by rw [wr_mid c22 c28]; exact grw_yesB c37 c51 (by rw [if_pos (show 2 ≤ hbs (hd co) z by omega)]))) | exact lay_upd hf (by rw [wr_mid c22 c28]; exact grw_yesB c37 c51 (by rw [if_pos (show 2 ≤ hbs (hd co) z by omega)]))) (by omega) _ _ hP hD hS _ (lv_sub hl [0, 2, 3] rfl)
              · refine lv_iconst (v := nI 1) hx hb dX5_grow_54 (by decide +kernel) ?_
                refine lv_goto (tgt := 59) hx hb dX5_grow_55 (by decide) ?_
                refine lv_istore_n (lv' := [(3, .int (nI 1)), (2, .int (nI z)), (0, .ref o), (1, .int v)]) hx hb dX5_grow_59 rfl hl (by decide) rfl (fun ls hl => ?_)
                refine lv_iload_n hx hb dX5_grow_60 rfl (lv_at hl 0 rfl) ?_
                refine n_if_eq (x := 1) (by omega) (tgt := 102) hx hb dX5_grow_61 (by decide) (fun c61 => by omega) (fun c61 => ?_)
                refine lv_aload_n hx hb dX5_grow_64 rfl (lv_at hl 2 rfl) ?_
                refine va_get (D := E.1) (ci := 5) (v := .ref (ad 6)) (C := RX5) (T := TX5) (N := 11) hx hb hts hin5 hown hK.1 hP 0 rfl rfl 8 (by decide) lk28 (fun _ h9 => h9) rfl dX5_grow_65 ?_
                refine lv_iload_n hx hb dX5_grow_68 rfl (lv_at hl 1 rfl) ?_
                refine lv_aload_n hx hb dX5_grow_69 rfl (lv_at hl 2 rfl) ?_
                refine va_get (D := E.1) (ci := 5) (v := .ref (ad 0)) (C := RX5) (T := TX5) (N := 11) hx hb hts hin5 hown hK.1 hP 0 rfl rfl 1 (by decide) lk9 (fun _ h9 => h9) rfl dX5_grow_70 ?_
                refine lv_iload_n hx hb dX5_grow_73 rfl (lv_at hl 1 rfl) ?_
                refine e_iald hK hP 1 rfl z (by omega) (by decide) hx hb dX5_grow_74 ?_
                refine lv_iconst (v := nI 1) hx hb dX5_grow_75 (by decide +kernel) ?_
                refine lv_isub hx hb dX5_grow_76 ?_
                refine lv_aload_n hx hb dX5_grow_77 rfl (lv_at hl 2 rfl) ?_
                refine va_get (D := E.1) (ci := 5) (v := .ref (ad 1)) (C := RX5) (T := TX5) (N := 11) hx hb hts hin5 hown hK.1 hP 0 rfl rfl 2 (by decide) lk13 (fun _ h9 => h9) rfl dX5_grow_78 ?_
                refine lv_iload_n hx hb dX5_grow_81 rfl (lv_at hl 1 rfl) ?_
                refine e_iald hK hP 2 rfl z (by omega) (by decide) hx hb dX5_grow_82 ?_
                refine lv_aload_n hx hb dX5_grow_83 rfl (lv_at hl 2 rfl) ?_
                refine lv_iload_n hx hb dX5_grow_84 rfl (lv_at hl 1 rfl) ?_
                refine e_callV (As := [.int (nI z)]) (rest := [.int (co z), .int ((gr z) - (nI 1)), .int (nI z), .ref (ad 6)]) ⟨hx, hb, hml, hown, hts⟩ hK hP hD hS hA hl.1 (c_X5_headsBeside l E _ o ad th gr co sd tk wm st mo (upd f z (co z)) lb fr z (by first | omega | assumption | rfl | (simp_all; done))) (cwV 1 hts gX5_grow_X5_headsBeside rfl rfl rfl (by decide +kernel) ⟨Nat.le_of_ble_eq_true rfl, Nat.le_of_ble_eq_true rfl⟩) [0, 1, 2, 3, 4, 5, 6, 7, 8, 9] [] rfl rfl rfl rfl (by decide) (q0 := 0) (ci := 5) rfl rfl rfl rfl (Nat.le_of_ble_eq_true rfl) dX5_grow_85 ⟨Nat.le_of_ble_eq_true rfl, Nat.le_of_ble_eq_true rfl⟩ (fun u_9 H locs hu_10 hsz1 hP hD hS => ?_)
                have hP : va_P E.1 vwCl (wMo E o ad th gr co sd tk wm st (nI mo) (upd f z (co z)) lb fr) H := hP.sub [0, 1, 2, 3, 4, 5, 6, 7, 8, 9] rfl
                have hD : va_D A (wMo E o ad th gr co sd tk wm st (nI mo) (upd f z (co z)) lb fr) := hD.sub [0, 1, 2, 3, 4, 5, 6, 7, 8, 9] (by decide) rfl
                refine W.eq (g2 := F0 m 88 ls [.int (nI (hbs (hd co) z)), .int (co z), .int ((gr z) - (nI 1)), .int (nI z), .ref (ad 6)]) rfl ?_
                refine lv_iconst (v := nI 1) hx hb dX5_grow_88 (by decide +kernel) ?_
                refine n_icmp_le (x := hbs (hd co) z) (y := 1) (by omega) (by omega) (tgt := 96) hx hb dX5_grow_89 (by decide) (fun c89 => ?_) (fun c89 => ?_)
                · refine lv_iconst (v := nI 1) hx hb dX5_grow_96 (by decide +kernel) ?_
                  refine lv_iadd hx hb dX5_grow_97 ?_
                  refine va_mmin hx hb (by rw [hml]; exact hl.1.symm) hown haml66 hamsmin hamini hamcmin (Nat.le_of_ble_eq_true rfl) (Nat.le_of_ble_eq_true rfl) (Nat.le_of_ble_eq_true rfl) (Nat.le_of_ble_eq_true rfl) dX5_grow_98 ?_
                  refine e_top (y := iMin ((gr z) - (nI 1)) ((co z) + (nI 1))) rfl ?_
                  refine e_iast hK hP hD hS 7 rfl z (by omega) (by decide) hx hb dX5_grow_101 (fun H locs hP hD hS => ?_)
                  have hP : va_P E.1 vwCl (wMo E o ad th gr co sd tk wm st (nI mo) (upd (upd f z (co z)) z (iMin ((gr z) - (nI 1)) ((co z) + (nI 1)))) lb fr) H := hP
                  have hD : va_D A (wMo E o ad th gr co sd tk wm st (nI mo) (upd (upd f z (co z)) z (iMin ((gr z) - (nI 1)) ((co z) + (nI 1)))) lb fr) := hD
                  refine lv_iload_n hx hb dX5_grow_102 rfl (lv_at hl 3 rfl) ?_
                  refine lv_bipush (v := nI 7) hx hb dX5_grow_103 (by decide +kernel) ?_
                  refine lv_icmp_le (tgt := 126) hx hb dX5_grow_105 (by decide) (fun c105 => ?_) (fun c105 => ?_)
                  · refine lv_iinc (v := nI (z + 1)) (lv' := [(2, .int (nI (z + 1))), (3, .int (nI 1)), (0, .ref o), (1, .int v)]) hx hb dX5_grow_126 hl (k := 1) rfl (nI_add z 1) (by decide) rfl (fun ls hl => ?_)
                    refine lv_goto (tgt := 2) hx hb dX5_grow_129 (by decide) ?_
                    exact ihL2 (z + 1) (upd (upd f z (co z)) z (iMin ((gr z) - (nI 1)) ((co z) + (nI 1)))) (by first | omega | assumption | rfl | (simp_all; done)) (by first | (exfalso; simp only [i_lt, i_le] at c22 c105; omega) | (exfalso; simp only [i_lt, i_le] at c28 c105; omega) | (rw [upd_upd]; exact lay_upd hf (by rw [wr_low c22])) | (rw [upd_upd, upd_upd]; exact lay_upd hf (by rw [wr_low c22])) | exact lay_upd hf (by rw [wr_low c22]) | (rw [upd_upd]; exact lay_upd hf (by rw [wr_die (by first | exact c28 | exact i_nle2 c105)]; unfold die; exact iMax_comm _ _)) | (rw [upd_upd, upd_upd]; exact lay_upd hf (by rw [wr_die (by first | exact c28 | exact i_nle2 c105)]; unfold die; exact iMax_comm _ _)) | exact lay_upd hf (by rw [wr_die (by first | exact c28 | exact i_nle2 c105)]; unfold die; exact iMax_comm _ _) | (rw [upd_upd]; exact lay_upd hf (by rw [wr_mid c22 c28]; exact (grw_noB (Or.inl c37)).symm)) | (rw [upd_upd, upd_upd]; exact lay_upd hf (by rw [wr_mid c22 c28]; exact (grw_noB (Or.inl c37)).symm)) | exact lay_upd hf (by rw [wr_mid c22 c28]; exact (grw_noB (Or.inl c37)).symm) | (rw [upd_upd]; exact lay_upd hf (by rw [wr_mid c22 c28]; exact (grw_noB (Or.inr c51)).symm)) | (rw [upd_upd, upd_upd]; exact lay_upd hf (by rw [wr_mid c22 c28]; exact (grw_noB (Or.inr c51)).symm)) | exact lay_upd hf (by rw [wr_mid c22 c28]; exact (grw_noB (Or.inr c51)).symm) | (rw [upd_upd]; exact lay_upd hf (by rw [wr_mid c22 c28]; exact grw_yesB c37 c51 (by rw [if_neg (show ¬ 2 ≤ hbs (hd co) z by omega)]))) | (rw [upd_upd, upd_upd]; exact lay_upd hf (by rw [wr_mid c22 c28]; exact grw_yesB c37 c51 (by rw [if_neg (show ¬ 2 ≤ hbs (hd co) z by omega)]))) | exact lay_upd hf (by rw [wr_mid c22 c28]; exact grw_yesB c37 c51 (by rw [if_neg (show ¬ 2 ≤ hbs (hd co) z by omega)])) | (rw [upd_upd]; exact lay_upd hf (by rw [wr_mid c22 c28]; exact grw_yesB c37 c51 (by rw [if_pos (show 2 ≤ hbs (hd co) z by omega)]))) | (rw [upd_upd, upd_upd]; exact lay_upd hf (by rw [wr_mid c22 c28]; exact grw_yesB c37 c51 (by rw [if_pos (show 2 ≤ hbs (hd co) z by omega)]))) | exact lay_upd hf (by rw [wr_mid c22 c28]; exact grw_yesB c37 c51 (by rw [if_pos (show 2 ≤ hbs (hd co) z by omega)]))) (by omega) _ _ hP hD hS _ (lv_sub hl [0, 2, 3] rfl)
                  · refine lv_aload_n hx hb dX5_grow_108 rfl (lv_at hl 2 rfl) ?_
                    refine va_get (D := E.1) (ci := 5) (v := .ref (ad 6)) (C := RX5) (T := TX5) (N := 11) hx hb hts hin5 hown hK.1 hP 0 rfl rfl 8 (by decide) lk28 (fun _ h9 => h9) rfl dX5_grow_109 ?_
                    refine lv_iload_n hx hb dX5_grow_112 rfl (lv_at hl 1 rfl) ?_
                    refine lv_iconst (v := nI 0) hx hb dX5_grow_113 (by decide +kernel) ?_
                    refine lv_aload_n hx hb dX5_grow_114 rfl (lv_at hl 2 rfl) ?_
                    refine va_get (D := E.1) (ci := 5) (v := .ref (ad 1)) (C := RX5) (T := TX5) (N := 11) hx hb hts hin5 hown hK.1 hP 0 rfl rfl 2 (by decide) lk13 (fun _ h9 => h9) rfl dX5_grow_115 ?_
                    refine lv_iload_n hx hb dX5_grow_118 rfl (lv_at hl 1 rfl) ?_
                    refine e_iald hK hP 2 rfl z (by omega) (by decide) hx hb dX5_grow_119 ?_
                    refine lv_iconst (v := nI 1) hx hb dX5_grow_120 (by decide +kernel) ?_
                    refine lv_isub hx hb dX5_grow_121 ?_
                    refine va_mmax hx hb (by rw [hml]; exact hl.1.symm) hown haml45 hamsmax hamini hamcmax (Nat.le_of_ble_eq_true rfl) (Nat.le_of_ble_eq_true rfl) (Nat.le_of_ble_eq_true rfl) (Nat.le_of_ble_eq_true rfl) dX5_grow_122 ?_
                    refine e_top (y := iMax (nI 0) ((co z) - (nI 1))) rfl ?_
                    refine e_iast hK hP hD hS 7 rfl z (by omega) (by decide) hx hb dX5_grow_125 (fun H locs hP hD hS => ?_)
                    have hP : va_P E.1 vwCl (wMo E o ad th gr co sd tk wm st (nI mo) (upd (upd (upd f z (co z)) z (iMin ((gr z) - (nI 1)) ((co z) + (nI 1)))) z (iMax (nI 0) ((co z) - (nI 1)))) lb fr) H := hP
                    have hD : va_D A (wMo E o ad th gr co sd tk wm st (nI mo) (upd (upd (upd f z (co z)) z (iMin ((gr z) - (nI 1)) ((co z) + (nI 1)))) z (iMax (nI 0) ((co z) - (nI 1)))) lb fr) := hD
                    refine lv_iinc (v := nI (z + 1)) (lv' := [(2, .int (nI (z + 1))), (3, .int (nI 1)), (0, .ref o), (1, .int v)]) hx hb dX5_grow_126 hl (k := 1) rfl (nI_add z 1) (by decide) rfl (fun ls hl => ?_)
                    refine lv_goto (tgt := 2) hx hb dX5_grow_129 (by decide) ?_
                    exact ihL2 (z + 1) (upd (upd (upd f z (co z)) z (iMin ((gr z) - (nI 1)) ((co z) + (nI 1)))) z (iMax (nI 0) ((co z) - (nI 1)))) (by first | omega | assumption | rfl | (simp_all; done)) (by first | (exfalso; simp only [i_lt, i_le] at c22 c105; omega) | (exfalso; simp only [i_lt, i_le] at c28 c105; omega) | (rw [upd_upd]; exact lay_upd hf (by rw [wr_low c22])) | (rw [upd_upd, upd_upd]; exact lay_upd hf (by rw [wr_low c22])) | exact lay_upd hf (by rw [wr_low c22]) | (rw [upd_upd]; exact lay_upd hf (by rw [wr_die (by first | exact c28 | exact i_nle2 c105)]; unfold die; exact iMax_comm _ _)) | (rw [upd_upd, upd_upd]; exact lay_upd hf (by rw [wr_die (by first | exact c28 | exact i_nle2 c105)]; unfold die; exact iMax_comm _ _)) | exact lay_upd hf (by rw [wr_die (by first | exact c28 | exact i_nle2 c105)]; unfold die; exact iMax_comm _ _) | (rw [upd_upd]; exact lay_upd hf (by rw [wr_mid c22 c28]; exact (grw_noB (Or.inl c37)).symm)) | (rw [upd_upd, upd_upd]; exact lay_upd hf (by rw [wr_mid c22 c28]; exact (grw_noB (Or.inl c37)).symm)) | exact lay_upd hf (by rw [wr_mid c22 c28]; exact (grw_noB (Or.inl c37)).symm) | (rw [upd_upd]; exact lay_upd hf (by rw [wr_mid c22 c28]; exact (grw_noB (Or.inr c51)).symm)) | (rw [upd_upd, upd_upd]; exact lay_upd hf (by rw [wr_mid c22 c28]; exact (grw_noB (Or.inr c51)).symm)) | exact lay_upd hf (by rw [wr_mid c22 c28]; exact (grw_noB (Or.inr c51)).symm) | (rw [upd_upd]; exact lay_upd hf (by rw [wr_mid c22 c28]; exact grw_yesB c37 c51 (by rw [if_neg (show ¬ 2 ≤ hbs (hd co) z by omega)]))) | (rw [upd_upd, upd_upd]; exact lay_upd hf (by rw [wr_mid c22 c28]; exact grw_yesB c37 c51 (by rw [if_neg (show ¬ 2 ≤ hbs (hd co) z by omega)]))) | exact lay_upd hf (by rw [wr_mid c22 c28]; exact grw_yesB c37 c51 (by rw [if_neg (show ¬ 2 ≤ hbs (hd co) z by omega)])) | (rw [upd_upd]; exact lay_upd hf (by rw [wr_mid c22 c28]; exact grw_yesB c37 c51 (by rw [if_pos (show 2 ≤ hbs (hd co) z by omega)]))) | (rw [upd_upd, upd_upd]; exact lay_upd hf (by rw [wr_mid c22 c28]; exact grw_yesB c37 c51 (by rw [if_pos (show 2 ≤ hbs (hd co) z by omega)]))) | exact lay_upd hf (by rw [wr_mid c22 c28]; exact grw_yesB c37 c51 (by rw [if_pos (show 2 ≤ hbs (hd co) z by omega)]))) (by omega) _ _ hP hD hS _ (lv_sub hl [0, 2, 3] rfl)
                · refine lv_iconst (v := nI 2) hx hb dX5_grow_92 (by decide +kernel) ?_
                  refine lv_goto (tgt := 97) hx hb dX5_grow_93 (by decide) ?_
                  refine lv_iadd hx hb dX5_grow_97 ?_
                  refine va_mmin hx hb (by rw [hml]; exact hl.1.symm) hown haml66 hamsmin hamini hamcmin (Nat.le_of_ble_eq_true rfl) (Nat.le_of_ble_eq_true rfl) (Nat.le_of_ble_eq_true rfl) (Nat.le_of_ble_eq_true rfl) dX5_grow_98 ?_
                  refine e_top (y := iMin ((gr z) - (nI 1)) ((co z) + (nI 2))) rfl ?_
                  refine e_iast hK hP hD hS 7 rfl z (by omega) (by decide) hx hb dX5_grow_101 (fun H locs hP hD hS => ?_)
                  have hP : va_P E.1 vwCl (wMo E o ad th gr co sd tk wm st (nI mo) (upd (upd f z (co z)) z (iMin ((gr z) - (nI 1)) ((co z) + (nI 2)))) lb fr) H := hP
                  have hD : va_D A (wMo E o ad th gr co sd tk wm st (nI mo) (upd (upd f z (co z)) z (iMin ((gr z) - (nI 1)) ((co z) + (nI 2)))) lb fr) := hD
                  refine lv_iload_n hx hb dX5_grow_102 rfl (lv_at hl 3 rfl) ?_
                  refine lv_bipush (v := nI 7) hx hb dX5_grow_103 (by decide +kernel) ?_
                  refine lv_icmp_le (tgt := 126) hx hb dX5_grow_105 (by decide) (fun c105 => ?_) (fun c105 => ?_)
                  · refine lv_iinc (v := nI (z + 1)) (lv' := [(2, .int (nI (z + 1))), (3, .int (nI 1)), (0, .ref o), (1, .int v)]) hx hb dX5_grow_126 hl (k := 1) rfl (nI_add z 1) (by decide) rfl (fun ls hl => ?_)
                    refine lv_goto (tgt := 2) hx hb dX5_grow_129 (by decide) ?_
                    exact ihL2 (z + 1) (upd (upd f z (co z)) z (iMin ((gr z) - (nI 1)) ((co z) + (nI 2)))) (by first | omega | assumption | rfl | (simp_all; done)) (by first | (exfalso; simp only [i_lt, i_le] at c22 c105; omega) | (exfalso; simp only [i_lt, i_le] at c28 c105; omega) | (rw [upd_upd]; exact lay_upd hf (by rw [wr_low c22])) | (rw [upd_upd, upd_upd]; exact lay_upd hf (by rw [wr_low c22])) | exact lay_upd hf (by rw [wr_low c22]) | (rw [upd_upd]; exact lay_upd hf (by rw [wr_die (by first | exact c28 | exact i_nle2 c105)]; unfold die; exact iMax_comm _ _)) | (rw [upd_upd, upd_upd]; exact lay_upd hf (by rw [wr_die (by first | exact c28 | exact i_nle2 c105)]; unfold die; exact iMax_comm _ _)) | exact lay_upd hf (by rw [wr_die (by first | exact c28 | exact i_nle2 c105)]; unfold die; exact iMax_comm _ _) | (rw [upd_upd]; exact lay_upd hf (by rw [wr_mid c22 c28]; exact (grw_noB (Or.inl c37)).symm)) | (rw [upd_upd, upd_upd]; exact lay_upd hf (by rw [wr_mid c22 c28]; exact (grw_noB (Or.inl c37)).symm)) | exact lay_upd hf (by rw [wr_mid c22 c28]; exact (grw_noB (Or.inl c37)).symm) | (rw [upd_upd]; exact lay_upd hf (by rw [wr_mid c22 c28]; exact (grw_noB (Or.inr c51)).symm)) | (rw [upd_upd, upd_upd]; exact lay_upd hf (by rw [wr_mid c22 c28]; exact (grw_noB (Or.inr c51)).symm)) | exact lay_upd hf (by rw [wr_mid c22 c28]; exact (grw_noB (Or.inr c51)).symm) | (rw [upd_upd]; exact lay_upd hf (by rw [wr_mid c22 c28]; exact grw_yesB c37 c51 (by rw [if_neg (show ¬ 2 ≤ hbs (hd co) z by omega)]))) | (rw [upd_upd, upd_upd]; exact lay_upd hf (by rw [wr_mid c22 c28]; exact grw_yesB c37 c51 (by rw [if_neg (show ¬ 2 ≤ hbs (hd co) z by omega)]))) | exact lay_upd hf (by rw [wr_mid c22 c28]; exact grw_yesB c37 c51 (by rw [if_neg (show ¬ 2 ≤ hbs (hd co) z by omega)])) | (rw [upd_upd]; exact lay_upd hf (by rw [wr_mid c22 c28]; exact grw_yesB c37 c51 (by rw [if_pos (show 2 ≤ hbs (hd co) z by omega)]))) | (rw [upd_upd, upd_upd]; exact lay_upd hf (by rw [wr_mid c22 c28]; exact grw_yesB c37 c51 (by rw [if_pos (show 2 ≤ hbs (hd co) z by omega)]))) | exact lay_upd hf (by rw [wr_mid c22 c28]; exact grw_yesB c37 c51 (by rw [if_pos (show 2 ≤ hbs (hd co) z by omega)]))) (by omega) _ _ hP hD hS _ (lv_sub hl [0, 2, 3] rfl)
                  · refine lv_aload_n hx hb dX5_grow_108 rfl (lv_at hl 2 rfl) ?_
                    refine va_get (D := E.1) (ci := 5) (v := .ref (ad 6)) (C := RX5) (T := TX5) (N := 11) hx hb hts hin5 hown hK.1 hP 0 rfl rfl 8 (by decide) lk28 (fun _ h9 => h9) rfl dX5_grow_109 ?_
                    refine lv_iload_n hx hb dX5_grow_112 rfl (lv_at hl 1 rfl) ?_
                    refine lv_iconst (v := nI 0) hx hb dX5_grow_113 (by decide +kernel) ?_
                    refine lv_aload_n hx hb dX5_grow_114 rfl (lv_at hl 2 rfl) ?_
                    refine va_get (D := E.1) (ci := 5) (v := .ref (ad 1)) (C := RX5) (T := TX5) (N := 11) hx hb hts hin5 hown hK.1 hP 0 rfl rfl 2 (by decide) lk13 (fun _ h9 => h9) rfl dX5_grow_115 ?_
                    refine lv_iload_n hx hb dX5_grow_118 rfl (lv_at hl 1 rfl) ?_
                    refine e_iald hK hP 2 rfl z (by omega) (by decide) hx hb dX5_grow_119 ?_
                    refine lv_iconst (v := nI 1) hx hb dX5_grow_120 (by decide +kernel) ?_
                    refine lv_isub hx hb dX5_grow_121 ?_
                    refine va_mmax hx hb (by rw [hml]; exact hl.1.symm) hown haml45 hamsmax hamini hamcmax (Nat.le_of_ble_eq_true rfl) (Nat.le_of_ble_eq_true rfl) (Nat.le_of_ble_eq_true rfl) (Nat.le_of_ble_eq_true rfl) dX5_grow_122 ?_
                    refine e_top (y := iMax (nI 0) ((co z) - (nI 1))) rfl ?_
                    refine e_iast hK hP hD hS 7 rfl z (by omega) (by decide) hx hb dX5_grow_125 (fun H locs hP hD hS => ?_)
                    have hP : va_P E.1 vwCl (wMo E o ad th gr co sd tk wm st (nI mo) (upd (upd (upd f z (co z)) z (iMin ((gr z) - (nI 1)) ((co z) + (nI 2)))) z (iMax (nI 0) ((co z) - (nI 1)))) lb fr) H := hP
                    have hD : va_D A (wMo E o ad th gr co sd tk wm st (nI mo) (upd (upd (upd f z (co z)) z (iMin ((gr z) - (nI 1)) ((co z) + (nI 2)))) z (iMax (nI 0) ((co z) - (nI 1)))) lb fr) := hD
                    refine lv_iinc (v := nI (z + 1)) (lv' := [(2, .int (nI (z + 1))), (3, .int (nI 1)), (0, .ref o), (1, .int v)]) hx hb dX5_grow_126 hl (k := 1) rfl (nI_add z 1) (by decide) rfl (fun ls hl => ?_)
                    refine lv_goto (tgt := 2) hx hb dX5_grow_129 (by decide) ?_
                    exact ihL2 (z + 1) (upd (upd (upd f z (co z)) z (iMin ((gr z) - (nI 1)) ((co z) + (nI 2)))) z (iMax (nI 0) ((co z) - (nI 1)))) (by first | omega | assumption | rfl | (simp_all; done)) (by first | (exfalso; simp only [i_lt, i_le] at c22 c105; omega) | (exfalso; simp only [i_lt, i_le] at c28 c105; omega) | (rw [upd_upd]; exact lay_upd hf (by rw [wr_low c22])) | (rw [upd_upd, upd_upd]; exact lay_upd hf (by rw [wr_low c22])) | exact lay_upd hf (by rw [wr_low c22]) | (rw [upd_upd]; exact lay_upd hf (by rw [wr_die (by first | exact c28 | exact i_nle2 c105)]; unfold die; exact iMax_comm _ _)) | (rw [upd_upd, upd_upd]; exact lay_upd hf (by rw [wr_die (by first | exact c28 | exact i_nle2 c105)]; unfold die; exact iMax_comm _ _)) | exact lay_upd hf (by rw [wr_die (by first | exact c28 | exact i_nle2 c105)]; unfold die; exact iMax_comm _ _) | (rw [upd_upd]; exact lay_upd hf (by rw [wr_mid c22 c28]; exact (grw_noB (Or.inl c37)).symm)) | (rw [upd_upd, upd_upd]; exact lay_upd hf (by rw [wr_mid c22 c28]; exact (grw_noB (Or.inl c37)).symm)) | exact lay_upd hf (by rw [wr_mid c22 c28]; exact (grw_noB (Or.inl c37)).symm) | (rw [upd_upd]; exact lay_upd hf (by rw [wr_mid c22 c28]; exact (grw_noB (Or.inr c51)).symm)) | (rw [upd_upd, upd_upd]; exact lay_upd hf (by rw [wr_mid c22 c28]; exact (grw_noB (Or.inr c51)).symm)) | exact lay_upd hf (by rw [wr_mid c22 c28]; exact (grw_noB (Or.inr c51)).symm) | (rw [upd_upd]; exact lay_upd hf (by rw [wr_mid c22 c28]; exact grw_yesB c37 c51 (by rw [if_neg (show ¬ 2 ≤ hbs (hd co) z by omega)]))) | (rw [upd_upd, upd_upd]; exact lay_upd hf (by rw [wr_mid c22 c28]; exact grw_yesB c37 c51 (by rw [if_neg (show ¬ 2 ≤ hbs (hd co) z by omega)]))) | exact lay_upd hf (by rw [wr_mid c22 c28]; exact grw_yesB c37 c51 (by rw [if_neg (show ¬ 2 ≤ hbs (hd co) z by omega)])) | (rw [upd_upd]; exact lay_upd hf (by rw [wr_mid c22 c28]; exact grw_yesB c37 c51 (by rw [if_pos (show 2 ≤ hbs (hd co) z by omega)]))) | (rw [upd_upd, upd_upd]; exact lay_upd hf (by rw [wr_mid c22 c28]; exact grw_yesB c37 c51 (by rw [if_pos (show 2 ≤ hbs (hd co) z by omega)]))) | exact lay_upd hf (by rw [wr_mid c22 c28]; exact grw_yesB c37 c51 (by rw [if_pos (show 2 ≤ hbs (hd co) z by omega)]))) (by omega) _ _ hP hD hS _ (lv_sub hl [0, 2, 3] rfl)
  exact L2 (81 - 0 + 1) 0 nx (by first | omega | assumption | rfl | (simp_all; done)) (lay_0) (Nat.lt_succ_self _) _ _ hP hD hS _ (lv_sub hl [0, 1, 2] rfl)

abbrev rm_X5_blow : Room := { frames := 2, cells := 0, slots := 0, locals := 34 }
set_option maxHeartbeats 4000000 in
set_option maxRecDepth 100000 in
theorem c_X5_blow (l : Launch) (E : eT) (sz : Nat) (o : Nat) (ad : Nat → Nat) (th : Int32) (gr : Nat → Int32) (co : Nat → Int32) (sd : Nat → Int32) (tk : Nat → Int32) (wm : Nat → Int32) (st : Nat → Int32) (mo : Nat) (nx : Nat → Int32) (lb : Nat → Option Nat) (fr : Nat → Nat) (v : Int32) (hv0 : 0 ≤ v.toInt) (hv9 : v.toInt ≤ 9) (hR : Rg gr co) : cM l yX5_blow wsX5_blow rm_X5_blow E sz [.ref o, .int v] (wMo E o ad th gr co sd tk wm st (nI mo) nx lb fr) (fun u : Unit => none) (fun u : Unit => True) (fun u : Unit => wMo E o ad th ((blows v (gr, co) 81).1) ((blows v (gr, co) 81).2) sd tk wm st (nI mo) nx lb fr) := by
  refine cM_intro (cc := cX5_blow) (maxL := 5) (ret := none) (by decide +kernel) rfl (Nat.le_of_ble_eq_true rfl) ?_
  intro p e s m args below meth cd hx hb hr hml hown hlocks hts hnm hK hsz hP A hD hA Q hQ ls hl
  have hown : s.vm.findClass RX5 = some m.cls := hown
  have hin5 : ∀ w ∈ u_ws RX5 TX5 11, w ∈ wsX5_blow := by decide +kernel
  have lk9 := hts (.fieldLink RX5 9 "ReefPilotModel" "ground" "[I") (by decide +kernel)
  have lk13 := hts (.fieldLink RX5 13 "ReefPilotModel" "coral" "[I") (by decide +kernel)
  have hamcmax := hts (.code Lib.Math.max.name Lib.Math.max.code 2 (some .int)) (by decide +kernel)
  have hamcmin := hts (.code Lib.Math.min.name Lib.Math.min.code 2 (some .int)) (by decide +kernel)
  have hamini := hts (.initialized "java/lang/Math") (by decide +kernel)
  have haml45 := hts (.methodLink RX5 45 Lib.Math.max.name) (by decide +kernel)
  have haml66 := hts (.methodLink RX5 66 Lib.Math.min.name) (by decide +kernel)
  have hamsmax := hts (.static Lib.Math.max.name) (by decide +kernel)
  have hamsmin := hts (.static Lib.Math.min.name) (by decide +kernel)
  have hS : va_S A s.heap s.heap [] := va_S.rf
  have hl : lv_has ls 5 [(0, .ref o), (1, .int v)] := hl
  refine lv_iconst (v := nI 0) hx hb dX5_blow_0 (by decide +kernel) ?_
  refine lv_istore_n (lv' := [(2, .int (nI 0)), (0, .ref o), (1, .int v)]) hx hb dX5_blow_1 rfl hl (by decide) rfl (fun ls hl => ?_)
  have L2 : ∀ (fuel : Nat) (z : Nat) (g : Nat → Int32) (f : Nat → Int32) (hz : z ≤ 81) (hg : g = (blows v (gr, co) z).1) (hf : f = (blows v (gr, co) z).2) (hfuel : 81 - z < fuel) (H : Heap) (locs : List Loc), va_P E.1 vwCl (wMo E o ad th g f sd tk wm st (nI mo) nx lb fr) H → va_D A (wMo E o ad th g f sd tk wm st (nI mo) nx lb fr) → va_S A s.heap H locs → ∀ ls : Array Slot, lv_has ls 5 [(2, .int (nI z)), (0, .ref o), (1, .int v)] → W p l e rm_X5_blow s m args below meth cd H locs 0 0 Q (F0 m 2 ls []) := by
    intro fuel
    induction fuel with
    | zero => intros; omega
    | succ fuel ihL2 =>
      intro z g f hz hg hf hfuel H locs hP hD hS ls hl
      have hb1 : blows v (gr, co) (z + 1) = blow1 v (g, f) z := by rw [hg, hf]; rfl
      have hRz : Rg g f := by rw [hg, hf]; exact Rg_blows hv0 hv9 hR z hz
      refine lv_iload_n hx hb dX5_blow_2 rfl (lv_at hl 0 rfl) ?_
      refine lv_bipush (v := nI 81) hx hb dX5_blow_3 (by decide +kernel) ?_
      refine n_icmp_ge (x := z) (y := 81) (by omega) (by omega) (tgt := 99) hx hb dX5_blow_5 (by decide) (fun c5 => ?_) (fun c5 => ?_)
      · have hP := e_cong hP 1 (g := (blows v (gr, co) 81).1) rfl (fun k _ => by rw [hg, show z = 81 by omega])
        have hD := va_D.set (e := .inl (E.2.1, 81, .inl ((blows v (gr, co) 81).1))) hD (p := 1) rfl
        have hP : va_P E.1 vwCl (wMo E o ad th ((blows v (gr, co) 81).1) f sd tk wm st (nI mo) nx lb fr) H := hP
        have hD : va_D A (wMo E o ad th ((blows v (gr, co) 81).1) f sd tk wm st (nI mo) nx lb fr) := hD
        have hP := e_cong hP 2 (g := (blows v (gr, co) 81).2) rfl (fun k _ => by rw [hf, show z = 81 by omega])
        have hD := va_D.set (e := .inl (E.2.1, 81, .inl ((blows v (gr, co) 81).2))) hD (p := 2) rfl
        have hP : va_P E.1 vwCl (wMo E o ad th ((blows v (gr, co) 81).1) ((blows v (gr, co) 81).2) sd tk wm st (nI mo) nx lb fr) H := hP
        have hD : va_D A (wMo E o ad th ((blows v (gr, co) 81).1) ((blows v (gr, co) 81).2) sd tk wm st (nI mo) nx lb fr) := hD
        exact e_vret () hQ hx hb hr hlocks hP hD hS dX5_blow_99 (rfl) (Nat.le_of_ble_eq_true rfl) (Nat.le_of_ble_eq_true rfl) (trivial)
      · have hz81 : z < 81 := by assumption
        refine lv_aload_n hx hb dX5_blow_8 rfl (lv_at hl 1 rfl) ?_
        refine va_get (D := E.1) (ci := 5) (v := .ref (ad 1)) (C := RX5) (T := TX5) (N := 11) hx hb hts hin5 hown hK.1 hP 0 rfl rfl 2 (by decide) lk13 (fun _ h9 => h9) rfl dX5_blow_9 ?_
        refine lv_iload_n hx hb dX5_blow_12 rfl (lv_at hl 0 rfl) ?_
        refine e_iald hK hP 2 rfl z (by omega) (by decide) hx hb dX5_blow_13 ?_
        refine lv_if_eq (tgt := 93) hx hb dX5_blow_14 (by decide) (fun c14 => ?_) (fun c14 => ?_)
        · refine lv_iinc (v := nI (z + 1)) (lv' := [(2, .int (nI (z + 1))), (0, .ref o), (1, .int v)]) hx hb dX5_blow_93 hl (k := 0) rfl (nI_add z 1) (by decide) rfl (fun ls hl => ?_)
          refine lv_goto (tgt := 2) hx hb dX5_blow_96 (by decide) ?_
          exact ihL2 (z + 1) g f (by first | omega | assumption | rfl | (simp_all; done)) (by rw [hb1]; first | rw [blow1_no hv0 hv9 hRz hz81 c14] | (unfold blow1; rw [if_pos (i_nlt c25)]; done) | (unfold blow1; rw [if_neg (i_nle c25), if_neg (nb3_none hz81 c64), iMin_comm]; done) | (unfold blow1; rw [if_neg (i_nle c25), if_pos hq9.2, ← hq9.1, iMin_comm (v / nI 3), iMax_comm]; done)) (by rw [hb1]; first | rw [blow1_no hv0 hv9 hRz hz81 c14] | (unfold blow1; rw [if_pos (i_nlt c25)]; done) | (unfold blow1; rw [if_neg (i_nle c25), if_neg (nb3_none hz81 c64), iMin_comm]; done) | (unfold blow1; rw [if_neg (i_nle c25), if_pos hq9.2, ← hq9.1, iMin_comm (v / nI 3), iMax_comm]; done)) (by omega) _ _ hP hD hS _ (lv_sub hl [0, 1, 2] rfl)
        · refine lv_aload_n hx hb dX5_blow_17 rfl (lv_at hl 1 rfl) ?_
          refine lv_iload_n hx hb dX5_blow_18 rfl (lv_at hl 0 rfl) ?_
          refine e_callV (As := [.int (nI z)]) (rest := []) ⟨hx, hb, hml, hown, hts⟩ hK hP hD hS hA hl.1 (c_X5_depth l E _ o ad th g f sd tk wm st mo nx lb fr z (by first | omega | assumption | rfl | (simp_all; done))) (cwV 1 hts gX5_blow_X5_depth rfl rfl rfl (by decide +kernel) ⟨Nat.le_of_ble_eq_true rfl, Nat.le_of_ble_eq_true rfl⟩) [0, 1, 2, 3, 4, 5, 6, 7, 8, 9] [] rfl rfl rfl rfl (by decide) (q0 := 0) (ci := 5) rfl rfl rfl rfl (Nat.le_of_ble_eq_true rfl) dX5_blow_19 ⟨Nat.le_of_ble_eq_true rfl, Nat.le_of_ble_eq_true rfl⟩ (fun u_1 H locs hu_2 hsz1 hP hD hS => ?_)
          have hP : va_P E.1 vwCl (wMo E o ad th g f sd tk wm st (nI mo) nx lb fr) H := hP.sub [0, 1, 2, 3, 4, 5, 6, 7, 8, 9] rfl
          have hD : va_D A (wMo E o ad th g f sd tk wm st (nI mo) nx lb fr) := hD.sub [0, 1, 2, 3, 4, 5, 6, 7, 8, 9] (by decide) rfl
          refine W.eq (g2 := F0 m 22 ls [.int (dep g f z)]) rfl ?_
          refine lv_iload_n hx hb dX5_blow_22 rfl (lv_at hl 2 rfl) ?_
          refine lv_iconst (v := nI 2) hx hb dX5_blow_23 (by decide +kernel) ?_
          refine lv_idiv hx hb dX5_blow_24 (by decide +kernel) ?_
          refine lv_icmp_lt (tgt := 31) hx hb dX5_blow_25 (by decide) (fun c25 => ?_) (fun c25 => ?_)
          · refine lv_aload_n hx hb dX5_blow_31 rfl (lv_at hl 1 rfl) ?_
            refine va_get (D := E.1) (ci := 5) (v := .ref (ad 1)) (C := RX5) (T := TX5) (N := 11) hx hb hts hin5 hown hK.1 hP 0 rfl rfl 2 (by decide) lk13 (fun _ h9 => h9) rfl dX5_blow_32 ?_
            refine lv_iload_n hx hb dX5_blow_35 rfl (lv_at hl 0 rfl) ?_
            refine e_iald hK hP 2 rfl z (by omega) (by decide) hx hb dX5_blow_36 ?_
            refine lv_iload_n hx hb dX5_blow_37 rfl (lv_at hl 2 rfl) ?_
            refine lv_iconst (v := nI 3) hx hb dX5_blow_38 (by decide +kernel) ?_
            refine lv_idiv hx hb dX5_blow_39 (by decide +kernel) ?_
            refine va_mmin hx hb (by rw [hml]; exact hl.1.symm) hown haml66 hamsmin hamini hamcmin (Nat.le_of_ble_eq_true rfl) (Nat.le_of_ble_eq_true rfl) (Nat.le_of_ble_eq_true rfl) (Nat.le_of_ble_eq_true rfl) dX5_blow_40 ?_
            refine e_top (y := iMin (f z) (v / (nI 3))) rfl ?_
            refine lv_istore_n (lv' := [(3, .int (iMin (f z) (v / (nI 3)))), (2, .int (nI z)), (0, .ref o), (1, .int v)]) hx hb dX5_blow_43 rfl hl (by decide) rfl (fun ls hl => ?_)
            refine lv_aload_n hx hb dX5_blow_44 rfl (lv_at hl 2 rfl) ?_
            refine va_get (D := E.1) (ci := 5) (v := .ref (ad 1)) (C := RX5) (T := TX5) (N := 11) hx hb hts hin5 hown hK.1 hP 0 rfl rfl 2 (by decide) lk13 (fun _ h9 => h9) rfl dX5_blow_45 ?_
            refine lv_iload_n hx hb dX5_blow_48 rfl (lv_at hl 1 rfl) ?_
            refine lv_dup2_11 hx hb dX5_blow_49 rfl rfl ?_
            refine e_iald hK hP 2 rfl z (by omega) (by decide) hx hb dX5_blow_50 ?_
            refine lv_iload_n hx hb dX5_blow_51 rfl (lv_at hl 0 rfl) ?_
            refine lv_isub hx hb dX5_blow_52 ?_
            refine e_iast hK hP hD hS 2 rfl z (by omega) (by decide) hx hb dX5_blow_53 (fun H locs hP hD hS => ?_)
            have hP : va_P E.1 vwCl (wMo E o ad th g (upd f z ((f z) - (iMin (f z) (v / (nI 3))))) sd tk wm st (nI mo) nx lb fr) H := hP
            have hD : va_D A (wMo E o ad th g (upd f z ((f z) - (iMin (f z) (v / (nI 3))))) sd tk wm st (nI mo) nx lb fr) := hD
            refine lv_iload_n hx hb dX5_blow_54 rfl (lv_at hl 1 rfl) ?_
            refine lv_iconst (v := nI 3) hx hb dX5_blow_55 (by decide +kernel) ?_
            refine e_callS (As := [.int (nI z), .int (nI 3)]) (rest := []) ⟨hx, hb, hml, hown, hts⟩ hK hP hD hS hA hl.1 (c_X5_beside l E _ z 3 (by first | omega | assumption | rfl | (simp_all; done)) (by first | omega | assumption | rfl | (simp_all; done))) (va_cwS 2 hts gX5_blow_X5_beside rfl rfl rfl (by decide +kernel) ⟨Nat.le_of_ble_eq_true rfl, Nat.le_of_ble_eq_true rfl⟩) [] [0, 1, 2, 3, 4, 5, 6, 7, 8, 9] rfl rfl rfl rfl (by decide) rfl rfl (Nat.le_of_ble_eq_true rfl) dX5_blow_56 ⟨Nat.le_of_ble_eq_true rfl, Nat.le_of_ble_eq_true rfl⟩ (fun u_3 H locs hu_4 hsz1 hP hD hS => ?_)
            have hP : va_P E.1 vwCl (wMo E o ad th g (upd f z ((f z) - (iMin (f z) (v / (nI 3))))) sd tk wm st (nI mo) nx lb fr) H := hP.sub [0, 1, 2, 3, 4, 5, 6, 7, 8, 9] rfl
            have hD : va_D A (wMo E o ad th g (upd f z ((f z) - (iMin (f z) (v / (nI 3))))) sd tk wm st (nI mo) nx lb fr) := hD.sub [0, 1, 2, 3, 4, 5, 6, 7, 8, 9] (by decide) rfl
            refine W.eq (g2 := F0 m 59 ls [.int (oI (nb z 3))]) rfl ?_
            refine lv_istore (lv' := [(4, .int (oI (nb z 3))), (3, .int (iMin (f z) (v / (nI 3)))), (2, .int (nI z)), (0, .ref o), (1, .int v)]) hx hb dX5_blow_59 hl (by decide) rfl (fun ls hl => ?_)
            refine lv_iload hx hb dX5_blow_61 (lv_at hl 0 rfl) ?_
            refine lv_iconst (v := (-1)) hx hb dX5_blow_63 (by decide +kernel) ?_
            refine o_icmp_eq (x := nb z 3) (nb_ob hz81) (tgt := 93) hx hb dX5_blow_64 (by decide) (fun c64 => ?_) (fun qn c64 => ?_)
            · refine lv_iinc (v := nI (z + 1)) (lv' := [(2, .int (nI (z + 1))), (4, .int (oI (nb z 3))), (3, .int (iMin (f z) (v / (nI 3)))), (0, .ref o), (1, .int v)]) hx hb dX5_blow_93 hl (k := 2) rfl (nI_add z 1) (by decide) rfl (fun ls hl => ?_)
              refine lv_goto (tgt := 2) hx hb dX5_blow_96 (by decide) ?_
              exact ihL2 (z + 1) g (upd f z ((f z) - (iMin (f z) (v / (nI 3))))) (by first | omega | assumption | rfl | (simp_all; done)) (by rw [hb1]; first | rw [blow1_no hv0 hv9 hRz hz81 c14] | (unfold blow1; rw [if_pos (i_nlt c25)]; done) | (unfold blow1; rw [if_neg (i_nle c25), if_neg (nb3_none hz81 c64), iMin_comm]; done) | (unfold blow1; rw [if_neg (i_nle c25), if_pos hq9.2, ← hq9.1, iMin_comm (v / nI 3), iMax_comm]; done)) (by rw [hb1]; first | rw [blow1_no hv0 hv9 hRz hz81 c14] | (unfold blow1; rw [if_pos (i_nlt c25)]; done) | (unfold blow1; rw [if_neg (i_nle c25), if_neg (nb3_none hz81 c64), iMin_comm]; done) | (unfold blow1; rw [if_neg (i_nle c25), if_pos hq9.2, ← hq9.1, iMin_comm (v / nI 3), iMax_comm]; done)) (by omega) _ _ hP hD hS _ (lv_sub hl [0, 3, 4] rfl)
            · have hq9 : qn = z + 9 ∧ z + 9 < 81 := nb3_some c64
              have hq_ : qn < 81 := by omega
              refine lv_aload_n hx hb dX5_blow_67 rfl (lv_at hl 3 rfl) ?_
              refine va_get (D := E.1) (ci := 5) (v := .ref (ad 0)) (C := RX5) (T := TX5) (N := 11) hx hb hts hin5 hown hK.1 hP 0 rfl rfl 1 (by decide) lk9 (fun _ h9 => h9) rfl dX5_blow_68 ?_
              refine lv_iload hx hb dX5_blow_71 (lv_at hl 0 rfl) ?_
              refine e_top (show oI (nb z 3) = nI qn by rw [c64]; rfl) ?_
              refine lv_aload_n hx hb dX5_blow_73 rfl (lv_at hl 3 rfl) ?_
              refine va_get (D := E.1) (ci := 5) (v := .ref (ad 1)) (C := RX5) (T := TX5) (N := 11) hx hb hts hin5 hown hK.1 hP 0 rfl rfl 2 (by decide) lk13 (fun _ h9 => h9) rfl dX5_blow_74 ?_
              refine lv_iload hx hb dX5_blow_77 (lv_at hl 0 rfl) ?_
              refine e_top (show oI (nb z 3) = nI qn by rw [c64]; rfl) ?_
              refine e_iald hK hP 2 rfl qn (by omega) (by decide) hx hb dX5_blow_79 ?_
              refine lv_aload_n hx hb dX5_blow_80 rfl (lv_at hl 3 rfl) ?_
              refine va_get (D := E.1) (ci := 5) (v := .ref (ad 0)) (C := RX5) (T := TX5) (N := 11) hx hb hts hin5 hown hK.1 hP 0 rfl rfl 1 (by decide) lk9 (fun _ h9 => h9) rfl dX5_blow_81 ?_
              refine lv_iload hx hb dX5_blow_84 (lv_at hl 0 rfl) ?_
              refine e_top (show oI (nb z 3) = nI qn by rw [c64]; rfl) ?_
              refine e_iald hK hP 1 rfl qn (by omega) (by decide) hx hb dX5_blow_86 ?_
              refine lv_iload_n hx hb dX5_blow_87 rfl (lv_at hl 1 rfl) ?_
              refine lv_isub hx hb dX5_blow_88 ?_
              refine va_mmax hx hb (by rw [hml]; exact hl.1.symm) hown haml45 hamsmax hamini hamcmax (Nat.le_of_ble_eq_true rfl) (Nat.le_of_ble_eq_true rfl) (Nat.le_of_ble_eq_true rfl) (Nat.le_of_ble_eq_true rfl) dX5_blow_89 ?_
              refine e_top (y := iMax ((upd f z ((f z) - (iMin (f z) (v / (nI 3))))) qn) ((g qn) - (iMin (f z) (v / (nI 3))))) rfl ?_
              refine e_iast hK hP hD hS 1 rfl qn (by omega) (by decide) hx hb dX5_blow_92 (fun H locs hP hD hS => ?_)
              have hP : va_P E.1 vwCl (wMo E o ad th (upd g qn (iMax ((upd f z ((f z) - (iMin (f z) (v / (nI 3))))) qn) ((g qn) - (iMin (f z) (v / (nI 3)))))) (upd f z ((f z) - (iMin (f z) (v / (nI 3))))) sd tk wm st (nI mo) nx lb fr) H := hP
              have hD : va_D A (wMo E o ad th (upd g qn (iMax ((upd f z ((f z) - (iMin (f z) (v / (nI 3))))) qn) ((g qn) - (iMin (f z) (v / (nI 3)))))) (upd f z ((f z) - (iMin (f z) (v / (nI 3))))) sd tk wm st (nI mo) nx lb fr) := hD
              refine lv_iinc (v := nI (z + 1)) (lv' := [(2, .int (nI (z + 1))), (4, .int (oI (nb z 3))), (3, .int (iMin (f z) (v / (nI 3)))), (0, .ref o), (1, .int v)]) hx hb dX5_blow_93 hl (k := 2) rfl (nI_add z 1) (by decide) rfl (fun ls hl => ?_)
              refine lv_goto (tgt := 2) hx hb dX5_blow_96 (by decide) ?_
              exact ihL2 (z + 1) (upd g qn (iMax ((upd f z ((f z) - (iMin (f z) (v / (nI 3))))) qn) ((g qn) - (iMin (f z) (v / (nI 3)))))) (upd f z ((f z) - (iMin (f z) (v / (nI 3))))) (by first | omega | assumption | rfl | (simp_all; done)) (by rw [hb1]; first | rw [blow1_no hv0 hv9 hRz hz81 c14] | (unfold blow1; rw [if_pos (i_nlt c25)]; done) | (unfold blow1; rw [if_neg (i_nle c25), if_neg (nb3_none hz81 c64), iMin_comm]; done) | (unfold blow1; rw [if_neg (i_nle c25), if_pos hq9.2, ← hq9.1, iMin_comm (v / nI 3), iMax_comm]; done)) (by rw [hb1]; first | rw [blow1_no hv0 hv9 hRz hz81 c14] | (unfold blow1; rw [if_pos (i_nlt c25)]; done) | (unfold blow1; rw [if_neg (i_nle c25), if_neg (nb3_none hz81 c64), iMin_comm]; done) | (unfold blow1; rw [if_neg (i_nle c25), if_pos hq9.2, ← hq9.1, iMin_comm (v / nI 3), iMax_comm]; done)) (by omega) _ _ hP hD hS _ (lv_sub hl [0, 3, 4] rfl)
          · refine lv_goto (tgt := 93) hx hb dX5_blow_28 (by decide) ?_
            refine lv_iinc (v := nI (z + 1)) (lv' := [(2, .int (nI (z + 1))), (0, .ref o), (1, .int v)]) hx hb dX5_blow_93 hl (k := 0) rfl (nI_add z 1) (by decide) rfl (fun ls hl => ?_)
            refine lv_goto (tgt := 2) hx hb dX5_blow_96 (by decide) ?_
            exact ihL2 (z + 1) g f (by first | omega | assumption | rfl | (simp_all; done)) (by rw [hb1]; first | rw [blow1_no hv0 hv9 hRz hz81 c14] | (unfold blow1; rw [if_pos (i_nlt c25)]; done) | (unfold blow1; rw [if_neg (i_nle c25), if_neg (nb3_none hz81 c64), iMin_comm]; done) | (unfold blow1; rw [if_neg (i_nle c25), if_pos hq9.2, ← hq9.1, iMin_comm (v / nI 3), iMax_comm]; done)) (by rw [hb1]; first | rw [blow1_no hv0 hv9 hRz hz81 c14] | (unfold blow1; rw [if_pos (i_nlt c25)]; done) | (unfold blow1; rw [if_neg (i_nle c25), if_neg (nb3_none hz81 c64), iMin_comm]; done) | (unfold blow1; rw [if_neg (i_nle c25), if_pos hq9.2, ← hq9.1, iMin_comm (v / nI 3), iMax_comm]; done)) (by omega) _ _ hP hD hS _ (lv_sub hl [0, 1, 2] rfl)
  exact L2 (81 - 0 + 1) 0 gr co (by first | omega | assumption | rfl | (simp_all; done)) (rfl) (rfl) (Nat.lt_succ_self _) _ _ hP hD hS _ (lv_sub hl [0, 1, 2] rfl)
