/-! ===== branches over numbers, over truth values, over a place or none ===== -/
section EBR
variable {p : Program} {l : Launch} {e : Env} {R : Room} {s : State} {m : MethodId} {args : Array Value} {below : List Frame} {meth : Method} {c : Code} {H H0 : Heap} {locs : List Loc} {cells slots : Nat} {Q : State → Prop} {E : eT} {A : Nat → Prop} {ws : va_W} {cc : ByteArray} {pc : Nat} {ls : Array Slot} {rest : List Value} {a : Nat}
def oI : Option Nat → Int32
  | none => -1
  | some q => nI q
theorem oI_ne {q : Nat} (h : q < 2 ^ 31) : ¬ nI q = -1 := by
  intro h1
  have h2 := congrArg Int32.toInt h1
  rw [nI_toInt h] at h2
  have h3 : (-1 : Int32).toInt = -1 := by decide +kernel
  rw [h3] at h2
  omega
theorem n_icmp_lt {x y : Nat} (ha : x < 2 ^ 31) (hb : y < 2 ^ 31) (hx : p.tables.exec = Jvm.exec) (hbd : c.code = cc) {off : Int} {tgt : Nat} (hdg : decode cc pc = .ok (.if_icmp .lt off, 3)) (ht : (pc : Int) + off = (tgt : Int))
    (kt : x < y → W p l e R s m args below meth c H locs cells slots Q (F0 m tgt ls rest)) (kf : y ≤ x → W p l e R s m args below meth c H locs cells slots Q (F0 m (pc + 3) ls rest)) : W p l e R s m args below meth c H locs cells slots Q (F0 m pc ls (.int (nI y) :: .int (nI x) :: rest)) :=
  lv_icmp_lt hx hbd hdg ht (fun h => kt ((nI_ltI ha hb).mp h)) (fun h => kf (Nat.not_lt.mp (fun z => h ((nI_ltI ha hb).mpr z))))
theorem n_icmp_ge {x y : Nat} (ha : x < 2 ^ 31) (hb : y < 2 ^ 31) (hx : p.tables.exec = Jvm.exec) (hbd : c.code = cc) {off : Int} {tgt : Nat} (hdg : decode cc pc = .ok (.if_icmp .ge off, 3)) (ht : (pc : Int) + off = (tgt : Int))
    (kt : y ≤ x → W p l e R s m args below meth c H locs cells slots Q (F0 m tgt ls rest)) (kf : x < y → W p l e R s m args below meth c H locs cells slots Q (F0 m (pc + 3) ls rest)) : W p l e R s m args below meth c H locs cells slots Q (F0 m pc ls (.int (nI y) :: .int (nI x) :: rest)) :=
  lv_icmp_ge hx hbd hdg ht (fun h => kt ((nI_leI hb ha).mp h)) (fun h => kf (Nat.not_le.mp (fun z => h ((nI_leI hb ha).mpr z))))
theorem n_icmp_gt {x y : Nat} (ha : x < 2 ^ 31) (hb : y < 2 ^ 31) (hx : p.tables.exec = Jvm.exec) (hbd : c.code = cc) {off : Int} {tgt : Nat} (hdg : decode cc pc = .ok (.if_icmp .gt off, 3)) (ht : (pc : Int) + off = (tgt : Int))
    (kt : y < x → W p l e R s m args below meth c H locs cells slots Q (F0 m tgt ls rest)) (kf : x ≤ y → W p l e R s m args below meth c H locs cells slots Q (F0 m (pc + 3) ls rest)) : W p l e R s m args below meth c H locs cells slots Q (F0 m pc ls (.int (nI y) :: .int (nI x) :: rest)) :=
  lv_icmp_gt hx hbd hdg ht (fun h => kt ((nI_ltI hb ha).mp h)) (fun h => kf (Nat.not_lt.mp (fun z => h ((nI_ltI hb ha).mpr z))))
theorem n_icmp_le {x y : Nat} (ha : x < 2 ^ 31) (hb : y < 2 ^ 31) (hx : p.tables.exec = Jvm.exec) (hbd : c.code = cc) {off : Int} {tgt : Nat} (hdg : decode cc pc = .ok (.if_icmp .le off, 3)) (ht : (pc : Int) + off = (tgt : Int))
    (kt : x ≤ y → W p l e R s m args below meth c H locs cells slots Q (F0 m tgt ls rest)) (kf : y < x → W p l e R s m args below meth c H locs cells slots Q (F0 m (pc + 3) ls rest)) : W p l e R s m args below meth c H locs cells slots Q (F0 m pc ls (.int (nI y) :: .int (nI x) :: rest)) :=
  lv_icmp_le hx hbd hdg ht (fun h => kt ((nI_leI ha hb).mp h)) (fun h => kf (Nat.not_le.mp (fun z => h ((nI_leI ha hb).mpr z))))
theorem n_icmp_eq {x y : Nat} (ha : x < 2 ^ 31) (hb : y < 2 ^ 31) (hx : p.tables.exec = Jvm.exec) (hbd : c.code = cc) {off : Int} {tgt : Nat} (hdg : decode cc pc = .ok (.if_icmp .eq off, 3)) (ht : (pc : Int) + off = (tgt : Int))
    (kt : x = y → W p l e R s m args below meth c H locs cells slots Q (F0 m tgt ls rest)) (kf : ¬ x = y → W p l e R s m args below meth c H locs cells slots Q (F0 m (pc + 3) ls rest)) : W p l e R s m args below meth c H locs cells slots Q (F0 m pc ls (.int (nI y) :: .int (nI x) :: rest)) :=
  lv_icmp_eq hx hbd hdg ht (fun h => kt ((nI_eq ha hb).mp h)) (fun h => kf (fun z => h ((nI_eq ha hb).mpr z)))
theorem n_icmp_ne {x y : Nat} (ha : x < 2 ^ 31) (hb : y < 2 ^ 31) (hx : p.tables.exec = Jvm.exec) (hbd : c.code = cc) {off : Int} {tgt : Nat} (hdg : decode cc pc = .ok (.if_icmp .ne off, 3)) (ht : (pc : Int) + off = (tgt : Int))
    (kt : ¬ x = y → W p l e R s m args below meth c H locs cells slots Q (F0 m tgt ls rest)) (kf : x = y → W p l e R s m args below meth c H locs cells slots Q (F0 m (pc + 3) ls rest)) : W p l e R s m args below meth c H locs cells slots Q (F0 m pc ls (.int (nI y) :: .int (nI x) :: rest)) :=
  lv_icmp_ne hx hbd hdg ht (fun h => kt (fun z => h ((nI_eq ha hb).mpr z))) (fun h => kf ((nI_eq ha hb).mp h))
theorem n_if_eq {x : Nat} (ha : x < 2 ^ 31) (hx : p.tables.exec = Jvm.exec) (hbd : c.code = cc) {off : Int} {tgt : Nat} (hdg : decode cc pc = .ok (.ifCond .eq off, 3)) (ht : (pc : Int) + off = (tgt : Int))
    (kt : x = 0 → W p l e R s m args below meth c H locs cells slots Q (F0 m tgt ls rest)) (kf : ¬ x = 0 → W p l e R s m args below meth c H locs cells slots Q (F0 m (pc + 3) ls rest)) : W p l e R s m args below meth c H locs cells slots Q (F0 m pc ls (.int (nI x) :: rest)) :=
  lv_if_eq hx hbd hdg ht (fun h => kt ((nI_eq (b := 0) ha (by decide)).mp h)) (fun h => kf (fun z => h ((nI_eq (b := 0) ha (by decide)).mpr z)))
theorem n_if_ne {x : Nat} (ha : x < 2 ^ 31) (hx : p.tables.exec = Jvm.exec) (hbd : c.code = cc) {off : Int} {tgt : Nat} (hdg : decode cc pc = .ok (.ifCond .ne off, 3)) (ht : (pc : Int) + off = (tgt : Int))
    (kt : ¬ x = 0 → W p l e R s m args below meth c H locs cells slots Q (F0 m tgt ls rest)) (kf : x = 0 → W p l e R s m args below meth c H locs cells slots Q (F0 m (pc + 3) ls rest)) : W p l e R s m args below meth c H locs cells slots Q (F0 m pc ls (.int (nI x) :: rest)) :=
  lv_if_ne hx hbd hdg ht (fun h => kt (fun z => h ((nI_eq (b := 0) ha (by decide)).mpr z))) (fun h => kf ((nI_eq (b := 0) ha (by decide)).mp h))
theorem n_if_le {x : Nat} (ha : x < 2 ^ 31) (hx : p.tables.exec = Jvm.exec) (hbd : c.code = cc) {off : Int} {tgt : Nat} (hdg : decode cc pc = .ok (.ifCond .le off, 3)) (ht : (pc : Int) + off = (tgt : Int))
    (kt : x = 0 → W p l e R s m args below meth c H locs cells slots Q (F0 m tgt ls rest)) (kf : 0 < x → W p l e R s m args below meth c H locs cells slots Q (F0 m (pc + 3) ls rest)) : W p l e R s m args below meth c H locs cells slots Q (F0 m pc ls (.int (nI x) :: rest)) :=
  lv_if_le hx hbd hdg ht (fun h => kt (by rcases Nat.eq_zero_or_pos x with z | z; exact z; exact absurd h (nI_nle z ha))) (fun h => kf (by rcases Nat.eq_zero_or_pos x with z | z; subst z; exact absurd (nI_le (Nat.le_refl 0) (by decide)) h; exact z))
theorem n_if_gt {x : Nat} (ha : x < 2 ^ 31) (hx : p.tables.exec = Jvm.exec) (hbd : c.code = cc) {off : Int} {tgt : Nat} (hdg : decode cc pc = .ok (.ifCond .gt off, 3)) (ht : (pc : Int) + off = (tgt : Int))
    (kt : 0 < x → W p l e R s m args below meth c H locs cells slots Q (F0 m tgt ls rest)) (kf : x = 0 → W p l e R s m args below meth c H locs cells slots Q (F0 m (pc + 3) ls rest)) : W p l e R s m args below meth c H locs cells slots Q (F0 m pc ls (.int (nI x) :: rest)) :=
  lv_if_gt hx hbd hdg ht (fun h => kt ((nI_ltI (a := 0) (by decide) ha).mp h)) (fun h => kf (by rcases Nat.eq_zero_or_pos x with z | z; exact z; exact absurd ((nI_ltI (a := 0) (by decide) ha).mpr z) h))
theorem b_if_eq {x : Bool} (hx : p.tables.exec = Jvm.exec) (hbd : c.code = cc) {off : Int} {tgt : Nat} (hdg : decode cc pc = .ok (.ifCond .eq off, 3)) (ht : (pc : Int) + off = (tgt : Int))
    (kt : x = false → W p l e R s m args below meth c H locs cells slots Q (F0 m tgt ls rest)) (kf : x = true → W p l e R s m args below meth c H locs cells slots Q (F0 m (pc + 3) ls rest)) : W p l e R s m args below meth c H locs cells slots Q (F0 m pc ls (.int (b2i x) :: rest)) :=
  lv_if_eq hx hbd hdg ht (fun h => kt ((b2i_eq x).mp h)) (fun h => kf ((b2i_ne x).mp h))
theorem b_if_ne {x : Bool} (hx : p.tables.exec = Jvm.exec) (hbd : c.code = cc) {off : Int} {tgt : Nat} (hdg : decode cc pc = .ok (.ifCond .ne off, 3)) (ht : (pc : Int) + off = (tgt : Int))
    (kt : x = true → W p l e R s m args below meth c H locs cells slots Q (F0 m tgt ls rest)) (kf : x = false → W p l e R s m args below meth c H locs cells slots Q (F0 m (pc + 3) ls rest)) : W p l e R s m args below meth c H locs cells slots Q (F0 m pc ls (.int (b2i x) :: rest)) :=
  lv_if_ne hx hbd hdg ht (fun h => kt ((b2i_ne x).mp h)) (fun h => kf ((b2i_eq x).mp h))
theorem o_icmp_eq {x : Option Nat} (ha : ∀ q, x = some q → q < 2 ^ 31) (hx : p.tables.exec = Jvm.exec) (hbd : c.code = cc) {off : Int} {tgt : Nat} (hdg : decode cc pc = .ok (.if_icmp .eq off, 3)) (ht : (pc : Int) + off = (tgt : Int))
    (kt : x = none → W p l e R s m args below meth c H locs cells slots Q (F0 m tgt ls rest)) (kf : ∀ q, x = some q → W p l e R s m args below meth c H locs cells slots Q (F0 m (pc + 3) ls rest)) : W p l e R s m args below meth c H locs cells slots Q (F0 m pc ls (.int (-1) :: .int (oI x) :: rest)) := by
  cases x with
  | none => exact lv_icmp_eq hx hbd hdg ht (fun _ => kt rfl) (fun h => absurd rfl h)
  | some q => exact lv_icmp_eq hx hbd hdg ht (fun h => absurd h (oI_ne (ha q rfl))) (fun _ => kf q rfl)
theorem o_icmp_ne {x : Option Nat} (ha : ∀ q, x = some q → q < 2 ^ 31) (hx : p.tables.exec = Jvm.exec) (hbd : c.code = cc) {off : Int} {tgt : Nat} (hdg : decode cc pc = .ok (.if_icmp .ne off, 3)) (ht : (pc : Int) + off = (tgt : Int))
    (kt : ∀ q, x = some q → W p l e R s m args below meth c H locs cells slots Q (F0 m tgt ls rest)) (kf : x = none → W p l e R s m args below meth c H locs cells slots Q (F0 m (pc + 3) ls rest)) : W p l e R s m args below meth c H locs cells slots Q (F0 m pc ls (.int (-1) :: .int (oI x) :: rest)) := by
  cases x with
  | none => exact lv_icmp_ne hx hbd hdg ht (fun h => absurd rfl h) (fun _ => kf rfl)
  | some q => exact lv_icmp_ne hx hbd hdg ht (fun _ => kt q rfl) (fun h => absurd h (oI_ne (ha q rfl)))
end EBR
/-! ===== numbers ===== -/
def iMax (x y : Int32) : Int32 := if x < y then y else x
def iMin (x y : Int32) : Int32 := if y < x then y else x
theorem i_lt (a b : Int32) : a < b ↔ a.toInt < b.toInt := Int32.lt_iff_toInt_lt
theorem i_le (a b : Int32) : a ≤ b ↔ a.toInt ≤ b.toInt := Int32.le_iff_toInt_le
theorem i_ext {a b : Int32} (h : a.toInt = b.toInt) : a = b := Int32.toInt_inj.mp h
theorem i_nle {a b : Int32} (h : a < b) : ¬ b ≤ a := by rw [i_lt] at h; rw [i_le]; omega
theorem i_nlt {a b : Int32} (h : ¬ a < b) : b ≤ a := by rw [i_lt] at h; rw [i_le]; omega
theorem iMax_comm (x y : Int32) : iMax x y = iMax y x := by
  unfold iMax
  by_cases h : x < y
  · have h2 : ¬ y < x := by rw [i_lt] at h ⊢; omega
    rw [if_pos h, if_neg h2]
  · rw [if_neg h]
    by_cases h2 : y < x
    · rw [if_pos h2]
    · rw [if_neg h2]
      rw [i_lt] at h h2
      exact i_ext (by omega)
theorem iMin_comm (x y : Int32) : iMin x y = iMin y x := by
  unfold iMin
  by_cases h : x < y
  · have h2 : ¬ y < x := by rw [i_lt] at h ⊢; omega
    rw [if_pos h, if_neg h2]
  · rw [if_neg h]
    by_cases h2 : y < x
    · rw [if_pos h2]
    · rw [if_neg h2]
      rw [i_lt] at h h2
      exact i_ext (by omega)
theorem iMax_toInt (x y : Int32) : (iMax x y).toInt = if x.toInt < y.toInt then y.toInt else x.toInt := by
  unfold iMax
  by_cases h : x < y
  · rw [if_pos h, if_pos ((i_lt _ _).mp h)]
  · rw [if_neg h, if_neg (fun z => h ((i_lt _ _).mpr z))]
theorem iMin_toInt (x y : Int32) : (iMin x y).toInt = if y.toInt < x.toInt then y.toInt else x.toInt := by
  unfold iMin
  by_cases h : y < x
  · rw [if_pos h, if_pos ((i_lt _ _).mp h)]
  · rw [if_neg h, if_neg (fun z => h ((i_lt _ _).mpr z))]
