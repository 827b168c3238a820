/-! ===== what the coast is, in numbers ===== -/
/-- the neighbour of p above, left, right, below (0 to 3) -/
def nb (p d : Nat) : Option Nat :=
  if d = 0 then (if 9 ≤ p then some (p - 9) else none)
  else if d = 1 then (if p % 9 = 0 then none else some (p - 1))
  else if d = 2 then (if p % 9 = 8 then none else some (p + 1))
  else (if p < 72 then some (p + 9) else none)
theorem nb_lt {p d q : Nat} (hp : p < 81) (h : nb p d = some q) : q < 81 := by
  unfold nb at h
  by_cases h0 : d = 0
  · rw [if_pos h0] at h
    by_cases h1 : 9 ≤ p
    · rw [if_pos h1] at h; cases h; omega
    · rw [if_neg h1] at h; cases h
  · rw [if_neg h0] at h
    by_cases h1 : d = 1
    · rw [if_pos h1] at h
      by_cases h2 : p % 9 = 0
      · rw [if_pos h2] at h; cases h
      · rw [if_neg h2] at h; cases h; omega
    · rw [if_neg h1] at h
      by_cases h2 : d = 2
      · rw [if_pos h2] at h
        by_cases h3 : p % 9 = 8
        · rw [if_pos h3] at h; cases h
        · rw [if_neg h3] at h; cases h; omega
      · rw [if_neg h2] at h
        by_cases h3 : p < 72
        · rw [if_pos h3] at h; cases h; omega
        · rw [if_neg h3] at h; cases h
theorem nb_ob {p d : Nat} (hp : p < 81) : ∀ q, nb p d = some q → q < 2 ^ 31 := fun q h => Nat.lt_trans (nb_lt hp h) (by decide)
def dep (gr co : Nat → Int32) (k : Nat) : Int32 := iMax (gr k - co k) (nI 0)
def hd (co : Nat → Int32) (k : Nat) : Bool := !decide (co k < nI 5)
def heads (co : Nat → Int32) : Nat := fb_ct (hd co) 81
def sumI (f : Nat → Int32) : Nat → Int32
  | 0 => nI 0
  | n + 1 => sumI f n + f n
/-- is there a head beside p, that way -/
def hbq (h : Nat → Bool) (p d : Nat) : Bool := match nb p d with
  | none => false
  | some q => h q
theorem hbq_none {h : Nat → Bool} {p d : Nat} (c : nb p d = none) : hbq h p d = false := by unfold hbq; rw [c]
theorem hbq_some {h : Nat → Bool} {p d q : Nat} (c : nb p d = some q) : hbq h p d = h q := by unfold hbq; rw [c]
def hbs (h : Nat → Bool) (p : Nat) : Nat := fb_ct (hbq h p) 4
theorem hbs_le (h : Nat → Bool) (p : Nat) : hbs h p ≤ 4 := fb_ct_le _ _
def grw (gr co : Nat → Int32) (h : Nat → Bool) (k : Nat) : Int32 :=
  if 0 < co k ∧ nI 2 ≤ dep gr co k ∧ dep gr co k ≤ nI 15 then iMin (co k + (if 2 ≤ hbs h k then nI 2 else nI 1)) (gr k - nI 1) else co k
def sdd (gr co : Nat → Int32) (h : Nat → Bool) (k : Nat) : Int32 :=
  if co k = 0 ∧ nI 3 ≤ gr k ∧ gr k ≤ nI 15 ∧ 0 < hbs h k then nI 1 else co k
def die (co : Nat → Int32) (k : Nat) : Int32 := iMax (co k - nI 1) (nI 0)
def warmed (w : Int32) (gr co : Nat → Int32) : Nat → Int32 := if nI 8 ≤ w then die co else if nI 3 ≤ w then grw gr co (hd co) else co
def seeded (gr co : Nat → Int32) : Nat → Int32 := sdd gr co (hd co)
/-- one cell of a storm -/
def blow1 (s : Int32) (x : (Nat → Int32) × (Nat → Int32)) (k : Nat) : (Nat → Int32) × (Nat → Int32) :=
  if s / nI 2 ≤ dep x.1 x.2 k then x
  else (if k + 9 < 81 then upd x.1 (k + 9) (iMax (x.1 (k + 9) - iMin (s / nI 3) (x.2 k)) (upd x.2 k (x.2 k - iMin (s / nI 3) (x.2 k)) (k + 9))) else x.1, upd x.2 k (x.2 k - iMin (s / nI 3) (x.2 k)))
def blows (s : Int32) (x : (Nat → Int32) × (Nat → Int32)) : Nat → (Nat → Int32) × (Nat → Int32)
  | 0 => x
  | n + 1 => blow1 s (blows s x n) n
/-- a month: ground and coral behind it -/
def month1 (wm st : Nat → Int32) (x : (Nat → Int32) × (Nat → Int32)) (mo : Nat) : (Nat → Int32) × (Nat → Int32) :=
  blows (st (mo % 12)) (x.1, seeded x.1 (warmed (wm (mo % 12)) x.1 x.2)) 81
def months (wm st : Nat → Int32) (x : (Nat → Int32) × (Nat → Int32)) (mo : Nat) : Nat → (Nat → Int32) × (Nat → Int32)
  | 0 => x
  | n + 1 => month1 wm st (months wm st x mo n) (mo + n)
/-- the chart: how old, how deep for sure -/
def chOld (sd tk : Nat → Int32) (mo : Int32) (k : Nat) : Int32 := if sd k = (-1) then (-1) else mo - tk k
def chSafe (sd tk : Nat → Int32) (mo : Int32) (k : Nat) : Int32 := if sd k = (-1) then (-1) else iMax (sd k - (mo - tk k) / nI 2) (nI 0)
theorem rvi {x y : Int32} (h : x = y) : some (Value.int x) = some (Value.int y) := by rw [h]
theorem rvl {x y : Int64} (h : x = y) : some (Value.long x) = some (Value.long y) := by rw [h]
theorem b2i_t {b : Bool} (h : b = true) : b2i b = nI 1 := by rw [h]; rfl
theorem b2i_f {b : Bool} (h : b = false) : b2i b = nI 0 := by rw [h]; rfl
theorem nI_pm1 (x : Nat) : nI (x + 1) + Int32.ofInt (-1) = nI x := pk_m1 x
theorem hd_t {co : Nat → Int32} {k : Nat} (h : ¬ co k < nI 5) : hd co k = true := by unfold hd; rw [decide_eq_false h]; rfl
theorem hd_f {co : Nat → Int32} {k : Nat} (h : co k < nI 5) : hd co k = false := by unfold hd; rw [decide_eq_true h]; rfl
theorem e_arr {cA : ClassId} {n : Nat} {f g : Nat → Int32} (hfg : ∀ k, k < n → f k = g k) : arrV cA n (fun j => Value.int (f j)) = arrV cA n (fun j => Value.int (g j)) := by
  have h : (fun j : Fin n => Value.int (f j.val)) = fun j : Fin n => Value.int (g j.val) := funext fun j => by rw [hfg j.val j.isLt]
  unfold arrV
  rw [h]
/-- a row by another writing of its places below its length -/
theorem e_cong {D : va_G} {cl : List vw_C} {ws : va_W} {H : Heap} (hP : va_P D cl ws H) (q0 : Nat) {a n : Nat} {cA : ClassId} {f g : Nat → Int32} (ha : ws[q0]? = some (a, .inl (cA, n, .inl f))) (hfg : ∀ k, k < n → f k = g k) : va_P D cl (ws.set q0 (a, .inl (cA, n, .inl g))) H := by
  intro k q hk
  by_cases hkp : k = q0
  · subst hkp
    rw [List.getElem?_set_self (List.getElem?_eq_some_iff.mp ha).1] at hk
    cases hk
    have h1 := hP k _ ha
    have h2 : H[a]? = some (vp_cell cA (n, .inl f)) := h1
    show H[a]? = some (vp_cell cA (n, .inl g))
    rw [h2, vp_cell_i, vp_cell_i]
    rw [e_arr hfg]
  · rw [List.getElem?_set_ne (Ne.symm hkp)] at hk
    exact hP k q hk
theorem nI_x12 {x : Nat} (h : x < 2 ^ 31) : 0 ≤ nI x ^^^ nI 12 := by
  rw [fb_xorI]
  exact nI_pos' (Nat.xor_lt_two_pow h (by decide))
/-! a loop that lays F over g, place by place -/
theorem lay_0 {F g : Nat → Int32} : ∀ k : Nat, g k = if k < 0 then F k else g k := fun k => by rw [if_neg (Nat.not_lt_zero k)]
theorem lay_at {F g f : Nat → Int32} {z : Nat} (hf : ∀ k : Nat, f k = if k < z then F k else g k) : f z = g z := by rw [hf z, if_neg (Nat.lt_irrefl z)]
theorem lay_same {F g f : Nat → Int32} {z : Nat} (hf : ∀ k : Nat, f k = if k < z then F k else g k) (h : F z = g z) : ∀ k : Nat, f k = if k < z + 1 then F k else g k := by
  intro k
  rw [hf k]
  by_cases h1 : k < z
  · rw [if_pos h1, if_pos (by omega)]
  · rw [if_neg h1]
    by_cases h2 : k = z
    · subst h2; rw [if_pos (by omega)]; exact h.symm
    · rw [if_neg (by omega)]
theorem lay_upd {F g f : Nat → Int32} {z : Nat} {v : Int32} (hf : ∀ k : Nat, f k = if k < z then F k else g k) (h : v = F z) : ∀ k : Nat, upd f z v k = if k < z + 1 then F k else g k := by
  intro k
  unfold upd
  by_cases h2 : k = z
  · subst h2; rw [if_pos rfl, if_pos (by omega)]; exact h
  · rw [if_neg h2, hf k]
    by_cases h1 : k < z
    · rw [if_pos h1, if_pos (by omega)]
    · rw [if_neg h1, if_neg (by omega)]
theorem lay_end {F g f : Nat → Int32} {z n : Nat} (hf : ∀ k : Nat, f k = if k < z then F k else g k) (h : n ≤ z) : ∀ k : Nat, k < n → f k = F k := fun k hk => by rw [hf k, if_pos (by omega)]
theorem layB_0 {F g : Nat → Bool} : ∀ k : Nat, g k = if k < 0 then F k else g k := fun k => by rw [if_neg (Nat.not_lt_zero k)]
theorem layB_upd {F g f : Nat → Bool} {z : Nat} {v : Bool} (hf : ∀ k : Nat, f k = if k < z then F k else g k) (h : v = F z) : ∀ k : Nat, updB f z v k = if k < z + 1 then F k else g k := by
  intro k
  unfold updB
  by_cases h2 : k = z
  · subst h2; rw [if_pos rfl, if_pos (by omega)]; exact h
  · rw [if_neg h2, hf k]
    by_cases h1 : k < z
    · rw [if_pos h1, if_pos (by omega)]
    · rw [if_neg h1, if_neg (by omega)]
theorem layB_end {F g f : Nat → Bool} {z n : Nat} (hf : ∀ k : Nat, f k = if k < z then F k else g k) (h : n ≤ z) : ∀ k : Nat, k < n → b2i (f k) = b2i (F k) := fun k hk => by rw [hf k, if_pos (by omega)]
theorem dep_cong {gr co gr2 co2 : Nat → Int32} {k : Nat} (h : gr k = gr2 k) (h2 : co k = co2 k) : dep gr co k = dep gr2 co2 k := by unfold dep; rw [h, h2]
theorem grw_no {gr co : Nat → Int32} {h : Nat → Bool} {k : Nat} (c : co k ≤ 0 ∨ dep gr co k < nI 2 ∨ nI 15 < dep gr co k) : grw gr co h k = co k := by
  unfold grw
  rw [if_neg]
  rintro ⟨h1, h2, h3⟩
  simp only [i_lt, i_le] at *
  omega
theorem grw_yes {gr co : Nat → Int32} {h : Nat → Bool} {k : Nat} (c1 : ¬ co k ≤ 0) (c2 : ¬ dep gr co k < nI 2) (c3 : ¬ nI 15 < dep gr co k) {g : Int32} (hg : g = if 2 ≤ hbs h k then nI 2 else nI 1) : iMin (co k + g) (gr k - nI 1) = grw gr co h k := by
  unfold grw
  rw [if_pos, hg]
  simp only [i_lt, i_le] at *
  omega
theorem sdd_no {gr co : Nat → Int32} {h : Nat → Bool} {k : Nat} (c : ¬ co k = 0 ∨ gr k < nI 3 ∨ nI 15 < gr k ∨ hbs h k = 0) : sdd gr co h k = co k := by
  unfold sdd
  rw [if_neg]
  rintro ⟨h1, h2, h3, h4⟩
  rcases c with c | c | c | c
  · exact c h1
  · simp only [i_lt, i_le] at *; omega
  · simp only [i_lt, i_le] at *; omega
  · omega
theorem sdd_yes {gr co : Nat → Int32} {h : Nat → Bool} {k : Nat} (c1 : co k = 0) (c2 : ¬ gr k < nI 3) (c3 : ¬ nI 15 < gr k) (c4 : 0 < hbs h k) : nI 1 = sdd gr co h k := by
  unfold sdd
  rw [if_pos]
  refine ⟨c1, ?_, ?_, c4⟩ <;> (simp only [i_lt, i_le] at *; omega)
