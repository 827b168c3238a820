/-! ===== spreading from cell to neighbour, as the class does it, in numbers ===== -/
/-- steps, queue, how many are in it -/
abbrev bS : Type := (Nat → Nat) × (Nat → Nat) × Nat
def bReach (op : Nat → Bool) (x : bS) (p c : Nat) : bS :=
  if op p = true ∧ x.1 p = 0 ∧ x.2.2 < 81 then (va_up x.1 p c, va_up x.2.1 x.2.2 p, x.2.2 + 1) else x
def bDir (op : Nat → Bool) (x : bS) (p d : Nat) : bS := match nb p d with
  | none => x
  | some q => bReach op x q (x.1 p + 1)
def bDirs (op : Nat → Bool) (x : bS) (p : Nat) : Nat → bS
  | 0 => x
  | d + 1 => bDir op (bDirs op x p d) p d
def bGo (op : Nat → Bool) : Nat → bS → Nat → bS
  | 0, x, _ => x
  | f + 1, x, i => if i < 81 ∧ i < x.2.2 then bGo op f (bDirs op x (x.2.1 i) 4) (i + 1) else x
def bRow (op : Nat → Bool) (x : bS) (r : Nat) : Nat → bS
  | 0 => x
  | k + 1 => bReach op (bRow op x r k) (r + k) 1
theorem bDir_none {op : Nat → Bool} {x : bS} {p d : Nat} (h : nb p d = none) : bDir op x p d = x := by unfold bDir; rw [h]
theorem bDir_some {op : Nat → Bool} {x : bS} {p d q : Nat} (h : nb p d = some q) : bDir op x p d = bReach op x q (x.1 p + 1) := by unfold bDir; rw [h]
theorem bGo_stop {op : Nat → Bool} {f : Nat} {x : bS} {i : Nat} (h : ¬ (i < 81 ∧ i < x.2.2)) : bGo op f x i = x := by
  cases f with
  | zero => rfl
  | succ f => show (if i < 81 ∧ i < x.2.2 then _ else x) = x; rw [if_neg h]
theorem bGo_step {op : Nat → Bool} {f : Nat} {x : bS} {i : Nat} (h : i < 81 ∧ i < x.2.2) : bGo op (f + 1) x i = bGo op f (bDirs op x (x.2.1 i) 4) (i + 1) := by
  show (if i < 81 ∧ i < x.2.2 then _ else x) = _
  rw [if_pos h]
/-- what the machine wants of it: all numbers are small -/
def bOk (x : bS) : Prop := x.2.2 ≤ 81 ∧ (∀ k, k < x.2.2 → x.2.1 k < 81) ∧ ∀ k, x.1 k ≤ x.2.2
theorem bReach_ok {op : Nat → Bool} {x : bS} {p c : Nat} (h : bOk x) (hp : p < 81) (hc : c ≤ x.2.2 + 1) : bOk (bReach op x p c) := by
  unfold bReach
  by_cases hq : op p = true ∧ x.1 p = 0 ∧ x.2.2 < 81
  · rw [if_pos hq]
    obtain ⟨h1, h2, h3⟩ := h
    refine ⟨by show x.2.2 + 1 ≤ 81; omega, fun k hk => ?_, fun k => ?_⟩
    · show va_up x.2.1 x.2.2 p k < 81
      unfold va_up
      by_cases e : k = x.2.2
      · rw [if_pos e]; exact hp
      · rw [if_neg e]
        have hk' : k < x.2.2 + 1 := hk
        exact h2 k (by omega)
    · show va_up x.1 p c k ≤ x.2.2 + 1
      unfold va_up
      by_cases e : k = p
      · rw [if_pos e]; exact hc
      · rw [if_neg e]
        have := h3 k
        omega
  · rw [if_neg hq]; exact h
theorem bDir_ok {op : Nat → Bool} {x : bS} {p d : Nat} (h : bOk x) (hp : p < 81) : bOk (bDir op x p d) := by
  cases hn : nb p d with
  | none => rw [bDir_none hn]; exact h
  | some q => rw [bDir_some hn]; exact bReach_ok h (nb_lt hp hn) (by have := h.2.2 p; omega)
theorem bDirs_ok {op : Nat → Bool} {x : bS} {p : Nat} (h : bOk x) (hp : p < 81) : ∀ d, bOk (bDirs op x p d)
  | 0 => h
  | d + 1 => bDir_ok (bDirs_ok h hp d) hp
theorem bRow_ok {op : Nat → Bool} {x : bS} {r : Nat} (h : bOk x) : ∀ k, r + k ≤ 81 → bOk (bRow op x r k)
  | 0, _ => h
  | k + 1, hk => bReach_ok (bRow_ok h k (by omega)) (by omega) (by omega)
theorem bGo_ok {op : Nat → Bool} : ∀ (f : Nat) {x : bS} (i : Nat), bOk x → bOk (bGo op f x i)
  | 0, _, _, h => h
  | f + 1, x, i, h => by
    by_cases hq : i < 81 ∧ i < x.2.2
    · rw [bGo_step hq]; exact bGo_ok f (i + 1) (bDirs_ok h (h.2.1 i hq.2) 4)
    · rw [bGo_stop hq]; exact h
/-! neighbours -/
def adj (p q : Nat) : Prop := ∃ d, d < 4 ∧ nb p d = some q
theorem adj_lt {p q : Nat} (hp : p < 81) (h : adj p q) : q < 81 := by obtain ⟨d, -, h⟩ := h; exact nb_lt hp h
theorem nb0 {p : Nat} (h : 9 ≤ p) : nb p 0 = some (p - 9) := by unfold nb; rw [if_pos rfl, if_pos h]
theorem nb1 {p : Nat} (h : ¬ p % 9 = 0) : nb p 1 = some (p - 1) := by unfold nb; rw [if_neg (by decide), if_pos rfl, if_neg h]
theorem nb2 {p : Nat} (h : ¬ p % 9 = 8) : nb p 2 = some (p + 1) := by unfold nb; rw [if_neg (by decide), if_neg (by decide), if_pos rfl, if_neg h]
theorem nb3 {p : Nat} (h : p < 72) : nb p 3 = some (p + 9) := by unfold nb; rw [if_neg (by decide), if_neg (by decide), if_neg (by decide), if_pos h]
theorem adj_symm {p q : Nat} (hp : p < 81) (h : adj p q) : adj q p := by
  obtain ⟨d, hd, h⟩ := h
  unfold nb at h
  rcases (show d = 0 ∨ d = 1 ∨ d = 2 ∨ d = 3 by omega) with rfl | rfl | rfl | rfl
  · rw [if_pos rfl] at h
    by_cases h1 : 9 ≤ p
    · rw [if_pos h1] at h; cases h
      exact ⟨3, by decide, by rw [nb3 (by omega)]; congr 1 <;> omega⟩
    · rw [if_neg h1] at h; cases h
  · rw [if_neg (by decide), if_pos rfl] at h
    by_cases h1 : p % 9 = 0
    · rw [if_pos h1] at h; cases h
    · rw [if_neg h1] at h; cases h
      exact ⟨2, by decide, by rw [nb2 (by omega)]; congr 1 <;> omega⟩
  · rw [if_neg (by decide), if_neg (by decide), if_pos rfl] at h
    by_cases h1 : p % 9 = 8
    · rw [if_pos h1] at h; cases h
    · rw [if_neg h1] at h; cases h
      exact ⟨1, by decide, by rw [nb1 (by omega)]; congr 1⟩
  · rw [if_neg (by decide), if_neg (by decide), if_neg (by decide)] at h
    by_cases h1 : p < 72
    · rw [if_pos h1] at h; cases h
      exact ⟨0, by decide, by rw [nb0 (by omega)]; congr 1 <;> omega⟩
    · rw [if_neg h1] at h; cases h
/-! the queue holds just the cells that were reached -/
def vis (D : Nat → Nat) (q : Nat) : Bool := decide (D q ≠ 0)
theorem vis_t {D : Nat → Nat} {q : Nat} : vis D q = true ↔ D q ≠ 0 := by unfold vis; exact decide_eq_true_iff
def bInv (op : Nat → Bool) (x : bS) : Prop :=
  x.2.2 = fb_ct (vis x.1) 81 ∧ (∀ k, k < x.2.2 → x.2.1 k < 81 ∧ x.1 (x.2.1 k) ≠ 0) ∧ ∀ q, x.1 q ≠ 0 → q < 81 ∧ op q = true ∧ ∃ k, k < x.2.2 ∧ x.2.1 k = q
theorem bInv_room {op : Nat → Bool} {x : bS} (h : bInv op x) {q : Nat} (hq : q < 81) (h0 : x.1 q = 0) : x.2.2 < 81 := by
  have h1 := h.1
  have h2 := fb_ct_le (vis x.1) 81
  rcases Nat.lt_or_ge x.2.2 81 with z | z
  · exact z
  · have h3 : fb_ct (vis x.1) 81 = 81 := by omega
    have h4 := fb_ct_all.mp h3 q hq
    exact absurd h0 (vis_t.mp h4)
theorem bReach_yes {op : Nat → Bool} {x : bS} {p c : Nat} (h : bInv op x) (hp : p < 81) (ho : op p = true) (h0 : x.1 p = 0) : bReach op x p c = (va_up x.1 p c, va_up x.2.1 x.2.2 p, x.2.2 + 1) := by
  unfold bReach
  rw [if_pos ⟨ho, h0, bInv_room h hp h0⟩]
theorem bReach_no {op : Nat → Bool} {x : bS} {p c : Nat} (h : ¬ (op p = true ∧ x.1 p = 0)) : bReach op x p c = x := by
  unfold bReach
  rw [if_neg (fun z => h ⟨z.1, z.2.1⟩)]
theorem va_up_s {α : Type} {f : Nat → α} {k : Nat} {v : α} : va_up f k v k = v := by unfold va_up; rw [if_pos rfl]
theorem va_up_n {α : Type} {f : Nat → α} {k j : Nat} {v : α} (h : ¬ j = k) : va_up f k v j = f j := by unfold va_up; rw [if_neg h]
theorem bReach_inv {op : Nat → Bool} {x : bS} {p c : Nat} (h : bInv op x) (hp : p < 81) (hc : c ≠ 0) : bInv op (bReach op x p c) := by
  by_cases hq : op p = true ∧ x.1 p = 0
  · rw [bReach_yes h hp hq.1 hq.2]
    obtain ⟨h1, h2, h3⟩ := id h
    have e : vis (va_up x.1 p c) = fun k => if k = p then true else vis x.1 k := by
      funext k
      by_cases e : k = p
      · rw [if_pos e, e]
        exact vis_t.mpr (by rw [va_up_s]; exact hc)
      · rw [if_neg e]
        unfold vis
        rw [va_up_n e]
    refine ⟨?_, fun k hk => ?_, fun q hz => ?_⟩
    · show x.2.2 + 1 = fb_ct (vis (va_up x.1 p c)) 81
      have h5 := fb_ct_upd (vis x.1) true hp
      have h6 : vis x.1 p = false := by
        cases hv : vis x.1 p
        · rfl
        · exact absurd hq.2 (vis_t.mp hv)
      rw [e]
      rw [h6] at h5
      simp only [if_true, Bool.false_eq_true, if_false] at h5
      omega
    · have hk' : k < x.2.2 + 1 := hk
      show va_up x.2.1 x.2.2 p k < 81 ∧ va_up x.1 p c (va_up x.2.1 x.2.2 p k) ≠ 0
      by_cases e1 : k = x.2.2
      · rw [e1, va_up_s, va_up_s]
        exact ⟨hp, hc⟩
      · rw [va_up_n e1]
        obtain ⟨a1, a2⟩ := h2 k (by omega)
        refine ⟨a1, ?_⟩
        by_cases e2 : x.2.1 k = p
        · rw [e2, va_up_s]; exact hc
        · rw [va_up_n e2]; exact a2
    · have hz' : va_up x.1 p c q ≠ 0 := hz
      show q < 81 ∧ op q = true ∧ ∃ k, k < x.2.2 + 1 ∧ va_up x.2.1 x.2.2 p k = q
      by_cases e1 : q = p
      · subst e1
        exact ⟨hp, hq.1, x.2.2, by omega, va_up_s⟩
      · rw [va_up_n e1] at hz'
        obtain ⟨a1, a2, k, a3, a4⟩ := h3 q hz'
        exact ⟨a1, a2, k, by omega, by rw [va_up_n (by omega)]; exact a4⟩
  · rw [bReach_no hq]; exact h
/-- what was reached stays -/
def bLe (x y : bS) : Prop := x.2.2 ≤ y.2.2 ∧ (∀ k, k < x.2.2 → y.2.1 k = x.2.1 k) ∧ ∀ q, x.1 q ≠ 0 → y.1 q = x.1 q
theorem bLe_rf {x : bS} : bLe x x := ⟨Nat.le_refl _, fun _ _ => rfl, fun _ _ => rfl⟩
theorem bLe_tr {x y z : bS} (h : bLe x y) (h2 : bLe y z) : bLe x z :=
  ⟨Nat.le_trans h.1 h2.1, fun k hk => (h2.2.1 k (Nat.lt_of_lt_of_le hk h.1)).trans (h.2.1 k hk), fun q hq => (h2.2.2 q (by rw [h.2.2 q hq]; exact hq)).trans (h.2.2 q hq)⟩
theorem bReach_le {op : Nat → Bool} {x : bS} {p c : Nat} : bLe x (bReach op x p c) := by
  unfold bReach
  by_cases hq : op p = true ∧ x.1 p = 0 ∧ x.2.2 < 81
  · rw [if_pos hq]
    refine ⟨by show x.2.2 ≤ x.2.2 + 1; omega, fun k hk => va_up_n (by omega), fun q h0 => va_up_n (fun e => h0 (by rw [e]; exact hq.2.1))⟩
  · rw [if_neg hq]; exact bLe_rf
theorem bReach_in {op : Nat → Bool} {x : bS} {p c : Nat} (h : bInv op x) (hp : p < 81) (hc : c ≠ 0) (ho : op p = true) : (bReach op x p c).1 p ≠ 0 := by
  by_cases h0 : x.1 p = 0
  · rw [bReach_yes h hp ho h0]
    show va_up x.1 p c p ≠ 0
    rw [va_up_s]; exact hc
  · rw [bReach_no (fun z => h0 z.2)]; exact h0
/-- what a reach adds -/
theorem bReach_new {op : Nat → Bool} {x : bS} {p c q : Nat} (h : (bReach op x p c).1 q ≠ 0) (h0 : x.1 q = 0) : q = p ∧ op p = true ∧ (bReach op x p c).1 q = c := by
  unfold bReach at h ⊢
  by_cases hq : op p = true ∧ x.1 p = 0 ∧ x.2.2 < 81
  · rw [if_pos hq] at h ⊢
    have h' : va_up x.1 p c q ≠ 0 := h
    show q = p ∧ op p = true ∧ va_up x.1 p c q = c
    by_cases e : q = p
    · exact ⟨e, hq.1, by rw [e, va_up_s]⟩
    · rw [va_up_n e] at h'; exact absurd h0 h'
  · rw [if_neg hq] at h; exact absurd h0 h
/-- an invariant over the four neighbours of p -/
theorem bDirs_ind {op : Nat → Bool} {x : bS} {p : Nat} (hp : p < 81) (I : bS → Nat → Prop) (h0 : I x 0) (hs : ∀ (y : bS) (d : Nat), d < 4 → I y d → (nb p d = none → I y (d + 1)) ∧ ∀ q, q < 81 → nb p d = some q → I (bReach op y q (y.1 p + 1)) (d + 1)) : ∀ d, d ≤ 4 → I (bDirs op x p d) d
  | 0, _ => h0
  | d + 1, hd => by
    have h1 := hs _ d (by omega) (bDirs_ind hp I h0 hs d (by omega))
    show I (bDir op (bDirs op x p d) p d) (d + 1)
    cases hn : nb p d with
    | none => rw [bDir_none hn]; exact h1.1 hn
    | some q => rw [bDir_some hn]; exact h1.2 q (nb_lt hp hn) hn
/-- an invariant over the spread, to its end -/
theorem bGo_ind {op : Nat → Bool} (I : bS → Nat → Prop) (hs : ∀ (x : bS) (i : Nat), I x i → i < 81 → i < x.2.2 → I (bDirs op x (x.2.1 i) 4) (i + 1)) : ∀ (f : Nat) (x : bS) (i : Nat), I x i → 82 ≤ i + f → ∃ j, I (bGo op f x i) j ∧ ¬ (j < 81 ∧ j < (bGo op f x i).2.2)
  | 0, x, i, h, hf => ⟨i, h, fun z => by omega⟩
  | f + 1, x, i, h, hf => by
    by_cases hq : i < 81 ∧ i < x.2.2
    · rw [bGo_step hq]
      exact bGo_ind I hs f _ (i + 1) (hs x i h hq.1 hq.2) (by omega)
    · rw [bGo_stop hq]
      exact ⟨i, h, hq⟩
/-! ===== distances ===== -/
/-- D tells for each cell how many cells a way from 'src' has at least, over open cells; 0 without one -/
def isDist (op : Nat → Bool) (src : Nat → Prop) (D : Nat → Nat) : Prop :=
  (∀ q, D q ≠ 0 → q < 81 ∧ op q = true) ∧ (∀ q, q < 81 → op q = true → src q → D q = 1) ∧ (∀ q, D q ≠ 0 → (D q = 1 ∧ src q) ∨ ∃ j, j < 81 ∧ D j ≠ 0 ∧ D q = D j + 1 ∧ adj j q) ∧ ∀ p q, D p ≠ 0 → adj p q → op q = true → D q ≠ 0 ∧ D q ≤ D p + 1
theorem isDist_le {op : Nat → Bool} {src : Nat → Prop} {D D2 : Nat → Nat} (h : isDist op src D) (h2 : isDist op src D2) : ∀ (n q : Nat), D q = n + 1 → D2 q ≠ 0 ∧ D2 q ≤ n + 1
  | n, q, e => by
    have hq : D q ≠ 0 := by omega
    obtain ⟨a1, a2⟩ := h.1 q hq
    rcases h.2.2.1 q hq with ⟨b1, b2⟩ | ⟨j, b1, b2, b3, b4⟩
    · have := h2.2.1 q a1 a2 b2
      omega
    · cases n with
      | zero => omega
      | succ n =>
        obtain ⟨c1, c2⟩ := isDist_le h h2 n j (by omega)
        obtain ⟨d1, d2⟩ := h2.2.2.2 j q c1 b4 a2
        exact ⟨d1, by omega⟩
theorem isDist_one {op : Nat → Bool} {src : Nat → Prop} {D D2 : Nat → Nat} (h : isDist op src D) (h2 : isDist op src D2) (q : Nat) : D q = D2 q := by
  rcases Nat.eq_zero_or_pos (D q) with z | z
  · rcases Nat.eq_zero_or_pos (D2 q) with z2 | z2
    · omega
    · obtain ⟨a, b⟩ := isDist_le h2 h (D2 q - 1) q (by omega)
      omega
  · obtain ⟨a, b⟩ := isDist_le h h2 (D q - 1) q (by omega)
    obtain ⟨a2, b2⟩ := isDist_le h2 h (D2 q - 1) q (by omega)
    omega
/-- between the rounds: i cells of the queue are done -/
def bMid (op : Nat → Bool) (src : Nat → Prop) (x : bS) (i : Nat) : Prop :=
  bInv op x ∧ (∀ k k2, k ≤ k2 → k2 < x.2.2 → x.1 (x.2.1 k) ≤ x.1 (x.2.1 k2)) ∧ (i < x.2.2 → ∀ k, k < x.2.2 → x.1 (x.2.1 k) ≤ x.1 (x.2.1 i) + 1) ∧
  (∀ q, x.1 q ≠ 0 → (x.1 q = 1 ∧ src q) ∨ ∃ j, j < 81 ∧ x.1 j ≠ 0 ∧ x.1 q = x.1 j + 1 ∧ adj j q) ∧ (∀ k q, k < i → k < x.2.2 → adj (x.2.1 k) q → op q = true → x.1 q ≠ 0 ∧ x.1 q ≤ x.1 (x.2.1 k) + 1) ∧ (∀ q, q < 81 → op q = true → src q → x.1 q = 1)
theorem bMid_step {op : Nat → Bool} {src : Nat → Prop} (x : bS) (i : Nat) (h : bMid op src x i) (hi : i < 81) (hn : i < x.2.2) : bMid op src (bDirs op x (x.2.1 i) 4) (i + 1) := by
  obtain ⟨h1, h2, h3, h4, h5, h6⟩ := h
  obtain ⟨p, hpe⟩ : ∃ p, p = x.2.1 i := ⟨_, rfl⟩
  rw [← hpe]
  have hp81 : p < 81 := by rw [hpe]; exact (h1.2.1 i hn).1
  have hp0 : x.1 p ≠ 0 := by rw [hpe]; exact (h1.2.1 i hn).2
  have key := bDirs_ind (op := op) (x := x) hp81 (fun y d => bInv op y ∧ bLe x y ∧ (∀ k k2, k ≤ k2 → k2 < y.2.2 → y.1 (y.2.1 k) ≤ y.1 (y.2.1 k2)) ∧ (∀ k, k < y.2.2 → y.1 (y.2.1 k) ≤ x.1 p + 1) ∧
    (∀ q, y.1 q ≠ 0 → (y.1 q = 1 ∧ src q) ∨ ∃ j, j < 81 ∧ y.1 j ≠ 0 ∧ y.1 q = y.1 j + 1 ∧ adj j q) ∧ (∀ d2 q, d2 < d → nb p d2 = some q → op q = true → y.1 q ≠ 0)) ?_ ?_ 4 (Nat.le_refl 4)
  · obtain ⟨k1, k2, k3, k4, k5, k6⟩ := key
    have hyi : (bDirs op x p 4).2.1 i = p := by rw [k2.2.1 i hn, hpe]
    have hyp : (bDirs op x p 4).1 p = x.1 p := k2.2.2 p hp0
    generalize bDirs op x p 4 = y at k1 k2 k3 k4 k5 k6 hyi hyp ⊢
    refine ⟨k1, k3, fun hl k hk => ?_, k5, fun k q hk hky ha ho => ?_, fun q a b c => ?_⟩
    · have a1 := k4 k hk
      have a2 := k3 i (i + 1) (by omega) hl
      rw [hyi, hyp] at a2
      omega
    · rcases Nat.lt_or_ge k i with z | z
      · have hkx : k < x.2.2 := by omega
        have e1 : y.2.1 k = x.2.1 k := k2.2.1 k hkx
        rw [e1] at ha ⊢
        obtain ⟨b1, b2⟩ := h5 k q z hkx ha ho
        have e2 : y.1 (x.2.1 k) = x.1 (x.2.1 k) := k2.2.2 _ (h1.2.1 k hkx).2
        rw [k2.2.2 q b1, e2]
        exact ⟨b1, b2⟩
      · have e : k = i := by omega
        subst e
        rw [hyi] at ha ⊢
        rw [hyp]
        obtain ⟨d, hd, hnb⟩ := ha
        have b1 := k6 d q hd hnb ho
        obtain ⟨-, -, kq, hkq, hkq2⟩ := k1.2.2 q b1
        have b2 := k4 kq hkq
        rw [hkq2] at b2
        exact ⟨b1, b2⟩
    · have b1 := h6 q a b c
      rw [k2.2.2 q (by omega)]
      exact b1
  · refine ⟨h1, bLe_rf, h2, fun k hk => ?_, h4, fun d2 q hd => absurd hd (Nat.not_lt_zero _)⟩
    rw [hpe]
    exact h3 hn k hk
  · intro y d hd ⟨k1, k2, k3, k4, k5, k6⟩
    have hyp : y.1 p = x.1 p := k2.2.2 p hp0
    refine ⟨fun hnone => ⟨k1, k2, k3, k4, k5, fun d2 q hd2 hnb ho => ?_⟩, fun q hq hnb => ?_⟩
    · rcases Nat.lt_or_ge d2 d with z | z
      · exact k6 d2 q z hnb ho
      · have e : d2 = d := by omega
        subst e
        rw [hnone] at hnb; cases hnb
    · rw [hyp]
      have hle : bLe y (bReach op y q (x.1 p + 1)) := bReach_le
      have hinv : bInv op (bReach op y q (x.1 p + 1)) := bReach_inv k1 hq (by omega)
      refine ⟨hinv, bLe_tr k2 hle, ?_, ?_, ?_, ?_⟩
      · by_cases hz : op q = true ∧ y.1 q = 0
        · rw [bReach_yes k1 hq hz.1 hz.2]
          intro k kk hkk hl
          have hl' : kk < y.2.2 + 1 := hl
          show va_up y.1 q (x.1 p + 1) (va_up y.2.1 y.2.2 q k) ≤ va_up y.1 q (x.1 p + 1) (va_up y.2.1 y.2.2 q kk)
          have old : ∀ t, t < y.2.2 → va_up y.1 q (x.1 p + 1) (va_up y.2.1 y.2.2 q t) = y.1 (y.2.1 t) := fun t ht => by
            rw [va_up_n (show ¬ t = y.2.2 by omega), va_up_n]
            intro e
            exact (k1.2.1 t ht).2 (by rw [e]; exact hz.2)
          have new : va_up y.1 q (x.1 p + 1) (va_up y.2.1 y.2.2 q y.2.2) = x.1 p + 1 := by rw [va_up_s, va_up_s]
          rcases Nat.lt_or_ge kk y.2.2 with z | z
          · rw [old k (by omega), old kk z]; exact k3 k kk hkk z
          · have e : kk = y.2.2 := by omega
            rw [e, new]
            rcases Nat.lt_or_ge k y.2.2 with z2 | z2
            · rw [old k z2]; exact k4 k z2
            · have e2 : k = y.2.2 := by omega
              rw [e2, new]; exact Nat.le_refl _
        · rw [bReach_no hz]; exact k3
      · by_cases hz : op q = true ∧ y.1 q = 0
        · intro k hk
          obtain ⟨a1, a2⟩ := hinv.2.1 k hk
          by_cases h0 : y.1 ((bReach op y q (x.1 p + 1)).2.1 k) = 0
          · obtain ⟨-, -, e⟩ := bReach_new a2 h0
            rw [e]; exact Nat.le_refl _
          · rw [hle.2.2 _ h0]
            obtain ⟨-, -, t, ht, ht2⟩ := k1.2.2 _ h0
            rw [← ht2]
            exact k4 t ht
        · rw [bReach_no hz]; exact k4
      · intro t ht
        by_cases h0 : y.1 t = 0
        · obtain ⟨e1, e2, e3⟩ := bReach_new ht h0
          refine Or.inr ⟨p, hp81, ?_, ?_, ?_⟩
          · rw [hle.2.2 p (by rw [hyp]; exact hp0), hyp]; exact hp0
          · rw [e3, hle.2.2 p (by rw [hyp]; exact hp0), hyp]
          · rw [e1]; exact ⟨d, hd, hnb⟩
        · rw [hle.2.2 t h0]
          rcases k5 t h0 with a | ⟨j, a1, a2, a3, a4⟩
          · exact Or.inl a
          · exact Or.inr ⟨j, a1, by rw [hle.2.2 j a2]; exact a2, by rw [hle.2.2 j a2]; exact a3, a4⟩
      · intro d2 t hd2 hnb2 ho
        rcases Nat.lt_or_ge d2 d with z | z
        · have a := k6 d2 t z hnb2 ho
          rw [hle.2.2 t a]; exact a
        · have e : d2 = d := by omega
          subst e
          rw [hnb] at hnb2; cases hnb2
          exact bReach_in k1 hq (by omega) ho
theorem bMid_end {op : Nat → Bool} {src : Nat → Prop} {x : bS} {j : Nat} (h : bMid op src x j) (hj : ¬ (j < 81 ∧ j < x.2.2)) : isDist op src x.1 := by
  obtain ⟨h1, h2, h3, h4, h5, h6⟩ := h
  have hn : x.2.2 ≤ 81 := by rw [h1.1]; exact fb_ct_le _ _
  refine ⟨fun q hq => ⟨(h1.2.2 q hq).1, (h1.2.2 q hq).2.1⟩, h6, h4, fun p q hp ha ho => ?_⟩
  obtain ⟨-, -, k, hk, hk2⟩ := h1.2.2 p hp
  rw [← hk2] at ha ⊢
  exact h5 k q (by omega) hk ha ho
/-- behind clear(): nothing is reached -/
def bClr (rc : Nat → Nat) : bS := (fun _ => 0, rc, 0)
theorem bClr_inv {op : Nat → Bool} {rc : Nat → Nat} : bInv op (bClr rc) := by
  refine ⟨?_, fun k hk => absurd hk (Nat.not_lt_zero k), fun q hq => absurd rfl hq⟩
  exact (fb_ct_zero.mpr (fun k _ => by unfold vis bClr; simp)).symm
theorem bClr_ok {rc : Nat → Nat} : bOk (bClr rc) := ⟨Nat.zero_le _, fun k hk => absurd hk (Nat.not_lt_zero k), fun _ => Nat.le_refl _⟩
/-- the row at which a spread begins -/
theorem bRow_mid {op : Nat → Bool} {rc : Nat → Nat} {r : Nat} (hr : r + 9 ≤ 81) : ∀ k, k ≤ 9 → bInv op (bRow op (bClr rc) r k) ∧ (∀ q, (bRow op (bClr rc) r k).1 q ≠ 0 → (bRow op (bClr rc) r k).1 q = 1 ∧ r ≤ q ∧ q < r + k) ∧ ∀ q, r ≤ q → q < r + k → op q = true → (bRow op (bClr rc) r k).1 q = 1
  | 0, _ => ⟨bClr_inv, fun q hq => absurd rfl hq, fun q h1 h2 => by omega⟩
  | k + 1, hk => by
    obtain ⟨a1, a2, a3⟩ := bRow_mid (op := op) (rc := rc) hr k (by omega)
    show bInv op (bReach op (bRow op (bClr rc) r k) (r + k) 1) ∧ (∀ q, (bReach op (bRow op (bClr rc) r k) (r + k) 1).1 q ≠ 0 → (bReach op (bRow op (bClr rc) r k) (r + k) 1).1 q = 1 ∧ r ≤ q ∧ q < r + (k + 1)) ∧ ∀ q, r ≤ q → q < r + (k + 1) → op q = true → (bReach op (bRow op (bClr rc) r k) (r + k) 1).1 q = 1
    generalize bRow op (bClr rc) r k = y at a1 a2 a3 ⊢
    have hle : bLe y (bReach op y (r + k) 1) := bReach_le
    have one : ∀ q, (bReach op y (r + k) 1).1 q ≠ 0 → (bReach op y (r + k) 1).1 q = 1 ∧ r ≤ q ∧ q < r + (k + 1) := fun q hq => by
      by_cases h0 : y.1 q = 0
      · obtain ⟨e1, e2, e3⟩ := bReach_new hq h0
        exact ⟨e3, by omega, by omega⟩
      · obtain ⟨b1, b2, b3⟩ := a2 q h0
        rw [hle.2.2 q h0]
        exact ⟨b1, b2, by omega⟩
    refine ⟨bReach_inv a1 (by omega) (by decide), one, fun q h1 h2 ho => ?_⟩
    rcases Nat.lt_or_ge q (r + k) with z | z
    · have b := a3 q h1 z ho
      rw [hle.2.2 q (by omega)]; exact b
    · have e : q = r + k := by omega
      subst e
      exact (one _ (bReach_in a1 (by omega) (by decide) ho)).1
/-- THE DISTANCES: the class's spread from the row of r on -/
def distS (op : Nat → Bool) (rc : Nat → Nat) (r : Nat) : bS := bGo op 82 (bRow op (bClr rc) r 9) 0
def dist (op : Nat → Bool) (r : Nat) : Nat → Nat := (distS op (fun _ => 0) r).1
theorem distS_is {op : Nat → Bool} {rc : Nat → Nat} {r : Nat} (hr : r + 9 ≤ 81) : isDist op (fun q => r ≤ q ∧ q < r + 9) (distS op rc r).1 := by
  obtain ⟨a1, a2, a3⟩ := bRow_mid (op := op) (rc := rc) hr 9 (Nat.le_refl 9)
  have h0 : bMid op (fun q => r ≤ q ∧ q < r + 9) (bRow op (bClr rc) r 9) 0 := by
    have e1 : ∀ k, k < (bRow op (bClr rc) r 9).2.2 → (bRow op (bClr rc) r 9).1 ((bRow op (bClr rc) r 9).2.1 k) = 1 := fun k hk => (a2 _ (a1.2.1 k hk).2).1
    refine ⟨a1, fun k k2 h1 h2 => ?_, fun hn k hk => ?_, fun q hq => Or.inl ⟨(a2 q hq).1, (a2 q hq).2⟩, fun k q hk => absurd hk (Nat.not_lt_zero k), fun q _ ho hs => a3 q hs.1 hs.2 ho⟩
    · rw [e1 k (by omega), e1 k2 h2]; exact Nat.le_refl 1
    · rw [e1 k hk]; omega
  obtain ⟨j, h1, h2⟩ := bGo_ind (bMid op (fun q => r ≤ q ∧ q < r + 9)) bMid_step 82 (bRow op (bClr rc) r 9) 0 h0 (by decide)
  exact bMid_end h1 h2
theorem dist_is {op : Nat → Bool} {r : Nat} (hr : r + 9 ≤ 81) : isDist op (fun q => r ≤ q ∧ q < r + 9) (dist op r) := distS_is hr
theorem distS_eq {op : Nat → Bool} {rc : Nat → Nat} {r : Nat} (hr : r + 9 ≤ 81) : (distS op rc r).1 = dist op r := funext fun q => isDist_one (distS_is hr) (dist_is hr) q
theorem distS_ok {op : Nat → Bool} {rc : Nat → Nat} {r : Nat} (hr : r + 9 ≤ 81) : bOk (distS op rc r) := bGo_ok 82 0 (bRow_ok bClr_ok 9 hr)
theorem dist_le {op : Nat → Bool} {r : Nat} (hr : r + 9 ≤ 81) (q : Nat) : dist op r q ≤ 81 := Nat.le_trans ((distS_ok (op := op) (rc := fun _ => 0) hr).2.2 q) (distS_ok (op := op) (rc := fun _ => 0) hr).1
