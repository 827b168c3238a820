/-! ===== more of the class's ways, in numbers ===== -/
theorem bDir_le {op : Nat → Bool} {x : bS} {p d : Nat} : bLe x (bDir op x p d) := by
  cases hn : nb p d with
  | none => rw [bDir_none hn]; exact bLe_rf
  | some q => rw [bDir_some hn]; exact bReach_le
theorem bDirs_le {op : Nat → Bool} {x : bS} {p : Nat} : ∀ d, bLe x (bDirs op x p d)
  | 0 => bLe_rf
  | d + 1 => bLe_tr (bDirs_le d) bDir_le
theorem bGo_le {op : Nat → Bool} : ∀ (f : Nat) (x : bS) (i : Nat), bLe x (bGo op f x i)
  | 0, _, _ => bLe_rf
  | f + 1, x, i => by
    by_cases hq : i < 81 ∧ i < x.2.2
    · rw [bGo_step hq]; exact bLe_tr (bDirs_le 4) (bGo_le f _ (i + 1))
    · rw [bGo_stop hq]; exact bLe_rf
theorem bCell_le {op : Nat → Bool} {x : bS} {p : Nat} : bLe x (bCell op x p) := bLe_tr bReach_le (bGo_le 82 _ _)
/-- the neighbour of p with the fewest steps, the first of them; p itself where none has fewer -/
def nrr (D : Nat → Nat) (p : Nat) : Nat → Nat
  | 0 => p
  | d + 1 => match nb p d with
    | none => nrr D p d
    | some q => if 0 < D q ∧ D q < D (nrr D p d) then q else nrr D p d
theorem nrr_none {D : Nat → Nat} {p d : Nat} (h : nb p d = none) : nrr D p (d + 1) = nrr D p d := by
  show (match nb p d with | none => nrr D p d | some q => if 0 < D q ∧ D q < D (nrr D p d) then q else nrr D p d) = _
  rw [h]
theorem nrr_some {D : Nat → Nat} {p d q : Nat} (h : nb p d = some q) : nrr D p (d + 1) = if 0 < D q ∧ D q < D (nrr D p d) then q else nrr D p d := by
  show (match nb p d with | none => nrr D p d | some q => if 0 < D q ∧ D q < D (nrr D p d) then q else nrr D p d) = _
  rw [h]
theorem nrr_lt {D : Nat → Nat} {p : Nat} (hp : p < 81) : ∀ d, nrr D p d < 81
  | 0 => hp
  | d + 1 => by
    cases hn : nb p d with
    | none => rw [nrr_none hn]; exact nrr_lt hp d
    | some q =>
      rw [nrr_some hn]
      by_cases h : 0 < D q ∧ D q < D (nrr D p d)
      · rw [if_pos h]; exact nb_lt hp hn
      · rw [if_neg h]; exact nrr_lt hp d
/-- of the cells 0 .. n - 1 the first with the fewest steps, none where none was reached -/
def bestR (D : Nat → Nat) : Nat → Option Nat
  | 0 => none
  | n + 1 => match bestR D n with
    | none => if 0 < D n then some n else none
    | some b => if 0 < D n ∧ D n < D b then some n else some b
theorem bestR_none {D : Nat → Nat} {n : Nat} (h : bestR D n = none) : bestR D (n + 1) = if 0 < D n then some n else none := by
  show (match bestR D n with | none => _ | some b => _) = _
  rw [h]
theorem bestR_some {D : Nat → Nat} {n b : Nat} (h : bestR D n = some b) : bestR D (n + 1) = if 0 < D n ∧ D n < D b then some n else some b := by
  show (match bestR D n with | none => _ | some b => _) = _
  rw [h]
/-- what bestR is -/
theorem bestR_is (D : Nat → Nat) : ∀ n, (bestR D n = none ∧ ∀ k, k < n → D k = 0) ∨ ∃ b, bestR D n = some b ∧ b < n ∧ 0 < D b ∧ (∀ k, k < n → D k = 0 ∨ D b ≤ D k) ∧ ∀ k, k < b → D k = 0 ∨ D b < D k
  | 0 => Or.inl ⟨rfl, fun k hk => absurd hk (Nat.not_lt_zero k)⟩
  | n + 1 => by
    rcases bestR_is D n with ⟨h1, h2⟩ | ⟨b, h1, h2, h3, h4, h5⟩
    · rw [bestR_none h1]
      by_cases h : 0 < D n
      · rw [if_pos h]
        refine Or.inr ⟨n, rfl, by omega, h, fun k hk => ?_, fun k hk => Or.inl (h2 k hk)⟩
        rcases Nat.lt_or_ge k n with z | z
        · exact Or.inl (h2 k z)
        · exact Or.inr (by rw [show k = n by omega]; exact Nat.le_refl _)
      · rw [if_neg h]
        refine Or.inl ⟨rfl, fun k hk => ?_⟩
        rcases Nat.lt_or_ge k n with z | z
        · exact h2 k z
        · rw [show k = n by omega]; omega
    · rw [bestR_some h1]
      by_cases h : 0 < D n ∧ D n < D b
      · rw [if_pos h]
        refine Or.inr ⟨n, rfl, by omega, h.1, fun k hk => ?_, fun k hk => ?_⟩
        · rcases Nat.lt_or_ge k n with z | z
          · rcases h4 k z with e | e
            · exact Or.inl e
            · exact Or.inr (by omega)
          · exact Or.inr (by rw [show k = n by omega]; exact Nat.le_refl _)
        · rcases h4 k hk with e | e
          · exact Or.inl e
          · exact Or.inr (by omega)
      · rw [if_neg h]
        refine Or.inr ⟨b, rfl, by omega, h3, fun k hk => ?_, h5⟩
        rcases Nat.lt_or_ge k n with z | z
        · exact h4 k z
        · rw [show k = n by omega]; omega
theorem bestR_lt {D : Nat → Nat} {n b : Nat} (h : bestR D n = some b) : b < n := by
  rcases bestR_is D n with ⟨h1, -⟩ | ⟨c, h1, h2, -⟩
  · rw [h1] at h; cases h
  · rw [h1] at h; cases h; exact h2
theorem bestR_ob {D : Nat → Nat} {n : Nat} (hn : n < 2 ^ 31) : ∀ q, bestR D n = some q → q < 2 ^ 31 := fun q h => Nat.lt_trans (bestR_lt h) hn
/-- the greatest k below n with f, none without one -/
def mostD (f : Nat → Bool) : Nat → Option Nat
  | 0 => none
  | n + 1 => if f n = true then some n else mostD f n
/-- the first k below n without f; n without one -/
def firstNo (f : Nat → Bool) : Nat → Nat
  | 0 => 0
  | n + 1 => if firstNo f n < n then firstNo f n else if f n = true then n + 1 else n
theorem firstNo_le (f : Nat → Bool) : ∀ n, firstNo f n ≤ n
  | 0 => Nat.le_refl 0
  | n + 1 => by
    show (if firstNo f n < n then firstNo f n else if f n = true then n + 1 else n) ≤ n + 1
    have := firstNo_le f n
    by_cases h : firstNo f n < n
    · rw [if_pos h]; omega
    · rw [if_neg h]
      by_cases h2 : f n = true
      · rw [if_pos h2]; exact Nat.le_refl _
      · rw [if_neg h2]; omega
theorem firstNo_all {f : Nat → Bool} : ∀ {n : Nat}, (∀ k, k < n → f k = true) → firstNo f n = n
  | 0, _ => rfl
  | n + 1, h => by
    show (if firstNo f n < n then firstNo f n else if f n = true then n + 1 else n) = n + 1
    rw [firstNo_all (fun k hk => h k (by omega)), if_neg (Nat.lt_irrefl n), if_pos (h n (by omega))]
theorem firstNo_at {f : Nat → Bool} {k : Nat} (h : ∀ j, j < k → f j = true) (hk : f k = false) : ∀ n, k < n → firstNo f n = k
  | 0, hn => absurd hn (Nat.not_lt_zero k)
  | n + 1, hn => by
    show (if firstNo f n < n then firstNo f n else if f n = true then n + 1 else n) = k
    rcases Nat.lt_or_ge k n with z | z
    · rw [firstNo_at h hk n z, if_pos z]
    · have e : k = n := by omega
      subst e
      rw [firstNo_all h, if_neg (Nat.lt_irrefl k), if_neg (by rw [hk]; decide)]
theorem isNone_f {α : Type} {x : Option α} {y : α} (h : x = some y) : x.isSome = true := by rw [h]; rfl
/-- a ship led along: the cell where it grounds, 81 where it comes through -/
def leadN (dp : Nat → Int32) (dr : Int32) (D : Nat → Nat) : Nat → Nat → Nat
  | 0, _ => 81
  | n + 1, p => if dp p ≤ dr then p else leadN dp dr D n (nrr D p 4)
theorem bReach_mk {op : Nat → Bool} {sp rc : Nat → Nat} {rn j c : Nat} (h1 : op j = true) (h2 : sp j = 0) (h3 : rn < 81) : bReach op (sp, rc, rn) j c = (va_up sp j c, va_up rc rn j, rn + 1) := by
  unfold bReach
  rw [if_pos ⟨h1, h2, h3⟩]
theorem bReach_no3 {op : Nat → Bool} {sp rc : Nat → Nat} {rn j c : Nat} (h3 : 81 ≤ rn) : bReach op (sp, rc, rn) j c = (sp, rc, rn) := by
  unfold bReach
  rw [if_neg (fun z => by have h4 : rn < 81 := z.2.2; omega)]
