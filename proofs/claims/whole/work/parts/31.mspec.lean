/-! ===== the reference's labels and numbers that spread till nothing changes ===== -/
theorem oI_lt {a b : Nat} (ha : a < 2 ^ 31) (hb : b < 2 ^ 31) : nI a < nI b ↔ a < b := nI_ltI ha hb
/-- labels: what holds all along -/
def labI (op : Nat → Bool) (L : Nat → Option Nat) : Prop :=
  ∀ k, k < 81 → (op k = false → L k = none) ∧ (op k = true → ∃ m, L k = some m ∧ m ≤ k ∧ op m = true ∧ conn op k m)
theorem labI_ob {op : Nat → Bool} {L : Nat → Option Nat} (h : labI op L) {k : Nat} (hk : k < 81) {q : Nat} (hq : L k = some q) : q ≤ k ∧ op k = true := by
  cases ho : op k
  · rw [(h k hk).1 ho] at hq; cases hq
  · obtain ⟨m, h1, h2, -⟩ := (h k hk).2 ho
    rw [h1] at hq; cases hq
    exact ⟨h2, rfl⟩
def lab0 (op : Nat → Bool) (k : Nat) : Option Nat := if op k = true then some k else none
theorem lab0_I {op : Nat → Bool} {L : Nat → Option Nat} (h : ∀ k, k < 81 → L k = lab0 op k) : labI op L := by
  intro k hk
  rw [h k hk]
  unfold lab0
  refine ⟨fun ho => by rw [if_neg (by rw [ho]; decide)], fun ho => ⟨k, by rw [if_pos ho], Nat.le_refl k, ho, conn_rf⟩⟩
def labW (L : Nat → Option Nat) (k : Nat) : Nat := (L k).getD 0
def labM (L : Nat → Option Nat) : Nat := fb_sm (labW L) 81
/-- nothing more to do at k, that way -/
def stb (L : Nat → Option Nat) (k d : Nat) : Prop := ∀ q a b, nb k d = some q → L k = some a → L q = some b → a ≤ b
theorem labI_up {op : Nat → Bool} {L : Nat → Option Nat} {z d q a b : Nat} (h : labI op L) (hz : z < 81) (hd : d < 4) (hn : nb z d = some q) (ha : L z = some a) (hb : L q = some b) (hlt : b < a) : labI op (va_up L z (L q)) ∧ labM (va_up L z (L q)) < labM L := by
  have hq : q < 81 := nb_lt hz hn
  refine ⟨fun k hk => ?_, ?_⟩
  · by_cases e : k = z
    · subst e
      rw [va_up_s]
      obtain ⟨-, hoz⟩ := labI_ob h hz ha
      obtain ⟨hbq, hoq⟩ := labI_ob h hq hb
      refine ⟨fun ho => (by rw [ho] at hoz; cases hoz), fun _ => ?_⟩
      obtain ⟨m, m1, m2, m3, m4⟩ := (h q hq).2 hoq
      rw [m1] at hb; cases hb
      obtain ⟨ha2, -⟩ := labI_ob h hz ha
      exact ⟨b, m1, by omega, m3, conn_tr (conn_st conn_rf ⟨d, hd, hn⟩ hoq) m4⟩
    · rw [va_up_n e]; exact h k hk
  · unfold labM
    have e : labW (va_up L z (L q)) = fun k => if k = z then b else labW L k := by
      funext k
      by_cases e : k = z
      · rw [if_pos e, e]
        unfold labW
        rw [va_up_s, hb]; rfl
      · rw [if_neg e]
        unfold labW
        rw [va_up_n e]
    rw [e]
    have h1 := fb_sm_upd (labW L) b hz
    have h2 : labW L z = a := by unfold labW; rw [ha]; rfl
    omega
/-- the labels at the end: the first cell of each one's reef -/
def isLab (op : Nat → Bool) (L : Nat → Option Nat) : Prop :=
  ∀ k, k < 81 → (op k = false → L k = none) ∧ (op k = true → ∃ m, L k = some m ∧ m ≤ k ∧ op m = true ∧ conn op k m ∧ ∀ j, conn op k j → L j = some m ∧ m ≤ j)
theorem isLab_of {op : Nat → Bool} {L : Nat → Option Nat} (h : labI op L) (hs : ∀ k, k < 81 → ∀ d, d < 4 → stb L k d) : isLab op L := by
  have same : ∀ p q, p < 81 → op p = true → adj p q → op q = true → L p = L q := by
    intro p q hp hop ⟨d, hd, hn⟩ hoq
    have hq := nb_lt hp hn
    obtain ⟨a, a1, -⟩ := (h p hp).2 hop
    obtain ⟨b, b1, -⟩ := (h q hq).2 hoq
    have h1 := hs p hp d hd q a b hn a1 b1
    obtain ⟨d2, hd2, hn2⟩ := adj_symm hp ⟨d, hd, hn⟩
    have h2 := hs q hq d2 hd2 p b a hn2 b1 a1
    rw [a1, b1, show a = b by omega]
  intro k hk
  refine ⟨(h k hk).1, fun ho => ?_⟩
  obtain ⟨m, m1, m2, m3, m4⟩ := (h k hk).2 ho
  refine ⟨m, m1, m2, m3, m4, fun j hj => ?_⟩
  have h1 := hj (fun q => (q < 81 ∧ op q = true) ∧ L q = some m) ⟨⟨hk, ho⟩, m1⟩ (fun a b ha hab hb => ⟨⟨adj_lt ha.1.1 hab, hb⟩, by rw [← same a b ha.1.1 ha.1.2 hab hb]; exact ha.2⟩)
  exact ⟨h1.2, (labI_ob h h1.1.1 h1.2).1⟩
theorem isLab_root {op : Nat → Bool} {L : Nat → Option Nat} (h : isLab op L) {k : Nat} (hk : k < 81) : isRt op k = decide (L k = some k) := by
  cases ho : op k
  · rw [(h k hk).1 ho]
    have : isRt op k = false := cB_f.mpr (fun z => by rw [ho] at z; exact absurd z.1 (by decide))
    rw [this, decide_eq_false (by intro z; cases z)]
  · obtain ⟨m, m1, m2, m3, m4, m5⟩ := (h k hk).2 ho
    rw [m1]
    by_cases e : m = k
    · subst e
      rw [decide_eq_true rfl]
      refine cB_t.mpr ⟨ho, fun j hj hoj hc => ?_⟩
      have := (m5 j (conn_symm ⟨by omega, hoj⟩ hc)).2
      omega
    · rw [decide_eq_false (by intro z; cases z; exact e rfl)]
      refine cB_f.mpr (fun z => z.2 m (by omega) m3 (conn_symm ⟨hk, ho⟩ m4))
/-- two open cells with one label hang together -/
theorem isLab_conn {op : Nat → Bool} {L : Nat → Option Nat} (h : isLab op L) {k j : Nat} (hk : k < 81) (hj : j < 81) (ho : op k = true) : cB (conn op k j) = decide (L j = L k) := by
  obtain ⟨m, m1, m2, m3, m4, m5⟩ := (h k hk).2 ho
  cases hoj : op j
  · rw [(h j hj).1 hoj, m1, decide_eq_false (by intro z; cases z)]
    refine cB_f.mpr (fun z => ?_)
    rw [(conn_op ⟨hk, ho⟩ z).2] at hoj; cases hoj
  · obtain ⟨m', m1', -, m3', m4', -⟩ := (h j hj).2 hoj
    by_cases e : m' = m
    · subst e
      rw [m1, m1', decide_eq_true rfl]
      exact cB_t.mpr (conn_tr m4 (conn_symm ⟨hj, hoj⟩ m4'))
    · rw [m1, m1', decide_eq_false (by intro z; cases z; exact e rfl)]
      refine cB_f.mpr (fun z => ?_)
      have := (m5 j z).1
      rw [m1'] at this; cases this; exact e rfl
theorem isLab_size {op : Nat → Bool} {L : Nat → Option Nat} (h : isLab op L) {k : Nat} (hk : k < 81) (ho : op k = true) : fb_ct (fun j => decide (L j = L k)) 81 = compN op k :=
  fb_ct_cong fun j hj => (isLab_conn h hk hj ho).symm
/-! far: the numbers of the ways -/
def itsF (F : Nat → Nat) (s0 k : Nat) : Nat → Nat
  | 0 => s0
  | d + 1 => match nb k d with
    | none => itsF F s0 k d
    | some q => if F q + 1 < itsF F s0 k d then F q + 1 else itsF F s0 k d
theorem itsF_none {F : Nat → Nat} {s0 k d : Nat} (h : nb k d = none) : itsF F s0 k (d + 1) = itsF F s0 k d := by
  show (match nb k d with | none => _ | some q => _) = _
  rw [h]
theorem itsF_some {F : Nat → Nat} {s0 k d q : Nat} (h : nb k d = some q) : itsF F s0 k (d + 1) = if F q + 1 < itsF F s0 k d then F q + 1 else itsF F s0 k d := by
  show (match nb k d with | none => _ | some q => _) = _
  rw [h]
theorem itsF_le {F : Nat → Nat} {s0 k : Nat} : ∀ d, itsF F s0 k d ≤ s0
  | 0 => Nat.le_refl _
  | d + 1 => by
    have h := itsF_le (F := F) (s0 := s0) (k := k) d
    cases hn : nb k d with
    | none => rw [itsF_none hn]; exact h
    | some q =>
      rw [itsF_some hn]
      by_cases z : F q + 1 < itsF F s0 k d
      · rw [if_pos z]; omega
      · rw [if_neg z]; exact h
theorem itsF_nb {F : Nat → Nat} {s0 k : Nat} : ∀ d d2 q, d2 < d → nb k d2 = some q → itsF F s0 k d ≤ F q + 1
  | 0, d2, q, hd, _ => absurd hd (Nat.not_lt_zero _)
  | d + 1, d2, q, hd, hn => by
    rcases Nat.lt_or_ge d2 d with z | z
    · have h := itsF_nb (F := F) (s0 := s0) (k := k) d d2 q z hn
      cases hn2 : nb k d with
      | none => rw [itsF_none hn2]; exact h
      | some r =>
        rw [itsF_some hn2]
        by_cases z2 : F r + 1 < itsF F s0 k d
        · rw [if_pos z2]; omega
        · rw [if_neg z2]; exact h
    · have e : d2 = d := by omega
      subst e
      rw [itsF_some hn]
      by_cases z2 : F q + 1 < itsF F s0 k d2
      · rw [if_pos z2]; exact Nat.le_refl _
      · rw [if_neg z2]; omega
theorem itsF_is {F : Nat → Nat} {s0 k : Nat} : ∀ d, d ≤ 4 → itsF F s0 k d = s0 ∨ ∃ q, adj k q ∧ itsF F s0 k d = F q + 1
  | 0, _ => Or.inl rfl
  | d + 1, hd => by
    have h := itsF_is (F := F) (s0 := s0) (k := k) d (by omega)
    cases hn : nb k d with
    | none => rw [itsF_none hn]; exact h
    | some q =>
      rw [itsF_some hn]
      by_cases z : F q + 1 < itsF F s0 k d
      · rw [if_pos z]; exact Or.inr ⟨q, ⟨d, by omega, hn⟩, rfl⟩
      · rw [if_neg z]; exact h
def srcB (v : Bool) (k : Nat) : Bool := decide (k / 9 = if v = true then 8 else 0)
def rowV (v : Bool) : Nat := if v = true then 72 else 0
theorem srcB_iff {v : Bool} {k : Nat} (hk : k < 81) : srcB v k = true ↔ (rowV v ≤ k ∧ k < rowV v + 9) := by
  unfold srcB rowV
  rw [decide_eq_true_iff]
  cases v
  · simp only [Bool.false_eq_true, if_false]; omega
  · simp only [if_true]; omega
def src0 (v : Bool) (k : Nat) : Nat := if srcB v k = true then 1 else 999
/-- what holds of them all along -/
def farI (op : Nat → Bool) (v : Bool) (F : Nat → Nat) : Prop :=
  ∀ k, k < 81 → 1 ≤ F k ∧ F k ≤ 999 ∧ (F k = 999 ∨ (op k = true ∧ ((F k = 1 ∧ srcB v k = true) ∨ ∃ j, j < 81 ∧ adj j k ∧ F j + 1 ≤ F k)))
theorem farI_0 {op : Nat → Bool} {v : Bool} {F : Nat → Nat} (h : ∀ k, k < 81 → F k = 999) : farI op v F := fun k hk => by
  rw [h k hk]; exact ⟨by decide, Nat.le_refl _, Or.inl rfl⟩
def farM (F : Nat → Nat) : Nat := fb_sm F 81
theorem farI_up {op : Nat → Bool} {v : Bool} {F : Nat → Nat} {z : Nat} (h : farI op v F) (hz : z < 81) (ho : op z = true) (hlt : itsF F (src0 v z) z 4 < F z) : farI op v (va_up F z (itsF F (src0 v z) z 4)) ∧ farM (va_up F z (itsF F (src0 v z) z 4)) < farM F := by
  obtain ⟨t, ht⟩ : ∃ t, t = itsF F (src0 v z) z 4 := ⟨_, rfl⟩
  have hfz := h z hz
  have his := itsF_is (F := F) (s0 := src0 v z) (k := z) 4 (Nat.le_refl 4)
  rw [← ht] at hlt his ⊢
  have ht1 : 1 ≤ t := by
    rcases his with e | ⟨q, hq, e⟩
    · rw [e]; unfold src0
      by_cases hs : srcB v z = true
      · rw [if_pos hs]; exact Nat.le_refl _
      · rw [if_neg hs]; decide
    · omega
  refine ⟨fun k hk => ?_, ?_⟩
  · by_cases e : k = z
    · subst e
      rw [va_up_s]
      refine ⟨ht1, by omega, Or.inr ⟨ho, ?_⟩⟩
      rcases his with e | ⟨q, hq, e⟩
      · by_cases hs : srcB v k = true
        · unfold src0 at e
          rw [if_pos hs] at e
          exact Or.inl ⟨e, hs⟩
        · unfold src0 at e
          rw [if_neg hs] at e
          omega
      · have hq81 := adj_lt hz hq
        refine Or.inr ⟨q, hq81, adj_symm hz hq, ?_⟩
        have : ¬ q = k := by
          intro e2
          rw [e2] at e
          omega
        rw [va_up_n this]; omega
    · rw [va_up_n e]
      obtain ⟨a1, a2, a3⟩ := h k hk
      refine ⟨a1, a2, ?_⟩
      rcases a3 with a | ⟨a, b | ⟨j, j1, j2, j3⟩⟩
      · exact Or.inl a
      · exact Or.inr ⟨a, Or.inl b⟩
      · refine Or.inr ⟨a, Or.inr ⟨j, j1, j2, ?_⟩⟩
        by_cases e2 : j = z
        · rw [e2, va_up_s]; rw [e2] at j3; omega
        · rw [va_up_n e2]; exact j3
  · unfold farM
    have h1 := fb_sm_upd F t hz
    have e : va_up F z t = fun k => if k = z then t else F k := rfl
    rw [e]
    omega
def farN (op : Nat → Bool) (r : Nat) (k : Nat) : Nat := if dist op r k = 0 then 999 else dist op r k
theorem farN_of {op : Nat → Bool} {v : Bool} {F : Nat → Nat} (h : farI op v F) (hs : ∀ k, k < 81 → op k = true → ¬ itsF F (src0 v k) k 4 < F k) : ∀ k, k < 81 → F k = farN op (rowV v) k := by
  have hr : rowV v + 9 ≤ 81 := by unfold rowV; cases v <;> decide
  have hD := dist_is (op := op) hr
  have le1 : ∀ (m k : Nat), k < 81 → dist op (rowV v) k = m + 1 → F k ≤ m + 1 := by
    intro m
    induction m with
    | zero =>
      intro k hk e
      have hk0 : dist op (rowV v) k ≠ 0 := by omega
      obtain ⟨-, ho⟩ := hD.1 k hk0
      have h1 := hs k hk ho
      have h2 := itsF_le (F := F) (s0 := src0 v k) (k := k) 4
      rcases hD.2.2.1 k hk0 with ⟨-, b⟩ | ⟨j, -, b2, b3, -⟩
      · have hsb : srcB v k = true := (srcB_iff hk).mpr b
        have : src0 v k = 1 := by unfold src0; rw [if_pos hsb]
        omega
      · omega
    | succ m ih =>
      intro k hk e
      have hk0 : dist op (rowV v) k ≠ 0 := by omega
      obtain ⟨-, ho⟩ := hD.1 k hk0
      have h1 := hs k hk ho
      rcases hD.2.2.1 k hk0 with ⟨b, -⟩ | ⟨j, b1, b2, b3, b4⟩
      · omega
      · have h3 := ih j b1 (by omega)
        obtain ⟨d, hd, hn⟩ := adj_symm b1 b4
        have h4 := itsF_nb (F := F) (s0 := src0 v k) (k := k) 4 d j hd hn
        omega
  have le2 : ∀ (m k : Nat), k < 81 → F k ≤ m → F k < 999 → dist op (rowV v) k ≠ 0 ∧ dist op (rowV v) k ≤ F k := by
    intro m
    induction m with
    | zero =>
      intro k hk e _
      have := (h k hk).1
      omega
    | succ m ih =>
      intro k hk e hf
      obtain ⟨a1, a2, a3⟩ := h k hk
      rcases a3 with a | ⟨ho, ⟨b1, b2⟩ | ⟨j, j1, j2, j3⟩⟩
      · omega
      · have := hD.2.1 k hk ho ((srcB_iff hk).mp b2)
        omega
      · obtain ⟨c1, c2⟩ := ih j j1 (by omega) (by omega)
        obtain ⟨d1, d2⟩ := hD.2.2.2 j k c1 j2 ho
        exact ⟨d1, by omega⟩
  intro k hk
  unfold farN
  have hf := (h k hk).2.1
  have h81 := dist_le (op := op) hr k
  by_cases e : dist op (rowV v) k = 0
  · rw [if_pos e]
    rcases Nat.lt_or_ge (F k) 999 with z | z
    · exact absurd e (le2 (F k) k hk (Nat.le_refl _) z).1
    · omega
  · rw [if_neg e]
    have a := le1 (dist op (rowV v) k - 1) k hk (by omega)
    have b := le2 (F k) k hk (Nat.le_refl _) (by omega)
    omega
/-- the least of the first row -/
def minF (F : Nat → Nat) : Nat → Nat
  | 0 => 999
  | n + 1 => if F n < minF F n then F n else minF F n
theorem minF_le (F : Nat → Nat) : ∀ n, minF F n ≤ 999
  | 0 => Nat.le_refl _
  | n + 1 => by
    have := minF_le F n
    show (if F n < minF F n then F n else minF F n) ≤ 999
    by_cases h : F n < minF F n
    · rw [if_pos h]; omega
    · rw [if_neg h]; exact this
theorem minF_best {op : Nat → Bool} {r : Nat} (hr : r + 9 ≤ 81) : ∀ n, n ≤ 9 → (bestR (dist op r) n = none ∧ minF (farN op r) n = 999) ∨ ∃ b, bestR (dist op r) n = some b ∧ b < n ∧ minF (farN op r) n = dist op r b ∧ 0 < dist op r b
  | 0, _ => Or.inl ⟨rfl, rfl⟩
  | n + 1, hn => by
    have h81 := dist_le (op := op) hr n
    have e0 : minF (farN op r) (n + 1) = if farN op r n < minF (farN op r) n then farN op r n else minF (farN op r) n := rfl
    rw [e0]
    rcases minF_best (op := op) hr n (by omega) with ⟨h1, h2⟩ | ⟨b, h1, h2, h3, h4⟩
    · rw [bestR_none h1, h2]
      unfold farN
      by_cases h : 0 < dist op r n
      · rw [if_pos h, if_neg (show ¬ dist op r n = 0 by omega), if_pos (by omega)]
        exact Or.inr ⟨n, rfl, by omega, rfl, h⟩
      · rw [if_neg h, if_pos (show dist op r n = 0 by omega)]
        exact Or.inl ⟨rfl, by rw [if_neg (Nat.lt_irrefl _)]⟩
    · have h81b := dist_le (op := op) hr b
      rw [bestR_some h1, h3]
      unfold farN
      by_cases h : 0 < dist op r n ∧ dist op r n < dist op r b
      · rw [if_pos h, if_neg (show ¬ dist op r n = 0 by omega), if_pos h.2]
        exact Or.inr ⟨n, rfl, by omega, rfl, h.1⟩
      · rw [if_neg h]
        refine Or.inr ⟨b, rfl, by omega, ?_, h4⟩
        by_cases hz : dist op r n = 0
        · rw [if_pos hz, if_neg (by omega)]
        · rw [if_neg hz, if_neg (by omega)]
theorem nI_min {a b : Nat} (ha : a < 2 ^ 31) (hb : b < 2 ^ 31) : iMin (nI a) (nI b) = nI (if b < a then b else a) := by
  unfold iMin
  by_cases h : b < a
  · rw [if_pos ((nI_ltI hb ha).mpr h), if_pos h]
  · rw [if_neg (fun z => h ((nI_ltI hb ha).mp z)), if_neg h]
/-- a row laid place by place, of any kind -/
theorem layG_0 {α : Type} {F g : Nat → α} : ∀ k : Nat, g k = if k < 0 then F k else g k := fun k => by rw [if_neg (Nat.not_lt_zero k)]
theorem layG_upd {α : Type} {F g f : Nat → α} {z : Nat} {v : α} (hf : ∀ k : Nat, f k = if k < z then F k else g k) (h : v = F z) : ∀ k : Nat, va_up f z v k = if k < z + 1 then F k else g k := by
  intro k
  unfold va_up
  by_cases h2 : k = z
  · subst h2; rw [if_pos rfl, if_pos (by omega)]; exact h
  · rw [if_neg h2, hf k]
    by_cases h1 : k < z
    · rw [if_pos h1, if_pos (by omega)]
    · rw [if_neg h1, if_neg (by omega)]
theorem layG_end {α : Type} {F g f : Nat → α} {z n : Nat} (hf : ∀ k : Nat, f k = if k < z then F k else g k) (h : n ≤ z) : ∀ k : Nat, k < n → f k = F k := fun k hk => by rw [hf k, if_pos (by omega)]
/-- the reference's test of a range -/
def isInB (v lo hi : Int32) : Bool := !decide (v < lo) && !decide (hi < v)
def isCellB (x y : Int32) : Bool := isInB x (nI 0) (nI 8) && isInB y (nI 0) (nI 8)
theorem isInB_t {v lo hi : Int32} (h1 : ¬ v < lo) (h2 : ¬ hi < v) : isInB v lo hi = true := by unfold isInB; rw [decide_eq_false h1, decide_eq_false h2]; rfl
theorem isInB_f1 {v lo hi : Int32} (h1 : v < lo) : isInB v lo hi = false := by unfold isInB; rw [decide_eq_true h1]; rfl
theorem isInB_f2 {v lo hi : Int32} (h2 : hi < v) : isInB v lo hi = false := by unfold isInB; rw [decide_eq_true h2]; exact Bool.and_false _
theorem isInB_iff {v lo hi : Int32} : isInB v lo hi = true ↔ (¬ v < lo ∧ ¬ hi < v) := by
  unfold isInB
  rw [Bool.and_eq_true, Bool.not_eq_true', Bool.not_eq_true', decide_eq_false_iff_not, decide_eq_false_iff_not]
/-! the pilot: the neighbour that is one nearer -/
theorem isDist_near {op : Nat → Bool} {src : Nat → Prop} {D : Nat → Nat} (h : isDist op src D) {p q : Nat} (hp : p < 81) (hp0 : D p ≠ 0) (ha : adj p q) (hq0 : D q ≠ 0) : D p ≤ D q + 1 := by
  have hop := (h.1 p hp0).2
  exact (h.2.2.2 q p hq0 (adj_symm hp ha) hop).2
/-- the first neighbour with D = y, among the first n ways -/
def fstN (D : Nat → Nat) (p y : Nat) : Nat → Option Nat
  | 0 => none
  | d + 1 => match fstN D p y d with
    | some q => some q
    | none => match nb p d with
      | none => none
      | some q => if D q = y then some q else none
theorem fstN_some {D : Nat → Nat} {p y d q : Nat} (h : fstN D p y d = some q) : fstN D p y (d + 1) = some q := by
  show (match fstN D p y d with | some q => some q | none => _) = _
  rw [h]
theorem fstN_none {D : Nat → Nat} {p y d : Nat} (h : fstN D p y d = none) (hn : nb p d = none) : fstN D p y (d + 1) = none := by
  show (match fstN D p y d with | some q => some q | none => _) = _
  rw [h]
  show (match nb p d with | none => none | some q => _) = _
  rw [hn]
theorem fstN_nb {D : Nat → Nat} {p y d q : Nat} (h : fstN D p y d = none) (hn : nb p d = some q) : fstN D p y (d + 1) = if D q = y then some q else none := by
  show (match fstN D p y d with | some q => some q | none => _) = _
  rw [h]
  show (match nb p d with | none => none | some q => _) = _
  rw [hn]
/-- .. is the class's nearest -/
theorem fstN_nrr {op : Nat → Bool} {src : Nat → Prop} {D : Nat → Nat} (h : isDist op src D) {p : Nat} (hp : p < 81) (y : Nat) (hpy : D p = y + 2) : ∀ d, d ≤ 4 → (fstN D p (y + 1) d = none ∧ nrr D p d = p ∧ ∀ d2 q, d2 < d → nb p d2 = some q → D q ≠ y + 1) ∨ ∃ q, fstN D p (y + 1) d = some q ∧ nrr D p d = q ∧ D q = y + 1 ∧ q < 81
  | 0, _ => Or.inl ⟨rfl, rfl, fun d2 q hd => absurd hd (Nat.not_lt_zero _)⟩
  | d + 1, hd => by
    rcases fstN_nrr h hp y hpy d (by omega) with ⟨a1, a2, a3⟩ | ⟨q, a1, a2, a3, a4⟩
    · cases hn : nb p d with
      | none =>
        refine Or.inl ⟨fstN_none a1 hn, by rw [nrr_none hn]; exact a2, fun d2 q hd2 hq => ?_⟩
        rcases Nat.lt_or_ge d2 d with z | z
        · exact a3 d2 q z hq
        · rw [show d2 = d by omega, hn] at hq; cases hq
      | some r =>
        rw [fstN_nb a1 hn, nrr_some hn, a2]
        by_cases e : D r = y + 1
        · rw [if_pos e, if_pos ⟨by omega, by omega⟩]
          exact Or.inr ⟨r, rfl, rfl, e, nb_lt hp hn⟩
        · rw [if_neg e]
          have hno : ¬ (0 < D r ∧ D r < D p) := fun z => by
            have := isDist_near h hp (by omega) ⟨d, by omega, hn⟩ (show D r ≠ 0 by omega)
            omega
          rw [if_neg hno]
          refine Or.inl ⟨rfl, rfl, fun d2 q hd2 hq => ?_⟩
          rcases Nat.lt_or_ge d2 d with z | z
          · exact a3 d2 q z hq
          · rw [show d2 = d by omega, hn] at hq; cases hq; exact e
    · refine Or.inr ⟨q, fstN_some a1, ?_, a3, a4⟩
      cases hn : nb p d with
      | none => rw [nrr_none hn]; exact a2
      | some r =>
        rw [nrr_some hn, a2]
        have hno : ¬ (0 < D r ∧ D r < D q) := fun z => by
          have := isDist_near h hp (by omega) ⟨d, by omega, hn⟩ (show D r ≠ 0 by omega)
          omega
        rw [if_neg hno]
/-- so a ship that isn't at the end goes on to it -/
theorem fstN_next {op : Nat → Bool} {src : Nat → Prop} {D : Nat → Nat} (h : isDist op src D) {p : Nat} (hp : p < 81) (y : Nat) (hpy : D p = y + 2) : fstN D p (y + 1) 4 = some (nrr D p 4) ∧ D (nrr D p 4) = y + 1 := by
  rcases fstN_nrr h hp y hpy 4 (Nat.le_refl 4) with ⟨a1, a2, a3⟩ | ⟨q, a1, a2, a3, a4⟩
  · rcases h.2.2.1 p (by omega) with ⟨b, -⟩ | ⟨j, b1, b2, b3, b4⟩
    · omega
    · obtain ⟨d, hd, hn⟩ := adj_symm b1 b4
      exact absurd (show D j = y + 1 by omega) (a3 d j hd hn)
  · rw [a2]; exact ⟨a1, a3⟩
