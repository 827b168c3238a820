/-! ===== what hangs together ===== -/
noncomputable def cB (P : Prop) : Bool := @decide P (Classical.propDecidable P)
theorem cB_t {P : Prop} : cB P = true ↔ P := by unfold cB; exact @decide_eq_true_iff P (Classical.propDecidable P)
theorem cB_f {P : Prop} : cB P = false ↔ ¬ P := by unfold cB; exact @decide_eq_false_iff_not P (Classical.propDecidable P)
/-- q is come to from p, over open cells -/
def conn (op : Nat → Bool) (p q : Nat) : Prop := ∀ S : Nat → Prop, S p → (∀ a b, S a → adj a b → op b = true → S b) → S q
theorem conn_rf {op : Nat → Bool} {p : Nat} : conn op p p := fun _ h _ => h
theorem conn_tr {op : Nat → Bool} {p q r : Nat} (h : conn op p q) (h2 : conn op q r) : conn op p r := fun S h0 hs => h2 S (h S h0 hs) hs
theorem conn_st {op : Nat → Bool} {p q r : Nat} (h : conn op p q) (ha : adj q r) (ho : op r = true) : conn op p r := fun S h0 hs => hs q r (h S h0 hs) ha ho
theorem conn_op {op : Nat → Bool} {p q : Nat} (hp : p < 81 ∧ op p = true) (h : conn op p q) : q < 81 ∧ op q = true :=
  h (fun q => q < 81 ∧ op q = true) hp (fun _ _ ha hab ho => ⟨adj_lt ha.1 hab, ho⟩)
theorem conn_symm {op : Nat → Bool} {p q : Nat} (hp : p < 81 ∧ op p = true) (h : conn op p q) : conn op q p := by
  have h1 := h (fun q => (q < 81 ∧ op q = true) ∧ conn op q p) ⟨hp, conn_rf⟩ (fun a b ha hab ho => by
    refine ⟨⟨adj_lt ha.1.1 hab, ho⟩, ?_⟩
    exact conn_tr (conn_st conn_rf (adj_symm ha.1.1 hab) ha.1.2) ha.2)
  exact h1.2
/-- how many cells hang together with p -/
noncomputable def compN (op : Nat → Bool) (p : Nat) : Nat := fb_ct (fun q => cB (conn op p q)) 81
/-- p is open, and the first of its cells -/
noncomputable def isRt (op : Nat → Bool) (p : Nat) : Bool := cB (op p = true ∧ ∀ j, j < p → op j = true → ¬ conn op j p)
noncomputable def reefN (op : Nat → Bool) : Nat := fb_ct (isRt op) 81
noncomputable def sizeN (op : Nat → Bool) (p : Nat) : Nat := if op p = true then compN op p else 0
noncomputable def rootN (op : Nat → Bool) (p : Nat) : Nat := if isRt op p = true then compN op p else 0
noncomputable def bigN (op : Nat → Bool) : Nat → Nat
  | 0 => 0
  | n + 1 => if bigN op n < rootN op n then rootN op n else bigN op n
theorem compN_le (op : Nat → Bool) (p : Nat) : compN op p ≤ 81 := fb_ct_le _ _
theorem compN_pos {op : Nat → Bool} {p : Nat} (hp : p < 81) : 0 < compN op p := fb_ct_pos.mpr ⟨p, hp, cB_t.mpr conn_rf⟩
theorem rootN_le (op : Nat → Bool) (p : Nat) : rootN op p ≤ 81 := by
  unfold rootN
  by_cases h : isRt op p = true
  · rw [if_pos h]; exact compN_le op p
  · rw [if_neg h]; exact Nat.zero_le _
theorem bigN_le (op : Nat → Bool) : ∀ n, bigN op n ≤ 81
  | 0 => Nat.zero_le _
  | n + 1 => by
    show (if bigN op n < rootN op n then rootN op n else bigN op n) ≤ 81
    by_cases h : bigN op n < rootN op n
    · rw [if_pos h]; exact rootN_le op n
    · rw [if_neg h]; exact bigN_le op n
/-- nothing open beside what was reached is left -/
def bCl (op : Nat → Bool) (x : bS) : Prop := ∀ p q, x.1 p ≠ 0 → adj p q → op q = true → x.1 q ≠ 0
theorem bCl_conn {op : Nat → Bool} {x : bS} (h : bCl op x) {p q : Nat} (hp : x.1 p ≠ 0) (hc : conn op p q) : x.1 q ≠ 0 :=
  hc (fun q => x.1 q ≠ 0) hp (fun a b ha hab ho => h a b ha hab ho)
/-- the class's spread from one cell on -/
def bCell (op : Nat → Bool) (x : bS) (p : Nat) : bS := bGo op 82 (bReach op x p 1) x.2.2
theorem bCell_ok {op : Nat → Bool} {x : bS} {p : Nat} (h : bOk x) (hp : p < 81) : bOk (bCell op x p) := bGo_ok 82 _ (bReach_ok h hp (by omega))
theorem bCell_no {op : Nat → Bool} {x : bS} {p : Nat} (h : ¬ (op p = true ∧ x.1 p = 0)) : bCell op x p = x := by
  unfold bCell
  rw [bReach_no h, bGo_stop]
  omega
theorem bCell_yes {op : Nat → Bool} {x : bS} {p : Nat} (h : bInv op x) (hc : bCl op x) (hp : p < 81) (ho : op p = true) (h0 : x.1 p = 0) :
    bInv op (bCell op x p) ∧ bCl op (bCell op x p) ∧ ∀ q, (bCell op x p).1 q ≠ 0 ↔ (x.1 q ≠ 0 ∨ conn op p q) := by
  have hle0 : bLe x (bReach op x p 1) := bReach_le
  have start : bInv op (bReach op x p 1) := bReach_inv h hp (by decide)
  have hin : (bReach op x p 1).1 p ≠ 0 := bReach_in h hp (by decide) ho
  have key0 := bGo_ind (op := op) (fun y i => bInv op y ∧ bLe (bReach op x p 1) y ∧ (∀ q, y.1 q ≠ 0 → x.1 q ≠ 0 ∨ conn op p q) ∧ ∀ k q, k < i → k < y.2.2 → adj (y.2.1 k) q → op q = true → y.1 q ≠ 0) ?_ 82 (bReach op x p 1) x.2.2 ?_ (by omega)
  · obtain ⟨j, ⟨k1, k2, k3, k4⟩, hj⟩ := key0
    have hcl : bCl op (bCell op x p) := by
      intro a b ha hab hob
      obtain ⟨-, -, k, hk, hk2⟩ := k1.2.2 a ha
      have hn : (bGo op 82 (bReach op x p 1) x.2.2).2.2 ≤ 81 := by rw [k1.1]; exact fb_ct_le _ _
      rw [← hk2] at hab
      exact k4 k b (by omega) hk hab hob
    refine ⟨k1, hcl, fun q => ⟨k3 q, fun hq => ?_⟩⟩
    have hp2 : (bCell op x p).1 p ≠ 0 := by
      show (bGo op 82 (bReach op x p 1) x.2.2).1 p ≠ 0
      rw [k2.2.2 p hin]; exact hin
    rcases hq with a | a
    · show (bGo op 82 (bReach op x p 1) x.2.2).1 q ≠ 0
      have b : (bReach op x p 1).1 q ≠ 0 := by rw [hle0.2.2 q a]; exact a
      rw [k2.2.2 q b]; exact b
    · exact bCl_conn hcl hp2 a
  · intro y i ⟨k1, k2, k3, k4⟩ hi hn
    obtain ⟨v, hve⟩ : ∃ v, v = y.2.1 i := ⟨_, rfl⟩
    rw [← hve]
    have hv81 : v < 81 := by rw [hve]; exact (k1.2.1 i hn).1
    have hv0 : y.1 v ≠ 0 := by rw [hve]; exact (k1.2.1 i hn).2
    have key := bDirs_ind (op := op) (x := y) hv81 (fun z d => bInv op z ∧ bLe y z ∧ (∀ q, z.1 q ≠ 0 → x.1 q ≠ 0 ∨ conn op p q) ∧ (∀ d2 q, d2 < d → nb v d2 = some q → op q = true → z.1 q ≠ 0)) ?_ ?_ 4 (Nat.le_refl 4)
    · obtain ⟨m1, m2, m3, m4⟩ := key
      generalize bDirs op y v 4 = z at m1 m2 m3 m4 ⊢
      refine ⟨m1, bLe_tr k2 m2, m3, fun k q hk hkz ha hoq => ?_⟩
      rcases Nat.lt_or_ge k i with t | t
      · have hky : k < y.2.2 := by omega
        rw [m2.2.1 k hky] at ha
        have b := k4 k q t hky ha hoq
        rw [m2.2.2 q b]; exact b
      · have e : k = i := by omega
        subst e
        rw [m2.2.1 k hn, ← hve] at ha
        obtain ⟨d, hd, hnb⟩ := ha
        exact m4 d q hd hnb hoq
    · exact ⟨k1, bLe_rf, k3, fun d2 q hd => absurd hd (Nat.not_lt_zero _)⟩
    · intro z d hd ⟨m1, m2, m3, m4⟩
      refine ⟨fun hnone => ⟨m1, m2, m3, fun d2 q hd2 hnb hoq => ?_⟩, fun q hq hnb => ?_⟩
      · rcases Nat.lt_or_ge d2 d with t | t
        · exact m4 d2 q t hnb hoq
        · have e : d2 = d := by omega
          subst e
          rw [hnone] at hnb; cases hnb
      · have hle : bLe z (bReach op z q (z.1 v + 1)) := bReach_le
        refine ⟨bReach_inv m1 hq (by omega), bLe_tr m2 hle, fun t ht => ?_, fun d2 t hd2 hnb2 hot => ?_⟩
        · by_cases hz : z.1 t = 0
          · obtain ⟨e1, e2, -⟩ := bReach_new ht hz
            rw [e1]
            rcases k3 v hv0 with a | a
            · exact Or.inl (hc v q a ⟨d, hd, hnb⟩ e2)
            · exact Or.inr (conn_st a ⟨d, hd, hnb⟩ e2)
          · exact m3 t hz
        · rcases Nat.lt_or_ge d2 d with t2 | t2
          · have a := m4 d2 t t2 hnb2 hot
            rw [hle.2.2 t a]; exact a
          · have e : d2 = d := by omega
            subst e
            rw [hnb] at hnb2; cases hnb2
            exact bReach_in m1 hq (by omega) hot
  · refine ⟨start, bLe_rf, fun q hq => ?_, fun k q hk hky ha hoq => ?_⟩
    · by_cases hz : x.1 q = 0
      · obtain ⟨e1, -, -⟩ := bReach_new hq hz
        rw [e1]; exact Or.inr conn_rf
      · exact Or.inl hz
    · rw [hle0.2.1 k hk] at ha
      have b := hc _ q (h.2.1 k hk).2 ha hoq
      rw [hle0.2.2 q b]; exact b
/-- how many cells one spread from a cell reaches anew -/
theorem bCell_n {op : Nat → Bool} {x : bS} {p : Nat} (h : bInv op x) (hc : bCl op x) (hp : p < 81) : (bCell op x p).2.2 = x.2.2 + (if op p = true ∧ x.1 p = 0 then compN op p else 0) := by
  by_cases hq : op p = true ∧ x.1 p = 0
  · rw [if_pos hq]
    obtain ⟨a1, a2, a3⟩ := bCell_yes h hc hp hq.1 hq.2
    rw [a1.1, h.1]
    have e : vis (bCell op x p).1 = fun q => vis x.1 q || cB (conn op p q) := by
      funext q
      have := a3 q
      cases hv : vis (bCell op x p).1 q with
      | true =>
        rcases this.mp (vis_t.mp hv) with b | b
        · rw [vis_t.mpr b]; rfl
        · rw [cB_t.mpr b]; exact (Bool.or_true _).symm
      | false =>
        have b : ¬ (x.1 q ≠ 0 ∨ conn op p q) := fun z => by
          have := vis_t.mpr (this.mpr z)
          rw [hv] at this; cases this
        have b1 : vis x.1 q = false := by
          cases hw : vis x.1 q
          · rfl
          · exact absurd (Or.inl (vis_t.mp hw)) b
        rw [b1, cB_f.mpr (fun z => b (Or.inr z))]; rfl
    rw [e]
    refine fb_ct_or (fun k hk => ?_)
    rintro ⟨b1, b2⟩
    have b3 := conn_symm ⟨hp, hq.1⟩ (cB_t.mp b2)
    exact bCl_conn hc (vis_t.mp b1) b3 hq.2
  · rw [if_neg hq, bCell_no hq]; rfl
/-- the spreads from the cells 0 to n - 1, one behind another, behind clear() -/
def bCells (op : Nat → Bool) (rc : Nat → Nat) : Nat → bS
  | 0 => bClr rc
  | n + 1 => bCell op (bCells op rc n) n
theorem bCells_ok {op : Nat → Bool} {rc : Nat → Nat} : ∀ n, n ≤ 81 → bOk (bCells op rc n)
  | 0, _ => bClr_ok
  | n + 1, h => bCell_ok (bCells_ok n (by omega)) (by omega)
theorem bCells_inv {op : Nat → Bool} {rc : Nat → Nat} : ∀ n, n ≤ 81 → bInv op (bCells op rc n) ∧ bCl op (bCells op rc n) ∧ ∀ q, (bCells op rc n).1 q ≠ 0 ↔ ∃ p, p < n ∧ op p = true ∧ conn op p q
  | 0, _ => ⟨bClr_inv, fun p q hp => absurd rfl hp, fun q => ⟨fun hq => absurd rfl hq, fun ⟨p, hp, _⟩ => absurd hp (Nat.not_lt_zero p)⟩⟩
  | n + 1, h => by
    obtain ⟨a1, a2, a3⟩ := bCells_inv (op := op) (rc := rc) n (by omega)
    show bInv op (bCell op (bCells op rc n) n) ∧ bCl op (bCell op (bCells op rc n) n) ∧ ∀ q, (bCell op (bCells op rc n) n).1 q ≠ 0 ↔ ∃ p, p < n + 1 ∧ op p = true ∧ conn op p q
    by_cases hq : op n = true ∧ (bCells op rc n).1 n = 0
    · obtain ⟨b1, b2, b3⟩ := bCell_yes a1 a2 (by omega) hq.1 hq.2
      refine ⟨b1, b2, fun q => (b3 q).trans ⟨fun hz => ?_, fun ⟨p, hp, ho, hcn⟩ => ?_⟩⟩
      · rcases hz with z | z
        · obtain ⟨p, hp, ho, hcn⟩ := (a3 q).mp z
          exact ⟨p, by omega, ho, hcn⟩
        · exact ⟨n, by omega, hq.1, z⟩
      · rcases Nat.lt_or_ge p n with z | z
        · exact Or.inl ((a3 q).mpr ⟨p, z, ho, hcn⟩)
        · have e : p = n := by omega
          subst e
          exact Or.inr hcn
    · rw [bCell_no hq]
      refine ⟨a1, a2, fun q => (a3 q).trans ⟨fun ⟨p, hp, ho, hcn⟩ => ⟨p, by omega, ho, hcn⟩, fun ⟨p, hp, ho, hcn⟩ => ?_⟩⟩
      rcases Nat.lt_or_ge p n with z | z
      · exact ⟨p, z, ho, hcn⟩
      · have e : p = n := by omega
        subst e
        have hv : (bCells op rc p).1 p ≠ 0 := fun z => hq ⟨ho, z⟩
        obtain ⟨r, hr, hro, hrc⟩ := (a3 p).mp hv
        exact ⟨r, hr, hro, conn_tr hrc hcn⟩
theorem isRt_iff {op : Nat → Bool} {rc : Nat → Nat} {p : Nat} (hp : p ≤ 81) : isRt op p = true ↔ (op p = true ∧ (bCells op rc p).1 p = 0) := by
  unfold isRt
  rw [cB_t]
  have h3 := (bCells_inv (op := op) (rc := rc) p hp).2.2 p
  refine ⟨fun ⟨a, b⟩ => ⟨a, ?_⟩, fun ⟨a, b⟩ => ⟨a, fun j hj ho hcn => h3.mpr ⟨j, hj, ho, hcn⟩ b⟩⟩
  rcases Nat.eq_zero_or_pos ((bCells op rc p).1 p) with z | z
  · exact z
  · obtain ⟨j, hj, ho, hcn⟩ := h3.mp (by omega)
    exact absurd hcn (b j hj ho)
/-- .. so the count of one step is a reef's size, or nothing -/
theorem bCells_n {op : Nat → Bool} {rc : Nat → Nat} {p : Nat} (hp : p < 81) : (bCells op rc (p + 1)).2.2 = (bCells op rc p).2.2 + rootN op p := by
  obtain ⟨a1, a2, -⟩ := bCells_inv (op := op) (rc := rc) p (by omega)
  show (bCell op (bCells op rc p) p).2.2 = _
  rw [bCell_n a1 a2 hp]
  unfold rootN
  by_cases h : op p = true ∧ (bCells op rc p).1 p = 0
  · rw [if_pos h, if_pos ((isRt_iff (by omega)).mpr h)]
  · rw [if_neg h, if_neg (fun z => h ((isRt_iff (by omega)).mp z))]
/-- one spread from a cell, alone -/
theorem bClr_cl {op : Nat → Bool} {rc : Nat → Nat} : bCl op (bClr rc) := fun _ _ hp => absurd rfl hp
theorem bCell_size {op : Nat → Bool} {rc : Nat → Nat} {p : Nat} (hp : p < 81) : (bCell op (bClr rc) p).2.2 = sizeN op p := by
  rw [bCell_n bClr_inv bClr_cl hp]
  unfold sizeN
  by_cases h : op p = true
  · rw [if_pos h, if_pos ⟨h, rfl⟩]; exact Nat.zero_add _
  · rw [if_neg h, if_neg (fun z => h z.1)]; rfl
theorem rootN_pos {op : Nat → Bool} {p : Nat} (hp : p < 81) : 0 < rootN op p ↔ isRt op p = true := by
  unfold rootN
  by_cases h : isRt op p = true
  · rw [if_pos h]; exact ⟨fun _ => h, fun _ => compN_pos hp⟩
  · rw [if_neg h]; exact ⟨fun z => absurd z (Nat.lt_irrefl 0), fun z => absurd z h⟩
