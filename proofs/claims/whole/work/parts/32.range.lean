/-! ===== ground and coral stay within their bounds ===== -/
def Rg (gr co : Nat → Int32) : Prop := ∀ k, k < 81 → 0 ≤ (co k).toInt ∧ (co k).toInt ≤ (gr k).toInt ∧ (gr k).toInt ≤ 40
theorem tI (n : Nat) (h : n < 2 ^ 31) : (nI n).toInt = (n : Int) := nI_toInt h
theorem t0 : (0 : Int32).toInt = 0 := by decide +kernel
theorem upd_upd (f : Nat → Int32) (z : Nat) (a b : Int32) : upd (upd f z a) z b = upd f z b := by
  funext k
  unfold upd
  by_cases h : k = z
  · rw [if_pos h, if_pos h]
  · rw [if_neg h, if_neg h, if_neg h]
theorem upd_self (f : Nat → Int32) (z : Nat) {a : Int32} (h : a = f z) : upd f z a = f := by
  funext k
  unfold upd
  by_cases e : k = z
  · rw [if_pos e, e]; exact h
  · rw [if_neg e]
theorem upd_s (f : Nat → Int32) (z : Nat) (a : Int32) : upd f z a z = a := by unfold upd; rw [if_pos rfl]
theorem upd_n (f : Nat → Int32) {z k : Nat} (a : Int32) (h : ¬ k = z) : upd f z a k = f k := by unfold upd; rw [if_neg h]
theorem subI {x y : Int32} (h1 : -2147483648 ≤ x.toInt - y.toInt) (h2 : x.toInt - y.toInt < 2147483648) : (x - y).toInt = x.toInt - y.toInt := fb_subI h1 h2
theorem addI {x y : Int32} (h1 : -2147483648 ≤ x.toInt + y.toInt) (h2 : x.toInt + y.toInt < 2147483648) : (x + y).toInt = x.toInt + y.toInt := fb_addI h1 h2
theorem Rg_dep {gr co : Nat → Int32} (h : Rg gr co) {k : Nat} (hk : k < 81) : (dep gr co k).toInt = (gr k).toInt - (co k).toInt := by
  obtain ⟨a, b, c⟩ := h k hk
  unfold dep
  rw [iMax_toInt, tI 0 (by decide), subI (by omega) (by omega)]
  by_cases z : (gr k).toInt - (co k).toInt < ((0 : Nat) : Int)
  · omega
  · rw [if_neg z]
theorem Rg_die {gr co : Nat → Int32} (h : Rg gr co) : Rg gr (die co) := by
  intro k hk
  obtain ⟨a, b, c⟩ := h k hk
  have e : (die co k).toInt = if (co k).toInt - 1 < 0 then 0 else (co k).toInt - 1 := by
    unfold die
    rw [iMax_toInt, tI 0 (by decide), subI (by rw [tI 1 (by decide)]; omega) (by rw [tI 1 (by decide)]; omega), tI 1 (by decide)]
    rfl
  rw [e]
  by_cases z : (co k).toInt - 1 < 0
  · rw [if_pos z]; omega
  · rw [if_neg z]; omega
theorem Rg_grw {gr co : Nat → Int32} (h : Rg gr co) (hh : Nat → Bool) : Rg gr (grw gr co hh) := by
  intro k hk
  obtain ⟨a, b, c⟩ := h k hk
  unfold grw
  by_cases z : 0 < co k ∧ nI 2 ≤ dep gr co k ∧ dep gr co k ≤ nI 15
  · rw [if_pos z]
    obtain ⟨z1, z2, z3⟩ := z
    rw [i_lt, t0] at z1
    rw [i_le, tI 2 (by decide), Rg_dep h hk] at z2
    have e1 : (gr k - nI 1).toInt = (gr k).toInt - 1 := by rw [subI (by rw [tI 1 (by decide)]; omega) (by rw [tI 1 (by decide)]; omega), tI 1 (by decide)]; rfl
    have e2 : (co k + (if 2 ≤ hbs hh k then nI 2 else nI 1)).toInt = (co k).toInt + (if 2 ≤ hbs hh k then 2 else 1) := by
      by_cases y : 2 ≤ hbs hh k
      · rw [if_pos y, if_pos y, addI (by rw [tI 2 (by decide)]; omega) (by rw [tI 2 (by decide)]; omega), tI 2 (by decide)]; rfl
      · rw [if_neg y, if_neg y, addI (by rw [tI 1 (by decide)]; omega) (by rw [tI 1 (by decide)]; omega), tI 1 (by decide)]; rfl
    rw [iMin_toInt, e1, e2]
    by_cases y : 2 ≤ hbs hh k
    · rw [if_pos y]
      by_cases w : (gr k).toInt - 1 < (co k).toInt + 2
      · rw [if_pos w]; omega
      · rw [if_neg w]; omega
    · rw [if_neg y]
      by_cases w : (gr k).toInt - 1 < (co k).toInt + 1
      · rw [if_pos w]; omega
      · rw [if_neg w]; omega
  · rw [if_neg z]; exact ⟨a, b, c⟩
theorem Rg_warmed {gr co : Nat → Int32} (h : Rg gr co) (w : Int32) : Rg gr (warmed w gr co) := by
  unfold warmed
  by_cases h1 : nI 8 ≤ w
  · rw [if_pos h1]; exact Rg_die h
  · rw [if_neg h1]
    by_cases h2 : nI 3 ≤ w
    · rw [if_pos h2]; exact Rg_grw h _
    · rw [if_neg h2]; exact h
theorem Rg_seeded {gr co : Nat → Int32} (h : Rg gr co) : Rg gr (seeded gr co) := by
  intro k hk
  obtain ⟨a, b, c⟩ := h k hk
  unfold seeded sdd
  by_cases z : co k = 0 ∧ nI 3 ≤ gr k ∧ gr k ≤ nI 15 ∧ 0 < hbs (hd co) k
  · rw [if_pos z]
    have z2 := z.2.1
    rw [i_le, tI 3 (by decide)] at z2
    rw [tI 1 (by decide)]
    omega
  · rw [if_neg z]; exact ⟨a, b, c⟩
/-- what a storm breaks -/
theorem brk_toInt {s c : Int32} (hs : 0 ≤ s.toInt) (hs9 : s.toInt ≤ 9) (hc : 0 ≤ c.toInt) : 0 ≤ (iMin (s / nI 3) c).toInt ∧ (iMin (s / nI 3) c).toInt ≤ c.toInt := by
  obtain ⟨n, hn, e⟩ : ∃ n : Nat, n ≤ 9 ∧ s = nI n := ⟨s.toInt.toNat, by omega, i_ext (by rw [tI _ (by omega)]; omega)⟩
  have e3 : (s / nI 3).toInt = ((n / 3 : Nat) : Int) := by rw [e, pk_div (by omega) (by decide) (by decide), tI _ (by omega)]
  rw [iMin_toInt, e3]
  by_cases z : c.toInt < ((n / 3 : Nat) : Int)
  · rw [if_pos z]; omega
  · rw [if_neg z]; omega
theorem Rg_blow1 {s : Int32} {x : (Nat → Int32) × (Nat → Int32)} (hs : 0 ≤ s.toInt) (hs9 : s.toInt ≤ 9) (h : Rg x.1 x.2) {z : Nat} (hz : z < 81) : Rg (blow1 s x z).1 (blow1 s x z).2 := by
  unfold blow1
  by_cases c : s / nI 2 ≤ dep x.1 x.2 z
  · rw [if_pos c]; exact h
  · rw [if_neg c]
    obtain ⟨a1, a2, a3⟩ := h z hz
    obtain ⟨b1, b2⟩ := brk_toInt hs hs9 a1
    generalize iMin (s / nI 3) (x.2 z) = b at b1 b2 ⊢
    have e : (x.2 z - b).toInt = (x.2 z).toInt - b.toInt := subI (by omega) (by omega)
    intro k hk
    show 0 ≤ (upd x.2 z (x.2 z - b) k).toInt ∧ (upd x.2 z (x.2 z - b) k).toInt ≤ ((if z + 9 < 81 then upd x.1 (z + 9) (iMax (x.1 (z + 9) - b) (upd x.2 z (x.2 z - b) (z + 9))) else x.1) k).toInt ∧ ((if z + 9 < 81 then upd x.1 (z + 9) (iMax (x.1 (z + 9) - b) (upd x.2 z (x.2 z - b) (z + 9))) else x.1) k).toInt ≤ 40
    obtain ⟨c1, c2, c3⟩ := h k hk
    have hg : ((if z + 9 < 81 then upd x.1 (z + 9) (iMax (x.1 (z + 9) - b) (upd x.2 z (x.2 z - b) (z + 9))) else x.1) k).toInt ≤ 40 ∧ (upd x.2 z (x.2 z - b) k).toInt ≤ ((if z + 9 < 81 then upd x.1 (z + 9) (iMax (x.1 (z + 9) - b) (upd x.2 z (x.2 z - b) (z + 9))) else x.1) k).toInt := by
      by_cases y : z + 9 < 81
      · rw [if_pos y, upd_n x.2 _ (show ¬ z + 9 = z by omega)]
        by_cases w : k = z + 9
        · subst w
          rw [upd_s, upd_n x.2 _ (show ¬ z + 9 = z by omega), iMax_toInt, subI (by omega) (by omega)]
          by_cases v : (x.1 (z + 9)).toInt - b.toInt < (x.2 (z + 9)).toInt
          · rw [if_pos v]; omega
          · rw [if_neg v]; omega
        · rw [upd_n x.1 _ w]
          by_cases u : k = z
          · subst u; rw [upd_s, e]; omega
          · rw [upd_n x.2 _ u]; omega
      · rw [if_neg y]
        by_cases u : k = z
        · subst u; rw [upd_s, e]; omega
        · rw [upd_n x.2 _ u]; omega
    refine ⟨?_, hg.2, hg.1⟩
    by_cases u : k = z
    · subst u; rw [upd_s, e]; omega
    · rw [upd_n x.2 _ u]; exact c1
theorem Rg_blows {s : Int32} {x : (Nat → Int32) × (Nat → Int32)} (hs : 0 ≤ s.toInt) (hs9 : s.toInt ≤ 9) (h : Rg x.1 x.2) : ∀ n, n ≤ 81 → Rg (blows s x n).1 (blows s x n).2
  | 0, _ => h
  | n + 1, hn => Rg_blow1 hs hs9 (Rg_blows hs hs9 h n (by omega)) (by omega)
/-- where there is no coral a storm changes nothing -/
theorem blow1_no {s : Int32} {g c : Nat → Int32} (hs : 0 ≤ s.toInt) (hs9 : s.toInt ≤ 9) (h : Rg g c) {z : Nat} (hz : z < 81) (h0 : c z = 0) : blow1 s (g, c) z = (g, c) := by
  unfold blow1
  by_cases q : s / nI 2 ≤ dep g c z
  · rw [if_pos q]
  · rw [if_neg q]
    obtain ⟨a1, a2, a3⟩ := h z hz
    have hb : iMin (s / nI 3) (c z) = 0 := i_ext (by
      obtain ⟨b1, b2⟩ := brk_toInt hs hs9 a1
      have e0 : (c z).toInt = 0 := by rw [h0]; exact t0
      rw [t0]; omega)
    show (if z + 9 < 81 then upd g (z + 9) (iMax (g (z + 9) - iMin (s / nI 3) (c z)) (upd c z (c z - iMin (s / nI 3) (c z)) (z + 9))) else g, upd c z (c z - iMin (s / nI 3) (c z))) = (g, c)
    rw [hb]
    have e1 : c z - 0 = c z := i_ext (by rw [subI (by rw [t0]; omega) (by rw [t0]; omega), t0]; omega)
    rw [e1, upd_self c z rfl]
    by_cases y : z + 9 < 81
    · rw [if_pos y]
      obtain ⟨d1, d2, d3⟩ := h (z + 9) y
      rw [upd_self g (z + 9)]
      refine i_ext ?_
      rw [iMax_toInt, subI (by rw [t0]; omega) (by rw [t0]; omega), t0]
      by_cases v : (g (z + 9)).toInt - 0 < (c (z + 9)).toInt
      · omega
      · rw [if_neg v]; omega
    · rw [if_neg y]
def Tb (wm st : Nat → Int32) : Prop := ∀ k, k < 12 → (0 ≤ (wm k).toInt ∧ (wm k).toInt ≤ 9) ∧ 0 ≤ (st k).toInt ∧ (st k).toInt ≤ 9
theorem Rg_month1 {wm st : Nat → Int32} {x : (Nat → Int32) × (Nat → Int32)} (hT : Tb wm st) (h : Rg x.1 x.2) (mo : Nat) : Rg (month1 wm st x mo).1 (month1 wm st x mo).2 := by
  have ht := (hT (mo % 12) (Nat.mod_lt _ (by decide))).2
  unfold month1
  have h9 : Rg x.1 (seeded x.1 (warmed (wm (mo % 12)) x.1 x.2)) := Rg_seeded (Rg_warmed h _)
  exact Rg_blows (s := st (mo % 12)) (x := (x.1, seeded x.1 (warmed (wm (mo % 12)) x.1 x.2))) ht.1 ht.2 h9 81 (Nat.le_refl _)
theorem Rg_months {wm st : Nat → Int32} {x : (Nat → Int32) × (Nat → Int32)} (hT : Tb wm st) (h : Rg x.1 x.2) (mo : Nat) : ∀ n, Rg (months wm st x mo n).1 (months wm st x mo n).2
  | 0 => h
  | n + 1 => Rg_month1 hT (Rg_months hT h mo n) (mo + n)
theorem wr_die {w : Int32} {gr co : Nat → Int32} {k : Nat} (c : nI 7 < w) : warmed w gr co k = die co k := by
  unfold warmed
  rw [if_pos]
  rw [i_lt, tI 7 (by decide)] at c
  rw [i_le, tI 8 (by decide)]
  omega
theorem wr_mid {w : Int32} {gr co : Nat → Int32} {k : Nat} (c1 : ¬ w < nI 3) (c2 : ¬ nI 7 < w) : warmed w gr co k = grw gr co (hd co) k := by
  unfold warmed
  rw [i_lt, tI 7 (by decide)] at c2
  rw [if_neg, if_pos (i_nlt c1)]
  rw [i_le, tI 8 (by decide)]
  omega
theorem wr_low {w : Int32} {gr co : Nat → Int32} {k : Nat} (c1 : w < nI 3) : warmed w gr co k = co k := by
  unfold warmed
  rw [if_neg, if_neg (i_nle c1)]
  rw [i_lt, tI 3 (by decide)] at c1
  rw [i_le, tI 8 (by decide)]
  omega
theorem i_nle2 {a b : Int32} (h : ¬ a ≤ b) : b < a := by rw [i_le] at h; rw [i_lt]; omega
theorem nb3_some {p q : Nat} (h : nb p 3 = some q) : q = p + 9 ∧ p + 9 < 81 := by
  unfold nb at h
  rw [if_neg (by decide), if_neg (by decide), if_neg (by decide)] at h
  by_cases z : p < 72
  · rw [if_pos z] at h; cases h; exact ⟨rfl, by omega⟩
  · rw [if_neg z] at h; cases h
theorem nb3_none {p : Nat} (hp : p < 81) (h : nb p 3 = none) : ¬ p + 9 < 81 := by
  intro z
  rw [nb3 (by omega)] at h; cases h
theorem isLab_ob {op : Nat → Bool} {L : Nat → Option Nat} (h : isLab op L) {k : Nat} (hk : k < 81) {q : Nat} (hq : L k = some q) : q < 2 ^ 31 := by
  cases ho : op k
  · rw [(h k hk).1 ho] at hq; cases hq
  · obtain ⟨m, h1, h2, -⟩ := (h k hk).2 ho
    rw [h1] at hq; cases hq
    omega
theorem isLab_open {op : Nat → Bool} {L : Nat → Option Nat} (h : isLab op L) {k : Nat} (hk : k < 81) {q : Nat} (hq : L k = some q) : op k = true := by
  cases ho : op k
  · rw [(h k hk).1 ho] at hq; cases hq
  · rfl
theorem isLab_rootN {op : Nat → Bool} {L : Nat → Option Nat} (h : isLab op L) {k : Nat} (hk : k < 81) : fb_ct (fun y => decide (L k = some k) && decide (L y = some k)) 81 = rootN op k := by
  unfold rootN
  rw [isLab_root h hk]
  by_cases e : L k = some k
  · rw [decide_eq_true e, if_pos rfl, ← isLab_size h hk (isLab_open h hk e)]
    exact fb_ct_cong fun j _ => by rw [Bool.true_and, e]
  · rw [decide_eq_false e, if_neg (by decide)]
    exact fb_ct_zero.mpr (fun j _ => Bool.false_and _)
theorem isLab_root0 {op : Nat → Bool} {L : Nat → Option Nat} (h : isLab op L) {k : Nat} (hk : k < 81) (e : ¬ L k = some k) {n : Nat} : fb_ct (fun y => decide (L k = some k) && decide (L y = some k)) n = rootN op k := by
  unfold rootN
  rw [isLab_root h hk, decide_eq_false e, if_neg (by decide)]
  exact fb_ct_zero.mpr (fun j _ => Bool.false_and _)
theorem oo_eq {a b : Option Nat} (ha : ∀ q, a = some q → q < 2 ^ 31) (hb : ∀ q, b = some q → q < 2 ^ 31) : oI a = oI b ↔ a = b := by
  cases a with
  | none =>
    cases b with
    | none => exact ⟨fun _ => rfl, fun _ => rfl⟩
    | some q => exact ⟨fun z => absurd z.symm (oI_ne (hb q rfl)), fun z => by cases z⟩
  | some p =>
    cases b with
    | none => exact ⟨fun z => absurd z (oI_ne (ha p rfl)), fun z => by cases z⟩
    | some q => exact ⟨fun z => by rw [(nI_eq (ha p rfl) (hb q rfl)).mp z], fun z => by rw [z]⟩
section EOO
variable {p : Program} {l : Launch} {e : Env} {R : Room} {s : State} {m : MethodId} {args : Array Value} {below : List Frame} {meth : Method} {c : Code} {H : Heap} {locs : List Loc} {cells slots : Nat} {Q : State → Prop} {cc : ByteArray} {pc : Nat} {ls : Array Slot} {rest : List Value}
theorem oo_icmp_ne {x y : Option Nat} (ha : ∀ q, x = some q → q < 2 ^ 31) (hb : ∀ q, y = some q → q < 2 ^ 31) (hx : p.tables.exec = Jvm.exec) (hbd : c.code = cc) {off : Int} {tgt : Nat} (hdg : decode cc pc = .ok (.if_icmp .ne off, 3)) (ht : (pc : Int) + off = (tgt : Int))
    (kt : ¬ x = y → W p l e R s m args below meth c H locs cells slots Q (F0 m tgt ls rest)) (kf : x = y → W p l e R s m args below meth c H locs cells slots Q (F0 m (pc + 3) ls rest)) : W p l e R s m args below meth c H locs cells slots Q (F0 m pc ls (.int (oI y) :: .int (oI x) :: rest)) :=
  lv_icmp_ne hx hbd hdg ht (fun h => kt (fun z => h ((oo_eq ha hb).mpr z))) (fun h => kf ((oo_eq ha hb).mp h))
end EOO
theorem isInB_in {v lo hi : Int32} (h : isInB v lo hi = true) : lo ≤ v ∧ v ≤ hi := ⟨i_nlt (isInB_iff.mp h).1, i_nlt (isInB_iff.mp h).2⟩
theorem isInB_out {v lo hi : Int32} (h : isInB v lo hi = false) : v < lo ∨ hi < v := by
  by_cases h1 : v < lo
  · exact Or.inl h1
  · by_cases h2 : hi < v
    · exact Or.inr h2
    · rw [isInB_t h1 h2] at h; cases h
theorem grw_yesB {gr co : Nat → Int32} {h : Nat → Bool} {k : Nat} (c1 : ¬ co k ≤ 0) (c2 : isInB (dep gr co k) (nI 2) (nI 15) = true) {g : Int32} (hg : g = if 2 ≤ hbs h k then nI 2 else nI 1) : iMin (gr k - nI 1) (co k + g) = grw gr co h k := by
  rw [iMin_comm]
  obtain ⟨a, b⟩ := isInB_iff.mp c2
  exact grw_yes c1 a b hg
theorem grw_noB {gr co : Nat → Int32} {h : Nat → Bool} {k : Nat} (c : co k ≤ 0 ∨ isInB (dep gr co k) (nI 2) (nI 15) = false) : grw gr co h k = co k := by
  refine grw_no ?_
  rcases c with c | c
  · exact Or.inl c
  · exact Or.inr (isInB_out c)
theorem sdd_noB {gr co : Nat → Int32} {h : Nat → Bool} {k : Nat} (c : ¬ co k = 0 ∨ isInB (gr k) (nI 3) (nI 15) = false ∨ hbs h k = 0) : sdd gr co h k = co k := by
  refine sdd_no ?_
  rcases c with c | c | c
  · exact Or.inl c
  · rcases isInB_out c with c | c
    · exact Or.inr (Or.inl c)
    · exact Or.inr (Or.inr (Or.inl c))
  · exact Or.inr (Or.inr (Or.inr c))
theorem sdd_yesB {gr co : Nat → Int32} {h : Nat → Bool} {k : Nat} (c1 : co k = 0) (c2 : isInB (gr k) (nI 3) (nI 15) = true) (c4 : 0 < hbs h k) : nI 1 = sdd gr co h k := by
  obtain ⟨a, b⟩ := isInB_iff.mp c2
  exact sdd_yes c1 a b c4
theorem src0_1 {v : Bool} {k : Nat} (hv : v = true) (c : k / 9 = 8) : src0 v k = 1 := by subst hv; unfold src0 srcB; exact if_pos (show decide (k / 9 = if (true : Bool) = true then 8 else 0) = true from decide_eq_true c)
theorem src0_2 {v : Bool} {k : Nat} (hv : v = false) (c : k / 9 = 0) : src0 v k = 1 := by subst hv; unfold src0 srcB; exact if_pos (show decide (k / 9 = if (false : Bool) = true then 8 else 0) = true from decide_eq_true c)
theorem src0_3 {v : Bool} {k : Nat} (hv : v = true) (c : ¬ k / 9 = 8) : src0 v k = 999 := by subst hv; unfold src0 srcB; rw [if_neg (by rw [decide_eq_false (show ¬ k / 9 = if (true : Bool) = true then 8 else 0 from c)]; decide)]
theorem src0_4 {v : Bool} {k : Nat} (hv : v = false) (c : ¬ k / 9 = 0) : src0 v k = 999 := by subst hv; unfold src0 srcB; rw [if_neg (by rw [decide_eq_false (show ¬ k / 9 = if (false : Bool) = true then 8 else 0 from c)]; decide)]
theorem wayN_of {w : Nat → Int32} {dr : Int32} : wayN w dr = if minF (farN (opn w dr) 72) 9 = 999 then (-1) else nI (minF (farN (opn w dr) 72) 9) := by
  unfold wayN bestW
  rcases minF_best (op := opn w dr) (r := 72) (by decide) 9 (Nat.le_refl 9) with ⟨h1, h2⟩ | ⟨b, h1, h2, h3, h4⟩
  · rw [h1, h2, if_pos rfl]
  · have := dist_le (op := opn w dr) (r := 72) (by decide) b
    rw [h1, h3, if_neg (by omega)]
theorem wayN_none {w : Nat → Int32} {dr : Int32} : wayN w dr = (-1) ↔ bestW w dr = none := by
  unfold wayN
  cases h : bestW w dr with
  | none => exact ⟨fun _ => rfl, fun _ => rfl⟩
  | some b =>
    refine ⟨fun z => absurd z (oI_ne ?_), fun z => (by cases z)⟩
    exact Nat.lt_of_le_of_lt (dist_le (op := opn w dr) (r := 72) (by decide) b) (by decide)
theorem someW_iff {w : Nat → Int32} {d : Nat} : someW w d = true ↔ ¬ wayN w (nI d) = (-1) := by
  rw [wayN_none]
  unfold someW
  cases bestW w (nI d) with
  | none => exact ⟨fun z => absurd z (by decide), fun z => absurd rfl z⟩
  | some b => exact ⟨fun _ z => (by cases z), fun _ => rfl⟩
