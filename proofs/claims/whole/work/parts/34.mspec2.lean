/-! ===== more for the reference's calls ===== -/
theorem isInB_n {k a b : Nat} (h1 : a ≤ k) (h2 : k ≤ b) (hb : b < 2 ^ 31) : isInB (nI k) (nI a) (nI b) = true :=
  isInB_t (fun z => by have := (nI_ltI (by omega) (by omega)).mp z; omega) (fun z => by have := (nI_ltI (by omega) (by omega)).mp z; omega)
theorem isCellB_n {x y : Nat} (hx : x < 9) (hy : y < 9) : isCellB (nI x) (nI y) = true := by
  unfold isCellB
  rw [isInB_n (Nat.zero_le x) (show x ≤ 8 by omega) (by decide), isInB_n (Nat.zero_le y) (show y ≤ 8 by omega) (by decide)]
  rfl
theorem isInB_nat {v : Int32} {a b : Nat} (hb : b < 2 ^ 31) (h : isInB v (nI a) (nI b) = true) (hab : a ≤ b) : ∃ k : Nat, a ≤ k ∧ k ≤ b ∧ v = nI k := by
  obtain ⟨h1, h2⟩ := isInB_in h
  rw [i_le, tI a (by omega)] at h1
  rw [i_le, tI b hb] at h2
  exact ⟨v.toInt.toNat, by omega, by omega, i_ext (by rw [tI _ (by omega)]; omega)⟩
theorem isCellB_nat {x y : Int32} (h : isCellB x y = true) : ∃ a b : Nat, a < 9 ∧ b < 9 ∧ x = nI a ∧ y = nI b := by
  unfold isCellB at h
  rw [Bool.and_eq_true] at h
  obtain ⟨a, -, h2, h3⟩ := isInB_nat (by decide) h.1 (by decide)
  obtain ⟨b, -, h5, h6⟩ := isInB_nat (by decide) h.2 (by decide)
  exact ⟨a, b, by omega, by omega, h3, h6⟩
def sndR (gr co sd : Nat → Int32) (j : Nat) : Int32 := if sd j = (-1) then nI 0 else dep gr co j - sd j
noncomputable def celA (gr co : Nat → Int32) (j : Nat) : Nat → Int32
  | 0 => gr j
  | 1 => co j
  | 2 => dep gr co j
  | 3 => b2i (hd co j)
  | _ => nI (sizeN (hd co) j)
theorem farN_lt {op : Nat → Bool} {r k : Nat} (hr : r + 9 ≤ 81) : farN op r k < 999 ↔ 0 < dist op r k := by
  unfold farN
  have := dist_le (op := op) hr k
  by_cases h : dist op r k = 0
  · rw [if_pos h]; omega
  · rw [if_neg h]; omega
theorem farN_le {op : Nat → Bool} {r k : Nat} (hr : r + 9 ≤ 81) : farN op r k ≤ 999 := by
  unfold farN
  have := dist_le (op := op) hr k
  by_cases h : dist op r k = 0
  · rw [if_pos h]; omega
  · rw [if_neg h]; omega
theorem farN_eq {op : Nat → Bool} {r k y : Nat} (hy : 0 < y) (hy2 : y < 999) : farN op r k = y ↔ dist op r k = y := by
  unfold farN
  by_cases h : dist op r k = 0
  · rw [if_pos h, h]; omega
  · rw [if_neg h]
theorem fstN_cong {D F : Nat → Nat} {p y : Nat} (h : ∀ q, F q = y ↔ D q = y) : ∀ d, fstN F p y d = fstN D p y d
  | 0 => rfl
  | d + 1 => by
    have ih := fstN_cong (p := p) h d
    cases e : fstN D p y d with
    | some q => rw [fstN_some e, fstN_some (ih.trans e)]
    | none =>
      cases hn : nb p d with
      | none => rw [fstN_none e hn, fstN_none (ih.trans e) hn]
      | some q =>
        rw [fstN_nb e hn, fstN_nb (ih.trans e) hn]
        by_cases z : D q = y
        · rw [if_pos z, if_pos ((h q).mpr z)]
        · rw [if_neg z, if_neg (fun w => z ((h q).mp w))]
theorem fstN_stay {D : Nat → Nat} {p y w q : Nat} (h : fstN D p y w = some q) : ∀ n, fstN D p y (w + n) = some q
  | 0 => h
  | n + 1 => fstN_some (fstN_stay h n)
theorem fstN_lt {D : Nat → Nat} {p y : Nat} (hp : p < 81) : ∀ {d q : Nat}, fstN D p y d = some q → q < 81
  | 0, q, h => by cases h
  | d + 1, q, h => by
    cases e : fstN D p y d with
    | some r => rw [fstN_some e] at h; cases h; exact fstN_lt hp e
    | none =>
      cases hn : nb p d with
      | none => rw [fstN_none e hn] at h; cases h
      | some r =>
        rw [fstN_nb e hn] at h
        by_cases z : D r = y
        · rw [if_pos z] at h; cases h; exact nb_lt hp hn
        · rw [if_neg z] at h; cases h
theorem wayN_some {w : Nat → Int32} {dr : Int32} (h : ¬ wayN w dr = (-1)) : ∃ b, bestW w dr = some b ∧ wayN w dr = nI (dist (opn w dr) 72 b) := by
  cases e : bestW w dr with
  | none => exact absurd (wayN_none.mpr e) h
  | some b => exact ⟨b, rfl, by unfold wayN; rw [e]⟩
/-- the first of the first row with the number of the shortest way -/
theorem bestW_is {w : Nat → Int32} {dr : Int32} {b : Nat} (h : bestW w dr = some b) : b < 9 ∧ 0 < dist (opn w dr) 72 b ∧ (∀ k, k < b → ¬ farN (opn w dr) 72 k = dist (opn w dr) 72 b) ∧ farN (opn w dr) 72 b = dist (opn w dr) 72 b := by
  unfold bestW at h
  have h81 := dist_le (op := opn w dr) (r := 72) (by decide)
  rcases bestR_is (dist (opn w dr) 72) 9 with ⟨h1, -⟩ | ⟨c, h1, h2, h3, h4, h5⟩
  · rw [h1] at h; cases h
  · rw [h1] at h; cases h
    refine ⟨h2, h3, fun k hk e => ?_, by unfold farN; rw [if_neg (by omega)]⟩
    have hb := h81 b
    unfold farN at e
    rcases h5 k hk with z | z
    · rw [if_pos z] at e; omega
    · rw [if_neg (by omega)] at e; omega
/-- behind how many months there is no way; -1 within a hundred none -/
def closB (wm st gr co : Nat → Int32) (mo : Nat) (dr : Int32) (n : Nat) : Bool := (bestW (dep (months wm st (gr, co) mo n).1 (months wm st (gr, co) mo n).2) dr).isSome
def closN (wm st gr co : Nat → Int32) (mo : Nat) (dr : Int32) : Int32 := if firstNo (closB wm st gr co mo dr) 101 < 101 then nI (firstNo (closB wm st gr co mo dr) 101) else (-1)
theorem closB_t {wm st gr co : Nat → Int32} {mo : Nat} {dr : Int32} {n : Nat} (h : ¬ wayN (dep (months wm st (gr, co) mo n).1 (months wm st (gr, co) mo n).2) dr = (-1)) : closB wm st gr co mo dr n = true := by
  obtain ⟨b, h1, -⟩ := wayN_some h
  unfold closB; rw [h1]; rfl
theorem closB_f {wm st gr co : Nat → Int32} {mo : Nat} {dr : Int32} {n : Nat} (h : wayN (dep (months wm st (gr, co) mo n).1 (months wm st (gr, co) mo n).2) dr = (-1)) : closB wm st gr co mo dr n = false := by
  unfold closB; rw [wayN_none.mp h]; rfl
theorem closN_at {wm st gr co : Nat → Int32} {mo : Nat} {dr : Int32} {n : Nat} (hn : n ≤ 100) (h : ∀ j, j < n → closB wm st gr co mo dr j = true) (h2 : closB wm st gr co mo dr n = false) : closN wm st gr co mo dr = nI n := by
  unfold closN
  rw [firstNo_at h h2 101 (by omega), if_pos (by omega)]
theorem closN_no {wm st gr co : Nat → Int32} {mo : Nat} {dr : Int32} (h : ∀ j, j < 101 → closB wm st gr co mo dr j = true) : closN wm st gr co mo dr = (-1) := by
  unfold closN
  rw [firstNo_all h, if_neg (by decide)]
noncomputable def forA (gr co : Nat → Int32) : Nat → Int32
  | 0 => nI (heads co)
  | 1 => nI (reefN (hd co))
  | _ => oI (mostD (someW (dep gr co)) 40)
theorem e_arrI {E : eT} {s : State} (hK : eK E s) : s.vm.findClass "[I" = some E.2.1 := by
  have h : s.vm.findClass ("[" ++ FieldType.int.toString) = some E.2.1 := (hK.1.2 0 _ rfl).2
  rw [show ("[" ++ FieldType.int.toString) = "[I" from by decide +kernel] at h
  exact h
section ECL
variable {p : Program} {l : Launch} {e : Env} {R : Room} {s : State} {m : MethodId} {args : Array Value} {below : List Frame} {meth : Method} {c : Code} {H H0 : Heap} {locs : List Loc} {cells slots : Nat} {Q : State → Prop} {E : eT} {A : Nat → Prop} {ws : va_W} {cc : ByteArray} {pc : Nat} {ls : Array Slot} {rest : List Value} {a : Nat} {own : String} {index : Nat}
theorem e_clone (hK : eK E s) (hP : va_P E.1 vwCl ws H) (hD : va_D A ws) (hS : va_S A H0 H locs) (hA : ∀ q : Nat, H0.size ≤ q → A q) (hx : p.tables.exec = Jvm.exec) (hb : c.code = cc) (hml : c.maxLocals = ls.size) (hown : s.vm.findClass own = some m.cls)
    (hlink : (Cond.methodLink own index ⟨"[I", "clone", "()Ljava/lang/Object;"⟩).before args s = true) (hsame : (Cond.sameMethod "[I" "java/lang/Object" "clone" "()Ljava/lang/Object;").before args s = true) (hnat : (Cond.native ⟨"java/lang/Object", "clone", "()Ljava/lang/Object;"⟩).before args s = true) (hinst : (Cond.instanceMethod ⟨"java/lang/Object", "clone", "()Ljava/lang/Object;"⟩).before args s = true) (hsel : (Cond.selects "[I" ⟨"[I", "clone", "()Ljava/lang/Object;"⟩ ⟨"java/lang/Object", "clone", "()Ljava/lang/Object;"⟩).before args s = true)
    (q0 : Nat) {n : Nat} {f : Nat → Int32} (ha : ws[q0]? = some (a, .inl (E.2.1, n, .inl f))) (hframes : 1 ≤ R.frames) (hlocals : (rest.map fun v => v.category).sum + 14 ≤ R.locals) (hcells : cells + 1 ≤ R.cells) (hslots : slots + n ≤ R.slots) (hdg : decode cc pc = .ok (.invokevirtual index, 3))
    (kk : ∀ (q : Nat) (H1 : Heap), va_P E.1 vwCl (ws ++ [(q, .inl (E.2.1, n, .inl f))]) H1 → va_D A (ws ++ [(q, .inl (E.2.1, n, .inl f))]) → va_S A H0 H1 locs → W p l e R s m args below meth c H1 locs (cells + 1) (slots + n) Q (F0 m (pc + 3) ls (.ref q :: rest))) : W p l e R s m args below meth c H locs cells slots Q (F0 m pc ls (.ref a :: rest)) := by
  refine va_clone hx hb hml hown hlink hsame hnat hinst hsel hK.2.2.2.2 hK.1 hP hD hS hA q0 0 (x := (n, .inl f)) ha rfl (e_arrI hK) (fun i v h => ?_) hframes hlocals hcells hslots hdg (fun q H1 _ hP1 hD1 hS1 => kk q H1 hP1 hD1 hS1)
  rw [vp_cell_i] at h
  have hi : i < n := by
    have := (Array.getElem?_eq_some_iff.mp h).1
    rw [arrV_size] at this
    exact this
  rw [arrV_read _ _ hi] at h
  cases h
  rfl
end ECL
