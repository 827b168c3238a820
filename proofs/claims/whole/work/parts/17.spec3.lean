/-! ===== what the calls answer, in numbers ===== -/
section EDN
variable {p : Program} {l : Launch} {e : Env} {R : Room} {s : State} {m : MethodId} {args : Array Value} {below : List Frame} {meth : Method} {c : Code} {H : Heap} {locs : List Loc} {cells slots : Nat} {Q : State → Prop} {cc : ByteArray} {pc : Nat} {ls : Array Slot} {rest : List Value}
/-- a number that counts down to -1 -/
def dn : Nat → Int32
  | 0 => -1
  | k + 1 => nI k
theorem dn_dec (q : Nat) : nI q + Int32.ofInt (-1) = dn q := by
  cases q with
  | zero => decide +kernel
  | succ q => exact nI_pm1 q
theorem d_if_lt {k : Nat} (hk : k < 2 ^ 31) (hx : p.tables.exec = Jvm.exec) (hbd : c.code = cc) {off : Int} {tgt : Nat} (hdg : decode cc pc = .ok (.ifCond .lt off, 3)) (ht : (pc : Int) + off = (tgt : Int))
    (kt : k = 0 → W p l e R s m args below meth c H locs cells slots Q (F0 m tgt ls rest)) (kf : ∀ q, k = q + 1 → W p l e R s m args below meth c H locs cells slots Q (F0 m (pc + 3) ls rest)) : W p l e R s m args below meth c H locs cells slots Q (F0 m pc ls (.int (dn k) :: rest)) := by
  cases k with
  | zero => exact lv_if_lt hx hbd hdg ht (fun _ => kt rfl) (fun h => absurd (show dn 0 < 0 by decide +kernel) h)
  | succ q => exact lv_if_lt hx hbd hdg ht (fun h => absurd h (nI_pos (by omega))) (fun _ => kf q rfl)
end EDN
theorem nI_dec {x : Nat} (h : 0 < x) : nI x + Int32.ofInt (-1) = nI (x - 1) := by
  obtain ⟨y, rfl⟩ : ∃ y, x = y + 1 := ⟨x - 1, by omega⟩
  exact nI_pm1 y
def chA (sd tk : Nat → Int32) (mo : Int32) (k : Nat) : Nat → Int32
  | 0 => sd k
  | 1 => chOld sd tk mo k
  | _ => chSafe sd tk mo k
def takenN (sd : Nat → Int32) : Nat := fb_ct (fun k => !decide (sd k = (-1))) 81
def deepN (gr co sd : Nat → Int32) : Nat := fb_ct (fun k => !decide (sd k ≤ dep gr co k)) 81
def dryN (gr co : Nat → Int32) : Nat := fb_ct (fun k => decide (dep gr co k = 0)) 81
noncomputable def cntA (gr co sd : Nat → Int32) (mo : Nat) : Nat → Int32
  | 0 => nI mo
  | 1 => nI (heads co)
  | 2 => nI (reefN (hd co))
  | 3 => nI (bigN (hd co) 81)
  | 4 => sumI co 81
  | 5 => nI (takenN sd)
  | 6 => nI (deepN gr co sd)
  | _ => nI (dryN gr co)
def opn (w : Nat → Int32) (dr : Int32) (k : Nat) : Bool := !decide (w k ≤ dr)
/-- where the shortest way to the shore begins -/
def bestW (w : Nat → Int32) (dr : Int32) : Option Nat := bestR (dist (opn w dr) 72) 9
def someW (w : Nat → Int32) (d : Nat) : Bool := (bestW w (nI d)).isSome
def wayN (w : Nat → Int32) (dr : Int32) : Int32 := match bestW w dr with
  | none => -1
  | some b => nI (dist (opn w dr) 72 b)
/-- how many cells of the last row are come to -/
def harbN (w : Nat → Int32) (dr : Int32) : Nat := fb_ct (fun k => decide (0 < dist (opn w dr) 0 (72 + k))) 9
def pilotN (w dp : Nat → Int32) (dr : Int32) : Int32 := match bestW w dr with
  | none => -1
  | some b => nI (leadN dp dr (dist (opn w dr) 72) (dist (opn w dr) 72 b) b)
theorem opn_t {w : Nat → Int32} {dr : Int32} {k : Nat} (h : ¬ w k ≤ dr) : opn w dr k = true := by unfold opn; rw [decide_eq_false h]; rfl
theorem opn_f {w : Nat → Int32} {dr : Int32} {k : Nat} (h : w k ≤ dr) : opn w dr k = false := by unfold opn; rw [decide_eq_true h]; rfl
theorem leadN_le {dp : Nat → Int32} {dr : Int32} {D : Nat → Nat} : ∀ (n p : Nat), p < 81 → leadN dp dr D n p ≤ 81
  | 0, _, _ => Nat.le_refl _
  | n + 1, p, h => by
    show (if dp p ≤ dr then p else leadN dp dr D n (nrr D p 4)) ≤ 81
    by_cases h2 : dp p ≤ dr
    · rw [if_pos h2]; omega
    · rw [if_neg h2]; exact leadN_le n _ (nrr_lt h 4)
/-- the cell that had best be sounded, and by how much the chart is too deep there -/
def advS (w dp : Nat → Int32) : Nat → Option Nat × Int32
  | 0 => (none, nI 0)
  | n + 1 => if iMax (w n) (nI 0) - dp n ≤ (advS w dp n).2 then advS w dp n else (some n, iMax (w n) (nI 0) - dp n)
noncomputable def digC (f : Nat → Int32) : Nat → Int64
  | 0 => 787
  | n + 1 => digC f n * 31 + (f n).toInt64
def digM (d : Int64) (f : Nat → Int32) : Nat → Int64
  | 0 => d
  | n + 1 => digM d f n * 31 + (f n).toInt64
/-- d, and the numbers of the cells 0 .. n - 1 -/
def digK (d : Int64) (gr co : Nat → Int32) (ch : Nat → Nat → Int32) : Nat → Int64
  | 0 => d
  | n + 1 => digM ((digK d gr co ch n * 31 + (gr n).toInt64) * 31 + (co n).toInt64) (ch n) 3
noncomputable def digA (wm st gr co sd tk : Nat → Int32) (mo : Nat) : Int64 :=
  digK (digM (digC (cntA gr co sd mo) 8) (fun k => nI 10 * wm k + st k) 12) gr co (chA sd tk (nI mo)) 81
theorem fb_t {f : Nat → Bool} {n : Nat} (h : f n = true) : fb_ct f (n + 1) = fb_ct f n + 1 := by rw [fb_ct_succ, h]; rfl
theorem fb_f {f : Nat → Bool} {n : Nat} (h : f n = false) : fb_ct f (n + 1) = fb_ct f n := by rw [fb_ct_succ, h]; rfl
theorem nd_t {P : Prop} [Decidable P] (h : ¬ P) : (!decide P) = true := by rw [decide_eq_false h]; rfl
theorem nd_f {P : Prop} [Decidable P] (h : P) : (!decide P) = false := by rw [decide_eq_true h]; rfl
theorem nI_max {a b : Nat} (ha : a < 2 ^ 31) (hb : b < 2 ^ 31) : iMax (nI a) (nI b) = nI (if a < b then b else a) := by
  unfold iMax
  by_cases h : a < b
  · rw [if_pos ((nI_ltI ha hb).mpr h), if_pos h]
  · rw [if_neg (fun z => h ((nI_ltI ha hb).mp z)), if_neg h]
theorem bestR_skip {D : Nat → Nat} {n : Nat} (h : D n = 0) : bestR D n = bestR D (n + 1) := by
  rcases bestR_is D n with ⟨h1, -⟩ | ⟨b, h1, -⟩
  · rw [bestR_none h1, if_neg (by omega), h1]
  · rw [bestR_some h1, if_neg (by omega), h1]
