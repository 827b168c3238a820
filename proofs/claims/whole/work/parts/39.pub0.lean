theorem nI_nn {k : Nat} (h : k < 2 ^ 31) : ¬ nI k < 0 := by
  rw [i_lt, tI k h]
  have : (0 : Int32).toInt = 0 := by decide +kernel
  omega
theorem ix_f {v : Int32} {W : Nat} (h : isInB v (nI 0) (nI (W - 1)) = false) (h0 : 0 < W) (hW : W < 2 ^ 31) (h1 : ¬ v < 0) : ¬ v < nI W := by
  intro h2
  have h3 : isInB v (nI 0) (nI (W - 1)) = true := isInB_t h1 (by rw [i_lt, tI W hW] at h2; rw [i_lt, tI (W - 1) (by omega)]; omega)
  rw [h3] at h
  cases h
theorem iw_f {v lo hi : Int32} (h : isInB v lo hi = false) (h1 : ¬ v < lo) : ¬ v ≤ hi := by
  intro h2
  have h3 : isInB v lo hi = true := isInB_t h1 (by rw [i_le] at h2; rw [i_lt]; omega)
  rw [h3] at h
  cases h
