/-! plain facts for the law's own comparisons -/
theorem i32_ss (x y : Int32) : x - (x - y) = y := by
  apply Int32.toBitVec_inj.mp
  rw [Int32.toBitVec_sub, Int32.toBitVec_sub]
  bv_omega
theorem i32_as (x y : Int32) : x + y - x = y := by
  apply Int32.toBitVec_inj.mp
  rw [Int32.toBitVec_sub, Int32.toBitVec_add]
  bv_omega
theorem lw_paid {x : Int32} {c M : Nat} (hx : isN x 0 M) (hM : M < 2 ^ 30) (h0 : 0 < c) (h1 : c ≤ 210) : ¬ x + nI c ≤ x := by
  obtain ⟨q, q1, q2, rfl⟩ := hx
  rw [nI_add]
  intro h
  have := (nI_leI (by omega) (by omega)).mp h
  omega
section LW
variable {N N2 : NN} {n d i h P : Nat} {t : Int32}
theorem lw_tests (e : N2 = p_test N h P) : N2 1 3 = N 1 3 + 1 := by rw [e]; exact p_test_one.2.2.2.1
theorem lw_held (hP : P ≤ 24) (et : t = p_out N h P) (c : ¬ 100 ≤ t) : ¬ p_held N h P < p_S P ∧ t = nI (p_held N h P) := by
  rw [et] at c ⊢
  exact p_out_h hP (Int32.not_le.mp c)
theorem lw_burst (hP : P ≤ 24) (et : t = p_out N h P) (c : 100 ≤ t) : p_held N h P < p_S P := by
  rw [et] at c
  exact (p_out_b hP (Int32.not_lt.mpr c)).1
theorem lw_w1 (hJ : J2 N n d i) (hh : h < n) (hP : P ≤ 24) (et : t = p_out N h P) (e : N2 = p_test N h P) (c : ¬ 100 ≤ t) (hle : N 7 h + t ≤ 99) : N 7 h + t = N2 7 h := by
  obtain ⟨w0, w1⟩ := (hJ.1.2.2.2 h hh).2.1
  have hs := p_S_le hP
  have hl := p_held_le N h P
  rw [e, p_test_7, if_pos rfl, ← p_worn_add w0 w1 (by omega), (lw_held hP et c).2]
  rw [(lw_held hP et c).2] at hle
  split
  · rfl
  · rename_i q
    exact Int32.le_antisymm hle (Int32.not_lt.mp q)
theorem lw_w2 (hJ : J2 N n d i) (hh : h < n) (hP : P ≤ 24) (et : t = p_out N h P) (e : N2 = p_test N h P) (c : ¬ 100 ≤ t) (hle : ¬ N 7 h + t ≤ 99) : 99 = N2 7 h := by
  obtain ⟨w0, w1⟩ := (hJ.1.2.2.2 h hh).2.1
  have hs := p_S_le hP
  have hl := p_held_le N h P
  rw [e, p_test_7, if_pos rfl, ← p_worn_add w0 w1 (by omega)]
  rw [(lw_held hP et c).2] at hle
  rw [if_neg (fun q => hle (Int32.le_of_lt q))]
theorem lw_day (hJ : J2 N n d i) (hd : d < 2 ^ 28) (hP : P ≤ 24) (et : t = p_out N h P) (e : N2 = p_test N h P) (c : ¬ 100 ≤ t) (hs : ¬ nI P < N2 0 0) : ¬ N2 8 h < N 1 0 + 100 := by
  rw [e, p_test_row (by decide) (by decide) (by decide) (by decide)] at hs
  rw [e, p_test_8, if_pos ⟨rfl, (lw_held hP et c).1, Int32.not_lt.mp hs⟩, hJ.1.2.2.1]
  obtain ⟨f, f1, f2, ef⟩ := force_nI (N 3 h)
  rw [ef, nI_add, show nI d + 100 = nI (d + 100) from nI_add d 100]
  intro q
  have := (nI_ltI (by omega) (by omega)).mp q
  omega
theorem lw_b9 (hP : P ≤ 24) (et : t = p_out N h P) (e : N2 = p_test N h P) (c : 100 ≤ t) : N2 9 h = -1 := by
  rw [e, p_test_9, if_pos ⟨rfl, lw_burst hP et c⟩]
end LW
