/-! the share: finite facts -/
def p_share (N : NN) (n : Nat) : UInt64 := if nI n - p_at N (-1) n = 0 then FP.dconst1 else FP.ddiv (FP.i2d (p_rh N n)) (FP.i2d (nI n - p_at N (-1) n))
theorem hv_two (N : NN) : ∀ k, ∃ r g : Nat, p_hv N 0 k = nI r ∧ p_hv N 1 k = nI g ∧ r + g ≤ k := by
  intro k
  induction k with
  | zero => exact ⟨0, 0, rfl, rfl, Nat.le_refl 0⟩
  | succ k ih =>
    obtain ⟨r, g, h1, h2, h3⟩ := ih
    by_cases c : p_reason N k = 0
    · refine ⟨r + 1, g, ?_, ?_, by omega⟩
      · show (if p_reason N k = 0 then p_hv N 0 k + 1 else p_hv N 0 k) = _
        rw [if_pos c, h1]; exact nI_1 r
      · show (if p_reason N k = 1 then p_hv N 1 k + 1 else p_hv N 1 k) = _
        rw [if_neg (by rw [c]; decide), h2]
    · by_cases d : p_reason N k = 1
      · refine ⟨r, g + 1, ?_, ?_, by omega⟩
        · show (if p_reason N k = 0 then p_hv N 0 k + 1 else p_hv N 0 k) = _
          rw [if_neg c, h1]
        · show (if p_reason N k = 1 then p_hv N 1 k + 1 else p_hv N 1 k) = _
          rw [if_pos d, h2]; exact nI_1 g
      · refine ⟨r, g, ?_, ?_, by omega⟩
        · show (if p_reason N k = 0 then p_hv N 0 k + 1 else p_hv N 0 k) = _
          rw [if_neg c, h1]
        · show (if p_reason N k = 1 then p_hv N 1 k + 1 else p_hv N 1 k) = _
          rw [if_neg d, h2]
theorem sub_q : ∀ n : Fin 15, ∀ g : Fin 15, g.1 ≤ n.1 → nI n.1 - nI g.1 = nI (n.1 - g.1) := by decide
theorem sh_parts {N : NN} {n : Nat} (hn14 : n ≤ 14) : ∃ r b : Nat, r ≤ b ∧ b ≤ 14 ∧ p_rh N n = nI r ∧ nI n - p_at N (-1) n = nI b := by
  obtain ⟨r, g, h1, h2, h3⟩ := hv_two N n
  refine ⟨r, n - g, by omega, by omega, (p_hv_rh N n) ▸ h1, ?_⟩
  rw [← p_hv_at1, h2]
  exact sub_q ⟨n, by omega⟩ ⟨g, by omega⟩ (by omega : g ≤ n)
theorem sh_q : ∀ r : Fin 15, ∀ b : Fin 15, r.1 ≤ b.1 → ¬ b.1 = 0 → FP.ddiv (FP.i2d (nI r.1)) (FP.i2d (nI b.1)) &&& 0x7fffffffffffffff ≤ 0x7ff0000000000000 := by decide +kernel
theorem sh_fin {N : NN} {n : Nat} (hn14 : n ≤ 14) (h : ¬ nI n - p_at N (-1) n = 0) : vf_n64 (FP.ddiv (FP.i2d (p_rh N n)) (FP.i2d (nI n - p_at N (-1) n))) := by
  obtain ⟨r, b, h1, h2, h3, h4⟩ := sh_parts (N := N) hn14
  rw [h4] at h ⊢
  rw [h3]
  exact sh_q ⟨r, by omega⟩ ⟨b, by omega⟩ h1 (fun q => h (by rw [show b = 0 from q]; rfl))
theorem sh_zero {N : NN} {n : Nat} (hn14 : n ≤ 14) (h : ¬ 0 < nI n - p_at N (-1) n) : nI n - p_at N (-1) n = 0 := by
  obtain ⟨r, b, h1, h2, h3, h4⟩ := sh_parts (N := N) hn14
  rw [h4] at h ⊢
  have : ¬ 0 < b := fun q => h ((nI_ltI (a := 0) (b := b) (by omega) (by omega)).mpr q)
  have : b = 0 := by omega
  subst this
  rfl
theorem sh_cq : ∀ r : Fin 15, ∀ b : Fin 15, r.1 ≤ b.1 → ¬ b.1 = 0 → Op.cmpValue (FP.dcmp (FP.ddiv (FP.i2d (nI r.1)) (FP.i2d (nI b.1))) (FP.ddiv (FP.i2d (nI r.1)) (FP.i2d (nI b.1)))) .l = 0 := by decide +kernel
theorem sh_c1 : Op.cmpValue (FP.dcmp FP.dconst1 FP.dconst1) .l = 0 := by decide +kernel
theorem sh_cmp {N : NN} {n : Nat} (hn14 : n ≤ 14) : Op.cmpValue (FP.dcmp (p_share N n) (p_share N n)) .l = 0 := by
  obtain ⟨r, b, h1, h2, h3, h4⟩ := sh_parts (N := N) hn14
  unfold p_share
  rw [h4, h3]
  by_cases c : b = 0
  · subst c
    exact sh_c1
  · have hb0 : ¬ nI b = 0 := fun q => c ((nI_eq (a := b) (b := 0) (by omega) (by omega)).mp q)
    rw [if_neg hb0]
    exact sh_cq ⟨r, by omega⟩ ⟨b, by omega⟩ h1 c
