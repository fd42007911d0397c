/-! the cases of a call: its code, and what holds of its arguments there -/
theorem here_t {N : NN} {k : Nat} (h : here N k = true) : ¬ N 9 k = -1 ∧ ¬ N 9 k = 4 := by
  have h1 := of_decide_eq_true h
  refine ⟨fun q => ?_, fun q => ?_⟩
  · rw [q] at h1; exact absurd h1.1 (by decide)
  · rw [q] at h1; exact absurd h1.2 (by decide)
theorem here_f {N : NN} {k : Nat} (hs : hsOk N k) (h : here N k = false) : N 9 k = -1 ∨ N 9 k = 4 := by
  have h1 := of_decide_eq_false h
  rcases hs.2.2.1 with q | q | q
  · exact Or.inl q
  · exact Or.inr q
  · exact absurd q h1
theorem cs_buy (N : NN) (kd ln cp : Int32) : (rc_buy N kd ln cp = 0 ∧ ((0 ≤ kd ∧ kd ≤ 2) ∧ (5 ≤ ln ∧ ln ≤ 50) ∧ (0 ≤ cp ∧ cp ≤ 2)) ∧ p_can N kd ln = true) ∨ (rc_buy N kd ln cp = 1 ∧ ¬ ((0 ≤ kd ∧ kd ≤ 2) ∧ (5 ≤ ln ∧ ln ≤ 50) ∧ (0 ≤ cp ∧ cp ≤ 2))) ∨ (rc_buy N kd ln cp = 2 ∧ ((0 ≤ kd ∧ kd ≤ 2) ∧ (5 ≤ ln ∧ ln ≤ 50) ∧ (0 ≤ cp ∧ cp ≤ 2)) ∧ p_can N kd ln = false) := by
  unfold rc_buy
  by_cases h : ((0 ≤ kd ∧ kd ≤ 2) ∧ (5 ≤ ln ∧ ln ≤ 50) ∧ (0 ≤ cp ∧ cp ≤ 2))
  · cases hc : p_can N kd ln with
    | true => exact Or.inl ⟨by rw [if_neg (fun q => q h), if_neg (by decide)], h, rfl⟩
    | false => exact Or.inr (Or.inr ⟨by rw [if_neg (fun q => q h), if_pos rfl], h, rfl⟩)
  · exact Or.inr (Or.inl ⟨if_pos h, h⟩)
theorem cs_renew {N : NN} {n dy : Nat} (hI : Inv N n dy) (xx : Int32) : (rc_renew N xx = 1 ∧ ¬ (0 ≤ xx ∧ xx ≤ N 1 2 - 1)) ∨ (∃ k : Nat, k < n ∧ xx = nI k ∧ rc_renew N (nI k) = 2 ∧ (N 9 k = -1 ∨ N 9 k = 4)) ∨ (∃ k : Nat, k < n ∧ xx = nI k ∧ rc_renew N (nI k) = 2 ∧ ¬ N 9 k = -1 ∧ ¬ N 9 k = 4 ∧ p_can N (N 3 k) (N 4 k) = false) ∨ (∃ k : Nat, k < n ∧ xx = nI k ∧ rc_renew N (nI k) = 0 ∧ ¬ N 9 k = -1 ∧ ¬ N 9 k = 4 ∧ p_can N (N 3 k) (N 4 k) = true) := by
  by_cases h : (0 ≤ xx ∧ xx ≤ N 1 2 - 1)
  · obtain ⟨k, hk, rfl⟩ := p_isH hI.2.1 hI.1 h.1 h.2
    have hcl : kx (nI k) = k := kx_nI (by have := hI.1; omega)
    refine Or.inr ?_
    cases hh : here N k with
    | false => exact Or.inl ⟨k, hk, rfl, by unfold rc_renew; rw [hcl, if_neg (fun q => q h), if_pos (Or.inl hh)], here_f (hI.2.2.2 k hk) hh⟩
    | true =>
      refine Or.inr ?_
      cases hc : p_can N (N 3 k) (N 4 k) with
      | false => exact Or.inl ⟨k, hk, rfl, by unfold rc_renew; rw [hcl, if_neg (fun q => q h), if_pos (Or.inr hc)], (here_t hh).1, (here_t hh).2, hc⟩
      | true => exact Or.inr ⟨k, hk, rfl, by unfold rc_renew; rw [hcl, if_neg (fun q => q h), if_neg (by simp [hc, hh])], (here_t hh).1, (here_t hh).2, hc⟩
  · exact Or.inl ⟨if_pos h, h⟩
theorem cs_put {N : NN} {n dy : Nat} (hI : Inv N n dy) (xx yy : Int32) : (rc_put N xx yy = 1 ∧ ¬ (0 ≤ xx ∧ xx ≤ N 1 2 - 1)) ∨ (∃ k : Nat, k < n ∧ xx = nI k ∧ rc_put N (nI k) yy = 2 ∧ ¬ (0 ≤ yy ∧ yy ≤ 3)) ∨ (∃ k : Nat, k < n ∧ xx = nI k ∧ rc_put N (nI k) yy = 3 ∧ (0 ≤ yy ∧ yy ≤ 3) ∧ (N 9 k = -1 ∨ N 9 k = 4)) ∨ (∃ k : Nat, k < n ∧ xx = nI k ∧ rc_put N (nI k) yy = 0 ∧ (0 ≤ yy ∧ yy ≤ 3) ∧ ¬ N 9 k = -1 ∧ ¬ N 9 k = 4) := by
  by_cases h : (0 ≤ xx ∧ xx ≤ N 1 2 - 1)
  · obtain ⟨k, hk, rfl⟩ := p_isH hI.2.1 hI.1 h.1 h.2
    have hcl : kx (nI k) = k := kx_nI (by have := hI.1; omega)
    refine Or.inr ?_
    by_cases h2 : (0 ≤ yy ∧ yy ≤ 3)
    · refine Or.inr ?_
      cases hh : here N k with
      | false => exact Or.inl ⟨k, hk, rfl, by unfold rc_put; rw [hcl, if_neg (fun q => q h), if_neg (fun q => q h2), if_pos hh], h2, here_f (hI.2.2.2 k hk) hh⟩
      | true => exact Or.inr ⟨k, hk, rfl, by unfold rc_put; rw [hcl, if_neg (fun q => q h), if_neg (fun q => q h2), if_neg (by simp [hh])], h2, (here_t hh).1, (here_t hh).2⟩
    · exact Or.inl ⟨k, hk, rfl, by unfold rc_put; rw [if_neg (fun q => q h), if_pos h2], h2⟩
  · exact Or.inl ⟨if_pos h, h⟩
theorem cs_test {N : NN} {n dy : Nat} (hI : Inv N n dy) (xx yy : Int32) : (rc_test N xx yy = 1 ∧ ¬ (0 ≤ xx ∧ xx ≤ N 1 2 - 1)) ∨ (∃ k : Nat, k < n ∧ xx = nI k ∧ rc_test N (nI k) yy = 2 ∧ ¬ (4 ≤ yy ∧ yy ≤ 24)) ∨ (∃ k : Nat, k < n ∧ xx = nI k ∧ rc_test N (nI k) yy = 3 ∧ (4 ≤ yy ∧ yy ≤ 24) ∧ (N 9 k = -1 ∨ N 9 k = 4)) ∨ (∃ k : Nat, k < n ∧ xx = nI k ∧ rc_test N (nI k) yy = 0 ∧ (4 ≤ yy ∧ yy ≤ 24) ∧ ¬ N 9 k = -1 ∧ ¬ N 9 k = 4) := by
  by_cases h : (0 ≤ xx ∧ xx ≤ N 1 2 - 1)
  · obtain ⟨k, hk, rfl⟩ := p_isH hI.2.1 hI.1 h.1 h.2
    have hcl : kx (nI k) = k := kx_nI (by have := hI.1; omega)
    refine Or.inr ?_
    by_cases h2 : (4 ≤ yy ∧ yy ≤ 24)
    · refine Or.inr ?_
      cases hh : here N k with
      | false => exact Or.inl ⟨k, hk, rfl, by unfold rc_test; rw [hcl, if_neg (fun q => q h), if_neg (fun q => q h2), if_pos hh], h2, here_f (hI.2.2.2 k hk) hh⟩
      | true => exact Or.inr ⟨k, hk, rfl, by unfold rc_test; rw [hcl, if_neg (fun q => q h), if_neg (fun q => q h2), if_neg (by simp [hh])], h2, (here_t hh).1, (here_t hh).2⟩
    · exact Or.inl ⟨k, hk, rfl, by unfold rc_test; rw [if_neg (fun q => q h), if_pos h2], h2⟩
  · exact Or.inl ⟨if_pos h, h⟩
theorem cs_lend {N : NN} {n dy : Nat} (hI : Inv N n dy) (xx yy : Int32) : (rc_lend N xx yy = 1 ∧ ¬ (0 ≤ xx ∧ xx ≤ N 1 2 - 1)) ∨ (∃ k : Nat, k < n ∧ xx = nI k ∧ rc_lend N (nI k) yy = 2 ∧ ¬ (1 ≤ yy ∧ yy ≤ 99)) ∨ (∃ k : Nat, k < n ∧ xx = nI k ∧ rc_lend N (nI k) yy = 3 ∧ (1 ≤ yy ∧ yy ≤ 99) ∧ ¬ p_reason N k = 0) ∨ (∃ k : Nat, k < n ∧ xx = nI k ∧ rc_lend N (nI k) yy = 0 ∧ (1 ≤ yy ∧ yy ≤ 99) ∧ p_reason N k = 0) := by
  by_cases h : (0 ≤ xx ∧ xx ≤ N 1 2 - 1)
  · obtain ⟨k, hk, rfl⟩ := p_isH hI.2.1 hI.1 h.1 h.2
    have hcl : kx (nI k) = k := kx_nI (by have := hI.1; omega)
    refine Or.inr ?_
    by_cases h2 : (1 ≤ yy ∧ yy ≤ 99)
    · refine Or.inr ?_
      by_cases hr : p_reason N k = 0
      · exact Or.inr ⟨k, hk, rfl, by unfold rc_lend; rw [hcl, if_neg (fun q => q h), if_neg (fun q => q h2), if_neg (fun q => q hr)], h2, hr⟩
      · exact Or.inl ⟨k, hk, rfl, by unfold rc_lend; rw [hcl, if_neg (fun q => q h), if_neg (fun q => q h2), if_pos hr], h2, hr⟩
    · exact Or.inl ⟨k, hk, rfl, by unfold rc_lend; rw [if_neg (fun q => q h), if_pos h2], h2⟩
  · exact Or.inl ⟨if_pos h, h⟩
theorem cs_hose {N : NN} {n dy : Nat} (hI : Inv N n dy) (xx yy : Int32) : (rc_hose N xx yy = 1 ∧ ¬ (0 ≤ xx ∧ xx ≤ N 1 2 - 1)) ∨ (∃ k : Nat, k < n ∧ xx = nI k ∧ rc_hose N (nI k) yy = 2 ∧ ¬ (0 ≤ yy ∧ yy ≤ 9)) ∨ (∃ k : Nat, k < n ∧ xx = nI k ∧ rc_hose N (nI k) yy = 0 ∧ (0 ≤ yy ∧ yy ≤ 9)) := by
  by_cases h : (0 ≤ xx ∧ xx ≤ N 1 2 - 1)
  · obtain ⟨k, hk, rfl⟩ := p_isH hI.2.1 hI.1 h.1 h.2
    have hcl : kx (nI k) = k := kx_nI (by have := hI.1; omega)
    refine Or.inr ?_
    unfold rc_hose
    by_cases h2 : (0 ≤ yy ∧ yy ≤ 9)
    · exact Or.inr ⟨k, hk, rfl, by rw [if_neg (fun q => q h), if_neg (fun q => q h2)], h2⟩
    · exact Or.inl ⟨k, hk, rfl, by rw [if_neg (fun q => q h), if_pos h2], h2⟩
  · exact Or.inl ⟨if_pos h, h⟩
theorem cs_ifTested {N : NN} {n dy : Nat} (hI : Inv N n dy) (xx yy : Int32) : (rc_if N xx yy = 1 ∧ ¬ (0 ≤ xx ∧ xx ≤ N 1 2 - 1)) ∨ (∃ k : Nat, k < n ∧ xx = nI k ∧ rc_if N (nI k) yy = 2 ∧ ¬ (4 ≤ yy ∧ yy ≤ 24)) ∨ (∃ k : Nat, k < n ∧ xx = nI k ∧ rc_if N (nI k) yy = 0 ∧ (4 ≤ yy ∧ yy ≤ 24)) := by
  by_cases h : (0 ≤ xx ∧ xx ≤ N 1 2 - 1)
  · obtain ⟨k, hk, rfl⟩ := p_isH hI.2.1 hI.1 h.1 h.2
    have hcl : kx (nI k) = k := kx_nI (by have := hI.1; omega)
    refine Or.inr ?_
    unfold rc_if
    by_cases h2 : (4 ≤ yy ∧ yy ≤ 24)
    · exact Or.inr ⟨k, hk, rfl, by rw [if_neg (fun q => q h), if_neg (fun q => q h2)], h2⟩
    · exact Or.inl ⟨k, hk, rfl, by rw [if_neg (fun q => q h), if_pos h2], h2⟩
  · exact Or.inl ⟨if_pos h, h⟩
theorem cs_safe {N : NN} {n dy : Nat} (hI : Inv N n dy) (xx : Int32) : (rc_safe N xx = 1 ∧ ¬ (0 ≤ xx ∧ xx ≤ N 1 2 - 1)) ∨ (∃ k : Nat, k < n ∧ xx = nI k ∧ rc_safe N (nI k) = 0) := by
  by_cases h : (0 ≤ xx ∧ xx ≤ N 1 2 - 1)
  · obtain ⟨k, hk, rfl⟩ := p_isH hI.2.1 hI.1 h.1 h.2
    have hcl : kx (nI k) = k := kx_nI (by have := hI.1; omega)
    refine Or.inr ?_
    exact ⟨k, hk, rfl, if_neg (fun q => q h)⟩
  · exact Or.inl ⟨if_pos h, h⟩
theorem cs_want (xx yy : Int32) : (rc_want xx yy = 1 ∧ ¬ (0 ≤ xx ∧ xx ≤ 2)) ∨ (∃ t : Nat, t < 3 ∧ xx = nI t ∧ rc_want (nI t) yy = 2 ∧ ¬ (0 ≤ yy ∧ yy ≤ 200)) ∨ (∃ t : Nat, t < 3 ∧ xx = nI t ∧ rc_want (nI t) yy = 0 ∧ (0 ≤ yy ∧ yy ≤ 200)) := by
  by_cases h : (0 ≤ xx ∧ xx ≤ 2)
  · obtain ⟨t, ht, rfl⟩ := p_isT h.1 h.2
    refine Or.inr ?_
    unfold rc_want
    by_cases h2 : (0 ≤ yy ∧ yy ≤ 200)
    · exact Or.inr ⟨t, ht, rfl, by rw [if_neg (fun q => q h), if_neg (fun q => q h2)], h2⟩
    · exact Or.inl ⟨t, ht, rfl, by rw [if_neg (fun q => q h), if_pos h2], h2⟩
  · exact Or.inl ⟨if_pos h, h⟩
theorem cs_set (xx yy : Int32) : (rc_set xx yy = 1 ∧ ¬ (0 ≤ xx ∧ xx ≤ 2)) ∨ (∃ t : Nat, t < 3 ∧ xx = nI t ∧ rc_set (nI t) yy = 2 ∧ ¬ (set_lo (nI t) ≤ yy ∧ yy ≤ set_hi (nI t))) ∨ (∃ t : Nat, t < 3 ∧ xx = nI t ∧ rc_set (nI t) yy = 0 ∧ (set_lo (nI t) ≤ yy ∧ yy ≤ set_hi (nI t))) := by
  by_cases h : (0 ≤ xx ∧ xx ≤ 2)
  · obtain ⟨t, ht, rfl⟩ := p_isT h.1 h.2
    refine Or.inr ?_
    unfold rc_set
    by_cases h2 : (set_lo (nI t) ≤ yy ∧ yy ≤ set_hi (nI t))
    · exact Or.inr ⟨t, ht, rfl, by rw [if_neg (fun q => q h), if_neg (fun q => q h2)], h2⟩
    · exact Or.inl ⟨t, ht, rfl, by rw [if_neg (fun q => q h), if_pos h2], h2⟩
  · exact Or.inl ⟨if_pos h, h⟩
theorem cs_truck (xx yy : Int32) : (rc_truck xx yy = 1 ∧ ¬ (0 ≤ xx ∧ xx ≤ 2)) ∨ (∃ t : Nat, t < 3 ∧ xx = nI t ∧ rc_truck (nI t) yy = 2 ∧ ¬ (0 ≤ yy ∧ yy ≤ 6)) ∨ (∃ t : Nat, t < 3 ∧ xx = nI t ∧ rc_truck (nI t) yy = 0 ∧ (0 ≤ yy ∧ yy ≤ 6)) := by
  by_cases h : (0 ≤ xx ∧ xx ≤ 2)
  · obtain ⟨t, ht, rfl⟩ := p_isT h.1 h.2
    refine Or.inr ?_
    unfold rc_truck
    by_cases h2 : (0 ≤ yy ∧ yy ≤ 6)
    · exact Or.inr ⟨t, ht, rfl, by rw [if_neg (fun q => q h), if_neg (fun q => q h2)], h2⟩
    · exact Or.inl ⟨t, ht, rfl, by rw [if_neg (fun q => q h), if_pos h2], h2⟩
  · exact Or.inl ⟨if_pos h, h⟩
theorem cs_set1 (xx : Int32) : (rc_set1 xx = 1 ∧ ¬ (0 ≤ xx ∧ xx ≤ 2)) ∨ (∃ t : Nat, t < 3 ∧ xx = nI t ∧ rc_set1 (nI t) = 0) := by
  by_cases h : (0 ≤ xx ∧ xx ≤ 2)
  · obtain ⟨t, ht, rfl⟩ := p_isT h.1 h.2
    exact Or.inr ⟨t, ht, rfl, if_neg (fun q => q h)⟩
  · exact Or.inl ⟨if_pos h, h⟩
theorem cs_pass (xx : Int32) : (rc_pass xx = 1 ∧ ¬ (1 ≤ xx ∧ xx ≤ 100)) ∨ (∃ w : Nat, 1 ≤ w ∧ w ≤ 100 ∧ xx = nI w ∧ rc_pass (nI w) = 0) := by
  by_cases h : (1 ≤ xx ∧ xx ≤ 100)
  · obtain ⟨w, h1, h2, rfl⟩ := p_isB (lo := 1) (hi := 100) (by omega) (by omega) h.1 h.2
    exact Or.inr ⟨w, h1, h2, rfl, if_neg (fun q => q h)⟩
  · exact Or.inl ⟨if_pos h, h⟩
theorem cs_count (xx : Int32) : (rc_count xx = 1 ∧ ¬ (0 ≤ xx ∧ xx ≤ 10)) ∨ (∃ w : Nat, 0 ≤ w ∧ w ≤ 10 ∧ xx = nI w ∧ rc_count (nI w) = 0) := by
  by_cases h : (0 ≤ xx ∧ xx ≤ 10)
  · obtain ⟨w, h1, h2, rfl⟩ := p_isB (lo := 0) (hi := 10) (by omega) (by omega) h.1 h.2
    exact Or.inr ⟨w, h1, h2, rfl, if_neg (fun q => q h)⟩
  · exact Or.inl ⟨if_pos h, h⟩
theorem cs_app {z : Nat} (hz : z ≤ 60) (xx : Int32) : (rc_app z xx = 1 ∧ ¬ (33 ≤ xx ∧ xx ≤ 126)) ∨ (rc_app z xx = 2 ∧ (33 ≤ xx ∧ xx ≤ 126) ∧ z = 60) ∨ (rc_app z xx = 0 ∧ (33 ≤ xx ∧ xx ≤ 126) ∧ z < 60) := by
  unfold rc_app
  by_cases h : (33 ≤ xx ∧ xx ≤ 126)
  · refine Or.inr ?_
    by_cases hz2 : z = 60
    · exact Or.inl ⟨by rw [if_neg (fun q => q h), if_pos hz2], h, hz2⟩
    · exact Or.inr ⟨by rw [if_neg (fun q => q h), if_neg hz2], h, by omega⟩
  · exact Or.inl ⟨if_pos h, h⟩
def rc_undo (kc : Nat) : Int32 := if kc = 0 then 1 else 0
theorem cs_undo (kc : Nat) : (rc_undo kc = 1 ∧ kc = 0) ∨ (∃ kp : Nat, kc = kp + 1 ∧ rc_undo (kp + 1) = 0) := by
  cases kc with
  | zero => exact Or.inl ⟨rfl, rfl⟩
  | succ kp => exact Or.inr ⟨kp, rfl, if_neg (by omega)⟩
theorem cs_all (T : Nat → Int32) (z : Nat) : (rc_all T z = 1 ∧ ¬ p_au T z = 5) ∨ (rc_all T z = 0 ∧ p_au T z = 5) := by
  unfold rc_all
  by_cases h : p_au T z = 5
  · exact Or.inr ⟨by simp [h], h⟩
  · exact Or.inl ⟨by simp [h], h⟩
theorem rng_w {yy : Int32} {lo hi : Nat} (hh : hi < 2 ^ 31) (hl : lo < 2 ^ 31) (h : nI lo ≤ yy ∧ yy ≤ nI hi) : ∃ w : Nat, lo ≤ w ∧ w ≤ hi ∧ yy = nI w := p_isB hl hh h.1 h.2
