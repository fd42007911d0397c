theorem bs_m4 (d : UInt64) : bs_m d ≤ 4 := by
  unfold bs_m
  repeat' split
  all_goals omega
theorem bs_lt {d : UInt64} {k : Nat} (h : k < bs_m d) : ¬ 0 ≤ bs_c d k := by
  unfold bs_m at h
  by_cases c0 : 0 ≤ bs_c d 0
  · rw [if_pos c0] at h; omega
  rw [if_neg c0] at h
  by_cases c1 : 0 ≤ bs_c d 1
  · rw [if_pos c1] at h; have : k = 0 := by omega
    subst this; exact c0
  rw [if_neg c1] at h
  by_cases c2 : 0 ≤ bs_c d 2
  · rw [if_pos c2] at h
    rcases (show k = 0 ∨ k = 1 by omega) with rfl | rfl
    · exact c0
    · exact c1
  rw [if_neg c2] at h
  by_cases c3 : 0 ≤ bs_c d 3
  · rw [if_pos c3] at h
    rcases (show k = 0 ∨ k = 1 ∨ k = 2 by omega) with rfl | rfl | rfl
    · exact c0
    · exact c1
    · exact c2
  rw [if_neg c3] at h
  rcases (show k = 0 ∨ k = 1 ∨ k = 2 ∨ k = 3 by omega) with rfl | rfl | rfl | rfl
  · exact c0
  · exact c1
  · exact c2
  · exact c3
theorem bs_ex {d : UInt64} {k : Nat} (hk : k ≤ bs_m d) (h : 0 ≤ bs_c d k) : k = bs_m d := by
  apply Classical.byContradiction
  intro n
  exact bs_lt (by omega) h
theorem bs_no {d : UInt64} {k : Nat} (hk : k ≤ bs_m d) : ¬ (1022 : Int32) ≤ nI k := by
  have := bs_m4 d
  intro h
  have := (nI_leI (a := 1022) (b := k) (by omega) (by omega)).mp h
  omega
theorem bs_eq : ∀ k : Fin 6, bs_e k.1 - 1 = bs_e (k.1 + 1) := by decide
theorem bs_es {d : UInt64} {k : Nat} (hk : k ≤ bs_m d) : bs_e k - 1 = bs_e (k + 1) := bs_eq ⟨k, by have := bs_m4 d; omega⟩
theorem bs_fn {x : UInt64} (h : bs_fin x = true) : vf_n64 x := by
  have h2 : x &&& 0x7fffffffffffffff ≤ 0x7ff0000000000000 := of_decide_eq_true h
  exact h2
theorem bs_parts {d : UInt64} (h : bs_ok d = true) : (∀ k, k < bs_m d → vf_n64 (FP.dmul (bs_g d k) 4611686018427387904)) ∧ 0 ≤ bs_c d (bs_m d) ∧ vf_n64 (FP.dsub (bs_g d (bs_m d)) FP.dconst1) ∧ vf_n64 (bs_f d (bs_m d)) ∧ (bs_e (bs_m d) <<< 52) + FP.d2l (bs_f d (bs_m d)) = d.toInt64 := by
  unfold bs_ok at h
  simp only [Bool.and_eq_true, decide_eq_true_eq] at h
  obtain ⟨⟨⟨⟨⟨⟨⟨h1, h2⟩, h3⟩, h4⟩, h5⟩, h6⟩, h7⟩, h8⟩ := h
  refine ⟨fun k hk => ?_, h5, bs_fn h6, bs_fn h7, h8⟩
  have := bs_m4 d
  rcases (show k = 0 ∨ k = 1 ∨ k = 2 ∨ k = 3 by omega) with rfl | rfl | rfl | rfl
  · exact bs_fn h1
  · exact bs_fn h2
  · exact bs_fn h3
  · exact bs_fn h4
theorem bs_52 : (52 : Int32).toInt64 &&& 63 = 52 := by decide
