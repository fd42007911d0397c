/-! the script's numbers in their ranges -/
theorem lo_eq {v : Int32} {m j : Nat} (hm : 0 < m) (hm2 : m < 2 ^ 31) (hj : j < 2 ^ 31) (c : nI (p_low v m) = nI j) : p_low v m = j := (nI_eq (by have := p_low_lt v hm; omega) hj).mp c
theorem lo_rg (v : Int32) {m a hi : Nat} (hm : 0 < m) (h : a + m ≤ hi + 1) (hh : hi < 2 ^ 31) : nI a ≤ nI (a + p_low v m) ∧ nI (a + p_low v m) ≤ nI hi := nI_rg (by omega) (by have := p_low_lt v hm; omega) hh
theorem lo_isN (v : Int32) {m a hi : Nat} (hm : 0 < m) (h : a + m ≤ hi + 1) : isN (nI (a + p_low v m)) a hi := ⟨a + p_low v m, by omega, by have := p_low_lt v hm; omega, rfl⟩
theorem lo_0 (v : Int32) (m : Nat) : nI (p_low v m) = nI (0 + p_low v m) := by rw [Nat.zero_add]
theorem lo_r0 (v : Int32) {m hi : Nat} (hm : 0 < m) (h : m ≤ hi + 1) (hh : hi < 2 ^ 31) : 0 ≤ nI (p_low v m) ∧ nI (p_low v m) ≤ nI hi := by
  have := lo_rg v (a := 0) hm (by omega) hh
  rw [Nat.zero_add] at this
  exact this
theorem lo_kd (v : Int32) : kdOk (nI (p_low v 3)) := kdOk_of (lo_r0 v (hi := 2) (by decide) (by decide) (by decide)).1 (lo_r0 v (hi := 2) (by decide) (by decide) (by decide)).2
theorem lo_ok (a b c : Int32) : (0 ≤ nI (p_low a 3) ∧ nI (p_low a 3) ≤ 2) ∧ (5 ≤ nI (5 + p_low b 20) ∧ nI (5 + p_low b 20) ≤ 50) ∧ (0 ≤ nI (p_low c 3) ∧ nI (p_low c 3) ≤ 2) :=
  ⟨lo_r0 a (hi := 2) (by decide) (by decide) (by decide), lo_rg b (a := 5) (hi := 50) (by decide) (by decide) (by decide), lo_r0 c (hi := 2) (by decide) (by decide) (by decide)⟩
theorem lo_s0 (v : Int32) : set_lo (nI 0) ≤ nI (4 + p_low v 21) ∧ nI (4 + p_low v 21) ≤ set_hi (nI 0) := lo_rg v (a := 4) (hi := 24) (by decide) (by decide) (by decide)
theorem lo_s1 (v : Int32) : set_lo (nI 1) ≤ nI (p_low v 6) ∧ nI (p_low v 6) ≤ set_hi (nI 1) := lo_r0 v (hi := 5) (by decide) (by decide) (by decide)
theorem lo_s2 (v : Int32) : set_lo (nI 2) ≤ nI (p_low v 201) ∧ nI (p_low v 201) ≤ set_hi (nI 2) := lo_r0 v (hi := 200) (by decide) (by decide) (by decide)
theorem lo_i0 (v : Int32) {m hi : Nat} (hm : 0 < m) (h : m ≤ hi + 1) : isN (nI (p_low v m)) 0 hi := ⟨p_low v m, by omega, by have := p_low_lt v hm; omega, rfl⟩
