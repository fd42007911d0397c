/-! plain facts about the mathematical value -/
theorem k_exit {k n : Nat} (hn : n ≤ 2048) (hk : k ≤ n) (c : nI n ≤ nI k) : k = n := by
  have := (nI_leI (a := n) (b := k) (by omega) (by omega)).mp c
  omega
theorem k_more {k n : Nat} (hn : n ≤ 2048) (hk : k ≤ n) (c : ¬ nI n ≤ nI k) : k < n := by
  rcases Nat.lt_or_ge k n with h | h
  · exact h
  · exact absurd ((nI_leI (a := n) (b := k) (by omega) (by omega)).mpr h) c
theorem nI_dec {a b : Nat} (h : a = b + 1) : nI a + Int32.ofInt (-1) = nI b := by
  subst h
  exact pk_m1 b
theorem p_S_le {P : Nat} (h : P ≤ 24) : p_S P ≤ 6 := by unfold p_S; omega
theorem p_go_le (N : NN) (k P : Nat) : ∀ r j, p_go N k P r j ≤ r + j := by
  intro r
  induction r with
  | zero => intro j; simp [p_go]
  | succ r ih =>
    intro j
    unfold p_go
    split
    · omega
    · have := ih (j + 1); omega
theorem p_held_le (N : NN) (k P : Nat) : p_held N k P ≤ p_S P := by
  have := p_go_le N k P (p_S P) 0
  unfold p_held
  omega
theorem p_go_step {N : NN} {k P S j : Nat} (h : j < S) (c : ¬ p_strAt N k (p_worn (N 7 k) j) < nI (p_sp P j)) : p_go N k P (S - j) j = p_go N k P (S - (j + 1)) (j + 1) := by
  rw [show S - j = (S - (j + 1)) + 1 by omega]
  simp only [p_go, if_neg c]
theorem p_go_stop {N : NN} {k P S j : Nat} (h : j < S) (c : p_strAt N k (p_worn (N 7 k) j) < nI (p_sp P j)) : p_go N k P (S - j) j = j := by
  rw [show S - j = (S - (j + 1)) + 1 by omega]
  simp only [p_go, if_pos c]
theorem p_go_end {N : NN} {k P S j : Nat} (h : j = S) : p_go N k P (S - j) j = S := by
  subst h
  simp [p_go]
theorem nI_sp {P j : Nat} (hP : P ≤ 24) (hj : j ≤ 100) : (if nI P < nI (4 * (j + 1)) then nI P else nI (4 * (j + 1))) = nI (p_sp P j) := by
  unfold p_sp
  by_cases h : P < 4 * (j + 1)
  · rw [if_pos h, if_pos ((nI_ltI (by omega) (by omega)).mpr h)]
  · rw [if_neg h, if_neg (fun q => h ((nI_ltI (by omega) (by omega)).mp q))]
theorem p_out_ge {N : NN} {k P : Nat} (hP : P ≤ 24) (c : nI (p_S P) ≤ nI (p_held N k P)) : nI (p_held N k P) = p_out N k P := by
  have h1 := p_S_le hP
  have h2 := p_held_le N k P
  have h := (nI_leI (by omega) (by omega)).mp c
  unfold p_out
  rw [if_neg (by omega)]
theorem p_out_lt {N : NN} {k P : Nat} (hP : P ≤ 24) (c : ¬ nI (p_S P) ≤ nI (p_held N k P)) : nI (p_held N k P + 100) = p_out N k P := by
  have h1 := p_S_le hP
  have h2 := p_held_le N k P
  unfold p_out
  rcases Nat.lt_or_ge (p_held N k P) (p_S P) with h | h
  · rw [if_pos h]
  · exact absurd ((nI_leI (by omega) (by omega)).mpr h) c
theorem p_heldS {N : NN} {k P : Nat} (hP : P ≤ 24) : nI (p_held N k P) = nI (p_S P) ↔ p_held N k P = p_S P := by
  have h1 := p_S_le hP
  have h2 := p_held_le N k P
  exact nI_eq (by omega) (by omega)
theorem p_sf_hit {N : NN} {k j : Nat} (h : j < 21) (c : nI (p_held N k (24 - j)) = nI (p_S (24 - j))) : p_sf N k (21 - j) = nI (24 - j) := by
  rw [show 21 - j = (20 - j) + 1 by omega]
  unfold p_sf
  rw [show 20 - j + 4 = 24 - j by omega, if_pos ((p_heldS (by omega)).mp c)]
theorem p_sf_miss {N : NN} {k j : Nat} (h : j < 21) (c : ¬ nI (p_held N k (24 - j)) = nI (p_S (24 - j))) : p_sf N k (21 - j) = p_sf N k (21 - (j + 1)) := by
  rw [show 21 - j = (21 - (j + 1)) + 1 by omega]
  conv => lhs; unfold p_sf
  rw [show 21 - (j + 1) + 4 = 24 - j by omega, if_neg (fun q => c (by rw [q]))]
theorem p_pr_lt {j : Nat} (hj : j ≤ 21) (c : nI (24 - j) < 4) : j = 21 := by
  have := (nI_ltI (a := 24 - j) (b := 4) (by omega) (by omega)).mp c
  omega
theorem p_pr_ge {j : Nat} (hj : j ≤ 21) (c : ¬ nI (24 - j) < 4) : j < 21 := by
  rcases Nat.lt_or_ge j 21 with h | h
  · exact h
  · exact absurd ((nI_ltI (a := 24 - j) (b := 4) (by omega) (by omega)).mpr (by omega)) c
theorem us_at (v : Nat → Int32) (i : Nat) (x : Int32) (j : Nat) : us v i x j = if j = i then x else v j := by
  by_cases h : j = i
  · subst h; rw [us_self, if_pos rfl]
  · rw [us_ne v x h, if_neg h]
theorem mx0_ge {x : Int32} (h : 0 ≤ x) : x = mx0 x := by
  unfold mx0
  by_cases h2 : 0 < x
  · rw [if_pos h2]
  · rw [if_neg h2]
    exact Int32.le_antisymm (Int32.not_lt.mp h2) h
theorem mx0_lt {x : Int32} (h : ¬ 0 ≤ x) : 0 = mx0 x := by
  unfold mx0
  rw [if_neg (fun q => h (Int32.le_of_lt q))]
theorem p_reason_m {N : NN} {k : Nat} (hd : 0 ≤ N 1 0) : p_reason N k = if N 9 k = -1 then 1 else if N 9 k = 4 then 2 else if p_life (N 3 k) < N 1 0 - N 6 k then 3 else if N 8 k < N 1 0 then 4 else 0 := by
  unfold p_reason
  by_cases h : N 8 k = -1
  · have h2 : N 8 k < N 1 0 := by
      rw [h]
      exact Int32.lt_of_lt_of_le (by decide) hd
    simp [h, h2]
    simp [h] at h2
    simp [h2]
  · simp [h]
theorem up2_self (N : NN) (i j : Nat) : up2 N i j (N i j) = N := by
  funext q d
  rw [up2_at]
  by_cases h : q = i ∧ d = j
  · rw [if_pos h, h.1, h.2]
  · rw [if_neg h]
theorem up2_comm (N : NN) {i i' : Nat} (j j' : Nat) (x y : Int32) (h : i ≠ i') : up2 (up2 N i j x) i' j' y = up2 (up2 N i' j' y) i j x := by
  funext q d
  simp only [up2_at]
  by_cases h1 : q = i' ∧ d = j'
  · by_cases h2 : q = i ∧ d = j
    · exact absurd (h2.1.symm.trans h1.1) h
    · simp [h1, h2]
      intro h3
      exact absurd h3.symm h
  · by_cases h2 : q = i ∧ d = j
    · simp [h1, h2]
      intro h3
      exact absurd h3 h
    · simp [h1, h2]
