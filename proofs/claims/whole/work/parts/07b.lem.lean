/-! plain facts about the mathematical value -/
theorem k_exit {k n : Nat} (hn : n ≤ 2048) (hk : k ≤ n) (c : nI n ≤ nI k) : k = n := by
  have := (nI_leI (a := n) (b := k) (by omega) (by omega)).mp c
  omega
theorem k_more {k n : Nat} (hn : n ≤ 2048) (hk : k ≤ n) (c : ¬ nI n ≤ nI k) : k < n := by
  rcases Nat.lt_or_ge k n with h | h
  · exact h
  · exact absurd ((nI_leI (a := n) (b := k) (by omega) (by omega)).mpr h) c
theorem nI_dec {a b : Nat} (h : a = b + 1) : nI a + Int32.ofInt (-1) = nI b := by
  subst h
  exact pk_m1 b
theorem p_S_le {P : Nat} (h : P ≤ 24) : p_S P ≤ 6 := by unfold p_S; omega
theorem p_go_le (N : NN) (k P : Nat) : ∀ r j, p_go N k P r j ≤ r + j := by
  intro r
  induction r with
  | zero => intro j; simp [p_go]
  | succ r ih =>
    intro j
    unfold p_go
    split
    · omega
    · have := ih (j + 1); omega
theorem p_held_le (N : NN) (k P : Nat) : p_held N k P ≤ p_S P := by
  have := p_go_le N k P (p_S P) 0
  unfold p_held
  omega
theorem p_go_step {N : NN} {k P S j : Nat} (h : j < S) (c : ¬ p_strAt N k (p_worn (N 7 k) j) < nI (p_sp P j)) : p_go N k P (S - j) j = p_go N k P (S - (j + 1)) (j + 1) := by
  rw [show S - j = (S - (j + 1)) + 1 by omega]
  simp only [p_go, if_neg c]
theorem p_go_stop {N : NN} {k P S j : Nat} (h : j < S) (c : p_strAt N k (p_worn (N 7 k) j) < nI (p_sp P j)) : p_go N k P (S - j) j = j := by
  rw [show S - j = (S - (j + 1)) + 1 by omega]
  simp only [p_go, if_pos c]
theorem p_go_end {N : NN} {k P S j : Nat} (h : j = S) : p_go N k P (S - j) j = S := by
  subst h
  simp [p_go]
theorem nI_sp {P j : Nat} (hP : P ≤ 24) (hj : j ≤ 100) : (if nI P < nI (4 * (j + 1)) then nI P else nI (4 * (j + 1))) = nI (p_sp P j) := by
  unfold p_sp
  by_cases h : P < 4 * (j + 1)
  · rw [if_pos h, if_pos ((nI_ltI (by omega) (by omega)).mpr h)]
  · rw [if_neg h, if_neg (fun q => h ((nI_ltI (by omega) (by omega)).mp q))]
theorem p_out_ge {N : NN} {k P : Nat} (hP : P ≤ 24) (c : nI (p_S P) ≤ nI (p_held N k P)) : nI (p_held N k P) = p_out N k P := by
  have h1 := p_S_le hP
  have h2 := p_held_le N k P
  have h := (nI_leI (by omega) (by omega)).mp c
  unfold p_out
  rw [if_neg (by omega)]
theorem p_out_lt {N : NN} {k P : Nat} (hP : P ≤ 24) (c : ¬ nI (p_S P) ≤ nI (p_held N k P)) : nI (p_held N k P + 100) = p_out N k P := by
  have h1 := p_S_le hP
  have h2 := p_held_le N k P
  unfold p_out
  rcases Nat.lt_or_ge (p_held N k P) (p_S P) with h | h
  · rw [if_pos h]
  · exact absurd ((nI_leI (by omega) (by omega)).mpr h) c
theorem p_heldS {N : NN} {k P : Nat} (hP : P ≤ 24) : nI (p_held N k P) = nI (p_S P) ↔ p_held N k P = p_S P := by
  have h1 := p_S_le hP
  have h2 := p_held_le N k P
  exact nI_eq (by omega) (by omega)
theorem p_sf_hit {N : NN} {k j : Nat} (h : j < 21) (c : nI (p_held N k (24 - j)) = nI (p_S (24 - j))) : p_sf N k (21 - j) = nI (24 - j) := by
  rw [show 21 - j = (20 - j) + 1 by omega]
  unfold p_sf
  rw [show 20 - j + 4 = 24 - j by omega, if_pos ((p_heldS (by omega)).mp c)]
theorem p_sf_miss {N : NN} {k j : Nat} (h : j < 21) (c : ¬ nI (p_held N k (24 - j)) = nI (p_S (24 - j))) : p_sf N k (21 - j) = p_sf N k (21 - (j + 1)) := by
  rw [show 21 - j = (21 - (j + 1)) + 1 by omega]
  conv => lhs; unfold p_sf
  rw [show 21 - (j + 1) + 4 = 24 - j by omega, if_neg (fun q => c (by rw [q]))]
theorem p_pr_lt {j : Nat} (hj : j ≤ 21) (c : nI (24 - j) < 4) : j = 21 := by
  have := (nI_ltI (a := 24 - j) (b := 4) (by omega) (by omega)).mp c
  omega
theorem p_pr_ge {j : Nat} (hj : j ≤ 21) (c : ¬ nI (24 - j) < 4) : j < 21 := by
  rcases Nat.lt_or_ge j 21 with h | h
  · exact h
  · exact absurd ((nI_ltI (a := 24 - j) (b := 4) (by omega) (by omega)).mpr (by omega)) c
