/-! plain facts for the reference's methods -/
def kdOk (x : Int32) : Prop := x = 0 ∨ x = 1 ∨ x = 2
def m_st (P : Nat) : Nat → Nat
  | 0 => 0
  | j + 1 => p_sp P j
theorem m_st_lt {P j : Nat} (hj : j < p_S P) : m_st P j = 4 * j ∧ 4 * j < P := by
  have h : 4 * j < P := by unfold p_S at hj; omega
  refine ⟨?_, h⟩
  cases j with
  | zero => rfl
  | succ j =>
    show p_sp P j = _
    unfold p_sp
    rw [if_neg (by omega)]
theorem m_st_end {P j : Nat} (hP : 0 < P) (hj : j ≤ p_S P) (c : nI P ≤ nI (m_st P j)) (hP2 : P ≤ 24) : j = p_S P := by
  rcases Nat.lt_or_ge j (p_S P) with h | h
  · obtain ⟨h1, h2⟩ := m_st_lt h
    rw [h1] at c
    have := (nI_leI (a := P) (b := 4 * j) (by omega) (by omega)).mp c
    omega
  · omega
theorem m_st_bd {P j : Nat} (hP2 : P ≤ 24) : m_st P j ≤ 24 := by
  cases j with
  | zero => exact Nat.zero_le _
  | succ j =>
    show p_sp P j ≤ 24
    unfold p_sp
    split <;> omega
theorem m_st_more {P j : Nat} (hP2 : P ≤ 24) (hj : j ≤ p_S P) (c : ¬ nI P ≤ nI (m_st P j)) : j < p_S P := by
  rcases Nat.lt_or_ge j (p_S P) with h | h
  · exact h
  · exfalso
    have e : j = p_S P := by omega
    apply c
    refine (nI_leI (by omega) (by have := m_st_bd (P := P) (j := j) hP2; omega)).mpr ?_
    subst e
    unfold p_S at hj ⊢
    cases hq : (P + 3) / 4 with
    | zero => show P ≤ 0; omega
    | succ q =>
      show P ≤ p_sp P q
      unfold p_sp
      split <;> omega
theorem p_worn_bd {w : Int32} (h0 : 0 ≤ w) (h1 : w ≤ 99) (j : Nat) : ∃ q : Nat, q ≤ 99 ∧ p_worn w j = nI q := by
  obtain ⟨q, hq, rfl⟩ := mn99 h0 h1
  rw [p_worn_nI hq]
  exact ⟨_, by split <;> omega, rfl⟩
theorem p_worn_lt {w : Int32} (h0 : 0 ≤ w) (h1 : w ≤ 99) {j : Nat} (c : p_worn w j < 99) : p_worn w j + 1 = p_worn w (j + 1) := by
  obtain ⟨q, hq, e⟩ := p_worn_bd h0 h1 j
  show _ = mn 99 (p_worn w j + 1)
  rw [e] at c ⊢
  have h := (nI_ltI (a := q) (b := 99) (by omega) (by omega)).mp c
  rw [nI_1]
  unfold mn
  rw [mnI (by omega)]
  congr 1
  split <;> omega
theorem p_worn_ge {w : Int32} (h0 : 0 ≤ w) (h1 : w ≤ 99) {j : Nat} (c : ¬ p_worn w j < 99) : 99 = p_worn w (j + 1) := by
  obtain ⟨q, hq, e⟩ := p_worn_bd h0 h1 j
  show _ = mn 99 (p_worn w j + 1)
  rw [e] at c ⊢
  have h : ¬ q < 99 := fun z => c ((nI_ltI (a := q) (b := 99) (by omega) (by omega)).mpr z)
  rw [nI_1]
  unfold mn
  rw [mnI (by omega), if_neg (by omega)]
  rfl
theorem p_out_in {N : NN} {k P : Nat} (hP : P ≤ 24) : (0 ≤ p_out N k P ∧ p_out N k P ≤ 99) ↔ p_held N k P = p_S P := by
  have h1 := p_S_le hP
  have h2 := p_held_le N k P
  unfold p_out
  by_cases h : p_held N k P < p_S P
  · rw [if_pos h]
    constructor
    · intro q
      have := (nI_leI (a := p_held N k P + 100) (b := 99) (by omega) (by omega)).mp q.2
      omega
    · intro q
      omega
  · rw [if_neg h]
    constructor
    · intro _
      omega
    · intro _
      exact ⟨nI_pos' (by omega), (nI_leI (a := p_held N k P) (b := 99) (by omega) (by omega)).mpr (by omega)⟩
/-- the copies that the reference makes of its numbers -/
def m_sh (P : Nat → Int32) (k : Nat) : Nat → Int32 := fun q => if q < k then P (q + 124) else P q
def m_cp (Q : Nat → Int32) (b : Nat) (f : Nat → Int32) (k : Nat) : Nat → Int32 := fun q => if b ≤ q ∧ q < b + k then f (q - b) else Q q
def m_sv (P : Nat → Int32) (f : Nat → Int32) (c : Nat) : Nat → Int32 := if c = 6 then m_cp (m_sh P 620) 620 f 124 else m_cp P (124 * c) f 124
theorem m_sh_0 (P : Nat → Int32) : P = m_sh P 0 := by funext q; simp [m_sh]
theorem m_sh_at (P : Nat → Int32) (k : Nat) : m_sh P k (k + 124) = P (k + 124) := by
  unfold m_sh
  rw [if_neg (by omega)]
theorem m_sh_s (P : Nat → Int32) (k : Nat) : upd (m_sh P k) k (P (k + 124)) = m_sh P (k + 1) := by
  funext q
  simp only [upd, m_sh]
  by_cases h : q = k
  · subst h; rw [if_pos rfl, if_pos (by omega)]
  · rw [if_neg h]
    by_cases h2 : q < k
    · rw [if_pos h2, if_pos (by omega)]
    · rw [if_neg h2, if_neg (by omega)]
theorem m_cp_0 (Q : Nat → Int32) (b : Nat) (f : Nat → Int32) : Q = m_cp Q b f 0 := by
  funext q
  unfold m_cp
  rw [if_neg (by omega)]
theorem m_cp_s (Q : Nat → Int32) (b : Nat) (f : Nat → Int32) (k : Nat) : upd (m_cp Q b f k) (b + k) (f k) = m_cp Q b f (k + 1) := by
  funext q
  simp only [upd, m_cp]
  by_cases h : q = b + k
  · subst h
    rw [if_pos rfl, if_pos (by omega), show b + k - b = k by omega]
  · rw [if_neg h]
    by_cases h2 : b ≤ q ∧ q < b + k
    · rw [if_pos h2, if_pos (by omega)]
    · rw [if_neg h2, if_neg (by omega)]
theorem vp_cell_congr (c : ClassId) (n : Nat) {f g : Nat → Int32} (h : ∀ j, j < n → f j = g j) : vp_cell c (n, .inl f) = vp_cell c (n, .inl g) := by
  rw [vp_cell_i, vp_cell_i]
  unfold arrV
  congr 1
  congr 1
  funext j
  show Value.int (f j.val) = Value.int (g j.val)
  rw [h j.val j.isLt]
theorem p_isH {N : NN} {n : Nat} {x : Int32} (hn : N 1 2 = nI n) (hn14 : n ≤ 14) (h0 : 0 ≤ x) (h1 : x ≤ N 1 2 - 1) : ∃ k : Nat, k < n ∧ x = nI k := by
  obtain ⟨k, hk, rfl⟩ := nI_of (x := x) (Int32.not_lt.mpr h0)
  refine ⟨k, ?_, rfl⟩
  rw [hn] at h1
  cases n with
  | zero =>
    exfalso
    have e : nI 0 - 1 = -1 := by decide
    rw [e] at h1
    have h2 := Int32.le_trans h0 h1
    exact absurd h2 (by decide)
  | succ n =>
    rw [nI_pred n] at h1
    have := (nI_leI (a := k) (b := n) hk (by omega)).mp h1
    omega
theorem p_isT {x : Int32} (h0 : 0 ≤ x) (h1 : x ≤ 2) : ∃ k : Nat, k < 3 ∧ x = nI k := by
  obtain ⟨k, hk, rfl⟩ := nI_of (x := x) (Int32.not_lt.mpr h0)
  refine ⟨k, ?_, rfl⟩
  have := (nI_leI (a := k) (b := 2) hk (by omega)).mp h1
  omega
theorem p_isB {x : Int32} {lo hi : Nat} (hl : lo < 2 ^ 31) (hh : hi < 2 ^ 31) (h0 : nI lo ≤ x) (h1 : x ≤ nI hi) : ∃ k : Nat, lo ≤ k ∧ k ≤ hi ∧ x = nI k := by
  obtain ⟨k, hk, rfl⟩ := nI_of (x := x) (Int32.not_lt.mpr (Int32.le_trans (nI_pos' hl) h0))
  exact ⟨k, (nI_leI hl hk).mp h0, (nI_leI hk hh).mp h1, rfl⟩
theorem p_tb_row (N : NN) {i : Nat} (h9 : i ≠ 9) (h10 : i ≠ 10) : ∀ k, p_tb N k i = N i := by
  intro k
  induction k with
  | zero => rfl
  | succ k ih =>
    unfold p_tb
    split
    · rw [up2_ne _ _ _ h10, up2_ne _ _ _ h9, ih]
    · exact ih
theorem p_wt_row (N : NN) {i : Nat} (h : i ≠ 7) : ∀ k, p_wt N k i = N i := by
  intro k
  induction k with
  | zero => rfl
  | succ k ih =>
    unfold p_wt
    split
    · rw [up2_ne _ _ _ h, ih]
    · exact ih
theorem p_wt_at (N : NN) (j : Nat) : ∀ k, k ≤ j → p_wt N k 7 j = N 7 j := by
  intro k
  induction k with
  | zero => intro _; rfl
  | succ k ih =>
    intro hk
    unfold p_wt
    split
    · rw [up2_at, if_neg (by omega), ih (by omega)]
    · exact ih (by omega)
def p_hv (N : NN) (rs : Int32) : Nat → Int32
  | 0 => 0
  | k + 1 => if p_reason N k = rs then p_hv N rs k + 1 else p_hv N rs k
theorem p_hv_rh (N : NN) : ∀ k, p_hv N 0 k = p_rh N k := by
  intro k
  induction k with
  | zero => rfl
  | succ k ih => simp only [p_hv, p_rh, ih]
theorem p_hv_at1 (N : NN) : ∀ k, p_hv N 1 k = p_at N (-1) k := by
  intro k
  induction k with
  | zero => rfl
  | succ k ih =>
    have e : (p_reason N k = 1) = (N 9 k = -1) := by
      apply propext
      unfold p_reason
      constructor
      · intro h
        by_cases h1 : N 9 k = -1
        · exact h1
        · rw [if_neg h1] at h
          split at h
          · exact absurd h (by decide)
          · split at h
            · exact absurd h (by decide)
            · split at h <;> exact absurd h (by decide)
      · intro h
        rw [if_pos h]
    simp only [p_hv, p_at, ih, e]
theorem p_hv_at2 (N : NN) : ∀ k, p_hv N 2 k = p_at N 4 k := by
  intro k
  induction k with
  | zero => rfl
  | succ k ih =>
    have e : (p_reason N k = 2) = (N 9 k = 4) := by
      apply propext
      unfold p_reason
      constructor
      · intro h
        by_cases h1 : N 9 k = -1
        · rw [if_pos h1] at h
          exact absurd h (by decide)
        · rw [if_neg h1] at h
          by_cases h2 : N 9 k = 4
          · exact h2
          · rw [if_neg h2] at h
            split at h
            · exact absurd h (by decide)
            · split at h <;> exact absurd h (by decide)
      · intro h
        rw [if_neg (by rw [h]; decide), if_pos h]
    simp only [p_hv, p_at, ih, e]
theorem i32_swap (a b : Int32) : a - b + 1 = a + 1 - b := by
  rw [Int32.sub_eq_add_neg, Int32.sub_eq_add_neg, Int32.add_assoc, Int32.add_assoc, Int32.add_comm (-b) 1]
theorem m_dlA {N : NN} {k : Nat} (h : N 8 k < N 6 k + p_life (N 3 k)) : N 8 k - N 1 0 + 1 = p_dl N k := by
  unfold p_dl mn
  rw [if_neg (Int32.not_lt.mpr (Int32.le_of_lt h)), i32_swap]
theorem m_dlB {N : NN} {k : Nat} (h : N 6 k + p_life (N 3 k) ≤ N 8 k) : N 6 k + p_life (N 3 k) - N 1 0 + 1 = p_dl N k := by
  unfold p_dl mn
  by_cases h2 : N 6 k + p_life (N 3 k) < N 8 k
  · rw [if_pos h2, i32_swap]
  · rw [if_neg h2, i32_swap, Int32.le_antisymm h (Int32.not_lt.mp h2)]
def p_on (N : NN) (t rd : Int32) : Nat → Int32
  | 0 => 0
  | k + 1 => if N 9 k = t ∧ (rd = 0 ∨ p_reason N k = 0) then p_on N t rd k + 1 else p_on N t rd k
theorem p_on_at (N : NN) (t : Int32) : ∀ k, p_on N t 0 k = p_at N t k := by
  intro k
  induction k with
  | zero => rfl
  | succ k ih => simp [p_on, p_at, ih]
theorem p_on_ra (N : NN) (t : Int32) : ∀ k, p_on N t 1 k = p_ra N t k := by
  intro k
  induction k with
  | zero => rfl
  | succ k ih => simp [p_on, p_ra, ih]
def m_hose (N : NN) (k what : Nat) : Int32 := match what with
  | 8 => if N 9 k = 4 then N 10 k else -1
  | w => p_hose N k w
theorem p_spA {P j : Nat} (h : nI P < nI (4 * (j + 1))) (hP : P ≤ 24) (hj : 4 * (j + 1) < 2 ^ 31) : P = p_sp P j := by
  have := (nI_ltI (by omega) hj).mp h
  unfold p_sp
  rw [if_pos this]
theorem p_spB {P j : Nat} (h : nI (4 * (j + 1)) ≤ nI P) (hP : P ≤ 24) (hj : 4 * (j + 1) < 2 ^ 31) : p_sp P j = 4 * j + 4 := by
  have := (nI_leI hj (by omega)).mp h
  unfold p_sp
  rw [if_neg (by omega)]
  omega
theorem p_out_stop {N : NN} {k P j : Nat} (hP : P ≤ 24) (hj : p_go N k P (p_S P - j) j = p_held N k P) (h : j < p_S P) (c : p_strAt N k (p_worn (N 7 k) j) < nI (p_sp P j)) : nI (j + 100) = p_out N k P := by
  rw [p_go_stop h c] at hj
  unfold p_out
  rw [← hj, if_pos h]
theorem p_out_full {N : NN} {k P j : Nat} (hP : P ≤ 24) (hj : p_go N k P (p_S P - j) j = p_held N k P) (h : j = p_S P) : nI j = p_out N k P := by
  rw [p_go_end h] at hj
  unfold p_out
  rw [← hj, if_neg (by omega), h]
