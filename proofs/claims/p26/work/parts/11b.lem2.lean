/-! plain facts for the reference's methods -/
def kdOk (x : Int32) : Prop := x = 0 ∨ x = 1 ∨ x = 2
def m_st (P : Nat) : Nat → Nat
  | 0 => 0
  | j + 1 => p_sp P j
theorem m_st_lt {P j : Nat} (hj : j < p_S P) : m_st P j = 4 * j ∧ 4 * j < P := by
  have h : 4 * j < P := by unfold p_S at hj; omega
  refine ⟨?_, h⟩
  cases j with
  | zero => rfl
  | succ j =>
    show p_sp P j = _
    unfold p_sp
    rw [if_neg (by omega)]
theorem m_st_end {P j : Nat} (hP : 0 < P) (hj : j ≤ p_S P) (c : nI P ≤ nI (m_st P j)) (hP2 : P ≤ 24) : j = p_S P := by
  rcases Nat.lt_or_ge j (p_S P) with h | h
  · obtain ⟨h1, h2⟩ := m_st_lt h
    rw [h1] at c
    have := (nI_leI (a := P) (b := 4 * j) (by omega) (by omega)).mp c
    omega
  · omega
theorem m_st_bd {P j : Nat} (hP2 : P ≤ 24) : m_st P j ≤ 24 := by
  cases j with
  | zero => exact Nat.zero_le _
  | succ j =>
    show p_sp P j ≤ 24
    unfold p_sp
    split <;> omega
theorem m_st_more {P j : Nat} (hP2 : P ≤ 24) (hj : j ≤ p_S P) (c : ¬ nI P ≤ nI (m_st P j)) : j < p_S P := by
  rcases Nat.lt_or_ge j (p_S P) with h | h
  · exact h
  · exfalso
    have e : j = p_S P := by omega
    apply c
    refine (nI_leI (by omega) (by have := m_st_bd (P := P) (j := j) hP2; omega)).mpr ?_
    subst e
    unfold p_S at hj ⊢
    cases hq : (P + 3) / 4 with
    | zero => show P ≤ 0; omega
    | succ q =>
      show P ≤ p_sp P q
      unfold p_sp
      split <;> omega
theorem p_worn_bd {w : Int32} (h0 : 0 ≤ w) (h1 : w ≤ 99) (j : Nat) : ∃ q : Nat, q ≤ 99 ∧ p_worn w j = nI q := by
  obtain ⟨q, hq, rfl⟩ := mn99 h0 h1
  rw [p_worn_nI hq]
  exact ⟨_, by split <;> omega, rfl⟩
theorem p_worn_lt {w : Int32} (h0 : 0 ≤ w) (h1 : w ≤ 99) {j : Nat} (c : p_worn w j < 99) : p_worn w j + 1 = p_worn w (j + 1) := by
  obtain ⟨q, hq, e⟩ := p_worn_bd h0 h1 j
  show _ = mn 99 (p_worn w j + 1)
  rw [e] at c ⊢
  have h := (nI_ltI (a := q) (b := 99) (by omega) (by omega)).mp c
  rw [nI_1]
  unfold mn
  rw [mnI (by omega)]
  congr 1
  split <;> omega
theorem p_worn_ge {w : Int32} (h0 : 0 ≤ w) (h1 : w ≤ 99) {j : Nat} (c : ¬ p_worn w j < 99) : 99 = p_worn w (j + 1) := by
  obtain ⟨q, hq, e⟩ := p_worn_bd h0 h1 j
  show _ = mn 99 (p_worn w j + 1)
  rw [e] at c ⊢
  have h : ¬ q < 99 := fun z => c ((nI_ltI (a := q) (b := 99) (by omega) (by omega)).mpr z)
  rw [nI_1]
  unfold mn
  rw [mnI (by omega), if_neg (by omega)]
  rfl
theorem p_out_in {N : NN} {k P : Nat} (hP : P ≤ 24) : (0 ≤ p_out N k P ∧ p_out N k P ≤ 99) ↔ p_held N k P = p_S P := by
  have h1 := p_S_le hP
  have h2 := p_held_le N k P
  unfold p_out
  by_cases h : p_held N k P < p_S P
  · rw [if_pos h]
    constructor
    · intro q
      have := (nI_leI (a := p_held N k P + 100) (b := 99) (by omega) (by omega)).mp q.2
      omega
    · intro q
      omega
  · rw [if_neg h]
    constructor
    · intro _
      omega
    · intro _
      exact ⟨nI_pos' (by omega), (nI_leI (a := p_held N k P) (b := 99) (by omega) (by omega)).mpr (by omega)⟩
/-- the copies that the reference makes of its numbers -/
def m_sh (P : Nat → Int32) (k : Nat) : Nat → Int32 := fun q => if q < k then P (q + 124) else P q
def m_cp (Q : Nat → Int32) (b : Nat) (f : Nat → Int32) (k : Nat) : Nat → Int32 := fun q => if b ≤ q ∧ q < b + k then f (q - b) else Q q
def m_sv (P : Nat → Int32) (f : Nat → Int32) (c : Nat) : Nat → Int32 := if c = 6 then m_cp (m_sh P 620) 620 f 124 else m_cp P (124 * c) f 124
theorem m_sh_0 (P : Nat → Int32) : P = m_sh P 0 := by funext q; simp [m_sh]
theorem m_sh_at (P : Nat → Int32) (k : Nat) : m_sh P k (k + 124) = P (k + 124) := by
  unfold m_sh
  rw [if_neg (by omega)]
theorem m_sh_s (P : Nat → Int32) (k : Nat) : upd (m_sh P k) k (P (k + 124)) = m_sh P (k + 1) := by
  funext q
  simp only [upd, m_sh]
  by_cases h : q = k
  · subst h; rw [if_pos rfl, if_pos (by omega)]
  · rw [if_neg h]
    by_cases h2 : q < k
    · rw [if_pos h2, if_pos (by omega)]
    · rw [if_neg h2, if_neg (by omega)]
theorem m_cp_0 (Q : Nat → Int32) (b : Nat) (f : Nat → Int32) : Q = m_cp Q b f 0 := by
  funext q
  unfold m_cp
  rw [if_neg (by omega)]
theorem m_cp_s (Q : Nat → Int32) (b : Nat) (f : Nat → Int32) (k : Nat) : upd (m_cp Q b f k) (b + k) (f k) = m_cp Q b f (k + 1) := by
  funext q
  simp only [upd, m_cp]
  by_cases h : q = b + k
  · subst h
    rw [if_pos rfl, if_pos (by omega), show b + k - b = k by omega]
  · rw [if_neg h]
    by_cases h2 : b ≤ q ∧ q < b + k
    · rw [if_pos h2, if_pos (by omega)]
    · rw [if_neg h2, if_neg (by omega)]
theorem vp_cell_congr (c : ClassId) (n : Nat) {f g : Nat → Int32} (h : ∀ j, j < n → f j = g j) : vp_cell c (n, .inl f) = vp_cell c (n, .inl g) := by
  rw [vp_cell_i, vp_cell_i]
  unfold arrV
  congr 1
  congr 1
  funext j
  show Value.int (f j.val) = Value.int (g j.val)
  rw [h j.val j.isLt]
theorem p_isH {N : NN} {n : Nat} {x : Int32} (hn : N 1 2 = nI n) (hn14 : n ≤ 14) (h0 : 0 ≤ x) (h1 : x ≤ N 1 2 - 1) : ∃ k : Nat, k < n ∧ x = nI k := by
  obtain ⟨k, hk, rfl⟩ := nI_of (x := x) (Int32.not_lt.mpr h0)
  refine ⟨k, ?_, rfl⟩
  rw [hn] at h1
  cases n with
  | zero =>
    exfalso
    have e : nI 0 - 1 = -1 := by decide
    rw [e] at h1
    have h2 := Int32.le_trans h0 h1
    exact absurd h2 (by decide)
  | succ n =>
    rw [nI_pred n] at h1
    have := (nI_leI (a := k) (b := n) hk (by omega)).mp h1
    omega
theorem p_isT {x : Int32} (h0 : 0 ≤ x) (h1 : x ≤ 2) : ∃ k : Nat, k < 3 ∧ x = nI k := by
  obtain ⟨k, hk, rfl⟩ := nI_of (x := x) (Int32.not_lt.mpr h0)
  refine ⟨k, ?_, rfl⟩
  have := (nI_leI (a := k) (b := 2) hk (by omega)).mp h1
  omega
theorem p_isB {x : Int32} {lo hi : Nat} (hl : lo < 2 ^ 31) (hh : hi < 2 ^ 31) (h0 : nI lo ≤ x) (h1 : x ≤ nI hi) : ∃ k : Nat, lo ≤ k ∧ k ≤ hi ∧ x = nI k := by
  obtain ⟨k, hk, rfl⟩ := nI_of (x := x) (Int32.not_lt.mpr (Int32.le_trans (nI_pos' hl) h0))
  exact ⟨k, (nI_leI hl hk).mp h0, (nI_leI hk hh).mp h1, rfl⟩
theorem p_tb_row (N : NN) {i : Nat} (h9 : i ≠ 9) (h10 : i ≠ 10) : ∀ k, p_tb N k i = N i := by
  intro k
  induction k with
  | zero => rfl
  | succ k ih =>
    unfold p_tb
    split
    · rw [up2_ne _ _ _ h10, up2_ne _ _ _ h9, ih]
    · exact ih
theorem p_wt_row (N : NN) {i : Nat} (h : i ≠ 7) : ∀ k, p_wt N k i = N i := by
  intro k
  induction k with
  | zero => rfl
  | succ k ih =>
    unfold p_wt
    split
    · rw [up2_ne _ _ _ h, ih]
    · exact ih
theorem p_wt_at (N : NN) (j : Nat) : ∀ k, k ≤ j → p_wt N k 7 j = N 7 j := by
  intro k
  induction k with
  | zero => intro _; rfl
  | succ k ih =>
    intro hk
    unfold p_wt
    split
    · rw [up2_at, if_neg (by omega), ih (by omega)]
    · exact ih (by omega)
def p_hv (N : NN) (rs : Int32) : Nat → Int32
  | 0 => 0
  | k + 1 => if p_reason N k = rs then p_hv N rs k + 1 else p_hv N rs k
theorem p_hv_rh (N : NN) : ∀ k, p_hv N 0 k = p_rh N k := by
  intro k
  induction k with
  | zero => rfl
  | succ k ih => simp only [p_hv, p_rh, ih]
theorem p_hv_at1 (N : NN) : ∀ k, p_hv N 1 k = p_at N (-1) k := by
  intro k
  induction k with
  | zero => rfl
  | succ k ih =>
    have e : (p_reason N k = 1) = (N 9 k = -1) := by
      apply propext
      unfold p_reason
      constructor
      · intro h
        by_cases h1 : N 9 k = -1
        · exact h1
        · rw [if_neg h1] at h
          split at h
          · exact absurd h (by decide)
          · split at h
            · exact absurd h (by decide)
            · split at h <;> exact absurd h (by decide)
      · intro h
        rw [if_pos h]
    simp only [p_hv, p_at, ih, e]
theorem p_hv_at2 (N : NN) : ∀ k, p_hv N 2 k = p_at N 4 k := by
  intro k
  induction k with
  | zero => rfl
  | succ k ih =>
    have e : (p_reason N k = 2) = (N 9 k = 4) := by
      apply propext
      unfold p_reason
      constructor
      · intro h
        by_cases h1 : N 9 k = -1
        · rw [if_pos h1] at h
          exact absurd h (by decide)
        · rw [if_neg h1] at h
          by_cases h2 : N 9 k = 4
          · exact h2
          · rw [if_neg h2] at h
            split at h
            · exact absurd h (by decide)
            · split at h <;> exact absurd h (by decide)
      · intro h
        rw [if_neg (by rw [h]; decide), if_pos h]
    simp only [p_hv, p_at, ih, e]
theorem i32_swap (a b : Int32) : a - b + 1 = a + 1 - b := by
  rw [Int32.sub_eq_add_neg, Int32.sub_eq_add_neg, Int32.add_assoc, Int32.add_assoc, Int32.add_comm (-b) 1]
theorem m_dlA {N : NN} {k : Nat} (h : N 8 k < N 6 k + p_life (N 3 k)) : N 8 k - N 1 0 + 1 = p_dl N k := by
  unfold p_dl mn
  rw [if_neg (Int32.not_lt.mpr (Int32.le_of_lt h)), i32_swap]
theorem m_dlB {N : NN} {k : Nat} (h : N 6 k + p_life (N 3 k) ≤ N 8 k) : N 6 k + p_life (N 3 k) - N 1 0 + 1 = p_dl N k := by
  unfold p_dl mn
  by_cases h2 : N 6 k + p_life (N 3 k) < N 8 k
  · rw [if_pos h2, i32_swap]
  · rw [if_neg h2, i32_swap, Int32.le_antisymm h (Int32.not_lt.mp h2)]
def p_on (N : NN) (t rd : Int32) : Nat → Int32
  | 0 => 0
  | k + 1 => if N 9 k = t ∧ (rd = 0 ∨ p_reason N k = 0) then p_on N t rd k + 1 else p_on N t rd k
theorem p_on_at (N : NN) (t : Int32) : ∀ k, p_on N t 0 k = p_at N t k := by
  intro k
  induction k with
  | zero => rfl
  | succ k ih => simp [p_on, p_at, ih]
theorem p_on_ra (N : NN) (t : Int32) : ∀ k, p_on N t 1 k = p_ra N t k := by
  intro k
  induction k with
  | zero => rfl
  | succ k ih => simp [p_on, p_ra, ih]
theorem p_spA {P j : Nat} (h : nI P < nI (4 * (j + 1))) (hP : P ≤ 24) (hj : 4 * (j + 1) < 2 ^ 31) : P = p_sp P j := by
  have := (nI_ltI (by omega) hj).mp h
  unfold p_sp
  rw [if_pos this]
theorem p_spB {P j : Nat} (h : nI (4 * (j + 1)) ≤ nI P) (hP : P ≤ 24) (hj : 4 * (j + 1) < 2 ^ 31) : p_sp P j = 4 * j + 4 := by
  have := (nI_leI hj (by omega)).mp h
  unfold p_sp
  rw [if_neg (by omega)]
  omega
theorem p_out_stop {N : NN} {k P j : Nat} (hP : P ≤ 24) (hj : p_go N k P (p_S P - j) j = p_held N k P) (h : j < p_S P) (c : p_strAt N k (p_worn (N 7 k) j) < nI (p_sp P j)) : nI (j + 100) = p_out N k P := by
  rw [p_go_stop h c] at hj
  unfold p_out
  rw [← hj, if_pos h]
theorem p_out_full {N : NN} {k P j : Nat} (hP : P ≤ 24) (hj : p_go N k P (p_S P - j) j = p_held N k P) (h : j = p_S P) : nI j = p_out N k P := by
  rw [p_go_end h] at hj
  unfold p_out
  rw [← hj, if_neg (by omega), h]
theorem us_v (v : Nat → Int32) (i : Nat) : us v i (v i) = v := by
  funext q
  rw [us_at]
  split
  · subst_vars; rfl
  · rfl
def m_tw (N : NN) (k P : Nat) (w : Int32) : Int32 := if N 9 k = -1 then w else p_worn (N 7 k) (p_held N k P)
def m_gw (N : NN) (k : Nat) (w : Int32) : Nat → Int32
  | 0 => w
  | j + 1 => m_tw N k (24 - j) (m_gw N k w j)
def p_sg (N : NN) (k : Nat) : Nat → Int32
  | 0 => -1
  | q + 1 => if 0 ≤ p_tried N k (q + 4) ∧ p_tried N k (q + 4) ≤ 99 then nI (q + 4) else p_sg N k q
def m_gz (N : NN) (k : Nat) : Nat → Int32 → Int32
  | 0, w => w
  | q + 1, w => if 0 ≤ p_tried N k (q + 4) ∧ p_tried N k (q + 4) ≤ 99 then m_tw N k (q + 4) w else m_gz N k q (m_tw N k (q + 4) w)
theorem p_sg_hit {N : NN} {k j : Nat} (h : j < 21) (c : 0 ≤ p_tried N k (24 - j) ∧ p_tried N k (24 - j) ≤ 99) : p_sg N k (21 - j) = nI (24 - j) := by
  rw [show 21 - j = (20 - j) + 1 by omega]
  unfold p_sg
  rw [show 20 - j + 4 = 24 - j by omega, if_pos c]
theorem p_sg_miss {N : NN} {k j : Nat} (h : j < 21) (c : ¬ (0 ≤ p_tried N k (24 - j) ∧ p_tried N k (24 - j) ≤ 99)) : p_sg N k (21 - j) = p_sg N k (21 - (j + 1)) := by
  rw [show 21 - j = (21 - (j + 1)) + 1 by omega]
  conv => lhs; unfold p_sg
  rw [show 21 - (j + 1) + 4 = 24 - j by omega, if_neg c]
theorem m_gz_hit {N : NN} {k j : Nat} {w : Int32} (h : j < 21) (c : 0 ≤ p_tried N k (24 - j) ∧ p_tried N k (24 - j) ≤ 99) : m_gz N k (21 - j) w = m_tw N k (24 - j) w := by
  rw [show 21 - j = (20 - j) + 1 by omega]
  unfold m_gz
  rw [show 20 - j + 4 = 24 - j by omega, if_pos c]
theorem m_gz_miss {N : NN} {k j : Nat} {w : Int32} (h : j < 21) (c : ¬ (0 ≤ p_tried N k (24 - j) ∧ p_tried N k (24 - j) ≤ 99)) : m_gz N k (21 - j) w = m_gz N k (21 - (j + 1)) (m_tw N k (24 - j) w) := by
  rw [show 21 - j = (21 - (j + 1)) + 1 by omega]
  conv => lhs; unfold m_gz
  rw [show 21 - (j + 1) + 4 = 24 - j by omega, if_neg c]
theorem p_sg_safe (N : NN) (k : Nat) : ∀ q, q ≤ 21 → p_sg N k q = if N 9 k = -1 then -1 else p_sf N k q := by
  intro q
  induction q with
  | zero => intro _; unfold p_sg p_sf; split <;> rfl
  | succ q ih =>
    intro hq
    unfold p_sg p_sf
    rw [ih (by omega)]
    unfold p_tried
    by_cases h : N 9 k = -1
    · simp only [if_pos h]
      rw [if_neg (by decide)]
    · simp only [if_neg h]
      by_cases h2 : p_held N k (q + 4) = p_S (q + 4)
      · rw [if_pos ((p_out_in (by omega)).mpr h2), if_pos h2]
      · rw [if_neg (fun z => h2 ((p_out_in (by omega)).mp z)), if_neg h2]
theorem p_sg_all (N : NN) (k : Nat) : p_sg N k 21 = p_safeG N k := by
  rw [p_sg_safe N k 21 (by omega)]
  rfl
theorem p_gr_ge {j : Nat} (hj : j ≤ 21) (c : nI (24 - j) ≤ 3) : j = 21 := by
  have := (nI_leI (a := 24 - j) (b := 3) (by omega) (by omega)).mp c
  omega
theorem p_gr_lt {j : Nat} (hj : j ≤ 21) (c : ¬ nI (24 - j) ≤ 3) : j < 21 := by
  rcases Nat.lt_or_ge j 21 with h | h
  · exact h
  · exact absurd ((nI_leI (a := 24 - j) (b := 3) (by omega) (by omega)).mpr (by omega)) c
def m_cl (N : NN) (n : Nat) (v : Nat → Int32) (w j : Nat) : Int32 := if w = 6 then p_lay N (nI 2) (-1) n j else v (11 + j)
theorem m_cl_ne {N : NN} {n : Nat} (v : Nat → Int32) {w : Nat} (h : w ≠ 6) : us (us (us v 11 (m_cl N n v w 0)) 12 (m_cl N n v w 1)) 13 (m_cl N n v w 2) = v := by
  simp only [m_cl, if_neg h]
  funext q
  simp only [us_at]
  split
  · subst_vars; rfl
  · split
    · subst_vars; rfl
    · split
      · subst_vars; rfl
      · rfl
theorem p_ch_nI {N : NN} {t n : Nat} : ∀ {k}, ¬ p_ch N t n k = -1 → ∃ j, j < k ∧ p_ch N t n k = nI j := by
  intro k
  induction k with
  | zero => intro h; exact absurd rfl h
  | succ k ih =>
    intro h
    unfold p_ch at h ⊢
    split at h
    · rename_i h1
      rw [if_pos h1]
      exact ⟨k, by omega, rfl⟩
    · rename_i h1
      rw [if_neg h1]
      obtain ⟨j, hj, e⟩ := ih h
      exact ⟨j, by omega, e⟩
theorem up2_swap (N : NN) (i j i' j' : Nat) (x y : Int32) (h : ¬ (i = i' ∧ j = j')) : up2 (up2 N i j x) i' j' y = up2 (up2 N i' j' y) i j x := by
  funext q d
  simp only [up2_at]
  by_cases h1 : q = i' ∧ d = j'
  · by_cases h2 : q = i ∧ d = j
    · exact absurd ⟨h2.1.symm.trans h1.1, h2.2.symm.trans h1.2⟩ h
    · rw [if_pos h1, if_neg h2, if_pos h1]
  · by_cases h2 : q = i ∧ d = j
    · rw [if_neg h1, if_pos h2, if_pos h2]
    · rw [if_neg h1, if_neg h2, if_neg h2, if_neg h1]
def m_kc (c : Nat) : Nat := if c = 6 then 6 else c + 1
def unflat (f : Nat → Int32) : NN := fun i j => if i = 0 then f j else if i = 1 then f (3 + j) else if i = 2 then f (9 + j) else f (12 + 8 * j + (i - 3))
theorem lay_no {N : NN} {t mo : Int32} {k : Nat} (h : ¬ ((N 9 k = t ∨ nI k = mo) ∧ p_reason N k = 0)) : p_lay N t mo (k + 1) = p_lay N t mo k := by
  conv => lhs; unfold p_lay
  rw [if_neg h]
theorem lay_fit {N : NN} {t mo : Int32} {k : Nat} (h : (N 9 k = t ∨ nI k = mo) ∧ p_reason N k = 0) (hf : p_lay N t mo k 3 = -1 ∨ p_lay N t mo k 3 = N 5 k) : p_lay N t mo (k + 1) = us (us (us (p_lay N t mo k) 0 (p_lay N t mo k 0 + N 4 k)) 2 (p_msk (p_lay N t mo k 2) (nI k))) 3 (N 5 k) := by
  conv => lhs; unfold p_lay
  rw [if_pos h]
  unfold p_join
  rw [if_pos hf]
theorem lay_full {N : NN} {t mo : Int32} {k : Nat} (h : (N 9 k = t ∨ nI k = mo) ∧ p_reason N k = 0) (hf : ¬ (p_lay N t mo k 3 = -1 ∨ p_lay N t mo k 3 = N 5 k)) (ha : N 0 1 ≤ p_lay N t mo k 1) : p_lay N t mo (k + 1) = p_lay N t mo k := by
  conv => lhs; unfold p_lay
  rw [if_pos h]
  unfold p_join
  rw [if_neg hf, if_pos ha]
theorem lay_ad {N : NN} {t mo : Int32} {k : Nat} (h : (N 9 k = t ∨ nI k = mo) ∧ p_reason N k = 0) (hf : ¬ (p_lay N t mo k 3 = -1 ∨ p_lay N t mo k 3 = N 5 k)) (ha : ¬ N 0 1 ≤ p_lay N t mo k 1) : p_lay N t mo (k + 1) = us (us (us (us (p_lay N t mo k) 0 (p_lay N t mo k 0 + N 4 k)) 1 (p_lay N t mo k 1 + 1)) 2 (p_msk (p_lay N t mo k 2) (nI k))) 3 (N 5 k) := by
  conv => lhs; unfold p_lay
  rw [if_pos h]
  unfold p_join
  rw [if_neg hf, if_neg ha]
theorem p_tr3 (N : NN) (n : Nat) : p_truck N n 0 6 + p_truck N n 1 6 + p_truck N n 2 6 = p_wtr N n 3 := by
  have b0 : ∀ t, p_truck N n t 6 = if N 2 t ≤ p_lay N (nI t) (-1) n 0 then 1 else 0 := by
    intro t
    show bI (decide _) = _
    by_cases h : N 2 t ≤ p_lay N (nI t) (-1) n 0
    · rw [if_pos h, bI_t h]
    · rw [if_neg h, bI_f h]
  rw [b0, b0, b0]
  simp only [p_wtr]
  by_cases h0 : N 2 0 ≤ p_lay N (nI 0) (-1) n 0 <;> by_cases h1 : N 2 1 ≤ p_lay N (nI 1) (-1) n 0 <;> by_cases h2 : N 2 2 ≤ p_lay N (nI 2) (-1) n 0 <;> simp only [h0, h1, h2, if_true, if_false] <;> rfl
def m_ud (f g : Nat → Int32) (k : Nat) : Nat → Int32 := fun q => if q < k then g q else f q
theorem m_ud_0 (f g : Nat → Int32) : f = m_ud f g 0 := by funext q; simp [m_ud]
theorem m_ud_s (f g : Nat → Int32) (k : Nat) : upd (m_ud f g k) k (g k) = m_ud f g (k + 1) := by
  funext q
  simp only [upd, m_ud]
  by_cases h : q = k
  · subst h; rw [if_pos rfl, if_pos (by omega)]
  · rw [if_neg h]
    by_cases h2 : q < k
    · rw [if_pos h2, if_pos (by omega)]
    · rw [if_neg h2, if_neg (by omega)]
theorem p_wtd_row {N : NN} {n i : Nat} (h : i ≠ 7) : p_wtd N n i = N i := by
  unfold p_wtd
  split
  · exact p_wt_row N h n
  · rfl
theorem p_wt_stay {M : NN} {k : Nat} (h : ¬ ((0 ≤ p_wt M k 9 k ∧ p_wt M k 9 k ≤ 2) ∧ p_reason (p_wt M k) k = 0)) : p_wt M (k + 1) = p_wt M k := by
  conv => lhs; unfold p_wt
  rw [if_neg h]
theorem p_wt_go {M : NN} {k : Nat} (h : (0 ≤ p_wt M k 9 k ∧ p_wt M k 9 k ≤ 2) ∧ p_reason (p_wt M k) k = 0) : p_wt M (k + 1) = up2 (p_wt M k) 7 k (mn 99 (p_wt M k 7 k + 1)) := by
  conv => lhs; unfold p_wt
  rw [if_pos h]
theorem mn99_lt {w : Int32} (h0 : 0 ≤ w) (h1 : w ≤ 99) (c : w < 99) : w + 1 = mn 99 (w + 1) := by
  have := p_worn_lt h0 h1 (j := 0) c
  exact this
theorem mn99_ge {w : Int32} (h0 : 0 ≤ w) (h1 : w ≤ 99) (c : ¬ w < 99) : w = mn 99 (w + 1) := by
  have e : w = 99 := Int32.le_antisymm h1 (Int32.not_lt.mp c)
  rw [e]
  decide
theorem ch_end1 {N : NN} {t n : Nat} (h : n = 0 ∨ ¬ N 2 t ≤ p_lay N (nI t) (-1) n 0) : p_ch N t n n = p_help N t n := by
  unfold p_help
  by_cases hw : N 2 t ≤ p_lay N (nI t) (-1) n 0
  · rw [if_pos hw]
    rcases h with h | h
    · subst h; rfl
    · exact absurd hw h
  · rw [if_neg hw]
theorem ch_end2 {N : NN} {t n k : Nat} (hw : N 2 t ≤ p_lay N (nI t) (-1) n 0) (h : k = 0) : p_ch N t n k = p_help N t n := by
  subst h
  unfold p_help
  rw [if_pos hw]
  rfl
theorem ch_v1 {N : NN} {t n : Nat} (h : n = 0 ∨ ¬ N 2 t ≤ p_lay N (nI t) (-1) n 0) : p_chv N t n n = p_helpv N t n := by
  unfold p_helpv
  by_cases hw : N 2 t ≤ p_lay N (nI t) (-1) n 0
  · rw [if_pos hw]
    rcases h with h | h
    · subst h; rfl
    · exact absurd hw h
  · rw [if_neg hw]
theorem ch_v2 {N : NN} {t n k : Nat} (hw : N 2 t ≤ p_lay N (nI t) (-1) n 0) (h : k = 0) : p_chv N t n k = p_helpv N t n := by
  subst h
  unfold p_helpv
  rw [if_pos hw]
  rfl
theorem p_price_up {N : NN} {t n k j : Nat} (h : p_ch N t n k = nI j) (hj : j < 100) : p_price N (p_ch N t n k).toNatClampNeg = p_price N j := by
  rw [h, nI_clamp (by omega)]
theorem ch_yes {N : NN} {t n k : Nat} (h1 : (N 9 k = 3 ∧ p_reason N k = 0) ∧ N 2 t ≤ p_lay N (nI t) (nI k) n 0) (h2 : p_ch N t n k = -1 ∨ p_price N k < p_price N (p_ch N t n k).toNatClampNeg) : p_ch N t n (k + 1) = nI k := by
  conv => lhs; unfold p_ch
  rw [if_pos ⟨h1, h2⟩]
theorem ch_no {N : NN} {t n k : Nat} (h : ¬ (((N 9 k = 3 ∧ p_reason N k = 0) ∧ N 2 t ≤ p_lay N (nI t) (nI k) n 0) ∧ (p_ch N t n k = -1 ∨ p_price N k < p_price N (p_ch N t n k).toNatClampNeg))) : p_ch N t n (k + 1) = p_ch N t n k := by
  conv => lhs; unfold p_ch
  rw [if_neg h]
theorem mn_le {m : Int32} (h : m ≤ 9999) : mn 9999 m = m := by
  unfold mn
  by_cases h2 : m < 9999
  · rw [if_pos h2]
  · rw [if_neg h2]
    exact Int32.le_antisymm (Int32.not_lt.mp h2) h
theorem mn_gt {m : Int32} (h : ¬ m ≤ 9999) : mn 9999 m = 9999 := by
  unfold mn
  rw [if_neg (fun q => h (Int32.le_of_lt q))]
theorem wtd_e1 {M : NN} {n : Nat} (h : n = 0 ∨ p_rem (M 1 0) 10 = 0) : p_wtd M n = p_wt M n := by
  unfold p_wtd
  by_cases hr : p_rem (M 1 0) 10 = 0
  · rw [if_pos hr]
  · rw [if_neg hr]
    rcases h with h | h
    · subst h; rfl
    · exact absurd h hr
theorem wtd_e2 {M : NN} {n k : Nat} (h : ¬ p_rem (M 1 0) 10 = 0) (hk : k = 0) : p_wtd M n = p_wt M k := by
  subst hk
  unfold p_wtd
  rw [if_neg h]
  rfl
