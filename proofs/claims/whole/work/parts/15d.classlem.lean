/-! lemmas for the class's own methods -/
theorem nI_rg {lo hi w : Nat} (h0 : lo ≤ w) (h1 : w ≤ hi) (hh : hi < 2 ^ 31) : nI lo ≤ nI w ∧ nI w ≤ nI hi := ⟨(nI_leI (by omega) (by omega)).mpr h0, (nI_leI (by omega) hh).mpr h1⟩
theorem is_hose {N : NN} {n k : Nat} (hn : N 1 2 = nI n) (hn14 : n ≤ 14) (h : k < n) : 0 ≤ nI k ∧ nI k ≤ N 1 2 - 1 := by
  rw [hn]
  have e : nI n - 1 = nI (n - 1) := pk_sub (a := n) (b := 1) (by omega)
  rw [e]
  exact ⟨nI_pos' (by omega), (nI_leI (by omega) (by omega)).mpr (by omega)⟩
/-- the line behind a count, behind a look at a truck -/
def c_v (N : NN) (n : Nat) (v : Nat → Int32) (w : Nat) : Nat → Int32 := if w = 6 then p_wtv N n v 3 else v
def e_v1 (N : NN) (n : Nat) (v : Nat → Int32) : Nat → Nat → Int32
  | 0 => v
  | w + 1 => c_v N n (e_v1 N n v w) w
def e_v3i (N : NN) (n t : Nat) (v : Nat → Int32) : Nat → Nat → Int32
  | 0 => v
  | _ + 1 => p_lay N (nI t) (-1) n
def e_v3 (N : NN) (n : Nat) (v : Nat → Int32) : Nat → Nat → Int32
  | 0 => v
  | t + 1 => p_helpv N t n
/-! what is bought behind i characters, part by part -/
def b_b (T : Nat → Int32) (N : NN) (i : Nat) : Int32 := (p_bp T N i).2.1
def b_k (T : Nat → Int32) (N : NN) (i : Nat) : Int32 := (p_bp T N i).2.2.1
def b_l (T : Nat → Int32) (N : NN) (i : Nat) : Int32 := (p_bp T N i).2.2.2.1
def b_N (T : Nat → Int32) (N : NN) (i : Nat) : NN := (p_bp T N i).2.2.2.2
theorem bp_1 {T : Nat → Int32} {N : NN} {i : Nat} (h : (p_bp T N i).1 = false) (hk : ¬ p_kd (T i) = -1) : p_bp T N (i + 1) = (false, b_b T N i, p_kd (T i), 0, b_N T N i) := by
  unfold b_b b_N
  simp only [p_bp]
  rcases hx : p_bp T N i with ⟨st, b, k, len, M⟩
  rw [hx] at h
  have h' : st = false := h
  subst h'
  simp [hk]
theorem bp_2 {T : Nat → Int32} {N : NN} {i : Nat} (h : (p_bp T N i).1 = false) (hk : p_kd (T i) = -1) (hd : 48 ≤ T i ∧ T i ≤ 57) : p_bp T N (i + 1) = (false, b_b T N i, b_k T N i, 10 * b_l T N i + T i - 48, b_N T N i) := by
  unfold b_b b_k b_l b_N
  simp only [p_bp]
  rcases hx : p_bp T N i with ⟨st, b, k, len, M⟩
  rw [hx] at h
  have h' : st = false := h
  subst h'
  simp [hk, hd]
theorem bp_3 {T : Nat → Int32} {N : NN} {i : Nat} (h : (p_bp T N i).1 = false) (hk : p_kd (T i) = -1) (hd : ¬ (48 ≤ T i ∧ T i ≤ 57)) (hc : ¬ p_cp (T i) = -1) (hb : p_can (b_N T N i) (b_k T N i) (b_l T N i) = true) : p_bp T N (i + 1) = (false, b_b T N i + 1, b_k T N i, b_l T N i, p_ad (b_N T N i) (b_k T N i) (b_l T N i) (p_cp (T i)) 3) := by
  unfold b_b b_k b_l b_N at *
  simp only [p_bp]
  rcases hx : p_bp T N i with ⟨st, b, k, len, M⟩
  rw [hx] at h hb
  have h' : st = false := h
  subst h'
  have hb' : p_can M k len = true := hb
  simp [hk, hd, hc, hb']
theorem bp_4 {T : Nat → Int32} {N : NN} {i : Nat} (h : (p_bp T N i).1 = false) (hk : p_kd (T i) = -1) (hd : ¬ (48 ≤ T i ∧ T i ≤ 57)) (hc : p_cp (T i) = -1) : p_bp T N (i + 1) = (false, b_b T N i, b_k T N i, b_l T N i, b_N T N i) := by
  unfold b_b b_k b_l b_N
  simp only [p_bp]
  rcases hx : p_bp T N i with ⟨st, b, k, len, M⟩
  rw [hx] at h
  have h' : st = false := h
  subst h'
  simp [hk, hd, hc]
theorem bp_5 {T : Nat → Int32} {N : NN} {i : Nat} (h : (p_bp T N i).1 = false) (hk : p_kd (T i) = -1) (hd : ¬ (48 ≤ T i ∧ T i ≤ 57)) (hc : ¬ p_cp (T i) = -1) (hb : p_can (b_N T N i) (b_k T N i) (b_l T N i) = false) : p_bp T N (i + 1) = (true, b_b T N i, b_k T N i, b_l T N i, b_N T N i) := by
  unfold b_b b_k b_l b_N at *
  simp only [p_bp]
  rcases hx : p_bp T N i with ⟨st, b, k, len, M⟩
  rw [hx] at h hb
  have h' : st = false := h
  subst h'
  have hb' : p_can M k len = false := hb
  simp [hk, hd, hc, hb']
theorem bp_stop {T : Nat → Int32} {N : NN} {i : Nat} (h : (p_bp T N i).1 = true) : ∀ j, i ≤ j → p_bp T N j = p_bp T N i := by
  intro j
  induction j with
  | zero => intro hj; obtain rfl : i = 0 := by omega
            rfl
  | succ j ih =>
    intro hj
    rcases Nat.lt_or_ge j i with q | q
    · obtain rfl : i = j + 1 := by omega
      rfl
    · have e := ih q
      simp only [p_bp]
      rcases hx : p_bp T N i with ⟨st, b, k, len, M⟩
      rw [hx] at h e
      have h' : st = true := h
      subst h'
      rw [e]
theorem p_ad_n {M : NN} {m : Nat} (hm : M 1 2 = nI m) (h : m ≤ 14) (kd ln cp pl : Int32) : p_ad M kd ln cp pl = p_add M m kd ln cp pl := by
  unfold p_ad
  rw [hm, nI_clamp (by omega)]
theorem p_add_12 (N : NN) (n : Nat) (k len cp pl : Int32) : p_add N n k len cp pl 1 2 = N 1 2 + 1 := by
  unfold p_add
  simp only [up2_at]
  simp
/-- the hoses stay at most 14, the day as it was -/
theorem bp_cnt (T : Nat → Int32) {N : NN} {n : Nat} (hn : N 1 2 = nI n) (hn14 : n ≤ 14) : ∀ i, ∃ m : Nat, b_N T N i 1 2 = nI m ∧ m ≤ 14 := by
  intro i
  induction i with
  | zero => exact ⟨n, hn, hn14⟩
  | succ i ih =>
    obtain ⟨m, hm, hm14⟩ := ih
    by_cases hs : (p_bp T N i).1 = true
    · refine ⟨m, ?_, hm14⟩
      unfold b_N at hm ⊢
      rw [bp_stop hs (i + 1) (by omega)]
      exact hm
    · have hs : (p_bp T N i).1 = false := by simpa using hs
      by_cases hk : p_kd (T i) = -1
      · by_cases hd : 48 ≤ T i ∧ T i ≤ 57
        · refine ⟨m, ?_, hm14⟩
          have e := bp_2 hs hk hd
          unfold b_N
          rw [e]
          exact hm
        · by_cases hc : p_cp (T i) = -1
          · refine ⟨m, ?_, hm14⟩
            have e := bp_4 hs hk hd hc
            unfold b_N
            rw [e]
            exact hm
          · cases hb : p_can (b_N T N i) (b_k T N i) (b_l T N i) with
            | false =>
              refine ⟨m, ?_, hm14⟩
              have e := bp_5 hs hk hd hc hb
              unfold b_N
              rw [e]
              exact hm
            | true =>
              refine ⟨m + 1, ?_, p_can_lt hm hm14 hb⟩
              have e := bp_3 hs hk hd hc hb
              show (p_bp T N (i + 1)).2.2.2.2 1 2 = _
              rw [e]
              show p_ad (b_N T N i) (b_k T N i) (b_l T N i) (p_cp (T i)) 3 1 2 = _
              rw [p_ad_n hm hm14, p_add_12, hm, nI_1]
      · refine ⟨m, ?_, hm14⟩
        have e := bp_1 hs hk
        unfold b_N
        rw [e]
        exact hm
theorem hs_back {N : NN} {k : Nat} (h : ¬ N 9 k = 4 → N 10 k = -1) : N 10 k = m_hose N k 8 := by
  show _ = if N 9 k = 4 then N 10 k else -1
  by_cases h4 : N 9 k = 4
  · rw [if_pos h4]
  · rw [if_neg h4, h h4]
