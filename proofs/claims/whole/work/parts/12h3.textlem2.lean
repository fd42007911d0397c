theorem pU_no {T U : Nat → Int32} {z a k q : Nat} (h : q < 3 * k) : m_pU T z a k U q = U q := by
  have e0 : ¬ q = 3 * k := by omega
  have e1 : ¬ q = 3 * k + 1 := by omega
  have e2 : ¬ q = 3 * k + 2 := by omega
  unfold m_pU m_lU
  by_cases h1 : m_kk (m_ch T z a) = true <;> by_cases h2 : m_pk T z a = true <;> by_cases h3 : m_lk T z (a + 1) = true <;> simp [h1, h2, h3, upd, e0, e1, e2]
theorem tU_keep {T U : Nat → Int32} {z k q : Nat} (h : q < 3 * k) : ∀ d, m_tU T z U (k + d) q = m_tU T z U k q := by
  intro d
  induction d with
  | zero => rfl
  | succ d ih => exact (pU_no (k := k + d) (by omega)).trans ih
theorem pU_0 {T U : Nat → Int32} {z a k : Nat} : m_pU T z a k U (3 * k) = m_ks (m_ch T z a) := by
  have e1 : ¬ 3 * k = 3 * k + 1 := by omega
  have e2 : ¬ 3 * k = 3 * k + 2 := by omega
  unfold m_pU m_lU
  by_cases h1 : m_kk (m_ch T z a) = true <;> by_cases h2 : m_pk T z a = true <;> by_cases h3 : m_lk T z (a + 1) = true <;> simp [h1, h2, h3, upd, e1, e2]
theorem pk_parts {T : Nat → Int32} {z a : Nat} (h : m_pk T z a = true) : m_kk (T a) = true ∧ a < z ∧ m_lk T z (a + 1) = true ∧ m_at T z (m_la T z (a + 1)) 97 99 = true ∧ m_ch T z a = T a := by
  unfold m_pk at h
  split at h
  · rename_i h1
    split at h
    · rename_i h2
      have hz := m_kk_lt h1
      have e : m_ch T z a = T a := if_pos hz
      rw [e] at h1
      exact ⟨h1, hz, h2, h, e⟩
    · exact absurd h (by decide)
  · exact absurd h (by decide)
theorem pU_1 {T U : Nat → Int32} {z a k : Nat} (h : m_pk T z a = true) : m_pU T z a k U (3 * k + 1) = m_lv T z (a + 1) := by
  obtain ⟨h1, hz, h2, h3, e⟩ := pk_parts h
  unfold m_pU m_lU
  rw [e, if_pos h1, if_pos h, if_pos h2]
  unfold upd
  rw [if_neg (by omega), if_pos rfl]
theorem pU_2 {T U : Nat → Int32} {z a k : Nat} (h : m_pk T z a = true) : m_pU T z a k U (3 * k + 2) = T (m_la T z (a + 1)) - 97 := by
  obtain ⟨h1, hz, h2, h3, e⟩ := pk_parts h
  unfold m_pU
  rw [e, if_pos h1, if_pos h]
  unfold upd
  rw [if_pos rfl]
theorem ks_kd {x : Int32} (h : m_kk x = true) : m_ks x = p_kd x ∧ kdOk (p_kd x) := by
  rcases of_decide_eq_true h with rfl | rfl | rfl
  · exact ⟨by decide, Or.inl (by decide)⟩
  · exact ⟨by decide, Or.inr (Or.inl (by decide))⟩
  · exact ⟨by decide, Or.inr (Or.inr (by decide))⟩
theorem dig_kd_q : ∀ q : Fin 108, p_kd (nI q.1) = -1 := by decide
theorem lo_kd {x : Int32} {lo hi : Nat} (hh : hi < 108) (h0 : nI lo ≤ x) (h1 : x ≤ nI hi) (hl : lo < 2 ^ 31) : p_kd x = -1 := by
  obtain ⟨q, _, hhi, rfl⟩ := p_isB (lo := lo) (hi := hi) hl (by omega) h0 h1
  exact dig_kd_q ⟨q, by omega⟩
theorem bp_s {T : Nat → Int32} {N : NN} {i : Nat} {b k len : Int32} {M : NN} (h : p_bp T N i = (false, b, k, len, M)) : p_bp T N (i + 1) = if ¬ p_kd (T i) = -1 then (false, b, p_kd (T i), 0, M) else if 48 ≤ T i ∧ T i ≤ 57 then (false, b, k, 10 * len + T i - 48, M) else if ¬ p_cp (T i) = -1 then (if p_can M k len = true then (false, b + 1, k, len, p_ad M k len (p_cp (T i)) 3) else (true, b, k, len, M)) else (false, b, k, len, M) := by
  show (match p_bp T N i with
    | (true, b, k, len, M) => (true, b, k, len, M)
    | (false, b, k, len, M) => _) = _
  rw [h]
theorem bp_t {T : Nat → Int32} {N : NN} {i : Nat} {r : Int32 × Int32 × Int32 × NN} (h : p_bp T N i = (true, r)) : ∀ d, p_bp T N (i + d) = (true, r) := by
  intro d
  induction d with
  | zero => exact h
  | succ d ih =>
    show (match p_bp T N (i + d) with
      | (true, b, k, len, M) => (true, b, k, len, M)
      | (false, b, k, len, M) => _) = _
    rw [ih]
theorem bp_dig {T : Nat → Int32} {N : NN} {i : Nat} {b k len : Int32} {M : NN} (h : p_bp T N i = (false, b, k, len, M)) (h0 : 48 ≤ T i) (h1 : T i ≤ 57) : p_bp T N (i + 1) = (false, b, k, 10 * len + T i - 48, M) := by
  rw [bp_s h, if_neg (fun q => q (lo_kd (lo := 48) (hi := 57) (by omega) h0 h1 (by omega))), if_pos ⟨h0, h1⟩]
theorem bp_len {T : Nat → Int32} {N : NN} {z a : Nat} {b k : Int32} {M : NN} (h : p_bp T N a = (false, b, k, 0, M)) (hl : m_lk T z a = true) : p_bp T N (m_la T z a) = (false, b, k, m_lv T z a, M) := by
  unfold m_lk at hl
  split at hl
  · rename_i h1
    have g := at_t h1
    have e1 := bp_dig h (Int32.le_trans (by decide) g.1) g.2
    rw [show (10 : Int32) * 0 + T a - 48 = T a - 48 by simp] at e1
    unfold m_la m_lv
    rw [if_pos h1]
    by_cases c : T a - 48 < 5
    · rw [if_pos c] at hl
      rw [if_pos c, if_pos c, if_pos hl]
      exact bp_dig e1 (at_t hl).1 (at_t hl).2
    · rw [if_neg c, if_neg c]
      by_cases c5 : T a - 48 = 5
      · rw [if_pos c5, if_pos c5]
        by_cases c0 : m_at T z (a + 1) 48 48 = true
        · rw [if_pos c0, if_pos c0]
          exact bp_dig e1 (at_t c0).1 (Int32.le_trans (at_t c0).2 (by decide))
        · rw [if_neg c0, if_neg c0]; exact e1
      · rw [if_neg c5, if_neg c5]; exact e1
  · exact absurd hl (by decide)
theorem bp_part {T : Nat → Int32} {N : NN} {z a : Nat} {b k0 l0 : Int32} {M : NN} (h : p_bp T N a = (false, b, k0, l0, M)) (hp : m_pk T z a = true) : p_bp T N (m_pa T z a) = if p_can M (p_kd (T a)) (m_lv T z (a + 1)) = true then (false, b + 1, p_kd (T a), m_lv T z (a + 1), p_ad M (p_kd (T a)) (m_lv T z (a + 1)) (T (m_la T z (a + 1)) - 97) 3) else (true, b, p_kd (T a), m_lv T z (a + 1), M) := by
  obtain ⟨h1, hz, h2, h3, e⟩ := pk_parts hp
  have e1 : p_bp T N (a + 1) = (false, b, p_kd (T a), 0, M) := (bp_s h).trans (if_pos (kk_yes h1))
  have e2 := bp_len e1 h2
  have g := at_t h3
  have n48 : ¬ (48 ≤ T (m_la T z (a + 1)) ∧ T (m_la T z (a + 1)) ≤ 57) := fun q => absurd (Int32.le_trans g.1 q.2) (by decide)
  unfold m_pa
  rw [e, if_pos h1, if_pos h2, if_pos h3, bp_s e2, if_neg (fun q => q (lo_kd (lo := 97) (hi := 99) (by omega) g.1 g.2 (by omega))), if_neg n48, if_pos (cp_yes g).2, (cp_yes g).1]
theorem bp_comma {T : Nat → Int32} {N : NN} {i : Nat} (h : T i = 44) (r : Bool × Int32 × Int32 × Int32 × NN) (hr : p_bp T N i = r) : p_bp T N (i + 1) = r := by
  obtain ⟨s, b, k, len, M⟩ := r
  cases s with
  | true => exact bp_t hr 1
  | false =>
    rw [bp_s hr, h]
    rfl
/-- one part bought, or none of the rest -/
theorem bp_next {T : Nat → Int32} {N : NN} {z k : Nat} {b k0 l0 : Int32} {M : NN} (h : p_bp T N (m_tp T z k) = (false, b, k0, l0, M)) (hp : m_pk T z (m_tp T z k) = true) : p_bp T N (m_tp T z (k + 1)) = if p_can M (p_kd (T (m_tp T z k))) (m_lv T z (m_tp T z k + 1)) = true then (false, b + 1, p_kd (T (m_tp T z k)), m_lv T z (m_tp T z k + 1), p_ad M (p_kd (T (m_tp T z k))) (m_lv T z (m_tp T z k + 1)) (T (m_la T z (m_tp T z k + 1)) - 97) 3) else (true, b, p_kd (T (m_tp T z k)), m_lv T z (m_tp T z k + 1), M) := by
  by_cases c : m_at T z (m_pa T z (m_tp T z k)) 44 44 = true
  · rw [m_tp_c c]
    exact bp_comma (eq44 (at_t c)) _ (bp_part h hp)
  · rw [m_tp_n (bf c)]
    exact bp_part h hp
def rc_all (T : Nat → Int32) (z : Nat) : Int32 := if p_au T z = 5 then 0 else 1
def m_bN (T : Nat → Int32) (z : Nat) (N : NN) (k : Nat) : NN := (p_bp T N (m_tp T z k)).2.2.2.2
def m_bI (T : Nat → Int32) (z : Nat) (N : NN) (n k : Nat) : Prop := (∃ k0 l0, p_bp T N (m_tp T z k) = (false, nI k, k0, l0, m_bN T z N k)) ∧ m_bN T z N k 1 2 = nI (n + k) ∧ n + k ≤ 14
theorem m_bI_0 {T : Nat → Int32} {z : Nat} {N : NN} {n : Nat} (hn : N 1 2 = nI n) (hn14 : n ≤ 14) : m_bI T z N n 0 := ⟨⟨0, 0, rfl⟩, hn, hn14⟩
theorem m_bN_s {T : Nat → Int32} {z : Nat} {N : NN} {n k : Nat} (h : m_bI T z N n k) (hp : m_pk T z (m_tp T z k) = true) (hc : p_can (m_bN T z N k) (p_kd (T (m_tp T z k))) (m_lv T z (m_tp T z k + 1)) = true) : m_bN T z N (k + 1) = p_add (m_bN T z N k) (n + k) (p_kd (T (m_tp T z k))) (m_lv T z (m_tp T z k + 1)) (T (m_la T z (m_tp T z k + 1)) - 97) 3 := by
  obtain ⟨⟨k0, l0, h1⟩, h2, h3⟩ := h
  have e := bp_next h1 hp
  rw [if_pos hc] at e
  show (p_bp T N (m_tp T z (k + 1))).2.2.2.2 = _
  rw [e]
  show p_add _ (m_bN T z N k 1 2).toNatClampNeg _ _ _ _ = _
  rw [h2, nI_clamp (by omega)]
theorem m_bI_s {T : Nat → Int32} {z : Nat} {N : NN} {n k : Nat} (h : m_bI T z N n k) (hp : m_pk T z (m_tp T z k) = true) (hc : p_can (m_bN T z N k) (p_kd (T (m_tp T z k))) (m_lv T z (m_tp T z k + 1)) = true) : m_bI T z N n (k + 1) := by
  have hs := m_bN_s h hp hc
  have h14 := p_can_lt h.2.1 h.2.2 hc
  obtain ⟨⟨k0, l0, h1⟩, h2, h3⟩ := h
  have e := bp_next h1 hp
  rw [if_pos hc] at e
  refine ⟨⟨p_kd (T (m_tp T z k)), m_lv T z (m_tp T z k + 1), ?_⟩, ?_, by omega⟩
  · show _ = (false, nI (k + 1), _, _, (p_bp T N (m_tp T z (k + 1))).2.2.2.2)
    rw [e, show nI k + 1 = nI (k + 1) from nI_1 k]
  · rw [hs]
    show m_bN T z N k 1 2 + 1 = nI (n + (k + 1))
    rw [h2]
    exact nI_1 (n + k)
theorem tp_le (T : Nat → Int32) (z : Nat) : ∀ k, m_tp T z k ≤ z := by
  intro k
  induction k with
  | zero => exact Nat.zero_le _
  | succ k ih =>
    have h := m_pa_le T ih
    by_cases c : m_at T z (m_pa T z (m_tp T z k)) 44 44 = true
    · rw [m_tp_c c]; exact m_at_lt c
    · rw [m_tp_n (bf c)]; exact h
theorem m_bE1 {T : Nat → Int32} {z : Nat} {N : NN} {n k : Nat} (h : m_bI T z N n k) (hz : m_tp T z k = z) : (p_bp T N z).2.1 = nI k ∧ (p_bp T N z).2.2.2.2 = m_bN T z N k := by
  obtain ⟨⟨k0, l0, h1⟩, h2, h3⟩ := h
  rw [hz] at h1
  rw [h1]
  exact ⟨rfl, rfl⟩
theorem m_bE2 {T : Nat → Int32} {z : Nat} {N : NN} {n k : Nat} (h : m_bI T z N n k) (hp : m_pk T z (m_tp T z k) = true) (hc : p_can (m_bN T z N k) (p_kd (T (m_tp T z k))) (m_lv T z (m_tp T z k + 1)) = false) : (p_bp T N z).2.1 = nI k ∧ (p_bp T N z).2.2.2.2 = m_bN T z N k := by
  obtain ⟨⟨k0, l0, h1⟩, h2, h3⟩ := h
  have e := bp_next h1 hp
  rw [if_neg (by rw [hc]; decide)] at e
  have e2 := bp_t e (z - m_tp T z (k + 1))
  rw [Nat.add_sub_cancel' (tp_le T z (k + 1))] at e2
  rw [e2]
  exact ⟨rfl, rfl⟩
theorem told_0 {T U : Nat → Int32} {z k K S : Nat} (hS : S = K) (hk : k < K) (hp : m_pk T z (m_tp T z k) = true) : m_tU T z U S (3 * k) = p_kd (T (m_tp T z k)) := by
  subst hS
  obtain ⟨d, rfl⟩ : ∃ d, S = (k + 1) + d := ⟨S - (k + 1), by omega⟩
  have := pk_parts hp
  rw [tU_keep (by omega), ← (ks_kd this.1).1, ← this.2.2.2.2]
  exact pU_0
theorem told_1 {T U : Nat → Int32} {z k K S : Nat} (hS : S = K) (hk : k < K) (hp : m_pk T z (m_tp T z k) = true) : m_tU T z U S (3 * k + 1) = m_lv T z (m_tp T z k + 1) := by
  subst hS
  obtain ⟨d, rfl⟩ : ∃ d, S = (k + 1) + d := ⟨S - (k + 1), by omega⟩
  rw [tU_keep (by omega)]
  exact pU_1 hp
theorem told_2 {T U : Nat → Int32} {z k K S : Nat} (hS : S = K) (hk : k < K) (hp : m_pk T z (m_tp T z k) = true) : m_tU T z U S (3 * k + 2) = T (m_la T z (m_tp T z k + 1)) - 97 := by
  subst hS
  obtain ⟨d, rfl⟩ : ∃ d, S = (k + 1) + d := ⟨S - (k + 1), by omega⟩
  rw [tU_keep (by omega)]
  exact pU_2 hp
