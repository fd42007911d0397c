theorem au_s {T : Nat → Int32} {i : Nat} {st : Int32} (h : p_au T i = st) (hne : ¬ st = -1) : p_au T (i + 1) = p_sb st (T i) := by
  rw [p_au_next (by rw [h]; exact hne), h]
theorem dg_q : ∀ q : Fin 58, 49 ≤ q.1 → (nI q.1 - 48 < 5 ∧ p_s1 (nI q.1) = 2) ∨ (¬ nI q.1 - 48 < 5 ∧ nI q.1 - 48 = 5 ∧ p_s1 (nI q.1) = 3) ∨ (¬ nI q.1 - 48 < 5 ∧ ¬ nI q.1 - 48 = 5 ∧ p_s1 (nI q.1) = 4) := by decide
theorem dg {x : Int32} (h0 : 49 ≤ x) (h1 : x ≤ 57) : (x - 48 < 5 ∧ p_s1 x = 2) ∨ (¬ x - 48 < 5 ∧ x - 48 = 5 ∧ p_s1 x = 3) ∨ (¬ x - 48 < 5 ∧ ¬ x - 48 = 5 ∧ p_s1 x = 4) := by
  obtain ⟨q, hlo, hhi, rfl⟩ := p_isB (lo := 49) (hi := 57) (by omega) (by omega) h0 h1
  exact dg_q ⟨q, by omega⟩ hlo
theorem dg0 {x : Int32} (h : ¬ (49 ≤ x ∧ x ≤ 57)) : p_s1 x = -1 := by
  unfold p_s1
  by_cases c : 48 ≤ x ∧ x ≤ 57
  · obtain ⟨q, hlo, hhi, rfl⟩ := p_isB (lo := 48) (hi := 57) (by omega) (by omega) c.1 c.2
    have : q = 48 := by
      apply Classical.byContradiction
      intro n
      exact h ⟨(nI_leI (a := 49) (b := q) (by omega) (by omega)).mpr (by omega), (nI_leI (a := q) (b := 57) (by omega) (by omega)).mpr (by omega)⟩
    subst this
    exact if_pos (Or.inr rfl)
  · exact if_pos (Or.inl c)
theorem cp_yes {x : Int32} (h : 97 ≤ x ∧ x ≤ 99) : p_cp x = x - 97 ∧ ¬ p_cp x = -1 := by
  have e : p_cp x = x - 97 := if_pos h
  refine ⟨e, ?_⟩
  obtain ⟨q, hlo, hhi, rfl⟩ := p_isB (lo := 97) (hi := 99) (by omega) (by omega) h.1 h.2
  have hd : ∀ q : Fin 100, 97 ≤ q.1 → ¬ nI q.1 - 97 = -1 := by decide
  rw [e]
  exact hd ⟨q, by omega⟩ hlo
theorem s4_yes {x : Int32} (h : 97 ≤ x ∧ x ≤ 99) : p_s4 x = 5 := if_neg (cp_yes h).2
theorem s4_no {x : Int32} (h : ¬ (97 ≤ x ∧ x ≤ 99)) : p_s4 x = -1 := if_pos (if_neg h)
theorem s4_48 : p_s4 48 = -1 := by decide
theorem kk_yes {x : Int32} (h : m_kk x = true) : ¬ p_kd x = -1 := by
  rcases of_decide_eq_true h with rfl | rfl | rfl <;> decide
theorem kk_no {x : Int32} (h : m_kk x = false) : p_kd x = -1 := by
  have h1 := of_decide_eq_false h
  unfold p_kd
  rw [if_neg (fun q => h1 (Or.inl q)), if_neg (fun q => h1 (Or.inr (Or.inl q))), if_neg (fun q => h1 (Or.inr (Or.inr q)))]
theorem at_f {T : Nat → Int32} {z a : Nat} {lo hi : Int32} (h : m_at T z a lo hi = false) (hz : a < z) : ¬ (lo ≤ T a ∧ T a ≤ hi) := fun q => of_decide_eq_false h ⟨hz, q⟩
theorem at_t {T : Nat → Int32} {z a : Nat} {lo hi : Int32} (h : m_at T z a lo hi = true) : lo ≤ T a ∧ T a ≤ hi := (of_decide_eq_true h).2
theorem eq48 {x : Int32} (h : 48 ≤ x ∧ x ≤ 48) : x = 48 := Int32.le_antisymm h.2 h.1
theorem eq44 {x : Int32} (h : 44 ≤ x ∧ x ≤ 44) : x = 44 := Int32.le_antisymm h.2 h.1
/-- where a hand stops -/
def stopsAt (T : Nat → Int32) (z b : Nat) : Prop := ¬ p_au T b = -1 ∧ ¬ p_au T b = 5 ∧ (b < z → p_au T (b + 1) = -1)
theorem len_y {T : Nat → Int32} {z a : Nat} (ha : p_au T a = 1) (h : m_lk T z a = true) : ¬ p_au T (m_la T z a) = -1 ∧ ¬ p_au T (m_la T z a) = 5 ∧ (m_la T z a < z → p_au T (m_la T z a + 1) = p_s4 (T (m_la T z a))) := by
  unfold m_lk at h
  split at h
  · rename_i h1
    have n1 := au_s ha (by decide)
    have n1' : p_au T (a + 1) = p_s1 (T a) := n1
    unfold m_la
    rw [if_pos h1]
    rcases dg (at_t h1).1 (at_t h1).2 with ⟨g1, g2⟩ | ⟨g1, g2, g3⟩ | ⟨g1, g2, g3⟩
    · rw [if_pos g1] at h ⊢
      rw [if_pos h]
      have e : p_au T (a + 1) = 2 := n1'.trans g2
      have e2 : p_au T (a + 1 + 1) = 4 := (au_s e (by decide)).trans (if_pos (at_t h))
      exact ⟨by rw [e2]; decide, by rw [e2]; decide, fun _ => au_s e2 (by decide)⟩
    · rw [if_neg g1, if_pos g2]
      have e : p_au T (a + 1) = 3 := n1'.trans g3
      by_cases c : m_at T z (a + 1) 48 48 = true
      · rw [if_pos c]
        have e2 : p_au T (a + 1 + 1) = 4 := (au_s e (by decide)).trans (if_pos (eq48 (at_t c)))
        exact ⟨by rw [e2]; decide, by rw [e2]; decide, fun _ => au_s e2 (by decide)⟩
      · rw [if_neg c]
        refine ⟨by rw [e]; decide, by rw [e]; decide, fun hz => (au_s e (by decide)).trans ?_⟩
        have hne : ¬ T (a + 1) = 48 := fun q => c (m_at_yes hz (by rw [q]; exact ⟨by decide, by decide⟩))
        exact if_neg hne
    · rw [if_neg g1, if_neg g2]
      have e : p_au T (a + 1) = 4 := n1'.trans g3
      exact ⟨by rw [e]; decide, by rw [e]; decide, fun _ => au_s e (by decide)⟩
  · exact absurd h (by decide)
theorem len_n {T : Nat → Int32} {z a : Nat} (ha : p_au T a = 1) (h : m_lk T z a = false) : stopsAt T z (m_la T z a) := by
  unfold m_lk at h
  split at h
  · rename_i h1
    have n1' : p_au T (a + 1) = p_s1 (T a) := au_s ha (by decide)
    unfold m_la
    rw [if_pos h1]
    rcases dg (at_t h1).1 (at_t h1).2 with ⟨g1, g2⟩ | ⟨g1, g2, g3⟩ | ⟨g1, g2, g3⟩
    · rw [if_pos g1] at h ⊢
      rw [if_neg (by rw [h]; decide)]
      have e : p_au T (a + 1) = 2 := n1'.trans g2
      exact ⟨by rw [e]; decide, by rw [e]; decide, fun hz => (au_s e (by decide)).trans (if_neg (at_f h hz))⟩
    · rw [if_neg g1] at h
      exact absurd h (by decide)
    · rw [if_neg g1] at h
      exact absurd h (by decide)
  · rename_i h1
    have h1' : m_at T z a 49 57 = false := by cases hh : m_at T z a 49 57 <;> first | rfl | exact absurd hh h1
    unfold m_la
    rw [if_neg h1]
    exact ⟨by rw [ha]; decide, by rw [ha]; decide, fun hz => (au_s ha (by decide)).trans (dg0 (at_f h1' hz))⟩
theorem bf {b : Bool} (h : ¬ b = true) : b = false := by cases b <;> first | rfl | exact absurd rfl h
theorem sb0_y {x : Int32} (h : m_kk x = true) : p_sb 0 x = 1 := (if_pos rfl).trans (if_neg (kk_yes h))
theorem sb0_n {x : Int32} (h : m_kk x = false) : p_sb 0 x = -1 := (if_pos rfl).trans (if_pos (kk_no h))
theorem part_y {T : Nat → Int32} {z a : Nat} (ha : p_au T a = 0) (h : m_pk T z a = true) : p_au T (m_pa T z a) = 5 := by
  unfold m_pk at h
  split at h
  · rename_i h1
    split at h
    · rename_i h2
      have hz := m_kk_lt h1
      have e1 : p_au T (a + 1) = 1 := (au_s ha (by decide)).trans (sb0_y (by rw [show m_ch T z a = T a from if_pos hz] at h1; exact h1))
      have e2 := (len_y e1 h2).2.2 (m_at_lt h)
      unfold m_pa
      rw [if_pos h1, if_pos h2, if_pos h, e2]
      exact s4_yes (at_t h)
    · exact absurd h (by decide)
  · exact absurd h (by decide)
theorem part_n {T : Nat → Int32} {z a : Nat} (ha : p_au T a = 0) (h : m_pk T z a = false) : stopsAt T z (m_pa T z a) := by
  unfold m_pk at h
  split at h
  · rename_i h1
    have hz := m_kk_lt h1
    have e1 : p_au T (a + 1) = 1 := (au_s ha (by decide)).trans (sb0_y (by rw [show m_ch T z a = T a from if_pos hz] at h1; exact h1))
    unfold m_pa
    rw [if_pos h1]
    split at h
    · rename_i h2
      rw [if_pos h2, if_neg (by rw [h]; decide)]
      have e2 := len_y e1 h2
      exact ⟨e2.1, e2.2.1, fun hb => (e2.2.2 hb).trans (s4_no (at_f h hb))⟩
    · rename_i h2
      rw [if_neg h2]
      exact len_n e1 (bf h2)
  · rename_i h1
    unfold m_pa
    rw [if_neg h1]
    refine ⟨by rw [ha]; decide, by rw [ha]; decide, fun hb => (au_s ha (by decide)).trans (sb0_n ?_)⟩
    have h2 := bf h1
    rw [show m_ch T z a = T a from if_pos hb] at h2
    exact h2
/-- the state at the beginning of a part, and behind the last -/
theorem tp_au {T : Nat → Int32} {z : Nat} : ∀ k, (∀ j, j < k → m_mo T z j = true ∧ m_pk T z (m_tp T z j) = true) → (m_mo T z k = true → p_au T (m_tp T z k) = 0) ∧ (m_mo T z k = false → p_au T (m_tp T z k) = 5 ∧ (m_tp T z k < z → p_au T (m_tp T z k + 1) = -1)) := by
  intro k
  induction k with
  | zero => intro _; exact ⟨fun _ => rfl, fun h => Bool.noConfusion h⟩
  | succ k ih =>
    intro h
    have h0 := (ih (fun j hj => h j (by omega))).1 (h k (by omega)).1
    have h5 := part_y h0 (h k (by omega)).2
    constructor
    · intro hm
      rw [m_tp_c hm]
      exact (au_s h5 (by decide)).trans (by rw [eq44 (at_t hm)]; decide)
    · intro hm
      rw [m_tp_n hm]
      refine ⟨h5, fun hb => (au_s h5 (by decide)).trans ?_⟩
      have := at_f hm hb
      show (if T (m_pa T z (m_tp T z k)) = 44 then (0 : Int32) else -1) = -1
      rw [if_neg (fun q => this (by rw [q]; exact ⟨by decide, by decide⟩))]
def tEnd (T : Nat → Int32) (z : Nat) (R : Bool × Nat × Nat × Nat) : Prop := R.2.1 ≤ z ∧ ¬ p_au T R.2.1 = -1 ∧ (R.2.1 < z → p_au T (R.2.1 + 1) = -1) ∧ (R.1 = true ↔ (R.2.1 = z ∧ p_au T R.2.1 = 5)) ∧ (R.1 = true → R.2.1 = m_tp T z R.2.2.1 ∧ R.2.2.2 = R.2.2.1 ∧ R.2.2.1 ≤ 15 ∧ m_mo T z R.2.2.1 = false ∧ ∀ j, j < R.2.2.1 → m_mo T z j = true ∧ m_pk T z (m_tp T z j) = true)
theorem tx_end {T : Nat → Int32} {z : Nat} (hz : z ≤ 60) : ∀ r k, m_tI T z k → k + r = 17 → (∀ j, j < k → m_mo T z j = true ∧ m_pk T z (m_tp T z j) = true) → tEnd T z (m_tx T z r k) := by
  intro r
  induction r with
  | zero => intro k hI hk _; have := m_tI_15 hI hz; omega
  | succ r ih =>
    intro k hI hk hA
    have h15 := m_tI_15 hI hz
    have hau := tp_au k hA
    have hr : r + 1 = 17 - k := by omega
    by_cases hm : m_mo T z k = true
    · by_cases hp : m_pk T z (m_tp T z k) = true
      · have : m_tx T z (r + 1) k = m_tx T z r (k + 1) := (if_pos hm).trans (if_pos hp)
        rw [this]
        refine ih (k + 1) (m_tI_s hI hm hp) (by omega) (fun j hj => ?_)
        by_cases c : j < k
        · exact hA j c
        · have : j = k := by omega
          subst this
          exact ⟨hm, hp⟩
      · rw [hr, m_tx_fail h15 hm (bf hp)]
        have hs := part_n (hau.1 hm) (bf hp)
        exact ⟨m_pa_le T hI.2.2, hs.1, hs.2.2, ⟨fun q => Bool.noConfusion q, fun q => absurd q.2 hs.2.1⟩, fun q => Bool.noConfusion q⟩
    · rw [hr, m_tx_end h15 (bf hm)]
      have hs := hau.2 (bf hm)
      exact ⟨hI.2.2, by rw [hs.1]; decide, hs.2, ⟨fun q => ⟨of_decide_eq_true q, hs.1⟩, fun q => decide_eq_true q.1⟩, fun _ => ⟨rfl, rfl, h15, bf hm, hA⟩⟩
theorem tT (T : Nat → Int32) {z : Nat} (hz : z ≤ 60) : tEnd T z (m_T T z) := tx_end hz 17 0 (m_tI_0 T z) rfl (fun j hj => absurd hj (Nat.not_lt_zero j))
theorem fe_at {T : Nat → Int32} {z b : Nat} (hb : b ≤ z) (h : ¬ p_au T b = -1) (hs : b < z → p_au T (b + 1) = -1) : ∀ i, i ≤ b → p_fe T (z - i) i = b := by
  intro i
  obtain ⟨d, hd⟩ : ∃ d, b - i = d := ⟨_, rfl⟩
  induction d generalizing i with
  | zero =>
    intro hi
    have : i = b := by omega
    subst this
    by_cases c : i < z
    · exact p_fe_stop c (hs c)
    · rw [show z - i = 0 by omega]; rfl
  | succ d ih =>
    intro hi
    have h1 : ¬ p_au T (i + 1) = -1 := fun q => h (p_au_stay q b (by omega))
    rw [p_fe_step (by omega) h1]
    exact ih (i + 1) (by omega) (by omega)
theorem tT_fe (T : Nat → Int32) {z : Nat} (hz : z ≤ 60) : p_fe T z 0 = (m_T T z).2.1 := by
  have h := tT T hz
  have := fe_at h.1 h.2.1 h.2.2.1 0 (Nat.zero_le _)
  rwa [Nat.sub_zero] at this
theorem tT_ok (T : Nat → Int32) {z : Nat} (hz : z ≤ 60) : (m_T T z).1 = decide (p_au T z = 5) := by
  have h := tT T hz
  have h4 := h.2.2.2.1
  by_cases c : p_au T z = 5
  · rw [decide_eq_true c]
    refine h4.mpr ?_
    have hz2 : (m_T T z).2.1 = z := by
      apply Classical.byContradiction
      intro n
      have := p_au_stay (h.2.2.1 (by have := h.1; omega)) z (by have := h.1; omega)
      rw [this] at c
      exact absurd c (by decide)
    exact ⟨hz2, by rw [hz2]; exact c⟩
  · rw [decide_eq_false c]
    cases hh : (m_T T z).1 with
    | false => rfl
    | true => have h5 := h4.mp hh; rw [h5.1] at h5; exact absurd h5.2 c
