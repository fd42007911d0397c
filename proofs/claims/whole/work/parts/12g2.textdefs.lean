/-! the reference's text: what its hand reads -/
theorem lt55 : ((5 : Int32) < 5) = False := eq_false (by decide)
def m_at (T : Nat → Int32) (z a : Nat) (lo hi : Int32) : Bool := decide (a < z ∧ (lo ≤ T a ∧ T a ≤ hi))
theorem m_at_no {T : Nat → Int32} {z a : Nat} {lo hi : Int32} (h : ¬ a < z) : m_at T z a lo hi = false := decide_eq_false (fun q => h q.1)
theorem m_at_yes {T : Nat → Int32} {z a : Nat} {lo hi : Int32} (h : a < z) (g : lo ≤ T a ∧ T a ≤ hi) : m_at T z a lo hi = true := decide_eq_true ⟨h, g⟩
theorem m_at_not {T : Nat → Int32} {z a : Nat} {lo hi : Int32} (g : ¬ (lo ≤ T a ∧ T a ≤ hi)) : m_at T z a lo hi = false := decide_eq_false (fun q => g q.2)
theorem m_at_lt {T : Nat → Int32} {z a : Nat} {lo hi : Int32} (h : m_at T z a lo hi = true) : a < z := (of_decide_eq_true h).1
/-- a length from a on: read or not, where it stops, what it is -/
def m_lk (T : Nat → Int32) (z a : Nat) : Bool := if m_at T z a 49 57 = true then (if T a - 48 < 5 then m_at T z (a + 1) 48 57 else true) else false
def m_la (T : Nat → Int32) (z a : Nat) : Nat := if m_at T z a 49 57 = true then (if T a - 48 < 5 then (if m_at T z (a + 1) 48 57 = true then a + 1 + 1 else a + 1) else if T a - 48 = 5 then (if m_at T z (a + 1) 48 48 = true then a + 1 + 1 else a + 1) else a + 1) else a
def m_lv (T : Nat → Int32) (z a : Nat) : Int32 := if T a - 48 < 5 then 10 * (T a - 48) + T (a + 1) - 48 else if T a - 48 = 5 then (if m_at T z (a + 1) 48 48 = true then 10 * (T a - 48) + T (a + 1) - 48 else T a - 48) else T a - 48
def m_lU (T : Nat → Int32) (z a k : Nat) (U : Nat → Int32) : Nat → Int32 := if m_lk T z a = true then upd U (3 * k + 1) (m_lv T z a) else U
def m_f7 (b : Bool) (a z : Nat) (w : Int32) : Int32 := if b = true then w else bI (decide (a < z))
theorem m_la_le (T : Nat → Int32) {z a : Nat} (h : a ≤ z) : m_la T z a ≤ z := by
  unfold m_la
  repeat' split
  all_goals first | omega | (rename_i h1 h2 h3; have := m_at_lt h3; omega) | (rename_i h1 h2 h3 h4; have := m_at_lt h4; omega) | (have := m_at_lt (by assumption); omega)
theorem m_la_ge (T : Nat → Int32) (z a : Nat) : a ≤ m_la T z a := by
  unfold m_la
  repeat' split
  all_goals omega
/-- a part from a on -/
def m_ch (T : Nat → Int32) (z a : Nat) : Int32 := if a < z then T a else 0
def m_ks (x : Int32) : Int32 := if x = 110 then 0 else if x = 114 then 1 else 2
def m_kk (x : Int32) : Bool := decide (x = 110 ∨ x = 114 ∨ x = 108)
def m_pk (T : Nat → Int32) (z a : Nat) : Bool := if m_kk (m_ch T z a) = true then (if m_lk T z (a + 1) = true then m_at T z (m_la T z (a + 1)) 97 99 else false) else false
def m_pa (T : Nat → Int32) (z a : Nat) : Nat := if m_kk (m_ch T z a) = true then (if m_lk T z (a + 1) = true then (if m_at T z (m_la T z (a + 1)) 97 99 = true then m_la T z (a + 1) + 1 else m_la T z (a + 1)) else m_la T z (a + 1)) else a
def m_pU (T : Nat → Int32) (z a k : Nat) (U : Nat → Int32) : Nat → Int32 := if m_kk (m_ch T z a) = true then (if m_pk T z a = true then upd (m_lU T z (a + 1) k (upd U (3 * k) (m_ks (m_ch T z a)))) (3 * k + 2) (T (m_la T z (a + 1)) - 97) else m_lU T z (a + 1) k (upd U (3 * k) (m_ks (m_ch T z a)))) else upd U (3 * k) (m_ks (m_ch T z a))
theorem m_kk_lt {T : Nat → Int32} {z a : Nat} (h : m_kk (m_ch T z a) = true) : a < z := by
  by_cases c : a < z
  · exact c
  · unfold m_ch m_kk at h
    rw [if_neg c] at h
    exact absurd h (by decide)
theorem m_pa_le (T : Nat → Int32) {z a : Nat} (h : a ≤ z) : m_pa T z a ≤ z := by
  unfold m_pa
  split
  · rename_i h1
    have h2 := m_kk_lt h1
    have h3 := m_la_le T (z := z) (a := a + 1) (by omega)
    split
    · split
      · rename_i h5
        have := m_at_lt h5
        omega
      · exact h3
    · exact h3
  · exact h
theorem m_pa_ok {T : Nat → Int32} {z a : Nat} (h : m_pk T z a = true) : a + 3 ≤ m_pa T z a := by
  unfold m_pk at h
  split at h
  · rename_i h1
    split at h
    · rename_i h2
      unfold m_pa
      rw [if_pos h1, if_pos h2, if_pos h]
      have h3 : a + 1 + 1 ≤ m_la T z (a + 1) := by
        unfold m_lk at h2
        split at h2
        · rename_i h4
          unfold m_la
          rw [if_pos h4]
          repeat' split
          all_goals omega
        · exact absurd h2 (by decide)
      omega
    · exact absurd h (by decide)
  · exact absurd h (by decide)
/-- the parts of a text: where they begin, whether one more is due, what is told -/
def m_tp (T : Nat → Int32) (z : Nat) : Nat → Nat
  | 0 => 0
  | k + 1 => if m_at T z (m_pa T z (m_tp T z k)) 44 44 = true then m_pa T z (m_tp T z k) + 1 else m_pa T z (m_tp T z k)
def m_mo (T : Nat → Int32) (z : Nat) : Nat → Bool
  | 0 => true
  | k + 1 => m_at T z (m_pa T z (m_tp T z k)) 44 44
def m_tU (T : Nat → Int32) (z : Nat) (U : Nat → Int32) : Nat → Nat → Int32
  | 0 => U
  | k + 1 => m_pU T z (m_tp T z k) k (m_tU T z U k)
def m_tx (T : Nat → Int32) (z : Nat) : Nat → Nat → Bool × Nat × Nat × Nat
  | 0, _ => (false, 0, 0, 0)
  | r + 1, k => if m_mo T z k = true then (if m_pk T z (m_tp T z k) = true then m_tx T z r (k + 1) else (false, m_pa T z (m_tp T z k), k, k + 1)) else (decide (m_tp T z k = z), m_tp T z k, k, k)
def m_T (T : Nat → Int32) (z : Nat) : Bool × Nat × Nat × Nat := m_tx T z 17 0
theorem m_tx_end {T : Nat → Int32} {z k : Nat} (hk : k ≤ 15) (h : m_mo T z k = false) : m_tx T z (17 - k) k = (decide (m_tp T z k = z), m_tp T z k, k, k) := by
  rw [show 17 - k = (16 - k) + 1 from by omega]
  exact if_neg (by rw [h]; decide)
theorem m_tx_fail {T : Nat → Int32} {z k : Nat} (hk : k ≤ 15) (h : m_mo T z k = true) (g : m_pk T z (m_tp T z k) = false) : m_tx T z (17 - k) k = (false, m_pa T z (m_tp T z k), k, k + 1) := by
  rw [show 17 - k = (16 - k) + 1 from by omega]
  exact (if_pos h).trans (if_neg (by rw [g]; decide))
theorem m_tx_step {T : Nat → Int32} {z k : Nat} (hk : k ≤ 15) (h : m_mo T z k = true) (g : m_pk T z (m_tp T z k) = true) : m_tx T z (17 - k) k = m_tx T z (17 - (k + 1)) (k + 1) := by
  rw [show 17 - k = (16 - k) + 1 from by omega, show 17 - (k + 1) = 16 - k from by omega]
  exact (if_pos h).trans (if_pos g)
theorem m_tp_c {T : Nat → Int32} {z k : Nat} (h : m_at T z (m_pa T z (m_tp T z k)) 44 44 = true) : m_tp T z (k + 1) = m_pa T z (m_tp T z k) + 1 := if_pos h
theorem m_tp_n {T : Nat → Int32} {z k : Nat} (h : m_at T z (m_pa T z (m_tp T z k)) 44 44 = false) : m_tp T z (k + 1) = m_pa T z (m_tp T z k) := if_neg (by rw [h]; decide)
def m_tI (T : Nat → Int32) (z k : Nat) : Prop := (m_mo T z k = true → 4 * k ≤ m_tp T z k) ∧ 4 * k ≤ m_tp T z k + 1 ∧ m_tp T z k ≤ z
theorem m_tI_0 (T : Nat → Int32) (z : Nat) : m_tI T z 0 := ⟨fun _ => Nat.zero_le _, Nat.zero_le _, Nat.zero_le _⟩
theorem m_tI_s {T : Nat → Int32} {z k : Nat} (h : m_tI T z k) (hm : m_mo T z k = true) (g : m_pk T z (m_tp T z k) = true) : m_tI T z (k + 1) := by
  have h1 := h.1 hm
  have h2 := m_pa_ok g
  have h3 := m_pa_le T h.2.2
  by_cases c : m_at T z (m_pa T z (m_tp T z k)) 44 44 = true
  · have h4 := m_tp_c c
    have h5 := m_at_lt c
    exact ⟨fun _ => by omega, by omega, by omega⟩
  · have h4 := m_tp_n (by cases hh : m_at T z (m_pa T z (m_tp T z k)) 44 44 <;> first | rfl | exact absurd hh c)
    exact ⟨fun q => absurd q c, by omega, by omega⟩
theorem m_tI_15 {T : Nat → Int32} {z k : Nat} (h : m_tI T z k) (hz : z ≤ 60) : k ≤ 15 := by
  have h1 := h.2.1
  have h2 := h.2.2
  omega
