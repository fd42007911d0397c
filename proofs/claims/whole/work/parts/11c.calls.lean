/-! what a call answers: its code (0: it returns), and what becomes of the numbers -/
def kx (x : Int32) : Nat := x.toNatClampNeg
theorem kx_nI {k : Nat} (h : k < 2 ^ 31) : kx (nI k) = k := nI_clamp h
def sN (rc : Int32) (N N' : NN) : NN := if rc = 0 then N' else N
def sP (rc : Int32) (P f : Nat → Int32) (kc : Nat) : Nat → Int32 := if rc = 0 then m_sv P f kc else P
def sK (rc : Int32) (kc : Nat) : Int32 := nI (if rc = 0 then m_kc kc else kc)
def sR (rc r : Int32) : Int32 := if rc = 0 then r else 0
def here (N : NN) (k : Nat) : Bool := decide (0 ≤ N 9 k ∧ N 9 k ≤ 3)
def rc_buy (N : NN) (kd ln cp : Int32) : Int32 := if ¬ ((0 ≤ kd ∧ kd ≤ 2) ∧ (5 ≤ ln ∧ ln ≤ 50) ∧ (0 ≤ cp ∧ cp ≤ 2)) then 1 else if p_can N kd ln = false then 2 else 0
def rc_renew (N : NN) (x : Int32) : Int32 := if ¬ (0 ≤ x ∧ x ≤ N 1 2 - 1) then 1 else if here N (kx x) = false ∨ p_can N (N 3 (kx x)) (N 4 (kx x)) = false then 2 else 0
def rc_put (N : NN) (x pl : Int32) : Int32 := if ¬ (0 ≤ x ∧ x ≤ N 1 2 - 1) then 1 else if ¬ (0 ≤ pl ∧ pl ≤ 3) then 2 else if here N (kx x) = false then 3 else 0
def rc_lend (N : NN) (x dd : Int32) : Int32 := if ¬ (0 ≤ x ∧ x ≤ N 1 2 - 1) then 1 else if ¬ (1 ≤ dd ∧ dd ≤ 99) then 2 else if ¬ p_reason N (kx x) = 0 then 3 else 0
def rc_test (N : NN) (x pr : Int32) : Int32 := if ¬ (0 ≤ x ∧ x ≤ N 1 2 - 1) then 1 else if ¬ (4 ≤ pr ∧ pr ≤ 24) then 2 else if here N (kx x) = false then 3 else 0
def rc_want (t ln : Int32) : Int32 := if ¬ (0 ≤ t ∧ t ≤ 2) then 1 else if ¬ (0 ≤ ln ∧ ln ≤ 200) then 2 else 0
def set_lo (si : Int32) : Int32 := if si = 0 then 4 else 0
def set_hi (si : Int32) : Int32 := if si = 0 then 24 else if si = 1 then 5 else 200
def rc_set (si x : Int32) : Int32 := if ¬ (0 ≤ si ∧ si ≤ 2) then 1 else if ¬ (set_lo si ≤ x ∧ x ≤ set_hi si) then 2 else 0
def rc_pass (dd : Int32) : Int32 := if ¬ (1 ≤ dd ∧ dd ≤ 100) then 1 else 0
def rc_app (z : Nat) (ch : Int32) : Int32 := if ¬ (33 ≤ ch ∧ ch ≤ 126) then 1 else if z = 60 then 2 else 0
def rc_hose (N : NN) (x w : Int32) : Int32 := if ¬ (0 ≤ x ∧ x ≤ N 1 2 - 1) then 1 else if ¬ (0 ≤ w ∧ w ≤ 9) then 2 else 0
def rc_truck (t w : Int32) : Int32 := if ¬ (0 ≤ t ∧ t ≤ 2) then 1 else if ¬ (0 ≤ w ∧ w ≤ 6) then 2 else 0
def rc_count (w : Int32) : Int32 := if ¬ (0 ≤ w ∧ w ≤ 10) then 1 else 0
def rc_set1 (si : Int32) : Int32 := if ¬ (0 ≤ si ∧ si ≤ 2) then 1 else 0
def rc_if (N : NN) (x pr : Int32) : Int32 := if ¬ (0 ≤ x ∧ x ≤ N 1 2 - 1) then 1 else if ¬ (4 ≤ pr ∧ pr ≤ 24) then 2 else 0
def rc_safe (N : NN) (x : Int32) : Int32 := if ¬ (0 ≤ x ∧ x ≤ N 1 2 - 1) then 1 else 0
theorem kdOk_of {x : Int32} (h0 : 0 ≤ x) (h1 : x ≤ 2) : kdOk x := by
  obtain ⟨k, hk, rfl⟩ := p_isT h0 h1
  rcases (show k = 0 ∨ k = 1 ∨ k = 2 by omega) with rfl | rfl | rfl
  · exact Or.inl rfl
  · exact Or.inr (Or.inl rfl)
  · exact Or.inr (Or.inr rfl)
theorem p_can_lt {N : NN} {n : Nat} {kd ln : Int32} (hn : N 1 2 = nI n) (hn14 : n ≤ 14) (h : p_can N kd ln = true) : n < 14 := by
  have h1 := (of_decide_eq_true h).1
  rw [hn] at h1
  exact (nI_ltI (a := n) (b := 14) (by omega) (by omega)).mp h1
