/-! lemmas for the class's own methods -/
theorem nI_rg {lo hi w : Nat} (h0 : lo ≤ w) (h1 : w ≤ hi) (hh : hi < 2 ^ 31) : nI lo ≤ nI w ∧ nI w ≤ nI hi := ⟨(nI_leI (by omega) (by omega)).mpr h0, (nI_leI (by omega) hh).mpr h1⟩
theorem is_hose {N : NN} {n k : Nat} (hn : N 1 2 = nI n) (hn14 : n ≤ 14) (h : k < n) : 0 ≤ nI k ∧ nI k ≤ N 1 2 - 1 := by
  rw [hn]
  have e : nI n - 1 = nI (n - 1) := pk_sub (a := n) (b := 1) (by omega)
  rw [e]
  exact ⟨nI_pos' (by omega), (nI_leI (by omega) (by omega)).mpr (by omega)⟩
/-- the line behind a count, behind a look at a truck -/
def c_v (N : NN) (n : Nat) (v : Nat → Int32) (w : Nat) : Nat → Int32 := if w = 6 then p_wtv N n v 3 else v
def e_v1 (N : NN) (n : Nat) (v : Nat → Int32) : Nat → Nat → Int32
  | 0 => v
  | w + 1 => c_v N n (e_v1 N n v w) w
def e_v3i (N : NN) (n t : Nat) (v : Nat → Int32) : Nat → Nat → Int32
  | 0 => v
  | _ + 1 => p_lay N (nI t) (-1) n
def e_v3 (N : NN) (n : Nat) (v : Nat → Int32) : Nat → Nat → Int32
  | 0 => v
  | t + 1 => p_helpv N t n
theorem p_add_12 (N : NN) (n : Nat) (k len cp pl : Int32) : p_add N n k len cp pl 1 2 = N 1 2 + 1 := by
  unfold p_add
  simp only [up2_at]
  simp
