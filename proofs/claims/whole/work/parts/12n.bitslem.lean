/-! the bits of a share by hand: doublings -/
def bs_g (d : UInt64) : Nat → UInt64
  | 0 => d
  | k + 1 => FP.dmul (bs_g d k) 4611686018427387904
def bs_c (d : UInt64) (k : Nat) : Int32 := Op.cmpValue (FP.dcmp (bs_g d k) FP.dconst1) .g
def bs_m (d : UInt64) : Nat := if 0 ≤ bs_c d 0 then 0 else if 0 ≤ bs_c d 1 then 1 else if 0 ≤ bs_c d 2 then 2 else if 0 ≤ bs_c d 3 then 3 else 4
def bs_fin (x : UInt64) : Bool := decide (x &&& 0x7fffffffffffffff ≤ 0x7ff0000000000000)
def bs_e (k : Nat) : Int64 := 1023 - Int64.ofNat k
def bs_f (d : UInt64) (m : Nat) : UInt64 := FP.dmul (FP.dsub (bs_g d m) FP.dconst1) 4841369599423283200
def bs_ok (d : UInt64) : Bool := bs_fin (bs_g d 1) && bs_fin (bs_g d 2) && bs_fin (bs_g d 3) && bs_fin (bs_g d 4) && decide (0 ≤ bs_c d (bs_m d)) && bs_fin (FP.dsub (bs_g d (bs_m d)) FP.dconst1) && bs_fin (bs_f d (bs_m d)) && decide ((bs_e (bs_m d) <<< 52) + FP.d2l (bs_f d (bs_m d)) = d.toInt64)
def bs_z (d : UInt64) : Bool := decide (0 < Op.cmpValue (FP.dcmp d FP.dconst0) .g)
theorem bs_q : ∀ r : Fin 15, ∀ b : Fin 15, r.1 ≤ b.1 → ¬ b.1 = 0 → (if bs_z (FP.ddiv (FP.i2d (nI r.1)) (FP.i2d (nI b.1))) = true then bs_ok (FP.ddiv (FP.i2d (nI r.1)) (FP.i2d (nI b.1))) = true else (FP.ddiv (FP.i2d (nI r.1)) (FP.i2d (nI b.1))).toInt64 = 0) := by decide +kernel
theorem bs_q1 : bs_z FP.dconst1 = true ∧ bs_ok FP.dconst1 = true := by decide +kernel
theorem bs_share {N : NN} {n : Nat} (hn14 : n ≤ 14) : if bs_z (p_share N n) = true then bs_ok (p_share N n) = true else (p_share N n).toInt64 = 0 := by
  obtain ⟨r, b, h1, h2, h3, h4⟩ := sh_parts (N := N) hn14
  unfold p_share
  rw [h4, h3]
  by_cases c : b = 0
  · subst c
    show if bs_z FP.dconst1 = true then bs_ok FP.dconst1 = true else FP.dconst1.toInt64 = 0
    rw [if_pos bs_q1.1]
    exact bs_q1.2
  · have hb0 : ¬ nI b = 0 := fun q => c ((nI_eq (a := b) (b := 0) (by omega) (by omega)).mp q)
    rw [if_neg hb0]
    exact bs_q ⟨r, by omega⟩ ⟨b, by omega⟩ h1 c
