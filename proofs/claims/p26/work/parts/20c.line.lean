/-! lines: which hoses are in, their lengths, their bits -/
def p_inl (N : NN) (t k : Nat) : Bool := decide ((N 9 k = nI t ∧ p_reason N k = 0) ∧ ((p_lay N (nI t) (-1) k 3 = -1 ∨ p_lay N (nI t) (-1) k 3 = N 5 k) ∨ ¬ N 0 1 ≤ p_lay N (nI t) (-1) k 1))
def p_mk (N : NN) (t : Nat) : Nat → Nat
  | 0 => 0
  | k + 1 => if p_inl N t k = true then p_mk N t k + 2 ^ k else p_mk N t k
theorem ly_step {N : NN} {t k : Nat} (hk : k < 100) : p_lay N (nI t) (-1) (k + 1) = if N 9 k = nI t ∧ p_reason N k = 0 then p_join (p_lay N (nI t) (-1) k) (nI k) (N 4 k) (N 5 k) (N 0 1) else p_lay N (nI t) (-1) k :=
  ite_cg (⟨fun h => ⟨h.1.elim (fun q => q) (fun q => absurd q (nI_m1 hk)), h.2⟩, fun h => ⟨Or.inl h.1, h.2⟩⟩ : ((N 9 k = nI t ∨ nI k = -1) ∧ p_reason N k = 0) ↔ (N 9 k = nI t ∧ p_reason N k = 0)) _ _
theorem ly_in {N : NN} {t k : Nat} (hk : k < 100) (h : p_inl N t k = true) : p_lay N (nI t) (-1) (k + 1) 0 = p_lay N (nI t) (-1) k 0 + N 4 k ∧ p_lay N (nI t) (-1) (k + 1) 2 = p_msk (p_lay N (nI t) (-1) k 2) (nI k) := by
  obtain ⟨h1, h2⟩ := of_decide_eq_true h
  rw [ly_step hk, if_pos h1]
  unfold p_join
  by_cases c : p_lay N (nI t) (-1) k 3 = -1 ∨ p_lay N (nI t) (-1) k 3 = N 5 k
  · rw [if_pos c]; simp [us_at]
  · rw [if_neg c, if_neg (h2.elim (fun q => absurd q c) (fun q => q))]; simp [us_at]
theorem ly_out {N : NN} {t k : Nat} (hk : k < 100) (h : p_inl N t k = false) : p_lay N (nI t) (-1) (k + 1) 0 = p_lay N (nI t) (-1) k 0 ∧ p_lay N (nI t) (-1) (k + 1) 2 = p_lay N (nI t) (-1) k 2 := by
  have h0 := of_decide_eq_false h
  rw [ly_step hk]
  split
  · rename_i h1
    unfold p_join
    rw [if_neg (fun q => h0 ⟨h1, Or.inl q⟩), if_pos (Classical.byContradiction fun q => h0 ⟨h1, Or.inr q⟩)]
    exact ⟨rfl, rfl⟩
  · exact ⟨rfl, rfl⟩
theorem p_mk_lt (N : NN) (t : Nat) : ∀ k, p_mk N t k < 2 ^ k := by
  intro k
  induction k with
  | zero => exact Nat.one_pos
  | succ k ih =>
    have e : 2 ^ (k + 1) = 2 ^ k + 2 ^ k := by rw [Nat.pow_succ]; omega
    show (if p_inl N t k = true then p_mk N t k + 2 ^ k else p_mk N t k) < 2 ^ (k + 1)
    split <;> omega
theorem msk_sh : ∀ k : Fin 15, (((nI k.1) &&& (31 : Int32)).toBitVec.smod 32).toNat = k.1 := by decide +kernel
theorem or_nI {a b : Nat} (ha : a < 2 ^ 32) (hb : b < 2 ^ 32) : nI a ||| nI b = nI (a ||| b) := by
  apply Int32.toBitVec_inj.mp
  apply BitVec.eq_of_toNat_eq
  have hab : a ||| b < 2 ^ 32 := Nat.or_lt_two_pow ha hb
  rw [Int32.toBitVec_or, BitVec.toNat_or, pk_tn ha, pk_tn hb, pk_tn hab]
theorem pow14 {k : Nat} (hk : k ≤ 14) : 2 ^ k ≤ 2 ^ 14 := Nat.pow_le_pow_right (by decide) hk
theorem msk_add {M k : Nat} (hk : k ≤ 14) (hM : M < 2 ^ k) : p_msk (nI M) (nI k) = nI (M + 2 ^ k) := by
  have hp := pow14 hk
  unfold p_msk
  have e1 : (1 : Int32) <<< (nI k &&& 31) = nI (1 * 2 ^ k) := pk_shlN (n := 1) _ k (msk_sh ⟨k, by omega⟩) (by omega)
  rw [e1, Nat.one_mul, or_nI (by omega) (by omega)]
  congr 1
  have e := Nat.two_pow_add_eq_or_of_lt hM 1
  rw [Nat.mul_one] at e
  rw [Nat.or_comm, ← e, Nat.add_comm]
theorem p_mk_eq (N : NN) (t : Nat) : ∀ k, k ≤ 14 → p_lay N (nI t) (-1) k 2 = nI (p_mk N t k) := by
  intro k
  induction k with
  | zero => intro _; rfl
  | succ k ih =>
    intro hk
    have ihk := ih (by omega)
    show _ = nI (if p_inl N t k = true then p_mk N t k + 2 ^ k else p_mk N t k)
    cases c : p_inl N t k with
    | true =>
      rw [(ly_in (by omega) c).2, ihk, if_pos rfl]
      exact msk_add (by omega) (p_mk_lt N t k)
    | false =>
      rw [(ly_out (by omega) c).2, ihk, if_neg (by decide)]
theorem p_mk_bit (N : NN) (t : Nat) : ∀ k h, h < k → p_mk N t k / 2 ^ h % 2 = if p_inl N t h = true then 1 else 0 := by
  intro k
  induction k with
  | zero => intro h hh; exact absurd hh (Nat.not_lt_zero _)
  | succ k ih =>
    intro h hh
    show (if p_inl N t k = true then p_mk N t k + 2 ^ k else p_mk N t k) / 2 ^ h % 2 = _
    have hlt := p_mk_lt N t k
    by_cases hk : h = k
    · subst hk
      have hp : 0 < 2 ^ h := Nat.two_pow_pos h
      split
      · have e : (p_mk N t h + 2 ^ h) / 2 ^ h = 1 := by
          rw [Nat.add_div_right _ hp, Nat.div_eq_of_lt hlt]
        rw [e]
      · rw [Nat.div_eq_of_lt hlt]
    · have hk2 : h < k := by omega
      rw [← ih h hk2]
      split
      · have e : 2 ^ k = 2 ^ h * (2 * 2 ^ (k - h - 1)) := by
          rw [show 2 * 2 ^ (k - h - 1) = 2 ^ (k - h - 1 + 1) by rw [Nat.pow_succ]; omega, ← Nat.pow_add]
          congr 1
          omega
        rw [e, Nat.add_mul_div_left _ _ (Nat.two_pow_pos h)]
        omega
      · rfl
theorem fx_shr {M h : Nat} (hh : h ≤ 14) (hM : M < 2 ^ 31) : nI M >>> (nI h &&& 31) = nI (M / 2 ^ h) := pk_shrN hM _ h (msk_sh ⟨h, by omega⟩)
theorem p_mk_31 (N : NN) (t : Nat) {k : Nat} (hk : k ≤ 14) : p_mk N t k < 2 ^ 31 := by
  have := p_mk_lt N t k
  have := pow14 hk
  omega
theorem fx_bit {N : NN} {t n h : Nat} (hn : n ≤ 14) (hh : h < n) : nI (p_mk N t n / 2 ^ h) &&& 1 = bI (p_inl N t h) := by
  have h31 : p_mk N t n / 2 ^ h < 2 ^ 32 := by
    have := p_mk_31 N t hn
    have := Nat.div_le_self (p_mk N t n) (2 ^ h)
    omega
  rw [pk_andN h31 (m := 1) 1 (by decide)]
  show nI (p_mk N t n / 2 ^ h % 2) = _
  rw [p_mk_bit N t n h hh]
  cases p_inl N t h <;> rfl
theorem fx_mk0 {N : NN} {t n : Nat} (hn : n ≤ 14) : nI (p_mk N t n) >>> (nI n &&& 31) = 0 := by
  rw [fx_shr hn (p_mk_31 N t hn), Nat.div_eq_of_lt (p_mk_lt N t n)]
  rfl
theorem fx_sum {N : NN} {t h : Nat} (hh : h < 100) : p_lay N (nI t) (-1) h 0 + (if p_inl N t h = true then N 4 h else 0) = p_lay N (nI t) (-1) (h + 1) 0 := by
  cases c : p_inl N t h with
  | true => rw [(ly_in hh c).1, if_pos rfl]
  | false => rw [(ly_out hh c).1, if_neg (by decide)]; simp
theorem fx_in {N : NN} {t h : Nat} (c : p_inl N t h = true) : p_reason N h = 0 ∧ N 9 h = nI t ∧ ¬ N 8 h < N 1 0 := by
  obtain ⟨h1, h2⟩ := of_decide_eq_true c
  exact ⟨h1.2, h1.1, (fx_r0 h1.2).2.2.2.2⟩
theorem ly_ad {N : NN} {t A : Nat} (hA : A ≤ 5) (e : N 0 1 = nI A) : ∀ k, k ≤ 14 → ∃ a, a ≤ A ∧ p_lay N (nI t) (-1) k 1 = nI a := by
  intro k
  induction k with
  | zero => intro _; exact ⟨0, by omega, rfl⟩
  | succ k ih =>
    intro hk
    obtain ⟨a, a1, a2⟩ := ih (by omega)
    rw [ly_step (by omega)]
    split
    · unfold p_join
      split
      · exact ⟨a, a1, by simp [us_at, a2]⟩
      · split
        · exact ⟨a, a1, a2⟩
        · rename_i hlt
          rw [e, a2] at hlt
          have : a < A := by
            rcases Nat.lt_or_ge a A with q | q
            · exact q
            · exact absurd ((nI_leI (by omega) (by omega)).mpr q) hlt
          exact ⟨a + 1, by omega, by simp [us_at, a2, nI_1]⟩
    · exact ⟨a, a1, a2⟩
theorem fx_ad {N : NN} {n d i t : Nat} (h : J2 N n d i) : ¬ N 0 1 < p_lay N (nI t) (-1) n 1 := by
  obtain ⟨A, A1, A2, e⟩ := h.2.1.2.2.2.2.1
  obtain ⟨a, a1, a2⟩ := ly_ad (t := t) A2 e n h.1.1
  rw [e, a2]
  intro q
  have := (nI_ltI (by omega) (by omega)).mp q
  omega
theorem fx_wtr (N : NN) (n t : Nat) : p_wtr N n t + bI (p_whole N t (-1) n) = p_wtr N n (t + 1) := by
  show _ = if N 2 t ≤ p_lay N (nI t) (-1) n 0 then p_wtr N n t + 1 else p_wtr N n t
  unfold p_whole
  by_cases h : N 2 t ≤ p_lay N (nI t) (-1) n 0
  · rw [if_pos h, bI_t h]
  · rw [if_neg h, bI_f h]; simp
theorem ra_at (N : NN) (w : Int32) : ∀ k, ∃ a b : Nat, b ≤ a ∧ a ≤ k ∧ p_at N w k = nI a ∧ p_ra N w k = nI b := by
  intro k
  induction k with
  | zero => exact ⟨0, 0, by omega, by omega, rfl, rfl⟩
  | succ k ih =>
    obtain ⟨a, b, h1, h2, e1, e2⟩ := ih
    show ∃ a b : Nat, b ≤ a ∧ a ≤ k + 1 ∧ (if N 9 k = w then p_at N w k + 1 else p_at N w k) = nI a ∧ (if N 9 k = w ∧ p_reason N k = 0 then p_ra N w k + 1 else p_ra N w k) = nI b
    by_cases c : N 9 k = w
    · by_cases c2 : p_reason N k = 0
      · exact ⟨a + 1, b + 1, by omega, by omega, by rw [if_pos c, e1, nI_1], by rw [if_pos ⟨c, c2⟩, e2, nI_1]⟩
      · exact ⟨a + 1, b, by omega, by omega, by rw [if_pos c, e1, nI_1], by rw [if_neg (fun q => c2 q.2), e2]⟩
    · exact ⟨a, b, by omega, by omega, by rw [if_neg c, e1], by rw [if_neg (fun q => c q.1), e2]⟩
theorem fx_ra {N : NN} {n : Nat} (hn : n ≤ 14) (w : Int32) : ¬ p_at N w n < p_ra N w n := by
  obtain ⟨a, b, h1, h2, e1, e2⟩ := ra_at N w n
  rw [e1, e2]
  intro q
  have := (nI_ltI (by omega) (by omega)).mp q
  omega
theorem ch_of (N : NN) (t n : Nat) : ∀ k, p_ch N t n k = -1 ∨ ∃ j, j < k ∧ p_ch N t n k = nI j ∧ N 9 j = 3 ∧ p_reason N j = 0 := by
  intro k
  induction k with
  | zero => exact Or.inl rfl
  | succ k ih =>
    by_cases c : ((N 9 k = 3 ∧ p_reason N k = 0) ∧ N 2 t ≤ p_lay N (nI t) (nI k) n 0) ∧ (p_ch N t n k = -1 ∨ p_price N k < p_price N (p_ch N t n k).toNatClampNeg)
    · exact Or.inr ⟨k, by omega, if_pos c, c.1.1.1, c.1.1.2⟩
    · have e : p_ch N t n (k + 1) = p_ch N t n k := if_neg c
      rw [e]
      rcases ih with h | ⟨j, h1, h2, h3⟩
      · exact Or.inl h
      · exact Or.inr ⟨j, by omega, h2, h3⟩
theorem fx_help (N : NN) (t n : Nat) : p_help N t n = -1 ∨ (p_whole N t (-1) n = false ∧ ∃ j, j < n ∧ p_help N t n = nI j ∧ N 9 j = 3 ∧ p_reason N j = 0) := by
  unfold p_help
  by_cases c : N 2 t ≤ p_lay N (nI t) (-1) n 0
  · rw [if_pos c]; exact Or.inl rfl
  · rw [if_neg c]
    rcases ch_of N t n n with h | h
    · exact Or.inl h
    · exact Or.inr ⟨decide_eq_false c, h⟩
theorem bI_n1 {b : Bool} (h : ¬ bI b = 1) : b = false := by
  cases b with
  | false => rfl
  | true => exact absurd rfl h
theorem bI_y1 {b : Bool} (h : bI b = 1) : b = true := by
  cases b with
  | true => rfl
  | false => exact absurd h (by decide)
