/-! what the looks answer of such a station -/
theorem fx_r1 (N : NN) (k : Nat) : p_reason N k = 1 ↔ N 9 k = -1 := by
  unfold p_reason
  by_cases h : N 9 k = -1
  · rw [if_pos h]; exact ⟨fun _ => h, fun _ => rfl⟩
  · rw [if_neg h]
    refine ⟨fun q => ?_, fun q => absurd q h⟩
    revert q
    split
    · exact fun q => absurd q (by decide)
    · split
      · exact fun q => absurd q (by decide)
      · split
        · exact fun q => absurd q (by decide)
        · exact fun q => absurd q (by decide)
theorem fx_r2 (N : NN) (k : Nat) : p_reason N k = 2 ↔ N 9 k = 4 := by
  unfold p_reason
  by_cases h : N 9 k = 4
  · rw [h]
    rw [if_neg (by decide), if_pos rfl]
    exact ⟨fun _ => rfl, fun _ => rfl⟩
  · refine ⟨fun q => ?_, fun q => absurd q h⟩
    revert q
    rw [if_neg h]
    split
    · intro q; exact absurd q (by decide)
    · split
      · intro q; exact absurd q (by decide)
      · split
        · intro q; exact absurd q (by decide)
        · intro q; exact absurd q (by decide)
theorem fx_r0 {N : NN} {k : Nat} (h : p_reason N k = 0) : ¬ N 9 k = -1 ∧ ¬ N 9 k = 4 ∧ ¬ p_life (N 3 k) < N 1 0 - N 6 k ∧ ¬ N 8 k = -1 ∧ ¬ N 8 k < N 1 0 := by
  unfold p_reason at h
  by_cases h1 : N 9 k = -1
  · rw [if_pos h1] at h; exact absurd h (by decide)
  · rw [if_neg h1] at h
    by_cases h2 : N 9 k = 4
    · rw [if_pos h2] at h; exact absurd h (by decide)
    · rw [if_neg h2] at h
      by_cases h3 : p_life (N 3 k) < N 1 0 - N 6 k
      · rw [if_pos h3] at h; exact absurd h (by decide)
      · rw [if_neg h3] at h
        by_cases h4 : N 8 k = -1 ∨ N 8 k < N 1 0
        · rw [if_pos h4] at h; exact absurd h (by decide)
        · exact ⟨h1, h2, h3, fun q => h4 (Or.inl q), fun q => h4 (Or.inr q)⟩
theorem bI_iff {P Q : Prop} [Decidable P] [Decidable Q] (h : P ↔ Q) : bI (decide P) = bI (decide Q) := by
  rw [decide_eq_decide.mpr h]
theorem fx_gone (N : NN) (k : Nat) : p_at N (-1) k + bI (decide (p_reason N k = 1)) = p_at N (-1) (k + 1) := by
  rw [bI_iff (fx_r1 N k)]
  show _ = if N 9 k = -1 then p_at N (-1) k + 1 else p_at N (-1) k
  by_cases h : N 9 k = -1
  · rw [if_pos h, bI_t h]
  · rw [if_neg h, bI_f h]; simp
theorem fx_lent (N : NN) (k : Nat) : p_at N 4 k + bI (decide (p_reason N k = 2)) = p_at N 4 (k + 1) := by
  rw [bI_iff (fx_r2 N k)]
  show _ = if N 9 k = 4 then p_at N 4 k + 1 else p_at N 4 k
  by_cases h : N 9 k = 4
  · rw [if_pos h, bI_t h]
  · rw [if_neg h, bI_f h]; simp
theorem fx_ready (N : NN) (k : Nat) : p_rh N k + bI (decide (p_reason N k = 0)) = p_rh N (k + 1) := by
  show _ = if p_reason N k = 0 then p_rh N k + 1 else p_rh N k
  by_cases h : p_reason N k = 0
  · rw [if_pos h, bI_t h]
  · rw [if_neg h, bI_f h]; simp
section FX
variable {N : NN} {n d i k : Nat}
theorem fx_back (h : J2 N n d i) (hd : d < 2 ^ 29) (hk : k < n) : (N 10 k = -1) ↔ (¬ N 9 k = 4) := by
  refine ⟨fun e q => ?_, fun q => (h.1.2.2.2 k hk).2.2.2 q⟩
  exact ((h.2.2 k hk).2.2.2 q).m1 (by omega) e
theorem fx_back2 (h : J2 N n d i) (hd : d < 2 ^ 29) (hk : k < n) (h4 : N 9 k = 4) : ¬ N 10 k ≤ N 1 0 := by
  obtain ⟨b, b1, b2, e⟩ := (h.2.2 k hk).2.2.2 h4
  rw [e, h.1.2.2.1]
  intro q
  have := (nI_leI (by omega) (by omega)).mp q
  omega
theorem fx_w0 (h : J2 N n d i) (hk : k < n) : ¬ N 7 k < 0 := Int32.not_lt.mpr (h.1.2.2.2 k hk).2.1.1
theorem fx_w1 (h : J2 N n d i) (hk : k < n) : ¬ 99 < N 7 k := Int32.not_lt.mpr (h.1.2.2.2 k hk).2.1.2
theorem mx0_bd {x : Int32} (h : x ≤ 24) : 0 ≤ mx0 x ∧ mx0 x ≤ 24 := by
  unfold mx0
  split
  · rename_i q
    exact ⟨Int32.le_of_lt q, h⟩
  · exact ⟨by decide, by decide⟩
theorem sub_le24 {a : Nat} (ha : a ≤ 24) {b c : Nat} (hb : b < 2 ^ 20) (hc : c < 2 ^ 20) : nI a - nI b - nI c ≤ 24 := by
  apply Int32.le_iff_toInt_le.mpr
  have e1 : (nI a - nI b).toInt = (a : Int) - b := pk_sub_toInt (by omega) (by omega)
  rw [Int32.toInt_sub, e1, nI_toInt (by omega), show (24 : Int32).toInt = 24 from rfl, Int.bmod_eq_of_le (by omega) (by omega)]
  omega
theorem sub_le24a {a : Nat} (ha : a ≤ 24) {b : Nat} (hb : b < 2 ^ 20) : nI a - nI b ≤ 24 := by
  apply Int32.le_iff_toInt_le.mpr
  rw [pk_sub_toInt (by omega) (by omega), show (24 : Int32).toInt = 24 from rfl]
  omega
theorem fx_str (h : J2 N n d i) (hd : d < 2 ^ 19) (hk : k < n) : 0 ≤ p_strAt N k (N 7 k) ∧ p_strAt N k (N 7 k) ≤ 24 := by
  obtain ⟨w, hw, ew⟩ := mn99 (h.1.2.2.2 k hk).2.1.1 (h.1.2.2.2 k hk).2.1.2
  obtain ⟨m, m1, m2, em⟩ := (h.2.2 k hk).2.1
  have ea : (N 1 0 - N 6 k) / 100 = nI ((d - m) / 100) := by
    rw [h.1.2.2.1, em, pk_sub m2]
    exact pk_div (a := d - m) (d := 100) (by omega) (by decide) (by decide)
  unfold p_strAt p_str
  rw [ea, ew]
  have d10 : nI w / 10 = nI (w / 10) := pk_div (a := w) (d := 10) (by omega) (by decide) (by decide)
  have d8 : nI w / 8 = nI (w / 8) := pk_div (a := w) (d := 8) (by omega) (by decide) (by decide)
  have d5 : nI w / 5 = nI (w / 5) := pk_div (a := w) (d := 5) (by omega) (by decide) (by decide)
  have d2 : nI ((d - m) / 100) / 2 = nI ((d - m) / 100 / 2) := pk_div (a := (d - m) / 100) (d := 2) (by omega) (by decide) (by decide)
  split
  · rw [d10]; exact mx0_bd (sub_le24 (a := 16) (by omega) (by omega) (by omega))
  · split
    · rw [d8, d2]; exact mx0_bd (sub_le24 (a := 20) (by omega) (by omega) (by omega))
    · rw [d5]; exact mx0_bd (sub_le24a (a := 24) (by omega) (by omega))
theorem fx_s0 (h : J2 N n d i) (hd : d < 2 ^ 19) (hk : k < n) : ¬ p_strAt N k (N 7 k) < 0 := Int32.not_lt.mpr (fx_str h hd hk).1
theorem fx_s1 (h : J2 N n d i) (hd : d < 2 ^ 19) (hk : k < n) : ¬ 24 < p_strAt N k (N 7 k) := Int32.not_lt.mpr (fx_str h hd hk).2
theorem p_sf_of (N : NN) (k : Nat) : ∀ q, p_sf N k q = -1 ∨ ∃ j, j < q ∧ p_sf N k q = nI (j + 4) ∧ p_held N k (j + 4) = p_S (j + 4) ∧ ∀ b, j < b → b < q → ¬ p_held N k (b + 4) = p_S (b + 4) := by
  intro q
  induction q with
  | zero => exact Or.inl rfl
  | succ q ih =>
    by_cases c : p_held N k (q + 4) = p_S (q + 4)
    · right
      exact ⟨q, by omega, if_pos c, c, fun b h1 h2 => by omega⟩
    · have e : p_sf N k (q + 1) = p_sf N k q := if_neg c
      rw [e]
      rcases ih with h | ⟨j, h1, h2, h3, h4⟩
      · exact Or.inl h
      · right
        refine ⟨j, by omega, h2, h3, fun b g1 g2 => ?_⟩
        rcases Nat.lt_or_ge b q with g | g
        · exact h4 b g1 g
        · have : b = q := by omega
          rw [this]; exact c
theorem p_out_full2 {P : Nat} (hP : P ≤ 24) (h : p_held N k P = p_S P) : ¬ 100 ≤ p_out N k P := by
  unfold p_out
  rw [if_neg (by omega), h]
  intro q
  have := p_S_le hP
  have := (nI_leI (a := 100) (b := p_S P) (by omega) (by omega)).mp q
  omega
theorem p_out_burst2 {P : Nat} (hP : P ≤ 24) (h : ¬ p_held N k P = p_S P) : ¬ p_out N k P < 100 := by
  have hle := p_held_le N k P
  unfold p_out
  rw [if_pos (by omega)]
  intro q
  have := p_S_le hP
  have := (nI_ltI (a := p_held N k P + 100) (b := 100) (by omega) (by omega)).mp q
  omega
/-- the greatest safe pressure: none, or it does not burst and one more does -/
theorem fx_safe (N : NN) (k : Nat) : p_safeG N k = -1 ∨ ∃ w, 4 ≤ w ∧ w ≤ 24 ∧ p_safeG N k = nI w ∧ ¬ 100 ≤ p_tried N k w ∧ (w < 24 → ¬ p_tried N k (w + 1) < 100) := by
  unfold p_safeG p_tried
  by_cases h : N 9 k = -1
  · rw [if_pos h]; exact Or.inl rfl
  · simp only [if_neg h]
    rcases p_sf_of N k 21 with q | ⟨j, h1, h2, h3, h4⟩
    · exact Or.inl q
    · right
      refine ⟨j + 4, by omega, by omega, h2, p_out_full2 (by omega) h3, fun hw => ?_⟩
      have := h4 (j + 1) (by omega) (by omega)
      rw [show j + 4 + 1 = j + 1 + 4 by omega]
      exact p_out_burst2 (by omega) this
theorem fx_safe9 (h : J2 N n d i) (hk : k < n) (h0 : ¬ 0 ≤ N 9 k) : p_safeG N k = -1 := by
  unfold p_safeG
  rw [if_pos]
  rcases (h.1.2.2.2 k hk).2.2.1 with q | q | q
  · exact q
  · rw [q] at h0; exact absurd (by decide) h0
  · exact absurd q.1 h0
theorem fx_n14 (h : J2 N n d i) : ¬ 14 < nI n := by
  intro q
  have := (nI_ltI (a := 14) (b := n) (by omega) (by have := h.1.1; omega)).mp q
  have := h.1.1
  omega
theorem fx_tb (h : J2 N n d i) (hi : i < 2 ^ 30) : ¬ N 1 3 < N 1 4 := by
  obtain ⟨t, b, h1, h2, e1, e2⟩ := h.2.1.2.1
  rw [e1, e2]
  intro q
  have := (nI_ltI (by omega) (by omega)).mp q
  omega
theorem fx_m0 (h : J2 N n d i) : ¬ N 1 1 < 0 := Int32.not_lt.mpr (h.2.1.1.nn (by decide))
theorem fx_m1 (h : J2 N n d i) : ¬ 9999 < N 1 1 := Int32.not_lt.mpr (h.2.1.1.le (by decide))
/-! lapses -/
theorem fx_dl (h : J2 N n d i) (hd : d < 2 ^ 28) (hk : k < n) (h0 : p_reason N k = 0) : ∃ q, 1 ≤ q ∧ q < 2 ^ 29 ∧ p_dl N k = nI q := by
  obtain ⟨r1, r2, r3, r4, r5⟩ := fx_r0 h0
  obtain ⟨m, m1, m2, em⟩ := (h.2.2 k hk).2.1
  rcases (h.2.2 k hk).2.2.1 with e8 | ⟨l8, l1, l2, e8⟩
  · exact absurd e8 r4
  · have hl : ∃ f, f ≤ 1500 ∧ p_life (N 3 k) = nI f := by
      unfold p_life
      split
      · exact ⟨900, by omega, rfl⟩
      · split
        · exact ⟨1500, by omega, rfl⟩
        · exact ⟨1200, by omega, rfl⟩
    obtain ⟨f, hf, ef⟩ := hl
    have hd8 : d ≤ l8 := by
      rw [e8, h.1.2.2.1] at r5
      rcases Nat.lt_or_ge l8 d with q | q
      · exact absurd ((nI_ltI (by omega) (by omega)).mpr q) r5
      · exact q
    have hdm : d ≤ m + f := by
      rw [ef, h.1.2.2.1, em, pk_sub m2] at r3
      rcases Nat.lt_or_ge f (d - m) with q | q
      · exact absurd ((nI_ltI (by omega) (by omega)).mpr q) r3
      · omega
    unfold p_dl
    rw [e8, em, ef, nI_add, h.1.2.2.1]
    have key : ∀ z, d ≤ z → z < 2 ^ 29 - 1 → nI z + 1 - nI d = nI (z + 1 - d) := fun z z1 z2 => by rw [nI_1, pk_sub (by omega)]
    unfold mn
    split
    · rw [key _ hdm (by omega)]
      exact ⟨m + f + 1 - d, by omega, by omega, rfl⟩
    · rw [key _ hd8 (by omega)]
      exact ⟨l8 + 1 - d, by omega, by omega, rfl⟩
theorem fx_fl (h : J2 N n d i) (hd : d < 2 ^ 28) : ∀ j, j ≤ n → ∃ r, r ≤ j ∧ p_rh N j = nI r ∧ (r = 0 → p_fl N j = -1) ∧ (0 < r → ∃ q, 1 ≤ q ∧ q < 2 ^ 29 ∧ p_fl N j = nI q) := by
  intro j
  induction j with
  | zero => intro _; exact ⟨0, by omega, rfl, fun _ => rfl, fun q => absurd q (by omega)⟩
  | succ j ih =>
    intro hj
    obtain ⟨r, r1, r2, r3, r4⟩ := ih (by omega)
    by_cases c : p_reason N j = 0
    · refine ⟨r + 1, by omega, ?_, fun q => absurd q (by omega), fun _ => ?_⟩
      · show (if p_reason N j = 0 then p_rh N j + 1 else p_rh N j) = _
        rw [if_pos c, r2, nI_1]
      · obtain ⟨q, q1, q2, eq⟩ := fx_dl h hd (by omega) c
        show ∃ q, 1 ≤ q ∧ q < 2 ^ 29 ∧ (if p_reason N j = 0 then (if p_fl N j = -1 then p_dl N j else mn (p_fl N j) (p_dl N j)) else p_fl N j) = nI q
        rw [if_pos c]
        by_cases c2 : p_fl N j = -1
        · rw [if_pos c2]; exact ⟨q, q1, q2, eq⟩
        · rw [if_neg c2]
          have hr : 0 < r := by
            rcases Nat.eq_zero_or_pos r with z | z
            · exact absurd (r3 z) c2
            · exact z
          obtain ⟨p, p1, p2, ep⟩ := r4 hr
          unfold mn
          split
          · exact ⟨q, q1, q2, eq⟩
          · exact ⟨p, p1, p2, ep⟩
    · refine ⟨r, by omega, ?_, fun q => ?_, fun q => ?_⟩
      · show (if p_reason N j = 0 then p_rh N j + 1 else p_rh N j) = _
        rw [if_neg c, r2]
      · show (if p_reason N j = 0 then (if p_fl N j = -1 then p_dl N j else mn (p_fl N j) (p_dl N j)) else p_fl N j) = -1
        rw [if_neg c]; exact r3 q
      · show ∃ q, 1 ≤ q ∧ q < 2 ^ 29 ∧ (if p_reason N j = 0 then (if p_fl N j = -1 then p_dl N j else mn (p_fl N j) (p_dl N j)) else p_fl N j) = nI q
        rw [if_neg c]; exact r4 q
theorem fx_lapse (h : J2 N n d i) (hd : d < 2 ^ 28) : bI (decide (p_fl N n = -1)) = bI (decide (p_rh N n = 0)) := by
  obtain ⟨r, r1, r2, r3, r4⟩ := fx_fl h hd n (Nat.le_refl n)
  have hn := h.1.1
  apply bI_iff
  rcases Nat.eq_zero_or_pos r with z | z
  · subst z
    exact ⟨fun _ => r2, fun _ => r3 rfl⟩
  · obtain ⟨q, q1, q2, eq⟩ := r4 z
    rw [eq, r2]
    refine ⟨fun e => ?_, fun e => ?_⟩
    · exact absurd e (isN.m1 (lo := q) (hi := q) ⟨q, Nat.le_refl q, Nat.le_refl q, rfl⟩ (by omega))
    · exact absurd e (nI_ne0 z (by omega))
theorem fx_lapse0 (h : J2 N n d i) (hd : d < 2 ^ 28) : ¬ p_fl N n = 0 := by
  obtain ⟨r, r1, r2, r3, r4⟩ := fx_fl h hd n (Nat.le_refl n)
  rcases Nat.eq_zero_or_pos r with z | z
  · rw [r3 z]; decide
  · obtain ⟨q, q1, q2, eq⟩ := r4 z
    rw [eq]
    exact nI_ne0 (by omega) (by omega)
/-! the share -/
theorem fx_sh1 (h : nI n = p_at N (-1) n) : p_share N n = FP.dconst1 := by
  unfold p_share
  rw [← h, if_pos]
  simp
theorem fx_sh2 (h : ¬ nI n = p_at N (-1) n) : ¬ nI n - p_at N (-1) n = 0 := by
  intro e
  apply h
  have : nI n - p_at N (-1) n + p_at N (-1) n = 0 + p_at N (-1) n := by rw [e]
  simpa using this
theorem fx_sh3 (h : ¬ nI n - p_at N (-1) n = 0) : p_share N n = FP.ddiv (FP.i2d (p_rh N n)) (FP.i2d (nI n - p_at N (-1) n)) := if_neg h
theorem fx_sh4 (hn14 : n ≤ 14) (h : ¬ nI n - p_at N (-1) n = 0) : Op.cmpValue (FP.dcmp (FP.ddiv (FP.i2d (p_rh N n)) (FP.i2d (nI n - p_at N (-1) n))) (FP.ddiv (FP.i2d (p_rh N n)) (FP.i2d (nI n - p_at N (-1) n)))) .l = 0 := by
  have := sh_cmp (N := N) hn14
  rw [fx_sh3 h] at this
  exact this
end FX
