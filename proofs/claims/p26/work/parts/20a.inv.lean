/-! what holds of every station, and that every call keeps it -/
def isN (x : Int32) (lo hi : Nat) : Prop := ∃ q : Nat, lo ≤ q ∧ q ≤ hi ∧ x = nI q
theorem isN.up {x : Int32} {lo hi lo2 hi2 : Nat} (h : isN x lo hi) (h1 : lo2 ≤ lo) (h2 : hi ≤ hi2) : isN x lo2 hi2 := by
  obtain ⟨q, a, b, c⟩ := h
  exact ⟨q, by omega, by omega, c⟩
theorem isN.ge {x : Int32} {lo hi : Nat} (h : isN x lo hi) (hh : hi < 2 ^ 31) : nI lo ≤ x := by
  obtain ⟨q, a, b, rfl⟩ := h
  exact (nI_leI (by omega) (by omega)).mpr a
theorem isN.le {x : Int32} {lo hi : Nat} (h : isN x lo hi) (hh : hi < 2 ^ 31) : x ≤ nI hi := by
  obtain ⟨q, a, b, rfl⟩ := h
  exact (nI_leI (by omega) hh).mpr b
theorem isN.nn {x : Int32} {lo hi : Nat} (h : isN x lo hi) (hh : hi < 2 ^ 31) : 0 ≤ x := by
  obtain ⟨q, a, b, rfl⟩ := h
  exact nI_pos' (by omega)
theorem isN.m1 {x : Int32} {lo hi : Nat} (h : isN x lo hi) (hh : hi < 2 ^ 31) : ¬ x = -1 := by
  intro e
  have := h.nn hh
  rw [e] at this
  exact absurd this (by decide)
/-- of a hose: its length, the day on which it was made, the last day of its test, the day on which it comes back -/
def hs2 (N : NN) (d k : Nat) : Prop := isN (N 4 k) 5 50 ∧ isN (N 6 k) 0 d ∧ (N 8 k = -1 ∨ isN (N 8 k) 0 (d + 200)) ∧ (N 9 k = 4 → isN (N 10 k) (d + 1) (d + 100))
/-- money, tests and bursts, what was paid, settings, lengths that are wanted -/
def Gl (N : NN) (i : Nat) : Prop := isN (N 1 1) 0 9999 ∧ (∃ t b : Nat, b ≤ t ∧ t ≤ i ∧ N 1 3 = nI t ∧ N 1 4 = nI b) ∧ isN (N 1 5) 0 (300 * i) ∧ isN (N 0 0) 4 24 ∧ isN (N 0 1) 0 5 ∧ isN (N 0 2) 0 200
def J2 (N : NN) (n d i : Nat) : Prop := Inv N n d ∧ Gl N i ∧ ∀ k, k < n → hs2 N d k
theorem hs2_same {N M : NN} {d k : Nat} (h4 : M 4 k = N 4 k) (h6 : M 6 k = N 6 k) (h8 : M 8 k = N 8 k) (h9 : M 9 k = N 9 k) (h10 : M 10 k = N 10 k) (h : hs2 N d k) : hs2 M d k := by
  unfold hs2
  rw [h4, h6, h8, h9, h10]
  exact h
theorem Gl_up {N : NN} {i : Nat} (h : Gl N i) : Gl N (i + 1) := by
  obtain ⟨h1, ⟨t, b, h2, h3, h4, h5⟩, h6, h7⟩ := h
  exact ⟨h1, ⟨t, b, h2, by omega, h4, h5⟩, h6.up (by omega) (by omega), h7⟩
theorem J2_up {N : NN} {n d i : Nat} (h : J2 N n d i) : J2 N n d (i + 1) := ⟨h.1, Gl_up h.2.1, h.2.2⟩
theorem Gl_rows {N M : NN} {i : Nat} (h : Gl N i) (h1 : M 1 1 = N 1 1) (h3 : M 1 3 = N 1 3) (h4 : M 1 4 = N 1 4) (h5 : M 1 5 = N 1 5) (h0 : M 0 = N 0) : Gl M i := by
  unfold Gl
  rw [h1, h3, h4, h5, h0]
  exact h
theorem cost_nI {kd ln : Int32} (hk : kdOk kd) (hl : isN ln 5 50) : isN (p_cost kd ln) 10 210 := by
  obtain ⟨q, h1, h2, rfl⟩ := hl
  unfold p_cost
  have e2 : (2 : Int32) * nI q = nI (2 * q) := pk_mul 2 q
  have e3 : (3 : Int32) * nI q = nI (3 * q) := pk_mul 3 q
  have e4 : (4 : Int32) * nI q + 10 = nI (4 * q + 10) := by
    rw [show (4 : Int32) * nI q = nI (4 * q) from pk_mul 4 q]
    exact nI_add _ 10
  rcases hk with rfl | rfl | rfl
  · rw [if_pos rfl]; exact ⟨2 * q, by omega, by omega, e2⟩
  · rw [if_neg (by decide), if_pos rfl]; exact ⟨3 * q, by omega, by omega, e3⟩
  · rw [if_neg (by decide), if_neg (by decide)]; exact ⟨4 * q + 10, by omega, by omega, e4⟩
theorem ite_cg {α : Type} {P Q : Prop} [Decidable P] [Decidable Q] (h : P ↔ Q) (a b : α) : (if P then a else b) = if Q then a else b := by
  by_cases hp : P
  · rw [if_pos hp, if_pos (h.mp hp)]
  · rw [if_neg hp, if_neg (fun q => hp (h.mpr q))]
/-! a hose comes -/
theorem p_add_row (N : NN) (n : Nat) (kd ln cp pl : Int32) : (∀ k, p_add N n kd ln cp pl 3 k = if k = n then kd else N 3 k) ∧ (∀ k, p_add N n kd ln cp pl 4 k = if k = n then ln else N 4 k) ∧ (∀ k, p_add N n kd ln cp pl 6 k = if k = n then N 1 0 else N 6 k) ∧ (∀ k, p_add N n kd ln cp pl 7 k = if k = n then 0 else N 7 k) ∧ (∀ k, p_add N n kd ln cp pl 8 k = if k = n then -1 else N 8 k) ∧ (∀ k, p_add N n kd ln cp pl 9 k = if k = n then pl else N 9 k) ∧ (∀ k, p_add N n kd ln cp pl 10 k = if k = n then -1 else N 10 k) := by
  refine ⟨fun k => ?_, fun k => ?_, fun k => ?_, fun k => ?_, fun k => ?_, fun k => ?_, fun k => ?_⟩ <;> (unfold p_add; simp [up2_at])
theorem p_add_one (N : NN) (n : Nat) (kd ln cp pl : Int32) : p_add N n kd ln cp pl 0 = N 0 ∧ p_add N n kd ln cp pl 1 0 = N 1 0 ∧ p_add N n kd ln cp pl 1 1 = N 1 1 - p_cost kd ln ∧ p_add N n kd ln cp pl 1 3 = N 1 3 ∧ p_add N n kd ln cp pl 1 4 = N 1 4 ∧ p_add N n kd ln cp pl 1 5 = N 1 5 + p_cost kd ln := by
  refine ⟨?_, ?_, ?_, ?_, ?_, ?_⟩
  · funext q; unfold p_add; simp [up2_at]
  all_goals (unfold p_add; simp [up2_at])
theorem Inv_rows {N M : NN} {n d : Nat} (h : Inv N n d) (h12 : M 1 2 = N 1 2) (h10 : M 1 0 = N 1 0) (hk : ∀ k, k < n → hsOk M k) : Inv M n d := ⟨h.1, h12.trans h.2.1, h10.trans h.2.2.1, hk⟩
theorem Inv_add {N : NN} {n d : Nat} {kd ln cp pl : Int32} (h : Inv N n d) (h14 : n < 14) (hkd : kdOk kd) (hpl : 0 ≤ pl ∧ pl ≤ 3) : Inv (p_add N n kd ln cp pl) (n + 1) d := by
  obtain ⟨h1, h2, h3, h4⟩ := h
  obtain ⟨q3, q4, q6, q7, q8, q9, q10⟩ := p_add_row N n kd ln cp pl
  refine ⟨by omega, ?_, (p_add_one N n kd ln cp pl).2.1.trans h3, fun k hk => ?_⟩
  · rw [p_add_12, h2, nI_1]
  · by_cases hkn : k = n
    · unfold hsOk
      rw [q3, q7, q9, q10, if_pos hkn, if_pos hkn, if_pos hkn, if_pos hkn]
      exact ⟨hkd, ⟨by decide, by decide⟩, Or.inr (Or.inr hpl), fun _ => rfl⟩
    · exact hsOk_same (by rw [q3, if_neg hkn]) (by rw [q7, if_neg hkn]) (by rw [q9, if_neg hkn]) (by rw [q10, if_neg hkn]) (h4 k (by omega))
theorem sub_pay {x c : Int32} {M lo hi : Nat} (hM : M < 2 ^ 30) (hx : isN x 0 M) (hc : isN c lo hi) (hle : c ≤ x) (hh : hi < 2 ^ 30) : isN (x - c) 0 M := by
  obtain ⟨a, a1, a2, rfl⟩ := hx
  obtain ⟨b, b1, b2, rfl⟩ := hc
  have h : b ≤ a := (nI_leI (by omega) (by omega)).mp hle
  rw [pk_sub h]
  exact ⟨a - b, by omega, by omega, rfl⟩
theorem Gl_add {N : NN} {n i : Nat} {kd ln cp pl : Int32} (h : Gl N i) (hi : i < 1000) (hkd : kdOk kd) (hl : isN ln 5 50) (hc : p_cost kd ln ≤ N 1 1) : Gl (p_add N n kd ln cp pl) (i + 1) := by
  obtain ⟨h1, ⟨t, b, h2, h3, h4, h5⟩, h6, h7⟩ := h
  obtain ⟨e0, e1, e2, e3, e4, e5⟩ := p_add_one N n kd ln cp pl
  have hcost := cost_nI hkd hl
  refine ⟨?_, ⟨t, b, h2, by omega, e3.trans h4, e4.trans h5⟩, ?_, ?_⟩
  · rw [e2]; exact sub_pay (by decide) h1 hcost hc (by decide)
  · rw [e5]
    obtain ⟨a, a1, a2, ea⟩ := h6
    obtain ⟨c, c1, c2, ec⟩ := hcost
    rw [ea, ec, nI_add]
    exact ⟨a + c, by omega, by omega, rfl⟩
  · rw [e0]; exact h7
theorem J2_add {N : NN} {n d i : Nat} {kd ln cp pl : Int32} (h : J2 N n d i) (hi : i < 1000) (h14 : n < 14) (hkd : kdOk kd) (hl : isN ln 5 50) (hpl : 0 ≤ pl ∧ pl ≤ 3) (hc : p_cost kd ln ≤ N 1 1) : J2 (p_add N n kd ln cp pl) (n + 1) d (i + 1) := by
  obtain ⟨h1, h2, h3⟩ := h
  obtain ⟨q3, q4, q6, q7, q8, q9, q10⟩ := p_add_row N n kd ln cp pl
  refine ⟨Inv_add h1 h14 hkd hpl, Gl_add h2 hi hkd hl hc, fun k hk => ?_⟩
  by_cases hkn : k = n
  · unfold hs2
    rw [q4, q6, q8, q9, q10, if_pos hkn, if_pos hkn, if_pos hkn, if_pos hkn, if_pos hkn]
    refine ⟨hl, ⟨d, by omega, by omega, h1.2.2.1⟩, Or.inl rfl, fun e => ?_⟩
    rw [e] at hpl
    exact absurd hpl.2 (by decide)
  · exact hs2_same (by rw [q4, if_neg hkn]) (by rw [q6, if_neg hkn]) (by rw [q8, if_neg hkn]) (by rw [q9, if_neg hkn]) (by rw [q10, if_neg hkn]) (h3 k (by omega))
/-! places -/
theorem Inv_pl {N : NN} {n d k : Nat} {pl : Int32} (h : Inv N n d) (h4 : ¬ N 9 k = 4) (hpl : pl = -1 ∨ (0 ≤ pl ∧ pl ≤ 3)) : Inv (up2 N 9 k pl) n d := by
  refine Inv_rows h (by rw [up2_ne _ _ _ (by decide)]) (by rw [up2_ne _ _ _ (by decide)]) fun j hj => ?_
  obtain ⟨g1, g2, g3, g4⟩ := h.2.2.2 j hj
  unfold hsOk
  rw [up2_ne _ _ _ (show (3 : Nat) ≠ 9 by decide), up2_ne _ _ _ (show (7 : Nat) ≠ 9 by decide), up2_ne _ _ _ (show (10 : Nat) ≠ 9 by decide), up2_at]
  by_cases hjk : j = k
  · subst hjk
    rw [if_pos ⟨rfl, rfl⟩]
    exact ⟨g1, g2, hpl.elim Or.inl (fun q => Or.inr (Or.inr q)), fun _ => g4 h4⟩
  · rw [if_neg (fun q => hjk q.2)]
    exact ⟨g1, g2, g3, g4⟩
theorem pl_of {N : NN} {n d k : Nat} (h : Inv N n d) (hk : k < n) (h1 : ¬ N 9 k = -1) (h4 : ¬ N 9 k = 4) : 0 ≤ N 9 k ∧ N 9 k ≤ 3 := by
  rcases (h.2.2.2 k hk).2.2.1 with q | q | q
  · exact absurd q h1
  · exact absurd q h4
  · exact q
theorem pl_ne4 {pl : Int32} (hpl : pl = -1 ∨ (0 ≤ pl ∧ pl ≤ 3)) : ¬ pl = 4 := by
  rintro rfl
  rcases hpl with h | h
  · exact absurd h (by decide)
  · exact absurd h.2 (by decide)
theorem J2_pl {N : NN} {n d i k : Nat} {pl : Int32} (h : J2 N n d i) (h4 : ¬ N 9 k = 4) (hpl : pl = -1 ∨ (0 ≤ pl ∧ pl ≤ 3)) : J2 (up2 N 9 k pl) n d i := by
  refine ⟨Inv_pl h.1 h4 hpl, Gl_rows h.2.1 (by rw [up2_ne _ _ _ (by decide)]) (by rw [up2_ne _ _ _ (by decide)]) (by rw [up2_ne _ _ _ (by decide)]) (by rw [up2_ne _ _ _ (by decide)]) (by rw [up2_ne _ _ _ (by decide)]), fun j hj => ?_⟩
  obtain ⟨g1, g2, g3, g4⟩ := h.2.2 j hj
  unfold hs2
  rw [up2_ne _ _ _ (show (4 : Nat) ≠ 9 by decide), up2_ne _ _ _ (show (6 : Nat) ≠ 9 by decide), up2_ne _ _ _ (show (8 : Nat) ≠ 9 by decide), up2_ne _ _ _ (show (10 : Nat) ≠ 9 by decide), up2_at]
  by_cases hjk : j = k
  · rw [if_pos ⟨rfl, hjk⟩]
    exact ⟨g1, g2, g3, fun e => absurd e (pl_ne4 hpl)⟩
  · rw [if_neg (fun q => hjk q.2)]
    exact ⟨g1, g2, g3, g4⟩
theorem J2_renew {N : NN} {n d i k : Nat} (h : J2 N n d i) (hi : i < 1000) (hk : k < n) (h1 : ¬ N 9 k = -1) (h4 : ¬ N 9 k = 4) (h14 : n < 14) (hc : p_cost (N 3 k) (N 4 k) ≤ N 1 1) : J2 (p_renew N n k) (n + 1) d (i + 1) :=
  J2_add (J2_pl h h4 (Or.inl rfl)) hi h14 (h.1.2.2.2 k hk).1 (h.2.2 k hk).1 (pl_of h.1 hk h1 h4) hc
theorem J2_lend {N : NN} {n d i k days : Nat} (h : J2 N n d i) (h1 : 1 ≤ days) (h2 : days ≤ 99) : J2 (p_lend N k (nI days)) n d i := by
  have hday : N 1 0 + nI days = nI (d + days) := by rw [h.1.2.2.1, nI_add]
  unfold p_lend
  rw [hday]
  refine ⟨Inv_rows h.1 (by simp [up2_at]) (by simp [up2_at]) fun j hj => ?_, Gl_rows h.2.1 (by simp [up2_at]) (by simp [up2_at]) (by simp [up2_at]) (by simp [up2_at]) (by funext q; simp [up2_at]), fun j hj => ?_⟩
  · obtain ⟨g1, g2, g3, g4⟩ := h.1.2.2.2 j hj
    unfold hsOk
    simp only [up2_at]
    by_cases hjk : j = k
    · subst hjk
      simp
      exact ⟨g1, g2⟩
    · simp [hjk]
      exact ⟨g1, g2, g3, g4⟩
  · obtain ⟨g1, g2, g3, g4⟩ := h.2.2 j hj
    unfold hs2
    simp only [up2_at]
    by_cases hjk : j = k
    · subst hjk
      simp
      exact ⟨g1, g2, g3, ⟨d + days, by omega, by omega, rfl⟩⟩
    · simp [hjk]
      exact ⟨g1, g2, g3, g4⟩
/-! a test -/
theorem p_test_row {N : NN} {k P : Nat} {r : Nat} (h1 : r ≠ 1) (h7 : r ≠ 7) (h8 : r ≠ 8) (h9 : r ≠ 9) : p_test N k P r = N r := by
  funext q
  unfold p_test
  try simp only []
  split
  · simp [up2_at, h1, h7, h9]
  · split
    · simp [up2_at, h1, h7, h8]
    · simp [up2_at, h1, h7]
theorem p_test_one {N : NN} {k P : Nat} : p_test N k P 1 0 = N 1 0 ∧ p_test N k P 1 1 = N 1 1 ∧ p_test N k P 1 2 = N 1 2 ∧ p_test N k P 1 3 = N 1 3 + 1 ∧ (p_test N k P 1 4 = N 1 4 ∨ p_test N k P 1 4 = N 1 4 + 1) ∧ p_test N k P 1 5 = N 1 5 := by
  unfold p_test
  try simp only []
  split
  · simp [up2_at]
  · split <;> simp [up2_at]
theorem p_test_7 {N : NN} {k P : Nat} (j : Nat) : p_test N k P 7 j = if j = k then p_worn (N 7 k) (p_held N k P) else N 7 j := by
  unfold p_test
  try simp only []
  split
  · simp [up2_at]
  · split <;> simp [up2_at]
theorem p_test_8 {N : NN} {k P : Nat} (j : Nat) : p_test N k P 8 j = if j = k ∧ ¬ p_held N k P < p_S P ∧ N 0 0 ≤ nI P then N 1 0 + p_force (N 3 k) else N 8 j := by
  unfold p_test
  try simp only []
  split
  · rename_i h
    simp [up2_at, h]
  · rename_i h
    split
    · rename_i h2
      simp [up2_at, h, h2]
    · rename_i h2
      simp [up2_at, h, h2]
theorem p_test_9 {N : NN} {k P : Nat} (j : Nat) : p_test N k P 9 j = if j = k ∧ p_held N k P < p_S P then -1 else N 9 j := by
  unfold p_test
  try simp only []
  split
  · rename_i h
    simp [up2_at, h]
  · rename_i h
    split <;> simp [up2_at, h]
theorem force_nI (kd : Int32) : isN (p_force kd) 100 200 := by
  unfold p_force
  split
  · exact ⟨100, by omega, by omega, rfl⟩
  · split
    · exact ⟨150, by omega, by omega, rfl⟩
    · exact ⟨200, by omega, by omega, rfl⟩
theorem J2_test {N : NN} {n d i k P : Nat} (h : J2 N n d i) (hk : k < n) (h4 : ¬ N 9 k = 4) : J2 (p_test N k P) n d (i + 1) := by
  obtain ⟨o0, o1, o2, o3, o4, o5⟩ := p_test_one (N := N) (k := k) (P := P)
  have hb : N 10 k = -1 := (h.1.2.2.2 k hk).2.2.2 h4
  obtain ⟨w0, w1⟩ := (h.1.2.2.2 k hk).2.1
  obtain ⟨q, hq, e⟩ := p_worn_bd w0 w1 (p_held N k P)
  have hw : 0 ≤ p_worn (N 7 k) (p_held N k P) ∧ p_worn (N 7 k) (p_held N k P) ≤ 99 := by
    rw [e]
    exact ⟨nI_pos' (by omega), (nI_leI (a := q) (b := 99) (by omega) (by omega)).mpr hq⟩
  refine ⟨Inv_rows h.1 o2 o0 fun j hj => ?_, ?_, fun j hj => ?_⟩
  · obtain ⟨g1, g2, g3, g4⟩ := h.1.2.2.2 j hj
    unfold hsOk
    rw [p_test_row (by decide) (by decide) (by decide) (by decide), p_test_row (r := 10) (by decide) (by decide) (by decide) (by decide), p_test_7, p_test_9]
    refine ⟨g1, ?_, ?_, ?_⟩
    · split
      · exact hw
      · exact g2
    · split
      · exact Or.inl rfl
      · exact g3
    · split
      · rename_i hc
        intro _
        rw [hc.1]
        exact hb
      · exact g4
  · obtain ⟨c1, ⟨t, b, c2, c3, c4, c5⟩, c6, c7⟩ := h.2.1
    refine ⟨by rw [o1]; exact c1, ⟨t + 1, ?_⟩, by rw [o5]; exact c6.up (by omega) (by omega), by rw [p_test_row (by decide) (by decide) (by decide) (by decide)]; exact c7⟩
    rcases o4 with o4 | o4
    · exact ⟨b, by omega, by omega, by rw [o3, c4, nI_1], o4.trans c5⟩
    · exact ⟨b + 1, by omega, by omega, by rw [o3, c4, nI_1], by rw [o4, c5, nI_1]⟩
  · obtain ⟨g1, g2, g3, g4⟩ := h.2.2 j hj
    unfold hs2
    rw [p_test_row (by decide) (by decide) (by decide) (by decide), p_test_row (r := 6) (by decide) (by decide) (by decide) (by decide), p_test_row (r := 10) (by decide) (by decide) (by decide) (by decide), p_test_8, p_test_9]
    refine ⟨g1, g2, ?_, ?_⟩
    · split
      · right
        obtain ⟨f, f1, f2, ef⟩ := force_nI (N 3 k)
        rw [h.1.2.2.1, ef, nI_add]
        exact ⟨d + f, by omega, by omega, rfl⟩
      · exact g3
    · split
      · intro he
        exact absurd he (by decide)
      · exact g4
/-! lengths, settings -/
theorem J2_r2 {N : NN} {n d i t : Nat} {x : Int32} (h : J2 N n d i) : J2 (up2 N 2 t x) n d i :=
  ⟨Inv_rows h.1 rfl rfl fun j hj => hsOk_same rfl rfl rfl rfl (h.1.2.2.2 j hj), Gl_rows h.2.1 rfl rfl rfl rfl rfl, fun j hj => hs2_same rfl rfl rfl rfl rfl (h.2.2 j hj)⟩
theorem J2_r0 {N : NN} {n d i t : Nat} {x : Int32} (h : J2 N n d i) (ht : (t = 0 ∧ isN x 4 24) ∨ (t = 1 ∧ isN x 0 5) ∨ (t = 2 ∧ isN x 0 200)) : J2 (up2 N 0 t x) n d i := by
  refine ⟨Inv_rows h.1 rfl rfl fun j hj => hsOk_same rfl rfl rfl rfl (h.1.2.2.2 j hj), ?_, fun j hj => hs2_same rfl rfl rfl rfl rfl (h.2.2 j hj)⟩
  obtain ⟨c1, c2, c3, c4, c5, c6⟩ := h.2.1
  refine ⟨c1, c2, c3, ?_⟩
  rcases ht with ⟨rfl, hx⟩ | ⟨rfl, hx⟩ | ⟨rfl, hx⟩
  · exact ⟨by rw [up2_at, if_pos ⟨rfl, rfl⟩]; exact hx, by rw [up2_at, if_neg (by omega)]; exact c5, by rw [up2_at, if_neg (by omega)]; exact c6⟩
  · exact ⟨by rw [up2_at, if_neg (by omega)]; exact c4, by rw [up2_at, if_pos ⟨rfl, rfl⟩]; exact hx, by rw [up2_at, if_neg (by omega)]; exact c6⟩
  · exact ⟨by rw [up2_at, if_neg (by omega)]; exact c4, by rw [up2_at, if_neg (by omega)]; exact c5, by rw [up2_at, if_pos ⟨rfl, rfl⟩]; exact hx⟩
/-! a day passes -/
theorem p_tb_at (N : NN) : ∀ j k, p_tb N j 9 k = (if k < j ∧ N 9 k = 4 ∧ N 10 k = N 1 0 then 3 else N 9 k) ∧ p_tb N j 10 k = (if k < j ∧ N 9 k = 4 ∧ N 10 k = N 1 0 then -1 else N 10 k) := by
  intro j
  induction j with
  | zero => intro k; exact ⟨(if_neg (fun h => absurd h.1 (Nat.not_lt_zero _))).symm, (if_neg (fun h => absurd h.1 (Nat.not_lt_zero _))).symm⟩
  | succ j ih =>
    intro k
    obtain ⟨a9, a10⟩ := ih j
    rw [if_neg (fun h => absurd h.1 (Nat.lt_irrefl _))] at a9 a10
    have hc : (p_tb N j 9 j = 4 ∧ p_tb N j 10 j = p_tb N j 1 0) ↔ (N 9 j = 4 ∧ N 10 j = N 1 0) := by rw [a9, a10, p_tb_row1]
    have e : p_tb N (j + 1) = if N 9 j = 4 ∧ N 10 j = N 1 0 then up2 (up2 (p_tb N j) 9 j 3) 10 j (-1) else p_tb N j := ite_cg hc _ _
    obtain ⟨b9, b10⟩ := ih k
    by_cases hjk : k = j
    · subst hjk
      by_cases hk : N 9 k = 4 ∧ N 10 k = N 1 0
      · rw [e, if_pos hk, if_pos ⟨Nat.lt_succ_self _, hk⟩, if_pos ⟨Nat.lt_succ_self _, hk⟩]
        simp [up2_at]
      · rw [e, if_neg hk, if_neg (fun h => hk h.2), if_neg (fun h => hk h.2)]
        exact ⟨a9, a10⟩
    · have hlt : (k < j + 1 ∧ N 9 k = 4 ∧ N 10 k = N 1 0) ↔ (k < j ∧ N 9 k = 4 ∧ N 10 k = N 1 0) := ⟨fun h => ⟨by omega, h.2⟩, fun h => ⟨by omega, h.2⟩⟩
      rw [e, ite_cg hlt, ite_cg hlt]
      split
      · rw [← b9, ← b10]
        simp [up2_at, hjk]
      · exact ⟨b9, b10⟩
theorem p_day_row (N : NN) (n : Nat) {r : Nat} (h1 : r ≠ 1) (h7 : r ≠ 7) (h9 : r ≠ 9) (h10 : r ≠ 10) : p_day N n r = N r := by
  have e : p_wtd (p_tb (up2 N 1 0 (N 1 0 + 1)) n) n r = N r := by rw [p_wtd_row h7, p_tb_row _ h9 h10, up2_ne _ _ _ h1]
  unfold p_day p_mon
  split
  · rw [up2_ne _ _ _ h1]; exact e
  · exact e
theorem p_day_pl (N : NN) (n k : Nat) : p_day N n 9 k = (if k < n ∧ N 9 k = 4 ∧ N 10 k = N 1 0 + 1 then 3 else N 9 k) ∧ p_day N n 10 k = (if k < n ∧ N 9 k = 4 ∧ N 10 k = N 1 0 + 1 then -1 else N 10 k) := by
  obtain ⟨a9, a10⟩ := p_tb_at (up2 N 1 0 (N 1 0 + 1)) n k
  have e0 : up2 N 1 0 (N 1 0 + 1) 1 0 = N 1 0 + 1 := by rw [up2_at, if_pos ⟨rfl, rfl⟩]
  rw [e0, up2_ne _ _ _ (show (9 : Nat) ≠ 1 by decide), up2_ne _ _ _ (show (10 : Nat) ≠ 1 by decide)] at a9 a10
  have e9 : p_wtd (p_tb (up2 N 1 0 (N 1 0 + 1)) n) n 9 = p_tb (up2 N 1 0 (N 1 0 + 1)) n 9 := p_wtd_row (by decide)
  have e10 : p_wtd (p_tb (up2 N 1 0 (N 1 0 + 1)) n) n 10 = p_tb (up2 N 1 0 (N 1 0 + 1)) n 10 := p_wtd_row (by decide)
  unfold p_day p_mon
  split
  · rw [up2_ne _ _ _ (by decide), up2_ne (q := 10) _ _ _ (by decide), e9, e10]; exact ⟨a9, a10⟩
  · rw [e9, e10]; exact ⟨a9, a10⟩
theorem p_day_one (N : NN) (n : Nat) : p_day N n 1 0 = N 1 0 + 1 ∧ (p_day N n 1 1 = N 1 1 ∨ p_day N n 1 1 = mn 9999 (N 1 1 + N 0 2)) ∧ ∀ j, 2 ≤ j → p_day N n 1 j = N 1 j := by
  have e1 : p_wtd (p_tb (up2 N 1 0 (N 1 0 + 1)) n) n 1 = up2 N 1 0 (N 1 0 + 1) 1 := by rw [p_wtd_row (by decide), p_tb_row1]
  have e0 : p_wtd (p_tb (up2 N 1 0 (N 1 0 + 1)) n) n 0 = N 0 := by rw [p_wtd_row (by decide), p_tb_row _ (by decide) (by decide), up2_ne _ _ _ (by decide)]
  unfold p_day p_mon
  split
  · refine ⟨?_, Or.inr ?_, fun j hj => ?_⟩
    · rw [up2_at, if_neg (by omega), e1, up2_at, if_pos ⟨rfl, rfl⟩]
    · rw [up2_at, if_pos ⟨rfl, rfl⟩, e1, e0, up2_at, if_neg (by omega)]
    · rw [up2_at, if_neg (by omega), e1, up2_at, if_neg (by omega)]
  · refine ⟨?_, Or.inl ?_, fun j hj => ?_⟩
    · rw [e1, up2_at, if_pos ⟨rfl, rfl⟩]
    · rw [e1, up2_at, if_neg (by omega)]
    · rw [e1, up2_at, if_neg (by omega)]
theorem J2_day {N : NN} {n d i : Nat} (h : J2 N n d i) (hd : d < 2 ^ 29) : J2 (p_day N n) n (d + 1) i := by
  obtain ⟨o0, o1, o2⟩ := p_day_one N n
  refine ⟨Inv_day h.1, ?_, fun k hk => ?_⟩
  · obtain ⟨c1, ⟨t, b, c2, c3, c4, c5⟩, c6, c7⟩ := h.2.1
    refine ⟨?_, ⟨t, b, c2, c3, (o2 3 (by decide)).trans c4, (o2 4 (by decide)).trans c5⟩, by rw [o2 5 (by decide)]; exact c6, by rw [p_day_row _ _ (by decide) (by decide) (by decide) (by decide)]; exact c7⟩
    rcases o1 with e | e
    · rw [e]; exact c1
    · rw [e]
      obtain ⟨a, a1, a2, ea⟩ := c1
      obtain ⟨f, f1, f2, ef⟩ := c7.2.2
      rw [ea, ef, nI_add]
      unfold mn
      split
      · exact ⟨a + f, by omega, by
          rename_i hlt
          have := (nI_ltI (a := a + f) (b := 9999) (by omega) (by omega)).mp hlt
          omega, rfl⟩
      · exact ⟨9999, by omega, by omega, rfl⟩
  · obtain ⟨g1, g2, g3, g4⟩ := h.2.2 k hk
    obtain ⟨q9, q10⟩ := p_day_pl N n k
    unfold hs2
    rw [p_day_row _ _ (by decide) (by decide) (by decide) (by decide), p_day_row (r := 6) _ _ (by decide) (by decide) (by decide) (by decide), p_day_row (r := 8) _ _ (by decide) (by decide) (by decide) (by decide), q9, q10]
    refine ⟨g1, g2.up (by omega) (by omega), g3.elim Or.inl (fun q => Or.inr (q.up (by omega) (by omega))), ?_⟩
    split
    · intro he; exact absurd he (by decide)
    · rename_i hne
      intro he
      obtain ⟨b, b1, b2, eb⟩ := g4 he
      rw [eb]
      refine ⟨b, ?_, by omega, rfl⟩
      rcases Nat.lt_or_ge (d + 1) b with q | q
      · omega
      · exfalso
        have hbd : b = d + 1 := by omega
        exact hne ⟨hk, he, by rw [eb, h.1.2.2.1, hbd, nI_1]⟩
theorem J2_days {N : NN} {n d i : Nat} (h : J2 N n d i) (hd : d < 2 ^ 28) : ∀ j, j ≤ 1000 → J2 (p_days N n j) n (d + j) i := by
  intro j
  induction j with
  | zero => intro _; exact h
  | succ j ih => intro hj; exact J2_day (ih (by omega)) (show d + j < 2 ^ 29 by omega)
