/-! what a call answers: its code (0: it returns), and what becomes of the numbers -/
def kx (x : Int32) : Nat := x.toNatClampNeg
theorem kx_nI {k : Nat} (h : k < 2 ^ 31) : kx (nI k) = k := nI_clamp h
def here (N : NN) (k : Nat) : Bool := decide (0 ≤ N 9 k ∧ N 9 k ≤ 3)
def set_lo (si : Int32) : Int32 := if si = 0 then 4 else 0
def set_hi (si : Int32) : Int32 := if si = 0 then 24 else if si = 1 then 5 else 200
theorem kdOk_of {x : Int32} (h0 : 0 ≤ x) (h1 : x ≤ 2) : kdOk x := by
  obtain ⟨k, hk, rfl⟩ := p_isT h0 h1
  rcases (show k = 0 ∨ k = 1 ∨ k = 2 by omega) with rfl | rfl | rfl
  · exact Or.inl rfl
  · exact Or.inr (Or.inl rfl)
  · exact Or.inr (Or.inr rfl)
theorem p_can_lt {N : NN} {n : Nat} {kd ln : Int32} (hn : N 1 2 = nI n) (hn14 : n ≤ 14) (h : p_can N kd ln = true) : n < 14 := by
  have h1 := (of_decide_eq_true h).1
  rw [hn] at h1
  exact (nI_ltI (a := n) (b := 14) (by omega) (by omega)).mp h1
theorem us3_self (u : Nat → Int32) : us (us (us u 11 (u 11)) 12 (u 12)) 13 (u 13) = u := by
  funext q
  simp only [us_at]
  split
  · subst_vars; rfl
  · split
    · subst_vars; rfl
    · split
      · subst_vars; rfl
      · rfl
/-- what holds of every station: its numbers of hoses and its day, and of each hose its kind, wear, place and day back -/
def hsOk (N : NN) (k : Nat) : Prop := kdOk (N 3 k) ∧ (0 ≤ N 7 k ∧ N 7 k ≤ 99) ∧ (N 9 k = -1 ∨ N 9 k = 4 ∨ (0 ≤ N 9 k ∧ N 9 k ≤ 3)) ∧ (¬ N 9 k = 4 → N 10 k = -1)
def Inv (N : NN) (n d : Nat) : Prop := n ≤ 14 ∧ N 1 2 = nI n ∧ N 1 0 = nI d ∧ ∀ k, k < n → hsOk N k
theorem hsOk_same {N M : NN} {k : Nat} (h3 : M 3 k = N 3 k) (h7 : M 7 k = N 7 k) (h9 : M 9 k = N 9 k) (h10 : M 10 k = N 10 k) (h : hsOk N k) : hsOk M k := by
  unfold hsOk
  rw [h3, h7, h9, h10]
  exact h
theorem mn99_bd {w : Int32} (h0 : 0 ≤ w) (h1 : w ≤ 99) : 0 ≤ mn 99 (w + 1) ∧ mn 99 (w + 1) ≤ 99 := by
  obtain ⟨q, hq, e⟩ := p_worn_bd h0 h1 1
  have e2 : mn 99 (w + 1) = nI q := e
  rw [e2]
  exact ⟨nI_pos' (by omega), (nI_leI (a := q) (b := 99) (by omega) (by omega)).mpr hq⟩
theorem hsOk_up7 {N : NN} {k j : Nat} {x : Int32} (h0 : 0 ≤ x) (h1 : x ≤ 99) (h : hsOk N k) : hsOk (up2 N 7 j x) k := by
  refine ⟨h.1, ?_, h.2.2.1, h.2.2.2⟩
  rw [up2_at]
  split
  · exact ⟨h0, h1⟩
  · exact h.2.1
theorem tb_ok {N : NN} {n : Nat} (h : ∀ k, k < n → hsOk N k) : ∀ j k, k < n → hsOk (p_tb N j) k := by
  intro j
  induction j with
  | zero => exact h
  | succ j ih =>
    intro k hk
    unfold p_tb
    split
    · obtain ⟨g1, g2, g3, g4⟩ := ih k hk
      refine ⟨g1, g2, ?_, ?_⟩
      · rw [up2_ne _ _ _ (by decide), up2_at]
        split
        · exact Or.inr (Or.inr ⟨by decide, by decide⟩)
        · exact g3
      · intro h9
        rw [up2_ne _ _ _ (by decide), up2_at] at h9
        rw [up2_at]
        split
        · rfl
        · rename_i hne
          rw [up2_ne _ _ _ (by decide)]
          apply g4
          intro h4
          apply h9
          rw [if_neg (fun q => hne ⟨rfl, q.2⟩)]
          exact h4
    · exact ih k hk
theorem wt_ok {N : NN} {n : Nat} (h : ∀ k, k < n → hsOk N k) : ∀ j, j ≤ n → ∀ k, k < n → hsOk (p_wt N j) k := by
  intro j
  induction j with
  | zero => intro _; exact h
  | succ j ih =>
    intro hj k hk
    unfold p_wt
    split
    · obtain ⟨z0, z1⟩ := (ih (by omega) j (by omega)).2.1
      obtain ⟨y0, y1⟩ := mn99_bd z0 z1
      exact hsOk_up7 y0 y1 (ih (by omega) k hk)
    · exact ih (by omega) k hk
theorem Inv_day {N : NN} {n d : Nat} (h : Inv N n d) : Inv (p_day N n) n (d + 1) := by
  obtain ⟨h1, h2, h3, h4⟩ := h
  have hu : ∀ k, k < n → hsOk (up2 N 1 0 (N 1 0 + 1)) k := fun k hk => hsOk_same rfl rfl rfl rfl (h4 k hk)
  have ht := tb_ok hu n
  have hw : ∀ k, k < n → hsOk (p_wtd (p_tb (up2 N 1 0 (N 1 0 + 1)) n) n) k := by
    unfold p_wtd
    split
    · exact wt_ok ht n (Nat.le_refl n)
    · exact ht
  have r1 : p_wtd (p_tb (up2 N 1 0 (N 1 0 + 1)) n) n 1 = up2 N 1 0 (N 1 0 + 1) 1 := by
    rw [p_wtd_row (by decide), p_tb_row1]
  have m1 : ∀ i, i ≠ 1 → p_day N n i = p_wtd (p_tb (up2 N 1 0 (N 1 0 + 1)) n) n i := by
    intro i hi
    unfold p_day p_mon
    split
    · exact up2_ne _ _ _ hi
    · rfl
  have m2 : ∀ j, j ≠ 1 → p_day N n 1 j = up2 N 1 0 (N 1 0 + 1) 1 j := by
    intro j hj
    unfold p_day p_mon
    split
    · rw [up2_at, if_neg (by omega), r1]
    · rw [r1]
  refine ⟨h1, ?_, ?_, fun k hk => ?_⟩
  · rw [m2 2 (by decide)]; exact h2
  · rw [m2 0 (by decide), up2_at, if_pos ⟨rfl, rfl⟩, h3, nI_1]
  · exact hsOk_same (by rw [m1 3 (by decide)]) (by rw [m1 7 (by decide)]) (by rw [m1 9 (by decide)]) (by rw [m1 10 (by decide)]) (hw k hk)
theorem Inv_days {N : NN} {n d : Nat} (h : Inv N n d) : ∀ j, Inv (p_days N n j) n (d + j) := by
  intro j
  induction j with
  | zero => exact h
  | succ j ih => exact Inv_day ih
theorem day_nn {N : NN} {n d : Nat} (h : Inv N n d) (hd : d < 2 ^ 30) : 0 ≤ N 1 0 + 1 := by
  rw [h.2.2.1, nI_1]
  exact nI_pos' (by omega)
theorem Inv_d0 {N : NN} {n d : Nat} (h : Inv N n d) (hd : d < 2 ^ 30) : 0 ≤ N 1 0 := by
  rw [h.2.2.1]
  exact nI_pos' (by omega)
