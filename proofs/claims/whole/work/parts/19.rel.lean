/-! class and reference side by side, behind at most i calls; every call keeps it -/
def LR (N : NN) (n dy qi kc z : Nat) (R : Nat → NN) (P mv : Nat → Int32) (i : Nat) : Prop :=
  Inv N n dy ∧ dy ≤ 100 * i ∧ qi < 6 ∧ kc ≤ 6 ∧ z ≤ 60 ∧ mv 2 = nI kc ∧ mv 4 = nI z ∧
  ∀ j, j < kc → (∃ n' d' : Nat, Inv (R ((qi + 6 - j) % 6)) n' d' ∧ d' ≤ 100 * i) ∧ ∀ q, q < 124 → P (124 * (kc - 1 - j) + q) = flat (R ((qi + 6 - j) % 6)) q
theorem LR_keep {N : NN} {n dy qi kc z i z' : Nat} {R : Nat → NN} {P mv mv' : Nat → Int32} (h : LR N n dy qi kc z R P mv i) (h2 : mv' 2 = nI kc) (h4 : mv' 4 = nI z') (hz : z' ≤ 60) : LR N n dy qi kc z' R P mv' (i + 1) := by
  obtain ⟨a1, a2, a3, a4, a5, a6, a7, a8⟩ := h
  refine ⟨a1, by omega, a3, a4, hz, h2, h4, fun j hj => ?_⟩
  obtain ⟨⟨n', d', b1, b2⟩, b3⟩ := a8 j hj
  exact ⟨⟨n', d', b1, by omega⟩, b3⟩
theorem updN_self (R : Nat → NN) (q : Nat) (N : NN) : updN R q N q = N := by
  unfold updN
  rw [show Nat.beq q q = true from Nat.beq_refl q]
  rfl
theorem updN_ne (R : Nat → NN) {q j : Nat} (N : NN) (h : j ≠ q) : updN R q N j = R j := by
  unfold updN
  have h1 : Nat.beq j q = false := by
    cases hb : Nat.beq j q with
    | true => exact absurd (Nat.eq_of_beq_eq_true hb) h
    | false => rfl
  rw [h1]
  rfl
theorem p_nx_mod {q : Nat} (h : q < 6) : p_nx q = (q + 1) % 6 := by
  rcases (show q = 0 ∨ q = 1 ∨ q = 2 ∨ q = 3 ∨ q = 4 ∨ q = 5 by omega) with rfl | rfl | rfl | rfl | rfl | rfl <;> rfl
theorem p_pv_mod {q : Nat} (h : q < 6) : p_pv q = (q + 5) % 6 := by
  rcases (show q = 0 ∨ q = 1 ∨ q = 2 ∨ q = 3 ∨ q = 4 ∨ q = 5 by omega) with rfl | rfl | rfl | rfl | rfl | rfl <;> rfl
theorem m_sv_new (P f : Nat → Int32) {kc q : Nat} (hk : kc ≤ 6) (hq : q < 124) : m_sv P f kc (124 * (m_kc kc - 1) + q) = f q := by
  unfold m_sv m_kc
  by_cases h : kc = 6
  · rw [if_pos h, if_pos h]
    show (if 620 ≤ 124 * (6 - 1) + q ∧ 124 * (6 - 1) + q < 620 + 124 then f (124 * (6 - 1) + q - 620) else _) = f q
    rw [if_pos (by omega), show 124 * (6 - 1) + q - 620 = q by omega]
  · rw [if_neg h, if_neg h]
    show (if 124 * kc ≤ 124 * (kc + 1 - 1) + q ∧ 124 * (kc + 1 - 1) + q < 124 * kc + 124 then f (124 * (kc + 1 - 1) + q - 124 * kc) else _) = f q
    have e : 124 * (kc + 1 - 1) = 124 * kc := by rw [Nat.add_sub_cancel]
    rw [e, if_pos (by omega), show 124 * kc + q - 124 * kc = q by omega]
theorem m_sv_old (P f : Nat → Int32) {kc q j : Nat} (hk : kc ≤ 6) (hq : q < 124) (hj : j + 1 < m_kc kc) : m_sv P f kc (124 * (m_kc kc - 1 - (j + 1)) + q) = P (124 * (kc - 1 - j) + q) := by
  unfold m_sv m_kc at *
  by_cases h : kc = 6
  · rw [if_pos h] at hj
    rw [if_pos h, if_pos h]
    show (if 620 ≤ 124 * (6 - 1 - (j + 1)) + q ∧ 124 * (6 - 1 - (j + 1)) + q < 620 + 124 then _ else (if 124 * (6 - 1 - (j + 1)) + q < 620 then P (124 * (6 - 1 - (j + 1)) + q + 124) else _)) = _
    rw [if_neg (by omega), if_pos (by omega), h]
    congr 1
    omega
  · rw [if_neg h] at hj
    rw [if_neg h, if_neg h]
    show (if 124 * kc ≤ 124 * (kc + 1 - 1 - (j + 1)) + q ∧ _ then _ else P (124 * (kc + 1 - 1 - (j + 1)) + q)) = _
    have hlt : 124 * (kc + 1 - 1 - (j + 1)) + q < 124 * kc := by
      have : kc + 1 - 1 - (j + 1) + 1 ≤ kc := by omega
      omega
    rw [if_neg (by omega)]
    congr 1
    omega
theorem m_kc_le {kc : Nat} (h : kc ≤ 6) : m_kc kc ≤ 6 := by
  unfold m_kc
  split <;> omega
theorem LR_save {N N2 : NN} {n dy n2 d2 qi kc z i z' : Nat} {R : Nat → NN} {P mv mv' : Nat → Int32} (h : LR N n dy qi kc z R P mv i) (hI : Inv N2 n2 d2) (hd : d2 ≤ 100 * (i + 1)) (h2 : mv' 2 = nI (m_kc kc)) (h4 : mv' 4 = nI z') (hz : z' ≤ 60) :
    LR N2 n2 d2 (p_nx qi) (m_kc kc) z' (updN R (p_nx qi) N) (m_sv P (flat N) kc) mv' (i + 1) := by
  obtain ⟨a1, a2, a3, a4, a5, a6, a7, a8⟩ := h
  have hx := p_nx_lt a3
  refine ⟨hI, hd, hx, m_kc_le a4, hz, h2, h4, fun j hj => ?_⟩
  have hk6 := m_kc_le a4
  cases j with
  | zero =>
    have e : (p_nx qi + 6 - 0) % 6 = p_nx qi := by omega
    rw [e, updN_self]
    refine ⟨⟨n, dy, a1, by omega⟩, fun q hq => ?_⟩
    exact m_sv_new P (flat N) a4 hq
  | succ j =>
    have hkc : j < kc := by
      unfold m_kc at hj
      split at hj <;> omega
    have e : (p_nx qi + 6 - (j + 1)) % 6 = (qi + 6 - j) % 6 := by
      rw [p_nx_mod a3]
      omega
    have hne : (qi + 6 - j) % 6 ≠ p_nx qi := by
      rw [p_nx_mod a3]
      omega
    rw [e, updN_ne R N hne]
    obtain ⟨⟨n', d', b1, b2⟩, b3⟩ := a8 j hkc
    exact ⟨⟨n', d', b1, by omega⟩, fun q hq => (m_sv_old P (flat N) a4 hq hj).trans (b3 q hq)⟩
theorem LR_undo {N : NN} {n dy qi kp z i : Nat} {R : Nat → NN} {P mv mv' : Nat → Int32} (h : LR N n dy qi (kp + 1) z R P mv i) (h2 : mv' 2 = nI kp) (h4 : mv' 4 = nI z) : ∃ n2 d2 : Nat, LR (R qi) n2 d2 (p_pv qi) kp z R P mv' (i + 1) := by
  obtain ⟨a1, a2, a3, a4, a5, a6, a7, a8⟩ := h
  obtain ⟨⟨n', d', b1, b2⟩, -⟩ := a8 0 (by omega)
  have e0 : (qi + 6 - 0) % 6 = qi := by omega
  rw [e0] at b1
  refine ⟨n', d', b1, by omega, p_pv_lt a3, by omega, a5, h2, h4, fun j hj => ?_⟩
  obtain ⟨⟨n1, d1, c1, c2⟩, c3⟩ := a8 (j + 1) (by omega)
  have e : (p_pv qi + 6 - j) % 6 = (qi + 6 - (j + 1)) % 6 := by
    rw [p_pv_mod a3]
    omega
  rw [e]
  refine ⟨⟨n1, d1, c1, by omega⟩, fun q hq => ?_⟩
  have := c3 q hq
  rw [show kp + 1 - 1 - (j + 1) = kp - 1 - j by omega] at this
  exact this
theorem LR_hM {N : NN} {n dy qi kc z i : Nat} {R : Nat → NN} {P mv : Nat → Int32} (h : LR N n dy qi kc z R P mv i) : ∀ kp, kc = kp + 1 → ∀ j, j < 124 → P (124 * kp + j) = flat (R qi) j := by
  intro kp hk j hj
  obtain ⟨a1, a2, a3, a4, a5, a6, a7, a8⟩ := h
  have := (a8 0 (by omega)).2 j hj
  rw [show (qi + 6 - 0) % 6 = qi by omega, show kc - 1 - 0 = kp by omega] at this
  exact this
theorem LR_act {N N2 : NN} {n dy qi kc z i z' : Nat} {R : Nat → NN} {P mv mv' : Nat → Int32} {rc : Int32} (h : LR N n dy qi kc z R P mv i) (hg : rc = 0 → ∃ n2 d2 : Nat, Inv N2 n2 d2 ∧ d2 ≤ 100 * (i + 1)) (h2 : mv' 2 = sK rc kc) (h4 : mv' 4 = nI z') (hz : z' ≤ 60) :
    ∃ n2 d2 : Nat, LR (sN rc N N2) n2 d2 (sQ rc qi) (sC rc kc) z' (sR6 rc R qi N) (sP rc P (flat N) kc) mv' (i + 1) := by
  unfold sN sQ sC sR6 sP
  unfold sK at h2
  by_cases hr : rc = 0
  · obtain ⟨n2, d2, hI, hd⟩ := hg hr
    simp only [if_pos hr] at h2 ⊢
    exact ⟨n2, d2, LR_save h hI hd h2 h4 hz⟩
  · simp only [if_neg hr] at h2 ⊢
    exact ⟨n, dy, LR_keep h h2 h4 hz⟩
/-! the calls keep what holds of every station -/
theorem Inv_rows {N M : NN} {n d : Nat} (h : Inv N n d) (h12 : M 1 2 = N 1 2) (h10 : M 1 0 = N 1 0) (hk : ∀ k, k < n → hsOk M k) : Inv M n d := ⟨h.1, h12.trans h.2.1, h10.trans h.2.2.1, hk⟩
theorem Inv_add {N : NN} {n d : Nat} {kd ln cp pl : Int32} (h : Inv N n d) (h14 : n < 14) (hkd : kdOk kd) (hpl : 0 ≤ pl ∧ pl ≤ 3) : Inv (p_add N n kd ln cp pl) (n + 1) d := by
  obtain ⟨h1, h2, h3, h4⟩ := h
  have e : ∀ i k, i ≠ 1 → i ≠ 3 → i ≠ 4 → i ≠ 5 → i ≠ 6 → i ≠ 7 → i ≠ 8 → i ≠ 9 → i ≠ 10 → p_add N n kd ln cp pl i k = N i k := by
    intro i k g1 g3 g4 g5 g6 g7 g8 g9 g10
    unfold p_add
    simp [up2_at, g1, g3, g4, g5, g6, g7, g8, g9, g10]
  have q3 : ∀ k, p_add N n kd ln cp pl 3 k = if k = n then kd else N 3 k := by intro k; unfold p_add; simp [up2_at]
  have q7 : ∀ k, p_add N n kd ln cp pl 7 k = if k = n then 0 else N 7 k := by intro k; unfold p_add; simp [up2_at]
  have q9 : ∀ k, p_add N n kd ln cp pl 9 k = if k = n then pl else N 9 k := by intro k; unfold p_add; simp [up2_at]
  have q10 : ∀ k, p_add N n kd ln cp pl 10 k = if k = n then -1 else N 10 k := by intro k; unfold p_add; simp [up2_at]
  refine ⟨by omega, ?_, ?_, fun k hk => ?_⟩
  · rw [p_add_12, h2, nI_1]
  · rw [← h3]; unfold p_add; simp [up2_at]
  · by_cases hkn : k = n
    · unfold hsOk
      rw [q3, q7, q9, q10, if_pos hkn, if_pos hkn, if_pos hkn, if_pos hkn]
      exact ⟨hkd, ⟨by decide, by decide⟩, Or.inr (Or.inr hpl), fun _ => rfl⟩
    · exact hsOk_same (by rw [q3, if_neg hkn]) (by rw [q7, if_neg hkn]) (by rw [q9, if_neg hkn]) (by rw [q10, if_neg hkn]) (h4 k (by omega))
theorem Inv_pl {N : NN} {n d k : Nat} {pl : Int32} (h : Inv N n d) (h4 : ¬ N 9 k = 4) (hpl : pl = -1 ∨ (0 ≤ pl ∧ pl ≤ 3)) : Inv (up2 N 9 k pl) n d := by
  refine Inv_rows h (by rw [up2_ne _ _ _ (by decide)]) (by rw [up2_ne _ _ _ (by decide)]) fun j hj => ?_
  obtain ⟨g1, g2, g3, g4⟩ := h.2.2.2 j hj
  unfold hsOk
  rw [up2_ne _ _ _ (show (3 : Nat) ≠ 9 by decide), up2_ne _ _ _ (show (7 : Nat) ≠ 9 by decide), up2_ne _ _ _ (show (10 : Nat) ≠ 9 by decide), up2_at]
  by_cases hjk : j = k
  · subst hjk
    rw [if_pos ⟨rfl, rfl⟩]
    exact ⟨g1, g2, hpl.elim Or.inl (fun q => Or.inr (Or.inr q)), fun _ => g4 h4⟩
  · rw [if_neg (fun q => hjk q.2)]
    exact ⟨g1, g2, g3, g4⟩
theorem pl_of {N : NN} {n d k : Nat} (h : Inv N n d) (hk : k < n) (h1 : ¬ N 9 k = -1) (h4 : ¬ N 9 k = 4) : 0 ≤ N 9 k ∧ N 9 k ≤ 3 := by
  rcases (h.2.2.2 k hk).2.2.1 with q | q | q
  · exact absurd q h1
  · exact absurd q h4
  · exact q
theorem Inv_renew {N : NN} {n d k : Nat} (h : Inv N n d) (hk : k < n) (h1 : ¬ N 9 k = -1) (h4 : ¬ N 9 k = 4) (h14 : n < 14) : Inv (p_renew N n k) (n + 1) d :=
  Inv_add (Inv_pl h h4 (Or.inl rfl)) h14 (h.2.2.2 k hk).1 (pl_of h hk h1 h4)
theorem Inv_lend {N : NN} {n d k : Nat} (h : Inv N n d) (dd : Int32) : Inv (p_lend N k dd) n d := by
  unfold p_lend
  refine Inv_rows h (by rw [up2_ne _ _ _ (by decide), up2_ne _ _ _ (by decide)]) (by rw [up2_ne _ _ _ (by decide), up2_ne _ _ _ (by decide)]) fun j hj => ?_
  obtain ⟨g1, g2, g3, g4⟩ := h.2.2.2 j hj
  unfold hsOk
  simp only [up2_at]
  by_cases hjk : j = k
  · subst hjk
    simp
    exact ⟨g1, g2⟩
  · simp [hjk]
    exact ⟨g1, g2, g3, g4⟩
theorem Inv_test {N : NN} {n d k w : Nat} (h : Inv N n d) (hk : k < n) (h4 : ¬ N 9 k = 4) : Inv (p_test N k w) n d := by
  have hb : N 10 k = -1 := (h.2.2.2 k hk).2.2.2 h4
  obtain ⟨w0, w1⟩ := (h.2.2.2 k hk).2.1
  obtain ⟨q, hq, e⟩ := p_worn_bd w0 w1 (p_held N k w)
  have hw : 0 ≤ p_worn (N 7 k) (p_held N k w) ∧ p_worn (N 7 k) (p_held N k w) ≤ 99 := by
    rw [e]
    exact ⟨nI_pos' (by omega), (nI_leI (a := q) (b := 99) (by omega) (by omega)).mpr hq⟩
  have hM : Inv (up2 (up2 N 7 k (p_worn (N 7 k) (p_held N k w))) 1 3 (N 1 3 + 1)) n d := by
    refine Inv_rows h (by simp [up2_at]) (by simp [up2_at]) fun j hj => ?_
    obtain ⟨g1, g2, g3, g4⟩ := h.2.2.2 j hj
    unfold hsOk
    simp only [up2_at]
    by_cases hjk : j = k
    · subst hjk
      simp
      exact ⟨g1, hw, g3, g4⟩
    · simp [hjk]
      exact ⟨g1, g2, g3, g4⟩
  unfold p_test
  simp only []
  split
  · have hM2 : Inv (up2 (up2 (up2 N 7 k (p_worn (N 7 k) (p_held N k w))) 1 3 (N 1 3 + 1)) 1 4 ((up2 (up2 N 7 k (p_worn (N 7 k) (p_held N k w))) 1 3 (N 1 3 + 1)) 1 4 + 1)) n d :=
      Inv_rows hM (by simp [up2_at]) (by simp [up2_at]) fun j hj => hsOk_same (by simp [up2_at]) (by simp [up2_at]) (by simp [up2_at]) (by simp [up2_at]) (hM.2.2.2 j hj)
    exact Inv_pl hM2 (by simp [up2_at]; exact h4) (Or.inl rfl)
  · split
    · exact Inv_rows hM (by simp [up2_at]) (by simp [up2_at]) fun j hj => hsOk_same (by simp [up2_at]) (by simp [up2_at]) (by simp [up2_at]) (by simp [up2_at]) (hM.2.2.2 j hj)
    · exact hM
theorem Inv_r2 {N : NN} {n d t : Nat} {x : Int32} (h : Inv N n d) : Inv (up2 N 2 t x) n d := Inv_rows h rfl rfl fun j hj => hsOk_same rfl rfl rfl rfl (h.2.2.2 j hj)
theorem Inv_r0 {N : NN} {n d t : Nat} {x : Int32} (h : Inv N n d) : Inv (up2 N 0 t x) n d := Inv_rows h rfl rfl fun j hj => hsOk_same rfl rfl rfl rfl (h.2.2.2 j hj)
theorem kd_ok {x : Int32} (h : ¬ p_kd x = -1) : kdOk (p_kd x) := by
  unfold p_kd at h ⊢
  split
  · exact Or.inl rfl
  · split
    · exact Or.inr (Or.inl rfl)
    · split
      · exact Or.inr (Or.inr rfl)
      · rename_i a b c
        rw [if_neg a, if_neg b, if_neg c] at h
        exact absurd rfl h
theorem Inv_bN (T : Nat → Int32) {N : NN} {n d : Nat} (h : Inv N n d) : ∀ i, (∃ m : Nat, Inv (b_N T N i) m d) ∧ kdOk (b_k T N i) := by
  intro i
  induction i with
  | zero => exact ⟨⟨n, h⟩, Or.inl rfl⟩
  | succ i ih =>
    obtain ⟨⟨m, hm⟩, hkd⟩ := ih
    by_cases hs : (p_bp T N i).1 = true
    · show (∃ m : Nat, Inv ((p_bp T N (i + 1)).2.2.2.2) m d) ∧ kdOk ((p_bp T N (i + 1)).2.2.1)
      rw [bp_stop hs (i + 1) (by omega)]
      exact ⟨⟨m, hm⟩, hkd⟩
    · have hs : (p_bp T N i).1 = false := by simpa using hs
      by_cases hk : p_kd (T i) = -1
      · by_cases hd : 48 ≤ T i ∧ T i ≤ 57
        · have e := bp_2 hs hk hd
          unfold b_N b_k
          rw [e]
          exact ⟨⟨m, hm⟩, hkd⟩
        · by_cases hc : p_cp (T i) = -1
          · have e := bp_4 hs hk hd hc
            unfold b_N b_k
            rw [e]
            exact ⟨⟨m, hm⟩, hkd⟩
          · cases hb : p_can (b_N T N i) (b_k T N i) (b_l T N i) with
            | false =>
              have e := bp_5 hs hk hd hc hb
              unfold b_N b_k
              rw [e]
              exact ⟨⟨m, hm⟩, hkd⟩
            | true =>
              have e := bp_3 hs hk hd hc hb
              have h14 := p_can_lt hm.2.1 hm.1 hb
              show (∃ m : Nat, Inv ((p_bp T N (i + 1)).2.2.2.2) m d) ∧ kdOk ((p_bp T N (i + 1)).2.2.1)
              rw [e]
              refine ⟨⟨m + 1, ?_⟩, hkd⟩
              show Inv (p_ad (b_N T N i) (b_k T N i) (b_l T N i) (p_cp (T i)) 3) (m + 1) d
              rw [p_ad_n hm.2.1 hm.1]
              exact Inv_add hm h14 hkd ⟨by decide, by decide⟩
      · have e := bp_1 hs hk
        unfold b_N b_k
        rw [e]
        exact ⟨⟨m, hm⟩, kd_ok hk⟩
