/-! what an act brings, and that the relation holds behind it -/
def J3 (N : NN) (n d i : Nat) : Prop := J2 N n d i ∧ ∀ t, t < 3 → isN (N 2 t) 0 200
theorem J3_up {N : NN} {n d i : Nat} (h : J3 N n d i) : J3 N n d (i + 1) := ⟨J2_up h.1, h.2⟩
theorem J3_of {N M : NN} {n d i n2 d2 i2 : Nat} (h : J3 N n d i) (hJ : J2 M n2 d2 i2) (e : M 2 = N 2) : J3 M n2 d2 i2 := ⟨hJ, fun t ht => by rw [e]; exact h.2 t ht⟩
theorem p_add_2 (N : NN) (n : Nat) (kd ln cp pl : Int32) : p_add N n kd ln cp pl 2 = N 2 := by
  funext q; unfold p_add; simp [up2_at]
theorem p_days_2 (N : NN) (n : Nat) : ∀ w, p_days N n w 2 = N 2 := by
  intro w
  induction w with
  | zero => rfl
  | succ w ih => exact (p_day_row (p_days N n w) n (by decide) (by decide) (by decide) (by decide)).trans ih
def LR2 (N : NN) (n d qi kc : Nat) (R : Nat → NN) (i : Nat) : Prop := J3 N n d i ∧ d ≤ 100 * i ∧ qi < 6 ∧ kc ≤ 6 ∧ ∀ j, j < kc → ∃ n' d' : Nat, J3 (R ((qi + 6 - j) % 6)) n' d' i ∧ d' ≤ 100 * i
theorem LR2_up {N : NN} {n d qi kc i : Nat} {R : Nat → NN} (h : LR2 N n d qi kc R i) : LR2 N n d qi kc R (i + 1) := by
  obtain ⟨h1, h2, h3, h4, h5⟩ := h
  refine ⟨J3_up h1, by omega, h3, h4, fun j hj => ?_⟩
  obtain ⟨n', d', g1, g2⟩ := h5 j hj
  exact ⟨n', d', J3_up g1, by omega⟩
theorem updN_self (R : Nat → NN) (q : Nat) (N : NN) : updN R q N q = N := by
  unfold updN
  rw [show Nat.beq q q = true from Nat.beq_refl q]
  rfl
theorem updN_ne (R : Nat → NN) {q j : Nat} (N : NN) (h : j ≠ q) : updN R q N j = R j := by
  unfold updN
  have h1 : Nat.beq j q = false := by
    cases hb : Nat.beq j q with
    | true => exact absurd (Nat.eq_of_beq_eq_true hb) h
    | false => rfl
  rw [h1]
  rfl
theorem p_nx_mod {q : Nat} (h : q < 6) : p_nx q = (q + 1) % 6 := by
  rcases (show q = 0 ∨ q = 1 ∨ q = 2 ∨ q = 3 ∨ q = 4 ∨ q = 5 by omega) with rfl | rfl | rfl | rfl | rfl | rfl <;> rfl
theorem p_pv_mod {q : Nat} (h : q < 6) : p_pv q = (q + 5) % 6 := by
  rcases (show q = 0 ∨ q = 1 ∨ q = 2 ∨ q = 3 ∨ q = 4 ∨ q = 5 by omega) with rfl | rfl | rfl | rfl | rfl | rfl <;> rfl
theorem m_kc_le {kc : Nat} (h : kc ≤ 6) : m_kc kc ≤ 6 := by
  unfold m_kc
  split <;> omega
theorem LR2_save {N N2 : NN} {n d n2 d2 qi kc i : Nat} {R : Nat → NN} (h : LR2 N n d qi kc R i) (hI : J3 N2 n2 d2 (i + 1)) (hd : d2 ≤ 100 * (i + 1)) : LR2 N2 n2 d2 (p_nx qi) (m_kc kc) (updN R (p_nx qi) N) (i + 1) := by
  obtain ⟨a1, a2, a3, a4, a5⟩ := h
  refine ⟨hI, hd, p_nx_lt a3, m_kc_le a4, fun j hj => ?_⟩
  have hk6 := m_kc_le a4
  have hx := p_nx_lt a3
  cases j with
  | zero =>
    have e : (p_nx qi + 6 - 0) % 6 = p_nx qi := by omega
    rw [e, updN_self]
    exact ⟨n, d, J3_up a1, by omega⟩
  | succ j =>
    have hkc : j < kc := by
      unfold m_kc at hj
      split at hj <;> omega
    have e : (p_nx qi + 6 - (j + 1)) % 6 = (qi + 6 - j) % 6 := by
      rw [p_nx_mod a3]
      omega
    have hne : (qi + 6 - j) % 6 ≠ p_nx qi := by
      rw [p_nx_mod a3]
      omega
    rw [e, updN_ne R N hne]
    obtain ⟨n', d', b1, b2⟩ := a5 j hkc
    exact ⟨n', d', J3_up b1, by omega⟩
theorem LR2_undo {N : NN} {n d qi kp i : Nat} {R : Nat → NN} (h : LR2 N n d qi (kp + 1) R i) : ∃ n2 d2 : Nat, LR2 (R qi) n2 d2 (p_pv qi) kp R (i + 1) := by
  obtain ⟨a1, a2, a3, a4, a5⟩ := h
  obtain ⟨n', d', b1, b2⟩ := a5 0 (by omega)
  have e0 : (qi + 6 - 0) % 6 = qi := by omega
  rw [e0] at b1
  refine ⟨n', d', J3_up b1, by omega, p_pv_lt a3, by omega, fun j hj => ?_⟩
  obtain ⟨n1, d1, c1, c2⟩ := a5 (j + 1) (by omega)
  have e : (p_pv qi + 6 - j) % 6 = (qi + 6 - (j + 1)) % 6 := by
    rw [p_pv_mod a3]
    omega
  rw [e]
  exact ⟨n1, d1, J3_up c1, by omega⟩
/-- the state that an act may change: the ring's place, how many are saved, the station, the ring -/
abbrev AU : Type := Nat × Nat × NN × (Nat → NN)
/-- one of the class's acts: refused, with nothing changed, or done, with the state before saved -/
def kAct (qi kc : Nat) (N : NN) (R : Nat → NN) (ok : Prop) (res : Int32) (M : NN) (t : Int32) (y : AU) : Prop := (¬ ok ∧ t = -3 ∧ y = (qi, kc, N, R)) ∨ (ok ∧ t = res ∧ y = (p_nx qi, m_kc kc, M, updN R (p_nx qi) N))
def kUndo (qi kc : Nat) (N : NN) (R : Nat → NN) (t : Int32) (y : AU) : Prop := (kc = 0 ∧ t = -3 ∧ y = (qi, kc, N, R)) ∨ (∃ kp : Nat, kc = kp + 1 ∧ t = nI kp ∧ y = (p_pv qi, kp, R qi, R))
/-- the hose that a number of the script means -/
def p_hx (v : Int32) (n : Nat) : Nat := if n = 0 then 0 else p_low v n
theorem p_hx_lt (v : Int32) {n : Nat} (h : ¬ n = 0) : p_hx v n < n := by
  unfold p_hx
  rw [if_neg h]
  exact p_low_lt v (by omega)
/-- what is known behind a turn's act: S its sort, h the hose, P the pressure -/
def AP (N : NN) (n d qi kc : Nat) (R : Nat → NN) (i S h P : Nat) (t : Int32) (y : AU) : Prop :=
  (t = -3 ∧ y = (qi, kc, N, R) ∧ (S < 16 ∨ 18 < S)) ∨
  ∃ tn n' d' : Nat, tn < 2 ^ 30 ∧ t = nI tn ∧ LR2 y.2.2.1 n' d' y.1 y.2.1 y.2.2.2 (i + 1) ∧
    (S ≤ 4 → t = nI n ∧ ∃ c : Nat, 0 < c ∧ c ≤ 210 ∧ y.2.2.1 1 1 = N 1 1 - nI c ∧ y.2.2.1 1 5 = N 1 5 + nI c) ∧
    (9 ≤ S → S ≤ 12 → h < n ∧ ¬ N 9 h = -1 ∧ t = p_out N h P ∧ y.2.2.1 = p_test N h P ∧ n' = n) ∧
    (16 ≤ S → S ≤ 18 → t = y.2.2.1 1 0 ∧ N 1 0 < t)
section AP
variable {N : NN} {n d qi kc i S h P : Nat} {R : Nat → NN} {t : Int32} {y : AU}
theorem ap_ref (hS : S < 16 ∨ 18 < S) : AP N n d qi kc R i S h P (-3) (qi, kc, N, R) := Or.inl ⟨rfl, rfl, hS⟩
theorem can_spec {kd ln : Int32} (hn : N 1 2 = nI n) (hn14 : n ≤ 14) (hc : p_can N kd ln = true) : n < 14 ∧ p_cost kd ln ≤ N 1 1 := ⟨p_can_lt hn hn14 hc, (of_decide_eq_true hc).2⟩
theorem ap_buy {kd ln cp : Int32} (hL : LR2 N n d qi kc R i) (hi : i < 1000) (hS : S ≤ 3) (hkd : kdOk kd) (hl : isN ln 5 50) (hp : kAct qi kc N R (p_can N kd ln = true) (nI n) (p_add N n kd ln cp 3) t y) : AP N n d qi kc R i S h P t y := by
  rcases hp with ⟨-, rfl, rfl⟩ | ⟨hc, rfl, rfl⟩
  · exact ap_ref (by omega)
  · obtain ⟨h14, hco⟩ := can_spec hL.1.1.1.2.1 hL.1.1.1.1 hc
    obtain ⟨c, c1, c2, ec⟩ := cost_nI hkd hl
    obtain ⟨e0, e1, e2, e3, e4, e5⟩ := p_add_one N n kd ln cp 3
    refine Or.inr ⟨n, n + 1, d, by omega, rfl, LR2_save hL (J3_of hL.1 (J2_add hL.1.1 hi h14 hkd hl ⟨by decide, by decide⟩ hco) (p_add_2 N n kd ln cp 3)) (by have := hL.2.1; omega), fun _ => ⟨rfl, c, by omega, c2, ?_, ?_⟩, fun q => absurd q (by omega), fun q => absurd q (by omega)⟩
    · rw [← ec]; exact e2
    · rw [← ec]; exact e5
theorem ap_renew (hL : LR2 N n d qi kc R i) (hi : i < 1000) (hS : S = 4) (hh : h < n) (hp : kAct qi kc N R ((¬ N 9 h = -1 ∧ ¬ N 9 h = 4) ∧ p_can N (N 3 h) (N 4 h) = true) (nI n) (p_renew N n h) t y) : AP N n d qi kc R i S h P t y := by
  rcases hp with ⟨-, rfl, rfl⟩ | ⟨⟨⟨h1, h4⟩, hc⟩, rfl, rfl⟩
  · exact ap_ref (by omega)
  · obtain ⟨h14, hco⟩ := can_spec hL.1.1.1.2.1 hL.1.1.1.1 hc
    obtain ⟨c, c1, c2, ec⟩ := cost_nI (hL.1.1.1.2.2.2 h hh).1 (hL.1.1.2.2 h hh).1
    obtain ⟨e0, e1, e2, e3, e4, e5⟩ := p_add_one (up2 N 9 h (-1)) n (N 3 h) (N 4 h) (N 5 h) (N 9 h)
    refine Or.inr ⟨n, n + 1, d, by omega, rfl, LR2_save hL (J3_of hL.1 (J2_renew hL.1.1 hi hh h1 h4 h14 hco) ((p_add_2 (up2 N 9 h (-1)) n (N 3 h) (N 4 h) (N 5 h) (N 9 h)).trans (up2_ne _ _ _ (by decide)))) (by have := hL.2.1; omega), fun _ => ⟨rfl, c, by omega, c2, ?_, ?_⟩, fun q => absurd q (by omega), fun q => absurd q (by omega)⟩
    · rw [← ec]; exact e2
    · rw [← ec]; exact e5
theorem ap_put {pl : Int32} (hL : LR2 N n d qi kc R i) (hS : 5 ≤ S ∧ S ≤ 8) (hh : h < n) (hpl : 0 ≤ pl ∧ pl ≤ 3) (hp : kAct qi kc N R (¬ N 9 h = -1 ∧ ¬ N 9 h = 4) (N 9 h) (up2 N 9 h pl) t y) : AP N n d qi kc R i S h P t y := by
  rcases hp with ⟨-, rfl, rfl⟩ | ⟨⟨h1, h4⟩, rfl, rfl⟩
  · exact ap_ref (by omega)
  · obtain ⟨p0, p1⟩ := pl_of hL.1.1.1 hh h1 h4
    obtain ⟨q, -, hq, eq⟩ := p_isB (lo := 0) (hi := 3) (by decide) (by decide) p0 p1
    exact Or.inr ⟨q, n, d, by omega, eq, LR2_save hL (J3_of hL.1 (J2_up (J2_pl hL.1.1 h4 (Or.inr hpl))) (show up2 N 9 h pl 2 = N 2 from up2_ne _ _ _ (by decide))) (by have := hL.2.1; omega), fun q => absurd q (by omega), fun q => absurd q (by omega), fun q => absurd q (by omega)⟩
theorem ap_lend {dd : Nat} (hL : LR2 N n d qi kc R i) (hi : i < 1000) (hS : 5 ≤ S ∧ S ≤ 8) (hd1 : 1 ≤ dd) (hd2 : dd ≤ 99) (hp : kAct qi kc N R (p_reason N h = 0) (N 1 0 + nI dd) (p_lend N h (nI dd)) t y) : AP N n d qi kc R i S h P t y := by
  rcases hp with ⟨-, rfl, rfl⟩ | ⟨hr, rfl, rfl⟩
  · exact ap_ref (by omega)
  · have hday : N 1 0 + nI dd = nI (d + dd) := by rw [hL.1.1.1.2.2.1, nI_add]
    have hd := hL.2.1
    exact Or.inr ⟨d + dd, n, d, by omega, hday, LR2_save hL (J3_of hL.1 (J2_up (J2_lend hL.1.1 hd1 hd2)) (show up2 (up2 N 9 h 4) 10 h (N 1 0 + nI dd) 2 = N 2 by rw [up2_ne _ _ _ (by decide), up2_ne _ _ _ (by decide)])) (by omega), fun q => absurd q (by omega), fun q => absurd q (by omega), fun q => absurd q (by omega)⟩
theorem ap_test (hL : LR2 N n d qi kc R i) (hS : 9 ≤ S ∧ S ≤ 12) (hh : h < n) (hP : P ≤ 24) (hp : kAct qi kc N R (¬ N 9 h = -1 ∧ ¬ N 9 h = 4) (p_out N h P) (p_test N h P) t y) : AP N n d qi kc R i S h P t y := by
  rcases hp with ⟨-, rfl, rfl⟩ | ⟨⟨h1, h4⟩, rfl, rfl⟩
  · exact ap_ref (by omega)
  · have hle := p_held_le N h P
    have hs := p_S_le hP
    have ho : ∃ tn, tn < 2 ^ 30 ∧ p_out N h P = nI tn := by
      unfold p_out
      split
      · exact ⟨_, by omega, rfl⟩
      · exact ⟨_, by omega, rfl⟩
    obtain ⟨tn, ht, et⟩ := ho
    exact Or.inr ⟨tn, n, d, ht, et, LR2_save hL (J3_of hL.1 (J2_test hL.1.1 hh h4) (p_test_row (by decide) (by decide) (by decide) (by decide))) (by have := hL.2.1; omega), fun q => absurd q (by omega), fun _ _ => ⟨hh, h1, rfl, rfl, rfl⟩, fun q => absurd q (by omega)⟩
theorem ap_want {t9 : Nat} {ln : Int32} (hL : LR2 N n d qi kc R i) (hS : S = 13) (ht : t9 < 3) (hln : isN ln 0 200) : AP N n d qi kc R i S h P (N 2 t9) (p_nx qi, m_kc kc, up2 N 2 t9 ln, updN R (p_nx qi) N) := by
  obtain ⟨q, -, hq, eq⟩ := hL.1.2 t9 ht
  exact Or.inr ⟨q, n, d, by omega, eq, LR2_save hL ⟨J2_up (J2_r2 hL.1.1), fun t9' ht' => by
    show isN (up2 N 2 t9 ln 2 t9') 0 200
    rw [up2_at]
    split
    · exact hln
    · exact hL.1.2 t9' ht'⟩ (by have := hL.2.1; omega), fun q => absurd q (by omega), fun _ q => absurd q (by omega), fun q => absurd q (by omega)⟩
theorem ap_set {t9 : Nat} {x : Int32} (hL : LR2 N n d qi kc R i) (hS : S = 14 ∨ S = 15) (ht : (t9 = 0 ∧ isN x 4 24) ∨ (t9 = 1 ∧ isN x 0 5) ∨ (t9 = 2 ∧ isN x 0 200)) : AP N n d qi kc R i S h P (N 0 t9) (p_nx qi, m_kc kc, up2 N 0 t9 x, updN R (p_nx qi) N) := by
  have hq : ∃ q : Nat, q < 2 ^ 30 ∧ N 0 t9 = nI q := by
    obtain ⟨c1, c2, c3, ⟨a, a1, a2, a3⟩, ⟨b, b1, b2, b3⟩, ⟨e, e1, e2, e3⟩⟩ := hL.1.1.2.1
    rcases ht with ⟨rfl, -⟩ | ⟨rfl, -⟩ | ⟨rfl, -⟩
    · exact ⟨a, by omega, a3⟩
    · exact ⟨b, by omega, b3⟩
    · exact ⟨e, by omega, e3⟩
  obtain ⟨q, hq, eq⟩ := hq
  exact Or.inr ⟨q, n, d, hq, eq, LR2_save hL (J3_of hL.1 (J2_up (J2_r0 hL.1.1 ht)) (show up2 N 0 t9 x 2 = N 2 from up2_ne _ _ _ (by decide))) (by have := hL.2.1; omega), fun q => absurd q (by omega), fun _ q => absurd q (by omega), fun q => absurd q (by omega)⟩
theorem ap_pass {w : Nat} (hL : LR2 N n d qi kc R i) (hi : i < 1000) (hS : 16 ≤ S ∧ S ≤ 18) (h1 : 1 ≤ w) (h2 : w ≤ 100) : AP N n d qi kc R i S h P (p_days N n w 1 0) (p_nx qi, m_kc kc, p_days N n w, updN R (p_nx qi) N) := by
  have hd := hL.2.1
  have hJ := J2_days hL.1.1 (by omega) w (by omega)
  refine Or.inr ⟨d + w, n, d + w, by omega, hJ.1.2.2.1, LR2_save hL (J3_of hL.1 (J2_up hJ) (p_days_2 N n w)) (by omega), fun q => absurd q (by omega), fun _ q => absurd q (by omega), fun _ _ => ⟨rfl, ?_⟩⟩
  rw [hJ.1.2.2.1, hL.1.1.1.2.2.1]
  exact nI_lt (by omega) (by omega)
theorem ap_undo (hL : LR2 N n d qi kc R i) (hS : 18 < S) (hp : kUndo qi kc N R t y) : AP N n d qi kc R i S h P t y := by
  rcases hp with ⟨-, rfl, rfl⟩ | ⟨kp, rfl, rfl, rfl⟩
  · exact ap_ref (by omega)
  · have hk := hL.2.2.2.1
    obtain ⟨n2, d2, hL2⟩ := LR2_undo hL
    exact Or.inr ⟨kp, n2, d2, by omega, rfl, hL2, fun q => absurd q (by omega), fun _ q => absurd q (by omega), fun _ q => absurd q (by omega)⟩
end AP
