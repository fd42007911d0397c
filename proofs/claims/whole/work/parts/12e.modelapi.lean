abbrev rmX5_buy : Room := { frames := 2, cells := 0, slots := 0, locals := 46 }
set_option maxHeartbeats 4000000 in
set_option maxRecDepth 100000 in
theorem c_X5_buy (l : Launch) (D : va_G) (cI cS cL : ClassId) (a : Nat → Nat) (N : NN) (P T U v : Nat → Int32) (sz : Nat) (n kc : Nat) (kd ln cp : Int32) (hn : N 1 2 = nI n) (hn14 : n ≤ 14) (hc : v 2 = nI kc) (hc6 : kc ≤ 6) : Met l yX5_buy (wy_ yX5_buy cX5_buy 4 (some .int)) rmX5_buy (kPc D (kTy cI cS cL) (mdW cI a N P T U v) sz [.ref (a 0), .int kd, .int ln, .int cp]) (kMi D (mdW cI a N P T U v) (mdW cI a (sN (rc_buy N kd ln cp) N (p_add N n kd ln cp 3)) (sP (rc_buy N kd ln cp) P (flat N) kc) T U (us (us v 2 (sK (rc_buy N kd ln cp) kc)) 5 (rc_buy N kd ln cp))) sz (sR (rc_buy N kd ln cp) (nI n))) 0 0 (va_A (mdW cI a N P T U v) sz) := by
  refine k_ofW (by decide) (Nat.le_of_ble_eq_true rfl) ?_
  intro p e s m args below meth c hx hb hr hml hts hown hlocks hnm hsz hP hK hD hE ls hl
  subst hsz
  have hA : ∀ q : Nat, s.heap.size ≤ q → (va_A (mdW cI a N P T U v) s.heap.size) q := fun q h => Or.inr h
  have hS : va_S (va_A (mdW cI a N P T U v) s.heap.size) s.heap s.heap [] := va_S.rf
  have hl : lv_has ls 4 [(0, .ref (a 0)), (1, .int kd), (2, .int ln), (3, .int cp)] := hl
  refine lv_aload_n hx hb dX5_buy_0 rfl (lv_at hl 0 rfl) ?_
  refine lv_iconst (v := 0) hx hb dX5_buy_1 (by decide) ?_
  refine f5 hx hb hts hown hK hP hD hS 0 rfl 5 (by decide) flX5_22 (fun _ h => h) rfl rfl rfl (Nat.le_of_ble_eq_true rfl) dX5_buy_2 (fun H locs hP hD hS => ?_)
  have hP : va_P D vwCl (mdW cI a N P T U (us v 5 0)) H := hP
  have hD : va_D (va_A (mdW cI a N P T U v) s.heap.size) (mdW cI a N P T U (us v 5 0)) := hD
  refine lv_iload_n hx hb dX5_buy_5 rfl (lv_at hl 1 rfl) ?_
  refine lv_iconst (v := 0) hx hb dX5_buy_6 (by decide) ?_
  refine lv_iconst (v := 2) hx hb dX5_buy_7 (by decide) ?_
  refine k_riS (As := [.int kd, .int 0, .int 2]) (rest := []) (wc := []) ⟨hx, hb, hml, hown, hts⟩ (c_X5_in l D cI cS cL _ kd 0 2) lkX5_26 rfl rfl ⟨(Nat.le_of_ble_eq_true rfl), (Nat.le_of_ble_eq_true rfl)⟩ hK hE k_nilP (k_nilD (A := va_A (mdW cI a N P T U v) s.heap.size)) rfl hl.1 rfl (Nat.le_of_ble_eq_true rfl) dX5_buy_8 ⟨Nat.zero_le _, Nat.zero_le _⟩ ?_
  refine lv_if_eq (tgt := 33) hx hb dX5_buy_11 (by decide) (fun c1 => ?_) (fun c1 => ?_)
  · have c1 := bI_eq0 c1
    have hrc : rc_buy N kd ln cp = 1 := by simp [rc_buy, c1]
    refine lv_aload_n hx hb dX5_buy_33 rfl (lv_at hl 0 rfl) ?_
    refine lv_iconst (v := 1) hx hb dX5_buy_34 (by decide) ?_
    refine k_miV (As := [.int 1]) (rest := []) (w1 := []) (wc := mdW cI a N P T U (us v 5 0)) (wc' := mdW cI a N P T U (us v 5 1)) (w3 := []) ⟨hx, hb, hml, hown, hts⟩ (c_X5_fails l D cI cS cL a N P T U (us v 5 0) _ 1) lkX5_33 rfl rfl ⟨(Nat.le_of_ble_eq_true rfl), (Nat.le_of_ble_eq_true rfl)⟩ (va_recv hK hP (ci := 4) (q0 := 0) rfl rfl) hK hE hP hD hS hA rfl rfl hl.1 rfl (Nat.le_of_ble_eq_true rfl) dX5_buy_35 ⟨Nat.zero_le _, Nat.zero_le _⟩ (fun H locs hzz hP hD hS => ?_)
    have hP : va_P D vwCl (mdW cI a N P T U (us v 5 1)) H := hP
    have hD : va_D (va_A (mdW cI a N P T U v) s.heap.size) (mdW cI a N P T U (us v 5 1)) := hD
    have w2 : N = (sN (rc_buy N kd ln cp) N (p_add N n kd ln cp 3)) := by rw [hrc]; first | done | rfl | (simp only [hcl]; first | done | rfl)
    have hP : va_P D vwCl (mdW cI a (sN (rc_buy N kd ln cp) N (p_add N n kd ln cp 3)) P T U (us v 5 1)) H := (congrArg (fun zz => va_P D vwCl (mdW cI a zz P T U (us v 5 1)) H) w2).mp hP
    have hD : va_D (va_A (mdW cI a N P T U v) s.heap.size) (mdW cI a (sN (rc_buy N kd ln cp) N (p_add N n kd ln cp 3)) P T U (us v 5 1)) := (congrArg (fun zz => va_D (va_A (mdW cI a N P T U v) s.heap.size) (mdW cI a zz P T U (us v 5 1))) w2).mp hD
    have w3 : P = (sP (rc_buy N kd ln cp) P (flat N) kc) := by rw [hrc]; first | done | rfl | (simp only [hcl]; first | done | rfl)
    have hP : va_P D vwCl (mdW cI a (sN (rc_buy N kd ln cp) N (p_add N n kd ln cp 3)) (sP (rc_buy N kd ln cp) P (flat N) kc) T U (us v 5 1)) H := (congrArg (fun zz => va_P D vwCl (mdW cI a (sN (rc_buy N kd ln cp) N (p_add N n kd ln cp 3)) zz T U (us v 5 1)) H) w3).mp hP
    have hD : va_D (va_A (mdW cI a N P T U v) s.heap.size) (mdW cI a (sN (rc_buy N kd ln cp) N (p_add N n kd ln cp 3)) (sP (rc_buy N kd ln cp) P (flat N) kc) T U (us v 5 1)) := (congrArg (fun zz => va_D (va_A (mdW cI a N P T U v) s.heap.size) (mdW cI a (sN (rc_buy N kd ln cp) N (p_add N n kd ln cp 3)) zz T U (us v 5 1))) w3).mp hD
    have w4 : (us v 5 1) = (us (us v 2 (sK (rc_buy N kd ln cp) kc)) 5 (rc_buy N kd ln cp)) := by rw [hrc, show sK 1 kc = v 2 from hc.symm, us_v]
    have hP : va_P D vwCl (mdW cI a (sN (rc_buy N kd ln cp) N (p_add N n kd ln cp 3)) (sP (rc_buy N kd ln cp) P (flat N) kc) T U (us (us v 2 (sK (rc_buy N kd ln cp) kc)) 5 (rc_buy N kd ln cp))) H := (congrArg (fun zz => va_P D vwCl (mdW cI a (sN (rc_buy N kd ln cp) N (p_add N n kd ln cp 3)) (sP (rc_buy N kd ln cp) P (flat N) kc) T U zz) H) w4).mp hP
    have hD : va_D (va_A (mdW cI a N P T U v) s.heap.size) (mdW cI a (sN (rc_buy N kd ln cp) N (p_add N n kd ln cp 3)) (sP (rc_buy N kd ln cp) P (flat N) kc) T U (us (us v 2 (sK (rc_buy N kd ln cp) kc)) 5 (rc_buy N kd ln cp))) := (congrArg (fun zz => va_D (va_A (mdW cI a N P T U v) s.heap.size) (mdW cI a (sN (rc_buy N kd ln cp) N (p_add N n kd ln cp 3)) (sP (rc_buy N kd ln cp) P (flat N) kc) T U zz)) w4).mp hD
    have hP : va_P D vwCl (mdW cI a (sN (rc_buy N kd ln cp) N (p_add N n kd ln cp 3)) (sP (rc_buy N kd ln cp) P (flat N) kc) T U (us (us v 2 (sK (rc_buy N kd ln cp) kc)) 5 (rc_buy N kd ln cp))) H := hP
    have hD : va_D (va_A (mdW cI a N P T U v) s.heap.size) (mdW cI a (sN (rc_buy N kd ln cp) N (p_add N n kd ln cp 3)) (sP (rc_buy N kd ln cp) P (flat N) kc) T U (us (us v 2 (sK (rc_buy N kd ln cp) kc)) 5 (rc_buy N kd ln cp))) := hD
    exact k_eMi hx hb hr hlocks hP hS (by rw [hrc]; first | done | rfl | (simp only [hcl]; first | done | rfl)) dX5_buy_38
  · have c1 := bI_ne0 c1
    have hk2 := c1
    refine lv_iload_n hx hb dX5_buy_14 rfl (lv_at hl 2 rfl) ?_
    refine lv_iconst (v := 5) hx hb dX5_buy_15 (by decide) ?_
    refine lv_bipush (v := 50) hx hb dX5_buy_16 (by decide) ?_
    refine k_riS (As := [.int ln, .int 5, .int 50]) (rest := []) (wc := []) ⟨hx, hb, hml, hown, hts⟩ (c_X5_in l D cI cS cL _ ln 5 50) lkX5_26 rfl rfl ⟨(Nat.le_of_ble_eq_true rfl), (Nat.le_of_ble_eq_true rfl)⟩ hK hE k_nilP (k_nilD (A := va_A (mdW cI a N P T U v) s.heap.size)) rfl hl.1 rfl (Nat.le_of_ble_eq_true rfl) dX5_buy_18 ⟨Nat.zero_le _, Nat.zero_le _⟩ ?_
    refine lv_if_eq (tgt := 33) hx hb dX5_buy_21 (by decide) (fun c5 => ?_) (fun c5 => ?_)
    · have c5 := bI_eq0 c5
      have hrc : rc_buy N kd ln cp = 1 := by simp [rc_buy, c1, hk2, c5]
      refine lv_aload_n hx hb dX5_buy_33 rfl (lv_at hl 0 rfl) ?_
      refine lv_iconst (v := 1) hx hb dX5_buy_34 (by decide) ?_
      refine k_miV (As := [.int 1]) (rest := []) (w1 := []) (wc := mdW cI a N P T U (us v 5 0)) (wc' := mdW cI a N P T U (us v 5 1)) (w3 := []) ⟨hx, hb, hml, hown, hts⟩ (c_X5_fails l D cI cS cL a N P T U (us v 5 0) _ 1) lkX5_33 rfl rfl ⟨(Nat.le_of_ble_eq_true rfl), (Nat.le_of_ble_eq_true rfl)⟩ (va_recv hK hP (ci := 4) (q0 := 0) rfl rfl) hK hE hP hD hS hA rfl rfl hl.1 rfl (Nat.le_of_ble_eq_true rfl) dX5_buy_35 ⟨Nat.zero_le _, Nat.zero_le _⟩ (fun H locs hzz hP hD hS => ?_)
      have hP : va_P D vwCl (mdW cI a N P T U (us v 5 1)) H := hP
      have hD : va_D (va_A (mdW cI a N P T U v) s.heap.size) (mdW cI a N P T U (us v 5 1)) := hD
      have w6 : N = (sN (rc_buy N kd ln cp) N (p_add N n kd ln cp 3)) := by rw [hrc]; first | done | rfl | (simp only [hcl]; first | done | rfl)
      have hP : va_P D vwCl (mdW cI a (sN (rc_buy N kd ln cp) N (p_add N n kd ln cp 3)) P T U (us v 5 1)) H := (congrArg (fun zz => va_P D vwCl (mdW cI a zz P T U (us v 5 1)) H) w6).mp hP
      have hD : va_D (va_A (mdW cI a N P T U v) s.heap.size) (mdW cI a (sN (rc_buy N kd ln cp) N (p_add N n kd ln cp 3)) P T U (us v 5 1)) := (congrArg (fun zz => va_D (va_A (mdW cI a N P T U v) s.heap.size) (mdW cI a zz P T U (us v 5 1))) w6).mp hD
      have w7 : P = (sP (rc_buy N kd ln cp) P (flat N) kc) := by rw [hrc]; first | done | rfl | (simp only [hcl]; first | done | rfl)
      have hP : va_P D vwCl (mdW cI a (sN (rc_buy N kd ln cp) N (p_add N n kd ln cp 3)) (sP (rc_buy N kd ln cp) P (flat N) kc) T U (us v 5 1)) H := (congrArg (fun zz => va_P D vwCl (mdW cI a (sN (rc_buy N kd ln cp) N (p_add N n kd ln cp 3)) zz T U (us v 5 1)) H) w7).mp hP
      have hD : va_D (va_A (mdW cI a N P T U v) s.heap.size) (mdW cI a (sN (rc_buy N kd ln cp) N (p_add N n kd ln cp 3)) (sP (rc_buy N kd ln cp) P (flat N) kc) T U (us v 5 1)) := (congrArg (fun zz => va_D (va_A (mdW cI a N P T U v) s.heap.size) (mdW cI a (sN (rc_buy N kd ln cp) N (p_add N n kd ln cp 3)) zz T U (us v 5 1))) w7).mp hD
      have w8 : (us v 5 1) = (us (us v 2 (sK (rc_buy N kd ln cp) kc)) 5 (rc_buy N kd ln cp)) := by rw [hrc, show sK 1 kc = v 2 from hc.symm, us_v]
      have hP : va_P D vwCl (mdW cI a (sN (rc_buy N kd ln cp) N (p_add N n kd ln cp 3)) (sP (rc_buy N kd ln cp) P (flat N) kc) T U (us (us v 2 (sK (rc_buy N kd ln cp) kc)) 5 (rc_buy N kd ln cp))) H := (congrArg (fun zz => va_P D vwCl (mdW cI a (sN (rc_buy N kd ln cp) N (p_add N n kd ln cp 3)) (sP (rc_buy N kd ln cp) P (flat N) kc) T U zz) H) w8).mp hP
      have hD : va_D (va_A (mdW cI a N P T U v) s.heap.size) (mdW cI a (sN (rc_buy N kd ln cp) N (p_add N n kd ln cp 3)) (sP (rc_buy N kd ln cp) P (flat N) kc) T U (us (us v 2 (sK (rc_buy N kd ln cp) kc)) 5 (rc_buy N kd ln cp))) := (congrArg (fun zz => va_D (va_A (mdW cI a N P T U v) s.heap.size) (mdW cI a (sN (rc_buy N kd ln cp) N (p_add N n kd ln cp 3)) (sP (rc_buy N kd ln cp) P (flat N) kc) T U zz)) w8).mp hD
      have hP : va_P D vwCl (mdW cI a (sN (rc_buy N kd ln cp) N (p_add N n kd ln cp 3)) (sP (rc_buy N kd ln cp) P (flat N) kc) T U (us (us v 2 (sK (rc_buy N kd ln cp) kc)) 5 (rc_buy N kd ln cp))) H := hP
      have hD : va_D (va_A (mdW cI a N P T U v) s.heap.size) (mdW cI a (sN (rc_buy N kd ln cp) N (p_add N n kd ln cp 3)) (sP (rc_buy N kd ln cp) P (flat N) kc) T U (us (us v 2 (sK (rc_buy N kd ln cp) kc)) 5 (rc_buy N kd ln cp))) := hD
      exact k_eMi hx hb hr hlocks hP hS (by rw [hrc]; first | done | rfl | (simp only [hcl]; first | done | rfl)) dX5_buy_38
    · have c5 := bI_ne0 c5
      refine lv_iload_n hx hb dX5_buy_24 rfl (lv_at hl 3 rfl) ?_
      refine lv_iconst (v := 0) hx hb dX5_buy_25 (by decide) ?_
      refine lv_iconst (v := 2) hx hb dX5_buy_26 (by decide) ?_
      refine k_riS (As := [.int cp, .int 0, .int 2]) (rest := []) (wc := []) ⟨hx, hb, hml, hown, hts⟩ (c_X5_in l D cI cS cL _ cp 0 2) lkX5_26 rfl rfl ⟨(Nat.le_of_ble_eq_true rfl), (Nat.le_of_ble_eq_true rfl)⟩ hK hE k_nilP (k_nilD (A := va_A (mdW cI a N P T U v) s.heap.size)) rfl hl.1 rfl (Nat.le_of_ble_eq_true rfl) dX5_buy_27 ⟨Nat.zero_le _, Nat.zero_le _⟩ ?_
      refine lv_if_ne (tgt := 39) hx hb dX5_buy_30 (by decide) (fun c9 => ?_) (fun c9 => ?_)
      · have c9 := bI_ne0 c9
        refine lv_aload_n hx hb dX5_buy_39 rfl (lv_at hl 0 rfl) ?_
        refine lv_iload_n hx hb dX5_buy_40 rfl (lv_at hl 1 rfl) ?_
        refine lv_iload_n hx hb dX5_buy_41 rfl (lv_at hl 2 rfl) ?_
        refine k_riV (As := [.int kd, .int ln]) (rest := []) (wc := mdW cI a N P T U (us v 5 0)) ⟨hx, hb, hml, hown, hts⟩ (c_X5_mayBuy l D cI cS cL a N P T U (us v 5 0) _ kd ln (kdOk_of hk2.1 hk2.2)) lkX5_73 rfl rfl ⟨(Nat.le_of_ble_eq_true rfl), (Nat.le_of_ble_eq_true rfl)⟩ (va_recv hK hP (ci := 4) (q0 := 0) rfl rfl) hK hE hP hD rfl hl.1 rfl (Nat.le_of_ble_eq_true rfl) dX5_buy_42 ⟨Nat.zero_le _, Nat.zero_le _⟩ ?_
        refine lv_if_ne (tgt := 54) hx hb dX5_buy_45 (by decide) (fun c10 => ?_) (fun c10 => ?_)
        · have c10 := bI_neT c10
          have hcan := c10
          have h14 : n < 14 := p_can_lt hn hn14 hcan
          have hrc : rc_buy N kd ln cp = 0 := by simp [rc_buy, c1, hk2, c5, c9, c10, hcan, h14]
          refine lv_aload_n hx hb dX5_buy_54 rfl (lv_at hl 0 rfl) ?_
          refine k_mvV (As := []) (rest := []) (w1 := []) (wc := mdW cI a N P T U (us v 5 0)) (wc' := mdW cI a N (m_sv P (flat N) kc) T U (us (us v 2 (nI (m_kc kc))) 5 0)) (w3 := []) ⟨hx, hb, hml, hown, hts⟩ (c_X5_saves l D cI cS cL a N P T U (us v 5 0) _ kc hc (by omega)) lkX5_77 rfl rfl ⟨(Nat.le_of_ble_eq_true rfl), (Nat.le_of_ble_eq_true rfl)⟩ (va_recv hK hP (ci := 4) (q0 := 0) rfl rfl) hK hE hP hD hS hA rfl rfl hl.1 rfl (Nat.le_of_ble_eq_true rfl) dX5_buy_55 ⟨Nat.zero_le _, Nat.zero_le _⟩ (fun H locs hzz hP hD hS => ?_)
          have hP : va_P D vwCl (mdW cI a N (m_sv P (flat N) kc) T U (us (us v 2 (nI (m_kc kc))) 5 0)) H := hP
          have hD : va_D (va_A (mdW cI a N P T U v) s.heap.size) (mdW cI a N (m_sv P (flat N) kc) T U (us (us v 2 (nI (m_kc kc))) 5 0)) := hD
          refine lv_aload_n hx hb dX5_buy_58 rfl (lv_at hl 0 rfl) ?_
          refine lv_iload_n hx hb dX5_buy_59 rfl (lv_at hl 1 rfl) ?_
          refine lv_iload_n hx hb dX5_buy_60 rfl (lv_at hl 2 rfl) ?_
          refine lv_iload_n hx hb dX5_buy_61 rfl (lv_at hl 3 rfl) ?_
          refine lv_iconst (v := 3) hx hb dX5_buy_62 (by decide) ?_
          refine k_miV (As := [.int kd, .int ln, .int cp, .int 3]) (rest := []) (w1 := []) (wc := mdW cI a N (m_sv P (flat N) kc) T U (us (us v 2 (nI (m_kc kc))) 5 0)) (wc' := mdW cI a (p_add N n kd ln cp 3) (m_sv P (flat N) kc) T U (us (us v 2 (nI (m_kc kc))) 5 0)) (w3 := []) ⟨hx, hb, hml, hown, hts⟩ (c_X5_buys l D cI cS cL a N (m_sv P (flat N) kc) T U (us (us v 2 (nI (m_kc kc))) 5 0) _ n kd ln cp 3 hn (by omega) (kdOk_of hk2.1 hk2.2)) lkX5_80 rfl rfl ⟨(Nat.le_of_ble_eq_true rfl), (Nat.le_of_ble_eq_true rfl)⟩ (va_recv hK hP (ci := 4) (q0 := 0) rfl rfl) hK hE hP hD hS hA rfl rfl hl.1 rfl (Nat.le_of_ble_eq_true rfl) dX5_buy_63 ⟨Nat.zero_le _, Nat.zero_le _⟩ (fun H locs hzz hP hD hS => ?_)
          have hP : va_P D vwCl (mdW cI a (p_add N n kd ln cp 3) (m_sv P (flat N) kc) T U (us (us v 2 (nI (m_kc kc))) 5 0)) H := hP
          have hD : va_D (va_A (mdW cI a N P T U v) s.heap.size) (mdW cI a (p_add N n kd ln cp 3) (m_sv P (flat N) kc) T U (us (us v 2 (nI (m_kc kc))) 5 0)) := hD
          have w11 : (p_add N n kd ln cp 3) = (sN (rc_buy N kd ln cp) N (p_add N n kd ln cp 3)) := by rw [hrc]; first | done | rfl | (simp only [hcl]; first | done | rfl)
          have hP : va_P D vwCl (mdW cI a (sN (rc_buy N kd ln cp) N (p_add N n kd ln cp 3)) (m_sv P (flat N) kc) T U (us (us v 2 (nI (m_kc kc))) 5 0)) H := (congrArg (fun zz => va_P D vwCl (mdW cI a zz (m_sv P (flat N) kc) T U (us (us v 2 (nI (m_kc kc))) 5 0)) H) w11).mp hP
          have hD : va_D (va_A (mdW cI a N P T U v) s.heap.size) (mdW cI a (sN (rc_buy N kd ln cp) N (p_add N n kd ln cp 3)) (m_sv P (flat N) kc) T U (us (us v 2 (nI (m_kc kc))) 5 0)) := (congrArg (fun zz => va_D (va_A (mdW cI a N P T U v) s.heap.size) (mdW cI a zz (m_sv P (flat N) kc) T U (us (us v 2 (nI (m_kc kc))) 5 0))) w11).mp hD
          have w12 : (m_sv P (flat N) kc) = (sP (rc_buy N kd ln cp) P (flat N) kc) := by rw [hrc]; first | done | rfl | (simp only [hcl]; first | done | rfl)
          have hP : va_P D vwCl (mdW cI a (sN (rc_buy N kd ln cp) N (p_add N n kd ln cp 3)) (sP (rc_buy N kd ln cp) P (flat N) kc) T U (us (us v 2 (nI (m_kc kc))) 5 0)) H := (congrArg (fun zz => va_P D vwCl (mdW cI a (sN (rc_buy N kd ln cp) N (p_add N n kd ln cp 3)) zz T U (us (us v 2 (nI (m_kc kc))) 5 0)) H) w12).mp hP
          have hD : va_D (va_A (mdW cI a N P T U v) s.heap.size) (mdW cI a (sN (rc_buy N kd ln cp) N (p_add N n kd ln cp 3)) (sP (rc_buy N kd ln cp) P (flat N) kc) T U (us (us v 2 (nI (m_kc kc))) 5 0)) := (congrArg (fun zz => va_D (va_A (mdW cI a N P T U v) s.heap.size) (mdW cI a (sN (rc_buy N kd ln cp) N (p_add N n kd ln cp 3)) zz T U (us (us v 2 (nI (m_kc kc))) 5 0))) w12).mp hD
          have w13 : (us (us v 2 (nI (m_kc kc))) 5 0) = (us (us v 2 (sK (rc_buy N kd ln cp) kc)) 5 (rc_buy N kd ln cp)) := by rw [hrc]; first | done | rfl | (simp only [hcl]; first | done | rfl)
          have hP : va_P D vwCl (mdW cI a (sN (rc_buy N kd ln cp) N (p_add N n kd ln cp 3)) (sP (rc_buy N kd ln cp) P (flat N) kc) T U (us (us v 2 (sK (rc_buy N kd ln cp) kc)) 5 (rc_buy N kd ln cp))) H := (congrArg (fun zz => va_P D vwCl (mdW cI a (sN (rc_buy N kd ln cp) N (p_add N n kd ln cp 3)) (sP (rc_buy N kd ln cp) P (flat N) kc) T U zz) H) w13).mp hP
          have hD : va_D (va_A (mdW cI a N P T U v) s.heap.size) (mdW cI a (sN (rc_buy N kd ln cp) N (p_add N n kd ln cp 3)) (sP (rc_buy N kd ln cp) P (flat N) kc) T U (us (us v 2 (sK (rc_buy N kd ln cp) kc)) 5 (rc_buy N kd ln cp))) := (congrArg (fun zz => va_D (va_A (mdW cI a N P T U v) s.heap.size) (mdW cI a (sN (rc_buy N kd ln cp) N (p_add N n kd ln cp 3)) (sP (rc_buy N kd ln cp) P (flat N) kc) T U zz)) w13).mp hD
          have hP : va_P D vwCl (mdW cI a (sN (rc_buy N kd ln cp) N (p_add N n kd ln cp 3)) (sP (rc_buy N kd ln cp) P (flat N) kc) T U (us (us v 2 (sK (rc_buy N kd ln cp) kc)) 5 (rc_buy N kd ln cp))) H := hP
          have hD : va_D (va_A (mdW cI a N P T U v) s.heap.size) (mdW cI a (sN (rc_buy N kd ln cp) N (p_add N n kd ln cp 3)) (sP (rc_buy N kd ln cp) P (flat N) kc) T U (us (us v 2 (sK (rc_buy N kd ln cp) kc)) 5 (rc_buy N kd ln cp))) := hD
          exact k_eMi hx hb hr hlocks hP hS (by rw [hrc]; first | done | rfl | (simp only [hcl]; first | done | rfl)) dX5_buy_66
        · have c10 := bI_eqF c10
          have hrc : rc_buy N kd ln cp = 2 := by simp [rc_buy, c1, hk2, c5, c9, c10]
          refine lv_aload_n hx hb dX5_buy_48 rfl (lv_at hl 0 rfl) ?_
          refine lv_iconst (v := 2) hx hb dX5_buy_49 (by decide) ?_
          refine k_miV (As := [.int 2]) (rest := []) (w1 := []) (wc := mdW cI a N P T U (us v 5 0)) (wc' := mdW cI a N P T U (us v 5 2)) (w3 := []) ⟨hx, hb, hml, hown, hts⟩ (c_X5_fails l D cI cS cL a N P T U (us v 5 0) _ 2) lkX5_33 rfl rfl ⟨(Nat.le_of_ble_eq_true rfl), (Nat.le_of_ble_eq_true rfl)⟩ (va_recv hK hP (ci := 4) (q0 := 0) rfl rfl) hK hE hP hD hS hA rfl rfl hl.1 rfl (Nat.le_of_ble_eq_true rfl) dX5_buy_50 ⟨Nat.zero_le _, Nat.zero_le _⟩ (fun H locs hzz hP hD hS => ?_)
          have hP : va_P D vwCl (mdW cI a N P T U (us v 5 2)) H := hP
          have hD : va_D (va_A (mdW cI a N P T U v) s.heap.size) (mdW cI a N P T U (us v 5 2)) := hD
          have w14 : N = (sN (rc_buy N kd ln cp) N (p_add N n kd ln cp 3)) := by rw [hrc]; first | done | rfl | (simp only [hcl]; first | done | rfl)
          have hP : va_P D vwCl (mdW cI a (sN (rc_buy N kd ln cp) N (p_add N n kd ln cp 3)) P T U (us v 5 2)) H := (congrArg (fun zz => va_P D vwCl (mdW cI a zz P T U (us v 5 2)) H) w14).mp hP
          have hD : va_D (va_A (mdW cI a N P T U v) s.heap.size) (mdW cI a (sN (rc_buy N kd ln cp) N (p_add N n kd ln cp 3)) P T U (us v 5 2)) := (congrArg (fun zz => va_D (va_A (mdW cI a N P T U v) s.heap.size) (mdW cI a zz P T U (us v 5 2))) w14).mp hD
          have w15 : P = (sP (rc_buy N kd ln cp) P (flat N) kc) := by rw [hrc]; first | done | rfl | (simp only [hcl]; first | done | rfl)
          have hP : va_P D vwCl (mdW cI a (sN (rc_buy N kd ln cp) N (p_add N n kd ln cp 3)) (sP (rc_buy N kd ln cp) P (flat N) kc) T U (us v 5 2)) H := (congrArg (fun zz => va_P D vwCl (mdW cI a (sN (rc_buy N kd ln cp) N (p_add N n kd ln cp 3)) zz T U (us v 5 2)) H) w15).mp hP
          have hD : va_D (va_A (mdW cI a N P T U v) s.heap.size) (mdW cI a (sN (rc_buy N kd ln cp) N (p_add N n kd ln cp 3)) (sP (rc_buy N kd ln cp) P (flat N) kc) T U (us v 5 2)) := (congrArg (fun zz => va_D (va_A (mdW cI a N P T U v) s.heap.size) (mdW cI a (sN (rc_buy N kd ln cp) N (p_add N n kd ln cp 3)) zz T U (us v 5 2))) w15).mp hD
          have w16 : (us v 5 2) = (us (us v 2 (sK (rc_buy N kd ln cp) kc)) 5 (rc_buy N kd ln cp)) := by rw [hrc, show sK 2 kc = v 2 from hc.symm, us_v]
          have hP : va_P D vwCl (mdW cI a (sN (rc_buy N kd ln cp) N (p_add N n kd ln cp 3)) (sP (rc_buy N kd ln cp) P (flat N) kc) T U (us (us v 2 (sK (rc_buy N kd ln cp) kc)) 5 (rc_buy N kd ln cp))) H := (congrArg (fun zz => va_P D vwCl (mdW cI a (sN (rc_buy N kd ln cp) N (p_add N n kd ln cp 3)) (sP (rc_buy N kd ln cp) P (flat N) kc) T U zz) H) w16).mp hP
          have hD : va_D (va_A (mdW cI a N P T U v) s.heap.size) (mdW cI a (sN (rc_buy N kd ln cp) N (p_add N n kd ln cp 3)) (sP (rc_buy N kd ln cp) P (flat N) kc) T U (us (us v 2 (sK (rc_buy N kd ln cp) kc)) 5 (rc_buy N kd ln cp))) := (congrArg (fun zz => va_D (va_A (mdW cI a N P T U v) s.heap.size) (mdW cI a (sN (rc_buy N kd ln cp) N (p_add N n kd ln cp 3)) (sP (rc_buy N kd ln cp) P (flat N) kc) T U zz)) w16).mp hD
          have hP : va_P D vwCl (mdW cI a (sN (rc_buy N kd ln cp) N (p_add N n kd ln cp 3)) (sP (rc_buy N kd ln cp) P (flat N) kc) T U (us (us v 2 (sK (rc_buy N kd ln cp) kc)) 5 (rc_buy N kd ln cp))) H := hP
          have hD : va_D (va_A (mdW cI a N P T U v) s.heap.size) (mdW cI a (sN (rc_buy N kd ln cp) N (p_add N n kd ln cp 3)) (sP (rc_buy N kd ln cp) P (flat N) kc) T U (us (us v 2 (sK (rc_buy N kd ln cp) kc)) 5 (rc_buy N kd ln cp))) := hD
          exact k_eMi hx hb hr hlocks hP hS (by rw [hrc]; first | done | rfl | (simp only [hcl]; first | done | rfl)) dX5_buy_53
      · have c9 := bI_eq0 c9
        have hrc : rc_buy N kd ln cp = 1 := by simp [rc_buy, c1, hk2, c5, c9]
        refine lv_aload_n hx hb dX5_buy_33 rfl (lv_at hl 0 rfl) ?_
        refine lv_iconst (v := 1) hx hb dX5_buy_34 (by decide) ?_
        refine k_miV (As := [.int 1]) (rest := []) (w1 := []) (wc := mdW cI a N P T U (us v 5 0)) (wc' := mdW cI a N P T U (us v 5 1)) (w3 := []) ⟨hx, hb, hml, hown, hts⟩ (c_X5_fails l D cI cS cL a N P T U (us v 5 0) _ 1) lkX5_33 rfl rfl ⟨(Nat.le_of_ble_eq_true rfl), (Nat.le_of_ble_eq_true rfl)⟩ (va_recv hK hP (ci := 4) (q0 := 0) rfl rfl) hK hE hP hD hS hA rfl rfl hl.1 rfl (Nat.le_of_ble_eq_true rfl) dX5_buy_35 ⟨Nat.zero_le _, Nat.zero_le _⟩ (fun H locs hzz hP hD hS => ?_)
        have hP : va_P D vwCl (mdW cI a N P T U (us v 5 1)) H := hP
        have hD : va_D (va_A (mdW cI a N P T U v) s.heap.size) (mdW cI a N P T U (us v 5 1)) := hD
        have w17 : N = (sN (rc_buy N kd ln cp) N (p_add N n kd ln cp 3)) := by rw [hrc]; first | done | rfl | (simp only [hcl]; first | done | rfl)
        have hP : va_P D vwCl (mdW cI a (sN (rc_buy N kd ln cp) N (p_add N n kd ln cp 3)) P T U (us v 5 1)) H := (congrArg (fun zz => va_P D vwCl (mdW cI a zz P T U (us v 5 1)) H) w17).mp hP
        have hD : va_D (va_A (mdW cI a N P T U v) s.heap.size) (mdW cI a (sN (rc_buy N kd ln cp) N (p_add N n kd ln cp 3)) P T U (us v 5 1)) := (congrArg (fun zz => va_D (va_A (mdW cI a N P T U v) s.heap.size) (mdW cI a zz P T U (us v 5 1))) w17).mp hD
        have w18 : P = (sP (rc_buy N kd ln cp) P (flat N) kc) := by rw [hrc]; first | done | rfl | (simp only [hcl]; first | done | rfl)
        have hP : va_P D vwCl (mdW cI a (sN (rc_buy N kd ln cp) N (p_add N n kd ln cp 3)) (sP (rc_buy N kd ln cp) P (flat N) kc) T U (us v 5 1)) H := (congrArg (fun zz => va_P D vwCl (mdW cI a (sN (rc_buy N kd ln cp) N (p_add N n kd ln cp 3)) zz T U (us v 5 1)) H) w18).mp hP
        have hD : va_D (va_A (mdW cI a N P T U v) s.heap.size) (mdW cI a (sN (rc_buy N kd ln cp) N (p_add N n kd ln cp 3)) (sP (rc_buy N kd ln cp) P (flat N) kc) T U (us v 5 1)) := (congrArg (fun zz => va_D (va_A (mdW cI a N P T U v) s.heap.size) (mdW cI a (sN (rc_buy N kd ln cp) N (p_add N n kd ln cp 3)) zz T U (us v 5 1))) w18).mp hD
        have w19 : (us v 5 1) = (us (us v 2 (sK (rc_buy N kd ln cp) kc)) 5 (rc_buy N kd ln cp)) := by rw [hrc, show sK 1 kc = v 2 from hc.symm, us_v]
        have hP : va_P D vwCl (mdW cI a (sN (rc_buy N kd ln cp) N (p_add N n kd ln cp 3)) (sP (rc_buy N kd ln cp) P (flat N) kc) T U (us (us v 2 (sK (rc_buy N kd ln cp) kc)) 5 (rc_buy N kd ln cp))) H := (congrArg (fun zz => va_P D vwCl (mdW cI a (sN (rc_buy N kd ln cp) N (p_add N n kd ln cp 3)) (sP (rc_buy N kd ln cp) P (flat N) kc) T U zz) H) w19).mp hP
        have hD : va_D (va_A (mdW cI a N P T U v) s.heap.size) (mdW cI a (sN (rc_buy N kd ln cp) N (p_add N n kd ln cp 3)) (sP (rc_buy N kd ln cp) P (flat N) kc) T U (us (us v 2 (sK (rc_buy N kd ln cp) kc)) 5 (rc_buy N kd ln cp))) := (congrArg (fun zz => va_D (va_A (mdW cI a N P T U v) s.heap.size) (mdW cI a (sN (rc_buy N kd ln cp) N (p_add N n kd ln cp 3)) (sP (rc_buy N kd ln cp) P (flat N) kc) T U zz)) w19).mp hD
        have hP : va_P D vwCl (mdW cI a (sN (rc_buy N kd ln cp) N (p_add N n kd ln cp 3)) (sP (rc_buy N kd ln cp) P (flat N) kc) T U (us (us v 2 (sK (rc_buy N kd ln cp) kc)) 5 (rc_buy N kd ln cp))) H := hP
        have hD : va_D (va_A (mdW cI a N P T U v) s.heap.size) (mdW cI a (sN (rc_buy N kd ln cp) N (p_add N n kd ln cp 3)) (sP (rc_buy N kd ln cp) P (flat N) kc) T U (us (us v 2 (sK (rc_buy N kd ln cp) kc)) 5 (rc_buy N kd ln cp))) := hD
        exact k_eMi hx hb hr hlocks hP hS (by rw [hrc]; first | done | rfl | (simp only [hcl]; first | done | rfl)) dX5_buy_38

abbrev rmX5_put : Room := { frames := 2, cells := 0, slots := 0, locals := 43 }
set_option maxHeartbeats 4000000 in
set_option maxRecDepth 100000 in
theorem c_X5_put (l : Launch) (D : va_G) (cI cS cL : ClassId) (a : Nat → Nat) (N : NN) (P T U v : Nat → Int32) (sz : Nat) (n kc : Nat) (x pl : Int32) (hn : N 1 2 = nI n) (hn14 : n ≤ 14) (hc : v 2 = nI kc) (hc6 : kc ≤ 6) : Met l yX5_put (wy_ yX5_put cX5_put 3 (some .int)) rmX5_put (kPc D (kTy cI cS cL) (mdW cI a N P T U v) sz [.ref (a 0), .int x, .int pl]) (kMi D (mdW cI a N P T U v) (mdW cI a (sN (rc_put N x pl) N (up2 N 9 (kx x) pl)) (sP (rc_put N x pl) P (flat N) kc) T U (us (us v 2 (sK (rc_put N x pl) kc)) 5 (rc_put N x pl))) sz (sR (rc_put N x pl) (N 9 (kx x)))) 0 0 (va_A (mdW cI a N P T U v) sz) := by
  refine k_ofW (by decide) (Nat.le_of_ble_eq_true rfl) ?_
  intro p e s m args below meth c hx hb hr hml hts hown hlocks hnm hsz hP hK hD hE ls hl
  subst hsz
  have hA : ∀ q : Nat, s.heap.size ≤ q → (va_A (mdW cI a N P T U v) s.heap.size) q := fun q h => Or.inr h
  have hS : va_S (va_A (mdW cI a N P T U v) s.heap.size) s.heap s.heap [] := va_S.rf
  have hl : lv_has ls 3 [(0, .ref (a 0)), (1, .int x), (2, .int pl)] := hl
  refine lv_aload_n hx hb dX5_put_0 rfl (lv_at hl 0 rfl) ?_
  refine lv_iconst (v := 0) hx hb dX5_put_1 (by decide) ?_
  refine f5 hx hb hts hown hK hP hD hS 0 rfl 5 (by decide) flX5_22 (fun _ h => h) rfl rfl rfl (Nat.le_of_ble_eq_true rfl) dX5_put_2 (fun H locs hP hD hS => ?_)
  have hP : va_P D vwCl (mdW cI a N P T U (us v 5 0)) H := hP
  have hD : va_D (va_A (mdW cI a N P T U v) s.heap.size) (mdW cI a N P T U (us v 5 0)) := hD
  refine lv_aload_n hx hb dX5_put_5 rfl (lv_at hl 0 rfl) ?_
  refine lv_iload_n hx hb dX5_put_6 rfl (lv_at hl 1 rfl) ?_
  refine k_riV (As := [.int x]) (rest := []) (wc := mdW cI a N P T U (us v 5 0)) ⟨hx, hb, hml, hown, hts⟩ (c_X5_isHose l D cI cS cL a N P T U (us v 5 0) _ x) lkX5_84 rfl rfl ⟨(Nat.le_of_ble_eq_true rfl), (Nat.le_of_ble_eq_true rfl)⟩ (va_recv hK hP (ci := 4) (q0 := 0) rfl rfl) hK hE hP hD rfl hl.1 rfl (Nat.le_of_ble_eq_true rfl) dX5_put_7 ⟨Nat.zero_le _, Nat.zero_le _⟩ ?_
  refine lv_if_ne (tgt := 19) hx hb dX5_put_10 (by decide) (fun c1 => ?_) (fun c1 => ?_)
  · have c1 := bI_ne0 c1
    have hxx := c1
    obtain ⟨k, hkn, hxk⟩ := p_isH hn hn14 (c1).1 (c1).2
    subst hxk
    have hcl : kx (nI k) = k := kx_nI (by omega)
    refine lv_iload_n hx hb dX5_put_19 rfl (lv_at hl 2 rfl) ?_
    refine lv_iconst (v := 0) hx hb dX5_put_20 (by decide) ?_
    refine lv_iconst (v := 3) hx hb dX5_put_21 (by decide) ?_
    refine k_riS (As := [.int pl, .int 0, .int 3]) (rest := []) (wc := []) ⟨hx, hb, hml, hown, hts⟩ (c_X5_in l D cI cS cL _ pl 0 3) lkX5_26 rfl rfl ⟨(Nat.le_of_ble_eq_true rfl), (Nat.le_of_ble_eq_true rfl)⟩ hK hE k_nilP (k_nilD (A := va_A (mdW cI a N P T U v) s.heap.size)) rfl hl.1 rfl (Nat.le_of_ble_eq_true rfl) dX5_put_22 ⟨Nat.zero_le _, Nat.zero_le _⟩ ?_
    refine lv_if_ne (tgt := 34) hx hb dX5_put_25 (by decide) (fun c2 => ?_) (fun c2 => ?_)
    · have c2 := bI_ne0 c2
      refine lv_aload_n hx hb dX5_put_34 rfl (lv_at hl 0 rfl) ?_
      refine lv_iload_n hx hb dX5_put_35 rfl (lv_at hl 1 rfl) ?_
      refine k_riV (As := [.int (nI k)]) (rest := []) (wc := mdW cI a N P T U (us v 5 0)) ⟨hx, hb, hml, hown, hts⟩ (c_X5_isHere l D cI cS cL a N P T U (us v 5 0) _ k (by omega)) lkX5_87 rfl rfl ⟨(Nat.le_of_ble_eq_true rfl), (Nat.le_of_ble_eq_true rfl)⟩ (va_recv hK hP (ci := 4) (q0 := 0) rfl rfl) hK hE hP hD rfl hl.1 rfl (Nat.le_of_ble_eq_true rfl) dX5_put_36 ⟨Nat.zero_le _, Nat.zero_le _⟩ ?_
      refine lv_if_ne (tgt := 48) hx hb dX5_put_39 (by decide) (fun c3 => ?_) (fun c3 => ?_)
      · have c3 := bI_ne0 c3
        have hhe : here N k = true := decide_eq_true c3
        have hrc : rc_put N (nI k) pl = 0 := by simp [rc_put, hxx, hcl, c2, c3, hhe]
        refine lv_aload_n hx hb dX5_put_48 rfl (lv_at hl 0 rfl) ?_
        refine k_mvV (As := []) (rest := []) (w1 := []) (wc := mdW cI a N P T U (us v 5 0)) (wc' := mdW cI a N (m_sv P (flat N) kc) T U (us (us v 2 (nI (m_kc kc))) 5 0)) (w3 := []) ⟨hx, hb, hml, hown, hts⟩ (c_X5_saves l D cI cS cL a N P T U (us v 5 0) _ kc hc (by omega)) lkX5_77 rfl rfl ⟨(Nat.le_of_ble_eq_true rfl), (Nat.le_of_ble_eq_true rfl)⟩ (va_recv hK hP (ci := 4) (q0 := 0) rfl rfl) hK hE hP hD hS hA rfl rfl hl.1 rfl (Nat.le_of_ble_eq_true rfl) dX5_put_49 ⟨Nat.zero_le _, Nat.zero_le _⟩ (fun H locs hzz hP hD hS => ?_)
        have hP : va_P D vwCl (mdW cI a N (m_sv P (flat N) kc) T U (us (us v 2 (nI (m_kc kc))) 5 0)) H := hP
        have hD : va_D (va_A (mdW cI a N P T U v) s.heap.size) (mdW cI a N (m_sv P (flat N) kc) T U (us (us v 2 (nI (m_kc kc))) 5 0)) := hD
        refine lv_aload_n hx hb dX5_put_52 rfl (lv_at hl 0 rfl) ?_
        refine lv_bipush (v := 12) hx hb dX5_put_53 (by decide) ?_
        refine lv_bipush (v := 8) hx hb dX5_put_55 (by decide) ?_
        refine lv_iload_n hx hb dX5_put_57 rfl (lv_at hl 1 rfl) ?_
        refine lv_imul hx hb dX5_put_58 (lv_topi (fun x4 e4 => ?_))
        have q4 : x4 = nI (8 * k) := by rw [e4]; exact pk_mul 8 k
        subst q4
        refine lv_iadd hx hb dX5_put_59 (lv_topi (fun x5 e5 => ?_))
        have q5 : x5 = nI (12 + 8 * k) := by rw [e5]; exact nI_add 12 (8 * k)
        subst q5
        refine lv_bipush (v := 6) hx hb dX5_put_60 (by decide) ?_
        refine lv_iadd hx hb dX5_put_62 (lv_topi (fun x6 e6 => ?_))
        have q6 : x6 = nI (12 + 8 * k + 6) := by rw [e6]; exact nI_add (12 + 8 * k) 6
        subst q6
        refine lv_iload_n hx hb dX5_put_63 rfl (lv_at hl 2 rfl) ?_
        refine k_miV (As := [.int (nI (12 + 8 * k + 6)), .int pl]) (rest := []) (w1 := []) (wc := mdW cI a N (m_sv P (flat N) kc) T U (us (us v 2 (nI (m_kc kc))) 5 0)) (wc' := mdW cI a ((up2 N 9 k pl)) (m_sv P (flat N) kc) T U (us (us v 2 (nI (m_kc kc))) 5 0)) (w3 := []) ⟨hx, hb, hml, hown, hts⟩ (c_X5_changes l D cI cS cL a N (m_sv P (flat N) kc) T U (us (us v 2 (nI (m_kc kc))) 5 0) _ (12 + 8 * k + 6) pl (up2 N 9 k pl) (N 9 k) (by omega) (flat_putH N k 6 pl (by decide)) (flat_hose N k 6 (by decide))) lkX5_90 rfl rfl ⟨(Nat.le_of_ble_eq_true rfl), (Nat.le_of_ble_eq_true rfl)⟩ (va_recv hK hP (ci := 4) (q0 := 0) rfl rfl) hK hE hP hD hS hA rfl rfl hl.1 rfl (Nat.le_of_ble_eq_true rfl) dX5_put_64 ⟨Nat.zero_le _, Nat.zero_le _⟩ (fun H locs hzz hP hD hS => ?_)
        have hP : va_P D vwCl (mdW cI a ((up2 N 9 k pl)) (m_sv P (flat N) kc) T U (us (us v 2 (nI (m_kc kc))) 5 0)) H := hP
        have hD : va_D (va_A (mdW cI a N P T U v) s.heap.size) (mdW cI a ((up2 N 9 k pl)) (m_sv P (flat N) kc) T U (us (us v 2 (nI (m_kc kc))) 5 0)) := hD
        have w7 : ((up2 N 9 k pl)) = (sN (rc_put N (nI k) pl) N (up2 N 9 (kx (nI k)) pl)) := by rw [hrc]; first | done | rfl | (simp only [hcl]; first | done | rfl)
        have hP : va_P D vwCl (mdW cI a (sN (rc_put N (nI k) pl) N (up2 N 9 (kx (nI k)) pl)) (m_sv P (flat N) kc) T U (us (us v 2 (nI (m_kc kc))) 5 0)) H := (congrArg (fun zz => va_P D vwCl (mdW cI a zz (m_sv P (flat N) kc) T U (us (us v 2 (nI (m_kc kc))) 5 0)) H) w7).mp hP
        have hD : va_D (va_A (mdW cI a N P T U v) s.heap.size) (mdW cI a (sN (rc_put N (nI k) pl) N (up2 N 9 (kx (nI k)) pl)) (m_sv P (flat N) kc) T U (us (us v 2 (nI (m_kc kc))) 5 0)) := (congrArg (fun zz => va_D (va_A (mdW cI a N P T U v) s.heap.size) (mdW cI a zz (m_sv P (flat N) kc) T U (us (us v 2 (nI (m_kc kc))) 5 0))) w7).mp hD
        have w8 : (m_sv P (flat N) kc) = (sP (rc_put N (nI k) pl) P (flat N) kc) := by rw [hrc]; first | done | rfl | (simp only [hcl]; first | done | rfl)
        have hP : va_P D vwCl (mdW cI a (sN (rc_put N (nI k) pl) N (up2 N 9 (kx (nI k)) pl)) (sP (rc_put N (nI k) pl) P (flat N) kc) T U (us (us v 2 (nI (m_kc kc))) 5 0)) H := (congrArg (fun zz => va_P D vwCl (mdW cI a (sN (rc_put N (nI k) pl) N (up2 N 9 (kx (nI k)) pl)) zz T U (us (us v 2 (nI (m_kc kc))) 5 0)) H) w8).mp hP
        have hD : va_D (va_A (mdW cI a N P T U v) s.heap.size) (mdW cI a (sN (rc_put N (nI k) pl) N (up2 N 9 (kx (nI k)) pl)) (sP (rc_put N (nI k) pl) P (flat N) kc) T U (us (us v 2 (nI (m_kc kc))) 5 0)) := (congrArg (fun zz => va_D (va_A (mdW cI a N P T U v) s.heap.size) (mdW cI a (sN (rc_put N (nI k) pl) N (up2 N 9 (kx (nI k)) pl)) zz T U (us (us v 2 (nI (m_kc kc))) 5 0))) w8).mp hD
        have w9 : (us (us v 2 (nI (m_kc kc))) 5 0) = (us (us v 2 (sK (rc_put N (nI k) pl) kc)) 5 (rc_put N (nI k) pl)) := by rw [hrc]; first | done | rfl | (simp only [hcl]; first | done | rfl)
        have hP : va_P D vwCl (mdW cI a (sN (rc_put N (nI k) pl) N (up2 N 9 (kx (nI k)) pl)) (sP (rc_put N (nI k) pl) P (flat N) kc) T U (us (us v 2 (sK (rc_put N (nI k) pl) kc)) 5 (rc_put N (nI k) pl))) H := (congrArg (fun zz => va_P D vwCl (mdW cI a (sN (rc_put N (nI k) pl) N (up2 N 9 (kx (nI k)) pl)) (sP (rc_put N (nI k) pl) P (flat N) kc) T U zz) H) w9).mp hP
        have hD : va_D (va_A (mdW cI a N P T U v) s.heap.size) (mdW cI a (sN (rc_put N (nI k) pl) N (up2 N 9 (kx (nI k)) pl)) (sP (rc_put N (nI k) pl) P (flat N) kc) T U (us (us v 2 (sK (rc_put N (nI k) pl) kc)) 5 (rc_put N (nI k) pl))) := (congrArg (fun zz => va_D (va_A (mdW cI a N P T U v) s.heap.size) (mdW cI a (sN (rc_put N (nI k) pl) N (up2 N 9 (kx (nI k)) pl)) (sP (rc_put N (nI k) pl) P (flat N) kc) T U zz)) w9).mp hD
        have hP : va_P D vwCl (mdW cI a (sN (rc_put N (nI k) pl) N (up2 N 9 (kx (nI k)) pl)) (sP (rc_put N (nI k) pl) P (flat N) kc) T U (us (us v 2 (sK (rc_put N (nI k) pl) kc)) 5 (rc_put N (nI k) pl))) H := hP
        have hD : va_D (va_A (mdW cI a N P T U v) s.heap.size) (mdW cI a (sN (rc_put N (nI k) pl) N (up2 N 9 (kx (nI k)) pl)) (sP (rc_put N (nI k) pl) P (flat N) kc) T U (us (us v 2 (sK (rc_put N (nI k) pl) kc)) 5 (rc_put N (nI k) pl))) := hD
        exact k_eMi hx hb hr hlocks hP hS (by rw [hrc]; first | done | rfl | (simp only [hcl]; first | done | rfl)) dX5_put_67
      · have c3 := bI_eq0 c3
        have hhe : here N k = false := decide_eq_false c3
        have hrc : rc_put N (nI k) pl = 3 := by simp [rc_put, hxx, hcl, c2, c3, hhe]
        refine lv_aload_n hx hb dX5_put_42 rfl (lv_at hl 0 rfl) ?_
        refine lv_iconst (v := 3) hx hb dX5_put_43 (by decide) ?_
        refine k_miV (As := [.int 3]) (rest := []) (w1 := []) (wc := mdW cI a N P T U (us v 5 0)) (wc' := mdW cI a N P T U (us v 5 3)) (w3 := []) ⟨hx, hb, hml, hown, hts⟩ (c_X5_fails l D cI cS cL a N P T U (us v 5 0) _ 3) lkX5_33 rfl rfl ⟨(Nat.le_of_ble_eq_true rfl), (Nat.le_of_ble_eq_true rfl)⟩ (va_recv hK hP (ci := 4) (q0 := 0) rfl rfl) hK hE hP hD hS hA rfl rfl hl.1 rfl (Nat.le_of_ble_eq_true rfl) dX5_put_44 ⟨Nat.zero_le _, Nat.zero_le _⟩ (fun H locs hzz hP hD hS => ?_)
        have hP : va_P D vwCl (mdW cI a N P T U (us v 5 3)) H := hP
        have hD : va_D (va_A (mdW cI a N P T U v) s.heap.size) (mdW cI a N P T U (us v 5 3)) := hD
        have w10 : N = (sN (rc_put N (nI k) pl) N (up2 N 9 (kx (nI k)) pl)) := by rw [hrc]; first | done | rfl | (simp only [hcl]; first | done | rfl)
        have hP : va_P D vwCl (mdW cI a (sN (rc_put N (nI k) pl) N (up2 N 9 (kx (nI k)) pl)) P T U (us v 5 3)) H := (congrArg (fun zz => va_P D vwCl (mdW cI a zz P T U (us v 5 3)) H) w10).mp hP
        have hD : va_D (va_A (mdW cI a N P T U v) s.heap.size) (mdW cI a (sN (rc_put N (nI k) pl) N (up2 N 9 (kx (nI k)) pl)) P T U (us v 5 3)) := (congrArg (fun zz => va_D (va_A (mdW cI a N P T U v) s.heap.size) (mdW cI a zz P T U (us v 5 3))) w10).mp hD
        have w11 : P = (sP (rc_put N (nI k) pl) P (flat N) kc) := by rw [hrc]; first | done | rfl | (simp only [hcl]; first | done | rfl)
        have hP : va_P D vwCl (mdW cI a (sN (rc_put N (nI k) pl) N (up2 N 9 (kx (nI k)) pl)) (sP (rc_put N (nI k) pl) P (flat N) kc) T U (us v 5 3)) H := (congrArg (fun zz => va_P D vwCl (mdW cI a (sN (rc_put N (nI k) pl) N (up2 N 9 (kx (nI k)) pl)) zz T U (us v 5 3)) H) w11).mp hP
        have hD : va_D (va_A (mdW cI a N P T U v) s.heap.size) (mdW cI a (sN (rc_put N (nI k) pl) N (up2 N 9 (kx (nI k)) pl)) (sP (rc_put N (nI k) pl) P (flat N) kc) T U (us v 5 3)) := (congrArg (fun zz => va_D (va_A (mdW cI a N P T U v) s.heap.size) (mdW cI a (sN (rc_put N (nI k) pl) N (up2 N 9 (kx (nI k)) pl)) zz T U (us v 5 3))) w11).mp hD
        have w12 : (us v 5 3) = (us (us v 2 (sK (rc_put N (nI k) pl) kc)) 5 (rc_put N (nI k) pl)) := by rw [hrc, show sK 3 kc = v 2 from hc.symm, us_v]
        have hP : va_P D vwCl (mdW cI a (sN (rc_put N (nI k) pl) N (up2 N 9 (kx (nI k)) pl)) (sP (rc_put N (nI k) pl) P (flat N) kc) T U (us (us v 2 (sK (rc_put N (nI k) pl) kc)) 5 (rc_put N (nI k) pl))) H := (congrArg (fun zz => va_P D vwCl (mdW cI a (sN (rc_put N (nI k) pl) N (up2 N 9 (kx (nI k)) pl)) (sP (rc_put N (nI k) pl) P (flat N) kc) T U zz) H) w12).mp hP
        have hD : va_D (va_A (mdW cI a N P T U v) s.heap.size) (mdW cI a (sN (rc_put N (nI k) pl) N (up2 N 9 (kx (nI k)) pl)) (sP (rc_put N (nI k) pl) P (flat N) kc) T U (us (us v 2 (sK (rc_put N (nI k) pl) kc)) 5 (rc_put N (nI k) pl))) := (congrArg (fun zz => va_D (va_A (mdW cI a N P T U v) s.heap.size) (mdW cI a (sN (rc_put N (nI k) pl) N (up2 N 9 (kx (nI k)) pl)) (sP (rc_put N (nI k) pl) P (flat N) kc) T U zz)) w12).mp hD
        have hP : va_P D vwCl (mdW cI a (sN (rc_put N (nI k) pl) N (up2 N 9 (kx (nI k)) pl)) (sP (rc_put N (nI k) pl) P (flat N) kc) T U (us (us v 2 (sK (rc_put N (nI k) pl) kc)) 5 (rc_put N (nI k) pl))) H := hP
        have hD : va_D (va_A (mdW cI a N P T U v) s.heap.size) (mdW cI a (sN (rc_put N (nI k) pl) N (up2 N 9 (kx (nI k)) pl)) (sP (rc_put N (nI k) pl) P (flat N) kc) T U (us (us v 2 (sK (rc_put N (nI k) pl) kc)) 5 (rc_put N (nI k) pl))) := hD
        exact k_eMi hx hb hr hlocks hP hS (by rw [hrc]; first | done | rfl | (simp only [hcl]; first | done | rfl)) dX5_put_47
    · have c2 := bI_eq0 c2
      have hrc : rc_put N (nI k) pl = 2 := by simp [rc_put, hxx, hcl, c2]
      refine lv_aload_n hx hb dX5_put_28 rfl (lv_at hl 0 rfl) ?_
      refine lv_iconst (v := 2) hx hb dX5_put_29 (by decide) ?_
      refine k_miV (As := [.int 2]) (rest := []) (w1 := []) (wc := mdW cI a N P T U (us v 5 0)) (wc' := mdW cI a N P T U (us v 5 2)) (w3 := []) ⟨hx, hb, hml, hown, hts⟩ (c_X5_fails l D cI cS cL a N P T U (us v 5 0) _ 2) lkX5_33 rfl rfl ⟨(Nat.le_of_ble_eq_true rfl), (Nat.le_of_ble_eq_true rfl)⟩ (va_recv hK hP (ci := 4) (q0 := 0) rfl rfl) hK hE hP hD hS hA rfl rfl hl.1 rfl (Nat.le_of_ble_eq_true rfl) dX5_put_30 ⟨Nat.zero_le _, Nat.zero_le _⟩ (fun H locs hzz hP hD hS => ?_)
      have hP : va_P D vwCl (mdW cI a N P T U (us v 5 2)) H := hP
      have hD : va_D (va_A (mdW cI a N P T U v) s.heap.size) (mdW cI a N P T U (us v 5 2)) := hD
      have w13 : N = (sN (rc_put N (nI k) pl) N (up2 N 9 (kx (nI k)) pl)) := by rw [hrc]; first | done | rfl | (simp only [hcl]; first | done | rfl)
      have hP : va_P D vwCl (mdW cI a (sN (rc_put N (nI k) pl) N (up2 N 9 (kx (nI k)) pl)) P T U (us v 5 2)) H := (congrArg (fun zz => va_P D vwCl (mdW cI a zz P T U (us v 5 2)) H) w13).mp hP
      have hD : va_D (va_A (mdW cI a N P T U v) s.heap.size) (mdW cI a (sN (rc_put N (nI k) pl) N (up2 N 9 (kx (nI k)) pl)) P T U (us v 5 2)) := (congrArg (fun zz => va_D (va_A (mdW cI a N P T U v) s.heap.size) (mdW cI a zz P T U (us v 5 2))) w13).mp hD
      have w14 : P = (sP (rc_put N (nI k) pl) P (flat N) kc) := by rw [hrc]; first | done | rfl | (simp only [hcl]; first | done | rfl)
      have hP : va_P D vwCl (mdW cI a (sN (rc_put N (nI k) pl) N (up2 N 9 (kx (nI k)) pl)) (sP (rc_put N (nI k) pl) P (flat N) kc) T U (us v 5 2)) H := (congrArg (fun zz => va_P D vwCl (mdW cI a (sN (rc_put N (nI k) pl) N (up2 N 9 (kx (nI k)) pl)) zz T U (us v 5 2)) H) w14).mp hP
      have hD : va_D (va_A (mdW cI a N P T U v) s.heap.size) (mdW cI a (sN (rc_put N (nI k) pl) N (up2 N 9 (kx (nI k)) pl)) (sP (rc_put N (nI k) pl) P (flat N) kc) T U (us v 5 2)) := (congrArg (fun zz => va_D (va_A (mdW cI a N P T U v) s.heap.size) (mdW cI a (sN (rc_put N (nI k) pl) N (up2 N 9 (kx (nI k)) pl)) zz T U (us v 5 2))) w14).mp hD
      have w15 : (us v 5 2) = (us (us v 2 (sK (rc_put N (nI k) pl) kc)) 5 (rc_put N (nI k) pl)) := by rw [hrc, show sK 2 kc = v 2 from hc.symm, us_v]
      have hP : va_P D vwCl (mdW cI a (sN (rc_put N (nI k) pl) N (up2 N 9 (kx (nI k)) pl)) (sP (rc_put N (nI k) pl) P (flat N) kc) T U (us (us v 2 (sK (rc_put N (nI k) pl) kc)) 5 (rc_put N (nI k) pl))) H := (congrArg (fun zz => va_P D vwCl (mdW cI a (sN (rc_put N (nI k) pl) N (up2 N 9 (kx (nI k)) pl)) (sP (rc_put N (nI k) pl) P (flat N) kc) T U zz) H) w15).mp hP
      have hD : va_D (va_A (mdW cI a N P T U v) s.heap.size) (mdW cI a (sN (rc_put N (nI k) pl) N (up2 N 9 (kx (nI k)) pl)) (sP (rc_put N (nI k) pl) P (flat N) kc) T U (us (us v 2 (sK (rc_put N (nI k) pl) kc)) 5 (rc_put N (nI k) pl))) := (congrArg (fun zz => va_D (va_A (mdW cI a N P T U v) s.heap.size) (mdW cI a (sN (rc_put N (nI k) pl) N (up2 N 9 (kx (nI k)) pl)) (sP (rc_put N (nI k) pl) P (flat N) kc) T U zz)) w15).mp hD
      have hP : va_P D vwCl (mdW cI a (sN (rc_put N (nI k) pl) N (up2 N 9 (kx (nI k)) pl)) (sP (rc_put N (nI k) pl) P (flat N) kc) T U (us (us v 2 (sK (rc_put N (nI k) pl) kc)) 5 (rc_put N (nI k) pl))) H := hP
      have hD : va_D (va_A (mdW cI a N P T U v) s.heap.size) (mdW cI a (sN (rc_put N (nI k) pl) N (up2 N 9 (kx (nI k)) pl)) (sP (rc_put N (nI k) pl) P (flat N) kc) T U (us (us v 2 (sK (rc_put N (nI k) pl) kc)) 5 (rc_put N (nI k) pl))) := hD
      exact k_eMi hx hb hr hlocks hP hS (by rw [hrc]; first | done | rfl | (simp only [hcl]; first | done | rfl)) dX5_put_33
  · have c1 := bI_eq0 c1
    have hrc : rc_put N x pl = 1 := by simp [rc_put, c1]
    refine lv_aload_n hx hb dX5_put_13 rfl (lv_at hl 0 rfl) ?_
    refine lv_iconst (v := 1) hx hb dX5_put_14 (by decide) ?_
    refine k_miV (As := [.int 1]) (rest := []) (w1 := []) (wc := mdW cI a N P T U (us v 5 0)) (wc' := mdW cI a N P T U (us v 5 1)) (w3 := []) ⟨hx, hb, hml, hown, hts⟩ (c_X5_fails l D cI cS cL a N P T U (us v 5 0) _ 1) lkX5_33 rfl rfl ⟨(Nat.le_of_ble_eq_true rfl), (Nat.le_of_ble_eq_true rfl)⟩ (va_recv hK hP (ci := 4) (q0 := 0) rfl rfl) hK hE hP hD hS hA rfl rfl hl.1 rfl (Nat.le_of_ble_eq_true rfl) dX5_put_15 ⟨Nat.zero_le _, Nat.zero_le _⟩ (fun H locs hzz hP hD hS => ?_)
    have hP : va_P D vwCl (mdW cI a N P T U (us v 5 1)) H := hP
    have hD : va_D (va_A (mdW cI a N P T U v) s.heap.size) (mdW cI a N P T U (us v 5 1)) := hD
    have w16 : N = (sN (rc_put N x pl) N (up2 N 9 (kx x) pl)) := by rw [hrc]; first | done | rfl | (simp only [hcl]; first | done | rfl)
    have hP : va_P D vwCl (mdW cI a (sN (rc_put N x pl) N (up2 N 9 (kx x) pl)) P T U (us v 5 1)) H := (congrArg (fun zz => va_P D vwCl (mdW cI a zz P T U (us v 5 1)) H) w16).mp hP
    have hD : va_D (va_A (mdW cI a N P T U v) s.heap.size) (mdW cI a (sN (rc_put N x pl) N (up2 N 9 (kx x) pl)) P T U (us v 5 1)) := (congrArg (fun zz => va_D (va_A (mdW cI a N P T U v) s.heap.size) (mdW cI a zz P T U (us v 5 1))) w16).mp hD
    have w17 : P = (sP (rc_put N x pl) P (flat N) kc) := by rw [hrc]; first | done | rfl | (simp only [hcl]; first | done | rfl)
    have hP : va_P D vwCl (mdW cI a (sN (rc_put N x pl) N (up2 N 9 (kx x) pl)) (sP (rc_put N x pl) P (flat N) kc) T U (us v 5 1)) H := (congrArg (fun zz => va_P D vwCl (mdW cI a (sN (rc_put N x pl) N (up2 N 9 (kx x) pl)) zz T U (us v 5 1)) H) w17).mp hP
    have hD : va_D (va_A (mdW cI a N P T U v) s.heap.size) (mdW cI a (sN (rc_put N x pl) N (up2 N 9 (kx x) pl)) (sP (rc_put N x pl) P (flat N) kc) T U (us v 5 1)) := (congrArg (fun zz => va_D (va_A (mdW cI a N P T U v) s.heap.size) (mdW cI a (sN (rc_put N x pl) N (up2 N 9 (kx x) pl)) zz T U (us v 5 1))) w17).mp hD
    have w18 : (us v 5 1) = (us (us v 2 (sK (rc_put N x pl) kc)) 5 (rc_put N x pl)) := by rw [hrc, show sK 1 kc = v 2 from hc.symm, us_v]
    have hP : va_P D vwCl (mdW cI a (sN (rc_put N x pl) N (up2 N 9 (kx x) pl)) (sP (rc_put N x pl) P (flat N) kc) T U (us (us v 2 (sK (rc_put N x pl) kc)) 5 (rc_put N x pl))) H := (congrArg (fun zz => va_P D vwCl (mdW cI a (sN (rc_put N x pl) N (up2 N 9 (kx x) pl)) (sP (rc_put N x pl) P (flat N) kc) T U zz) H) w18).mp hP
    have hD : va_D (va_A (mdW cI a N P T U v) s.heap.size) (mdW cI a (sN (rc_put N x pl) N (up2 N 9 (kx x) pl)) (sP (rc_put N x pl) P (flat N) kc) T U (us (us v 2 (sK (rc_put N x pl) kc)) 5 (rc_put N x pl))) := (congrArg (fun zz => va_D (va_A (mdW cI a N P T U v) s.heap.size) (mdW cI a (sN (rc_put N x pl) N (up2 N 9 (kx x) pl)) (sP (rc_put N x pl) P (flat N) kc) T U zz)) w18).mp hD
    have hP : va_P D vwCl (mdW cI a (sN (rc_put N x pl) N (up2 N 9 (kx x) pl)) (sP (rc_put N x pl) P (flat N) kc) T U (us (us v 2 (sK (rc_put N x pl) kc)) 5 (rc_put N x pl))) H := hP
    have hD : va_D (va_A (mdW cI a N P T U v) s.heap.size) (mdW cI a (sN (rc_put N x pl) N (up2 N 9 (kx x) pl)) (sP (rc_put N x pl) P (flat N) kc) T U (us (us v 2 (sK (rc_put N x pl) kc)) 5 (rc_put N x pl))) := hD
    exact k_eMi hx hb hr hlocks hP hS (by rw [hrc]; first | done | rfl | (simp only [hcl]; first | done | rfl)) dX5_put_18
