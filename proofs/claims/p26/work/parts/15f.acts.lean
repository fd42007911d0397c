abbrev rmX4_buy_g : Room := { frames := 3, cells := 0, slots := 0, locals := 67 }
set_option maxHeartbeats 4000000 in
set_option maxRecDepth 100000 in
theorem c_X4_buy_g (l : Launch) (D : va_G) (cI cS cL : ClassId) (x a : Nat → Nat) (r : Nat → Nat → Nat) (qi kc z : Nat) (T : Nat → Int32) (N : NN) (v : Nat → Int32) (R : Nat → NN) (u : Nat → Nat → Int32) (sz : Nat) (n : Nat) (hn : N 1 2 = nI n) (hn14 : n ≤ 14) (kd ln cp : Int32) (hq : qi < 6) (hkc : kc ≤ 6) (hok : (0 ≤ kd ∧ kd ≤ 2) ∧ (5 ≤ ln ∧ ln ≤ 50) ∧ (0 ≤ cp ∧ cp ≤ 2)) (hcan : p_can N kd ln = true) : Met l yX4_buy (wy_ yX4_buy cX4_buy 4 (some .int)) rmX4_buy_g (kPc D (kTy cI cS cL) (xH cS x a r (nI qi) (nI kc) ++ (txW cI x (nI z) T ++ (stW cI a N v ++ (rgW cI r R u)))) sz [.ref (x 0), .int kd, .int ln, .int cp]) (kMi D (xH cS x a r (nI qi) (nI kc) ++ (txW cI x (nI z) T ++ (stW cI a N v ++ (rgW cI r R u)))) (xH cS x a r (nI (p_nx qi)) (nI (m_kc kc)) ++ (txW cI x (nI z) T ++ (stW cI a (p_add N n kd ln cp 3) v ++ (rgW cI r (updN R (p_nx qi) N) u)))) sz (nI n)) 0 0 (va_A (xH cS x a r (nI qi) (nI kc) ++ (txW cI x (nI z) T ++ (stW cI a N v ++ (rgW cI r R u)))) sz) := by
  refine k_ofW (by decide) (Nat.le_of_ble_eq_true rfl) ?_
  intro p e s m args below meth c hx hb hr hml hts hown hlocks hnm hsz hP hK hD hE ls hl
  subst hsz
  have hA : ∀ q : Nat, s.heap.size ≤ q → (va_A (xH cS x a r (nI qi) (nI kc) ++ (txW cI x (nI z) T ++ (stW cI a N v ++ (rgW cI r R u)))) s.heap.size) q := fun q h => Or.inr h
  have hS : va_S (va_A (xH cS x a r (nI qi) (nI kc) ++ (txW cI x (nI z) T ++ (stW cI a N v ++ (rgW cI r R u)))) s.heap.size) s.heap s.heap [] := va_S.rf
  have hl : lv_has ls 4 [(0, .ref (x 0)), (1, .int kd), (2, .int ln), (3, .int cp)] := hl
  have h14 := p_can_lt hn hn14 hcan
  refine lv_iload_n hx hb dX4_buy_0 rfl (lv_at hl 1 rfl) ?_
  refine lv_iconst (v := 0) hx hb dX4_buy_1 (by decide) ?_
  refine lv_iconst (v := 2) hx hb dX4_buy_2 (by decide) ?_
  refine k_riS (As := [.int kd, .int 0, .int 2]) (rest := []) (wc := []) ⟨hx, hb, hml, hown, hts⟩ (c_X4_isWithin l D cI cS cL _ kd 0 2) lkX4_34 rfl rfl ⟨(Nat.le_of_ble_eq_true rfl), (Nat.le_of_ble_eq_true rfl)⟩ hK hE k_nilP (k_nilD (A := va_A (xH cS x a r (nI qi) (nI kc) ++ (txW cI x (nI z) T ++ (stW cI a N v ++ (rgW cI r R u)))) s.heap.size)) rfl hl.1 rfl (Nat.le_of_ble_eq_true rfl) dX4_buy_3 ⟨Nat.zero_le _, Nat.zero_le _⟩ ?_
  refine lv_if_eq (tgt := 28) hx hb dX4_buy_6 (by decide) (fun c1 => ?_) (fun c1 => ?_)
  · have c1 := bI_eq0 c1
    exact absurd hok.1 c1
  · have c1 := bI_ne0 c1
    refine lv_iload_n hx hb dX4_buy_9 rfl (lv_at hl 2 rfl) ?_
    refine lv_iconst (v := 5) hx hb dX4_buy_10 (by decide) ?_
    refine lv_bipush (v := 50) hx hb dX4_buy_11 (by decide) ?_
    refine k_riS (As := [.int ln, .int 5, .int 50]) (rest := []) (wc := []) ⟨hx, hb, hml, hown, hts⟩ (c_X4_isWithin l D cI cS cL _ ln 5 50) lkX4_34 rfl rfl ⟨(Nat.le_of_ble_eq_true rfl), (Nat.le_of_ble_eq_true rfl)⟩ hK hE k_nilP (k_nilD (A := va_A (xH cS x a r (nI qi) (nI kc) ++ (txW cI x (nI z) T ++ (stW cI a N v ++ (rgW cI r R u)))) s.heap.size)) rfl hl.1 rfl (Nat.le_of_ble_eq_true rfl) dX4_buy_13 ⟨Nat.zero_le _, Nat.zero_le _⟩ ?_
    refine lv_if_eq (tgt := 28) hx hb dX4_buy_16 (by decide) (fun c2 => ?_) (fun c2 => ?_)
    · have c2 := bI_eq0 c2
      exact absurd hok.2.1 c2
    · have c2 := bI_ne0 c2
      refine lv_iload_n hx hb dX4_buy_19 rfl (lv_at hl 3 rfl) ?_
      refine lv_iconst (v := 0) hx hb dX4_buy_20 (by decide) ?_
      refine lv_iconst (v := 2) hx hb dX4_buy_21 (by decide) ?_
      refine k_riS (As := [.int cp, .int 0, .int 2]) (rest := []) (wc := []) ⟨hx, hb, hml, hown, hts⟩ (c_X4_isWithin l D cI cS cL _ cp 0 2) lkX4_34 rfl rfl ⟨(Nat.le_of_ble_eq_true rfl), (Nat.le_of_ble_eq_true rfl)⟩ hK hE k_nilP (k_nilD (A := va_A (xH cS x a r (nI qi) (nI kc) ++ (txW cI x (nI z) T ++ (stW cI a N v ++ (rgW cI r R u)))) s.heap.size)) rfl hl.1 rfl (Nat.le_of_ble_eq_true rfl) dX4_buy_22 ⟨Nat.zero_le _, Nat.zero_le _⟩ ?_
      refine lv_if_ne (tgt := 38) hx hb dX4_buy_25 (by decide) (fun c3 => ?_) (fun c3 => ?_)
      · have c3 := bI_ne0 c3
        refine lv_aload_n hx hb dX4_buy_38 rfl (lv_at hl 0 rfl) ?_
        refine g4 hx hb hts hown hK hP 0 rfl 0 (by decide) flX4_10 (fun _ h => h) (v := .ref (a 0)) rfl dX4_buy_39 ?_
        refine lv_iload_n hx hb dX4_buy_42 rfl (lv_at hl 1 rfl) ?_
        refine lv_iload_n hx hb dX4_buy_43 rfl (lv_at hl 2 rfl) ?_
        refine k_riV (As := [.int kd, .int ln]) (rest := []) (wc := stW cI a N v) ⟨hx, hb, hml, hown, hts⟩ (c_X3_canBuy l D cI cS cL a N v _ kd ln) lkX4_45 rfl rfl ⟨(Nat.le_of_ble_eq_true rfl), (Nat.le_of_ble_eq_true rfl)⟩ (va_recv hK hP (ci := 2) (q0 := 4) rfl rfl) hK hE (va_P_midL (w1 := xH cS x a r (nI qi) (nI kc) ++ (txW cI x (nI z) T)) (wc := stW cI a N v) (w3 := rgW cI r R u) hP) (va_D_midL (w1 := xH cS x a r (nI qi) (nI kc) ++ (txW cI x (nI z) T)) (wc := stW cI a N v) (w3 := rgW cI r R u) hD) rfl hl.1 rfl (Nat.le_of_ble_eq_true rfl) dX4_buy_44 ⟨Nat.zero_le _, Nat.zero_le _⟩ ?_
        refine lv_if_ne (tgt := 60) hx hb dX4_buy_47 (by decide) (fun c4 => ?_) (fun c4 => ?_)
        · have c4 := bI_neT c4
          refine lv_aload_n hx hb dX4_buy_60 rfl (lv_at hl 0 rfl) ?_
          refine k_mvV0 (As := []) (rest := []) (wc := xH cS x a r (nI qi) (nI kc) ++ (txW cI x (nI z) T ++ (stW cI a N v ++ (rgW cI r R u)))) (wc' := xH cS x a r (nI (p_nx qi)) (nI (m_kc kc)) ++ (txW cI x (nI z) T ++ (stW cI a N v ++ (rgW cI r (updN R (p_nx qi) N) u)))) ⟨hx, hb, hml, hown, hts⟩ (c_X4_saveState l D cI cS cL x a r qi kc z T N v R u _ hq hkc) lkX4_54 rfl rfl ⟨(Nat.le_of_ble_eq_true rfl), (Nat.le_of_ble_eq_true rfl)⟩ (va_recv hK hP (ci := 3) (q0 := 0) rfl rfl) hK hE hP hD hS hA rfl rfl hl.1 rfl (Nat.le_of_ble_eq_true rfl) dX4_buy_61 ⟨Nat.zero_le _, Nat.zero_le _⟩ (fun H locs hzz hP hD hS => ?_)
          have hP : va_P D vwCl (xH cS x a r (nI (p_nx qi)) (nI (m_kc kc)) ++ (txW cI x (nI z) T ++ (stW cI a N v ++ (rgW cI r (updN R (p_nx qi) N) u)))) H := hP
          have hD : va_D (va_A (xH cS x a r (nI qi) (nI kc) ++ (txW cI x (nI z) T ++ (stW cI a N v ++ (rgW cI r R u)))) s.heap.size) (xH cS x a r (nI (p_nx qi)) (nI (m_kc kc)) ++ (txW cI x (nI z) T ++ (stW cI a N v ++ (rgW cI r (updN R (p_nx qi) N) u)))) := hD
          refine lv_aload_n hx hb dX4_buy_64 rfl (lv_at hl 0 rfl) ?_
          refine g4 hx hb hts hown hK hP 0 rfl 0 (by decide) flX4_10 (fun _ h => h) (v := .ref (a 0)) rfl dX4_buy_65 ?_
          refine lv_iload_n hx hb dX4_buy_68 rfl (lv_at hl 1 rfl) ?_
          refine lv_iload_n hx hb dX4_buy_69 rfl (lv_at hl 2 rfl) ?_
          refine lv_iload_n hx hb dX4_buy_70 rfl (lv_at hl 3 rfl) ?_
          refine lv_iconst (v := 3) hx hb dX4_buy_71 (by decide) ?_
          refine k_miV (As := [.int kd, .int ln, .int cp, .int 3]) (rest := []) (w1 := xH cS x a r (nI (p_nx qi)) (nI (m_kc kc)) ++ (txW cI x (nI z) T)) (wc := stW cI a N v) (wc' := stW cI a (p_add N n kd ln cp 3) v) (w3 := rgW cI r (updN R (p_nx qi) N) u) ⟨hx, hb, hml, hown, hts⟩ (c_X3_addHose l D cI cS cL a N v _ n kd ln cp 3 hn h14) lkX4_57 rfl rfl ⟨(Nat.le_of_ble_eq_true rfl), (Nat.le_of_ble_eq_true rfl)⟩ (va_recv hK hP (ci := 2) (q0 := 4) rfl rfl) hK hE hP hD hS hA rfl rfl hl.1 rfl (Nat.le_of_ble_eq_true rfl) dX4_buy_72 ⟨Nat.zero_le _, Nat.zero_le _⟩ (fun H locs hzz hP hD hS => ?_)
          have hP : va_P D vwCl (xH cS x a r (nI (p_nx qi)) (nI (m_kc kc)) ++ (txW cI x (nI z) T ++ (stW cI a (p_add N n kd ln cp 3) v ++ (rgW cI r (updN R (p_nx qi) N) u)))) H := hP
          have hD : va_D (va_A (xH cS x a r (nI qi) (nI kc) ++ (txW cI x (nI z) T ++ (stW cI a N v ++ (rgW cI r R u)))) s.heap.size) (xH cS x a r (nI (p_nx qi)) (nI (m_kc kc)) ++ (txW cI x (nI z) T ++ (stW cI a (p_add N n kd ln cp 3) v ++ (rgW cI r (updN R (p_nx qi) N) u)))) := hD
          have hP : va_P D vwCl (xH cS x a r (nI (p_nx qi)) (nI (m_kc kc)) ++ (txW cI x (nI z) T ++ (stW cI a (p_add N n kd ln cp 3) v ++ (rgW cI r (updN R (p_nx qi) N) u)))) H := hP
          have hD : va_D (va_A (xH cS x a r (nI qi) (nI kc) ++ (txW cI x (nI z) T ++ (stW cI a N v ++ (rgW cI r R u)))) s.heap.size) (xH cS x a r (nI (p_nx qi)) (nI (m_kc kc)) ++ (txW cI x (nI z) T ++ (stW cI a (p_add N n kd ln cp 3) v ++ (rgW cI r (updN R (p_nx qi) N) u)))) := hD
          exact k_eMi hx hb hr hlocks hP hS rfl dX4_buy_75
        · have c4 := bI_eqF c4
          exact Bool.noConfusion (hcan.symm.trans c4)
      · have c3 := bI_eq0 c3
        exact absurd hok.2.2 c3

abbrev rmX4_renew_g : Room := { frames := 4, cells := 0, slots := 0, locals := 89 }
set_option maxHeartbeats 4000000 in
set_option maxRecDepth 100000 in
theorem c_X4_renew_g (l : Launch) (D : va_G) (cI cS cL : ClassId) (x a : Nat → Nat) (r : Nat → Nat → Nat) (qi kc z : Nat) (T : Nat → Int32) (N : NN) (v : Nat → Int32) (R : Nat → NN) (u : Nat → Nat → Int32) (sz : Nat) (n : Nat) (hn : N 1 2 = nI n) (hn14 : n ≤ 14) (k : Nat) (hkn : k < n) (h1 : ¬ N 9 k = -1) (h4 : ¬ N 9 k = 4) (hq : qi < 6) (hkc : kc ≤ 6) (hcan : p_can N (N 3 k) (N 4 k) = true) : Met l yX4_renew (wy_ yX4_renew cX4_renew 2 (some .int)) rmX4_renew_g (kPc D (kTy cI cS cL) (xH cS x a r (nI qi) (nI kc) ++ (txW cI x (nI z) T ++ (stW cI a N v ++ (rgW cI r R u)))) sz [.ref (x 0), .int (nI k)]) (kMi D (xH cS x a r (nI qi) (nI kc) ++ (txW cI x (nI z) T ++ (stW cI a N v ++ (rgW cI r R u)))) (xH cS x a r (nI (p_nx qi)) (nI (m_kc kc)) ++ (txW cI x (nI z) T ++ (stW cI a (p_renew N n k) v ++ (rgW cI r (updN R (p_nx qi) N) u)))) sz (nI n)) 0 0 (va_A (xH cS x a r (nI qi) (nI kc) ++ (txW cI x (nI z) T ++ (stW cI a N v ++ (rgW cI r R u)))) sz) := by
  refine k_ofW (by decide) (Nat.le_of_ble_eq_true rfl) ?_
  intro p e s m args below meth c hx hb hr hml hts hown hlocks hnm hsz hP hK hD hE ls hl
  subst hsz
  have hA : ∀ q : Nat, s.heap.size ≤ q → (va_A (xH cS x a r (nI qi) (nI kc) ++ (txW cI x (nI z) T ++ (stW cI a N v ++ (rgW cI r R u)))) s.heap.size) q := fun q h => Or.inr h
  have hS : va_S (va_A (xH cS x a r (nI qi) (nI kc) ++ (txW cI x (nI z) T ++ (stW cI a N v ++ (rgW cI r R u)))) s.heap.size) s.heap s.heap [] := va_S.rf
  have hl : lv_has ls 2 [(0, .ref (x 0)), (1, .int (nI k))] := hl
  have h14 := p_can_lt hn hn14 hcan
  refine lv_aload_n hx hb dX4_renew_0 rfl (lv_at hl 0 rfl) ?_
  refine lv_iload_n hx hb dX4_renew_1 rfl (lv_at hl 1 rfl) ?_
  refine k_rvV (As := [.int (nI k)]) (rest := []) (wc := xH cS x a r (nI qi) (nI kc) ++ (txW cI x (nI z) T ++ (stW cI a N v))) ⟨hx, hb, hml, hown, hts⟩ (c_X4_requireHose_g l D cI cS cL x a r (nI qi) (nI kc) (nI z) T N v _ (nI k) (is_hose hn hn14 hkn)) lkX4_61 rfl rfl ⟨(Nat.le_of_ble_eq_true rfl), (Nat.le_of_ble_eq_true rfl)⟩ (va_recv hK hP (ci := 3) (q0 := 0) rfl rfl) hK hE (va_P_midL (w1 := []) (wc := xH cS x a r (nI qi) (nI kc) ++ (txW cI x (nI z) T ++ (stW cI a N v))) (w3 := rgW cI r R u) hP) (va_D_midL (w1 := []) (wc := xH cS x a r (nI qi) (nI kc) ++ (txW cI x (nI z) T ++ (stW cI a N v))) (w3 := rgW cI r R u) hD) rfl hl.1 rfl (Nat.le_of_ble_eq_true rfl) dX4_renew_2 ⟨Nat.zero_le _, Nat.zero_le _⟩ ?_
  refine lv_aload_n hx hb dX4_renew_5 rfl (lv_at hl 0 rfl) ?_
  refine lv_iload_n hx hb dX4_renew_6 rfl (lv_at hl 1 rfl) ?_
  refine k_rvV (As := [.int (nI k)]) (rest := []) (wc := xH cS x a r (nI qi) (nI kc) ++ (txW cI x (nI z) T ++ (stW cI a N v))) ⟨hx, hb, hml, hown, hts⟩ (c_X4_requireAtHand_g l D cI cS cL x a r (nI qi) (nI kc) (nI z) T N v _ k (by omega) h1 h4) lkX4_65 rfl rfl ⟨(Nat.le_of_ble_eq_true rfl), (Nat.le_of_ble_eq_true rfl)⟩ (va_recv hK hP (ci := 3) (q0 := 0) rfl rfl) hK hE (va_P_midL (w1 := []) (wc := xH cS x a r (nI qi) (nI kc) ++ (txW cI x (nI z) T ++ (stW cI a N v))) (w3 := rgW cI r R u) hP) (va_D_midL (w1 := []) (wc := xH cS x a r (nI qi) (nI kc) ++ (txW cI x (nI z) T ++ (stW cI a N v))) (w3 := rgW cI r R u) hD) rfl hl.1 rfl (Nat.le_of_ble_eq_true rfl) dX4_renew_7 ⟨Nat.zero_le _, Nat.zero_le _⟩ ?_
  refine lv_aload_n hx hb dX4_renew_10 rfl (lv_at hl 0 rfl) ?_
  refine g4 hx hb hts hown hK hP 0 rfl 0 (by decide) flX4_10 (fun _ h => h) (v := .ref (a 0)) rfl dX4_renew_11 ?_
  refine lv_aload_n hx hb dX4_renew_14 rfl (lv_at hl 0 rfl) ?_
  refine g4 hx hb hts hown hK hP 0 rfl 0 (by decide) flX4_10 (fun _ h => h) (v := .ref (a 0)) rfl dX4_renew_15 ?_
  refine g3 hx hb hts hown hK hP 4 rfl 8 (by decide) flX4_68 (fun _ h => h) (v := .ref (a 3)) rfl dX4_renew_18 ?_
  refine lv_iload_n hx hb dX4_renew_21 rfl (lv_at hl 1 rfl) ?_
  refine k_ald (k := k) hx hb hK hP 7 0 rfl rfl rfl (by omega) (by decide) dX4_renew_22 ?_
  refine lv_aload_n hx hb dX4_renew_23 rfl (lv_at hl 0 rfl) ?_
  refine g4 hx hb hts hown hK hP 0 rfl 0 (by decide) flX4_10 (fun _ h => h) (v := .ref (a 0)) rfl dX4_renew_24 ?_
  refine g3 hx hb hts hown hK hP 4 rfl 9 (by decide) flX4_72 (fun _ h => h) (v := .ref (a 4)) rfl dX4_renew_27 ?_
  refine lv_iload_n hx hb dX4_renew_30 rfl (lv_at hl 1 rfl) ?_
  refine k_ald (k := k) hx hb hK hP 8 0 rfl rfl rfl (by omega) (by decide) dX4_renew_31 ?_
  refine k_riV (As := [.int (N 3 k), .int (N 4 k)]) (rest := []) (wc := stW cI a N v) ⟨hx, hb, hml, hown, hts⟩ (c_X3_canBuy l D cI cS cL a N v _ (N 3 k) (N 4 k)) lkX4_45 rfl rfl ⟨(Nat.le_of_ble_eq_true rfl), (Nat.le_of_ble_eq_true rfl)⟩ (va_recv hK hP (ci := 2) (q0 := 4) rfl rfl) hK hE (va_P_midL (w1 := xH cS x a r (nI qi) (nI kc) ++ (txW cI x (nI z) T)) (wc := stW cI a N v) (w3 := rgW cI r R u) hP) (va_D_midL (w1 := xH cS x a r (nI qi) (nI kc) ++ (txW cI x (nI z) T)) (wc := stW cI a N v) (w3 := rgW cI r R u) hD) rfl hl.1 rfl (Nat.le_of_ble_eq_true rfl) dX4_renew_32 ⟨Nat.zero_le _, Nat.zero_le _⟩ ?_
  refine lv_if_ne (tgt := 48) hx hb dX4_renew_35 (by decide) (fun c1 => ?_) (fun c1 => ?_)
  · have c1 := bI_neT c1
    refine lv_aload_n hx hb dX4_renew_48 rfl (lv_at hl 0 rfl) ?_
    refine k_mvV0 (As := []) (rest := []) (wc := xH cS x a r (nI qi) (nI kc) ++ (txW cI x (nI z) T ++ (stW cI a N v ++ (rgW cI r R u)))) (wc' := xH cS x a r (nI (p_nx qi)) (nI (m_kc kc)) ++ (txW cI x (nI z) T ++ (stW cI a N v ++ (rgW cI r (updN R (p_nx qi) N) u)))) ⟨hx, hb, hml, hown, hts⟩ (c_X4_saveState l D cI cS cL x a r qi kc z T N v R u _ hq hkc) lkX4_54 rfl rfl ⟨(Nat.le_of_ble_eq_true rfl), (Nat.le_of_ble_eq_true rfl)⟩ (va_recv hK hP (ci := 3) (q0 := 0) rfl rfl) hK hE hP hD hS hA rfl rfl hl.1 rfl (Nat.le_of_ble_eq_true rfl) dX4_renew_49 ⟨Nat.zero_le _, Nat.zero_le _⟩ (fun H locs hzz hP hD hS => ?_)
    have hP : va_P D vwCl (xH cS x a r (nI (p_nx qi)) (nI (m_kc kc)) ++ (txW cI x (nI z) T ++ (stW cI a N v ++ (rgW cI r (updN R (p_nx qi) N) u)))) H := hP
    have hD : va_D (va_A (xH cS x a r (nI qi) (nI kc) ++ (txW cI x (nI z) T ++ (stW cI a N v ++ (rgW cI r R u)))) s.heap.size) (xH cS x a r (nI (p_nx qi)) (nI (m_kc kc)) ++ (txW cI x (nI z) T ++ (stW cI a N v ++ (rgW cI r (updN R (p_nx qi) N) u)))) := hD
    refine lv_aload_n hx hb dX4_renew_52 rfl (lv_at hl 0 rfl) ?_
    refine g4 hx hb hts hown hK hP 0 rfl 0 (by decide) flX4_10 (fun _ h => h) (v := .ref (a 0)) rfl dX4_renew_53 ?_
    refine lv_iload_n hx hb dX4_renew_56 rfl (lv_at hl 1 rfl) ?_
    refine k_miV (As := [.int (nI k)]) (rest := []) (w1 := xH cS x a r (nI (p_nx qi)) (nI (m_kc kc)) ++ (txW cI x (nI z) T)) (wc := stW cI a N v) (wc' := stW cI a (p_renew N n k) v) (w3 := rgW cI r (updN R (p_nx qi) N) u) ⟨hx, hb, hml, hown, hts⟩ (c_X3_replaceHose l D cI cS cL a N v _ n k hn h14 (by omega)) lkX4_75 rfl rfl ⟨(Nat.le_of_ble_eq_true rfl), (Nat.le_of_ble_eq_true rfl)⟩ (va_recv hK hP (ci := 2) (q0 := 4) rfl rfl) hK hE hP hD hS hA rfl rfl hl.1 rfl (Nat.le_of_ble_eq_true rfl) dX4_renew_57 ⟨Nat.zero_le _, Nat.zero_le _⟩ (fun H locs hzz hP hD hS => ?_)
    have hP : va_P D vwCl (xH cS x a r (nI (p_nx qi)) (nI (m_kc kc)) ++ (txW cI x (nI z) T ++ (stW cI a (p_renew N n k) v ++ (rgW cI r (updN R (p_nx qi) N) u)))) H := hP
    have hD : va_D (va_A (xH cS x a r (nI qi) (nI kc) ++ (txW cI x (nI z) T ++ (stW cI a N v ++ (rgW cI r R u)))) s.heap.size) (xH cS x a r (nI (p_nx qi)) (nI (m_kc kc)) ++ (txW cI x (nI z) T ++ (stW cI a (p_renew N n k) v ++ (rgW cI r (updN R (p_nx qi) N) u)))) := hD
    have hP : va_P D vwCl (xH cS x a r (nI (p_nx qi)) (nI (m_kc kc)) ++ (txW cI x (nI z) T ++ (stW cI a (p_renew N n k) v ++ (rgW cI r (updN R (p_nx qi) N) u)))) H := hP
    have hD : va_D (va_A (xH cS x a r (nI qi) (nI kc) ++ (txW cI x (nI z) T ++ (stW cI a N v ++ (rgW cI r R u)))) s.heap.size) (xH cS x a r (nI (p_nx qi)) (nI (m_kc kc)) ++ (txW cI x (nI z) T ++ (stW cI a (p_renew N n k) v ++ (rgW cI r (updN R (p_nx qi) N) u)))) := hD
    exact k_eMi hx hb hr hlocks hP hS rfl dX4_renew_60
  · have c1 := bI_eqF c1
    exact Bool.noConfusion (hcan.symm.trans c1)

abbrev rmX4_put_g : Room := { frames := 3, cells := 0, slots := 0, locals := 60 }
set_option maxHeartbeats 4000000 in
set_option maxRecDepth 100000 in
theorem c_X4_put_g (l : Launch) (D : va_G) (cI cS cL : ClassId) (x a : Nat → Nat) (r : Nat → Nat → Nat) (qi kc z : Nat) (T : Nat → Int32) (N : NN) (v : Nat → Int32) (R : Nat → NN) (u : Nat → Nat → Int32) (sz : Nat) (n : Nat) (hn : N 1 2 = nI n) (hn14 : n ≤ 14) (k : Nat) (pl : Int32) (hkn : k < n) (h1 : ¬ N 9 k = -1) (h4 : ¬ N 9 k = 4) (hq : qi < 6) (hkc : kc ≤ 6) (hpl : 0 ≤ pl ∧ pl ≤ 3) : Met l yX4_put (wy_ yX4_put cX4_put 4 (some .int)) rmX4_put_g (kPc D (kTy cI cS cL) (xH cS x a r (nI qi) (nI kc) ++ (txW cI x (nI z) T ++ (stW cI a N v ++ (rgW cI r R u)))) sz [.ref (x 0), .int (nI k), .int pl]) (kMi D (xH cS x a r (nI qi) (nI kc) ++ (txW cI x (nI z) T ++ (stW cI a N v ++ (rgW cI r R u)))) (xH cS x a r (nI (p_nx qi)) (nI (m_kc kc)) ++ (txW cI x (nI z) T ++ (stW cI a (up2 N 9 k pl) v ++ (rgW cI r (updN R (p_nx qi) N) u)))) sz (N 9 k)) 0 0 (va_A (xH cS x a r (nI qi) (nI kc) ++ (txW cI x (nI z) T ++ (stW cI a N v ++ (rgW cI r R u)))) sz) := by
  refine k_ofW (by decide) (Nat.le_of_ble_eq_true rfl) ?_
  intro p e s m args below meth c hx hb hr hml hts hown hlocks hnm hsz hP hK hD hE ls hl
  subst hsz
  have hA : ∀ q : Nat, s.heap.size ≤ q → (va_A (xH cS x a r (nI qi) (nI kc) ++ (txW cI x (nI z) T ++ (stW cI a N v ++ (rgW cI r R u)))) s.heap.size) q := fun q h => Or.inr h
  have hS : va_S (va_A (xH cS x a r (nI qi) (nI kc) ++ (txW cI x (nI z) T ++ (stW cI a N v ++ (rgW cI r R u)))) s.heap.size) s.heap s.heap [] := va_S.rf
  have hl : lv_has ls 4 [(0, .ref (x 0)), (1, .int (nI k)), (2, .int pl)] := hl
  refine lv_aload_n hx hb dX4_put_0 rfl (lv_at hl 0 rfl) ?_
  refine lv_iload_n hx hb dX4_put_1 rfl (lv_at hl 1 rfl) ?_
  refine k_rvV (As := [.int (nI k)]) (rest := []) (wc := xH cS x a r (nI qi) (nI kc) ++ (txW cI x (nI z) T ++ (stW cI a N v))) ⟨hx, hb, hml, hown, hts⟩ (c_X4_requireHose_g l D cI cS cL x a r (nI qi) (nI kc) (nI z) T N v _ (nI k) (is_hose hn hn14 hkn)) lkX4_61 rfl rfl ⟨(Nat.le_of_ble_eq_true rfl), (Nat.le_of_ble_eq_true rfl)⟩ (va_recv hK hP (ci := 3) (q0 := 0) rfl rfl) hK hE (va_P_midL (w1 := []) (wc := xH cS x a r (nI qi) (nI kc) ++ (txW cI x (nI z) T ++ (stW cI a N v))) (w3 := rgW cI r R u) hP) (va_D_midL (w1 := []) (wc := xH cS x a r (nI qi) (nI kc) ++ (txW cI x (nI z) T ++ (stW cI a N v))) (w3 := rgW cI r R u) hD) rfl hl.1 rfl (Nat.le_of_ble_eq_true rfl) dX4_put_2 ⟨Nat.zero_le _, Nat.zero_le _⟩ ?_
  refine lv_iload_n hx hb dX4_put_5 rfl (lv_at hl 2 rfl) ?_
  refine lv_iconst (v := 0) hx hb dX4_put_6 (by decide) ?_
  refine lv_iconst (v := 3) hx hb dX4_put_7 (by decide) ?_
  refine k_riS (As := [.int pl, .int 0, .int 3]) (rest := []) (wc := []) ⟨hx, hb, hml, hown, hts⟩ (c_X4_isWithin l D cI cS cL _ pl 0 3) lkX4_34 rfl rfl ⟨(Nat.le_of_ble_eq_true rfl), (Nat.le_of_ble_eq_true rfl)⟩ hK hE k_nilP (k_nilD (A := va_A (xH cS x a r (nI qi) (nI kc) ++ (txW cI x (nI z) T ++ (stW cI a N v ++ (rgW cI r R u)))) s.heap.size)) rfl hl.1 rfl (Nat.le_of_ble_eq_true rfl) dX4_put_8 ⟨Nat.zero_le _, Nat.zero_le _⟩ ?_
  refine lv_if_ne (tgt := 24) hx hb dX4_put_11 (by decide) (fun c1 => ?_) (fun c1 => ?_)
  · have c1 := bI_ne0 c1
    refine lv_aload_n hx hb dX4_put_24 rfl (lv_at hl 0 rfl) ?_
    refine lv_iload_n hx hb dX4_put_25 rfl (lv_at hl 1 rfl) ?_
    refine k_rvV (As := [.int (nI k)]) (rest := []) (wc := xH cS x a r (nI qi) (nI kc) ++ (txW cI x (nI z) T ++ (stW cI a N v))) ⟨hx, hb, hml, hown, hts⟩ (c_X4_requireAtHand_g l D cI cS cL x a r (nI qi) (nI kc) (nI z) T N v _ k (by omega) h1 h4) lkX4_65 rfl rfl ⟨(Nat.le_of_ble_eq_true rfl), (Nat.le_of_ble_eq_true rfl)⟩ (va_recv hK hP (ci := 3) (q0 := 0) rfl rfl) hK hE (va_P_midL (w1 := []) (wc := xH cS x a r (nI qi) (nI kc) ++ (txW cI x (nI z) T ++ (stW cI a N v))) (w3 := rgW cI r R u) hP) (va_D_midL (w1 := []) (wc := xH cS x a r (nI qi) (nI kc) ++ (txW cI x (nI z) T ++ (stW cI a N v))) (w3 := rgW cI r R u) hD) rfl hl.1 rfl (Nat.le_of_ble_eq_true rfl) dX4_put_26 ⟨Nat.zero_le _, Nat.zero_le _⟩ ?_
    refine lv_aload_n hx hb dX4_put_29 rfl (lv_at hl 0 rfl) ?_
    refine k_mvV0 (As := []) (rest := []) (wc := xH cS x a r (nI qi) (nI kc) ++ (txW cI x (nI z) T ++ (stW cI a N v ++ (rgW cI r R u)))) (wc' := xH cS x a r (nI (p_nx qi)) (nI (m_kc kc)) ++ (txW cI x (nI z) T ++ (stW cI a N v ++ (rgW cI r (updN R (p_nx qi) N) u)))) ⟨hx, hb, hml, hown, hts⟩ (c_X4_saveState l D cI cS cL x a r qi kc z T N v R u _ hq hkc) lkX4_54 rfl rfl ⟨(Nat.le_of_ble_eq_true rfl), (Nat.le_of_ble_eq_true rfl)⟩ (va_recv hK hP (ci := 3) (q0 := 0) rfl rfl) hK hE hP hD hS hA rfl rfl hl.1 rfl (Nat.le_of_ble_eq_true rfl) dX4_put_30 ⟨Nat.zero_le _, Nat.zero_le _⟩ (fun H locs hzz hP hD hS => ?_)
    have hP : va_P D vwCl (xH cS x a r (nI (p_nx qi)) (nI (m_kc kc)) ++ (txW cI x (nI z) T ++ (stW cI a N v ++ (rgW cI r (updN R (p_nx qi) N) u)))) H := hP
    have hD : va_D (va_A (xH cS x a r (nI qi) (nI kc) ++ (txW cI x (nI z) T ++ (stW cI a N v ++ (rgW cI r R u)))) s.heap.size) (xH cS x a r (nI (p_nx qi)) (nI (m_kc kc)) ++ (txW cI x (nI z) T ++ (stW cI a N v ++ (rgW cI r (updN R (p_nx qi) N) u)))) := hD
    refine lv_aload_n hx hb dX4_put_33 rfl (lv_at hl 0 rfl) ?_
    refine g4 hx hb hts hown hK hP 0 rfl 0 (by decide) flX4_10 (fun _ h => h) (v := .ref (a 0)) rfl dX4_put_34 ?_
    refine g3 hx hb hts hown hK hP 4 rfl 14 (by decide) flX4_81 (fun _ h => h) (v := .ref (a 9)) rfl dX4_put_37 ?_
    refine lv_iload_n hx hb dX4_put_40 rfl (lv_at hl 1 rfl) ?_
    refine k_ald (k := k) hx hb hK hP 13 0 rfl rfl rfl (by omega) (by decide) dX4_put_41 ?_
    refine lv_istore_n (lv' := [(3, .int (N 9 k)), (0, .ref (x 0)), (1, .int (nI k)), (2, .int pl)]) hx hb dX4_put_42 rfl hl (by decide) rfl (fun ls hl => ?_)
    refine lv_aload_n hx hb dX4_put_43 rfl (lv_at hl 1 rfl) ?_
    refine g4 hx hb hts hown hK hP 0 rfl 0 (by decide) flX4_10 (fun _ h => h) (v := .ref (a 0)) rfl dX4_put_44 ?_
    refine g3 hx hb hts hown hK hP 4 rfl 14 (by decide) flX4_81 (fun _ h => h) (v := .ref (a 9)) rfl dX4_put_47 ?_
    refine lv_iload_n hx hb dX4_put_50 rfl (lv_at hl 2 rfl) ?_
    refine lv_iload_n hx hb dX4_put_51 rfl (lv_at hl 3 rfl) ?_
    refine k_ast (k := k) hx hb hK hP hD hS 13 0 rfl rfl rfl (by omega) (by decide) dX4_put_52 (fun H locs hP hD hS => ?_)
    have hP : va_P D vwCl (xH cS x a r (nI (p_nx qi)) (nI (m_kc kc)) ++ (txW cI x (nI z) T ++ (stW cI a (up2 N 9 k pl) v ++ (rgW cI r (updN R (p_nx qi) N) u)))) H := hP
    have hD : va_D (va_A (xH cS x a r (nI qi) (nI kc) ++ (txW cI x (nI z) T ++ (stW cI a N v ++ (rgW cI r R u)))) s.heap.size) (xH cS x a r (nI (p_nx qi)) (nI (m_kc kc)) ++ (txW cI x (nI z) T ++ (stW cI a (up2 N 9 k pl) v ++ (rgW cI r (updN R (p_nx qi) N) u)))) := hD
    refine lv_iload_n hx hb dX4_put_53 rfl (lv_at hl 0 rfl) ?_
    have hP : va_P D vwCl (xH cS x a r (nI (p_nx qi)) (nI (m_kc kc)) ++ (txW cI x (nI z) T ++ (stW cI a (up2 N 9 k pl) v ++ (rgW cI r (updN R (p_nx qi) N) u)))) H := hP
    have hD : va_D (va_A (xH cS x a r (nI qi) (nI kc) ++ (txW cI x (nI z) T ++ (stW cI a N v ++ (rgW cI r R u)))) s.heap.size) (xH cS x a r (nI (p_nx qi)) (nI (m_kc kc)) ++ (txW cI x (nI z) T ++ (stW cI a (up2 N 9 k pl) v ++ (rgW cI r (updN R (p_nx qi) N) u)))) := hD
    exact k_eMi hx hb hr hlocks hP hS rfl dX4_put_54
  · have c1 := bI_eq0 c1
    exact absurd hpl c1

abbrev rmX4_lend_g : Room := { frames := 3, cells := 0, slots := 0, locals := 63 }
set_option maxHeartbeats 4000000 in
set_option maxRecDepth 100000 in
theorem c_X4_lend_g (l : Launch) (D : va_G) (cI cS cL : ClassId) (x a : Nat → Nat) (r : Nat → Nat → Nat) (qi kc z : Nat) (T : Nat → Int32) (N : NN) (v : Nat → Int32) (R : Nat → NN) (u : Nat → Nat → Int32) (sz : Nat) (n : Nat) (hn : N 1 2 = nI n) (hn14 : n ≤ 14) (k : Nat) (dd : Int32) (hkn : k < n) (hq : qi < 6) (hkc : kc ≤ 6) (hdd : 1 ≤ dd ∧ dd ≤ 99) (hrd : p_reason N k = 0) : Met l yX4_lend (wy_ yX4_lend cX4_lend 3 (some .int)) rmX4_lend_g (kPc D (kTy cI cS cL) (xH cS x a r (nI qi) (nI kc) ++ (txW cI x (nI z) T ++ (stW cI a N v ++ (rgW cI r R u)))) sz [.ref (x 0), .int (nI k), .int dd]) (kMi D (xH cS x a r (nI qi) (nI kc) ++ (txW cI x (nI z) T ++ (stW cI a N v ++ (rgW cI r R u)))) (xH cS x a r (nI (p_nx qi)) (nI (m_kc kc)) ++ (txW cI x (nI z) T ++ (stW cI a (p_lend N k dd) v ++ (rgW cI r (updN R (p_nx qi) N) u)))) sz (N 1 0 + dd)) 0 0 (va_A (xH cS x a r (nI qi) (nI kc) ++ (txW cI x (nI z) T ++ (stW cI a N v ++ (rgW cI r R u)))) sz) := by
  refine k_ofW (by decide) (Nat.le_of_ble_eq_true rfl) ?_
  intro p e s m args below meth c hx hb hr hml hts hown hlocks hnm hsz hP hK hD hE ls hl
  subst hsz
  have hA : ∀ q : Nat, s.heap.size ≤ q → (va_A (xH cS x a r (nI qi) (nI kc) ++ (txW cI x (nI z) T ++ (stW cI a N v ++ (rgW cI r R u)))) s.heap.size) q := fun q h => Or.inr h
  have hS : va_S (va_A (xH cS x a r (nI qi) (nI kc) ++ (txW cI x (nI z) T ++ (stW cI a N v ++ (rgW cI r R u)))) s.heap.size) s.heap s.heap [] := va_S.rf
  have hl : lv_has ls 3 [(0, .ref (x 0)), (1, .int (nI k)), (2, .int dd)] := hl
  refine lv_aload_n hx hb dX4_lend_0 rfl (lv_at hl 0 rfl) ?_
  refine lv_iload_n hx hb dX4_lend_1 rfl (lv_at hl 1 rfl) ?_
  refine k_rvV (As := [.int (nI k)]) (rest := []) (wc := xH cS x a r (nI qi) (nI kc) ++ (txW cI x (nI z) T ++ (stW cI a N v))) ⟨hx, hb, hml, hown, hts⟩ (c_X4_requireHose_g l D cI cS cL x a r (nI qi) (nI kc) (nI z) T N v _ (nI k) (is_hose hn hn14 hkn)) lkX4_61 rfl rfl ⟨(Nat.le_of_ble_eq_true rfl), (Nat.le_of_ble_eq_true rfl)⟩ (va_recv hK hP (ci := 3) (q0 := 0) rfl rfl) hK hE (va_P_midL (w1 := []) (wc := xH cS x a r (nI qi) (nI kc) ++ (txW cI x (nI z) T ++ (stW cI a N v))) (w3 := rgW cI r R u) hP) (va_D_midL (w1 := []) (wc := xH cS x a r (nI qi) (nI kc) ++ (txW cI x (nI z) T ++ (stW cI a N v))) (w3 := rgW cI r R u) hD) rfl hl.1 rfl (Nat.le_of_ble_eq_true rfl) dX4_lend_2 ⟨Nat.zero_le _, Nat.zero_le _⟩ ?_
  refine lv_iload_n hx hb dX4_lend_5 rfl (lv_at hl 2 rfl) ?_
  refine lv_iconst (v := 1) hx hb dX4_lend_6 (by decide) ?_
  refine lv_bipush (v := 99) hx hb dX4_lend_7 (by decide) ?_
  refine k_riS (As := [.int dd, .int 1, .int 99]) (rest := []) (wc := []) ⟨hx, hb, hml, hown, hts⟩ (c_X4_isWithin l D cI cS cL _ dd 1 99) lkX4_34 rfl rfl ⟨(Nat.le_of_ble_eq_true rfl), (Nat.le_of_ble_eq_true rfl)⟩ hK hE k_nilP (k_nilD (A := va_A (xH cS x a r (nI qi) (nI kc) ++ (txW cI x (nI z) T ++ (stW cI a N v ++ (rgW cI r R u)))) s.heap.size)) rfl hl.1 rfl (Nat.le_of_ble_eq_true rfl) dX4_lend_9 ⟨Nat.zero_le _, Nat.zero_le _⟩ ?_
  refine lv_if_ne (tgt := 25) hx hb dX4_lend_12 (by decide) (fun c1 => ?_) (fun c1 => ?_)
  · have c1 := bI_ne0 c1
    refine lv_aload_n hx hb dX4_lend_25 rfl (lv_at hl 0 rfl) ?_
    refine g4 hx hb hts hown hK hP 0 rfl 0 (by decide) flX4_10 (fun _ h => h) (v := .ref (a 0)) rfl dX4_lend_26 ?_
    refine lv_iload_n hx hb dX4_lend_29 rfl (lv_at hl 1 rfl) ?_
    refine k_riV (As := [.int (nI k)]) (rest := []) (wc := stW cI a N v) ⟨hx, hb, hml, hown, hts⟩ (c_X3_isReady l D cI cS cL a N v _ k (by omega)) lkX4_86 rfl rfl ⟨(Nat.le_of_ble_eq_true rfl), (Nat.le_of_ble_eq_true rfl)⟩ (va_recv hK hP (ci := 2) (q0 := 4) rfl rfl) hK hE (va_P_midL (w1 := xH cS x a r (nI qi) (nI kc) ++ (txW cI x (nI z) T)) (wc := stW cI a N v) (w3 := rgW cI r R u) hP) (va_D_midL (w1 := xH cS x a r (nI qi) (nI kc) ++ (txW cI x (nI z) T)) (wc := stW cI a N v) (w3 := rgW cI r R u) hD) rfl hl.1 rfl (Nat.le_of_ble_eq_true rfl) dX4_lend_30 ⟨Nat.zero_le _, Nat.zero_le _⟩ ?_
    refine lv_if_ne (tgt := 46) hx hb dX4_lend_33 (by decide) (fun c2 => ?_) (fun c2 => ?_)
    · have c2 := bI_ne0 c2
      refine lv_aload_n hx hb dX4_lend_46 rfl (lv_at hl 0 rfl) ?_
      refine k_mvV0 (As := []) (rest := []) (wc := xH cS x a r (nI qi) (nI kc) ++ (txW cI x (nI z) T ++ (stW cI a N v ++ (rgW cI r R u)))) (wc' := xH cS x a r (nI (p_nx qi)) (nI (m_kc kc)) ++ (txW cI x (nI z) T ++ (stW cI a N v ++ (rgW cI r (updN R (p_nx qi) N) u)))) ⟨hx, hb, hml, hown, hts⟩ (c_X4_saveState l D cI cS cL x a r qi kc z T N v R u _ hq hkc) lkX4_54 rfl rfl ⟨(Nat.le_of_ble_eq_true rfl), (Nat.le_of_ble_eq_true rfl)⟩ (va_recv hK hP (ci := 3) (q0 := 0) rfl rfl) hK hE hP hD hS hA rfl rfl hl.1 rfl (Nat.le_of_ble_eq_true rfl) dX4_lend_47 ⟨Nat.zero_le _, Nat.zero_le _⟩ (fun H locs hzz hP hD hS => ?_)
      have hP : va_P D vwCl (xH cS x a r (nI (p_nx qi)) (nI (m_kc kc)) ++ (txW cI x (nI z) T ++ (stW cI a N v ++ (rgW cI r (updN R (p_nx qi) N) u)))) H := hP
      have hD : va_D (va_A (xH cS x a r (nI qi) (nI kc) ++ (txW cI x (nI z) T ++ (stW cI a N v ++ (rgW cI r R u)))) s.heap.size) (xH cS x a r (nI (p_nx qi)) (nI (m_kc kc)) ++ (txW cI x (nI z) T ++ (stW cI a N v ++ (rgW cI r (updN R (p_nx qi) N) u)))) := hD
      refine lv_aload_n hx hb dX4_lend_50 rfl (lv_at hl 0 rfl) ?_
      refine g4 hx hb hts hown hK hP 0 rfl 0 (by decide) flX4_10 (fun _ h => h) (v := .ref (a 0)) rfl dX4_lend_51 ?_
      refine lv_iload_n hx hb dX4_lend_54 rfl (lv_at hl 1 rfl) ?_
      refine lv_iload_n hx hb dX4_lend_55 rfl (lv_at hl 2 rfl) ?_
      refine k_miV (As := [.int (nI k), .int dd]) (rest := []) (w1 := xH cS x a r (nI (p_nx qi)) (nI (m_kc kc)) ++ (txW cI x (nI z) T)) (wc := stW cI a N v) (wc' := stW cI a (p_lend N k dd) v) (w3 := rgW cI r (updN R (p_nx qi) N) u) ⟨hx, hb, hml, hown, hts⟩ (c_X3_lendOut l D cI cS cL a N v _ k dd (by omega)) lkX4_92 rfl rfl ⟨(Nat.le_of_ble_eq_true rfl), (Nat.le_of_ble_eq_true rfl)⟩ (va_recv hK hP (ci := 2) (q0 := 4) rfl rfl) hK hE hP hD hS hA rfl rfl hl.1 rfl (Nat.le_of_ble_eq_true rfl) dX4_lend_56 ⟨Nat.zero_le _, Nat.zero_le _⟩ (fun H locs hzz hP hD hS => ?_)
      have hP : va_P D vwCl (xH cS x a r (nI (p_nx qi)) (nI (m_kc kc)) ++ (txW cI x (nI z) T ++ (stW cI a (p_lend N k dd) v ++ (rgW cI r (updN R (p_nx qi) N) u)))) H := hP
      have hD : va_D (va_A (xH cS x a r (nI qi) (nI kc) ++ (txW cI x (nI z) T ++ (stW cI a N v ++ (rgW cI r R u)))) s.heap.size) (xH cS x a r (nI (p_nx qi)) (nI (m_kc kc)) ++ (txW cI x (nI z) T ++ (stW cI a (p_lend N k dd) v ++ (rgW cI r (updN R (p_nx qi) N) u)))) := hD
      have hP : va_P D vwCl (xH cS x a r (nI (p_nx qi)) (nI (m_kc kc)) ++ (txW cI x (nI z) T ++ (stW cI a (p_lend N k dd) v ++ (rgW cI r (updN R (p_nx qi) N) u)))) H := hP
      have hD : va_D (va_A (xH cS x a r (nI qi) (nI kc) ++ (txW cI x (nI z) T ++ (stW cI a N v ++ (rgW cI r R u)))) s.heap.size) (xH cS x a r (nI (p_nx qi)) (nI (m_kc kc)) ++ (txW cI x (nI z) T ++ (stW cI a (p_lend N k dd) v ++ (rgW cI r (updN R (p_nx qi) N) u)))) := hD
      exact k_eMi hx hb hr hlocks hP hS rfl dX4_lend_59
    · have c2 := bI_eq0 c2
      exact absurd hrd c2
  · have c1 := bI_eq0 c1
    exact absurd hdd c1

abbrev rmX4_test_g : Room := { frames := 6, cells := 0, slots := 0, locals := 130 }
set_option maxHeartbeats 4000000 in
set_option maxRecDepth 100000 in
theorem c_X4_test_g (l : Launch) (D : va_G) (cI cS cL : ClassId) (x a : Nat → Nat) (r : Nat → Nat → Nat) (qi kc z : Nat) (T : Nat → Int32) (N : NN) (v : Nat → Int32) (R : Nat → NN) (u : Nat → Nat → Int32) (sz : Nat) (n : Nat) (hn : N 1 2 = nI n) (hn14 : n ≤ 14) (k w : Nat) (hkn : k < n) (h1 : ¬ N 9 k = -1) (h4 : ¬ N 9 k = 4) (hq : qi < 6) (hkc : kc ≤ 6) (hw4 : 4 ≤ w) (hw24 : w ≤ 24) (hw0 : 0 ≤ N 7 k) (hw1 : N 7 k ≤ 99) : Met l yX4_test (wy_ yX4_test cX4_test 3 (some .int)) rmX4_test_g (kPc D (kTy cI cS cL) (xH cS x a r (nI qi) (nI kc) ++ (txW cI x (nI z) T ++ (stW cI a N v ++ (rgW cI r R u)))) sz [.ref (x 0), .int (nI k), .int (nI w)]) (kMi D (xH cS x a r (nI qi) (nI kc) ++ (txW cI x (nI z) T ++ (stW cI a N v ++ (rgW cI r R u)))) (xH cS x a r (nI (p_nx qi)) (nI (m_kc kc)) ++ (txW cI x (nI z) T ++ (stW cI a (p_test N k w) v ++ (rgW cI r (updN R (p_nx qi) N) u)))) sz (p_out N k w)) 0 0 (va_A (xH cS x a r (nI qi) (nI kc) ++ (txW cI x (nI z) T ++ (stW cI a N v ++ (rgW cI r R u)))) sz) := by
  refine k_ofW (by decide) (Nat.le_of_ble_eq_true rfl) ?_
  intro p e s m args below meth c hx hb hr hml hts hown hlocks hnm hsz hP hK hD hE ls hl
  subst hsz
  have hA : ∀ q : Nat, s.heap.size ≤ q → (va_A (xH cS x a r (nI qi) (nI kc) ++ (txW cI x (nI z) T ++ (stW cI a N v ++ (rgW cI r R u)))) s.heap.size) q := fun q h => Or.inr h
  have hS : va_S (va_A (xH cS x a r (nI qi) (nI kc) ++ (txW cI x (nI z) T ++ (stW cI a N v ++ (rgW cI r R u)))) s.heap.size) s.heap s.heap [] := va_S.rf
  have hl : lv_has ls 3 [(0, .ref (x 0)), (1, .int (nI k)), (2, .int (nI w))] := hl
  refine lv_aload_n hx hb dX4_test_0 rfl (lv_at hl 0 rfl) ?_
  refine lv_iload_n hx hb dX4_test_1 rfl (lv_at hl 1 rfl) ?_
  refine k_rvV (As := [.int (nI k)]) (rest := []) (wc := xH cS x a r (nI qi) (nI kc) ++ (txW cI x (nI z) T ++ (stW cI a N v))) ⟨hx, hb, hml, hown, hts⟩ (c_X4_requireHose_g l D cI cS cL x a r (nI qi) (nI kc) (nI z) T N v _ (nI k) (is_hose hn hn14 hkn)) lkX4_61 rfl rfl ⟨(Nat.le_of_ble_eq_true rfl), (Nat.le_of_ble_eq_true rfl)⟩ (va_recv hK hP (ci := 3) (q0 := 0) rfl rfl) hK hE (va_P_midL (w1 := []) (wc := xH cS x a r (nI qi) (nI kc) ++ (txW cI x (nI z) T ++ (stW cI a N v))) (w3 := rgW cI r R u) hP) (va_D_midL (w1 := []) (wc := xH cS x a r (nI qi) (nI kc) ++ (txW cI x (nI z) T ++ (stW cI a N v))) (w3 := rgW cI r R u) hD) rfl hl.1 rfl (Nat.le_of_ble_eq_true rfl) dX4_test_2 ⟨Nat.zero_le _, Nat.zero_le _⟩ ?_
  refine lv_iload_n hx hb dX4_test_5 rfl (lv_at hl 2 rfl) ?_
  refine k_rvS (As := [.int (nI w)]) (rest := []) (wc := []) ⟨hx, hb, hml, hown, hts⟩ (c_X4_requirePressure_g l D cI cS cL _ (nI w) (nI_rg (lo := 4) (hi := 24) (by omega) (by omega) (by decide))) lkX4_96 rfl rfl ⟨(Nat.le_of_ble_eq_true rfl), (Nat.le_of_ble_eq_true rfl)⟩ hK hE k_nilP (k_nilD (A := va_A (xH cS x a r (nI qi) (nI kc) ++ (txW cI x (nI z) T ++ (stW cI a N v ++ (rgW cI r R u)))) s.heap.size)) rfl hl.1 rfl (Nat.le_of_ble_eq_true rfl) dX4_test_6 ⟨Nat.zero_le _, Nat.zero_le _⟩ ?_
  refine lv_aload_n hx hb dX4_test_9 rfl (lv_at hl 0 rfl) ?_
  refine lv_iload_n hx hb dX4_test_10 rfl (lv_at hl 1 rfl) ?_
  refine k_rvV (As := [.int (nI k)]) (rest := []) (wc := xH cS x a r (nI qi) (nI kc) ++ (txW cI x (nI z) T ++ (stW cI a N v))) ⟨hx, hb, hml, hown, hts⟩ (c_X4_requireAtHand_g l D cI cS cL x a r (nI qi) (nI kc) (nI z) T N v _ k (by omega) h1 h4) lkX4_65 rfl rfl ⟨(Nat.le_of_ble_eq_true rfl), (Nat.le_of_ble_eq_true rfl)⟩ (va_recv hK hP (ci := 3) (q0 := 0) rfl rfl) hK hE (va_P_midL (w1 := []) (wc := xH cS x a r (nI qi) (nI kc) ++ (txW cI x (nI z) T ++ (stW cI a N v))) (w3 := rgW cI r R u) hP) (va_D_midL (w1 := []) (wc := xH cS x a r (nI qi) (nI kc) ++ (txW cI x (nI z) T ++ (stW cI a N v))) (w3 := rgW cI r R u) hD) rfl hl.1 rfl (Nat.le_of_ble_eq_true rfl) dX4_test_11 ⟨Nat.zero_le _, Nat.zero_le _⟩ ?_
  refine lv_aload_n hx hb dX4_test_14 rfl (lv_at hl 0 rfl) ?_
  refine k_mvV0 (As := []) (rest := []) (wc := xH cS x a r (nI qi) (nI kc) ++ (txW cI x (nI z) T ++ (stW cI a N v ++ (rgW cI r R u)))) (wc' := xH cS x a r (nI (p_nx qi)) (nI (m_kc kc)) ++ (txW cI x (nI z) T ++ (stW cI a N v ++ (rgW cI r (updN R (p_nx qi) N) u)))) ⟨hx, hb, hml, hown, hts⟩ (c_X4_saveState l D cI cS cL x a r qi kc z T N v R u _ hq hkc) lkX4_54 rfl rfl ⟨(Nat.le_of_ble_eq_true rfl), (Nat.le_of_ble_eq_true rfl)⟩ (va_recv hK hP (ci := 3) (q0 := 0) rfl rfl) hK hE hP hD hS hA rfl rfl hl.1 rfl (Nat.le_of_ble_eq_true rfl) dX4_test_15 ⟨Nat.zero_le _, Nat.zero_le _⟩ (fun H locs hzz hP hD hS => ?_)
  have hP : va_P D vwCl (xH cS x a r (nI (p_nx qi)) (nI (m_kc kc)) ++ (txW cI x (nI z) T ++ (stW cI a N v ++ (rgW cI r (updN R (p_nx qi) N) u)))) H := hP
  have hD : va_D (va_A (xH cS x a r (nI qi) (nI kc) ++ (txW cI x (nI z) T ++ (stW cI a N v ++ (rgW cI r R u)))) s.heap.size) (xH cS x a r (nI (p_nx qi)) (nI (m_kc kc)) ++ (txW cI x (nI z) T ++ (stW cI a N v ++ (rgW cI r (updN R (p_nx qi) N) u)))) := hD
  refine lv_aload_n hx hb dX4_test_18 rfl (lv_at hl 0 rfl) ?_
  refine g4 hx hb hts hown hK hP 0 rfl 0 (by decide) flX4_10 (fun _ h => h) (v := .ref (a 0)) rfl dX4_test_19 ?_
  refine lv_iload_n hx hb dX4_test_22 rfl (lv_at hl 1 rfl) ?_
  refine lv_iload_n hx hb dX4_test_23 rfl (lv_at hl 2 rfl) ?_
  refine k_miV (As := [.int (nI k), .int (nI w)]) (rest := []) (w1 := xH cS x a r (nI (p_nx qi)) (nI (m_kc kc)) ++ (txW cI x (nI z) T)) (wc := stW cI a N v) (wc' := stW cI a (p_test N k w) v) (w3 := rgW cI r (updN R (p_nx qi) N) u) ⟨hx, hb, hml, hown, hts⟩ (c_X3_runTest l D cI cS cL a N v _ k w (by omega) (by omega) hw0 hw1) lkX4_99 rfl rfl ⟨(Nat.le_of_ble_eq_true rfl), (Nat.le_of_ble_eq_true rfl)⟩ (va_recv hK hP (ci := 2) (q0 := 4) rfl rfl) hK hE hP hD hS hA rfl rfl hl.1 rfl (Nat.le_of_ble_eq_true rfl) dX4_test_24 ⟨Nat.zero_le _, Nat.zero_le _⟩ (fun H locs hzz hP hD hS => ?_)
  have hP : va_P D vwCl (xH cS x a r (nI (p_nx qi)) (nI (m_kc kc)) ++ (txW cI x (nI z) T ++ (stW cI a (p_test N k w) v ++ (rgW cI r (updN R (p_nx qi) N) u)))) H := hP
  have hD : va_D (va_A (xH cS x a r (nI qi) (nI kc) ++ (txW cI x (nI z) T ++ (stW cI a N v ++ (rgW cI r R u)))) s.heap.size) (xH cS x a r (nI (p_nx qi)) (nI (m_kc kc)) ++ (txW cI x (nI z) T ++ (stW cI a (p_test N k w) v ++ (rgW cI r (updN R (p_nx qi) N) u)))) := hD
  have hP : va_P D vwCl (xH cS x a r (nI (p_nx qi)) (nI (m_kc kc)) ++ (txW cI x (nI z) T ++ (stW cI a (p_test N k w) v ++ (rgW cI r (updN R (p_nx qi) N) u)))) H := hP
  have hD : va_D (va_A (xH cS x a r (nI qi) (nI kc) ++ (txW cI x (nI z) T ++ (stW cI a N v ++ (rgW cI r R u)))) s.heap.size) (xH cS x a r (nI (p_nx qi)) (nI (m_kc kc)) ++ (txW cI x (nI z) T ++ (stW cI a (p_test N k w) v ++ (rgW cI r (updN R (p_nx qi) N) u)))) := hD
  exact k_eMi hx hb hr hlocks hP hS rfl dX4_test_27

abbrev rmX4_want_g : Room := { frames := 3, cells := 0, slots := 0, locals := 60 }
set_option maxHeartbeats 4000000 in
set_option maxRecDepth 100000 in
theorem c_X4_want_g (l : Launch) (D : va_G) (cI cS cL : ClassId) (x a : Nat → Nat) (r : Nat → Nat → Nat) (qi kc z : Nat) (T : Nat → Int32) (N : NN) (v : Nat → Int32) (R : Nat → NN) (u : Nat → Nat → Int32) (sz : Nat) (t : Nat) (ln : Int32) (ht : t < 3) (hq : qi < 6) (hkc : kc ≤ 6) (hln : 0 ≤ ln ∧ ln ≤ 200) : Met l yX4_want (wy_ yX4_want cX4_want 4 (some .int)) rmX4_want_g (kPc D (kTy cI cS cL) (xH cS x a r (nI qi) (nI kc) ++ (txW cI x (nI z) T ++ (stW cI a N v ++ (rgW cI r R u)))) sz [.ref (x 0), .int (nI t), .int ln]) (kMi D (xH cS x a r (nI qi) (nI kc) ++ (txW cI x (nI z) T ++ (stW cI a N v ++ (rgW cI r R u)))) (xH cS x a r (nI (p_nx qi)) (nI (m_kc kc)) ++ (txW cI x (nI z) T ++ (stW cI a (up2 N 2 t ln) v ++ (rgW cI r (updN R (p_nx qi) N) u)))) sz (N 2 t)) 0 0 (va_A (xH cS x a r (nI qi) (nI kc) ++ (txW cI x (nI z) T ++ (stW cI a N v ++ (rgW cI r R u)))) sz) := by
  refine k_ofW (by decide) (Nat.le_of_ble_eq_true rfl) ?_
  intro p e s m args below meth c hx hb hr hml hts hown hlocks hnm hsz hP hK hD hE ls hl
  subst hsz
  have hA : ∀ q : Nat, s.heap.size ≤ q → (va_A (xH cS x a r (nI qi) (nI kc) ++ (txW cI x (nI z) T ++ (stW cI a N v ++ (rgW cI r R u)))) s.heap.size) q := fun q h => Or.inr h
  have hS : va_S (va_A (xH cS x a r (nI qi) (nI kc) ++ (txW cI x (nI z) T ++ (stW cI a N v ++ (rgW cI r R u)))) s.heap.size) s.heap s.heap [] := va_S.rf
  have hl : lv_has ls 4 [(0, .ref (x 0)), (1, .int (nI t)), (2, .int ln)] := hl
  refine lv_iload_n hx hb dX4_want_0 rfl (lv_at hl 1 rfl) ?_
  refine k_rvS (As := [.int (nI t)]) (rest := []) (wc := []) ⟨hx, hb, hml, hown, hts⟩ (c_X4_requireTruck_g l D cI cS cL _ (nI t) (nI_rg (lo := 0) (hi := 2) (by omega) (by omega) (by decide))) lkX4_102 rfl rfl ⟨(Nat.le_of_ble_eq_true rfl), (Nat.le_of_ble_eq_true rfl)⟩ hK hE k_nilP (k_nilD (A := va_A (xH cS x a r (nI qi) (nI kc) ++ (txW cI x (nI z) T ++ (stW cI a N v ++ (rgW cI r R u)))) s.heap.size)) rfl hl.1 rfl (Nat.le_of_ble_eq_true rfl) dX4_want_1 ⟨Nat.zero_le _, Nat.zero_le _⟩ ?_
  refine lv_iload_n hx hb dX4_want_4 rfl (lv_at hl 2 rfl) ?_
  refine lv_iconst (v := 0) hx hb dX4_want_5 (by decide) ?_
  refine lv_sipush (v := 200) hx hb dX4_want_6 (by decide) ?_
  refine k_riS (As := [.int ln, .int 0, .int 200]) (rest := []) (wc := []) ⟨hx, hb, hml, hown, hts⟩ (c_X4_isWithin l D cI cS cL _ ln 0 200) lkX4_34 rfl rfl ⟨(Nat.le_of_ble_eq_true rfl), (Nat.le_of_ble_eq_true rfl)⟩ hK hE k_nilP (k_nilD (A := va_A (xH cS x a r (nI qi) (nI kc) ++ (txW cI x (nI z) T ++ (stW cI a N v ++ (rgW cI r R u)))) s.heap.size)) rfl hl.1 rfl (Nat.le_of_ble_eq_true rfl) dX4_want_9 ⟨Nat.zero_le _, Nat.zero_le _⟩ ?_
  refine lv_if_ne (tgt := 25) hx hb dX4_want_12 (by decide) (fun c1 => ?_) (fun c1 => ?_)
  · have c1 := bI_ne0 c1
    refine lv_aload_n hx hb dX4_want_25 rfl (lv_at hl 0 rfl) ?_
    refine k_mvV0 (As := []) (rest := []) (wc := xH cS x a r (nI qi) (nI kc) ++ (txW cI x (nI z) T ++ (stW cI a N v ++ (rgW cI r R u)))) (wc' := xH cS x a r (nI (p_nx qi)) (nI (m_kc kc)) ++ (txW cI x (nI z) T ++ (stW cI a N v ++ (rgW cI r (updN R (p_nx qi) N) u)))) ⟨hx, hb, hml, hown, hts⟩ (c_X4_saveState l D cI cS cL x a r qi kc z T N v R u _ hq hkc) lkX4_54 rfl rfl ⟨(Nat.le_of_ble_eq_true rfl), (Nat.le_of_ble_eq_true rfl)⟩ (va_recv hK hP (ci := 3) (q0 := 0) rfl rfl) hK hE hP hD hS hA rfl rfl hl.1 rfl (Nat.le_of_ble_eq_true rfl) dX4_want_26 ⟨Nat.zero_le _, Nat.zero_le _⟩ (fun H locs hzz hP hD hS => ?_)
    have hP : va_P D vwCl (xH cS x a r (nI (p_nx qi)) (nI (m_kc kc)) ++ (txW cI x (nI z) T ++ (stW cI a N v ++ (rgW cI r (updN R (p_nx qi) N) u)))) H := hP
    have hD : va_D (va_A (xH cS x a r (nI qi) (nI kc) ++ (txW cI x (nI z) T ++ (stW cI a N v ++ (rgW cI r R u)))) s.heap.size) (xH cS x a r (nI (p_nx qi)) (nI (m_kc kc)) ++ (txW cI x (nI z) T ++ (stW cI a N v ++ (rgW cI r (updN R (p_nx qi) N) u)))) := hD
    refine lv_aload_n hx hb dX4_want_29 rfl (lv_at hl 0 rfl) ?_
    refine g4 hx hb hts hown hK hP 0 rfl 0 (by decide) flX4_10 (fun _ h => h) (v := .ref (a 0)) rfl dX4_want_30 ?_
    refine g3 hx hb hts hown hK hP 4 rfl 6 (by decide) flX4_107 (fun _ h => h) (v := .ref (a 1)) rfl dX4_want_33 ?_
    refine lv_iload_n hx hb dX4_want_36 rfl (lv_at hl 1 rfl) ?_
    refine k_ald (k := t) hx hb hK hP 5 0 rfl rfl rfl (by omega) (by decide) dX4_want_37 ?_
    refine lv_istore_n (lv' := [(3, .int (N 2 t)), (0, .ref (x 0)), (1, .int (nI t)), (2, .int ln)]) hx hb dX4_want_38 rfl hl (by decide) rfl (fun ls hl => ?_)
    refine lv_aload_n hx hb dX4_want_39 rfl (lv_at hl 1 rfl) ?_
    refine g4 hx hb hts hown hK hP 0 rfl 0 (by decide) flX4_10 (fun _ h => h) (v := .ref (a 0)) rfl dX4_want_40 ?_
    refine g3 hx hb hts hown hK hP 4 rfl 6 (by decide) flX4_107 (fun _ h => h) (v := .ref (a 1)) rfl dX4_want_43 ?_
    refine lv_iload_n hx hb dX4_want_46 rfl (lv_at hl 2 rfl) ?_
    refine lv_iload_n hx hb dX4_want_47 rfl (lv_at hl 3 rfl) ?_
    refine k_ast (k := t) hx hb hK hP hD hS 5 0 rfl rfl rfl (by omega) (by decide) dX4_want_48 (fun H locs hP hD hS => ?_)
    have hP : va_P D vwCl (xH cS x a r (nI (p_nx qi)) (nI (m_kc kc)) ++ (txW cI x (nI z) T ++ (stW cI a (up2 N 2 t ln) v ++ (rgW cI r (updN R (p_nx qi) N) u)))) H := hP
    have hD : va_D (va_A (xH cS x a r (nI qi) (nI kc) ++ (txW cI x (nI z) T ++ (stW cI a N v ++ (rgW cI r R u)))) s.heap.size) (xH cS x a r (nI (p_nx qi)) (nI (m_kc kc)) ++ (txW cI x (nI z) T ++ (stW cI a (up2 N 2 t ln) v ++ (rgW cI r (updN R (p_nx qi) N) u)))) := hD
    refine lv_iload_n hx hb dX4_want_49 rfl (lv_at hl 0 rfl) ?_
    have hP : va_P D vwCl (xH cS x a r (nI (p_nx qi)) (nI (m_kc kc)) ++ (txW cI x (nI z) T ++ (stW cI a (up2 N 2 t ln) v ++ (rgW cI r (updN R (p_nx qi) N) u)))) H := hP
    have hD : va_D (va_A (xH cS x a r (nI qi) (nI kc) ++ (txW cI x (nI z) T ++ (stW cI a N v ++ (rgW cI r R u)))) s.heap.size) (xH cS x a r (nI (p_nx qi)) (nI (m_kc kc)) ++ (txW cI x (nI z) T ++ (stW cI a (up2 N 2 t ln) v ++ (rgW cI r (updN R (p_nx qi) N) u)))) := hD
    exact k_eMi hx hb hr hlocks hP hS rfl dX4_want_50
  · have c1 := bI_eq0 c1
    exact absurd hln c1

abbrev rmX4_set_g : Room := { frames := 3, cells := 0, slots := 0, locals := 60 }
set_option maxHeartbeats 4000000 in
set_option maxRecDepth 100000 in
theorem c_X4_set_g (l : Launch) (D : va_G) (cI cS cL : ClassId) (x a : Nat → Nat) (r : Nat → Nat → Nat) (qi kc z : Nat) (T : Nat → Int32) (N : NN) (v : Nat → Int32) (R : Nat → NN) (u : Nat → Nat → Int32) (sz : Nat) (t : Nat) (y : Int32) (ht : t < 3) (hq : qi < 6) (hkc : kc ≤ 6) (hy : set_lo (nI t) ≤ y ∧ y ≤ set_hi (nI t)) : Met l yX4_set (wy_ yX4_set cX4_set 4 (some .int)) rmX4_set_g (kPc D (kTy cI cS cL) (xH cS x a r (nI qi) (nI kc) ++ (txW cI x (nI z) T ++ (stW cI a N v ++ (rgW cI r R u)))) sz [.ref (x 0), .int (nI t), .int y]) (kMi D (xH cS x a r (nI qi) (nI kc) ++ (txW cI x (nI z) T ++ (stW cI a N v ++ (rgW cI r R u)))) (xH cS x a r (nI (p_nx qi)) (nI (m_kc kc)) ++ (txW cI x (nI z) T ++ (stW cI a (up2 N 0 t y) v ++ (rgW cI r (updN R (p_nx qi) N) u)))) sz (N 0 t)) 0 0 (va_A (xH cS x a r (nI qi) (nI kc) ++ (txW cI x (nI z) T ++ (stW cI a N v ++ (rgW cI r R u)))) sz) := by
  refine k_ofW (by decide) (Nat.le_of_ble_eq_true rfl) ?_
  intro p e s m args below meth c hx hb hr hml hts hown hlocks hnm hsz hP hK hD hE ls hl
  subst hsz
  have hA : ∀ q : Nat, s.heap.size ≤ q → (va_A (xH cS x a r (nI qi) (nI kc) ++ (txW cI x (nI z) T ++ (stW cI a N v ++ (rgW cI r R u)))) s.heap.size) q := fun q h => Or.inr h
  have hS : va_S (va_A (xH cS x a r (nI qi) (nI kc) ++ (txW cI x (nI z) T ++ (stW cI a N v ++ (rgW cI r R u)))) s.heap.size) s.heap s.heap [] := va_S.rf
  have hl : lv_has ls 4 [(0, .ref (x 0)), (1, .int (nI t)), (2, .int y)] := hl
  refine lv_iload_n hx hb dX4_set_0 rfl (lv_at hl 1 rfl) ?_
  refine k_rvS (As := [.int (nI t)]) (rest := []) (wc := []) ⟨hx, hb, hml, hown, hts⟩ (c_X4_requireSetting_g l D cI cS cL _ (nI t) (nI_rg (lo := 0) (hi := 2) (by omega) (by omega) (by decide))) lkX4_110 rfl rfl ⟨(Nat.le_of_ble_eq_true rfl), (Nat.le_of_ble_eq_true rfl)⟩ hK hE k_nilP (k_nilD (A := va_A (xH cS x a r (nI qi) (nI kc) ++ (txW cI x (nI z) T ++ (stW cI a N v ++ (rgW cI r R u)))) s.heap.size)) rfl hl.1 rfl (Nat.le_of_ble_eq_true rfl) dX4_set_1 ⟨Nat.zero_le _, Nat.zero_le _⟩ ?_
  refine lv_iload_n hx hb dX4_set_4 rfl (lv_at hl 2 rfl) ?_
  refine lv_iload_n hx hb dX4_set_5 rfl (lv_at hl 1 rfl) ?_
  refine k_riS (As := [.int (nI t)]) (rest := [.int y]) (wc := []) ⟨hx, hb, hml, hown, hts⟩ (c_X4_leastOfSetting l D cI cS cL _ (nI t)) lkX4_113 rfl rfl ⟨(Nat.le_of_ble_eq_true rfl), (Nat.le_of_ble_eq_true rfl)⟩ hK hE k_nilP (k_nilD (A := va_A (xH cS x a r (nI qi) (nI kc) ++ (txW cI x (nI z) T ++ (stW cI a N v ++ (rgW cI r R u)))) s.heap.size)) rfl hl.1 rfl (Nat.le_of_ble_eq_true rfl) dX4_set_6 ⟨Nat.zero_le _, Nat.zero_le _⟩ ?_
  refine lv_iload_n hx hb dX4_set_9 rfl (lv_at hl 1 rfl) ?_
  refine k_riS (As := [.int (nI t)]) (rest := [.int (set_lo (nI t)), .int y]) (wc := []) ⟨hx, hb, hml, hown, hts⟩ (c_X4_greatestOfSetting l D cI cS cL _ (nI t)) lkX4_116 rfl rfl ⟨(Nat.le_of_ble_eq_true rfl), (Nat.le_of_ble_eq_true rfl)⟩ hK hE k_nilP (k_nilD (A := va_A (xH cS x a r (nI qi) (nI kc) ++ (txW cI x (nI z) T ++ (stW cI a N v ++ (rgW cI r R u)))) s.heap.size)) rfl hl.1 rfl (Nat.le_of_ble_eq_true rfl) dX4_set_10 ⟨Nat.zero_le _, Nat.zero_le _⟩ ?_
  refine k_riS (As := [.int y, .int (set_lo (nI t)), .int (set_hi (nI t))]) (rest := []) (wc := []) ⟨hx, hb, hml, hown, hts⟩ (c_X4_isWithin l D cI cS cL _ y (set_lo (nI t)) (set_hi (nI t))) lkX4_34 rfl rfl ⟨(Nat.le_of_ble_eq_true rfl), (Nat.le_of_ble_eq_true rfl)⟩ hK hE k_nilP (k_nilD (A := va_A (xH cS x a r (nI qi) (nI kc) ++ (txW cI x (nI z) T ++ (stW cI a N v ++ (rgW cI r R u)))) s.heap.size)) rfl hl.1 rfl (Nat.le_of_ble_eq_true rfl) dX4_set_13 ⟨Nat.zero_le _, Nat.zero_le _⟩ ?_
  refine lv_if_ne (tgt := 29) hx hb dX4_set_16 (by decide) (fun c1 => ?_) (fun c1 => ?_)
  · have c1 := bI_ne0 c1
    refine lv_aload_n hx hb dX4_set_29 rfl (lv_at hl 0 rfl) ?_
    refine k_mvV0 (As := []) (rest := []) (wc := xH cS x a r (nI qi) (nI kc) ++ (txW cI x (nI z) T ++ (stW cI a N v ++ (rgW cI r R u)))) (wc' := xH cS x a r (nI (p_nx qi)) (nI (m_kc kc)) ++ (txW cI x (nI z) T ++ (stW cI a N v ++ (rgW cI r (updN R (p_nx qi) N) u)))) ⟨hx, hb, hml, hown, hts⟩ (c_X4_saveState l D cI cS cL x a r qi kc z T N v R u _ hq hkc) lkX4_54 rfl rfl ⟨(Nat.le_of_ble_eq_true rfl), (Nat.le_of_ble_eq_true rfl)⟩ (va_recv hK hP (ci := 3) (q0 := 0) rfl rfl) hK hE hP hD hS hA rfl rfl hl.1 rfl (Nat.le_of_ble_eq_true rfl) dX4_set_30 ⟨Nat.zero_le _, Nat.zero_le _⟩ (fun H locs hzz hP hD hS => ?_)
    have hP : va_P D vwCl (xH cS x a r (nI (p_nx qi)) (nI (m_kc kc)) ++ (txW cI x (nI z) T ++ (stW cI a N v ++ (rgW cI r (updN R (p_nx qi) N) u)))) H := hP
    have hD : va_D (va_A (xH cS x a r (nI qi) (nI kc) ++ (txW cI x (nI z) T ++ (stW cI a N v ++ (rgW cI r R u)))) s.heap.size) (xH cS x a r (nI (p_nx qi)) (nI (m_kc kc)) ++ (txW cI x (nI z) T ++ (stW cI a N v ++ (rgW cI r (updN R (p_nx qi) N) u)))) := hD
    refine lv_aload_n hx hb dX4_set_33 rfl (lv_at hl 0 rfl) ?_
    refine g4 hx hb hts hown hK hP 0 rfl 0 (by decide) flX4_10 (fun _ h => h) (v := .ref (a 0)) rfl dX4_set_34 ?_
    refine g3 hx hb hts hown hK hP 4 rfl 7 (by decide) flX4_121 (fun _ h => h) (v := .ref (a 2)) rfl dX4_set_37 ?_
    refine lv_iload_n hx hb dX4_set_40 rfl (lv_at hl 1 rfl) ?_
    refine k_ald (k := t) hx hb hK hP 6 0 rfl rfl rfl (by omega) (by decide) dX4_set_41 ?_
    refine lv_istore_n (lv' := [(3, .int (N 0 t)), (0, .ref (x 0)), (1, .int (nI t)), (2, .int y)]) hx hb dX4_set_42 rfl hl (by decide) rfl (fun ls hl => ?_)
    refine lv_aload_n hx hb dX4_set_43 rfl (lv_at hl 1 rfl) ?_
    refine g4 hx hb hts hown hK hP 0 rfl 0 (by decide) flX4_10 (fun _ h => h) (v := .ref (a 0)) rfl dX4_set_44 ?_
    refine g3 hx hb hts hown hK hP 4 rfl 7 (by decide) flX4_121 (fun _ h => h) (v := .ref (a 2)) rfl dX4_set_47 ?_
    refine lv_iload_n hx hb dX4_set_50 rfl (lv_at hl 2 rfl) ?_
    refine lv_iload_n hx hb dX4_set_51 rfl (lv_at hl 3 rfl) ?_
    refine k_ast (k := t) hx hb hK hP hD hS 6 0 rfl rfl rfl (by omega) (by decide) dX4_set_52 (fun H locs hP hD hS => ?_)
    have hP : va_P D vwCl (xH cS x a r (nI (p_nx qi)) (nI (m_kc kc)) ++ (txW cI x (nI z) T ++ (stW cI a (up2 N 0 t y) v ++ (rgW cI r (updN R (p_nx qi) N) u)))) H := hP
    have hD : va_D (va_A (xH cS x a r (nI qi) (nI kc) ++ (txW cI x (nI z) T ++ (stW cI a N v ++ (rgW cI r R u)))) s.heap.size) (xH cS x a r (nI (p_nx qi)) (nI (m_kc kc)) ++ (txW cI x (nI z) T ++ (stW cI a (up2 N 0 t y) v ++ (rgW cI r (updN R (p_nx qi) N) u)))) := hD
    refine lv_iload_n hx hb dX4_set_53 rfl (lv_at hl 0 rfl) ?_
    have hP : va_P D vwCl (xH cS x a r (nI (p_nx qi)) (nI (m_kc kc)) ++ (txW cI x (nI z) T ++ (stW cI a (up2 N 0 t y) v ++ (rgW cI r (updN R (p_nx qi) N) u)))) H := hP
    have hD : va_D (va_A (xH cS x a r (nI qi) (nI kc) ++ (txW cI x (nI z) T ++ (stW cI a N v ++ (rgW cI r R u)))) s.heap.size) (xH cS x a r (nI (p_nx qi)) (nI (m_kc kc)) ++ (txW cI x (nI z) T ++ (stW cI a (up2 N 0 t y) v ++ (rgW cI r (updN R (p_nx qi) N) u)))) := hD
    exact k_eMi hx hb hr hlocks hP hS rfl dX4_set_54
  · have c1 := bI_eq0 c1
    exact absurd hy c1

abbrev rmX4_pass_g : Room := { frames := 5, cells := 0, slots := 0, locals := 104 }
set_option maxHeartbeats 4000000 in
set_option maxRecDepth 100000 in
theorem c_X4_pass_g (l : Launch) (D : va_G) (cI cS cL : ClassId) (x a : Nat → Nat) (r : Nat → Nat → Nat) (qi kc z : Nat) (T : Nat → Int32) (N : NN) (v : Nat → Int32) (R : Nat → NN) (u : Nat → Nat → Int32) (sz : Nat) (n : Nat) (hn : N 1 2 = nI n) (hn14 : n ≤ 14) (w dy : Nat) (hw1 : 1 ≤ w) (hw100 : w ≤ 100) (hI : Inv N n dy) (hq : qi < 6) (hkc : kc ≤ 6) : Met l yX4_pass (wy_ yX4_pass cX4_pass 3 (some .int)) rmX4_pass_g (kPc D (kTy cI cS cL) (xH cS x a r (nI qi) (nI kc) ++ (txW cI x (nI z) T ++ (stW cI a N v ++ (rgW cI r R u)))) sz [.ref (x 0), .int (nI w)]) (kMi D (xH cS x a r (nI qi) (nI kc) ++ (txW cI x (nI z) T ++ (stW cI a N v ++ (rgW cI r R u)))) (xH cS x a r (nI (p_nx qi)) (nI (m_kc kc)) ++ (txW cI x (nI z) T ++ (stW cI a (p_days N n w) v ++ (rgW cI r (updN R (p_nx qi) N) u)))) sz (p_days N n w 1 0)) 0 0 (va_A (xH cS x a r (nI qi) (nI kc) ++ (txW cI x (nI z) T ++ (stW cI a N v ++ (rgW cI r R u)))) sz) := by
  refine k_ofW (by decide) (Nat.le_of_ble_eq_true rfl) ?_
  intro p e s m args below meth c hx hb hr hml hts hown hlocks hnm hsz hP hK hD hE ls hl
  subst hsz
  have hA : ∀ q : Nat, s.heap.size ≤ q → (va_A (xH cS x a r (nI qi) (nI kc) ++ (txW cI x (nI z) T ++ (stW cI a N v ++ (rgW cI r R u)))) s.heap.size) q := fun q h => Or.inr h
  have hS : va_S (va_A (xH cS x a r (nI qi) (nI kc) ++ (txW cI x (nI z) T ++ (stW cI a N v ++ (rgW cI r R u)))) s.heap.size) s.heap s.heap [] := va_S.rf
  have hl : lv_has ls 3 [(0, .ref (x 0)), (1, .int (nI w))] := hl
  have hwr := (nI_rg (lo := 1) (hi := 100) (by omega) (by omega) (by decide))
  refine lv_iload_n hx hb dX4_pass_0 rfl (lv_at hl 1 rfl) ?_
  refine lv_iconst (v := 1) hx hb dX4_pass_1 (by decide) ?_
  refine lv_bipush (v := 100) hx hb dX4_pass_2 (by decide) ?_
  refine k_riS (As := [.int (nI w), .int 1, .int 100]) (rest := []) (wc := []) ⟨hx, hb, hml, hown, hts⟩ (c_X4_isWithin l D cI cS cL _ (nI w) 1 100) lkX4_34 rfl rfl ⟨(Nat.le_of_ble_eq_true rfl), (Nat.le_of_ble_eq_true rfl)⟩ hK hE k_nilP (k_nilD (A := va_A (xH cS x a r (nI qi) (nI kc) ++ (txW cI x (nI z) T ++ (stW cI a N v ++ (rgW cI r R u)))) s.heap.size)) rfl hl.1 rfl (Nat.le_of_ble_eq_true rfl) dX4_pass_4 ⟨Nat.zero_le _, Nat.zero_le _⟩ ?_
  refine lv_if_ne (tgt := 20) hx hb dX4_pass_7 (by decide) (fun c1 => ?_) (fun c1 => ?_)
  · have c1 := bI_ne0 c1
    refine lv_aload_n hx hb dX4_pass_20 rfl (lv_at hl 0 rfl) ?_
    refine k_mvV0 (As := []) (rest := []) (wc := xH cS x a r (nI qi) (nI kc) ++ (txW cI x (nI z) T ++ (stW cI a N v ++ (rgW cI r R u)))) (wc' := xH cS x a r (nI (p_nx qi)) (nI (m_kc kc)) ++ (txW cI x (nI z) T ++ (stW cI a N v ++ (rgW cI r (updN R (p_nx qi) N) u)))) ⟨hx, hb, hml, hown, hts⟩ (c_X4_saveState l D cI cS cL x a r qi kc z T N v R u _ hq hkc) lkX4_54 rfl rfl ⟨(Nat.le_of_ble_eq_true rfl), (Nat.le_of_ble_eq_true rfl)⟩ (va_recv hK hP (ci := 3) (q0 := 0) rfl rfl) hK hE hP hD hS hA rfl rfl hl.1 rfl (Nat.le_of_ble_eq_true rfl) dX4_pass_21 ⟨Nat.zero_le _, Nat.zero_le _⟩ (fun H locs hzz hP hD hS => ?_)
    have hP : va_P D vwCl (xH cS x a r (nI (p_nx qi)) (nI (m_kc kc)) ++ (txW cI x (nI z) T ++ (stW cI a N v ++ (rgW cI r (updN R (p_nx qi) N) u)))) H := hP
    have hD : va_D (va_A (xH cS x a r (nI qi) (nI kc) ++ (txW cI x (nI z) T ++ (stW cI a N v ++ (rgW cI r R u)))) s.heap.size) (xH cS x a r (nI (p_nx qi)) (nI (m_kc kc)) ++ (txW cI x (nI z) T ++ (stW cI a N v ++ (rgW cI r (updN R (p_nx qi) N) u)))) := hD
    refine lv_iconst (v := 0) hx hb dX4_pass_24 (by decide) ?_
    refine lv_istore_n (lv' := [(2, .int 0), (0, .ref (x 0)), (1, .int (nI w))]) hx hb dX4_pass_25 rfl hl (by decide) rfl (fun ls hl => ?_)
    have L2 : ∀ (f j : Nat), j ≤ w → w - j < f → ∀ (H : Heap) (locs : List Loc), va_P D vwCl (xH cS x a r (nI (p_nx qi)) (nI (m_kc kc)) ++ (txW cI x (nI z) T ++ (stW cI a (p_days N n j) v ++ (rgW cI r (updN R (p_nx qi) N) u)))) H → va_D (va_A (xH cS x a r (nI qi) (nI kc) ++ (txW cI x (nI z) T ++ (stW cI a N v ++ (rgW cI r R u)))) s.heap.size) (xH cS x a r (nI (p_nx qi)) (nI (m_kc kc)) ++ (txW cI x (nI z) T ++ (stW cI a (p_days N n j) v ++ (rgW cI r (updN R (p_nx qi) N) u)))) → va_S (va_A (xH cS x a r (nI qi) (nI kc) ++ (txW cI x (nI z) T ++ (stW cI a N v ++ (rgW cI r R u)))) s.heap.size) s.heap H locs → s.heap.size ≤ H.size → ∀ ls : Array Slot, lv_has ls 3 [(0, .ref (x 0)), (1, .int (nI w)), (2, .int (nI j))] → W p l e rmX4_pass_g s m args below meth c H locs 0 0 (MQ below (kMi D (xH cS x a r (nI qi) (nI kc) ++ (txW cI x (nI z) T ++ (stW cI a N v ++ (rgW cI r R u)))) (xH cS x a r (nI (p_nx qi)) (nI (m_kc kc)) ++ (txW cI x (nI z) T ++ (stW cI a (p_days N n w) v ++ (rgW cI r (updN R (p_nx qi) N) u)))) s.heap.size (p_days N n w 1 0)) args s 0 0 (va_A (xH cS x a r (nI qi) (nI kc) ++ (txW cI x (nI z) T ++ (stW cI a N v ++ (rgW cI r R u)))) s.heap.size)) (F0 m 26 ls []) := by
      intro f
      induction f with
      | zero => intro j hv1 hv2; exact absurd hv2 (Nat.not_lt_zero _)
      | succ f ih =>
        intro j hv1 hv2 H locs hP hD hS hz ls hl
        refine lv_iload_n hx hb dX4_pass_26 rfl (lv_at hl 2 rfl) ?_
        refine lv_iload_n hx hb dX4_pass_27 rfl (lv_at hl 1 rfl) ?_
        refine lv_icmp_ge (tgt := 44) hx hb dX4_pass_28 (by decide) (fun c3 => ?_) (fun c3 => ?_)
        · have c3' := Int32.not_lt.mpr c3
          have hjn : w = j := (k_exit (by omega) hv1 c3).symm
          subst hjn
          refine lv_aload_n hx hb dX4_pass_44 rfl (lv_at hl 0 rfl) ?_
          refine g4 hx hb hts hown hK hP 0 rfl 0 (by decide) flX4_10 (fun _ h => h) (v := .ref (a 0)) rfl dX4_pass_45 ?_
          refine g3 hx hb hts hown hK hP 4 rfl 0 (by decide) flX4_127 (fun _ h => h) (v := .int ((p_days N n w) 1 0)) rfl dX4_pass_48 ?_
          have hP : va_P D vwCl (xH cS x a r (nI (p_nx qi)) (nI (m_kc kc)) ++ (txW cI x (nI z) T ++ (stW cI a (p_days N n w) v ++ (rgW cI r (updN R (p_nx qi) N) u)))) H := hP
          have hD : va_D (va_A (xH cS x a r (nI qi) (nI kc) ++ (txW cI x (nI z) T ++ (stW cI a N v ++ (rgW cI r R u)))) s.heap.size) (xH cS x a r (nI (p_nx qi)) (nI (m_kc kc)) ++ (txW cI x (nI z) T ++ (stW cI a (p_days N n w) v ++ (rgW cI r (updN R (p_nx qi) N) u)))) := hD
          exact k_eMi hx hb hr hlocks hP hS (by simp [hwr, c1, c3, c3']) dX4_pass_51
        · have c3' := Int32.not_le.mp c3
          have hjn : j < w := k_more (by omega) hv1 c3
          refine lv_aload_n hx hb dX4_pass_31 rfl (lv_at hl 0 rfl) ?_
          refine g4 hx hb hts hown hK hP 0 rfl 0 (by decide) flX4_10 (fun _ h => h) (v := .ref (a 0)) rfl dX4_pass_32 ?_
          refine k_mvV (As := []) (rest := []) (w1 := xH cS x a r (nI (p_nx qi)) (nI (m_kc kc)) ++ (txW cI x (nI z) T)) (wc := stW cI a (p_days N n j) v) (wc' := stW cI a (p_day (p_days N n j) n) v) (w3 := rgW cI r (updN R (p_nx qi) N) u) ⟨hx, hb, hml, hown, hts⟩ (c_X3_passDay l D cI cS cL a (p_days N n j) v _ n (Inv_days hI j).2.1 hn14) lkX4_124 rfl rfl ⟨(Nat.le_of_ble_eq_true rfl), (Nat.le_of_ble_eq_true rfl)⟩ (va_recv hK hP (ci := 2) (q0 := 4) rfl rfl) hK hE hP hD hS hA rfl rfl hl.1 rfl (Nat.le_of_ble_eq_true rfl) dX4_pass_35 ⟨Nat.zero_le _, Nat.zero_le _⟩ (fun H locs hzz hP hD hS => ?_)
          have hP : va_P D vwCl (xH cS x a r (nI (p_nx qi)) (nI (m_kc kc)) ++ (txW cI x (nI z) T ++ (stW cI a (p_day (p_days N n j) n) v ++ (rgW cI r (updN R (p_nx qi) N) u)))) H := hP
          have hD : va_D (va_A (xH cS x a r (nI qi) (nI kc) ++ (txW cI x (nI z) T ++ (stW cI a N v ++ (rgW cI r R u)))) s.heap.size) (xH cS x a r (nI (p_nx qi)) (nI (m_kc kc)) ++ (txW cI x (nI z) T ++ (stW cI a (p_day (p_days N n j) n) v ++ (rgW cI r (updN R (p_nx qi) N) u)))) := hD
          refine lv_iinc (v := nI (j + 1)) (lv' := [(2, .int (nI (j + 1))), (0, .ref (x 0)), (1, .int (nI w))]) hx hb dX4_pass_38 hl (k := 2) rfl (nI_1 _) (by decide) rfl (fun ls hl => ?_)
          refine lv_goto (tgt := 26) hx hb dX4_pass_41 (by decide) ?_
          have hl : lv_has ls 3 [(0, .ref (x 0)), (1, .int (nI w)), (2, .int (nI (j + 1)))] := lv_sub hl [1, 2, 0] rfl
          have hl : lv_has ls 3 [(0, .ref (x 0)), (1, .int (nI w)), (2, .int (nI (j + 1)))] := hl
          have hP : va_P D vwCl (xH cS x a r (nI (p_nx qi)) (nI (m_kc kc)) ++ (txW cI x (nI z) T ++ (stW cI a (p_days N n (j + 1)) v ++ (rgW cI r (updN R (p_nx qi) N) u)))) H := hP
          have hD : va_D (va_A (xH cS x a r (nI qi) (nI kc) ++ (txW cI x (nI z) T ++ (stW cI a N v ++ (rgW cI r R u)))) s.heap.size) (xH cS x a r (nI (p_nx qi)) (nI (m_kc kc)) ++ (txW cI x (nI z) T ++ (stW cI a (p_days N n (j + 1)) v ++ (rgW cI r (updN R (p_nx qi) N) u)))) := hD
          exact ih (j + 1) (by omega) (by omega) H locs hP hD hS hS.1 ls hl
    have hl : lv_has ls 3 [(0, .ref (x 0)), (1, .int (nI w)), (2, .int 0)] := lv_sub hl [1, 2, 0] rfl
    have hl : lv_has ls 3 [(0, .ref (x 0)), (1, .int (nI w)), (2, .int (nI 0))] := hl
    have hP : va_P D vwCl (xH cS x a r (nI (p_nx qi)) (nI (m_kc kc)) ++ (txW cI x (nI z) T ++ (stW cI a (p_days N n 0) v ++ (rgW cI r (updN R (p_nx qi) N) u)))) H := hP
    have hD : va_D (va_A (xH cS x a r (nI qi) (nI kc) ++ (txW cI x (nI z) T ++ (stW cI a N v ++ (rgW cI r R u)))) s.heap.size) (xH cS x a r (nI (p_nx qi)) (nI (m_kc kc)) ++ (txW cI x (nI z) T ++ (stW cI a (p_days N n 0) v ++ (rgW cI r (updN R (p_nx qi) N) u)))) := hD
    exact L2 (w - 0 + 1) 0 (by omega) (by omega) H locs hP hD hS hS.1 ls hl
  · have c1 := bI_eq0 c1
    exact absurd hwr c1
