abbrev rmX4_buy_1 : Room := { frames := 6, cells := 1, slots := 6, locals := 82 }
set_option maxHeartbeats 4000000 in
set_option maxRecDepth 100000 in
theorem c_X4_buy_1 (l : Launch) (hfl : l.stackTraces = false) (D : va_G) (cI cS cL : ClassId) (x a : Nat → Nat) (r : Nat → Nat → Nat) (lat cnt : Int32) (z : Int32) (T : Nat → Int32) (N : NN) (v : Nat → Int32) (sz : Nat) (kd ln cp : Int32) (hok : ¬ ((0 ≤ kd ∧ kd ≤ 2) ∧ (5 ≤ ln ∧ ln ≤ 50) ∧ (0 ≤ cp ∧ cp ≤ 2))) : vx_Met l yX4_buy (wy_ yX4_buy cX4_buy 4 (some .int)) rmX4_buy_1 (kPx D (kTy cI cS cL) (xH cS x a r lat cnt ++ (txW cI x z T ++ (stW cI a N v))) sz [.ref (x 0), .int kd, .int ln, .int cp]) kQx (kXe eA) 1 6 noF := by
  refine k_xofW (by decide) (Nat.le_of_ble_eq_true rfl) ?_
  intro p e s m args below meth c hx hb hr hml hts hown hlocks hno hsz hP hK hD hE hT ls hl
  subst hsz
  have hl : lv_has ls 4 [(0, .ref (x 0)), (1, .int kd), (2, .int ln), (3, .int cp)] := hl
  refine lv_iload_n hx hb dX4_buy_0 rfl (lv_at hl 1 rfl) ?_
  refine lv_iconst (v := 0) hx hb dX4_buy_1 (by decide) ?_
  refine lv_iconst (v := 2) hx hb dX4_buy_2 (by decide) ?_
  refine k_riS (As := [.int kd, .int 0, .int 2]) (rest := []) (wc := []) ⟨hx, hb, hml, hown, hts⟩ (c_X4_isWithin l D cI cS cL _ kd 0 2) lkX4_34 rfl rfl ⟨(Nat.le_of_ble_eq_true rfl), (Nat.le_of_ble_eq_true rfl)⟩ hK hE k_nilP (k_nilD (A := va_A (xH cS x a r lat cnt ++ (txW cI x z T ++ (stW cI a N v))) s.heap.size)) rfl hl.1 rfl (Nat.le_of_ble_eq_true rfl) dX4_buy_3 ⟨Nat.zero_le _, Nat.zero_le _⟩ ?_
  refine lv_if_eq (tgt := 28) hx hb dX4_buy_6 (by decide) (fun c1 => ?_) (fun c1 => ?_)
  · have c1 := bI_eq0 c1
    exact k_xtA (is := 40) hx hb hfl hts hown hE hT (hl.1.trans hml.symm) hno hlocks (List.mem_of_getElem? (i := 0) rfl) dX4_buy_28 dX4_buy_31 dX4_buy_32 dX4_buy_34 dX4_buy_37 ⟨(Nat.le_of_ble_eq_true rfl), (Nat.le_of_ble_eq_true rfl), Nat.le_refl _, Nat.le_refl _⟩
  · have c1 := bI_ne0 c1
    have ha := c1
    refine lv_iload_n hx hb dX4_buy_9 rfl (lv_at hl 2 rfl) ?_
    refine lv_iconst (v := 5) hx hb dX4_buy_10 (by decide) ?_
    refine lv_bipush (v := 50) hx hb dX4_buy_11 (by decide) ?_
    refine k_riS (As := [.int ln, .int 5, .int 50]) (rest := []) (wc := []) ⟨hx, hb, hml, hown, hts⟩ (c_X4_isWithin l D cI cS cL _ ln 5 50) lkX4_34 rfl rfl ⟨(Nat.le_of_ble_eq_true rfl), (Nat.le_of_ble_eq_true rfl)⟩ hK hE k_nilP (k_nilD (A := va_A (xH cS x a r lat cnt ++ (txW cI x z T ++ (stW cI a N v))) s.heap.size)) rfl hl.1 rfl (Nat.le_of_ble_eq_true rfl) dX4_buy_13 ⟨Nat.zero_le _, Nat.zero_le _⟩ ?_
    refine lv_if_eq (tgt := 28) hx hb dX4_buy_16 (by decide) (fun c2 => ?_) (fun c2 => ?_)
    · have c2 := bI_eq0 c2
      exact k_xtA (is := 40) hx hb hfl hts hown hE hT (hl.1.trans hml.symm) hno hlocks (List.mem_of_getElem? (i := 0) rfl) dX4_buy_28 dX4_buy_31 dX4_buy_32 dX4_buy_34 dX4_buy_37 ⟨(Nat.le_of_ble_eq_true rfl), (Nat.le_of_ble_eq_true rfl), Nat.le_refl _, Nat.le_refl _⟩
    · have c2 := bI_ne0 c2
      have hb2 := c2
      refine lv_iload_n hx hb dX4_buy_19 rfl (lv_at hl 3 rfl) ?_
      refine lv_iconst (v := 0) hx hb dX4_buy_20 (by decide) ?_
      refine lv_iconst (v := 2) hx hb dX4_buy_21 (by decide) ?_
      refine k_riS (As := [.int cp, .int 0, .int 2]) (rest := []) (wc := []) ⟨hx, hb, hml, hown, hts⟩ (c_X4_isWithin l D cI cS cL _ cp 0 2) lkX4_34 rfl rfl ⟨(Nat.le_of_ble_eq_true rfl), (Nat.le_of_ble_eq_true rfl)⟩ hK hE k_nilP (k_nilD (A := va_A (xH cS x a r lat cnt ++ (txW cI x z T ++ (stW cI a N v))) s.heap.size)) rfl hl.1 rfl (Nat.le_of_ble_eq_true rfl) dX4_buy_22 ⟨Nat.zero_le _, Nat.zero_le _⟩ ?_
      refine lv_if_ne (tgt := 38) hx hb dX4_buy_25 (by decide) (fun c3 => ?_) (fun c3 => ?_)
      · have c3 := bI_ne0 c3
        exact absurd ⟨ha, hb2, c3⟩ hok
      · have c3 := bI_eq0 c3
        exact k_xtA (is := 40) hx hb hfl hts hown hE hT (hl.1.trans hml.symm) hno hlocks (List.mem_of_getElem? (i := 0) rfl) dX4_buy_28 dX4_buy_31 dX4_buy_32 dX4_buy_34 dX4_buy_37 ⟨(Nat.le_of_ble_eq_true rfl), (Nat.le_of_ble_eq_true rfl), Nat.le_refl _, Nat.le_refl _⟩

abbrev rmX4_buy_2 : Room := { frames := 6, cells := 1, slots := 6, locals := 82 }
set_option maxHeartbeats 4000000 in
set_option maxRecDepth 100000 in
theorem c_X4_buy_2 (l : Launch) (hfl : l.stackTraces = false) (D : va_G) (cI cS cL : ClassId) (x a : Nat → Nat) (r : Nat → Nat → Nat) (lat cnt : Int32) (z : Int32) (T : Nat → Int32) (N : NN) (v : Nat → Int32) (sz : Nat) (kd ln cp : Int32) (hok : (0 ≤ kd ∧ kd ≤ 2) ∧ (5 ≤ ln ∧ ln ≤ 50) ∧ (0 ≤ cp ∧ cp ≤ 2)) (hcan : p_can N kd ln = false) : vx_Met l yX4_buy (wy_ yX4_buy cX4_buy 4 (some .int)) rmX4_buy_2 (kPx D (kTy cI cS cL) (xH cS x a r lat cnt ++ (txW cI x z T ++ (stW cI a N v))) sz [.ref (x 0), .int kd, .int ln, .int cp]) kQx (kXe eS) 1 6 noF := by
  refine k_xofW (by decide) (Nat.le_of_ble_eq_true rfl) ?_
  intro p e s m args below meth c hx hb hr hml hts hown hlocks hno hsz hP hK hD hE hT ls hl
  subst hsz
  have hl : lv_has ls 4 [(0, .ref (x 0)), (1, .int kd), (2, .int ln), (3, .int cp)] := hl
  refine lv_iload_n hx hb dX4_buy_0 rfl (lv_at hl 1 rfl) ?_
  refine lv_iconst (v := 0) hx hb dX4_buy_1 (by decide) ?_
  refine lv_iconst (v := 2) hx hb dX4_buy_2 (by decide) ?_
  refine k_riS (As := [.int kd, .int 0, .int 2]) (rest := []) (wc := []) ⟨hx, hb, hml, hown, hts⟩ (c_X4_isWithin l D cI cS cL _ kd 0 2) lkX4_34 rfl rfl ⟨(Nat.le_of_ble_eq_true rfl), (Nat.le_of_ble_eq_true rfl)⟩ hK hE k_nilP (k_nilD (A := va_A (xH cS x a r lat cnt ++ (txW cI x z T ++ (stW cI a N v))) s.heap.size)) rfl hl.1 rfl (Nat.le_of_ble_eq_true rfl) dX4_buy_3 ⟨Nat.zero_le _, Nat.zero_le _⟩ ?_
  refine lv_if_eq (tgt := 28) hx hb dX4_buy_6 (by decide) (fun c1 => ?_) (fun c1 => ?_)
  · have c1 := bI_eq0 c1
    exact absurd hok.1 c1
  · have c1 := bI_ne0 c1
    refine lv_iload_n hx hb dX4_buy_9 rfl (lv_at hl 2 rfl) ?_
    refine lv_iconst (v := 5) hx hb dX4_buy_10 (by decide) ?_
    refine lv_bipush (v := 50) hx hb dX4_buy_11 (by decide) ?_
    refine k_riS (As := [.int ln, .int 5, .int 50]) (rest := []) (wc := []) ⟨hx, hb, hml, hown, hts⟩ (c_X4_isWithin l D cI cS cL _ ln 5 50) lkX4_34 rfl rfl ⟨(Nat.le_of_ble_eq_true rfl), (Nat.le_of_ble_eq_true rfl)⟩ hK hE k_nilP (k_nilD (A := va_A (xH cS x a r lat cnt ++ (txW cI x z T ++ (stW cI a N v))) s.heap.size)) rfl hl.1 rfl (Nat.le_of_ble_eq_true rfl) dX4_buy_13 ⟨Nat.zero_le _, Nat.zero_le _⟩ ?_
    refine lv_if_eq (tgt := 28) hx hb dX4_buy_16 (by decide) (fun c2 => ?_) (fun c2 => ?_)
    · have c2 := bI_eq0 c2
      exact absurd hok.2.1 c2
    · have c2 := bI_ne0 c2
      refine lv_iload_n hx hb dX4_buy_19 rfl (lv_at hl 3 rfl) ?_
      refine lv_iconst (v := 0) hx hb dX4_buy_20 (by decide) ?_
      refine lv_iconst (v := 2) hx hb dX4_buy_21 (by decide) ?_
      refine k_riS (As := [.int cp, .int 0, .int 2]) (rest := []) (wc := []) ⟨hx, hb, hml, hown, hts⟩ (c_X4_isWithin l D cI cS cL _ cp 0 2) lkX4_34 rfl rfl ⟨(Nat.le_of_ble_eq_true rfl), (Nat.le_of_ble_eq_true rfl)⟩ hK hE k_nilP (k_nilD (A := va_A (xH cS x a r lat cnt ++ (txW cI x z T ++ (stW cI a N v))) s.heap.size)) rfl hl.1 rfl (Nat.le_of_ble_eq_true rfl) dX4_buy_22 ⟨Nat.zero_le _, Nat.zero_le _⟩ ?_
      refine lv_if_ne (tgt := 38) hx hb dX4_buy_25 (by decide) (fun c3 => ?_) (fun c3 => ?_)
      · have c3 := bI_ne0 c3
        refine lv_aload_n hx hb dX4_buy_38 rfl (lv_at hl 0 rfl) ?_
        refine g4 hx hb hts hown hK hP 0 rfl 0 (by decide) flX4_10 (fun _ h => h) (v := .ref (a 0)) rfl dX4_buy_39 ?_
        refine lv_iload_n hx hb dX4_buy_42 rfl (lv_at hl 1 rfl) ?_
        refine lv_iload_n hx hb dX4_buy_43 rfl (lv_at hl 2 rfl) ?_
        refine k_riV (As := [.int kd, .int ln]) (rest := []) (wc := stW cI a N v) ⟨hx, hb, hml, hown, hts⟩ (c_X3_canBuy l D cI cS cL a N v _ kd ln) lkX4_45 rfl rfl ⟨(Nat.le_of_ble_eq_true rfl), (Nat.le_of_ble_eq_true rfl)⟩ (va_recv hK hP (ci := 2) (q0 := 4) rfl rfl) hK hE (va_P_midL (w1 := xH cS x a r lat cnt ++ (txW cI x z T)) (wc := stW cI a N v) (w3 := []) hP) (va_D_midL (w1 := xH cS x a r lat cnt ++ (txW cI x z T)) (wc := stW cI a N v) (w3 := []) hD) rfl hl.1 rfl (Nat.le_of_ble_eq_true rfl) dX4_buy_44 ⟨Nat.zero_le _, Nat.zero_le _⟩ ?_
        refine lv_if_ne (tgt := 60) hx hb dX4_buy_47 (by decide) (fun c4 => ?_) (fun c4 => ?_)
        · have c4 := bI_neT c4
          exact Bool.noConfusion (hcan.symm.trans c4)
        · have c4 := bI_eqF c4
          exact k_xtS (is := 51) hx hb hfl hts hown hE hT (hl.1.trans hml.symm) hno hlocks (List.mem_of_getElem? (i := 1) rfl) dX4_buy_50 dX4_buy_53 dX4_buy_54 dX4_buy_56 dX4_buy_59 ⟨(Nat.le_of_ble_eq_true rfl), (Nat.le_of_ble_eq_true rfl), Nat.le_refl _, Nat.le_refl _⟩
      · have c3 := bI_eq0 c3
        exact absurd hok.2.2 c3

abbrev rmX4_renew_1 : Room := { frames := 7, cells := 1, slots := 6, locals := 103 }
set_option maxHeartbeats 4000000 in
set_option maxRecDepth 100000 in
theorem c_X4_renew_1 (l : Launch) (hfl : l.stackTraces = false) (D : va_G) (cI cS cL : ClassId) (x a : Nat → Nat) (r : Nat → Nat → Nat) (lat cnt : Int32) (z : Int32) (T : Nat → Int32) (N : NN) (v : Nat → Int32) (sz : Nat) (xx : Int32) (hxx : ¬ (0 ≤ xx ∧ xx ≤ N 1 2 - 1)) : vx_Met l yX4_renew (wy_ yX4_renew cX4_renew 2 (some .int)) rmX4_renew_1 (kPx D (kTy cI cS cL) (xH cS x a r lat cnt ++ (txW cI x z T ++ (stW cI a N v))) sz [.ref (x 0), .int xx]) kQx (kXe eB) 1 6 noF := by
  refine k_xofW (by decide) (Nat.le_of_ble_eq_true rfl) ?_
  intro p e s m args below meth c hx hb hr hml hts hown hlocks hno hsz hP hK hD hE hT ls hl
  subst hsz
  have hl : lv_has ls 2 [(0, .ref (x 0)), (1, .int xx)] := hl
  refine lv_aload_n hx hb dX4_renew_0 rfl (lv_at hl 0 rfl) ?_
  refine lv_iload_n hx hb dX4_renew_1 rfl (lv_at hl 1 rfl) ?_
  exact k_xoV (As := [.int xx]) (rest := []) (wc := xH cS x a r lat cnt ++ (txW cI x z T ++ (stW cI a N v))) ⟨hx, hb, hml, hown, hts⟩ (c_X4_requireHose_b l hfl D cI cS cL x a r lat cnt z T N v _ xx hxx) lkX4_61 rfl rfl ⟨(Nat.le_of_ble_eq_true rfl), (Nat.le_of_ble_eq_true rfl)⟩ (va_recv hK hP (ci := 3) (q0 := 0) rfl rfl) hK hE hT hP hD hno hlocks rfl hl.1 rfl (Nat.le_of_ble_eq_true rfl) dX4_renew_2 ⟨Nat.le_refl _, Nat.le_refl _⟩

abbrev rmX4_renew_2 : Room := { frames := 7, cells := 1, slots := 6, locals := 103 }
set_option maxHeartbeats 4000000 in
set_option maxRecDepth 100000 in
theorem c_X4_renew_2 (l : Launch) (hfl : l.stackTraces = false) (D : va_G) (cI cS cL : ClassId) (x a : Nat → Nat) (r : Nat → Nat → Nat) (lat cnt : Int32) (z : Int32) (T : Nat → Int32) (N : NN) (v : Nat → Int32) (sz : Nat) (n : Nat) (hn : N 1 2 = nI n) (hn14 : n ≤ 14) (k : Nat) (hkn : k < n) (h14 : N 9 k = -1 ∨ N 9 k = 4) : vx_Met l yX4_renew (wy_ yX4_renew cX4_renew 2 (some .int)) rmX4_renew_2 (kPx D (kTy cI cS cL) (xH cS x a r lat cnt ++ (txW cI x z T ++ (stW cI a N v))) sz [.ref (x 0), .int (nI k)]) kQx (kXe eS) 1 6 noF := by
  refine k_xofW (by decide) (Nat.le_of_ble_eq_true rfl) ?_
  intro p e s m args below meth c hx hb hr hml hts hown hlocks hno hsz hP hK hD hE hT ls hl
  subst hsz
  have hl : lv_has ls 2 [(0, .ref (x 0)), (1, .int (nI k))] := hl
  refine lv_aload_n hx hb dX4_renew_0 rfl (lv_at hl 0 rfl) ?_
  refine lv_iload_n hx hb dX4_renew_1 rfl (lv_at hl 1 rfl) ?_
  refine k_rvV (As := [.int (nI k)]) (rest := []) (wc := xH cS x a r lat cnt ++ (txW cI x z T ++ (stW cI a N v))) ⟨hx, hb, hml, hown, hts⟩ (c_X4_requireHose_g l D cI cS cL x a r lat cnt z T N v _ (nI k) (is_hose hn hn14 hkn)) lkX4_61 rfl rfl ⟨(Nat.le_of_ble_eq_true rfl), (Nat.le_of_ble_eq_true rfl)⟩ (va_recv hK hP (ci := 3) (q0 := 0) rfl rfl) hK hE hP hD rfl hl.1 rfl (Nat.le_of_ble_eq_true rfl) dX4_renew_2 ⟨Nat.zero_le _, Nat.zero_le _⟩ ?_
  refine lv_aload_n hx hb dX4_renew_5 rfl (lv_at hl 0 rfl) ?_
  refine lv_iload_n hx hb dX4_renew_6 rfl (lv_at hl 1 rfl) ?_
  exact k_xoV (As := [.int (nI k)]) (rest := []) (wc := xH cS x a r lat cnt ++ (txW cI x z T ++ (stW cI a N v))) ⟨hx, hb, hml, hown, hts⟩ (c_X4_requireAtHand_b l hfl D cI cS cL x a r lat cnt z T N v _ k (by omega) h14) lkX4_65 rfl rfl ⟨(Nat.le_of_ble_eq_true rfl), (Nat.le_of_ble_eq_true rfl)⟩ (va_recv hK hP (ci := 3) (q0 := 0) rfl rfl) hK hE hT hP hD hno hlocks rfl hl.1 rfl (Nat.le_of_ble_eq_true rfl) dX4_renew_7 ⟨Nat.le_refl _, Nat.le_refl _⟩

abbrev rmX4_renew_3 : Room := { frames := 6, cells := 1, slots := 6, locals := 82 }
set_option maxHeartbeats 4000000 in
set_option maxRecDepth 100000 in
theorem c_X4_renew_3 (l : Launch) (hfl : l.stackTraces = false) (D : va_G) (cI cS cL : ClassId) (x a : Nat → Nat) (r : Nat → Nat → Nat) (lat cnt : Int32) (z : Int32) (T : Nat → Int32) (N : NN) (v : Nat → Int32) (sz : Nat) (n : Nat) (hn : N 1 2 = nI n) (hn14 : n ≤ 14) (k : Nat) (hkn : k < n) (h1 : ¬ N 9 k = -1) (h4 : ¬ N 9 k = 4) (hcan : p_can N (N 3 k) (N 4 k) = false) : vx_Met l yX4_renew (wy_ yX4_renew cX4_renew 2 (some .int)) rmX4_renew_3 (kPx D (kTy cI cS cL) (xH cS x a r lat cnt ++ (txW cI x z T ++ (stW cI a N v))) sz [.ref (x 0), .int (nI k)]) kQx (kXe eS) 1 6 noF := by
  refine k_xofW (by decide) (Nat.le_of_ble_eq_true rfl) ?_
  intro p e s m args below meth c hx hb hr hml hts hown hlocks hno hsz hP hK hD hE hT ls hl
  subst hsz
  have hl : lv_has ls 2 [(0, .ref (x 0)), (1, .int (nI k))] := hl
  refine lv_aload_n hx hb dX4_renew_0 rfl (lv_at hl 0 rfl) ?_
  refine lv_iload_n hx hb dX4_renew_1 rfl (lv_at hl 1 rfl) ?_
  refine k_rvV (As := [.int (nI k)]) (rest := []) (wc := xH cS x a r lat cnt ++ (txW cI x z T ++ (stW cI a N v))) ⟨hx, hb, hml, hown, hts⟩ (c_X4_requireHose_g l D cI cS cL x a r lat cnt z T N v _ (nI k) (is_hose hn hn14 hkn)) lkX4_61 rfl rfl ⟨(Nat.le_of_ble_eq_true rfl), (Nat.le_of_ble_eq_true rfl)⟩ (va_recv hK hP (ci := 3) (q0 := 0) rfl rfl) hK hE hP hD rfl hl.1 rfl (Nat.le_of_ble_eq_true rfl) dX4_renew_2 ⟨Nat.zero_le _, Nat.zero_le _⟩ ?_
  refine lv_aload_n hx hb dX4_renew_5 rfl (lv_at hl 0 rfl) ?_
  refine lv_iload_n hx hb dX4_renew_6 rfl (lv_at hl 1 rfl) ?_
  refine k_rvV (As := [.int (nI k)]) (rest := []) (wc := xH cS x a r lat cnt ++ (txW cI x z T ++ (stW cI a N v))) ⟨hx, hb, hml, hown, hts⟩ (c_X4_requireAtHand_g l D cI cS cL x a r lat cnt z T N v _ k (by omega) h1 h4) lkX4_65 rfl rfl ⟨(Nat.le_of_ble_eq_true rfl), (Nat.le_of_ble_eq_true rfl)⟩ (va_recv hK hP (ci := 3) (q0 := 0) rfl rfl) hK hE hP hD rfl hl.1 rfl (Nat.le_of_ble_eq_true rfl) dX4_renew_7 ⟨Nat.zero_le _, Nat.zero_le _⟩ ?_
  refine lv_aload_n hx hb dX4_renew_10 rfl (lv_at hl 0 rfl) ?_
  refine g4 hx hb hts hown hK hP 0 rfl 0 (by decide) flX4_10 (fun _ h => h) (v := .ref (a 0)) rfl dX4_renew_11 ?_
  refine lv_aload_n hx hb dX4_renew_14 rfl (lv_at hl 0 rfl) ?_
  refine g4 hx hb hts hown hK hP 0 rfl 0 (by decide) flX4_10 (fun _ h => h) (v := .ref (a 0)) rfl dX4_renew_15 ?_
  refine g3 hx hb hts hown hK hP 4 rfl 8 (by decide) flX4_68 (fun _ h => h) (v := .ref (a 3)) rfl dX4_renew_18 ?_
  refine lv_iload_n hx hb dX4_renew_21 rfl (lv_at hl 1 rfl) ?_
  refine k_ald (k := k) hx hb hK hP 7 0 rfl rfl rfl (by omega) (by decide) dX4_renew_22 ?_
  refine lv_aload_n hx hb dX4_renew_23 rfl (lv_at hl 0 rfl) ?_
  refine g4 hx hb hts hown hK hP 0 rfl 0 (by decide) flX4_10 (fun _ h => h) (v := .ref (a 0)) rfl dX4_renew_24 ?_
  refine g3 hx hb hts hown hK hP 4 rfl 9 (by decide) flX4_72 (fun _ h => h) (v := .ref (a 4)) rfl dX4_renew_27 ?_
  refine lv_iload_n hx hb dX4_renew_30 rfl (lv_at hl 1 rfl) ?_
  refine k_ald (k := k) hx hb hK hP 8 0 rfl rfl rfl (by omega) (by decide) dX4_renew_31 ?_
  refine k_riV (As := [.int (N 3 k), .int (N 4 k)]) (rest := []) (wc := stW cI a N v) ⟨hx, hb, hml, hown, hts⟩ (c_X3_canBuy l D cI cS cL a N v _ (N 3 k) (N 4 k)) lkX4_45 rfl rfl ⟨(Nat.le_of_ble_eq_true rfl), (Nat.le_of_ble_eq_true rfl)⟩ (va_recv hK hP (ci := 2) (q0 := 4) rfl rfl) hK hE (va_P_midL (w1 := xH cS x a r lat cnt ++ (txW cI x z T)) (wc := stW cI a N v) (w3 := []) hP) (va_D_midL (w1 := xH cS x a r lat cnt ++ (txW cI x z T)) (wc := stW cI a N v) (w3 := []) hD) rfl hl.1 rfl (Nat.le_of_ble_eq_true rfl) dX4_renew_32 ⟨Nat.zero_le _, Nat.zero_le _⟩ ?_
  refine lv_if_ne (tgt := 48) hx hb dX4_renew_35 (by decide) (fun c1 => ?_) (fun c1 => ?_)
  · have c1 := bI_neT c1
    exact Bool.noConfusion (hcan.symm.trans c1)
  · have c1 := bI_eqF c1
    exact k_xtS (is := 51) hx hb hfl hts hown hE hT (hl.1.trans hml.symm) hno hlocks (List.mem_of_getElem? (i := 1) rfl) dX4_renew_38 dX4_renew_41 dX4_renew_42 dX4_renew_44 dX4_renew_47 ⟨(Nat.le_of_ble_eq_true rfl), (Nat.le_of_ble_eq_true rfl), Nat.le_refl _, Nat.le_refl _⟩

abbrev rmX4_put_1 : Room := { frames := 7, cells := 1, slots := 6, locals := 103 }
set_option maxHeartbeats 4000000 in
set_option maxRecDepth 100000 in
theorem c_X4_put_1 (l : Launch) (hfl : l.stackTraces = false) (D : va_G) (cI cS cL : ClassId) (x a : Nat → Nat) (r : Nat → Nat → Nat) (lat cnt : Int32) (z : Int32) (T : Nat → Int32) (N : NN) (v : Nat → Int32) (sz : Nat) (xx yy : Int32) (hxx : ¬ (0 ≤ xx ∧ xx ≤ N 1 2 - 1)) : vx_Met l yX4_put (wy_ yX4_put cX4_put 4 (some .int)) rmX4_put_1 (kPx D (kTy cI cS cL) (xH cS x a r lat cnt ++ (txW cI x z T ++ (stW cI a N v))) sz [.ref (x 0), .int xx, .int yy]) kQx (kXe eB) 1 6 noF := by
  refine k_xofW (by decide) (Nat.le_of_ble_eq_true rfl) ?_
  intro p e s m args below meth c hx hb hr hml hts hown hlocks hno hsz hP hK hD hE hT ls hl
  subst hsz
  have hl : lv_has ls 4 [(0, .ref (x 0)), (1, .int xx), (2, .int yy)] := hl
  refine lv_aload_n hx hb dX4_put_0 rfl (lv_at hl 0 rfl) ?_
  refine lv_iload_n hx hb dX4_put_1 rfl (lv_at hl 1 rfl) ?_
  exact k_xoV (As := [.int xx]) (rest := []) (wc := xH cS x a r lat cnt ++ (txW cI x z T ++ (stW cI a N v))) ⟨hx, hb, hml, hown, hts⟩ (c_X4_requireHose_b l hfl D cI cS cL x a r lat cnt z T N v _ xx hxx) lkX4_61 rfl rfl ⟨(Nat.le_of_ble_eq_true rfl), (Nat.le_of_ble_eq_true rfl)⟩ (va_recv hK hP (ci := 3) (q0 := 0) rfl rfl) hK hE hT hP hD hno hlocks rfl hl.1 rfl (Nat.le_of_ble_eq_true rfl) dX4_put_2 ⟨Nat.le_refl _, Nat.le_refl _⟩

abbrev rmX4_put_2 : Room := { frames := 6, cells := 1, slots := 6, locals := 82 }
set_option maxHeartbeats 4000000 in
set_option maxRecDepth 100000 in
theorem c_X4_put_2 (l : Launch) (hfl : l.stackTraces = false) (D : va_G) (cI cS cL : ClassId) (x a : Nat → Nat) (r : Nat → Nat → Nat) (lat cnt : Int32) (z : Int32) (T : Nat → Int32) (N : NN) (v : Nat → Int32) (sz : Nat) (n : Nat) (hn : N 1 2 = nI n) (hn14 : n ≤ 14) (k : Nat) (yy : Int32) (hkn : k < n) (hpl : ¬ (0 ≤ yy ∧ yy ≤ 3)) : vx_Met l yX4_put (wy_ yX4_put cX4_put 4 (some .int)) rmX4_put_2 (kPx D (kTy cI cS cL) (xH cS x a r lat cnt ++ (txW cI x z T ++ (stW cI a N v))) sz [.ref (x 0), .int (nI k), .int yy]) kQx (kXe eA) 1 6 noF := by
  refine k_xofW (by decide) (Nat.le_of_ble_eq_true rfl) ?_
  intro p e s m args below meth c hx hb hr hml hts hown hlocks hno hsz hP hK hD hE hT ls hl
  subst hsz
  have hl : lv_has ls 4 [(0, .ref (x 0)), (1, .int (nI k)), (2, .int yy)] := hl
  refine lv_aload_n hx hb dX4_put_0 rfl (lv_at hl 0 rfl) ?_
  refine lv_iload_n hx hb dX4_put_1 rfl (lv_at hl 1 rfl) ?_
  refine k_rvV (As := [.int (nI k)]) (rest := []) (wc := xH cS x a r lat cnt ++ (txW cI x z T ++ (stW cI a N v))) ⟨hx, hb, hml, hown, hts⟩ (c_X4_requireHose_g l D cI cS cL x a r lat cnt z T N v _ (nI k) (is_hose hn hn14 hkn)) lkX4_61 rfl rfl ⟨(Nat.le_of_ble_eq_true rfl), (Nat.le_of_ble_eq_true rfl)⟩ (va_recv hK hP (ci := 3) (q0 := 0) rfl rfl) hK hE hP hD rfl hl.1 rfl (Nat.le_of_ble_eq_true rfl) dX4_put_2 ⟨Nat.zero_le _, Nat.zero_le _⟩ ?_
  refine lv_iload_n hx hb dX4_put_5 rfl (lv_at hl 2 rfl) ?_
  refine lv_iconst (v := 0) hx hb dX4_put_6 (by decide) ?_
  refine lv_iconst (v := 3) hx hb dX4_put_7 (by decide) ?_
  refine k_riS (As := [.int yy, .int 0, .int 3]) (rest := []) (wc := []) ⟨hx, hb, hml, hown, hts⟩ (c_X4_isWithin l D cI cS cL _ yy 0 3) lkX4_34 rfl rfl ⟨(Nat.le_of_ble_eq_true rfl), (Nat.le_of_ble_eq_true rfl)⟩ hK hE k_nilP (k_nilD (A := va_A (xH cS x a r lat cnt ++ (txW cI x z T ++ (stW cI a N v))) s.heap.size)) rfl hl.1 rfl (Nat.le_of_ble_eq_true rfl) dX4_put_8 ⟨Nat.zero_le _, Nat.zero_le _⟩ ?_
  refine lv_if_ne (tgt := 24) hx hb dX4_put_11 (by decide) (fun c1 => ?_) (fun c1 => ?_)
  · have c1 := bI_ne0 c1
    exact absurd c1 hpl
  · have c1 := bI_eq0 c1
    exact k_xtA (is := 79) hx hb hfl hts hown hE hT (hl.1.trans hml.symm) hno hlocks (List.mem_of_getElem? (i := 2) rfl) dX4_put_14 dX4_put_17 dX4_put_18 dX4_put_20 dX4_put_23 ⟨(Nat.le_of_ble_eq_true rfl), (Nat.le_of_ble_eq_true rfl), Nat.le_refl _, Nat.le_refl _⟩

abbrev rmX4_put_3 : Room := { frames := 7, cells := 1, slots := 6, locals := 103 }
set_option maxHeartbeats 4000000 in
set_option maxRecDepth 100000 in
theorem c_X4_put_3 (l : Launch) (hfl : l.stackTraces = false) (D : va_G) (cI cS cL : ClassId) (x a : Nat → Nat) (r : Nat → Nat → Nat) (lat cnt : Int32) (z : Int32) (T : Nat → Int32) (N : NN) (v : Nat → Int32) (sz : Nat) (n : Nat) (hn : N 1 2 = nI n) (hn14 : n ≤ 14) (k : Nat) (yy : Int32) (hkn : k < n) (hpl : 0 ≤ yy ∧ yy ≤ 3) (h14 : N 9 k = -1 ∨ N 9 k = 4) : vx_Met l yX4_put (wy_ yX4_put cX4_put 4 (some .int)) rmX4_put_3 (kPx D (kTy cI cS cL) (xH cS x a r lat cnt ++ (txW cI x z T ++ (stW cI a N v))) sz [.ref (x 0), .int (nI k), .int yy]) kQx (kXe eS) 1 6 noF := by
  refine k_xofW (by decide) (Nat.le_of_ble_eq_true rfl) ?_
  intro p e s m args below meth c hx hb hr hml hts hown hlocks hno hsz hP hK hD hE hT ls hl
  subst hsz
  have hl : lv_has ls 4 [(0, .ref (x 0)), (1, .int (nI k)), (2, .int yy)] := hl
  refine lv_aload_n hx hb dX4_put_0 rfl (lv_at hl 0 rfl) ?_
  refine lv_iload_n hx hb dX4_put_1 rfl (lv_at hl 1 rfl) ?_
  refine k_rvV (As := [.int (nI k)]) (rest := []) (wc := xH cS x a r lat cnt ++ (txW cI x z T ++ (stW cI a N v))) ⟨hx, hb, hml, hown, hts⟩ (c_X4_requireHose_g l D cI cS cL x a r lat cnt z T N v _ (nI k) (is_hose hn hn14 hkn)) lkX4_61 rfl rfl ⟨(Nat.le_of_ble_eq_true rfl), (Nat.le_of_ble_eq_true rfl)⟩ (va_recv hK hP (ci := 3) (q0 := 0) rfl rfl) hK hE hP hD rfl hl.1 rfl (Nat.le_of_ble_eq_true rfl) dX4_put_2 ⟨Nat.zero_le _, Nat.zero_le _⟩ ?_
  refine lv_iload_n hx hb dX4_put_5 rfl (lv_at hl 2 rfl) ?_
  refine lv_iconst (v := 0) hx hb dX4_put_6 (by decide) ?_
  refine lv_iconst (v := 3) hx hb dX4_put_7 (by decide) ?_
  refine k_riS (As := [.int yy, .int 0, .int 3]) (rest := []) (wc := []) ⟨hx, hb, hml, hown, hts⟩ (c_X4_isWithin l D cI cS cL _ yy 0 3) lkX4_34 rfl rfl ⟨(Nat.le_of_ble_eq_true rfl), (Nat.le_of_ble_eq_true rfl)⟩ hK hE k_nilP (k_nilD (A := va_A (xH cS x a r lat cnt ++ (txW cI x z T ++ (stW cI a N v))) s.heap.size)) rfl hl.1 rfl (Nat.le_of_ble_eq_true rfl) dX4_put_8 ⟨Nat.zero_le _, Nat.zero_le _⟩ ?_
  refine lv_if_ne (tgt := 24) hx hb dX4_put_11 (by decide) (fun c1 => ?_) (fun c1 => ?_)
  · have c1 := bI_ne0 c1
    refine lv_aload_n hx hb dX4_put_24 rfl (lv_at hl 0 rfl) ?_
    refine lv_iload_n hx hb dX4_put_25 rfl (lv_at hl 1 rfl) ?_
    exact k_xoV (As := [.int (nI k)]) (rest := []) (wc := xH cS x a r lat cnt ++ (txW cI x z T ++ (stW cI a N v))) ⟨hx, hb, hml, hown, hts⟩ (c_X4_requireAtHand_b l hfl D cI cS cL x a r lat cnt z T N v _ k (by omega) h14) lkX4_65 rfl rfl ⟨(Nat.le_of_ble_eq_true rfl), (Nat.le_of_ble_eq_true rfl)⟩ (va_recv hK hP (ci := 3) (q0 := 0) rfl rfl) hK hE hT hP hD hno hlocks rfl hl.1 rfl (Nat.le_of_ble_eq_true rfl) dX4_put_26 ⟨Nat.le_refl _, Nat.le_refl _⟩
  · have c1 := bI_eq0 c1
    exact absurd hpl c1

abbrev rmX4_lend_1 : Room := { frames := 7, cells := 1, slots := 6, locals := 103 }
set_option maxHeartbeats 4000000 in
set_option maxRecDepth 100000 in
theorem c_X4_lend_1 (l : Launch) (hfl : l.stackTraces = false) (D : va_G) (cI cS cL : ClassId) (x a : Nat → Nat) (r : Nat → Nat → Nat) (lat cnt : Int32) (z : Int32) (T : Nat → Int32) (N : NN) (v : Nat → Int32) (sz : Nat) (xx yy : Int32) (hxx : ¬ (0 ≤ xx ∧ xx ≤ N 1 2 - 1)) : vx_Met l yX4_lend (wy_ yX4_lend cX4_lend 3 (some .int)) rmX4_lend_1 (kPx D (kTy cI cS cL) (xH cS x a r lat cnt ++ (txW cI x z T ++ (stW cI a N v))) sz [.ref (x 0), .int xx, .int yy]) kQx (kXe eB) 1 6 noF := by
  refine k_xofW (by decide) (Nat.le_of_ble_eq_true rfl) ?_
  intro p e s m args below meth c hx hb hr hml hts hown hlocks hno hsz hP hK hD hE hT ls hl
  subst hsz
  have hl : lv_has ls 3 [(0, .ref (x 0)), (1, .int xx), (2, .int yy)] := hl
  refine lv_aload_n hx hb dX4_lend_0 rfl (lv_at hl 0 rfl) ?_
  refine lv_iload_n hx hb dX4_lend_1 rfl (lv_at hl 1 rfl) ?_
  exact k_xoV (As := [.int xx]) (rest := []) (wc := xH cS x a r lat cnt ++ (txW cI x z T ++ (stW cI a N v))) ⟨hx, hb, hml, hown, hts⟩ (c_X4_requireHose_b l hfl D cI cS cL x a r lat cnt z T N v _ xx hxx) lkX4_61 rfl rfl ⟨(Nat.le_of_ble_eq_true rfl), (Nat.le_of_ble_eq_true rfl)⟩ (va_recv hK hP (ci := 3) (q0 := 0) rfl rfl) hK hE hT hP hD hno hlocks rfl hl.1 rfl (Nat.le_of_ble_eq_true rfl) dX4_lend_2 ⟨Nat.le_refl _, Nat.le_refl _⟩

abbrev rmX4_lend_2 : Room := { frames := 6, cells := 1, slots := 6, locals := 82 }
set_option maxHeartbeats 4000000 in
set_option maxRecDepth 100000 in
theorem c_X4_lend_2 (l : Launch) (hfl : l.stackTraces = false) (D : va_G) (cI cS cL : ClassId) (x a : Nat → Nat) (r : Nat → Nat → Nat) (lat cnt : Int32) (z : Int32) (T : Nat → Int32) (N : NN) (v : Nat → Int32) (sz : Nat) (n : Nat) (hn : N 1 2 = nI n) (hn14 : n ≤ 14) (k : Nat) (yy : Int32) (hkn : k < n) (hdd : ¬ (1 ≤ yy ∧ yy ≤ 99)) : vx_Met l yX4_lend (wy_ yX4_lend cX4_lend 3 (some .int)) rmX4_lend_2 (kPx D (kTy cI cS cL) (xH cS x a r lat cnt ++ (txW cI x z T ++ (stW cI a N v))) sz [.ref (x 0), .int (nI k), .int yy]) kQx (kXe eA) 1 6 noF := by
  refine k_xofW (by decide) (Nat.le_of_ble_eq_true rfl) ?_
  intro p e s m args below meth c hx hb hr hml hts hown hlocks hno hsz hP hK hD hE hT ls hl
  subst hsz
  have hl : lv_has ls 3 [(0, .ref (x 0)), (1, .int (nI k)), (2, .int yy)] := hl
  refine lv_aload_n hx hb dX4_lend_0 rfl (lv_at hl 0 rfl) ?_
  refine lv_iload_n hx hb dX4_lend_1 rfl (lv_at hl 1 rfl) ?_
  refine k_rvV (As := [.int (nI k)]) (rest := []) (wc := xH cS x a r lat cnt ++ (txW cI x z T ++ (stW cI a N v))) ⟨hx, hb, hml, hown, hts⟩ (c_X4_requireHose_g l D cI cS cL x a r lat cnt z T N v _ (nI k) (is_hose hn hn14 hkn)) lkX4_61 rfl rfl ⟨(Nat.le_of_ble_eq_true rfl), (Nat.le_of_ble_eq_true rfl)⟩ (va_recv hK hP (ci := 3) (q0 := 0) rfl rfl) hK hE hP hD rfl hl.1 rfl (Nat.le_of_ble_eq_true rfl) dX4_lend_2 ⟨Nat.zero_le _, Nat.zero_le _⟩ ?_
  refine lv_iload_n hx hb dX4_lend_5 rfl (lv_at hl 2 rfl) ?_
  refine lv_iconst (v := 1) hx hb dX4_lend_6 (by decide) ?_
  refine lv_bipush (v := 99) hx hb dX4_lend_7 (by decide) ?_
  refine k_riS (As := [.int yy, .int 1, .int 99]) (rest := []) (wc := []) ⟨hx, hb, hml, hown, hts⟩ (c_X4_isWithin l D cI cS cL _ yy 1 99) lkX4_34 rfl rfl ⟨(Nat.le_of_ble_eq_true rfl), (Nat.le_of_ble_eq_true rfl)⟩ hK hE k_nilP (k_nilD (A := va_A (xH cS x a r lat cnt ++ (txW cI x z T ++ (stW cI a N v))) s.heap.size)) rfl hl.1 rfl (Nat.le_of_ble_eq_true rfl) dX4_lend_9 ⟨Nat.zero_le _, Nat.zero_le _⟩ ?_
  refine lv_if_ne (tgt := 25) hx hb dX4_lend_12 (by decide) (fun c1 => ?_) (fun c1 => ?_)
  · have c1 := bI_ne0 c1
    exact absurd c1 hdd
  · have c1 := bI_eq0 c1
    exact k_xtA (is := 84) hx hb hfl hts hown hE hT (hl.1.trans hml.symm) hno hlocks (List.mem_of_getElem? (i := 3) rfl) dX4_lend_15 dX4_lend_18 dX4_lend_19 dX4_lend_21 dX4_lend_24 ⟨(Nat.le_of_ble_eq_true rfl), (Nat.le_of_ble_eq_true rfl), Nat.le_refl _, Nat.le_refl _⟩

abbrev rmX4_lend_3 : Room := { frames := 6, cells := 1, slots := 6, locals := 82 }
set_option maxHeartbeats 4000000 in
set_option maxRecDepth 100000 in
theorem c_X4_lend_3 (l : Launch) (hfl : l.stackTraces = false) (D : va_G) (cI cS cL : ClassId) (x a : Nat → Nat) (r : Nat → Nat → Nat) (lat cnt : Int32) (z : Int32) (T : Nat → Int32) (N : NN) (v : Nat → Int32) (sz : Nat) (n : Nat) (hn : N 1 2 = nI n) (hn14 : n ≤ 14) (k : Nat) (yy : Int32) (hkn : k < n) (hdd : 1 ≤ yy ∧ yy ≤ 99) (hrd : ¬ p_reason N k = 0) : vx_Met l yX4_lend (wy_ yX4_lend cX4_lend 3 (some .int)) rmX4_lend_3 (kPx D (kTy cI cS cL) (xH cS x a r lat cnt ++ (txW cI x z T ++ (stW cI a N v))) sz [.ref (x 0), .int (nI k), .int yy]) kQx (kXe eS) 1 6 noF := by
  refine k_xofW (by decide) (Nat.le_of_ble_eq_true rfl) ?_
  intro p e s m args below meth c hx hb hr hml hts hown hlocks hno hsz hP hK hD hE hT ls hl
  subst hsz
  have hl : lv_has ls 3 [(0, .ref (x 0)), (1, .int (nI k)), (2, .int yy)] := hl
  refine lv_aload_n hx hb dX4_lend_0 rfl (lv_at hl 0 rfl) ?_
  refine lv_iload_n hx hb dX4_lend_1 rfl (lv_at hl 1 rfl) ?_
  refine k_rvV (As := [.int (nI k)]) (rest := []) (wc := xH cS x a r lat cnt ++ (txW cI x z T ++ (stW cI a N v))) ⟨hx, hb, hml, hown, hts⟩ (c_X4_requireHose_g l D cI cS cL x a r lat cnt z T N v _ (nI k) (is_hose hn hn14 hkn)) lkX4_61 rfl rfl ⟨(Nat.le_of_ble_eq_true rfl), (Nat.le_of_ble_eq_true rfl)⟩ (va_recv hK hP (ci := 3) (q0 := 0) rfl rfl) hK hE hP hD rfl hl.1 rfl (Nat.le_of_ble_eq_true rfl) dX4_lend_2 ⟨Nat.zero_le _, Nat.zero_le _⟩ ?_
  refine lv_iload_n hx hb dX4_lend_5 rfl (lv_at hl 2 rfl) ?_
  refine lv_iconst (v := 1) hx hb dX4_lend_6 (by decide) ?_
  refine lv_bipush (v := 99) hx hb dX4_lend_7 (by decide) ?_
  refine k_riS (As := [.int yy, .int 1, .int 99]) (rest := []) (wc := []) ⟨hx, hb, hml, hown, hts⟩ (c_X4_isWithin l D cI cS cL _ yy 1 99) lkX4_34 rfl rfl ⟨(Nat.le_of_ble_eq_true rfl), (Nat.le_of_ble_eq_true rfl)⟩ hK hE k_nilP (k_nilD (A := va_A (xH cS x a r lat cnt ++ (txW cI x z T ++ (stW cI a N v))) s.heap.size)) rfl hl.1 rfl (Nat.le_of_ble_eq_true rfl) dX4_lend_9 ⟨Nat.zero_le _, Nat.zero_le _⟩ ?_
  refine lv_if_ne (tgt := 25) hx hb dX4_lend_12 (by decide) (fun c1 => ?_) (fun c1 => ?_)
  · have c1 := bI_ne0 c1
    refine lv_aload_n hx hb dX4_lend_25 rfl (lv_at hl 0 rfl) ?_
    refine g4 hx hb hts hown hK hP 0 rfl 0 (by decide) flX4_10 (fun _ h => h) (v := .ref (a 0)) rfl dX4_lend_26 ?_
    refine lv_iload_n hx hb dX4_lend_29 rfl (lv_at hl 1 rfl) ?_
    refine k_riV (As := [.int (nI k)]) (rest := []) (wc := stW cI a N v) ⟨hx, hb, hml, hown, hts⟩ (c_X3_isReady l D cI cS cL a N v _ k (by omega)) lkX4_86 rfl rfl ⟨(Nat.le_of_ble_eq_true rfl), (Nat.le_of_ble_eq_true rfl)⟩ (va_recv hK hP (ci := 2) (q0 := 4) rfl rfl) hK hE (va_P_midL (w1 := xH cS x a r lat cnt ++ (txW cI x z T)) (wc := stW cI a N v) (w3 := []) hP) (va_D_midL (w1 := xH cS x a r lat cnt ++ (txW cI x z T)) (wc := stW cI a N v) (w3 := []) hD) rfl hl.1 rfl (Nat.le_of_ble_eq_true rfl) dX4_lend_30 ⟨Nat.zero_le _, Nat.zero_le _⟩ ?_
    refine lv_if_ne (tgt := 46) hx hb dX4_lend_33 (by decide) (fun c2 => ?_) (fun c2 => ?_)
    · have c2 := bI_ne0 c2
      exact absurd c2 hrd
    · have c2 := bI_eq0 c2
      exact k_xtS (is := 90) hx hb hfl hts hown hE hT (hl.1.trans hml.symm) hno hlocks (List.mem_of_getElem? (i := 4) rfl) dX4_lend_36 dX4_lend_39 dX4_lend_40 dX4_lend_42 dX4_lend_45 ⟨(Nat.le_of_ble_eq_true rfl), (Nat.le_of_ble_eq_true rfl), Nat.le_refl _, Nat.le_refl _⟩
  · have c1 := bI_eq0 c1
    exact absurd hdd c1

abbrev rmX4_test_1 : Room := { frames := 7, cells := 1, slots := 6, locals := 103 }
set_option maxHeartbeats 4000000 in
set_option maxRecDepth 100000 in
theorem c_X4_test_1 (l : Launch) (hfl : l.stackTraces = false) (D : va_G) (cI cS cL : ClassId) (x a : Nat → Nat) (r : Nat → Nat → Nat) (lat cnt : Int32) (z : Int32) (T : Nat → Int32) (N : NN) (v : Nat → Int32) (sz : Nat) (xx yy : Int32) (hxx : ¬ (0 ≤ xx ∧ xx ≤ N 1 2 - 1)) : vx_Met l yX4_test (wy_ yX4_test cX4_test 3 (some .int)) rmX4_test_1 (kPx D (kTy cI cS cL) (xH cS x a r lat cnt ++ (txW cI x z T ++ (stW cI a N v))) sz [.ref (x 0), .int xx, .int yy]) kQx (kXe eB) 1 6 noF := by
  refine k_xofW (by decide) (Nat.le_of_ble_eq_true rfl) ?_
  intro p e s m args below meth c hx hb hr hml hts hown hlocks hno hsz hP hK hD hE hT ls hl
  subst hsz
  have hl : lv_has ls 3 [(0, .ref (x 0)), (1, .int xx), (2, .int yy)] := hl
  refine lv_aload_n hx hb dX4_test_0 rfl (lv_at hl 0 rfl) ?_
  refine lv_iload_n hx hb dX4_test_1 rfl (lv_at hl 1 rfl) ?_
  exact k_xoV (As := [.int xx]) (rest := []) (wc := xH cS x a r lat cnt ++ (txW cI x z T ++ (stW cI a N v))) ⟨hx, hb, hml, hown, hts⟩ (c_X4_requireHose_b l hfl D cI cS cL x a r lat cnt z T N v _ xx hxx) lkX4_61 rfl rfl ⟨(Nat.le_of_ble_eq_true rfl), (Nat.le_of_ble_eq_true rfl)⟩ (va_recv hK hP (ci := 3) (q0 := 0) rfl rfl) hK hE hT hP hD hno hlocks rfl hl.1 rfl (Nat.le_of_ble_eq_true rfl) dX4_test_2 ⟨Nat.le_refl _, Nat.le_refl _⟩

abbrev rmX4_test_2 : Room := { frames := 7, cells := 1, slots := 6, locals := 102 }
set_option maxHeartbeats 4000000 in
set_option maxRecDepth 100000 in
theorem c_X4_test_2 (l : Launch) (hfl : l.stackTraces = false) (D : va_G) (cI cS cL : ClassId) (x a : Nat → Nat) (r : Nat → Nat → Nat) (lat cnt : Int32) (z : Int32) (T : Nat → Int32) (N : NN) (v : Nat → Int32) (sz : Nat) (n : Nat) (hn : N 1 2 = nI n) (hn14 : n ≤ 14) (k : Nat) (yy : Int32) (hkn : k < n) (hw : ¬ (4 ≤ yy ∧ yy ≤ 24)) : vx_Met l yX4_test (wy_ yX4_test cX4_test 3 (some .int)) rmX4_test_2 (kPx D (kTy cI cS cL) (xH cS x a r lat cnt ++ (txW cI x z T ++ (stW cI a N v))) sz [.ref (x 0), .int (nI k), .int yy]) kQx (kXe eA) 1 6 noF := by
  refine k_xofW (by decide) (Nat.le_of_ble_eq_true rfl) ?_
  intro p e s m args below meth c hx hb hr hml hts hown hlocks hno hsz hP hK hD hE hT ls hl
  subst hsz
  have hl : lv_has ls 3 [(0, .ref (x 0)), (1, .int (nI k)), (2, .int yy)] := hl
  refine lv_aload_n hx hb dX4_test_0 rfl (lv_at hl 0 rfl) ?_
  refine lv_iload_n hx hb dX4_test_1 rfl (lv_at hl 1 rfl) ?_
  refine k_rvV (As := [.int (nI k)]) (rest := []) (wc := xH cS x a r lat cnt ++ (txW cI x z T ++ (stW cI a N v))) ⟨hx, hb, hml, hown, hts⟩ (c_X4_requireHose_g l D cI cS cL x a r lat cnt z T N v _ (nI k) (is_hose hn hn14 hkn)) lkX4_61 rfl rfl ⟨(Nat.le_of_ble_eq_true rfl), (Nat.le_of_ble_eq_true rfl)⟩ (va_recv hK hP (ci := 3) (q0 := 0) rfl rfl) hK hE hP hD rfl hl.1 rfl (Nat.le_of_ble_eq_true rfl) dX4_test_2 ⟨Nat.zero_le _, Nat.zero_le _⟩ ?_
  refine lv_iload_n hx hb dX4_test_5 rfl (lv_at hl 2 rfl) ?_
  exact k_xoS (As := [.int yy]) (rest := []) (wc := []) ⟨hx, hb, hml, hown, hts⟩ (c_X4_requirePressure_b l hfl D cI cS cL _ yy hw) lkX4_96 rfl rfl ⟨(Nat.le_of_ble_eq_true rfl), (Nat.le_of_ble_eq_true rfl)⟩ hK hE hT k_nilP (k_nilD (A := va_A (xH cS x a r lat cnt ++ (txW cI x z T ++ (stW cI a N v))) s.heap.size)) hno hlocks rfl hl.1 rfl (Nat.le_of_ble_eq_true rfl) dX4_test_6 ⟨Nat.le_refl _, Nat.le_refl _⟩

abbrev rmX4_test_3 : Room := { frames := 7, cells := 1, slots := 6, locals := 103 }
set_option maxHeartbeats 4000000 in
set_option maxRecDepth 100000 in
theorem c_X4_test_3 (l : Launch) (hfl : l.stackTraces = false) (D : va_G) (cI cS cL : ClassId) (x a : Nat → Nat) (r : Nat → Nat → Nat) (lat cnt : Int32) (z : Int32) (T : Nat → Int32) (N : NN) (v : Nat → Int32) (sz : Nat) (n : Nat) (hn : N 1 2 = nI n) (hn14 : n ≤ 14) (k : Nat) (yy : Int32) (hkn : k < n) (hw : 4 ≤ yy ∧ yy ≤ 24) (h14 : N 9 k = -1 ∨ N 9 k = 4) : vx_Met l yX4_test (wy_ yX4_test cX4_test 3 (some .int)) rmX4_test_3 (kPx D (kTy cI cS cL) (xH cS x a r lat cnt ++ (txW cI x z T ++ (stW cI a N v))) sz [.ref (x 0), .int (nI k), .int yy]) kQx (kXe eS) 1 6 noF := by
  refine k_xofW (by decide) (Nat.le_of_ble_eq_true rfl) ?_
  intro p e s m args below meth c hx hb hr hml hts hown hlocks hno hsz hP hK hD hE hT ls hl
  subst hsz
  have hl : lv_has ls 3 [(0, .ref (x 0)), (1, .int (nI k)), (2, .int yy)] := hl
  refine lv_aload_n hx hb dX4_test_0 rfl (lv_at hl 0 rfl) ?_
  refine lv_iload_n hx hb dX4_test_1 rfl (lv_at hl 1 rfl) ?_
  refine k_rvV (As := [.int (nI k)]) (rest := []) (wc := xH cS x a r lat cnt ++ (txW cI x z T ++ (stW cI a N v))) ⟨hx, hb, hml, hown, hts⟩ (c_X4_requireHose_g l D cI cS cL x a r lat cnt z T N v _ (nI k) (is_hose hn hn14 hkn)) lkX4_61 rfl rfl ⟨(Nat.le_of_ble_eq_true rfl), (Nat.le_of_ble_eq_true rfl)⟩ (va_recv hK hP (ci := 3) (q0 := 0) rfl rfl) hK hE hP hD rfl hl.1 rfl (Nat.le_of_ble_eq_true rfl) dX4_test_2 ⟨Nat.zero_le _, Nat.zero_le _⟩ ?_
  refine lv_iload_n hx hb dX4_test_5 rfl (lv_at hl 2 rfl) ?_
  refine k_rvS (As := [.int yy]) (rest := []) (wc := []) ⟨hx, hb, hml, hown, hts⟩ (c_X4_requirePressure_g l D cI cS cL _ yy hw) lkX4_96 rfl rfl ⟨(Nat.le_of_ble_eq_true rfl), (Nat.le_of_ble_eq_true rfl)⟩ hK hE k_nilP (k_nilD (A := va_A (xH cS x a r lat cnt ++ (txW cI x z T ++ (stW cI a N v))) s.heap.size)) rfl hl.1 rfl (Nat.le_of_ble_eq_true rfl) dX4_test_6 ⟨Nat.zero_le _, Nat.zero_le _⟩ ?_
  refine lv_aload_n hx hb dX4_test_9 rfl (lv_at hl 0 rfl) ?_
  refine lv_iload_n hx hb dX4_test_10 rfl (lv_at hl 1 rfl) ?_
  exact k_xoV (As := [.int (nI k)]) (rest := []) (wc := xH cS x a r lat cnt ++ (txW cI x z T ++ (stW cI a N v))) ⟨hx, hb, hml, hown, hts⟩ (c_X4_requireAtHand_b l hfl D cI cS cL x a r lat cnt z T N v _ k (by omega) h14) lkX4_65 rfl rfl ⟨(Nat.le_of_ble_eq_true rfl), (Nat.le_of_ble_eq_true rfl)⟩ (va_recv hK hP (ci := 3) (q0 := 0) rfl rfl) hK hE hT hP hD hno hlocks rfl hl.1 rfl (Nat.le_of_ble_eq_true rfl) dX4_test_11 ⟨Nat.le_refl _, Nat.le_refl _⟩

abbrev rmX4_want_1 : Room := { frames := 7, cells := 1, slots := 6, locals := 102 }
set_option maxHeartbeats 4000000 in
set_option maxRecDepth 100000 in
theorem c_X4_want_1 (l : Launch) (hfl : l.stackTraces = false) (D : va_G) (cI cS cL : ClassId) (x a : Nat → Nat) (r : Nat → Nat → Nat) (lat cnt : Int32) (z : Int32) (T : Nat → Int32) (N : NN) (v : Nat → Int32) (sz : Nat) (xx yy : Int32) (hxx : ¬ (0 ≤ xx ∧ xx ≤ 2)) : vx_Met l yX4_want (wy_ yX4_want cX4_want 4 (some .int)) rmX4_want_1 (kPx D (kTy cI cS cL) (xH cS x a r lat cnt ++ (txW cI x z T ++ (stW cI a N v))) sz [.ref (x 0), .int xx, .int yy]) kQx (kXe eB) 1 6 noF := by
  refine k_xofW (by decide) (Nat.le_of_ble_eq_true rfl) ?_
  intro p e s m args below meth c hx hb hr hml hts hown hlocks hno hsz hP hK hD hE hT ls hl
  subst hsz
  have hl : lv_has ls 4 [(0, .ref (x 0)), (1, .int xx), (2, .int yy)] := hl
  refine lv_iload_n hx hb dX4_want_0 rfl (lv_at hl 1 rfl) ?_
  exact k_xoS (As := [.int xx]) (rest := []) (wc := []) ⟨hx, hb, hml, hown, hts⟩ (c_X4_requireTruck_b l hfl D cI cS cL _ xx hxx) lkX4_102 rfl rfl ⟨(Nat.le_of_ble_eq_true rfl), (Nat.le_of_ble_eq_true rfl)⟩ hK hE hT k_nilP (k_nilD (A := va_A (xH cS x a r lat cnt ++ (txW cI x z T ++ (stW cI a N v))) s.heap.size)) hno hlocks rfl hl.1 rfl (Nat.le_of_ble_eq_true rfl) dX4_want_1 ⟨Nat.le_refl _, Nat.le_refl _⟩

abbrev rmX4_want_2 : Room := { frames := 6, cells := 1, slots := 6, locals := 82 }
set_option maxHeartbeats 4000000 in
set_option maxRecDepth 100000 in
theorem c_X4_want_2 (l : Launch) (hfl : l.stackTraces = false) (D : va_G) (cI cS cL : ClassId) (x a : Nat → Nat) (r : Nat → Nat → Nat) (lat cnt : Int32) (z : Int32) (T : Nat → Int32) (N : NN) (v : Nat → Int32) (sz : Nat) (t : Nat) (yy : Int32) (ht : t < 3) (hln : ¬ (0 ≤ yy ∧ yy ≤ 200)) : vx_Met l yX4_want (wy_ yX4_want cX4_want 4 (some .int)) rmX4_want_2 (kPx D (kTy cI cS cL) (xH cS x a r lat cnt ++ (txW cI x z T ++ (stW cI a N v))) sz [.ref (x 0), .int (nI t), .int yy]) kQx (kXe eA) 1 6 noF := by
  refine k_xofW (by decide) (Nat.le_of_ble_eq_true rfl) ?_
  intro p e s m args below meth c hx hb hr hml hts hown hlocks hno hsz hP hK hD hE hT ls hl
  subst hsz
  have hl : lv_has ls 4 [(0, .ref (x 0)), (1, .int (nI t)), (2, .int yy)] := hl
  refine lv_iload_n hx hb dX4_want_0 rfl (lv_at hl 1 rfl) ?_
  refine k_rvS (As := [.int (nI t)]) (rest := []) (wc := []) ⟨hx, hb, hml, hown, hts⟩ (c_X4_requireTruck_g l D cI cS cL _ (nI t) (nI_rg (lo := 0) (hi := 2) (by omega) (by omega) (by decide))) lkX4_102 rfl rfl ⟨(Nat.le_of_ble_eq_true rfl), (Nat.le_of_ble_eq_true rfl)⟩ hK hE k_nilP (k_nilD (A := va_A (xH cS x a r lat cnt ++ (txW cI x z T ++ (stW cI a N v))) s.heap.size)) rfl hl.1 rfl (Nat.le_of_ble_eq_true rfl) dX4_want_1 ⟨Nat.zero_le _, Nat.zero_le _⟩ ?_
  refine lv_iload_n hx hb dX4_want_4 rfl (lv_at hl 2 rfl) ?_
  refine lv_iconst (v := 0) hx hb dX4_want_5 (by decide) ?_
  refine lv_sipush (v := 200) hx hb dX4_want_6 (by decide) ?_
  refine k_riS (As := [.int yy, .int 0, .int 200]) (rest := []) (wc := []) ⟨hx, hb, hml, hown, hts⟩ (c_X4_isWithin l D cI cS cL _ yy 0 200) lkX4_34 rfl rfl ⟨(Nat.le_of_ble_eq_true rfl), (Nat.le_of_ble_eq_true rfl)⟩ hK hE k_nilP (k_nilD (A := va_A (xH cS x a r lat cnt ++ (txW cI x z T ++ (stW cI a N v))) s.heap.size)) rfl hl.1 rfl (Nat.le_of_ble_eq_true rfl) dX4_want_9 ⟨Nat.zero_le _, Nat.zero_le _⟩ ?_
  refine lv_if_ne (tgt := 25) hx hb dX4_want_12 (by decide) (fun c1 => ?_) (fun c1 => ?_)
  · have c1 := bI_ne0 c1
    exact absurd c1 hln
  · have c1 := bI_eq0 c1
    exact k_xtA (is := 105) hx hb hfl hts hown hE hT (hl.1.trans hml.symm) hno hlocks (List.mem_of_getElem? (i := 5) rfl) dX4_want_15 dX4_want_18 dX4_want_19 dX4_want_21 dX4_want_24 ⟨(Nat.le_of_ble_eq_true rfl), (Nat.le_of_ble_eq_true rfl), Nat.le_refl _, Nat.le_refl _⟩

abbrev rmX4_set_1 : Room := { frames := 7, cells := 1, slots := 6, locals := 102 }
set_option maxHeartbeats 4000000 in
set_option maxRecDepth 100000 in
theorem c_X4_set_1 (l : Launch) (hfl : l.stackTraces = false) (D : va_G) (cI cS cL : ClassId) (x a : Nat → Nat) (r : Nat → Nat → Nat) (lat cnt : Int32) (z : Int32) (T : Nat → Int32) (N : NN) (v : Nat → Int32) (sz : Nat) (xx yy : Int32) (hxx : ¬ (0 ≤ xx ∧ xx ≤ 2)) : vx_Met l yX4_set (wy_ yX4_set cX4_set 4 (some .int)) rmX4_set_1 (kPx D (kTy cI cS cL) (xH cS x a r lat cnt ++ (txW cI x z T ++ (stW cI a N v))) sz [.ref (x 0), .int xx, .int yy]) kQx (kXe eB) 1 6 noF := by
  refine k_xofW (by decide) (Nat.le_of_ble_eq_true rfl) ?_
  intro p e s m args below meth c hx hb hr hml hts hown hlocks hno hsz hP hK hD hE hT ls hl
  subst hsz
  have hl : lv_has ls 4 [(0, .ref (x 0)), (1, .int xx), (2, .int yy)] := hl
  refine lv_iload_n hx hb dX4_set_0 rfl (lv_at hl 1 rfl) ?_
  exact k_xoS (As := [.int xx]) (rest := []) (wc := []) ⟨hx, hb, hml, hown, hts⟩ (c_X4_requireSetting_b l hfl D cI cS cL _ xx hxx) lkX4_110 rfl rfl ⟨(Nat.le_of_ble_eq_true rfl), (Nat.le_of_ble_eq_true rfl)⟩ hK hE hT k_nilP (k_nilD (A := va_A (xH cS x a r lat cnt ++ (txW cI x z T ++ (stW cI a N v))) s.heap.size)) hno hlocks rfl hl.1 rfl (Nat.le_of_ble_eq_true rfl) dX4_set_1 ⟨Nat.le_refl _, Nat.le_refl _⟩

abbrev rmX4_set_2 : Room := { frames := 6, cells := 1, slots := 6, locals := 82 }
set_option maxHeartbeats 4000000 in
set_option maxRecDepth 100000 in
theorem c_X4_set_2 (l : Launch) (hfl : l.stackTraces = false) (D : va_G) (cI cS cL : ClassId) (x a : Nat → Nat) (r : Nat → Nat → Nat) (lat cnt : Int32) (z : Int32) (T : Nat → Int32) (N : NN) (v : Nat → Int32) (sz : Nat) (t : Nat) (yy : Int32) (ht : t < 3) (hy : ¬ (set_lo (nI t) ≤ yy ∧ yy ≤ set_hi (nI t))) : vx_Met l yX4_set (wy_ yX4_set cX4_set 4 (some .int)) rmX4_set_2 (kPx D (kTy cI cS cL) (xH cS x a r lat cnt ++ (txW cI x z T ++ (stW cI a N v))) sz [.ref (x 0), .int (nI t), .int yy]) kQx (kXe eA) 1 6 noF := by
  refine k_xofW (by decide) (Nat.le_of_ble_eq_true rfl) ?_
  intro p e s m args below meth c hx hb hr hml hts hown hlocks hno hsz hP hK hD hE hT ls hl
  subst hsz
  have hl : lv_has ls 4 [(0, .ref (x 0)), (1, .int (nI t)), (2, .int yy)] := hl
  refine lv_iload_n hx hb dX4_set_0 rfl (lv_at hl 1 rfl) ?_
  refine k_rvS (As := [.int (nI t)]) (rest := []) (wc := []) ⟨hx, hb, hml, hown, hts⟩ (c_X4_requireSetting_g l D cI cS cL _ (nI t) (nI_rg (lo := 0) (hi := 2) (by omega) (by omega) (by decide))) lkX4_110 rfl rfl ⟨(Nat.le_of_ble_eq_true rfl), (Nat.le_of_ble_eq_true rfl)⟩ hK hE k_nilP (k_nilD (A := va_A (xH cS x a r lat cnt ++ (txW cI x z T ++ (stW cI a N v))) s.heap.size)) rfl hl.1 rfl (Nat.le_of_ble_eq_true rfl) dX4_set_1 ⟨Nat.zero_le _, Nat.zero_le _⟩ ?_
  refine lv_iload_n hx hb dX4_set_4 rfl (lv_at hl 2 rfl) ?_
  refine lv_iload_n hx hb dX4_set_5 rfl (lv_at hl 1 rfl) ?_
  refine k_riS (As := [.int (nI t)]) (rest := [.int yy]) (wc := []) ⟨hx, hb, hml, hown, hts⟩ (c_X4_leastOfSetting l D cI cS cL _ (nI t)) lkX4_113 rfl rfl ⟨(Nat.le_of_ble_eq_true rfl), (Nat.le_of_ble_eq_true rfl)⟩ hK hE k_nilP (k_nilD (A := va_A (xH cS x a r lat cnt ++ (txW cI x z T ++ (stW cI a N v))) s.heap.size)) rfl hl.1 rfl (Nat.le_of_ble_eq_true rfl) dX4_set_6 ⟨Nat.zero_le _, Nat.zero_le _⟩ ?_
  refine lv_iload_n hx hb dX4_set_9 rfl (lv_at hl 1 rfl) ?_
  refine k_riS (As := [.int (nI t)]) (rest := [.int (set_lo (nI t)), .int yy]) (wc := []) ⟨hx, hb, hml, hown, hts⟩ (c_X4_greatestOfSetting l D cI cS cL _ (nI t)) lkX4_116 rfl rfl ⟨(Nat.le_of_ble_eq_true rfl), (Nat.le_of_ble_eq_true rfl)⟩ hK hE k_nilP (k_nilD (A := va_A (xH cS x a r lat cnt ++ (txW cI x z T ++ (stW cI a N v))) s.heap.size)) rfl hl.1 rfl (Nat.le_of_ble_eq_true rfl) dX4_set_10 ⟨Nat.zero_le _, Nat.zero_le _⟩ ?_
  refine k_riS (As := [.int yy, .int (set_lo (nI t)), .int (set_hi (nI t))]) (rest := []) (wc := []) ⟨hx, hb, hml, hown, hts⟩ (c_X4_isWithin l D cI cS cL _ yy (set_lo (nI t)) (set_hi (nI t))) lkX4_34 rfl rfl ⟨(Nat.le_of_ble_eq_true rfl), (Nat.le_of_ble_eq_true rfl)⟩ hK hE k_nilP (k_nilD (A := va_A (xH cS x a r lat cnt ++ (txW cI x z T ++ (stW cI a N v))) s.heap.size)) rfl hl.1 rfl (Nat.le_of_ble_eq_true rfl) dX4_set_13 ⟨Nat.zero_le _, Nat.zero_le _⟩ ?_
  refine lv_if_ne (tgt := 29) hx hb dX4_set_16 (by decide) (fun c1 => ?_) (fun c1 => ?_)
  · have c1 := bI_ne0 c1
    exact absurd c1 hy
  · have c1 := bI_eq0 c1
    exact k_xtA (is := 119) hx hb hfl hts hown hE hT (hl.1.trans hml.symm) hno hlocks (List.mem_of_getElem? (i := 6) rfl) dX4_set_19 dX4_set_22 dX4_set_23 dX4_set_25 dX4_set_28 ⟨(Nat.le_of_ble_eq_true rfl), (Nat.le_of_ble_eq_true rfl), Nat.le_refl _, Nat.le_refl _⟩

abbrev rmX4_pass_1 : Room := { frames := 6, cells := 1, slots := 6, locals := 82 }
set_option maxHeartbeats 4000000 in
set_option maxRecDepth 100000 in
theorem c_X4_pass_1 (l : Launch) (hfl : l.stackTraces = false) (D : va_G) (cI cS cL : ClassId) (x a : Nat → Nat) (r : Nat → Nat → Nat) (lat cnt : Int32) (z : Int32) (T : Nat → Int32) (N : NN) (v : Nat → Int32) (sz : Nat) (xx : Int32) (hxx : ¬ (1 ≤ xx ∧ xx ≤ 100)) : vx_Met l yX4_pass (wy_ yX4_pass cX4_pass 3 (some .int)) rmX4_pass_1 (kPx D (kTy cI cS cL) (xH cS x a r lat cnt ++ (txW cI x z T ++ (stW cI a N v))) sz [.ref (x 0), .int xx]) kQx (kXe eA) 1 6 noF := by
  refine k_xofW (by decide) (Nat.le_of_ble_eq_true rfl) ?_
  intro p e s m args below meth c hx hb hr hml hts hown hlocks hno hsz hP hK hD hE hT ls hl
  subst hsz
  have hl : lv_has ls 3 [(0, .ref (x 0)), (1, .int xx)] := hl
  refine lv_iload_n hx hb dX4_pass_0 rfl (lv_at hl 1 rfl) ?_
  refine lv_iconst (v := 1) hx hb dX4_pass_1 (by decide) ?_
  refine lv_bipush (v := 100) hx hb dX4_pass_2 (by decide) ?_
  refine k_riS (As := [.int xx, .int 1, .int 100]) (rest := []) (wc := []) ⟨hx, hb, hml, hown, hts⟩ (c_X4_isWithin l D cI cS cL _ xx 1 100) lkX4_34 rfl rfl ⟨(Nat.le_of_ble_eq_true rfl), (Nat.le_of_ble_eq_true rfl)⟩ hK hE k_nilP (k_nilD (A := va_A (xH cS x a r lat cnt ++ (txW cI x z T ++ (stW cI a N v))) s.heap.size)) rfl hl.1 rfl (Nat.le_of_ble_eq_true rfl) dX4_pass_4 ⟨Nat.zero_le _, Nat.zero_le _⟩ ?_
  refine lv_if_ne (tgt := 20) hx hb dX4_pass_7 (by decide) (fun c1 => ?_) (fun c1 => ?_)
  · have c1 := bI_ne0 c1
    exact absurd c1 hxx
  · have c1 := bI_eq0 c1
    exact k_xtA (is := 84) hx hb hfl hts hown hE hT (hl.1.trans hml.symm) hno hlocks (List.mem_of_getElem? (i := 3) rfl) dX4_pass_10 dX4_pass_13 dX4_pass_14 dX4_pass_16 dX4_pass_19 ⟨(Nat.le_of_ble_eq_true rfl), (Nat.le_of_ble_eq_true rfl), Nat.le_refl _, Nat.le_refl _⟩

abbrev rmX4_append_1 : Room := { frames := 6, cells := 1, slots := 6, locals := 82 }
set_option maxHeartbeats 4000000 in
set_option maxRecDepth 100000 in
theorem c_X4_append_1 (l : Launch) (hfl : l.stackTraces = false) (D : va_G) (cI cS cL : ClassId) (x a : Nat → Nat) (r : Nat → Nat → Nat) (lat cnt : Int32) (z : Int32) (T : Nat → Int32) (N : NN) (v : Nat → Int32) (sz : Nat) (xx : Int32) (hxx : ¬ (33 ≤ xx ∧ xx ≤ 126)) : vx_Met l yX4_append (wy_ yX4_append cX4_append 2 (some .int)) rmX4_append_1 (kPx D (kTy cI cS cL) (xH cS x a r lat cnt ++ (txW cI x z T ++ (stW cI a N v))) sz [.ref (x 0), .int xx]) kQx (kXe eA) 1 6 noF := by
  refine k_xofW (by decide) (Nat.le_of_ble_eq_true rfl) ?_
  intro p e s m args below meth c hx hb hr hml hts hown hlocks hno hsz hP hK hD hE hT ls hl
  subst hsz
  have hl : lv_has ls 2 [(0, .ref (x 0)), (1, .int xx)] := hl
  refine lv_iload_n hx hb dX4_append_0 rfl (lv_at hl 1 rfl) ?_
  refine lv_bipush (v := 33) hx hb dX4_append_1 (by decide) ?_
  refine lv_bipush (v := 126) hx hb dX4_append_3 (by decide) ?_
  refine k_riS (As := [.int xx, .int 33, .int 126]) (rest := []) (wc := []) ⟨hx, hb, hml, hown, hts⟩ (c_X4_isWithin l D cI cS cL _ xx 33 126) lkX4_34 rfl rfl ⟨(Nat.le_of_ble_eq_true rfl), (Nat.le_of_ble_eq_true rfl)⟩ hK hE k_nilP (k_nilD (A := va_A (xH cS x a r lat cnt ++ (txW cI x z T ++ (stW cI a N v))) s.heap.size)) rfl hl.1 rfl (Nat.le_of_ble_eq_true rfl) dX4_append_5 ⟨Nat.zero_le _, Nat.zero_le _⟩ ?_
  refine lv_if_ne (tgt := 21) hx hb dX4_append_8 (by decide) (fun c1 => ?_) (fun c1 => ?_)
  · have c1 := bI_ne0 c1
    exact absurd c1 hxx
  · have c1 := bI_eq0 c1
    exact k_xtA (is := 130) hx hb hfl hts hown hE hT (hl.1.trans hml.symm) hno hlocks (List.mem_of_getElem? (i := 7) rfl) dX4_append_11 dX4_append_14 dX4_append_15 dX4_append_17 dX4_append_20 ⟨(Nat.le_of_ble_eq_true rfl), (Nat.le_of_ble_eq_true rfl), Nat.le_refl _, Nat.le_refl _⟩

abbrev rmX4_append_2 : Room := { frames := 6, cells := 1, slots := 6, locals := 82 }
set_option maxHeartbeats 4000000 in
set_option maxRecDepth 100000 in
theorem c_X4_append_2 (l : Launch) (hfl : l.stackTraces = false) (D : va_G) (cI cS cL : ClassId) (x a : Nat → Nat) (r : Nat → Nat → Nat) (lat cnt : Int32) (z : Nat) (T : Nat → Int32) (N : NN) (v : Nat → Int32) (sz : Nat) (xx : Int32) (hxx : 33 ≤ xx ∧ xx ≤ 126) (hz : z = 60) : vx_Met l yX4_append (wy_ yX4_append cX4_append 2 (some .int)) rmX4_append_2 (kPx D (kTy cI cS cL) (xH cS x a r lat cnt ++ (txW cI x (nI z) T ++ (stW cI a N v))) sz [.ref (x 0), .int xx]) kQx (kXe eS) 1 6 noF := by
  refine k_xofW (by decide) (Nat.le_of_ble_eq_true rfl) ?_
  intro p e s m args below meth c hx hb hr hml hts hown hlocks hno hsz hP hK hD hE hT ls hl
  subst hsz
  have hl : lv_has ls 2 [(0, .ref (x 0)), (1, .int xx)] := hl
  refine lv_iload_n hx hb dX4_append_0 rfl (lv_at hl 1 rfl) ?_
  refine lv_bipush (v := 33) hx hb dX4_append_1 (by decide) ?_
  refine lv_bipush (v := 126) hx hb dX4_append_3 (by decide) ?_
  refine k_riS (As := [.int xx, .int 33, .int 126]) (rest := []) (wc := []) ⟨hx, hb, hml, hown, hts⟩ (c_X4_isWithin l D cI cS cL _ xx 33 126) lkX4_34 rfl rfl ⟨(Nat.le_of_ble_eq_true rfl), (Nat.le_of_ble_eq_true rfl)⟩ hK hE k_nilP (k_nilD (A := va_A (xH cS x a r lat cnt ++ (txW cI x (nI z) T ++ (stW cI a N v))) s.heap.size)) rfl hl.1 rfl (Nat.le_of_ble_eq_true rfl) dX4_append_5 ⟨Nat.zero_le _, Nat.zero_le _⟩ ?_
  refine lv_if_ne (tgt := 21) hx hb dX4_append_8 (by decide) (fun c1 => ?_) (fun c1 => ?_)
  · have c1 := bI_ne0 c1
    refine lv_aload_n hx hb dX4_append_21 rfl (lv_at hl 0 rfl) ?_
    refine g4 hx hb hts hown hK hP 0 rfl 4 (by decide) flX4_30 (fun _ h => h) (v := .ref (x 2)) rfl dX4_append_22 ?_
    refine k_riV (As := []) (rest := []) (wc := txW cI x (nI z) T) ⟨hx, hb, hml, hown, hts⟩ (c_X0_isFull l D cI cS cL x T _ z (by omega)) lkX4_132 rfl rfl ⟨(Nat.le_of_ble_eq_true rfl), (Nat.le_of_ble_eq_true rfl)⟩ (va_recv hK hP (ci := 0) (q0 := 2) rfl rfl) hK hE (va_P_midL (w1 := xH cS x a r lat cnt) (wc := txW cI x (nI z) T) (w3 := stW cI a N v) hP) (va_D_midL (w1 := xH cS x a r lat cnt) (wc := txW cI x (nI z) T) (w3 := stW cI a N v) hD) rfl hl.1 rfl (Nat.le_of_ble_eq_true rfl) dX4_append_25 ⟨Nat.zero_le _, Nat.zero_le _⟩ ?_
    refine lv_if_eq (tgt := 41) hx hb dX4_append_28 (by decide) (fun c2 => ?_) (fun c2 => ?_)
    · have c2 := bI_eq0 c2
      exact absurd (show 60 ≤ z by omega) c2
    · have c2 := bI_ne0 c2
      exact k_xtS (is := 136) hx hb hfl hts hown hE hT (hl.1.trans hml.symm) hno hlocks (List.mem_of_getElem? (i := 8) rfl) dX4_append_31 dX4_append_34 dX4_append_35 dX4_append_37 dX4_append_40 ⟨(Nat.le_of_ble_eq_true rfl), (Nat.le_of_ble_eq_true rfl), Nat.le_refl _, Nat.le_refl _⟩
  · have c1 := bI_eq0 c1
    exact absurd hxx c1

abbrev rmX4_buyAll_1 : Room := { frames := 6, cells := 1, slots := 6, locals := 83 }
set_option maxHeartbeats 4000000 in
set_option maxRecDepth 100000 in
theorem c_X4_buyAll_1 (l : Launch) (hfl : l.stackTraces = false) (D : va_G) (cI cS cL : ClassId) (x a : Nat → Nat) (r : Nat → Nat → Nat) (lat cnt : Int32) (z : Nat) (T : Nat → Int32) (N : NN) (v : Nat → Int32) (sz : Nat) (hz60 : z ≤ 60) (h5 : ¬ p_au T z = 5) : vx_Met l yX4_buyAll (wy_ yX4_buyAll cX4_buyAll 2 (some .int)) rmX4_buyAll_1 (kPx D (kTy cI cS cL) (xH cS x a r lat cnt ++ (txW cI x (nI z) T ++ (stW cI a N v))) sz [.ref (x 0)]) kQx (kXe eA) 1 6 noF := by
  refine k_xofW (by decide) (Nat.le_of_ble_eq_true rfl) ?_
  intro p e s m args below meth c hx hb hr hml hts hown hlocks hno hsz hP hK hD hE hT ls hl
  subst hsz
  have hl : lv_has ls 2 [(0, .ref (x 0))] := hl
  refine lv_aload_n hx hb dX4_buyAll_0 rfl (lv_at hl 0 rfl) ?_
  refine g4 hx hb hts hown hK hP 0 rfl 4 (by decide) flX4_30 (fun _ h => h) (v := .ref (x 2)) rfl dX4_buyAll_1 ?_
  refine k_riV (As := []) (rest := []) (wc := txW cI x (nI z) T) ⟨hx, hb, hml, hown, hts⟩ (c_X0_isComplete l D cI cS cL x T _ z (by omega)) lkX4_148 rfl rfl ⟨(Nat.le_of_ble_eq_true rfl), (Nat.le_of_ble_eq_true rfl)⟩ (va_recv hK hP (ci := 0) (q0 := 2) rfl rfl) hK hE (va_P_midL (w1 := xH cS x a r lat cnt) (wc := txW cI x (nI z) T) (w3 := stW cI a N v) hP) (va_D_midL (w1 := xH cS x a r lat cnt) (wc := txW cI x (nI z) T) (w3 := stW cI a N v) hD) rfl hl.1 rfl (Nat.le_of_ble_eq_true rfl) dX4_buyAll_4 ⟨Nat.zero_le _, Nat.zero_le _⟩ ?_
  refine lv_if_ne (tgt := 20) hx hb dX4_buyAll_7 (by decide) (fun c1 => ?_) (fun c1 => ?_)
  · have c1 := bI_ne0 c1
    exact absurd c1 h5
  · have c1 := bI_eq0 c1
    exact k_xtA (is := 151) hx hb hfl hts hown hE hT (hl.1.trans hml.symm) hno hlocks (List.mem_of_getElem? (i := 9) rfl) dX4_buyAll_10 dX4_buyAll_13 dX4_buyAll_14 dX4_buyAll_16 dX4_buyAll_19 ⟨(Nat.le_of_ble_eq_true rfl), (Nat.le_of_ble_eq_true rfl), Nat.le_refl _, Nat.le_refl _⟩

abbrev rmX4_hose_1 : Room := { frames := 7, cells := 1, slots := 6, locals := 103 }
set_option maxHeartbeats 4000000 in
set_option maxRecDepth 100000 in
theorem c_X4_hose_1 (l : Launch) (hfl : l.stackTraces = false) (D : va_G) (cI cS cL : ClassId) (x a : Nat → Nat) (r : Nat → Nat → Nat) (lat cnt : Int32) (z : Int32) (T : Nat → Int32) (N : NN) (v : Nat → Int32) (sz : Nat) (xx yy : Int32) (hxx : ¬ (0 ≤ xx ∧ xx ≤ N 1 2 - 1)) : vx_Met l yX4_hose (wy_ yX4_hose cX4_hose 3 (some .int)) rmX4_hose_1 (kPx D (kTy cI cS cL) (xH cS x a r lat cnt ++ (txW cI x z T ++ (stW cI a N v))) sz [.ref (x 0), .int xx, .int yy]) kQx (kXe eB) 1 6 noF := by
  refine k_xofW (by decide) (Nat.le_of_ble_eq_true rfl) ?_
  intro p e s m args below meth c hx hb hr hml hts hown hlocks hno hsz hP hK hD hE hT ls hl
  subst hsz
  have hl : lv_has ls 3 [(0, .ref (x 0)), (1, .int xx), (2, .int yy)] := hl
  refine lv_aload_n hx hb dX4_hose_0 rfl (lv_at hl 0 rfl) ?_
  refine lv_iload_n hx hb dX4_hose_1 rfl (lv_at hl 1 rfl) ?_
  exact k_xoV (As := [.int xx]) (rest := []) (wc := xH cS x a r lat cnt ++ (txW cI x z T ++ (stW cI a N v))) ⟨hx, hb, hml, hown, hts⟩ (c_X4_requireHose_b l hfl D cI cS cL x a r lat cnt z T N v _ xx hxx) lkX4_61 rfl rfl ⟨(Nat.le_of_ble_eq_true rfl), (Nat.le_of_ble_eq_true rfl)⟩ (va_recv hK hP (ci := 3) (q0 := 0) rfl rfl) hK hE hT hP hD hno hlocks rfl hl.1 rfl (Nat.le_of_ble_eq_true rfl) dX4_hose_2 ⟨Nat.le_refl _, Nat.le_refl _⟩

abbrev rmX4_hose_2 : Room := { frames := 6, cells := 1, slots := 6, locals := 82 }
set_option maxHeartbeats 4000000 in
set_option maxRecDepth 100000 in
theorem c_X4_hose_2 (l : Launch) (hfl : l.stackTraces = false) (D : va_G) (cI cS cL : ClassId) (x a : Nat → Nat) (r : Nat → Nat → Nat) (lat cnt : Int32) (z : Int32) (T : Nat → Int32) (N : NN) (v : Nat → Int32) (sz : Nat) (n : Nat) (hn : N 1 2 = nI n) (hn14 : n ≤ 14) (k : Nat) (yy : Int32) (hkn : k < n) (hw : ¬ (0 ≤ yy ∧ yy ≤ 9)) : vx_Met l yX4_hose (wy_ yX4_hose cX4_hose 3 (some .int)) rmX4_hose_2 (kPx D (kTy cI cS cL) (xH cS x a r lat cnt ++ (txW cI x z T ++ (stW cI a N v))) sz [.ref (x 0), .int (nI k), .int yy]) kQx (kXe eA) 1 6 noF := by
  refine k_xofW (by decide) (Nat.le_of_ble_eq_true rfl) ?_
  intro p e s m args below meth c hx hb hr hml hts hown hlocks hno hsz hP hK hD hE hT ls hl
  subst hsz
  have hl : lv_has ls 3 [(0, .ref (x 0)), (1, .int (nI k)), (2, .int yy)] := hl
  refine lv_aload_n hx hb dX4_hose_0 rfl (lv_at hl 0 rfl) ?_
  refine lv_iload_n hx hb dX4_hose_1 rfl (lv_at hl 1 rfl) ?_
  refine k_rvV (As := [.int (nI k)]) (rest := []) (wc := xH cS x a r lat cnt ++ (txW cI x z T ++ (stW cI a N v))) ⟨hx, hb, hml, hown, hts⟩ (c_X4_requireHose_g l D cI cS cL x a r lat cnt z T N v _ (nI k) (is_hose hn hn14 hkn)) lkX4_61 rfl rfl ⟨(Nat.le_of_ble_eq_true rfl), (Nat.le_of_ble_eq_true rfl)⟩ (va_recv hK hP (ci := 3) (q0 := 0) rfl rfl) hK hE hP hD rfl hl.1 rfl (Nat.le_of_ble_eq_true rfl) dX4_hose_2 ⟨Nat.zero_le _, Nat.zero_le _⟩ ?_
  refine lv_iload_n hx hb dX4_hose_5 rfl (lv_at hl 2 rfl) ?_
  refine lv_iconst (v := 0) hx hb dX4_hose_6 (by decide) ?_
  refine lv_bipush (v := 9) hx hb dX4_hose_7 (by decide) ?_
  refine k_riS (As := [.int yy, .int 0, .int 9]) (rest := []) (wc := []) ⟨hx, hb, hml, hown, hts⟩ (c_X4_isWithin l D cI cS cL _ yy 0 9) lkX4_34 rfl rfl ⟨(Nat.le_of_ble_eq_true rfl), (Nat.le_of_ble_eq_true rfl)⟩ hK hE k_nilP (k_nilD (A := va_A (xH cS x a r lat cnt ++ (txW cI x z T ++ (stW cI a N v))) s.heap.size)) rfl hl.1 rfl (Nat.le_of_ble_eq_true rfl) dX4_hose_9 ⟨Nat.zero_le _, Nat.zero_le _⟩ ?_
  refine lv_if_ne (tgt := 25) hx hb dX4_hose_12 (by decide) (fun c1 => ?_) (fun c1 => ?_)
  · have c1 := bI_ne0 c1
    exact absurd c1 hw
  · have c1 := bI_eq0 c1
    exact k_xtA (is := 162) hx hb hfl hts hown hE hT (hl.1.trans hml.symm) hno hlocks (List.mem_of_getElem? (i := 11) rfl) dX4_hose_15 dX4_hose_18 dX4_hose_19 dX4_hose_21 dX4_hose_24 ⟨(Nat.le_of_ble_eq_true rfl), (Nat.le_of_ble_eq_true rfl), Nat.le_refl _, Nat.le_refl _⟩

abbrev rmX4_truck_1 : Room := { frames := 7, cells := 1, slots := 6, locals := 102 }
set_option maxHeartbeats 4000000 in
set_option maxRecDepth 100000 in
theorem c_X4_truck_1 (l : Launch) (hfl : l.stackTraces = false) (D : va_G) (cI cS cL : ClassId) (x a : Nat → Nat) (r : Nat → Nat → Nat) (lat cnt : Int32) (z : Int32) (T : Nat → Int32) (N : NN) (v : Nat → Int32) (sz : Nat) (xx yy : Int32) (hxx : ¬ (0 ≤ xx ∧ xx ≤ 2)) : vx_Met l yX4_truck (wy_ yX4_truck cX4_truck 4 (some .int)) rmX4_truck_1 (kPx D (kTy cI cS cL) (xH cS x a r lat cnt ++ (txW cI x z T ++ (stW cI a N v))) sz [.ref (x 0), .int xx, .int yy]) kQx (kXe eB) 1 6 noF := by
  refine k_xofW (by decide) (Nat.le_of_ble_eq_true rfl) ?_
  intro p e s m args below meth c hx hb hr hml hts hown hlocks hno hsz hP hK hD hE hT ls hl
  subst hsz
  have hl : lv_has ls 4 [(0, .ref (x 0)), (1, .int xx), (2, .int yy)] := hl
  refine lv_iload_n hx hb dX4_truck_0 rfl (lv_at hl 1 rfl) ?_
  exact k_xoS (As := [.int xx]) (rest := []) (wc := []) ⟨hx, hb, hml, hown, hts⟩ (c_X4_requireTruck_b l hfl D cI cS cL _ xx hxx) lkX4_102 rfl rfl ⟨(Nat.le_of_ble_eq_true rfl), (Nat.le_of_ble_eq_true rfl)⟩ hK hE hT k_nilP (k_nilD (A := va_A (xH cS x a r lat cnt ++ (txW cI x z T ++ (stW cI a N v))) s.heap.size)) hno hlocks rfl hl.1 rfl (Nat.le_of_ble_eq_true rfl) dX4_truck_1 ⟨Nat.le_refl _, Nat.le_refl _⟩

abbrev rmX4_truck_2 : Room := { frames := 6, cells := 1, slots := 6, locals := 82 }
set_option maxHeartbeats 4000000 in
set_option maxRecDepth 100000 in
theorem c_X4_truck_2 (l : Launch) (hfl : l.stackTraces = false) (D : va_G) (cI cS cL : ClassId) (x a : Nat → Nat) (r : Nat → Nat → Nat) (lat cnt : Int32) (z : Int32) (T : Nat → Int32) (N : NN) (v : Nat → Int32) (sz : Nat) (t : Nat) (yy : Int32) (ht : t < 3) (hw : ¬ (0 ≤ yy ∧ yy ≤ 6)) : vx_Met l yX4_truck (wy_ yX4_truck cX4_truck 4 (some .int)) rmX4_truck_2 (kPx D (kTy cI cS cL) (xH cS x a r lat cnt ++ (txW cI x z T ++ (stW cI a N v))) sz [.ref (x 0), .int (nI t), .int yy]) kQx (kXe eA) 1 6 noF := by
  refine k_xofW (by decide) (Nat.le_of_ble_eq_true rfl) ?_
  intro p e s m args below meth c hx hb hr hml hts hown hlocks hno hsz hP hK hD hE hT ls hl
  subst hsz
  have hl : lv_has ls 4 [(0, .ref (x 0)), (1, .int (nI t)), (2, .int yy)] := hl
  refine lv_iload_n hx hb dX4_truck_0 rfl (lv_at hl 1 rfl) ?_
  refine k_rvS (As := [.int (nI t)]) (rest := []) (wc := []) ⟨hx, hb, hml, hown, hts⟩ (c_X4_requireTruck_g l D cI cS cL _ (nI t) (nI_rg (lo := 0) (hi := 2) (by omega) (by omega) (by decide))) lkX4_102 rfl rfl ⟨(Nat.le_of_ble_eq_true rfl), (Nat.le_of_ble_eq_true rfl)⟩ hK hE k_nilP (k_nilD (A := va_A (xH cS x a r lat cnt ++ (txW cI x z T ++ (stW cI a N v))) s.heap.size)) rfl hl.1 rfl (Nat.le_of_ble_eq_true rfl) dX4_truck_1 ⟨Nat.zero_le _, Nat.zero_le _⟩ ?_
  refine lv_iload_n hx hb dX4_truck_4 rfl (lv_at hl 2 rfl) ?_
  refine lv_iconst (v := 0) hx hb dX4_truck_5 (by decide) ?_
  refine lv_bipush (v := 6) hx hb dX4_truck_6 (by decide) ?_
  refine k_riS (As := [.int yy, .int 0, .int 6]) (rest := []) (wc := []) ⟨hx, hb, hml, hown, hts⟩ (c_X4_isWithin l D cI cS cL _ yy 0 6) lkX4_34 rfl rfl ⟨(Nat.le_of_ble_eq_true rfl), (Nat.le_of_ble_eq_true rfl)⟩ hK hE k_nilP (k_nilD (A := va_A (xH cS x a r lat cnt ++ (txW cI x z T ++ (stW cI a N v))) s.heap.size)) rfl hl.1 rfl (Nat.le_of_ble_eq_true rfl) dX4_truck_8 ⟨Nat.zero_le _, Nat.zero_le _⟩ ?_
  refine lv_if_ne (tgt := 24) hx hb dX4_truck_11 (by decide) (fun c1 => ?_) (fun c1 => ?_)
  · have c1 := bI_ne0 c1
    exact absurd c1 hw
  · have c1 := bI_eq0 c1
    exact k_xtA (is := 185) hx hb hfl hts hown hE hT (hl.1.trans hml.symm) hno hlocks (List.mem_of_getElem? (i := 12) rfl) dX4_truck_14 dX4_truck_17 dX4_truck_18 dX4_truck_20 dX4_truck_23 ⟨(Nat.le_of_ble_eq_true rfl), (Nat.le_of_ble_eq_true rfl), Nat.le_refl _, Nat.le_refl _⟩

abbrev rmX4_count_1 : Room := { frames := 6, cells := 1, slots := 6, locals := 82 }
set_option maxHeartbeats 4000000 in
set_option maxRecDepth 100000 in
theorem c_X4_count_1 (l : Launch) (hfl : l.stackTraces = false) (D : va_G) (cI cS cL : ClassId) (x a : Nat → Nat) (r : Nat → Nat → Nat) (lat cnt : Int32) (z : Int32) (T : Nat → Int32) (N : NN) (v : Nat → Int32) (sz : Nat) (xx : Int32) (hxx : ¬ (0 ≤ xx ∧ xx ≤ 10)) : vx_Met l yX4_count (wy_ yX4_count cX4_count 2 (some .int)) rmX4_count_1 (kPx D (kTy cI cS cL) (xH cS x a r lat cnt ++ (txW cI x z T ++ (stW cI a N v))) sz [.ref (x 0), .int xx]) kQx (kXe eA) 1 6 noF := by
  refine k_xofW (by decide) (Nat.le_of_ble_eq_true rfl) ?_
  intro p e s m args below meth c hx hb hr hml hts hown hlocks hno hsz hP hK hD hE hT ls hl
  subst hsz
  have hl : lv_has ls 2 [(0, .ref (x 0)), (1, .int xx)] := hl
  refine lv_iload_n hx hb dX4_count_0 rfl (lv_at hl 1 rfl) ?_
  refine lv_iconst (v := 0) hx hb dX4_count_1 (by decide) ?_
  refine lv_bipush (v := 10) hx hb dX4_count_2 (by decide) ?_
  refine k_riS (As := [.int xx, .int 0, .int 10]) (rest := []) (wc := []) ⟨hx, hb, hml, hown, hts⟩ (c_X4_isWithin l D cI cS cL _ xx 0 10) lkX4_34 rfl rfl ⟨(Nat.le_of_ble_eq_true rfl), (Nat.le_of_ble_eq_true rfl)⟩ hK hE k_nilP (k_nilD (A := va_A (xH cS x a r lat cnt ++ (txW cI x z T ++ (stW cI a N v))) s.heap.size)) rfl hl.1 rfl (Nat.le_of_ble_eq_true rfl) dX4_count_4 ⟨Nat.zero_le _, Nat.zero_le _⟩ ?_
  refine lv_if_ne (tgt := 20) hx hb dX4_count_7 (by decide) (fun c1 => ?_) (fun c1 => ?_)
  · have c1 := bI_ne0 c1
    exact absurd c1 hxx
  · have c1 := bI_eq0 c1
    exact k_xtA (is := 211) hx hb hfl hts hown hE hT (hl.1.trans hml.symm) hno hlocks (List.mem_of_getElem? (i := 13) rfl) dX4_count_10 dX4_count_13 dX4_count_14 dX4_count_16 dX4_count_19 ⟨(Nat.le_of_ble_eq_true rfl), (Nat.le_of_ble_eq_true rfl), Nat.le_refl _, Nat.le_refl _⟩

abbrev rmX4_setting_1 : Room := { frames := 7, cells := 1, slots := 6, locals := 102 }
set_option maxHeartbeats 4000000 in
set_option maxRecDepth 100000 in
theorem c_X4_setting_1 (l : Launch) (hfl : l.stackTraces = false) (D : va_G) (cI cS cL : ClassId) (x a : Nat → Nat) (r : Nat → Nat → Nat) (lat cnt : Int32) (z : Int32) (T : Nat → Int32) (N : NN) (v : Nat → Int32) (sz : Nat) (xx : Int32) (hxx : ¬ (0 ≤ xx ∧ xx ≤ 2)) : vx_Met l yX4_setting (wy_ yX4_setting cX4_setting 2 (some .int)) rmX4_setting_1 (kPx D (kTy cI cS cL) (xH cS x a r lat cnt ++ (txW cI x z T ++ (stW cI a N v))) sz [.ref (x 0), .int xx]) kQx (kXe eB) 1 6 noF := by
  refine k_xofW (by decide) (Nat.le_of_ble_eq_true rfl) ?_
  intro p e s m args below meth c hx hb hr hml hts hown hlocks hno hsz hP hK hD hE hT ls hl
  subst hsz
  have hl : lv_has ls 2 [(0, .ref (x 0)), (1, .int xx)] := hl
  refine lv_iload_n hx hb dX4_setting_0 rfl (lv_at hl 1 rfl) ?_
  exact k_xoS (As := [.int xx]) (rest := []) (wc := []) ⟨hx, hb, hml, hown, hts⟩ (c_X4_requireSetting_b l hfl D cI cS cL _ xx hxx) lkX4_110 rfl rfl ⟨(Nat.le_of_ble_eq_true rfl), (Nat.le_of_ble_eq_true rfl)⟩ hK hE hT k_nilP (k_nilD (A := va_A (xH cS x a r lat cnt ++ (txW cI x z T ++ (stW cI a N v))) s.heap.size)) hno hlocks rfl hl.1 rfl (Nat.le_of_ble_eq_true rfl) dX4_setting_1 ⟨Nat.le_refl _, Nat.le_refl _⟩

abbrev rmX4_ifTested_1 : Room := { frames := 7, cells := 1, slots := 6, locals := 103 }
set_option maxHeartbeats 4000000 in
set_option maxRecDepth 100000 in
theorem c_X4_ifTested_1 (l : Launch) (hfl : l.stackTraces = false) (D : va_G) (cI cS cL : ClassId) (x a : Nat → Nat) (r : Nat → Nat → Nat) (lat cnt : Int32) (z : Int32) (T : Nat → Int32) (N : NN) (v : Nat → Int32) (sz : Nat) (xx yy : Int32) (hxx : ¬ (0 ≤ xx ∧ xx ≤ N 1 2 - 1)) : vx_Met l yX4_ifTested (wy_ yX4_ifTested cX4_ifTested 3 (some .int)) rmX4_ifTested_1 (kPx D (kTy cI cS cL) (xH cS x a r lat cnt ++ (txW cI x z T ++ (stW cI a N v))) sz [.ref (x 0), .int xx, .int yy]) kQx (kXe eB) 1 6 noF := by
  refine k_xofW (by decide) (Nat.le_of_ble_eq_true rfl) ?_
  intro p e s m args below meth c hx hb hr hml hts hown hlocks hno hsz hP hK hD hE hT ls hl
  subst hsz
  have hl : lv_has ls 3 [(0, .ref (x 0)), (1, .int xx), (2, .int yy)] := hl
  refine lv_aload_n hx hb dX4_ifTested_0 rfl (lv_at hl 0 rfl) ?_
  refine lv_iload_n hx hb dX4_ifTested_1 rfl (lv_at hl 1 rfl) ?_
  exact k_xoV (As := [.int xx]) (rest := []) (wc := xH cS x a r lat cnt ++ (txW cI x z T ++ (stW cI a N v))) ⟨hx, hb, hml, hown, hts⟩ (c_X4_requireHose_b l hfl D cI cS cL x a r lat cnt z T N v _ xx hxx) lkX4_61 rfl rfl ⟨(Nat.le_of_ble_eq_true rfl), (Nat.le_of_ble_eq_true rfl)⟩ (va_recv hK hP (ci := 3) (q0 := 0) rfl rfl) hK hE hT hP hD hno hlocks rfl hl.1 rfl (Nat.le_of_ble_eq_true rfl) dX4_ifTested_2 ⟨Nat.le_refl _, Nat.le_refl _⟩

abbrev rmX4_ifTested_2 : Room := { frames := 7, cells := 1, slots := 6, locals := 102 }
set_option maxHeartbeats 4000000 in
set_option maxRecDepth 100000 in
theorem c_X4_ifTested_2 (l : Launch) (hfl : l.stackTraces = false) (D : va_G) (cI cS cL : ClassId) (x a : Nat → Nat) (r : Nat → Nat → Nat) (lat cnt : Int32) (z : Int32) (T : Nat → Int32) (N : NN) (v : Nat → Int32) (sz : Nat) (n : Nat) (hn : N 1 2 = nI n) (hn14 : n ≤ 14) (k : Nat) (yy : Int32) (hkn : k < n) (hw : ¬ (4 ≤ yy ∧ yy ≤ 24)) : vx_Met l yX4_ifTested (wy_ yX4_ifTested cX4_ifTested 3 (some .int)) rmX4_ifTested_2 (kPx D (kTy cI cS cL) (xH cS x a r lat cnt ++ (txW cI x z T ++ (stW cI a N v))) sz [.ref (x 0), .int (nI k), .int yy]) kQx (kXe eA) 1 6 noF := by
  refine k_xofW (by decide) (Nat.le_of_ble_eq_true rfl) ?_
  intro p e s m args below meth c hx hb hr hml hts hown hlocks hno hsz hP hK hD hE hT ls hl
  subst hsz
  have hl : lv_has ls 3 [(0, .ref (x 0)), (1, .int (nI k)), (2, .int yy)] := hl
  refine lv_aload_n hx hb dX4_ifTested_0 rfl (lv_at hl 0 rfl) ?_
  refine lv_iload_n hx hb dX4_ifTested_1 rfl (lv_at hl 1 rfl) ?_
  refine k_rvV (As := [.int (nI k)]) (rest := []) (wc := xH cS x a r lat cnt ++ (txW cI x z T ++ (stW cI a N v))) ⟨hx, hb, hml, hown, hts⟩ (c_X4_requireHose_g l D cI cS cL x a r lat cnt z T N v _ (nI k) (is_hose hn hn14 hkn)) lkX4_61 rfl rfl ⟨(Nat.le_of_ble_eq_true rfl), (Nat.le_of_ble_eq_true rfl)⟩ (va_recv hK hP (ci := 3) (q0 := 0) rfl rfl) hK hE hP hD rfl hl.1 rfl (Nat.le_of_ble_eq_true rfl) dX4_ifTested_2 ⟨Nat.zero_le _, Nat.zero_le _⟩ ?_
  refine lv_iload_n hx hb dX4_ifTested_5 rfl (lv_at hl 2 rfl) ?_
  exact k_xoS (As := [.int yy]) (rest := []) (wc := []) ⟨hx, hb, hml, hown, hts⟩ (c_X4_requirePressure_b l hfl D cI cS cL _ yy hw) lkX4_96 rfl rfl ⟨(Nat.le_of_ble_eq_true rfl), (Nat.le_of_ble_eq_true rfl)⟩ hK hE hT k_nilP (k_nilD (A := va_A (xH cS x a r lat cnt ++ (txW cI x z T ++ (stW cI a N v))) s.heap.size)) hno hlocks rfl hl.1 rfl (Nat.le_of_ble_eq_true rfl) dX4_ifTested_6 ⟨Nat.le_refl _, Nat.le_refl _⟩

abbrev rmX4_safe_1 : Room := { frames := 7, cells := 1, slots := 6, locals := 103 }
set_option maxHeartbeats 4000000 in
set_option maxRecDepth 100000 in
theorem c_X4_safe_1 (l : Launch) (hfl : l.stackTraces = false) (D : va_G) (cI cS cL : ClassId) (x a : Nat → Nat) (r : Nat → Nat → Nat) (lat cnt : Int32) (z : Int32) (T : Nat → Int32) (N : NN) (v : Nat → Int32) (sz : Nat) (xx : Int32) (hxx : ¬ (0 ≤ xx ∧ xx ≤ N 1 2 - 1)) : vx_Met l yX4_safe (wy_ yX4_safe cX4_safe 2 (some .int)) rmX4_safe_1 (kPx D (kTy cI cS cL) (xH cS x a r lat cnt ++ (txW cI x z T ++ (stW cI a N v))) sz [.ref (x 0), .int xx]) kQx (kXe eB) 1 6 noF := by
  refine k_xofW (by decide) (Nat.le_of_ble_eq_true rfl) ?_
  intro p e s m args below meth c hx hb hr hml hts hown hlocks hno hsz hP hK hD hE hT ls hl
  subst hsz
  have hl : lv_has ls 2 [(0, .ref (x 0)), (1, .int xx)] := hl
  refine lv_aload_n hx hb dX4_safe_0 rfl (lv_at hl 0 rfl) ?_
  refine lv_iload_n hx hb dX4_safe_1 rfl (lv_at hl 1 rfl) ?_
  exact k_xoV (As := [.int xx]) (rest := []) (wc := xH cS x a r lat cnt ++ (txW cI x z T ++ (stW cI a N v))) ⟨hx, hb, hml, hown, hts⟩ (c_X4_requireHose_b l hfl D cI cS cL x a r lat cnt z T N v _ xx hxx) lkX4_61 rfl rfl ⟨(Nat.le_of_ble_eq_true rfl), (Nat.le_of_ble_eq_true rfl)⟩ (va_recv hK hP (ci := 3) (q0 := 0) rfl rfl) hK hE hT hP hD hno hlocks rfl hl.1 rfl (Nat.le_of_ble_eq_true rfl) dX4_safe_2 ⟨Nat.le_refl _, Nat.le_refl _⟩

abbrev rmX4_helps_1 : Room := { frames := 7, cells := 1, slots := 6, locals := 102 }
set_option maxHeartbeats 4000000 in
set_option maxRecDepth 100000 in
theorem c_X4_helps_1 (l : Launch) (hfl : l.stackTraces = false) (D : va_G) (cI cS cL : ClassId) (x a : Nat → Nat) (r : Nat → Nat → Nat) (lat cnt : Int32) (z : Int32) (T : Nat → Int32) (N : NN) (v : Nat → Int32) (sz : Nat) (xx : Int32) (hxx : ¬ (0 ≤ xx ∧ xx ≤ 2)) : vx_Met l yX4_helps (wy_ yX4_helps cX4_helps 2 (some .int)) rmX4_helps_1 (kPx D (kTy cI cS cL) (xH cS x a r lat cnt ++ (txW cI x z T ++ (stW cI a N v))) sz [.ref (x 0), .int xx]) kQx (kXe eB) 1 6 noF := by
  refine k_xofW (by decide) (Nat.le_of_ble_eq_true rfl) ?_
  intro p e s m args below meth c hx hb hr hml hts hown hlocks hno hsz hP hK hD hE hT ls hl
  subst hsz
  have hl : lv_has ls 2 [(0, .ref (x 0)), (1, .int xx)] := hl
  refine lv_iload_n hx hb dX4_helps_0 rfl (lv_at hl 1 rfl) ?_
  exact k_xoS (As := [.int xx]) (rest := []) (wc := []) ⟨hx, hb, hml, hown, hts⟩ (c_X4_requireTruck_b l hfl D cI cS cL _ xx hxx) lkX4_102 rfl rfl ⟨(Nat.le_of_ble_eq_true rfl), (Nat.le_of_ble_eq_true rfl)⟩ hK hE hT k_nilP (k_nilD (A := va_A (xH cS x a r lat cnt ++ (txW cI x z T ++ (stW cI a N v))) s.heap.size)) hno hlocks rfl hl.1 rfl (Nat.le_of_ble_eq_true rfl) dX4_helps_1 ⟨Nat.le_refl _, Nat.le_refl _⟩
