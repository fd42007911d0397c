abbrev rmX4_buy_2 : Room := { frames := 6, cells := 1, slots := 6, locals := 82 }
set_option maxHeartbeats 4000000 in
set_option maxRecDepth 100000 in
theorem c_X4_buy_2 (l : Launch) (hfl : l.stackTraces = false) (D : va_G) (cI cS cL : ClassId) (x a : Nat → Nat) (r : Nat → Nat → Nat) (lat cnt : Int32) (z : Int32) (T : Nat → Int32) (N : NN) (v : Nat → Int32) (sz : Nat) (kd ln cp : Int32) (hok : (0 ≤ kd ∧ kd ≤ 2) ∧ (5 ≤ ln ∧ ln ≤ 50) ∧ (0 ≤ cp ∧ cp ≤ 2)) (hcan : p_can N kd ln = false) : vx_Met l yX4_buy (wy_ yX4_buy cX4_buy 4 (some .int)) rmX4_buy_2 (kPx D (kTy cI cS cL) (xH cS x a r lat cnt ++ (txW cI x z T ++ (stW cI a N v))) sz [.ref (x 0), .int kd, .int ln, .int cp]) kQx (kXe eS) 1 6 noF := by
  refine k_xofW (by decide) (Nat.le_of_ble_eq_true rfl) ?_
  intro p e s m args below meth c hx hb hr hml hts hown hlocks hno hsz hP hK hD hE hT ls hl
  subst hsz
  have hl : lv_has ls 4 [(0, .ref (x 0)), (1, .int kd), (2, .int ln), (3, .int cp)] := hl
  refine lv_iload_n hx hb dX4_buy_0 rfl (lv_at hl 1 rfl) ?_
  refine lv_iconst (v := 0) hx hb dX4_buy_1 (by decide) ?_
  refine lv_iconst (v := 2) hx hb dX4_buy_2 (by decide) ?_
  refine k_riS (As := [.int kd, .int 0, .int 2]) (rest := []) (wc := []) ⟨hx, hb, hml, hown, hts⟩ (c_X4_isWithin l D cI cS cL _ kd 0 2) lkX4_34 rfl rfl ⟨(Nat.le_of_ble_eq_true rfl), (Nat.le_of_ble_eq_true rfl)⟩ hK hE k_nilP (k_nilD (A := va_A (xH cS x a r lat cnt ++ (txW cI x z T ++ (stW cI a N v))) s.heap.size)) rfl hl.1 rfl (Nat.le_of_ble_eq_true rfl) dX4_buy_3 ⟨Nat.zero_le _, Nat.zero_le _⟩ ?_
  refine lv_if_eq (tgt := 28) hx hb dX4_buy_6 (by decide) (fun c1 => ?_) (fun c1 => ?_)
  · have c1 := bI_eq0 c1
    exact absurd hok.1 c1
  · have c1 := bI_ne0 c1
    refine lv_iload_n hx hb dX4_buy_9 rfl (lv_at hl 2 rfl) ?_
    refine lv_iconst (v := 5) hx hb dX4_buy_10 (by decide) ?_
    refine lv_bipush (v := 50) hx hb dX4_buy_11 (by decide) ?_
    refine k_riS (As := [.int ln, .int 5, .int 50]) (rest := []) (wc := []) ⟨hx, hb, hml, hown, hts⟩ (c_X4_isWithin l D cI cS cL _ ln 5 50) lkX4_34 rfl rfl ⟨(Nat.le_of_ble_eq_true rfl), (Nat.le_of_ble_eq_true rfl)⟩ hK hE k_nilP (k_nilD (A := va_A (xH cS x a r lat cnt ++ (txW cI x z T ++ (stW cI a N v))) s.heap.size)) rfl hl.1 rfl (Nat.le_of_ble_eq_true rfl) dX4_buy_13 ⟨Nat.zero_le _, Nat.zero_le _⟩ ?_
    refine lv_if_eq (tgt := 28) hx hb dX4_buy_16 (by decide) (fun c2 => ?_) (fun c2 => ?_)
    · have c2 := bI_eq0 c2
      exact absurd hok.2.1 c2
    · have c2 := bI_ne0 c2
      refine lv_iload_n hx hb dX4_buy_19 rfl (lv_at hl 3 rfl) ?_
      refine lv_iconst (v := 0) hx hb dX4_buy_20 (by decide) ?_
      refine lv_iconst (v := 2) hx hb dX4_buy_21 (by decide) ?_
      refine k_riS (As := [.int cp, .int 0, .int 2]) (rest := []) (wc := []) ⟨hx, hb, hml, hown, hts⟩ (c_X4_isWithin l D cI cS cL _ cp 0 2) lkX4_34 rfl rfl ⟨(Nat.le_of_ble_eq_true rfl), (Nat.le_of_ble_eq_true rfl)⟩ hK hE k_nilP (k_nilD (A := va_A (xH cS x a r lat cnt ++ (txW cI x z T ++ (stW cI a N v))) s.heap.size)) rfl hl.1 rfl (Nat.le_of_ble_eq_true rfl) dX4_buy_22 ⟨Nat.zero_le _, Nat.zero_le _⟩ ?_
      refine lv_if_ne (tgt := 38) hx hb dX4_buy_25 (by decide) (fun c3 => ?_) (fun c3 => ?_)
      · have c3 := bI_ne0 c3
        refine lv_aload_n hx hb dX4_buy_38 rfl (lv_at hl 0 rfl) ?_
        refine g4 hx hb hts hown hK hP 0 rfl 0 (by decide) flX4_10 (fun _ h => h) (v := .ref (a 0)) rfl dX4_buy_39 ?_
        refine lv_iload_n hx hb dX4_buy_42 rfl (lv_at hl 1 rfl) ?_
        refine lv_iload_n hx hb dX4_buy_43 rfl (lv_at hl 2 rfl) ?_
        refine k_riV (As := [.int kd, .int ln]) (rest := []) (wc := stW cI a N v) ⟨hx, hb, hml, hown, hts⟩ (c_X3_canBuy l D cI cS cL a N v _ kd ln) lkX4_45 rfl rfl ⟨(Nat.le_of_ble_eq_true rfl), (Nat.le_of_ble_eq_true rfl)⟩ (va_recv hK hP (ci := 2) (q0 := 4) rfl rfl) hK hE (va_P_midL (w1 := xH cS x a r lat cnt ++ (txW cI x z T)) (wc := stW cI a N v) (w3 := []) hP) (va_D_midL (w1 := xH cS x a r lat cnt ++ (txW cI x z T)) (wc := stW cI a N v) (w3 := []) hD) rfl hl.1 rfl (Nat.le_of_ble_eq_true rfl) dX4_buy_44 ⟨Nat.zero_le _, Nat.zero_le _⟩ ?_
        refine lv_if_ne (tgt := 60) hx hb dX4_buy_47 (by decide) (fun c4 => ?_) (fun c4 => ?_)
        · have c4 := bI_neT c4
          exact Bool.noConfusion (hcan.symm.trans c4)
        · have c4 := bI_eqF c4
          exact k_xtS (is := 51) hx hb hfl hts hown hE hT (hl.1.trans hml.symm) hno hlocks (List.mem_of_getElem? (i := 1) rfl) dX4_buy_50 dX4_buy_53 dX4_buy_54 dX4_buy_56 dX4_buy_59 ⟨(Nat.le_of_ble_eq_true rfl), (Nat.le_of_ble_eq_true rfl), Nat.le_refl _, Nat.le_refl _⟩
      · have c3 := bI_eq0 c3
        exact absurd hok.2.2 c3

abbrev rmX4_renew_2 : Room := { frames := 7, cells := 1, slots := 6, locals := 103 }
set_option maxHeartbeats 4000000 in
set_option maxRecDepth 100000 in
theorem c_X4_renew_2 (l : Launch) (hfl : l.stackTraces = false) (D : va_G) (cI cS cL : ClassId) (x a : Nat → Nat) (r : Nat → Nat → Nat) (lat cnt : Int32) (z : Int32) (T : Nat → Int32) (N : NN) (v : Nat → Int32) (sz : Nat) (n : Nat) (hn : N 1 2 = nI n) (hn14 : n ≤ 14) (k : Nat) (hkn : k < n) (h14 : N 9 k = -1 ∨ N 9 k = 4) : vx_Met l yX4_renew (wy_ yX4_renew cX4_renew 2 (some .int)) rmX4_renew_2 (kPx D (kTy cI cS cL) (xH cS x a r lat cnt ++ (txW cI x z T ++ (stW cI a N v))) sz [.ref (x 0), .int (nI k)]) kQx (kXe eS) 1 6 noF := by
  refine k_xofW (by decide) (Nat.le_of_ble_eq_true rfl) ?_
  intro p e s m args below meth c hx hb hr hml hts hown hlocks hno hsz hP hK hD hE hT ls hl
  subst hsz
  have hl : lv_has ls 2 [(0, .ref (x 0)), (1, .int (nI k))] := hl
  refine lv_aload_n hx hb dX4_renew_0 rfl (lv_at hl 0 rfl) ?_
  refine lv_iload_n hx hb dX4_renew_1 rfl (lv_at hl 1 rfl) ?_
  refine k_rvV (As := [.int (nI k)]) (rest := []) (wc := xH cS x a r lat cnt ++ (txW cI x z T ++ (stW cI a N v))) ⟨hx, hb, hml, hown, hts⟩ (c_X4_requireHose_g l D cI cS cL x a r lat cnt z T N v _ (nI k) (is_hose hn hn14 hkn)) lkX4_61 rfl rfl ⟨(Nat.le_of_ble_eq_true rfl), (Nat.le_of_ble_eq_true rfl)⟩ (va_recv hK hP (ci := 3) (q0 := 0) rfl rfl) hK hE hP hD rfl hl.1 rfl (Nat.le_of_ble_eq_true rfl) dX4_renew_2 ⟨Nat.zero_le _, Nat.zero_le _⟩ ?_
  refine lv_aload_n hx hb dX4_renew_5 rfl (lv_at hl 0 rfl) ?_
  refine lv_iload_n hx hb dX4_renew_6 rfl (lv_at hl 1 rfl) ?_
  exact k_xoV (As := [.int (nI k)]) (rest := []) (wc := xH cS x a r lat cnt ++ (txW cI x z T ++ (stW cI a N v))) ⟨hx, hb, hml, hown, hts⟩ (c_X4_requireAtHand_b l hfl D cI cS cL x a r lat cnt z T N v _ k (by omega) h14) lkX4_65 rfl rfl ⟨(Nat.le_of_ble_eq_true rfl), (Nat.le_of_ble_eq_true rfl)⟩ (va_recv hK hP (ci := 3) (q0 := 0) rfl rfl) hK hE hT hP hD hno hlocks rfl hl.1 rfl (Nat.le_of_ble_eq_true rfl) dX4_renew_7 ⟨Nat.le_refl _, Nat.le_refl _⟩

abbrev rmX4_renew_3 : Room := { frames := 6, cells := 1, slots := 6, locals := 82 }
set_option maxHeartbeats 4000000 in
set_option maxRecDepth 100000 in
theorem c_X4_renew_3 (l : Launch) (hfl : l.stackTraces = false) (D : va_G) (cI cS cL : ClassId) (x a : Nat → Nat) (r : Nat → Nat → Nat) (lat cnt : Int32) (z : Int32) (T : Nat → Int32) (N : NN) (v : Nat → Int32) (sz : Nat) (n : Nat) (hn : N 1 2 = nI n) (hn14 : n ≤ 14) (k : Nat) (hkn : k < n) (h1 : ¬ N 9 k = -1) (h4 : ¬ N 9 k = 4) (hcan : p_can N (N 3 k) (N 4 k) = false) : vx_Met l yX4_renew (wy_ yX4_renew cX4_renew 2 (some .int)) rmX4_renew_3 (kPx D (kTy cI cS cL) (xH cS x a r lat cnt ++ (txW cI x z T ++ (stW cI a N v))) sz [.ref (x 0), .int (nI k)]) kQx (kXe eS) 1 6 noF := by
  refine k_xofW (by decide) (Nat.le_of_ble_eq_true rfl) ?_
  intro p e s m args below meth c hx hb hr hml hts hown hlocks hno hsz hP hK hD hE hT ls hl
  subst hsz
  have hl : lv_has ls 2 [(0, .ref (x 0)), (1, .int (nI k))] := hl
  refine lv_aload_n hx hb dX4_renew_0 rfl (lv_at hl 0 rfl) ?_
  refine lv_iload_n hx hb dX4_renew_1 rfl (lv_at hl 1 rfl) ?_
  refine k_rvV (As := [.int (nI k)]) (rest := []) (wc := xH cS x a r lat cnt ++ (txW cI x z T ++ (stW cI a N v))) ⟨hx, hb, hml, hown, hts⟩ (c_X4_requireHose_g l D cI cS cL x a r lat cnt z T N v _ (nI k) (is_hose hn hn14 hkn)) lkX4_61 rfl rfl ⟨(Nat.le_of_ble_eq_true rfl), (Nat.le_of_ble_eq_true rfl)⟩ (va_recv hK hP (ci := 3) (q0 := 0) rfl rfl) hK hE hP hD rfl hl.1 rfl (Nat.le_of_ble_eq_true rfl) dX4_renew_2 ⟨Nat.zero_le _, Nat.zero_le _⟩ ?_
  refine lv_aload_n hx hb dX4_renew_5 rfl (lv_at hl 0 rfl) ?_
  refine lv_iload_n hx hb dX4_renew_6 rfl (lv_at hl 1 rfl) ?_
  refine k_rvV (As := [.int (nI k)]) (rest := []) (wc := xH cS x a r lat cnt ++ (txW cI x z T ++ (stW cI a N v))) ⟨hx, hb, hml, hown, hts⟩ (c_X4_requireAtHand_g l D cI cS cL x a r lat cnt z T N v _ k (by omega) h1 h4) lkX4_65 rfl rfl ⟨(Nat.le_of_ble_eq_true rfl), (Nat.le_of_ble_eq_true rfl)⟩ (va_recv hK hP (ci := 3) (q0 := 0) rfl rfl) hK hE hP hD rfl hl.1 rfl (Nat.le_of_ble_eq_true rfl) dX4_renew_7 ⟨Nat.zero_le _, Nat.zero_le _⟩ ?_
  refine lv_aload_n hx hb dX4_renew_10 rfl (lv_at hl 0 rfl) ?_
  refine g4 hx hb hts hown hK hP 0 rfl 0 (by decide) flX4_10 (fun _ h => h) (v := .ref (a 0)) rfl dX4_renew_11 ?_
  refine lv_aload_n hx hb dX4_renew_14 rfl (lv_at hl 0 rfl) ?_
  refine g4 hx hb hts hown hK hP 0 rfl 0 (by decide) flX4_10 (fun _ h => h) (v := .ref (a 0)) rfl dX4_renew_15 ?_
  refine g3 hx hb hts hown hK hP 4 rfl 8 (by decide) flX4_68 (fun _ h => h) (v := .ref (a 3)) rfl dX4_renew_18 ?_
  refine lv_iload_n hx hb dX4_renew_21 rfl (lv_at hl 1 rfl) ?_
  refine k_ald (k := k) hx hb hK hP 7 0 rfl rfl rfl (by omega) (by decide) dX4_renew_22 ?_
  refine lv_aload_n hx hb dX4_renew_23 rfl (lv_at hl 0 rfl) ?_
  refine g4 hx hb hts hown hK hP 0 rfl 0 (by decide) flX4_10 (fun _ h => h) (v := .ref (a 0)) rfl dX4_renew_24 ?_
  refine g3 hx hb hts hown hK hP 4 rfl 9 (by decide) flX4_72 (fun _ h => h) (v := .ref (a 4)) rfl dX4_renew_27 ?_
  refine lv_iload_n hx hb dX4_renew_30 rfl (lv_at hl 1 rfl) ?_
  refine k_ald (k := k) hx hb hK hP 8 0 rfl rfl rfl (by omega) (by decide) dX4_renew_31 ?_
  refine k_riV (As := [.int (N 3 k), .int (N 4 k)]) (rest := []) (wc := stW cI a N v) ⟨hx, hb, hml, hown, hts⟩ (c_X3_canBuy l D cI cS cL a N v _ (N 3 k) (N 4 k)) lkX4_45 rfl rfl ⟨(Nat.le_of_ble_eq_true rfl), (Nat.le_of_ble_eq_true rfl)⟩ (va_recv hK hP (ci := 2) (q0 := 4) rfl rfl) hK hE (va_P_midL (w1 := xH cS x a r lat cnt ++ (txW cI x z T)) (wc := stW cI a N v) (w3 := []) hP) (va_D_midL (w1 := xH cS x a r lat cnt ++ (txW cI x z T)) (wc := stW cI a N v) (w3 := []) hD) rfl hl.1 rfl (Nat.le_of_ble_eq_true rfl) dX4_renew_32 ⟨Nat.zero_le _, Nat.zero_le _⟩ ?_
  refine lv_if_ne (tgt := 48) hx hb dX4_renew_35 (by decide) (fun c1 => ?_) (fun c1 => ?_)
  · have c1 := bI_neT c1
    exact Bool.noConfusion (hcan.symm.trans c1)
  · have c1 := bI_eqF c1
    exact k_xtS (is := 51) hx hb hfl hts hown hE hT (hl.1.trans hml.symm) hno hlocks (List.mem_of_getElem? (i := 1) rfl) dX4_renew_38 dX4_renew_41 dX4_renew_42 dX4_renew_44 dX4_renew_47 ⟨(Nat.le_of_ble_eq_true rfl), (Nat.le_of_ble_eq_true rfl), Nat.le_refl _, Nat.le_refl _⟩

abbrev rmX4_put_3 : Room := { frames := 7, cells := 1, slots := 6, locals := 103 }
set_option maxHeartbeats 4000000 in
set_option maxRecDepth 100000 in
theorem c_X4_put_3 (l : Launch) (hfl : l.stackTraces = false) (D : va_G) (cI cS cL : ClassId) (x a : Nat → Nat) (r : Nat → Nat → Nat) (lat cnt : Int32) (z : Int32) (T : Nat → Int32) (N : NN) (v : Nat → Int32) (sz : Nat) (n : Nat) (hn : N 1 2 = nI n) (hn14 : n ≤ 14) (k : Nat) (yy : Int32) (hkn : k < n) (hpl : 0 ≤ yy ∧ yy ≤ 3) (h14 : N 9 k = -1 ∨ N 9 k = 4) : vx_Met l yX4_put (wy_ yX4_put cX4_put 4 (some .int)) rmX4_put_3 (kPx D (kTy cI cS cL) (xH cS x a r lat cnt ++ (txW cI x z T ++ (stW cI a N v))) sz [.ref (x 0), .int (nI k), .int yy]) kQx (kXe eS) 1 6 noF := by
  refine k_xofW (by decide) (Nat.le_of_ble_eq_true rfl) ?_
  intro p e s m args below meth c hx hb hr hml hts hown hlocks hno hsz hP hK hD hE hT ls hl
  subst hsz
  have hl : lv_has ls 4 [(0, .ref (x 0)), (1, .int (nI k)), (2, .int yy)] := hl
  refine lv_aload_n hx hb dX4_put_0 rfl (lv_at hl 0 rfl) ?_
  refine lv_iload_n hx hb dX4_put_1 rfl (lv_at hl 1 rfl) ?_
  refine k_rvV (As := [.int (nI k)]) (rest := []) (wc := xH cS x a r lat cnt ++ (txW cI x z T ++ (stW cI a N v))) ⟨hx, hb, hml, hown, hts⟩ (c_X4_requireHose_g l D cI cS cL x a r lat cnt z T N v _ (nI k) (is_hose hn hn14 hkn)) lkX4_61 rfl rfl ⟨(Nat.le_of_ble_eq_true rfl), (Nat.le_of_ble_eq_true rfl)⟩ (va_recv hK hP (ci := 3) (q0 := 0) rfl rfl) hK hE hP hD rfl hl.1 rfl (Nat.le_of_ble_eq_true rfl) dX4_put_2 ⟨Nat.zero_le _, Nat.zero_le _⟩ ?_
  refine lv_iload_n hx hb dX4_put_5 rfl (lv_at hl 2 rfl) ?_
  refine lv_iconst (v := 0) hx hb dX4_put_6 (by decide) ?_
  refine lv_iconst (v := 3) hx hb dX4_put_7 (by decide) ?_
  refine k_riS (As := [.int yy, .int 0, .int 3]) (rest := []) (wc := []) ⟨hx, hb, hml, hown, hts⟩ (c_X4_isWithin l D cI cS cL _ yy 0 3) lkX4_34 rfl rfl ⟨(Nat.le_of_ble_eq_true rfl), (Nat.le_of_ble_eq_true rfl)⟩ hK hE k_nilP (k_nilD (A := va_A (xH cS x a r lat cnt ++ (txW cI x z T ++ (stW cI a N v))) s.heap.size)) rfl hl.1 rfl (Nat.le_of_ble_eq_true rfl) dX4_put_8 ⟨Nat.zero_le _, Nat.zero_le _⟩ ?_
  refine lv_if_ne (tgt := 24) hx hb dX4_put_11 (by decide) (fun c1 => ?_) (fun c1 => ?_)
  · have c1 := bI_ne0 c1
    refine lv_aload_n hx hb dX4_put_24 rfl (lv_at hl 0 rfl) ?_
    refine lv_iload_n hx hb dX4_put_25 rfl (lv_at hl 1 rfl) ?_
    exact k_xoV (As := [.int (nI k)]) (rest := []) (wc := xH cS x a r lat cnt ++ (txW cI x z T ++ (stW cI a N v))) ⟨hx, hb, hml, hown, hts⟩ (c_X4_requireAtHand_b l hfl D cI cS cL x a r lat cnt z T N v _ k (by omega) h14) lkX4_65 rfl rfl ⟨(Nat.le_of_ble_eq_true rfl), (Nat.le_of_ble_eq_true rfl)⟩ (va_recv hK hP (ci := 3) (q0 := 0) rfl rfl) hK hE hT hP hD hno hlocks rfl hl.1 rfl (Nat.le_of_ble_eq_true rfl) dX4_put_26 ⟨Nat.le_refl _, Nat.le_refl _⟩
  · have c1 := bI_eq0 c1
    exact absurd hpl c1

abbrev rmX4_lend_3 : Room := { frames := 6, cells := 1, slots := 6, locals := 82 }
set_option maxHeartbeats 4000000 in
set_option maxRecDepth 100000 in
theorem c_X4_lend_3 (l : Launch) (hfl : l.stackTraces = false) (D : va_G) (cI cS cL : ClassId) (x a : Nat → Nat) (r : Nat → Nat → Nat) (lat cnt : Int32) (z : Int32) (T : Nat → Int32) (N : NN) (v : Nat → Int32) (sz : Nat) (n : Nat) (hn : N 1 2 = nI n) (hn14 : n ≤ 14) (k : Nat) (yy : Int32) (hkn : k < n) (hdd : 1 ≤ yy ∧ yy ≤ 99) (hrd : ¬ p_reason N k = 0) : vx_Met l yX4_lend (wy_ yX4_lend cX4_lend 3 (some .int)) rmX4_lend_3 (kPx D (kTy cI cS cL) (xH cS x a r lat cnt ++ (txW cI x z T ++ (stW cI a N v))) sz [.ref (x 0), .int (nI k), .int yy]) kQx (kXe eS) 1 6 noF := by
  refine k_xofW (by decide) (Nat.le_of_ble_eq_true rfl) ?_
  intro p e s m args below meth c hx hb hr hml hts hown hlocks hno hsz hP hK hD hE hT ls hl
  subst hsz
  have hl : lv_has ls 3 [(0, .ref (x 0)), (1, .int (nI k)), (2, .int yy)] := hl
  refine lv_aload_n hx hb dX4_lend_0 rfl (lv_at hl 0 rfl) ?_
  refine lv_iload_n hx hb dX4_lend_1 rfl (lv_at hl 1 rfl) ?_
  refine k_rvV (As := [.int (nI k)]) (rest := []) (wc := xH cS x a r lat cnt ++ (txW cI x z T ++ (stW cI a N v))) ⟨hx, hb, hml, hown, hts⟩ (c_X4_requireHose_g l D cI cS cL x a r lat cnt z T N v _ (nI k) (is_hose hn hn14 hkn)) lkX4_61 rfl rfl ⟨(Nat.le_of_ble_eq_true rfl), (Nat.le_of_ble_eq_true rfl)⟩ (va_recv hK hP (ci := 3) (q0 := 0) rfl rfl) hK hE hP hD rfl hl.1 rfl (Nat.le_of_ble_eq_true rfl) dX4_lend_2 ⟨Nat.zero_le _, Nat.zero_le _⟩ ?_
  refine lv_iload_n hx hb dX4_lend_5 rfl (lv_at hl 2 rfl) ?_
  refine lv_iconst (v := 1) hx hb dX4_lend_6 (by decide) ?_
  refine lv_bipush (v := 99) hx hb dX4_lend_7 (by decide) ?_
  refine k_riS (As := [.int yy, .int 1, .int 99]) (rest := []) (wc := []) ⟨hx, hb, hml, hown, hts⟩ (c_X4_isWithin l D cI cS cL _ yy 1 99) lkX4_34 rfl rfl ⟨(Nat.le_of_ble_eq_true rfl), (Nat.le_of_ble_eq_true rfl)⟩ hK hE k_nilP (k_nilD (A := va_A (xH cS x a r lat cnt ++ (txW cI x z T ++ (stW cI a N v))) s.heap.size)) rfl hl.1 rfl (Nat.le_of_ble_eq_true rfl) dX4_lend_9 ⟨Nat.zero_le _, Nat.zero_le _⟩ ?_
  refine lv_if_ne (tgt := 25) hx hb dX4_lend_12 (by decide) (fun c1 => ?_) (fun c1 => ?_)
  · have c1 := bI_ne0 c1
    refine lv_aload_n hx hb dX4_lend_25 rfl (lv_at hl 0 rfl) ?_
    refine g4 hx hb hts hown hK hP 0 rfl 0 (by decide) flX4_10 (fun _ h => h) (v := .ref (a 0)) rfl dX4_lend_26 ?_
    refine lv_iload_n hx hb dX4_lend_29 rfl (lv_at hl 1 rfl) ?_
    refine k_riV (As := [.int (nI k)]) (rest := []) (wc := stW cI a N v) ⟨hx, hb, hml, hown, hts⟩ (c_X3_isReady l D cI cS cL a N v _ k (by omega)) lkX4_86 rfl rfl ⟨(Nat.le_of_ble_eq_true rfl), (Nat.le_of_ble_eq_true rfl)⟩ (va_recv hK hP (ci := 2) (q0 := 4) rfl rfl) hK hE (va_P_midL (w1 := xH cS x a r lat cnt ++ (txW cI x z T)) (wc := stW cI a N v) (w3 := []) hP) (va_D_midL (w1 := xH cS x a r lat cnt ++ (txW cI x z T)) (wc := stW cI a N v) (w3 := []) hD) rfl hl.1 rfl (Nat.le_of_ble_eq_true rfl) dX4_lend_30 ⟨Nat.zero_le _, Nat.zero_le _⟩ ?_
    refine lv_if_ne (tgt := 46) hx hb dX4_lend_33 (by decide) (fun c2 => ?_) (fun c2 => ?_)
    · have c2 := bI_ne0 c2
      exact absurd c2 hrd
    · have c2 := bI_eq0 c2
      exact k_xtS (is := 90) hx hb hfl hts hown hE hT (hl.1.trans hml.symm) hno hlocks (List.mem_of_getElem? (i := 4) rfl) dX4_lend_36 dX4_lend_39 dX4_lend_40 dX4_lend_42 dX4_lend_45 ⟨(Nat.le_of_ble_eq_true rfl), (Nat.le_of_ble_eq_true rfl), Nat.le_refl _, Nat.le_refl _⟩
  · have c1 := bI_eq0 c1
    exact absurd hdd c1

abbrev rmX4_test_3 : Room := { frames := 7, cells := 1, slots := 6, locals := 103 }
set_option maxHeartbeats 4000000 in
set_option maxRecDepth 100000 in
theorem c_X4_test_3 (l : Launch) (hfl : l.stackTraces = false) (D : va_G) (cI cS cL : ClassId) (x a : Nat → Nat) (r : Nat → Nat → Nat) (lat cnt : Int32) (z : Int32) (T : Nat → Int32) (N : NN) (v : Nat → Int32) (sz : Nat) (n : Nat) (hn : N 1 2 = nI n) (hn14 : n ≤ 14) (k : Nat) (yy : Int32) (hkn : k < n) (hw : 4 ≤ yy ∧ yy ≤ 24) (h14 : N 9 k = -1 ∨ N 9 k = 4) : vx_Met l yX4_test (wy_ yX4_test cX4_test 3 (some .int)) rmX4_test_3 (kPx D (kTy cI cS cL) (xH cS x a r lat cnt ++ (txW cI x z T ++ (stW cI a N v))) sz [.ref (x 0), .int (nI k), .int yy]) kQx (kXe eS) 1 6 noF := by
  refine k_xofW (by decide) (Nat.le_of_ble_eq_true rfl) ?_
  intro p e s m args below meth c hx hb hr hml hts hown hlocks hno hsz hP hK hD hE hT ls hl
  subst hsz
  have hl : lv_has ls 3 [(0, .ref (x 0)), (1, .int (nI k)), (2, .int yy)] := hl
  refine lv_aload_n hx hb dX4_test_0 rfl (lv_at hl 0 rfl) ?_
  refine lv_iload_n hx hb dX4_test_1 rfl (lv_at hl 1 rfl) ?_
  refine k_rvV (As := [.int (nI k)]) (rest := []) (wc := xH cS x a r lat cnt ++ (txW cI x z T ++ (stW cI a N v))) ⟨hx, hb, hml, hown, hts⟩ (c_X4_requireHose_g l D cI cS cL x a r lat cnt z T N v _ (nI k) (is_hose hn hn14 hkn)) lkX4_61 rfl rfl ⟨(Nat.le_of_ble_eq_true rfl), (Nat.le_of_ble_eq_true rfl)⟩ (va_recv hK hP (ci := 3) (q0 := 0) rfl rfl) hK hE hP hD rfl hl.1 rfl (Nat.le_of_ble_eq_true rfl) dX4_test_2 ⟨Nat.zero_le _, Nat.zero_le _⟩ ?_
  refine lv_iload_n hx hb dX4_test_5 rfl (lv_at hl 2 rfl) ?_
  refine k_rvS (As := [.int yy]) (rest := []) (wc := []) ⟨hx, hb, hml, hown, hts⟩ (c_X4_requirePressure_g l D cI cS cL _ yy hw) lkX4_96 rfl rfl ⟨(Nat.le_of_ble_eq_true rfl), (Nat.le_of_ble_eq_true rfl)⟩ hK hE k_nilP (k_nilD (A := va_A (xH cS x a r lat cnt ++ (txW cI x z T ++ (stW cI a N v))) s.heap.size)) rfl hl.1 rfl (Nat.le_of_ble_eq_true rfl) dX4_test_6 ⟨Nat.zero_le _, Nat.zero_le _⟩ ?_
  refine lv_aload_n hx hb dX4_test_9 rfl (lv_at hl 0 rfl) ?_
  refine lv_iload_n hx hb dX4_test_10 rfl (lv_at hl 1 rfl) ?_
  exact k_xoV (As := [.int (nI k)]) (rest := []) (wc := xH cS x a r lat cnt ++ (txW cI x z T ++ (stW cI a N v))) ⟨hx, hb, hml, hown, hts⟩ (c_X4_requireAtHand_b l hfl D cI cS cL x a r lat cnt z T N v _ k (by omega) h14) lkX4_65 rfl rfl ⟨(Nat.le_of_ble_eq_true rfl), (Nat.le_of_ble_eq_true rfl)⟩ (va_recv hK hP (ci := 3) (q0 := 0) rfl rfl) hK hE hT hP hD hno hlocks rfl hl.1 rfl (Nat.le_of_ble_eq_true rfl) dX4_test_11 ⟨Nat.le_refl _, Nat.le_refl _⟩
