abbrev rmX4_requireHose_g : Room := { frames := 1, cells := 0, slots := 0, locals := 22 }
set_option maxHeartbeats 4000000 in
set_option maxRecDepth 100000 in
theorem c_X4_requireHose_g (l : Launch) (D : va_G) (cI cS cL : ClassId) (x a : Nat → Nat) (r : Nat → Nat → Nat) (lat cnt z : Int32) (T : Nat → Int32) (N : NN) (v : Nat → Int32) (sz : Nat) (xx : Int32) (hxx : 0 ≤ xx ∧ xx ≤ N 1 2 - 1) : Met l yX4_requireHose (wy_ yX4_requireHose cX4_requireHose 2 none) rmX4_requireHose_g (kPc D (kTy cI cS cL) (xH cS x a r lat cnt ++ (txW cI x z T ++ (stW cI a N v))) sz [.ref (x 0), .int xx]) kRv 0 0 noF := by
  refine k_ofW (by decide) (Nat.le_of_ble_eq_true rfl) ?_
  intro p e s m args below meth c hx hb hr hml hts hown hlocks hnm hsz hP hK hD hE ls hl
  subst hsz
  have hl : lv_has ls 2 [(0, .ref (x 0)), (1, .int xx)] := hl
  refine lv_iload_n hx hb dX4_requireHose_0 rfl (lv_at hl 1 rfl) ?_
  refine lv_iconst (v := 0) hx hb dX4_requireHose_1 (by decide) ?_
  refine lv_aload_n hx hb dX4_requireHose_2 rfl (lv_at hl 0 rfl) ?_
  refine g4 hx hb hts hown hK hP 0 rfl 0 (by decide) flX4_10 (fun _ h => h) (v := .ref (a 0)) rfl dX4_requireHose_3 ?_
  refine g3 hx hb hts hown hK hP 4 rfl 2 (by decide) flX4_216 (fun _ h => h) (v := .int (N 1 2)) rfl dX4_requireHose_6 ?_
  refine lv_iconst (v := 1) hx hb dX4_requireHose_9 (by decide) ?_
  refine lv_isub hx hb dX4_requireHose_10 (lv_topi (fun x1 e1 => ?_))
  have q1 : x1 = N 1 2 - 1 := by rw [e1]; skip
  subst q1
  refine k_riS (As := [.int xx, .int 0, .int (N 1 2 - 1)]) (rest := []) (wc := []) ⟨hx, hb, hml, hown, hts⟩ (c_X4_isWithin l D cI cS cL _ xx 0 (N 1 2 - 1)) lkX4_34 rfl rfl ⟨(Nat.le_of_ble_eq_true rfl), (Nat.le_of_ble_eq_true rfl)⟩ hK hE k_nilP (k_nilD (A := va_A (xH cS x a r lat cnt ++ (txW cI x z T ++ (stW cI a N v))) s.heap.size)) rfl hl.1 rfl (Nat.le_of_ble_eq_true rfl) dX4_requireHose_11 ⟨Nat.zero_le _, Nat.zero_le _⟩ ?_
  refine lv_if_ne (tgt := 28) hx hb dX4_requireHose_14 (by decide) (fun c2 => ?_) (fun c2 => ?_)
  · have c2 := bI_ne0 c2
    exact k_eRv hx hb hr hlocks dX4_requireHose_28
  · have c2 := bI_eq0 c2
    exact absurd hxx c2

abbrev rmX4_requireHose_b : Room := { frames := 6, cells := 1, slots := 6, locals := 82 }
set_option maxHeartbeats 4000000 in
set_option maxRecDepth 100000 in
theorem c_X4_requireHose_b (l : Launch) (hfl : l.stackTraces = false) (D : va_G) (cI cS cL : ClassId) (x a : Nat → Nat) (r : Nat → Nat → Nat) (lat cnt z : Int32) (T : Nat → Int32) (N : NN) (v : Nat → Int32) (sz : Nat) (xx : Int32) (hxx : ¬ (0 ≤ xx ∧ xx ≤ N 1 2 - 1)) : vx_Met l yX4_requireHose (wy_ yX4_requireHose cX4_requireHose 2 none) rmX4_requireHose_b (kPx D (kTy cI cS cL) (xH cS x a r lat cnt ++ (txW cI x z T ++ (stW cI a N v))) sz [.ref (x 0), .int xx]) kQxv (kXe eB) 1 6 noF := by
  refine k_xofW (by decide) (Nat.le_of_ble_eq_true rfl) ?_
  intro p e s m args below meth c hx hb hr hml hts hown hlocks hno hsz hP hK hD hE hT ls hl
  subst hsz
  have hl : lv_has ls 2 [(0, .ref (x 0)), (1, .int xx)] := hl
  refine lv_iload_n hx hb dX4_requireHose_0 rfl (lv_at hl 1 rfl) ?_
  refine lv_iconst (v := 0) hx hb dX4_requireHose_1 (by decide) ?_
  refine lv_aload_n hx hb dX4_requireHose_2 rfl (lv_at hl 0 rfl) ?_
  refine g4 hx hb hts hown hK hP 0 rfl 0 (by decide) flX4_10 (fun _ h => h) (v := .ref (a 0)) rfl dX4_requireHose_3 ?_
  refine g3 hx hb hts hown hK hP 4 rfl 2 (by decide) flX4_216 (fun _ h => h) (v := .int (N 1 2)) rfl dX4_requireHose_6 ?_
  refine lv_iconst (v := 1) hx hb dX4_requireHose_9 (by decide) ?_
  refine lv_isub hx hb dX4_requireHose_10 (lv_topi (fun x1 e1 => ?_))
  have q1 : x1 = N 1 2 - 1 := by rw [e1]; skip
  subst q1
  refine k_riS (As := [.int xx, .int 0, .int (N 1 2 - 1)]) (rest := []) (wc := []) ⟨hx, hb, hml, hown, hts⟩ (c_X4_isWithin l D cI cS cL _ xx 0 (N 1 2 - 1)) lkX4_34 rfl rfl ⟨(Nat.le_of_ble_eq_true rfl), (Nat.le_of_ble_eq_true rfl)⟩ hK hE k_nilP (k_nilD (A := va_A (xH cS x a r lat cnt ++ (txW cI x z T ++ (stW cI a N v))) s.heap.size)) rfl hl.1 rfl (Nat.le_of_ble_eq_true rfl) dX4_requireHose_11 ⟨Nat.zero_le _, Nat.zero_le _⟩ ?_
  refine lv_if_ne (tgt := 28) hx hb dX4_requireHose_14 (by decide) (fun c2 => ?_) (fun c2 => ?_)
  · have c2 := bI_ne0 c2
    exact absurd c2 hxx
  · have c2 := bI_eq0 c2
    exact k_xtBW (is := 289) hx hb hfl hts hown hE hT (hl.1.trans hml.symm) hno hlocks (List.mem_of_getElem? (i := 11) rfl) dX4_requireHose_17 dX4_requireHose_20 dX4_requireHose_21 dX4_requireHose_24 dX4_requireHose_27 ⟨(Nat.le_of_ble_eq_true rfl), (Nat.le_of_ble_eq_true rfl), Nat.le_refl _, Nat.le_refl _⟩

abbrev rmX4_requireAtHand_g : Room := { frames := 1, cells := 0, slots := 0, locals := 21 }
set_option maxHeartbeats 4000000 in
set_option maxRecDepth 100000 in
theorem c_X4_requireAtHand_g (l : Launch) (D : va_G) (cI cS cL : ClassId) (x a : Nat → Nat) (r : Nat → Nat → Nat) (lat cnt z : Int32) (T : Nat → Int32) (N : NN) (v : Nat → Int32) (sz : Nat) (k : Nat) (hk : k < 14) (h1 : ¬ N 9 k = -1) (h4 : ¬ N 9 k = 4) : Met l yX4_requireAtHand (wy_ yX4_requireAtHand cX4_requireAtHand 2 none) rmX4_requireAtHand_g (kPc D (kTy cI cS cL) (xH cS x a r lat cnt ++ (txW cI x z T ++ (stW cI a N v))) sz [.ref (x 0), .int (nI k)]) kRv 0 0 noF := by
  refine k_ofW (by decide) (Nat.le_of_ble_eq_true rfl) ?_
  intro p e s m args below meth c hx hb hr hml hts hown hlocks hnm hsz hP hK hD hE ls hl
  subst hsz
  have hl : lv_has ls 2 [(0, .ref (x 0)), (1, .int (nI k))] := hl
  refine lv_aload_n hx hb dX4_requireAtHand_0 rfl (lv_at hl 0 rfl) ?_
  refine g4 hx hb hts hown hK hP 0 rfl 0 (by decide) flX4_10 (fun _ h => h) (v := .ref (a 0)) rfl dX4_requireAtHand_1 ?_
  refine lv_iload_n hx hb dX4_requireAtHand_4 rfl (lv_at hl 1 rfl) ?_
  refine k_riV (As := [.int (nI k)]) (rest := []) (wc := stW cI a N v) ⟨hx, hb, hml, hown, hts⟩ (c_X3_isGone l D cI cS cL a N v _ k (by omega)) lkX4_234 rfl rfl ⟨(Nat.le_of_ble_eq_true rfl), (Nat.le_of_ble_eq_true rfl)⟩ (va_recv hK hP (ci := 2) (q0 := 4) rfl rfl) hK hE (va_P_midL (w1 := xH cS x a r lat cnt ++ (txW cI x z T)) (wc := stW cI a N v) (w3 := []) hP) (va_D_midL (w1 := xH cS x a r lat cnt ++ (txW cI x z T)) (wc := stW cI a N v) (w3 := []) hD) rfl hl.1 rfl (Nat.le_of_ble_eq_true rfl) dX4_requireAtHand_5 ⟨Nat.zero_le _, Nat.zero_le _⟩ ?_
  refine lv_if_ne (tgt := 22) hx hb dX4_requireAtHand_8 (by decide) (fun c1 => ?_) (fun c1 => ?_)
  · have c1 := bI_ne0 c1
    exact absurd c1 h1
  · have c1 := bI_eq0 c1
    refine lv_aload_n hx hb dX4_requireAtHand_11 rfl (lv_at hl 0 rfl) ?_
    refine g4 hx hb hts hown hK hP 0 rfl 0 (by decide) flX4_10 (fun _ h => h) (v := .ref (a 0)) rfl dX4_requireAtHand_12 ?_
    refine lv_iload_n hx hb dX4_requireAtHand_15 rfl (lv_at hl 1 rfl) ?_
    refine k_riV (As := [.int (nI k)]) (rest := []) (wc := stW cI a N v) ⟨hx, hb, hml, hown, hts⟩ (c_X3_isLent l D cI cS cL a N v _ k (by omega)) lkX4_292 rfl rfl ⟨(Nat.le_of_ble_eq_true rfl), (Nat.le_of_ble_eq_true rfl)⟩ (va_recv hK hP (ci := 2) (q0 := 4) rfl rfl) hK hE (va_P_midL (w1 := xH cS x a r lat cnt ++ (txW cI x z T)) (wc := stW cI a N v) (w3 := []) hP) (va_D_midL (w1 := xH cS x a r lat cnt ++ (txW cI x z T)) (wc := stW cI a N v) (w3 := []) hD) rfl hl.1 rfl (Nat.le_of_ble_eq_true rfl) dX4_requireAtHand_16 ⟨Nat.zero_le _, Nat.zero_le _⟩ ?_
    refine lv_if_eq (tgt := 33) hx hb dX4_requireAtHand_19 (by decide) (fun c2 => ?_) (fun c2 => ?_)
    · have c2 := bI_eq0 c2
      exact k_eRv hx hb hr hlocks dX4_requireAtHand_33
    · have c2 := bI_ne0 c2
      exact absurd c2 h4

abbrev rmX4_requireAtHand_b : Room := { frames := 6, cells := 1, slots := 6, locals := 82 }
set_option maxHeartbeats 4000000 in
set_option maxRecDepth 100000 in
theorem c_X4_requireAtHand_b (l : Launch) (hfl : l.stackTraces = false) (D : va_G) (cI cS cL : ClassId) (x a : Nat → Nat) (r : Nat → Nat → Nat) (lat cnt z : Int32) (T : Nat → Int32) (N : NN) (v : Nat → Int32) (sz : Nat) (k : Nat) (hk : k < 14) (h14 : N 9 k = -1 ∨ N 9 k = 4) : vx_Met l yX4_requireAtHand (wy_ yX4_requireAtHand cX4_requireAtHand 2 none) rmX4_requireAtHand_b (kPx D (kTy cI cS cL) (xH cS x a r lat cnt ++ (txW cI x z T ++ (stW cI a N v))) sz [.ref (x 0), .int (nI k)]) kQxv (kXe eS) 1 6 noF := by
  refine k_xofW (by decide) (Nat.le_of_ble_eq_true rfl) ?_
  intro p e s m args below meth c hx hb hr hml hts hown hlocks hno hsz hP hK hD hE hT ls hl
  subst hsz
  have hl : lv_has ls 2 [(0, .ref (x 0)), (1, .int (nI k))] := hl
  refine lv_aload_n hx hb dX4_requireAtHand_0 rfl (lv_at hl 0 rfl) ?_
  refine g4 hx hb hts hown hK hP 0 rfl 0 (by decide) flX4_10 (fun _ h => h) (v := .ref (a 0)) rfl dX4_requireAtHand_1 ?_
  refine lv_iload_n hx hb dX4_requireAtHand_4 rfl (lv_at hl 1 rfl) ?_
  refine k_riV (As := [.int (nI k)]) (rest := []) (wc := stW cI a N v) ⟨hx, hb, hml, hown, hts⟩ (c_X3_isGone l D cI cS cL a N v _ k (by omega)) lkX4_234 rfl rfl ⟨(Nat.le_of_ble_eq_true rfl), (Nat.le_of_ble_eq_true rfl)⟩ (va_recv hK hP (ci := 2) (q0 := 4) rfl rfl) hK hE (va_P_midL (w1 := xH cS x a r lat cnt ++ (txW cI x z T)) (wc := stW cI a N v) (w3 := []) hP) (va_D_midL (w1 := xH cS x a r lat cnt ++ (txW cI x z T)) (wc := stW cI a N v) (w3 := []) hD) rfl hl.1 rfl (Nat.le_of_ble_eq_true rfl) dX4_requireAtHand_5 ⟨Nat.zero_le _, Nat.zero_le _⟩ ?_
  refine lv_if_ne (tgt := 22) hx hb dX4_requireAtHand_8 (by decide) (fun c1 => ?_) (fun c1 => ?_)
  · have c1 := bI_ne0 c1
    exact k_xtSW (is := 295) hx hb hfl hts hown hE hT (hl.1.trans hml.symm) hno hlocks (List.mem_of_getElem? (i := 12) rfl) dX4_requireAtHand_22 dX4_requireAtHand_25 dX4_requireAtHand_26 dX4_requireAtHand_29 dX4_requireAtHand_32 ⟨(Nat.le_of_ble_eq_true rfl), (Nat.le_of_ble_eq_true rfl), Nat.le_refl _, Nat.le_refl _⟩
  · have c1 := bI_eq0 c1
    have h1n := c1
    refine lv_aload_n hx hb dX4_requireAtHand_11 rfl (lv_at hl 0 rfl) ?_
    refine g4 hx hb hts hown hK hP 0 rfl 0 (by decide) flX4_10 (fun _ h => h) (v := .ref (a 0)) rfl dX4_requireAtHand_12 ?_
    refine lv_iload_n hx hb dX4_requireAtHand_15 rfl (lv_at hl 1 rfl) ?_
    refine k_riV (As := [.int (nI k)]) (rest := []) (wc := stW cI a N v) ⟨hx, hb, hml, hown, hts⟩ (c_X3_isLent l D cI cS cL a N v _ k (by omega)) lkX4_292 rfl rfl ⟨(Nat.le_of_ble_eq_true rfl), (Nat.le_of_ble_eq_true rfl)⟩ (va_recv hK hP (ci := 2) (q0 := 4) rfl rfl) hK hE (va_P_midL (w1 := xH cS x a r lat cnt ++ (txW cI x z T)) (wc := stW cI a N v) (w3 := []) hP) (va_D_midL (w1 := xH cS x a r lat cnt ++ (txW cI x z T)) (wc := stW cI a N v) (w3 := []) hD) rfl hl.1 rfl (Nat.le_of_ble_eq_true rfl) dX4_requireAtHand_16 ⟨Nat.zero_le _, Nat.zero_le _⟩ ?_
    refine lv_if_eq (tgt := 33) hx hb dX4_requireAtHand_19 (by decide) (fun c2 => ?_) (fun c2 => ?_)
    · have c2 := bI_eq0 c2
      exact absurd h14 (fun h => h.elim h1n c2)
    · have c2 := bI_ne0 c2
      exact k_xtSW (is := 295) hx hb hfl hts hown hE hT (hl.1.trans hml.symm) hno hlocks (List.mem_of_getElem? (i := 12) rfl) dX4_requireAtHand_22 dX4_requireAtHand_25 dX4_requireAtHand_26 dX4_requireAtHand_29 dX4_requireAtHand_32 ⟨(Nat.le_of_ble_eq_true rfl), (Nat.le_of_ble_eq_true rfl), Nat.le_refl _, Nat.le_refl _⟩

abbrev rmX4_requireTruck_g : Room := { frames := 1, cells := 0, slots := 0, locals := 22 }
set_option maxHeartbeats 4000000 in
set_option maxRecDepth 100000 in
theorem c_X4_requireTruck_g (l : Launch) (D : va_G) (cI cS cL : ClassId) (sz : Nat) (xx : Int32) (hxx : 0 ≤ xx ∧ xx ≤ 2) : Met l yX4_requireTruck (wy_ yX4_requireTruck cX4_requireTruck 1 none) rmX4_requireTruck_g (kPc D (kTy cI cS cL) ([]) sz [.int xx]) kRv 0 0 noF := by
  refine k_ofW (by decide) (Nat.le_of_ble_eq_true rfl) ?_
  intro p e s m args below meth c hx hb hr hml hts hown hlocks hnm hsz hP hK hD hE ls hl
  subst hsz
  have hl : lv_has ls 1 [(0, .int xx)] := hl
  refine lv_iload_n hx hb dX4_requireTruck_0 rfl (lv_at hl 0 rfl) ?_
  refine lv_iconst (v := 0) hx hb dX4_requireTruck_1 (by decide) ?_
  refine lv_iconst (v := 2) hx hb dX4_requireTruck_2 (by decide) ?_
  refine k_riS (As := [.int xx, .int 0, .int 2]) (rest := []) (wc := []) ⟨hx, hb, hml, hown, hts⟩ (c_X4_isWithin l D cI cS cL _ xx 0 2) lkX4_34 rfl rfl ⟨(Nat.le_of_ble_eq_true rfl), (Nat.le_of_ble_eq_true rfl)⟩ hK hE hP hD rfl hl.1 rfl (Nat.le_of_ble_eq_true rfl) dX4_requireTruck_3 ⟨Nat.zero_le _, Nat.zero_le _⟩ ?_
  refine lv_if_ne (tgt := 20) hx hb dX4_requireTruck_6 (by decide) (fun c1 => ?_) (fun c1 => ?_)
  · have c1 := bI_ne0 c1
    exact k_eRv hx hb hr hlocks dX4_requireTruck_20
  · have c1 := bI_eq0 c1
    exact absurd hxx c1

abbrev rmX4_requireTruck_b : Room := { frames := 6, cells := 1, slots := 6, locals := 82 }
set_option maxHeartbeats 4000000 in
set_option maxRecDepth 100000 in
theorem c_X4_requireTruck_b (l : Launch) (hfl : l.stackTraces = false) (D : va_G) (cI cS cL : ClassId) (sz : Nat) (xx : Int32) (hxx : ¬ (0 ≤ xx ∧ xx ≤ 2)) : vx_Met l yX4_requireTruck (wy_ yX4_requireTruck cX4_requireTruck 1 none) rmX4_requireTruck_b (kPx D (kTy cI cS cL) ([]) sz [.int xx]) kQxv (kXe eB) 1 6 noF := by
  refine k_xofW (by decide) (Nat.le_of_ble_eq_true rfl) ?_
  intro p e s m args below meth c hx hb hr hml hts hown hlocks hno hsz hP hK hD hE hT ls hl
  subst hsz
  have hl : lv_has ls 1 [(0, .int xx)] := hl
  refine lv_iload_n hx hb dX4_requireTruck_0 rfl (lv_at hl 0 rfl) ?_
  refine lv_iconst (v := 0) hx hb dX4_requireTruck_1 (by decide) ?_
  refine lv_iconst (v := 2) hx hb dX4_requireTruck_2 (by decide) ?_
  refine k_riS (As := [.int xx, .int 0, .int 2]) (rest := []) (wc := []) ⟨hx, hb, hml, hown, hts⟩ (c_X4_isWithin l D cI cS cL _ xx 0 2) lkX4_34 rfl rfl ⟨(Nat.le_of_ble_eq_true rfl), (Nat.le_of_ble_eq_true rfl)⟩ hK hE hP hD rfl hl.1 rfl (Nat.le_of_ble_eq_true rfl) dX4_requireTruck_3 ⟨Nat.zero_le _, Nat.zero_le _⟩ ?_
  refine lv_if_ne (tgt := 20) hx hb dX4_requireTruck_6 (by decide) (fun c1 => ?_) (fun c1 => ?_)
  · have c1 := bI_ne0 c1
    exact absurd c1 hxx
  · have c1 := bI_eq0 c1
    exact k_xtBW (is := 297) hx hb hfl hts hown hE hT (hl.1.trans hml.symm) hno hlocks (List.mem_of_getElem? (i := 13) rfl) dX4_requireTruck_9 dX4_requireTruck_12 dX4_requireTruck_13 dX4_requireTruck_16 dX4_requireTruck_19 ⟨(Nat.le_of_ble_eq_true rfl), (Nat.le_of_ble_eq_true rfl), Nat.le_refl _, Nat.le_refl _⟩

abbrev rmX4_requireSetting_g : Room := { frames := 1, cells := 0, slots := 0, locals := 22 }
set_option maxHeartbeats 4000000 in
set_option maxRecDepth 100000 in
theorem c_X4_requireSetting_g (l : Launch) (D : va_G) (cI cS cL : ClassId) (sz : Nat) (xx : Int32) (hxx : 0 ≤ xx ∧ xx ≤ 2) : Met l yX4_requireSetting (wy_ yX4_requireSetting cX4_requireSetting 1 none) rmX4_requireSetting_g (kPc D (kTy cI cS cL) ([]) sz [.int xx]) kRv 0 0 noF := by
  refine k_ofW (by decide) (Nat.le_of_ble_eq_true rfl) ?_
  intro p e s m args below meth c hx hb hr hml hts hown hlocks hnm hsz hP hK hD hE ls hl
  subst hsz
  have hl : lv_has ls 1 [(0, .int xx)] := hl
  refine lv_iload_n hx hb dX4_requireSetting_0 rfl (lv_at hl 0 rfl) ?_
  refine lv_iconst (v := 0) hx hb dX4_requireSetting_1 (by decide) ?_
  refine lv_iconst (v := 2) hx hb dX4_requireSetting_2 (by decide) ?_
  refine k_riS (As := [.int xx, .int 0, .int 2]) (rest := []) (wc := []) ⟨hx, hb, hml, hown, hts⟩ (c_X4_isWithin l D cI cS cL _ xx 0 2) lkX4_34 rfl rfl ⟨(Nat.le_of_ble_eq_true rfl), (Nat.le_of_ble_eq_true rfl)⟩ hK hE hP hD rfl hl.1 rfl (Nat.le_of_ble_eq_true rfl) dX4_requireSetting_3 ⟨Nat.zero_le _, Nat.zero_le _⟩ ?_
  refine lv_if_ne (tgt := 20) hx hb dX4_requireSetting_6 (by decide) (fun c1 => ?_) (fun c1 => ?_)
  · have c1 := bI_ne0 c1
    exact k_eRv hx hb hr hlocks dX4_requireSetting_20
  · have c1 := bI_eq0 c1
    exact absurd hxx c1

abbrev rmX4_requireSetting_b : Room := { frames := 6, cells := 1, slots := 6, locals := 82 }
set_option maxHeartbeats 4000000 in
set_option maxRecDepth 100000 in
theorem c_X4_requireSetting_b (l : Launch) (hfl : l.stackTraces = false) (D : va_G) (cI cS cL : ClassId) (sz : Nat) (xx : Int32) (hxx : ¬ (0 ≤ xx ∧ xx ≤ 2)) : vx_Met l yX4_requireSetting (wy_ yX4_requireSetting cX4_requireSetting 1 none) rmX4_requireSetting_b (kPx D (kTy cI cS cL) ([]) sz [.int xx]) kQxv (kXe eB) 1 6 noF := by
  refine k_xofW (by decide) (Nat.le_of_ble_eq_true rfl) ?_
  intro p e s m args below meth c hx hb hr hml hts hown hlocks hno hsz hP hK hD hE hT ls hl
  subst hsz
  have hl : lv_has ls 1 [(0, .int xx)] := hl
  refine lv_iload_n hx hb dX4_requireSetting_0 rfl (lv_at hl 0 rfl) ?_
  refine lv_iconst (v := 0) hx hb dX4_requireSetting_1 (by decide) ?_
  refine lv_iconst (v := 2) hx hb dX4_requireSetting_2 (by decide) ?_
  refine k_riS (As := [.int xx, .int 0, .int 2]) (rest := []) (wc := []) ⟨hx, hb, hml, hown, hts⟩ (c_X4_isWithin l D cI cS cL _ xx 0 2) lkX4_34 rfl rfl ⟨(Nat.le_of_ble_eq_true rfl), (Nat.le_of_ble_eq_true rfl)⟩ hK hE hP hD rfl hl.1 rfl (Nat.le_of_ble_eq_true rfl) dX4_requireSetting_3 ⟨Nat.zero_le _, Nat.zero_le _⟩ ?_
  refine lv_if_ne (tgt := 20) hx hb dX4_requireSetting_6 (by decide) (fun c1 => ?_) (fun c1 => ?_)
  · have c1 := bI_ne0 c1
    exact absurd c1 hxx
  · have c1 := bI_eq0 c1
    exact k_xtBW (is := 299) hx hb hfl hts hown hE hT (hl.1.trans hml.symm) hno hlocks (List.mem_of_getElem? (i := 14) rfl) dX4_requireSetting_9 dX4_requireSetting_12 dX4_requireSetting_13 dX4_requireSetting_16 dX4_requireSetting_19 ⟨(Nat.le_of_ble_eq_true rfl), (Nat.le_of_ble_eq_true rfl), Nat.le_refl _, Nat.le_refl _⟩

abbrev rmX4_requirePressure_g : Room := { frames := 1, cells := 0, slots := 0, locals := 22 }
set_option maxHeartbeats 4000000 in
set_option maxRecDepth 100000 in
theorem c_X4_requirePressure_g (l : Launch) (D : va_G) (cI cS cL : ClassId) (sz : Nat) (xx : Int32) (hxx : 4 ≤ xx ∧ xx ≤ 24) : Met l yX4_requirePressure (wy_ yX4_requirePressure cX4_requirePressure 1 none) rmX4_requirePressure_g (kPc D (kTy cI cS cL) ([]) sz [.int xx]) kRv 0 0 noF := by
  refine k_ofW (by decide) (Nat.le_of_ble_eq_true rfl) ?_
  intro p e s m args below meth c hx hb hr hml hts hown hlocks hnm hsz hP hK hD hE ls hl
  subst hsz
  have hl : lv_has ls 1 [(0, .int xx)] := hl
  refine lv_iload_n hx hb dX4_requirePressure_0 rfl (lv_at hl 0 rfl) ?_
  refine lv_iconst (v := 4) hx hb dX4_requirePressure_1 (by decide) ?_
  refine lv_bipush (v := 24) hx hb dX4_requirePressure_2 (by decide) ?_
  refine k_riS (As := [.int xx, .int 4, .int 24]) (rest := []) (wc := []) ⟨hx, hb, hml, hown, hts⟩ (c_X4_isWithin l D cI cS cL _ xx 4 24) lkX4_34 rfl rfl ⟨(Nat.le_of_ble_eq_true rfl), (Nat.le_of_ble_eq_true rfl)⟩ hK hE hP hD rfl hl.1 rfl (Nat.le_of_ble_eq_true rfl) dX4_requirePressure_4 ⟨Nat.zero_le _, Nat.zero_le _⟩ ?_
  refine lv_if_ne (tgt := 21) hx hb dX4_requirePressure_7 (by decide) (fun c1 => ?_) (fun c1 => ?_)
  · have c1 := bI_ne0 c1
    exact k_eRv hx hb hr hlocks dX4_requirePressure_21
  · have c1 := bI_eq0 c1
    exact absurd hxx c1

abbrev rmX4_requirePressure_b : Room := { frames := 6, cells := 1, slots := 6, locals := 82 }
set_option maxHeartbeats 4000000 in
set_option maxRecDepth 100000 in
theorem c_X4_requirePressure_b (l : Launch) (hfl : l.stackTraces = false) (D : va_G) (cI cS cL : ClassId) (sz : Nat) (xx : Int32) (hxx : ¬ (4 ≤ xx ∧ xx ≤ 24)) : vx_Met l yX4_requirePressure (wy_ yX4_requirePressure cX4_requirePressure 1 none) rmX4_requirePressure_b (kPx D (kTy cI cS cL) ([]) sz [.int xx]) kQxv (kXe eA) 1 6 noF := by
  refine k_xofW (by decide) (Nat.le_of_ble_eq_true rfl) ?_
  intro p e s m args below meth c hx hb hr hml hts hown hlocks hno hsz hP hK hD hE hT ls hl
  subst hsz
  have hl : lv_has ls 1 [(0, .int xx)] := hl
  refine lv_iload_n hx hb dX4_requirePressure_0 rfl (lv_at hl 0 rfl) ?_
  refine lv_iconst (v := 4) hx hb dX4_requirePressure_1 (by decide) ?_
  refine lv_bipush (v := 24) hx hb dX4_requirePressure_2 (by decide) ?_
  refine k_riS (As := [.int xx, .int 4, .int 24]) (rest := []) (wc := []) ⟨hx, hb, hml, hown, hts⟩ (c_X4_isWithin l D cI cS cL _ xx 4 24) lkX4_34 rfl rfl ⟨(Nat.le_of_ble_eq_true rfl), (Nat.le_of_ble_eq_true rfl)⟩ hK hE hP hD rfl hl.1 rfl (Nat.le_of_ble_eq_true rfl) dX4_requirePressure_4 ⟨Nat.zero_le _, Nat.zero_le _⟩ ?_
  refine lv_if_ne (tgt := 21) hx hb dX4_requirePressure_7 (by decide) (fun c1 => ?_) (fun c1 => ?_)
  · have c1 := bI_ne0 c1
    exact absurd c1 hxx
  · have c1 := bI_eq0 c1
    exact k_xtAW (is := 301) hx hb hfl hts hown hE hT (hl.1.trans hml.symm) hno hlocks (List.mem_of_getElem? (i := 15) rfl) dX4_requirePressure_10 dX4_requirePressure_13 dX4_requirePressure_14 dX4_requirePressure_17 dX4_requirePressure_20 ⟨(Nat.le_of_ble_eq_true rfl), (Nat.le_of_ble_eq_true rfl), Nat.le_refl _, Nat.le_refl _⟩

abbrev rmX4_leastOfSetting : Room := { frames := 0, cells := 0, slots := 0, locals := 0 }
set_option maxHeartbeats 4000000 in
set_option maxRecDepth 100000 in
theorem c_X4_leastOfSetting (l : Launch) (D : va_G) (cI cS cL : ClassId) (sz : Nat) (xx : Int32) : Met l yX4_leastOfSetting (wy_ yX4_leastOfSetting cX4_leastOfSetting 1 (some .int)) rmX4_leastOfSetting (kPc D (kTy cI cS cL) ([]) sz [.int xx]) (kRi (set_lo xx)) 0 0 noF := by
  refine k_ofW (by decide) (Nat.le_of_ble_eq_true rfl) ?_
  intro p e s m args below meth c hx hb hr hml hts hown hlocks hnm hsz hP hK hD hE ls hl
  subst hsz
  have hl : lv_has ls 1 [(0, .int xx)] := hl
  refine lv_iload_n hx hb dX4_leastOfSetting_0 rfl (lv_at hl 0 rfl) ?_
  refine lv_if_ne (tgt := 8) hx hb dX4_leastOfSetting_1 (by decide) (fun c1 => ?_) (fun c1 => ?_)
  · refine lv_iconst (v := 0) hx hb dX4_leastOfSetting_8 (by decide) ?_
    exact k_eRi hx hb hr hlocks (by simp [set_lo, c1]) dX4_leastOfSetting_9
  · refine lv_iconst (v := 4) hx hb dX4_leastOfSetting_4 (by decide) ?_
    refine lv_goto (tgt := 9) hx hb dX4_leastOfSetting_5 (by decide) ?_
    exact k_eRi hx hb hr hlocks (by simp [set_lo, c1]) dX4_leastOfSetting_9

abbrev rmX4_greatestOfSetting : Room := { frames := 0, cells := 0, slots := 0, locals := 0 }
set_option maxHeartbeats 4000000 in
set_option maxRecDepth 100000 in
theorem c_X4_greatestOfSetting (l : Launch) (D : va_G) (cI cS cL : ClassId) (sz : Nat) (xx : Int32) : Met l yX4_greatestOfSetting (wy_ yX4_greatestOfSetting cX4_greatestOfSetting 1 (some .int)) rmX4_greatestOfSetting (kPc D (kTy cI cS cL) ([]) sz [.int xx]) (kRi (set_hi xx)) 0 0 noF := by
  refine k_ofW (by decide) (Nat.le_of_ble_eq_true rfl) ?_
  intro p e s m args below meth c hx hb hr hml hts hown hlocks hnm hsz hP hK hD hE ls hl
  subst hsz
  have hl : lv_has ls 1 [(0, .int xx)] := hl
  refine lv_iload_n hx hb dX4_greatestOfSetting_0 rfl (lv_at hl 0 rfl) ?_
  by_cases c1 : xx = 0
  · refine lv_lookup (off := 27) (tgt := 28) hx hb dX4_greatestOfSetting_1 (by decide) (by rw [c1]; decide) (by decide) ?_
    refine lv_bipush (v := 24) hx hb dX4_greatestOfSetting_28 (by decide) ?_
    exact k_eRi hx hb hr hlocks (by simp [set_hi, c1]) dX4_greatestOfSetting_30
  by_cases c2 : xx = 1
  · refine lv_lookup (off := 30) (tgt := 31) hx hb dX4_greatestOfSetting_1 (by decide) (by rw [c2]; decide) (by decide) ?_
    refine lv_iconst (v := 5) hx hb dX4_greatestOfSetting_31 (by decide) ?_
    exact k_eRi hx hb hr hlocks (by simp [set_hi, c2, c1]) dX4_greatestOfSetting_32
  refine lv_lookup (off := 32) (tgt := 33) hx hb dX4_greatestOfSetting_1 (by decide) (by simp [Op.lookupswitch.offset, i32_ne (b := 0) (z := 0) (by decide) c1, i32_ne (b := 1) (z := 1) (by decide) c2]) (by decide) ?_
  refine lv_sipush (v := 200) hx hb dX4_greatestOfSetting_33 (by decide) ?_
  exact k_eRi hx hb hr hlocks (by simp [set_hi, c1, c2]) dX4_greatestOfSetting_36
