abbrev rmX3_isGone : Room := { frames := 0, cells := 0, slots := 0, locals := 0 }
set_option maxHeartbeats 4000000 in
set_option maxRecDepth 100000 in
theorem c_X3_isGone (l : Launch) (D : va_G) (cI cS cL : ClassId) (a : Nat → Nat) (N : NN) (v : Nat → Int32) (sz : Nat) (k : Nat) (hk : k < 14) : Met l yX3_isGone (wy_ yX3_isGone cX3_isGone 2 (some .boolean)) rmX3_isGone (kPc D (kTy cI cS cL) (stW cI a N v) sz [.ref (a 0), .int (nI k)]) (kRi (bI (decide (N 9 k = -1)))) 0 0 noF := by
  refine k_ofW (by decide) (Nat.le_of_ble_eq_true rfl) ?_
  intro p e s m args below meth c hx hb hr hml hts hown hlocks hnm hsz hP hK hD hE ls hl
  subst hsz
  have hl : lv_has ls 2 [(0, .ref (a 0)), (1, .int (nI k))] := hl
  refine lv_aload_n hx hb dX3_isGone_0 rfl (lv_at hl 0 rfl) ?_
  refine g3 hx hb hts hown hK hP 0 rfl 14 (by decide) flX3_43 (fun _ h => h) (v := .ref (a 9)) rfl dX3_isGone_1 ?_
  refine lv_iload_n hx hb dX3_isGone_4 rfl (lv_at hl 1 rfl) ?_
  refine k_ald (k := k) hx hb hK hP 9 0 rfl rfl rfl (by omega) (by decide) dX3_isGone_5 ?_
  refine lv_iconst (v := (-1)) hx hb dX3_isGone_6 (by decide) ?_
  refine lv_icmp_ne (tgt := 14) hx hb dX3_isGone_7 (by decide) (fun c1 => ?_) (fun c1 => ?_)
  · refine lv_iconst (v := 0) hx hb dX3_isGone_14 (by decide) ?_
    exact k_eRz hx hb hr hlocks rfl (by exact bI_zero (by simp [c1])) dX3_isGone_15
  · refine lv_iconst (v := 1) hx hb dX3_isGone_10 (by decide) ?_
    refine lv_goto (tgt := 15) hx hb dX3_isGone_11 (by decide) ?_
    exact k_eRz hx hb hr hlocks rfl (by exact bI_one (by simp [c1])) dX3_isGone_15

abbrev rmX3_isLent : Room := { frames := 0, cells := 0, slots := 0, locals := 0 }
set_option maxHeartbeats 4000000 in
set_option maxRecDepth 100000 in
theorem c_X3_isLent (l : Launch) (D : va_G) (cI cS cL : ClassId) (a : Nat → Nat) (N : NN) (v : Nat → Int32) (sz : Nat) (k : Nat) (hk : k < 14) : Met l yX3_isLent (wy_ yX3_isLent cX3_isLent 2 (some .boolean)) rmX3_isLent (kPc D (kTy cI cS cL) (stW cI a N v) sz [.ref (a 0), .int (nI k)]) (kRi (bI (decide (N 9 k = 4)))) 0 0 noF := by
  refine k_ofW (by decide) (Nat.le_of_ble_eq_true rfl) ?_
  intro p e s m args below meth c hx hb hr hml hts hown hlocks hnm hsz hP hK hD hE ls hl
  subst hsz
  have hl : lv_has ls 2 [(0, .ref (a 0)), (1, .int (nI k))] := hl
  refine lv_aload_n hx hb dX3_isLent_0 rfl (lv_at hl 0 rfl) ?_
  refine g3 hx hb hts hown hK hP 0 rfl 14 (by decide) flX3_43 (fun _ h => h) (v := .ref (a 9)) rfl dX3_isLent_1 ?_
  refine lv_iload_n hx hb dX3_isLent_4 rfl (lv_at hl 1 rfl) ?_
  refine k_ald (k := k) hx hb hK hP 9 0 rfl rfl rfl (by omega) (by decide) dX3_isLent_5 ?_
  refine lv_iconst (v := 4) hx hb dX3_isLent_6 (by decide) ?_
  refine lv_icmp_ne (tgt := 14) hx hb dX3_isLent_7 (by decide) (fun c1 => ?_) (fun c1 => ?_)
  · refine lv_iconst (v := 0) hx hb dX3_isLent_14 (by decide) ?_
    exact k_eRz hx hb hr hlocks rfl (by exact bI_zero (by simp [c1])) dX3_isLent_15
  · refine lv_iconst (v := 1) hx hb dX3_isLent_10 (by decide) ?_
    refine lv_goto (tgt := 15) hx hb dX3_isLent_11 (by decide) ?_
    exact k_eRz hx hb hr hlocks rfl (by exact bI_one (by simp [c1])) dX3_isLent_15

abbrev rmX3_reasonOf : Room := { frames := 1, cells := 0, slots := 0, locals := 21 }
set_option maxHeartbeats 4000000 in
set_option maxRecDepth 100000 in
theorem c_X3_reasonOf (l : Launch) (D : va_G) (cI cS cL : ClassId) (a : Nat → Nat) (N : NN) (v : Nat → Int32) (sz : Nat) (k : Nat) (hk : k < 14) : Met l yX3_reasonOf (wy_ yX3_reasonOf cX3_reasonOf 2 (some .int)) rmX3_reasonOf (kPc D (kTy cI cS cL) (stW cI a N v) sz [.ref (a 0), .int (nI k)]) (kRi (p_reason N k)) 0 0 noF := by
  refine k_ofW (by decide) (Nat.le_of_ble_eq_true rfl) ?_
  intro p e s m args below meth c hx hb hr hml hts hown hlocks hnm hsz hP hK hD hE ls hl
  subst hsz
  have hl : lv_has ls 2 [(0, .ref (a 0)), (1, .int (nI k))] := hl
  refine lv_aload_n hx hb dX3_reasonOf_0 rfl (lv_at hl 0 rfl) ?_
  refine lv_iload_n hx hb dX3_reasonOf_1 rfl (lv_at hl 1 rfl) ?_
  refine k_riV (As := [.int (nI k)]) (rest := []) (wc := stW cI a N v) ⟨hx, hb, hml, hown, hts⟩ (c_X3_isGone l D cI cS cL a N v _ k (by omega)) lkX3_82 rfl rfl ⟨(Nat.le_of_ble_eq_true rfl), (Nat.le_of_ble_eq_true rfl)⟩ (va_recv hK hP (ci := 2) (q0 := 0) rfl rfl) hK hE hP hD rfl hl.1 rfl (Nat.le_of_ble_eq_true rfl) dX3_reasonOf_2 ⟨Nat.zero_le _, Nat.zero_le _⟩ ?_
  refine lv_if_eq (tgt := 10) hx hb dX3_reasonOf_5 (by decide) (fun c1 => ?_) (fun c1 => ?_)
  · have c1 := bI_eq0 c1
    refine lv_aload_n hx hb dX3_reasonOf_10 rfl (lv_at hl 0 rfl) ?_
    refine lv_iload_n hx hb dX3_reasonOf_11 rfl (lv_at hl 1 rfl) ?_
    refine k_riV (As := [.int (nI k)]) (rest := []) (wc := stW cI a N v) ⟨hx, hb, hml, hown, hts⟩ (c_X3_isLent l D cI cS cL a N v _ k (by omega)) lkX3_86 rfl rfl ⟨(Nat.le_of_ble_eq_true rfl), (Nat.le_of_ble_eq_true rfl)⟩ (va_recv hK hP (ci := 2) (q0 := 0) rfl rfl) hK hE hP hD rfl hl.1 rfl (Nat.le_of_ble_eq_true rfl) dX3_reasonOf_12 ⟨Nat.zero_le _, Nat.zero_le _⟩ ?_
    refine lv_if_eq (tgt := 20) hx hb dX3_reasonOf_15 (by decide) (fun c2 => ?_) (fun c2 => ?_)
    · have c2 := bI_eq0 c2
      refine lv_aload_n hx hb dX3_reasonOf_20 rfl (lv_at hl 0 rfl) ?_
      refine g3 hx hb hts hown hK hP 0 rfl 0 (by decide) flX3_9 (fun _ h => h) (v := .int (N 1 0)) rfl dX3_reasonOf_21 ?_
      refine lv_aload_n hx hb dX3_reasonOf_24 rfl (lv_at hl 0 rfl) ?_
      refine g3 hx hb hts hown hK hP 0 rfl 11 (by decide) flX3_34 (fun _ h => h) (v := .ref (a 6)) rfl dX3_reasonOf_25 ?_
      refine lv_iload_n hx hb dX3_reasonOf_28 rfl (lv_at hl 1 rfl) ?_
      refine k_ald (k := k) hx hb hK hP 6 0 rfl rfl rfl (by omega) (by decide) dX3_reasonOf_29 ?_
      refine lv_isub hx hb dX3_reasonOf_30 (lv_topi (fun x3 e3 => ?_))
      refine lv_aload_n hx hb dX3_reasonOf_31 rfl (lv_at hl 0 rfl) ?_
      refine g3 hx hb hts hown hK hP 0 rfl 8 (by decide) flX3_25 (fun _ h => h) (v := .ref (a 3)) rfl dX3_reasonOf_32 ?_
      refine lv_iload_n hx hb dX3_reasonOf_35 rfl (lv_at hl 1 rfl) ?_
      refine k_ald (k := k) hx hb hK hP 3 0 rfl rfl rfl (by omega) (by decide) dX3_reasonOf_36 ?_
      refine k_riS (As := [.int (N 3 k)]) (rest := [.int x3]) (wc := []) ⟨hx, hb, hml, hown, hts⟩ (c_X1_lifeOf l D cI cS cL _ (N 3 k)) lkX3_89 rfl rfl ⟨(Nat.le_of_ble_eq_true rfl), (Nat.le_of_ble_eq_true rfl)⟩ hK hE k_nilP (k_nilD (A := va_A (stW cI a N v) s.heap.size)) rfl hl.1 rfl (Nat.le_of_ble_eq_true rfl) dX3_reasonOf_37 ⟨Nat.zero_le _, Nat.zero_le _⟩ ?_
      refine lv_icmp_le (tgt := 45) hx hb dX3_reasonOf_40 (by decide) (fun c4 => ?_) (fun c4 => ?_)
      · have c4' := Int32.not_lt.mpr c4
        refine lv_aload_n hx hb dX3_reasonOf_45 rfl (lv_at hl 0 rfl) ?_
        refine g3 hx hb hts hown hK hP 0 rfl 13 (by decide) flX3_40 (fun _ h => h) (v := .ref (a 8)) rfl dX3_reasonOf_46 ?_
        refine lv_iload_n hx hb dX3_reasonOf_49 rfl (lv_at hl 1 rfl) ?_
        refine k_ald (k := k) hx hb hK hP 8 0 rfl rfl rfl (by omega) (by decide) dX3_reasonOf_50 ?_
        refine lv_iconst (v := (-1)) hx hb dX3_reasonOf_51 (by decide) ?_
        refine lv_icmp_eq (tgt := 68) hx hb dX3_reasonOf_52 (by decide) (fun c5 => ?_) (fun c5 => ?_)
        · refine lv_iconst (v := 4) hx hb dX3_reasonOf_68 (by decide) ?_
          refine lv_goto (tgt := 73) hx hb dX3_reasonOf_69 (by decide) ?_
          exact k_eRi hx hb hr hlocks (by subst e3; simp [p_reason, c1, c2, c4, c4', c5]) dX3_reasonOf_73
        · refine lv_aload_n hx hb dX3_reasonOf_55 rfl (lv_at hl 0 rfl) ?_
          refine g3 hx hb hts hown hK hP 0 rfl 0 (by decide) flX3_9 (fun _ h => h) (v := .int (N 1 0)) rfl dX3_reasonOf_56 ?_
          refine lv_aload_n hx hb dX3_reasonOf_59 rfl (lv_at hl 0 rfl) ?_
          refine g3 hx hb hts hown hK hP 0 rfl 13 (by decide) flX3_40 (fun _ h => h) (v := .ref (a 8)) rfl dX3_reasonOf_60 ?_
          refine lv_iload_n hx hb dX3_reasonOf_63 rfl (lv_at hl 1 rfl) ?_
          refine k_ald (k := k) hx hb hK hP 8 0 rfl rfl rfl (by omega) (by decide) dX3_reasonOf_64 ?_
          refine lv_icmp_le (tgt := 72) hx hb dX3_reasonOf_65 (by decide) (fun c6 => ?_) (fun c6 => ?_)
          · have c6' := Int32.not_lt.mpr c6
            refine lv_iconst (v := 0) hx hb dX3_reasonOf_72 (by decide) ?_
            exact k_eRi hx hb hr hlocks (by subst e3; simp [p_reason, c1, c2, c4, c4', c5, c6, c6']) dX3_reasonOf_73
          · have c6' := Int32.not_le.mp c6
            refine lv_iconst (v := 4) hx hb dX3_reasonOf_68 (by decide) ?_
            refine lv_goto (tgt := 73) hx hb dX3_reasonOf_69 (by decide) ?_
            exact k_eRi hx hb hr hlocks (by subst e3; simp [p_reason, c1, c2, c4, c4', c5, c6, c6']) dX3_reasonOf_73
      · have c4' := Int32.not_le.mp c4
        refine lv_iconst (v := 3) hx hb dX3_reasonOf_43 (by decide) ?_
        exact k_eRi hx hb hr hlocks (by subst e3; simp [p_reason, c1, c2, c4, c4']) dX3_reasonOf_44
    · have c2 := bI_ne0 c2
      refine lv_iconst (v := 2) hx hb dX3_reasonOf_18 (by decide) ?_
      exact k_eRi hx hb hr hlocks (by simp [p_reason, c1, c2]) dX3_reasonOf_19
  · have c1 := bI_ne0 c1
    refine lv_iconst (v := 1) hx hb dX3_reasonOf_8 (by decide) ?_
    exact k_eRi hx hb hr hlocks (by simp [p_reason, c1]) dX3_reasonOf_9

abbrev rmX3_isReady : Room := { frames := 2, cells := 0, slots := 0, locals := 42 }
set_option maxHeartbeats 4000000 in
set_option maxRecDepth 100000 in
theorem c_X3_isReady (l : Launch) (D : va_G) (cI cS cL : ClassId) (a : Nat → Nat) (N : NN) (v : Nat → Int32) (sz : Nat) (k : Nat) (hk : k < 14) : Met l yX3_isReady (wy_ yX3_isReady cX3_isReady 2 (some .boolean)) rmX3_isReady (kPc D (kTy cI cS cL) (stW cI a N v) sz [.ref (a 0), .int (nI k)]) (kRi (bI (decide (p_reason N k = 0)))) 0 0 noF := by
  refine k_ofW (by decide) (Nat.le_of_ble_eq_true rfl) ?_
  intro p e s m args below meth c hx hb hr hml hts hown hlocks hnm hsz hP hK hD hE ls hl
  subst hsz
  have hl : lv_has ls 2 [(0, .ref (a 0)), (1, .int (nI k))] := hl
  refine lv_aload_n hx hb dX3_isReady_0 rfl (lv_at hl 0 rfl) ?_
  refine lv_iload_n hx hb dX3_isReady_1 rfl (lv_at hl 1 rfl) ?_
  refine k_riV (As := [.int (nI k)]) (rest := []) (wc := stW cI a N v) ⟨hx, hb, hml, hown, hts⟩ (c_X3_reasonOf l D cI cS cL a N v _ k (by omega)) lkX3_78 rfl rfl ⟨(Nat.le_of_ble_eq_true rfl), (Nat.le_of_ble_eq_true rfl)⟩ (va_recv hK hP (ci := 2) (q0 := 0) rfl rfl) hK hE hP hD rfl hl.1 rfl (Nat.le_of_ble_eq_true rfl) dX3_isReady_2 ⟨Nat.zero_le _, Nat.zero_le _⟩ ?_
  refine lv_if_ne (tgt := 12) hx hb dX3_isReady_5 (by decide) (fun c1 => ?_) (fun c1 => ?_)
  · refine lv_iconst (v := 0) hx hb dX3_isReady_12 (by decide) ?_
    exact k_eRz hx hb hr hlocks rfl (by exact bI_zero (by simp [c1])) dX3_isReady_13
  · refine lv_iconst (v := 1) hx hb dX3_isReady_8 (by decide) ?_
    refine lv_goto (tgt := 13) hx hb dX3_isReady_9 (by decide) ?_
    exact k_eRz hx hb hr hlocks rfl (by exact bI_one (by simp [c1])) dX3_isReady_13

abbrev rmX3_strengthAt : Room := { frames := 2, cells := 0, slots := 0, locals := 35 }
set_option maxHeartbeats 4000000 in
set_option maxRecDepth 100000 in
theorem c_X3_strengthAt (l : Launch) (D : va_G) (cI cS cL : ClassId) (a : Nat → Nat) (N : NN) (v : Nat → Int32) (sz : Nat) (k : Nat) (w : Int32) (hk : k < 14) : Met l yX3_strengthAt (wy_ yX3_strengthAt cX3_strengthAt 3 (some .int)) rmX3_strengthAt (kPc D (kTy cI cS cL) (stW cI a N v) sz [.ref (a 0), .int (nI k), .int w]) (kRi (p_strAt N k w)) 0 0 noF := by
  refine k_ofW (by decide) (Nat.le_of_ble_eq_true rfl) ?_
  intro p e s m args below meth c hx hb hr hml hts hown hlocks hnm hsz hP hK hD hE ls hl
  subst hsz
  have hl : lv_has ls 3 [(0, .ref (a 0)), (1, .int (nI k)), (2, .int w)] := hl
  refine lv_aload_n hx hb dX3_strengthAt_0 rfl (lv_at hl 0 rfl) ?_
  refine g3 hx hb hts hown hK hP 0 rfl 8 (by decide) flX3_25 (fun _ h => h) (v := .ref (a 3)) rfl dX3_strengthAt_1 ?_
  refine lv_iload_n hx hb dX3_strengthAt_4 rfl (lv_at hl 1 rfl) ?_
  refine k_ald (k := k) hx hb hK hP 3 0 rfl rfl rfl (by omega) (by decide) dX3_strengthAt_5 ?_
  refine lv_iload_n hx hb dX3_strengthAt_6 rfl (lv_at hl 2 rfl) ?_
  refine lv_aload_n hx hb dX3_strengthAt_7 rfl (lv_at hl 0 rfl) ?_
  refine g3 hx hb hts hown hK hP 0 rfl 0 (by decide) flX3_9 (fun _ h => h) (v := .int (N 1 0)) rfl dX3_strengthAt_8 ?_
  refine lv_aload_n hx hb dX3_strengthAt_11 rfl (lv_at hl 0 rfl) ?_
  refine g3 hx hb hts hown hK hP 0 rfl 11 (by decide) flX3_34 (fun _ h => h) (v := .ref (a 6)) rfl dX3_strengthAt_12 ?_
  refine lv_iload_n hx hb dX3_strengthAt_15 rfl (lv_at hl 1 rfl) ?_
  refine k_ald (k := k) hx hb hK hP 6 0 rfl rfl rfl (by omega) (by decide) dX3_strengthAt_16 ?_
  refine lv_isub hx hb dX3_strengthAt_17 (lv_topi (fun x1 e1 => ?_))
  refine lv_bipush (v := 100) hx hb dX3_strengthAt_18 (by decide) ?_
  refine lv_idiv hx hb dX3_strengthAt_20 (by decide) (lv_topi (fun x2 e2 => ?_))
  refine k_riS (As := [.int (N 3 k), .int w, .int x2]) (rest := []) (wc := []) ⟨hx, hb, hml, hown, hts⟩ (c_X1_strengthOf l D cI cS cL _ (N 3 k) w x2) lkX3_94 rfl rfl ⟨(Nat.le_of_ble_eq_true rfl), (Nat.le_of_ble_eq_true rfl)⟩ hK hE k_nilP (k_nilD (A := va_A (stW cI a N v) s.heap.size)) rfl hl.1 rfl (Nat.le_of_ble_eq_true rfl) dX3_strengthAt_21 ⟨Nat.zero_le _, Nat.zero_le _⟩ ?_
  exact k_eRi hx hb hr hlocks (by subst e1 e2; simp [p_strAt]) dX3_strengthAt_24

abbrev rmX3_priceOf : Room := { frames := 1, cells := 0, slots := 0, locals := 21 }
set_option maxHeartbeats 4000000 in
set_option maxRecDepth 100000 in
theorem c_X3_priceOf (l : Launch) (D : va_G) (cI cS cL : ClassId) (a : Nat → Nat) (N : NN) (v : Nat → Int32) (sz : Nat) (k : Nat) (hk : k < 14) : Met l yX3_priceOf (wy_ yX3_priceOf cX3_priceOf 2 (some .int)) rmX3_priceOf (kPc D (kTy cI cS cL) (stW cI a N v) sz [.ref (a 0), .int (nI k)]) (kRi (p_price N k)) 0 0 noF := by
  refine k_ofW (by decide) (Nat.le_of_ble_eq_true rfl) ?_
  intro p e s m args below meth c hx hb hr hml hts hown hlocks hnm hsz hP hK hD hE ls hl
  subst hsz
  have hl : lv_has ls 2 [(0, .ref (a 0)), (1, .int (nI k))] := hl
  refine lv_aload_n hx hb dX3_priceOf_0 rfl (lv_at hl 0 rfl) ?_
  refine g3 hx hb hts hown hK hP 0 rfl 8 (by decide) flX3_25 (fun _ h => h) (v := .ref (a 3)) rfl dX3_priceOf_1 ?_
  refine lv_iload_n hx hb dX3_priceOf_4 rfl (lv_at hl 1 rfl) ?_
  refine k_ald (k := k) hx hb hK hP 3 0 rfl rfl rfl (by omega) (by decide) dX3_priceOf_5 ?_
  refine lv_aload_n hx hb dX3_priceOf_6 rfl (lv_at hl 0 rfl) ?_
  refine g3 hx hb hts hown hK hP 0 rfl 9 (by decide) flX3_28 (fun _ h => h) (v := .ref (a 4)) rfl dX3_priceOf_7 ?_
  refine lv_iload_n hx hb dX3_priceOf_10 rfl (lv_at hl 1 rfl) ?_
  refine k_ald (k := k) hx hb hK hP 4 0 rfl rfl rfl (by omega) (by decide) dX3_priceOf_11 ?_
  refine k_riS (As := [.int (N 3 k), .int (N 4 k)]) (rest := []) (wc := []) ⟨hx, hb, hml, hown, hts⟩ (c_X1_costOf l D cI cS cL _ (N 3 k) (N 4 k)) lkX3_98 rfl rfl ⟨(Nat.le_of_ble_eq_true rfl), (Nat.le_of_ble_eq_true rfl)⟩ hK hE k_nilP (k_nilD (A := va_A (stW cI a N v) s.heap.size)) rfl hl.1 rfl (Nat.le_of_ble_eq_true rfl) dX3_priceOf_12 ⟨Nat.zero_le _, Nat.zero_le _⟩ ?_
  exact k_eRi hx hb hr hlocks (by simp [p_price]) dX3_priceOf_15

abbrev rmX3_canBuy : Room := { frames := 1, cells := 0, slots := 0, locals := 21 }
set_option maxHeartbeats 4000000 in
set_option maxRecDepth 100000 in
theorem c_X3_canBuy (l : Launch) (D : va_G) (cI cS cL : ClassId) (a : Nat → Nat) (N : NN) (v : Nat → Int32) (sz : Nat) (kd ln : Int32) : Met l yX3_canBuy (wy_ yX3_canBuy cX3_canBuy 3 (some .boolean)) rmX3_canBuy (kPc D (kTy cI cS cL) (stW cI a N v) sz [.ref (a 0), .int kd, .int ln]) (kRi (bI (p_can N kd ln))) 0 0 noF := by
  refine k_ofW (by decide) (Nat.le_of_ble_eq_true rfl) ?_
  intro p e s m args below meth c hx hb hr hml hts hown hlocks hnm hsz hP hK hD hE ls hl
  subst hsz
  have hl : lv_has ls 3 [(0, .ref (a 0)), (1, .int kd), (2, .int ln)] := hl
  refine lv_aload_n hx hb dX3_canBuy_0 rfl (lv_at hl 0 rfl) ?_
  refine g3 hx hb hts hown hK hP 0 rfl 2 (by decide) flX3_56 (fun _ h => h) (v := .int (N 1 2)) rfl dX3_canBuy_1 ?_
  refine lv_bipush (v := 14) hx hb dX3_canBuy_4 (by decide) ?_
  refine lv_icmp_ge (tgt := 25) hx hb dX3_canBuy_6 (by decide) (fun c1 => ?_) (fun c1 => ?_)
  · have c1' := Int32.not_lt.mpr c1
    refine lv_iconst (v := 0) hx hb dX3_canBuy_25 (by decide) ?_
    exact k_eRz hx hb hr hlocks rfl (by exact bI_zero (by simp [p_can, c1, c1'])) dX3_canBuy_26
  · have c1' := Int32.not_le.mp c1
    refine lv_iload_n hx hb dX3_canBuy_9 rfl (lv_at hl 1 rfl) ?_
    refine lv_iload_n hx hb dX3_canBuy_10 rfl (lv_at hl 2 rfl) ?_
    refine k_riS (As := [.int kd, .int ln]) (rest := []) (wc := []) ⟨hx, hb, hml, hown, hts⟩ (c_X1_costOf l D cI cS cL _ kd ln) lkX3_98 rfl rfl ⟨(Nat.le_of_ble_eq_true rfl), (Nat.le_of_ble_eq_true rfl)⟩ hK hE k_nilP (k_nilD (A := va_A (stW cI a N v) s.heap.size)) rfl hl.1 rfl (Nat.le_of_ble_eq_true rfl) dX3_canBuy_11 ⟨Nat.zero_le _, Nat.zero_le _⟩ ?_
    refine lv_aload_n hx hb dX3_canBuy_14 rfl (lv_at hl 0 rfl) ?_
    refine g3 hx hb hts hown hK hP 0 rfl 1 (by decide) flX3_15 (fun _ h => h) (v := .int (N 1 1)) rfl dX3_canBuy_15 ?_
    refine lv_icmp_gt (tgt := 25) hx hb dX3_canBuy_18 (by decide) (fun c2 => ?_) (fun c2 => ?_)
    · have c2' := Int32.not_le.mpr c2
      refine lv_iconst (v := 0) hx hb dX3_canBuy_25 (by decide) ?_
      exact k_eRz hx hb hr hlocks rfl (by exact bI_zero (by simp [p_can, c1, c1', c2, c2'])) dX3_canBuy_26
    · have c2' := Int32.not_lt.mp c2
      refine lv_iconst (v := 1) hx hb dX3_canBuy_21 (by decide) ?_
      refine lv_goto (tgt := 26) hx hb dX3_canBuy_22 (by decide) ?_
      exact k_eRz hx hb hr hlocks rfl (by exact bI_one (by simp [p_can, c1, c1', c2, c2'])) dX3_canBuy_26

abbrev rmX3_isOnTruck : Room := { frames := 1, cells := 0, slots := 0, locals := 22 }
set_option maxHeartbeats 4000000 in
set_option maxRecDepth 100000 in
theorem c_X3_isOnTruck (l : Launch) (D : va_G) (cI cS cL : ClassId) (a : Nat → Nat) (N : NN) (v : Nat → Int32) (sz : Nat) (k : Nat) (hk : k < 14) : Met l yX3_isOnTruck (wy_ yX3_isOnTruck cX3_isOnTruck 2 (some .boolean)) rmX3_isOnTruck (kPc D (kTy cI cS cL) (stW cI a N v) sz [.ref (a 0), .int (nI k)]) (kRi (bI (decide (0 ≤ N 9 k ∧ N 9 k ≤ 2)))) 0 0 noF := by
  refine k_ofW (by decide) (Nat.le_of_ble_eq_true rfl) ?_
  intro p e s m args below meth c hx hb hr hml hts hown hlocks hnm hsz hP hK hD hE ls hl
  subst hsz
  have hl : lv_has ls 2 [(0, .ref (a 0)), (1, .int (nI k))] := hl
  refine lv_aload_n hx hb dX3_isOnTruck_0 rfl (lv_at hl 0 rfl) ?_
  refine g3 hx hb hts hown hK hP 0 rfl 14 (by decide) flX3_43 (fun _ h => h) (v := .ref (a 9)) rfl dX3_isOnTruck_1 ?_
  refine lv_iload_n hx hb dX3_isOnTruck_4 rfl (lv_at hl 1 rfl) ?_
  refine k_ald (k := k) hx hb hK hP 9 0 rfl rfl rfl (by omega) (by decide) dX3_isOnTruck_5 ?_
  refine lv_iconst (v := 0) hx hb dX3_isOnTruck_6 (by decide) ?_
  refine lv_iconst (v := 2) hx hb dX3_isOnTruck_7 (by decide) ?_
  refine k_riN (As := [.int (N 9 k), .int 0, .int 2]) (rest := []) (wc := []) ⟨hx, hb, hml, hown, hts⟩ (c_X4_isWithin l D cI cS cL _ (N 9 k) 0 2) hE.2.1 lkX4_34.1.2.2.1 lkX4_34.1.2.2.2 lkX4_34.1.2.1 lkX4_34.2 rfl rfl ⟨(Nat.le_of_ble_eq_true rfl), (Nat.le_of_ble_eq_true rfl)⟩ hK hE k_nilP (k_nilD (A := va_A (stW cI a N v) s.heap.size)) rfl hl.1 rfl (Nat.le_of_ble_eq_true rfl) dX3_isOnTruck_8 ⟨Nat.zero_le _, Nat.zero_le _⟩ ?_
  exact k_eRz hx hb hr hlocks (bI_nar _) rfl dX3_isOnTruck_11

abbrev rmX3_stepsHeld : Room := { frames := 3, cells := 0, slots := 0, locals := 57 }
set_option maxHeartbeats 4000000 in
set_option maxRecDepth 100000 in
theorem c_X3_stepsHeld (l : Launch) (D : va_G) (cI cS cL : ClassId) (a : Nat → Nat) (N : NN) (v : Nat → Int32) (sz : Nat) (k P : Nat) (hk : k < 14) (hPp : P ≤ 24) : Met l yX3_stepsHeld (wy_ yX3_stepsHeld cX3_stepsHeld 7 (some .int)) rmX3_stepsHeld (kPc D (kTy cI cS cL) (stW cI a N v) sz [.ref (a 0), .int (nI k), .int (nI P)]) (kRi (nI (p_held N k P))) 0 0 noF := by
  refine k_ofW (by decide) (Nat.le_of_ble_eq_true rfl) ?_
  intro p e s m args below meth c hx hb hr hml hts hown hlocks hnm hsz hP hK hD hE ls hl
  subst hsz
  have hl : lv_has ls 7 [(0, .ref (a 0)), (1, .int (nI k)), (2, .int (nI P))] := hl
  have hS6 := p_S_le hPp
  refine lv_iload_n hx hb dX3_stepsHeld_0 rfl (lv_at hl 2 rfl) ?_
  refine k_riS (As := [.int (nI P)]) (rest := []) (wc := []) ⟨hx, hb, hml, hown, hts⟩ (c_X3_stepsUpTo l D cI cS cL _ P (by omega)) lkX3_109 rfl rfl ⟨(Nat.le_of_ble_eq_true rfl), (Nat.le_of_ble_eq_true rfl)⟩ hK hE k_nilP (k_nilD (A := va_A (stW cI a N v) s.heap.size)) rfl hl.1 rfl (Nat.le_of_ble_eq_true rfl) dX3_stepsHeld_1 ⟨Nat.zero_le _, Nat.zero_le _⟩ ?_
  refine lv_istore_n (lv' := [(3, .int (nI (p_S P))), (0, .ref (a 0)), (1, .int (nI k)), (2, .int (nI P))]) hx hb dX3_stepsHeld_4 rfl hl (by decide) rfl (fun ls hl => ?_)
  refine lv_aload_n hx hb dX3_stepsHeld_5 rfl (lv_at hl 1 rfl) ?_
  refine g3 hx hb hts hown hK hP 0 rfl 12 (by decide) flX3_37 (fun _ h => h) (v := .ref (a 7)) rfl dX3_stepsHeld_6 ?_
  refine lv_iload_n hx hb dX3_stepsHeld_9 rfl (lv_at hl 2 rfl) ?_
  refine k_ald (k := k) hx hb hK hP 7 0 rfl rfl rfl (by omega) (by decide) dX3_stepsHeld_10 ?_
  refine lv_istore (lv' := [(4, .int (N 7 k)), (3, .int (nI (p_S P))), (0, .ref (a 0)), (1, .int (nI k)), (2, .int (nI P))]) hx hb dX3_stepsHeld_11 hl (by decide) rfl (fun ls hl => ?_)
  refine lv_iconst (v := 0) hx hb dX3_stepsHeld_13 (by decide) ?_
  refine lv_istore (lv' := [(5, .int 0), (4, .int (N 7 k)), (3, .int (nI (p_S P))), (0, .ref (a 0)), (1, .int (nI k)), (2, .int (nI P))]) hx hb dX3_stepsHeld_14 hl (by decide) rfl (fun ls hl => ?_)
  have L1 : ∀ (f j : Nat), j ≤ p_S P → p_S P - j < f → (hj : p_go N k P (p_S P - j) j = p_held N k P) → ∀ ls : Array Slot, lv_has ls 7 [(0, .ref (a 0)), (1, .int (nI k)), (2, .int (nI P)), (3, .int (nI (p_S P))), (4, .int (p_worn (N 7 k) j)), (5, .int (nI j))] → W p l e rmX3_stepsHeld s m args below meth c s.heap [] 0 0 (MQ below (kRi (nI (p_held N k P))) args s 0 0 noF) (F0 m 16 ls []) := by
    intro f
    induction f with
    | zero => intro j hv1 hv2; exact absurd hv2 (Nat.not_lt_zero _)
    | succ f ih =>
      intro j hv1 hv2 hj  ls hl
      refine lv_iload hx hb dX3_stepsHeld_16 (lv_at hl 5 rfl) ?_
      refine lv_iload_n hx hb dX3_stepsHeld_18 rfl (lv_at hl 3 rfl) ?_
      refine lv_icmp_ge (tgt := 66) hx hb dX3_stepsHeld_19 (by decide) (fun c2 => ?_) (fun c2 => ?_)
      · have c2' := Int32.not_lt.mpr c2
        have hjn : j = p_S P := k_exit (by omega) hv1 c2
        refine lv_iload_n hx hb dX3_stepsHeld_66 rfl (lv_at hl 3 rfl) ?_
        exact k_eRi hx hb hr hlocks (by rw [← hj, p_go_end hjn]) dX3_stepsHeld_67
      · have c2' := Int32.not_le.mp c2
        have hjn : j < p_S P := k_more (by omega) hv1 c2
        refine lv_iconst (v := 4) hx hb dX3_stepsHeld_22 (by decide) ?_
        refine lv_iload hx hb dX3_stepsHeld_23 (lv_at hl 5 rfl) ?_
        refine lv_iconst (v := 1) hx hb dX3_stepsHeld_25 (by decide) ?_
        refine lv_iadd hx hb dX3_stepsHeld_26 (lv_topi (fun x3 e3 => ?_))
        have q3 : x3 = nI (j + 1) := by rw [e3]; exact nI_1 _
        subst q3
        refine lv_imul hx hb dX3_stepsHeld_27 (lv_topi (fun x4 e4 => ?_))
        have q4 : x4 = nI (4 * (j + 1)) := by rw [e4]; exact pk_mul 4 (j + 1)
        subst q4
        refine lv_iload_n hx hb dX3_stepsHeld_28 rfl (lv_at hl 2 rfl) ?_
        refine va_mmin hx hb (hml.trans hl.1.symm) hown (hts _ wd_methodLink_RX3_112_Lib_Math_min_name) (hts _ wd_static_Lib_Math_min_name) (hts _ wd_initialized_java_lang_Math) (hts _ wd_code_Lib_Math_min_name_Lib_Math_min_code_2_some_int) (Nat.le_of_ble_eq_true rfl) (Nat.le_of_ble_eq_true rfl) (Nat.zero_le _) (Nat.zero_le _) dX3_stepsHeld_29 (lv_topi (fun x5 e5 => ?_))
        have q5 : x5 = nI (p_sp P j) := by rw [e5]; exact nI_sp hPp (by omega)
        subst q5
        refine lv_istore (lv' := [(6, .int (nI (p_sp P j))), (0, .ref (a 0)), (1, .int (nI k)), (2, .int (nI P)), (3, .int (nI (p_S P))), (4, .int (p_worn (N 7 k) j)), (5, .int (nI j))]) hx hb dX3_stepsHeld_32 hl (by decide) rfl (fun ls hl => ?_)
        refine lv_aload_n hx hb dX3_stepsHeld_34 rfl (lv_at hl 1 rfl) ?_
        refine lv_iload_n hx hb dX3_stepsHeld_35 rfl (lv_at hl 2 rfl) ?_
        refine lv_iload hx hb dX3_stepsHeld_36 (lv_at hl 5 rfl) ?_
        refine k_riV (As := [.int (nI k), .int (p_worn (N 7 k) j)]) (rest := []) (wc := stW cI a N v) ⟨hx, hb, hml, hown, hts⟩ (c_X3_strengthAt l D cI cS cL a N v _ k (p_worn (N 7 k) j) (by omega)) lkX3_117 rfl rfl ⟨(Nat.le_of_ble_eq_true rfl), (Nat.le_of_ble_eq_true rfl)⟩ (va_recv hK hP (ci := 2) (q0 := 0) rfl rfl) hK hE hP hD rfl hl.1 rfl (Nat.le_of_ble_eq_true rfl) dX3_stepsHeld_38 ⟨Nat.zero_le _, Nat.zero_le _⟩ ?_
        refine lv_iload hx hb dX3_stepsHeld_41 (lv_at hl 0 rfl) ?_
        refine lv_icmp_ge (tgt := 49) hx hb dX3_stepsHeld_43 (by decide) (fun c6 => ?_) (fun c6 => ?_)
        · have c6' := Int32.not_lt.mpr c6
          have hge := Int32.not_lt.mpr c6
          refine lv_bipush (v := 99) hx hb dX3_stepsHeld_49 (by decide) ?_
          refine lv_iload hx hb dX3_stepsHeld_51 (lv_at hl 5 rfl) ?_
          refine lv_iconst (v := 1) hx hb dX3_stepsHeld_53 (by decide) ?_
          refine lv_iadd hx hb dX3_stepsHeld_54 (lv_topi (fun x7 e7 => ?_))
          refine va_mmin hx hb (hml.trans hl.1.symm) hown (hts _ wd_methodLink_RX3_112_Lib_Math_min_name) (hts _ wd_static_Lib_Math_min_name) (hts _ wd_initialized_java_lang_Math) (hts _ wd_code_Lib_Math_min_name_Lib_Math_min_code_2_some_int) (Nat.le_of_ble_eq_true rfl) (Nat.le_of_ble_eq_true rfl) (Nat.zero_le _) (Nat.zero_le _) dX3_stepsHeld_55 (lv_topi (fun x8 e8 => ?_))
          refine lv_istore (lv' := [(4, .int x8), (6, .int (nI (p_sp P j))), (0, .ref (a 0)), (1, .int (nI k)), (2, .int (nI P)), (3, .int (nI (p_S P))), (5, .int (nI j))]) hx hb dX3_stepsHeld_58 hl (by decide) rfl (fun ls hl => ?_)
          refine lv_iinc (v := nI (j + 1)) (lv' := [(5, .int (nI (j + 1))), (4, .int x8), (6, .int (nI (p_sp P j))), (0, .ref (a 0)), (1, .int (nI k)), (2, .int (nI P)), (3, .int (nI (p_S P)))]) hx hb dX3_stepsHeld_60 hl (k := 6) rfl (nI_1 _) (by decide) rfl (fun ls hl => ?_)
          refine lv_goto (tgt := 16) hx hb dX3_stepsHeld_63 (by decide) ?_
          have hl : lv_has ls 7 [(0, .ref (a 0)), (1, .int (nI k)), (2, .int (nI P)), (3, .int (nI (p_S P))), (4, .int x8), (5, .int (nI (j + 1)))] := lv_sub hl [3, 4, 5, 6, 1, 0] rfl
          have w9 : x8 = p_worn (N 7 k) (j + 1) := by subst e7 e8; simp [hS6, c2, c2', hjn, c6, c6', hge, p_worn, mn]
          have hl : lv_has ls 7 [(0, .ref (a 0)), (1, .int (nI k)), (2, .int (nI P)), (3, .int (nI (p_S P))), (4, .int (p_worn (N 7 k) (j + 1))), (5, .int (nI (j + 1)))] := (congrArg (fun zz => lv_has ls 7 [(0, .ref (a 0)), (1, .int (nI k)), (2, .int (nI P)), (3, .int (nI (p_S P))), (4, .int zz), (5, .int (nI (j + 1)))]) w9).mp hl
          have hl : lv_has ls 7 [(0, .ref (a 0)), (1, .int (nI k)), (2, .int (nI P)), (3, .int (nI (p_S P))), (4, .int (p_worn (N 7 k) (j + 1))), (5, .int (nI (j + 1)))] := hl
          exact ih (j + 1) (by omega) (by omega) ((p_go_step hjn hge).symm.trans hj) ls hl
        · have c6' := Int32.not_le.mp c6
          have hlt := Int32.not_le.mp c6
          refine lv_iload hx hb dX3_stepsHeld_46 (lv_at hl 6 rfl) ?_
          exact k_eRi hx hb hr hlocks (by rw [← hj, p_go_stop hjn hlt]) dX3_stepsHeld_48
  have hl : lv_has ls 7 [(0, .ref (a 0)), (1, .int (nI k)), (2, .int (nI P)), (3, .int (nI (p_S P))), (4, .int (N 7 k)), (5, .int 0)] := lv_sub hl [3, 4, 5, 2, 1, 0] rfl
  have w10 : N 7 k = p_worn (N 7 k) 0 := by simp [hS6, p_worn, mn]
  have hl : lv_has ls 7 [(0, .ref (a 0)), (1, .int (nI k)), (2, .int (nI P)), (3, .int (nI (p_S P))), (4, .int (p_worn (N 7 k) 0)), (5, .int 0)] := (congrArg (fun zz => lv_has ls 7 [(0, .ref (a 0)), (1, .int (nI k)), (2, .int (nI P)), (3, .int (nI (p_S P))), (4, .int zz), (5, .int 0)]) w10).mp hl
  have hl : lv_has ls 7 [(0, .ref (a 0)), (1, .int (nI k)), (2, .int (nI P)), (3, .int (nI (p_S P))), (4, .int (p_worn (N 7 k) 0)), (5, .int (nI 0))] := hl
  exact L1 ((p_S P) - 0 + 1) 0 (by omega) (by omega) rfl ls hl

abbrev rmX3_outcomeOf : Room := { frames := 4, cells := 0, slots := 0, locals := 83 }
set_option maxHeartbeats 4000000 in
set_option maxRecDepth 100000 in
theorem c_X3_outcomeOf (l : Launch) (D : va_G) (cI cS cL : ClassId) (a : Nat → Nat) (N : NN) (v : Nat → Int32) (sz : Nat) (k P : Nat) (hk : k < 14) (hPp : P ≤ 24) : Met l yX3_outcomeOf (wy_ yX3_outcomeOf cX3_outcomeOf 4 (some .int)) rmX3_outcomeOf (kPc D (kTy cI cS cL) (stW cI a N v) sz [.ref (a 0), .int (nI k), .int (nI P)]) (kRi (p_out N k P)) 0 0 noF := by
  refine k_ofW (by decide) (Nat.le_of_ble_eq_true rfl) ?_
  intro p e s m args below meth c hx hb hr hml hts hown hlocks hnm hsz hP hK hD hE ls hl
  subst hsz
  have hl : lv_has ls 4 [(0, .ref (a 0)), (1, .int (nI k)), (2, .int (nI P))] := hl
  refine lv_aload_n hx hb dX3_outcomeOf_0 rfl (lv_at hl 0 rfl) ?_
  refine lv_iload_n hx hb dX3_outcomeOf_1 rfl (lv_at hl 1 rfl) ?_
  refine lv_iload_n hx hb dX3_outcomeOf_2 rfl (lv_at hl 2 rfl) ?_
  refine k_riV (As := [.int (nI k), .int (nI P)]) (rest := []) (wc := stW cI a N v) ⟨hx, hb, hml, hown, hts⟩ (c_X3_stepsHeld l D cI cS cL a N v _ k P (by omega) (by omega)) lkX3_120 rfl rfl ⟨(Nat.le_of_ble_eq_true rfl), (Nat.le_of_ble_eq_true rfl)⟩ (va_recv hK hP (ci := 2) (q0 := 0) rfl rfl) hK hE hP hD rfl hl.1 rfl (Nat.le_of_ble_eq_true rfl) dX3_outcomeOf_3 ⟨Nat.zero_le _, Nat.zero_le _⟩ ?_
  refine lv_istore_n (lv' := [(3, .int (nI (p_held N k P))), (0, .ref (a 0)), (1, .int (nI k)), (2, .int (nI P))]) hx hb dX3_outcomeOf_6 rfl hl (by decide) rfl (fun ls hl => ?_)
  refine lv_iload_n hx hb dX3_outcomeOf_7 rfl (lv_at hl 0 rfl) ?_
  refine lv_iload_n hx hb dX3_outcomeOf_8 rfl (lv_at hl 3 rfl) ?_
  refine k_riS (As := [.int (nI P)]) (rest := [.int (nI (p_held N k P))]) (wc := []) ⟨hx, hb, hml, hown, hts⟩ (c_X3_stepsUpTo l D cI cS cL _ P (by omega)) lkX3_109 rfl rfl ⟨(Nat.le_of_ble_eq_true rfl), (Nat.le_of_ble_eq_true rfl)⟩ hK hE k_nilP (k_nilD (A := va_A (stW cI a N v) s.heap.size)) rfl hl.1 rfl (Nat.le_of_ble_eq_true rfl) dX3_outcomeOf_9 ⟨Nat.zero_le _, Nat.zero_le _⟩ ?_
  refine lv_icmp_ge (tgt := 22) hx hb dX3_outcomeOf_12 (by decide) (fun c1 => ?_) (fun c1 => ?_)
  · have c1' := Int32.not_lt.mpr c1
    refine lv_iload_n hx hb dX3_outcomeOf_22 rfl (lv_at hl 0 rfl) ?_
    exact k_eRi hx hb hr hlocks (by exact p_out_ge hPp c1) dX3_outcomeOf_23
  · have c1' := Int32.not_le.mp c1
    refine lv_iload_n hx hb dX3_outcomeOf_15 rfl (lv_at hl 0 rfl) ?_
    refine lv_bipush (v := 100) hx hb dX3_outcomeOf_16 (by decide) ?_
    refine lv_iadd hx hb dX3_outcomeOf_18 (lv_topi (fun x2 e2 => ?_))
    have q2 : x2 = nI (p_held N k P + 100) := by rw [e2]; exact nI_add _ 100
    subst q2
    refine lv_goto (tgt := 23) hx hb dX3_outcomeOf_19 (by decide) ?_
    exact k_eRi hx hb hr hlocks (by exact p_out_lt hPp c1) dX3_outcomeOf_23

abbrev rmX3_greatestSafePressure : Room := { frames := 4, cells := 0, slots := 0, locals := 83 }
set_option maxHeartbeats 4000000 in
set_option maxRecDepth 100000 in
theorem c_X3_greatestSafePressure (l : Launch) (D : va_G) (cI cS cL : ClassId) (a : Nat → Nat) (N : NN) (v : Nat → Int32) (sz : Nat) (k : Nat) (hk : k < 14) : Met l yX3_greatestSafePressure (wy_ yX3_greatestSafePressure cX3_greatestSafePressure 3 (some .int)) rmX3_greatestSafePressure (kPc D (kTy cI cS cL) (stW cI a N v) sz [.ref (a 0), .int (nI k)]) (kRi (p_safe N k)) 0 0 noF := by
  refine k_ofW (by decide) (Nat.le_of_ble_eq_true rfl) ?_
  intro p e s m args below meth c hx hb hr hml hts hown hlocks hnm hsz hP hK hD hE ls hl
  subst hsz
  have hl : lv_has ls 3 [(0, .ref (a 0)), (1, .int (nI k))] := hl
  refine lv_bipush (v := 24) hx hb dX3_greatestSafePressure_0 (by decide) ?_
  refine lv_istore_n (lv' := [(2, .int 24), (0, .ref (a 0)), (1, .int (nI k))]) hx hb dX3_greatestSafePressure_2 rfl hl (by decide) rfl (fun ls hl => ?_)
  have L1 : ∀ (f j : Nat), j ≤ 21 → 21 - j < f → (hj : p_sf N k (21 - j) = p_safe N k) → ∀ ls : Array Slot, lv_has ls 3 [(0, .ref (a 0)), (1, .int (nI k)), (2, .int (nI (24 - j)))] → W p l e rmX3_greatestSafePressure s m args below meth c s.heap [] 0 0 (MQ below (kRi (p_safe N k)) args s 0 0 noF) (F0 m 3 ls []) := by
    intro f
    induction f with
    | zero => intro j hv1 hv2; exact absurd hv2 (Nat.not_lt_zero _)
    | succ f ih =>
      intro j hv1 hv2 hj  ls hl
      refine lv_iload_n hx hb dX3_greatestSafePressure_3 rfl (lv_at hl 2 rfl) ?_
      refine lv_iconst (v := 4) hx hb dX3_greatestSafePressure_4 (by decide) ?_
      refine lv_icmp_lt (tgt := 29) hx hb dX3_greatestSafePressure_5 (by decide) (fun c2 => ?_) (fun c2 => ?_)
      · have c2' := Int32.not_le.mpr c2
        have hjn := p_pr_lt hv1 c2
        refine lv_iconst (v := (-1)) hx hb dX3_greatestSafePressure_29 (by decide) ?_
        exact k_eRi hx hb hr hlocks (by rw [← hj, hjn]; rfl) dX3_greatestSafePressure_30
      · have c2' := Int32.not_lt.mp c2
        have hjn := p_pr_ge hv1 c2
        refine lv_aload_n hx hb dX3_greatestSafePressure_8 rfl (lv_at hl 0 rfl) ?_
        refine lv_iload_n hx hb dX3_greatestSafePressure_9 rfl (lv_at hl 1 rfl) ?_
        refine lv_iload_n hx hb dX3_greatestSafePressure_10 rfl (lv_at hl 2 rfl) ?_
        refine k_riV (As := [.int (nI k), .int (nI (24 - j))]) (rest := []) (wc := stW cI a N v) ⟨hx, hb, hml, hown, hts⟩ (c_X3_stepsHeld l D cI cS cL a N v _ k (24 - j) (by omega) (by omega)) lkX3_120 rfl rfl ⟨(Nat.le_of_ble_eq_true rfl), (Nat.le_of_ble_eq_true rfl)⟩ (va_recv hK hP (ci := 2) (q0 := 0) rfl rfl) hK hE hP hD rfl hl.1 rfl (Nat.le_of_ble_eq_true rfl) dX3_greatestSafePressure_11 ⟨Nat.zero_le _, Nat.zero_le _⟩ ?_
        refine lv_iload_n hx hb dX3_greatestSafePressure_14 rfl (lv_at hl 2 rfl) ?_
        refine k_riS (As := [.int (nI (24 - j))]) (rest := [.int (nI (p_held N k (24 - j)))]) (wc := []) ⟨hx, hb, hml, hown, hts⟩ (c_X3_stepsUpTo l D cI cS cL _ (24 - j) (by omega)) lkX3_109 rfl rfl ⟨(Nat.le_of_ble_eq_true rfl), (Nat.le_of_ble_eq_true rfl)⟩ hK hE k_nilP (k_nilD (A := va_A (stW cI a N v) s.heap.size)) rfl hl.1 rfl (Nat.le_of_ble_eq_true rfl) dX3_greatestSafePressure_15 ⟨Nat.zero_le _, Nat.zero_le _⟩ ?_
        refine lv_icmp_ne (tgt := 23) hx hb dX3_greatestSafePressure_18 (by decide) (fun c3 => ?_) (fun c3 => ?_)
        · have hne := c3
          refine lv_iinc (v := nI (24 - (j + 1))) (lv' := [(2, .int (nI (24 - (j + 1)))), (0, .ref (a 0)), (1, .int (nI k))]) hx hb dX3_greatestSafePressure_23 hl (k := 2) rfl (nI_dec (by omega)) (by decide) rfl (fun ls hl => ?_)
          refine lv_goto (tgt := 3) hx hb dX3_greatestSafePressure_26 (by decide) ?_
          have hl : lv_has ls 3 [(0, .ref (a 0)), (1, .int (nI k)), (2, .int (nI (24 - (j + 1))))] := lv_sub hl [1, 2, 0] rfl
          have hl : lv_has ls 3 [(0, .ref (a 0)), (1, .int (nI k)), (2, .int (nI (24 - (j + 1))))] := hl
          exact ih (j + 1) (by omega) (by omega) ((p_sf_miss hjn hne).symm.trans hj) ls hl
        · have heq := c3
          refine lv_iload_n hx hb dX3_greatestSafePressure_21 rfl (lv_at hl 2 rfl) ?_
          exact k_eRi hx hb hr hlocks (by rw [← hj, p_sf_hit hjn heq]) dX3_greatestSafePressure_22
  have hl : lv_has ls 3 [(0, .ref (a 0)), (1, .int (nI k)), (2, .int 24)] := lv_sub hl [1, 2, 0] rfl
  have hl : lv_has ls 3 [(0, .ref (a 0)), (1, .int (nI k)), (2, .int (nI (24 - 0)))] := hl
  exact L1 (21 - 0 + 1) 0 (by omega) (by omega) rfl ls hl

abbrev rmX3_hosesAt : Room := { frames := 0, cells := 0, slots := 0, locals := 0 }
set_option maxHeartbeats 4000000 in
set_option maxRecDepth 100000 in
theorem c_X3_hosesAt (l : Launch) (D : va_G) (cI cS cL : ClassId) (a : Nat → Nat) (N : NN) (v : Nat → Int32) (sz : Nat) (n : Nat) (w : Int32) (hn : N 1 2 = nI n) (hn14 : n ≤ 14) : Met l yX3_hosesAt (wy_ yX3_hosesAt cX3_hosesAt 4 (some .int)) rmX3_hosesAt (kPc D (kTy cI cS cL) (stW cI a N v) sz [.ref (a 0), .int w]) (kRi (p_at N w n)) 0 0 noF := by
  refine k_ofW (by decide) (Nat.le_of_ble_eq_true rfl) ?_
  intro p e s m args below meth c hx hb hr hml hts hown hlocks hnm hsz hP hK hD hE ls hl
  subst hsz
  have hl : lv_has ls 4 [(0, .ref (a 0)), (1, .int w)] := hl
  refine lv_iconst (v := 0) hx hb dX3_hosesAt_0 (by decide) ?_
  refine lv_istore_n (lv' := [(2, .int 0), (0, .ref (a 0)), (1, .int w)]) hx hb dX3_hosesAt_1 rfl hl (by decide) rfl (fun ls hl => ?_)
  refine lv_iconst (v := 0) hx hb dX3_hosesAt_2 (by decide) ?_
  refine lv_istore_n (lv' := [(3, .int 0), (2, .int 0), (0, .ref (a 0)), (1, .int w)]) hx hb dX3_hosesAt_3 rfl hl (by decide) rfl (fun ls hl => ?_)
  have L1 : ∀ (f k : Nat), k ≤ n → n - k < f → ∀ ls : Array Slot, lv_has ls 4 [(0, .ref (a 0)), (1, .int w), (2, .int (p_at N w k)), (3, .int (nI k))] → W p l e rmX3_hosesAt s m args below meth c s.heap [] 0 0 (MQ below (kRi (p_at N w n)) args s 0 0 noF) (F0 m 4 ls []) := by
    intro f
    induction f with
    | zero => intro k hv1 hv2; exact absurd hv2 (Nat.not_lt_zero _)
    | succ f ih =>
      intro k hv1 hv2  ls hl
      refine lv_iload_n hx hb dX3_hosesAt_4 rfl (lv_at hl 3 rfl) ?_
      refine lv_aload_n hx hb dX3_hosesAt_5 rfl (lv_at hl 0 rfl) ?_
      refine g3 hx hb hts hown hK hP 0 rfl 2 (by decide) flX3_56 (fun _ h => h) (v := .int (nI n)) (by rw [← hn]; rfl) dX3_hosesAt_6 ?_
      refine lv_icmp_ge (tgt := 31) hx hb dX3_hosesAt_9 (by decide) (fun c2 => ?_) (fun c2 => ?_)
      · have c2' := Int32.not_lt.mpr c2
        have hkn : n = k := (k_exit (by omega) hv1 c2).symm
        subst hkn
        refine lv_iload_n hx hb dX3_hosesAt_31 rfl (lv_at hl 2 rfl) ?_
        exact k_eRi hx hb hr hlocks rfl dX3_hosesAt_32
      · have c2' := Int32.not_le.mp c2
        have hkn : k < n := k_more (by omega) hv1 c2
        refine lv_aload_n hx hb dX3_hosesAt_12 rfl (lv_at hl 0 rfl) ?_
        refine g3 hx hb hts hown hK hP 0 rfl 14 (by decide) flX3_43 (fun _ h => h) (v := .ref (a 9)) rfl dX3_hosesAt_13 ?_
        refine lv_iload_n hx hb dX3_hosesAt_16 rfl (lv_at hl 3 rfl) ?_
        refine k_ald (k := k) hx hb hK hP 9 0 rfl rfl rfl (by omega) (by decide) dX3_hosesAt_17 ?_
        refine lv_iload_n hx hb dX3_hosesAt_18 rfl (lv_at hl 1 rfl) ?_
        refine lv_icmp_ne (tgt := 25) hx hb dX3_hosesAt_19 (by decide) (fun c3 => ?_) (fun c3 => ?_)
        · refine lv_iinc (v := nI (k + 1)) (lv' := [(3, .int (nI (k + 1))), (0, .ref (a 0)), (1, .int w), (2, .int (p_at N w k))]) hx hb dX3_hosesAt_25 hl (k := 3) rfl (nI_1 _) (by decide) rfl (fun ls hl => ?_)
          refine lv_goto (tgt := 4) hx hb dX3_hosesAt_28 (by decide) ?_
          have hl : lv_has ls 4 [(0, .ref (a 0)), (1, .int w), (2, .int (p_at N w k)), (3, .int (nI (k + 1)))] := lv_sub hl [1, 2, 3, 0] rfl
          have w4 : p_at N w k = p_at N w (k + 1) := by simp [p_at, c2, c2', hkn, c3]
          have hl : lv_has ls 4 [(0, .ref (a 0)), (1, .int w), (2, .int (p_at N w (k + 1))), (3, .int (nI (k + 1)))] := (congrArg (fun zz => lv_has ls 4 [(0, .ref (a 0)), (1, .int w), (2, .int zz), (3, .int (nI (k + 1)))]) w4).mp hl
          have hl : lv_has ls 4 [(0, .ref (a 0)), (1, .int w), (2, .int (p_at N w (k + 1))), (3, .int (nI (k + 1)))] := hl
          exact ih (k + 1) (by omega) (by omega) ls hl
        · obtain ⟨x5, e5⟩ : ∃ z : Int32, z = (p_at N w k) + 1 := ⟨_, rfl⟩
          refine lv_iinc (v := x5) (lv' := [(2, .int x5), (0, .ref (a 0)), (1, .int w), (3, .int (nI k))]) hx hb dX3_hosesAt_22 hl (k := 2) rfl (by rw [e5]; rfl) (by decide) rfl (fun ls hl => ?_)
          refine lv_iinc (v := nI (k + 1)) (lv' := [(3, .int (nI (k + 1))), (2, .int x5), (0, .ref (a 0)), (1, .int w)]) hx hb dX3_hosesAt_25 hl (k := 3) rfl (nI_1 _) (by decide) rfl (fun ls hl => ?_)
          refine lv_goto (tgt := 4) hx hb dX3_hosesAt_28 (by decide) ?_
          have hl : lv_has ls 4 [(0, .ref (a 0)), (1, .int w), (2, .int x5), (3, .int (nI (k + 1)))] := lv_sub hl [2, 3, 1, 0] rfl
          have w6 : x5 = p_at N w (k + 1) := by subst e5; simp [p_at, c2, c2', hkn, c3]
          have hl : lv_has ls 4 [(0, .ref (a 0)), (1, .int w), (2, .int (p_at N w (k + 1))), (3, .int (nI (k + 1)))] := (congrArg (fun zz => lv_has ls 4 [(0, .ref (a 0)), (1, .int w), (2, .int zz), (3, .int (nI (k + 1)))]) w6).mp hl
          have hl : lv_has ls 4 [(0, .ref (a 0)), (1, .int w), (2, .int (p_at N w (k + 1))), (3, .int (nI (k + 1)))] := hl
          exact ih (k + 1) (by omega) (by omega) ls hl
  have hl : lv_has ls 4 [(0, .ref (a 0)), (1, .int w), (2, .int 0), (3, .int 0)] := lv_sub hl [2, 3, 1, 0] rfl
  have hl : lv_has ls 4 [(0, .ref (a 0)), (1, .int w), (2, .int (p_at N w 0)), (3, .int (nI 0))] := hl
  exact L1 (n - 0 + 1) 0 (by omega) (by omega) ls hl

abbrev rmX3_readyHosesAt : Room := { frames := 3, cells := 0, slots := 0, locals := 63 }
set_option maxHeartbeats 4000000 in
set_option maxRecDepth 100000 in
theorem c_X3_readyHosesAt (l : Launch) (D : va_G) (cI cS cL : ClassId) (a : Nat → Nat) (N : NN) (v : Nat → Int32) (sz : Nat) (n : Nat) (w : Int32) (hn : N 1 2 = nI n) (hn14 : n ≤ 14) : Met l yX3_readyHosesAt (wy_ yX3_readyHosesAt cX3_readyHosesAt 4 (some .int)) rmX3_readyHosesAt (kPc D (kTy cI cS cL) (stW cI a N v) sz [.ref (a 0), .int w]) (kRi (p_ra N w n)) 0 0 noF := by
  refine k_ofW (by decide) (Nat.le_of_ble_eq_true rfl) ?_
  intro p e s m args below meth c hx hb hr hml hts hown hlocks hnm hsz hP hK hD hE ls hl
  subst hsz
  have hl : lv_has ls 4 [(0, .ref (a 0)), (1, .int w)] := hl
  refine lv_iconst (v := 0) hx hb dX3_readyHosesAt_0 (by decide) ?_
  refine lv_istore_n (lv' := [(2, .int 0), (0, .ref (a 0)), (1, .int w)]) hx hb dX3_readyHosesAt_1 rfl hl (by decide) rfl (fun ls hl => ?_)
  refine lv_iconst (v := 0) hx hb dX3_readyHosesAt_2 (by decide) ?_
  refine lv_istore_n (lv' := [(3, .int 0), (2, .int 0), (0, .ref (a 0)), (1, .int w)]) hx hb dX3_readyHosesAt_3 rfl hl (by decide) rfl (fun ls hl => ?_)
  have L1 : ∀ (f k : Nat), k ≤ n → n - k < f → ∀ ls : Array Slot, lv_has ls 4 [(0, .ref (a 0)), (1, .int w), (2, .int (p_ra N w k)), (3, .int (nI k))] → W p l e rmX3_readyHosesAt s m args below meth c s.heap [] 0 0 (MQ below (kRi (p_ra N w n)) args s 0 0 noF) (F0 m 4 ls []) := by
    intro f
    induction f with
    | zero => intro k hv1 hv2; exact absurd hv2 (Nat.not_lt_zero _)
    | succ f ih =>
      intro k hv1 hv2  ls hl
      refine lv_iload_n hx hb dX3_readyHosesAt_4 rfl (lv_at hl 3 rfl) ?_
      refine lv_aload_n hx hb dX3_readyHosesAt_5 rfl (lv_at hl 0 rfl) ?_
      refine g3 hx hb hts hown hK hP 0 rfl 2 (by decide) flX3_56 (fun _ h => h) (v := .int (nI n)) (by rw [← hn]; rfl) dX3_readyHosesAt_6 ?_
      refine lv_icmp_ge (tgt := 39) hx hb dX3_readyHosesAt_9 (by decide) (fun c2 => ?_) (fun c2 => ?_)
      · have c2' := Int32.not_lt.mpr c2
        have hkn : n = k := (k_exit (by omega) hv1 c2).symm
        subst hkn
        refine lv_iload_n hx hb dX3_readyHosesAt_39 rfl (lv_at hl 2 rfl) ?_
        exact k_eRi hx hb hr hlocks rfl dX3_readyHosesAt_40
      · have c2' := Int32.not_le.mp c2
        have hkn : k < n := k_more (by omega) hv1 c2
        refine lv_aload_n hx hb dX3_readyHosesAt_12 rfl (lv_at hl 0 rfl) ?_
        refine g3 hx hb hts hown hK hP 0 rfl 14 (by decide) flX3_43 (fun _ h => h) (v := .ref (a 9)) rfl dX3_readyHosesAt_13 ?_
        refine lv_iload_n hx hb dX3_readyHosesAt_16 rfl (lv_at hl 3 rfl) ?_
        refine k_ald (k := k) hx hb hK hP 9 0 rfl rfl rfl (by omega) (by decide) dX3_readyHosesAt_17 ?_
        refine lv_iload_n hx hb dX3_readyHosesAt_18 rfl (lv_at hl 1 rfl) ?_
        refine lv_icmp_ne (tgt := 33) hx hb dX3_readyHosesAt_19 (by decide) (fun c3 => ?_) (fun c3 => ?_)
        · refine lv_iinc (v := nI (k + 1)) (lv' := [(3, .int (nI (k + 1))), (0, .ref (a 0)), (1, .int w), (2, .int (p_ra N w k))]) hx hb dX3_readyHosesAt_33 hl (k := 3) rfl (nI_1 _) (by decide) rfl (fun ls hl => ?_)
          refine lv_goto (tgt := 4) hx hb dX3_readyHosesAt_36 (by decide) ?_
          have hl : lv_has ls 4 [(0, .ref (a 0)), (1, .int w), (2, .int (p_ra N w k)), (3, .int (nI (k + 1)))] := lv_sub hl [1, 2, 3, 0] rfl
          have w4 : p_ra N w k = p_ra N w (k + 1) := by simp [p_ra, c2, c2', hkn, c3]
          have hl : lv_has ls 4 [(0, .ref (a 0)), (1, .int w), (2, .int (p_ra N w (k + 1))), (3, .int (nI (k + 1)))] := (congrArg (fun zz => lv_has ls 4 [(0, .ref (a 0)), (1, .int w), (2, .int zz), (3, .int (nI (k + 1)))]) w4).mp hl
          have hl : lv_has ls 4 [(0, .ref (a 0)), (1, .int w), (2, .int (p_ra N w (k + 1))), (3, .int (nI (k + 1)))] := hl
          exact ih (k + 1) (by omega) (by omega) ls hl
        · refine lv_aload_n hx hb dX3_readyHosesAt_22 rfl (lv_at hl 0 rfl) ?_
          refine lv_iload_n hx hb dX3_readyHosesAt_23 rfl (lv_at hl 3 rfl) ?_
          refine k_riV (As := [.int (nI k)]) (rest := []) (wc := stW cI a N v) ⟨hx, hb, hml, hown, hts⟩ (c_X3_isReady l D cI cS cL a N v _ k (by omega)) lkX3_138 rfl rfl ⟨(Nat.le_of_ble_eq_true rfl), (Nat.le_of_ble_eq_true rfl)⟩ (va_recv hK hP (ci := 2) (q0 := 0) rfl rfl) hK hE hP hD rfl hl.1 rfl (Nat.le_of_ble_eq_true rfl) dX3_readyHosesAt_24 ⟨Nat.zero_le _, Nat.zero_le _⟩ ?_
          refine lv_if_eq (tgt := 33) hx hb dX3_readyHosesAt_27 (by decide) (fun c5 => ?_) (fun c5 => ?_)
          · have c5 := bI_eq0 c5
            refine lv_iinc (v := nI (k + 1)) (lv' := [(3, .int (nI (k + 1))), (0, .ref (a 0)), (1, .int w), (2, .int (p_ra N w k))]) hx hb dX3_readyHosesAt_33 hl (k := 3) rfl (nI_1 _) (by decide) rfl (fun ls hl => ?_)
            refine lv_goto (tgt := 4) hx hb dX3_readyHosesAt_36 (by decide) ?_
            have hl : lv_has ls 4 [(0, .ref (a 0)), (1, .int w), (2, .int (p_ra N w k)), (3, .int (nI (k + 1)))] := lv_sub hl [1, 2, 3, 0] rfl
            have w6 : p_ra N w k = p_ra N w (k + 1) := by simp [p_ra, c2, c2', hkn, c3, c5]
            have hl : lv_has ls 4 [(0, .ref (a 0)), (1, .int w), (2, .int (p_ra N w (k + 1))), (3, .int (nI (k + 1)))] := (congrArg (fun zz => lv_has ls 4 [(0, .ref (a 0)), (1, .int w), (2, .int zz), (3, .int (nI (k + 1)))]) w6).mp hl
            have hl : lv_has ls 4 [(0, .ref (a 0)), (1, .int w), (2, .int (p_ra N w (k + 1))), (3, .int (nI (k + 1)))] := hl
            exact ih (k + 1) (by omega) (by omega) ls hl
          · have c5 := bI_ne0 c5
            obtain ⟨x7, e7⟩ : ∃ z : Int32, z = (p_ra N w k) + 1 := ⟨_, rfl⟩
            refine lv_iinc (v := x7) (lv' := [(2, .int x7), (0, .ref (a 0)), (1, .int w), (3, .int (nI k))]) hx hb dX3_readyHosesAt_30 hl (k := 2) rfl (by rw [e7]; rfl) (by decide) rfl (fun ls hl => ?_)
            refine lv_iinc (v := nI (k + 1)) (lv' := [(3, .int (nI (k + 1))), (2, .int x7), (0, .ref (a 0)), (1, .int w)]) hx hb dX3_readyHosesAt_33 hl (k := 3) rfl (nI_1 _) (by decide) rfl (fun ls hl => ?_)
            refine lv_goto (tgt := 4) hx hb dX3_readyHosesAt_36 (by decide) ?_
            have hl : lv_has ls 4 [(0, .ref (a 0)), (1, .int w), (2, .int x7), (3, .int (nI (k + 1)))] := lv_sub hl [2, 3, 1, 0] rfl
            have w8 : x7 = p_ra N w (k + 1) := by subst e7; simp [p_ra, c2, c2', hkn, c3, c5]
            have hl : lv_has ls 4 [(0, .ref (a 0)), (1, .int w), (2, .int (p_ra N w (k + 1))), (3, .int (nI (k + 1)))] := (congrArg (fun zz => lv_has ls 4 [(0, .ref (a 0)), (1, .int w), (2, .int zz), (3, .int (nI (k + 1)))]) w8).mp hl
            have hl : lv_has ls 4 [(0, .ref (a 0)), (1, .int w), (2, .int (p_ra N w (k + 1))), (3, .int (nI (k + 1)))] := hl
            exact ih (k + 1) (by omega) (by omega) ls hl
  have hl : lv_has ls 4 [(0, .ref (a 0)), (1, .int w), (2, .int 0), (3, .int 0)] := lv_sub hl [2, 3, 1, 0] rfl
  have hl : lv_has ls 4 [(0, .ref (a 0)), (1, .int w), (2, .int (p_ra N w 0)), (3, .int (nI 0))] := hl
  exact L1 (n - 0 + 1) 0 (by omega) (by omega) ls hl

abbrev rmX3_readyHoses : Room := { frames := 3, cells := 0, slots := 0, locals := 63 }
set_option maxHeartbeats 4000000 in
set_option maxRecDepth 100000 in
theorem c_X3_readyHoses (l : Launch) (D : va_G) (cI cS cL : ClassId) (a : Nat → Nat) (N : NN) (v : Nat → Int32) (sz : Nat) (n : Nat) (hn : N 1 2 = nI n) (hn14 : n ≤ 14) : Met l yX3_readyHoses (wy_ yX3_readyHoses cX3_readyHoses 3 (some .int)) rmX3_readyHoses (kPc D (kTy cI cS cL) (stW cI a N v) sz [.ref (a 0)]) (kRi (p_rh N n)) 0 0 noF := by
  refine k_ofW (by decide) (Nat.le_of_ble_eq_true rfl) ?_
  intro p e s m args below meth c hx hb hr hml hts hown hlocks hnm hsz hP hK hD hE ls hl
  subst hsz
  have hl : lv_has ls 3 [(0, .ref (a 0))] := hl
  refine lv_iconst (v := 0) hx hb dX3_readyHoses_0 (by decide) ?_
  refine lv_istore_n (lv' := [(1, .int 0), (0, .ref (a 0))]) hx hb dX3_readyHoses_1 rfl hl (by decide) rfl (fun ls hl => ?_)
  refine lv_iconst (v := 0) hx hb dX3_readyHoses_2 (by decide) ?_
  refine lv_istore_n (lv' := [(2, .int 0), (1, .int 0), (0, .ref (a 0))]) hx hb dX3_readyHoses_3 rfl hl (by decide) rfl (fun ls hl => ?_)
  have L1 : ∀ (f k : Nat), k ≤ n → n - k < f → ∀ ls : Array Slot, lv_has ls 3 [(0, .ref (a 0)), (1, .int (p_rh N k)), (2, .int (nI k))] → W p l e rmX3_readyHoses s m args below meth c s.heap [] 0 0 (MQ below (kRi (p_rh N n)) args s 0 0 noF) (F0 m 4 ls []) := by
    intro f
    induction f with
    | zero => intro k hv1 hv2; exact absurd hv2 (Nat.not_lt_zero _)
    | succ f ih =>
      intro k hv1 hv2  ls hl
      refine lv_iload_n hx hb dX3_readyHoses_4 rfl (lv_at hl 2 rfl) ?_
      refine lv_aload_n hx hb dX3_readyHoses_5 rfl (lv_at hl 0 rfl) ?_
      refine g3 hx hb hts hown hK hP 0 rfl 2 (by decide) flX3_56 (fun _ h => h) (v := .int (nI n)) (by rw [← hn]; rfl) dX3_readyHoses_6 ?_
      refine lv_icmp_ge (tgt := 29) hx hb dX3_readyHoses_9 (by decide) (fun c2 => ?_) (fun c2 => ?_)
      · have c2' := Int32.not_lt.mpr c2
        have hkn : n = k := (k_exit (by omega) hv1 c2).symm
        subst hkn
        refine lv_iload_n hx hb dX3_readyHoses_29 rfl (lv_at hl 1 rfl) ?_
        exact k_eRi hx hb hr hlocks rfl dX3_readyHoses_30
      · have c2' := Int32.not_le.mp c2
        have hkn : k < n := k_more (by omega) hv1 c2
        refine lv_aload_n hx hb dX3_readyHoses_12 rfl (lv_at hl 0 rfl) ?_
        refine lv_iload_n hx hb dX3_readyHoses_13 rfl (lv_at hl 2 rfl) ?_
        refine k_riV (As := [.int (nI k)]) (rest := []) (wc := stW cI a N v) ⟨hx, hb, hml, hown, hts⟩ (c_X3_isReady l D cI cS cL a N v _ k (by omega)) lkX3_138 rfl rfl ⟨(Nat.le_of_ble_eq_true rfl), (Nat.le_of_ble_eq_true rfl)⟩ (va_recv hK hP (ci := 2) (q0 := 0) rfl rfl) hK hE hP hD rfl hl.1 rfl (Nat.le_of_ble_eq_true rfl) dX3_readyHoses_14 ⟨Nat.zero_le _, Nat.zero_le _⟩ ?_
        refine lv_if_eq (tgt := 23) hx hb dX3_readyHoses_17 (by decide) (fun c3 => ?_) (fun c3 => ?_)
        · have c3 := bI_eq0 c3
          refine lv_iinc (v := nI (k + 1)) (lv' := [(2, .int (nI (k + 1))), (0, .ref (a 0)), (1, .int (p_rh N k))]) hx hb dX3_readyHoses_23 hl (k := 2) rfl (nI_1 _) (by decide) rfl (fun ls hl => ?_)
          refine lv_goto (tgt := 4) hx hb dX3_readyHoses_26 (by decide) ?_
          have hl : lv_has ls 3 [(0, .ref (a 0)), (1, .int (p_rh N k)), (2, .int (nI (k + 1)))] := lv_sub hl [1, 2, 0] rfl
          have w4 : p_rh N k = p_rh N (k + 1) := by simp [p_rh, c2, c2', hkn, c3]
          have hl : lv_has ls 3 [(0, .ref (a 0)), (1, .int (p_rh N (k + 1))), (2, .int (nI (k + 1)))] := (congrArg (fun zz => lv_has ls 3 [(0, .ref (a 0)), (1, .int zz), (2, .int (nI (k + 1)))]) w4).mp hl
          have hl : lv_has ls 3 [(0, .ref (a 0)), (1, .int (p_rh N (k + 1))), (2, .int (nI (k + 1)))] := hl
          exact ih (k + 1) (by omega) (by omega) ls hl
        · have c3 := bI_ne0 c3
          obtain ⟨x5, e5⟩ : ∃ z : Int32, z = (p_rh N k) + 1 := ⟨_, rfl⟩
          refine lv_iinc (v := x5) (lv' := [(1, .int x5), (0, .ref (a 0)), (2, .int (nI k))]) hx hb dX3_readyHoses_20 hl (k := 1) rfl (by rw [e5]; rfl) (by decide) rfl (fun ls hl => ?_)
          refine lv_iinc (v := nI (k + 1)) (lv' := [(2, .int (nI (k + 1))), (1, .int x5), (0, .ref (a 0))]) hx hb dX3_readyHoses_23 hl (k := 2) rfl (nI_1 _) (by decide) rfl (fun ls hl => ?_)
          refine lv_goto (tgt := 4) hx hb dX3_readyHoses_26 (by decide) ?_
          have hl : lv_has ls 3 [(0, .ref (a 0)), (1, .int x5), (2, .int (nI (k + 1)))] := lv_sub hl [2, 1, 0] rfl
          have w6 : x5 = p_rh N (k + 1) := by subst e5; simp [p_rh, c2, c2', hkn, c3]
          have hl : lv_has ls 3 [(0, .ref (a 0)), (1, .int (p_rh N (k + 1))), (2, .int (nI (k + 1)))] := (congrArg (fun zz => lv_has ls 3 [(0, .ref (a 0)), (1, .int zz), (2, .int (nI (k + 1)))]) w6).mp hl
          have hl : lv_has ls 3 [(0, .ref (a 0)), (1, .int (p_rh N (k + 1))), (2, .int (nI (k + 1)))] := hl
          exact ih (k + 1) (by omega) (by omega) ls hl
  have hl : lv_has ls 3 [(0, .ref (a 0)), (1, .int 0), (2, .int 0)] := lv_sub hl [2, 1, 0] rfl
  have hl : lv_has ls 3 [(0, .ref (a 0)), (1, .int (p_rh N 0)), (2, .int (nI 0))] := hl
  exact L1 (n - 0 + 1) 0 (by omega) (by omega) ls hl

abbrev rmX3_daysToFirstLapse : Room := { frames := 3, cells := 0, slots := 0, locals := 63 }
set_option maxHeartbeats 4000000 in
set_option maxRecDepth 100000 in
theorem c_X3_daysToFirstLapse (l : Launch) (D : va_G) (cI cS cL : ClassId) (a : Nat → Nat) (N : NN) (v : Nat → Int32) (sz : Nat) (n : Nat) (hn : N 1 2 = nI n) (hn14 : n ≤ 14) : Met l yX3_daysToFirstLapse (wy_ yX3_daysToFirstLapse cX3_daysToFirstLapse 5 (some .int)) rmX3_daysToFirstLapse (kPc D (kTy cI cS cL) (stW cI a N v) sz [.ref (a 0)]) (kRi (p_fl N n)) 0 0 noF := by
  refine k_ofW (by decide) (Nat.le_of_ble_eq_true rfl) ?_
  intro p e s m args below meth c hx hb hr hml hts hown hlocks hnm hsz hP hK hD hE ls hl
  subst hsz
  have hl : lv_has ls 5 [(0, .ref (a 0))] := hl
  refine lv_iconst (v := (-1)) hx hb dX3_daysToFirstLapse_0 (by decide) ?_
  refine lv_istore_n (lv' := [(1, .int (-1)), (0, .ref (a 0))]) hx hb dX3_daysToFirstLapse_1 rfl hl (by decide) rfl (fun ls hl => ?_)
  refine lv_iconst (v := 0) hx hb dX3_daysToFirstLapse_2 (by decide) ?_
  refine lv_istore_n (lv' := [(2, .int 0), (1, .int (-1)), (0, .ref (a 0))]) hx hb dX3_daysToFirstLapse_3 rfl hl (by decide) rfl (fun ls hl => ?_)
  have L1 : ∀ (f k : Nat), k ≤ n → n - k < f → ∀ ls : Array Slot, lv_has ls 5 [(0, .ref (a 0)), (1, .int (p_fl N k)), (2, .int (nI k))] → W p l e rmX3_daysToFirstLapse s m args below meth c s.heap [] 0 0 (MQ below (kRi (p_fl N n)) args s 0 0 noF) (F0 m 4 ls []) := by
    intro f
    induction f with
    | zero => intro k hv1 hv2; exact absurd hv2 (Nat.not_lt_zero _)
    | succ f ih =>
      intro k hv1 hv2  ls hl
      refine lv_iload_n hx hb dX3_daysToFirstLapse_4 rfl (lv_at hl 2 rfl) ?_
      refine lv_aload_n hx hb dX3_daysToFirstLapse_5 rfl (lv_at hl 0 rfl) ?_
      refine g3 hx hb hts hown hK hP 0 rfl 2 (by decide) flX3_56 (fun _ h => h) (v := .int (nI n)) (by rw [← hn]; rfl) dX3_daysToFirstLapse_6 ?_
      refine lv_icmp_ge (tgt := 79) hx hb dX3_daysToFirstLapse_9 (by decide) (fun c2 => ?_) (fun c2 => ?_)
      · have c2' := Int32.not_lt.mpr c2
        have hkn : n = k := (k_exit (by omega) hv1 c2).symm
        subst hkn
        refine lv_iload_n hx hb dX3_daysToFirstLapse_79 rfl (lv_at hl 1 rfl) ?_
        exact k_eRi hx hb hr hlocks rfl dX3_daysToFirstLapse_80
      · have c2' := Int32.not_le.mp c2
        have hkn : k < n := k_more (by omega) hv1 c2
        refine lv_aload_n hx hb dX3_daysToFirstLapse_12 rfl (lv_at hl 0 rfl) ?_
        refine lv_iload_n hx hb dX3_daysToFirstLapse_13 rfl (lv_at hl 2 rfl) ?_
        refine k_riV (As := [.int (nI k)]) (rest := []) (wc := stW cI a N v) ⟨hx, hb, hml, hown, hts⟩ (c_X3_isReady l D cI cS cL a N v _ k (by omega)) lkX3_138 rfl rfl ⟨(Nat.le_of_ble_eq_true rfl), (Nat.le_of_ble_eq_true rfl)⟩ (va_recv hK hP (ci := 2) (q0 := 0) rfl rfl) hK hE hP hD rfl hl.1 rfl (Nat.le_of_ble_eq_true rfl) dX3_daysToFirstLapse_14 ⟨Nat.zero_le _, Nat.zero_le _⟩ ?_
        refine lv_if_eq (tgt := 73) hx hb dX3_daysToFirstLapse_17 (by decide) (fun c3 => ?_) (fun c3 => ?_)
        · have c3 := bI_eq0 c3
          refine lv_iinc (v := nI (k + 1)) (lv' := [(2, .int (nI (k + 1))), (0, .ref (a 0)), (1, .int (p_fl N k))]) hx hb dX3_daysToFirstLapse_73 hl (k := 2) rfl (nI_1 _) (by decide) rfl (fun ls hl => ?_)
          refine lv_goto (tgt := 4) hx hb dX3_daysToFirstLapse_76 (by decide) ?_
          have hl : lv_has ls 5 [(0, .ref (a 0)), (1, .int (p_fl N k)), (2, .int (nI (k + 1)))] := lv_sub hl [1, 2, 0] rfl
          have w4 : p_fl N k = p_fl N (k + 1) := by first | (simp [p_fl, p_dl, mn, c2, c2', hkn, c3]; done) | (simp [p_fl, p_dl, mn, c2, c2', hkn, c3]; rfl)
          have hl : lv_has ls 5 [(0, .ref (a 0)), (1, .int (p_fl N (k + 1))), (2, .int (nI (k + 1)))] := (congrArg (fun zz => lv_has ls 5 [(0, .ref (a 0)), (1, .int zz), (2, .int (nI (k + 1)))]) w4).mp hl
          have hl : lv_has ls 5 [(0, .ref (a 0)), (1, .int (p_fl N (k + 1))), (2, .int (nI (k + 1)))] := hl
          exact ih (k + 1) (by omega) (by omega) ls hl
        · have c3 := bI_ne0 c3
          refine lv_aload_n hx hb dX3_daysToFirstLapse_20 rfl (lv_at hl 0 rfl) ?_
          refine g3 hx hb hts hown hK hP 0 rfl 13 (by decide) flX3_40 (fun _ h => h) (v := .ref (a 8)) rfl dX3_daysToFirstLapse_21 ?_
          refine lv_iload_n hx hb dX3_daysToFirstLapse_24 rfl (lv_at hl 2 rfl) ?_
          refine k_ald (k := k) hx hb hK hP 8 0 rfl rfl rfl (by omega) (by decide) dX3_daysToFirstLapse_25 ?_
          refine lv_aload_n hx hb dX3_daysToFirstLapse_26 rfl (lv_at hl 0 rfl) ?_
          refine g3 hx hb hts hown hK hP 0 rfl 11 (by decide) flX3_34 (fun _ h => h) (v := .ref (a 6)) rfl dX3_daysToFirstLapse_27 ?_
          refine lv_iload_n hx hb dX3_daysToFirstLapse_30 rfl (lv_at hl 2 rfl) ?_
          refine k_ald (k := k) hx hb hK hP 6 0 rfl rfl rfl (by omega) (by decide) dX3_daysToFirstLapse_31 ?_
          refine lv_aload_n hx hb dX3_daysToFirstLapse_32 rfl (lv_at hl 0 rfl) ?_
          refine g3 hx hb hts hown hK hP 0 rfl 8 (by decide) flX3_25 (fun _ h => h) (v := .ref (a 3)) rfl dX3_daysToFirstLapse_33 ?_
          refine lv_iload_n hx hb dX3_daysToFirstLapse_36 rfl (lv_at hl 2 rfl) ?_
          refine k_ald (k := k) hx hb hK hP 3 0 rfl rfl rfl (by omega) (by decide) dX3_daysToFirstLapse_37 ?_
          refine k_riS (As := [.int (N 3 k)]) (rest := [.int (N 6 k), .int (N 8 k)]) (wc := []) ⟨hx, hb, hml, hown, hts⟩ (c_X1_lifeOf l D cI cS cL _ (N 3 k)) lkX3_89 rfl rfl ⟨(Nat.le_of_ble_eq_true rfl), (Nat.le_of_ble_eq_true rfl)⟩ hK hE k_nilP (k_nilD (A := va_A (stW cI a N v) s.heap.size)) rfl hl.1 rfl (Nat.le_of_ble_eq_true rfl) dX3_daysToFirstLapse_38 ⟨Nat.zero_le _, Nat.zero_le _⟩ ?_
          refine lv_iadd hx hb dX3_daysToFirstLapse_41 (lv_topi (fun x5 e5 => ?_))
          refine va_mmin hx hb (hml.trans hl.1.symm) hown (hts _ wd_methodLink_RX3_112_Lib_Math_min_name) (hts _ wd_static_Lib_Math_min_name) (hts _ wd_initialized_java_lang_Math) (hts _ wd_code_Lib_Math_min_name_Lib_Math_min_code_2_some_int) (Nat.le_of_ble_eq_true rfl) (Nat.le_of_ble_eq_true rfl) (Nat.zero_le _) (Nat.zero_le _) dX3_daysToFirstLapse_42 (lv_topi (fun x6 e6 => ?_))
          refine lv_istore_n (lv' := [(3, .int x6), (0, .ref (a 0)), (1, .int (p_fl N k)), (2, .int (nI k))]) hx hb dX3_daysToFirstLapse_45 rfl hl (by decide) rfl (fun ls hl => ?_)
          refine lv_iload_n hx hb dX3_daysToFirstLapse_46 rfl (lv_at hl 0 rfl) ?_
          refine lv_iconst (v := 1) hx hb dX3_daysToFirstLapse_47 (by decide) ?_
          refine lv_iadd hx hb dX3_daysToFirstLapse_48 (lv_topi (fun x7 e7 => ?_))
          refine lv_aload_n hx hb dX3_daysToFirstLapse_49 rfl (lv_at hl 1 rfl) ?_
          refine g3 hx hb hts hown hK hP 0 rfl 0 (by decide) flX3_9 (fun _ h => h) (v := .int (N 1 0)) rfl dX3_daysToFirstLapse_50 ?_
          refine lv_isub hx hb dX3_daysToFirstLapse_53 (lv_topi (fun x8 e8 => ?_))
          refine lv_istore (lv' := [(4, .int x8), (3, .int x6), (0, .ref (a 0)), (1, .int (p_fl N k)), (2, .int (nI k))]) hx hb dX3_daysToFirstLapse_54 hl (by decide) rfl (fun ls hl => ?_)
          refine lv_iload_n hx hb dX3_daysToFirstLapse_56 rfl (lv_at hl 3 rfl) ?_
          refine lv_iconst (v := (-1)) hx hb dX3_daysToFirstLapse_57 (by decide) ?_
          refine lv_icmp_ne (tgt := 66) hx hb dX3_daysToFirstLapse_58 (by decide) (fun c9 => ?_) (fun c9 => ?_)
          · refine lv_iload_n hx hb dX3_daysToFirstLapse_66 rfl (lv_at hl 3 rfl) ?_
            refine lv_iload hx hb dX3_daysToFirstLapse_67 (lv_at hl 0 rfl) ?_
            refine va_mmin hx hb (hml.trans hl.1.symm) hown (hts _ wd_methodLink_RX3_112_Lib_Math_min_name) (hts _ wd_static_Lib_Math_min_name) (hts _ wd_initialized_java_lang_Math) (hts _ wd_code_Lib_Math_min_name_Lib_Math_min_code_2_some_int) (Nat.le_of_ble_eq_true rfl) (Nat.le_of_ble_eq_true rfl) (Nat.zero_le _) (Nat.zero_le _) dX3_daysToFirstLapse_69 (lv_topi (fun x10 e10 => ?_))
            refine lv_istore_n (lv' := [(1, .int x10), (4, .int x8), (3, .int x6), (0, .ref (a 0)), (2, .int (nI k))]) hx hb dX3_daysToFirstLapse_72 rfl hl (by decide) rfl (fun ls hl => ?_)
            refine lv_iinc (v := nI (k + 1)) (lv' := [(2, .int (nI (k + 1))), (1, .int x10), (4, .int x8), (3, .int x6), (0, .ref (a 0))]) hx hb dX3_daysToFirstLapse_73 hl (k := 4) rfl (nI_1 _) (by decide) rfl (fun ls hl => ?_)
            refine lv_goto (tgt := 4) hx hb dX3_daysToFirstLapse_76 (by decide) ?_
            have hl : lv_has ls 5 [(0, .ref (a 0)), (1, .int x10), (2, .int (nI (k + 1)))] := lv_sub hl [4, 1, 0] rfl
            have w11 : x10 = p_fl N (k + 1) := by first | (subst e5 e6 e7 e8 e10; simp [p_fl, p_dl, mn, c2, c2', hkn, c3, c9]; done) | (subst e5 e6 e7 e8 e10; simp [p_fl, p_dl, mn, c2, c2', hkn, c3, c9]; rfl)
            have hl : lv_has ls 5 [(0, .ref (a 0)), (1, .int (p_fl N (k + 1))), (2, .int (nI (k + 1)))] := (congrArg (fun zz => lv_has ls 5 [(0, .ref (a 0)), (1, .int zz), (2, .int (nI (k + 1)))]) w11).mp hl
            have hl : lv_has ls 5 [(0, .ref (a 0)), (1, .int (p_fl N (k + 1))), (2, .int (nI (k + 1)))] := hl
            exact ih (k + 1) (by omega) (by omega) ls hl
          · refine lv_iload hx hb dX3_daysToFirstLapse_61 (lv_at hl 0 rfl) ?_
            refine lv_goto (tgt := 72) hx hb dX3_daysToFirstLapse_63 (by decide) ?_
            refine lv_istore_n (lv' := [(1, .int x8), (4, .int x8), (3, .int x6), (0, .ref (a 0)), (2, .int (nI k))]) hx hb dX3_daysToFirstLapse_72 rfl hl (by decide) rfl (fun ls hl => ?_)
            refine lv_iinc (v := nI (k + 1)) (lv' := [(2, .int (nI (k + 1))), (1, .int x8), (4, .int x8), (3, .int x6), (0, .ref (a 0))]) hx hb dX3_daysToFirstLapse_73 hl (k := 4) rfl (nI_1 _) (by decide) rfl (fun ls hl => ?_)
            refine lv_goto (tgt := 4) hx hb dX3_daysToFirstLapse_76 (by decide) ?_
            have hl : lv_has ls 5 [(0, .ref (a 0)), (1, .int x8), (2, .int (nI (k + 1)))] := lv_sub hl [4, 1, 0] rfl
            have w12 : x8 = p_fl N (k + 1) := by first | (subst e5 e6 e7 e8; simp [p_fl, p_dl, mn, c2, c2', hkn, c3, c9]; done) | (subst e5 e6 e7 e8; simp [p_fl, p_dl, mn, c2, c2', hkn, c3, c9]; rfl)
            have hl : lv_has ls 5 [(0, .ref (a 0)), (1, .int (p_fl N (k + 1))), (2, .int (nI (k + 1)))] := (congrArg (fun zz => lv_has ls 5 [(0, .ref (a 0)), (1, .int zz), (2, .int (nI (k + 1)))]) w12).mp hl
            have hl : lv_has ls 5 [(0, .ref (a 0)), (1, .int (p_fl N (k + 1))), (2, .int (nI (k + 1)))] := hl
            exact ih (k + 1) (by omega) (by omega) ls hl
  have hl : lv_has ls 5 [(0, .ref (a 0)), (1, .int (-1)), (2, .int 0)] := lv_sub hl [2, 1, 0] rfl
  have w13 : (-1) = p_fl N 0 := by first | (simp [p_fl, p_dl, mn]; done) | (simp [p_fl, p_dl, mn]; rfl)
  have hl : lv_has ls 5 [(0, .ref (a 0)), (1, .int (p_fl N 0)), (2, .int 0)] := (congrArg (fun zz => lv_has ls 5 [(0, .ref (a 0)), (1, .int zz), (2, .int 0)]) w13).mp hl
  have hl : lv_has ls 5 [(0, .ref (a 0)), (1, .int (p_fl N 0)), (2, .int (nI 0))] := hl
  exact L1 (n - 0 + 1) 0 (by omega) (by omega) ls hl
