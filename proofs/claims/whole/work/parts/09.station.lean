abbrev rmX3_isGone : Room := { frames := 0, cells := 0, slots := 0, locals := 0 }
set_option maxHeartbeats 4000000 in
set_option maxRecDepth 100000 in
theorem c_X3_isGone (l : Launch) (D : va_G) (cI cS cL : ClassId) (a : Nat → Nat) (N : NN) (v : Nat → Int32) (sz : Nat) (k : Nat) (hk : k < 14) : Met l yX3_isGone (wy_ yX3_isGone cX3_isGone 2 (some .boolean)) rmX3_isGone (kPc D (kTy cI cS cL) (stW cI a N v) sz [.ref (a 0), .int (nI k)]) (kRi (bI (decide (N 9 k = -1)))) 0 0 noF := by
  refine k_ofW (by decide) (Nat.le_of_ble_eq_true rfl) ?_
  intro p e s m args below meth c hx hb hr hml hts hown hlocks hnm hsz hP hK hD ls hl
  subst hsz
  have hl : lv_has ls 2 [(0, .ref (a 0)), (1, .int (nI k))] := hl
  refine lv_aload_n hx hb dX3_isGone_0 rfl (lv_at hl 0 rfl) ?_
  refine g3 hx hb hts hown hK hP 0 rfl 14 (by decide) flX3_43 (fun _ h => h) (v := .ref (a 9)) rfl dX3_isGone_1 ?_
  refine lv_iload_n hx hb dX3_isGone_4 rfl (lv_at hl 1 rfl) ?_
  refine k_ald (k := k) hx hb hK hP 9 0 rfl rfl rfl (by omega) (by decide) dX3_isGone_5 ?_
  refine lv_iconst (v := (-1)) hx hb dX3_isGone_6 (by decide) ?_
  refine lv_icmp_ne (tgt := 14) hx hb dX3_isGone_7 (by decide) (fun c1 => ?_) (fun c1 => ?_)
  · refine lv_iconst (v := 0) hx hb dX3_isGone_14 (by decide) ?_
    exact k_eRz hx hb hr hlocks rfl (by exact bI_zero (by simp [c1])) dX3_isGone_15
  · refine lv_iconst (v := 1) hx hb dX3_isGone_10 (by decide) ?_
    refine lv_goto (tgt := 15) hx hb dX3_isGone_11 (by decide) ?_
    exact k_eRz hx hb hr hlocks rfl (by exact bI_one (by simp [c1])) dX3_isGone_15

abbrev rmX3_isLent : Room := { frames := 0, cells := 0, slots := 0, locals := 0 }
set_option maxHeartbeats 4000000 in
set_option maxRecDepth 100000 in
theorem c_X3_isLent (l : Launch) (D : va_G) (cI cS cL : ClassId) (a : Nat → Nat) (N : NN) (v : Nat → Int32) (sz : Nat) (k : Nat) (hk : k < 14) : Met l yX3_isLent (wy_ yX3_isLent cX3_isLent 2 (some .boolean)) rmX3_isLent (kPc D (kTy cI cS cL) (stW cI a N v) sz [.ref (a 0), .int (nI k)]) (kRi (bI (decide (N 9 k = 4)))) 0 0 noF := by
  refine k_ofW (by decide) (Nat.le_of_ble_eq_true rfl) ?_
  intro p e s m args below meth c hx hb hr hml hts hown hlocks hnm hsz hP hK hD ls hl
  subst hsz
  have hl : lv_has ls 2 [(0, .ref (a 0)), (1, .int (nI k))] := hl
  refine lv_aload_n hx hb dX3_isLent_0 rfl (lv_at hl 0 rfl) ?_
  refine g3 hx hb hts hown hK hP 0 rfl 14 (by decide) flX3_43 (fun _ h => h) (v := .ref (a 9)) rfl dX3_isLent_1 ?_
  refine lv_iload_n hx hb dX3_isLent_4 rfl (lv_at hl 1 rfl) ?_
  refine k_ald (k := k) hx hb hK hP 9 0 rfl rfl rfl (by omega) (by decide) dX3_isLent_5 ?_
  refine lv_iconst (v := 4) hx hb dX3_isLent_6 (by decide) ?_
  refine lv_icmp_ne (tgt := 14) hx hb dX3_isLent_7 (by decide) (fun c1 => ?_) (fun c1 => ?_)
  · refine lv_iconst (v := 0) hx hb dX3_isLent_14 (by decide) ?_
    exact k_eRz hx hb hr hlocks rfl (by exact bI_zero (by simp [c1])) dX3_isLent_15
  · refine lv_iconst (v := 1) hx hb dX3_isLent_10 (by decide) ?_
    refine lv_goto (tgt := 15) hx hb dX3_isLent_11 (by decide) ?_
    exact k_eRz hx hb hr hlocks rfl (by exact bI_one (by simp [c1])) dX3_isLent_15

abbrev rmX3_reasonOf : Room := { frames := 1, cells := 0, slots := 0, locals := 21 }
set_option maxHeartbeats 4000000 in
set_option maxRecDepth 100000 in
theorem c_X3_reasonOf (l : Launch) (D : va_G) (cI cS cL : ClassId) (a : Nat → Nat) (N : NN) (v : Nat → Int32) (sz : Nat) (k : Nat) (hk : k < 14) : Met l yX3_reasonOf (wy_ yX3_reasonOf cX3_reasonOf 2 (some .int)) rmX3_reasonOf (kPc D (kTy cI cS cL) (stW cI a N v) sz [.ref (a 0), .int (nI k)]) (kRi (p_reason N k)) 0 0 noF := by
  refine k_ofW (by decide) (Nat.le_of_ble_eq_true rfl) ?_
  intro p e s m args below meth c hx hb hr hml hts hown hlocks hnm hsz hP hK hD ls hl
  subst hsz
  have hl : lv_has ls 2 [(0, .ref (a 0)), (1, .int (nI k))] := hl
  refine lv_aload_n hx hb dX3_reasonOf_0 rfl (lv_at hl 0 rfl) ?_
  refine lv_iload_n hx hb dX3_reasonOf_1 rfl (lv_at hl 1 rfl) ?_
  refine k_riV (As := [.int (nI k)]) (rest := []) (wc := stW cI a N v) ⟨hx, hb, hml, hown, hts⟩ (c_X3_isGone l D cI cS cL a N v _ k (by omega)) lkX3_82 rfl rfl ⟨(Nat.le_of_ble_eq_true rfl), (Nat.le_of_ble_eq_true rfl)⟩ (va_recv hK hP (ci := 2) (q0 := 0) rfl rfl) hK hP hD rfl hl.1 rfl (Nat.le_of_ble_eq_true rfl) dX3_reasonOf_2 ⟨Nat.zero_le _, Nat.zero_le _⟩ ?_
  refine lv_if_eq (tgt := 10) hx hb dX3_reasonOf_5 (by decide) (fun c1 => ?_) (fun c1 => ?_)
  · have c1 := bI_eq0 c1
    refine lv_aload_n hx hb dX3_reasonOf_10 rfl (lv_at hl 0 rfl) ?_
    refine lv_iload_n hx hb dX3_reasonOf_11 rfl (lv_at hl 1 rfl) ?_
    refine k_riV (As := [.int (nI k)]) (rest := []) (wc := stW cI a N v) ⟨hx, hb, hml, hown, hts⟩ (c_X3_isLent l D cI cS cL a N v _ k (by omega)) lkX3_86 rfl rfl ⟨(Nat.le_of_ble_eq_true rfl), (Nat.le_of_ble_eq_true rfl)⟩ (va_recv hK hP (ci := 2) (q0 := 0) rfl rfl) hK hP hD rfl hl.1 rfl (Nat.le_of_ble_eq_true rfl) dX3_reasonOf_12 ⟨Nat.zero_le _, Nat.zero_le _⟩ ?_
    refine lv_if_eq (tgt := 20) hx hb dX3_reasonOf_15 (by decide) (fun c2 => ?_) (fun c2 => ?_)
    · have c2 := bI_eq0 c2
      refine lv_aload_n hx hb dX3_reasonOf_20 rfl (lv_at hl 0 rfl) ?_
      refine g3 hx hb hts hown hK hP 0 rfl 0 (by decide) flX3_9 (fun _ h => h) (v := .int (N 1 0)) rfl dX3_reasonOf_21 ?_
      refine lv_aload_n hx hb dX3_reasonOf_24 rfl (lv_at hl 0 rfl) ?_
      refine g3 hx hb hts hown hK hP 0 rfl 11 (by decide) flX3_34 (fun _ h => h) (v := .ref (a 6)) rfl dX3_reasonOf_25 ?_
      refine lv_iload_n hx hb dX3_reasonOf_28 rfl (lv_at hl 1 rfl) ?_
      refine k_ald (k := k) hx hb hK hP 6 0 rfl rfl rfl (by omega) (by decide) dX3_reasonOf_29 ?_
      refine lv_isub hx hb dX3_reasonOf_30 (lv_topi (fun x3 e3 => ?_))
      refine lv_aload_n hx hb dX3_reasonOf_31 rfl (lv_at hl 0 rfl) ?_
      refine g3 hx hb hts hown hK hP 0 rfl 8 (by decide) flX3_25 (fun _ h => h) (v := .ref (a 3)) rfl dX3_reasonOf_32 ?_
      refine lv_iload_n hx hb dX3_reasonOf_35 rfl (lv_at hl 1 rfl) ?_
      refine k_ald (k := k) hx hb hK hP 3 0 rfl rfl rfl (by omega) (by decide) dX3_reasonOf_36 ?_
      refine k_riS (As := [.int (N 3 k)]) (rest := [.int x3]) (wc := []) ⟨hx, hb, hml, hown, hts⟩ (c_X1_lifeOf l D cI cS cL _ (N 3 k)) lkX3_89 rfl rfl ⟨(Nat.le_of_ble_eq_true rfl), (Nat.le_of_ble_eq_true rfl)⟩ hK k_nilP (k_nilD (A := va_A (stW cI a N v) s.heap.size)) rfl hl.1 rfl (Nat.le_of_ble_eq_true rfl) dX3_reasonOf_37 ⟨Nat.zero_le _, Nat.zero_le _⟩ ?_
      refine lv_icmp_le (tgt := 45) hx hb dX3_reasonOf_40 (by decide) (fun c4 => ?_) (fun c4 => ?_)
      · have c4' := Int32.not_lt.mpr c4
        refine lv_aload_n hx hb dX3_reasonOf_45 rfl (lv_at hl 0 rfl) ?_
        refine g3 hx hb hts hown hK hP 0 rfl 13 (by decide) flX3_40 (fun _ h => h) (v := .ref (a 8)) rfl dX3_reasonOf_46 ?_
        refine lv_iload_n hx hb dX3_reasonOf_49 rfl (lv_at hl 1 rfl) ?_
        refine k_ald (k := k) hx hb hK hP 8 0 rfl rfl rfl (by omega) (by decide) dX3_reasonOf_50 ?_
        refine lv_iconst (v := (-1)) hx hb dX3_reasonOf_51 (by decide) ?_
        refine lv_icmp_eq (tgt := 68) hx hb dX3_reasonOf_52 (by decide) (fun c5 => ?_) (fun c5 => ?_)
        · refine lv_iconst (v := 4) hx hb dX3_reasonOf_68 (by decide) ?_
          refine lv_goto (tgt := 73) hx hb dX3_reasonOf_69 (by decide) ?_
          exact k_eRi hx hb hr hlocks (by subst e3; simp [p_reason, c1, c2, c4, c4', c5]) dX3_reasonOf_73
        · refine lv_aload_n hx hb dX3_reasonOf_55 rfl (lv_at hl 0 rfl) ?_
          refine g3 hx hb hts hown hK hP 0 rfl 0 (by decide) flX3_9 (fun _ h => h) (v := .int (N 1 0)) rfl dX3_reasonOf_56 ?_
          refine lv_aload_n hx hb dX3_reasonOf_59 rfl (lv_at hl 0 rfl) ?_
          refine g3 hx hb hts hown hK hP 0 rfl 13 (by decide) flX3_40 (fun _ h => h) (v := .ref (a 8)) rfl dX3_reasonOf_60 ?_
          refine lv_iload_n hx hb dX3_reasonOf_63 rfl (lv_at hl 1 rfl) ?_
          refine k_ald (k := k) hx hb hK hP 8 0 rfl rfl rfl (by omega) (by decide) dX3_reasonOf_64 ?_
          refine lv_icmp_le (tgt := 72) hx hb dX3_reasonOf_65 (by decide) (fun c6 => ?_) (fun c6 => ?_)
          · have c6' := Int32.not_lt.mpr c6
            refine lv_iconst (v := 0) hx hb dX3_reasonOf_72 (by decide) ?_
            exact k_eRi hx hb hr hlocks (by subst e3; simp [p_reason, c1, c2, c4, c4', c5, c6, c6']) dX3_reasonOf_73
          · have c6' := Int32.not_le.mp c6
            refine lv_iconst (v := 4) hx hb dX3_reasonOf_68 (by decide) ?_
            refine lv_goto (tgt := 73) hx hb dX3_reasonOf_69 (by decide) ?_
            exact k_eRi hx hb hr hlocks (by subst e3; simp [p_reason, c1, c2, c4, c4', c5, c6, c6']) dX3_reasonOf_73
      · have c4' := Int32.not_le.mp c4
        refine lv_iconst (v := 3) hx hb dX3_reasonOf_43 (by decide) ?_
        exact k_eRi hx hb hr hlocks (by subst e3; simp [p_reason, c1, c2, c4, c4']) dX3_reasonOf_44
    · have c2 := bI_ne0 c2
      refine lv_iconst (v := 2) hx hb dX3_reasonOf_18 (by decide) ?_
      exact k_eRi hx hb hr hlocks (by simp [p_reason, c1, c2]) dX3_reasonOf_19
  · have c1 := bI_ne0 c1
    refine lv_iconst (v := 1) hx hb dX3_reasonOf_8 (by decide) ?_
    exact k_eRi hx hb hr hlocks (by simp [p_reason, c1]) dX3_reasonOf_9

abbrev rmX3_isReady : Room := { frames := 2, cells := 0, slots := 0, locals := 42 }
set_option maxHeartbeats 4000000 in
set_option maxRecDepth 100000 in
theorem c_X3_isReady (l : Launch) (D : va_G) (cI cS cL : ClassId) (a : Nat → Nat) (N : NN) (v : Nat → Int32) (sz : Nat) (k : Nat) (hk : k < 14) : Met l yX3_isReady (wy_ yX3_isReady cX3_isReady 2 (some .boolean)) rmX3_isReady (kPc D (kTy cI cS cL) (stW cI a N v) sz [.ref (a 0), .int (nI k)]) (kRi (bI (decide (p_reason N k = 0)))) 0 0 noF := by
  refine k_ofW (by decide) (Nat.le_of_ble_eq_true rfl) ?_
  intro p e s m args below meth c hx hb hr hml hts hown hlocks hnm hsz hP hK hD ls hl
  subst hsz
  have hl : lv_has ls 2 [(0, .ref (a 0)), (1, .int (nI k))] := hl
  refine lv_aload_n hx hb dX3_isReady_0 rfl (lv_at hl 0 rfl) ?_
  refine lv_iload_n hx hb dX3_isReady_1 rfl (lv_at hl 1 rfl) ?_
  refine k_riV (As := [.int (nI k)]) (rest := []) (wc := stW cI a N v) ⟨hx, hb, hml, hown, hts⟩ (c_X3_reasonOf l D cI cS cL a N v _ k (by omega)) lkX3_78 rfl rfl ⟨(Nat.le_of_ble_eq_true rfl), (Nat.le_of_ble_eq_true rfl)⟩ (va_recv hK hP (ci := 2) (q0 := 0) rfl rfl) hK hP hD rfl hl.1 rfl (Nat.le_of_ble_eq_true rfl) dX3_isReady_2 ⟨Nat.zero_le _, Nat.zero_le _⟩ ?_
  refine lv_if_ne (tgt := 12) hx hb dX3_isReady_5 (by decide) (fun c1 => ?_) (fun c1 => ?_)
  · refine lv_iconst (v := 0) hx hb dX3_isReady_12 (by decide) ?_
    exact k_eRz hx hb hr hlocks rfl (by exact bI_zero (by simp [c1])) dX3_isReady_13
  · refine lv_iconst (v := 1) hx hb dX3_isReady_8 (by decide) ?_
    refine lv_goto (tgt := 13) hx hb dX3_isReady_9 (by decide) ?_
    exact k_eRz hx hb hr hlocks rfl (by exact bI_one (by simp [c1])) dX3_isReady_13

abbrev rmX3_strengthAt : Room := { frames := 2, cells := 0, slots := 0, locals := 35 }
set_option maxHeartbeats 4000000 in
set_option maxRecDepth 100000 in
theorem c_X3_strengthAt (l : Launch) (D : va_G) (cI cS cL : ClassId) (a : Nat → Nat) (N : NN) (v : Nat → Int32) (sz : Nat) (k : Nat) (w : Int32) (hk : k < 14) : Met l yX3_strengthAt (wy_ yX3_strengthAt cX3_strengthAt 3 (some .int)) rmX3_strengthAt (kPc D (kTy cI cS cL) (stW cI a N v) sz [.ref (a 0), .int (nI k), .int w]) (kRi (p_strAt N k w)) 0 0 noF := by
  refine k_ofW (by decide) (Nat.le_of_ble_eq_true rfl) ?_
  intro p e s m args below meth c hx hb hr hml hts hown hlocks hnm hsz hP hK hD ls hl
  subst hsz
  have hl : lv_has ls 3 [(0, .ref (a 0)), (1, .int (nI k)), (2, .int w)] := hl
  refine lv_aload_n hx hb dX3_strengthAt_0 rfl (lv_at hl 0 rfl) ?_
  refine g3 hx hb hts hown hK hP 0 rfl 8 (by decide) flX3_25 (fun _ h => h) (v := .ref (a 3)) rfl dX3_strengthAt_1 ?_
  refine lv_iload_n hx hb dX3_strengthAt_4 rfl (lv_at hl 1 rfl) ?_
  refine k_ald (k := k) hx hb hK hP 3 0 rfl rfl rfl (by omega) (by decide) dX3_strengthAt_5 ?_
  refine lv_iload_n hx hb dX3_strengthAt_6 rfl (lv_at hl 2 rfl) ?_
  refine lv_aload_n hx hb dX3_strengthAt_7 rfl (lv_at hl 0 rfl) ?_
  refine g3 hx hb hts hown hK hP 0 rfl 0 (by decide) flX3_9 (fun _ h => h) (v := .int (N 1 0)) rfl dX3_strengthAt_8 ?_
  refine lv_aload_n hx hb dX3_strengthAt_11 rfl (lv_at hl 0 rfl) ?_
  refine g3 hx hb hts hown hK hP 0 rfl 11 (by decide) flX3_34 (fun _ h => h) (v := .ref (a 6)) rfl dX3_strengthAt_12 ?_
  refine lv_iload_n hx hb dX3_strengthAt_15 rfl (lv_at hl 1 rfl) ?_
  refine k_ald (k := k) hx hb hK hP 6 0 rfl rfl rfl (by omega) (by decide) dX3_strengthAt_16 ?_
  refine lv_isub hx hb dX3_strengthAt_17 (lv_topi (fun x1 e1 => ?_))
  refine lv_bipush (v := 100) hx hb dX3_strengthAt_18 (by decide) ?_
  refine lv_idiv hx hb dX3_strengthAt_20 (by decide) (lv_topi (fun x2 e2 => ?_))
  refine k_riS (As := [.int (N 3 k), .int w, .int x2]) (rest := []) (wc := []) ⟨hx, hb, hml, hown, hts⟩ (c_X1_strengthOf l D cI cS cL _ (N 3 k) w x2) lkX3_94 rfl rfl ⟨(Nat.le_of_ble_eq_true rfl), (Nat.le_of_ble_eq_true rfl)⟩ hK k_nilP (k_nilD (A := va_A (stW cI a N v) s.heap.size)) rfl hl.1 rfl (Nat.le_of_ble_eq_true rfl) dX3_strengthAt_21 ⟨Nat.zero_le _, Nat.zero_le _⟩ ?_
  exact k_eRi hx hb hr hlocks (by subst e1 e2; simp [p_strAt]) dX3_strengthAt_24

abbrev rmX3_priceOf : Room := { frames := 1, cells := 0, slots := 0, locals := 21 }
set_option maxHeartbeats 4000000 in
set_option maxRecDepth 100000 in
theorem c_X3_priceOf (l : Launch) (D : va_G) (cI cS cL : ClassId) (a : Nat → Nat) (N : NN) (v : Nat → Int32) (sz : Nat) (k : Nat) (hk : k < 14) : Met l yX3_priceOf (wy_ yX3_priceOf cX3_priceOf 2 (some .int)) rmX3_priceOf (kPc D (kTy cI cS cL) (stW cI a N v) sz [.ref (a 0), .int (nI k)]) (kRi (p_price N k)) 0 0 noF := by
  refine k_ofW (by decide) (Nat.le_of_ble_eq_true rfl) ?_
  intro p e s m args below meth c hx hb hr hml hts hown hlocks hnm hsz hP hK hD ls hl
  subst hsz
  have hl : lv_has ls 2 [(0, .ref (a 0)), (1, .int (nI k))] := hl
  refine lv_aload_n hx hb dX3_priceOf_0 rfl (lv_at hl 0 rfl) ?_
  refine g3 hx hb hts hown hK hP 0 rfl 8 (by decide) flX3_25 (fun _ h => h) (v := .ref (a 3)) rfl dX3_priceOf_1 ?_
  refine lv_iload_n hx hb dX3_priceOf_4 rfl (lv_at hl 1 rfl) ?_
  refine k_ald (k := k) hx hb hK hP 3 0 rfl rfl rfl (by omega) (by decide) dX3_priceOf_5 ?_
  refine lv_aload_n hx hb dX3_priceOf_6 rfl (lv_at hl 0 rfl) ?_
  refine g3 hx hb hts hown hK hP 0 rfl 9 (by decide) flX3_28 (fun _ h => h) (v := .ref (a 4)) rfl dX3_priceOf_7 ?_
  refine lv_iload_n hx hb dX3_priceOf_10 rfl (lv_at hl 1 rfl) ?_
  refine k_ald (k := k) hx hb hK hP 4 0 rfl rfl rfl (by omega) (by decide) dX3_priceOf_11 ?_
  refine k_riS (As := [.int (N 3 k), .int (N 4 k)]) (rest := []) (wc := []) ⟨hx, hb, hml, hown, hts⟩ (c_X1_costOf l D cI cS cL _ (N 3 k) (N 4 k)) lkX3_98 rfl rfl ⟨(Nat.le_of_ble_eq_true rfl), (Nat.le_of_ble_eq_true rfl)⟩ hK k_nilP (k_nilD (A := va_A (stW cI a N v) s.heap.size)) rfl hl.1 rfl (Nat.le_of_ble_eq_true rfl) dX3_priceOf_12 ⟨Nat.zero_le _, Nat.zero_le _⟩ ?_
  exact k_eRi hx hb hr hlocks (by simp [p_price]) dX3_priceOf_15

abbrev rmX3_canBuy : Room := { frames := 1, cells := 0, slots := 0, locals := 21 }
set_option maxHeartbeats 4000000 in
set_option maxRecDepth 100000 in
theorem c_X3_canBuy (l : Launch) (D : va_G) (cI cS cL : ClassId) (a : Nat → Nat) (N : NN) (v : Nat → Int32) (sz : Nat) (kd ln : Int32) : Met l yX3_canBuy (wy_ yX3_canBuy cX3_canBuy 3 (some .boolean)) rmX3_canBuy (kPc D (kTy cI cS cL) (stW cI a N v) sz [.ref (a 0), .int kd, .int ln]) (kRi (bI (p_can N kd ln))) 0 0 noF := by
  refine k_ofW (by decide) (Nat.le_of_ble_eq_true rfl) ?_
  intro p e s m args below meth c hx hb hr hml hts hown hlocks hnm hsz hP hK hD ls hl
  subst hsz
  have hl : lv_has ls 3 [(0, .ref (a 0)), (1, .int kd), (2, .int ln)] := hl
  refine lv_aload_n hx hb dX3_canBuy_0 rfl (lv_at hl 0 rfl) ?_
  refine g3 hx hb hts hown hK hP 0 rfl 2 (by decide) flX3_56 (fun _ h => h) (v := .int (N 1 2)) rfl dX3_canBuy_1 ?_
  refine lv_bipush (v := 14) hx hb dX3_canBuy_4 (by decide) ?_
  refine lv_icmp_ge (tgt := 25) hx hb dX3_canBuy_6 (by decide) (fun c1 => ?_) (fun c1 => ?_)
  · have c1' := Int32.not_lt.mpr c1
    refine lv_iconst (v := 0) hx hb dX3_canBuy_25 (by decide) ?_
    exact k_eRz hx hb hr hlocks rfl (by exact bI_zero (by simp [p_can, c1, c1'])) dX3_canBuy_26
  · have c1' := Int32.not_le.mp c1
    refine lv_iload_n hx hb dX3_canBuy_9 rfl (lv_at hl 1 rfl) ?_
    refine lv_iload_n hx hb dX3_canBuy_10 rfl (lv_at hl 2 rfl) ?_
    refine k_riS (As := [.int kd, .int ln]) (rest := []) (wc := []) ⟨hx, hb, hml, hown, hts⟩ (c_X1_costOf l D cI cS cL _ kd ln) lkX3_98 rfl rfl ⟨(Nat.le_of_ble_eq_true rfl), (Nat.le_of_ble_eq_true rfl)⟩ hK k_nilP (k_nilD (A := va_A (stW cI a N v) s.heap.size)) rfl hl.1 rfl (Nat.le_of_ble_eq_true rfl) dX3_canBuy_11 ⟨Nat.zero_le _, Nat.zero_le _⟩ ?_
    refine lv_aload_n hx hb dX3_canBuy_14 rfl (lv_at hl 0 rfl) ?_
    refine g3 hx hb hts hown hK hP 0 rfl 1 (by decide) flX3_15 (fun _ h => h) (v := .int (N 1 1)) rfl dX3_canBuy_15 ?_
    refine lv_icmp_gt (tgt := 25) hx hb dX3_canBuy_18 (by decide) (fun c2 => ?_) (fun c2 => ?_)
    · have c2' := Int32.not_le.mpr c2
      refine lv_iconst (v := 0) hx hb dX3_canBuy_25 (by decide) ?_
      exact k_eRz hx hb hr hlocks rfl (by exact bI_zero (by simp [p_can, c1, c1', c2, c2'])) dX3_canBuy_26
    · have c2' := Int32.not_lt.mp c2
      refine lv_iconst (v := 1) hx hb dX3_canBuy_21 (by decide) ?_
      refine lv_goto (tgt := 26) hx hb dX3_canBuy_22 (by decide) ?_
      exact k_eRz hx hb hr hlocks rfl (by exact bI_one (by simp [p_can, c1, c1', c2, c2'])) dX3_canBuy_26
