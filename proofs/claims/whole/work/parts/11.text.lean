abbrev rmX0_isDigit : Room := { frames := 0, cells := 0, slots := 0, locals := 0 }
set_option maxHeartbeats 4000000 in
set_option maxRecDepth 100000 in
theorem c_X0_isDigit (l : Launch) (D : va_G) (cI cS cL : ClassId) (sz : Nat) (ch : Int32) : Met l yX0_isDigit (wy_ yX0_isDigit cX0_isDigit 1 (some .boolean)) rmX0_isDigit (kPc D (kTy cI cS cL) ([]) sz [.int ch]) (kRi (bI (decide (48 ≤ ch ∧ ch ≤ 57)))) 0 0 noF := by
  refine k_ofW (by decide) (Nat.le_of_ble_eq_true rfl) ?_
  intro p e s m args below meth c hx hb hr hml hts hown hlocks hnm hsz hP hK hD hE ls hl
  subst hsz
  have hl : lv_has ls 1 [(0, .int ch)] := hl
  refine lv_iload_n hx hb dX0_isDigit_0 rfl (lv_at hl 0 rfl) ?_
  refine lv_bipush (v := 48) hx hb dX0_isDigit_1 (by decide) ?_
  refine lv_icmp_lt (tgt := 16) hx hb dX0_isDigit_3 (by decide) (fun c1 => ?_) (fun c1 => ?_)
  · have c1' := Int32.not_le.mpr c1
    refine lv_iconst (v := 0) hx hb dX0_isDigit_16 (by decide) ?_
    exact k_eRz hx hb hr hlocks rfl (by exact bI_zero (by simp [c1, c1'])) dX0_isDigit_17
  · have c1' := Int32.not_lt.mp c1
    refine lv_iload_n hx hb dX0_isDigit_6 rfl (lv_at hl 0 rfl) ?_
    refine lv_bipush (v := 57) hx hb dX0_isDigit_7 (by decide) ?_
    refine lv_icmp_gt (tgt := 16) hx hb dX0_isDigit_9 (by decide) (fun c2 => ?_) (fun c2 => ?_)
    · have c2' := Int32.not_le.mpr c2
      refine lv_iconst (v := 0) hx hb dX0_isDigit_16 (by decide) ?_
      exact k_eRz hx hb hr hlocks rfl (by exact bI_zero (by simp [c1, c1', c2, c2'])) dX0_isDigit_17
    · have c2' := Int32.not_lt.mp c2
      refine lv_iconst (v := 1) hx hb dX0_isDigit_12 (by decide) ?_
      refine lv_goto (tgt := 17) hx hb dX0_isDigit_13 (by decide) ?_
      exact k_eRz hx hb hr hlocks rfl (by exact bI_one (by simp [c1, c1', c2, c2'])) dX0_isDigit_17

abbrev rmX0_kindOf : Room := { frames := 0, cells := 0, slots := 0, locals := 0 }
set_option maxHeartbeats 4000000 in
set_option maxRecDepth 100000 in
theorem c_X0_kindOf (l : Launch) (D : va_G) (cI cS cL : ClassId) (sz : Nat) (ch : Int32) : Met l yX0_kindOf (wy_ yX0_kindOf cX0_kindOf 1 (some .int)) rmX0_kindOf (kPc D (kTy cI cS cL) ([]) sz [.int ch]) (kRi (p_kd ch)) 0 0 noF := by
  refine k_ofW (by decide) (Nat.le_of_ble_eq_true rfl) ?_
  intro p e s m args below meth c hx hb hr hml hts hown hlocks hnm hsz hP hK hD hE ls hl
  subst hsz
  have hl : lv_has ls 1 [(0, .int ch)] := hl
  refine lv_iload_n hx hb dX0_kindOf_0 rfl (lv_at hl 0 rfl) ?_
  by_cases c1 : ch = 108
  · refine lv_lookup (off := 39) (tgt := 40) hx hb dX0_kindOf_1 (by decide) (by rw [c1]; decide) (by decide) ?_
    refine lv_iconst (v := 2) hx hb dX0_kindOf_40 (by decide) ?_
    exact k_eRi hx hb hr hlocks (by first | (simp [p_kd, c1]; done) | (simp [p_kd, c1]; decide)) dX0_kindOf_41
  by_cases c2 : ch = 110
  · refine lv_lookup (off := 35) (tgt := 36) hx hb dX0_kindOf_1 (by decide) (by rw [c2]; decide) (by decide) ?_
    refine lv_iconst (v := 0) hx hb dX0_kindOf_36 (by decide) ?_
    exact k_eRi hx hb hr hlocks (by first | (simp [p_kd, c2, c1]; done) | (simp [p_kd, c2, c1]; decide)) dX0_kindOf_37
  by_cases c3 : ch = 114
  · refine lv_lookup (off := 37) (tgt := 38) hx hb dX0_kindOf_1 (by decide) (by rw [c3]; decide) (by decide) ?_
    refine lv_iconst (v := 1) hx hb dX0_kindOf_38 (by decide) ?_
    exact k_eRi hx hb hr hlocks (by first | (simp [p_kd, c3, c1, c2]; done) | (simp [p_kd, c3, c1, c2]; decide)) dX0_kindOf_39
  refine lv_lookup (off := 41) (tgt := 42) hx hb dX0_kindOf_1 (by decide) (by simp [Op.lookupswitch.offset, i32_ne (b := 108) (z := 108) (by decide) c1, i32_ne (b := 110) (z := 110) (by decide) c2, i32_ne (b := 114) (z := 114) (by decide) c3]) (by decide) ?_
  refine lv_iconst (v := (-1)) hx hb dX0_kindOf_42 (by decide) ?_
  exact k_eRi hx hb hr hlocks (by first | (simp [p_kd, c1, c2, c3]; done) | (simp [p_kd, c1, c2, c3]; decide)) dX0_kindOf_43

abbrev rmX0_couplingOf : Room := { frames := 0, cells := 0, slots := 0, locals := 0 }
set_option maxHeartbeats 4000000 in
set_option maxRecDepth 100000 in
theorem c_X0_couplingOf (l : Launch) (D : va_G) (cI cS cL : ClassId) (sz : Nat) (ch : Int32) : Met l yX0_couplingOf (wy_ yX0_couplingOf cX0_couplingOf 1 (some .int)) rmX0_couplingOf (kPc D (kTy cI cS cL) ([]) sz [.int ch]) (kRi (p_cp ch)) 0 0 noF := by
  refine k_ofW (by decide) (Nat.le_of_ble_eq_true rfl) ?_
  intro p e s m args below meth c hx hb hr hml hts hown hlocks hnm hsz hP hK hD hE ls hl
  subst hsz
  have hl : lv_has ls 1 [(0, .int ch)] := hl
  refine lv_iload_n hx hb dX0_couplingOf_0 rfl (lv_at hl 0 rfl) ?_
  refine lv_bipush (v := 97) hx hb dX0_couplingOf_1 (by decide) ?_
  refine lv_icmp_lt (tgt := 19) hx hb dX0_couplingOf_3 (by decide) (fun c1 => ?_) (fun c1 => ?_)
  · have c1' := Int32.not_le.mpr c1
    refine lv_iconst (v := (-1)) hx hb dX0_couplingOf_19 (by decide) ?_
    exact k_eRi hx hb hr hlocks (by simp [p_cp, c1, c1']) dX0_couplingOf_20
  · have c1' := Int32.not_lt.mp c1
    refine lv_iload_n hx hb dX0_couplingOf_6 rfl (lv_at hl 0 rfl) ?_
    refine lv_bipush (v := 99) hx hb dX0_couplingOf_7 (by decide) ?_
    refine lv_icmp_gt (tgt := 19) hx hb dX0_couplingOf_9 (by decide) (fun c2 => ?_) (fun c2 => ?_)
    · have c2' := Int32.not_le.mpr c2
      refine lv_iconst (v := (-1)) hx hb dX0_couplingOf_19 (by decide) ?_
      exact k_eRi hx hb hr hlocks (by simp [p_cp, c1, c1', c2, c2']) dX0_couplingOf_20
    · have c2' := Int32.not_lt.mp c2
      refine lv_iload_n hx hb dX0_couplingOf_12 rfl (lv_at hl 0 rfl) ?_
      refine lv_bipush (v := 97) hx hb dX0_couplingOf_13 (by decide) ?_
      refine lv_isub hx hb dX0_couplingOf_15 (lv_topi (fun x3 e3 => ?_))
      refine lv_goto (tgt := 20) hx hb dX0_couplingOf_16 (by decide) ?_
      exact k_eRi hx hb hr hlocks (by subst e3; simp [p_cp, c1, c1', c2, c2']) dX0_couplingOf_20

abbrev rmX0_stateBehindCoupling : Room := { frames := 1, cells := 0, slots := 0, locals := 20 }
set_option maxHeartbeats 4000000 in
set_option maxRecDepth 100000 in
theorem c_X0_stateBehindCoupling (l : Launch) (D : va_G) (cI cS cL : ClassId) (sz : Nat) (ch : Int32) : Met l yX0_stateBehindCoupling (wy_ yX0_stateBehindCoupling cX0_stateBehindCoupling 1 (some .int)) rmX0_stateBehindCoupling (kPc D (kTy cI cS cL) ([]) sz [.int ch]) (kRi (p_s4 ch)) 0 0 noF := by
  refine k_ofW (by decide) (Nat.le_of_ble_eq_true rfl) ?_
  intro p e s m args below meth c hx hb hr hml hts hown hlocks hnm hsz hP hK hD hE ls hl
  subst hsz
  have hl : lv_has ls 1 [(0, .int ch)] := hl
  refine lv_iload_n hx hb dX0_stateBehindCoupling_0 rfl (lv_at hl 0 rfl) ?_
  refine k_riS (As := [.int ch]) (rest := []) (wc := []) ⟨hx, hb, hml, hown, hts⟩ (c_X0_couplingOf l D cI cS cL _ ch) lkX0_37 rfl rfl ⟨(Nat.le_of_ble_eq_true rfl), (Nat.le_of_ble_eq_true rfl)⟩ hK hE hP hD rfl hl.1 rfl (Nat.le_of_ble_eq_true rfl) dX0_stateBehindCoupling_1 ⟨Nat.zero_le _, Nat.zero_le _⟩ ?_
  refine lv_iconst (v := (-1)) hx hb dX0_stateBehindCoupling_4 (by decide) ?_
  refine lv_icmp_eq (tgt := 12) hx hb dX0_stateBehindCoupling_5 (by decide) (fun c1 => ?_) (fun c1 => ?_)
  · refine lv_iconst (v := (-1)) hx hb dX0_stateBehindCoupling_12 (by decide) ?_
    exact k_eRi hx hb hr hlocks (by simp [p_s4, c1]) dX0_stateBehindCoupling_13
  · refine lv_iconst (v := 5) hx hb dX0_stateBehindCoupling_8 (by decide) ?_
    refine lv_goto (tgt := 13) hx hb dX0_stateBehindCoupling_9 (by decide) ?_
    exact k_eRi hx hb hr hlocks (by simp [p_s4, c1]) dX0_stateBehindCoupling_13

abbrev rmX0_stateBehindFirstDigit : Room := { frames := 1, cells := 0, slots := 0, locals := 20 }
set_option maxHeartbeats 4000000 in
set_option maxRecDepth 100000 in
theorem c_X0_stateBehindFirstDigit (l : Launch) (D : va_G) (cI cS cL : ClassId) (sz : Nat) (ch : Int32) : Met l yX0_stateBehindFirstDigit (wy_ yX0_stateBehindFirstDigit cX0_stateBehindFirstDigit 1 (some .int)) rmX0_stateBehindFirstDigit (kPc D (kTy cI cS cL) ([]) sz [.int ch]) (kRi (p_s1 ch)) 0 0 noF := by
  refine k_ofW (by decide) (Nat.le_of_ble_eq_true rfl) ?_
  intro p e s m args below meth c hx hb hr hml hts hown hlocks hnm hsz hP hK hD hE ls hl
  subst hsz
  have hl : lv_has ls 1 [(0, .int ch)] := hl
  refine lv_iload_n hx hb dX0_stateBehindFirstDigit_0 rfl (lv_at hl 0 rfl) ?_
  refine k_riS (As := [.int ch]) (rest := []) (wc := []) ⟨hx, hb, hml, hown, hts⟩ (c_X0_isDigit l D cI cS cL _ ch) lkX0_30 rfl rfl ⟨(Nat.le_of_ble_eq_true rfl), (Nat.le_of_ble_eq_true rfl)⟩ hK hE hP hD rfl hl.1 rfl (Nat.le_of_ble_eq_true rfl) dX0_stateBehindFirstDigit_1 ⟨Nat.zero_le _, Nat.zero_le _⟩ ?_
  refine lv_if_eq (tgt := 13) hx hb dX0_stateBehindFirstDigit_4 (by decide) (fun c1 => ?_) (fun c1 => ?_)
  · have c1 := bI_eq0 c1
    refine lv_iconst (v := (-1)) hx hb dX0_stateBehindFirstDigit_13 (by decide) ?_
    exact k_eRi hx hb hr hlocks (by simp [p_s1, c1]) dX0_stateBehindFirstDigit_14
  · have c1 := bI_ne0 c1
    refine lv_iload_n hx hb dX0_stateBehindFirstDigit_7 rfl (lv_at hl 0 rfl) ?_
    refine lv_bipush (v := 48) hx hb dX0_stateBehindFirstDigit_8 (by decide) ?_
    refine lv_icmp_ne (tgt := 15) hx hb dX0_stateBehindFirstDigit_10 (by decide) (fun c2 => ?_) (fun c2 => ?_)
    · refine lv_iload_n hx hb dX0_stateBehindFirstDigit_15 rfl (lv_at hl 0 rfl) ?_
      refine lv_bipush (v := 53) hx hb dX0_stateBehindFirstDigit_16 (by decide) ?_
      refine lv_icmp_ne (tgt := 23) hx hb dX0_stateBehindFirstDigit_18 (by decide) (fun c3 => ?_) (fun c3 => ?_)
      · refine lv_iload_n hx hb dX0_stateBehindFirstDigit_23 rfl (lv_at hl 0 rfl) ?_
        refine lv_bipush (v := 53) hx hb dX0_stateBehindFirstDigit_24 (by decide) ?_
        refine lv_icmp_ge (tgt := 33) hx hb dX0_stateBehindFirstDigit_26 (by decide) (fun c4 => ?_) (fun c4 => ?_)
        · have c4' := Int32.not_lt.mpr c4
          refine lv_iconst (v := 4) hx hb dX0_stateBehindFirstDigit_33 (by decide) ?_
          exact k_eRi hx hb hr hlocks (by simp [p_s1, c1, c2, c3, c4, c4']) dX0_stateBehindFirstDigit_34
        · have c4' := Int32.not_le.mp c4
          refine lv_iconst (v := 2) hx hb dX0_stateBehindFirstDigit_29 (by decide) ?_
          refine lv_goto (tgt := 34) hx hb dX0_stateBehindFirstDigit_30 (by decide) ?_
          exact k_eRi hx hb hr hlocks (by simp [p_s1, c1, c2, c3, c4, c4']) dX0_stateBehindFirstDigit_34
      · refine lv_iconst (v := 3) hx hb dX0_stateBehindFirstDigit_21 (by decide) ?_
        exact k_eRi hx hb hr hlocks (by simp [p_s1, c1, c2, c3]) dX0_stateBehindFirstDigit_22
    · refine lv_iconst (v := (-1)) hx hb dX0_stateBehindFirstDigit_13 (by decide) ?_
      exact k_eRi hx hb hr hlocks (by simp [p_s1, c1, c2]) dX0_stateBehindFirstDigit_14

abbrev rmX0_stateBehind : Room := { frames := 2, cells := 0, slots := 0, locals := 40 }
set_option maxHeartbeats 4000000 in
set_option maxRecDepth 100000 in
theorem c_X0_stateBehind (l : Launch) (D : va_G) (cI cS cL : ClassId) (sz : Nat) (u ch : Int32) : Met l yX0_stateBehind (wy_ yX0_stateBehind cX0_stateBehind 2 (some .int)) rmX0_stateBehind (kPc D (kTy cI cS cL) ([]) sz [.int u, .int ch]) (kRi (p_sb u ch)) 0 0 noF := by
  refine k_ofW (by decide) (Nat.le_of_ble_eq_true rfl) ?_
  intro p e s m args below meth c hx hb hr hml hts hown hlocks hnm hsz hP hK hD hE ls hl
  subst hsz
  have hl : lv_has ls 2 [(0, .int u), (1, .int ch)] := hl
  refine lv_iload_n hx hb dX0_stateBehind_0 rfl (lv_at hl 0 rfl) ?_
  by_cases c1 : u = 0
  · refine lv_tableIn (off := 35) (tgt := 36) hx hb dX0_stateBehind_1 (by rw [c1]; decide) (by rw [c1]; decide) (by rw [c1]; rfl) (by decide) ?_
    refine lv_iload_n hx hb dX0_stateBehind_36 rfl (lv_at hl 1 rfl) ?_
    refine k_riS (As := [.int ch]) (rest := []) (wc := []) ⟨hx, hb, hml, hown, hts⟩ (c_X0_kindOf l D cI cS cL _ ch) lkX0_23 rfl rfl ⟨(Nat.le_of_ble_eq_true rfl), (Nat.le_of_ble_eq_true rfl)⟩ hK hE hP hD rfl hl.1 rfl (Nat.le_of_ble_eq_true rfl) dX0_stateBehind_37 ⟨Nat.zero_le _, Nat.zero_le _⟩ ?_
    refine lv_iconst (v := (-1)) hx hb dX0_stateBehind_40 (by decide) ?_
    refine lv_icmp_eq (tgt := 48) hx hb dX0_stateBehind_41 (by decide) (fun c2 => ?_) (fun c2 => ?_)
    · refine lv_iconst (v := (-1)) hx hb dX0_stateBehind_48 (by decide) ?_
      exact k_eRi hx hb hr hlocks (by simp [p_sb, p_s4, p_s1, c1, c2]) dX0_stateBehind_49
    · refine lv_iconst (v := 1) hx hb dX0_stateBehind_44 (by decide) ?_
      refine lv_goto (tgt := 49) hx hb dX0_stateBehind_45 (by decide) ?_
      exact k_eRi hx hb hr hlocks (by simp [p_sb, p_s4, p_s1, c1, c2]) dX0_stateBehind_49
  by_cases c3 : u = 1
  · refine lv_tableIn (off := 49) (tgt := 50) hx hb dX0_stateBehind_1 (by rw [c3]; decide) (by rw [c3]; decide) (by rw [c3]; rfl) (by decide) ?_
    refine lv_iload_n hx hb dX0_stateBehind_50 rfl (lv_at hl 1 rfl) ?_
    refine k_riS (As := [.int ch]) (rest := []) (wc := []) ⟨hx, hb, hml, hown, hts⟩ (c_X0_stateBehindFirstDigit l D cI cS cL _ ch) lkX0_27 rfl rfl ⟨(Nat.le_of_ble_eq_true rfl), (Nat.le_of_ble_eq_true rfl)⟩ hK hE hP hD rfl hl.1 rfl (Nat.le_of_ble_eq_true rfl) dX0_stateBehind_51 ⟨Nat.zero_le _, Nat.zero_le _⟩ ?_
    exact k_eRi hx hb hr hlocks (by simp [p_sb, p_s4, p_s1, c3, c1]) dX0_stateBehind_54
  by_cases c4 : u = 2
  · refine lv_tableIn (off := 54) (tgt := 55) hx hb dX0_stateBehind_1 (by rw [c4]; decide) (by rw [c4]; decide) (by rw [c4]; rfl) (by decide) ?_
    refine lv_iload_n hx hb dX0_stateBehind_55 rfl (lv_at hl 1 rfl) ?_
    refine k_riS (As := [.int ch]) (rest := []) (wc := []) ⟨hx, hb, hml, hown, hts⟩ (c_X0_isDigit l D cI cS cL _ ch) lkX0_30 rfl rfl ⟨(Nat.le_of_ble_eq_true rfl), (Nat.le_of_ble_eq_true rfl)⟩ hK hE hP hD rfl hl.1 rfl (Nat.le_of_ble_eq_true rfl) dX0_stateBehind_56 ⟨Nat.zero_le _, Nat.zero_le _⟩ ?_
    refine lv_if_eq (tgt := 66) hx hb dX0_stateBehind_59 (by decide) (fun c5 => ?_) (fun c5 => ?_)
    · have c5 := bI_eq0 c5
      refine lv_iconst (v := (-1)) hx hb dX0_stateBehind_66 (by decide) ?_
      exact k_eRi hx hb hr hlocks (by simp [p_sb, p_s4, p_s1, c4, c1, c3, c5]) dX0_stateBehind_67
    · have c5 := bI_ne0 c5
      refine lv_iconst (v := 4) hx hb dX0_stateBehind_62 (by decide) ?_
      refine lv_goto (tgt := 67) hx hb dX0_stateBehind_63 (by decide) ?_
      exact k_eRi hx hb hr hlocks (by simp [p_sb, p_s4, p_s1, c4, c1, c3, c5]) dX0_stateBehind_67
  by_cases c6 : u = 3
  · refine lv_tableIn (off := 67) (tgt := 68) hx hb dX0_stateBehind_1 (by rw [c6]; decide) (by rw [c6]; decide) (by rw [c6]; rfl) (by decide) ?_
    refine lv_iload_n hx hb dX0_stateBehind_68 rfl (lv_at hl 1 rfl) ?_
    refine lv_bipush (v := 48) hx hb dX0_stateBehind_69 (by decide) ?_
    refine lv_icmp_ne (tgt := 78) hx hb dX0_stateBehind_71 (by decide) (fun c7 => ?_) (fun c7 => ?_)
    · refine lv_iload_n hx hb dX0_stateBehind_78 rfl (lv_at hl 1 rfl) ?_
      refine k_riS (As := [.int ch]) (rest := []) (wc := []) ⟨hx, hb, hml, hown, hts⟩ (c_X0_stateBehindCoupling l D cI cS cL _ ch) lkX0_34 rfl rfl ⟨(Nat.le_of_ble_eq_true rfl), (Nat.le_of_ble_eq_true rfl)⟩ hK hE hP hD rfl hl.1 rfl (Nat.le_of_ble_eq_true rfl) dX0_stateBehind_79 ⟨Nat.zero_le _, Nat.zero_le _⟩ ?_
      exact k_eRi hx hb hr hlocks (by simp [p_sb, p_s4, p_s1, c6, c1, c3, c4, c7]) dX0_stateBehind_82
    · refine lv_iconst (v := 4) hx hb dX0_stateBehind_74 (by decide) ?_
      refine lv_goto (tgt := 82) hx hb dX0_stateBehind_75 (by decide) ?_
      exact k_eRi hx hb hr hlocks (by simp [p_sb, p_s4, p_s1, c6, c1, c3, c4, c7]) dX0_stateBehind_82
  by_cases c8 : u = 4
  · refine lv_tableIn (off := 82) (tgt := 83) hx hb dX0_stateBehind_1 (by rw [c8]; decide) (by rw [c8]; decide) (by rw [c8]; rfl) (by decide) ?_
    refine lv_iload_n hx hb dX0_stateBehind_83 rfl (lv_at hl 1 rfl) ?_
    refine k_riS (As := [.int ch]) (rest := []) (wc := []) ⟨hx, hb, hml, hown, hts⟩ (c_X0_stateBehindCoupling l D cI cS cL _ ch) lkX0_34 rfl rfl ⟨(Nat.le_of_ble_eq_true rfl), (Nat.le_of_ble_eq_true rfl)⟩ hK hE hP hD rfl hl.1 rfl (Nat.le_of_ble_eq_true rfl) dX0_stateBehind_84 ⟨Nat.zero_le _, Nat.zero_le _⟩ ?_
    exact k_eRi hx hb hr hlocks (by simp [p_sb, p_s4, p_s1, c8, c1, c3, c4, c6]) dX0_stateBehind_87
  refine lv_tableOut (tgt := 88) hx hb dX0_stateBehind_1 (by have z0 := i32_ne (b := 0) (z := 0) (by decide) c1; have z1 := i32_ne (b := 1) (z := 1) (by decide) c3; have z2 := i32_ne (b := 2) (z := 2) (by decide) c4; have z3 := i32_ne (b := 3) (z := 3) (by decide) c6; have z4 := i32_ne (b := 4) (z := 4) (by decide) c8; omega) (by decide) ?_
  refine lv_iload_n hx hb dX0_stateBehind_88 rfl (lv_at hl 1 rfl) ?_
  refine lv_bipush (v := 44) hx hb dX0_stateBehind_89 (by decide) ?_
  refine lv_icmp_ne (tgt := 98) hx hb dX0_stateBehind_91 (by decide) (fun c9 => ?_) (fun c9 => ?_)
  · refine lv_iconst (v := (-1)) hx hb dX0_stateBehind_98 (by decide) ?_
    exact k_eRi hx hb hr hlocks (by simp [p_sb, p_s4, p_s1, c1, c3, c4, c6, c8, c9]) dX0_stateBehind_99
  · refine lv_iconst (v := 0) hx hb dX0_stateBehind_94 (by decide) ?_
    refine lv_goto (tgt := 99) hx hb dX0_stateBehind_95 (by decide) ?_
    exact k_eRi hx hb hr hlocks (by simp [p_sb, p_s4, p_s1, c1, c3, c4, c6, c8, c9]) dX0_stateBehind_99

abbrev rmX0_isFull : Room := { frames := 0, cells := 0, slots := 0, locals := 0 }
set_option maxHeartbeats 4000000 in
set_option maxRecDepth 100000 in
theorem c_X0_isFull (l : Launch) (D : va_G) (cI cS cL : ClassId) (x : Nat → Nat) (T : Nat → Int32) (sz : Nat) (z : Nat) (hz60 : z ≤ 60) : Met l yX0_isFull (wy_ yX0_isFull cX0_isFull 1 (some .boolean)) rmX0_isFull (kPc D (kTy cI cS cL) (txW cI x (nI z) T) sz [.ref (x 2)]) (kRi (bI (decide (60 ≤ z)))) 0 0 noF := by
  refine k_ofW (by decide) (Nat.le_of_ble_eq_true rfl) ?_
  intro p e s m args below meth c hx hb hr hml hts hown hlocks hnm hsz hP hK hD hE ls hl
  subst hsz
  have hl : lv_has ls 1 [(0, .ref (x 2))] := hl
  refine lv_aload_n hx hb dX0_isFull_0 rfl (lv_at hl 0 rfl) ?_
  refine g0 hx hb hts hown hK hP 0 rfl 1 (by decide) flX0_15 (fun _ h => h) (v := .int (nI z)) rfl dX0_isFull_1 ?_
  refine lv_bipush (v := 60) hx hb dX0_isFull_4 (by decide) ?_
  refine lv_icmp_lt (tgt := 13) hx hb dX0_isFull_6 (by decide) (fun c1 => ?_) (fun c1 => ?_)
  · have c1' := Int32.not_le.mpr c1
    have hzz : z < 60 := (nI_ltI (a := z) (b := 60) (by omega) (by omega)).mp c1
    refine lv_iconst (v := 0) hx hb dX0_isFull_13 (by decide) ?_
    exact k_eRz hx hb hr hlocks rfl (by exact bI_zero (by simp; omega)) dX0_isFull_14
  · have c1' := Int32.not_lt.mp c1
    have hzz : 60 ≤ z := (nI_leI (a := 60) (b := z) (by omega) (by omega)).mp (Int32.not_lt.mp c1)
    refine lv_iconst (v := 1) hx hb dX0_isFull_9 (by decide) ?_
    refine lv_goto (tgt := 14) hx hb dX0_isFull_10 (by decide) ?_
    exact k_eRz hx hb hr hlocks rfl (by exact bI_one (decide_eq_true hzz)) dX0_isFull_14

abbrev rmX0_findError : Room := { frames := 3, cells := 0, slots := 0, locals := 61 }
set_option maxHeartbeats 4000000 in
set_option maxRecDepth 100000 in
theorem c_X0_findError (l : Launch) (D : va_G) (cI cS cL : ClassId) (x : Nat → Nat) (T : Nat → Int32) (sz : Nat) (z : Nat) (hz60 : z ≤ 60) : Met l yX0_findError (wy_ yX0_findError cX0_findError 3 (some .int)) rmX0_findError (kPc D (kTy cI cS cL) (txW cI x (nI z) T) sz [.ref (x 2)]) (kRi (nI (p_fe T z 0))) 0 0 noF := by
  refine k_ofW (by decide) (Nat.le_of_ble_eq_true rfl) ?_
  intro p e s m args below meth c hx hb hr hml hts hown hlocks hnm hsz hP hK hD hE ls hl
  subst hsz
  have hl : lv_has ls 3 [(0, .ref (x 2))] := hl
  refine lv_iconst (v := 0) hx hb dX0_findError_0 (by decide) ?_
  refine lv_istore_n (lv' := [(1, .int 0), (0, .ref (x 2))]) hx hb dX0_findError_1 rfl hl (by decide) rfl (fun ls hl => ?_)
  refine lv_iconst (v := 0) hx hb dX0_findError_2 (by decide) ?_
  refine lv_istore_n (lv' := [(2, .int 0), (1, .int 0), (0, .ref (x 2))]) hx hb dX0_findError_3 rfl hl (by decide) rfl (fun ls hl => ?_)
  have L1 : ∀ (f k : Nat), k ≤ z → z - k < f → (hau : ¬ p_au T k = -1) → (hfe : p_fe T (z - k) k = p_fe T z 0) → ∀ ls : Array Slot, lv_has ls 3 [(0, .ref (x 2)), (1, .int (p_au T k)), (2, .int (nI k))] → W p l e rmX0_findError s m args below meth c s.heap [] 0 0 (MQ below (kRi (nI (p_fe T z 0))) args s 0 0 noF) (F0 m 4 ls []) := by
    intro f
    induction f with
    | zero => intro k hv1 hv2; exact absurd hv2 (Nat.not_lt_zero _)
    | succ f ih =>
      intro k hv1 hv2 hau hfe  ls hl
      refine lv_iload_n hx hb dX0_findError_4 rfl (lv_at hl 2 rfl) ?_
      refine lv_aload_n hx hb dX0_findError_5 rfl (lv_at hl 0 rfl) ?_
      refine g0 hx hb hts hown hK hP 0 rfl 1 (by decide) flX0_15 (fun _ h => h) (v := .int (nI z)) rfl dX0_findError_6 ?_
      refine lv_icmp_ge (tgt := 36) hx hb dX0_findError_9 (by decide) (fun c2 => ?_) (fun c2 => ?_)
      · have c2' := Int32.not_lt.mpr c2
        have hkn : z = k := (k_exit (by omega) hv1 c2).symm
        subst hkn
        refine lv_aload_n hx hb dX0_findError_36 rfl (lv_at hl 0 rfl) ?_
        refine g0 hx hb hts hown hK hP 0 rfl 1 (by decide) flX0_15 (fun _ h => h) (v := .int (nI z)) rfl dX0_findError_37 ?_
        exact k_eRi hx hb hr hlocks (by rw [← hfe, Nat.sub_self]; rfl) dX0_findError_40
      · have c2' := Int32.not_le.mp c2
        have hkn : k < z := k_more (by omega) hv1 c2
        refine lv_iload_n hx hb dX0_findError_12 rfl (lv_at hl 1 rfl) ?_
        refine lv_aload_n hx hb dX0_findError_13 rfl (lv_at hl 0 rfl) ?_
        refine g0 hx hb hts hown hK hP 0 rfl 0 (by decide) flX0_11 (fun _ h => h) (v := .ref (x 3)) rfl dX0_findError_14 ?_
        refine lv_iload_n hx hb dX0_findError_17 rfl (lv_at hl 2 rfl) ?_
        refine k_ald (k := k) hx hb hK hP 1 0 rfl rfl rfl (by omega) (by decide) dX0_findError_18 ?_
        refine k_riS (As := [.int (p_au T k), .int (T k)]) (rest := []) (wc := []) ⟨hx, hb, hml, hown, hts⟩ (c_X0_stateBehind l D cI cS cL _ (p_au T k) (T k)) lkX0_19 rfl rfl ⟨(Nat.le_of_ble_eq_true rfl), (Nat.le_of_ble_eq_true rfl)⟩ hK hE k_nilP (k_nilD (A := va_A (txW cI x (nI z) T) s.heap.size)) rfl hl.1 rfl (Nat.le_of_ble_eq_true rfl) dX0_findError_19 ⟨Nat.zero_le _, Nat.zero_le _⟩ ?_
        refine lv_istore_n (lv' := [(1, .int (p_sb (p_au T k) (T k))), (0, .ref (x 2)), (2, .int (nI k))]) hx hb dX0_findError_22 rfl hl (by decide) rfl (fun ls hl => ?_)
        refine lv_iload_n hx hb dX0_findError_23 rfl (lv_at hl 0 rfl) ?_
        refine lv_iconst (v := (-1)) hx hb dX0_findError_24 (by decide) ?_
        refine lv_icmp_ne (tgt := 30) hx hb dX0_findError_25 (by decide) (fun c3 => ?_) (fun c3 => ?_)
        · have hn1 : ¬ p_au T (k + 1) = -1 := by rw [p_au_next hau]; exact c3
          refine lv_iinc (v := nI (k + 1)) (lv' := [(2, .int (nI (k + 1))), (1, .int (p_sb (p_au T k) (T k))), (0, .ref (x 2))]) hx hb dX0_findError_30 hl (k := 2) rfl (nI_1 _) (by decide) rfl (fun ls hl => ?_)
          refine lv_goto (tgt := 4) hx hb dX0_findError_33 (by decide) ?_
          have hl : lv_has ls 3 [(0, .ref (x 2)), (1, .int (p_sb (p_au T k) (T k))), (2, .int (nI (k + 1)))] := lv_sub hl [2, 1, 0] rfl
          have w4 : p_sb (p_au T k) (T k) = p_au T (k + 1) := by exact (p_au_next hau).symm
          have hl : lv_has ls 3 [(0, .ref (x 2)), (1, .int (p_au T (k + 1))), (2, .int (nI (k + 1)))] := (congrArg (fun zz => lv_has ls 3 [(0, .ref (x 2)), (1, .int zz), (2, .int (nI (k + 1)))]) w4).mp hl
          have hl : lv_has ls 3 [(0, .ref (x 2)), (1, .int (p_au T (k + 1))), (2, .int (nI (k + 1)))] := hl
          exact ih (k + 1) (by omega) (by omega) hn1 ((p_fe_step hkn hn1).symm.trans hfe) ls hl
        · have hn1 : p_au T (k + 1) = -1 := by rw [p_au_next hau]; exact c3
          refine lv_iload_n hx hb dX0_findError_28 rfl (lv_at hl 2 rfl) ?_
          exact k_eRi hx hb hr hlocks (by rw [← hfe, p_fe_stop hkn hn1]) dX0_findError_29
  have hl : lv_has ls 3 [(0, .ref (x 2)), (1, .int 0), (2, .int 0)] := lv_sub hl [2, 1, 0] rfl
  have hl : lv_has ls 3 [(0, .ref (x 2)), (1, .int (p_au T 0)), (2, .int (nI 0))] := hl
  exact L1 (z - 0 + 1) 0 (by omega) (by omega) (show ¬ (0 : Int32) = -1 by decide) rfl ls hl

abbrev rmX0_isComplete : Room := { frames := 3, cells := 0, slots := 0, locals := 61 }
set_option maxHeartbeats 4000000 in
set_option maxRecDepth 100000 in
theorem c_X0_isComplete (l : Launch) (D : va_G) (cI cS cL : ClassId) (x : Nat → Nat) (T : Nat → Int32) (sz : Nat) (z : Nat) (hz60 : z ≤ 60) : Met l yX0_isComplete (wy_ yX0_isComplete cX0_isComplete 3 (some .boolean)) rmX0_isComplete (kPc D (kTy cI cS cL) (txW cI x (nI z) T) sz [.ref (x 2)]) (kRi (bI (decide (p_au T z = 5)))) 0 0 noF := by
  refine k_ofW (by decide) (Nat.le_of_ble_eq_true rfl) ?_
  intro p e s m args below meth c hx hb hr hml hts hown hlocks hnm hsz hP hK hD hE ls hl
  subst hsz
  have hl : lv_has ls 3 [(0, .ref (x 2))] := hl
  refine lv_iconst (v := 0) hx hb dX0_isComplete_0 (by decide) ?_
  refine lv_istore_n (lv' := [(1, .int 0), (0, .ref (x 2))]) hx hb dX0_isComplete_1 rfl hl (by decide) rfl (fun ls hl => ?_)
  refine lv_iconst (v := 0) hx hb dX0_isComplete_2 (by decide) ?_
  refine lv_istore_n (lv' := [(2, .int 0), (1, .int 0), (0, .ref (x 2))]) hx hb dX0_isComplete_3 rfl hl (by decide) rfl (fun ls hl => ?_)
  have L1 : ∀ (f k : Nat), k ≤ z → z - k < f → ∀ ls : Array Slot, lv_has ls 3 [(0, .ref (x 2)), (1, .int (p_au T k)), (2, .int (nI k))] → W p l e rmX0_isComplete s m args below meth c s.heap [] 0 0 (MQ below (kRi (bI (decide (p_au T z = 5)))) args s 0 0 noF) (F0 m 4 ls []) := by
    intro f
    induction f with
    | zero => intro k hv1 hv2; exact absurd hv2 (Nat.not_lt_zero _)
    | succ f ih =>
      intro k hv1 hv2  ls hl
      refine lv_iload_n hx hb dX0_isComplete_4 rfl (lv_at hl 2 rfl) ?_
      refine lv_aload_n hx hb dX0_isComplete_5 rfl (lv_at hl 0 rfl) ?_
      refine g0 hx hb hts hown hK hP 0 rfl 1 (by decide) flX0_15 (fun _ h => h) (v := .int (nI z)) rfl dX0_isComplete_6 ?_
      refine lv_icmp_ge (tgt := 34) hx hb dX0_isComplete_9 (by decide) (fun c2 => ?_) (fun c2 => ?_)
      · have c2' := Int32.not_lt.mpr c2
        have hkn : z = k := (k_exit (by omega) hv1 c2).symm
        subst hkn
        refine lv_iload_n hx hb dX0_isComplete_34 rfl (lv_at hl 1 rfl) ?_
        refine lv_iconst (v := 5) hx hb dX0_isComplete_35 (by decide) ?_
        refine lv_icmp_ne (tgt := 43) hx hb dX0_isComplete_36 (by decide) (fun c3 => ?_) (fun c3 => ?_)
        · refine lv_iconst (v := 0) hx hb dX0_isComplete_43 (by decide) ?_
          exact k_eRz hx hb hr hlocks rfl (by exact bI_zero (by simp [c3])) dX0_isComplete_44
        · refine lv_iconst (v := 1) hx hb dX0_isComplete_39 (by decide) ?_
          refine lv_goto (tgt := 44) hx hb dX0_isComplete_40 (by decide) ?_
          exact k_eRz hx hb hr hlocks rfl (by exact bI_one (by simp [c3])) dX0_isComplete_44
      · have c2' := Int32.not_le.mp c2
        have hkn : k < z := k_more (by omega) hv1 c2
        refine lv_iload_n hx hb dX0_isComplete_12 rfl (lv_at hl 1 rfl) ?_
        refine lv_iconst (v := (-1)) hx hb dX0_isComplete_13 (by decide) ?_
        refine lv_icmp_eq (tgt := 34) hx hb dX0_isComplete_14 (by decide) (fun c4 => ?_) (fun c4 => ?_)
        · have hst : p_au T z = -1 := p_au_stay c4 z hv1
          have hk1 := c4
          refine lv_iload_n hx hb dX0_isComplete_34 rfl (lv_at hl 1 rfl) ?_
          refine lv_iconst (v := 5) hx hb dX0_isComplete_35 (by decide) ?_
          refine lv_icmp_ne (tgt := 43) hx hb dX0_isComplete_36 (by decide) (fun _ => ?_) (fun h => absurd h (by rw [hk1]; decide))
          refine lv_iconst (v := 0) hx hb dX0_isComplete_43 (by decide) ?_
          exact k_eRz hx hb hr hlocks rfl (by exact bI_zero (by rw [hst]; decide)) dX0_isComplete_44
        · have hau := c4
          refine lv_iload_n hx hb dX0_isComplete_17 rfl (lv_at hl 1 rfl) ?_
          refine lv_aload_n hx hb dX0_isComplete_18 rfl (lv_at hl 0 rfl) ?_
          refine g0 hx hb hts hown hK hP 0 rfl 0 (by decide) flX0_11 (fun _ h => h) (v := .ref (x 3)) rfl dX0_isComplete_19 ?_
          refine lv_iload_n hx hb dX0_isComplete_22 rfl (lv_at hl 2 rfl) ?_
          refine k_ald (k := k) hx hb hK hP 1 0 rfl rfl rfl (by omega) (by decide) dX0_isComplete_23 ?_
          refine k_riS (As := [.int (p_au T k), .int (T k)]) (rest := []) (wc := []) ⟨hx, hb, hml, hown, hts⟩ (c_X0_stateBehind l D cI cS cL _ (p_au T k) (T k)) lkX0_19 rfl rfl ⟨(Nat.le_of_ble_eq_true rfl), (Nat.le_of_ble_eq_true rfl)⟩ hK hE k_nilP (k_nilD (A := va_A (txW cI x (nI z) T) s.heap.size)) rfl hl.1 rfl (Nat.le_of_ble_eq_true rfl) dX0_isComplete_24 ⟨Nat.zero_le _, Nat.zero_le _⟩ ?_
          refine lv_istore_n (lv' := [(1, .int (p_sb (p_au T k) (T k))), (0, .ref (x 2)), (2, .int (nI k))]) hx hb dX0_isComplete_27 rfl hl (by decide) rfl (fun ls hl => ?_)
          refine lv_iinc (v := nI (k + 1)) (lv' := [(2, .int (nI (k + 1))), (1, .int (p_sb (p_au T k) (T k))), (0, .ref (x 2))]) hx hb dX0_isComplete_28 hl (k := 2) rfl (nI_1 _) (by decide) rfl (fun ls hl => ?_)
          refine lv_goto (tgt := 4) hx hb dX0_isComplete_31 (by decide) ?_
          have hl : lv_has ls 3 [(0, .ref (x 2)), (1, .int (p_sb (p_au T k) (T k))), (2, .int (nI (k + 1)))] := lv_sub hl [2, 1, 0] rfl
          have w6 : p_sb (p_au T k) (T k) = p_au T (k + 1) := by exact (p_au_next hau).symm
          have hl : lv_has ls 3 [(0, .ref (x 2)), (1, .int (p_au T (k + 1))), (2, .int (nI (k + 1)))] := (congrArg (fun zz => lv_has ls 3 [(0, .ref (x 2)), (1, .int zz), (2, .int (nI (k + 1)))]) w6).mp hl
          have hl : lv_has ls 3 [(0, .ref (x 2)), (1, .int (p_au T (k + 1))), (2, .int (nI (k + 1)))] := hl
          exact ih (k + 1) (by omega) (by omega) ls hl
  have hl : lv_has ls 3 [(0, .ref (x 2)), (1, .int 0), (2, .int 0)] := lv_sub hl [2, 1, 0] rfl
  have hl : lv_has ls 3 [(0, .ref (x 2)), (1, .int (p_au T 0)), (2, .int (nI 0))] := hl
  exact L1 (z - 0 + 1) 0 (by omega) (by omega) ls hl

abbrev rmX0_addCode : Room := { frames := 0, cells := 0, slots := 0, locals := 0 }
set_option maxHeartbeats 4000000 in
set_option maxRecDepth 100000 in
theorem c_X0_addCode (l : Launch) (D : va_G) (cI cS cL : ClassId) (x : Nat → Nat) (T : Nat → Int32) (sz : Nat) (z : Nat) (hz60 : z ≤ 60) (ch : Int32) (hz : z < 60) : Met l yX0_addCode (wy_ yX0_addCode cX0_addCode 2 none) rmX0_addCode (kPc D (kTy cI cS cL) (txW cI x (nI z) T) sz [.ref (x 2), .int ch]) (kMv D (txW cI x (nI z) T) (txW cI x (nI (z + 1)) (upd T z ch)) sz) 0 0 (va_A (txW cI x (nI z) T) sz) := by
  refine k_ofW (by decide) (Nat.le_of_ble_eq_true rfl) ?_
  intro p e s m args below meth c hx hb hr hml hts hown hlocks hnm hsz hP hK hD hE ls hl
  subst hsz
  have hA : ∀ q : Nat, s.heap.size ≤ q → (va_A (txW cI x (nI z) T) s.heap.size) q := fun q h => Or.inr h
  have hS : va_S (va_A (txW cI x (nI z) T) s.heap.size) s.heap s.heap [] := va_S.rf
  have hl : lv_has ls 2 [(0, .ref (x 2)), (1, .int ch)] := hl
  refine lv_aload_n hx hb dX0_addCode_0 rfl (lv_at hl 0 rfl) ?_
  refine g0 hx hb hts hown hK hP 0 rfl 0 (by decide) flX0_11 (fun _ h => h) (v := .ref (x 3)) rfl dX0_addCode_1 ?_
  refine lv_aload_n hx hb dX0_addCode_4 rfl (lv_at hl 0 rfl) ?_
  refine g0 hx hb hts hown hK hP 0 rfl 1 (by decide) flX0_15 (fun _ h => h) (v := .int (nI z)) rfl dX0_addCode_5 ?_
  refine lv_iload_n hx hb dX0_addCode_8 rfl (lv_at hl 1 rfl) ?_
  refine k_ast (k := z) hx hb hK hP hD hS 1 0 rfl rfl rfl (by omega) (by decide) dX0_addCode_9 (fun H locs hP hD hS => ?_)
  have hP : va_P D vwCl (txW cI x (nI z) (upd T z ch)) H := hP
  have hD : va_D (va_A (txW cI x (nI z) T) s.heap.size) (txW cI x (nI z) (upd T z ch)) := hD
  refine lv_aload_n hx hb dX0_addCode_10 rfl (lv_at hl 0 rfl) ?_
  refine lv_dup hx hb dX0_addCode_11 rfl ?_
  refine g0 hx hb hts hown hK hP 0 rfl 1 (by decide) flX0_15 (fun _ h => h) (v := .int (nI z)) rfl dX0_addCode_12 ?_
  refine lv_iconst (v := 1) hx hb dX0_addCode_15 (by decide) ?_
  refine lv_iadd hx hb dX0_addCode_16 (lv_topi (fun x1 e1 => ?_))
  have q1 : x1 = nI (z + 1) := by rw [e1]; exact nI_1 _
  subst q1
  refine f0 hx hb hts hown hK hP hD hS 0 rfl 1 (by decide) flX0_15 (fun _ h => h) rfl rfl rfl (Nat.le_of_ble_eq_true rfl) dX0_addCode_17 (fun H locs hP hD hS => ?_)
  have hP : va_P D vwCl (txW cI x (nI (z + 1)) (upd T z ch)) H := hP
  have hD : va_D (va_A (txW cI x (nI z) T) s.heap.size) (txW cI x (nI (z + 1)) (upd T z ch)) := hD
  have hP : va_P D vwCl (txW cI x (nI (z + 1)) (upd T z ch)) H := hP
  have hD : va_D (va_A (txW cI x (nI z) T) s.heap.size) (txW cI x (nI (z + 1)) (upd T z ch)) := hD
  exact k_eMv hx hb hr hlocks hP hS dX0_addCode_20
