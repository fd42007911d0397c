abbrev rmX1_lifeOf : Room := { frames := 0, cells := 0, slots := 0, locals := 0 }
set_option maxHeartbeats 4000000 in
set_option maxRecDepth 100000 in
theorem c_X1_lifeOf (l : Launch) (D : va_G) (cI cS cL : ClassId) (sz : Nat) (k : Int32) : Met l yX1_lifeOf (wy_ yX1_lifeOf cX1_lifeOf 1 (some .int)) rmX1_lifeOf (kPc D (kTy cI cS cL) ([]) sz [.int k]) (kRi (p_life k)) 0 0 noF := by
  refine k_ofW (by decide) (Nat.le_of_ble_eq_true rfl) ?_
  intro p e s m args below meth c hx hb hr hml hts hown hlocks hnm hsz hP hK hD hE ls hl
  subst hsz
  have hl : lv_has ls 1 [(0, .int k)] := hl
  refine lv_iload_n hx hb dX1_lifeOf_0 rfl (lv_at hl 0 rfl) ?_
  by_cases c1 : k = 0
  · refine lv_lookup (off := 27) (tgt := 28) hx hb dX1_lifeOf_1 (by decide) (by rw [c1]; decide) (by decide) ?_
    refine lv_sipush (v := 900) hx hb dX1_lifeOf_28 (by decide) ?_
    exact k_eRi hx hb hr hlocks (by simp [p_life, c1]) dX1_lifeOf_31
  by_cases c2 : k = 1
  · refine lv_lookup (off := 31) (tgt := 32) hx hb dX1_lifeOf_1 (by decide) (by rw [c2]; decide) (by decide) ?_
    refine lv_sipush (v := 1500) hx hb dX1_lifeOf_32 (by decide) ?_
    exact k_eRi hx hb hr hlocks (by simp [p_life, c2, c1]) dX1_lifeOf_35
  refine lv_lookup (off := 35) (tgt := 36) hx hb dX1_lifeOf_1 (by decide) (by simp [Op.lookupswitch.offset, i32_ne (b := 0) (z := 0) (by decide) c1, i32_ne (b := 1) (z := 1) (by decide) c2]) (by decide) ?_
  refine lv_sipush (v := 1200) hx hb dX1_lifeOf_36 (by decide) ?_
  exact k_eRi hx hb hr hlocks (by simp [p_life, c1, c2]) dX1_lifeOf_39

abbrev rmX1_daysInForce : Room := { frames := 0, cells := 0, slots := 0, locals := 0 }
set_option maxHeartbeats 4000000 in
set_option maxRecDepth 100000 in
theorem c_X1_daysInForce (l : Launch) (D : va_G) (cI cS cL : ClassId) (sz : Nat) (k : Int32) : Met l yX1_daysInForce (wy_ yX1_daysInForce cX1_daysInForce 1 (some .int)) rmX1_daysInForce (kPc D (kTy cI cS cL) ([]) sz [.int k]) (kRi (p_force k)) 0 0 noF := by
  refine k_ofW (by decide) (Nat.le_of_ble_eq_true rfl) ?_
  intro p e s m args below meth c hx hb hr hml hts hown hlocks hnm hsz hP hK hD hE ls hl
  subst hsz
  have hl : lv_has ls 1 [(0, .int k)] := hl
  refine lv_iload_n hx hb dX1_daysInForce_0 rfl (lv_at hl 0 rfl) ?_
  by_cases c1 : k = 0
  · refine lv_lookup (off := 27) (tgt := 28) hx hb dX1_daysInForce_1 (by decide) (by rw [c1]; decide) (by decide) ?_
    refine lv_bipush (v := 100) hx hb dX1_daysInForce_28 (by decide) ?_
    exact k_eRi hx hb hr hlocks (by simp [p_force, c1]) dX1_daysInForce_30
  by_cases c2 : k = 1
  · refine lv_lookup (off := 30) (tgt := 31) hx hb dX1_daysInForce_1 (by decide) (by rw [c2]; decide) (by decide) ?_
    refine lv_sipush (v := 150) hx hb dX1_daysInForce_31 (by decide) ?_
    exact k_eRi hx hb hr hlocks (by simp [p_force, c2, c1]) dX1_daysInForce_34
  refine lv_lookup (off := 34) (tgt := 35) hx hb dX1_daysInForce_1 (by decide) (by simp [Op.lookupswitch.offset, i32_ne (b := 0) (z := 0) (by decide) c1, i32_ne (b := 1) (z := 1) (by decide) c2]) (by decide) ?_
  refine lv_sipush (v := 200) hx hb dX1_daysInForce_35 (by decide) ?_
  exact k_eRi hx hb hr hlocks (by simp [p_force, c1, c2]) dX1_daysInForce_38

abbrev rmX1_costOf : Room := { frames := 0, cells := 0, slots := 0, locals := 0 }
set_option maxHeartbeats 4000000 in
set_option maxRecDepth 100000 in
theorem c_X1_costOf (l : Launch) (D : va_G) (cI cS cL : ClassId) (sz : Nat) (k n : Int32) : Met l yX1_costOf (wy_ yX1_costOf cX1_costOf 2 (some .int)) rmX1_costOf (kPc D (kTy cI cS cL) ([]) sz [.int k, .int n]) (kRi (p_cost k n)) 0 0 noF := by
  refine k_ofW (by decide) (Nat.le_of_ble_eq_true rfl) ?_
  intro p e s m args below meth c hx hb hr hml hts hown hlocks hnm hsz hP hK hD hE ls hl
  subst hsz
  have hl : lv_has ls 2 [(0, .int k), (1, .int n)] := hl
  refine lv_iload_n hx hb dX1_costOf_0 rfl (lv_at hl 0 rfl) ?_
  by_cases c1 : k = 0
  · refine lv_lookup (off := 27) (tgt := 28) hx hb dX1_costOf_1 (by decide) (by rw [c1]; decide) (by decide) ?_
    refine lv_iconst (v := 2) hx hb dX1_costOf_28 (by decide) ?_
    refine lv_iload_n hx hb dX1_costOf_29 rfl (lv_at hl 1 rfl) ?_
    refine lv_imul hx hb dX1_costOf_30 (lv_topi (fun x2 e2 => ?_))
    exact k_eRi hx hb hr hlocks (by subst e2; simp [p_cost, c1]) dX1_costOf_31
  by_cases c3 : k = 1
  · refine lv_lookup (off := 31) (tgt := 32) hx hb dX1_costOf_1 (by decide) (by rw [c3]; decide) (by decide) ?_
    refine lv_iconst (v := 3) hx hb dX1_costOf_32 (by decide) ?_
    refine lv_iload_n hx hb dX1_costOf_33 rfl (lv_at hl 1 rfl) ?_
    refine lv_imul hx hb dX1_costOf_34 (lv_topi (fun x4 e4 => ?_))
    exact k_eRi hx hb hr hlocks (by subst e4; simp [p_cost, c3, c1]) dX1_costOf_35
  refine lv_lookup (off := 35) (tgt := 36) hx hb dX1_costOf_1 (by decide) (by simp [Op.lookupswitch.offset, i32_ne (b := 0) (z := 0) (by decide) c1, i32_ne (b := 1) (z := 1) (by decide) c3]) (by decide) ?_
  refine lv_iconst (v := 4) hx hb dX1_costOf_36 (by decide) ?_
  refine lv_iload_n hx hb dX1_costOf_37 rfl (lv_at hl 1 rfl) ?_
  refine lv_imul hx hb dX1_costOf_38 (lv_topi (fun x5 e5 => ?_))
  refine lv_bipush (v := 10) hx hb dX1_costOf_39 (by decide) ?_
  refine lv_iadd hx hb dX1_costOf_41 (lv_topi (fun x6 e6 => ?_))
  exact k_eRi hx hb hr hlocks (by subst e5 e6; simp [p_cost, c1, c3]) dX1_costOf_42

abbrev rmX1_strengthOf : Room := { frames := 1, cells := 0, slots := 0, locals := 13 }
set_option maxHeartbeats 4000000 in
set_option maxRecDepth 100000 in
theorem c_X1_strengthOf (l : Launch) (D : va_G) (cI cS cL : ClassId) (sz : Nat) (k w g : Int32) : Met l yX1_strengthOf (wy_ yX1_strengthOf cX1_strengthOf 3 (some .int)) rmX1_strengthOf (kPc D (kTy cI cS cL) ([]) sz [.int k, .int w, .int g]) (kRi (p_str k w g)) 0 0 noF := by
  refine k_ofW (by decide) (Nat.le_of_ble_eq_true rfl) ?_
  intro p e s m args below meth c hx hb hr hml hts hown hlocks hnm hsz hP hK hD hE ls hl
  subst hsz
  have hl : lv_has ls 3 [(0, .int k), (1, .int w), (2, .int g)] := hl
  refine lv_iload_n hx hb dX1_strengthOf_0 rfl (lv_at hl 0 rfl) ?_
  by_cases c1 : k = 0
  · refine lv_lookup (off := 27) (tgt := 28) hx hb dX1_strengthOf_1 (by decide) (by rw [c1]; decide) (by decide) ?_
    refine lv_iconst (v := 0) hx hb dX1_strengthOf_28 (by decide) ?_
    refine lv_bipush (v := 16) hx hb dX1_strengthOf_29 (by decide) ?_
    refine lv_iload_n hx hb dX1_strengthOf_31 rfl (lv_at hl 1 rfl) ?_
    refine lv_bipush (v := 10) hx hb dX1_strengthOf_32 (by decide) ?_
    refine lv_idiv hx hb dX1_strengthOf_34 (by decide) (lv_topi (fun x2 e2 => ?_))
    refine lv_isub hx hb dX1_strengthOf_35 (lv_topi (fun x3 e3 => ?_))
    refine lv_iload_n hx hb dX1_strengthOf_36 rfl (lv_at hl 2 rfl) ?_
    refine lv_isub hx hb dX1_strengthOf_37 (lv_topi (fun x4 e4 => ?_))
    refine va_mmax hx hb (hml.trans hl.1.symm) hown (hts _ wd_methodLink_RX1_9_Lib_Math_max_name) (hts _ wd_static_Lib_Math_max_name) (hts _ wd_initialized_java_lang_Math) (hts _ wd_code_Lib_Math_max_name_Lib_Math_max_code_2_some_int) (Nat.le_of_ble_eq_true rfl) (Nat.le_of_ble_eq_true rfl) (Nat.zero_le _) (Nat.zero_le _) dX1_strengthOf_38 (lv_topi (fun x5 e5 => ?_))
    exact k_eRi hx hb hr hlocks (by subst e2 e3 e4 e5; simp [p_str, mx0, c1]) dX1_strengthOf_41
  by_cases c6 : k = 1
  · refine lv_lookup (off := 41) (tgt := 42) hx hb dX1_strengthOf_1 (by decide) (by rw [c6]; decide) (by decide) ?_
    refine lv_iconst (v := 0) hx hb dX1_strengthOf_42 (by decide) ?_
    refine lv_bipush (v := 20) hx hb dX1_strengthOf_43 (by decide) ?_
    refine lv_iload_n hx hb dX1_strengthOf_45 rfl (lv_at hl 1 rfl) ?_
    refine lv_bipush (v := 8) hx hb dX1_strengthOf_46 (by decide) ?_
    refine lv_idiv hx hb dX1_strengthOf_48 (by decide) (lv_topi (fun x7 e7 => ?_))
    refine lv_isub hx hb dX1_strengthOf_49 (lv_topi (fun x8 e8 => ?_))
    refine lv_iload_n hx hb dX1_strengthOf_50 rfl (lv_at hl 2 rfl) ?_
    refine lv_iconst (v := 2) hx hb dX1_strengthOf_51 (by decide) ?_
    refine lv_idiv hx hb dX1_strengthOf_52 (by decide) (lv_topi (fun x9 e9 => ?_))
    refine lv_isub hx hb dX1_strengthOf_53 (lv_topi (fun x10 e10 => ?_))
    refine va_mmax hx hb (hml.trans hl.1.symm) hown (hts _ wd_methodLink_RX1_9_Lib_Math_max_name) (hts _ wd_static_Lib_Math_max_name) (hts _ wd_initialized_java_lang_Math) (hts _ wd_code_Lib_Math_max_name_Lib_Math_max_code_2_some_int) (Nat.le_of_ble_eq_true rfl) (Nat.le_of_ble_eq_true rfl) (Nat.zero_le _) (Nat.zero_le _) dX1_strengthOf_54 (lv_topi (fun x11 e11 => ?_))
    exact k_eRi hx hb hr hlocks (by subst e7 e8 e9 e10 e11; simp [p_str, mx0, c6, c1]) dX1_strengthOf_57
  refine lv_lookup (off := 57) (tgt := 58) hx hb dX1_strengthOf_1 (by decide) (by simp [Op.lookupswitch.offset, i32_ne (b := 0) (z := 0) (by decide) c1, i32_ne (b := 1) (z := 1) (by decide) c6]) (by decide) ?_
  refine lv_iconst (v := 0) hx hb dX1_strengthOf_58 (by decide) ?_
  refine lv_bipush (v := 24) hx hb dX1_strengthOf_59 (by decide) ?_
  refine lv_iload_n hx hb dX1_strengthOf_61 rfl (lv_at hl 1 rfl) ?_
  refine lv_iconst (v := 5) hx hb dX1_strengthOf_62 (by decide) ?_
  refine lv_idiv hx hb dX1_strengthOf_63 (by decide) (lv_topi (fun x12 e12 => ?_))
  refine lv_isub hx hb dX1_strengthOf_64 (lv_topi (fun x13 e13 => ?_))
  refine va_mmax hx hb (hml.trans hl.1.symm) hown (hts _ wd_methodLink_RX1_9_Lib_Math_max_name) (hts _ wd_static_Lib_Math_max_name) (hts _ wd_initialized_java_lang_Math) (hts _ wd_code_Lib_Math_max_name_Lib_Math_max_code_2_some_int) (Nat.le_of_ble_eq_true rfl) (Nat.le_of_ble_eq_true rfl) (Nat.zero_le _) (Nat.zero_le _) dX1_strengthOf_65 (lv_topi (fun x14 e14 => ?_))
  exact k_eRi hx hb hr hlocks (by subst e12 e13 e14; simp [p_str, mx0, c1, c6]) dX1_strengthOf_68

abbrev rmX4_isWithin : Room := { frames := 0, cells := 0, slots := 0, locals := 0 }
set_option maxHeartbeats 4000000 in
set_option maxRecDepth 100000 in
theorem c_X4_isWithin (l : Launch) (D : va_G) (cI cS cL : ClassId) (sz : Nat) (x lo hi : Int32) : Met l yX4_isWithin (wy_ yX4_isWithin cX4_isWithin 3 (some .boolean)) rmX4_isWithin (kPc D (kTy cI cS cL) ([]) sz [.int x, .int lo, .int hi]) (kRi (bI (decide (lo ≤ x ∧ x ≤ hi)))) 0 0 noF := by
  refine k_ofW (by decide) (Nat.le_of_ble_eq_true rfl) ?_
  intro p e s m args below meth c hx hb hr hml hts hown hlocks hnm hsz hP hK hD hE ls hl
  subst hsz
  have hl : lv_has ls 3 [(0, .int x), (1, .int lo), (2, .int hi)] := hl
  refine lv_iload_n hx hb dX4_isWithin_0 rfl (lv_at hl 0 rfl) ?_
  refine lv_iload_n hx hb dX4_isWithin_1 rfl (lv_at hl 1 rfl) ?_
  refine lv_icmp_lt (tgt := 14) hx hb dX4_isWithin_2 (by decide) (fun c1 => ?_) (fun c1 => ?_)
  · have c1' := Int32.not_le.mpr c1
    refine lv_iconst (v := 0) hx hb dX4_isWithin_14 (by decide) ?_
    exact k_eRz hx hb hr hlocks rfl (by exact bI_zero (by simp [c1, c1'])) dX4_isWithin_15
  · have c1' := Int32.not_lt.mp c1
    refine lv_iload_n hx hb dX4_isWithin_5 rfl (lv_at hl 0 rfl) ?_
    refine lv_iload_n hx hb dX4_isWithin_6 rfl (lv_at hl 2 rfl) ?_
    refine lv_icmp_gt (tgt := 14) hx hb dX4_isWithin_7 (by decide) (fun c2 => ?_) (fun c2 => ?_)
    · have c2' := Int32.not_le.mpr c2
      refine lv_iconst (v := 0) hx hb dX4_isWithin_14 (by decide) ?_
      exact k_eRz hx hb hr hlocks rfl (by exact bI_zero (by simp [c1, c1', c2, c2'])) dX4_isWithin_15
    · have c2' := Int32.not_lt.mp c2
      refine lv_iconst (v := 1) hx hb dX4_isWithin_10 (by decide) ?_
      refine lv_goto (tgt := 15) hx hb dX4_isWithin_11 (by decide) ?_
      exact k_eRz hx hb hr hlocks rfl (by exact bI_one (by simp [c1, c1', c2, c2'])) dX4_isWithin_15

abbrev rmX3_stepsUpTo : Room := { frames := 0, cells := 0, slots := 0, locals := 0 }
set_option maxHeartbeats 4000000 in
set_option maxRecDepth 100000 in
theorem c_X3_stepsUpTo (l : Launch) (D : va_G) (cI cS cL : ClassId) (sz : Nat) (P : Nat) (hPp : P ≤ 24) : Met l yX3_stepsUpTo (wy_ yX3_stepsUpTo cX3_stepsUpTo 1 (some .int)) rmX3_stepsUpTo (kPc D (kTy cI cS cL) ([]) sz [.int (nI P)]) (kRi (nI (p_S P))) 0 0 noF := by
  refine k_ofW (by decide) (Nat.le_of_ble_eq_true rfl) ?_
  intro p e s m args below meth c hx hb hr hml hts hown hlocks hnm hsz hP hK hD hE ls hl
  subst hsz
  have hl : lv_has ls 1 [(0, .int (nI P))] := hl
  refine lv_iload_n hx hb dX3_stepsUpTo_0 rfl (lv_at hl 0 rfl) ?_
  refine lv_iconst (v := 4) hx hb dX3_stepsUpTo_1 (by decide) ?_
  refine lv_iadd hx hb dX3_stepsUpTo_2 (lv_topi (fun x1 e1 => ?_))
  have q1 : x1 = nI (P + 4) := by rw [e1]; exact nI_add _ 4
  subst q1
  refine lv_iconst (v := 1) hx hb dX3_stepsUpTo_3 (by decide) ?_
  refine lv_isub hx hb dX3_stepsUpTo_4 (lv_topi (fun x2 e2 => ?_))
  have q2 : x2 = nI (P + 3) := by rw [e2]; exact pk_sub (a := P + 4) (b := 1) (by omega)
  subst q2
  refine lv_iconst (v := 4) hx hb dX3_stepsUpTo_5 (by decide) ?_
  refine lv_idiv hx hb dX3_stepsUpTo_6 (by decide) (lv_topi (fun x3 e3 => ?_))
  have q3 : x3 = nI (p_S P) := by rw [e3]; exact pk_div (a := P + 3) (d := 4) (by omega) (by decide) (by decide)
  subst q3
  exact k_eRi hx hb hr hlocks rfl dX3_stepsUpTo_7
