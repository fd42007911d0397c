abbrev rmX5_in : Room := { frames := 0, cells := 0, slots := 0, locals := 0 }
set_option maxHeartbeats 4000000 in
set_option maxRecDepth 100000 in
theorem c_X5_in (l : Launch) (D : va_G) (cI cS cL : ClassId) (sz : Nat) (x lo hi : Int32) : Met l yX5_in (wy_ yX5_in cX5_in 3 (some .boolean)) rmX5_in (kPc D (kTy cI cS cL) ([]) sz [.int x, .int lo, .int hi]) (kRi (bI (decide (lo ≤ x ∧ x ≤ hi)))) 0 0 noF := by
  refine k_ofW (by decide) (Nat.le_of_ble_eq_true rfl) ?_
  intro p e s m args below meth c hx hb hr hml hts hown hlocks hnm hsz hP hK hD hE ls hl
  subst hsz
  have hl : lv_has ls 3 [(0, .int x), (1, .int lo), (2, .int hi)] := hl
  refine lv_iload_n hx hb dX5_in_0 rfl (lv_at hl 0 rfl) ?_
  refine lv_iload_n hx hb dX5_in_1 rfl (lv_at hl 1 rfl) ?_
  refine lv_icmp_lt (tgt := 14) hx hb dX5_in_2 (by decide) (fun c1 => ?_) (fun c1 => ?_)
  · have c1' := Int32.not_le.mpr c1
    refine lv_iconst (v := 0) hx hb dX5_in_14 (by decide) ?_
    exact k_eRz hx hb hr hlocks rfl (by exact bI_zero (by simp [c1, c1'])) dX5_in_15
  · have c1' := Int32.not_lt.mp c1
    refine lv_iload_n hx hb dX5_in_5 rfl (lv_at hl 0 rfl) ?_
    refine lv_iload_n hx hb dX5_in_6 rfl (lv_at hl 2 rfl) ?_
    refine lv_icmp_gt (tgt := 14) hx hb dX5_in_7 (by decide) (fun c2 => ?_) (fun c2 => ?_)
    · have c2' := Int32.not_le.mpr c2
      refine lv_iconst (v := 0) hx hb dX5_in_14 (by decide) ?_
      exact k_eRz hx hb hr hlocks rfl (by exact bI_zero (by simp [c1, c1', c2, c2'])) dX5_in_15
    · have c2' := Int32.not_lt.mp c2
      refine lv_iconst (v := 1) hx hb dX5_in_10 (by decide) ?_
      refine lv_goto (tgt := 15) hx hb dX5_in_11 (by decide) ?_
      exact k_eRz hx hb hr hlocks rfl (by exact bI_one (by simp [c1, c1', c2, c2'])) dX5_in_15

abbrev rmX5_isTruck : Room := { frames := 1, cells := 0, slots := 0, locals := 22 }
set_option maxHeartbeats 4000000 in
set_option maxRecDepth 100000 in
theorem c_X5_isTruck (l : Launch) (D : va_G) (cI cS cL : ClassId) (sz : Nat) (x : Int32) : Met l yX5_isTruck (wy_ yX5_isTruck cX5_isTruck 1 (some .boolean)) rmX5_isTruck (kPc D (kTy cI cS cL) ([]) sz [.int x]) (kRi (bI (decide (0 ≤ x ∧ x ≤ 2)))) 0 0 noF := by
  refine k_ofW (by decide) (Nat.le_of_ble_eq_true rfl) ?_
  intro p e s m args below meth c hx hb hr hml hts hown hlocks hnm hsz hP hK hD hE ls hl
  subst hsz
  have hl : lv_has ls 1 [(0, .int x)] := hl
  refine lv_iload_n hx hb dX5_isTruck_0 rfl (lv_at hl 0 rfl) ?_
  refine lv_iconst (v := 0) hx hb dX5_isTruck_1 (by decide) ?_
  refine lv_iconst (v := 2) hx hb dX5_isTruck_2 (by decide) ?_
  refine k_riS (As := [.int x, .int 0, .int 2]) (rest := []) (wc := []) ⟨hx, hb, hml, hown, hts⟩ (c_X5_in l D cI cS cL _ x 0 2) lkX5_26 rfl rfl ⟨(Nat.le_of_ble_eq_true rfl), (Nat.le_of_ble_eq_true rfl)⟩ hK hE hP hD rfl hl.1 rfl (Nat.le_of_ble_eq_true rfl) dX5_isTruck_3 ⟨Nat.zero_le _, Nat.zero_le _⟩ ?_
  exact k_eRz hx hb hr hlocks (bI_nar _) rfl dX5_isTruck_6

abbrev rmX5_life : Room := { frames := 0, cells := 0, slots := 0, locals := 0 }
set_option maxHeartbeats 4000000 in
set_option maxRecDepth 100000 in
theorem c_X5_life (l : Launch) (D : va_G) (cI cS cL : ClassId) (sz : Nat) (kd : Int32) : Met l yX5_life (wy_ yX5_life cX5_life 1 (some .int)) rmX5_life (kPc D (kTy cI cS cL) ([]) sz [.int kd]) (kRi (p_life kd)) 0 0 noF := by
  refine k_ofW (by decide) (Nat.le_of_ble_eq_true rfl) ?_
  intro p e s m args below meth c hx hb hr hml hts hown hlocks hnm hsz hP hK hD hE ls hl
  subst hsz
  have hl : lv_has ls 1 [(0, .int kd)] := hl
  refine lv_iload_n hx hb dX5_life_0 rfl (lv_at hl 0 rfl) ?_
  refine lv_if_ne (tgt := 10) hx hb dX5_life_1 (by decide) (fun c1 => ?_) (fun c1 => ?_)
  · refine lv_iload_n hx hb dX5_life_10 rfl (lv_at hl 0 rfl) ?_
    refine lv_iconst (v := 1) hx hb dX5_life_11 (by decide) ?_
    refine lv_icmp_ne (tgt := 21) hx hb dX5_life_12 (by decide) (fun c2 => ?_) (fun c2 => ?_)
    · refine lv_sipush (v := 1200) hx hb dX5_life_21 (by decide) ?_
      exact k_eRi hx hb hr hlocks (by simp [p_life, c1, c2]) dX5_life_24
    · refine lv_sipush (v := 1500) hx hb dX5_life_15 (by decide) ?_
      refine lv_goto (tgt := 24) hx hb dX5_life_18 (by decide) ?_
      exact k_eRi hx hb hr hlocks (by simp [p_life, c1, c2]) dX5_life_24
  · refine lv_sipush (v := 900) hx hb dX5_life_4 (by decide) ?_
    refine lv_goto (tgt := 24) hx hb dX5_life_7 (by decide) ?_
    exact k_eRi hx hb hr hlocks (by simp [p_life, c1]) dX5_life_24

abbrev rmX5_force : Room := { frames := 0, cells := 0, slots := 0, locals := 0 }
set_option maxHeartbeats 4000000 in
set_option maxRecDepth 100000 in
theorem c_X5_force (l : Launch) (D : va_G) (cI cS cL : ClassId) (sz : Nat) (kd : Int32) : Met l yX5_force (wy_ yX5_force cX5_force 1 (some .int)) rmX5_force (kPc D (kTy cI cS cL) ([]) sz [.int kd]) (kRi (p_force kd)) 0 0 noF := by
  refine k_ofW (by decide) (Nat.le_of_ble_eq_true rfl) ?_
  intro p e s m args below meth c hx hb hr hml hts hown hlocks hnm hsz hP hK hD hE ls hl
  subst hsz
  have hl : lv_has ls 1 [(0, .int kd)] := hl
  refine lv_iload_n hx hb dX5_force_0 rfl (lv_at hl 0 rfl) ?_
  refine lv_if_ne (tgt := 9) hx hb dX5_force_1 (by decide) (fun c1 => ?_) (fun c1 => ?_)
  · refine lv_iload_n hx hb dX5_force_9 rfl (lv_at hl 0 rfl) ?_
    refine lv_iconst (v := 1) hx hb dX5_force_10 (by decide) ?_
    refine lv_icmp_ne (tgt := 20) hx hb dX5_force_11 (by decide) (fun c2 => ?_) (fun c2 => ?_)
    · refine lv_sipush (v := 200) hx hb dX5_force_20 (by decide) ?_
      exact k_eRi hx hb hr hlocks (by simp [p_force, c1, c2]) dX5_force_23
    · refine lv_sipush (v := 150) hx hb dX5_force_14 (by decide) ?_
      refine lv_goto (tgt := 23) hx hb dX5_force_17 (by decide) ?_
      exact k_eRi hx hb hr hlocks (by simp [p_force, c1, c2]) dX5_force_23
  · refine lv_bipush (v := 100) hx hb dX5_force_4 (by decide) ?_
    refine lv_goto (tgt := 23) hx hb dX5_force_6 (by decide) ?_
    exact k_eRi hx hb hr hlocks (by simp [p_force, c1]) dX5_force_23

abbrev rmX5_cost : Room := { frames := 0, cells := 0, slots := 0, locals := 0 }
set_option maxHeartbeats 4000000 in
set_option maxRecDepth 100000 in
theorem c_X5_cost (l : Launch) (D : va_G) (cI cS cL : ClassId) (sz : Nat) (kd ln : Int32) (hkd : kdOk kd) : Met l yX5_cost (wy_ yX5_cost cX5_cost 2 (some .int)) rmX5_cost (kPc D (kTy cI cS cL) ([]) sz [.int kd, .int ln]) (kRi (p_cost kd ln)) 0 0 noF := by
  refine k_ofW (by decide) (Nat.le_of_ble_eq_true rfl) ?_
  intro p e s m args below meth c hx hb hr hml hts hown hlocks hnm hsz hP hK hD hE ls hl
  subst hsz
  have hl : lv_has ls 2 [(0, .int kd), (1, .int ln)] := hl
  refine lv_iload_n hx hb dX5_cost_0 rfl (lv_at hl 0 rfl) ?_
  refine lv_iconst (v := 2) hx hb dX5_cost_1 (by decide) ?_
  refine lv_icmp_ne (tgt := 14) hx hb dX5_cost_2 (by decide) (fun c1 => ?_) (fun c1 => ?_)
  · refine lv_iload_n hx hb dX5_cost_14 rfl (lv_at hl 0 rfl) ?_
    refine lv_iconst (v := 2) hx hb dX5_cost_15 (by decide) ?_
    refine lv_iadd hx hb dX5_cost_16 (lv_topi (fun x2 e2 => ?_))
    refine lv_iload_n hx hb dX5_cost_17 rfl (lv_at hl 1 rfl) ?_
    refine lv_imul hx hb dX5_cost_18 (lv_topi (fun x3 e3 => ?_))
    exact k_eRi hx hb hr hlocks (by subst e2 e3; exact hkd.elim (fun h => by rw [h]; rfl) (fun h => h.elim (fun h => by rw [h]; rfl) (fun h => absurd h c1))) dX5_cost_19
  · refine lv_iconst (v := 4) hx hb dX5_cost_5 (by decide) ?_
    refine lv_iload_n hx hb dX5_cost_6 rfl (lv_at hl 1 rfl) ?_
    refine lv_imul hx hb dX5_cost_7 (lv_topi (fun x4 e4 => ?_))
    refine lv_bipush (v := 10) hx hb dX5_cost_8 (by decide) ?_
    refine lv_iadd hx hb dX5_cost_10 (lv_topi (fun x5 e5 => ?_))
    refine lv_goto (tgt := 19) hx hb dX5_cost_11 (by decide) ?_
    exact k_eRi hx hb hr hlocks (by subst e4 e5; rw [c1]; rfl) dX5_cost_19

abbrev rmX5_of : Room := { frames := 0, cells := 0, slots := 0, locals := 0 }
set_option maxHeartbeats 4000000 in
set_option maxRecDepth 100000 in
theorem c_X5_of (l : Launch) (D : va_G) (cI cS cL : ClassId) (a : Nat → Nat) (N : NN) (P T U v : Nat → Int32) (sz : Nat) (k w r : Nat) (hk : k < 14) (hw : w < 8) (hrw : r = 3 + w) : Met l yX5_of (wy_ yX5_of cX5_of 3 (some .int)) rmX5_of (kPc D (kTy cI cS cL) (mdW cI a N P T U v) sz [.ref (a 0), .int (nI k), .int (nI w)]) (kRi (N r k)) 0 0 noF := by
  refine k_ofW (by decide) (Nat.le_of_ble_eq_true rfl) ?_
  intro p e s m args below meth c hx hb hr hml hts hown hlocks hnm hsz hP hK hD hE ls hl
  subst hsz
  have hl : lv_has ls 3 [(0, .ref (a 0)), (1, .int (nI k)), (2, .int (nI w))] := hl
  subst hrw
  refine lv_aload_n hx hb dX5_of_0 rfl (lv_at hl 0 rfl) ?_
  refine g5 hx hb hts hown hK hP 0 rfl 0 (by decide) flX5_7 (fun _ h => h) (v := .ref (a 1)) rfl dX5_of_1 ?_
  refine lv_bipush (v := 12) hx hb dX5_of_4 (by decide) ?_
  refine lv_bipush (v := 8) hx hb dX5_of_6 (by decide) ?_
  refine lv_iload_n hx hb dX5_of_8 rfl (lv_at hl 1 rfl) ?_
  refine lv_imul hx hb dX5_of_9 (lv_topi (fun x1 e1 => ?_))
  have q1 : x1 = nI (8 * k) := by rw [e1]; exact pk_mul 8 k
  subst q1
  refine lv_iadd hx hb dX5_of_10 (lv_topi (fun x2 e2 => ?_))
  have q2 : x2 = nI (12 + 8 * k) := by rw [e2]; exact nI_add 12 (8 * k)
  subst q2
  refine lv_iload_n hx hb dX5_of_11 rfl (lv_at hl 2 rfl) ?_
  refine lv_iadd hx hb dX5_of_12 (lv_topi (fun x3 e3 => ?_))
  have q3 : x3 = nI (12 + 8 * k + w) := by rw [e3]; exact nI_add (12 + 8 * k) w
  subst q3
  refine k_ald (k := 12 + 8 * k + w) hx hb hK hP 1 0 rfl rfl rfl (by omega) (by decide) dX5_of_13 ?_
  rw [flat_hose N k w hw]
  exact k_eRi hx hb hr hlocks (by rfl) dX5_of_14

abbrev rmX5_isHose : Room := { frames := 1, cells := 0, slots := 0, locals := 22 }
set_option maxHeartbeats 4000000 in
set_option maxRecDepth 100000 in
theorem c_X5_isHose (l : Launch) (D : va_G) (cI cS cL : ClassId) (a : Nat → Nat) (N : NN) (P T U v : Nat → Int32) (sz : Nat) (x : Int32) : Met l yX5_isHose (wy_ yX5_isHose cX5_isHose 2 (some .boolean)) rmX5_isHose (kPc D (kTy cI cS cL) (mdW cI a N P T U v) sz [.ref (a 0), .int x]) (kRi (bI (decide (0 ≤ x ∧ x ≤ N 1 2 - 1)))) 0 0 noF := by
  refine k_ofW (by decide) (Nat.le_of_ble_eq_true rfl) ?_
  intro p e s m args below meth c hx hb hr hml hts hown hlocks hnm hsz hP hK hD hE ls hl
  subst hsz
  have hl : lv_has ls 2 [(0, .ref (a 0)), (1, .int x)] := hl
  refine lv_iload_n hx hb dX5_isHose_0 rfl (lv_at hl 1 rfl) ?_
  refine lv_iconst (v := 0) hx hb dX5_isHose_1 (by decide) ?_
  refine lv_aload_n hx hb dX5_isHose_2 rfl (lv_at hl 0 rfl) ?_
  refine g5 hx hb hts hown hK hP 0 rfl 0 (by decide) flX5_7 (fun _ h => h) (v := .ref (a 1)) rfl dX5_isHose_3 ?_
  refine lv_iconst (v := 5) hx hb dX5_isHose_6 (by decide) ?_
  refine k_ald (k := 5) hx hb hK hP 1 0 rfl rfl rfl (by decide) (by decide) dX5_isHose_7 ?_
  rw [show flat N (5) = N 1 2 from rfl]
  refine lv_iconst (v := 1) hx hb dX5_isHose_8 (by decide) ?_
  refine lv_isub hx hb dX5_isHose_9 (lv_topi (fun x1 e1 => ?_))
  refine k_riS (As := [.int x, .int 0, .int x1]) (rest := []) (wc := []) ⟨hx, hb, hml, hown, hts⟩ (c_X5_in l D cI cS cL _ x 0 x1) lkX5_26 rfl rfl ⟨(Nat.le_of_ble_eq_true rfl), (Nat.le_of_ble_eq_true rfl)⟩ hK hE k_nilP (k_nilD (A := va_A (mdW cI a N P T U v) s.heap.size)) rfl hl.1 rfl (Nat.le_of_ble_eq_true rfl) dX5_isHose_10 ⟨Nat.zero_le _, Nat.zero_le _⟩ ?_
  exact k_eRz hx hb hr hlocks (bI_nar _) (by subst e1; rfl) dX5_isHose_13

abbrev rmX5_strength : Room := { frames := 1, cells := 0, slots := 0, locals := 22 }
set_option maxHeartbeats 4000000 in
set_option maxRecDepth 100000 in
theorem c_X5_strength (l : Launch) (D : va_G) (cI cS cL : ClassId) (a : Nat → Nat) (N : NN) (P T U v : Nat → Int32) (sz : Nat) (k : Nat) (u : Int32) (hk : k < 14) : Met l yX5_strength (wy_ yX5_strength cX5_strength 6 (some .int)) rmX5_strength (kPc D (kTy cI cS cL) (mdW cI a N P T U v) sz [.ref (a 0), .int (nI k), .int u]) (kRi (p_strAt N k u)) 0 0 noF := by
  refine k_ofW (by decide) (Nat.le_of_ble_eq_true rfl) ?_
  intro p e s m args below meth c hx hb hr hml hts hown hlocks hnm hsz hP hK hD hE ls hl
  subst hsz
  have hl : lv_has ls 6 [(0, .ref (a 0)), (1, .int (nI k)), (2, .int u)] := hl
  refine lv_aload_n hx hb dX5_strength_0 rfl (lv_at hl 0 rfl) ?_
  refine lv_iload_n hx hb dX5_strength_1 rfl (lv_at hl 1 rfl) ?_
  refine lv_iconst (v := 0) hx hb dX5_strength_2 (by decide) ?_
  refine k_riV (As := [.int (nI k), .int (nI 0)]) (rest := []) (wc := mdW cI a N P T U v) ⟨hx, hb, hml, hown, hts⟩ (c_X5_of l D cI cS cL a N P T U v _ k 0 3 (by omega) (by decide) rfl) lkX5_37 rfl rfl ⟨(Nat.le_of_ble_eq_true rfl), (Nat.le_of_ble_eq_true rfl)⟩ (va_recv hK hP (ci := 4) (q0 := 0) rfl rfl) hK hE hP hD rfl hl.1 rfl (Nat.le_of_ble_eq_true rfl) dX5_strength_3 ⟨Nat.zero_le _, Nat.zero_le _⟩ ?_
  refine lv_istore_n (lv' := [(3, .int (N 3 k)), (0, .ref (a 0)), (1, .int (nI k)), (2, .int u)]) hx hb dX5_strength_6 rfl hl (by decide) rfl (fun ls hl => ?_)
  refine lv_aload_n hx hb dX5_strength_7 rfl (lv_at hl 1 rfl) ?_
  refine g5 hx hb hts hown hK hP 0 rfl 0 (by decide) flX5_7 (fun _ h => h) (v := .ref (a 1)) rfl dX5_strength_8 ?_
  refine lv_iconst (v := 3) hx hb dX5_strength_11 (by decide) ?_
  refine k_ald (k := 3) hx hb hK hP 1 0 rfl rfl rfl (by decide) (by decide) dX5_strength_12 ?_
  rw [show flat N (3) = N 1 0 from rfl]
  refine lv_aload_n hx hb dX5_strength_13 rfl (lv_at hl 1 rfl) ?_
  refine lv_iload_n hx hb dX5_strength_14 rfl (lv_at hl 2 rfl) ?_
  refine lv_iconst (v := 3) hx hb dX5_strength_15 (by decide) ?_
  refine k_riV (As := [.int (nI k), .int (nI 3)]) (rest := [.int (N 1 0)]) (wc := mdW cI a N P T U v) ⟨hx, hb, hml, hown, hts⟩ (c_X5_of l D cI cS cL a N P T U v _ k 3 6 (by omega) (by decide) rfl) lkX5_37 rfl rfl ⟨(Nat.le_of_ble_eq_true rfl), (Nat.le_of_ble_eq_true rfl)⟩ (va_recv hK hP (ci := 4) (q0 := 0) rfl rfl) hK hE hP hD rfl hl.1 rfl (Nat.le_of_ble_eq_true rfl) dX5_strength_16 ⟨Nat.zero_le _, Nat.zero_le _⟩ ?_
  refine lv_isub hx hb dX5_strength_19 (lv_topi (fun x1 e1 => ?_))
  refine lv_bipush (v := 100) hx hb dX5_strength_20 (by decide) ?_
  refine lv_idiv hx hb dX5_strength_22 (by decide) (lv_topi (fun x2 e2 => ?_))
  refine lv_istore (lv' := [(4, .int x2), (3, .int (N 3 k)), (0, .ref (a 0)), (1, .int (nI k)), (2, .int u)]) hx hb dX5_strength_23 hl (by decide) rfl (fun ls hl => ?_)
  refine lv_iload_n hx hb dX5_strength_25 rfl (lv_at hl 1 rfl) ?_
  refine lv_if_ne (tgt := 42) hx hb dX5_strength_26 (by decide) (fun c3 => ?_) (fun c3 => ?_)
  · refine lv_iload_n hx hb dX5_strength_42 rfl (lv_at hl 1 rfl) ?_
    refine lv_iconst (v := 1) hx hb dX5_strength_43 (by decide) ?_
    refine lv_icmp_ne (tgt := 62) hx hb dX5_strength_44 (by decide) (fun c4 => ?_) (fun c4 => ?_)
    · refine lv_bipush (v := 24) hx hb dX5_strength_62 (by decide) ?_
      refine lv_iload_n hx hb dX5_strength_64 rfl (lv_at hl 4 rfl) ?_
      refine lv_iconst (v := 5) hx hb dX5_strength_65 (by decide) ?_
      refine lv_idiv hx hb dX5_strength_66 (by decide) (lv_topi (fun x5 e5 => ?_))
      refine lv_isub hx hb dX5_strength_67 (lv_topi (fun x6 e6 => ?_))
      refine lv_istore (lv' := [(5, .int x6), (4, .int x2), (3, .int (N 3 k)), (0, .ref (a 0)), (1, .int (nI k)), (2, .int u)]) hx hb dX5_strength_68 hl (by decide) rfl (fun ls hl => ?_)
      refine lv_iload hx hb dX5_strength_70 (lv_at hl 0 rfl) ?_
      refine lv_if_ge (tgt := 79) hx hb dX5_strength_72 (by decide) (fun c7 => ?_) (fun c7 => ?_)
      · have c7' := Int32.not_lt.mpr c7
        refine lv_iload hx hb dX5_strength_79 (lv_at hl 0 rfl) ?_
        exact k_eRi hx hb hr hlocks (by subst e1 e2 e5 e6; have hm := mx0_ge c7; simpa [p_strAt, p_str, c3, c4] using hm) dX5_strength_81
      · have c7' := Int32.not_le.mp c7
        refine lv_iconst (v := 0) hx hb dX5_strength_75 (by decide) ?_
        refine lv_goto (tgt := 81) hx hb dX5_strength_76 (by decide) ?_
        exact k_eRi hx hb hr hlocks (by subst e1 e2 e5 e6; have hm := mx0_lt c7; simpa [p_strAt, p_str, c3, c4] using hm) dX5_strength_81
    · refine lv_bipush (v := 20) hx hb dX5_strength_47 (by decide) ?_
      refine lv_iload_n hx hb dX5_strength_49 rfl (lv_at hl 4 rfl) ?_
      refine lv_bipush (v := 8) hx hb dX5_strength_50 (by decide) ?_
      refine lv_idiv hx hb dX5_strength_52 (by decide) (lv_topi (fun x8 e8 => ?_))
      refine lv_isub hx hb dX5_strength_53 (lv_topi (fun x9 e9 => ?_))
      refine lv_iload hx hb dX5_strength_54 (lv_at hl 0 rfl) ?_
      refine lv_iconst (v := 2) hx hb dX5_strength_56 (by decide) ?_
      refine lv_idiv hx hb dX5_strength_57 (by decide) (lv_topi (fun x10 e10 => ?_))
      refine lv_isub hx hb dX5_strength_58 (lv_topi (fun x11 e11 => ?_))
      refine lv_goto (tgt := 68) hx hb dX5_strength_59 (by decide) ?_
      refine lv_istore (lv' := [(5, .int x11), (4, .int x2), (3, .int (N 3 k)), (0, .ref (a 0)), (1, .int (nI k)), (2, .int u)]) hx hb dX5_strength_68 hl (by decide) rfl (fun ls hl => ?_)
      refine lv_iload hx hb dX5_strength_70 (lv_at hl 0 rfl) ?_
      refine lv_if_ge (tgt := 79) hx hb dX5_strength_72 (by decide) (fun c12 => ?_) (fun c12 => ?_)
      · have c12' := Int32.not_lt.mpr c12
        refine lv_iload hx hb dX5_strength_79 (lv_at hl 0 rfl) ?_
        exact k_eRi hx hb hr hlocks (by subst e1 e2 e8 e9 e10 e11; have hm := mx0_ge c12; simpa [p_strAt, p_str, c3, c4] using hm) dX5_strength_81
      · have c12' := Int32.not_le.mp c12
        refine lv_iconst (v := 0) hx hb dX5_strength_75 (by decide) ?_
        refine lv_goto (tgt := 81) hx hb dX5_strength_76 (by decide) ?_
        exact k_eRi hx hb hr hlocks (by subst e1 e2 e8 e9 e10 e11; have hm := mx0_lt c12; simpa [p_strAt, p_str, c3, c4] using hm) dX5_strength_81
  · refine lv_bipush (v := 16) hx hb dX5_strength_29 (by decide) ?_
    refine lv_iload_n hx hb dX5_strength_31 rfl (lv_at hl 4 rfl) ?_
    refine lv_bipush (v := 10) hx hb dX5_strength_32 (by decide) ?_
    refine lv_idiv hx hb dX5_strength_34 (by decide) (lv_topi (fun x13 e13 => ?_))
    refine lv_isub hx hb dX5_strength_35 (lv_topi (fun x14 e14 => ?_))
    refine lv_iload hx hb dX5_strength_36 (lv_at hl 0 rfl) ?_
    refine lv_isub hx hb dX5_strength_38 (lv_topi (fun x15 e15 => ?_))
    refine lv_goto (tgt := 68) hx hb dX5_strength_39 (by decide) ?_
    refine lv_istore (lv' := [(5, .int x15), (4, .int x2), (3, .int (N 3 k)), (0, .ref (a 0)), (1, .int (nI k)), (2, .int u)]) hx hb dX5_strength_68 hl (by decide) rfl (fun ls hl => ?_)
    refine lv_iload hx hb dX5_strength_70 (lv_at hl 0 rfl) ?_
    refine lv_if_ge (tgt := 79) hx hb dX5_strength_72 (by decide) (fun c16 => ?_) (fun c16 => ?_)
    · have c16' := Int32.not_lt.mpr c16
      refine lv_iload hx hb dX5_strength_79 (lv_at hl 0 rfl) ?_
      exact k_eRi hx hb hr hlocks (by subst e1 e2 e13 e14 e15; have hm := mx0_ge c16; simpa [p_strAt, p_str, c3] using hm) dX5_strength_81
    · have c16' := Int32.not_le.mp c16
      refine lv_iconst (v := 0) hx hb dX5_strength_75 (by decide) ?_
      refine lv_goto (tgt := 81) hx hb dX5_strength_76 (by decide) ?_
      exact k_eRi hx hb hr hlocks (by subst e1 e2 e13 e14 e15; have hm := mx0_lt c16; simpa [p_strAt, p_str, c3] using hm) dX5_strength_81

abbrev rmX5_reason : Room := { frames := 1, cells := 0, slots := 0, locals := 22 }
set_option maxHeartbeats 4000000 in
set_option maxRecDepth 100000 in
theorem c_X5_reason (l : Launch) (D : va_G) (cI cS cL : ClassId) (a : Nat → Nat) (N : NN) (P T U v : Nat → Int32) (sz : Nat) (k : Nat) (hk : k < 14) (hd0 : 0 ≤ N 1 0) : Met l yX5_reason (wy_ yX5_reason cX5_reason 3 (some .int)) rmX5_reason (kPc D (kTy cI cS cL) (mdW cI a N P T U v) sz [.ref (a 0), .int (nI k)]) (kRi (p_reason N k)) 0 0 noF := by
  refine k_ofW (by decide) (Nat.le_of_ble_eq_true rfl) ?_
  intro p e s m args below meth c hx hb hr hml hts hown hlocks hnm hsz hP hK hD hE ls hl
  subst hsz
  have hl : lv_has ls 3 [(0, .ref (a 0)), (1, .int (nI k))] := hl
  refine lv_aload_n hx hb dX5_reason_0 rfl (lv_at hl 0 rfl) ?_
  refine lv_iload_n hx hb dX5_reason_1 rfl (lv_at hl 1 rfl) ?_
  refine lv_bipush (v := 6) hx hb dX5_reason_2 (by decide) ?_
  refine k_riV (As := [.int (nI k), .int (nI 6)]) (rest := []) (wc := mdW cI a N P T U v) ⟨hx, hb, hml, hown, hts⟩ (c_X5_of l D cI cS cL a N P T U v _ k 6 9 (by omega) (by decide) rfl) lkX5_37 rfl rfl ⟨(Nat.le_of_ble_eq_true rfl), (Nat.le_of_ble_eq_true rfl)⟩ (va_recv hK hP (ci := 4) (q0 := 0) rfl rfl) hK hE hP hD rfl hl.1 rfl (Nat.le_of_ble_eq_true rfl) dX5_reason_4 ⟨Nat.zero_le _, Nat.zero_le _⟩ ?_
  refine lv_istore_n (lv' := [(2, .int (N 9 k)), (0, .ref (a 0)), (1, .int (nI k))]) hx hb dX5_reason_7 rfl hl (by decide) rfl (fun ls hl => ?_)
  refine lv_iload_n hx hb dX5_reason_8 rfl (lv_at hl 0 rfl) ?_
  refine lv_iconst (v := (-1)) hx hb dX5_reason_9 (by decide) ?_
  refine lv_icmp_eq (tgt := 18) hx hb dX5_reason_10 (by decide) (fun c1 => ?_) (fun c1 => ?_)
  · have hp1 := c1
    refine lv_iload_n hx hb dX5_reason_18 rfl (lv_at hl 0 rfl) ?_
    refine lv_iconst (v := (-1)) hx hb dX5_reason_19 (by decide) ?_
    refine lv_icmp_ne (tgt := 27) hx hb dX5_reason_20 (by decide) (fun h => absurd (hp1) h) (fun _ => ?_)
    refine lv_iconst (v := 1) hx hb dX5_reason_23 (by decide) ?_
    refine lv_goto (tgt := 28) hx hb dX5_reason_24 (by decide) ?_
    exact k_eRi hx hb hr hlocks (by rw [p_reason_m hd0]; simp [c1, hp1]) dX5_reason_28
  · have hp0 := c1
    refine lv_iload_n hx hb dX5_reason_13 rfl (lv_at hl 0 rfl) ?_
    refine lv_iconst (v := 4) hx hb dX5_reason_14 (by decide) ?_
    refine lv_icmp_ne (tgt := 29) hx hb dX5_reason_15 (by decide) (fun c3 => ?_) (fun c3 => ?_)
    · refine lv_aload_n hx hb dX5_reason_29 rfl (lv_at hl 1 rfl) ?_
      refine g5 hx hb hts hown hK hP 0 rfl 0 (by decide) flX5_7 (fun _ h => h) (v := .ref (a 1)) rfl dX5_reason_30 ?_
      refine lv_iconst (v := 3) hx hb dX5_reason_33 (by decide) ?_
      refine k_ald (k := 3) hx hb hK hP 1 0 rfl rfl rfl (by decide) (by decide) dX5_reason_34 ?_
      rw [show flat N (3) = N 1 0 from rfl]
      refine lv_aload_n hx hb dX5_reason_35 rfl (lv_at hl 1 rfl) ?_
      refine lv_iload_n hx hb dX5_reason_36 rfl (lv_at hl 2 rfl) ?_
      refine lv_iconst (v := 3) hx hb dX5_reason_37 (by decide) ?_
      refine k_riV (As := [.int (nI k), .int (nI 3)]) (rest := [.int (N 1 0)]) (wc := mdW cI a N P T U v) ⟨hx, hb, hml, hown, hts⟩ (c_X5_of l D cI cS cL a N P T U v _ k 3 6 (by omega) (by decide) rfl) lkX5_37 rfl rfl ⟨(Nat.le_of_ble_eq_true rfl), (Nat.le_of_ble_eq_true rfl)⟩ (va_recv hK hP (ci := 4) (q0 := 0) rfl rfl) hK hE hP hD rfl hl.1 rfl (Nat.le_of_ble_eq_true rfl) dX5_reason_38 ⟨Nat.zero_le _, Nat.zero_le _⟩ ?_
      refine lv_isub hx hb dX5_reason_41 (lv_topi (fun x4 e4 => ?_))
      refine lv_aload_n hx hb dX5_reason_42 rfl (lv_at hl 1 rfl) ?_
      refine lv_iload_n hx hb dX5_reason_43 rfl (lv_at hl 2 rfl) ?_
      refine lv_iconst (v := 0) hx hb dX5_reason_44 (by decide) ?_
      refine k_riV (As := [.int (nI k), .int (nI 0)]) (rest := [.int x4]) (wc := mdW cI a N P T U v) ⟨hx, hb, hml, hown, hts⟩ (c_X5_of l D cI cS cL a N P T U v _ k 0 3 (by omega) (by decide) rfl) lkX5_37 rfl rfl ⟨(Nat.le_of_ble_eq_true rfl), (Nat.le_of_ble_eq_true rfl)⟩ (va_recv hK hP (ci := 4) (q0 := 0) rfl rfl) hK hE hP hD rfl hl.1 rfl (Nat.le_of_ble_eq_true rfl) dX5_reason_45 ⟨Nat.zero_le _, Nat.zero_le _⟩ ?_
      refine k_riS (As := [.int (N 3 k)]) (rest := [.int x4]) (wc := []) ⟨hx, hb, hml, hown, hts⟩ (c_X5_life l D cI cS cL _ (N 3 k)) lkX5_41 rfl rfl ⟨(Nat.le_of_ble_eq_true rfl), (Nat.le_of_ble_eq_true rfl)⟩ hK hE k_nilP (k_nilD (A := va_A (mdW cI a N P T U v) s.heap.size)) rfl hl.1 rfl (Nat.le_of_ble_eq_true rfl) dX5_reason_48 ⟨Nat.zero_le _, Nat.zero_le _⟩ ?_
      refine lv_icmp_le (tgt := 58) hx hb dX5_reason_51 (by decide) (fun c5 => ?_) (fun c5 => ?_)
      · have c5' := Int32.not_lt.mpr c5
        refine lv_aload_n hx hb dX5_reason_58 rfl (lv_at hl 1 rfl) ?_
        refine lv_iload_n hx hb dX5_reason_59 rfl (lv_at hl 2 rfl) ?_
        refine lv_iconst (v := 5) hx hb dX5_reason_60 (by decide) ?_
        refine k_riV (As := [.int (nI k), .int (nI 5)]) (rest := []) (wc := mdW cI a N P T U v) ⟨hx, hb, hml, hown, hts⟩ (c_X5_of l D cI cS cL a N P T U v _ k 5 8 (by omega) (by decide) rfl) lkX5_37 rfl rfl ⟨(Nat.le_of_ble_eq_true rfl), (Nat.le_of_ble_eq_true rfl)⟩ (va_recv hK hP (ci := 4) (q0 := 0) rfl rfl) hK hE hP hD rfl hl.1 rfl (Nat.le_of_ble_eq_true rfl) dX5_reason_61 ⟨Nat.zero_le _, Nat.zero_le _⟩ ?_
        refine lv_aload_n hx hb dX5_reason_64 rfl (lv_at hl 1 rfl) ?_
        refine g5 hx hb hts hown hK hP 0 rfl 0 (by decide) flX5_7 (fun _ h => h) (v := .ref (a 1)) rfl dX5_reason_65 ?_
        refine lv_iconst (v := 3) hx hb dX5_reason_68 (by decide) ?_
        refine k_ald (k := 3) hx hb hK hP 1 0 rfl rfl rfl (by decide) (by decide) dX5_reason_69 ?_
        rw [show flat N (3) = N 1 0 from rfl]
        refine lv_icmp_ge (tgt := 77) hx hb dX5_reason_70 (by decide) (fun c6 => ?_) (fun c6 => ?_)
        · have c6' := Int32.not_lt.mpr c6
          refine lv_iconst (v := 0) hx hb dX5_reason_77 (by decide) ?_
          exact k_eRi hx hb hr hlocks (by subst e4; rw [p_reason_m hd0]; simp [c1, hp0, c3, c5, c5', c6, c6']) dX5_reason_78
        · have c6' := Int32.not_le.mp c6
          refine lv_iconst (v := 4) hx hb dX5_reason_73 (by decide) ?_
          refine lv_goto (tgt := 78) hx hb dX5_reason_74 (by decide) ?_
          exact k_eRi hx hb hr hlocks (by subst e4; rw [p_reason_m hd0]; simp [c1, hp0, c3, c5, c5', c6, c6']) dX5_reason_78
      · have c5' := Int32.not_le.mp c5
        refine lv_iconst (v := 3) hx hb dX5_reason_54 (by decide) ?_
        refine lv_goto (tgt := 78) hx hb dX5_reason_55 (by decide) ?_
        exact k_eRi hx hb hr hlocks (by subst e4; rw [p_reason_m hd0]; simp [c1, hp0, c3, c5, c5']) dX5_reason_78
    · refine lv_iload_n hx hb dX5_reason_18 rfl (lv_at hl 0 rfl) ?_
      refine lv_iconst (v := (-1)) hx hb dX5_reason_19 (by decide) ?_
      refine lv_icmp_ne (tgt := 27) hx hb dX5_reason_20 (by decide) (fun _ => ?_) (fun h => absurd h (hp0))
      refine lv_iconst (v := 2) hx hb dX5_reason_27 (by decide) ?_
      exact k_eRi hx hb hr hlocks (by rw [p_reason_m hd0]; simp [c1, hp0, c3]) dX5_reason_28

abbrev rmX5_isReady : Room := { frames := 2, cells := 0, slots := 0, locals := 44 }
set_option maxHeartbeats 4000000 in
set_option maxRecDepth 100000 in
theorem c_X5_isReady (l : Launch) (D : va_G) (cI cS cL : ClassId) (a : Nat → Nat) (N : NN) (P T U v : Nat → Int32) (sz : Nat) (k : Nat) (hk : k < 14) (hd0 : 0 ≤ N 1 0) : Met l yX5_isReady (wy_ yX5_isReady cX5_isReady 2 (some .boolean)) rmX5_isReady (kPc D (kTy cI cS cL) (mdW cI a N P T U v) sz [.ref (a 0), .int (nI k)]) (kRi (bI (decide (p_reason N k = 0)))) 0 0 noF := by
  refine k_ofW (by decide) (Nat.le_of_ble_eq_true rfl) ?_
  intro p e s m args below meth c hx hb hr hml hts hown hlocks hnm hsz hP hK hD hE ls hl
  subst hsz
  have hl : lv_has ls 2 [(0, .ref (a 0)), (1, .int (nI k))] := hl
  refine lv_aload_n hx hb dX5_isReady_0 rfl (lv_at hl 0 rfl) ?_
  refine lv_iload_n hx hb dX5_isReady_1 rfl (lv_at hl 1 rfl) ?_
  refine k_riV (As := [.int (nI k)]) (rest := []) (wc := mdW cI a N P T U v) ⟨hx, hb, hml, hown, hts⟩ (c_X5_reason l D cI cS cL a N P T U v _ k (by omega) hd0) lkX5_44 rfl rfl ⟨(Nat.le_of_ble_eq_true rfl), (Nat.le_of_ble_eq_true rfl)⟩ (va_recv hK hP (ci := 4) (q0 := 0) rfl rfl) hK hE hP hD rfl hl.1 rfl (Nat.le_of_ble_eq_true rfl) dX5_isReady_2 ⟨Nat.zero_le _, Nat.zero_le _⟩ ?_
  refine lv_if_ne (tgt := 12) hx hb dX5_isReady_5 (by decide) (fun c1 => ?_) (fun c1 => ?_)
  · refine lv_iconst (v := 0) hx hb dX5_isReady_12 (by decide) ?_
    exact k_eRz hx hb hr hlocks rfl (by exact bI_zero (by simp [c1])) dX5_isReady_13
  · refine lv_iconst (v := 1) hx hb dX5_isReady_8 (by decide) ?_
    refine lv_goto (tgt := 13) hx hb dX5_isReady_9 (by decide) ?_
    exact k_eRz hx hb hr hlocks rfl (by exact bI_one (by simp [c1])) dX5_isReady_13

abbrev rmX5_mayBuy : Room := { frames := 1, cells := 0, slots := 0, locals := 21 }
set_option maxHeartbeats 4000000 in
set_option maxRecDepth 100000 in
theorem c_X5_mayBuy (l : Launch) (D : va_G) (cI cS cL : ClassId) (a : Nat → Nat) (N : NN) (P T U v : Nat → Int32) (sz : Nat) (kd ln : Int32) (hkd : kdOk kd) : Met l yX5_mayBuy (wy_ yX5_mayBuy cX5_mayBuy 3 (some .boolean)) rmX5_mayBuy (kPc D (kTy cI cS cL) (mdW cI a N P T U v) sz [.ref (a 0), .int kd, .int ln]) (kRi (bI (p_can N kd ln))) 0 0 noF := by
  refine k_ofW (by decide) (Nat.le_of_ble_eq_true rfl) ?_
  intro p e s m args below meth c hx hb hr hml hts hown hlocks hnm hsz hP hK hD hE ls hl
  subst hsz
  have hl : lv_has ls 3 [(0, .ref (a 0)), (1, .int kd), (2, .int ln)] := hl
  refine lv_aload_n hx hb dX5_mayBuy_0 rfl (lv_at hl 0 rfl) ?_
  refine g5 hx hb hts hown hK hP 0 rfl 0 (by decide) flX5_7 (fun _ h => h) (v := .ref (a 1)) rfl dX5_mayBuy_1 ?_
  refine lv_iconst (v := 5) hx hb dX5_mayBuy_4 (by decide) ?_
  refine k_ald (k := 5) hx hb hK hP 1 0 rfl rfl rfl (by decide) (by decide) dX5_mayBuy_5 ?_
  rw [show flat N (5) = N 1 2 from rfl]
  refine lv_bipush (v := 14) hx hb dX5_mayBuy_6 (by decide) ?_
  refine lv_icmp_ge (tgt := 29) hx hb dX5_mayBuy_8 (by decide) (fun c1 => ?_) (fun c1 => ?_)
  · have c1' := Int32.not_lt.mpr c1
    refine lv_iconst (v := 0) hx hb dX5_mayBuy_29 (by decide) ?_
    exact k_eRz hx hb hr hlocks rfl (by exact bI_zero (by simp [p_can, c1, c1'])) dX5_mayBuy_30
  · have c1' := Int32.not_le.mp c1
    refine lv_aload_n hx hb dX5_mayBuy_11 rfl (lv_at hl 0 rfl) ?_
    refine g5 hx hb hts hown hK hP 0 rfl 0 (by decide) flX5_7 (fun _ h => h) (v := .ref (a 1)) rfl dX5_mayBuy_12 ?_
    refine lv_iconst (v := 4) hx hb dX5_mayBuy_15 (by decide) ?_
    refine k_ald (k := 4) hx hb hK hP 1 0 rfl rfl rfl (by decide) (by decide) dX5_mayBuy_16 ?_
    rw [show flat N (4) = N 1 1 from rfl]
    refine lv_iload_n hx hb dX5_mayBuy_17 rfl (lv_at hl 1 rfl) ?_
    refine lv_iload_n hx hb dX5_mayBuy_18 rfl (lv_at hl 2 rfl) ?_
    refine k_riS (As := [.int kd, .int ln]) (rest := [.int (N 1 1)]) (wc := []) ⟨hx, hb, hml, hown, hts⟩ (c_X5_cost l D cI cS cL _ kd ln hkd) lkX5_70 rfl rfl ⟨(Nat.le_of_ble_eq_true rfl), (Nat.le_of_ble_eq_true rfl)⟩ hK hE k_nilP (k_nilD (A := va_A (mdW cI a N P T U v) s.heap.size)) rfl hl.1 rfl (Nat.le_of_ble_eq_true rfl) dX5_mayBuy_19 ⟨Nat.zero_le _, Nat.zero_le _⟩ ?_
    refine lv_icmp_lt (tgt := 29) hx hb dX5_mayBuy_22 (by decide) (fun c2 => ?_) (fun c2 => ?_)
    · have c2' := Int32.not_le.mpr c2
      refine lv_iconst (v := 0) hx hb dX5_mayBuy_29 (by decide) ?_
      exact k_eRz hx hb hr hlocks rfl (by exact bI_zero (by simp [p_can, c1, c1', c2, c2'])) dX5_mayBuy_30
    · have c2' := Int32.not_lt.mp c2
      refine lv_iconst (v := 1) hx hb dX5_mayBuy_25 (by decide) ?_
      refine lv_goto (tgt := 30) hx hb dX5_mayBuy_26 (by decide) ?_
      exact k_eRz hx hb hr hlocks rfl (by exact bI_one (by simp [p_can, c1, c1', c2, c2'])) dX5_mayBuy_30

abbrev rmX5_isHere : Room := { frames := 1, cells := 0, slots := 0, locals := 22 }
set_option maxHeartbeats 4000000 in
set_option maxRecDepth 100000 in
theorem c_X5_isHere (l : Launch) (D : va_G) (cI cS cL : ClassId) (a : Nat → Nat) (N : NN) (P T U v : Nat → Int32) (sz : Nat) (k : Nat) (hk : k < 14) : Met l yX5_isHere (wy_ yX5_isHere cX5_isHere 2 (some .boolean)) rmX5_isHere (kPc D (kTy cI cS cL) (mdW cI a N P T U v) sz [.ref (a 0), .int (nI k)]) (kRi (bI (decide (0 ≤ N 9 k ∧ N 9 k ≤ 3)))) 0 0 noF := by
  refine k_ofW (by decide) (Nat.le_of_ble_eq_true rfl) ?_
  intro p e s m args below meth c hx hb hr hml hts hown hlocks hnm hsz hP hK hD hE ls hl
  subst hsz
  have hl : lv_has ls 2 [(0, .ref (a 0)), (1, .int (nI k))] := hl
  refine lv_aload_n hx hb dX5_isHere_0 rfl (lv_at hl 0 rfl) ?_
  refine lv_iload_n hx hb dX5_isHere_1 rfl (lv_at hl 1 rfl) ?_
  refine lv_bipush (v := 6) hx hb dX5_isHere_2 (by decide) ?_
  refine k_riV (As := [.int (nI k), .int (nI 6)]) (rest := []) (wc := mdW cI a N P T U v) ⟨hx, hb, hml, hown, hts⟩ (c_X5_of l D cI cS cL a N P T U v _ k 6 9 (by omega) (by decide) rfl) lkX5_37 rfl rfl ⟨(Nat.le_of_ble_eq_true rfl), (Nat.le_of_ble_eq_true rfl)⟩ (va_recv hK hP (ci := 4) (q0 := 0) rfl rfl) hK hE hP hD rfl hl.1 rfl (Nat.le_of_ble_eq_true rfl) dX5_isHere_4 ⟨Nat.zero_le _, Nat.zero_le _⟩ ?_
  refine lv_iconst (v := 0) hx hb dX5_isHere_7 (by decide) ?_
  refine lv_iconst (v := 3) hx hb dX5_isHere_8 (by decide) ?_
  refine k_riS (As := [.int (N 9 k), .int 0, .int 3]) (rest := []) (wc := []) ⟨hx, hb, hml, hown, hts⟩ (c_X5_in l D cI cS cL _ (N 9 k) 0 3) lkX5_26 rfl rfl ⟨(Nat.le_of_ble_eq_true rfl), (Nat.le_of_ble_eq_true rfl)⟩ hK hE k_nilP (k_nilD (A := va_A (mdW cI a N P T U v) s.heap.size)) rfl hl.1 rfl (Nat.le_of_ble_eq_true rfl) dX5_isHere_9 ⟨Nat.zero_le _, Nat.zero_le _⟩ ?_
  exact k_eRz hx hb hr hlocks (bI_nar _) (by simp []) dX5_isHere_12

abbrev rmX5_having : Room := { frames := 2, cells := 0, slots := 0, locals := 44 }
set_option maxHeartbeats 4000000 in
set_option maxRecDepth 100000 in
theorem c_X5_having (l : Launch) (D : va_G) (cI cS cL : ClassId) (a : Nat → Nat) (N : NN) (P T U v : Nat → Int32) (sz : Nat) (n : Nat) (rs : Int32) (hn : N 1 2 = nI n) (hn14 : n ≤ 14) (hd0 : 0 ≤ N 1 0) : Met l yX5_having (wy_ yX5_having cX5_having 4 (some .int)) rmX5_having (kPc D (kTy cI cS cL) (mdW cI a N P T U v) sz [.ref (a 0), .int rs]) (kRi (p_hv N rs n)) 0 0 noF := by
  refine k_ofW (by decide) (Nat.le_of_ble_eq_true rfl) ?_
  intro p e s m args below meth c hx hb hr hml hts hown hlocks hnm hsz hP hK hD hE ls hl
  subst hsz
  have hl : lv_has ls 4 [(0, .ref (a 0)), (1, .int rs)] := hl
  refine lv_iconst (v := 0) hx hb dX5_having_0 (by decide) ?_
  refine lv_istore_n (lv' := [(2, .int 0), (0, .ref (a 0)), (1, .int rs)]) hx hb dX5_having_1 rfl hl (by decide) rfl (fun ls hl => ?_)
  refine lv_iconst (v := 0) hx hb dX5_having_2 (by decide) ?_
  refine lv_istore_n (lv' := [(3, .int 0), (2, .int 0), (0, .ref (a 0)), (1, .int rs)]) hx hb dX5_having_3 rfl hl (by decide) rfl (fun ls hl => ?_)
  have L1 : ∀ (f k : Nat), k ≤ n → n - k < f → ∀ ls : Array Slot, lv_has ls 4 [(0, .ref (a 0)), (1, .int rs), (2, .int (p_hv N rs k)), (3, .int (nI k))] → W p l e rmX5_having s m args below meth c s.heap [] 0 0 (MQ below (kRi (p_hv N rs n)) args s 0 0 noF) (F0 m 4 ls []) := by
    intro f
    induction f with
    | zero => intro k hv1 hv2; exact absurd hv2 (Nat.not_lt_zero _)
    | succ f ih =>
      intro k hv1 hv2  ls hl
      refine lv_iload_n hx hb dX5_having_4 rfl (lv_at hl 3 rfl) ?_
      refine lv_aload_n hx hb dX5_having_5 rfl (lv_at hl 0 rfl) ?_
      refine g5 hx hb hts hown hK hP 0 rfl 0 (by decide) flX5_7 (fun _ h => h) (v := .ref (a 1)) rfl dX5_having_6 ?_
      refine lv_iconst (v := 5) hx hb dX5_having_9 (by decide) ?_
      refine k_ald (k := 5) hx hb hK hP 1 0 rfl rfl rfl (by decide) (by decide) dX5_having_10 ?_
      rw [show flat N (5) = N 1 2 from rfl]
      rw [show N 1 2 = nI n from hn]
      refine lv_icmp_ge (tgt := 37) hx hb dX5_having_11 (by decide) (fun c2 => ?_) (fun c2 => ?_)
      · have c2' := Int32.not_lt.mpr c2
        have hkn : n = k := (k_exit (by omega) hv1 c2).symm
        subst hkn
        refine lv_iload_n hx hb dX5_having_37 rfl (lv_at hl 2 rfl) ?_
        exact k_eRi hx hb hr hlocks rfl dX5_having_38
      · have c2' := Int32.not_le.mp c2
        have hkn : k < n := k_more (by omega) hv1 c2
        refine lv_iload_n hx hb dX5_having_14 rfl (lv_at hl 2 rfl) ?_
        refine lv_aload_n hx hb dX5_having_15 rfl (lv_at hl 0 rfl) ?_
        refine lv_iload_n hx hb dX5_having_16 rfl (lv_at hl 3 rfl) ?_
        refine k_riV (As := [.int (nI k)]) (rest := [.int (p_hv N rs k)]) (wc := mdW cI a N P T U v) ⟨hx, hb, hml, hown, hts⟩ (c_X5_reason l D cI cS cL a N P T U v _ k (by omega) hd0) lkX5_44 rfl rfl ⟨(Nat.le_of_ble_eq_true rfl), (Nat.le_of_ble_eq_true rfl)⟩ (va_recv hK hP (ci := 4) (q0 := 0) rfl rfl) hK hE hP hD rfl hl.1 rfl (Nat.le_of_ble_eq_true rfl) dX5_having_17 ⟨Nat.zero_le _, Nat.zero_le _⟩ ?_
        refine lv_iload_n hx hb dX5_having_20 rfl (lv_at hl 1 rfl) ?_
        refine lv_icmp_ne (tgt := 28) hx hb dX5_having_21 (by decide) (fun c3 => ?_) (fun c3 => ?_)
        · refine lv_iconst (v := 0) hx hb dX5_having_28 (by decide) ?_
          refine lv_iadd hx hb dX5_having_29 (lv_topi (fun x4 e4 => ?_))
          refine lv_istore_n (lv' := [(2, .int x4), (0, .ref (a 0)), (1, .int rs), (3, .int (nI k))]) hx hb dX5_having_30 rfl hl (by decide) rfl (fun ls hl => ?_)
          refine lv_iinc (v := nI (k + 1)) (lv' := [(3, .int (nI (k + 1))), (2, .int x4), (0, .ref (a 0)), (1, .int rs)]) hx hb dX5_having_31 hl (k := 3) rfl (nI_1 _) (by decide) rfl (fun ls hl => ?_)
          refine lv_goto (tgt := 4) hx hb dX5_having_34 (by decide) ?_
          have hl : lv_has ls 4 [(0, .ref (a 0)), (1, .int rs), (2, .int x4), (3, .int (nI (k + 1)))] := lv_sub hl [2, 3, 1, 0] rfl
          have w5 : x4 = p_hv N rs (k + 1) := by subst e4; simp [p_hv, c2, c2', hkn, c3]
          have hl : lv_has ls 4 [(0, .ref (a 0)), (1, .int rs), (2, .int (p_hv N rs (k + 1))), (3, .int (nI (k + 1)))] := (congrArg (fun zz => lv_has ls 4 [(0, .ref (a 0)), (1, .int rs), (2, .int zz), (3, .int (nI (k + 1)))]) w5).mp hl
          have hl : lv_has ls 4 [(0, .ref (a 0)), (1, .int rs), (2, .int (p_hv N rs (k + 1))), (3, .int (nI (k + 1)))] := hl
          exact ih (k + 1) (by omega) (by omega) ls hl
        · refine lv_iconst (v := 1) hx hb dX5_having_24 (by decide) ?_
          refine lv_goto (tgt := 29) hx hb dX5_having_25 (by decide) ?_
          refine lv_iadd hx hb dX5_having_29 (lv_topi (fun x6 e6 => ?_))
          refine lv_istore_n (lv' := [(2, .int x6), (0, .ref (a 0)), (1, .int rs), (3, .int (nI k))]) hx hb dX5_having_30 rfl hl (by decide) rfl (fun ls hl => ?_)
          refine lv_iinc (v := nI (k + 1)) (lv' := [(3, .int (nI (k + 1))), (2, .int x6), (0, .ref (a 0)), (1, .int rs)]) hx hb dX5_having_31 hl (k := 3) rfl (nI_1 _) (by decide) rfl (fun ls hl => ?_)
          refine lv_goto (tgt := 4) hx hb dX5_having_34 (by decide) ?_
          have hl : lv_has ls 4 [(0, .ref (a 0)), (1, .int rs), (2, .int x6), (3, .int (nI (k + 1)))] := lv_sub hl [2, 3, 1, 0] rfl
          have w7 : x6 = p_hv N rs (k + 1) := by subst e6; simp [p_hv, c2, c2', hkn, c3]
          have hl : lv_has ls 4 [(0, .ref (a 0)), (1, .int rs), (2, .int (p_hv N rs (k + 1))), (3, .int (nI (k + 1)))] := (congrArg (fun zz => lv_has ls 4 [(0, .ref (a 0)), (1, .int rs), (2, .int zz), (3, .int (nI (k + 1)))]) w7).mp hl
          have hl : lv_has ls 4 [(0, .ref (a 0)), (1, .int rs), (2, .int (p_hv N rs (k + 1))), (3, .int (nI (k + 1)))] := hl
          exact ih (k + 1) (by omega) (by omega) ls hl
  have hl : lv_has ls 4 [(0, .ref (a 0)), (1, .int rs), (2, .int 0), (3, .int 0)] := lv_sub hl [2, 3, 1, 0] rfl
  have hl : lv_has ls 4 [(0, .ref (a 0)), (1, .int rs), (2, .int (p_hv N rs 0)), (3, .int (nI 0))] := hl
  exact L1 (n - 0 + 1) 0 (by omega) (by omega) ls hl

abbrev rmX5_lapses : Room := { frames := 3, cells := 0, slots := 0, locals := 65 }
set_option maxHeartbeats 4000000 in
set_option maxRecDepth 100000 in
theorem c_X5_lapses (l : Launch) (D : va_G) (cI cS cL : ClassId) (a : Nat → Nat) (N : NN) (P T U v : Nat → Int32) (sz : Nat) (n : Nat) (hn : N 1 2 = nI n) (hn14 : n ≤ 14) (hd0 : 0 ≤ N 1 0) : Met l yX5_lapses (wy_ yX5_lapses cX5_lapses 6 (some .int)) rmX5_lapses (kPc D (kTy cI cS cL) (mdW cI a N P T U v) sz [.ref (a 0)]) (kRi (p_fl N n)) 0 0 noF := by
  refine k_ofW (by decide) (Nat.le_of_ble_eq_true rfl) ?_
  intro p e s m args below meth c hx hb hr hml hts hown hlocks hnm hsz hP hK hD hE ls hl
  subst hsz
  have hl : lv_has ls 6 [(0, .ref (a 0))] := hl
  refine lv_iconst (v := (-1)) hx hb dX5_lapses_0 (by decide) ?_
  refine lv_istore_n (lv' := [(1, .int (-1)), (0, .ref (a 0))]) hx hb dX5_lapses_1 rfl hl (by decide) rfl (fun ls hl => ?_)
  refine lv_iconst (v := 0) hx hb dX5_lapses_2 (by decide) ?_
  refine lv_istore_n (lv' := [(2, .int 0), (1, .int (-1)), (0, .ref (a 0))]) hx hb dX5_lapses_3 rfl hl (by decide) rfl (fun ls hl => ?_)
  have L1 : ∀ (f k : Nat), k ≤ n → n - k < f → ∀ ls : Array Slot, lv_has ls 6 [(0, .ref (a 0)), (1, .int (p_fl N k)), (2, .int (nI k))] → W p l e rmX5_lapses s m args below meth c s.heap [] 0 0 (MQ below (kRi (p_fl N n)) args s 0 0 noF) (F0 m 4 ls []) := by
    intro f
    induction f with
    | zero => intro k hv1 hv2; exact absurd hv2 (Nat.not_lt_zero _)
    | succ f ih =>
      intro k hv1 hv2  ls hl
      refine lv_iload_n hx hb dX5_lapses_4 rfl (lv_at hl 2 rfl) ?_
      refine lv_aload_n hx hb dX5_lapses_5 rfl (lv_at hl 0 rfl) ?_
      refine g5 hx hb hts hown hK hP 0 rfl 0 (by decide) flX5_7 (fun _ h => h) (v := .ref (a 1)) rfl dX5_lapses_6 ?_
      refine lv_iconst (v := 5) hx hb dX5_lapses_9 (by decide) ?_
      refine k_ald (k := 5) hx hb hK hP 1 0 rfl rfl rfl (by decide) (by decide) dX5_lapses_10 ?_
      rw [show flat N (5) = N 1 2 from rfl]
      rw [show N 1 2 = nI n from hn]
      refine lv_icmp_ge (tgt := 98) hx hb dX5_lapses_11 (by decide) (fun c2 => ?_) (fun c2 => ?_)
      · have c2' := Int32.not_lt.mpr c2
        have hkn : n = k := (k_exit (by omega) hv1 c2).symm
        subst hkn
        refine lv_iload_n hx hb dX5_lapses_98 rfl (lv_at hl 1 rfl) ?_
        exact k_eRi hx hb hr hlocks rfl dX5_lapses_99
      · have c2' := Int32.not_le.mp c2
        have hkn : k < n := k_more (by omega) hv1 c2
        refine lv_aload_n hx hb dX5_lapses_14 rfl (lv_at hl 0 rfl) ?_
        refine lv_iload_n hx hb dX5_lapses_15 rfl (lv_at hl 2 rfl) ?_
        refine k_riV (As := [.int (nI k)]) (rest := []) (wc := mdW cI a N P T U v) ⟨hx, hb, hml, hown, hts⟩ (c_X5_isReady l D cI cS cL a N P T U v _ k (by omega) hd0) lkX5_62 rfl rfl ⟨(Nat.le_of_ble_eq_true rfl), (Nat.le_of_ble_eq_true rfl)⟩ (va_recv hK hP (ci := 4) (q0 := 0) rfl rfl) hK hE hP hD rfl hl.1 rfl (Nat.le_of_ble_eq_true rfl) dX5_lapses_16 ⟨Nat.zero_le _, Nat.zero_le _⟩ ?_
        refine lv_if_eq (tgt := 92) hx hb dX5_lapses_19 (by decide) (fun c3 => ?_) (fun c3 => ?_)
        · have c3 := bI_eq0 c3
          refine lv_iinc (v := nI (k + 1)) (lv' := [(2, .int (nI (k + 1))), (0, .ref (a 0)), (1, .int (p_fl N k))]) hx hb dX5_lapses_92 hl (k := 2) rfl (nI_1 _) (by decide) rfl (fun ls hl => ?_)
          refine lv_goto (tgt := 4) hx hb dX5_lapses_95 (by decide) ?_
          have hl : lv_has ls 6 [(0, .ref (a 0)), (1, .int (p_fl N k)), (2, .int (nI (k + 1)))] := lv_sub hl [1, 2, 0] rfl
          have w4 : p_fl N k = p_fl N (k + 1) := by first | (simp [p_fl, mn, c2, c2', hkn, c3]; done) | (simp [p_fl, mn, c2, c2', hkn, c3]; rfl)
          have hl : lv_has ls 6 [(0, .ref (a 0)), (1, .int (p_fl N (k + 1))), (2, .int (nI (k + 1)))] := (congrArg (fun zz => lv_has ls 6 [(0, .ref (a 0)), (1, .int zz), (2, .int (nI (k + 1)))]) w4).mp hl
          have hl : lv_has ls 6 [(0, .ref (a 0)), (1, .int (p_fl N (k + 1))), (2, .int (nI (k + 1)))] := hl
          exact ih (k + 1) (by omega) (by omega) ls hl
        · have c3 := bI_ne0 c3
          refine lv_aload_n hx hb dX5_lapses_22 rfl (lv_at hl 0 rfl) ?_
          refine lv_iload_n hx hb dX5_lapses_23 rfl (lv_at hl 2 rfl) ?_
          refine lv_iconst (v := 3) hx hb dX5_lapses_24 (by decide) ?_
          refine k_riV (As := [.int (nI k), .int (nI 3)]) (rest := []) (wc := mdW cI a N P T U v) ⟨hx, hb, hml, hown, hts⟩ (c_X5_of l D cI cS cL a N P T U v _ k 3 6 (by omega) (by decide) rfl) lkX5_37 rfl rfl ⟨(Nat.le_of_ble_eq_true rfl), (Nat.le_of_ble_eq_true rfl)⟩ (va_recv hK hP (ci := 4) (q0 := 0) rfl rfl) hK hE hP hD rfl hl.1 rfl (Nat.le_of_ble_eq_true rfl) dX5_lapses_25 ⟨Nat.zero_le _, Nat.zero_le _⟩ ?_
          refine lv_aload_n hx hb dX5_lapses_28 rfl (lv_at hl 0 rfl) ?_
          refine lv_iload_n hx hb dX5_lapses_29 rfl (lv_at hl 2 rfl) ?_
          refine lv_iconst (v := 0) hx hb dX5_lapses_30 (by decide) ?_
          refine k_riV (As := [.int (nI k), .int (nI 0)]) (rest := [.int (N 6 k)]) (wc := mdW cI a N P T U v) ⟨hx, hb, hml, hown, hts⟩ (c_X5_of l D cI cS cL a N P T U v _ k 0 3 (by omega) (by decide) rfl) lkX5_37 rfl rfl ⟨(Nat.le_of_ble_eq_true rfl), (Nat.le_of_ble_eq_true rfl)⟩ (va_recv hK hP (ci := 4) (q0 := 0) rfl rfl) hK hE hP hD rfl hl.1 rfl (Nat.le_of_ble_eq_true rfl) dX5_lapses_31 ⟨Nat.zero_le _, Nat.zero_le _⟩ ?_
          refine k_riS (As := [.int (N 3 k)]) (rest := [.int (N 6 k)]) (wc := []) ⟨hx, hb, hml, hown, hts⟩ (c_X5_life l D cI cS cL _ (N 3 k)) lkX5_41 rfl rfl ⟨(Nat.le_of_ble_eq_true rfl), (Nat.le_of_ble_eq_true rfl)⟩ hK hE k_nilP (k_nilD (A := va_A (mdW cI a N P T U v) s.heap.size)) rfl hl.1 rfl (Nat.le_of_ble_eq_true rfl) dX5_lapses_34 ⟨Nat.zero_le _, Nat.zero_le _⟩ ?_
          refine lv_iadd hx hb dX5_lapses_37 (lv_topi (fun x5 e5 => ?_))
          refine lv_istore_n (lv' := [(3, .int x5), (0, .ref (a 0)), (1, .int (p_fl N k)), (2, .int (nI k))]) hx hb dX5_lapses_38 rfl hl (by decide) rfl (fun ls hl => ?_)
          refine lv_aload_n hx hb dX5_lapses_39 rfl (lv_at hl 1 rfl) ?_
          refine lv_iload_n hx hb dX5_lapses_40 rfl (lv_at hl 3 rfl) ?_
          refine lv_iconst (v := 5) hx hb dX5_lapses_41 (by decide) ?_
          refine k_riV (As := [.int (nI k), .int (nI 5)]) (rest := []) (wc := mdW cI a N P T U v) ⟨hx, hb, hml, hown, hts⟩ (c_X5_of l D cI cS cL a N P T U v _ k 5 8 (by omega) (by decide) rfl) lkX5_37 rfl rfl ⟨(Nat.le_of_ble_eq_true rfl), (Nat.le_of_ble_eq_true rfl)⟩ (va_recv hK hP (ci := 4) (q0 := 0) rfl rfl) hK hE hP hD rfl hl.1 rfl (Nat.le_of_ble_eq_true rfl) dX5_lapses_42 ⟨Nat.zero_le _, Nat.zero_le _⟩ ?_
          refine lv_iload_n hx hb dX5_lapses_45 rfl (lv_at hl 0 rfl) ?_
          refine lv_icmp_ge (tgt := 58) hx hb dX5_lapses_46 (by decide) (fun c6 => ?_) (fun c6 => ?_)
          · have c6' := Int32.not_lt.mpr c6
            have hlo := c6
            refine lv_iload_n hx hb dX5_lapses_58 rfl (lv_at hl 0 rfl) ?_
            refine lv_istore (lv' := [(4, .int x5), (3, .int x5), (0, .ref (a 0)), (1, .int (p_fl N k)), (2, .int (nI k))]) hx hb dX5_lapses_59 hl (by decide) rfl (fun ls hl => ?_)
            refine lv_iload hx hb dX5_lapses_61 (lv_at hl 0 rfl) ?_
            refine lv_aload_n hx hb dX5_lapses_63 rfl (lv_at hl 2 rfl) ?_
            refine g5 hx hb hts hown hK hP 0 rfl 0 (by decide) flX5_7 (fun _ h => h) (v := .ref (a 1)) rfl dX5_lapses_64 ?_
            refine lv_iconst (v := 3) hx hb dX5_lapses_67 (by decide) ?_
            refine k_ald (k := 3) hx hb hK hP 1 0 rfl rfl rfl (by decide) (by decide) dX5_lapses_68 ?_
            rw [show flat N (3) = N 1 0 from rfl]
            refine lv_isub hx hb dX5_lapses_69 (lv_topi (fun x7 e7 => ?_))
            refine lv_iconst (v := 1) hx hb dX5_lapses_70 (by decide) ?_
            refine lv_iadd hx hb dX5_lapses_71 (lv_topi (fun x8 e8 => ?_))
            have q8 : x8 = p_dl N k := by rw [e8]; subst e5 e7; exact m_dlB hlo
            subst q8
            refine lv_istore (lv' := [(5, .int (p_dl N k)), (4, .int x5), (3, .int x5), (0, .ref (a 0)), (1, .int (p_fl N k)), (2, .int (nI k))]) hx hb dX5_lapses_72 hl (by decide) rfl (fun ls hl => ?_)
            refine lv_iload_n hx hb dX5_lapses_74 rfl (lv_at hl 4 rfl) ?_
            refine lv_iconst (v := (-1)) hx hb dX5_lapses_75 (by decide) ?_
            refine lv_icmp_eq (tgt := 85) hx hb dX5_lapses_76 (by decide) (fun c9 => ?_) (fun c9 => ?_)
            · refine lv_iload hx hb dX5_lapses_85 (lv_at hl 0 rfl) ?_
              refine lv_goto (tgt := 91) hx hb dX5_lapses_87 (by decide) ?_
              refine lv_istore_n (lv' := [(1, .int (p_dl N k)), (5, .int (p_dl N k)), (4, .int x5), (3, .int x5), (0, .ref (a 0)), (2, .int (nI k))]) hx hb dX5_lapses_91 rfl hl (by decide) rfl (fun ls hl => ?_)
              refine lv_iinc (v := nI (k + 1)) (lv' := [(2, .int (nI (k + 1))), (1, .int (p_dl N k)), (5, .int (p_dl N k)), (4, .int x5), (3, .int x5), (0, .ref (a 0))]) hx hb dX5_lapses_92 hl (k := 5) rfl (nI_1 _) (by decide) rfl (fun ls hl => ?_)
              refine lv_goto (tgt := 4) hx hb dX5_lapses_95 (by decide) ?_
              have hl : lv_has ls 6 [(0, .ref (a 0)), (1, .int (p_dl N k)), (2, .int (nI (k + 1)))] := lv_sub hl [5, 1, 0] rfl
              have w10 : p_dl N k = p_fl N (k + 1) := by first | (subst e5 e7; simp [p_fl, mn, c2, c2', hkn, c3, c6, c6', hlo, c9]; done) | (subst e5 e7; simp [p_fl, mn, c2, c2', hkn, c3, c6, c6', hlo, c9]; rfl)
              have hl : lv_has ls 6 [(0, .ref (a 0)), (1, .int (p_fl N (k + 1))), (2, .int (nI (k + 1)))] := (congrArg (fun zz => lv_has ls 6 [(0, .ref (a 0)), (1, .int zz), (2, .int (nI (k + 1)))]) w10).mp hl
              have hl : lv_has ls 6 [(0, .ref (a 0)), (1, .int (p_fl N (k + 1))), (2, .int (nI (k + 1)))] := hl
              exact ih (k + 1) (by omega) (by omega) ls hl
            · refine lv_iload hx hb dX5_lapses_79 (lv_at hl 0 rfl) ?_
              refine lv_iload_n hx hb dX5_lapses_81 rfl (lv_at hl 4 rfl) ?_
              refine lv_icmp_ge (tgt := 90) hx hb dX5_lapses_82 (by decide) (fun c11 => ?_) (fun c11 => ?_)
              · have c11' := Int32.not_lt.mpr c11
                refine lv_iload_n hx hb dX5_lapses_90 rfl (lv_at hl 4 rfl) ?_
                refine lv_istore_n (lv' := [(1, .int (p_fl N k)), (5, .int (p_dl N k)), (4, .int x5), (3, .int x5), (0, .ref (a 0)), (2, .int (nI k))]) hx hb dX5_lapses_91 rfl hl (by decide) rfl (fun ls hl => ?_)
                refine lv_iinc (v := nI (k + 1)) (lv' := [(2, .int (nI (k + 1))), (1, .int (p_fl N k)), (5, .int (p_dl N k)), (4, .int x5), (3, .int x5), (0, .ref (a 0))]) hx hb dX5_lapses_92 hl (k := 5) rfl (nI_1 _) (by decide) rfl (fun ls hl => ?_)
                refine lv_goto (tgt := 4) hx hb dX5_lapses_95 (by decide) ?_
                have hl : lv_has ls 6 [(0, .ref (a 0)), (1, .int (p_fl N k)), (2, .int (nI (k + 1)))] := lv_sub hl [5, 1, 0] rfl
                have w12 : p_fl N k = p_fl N (k + 1) := by first | (subst e5 e7; simp [p_fl, mn, c2, c2', hkn, c3, c6, c6', hlo, c9, c11, c11']; done) | (subst e5 e7; simp [p_fl, mn, c2, c2', hkn, c3, c6, c6', hlo, c9, c11, c11']; rfl)
                have hl : lv_has ls 6 [(0, .ref (a 0)), (1, .int (p_fl N (k + 1))), (2, .int (nI (k + 1)))] := (congrArg (fun zz => lv_has ls 6 [(0, .ref (a 0)), (1, .int zz), (2, .int (nI (k + 1)))]) w12).mp hl
                have hl : lv_has ls 6 [(0, .ref (a 0)), (1, .int (p_fl N (k + 1))), (2, .int (nI (k + 1)))] := hl
                exact ih (k + 1) (by omega) (by omega) ls hl
              · have c11' := Int32.not_le.mp c11
                refine lv_iload hx hb dX5_lapses_85 (lv_at hl 0 rfl) ?_
                refine lv_goto (tgt := 91) hx hb dX5_lapses_87 (by decide) ?_
                refine lv_istore_n (lv' := [(1, .int (p_dl N k)), (5, .int (p_dl N k)), (4, .int x5), (3, .int x5), (0, .ref (a 0)), (2, .int (nI k))]) hx hb dX5_lapses_91 rfl hl (by decide) rfl (fun ls hl => ?_)
                refine lv_iinc (v := nI (k + 1)) (lv' := [(2, .int (nI (k + 1))), (1, .int (p_dl N k)), (5, .int (p_dl N k)), (4, .int x5), (3, .int x5), (0, .ref (a 0))]) hx hb dX5_lapses_92 hl (k := 5) rfl (nI_1 _) (by decide) rfl (fun ls hl => ?_)
                refine lv_goto (tgt := 4) hx hb dX5_lapses_95 (by decide) ?_
                have hl : lv_has ls 6 [(0, .ref (a 0)), (1, .int (p_dl N k)), (2, .int (nI (k + 1)))] := lv_sub hl [5, 1, 0] rfl
                have w13 : p_dl N k = p_fl N (k + 1) := by first | (subst e5 e7; simp [p_fl, mn, c2, c2', hkn, c3, c6, c6', hlo, c9, c11, c11']; done) | (subst e5 e7; simp [p_fl, mn, c2, c2', hkn, c3, c6, c6', hlo, c9, c11, c11']; rfl)
                have hl : lv_has ls 6 [(0, .ref (a 0)), (1, .int (p_fl N (k + 1))), (2, .int (nI (k + 1)))] := (congrArg (fun zz => lv_has ls 6 [(0, .ref (a 0)), (1, .int zz), (2, .int (nI (k + 1)))]) w13).mp hl
                have hl : lv_has ls 6 [(0, .ref (a 0)), (1, .int (p_fl N (k + 1))), (2, .int (nI (k + 1)))] := hl
                exact ih (k + 1) (by omega) (by omega) ls hl
          · have c6' := Int32.not_le.mp c6
            have hlt := c6'
            refine lv_aload_n hx hb dX5_lapses_49 rfl (lv_at hl 1 rfl) ?_
            refine lv_iload_n hx hb dX5_lapses_50 rfl (lv_at hl 3 rfl) ?_
            refine lv_iconst (v := 5) hx hb dX5_lapses_51 (by decide) ?_
            refine k_riV (As := [.int (nI k), .int (nI 5)]) (rest := []) (wc := mdW cI a N P T U v) ⟨hx, hb, hml, hown, hts⟩ (c_X5_of l D cI cS cL a N P T U v _ k 5 8 (by omega) (by decide) rfl) lkX5_37 rfl rfl ⟨(Nat.le_of_ble_eq_true rfl), (Nat.le_of_ble_eq_true rfl)⟩ (va_recv hK hP (ci := 4) (q0 := 0) rfl rfl) hK hE hP hD rfl hl.1 rfl (Nat.le_of_ble_eq_true rfl) dX5_lapses_52 ⟨Nat.zero_le _, Nat.zero_le _⟩ ?_
            refine lv_goto (tgt := 59) hx hb dX5_lapses_55 (by decide) ?_
            refine lv_istore (lv' := [(4, .int (N 8 k)), (3, .int x5), (0, .ref (a 0)), (1, .int (p_fl N k)), (2, .int (nI k))]) hx hb dX5_lapses_59 hl (by decide) rfl (fun ls hl => ?_)
            refine lv_iload hx hb dX5_lapses_61 (lv_at hl 0 rfl) ?_
            refine lv_aload_n hx hb dX5_lapses_63 rfl (lv_at hl 2 rfl) ?_
            refine g5 hx hb hts hown hK hP 0 rfl 0 (by decide) flX5_7 (fun _ h => h) (v := .ref (a 1)) rfl dX5_lapses_64 ?_
            refine lv_iconst (v := 3) hx hb dX5_lapses_67 (by decide) ?_
            refine k_ald (k := 3) hx hb hK hP 1 0 rfl rfl rfl (by decide) (by decide) dX5_lapses_68 ?_
            rw [show flat N (3) = N 1 0 from rfl]
            refine lv_isub hx hb dX5_lapses_69 (lv_topi (fun x14 e14 => ?_))
            refine lv_iconst (v := 1) hx hb dX5_lapses_70 (by decide) ?_
            refine lv_iadd hx hb dX5_lapses_71 (lv_topi (fun x15 e15 => ?_))
            have q15 : x15 = p_dl N k := by rw [e15]; subst e5 e14; exact m_dlA hlt
            subst q15
            refine lv_istore (lv' := [(5, .int (p_dl N k)), (4, .int (N 8 k)), (3, .int x5), (0, .ref (a 0)), (1, .int (p_fl N k)), (2, .int (nI k))]) hx hb dX5_lapses_72 hl (by decide) rfl (fun ls hl => ?_)
            refine lv_iload_n hx hb dX5_lapses_74 rfl (lv_at hl 4 rfl) ?_
            refine lv_iconst (v := (-1)) hx hb dX5_lapses_75 (by decide) ?_
            refine lv_icmp_eq (tgt := 85) hx hb dX5_lapses_76 (by decide) (fun c16 => ?_) (fun c16 => ?_)
            · refine lv_iload hx hb dX5_lapses_85 (lv_at hl 0 rfl) ?_
              refine lv_goto (tgt := 91) hx hb dX5_lapses_87 (by decide) ?_
              refine lv_istore_n (lv' := [(1, .int (p_dl N k)), (5, .int (p_dl N k)), (4, .int (N 8 k)), (3, .int x5), (0, .ref (a 0)), (2, .int (nI k))]) hx hb dX5_lapses_91 rfl hl (by decide) rfl (fun ls hl => ?_)
              refine lv_iinc (v := nI (k + 1)) (lv' := [(2, .int (nI (k + 1))), (1, .int (p_dl N k)), (5, .int (p_dl N k)), (4, .int (N 8 k)), (3, .int x5), (0, .ref (a 0))]) hx hb dX5_lapses_92 hl (k := 5) rfl (nI_1 _) (by decide) rfl (fun ls hl => ?_)
              refine lv_goto (tgt := 4) hx hb dX5_lapses_95 (by decide) ?_
              have hl : lv_has ls 6 [(0, .ref (a 0)), (1, .int (p_dl N k)), (2, .int (nI (k + 1)))] := lv_sub hl [5, 1, 0] rfl
              have w17 : p_dl N k = p_fl N (k + 1) := by first | (subst e5 e14; simp [p_fl, mn, c2, c2', hkn, c3, c6, c6', hlt, c16]; done) | (subst e5 e14; simp [p_fl, mn, c2, c2', hkn, c3, c6, c6', hlt, c16]; rfl)
              have hl : lv_has ls 6 [(0, .ref (a 0)), (1, .int (p_fl N (k + 1))), (2, .int (nI (k + 1)))] := (congrArg (fun zz => lv_has ls 6 [(0, .ref (a 0)), (1, .int zz), (2, .int (nI (k + 1)))]) w17).mp hl
              have hl : lv_has ls 6 [(0, .ref (a 0)), (1, .int (p_fl N (k + 1))), (2, .int (nI (k + 1)))] := hl
              exact ih (k + 1) (by omega) (by omega) ls hl
            · refine lv_iload hx hb dX5_lapses_79 (lv_at hl 0 rfl) ?_
              refine lv_iload_n hx hb dX5_lapses_81 rfl (lv_at hl 4 rfl) ?_
              refine lv_icmp_ge (tgt := 90) hx hb dX5_lapses_82 (by decide) (fun c18 => ?_) (fun c18 => ?_)
              · have c18' := Int32.not_lt.mpr c18
                refine lv_iload_n hx hb dX5_lapses_90 rfl (lv_at hl 4 rfl) ?_
                refine lv_istore_n (lv' := [(1, .int (p_fl N k)), (5, .int (p_dl N k)), (4, .int (N 8 k)), (3, .int x5), (0, .ref (a 0)), (2, .int (nI k))]) hx hb dX5_lapses_91 rfl hl (by decide) rfl (fun ls hl => ?_)
                refine lv_iinc (v := nI (k + 1)) (lv' := [(2, .int (nI (k + 1))), (1, .int (p_fl N k)), (5, .int (p_dl N k)), (4, .int (N 8 k)), (3, .int x5), (0, .ref (a 0))]) hx hb dX5_lapses_92 hl (k := 5) rfl (nI_1 _) (by decide) rfl (fun ls hl => ?_)
                refine lv_goto (tgt := 4) hx hb dX5_lapses_95 (by decide) ?_
                have hl : lv_has ls 6 [(0, .ref (a 0)), (1, .int (p_fl N k)), (2, .int (nI (k + 1)))] := lv_sub hl [5, 1, 0] rfl
                have w19 : p_fl N k = p_fl N (k + 1) := by first | (subst e5 e14; simp [p_fl, mn, c2, c2', hkn, c3, c6, c6', hlt, c16, c18, c18']; done) | (subst e5 e14; simp [p_fl, mn, c2, c2', hkn, c3, c6, c6', hlt, c16, c18, c18']; rfl)
                have hl : lv_has ls 6 [(0, .ref (a 0)), (1, .int (p_fl N (k + 1))), (2, .int (nI (k + 1)))] := (congrArg (fun zz => lv_has ls 6 [(0, .ref (a 0)), (1, .int zz), (2, .int (nI (k + 1)))]) w19).mp hl
                have hl : lv_has ls 6 [(0, .ref (a 0)), (1, .int (p_fl N (k + 1))), (2, .int (nI (k + 1)))] := hl
                exact ih (k + 1) (by omega) (by omega) ls hl
              · have c18' := Int32.not_le.mp c18
                refine lv_iload hx hb dX5_lapses_85 (lv_at hl 0 rfl) ?_
                refine lv_goto (tgt := 91) hx hb dX5_lapses_87 (by decide) ?_
                refine lv_istore_n (lv' := [(1, .int (p_dl N k)), (5, .int (p_dl N k)), (4, .int (N 8 k)), (3, .int x5), (0, .ref (a 0)), (2, .int (nI k))]) hx hb dX5_lapses_91 rfl hl (by decide) rfl (fun ls hl => ?_)
                refine lv_iinc (v := nI (k + 1)) (lv' := [(2, .int (nI (k + 1))), (1, .int (p_dl N k)), (5, .int (p_dl N k)), (4, .int (N 8 k)), (3, .int x5), (0, .ref (a 0))]) hx hb dX5_lapses_92 hl (k := 5) rfl (nI_1 _) (by decide) rfl (fun ls hl => ?_)
                refine lv_goto (tgt := 4) hx hb dX5_lapses_95 (by decide) ?_
                have hl : lv_has ls 6 [(0, .ref (a 0)), (1, .int (p_dl N k)), (2, .int (nI (k + 1)))] := lv_sub hl [5, 1, 0] rfl
                have w20 : p_dl N k = p_fl N (k + 1) := by first | (subst e5 e14; simp [p_fl, mn, c2, c2', hkn, c3, c6, c6', hlt, c16, c18, c18']; done) | (subst e5 e14; simp [p_fl, mn, c2, c2', hkn, c3, c6, c6', hlt, c16, c18, c18']; rfl)
                have hl : lv_has ls 6 [(0, .ref (a 0)), (1, .int (p_fl N (k + 1))), (2, .int (nI (k + 1)))] := (congrArg (fun zz => lv_has ls 6 [(0, .ref (a 0)), (1, .int zz), (2, .int (nI (k + 1)))]) w20).mp hl
                have hl : lv_has ls 6 [(0, .ref (a 0)), (1, .int (p_fl N (k + 1))), (2, .int (nI (k + 1)))] := hl
                exact ih (k + 1) (by omega) (by omega) ls hl
  have hl : lv_has ls 6 [(0, .ref (a 0)), (1, .int (-1)), (2, .int 0)] := lv_sub hl [2, 1, 0] rfl
  have w21 : (-1) = p_fl N 0 := by first | (simp [p_fl, mn]; done) | (simp [p_fl, mn]; rfl)
  have hl : lv_has ls 6 [(0, .ref (a 0)), (1, .int (p_fl N 0)), (2, .int 0)] := (congrArg (fun zz => lv_has ls 6 [(0, .ref (a 0)), (1, .int zz), (2, .int 0)]) w21).mp hl
  have hl : lv_has ls 6 [(0, .ref (a 0)), (1, .int (p_fl N 0)), (2, .int (nI 0))] := hl
  exact L1 (n - 0 + 1) 0 (by omega) (by omega) ls hl

abbrev rmX5_on : Room := { frames := 3, cells := 0, slots := 0, locals := 65 }
set_option maxHeartbeats 4000000 in
set_option maxRecDepth 100000 in
theorem c_X5_on (l : Launch) (D : va_G) (cI cS cL : ClassId) (a : Nat → Nat) (N : NN) (P T U v : Nat → Int32) (sz : Nat) (n : Nat) (t rd : Int32) (hrd : rd = 0 ∨ rd = 1) (hn : N 1 2 = nI n) (hn14 : n ≤ 14) (hd0 : 0 ≤ N 1 0) : Met l yX5_on (wy_ yX5_on cX5_on 5 (some .int)) rmX5_on (kPc D (kTy cI cS cL) (mdW cI a N P T U v) sz [.ref (a 0), .int t, .int rd]) (kRi (p_on N t rd n)) 0 0 noF := by
  refine k_ofW (by decide) (Nat.le_of_ble_eq_true rfl) ?_
  intro p e s m args below meth c hx hb hr hml hts hown hlocks hnm hsz hP hK hD hE ls hl
  subst hsz
  have hl : lv_has ls 5 [(0, .ref (a 0)), (1, .int t), (2, .int rd)] := hl
  refine lv_iconst (v := 0) hx hb dX5_on_0 (by decide) ?_
  refine lv_istore_n (lv' := [(3, .int 0), (0, .ref (a 0)), (1, .int t), (2, .int rd)]) hx hb dX5_on_1 rfl hl (by decide) rfl (fun ls hl => ?_)
  refine lv_iconst (v := 0) hx hb dX5_on_2 (by decide) ?_
  refine lv_istore (lv' := [(4, .int 0), (3, .int 0), (0, .ref (a 0)), (1, .int t), (2, .int rd)]) hx hb dX5_on_3 hl (by decide) rfl (fun ls hl => ?_)
  have L1 : ∀ (f k : Nat), k ≤ n → n - k < f → ∀ ls : Array Slot, lv_has ls 5 [(0, .ref (a 0)), (1, .int t), (2, .int rd), (3, .int (p_on N t rd k)), (4, .int (nI k))] → W p l e rmX5_on s m args below meth c s.heap [] 0 0 (MQ below (kRi (p_on N t rd n)) args s 0 0 noF) (F0 m 5 ls []) := by
    intro f
    induction f with
    | zero => intro k hv1 hv2; exact absurd hv2 (Nat.not_lt_zero _)
    | succ f ih =>
      intro k hv1 hv2  ls hl
      refine lv_iload hx hb dX5_on_5 (lv_at hl 4 rfl) ?_
      refine lv_aload_n hx hb dX5_on_7 rfl (lv_at hl 0 rfl) ?_
      refine g5 hx hb hts hown hK hP 0 rfl 0 (by decide) flX5_7 (fun _ h => h) (v := .ref (a 1)) rfl dX5_on_8 ?_
      refine lv_iconst (v := 5) hx hb dX5_on_11 (by decide) ?_
      refine k_ald (k := 5) hx hb hK hP 1 0 rfl rfl rfl (by decide) (by decide) dX5_on_12 ?_
      rw [show flat N (5) = N 1 2 from rfl]
      rw [show N 1 2 = nI n from hn]
      refine lv_icmp_ge (tgt := 55) hx hb dX5_on_13 (by decide) (fun c2 => ?_) (fun c2 => ?_)
      · have c2' := Int32.not_lt.mpr c2
        have hkn : n = k := (k_exit (by omega) hv1 c2).symm
        subst hkn
        refine lv_iload_n hx hb dX5_on_55 rfl (lv_at hl 3 rfl) ?_
        exact k_eRi hx hb hr hlocks rfl dX5_on_56
      · have c2' := Int32.not_le.mp c2
        have hkn : k < n := k_more (by omega) hv1 c2
        refine lv_iload_n hx hb dX5_on_16 rfl (lv_at hl 3 rfl) ?_
        refine lv_aload_n hx hb dX5_on_17 rfl (lv_at hl 0 rfl) ?_
        refine lv_iload hx hb dX5_on_18 (lv_at hl 4 rfl) ?_
        refine lv_bipush (v := 6) hx hb dX5_on_20 (by decide) ?_
        refine k_riV (As := [.int (nI k), .int (nI 6)]) (rest := [.int (p_on N t rd k)]) (wc := mdW cI a N P T U v) ⟨hx, hb, hml, hown, hts⟩ (c_X5_of l D cI cS cL a N P T U v _ k 6 9 (by omega) (by decide) rfl) lkX5_37 rfl rfl ⟨(Nat.le_of_ble_eq_true rfl), (Nat.le_of_ble_eq_true rfl)⟩ (va_recv hK hP (ci := 4) (q0 := 0) rfl rfl) hK hE hP hD rfl hl.1 rfl (Nat.le_of_ble_eq_true rfl) dX5_on_22 ⟨Nat.zero_le _, Nat.zero_le _⟩ ?_
        refine lv_iload_n hx hb dX5_on_25 rfl (lv_at hl 1 rfl) ?_
        refine lv_icmp_ne (tgt := 46) hx hb dX5_on_26 (by decide) (fun c3 => ?_) (fun c3 => ?_)
        · refine lv_iconst (v := 0) hx hb dX5_on_46 (by decide) ?_
          refine lv_iadd hx hb dX5_on_47 (lv_topi (fun x4 e4 => ?_))
          refine lv_istore_n (lv' := [(3, .int x4), (0, .ref (a 0)), (1, .int t), (2, .int rd), (4, .int (nI k))]) hx hb dX5_on_48 rfl hl (by decide) rfl (fun ls hl => ?_)
          refine lv_iinc (v := nI (k + 1)) (lv' := [(4, .int (nI (k + 1))), (3, .int x4), (0, .ref (a 0)), (1, .int t), (2, .int rd)]) hx hb dX5_on_49 hl (k := 4) rfl (nI_1 _) (by decide) rfl (fun ls hl => ?_)
          refine lv_goto (tgt := 5) hx hb dX5_on_52 (by decide) ?_
          have hl : lv_has ls 5 [(0, .ref (a 0)), (1, .int t), (2, .int rd), (3, .int x4), (4, .int (nI (k + 1)))] := lv_sub hl [2, 3, 4, 1, 0] rfl
          have w5 : x4 = p_on N t rd (k + 1) := by subst e4; simp [p_on, c2, c2', hkn, c3]
          have hl : lv_has ls 5 [(0, .ref (a 0)), (1, .int t), (2, .int rd), (3, .int (p_on N t rd (k + 1))), (4, .int (nI (k + 1)))] := (congrArg (fun zz => lv_has ls 5 [(0, .ref (a 0)), (1, .int t), (2, .int rd), (3, .int zz), (4, .int (nI (k + 1)))]) w5).mp hl
          have hl : lv_has ls 5 [(0, .ref (a 0)), (1, .int t), (2, .int rd), (3, .int (p_on N t rd (k + 1))), (4, .int (nI (k + 1)))] := hl
          exact ih (k + 1) (by omega) (by omega) ls hl
        · refine lv_iload_n hx hb dX5_on_29 rfl (lv_at hl 2 rfl) ?_
          refine lv_if_eq (tgt := 42) hx hb dX5_on_30 (by decide) (fun c6 => ?_) (fun c6 => ?_)
          · refine lv_iconst (v := 1) hx hb dX5_on_42 (by decide) ?_
            refine lv_goto (tgt := 47) hx hb dX5_on_43 (by decide) ?_
            refine lv_iadd hx hb dX5_on_47 (lv_topi (fun x7 e7 => ?_))
            refine lv_istore_n (lv' := [(3, .int x7), (0, .ref (a 0)), (1, .int t), (2, .int rd), (4, .int (nI k))]) hx hb dX5_on_48 rfl hl (by decide) rfl (fun ls hl => ?_)
            refine lv_iinc (v := nI (k + 1)) (lv' := [(4, .int (nI (k + 1))), (3, .int x7), (0, .ref (a 0)), (1, .int t), (2, .int rd)]) hx hb dX5_on_49 hl (k := 4) rfl (nI_1 _) (by decide) rfl (fun ls hl => ?_)
            refine lv_goto (tgt := 5) hx hb dX5_on_52 (by decide) ?_
            have hl : lv_has ls 5 [(0, .ref (a 0)), (1, .int t), (2, .int rd), (3, .int x7), (4, .int (nI (k + 1)))] := lv_sub hl [2, 3, 4, 1, 0] rfl
            have w8 : x7 = p_on N t rd (k + 1) := by subst e7; simp [p_on, c2, c2', hkn, c3, c6]
            have hl : lv_has ls 5 [(0, .ref (a 0)), (1, .int t), (2, .int rd), (3, .int (p_on N t rd (k + 1))), (4, .int (nI (k + 1)))] := (congrArg (fun zz => lv_has ls 5 [(0, .ref (a 0)), (1, .int t), (2, .int rd), (3, .int zz), (4, .int (nI (k + 1)))]) w8).mp hl
            have hl : lv_has ls 5 [(0, .ref (a 0)), (1, .int t), (2, .int rd), (3, .int (p_on N t rd (k + 1))), (4, .int (nI (k + 1)))] := hl
            exact ih (k + 1) (by omega) (by omega) ls hl
          · refine lv_aload_n hx hb dX5_on_33 rfl (lv_at hl 0 rfl) ?_
            refine lv_iload hx hb dX5_on_34 (lv_at hl 4 rfl) ?_
            refine k_riV (As := [.int (nI k)]) (rest := [.int (p_on N t rd k)]) (wc := mdW cI a N P T U v) ⟨hx, hb, hml, hown, hts⟩ (c_X5_isReady l D cI cS cL a N P T U v _ k (by omega) hd0) lkX5_62 rfl rfl ⟨(Nat.le_of_ble_eq_true rfl), (Nat.le_of_ble_eq_true rfl)⟩ (va_recv hK hP (ci := 4) (q0 := 0) rfl rfl) hK hE hP hD rfl hl.1 rfl (Nat.le_of_ble_eq_true rfl) dX5_on_36 ⟨Nat.zero_le _, Nat.zero_le _⟩ ?_
            refine lv_if_eq (tgt := 46) hx hb dX5_on_39 (by decide) (fun c9 => ?_) (fun c9 => ?_)
            · have c9 := bI_eq0 c9
              refine lv_iconst (v := 0) hx hb dX5_on_46 (by decide) ?_
              refine lv_iadd hx hb dX5_on_47 (lv_topi (fun x10 e10 => ?_))
              refine lv_istore_n (lv' := [(3, .int x10), (0, .ref (a 0)), (1, .int t), (2, .int rd), (4, .int (nI k))]) hx hb dX5_on_48 rfl hl (by decide) rfl (fun ls hl => ?_)
              refine lv_iinc (v := nI (k + 1)) (lv' := [(4, .int (nI (k + 1))), (3, .int x10), (0, .ref (a 0)), (1, .int t), (2, .int rd)]) hx hb dX5_on_49 hl (k := 4) rfl (nI_1 _) (by decide) rfl (fun ls hl => ?_)
              refine lv_goto (tgt := 5) hx hb dX5_on_52 (by decide) ?_
              have hl : lv_has ls 5 [(0, .ref (a 0)), (1, .int t), (2, .int rd), (3, .int x10), (4, .int (nI (k + 1)))] := lv_sub hl [2, 3, 4, 1, 0] rfl
              have w11 : x10 = p_on N t rd (k + 1) := by subst e10; simp [p_on, c2, c2', hkn, c3, c6, c9]
              have hl : lv_has ls 5 [(0, .ref (a 0)), (1, .int t), (2, .int rd), (3, .int (p_on N t rd (k + 1))), (4, .int (nI (k + 1)))] := (congrArg (fun zz => lv_has ls 5 [(0, .ref (a 0)), (1, .int t), (2, .int rd), (3, .int zz), (4, .int (nI (k + 1)))]) w11).mp hl
              have hl : lv_has ls 5 [(0, .ref (a 0)), (1, .int t), (2, .int rd), (3, .int (p_on N t rd (k + 1))), (4, .int (nI (k + 1)))] := hl
              exact ih (k + 1) (by omega) (by omega) ls hl
            · have c9 := bI_ne0 c9
              refine lv_iconst (v := 1) hx hb dX5_on_42 (by decide) ?_
              refine lv_goto (tgt := 47) hx hb dX5_on_43 (by decide) ?_
              refine lv_iadd hx hb dX5_on_47 (lv_topi (fun x12 e12 => ?_))
              refine lv_istore_n (lv' := [(3, .int x12), (0, .ref (a 0)), (1, .int t), (2, .int rd), (4, .int (nI k))]) hx hb dX5_on_48 rfl hl (by decide) rfl (fun ls hl => ?_)
              refine lv_iinc (v := nI (k + 1)) (lv' := [(4, .int (nI (k + 1))), (3, .int x12), (0, .ref (a 0)), (1, .int t), (2, .int rd)]) hx hb dX5_on_49 hl (k := 4) rfl (nI_1 _) (by decide) rfl (fun ls hl => ?_)
              refine lv_goto (tgt := 5) hx hb dX5_on_52 (by decide) ?_
              have hl : lv_has ls 5 [(0, .ref (a 0)), (1, .int t), (2, .int rd), (3, .int x12), (4, .int (nI (k + 1)))] := lv_sub hl [2, 3, 4, 1, 0] rfl
              have w13 : x12 = p_on N t rd (k + 1) := by subst e12; simp [p_on, c2, c2', hkn, c3, c6, c9]
              have hl : lv_has ls 5 [(0, .ref (a 0)), (1, .int t), (2, .int rd), (3, .int (p_on N t rd (k + 1))), (4, .int (nI (k + 1)))] := (congrArg (fun zz => lv_has ls 5 [(0, .ref (a 0)), (1, .int t), (2, .int rd), (3, .int zz), (4, .int (nI (k + 1)))]) w13).mp hl
              have hl : lv_has ls 5 [(0, .ref (a 0)), (1, .int t), (2, .int rd), (3, .int (p_on N t rd (k + 1))), (4, .int (nI (k + 1)))] := hl
              exact ih (k + 1) (by omega) (by omega) ls hl
  have hl : lv_has ls 5 [(0, .ref (a 0)), (1, .int t), (2, .int rd), (3, .int 0), (4, .int 0)] := lv_sub hl [2, 3, 4, 1, 0] rfl
  have hl : lv_has ls 5 [(0, .ref (a 0)), (1, .int t), (2, .int rd), (3, .int (p_on N t rd 0)), (4, .int (nI 0))] := hl
  exact L1 (n - 0 + 1) 0 (by omega) (by omega) ls hl

abbrev rmX5_ofHose : Room := { frames := 2, cells := 0, slots := 0, locals := 47 }
set_option maxHeartbeats 4000000 in
set_option maxRecDepth 100000 in
theorem c_X5_ofHose (l : Launch) (D : va_G) (cI cS cL : ClassId) (a : Nat → Nat) (N : NN) (P T U v : Nat → Int32) (sz : Nat) (k w : Nat) (hk : k < 14) (hw9 : w ≤ 9) (hd0 : 0 ≤ N 1 0) : Met l yX5_ofHose (wy_ yX5_ofHose cX5_ofHose 3 (some .int)) rmX5_ofHose (kPc D (kTy cI cS cL) (mdW cI a N P T U v) sz [.ref (a 0), .int (nI k), .int (nI w)]) (kRi (m_hose N k w)) 0 0 noF := by
  refine k_ofW (by decide) (Nat.le_of_ble_eq_true rfl) ?_
  intro p e s m args below meth c hx hb hr hml hts hown hlocks hnm hsz hP hK hD hE ls hl
  subst hsz
  have hl : lv_has ls 3 [(0, .ref (a 0)), (1, .int (nI k)), (2, .int (nI w))] := hl
  refine lv_iload_n hx hb dX5_ofHose_0 rfl (lv_at hl 2 rfl) ?_
  by_cases c1 : w = 5
  · subst c1
    refine lv_tableIn (off := 35) (tgt := 36) hx hb dX5_ofHose_1 (by decide) (by decide) rfl (by decide) ?_
    refine lv_aload_n hx hb dX5_ofHose_36 rfl (lv_at hl 0 rfl) ?_
    refine lv_iload_n hx hb dX5_ofHose_37 rfl (lv_at hl 1 rfl) ?_
    refine lv_aload_n hx hb dX5_ofHose_38 rfl (lv_at hl 0 rfl) ?_
    refine lv_iload_n hx hb dX5_ofHose_39 rfl (lv_at hl 1 rfl) ?_
    refine lv_iconst (v := 4) hx hb dX5_ofHose_40 (by decide) ?_
    refine k_riV (As := [.int (nI k), .int (nI 4)]) (rest := [.int (nI k), .ref (a 0)]) (wc := mdW cI a N P T U v) ⟨hx, hb, hml, hown, hts⟩ (c_X5_of l D cI cS cL a N P T U v _ k 4 7 (by omega) (by decide) rfl) lkX5_37 rfl rfl ⟨(Nat.le_of_ble_eq_true rfl), (Nat.le_of_ble_eq_true rfl)⟩ (va_recv hK hP (ci := 4) (q0 := 0) rfl rfl) hK hE hP hD rfl hl.1 rfl (Nat.le_of_ble_eq_true rfl) dX5_ofHose_41 ⟨Nat.zero_le _, Nat.zero_le _⟩ ?_
    refine k_riV (As := [.int (nI k), .int (N 7 k)]) (rest := []) (wc := mdW cI a N P T U v) ⟨hx, hb, hml, hown, hts⟩ (c_X5_strength l D cI cS cL a N P T U v _ k (N 7 k) (by omega)) lkX5_50 rfl rfl ⟨(Nat.le_of_ble_eq_true rfl), (Nat.le_of_ble_eq_true rfl)⟩ (va_recv hK hP (ci := 4) (q0 := 0) rfl rfl) hK hE hP hD rfl hl.1 rfl (Nat.le_of_ble_eq_true rfl) dX5_ofHose_44 ⟨Nat.zero_le _, Nat.zero_le _⟩ ?_
    exact k_eRi hx hb hr hlocks (by first | rfl | (show _ = (if N 9 k = 4 then N 10 k else -1); simp [])) dX5_ofHose_47
  by_cases c2 : w = 6
  · subst c2
    refine lv_tableIn (off := 47) (tgt := 48) hx hb dX5_ofHose_1 (by decide) (by decide) rfl (by decide) ?_
    refine lv_aload_n hx hb dX5_ofHose_48 rfl (lv_at hl 0 rfl) ?_
    refine lv_iload_n hx hb dX5_ofHose_49 rfl (lv_at hl 1 rfl) ?_
    refine lv_iconst (v := 5) hx hb dX5_ofHose_50 (by decide) ?_
    refine k_riV (As := [.int (nI k), .int (nI 5)]) (rest := []) (wc := mdW cI a N P T U v) ⟨hx, hb, hml, hown, hts⟩ (c_X5_of l D cI cS cL a N P T U v _ k 5 8 (by omega) (by decide) rfl) lkX5_37 rfl rfl ⟨(Nat.le_of_ble_eq_true rfl), (Nat.le_of_ble_eq_true rfl)⟩ (va_recv hK hP (ci := 4) (q0 := 0) rfl rfl) hK hE hP hD rfl hl.1 rfl (Nat.le_of_ble_eq_true rfl) dX5_ofHose_51 ⟨Nat.zero_le _, Nat.zero_le _⟩ ?_
    exact k_eRi hx hb hr hlocks (by first | rfl | (show _ = (if N 9 k = 4 then N 10 k else -1); simp [])) dX5_ofHose_54
  by_cases c3 : w = 7
  · subst c3
    refine lv_tableIn (off := 54) (tgt := 55) hx hb dX5_ofHose_1 (by decide) (by decide) rfl (by decide) ?_
    refine lv_aload_n hx hb dX5_ofHose_55 rfl (lv_at hl 0 rfl) ?_
    refine lv_iload_n hx hb dX5_ofHose_56 rfl (lv_at hl 1 rfl) ?_
    refine lv_bipush (v := 6) hx hb dX5_ofHose_57 (by decide) ?_
    refine k_riV (As := [.int (nI k), .int (nI 6)]) (rest := []) (wc := mdW cI a N P T U v) ⟨hx, hb, hml, hown, hts⟩ (c_X5_of l D cI cS cL a N P T U v _ k 6 9 (by omega) (by decide) rfl) lkX5_37 rfl rfl ⟨(Nat.le_of_ble_eq_true rfl), (Nat.le_of_ble_eq_true rfl)⟩ (va_recv hK hP (ci := 4) (q0 := 0) rfl rfl) hK hE hP hD rfl hl.1 rfl (Nat.le_of_ble_eq_true rfl) dX5_ofHose_59 ⟨Nat.zero_le _, Nat.zero_le _⟩ ?_
    exact k_eRi hx hb hr hlocks (by first | rfl | (show _ = (if N 9 k = 4 then N 10 k else -1); simp [])) dX5_ofHose_62
  by_cases c4 : w = 8
  · subst c4
    refine lv_tableIn (off := 62) (tgt := 63) hx hb dX5_ofHose_1 (by decide) (by decide) rfl (by decide) ?_
    refine lv_aload_n hx hb dX5_ofHose_63 rfl (lv_at hl 0 rfl) ?_
    refine lv_iload_n hx hb dX5_ofHose_64 rfl (lv_at hl 1 rfl) ?_
    refine lv_bipush (v := 6) hx hb dX5_ofHose_65 (by decide) ?_
    refine k_riV (As := [.int (nI k), .int (nI 6)]) (rest := []) (wc := mdW cI a N P T U v) ⟨hx, hb, hml, hown, hts⟩ (c_X5_of l D cI cS cL a N P T U v _ k 6 9 (by omega) (by decide) rfl) lkX5_37 rfl rfl ⟨(Nat.le_of_ble_eq_true rfl), (Nat.le_of_ble_eq_true rfl)⟩ (va_recv hK hP (ci := 4) (q0 := 0) rfl rfl) hK hE hP hD rfl hl.1 rfl (Nat.le_of_ble_eq_true rfl) dX5_ofHose_67 ⟨Nat.zero_le _, Nat.zero_le _⟩ ?_
    refine lv_iconst (v := 4) hx hb dX5_ofHose_70 (by decide) ?_
    refine lv_icmp_ne (tgt := 84) hx hb dX5_ofHose_71 (by decide) (fun c5 => ?_) (fun c5 => ?_)
    · refine lv_iconst (v := (-1)) hx hb dX5_ofHose_84 (by decide) ?_
      exact k_eRi hx hb hr hlocks (by first | rfl | (show _ = (if N 9 k = 4 then N 10 k else -1); simp [c5])) dX5_ofHose_85
    · refine lv_aload_n hx hb dX5_ofHose_74 rfl (lv_at hl 0 rfl) ?_
      refine lv_iload_n hx hb dX5_ofHose_75 rfl (lv_at hl 1 rfl) ?_
      refine lv_bipush (v := 7) hx hb dX5_ofHose_76 (by decide) ?_
      refine k_riV (As := [.int (nI k), .int (nI 7)]) (rest := []) (wc := mdW cI a N P T U v) ⟨hx, hb, hml, hown, hts⟩ (c_X5_of l D cI cS cL a N P T U v _ k 7 10 (by omega) (by decide) rfl) lkX5_37 rfl rfl ⟨(Nat.le_of_ble_eq_true rfl), (Nat.le_of_ble_eq_true rfl)⟩ (va_recv hK hP (ci := 4) (q0 := 0) rfl rfl) hK hE hP hD rfl hl.1 rfl (Nat.le_of_ble_eq_true rfl) dX5_ofHose_78 ⟨Nat.zero_le _, Nat.zero_le _⟩ ?_
      refine lv_goto (tgt := 85) hx hb dX5_ofHose_81 (by decide) ?_
      exact k_eRi hx hb hr hlocks (by first | rfl | (show _ = (if N 9 k = 4 then N 10 k else -1); simp [c5])) dX5_ofHose_85
  by_cases c6 : w = 9
  · subst c6
    refine lv_tableIn (off := 85) (tgt := 86) hx hb dX5_ofHose_1 (by decide) (by decide) rfl (by decide) ?_
    refine lv_aload_n hx hb dX5_ofHose_86 rfl (lv_at hl 0 rfl) ?_
    refine lv_iload_n hx hb dX5_ofHose_87 rfl (lv_at hl 1 rfl) ?_
    refine k_riV (As := [.int (nI k)]) (rest := []) (wc := mdW cI a N P T U v) ⟨hx, hb, hml, hown, hts⟩ (c_X5_reason l D cI cS cL a N P T U v _ k (by omega) hd0) lkX5_44 rfl rfl ⟨(Nat.le_of_ble_eq_true rfl), (Nat.le_of_ble_eq_true rfl)⟩ (va_recv hK hP (ci := 4) (q0 := 0) rfl rfl) hK hE hP hD rfl hl.1 rfl (Nat.le_of_ble_eq_true rfl) dX5_ofHose_88 ⟨Nat.zero_le _, Nat.zero_le _⟩ ?_
    exact k_eRi hx hb hr hlocks (by first | rfl | (show _ = (if N 9 k = 4 then N 10 k else -1); simp [])) dX5_ofHose_91
  by_cases c7 : w = 0
  · subst c7
    refine lv_tableOut (tgt := 92) hx hb dX5_ofHose_1 (Or.inl (by decide)) (by decide) ?_
    refine lv_aload_n hx hb dX5_ofHose_92 rfl (lv_at hl 0 rfl) ?_
    refine lv_iload_n hx hb dX5_ofHose_93 rfl (lv_at hl 1 rfl) ?_
    refine lv_iload_n hx hb dX5_ofHose_94 rfl (lv_at hl 2 rfl) ?_
    refine k_riV (As := [.int (nI k), .int (nI 0)]) (rest := []) (wc := mdW cI a N P T U v) ⟨hx, hb, hml, hown, hts⟩ (c_X5_of l D cI cS cL a N P T U v _ k 0 3 (by omega) (by decide) rfl) lkX5_37 rfl rfl ⟨(Nat.le_of_ble_eq_true rfl), (Nat.le_of_ble_eq_true rfl)⟩ (va_recv hK hP (ci := 4) (q0 := 0) rfl rfl) hK hE hP hD rfl hl.1 rfl (Nat.le_of_ble_eq_true rfl) dX5_ofHose_95 ⟨Nat.zero_le _, Nat.zero_le _⟩ ?_
    exact k_eRi hx hb hr hlocks (by first | rfl | (show _ = (if N 9 k = 4 then N 10 k else -1); simp [])) dX5_ofHose_98
  by_cases c8 : w = 1
  · subst c8
    refine lv_tableOut (tgt := 92) hx hb dX5_ofHose_1 (Or.inl (by decide)) (by decide) ?_
    refine lv_aload_n hx hb dX5_ofHose_92 rfl (lv_at hl 0 rfl) ?_
    refine lv_iload_n hx hb dX5_ofHose_93 rfl (lv_at hl 1 rfl) ?_
    refine lv_iload_n hx hb dX5_ofHose_94 rfl (lv_at hl 2 rfl) ?_
    refine k_riV (As := [.int (nI k), .int (nI 1)]) (rest := []) (wc := mdW cI a N P T U v) ⟨hx, hb, hml, hown, hts⟩ (c_X5_of l D cI cS cL a N P T U v _ k 1 4 (by omega) (by decide) rfl) lkX5_37 rfl rfl ⟨(Nat.le_of_ble_eq_true rfl), (Nat.le_of_ble_eq_true rfl)⟩ (va_recv hK hP (ci := 4) (q0 := 0) rfl rfl) hK hE hP hD rfl hl.1 rfl (Nat.le_of_ble_eq_true rfl) dX5_ofHose_95 ⟨Nat.zero_le _, Nat.zero_le _⟩ ?_
    exact k_eRi hx hb hr hlocks (by first | rfl | (show _ = (if N 9 k = 4 then N 10 k else -1); simp [])) dX5_ofHose_98
  by_cases c9 : w = 2
  · subst c9
    refine lv_tableOut (tgt := 92) hx hb dX5_ofHose_1 (Or.inl (by decide)) (by decide) ?_
    refine lv_aload_n hx hb dX5_ofHose_92 rfl (lv_at hl 0 rfl) ?_
    refine lv_iload_n hx hb dX5_ofHose_93 rfl (lv_at hl 1 rfl) ?_
    refine lv_iload_n hx hb dX5_ofHose_94 rfl (lv_at hl 2 rfl) ?_
    refine k_riV (As := [.int (nI k), .int (nI 2)]) (rest := []) (wc := mdW cI a N P T U v) ⟨hx, hb, hml, hown, hts⟩ (c_X5_of l D cI cS cL a N P T U v _ k 2 5 (by omega) (by decide) rfl) lkX5_37 rfl rfl ⟨(Nat.le_of_ble_eq_true rfl), (Nat.le_of_ble_eq_true rfl)⟩ (va_recv hK hP (ci := 4) (q0 := 0) rfl rfl) hK hE hP hD rfl hl.1 rfl (Nat.le_of_ble_eq_true rfl) dX5_ofHose_95 ⟨Nat.zero_le _, Nat.zero_le _⟩ ?_
    exact k_eRi hx hb hr hlocks (by first | rfl | (show _ = (if N 9 k = 4 then N 10 k else -1); simp [])) dX5_ofHose_98
  by_cases c10 : w = 3
  · subst c10
    refine lv_tableOut (tgt := 92) hx hb dX5_ofHose_1 (Or.inl (by decide)) (by decide) ?_
    refine lv_aload_n hx hb dX5_ofHose_92 rfl (lv_at hl 0 rfl) ?_
    refine lv_iload_n hx hb dX5_ofHose_93 rfl (lv_at hl 1 rfl) ?_
    refine lv_iload_n hx hb dX5_ofHose_94 rfl (lv_at hl 2 rfl) ?_
    refine k_riV (As := [.int (nI k), .int (nI 3)]) (rest := []) (wc := mdW cI a N P T U v) ⟨hx, hb, hml, hown, hts⟩ (c_X5_of l D cI cS cL a N P T U v _ k 3 6 (by omega) (by decide) rfl) lkX5_37 rfl rfl ⟨(Nat.le_of_ble_eq_true rfl), (Nat.le_of_ble_eq_true rfl)⟩ (va_recv hK hP (ci := 4) (q0 := 0) rfl rfl) hK hE hP hD rfl hl.1 rfl (Nat.le_of_ble_eq_true rfl) dX5_ofHose_95 ⟨Nat.zero_le _, Nat.zero_le _⟩ ?_
    exact k_eRi hx hb hr hlocks (by first | rfl | (show _ = (if N 9 k = 4 then N 10 k else -1); simp [])) dX5_ofHose_98
  have c11 : w = 4 := by omega
  subst c11
  refine lv_tableOut (tgt := 92) hx hb dX5_ofHose_1 (Or.inl (by decide)) (by decide) ?_
  refine lv_aload_n hx hb dX5_ofHose_92 rfl (lv_at hl 0 rfl) ?_
  refine lv_iload_n hx hb dX5_ofHose_93 rfl (lv_at hl 1 rfl) ?_
  refine lv_iload_n hx hb dX5_ofHose_94 rfl (lv_at hl 2 rfl) ?_
  refine k_riV (As := [.int (nI k), .int (nI 4)]) (rest := []) (wc := mdW cI a N P T U v) ⟨hx, hb, hml, hown, hts⟩ (c_X5_of l D cI cS cL a N P T U v _ k 4 7 (by omega) (by decide) rfl) lkX5_37 rfl rfl ⟨(Nat.le_of_ble_eq_true rfl), (Nat.le_of_ble_eq_true rfl)⟩ (va_recv hK hP (ci := 4) (q0 := 0) rfl rfl) hK hE hP hD rfl hl.1 rfl (Nat.le_of_ble_eq_true rfl) dX5_ofHose_95 ⟨Nat.zero_le _, Nat.zero_le _⟩ ?_
  exact k_eRi hx hb hr hlocks (by first | rfl | (show _ = (if N 9 k = 4 then N 10 k else -1); simp [])) dX5_ofHose_98

abbrev rmX5_fails : Room := { frames := 0, cells := 0, slots := 0, locals := 0 }
set_option maxHeartbeats 4000000 in
set_option maxRecDepth 100000 in
theorem c_X5_fails (l : Launch) (D : va_G) (cI cS cL : ClassId) (a : Nat → Nat) (N : NN) (P T U v : Nat → Int32) (sz : Nat) (u : Int32) : Met l yX5_fails (wy_ yX5_fails cX5_fails 2 (some .int)) rmX5_fails (kPc D (kTy cI cS cL) (mdW cI a N P T U v) sz [.ref (a 0), .int u]) (kMi D (mdW cI a N P T U v) (mdW cI a N P T U (us v 5 u)) sz (0)) 0 0 (va_A (mdW cI a N P T U v) sz) := by
  refine k_ofW (by decide) (Nat.le_of_ble_eq_true rfl) ?_
  intro p e s m args below meth c hx hb hr hml hts hown hlocks hnm hsz hP hK hD hE ls hl
  subst hsz
  have hA : ∀ q : Nat, s.heap.size ≤ q → (va_A (mdW cI a N P T U v) s.heap.size) q := fun q h => Or.inr h
  have hS : va_S (va_A (mdW cI a N P T U v) s.heap.size) s.heap s.heap [] := va_S.rf
  have hl : lv_has ls 2 [(0, .ref (a 0)), (1, .int u)] := hl
  refine lv_aload_n hx hb dX5_fails_0 rfl (lv_at hl 0 rfl) ?_
  refine lv_iload_n hx hb dX5_fails_1 rfl (lv_at hl 1 rfl) ?_
  refine f5 hx hb hts hown hK hP hD hS 0 rfl 5 (by decide) flX5_22 (fun _ h => h) rfl rfl rfl (Nat.le_of_ble_eq_true rfl) dX5_fails_2 (fun H locs hP hD hS => ?_)
  have hP : va_P D vwCl (mdW cI a N P T U (us v 5 u)) H := hP
  have hD : va_D (va_A (mdW cI a N P T U v) s.heap.size) (mdW cI a N P T U (us v 5 u)) := hD
  refine lv_iconst (v := 0) hx hb dX5_fails_5 (by decide) ?_
  have hP : va_P D vwCl (mdW cI a N P T U (us v 5 u)) H := hP
  have hD : va_D (va_A (mdW cI a N P T U v) s.heap.size) (mdW cI a N P T U (us v 5 u)) := hD
  exact k_eMi hx hb hr hlocks hP hS rfl dX5_fails_6

abbrev rmX5_tries : Room := { frames := 2, cells := 0, slots := 0, locals := 47 }
set_option maxHeartbeats 4000000 in
set_option maxRecDepth 100000 in
theorem c_X5_tries (l : Launch) (D : va_G) (cI cS cL : ClassId) (a : Nat → Nat) (N : NN) (P T U v : Nat → Int32) (sz : Nat) (k P0 : Nat) (hk : k < 14) (hP0 : P0 ≤ 24) (hP4 : 0 < P0) (hw0 : 0 ≤ N 7 k) (hw1 : N 7 k ≤ 99) : Met l yX5_tries (wy_ yX5_tries cX5_tries 5 (some .int)) rmX5_tries (kPc D (kTy cI cS cL) (mdW cI a N P T U v) sz [.ref (a 0), .int (nI k), .int (nI P0)]) (kMi D (mdW cI a N P T U v) (mdW cI a N P T U (us v 10 (p_worn (N 7 k) (p_held N k P0)))) sz (p_out N k P0)) 0 0 (va_A (mdW cI a N P T U v) sz) := by
  refine k_ofW (by decide) (Nat.le_of_ble_eq_true rfl) ?_
  intro p e s m args below meth c hx hb hr hml hts hown hlocks hnm hsz hP hK hD hE ls hl
  subst hsz
  have hA : ∀ q : Nat, s.heap.size ≤ q → (va_A (mdW cI a N P T U v) s.heap.size) q := fun q h => Or.inr h
  have hS : va_S (va_A (mdW cI a N P T U v) s.heap.size) s.heap s.heap [] := va_S.rf
  have hl : lv_has ls 5 [(0, .ref (a 0)), (1, .int (nI k)), (2, .int (nI P0))] := hl
  have hS6 := p_S_le hP0
  refine lv_aload_n hx hb dX5_tries_0 rfl (lv_at hl 0 rfl) ?_
  refine lv_aload_n hx hb dX5_tries_1 rfl (lv_at hl 0 rfl) ?_
  refine lv_iload_n hx hb dX5_tries_2 rfl (lv_at hl 1 rfl) ?_
  refine lv_iconst (v := 4) hx hb dX5_tries_3 (by decide) ?_
  refine k_riV (As := [.int (nI k), .int (nI 4)]) (rest := [.ref (a 0)]) (wc := mdW cI a N P T U v) ⟨hx, hb, hml, hown, hts⟩ (c_X5_of l D cI cS cL a N P T U v _ k 4 7 (by omega) (by decide) rfl) lkX5_37 rfl rfl ⟨(Nat.le_of_ble_eq_true rfl), (Nat.le_of_ble_eq_true rfl)⟩ (va_recv hK hP (ci := 4) (q0 := 0) rfl rfl) hK hE hP hD rfl hl.1 rfl (Nat.le_of_ble_eq_true rfl) dX5_tries_4 ⟨Nat.zero_le _, Nat.zero_le _⟩ ?_
  refine f5 hx hb hts hown hK hP hD hS 0 rfl 10 (by decide) flX5_47 (fun _ h => h) rfl rfl rfl (Nat.le_of_ble_eq_true rfl) dX5_tries_7 (fun H locs hP hD hS => ?_)
  have hP : va_P D vwCl (mdW cI a N P T U (us v 10 (N 7 k))) H := hP
  have hD : va_D (va_A (mdW cI a N P T U v) s.heap.size) (mdW cI a N P T U (us v 10 (N 7 k))) := hD
  refine lv_iconst (v := 0) hx hb dX5_tries_10 (by decide) ?_
  refine lv_istore_n (lv' := [(3, .int 0), (0, .ref (a 0)), (1, .int (nI k)), (2, .int (nI P0))]) hx hb dX5_tries_11 rfl hl (by decide) rfl (fun ls hl => ?_)
  refine lv_iconst (v := 0) hx hb dX5_tries_12 (by decide) ?_
  refine lv_istore (lv' := [(4, .int 0), (3, .int 0), (0, .ref (a 0)), (1, .int (nI k)), (2, .int (nI P0))]) hx hb dX5_tries_13 hl (by decide) rfl (fun ls hl => ?_)
  have L1 : ∀ (f j : Nat), j ≤ p_S P0 → p_S P0 - j < f → (hj : p_go N k P0 (p_S P0 - j) j = p_held N k P0) → ∀ (H : Heap) (locs : List Loc), va_P D vwCl (mdW cI a N P T U (us v 10 (p_worn (N 7 k) j))) H → va_D (va_A (mdW cI a N P T U v) s.heap.size) (mdW cI a N P T U (us v 10 (p_worn (N 7 k) j))) → va_S (va_A (mdW cI a N P T U v) s.heap.size) s.heap H locs → s.heap.size ≤ H.size → ∀ ls : Array Slot, lv_has ls 5 [(0, .ref (a 0)), (1, .int (nI k)), (2, .int (nI P0)), (3, .int (nI j)), (4, .int (nI (m_st P0 j)))] → W p l e rmX5_tries s m args below meth c H locs 0 0 (MQ below (kMi D (mdW cI a N P T U v) (mdW cI a N P T U (us v 10 (p_worn (N 7 k) (p_held N k P0)))) s.heap.size (p_out N k P0)) args s 0 0 (va_A (mdW cI a N P T U v) s.heap.size)) (F0 m 15 ls []) := by
    intro f
    induction f with
    | zero => intro j hv1 hv2; exact absurd hv2 (Nat.not_lt_zero _)
    | succ f ih =>
      intro j hv1 hv2 hj H locs hP hD hS hz ls hl
      refine lv_iload hx hb dX5_tries_15 (lv_at hl 4 rfl) ?_
      refine lv_iload_n hx hb dX5_tries_17 rfl (lv_at hl 2 rfl) ?_
      refine lv_icmp_ge (tgt := 88) hx hb dX5_tries_18 (by decide) (fun c2 => ?_) (fun c2 => ?_)
      · have c2' := Int32.not_lt.mpr c2
        have hjn : j = p_S P0 := m_st_end hP4 (by omega) c2 hP0
        have hje : p_held N k P0 = j := by rw [← hj, p_go_end hjn, hjn]
        refine lv_iload_n hx hb dX5_tries_88 rfl (lv_at hl 3 rfl) ?_
        have w3 : (us v 10 (p_worn (N 7 k) j)) = (us v 10 (p_worn (N 7 k) (p_held N k P0))) := by rw [hje]
        have hP : va_P D vwCl (mdW cI a N P T U (us v 10 (p_worn (N 7 k) (p_held N k P0)))) H := (congrArg (fun zz => va_P D vwCl (mdW cI a N P T U zz) H) w3).mp hP
        have hD : va_D (va_A (mdW cI a N P T U v) s.heap.size) (mdW cI a N P T U (us v 10 (p_worn (N 7 k) (p_held N k P0)))) := (congrArg (fun zz => va_D (va_A (mdW cI a N P T U v) s.heap.size) (mdW cI a N P T U zz)) w3).mp hD
        have hP : va_P D vwCl (mdW cI a N P T U (us v 10 (p_worn (N 7 k) (p_held N k P0)))) H := hP
        have hD : va_D (va_A (mdW cI a N P T U v) s.heap.size) (mdW cI a N P T U (us v 10 (p_worn (N 7 k) (p_held N k P0)))) := hD
        exact k_eMi hx hb hr hlocks hP hS (by exact p_out_full hP0 hj hjn) dX5_tries_89
      · have c2' := Int32.not_le.mp c2
        have hjn : j < p_S P0 := m_st_more hP0 hv1 c2
        have hst := (m_st_lt hjn).1
        have hst4 := (m_st_lt hjn).2
        refine lv_iload hx hb dX5_tries_21 (lv_at hl 4 rfl) ?_
        refine lv_iconst (v := 4) hx hb dX5_tries_23 (by decide) ?_
        refine lv_iadd hx hb dX5_tries_24 (lv_topi (fun x4 e4 => ?_))
        have q4 : x4 = nI (4 * (j + 1)) := by rw [e4]; rw [hst]; exact nI_add (4 * j) 4
        subst q4
        refine lv_iload_n hx hb dX5_tries_25 rfl (lv_at hl 2 rfl) ?_
        refine lv_icmp_le (tgt := 33) hx hb dX5_tries_26 (by decide) (fun c5 => ?_) (fun c5 => ?_)
        · have c5' := Int32.not_lt.mpr c5
          have hle := c5
          refine lv_iload hx hb dX5_tries_33 (lv_at hl 4 rfl) ?_
          refine lv_iconst (v := 4) hx hb dX5_tries_35 (by decide) ?_
          refine lv_iadd hx hb dX5_tries_36 (lv_topi (fun x6 e6 => ?_))
          have q6 : x6 = nI (p_sp P0 j) := by rw [e6]; rw [hst]; exact (nI_add (4 * j) 4).trans (congrArg nI (p_spB hle hP0 (by omega)).symm)
          subst q6
          refine lv_istore (lv' := [(4, .int (nI (p_sp P0 j))), (0, .ref (a 0)), (1, .int (nI k)), (2, .int (nI P0)), (3, .int (nI j))]) hx hb dX5_tries_37 hl (by decide) rfl (fun ls hl => ?_)
          refine lv_aload_n hx hb dX5_tries_39 rfl (lv_at hl 1 rfl) ?_
          refine lv_iload_n hx hb dX5_tries_40 rfl (lv_at hl 2 rfl) ?_
          refine lv_aload_n hx hb dX5_tries_41 rfl (lv_at hl 1 rfl) ?_
          refine g5 hx hb hts hown hK hP 0 rfl 10 (by decide) flX5_47 (fun _ h => h) (v := .int (p_worn (N 7 k) j)) rfl dX5_tries_42 ?_
          refine k_riV (As := [.int (nI k), .int (p_worn (N 7 k) j)]) (rest := []) (wc := mdW cI a N P T U (us v 10 (p_worn (N 7 k) j))) ⟨hx, hb, hml, hown, hts⟩ (c_X5_strength l D cI cS cL a N P T U (us v 10 (p_worn (N 7 k) j)) _ k (p_worn (N 7 k) j) (by omega)) lkX5_50 rfl rfl ⟨(Nat.le_of_ble_eq_true rfl), (Nat.le_of_ble_eq_true rfl)⟩ (va_recv hK hP (ci := 4) (q0 := 0) rfl rfl) hK hE hP hD rfl hl.1 rfl (Nat.le_of_ble_eq_true rfl) dX5_tries_45 ⟨Nat.zero_le _, Nat.zero_le _⟩ ?_
          refine lv_iload hx hb dX5_tries_48 (lv_at hl 0 rfl) ?_
          refine lv_icmp_ge (tgt := 58) hx hb dX5_tries_50 (by decide) (fun c7 => ?_) (fun c7 => ?_)
          · have c7' := Int32.not_lt.mpr c7
            have hge := Int32.not_lt.mpr c7
            refine lv_iinc (v := nI (j + 1)) (lv' := [(3, .int (nI (j + 1))), (4, .int (nI (p_sp P0 j))), (0, .ref (a 0)), (1, .int (nI k)), (2, .int (nI P0))]) hx hb dX5_tries_58 hl (k := 4) rfl (nI_1 _) (by decide) rfl (fun ls hl => ?_)
            refine lv_aload_n hx hb dX5_tries_61 rfl (lv_at hl 2 rfl) ?_
            refine lv_aload_n hx hb dX5_tries_62 rfl (lv_at hl 2 rfl) ?_
            refine g5 hx hb hts hown hK hP 0 rfl 10 (by decide) flX5_47 (fun _ h => h) (v := .int (p_worn (N 7 k) j)) rfl dX5_tries_63 ?_
            refine lv_bipush (v := 99) hx hb dX5_tries_66 (by decide) ?_
            refine lv_icmp_ge (tgt := 80) hx hb dX5_tries_68 (by decide) (fun c8 => ?_) (fun c8 => ?_)
            · have c8' := Int32.not_lt.mpr c8
              have hwg := Int32.not_lt.mpr c8
              refine lv_bipush (v := 99) hx hb dX5_tries_80 (by decide) ?_
              refine f5 hx hb hts hown hK hP hD hS 0 rfl 10 (by decide) flX5_47 (fun _ h => h) rfl rfl rfl (Nat.le_of_ble_eq_true rfl) dX5_tries_82 (fun H locs hP hD hS => ?_)
              have hP : va_P D vwCl (mdW cI a N P T U (us v 10 99)) H := hP
              have hD : va_D (va_A (mdW cI a N P T U v) s.heap.size) (mdW cI a N P T U (us v 10 99)) := hD
              refine lv_goto (tgt := 15) hx hb dX5_tries_85 (by decide) ?_
              have hl : lv_has ls 5 [(0, .ref (a 0)), (1, .int (nI k)), (2, .int (nI P0)), (3, .int (nI (j + 1))), (4, .int (nI (p_sp P0 j)))] := lv_sub hl [2, 3, 4, 0, 1] rfl
              have hl : lv_has ls 5 [(0, .ref (a 0)), (1, .int (nI k)), (2, .int (nI P0)), (3, .int (nI (j + 1))), (4, .int (nI (m_st P0 (j + 1))))] := hl
              have w10 : (us v 10 99) = (us v 10 (p_worn (N 7 k) (j + 1))) := by rw [p_worn_ge hw0 hw1 hwg]
              have hP : va_P D vwCl (mdW cI a N P T U (us v 10 (p_worn (N 7 k) (j + 1)))) H := (congrArg (fun zz => va_P D vwCl (mdW cI a N P T U zz) H) w10).mp hP
              have hD : va_D (va_A (mdW cI a N P T U v) s.heap.size) (mdW cI a N P T U (us v 10 (p_worn (N 7 k) (j + 1)))) := (congrArg (fun zz => va_D (va_A (mdW cI a N P T U v) s.heap.size) (mdW cI a N P T U zz)) w10).mp hD
              have hP : va_P D vwCl (mdW cI a N P T U (us v 10 (p_worn (N 7 k) (j + 1)))) H := hP
              have hD : va_D (va_A (mdW cI a N P T U v) s.heap.size) (mdW cI a N P T U (us v 10 (p_worn (N 7 k) (j + 1)))) := hD
              exact ih (j + 1) (by omega) (by omega) ((p_go_step hjn hge).symm.trans hj) H locs hP hD hS hS.1 ls hl
            · have c8' := Int32.not_le.mp c8
              have hwl := Int32.not_le.mp c8
              refine lv_aload_n hx hb dX5_tries_71 rfl (lv_at hl 2 rfl) ?_
              refine g5 hx hb hts hown hK hP 0 rfl 10 (by decide) flX5_47 (fun _ h => h) (v := .int (p_worn (N 7 k) j)) rfl dX5_tries_72 ?_
              refine lv_iconst (v := 1) hx hb dX5_tries_75 (by decide) ?_
              refine lv_iadd hx hb dX5_tries_76 (lv_topi (fun x11 e11 => ?_))
              refine lv_goto (tgt := 82) hx hb dX5_tries_77 (by decide) ?_
              refine f5 hx hb hts hown hK hP hD hS 0 rfl 10 (by decide) flX5_47 (fun _ h => h) rfl rfl rfl (Nat.le_of_ble_eq_true rfl) dX5_tries_82 (fun H locs hP hD hS => ?_)
              have hP : va_P D vwCl (mdW cI a N P T U (us v 10 x11)) H := hP
              have hD : va_D (va_A (mdW cI a N P T U v) s.heap.size) (mdW cI a N P T U (us v 10 x11)) := hD
              refine lv_goto (tgt := 15) hx hb dX5_tries_85 (by decide) ?_
              have hl : lv_has ls 5 [(0, .ref (a 0)), (1, .int (nI k)), (2, .int (nI P0)), (3, .int (nI (j + 1))), (4, .int (nI (p_sp P0 j)))] := lv_sub hl [2, 3, 4, 0, 1] rfl
              have hl : lv_has ls 5 [(0, .ref (a 0)), (1, .int (nI k)), (2, .int (nI P0)), (3, .int (nI (j + 1))), (4, .int (nI (m_st P0 (j + 1))))] := hl
              have w13 : (us v 10 x11) = (us v 10 (p_worn (N 7 k) (j + 1))) := by subst e11; rw [p_worn_lt hw0 hw1 hwl]
              have hP : va_P D vwCl (mdW cI a N P T U (us v 10 (p_worn (N 7 k) (j + 1)))) H := (congrArg (fun zz => va_P D vwCl (mdW cI a N P T U zz) H) w13).mp hP
              have hD : va_D (va_A (mdW cI a N P T U v) s.heap.size) (mdW cI a N P T U (us v 10 (p_worn (N 7 k) (j + 1)))) := (congrArg (fun zz => va_D (va_A (mdW cI a N P T U v) s.heap.size) (mdW cI a N P T U zz)) w13).mp hD
              have hP : va_P D vwCl (mdW cI a N P T U (us v 10 (p_worn (N 7 k) (j + 1)))) H := hP
              have hD : va_D (va_A (mdW cI a N P T U v) s.heap.size) (mdW cI a N P T U (us v 10 (p_worn (N 7 k) (j + 1)))) := hD
              exact ih (j + 1) (by omega) (by omega) ((p_go_step hjn hge).symm.trans hj) H locs hP hD hS hS.1 ls hl
          · have c7' := Int32.not_le.mp c7
            have hlt := Int32.not_le.mp c7
            have hje : p_held N k P0 = j := hj.symm.trans (p_go_stop hjn hlt)
            refine lv_iload_n hx hb dX5_tries_53 rfl (lv_at hl 4 rfl) ?_
            refine lv_bipush (v := 100) hx hb dX5_tries_54 (by decide) ?_
            refine lv_iadd hx hb dX5_tries_56 (lv_topi (fun x14 e14 => ?_))
            have q14 : x14 = nI (j + 100) := by rw [e14]; exact nI_add j 100
            subst q14
            have w15 : (us v 10 (p_worn (N 7 k) j)) = (us v 10 (p_worn (N 7 k) (p_held N k P0))) := by rw [hje]
            have hP : va_P D vwCl (mdW cI a N P T U (us v 10 (p_worn (N 7 k) (p_held N k P0)))) H := (congrArg (fun zz => va_P D vwCl (mdW cI a N P T U zz) H) w15).mp hP
            have hD : va_D (va_A (mdW cI a N P T U v) s.heap.size) (mdW cI a N P T U (us v 10 (p_worn (N 7 k) (p_held N k P0)))) := (congrArg (fun zz => va_D (va_A (mdW cI a N P T U v) s.heap.size) (mdW cI a N P T U zz)) w15).mp hD
            have hP : va_P D vwCl (mdW cI a N P T U (us v 10 (p_worn (N 7 k) (p_held N k P0)))) H := hP
            have hD : va_D (va_A (mdW cI a N P T U v) s.heap.size) (mdW cI a N P T U (us v 10 (p_worn (N 7 k) (p_held N k P0)))) := hD
            exact k_eMi hx hb hr hlocks hP hS (by exact p_out_stop hP0 hj hjn hlt) dX5_tries_57
        · have c5' := Int32.not_le.mp c5
          have hgt := Int32.not_le.mp c5
          refine lv_iload_n hx hb dX5_tries_29 rfl (lv_at hl 2 rfl) ?_
          refine lv_goto (tgt := 37) hx hb dX5_tries_30 (by decide) ?_
          rw [show nI P0 = nI (p_sp P0 j) from congrArg nI (p_spA hgt hP0 (by omega))]
          refine lv_istore (lv' := [(4, .int (nI (p_sp P0 j))), (0, .ref (a 0)), (1, .int (nI k)), (2, .int (nI P0)), (3, .int (nI j))]) hx hb dX5_tries_37 hl (by decide) rfl (fun ls hl => ?_)
          refine lv_aload_n hx hb dX5_tries_39 rfl (lv_at hl 1 rfl) ?_
          refine lv_iload_n hx hb dX5_tries_40 rfl (lv_at hl 2 rfl) ?_
          refine lv_aload_n hx hb dX5_tries_41 rfl (lv_at hl 1 rfl) ?_
          refine g5 hx hb hts hown hK hP 0 rfl 10 (by decide) flX5_47 (fun _ h => h) (v := .int (p_worn (N 7 k) j)) rfl dX5_tries_42 ?_
          refine k_riV (As := [.int (nI k), .int (p_worn (N 7 k) j)]) (rest := []) (wc := mdW cI a N P T U (us v 10 (p_worn (N 7 k) j))) ⟨hx, hb, hml, hown, hts⟩ (c_X5_strength l D cI cS cL a N P T U (us v 10 (p_worn (N 7 k) j)) _ k (p_worn (N 7 k) j) (by omega)) lkX5_50 rfl rfl ⟨(Nat.le_of_ble_eq_true rfl), (Nat.le_of_ble_eq_true rfl)⟩ (va_recv hK hP (ci := 4) (q0 := 0) rfl rfl) hK hE hP hD rfl hl.1 rfl (Nat.le_of_ble_eq_true rfl) dX5_tries_45 ⟨Nat.zero_le _, Nat.zero_le _⟩ ?_
          refine lv_iload hx hb dX5_tries_48 (lv_at hl 0 rfl) ?_
          refine lv_icmp_ge (tgt := 58) hx hb dX5_tries_50 (by decide) (fun c16 => ?_) (fun c16 => ?_)
          · have c16' := Int32.not_lt.mpr c16
            have hge := Int32.not_lt.mpr c16
            refine lv_iinc (v := nI (j + 1)) (lv' := [(3, .int (nI (j + 1))), (4, .int (nI (p_sp P0 j))), (0, .ref (a 0)), (1, .int (nI k)), (2, .int (nI P0))]) hx hb dX5_tries_58 hl (k := 4) rfl (nI_1 _) (by decide) rfl (fun ls hl => ?_)
            refine lv_aload_n hx hb dX5_tries_61 rfl (lv_at hl 2 rfl) ?_
            refine lv_aload_n hx hb dX5_tries_62 rfl (lv_at hl 2 rfl) ?_
            refine g5 hx hb hts hown hK hP 0 rfl 10 (by decide) flX5_47 (fun _ h => h) (v := .int (p_worn (N 7 k) j)) rfl dX5_tries_63 ?_
            refine lv_bipush (v := 99) hx hb dX5_tries_66 (by decide) ?_
            refine lv_icmp_ge (tgt := 80) hx hb dX5_tries_68 (by decide) (fun c17 => ?_) (fun c17 => ?_)
            · have c17' := Int32.not_lt.mpr c17
              have hwg := Int32.not_lt.mpr c17
              refine lv_bipush (v := 99) hx hb dX5_tries_80 (by decide) ?_
              refine f5 hx hb hts hown hK hP hD hS 0 rfl 10 (by decide) flX5_47 (fun _ h => h) rfl rfl rfl (Nat.le_of_ble_eq_true rfl) dX5_tries_82 (fun H locs hP hD hS => ?_)
              have hP : va_P D vwCl (mdW cI a N P T U (us v 10 99)) H := hP
              have hD : va_D (va_A (mdW cI a N P T U v) s.heap.size) (mdW cI a N P T U (us v 10 99)) := hD
              refine lv_goto (tgt := 15) hx hb dX5_tries_85 (by decide) ?_
              have hl : lv_has ls 5 [(0, .ref (a 0)), (1, .int (nI k)), (2, .int (nI P0)), (3, .int (nI (j + 1))), (4, .int (nI (p_sp P0 j)))] := lv_sub hl [2, 3, 4, 0, 1] rfl
              have hl : lv_has ls 5 [(0, .ref (a 0)), (1, .int (nI k)), (2, .int (nI P0)), (3, .int (nI (j + 1))), (4, .int (nI (m_st P0 (j + 1))))] := hl
              have w19 : (us v 10 99) = (us v 10 (p_worn (N 7 k) (j + 1))) := by rw [p_worn_ge hw0 hw1 hwg]
              have hP : va_P D vwCl (mdW cI a N P T U (us v 10 (p_worn (N 7 k) (j + 1)))) H := (congrArg (fun zz => va_P D vwCl (mdW cI a N P T U zz) H) w19).mp hP
              have hD : va_D (va_A (mdW cI a N P T U v) s.heap.size) (mdW cI a N P T U (us v 10 (p_worn (N 7 k) (j + 1)))) := (congrArg (fun zz => va_D (va_A (mdW cI a N P T U v) s.heap.size) (mdW cI a N P T U zz)) w19).mp hD
              have hP : va_P D vwCl (mdW cI a N P T U (us v 10 (p_worn (N 7 k) (j + 1)))) H := hP
              have hD : va_D (va_A (mdW cI a N P T U v) s.heap.size) (mdW cI a N P T U (us v 10 (p_worn (N 7 k) (j + 1)))) := hD
              exact ih (j + 1) (by omega) (by omega) ((p_go_step hjn hge).symm.trans hj) H locs hP hD hS hS.1 ls hl
            · have c17' := Int32.not_le.mp c17
              have hwl := Int32.not_le.mp c17
              refine lv_aload_n hx hb dX5_tries_71 rfl (lv_at hl 2 rfl) ?_
              refine g5 hx hb hts hown hK hP 0 rfl 10 (by decide) flX5_47 (fun _ h => h) (v := .int (p_worn (N 7 k) j)) rfl dX5_tries_72 ?_
              refine lv_iconst (v := 1) hx hb dX5_tries_75 (by decide) ?_
              refine lv_iadd hx hb dX5_tries_76 (lv_topi (fun x20 e20 => ?_))
              refine lv_goto (tgt := 82) hx hb dX5_tries_77 (by decide) ?_
              refine f5 hx hb hts hown hK hP hD hS 0 rfl 10 (by decide) flX5_47 (fun _ h => h) rfl rfl rfl (Nat.le_of_ble_eq_true rfl) dX5_tries_82 (fun H locs hP hD hS => ?_)
              have hP : va_P D vwCl (mdW cI a N P T U (us v 10 x20)) H := hP
              have hD : va_D (va_A (mdW cI a N P T U v) s.heap.size) (mdW cI a N P T U (us v 10 x20)) := hD
              refine lv_goto (tgt := 15) hx hb dX5_tries_85 (by decide) ?_
              have hl : lv_has ls 5 [(0, .ref (a 0)), (1, .int (nI k)), (2, .int (nI P0)), (3, .int (nI (j + 1))), (4, .int (nI (p_sp P0 j)))] := lv_sub hl [2, 3, 4, 0, 1] rfl
              have hl : lv_has ls 5 [(0, .ref (a 0)), (1, .int (nI k)), (2, .int (nI P0)), (3, .int (nI (j + 1))), (4, .int (nI (m_st P0 (j + 1))))] := hl
              have w22 : (us v 10 x20) = (us v 10 (p_worn (N 7 k) (j + 1))) := by subst e20; rw [p_worn_lt hw0 hw1 hwl]
              have hP : va_P D vwCl (mdW cI a N P T U (us v 10 (p_worn (N 7 k) (j + 1)))) H := (congrArg (fun zz => va_P D vwCl (mdW cI a N P T U zz) H) w22).mp hP
              have hD : va_D (va_A (mdW cI a N P T U v) s.heap.size) (mdW cI a N P T U (us v 10 (p_worn (N 7 k) (j + 1)))) := (congrArg (fun zz => va_D (va_A (mdW cI a N P T U v) s.heap.size) (mdW cI a N P T U zz)) w22).mp hD
              have hP : va_P D vwCl (mdW cI a N P T U (us v 10 (p_worn (N 7 k) (j + 1)))) H := hP
              have hD : va_D (va_A (mdW cI a N P T U v) s.heap.size) (mdW cI a N P T U (us v 10 (p_worn (N 7 k) (j + 1)))) := hD
              exact ih (j + 1) (by omega) (by omega) ((p_go_step hjn hge).symm.trans hj) H locs hP hD hS hS.1 ls hl
          · have c16' := Int32.not_le.mp c16
            have hlt := Int32.not_le.mp c16
            have hje : p_held N k P0 = j := hj.symm.trans (p_go_stop hjn hlt)
            refine lv_iload_n hx hb dX5_tries_53 rfl (lv_at hl 4 rfl) ?_
            refine lv_bipush (v := 100) hx hb dX5_tries_54 (by decide) ?_
            refine lv_iadd hx hb dX5_tries_56 (lv_topi (fun x23 e23 => ?_))
            have q23 : x23 = nI (j + 100) := by rw [e23]; exact nI_add j 100
            subst q23
            have w24 : (us v 10 (p_worn (N 7 k) j)) = (us v 10 (p_worn (N 7 k) (p_held N k P0))) := by rw [hje]
            have hP : va_P D vwCl (mdW cI a N P T U (us v 10 (p_worn (N 7 k) (p_held N k P0)))) H := (congrArg (fun zz => va_P D vwCl (mdW cI a N P T U zz) H) w24).mp hP
            have hD : va_D (va_A (mdW cI a N P T U v) s.heap.size) (mdW cI a N P T U (us v 10 (p_worn (N 7 k) (p_held N k P0)))) := (congrArg (fun zz => va_D (va_A (mdW cI a N P T U v) s.heap.size) (mdW cI a N P T U zz)) w24).mp hD
            have hP : va_P D vwCl (mdW cI a N P T U (us v 10 (p_worn (N 7 k) (p_held N k P0)))) H := hP
            have hD : va_D (va_A (mdW cI a N P T U v) s.heap.size) (mdW cI a N P T U (us v 10 (p_worn (N 7 k) (p_held N k P0)))) := hD
            exact k_eMi hx hb hr hlocks hP hS (by exact p_out_stop hP0 hj hjn hlt) dX5_tries_57
  have hl : lv_has ls 5 [(0, .ref (a 0)), (1, .int (nI k)), (2, .int (nI P0)), (3, .int 0), (4, .int 0)] := lv_sub hl [2, 3, 4, 1, 0] rfl
  have hl : lv_has ls 5 [(0, .ref (a 0)), (1, .int (nI k)), (2, .int (nI P0)), (3, .int (nI 0)), (4, .int (nI (m_st P0 0)))] := hl
  have hP : va_P D vwCl (mdW cI a N P T U (us v 10 (p_worn (N 7 k) 0))) H := hP
  have hD : va_D (va_A (mdW cI a N P T U v) s.heap.size) (mdW cI a N P T U (us v 10 (p_worn (N 7 k) 0))) := hD
  exact L1 ((p_S P0) - 0 + 1) 0 (by omega) (by omega) rfl H locs hP hD hS hS.1 ls hl
