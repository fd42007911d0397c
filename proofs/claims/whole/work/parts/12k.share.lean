abbrev rmX5_share : Room := { frames := 3, cells := 0, slots := 0, locals := 67 }
set_option maxHeartbeats 4000000 in
set_option maxRecDepth 100000 in
theorem c_X5_share (l : Launch) (D : va_G) (cI cS cL : ClassId) (a : Nat → Nat) (N : NN) (P T U v : Nat → Int32) (sz : Nat) (n : Nat) (hn : N 1 2 = nI n) (hn14 : n ≤ 14) (hd0 : 0 ≤ N 1 0) : Met l yX5_share (wy_ yX5_share cX5_share 2 (some .double)) rmX5_share (kPc D (kTy cI cS cL) (mdW cI a N P T U v) sz [.ref (a 0)]) (kRd (p_share N n)) 0 0 noF := by
  refine k_ofW (by decide) (Nat.le_of_ble_eq_true rfl) ?_
  intro p e s m args below meth c hx hb hr hml hts hown hlocks hnm hsz hP hK hD hE ls hl
  subst hsz
  have hl : lv_has ls 2 [(0, .ref (a 0))] := hl
  refine lv_aload_n hx hb dX5_share_0 rfl (lv_at hl 0 rfl) ?_
  refine g5 hx hb hts hown hK hP 0 rfl 0 (by decide) flX5_7 (fun _ h => h) (v := .ref (a 1)) rfl dX5_share_1 ?_
  refine lv_iconst (v := 5) hx hb dX5_share_4 (by decide) ?_
  refine k_ald (k := 5) hx hb hK hP 1 0 rfl rfl rfl (by decide) (by decide) dX5_share_5 ?_
  rw [show flat N (5) = N 1 2 from rfl]
  rw [show N 1 2 = nI n from hn]
  refine lv_aload_n hx hb dX5_share_6 rfl (lv_at hl 0 rfl) ?_
  refine lv_iconst (v := 1) hx hb dX5_share_7 (by decide) ?_
  refine k_riV (As := [.int 1]) (rest := [.int (nI n)]) (wc := mdW cI a N P T U v) ⟨hx, hb, hml, hown, hts⟩ (c_X5_having l D cI cS cL a N P T U v _ n 1 hn hn14 hd0) lkX5_147 rfl rfl ⟨(Nat.le_of_ble_eq_true rfl), (Nat.le_of_ble_eq_true rfl)⟩ (va_recv hK hP (ci := 4) (q0 := 0) rfl rfl) hK hE hP hD rfl hl.1 rfl (Nat.le_of_ble_eq_true rfl) dX5_share_8 ⟨Nat.zero_le _, Nat.zero_le _⟩ ?_
  refine lv_isub hx hb dX5_share_11 (lv_topi (fun x1 e1 => ?_))
  have q1 : x1 = nI n - p_at N (-1) n := by rw [e1]; rw [p_hv_at1]
  subst q1
  refine lv_istore_n (lv' := [(1, .int (nI n - p_at N (-1) n)), (0, .ref (a 0))]) hx hb dX5_share_12 rfl hl (by decide) rfl (fun ls hl => ?_)
  refine lv_iload_n hx hb dX5_share_13 rfl (lv_at hl 0 rfl) ?_
  refine lv_if_ne (tgt := 21) hx hb dX5_share_14 (by decide) (fun c2 => ?_) (fun c2 => ?_)
  · have hne := c2
    refine lv_aload_n hx hb dX5_share_21 rfl (lv_at hl 1 rfl) ?_
    refine lv_iconst (v := 0) hx hb dX5_share_22 (by decide) ?_
    refine k_riV (As := [.int 0]) (rest := []) (wc := mdW cI a N P T U v) ⟨hx, hb, hml, hown, hts⟩ (c_X5_having l D cI cS cL a N P T U v _ n 0 hn hn14 hd0) lkX5_147 rfl rfl ⟨(Nat.le_of_ble_eq_true rfl), (Nat.le_of_ble_eq_true rfl)⟩ (va_recv hK hP (ci := 4) (q0 := 0) rfl rfl) hK hE hP hD rfl hl.1 rfl (Nat.le_of_ble_eq_true rfl) dX5_share_23 ⟨Nat.zero_le _, Nat.zero_le _⟩ ?_
    rw [show p_hv N 0 n = p_rh N n from p_hv_rh N n]
    refine lv_i2d hx hb dX5_share_26 ?_
    refine lv_iload_n hx hb dX5_share_27 rfl (lv_at hl 0 rfl) ?_
    refine lv_i2d hx hb dX5_share_28 ?_
    refine lv_ddiv hx hb dX5_share_29 (sh_fin hn14 hne) ?_
    exact k_eRd hx hb hr hlocks (by exact (if_neg hne).symm) dX5_share_30
  · have heq := c2
    refine lv_dconst1 hx hb dX5_share_17 ?_
    refine lv_goto (tgt := 30) hx hb dX5_share_18 (by decide) ?_
    exact k_eRd hx hb hr hlocks (by exact (if_pos heq).symm) dX5_share_30

abbrev rmX5_readyShare : Room := { frames := 4, cells := 0, slots := 0, locals := 88 }
set_option maxHeartbeats 4000000 in
set_option maxRecDepth 100000 in
theorem c_X5_readyShare (l : Launch) (D : va_G) (cI cS cL : ClassId) (a : Nat → Nat) (N : NN) (P T U v : Nat → Int32) (sz : Nat) (n : Nat) (hn : N 1 2 = nI n) (hn14 : n ≤ 14) (hd0 : 0 ≤ N 1 0) : Met l yX5_readyShare (wy_ yX5_readyShare cX5_readyShare 1 (some .double)) rmX5_readyShare (kPc D (kTy cI cS cL) (mdW cI a N P T U v) sz [.ref (a 0)]) (kMd D (mdW cI a N P T U v) (mdW cI a N P T U (us v 5 0)) sz (p_share N n)) 0 0 (va_A (mdW cI a N P T U v) sz) := by
  refine k_ofW (by decide) (Nat.le_of_ble_eq_true rfl) ?_
  intro p e s m args below meth c hx hb hr hml hts hown hlocks hnm hsz hP hK hD hE ls hl
  subst hsz
  have hA : ∀ q : Nat, s.heap.size ≤ q → (va_A (mdW cI a N P T U v) s.heap.size) q := fun q h => Or.inr h
  have hS : va_S (va_A (mdW cI a N P T U v) s.heap.size) s.heap s.heap [] := va_S.rf
  have hl : lv_has ls 1 [(0, .ref (a 0))] := hl
  refine lv_aload_n hx hb dX5_readyShare_0 rfl (lv_at hl 0 rfl) ?_
  refine lv_iconst (v := 0) hx hb dX5_readyShare_1 (by decide) ?_
  refine f5 hx hb hts hown hK hP hD hS 0 rfl 5 (by decide) flX5_22 (fun _ h => h) rfl rfl rfl (Nat.le_of_ble_eq_true rfl) dX5_readyShare_2 (fun H locs hP hD hS => ?_)
  have hP : va_P D vwCl (mdW cI a N P T U (us v 5 0)) H := hP
  have hD : va_D (va_A (mdW cI a N P T U v) s.heap.size) (mdW cI a N P T U (us v 5 0)) := hD
  refine lv_aload_n hx hb dX5_readyShare_5 rfl (lv_at hl 0 rfl) ?_
  refine k_rdV (As := []) (rest := []) (wc := mdW cI a N P T U (us v 5 0)) ⟨hx, hb, hml, hown, hts⟩ (c_X5_share l D cI cS cL a N P T U (us v 5 0) _ n hn hn14 hd0) lkX5_166 rfl rfl ⟨(Nat.le_of_ble_eq_true rfl), (Nat.le_of_ble_eq_true rfl)⟩ (va_recv hK hP (ci := 4) (q0 := 0) rfl rfl) hK hE hP hD rfl hl.1 rfl (Nat.le_of_ble_eq_true rfl) dX5_readyShare_6 ⟨Nat.zero_le _, Nat.zero_le _⟩ ?_
  have hP : va_P D vwCl (mdW cI a N P T U (us v 5 0)) H := hP
  have hD : va_D (va_A (mdW cI a N P T U v) s.heap.size) (mdW cI a N P T U (us v 5 0)) := hD
  exact k_eMd hx hb hr hlocks hP hS rfl dX5_readyShare_9

abbrev rmJxe99ae_isNaN_b9ae7 : Room := { frames := 0, cells := 0, slots := 0, locals := 0 }
set_option maxHeartbeats 4000000 in
set_option maxRecDepth 100000 in
theorem c_Jxe99ae_isNaN_b9ae7 (l : Launch) (D : va_G) (cI cS cL : ClassId) (sz : Nat) (dd : UInt64) (hnn : Op.cmpValue (FP.dcmp dd dd) .l = 0) : Met l yJxe99ae_isNaN_b9ae7 (wy_ yJxe99ae_isNaN_b9ae7 cJxe99ae_isNaN_b9ae7 2 (some .boolean)) rmJxe99ae_isNaN_b9ae7 (kPc D (kTy cI cS cL) ([]) sz [.double dd]) (kRi (0)) 0 0 noF := by
  refine k_ofW (by decide) (Nat.le_of_ble_eq_true rfl) ?_
  intro p e s m args below meth c hx hb hr hml hts hown hlocks hnm hsz hP hK hD hE ls hl
  subst hsz
  have hl : lv_has ls 2 [(0, .double dd)] := hl
  refine lv_dload_n hx hb dJxe99ae_isNaN_b9ae7_0 rfl (lv_at hl 0 rfl) ?_
  refine lv_dload_n hx hb dJxe99ae_isNaN_b9ae7_1 rfl (lv_at hl 0 rfl) ?_
  refine lv_dcmp hx hb dJxe99ae_isNaN_b9ae7_2 ?_
  refine lv_if_eq (tgt := 10) hx hb dJxe99ae_isNaN_b9ae7_3 (by decide) (fun _ => ?_) (fun h => absurd (hnn) h)
  refine lv_iconst (v := 0) hx hb dJxe99ae_isNaN_b9ae7_10 (by decide) ?_
  exact k_eRz hx hb hr hlocks rfl rfl dJxe99ae_isNaN_b9ae7_11

abbrev rmJxe99ae_doubleToLongBits_ccdee : Room := { frames := 1, cells := 0, slots := 0, locals := 21 }
set_option maxHeartbeats 4000000 in
set_option maxRecDepth 100000 in
theorem c_Jxe99ae_doubleToLongBits_ccdee (l : Launch) (D : va_G) (cI cS cL : ClassId) (sz : Nat) (dd : UInt64) (hnn : Op.cmpValue (FP.dcmp dd dd) .l = 0) : Met l yJxe99ae_doubleToLongBits_ccdee (wy_ yJxe99ae_doubleToLongBits_ccdee cJxe99ae_doubleToLongBits_ccdee 2 (some .long)) rmJxe99ae_doubleToLongBits_ccdee (kPc D (kTy cI cS cL) ([]) sz [.double dd]) (kRl (dd.toInt64)) 0 0 noF := by
  refine k_ofW (by decide) (Nat.le_of_ble_eq_true rfl) ?_
  intro p e s m args below meth c hx hb hr hml hts hown hlocks hnm hsz hP hK hD hE ls hl
  subst hsz
  have hl : lv_has ls 2 [(0, .double dd)] := hl
  refine lv_dload_n hx hb dJxe99ae_doubleToLongBits_ccdee_0 rfl (lv_at hl 0 rfl) ?_
  refine k_riS (As := [.double dd]) (rest := []) (wc := []) ⟨hx, hb, hml, hown, hts⟩ (c_Jxe99ae_isNaN_b9ae7 l D cI cS cL _ dd hnn) lkJxe99ae_122 rfl rfl ⟨(Nat.le_of_ble_eq_true rfl), (Nat.le_of_ble_eq_true rfl)⟩ hK hE hP hD rfl hl.1 rfl (Nat.le_of_ble_eq_true rfl) dJxe99ae_doubleToLongBits_ccdee_1 ⟨Nat.zero_le _, Nat.zero_le _⟩ ?_
  refine lv_if_ne (tgt := 12) hx hb dJxe99ae_doubleToLongBits_ccdee_4 (by decide) (fun h => absurd (by decide) h) (fun _ => ?_)
  refine lv_dload_n hx hb dJxe99ae_doubleToLongBits_ccdee_7 rfl (lv_at hl 0 rfl) ?_
  refine vn_d2l hx hb (hml.trans hl.1.symm) hown (hts _ wd_methodLink_RJxe99ae_134_java_lang_Double_doubleToRawLongBits_D_J) (hts _ wd_native_java_lang_Double_doubleToRawLongBits_D_J) (hts _ wd_static_java_lang_Double_doubleToRawLongBits_D_J) (hts _ wd_initialized_java_lang_Double) (Nat.le_of_ble_eq_true rfl) (Nat.le_of_ble_eq_true rfl) dJxe99ae_doubleToLongBits_ccdee_8 ?_
  exact k_eRl hx hb hr hlocks rfl dJxe99ae_doubleToLongBits_ccdee_11
