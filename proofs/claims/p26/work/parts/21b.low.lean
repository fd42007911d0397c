abbrev rmL_low : Room := { frames := 0, cells := 0, slots := 0, locals := 0 }
set_option maxHeartbeats 4000000 in
set_option maxRecDepth 100000 in
theorem c_L_low (l : Launch) (D : va_G) (cI cS cL : ClassId) (sz : Nat) (v : Int32) (m9 : Nat) (hm0 : 0 < m9) (hm1 : m9 < 2 ^ 31) : Met l yL_low (wy_ yL_low cL_low 2 (some .int)) rmL_low (kPc D (kTy cI cS cL) ([]) sz [.int v, .int (nI m9)]) (kRi (nI (p_low v m9))) 0 0 noF := by
  refine k_ofW (by decide) (Nat.le_of_ble_eq_true rfl) ?_
  intro p e s m args below meth c hx hb hr hml hts hown hlocks hnm hsz hP hK hD hE ls hl
  subst hsz
  have hl : lv_has ls 2 [(0, .int v), (1, .int (nI m9))] := hl
  refine lv_iload_n hx hb dL_low_0 rfl (lv_at hl 0 rfl) ?_
  refine lv_ldc (v := 2147483647) hx hb hown (hts _ wd_constant_RL_7_2147483647) dL_low_1 ?_
  refine lv_iand hx hb dL_low_3 (lv_topi (fun x1 e1 => ?_))
  have q1 : x1 = nI (v.toBitVec.toNat % 2 ^ 31) := by rw [e1]; exact pk_and v 31 (by decide)
  subst q1
  refine lv_iload_n hx hb dL_low_4 rfl (lv_at hl 1 rfl) ?_
  refine lv_irem hx hb dL_low_5 (nI_ne0 hm0 hm1) (lv_topi (fun x2 e2 => ?_))
  have q2 : x2 = nI (p_low v m9) := by rw [e2]; exact pk_rem (Nat.mod_lt _ (by decide)) hm0 hm1
  subst q2
  exact k_eRi hx hb hr hlocks rfl dL_low_6
