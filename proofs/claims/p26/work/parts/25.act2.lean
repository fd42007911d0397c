abbrev rmL_act : Room := { frames := 9, cells := 1, slots := 6, locals := 175 }
set_option maxHeartbeats 8000000 in
set_option maxRecDepth 100000 in
theorem c_L_act (l : Launch) (hfl : l.stackTraces = false) (D : va_G) (cI cS cL : ClassId) (x a : Nat → Nat) (r : Nat → Nat → Nat) (qi kc z : Nat) (T : Nat → Int32) (N : NN) (v : Nat → Int32) (R : Nat → NN) (u : Nat → Nat → Int32) (sz n d i b L : Nat) (xs : Nat → Int32) (hLR : LR2 N n d qi kc R i) (hi : i < 1000) (hLL : L ≤ 260) (hk3 : 3 * i + 2 < L) : Met l yL_act (wy_ yL_act cL_act 7 (some .int)) rmL_act (kPa D (kTy cI cS cL) (xH cS x a r (nI qi) (nI kc) ++ (txW cI x (nI z) T ++ (stW cI a N v ++ (rgW cI r R u)))) sz [.ref (x 0), .ref b, .int (nI (3 * i))] b L xs) (kMe D (xH cS x a r (nI qi) (nI kc) ++ (txW cI x (nI z) T ++ (stW cI a N v ++ (rgW cI r R u)))) sz (AP N n d qi kc R i (p_low (xs (3 * i)) 20) (p_hx (xs (3 * i + 1)) n) (4 + p_low (xs (3 * i + 2)) 21)) (fun y9 : AU => xH cS x a r (nI y9.1) (nI y9.2.1) ++ (txW cI x (nI z) T ++ (stW cI a y9.2.2.1 v ++ rgW cI r y9.2.2.2 u)))) 1 6 (va_A (xH cS x a r (nI qi) (nI kc) ++ (txW cI x (nI z) T ++ (stW cI a N v ++ (rgW cI r R u)))) sz) := by
  refine k_gofW (by decide) (Nat.le_of_ble_eq_true rfl) ?_
  intro p e s m args below meth c hx hb hr hml hts hown hlocks h0 ls hl
  obtain ⟨hsz, hP, hK, hD, hE, hT, hX, hB⟩ := h0
  subst hsz
  have hD := hD.self (sz := s.heap.size)
  have hn := hLR.1.1.1.2.1
  have hn14 := hLR.1.1.1.1
  have hq := hLR.2.2.1
  have hkc := hLR.2.2.2.1
  have hA : ∀ q : Nat, s.heap.size ≤ q → (va_A (xH cS x a r (nI qi) (nI kc) ++ (txW cI x (nI z) T ++ (stW cI a N v ++ (rgW cI r R u)))) s.heap.size) q := fun q h => Or.inr h
  have hS : va_S (va_A (xH cS x a r (nI qi) (nI kc) ++ (txW cI x (nI z) T ++ (stW cI a N v ++ (rgW cI r R u)))) s.heap.size) s.heap s.heap [] := va_S.rf
  have hbA : ¬ (va_A (xH cS x a r (nI qi) (nI kc) ++ (txW cI x (nI z) T ++ (stW cI a N v ++ (rgW cI r R u)))) s.heap.size) b := fun h => h.elim (fun ⟨k, e, h⟩ => hB _ (List.mem_of_getElem? h) rfl) (fun h => absurd h (Nat.not_le.mpr hX.lt))
  have hl : lv_has ls 7 [(0, .ref (x 0)), (1, .ref b), (2, .int (nI (3 * i)))] := hl
  refine lv_aload_n hx hb dL_act_0 rfl (lv_at hl 1 rfl) ?_
  refine lv_iload_n hx hb dL_act_1 rfl (lv_at hl 2 rfl) ?_
  refine lv_iconst (v := 1) hx hb dL_act_2 (by decide) ?_
  refine lv_iadd hx hb dL_act_3 (lv_topi (fun x1 e1 => ?_))
  have q1 : x1 = nI (3 * i + 1) := by rw [e1]; exact nI_add (3 * i) 1
  subst q1
  refine k_rX (As := [.ref b, .int (nI (3 * i + 1))]) (rest := []) ⟨hx, hb, hml, hown, hts⟩ (c_L_cell l (by omega) hLL) lkL_63 rfl rfl ⟨(Nat.le_of_ble_eq_true rfl), (Nat.le_of_ble_eq_true rfl)⟩ hX hbA hS rfl hl.1 rfl (Nat.le_of_ble_eq_true rfl) dL_act_4 ⟨Nat.zero_le _, Nat.zero_le _⟩ ?_
  refine lv_istore_n (lv' := [(3, .int (xs (3 * i + 1))), (0, .ref (x 0)), (1, .ref b), (2, .int (nI (3 * i)))]) hx hb dL_act_7 rfl hl (by decide) rfl (fun ls hl => ?_)
  refine lv_aload_n hx hb dL_act_8 rfl (lv_at hl 2 rfl) ?_
  refine lv_iload_n hx hb dL_act_9 rfl (lv_at hl 3 rfl) ?_
  refine lv_iconst (v := 2) hx hb dL_act_10 (by decide) ?_
  refine lv_iadd hx hb dL_act_11 (lv_topi (fun x2 e2 => ?_))
  have q2 : x2 = nI (3 * i + 2) := by rw [e2]; exact nI_add (3 * i) 2
  subst q2
  refine k_rX (As := [.ref b, .int (nI (3 * i + 2))]) (rest := []) ⟨hx, hb, hml, hown, hts⟩ (c_L_cell l (by omega) hLL) lkL_63 rfl rfl ⟨(Nat.le_of_ble_eq_true rfl), (Nat.le_of_ble_eq_true rfl)⟩ hX hbA hS rfl hl.1 rfl (Nat.le_of_ble_eq_true rfl) dL_act_12 ⟨Nat.zero_le _, Nat.zero_le _⟩ ?_
  refine lv_istore (lv' := [(4, .int (xs (3 * i + 2))), (3, .int (xs (3 * i + 1))), (0, .ref (x 0)), (1, .ref b), (2, .int (nI (3 * i)))]) hx hb dL_act_15 hl (by decide) rfl (fun ls hl => ?_)
  refine lv_aload_n hx hb dL_act_17 rfl (lv_at hl 2 rfl) ?_
  refine lv_iconst (v := 2) hx hb dL_act_18 (by decide) ?_
  refine k_riV (As := [.int 2]) (rest := []) (wc := xH cS x a r (nI qi) (nI kc) ++ (txW cI x (nI z) T ++ (stW cI a N v))) ⟨hx, hb, hml, hown, hts⟩ (c_X4_count_c2 l D cI cS cL x a r (nI qi) (nI kc) (nI z) T N v _ n hn hn14) lkL_35 rfl rfl ⟨(Nat.le_of_ble_eq_true rfl), (Nat.le_of_ble_eq_true rfl)⟩ (va_recv hK hP (ci := 3) (q0 := 0) rfl rfl) hK hE (va_P_midL (w1 := []) (wc := xH cS x a r (nI qi) (nI kc) ++ (txW cI x (nI z) T ++ (stW cI a N v))) (w3 := rgW cI r R u) hP) (va_D_midL (w1 := []) (wc := xH cS x a r (nI qi) (nI kc) ++ (txW cI x (nI z) T ++ (stW cI a N v))) (w3 := rgW cI r R u) hD) rfl hl.1 rfl (Nat.le_of_ble_eq_true rfl) dL_act_19 ⟨Nat.zero_le _, Nat.zero_le _⟩ ?_
  refine lv_istore (lv' := [(5, .int (nI n)), (4, .int (xs (3 * i + 2))), (3, .int (xs (3 * i + 1))), (0, .ref (x 0)), (1, .ref b), (2, .int (nI (3 * i)))]) hx hb dL_act_22 hl (by decide) rfl (fun ls hl => ?_)
  refine lv_iload hx hb dL_act_24 (lv_at hl 0 rfl) ?_
  have J3 : ∀ zj : Int32, zj = nI (p_hx (xs (3 * i + 1)) n) → W p l e rmL_act s m args below meth c s.heap [] 0 0 (MQ below (kMe D (xH cS x a r (nI qi) (nI kc) ++ (txW cI x (nI z) T ++ (stW cI a N v ++ (rgW cI r R u)))) s.heap.size (AP N n d qi kc R i (p_low (xs (3 * i)) 20) (p_hx (xs (3 * i + 1)) n) (4 + p_low (xs (3 * i + 2)) 21)) (fun y9 : AU => xH cS x a r (nI y9.1) (nI y9.2.1) ++ (txW cI x (nI z) T ++ (stW cI a y9.2.2.1 v ++ rgW cI r y9.2.2.2 u)))) args s 1 6 (va_A (xH cS x a r (nI qi) (nI kc) ++ (txW cI x (nI z) T ++ (stW cI a N v ++ (rgW cI r R u)))) s.heap.size)) (F0 m 39 ls ([.int zj])) := by
    intro zj hzj
    subst hzj
    refine lv_istore (lv' := [(6, .int (nI (p_hx (xs (3 * i + 1)) n))), (5, .int (nI n)), (4, .int (xs (3 * i + 2))), (3, .int (xs (3 * i + 1))), (0, .ref (x 0)), (1, .ref b), (2, .int (nI (3 * i)))]) hx hb dL_act_39 hl (by decide) rfl (fun ls hl => ?_)
    refine lv_aload_n hx hb dL_act_41 rfl (lv_at hl 5 rfl) ?_
    refine lv_iload_n hx hb dL_act_42 rfl (lv_at hl 6 rfl) ?_
    refine k_rX (As := [.ref b, .int (nI (3 * i))]) (rest := []) ⟨hx, hb, hml, hown, hts⟩ (c_L_cell l (by omega) hLL) lkL_63 rfl rfl ⟨(Nat.le_of_ble_eq_true rfl), (Nat.le_of_ble_eq_true rfl)⟩ hX hbA hS rfl hl.1 rfl (Nat.le_of_ble_eq_true rfl) dL_act_43 ⟨Nat.zero_le _, Nat.zero_le _⟩ ?_
    refine lv_bipush (v := 20) hx hb dL_act_46 (by decide) ?_
    refine k_riS (As := [.int (xs (3 * i)), .int (nI 20)]) (rest := []) (wc := []) ⟨hx, hb, hml, hown, hts⟩ (c_L_low l D cI cS cL _ (xs (3 * i)) 20 (by omega) (by omega)) lkL_69 rfl rfl ⟨(Nat.le_of_ble_eq_true rfl), (Nat.le_of_ble_eq_true rfl)⟩ hK hE k_nilP (k_nilD (A := va_A (xH cS x a r (nI qi) (nI kc) ++ (txW cI x (nI z) T ++ (stW cI a N v ++ (rgW cI r R u)))) s.heap.size)) rfl hl.1 rfl (Nat.le_of_ble_eq_true rfl) dL_act_48 ⟨Nat.zero_le _, Nat.zero_le _⟩ ?_
    by_cases c4 : nI (p_low (xs (3 * i)) 20) = 0
    · refine lv_tableIn (off := 89) (tgt := 140) hx hb dL_act_51 (by rw [c4]; decide) (by rw [c4]; decide) (by rw [c4]; rfl) (by decide) ?_
      have hSv : p_low (xs (3 * i)) 20 = 0 := lo_eq (by decide) (by decide) (by decide) c4
      refine lv_aload_n hx hb dL_act_140 rfl (lv_at hl 4 rfl) ?_
      refine lv_iload_n hx hb dL_act_141 rfl (lv_at hl 3 rfl) ?_
      refine lv_iconst (v := 3) hx hb dL_act_142 (by decide) ?_
      refine k_riS (As := [.int (xs (3 * i + 1)), .int (nI 3)]) (rest := [.ref (x 0)]) (wc := []) ⟨hx, hb, hml, hown, hts⟩ (c_L_low l D cI cS cL _ (xs (3 * i + 1)) 3 (by omega) (by omega)) lkL_69 rfl rfl ⟨(Nat.le_of_ble_eq_true rfl), (Nat.le_of_ble_eq_true rfl)⟩ hK hE k_nilP (k_nilD (A := va_A (xH cS x a r (nI qi) (nI kc) ++ (txW cI x (nI z) T ++ (stW cI a N v ++ (rgW cI r R u)))) s.heap.size)) rfl hl.1 rfl (Nat.le_of_ble_eq_true rfl) dL_act_143 ⟨Nat.zero_le _, Nat.zero_le _⟩ ?_
      refine lv_iconst (v := 5) hx hb dL_act_146 (by decide) ?_
      refine lv_iload hx hb dL_act_147 (lv_at hl 2 rfl) ?_
      refine lv_bipush (v := 20) hx hb dL_act_149 (by decide) ?_
      refine k_riS (As := [.int (xs (3 * i + 2)), .int (nI 20)]) (rest := [.int 5, .int (nI (p_low (xs (3 * i + 1)) 3)), .ref (x 0)]) (wc := []) ⟨hx, hb, hml, hown, hts⟩ (c_L_low l D cI cS cL _ (xs (3 * i + 2)) 20 (by omega) (by omega)) lkL_69 rfl rfl ⟨(Nat.le_of_ble_eq_true rfl), (Nat.le_of_ble_eq_true rfl)⟩ hK hE k_nilP (k_nilD (A := va_A (xH cS x a r (nI qi) (nI kc) ++ (txW cI x (nI z) T ++ (stW cI a N v ++ (rgW cI r R u)))) s.heap.size)) rfl hl.1 rfl (Nat.le_of_ble_eq_true rfl) dL_act_151 ⟨Nat.zero_le _, Nat.zero_le _⟩ ?_
      refine lv_iadd hx hb dL_act_154 (lv_topi (fun x5 e5 => ?_))
      have q5 : x5 = nI (5 + p_low (xs (3 * i + 2)) 20) := by rw [e5]; exact nI_add 5 _
      subst q5
      refine lv_iload hx hb dL_act_155 (lv_at hl 2 rfl) ?_
      refine lv_iconst (v := 5) hx hb dL_act_157 (by decide) ?_
      refine lv_ishr hx hb dL_act_158 (lv_topi (fun x6 e6 => ?_))
      refine lv_iconst (v := 3) hx hb dL_act_159 (by decide) ?_
      refine k_riS (As := [.int x6, .int (nI 3)]) (rest := [.int (nI (5 + p_low (xs (3 * i + 2)) 20)), .int (nI (p_low (xs (3 * i + 1)) 3)), .ref (x 0)]) (wc := []) ⟨hx, hb, hml, hown, hts⟩ (c_L_low l D cI cS cL _ x6 3 (by omega) (by omega)) lkL_69 rfl rfl ⟨(Nat.le_of_ble_eq_true rfl), (Nat.le_of_ble_eq_true rfl)⟩ hK hE k_nilP (k_nilD (A := va_A (xH cS x a r (nI qi) (nI kc) ++ (txW cI x (nI z) T ++ (stW cI a N v ++ (rgW cI r R u)))) s.heap.size)) rfl hl.1 rfl (Nat.le_of_ble_eq_true rfl) dL_act_160 ⟨Nat.zero_le _, Nat.zero_le _⟩ ?_
      refine k_ecW (post := kAct qi kc N R (p_can N (nI (p_low (xs (3 * i + 1)) 3)) (nI (5 + p_low (xs (3 * i + 2)) 20)) = true) (nI n) (p_add N n (nI (p_low (xs (3 * i + 1)) 3)) (nI (5 + p_low (xs (3 * i + 2)) 20)) (nI (p_low x6 3)) 3)) (Wf := fun y9 : AU => xH cS x a r (nI y9.1) (nI y9.2.1) ++ (txW cI x (nI z) T ++ (stW cI a y9.2.2.1 v ++ rgW cI r y9.2.2.2 u))) (As := [.ref (x 0), .int (nI (p_low (xs (3 * i + 1)) 3)), .int (nI (5 + p_low (xs (3 * i + 2)) 20)), .int (nI (p_low x6 3))]) (rest := []) hA hT (fun U hU hW => kEt_at hT va_S.rf hU hW) ⟨hx, hb, hml, hown, hts⟩ (c_L_buy l hfl D cI cS cL x a r qi kc z T N v R u _ n (nI (p_low (xs (3 * i + 1)) 3)) (nI (5 + p_low (xs (3 * i + 2)) 20)) (nI (p_low x6 3)) hn hn14 hq hkc (lo_ok _ _ _)) lkL_72 rfl rfl ⟨(Nat.le_of_ble_eq_true rfl), (Nat.le_of_ble_eq_true rfl)⟩ hK hE hP hD hS (fun _ => rfl) rfl hl.1 rfl (Nat.le_of_ble_eq_true rfl) dL_act_163 ⟨(Nat.le_of_ble_eq_true rfl), (Nat.le_of_ble_eq_true rfl)⟩ (fun t9 y9 H locs hzz hpost hP hD hS => ?_)
      exact k_eMe (post := AP N n d qi kc R i (p_low (xs (3 * i)) 20) (p_hx (xs (3 * i + 1)) n) (4 + p_low (xs (3 * i + 2)) 21)) (Wf := fun y9 : AU => xH cS x a r (nI y9.1) (nI y9.2.1) ++ (txW cI x (nI z) T ++ (stW cI a y9.2.2.1 v ++ rgW cI r y9.2.2.2 u))) (y9) hx hb hr hlocks (Nat.le_of_ble_eq_true rfl) (Nat.le_of_ble_eq_true rfl) (ap_buy hLR hi (by omega) (lo_kd _) (lo_isN _ (by decide) (by decide)) hpost) hP hS dL_act_166
    by_cases c7 : nI (p_low (xs (3 * i)) 20) = 1
    · refine lv_tableIn (off := 89) (tgt := 140) hx hb dL_act_51 (by rw [c7]; decide) (by rw [c7]; decide) (by rw [c7]; rfl) (by decide) ?_
      have hSv : p_low (xs (3 * i)) 20 = 1 := lo_eq (by decide) (by decide) (by decide) c7
      refine lv_aload_n hx hb dL_act_140 rfl (lv_at hl 4 rfl) ?_
      refine lv_iload_n hx hb dL_act_141 rfl (lv_at hl 3 rfl) ?_
      refine lv_iconst (v := 3) hx hb dL_act_142 (by decide) ?_
      refine k_riS (As := [.int (xs (3 * i + 1)), .int (nI 3)]) (rest := [.ref (x 0)]) (wc := []) ⟨hx, hb, hml, hown, hts⟩ (c_L_low l D cI cS cL _ (xs (3 * i + 1)) 3 (by omega) (by omega)) lkL_69 rfl rfl ⟨(Nat.le_of_ble_eq_true rfl), (Nat.le_of_ble_eq_true rfl)⟩ hK hE k_nilP (k_nilD (A := va_A (xH cS x a r (nI qi) (nI kc) ++ (txW cI x (nI z) T ++ (stW cI a N v ++ (rgW cI r R u)))) s.heap.size)) rfl hl.1 rfl (Nat.le_of_ble_eq_true rfl) dL_act_143 ⟨Nat.zero_le _, Nat.zero_le _⟩ ?_
      refine lv_iconst (v := 5) hx hb dL_act_146 (by decide) ?_
      refine lv_iload hx hb dL_act_147 (lv_at hl 2 rfl) ?_
      refine lv_bipush (v := 20) hx hb dL_act_149 (by decide) ?_
      refine k_riS (As := [.int (xs (3 * i + 2)), .int (nI 20)]) (rest := [.int 5, .int (nI (p_low (xs (3 * i + 1)) 3)), .ref (x 0)]) (wc := []) ⟨hx, hb, hml, hown, hts⟩ (c_L_low l D cI cS cL _ (xs (3 * i + 2)) 20 (by omega) (by omega)) lkL_69 rfl rfl ⟨(Nat.le_of_ble_eq_true rfl), (Nat.le_of_ble_eq_true rfl)⟩ hK hE k_nilP (k_nilD (A := va_A (xH cS x a r (nI qi) (nI kc) ++ (txW cI x (nI z) T ++ (stW cI a N v ++ (rgW cI r R u)))) s.heap.size)) rfl hl.1 rfl (Nat.le_of_ble_eq_true rfl) dL_act_151 ⟨Nat.zero_le _, Nat.zero_le _⟩ ?_
      refine lv_iadd hx hb dL_act_154 (lv_topi (fun x8 e8 => ?_))
      have q8 : x8 = nI (5 + p_low (xs (3 * i + 2)) 20) := by rw [e8]; exact nI_add 5 _
      subst q8
      refine lv_iload hx hb dL_act_155 (lv_at hl 2 rfl) ?_
      refine lv_iconst (v := 5) hx hb dL_act_157 (by decide) ?_
      refine lv_ishr hx hb dL_act_158 (lv_topi (fun x9 e9 => ?_))
      refine lv_iconst (v := 3) hx hb dL_act_159 (by decide) ?_
      refine k_riS (As := [.int x9, .int (nI 3)]) (rest := [.int (nI (5 + p_low (xs (3 * i + 2)) 20)), .int (nI (p_low (xs (3 * i + 1)) 3)), .ref (x 0)]) (wc := []) ⟨hx, hb, hml, hown, hts⟩ (c_L_low l D cI cS cL _ x9 3 (by omega) (by omega)) lkL_69 rfl rfl ⟨(Nat.le_of_ble_eq_true rfl), (Nat.le_of_ble_eq_true rfl)⟩ hK hE k_nilP (k_nilD (A := va_A (xH cS x a r (nI qi) (nI kc) ++ (txW cI x (nI z) T ++ (stW cI a N v ++ (rgW cI r R u)))) s.heap.size)) rfl hl.1 rfl (Nat.le_of_ble_eq_true rfl) dL_act_160 ⟨Nat.zero_le _, Nat.zero_le _⟩ ?_
      refine k_ecW (post := kAct qi kc N R (p_can N (nI (p_low (xs (3 * i + 1)) 3)) (nI (5 + p_low (xs (3 * i + 2)) 20)) = true) (nI n) (p_add N n (nI (p_low (xs (3 * i + 1)) 3)) (nI (5 + p_low (xs (3 * i + 2)) 20)) (nI (p_low x9 3)) 3)) (Wf := fun y9 : AU => xH cS x a r (nI y9.1) (nI y9.2.1) ++ (txW cI x (nI z) T ++ (stW cI a y9.2.2.1 v ++ rgW cI r y9.2.2.2 u))) (As := [.ref (x 0), .int (nI (p_low (xs (3 * i + 1)) 3)), .int (nI (5 + p_low (xs (3 * i + 2)) 20)), .int (nI (p_low x9 3))]) (rest := []) hA hT (fun U hU hW => kEt_at hT va_S.rf hU hW) ⟨hx, hb, hml, hown, hts⟩ (c_L_buy l hfl D cI cS cL x a r qi kc z T N v R u _ n (nI (p_low (xs (3 * i + 1)) 3)) (nI (5 + p_low (xs (3 * i + 2)) 20)) (nI (p_low x9 3)) hn hn14 hq hkc (lo_ok _ _ _)) lkL_72 rfl rfl ⟨(Nat.le_of_ble_eq_true rfl), (Nat.le_of_ble_eq_true rfl)⟩ hK hE hP hD hS (fun _ => rfl) rfl hl.1 rfl (Nat.le_of_ble_eq_true rfl) dL_act_163 ⟨(Nat.le_of_ble_eq_true rfl), (Nat.le_of_ble_eq_true rfl)⟩ (fun t9 y9 H locs hzz hpost hP hD hS => ?_)
      exact k_eMe (post := AP N n d qi kc R i (p_low (xs (3 * i)) 20) (p_hx (xs (3 * i + 1)) n) (4 + p_low (xs (3 * i + 2)) 21)) (Wf := fun y9 : AU => xH cS x a r (nI y9.1) (nI y9.2.1) ++ (txW cI x (nI z) T ++ (stW cI a y9.2.2.1 v ++ rgW cI r y9.2.2.2 u))) (y9) hx hb hr hlocks (Nat.le_of_ble_eq_true rfl) (Nat.le_of_ble_eq_true rfl) (ap_buy hLR hi (by omega) (lo_kd _) (lo_isN _ (by decide) (by decide)) hpost) hP hS dL_act_166
    by_cases c10 : nI (p_low (xs (3 * i)) 20) = 2
    · refine lv_tableIn (off := 89) (tgt := 140) hx hb dL_act_51 (by rw [c10]; decide) (by rw [c10]; decide) (by rw [c10]; rfl) (by decide) ?_
      have hSv : p_low (xs (3 * i)) 20 = 2 := lo_eq (by decide) (by decide) (by decide) c10
      refine lv_aload_n hx hb dL_act_140 rfl (lv_at hl 4 rfl) ?_
      refine lv_iload_n hx hb dL_act_141 rfl (lv_at hl 3 rfl) ?_
      refine lv_iconst (v := 3) hx hb dL_act_142 (by decide) ?_
      refine k_riS (As := [.int (xs (3 * i + 1)), .int (nI 3)]) (rest := [.ref (x 0)]) (wc := []) ⟨hx, hb, hml, hown, hts⟩ (c_L_low l D cI cS cL _ (xs (3 * i + 1)) 3 (by omega) (by omega)) lkL_69 rfl rfl ⟨(Nat.le_of_ble_eq_true rfl), (Nat.le_of_ble_eq_true rfl)⟩ hK hE k_nilP (k_nilD (A := va_A (xH cS x a r (nI qi) (nI kc) ++ (txW cI x (nI z) T ++ (stW cI a N v ++ (rgW cI r R u)))) s.heap.size)) rfl hl.1 rfl (Nat.le_of_ble_eq_true rfl) dL_act_143 ⟨Nat.zero_le _, Nat.zero_le _⟩ ?_
      refine lv_iconst (v := 5) hx hb dL_act_146 (by decide) ?_
      refine lv_iload hx hb dL_act_147 (lv_at hl 2 rfl) ?_
      refine lv_bipush (v := 20) hx hb dL_act_149 (by decide) ?_
      refine k_riS (As := [.int (xs (3 * i + 2)), .int (nI 20)]) (rest := [.int 5, .int (nI (p_low (xs (3 * i + 1)) 3)), .ref (x 0)]) (wc := []) ⟨hx, hb, hml, hown, hts⟩ (c_L_low l D cI cS cL _ (xs (3 * i + 2)) 20 (by omega) (by omega)) lkL_69 rfl rfl ⟨(Nat.le_of_ble_eq_true rfl), (Nat.le_of_ble_eq_true rfl)⟩ hK hE k_nilP (k_nilD (A := va_A (xH cS x a r (nI qi) (nI kc) ++ (txW cI x (nI z) T ++ (stW cI a N v ++ (rgW cI r R u)))) s.heap.size)) rfl hl.1 rfl (Nat.le_of_ble_eq_true rfl) dL_act_151 ⟨Nat.zero_le _, Nat.zero_le _⟩ ?_
      refine lv_iadd hx hb dL_act_154 (lv_topi (fun x11 e11 => ?_))
      have q11 : x11 = nI (5 + p_low (xs (3 * i + 2)) 20) := by rw [e11]; exact nI_add 5 _
      subst q11
      refine lv_iload hx hb dL_act_155 (lv_at hl 2 rfl) ?_
      refine lv_iconst (v := 5) hx hb dL_act_157 (by decide) ?_
      refine lv_ishr hx hb dL_act_158 (lv_topi (fun x12 e12 => ?_))
      refine lv_iconst (v := 3) hx hb dL_act_159 (by decide) ?_
      refine k_riS (As := [.int x12, .int (nI 3)]) (rest := [.int (nI (5 + p_low (xs (3 * i + 2)) 20)), .int (nI (p_low (xs (3 * i + 1)) 3)), .ref (x 0)]) (wc := []) ⟨hx, hb, hml, hown, hts⟩ (c_L_low l D cI cS cL _ x12 3 (by omega) (by omega)) lkL_69 rfl rfl ⟨(Nat.le_of_ble_eq_true rfl), (Nat.le_of_ble_eq_true rfl)⟩ hK hE k_nilP (k_nilD (A := va_A (xH cS x a r (nI qi) (nI kc) ++ (txW cI x (nI z) T ++ (stW cI a N v ++ (rgW cI r R u)))) s.heap.size)) rfl hl.1 rfl (Nat.le_of_ble_eq_true rfl) dL_act_160 ⟨Nat.zero_le _, Nat.zero_le _⟩ ?_
      refine k_ecW (post := kAct qi kc N R (p_can N (nI (p_low (xs (3 * i + 1)) 3)) (nI (5 + p_low (xs (3 * i + 2)) 20)) = true) (nI n) (p_add N n (nI (p_low (xs (3 * i + 1)) 3)) (nI (5 + p_low (xs (3 * i + 2)) 20)) (nI (p_low x12 3)) 3)) (Wf := fun y9 : AU => xH cS x a r (nI y9.1) (nI y9.2.1) ++ (txW cI x (nI z) T ++ (stW cI a y9.2.2.1 v ++ rgW cI r y9.2.2.2 u))) (As := [.ref (x 0), .int (nI (p_low (xs (3 * i + 1)) 3)), .int (nI (5 + p_low (xs (3 * i + 2)) 20)), .int (nI (p_low x12 3))]) (rest := []) hA hT (fun U hU hW => kEt_at hT va_S.rf hU hW) ⟨hx, hb, hml, hown, hts⟩ (c_L_buy l hfl D cI cS cL x a r qi kc z T N v R u _ n (nI (p_low (xs (3 * i + 1)) 3)) (nI (5 + p_low (xs (3 * i + 2)) 20)) (nI (p_low x12 3)) hn hn14 hq hkc (lo_ok _ _ _)) lkL_72 rfl rfl ⟨(Nat.le_of_ble_eq_true rfl), (Nat.le_of_ble_eq_true rfl)⟩ hK hE hP hD hS (fun _ => rfl) rfl hl.1 rfl (Nat.le_of_ble_eq_true rfl) dL_act_163 ⟨(Nat.le_of_ble_eq_true rfl), (Nat.le_of_ble_eq_true rfl)⟩ (fun t9 y9 H locs hzz hpost hP hD hS => ?_)
      exact k_eMe (post := AP N n d qi kc R i (p_low (xs (3 * i)) 20) (p_hx (xs (3 * i + 1)) n) (4 + p_low (xs (3 * i + 2)) 21)) (Wf := fun y9 : AU => xH cS x a r (nI y9.1) (nI y9.2.1) ++ (txW cI x (nI z) T ++ (stW cI a y9.2.2.1 v ++ rgW cI r y9.2.2.2 u))) (y9) hx hb hr hlocks (Nat.le_of_ble_eq_true rfl) (Nat.le_of_ble_eq_true rfl) (ap_buy hLR hi (by omega) (lo_kd _) (lo_isN _ (by decide) (by decide)) hpost) hP hS dL_act_166
    by_cases c13 : nI (p_low (xs (3 * i)) 20) = 3
    · refine lv_tableIn (off := 89) (tgt := 140) hx hb dL_act_51 (by rw [c13]; decide) (by rw [c13]; decide) (by rw [c13]; rfl) (by decide) ?_
      have hSv : p_low (xs (3 * i)) 20 = 3 := lo_eq (by decide) (by decide) (by decide) c13
      refine lv_aload_n hx hb dL_act_140 rfl (lv_at hl 4 rfl) ?_
      refine lv_iload_n hx hb dL_act_141 rfl (lv_at hl 3 rfl) ?_
      refine lv_iconst (v := 3) hx hb dL_act_142 (by decide) ?_
      refine k_riS (As := [.int (xs (3 * i + 1)), .int (nI 3)]) (rest := [.ref (x 0)]) (wc := []) ⟨hx, hb, hml, hown, hts⟩ (c_L_low l D cI cS cL _ (xs (3 * i + 1)) 3 (by omega) (by omega)) lkL_69 rfl rfl ⟨(Nat.le_of_ble_eq_true rfl), (Nat.le_of_ble_eq_true rfl)⟩ hK hE k_nilP (k_nilD (A := va_A (xH cS x a r (nI qi) (nI kc) ++ (txW cI x (nI z) T ++ (stW cI a N v ++ (rgW cI r R u)))) s.heap.size)) rfl hl.1 rfl (Nat.le_of_ble_eq_true rfl) dL_act_143 ⟨Nat.zero_le _, Nat.zero_le _⟩ ?_
      refine lv_iconst (v := 5) hx hb dL_act_146 (by decide) ?_
      refine lv_iload hx hb dL_act_147 (lv_at hl 2 rfl) ?_
      refine lv_bipush (v := 20) hx hb dL_act_149 (by decide) ?_
      refine k_riS (As := [.int (xs (3 * i + 2)), .int (nI 20)]) (rest := [.int 5, .int (nI (p_low (xs (3 * i + 1)) 3)), .ref (x 0)]) (wc := []) ⟨hx, hb, hml, hown, hts⟩ (c_L_low l D cI cS cL _ (xs (3 * i + 2)) 20 (by omega) (by omega)) lkL_69 rfl rfl ⟨(Nat.le_of_ble_eq_true rfl), (Nat.le_of_ble_eq_true rfl)⟩ hK hE k_nilP (k_nilD (A := va_A (xH cS x a r (nI qi) (nI kc) ++ (txW cI x (nI z) T ++ (stW cI a N v ++ (rgW cI r R u)))) s.heap.size)) rfl hl.1 rfl (Nat.le_of_ble_eq_true rfl) dL_act_151 ⟨Nat.zero_le _, Nat.zero_le _⟩ ?_
      refine lv_iadd hx hb dL_act_154 (lv_topi (fun x14 e14 => ?_))
      have q14 : x14 = nI (5 + p_low (xs (3 * i + 2)) 20) := by rw [e14]; exact nI_add 5 _
      subst q14
      refine lv_iload hx hb dL_act_155 (lv_at hl 2 rfl) ?_
      refine lv_iconst (v := 5) hx hb dL_act_157 (by decide) ?_
      refine lv_ishr hx hb dL_act_158 (lv_topi (fun x15 e15 => ?_))
      refine lv_iconst (v := 3) hx hb dL_act_159 (by decide) ?_
      refine k_riS (As := [.int x15, .int (nI 3)]) (rest := [.int (nI (5 + p_low (xs (3 * i + 2)) 20)), .int (nI (p_low (xs (3 * i + 1)) 3)), .ref (x 0)]) (wc := []) ⟨hx, hb, hml, hown, hts⟩ (c_L_low l D cI cS cL _ x15 3 (by omega) (by omega)) lkL_69 rfl rfl ⟨(Nat.le_of_ble_eq_true rfl), (Nat.le_of_ble_eq_true rfl)⟩ hK hE k_nilP (k_nilD (A := va_A (xH cS x a r (nI qi) (nI kc) ++ (txW cI x (nI z) T ++ (stW cI a N v ++ (rgW cI r R u)))) s.heap.size)) rfl hl.1 rfl (Nat.le_of_ble_eq_true rfl) dL_act_160 ⟨Nat.zero_le _, Nat.zero_le _⟩ ?_
      refine k_ecW (post := kAct qi kc N R (p_can N (nI (p_low (xs (3 * i + 1)) 3)) (nI (5 + p_low (xs (3 * i + 2)) 20)) = true) (nI n) (p_add N n (nI (p_low (xs (3 * i + 1)) 3)) (nI (5 + p_low (xs (3 * i + 2)) 20)) (nI (p_low x15 3)) 3)) (Wf := fun y9 : AU => xH cS x a r (nI y9.1) (nI y9.2.1) ++ (txW cI x (nI z) T ++ (stW cI a y9.2.2.1 v ++ rgW cI r y9.2.2.2 u))) (As := [.ref (x 0), .int (nI (p_low (xs (3 * i + 1)) 3)), .int (nI (5 + p_low (xs (3 * i + 2)) 20)), .int (nI (p_low x15 3))]) (rest := []) hA hT (fun U hU hW => kEt_at hT va_S.rf hU hW) ⟨hx, hb, hml, hown, hts⟩ (c_L_buy l hfl D cI cS cL x a r qi kc z T N v R u _ n (nI (p_low (xs (3 * i + 1)) 3)) (nI (5 + p_low (xs (3 * i + 2)) 20)) (nI (p_low x15 3)) hn hn14 hq hkc (lo_ok _ _ _)) lkL_72 rfl rfl ⟨(Nat.le_of_ble_eq_true rfl), (Nat.le_of_ble_eq_true rfl)⟩ hK hE hP hD hS (fun _ => rfl) rfl hl.1 rfl (Nat.le_of_ble_eq_true rfl) dL_act_163 ⟨(Nat.le_of_ble_eq_true rfl), (Nat.le_of_ble_eq_true rfl)⟩ (fun t9 y9 H locs hzz hpost hP hD hS => ?_)
      exact k_eMe (post := AP N n d qi kc R i (p_low (xs (3 * i)) 20) (p_hx (xs (3 * i + 1)) n) (4 + p_low (xs (3 * i + 2)) 21)) (Wf := fun y9 : AU => xH cS x a r (nI y9.1) (nI y9.2.1) ++ (txW cI x (nI z) T ++ (stW cI a y9.2.2.1 v ++ rgW cI r y9.2.2.2 u))) (y9) hx hb hr hlocks (Nat.le_of_ble_eq_true rfl) (Nat.le_of_ble_eq_true rfl) (ap_buy hLR hi (by omega) (lo_kd _) (lo_isN _ (by decide) (by decide)) hpost) hP hS dL_act_166
    by_cases c16 : nI (p_low (xs (3 * i)) 20) = 4
    · refine lv_tableIn (off := 116) (tgt := 167) hx hb dL_act_51 (by rw [c16]; decide) (by rw [c16]; decide) (by rw [c16]; rfl) (by decide) ?_
      have hSv : p_low (xs (3 * i)) 20 = 4 := lo_eq (by decide) (by decide) (by decide) c16
      refine lv_iload hx hb dL_act_167 (lv_at hl 1 rfl) ?_
      refine lv_if_ne (tgt := 177) hx hb dL_act_169 (by decide) (fun c17 => ?_) (fun c17 => ?_)
      · have hn0 : ¬ n = 0 := fun q => c17 (by rw [q]; rfl)
        have hkn := p_hx_lt (xs (3 * i + 1)) hn0
        refine lv_aload_n hx hb dL_act_177 rfl (lv_at hl 4 rfl) ?_
        refine lv_iload hx hb dL_act_178 (lv_at hl 0 rfl) ?_
        refine k_ecW (post := kAct qi kc N R ((¬ N 9 (p_hx (xs (3 * i + 1)) n) = -1 ∧ ¬ N 9 (p_hx (xs (3 * i + 1)) n) = 4) ∧ p_can N (N 3 (p_hx (xs (3 * i + 1)) n)) (N 4 (p_hx (xs (3 * i + 1)) n)) = true) (nI n) (p_renew N n (p_hx (xs (3 * i + 1)) n))) (Wf := fun y9 : AU => xH cS x a r (nI y9.1) (nI y9.2.1) ++ (txW cI x (nI z) T ++ (stW cI a y9.2.2.1 v ++ rgW cI r y9.2.2.2 u))) (As := [.ref (x 0), .int (nI (p_hx (xs (3 * i + 1)) n))]) (rest := []) hA hT (fun U hU hW => kEt_at hT va_S.rf hU hW) ⟨hx, hb, hml, hown, hts⟩ (c_L_renew l hfl D cI cS cL x a r qi kc z T N v R u _ n (p_hx (xs (3 * i + 1)) n) hn hn14 hq hkc hkn) lkL_75 rfl rfl ⟨(Nat.le_of_ble_eq_true rfl), (Nat.le_of_ble_eq_true rfl)⟩ hK hE hP hD hS (fun _ => rfl) rfl hl.1 rfl (Nat.le_of_ble_eq_true rfl) dL_act_180 ⟨(Nat.le_of_ble_eq_true rfl), (Nat.le_of_ble_eq_true rfl)⟩ (fun t9 y9 H locs hzz hpost hP hD hS => ?_)
        exact k_eMe (post := AP N n d qi kc R i (p_low (xs (3 * i)) 20) (p_hx (xs (3 * i + 1)) n) (4 + p_low (xs (3 * i + 2)) 21)) (Wf := fun y9 : AU => xH cS x a r (nI y9.1) (nI y9.2.1) ++ (txW cI x (nI z) T ++ (stW cI a y9.2.2.1 v ++ rgW cI r y9.2.2.2 u))) (y9) hx hb hr hlocks (Nat.le_of_ble_eq_true rfl) (Nat.le_of_ble_eq_true rfl) (ap_renew hLR hi hSv hkn hpost) hP hS dL_act_183
      · refine lv_bipush (v := (-3)) hx hb dL_act_172 (by decide) ?_
        refine lv_goto (tgt := 183) hx hb dL_act_174 (by decide) ?_
        exact k_eMe (post := AP N n d qi kc R i (p_low (xs (3 * i)) 20) (p_hx (xs (3 * i + 1)) n) (4 + p_low (xs (3 * i + 2)) 21)) (Wf := fun y9 : AU => xH cS x a r (nI y9.1) (nI y9.2.1) ++ (txW cI x (nI z) T ++ (stW cI a y9.2.2.1 v ++ rgW cI r y9.2.2.2 u))) ((qi, kc, N, R)) hx hb hr hlocks (Nat.le_of_ble_eq_true rfl) (Nat.le_of_ble_eq_true rfl) (ap_ref (by omega)) hP hS dL_act_183
    by_cases c18 : nI (p_low (xs (3 * i)) 20) = 5
    · refine lv_tableIn (off := 133) (tgt := 184) hx hb dL_act_51 (by rw [c18]; decide) (by rw [c18]; decide) (by rw [c18]; rfl) (by decide) ?_
      have hSv : p_low (xs (3 * i)) 20 = 5 := lo_eq (by decide) (by decide) (by decide) c18
      refine lv_iload hx hb dL_act_184 (lv_at hl 1 rfl) ?_
      refine lv_if_ne (tgt := 194) hx hb dL_act_186 (by decide) (fun c19 => ?_) (fun c19 => ?_)
      · have hn0 : ¬ n = 0 := fun q => c19 (by rw [q]; rfl)
        have hkn := p_hx_lt (xs (3 * i + 1)) hn0
        refine lv_aload_n hx hb dL_act_194 rfl (lv_at hl 4 rfl) ?_
        refine lv_iload hx hb dL_act_195 (lv_at hl 0 rfl) ?_
        refine lv_iload hx hb dL_act_197 (lv_at hl 2 rfl) ?_
        refine lv_iconst (v := 4) hx hb dL_act_199 (by decide) ?_
        refine k_riS (As := [.int (xs (3 * i + 2)), .int (nI 4)]) (rest := [.int (nI (p_hx (xs (3 * i + 1)) n)), .ref (x 0)]) (wc := []) ⟨hx, hb, hml, hown, hts⟩ (c_L_low l D cI cS cL _ (xs (3 * i + 2)) 4 (by omega) (by omega)) lkL_69 rfl rfl ⟨(Nat.le_of_ble_eq_true rfl), (Nat.le_of_ble_eq_true rfl)⟩ hK hE k_nilP (k_nilD (A := va_A (xH cS x a r (nI qi) (nI kc) ++ (txW cI x (nI z) T ++ (stW cI a N v ++ (rgW cI r R u)))) s.heap.size)) rfl hl.1 rfl (Nat.le_of_ble_eq_true rfl) dL_act_200 ⟨Nat.zero_le _, Nat.zero_le _⟩ ?_
        refine k_ecW (post := kAct qi kc N R (¬ N 9 (p_hx (xs (3 * i + 1)) n) = -1 ∧ ¬ N 9 (p_hx (xs (3 * i + 1)) n) = 4) (N 9 (p_hx (xs (3 * i + 1)) n)) (up2 N 9 (p_hx (xs (3 * i + 1)) n) (nI (p_low (xs (3 * i + 2)) 4)))) (Wf := fun y9 : AU => xH cS x a r (nI y9.1) (nI y9.2.1) ++ (txW cI x (nI z) T ++ (stW cI a y9.2.2.1 v ++ rgW cI r y9.2.2.2 u))) (As := [.ref (x 0), .int (nI (p_hx (xs (3 * i + 1)) n)), .int (nI (p_low (xs (3 * i + 2)) 4))]) (rest := []) hA hT (fun U hU hW => kEt_at hT va_S.rf hU hW) ⟨hx, hb, hml, hown, hts⟩ (c_L_put l hfl D cI cS cL x a r qi kc z T N v R u _ n (p_hx (xs (3 * i + 1)) n) (nI (p_low (xs (3 * i + 2)) 4)) hn hn14 hq hkc hkn (lo_r0 _ (hi := 3) (by decide) (by decide) (by decide))) lkL_78 rfl rfl ⟨(Nat.le_of_ble_eq_true rfl), (Nat.le_of_ble_eq_true rfl)⟩ hK hE hP hD hS (fun _ => rfl) rfl hl.1 rfl (Nat.le_of_ble_eq_true rfl) dL_act_203 ⟨(Nat.le_of_ble_eq_true rfl), (Nat.le_of_ble_eq_true rfl)⟩ (fun t9 y9 H locs hzz hpost hP hD hS => ?_)
        exact k_eMe (post := AP N n d qi kc R i (p_low (xs (3 * i)) 20) (p_hx (xs (3 * i + 1)) n) (4 + p_low (xs (3 * i + 2)) 21)) (Wf := fun y9 : AU => xH cS x a r (nI y9.1) (nI y9.2.1) ++ (txW cI x (nI z) T ++ (stW cI a y9.2.2.1 v ++ rgW cI r y9.2.2.2 u))) (y9) hx hb hr hlocks (Nat.le_of_ble_eq_true rfl) (Nat.le_of_ble_eq_true rfl) (ap_put hLR (by omega) hkn (lo_r0 _ (hi := 3) (by decide) (by decide) (by decide)) hpost) hP hS dL_act_206
      · refine lv_bipush (v := (-3)) hx hb dL_act_189 (by decide) ?_
        refine lv_goto (tgt := 206) hx hb dL_act_191 (by decide) ?_
        exact k_eMe (post := AP N n d qi kc R i (p_low (xs (3 * i)) 20) (p_hx (xs (3 * i + 1)) n) (4 + p_low (xs (3 * i + 2)) 21)) (Wf := fun y9 : AU => xH cS x a r (nI y9.1) (nI y9.2.1) ++ (txW cI x (nI z) T ++ (stW cI a y9.2.2.1 v ++ rgW cI r y9.2.2.2 u))) ((qi, kc, N, R)) hx hb hr hlocks (Nat.le_of_ble_eq_true rfl) (Nat.le_of_ble_eq_true rfl) (ap_ref (by omega)) hP hS dL_act_206
    by_cases c20 : nI (p_low (xs (3 * i)) 20) = 6
    · refine lv_tableIn (off := 133) (tgt := 184) hx hb dL_act_51 (by rw [c20]; decide) (by rw [c20]; decide) (by rw [c20]; rfl) (by decide) ?_
      have hSv : p_low (xs (3 * i)) 20 = 6 := lo_eq (by decide) (by decide) (by decide) c20
      refine lv_iload hx hb dL_act_184 (lv_at hl 1 rfl) ?_
      refine lv_if_ne (tgt := 194) hx hb dL_act_186 (by decide) (fun c21 => ?_) (fun c21 => ?_)
      · have hn0 : ¬ n = 0 := fun q => c21 (by rw [q]; rfl)
        have hkn := p_hx_lt (xs (3 * i + 1)) hn0
        refine lv_aload_n hx hb dL_act_194 rfl (lv_at hl 4 rfl) ?_
        refine lv_iload hx hb dL_act_195 (lv_at hl 0 rfl) ?_
        refine lv_iload hx hb dL_act_197 (lv_at hl 2 rfl) ?_
        refine lv_iconst (v := 4) hx hb dL_act_199 (by decide) ?_
        refine k_riS (As := [.int (xs (3 * i + 2)), .int (nI 4)]) (rest := [.int (nI (p_hx (xs (3 * i + 1)) n)), .ref (x 0)]) (wc := []) ⟨hx, hb, hml, hown, hts⟩ (c_L_low l D cI cS cL _ (xs (3 * i + 2)) 4 (by omega) (by omega)) lkL_69 rfl rfl ⟨(Nat.le_of_ble_eq_true rfl), (Nat.le_of_ble_eq_true rfl)⟩ hK hE k_nilP (k_nilD (A := va_A (xH cS x a r (nI qi) (nI kc) ++ (txW cI x (nI z) T ++ (stW cI a N v ++ (rgW cI r R u)))) s.heap.size)) rfl hl.1 rfl (Nat.le_of_ble_eq_true rfl) dL_act_200 ⟨Nat.zero_le _, Nat.zero_le _⟩ ?_
        refine k_ecW (post := kAct qi kc N R (¬ N 9 (p_hx (xs (3 * i + 1)) n) = -1 ∧ ¬ N 9 (p_hx (xs (3 * i + 1)) n) = 4) (N 9 (p_hx (xs (3 * i + 1)) n)) (up2 N 9 (p_hx (xs (3 * i + 1)) n) (nI (p_low (xs (3 * i + 2)) 4)))) (Wf := fun y9 : AU => xH cS x a r (nI y9.1) (nI y9.2.1) ++ (txW cI x (nI z) T ++ (stW cI a y9.2.2.1 v ++ rgW cI r y9.2.2.2 u))) (As := [.ref (x 0), .int (nI (p_hx (xs (3 * i + 1)) n)), .int (nI (p_low (xs (3 * i + 2)) 4))]) (rest := []) hA hT (fun U hU hW => kEt_at hT va_S.rf hU hW) ⟨hx, hb, hml, hown, hts⟩ (c_L_put l hfl D cI cS cL x a r qi kc z T N v R u _ n (p_hx (xs (3 * i + 1)) n) (nI (p_low (xs (3 * i + 2)) 4)) hn hn14 hq hkc hkn (lo_r0 _ (hi := 3) (by decide) (by decide) (by decide))) lkL_78 rfl rfl ⟨(Nat.le_of_ble_eq_true rfl), (Nat.le_of_ble_eq_true rfl)⟩ hK hE hP hD hS (fun _ => rfl) rfl hl.1 rfl (Nat.le_of_ble_eq_true rfl) dL_act_203 ⟨(Nat.le_of_ble_eq_true rfl), (Nat.le_of_ble_eq_true rfl)⟩ (fun t9 y9 H locs hzz hpost hP hD hS => ?_)
        exact k_eMe (post := AP N n d qi kc R i (p_low (xs (3 * i)) 20) (p_hx (xs (3 * i + 1)) n) (4 + p_low (xs (3 * i + 2)) 21)) (Wf := fun y9 : AU => xH cS x a r (nI y9.1) (nI y9.2.1) ++ (txW cI x (nI z) T ++ (stW cI a y9.2.2.1 v ++ rgW cI r y9.2.2.2 u))) (y9) hx hb hr hlocks (Nat.le_of_ble_eq_true rfl) (Nat.le_of_ble_eq_true rfl) (ap_put hLR (by omega) hkn (lo_r0 _ (hi := 3) (by decide) (by decide) (by decide)) hpost) hP hS dL_act_206
      · refine lv_bipush (v := (-3)) hx hb dL_act_189 (by decide) ?_
        refine lv_goto (tgt := 206) hx hb dL_act_191 (by decide) ?_
        exact k_eMe (post := AP N n d qi kc R i (p_low (xs (3 * i)) 20) (p_hx (xs (3 * i + 1)) n) (4 + p_low (xs (3 * i + 2)) 21)) (Wf := fun y9 : AU => xH cS x a r (nI y9.1) (nI y9.2.1) ++ (txW cI x (nI z) T ++ (stW cI a y9.2.2.1 v ++ rgW cI r y9.2.2.2 u))) ((qi, kc, N, R)) hx hb hr hlocks (Nat.le_of_ble_eq_true rfl) (Nat.le_of_ble_eq_true rfl) (ap_ref (by omega)) hP hS dL_act_206
    by_cases c22 : nI (p_low (xs (3 * i)) 20) = 7
    · refine lv_tableIn (off := 133) (tgt := 184) hx hb dL_act_51 (by rw [c22]; decide) (by rw [c22]; decide) (by rw [c22]; rfl) (by decide) ?_
      have hSv : p_low (xs (3 * i)) 20 = 7 := lo_eq (by decide) (by decide) (by decide) c22
      refine lv_iload hx hb dL_act_184 (lv_at hl 1 rfl) ?_
      refine lv_if_ne (tgt := 194) hx hb dL_act_186 (by decide) (fun c23 => ?_) (fun c23 => ?_)
      · have hn0 : ¬ n = 0 := fun q => c23 (by rw [q]; rfl)
        have hkn := p_hx_lt (xs (3 * i + 1)) hn0
        refine lv_aload_n hx hb dL_act_194 rfl (lv_at hl 4 rfl) ?_
        refine lv_iload hx hb dL_act_195 (lv_at hl 0 rfl) ?_
        refine lv_iload hx hb dL_act_197 (lv_at hl 2 rfl) ?_
        refine lv_iconst (v := 4) hx hb dL_act_199 (by decide) ?_
        refine k_riS (As := [.int (xs (3 * i + 2)), .int (nI 4)]) (rest := [.int (nI (p_hx (xs (3 * i + 1)) n)), .ref (x 0)]) (wc := []) ⟨hx, hb, hml, hown, hts⟩ (c_L_low l D cI cS cL _ (xs (3 * i + 2)) 4 (by omega) (by omega)) lkL_69 rfl rfl ⟨(Nat.le_of_ble_eq_true rfl), (Nat.le_of_ble_eq_true rfl)⟩ hK hE k_nilP (k_nilD (A := va_A (xH cS x a r (nI qi) (nI kc) ++ (txW cI x (nI z) T ++ (stW cI a N v ++ (rgW cI r R u)))) s.heap.size)) rfl hl.1 rfl (Nat.le_of_ble_eq_true rfl) dL_act_200 ⟨Nat.zero_le _, Nat.zero_le _⟩ ?_
        refine k_ecW (post := kAct qi kc N R (¬ N 9 (p_hx (xs (3 * i + 1)) n) = -1 ∧ ¬ N 9 (p_hx (xs (3 * i + 1)) n) = 4) (N 9 (p_hx (xs (3 * i + 1)) n)) (up2 N 9 (p_hx (xs (3 * i + 1)) n) (nI (p_low (xs (3 * i + 2)) 4)))) (Wf := fun y9 : AU => xH cS x a r (nI y9.1) (nI y9.2.1) ++ (txW cI x (nI z) T ++ (stW cI a y9.2.2.1 v ++ rgW cI r y9.2.2.2 u))) (As := [.ref (x 0), .int (nI (p_hx (xs (3 * i + 1)) n)), .int (nI (p_low (xs (3 * i + 2)) 4))]) (rest := []) hA hT (fun U hU hW => kEt_at hT va_S.rf hU hW) ⟨hx, hb, hml, hown, hts⟩ (c_L_put l hfl D cI cS cL x a r qi kc z T N v R u _ n (p_hx (xs (3 * i + 1)) n) (nI (p_low (xs (3 * i + 2)) 4)) hn hn14 hq hkc hkn (lo_r0 _ (hi := 3) (by decide) (by decide) (by decide))) lkL_78 rfl rfl ⟨(Nat.le_of_ble_eq_true rfl), (Nat.le_of_ble_eq_true rfl)⟩ hK hE hP hD hS (fun _ => rfl) rfl hl.1 rfl (Nat.le_of_ble_eq_true rfl) dL_act_203 ⟨(Nat.le_of_ble_eq_true rfl), (Nat.le_of_ble_eq_true rfl)⟩ (fun t9 y9 H locs hzz hpost hP hD hS => ?_)
        exact k_eMe (post := AP N n d qi kc R i (p_low (xs (3 * i)) 20) (p_hx (xs (3 * i + 1)) n) (4 + p_low (xs (3 * i + 2)) 21)) (Wf := fun y9 : AU => xH cS x a r (nI y9.1) (nI y9.2.1) ++ (txW cI x (nI z) T ++ (stW cI a y9.2.2.1 v ++ rgW cI r y9.2.2.2 u))) (y9) hx hb hr hlocks (Nat.le_of_ble_eq_true rfl) (Nat.le_of_ble_eq_true rfl) (ap_put hLR (by omega) hkn (lo_r0 _ (hi := 3) (by decide) (by decide) (by decide)) hpost) hP hS dL_act_206
      · refine lv_bipush (v := (-3)) hx hb dL_act_189 (by decide) ?_
        refine lv_goto (tgt := 206) hx hb dL_act_191 (by decide) ?_
        exact k_eMe (post := AP N n d qi kc R i (p_low (xs (3 * i)) 20) (p_hx (xs (3 * i + 1)) n) (4 + p_low (xs (3 * i + 2)) 21)) (Wf := fun y9 : AU => xH cS x a r (nI y9.1) (nI y9.2.1) ++ (txW cI x (nI z) T ++ (stW cI a y9.2.2.1 v ++ rgW cI r y9.2.2.2 u))) ((qi, kc, N, R)) hx hb hr hlocks (Nat.le_of_ble_eq_true rfl) (Nat.le_of_ble_eq_true rfl) (ap_ref (by omega)) hP hS dL_act_206
    by_cases c24 : nI (p_low (xs (3 * i)) 20) = 8
    · refine lv_tableIn (off := 156) (tgt := 207) hx hb dL_act_51 (by rw [c24]; decide) (by rw [c24]; decide) (by rw [c24]; rfl) (by decide) ?_
      have hSv : p_low (xs (3 * i)) 20 = 8 := lo_eq (by decide) (by decide) (by decide) c24
      refine lv_iload hx hb dL_act_207 (lv_at hl 1 rfl) ?_
      refine lv_if_ne (tgt := 217) hx hb dL_act_209 (by decide) (fun c25 => ?_) (fun c25 => ?_)
      · have hn0 : ¬ n = 0 := fun q => c25 (by rw [q]; rfl)
        have hkn := p_hx_lt (xs (3 * i + 1)) hn0
        refine lv_aload_n hx hb dL_act_217 rfl (lv_at hl 4 rfl) ?_
        refine lv_iload hx hb dL_act_218 (lv_at hl 0 rfl) ?_
        refine lv_iconst (v := 1) hx hb dL_act_220 (by decide) ?_
        refine lv_iload hx hb dL_act_221 (lv_at hl 2 rfl) ?_
        refine lv_bipush (v := 40) hx hb dL_act_223 (by decide) ?_
        refine k_riS (As := [.int (xs (3 * i + 2)), .int (nI 40)]) (rest := [.int 1, .int (nI (p_hx (xs (3 * i + 1)) n)), .ref (x 0)]) (wc := []) ⟨hx, hb, hml, hown, hts⟩ (c_L_low l D cI cS cL _ (xs (3 * i + 2)) 40 (by omega) (by omega)) lkL_69 rfl rfl ⟨(Nat.le_of_ble_eq_true rfl), (Nat.le_of_ble_eq_true rfl)⟩ hK hE k_nilP (k_nilD (A := va_A (xH cS x a r (nI qi) (nI kc) ++ (txW cI x (nI z) T ++ (stW cI a N v ++ (rgW cI r R u)))) s.heap.size)) rfl hl.1 rfl (Nat.le_of_ble_eq_true rfl) dL_act_225 ⟨Nat.zero_le _, Nat.zero_le _⟩ ?_
        refine lv_iadd hx hb dL_act_228 (lv_topi (fun x26 e26 => ?_))
        have q26 : x26 = nI (1 + p_low (xs (3 * i + 2)) 40) := by rw [e26]; exact nI_add 1 _
        subst q26
        refine k_ecW (post := kAct qi kc N R (p_reason N (p_hx (xs (3 * i + 1)) n) = 0) (N 1 0 + (nI (1 + p_low (xs (3 * i + 2)) 40))) (p_lend N (p_hx (xs (3 * i + 1)) n) (nI (1 + p_low (xs (3 * i + 2)) 40)))) (Wf := fun y9 : AU => xH cS x a r (nI y9.1) (nI y9.2.1) ++ (txW cI x (nI z) T ++ (stW cI a y9.2.2.1 v ++ rgW cI r y9.2.2.2 u))) (As := [.ref (x 0), .int (nI (p_hx (xs (3 * i + 1)) n)), .int (nI (1 + p_low (xs (3 * i + 2)) 40))]) (rest := []) hA hT (fun U hU hW => kEt_at hT va_S.rf hU hW) ⟨hx, hb, hml, hown, hts⟩ (c_L_lend l hfl D cI cS cL x a r qi kc z T N v R u _ n (p_hx (xs (3 * i + 1)) n) (nI (1 + p_low (xs (3 * i + 2)) 40)) hn hn14 hq hkc hkn (lo_rg _ (a := 1) (hi := 99) (by decide) (by decide) (by decide))) lkL_81 rfl rfl ⟨(Nat.le_of_ble_eq_true rfl), (Nat.le_of_ble_eq_true rfl)⟩ hK hE hP hD hS (fun _ => rfl) rfl hl.1 rfl (Nat.le_of_ble_eq_true rfl) dL_act_229 ⟨(Nat.le_of_ble_eq_true rfl), (Nat.le_of_ble_eq_true rfl)⟩ (fun t9 y9 H locs hzz hpost hP hD hS => ?_)
        exact k_eMe (post := AP N n d qi kc R i (p_low (xs (3 * i)) 20) (p_hx (xs (3 * i + 1)) n) (4 + p_low (xs (3 * i + 2)) 21)) (Wf := fun y9 : AU => xH cS x a r (nI y9.1) (nI y9.2.1) ++ (txW cI x (nI z) T ++ (stW cI a y9.2.2.1 v ++ rgW cI r y9.2.2.2 u))) (y9) hx hb hr hlocks (Nat.le_of_ble_eq_true rfl) (Nat.le_of_ble_eq_true rfl) (ap_lend hLR hi (by omega) (dd := 1 + p_low (xs (3 * i + 2)) 40) (by omega) (by have := p_low_lt (xs (3 * i + 2)) (m := 40) (by decide); omega) hpost) hP hS dL_act_232
      · refine lv_bipush (v := (-3)) hx hb dL_act_212 (by decide) ?_
        refine lv_goto (tgt := 232) hx hb dL_act_214 (by decide) ?_
        exact k_eMe (post := AP N n d qi kc R i (p_low (xs (3 * i)) 20) (p_hx (xs (3 * i + 1)) n) (4 + p_low (xs (3 * i + 2)) 21)) (Wf := fun y9 : AU => xH cS x a r (nI y9.1) (nI y9.2.1) ++ (txW cI x (nI z) T ++ (stW cI a y9.2.2.1 v ++ rgW cI r y9.2.2.2 u))) ((qi, kc, N, R)) hx hb hr hlocks (Nat.le_of_ble_eq_true rfl) (Nat.le_of_ble_eq_true rfl) (ap_ref (by omega)) hP hS dL_act_232
    by_cases c27 : nI (p_low (xs (3 * i)) 20) = 9
    · refine lv_tableIn (off := 182) (tgt := 233) hx hb dL_act_51 (by rw [c27]; decide) (by rw [c27]; decide) (by rw [c27]; rfl) (by decide) ?_
      have hSv : p_low (xs (3 * i)) 20 = 9 := lo_eq (by decide) (by decide) (by decide) c27
      refine lv_iload hx hb dL_act_233 (lv_at hl 1 rfl) ?_
      refine lv_if_ne (tgt := 243) hx hb dL_act_235 (by decide) (fun c28 => ?_) (fun c28 => ?_)
      · have hn0 : ¬ n = 0 := fun q => c28 (by rw [q]; rfl)
        have hkn := p_hx_lt (xs (3 * i + 1)) hn0
        refine lv_aload_n hx hb dL_act_243 rfl (lv_at hl 4 rfl) ?_
        refine lv_iload hx hb dL_act_244 (lv_at hl 0 rfl) ?_
        refine lv_iconst (v := 4) hx hb dL_act_246 (by decide) ?_
        refine lv_iload hx hb dL_act_247 (lv_at hl 2 rfl) ?_
        refine lv_bipush (v := 21) hx hb dL_act_249 (by decide) ?_
        refine k_riS (As := [.int (xs (3 * i + 2)), .int (nI 21)]) (rest := [.int 4, .int (nI (p_hx (xs (3 * i + 1)) n)), .ref (x 0)]) (wc := []) ⟨hx, hb, hml, hown, hts⟩ (c_L_low l D cI cS cL _ (xs (3 * i + 2)) 21 (by omega) (by omega)) lkL_69 rfl rfl ⟨(Nat.le_of_ble_eq_true rfl), (Nat.le_of_ble_eq_true rfl)⟩ hK hE k_nilP (k_nilD (A := va_A (xH cS x a r (nI qi) (nI kc) ++ (txW cI x (nI z) T ++ (stW cI a N v ++ (rgW cI r R u)))) s.heap.size)) rfl hl.1 rfl (Nat.le_of_ble_eq_true rfl) dL_act_251 ⟨Nat.zero_le _, Nat.zero_le _⟩ ?_
        refine lv_iadd hx hb dL_act_254 (lv_topi (fun x29 e29 => ?_))
        have q29 : x29 = nI (4 + p_low (xs (3 * i + 2)) 21) := by rw [e29]; exact nI_add 4 _
        subst q29
        refine k_ecW (post := kAct qi kc N R (¬ N 9 (p_hx (xs (3 * i + 1)) n) = -1 ∧ ¬ N 9 (p_hx (xs (3 * i + 1)) n) = 4) (p_out N (p_hx (xs (3 * i + 1)) n) (4 + p_low (xs (3 * i + 2)) 21)) (p_test N (p_hx (xs (3 * i + 1)) n) (4 + p_low (xs (3 * i + 2)) 21))) (Wf := fun y9 : AU => xH cS x a r (nI y9.1) (nI y9.2.1) ++ (txW cI x (nI z) T ++ (stW cI a y9.2.2.1 v ++ rgW cI r y9.2.2.2 u))) (As := [.ref (x 0), .int (nI (p_hx (xs (3 * i + 1)) n)), .int (nI (4 + p_low (xs (3 * i + 2)) 21))]) (rest := []) hA hT (fun U hU hW => kEt_at hT va_S.rf hU hW) ⟨hx, hb, hml, hown, hts⟩ (c_L_test l hfl D cI cS cL x a r qi kc z T N v R u _ n (p_hx (xs (3 * i + 1)) n) (4 + p_low (xs (3 * i + 2)) 21) hn hn14 hq hkc hkn (by omega) (by have := p_low_lt (xs (3 * i + 2)) (m := 21) (by decide); omega) (hLR.1.1.1.2.2.2 _ hkn).2.1.1 (hLR.1.1.1.2.2.2 _ hkn).2.1.2) lkL_83 rfl rfl ⟨(Nat.le_of_ble_eq_true rfl), (Nat.le_of_ble_eq_true rfl)⟩ hK hE hP hD hS (fun _ => rfl) rfl hl.1 rfl (Nat.le_of_ble_eq_true rfl) dL_act_255 ⟨(Nat.le_of_ble_eq_true rfl), (Nat.le_of_ble_eq_true rfl)⟩ (fun t9 y9 H locs hzz hpost hP hD hS => ?_)
        exact k_eMe (post := AP N n d qi kc R i (p_low (xs (3 * i)) 20) (p_hx (xs (3 * i + 1)) n) (4 + p_low (xs (3 * i + 2)) 21)) (Wf := fun y9 : AU => xH cS x a r (nI y9.1) (nI y9.2.1) ++ (txW cI x (nI z) T ++ (stW cI a y9.2.2.1 v ++ rgW cI r y9.2.2.2 u))) (y9) hx hb hr hlocks (Nat.le_of_ble_eq_true rfl) (Nat.le_of_ble_eq_true rfl) (ap_test hLR (by omega) hkn (by have := p_low_lt (xs (3 * i + 2)) (m := 21) (by decide); omega) hpost) hP hS dL_act_258
      · refine lv_bipush (v := (-3)) hx hb dL_act_238 (by decide) ?_
        refine lv_goto (tgt := 258) hx hb dL_act_240 (by decide) ?_
        exact k_eMe (post := AP N n d qi kc R i (p_low (xs (3 * i)) 20) (p_hx (xs (3 * i + 1)) n) (4 + p_low (xs (3 * i + 2)) 21)) (Wf := fun y9 : AU => xH cS x a r (nI y9.1) (nI y9.2.1) ++ (txW cI x (nI z) T ++ (stW cI a y9.2.2.1 v ++ rgW cI r y9.2.2.2 u))) ((qi, kc, N, R)) hx hb hr hlocks (Nat.le_of_ble_eq_true rfl) (Nat.le_of_ble_eq_true rfl) (ap_ref (by omega)) hP hS dL_act_258
    by_cases c30 : nI (p_low (xs (3 * i)) 20) = 10
    · refine lv_tableIn (off := 182) (tgt := 233) hx hb dL_act_51 (by rw [c30]; decide) (by rw [c30]; decide) (by rw [c30]; rfl) (by decide) ?_
      have hSv : p_low (xs (3 * i)) 20 = 10 := lo_eq (by decide) (by decide) (by decide) c30
      refine lv_iload hx hb dL_act_233 (lv_at hl 1 rfl) ?_
      refine lv_if_ne (tgt := 243) hx hb dL_act_235 (by decide) (fun c31 => ?_) (fun c31 => ?_)
      · have hn0 : ¬ n = 0 := fun q => c31 (by rw [q]; rfl)
        have hkn := p_hx_lt (xs (3 * i + 1)) hn0
        refine lv_aload_n hx hb dL_act_243 rfl (lv_at hl 4 rfl) ?_
        refine lv_iload hx hb dL_act_244 (lv_at hl 0 rfl) ?_
        refine lv_iconst (v := 4) hx hb dL_act_246 (by decide) ?_
        refine lv_iload hx hb dL_act_247 (lv_at hl 2 rfl) ?_
        refine lv_bipush (v := 21) hx hb dL_act_249 (by decide) ?_
        refine k_riS (As := [.int (xs (3 * i + 2)), .int (nI 21)]) (rest := [.int 4, .int (nI (p_hx (xs (3 * i + 1)) n)), .ref (x 0)]) (wc := []) ⟨hx, hb, hml, hown, hts⟩ (c_L_low l D cI cS cL _ (xs (3 * i + 2)) 21 (by omega) (by omega)) lkL_69 rfl rfl ⟨(Nat.le_of_ble_eq_true rfl), (Nat.le_of_ble_eq_true rfl)⟩ hK hE k_nilP (k_nilD (A := va_A (xH cS x a r (nI qi) (nI kc) ++ (txW cI x (nI z) T ++ (stW cI a N v ++ (rgW cI r R u)))) s.heap.size)) rfl hl.1 rfl (Nat.le_of_ble_eq_true rfl) dL_act_251 ⟨Nat.zero_le _, Nat.zero_le _⟩ ?_
        refine lv_iadd hx hb dL_act_254 (lv_topi (fun x32 e32 => ?_))
        have q32 : x32 = nI (4 + p_low (xs (3 * i + 2)) 21) := by rw [e32]; exact nI_add 4 _
        subst q32
        refine k_ecW (post := kAct qi kc N R (¬ N 9 (p_hx (xs (3 * i + 1)) n) = -1 ∧ ¬ N 9 (p_hx (xs (3 * i + 1)) n) = 4) (p_out N (p_hx (xs (3 * i + 1)) n) (4 + p_low (xs (3 * i + 2)) 21)) (p_test N (p_hx (xs (3 * i + 1)) n) (4 + p_low (xs (3 * i + 2)) 21))) (Wf := fun y9 : AU => xH cS x a r (nI y9.1) (nI y9.2.1) ++ (txW cI x (nI z) T ++ (stW cI a y9.2.2.1 v ++ rgW cI r y9.2.2.2 u))) (As := [.ref (x 0), .int (nI (p_hx (xs (3 * i + 1)) n)), .int (nI (4 + p_low (xs (3 * i + 2)) 21))]) (rest := []) hA hT (fun U hU hW => kEt_at hT va_S.rf hU hW) ⟨hx, hb, hml, hown, hts⟩ (c_L_test l hfl D cI cS cL x a r qi kc z T N v R u _ n (p_hx (xs (3 * i + 1)) n) (4 + p_low (xs (3 * i + 2)) 21) hn hn14 hq hkc hkn (by omega) (by have := p_low_lt (xs (3 * i + 2)) (m := 21) (by decide); omega) (hLR.1.1.1.2.2.2 _ hkn).2.1.1 (hLR.1.1.1.2.2.2 _ hkn).2.1.2) lkL_83 rfl rfl ⟨(Nat.le_of_ble_eq_true rfl), (Nat.le_of_ble_eq_true rfl)⟩ hK hE hP hD hS (fun _ => rfl) rfl hl.1 rfl (Nat.le_of_ble_eq_true rfl) dL_act_255 ⟨(Nat.le_of_ble_eq_true rfl), (Nat.le_of_ble_eq_true rfl)⟩ (fun t9 y9 H locs hzz hpost hP hD hS => ?_)
        exact k_eMe (post := AP N n d qi kc R i (p_low (xs (3 * i)) 20) (p_hx (xs (3 * i + 1)) n) (4 + p_low (xs (3 * i + 2)) 21)) (Wf := fun y9 : AU => xH cS x a r (nI y9.1) (nI y9.2.1) ++ (txW cI x (nI z) T ++ (stW cI a y9.2.2.1 v ++ rgW cI r y9.2.2.2 u))) (y9) hx hb hr hlocks (Nat.le_of_ble_eq_true rfl) (Nat.le_of_ble_eq_true rfl) (ap_test hLR (by omega) hkn (by have := p_low_lt (xs (3 * i + 2)) (m := 21) (by decide); omega) hpost) hP hS dL_act_258
      · refine lv_bipush (v := (-3)) hx hb dL_act_238 (by decide) ?_
        refine lv_goto (tgt := 258) hx hb dL_act_240 (by decide) ?_
        exact k_eMe (post := AP N n d qi kc R i (p_low (xs (3 * i)) 20) (p_hx (xs (3 * i + 1)) n) (4 + p_low (xs (3 * i + 2)) 21)) (Wf := fun y9 : AU => xH cS x a r (nI y9.1) (nI y9.2.1) ++ (txW cI x (nI z) T ++ (stW cI a y9.2.2.1 v ++ rgW cI r y9.2.2.2 u))) ((qi, kc, N, R)) hx hb hr hlocks (Nat.le_of_ble_eq_true rfl) (Nat.le_of_ble_eq_true rfl) (ap_ref (by omega)) hP hS dL_act_258
    by_cases c33 : nI (p_low (xs (3 * i)) 20) = 11
    · refine lv_tableIn (off := 182) (tgt := 233) hx hb dL_act_51 (by rw [c33]; decide) (by rw [c33]; decide) (by rw [c33]; rfl) (by decide) ?_
      have hSv : p_low (xs (3 * i)) 20 = 11 := lo_eq (by decide) (by decide) (by decide) c33
      refine lv_iload hx hb dL_act_233 (lv_at hl 1 rfl) ?_
      refine lv_if_ne (tgt := 243) hx hb dL_act_235 (by decide) (fun c34 => ?_) (fun c34 => ?_)
      · have hn0 : ¬ n = 0 := fun q => c34 (by rw [q]; rfl)
        have hkn := p_hx_lt (xs (3 * i + 1)) hn0
        refine lv_aload_n hx hb dL_act_243 rfl (lv_at hl 4 rfl) ?_
        refine lv_iload hx hb dL_act_244 (lv_at hl 0 rfl) ?_
        refine lv_iconst (v := 4) hx hb dL_act_246 (by decide) ?_
        refine lv_iload hx hb dL_act_247 (lv_at hl 2 rfl) ?_
        refine lv_bipush (v := 21) hx hb dL_act_249 (by decide) ?_
        refine k_riS (As := [.int (xs (3 * i + 2)), .int (nI 21)]) (rest := [.int 4, .int (nI (p_hx (xs (3 * i + 1)) n)), .ref (x 0)]) (wc := []) ⟨hx, hb, hml, hown, hts⟩ (c_L_low l D cI cS cL _ (xs (3 * i + 2)) 21 (by omega) (by omega)) lkL_69 rfl rfl ⟨(Nat.le_of_ble_eq_true rfl), (Nat.le_of_ble_eq_true rfl)⟩ hK hE k_nilP (k_nilD (A := va_A (xH cS x a r (nI qi) (nI kc) ++ (txW cI x (nI z) T ++ (stW cI a N v ++ (rgW cI r R u)))) s.heap.size)) rfl hl.1 rfl (Nat.le_of_ble_eq_true rfl) dL_act_251 ⟨Nat.zero_le _, Nat.zero_le _⟩ ?_
        refine lv_iadd hx hb dL_act_254 (lv_topi (fun x35 e35 => ?_))
        have q35 : x35 = nI (4 + p_low (xs (3 * i + 2)) 21) := by rw [e35]; exact nI_add 4 _
        subst q35
        refine k_ecW (post := kAct qi kc N R (¬ N 9 (p_hx (xs (3 * i + 1)) n) = -1 ∧ ¬ N 9 (p_hx (xs (3 * i + 1)) n) = 4) (p_out N (p_hx (xs (3 * i + 1)) n) (4 + p_low (xs (3 * i + 2)) 21)) (p_test N (p_hx (xs (3 * i + 1)) n) (4 + p_low (xs (3 * i + 2)) 21))) (Wf := fun y9 : AU => xH cS x a r (nI y9.1) (nI y9.2.1) ++ (txW cI x (nI z) T ++ (stW cI a y9.2.2.1 v ++ rgW cI r y9.2.2.2 u))) (As := [.ref (x 0), .int (nI (p_hx (xs (3 * i + 1)) n)), .int (nI (4 + p_low (xs (3 * i + 2)) 21))]) (rest := []) hA hT (fun U hU hW => kEt_at hT va_S.rf hU hW) ⟨hx, hb, hml, hown, hts⟩ (c_L_test l hfl D cI cS cL x a r qi kc z T N v R u _ n (p_hx (xs (3 * i + 1)) n) (4 + p_low (xs (3 * i + 2)) 21) hn hn14 hq hkc hkn (by omega) (by have := p_low_lt (xs (3 * i + 2)) (m := 21) (by decide); omega) (hLR.1.1.1.2.2.2 _ hkn).2.1.1 (hLR.1.1.1.2.2.2 _ hkn).2.1.2) lkL_83 rfl rfl ⟨(Nat.le_of_ble_eq_true rfl), (Nat.le_of_ble_eq_true rfl)⟩ hK hE hP hD hS (fun _ => rfl) rfl hl.1 rfl (Nat.le_of_ble_eq_true rfl) dL_act_255 ⟨(Nat.le_of_ble_eq_true rfl), (Nat.le_of_ble_eq_true rfl)⟩ (fun t9 y9 H locs hzz hpost hP hD hS => ?_)
        exact k_eMe (post := AP N n d qi kc R i (p_low (xs (3 * i)) 20) (p_hx (xs (3 * i + 1)) n) (4 + p_low (xs (3 * i + 2)) 21)) (Wf := fun y9 : AU => xH cS x a r (nI y9.1) (nI y9.2.1) ++ (txW cI x (nI z) T ++ (stW cI a y9.2.2.1 v ++ rgW cI r y9.2.2.2 u))) (y9) hx hb hr hlocks (Nat.le_of_ble_eq_true rfl) (Nat.le_of_ble_eq_true rfl) (ap_test hLR (by omega) hkn (by have := p_low_lt (xs (3 * i + 2)) (m := 21) (by decide); omega) hpost) hP hS dL_act_258
      · refine lv_bipush (v := (-3)) hx hb dL_act_238 (by decide) ?_
        refine lv_goto (tgt := 258) hx hb dL_act_240 (by decide) ?_
        exact k_eMe (post := AP N n d qi kc R i (p_low (xs (3 * i)) 20) (p_hx (xs (3 * i + 1)) n) (4 + p_low (xs (3 * i + 2)) 21)) (Wf := fun y9 : AU => xH cS x a r (nI y9.1) (nI y9.2.1) ++ (txW cI x (nI z) T ++ (stW cI a y9.2.2.1 v ++ rgW cI r y9.2.2.2 u))) ((qi, kc, N, R)) hx hb hr hlocks (Nat.le_of_ble_eq_true rfl) (Nat.le_of_ble_eq_true rfl) (ap_ref (by omega)) hP hS dL_act_258
    by_cases c36 : nI (p_low (xs (3 * i)) 20) = 12
    · refine lv_tableIn (off := 182) (tgt := 233) hx hb dL_act_51 (by rw [c36]; decide) (by rw [c36]; decide) (by rw [c36]; rfl) (by decide) ?_
      have hSv : p_low (xs (3 * i)) 20 = 12 := lo_eq (by decide) (by decide) (by decide) c36
      refine lv_iload hx hb dL_act_233 (lv_at hl 1 rfl) ?_
      refine lv_if_ne (tgt := 243) hx hb dL_act_235 (by decide) (fun c37 => ?_) (fun c37 => ?_)
      · have hn0 : ¬ n = 0 := fun q => c37 (by rw [q]; rfl)
        have hkn := p_hx_lt (xs (3 * i + 1)) hn0
        refine lv_aload_n hx hb dL_act_243 rfl (lv_at hl 4 rfl) ?_
        refine lv_iload hx hb dL_act_244 (lv_at hl 0 rfl) ?_
        refine lv_iconst (v := 4) hx hb dL_act_246 (by decide) ?_
        refine lv_iload hx hb dL_act_247 (lv_at hl 2 rfl) ?_
        refine lv_bipush (v := 21) hx hb dL_act_249 (by decide) ?_
        refine k_riS (As := [.int (xs (3 * i + 2)), .int (nI 21)]) (rest := [.int 4, .int (nI (p_hx (xs (3 * i + 1)) n)), .ref (x 0)]) (wc := []) ⟨hx, hb, hml, hown, hts⟩ (c_L_low l D cI cS cL _ (xs (3 * i + 2)) 21 (by omega) (by omega)) lkL_69 rfl rfl ⟨(Nat.le_of_ble_eq_true rfl), (Nat.le_of_ble_eq_true rfl)⟩ hK hE k_nilP (k_nilD (A := va_A (xH cS x a r (nI qi) (nI kc) ++ (txW cI x (nI z) T ++ (stW cI a N v ++ (rgW cI r R u)))) s.heap.size)) rfl hl.1 rfl (Nat.le_of_ble_eq_true rfl) dL_act_251 ⟨Nat.zero_le _, Nat.zero_le _⟩ ?_
        refine lv_iadd hx hb dL_act_254 (lv_topi (fun x38 e38 => ?_))
        have q38 : x38 = nI (4 + p_low (xs (3 * i + 2)) 21) := by rw [e38]; exact nI_add 4 _
        subst q38
        refine k_ecW (post := kAct qi kc N R (¬ N 9 (p_hx (xs (3 * i + 1)) n) = -1 ∧ ¬ N 9 (p_hx (xs (3 * i + 1)) n) = 4) (p_out N (p_hx (xs (3 * i + 1)) n) (4 + p_low (xs (3 * i + 2)) 21)) (p_test N (p_hx (xs (3 * i + 1)) n) (4 + p_low (xs (3 * i + 2)) 21))) (Wf := fun y9 : AU => xH cS x a r (nI y9.1) (nI y9.2.1) ++ (txW cI x (nI z) T ++ (stW cI a y9.2.2.1 v ++ rgW cI r y9.2.2.2 u))) (As := [.ref (x 0), .int (nI (p_hx (xs (3 * i + 1)) n)), .int (nI (4 + p_low (xs (3 * i + 2)) 21))]) (rest := []) hA hT (fun U hU hW => kEt_at hT va_S.rf hU hW) ⟨hx, hb, hml, hown, hts⟩ (c_L_test l hfl D cI cS cL x a r qi kc z T N v R u _ n (p_hx (xs (3 * i + 1)) n) (4 + p_low (xs (3 * i + 2)) 21) hn hn14 hq hkc hkn (by omega) (by have := p_low_lt (xs (3 * i + 2)) (m := 21) (by decide); omega) (hLR.1.1.1.2.2.2 _ hkn).2.1.1 (hLR.1.1.1.2.2.2 _ hkn).2.1.2) lkL_83 rfl rfl ⟨(Nat.le_of_ble_eq_true rfl), (Nat.le_of_ble_eq_true rfl)⟩ hK hE hP hD hS (fun _ => rfl) rfl hl.1 rfl (Nat.le_of_ble_eq_true rfl) dL_act_255 ⟨(Nat.le_of_ble_eq_true rfl), (Nat.le_of_ble_eq_true rfl)⟩ (fun t9 y9 H locs hzz hpost hP hD hS => ?_)
        exact k_eMe (post := AP N n d qi kc R i (p_low (xs (3 * i)) 20) (p_hx (xs (3 * i + 1)) n) (4 + p_low (xs (3 * i + 2)) 21)) (Wf := fun y9 : AU => xH cS x a r (nI y9.1) (nI y9.2.1) ++ (txW cI x (nI z) T ++ (stW cI a y9.2.2.1 v ++ rgW cI r y9.2.2.2 u))) (y9) hx hb hr hlocks (Nat.le_of_ble_eq_true rfl) (Nat.le_of_ble_eq_true rfl) (ap_test hLR (by omega) hkn (by have := p_low_lt (xs (3 * i + 2)) (m := 21) (by decide); omega) hpost) hP hS dL_act_258
      · refine lv_bipush (v := (-3)) hx hb dL_act_238 (by decide) ?_
        refine lv_goto (tgt := 258) hx hb dL_act_240 (by decide) ?_
        exact k_eMe (post := AP N n d qi kc R i (p_low (xs (3 * i)) 20) (p_hx (xs (3 * i + 1)) n) (4 + p_low (xs (3 * i + 2)) 21)) (Wf := fun y9 : AU => xH cS x a r (nI y9.1) (nI y9.2.1) ++ (txW cI x (nI z) T ++ (stW cI a y9.2.2.1 v ++ rgW cI r y9.2.2.2 u))) ((qi, kc, N, R)) hx hb hr hlocks (Nat.le_of_ble_eq_true rfl) (Nat.le_of_ble_eq_true rfl) (ap_ref (by omega)) hP hS dL_act_258
    by_cases c39 : nI (p_low (xs (3 * i)) 20) = 13
    · refine lv_tableIn (off := 208) (tgt := 259) hx hb dL_act_51 (by rw [c39]; decide) (by rw [c39]; decide) (by rw [c39]; rfl) (by decide) ?_
      have hSv : p_low (xs (3 * i)) 20 = 13 := lo_eq (by decide) (by decide) (by decide) c39
      refine lv_aload_n hx hb dL_act_259 rfl (lv_at hl 4 rfl) ?_
      refine lv_iload_n hx hb dL_act_260 rfl (lv_at hl 3 rfl) ?_
      refine lv_iconst (v := 3) hx hb dL_act_261 (by decide) ?_
      refine k_riS (As := [.int (xs (3 * i + 1)), .int (nI 3)]) (rest := [.ref (x 0)]) (wc := []) ⟨hx, hb, hml, hown, hts⟩ (c_L_low l D cI cS cL _ (xs (3 * i + 1)) 3 (by omega) (by omega)) lkL_69 rfl rfl ⟨(Nat.le_of_ble_eq_true rfl), (Nat.le_of_ble_eq_true rfl)⟩ hK hE k_nilP (k_nilD (A := va_A (xH cS x a r (nI qi) (nI kc) ++ (txW cI x (nI z) T ++ (stW cI a N v ++ (rgW cI r R u)))) s.heap.size)) rfl hl.1 rfl (Nat.le_of_ble_eq_true rfl) dL_act_262 ⟨Nat.zero_le _, Nat.zero_le _⟩ ?_
      refine lv_iload hx hb dL_act_265 (lv_at hl 2 rfl) ?_
      refine lv_bipush (v := 120) hx hb dL_act_267 (by decide) ?_
      refine k_riS (As := [.int (xs (3 * i + 2)), .int (nI 120)]) (rest := [.int (nI (p_low (xs (3 * i + 1)) 3)), .ref (x 0)]) (wc := []) ⟨hx, hb, hml, hown, hts⟩ (c_L_low l D cI cS cL _ (xs (3 * i + 2)) 120 (by omega) (by omega)) lkL_69 rfl rfl ⟨(Nat.le_of_ble_eq_true rfl), (Nat.le_of_ble_eq_true rfl)⟩ hK hE k_nilP (k_nilD (A := va_A (xH cS x a r (nI qi) (nI kc) ++ (txW cI x (nI z) T ++ (stW cI a N v ++ (rgW cI r R u)))) s.heap.size)) rfl hl.1 rfl (Nat.le_of_ble_eq_true rfl) dL_act_269 ⟨Nat.zero_le _, Nat.zero_le _⟩ ?_
      refine k_miV0 (As := [.int (nI (p_low (xs (3 * i + 1)) 3)), .int (nI (p_low (xs (3 * i + 2)) 120))]) (rest := []) (wc := xH cS x a r (nI qi) (nI kc) ++ (txW cI x (nI z) T ++ (stW cI a N v ++ (rgW cI r R u)))) (wc' := xH cS x a r (nI (p_nx qi)) (nI (m_kc kc)) ++ (txW cI x (nI z) T ++ (stW cI a (up2 N 2 (p_low (xs (3 * i + 1)) 3) (nI (p_low (xs (3 * i + 2)) 120))) v ++ (rgW cI r (updN R (p_nx qi) N) u)))) ⟨hx, hb, hml, hown, hts⟩ (c_X4_want_g l D cI cS cL x a r qi kc z T N v R u _ (p_low (xs (3 * i + 1)) 3) (nI (p_low (xs (3 * i + 2)) 120)) (p_low_lt _ (by decide)) hq hkc (lo_r0 _ (hi := 200) (by decide) (by decide) (by decide))) lkL_85 rfl rfl ⟨(Nat.le_of_ble_eq_true rfl), (Nat.le_of_ble_eq_true rfl)⟩ (va_recv hK hP (ci := 3) (q0 := 0) rfl rfl) hK hE hP hD hS hA rfl rfl hl.1 rfl (Nat.le_of_ble_eq_true rfl) dL_act_272 ⟨Nat.zero_le _, Nat.zero_le _⟩ (fun H locs hzz hP hD hS => ?_)
      have hP : va_P D vwCl (xH cS x a r (nI (p_nx qi)) (nI (m_kc kc)) ++ (txW cI x (nI z) T ++ (stW cI a (up2 N 2 (p_low (xs (3 * i + 1)) 3) (nI (p_low (xs (3 * i + 2)) 120))) v ++ (rgW cI r (updN R (p_nx qi) N) u)))) H := hP
      have hD : va_D (va_A (xH cS x a r (nI qi) (nI kc) ++ (txW cI x (nI z) T ++ (stW cI a N v ++ (rgW cI r R u)))) s.heap.size) (xH cS x a r (nI (p_nx qi)) (nI (m_kc kc)) ++ (txW cI x (nI z) T ++ (stW cI a (up2 N 2 (p_low (xs (3 * i + 1)) 3) (nI (p_low (xs (3 * i + 2)) 120))) v ++ (rgW cI r (updN R (p_nx qi) N) u)))) := hD
      exact k_eMe (post := AP N n d qi kc R i (p_low (xs (3 * i)) 20) (p_hx (xs (3 * i + 1)) n) (4 + p_low (xs (3 * i + 2)) 21)) (Wf := fun y9 : AU => xH cS x a r (nI y9.1) (nI y9.2.1) ++ (txW cI x (nI z) T ++ (stW cI a y9.2.2.1 v ++ rgW cI r y9.2.2.2 u))) ((p_nx qi, m_kc kc, up2 N 2 (p_low (xs (3 * i + 1)) 3) (nI (p_low (xs (3 * i + 2)) 120)), updN R (p_nx qi) N)) hx hb hr hlocks (Nat.le_of_ble_eq_true rfl) (Nat.le_of_ble_eq_true rfl) (ap_want hLR hSv (p_low_lt _ (by decide)) (lo_i0 _ (by decide) (by decide))) hP hS dL_act_275
    by_cases c40 : nI (p_low (xs (3 * i)) 20) = 14
    · refine lv_tableIn (off := 225) (tgt := 276) hx hb dL_act_51 (by rw [c40]; decide) (by rw [c40]; decide) (by rw [c40]; rfl) (by decide) ?_
      have hSv : p_low (xs (3 * i)) 20 = 14 := lo_eq (by decide) (by decide) (by decide) c40
      refine lv_iload_n hx hb dL_act_276 rfl (lv_at hl 3 rfl) ?_
      refine lv_iconst (v := 2) hx hb dL_act_277 (by decide) ?_
      refine k_riS (As := [.int (xs (3 * i + 1)), .int (nI 2)]) (rest := []) (wc := []) ⟨hx, hb, hml, hown, hts⟩ (c_L_low l D cI cS cL _ (xs (3 * i + 1)) 2 (by omega) (by omega)) lkL_69 rfl rfl ⟨(Nat.le_of_ble_eq_true rfl), (Nat.le_of_ble_eq_true rfl)⟩ hK hE k_nilP (k_nilD (A := va_A (xH cS x a r (nI qi) (nI kc) ++ (txW cI x (nI z) T ++ (stW cI a N v ++ (rgW cI r R u)))) s.heap.size)) rfl hl.1 rfl (Nat.le_of_ble_eq_true rfl) dL_act_278 ⟨Nat.zero_le _, Nat.zero_le _⟩ ?_
      refine lv_if_ne (tgt := 301) hx hb dL_act_281 (by decide) (fun c41 => ?_) (fun c41 => ?_)
      · refine lv_aload_n hx hb dL_act_301 rfl (lv_at hl 4 rfl) ?_
        refine lv_iconst (v := 1) hx hb dL_act_302 (by decide) ?_
        refine lv_iload hx hb dL_act_303 (lv_at hl 2 rfl) ?_
        refine lv_bipush (v := 6) hx hb dL_act_305 (by decide) ?_
        refine k_riS (As := [.int (xs (3 * i + 2)), .int (nI 6)]) (rest := [.int 1, .ref (x 0)]) (wc := []) ⟨hx, hb, hml, hown, hts⟩ (c_L_low l D cI cS cL _ (xs (3 * i + 2)) 6 (by omega) (by omega)) lkL_69 rfl rfl ⟨(Nat.le_of_ble_eq_true rfl), (Nat.le_of_ble_eq_true rfl)⟩ hK hE k_nilP (k_nilD (A := va_A (xH cS x a r (nI qi) (nI kc) ++ (txW cI x (nI z) T ++ (stW cI a N v ++ (rgW cI r R u)))) s.heap.size)) rfl hl.1 rfl (Nat.le_of_ble_eq_true rfl) dL_act_307 ⟨Nat.zero_le _, Nat.zero_le _⟩ ?_
        refine k_miV0 (As := [.int (nI 1), .int (nI (p_low (xs (3 * i + 2)) 6))]) (rest := []) (wc := xH cS x a r (nI qi) (nI kc) ++ (txW cI x (nI z) T ++ (stW cI a N v ++ (rgW cI r R u)))) (wc' := xH cS x a r (nI (p_nx qi)) (nI (m_kc kc)) ++ (txW cI x (nI z) T ++ (stW cI a (up2 N 0 1 (nI (p_low (xs (3 * i + 2)) 6))) v ++ (rgW cI r (updN R (p_nx qi) N) u)))) ⟨hx, hb, hml, hown, hts⟩ (c_X4_set_g l D cI cS cL x a r qi kc z T N v R u _ 1 (nI (p_low (xs (3 * i + 2)) 6)) (by omega) hq hkc (lo_s1 _)) lkL_88 rfl rfl ⟨(Nat.le_of_ble_eq_true rfl), (Nat.le_of_ble_eq_true rfl)⟩ (va_recv hK hP (ci := 3) (q0 := 0) rfl rfl) hK hE hP hD hS hA rfl rfl hl.1 rfl (Nat.le_of_ble_eq_true rfl) dL_act_310 ⟨Nat.zero_le _, Nat.zero_le _⟩ (fun H locs hzz hP hD hS => ?_)
        have hP : va_P D vwCl (xH cS x a r (nI (p_nx qi)) (nI (m_kc kc)) ++ (txW cI x (nI z) T ++ (stW cI a (up2 N 0 1 (nI (p_low (xs (3 * i + 2)) 6))) v ++ (rgW cI r (updN R (p_nx qi) N) u)))) H := hP
        have hD : va_D (va_A (xH cS x a r (nI qi) (nI kc) ++ (txW cI x (nI z) T ++ (stW cI a N v ++ (rgW cI r R u)))) s.heap.size) (xH cS x a r (nI (p_nx qi)) (nI (m_kc kc)) ++ (txW cI x (nI z) T ++ (stW cI a (up2 N 0 1 (nI (p_low (xs (3 * i + 2)) 6))) v ++ (rgW cI r (updN R (p_nx qi) N) u)))) := hD
        exact k_eMe (post := AP N n d qi kc R i (p_low (xs (3 * i)) 20) (p_hx (xs (3 * i + 1)) n) (4 + p_low (xs (3 * i + 2)) 21)) (Wf := fun y9 : AU => xH cS x a r (nI y9.1) (nI y9.2.1) ++ (txW cI x (nI z) T ++ (stW cI a y9.2.2.1 v ++ rgW cI r y9.2.2.2 u))) ((p_nx qi, m_kc kc, up2 N 0 1 (nI (p_low (xs (3 * i + 2)) 6)), updN R (p_nx qi) N)) hx hb hr hlocks (Nat.le_of_ble_eq_true rfl) (Nat.le_of_ble_eq_true rfl) (ap_set hLR (Or.inl hSv) (Or.inr (Or.inl ⟨rfl, lo_i0 _ (by decide) (by decide)⟩))) hP hS dL_act_313
      · refine lv_aload_n hx hb dL_act_284 rfl (lv_at hl 4 rfl) ?_
        refine lv_iconst (v := 0) hx hb dL_act_285 (by decide) ?_
        refine lv_iconst (v := 4) hx hb dL_act_286 (by decide) ?_
        refine lv_iload hx hb dL_act_287 (lv_at hl 2 rfl) ?_
        refine lv_bipush (v := 21) hx hb dL_act_289 (by decide) ?_
        refine k_riS (As := [.int (xs (3 * i + 2)), .int (nI 21)]) (rest := [.int 4, .int 0, .ref (x 0)]) (wc := []) ⟨hx, hb, hml, hown, hts⟩ (c_L_low l D cI cS cL _ (xs (3 * i + 2)) 21 (by omega) (by omega)) lkL_69 rfl rfl ⟨(Nat.le_of_ble_eq_true rfl), (Nat.le_of_ble_eq_true rfl)⟩ hK hE k_nilP (k_nilD (A := va_A (xH cS x a r (nI qi) (nI kc) ++ (txW cI x (nI z) T ++ (stW cI a N v ++ (rgW cI r R u)))) s.heap.size)) rfl hl.1 rfl (Nat.le_of_ble_eq_true rfl) dL_act_291 ⟨Nat.zero_le _, Nat.zero_le _⟩ ?_
        refine lv_iadd hx hb dL_act_294 (lv_topi (fun x42 e42 => ?_))
        have q42 : x42 = nI (4 + p_low (xs (3 * i + 2)) 21) := by rw [e42]; exact nI_add 4 _
        subst q42
        refine k_miV0 (As := [.int (nI 0), .int (nI (4 + p_low (xs (3 * i + 2)) 21))]) (rest := []) (wc := xH cS x a r (nI qi) (nI kc) ++ (txW cI x (nI z) T ++ (stW cI a N v ++ (rgW cI r R u)))) (wc' := xH cS x a r (nI (p_nx qi)) (nI (m_kc kc)) ++ (txW cI x (nI z) T ++ (stW cI a (up2 N 0 0 (nI (4 + p_low (xs (3 * i + 2)) 21))) v ++ (rgW cI r (updN R (p_nx qi) N) u)))) ⟨hx, hb, hml, hown, hts⟩ (c_X4_set_g l D cI cS cL x a r qi kc z T N v R u _ 0 (nI (4 + p_low (xs (3 * i + 2)) 21)) (by omega) hq hkc (lo_s0 _)) lkL_88 rfl rfl ⟨(Nat.le_of_ble_eq_true rfl), (Nat.le_of_ble_eq_true rfl)⟩ (va_recv hK hP (ci := 3) (q0 := 0) rfl rfl) hK hE hP hD hS hA rfl rfl hl.1 rfl (Nat.le_of_ble_eq_true rfl) dL_act_295 ⟨Nat.zero_le _, Nat.zero_le _⟩ (fun H locs hzz hP hD hS => ?_)
        have hP : va_P D vwCl (xH cS x a r (nI (p_nx qi)) (nI (m_kc kc)) ++ (txW cI x (nI z) T ++ (stW cI a (up2 N 0 0 (nI (4 + p_low (xs (3 * i + 2)) 21))) v ++ (rgW cI r (updN R (p_nx qi) N) u)))) H := hP
        have hD : va_D (va_A (xH cS x a r (nI qi) (nI kc) ++ (txW cI x (nI z) T ++ (stW cI a N v ++ (rgW cI r R u)))) s.heap.size) (xH cS x a r (nI (p_nx qi)) (nI (m_kc kc)) ++ (txW cI x (nI z) T ++ (stW cI a (up2 N 0 0 (nI (4 + p_low (xs (3 * i + 2)) 21))) v ++ (rgW cI r (updN R (p_nx qi) N) u)))) := hD
        refine lv_goto (tgt := 313) hx hb dL_act_298 (by decide) ?_
        exact k_eMe (post := AP N n d qi kc R i (p_low (xs (3 * i)) 20) (p_hx (xs (3 * i + 1)) n) (4 + p_low (xs (3 * i + 2)) 21)) (Wf := fun y9 : AU => xH cS x a r (nI y9.1) (nI y9.2.1) ++ (txW cI x (nI z) T ++ (stW cI a y9.2.2.1 v ++ rgW cI r y9.2.2.2 u))) ((p_nx qi, m_kc kc, up2 N 0 0 (nI (4 + p_low (xs (3 * i + 2)) 21)), updN R (p_nx qi) N)) hx hb hr hlocks (Nat.le_of_ble_eq_true rfl) (Nat.le_of_ble_eq_true rfl) (ap_set hLR (Or.inl hSv) (Or.inl ⟨rfl, lo_isN _ (by decide) (by decide)⟩)) hP hS dL_act_313
    by_cases c43 : nI (p_low (xs (3 * i)) 20) = 15
    · refine lv_tableIn (off := 263) (tgt := 314) hx hb dL_act_51 (by rw [c43]; decide) (by rw [c43]; decide) (by rw [c43]; rfl) (by decide) ?_
      have hSv : p_low (xs (3 * i)) 20 = 15 := lo_eq (by decide) (by decide) (by decide) c43
      refine lv_aload_n hx hb dL_act_314 rfl (lv_at hl 4 rfl) ?_
      refine lv_iconst (v := 2) hx hb dL_act_315 (by decide) ?_
      refine lv_iload hx hb dL_act_316 (lv_at hl 2 rfl) ?_
      refine lv_sipush (v := 201) hx hb dL_act_318 (by decide) ?_
      refine k_riS (As := [.int (xs (3 * i + 2)), .int (nI 201)]) (rest := [.int 2, .ref (x 0)]) (wc := []) ⟨hx, hb, hml, hown, hts⟩ (c_L_low l D cI cS cL _ (xs (3 * i + 2)) 201 (by omega) (by omega)) lkL_69 rfl rfl ⟨(Nat.le_of_ble_eq_true rfl), (Nat.le_of_ble_eq_true rfl)⟩ hK hE k_nilP (k_nilD (A := va_A (xH cS x a r (nI qi) (nI kc) ++ (txW cI x (nI z) T ++ (stW cI a N v ++ (rgW cI r R u)))) s.heap.size)) rfl hl.1 rfl (Nat.le_of_ble_eq_true rfl) dL_act_321 ⟨Nat.zero_le _, Nat.zero_le _⟩ ?_
      refine k_miV0 (As := [.int (nI 2), .int (nI (p_low (xs (3 * i + 2)) 201))]) (rest := []) (wc := xH cS x a r (nI qi) (nI kc) ++ (txW cI x (nI z) T ++ (stW cI a N v ++ (rgW cI r R u)))) (wc' := xH cS x a r (nI (p_nx qi)) (nI (m_kc kc)) ++ (txW cI x (nI z) T ++ (stW cI a (up2 N 0 2 (nI (p_low (xs (3 * i + 2)) 201))) v ++ (rgW cI r (updN R (p_nx qi) N) u)))) ⟨hx, hb, hml, hown, hts⟩ (c_X4_set_g l D cI cS cL x a r qi kc z T N v R u _ 2 (nI (p_low (xs (3 * i + 2)) 201)) (by omega) hq hkc (lo_s2 _)) lkL_88 rfl rfl ⟨(Nat.le_of_ble_eq_true rfl), (Nat.le_of_ble_eq_true rfl)⟩ (va_recv hK hP (ci := 3) (q0 := 0) rfl rfl) hK hE hP hD hS hA rfl rfl hl.1 rfl (Nat.le_of_ble_eq_true rfl) dL_act_324 ⟨Nat.zero_le _, Nat.zero_le _⟩ (fun H locs hzz hP hD hS => ?_)
      have hP : va_P D vwCl (xH cS x a r (nI (p_nx qi)) (nI (m_kc kc)) ++ (txW cI x (nI z) T ++ (stW cI a (up2 N 0 2 (nI (p_low (xs (3 * i + 2)) 201))) v ++ (rgW cI r (updN R (p_nx qi) N) u)))) H := hP
      have hD : va_D (va_A (xH cS x a r (nI qi) (nI kc) ++ (txW cI x (nI z) T ++ (stW cI a N v ++ (rgW cI r R u)))) s.heap.size) (xH cS x a r (nI (p_nx qi)) (nI (m_kc kc)) ++ (txW cI x (nI z) T ++ (stW cI a (up2 N 0 2 (nI (p_low (xs (3 * i + 2)) 201))) v ++ (rgW cI r (updN R (p_nx qi) N) u)))) := hD
      exact k_eMe (post := AP N n d qi kc R i (p_low (xs (3 * i)) 20) (p_hx (xs (3 * i + 1)) n) (4 + p_low (xs (3 * i + 2)) 21)) (Wf := fun y9 : AU => xH cS x a r (nI y9.1) (nI y9.2.1) ++ (txW cI x (nI z) T ++ (stW cI a y9.2.2.1 v ++ rgW cI r y9.2.2.2 u))) ((p_nx qi, m_kc kc, up2 N 0 2 (nI (p_low (xs (3 * i + 2)) 201)), updN R (p_nx qi) N)) hx hb hr hlocks (Nat.le_of_ble_eq_true rfl) (Nat.le_of_ble_eq_true rfl) (ap_set hLR (Or.inr hSv) (Or.inr (Or.inr ⟨rfl, lo_i0 _ (by decide) (by decide)⟩))) hP hS dL_act_327
    by_cases c44 : nI (p_low (xs (3 * i)) 20) = 16
    · refine lv_tableIn (off := 277) (tgt := 328) hx hb dL_act_51 (by rw [c44]; decide) (by rw [c44]; decide) (by rw [c44]; rfl) (by decide) ?_
      have hSv : p_low (xs (3 * i)) 20 = 16 := lo_eq (by decide) (by decide) (by decide) c44
      refine lv_aload_n hx hb dL_act_328 rfl (lv_at hl 4 rfl) ?_
      refine lv_iconst (v := 1) hx hb dL_act_329 (by decide) ?_
      refine lv_iload_n hx hb dL_act_330 rfl (lv_at hl 3 rfl) ?_
      refine lv_bipush (v := 40) hx hb dL_act_331 (by decide) ?_
      refine k_riS (As := [.int (xs (3 * i + 1)), .int (nI 40)]) (rest := [.int 1, .ref (x 0)]) (wc := []) ⟨hx, hb, hml, hown, hts⟩ (c_L_low l D cI cS cL _ (xs (3 * i + 1)) 40 (by omega) (by omega)) lkL_69 rfl rfl ⟨(Nat.le_of_ble_eq_true rfl), (Nat.le_of_ble_eq_true rfl)⟩ hK hE k_nilP (k_nilD (A := va_A (xH cS x a r (nI qi) (nI kc) ++ (txW cI x (nI z) T ++ (stW cI a N v ++ (rgW cI r R u)))) s.heap.size)) rfl hl.1 rfl (Nat.le_of_ble_eq_true rfl) dL_act_333 ⟨Nat.zero_le _, Nat.zero_le _⟩ ?_
      refine lv_iadd hx hb dL_act_336 (lv_topi (fun x45 e45 => ?_))
      have q45 : x45 = nI (1 + p_low (xs (3 * i + 1)) 40) := by rw [e45]; exact nI_add 1 _
      subst q45
      refine k_miV0 (As := [.int (nI (1 + p_low (xs (3 * i + 1)) 40))]) (rest := []) (wc := xH cS x a r (nI qi) (nI kc) ++ (txW cI x (nI z) T ++ (stW cI a N v ++ (rgW cI r R u)))) (wc' := xH cS x a r (nI (p_nx qi)) (nI (m_kc kc)) ++ (txW cI x (nI z) T ++ (stW cI a (p_days N n (1 + p_low (xs (3 * i + 1)) 40)) v ++ (rgW cI r (updN R (p_nx qi) N) u)))) ⟨hx, hb, hml, hown, hts⟩ (c_X4_pass_g l D cI cS cL x a r qi kc z T N v R u _ n hn hn14 (1 + p_low (xs (3 * i + 1)) 40) d (by omega) (by have := p_low_lt (xs (3 * i + 1)) (m := 40) (by decide); omega) hLR.1.1.1 hq hkc) lkL_91 rfl rfl ⟨(Nat.le_of_ble_eq_true rfl), (Nat.le_of_ble_eq_true rfl)⟩ (va_recv hK hP (ci := 3) (q0 := 0) rfl rfl) hK hE hP hD hS hA rfl rfl hl.1 rfl (Nat.le_of_ble_eq_true rfl) dL_act_337 ⟨Nat.zero_le _, Nat.zero_le _⟩ (fun H locs hzz hP hD hS => ?_)
      have hP : va_P D vwCl (xH cS x a r (nI (p_nx qi)) (nI (m_kc kc)) ++ (txW cI x (nI z) T ++ (stW cI a (p_days N n (1 + p_low (xs (3 * i + 1)) 40)) v ++ (rgW cI r (updN R (p_nx qi) N) u)))) H := hP
      have hD : va_D (va_A (xH cS x a r (nI qi) (nI kc) ++ (txW cI x (nI z) T ++ (stW cI a N v ++ (rgW cI r R u)))) s.heap.size) (xH cS x a r (nI (p_nx qi)) (nI (m_kc kc)) ++ (txW cI x (nI z) T ++ (stW cI a (p_days N n (1 + p_low (xs (3 * i + 1)) 40)) v ++ (rgW cI r (updN R (p_nx qi) N) u)))) := hD
      exact k_eMe (post := AP N n d qi kc R i (p_low (xs (3 * i)) 20) (p_hx (xs (3 * i + 1)) n) (4 + p_low (xs (3 * i + 2)) 21)) (Wf := fun y9 : AU => xH cS x a r (nI y9.1) (nI y9.2.1) ++ (txW cI x (nI z) T ++ (stW cI a y9.2.2.1 v ++ rgW cI r y9.2.2.2 u))) ((p_nx qi, m_kc kc, p_days N n (1 + p_low (xs (3 * i + 1)) 40), updN R (p_nx qi) N)) hx hb hr hlocks (Nat.le_of_ble_eq_true rfl) (Nat.le_of_ble_eq_true rfl) (ap_pass hLR hi (by omega) (by omega) (by have := p_low_lt (xs (3 * i + 1)) (m := 40) (by decide); omega)) hP hS dL_act_340
    by_cases c46 : nI (p_low (xs (3 * i)) 20) = 17
    · refine lv_tableIn (off := 277) (tgt := 328) hx hb dL_act_51 (by rw [c46]; decide) (by rw [c46]; decide) (by rw [c46]; rfl) (by decide) ?_
      have hSv : p_low (xs (3 * i)) 20 = 17 := lo_eq (by decide) (by decide) (by decide) c46
      refine lv_aload_n hx hb dL_act_328 rfl (lv_at hl 4 rfl) ?_
      refine lv_iconst (v := 1) hx hb dL_act_329 (by decide) ?_
      refine lv_iload_n hx hb dL_act_330 rfl (lv_at hl 3 rfl) ?_
      refine lv_bipush (v := 40) hx hb dL_act_331 (by decide) ?_
      refine k_riS (As := [.int (xs (3 * i + 1)), .int (nI 40)]) (rest := [.int 1, .ref (x 0)]) (wc := []) ⟨hx, hb, hml, hown, hts⟩ (c_L_low l D cI cS cL _ (xs (3 * i + 1)) 40 (by omega) (by omega)) lkL_69 rfl rfl ⟨(Nat.le_of_ble_eq_true rfl), (Nat.le_of_ble_eq_true rfl)⟩ hK hE k_nilP (k_nilD (A := va_A (xH cS x a r (nI qi) (nI kc) ++ (txW cI x (nI z) T ++ (stW cI a N v ++ (rgW cI r R u)))) s.heap.size)) rfl hl.1 rfl (Nat.le_of_ble_eq_true rfl) dL_act_333 ⟨Nat.zero_le _, Nat.zero_le _⟩ ?_
      refine lv_iadd hx hb dL_act_336 (lv_topi (fun x47 e47 => ?_))
      have q47 : x47 = nI (1 + p_low (xs (3 * i + 1)) 40) := by rw [e47]; exact nI_add 1 _
      subst q47
      refine k_miV0 (As := [.int (nI (1 + p_low (xs (3 * i + 1)) 40))]) (rest := []) (wc := xH cS x a r (nI qi) (nI kc) ++ (txW cI x (nI z) T ++ (stW cI a N v ++ (rgW cI r R u)))) (wc' := xH cS x a r (nI (p_nx qi)) (nI (m_kc kc)) ++ (txW cI x (nI z) T ++ (stW cI a (p_days N n (1 + p_low (xs (3 * i + 1)) 40)) v ++ (rgW cI r (updN R (p_nx qi) N) u)))) ⟨hx, hb, hml, hown, hts⟩ (c_X4_pass_g l D cI cS cL x a r qi kc z T N v R u _ n hn hn14 (1 + p_low (xs (3 * i + 1)) 40) d (by omega) (by have := p_low_lt (xs (3 * i + 1)) (m := 40) (by decide); omega) hLR.1.1.1 hq hkc) lkL_91 rfl rfl ⟨(Nat.le_of_ble_eq_true rfl), (Nat.le_of_ble_eq_true rfl)⟩ (va_recv hK hP (ci := 3) (q0 := 0) rfl rfl) hK hE hP hD hS hA rfl rfl hl.1 rfl (Nat.le_of_ble_eq_true rfl) dL_act_337 ⟨Nat.zero_le _, Nat.zero_le _⟩ (fun H locs hzz hP hD hS => ?_)
      have hP : va_P D vwCl (xH cS x a r (nI (p_nx qi)) (nI (m_kc kc)) ++ (txW cI x (nI z) T ++ (stW cI a (p_days N n (1 + p_low (xs (3 * i + 1)) 40)) v ++ (rgW cI r (updN R (p_nx qi) N) u)))) H := hP
      have hD : va_D (va_A (xH cS x a r (nI qi) (nI kc) ++ (txW cI x (nI z) T ++ (stW cI a N v ++ (rgW cI r R u)))) s.heap.size) (xH cS x a r (nI (p_nx qi)) (nI (m_kc kc)) ++ (txW cI x (nI z) T ++ (stW cI a (p_days N n (1 + p_low (xs (3 * i + 1)) 40)) v ++ (rgW cI r (updN R (p_nx qi) N) u)))) := hD
      exact k_eMe (post := AP N n d qi kc R i (p_low (xs (3 * i)) 20) (p_hx (xs (3 * i + 1)) n) (4 + p_low (xs (3 * i + 2)) 21)) (Wf := fun y9 : AU => xH cS x a r (nI y9.1) (nI y9.2.1) ++ (txW cI x (nI z) T ++ (stW cI a y9.2.2.1 v ++ rgW cI r y9.2.2.2 u))) ((p_nx qi, m_kc kc, p_days N n (1 + p_low (xs (3 * i + 1)) 40), updN R (p_nx qi) N)) hx hb hr hlocks (Nat.le_of_ble_eq_true rfl) (Nat.le_of_ble_eq_true rfl) (ap_pass hLR hi (by omega) (by omega) (by have := p_low_lt (xs (3 * i + 1)) (m := 40) (by decide); omega)) hP hS dL_act_340
    by_cases c48 : nI (p_low (xs (3 * i)) 20) = 18
    · refine lv_tableIn (off := 277) (tgt := 328) hx hb dL_act_51 (by rw [c48]; decide) (by rw [c48]; decide) (by rw [c48]; rfl) (by decide) ?_
      have hSv : p_low (xs (3 * i)) 20 = 18 := lo_eq (by decide) (by decide) (by decide) c48
      refine lv_aload_n hx hb dL_act_328 rfl (lv_at hl 4 rfl) ?_
      refine lv_iconst (v := 1) hx hb dL_act_329 (by decide) ?_
      refine lv_iload_n hx hb dL_act_330 rfl (lv_at hl 3 rfl) ?_
      refine lv_bipush (v := 40) hx hb dL_act_331 (by decide) ?_
      refine k_riS (As := [.int (xs (3 * i + 1)), .int (nI 40)]) (rest := [.int 1, .ref (x 0)]) (wc := []) ⟨hx, hb, hml, hown, hts⟩ (c_L_low l D cI cS cL _ (xs (3 * i + 1)) 40 (by omega) (by omega)) lkL_69 rfl rfl ⟨(Nat.le_of_ble_eq_true rfl), (Nat.le_of_ble_eq_true rfl)⟩ hK hE k_nilP (k_nilD (A := va_A (xH cS x a r (nI qi) (nI kc) ++ (txW cI x (nI z) T ++ (stW cI a N v ++ (rgW cI r R u)))) s.heap.size)) rfl hl.1 rfl (Nat.le_of_ble_eq_true rfl) dL_act_333 ⟨Nat.zero_le _, Nat.zero_le _⟩ ?_
      refine lv_iadd hx hb dL_act_336 (lv_topi (fun x49 e49 => ?_))
      have q49 : x49 = nI (1 + p_low (xs (3 * i + 1)) 40) := by rw [e49]; exact nI_add 1 _
      subst q49
      refine k_miV0 (As := [.int (nI (1 + p_low (xs (3 * i + 1)) 40))]) (rest := []) (wc := xH cS x a r (nI qi) (nI kc) ++ (txW cI x (nI z) T ++ (stW cI a N v ++ (rgW cI r R u)))) (wc' := xH cS x a r (nI (p_nx qi)) (nI (m_kc kc)) ++ (txW cI x (nI z) T ++ (stW cI a (p_days N n (1 + p_low (xs (3 * i + 1)) 40)) v ++ (rgW cI r (updN R (p_nx qi) N) u)))) ⟨hx, hb, hml, hown, hts⟩ (c_X4_pass_g l D cI cS cL x a r qi kc z T N v R u _ n hn hn14 (1 + p_low (xs (3 * i + 1)) 40) d (by omega) (by have := p_low_lt (xs (3 * i + 1)) (m := 40) (by decide); omega) hLR.1.1.1 hq hkc) lkL_91 rfl rfl ⟨(Nat.le_of_ble_eq_true rfl), (Nat.le_of_ble_eq_true rfl)⟩ (va_recv hK hP (ci := 3) (q0 := 0) rfl rfl) hK hE hP hD hS hA rfl rfl hl.1 rfl (Nat.le_of_ble_eq_true rfl) dL_act_337 ⟨Nat.zero_le _, Nat.zero_le _⟩ (fun H locs hzz hP hD hS => ?_)
      have hP : va_P D vwCl (xH cS x a r (nI (p_nx qi)) (nI (m_kc kc)) ++ (txW cI x (nI z) T ++ (stW cI a (p_days N n (1 + p_low (xs (3 * i + 1)) 40)) v ++ (rgW cI r (updN R (p_nx qi) N) u)))) H := hP
      have hD : va_D (va_A (xH cS x a r (nI qi) (nI kc) ++ (txW cI x (nI z) T ++ (stW cI a N v ++ (rgW cI r R u)))) s.heap.size) (xH cS x a r (nI (p_nx qi)) (nI (m_kc kc)) ++ (txW cI x (nI z) T ++ (stW cI a (p_days N n (1 + p_low (xs (3 * i + 1)) 40)) v ++ (rgW cI r (updN R (p_nx qi) N) u)))) := hD
      exact k_eMe (post := AP N n d qi kc R i (p_low (xs (3 * i)) 20) (p_hx (xs (3 * i + 1)) n) (4 + p_low (xs (3 * i + 2)) 21)) (Wf := fun y9 : AU => xH cS x a r (nI y9.1) (nI y9.2.1) ++ (txW cI x (nI z) T ++ (stW cI a y9.2.2.1 v ++ rgW cI r y9.2.2.2 u))) ((p_nx qi, m_kc kc, p_days N n (1 + p_low (xs (3 * i + 1)) 40), updN R (p_nx qi) N)) hx hb hr hlocks (Nat.le_of_ble_eq_true rfl) (Nat.le_of_ble_eq_true rfl) (ap_pass hLR hi (by omega) (by omega) (by have := p_low_lt (xs (3 * i + 1)) (m := 40) (by decide); omega)) hP hS dL_act_340
    refine lv_tableOut (tgt := 341) hx hb dL_act_51 (by have z0 := i32_ne (b := 0) (z := 0) (by decide) c4; have z1 := i32_ne (b := 1) (z := 1) (by decide) c7; have z2 := i32_ne (b := 2) (z := 2) (by decide) c10; have z3 := i32_ne (b := 3) (z := 3) (by decide) c13; have z4 := i32_ne (b := 4) (z := 4) (by decide) c16; have z5 := i32_ne (b := 5) (z := 5) (by decide) c18; have z6 := i32_ne (b := 6) (z := 6) (by decide) c20; have z7 := i32_ne (b := 7) (z := 7) (by decide) c22; have z8 := i32_ne (b := 8) (z := 8) (by decide) c24; have z9 := i32_ne (b := 9) (z := 9) (by decide) c27; have z10 := i32_ne (b := 10) (z := 10) (by decide) c30; have z11 := i32_ne (b := 11) (z := 11) (by decide) c33; have z12 := i32_ne (b := 12) (z := 12) (by decide) c36; have z13 := i32_ne (b := 13) (z := 13) (by decide) c39; have z14 := i32_ne (b := 14) (z := 14) (by decide) c40; have z15 := i32_ne (b := 15) (z := 15) (by decide) c43; have z16 := i32_ne (b := 16) (z := 16) (by decide) c44; have z17 := i32_ne (b := 17) (z := 17) (by decide) c46; have z18 := i32_ne (b := 18) (z := 18) (by decide) c48; omega) (by decide) ?_
    have hSv : 18 < p_low (xs (3 * i)) 20 := by
      rcases Nat.lt_or_ge 18 (p_low (xs (3 * i)) 20) with q | q
      · exact q
      · exfalso
        rcases (show p_low (xs (3 * i)) 20 = 0 ∨ p_low (xs (3 * i)) 20 = 1 ∨ p_low (xs (3 * i)) 20 = 2 ∨ p_low (xs (3 * i)) 20 = 3 ∨ p_low (xs (3 * i)) 20 = 4 ∨ p_low (xs (3 * i)) 20 = 5 ∨ p_low (xs (3 * i)) 20 = 6 ∨ p_low (xs (3 * i)) 20 = 7 ∨ p_low (xs (3 * i)) 20 = 8 ∨ p_low (xs (3 * i)) 20 = 9 ∨ p_low (xs (3 * i)) 20 = 10 ∨ p_low (xs (3 * i)) 20 = 11 ∨ p_low (xs (3 * i)) 20 = 12 ∨ p_low (xs (3 * i)) 20 = 13 ∨ p_low (xs (3 * i)) 20 = 14 ∨ p_low (xs (3 * i)) 20 = 15 ∨ p_low (xs (3 * i)) 20 = 16 ∨ p_low (xs (3 * i)) 20 = 17 ∨ p_low (xs (3 * i)) 20 = 18 by omega) with q | q | q | q | q | q | q | q | q | q | q | q | q | q | q | q | q | q | q
        · exact c4 (by rw [q]; rfl)
        · exact c7 (by rw [q]; rfl)
        · exact c10 (by rw [q]; rfl)
        · exact c13 (by rw [q]; rfl)
        · exact c16 (by rw [q]; rfl)
        · exact c18 (by rw [q]; rfl)
        · exact c20 (by rw [q]; rfl)
        · exact c22 (by rw [q]; rfl)
        · exact c24 (by rw [q]; rfl)
        · exact c27 (by rw [q]; rfl)
        · exact c30 (by rw [q]; rfl)
        · exact c33 (by rw [q]; rfl)
        · exact c36 (by rw [q]; rfl)
        · exact c39 (by rw [q]; rfl)
        · exact c40 (by rw [q]; rfl)
        · exact c43 (by rw [q]; rfl)
        · exact c44 (by rw [q]; rfl)
        · exact c46 (by rw [q]; rfl)
        · exact c48 (by rw [q]; rfl)
    refine lv_aload_n hx hb dL_act_341 rfl (lv_at hl 4 rfl) ?_
    refine k_ecW (post := kUndo qi kc N R) (Wf := fun y9 : AU => xH cS x a r (nI y9.1) (nI y9.2.1) ++ (txW cI x (nI z) T ++ (stW cI a y9.2.2.1 v ++ rgW cI r y9.2.2.2 u))) (As := [.ref (x 0)]) (rest := []) hA hT (fun U hU hW => kEt_at hT va_S.rf hU hW) ⟨hx, hb, hml, hown, hts⟩ (c_L_undo l hfl D cI cS cL x a r qi kc z T N v R u _ n hn hn14 hq hkc) lkL_94 rfl rfl ⟨(Nat.le_of_ble_eq_true rfl), (Nat.le_of_ble_eq_true rfl)⟩ hK hE hP hD hS (fun _ => rfl) rfl hl.1 rfl (Nat.le_of_ble_eq_true rfl) dL_act_342 ⟨(Nat.le_of_ble_eq_true rfl), (Nat.le_of_ble_eq_true rfl)⟩ (fun t9 y9 H locs hzz hpost hP hD hS => ?_)
    exact k_eMe (post := AP N n d qi kc R i (p_low (xs (3 * i)) 20) (p_hx (xs (3 * i + 1)) n) (4 + p_low (xs (3 * i + 2)) 21)) (Wf := fun y9 : AU => xH cS x a r (nI y9.1) (nI y9.2.1) ++ (txW cI x (nI z) T ++ (stW cI a y9.2.2.1 v ++ rgW cI r y9.2.2.2 u))) (y9) hx hb hr hlocks (Nat.le_of_ble_eq_true rfl) (Nat.le_of_ble_eq_true rfl) (ap_undo hLR hSv hpost) hP hS dL_act_345
  refine lv_if_ne (tgt := 33) hx hb dL_act_26 (by decide) (fun c50 => ?_) (fun c50 => ?_)
  · have hn0 : ¬ n = 0 := fun q => c50 (by rw [q]; rfl)
    refine lv_iload_n hx hb dL_act_33 rfl (lv_at hl 2 rfl) ?_
    refine lv_iload hx hb dL_act_34 (lv_at hl 0 rfl) ?_
    refine k_riS (As := [.int (xs (3 * i + 1)), .int (nI n)]) (rest := []) (wc := []) ⟨hx, hb, hml, hown, hts⟩ (c_L_low l D cI cS cL _ (xs (3 * i + 1)) n (by omega) (by omega)) lkL_69 rfl rfl ⟨(Nat.le_of_ble_eq_true rfl), (Nat.le_of_ble_eq_true rfl)⟩ hK hE k_nilP (k_nilD (A := va_A (xH cS x a r (nI qi) (nI kc) ++ (txW cI x (nI z) T ++ (stW cI a N v ++ (rgW cI r R u)))) s.heap.size)) rfl hl.1 rfl (Nat.le_of_ble_eq_true rfl) dL_act_36 ⟨Nat.zero_le _, Nat.zero_le _⟩ ?_
    exact J3 _ (by rw [p_hx, if_neg hn0])
  · have hn0 : n = 0 := (nI_eq (a := n) (b := 0) (by omega) (by decide)).mp c50
    refine lv_iconst (v := 0) hx hb dL_act_29 (by decide) ?_
    refine lv_goto (tgt := 39) hx hb dL_act_30 (by decide) ?_
    exact J3 _ (by rw [p_hx, if_pos hn0]; rfl)
