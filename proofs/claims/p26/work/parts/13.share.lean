abbrev rmX4_readyShare : Room := { frames := 4, cells := 0, slots := 0, locals := 85 }
set_option maxHeartbeats 4000000 in
set_option maxRecDepth 100000 in
theorem c_X4_readyShare (l : Launch) (D : va_G) (cI cS cL : ClassId) (x a : Nat → Nat) (r : Nat → Nat → Nat) (lat cnt z : Int32) (T : Nat → Int32) (N : NN) (v : Nat → Int32) (sz : Nat) (n : Nat) (hn : N 1 2 = nI n) (hn14 : n ≤ 14) : Met l yX4_readyShare (wy_ yX4_readyShare cX4_readyShare 2 (some .double)) rmX4_readyShare (kPc D (kTy cI cS cL) (xH cS x a r lat cnt ++ (txW cI x z T ++ (stW cI a N v))) sz [.ref (x 0)]) (kRd (p_share N n)) 0 0 noF := by
  refine k_ofW (by decide) (Nat.le_of_ble_eq_true rfl) ?_
  intro p e s m args below meth c hx hb hr hml hts hown hlocks hnm hsz hP hK hD hE ls hl
  subst hsz
  have hl : lv_has ls 2 [(0, .ref (x 0))] := hl
  refine lv_aload_n hx hb dX4_readyShare_0 rfl (lv_at hl 0 rfl) ?_
  refine g4 hx hb hts hown hK hP 0 rfl 0 (by decide) flX4_10 (fun _ h => h) (v := .ref (a 0)) rfl dX4_readyShare_1 ?_
  refine g3 hx hb hts hown hK hP 4 rfl 2 (by decide) flX4_216 (fun _ h => h) (v := .int (nI n)) (by rw [← hn]; rfl) dX4_readyShare_4 ?_
  refine lv_aload_n hx hb dX4_readyShare_7 rfl (lv_at hl 0 rfl) ?_
  refine g4 hx hb hts hown hK hP 0 rfl 0 (by decide) flX4_10 (fun _ h => h) (v := .ref (a 0)) rfl dX4_readyShare_8 ?_
  refine lv_iconst (v := (-1)) hx hb dX4_readyShare_11 (by decide) ?_
  refine k_riV (As := [.int (-1)]) (rest := [.int (nI n)]) (wc := stW cI a N v) ⟨hx, hb, hml, hown, hts⟩ (c_X3_hosesAt l D cI cS cL a N v _ n (-1) hn hn14) lkX4_199 rfl rfl ⟨(Nat.le_of_ble_eq_true rfl), (Nat.le_of_ble_eq_true rfl)⟩ (va_recv hK hP (ci := 2) (q0 := 4) rfl rfl) hK hE (va_P_midL (w1 := xH cS x a r lat cnt ++ (txW cI x z T)) (wc := stW cI a N v) (w3 := []) hP) (va_D_midL (w1 := xH cS x a r lat cnt ++ (txW cI x z T)) (wc := stW cI a N v) (w3 := []) hD) rfl hl.1 rfl (Nat.le_of_ble_eq_true rfl) dX4_readyShare_12 ⟨Nat.zero_le _, Nat.zero_le _⟩ ?_
  refine lv_isub hx hb dX4_readyShare_15 (lv_topi (fun x1 e1 => ?_))
  have q1 : x1 = nI n - p_at N (-1) n := by rw [e1]; skip
  subst q1
  refine lv_istore_n (lv' := [(1, .int (nI n - p_at N (-1) n)), (0, .ref (x 0))]) hx hb dX4_readyShare_16 rfl hl (by decide) rfl (fun ls hl => ?_)
  refine lv_iload_n hx hb dX4_readyShare_17 rfl (lv_at hl 0 rfl) ?_
  refine lv_if_gt (tgt := 23) hx hb dX4_readyShare_18 (by decide) (fun c2 => ?_) (fun c2 => ?_)
  · have c2' := Int32.not_le.mpr c2
    have hne : ¬ nI n - p_at N (-1) n = 0 := fun h => absurd (h ▸ c2 : (0 : Int32) < 0) (by decide)
    refine lv_aload_n hx hb dX4_readyShare_23 rfl (lv_at hl 1 rfl) ?_
    refine g4 hx hb hts hown hK hP 0 rfl 0 (by decide) flX4_10 (fun _ h => h) (v := .ref (a 0)) rfl dX4_readyShare_24 ?_
    refine k_riV (As := []) (rest := []) (wc := stW cI a N v) ⟨hx, hb, hml, hown, hts⟩ (c_X3_readyHoses l D cI cS cL a N v _ n hn hn14) lkX4_219 rfl rfl ⟨(Nat.le_of_ble_eq_true rfl), (Nat.le_of_ble_eq_true rfl)⟩ (va_recv hK hP (ci := 2) (q0 := 4) rfl rfl) hK hE (va_P_midL (w1 := xH cS x a r lat cnt ++ (txW cI x z T)) (wc := stW cI a N v) (w3 := []) hP) (va_D_midL (w1 := xH cS x a r lat cnt ++ (txW cI x z T)) (wc := stW cI a N v) (w3 := []) hD) rfl hl.1 rfl (Nat.le_of_ble_eq_true rfl) dX4_readyShare_27 ⟨Nat.zero_le _, Nat.zero_le _⟩ ?_
    refine lv_i2d hx hb dX4_readyShare_30 ?_
    refine lv_iload_n hx hb dX4_readyShare_31 rfl (lv_at hl 0 rfl) ?_
    refine lv_i2d hx hb dX4_readyShare_32 ?_
    refine lv_ddiv hx hb dX4_readyShare_33 (sh_fin hn14 hne) ?_
    exact k_eRd hx hb hr hlocks (by exact (if_neg hne).symm) dX4_readyShare_34
  · have c2' := Int32.not_lt.mp c2
    have heq := sh_zero hn14 c2
    refine lv_dconst1 hx hb dX4_readyShare_21 ?_
    exact k_eRd hx hb hr hlocks (by exact (if_pos heq).symm) dX4_readyShare_22
