abbrev rmX5_renew : Room := { frames := 2, cells := 0, slots := 0, locals := 46 }
set_option maxHeartbeats 4000000 in
set_option maxRecDepth 100000 in
theorem c_X5_renew (l : Launch) (D : va_G) (cI cS cL : ClassId) (a : Nat → Nat) (N : NN) (P T U v : Nat → Int32) (sz : Nat) (n kc : Nat) (x : Int32) (hn : N 1 2 = nI n) (hn14 : n ≤ 14) (hc : v 2 = nI kc) (hc6 : kc ≤ 6) (hkds : ∀ j, j < n → kdOk (N 3 j)) : Met l yX5_renew (wy_ yX5_renew cX5_renew 3 (some .int)) rmX5_renew (kPc D (kTy cI cS cL) (mdW cI a N P T U v) sz [.ref (a 0), .int x]) (kMi D (mdW cI a N P T U v) (mdW cI a (sN (rc_renew N x) N (p_renew N n (kx x))) (sP (rc_renew N x) P (flat N) kc) T U (us (us v 2 (sK (rc_renew N x) kc)) 5 (rc_renew N x))) sz (sR (rc_renew N x) (nI n))) 0 0 (va_A (mdW cI a N P T U v) sz) := by
  refine k_ofW (by decide) (Nat.le_of_ble_eq_true rfl) ?_
  intro p e s m args below meth c hx hb hr hml hts hown hlocks hnm hsz hP hK hD hE ls hl
  subst hsz
  have hA : ∀ q : Nat, s.heap.size ≤ q → (va_A (mdW cI a N P T U v) s.heap.size) q := fun q h => Or.inr h
  have hS : va_S (va_A (mdW cI a N P T U v) s.heap.size) s.heap s.heap [] := va_S.rf
  have hl : lv_has ls 3 [(0, .ref (a 0)), (1, .int x)] := hl
  refine lv_aload_n hx hb dX5_renew_0 rfl (lv_at hl 0 rfl) ?_
  refine lv_iconst (v := 0) hx hb dX5_renew_1 (by decide) ?_
  refine f5 hx hb hts hown hK hP hD hS 0 rfl 5 (by decide) flX5_22 (fun _ h => h) rfl rfl rfl (Nat.le_of_ble_eq_true rfl) dX5_renew_2 (fun H locs hP hD hS => ?_)
  have hP : va_P D vwCl (mdW cI a N P T U (us v 5 0)) H := hP
  have hD : va_D (va_A (mdW cI a N P T U v) s.heap.size) (mdW cI a N P T U (us v 5 0)) := hD
  refine lv_aload_n hx hb dX5_renew_5 rfl (lv_at hl 0 rfl) ?_
  refine lv_iload_n hx hb dX5_renew_6 rfl (lv_at hl 1 rfl) ?_
  refine k_riV (As := [.int x]) (rest := []) (wc := mdW cI a N P T U (us v 5 0)) ⟨hx, hb, hml, hown, hts⟩ (c_X5_isHose l D cI cS cL a N P T U (us v 5 0) _ x) lkX5_84 rfl rfl ⟨(Nat.le_of_ble_eq_true rfl), (Nat.le_of_ble_eq_true rfl)⟩ (va_recv hK hP (ci := 4) (q0 := 0) rfl rfl) hK hE hP hD rfl hl.1 rfl (Nat.le_of_ble_eq_true rfl) dX5_renew_7 ⟨Nat.zero_le _, Nat.zero_le _⟩ ?_
  refine lv_if_ne (tgt := 19) hx hb dX5_renew_10 (by decide) (fun c1 => ?_) (fun c1 => ?_)
  · have c1 := bI_ne0 c1
    have hxx := c1
    obtain ⟨k, hkn, hxk⟩ := p_isH hn hn14 (c1).1 (c1).2
    subst hxk
    have hcl : kx (nI k) = k := kx_nI (by omega)
    refine lv_aload_n hx hb dX5_renew_19 rfl (lv_at hl 0 rfl) ?_
    refine lv_iload_n hx hb dX5_renew_20 rfl (lv_at hl 1 rfl) ?_
    refine k_riV (As := [.int (nI k)]) (rest := []) (wc := mdW cI a N P T U (us v 5 0)) ⟨hx, hb, hml, hown, hts⟩ (c_X5_isHere l D cI cS cL a N P T U (us v 5 0) _ k (by omega)) lkX5_87 rfl rfl ⟨(Nat.le_of_ble_eq_true rfl), (Nat.le_of_ble_eq_true rfl)⟩ (va_recv hK hP (ci := 4) (q0 := 0) rfl rfl) hK hE hP hD rfl hl.1 rfl (Nat.le_of_ble_eq_true rfl) dX5_renew_21 ⟨Nat.zero_le _, Nat.zero_le _⟩ ?_
    refine lv_if_eq (tgt := 46) hx hb dX5_renew_24 (by decide) (fun c2 => ?_) (fun c2 => ?_)
    · have c2 := bI_eq0 c2
      have hhe : here N k = false := decide_eq_false c2
      have hrc : rc_renew N (nI k) = 2 := by simp [rc_renew, hxx, hcl, c2, hhe]
      refine lv_aload_n hx hb dX5_renew_46 rfl (lv_at hl 0 rfl) ?_
      refine lv_iconst (v := 2) hx hb dX5_renew_47 (by decide) ?_
      refine k_miV (As := [.int 2]) (rest := []) (w1 := []) (wc := mdW cI a N P T U (us v 5 0)) (wc' := mdW cI a N P T U (us v 5 2)) (w3 := []) ⟨hx, hb, hml, hown, hts⟩ (c_X5_fails l D cI cS cL a N P T U (us v 5 0) _ 2) lkX5_33 rfl rfl ⟨(Nat.le_of_ble_eq_true rfl), (Nat.le_of_ble_eq_true rfl)⟩ (va_recv hK hP (ci := 4) (q0 := 0) rfl rfl) hK hE hP hD hS hA rfl rfl hl.1 rfl (Nat.le_of_ble_eq_true rfl) dX5_renew_48 ⟨Nat.zero_le _, Nat.zero_le _⟩ (fun H locs hzz hP hD hS => ?_)
      have hP : va_P D vwCl (mdW cI a N P T U (us v 5 2)) H := hP
      have hD : va_D (va_A (mdW cI a N P T U v) s.heap.size) (mdW cI a N P T U (us v 5 2)) := hD
      have w3 : N = (sN (rc_renew N (nI k)) N (p_renew N n (kx (nI k)))) := by rw [hrc]; first | done | rfl | (simp only [hcl]; first | done | rfl)
      have hP : va_P D vwCl (mdW cI a (sN (rc_renew N (nI k)) N (p_renew N n (kx (nI k)))) P T U (us v 5 2)) H := (congrArg (fun zz => va_P D vwCl (mdW cI a zz P T U (us v 5 2)) H) w3).mp hP
      have hD : va_D (va_A (mdW cI a N P T U v) s.heap.size) (mdW cI a (sN (rc_renew N (nI k)) N (p_renew N n (kx (nI k)))) P T U (us v 5 2)) := (congrArg (fun zz => va_D (va_A (mdW cI a N P T U v) s.heap.size) (mdW cI a zz P T U (us v 5 2))) w3).mp hD
      have w4 : P = (sP (rc_renew N (nI k)) P (flat N) kc) := by rw [hrc]; first | done | rfl | (simp only [hcl]; first | done | rfl)
      have hP : va_P D vwCl (mdW cI a (sN (rc_renew N (nI k)) N (p_renew N n (kx (nI k)))) (sP (rc_renew N (nI k)) P (flat N) kc) T U (us v 5 2)) H := (congrArg (fun zz => va_P D vwCl (mdW cI a (sN (rc_renew N (nI k)) N (p_renew N n (kx (nI k)))) zz T U (us v 5 2)) H) w4).mp hP
      have hD : va_D (va_A (mdW cI a N P T U v) s.heap.size) (mdW cI a (sN (rc_renew N (nI k)) N (p_renew N n (kx (nI k)))) (sP (rc_renew N (nI k)) P (flat N) kc) T U (us v 5 2)) := (congrArg (fun zz => va_D (va_A (mdW cI a N P T U v) s.heap.size) (mdW cI a (sN (rc_renew N (nI k)) N (p_renew N n (kx (nI k)))) zz T U (us v 5 2))) w4).mp hD
      have w5 : (us v 5 2) = (us (us v 2 (sK (rc_renew N (nI k)) kc)) 5 (rc_renew N (nI k))) := by rw [hrc, show sK 2 kc = v 2 from hc.symm, us_v]; first | done | rfl
      have hP : va_P D vwCl (mdW cI a (sN (rc_renew N (nI k)) N (p_renew N n (kx (nI k)))) (sP (rc_renew N (nI k)) P (flat N) kc) T U (us (us v 2 (sK (rc_renew N (nI k)) kc)) 5 (rc_renew N (nI k)))) H := (congrArg (fun zz => va_P D vwCl (mdW cI a (sN (rc_renew N (nI k)) N (p_renew N n (kx (nI k)))) (sP (rc_renew N (nI k)) P (flat N) kc) T U zz) H) w5).mp hP
      have hD : va_D (va_A (mdW cI a N P T U v) s.heap.size) (mdW cI a (sN (rc_renew N (nI k)) N (p_renew N n (kx (nI k)))) (sP (rc_renew N (nI k)) P (flat N) kc) T U (us (us v 2 (sK (rc_renew N (nI k)) kc)) 5 (rc_renew N (nI k)))) := (congrArg (fun zz => va_D (va_A (mdW cI a N P T U v) s.heap.size) (mdW cI a (sN (rc_renew N (nI k)) N (p_renew N n (kx (nI k)))) (sP (rc_renew N (nI k)) P (flat N) kc) T U zz)) w5).mp hD
      have hP : va_P D vwCl (mdW cI a (sN (rc_renew N (nI k)) N (p_renew N n (kx (nI k)))) (sP (rc_renew N (nI k)) P (flat N) kc) T U (us (us v 2 (sK (rc_renew N (nI k)) kc)) 5 (rc_renew N (nI k)))) H := hP
      have hD : va_D (va_A (mdW cI a N P T U v) s.heap.size) (mdW cI a (sN (rc_renew N (nI k)) N (p_renew N n (kx (nI k)))) (sP (rc_renew N (nI k)) P (flat N) kc) T U (us (us v 2 (sK (rc_renew N (nI k)) kc)) 5 (rc_renew N (nI k)))) := hD
      exact k_eMi hx hb hr hlocks hP hS (by rw [hrc]; first | done | rfl | (simp only [hcl]; first | done | rfl)) dX5_renew_51
    · have c2 := bI_ne0 c2
      have hhe : here N k = true := decide_eq_true c2
      refine lv_aload_n hx hb dX5_renew_27 rfl (lv_at hl 0 rfl) ?_
      refine lv_aload_n hx hb dX5_renew_28 rfl (lv_at hl 0 rfl) ?_
      refine lv_iload_n hx hb dX5_renew_29 rfl (lv_at hl 1 rfl) ?_
      refine lv_iconst (v := 0) hx hb dX5_renew_30 (by decide) ?_
      refine k_riV (As := [.int (nI k), .int (nI 0)]) (rest := [.ref (a 0)]) (wc := mdW cI a N P T U (us v 5 0)) ⟨hx, hb, hml, hown, hts⟩ (c_X5_of l D cI cS cL a N P T U (us v 5 0) _ k 0 3 (by omega) (by decide) rfl) lkX5_37 rfl rfl ⟨(Nat.le_of_ble_eq_true rfl), (Nat.le_of_ble_eq_true rfl)⟩ (va_recv hK hP (ci := 4) (q0 := 0) rfl rfl) hK hE hP hD rfl hl.1 rfl (Nat.le_of_ble_eq_true rfl) dX5_renew_31 ⟨Nat.zero_le _, Nat.zero_le _⟩ ?_
      refine lv_aload_n hx hb dX5_renew_34 rfl (lv_at hl 0 rfl) ?_
      refine lv_iload_n hx hb dX5_renew_35 rfl (lv_at hl 1 rfl) ?_
      refine lv_iconst (v := 1) hx hb dX5_renew_36 (by decide) ?_
      refine k_riV (As := [.int (nI k), .int (nI 1)]) (rest := [.int (N 3 k), .ref (a 0)]) (wc := mdW cI a N P T U (us v 5 0)) ⟨hx, hb, hml, hown, hts⟩ (c_X5_of l D cI cS cL a N P T U (us v 5 0) _ k 1 4 (by omega) (by decide) rfl) lkX5_37 rfl rfl ⟨(Nat.le_of_ble_eq_true rfl), (Nat.le_of_ble_eq_true rfl)⟩ (va_recv hK hP (ci := 4) (q0 := 0) rfl rfl) hK hE hP hD rfl hl.1 rfl (Nat.le_of_ble_eq_true rfl) dX5_renew_37 ⟨Nat.zero_le _, Nat.zero_le _⟩ ?_
      refine k_riV (As := [.int (N 3 k), .int (N 4 k)]) (rest := []) (wc := mdW cI a N P T U (us v 5 0)) ⟨hx, hb, hml, hown, hts⟩ (c_X5_mayBuy l D cI cS cL a N P T U (us v 5 0) _ (N 3 k) (N 4 k) (hkds k hkn)) lkX5_73 rfl rfl ⟨(Nat.le_of_ble_eq_true rfl), (Nat.le_of_ble_eq_true rfl)⟩ (va_recv hK hP (ci := 4) (q0 := 0) rfl rfl) hK hE hP hD rfl hl.1 rfl (Nat.le_of_ble_eq_true rfl) dX5_renew_40 ⟨Nat.zero_le _, Nat.zero_le _⟩ ?_
      refine lv_if_ne (tgt := 52) hx hb dX5_renew_43 (by decide) (fun c6 => ?_) (fun c6 => ?_)
      · have c6 := bI_neT c6
        have hcan := c6
        have h14 : n < 14 := p_can_lt hn hn14 hcan
        have hrc : rc_renew N (nI k) = 0 := by simp [rc_renew, hxx, hcl, c2, hhe, c6, hcan, h14]
        refine lv_aload_n hx hb dX5_renew_52 rfl (lv_at hl 0 rfl) ?_
        refine k_mvV (As := []) (rest := []) (w1 := []) (wc := mdW cI a N P T U (us v 5 0)) (wc' := mdW cI a N (m_sv P (flat N) kc) T U (us (us v 2 (nI (m_kc kc))) 5 0)) (w3 := []) ⟨hx, hb, hml, hown, hts⟩ (c_X5_saves l D cI cS cL a N P T U (us v 5 0) _ kc hc (by omega)) lkX5_77 rfl rfl ⟨(Nat.le_of_ble_eq_true rfl), (Nat.le_of_ble_eq_true rfl)⟩ (va_recv hK hP (ci := 4) (q0 := 0) rfl rfl) hK hE hP hD hS hA rfl rfl hl.1 rfl (Nat.le_of_ble_eq_true rfl) dX5_renew_53 ⟨Nat.zero_le _, Nat.zero_le _⟩ (fun H locs hzz hP hD hS => ?_)
        have hP : va_P D vwCl (mdW cI a N (m_sv P (flat N) kc) T U (us (us v 2 (nI (m_kc kc))) 5 0)) H := hP
        have hD : va_D (va_A (mdW cI a N P T U v) s.heap.size) (mdW cI a N (m_sv P (flat N) kc) T U (us (us v 2 (nI (m_kc kc))) 5 0)) := hD
        refine lv_aload_n hx hb dX5_renew_56 rfl (lv_at hl 0 rfl) ?_
        refine lv_bipush (v := 12) hx hb dX5_renew_57 (by decide) ?_
        refine lv_bipush (v := 8) hx hb dX5_renew_59 (by decide) ?_
        refine lv_iload_n hx hb dX5_renew_61 rfl (lv_at hl 1 rfl) ?_
        refine lv_imul hx hb dX5_renew_62 (lv_topi (fun x7 e7 => ?_))
        have q7 : x7 = nI (8 * k) := by rw [e7]; exact pk_mul 8 k
        subst q7
        refine lv_iadd hx hb dX5_renew_63 (lv_topi (fun x8 e8 => ?_))
        have q8 : x8 = nI (12 + 8 * k) := by rw [e8]; exact nI_add 12 (8 * k)
        subst q8
        refine lv_bipush (v := 6) hx hb dX5_renew_64 (by decide) ?_
        refine lv_iadd hx hb dX5_renew_66 (lv_topi (fun x9 e9 => ?_))
        have q9 : x9 = nI (12 + 8 * k + 6) := by rw [e9]; exact nI_add (12 + 8 * k) 6
        subst q9
        refine lv_iconst (v := (-1)) hx hb dX5_renew_67 (by decide) ?_
        refine k_miV (As := [.int (nI (12 + 8 * k + 6)), .int (-1)]) (rest := []) (w1 := []) (wc := mdW cI a N (m_sv P (flat N) kc) T U (us (us v 2 (nI (m_kc kc))) 5 0)) (wc' := mdW cI a ((up2 N 9 k (-1))) (m_sv P (flat N) kc) T U (us (us v 2 (nI (m_kc kc))) 5 0)) (w3 := []) ⟨hx, hb, hml, hown, hts⟩ (c_X5_changes l D cI cS cL a N (m_sv P (flat N) kc) T U (us (us v 2 (nI (m_kc kc))) 5 0) _ (12 + 8 * k + 6) (-1) (up2 N 9 k (-1)) (N 9 k) (by omega) (flat_putH N k 6 (-1) (by decide)) (flat_hose N k 6 (by decide))) lkX5_90 rfl rfl ⟨(Nat.le_of_ble_eq_true rfl), (Nat.le_of_ble_eq_true rfl)⟩ (va_recv hK hP (ci := 4) (q0 := 0) rfl rfl) hK hE hP hD hS hA rfl rfl hl.1 rfl (Nat.le_of_ble_eq_true rfl) dX5_renew_68 ⟨Nat.zero_le _, Nat.zero_le _⟩ (fun H locs hzz hP hD hS => ?_)
        have hP : va_P D vwCl (mdW cI a ((up2 N 9 k (-1))) (m_sv P (flat N) kc) T U (us (us v 2 (nI (m_kc kc))) 5 0)) H := hP
        have hD : va_D (va_A (mdW cI a N P T U v) s.heap.size) (mdW cI a ((up2 N 9 k (-1))) (m_sv P (flat N) kc) T U (us (us v 2 (nI (m_kc kc))) 5 0)) := hD
        refine lv_istore_n (lv' := [(2, .int (N 9 k)), (0, .ref (a 0)), (1, .int (nI k))]) hx hb dX5_renew_71 rfl hl (by decide) rfl (fun ls hl => ?_)
        refine lv_aload_n hx hb dX5_renew_72 rfl (lv_at hl 1 rfl) ?_
        refine lv_aload_n hx hb dX5_renew_73 rfl (lv_at hl 1 rfl) ?_
        refine lv_iload_n hx hb dX5_renew_74 rfl (lv_at hl 2 rfl) ?_
        refine lv_iconst (v := 0) hx hb dX5_renew_75 (by decide) ?_
        refine k_riV (As := [.int (nI k), .int (nI 0)]) (rest := [.ref (a 0)]) (wc := mdW cI a ((up2 N 9 k (-1))) (m_sv P (flat N) kc) T U (us (us v 2 (nI (m_kc kc))) 5 0)) ⟨hx, hb, hml, hown, hts⟩ (c_X5_of l D cI cS cL a ((up2 N 9 k (-1))) (m_sv P (flat N) kc) T U (us (us v 2 (nI (m_kc kc))) 5 0) _ k 0 3 (by omega) (by decide) rfl) lkX5_37 rfl rfl ⟨(Nat.le_of_ble_eq_true rfl), (Nat.le_of_ble_eq_true rfl)⟩ (va_recv hK hP (ci := 4) (q0 := 0) rfl rfl) hK hE hP hD rfl hl.1 rfl (Nat.le_of_ble_eq_true rfl) dX5_renew_76 ⟨Nat.zero_le _, Nat.zero_le _⟩ ?_
        refine lv_aload_n hx hb dX5_renew_79 rfl (lv_at hl 1 rfl) ?_
        refine lv_iload_n hx hb dX5_renew_80 rfl (lv_at hl 2 rfl) ?_
        refine lv_iconst (v := 1) hx hb dX5_renew_81 (by decide) ?_
        refine k_riV (As := [.int (nI k), .int (nI 1)]) (rest := [.int (((up2 N 9 k (-1))) 3 k), .ref (a 0)]) (wc := mdW cI a ((up2 N 9 k (-1))) (m_sv P (flat N) kc) T U (us (us v 2 (nI (m_kc kc))) 5 0)) ⟨hx, hb, hml, hown, hts⟩ (c_X5_of l D cI cS cL a ((up2 N 9 k (-1))) (m_sv P (flat N) kc) T U (us (us v 2 (nI (m_kc kc))) 5 0) _ k 1 4 (by omega) (by decide) rfl) lkX5_37 rfl rfl ⟨(Nat.le_of_ble_eq_true rfl), (Nat.le_of_ble_eq_true rfl)⟩ (va_recv hK hP (ci := 4) (q0 := 0) rfl rfl) hK hE hP hD rfl hl.1 rfl (Nat.le_of_ble_eq_true rfl) dX5_renew_82 ⟨Nat.zero_le _, Nat.zero_le _⟩ ?_
        refine lv_aload_n hx hb dX5_renew_85 rfl (lv_at hl 1 rfl) ?_
        refine lv_iload_n hx hb dX5_renew_86 rfl (lv_at hl 2 rfl) ?_
        refine lv_iconst (v := 2) hx hb dX5_renew_87 (by decide) ?_
        refine k_riV (As := [.int (nI k), .int (nI 2)]) (rest := [.int (((up2 N 9 k (-1))) 4 k), .int (((up2 N 9 k (-1))) 3 k), .ref (a 0)]) (wc := mdW cI a ((up2 N 9 k (-1))) (m_sv P (flat N) kc) T U (us (us v 2 (nI (m_kc kc))) 5 0)) ⟨hx, hb, hml, hown, hts⟩ (c_X5_of l D cI cS cL a ((up2 N 9 k (-1))) (m_sv P (flat N) kc) T U (us (us v 2 (nI (m_kc kc))) 5 0) _ k 2 5 (by omega) (by decide) rfl) lkX5_37 rfl rfl ⟨(Nat.le_of_ble_eq_true rfl), (Nat.le_of_ble_eq_true rfl)⟩ (va_recv hK hP (ci := 4) (q0 := 0) rfl rfl) hK hE hP hD rfl hl.1 rfl (Nat.le_of_ble_eq_true rfl) dX5_renew_88 ⟨Nat.zero_le _, Nat.zero_le _⟩ ?_
        refine lv_iload_n hx hb dX5_renew_91 rfl (lv_at hl 0 rfl) ?_
        refine k_miV (As := [.int (((up2 N 9 k (-1))) 3 k), .int (((up2 N 9 k (-1))) 4 k), .int (((up2 N 9 k (-1))) 5 k), .int (N 9 k)]) (rest := []) (w1 := []) (wc := mdW cI a ((up2 N 9 k (-1))) (m_sv P (flat N) kc) T U (us (us v 2 (nI (m_kc kc))) 5 0)) (wc' := mdW cI a (p_add ((up2 N 9 k (-1))) n (((up2 N 9 k (-1))) 3 k) (((up2 N 9 k (-1))) 4 k) (((up2 N 9 k (-1))) 5 k) (N 9 k)) (m_sv P (flat N) kc) T U (us (us v 2 (nI (m_kc kc))) 5 0)) (w3 := []) ⟨hx, hb, hml, hown, hts⟩ (c_X5_buys l D cI cS cL a ((up2 N 9 k (-1))) (m_sv P (flat N) kc) T U (us (us v 2 (nI (m_kc kc))) 5 0) _ n (((up2 N 9 k (-1))) 3 k) (((up2 N 9 k (-1))) 4 k) (((up2 N 9 k (-1))) 5 k) (N 9 k) hn (by omega) (hkds k hkn)) lkX5_80 rfl rfl ⟨(Nat.le_of_ble_eq_true rfl), (Nat.le_of_ble_eq_true rfl)⟩ (va_recv hK hP (ci := 4) (q0 := 0) rfl rfl) hK hE hP hD hS hA rfl rfl hl.1 rfl (Nat.le_of_ble_eq_true rfl) dX5_renew_92 ⟨Nat.zero_le _, Nat.zero_le _⟩ (fun H locs hzz hP hD hS => ?_)
        have hP : va_P D vwCl (mdW cI a (p_add ((up2 N 9 k (-1))) n (((up2 N 9 k (-1))) 3 k) (((up2 N 9 k (-1))) 4 k) (((up2 N 9 k (-1))) 5 k) (N 9 k)) (m_sv P (flat N) kc) T U (us (us v 2 (nI (m_kc kc))) 5 0)) H := hP
        have hD : va_D (va_A (mdW cI a N P T U v) s.heap.size) (mdW cI a (p_add ((up2 N 9 k (-1))) n (((up2 N 9 k (-1))) 3 k) (((up2 N 9 k (-1))) 4 k) (((up2 N 9 k (-1))) 5 k) (N 9 k)) (m_sv P (flat N) kc) T U (us (us v 2 (nI (m_kc kc))) 5 0)) := hD
        have w10 : (p_add ((up2 N 9 k (-1))) n (((up2 N 9 k (-1))) 3 k) (((up2 N 9 k (-1))) 4 k) (((up2 N 9 k (-1))) 5 k) (N 9 k)) = (sN (rc_renew N (nI k)) N (p_renew N n (kx (nI k)))) := by rw [hrc]; first | done | rfl | (simp only [hcl]; first | done | rfl)
        have hP : va_P D vwCl (mdW cI a (sN (rc_renew N (nI k)) N (p_renew N n (kx (nI k)))) (m_sv P (flat N) kc) T U (us (us v 2 (nI (m_kc kc))) 5 0)) H := (congrArg (fun zz => va_P D vwCl (mdW cI a zz (m_sv P (flat N) kc) T U (us (us v 2 (nI (m_kc kc))) 5 0)) H) w10).mp hP
        have hD : va_D (va_A (mdW cI a N P T U v) s.heap.size) (mdW cI a (sN (rc_renew N (nI k)) N (p_renew N n (kx (nI k)))) (m_sv P (flat N) kc) T U (us (us v 2 (nI (m_kc kc))) 5 0)) := (congrArg (fun zz => va_D (va_A (mdW cI a N P T U v) s.heap.size) (mdW cI a zz (m_sv P (flat N) kc) T U (us (us v 2 (nI (m_kc kc))) 5 0))) w10).mp hD
        have w11 : (m_sv P (flat N) kc) = (sP (rc_renew N (nI k)) P (flat N) kc) := by rw [hrc]; first | done | rfl | (simp only [hcl]; first | done | rfl)
        have hP : va_P D vwCl (mdW cI a (sN (rc_renew N (nI k)) N (p_renew N n (kx (nI k)))) (sP (rc_renew N (nI k)) P (flat N) kc) T U (us (us v 2 (nI (m_kc kc))) 5 0)) H := (congrArg (fun zz => va_P D vwCl (mdW cI a (sN (rc_renew N (nI k)) N (p_renew N n (kx (nI k)))) zz T U (us (us v 2 (nI (m_kc kc))) 5 0)) H) w11).mp hP
        have hD : va_D (va_A (mdW cI a N P T U v) s.heap.size) (mdW cI a (sN (rc_renew N (nI k)) N (p_renew N n (kx (nI k)))) (sP (rc_renew N (nI k)) P (flat N) kc) T U (us (us v 2 (nI (m_kc kc))) 5 0)) := (congrArg (fun zz => va_D (va_A (mdW cI a N P T U v) s.heap.size) (mdW cI a (sN (rc_renew N (nI k)) N (p_renew N n (kx (nI k)))) zz T U (us (us v 2 (nI (m_kc kc))) 5 0))) w11).mp hD
        have w12 : (us (us v 2 (nI (m_kc kc))) 5 0) = (us (us v 2 (sK (rc_renew N (nI k)) kc)) 5 (rc_renew N (nI k))) := by rw [hrc]; first | done | rfl | (simp only [hcl]; first | done | rfl)
        have hP : va_P D vwCl (mdW cI a (sN (rc_renew N (nI k)) N (p_renew N n (kx (nI k)))) (sP (rc_renew N (nI k)) P (flat N) kc) T U (us (us v 2 (sK (rc_renew N (nI k)) kc)) 5 (rc_renew N (nI k)))) H := (congrArg (fun zz => va_P D vwCl (mdW cI a (sN (rc_renew N (nI k)) N (p_renew N n (kx (nI k)))) (sP (rc_renew N (nI k)) P (flat N) kc) T U zz) H) w12).mp hP
        have hD : va_D (va_A (mdW cI a N P T U v) s.heap.size) (mdW cI a (sN (rc_renew N (nI k)) N (p_renew N n (kx (nI k)))) (sP (rc_renew N (nI k)) P (flat N) kc) T U (us (us v 2 (sK (rc_renew N (nI k)) kc)) 5 (rc_renew N (nI k)))) := (congrArg (fun zz => va_D (va_A (mdW cI a N P T U v) s.heap.size) (mdW cI a (sN (rc_renew N (nI k)) N (p_renew N n (kx (nI k)))) (sP (rc_renew N (nI k)) P (flat N) kc) T U zz)) w12).mp hD
        have hP : va_P D vwCl (mdW cI a (sN (rc_renew N (nI k)) N (p_renew N n (kx (nI k)))) (sP (rc_renew N (nI k)) P (flat N) kc) T U (us (us v 2 (sK (rc_renew N (nI k)) kc)) 5 (rc_renew N (nI k)))) H := hP
        have hD : va_D (va_A (mdW cI a N P T U v) s.heap.size) (mdW cI a (sN (rc_renew N (nI k)) N (p_renew N n (kx (nI k)))) (sP (rc_renew N (nI k)) P (flat N) kc) T U (us (us v 2 (sK (rc_renew N (nI k)) kc)) 5 (rc_renew N (nI k)))) := hD
        exact k_eMi hx hb hr hlocks hP hS (by rw [hrc]; first | done | rfl | (simp only [hcl]; first | done | rfl)) dX5_renew_95
      · have c6 := bI_eqF c6
        have hrc : rc_renew N (nI k) = 2 := by simp [rc_renew, hxx, hcl, c2, hhe, c6]
        refine lv_aload_n hx hb dX5_renew_46 rfl (lv_at hl 0 rfl) ?_
        refine lv_iconst (v := 2) hx hb dX5_renew_47 (by decide) ?_
        refine k_miV (As := [.int 2]) (rest := []) (w1 := []) (wc := mdW cI a N P T U (us v 5 0)) (wc' := mdW cI a N P T U (us v 5 2)) (w3 := []) ⟨hx, hb, hml, hown, hts⟩ (c_X5_fails l D cI cS cL a N P T U (us v 5 0) _ 2) lkX5_33 rfl rfl ⟨(Nat.le_of_ble_eq_true rfl), (Nat.le_of_ble_eq_true rfl)⟩ (va_recv hK hP (ci := 4) (q0 := 0) rfl rfl) hK hE hP hD hS hA rfl rfl hl.1 rfl (Nat.le_of_ble_eq_true rfl) dX5_renew_48 ⟨Nat.zero_le _, Nat.zero_le _⟩ (fun H locs hzz hP hD hS => ?_)
        have hP : va_P D vwCl (mdW cI a N P T U (us v 5 2)) H := hP
        have hD : va_D (va_A (mdW cI a N P T U v) s.heap.size) (mdW cI a N P T U (us v 5 2)) := hD
        have w13 : N = (sN (rc_renew N (nI k)) N (p_renew N n (kx (nI k)))) := by rw [hrc]; first | done | rfl | (simp only [hcl]; first | done | rfl)
        have hP : va_P D vwCl (mdW cI a (sN (rc_renew N (nI k)) N (p_renew N n (kx (nI k)))) P T U (us v 5 2)) H := (congrArg (fun zz => va_P D vwCl (mdW cI a zz P T U (us v 5 2)) H) w13).mp hP
        have hD : va_D (va_A (mdW cI a N P T U v) s.heap.size) (mdW cI a (sN (rc_renew N (nI k)) N (p_renew N n (kx (nI k)))) P T U (us v 5 2)) := (congrArg (fun zz => va_D (va_A (mdW cI a N P T U v) s.heap.size) (mdW cI a zz P T U (us v 5 2))) w13).mp hD
        have w14 : P = (sP (rc_renew N (nI k)) P (flat N) kc) := by rw [hrc]; first | done | rfl | (simp only [hcl]; first | done | rfl)
        have hP : va_P D vwCl (mdW cI a (sN (rc_renew N (nI k)) N (p_renew N n (kx (nI k)))) (sP (rc_renew N (nI k)) P (flat N) kc) T U (us v 5 2)) H := (congrArg (fun zz => va_P D vwCl (mdW cI a (sN (rc_renew N (nI k)) N (p_renew N n (kx (nI k)))) zz T U (us v 5 2)) H) w14).mp hP
        have hD : va_D (va_A (mdW cI a N P T U v) s.heap.size) (mdW cI a (sN (rc_renew N (nI k)) N (p_renew N n (kx (nI k)))) (sP (rc_renew N (nI k)) P (flat N) kc) T U (us v 5 2)) := (congrArg (fun zz => va_D (va_A (mdW cI a N P T U v) s.heap.size) (mdW cI a (sN (rc_renew N (nI k)) N (p_renew N n (kx (nI k)))) zz T U (us v 5 2))) w14).mp hD
        have w15 : (us v 5 2) = (us (us v 2 (sK (rc_renew N (nI k)) kc)) 5 (rc_renew N (nI k))) := by rw [hrc, show sK 2 kc = v 2 from hc.symm, us_v]; first | done | rfl
        have hP : va_P D vwCl (mdW cI a (sN (rc_renew N (nI k)) N (p_renew N n (kx (nI k)))) (sP (rc_renew N (nI k)) P (flat N) kc) T U (us (us v 2 (sK (rc_renew N (nI k)) kc)) 5 (rc_renew N (nI k)))) H := (congrArg (fun zz => va_P D vwCl (mdW cI a (sN (rc_renew N (nI k)) N (p_renew N n (kx (nI k)))) (sP (rc_renew N (nI k)) P (flat N) kc) T U zz) H) w15).mp hP
        have hD : va_D (va_A (mdW cI a N P T U v) s.heap.size) (mdW cI a (sN (rc_renew N (nI k)) N (p_renew N n (kx (nI k)))) (sP (rc_renew N (nI k)) P (flat N) kc) T U (us (us v 2 (sK (rc_renew N (nI k)) kc)) 5 (rc_renew N (nI k)))) := (congrArg (fun zz => va_D (va_A (mdW cI a N P T U v) s.heap.size) (mdW cI a (sN (rc_renew N (nI k)) N (p_renew N n (kx (nI k)))) (sP (rc_renew N (nI k)) P (flat N) kc) T U zz)) w15).mp hD
        have hP : va_P D vwCl (mdW cI a (sN (rc_renew N (nI k)) N (p_renew N n (kx (nI k)))) (sP (rc_renew N (nI k)) P (flat N) kc) T U (us (us v 2 (sK (rc_renew N (nI k)) kc)) 5 (rc_renew N (nI k)))) H := hP
        have hD : va_D (va_A (mdW cI a N P T U v) s.heap.size) (mdW cI a (sN (rc_renew N (nI k)) N (p_renew N n (kx (nI k)))) (sP (rc_renew N (nI k)) P (flat N) kc) T U (us (us v 2 (sK (rc_renew N (nI k)) kc)) 5 (rc_renew N (nI k)))) := hD
        exact k_eMi hx hb hr hlocks hP hS (by rw [hrc]; first | done | rfl | (simp only [hcl]; first | done | rfl)) dX5_renew_51
  · have c1 := bI_eq0 c1
    have hrc : rc_renew N x = 1 := by simp [rc_renew, c1]
    refine lv_aload_n hx hb dX5_renew_13 rfl (lv_at hl 0 rfl) ?_
    refine lv_iconst (v := 1) hx hb dX5_renew_14 (by decide) ?_
    refine k_miV (As := [.int 1]) (rest := []) (w1 := []) (wc := mdW cI a N P T U (us v 5 0)) (wc' := mdW cI a N P T U (us v 5 1)) (w3 := []) ⟨hx, hb, hml, hown, hts⟩ (c_X5_fails l D cI cS cL a N P T U (us v 5 0) _ 1) lkX5_33 rfl rfl ⟨(Nat.le_of_ble_eq_true rfl), (Nat.le_of_ble_eq_true rfl)⟩ (va_recv hK hP (ci := 4) (q0 := 0) rfl rfl) hK hE hP hD hS hA rfl rfl hl.1 rfl (Nat.le_of_ble_eq_true rfl) dX5_renew_15 ⟨Nat.zero_le _, Nat.zero_le _⟩ (fun H locs hzz hP hD hS => ?_)
    have hP : va_P D vwCl (mdW cI a N P T U (us v 5 1)) H := hP
    have hD : va_D (va_A (mdW cI a N P T U v) s.heap.size) (mdW cI a N P T U (us v 5 1)) := hD
    have w16 : N = (sN (rc_renew N x) N (p_renew N n (kx x))) := by rw [hrc]; first | done | rfl | (simp only [hcl]; first | done | rfl)
    have hP : va_P D vwCl (mdW cI a (sN (rc_renew N x) N (p_renew N n (kx x))) P T U (us v 5 1)) H := (congrArg (fun zz => va_P D vwCl (mdW cI a zz P T U (us v 5 1)) H) w16).mp hP
    have hD : va_D (va_A (mdW cI a N P T U v) s.heap.size) (mdW cI a (sN (rc_renew N x) N (p_renew N n (kx x))) P T U (us v 5 1)) := (congrArg (fun zz => va_D (va_A (mdW cI a N P T U v) s.heap.size) (mdW cI a zz P T U (us v 5 1))) w16).mp hD
    have w17 : P = (sP (rc_renew N x) P (flat N) kc) := by rw [hrc]; first | done | rfl | (simp only [hcl]; first | done | rfl)
    have hP : va_P D vwCl (mdW cI a (sN (rc_renew N x) N (p_renew N n (kx x))) (sP (rc_renew N x) P (flat N) kc) T U (us v 5 1)) H := (congrArg (fun zz => va_P D vwCl (mdW cI a (sN (rc_renew N x) N (p_renew N n (kx x))) zz T U (us v 5 1)) H) w17).mp hP
    have hD : va_D (va_A (mdW cI a N P T U v) s.heap.size) (mdW cI a (sN (rc_renew N x) N (p_renew N n (kx x))) (sP (rc_renew N x) P (flat N) kc) T U (us v 5 1)) := (congrArg (fun zz => va_D (va_A (mdW cI a N P T U v) s.heap.size) (mdW cI a (sN (rc_renew N x) N (p_renew N n (kx x))) zz T U (us v 5 1))) w17).mp hD
    have w18 : (us v 5 1) = (us (us v 2 (sK (rc_renew N x) kc)) 5 (rc_renew N x)) := by rw [hrc, show sK 1 kc = v 2 from hc.symm, us_v]; first | done | rfl
    have hP : va_P D vwCl (mdW cI a (sN (rc_renew N x) N (p_renew N n (kx x))) (sP (rc_renew N x) P (flat N) kc) T U (us (us v 2 (sK (rc_renew N x) kc)) 5 (rc_renew N x))) H := (congrArg (fun zz => va_P D vwCl (mdW cI a (sN (rc_renew N x) N (p_renew N n (kx x))) (sP (rc_renew N x) P (flat N) kc) T U zz) H) w18).mp hP
    have hD : va_D (va_A (mdW cI a N P T U v) s.heap.size) (mdW cI a (sN (rc_renew N x) N (p_renew N n (kx x))) (sP (rc_renew N x) P (flat N) kc) T U (us (us v 2 (sK (rc_renew N x) kc)) 5 (rc_renew N x))) := (congrArg (fun zz => va_D (va_A (mdW cI a N P T U v) s.heap.size) (mdW cI a (sN (rc_renew N x) N (p_renew N n (kx x))) (sP (rc_renew N x) P (flat N) kc) T U zz)) w18).mp hD
    have hP : va_P D vwCl (mdW cI a (sN (rc_renew N x) N (p_renew N n (kx x))) (sP (rc_renew N x) P (flat N) kc) T U (us (us v 2 (sK (rc_renew N x) kc)) 5 (rc_renew N x))) H := hP
    have hD : va_D (va_A (mdW cI a N P T U v) s.heap.size) (mdW cI a (sN (rc_renew N x) N (p_renew N n (kx x))) (sP (rc_renew N x) P (flat N) kc) T U (us (us v 2 (sK (rc_renew N x) kc)) 5 (rc_renew N x))) := hD
    exact k_eMi hx hb hr hlocks hP hS (by rw [hrc]; first | done | rfl | (simp only [hcl]; first | done | rfl)) dX5_renew_18

abbrev rmX5_lend : Room := { frames := 3, cells := 0, slots := 0, locals := 65 }
set_option maxHeartbeats 4000000 in
set_option maxRecDepth 100000 in
theorem c_X5_lend (l : Launch) (D : va_G) (cI cS cL : ClassId) (a : Nat → Nat) (N : NN) (P T U v : Nat → Int32) (sz : Nat) (n kc : Nat) (x dd : Int32) (hn : N 1 2 = nI n) (hn14 : n ≤ 14) (hc : v 2 = nI kc) (hc6 : kc ≤ 6) (hd0 : 0 ≤ N 1 0) : Met l yX5_lend (wy_ yX5_lend cX5_lend 3 (some .int)) rmX5_lend (kPc D (kTy cI cS cL) (mdW cI a N P T U v) sz [.ref (a 0), .int x, .int dd]) (kMi D (mdW cI a N P T U v) (mdW cI a (sN (rc_lend N x dd) N (p_lend N (kx x) dd)) (sP (rc_lend N x dd) P (flat N) kc) T U (us (us v 2 (sK (rc_lend N x dd) kc)) 5 (rc_lend N x dd))) sz (sR (rc_lend N x dd) (N 1 0 + dd))) 0 0 (va_A (mdW cI a N P T U v) sz) := by
  refine k_ofW (by decide) (Nat.le_of_ble_eq_true rfl) ?_
  intro p e s m args below meth c hx hb hr hml hts hown hlocks hnm hsz hP hK hD hE ls hl
  subst hsz
  have hA : ∀ q : Nat, s.heap.size ≤ q → (va_A (mdW cI a N P T U v) s.heap.size) q := fun q h => Or.inr h
  have hS : va_S (va_A (mdW cI a N P T U v) s.heap.size) s.heap s.heap [] := va_S.rf
  have hl : lv_has ls 3 [(0, .ref (a 0)), (1, .int x), (2, .int dd)] := hl
  refine lv_aload_n hx hb dX5_lend_0 rfl (lv_at hl 0 rfl) ?_
  refine lv_iconst (v := 0) hx hb dX5_lend_1 (by decide) ?_
  refine f5 hx hb hts hown hK hP hD hS 0 rfl 5 (by decide) flX5_22 (fun _ h => h) rfl rfl rfl (Nat.le_of_ble_eq_true rfl) dX5_lend_2 (fun H locs hP hD hS => ?_)
  have hP : va_P D vwCl (mdW cI a N P T U (us v 5 0)) H := hP
  have hD : va_D (va_A (mdW cI a N P T U v) s.heap.size) (mdW cI a N P T U (us v 5 0)) := hD
  refine lv_aload_n hx hb dX5_lend_5 rfl (lv_at hl 0 rfl) ?_
  refine lv_iload_n hx hb dX5_lend_6 rfl (lv_at hl 1 rfl) ?_
  refine k_riV (As := [.int x]) (rest := []) (wc := mdW cI a N P T U (us v 5 0)) ⟨hx, hb, hml, hown, hts⟩ (c_X5_isHose l D cI cS cL a N P T U (us v 5 0) _ x) lkX5_84 rfl rfl ⟨(Nat.le_of_ble_eq_true rfl), (Nat.le_of_ble_eq_true rfl)⟩ (va_recv hK hP (ci := 4) (q0 := 0) rfl rfl) hK hE hP hD rfl hl.1 rfl (Nat.le_of_ble_eq_true rfl) dX5_lend_7 ⟨Nat.zero_le _, Nat.zero_le _⟩ ?_
  refine lv_if_ne (tgt := 19) hx hb dX5_lend_10 (by decide) (fun c1 => ?_) (fun c1 => ?_)
  · have c1 := bI_ne0 c1
    have hxx := c1
    obtain ⟨k, hkn, hxk⟩ := p_isH hn hn14 (c1).1 (c1).2
    subst hxk
    have hcl : kx (nI k) = k := kx_nI (by omega)
    refine lv_iload_n hx hb dX5_lend_19 rfl (lv_at hl 2 rfl) ?_
    refine lv_iconst (v := 1) hx hb dX5_lend_20 (by decide) ?_
    refine lv_bipush (v := 99) hx hb dX5_lend_21 (by decide) ?_
    refine k_riS (As := [.int dd, .int 1, .int 99]) (rest := []) (wc := []) ⟨hx, hb, hml, hown, hts⟩ (c_X5_in l D cI cS cL _ dd 1 99) lkX5_26 rfl rfl ⟨(Nat.le_of_ble_eq_true rfl), (Nat.le_of_ble_eq_true rfl)⟩ hK hE k_nilP (k_nilD (A := va_A (mdW cI a N P T U v) s.heap.size)) rfl hl.1 rfl (Nat.le_of_ble_eq_true rfl) dX5_lend_23 ⟨Nat.zero_le _, Nat.zero_le _⟩ ?_
    refine lv_if_ne (tgt := 35) hx hb dX5_lend_26 (by decide) (fun c2 => ?_) (fun c2 => ?_)
    · have c2 := bI_ne0 c2
      refine lv_aload_n hx hb dX5_lend_35 rfl (lv_at hl 0 rfl) ?_
      refine lv_iload_n hx hb dX5_lend_36 rfl (lv_at hl 1 rfl) ?_
      refine k_riV (As := [.int (nI k)]) (rest := []) (wc := mdW cI a N P T U (us v 5 0)) ⟨hx, hb, hml, hown, hts⟩ (c_X5_isReady l D cI cS cL a N P T U (us v 5 0) _ k (by omega) hd0) lkX5_62 rfl rfl ⟨(Nat.le_of_ble_eq_true rfl), (Nat.le_of_ble_eq_true rfl)⟩ (va_recv hK hP (ci := 4) (q0 := 0) rfl rfl) hK hE hP hD rfl hl.1 rfl (Nat.le_of_ble_eq_true rfl) dX5_lend_37 ⟨Nat.zero_le _, Nat.zero_le _⟩ ?_
      refine lv_if_ne (tgt := 49) hx hb dX5_lend_40 (by decide) (fun c3 => ?_) (fun c3 => ?_)
      · have c3 := bI_ne0 c3
        have hrc : rc_lend N (nI k) dd = 0 := by simp [rc_lend, hxx, hcl, c2, c3]
        refine lv_aload_n hx hb dX5_lend_49 rfl (lv_at hl 0 rfl) ?_
        refine k_mvV (As := []) (rest := []) (w1 := []) (wc := mdW cI a N P T U (us v 5 0)) (wc' := mdW cI a N (m_sv P (flat N) kc) T U (us (us v 2 (nI (m_kc kc))) 5 0)) (w3 := []) ⟨hx, hb, hml, hown, hts⟩ (c_X5_saves l D cI cS cL a N P T U (us v 5 0) _ kc hc (by omega)) lkX5_77 rfl rfl ⟨(Nat.le_of_ble_eq_true rfl), (Nat.le_of_ble_eq_true rfl)⟩ (va_recv hK hP (ci := 4) (q0 := 0) rfl rfl) hK hE hP hD hS hA rfl rfl hl.1 rfl (Nat.le_of_ble_eq_true rfl) dX5_lend_50 ⟨Nat.zero_le _, Nat.zero_le _⟩ (fun H locs hzz hP hD hS => ?_)
        have hP : va_P D vwCl (mdW cI a N (m_sv P (flat N) kc) T U (us (us v 2 (nI (m_kc kc))) 5 0)) H := hP
        have hD : va_D (va_A (mdW cI a N P T U v) s.heap.size) (mdW cI a N (m_sv P (flat N) kc) T U (us (us v 2 (nI (m_kc kc))) 5 0)) := hD
        refine lv_aload_n hx hb dX5_lend_53 rfl (lv_at hl 0 rfl) ?_
        refine g5 hx hb hts hown hK hP 0 rfl 0 (by decide) flX5_7 (fun _ h => h) (v := .ref (a 1)) rfl dX5_lend_54 ?_
        refine lv_bipush (v := 12) hx hb dX5_lend_57 (by decide) ?_
        refine lv_bipush (v := 8) hx hb dX5_lend_59 (by decide) ?_
        refine lv_iload_n hx hb dX5_lend_61 rfl (lv_at hl 1 rfl) ?_
        refine lv_imul hx hb dX5_lend_62 (lv_topi (fun x4 e4 => ?_))
        have q4 : x4 = nI (8 * k) := by rw [e4]; exact pk_mul 8 k
        subst q4
        refine lv_iadd hx hb dX5_lend_63 (lv_topi (fun x5 e5 => ?_))
        have q5 : x5 = nI (12 + 8 * k) := by rw [e5]; exact nI_add 12 (8 * k)
        subst q5
        refine lv_bipush (v := 6) hx hb dX5_lend_64 (by decide) ?_
        refine lv_iadd hx hb dX5_lend_66 (lv_topi (fun x6 e6 => ?_))
        have q6 : x6 = nI (12 + 8 * k + 6) := by rw [e6]; exact nI_add (12 + 8 * k) 6
        subst q6
        refine lv_iconst (v := 4) hx hb dX5_lend_67 (by decide) ?_
        refine k_ast (k := 12 + 8 * k + 6) hx hb hK hP hD hS 1 0 rfl rfl rfl (by omega) (by decide) dX5_lend_68 (fun H locs hP hD hS => ?_)
        rw [flat_putH _ _ 6 _ (by decide)] at hP hD
        have hP : va_P D vwCl (mdW cI a (up2 N 9 k 4) (m_sv P (flat N) kc) T U (us (us v 2 (nI (m_kc kc))) 5 0)) H := hP
        have hD : va_D (va_A (mdW cI a N P T U v) s.heap.size) (mdW cI a (up2 N 9 k 4) (m_sv P (flat N) kc) T U (us (us v 2 (nI (m_kc kc))) 5 0)) := hD
        refine lv_aload_n hx hb dX5_lend_69 rfl (lv_at hl 0 rfl) ?_
        refine g5 hx hb hts hown hK hP 0 rfl 0 (by decide) flX5_7 (fun _ h => h) (v := .ref (a 1)) rfl dX5_lend_70 ?_
        refine lv_bipush (v := 12) hx hb dX5_lend_73 (by decide) ?_
        refine lv_bipush (v := 8) hx hb dX5_lend_75 (by decide) ?_
        refine lv_iload_n hx hb dX5_lend_77 rfl (lv_at hl 1 rfl) ?_
        refine lv_imul hx hb dX5_lend_78 (lv_topi (fun x7 e7 => ?_))
        have q7 : x7 = nI (8 * k) := by rw [e7]; exact pk_mul 8 k
        subst q7
        refine lv_iadd hx hb dX5_lend_79 (lv_topi (fun x8 e8 => ?_))
        have q8 : x8 = nI (12 + 8 * k) := by rw [e8]; exact nI_add 12 (8 * k)
        subst q8
        refine lv_bipush (v := 7) hx hb dX5_lend_80 (by decide) ?_
        refine lv_iadd hx hb dX5_lend_82 (lv_topi (fun x9 e9 => ?_))
        have q9 : x9 = nI (12 + 8 * k + 7) := by rw [e9]; exact nI_add (12 + 8 * k) 7
        subst q9
        refine lv_aload_n hx hb dX5_lend_83 rfl (lv_at hl 0 rfl) ?_
        refine g5 hx hb hts hown hK hP 0 rfl 0 (by decide) flX5_7 (fun _ h => h) (v := .ref (a 1)) rfl dX5_lend_84 ?_
        refine lv_iconst (v := 3) hx hb dX5_lend_87 (by decide) ?_
        refine k_ald (k := 3) hx hb hK hP 1 0 rfl rfl rfl (by decide) (by decide) dX5_lend_88 ?_
        rw [show flat (up2 N 9 k 4) (3) = N 1 0 from rfl]
        refine lv_iload_n hx hb dX5_lend_89 rfl (lv_at hl 2 rfl) ?_
        refine lv_iadd hx hb dX5_lend_90 (lv_topi (fun x10 e10 => ?_))
        have q10 : x10 = N 1 0 + dd := by rw [e10]; skip
        subst q10
        refine k_ast (k := 12 + 8 * k + 7) hx hb hK hP hD hS 1 0 rfl rfl rfl (by omega) (by decide) dX5_lend_91 (fun H locs hP hD hS => ?_)
        rw [flat_putH _ _ 7 _ (by decide)] at hP hD
        have hP : va_P D vwCl (mdW cI a (up2 (up2 N 9 k 4) 10 k (N 1 0 + dd)) (m_sv P (flat N) kc) T U (us (us v 2 (nI (m_kc kc))) 5 0)) H := hP
        have hD : va_D (va_A (mdW cI a N P T U v) s.heap.size) (mdW cI a (up2 (up2 N 9 k 4) 10 k (N 1 0 + dd)) (m_sv P (flat N) kc) T U (us (us v 2 (nI (m_kc kc))) 5 0)) := hD
        refine lv_aload_n hx hb dX5_lend_92 rfl (lv_at hl 0 rfl) ?_
        refine g5 hx hb hts hown hK hP 0 rfl 0 (by decide) flX5_7 (fun _ h => h) (v := .ref (a 1)) rfl dX5_lend_93 ?_
        refine lv_iconst (v := 3) hx hb dX5_lend_96 (by decide) ?_
        refine k_ald (k := 3) hx hb hK hP 1 0 rfl rfl rfl (by decide) (by decide) dX5_lend_97 ?_
        rw [show flat (up2 (up2 N 9 k 4) 10 k (N 1 0 + dd)) (3) = N 1 0 from rfl]
        refine lv_iload_n hx hb dX5_lend_98 rfl (lv_at hl 2 rfl) ?_
        refine lv_iadd hx hb dX5_lend_99 (lv_topi (fun x11 e11 => ?_))
        have q11 : x11 = N 1 0 + dd := by rw [e11]; skip
        subst q11
        have w12 : (up2 (up2 N 9 k 4) 10 k (N 1 0 + dd)) = (sN (rc_lend N (nI k) dd) N (p_lend N (kx (nI k)) dd)) := by rw [hrc]; first | done | rfl | (simp only [hcl]; first | done | rfl)
        have hP : va_P D vwCl (mdW cI a (sN (rc_lend N (nI k) dd) N (p_lend N (kx (nI k)) dd)) (m_sv P (flat N) kc) T U (us (us v 2 (nI (m_kc kc))) 5 0)) H := (congrArg (fun zz => va_P D vwCl (mdW cI a zz (m_sv P (flat N) kc) T U (us (us v 2 (nI (m_kc kc))) 5 0)) H) w12).mp hP
        have hD : va_D (va_A (mdW cI a N P T U v) s.heap.size) (mdW cI a (sN (rc_lend N (nI k) dd) N (p_lend N (kx (nI k)) dd)) (m_sv P (flat N) kc) T U (us (us v 2 (nI (m_kc kc))) 5 0)) := (congrArg (fun zz => va_D (va_A (mdW cI a N P T U v) s.heap.size) (mdW cI a zz (m_sv P (flat N) kc) T U (us (us v 2 (nI (m_kc kc))) 5 0))) w12).mp hD
        have w13 : (m_sv P (flat N) kc) = (sP (rc_lend N (nI k) dd) P (flat N) kc) := by rw [hrc]; first | done | rfl | (simp only [hcl]; first | done | rfl)
        have hP : va_P D vwCl (mdW cI a (sN (rc_lend N (nI k) dd) N (p_lend N (kx (nI k)) dd)) (sP (rc_lend N (nI k) dd) P (flat N) kc) T U (us (us v 2 (nI (m_kc kc))) 5 0)) H := (congrArg (fun zz => va_P D vwCl (mdW cI a (sN (rc_lend N (nI k) dd) N (p_lend N (kx (nI k)) dd)) zz T U (us (us v 2 (nI (m_kc kc))) 5 0)) H) w13).mp hP
        have hD : va_D (va_A (mdW cI a N P T U v) s.heap.size) (mdW cI a (sN (rc_lend N (nI k) dd) N (p_lend N (kx (nI k)) dd)) (sP (rc_lend N (nI k) dd) P (flat N) kc) T U (us (us v 2 (nI (m_kc kc))) 5 0)) := (congrArg (fun zz => va_D (va_A (mdW cI a N P T U v) s.heap.size) (mdW cI a (sN (rc_lend N (nI k) dd) N (p_lend N (kx (nI k)) dd)) zz T U (us (us v 2 (nI (m_kc kc))) 5 0))) w13).mp hD
        have w14 : (us (us v 2 (nI (m_kc kc))) 5 0) = (us (us v 2 (sK (rc_lend N (nI k) dd) kc)) 5 (rc_lend N (nI k) dd)) := by rw [hrc]; first | done | rfl | (simp only [hcl]; first | done | rfl)
        have hP : va_P D vwCl (mdW cI a (sN (rc_lend N (nI k) dd) N (p_lend N (kx (nI k)) dd)) (sP (rc_lend N (nI k) dd) P (flat N) kc) T U (us (us v 2 (sK (rc_lend N (nI k) dd) kc)) 5 (rc_lend N (nI k) dd))) H := (congrArg (fun zz => va_P D vwCl (mdW cI a (sN (rc_lend N (nI k) dd) N (p_lend N (kx (nI k)) dd)) (sP (rc_lend N (nI k) dd) P (flat N) kc) T U zz) H) w14).mp hP
        have hD : va_D (va_A (mdW cI a N P T U v) s.heap.size) (mdW cI a (sN (rc_lend N (nI k) dd) N (p_lend N (kx (nI k)) dd)) (sP (rc_lend N (nI k) dd) P (flat N) kc) T U (us (us v 2 (sK (rc_lend N (nI k) dd) kc)) 5 (rc_lend N (nI k) dd))) := (congrArg (fun zz => va_D (va_A (mdW cI a N P T U v) s.heap.size) (mdW cI a (sN (rc_lend N (nI k) dd) N (p_lend N (kx (nI k)) dd)) (sP (rc_lend N (nI k) dd) P (flat N) kc) T U zz)) w14).mp hD
        have hP : va_P D vwCl (mdW cI a (sN (rc_lend N (nI k) dd) N (p_lend N (kx (nI k)) dd)) (sP (rc_lend N (nI k) dd) P (flat N) kc) T U (us (us v 2 (sK (rc_lend N (nI k) dd) kc)) 5 (rc_lend N (nI k) dd))) H := hP
        have hD : va_D (va_A (mdW cI a N P T U v) s.heap.size) (mdW cI a (sN (rc_lend N (nI k) dd) N (p_lend N (kx (nI k)) dd)) (sP (rc_lend N (nI k) dd) P (flat N) kc) T U (us (us v 2 (sK (rc_lend N (nI k) dd) kc)) 5 (rc_lend N (nI k) dd))) := hD
        exact k_eMi hx hb hr hlocks hP hS (by rw [hrc]; first | done | rfl | (simp only [hcl]; first | done | rfl)) dX5_lend_100
      · have c3 := bI_eq0 c3
        have hrc : rc_lend N (nI k) dd = 3 := by simp [rc_lend, hxx, hcl, c2, c3]
        refine lv_aload_n hx hb dX5_lend_43 rfl (lv_at hl 0 rfl) ?_
        refine lv_iconst (v := 3) hx hb dX5_lend_44 (by decide) ?_
        refine k_miV (As := [.int 3]) (rest := []) (w1 := []) (wc := mdW cI a N P T U (us v 5 0)) (wc' := mdW cI a N P T U (us v 5 3)) (w3 := []) ⟨hx, hb, hml, hown, hts⟩ (c_X5_fails l D cI cS cL a N P T U (us v 5 0) _ 3) lkX5_33 rfl rfl ⟨(Nat.le_of_ble_eq_true rfl), (Nat.le_of_ble_eq_true rfl)⟩ (va_recv hK hP (ci := 4) (q0 := 0) rfl rfl) hK hE hP hD hS hA rfl rfl hl.1 rfl (Nat.le_of_ble_eq_true rfl) dX5_lend_45 ⟨Nat.zero_le _, Nat.zero_le _⟩ (fun H locs hzz hP hD hS => ?_)
        have hP : va_P D vwCl (mdW cI a N P T U (us v 5 3)) H := hP
        have hD : va_D (va_A (mdW cI a N P T U v) s.heap.size) (mdW cI a N P T U (us v 5 3)) := hD
        have w15 : N = (sN (rc_lend N (nI k) dd) N (p_lend N (kx (nI k)) dd)) := by rw [hrc]; first | done | rfl | (simp only [hcl]; first | done | rfl)
        have hP : va_P D vwCl (mdW cI a (sN (rc_lend N (nI k) dd) N (p_lend N (kx (nI k)) dd)) P T U (us v 5 3)) H := (congrArg (fun zz => va_P D vwCl (mdW cI a zz P T U (us v 5 3)) H) w15).mp hP
        have hD : va_D (va_A (mdW cI a N P T U v) s.heap.size) (mdW cI a (sN (rc_lend N (nI k) dd) N (p_lend N (kx (nI k)) dd)) P T U (us v 5 3)) := (congrArg (fun zz => va_D (va_A (mdW cI a N P T U v) s.heap.size) (mdW cI a zz P T U (us v 5 3))) w15).mp hD
        have w16 : P = (sP (rc_lend N (nI k) dd) P (flat N) kc) := by rw [hrc]; first | done | rfl | (simp only [hcl]; first | done | rfl)
        have hP : va_P D vwCl (mdW cI a (sN (rc_lend N (nI k) dd) N (p_lend N (kx (nI k)) dd)) (sP (rc_lend N (nI k) dd) P (flat N) kc) T U (us v 5 3)) H := (congrArg (fun zz => va_P D vwCl (mdW cI a (sN (rc_lend N (nI k) dd) N (p_lend N (kx (nI k)) dd)) zz T U (us v 5 3)) H) w16).mp hP
        have hD : va_D (va_A (mdW cI a N P T U v) s.heap.size) (mdW cI a (sN (rc_lend N (nI k) dd) N (p_lend N (kx (nI k)) dd)) (sP (rc_lend N (nI k) dd) P (flat N) kc) T U (us v 5 3)) := (congrArg (fun zz => va_D (va_A (mdW cI a N P T U v) s.heap.size) (mdW cI a (sN (rc_lend N (nI k) dd) N (p_lend N (kx (nI k)) dd)) zz T U (us v 5 3))) w16).mp hD
        have w17 : (us v 5 3) = (us (us v 2 (sK (rc_lend N (nI k) dd) kc)) 5 (rc_lend N (nI k) dd)) := by rw [hrc, show sK 3 kc = v 2 from hc.symm, us_v]; first | done | rfl
        have hP : va_P D vwCl (mdW cI a (sN (rc_lend N (nI k) dd) N (p_lend N (kx (nI k)) dd)) (sP (rc_lend N (nI k) dd) P (flat N) kc) T U (us (us v 2 (sK (rc_lend N (nI k) dd) kc)) 5 (rc_lend N (nI k) dd))) H := (congrArg (fun zz => va_P D vwCl (mdW cI a (sN (rc_lend N (nI k) dd) N (p_lend N (kx (nI k)) dd)) (sP (rc_lend N (nI k) dd) P (flat N) kc) T U zz) H) w17).mp hP
        have hD : va_D (va_A (mdW cI a N P T U v) s.heap.size) (mdW cI a (sN (rc_lend N (nI k) dd) N (p_lend N (kx (nI k)) dd)) (sP (rc_lend N (nI k) dd) P (flat N) kc) T U (us (us v 2 (sK (rc_lend N (nI k) dd) kc)) 5 (rc_lend N (nI k) dd))) := (congrArg (fun zz => va_D (va_A (mdW cI a N P T U v) s.heap.size) (mdW cI a (sN (rc_lend N (nI k) dd) N (p_lend N (kx (nI k)) dd)) (sP (rc_lend N (nI k) dd) P (flat N) kc) T U zz)) w17).mp hD
        have hP : va_P D vwCl (mdW cI a (sN (rc_lend N (nI k) dd) N (p_lend N (kx (nI k)) dd)) (sP (rc_lend N (nI k) dd) P (flat N) kc) T U (us (us v 2 (sK (rc_lend N (nI k) dd) kc)) 5 (rc_lend N (nI k) dd))) H := hP
        have hD : va_D (va_A (mdW cI a N P T U v) s.heap.size) (mdW cI a (sN (rc_lend N (nI k) dd) N (p_lend N (kx (nI k)) dd)) (sP (rc_lend N (nI k) dd) P (flat N) kc) T U (us (us v 2 (sK (rc_lend N (nI k) dd) kc)) 5 (rc_lend N (nI k) dd))) := hD
        exact k_eMi hx hb hr hlocks hP hS (by rw [hrc]; first | done | rfl | (simp only [hcl]; first | done | rfl)) dX5_lend_48
    · have c2 := bI_eq0 c2
      have hrc : rc_lend N (nI k) dd = 2 := by simp [rc_lend, hxx, hcl, c2]
      refine lv_aload_n hx hb dX5_lend_29 rfl (lv_at hl 0 rfl) ?_
      refine lv_iconst (v := 2) hx hb dX5_lend_30 (by decide) ?_
      refine k_miV (As := [.int 2]) (rest := []) (w1 := []) (wc := mdW cI a N P T U (us v 5 0)) (wc' := mdW cI a N P T U (us v 5 2)) (w3 := []) ⟨hx, hb, hml, hown, hts⟩ (c_X5_fails l D cI cS cL a N P T U (us v 5 0) _ 2) lkX5_33 rfl rfl ⟨(Nat.le_of_ble_eq_true rfl), (Nat.le_of_ble_eq_true rfl)⟩ (va_recv hK hP (ci := 4) (q0 := 0) rfl rfl) hK hE hP hD hS hA rfl rfl hl.1 rfl (Nat.le_of_ble_eq_true rfl) dX5_lend_31 ⟨Nat.zero_le _, Nat.zero_le _⟩ (fun H locs hzz hP hD hS => ?_)
      have hP : va_P D vwCl (mdW cI a N P T U (us v 5 2)) H := hP
      have hD : va_D (va_A (mdW cI a N P T U v) s.heap.size) (mdW cI a N P T U (us v 5 2)) := hD
      have w18 : N = (sN (rc_lend N (nI k) dd) N (p_lend N (kx (nI k)) dd)) := by rw [hrc]; first | done | rfl | (simp only [hcl]; first | done | rfl)
      have hP : va_P D vwCl (mdW cI a (sN (rc_lend N (nI k) dd) N (p_lend N (kx (nI k)) dd)) P T U (us v 5 2)) H := (congrArg (fun zz => va_P D vwCl (mdW cI a zz P T U (us v 5 2)) H) w18).mp hP
      have hD : va_D (va_A (mdW cI a N P T U v) s.heap.size) (mdW cI a (sN (rc_lend N (nI k) dd) N (p_lend N (kx (nI k)) dd)) P T U (us v 5 2)) := (congrArg (fun zz => va_D (va_A (mdW cI a N P T U v) s.heap.size) (mdW cI a zz P T U (us v 5 2))) w18).mp hD
      have w19 : P = (sP (rc_lend N (nI k) dd) P (flat N) kc) := by rw [hrc]; first | done | rfl | (simp only [hcl]; first | done | rfl)
      have hP : va_P D vwCl (mdW cI a (sN (rc_lend N (nI k) dd) N (p_lend N (kx (nI k)) dd)) (sP (rc_lend N (nI k) dd) P (flat N) kc) T U (us v 5 2)) H := (congrArg (fun zz => va_P D vwCl (mdW cI a (sN (rc_lend N (nI k) dd) N (p_lend N (kx (nI k)) dd)) zz T U (us v 5 2)) H) w19).mp hP
      have hD : va_D (va_A (mdW cI a N P T U v) s.heap.size) (mdW cI a (sN (rc_lend N (nI k) dd) N (p_lend N (kx (nI k)) dd)) (sP (rc_lend N (nI k) dd) P (flat N) kc) T U (us v 5 2)) := (congrArg (fun zz => va_D (va_A (mdW cI a N P T U v) s.heap.size) (mdW cI a (sN (rc_lend N (nI k) dd) N (p_lend N (kx (nI k)) dd)) zz T U (us v 5 2))) w19).mp hD
      have w20 : (us v 5 2) = (us (us v 2 (sK (rc_lend N (nI k) dd) kc)) 5 (rc_lend N (nI k) dd)) := by rw [hrc, show sK 2 kc = v 2 from hc.symm, us_v]; first | done | rfl
      have hP : va_P D vwCl (mdW cI a (sN (rc_lend N (nI k) dd) N (p_lend N (kx (nI k)) dd)) (sP (rc_lend N (nI k) dd) P (flat N) kc) T U (us (us v 2 (sK (rc_lend N (nI k) dd) kc)) 5 (rc_lend N (nI k) dd))) H := (congrArg (fun zz => va_P D vwCl (mdW cI a (sN (rc_lend N (nI k) dd) N (p_lend N (kx (nI k)) dd)) (sP (rc_lend N (nI k) dd) P (flat N) kc) T U zz) H) w20).mp hP
      have hD : va_D (va_A (mdW cI a N P T U v) s.heap.size) (mdW cI a (sN (rc_lend N (nI k) dd) N (p_lend N (kx (nI k)) dd)) (sP (rc_lend N (nI k) dd) P (flat N) kc) T U (us (us v 2 (sK (rc_lend N (nI k) dd) kc)) 5 (rc_lend N (nI k) dd))) := (congrArg (fun zz => va_D (va_A (mdW cI a N P T U v) s.heap.size) (mdW cI a (sN (rc_lend N (nI k) dd) N (p_lend N (kx (nI k)) dd)) (sP (rc_lend N (nI k) dd) P (flat N) kc) T U zz)) w20).mp hD
      have hP : va_P D vwCl (mdW cI a (sN (rc_lend N (nI k) dd) N (p_lend N (kx (nI k)) dd)) (sP (rc_lend N (nI k) dd) P (flat N) kc) T U (us (us v 2 (sK (rc_lend N (nI k) dd) kc)) 5 (rc_lend N (nI k) dd))) H := hP
      have hD : va_D (va_A (mdW cI a N P T U v) s.heap.size) (mdW cI a (sN (rc_lend N (nI k) dd) N (p_lend N (kx (nI k)) dd)) (sP (rc_lend N (nI k) dd) P (flat N) kc) T U (us (us v 2 (sK (rc_lend N (nI k) dd) kc)) 5 (rc_lend N (nI k) dd))) := hD
      exact k_eMi hx hb hr hlocks hP hS (by rw [hrc]; first | done | rfl | (simp only [hcl]; first | done | rfl)) dX5_lend_34
  · have c1 := bI_eq0 c1
    have hrc : rc_lend N x dd = 1 := by simp [rc_lend, c1]
    refine lv_aload_n hx hb dX5_lend_13 rfl (lv_at hl 0 rfl) ?_
    refine lv_iconst (v := 1) hx hb dX5_lend_14 (by decide) ?_
    refine k_miV (As := [.int 1]) (rest := []) (w1 := []) (wc := mdW cI a N P T U (us v 5 0)) (wc' := mdW cI a N P T U (us v 5 1)) (w3 := []) ⟨hx, hb, hml, hown, hts⟩ (c_X5_fails l D cI cS cL a N P T U (us v 5 0) _ 1) lkX5_33 rfl rfl ⟨(Nat.le_of_ble_eq_true rfl), (Nat.le_of_ble_eq_true rfl)⟩ (va_recv hK hP (ci := 4) (q0 := 0) rfl rfl) hK hE hP hD hS hA rfl rfl hl.1 rfl (Nat.le_of_ble_eq_true rfl) dX5_lend_15 ⟨Nat.zero_le _, Nat.zero_le _⟩ (fun H locs hzz hP hD hS => ?_)
    have hP : va_P D vwCl (mdW cI a N P T U (us v 5 1)) H := hP
    have hD : va_D (va_A (mdW cI a N P T U v) s.heap.size) (mdW cI a N P T U (us v 5 1)) := hD
    have w21 : N = (sN (rc_lend N x dd) N (p_lend N (kx x) dd)) := by rw [hrc]; first | done | rfl | (simp only [hcl]; first | done | rfl)
    have hP : va_P D vwCl (mdW cI a (sN (rc_lend N x dd) N (p_lend N (kx x) dd)) P T U (us v 5 1)) H := (congrArg (fun zz => va_P D vwCl (mdW cI a zz P T U (us v 5 1)) H) w21).mp hP
    have hD : va_D (va_A (mdW cI a N P T U v) s.heap.size) (mdW cI a (sN (rc_lend N x dd) N (p_lend N (kx x) dd)) P T U (us v 5 1)) := (congrArg (fun zz => va_D (va_A (mdW cI a N P T U v) s.heap.size) (mdW cI a zz P T U (us v 5 1))) w21).mp hD
    have w22 : P = (sP (rc_lend N x dd) P (flat N) kc) := by rw [hrc]; first | done | rfl | (simp only [hcl]; first | done | rfl)
    have hP : va_P D vwCl (mdW cI a (sN (rc_lend N x dd) N (p_lend N (kx x) dd)) (sP (rc_lend N x dd) P (flat N) kc) T U (us v 5 1)) H := (congrArg (fun zz => va_P D vwCl (mdW cI a (sN (rc_lend N x dd) N (p_lend N (kx x) dd)) zz T U (us v 5 1)) H) w22).mp hP
    have hD : va_D (va_A (mdW cI a N P T U v) s.heap.size) (mdW cI a (sN (rc_lend N x dd) N (p_lend N (kx x) dd)) (sP (rc_lend N x dd) P (flat N) kc) T U (us v 5 1)) := (congrArg (fun zz => va_D (va_A (mdW cI a N P T U v) s.heap.size) (mdW cI a (sN (rc_lend N x dd) N (p_lend N (kx x) dd)) zz T U (us v 5 1))) w22).mp hD
    have w23 : (us v 5 1) = (us (us v 2 (sK (rc_lend N x dd) kc)) 5 (rc_lend N x dd)) := by rw [hrc, show sK 1 kc = v 2 from hc.symm, us_v]; first | done | rfl
    have hP : va_P D vwCl (mdW cI a (sN (rc_lend N x dd) N (p_lend N (kx x) dd)) (sP (rc_lend N x dd) P (flat N) kc) T U (us (us v 2 (sK (rc_lend N x dd) kc)) 5 (rc_lend N x dd))) H := (congrArg (fun zz => va_P D vwCl (mdW cI a (sN (rc_lend N x dd) N (p_lend N (kx x) dd)) (sP (rc_lend N x dd) P (flat N) kc) T U zz) H) w23).mp hP
    have hD : va_D (va_A (mdW cI a N P T U v) s.heap.size) (mdW cI a (sN (rc_lend N x dd) N (p_lend N (kx x) dd)) (sP (rc_lend N x dd) P (flat N) kc) T U (us (us v 2 (sK (rc_lend N x dd) kc)) 5 (rc_lend N x dd))) := (congrArg (fun zz => va_D (va_A (mdW cI a N P T U v) s.heap.size) (mdW cI a (sN (rc_lend N x dd) N (p_lend N (kx x) dd)) (sP (rc_lend N x dd) P (flat N) kc) T U zz)) w23).mp hD
    have hP : va_P D vwCl (mdW cI a (sN (rc_lend N x dd) N (p_lend N (kx x) dd)) (sP (rc_lend N x dd) P (flat N) kc) T U (us (us v 2 (sK (rc_lend N x dd) kc)) 5 (rc_lend N x dd))) H := hP
    have hD : va_D (va_A (mdW cI a N P T U v) s.heap.size) (mdW cI a (sN (rc_lend N x dd) N (p_lend N (kx x) dd)) (sP (rc_lend N x dd) P (flat N) kc) T U (us (us v 2 (sK (rc_lend N x dd) kc)) 5 (rc_lend N x dd))) := hD
    exact k_eMi hx hb hr hlocks hP hS (by rw [hrc]; first | done | rfl | (simp only [hcl]; first | done | rfl)) dX5_lend_18

abbrev rmX5_want : Room := { frames := 2, cells := 0, slots := 0, locals := 42 }
set_option maxHeartbeats 4000000 in
set_option maxRecDepth 100000 in
theorem c_X5_want (l : Launch) (D : va_G) (cI cS cL : ClassId) (a : Nat → Nat) (N : NN) (P T U v : Nat → Int32) (sz : Nat) (n kc : Nat) (x ln : Int32) (hn : N 1 2 = nI n) (hn14 : n ≤ 14) (hc : v 2 = nI kc) (hc6 : kc ≤ 6) : Met l yX5_want (wy_ yX5_want cX5_want 3 (some .int)) rmX5_want (kPc D (kTy cI cS cL) (mdW cI a N P T U v) sz [.ref (a 0), .int x, .int ln]) (kMi D (mdW cI a N P T U v) (mdW cI a (sN (rc_want x ln) N (up2 N 2 (kx x) ln)) (sP (rc_want x ln) P (flat N) kc) T U (us (us v 2 (sK (rc_want x ln) kc)) 5 (rc_want x ln))) sz (sR (rc_want x ln) (N 2 (kx x)))) 0 0 (va_A (mdW cI a N P T U v) sz) := by
  refine k_ofW (by decide) (Nat.le_of_ble_eq_true rfl) ?_
  intro p e s m args below meth c hx hb hr hml hts hown hlocks hnm hsz hP hK hD hE ls hl
  subst hsz
  have hA : ∀ q : Nat, s.heap.size ≤ q → (va_A (mdW cI a N P T U v) s.heap.size) q := fun q h => Or.inr h
  have hS : va_S (va_A (mdW cI a N P T U v) s.heap.size) s.heap s.heap [] := va_S.rf
  have hl : lv_has ls 3 [(0, .ref (a 0)), (1, .int x), (2, .int ln)] := hl
  refine lv_aload_n hx hb dX5_want_0 rfl (lv_at hl 0 rfl) ?_
  refine lv_iconst (v := 0) hx hb dX5_want_1 (by decide) ?_
  refine f5 hx hb hts hown hK hP hD hS 0 rfl 5 (by decide) flX5_22 (fun _ h => h) rfl rfl rfl (Nat.le_of_ble_eq_true rfl) dX5_want_2 (fun H locs hP hD hS => ?_)
  have hP : va_P D vwCl (mdW cI a N P T U (us v 5 0)) H := hP
  have hD : va_D (va_A (mdW cI a N P T U v) s.heap.size) (mdW cI a N P T U (us v 5 0)) := hD
  refine lv_iload_n hx hb dX5_want_5 rfl (lv_at hl 1 rfl) ?_
  refine k_riS (As := [.int x]) (rest := []) (wc := []) ⟨hx, hb, hml, hown, hts⟩ (c_X5_isTruck l D cI cS cL _ x) lkX5_99 rfl rfl ⟨(Nat.le_of_ble_eq_true rfl), (Nat.le_of_ble_eq_true rfl)⟩ hK hE k_nilP (k_nilD (A := va_A (mdW cI a N P T U v) s.heap.size)) rfl hl.1 rfl (Nat.le_of_ble_eq_true rfl) dX5_want_6 ⟨Nat.zero_le _, Nat.zero_le _⟩ ?_
  refine lv_if_ne (tgt := 18) hx hb dX5_want_9 (by decide) (fun c1 => ?_) (fun c1 => ?_)
  · have c1 := bI_ne0 c1
    have hxx := c1
    obtain ⟨k, hk3, hxk⟩ := p_isT (c1).1 (c1).2
    subst hxk
    have hcl : kx (nI k) = k := kx_nI (by omega)
    refine lv_iload_n hx hb dX5_want_18 rfl (lv_at hl 2 rfl) ?_
    refine lv_iconst (v := 0) hx hb dX5_want_19 (by decide) ?_
    refine lv_sipush (v := 200) hx hb dX5_want_20 (by decide) ?_
    refine k_riS (As := [.int ln, .int 0, .int 200]) (rest := []) (wc := []) ⟨hx, hb, hml, hown, hts⟩ (c_X5_in l D cI cS cL _ ln 0 200) lkX5_26 rfl rfl ⟨(Nat.le_of_ble_eq_true rfl), (Nat.le_of_ble_eq_true rfl)⟩ hK hE k_nilP (k_nilD (A := va_A (mdW cI a N P T U v) s.heap.size)) rfl hl.1 rfl (Nat.le_of_ble_eq_true rfl) dX5_want_23 ⟨Nat.zero_le _, Nat.zero_le _⟩ ?_
    refine lv_if_ne (tgt := 35) hx hb dX5_want_26 (by decide) (fun c2 => ?_) (fun c2 => ?_)
    · have c2 := bI_ne0 c2
      have hrc : rc_want (nI k) ln = 0 := by simp [rc_want, hxx, hcl, c2]
      refine lv_aload_n hx hb dX5_want_35 rfl (lv_at hl 0 rfl) ?_
      refine k_mvV (As := []) (rest := []) (w1 := []) (wc := mdW cI a N P T U (us v 5 0)) (wc' := mdW cI a N (m_sv P (flat N) kc) T U (us (us v 2 (nI (m_kc kc))) 5 0)) (w3 := []) ⟨hx, hb, hml, hown, hts⟩ (c_X5_saves l D cI cS cL a N P T U (us v 5 0) _ kc hc (by omega)) lkX5_77 rfl rfl ⟨(Nat.le_of_ble_eq_true rfl), (Nat.le_of_ble_eq_true rfl)⟩ (va_recv hK hP (ci := 4) (q0 := 0) rfl rfl) hK hE hP hD hS hA rfl rfl hl.1 rfl (Nat.le_of_ble_eq_true rfl) dX5_want_36 ⟨Nat.zero_le _, Nat.zero_le _⟩ (fun H locs hzz hP hD hS => ?_)
      have hP : va_P D vwCl (mdW cI a N (m_sv P (flat N) kc) T U (us (us v 2 (nI (m_kc kc))) 5 0)) H := hP
      have hD : va_D (va_A (mdW cI a N P T U v) s.heap.size) (mdW cI a N (m_sv P (flat N) kc) T U (us (us v 2 (nI (m_kc kc))) 5 0)) := hD
      refine lv_aload_n hx hb dX5_want_39 rfl (lv_at hl 0 rfl) ?_
      refine lv_bipush (v := 9) hx hb dX5_want_40 (by decide) ?_
      refine lv_iload_n hx hb dX5_want_42 rfl (lv_at hl 1 rfl) ?_
      refine lv_iadd hx hb dX5_want_43 (lv_topi (fun x3 e3 => ?_))
      have q3 : x3 = nI (9 + k) := by rw [e3]; exact nI_add 9 k
      subst q3
      refine lv_iload_n hx hb dX5_want_44 rfl (lv_at hl 2 rfl) ?_
      refine k_miV (As := [.int (nI (9 + k)), .int ln]) (rest := []) (w1 := []) (wc := mdW cI a N (m_sv P (flat N) kc) T U (us (us v 2 (nI (m_kc kc))) 5 0)) (wc' := mdW cI a ((up2 N 2 k ln)) (m_sv P (flat N) kc) T U (us (us v 2 (nI (m_kc kc))) 5 0)) (w3 := []) ⟨hx, hb, hml, hown, hts⟩ (c_X5_changes l D cI cS cL a N (m_sv P (flat N) kc) T U (us (us v 2 (nI (m_kc kc))) 5 0) _ (9 + k) ln (up2 N 2 k ln) (N 2 k) (by omega) (flat_putW N k ln hk3) (flat_want N k hk3)) lkX5_90 rfl rfl ⟨(Nat.le_of_ble_eq_true rfl), (Nat.le_of_ble_eq_true rfl)⟩ (va_recv hK hP (ci := 4) (q0 := 0) rfl rfl) hK hE hP hD hS hA rfl rfl hl.1 rfl (Nat.le_of_ble_eq_true rfl) dX5_want_45 ⟨Nat.zero_le _, Nat.zero_le _⟩ (fun H locs hzz hP hD hS => ?_)
      have hP : va_P D vwCl (mdW cI a ((up2 N 2 k ln)) (m_sv P (flat N) kc) T U (us (us v 2 (nI (m_kc kc))) 5 0)) H := hP
      have hD : va_D (va_A (mdW cI a N P T U v) s.heap.size) (mdW cI a ((up2 N 2 k ln)) (m_sv P (flat N) kc) T U (us (us v 2 (nI (m_kc kc))) 5 0)) := hD
      have w4 : ((up2 N 2 k ln)) = (sN (rc_want (nI k) ln) N (up2 N 2 (kx (nI k)) ln)) := by rw [hrc]; first | done | rfl | (simp only [hcl]; first | done | rfl)
      have hP : va_P D vwCl (mdW cI a (sN (rc_want (nI k) ln) N (up2 N 2 (kx (nI k)) ln)) (m_sv P (flat N) kc) T U (us (us v 2 (nI (m_kc kc))) 5 0)) H := (congrArg (fun zz => va_P D vwCl (mdW cI a zz (m_sv P (flat N) kc) T U (us (us v 2 (nI (m_kc kc))) 5 0)) H) w4).mp hP
      have hD : va_D (va_A (mdW cI a N P T U v) s.heap.size) (mdW cI a (sN (rc_want (nI k) ln) N (up2 N 2 (kx (nI k)) ln)) (m_sv P (flat N) kc) T U (us (us v 2 (nI (m_kc kc))) 5 0)) := (congrArg (fun zz => va_D (va_A (mdW cI a N P T U v) s.heap.size) (mdW cI a zz (m_sv P (flat N) kc) T U (us (us v 2 (nI (m_kc kc))) 5 0))) w4).mp hD
      have w5 : (m_sv P (flat N) kc) = (sP (rc_want (nI k) ln) P (flat N) kc) := by rw [hrc]; first | done | rfl | (simp only [hcl]; first | done | rfl)
      have hP : va_P D vwCl (mdW cI a (sN (rc_want (nI k) ln) N (up2 N 2 (kx (nI k)) ln)) (sP (rc_want (nI k) ln) P (flat N) kc) T U (us (us v 2 (nI (m_kc kc))) 5 0)) H := (congrArg (fun zz => va_P D vwCl (mdW cI a (sN (rc_want (nI k) ln) N (up2 N 2 (kx (nI k)) ln)) zz T U (us (us v 2 (nI (m_kc kc))) 5 0)) H) w5).mp hP
      have hD : va_D (va_A (mdW cI a N P T U v) s.heap.size) (mdW cI a (sN (rc_want (nI k) ln) N (up2 N 2 (kx (nI k)) ln)) (sP (rc_want (nI k) ln) P (flat N) kc) T U (us (us v 2 (nI (m_kc kc))) 5 0)) := (congrArg (fun zz => va_D (va_A (mdW cI a N P T U v) s.heap.size) (mdW cI a (sN (rc_want (nI k) ln) N (up2 N 2 (kx (nI k)) ln)) zz T U (us (us v 2 (nI (m_kc kc))) 5 0))) w5).mp hD
      have w6 : (us (us v 2 (nI (m_kc kc))) 5 0) = (us (us v 2 (sK (rc_want (nI k) ln) kc)) 5 (rc_want (nI k) ln)) := by rw [hrc]; first | done | rfl | (simp only [hcl]; first | done | rfl)
      have hP : va_P D vwCl (mdW cI a (sN (rc_want (nI k) ln) N (up2 N 2 (kx (nI k)) ln)) (sP (rc_want (nI k) ln) P (flat N) kc) T U (us (us v 2 (sK (rc_want (nI k) ln) kc)) 5 (rc_want (nI k) ln))) H := (congrArg (fun zz => va_P D vwCl (mdW cI a (sN (rc_want (nI k) ln) N (up2 N 2 (kx (nI k)) ln)) (sP (rc_want (nI k) ln) P (flat N) kc) T U zz) H) w6).mp hP
      have hD : va_D (va_A (mdW cI a N P T U v) s.heap.size) (mdW cI a (sN (rc_want (nI k) ln) N (up2 N 2 (kx (nI k)) ln)) (sP (rc_want (nI k) ln) P (flat N) kc) T U (us (us v 2 (sK (rc_want (nI k) ln) kc)) 5 (rc_want (nI k) ln))) := (congrArg (fun zz => va_D (va_A (mdW cI a N P T U v) s.heap.size) (mdW cI a (sN (rc_want (nI k) ln) N (up2 N 2 (kx (nI k)) ln)) (sP (rc_want (nI k) ln) P (flat N) kc) T U zz)) w6).mp hD
      have hP : va_P D vwCl (mdW cI a (sN (rc_want (nI k) ln) N (up2 N 2 (kx (nI k)) ln)) (sP (rc_want (nI k) ln) P (flat N) kc) T U (us (us v 2 (sK (rc_want (nI k) ln) kc)) 5 (rc_want (nI k) ln))) H := hP
      have hD : va_D (va_A (mdW cI a N P T U v) s.heap.size) (mdW cI a (sN (rc_want (nI k) ln) N (up2 N 2 (kx (nI k)) ln)) (sP (rc_want (nI k) ln) P (flat N) kc) T U (us (us v 2 (sK (rc_want (nI k) ln) kc)) 5 (rc_want (nI k) ln))) := hD
      exact k_eMi hx hb hr hlocks hP hS (by rw [hrc]; first | done | rfl | (simp only [hcl]; first | done | rfl)) dX5_want_48
    · have c2 := bI_eq0 c2
      have hrc : rc_want (nI k) ln = 2 := by simp [rc_want, hxx, hcl, c2]
      refine lv_aload_n hx hb dX5_want_29 rfl (lv_at hl 0 rfl) ?_
      refine lv_iconst (v := 2) hx hb dX5_want_30 (by decide) ?_
      refine k_miV (As := [.int 2]) (rest := []) (w1 := []) (wc := mdW cI a N P T U (us v 5 0)) (wc' := mdW cI a N P T U (us v 5 2)) (w3 := []) ⟨hx, hb, hml, hown, hts⟩ (c_X5_fails l D cI cS cL a N P T U (us v 5 0) _ 2) lkX5_33 rfl rfl ⟨(Nat.le_of_ble_eq_true rfl), (Nat.le_of_ble_eq_true rfl)⟩ (va_recv hK hP (ci := 4) (q0 := 0) rfl rfl) hK hE hP hD hS hA rfl rfl hl.1 rfl (Nat.le_of_ble_eq_true rfl) dX5_want_31 ⟨Nat.zero_le _, Nat.zero_le _⟩ (fun H locs hzz hP hD hS => ?_)
      have hP : va_P D vwCl (mdW cI a N P T U (us v 5 2)) H := hP
      have hD : va_D (va_A (mdW cI a N P T U v) s.heap.size) (mdW cI a N P T U (us v 5 2)) := hD
      have w7 : N = (sN (rc_want (nI k) ln) N (up2 N 2 (kx (nI k)) ln)) := by rw [hrc]; first | done | rfl | (simp only [hcl]; first | done | rfl)
      have hP : va_P D vwCl (mdW cI a (sN (rc_want (nI k) ln) N (up2 N 2 (kx (nI k)) ln)) P T U (us v 5 2)) H := (congrArg (fun zz => va_P D vwCl (mdW cI a zz P T U (us v 5 2)) H) w7).mp hP
      have hD : va_D (va_A (mdW cI a N P T U v) s.heap.size) (mdW cI a (sN (rc_want (nI k) ln) N (up2 N 2 (kx (nI k)) ln)) P T U (us v 5 2)) := (congrArg (fun zz => va_D (va_A (mdW cI a N P T U v) s.heap.size) (mdW cI a zz P T U (us v 5 2))) w7).mp hD
      have w8 : P = (sP (rc_want (nI k) ln) P (flat N) kc) := by rw [hrc]; first | done | rfl | (simp only [hcl]; first | done | rfl)
      have hP : va_P D vwCl (mdW cI a (sN (rc_want (nI k) ln) N (up2 N 2 (kx (nI k)) ln)) (sP (rc_want (nI k) ln) P (flat N) kc) T U (us v 5 2)) H := (congrArg (fun zz => va_P D vwCl (mdW cI a (sN (rc_want (nI k) ln) N (up2 N 2 (kx (nI k)) ln)) zz T U (us v 5 2)) H) w8).mp hP
      have hD : va_D (va_A (mdW cI a N P T U v) s.heap.size) (mdW cI a (sN (rc_want (nI k) ln) N (up2 N 2 (kx (nI k)) ln)) (sP (rc_want (nI k) ln) P (flat N) kc) T U (us v 5 2)) := (congrArg (fun zz => va_D (va_A (mdW cI a N P T U v) s.heap.size) (mdW cI a (sN (rc_want (nI k) ln) N (up2 N 2 (kx (nI k)) ln)) zz T U (us v 5 2))) w8).mp hD
      have w9 : (us v 5 2) = (us (us v 2 (sK (rc_want (nI k) ln) kc)) 5 (rc_want (nI k) ln)) := by rw [hrc, show sK 2 kc = v 2 from hc.symm, us_v]; first | done | rfl
      have hP : va_P D vwCl (mdW cI a (sN (rc_want (nI k) ln) N (up2 N 2 (kx (nI k)) ln)) (sP (rc_want (nI k) ln) P (flat N) kc) T U (us (us v 2 (sK (rc_want (nI k) ln) kc)) 5 (rc_want (nI k) ln))) H := (congrArg (fun zz => va_P D vwCl (mdW cI a (sN (rc_want (nI k) ln) N (up2 N 2 (kx (nI k)) ln)) (sP (rc_want (nI k) ln) P (flat N) kc) T U zz) H) w9).mp hP
      have hD : va_D (va_A (mdW cI a N P T U v) s.heap.size) (mdW cI a (sN (rc_want (nI k) ln) N (up2 N 2 (kx (nI k)) ln)) (sP (rc_want (nI k) ln) P (flat N) kc) T U (us (us v 2 (sK (rc_want (nI k) ln) kc)) 5 (rc_want (nI k) ln))) := (congrArg (fun zz => va_D (va_A (mdW cI a N P T U v) s.heap.size) (mdW cI a (sN (rc_want (nI k) ln) N (up2 N 2 (kx (nI k)) ln)) (sP (rc_want (nI k) ln) P (flat N) kc) T U zz)) w9).mp hD
      have hP : va_P D vwCl (mdW cI a (sN (rc_want (nI k) ln) N (up2 N 2 (kx (nI k)) ln)) (sP (rc_want (nI k) ln) P (flat N) kc) T U (us (us v 2 (sK (rc_want (nI k) ln) kc)) 5 (rc_want (nI k) ln))) H := hP
      have hD : va_D (va_A (mdW cI a N P T U v) s.heap.size) (mdW cI a (sN (rc_want (nI k) ln) N (up2 N 2 (kx (nI k)) ln)) (sP (rc_want (nI k) ln) P (flat N) kc) T U (us (us v 2 (sK (rc_want (nI k) ln) kc)) 5 (rc_want (nI k) ln))) := hD
      exact k_eMi hx hb hr hlocks hP hS (by rw [hrc]; first | done | rfl | (simp only [hcl]; first | done | rfl)) dX5_want_34
  · have c1 := bI_eq0 c1
    have hrc : rc_want x ln = 1 := by simp [rc_want, c1]
    refine lv_aload_n hx hb dX5_want_12 rfl (lv_at hl 0 rfl) ?_
    refine lv_iconst (v := 1) hx hb dX5_want_13 (by decide) ?_
    refine k_miV (As := [.int 1]) (rest := []) (w1 := []) (wc := mdW cI a N P T U (us v 5 0)) (wc' := mdW cI a N P T U (us v 5 1)) (w3 := []) ⟨hx, hb, hml, hown, hts⟩ (c_X5_fails l D cI cS cL a N P T U (us v 5 0) _ 1) lkX5_33 rfl rfl ⟨(Nat.le_of_ble_eq_true rfl), (Nat.le_of_ble_eq_true rfl)⟩ (va_recv hK hP (ci := 4) (q0 := 0) rfl rfl) hK hE hP hD hS hA rfl rfl hl.1 rfl (Nat.le_of_ble_eq_true rfl) dX5_want_14 ⟨Nat.zero_le _, Nat.zero_le _⟩ (fun H locs hzz hP hD hS => ?_)
    have hP : va_P D vwCl (mdW cI a N P T U (us v 5 1)) H := hP
    have hD : va_D (va_A (mdW cI a N P T U v) s.heap.size) (mdW cI a N P T U (us v 5 1)) := hD
    have w10 : N = (sN (rc_want x ln) N (up2 N 2 (kx x) ln)) := by rw [hrc]; first | done | rfl | (simp only [hcl]; first | done | rfl)
    have hP : va_P D vwCl (mdW cI a (sN (rc_want x ln) N (up2 N 2 (kx x) ln)) P T U (us v 5 1)) H := (congrArg (fun zz => va_P D vwCl (mdW cI a zz P T U (us v 5 1)) H) w10).mp hP
    have hD : va_D (va_A (mdW cI a N P T U v) s.heap.size) (mdW cI a (sN (rc_want x ln) N (up2 N 2 (kx x) ln)) P T U (us v 5 1)) := (congrArg (fun zz => va_D (va_A (mdW cI a N P T U v) s.heap.size) (mdW cI a zz P T U (us v 5 1))) w10).mp hD
    have w11 : P = (sP (rc_want x ln) P (flat N) kc) := by rw [hrc]; first | done | rfl | (simp only [hcl]; first | done | rfl)
    have hP : va_P D vwCl (mdW cI a (sN (rc_want x ln) N (up2 N 2 (kx x) ln)) (sP (rc_want x ln) P (flat N) kc) T U (us v 5 1)) H := (congrArg (fun zz => va_P D vwCl (mdW cI a (sN (rc_want x ln) N (up2 N 2 (kx x) ln)) zz T U (us v 5 1)) H) w11).mp hP
    have hD : va_D (va_A (mdW cI a N P T U v) s.heap.size) (mdW cI a (sN (rc_want x ln) N (up2 N 2 (kx x) ln)) (sP (rc_want x ln) P (flat N) kc) T U (us v 5 1)) := (congrArg (fun zz => va_D (va_A (mdW cI a N P T U v) s.heap.size) (mdW cI a (sN (rc_want x ln) N (up2 N 2 (kx x) ln)) zz T U (us v 5 1))) w11).mp hD
    have w12 : (us v 5 1) = (us (us v 2 (sK (rc_want x ln) kc)) 5 (rc_want x ln)) := by rw [hrc, show sK 1 kc = v 2 from hc.symm, us_v]; first | done | rfl
    have hP : va_P D vwCl (mdW cI a (sN (rc_want x ln) N (up2 N 2 (kx x) ln)) (sP (rc_want x ln) P (flat N) kc) T U (us (us v 2 (sK (rc_want x ln) kc)) 5 (rc_want x ln))) H := (congrArg (fun zz => va_P D vwCl (mdW cI a (sN (rc_want x ln) N (up2 N 2 (kx x) ln)) (sP (rc_want x ln) P (flat N) kc) T U zz) H) w12).mp hP
    have hD : va_D (va_A (mdW cI a N P T U v) s.heap.size) (mdW cI a (sN (rc_want x ln) N (up2 N 2 (kx x) ln)) (sP (rc_want x ln) P (flat N) kc) T U (us (us v 2 (sK (rc_want x ln) kc)) 5 (rc_want x ln))) := (congrArg (fun zz => va_D (va_A (mdW cI a N P T U v) s.heap.size) (mdW cI a (sN (rc_want x ln) N (up2 N 2 (kx x) ln)) (sP (rc_want x ln) P (flat N) kc) T U zz)) w12).mp hD
    have hP : va_P D vwCl (mdW cI a (sN (rc_want x ln) N (up2 N 2 (kx x) ln)) (sP (rc_want x ln) P (flat N) kc) T U (us (us v 2 (sK (rc_want x ln) kc)) 5 (rc_want x ln))) H := hP
    have hD : va_D (va_A (mdW cI a N P T U v) s.heap.size) (mdW cI a (sN (rc_want x ln) N (up2 N 2 (kx x) ln)) (sP (rc_want x ln) P (flat N) kc) T U (us (us v 2 (sK (rc_want x ln) kc)) 5 (rc_want x ln))) := hD
    exact k_eMi hx hb hr hlocks hP hS (by rw [hrc]; first | done | rfl | (simp only [hcl]; first | done | rfl)) dX5_want_17
