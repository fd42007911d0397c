abbrev rmX5_thrown : Room := { frames := 0, cells := 0, slots := 0, locals := 0 }
set_option maxHeartbeats 4000000 in
set_option maxRecDepth 100000 in
theorem c_X5_thrown (l : Launch) (D : va_G) (cI cS cL : ClassId) (a : Nat → Nat) (N : NN) (P T U v : Nat → Int32) (sz : Nat) : Met l yX5_thrown (wy_ yX5_thrown cX5_thrown 1 (some .int)) rmX5_thrown (kPc D (kTy cI cS cL) (mdW cI a N P T U v) sz [.ref (a 0)]) (kRi (v 5)) 0 0 noF := by
  refine k_ofW (by decide) (Nat.le_of_ble_eq_true rfl) ?_
  intro p e s m args below meth c hx hb hr hml hts hown hlocks hnm hsz hP hK hD hE ls hl
  subst hsz
  have hl : lv_has ls 1 [(0, .ref (a 0))] := hl
  refine lv_aload_n hx hb dX5_thrown_0 rfl (lv_at hl 0 rfl) ?_
  refine g5 hx hb hts hown hK hP 0 rfl 5 (by decide) flX5_22 (fun _ h => h) (v := .int (v 5)) rfl dX5_thrown_1 ?_
  exact k_eRi hx hb hr hlocks rfl dX5_thrown_4

abbrev rmX5_setting : Room := { frames := 1, cells := 0, slots := 0, locals := 22 }
set_option maxHeartbeats 4000000 in
set_option maxRecDepth 100000 in
theorem c_X5_setting (l : Launch) (D : va_G) (cI cS cL : ClassId) (a : Nat → Nat) (N : NN) (P T U v : Nat → Int32) (sz : Nat) (n : Nat) (x : Int32) (hn : N 1 2 = nI n) (hn14 : n ≤ 14) : Met l yX5_setting (wy_ yX5_setting cX5_setting 2 (some .int)) rmX5_setting (kPc D (kTy cI cS cL) (mdW cI a N P T U v) sz [.ref (a 0), .int x]) (kMi D (mdW cI a N P T U v) (mdW cI a N P T U (us v 5 (rc_set1 x))) sz (sR (rc_set1 x) (N 0 (kx x)))) 0 0 (va_A (mdW cI a N P T U v) sz) := by
  refine k_ofW (by decide) (Nat.le_of_ble_eq_true rfl) ?_
  intro p e s m args below meth c hx hb hr hml hts hown hlocks hnm hsz hP hK hD hE ls hl
  subst hsz
  have hA : ∀ q : Nat, s.heap.size ≤ q → (va_A (mdW cI a N P T U v) s.heap.size) q := fun q h => Or.inr h
  have hS : va_S (va_A (mdW cI a N P T U v) s.heap.size) s.heap s.heap [] := va_S.rf
  have hl : lv_has ls 2 [(0, .ref (a 0)), (1, .int x)] := hl
  refine lv_aload_n hx hb dX5_setting_0 rfl (lv_at hl 0 rfl) ?_
  refine lv_iconst (v := 0) hx hb dX5_setting_1 (by decide) ?_
  refine f5 hx hb hts hown hK hP hD hS 0 rfl 5 (by decide) flX5_22 (fun _ h => h) rfl rfl rfl (Nat.le_of_ble_eq_true rfl) dX5_setting_2 (fun H locs hP hD hS => ?_)
  have hP : va_P D vwCl (mdW cI a N P T U (us v 5 0)) H := hP
  have hD : va_D (va_A (mdW cI a N P T U v) s.heap.size) (mdW cI a N P T U (us v 5 0)) := hD
  refine lv_iload_n hx hb dX5_setting_5 rfl (lv_at hl 1 rfl) ?_
  refine lv_iconst (v := 0) hx hb dX5_setting_6 (by decide) ?_
  refine lv_iconst (v := 2) hx hb dX5_setting_7 (by decide) ?_
  refine k_riS (As := [.int x, .int 0, .int 2]) (rest := []) (wc := []) ⟨hx, hb, hml, hown, hts⟩ (c_X5_in l D cI cS cL _ x 0 2) lkX5_26 rfl rfl ⟨(Nat.le_of_ble_eq_true rfl), (Nat.le_of_ble_eq_true rfl)⟩ hK hE k_nilP (k_nilD (A := va_A (mdW cI a N P T U v) s.heap.size)) rfl hl.1 rfl (Nat.le_of_ble_eq_true rfl) dX5_setting_8 ⟨Nat.zero_le _, Nat.zero_le _⟩ ?_
  refine lv_if_eq (tgt := 23) hx hb dX5_setting_11 (by decide) (fun c1 => ?_) (fun c1 => ?_)
  · have c1 := bI_eq0 c1
    have hrc : rc_set1 x = 1 := by simp [rc_set1, c1]
    refine lv_aload_n hx hb dX5_setting_23 rfl (lv_at hl 0 rfl) ?_
    refine lv_iconst (v := 1) hx hb dX5_setting_24 (by decide) ?_
    refine k_miV (As := [.int 1]) (rest := []) (w1 := []) (wc := mdW cI a N P T U (us v 5 0)) (wc' := mdW cI a N P T U (us v 5 1)) (w3 := []) ⟨hx, hb, hml, hown, hts⟩ (c_X5_fails l D cI cS cL a N P T U (us v 5 0) _ 1) lkX5_33 rfl rfl ⟨(Nat.le_of_ble_eq_true rfl), (Nat.le_of_ble_eq_true rfl)⟩ (va_recv hK hP (ci := 4) (q0 := 0) rfl rfl) hK hE hP hD hS hA rfl rfl hl.1 rfl (Nat.le_of_ble_eq_true rfl) dX5_setting_25 ⟨Nat.zero_le _, Nat.zero_le _⟩ (fun H locs hzz hP hD hS => ?_)
    have hP : va_P D vwCl (mdW cI a N P T U (us v 5 1)) H := hP
    have hD : va_D (va_A (mdW cI a N P T U v) s.heap.size) (mdW cI a N P T U (us v 5 1)) := hD
    have w2 : (us v 5 1) = (us v 5 (rc_set1 x)) := by rw [hrc]; first | done | rfl
    have hP : va_P D vwCl (mdW cI a N P T U (us v 5 (rc_set1 x))) H := (congrArg (fun zz => va_P D vwCl (mdW cI a N P T U zz) H) w2).mp hP
    have hD : va_D (va_A (mdW cI a N P T U v) s.heap.size) (mdW cI a N P T U (us v 5 (rc_set1 x))) := (congrArg (fun zz => va_D (va_A (mdW cI a N P T U v) s.heap.size) (mdW cI a N P T U zz)) w2).mp hD
    have hP : va_P D vwCl (mdW cI a N P T U (us v 5 (rc_set1 x))) H := hP
    have hD : va_D (va_A (mdW cI a N P T U v) s.heap.size) (mdW cI a N P T U (us v 5 (rc_set1 x))) := hD
    exact k_eMi hx hb hr hlocks hP hS (by rw [hrc]; first | done | rfl | (simp only [hcl]; first | done | rfl) | (simp only [hcl, hclp]; first | done | rfl) | (simp only [hclp]; first | done | rfl)) dX5_setting_28
  · have c1 := bI_ne0 c1
    have hxx := c1
    obtain ⟨k, hk3, hxk⟩ := p_isT (c1).1 (c1).2
    subst hxk
    have hcl : kx (nI k) = k := kx_nI (by omega)
    have hrc : rc_set1 (nI k) = 0 := by simp [rc_set1, hxx, hcl]
    refine lv_aload_n hx hb dX5_setting_14 rfl (lv_at hl 0 rfl) ?_
    refine g5 hx hb hts hown hK hP 0 rfl 0 (by decide) flX5_7 (fun _ h => h) (v := .ref (a 1)) rfl dX5_setting_15 ?_
    refine lv_iload_n hx hb dX5_setting_18 rfl (lv_at hl 1 rfl) ?_
    refine k_ald (k := 0 + k) hx hb hK hP 1 0 rfl rfl (congrArg nI (Nat.zero_add k).symm) (by omega) (by decide) dX5_setting_19 ?_
    rw [show flat N (0 + k) = N 0 k from flat_set _ _ (by omega)]
    refine lv_goto (tgt := 28) hx hb dX5_setting_20 (by decide) ?_
    have w3 : (us v 5 0) = (us v 5 (rc_set1 (nI k))) := by rw [hrc]; first | done | rfl | (simp only [hcl]; first | done | rfl) | (simp only [hcl, hclp]; first | done | rfl) | (simp only [hclp]; first | done | rfl)
    have hP : va_P D vwCl (mdW cI a N P T U (us v 5 (rc_set1 (nI k)))) H := (congrArg (fun zz => va_P D vwCl (mdW cI a N P T U zz) H) w3).mp hP
    have hD : va_D (va_A (mdW cI a N P T U v) s.heap.size) (mdW cI a N P T U (us v 5 (rc_set1 (nI k)))) := (congrArg (fun zz => va_D (va_A (mdW cI a N P T U v) s.heap.size) (mdW cI a N P T U zz)) w3).mp hD
    have hP : va_P D vwCl (mdW cI a N P T U (us v 5 (rc_set1 (nI k)))) H := hP
    have hD : va_D (va_A (mdW cI a N P T U v) s.heap.size) (mdW cI a N P T U (us v 5 (rc_set1 (nI k)))) := hD
    exact k_eMi hx hb hr hlocks hP hS (by rw [hrc]; first | done | rfl | (simp only [hcl]; first | done | rfl) | (simp only [hcl, hclp]; first | done | rfl) | (simp only [hclp]; first | done | rfl)) dX5_setting_28

abbrev rmX5_set : Room := { frames := 1, cells := 0, slots := 0, locals := 23 }
set_option maxHeartbeats 4000000 in
set_option maxRecDepth 100000 in
theorem c_X5_set (l : Launch) (D : va_G) (cI cS cL : ClassId) (a : Nat → Nat) (N : NN) (P T U v : Nat → Int32) (sz : Nat) (n kc : Nat) (x y : Int32) (hn : N 1 2 = nI n) (hn14 : n ≤ 14) (hc : v 2 = nI kc) (hc6 : kc ≤ 6) : Met l yX5_set (wy_ yX5_set cX5_set 3 (some .int)) rmX5_set (kPc D (kTy cI cS cL) (mdW cI a N P T U v) sz [.ref (a 0), .int x, .int y]) (kMi D (mdW cI a N P T U v) (mdW cI a (sN (rc_set x y) N (up2 N 0 (kx x) y)) (sP (rc_set x y) P (flat N) kc) T U (us (us v 2 (sK (rc_set x y) kc)) 5 (rc_set x y))) sz (sR (rc_set x y) (N 0 (kx x)))) 0 0 (va_A (mdW cI a N P T U v) sz) := by
  refine k_ofW (by decide) (Nat.le_of_ble_eq_true rfl) ?_
  intro p e s m args below meth c hx hb hr hml hts hown hlocks hnm hsz hP hK hD hE ls hl
  subst hsz
  have hA : ∀ q : Nat, s.heap.size ≤ q → (va_A (mdW cI a N P T U v) s.heap.size) q := fun q h => Or.inr h
  have hS : va_S (va_A (mdW cI a N P T U v) s.heap.size) s.heap s.heap [] := va_S.rf
  have hl : lv_has ls 3 [(0, .ref (a 0)), (1, .int x), (2, .int y)] := hl
  refine lv_aload_n hx hb dX5_set_0 rfl (lv_at hl 0 rfl) ?_
  refine lv_iconst (v := 0) hx hb dX5_set_1 (by decide) ?_
  refine f5 hx hb hts hown hK hP hD hS 0 rfl 5 (by decide) flX5_22 (fun _ h => h) rfl rfl rfl (Nat.le_of_ble_eq_true rfl) dX5_set_2 (fun H locs hP hD hS => ?_)
  have hP : va_P D vwCl (mdW cI a N P T U (us v 5 0)) H := hP
  have hD : va_D (va_A (mdW cI a N P T U v) s.heap.size) (mdW cI a N P T U (us v 5 0)) := hD
  refine lv_iload_n hx hb dX5_set_5 rfl (lv_at hl 1 rfl) ?_
  refine lv_iconst (v := 0) hx hb dX5_set_6 (by decide) ?_
  refine lv_iconst (v := 2) hx hb dX5_set_7 (by decide) ?_
  refine k_riS (As := [.int x, .int 0, .int 2]) (rest := []) (wc := []) ⟨hx, hb, hml, hown, hts⟩ (c_X5_in l D cI cS cL _ x 0 2) lkX5_26 rfl rfl ⟨(Nat.le_of_ble_eq_true rfl), (Nat.le_of_ble_eq_true rfl)⟩ hK hE k_nilP (k_nilD (A := va_A (mdW cI a N P T U v) s.heap.size)) rfl hl.1 rfl (Nat.le_of_ble_eq_true rfl) dX5_set_8 ⟨Nat.zero_le _, Nat.zero_le _⟩ ?_
  refine lv_if_ne (tgt := 20) hx hb dX5_set_11 (by decide) (fun c1 => ?_) (fun c1 => ?_)
  · have c1 := bI_ne0 c1
    have hxx := c1
    obtain ⟨k, hk3, hxk⟩ := p_isT (c1).1 (c1).2
    subst hxk
    have hcl : kx (nI k) = k := kx_nI (by omega)
    by_cases c2 : k = 0
    · subst c2
      have hkv : nI 0 = 0 := rfl
      refine lv_iload_n hx hb dX5_set_20 rfl (lv_at hl 2 rfl) ?_
      refine lv_iload_n hx hb dX5_set_21 rfl (lv_at hl 1 rfl) ?_
      refine lv_if_ne (tgt := 29) hx hb dX5_set_22 (by decide) (fun h => absurd (by decide) h) (fun _ => ?_)
      refine lv_iconst (v := 4) hx hb dX5_set_25 (by decide) ?_
      refine lv_goto (tgt := 30) hx hb dX5_set_26 (by decide) ?_
      refine lv_iload_n hx hb dX5_set_30 rfl (lv_at hl 1 rfl) ?_
      refine lv_if_ne (tgt := 39) hx hb dX5_set_31 (by decide) (fun h => absurd (by decide) h) (fun _ => ?_)
      refine lv_bipush (v := 24) hx hb dX5_set_34 (by decide) ?_
      refine lv_goto (tgt := 51) hx hb dX5_set_36 (by decide) ?_
      refine k_riS (As := [.int y, .int 4, .int 24]) (rest := []) (wc := []) ⟨hx, hb, hml, hown, hts⟩ (c_X5_in l D cI cS cL _ y 4 24) lkX5_26 rfl rfl ⟨(Nat.le_of_ble_eq_true rfl), (Nat.le_of_ble_eq_true rfl)⟩ hK hE k_nilP (k_nilD (A := va_A (mdW cI a N P T U v) s.heap.size)) rfl hl.1 rfl (Nat.le_of_ble_eq_true rfl) dX5_set_51 ⟨Nat.zero_le _, Nat.zero_le _⟩ ?_
      refine lv_if_ne (tgt := 63) hx hb dX5_set_54 (by decide) (fun c3 => ?_) (fun c3 => ?_)
      · have c3 := bI_ne0 c3
        have hrc : rc_set (nI 0) y = 0 := by simp [rc_set, set_lo, set_hi, hxx, hcl, hkv, c3]
        refine lv_aload_n hx hb dX5_set_63 rfl (lv_at hl 0 rfl) ?_
        refine k_mvV (As := []) (rest := []) (w1 := []) (wc := mdW cI a N P T U (us v 5 0)) (wc' := mdW cI a N (m_sv P (flat N) kc) T U (us (us v 2 (nI (m_kc kc))) 5 0)) (w3 := []) ⟨hx, hb, hml, hown, hts⟩ (c_X5_saves l D cI cS cL a N P T U (us v 5 0) _ kc hc (by omega)) lkX5_77 rfl rfl ⟨(Nat.le_of_ble_eq_true rfl), (Nat.le_of_ble_eq_true rfl)⟩ (va_recv hK hP (ci := 4) (q0 := 0) rfl rfl) hK hE hP hD hS hA rfl rfl hl.1 rfl (Nat.le_of_ble_eq_true rfl) dX5_set_64 ⟨Nat.zero_le _, Nat.zero_le _⟩ (fun H locs hzz hP hD hS => ?_)
        have hP : va_P D vwCl (mdW cI a N (m_sv P (flat N) kc) T U (us (us v 2 (nI (m_kc kc))) 5 0)) H := hP
        have hD : va_D (va_A (mdW cI a N P T U v) s.heap.size) (mdW cI a N (m_sv P (flat N) kc) T U (us (us v 2 (nI (m_kc kc))) 5 0)) := hD
        refine lv_aload_n hx hb dX5_set_67 rfl (lv_at hl 0 rfl) ?_
        refine lv_iload_n hx hb dX5_set_68 rfl (lv_at hl 1 rfl) ?_
        refine lv_iload_n hx hb dX5_set_69 rfl (lv_at hl 2 rfl) ?_
        refine k_miV (As := [.int (nI 0), .int y]) (rest := []) (w1 := []) (wc := mdW cI a N (m_sv P (flat N) kc) T U (us (us v 2 (nI (m_kc kc))) 5 0)) (wc' := mdW cI a ((up2 N 0 0 y)) (m_sv P (flat N) kc) T U (us (us v 2 (nI (m_kc kc))) 5 0)) (w3 := []) ⟨hx, hb, hml, hown, hts⟩ (c_X5_changes l D cI cS cL a N (m_sv P (flat N) kc) T U (us (us v 2 (nI (m_kc kc))) 5 0) _ 0 y (up2 N 0 0 y) (N 0 0) (by omega) (flat_put0 N y) rfl) lkX5_90 rfl rfl ⟨(Nat.le_of_ble_eq_true rfl), (Nat.le_of_ble_eq_true rfl)⟩ (va_recv hK hP (ci := 4) (q0 := 0) rfl rfl) hK hE hP hD hS hA rfl rfl hl.1 rfl (Nat.le_of_ble_eq_true rfl) dX5_set_70 ⟨Nat.zero_le _, Nat.zero_le _⟩ (fun H locs hzz hP hD hS => ?_)
        have hP : va_P D vwCl (mdW cI a ((up2 N 0 0 y)) (m_sv P (flat N) kc) T U (us (us v 2 (nI (m_kc kc))) 5 0)) H := hP
        have hD : va_D (va_A (mdW cI a N P T U v) s.heap.size) (mdW cI a ((up2 N 0 0 y)) (m_sv P (flat N) kc) T U (us (us v 2 (nI (m_kc kc))) 5 0)) := hD
        have w4 : ((up2 N 0 0 y)) = (sN (rc_set (nI 0) y) N (up2 N 0 (kx (nI 0)) y)) := by rw [hrc]; first | done | rfl | (simp only [hcl]; first | done | rfl) | (simp only [hcl, hclp]; first | done | rfl) | (simp only [hclp]; first | done | rfl)
        have hP : va_P D vwCl (mdW cI a (sN (rc_set (nI 0) y) N (up2 N 0 (kx (nI 0)) y)) (m_sv P (flat N) kc) T U (us (us v 2 (nI (m_kc kc))) 5 0)) H := (congrArg (fun zz => va_P D vwCl (mdW cI a zz (m_sv P (flat N) kc) T U (us (us v 2 (nI (m_kc kc))) 5 0)) H) w4).mp hP
        have hD : va_D (va_A (mdW cI a N P T U v) s.heap.size) (mdW cI a (sN (rc_set (nI 0) y) N (up2 N 0 (kx (nI 0)) y)) (m_sv P (flat N) kc) T U (us (us v 2 (nI (m_kc kc))) 5 0)) := (congrArg (fun zz => va_D (va_A (mdW cI a N P T U v) s.heap.size) (mdW cI a zz (m_sv P (flat N) kc) T U (us (us v 2 (nI (m_kc kc))) 5 0))) w4).mp hD
        have w5 : (m_sv P (flat N) kc) = (sP (rc_set (nI 0) y) P (flat N) kc) := by rw [hrc]; first | done | rfl | (simp only [hcl]; first | done | rfl) | (simp only [hcl, hclp]; first | done | rfl) | (simp only [hclp]; first | done | rfl)
        have hP : va_P D vwCl (mdW cI a (sN (rc_set (nI 0) y) N (up2 N 0 (kx (nI 0)) y)) (sP (rc_set (nI 0) y) P (flat N) kc) T U (us (us v 2 (nI (m_kc kc))) 5 0)) H := (congrArg (fun zz => va_P D vwCl (mdW cI a (sN (rc_set (nI 0) y) N (up2 N 0 (kx (nI 0)) y)) zz T U (us (us v 2 (nI (m_kc kc))) 5 0)) H) w5).mp hP
        have hD : va_D (va_A (mdW cI a N P T U v) s.heap.size) (mdW cI a (sN (rc_set (nI 0) y) N (up2 N 0 (kx (nI 0)) y)) (sP (rc_set (nI 0) y) P (flat N) kc) T U (us (us v 2 (nI (m_kc kc))) 5 0)) := (congrArg (fun zz => va_D (va_A (mdW cI a N P T U v) s.heap.size) (mdW cI a (sN (rc_set (nI 0) y) N (up2 N 0 (kx (nI 0)) y)) zz T U (us (us v 2 (nI (m_kc kc))) 5 0))) w5).mp hD
        have w6 : (us (us v 2 (nI (m_kc kc))) 5 0) = (us (us v 2 (sK (rc_set (nI 0) y) kc)) 5 (rc_set (nI 0) y)) := by rw [hrc]; first | done | rfl | (simp only [hcl]; first | done | rfl) | (simp only [hcl, hclp]; first | done | rfl) | (simp only [hclp]; first | done | rfl)
        have hP : va_P D vwCl (mdW cI a (sN (rc_set (nI 0) y) N (up2 N 0 (kx (nI 0)) y)) (sP (rc_set (nI 0) y) P (flat N) kc) T U (us (us v 2 (sK (rc_set (nI 0) y) kc)) 5 (rc_set (nI 0) y))) H := (congrArg (fun zz => va_P D vwCl (mdW cI a (sN (rc_set (nI 0) y) N (up2 N 0 (kx (nI 0)) y)) (sP (rc_set (nI 0) y) P (flat N) kc) T U zz) H) w6).mp hP
        have hD : va_D (va_A (mdW cI a N P T U v) s.heap.size) (mdW cI a (sN (rc_set (nI 0) y) N (up2 N 0 (kx (nI 0)) y)) (sP (rc_set (nI 0) y) P (flat N) kc) T U (us (us v 2 (sK (rc_set (nI 0) y) kc)) 5 (rc_set (nI 0) y))) := (congrArg (fun zz => va_D (va_A (mdW cI a N P T U v) s.heap.size) (mdW cI a (sN (rc_set (nI 0) y) N (up2 N 0 (kx (nI 0)) y)) (sP (rc_set (nI 0) y) P (flat N) kc) T U zz)) w6).mp hD
        have hP : va_P D vwCl (mdW cI a (sN (rc_set (nI 0) y) N (up2 N 0 (kx (nI 0)) y)) (sP (rc_set (nI 0) y) P (flat N) kc) T U (us (us v 2 (sK (rc_set (nI 0) y) kc)) 5 (rc_set (nI 0) y))) H := hP
        have hD : va_D (va_A (mdW cI a N P T U v) s.heap.size) (mdW cI a (sN (rc_set (nI 0) y) N (up2 N 0 (kx (nI 0)) y)) (sP (rc_set (nI 0) y) P (flat N) kc) T U (us (us v 2 (sK (rc_set (nI 0) y) kc)) 5 (rc_set (nI 0) y))) := hD
        exact k_eMi hx hb hr hlocks hP hS (by rw [hrc]; first | done | rfl | (simp only [hcl]; first | done | rfl) | (simp only [hcl, hclp]; first | done | rfl) | (simp only [hclp]; first | done | rfl)) dX5_set_73
      · have c3 := bI_eq0 c3
        have hrc : rc_set (nI 0) y = 2 := by simp [rc_set, set_lo, set_hi, hxx, hcl, hkv, c3]
        refine lv_aload_n hx hb dX5_set_57 rfl (lv_at hl 0 rfl) ?_
        refine lv_iconst (v := 2) hx hb dX5_set_58 (by decide) ?_
        refine k_miV (As := [.int 2]) (rest := []) (w1 := []) (wc := mdW cI a N P T U (us v 5 0)) (wc' := mdW cI a N P T U (us v 5 2)) (w3 := []) ⟨hx, hb, hml, hown, hts⟩ (c_X5_fails l D cI cS cL a N P T U (us v 5 0) _ 2) lkX5_33 rfl rfl ⟨(Nat.le_of_ble_eq_true rfl), (Nat.le_of_ble_eq_true rfl)⟩ (va_recv hK hP (ci := 4) (q0 := 0) rfl rfl) hK hE hP hD hS hA rfl rfl hl.1 rfl (Nat.le_of_ble_eq_true rfl) dX5_set_59 ⟨Nat.zero_le _, Nat.zero_le _⟩ (fun H locs hzz hP hD hS => ?_)
        have hP : va_P D vwCl (mdW cI a N P T U (us v 5 2)) H := hP
        have hD : va_D (va_A (mdW cI a N P T U v) s.heap.size) (mdW cI a N P T U (us v 5 2)) := hD
        have w7 : N = (sN (rc_set (nI 0) y) N (up2 N 0 (kx (nI 0)) y)) := by rw [hrc]; first | done | rfl | (simp only [hcl]; first | done | rfl) | (simp only [hcl, hclp]; first | done | rfl) | (simp only [hclp]; first | done | rfl)
        have hP : va_P D vwCl (mdW cI a (sN (rc_set (nI 0) y) N (up2 N 0 (kx (nI 0)) y)) P T U (us v 5 2)) H := (congrArg (fun zz => va_P D vwCl (mdW cI a zz P T U (us v 5 2)) H) w7).mp hP
        have hD : va_D (va_A (mdW cI a N P T U v) s.heap.size) (mdW cI a (sN (rc_set (nI 0) y) N (up2 N 0 (kx (nI 0)) y)) P T U (us v 5 2)) := (congrArg (fun zz => va_D (va_A (mdW cI a N P T U v) s.heap.size) (mdW cI a zz P T U (us v 5 2))) w7).mp hD
        have w8 : P = (sP (rc_set (nI 0) y) P (flat N) kc) := by rw [hrc]; first | done | rfl | (simp only [hcl]; first | done | rfl) | (simp only [hcl, hclp]; first | done | rfl) | (simp only [hclp]; first | done | rfl)
        have hP : va_P D vwCl (mdW cI a (sN (rc_set (nI 0) y) N (up2 N 0 (kx (nI 0)) y)) (sP (rc_set (nI 0) y) P (flat N) kc) T U (us v 5 2)) H := (congrArg (fun zz => va_P D vwCl (mdW cI a (sN (rc_set (nI 0) y) N (up2 N 0 (kx (nI 0)) y)) zz T U (us v 5 2)) H) w8).mp hP
        have hD : va_D (va_A (mdW cI a N P T U v) s.heap.size) (mdW cI a (sN (rc_set (nI 0) y) N (up2 N 0 (kx (nI 0)) y)) (sP (rc_set (nI 0) y) P (flat N) kc) T U (us v 5 2)) := (congrArg (fun zz => va_D (va_A (mdW cI a N P T U v) s.heap.size) (mdW cI a (sN (rc_set (nI 0) y) N (up2 N 0 (kx (nI 0)) y)) zz T U (us v 5 2))) w8).mp hD
        have w9 : (us v 5 2) = (us (us v 2 (sK (rc_set (nI 0) y) kc)) 5 (rc_set (nI 0) y)) := by rw [hrc, show sK 2 kc = v 2 from hc.symm, us_v]; first | done | rfl
        have hP : va_P D vwCl (mdW cI a (sN (rc_set (nI 0) y) N (up2 N 0 (kx (nI 0)) y)) (sP (rc_set (nI 0) y) P (flat N) kc) T U (us (us v 2 (sK (rc_set (nI 0) y) kc)) 5 (rc_set (nI 0) y))) H := (congrArg (fun zz => va_P D vwCl (mdW cI a (sN (rc_set (nI 0) y) N (up2 N 0 (kx (nI 0)) y)) (sP (rc_set (nI 0) y) P (flat N) kc) T U zz) H) w9).mp hP
        have hD : va_D (va_A (mdW cI a N P T U v) s.heap.size) (mdW cI a (sN (rc_set (nI 0) y) N (up2 N 0 (kx (nI 0)) y)) (sP (rc_set (nI 0) y) P (flat N) kc) T U (us (us v 2 (sK (rc_set (nI 0) y) kc)) 5 (rc_set (nI 0) y))) := (congrArg (fun zz => va_D (va_A (mdW cI a N P T U v) s.heap.size) (mdW cI a (sN (rc_set (nI 0) y) N (up2 N 0 (kx (nI 0)) y)) (sP (rc_set (nI 0) y) P (flat N) kc) T U zz)) w9).mp hD
        have hP : va_P D vwCl (mdW cI a (sN (rc_set (nI 0) y) N (up2 N 0 (kx (nI 0)) y)) (sP (rc_set (nI 0) y) P (flat N) kc) T U (us (us v 2 (sK (rc_set (nI 0) y) kc)) 5 (rc_set (nI 0) y))) H := hP
        have hD : va_D (va_A (mdW cI a N P T U v) s.heap.size) (mdW cI a (sN (rc_set (nI 0) y) N (up2 N 0 (kx (nI 0)) y)) (sP (rc_set (nI 0) y) P (flat N) kc) T U (us (us v 2 (sK (rc_set (nI 0) y) kc)) 5 (rc_set (nI 0) y))) := hD
        exact k_eMi hx hb hr hlocks hP hS (by rw [hrc]; first | done | rfl | (simp only [hcl]; first | done | rfl) | (simp only [hcl, hclp]; first | done | rfl) | (simp only [hclp]; first | done | rfl)) dX5_set_62
    by_cases c10 : k = 1
    · subst c10
      have hkv : nI 1 = 1 := rfl
      refine lv_iload_n hx hb dX5_set_20 rfl (lv_at hl 2 rfl) ?_
      refine lv_iload_n hx hb dX5_set_21 rfl (lv_at hl 1 rfl) ?_
      refine lv_if_ne (tgt := 29) hx hb dX5_set_22 (by decide) (fun _ => ?_) (fun h => absurd h (by decide))
      refine lv_iconst (v := 0) hx hb dX5_set_29 (by decide) ?_
      refine lv_iload_n hx hb dX5_set_30 rfl (lv_at hl 1 rfl) ?_
      refine lv_if_ne (tgt := 39) hx hb dX5_set_31 (by decide) (fun _ => ?_) (fun h => absurd h (by decide))
      refine lv_iload_n hx hb dX5_set_39 rfl (lv_at hl 1 rfl) ?_
      refine lv_iconst (v := 1) hx hb dX5_set_40 (by decide) ?_
      refine lv_icmp_ne (tgt := 48) hx hb dX5_set_41 (by decide) (fun h => absurd (by decide) h) (fun _ => ?_)
      refine lv_iconst (v := 5) hx hb dX5_set_44 (by decide) ?_
      refine lv_goto (tgt := 51) hx hb dX5_set_45 (by decide) ?_
      refine k_riS (As := [.int y, .int 0, .int 5]) (rest := []) (wc := []) ⟨hx, hb, hml, hown, hts⟩ (c_X5_in l D cI cS cL _ y 0 5) lkX5_26 rfl rfl ⟨(Nat.le_of_ble_eq_true rfl), (Nat.le_of_ble_eq_true rfl)⟩ hK hE k_nilP (k_nilD (A := va_A (mdW cI a N P T U v) s.heap.size)) rfl hl.1 rfl (Nat.le_of_ble_eq_true rfl) dX5_set_51 ⟨Nat.zero_le _, Nat.zero_le _⟩ ?_
      refine lv_if_ne (tgt := 63) hx hb dX5_set_54 (by decide) (fun c11 => ?_) (fun c11 => ?_)
      · have c11 := bI_ne0 c11
        have hrc : rc_set (nI 1) y = 0 := by simp [rc_set, set_lo, set_hi, hxx, hcl, hkv, c11]
        refine lv_aload_n hx hb dX5_set_63 rfl (lv_at hl 0 rfl) ?_
        refine k_mvV (As := []) (rest := []) (w1 := []) (wc := mdW cI a N P T U (us v 5 0)) (wc' := mdW cI a N (m_sv P (flat N) kc) T U (us (us v 2 (nI (m_kc kc))) 5 0)) (w3 := []) ⟨hx, hb, hml, hown, hts⟩ (c_X5_saves l D cI cS cL a N P T U (us v 5 0) _ kc hc (by omega)) lkX5_77 rfl rfl ⟨(Nat.le_of_ble_eq_true rfl), (Nat.le_of_ble_eq_true rfl)⟩ (va_recv hK hP (ci := 4) (q0 := 0) rfl rfl) hK hE hP hD hS hA rfl rfl hl.1 rfl (Nat.le_of_ble_eq_true rfl) dX5_set_64 ⟨Nat.zero_le _, Nat.zero_le _⟩ (fun H locs hzz hP hD hS => ?_)
        have hP : va_P D vwCl (mdW cI a N (m_sv P (flat N) kc) T U (us (us v 2 (nI (m_kc kc))) 5 0)) H := hP
        have hD : va_D (va_A (mdW cI a N P T U v) s.heap.size) (mdW cI a N (m_sv P (flat N) kc) T U (us (us v 2 (nI (m_kc kc))) 5 0)) := hD
        refine lv_aload_n hx hb dX5_set_67 rfl (lv_at hl 0 rfl) ?_
        refine lv_iload_n hx hb dX5_set_68 rfl (lv_at hl 1 rfl) ?_
        refine lv_iload_n hx hb dX5_set_69 rfl (lv_at hl 2 rfl) ?_
        refine k_miV (As := [.int (nI 1), .int y]) (rest := []) (w1 := []) (wc := mdW cI a N (m_sv P (flat N) kc) T U (us (us v 2 (nI (m_kc kc))) 5 0)) (wc' := mdW cI a ((up2 N 0 1 y)) (m_sv P (flat N) kc) T U (us (us v 2 (nI (m_kc kc))) 5 0)) (w3 := []) ⟨hx, hb, hml, hown, hts⟩ (c_X5_changes l D cI cS cL a N (m_sv P (flat N) kc) T U (us (us v 2 (nI (m_kc kc))) 5 0) _ 1 y (up2 N 0 1 y) (N 0 1) (by omega) (flat_put1 N y) rfl) lkX5_90 rfl rfl ⟨(Nat.le_of_ble_eq_true rfl), (Nat.le_of_ble_eq_true rfl)⟩ (va_recv hK hP (ci := 4) (q0 := 0) rfl rfl) hK hE hP hD hS hA rfl rfl hl.1 rfl (Nat.le_of_ble_eq_true rfl) dX5_set_70 ⟨Nat.zero_le _, Nat.zero_le _⟩ (fun H locs hzz hP hD hS => ?_)
        have hP : va_P D vwCl (mdW cI a ((up2 N 0 1 y)) (m_sv P (flat N) kc) T U (us (us v 2 (nI (m_kc kc))) 5 0)) H := hP
        have hD : va_D (va_A (mdW cI a N P T U v) s.heap.size) (mdW cI a ((up2 N 0 1 y)) (m_sv P (flat N) kc) T U (us (us v 2 (nI (m_kc kc))) 5 0)) := hD
        have w12 : ((up2 N 0 1 y)) = (sN (rc_set (nI 1) y) N (up2 N 0 (kx (nI 1)) y)) := by rw [hrc]; first | done | rfl | (simp only [hcl]; first | done | rfl) | (simp only [hcl, hclp]; first | done | rfl) | (simp only [hclp]; first | done | rfl)
        have hP : va_P D vwCl (mdW cI a (sN (rc_set (nI 1) y) N (up2 N 0 (kx (nI 1)) y)) (m_sv P (flat N) kc) T U (us (us v 2 (nI (m_kc kc))) 5 0)) H := (congrArg (fun zz => va_P D vwCl (mdW cI a zz (m_sv P (flat N) kc) T U (us (us v 2 (nI (m_kc kc))) 5 0)) H) w12).mp hP
        have hD : va_D (va_A (mdW cI a N P T U v) s.heap.size) (mdW cI a (sN (rc_set (nI 1) y) N (up2 N 0 (kx (nI 1)) y)) (m_sv P (flat N) kc) T U (us (us v 2 (nI (m_kc kc))) 5 0)) := (congrArg (fun zz => va_D (va_A (mdW cI a N P T U v) s.heap.size) (mdW cI a zz (m_sv P (flat N) kc) T U (us (us v 2 (nI (m_kc kc))) 5 0))) w12).mp hD
        have w13 : (m_sv P (flat N) kc) = (sP (rc_set (nI 1) y) P (flat N) kc) := by rw [hrc]; first | done | rfl | (simp only [hcl]; first | done | rfl) | (simp only [hcl, hclp]; first | done | rfl) | (simp only [hclp]; first | done | rfl)
        have hP : va_P D vwCl (mdW cI a (sN (rc_set (nI 1) y) N (up2 N 0 (kx (nI 1)) y)) (sP (rc_set (nI 1) y) P (flat N) kc) T U (us (us v 2 (nI (m_kc kc))) 5 0)) H := (congrArg (fun zz => va_P D vwCl (mdW cI a (sN (rc_set (nI 1) y) N (up2 N 0 (kx (nI 1)) y)) zz T U (us (us v 2 (nI (m_kc kc))) 5 0)) H) w13).mp hP
        have hD : va_D (va_A (mdW cI a N P T U v) s.heap.size) (mdW cI a (sN (rc_set (nI 1) y) N (up2 N 0 (kx (nI 1)) y)) (sP (rc_set (nI 1) y) P (flat N) kc) T U (us (us v 2 (nI (m_kc kc))) 5 0)) := (congrArg (fun zz => va_D (va_A (mdW cI a N P T U v) s.heap.size) (mdW cI a (sN (rc_set (nI 1) y) N (up2 N 0 (kx (nI 1)) y)) zz T U (us (us v 2 (nI (m_kc kc))) 5 0))) w13).mp hD
        have w14 : (us (us v 2 (nI (m_kc kc))) 5 0) = (us (us v 2 (sK (rc_set (nI 1) y) kc)) 5 (rc_set (nI 1) y)) := by rw [hrc]; first | done | rfl | (simp only [hcl]; first | done | rfl) | (simp only [hcl, hclp]; first | done | rfl) | (simp only [hclp]; first | done | rfl)
        have hP : va_P D vwCl (mdW cI a (sN (rc_set (nI 1) y) N (up2 N 0 (kx (nI 1)) y)) (sP (rc_set (nI 1) y) P (flat N) kc) T U (us (us v 2 (sK (rc_set (nI 1) y) kc)) 5 (rc_set (nI 1) y))) H := (congrArg (fun zz => va_P D vwCl (mdW cI a (sN (rc_set (nI 1) y) N (up2 N 0 (kx (nI 1)) y)) (sP (rc_set (nI 1) y) P (flat N) kc) T U zz) H) w14).mp hP
        have hD : va_D (va_A (mdW cI a N P T U v) s.heap.size) (mdW cI a (sN (rc_set (nI 1) y) N (up2 N 0 (kx (nI 1)) y)) (sP (rc_set (nI 1) y) P (flat N) kc) T U (us (us v 2 (sK (rc_set (nI 1) y) kc)) 5 (rc_set (nI 1) y))) := (congrArg (fun zz => va_D (va_A (mdW cI a N P T U v) s.heap.size) (mdW cI a (sN (rc_set (nI 1) y) N (up2 N 0 (kx (nI 1)) y)) (sP (rc_set (nI 1) y) P (flat N) kc) T U zz)) w14).mp hD
        have hP : va_P D vwCl (mdW cI a (sN (rc_set (nI 1) y) N (up2 N 0 (kx (nI 1)) y)) (sP (rc_set (nI 1) y) P (flat N) kc) T U (us (us v 2 (sK (rc_set (nI 1) y) kc)) 5 (rc_set (nI 1) y))) H := hP
        have hD : va_D (va_A (mdW cI a N P T U v) s.heap.size) (mdW cI a (sN (rc_set (nI 1) y) N (up2 N 0 (kx (nI 1)) y)) (sP (rc_set (nI 1) y) P (flat N) kc) T U (us (us v 2 (sK (rc_set (nI 1) y) kc)) 5 (rc_set (nI 1) y))) := hD
        exact k_eMi hx hb hr hlocks hP hS (by rw [hrc]; first | done | rfl | (simp only [hcl]; first | done | rfl) | (simp only [hcl, hclp]; first | done | rfl) | (simp only [hclp]; first | done | rfl)) dX5_set_73
      · have c11 := bI_eq0 c11
        have hrc : rc_set (nI 1) y = 2 := by simp [rc_set, set_lo, set_hi, hxx, hcl, hkv, c11]
        refine lv_aload_n hx hb dX5_set_57 rfl (lv_at hl 0 rfl) ?_
        refine lv_iconst (v := 2) hx hb dX5_set_58 (by decide) ?_
        refine k_miV (As := [.int 2]) (rest := []) (w1 := []) (wc := mdW cI a N P T U (us v 5 0)) (wc' := mdW cI a N P T U (us v 5 2)) (w3 := []) ⟨hx, hb, hml, hown, hts⟩ (c_X5_fails l D cI cS cL a N P T U (us v 5 0) _ 2) lkX5_33 rfl rfl ⟨(Nat.le_of_ble_eq_true rfl), (Nat.le_of_ble_eq_true rfl)⟩ (va_recv hK hP (ci := 4) (q0 := 0) rfl rfl) hK hE hP hD hS hA rfl rfl hl.1 rfl (Nat.le_of_ble_eq_true rfl) dX5_set_59 ⟨Nat.zero_le _, Nat.zero_le _⟩ (fun H locs hzz hP hD hS => ?_)
        have hP : va_P D vwCl (mdW cI a N P T U (us v 5 2)) H := hP
        have hD : va_D (va_A (mdW cI a N P T U v) s.heap.size) (mdW cI a N P T U (us v 5 2)) := hD
        have w15 : N = (sN (rc_set (nI 1) y) N (up2 N 0 (kx (nI 1)) y)) := by rw [hrc]; first | done | rfl | (simp only [hcl]; first | done | rfl) | (simp only [hcl, hclp]; first | done | rfl) | (simp only [hclp]; first | done | rfl)
        have hP : va_P D vwCl (mdW cI a (sN (rc_set (nI 1) y) N (up2 N 0 (kx (nI 1)) y)) P T U (us v 5 2)) H := (congrArg (fun zz => va_P D vwCl (mdW cI a zz P T U (us v 5 2)) H) w15).mp hP
        have hD : va_D (va_A (mdW cI a N P T U v) s.heap.size) (mdW cI a (sN (rc_set (nI 1) y) N (up2 N 0 (kx (nI 1)) y)) P T U (us v 5 2)) := (congrArg (fun zz => va_D (va_A (mdW cI a N P T U v) s.heap.size) (mdW cI a zz P T U (us v 5 2))) w15).mp hD
        have w16 : P = (sP (rc_set (nI 1) y) P (flat N) kc) := by rw [hrc]; first | done | rfl | (simp only [hcl]; first | done | rfl) | (simp only [hcl, hclp]; first | done | rfl) | (simp only [hclp]; first | done | rfl)
        have hP : va_P D vwCl (mdW cI a (sN (rc_set (nI 1) y) N (up2 N 0 (kx (nI 1)) y)) (sP (rc_set (nI 1) y) P (flat N) kc) T U (us v 5 2)) H := (congrArg (fun zz => va_P D vwCl (mdW cI a (sN (rc_set (nI 1) y) N (up2 N 0 (kx (nI 1)) y)) zz T U (us v 5 2)) H) w16).mp hP
        have hD : va_D (va_A (mdW cI a N P T U v) s.heap.size) (mdW cI a (sN (rc_set (nI 1) y) N (up2 N 0 (kx (nI 1)) y)) (sP (rc_set (nI 1) y) P (flat N) kc) T U (us v 5 2)) := (congrArg (fun zz => va_D (va_A (mdW cI a N P T U v) s.heap.size) (mdW cI a (sN (rc_set (nI 1) y) N (up2 N 0 (kx (nI 1)) y)) zz T U (us v 5 2))) w16).mp hD
        have w17 : (us v 5 2) = (us (us v 2 (sK (rc_set (nI 1) y) kc)) 5 (rc_set (nI 1) y)) := by rw [hrc, show sK 2 kc = v 2 from hc.symm, us_v]; first | done | rfl
        have hP : va_P D vwCl (mdW cI a (sN (rc_set (nI 1) y) N (up2 N 0 (kx (nI 1)) y)) (sP (rc_set (nI 1) y) P (flat N) kc) T U (us (us v 2 (sK (rc_set (nI 1) y) kc)) 5 (rc_set (nI 1) y))) H := (congrArg (fun zz => va_P D vwCl (mdW cI a (sN (rc_set (nI 1) y) N (up2 N 0 (kx (nI 1)) y)) (sP (rc_set (nI 1) y) P (flat N) kc) T U zz) H) w17).mp hP
        have hD : va_D (va_A (mdW cI a N P T U v) s.heap.size) (mdW cI a (sN (rc_set (nI 1) y) N (up2 N 0 (kx (nI 1)) y)) (sP (rc_set (nI 1) y) P (flat N) kc) T U (us (us v 2 (sK (rc_set (nI 1) y) kc)) 5 (rc_set (nI 1) y))) := (congrArg (fun zz => va_D (va_A (mdW cI a N P T U v) s.heap.size) (mdW cI a (sN (rc_set (nI 1) y) N (up2 N 0 (kx (nI 1)) y)) (sP (rc_set (nI 1) y) P (flat N) kc) T U zz)) w17).mp hD
        have hP : va_P D vwCl (mdW cI a (sN (rc_set (nI 1) y) N (up2 N 0 (kx (nI 1)) y)) (sP (rc_set (nI 1) y) P (flat N) kc) T U (us (us v 2 (sK (rc_set (nI 1) y) kc)) 5 (rc_set (nI 1) y))) H := hP
        have hD : va_D (va_A (mdW cI a N P T U v) s.heap.size) (mdW cI a (sN (rc_set (nI 1) y) N (up2 N 0 (kx (nI 1)) y)) (sP (rc_set (nI 1) y) P (flat N) kc) T U (us (us v 2 (sK (rc_set (nI 1) y) kc)) 5 (rc_set (nI 1) y))) := hD
        exact k_eMi hx hb hr hlocks hP hS (by rw [hrc]; first | done | rfl | (simp only [hcl]; first | done | rfl) | (simp only [hcl, hclp]; first | done | rfl) | (simp only [hclp]; first | done | rfl)) dX5_set_62
    have c18 : k = 2 := by omega
    subst c18
    have hkv : nI 2 = 2 := rfl
    refine lv_iload_n hx hb dX5_set_20 rfl (lv_at hl 2 rfl) ?_
    refine lv_iload_n hx hb dX5_set_21 rfl (lv_at hl 1 rfl) ?_
    refine lv_if_ne (tgt := 29) hx hb dX5_set_22 (by decide) (fun _ => ?_) (fun h => absurd h (by decide))
    refine lv_iconst (v := 0) hx hb dX5_set_29 (by decide) ?_
    refine lv_iload_n hx hb dX5_set_30 rfl (lv_at hl 1 rfl) ?_
    refine lv_if_ne (tgt := 39) hx hb dX5_set_31 (by decide) (fun _ => ?_) (fun h => absurd h (by decide))
    refine lv_iload_n hx hb dX5_set_39 rfl (lv_at hl 1 rfl) ?_
    refine lv_iconst (v := 1) hx hb dX5_set_40 (by decide) ?_
    refine lv_icmp_ne (tgt := 48) hx hb dX5_set_41 (by decide) (fun _ => ?_) (fun h => absurd h (by decide))
    refine lv_sipush (v := 200) hx hb dX5_set_48 (by decide) ?_
    refine k_riS (As := [.int y, .int 0, .int 200]) (rest := []) (wc := []) ⟨hx, hb, hml, hown, hts⟩ (c_X5_in l D cI cS cL _ y 0 200) lkX5_26 rfl rfl ⟨(Nat.le_of_ble_eq_true rfl), (Nat.le_of_ble_eq_true rfl)⟩ hK hE k_nilP (k_nilD (A := va_A (mdW cI a N P T U v) s.heap.size)) rfl hl.1 rfl (Nat.le_of_ble_eq_true rfl) dX5_set_51 ⟨Nat.zero_le _, Nat.zero_le _⟩ ?_
    refine lv_if_ne (tgt := 63) hx hb dX5_set_54 (by decide) (fun c19 => ?_) (fun c19 => ?_)
    · have c19 := bI_ne0 c19
      have hrc : rc_set (nI 2) y = 0 := by simp [rc_set, set_lo, set_hi, hxx, hcl, hkv, c19]
      refine lv_aload_n hx hb dX5_set_63 rfl (lv_at hl 0 rfl) ?_
      refine k_mvV (As := []) (rest := []) (w1 := []) (wc := mdW cI a N P T U (us v 5 0)) (wc' := mdW cI a N (m_sv P (flat N) kc) T U (us (us v 2 (nI (m_kc kc))) 5 0)) (w3 := []) ⟨hx, hb, hml, hown, hts⟩ (c_X5_saves l D cI cS cL a N P T U (us v 5 0) _ kc hc (by omega)) lkX5_77 rfl rfl ⟨(Nat.le_of_ble_eq_true rfl), (Nat.le_of_ble_eq_true rfl)⟩ (va_recv hK hP (ci := 4) (q0 := 0) rfl rfl) hK hE hP hD hS hA rfl rfl hl.1 rfl (Nat.le_of_ble_eq_true rfl) dX5_set_64 ⟨Nat.zero_le _, Nat.zero_le _⟩ (fun H locs hzz hP hD hS => ?_)
      have hP : va_P D vwCl (mdW cI a N (m_sv P (flat N) kc) T U (us (us v 2 (nI (m_kc kc))) 5 0)) H := hP
      have hD : va_D (va_A (mdW cI a N P T U v) s.heap.size) (mdW cI a N (m_sv P (flat N) kc) T U (us (us v 2 (nI (m_kc kc))) 5 0)) := hD
      refine lv_aload_n hx hb dX5_set_67 rfl (lv_at hl 0 rfl) ?_
      refine lv_iload_n hx hb dX5_set_68 rfl (lv_at hl 1 rfl) ?_
      refine lv_iload_n hx hb dX5_set_69 rfl (lv_at hl 2 rfl) ?_
      refine k_miV (As := [.int (nI 2), .int y]) (rest := []) (w1 := []) (wc := mdW cI a N (m_sv P (flat N) kc) T U (us (us v 2 (nI (m_kc kc))) 5 0)) (wc' := mdW cI a ((up2 N 0 2 y)) (m_sv P (flat N) kc) T U (us (us v 2 (nI (m_kc kc))) 5 0)) (w3 := []) ⟨hx, hb, hml, hown, hts⟩ (c_X5_changes l D cI cS cL a N (m_sv P (flat N) kc) T U (us (us v 2 (nI (m_kc kc))) 5 0) _ 2 y (up2 N 0 2 y) (N 0 2) (by omega) (flat_put2 N y) rfl) lkX5_90 rfl rfl ⟨(Nat.le_of_ble_eq_true rfl), (Nat.le_of_ble_eq_true rfl)⟩ (va_recv hK hP (ci := 4) (q0 := 0) rfl rfl) hK hE hP hD hS hA rfl rfl hl.1 rfl (Nat.le_of_ble_eq_true rfl) dX5_set_70 ⟨Nat.zero_le _, Nat.zero_le _⟩ (fun H locs hzz hP hD hS => ?_)
      have hP : va_P D vwCl (mdW cI a ((up2 N 0 2 y)) (m_sv P (flat N) kc) T U (us (us v 2 (nI (m_kc kc))) 5 0)) H := hP
      have hD : va_D (va_A (mdW cI a N P T U v) s.heap.size) (mdW cI a ((up2 N 0 2 y)) (m_sv P (flat N) kc) T U (us (us v 2 (nI (m_kc kc))) 5 0)) := hD
      have w20 : ((up2 N 0 2 y)) = (sN (rc_set (nI 2) y) N (up2 N 0 (kx (nI 2)) y)) := by rw [hrc]; first | done | rfl | (simp only [hcl]; first | done | rfl) | (simp only [hcl, hclp]; first | done | rfl) | (simp only [hclp]; first | done | rfl)
      have hP : va_P D vwCl (mdW cI a (sN (rc_set (nI 2) y) N (up2 N 0 (kx (nI 2)) y)) (m_sv P (flat N) kc) T U (us (us v 2 (nI (m_kc kc))) 5 0)) H := (congrArg (fun zz => va_P D vwCl (mdW cI a zz (m_sv P (flat N) kc) T U (us (us v 2 (nI (m_kc kc))) 5 0)) H) w20).mp hP
      have hD : va_D (va_A (mdW cI a N P T U v) s.heap.size) (mdW cI a (sN (rc_set (nI 2) y) N (up2 N 0 (kx (nI 2)) y)) (m_sv P (flat N) kc) T U (us (us v 2 (nI (m_kc kc))) 5 0)) := (congrArg (fun zz => va_D (va_A (mdW cI a N P T U v) s.heap.size) (mdW cI a zz (m_sv P (flat N) kc) T U (us (us v 2 (nI (m_kc kc))) 5 0))) w20).mp hD
      have w21 : (m_sv P (flat N) kc) = (sP (rc_set (nI 2) y) P (flat N) kc) := by rw [hrc]; first | done | rfl | (simp only [hcl]; first | done | rfl) | (simp only [hcl, hclp]; first | done | rfl) | (simp only [hclp]; first | done | rfl)
      have hP : va_P D vwCl (mdW cI a (sN (rc_set (nI 2) y) N (up2 N 0 (kx (nI 2)) y)) (sP (rc_set (nI 2) y) P (flat N) kc) T U (us (us v 2 (nI (m_kc kc))) 5 0)) H := (congrArg (fun zz => va_P D vwCl (mdW cI a (sN (rc_set (nI 2) y) N (up2 N 0 (kx (nI 2)) y)) zz T U (us (us v 2 (nI (m_kc kc))) 5 0)) H) w21).mp hP
      have hD : va_D (va_A (mdW cI a N P T U v) s.heap.size) (mdW cI a (sN (rc_set (nI 2) y) N (up2 N 0 (kx (nI 2)) y)) (sP (rc_set (nI 2) y) P (flat N) kc) T U (us (us v 2 (nI (m_kc kc))) 5 0)) := (congrArg (fun zz => va_D (va_A (mdW cI a N P T U v) s.heap.size) (mdW cI a (sN (rc_set (nI 2) y) N (up2 N 0 (kx (nI 2)) y)) zz T U (us (us v 2 (nI (m_kc kc))) 5 0))) w21).mp hD
      have w22 : (us (us v 2 (nI (m_kc kc))) 5 0) = (us (us v 2 (sK (rc_set (nI 2) y) kc)) 5 (rc_set (nI 2) y)) := by rw [hrc]; first | done | rfl | (simp only [hcl]; first | done | rfl) | (simp only [hcl, hclp]; first | done | rfl) | (simp only [hclp]; first | done | rfl)
      have hP : va_P D vwCl (mdW cI a (sN (rc_set (nI 2) y) N (up2 N 0 (kx (nI 2)) y)) (sP (rc_set (nI 2) y) P (flat N) kc) T U (us (us v 2 (sK (rc_set (nI 2) y) kc)) 5 (rc_set (nI 2) y))) H := (congrArg (fun zz => va_P D vwCl (mdW cI a (sN (rc_set (nI 2) y) N (up2 N 0 (kx (nI 2)) y)) (sP (rc_set (nI 2) y) P (flat N) kc) T U zz) H) w22).mp hP
      have hD : va_D (va_A (mdW cI a N P T U v) s.heap.size) (mdW cI a (sN (rc_set (nI 2) y) N (up2 N 0 (kx (nI 2)) y)) (sP (rc_set (nI 2) y) P (flat N) kc) T U (us (us v 2 (sK (rc_set (nI 2) y) kc)) 5 (rc_set (nI 2) y))) := (congrArg (fun zz => va_D (va_A (mdW cI a N P T U v) s.heap.size) (mdW cI a (sN (rc_set (nI 2) y) N (up2 N 0 (kx (nI 2)) y)) (sP (rc_set (nI 2) y) P (flat N) kc) T U zz)) w22).mp hD
      have hP : va_P D vwCl (mdW cI a (sN (rc_set (nI 2) y) N (up2 N 0 (kx (nI 2)) y)) (sP (rc_set (nI 2) y) P (flat N) kc) T U (us (us v 2 (sK (rc_set (nI 2) y) kc)) 5 (rc_set (nI 2) y))) H := hP
      have hD : va_D (va_A (mdW cI a N P T U v) s.heap.size) (mdW cI a (sN (rc_set (nI 2) y) N (up2 N 0 (kx (nI 2)) y)) (sP (rc_set (nI 2) y) P (flat N) kc) T U (us (us v 2 (sK (rc_set (nI 2) y) kc)) 5 (rc_set (nI 2) y))) := hD
      exact k_eMi hx hb hr hlocks hP hS (by rw [hrc]; first | done | rfl | (simp only [hcl]; first | done | rfl) | (simp only [hcl, hclp]; first | done | rfl) | (simp only [hclp]; first | done | rfl)) dX5_set_73
    · have c19 := bI_eq0 c19
      have hrc : rc_set (nI 2) y = 2 := by simp [rc_set, set_lo, set_hi, hxx, hcl, hkv, c19]
      refine lv_aload_n hx hb dX5_set_57 rfl (lv_at hl 0 rfl) ?_
      refine lv_iconst (v := 2) hx hb dX5_set_58 (by decide) ?_
      refine k_miV (As := [.int 2]) (rest := []) (w1 := []) (wc := mdW cI a N P T U (us v 5 0)) (wc' := mdW cI a N P T U (us v 5 2)) (w3 := []) ⟨hx, hb, hml, hown, hts⟩ (c_X5_fails l D cI cS cL a N P T U (us v 5 0) _ 2) lkX5_33 rfl rfl ⟨(Nat.le_of_ble_eq_true rfl), (Nat.le_of_ble_eq_true rfl)⟩ (va_recv hK hP (ci := 4) (q0 := 0) rfl rfl) hK hE hP hD hS hA rfl rfl hl.1 rfl (Nat.le_of_ble_eq_true rfl) dX5_set_59 ⟨Nat.zero_le _, Nat.zero_le _⟩ (fun H locs hzz hP hD hS => ?_)
      have hP : va_P D vwCl (mdW cI a N P T U (us v 5 2)) H := hP
      have hD : va_D (va_A (mdW cI a N P T U v) s.heap.size) (mdW cI a N P T U (us v 5 2)) := hD
      have w23 : N = (sN (rc_set (nI 2) y) N (up2 N 0 (kx (nI 2)) y)) := by rw [hrc]; first | done | rfl | (simp only [hcl]; first | done | rfl) | (simp only [hcl, hclp]; first | done | rfl) | (simp only [hclp]; first | done | rfl)
      have hP : va_P D vwCl (mdW cI a (sN (rc_set (nI 2) y) N (up2 N 0 (kx (nI 2)) y)) P T U (us v 5 2)) H := (congrArg (fun zz => va_P D vwCl (mdW cI a zz P T U (us v 5 2)) H) w23).mp hP
      have hD : va_D (va_A (mdW cI a N P T U v) s.heap.size) (mdW cI a (sN (rc_set (nI 2) y) N (up2 N 0 (kx (nI 2)) y)) P T U (us v 5 2)) := (congrArg (fun zz => va_D (va_A (mdW cI a N P T U v) s.heap.size) (mdW cI a zz P T U (us v 5 2))) w23).mp hD
      have w24 : P = (sP (rc_set (nI 2) y) P (flat N) kc) := by rw [hrc]; first | done | rfl | (simp only [hcl]; first | done | rfl) | (simp only [hcl, hclp]; first | done | rfl) | (simp only [hclp]; first | done | rfl)
      have hP : va_P D vwCl (mdW cI a (sN (rc_set (nI 2) y) N (up2 N 0 (kx (nI 2)) y)) (sP (rc_set (nI 2) y) P (flat N) kc) T U (us v 5 2)) H := (congrArg (fun zz => va_P D vwCl (mdW cI a (sN (rc_set (nI 2) y) N (up2 N 0 (kx (nI 2)) y)) zz T U (us v 5 2)) H) w24).mp hP
      have hD : va_D (va_A (mdW cI a N P T U v) s.heap.size) (mdW cI a (sN (rc_set (nI 2) y) N (up2 N 0 (kx (nI 2)) y)) (sP (rc_set (nI 2) y) P (flat N) kc) T U (us v 5 2)) := (congrArg (fun zz => va_D (va_A (mdW cI a N P T U v) s.heap.size) (mdW cI a (sN (rc_set (nI 2) y) N (up2 N 0 (kx (nI 2)) y)) zz T U (us v 5 2))) w24).mp hD
      have w25 : (us v 5 2) = (us (us v 2 (sK (rc_set (nI 2) y) kc)) 5 (rc_set (nI 2) y)) := by rw [hrc, show sK 2 kc = v 2 from hc.symm, us_v]; first | done | rfl
      have hP : va_P D vwCl (mdW cI a (sN (rc_set (nI 2) y) N (up2 N 0 (kx (nI 2)) y)) (sP (rc_set (nI 2) y) P (flat N) kc) T U (us (us v 2 (sK (rc_set (nI 2) y) kc)) 5 (rc_set (nI 2) y))) H := (congrArg (fun zz => va_P D vwCl (mdW cI a (sN (rc_set (nI 2) y) N (up2 N 0 (kx (nI 2)) y)) (sP (rc_set (nI 2) y) P (flat N) kc) T U zz) H) w25).mp hP
      have hD : va_D (va_A (mdW cI a N P T U v) s.heap.size) (mdW cI a (sN (rc_set (nI 2) y) N (up2 N 0 (kx (nI 2)) y)) (sP (rc_set (nI 2) y) P (flat N) kc) T U (us (us v 2 (sK (rc_set (nI 2) y) kc)) 5 (rc_set (nI 2) y))) := (congrArg (fun zz => va_D (va_A (mdW cI a N P T U v) s.heap.size) (mdW cI a (sN (rc_set (nI 2) y) N (up2 N 0 (kx (nI 2)) y)) (sP (rc_set (nI 2) y) P (flat N) kc) T U zz)) w25).mp hD
      have hP : va_P D vwCl (mdW cI a (sN (rc_set (nI 2) y) N (up2 N 0 (kx (nI 2)) y)) (sP (rc_set (nI 2) y) P (flat N) kc) T U (us (us v 2 (sK (rc_set (nI 2) y) kc)) 5 (rc_set (nI 2) y))) H := hP
      have hD : va_D (va_A (mdW cI a N P T U v) s.heap.size) (mdW cI a (sN (rc_set (nI 2) y) N (up2 N 0 (kx (nI 2)) y)) (sP (rc_set (nI 2) y) P (flat N) kc) T U (us (us v 2 (sK (rc_set (nI 2) y) kc)) 5 (rc_set (nI 2) y))) := hD
      exact k_eMi hx hb hr hlocks hP hS (by rw [hrc]; first | done | rfl | (simp only [hcl]; first | done | rfl) | (simp only [hcl, hclp]; first | done | rfl) | (simp only [hclp]; first | done | rfl)) dX5_set_62
  · have c1 := bI_eq0 c1
    have hrc : rc_set x y = 1 := by simp [rc_set, set_lo, set_hi, c1]
    refine lv_aload_n hx hb dX5_set_14 rfl (lv_at hl 0 rfl) ?_
    refine lv_iconst (v := 1) hx hb dX5_set_15 (by decide) ?_
    refine k_miV (As := [.int 1]) (rest := []) (w1 := []) (wc := mdW cI a N P T U (us v 5 0)) (wc' := mdW cI a N P T U (us v 5 1)) (w3 := []) ⟨hx, hb, hml, hown, hts⟩ (c_X5_fails l D cI cS cL a N P T U (us v 5 0) _ 1) lkX5_33 rfl rfl ⟨(Nat.le_of_ble_eq_true rfl), (Nat.le_of_ble_eq_true rfl)⟩ (va_recv hK hP (ci := 4) (q0 := 0) rfl rfl) hK hE hP hD hS hA rfl rfl hl.1 rfl (Nat.le_of_ble_eq_true rfl) dX5_set_16 ⟨Nat.zero_le _, Nat.zero_le _⟩ (fun H locs hzz hP hD hS => ?_)
    have hP : va_P D vwCl (mdW cI a N P T U (us v 5 1)) H := hP
    have hD : va_D (va_A (mdW cI a N P T U v) s.heap.size) (mdW cI a N P T U (us v 5 1)) := hD
    have w26 : N = (sN (rc_set x y) N (up2 N 0 (kx x) y)) := by rw [hrc]; first | done | rfl | (simp only [hcl]; first | done | rfl) | (simp only [hcl, hclp]; first | done | rfl) | (simp only [hclp]; first | done | rfl)
    have hP : va_P D vwCl (mdW cI a (sN (rc_set x y) N (up2 N 0 (kx x) y)) P T U (us v 5 1)) H := (congrArg (fun zz => va_P D vwCl (mdW cI a zz P T U (us v 5 1)) H) w26).mp hP
    have hD : va_D (va_A (mdW cI a N P T U v) s.heap.size) (mdW cI a (sN (rc_set x y) N (up2 N 0 (kx x) y)) P T U (us v 5 1)) := (congrArg (fun zz => va_D (va_A (mdW cI a N P T U v) s.heap.size) (mdW cI a zz P T U (us v 5 1))) w26).mp hD
    have w27 : P = (sP (rc_set x y) P (flat N) kc) := by rw [hrc]; first | done | rfl | (simp only [hcl]; first | done | rfl) | (simp only [hcl, hclp]; first | done | rfl) | (simp only [hclp]; first | done | rfl)
    have hP : va_P D vwCl (mdW cI a (sN (rc_set x y) N (up2 N 0 (kx x) y)) (sP (rc_set x y) P (flat N) kc) T U (us v 5 1)) H := (congrArg (fun zz => va_P D vwCl (mdW cI a (sN (rc_set x y) N (up2 N 0 (kx x) y)) zz T U (us v 5 1)) H) w27).mp hP
    have hD : va_D (va_A (mdW cI a N P T U v) s.heap.size) (mdW cI a (sN (rc_set x y) N (up2 N 0 (kx x) y)) (sP (rc_set x y) P (flat N) kc) T U (us v 5 1)) := (congrArg (fun zz => va_D (va_A (mdW cI a N P T U v) s.heap.size) (mdW cI a (sN (rc_set x y) N (up2 N 0 (kx x) y)) zz T U (us v 5 1))) w27).mp hD
    have w28 : (us v 5 1) = (us (us v 2 (sK (rc_set x y) kc)) 5 (rc_set x y)) := by rw [hrc, show sK 1 kc = v 2 from hc.symm, us_v]; first | done | rfl
    have hP : va_P D vwCl (mdW cI a (sN (rc_set x y) N (up2 N 0 (kx x) y)) (sP (rc_set x y) P (flat N) kc) T U (us (us v 2 (sK (rc_set x y) kc)) 5 (rc_set x y))) H := (congrArg (fun zz => va_P D vwCl (mdW cI a (sN (rc_set x y) N (up2 N 0 (kx x) y)) (sP (rc_set x y) P (flat N) kc) T U zz) H) w28).mp hP
    have hD : va_D (va_A (mdW cI a N P T U v) s.heap.size) (mdW cI a (sN (rc_set x y) N (up2 N 0 (kx x) y)) (sP (rc_set x y) P (flat N) kc) T U (us (us v 2 (sK (rc_set x y) kc)) 5 (rc_set x y))) := (congrArg (fun zz => va_D (va_A (mdW cI a N P T U v) s.heap.size) (mdW cI a (sN (rc_set x y) N (up2 N 0 (kx x) y)) (sP (rc_set x y) P (flat N) kc) T U zz)) w28).mp hD
    have hP : va_P D vwCl (mdW cI a (sN (rc_set x y) N (up2 N 0 (kx x) y)) (sP (rc_set x y) P (flat N) kc) T U (us (us v 2 (sK (rc_set x y) kc)) 5 (rc_set x y))) H := hP
    have hD : va_D (va_A (mdW cI a N P T U v) s.heap.size) (mdW cI a (sN (rc_set x y) N (up2 N 0 (kx x) y)) (sP (rc_set x y) P (flat N) kc) T U (us (us v 2 (sK (rc_set x y) kc)) 5 (rc_set x y))) := hD
    exact k_eMi hx hb hr hlocks hP hS (by rw [hrc]; first | done | rfl | (simp only [hcl]; first | done | rfl) | (simp only [hcl, hclp]; first | done | rfl) | (simp only [hclp]; first | done | rfl)) dX5_set_19

abbrev rmX5_hose : Room := { frames := 3, cells := 0, slots := 0, locals := 69 }
set_option maxHeartbeats 4000000 in
set_option maxRecDepth 100000 in
theorem c_X5_hose (l : Launch) (D : va_G) (cI cS cL : ClassId) (a : Nat → Nat) (N : NN) (P T U v : Nat → Int32) (sz : Nat) (n : Nat) (x w : Int32) (hn : N 1 2 = nI n) (hn14 : n ≤ 14) (hd0 : 0 ≤ N 1 0) : Met l yX5_hose (wy_ yX5_hose cX5_hose 3 (some .int)) rmX5_hose (kPc D (kTy cI cS cL) (mdW cI a N P T U v) sz [.ref (a 0), .int x, .int w]) (kMi D (mdW cI a N P T U v) (mdW cI a N P T U (us v 5 (rc_hose N x w))) sz (sR (rc_hose N x w) (m_hose N (kx x) (kx w)))) 0 0 (va_A (mdW cI a N P T U v) sz) := by
  refine k_ofW (by decide) (Nat.le_of_ble_eq_true rfl) ?_
  intro p e s m args below meth c hx hb hr hml hts hown hlocks hnm hsz hP hK hD hE ls hl
  subst hsz
  have hA : ∀ q : Nat, s.heap.size ≤ q → (va_A (mdW cI a N P T U v) s.heap.size) q := fun q h => Or.inr h
  have hS : va_S (va_A (mdW cI a N P T U v) s.heap.size) s.heap s.heap [] := va_S.rf
  have hl : lv_has ls 3 [(0, .ref (a 0)), (1, .int x), (2, .int w)] := hl
  refine lv_aload_n hx hb dX5_hose_0 rfl (lv_at hl 0 rfl) ?_
  refine lv_iconst (v := 0) hx hb dX5_hose_1 (by decide) ?_
  refine f5 hx hb hts hown hK hP hD hS 0 rfl 5 (by decide) flX5_22 (fun _ h => h) rfl rfl rfl (Nat.le_of_ble_eq_true rfl) dX5_hose_2 (fun H locs hP hD hS => ?_)
  have hP : va_P D vwCl (mdW cI a N P T U (us v 5 0)) H := hP
  have hD : va_D (va_A (mdW cI a N P T U v) s.heap.size) (mdW cI a N P T U (us v 5 0)) := hD
  refine lv_aload_n hx hb dX5_hose_5 rfl (lv_at hl 0 rfl) ?_
  refine lv_iload_n hx hb dX5_hose_6 rfl (lv_at hl 1 rfl) ?_
  refine k_riV (As := [.int x]) (rest := []) (wc := mdW cI a N P T U (us v 5 0)) ⟨hx, hb, hml, hown, hts⟩ (c_X5_isHose l D cI cS cL a N P T U (us v 5 0) _ x) lkX5_84 rfl rfl ⟨(Nat.le_of_ble_eq_true rfl), (Nat.le_of_ble_eq_true rfl)⟩ (va_recv hK hP (ci := 4) (q0 := 0) rfl rfl) hK hE hP hD rfl hl.1 rfl (Nat.le_of_ble_eq_true rfl) dX5_hose_7 ⟨Nat.zero_le _, Nat.zero_le _⟩ ?_
  refine lv_if_ne (tgt := 19) hx hb dX5_hose_10 (by decide) (fun c1 => ?_) (fun c1 => ?_)
  · have c1 := bI_ne0 c1
    have hxx := c1
    obtain ⟨k, hkn, hxk⟩ := p_isH hn hn14 (c1).1 (c1).2
    subst hxk
    have hcl : kx (nI k) = k := kx_nI (by omega)
    refine lv_iload_n hx hb dX5_hose_19 rfl (lv_at hl 2 rfl) ?_
    refine lv_iconst (v := 0) hx hb dX5_hose_20 (by decide) ?_
    refine lv_bipush (v := 9) hx hb dX5_hose_21 (by decide) ?_
    refine k_riS (As := [.int w, .int 0, .int 9]) (rest := []) (wc := []) ⟨hx, hb, hml, hown, hts⟩ (c_X5_in l D cI cS cL _ w 0 9) lkX5_26 rfl rfl ⟨(Nat.le_of_ble_eq_true rfl), (Nat.le_of_ble_eq_true rfl)⟩ hK hE k_nilP (k_nilD (A := va_A (mdW cI a N P T U v) s.heap.size)) rfl hl.1 rfl (Nat.le_of_ble_eq_true rfl) dX5_hose_23 ⟨Nat.zero_le _, Nat.zero_le _⟩ ?_
    refine lv_if_eq (tgt := 38) hx hb dX5_hose_26 (by decide) (fun c2 => ?_) (fun c2 => ?_)
    · have c2 := bI_eq0 c2
      have hrc : rc_hose N (nI k) w = 2 := by simp [rc_hose, hxx, hcl, c2]
      refine lv_aload_n hx hb dX5_hose_38 rfl (lv_at hl 0 rfl) ?_
      refine lv_iconst (v := 2) hx hb dX5_hose_39 (by decide) ?_
      refine k_miV (As := [.int 2]) (rest := []) (w1 := []) (wc := mdW cI a N P T U (us v 5 0)) (wc' := mdW cI a N P T U (us v 5 2)) (w3 := []) ⟨hx, hb, hml, hown, hts⟩ (c_X5_fails l D cI cS cL a N P T U (us v 5 0) _ 2) lkX5_33 rfl rfl ⟨(Nat.le_of_ble_eq_true rfl), (Nat.le_of_ble_eq_true rfl)⟩ (va_recv hK hP (ci := 4) (q0 := 0) rfl rfl) hK hE hP hD hS hA rfl rfl hl.1 rfl (Nat.le_of_ble_eq_true rfl) dX5_hose_40 ⟨Nat.zero_le _, Nat.zero_le _⟩ (fun H locs hzz hP hD hS => ?_)
      have hP : va_P D vwCl (mdW cI a N P T U (us v 5 2)) H := hP
      have hD : va_D (va_A (mdW cI a N P T U v) s.heap.size) (mdW cI a N P T U (us v 5 2)) := hD
      have w3 : (us v 5 2) = (us v 5 (rc_hose N (nI k) w)) := by rw [hrc]; first | done | rfl
      have hP : va_P D vwCl (mdW cI a N P T U (us v 5 (rc_hose N (nI k) w))) H := (congrArg (fun zz => va_P D vwCl (mdW cI a N P T U zz) H) w3).mp hP
      have hD : va_D (va_A (mdW cI a N P T U v) s.heap.size) (mdW cI a N P T U (us v 5 (rc_hose N (nI k) w))) := (congrArg (fun zz => va_D (va_A (mdW cI a N P T U v) s.heap.size) (mdW cI a N P T U zz)) w3).mp hD
      have hP : va_P D vwCl (mdW cI a N P T U (us v 5 (rc_hose N (nI k) w))) H := hP
      have hD : va_D (va_A (mdW cI a N P T U v) s.heap.size) (mdW cI a N P T U (us v 5 (rc_hose N (nI k) w))) := hD
      exact k_eMi hx hb hr hlocks hP hS (by rw [hrc]; first | done | rfl | (simp only [hcl]; first | done | rfl) | (simp only [hcl, hclp]; first | done | rfl) | (simp only [hclp]; first | done | rfl)) dX5_hose_43
    · have c2 := bI_ne0 c2
      have hyy := c2
      obtain ⟨q, hqlo, hqhi, hxp⟩ := p_isB (lo := 0) (hi := 9) (by omega) (by omega) (c2).1 (c2).2
      subst hxp
      have hclp : kx (nI q) = q := kx_nI (by omega)
      have hrc : rc_hose N (nI k) (nI q) = 0 := by simp [rc_hose, hxx, hcl, hyy, hclp]
      refine lv_aload_n hx hb dX5_hose_29 rfl (lv_at hl 0 rfl) ?_
      refine lv_iload_n hx hb dX5_hose_30 rfl (lv_at hl 1 rfl) ?_
      refine lv_iload_n hx hb dX5_hose_31 rfl (lv_at hl 2 rfl) ?_
      refine k_riV (As := [.int (nI k), .int (nI q)]) (rest := []) (wc := mdW cI a N P T U (us v 5 0)) ⟨hx, hb, hml, hown, hts⟩ (c_X5_ofHose l D cI cS cL a N P T U (us v 5 0) _ k q (by omega) (by omega) hd0) lkX5_134 rfl rfl ⟨(Nat.le_of_ble_eq_true rfl), (Nat.le_of_ble_eq_true rfl)⟩ (va_recv hK hP (ci := 4) (q0 := 0) rfl rfl) hK hE hP hD rfl hl.1 rfl (Nat.le_of_ble_eq_true rfl) dX5_hose_32 ⟨Nat.zero_le _, Nat.zero_le _⟩ ?_
      refine lv_goto (tgt := 43) hx hb dX5_hose_35 (by decide) ?_
      have w4 : (us v 5 0) = (us v 5 (rc_hose N (nI k) (nI q))) := by rw [hrc]; first | done | rfl | (simp only [hcl]; first | done | rfl) | (simp only [hcl, hclp]; first | done | rfl) | (simp only [hclp]; first | done | rfl)
      have hP : va_P D vwCl (mdW cI a N P T U (us v 5 (rc_hose N (nI k) (nI q)))) H := (congrArg (fun zz => va_P D vwCl (mdW cI a N P T U zz) H) w4).mp hP
      have hD : va_D (va_A (mdW cI a N P T U v) s.heap.size) (mdW cI a N P T U (us v 5 (rc_hose N (nI k) (nI q)))) := (congrArg (fun zz => va_D (va_A (mdW cI a N P T U v) s.heap.size) (mdW cI a N P T U zz)) w4).mp hD
      have hP : va_P D vwCl (mdW cI a N P T U (us v 5 (rc_hose N (nI k) (nI q)))) H := hP
      have hD : va_D (va_A (mdW cI a N P T U v) s.heap.size) (mdW cI a N P T U (us v 5 (rc_hose N (nI k) (nI q)))) := hD
      exact k_eMi hx hb hr hlocks hP hS (by rw [hrc]; first | done | rfl | (simp only [hcl]; first | done | rfl) | (simp only [hcl, hclp]; first | done | rfl) | (simp only [hclp]; first | done | rfl)) dX5_hose_43
  · have c1 := bI_eq0 c1
    have hrc : rc_hose N x w = 1 := by simp [rc_hose, c1]
    refine lv_aload_n hx hb dX5_hose_13 rfl (lv_at hl 0 rfl) ?_
    refine lv_iconst (v := 1) hx hb dX5_hose_14 (by decide) ?_
    refine k_miV (As := [.int 1]) (rest := []) (w1 := []) (wc := mdW cI a N P T U (us v 5 0)) (wc' := mdW cI a N P T U (us v 5 1)) (w3 := []) ⟨hx, hb, hml, hown, hts⟩ (c_X5_fails l D cI cS cL a N P T U (us v 5 0) _ 1) lkX5_33 rfl rfl ⟨(Nat.le_of_ble_eq_true rfl), (Nat.le_of_ble_eq_true rfl)⟩ (va_recv hK hP (ci := 4) (q0 := 0) rfl rfl) hK hE hP hD hS hA rfl rfl hl.1 rfl (Nat.le_of_ble_eq_true rfl) dX5_hose_15 ⟨Nat.zero_le _, Nat.zero_le _⟩ (fun H locs hzz hP hD hS => ?_)
    have hP : va_P D vwCl (mdW cI a N P T U (us v 5 1)) H := hP
    have hD : va_D (va_A (mdW cI a N P T U v) s.heap.size) (mdW cI a N P T U (us v 5 1)) := hD
    have w5 : (us v 5 1) = (us v 5 (rc_hose N x w)) := by rw [hrc]; first | done | rfl
    have hP : va_P D vwCl (mdW cI a N P T U (us v 5 (rc_hose N x w))) H := (congrArg (fun zz => va_P D vwCl (mdW cI a N P T U zz) H) w5).mp hP
    have hD : va_D (va_A (mdW cI a N P T U v) s.heap.size) (mdW cI a N P T U (us v 5 (rc_hose N x w))) := (congrArg (fun zz => va_D (va_A (mdW cI a N P T U v) s.heap.size) (mdW cI a N P T U zz)) w5).mp hD
    have hP : va_P D vwCl (mdW cI a N P T U (us v 5 (rc_hose N x w))) H := hP
    have hD : va_D (va_A (mdW cI a N P T U v) s.heap.size) (mdW cI a N P T U (us v 5 (rc_hose N x w))) := hD
    exact k_eMi hx hb hr hlocks hP hS (by rw [hrc]; first | done | rfl | (simp only [hcl]; first | done | rfl) | (simp only [hcl, hclp]; first | done | rfl) | (simp only [hclp]; first | done | rfl)) dX5_hose_18

abbrev rmX5_truck : Room := { frames := 6, cells := 0, slots := 0, locals := 136 }
set_option maxHeartbeats 4000000 in
set_option maxRecDepth 100000 in
theorem c_X5_truck (l : Launch) (D : va_G) (cI cS cL : ClassId) (a : Nat → Nat) (N : NN) (P T U v : Nat → Int32) (sz : Nat) (n : Nat) (x w : Int32) (hn : N 1 2 = nI n) (hn14 : n ≤ 14) (hd0 : 0 ≤ N 1 0) : Met l yX5_truck (wy_ yX5_truck cX5_truck 3 (some .int)) rmX5_truck (kPc D (kTy cI cS cL) (mdW cI a N P T U v) sz [.ref (a 0), .int x, .int w]) (kMi D (mdW cI a N P T U v) (mdW cI a N P T U (us (us (us (us v 5 (rc_truck x w)) 11 (sJ (rc_truck x w) (p_lay N (nI (kx x)) (-1) n 0) (v 11))) 12 (sJ (rc_truck x w) (p_lay N (nI (kx x)) (-1) n 1) (v 12))) 13 (sJ (rc_truck x w) (p_lay N (nI (kx x)) (-1) n 2) (v 13)))) sz (sR (rc_truck x w) (p_truck N n (kx x) (kx w)))) 0 0 (va_A (mdW cI a N P T U v) sz) := by
  refine k_ofW (by decide) (Nat.le_of_ble_eq_true rfl) ?_
  intro p e s m args below meth c hx hb hr hml hts hown hlocks hnm hsz hP hK hD hE ls hl
  subst hsz
  have hA : ∀ q : Nat, s.heap.size ≤ q → (va_A (mdW cI a N P T U v) s.heap.size) q := fun q h => Or.inr h
  have hS : va_S (va_A (mdW cI a N P T U v) s.heap.size) s.heap s.heap [] := va_S.rf
  have hl : lv_has ls 3 [(0, .ref (a 0)), (1, .int x), (2, .int w)] := hl
  refine lv_aload_n hx hb dX5_truck_0 rfl (lv_at hl 0 rfl) ?_
  refine lv_iconst (v := 0) hx hb dX5_truck_1 (by decide) ?_
  refine f5 hx hb hts hown hK hP hD hS 0 rfl 5 (by decide) flX5_22 (fun _ h => h) rfl rfl rfl (Nat.le_of_ble_eq_true rfl) dX5_truck_2 (fun H locs hP hD hS => ?_)
  have hP : va_P D vwCl (mdW cI a N P T U (us v 5 0)) H := hP
  have hD : va_D (va_A (mdW cI a N P T U v) s.heap.size) (mdW cI a N P T U (us v 5 0)) := hD
  refine lv_iload_n hx hb dX5_truck_5 rfl (lv_at hl 1 rfl) ?_
  refine k_riS (As := [.int x]) (rest := []) (wc := []) ⟨hx, hb, hml, hown, hts⟩ (c_X5_isTruck l D cI cS cL _ x) lkX5_99 rfl rfl ⟨(Nat.le_of_ble_eq_true rfl), (Nat.le_of_ble_eq_true rfl)⟩ hK hE k_nilP (k_nilD (A := va_A (mdW cI a N P T U v) s.heap.size)) rfl hl.1 rfl (Nat.le_of_ble_eq_true rfl) dX5_truck_6 ⟨Nat.zero_le _, Nat.zero_le _⟩ ?_
  refine lv_if_ne (tgt := 18) hx hb dX5_truck_9 (by decide) (fun c1 => ?_) (fun c1 => ?_)
  · have c1 := bI_ne0 c1
    have hxx := c1
    obtain ⟨k, hk3, hxk⟩ := p_isT (c1).1 (c1).2
    subst hxk
    have hcl : kx (nI k) = k := kx_nI (by omega)
    refine lv_iload_n hx hb dX5_truck_18 rfl (lv_at hl 2 rfl) ?_
    refine lv_iconst (v := 0) hx hb dX5_truck_19 (by decide) ?_
    refine lv_bipush (v := 6) hx hb dX5_truck_20 (by decide) ?_
    refine k_riS (As := [.int w, .int 0, .int 6]) (rest := []) (wc := []) ⟨hx, hb, hml, hown, hts⟩ (c_X5_in l D cI cS cL _ w 0 6) lkX5_26 rfl rfl ⟨(Nat.le_of_ble_eq_true rfl), (Nat.le_of_ble_eq_true rfl)⟩ hK hE k_nilP (k_nilD (A := va_A (mdW cI a N P T U v) s.heap.size)) rfl hl.1 rfl (Nat.le_of_ble_eq_true rfl) dX5_truck_22 ⟨Nat.zero_le _, Nat.zero_le _⟩ ?_
    refine lv_if_eq (tgt := 37) hx hb dX5_truck_25 (by decide) (fun c2 => ?_) (fun c2 => ?_)
    · have c2 := bI_eq0 c2
      have hrc : rc_truck (nI k) w = 2 := by simp [rc_truck, hxx, hcl, c2]
      refine lv_aload_n hx hb dX5_truck_37 rfl (lv_at hl 0 rfl) ?_
      refine lv_iconst (v := 2) hx hb dX5_truck_38 (by decide) ?_
      refine k_miV (As := [.int 2]) (rest := []) (w1 := []) (wc := mdW cI a N P T U (us v 5 0)) (wc' := mdW cI a N P T U (us v 5 2)) (w3 := []) ⟨hx, hb, hml, hown, hts⟩ (c_X5_fails l D cI cS cL a N P T U (us v 5 0) _ 2) lkX5_33 rfl rfl ⟨(Nat.le_of_ble_eq_true rfl), (Nat.le_of_ble_eq_true rfl)⟩ (va_recv hK hP (ci := 4) (q0 := 0) rfl rfl) hK hE hP hD hS hA rfl rfl hl.1 rfl (Nat.le_of_ble_eq_true rfl) dX5_truck_39 ⟨Nat.zero_le _, Nat.zero_le _⟩ (fun H locs hzz hP hD hS => ?_)
      have hP : va_P D vwCl (mdW cI a N P T U (us v 5 2)) H := hP
      have hD : va_D (va_A (mdW cI a N P T U v) s.heap.size) (mdW cI a N P T U (us v 5 2)) := hD
      have w3 : (us v 5 2) = (us (us (us (us v 5 (rc_truck (nI k) w)) 11 (sJ (rc_truck (nI k) w) (p_lay N (nI (kx (nI k))) (-1) n 0) (v 11))) 12 (sJ (rc_truck (nI k) w) (p_lay N (nI (kx (nI k))) (-1) n 1) (v 12))) 13 (sJ (rc_truck (nI k) w) (p_lay N (nI (kx (nI k))) (-1) n 2) (v 13))) := by rw [hrc]; exact (us3_self (us v 5 2)).symm
      have hP : va_P D vwCl (mdW cI a N P T U (us (us (us (us v 5 (rc_truck (nI k) w)) 11 (sJ (rc_truck (nI k) w) (p_lay N (nI (kx (nI k))) (-1) n 0) (v 11))) 12 (sJ (rc_truck (nI k) w) (p_lay N (nI (kx (nI k))) (-1) n 1) (v 12))) 13 (sJ (rc_truck (nI k) w) (p_lay N (nI (kx (nI k))) (-1) n 2) (v 13)))) H := (congrArg (fun zz => va_P D vwCl (mdW cI a N P T U zz) H) w3).mp hP
      have hD : va_D (va_A (mdW cI a N P T U v) s.heap.size) (mdW cI a N P T U (us (us (us (us v 5 (rc_truck (nI k) w)) 11 (sJ (rc_truck (nI k) w) (p_lay N (nI (kx (nI k))) (-1) n 0) (v 11))) 12 (sJ (rc_truck (nI k) w) (p_lay N (nI (kx (nI k))) (-1) n 1) (v 12))) 13 (sJ (rc_truck (nI k) w) (p_lay N (nI (kx (nI k))) (-1) n 2) (v 13)))) := (congrArg (fun zz => va_D (va_A (mdW cI a N P T U v) s.heap.size) (mdW cI a N P T U zz)) w3).mp hD
      have hP : va_P D vwCl (mdW cI a N P T U (us (us (us (us v 5 (rc_truck (nI k) w)) 11 (sJ (rc_truck (nI k) w) (p_lay N (nI (kx (nI k))) (-1) n 0) (v 11))) 12 (sJ (rc_truck (nI k) w) (p_lay N (nI (kx (nI k))) (-1) n 1) (v 12))) 13 (sJ (rc_truck (nI k) w) (p_lay N (nI (kx (nI k))) (-1) n 2) (v 13)))) H := hP
      have hD : va_D (va_A (mdW cI a N P T U v) s.heap.size) (mdW cI a N P T U (us (us (us (us v 5 (rc_truck (nI k) w)) 11 (sJ (rc_truck (nI k) w) (p_lay N (nI (kx (nI k))) (-1) n 0) (v 11))) 12 (sJ (rc_truck (nI k) w) (p_lay N (nI (kx (nI k))) (-1) n 1) (v 12))) 13 (sJ (rc_truck (nI k) w) (p_lay N (nI (kx (nI k))) (-1) n 2) (v 13)))) := hD
      exact k_eMi hx hb hr hlocks hP hS (by rw [hrc]; first | done | rfl | (simp only [hcl]; first | done | rfl) | (simp only [hcl, hclp]; first | done | rfl) | (simp only [hclp]; first | done | rfl)) dX5_truck_42
    · have c2 := bI_ne0 c2
      have hyy := c2
      obtain ⟨q, hqlo, hqhi, hxp⟩ := p_isB (lo := 0) (hi := 6) (by omega) (by omega) (c2).1 (c2).2
      subst hxp
      have hclp : kx (nI q) = q := kx_nI (by omega)
      have hrc : rc_truck (nI k) (nI q) = 0 := by simp [rc_truck, hxx, hcl, hyy, hclp]
      refine lv_aload_n hx hb dX5_truck_28 rfl (lv_at hl 0 rfl) ?_
      refine lv_iload_n hx hb dX5_truck_29 rfl (lv_at hl 1 rfl) ?_
      refine lv_iload_n hx hb dX5_truck_30 rfl (lv_at hl 2 rfl) ?_
      refine k_miV (As := [.int (nI k), .int (nI q)]) (rest := []) (w1 := []) (wc := mdW cI a N P T U (us v 5 0)) (wc' := mdW cI a N P T U (us (us (us (us v 5 0) 11 (p_lay N (nI k) (-1) n 0)) 12 (p_lay N (nI k) (-1) n 1)) 13 (p_lay N (nI k) (-1) n 2))) (w3 := []) ⟨hx, hb, hml, hown, hts⟩ (c_X5_ofTruck l D cI cS cL a N P T U (us v 5 0) _ n k q hn hn14 (by omega) (by omega) hd0) lkX5_144 rfl rfl ⟨(Nat.le_of_ble_eq_true rfl), (Nat.le_of_ble_eq_true rfl)⟩ (va_recv hK hP (ci := 4) (q0 := 0) rfl rfl) hK hE hP hD hS hA rfl rfl hl.1 rfl (Nat.le_of_ble_eq_true rfl) dX5_truck_31 ⟨Nat.zero_le _, Nat.zero_le _⟩ (fun H locs hzz hP hD hS => ?_)
      have hP : va_P D vwCl (mdW cI a N P T U (us (us (us (us v 5 0) 11 (p_lay N (nI k) (-1) n 0)) 12 (p_lay N (nI k) (-1) n 1)) 13 (p_lay N (nI k) (-1) n 2))) H := hP
      have hD : va_D (va_A (mdW cI a N P T U v) s.heap.size) (mdW cI a N P T U (us (us (us (us v 5 0) 11 (p_lay N (nI k) (-1) n 0)) 12 (p_lay N (nI k) (-1) n 1)) 13 (p_lay N (nI k) (-1) n 2))) := hD
      refine lv_goto (tgt := 42) hx hb dX5_truck_34 (by decide) ?_
      have w4 : (us (us (us (us v 5 0) 11 (p_lay N (nI k) (-1) n 0)) 12 (p_lay N (nI k) (-1) n 1)) 13 (p_lay N (nI k) (-1) n 2)) = (us (us (us (us v 5 (rc_truck (nI k) (nI q))) 11 (sJ (rc_truck (nI k) (nI q)) (p_lay N (nI (kx (nI k))) (-1) n 0) (v 11))) 12 (sJ (rc_truck (nI k) (nI q)) (p_lay N (nI (kx (nI k))) (-1) n 1) (v 12))) 13 (sJ (rc_truck (nI k) (nI q)) (p_lay N (nI (kx (nI k))) (-1) n 2) (v 13))) := by rw [hrc]; first | done | rfl | (simp only [hcl]; first | done | rfl) | (simp only [hcl, hclp]; first | done | rfl) | (simp only [hclp]; first | done | rfl)
      have hP : va_P D vwCl (mdW cI a N P T U (us (us (us (us v 5 (rc_truck (nI k) (nI q))) 11 (sJ (rc_truck (nI k) (nI q)) (p_lay N (nI (kx (nI k))) (-1) n 0) (v 11))) 12 (sJ (rc_truck (nI k) (nI q)) (p_lay N (nI (kx (nI k))) (-1) n 1) (v 12))) 13 (sJ (rc_truck (nI k) (nI q)) (p_lay N (nI (kx (nI k))) (-1) n 2) (v 13)))) H := (congrArg (fun zz => va_P D vwCl (mdW cI a N P T U zz) H) w4).mp hP
      have hD : va_D (va_A (mdW cI a N P T U v) s.heap.size) (mdW cI a N P T U (us (us (us (us v 5 (rc_truck (nI k) (nI q))) 11 (sJ (rc_truck (nI k) (nI q)) (p_lay N (nI (kx (nI k))) (-1) n 0) (v 11))) 12 (sJ (rc_truck (nI k) (nI q)) (p_lay N (nI (kx (nI k))) (-1) n 1) (v 12))) 13 (sJ (rc_truck (nI k) (nI q)) (p_lay N (nI (kx (nI k))) (-1) n 2) (v 13)))) := (congrArg (fun zz => va_D (va_A (mdW cI a N P T U v) s.heap.size) (mdW cI a N P T U zz)) w4).mp hD
      have hP : va_P D vwCl (mdW cI a N P T U (us (us (us (us v 5 (rc_truck (nI k) (nI q))) 11 (sJ (rc_truck (nI k) (nI q)) (p_lay N (nI (kx (nI k))) (-1) n 0) (v 11))) 12 (sJ (rc_truck (nI k) (nI q)) (p_lay N (nI (kx (nI k))) (-1) n 1) (v 12))) 13 (sJ (rc_truck (nI k) (nI q)) (p_lay N (nI (kx (nI k))) (-1) n 2) (v 13)))) H := hP
      have hD : va_D (va_A (mdW cI a N P T U v) s.heap.size) (mdW cI a N P T U (us (us (us (us v 5 (rc_truck (nI k) (nI q))) 11 (sJ (rc_truck (nI k) (nI q)) (p_lay N (nI (kx (nI k))) (-1) n 0) (v 11))) 12 (sJ (rc_truck (nI k) (nI q)) (p_lay N (nI (kx (nI k))) (-1) n 1) (v 12))) 13 (sJ (rc_truck (nI k) (nI q)) (p_lay N (nI (kx (nI k))) (-1) n 2) (v 13)))) := hD
      exact k_eMi hx hb hr hlocks hP hS (by rw [hrc]; first | done | rfl | (simp only [hcl]; first | done | rfl) | (simp only [hcl, hclp]; first | done | rfl) | (simp only [hclp]; first | done | rfl)) dX5_truck_42
  · have c1 := bI_eq0 c1
    have hrc : rc_truck x w = 1 := by simp [rc_truck, c1]
    refine lv_aload_n hx hb dX5_truck_12 rfl (lv_at hl 0 rfl) ?_
    refine lv_iconst (v := 1) hx hb dX5_truck_13 (by decide) ?_
    refine k_miV (As := [.int 1]) (rest := []) (w1 := []) (wc := mdW cI a N P T U (us v 5 0)) (wc' := mdW cI a N P T U (us v 5 1)) (w3 := []) ⟨hx, hb, hml, hown, hts⟩ (c_X5_fails l D cI cS cL a N P T U (us v 5 0) _ 1) lkX5_33 rfl rfl ⟨(Nat.le_of_ble_eq_true rfl), (Nat.le_of_ble_eq_true rfl)⟩ (va_recv hK hP (ci := 4) (q0 := 0) rfl rfl) hK hE hP hD hS hA rfl rfl hl.1 rfl (Nat.le_of_ble_eq_true rfl) dX5_truck_14 ⟨Nat.zero_le _, Nat.zero_le _⟩ (fun H locs hzz hP hD hS => ?_)
    have hP : va_P D vwCl (mdW cI a N P T U (us v 5 1)) H := hP
    have hD : va_D (va_A (mdW cI a N P T U v) s.heap.size) (mdW cI a N P T U (us v 5 1)) := hD
    have w5 : (us v 5 1) = (us (us (us (us v 5 (rc_truck x w)) 11 (sJ (rc_truck x w) (p_lay N (nI (kx x)) (-1) n 0) (v 11))) 12 (sJ (rc_truck x w) (p_lay N (nI (kx x)) (-1) n 1) (v 12))) 13 (sJ (rc_truck x w) (p_lay N (nI (kx x)) (-1) n 2) (v 13))) := by rw [hrc]; exact (us3_self (us v 5 1)).symm
    have hP : va_P D vwCl (mdW cI a N P T U (us (us (us (us v 5 (rc_truck x w)) 11 (sJ (rc_truck x w) (p_lay N (nI (kx x)) (-1) n 0) (v 11))) 12 (sJ (rc_truck x w) (p_lay N (nI (kx x)) (-1) n 1) (v 12))) 13 (sJ (rc_truck x w) (p_lay N (nI (kx x)) (-1) n 2) (v 13)))) H := (congrArg (fun zz => va_P D vwCl (mdW cI a N P T U zz) H) w5).mp hP
    have hD : va_D (va_A (mdW cI a N P T U v) s.heap.size) (mdW cI a N P T U (us (us (us (us v 5 (rc_truck x w)) 11 (sJ (rc_truck x w) (p_lay N (nI (kx x)) (-1) n 0) (v 11))) 12 (sJ (rc_truck x w) (p_lay N (nI (kx x)) (-1) n 1) (v 12))) 13 (sJ (rc_truck x w) (p_lay N (nI (kx x)) (-1) n 2) (v 13)))) := (congrArg (fun zz => va_D (va_A (mdW cI a N P T U v) s.heap.size) (mdW cI a N P T U zz)) w5).mp hD
    have hP : va_P D vwCl (mdW cI a N P T U (us (us (us (us v 5 (rc_truck x w)) 11 (sJ (rc_truck x w) (p_lay N (nI (kx x)) (-1) n 0) (v 11))) 12 (sJ (rc_truck x w) (p_lay N (nI (kx x)) (-1) n 1) (v 12))) 13 (sJ (rc_truck x w) (p_lay N (nI (kx x)) (-1) n 2) (v 13)))) H := hP
    have hD : va_D (va_A (mdW cI a N P T U v) s.heap.size) (mdW cI a N P T U (us (us (us (us v 5 (rc_truck x w)) 11 (sJ (rc_truck x w) (p_lay N (nI (kx x)) (-1) n 0) (v 11))) 12 (sJ (rc_truck x w) (p_lay N (nI (kx x)) (-1) n 1) (v 12))) 13 (sJ (rc_truck x w) (p_lay N (nI (kx x)) (-1) n 2) (v 13)))) := hD
    exact k_eMi hx hb hr hlocks hP hS (by rw [hrc]; first | done | rfl | (simp only [hcl]; first | done | rfl) | (simp only [hcl, hclp]; first | done | rfl) | (simp only [hclp]; first | done | rfl)) dX5_truck_17

abbrev rmX5_count : Room := { frames := 7, cells := 0, slots := 0, locals := 157 }
set_option maxHeartbeats 4000000 in
set_option maxRecDepth 100000 in
theorem c_X5_count (l : Launch) (D : va_G) (cI cS cL : ClassId) (a : Nat → Nat) (N : NN) (P T U v : Nat → Int32) (sz : Nat) (n : Nat) (w : Int32) (hn : N 1 2 = nI n) (hn14 : n ≤ 14) (hd0 : 0 ≤ N 1 0) : Met l yX5_count (wy_ yX5_count cX5_count 2 (some .int)) rmX5_count (kPc D (kTy cI cS cL) (mdW cI a N P T U v) sz [.ref (a 0), .int w]) (kMi D (mdW cI a N P T U v) (mdW cI a N P T U (us (us (us (us v 5 (rc_count w)) 11 (sJ (rc_count w) (m_cl N n v (kx w) 0) (v 11))) 12 (sJ (rc_count w) (m_cl N n v (kx w) 1) (v 12))) 13 (sJ (rc_count w) (m_cl N n v (kx w) 2) (v 13)))) sz (sR (rc_count w) (p_count N n (v 2) (kx w)))) 0 0 (va_A (mdW cI a N P T U v) sz) := by
  refine k_ofW (by decide) (Nat.le_of_ble_eq_true rfl) ?_
  intro p e s m args below meth c hx hb hr hml hts hown hlocks hnm hsz hP hK hD hE ls hl
  subst hsz
  have hA : ∀ q : Nat, s.heap.size ≤ q → (va_A (mdW cI a N P T U v) s.heap.size) q := fun q h => Or.inr h
  have hS : va_S (va_A (mdW cI a N P T U v) s.heap.size) s.heap s.heap [] := va_S.rf
  have hl : lv_has ls 2 [(0, .ref (a 0)), (1, .int w)] := hl
  refine lv_aload_n hx hb dX5_count_0 rfl (lv_at hl 0 rfl) ?_
  refine lv_iconst (v := 0) hx hb dX5_count_1 (by decide) ?_
  refine f5 hx hb hts hown hK hP hD hS 0 rfl 5 (by decide) flX5_22 (fun _ h => h) rfl rfl rfl (Nat.le_of_ble_eq_true rfl) dX5_count_2 (fun H locs hP hD hS => ?_)
  have hP : va_P D vwCl (mdW cI a N P T U (us v 5 0)) H := hP
  have hD : va_D (va_A (mdW cI a N P T U v) s.heap.size) (mdW cI a N P T U (us v 5 0)) := hD
  refine lv_iload_n hx hb dX5_count_5 rfl (lv_at hl 1 rfl) ?_
  refine lv_iconst (v := 0) hx hb dX5_count_6 (by decide) ?_
  refine lv_bipush (v := 10) hx hb dX5_count_7 (by decide) ?_
  refine k_riS (As := [.int w, .int 0, .int 10]) (rest := []) (wc := []) ⟨hx, hb, hml, hown, hts⟩ (c_X5_in l D cI cS cL _ w 0 10) lkX5_26 rfl rfl ⟨(Nat.le_of_ble_eq_true rfl), (Nat.le_of_ble_eq_true rfl)⟩ hK hE k_nilP (k_nilD (A := va_A (mdW cI a N P T U v) s.heap.size)) rfl hl.1 rfl (Nat.le_of_ble_eq_true rfl) dX5_count_9 ⟨Nat.zero_le _, Nat.zero_le _⟩ ?_
  refine lv_if_eq (tgt := 23) hx hb dX5_count_12 (by decide) (fun c1 => ?_) (fun c1 => ?_)
  · have c1 := bI_eq0 c1
    have hrc : rc_count w = 1 := by simp [rc_count, c1]
    refine lv_aload_n hx hb dX5_count_23 rfl (lv_at hl 0 rfl) ?_
    refine lv_iconst (v := 1) hx hb dX5_count_24 (by decide) ?_
    refine k_miV (As := [.int 1]) (rest := []) (w1 := []) (wc := mdW cI a N P T U (us v 5 0)) (wc' := mdW cI a N P T U (us v 5 1)) (w3 := []) ⟨hx, hb, hml, hown, hts⟩ (c_X5_fails l D cI cS cL a N P T U (us v 5 0) _ 1) lkX5_33 rfl rfl ⟨(Nat.le_of_ble_eq_true rfl), (Nat.le_of_ble_eq_true rfl)⟩ (va_recv hK hP (ci := 4) (q0 := 0) rfl rfl) hK hE hP hD hS hA rfl rfl hl.1 rfl (Nat.le_of_ble_eq_true rfl) dX5_count_25 ⟨Nat.zero_le _, Nat.zero_le _⟩ (fun H locs hzz hP hD hS => ?_)
    have hP : va_P D vwCl (mdW cI a N P T U (us v 5 1)) H := hP
    have hD : va_D (va_A (mdW cI a N P T U v) s.heap.size) (mdW cI a N P T U (us v 5 1)) := hD
    have w2 : (us v 5 1) = (us (us (us (us v 5 (rc_count w)) 11 (sJ (rc_count w) (m_cl N n v (kx w) 0) (v 11))) 12 (sJ (rc_count w) (m_cl N n v (kx w) 1) (v 12))) 13 (sJ (rc_count w) (m_cl N n v (kx w) 2) (v 13))) := by rw [hrc]; exact (us3_self (us v 5 1)).symm
    have hP : va_P D vwCl (mdW cI a N P T U (us (us (us (us v 5 (rc_count w)) 11 (sJ (rc_count w) (m_cl N n v (kx w) 0) (v 11))) 12 (sJ (rc_count w) (m_cl N n v (kx w) 1) (v 12))) 13 (sJ (rc_count w) (m_cl N n v (kx w) 2) (v 13)))) H := (congrArg (fun zz => va_P D vwCl (mdW cI a N P T U zz) H) w2).mp hP
    have hD : va_D (va_A (mdW cI a N P T U v) s.heap.size) (mdW cI a N P T U (us (us (us (us v 5 (rc_count w)) 11 (sJ (rc_count w) (m_cl N n v (kx w) 0) (v 11))) 12 (sJ (rc_count w) (m_cl N n v (kx w) 1) (v 12))) 13 (sJ (rc_count w) (m_cl N n v (kx w) 2) (v 13)))) := (congrArg (fun zz => va_D (va_A (mdW cI a N P T U v) s.heap.size) (mdW cI a N P T U zz)) w2).mp hD
    have hP : va_P D vwCl (mdW cI a N P T U (us (us (us (us v 5 (rc_count w)) 11 (sJ (rc_count w) (m_cl N n v (kx w) 0) (v 11))) 12 (sJ (rc_count w) (m_cl N n v (kx w) 1) (v 12))) 13 (sJ (rc_count w) (m_cl N n v (kx w) 2) (v 13)))) H := hP
    have hD : va_D (va_A (mdW cI a N P T U v) s.heap.size) (mdW cI a N P T U (us (us (us (us v 5 (rc_count w)) 11 (sJ (rc_count w) (m_cl N n v (kx w) 0) (v 11))) 12 (sJ (rc_count w) (m_cl N n v (kx w) 1) (v 12))) 13 (sJ (rc_count w) (m_cl N n v (kx w) 2) (v 13)))) := hD
    exact k_eMi hx hb hr hlocks hP hS (by rw [hrc]; first | done | rfl | (simp only [hcl]; first | done | rfl) | (simp only [hcl, hclp]; first | done | rfl) | (simp only [hclp]; first | done | rfl)) dX5_count_28
  · have c1 := bI_ne0 c1
    have hyy := c1
    obtain ⟨q, hqlo, hqhi, hxp⟩ := p_isB (lo := 0) (hi := 10) (by omega) (by omega) (c1).1 (c1).2
    subst hxp
    have hclp : kx (nI q) = q := kx_nI (by omega)
    have hrc : rc_count (nI q) = 0 := by simp [rc_count, hyy, hclp]
    refine lv_aload_n hx hb dX5_count_15 rfl (lv_at hl 0 rfl) ?_
    refine lv_iload_n hx hb dX5_count_16 rfl (lv_at hl 1 rfl) ?_
    refine k_miV (As := [.int (nI q)]) (rest := []) (w1 := []) (wc := mdW cI a N P T U (us v 5 0)) (wc' := mdW cI a N P T U (us (us (us (us v 5 0) 11 (m_cl N n (us v 5 0) q 0)) 12 (m_cl N n (us v 5 0) q 1)) 13 (m_cl N n (us v 5 0) q 2))) (w3 := []) ⟨hx, hb, hml, hown, hts⟩ (c_X5_counted l D cI cS cL a N P T U (us v 5 0) _ n q hn hn14 (by omega) hd0) lkX5_150 rfl rfl ⟨(Nat.le_of_ble_eq_true rfl), (Nat.le_of_ble_eq_true rfl)⟩ (va_recv hK hP (ci := 4) (q0 := 0) rfl rfl) hK hE hP hD hS hA rfl rfl hl.1 rfl (Nat.le_of_ble_eq_true rfl) dX5_count_17 ⟨Nat.zero_le _, Nat.zero_le _⟩ (fun H locs hzz hP hD hS => ?_)
    have hP : va_P D vwCl (mdW cI a N P T U (us (us (us (us v 5 0) 11 (m_cl N n (us v 5 0) q 0)) 12 (m_cl N n (us v 5 0) q 1)) 13 (m_cl N n (us v 5 0) q 2))) H := hP
    have hD : va_D (va_A (mdW cI a N P T U v) s.heap.size) (mdW cI a N P T U (us (us (us (us v 5 0) 11 (m_cl N n (us v 5 0) q 0)) 12 (m_cl N n (us v 5 0) q 1)) 13 (m_cl N n (us v 5 0) q 2))) := hD
    rw [show p_count N n ((us v 5 0) 2) q = p_count N n (v 2) q from rfl]
    refine lv_goto (tgt := 28) hx hb dX5_count_20 (by decide) ?_
    have w3 : (us (us (us (us v 5 0) 11 (m_cl N n (us v 5 0) q 0)) 12 (m_cl N n (us v 5 0) q 1)) 13 (m_cl N n (us v 5 0) q 2)) = (us (us (us (us v 5 (rc_count (nI q))) 11 (sJ (rc_count (nI q)) (m_cl N n v (kx (nI q)) 0) (v 11))) 12 (sJ (rc_count (nI q)) (m_cl N n v (kx (nI q)) 1) (v 12))) 13 (sJ (rc_count (nI q)) (m_cl N n v (kx (nI q)) 2) (v 13))) := by rw [hrc]; first | done | rfl | (simp only [hcl]; first | done | rfl) | (simp only [hcl, hclp]; first | done | rfl) | (simp only [hclp]; first | done | rfl)
    have hP : va_P D vwCl (mdW cI a N P T U (us (us (us (us v 5 (rc_count (nI q))) 11 (sJ (rc_count (nI q)) (m_cl N n v (kx (nI q)) 0) (v 11))) 12 (sJ (rc_count (nI q)) (m_cl N n v (kx (nI q)) 1) (v 12))) 13 (sJ (rc_count (nI q)) (m_cl N n v (kx (nI q)) 2) (v 13)))) H := (congrArg (fun zz => va_P D vwCl (mdW cI a N P T U zz) H) w3).mp hP
    have hD : va_D (va_A (mdW cI a N P T U v) s.heap.size) (mdW cI a N P T U (us (us (us (us v 5 (rc_count (nI q))) 11 (sJ (rc_count (nI q)) (m_cl N n v (kx (nI q)) 0) (v 11))) 12 (sJ (rc_count (nI q)) (m_cl N n v (kx (nI q)) 1) (v 12))) 13 (sJ (rc_count (nI q)) (m_cl N n v (kx (nI q)) 2) (v 13)))) := (congrArg (fun zz => va_D (va_A (mdW cI a N P T U v) s.heap.size) (mdW cI a N P T U zz)) w3).mp hD
    have hP : va_P D vwCl (mdW cI a N P T U (us (us (us (us v 5 (rc_count (nI q))) 11 (sJ (rc_count (nI q)) (m_cl N n v (kx (nI q)) 0) (v 11))) 12 (sJ (rc_count (nI q)) (m_cl N n v (kx (nI q)) 1) (v 12))) 13 (sJ (rc_count (nI q)) (m_cl N n v (kx (nI q)) 2) (v 13)))) H := hP
    have hD : va_D (va_A (mdW cI a N P T U v) s.heap.size) (mdW cI a N P T U (us (us (us (us v 5 (rc_count (nI q))) 11 (sJ (rc_count (nI q)) (m_cl N n v (kx (nI q)) 0) (v 11))) 12 (sJ (rc_count (nI q)) (m_cl N n v (kx (nI q)) 1) (v 12))) 13 (sJ (rc_count (nI q)) (m_cl N n v (kx (nI q)) 2) (v 13)))) := hD
    exact k_eMi hx hb hr hlocks hP hS (by rw [hrc]; first | done | rfl | (simp only [hcl]; first | done | rfl) | (simp only [hcl, hclp]; first | done | rfl) | (simp only [hclp]; first | done | rfl)) dX5_count_28

abbrev rmX5_ifTested : Room := { frames := 4, cells := 0, slots := 0, locals := 93 }
set_option maxHeartbeats 4000000 in
set_option maxRecDepth 100000 in
theorem c_X5_ifTested (l : Launch) (D : va_G) (cI cS cL : ClassId) (a : Nat → Nat) (N : NN) (P T U v : Nat → Int32) (sz : Nat) (n : Nat) (x w : Int32) (hn : N 1 2 = nI n) (hn14 : n ≤ 14) (hws : ∀ j, j < n → 0 ≤ N 7 j ∧ N 7 j ≤ 99) : Met l yX5_ifTested (wy_ yX5_ifTested cX5_ifTested 3 (some .int)) rmX5_ifTested (kPc D (kTy cI cS cL) (mdW cI a N P T U v) sz [.ref (a 0), .int x, .int w]) (kMi D (mdW cI a N P T U v) (mdW cI a N P T U (us (us v 5 (rc_if N x w)) 10 (sJ (rc_if N x w) (m_tw N (kx x) (kx w) (v 10)) (v 10)))) sz (sR (rc_if N x w) (p_tried N (kx x) (kx w)))) 0 0 (va_A (mdW cI a N P T U v) sz) := by
  refine k_ofW (by decide) (Nat.le_of_ble_eq_true rfl) ?_
  intro p e s m args below meth c hx hb hr hml hts hown hlocks hnm hsz hP hK hD hE ls hl
  subst hsz
  have hA : ∀ q : Nat, s.heap.size ≤ q → (va_A (mdW cI a N P T U v) s.heap.size) q := fun q h => Or.inr h
  have hS : va_S (va_A (mdW cI a N P T U v) s.heap.size) s.heap s.heap [] := va_S.rf
  have hl : lv_has ls 3 [(0, .ref (a 0)), (1, .int x), (2, .int w)] := hl
  refine lv_aload_n hx hb dX5_ifTested_0 rfl (lv_at hl 0 rfl) ?_
  refine lv_iconst (v := 0) hx hb dX5_ifTested_1 (by decide) ?_
  refine f5 hx hb hts hown hK hP hD hS 0 rfl 5 (by decide) flX5_22 (fun _ h => h) rfl rfl rfl (Nat.le_of_ble_eq_true rfl) dX5_ifTested_2 (fun H locs hP hD hS => ?_)
  have hP : va_P D vwCl (mdW cI a N P T U (us v 5 0)) H := hP
  have hD : va_D (va_A (mdW cI a N P T U v) s.heap.size) (mdW cI a N P T U (us v 5 0)) := hD
  refine lv_aload_n hx hb dX5_ifTested_5 rfl (lv_at hl 0 rfl) ?_
  refine lv_iload_n hx hb dX5_ifTested_6 rfl (lv_at hl 1 rfl) ?_
  refine k_riV (As := [.int x]) (rest := []) (wc := mdW cI a N P T U (us v 5 0)) ⟨hx, hb, hml, hown, hts⟩ (c_X5_isHose l D cI cS cL a N P T U (us v 5 0) _ x) lkX5_84 rfl rfl ⟨(Nat.le_of_ble_eq_true rfl), (Nat.le_of_ble_eq_true rfl)⟩ (va_recv hK hP (ci := 4) (q0 := 0) rfl rfl) hK hE hP hD rfl hl.1 rfl (Nat.le_of_ble_eq_true rfl) dX5_ifTested_7 ⟨Nat.zero_le _, Nat.zero_le _⟩ ?_
  refine lv_if_ne (tgt := 19) hx hb dX5_ifTested_10 (by decide) (fun c1 => ?_) (fun c1 => ?_)
  · have c1 := bI_ne0 c1
    have hxx := c1
    obtain ⟨k, hkn, hxk⟩ := p_isH hn hn14 (c1).1 (c1).2
    subst hxk
    have hcl : kx (nI k) = k := kx_nI (by omega)
    refine lv_iload_n hx hb dX5_ifTested_19 rfl (lv_at hl 2 rfl) ?_
    refine lv_iconst (v := 4) hx hb dX5_ifTested_20 (by decide) ?_
    refine lv_bipush (v := 24) hx hb dX5_ifTested_21 (by decide) ?_
    refine k_riS (As := [.int w, .int 4, .int 24]) (rest := []) (wc := []) ⟨hx, hb, hml, hown, hts⟩ (c_X5_in l D cI cS cL _ w 4 24) lkX5_26 rfl rfl ⟨(Nat.le_of_ble_eq_true rfl), (Nat.le_of_ble_eq_true rfl)⟩ hK hE k_nilP (k_nilD (A := va_A (mdW cI a N P T U v) s.heap.size)) rfl hl.1 rfl (Nat.le_of_ble_eq_true rfl) dX5_ifTested_23 ⟨Nat.zero_le _, Nat.zero_le _⟩ ?_
    refine lv_if_eq (tgt := 38) hx hb dX5_ifTested_26 (by decide) (fun c2 => ?_) (fun c2 => ?_)
    · have c2 := bI_eq0 c2
      have hrc : rc_if N (nI k) w = 2 := by simp [rc_if, hxx, hcl, c2]
      refine lv_aload_n hx hb dX5_ifTested_38 rfl (lv_at hl 0 rfl) ?_
      refine lv_iconst (v := 2) hx hb dX5_ifTested_39 (by decide) ?_
      refine k_miV (As := [.int 2]) (rest := []) (w1 := []) (wc := mdW cI a N P T U (us v 5 0)) (wc' := mdW cI a N P T U (us v 5 2)) (w3 := []) ⟨hx, hb, hml, hown, hts⟩ (c_X5_fails l D cI cS cL a N P T U (us v 5 0) _ 2) lkX5_33 rfl rfl ⟨(Nat.le_of_ble_eq_true rfl), (Nat.le_of_ble_eq_true rfl)⟩ (va_recv hK hP (ci := 4) (q0 := 0) rfl rfl) hK hE hP hD hS hA rfl rfl hl.1 rfl (Nat.le_of_ble_eq_true rfl) dX5_ifTested_40 ⟨Nat.zero_le _, Nat.zero_le _⟩ (fun H locs hzz hP hD hS => ?_)
      have hP : va_P D vwCl (mdW cI a N P T U (us v 5 2)) H := hP
      have hD : va_D (va_A (mdW cI a N P T U v) s.heap.size) (mdW cI a N P T U (us v 5 2)) := hD
      have w3 : (us v 5 2) = (us (us v 5 (rc_if N (nI k) w)) 10 (sJ (rc_if N (nI k) w) (m_tw N (kx (nI k)) (kx w) (v 10)) (v 10))) := by rw [hrc]; exact (us_v (us v 5 2) 10).symm
      have hP : va_P D vwCl (mdW cI a N P T U (us (us v 5 (rc_if N (nI k) w)) 10 (sJ (rc_if N (nI k) w) (m_tw N (kx (nI k)) (kx w) (v 10)) (v 10)))) H := (congrArg (fun zz => va_P D vwCl (mdW cI a N P T U zz) H) w3).mp hP
      have hD : va_D (va_A (mdW cI a N P T U v) s.heap.size) (mdW cI a N P T U (us (us v 5 (rc_if N (nI k) w)) 10 (sJ (rc_if N (nI k) w) (m_tw N (kx (nI k)) (kx w) (v 10)) (v 10)))) := (congrArg (fun zz => va_D (va_A (mdW cI a N P T U v) s.heap.size) (mdW cI a N P T U zz)) w3).mp hD
      have hP : va_P D vwCl (mdW cI a N P T U (us (us v 5 (rc_if N (nI k) w)) 10 (sJ (rc_if N (nI k) w) (m_tw N (kx (nI k)) (kx w) (v 10)) (v 10)))) H := hP
      have hD : va_D (va_A (mdW cI a N P T U v) s.heap.size) (mdW cI a N P T U (us (us v 5 (rc_if N (nI k) w)) 10 (sJ (rc_if N (nI k) w) (m_tw N (kx (nI k)) (kx w) (v 10)) (v 10)))) := hD
      exact k_eMi hx hb hr hlocks hP hS (by rw [hrc]; first | done | rfl | (simp only [hcl]; first | done | rfl) | (simp only [hcl, hclp]; first | done | rfl) | (simp only [hclp]; first | done | rfl)) dX5_ifTested_43
    · have c2 := bI_ne0 c2
      have hyy := c2
      obtain ⟨q, hqlo, hqhi, hxp⟩ := p_isB (lo := 4) (hi := 24) (by omega) (by omega) (c2).1 (c2).2
      subst hxp
      have hclp : kx (nI q) = q := kx_nI (by omega)
      have hrc : rc_if N (nI k) (nI q) = 0 := by simp [rc_if, hxx, hcl, hyy, hclp]
      refine lv_aload_n hx hb dX5_ifTested_29 rfl (lv_at hl 0 rfl) ?_
      refine lv_iload_n hx hb dX5_ifTested_30 rfl (lv_at hl 1 rfl) ?_
      refine lv_iload_n hx hb dX5_ifTested_31 rfl (lv_at hl 2 rfl) ?_
      refine k_miV (As := [.int (nI k), .int (nI q)]) (rest := []) (w1 := []) (wc := mdW cI a N P T U (us v 5 0)) (wc' := mdW cI a N P T U (us (us v 5 0) 10 (m_tw N k q ((us v 5 0) 10)))) (w3 := []) ⟨hx, hb, hml, hown, hts⟩ (c_X5_tried l D cI cS cL a N P T U (us v 5 0) _ k q (by omega) (by omega) (by omega) (hws k hkn).1 (hws k hkn).2) lkX5_153 rfl rfl ⟨(Nat.le_of_ble_eq_true rfl), (Nat.le_of_ble_eq_true rfl)⟩ (va_recv hK hP (ci := 4) (q0 := 0) rfl rfl) hK hE hP hD hS hA rfl rfl hl.1 rfl (Nat.le_of_ble_eq_true rfl) dX5_ifTested_32 ⟨Nat.zero_le _, Nat.zero_le _⟩ (fun H locs hzz hP hD hS => ?_)
      have hP : va_P D vwCl (mdW cI a N P T U (us (us v 5 0) 10 (m_tw N k q ((us v 5 0) 10)))) H := hP
      have hD : va_D (va_A (mdW cI a N P T U v) s.heap.size) (mdW cI a N P T U (us (us v 5 0) 10 (m_tw N k q ((us v 5 0) 10)))) := hD
      refine lv_goto (tgt := 43) hx hb dX5_ifTested_35 (by decide) ?_
      have w4 : (us (us v 5 0) 10 (m_tw N k q ((us v 5 0) 10))) = (us (us v 5 (rc_if N (nI k) (nI q))) 10 (sJ (rc_if N (nI k) (nI q)) (m_tw N (kx (nI k)) (kx (nI q)) (v 10)) (v 10))) := by rw [hrc]; first | done | rfl | (simp only [hcl]; first | done | rfl) | (simp only [hcl, hclp]; first | done | rfl) | (simp only [hclp]; first | done | rfl)
      have hP : va_P D vwCl (mdW cI a N P T U (us (us v 5 (rc_if N (nI k) (nI q))) 10 (sJ (rc_if N (nI k) (nI q)) (m_tw N (kx (nI k)) (kx (nI q)) (v 10)) (v 10)))) H := (congrArg (fun zz => va_P D vwCl (mdW cI a N P T U zz) H) w4).mp hP
      have hD : va_D (va_A (mdW cI a N P T U v) s.heap.size) (mdW cI a N P T U (us (us v 5 (rc_if N (nI k) (nI q))) 10 (sJ (rc_if N (nI k) (nI q)) (m_tw N (kx (nI k)) (kx (nI q)) (v 10)) (v 10)))) := (congrArg (fun zz => va_D (va_A (mdW cI a N P T U v) s.heap.size) (mdW cI a N P T U zz)) w4).mp hD
      have hP : va_P D vwCl (mdW cI a N P T U (us (us v 5 (rc_if N (nI k) (nI q))) 10 (sJ (rc_if N (nI k) (nI q)) (m_tw N (kx (nI k)) (kx (nI q)) (v 10)) (v 10)))) H := hP
      have hD : va_D (va_A (mdW cI a N P T U v) s.heap.size) (mdW cI a N P T U (us (us v 5 (rc_if N (nI k) (nI q))) 10 (sJ (rc_if N (nI k) (nI q)) (m_tw N (kx (nI k)) (kx (nI q)) (v 10)) (v 10)))) := hD
      exact k_eMi hx hb hr hlocks hP hS (by rw [hrc]; first | done | rfl | (simp only [hcl]; first | done | rfl) | (simp only [hcl, hclp]; first | done | rfl) | (simp only [hclp]; first | done | rfl)) dX5_ifTested_43
  · have c1 := bI_eq0 c1
    have hrc : rc_if N x w = 1 := by simp [rc_if, c1]
    refine lv_aload_n hx hb dX5_ifTested_13 rfl (lv_at hl 0 rfl) ?_
    refine lv_iconst (v := 1) hx hb dX5_ifTested_14 (by decide) ?_
    refine k_miV (As := [.int 1]) (rest := []) (w1 := []) (wc := mdW cI a N P T U (us v 5 0)) (wc' := mdW cI a N P T U (us v 5 1)) (w3 := []) ⟨hx, hb, hml, hown, hts⟩ (c_X5_fails l D cI cS cL a N P T U (us v 5 0) _ 1) lkX5_33 rfl rfl ⟨(Nat.le_of_ble_eq_true rfl), (Nat.le_of_ble_eq_true rfl)⟩ (va_recv hK hP (ci := 4) (q0 := 0) rfl rfl) hK hE hP hD hS hA rfl rfl hl.1 rfl (Nat.le_of_ble_eq_true rfl) dX5_ifTested_15 ⟨Nat.zero_le _, Nat.zero_le _⟩ (fun H locs hzz hP hD hS => ?_)
    have hP : va_P D vwCl (mdW cI a N P T U (us v 5 1)) H := hP
    have hD : va_D (va_A (mdW cI a N P T U v) s.heap.size) (mdW cI a N P T U (us v 5 1)) := hD
    have w5 : (us v 5 1) = (us (us v 5 (rc_if N x w)) 10 (sJ (rc_if N x w) (m_tw N (kx x) (kx w) (v 10)) (v 10))) := by rw [hrc]; exact (us_v (us v 5 1) 10).symm
    have hP : va_P D vwCl (mdW cI a N P T U (us (us v 5 (rc_if N x w)) 10 (sJ (rc_if N x w) (m_tw N (kx x) (kx w) (v 10)) (v 10)))) H := (congrArg (fun zz => va_P D vwCl (mdW cI a N P T U zz) H) w5).mp hP
    have hD : va_D (va_A (mdW cI a N P T U v) s.heap.size) (mdW cI a N P T U (us (us v 5 (rc_if N x w)) 10 (sJ (rc_if N x w) (m_tw N (kx x) (kx w) (v 10)) (v 10)))) := (congrArg (fun zz => va_D (va_A (mdW cI a N P T U v) s.heap.size) (mdW cI a N P T U zz)) w5).mp hD
    have hP : va_P D vwCl (mdW cI a N P T U (us (us v 5 (rc_if N x w)) 10 (sJ (rc_if N x w) (m_tw N (kx x) (kx w) (v 10)) (v 10)))) H := hP
    have hD : va_D (va_A (mdW cI a N P T U v) s.heap.size) (mdW cI a N P T U (us (us v 5 (rc_if N x w)) 10 (sJ (rc_if N x w) (m_tw N (kx x) (kx w) (v 10)) (v 10)))) := hD
    exact k_eMi hx hb hr hlocks hP hS (by rw [hrc]; first | done | rfl | (simp only [hcl]; first | done | rfl) | (simp only [hcl, hclp]; first | done | rfl) | (simp only [hclp]; first | done | rfl)) dX5_ifTested_18

abbrev rmX5_safe : Room := { frames := 5, cells := 0, slots := 0, locals := 115 }
set_option maxHeartbeats 4000000 in
set_option maxRecDepth 100000 in
theorem c_X5_safe (l : Launch) (D : va_G) (cI cS cL : ClassId) (a : Nat → Nat) (N : NN) (P T U v : Nat → Int32) (sz : Nat) (n : Nat) (x : Int32) (hn : N 1 2 = nI n) (hn14 : n ≤ 14) (hws : ∀ j, j < n → 0 ≤ N 7 j ∧ N 7 j ≤ 99) : Met l yX5_safe (wy_ yX5_safe cX5_safe 2 (some .int)) rmX5_safe (kPc D (kTy cI cS cL) (mdW cI a N P T U v) sz [.ref (a 0), .int x]) (kMi D (mdW cI a N P T U v) (mdW cI a N P T U (us (us v 5 (rc_safe N x)) 10 (sJ (rc_safe N x) (m_gz N (kx x) 21 (v 10)) (v 10)))) sz (sR (rc_safe N x) (p_safeG N (kx x)))) 0 0 (va_A (mdW cI a N P T U v) sz) := by
  refine k_ofW (by decide) (Nat.le_of_ble_eq_true rfl) ?_
  intro p e s m args below meth c hx hb hr hml hts hown hlocks hnm hsz hP hK hD hE ls hl
  subst hsz
  have hA : ∀ q : Nat, s.heap.size ≤ q → (va_A (mdW cI a N P T U v) s.heap.size) q := fun q h => Or.inr h
  have hS : va_S (va_A (mdW cI a N P T U v) s.heap.size) s.heap s.heap [] := va_S.rf
  have hl : lv_has ls 2 [(0, .ref (a 0)), (1, .int x)] := hl
  refine lv_aload_n hx hb dX5_safe_0 rfl (lv_at hl 0 rfl) ?_
  refine lv_iconst (v := 0) hx hb dX5_safe_1 (by decide) ?_
  refine f5 hx hb hts hown hK hP hD hS 0 rfl 5 (by decide) flX5_22 (fun _ h => h) rfl rfl rfl (Nat.le_of_ble_eq_true rfl) dX5_safe_2 (fun H locs hP hD hS => ?_)
  have hP : va_P D vwCl (mdW cI a N P T U (us v 5 0)) H := hP
  have hD : va_D (va_A (mdW cI a N P T U v) s.heap.size) (mdW cI a N P T U (us v 5 0)) := hD
  refine lv_aload_n hx hb dX5_safe_5 rfl (lv_at hl 0 rfl) ?_
  refine lv_iload_n hx hb dX5_safe_6 rfl (lv_at hl 1 rfl) ?_
  refine k_riV (As := [.int x]) (rest := []) (wc := mdW cI a N P T U (us v 5 0)) ⟨hx, hb, hml, hown, hts⟩ (c_X5_isHose l D cI cS cL a N P T U (us v 5 0) _ x) lkX5_84 rfl rfl ⟨(Nat.le_of_ble_eq_true rfl), (Nat.le_of_ble_eq_true rfl)⟩ (va_recv hK hP (ci := 4) (q0 := 0) rfl rfl) hK hE hP hD rfl hl.1 rfl (Nat.le_of_ble_eq_true rfl) dX5_safe_7 ⟨Nat.zero_le _, Nat.zero_le _⟩ ?_
  refine lv_if_eq (tgt := 21) hx hb dX5_safe_10 (by decide) (fun c1 => ?_) (fun c1 => ?_)
  · have c1 := bI_eq0 c1
    have hrc : rc_safe N x = 1 := by simp [rc_safe, c1]
    refine lv_aload_n hx hb dX5_safe_21 rfl (lv_at hl 0 rfl) ?_
    refine lv_iconst (v := 1) hx hb dX5_safe_22 (by decide) ?_
    refine k_miV (As := [.int 1]) (rest := []) (w1 := []) (wc := mdW cI a N P T U (us v 5 0)) (wc' := mdW cI a N P T U (us v 5 1)) (w3 := []) ⟨hx, hb, hml, hown, hts⟩ (c_X5_fails l D cI cS cL a N P T U (us v 5 0) _ 1) lkX5_33 rfl rfl ⟨(Nat.le_of_ble_eq_true rfl), (Nat.le_of_ble_eq_true rfl)⟩ (va_recv hK hP (ci := 4) (q0 := 0) rfl rfl) hK hE hP hD hS hA rfl rfl hl.1 rfl (Nat.le_of_ble_eq_true rfl) dX5_safe_23 ⟨Nat.zero_le _, Nat.zero_le _⟩ (fun H locs hzz hP hD hS => ?_)
    have hP : va_P D vwCl (mdW cI a N P T U (us v 5 1)) H := hP
    have hD : va_D (va_A (mdW cI a N P T U v) s.heap.size) (mdW cI a N P T U (us v 5 1)) := hD
    have w2 : (us v 5 1) = (us (us v 5 (rc_safe N x)) 10 (sJ (rc_safe N x) (m_gz N (kx x) 21 (v 10)) (v 10))) := by rw [hrc]; exact (us_v (us v 5 1) 10).symm
    have hP : va_P D vwCl (mdW cI a N P T U (us (us v 5 (rc_safe N x)) 10 (sJ (rc_safe N x) (m_gz N (kx x) 21 (v 10)) (v 10)))) H := (congrArg (fun zz => va_P D vwCl (mdW cI a N P T U zz) H) w2).mp hP
    have hD : va_D (va_A (mdW cI a N P T U v) s.heap.size) (mdW cI a N P T U (us (us v 5 (rc_safe N x)) 10 (sJ (rc_safe N x) (m_gz N (kx x) 21 (v 10)) (v 10)))) := (congrArg (fun zz => va_D (va_A (mdW cI a N P T U v) s.heap.size) (mdW cI a N P T U zz)) w2).mp hD
    have hP : va_P D vwCl (mdW cI a N P T U (us (us v 5 (rc_safe N x)) 10 (sJ (rc_safe N x) (m_gz N (kx x) 21 (v 10)) (v 10)))) H := hP
    have hD : va_D (va_A (mdW cI a N P T U v) s.heap.size) (mdW cI a N P T U (us (us v 5 (rc_safe N x)) 10 (sJ (rc_safe N x) (m_gz N (kx x) 21 (v 10)) (v 10)))) := hD
    exact k_eMi hx hb hr hlocks hP hS (by rw [hrc]; first | done | rfl | (simp only [hcl]; first | done | rfl) | (simp only [hcl, hclp]; first | done | rfl) | (simp only [hclp]; first | done | rfl)) dX5_safe_26
  · have c1 := bI_ne0 c1
    have hxx := c1
    obtain ⟨k, hkn, hxk⟩ := p_isH hn hn14 (c1).1 (c1).2
    subst hxk
    have hcl : kx (nI k) = k := kx_nI (by omega)
    have hrc : rc_safe N (nI k) = 0 := by simp [rc_safe, hxx, hcl]
    refine lv_aload_n hx hb dX5_safe_13 rfl (lv_at hl 0 rfl) ?_
    refine lv_iload_n hx hb dX5_safe_14 rfl (lv_at hl 1 rfl) ?_
    refine k_miV (As := [.int (nI k)]) (rest := []) (w1 := []) (wc := mdW cI a N P T U (us v 5 0)) (wc' := mdW cI a N P T U (us (us v 5 0) 10 (m_gz N k 21 ((us v 5 0) 10)))) (w3 := []) ⟨hx, hb, hml, hown, hts⟩ (c_X5_greatest l D cI cS cL a N P T U (us v 5 0) _ k (by omega) (hws k hkn).1 (hws k hkn).2) lkX5_156 rfl rfl ⟨(Nat.le_of_ble_eq_true rfl), (Nat.le_of_ble_eq_true rfl)⟩ (va_recv hK hP (ci := 4) (q0 := 0) rfl rfl) hK hE hP hD hS hA rfl rfl hl.1 rfl (Nat.le_of_ble_eq_true rfl) dX5_safe_15 ⟨Nat.zero_le _, Nat.zero_le _⟩ (fun H locs hzz hP hD hS => ?_)
    have hP : va_P D vwCl (mdW cI a N P T U (us (us v 5 0) 10 (m_gz N k 21 ((us v 5 0) 10)))) H := hP
    have hD : va_D (va_A (mdW cI a N P T U v) s.heap.size) (mdW cI a N P T U (us (us v 5 0) 10 (m_gz N k 21 ((us v 5 0) 10)))) := hD
    refine lv_goto (tgt := 26) hx hb dX5_safe_18 (by decide) ?_
    have w3 : (us (us v 5 0) 10 (m_gz N k 21 ((us v 5 0) 10))) = (us (us v 5 (rc_safe N (nI k))) 10 (sJ (rc_safe N (nI k)) (m_gz N (kx (nI k)) 21 (v 10)) (v 10))) := by rw [hrc]; first | done | rfl | (simp only [hcl]; first | done | rfl) | (simp only [hcl, hclp]; first | done | rfl) | (simp only [hclp]; first | done | rfl)
    have hP : va_P D vwCl (mdW cI a N P T U (us (us v 5 (rc_safe N (nI k))) 10 (sJ (rc_safe N (nI k)) (m_gz N (kx (nI k)) 21 (v 10)) (v 10)))) H := (congrArg (fun zz => va_P D vwCl (mdW cI a N P T U zz) H) w3).mp hP
    have hD : va_D (va_A (mdW cI a N P T U v) s.heap.size) (mdW cI a N P T U (us (us v 5 (rc_safe N (nI k))) 10 (sJ (rc_safe N (nI k)) (m_gz N (kx (nI k)) 21 (v 10)) (v 10)))) := (congrArg (fun zz => va_D (va_A (mdW cI a N P T U v) s.heap.size) (mdW cI a N P T U zz)) w3).mp hD
    have hP : va_P D vwCl (mdW cI a N P T U (us (us v 5 (rc_safe N (nI k))) 10 (sJ (rc_safe N (nI k)) (m_gz N (kx (nI k)) 21 (v 10)) (v 10)))) H := hP
    have hD : va_D (va_A (mdW cI a N P T U v) s.heap.size) (mdW cI a N P T U (us (us v 5 (rc_safe N (nI k))) 10 (sJ (rc_safe N (nI k)) (m_gz N (kx (nI k)) 21 (v 10)) (v 10)))) := hD
    exact k_eMi hx hb hr hlocks hP hS (by rw [hrc]; first | done | rfl | (simp only [hcl]; first | done | rfl) | (simp only [hcl, hclp]; first | done | rfl) | (simp only [hclp]; first | done | rfl)) dX5_safe_26

abbrev rmX5_helps : Room := { frames := 6, cells := 0, slots := 0, locals := 138 }
set_option maxHeartbeats 4000000 in
set_option maxRecDepth 100000 in
theorem c_X5_helps (l : Launch) (D : va_G) (cI cS cL : ClassId) (a : Nat → Nat) (N : NN) (P T U v : Nat → Int32) (sz : Nat) (n : Nat) (x : Int32) (hn : N 1 2 = nI n) (hn14 : n ≤ 14) (hd0 : 0 ≤ N 1 0) (hkds : ∀ j, j < n → kdOk (N 3 j)) : Met l yX5_helps (wy_ yX5_helps cX5_helps 2 (some .int)) rmX5_helps (kPc D (kTy cI cS cL) (mdW cI a N P T U v) sz [.ref (a 0), .int x]) (kMi D (mdW cI a N P T U v) (mdW cI a N P T U (us (us (us (us v 5 (rc_set1 x)) 11 (sJ (rc_set1 x) (p_helpv N (kx x) n 0) (v 11))) 12 (sJ (rc_set1 x) (p_helpv N (kx x) n 1) (v 12))) 13 (sJ (rc_set1 x) (p_helpv N (kx x) n 2) (v 13)))) sz (sR (rc_set1 x) (p_help N (kx x) n))) 0 0 (va_A (mdW cI a N P T U v) sz) := by
  refine k_ofW (by decide) (Nat.le_of_ble_eq_true rfl) ?_
  intro p e s m args below meth c hx hb hr hml hts hown hlocks hnm hsz hP hK hD hE ls hl
  subst hsz
  have hA : ∀ q : Nat, s.heap.size ≤ q → (va_A (mdW cI a N P T U v) s.heap.size) q := fun q h => Or.inr h
  have hS : va_S (va_A (mdW cI a N P T U v) s.heap.size) s.heap s.heap [] := va_S.rf
  have hl : lv_has ls 2 [(0, .ref (a 0)), (1, .int x)] := hl
  refine lv_aload_n hx hb dX5_helps_0 rfl (lv_at hl 0 rfl) ?_
  refine lv_iconst (v := 0) hx hb dX5_helps_1 (by decide) ?_
  refine f5 hx hb hts hown hK hP hD hS 0 rfl 5 (by decide) flX5_22 (fun _ h => h) rfl rfl rfl (Nat.le_of_ble_eq_true rfl) dX5_helps_2 (fun H locs hP hD hS => ?_)
  have hP : va_P D vwCl (mdW cI a N P T U (us v 5 0)) H := hP
  have hD : va_D (va_A (mdW cI a N P T U v) s.heap.size) (mdW cI a N P T U (us v 5 0)) := hD
  refine lv_iload_n hx hb dX5_helps_5 rfl (lv_at hl 1 rfl) ?_
  refine k_riS (As := [.int x]) (rest := []) (wc := []) ⟨hx, hb, hml, hown, hts⟩ (c_X5_isTruck l D cI cS cL _ x) lkX5_99 rfl rfl ⟨(Nat.le_of_ble_eq_true rfl), (Nat.le_of_ble_eq_true rfl)⟩ hK hE k_nilP (k_nilD (A := va_A (mdW cI a N P T U v) s.heap.size)) rfl hl.1 rfl (Nat.le_of_ble_eq_true rfl) dX5_helps_6 ⟨Nat.zero_le _, Nat.zero_le _⟩ ?_
  refine lv_if_eq (tgt := 20) hx hb dX5_helps_9 (by decide) (fun c1 => ?_) (fun c1 => ?_)
  · have c1 := bI_eq0 c1
    have hrc : rc_set1 x = 1 := by simp [rc_set1, c1]
    refine lv_aload_n hx hb dX5_helps_20 rfl (lv_at hl 0 rfl) ?_
    refine lv_iconst (v := 1) hx hb dX5_helps_21 (by decide) ?_
    refine k_miV (As := [.int 1]) (rest := []) (w1 := []) (wc := mdW cI a N P T U (us v 5 0)) (wc' := mdW cI a N P T U (us v 5 1)) (w3 := []) ⟨hx, hb, hml, hown, hts⟩ (c_X5_fails l D cI cS cL a N P T U (us v 5 0) _ 1) lkX5_33 rfl rfl ⟨(Nat.le_of_ble_eq_true rfl), (Nat.le_of_ble_eq_true rfl)⟩ (va_recv hK hP (ci := 4) (q0 := 0) rfl rfl) hK hE hP hD hS hA rfl rfl hl.1 rfl (Nat.le_of_ble_eq_true rfl) dX5_helps_22 ⟨Nat.zero_le _, Nat.zero_le _⟩ (fun H locs hzz hP hD hS => ?_)
    have hP : va_P D vwCl (mdW cI a N P T U (us v 5 1)) H := hP
    have hD : va_D (va_A (mdW cI a N P T U v) s.heap.size) (mdW cI a N P T U (us v 5 1)) := hD
    have w2 : (us v 5 1) = (us (us (us (us v 5 (rc_set1 x)) 11 (sJ (rc_set1 x) (p_helpv N (kx x) n 0) (v 11))) 12 (sJ (rc_set1 x) (p_helpv N (kx x) n 1) (v 12))) 13 (sJ (rc_set1 x) (p_helpv N (kx x) n 2) (v 13))) := by rw [hrc]; exact (us3_self (us v 5 1)).symm
    have hP : va_P D vwCl (mdW cI a N P T U (us (us (us (us v 5 (rc_set1 x)) 11 (sJ (rc_set1 x) (p_helpv N (kx x) n 0) (v 11))) 12 (sJ (rc_set1 x) (p_helpv N (kx x) n 1) (v 12))) 13 (sJ (rc_set1 x) (p_helpv N (kx x) n 2) (v 13)))) H := (congrArg (fun zz => va_P D vwCl (mdW cI a N P T U zz) H) w2).mp hP
    have hD : va_D (va_A (mdW cI a N P T U v) s.heap.size) (mdW cI a N P T U (us (us (us (us v 5 (rc_set1 x)) 11 (sJ (rc_set1 x) (p_helpv N (kx x) n 0) (v 11))) 12 (sJ (rc_set1 x) (p_helpv N (kx x) n 1) (v 12))) 13 (sJ (rc_set1 x) (p_helpv N (kx x) n 2) (v 13)))) := (congrArg (fun zz => va_D (va_A (mdW cI a N P T U v) s.heap.size) (mdW cI a N P T U zz)) w2).mp hD
    have hP : va_P D vwCl (mdW cI a N P T U (us (us (us (us v 5 (rc_set1 x)) 11 (sJ (rc_set1 x) (p_helpv N (kx x) n 0) (v 11))) 12 (sJ (rc_set1 x) (p_helpv N (kx x) n 1) (v 12))) 13 (sJ (rc_set1 x) (p_helpv N (kx x) n 2) (v 13)))) H := hP
    have hD : va_D (va_A (mdW cI a N P T U v) s.heap.size) (mdW cI a N P T U (us (us (us (us v 5 (rc_set1 x)) 11 (sJ (rc_set1 x) (p_helpv N (kx x) n 0) (v 11))) 12 (sJ (rc_set1 x) (p_helpv N (kx x) n 1) (v 12))) 13 (sJ (rc_set1 x) (p_helpv N (kx x) n 2) (v 13)))) := hD
    exact k_eMi hx hb hr hlocks hP hS (by rw [hrc]; first | done | rfl | (simp only [hcl]; first | done | rfl) | (simp only [hcl, hclp]; first | done | rfl) | (simp only [hclp]; first | done | rfl)) dX5_helps_25
  · have c1 := bI_ne0 c1
    have hxx := c1
    obtain ⟨k, hk3, hxk⟩ := p_isT (c1).1 (c1).2
    subst hxk
    have hcl : kx (nI k) = k := kx_nI (by omega)
    have hrc : rc_set1 (nI k) = 0 := by simp [rc_set1, hxx, hcl]
    refine lv_aload_n hx hb dX5_helps_12 rfl (lv_at hl 0 rfl) ?_
    refine lv_iload_n hx hb dX5_helps_13 rfl (lv_at hl 1 rfl) ?_
    refine k_miV (As := [.int (nI k)]) (rest := []) (w1 := []) (wc := mdW cI a N P T U (us v 5 0)) (wc' := mdW cI a N P T U (us (us (us (us v 5 0) 11 (p_helpv N k n 0)) 12 (p_helpv N k n 1)) 13 (p_helpv N k n 2))) (w3 := []) ⟨hx, hb, hml, hown, hts⟩ (c_X5_cheapest l D cI cS cL a N P T U (us v 5 0) _ n k hn hn14 (by omega) hd0 hkds) lkX5_163 rfl rfl ⟨(Nat.le_of_ble_eq_true rfl), (Nat.le_of_ble_eq_true rfl)⟩ (va_recv hK hP (ci := 4) (q0 := 0) rfl rfl) hK hE hP hD hS hA rfl rfl hl.1 rfl (Nat.le_of_ble_eq_true rfl) dX5_helps_14 ⟨Nat.zero_le _, Nat.zero_le _⟩ (fun H locs hzz hP hD hS => ?_)
    have hP : va_P D vwCl (mdW cI a N P T U (us (us (us (us v 5 0) 11 (p_helpv N k n 0)) 12 (p_helpv N k n 1)) 13 (p_helpv N k n 2))) H := hP
    have hD : va_D (va_A (mdW cI a N P T U v) s.heap.size) (mdW cI a N P T U (us (us (us (us v 5 0) 11 (p_helpv N k n 0)) 12 (p_helpv N k n 1)) 13 (p_helpv N k n 2))) := hD
    refine lv_goto (tgt := 25) hx hb dX5_helps_17 (by decide) ?_
    have w3 : (us (us (us (us v 5 0) 11 (p_helpv N k n 0)) 12 (p_helpv N k n 1)) 13 (p_helpv N k n 2)) = (us (us (us (us v 5 (rc_set1 (nI k))) 11 (sJ (rc_set1 (nI k)) (p_helpv N (kx (nI k)) n 0) (v 11))) 12 (sJ (rc_set1 (nI k)) (p_helpv N (kx (nI k)) n 1) (v 12))) 13 (sJ (rc_set1 (nI k)) (p_helpv N (kx (nI k)) n 2) (v 13))) := by rw [hrc]; first | done | rfl | (simp only [hcl]; first | done | rfl) | (simp only [hcl, hclp]; first | done | rfl) | (simp only [hclp]; first | done | rfl)
    have hP : va_P D vwCl (mdW cI a N P T U (us (us (us (us v 5 (rc_set1 (nI k))) 11 (sJ (rc_set1 (nI k)) (p_helpv N (kx (nI k)) n 0) (v 11))) 12 (sJ (rc_set1 (nI k)) (p_helpv N (kx (nI k)) n 1) (v 12))) 13 (sJ (rc_set1 (nI k)) (p_helpv N (kx (nI k)) n 2) (v 13)))) H := (congrArg (fun zz => va_P D vwCl (mdW cI a N P T U zz) H) w3).mp hP
    have hD : va_D (va_A (mdW cI a N P T U v) s.heap.size) (mdW cI a N P T U (us (us (us (us v 5 (rc_set1 (nI k))) 11 (sJ (rc_set1 (nI k)) (p_helpv N (kx (nI k)) n 0) (v 11))) 12 (sJ (rc_set1 (nI k)) (p_helpv N (kx (nI k)) n 1) (v 12))) 13 (sJ (rc_set1 (nI k)) (p_helpv N (kx (nI k)) n 2) (v 13)))) := (congrArg (fun zz => va_D (va_A (mdW cI a N P T U v) s.heap.size) (mdW cI a N P T U zz)) w3).mp hD
    have hP : va_P D vwCl (mdW cI a N P T U (us (us (us (us v 5 (rc_set1 (nI k))) 11 (sJ (rc_set1 (nI k)) (p_helpv N (kx (nI k)) n 0) (v 11))) 12 (sJ (rc_set1 (nI k)) (p_helpv N (kx (nI k)) n 1) (v 12))) 13 (sJ (rc_set1 (nI k)) (p_helpv N (kx (nI k)) n 2) (v 13)))) H := hP
    have hD : va_D (va_A (mdW cI a N P T U v) s.heap.size) (mdW cI a N P T U (us (us (us (us v 5 (rc_set1 (nI k))) 11 (sJ (rc_set1 (nI k)) (p_helpv N (kx (nI k)) n 0) (v 11))) 12 (sJ (rc_set1 (nI k)) (p_helpv N (kx (nI k)) n 1) (v 12))) 13 (sJ (rc_set1 (nI k)) (p_helpv N (kx (nI k)) n 2) (v 13)))) := hD
    exact k_eMi hx hb hr hlocks hP hS (by rw [hrc]; first | done | rfl | (simp only [hcl]; first | done | rfl) | (simp only [hcl, hclp]; first | done | rfl) | (simp only [hclp]; first | done | rfl)) dX5_helps_25

abbrev rmX5_nextLapse : Room := { frames := 4, cells := 0, slots := 0, locals := 90 }
set_option maxHeartbeats 4000000 in
set_option maxRecDepth 100000 in
theorem c_X5_nextLapse (l : Launch) (D : va_G) (cI cS cL : ClassId) (a : Nat → Nat) (N : NN) (P T U v : Nat → Int32) (sz : Nat) (n : Nat) (hn : N 1 2 = nI n) (hn14 : n ≤ 14) (hd0 : 0 ≤ N 1 0) : Met l yX5_nextLapse (wy_ yX5_nextLapse cX5_nextLapse 1 (some .int)) rmX5_nextLapse (kPc D (kTy cI cS cL) (mdW cI a N P T U v) sz [.ref (a 0)]) (kMi D (mdW cI a N P T U v) (mdW cI a N P T U (us v 5 0)) sz (p_fl N n)) 0 0 (va_A (mdW cI a N P T U v) sz) := by
  refine k_ofW (by decide) (Nat.le_of_ble_eq_true rfl) ?_
  intro p e s m args below meth c hx hb hr hml hts hown hlocks hnm hsz hP hK hD hE ls hl
  subst hsz
  have hA : ∀ q : Nat, s.heap.size ≤ q → (va_A (mdW cI a N P T U v) s.heap.size) q := fun q h => Or.inr h
  have hS : va_S (va_A (mdW cI a N P T U v) s.heap.size) s.heap s.heap [] := va_S.rf
  have hl : lv_has ls 1 [(0, .ref (a 0))] := hl
  refine lv_aload_n hx hb dX5_nextLapse_0 rfl (lv_at hl 0 rfl) ?_
  refine lv_iconst (v := 0) hx hb dX5_nextLapse_1 (by decide) ?_
  refine f5 hx hb hts hown hK hP hD hS 0 rfl 5 (by decide) flX5_22 (fun _ h => h) rfl rfl rfl (Nat.le_of_ble_eq_true rfl) dX5_nextLapse_2 (fun H locs hP hD hS => ?_)
  have hP : va_P D vwCl (mdW cI a N P T U (us v 5 0)) H := hP
  have hD : va_D (va_A (mdW cI a N P T U v) s.heap.size) (mdW cI a N P T U (us v 5 0)) := hD
  refine lv_aload_n hx hb dX5_nextLapse_5 rfl (lv_at hl 0 rfl) ?_
  refine k_riV (As := []) (rest := []) (wc := mdW cI a N P T U (us v 5 0)) ⟨hx, hb, hml, hown, hts⟩ (c_X5_lapses l D cI cS cL a N P T U (us v 5 0) _ n hn hn14 hd0) lkX5_159 rfl rfl ⟨(Nat.le_of_ble_eq_true rfl), (Nat.le_of_ble_eq_true rfl)⟩ (va_recv hK hP (ci := 4) (q0 := 0) rfl rfl) hK hE hP hD rfl hl.1 rfl (Nat.le_of_ble_eq_true rfl) dX5_nextLapse_6 ⟨Nat.zero_le _, Nat.zero_le _⟩ ?_
  have hP : va_P D vwCl (mdW cI a N P T U (us v 5 0)) H := hP
  have hD : va_D (va_A (mdW cI a N P T U v) s.heap.size) (mdW cI a N P T U (us v 5 0)) := hD
  exact k_eMi hx hb hr hlocks hP hS rfl dX5_nextLapse_9

abbrev rmX5_clearBuffer : Room := { frames := 0, cells := 0, slots := 0, locals := 0 }
set_option maxHeartbeats 4000000 in
set_option maxRecDepth 100000 in
theorem c_X5_clearBuffer (l : Launch) (D : va_G) (cI cS cL : ClassId) (a : Nat → Nat) (N : NN) (P T U v : Nat → Int32) (sz : Nat) : Met l yX5_clearBuffer (wy_ yX5_clearBuffer cX5_clearBuffer 2 (some .int)) rmX5_clearBuffer (kPc D (kTy cI cS cL) (mdW cI a N P T U v) sz [.ref (a 0)]) (kMi D (mdW cI a N P T U v) (mdW cI a N P T U (us (us v 4 0) 5 0)) sz (v 4)) 0 0 (va_A (mdW cI a N P T U v) sz) := by
  refine k_ofW (by decide) (Nat.le_of_ble_eq_true rfl) ?_
  intro p e s m args below meth c hx hb hr hml hts hown hlocks hnm hsz hP hK hD hE ls hl
  subst hsz
  have hA : ∀ q : Nat, s.heap.size ≤ q → (va_A (mdW cI a N P T U v) s.heap.size) q := fun q h => Or.inr h
  have hS : va_S (va_A (mdW cI a N P T U v) s.heap.size) s.heap s.heap [] := va_S.rf
  have hl : lv_has ls 2 [(0, .ref (a 0))] := hl
  refine lv_aload_n hx hb dX5_clearBuffer_0 rfl (lv_at hl 0 rfl) ?_
  refine lv_iconst (v := 0) hx hb dX5_clearBuffer_1 (by decide) ?_
  refine f5 hx hb hts hown hK hP hD hS 0 rfl 5 (by decide) flX5_22 (fun _ h => h) rfl rfl rfl (Nat.le_of_ble_eq_true rfl) dX5_clearBuffer_2 (fun H locs hP hD hS => ?_)
  have hP : va_P D vwCl (mdW cI a N P T U (us v 5 0)) H := hP
  have hD : va_D (va_A (mdW cI a N P T U v) s.heap.size) (mdW cI a N P T U (us v 5 0)) := hD
  refine lv_aload_n hx hb dX5_clearBuffer_5 rfl (lv_at hl 0 rfl) ?_
  refine g5 hx hb hts hown hK hP 0 rfl 4 (by decide) flX5_105 (fun _ h => h) (v := .int (v 4)) rfl dX5_clearBuffer_6 ?_
  refine lv_istore_n (lv' := [(1, .int (v 4)), (0, .ref (a 0))]) hx hb dX5_clearBuffer_9 rfl hl (by decide) rfl (fun ls hl => ?_)
  refine lv_aload_n hx hb dX5_clearBuffer_10 rfl (lv_at hl 1 rfl) ?_
  refine lv_iconst (v := 0) hx hb dX5_clearBuffer_11 (by decide) ?_
  refine f5 hx hb hts hown hK hP hD hS 0 rfl 4 (by decide) flX5_105 (fun _ h => h) rfl rfl rfl (Nat.le_of_ble_eq_true rfl) dX5_clearBuffer_12 (fun H locs hP hD hS => ?_)
  have hP : va_P D vwCl (mdW cI a N P T U (us (us v 4 0) 5 0)) H := hP
  have hD : va_D (va_A (mdW cI a N P T U v) s.heap.size) (mdW cI a N P T U (us (us v 4 0) 5 0)) := hD
  refine lv_iload_n hx hb dX5_clearBuffer_15 rfl (lv_at hl 0 rfl) ?_
  have hP : va_P D vwCl (mdW cI a N P T U (us (us v 4 0) 5 0)) H := hP
  have hD : va_D (va_A (mdW cI a N P T U v) s.heap.size) (mdW cI a N P T U (us (us v 4 0) 5 0)) := hD
  exact k_eMi hx hb hr hlocks hP hS rfl dX5_clearBuffer_16

abbrev rmX5_test : Room := { frames := 3, cells := 0, slots := 0, locals := 71 }
set_option maxHeartbeats 4000000 in
set_option maxRecDepth 100000 in
theorem c_X5_test (l : Launch) (D : va_G) (cI cS cL : ClassId) (a : Nat → Nat) (N : NN) (P T U v : Nat → Int32) (sz : Nat) (n kc : Nat) (x w : Int32) (hn : N 1 2 = nI n) (hn14 : n ≤ 14) (hc : v 2 = nI kc) (hc6 : kc ≤ 6) (hws : ∀ j, j < n → 0 ≤ N 7 j ∧ N 7 j ≤ 99) : Met l yX5_test (wy_ yX5_test cX5_test 5 (some .int)) rmX5_test (kPc D (kTy cI cS cL) (mdW cI a N P T U v) sz [.ref (a 0), .int x, .int w]) (kMi D (mdW cI a N P T U v) (mdW cI a (sN (rc_test N x w) N (p_test N (kx x) (kx w))) (sP (rc_test N x w) P (flat N) kc) T U (us (us (us v 2 (sK (rc_test N x w) kc)) 5 (rc_test N x w)) 10 (sJ (rc_test N x w) (p_worn (N 7 (kx x)) (p_held N (kx x) (kx w))) (v 10)))) sz (sR (rc_test N x w) (p_out N (kx x) (kx w)))) 0 0 (va_A (mdW cI a N P T U v) sz) := by
  refine k_ofW (by decide) (Nat.le_of_ble_eq_true rfl) ?_
  intro p e s m args below meth c hx hb hr hml hts hown hlocks hnm hsz hP hK hD hE ls hl
  subst hsz
  have hA : ∀ q : Nat, s.heap.size ≤ q → (va_A (mdW cI a N P T U v) s.heap.size) q := fun q h => Or.inr h
  have hS : va_S (va_A (mdW cI a N P T U v) s.heap.size) s.heap s.heap [] := va_S.rf
  have hl : lv_has ls 5 [(0, .ref (a 0)), (1, .int x), (2, .int w)] := hl
  refine lv_aload_n hx hb dX5_test_0 rfl (lv_at hl 0 rfl) ?_
  refine lv_iconst (v := 0) hx hb dX5_test_1 (by decide) ?_
  refine f5 hx hb hts hown hK hP hD hS 0 rfl 5 (by decide) flX5_22 (fun _ h => h) rfl rfl rfl (Nat.le_of_ble_eq_true rfl) dX5_test_2 (fun H locs hP hD hS => ?_)
  have hP : va_P D vwCl (mdW cI a N P T U (us v 5 0)) H := hP
  have hD : va_D (va_A (mdW cI a N P T U v) s.heap.size) (mdW cI a N P T U (us v 5 0)) := hD
  refine lv_aload_n hx hb dX5_test_5 rfl (lv_at hl 0 rfl) ?_
  refine lv_iload_n hx hb dX5_test_6 rfl (lv_at hl 1 rfl) ?_
  refine k_riV (As := [.int x]) (rest := []) (wc := mdW cI a N P T U (us v 5 0)) ⟨hx, hb, hml, hown, hts⟩ (c_X5_isHose l D cI cS cL a N P T U (us v 5 0) _ x) lkX5_84 rfl rfl ⟨(Nat.le_of_ble_eq_true rfl), (Nat.le_of_ble_eq_true rfl)⟩ (va_recv hK hP (ci := 4) (q0 := 0) rfl rfl) hK hE hP hD rfl hl.1 rfl (Nat.le_of_ble_eq_true rfl) dX5_test_7 ⟨Nat.zero_le _, Nat.zero_le _⟩ ?_
  refine lv_if_ne (tgt := 19) hx hb dX5_test_10 (by decide) (fun c1 => ?_) (fun c1 => ?_)
  · have c1 := bI_ne0 c1
    have hxx := c1
    obtain ⟨k, hkn, hxk⟩ := p_isH hn hn14 (c1).1 (c1).2
    subst hxk
    have hcl : kx (nI k) = k := kx_nI (by omega)
    refine lv_iload_n hx hb dX5_test_19 rfl (lv_at hl 2 rfl) ?_
    refine lv_iconst (v := 4) hx hb dX5_test_20 (by decide) ?_
    refine lv_bipush (v := 24) hx hb dX5_test_21 (by decide) ?_
    refine k_riS (As := [.int w, .int 4, .int 24]) (rest := []) (wc := []) ⟨hx, hb, hml, hown, hts⟩ (c_X5_in l D cI cS cL _ w 4 24) lkX5_26 rfl rfl ⟨(Nat.le_of_ble_eq_true rfl), (Nat.le_of_ble_eq_true rfl)⟩ hK hE k_nilP (k_nilD (A := va_A (mdW cI a N P T U v) s.heap.size)) rfl hl.1 rfl (Nat.le_of_ble_eq_true rfl) dX5_test_23 ⟨Nat.zero_le _, Nat.zero_le _⟩ ?_
    refine lv_if_ne (tgt := 35) hx hb dX5_test_26 (by decide) (fun c2 => ?_) (fun c2 => ?_)
    · have c2 := bI_ne0 c2
      have hyy := c2
      obtain ⟨q, hqlo, hqhi, hxp⟩ := p_isB (lo := 4) (hi := 24) (by omega) (by omega) (c2).1 (c2).2
      subst hxp
      have hclp : kx (nI q) = q := kx_nI (by omega)
      refine lv_aload_n hx hb dX5_test_35 rfl (lv_at hl 0 rfl) ?_
      refine lv_iload_n hx hb dX5_test_36 rfl (lv_at hl 1 rfl) ?_
      refine k_riV (As := [.int (nI k)]) (rest := []) (wc := mdW cI a N P T U (us v 5 0)) ⟨hx, hb, hml, hown, hts⟩ (c_X5_isHere l D cI cS cL a N P T U (us v 5 0) _ k (by omega)) lkX5_87 rfl rfl ⟨(Nat.le_of_ble_eq_true rfl), (Nat.le_of_ble_eq_true rfl)⟩ (va_recv hK hP (ci := 4) (q0 := 0) rfl rfl) hK hE hP hD rfl hl.1 rfl (Nat.le_of_ble_eq_true rfl) dX5_test_37 ⟨Nat.zero_le _, Nat.zero_le _⟩ ?_
      refine lv_if_ne (tgt := 49) hx hb dX5_test_40 (by decide) (fun c3 => ?_) (fun c3 => ?_)
      · have c3 := bI_ne0 c3
        have hhe : here N k = true := decide_eq_true c3
        have hrc : rc_test N (nI k) (nI q) = 0 := by simp [rc_test, hxx, hcl, hyy, hclp, c3, hhe]
        refine lv_aload_n hx hb dX5_test_49 rfl (lv_at hl 0 rfl) ?_
        refine k_mvV (As := []) (rest := []) (w1 := []) (wc := mdW cI a N P T U (us v 5 0)) (wc' := mdW cI a N (m_sv P (flat N) kc) T U (us (us v 2 (nI (m_kc kc))) 5 0)) (w3 := []) ⟨hx, hb, hml, hown, hts⟩ (c_X5_saves l D cI cS cL a N P T U (us v 5 0) _ kc hc (by omega)) lkX5_77 rfl rfl ⟨(Nat.le_of_ble_eq_true rfl), (Nat.le_of_ble_eq_true rfl)⟩ (va_recv hK hP (ci := 4) (q0 := 0) rfl rfl) hK hE hP hD hS hA rfl rfl hl.1 rfl (Nat.le_of_ble_eq_true rfl) dX5_test_50 ⟨Nat.zero_le _, Nat.zero_le _⟩ (fun H locs hzz hP hD hS => ?_)
        have hP : va_P D vwCl (mdW cI a N (m_sv P (flat N) kc) T U (us (us v 2 (nI (m_kc kc))) 5 0)) H := hP
        have hD : va_D (va_A (mdW cI a N P T U v) s.heap.size) (mdW cI a N (m_sv P (flat N) kc) T U (us (us v 2 (nI (m_kc kc))) 5 0)) := hD
        refine lv_aload_n hx hb dX5_test_53 rfl (lv_at hl 0 rfl) ?_
        refine lv_iload_n hx hb dX5_test_54 rfl (lv_at hl 1 rfl) ?_
        refine lv_iload_n hx hb dX5_test_55 rfl (lv_at hl 2 rfl) ?_
        refine k_miV (As := [.int (nI k), .int (nI q)]) (rest := []) (w1 := []) (wc := mdW cI a N (m_sv P (flat N) kc) T U (us (us v 2 (nI (m_kc kc))) 5 0)) (wc' := mdW cI a N (m_sv P (flat N) kc) T U (us (us (us v 2 (nI (m_kc kc))) 5 0) 10 (p_worn (N 7 k) (p_held N k q)))) (w3 := []) ⟨hx, hb, hml, hown, hts⟩ (c_X5_tries l D cI cS cL a N (m_sv P (flat N) kc) T U (us (us v 2 (nI (m_kc kc))) 5 0) _ k q (by omega) (by omega) (by omega) (hws k hkn).1 (hws k hkn).2) lkX5_93 rfl rfl ⟨(Nat.le_of_ble_eq_true rfl), (Nat.le_of_ble_eq_true rfl)⟩ (va_recv hK hP (ci := 4) (q0 := 0) rfl rfl) hK hE hP hD hS hA rfl rfl hl.1 rfl (Nat.le_of_ble_eq_true rfl) dX5_test_56 ⟨Nat.zero_le _, Nat.zero_le _⟩ (fun H locs hzz hP hD hS => ?_)
        have hP : va_P D vwCl (mdW cI a N (m_sv P (flat N) kc) T U (us (us (us v 2 (nI (m_kc kc))) 5 0) 10 (p_worn (N 7 k) (p_held N k q)))) H := hP
        have hD : va_D (va_A (mdW cI a N P T U v) s.heap.size) (mdW cI a N (m_sv P (flat N) kc) T U (us (us (us v 2 (nI (m_kc kc))) 5 0) 10 (p_worn (N 7 k) (p_held N k q)))) := hD
        refine lv_istore_n (lv' := [(3, .int (p_out N k q)), (0, .ref (a 0)), (1, .int (nI k)), (2, .int (nI q))]) hx hb dX5_test_59 rfl hl (by decide) rfl (fun ls hl => ?_)
        refine lv_bipush (v := 12) hx hb dX5_test_60 (by decide) ?_
        refine lv_bipush (v := 8) hx hb dX5_test_62 (by decide) ?_
        refine lv_iload_n hx hb dX5_test_64 rfl (lv_at hl 2 rfl) ?_
        refine lv_imul hx hb dX5_test_65 (lv_topi (fun x4 e4 => ?_))
        have q4 : x4 = nI (8 * k) := by rw [e4]; exact pk_mul 8 k
        subst q4
        refine lv_iadd hx hb dX5_test_66 (lv_topi (fun x5 e5 => ?_))
        have q5 : x5 = nI (12 + 8 * k) := by rw [e5]; exact nI_add 12 (8 * k)
        subst q5
        refine lv_istore (lv' := [(4, .int (nI (12 + 8 * k))), (3, .int (p_out N k q)), (0, .ref (a 0)), (1, .int (nI k)), (2, .int (nI q))]) hx hb dX5_test_67 hl (by decide) rfl (fun ls hl => ?_)
        refine lv_aload_n hx hb dX5_test_69 rfl (lv_at hl 2 rfl) ?_
        refine g5 hx hb hts hown hK hP 0 rfl 0 (by decide) flX5_7 (fun _ h => h) (v := .ref (a 1)) rfl dX5_test_70 ?_
        refine lv_iload hx hb dX5_test_73 (lv_at hl 0 rfl) ?_
        refine lv_iconst (v := 4) hx hb dX5_test_75 (by decide) ?_
        refine lv_iadd hx hb dX5_test_76 (lv_topi (fun x6 e6 => ?_))
        have q6 : x6 = nI (12 + 8 * k + 4) := by rw [e6]; exact nI_add (12 + 8 * k) 4
        subst q6
        refine lv_aload_n hx hb dX5_test_77 rfl (lv_at hl 2 rfl) ?_
        refine g5 hx hb hts hown hK hP 0 rfl 10 (by decide) flX5_47 (fun _ h => h) (v := .int (p_worn (N 7 k) (p_held N k q))) rfl dX5_test_78 ?_
        refine k_ast (k := 12 + 8 * k + 4) hx hb hK hP hD hS 1 0 rfl rfl rfl (by omega) (by decide) dX5_test_81 (fun H locs hP hD hS => ?_)
        rw [flat_putH _ _ 4 _ (by decide)] at hP hD
        have hP : va_P D vwCl (mdW cI a (up2 N 7 k (p_worn (N 7 k) (p_held N k q))) (m_sv P (flat N) kc) T U (us (us (us v 2 (nI (m_kc kc))) 5 0) 10 (p_worn (N 7 k) (p_held N k q)))) H := hP
        have hD : va_D (va_A (mdW cI a N P T U v) s.heap.size) (mdW cI a (up2 N 7 k (p_worn (N 7 k) (p_held N k q))) (m_sv P (flat N) kc) T U (us (us (us v 2 (nI (m_kc kc))) 5 0) 10 (p_worn (N 7 k) (p_held N k q)))) := hD
        refine lv_aload_n hx hb dX5_test_82 rfl (lv_at hl 2 rfl) ?_
        refine g5 hx hb hts hown hK hP 0 rfl 0 (by decide) flX5_7 (fun _ h => h) (v := .ref (a 1)) rfl dX5_test_83 ?_
        refine lv_bipush (v := 6) hx hb dX5_test_86 (by decide) ?_
        refine lv_dup2_11 hx hb dX5_test_88 rfl rfl ?_
        refine k_ald (k := 6) hx hb hK hP 1 0 rfl rfl rfl (by decide) (by decide) dX5_test_89 ?_
        rw [show flat (up2 N 7 k (p_worn (N 7 k) (p_held N k q))) (6) = N 1 3 from rfl]
        refine lv_iconst (v := 1) hx hb dX5_test_90 (by decide) ?_
        refine lv_iadd hx hb dX5_test_91 (lv_topi (fun x7 e7 => ?_))
        refine k_ast (k := 6) hx hb hK hP hD hS 1 0 rfl rfl rfl (by decide) (by decide) dX5_test_92 (fun H locs hP hD hS => ?_)
        rw [flat_put6] at hP hD
        have hP : va_P D vwCl (mdW cI a (up2 (up2 N 7 k (p_worn (N 7 k) (p_held N k q))) 1 3 x7) (m_sv P (flat N) kc) T U (us (us (us v 2 (nI (m_kc kc))) 5 0) 10 (p_worn (N 7 k) (p_held N k q)))) H := hP
        have hD : va_D (va_A (mdW cI a N P T U v) s.heap.size) (mdW cI a (up2 (up2 N 7 k (p_worn (N 7 k) (p_held N k q))) 1 3 x7) (m_sv P (flat N) kc) T U (us (us (us v 2 (nI (m_kc kc))) 5 0) 10 (p_worn (N 7 k) (p_held N k q)))) := hD
        refine lv_iload_n hx hb dX5_test_93 rfl (lv_at hl 1 rfl) ?_
        refine lv_bipush (v := 100) hx hb dX5_test_94 (by decide) ?_
        refine lv_icmp_lt (tgt := 124) hx hb dX5_test_96 (by decide) (fun c8 => ?_) (fun c8 => ?_)
        · have c8' := Int32.not_le.mpr c8
          have hb0 := (p_out_h hqhi c8).1
          refine lv_iload_n hx hb dX5_test_124 rfl (lv_at hl 4 rfl) ?_
          refine lv_aload_n hx hb dX5_test_125 rfl (lv_at hl 2 rfl) ?_
          refine g5 hx hb hts hown hK hP 0 rfl 0 (by decide) flX5_7 (fun _ h => h) (v := .ref (a 1)) rfl dX5_test_126 ?_
          refine lv_iconst (v := 0) hx hb dX5_test_129 (by decide) ?_
          refine k_ald (k := 0) hx hb hK hP 1 0 rfl rfl rfl (by decide) (by decide) dX5_test_130 ?_
          rw [show flat (up2 (up2 N 7 k (p_worn (N 7 k) (p_held N k q))) 1 3 x7) (0) = N 0 0 from rfl]
          refine lv_icmp_lt (tgt := 160) hx hb dX5_test_131 (by decide) (fun c9 => ?_) (fun c9 => ?_)
          · have c9' := Int32.not_le.mpr c9
            have hset0 := Int32.not_le.mpr c9
            refine lv_iload_n hx hb dX5_test_160 rfl (lv_at hl 1 rfl) ?_
            have w10 : (up2 (up2 N 7 k (p_worn (N 7 k) (p_held N k q))) 1 3 x7) = (sN (rc_test N (nI k) (nI q)) N (p_test N (kx (nI k)) (kx (nI q)))) := by subst e7; rw [hrc]; simp only [sN, hcl, hclp, p_test, if_neg hb0, if_true]; rw [if_neg hset0]
            have hP : va_P D vwCl (mdW cI a (sN (rc_test N (nI k) (nI q)) N (p_test N (kx (nI k)) (kx (nI q)))) (m_sv P (flat N) kc) T U (us (us (us v 2 (nI (m_kc kc))) 5 0) 10 (p_worn (N 7 k) (p_held N k q)))) H := (congrArg (fun zz => va_P D vwCl (mdW cI a zz (m_sv P (flat N) kc) T U (us (us (us v 2 (nI (m_kc kc))) 5 0) 10 (p_worn (N 7 k) (p_held N k q)))) H) w10).mp hP
            have hD : va_D (va_A (mdW cI a N P T U v) s.heap.size) (mdW cI a (sN (rc_test N (nI k) (nI q)) N (p_test N (kx (nI k)) (kx (nI q)))) (m_sv P (flat N) kc) T U (us (us (us v 2 (nI (m_kc kc))) 5 0) 10 (p_worn (N 7 k) (p_held N k q)))) := (congrArg (fun zz => va_D (va_A (mdW cI a N P T U v) s.heap.size) (mdW cI a zz (m_sv P (flat N) kc) T U (us (us (us v 2 (nI (m_kc kc))) 5 0) 10 (p_worn (N 7 k) (p_held N k q))))) w10).mp hD
            have w11 : (m_sv P (flat N) kc) = (sP (rc_test N (nI k) (nI q)) P (flat N) kc) := by rw [hrc]; first | done | rfl | (simp only [hcl]; first | done | rfl) | (simp only [hcl, hclp]; first | done | rfl) | (simp only [hclp]; first | done | rfl)
            have hP : va_P D vwCl (mdW cI a (sN (rc_test N (nI k) (nI q)) N (p_test N (kx (nI k)) (kx (nI q)))) (sP (rc_test N (nI k) (nI q)) P (flat N) kc) T U (us (us (us v 2 (nI (m_kc kc))) 5 0) 10 (p_worn (N 7 k) (p_held N k q)))) H := (congrArg (fun zz => va_P D vwCl (mdW cI a (sN (rc_test N (nI k) (nI q)) N (p_test N (kx (nI k)) (kx (nI q)))) zz T U (us (us (us v 2 (nI (m_kc kc))) 5 0) 10 (p_worn (N 7 k) (p_held N k q)))) H) w11).mp hP
            have hD : va_D (va_A (mdW cI a N P T U v) s.heap.size) (mdW cI a (sN (rc_test N (nI k) (nI q)) N (p_test N (kx (nI k)) (kx (nI q)))) (sP (rc_test N (nI k) (nI q)) P (flat N) kc) T U (us (us (us v 2 (nI (m_kc kc))) 5 0) 10 (p_worn (N 7 k) (p_held N k q)))) := (congrArg (fun zz => va_D (va_A (mdW cI a N P T U v) s.heap.size) (mdW cI a (sN (rc_test N (nI k) (nI q)) N (p_test N (kx (nI k)) (kx (nI q)))) zz T U (us (us (us v 2 (nI (m_kc kc))) 5 0) 10 (p_worn (N 7 k) (p_held N k q))))) w11).mp hD
            have w12 : (us (us (us v 2 (nI (m_kc kc))) 5 0) 10 (p_worn (N 7 k) (p_held N k q))) = (us (us (us v 2 (sK (rc_test N (nI k) (nI q)) kc)) 5 (rc_test N (nI k) (nI q))) 10 (sJ (rc_test N (nI k) (nI q)) (p_worn (N 7 (kx (nI k))) (p_held N (kx (nI k)) (kx (nI q)))) (v 10))) := by rw [hrc]; first | done | rfl | (simp only [hcl]; first | done | rfl) | (simp only [hcl, hclp]; first | done | rfl) | (simp only [hclp]; first | done | rfl)
            have hP : va_P D vwCl (mdW cI a (sN (rc_test N (nI k) (nI q)) N (p_test N (kx (nI k)) (kx (nI q)))) (sP (rc_test N (nI k) (nI q)) P (flat N) kc) T U (us (us (us v 2 (sK (rc_test N (nI k) (nI q)) kc)) 5 (rc_test N (nI k) (nI q))) 10 (sJ (rc_test N (nI k) (nI q)) (p_worn (N 7 (kx (nI k))) (p_held N (kx (nI k)) (kx (nI q)))) (v 10)))) H := (congrArg (fun zz => va_P D vwCl (mdW cI a (sN (rc_test N (nI k) (nI q)) N (p_test N (kx (nI k)) (kx (nI q)))) (sP (rc_test N (nI k) (nI q)) P (flat N) kc) T U zz) H) w12).mp hP
            have hD : va_D (va_A (mdW cI a N P T U v) s.heap.size) (mdW cI a (sN (rc_test N (nI k) (nI q)) N (p_test N (kx (nI k)) (kx (nI q)))) (sP (rc_test N (nI k) (nI q)) P (flat N) kc) T U (us (us (us v 2 (sK (rc_test N (nI k) (nI q)) kc)) 5 (rc_test N (nI k) (nI q))) 10 (sJ (rc_test N (nI k) (nI q)) (p_worn (N 7 (kx (nI k))) (p_held N (kx (nI k)) (kx (nI q)))) (v 10)))) := (congrArg (fun zz => va_D (va_A (mdW cI a N P T U v) s.heap.size) (mdW cI a (sN (rc_test N (nI k) (nI q)) N (p_test N (kx (nI k)) (kx (nI q)))) (sP (rc_test N (nI k) (nI q)) P (flat N) kc) T U zz)) w12).mp hD
            have hP : va_P D vwCl (mdW cI a (sN (rc_test N (nI k) (nI q)) N (p_test N (kx (nI k)) (kx (nI q)))) (sP (rc_test N (nI k) (nI q)) P (flat N) kc) T U (us (us (us v 2 (sK (rc_test N (nI k) (nI q)) kc)) 5 (rc_test N (nI k) (nI q))) 10 (sJ (rc_test N (nI k) (nI q)) (p_worn (N 7 (kx (nI k))) (p_held N (kx (nI k)) (kx (nI q)))) (v 10)))) H := hP
            have hD : va_D (va_A (mdW cI a N P T U v) s.heap.size) (mdW cI a (sN (rc_test N (nI k) (nI q)) N (p_test N (kx (nI k)) (kx (nI q)))) (sP (rc_test N (nI k) (nI q)) P (flat N) kc) T U (us (us (us v 2 (sK (rc_test N (nI k) (nI q)) kc)) 5 (rc_test N (nI k) (nI q))) 10 (sJ (rc_test N (nI k) (nI q)) (p_worn (N 7 (kx (nI k))) (p_held N (kx (nI k)) (kx (nI q)))) (v 10)))) := hD
            exact k_eMi hx hb hr hlocks hP hS (by rw [hrc]; first | done | rfl | (simp only [hcl]; first | done | rfl) | (simp only [hcl, hclp]; first | done | rfl) | (simp only [hclp]; first | done | rfl)) dX5_test_161
          · have c9' := Int32.not_lt.mp c9
            have hset := Int32.not_lt.mp c9
            refine lv_aload_n hx hb dX5_test_134 rfl (lv_at hl 2 rfl) ?_
            refine g5 hx hb hts hown hK hP 0 rfl 0 (by decide) flX5_7 (fun _ h => h) (v := .ref (a 1)) rfl dX5_test_135 ?_
            refine lv_iload hx hb dX5_test_138 (lv_at hl 0 rfl) ?_
            refine lv_iconst (v := 5) hx hb dX5_test_140 (by decide) ?_
            refine lv_iadd hx hb dX5_test_141 (lv_topi (fun x13 e13 => ?_))
            have q13 : x13 = nI (12 + 8 * k + 5) := by rw [e13]; exact nI_add (12 + 8 * k) 5
            subst q13
            refine lv_aload_n hx hb dX5_test_142 rfl (lv_at hl 2 rfl) ?_
            refine g5 hx hb hts hown hK hP 0 rfl 0 (by decide) flX5_7 (fun _ h => h) (v := .ref (a 1)) rfl dX5_test_143 ?_
            refine lv_iconst (v := 3) hx hb dX5_test_146 (by decide) ?_
            refine k_ald (k := 3) hx hb hK hP 1 0 rfl rfl rfl (by decide) (by decide) dX5_test_147 ?_
            rw [show flat (up2 (up2 N 7 k (p_worn (N 7 k) (p_held N k q))) 1 3 x7) (3) = N 1 0 from rfl]
            refine lv_aload_n hx hb dX5_test_148 rfl (lv_at hl 2 rfl) ?_
            refine g5 hx hb hts hown hK hP 0 rfl 0 (by decide) flX5_7 (fun _ h => h) (v := .ref (a 1)) rfl dX5_test_149 ?_
            refine lv_iload hx hb dX5_test_152 (lv_at hl 0 rfl) ?_
            refine k_ald (k := 12 + 8 * k + 0) hx hb hK hP 1 0 rfl rfl rfl (by omega) (by decide) dX5_test_154 ?_
            rw [show flat (up2 (up2 N 7 k (p_worn (N 7 k) (p_held N k q))) 1 3 x7) (12 + 8 * k + 0) = N 3 k from (flat_hose _ _ 0 (by decide)).trans (by simp [up2_at])]
            refine k_riS (As := [.int (N 3 k)]) (rest := [.int (N 1 0), .int (nI (12 + 8 * k + 5)), .ref (a 1)]) (wc := []) ⟨hx, hb, hml, hown, hts⟩ (c_X5_force l D cI cS cL _ (N 3 k)) lkX5_96 rfl rfl ⟨(Nat.le_of_ble_eq_true rfl), (Nat.le_of_ble_eq_true rfl)⟩ hK hE k_nilP (k_nilD (A := va_A (mdW cI a N P T U v) s.heap.size)) rfl hl.1 rfl (Nat.le_of_ble_eq_true rfl) dX5_test_155 ⟨Nat.zero_le _, Nat.zero_le _⟩ ?_
            refine lv_iadd hx hb dX5_test_158 (lv_topi (fun x14 e14 => ?_))
            refine k_ast (k := 12 + 8 * k + 5) hx hb hK hP hD hS 1 0 rfl rfl rfl (by omega) (by decide) dX5_test_159 (fun H locs hP hD hS => ?_)
            rw [flat_putH _ _ 5 _ (by decide)] at hP hD
            have hP : va_P D vwCl (mdW cI a (up2 (up2 (up2 N 7 k (p_worn (N 7 k) (p_held N k q))) 1 3 x7) 8 k x14) (m_sv P (flat N) kc) T U (us (us (us v 2 (nI (m_kc kc))) 5 0) 10 (p_worn (N 7 k) (p_held N k q)))) H := hP
            have hD : va_D (va_A (mdW cI a N P T U v) s.heap.size) (mdW cI a (up2 (up2 (up2 N 7 k (p_worn (N 7 k) (p_held N k q))) 1 3 x7) 8 k x14) (m_sv P (flat N) kc) T U (us (us (us v 2 (nI (m_kc kc))) 5 0) 10 (p_worn (N 7 k) (p_held N k q)))) := hD
            refine lv_iload_n hx hb dX5_test_160 rfl (lv_at hl 1 rfl) ?_
            have w15 : (up2 (up2 (up2 N 7 k (p_worn (N 7 k) (p_held N k q))) 1 3 x7) 8 k x14) = (sN (rc_test N (nI k) (nI q)) N (p_test N (kx (nI k)) (kx (nI q)))) := by subst e7 e14; rw [hrc]; simp only [sN, hcl, hclp, p_test, if_neg hb0, if_true]; rw [if_pos hset]
            have hP : va_P D vwCl (mdW cI a (sN (rc_test N (nI k) (nI q)) N (p_test N (kx (nI k)) (kx (nI q)))) (m_sv P (flat N) kc) T U (us (us (us v 2 (nI (m_kc kc))) 5 0) 10 (p_worn (N 7 k) (p_held N k q)))) H := (congrArg (fun zz => va_P D vwCl (mdW cI a zz (m_sv P (flat N) kc) T U (us (us (us v 2 (nI (m_kc kc))) 5 0) 10 (p_worn (N 7 k) (p_held N k q)))) H) w15).mp hP
            have hD : va_D (va_A (mdW cI a N P T U v) s.heap.size) (mdW cI a (sN (rc_test N (nI k) (nI q)) N (p_test N (kx (nI k)) (kx (nI q)))) (m_sv P (flat N) kc) T U (us (us (us v 2 (nI (m_kc kc))) 5 0) 10 (p_worn (N 7 k) (p_held N k q)))) := (congrArg (fun zz => va_D (va_A (mdW cI a N P T U v) s.heap.size) (mdW cI a zz (m_sv P (flat N) kc) T U (us (us (us v 2 (nI (m_kc kc))) 5 0) 10 (p_worn (N 7 k) (p_held N k q))))) w15).mp hD
            have w16 : (m_sv P (flat N) kc) = (sP (rc_test N (nI k) (nI q)) P (flat N) kc) := by rw [hrc]; first | done | rfl | (simp only [hcl]; first | done | rfl) | (simp only [hcl, hclp]; first | done | rfl) | (simp only [hclp]; first | done | rfl)
            have hP : va_P D vwCl (mdW cI a (sN (rc_test N (nI k) (nI q)) N (p_test N (kx (nI k)) (kx (nI q)))) (sP (rc_test N (nI k) (nI q)) P (flat N) kc) T U (us (us (us v 2 (nI (m_kc kc))) 5 0) 10 (p_worn (N 7 k) (p_held N k q)))) H := (congrArg (fun zz => va_P D vwCl (mdW cI a (sN (rc_test N (nI k) (nI q)) N (p_test N (kx (nI k)) (kx (nI q)))) zz T U (us (us (us v 2 (nI (m_kc kc))) 5 0) 10 (p_worn (N 7 k) (p_held N k q)))) H) w16).mp hP
            have hD : va_D (va_A (mdW cI a N P T U v) s.heap.size) (mdW cI a (sN (rc_test N (nI k) (nI q)) N (p_test N (kx (nI k)) (kx (nI q)))) (sP (rc_test N (nI k) (nI q)) P (flat N) kc) T U (us (us (us v 2 (nI (m_kc kc))) 5 0) 10 (p_worn (N 7 k) (p_held N k q)))) := (congrArg (fun zz => va_D (va_A (mdW cI a N P T U v) s.heap.size) (mdW cI a (sN (rc_test N (nI k) (nI q)) N (p_test N (kx (nI k)) (kx (nI q)))) zz T U (us (us (us v 2 (nI (m_kc kc))) 5 0) 10 (p_worn (N 7 k) (p_held N k q))))) w16).mp hD
            have w17 : (us (us (us v 2 (nI (m_kc kc))) 5 0) 10 (p_worn (N 7 k) (p_held N k q))) = (us (us (us v 2 (sK (rc_test N (nI k) (nI q)) kc)) 5 (rc_test N (nI k) (nI q))) 10 (sJ (rc_test N (nI k) (nI q)) (p_worn (N 7 (kx (nI k))) (p_held N (kx (nI k)) (kx (nI q)))) (v 10))) := by rw [hrc]; first | done | rfl | (simp only [hcl]; first | done | rfl) | (simp only [hcl, hclp]; first | done | rfl) | (simp only [hclp]; first | done | rfl)
            have hP : va_P D vwCl (mdW cI a (sN (rc_test N (nI k) (nI q)) N (p_test N (kx (nI k)) (kx (nI q)))) (sP (rc_test N (nI k) (nI q)) P (flat N) kc) T U (us (us (us v 2 (sK (rc_test N (nI k) (nI q)) kc)) 5 (rc_test N (nI k) (nI q))) 10 (sJ (rc_test N (nI k) (nI q)) (p_worn (N 7 (kx (nI k))) (p_held N (kx (nI k)) (kx (nI q)))) (v 10)))) H := (congrArg (fun zz => va_P D vwCl (mdW cI a (sN (rc_test N (nI k) (nI q)) N (p_test N (kx (nI k)) (kx (nI q)))) (sP (rc_test N (nI k) (nI q)) P (flat N) kc) T U zz) H) w17).mp hP
            have hD : va_D (va_A (mdW cI a N P T U v) s.heap.size) (mdW cI a (sN (rc_test N (nI k) (nI q)) N (p_test N (kx (nI k)) (kx (nI q)))) (sP (rc_test N (nI k) (nI q)) P (flat N) kc) T U (us (us (us v 2 (sK (rc_test N (nI k) (nI q)) kc)) 5 (rc_test N (nI k) (nI q))) 10 (sJ (rc_test N (nI k) (nI q)) (p_worn (N 7 (kx (nI k))) (p_held N (kx (nI k)) (kx (nI q)))) (v 10)))) := (congrArg (fun zz => va_D (va_A (mdW cI a N P T U v) s.heap.size) (mdW cI a (sN (rc_test N (nI k) (nI q)) N (p_test N (kx (nI k)) (kx (nI q)))) (sP (rc_test N (nI k) (nI q)) P (flat N) kc) T U zz)) w17).mp hD
            have hP : va_P D vwCl (mdW cI a (sN (rc_test N (nI k) (nI q)) N (p_test N (kx (nI k)) (kx (nI q)))) (sP (rc_test N (nI k) (nI q)) P (flat N) kc) T U (us (us (us v 2 (sK (rc_test N (nI k) (nI q)) kc)) 5 (rc_test N (nI k) (nI q))) 10 (sJ (rc_test N (nI k) (nI q)) (p_worn (N 7 (kx (nI k))) (p_held N (kx (nI k)) (kx (nI q)))) (v 10)))) H := hP
            have hD : va_D (va_A (mdW cI a N P T U v) s.heap.size) (mdW cI a (sN (rc_test N (nI k) (nI q)) N (p_test N (kx (nI k)) (kx (nI q)))) (sP (rc_test N (nI k) (nI q)) P (flat N) kc) T U (us (us (us v 2 (sK (rc_test N (nI k) (nI q)) kc)) 5 (rc_test N (nI k) (nI q))) 10 (sJ (rc_test N (nI k) (nI q)) (p_worn (N 7 (kx (nI k))) (p_held N (kx (nI k)) (kx (nI q)))) (v 10)))) := hD
            exact k_eMi hx hb hr hlocks hP hS (by rw [hrc]; first | done | rfl | (simp only [hcl]; first | done | rfl) | (simp only [hcl, hclp]; first | done | rfl) | (simp only [hclp]; first | done | rfl)) dX5_test_161
        · have c8' := Int32.not_lt.mp c8
          have hb1 := (p_out_b hqhi c8).1
          refine lv_aload_n hx hb dX5_test_99 rfl (lv_at hl 2 rfl) ?_
          refine g5 hx hb hts hown hK hP 0 rfl 0 (by decide) flX5_7 (fun _ h => h) (v := .ref (a 1)) rfl dX5_test_100 ?_
          refine lv_iload hx hb dX5_test_103 (lv_at hl 0 rfl) ?_
          refine lv_bipush (v := 6) hx hb dX5_test_105 (by decide) ?_
          refine lv_iadd hx hb dX5_test_107 (lv_topi (fun x18 e18 => ?_))
          have q18 : x18 = nI (12 + 8 * k + 6) := by rw [e18]; exact nI_add (12 + 8 * k) 6
          subst q18
          refine lv_iconst (v := (-1)) hx hb dX5_test_108 (by decide) ?_
          refine k_ast (k := 12 + 8 * k + 6) hx hb hK hP hD hS 1 0 rfl rfl rfl (by omega) (by decide) dX5_test_109 (fun H locs hP hD hS => ?_)
          rw [flat_putH _ _ 6 _ (by decide)] at hP hD
          have hP : va_P D vwCl (mdW cI a (up2 (up2 (up2 N 7 k (p_worn (N 7 k) (p_held N k q))) 1 3 x7) 9 k (-1)) (m_sv P (flat N) kc) T U (us (us (us v 2 (nI (m_kc kc))) 5 0) 10 (p_worn (N 7 k) (p_held N k q)))) H := hP
          have hD : va_D (va_A (mdW cI a N P T U v) s.heap.size) (mdW cI a (up2 (up2 (up2 N 7 k (p_worn (N 7 k) (p_held N k q))) 1 3 x7) 9 k (-1)) (m_sv P (flat N) kc) T U (us (us (us v 2 (nI (m_kc kc))) 5 0) 10 (p_worn (N 7 k) (p_held N k q)))) := hD
          refine lv_aload_n hx hb dX5_test_110 rfl (lv_at hl 2 rfl) ?_
          refine g5 hx hb hts hown hK hP 0 rfl 0 (by decide) flX5_7 (fun _ h => h) (v := .ref (a 1)) rfl dX5_test_111 ?_
          refine lv_bipush (v := 7) hx hb dX5_test_114 (by decide) ?_
          refine lv_dup2_11 hx hb dX5_test_116 rfl rfl ?_
          refine k_ald (k := 7) hx hb hK hP 1 0 rfl rfl rfl (by decide) (by decide) dX5_test_117 ?_
          rw [show flat (up2 (up2 (up2 N 7 k (p_worn (N 7 k) (p_held N k q))) 1 3 x7) 9 k (-1)) (7) = N 1 4 from rfl]
          refine lv_iconst (v := 1) hx hb dX5_test_118 (by decide) ?_
          refine lv_iadd hx hb dX5_test_119 (lv_topi (fun x19 e19 => ?_))
          refine k_ast (k := 7) hx hb hK hP hD hS 1 0 rfl rfl rfl (by decide) (by decide) dX5_test_120 (fun H locs hP hD hS => ?_)
          rw [flat_put7] at hP hD
          have hP : va_P D vwCl (mdW cI a (up2 (up2 (up2 (up2 N 7 k (p_worn (N 7 k) (p_held N k q))) 1 3 x7) 9 k (-1)) 1 4 x19) (m_sv P (flat N) kc) T U (us (us (us v 2 (nI (m_kc kc))) 5 0) 10 (p_worn (N 7 k) (p_held N k q)))) H := hP
          have hD : va_D (va_A (mdW cI a N P T U v) s.heap.size) (mdW cI a (up2 (up2 (up2 (up2 N 7 k (p_worn (N 7 k) (p_held N k q))) 1 3 x7) 9 k (-1)) 1 4 x19) (m_sv P (flat N) kc) T U (us (us (us v 2 (nI (m_kc kc))) 5 0) 10 (p_worn (N 7 k) (p_held N k q)))) := hD
          refine lv_goto (tgt := 160) hx hb dX5_test_121 (by decide) ?_
          refine lv_iload_n hx hb dX5_test_160 rfl (lv_at hl 1 rfl) ?_
          have w20 : (up2 (up2 (up2 (up2 N 7 k (p_worn (N 7 k) (p_held N k q))) 1 3 x7) 9 k (-1)) 1 4 x19) = (sN (rc_test N (nI k) (nI q)) N (p_test N (kx (nI k)) (kx (nI q)))) := by subst e7 e19; rw [hrc]; simp only [sN, hcl, hclp, p_test, if_pos hb1, if_true]; rw [up2_comm _ _ _ _ _ (by decide)]; rfl
          have hP : va_P D vwCl (mdW cI a (sN (rc_test N (nI k) (nI q)) N (p_test N (kx (nI k)) (kx (nI q)))) (m_sv P (flat N) kc) T U (us (us (us v 2 (nI (m_kc kc))) 5 0) 10 (p_worn (N 7 k) (p_held N k q)))) H := (congrArg (fun zz => va_P D vwCl (mdW cI a zz (m_sv P (flat N) kc) T U (us (us (us v 2 (nI (m_kc kc))) 5 0) 10 (p_worn (N 7 k) (p_held N k q)))) H) w20).mp hP
          have hD : va_D (va_A (mdW cI a N P T U v) s.heap.size) (mdW cI a (sN (rc_test N (nI k) (nI q)) N (p_test N (kx (nI k)) (kx (nI q)))) (m_sv P (flat N) kc) T U (us (us (us v 2 (nI (m_kc kc))) 5 0) 10 (p_worn (N 7 k) (p_held N k q)))) := (congrArg (fun zz => va_D (va_A (mdW cI a N P T U v) s.heap.size) (mdW cI a zz (m_sv P (flat N) kc) T U (us (us (us v 2 (nI (m_kc kc))) 5 0) 10 (p_worn (N 7 k) (p_held N k q))))) w20).mp hD
          have w21 : (m_sv P (flat N) kc) = (sP (rc_test N (nI k) (nI q)) P (flat N) kc) := by rw [hrc]; first | done | rfl | (simp only [hcl]; first | done | rfl) | (simp only [hcl, hclp]; first | done | rfl) | (simp only [hclp]; first | done | rfl)
          have hP : va_P D vwCl (mdW cI a (sN (rc_test N (nI k) (nI q)) N (p_test N (kx (nI k)) (kx (nI q)))) (sP (rc_test N (nI k) (nI q)) P (flat N) kc) T U (us (us (us v 2 (nI (m_kc kc))) 5 0) 10 (p_worn (N 7 k) (p_held N k q)))) H := (congrArg (fun zz => va_P D vwCl (mdW cI a (sN (rc_test N (nI k) (nI q)) N (p_test N (kx (nI k)) (kx (nI q)))) zz T U (us (us (us v 2 (nI (m_kc kc))) 5 0) 10 (p_worn (N 7 k) (p_held N k q)))) H) w21).mp hP
          have hD : va_D (va_A (mdW cI a N P T U v) s.heap.size) (mdW cI a (sN (rc_test N (nI k) (nI q)) N (p_test N (kx (nI k)) (kx (nI q)))) (sP (rc_test N (nI k) (nI q)) P (flat N) kc) T U (us (us (us v 2 (nI (m_kc kc))) 5 0) 10 (p_worn (N 7 k) (p_held N k q)))) := (congrArg (fun zz => va_D (va_A (mdW cI a N P T U v) s.heap.size) (mdW cI a (sN (rc_test N (nI k) (nI q)) N (p_test N (kx (nI k)) (kx (nI q)))) zz T U (us (us (us v 2 (nI (m_kc kc))) 5 0) 10 (p_worn (N 7 k) (p_held N k q))))) w21).mp hD
          have w22 : (us (us (us v 2 (nI (m_kc kc))) 5 0) 10 (p_worn (N 7 k) (p_held N k q))) = (us (us (us v 2 (sK (rc_test N (nI k) (nI q)) kc)) 5 (rc_test N (nI k) (nI q))) 10 (sJ (rc_test N (nI k) (nI q)) (p_worn (N 7 (kx (nI k))) (p_held N (kx (nI k)) (kx (nI q)))) (v 10))) := by rw [hrc]; first | done | rfl | (simp only [hcl]; first | done | rfl) | (simp only [hcl, hclp]; first | done | rfl) | (simp only [hclp]; first | done | rfl)
          have hP : va_P D vwCl (mdW cI a (sN (rc_test N (nI k) (nI q)) N (p_test N (kx (nI k)) (kx (nI q)))) (sP (rc_test N (nI k) (nI q)) P (flat N) kc) T U (us (us (us v 2 (sK (rc_test N (nI k) (nI q)) kc)) 5 (rc_test N (nI k) (nI q))) 10 (sJ (rc_test N (nI k) (nI q)) (p_worn (N 7 (kx (nI k))) (p_held N (kx (nI k)) (kx (nI q)))) (v 10)))) H := (congrArg (fun zz => va_P D vwCl (mdW cI a (sN (rc_test N (nI k) (nI q)) N (p_test N (kx (nI k)) (kx (nI q)))) (sP (rc_test N (nI k) (nI q)) P (flat N) kc) T U zz) H) w22).mp hP
          have hD : va_D (va_A (mdW cI a N P T U v) s.heap.size) (mdW cI a (sN (rc_test N (nI k) (nI q)) N (p_test N (kx (nI k)) (kx (nI q)))) (sP (rc_test N (nI k) (nI q)) P (flat N) kc) T U (us (us (us v 2 (sK (rc_test N (nI k) (nI q)) kc)) 5 (rc_test N (nI k) (nI q))) 10 (sJ (rc_test N (nI k) (nI q)) (p_worn (N 7 (kx (nI k))) (p_held N (kx (nI k)) (kx (nI q)))) (v 10)))) := (congrArg (fun zz => va_D (va_A (mdW cI a N P T U v) s.heap.size) (mdW cI a (sN (rc_test N (nI k) (nI q)) N (p_test N (kx (nI k)) (kx (nI q)))) (sP (rc_test N (nI k) (nI q)) P (flat N) kc) T U zz)) w22).mp hD
          have hP : va_P D vwCl (mdW cI a (sN (rc_test N (nI k) (nI q)) N (p_test N (kx (nI k)) (kx (nI q)))) (sP (rc_test N (nI k) (nI q)) P (flat N) kc) T U (us (us (us v 2 (sK (rc_test N (nI k) (nI q)) kc)) 5 (rc_test N (nI k) (nI q))) 10 (sJ (rc_test N (nI k) (nI q)) (p_worn (N 7 (kx (nI k))) (p_held N (kx (nI k)) (kx (nI q)))) (v 10)))) H := hP
          have hD : va_D (va_A (mdW cI a N P T U v) s.heap.size) (mdW cI a (sN (rc_test N (nI k) (nI q)) N (p_test N (kx (nI k)) (kx (nI q)))) (sP (rc_test N (nI k) (nI q)) P (flat N) kc) T U (us (us (us v 2 (sK (rc_test N (nI k) (nI q)) kc)) 5 (rc_test N (nI k) (nI q))) 10 (sJ (rc_test N (nI k) (nI q)) (p_worn (N 7 (kx (nI k))) (p_held N (kx (nI k)) (kx (nI q)))) (v 10)))) := hD
          exact k_eMi hx hb hr hlocks hP hS (by rw [hrc]; first | done | rfl | (simp only [hcl]; first | done | rfl) | (simp only [hcl, hclp]; first | done | rfl) | (simp only [hclp]; first | done | rfl)) dX5_test_161
      · have c3 := bI_eq0 c3
        have hhe : here N k = false := decide_eq_false c3
        have hrc : rc_test N (nI k) (nI q) = 3 := by simp [rc_test, hxx, hcl, hyy, hclp, c3, hhe]
        refine lv_aload_n hx hb dX5_test_43 rfl (lv_at hl 0 rfl) ?_
        refine lv_iconst (v := 3) hx hb dX5_test_44 (by decide) ?_
        refine k_miV (As := [.int 3]) (rest := []) (w1 := []) (wc := mdW cI a N P T U (us v 5 0)) (wc' := mdW cI a N P T U (us v 5 3)) (w3 := []) ⟨hx, hb, hml, hown, hts⟩ (c_X5_fails l D cI cS cL a N P T U (us v 5 0) _ 3) lkX5_33 rfl rfl ⟨(Nat.le_of_ble_eq_true rfl), (Nat.le_of_ble_eq_true rfl)⟩ (va_recv hK hP (ci := 4) (q0 := 0) rfl rfl) hK hE hP hD hS hA rfl rfl hl.1 rfl (Nat.le_of_ble_eq_true rfl) dX5_test_45 ⟨Nat.zero_le _, Nat.zero_le _⟩ (fun H locs hzz hP hD hS => ?_)
        have hP : va_P D vwCl (mdW cI a N P T U (us v 5 3)) H := hP
        have hD : va_D (va_A (mdW cI a N P T U v) s.heap.size) (mdW cI a N P T U (us v 5 3)) := hD
        have w23 : N = (sN (rc_test N (nI k) (nI q)) N (p_test N (kx (nI k)) (kx (nI q)))) := by rw [hrc]; first | done | rfl | (simp only [hcl]; first | done | rfl) | (simp only [hcl, hclp]; first | done | rfl) | (simp only [hclp]; first | done | rfl)
        have hP : va_P D vwCl (mdW cI a (sN (rc_test N (nI k) (nI q)) N (p_test N (kx (nI k)) (kx (nI q)))) P T U (us v 5 3)) H := (congrArg (fun zz => va_P D vwCl (mdW cI a zz P T U (us v 5 3)) H) w23).mp hP
        have hD : va_D (va_A (mdW cI a N P T U v) s.heap.size) (mdW cI a (sN (rc_test N (nI k) (nI q)) N (p_test N (kx (nI k)) (kx (nI q)))) P T U (us v 5 3)) := (congrArg (fun zz => va_D (va_A (mdW cI a N P T U v) s.heap.size) (mdW cI a zz P T U (us v 5 3))) w23).mp hD
        have w24 : P = (sP (rc_test N (nI k) (nI q)) P (flat N) kc) := by rw [hrc]; first | done | rfl | (simp only [hcl]; first | done | rfl) | (simp only [hcl, hclp]; first | done | rfl) | (simp only [hclp]; first | done | rfl)
        have hP : va_P D vwCl (mdW cI a (sN (rc_test N (nI k) (nI q)) N (p_test N (kx (nI k)) (kx (nI q)))) (sP (rc_test N (nI k) (nI q)) P (flat N) kc) T U (us v 5 3)) H := (congrArg (fun zz => va_P D vwCl (mdW cI a (sN (rc_test N (nI k) (nI q)) N (p_test N (kx (nI k)) (kx (nI q)))) zz T U (us v 5 3)) H) w24).mp hP
        have hD : va_D (va_A (mdW cI a N P T U v) s.heap.size) (mdW cI a (sN (rc_test N (nI k) (nI q)) N (p_test N (kx (nI k)) (kx (nI q)))) (sP (rc_test N (nI k) (nI q)) P (flat N) kc) T U (us v 5 3)) := (congrArg (fun zz => va_D (va_A (mdW cI a N P T U v) s.heap.size) (mdW cI a (sN (rc_test N (nI k) (nI q)) N (p_test N (kx (nI k)) (kx (nI q)))) zz T U (us v 5 3))) w24).mp hD
        have w25 : (us v 5 3) = (us (us (us v 2 (sK (rc_test N (nI k) (nI q)) kc)) 5 (rc_test N (nI k) (nI q))) 10 (sJ (rc_test N (nI k) (nI q)) (p_worn (N 7 (kx (nI k))) (p_held N (kx (nI k)) (kx (nI q)))) (v 10))) := by rw [hrc, show sK 3 kc = v 2 from hc.symm, us_v]; exact (us_v (us v 5 3) 10).symm
        have hP : va_P D vwCl (mdW cI a (sN (rc_test N (nI k) (nI q)) N (p_test N (kx (nI k)) (kx (nI q)))) (sP (rc_test N (nI k) (nI q)) P (flat N) kc) T U (us (us (us v 2 (sK (rc_test N (nI k) (nI q)) kc)) 5 (rc_test N (nI k) (nI q))) 10 (sJ (rc_test N (nI k) (nI q)) (p_worn (N 7 (kx (nI k))) (p_held N (kx (nI k)) (kx (nI q)))) (v 10)))) H := (congrArg (fun zz => va_P D vwCl (mdW cI a (sN (rc_test N (nI k) (nI q)) N (p_test N (kx (nI k)) (kx (nI q)))) (sP (rc_test N (nI k) (nI q)) P (flat N) kc) T U zz) H) w25).mp hP
        have hD : va_D (va_A (mdW cI a N P T U v) s.heap.size) (mdW cI a (sN (rc_test N (nI k) (nI q)) N (p_test N (kx (nI k)) (kx (nI q)))) (sP (rc_test N (nI k) (nI q)) P (flat N) kc) T U (us (us (us v 2 (sK (rc_test N (nI k) (nI q)) kc)) 5 (rc_test N (nI k) (nI q))) 10 (sJ (rc_test N (nI k) (nI q)) (p_worn (N 7 (kx (nI k))) (p_held N (kx (nI k)) (kx (nI q)))) (v 10)))) := (congrArg (fun zz => va_D (va_A (mdW cI a N P T U v) s.heap.size) (mdW cI a (sN (rc_test N (nI k) (nI q)) N (p_test N (kx (nI k)) (kx (nI q)))) (sP (rc_test N (nI k) (nI q)) P (flat N) kc) T U zz)) w25).mp hD
        have hP : va_P D vwCl (mdW cI a (sN (rc_test N (nI k) (nI q)) N (p_test N (kx (nI k)) (kx (nI q)))) (sP (rc_test N (nI k) (nI q)) P (flat N) kc) T U (us (us (us v 2 (sK (rc_test N (nI k) (nI q)) kc)) 5 (rc_test N (nI k) (nI q))) 10 (sJ (rc_test N (nI k) (nI q)) (p_worn (N 7 (kx (nI k))) (p_held N (kx (nI k)) (kx (nI q)))) (v 10)))) H := hP
        have hD : va_D (va_A (mdW cI a N P T U v) s.heap.size) (mdW cI a (sN (rc_test N (nI k) (nI q)) N (p_test N (kx (nI k)) (kx (nI q)))) (sP (rc_test N (nI k) (nI q)) P (flat N) kc) T U (us (us (us v 2 (sK (rc_test N (nI k) (nI q)) kc)) 5 (rc_test N (nI k) (nI q))) 10 (sJ (rc_test N (nI k) (nI q)) (p_worn (N 7 (kx (nI k))) (p_held N (kx (nI k)) (kx (nI q)))) (v 10)))) := hD
        exact k_eMi hx hb hr hlocks hP hS (by rw [hrc]; first | done | rfl | (simp only [hcl]; first | done | rfl) | (simp only [hcl, hclp]; first | done | rfl) | (simp only [hclp]; first | done | rfl)) dX5_test_48
    · have c2 := bI_eq0 c2
      have hrc : rc_test N (nI k) w = 2 := by simp [rc_test, hxx, hcl, c2]
      refine lv_aload_n hx hb dX5_test_29 rfl (lv_at hl 0 rfl) ?_
      refine lv_iconst (v := 2) hx hb dX5_test_30 (by decide) ?_
      refine k_miV (As := [.int 2]) (rest := []) (w1 := []) (wc := mdW cI a N P T U (us v 5 0)) (wc' := mdW cI a N P T U (us v 5 2)) (w3 := []) ⟨hx, hb, hml, hown, hts⟩ (c_X5_fails l D cI cS cL a N P T U (us v 5 0) _ 2) lkX5_33 rfl rfl ⟨(Nat.le_of_ble_eq_true rfl), (Nat.le_of_ble_eq_true rfl)⟩ (va_recv hK hP (ci := 4) (q0 := 0) rfl rfl) hK hE hP hD hS hA rfl rfl hl.1 rfl (Nat.le_of_ble_eq_true rfl) dX5_test_31 ⟨Nat.zero_le _, Nat.zero_le _⟩ (fun H locs hzz hP hD hS => ?_)
      have hP : va_P D vwCl (mdW cI a N P T U (us v 5 2)) H := hP
      have hD : va_D (va_A (mdW cI a N P T U v) s.heap.size) (mdW cI a N P T U (us v 5 2)) := hD
      have w26 : N = (sN (rc_test N (nI k) w) N (p_test N (kx (nI k)) (kx w))) := by rw [hrc]; first | done | rfl | (simp only [hcl]; first | done | rfl) | (simp only [hcl, hclp]; first | done | rfl) | (simp only [hclp]; first | done | rfl)
      have hP : va_P D vwCl (mdW cI a (sN (rc_test N (nI k) w) N (p_test N (kx (nI k)) (kx w))) P T U (us v 5 2)) H := (congrArg (fun zz => va_P D vwCl (mdW cI a zz P T U (us v 5 2)) H) w26).mp hP
      have hD : va_D (va_A (mdW cI a N P T U v) s.heap.size) (mdW cI a (sN (rc_test N (nI k) w) N (p_test N (kx (nI k)) (kx w))) P T U (us v 5 2)) := (congrArg (fun zz => va_D (va_A (mdW cI a N P T U v) s.heap.size) (mdW cI a zz P T U (us v 5 2))) w26).mp hD
      have w27 : P = (sP (rc_test N (nI k) w) P (flat N) kc) := by rw [hrc]; first | done | rfl | (simp only [hcl]; first | done | rfl) | (simp only [hcl, hclp]; first | done | rfl) | (simp only [hclp]; first | done | rfl)
      have hP : va_P D vwCl (mdW cI a (sN (rc_test N (nI k) w) N (p_test N (kx (nI k)) (kx w))) (sP (rc_test N (nI k) w) P (flat N) kc) T U (us v 5 2)) H := (congrArg (fun zz => va_P D vwCl (mdW cI a (sN (rc_test N (nI k) w) N (p_test N (kx (nI k)) (kx w))) zz T U (us v 5 2)) H) w27).mp hP
      have hD : va_D (va_A (mdW cI a N P T U v) s.heap.size) (mdW cI a (sN (rc_test N (nI k) w) N (p_test N (kx (nI k)) (kx w))) (sP (rc_test N (nI k) w) P (flat N) kc) T U (us v 5 2)) := (congrArg (fun zz => va_D (va_A (mdW cI a N P T U v) s.heap.size) (mdW cI a (sN (rc_test N (nI k) w) N (p_test N (kx (nI k)) (kx w))) zz T U (us v 5 2))) w27).mp hD
      have w28 : (us v 5 2) = (us (us (us v 2 (sK (rc_test N (nI k) w) kc)) 5 (rc_test N (nI k) w)) 10 (sJ (rc_test N (nI k) w) (p_worn (N 7 (kx (nI k))) (p_held N (kx (nI k)) (kx w))) (v 10))) := by rw [hrc, show sK 2 kc = v 2 from hc.symm, us_v]; exact (us_v (us v 5 2) 10).symm
      have hP : va_P D vwCl (mdW cI a (sN (rc_test N (nI k) w) N (p_test N (kx (nI k)) (kx w))) (sP (rc_test N (nI k) w) P (flat N) kc) T U (us (us (us v 2 (sK (rc_test N (nI k) w) kc)) 5 (rc_test N (nI k) w)) 10 (sJ (rc_test N (nI k) w) (p_worn (N 7 (kx (nI k))) (p_held N (kx (nI k)) (kx w))) (v 10)))) H := (congrArg (fun zz => va_P D vwCl (mdW cI a (sN (rc_test N (nI k) w) N (p_test N (kx (nI k)) (kx w))) (sP (rc_test N (nI k) w) P (flat N) kc) T U zz) H) w28).mp hP
      have hD : va_D (va_A (mdW cI a N P T U v) s.heap.size) (mdW cI a (sN (rc_test N (nI k) w) N (p_test N (kx (nI k)) (kx w))) (sP (rc_test N (nI k) w) P (flat N) kc) T U (us (us (us v 2 (sK (rc_test N (nI k) w) kc)) 5 (rc_test N (nI k) w)) 10 (sJ (rc_test N (nI k) w) (p_worn (N 7 (kx (nI k))) (p_held N (kx (nI k)) (kx w))) (v 10)))) := (congrArg (fun zz => va_D (va_A (mdW cI a N P T U v) s.heap.size) (mdW cI a (sN (rc_test N (nI k) w) N (p_test N (kx (nI k)) (kx w))) (sP (rc_test N (nI k) w) P (flat N) kc) T U zz)) w28).mp hD
      have hP : va_P D vwCl (mdW cI a (sN (rc_test N (nI k) w) N (p_test N (kx (nI k)) (kx w))) (sP (rc_test N (nI k) w) P (flat N) kc) T U (us (us (us v 2 (sK (rc_test N (nI k) w) kc)) 5 (rc_test N (nI k) w)) 10 (sJ (rc_test N (nI k) w) (p_worn (N 7 (kx (nI k))) (p_held N (kx (nI k)) (kx w))) (v 10)))) H := hP
      have hD : va_D (va_A (mdW cI a N P T U v) s.heap.size) (mdW cI a (sN (rc_test N (nI k) w) N (p_test N (kx (nI k)) (kx w))) (sP (rc_test N (nI k) w) P (flat N) kc) T U (us (us (us v 2 (sK (rc_test N (nI k) w) kc)) 5 (rc_test N (nI k) w)) 10 (sJ (rc_test N (nI k) w) (p_worn (N 7 (kx (nI k))) (p_held N (kx (nI k)) (kx w))) (v 10)))) := hD
      exact k_eMi hx hb hr hlocks hP hS (by rw [hrc]; first | done | rfl | (simp only [hcl]; first | done | rfl) | (simp only [hcl, hclp]; first | done | rfl) | (simp only [hclp]; first | done | rfl)) dX5_test_34
  · have c1 := bI_eq0 c1
    have hrc : rc_test N x w = 1 := by simp [rc_test, c1]
    refine lv_aload_n hx hb dX5_test_13 rfl (lv_at hl 0 rfl) ?_
    refine lv_iconst (v := 1) hx hb dX5_test_14 (by decide) ?_
    refine k_miV (As := [.int 1]) (rest := []) (w1 := []) (wc := mdW cI a N P T U (us v 5 0)) (wc' := mdW cI a N P T U (us v 5 1)) (w3 := []) ⟨hx, hb, hml, hown, hts⟩ (c_X5_fails l D cI cS cL a N P T U (us v 5 0) _ 1) lkX5_33 rfl rfl ⟨(Nat.le_of_ble_eq_true rfl), (Nat.le_of_ble_eq_true rfl)⟩ (va_recv hK hP (ci := 4) (q0 := 0) rfl rfl) hK hE hP hD hS hA rfl rfl hl.1 rfl (Nat.le_of_ble_eq_true rfl) dX5_test_15 ⟨Nat.zero_le _, Nat.zero_le _⟩ (fun H locs hzz hP hD hS => ?_)
    have hP : va_P D vwCl (mdW cI a N P T U (us v 5 1)) H := hP
    have hD : va_D (va_A (mdW cI a N P T U v) s.heap.size) (mdW cI a N P T U (us v 5 1)) := hD
    have w29 : N = (sN (rc_test N x w) N (p_test N (kx x) (kx w))) := by rw [hrc]; first | done | rfl | (simp only [hcl]; first | done | rfl) | (simp only [hcl, hclp]; first | done | rfl) | (simp only [hclp]; first | done | rfl)
    have hP : va_P D vwCl (mdW cI a (sN (rc_test N x w) N (p_test N (kx x) (kx w))) P T U (us v 5 1)) H := (congrArg (fun zz => va_P D vwCl (mdW cI a zz P T U (us v 5 1)) H) w29).mp hP
    have hD : va_D (va_A (mdW cI a N P T U v) s.heap.size) (mdW cI a (sN (rc_test N x w) N (p_test N (kx x) (kx w))) P T U (us v 5 1)) := (congrArg (fun zz => va_D (va_A (mdW cI a N P T U v) s.heap.size) (mdW cI a zz P T U (us v 5 1))) w29).mp hD
    have w30 : P = (sP (rc_test N x w) P (flat N) kc) := by rw [hrc]; first | done | rfl | (simp only [hcl]; first | done | rfl) | (simp only [hcl, hclp]; first | done | rfl) | (simp only [hclp]; first | done | rfl)
    have hP : va_P D vwCl (mdW cI a (sN (rc_test N x w) N (p_test N (kx x) (kx w))) (sP (rc_test N x w) P (flat N) kc) T U (us v 5 1)) H := (congrArg (fun zz => va_P D vwCl (mdW cI a (sN (rc_test N x w) N (p_test N (kx x) (kx w))) zz T U (us v 5 1)) H) w30).mp hP
    have hD : va_D (va_A (mdW cI a N P T U v) s.heap.size) (mdW cI a (sN (rc_test N x w) N (p_test N (kx x) (kx w))) (sP (rc_test N x w) P (flat N) kc) T U (us v 5 1)) := (congrArg (fun zz => va_D (va_A (mdW cI a N P T U v) s.heap.size) (mdW cI a (sN (rc_test N x w) N (p_test N (kx x) (kx w))) zz T U (us v 5 1))) w30).mp hD
    have w31 : (us v 5 1) = (us (us (us v 2 (sK (rc_test N x w) kc)) 5 (rc_test N x w)) 10 (sJ (rc_test N x w) (p_worn (N 7 (kx x)) (p_held N (kx x) (kx w))) (v 10))) := by rw [hrc, show sK 1 kc = v 2 from hc.symm, us_v]; exact (us_v (us v 5 1) 10).symm
    have hP : va_P D vwCl (mdW cI a (sN (rc_test N x w) N (p_test N (kx x) (kx w))) (sP (rc_test N x w) P (flat N) kc) T U (us (us (us v 2 (sK (rc_test N x w) kc)) 5 (rc_test N x w)) 10 (sJ (rc_test N x w) (p_worn (N 7 (kx x)) (p_held N (kx x) (kx w))) (v 10)))) H := (congrArg (fun zz => va_P D vwCl (mdW cI a (sN (rc_test N x w) N (p_test N (kx x) (kx w))) (sP (rc_test N x w) P (flat N) kc) T U zz) H) w31).mp hP
    have hD : va_D (va_A (mdW cI a N P T U v) s.heap.size) (mdW cI a (sN (rc_test N x w) N (p_test N (kx x) (kx w))) (sP (rc_test N x w) P (flat N) kc) T U (us (us (us v 2 (sK (rc_test N x w) kc)) 5 (rc_test N x w)) 10 (sJ (rc_test N x w) (p_worn (N 7 (kx x)) (p_held N (kx x) (kx w))) (v 10)))) := (congrArg (fun zz => va_D (va_A (mdW cI a N P T U v) s.heap.size) (mdW cI a (sN (rc_test N x w) N (p_test N (kx x) (kx w))) (sP (rc_test N x w) P (flat N) kc) T U zz)) w31).mp hD
    have hP : va_P D vwCl (mdW cI a (sN (rc_test N x w) N (p_test N (kx x) (kx w))) (sP (rc_test N x w) P (flat N) kc) T U (us (us (us v 2 (sK (rc_test N x w) kc)) 5 (rc_test N x w)) 10 (sJ (rc_test N x w) (p_worn (N 7 (kx x)) (p_held N (kx x) (kx w))) (v 10)))) H := hP
    have hD : va_D (va_A (mdW cI a N P T U v) s.heap.size) (mdW cI a (sN (rc_test N x w) N (p_test N (kx x) (kx w))) (sP (rc_test N x w) P (flat N) kc) T U (us (us (us v 2 (sK (rc_test N x w) kc)) 5 (rc_test N x w)) 10 (sJ (rc_test N x w) (p_worn (N 7 (kx x)) (p_held N (kx x) (kx w))) (v 10)))) := hD
    exact k_eMi hx hb hr hlocks hP hS (by rw [hrc]; first | done | rfl | (simp only [hcl]; first | done | rfl) | (simp only [hcl, hclp]; first | done | rfl) | (simp only [hclp]; first | done | rfl)) dX5_test_18

abbrev rmX5_pass : Room := { frames := 4, cells := 0, slots := 0, locals := 87 }
set_option maxHeartbeats 4000000 in
set_option maxRecDepth 100000 in
theorem c_X5_pass (l : Launch) (D : va_G) (cI cS cL : ClassId) (a : Nat → Nat) (N : NN) (P T U v : Nat → Int32) (sz : Nat) (n kc : Nat) (dy : Nat) (w : Int32) (hn : N 1 2 = nI n) (hn14 : n ≤ 14) (hc : v 2 = nI kc) (hc6 : kc ≤ 6) (hI : Inv N n dy) (hdy : dy < 2 ^ 29) : Met l yX5_pass (wy_ yX5_pass cX5_pass 3 (some .int)) rmX5_pass (kPc D (kTy cI cS cL) (mdW cI a N P T U v) sz [.ref (a 0), .int w]) (kMi D (mdW cI a N P T U v) (mdW cI a (sN (rc_pass w) N (p_days N n (kx w))) (sP (rc_pass w) P (flat N) kc) T U (us (us v 2 (sK (rc_pass w) kc)) 5 (rc_pass w))) sz (sR (rc_pass w) (p_days N n (kx w) 1 0))) 0 0 (va_A (mdW cI a N P T U v) sz) := by
  refine k_ofW (by decide) (Nat.le_of_ble_eq_true rfl) ?_
  intro p e s m args below meth c hx hb hr hml hts hown hlocks hnm hsz hP hK hD hE ls hl
  subst hsz
  have hA : ∀ q : Nat, s.heap.size ≤ q → (va_A (mdW cI a N P T U v) s.heap.size) q := fun q h => Or.inr h
  have hS : va_S (va_A (mdW cI a N P T U v) s.heap.size) s.heap s.heap [] := va_S.rf
  have hl : lv_has ls 3 [(0, .ref (a 0)), (1, .int w)] := hl
  refine lv_aload_n hx hb dX5_pass_0 rfl (lv_at hl 0 rfl) ?_
  refine lv_iconst (v := 0) hx hb dX5_pass_1 (by decide) ?_
  refine f5 hx hb hts hown hK hP hD hS 0 rfl 5 (by decide) flX5_22 (fun _ h => h) rfl rfl rfl (Nat.le_of_ble_eq_true rfl) dX5_pass_2 (fun H locs hP hD hS => ?_)
  have hP : va_P D vwCl (mdW cI a N P T U (us v 5 0)) H := hP
  have hD : va_D (va_A (mdW cI a N P T U v) s.heap.size) (mdW cI a N P T U (us v 5 0)) := hD
  refine lv_iload_n hx hb dX5_pass_5 rfl (lv_at hl 1 rfl) ?_
  refine lv_iconst (v := 1) hx hb dX5_pass_6 (by decide) ?_
  refine lv_bipush (v := 100) hx hb dX5_pass_7 (by decide) ?_
  refine k_riS (As := [.int w, .int 1, .int 100]) (rest := []) (wc := []) ⟨hx, hb, hml, hown, hts⟩ (c_X5_in l D cI cS cL _ w 1 100) lkX5_26 rfl rfl ⟨(Nat.le_of_ble_eq_true rfl), (Nat.le_of_ble_eq_true rfl)⟩ hK hE k_nilP (k_nilD (A := va_A (mdW cI a N P T U v) s.heap.size)) rfl hl.1 rfl (Nat.le_of_ble_eq_true rfl) dX5_pass_9 ⟨Nat.zero_le _, Nat.zero_le _⟩ ?_
  refine lv_if_ne (tgt := 21) hx hb dX5_pass_12 (by decide) (fun c1 => ?_) (fun c1 => ?_)
  · have c1 := bI_ne0 c1
    have hyy := c1
    obtain ⟨q, hqlo, hqhi, hxp⟩ := p_isB (lo := 1) (hi := 100) (by omega) (by omega) (c1).1 (c1).2
    subst hxp
    have hclp : kx (nI q) = q := kx_nI (by omega)
    have hrc : rc_pass (nI q) = 0 := by simp [rc_pass, hyy, hclp]
    refine lv_aload_n hx hb dX5_pass_21 rfl (lv_at hl 0 rfl) ?_
    refine k_mvV (As := []) (rest := []) (w1 := []) (wc := mdW cI a N P T U (us v 5 0)) (wc' := mdW cI a N (m_sv P (flat N) kc) T U (us (us v 2 (nI (m_kc kc))) 5 0)) (w3 := []) ⟨hx, hb, hml, hown, hts⟩ (c_X5_saves l D cI cS cL a N P T U (us v 5 0) _ kc hc (by omega)) lkX5_77 rfl rfl ⟨(Nat.le_of_ble_eq_true rfl), (Nat.le_of_ble_eq_true rfl)⟩ (va_recv hK hP (ci := 4) (q0 := 0) rfl rfl) hK hE hP hD hS hA rfl rfl hl.1 rfl (Nat.le_of_ble_eq_true rfl) dX5_pass_22 ⟨Nat.zero_le _, Nat.zero_le _⟩ (fun H locs hzz hP hD hS => ?_)
    have hP : va_P D vwCl (mdW cI a N (m_sv P (flat N) kc) T U (us (us v 2 (nI (m_kc kc))) 5 0)) H := hP
    have hD : va_D (va_A (mdW cI a N P T U v) s.heap.size) (mdW cI a N (m_sv P (flat N) kc) T U (us (us v 2 (nI (m_kc kc))) 5 0)) := hD
    refine lv_iconst (v := 0) hx hb dX5_pass_25 (by decide) ?_
    refine lv_istore_n (lv' := [(2, .int 0), (0, .ref (a 0)), (1, .int (nI q))]) hx hb dX5_pass_26 rfl hl (by decide) rfl (fun ls hl => ?_)
    have L2 : ∀ (f k : Nat), k ≤ q → q - k < f → ∀ (H : Heap) (locs : List Loc), va_P D vwCl (mdW cI a (p_days N n k) (m_sv P (flat N) kc) T U (us (us v 2 (nI (m_kc kc))) 5 0)) H → va_D (va_A (mdW cI a N P T U v) s.heap.size) (mdW cI a (p_days N n k) (m_sv P (flat N) kc) T U (us (us v 2 (nI (m_kc kc))) 5 0)) → va_S (va_A (mdW cI a N P T U v) s.heap.size) s.heap H locs → s.heap.size ≤ H.size → ∀ ls : Array Slot, lv_has ls 3 [(0, .ref (a 0)), (1, .int (nI q)), (2, .int (nI k))] → W p l e rmX5_pass s m args below meth c H locs 0 0 (MQ below (kMi D (mdW cI a N P T U v) (mdW cI a (sN (rc_pass (nI q)) N (p_days N n (kx (nI q)))) (sP (rc_pass (nI q)) P (flat N) kc) T U (us (us v 2 (sK (rc_pass (nI q)) kc)) 5 (rc_pass (nI q)))) s.heap.size (sR (rc_pass (nI q)) (p_days N n (kx (nI q)) 1 0))) args s 0 0 (va_A (mdW cI a N P T U v) s.heap.size)) (F0 m 27 ls []) := by
      intro f
      induction f with
      | zero => intro k hv1 hv2; exact absurd hv2 (Nat.not_lt_zero _)
      | succ f ih =>
        intro k hv1 hv2 H locs hP hD hS hz ls hl
        refine lv_iload_n hx hb dX5_pass_27 rfl (lv_at hl 2 rfl) ?_
        refine lv_iload_n hx hb dX5_pass_28 rfl (lv_at hl 1 rfl) ?_
        refine lv_icmp_ge (tgt := 42) hx hb dX5_pass_29 (by decide) (fun c3 => ?_) (fun c3 => ?_)
        · have c3' := Int32.not_lt.mpr c3
          have hkn : q = k := (k_exit (by omega) hv1 c3).symm
          subst hkn
          refine lv_aload_n hx hb dX5_pass_42 rfl (lv_at hl 0 rfl) ?_
          refine g5 hx hb hts hown hK hP 0 rfl 0 (by decide) flX5_7 (fun _ h => h) (v := .ref (a 1)) rfl dX5_pass_43 ?_
          refine lv_iconst (v := 3) hx hb dX5_pass_46 (by decide) ?_
          refine k_ald (k := 3) hx hb hK hP 1 0 rfl rfl rfl (by decide) (by decide) dX5_pass_47 ?_
          rw [show flat (p_days N n q) (3) = (p_days N n q) 1 0 from rfl]
          have w4 : (p_days N n q) = (sN (rc_pass (nI q)) N (p_days N n (kx (nI q)))) := by rw [hrc]; first | done | rfl | (simp only [hcl]; first | done | rfl) | (simp only [hcl, hclp]; first | done | rfl) | (simp only [hclp]; first | done | rfl)
          have hP : va_P D vwCl (mdW cI a (sN (rc_pass (nI q)) N (p_days N n (kx (nI q)))) (m_sv P (flat N) kc) T U (us (us v 2 (nI (m_kc kc))) 5 0)) H := (congrArg (fun zz => va_P D vwCl (mdW cI a zz (m_sv P (flat N) kc) T U (us (us v 2 (nI (m_kc kc))) 5 0)) H) w4).mp hP
          have hD : va_D (va_A (mdW cI a N P T U v) s.heap.size) (mdW cI a (sN (rc_pass (nI q)) N (p_days N n (kx (nI q)))) (m_sv P (flat N) kc) T U (us (us v 2 (nI (m_kc kc))) 5 0)) := (congrArg (fun zz => va_D (va_A (mdW cI a N P T U v) s.heap.size) (mdW cI a zz (m_sv P (flat N) kc) T U (us (us v 2 (nI (m_kc kc))) 5 0))) w4).mp hD
          have w5 : (m_sv P (flat N) kc) = (sP (rc_pass (nI q)) P (flat N) kc) := by rw [hrc]; first | done | rfl | (simp only [hcl]; first | done | rfl) | (simp only [hcl, hclp]; first | done | rfl) | (simp only [hclp]; first | done | rfl)
          have hP : va_P D vwCl (mdW cI a (sN (rc_pass (nI q)) N (p_days N n (kx (nI q)))) (sP (rc_pass (nI q)) P (flat N) kc) T U (us (us v 2 (nI (m_kc kc))) 5 0)) H := (congrArg (fun zz => va_P D vwCl (mdW cI a (sN (rc_pass (nI q)) N (p_days N n (kx (nI q)))) zz T U (us (us v 2 (nI (m_kc kc))) 5 0)) H) w5).mp hP
          have hD : va_D (va_A (mdW cI a N P T U v) s.heap.size) (mdW cI a (sN (rc_pass (nI q)) N (p_days N n (kx (nI q)))) (sP (rc_pass (nI q)) P (flat N) kc) T U (us (us v 2 (nI (m_kc kc))) 5 0)) := (congrArg (fun zz => va_D (va_A (mdW cI a N P T U v) s.heap.size) (mdW cI a (sN (rc_pass (nI q)) N (p_days N n (kx (nI q)))) zz T U (us (us v 2 (nI (m_kc kc))) 5 0))) w5).mp hD
          have w6 : (us (us v 2 (nI (m_kc kc))) 5 0) = (us (us v 2 (sK (rc_pass (nI q)) kc)) 5 (rc_pass (nI q))) := by rw [hrc]; first | done | rfl | (simp only [hcl]; first | done | rfl) | (simp only [hcl, hclp]; first | done | rfl) | (simp only [hclp]; first | done | rfl)
          have hP : va_P D vwCl (mdW cI a (sN (rc_pass (nI q)) N (p_days N n (kx (nI q)))) (sP (rc_pass (nI q)) P (flat N) kc) T U (us (us v 2 (sK (rc_pass (nI q)) kc)) 5 (rc_pass (nI q)))) H := (congrArg (fun zz => va_P D vwCl (mdW cI a (sN (rc_pass (nI q)) N (p_days N n (kx (nI q)))) (sP (rc_pass (nI q)) P (flat N) kc) T U zz) H) w6).mp hP
          have hD : va_D (va_A (mdW cI a N P T U v) s.heap.size) (mdW cI a (sN (rc_pass (nI q)) N (p_days N n (kx (nI q)))) (sP (rc_pass (nI q)) P (flat N) kc) T U (us (us v 2 (sK (rc_pass (nI q)) kc)) 5 (rc_pass (nI q)))) := (congrArg (fun zz => va_D (va_A (mdW cI a N P T U v) s.heap.size) (mdW cI a (sN (rc_pass (nI q)) N (p_days N n (kx (nI q)))) (sP (rc_pass (nI q)) P (flat N) kc) T U zz)) w6).mp hD
          have hP : va_P D vwCl (mdW cI a (sN (rc_pass (nI q)) N (p_days N n (kx (nI q)))) (sP (rc_pass (nI q)) P (flat N) kc) T U (us (us v 2 (sK (rc_pass (nI q)) kc)) 5 (rc_pass (nI q)))) H := hP
          have hD : va_D (va_A (mdW cI a N P T U v) s.heap.size) (mdW cI a (sN (rc_pass (nI q)) N (p_days N n (kx (nI q)))) (sP (rc_pass (nI q)) P (flat N) kc) T U (us (us v 2 (sK (rc_pass (nI q)) kc)) 5 (rc_pass (nI q)))) := hD
          exact k_eMi hx hb hr hlocks hP hS (by rw [hrc]; first | done | rfl | (simp only [hcl]; first | done | rfl) | (simp only [hcl, hclp]; first | done | rfl) | (simp only [hclp]; first | done | rfl)) dX5_pass_48
        · have c3' := Int32.not_le.mp c3
          have hkn : k < q := k_more (by omega) hv1 c3
          refine lv_aload_n hx hb dX5_pass_32 rfl (lv_at hl 0 rfl) ?_
          refine k_mvV (As := []) (rest := []) (w1 := []) (wc := mdW cI a (p_days N n k) (m_sv P (flat N) kc) T U (us (us v 2 (nI (m_kc kc))) 5 0)) (wc' := mdW cI a (p_day (p_days N n k) n) (m_sv P (flat N) kc) T U (us (us v 2 (nI (m_kc kc))) 5 0)) (w3 := []) ⟨hx, hb, hml, hown, hts⟩ (c_X5_day l D cI cS cL a (p_days N n k) (m_sv P (flat N) kc) T U (us (us v 2 (nI (m_kc kc))) 5 0) _ n (Inv_days hI k).2.1 hn14 (day_nn (Inv_days hI k) (by omega)) (fun j hj => ((Inv_days hI k).2.2.2 j hj).2.1)) lkX5_102 rfl rfl ⟨(Nat.le_of_ble_eq_true rfl), (Nat.le_of_ble_eq_true rfl)⟩ (va_recv hK hP (ci := 4) (q0 := 0) rfl rfl) hK hE hP hD hS hA rfl rfl hl.1 rfl (Nat.le_of_ble_eq_true rfl) dX5_pass_33 ⟨Nat.zero_le _, Nat.zero_le _⟩ (fun H locs hzz hP hD hS => ?_)
          have hP : va_P D vwCl (mdW cI a (p_day (p_days N n k) n) (m_sv P (flat N) kc) T U (us (us v 2 (nI (m_kc kc))) 5 0)) H := hP
          have hD : va_D (va_A (mdW cI a N P T U v) s.heap.size) (mdW cI a (p_day (p_days N n k) n) (m_sv P (flat N) kc) T U (us (us v 2 (nI (m_kc kc))) 5 0)) := hD
          refine lv_iinc (v := nI (k + 1)) (lv' := [(2, .int (nI (k + 1))), (0, .ref (a 0)), (1, .int (nI q))]) hx hb dX5_pass_36 hl (k := 2) rfl (nI_1 _) (by decide) rfl (fun ls hl => ?_)
          refine lv_goto (tgt := 27) hx hb dX5_pass_39 (by decide) ?_
          have hl : lv_has ls 3 [(0, .ref (a 0)), (1, .int (nI q)), (2, .int (nI (k + 1)))] := lv_sub hl [1, 2, 0] rfl
          have hl : lv_has ls 3 [(0, .ref (a 0)), (1, .int (nI q)), (2, .int (nI (k + 1)))] := hl
          have hP : va_P D vwCl (mdW cI a (p_days N n (k + 1)) (m_sv P (flat N) kc) T U (us (us v 2 (nI (m_kc kc))) 5 0)) H := hP
          have hD : va_D (va_A (mdW cI a N P T U v) s.heap.size) (mdW cI a (p_days N n (k + 1)) (m_sv P (flat N) kc) T U (us (us v 2 (nI (m_kc kc))) 5 0)) := hD
          exact ih (k + 1) (by omega) (by omega) H locs hP hD hS hS.1 ls hl
    have hl : lv_has ls 3 [(0, .ref (a 0)), (1, .int (nI q)), (2, .int 0)] := lv_sub hl [1, 2, 0] rfl
    have hl : lv_has ls 3 [(0, .ref (a 0)), (1, .int (nI q)), (2, .int (nI 0))] := hl
    have hP : va_P D vwCl (mdW cI a (p_days N n 0) (m_sv P (flat N) kc) T U (us (us v 2 (nI (m_kc kc))) 5 0)) H := hP
    have hD : va_D (va_A (mdW cI a N P T U v) s.heap.size) (mdW cI a (p_days N n 0) (m_sv P (flat N) kc) T U (us (us v 2 (nI (m_kc kc))) 5 0)) := hD
    exact L2 (q - 0 + 1) 0 (by omega) (by omega) H locs hP hD hS hS.1 ls hl
  · have c1 := bI_eq0 c1
    have hrc : rc_pass w = 1 := by simp [rc_pass, c1]
    refine lv_aload_n hx hb dX5_pass_15 rfl (lv_at hl 0 rfl) ?_
    refine lv_iconst (v := 1) hx hb dX5_pass_16 (by decide) ?_
    refine k_miV (As := [.int 1]) (rest := []) (w1 := []) (wc := mdW cI a N P T U (us v 5 0)) (wc' := mdW cI a N P T U (us v 5 1)) (w3 := []) ⟨hx, hb, hml, hown, hts⟩ (c_X5_fails l D cI cS cL a N P T U (us v 5 0) _ 1) lkX5_33 rfl rfl ⟨(Nat.le_of_ble_eq_true rfl), (Nat.le_of_ble_eq_true rfl)⟩ (va_recv hK hP (ci := 4) (q0 := 0) rfl rfl) hK hE hP hD hS hA rfl rfl hl.1 rfl (Nat.le_of_ble_eq_true rfl) dX5_pass_17 ⟨Nat.zero_le _, Nat.zero_le _⟩ (fun H locs hzz hP hD hS => ?_)
    have hP : va_P D vwCl (mdW cI a N P T U (us v 5 1)) H := hP
    have hD : va_D (va_A (mdW cI a N P T U v) s.heap.size) (mdW cI a N P T U (us v 5 1)) := hD
    have w9 : N = (sN (rc_pass w) N (p_days N n (kx w))) := by rw [hrc]; first | done | rfl | (simp only [hcl]; first | done | rfl) | (simp only [hcl, hclp]; first | done | rfl) | (simp only [hclp]; first | done | rfl)
    have hP : va_P D vwCl (mdW cI a (sN (rc_pass w) N (p_days N n (kx w))) P T U (us v 5 1)) H := (congrArg (fun zz => va_P D vwCl (mdW cI a zz P T U (us v 5 1)) H) w9).mp hP
    have hD : va_D (va_A (mdW cI a N P T U v) s.heap.size) (mdW cI a (sN (rc_pass w) N (p_days N n (kx w))) P T U (us v 5 1)) := (congrArg (fun zz => va_D (va_A (mdW cI a N P T U v) s.heap.size) (mdW cI a zz P T U (us v 5 1))) w9).mp hD
    have w10 : P = (sP (rc_pass w) P (flat N) kc) := by rw [hrc]; first | done | rfl | (simp only [hcl]; first | done | rfl) | (simp only [hcl, hclp]; first | done | rfl) | (simp only [hclp]; first | done | rfl)
    have hP : va_P D vwCl (mdW cI a (sN (rc_pass w) N (p_days N n (kx w))) (sP (rc_pass w) P (flat N) kc) T U (us v 5 1)) H := (congrArg (fun zz => va_P D vwCl (mdW cI a (sN (rc_pass w) N (p_days N n (kx w))) zz T U (us v 5 1)) H) w10).mp hP
    have hD : va_D (va_A (mdW cI a N P T U v) s.heap.size) (mdW cI a (sN (rc_pass w) N (p_days N n (kx w))) (sP (rc_pass w) P (flat N) kc) T U (us v 5 1)) := (congrArg (fun zz => va_D (va_A (mdW cI a N P T U v) s.heap.size) (mdW cI a (sN (rc_pass w) N (p_days N n (kx w))) zz T U (us v 5 1))) w10).mp hD
    have w11 : (us v 5 1) = (us (us v 2 (sK (rc_pass w) kc)) 5 (rc_pass w)) := by rw [hrc, show sK 1 kc = v 2 from hc.symm, us_v]; first | done | rfl
    have hP : va_P D vwCl (mdW cI a (sN (rc_pass w) N (p_days N n (kx w))) (sP (rc_pass w) P (flat N) kc) T U (us (us v 2 (sK (rc_pass w) kc)) 5 (rc_pass w))) H := (congrArg (fun zz => va_P D vwCl (mdW cI a (sN (rc_pass w) N (p_days N n (kx w))) (sP (rc_pass w) P (flat N) kc) T U zz) H) w11).mp hP
    have hD : va_D (va_A (mdW cI a N P T U v) s.heap.size) (mdW cI a (sN (rc_pass w) N (p_days N n (kx w))) (sP (rc_pass w) P (flat N) kc) T U (us (us v 2 (sK (rc_pass w) kc)) 5 (rc_pass w))) := (congrArg (fun zz => va_D (va_A (mdW cI a N P T U v) s.heap.size) (mdW cI a (sN (rc_pass w) N (p_days N n (kx w))) (sP (rc_pass w) P (flat N) kc) T U zz)) w11).mp hD
    have hP : va_P D vwCl (mdW cI a (sN (rc_pass w) N (p_days N n (kx w))) (sP (rc_pass w) P (flat N) kc) T U (us (us v 2 (sK (rc_pass w) kc)) 5 (rc_pass w))) H := hP
    have hD : va_D (va_A (mdW cI a N P T U v) s.heap.size) (mdW cI a (sN (rc_pass w) N (p_days N n (kx w))) (sP (rc_pass w) P (flat N) kc) T U (us (us v 2 (sK (rc_pass w) kc)) 5 (rc_pass w))) := hD
    exact k_eMi hx hb hr hlocks hP hS (by rw [hrc]; first | done | rfl | (simp only [hcl]; first | done | rfl) | (simp only [hcl, hclp]; first | done | rfl) | (simp only [hclp]; first | done | rfl)) dX5_pass_20

abbrev rmX5_append : Room := { frames := 1, cells := 0, slots := 0, locals := 22 }
set_option maxHeartbeats 4000000 in
set_option maxRecDepth 100000 in
theorem c_X5_append (l : Launch) (D : va_G) (cI cS cL : ClassId) (a : Nat → Nat) (N : NN) (P T U v : Nat → Int32) (sz : Nat) (z : Nat) (ch : Int32) (hz : v 4 = nI z) (hz60 : z ≤ 60) : Met l yX5_append (wy_ yX5_append cX5_append 2 (some .int)) rmX5_append (kPc D (kTy cI cS cL) (mdW cI a N P T U v) sz [.ref (a 0), .int ch]) (kMi D (mdW cI a N P T U v) (mdW cI a N P (sT (rc_app z ch) T (upd T z ch)) U (us (us v 4 (sZ (rc_app z ch) z)) 5 (rc_app z ch))) sz (sR (rc_app z ch) (nI (z + 1)))) 0 0 (va_A (mdW cI a N P T U v) sz) := by
  refine k_ofW (by decide) (Nat.le_of_ble_eq_true rfl) ?_
  intro p e s m args below meth c hx hb hr hml hts hown hlocks hnm hsz hP hK hD hE ls hl
  subst hsz
  have hA : ∀ q : Nat, s.heap.size ≤ q → (va_A (mdW cI a N P T U v) s.heap.size) q := fun q h => Or.inr h
  have hS : va_S (va_A (mdW cI a N P T U v) s.heap.size) s.heap s.heap [] := va_S.rf
  have hl : lv_has ls 2 [(0, .ref (a 0)), (1, .int ch)] := hl
  refine lv_aload_n hx hb dX5_append_0 rfl (lv_at hl 0 rfl) ?_
  refine lv_iconst (v := 0) hx hb dX5_append_1 (by decide) ?_
  refine f5 hx hb hts hown hK hP hD hS 0 rfl 5 (by decide) flX5_22 (fun _ h => h) rfl rfl rfl (Nat.le_of_ble_eq_true rfl) dX5_append_2 (fun H locs hP hD hS => ?_)
  have hP : va_P D vwCl (mdW cI a N P T U (us v 5 0)) H := hP
  have hD : va_D (va_A (mdW cI a N P T U v) s.heap.size) (mdW cI a N P T U (us v 5 0)) := hD
  refine lv_iload_n hx hb dX5_append_5 rfl (lv_at hl 1 rfl) ?_
  refine lv_bipush (v := 33) hx hb dX5_append_6 (by decide) ?_
  refine lv_bipush (v := 126) hx hb dX5_append_8 (by decide) ?_
  refine k_riS (As := [.int ch, .int 33, .int 126]) (rest := []) (wc := []) ⟨hx, hb, hml, hown, hts⟩ (c_X5_in l D cI cS cL _ ch 33 126) lkX5_26 rfl rfl ⟨(Nat.le_of_ble_eq_true rfl), (Nat.le_of_ble_eq_true rfl)⟩ hK hE k_nilP (k_nilD (A := va_A (mdW cI a N P T U v) s.heap.size)) rfl hl.1 rfl (Nat.le_of_ble_eq_true rfl) dX5_append_10 ⟨Nat.zero_le _, Nat.zero_le _⟩ ?_
  refine lv_if_ne (tgt := 22) hx hb dX5_append_13 (by decide) (fun c1 => ?_) (fun c1 => ?_)
  · have c1 := bI_ne0 c1
    refine lv_aload_n hx hb dX5_append_22 rfl (lv_at hl 0 rfl) ?_
    refine g5 hx hb hts hown hK hP 0 rfl 4 (by decide) flX5_105 (fun _ h => h) (v := .int (nI z)) (by rw [← hz]; rfl) dX5_append_23 ?_
    refine lv_bipush (v := 60) hx hb dX5_append_26 (by decide) ?_
    refine lv_icmp_ne (tgt := 37) hx hb dX5_append_28 (by decide) (fun c2 => ?_) (fun c2 => ?_)
    · have hzc : ¬ z = 60 := fun h => c2 (by rw [h]; rfl)
      have hrc : rc_app z ch = 0 := by simp [rc_app, c1, hzc]
      refine lv_aload_n hx hb dX5_append_37 rfl (lv_at hl 0 rfl) ?_
      refine g5 hx hb hts hown hK hP 0 rfl 3 (by decide) flX5_16 (fun _ h => h) (v := .ref (a 3)) rfl dX5_append_38 ?_
      refine lv_aload_n hx hb dX5_append_41 rfl (lv_at hl 0 rfl) ?_
      refine g5 hx hb hts hown hK hP 0 rfl 4 (by decide) flX5_105 (fun _ h => h) (v := .int (nI z)) (by rw [← hz]; rfl) dX5_append_42 ?_
      refine lv_iload_n hx hb dX5_append_45 rfl (lv_at hl 1 rfl) ?_
      refine k_ast (k := z) hx hb hK hP hD hS 3 0 rfl rfl rfl (by omega) (by decide) dX5_append_46 (fun H locs hP hD hS => ?_)
      have hP : va_P D vwCl (mdW cI a N P (upd T z ch) U (us v 5 0)) H := hP
      have hD : va_D (va_A (mdW cI a N P T U v) s.heap.size) (mdW cI a N P (upd T z ch) U (us v 5 0)) := hD
      refine lv_aload_n hx hb dX5_append_47 rfl (lv_at hl 0 rfl) ?_
      refine lv_dup hx hb dX5_append_48 rfl ?_
      refine g5 hx hb hts hown hK hP 0 rfl 4 (by decide) flX5_105 (fun _ h => h) (v := .int (nI z)) (by rw [← hz]; rfl) dX5_append_49 ?_
      refine lv_iconst (v := 1) hx hb dX5_append_52 (by decide) ?_
      refine lv_iadd hx hb dX5_append_53 (lv_topi (fun x3 e3 => ?_))
      have q3 : x3 = nI (z + 1) := by rw [e3]; exact nI_1 z
      subst q3
      refine f5 hx hb hts hown hK hP hD hS 0 rfl 4 (by decide) flX5_105 (fun _ h => h) rfl rfl rfl (Nat.le_of_ble_eq_true rfl) dX5_append_54 (fun H locs hP hD hS => ?_)
      have hP : va_P D vwCl (mdW cI a N P (upd T z ch) U (us (us v 4 (nI (z + 1))) 5 0)) H := hP
      have hD : va_D (va_A (mdW cI a N P T U v) s.heap.size) (mdW cI a N P (upd T z ch) U (us (us v 4 (nI (z + 1))) 5 0)) := hD
      refine lv_aload_n hx hb dX5_append_57 rfl (lv_at hl 0 rfl) ?_
      refine g5 hx hb hts hown hK hP 0 rfl 4 (by decide) flX5_105 (fun _ h => h) (v := .int (nI (z + 1))) rfl dX5_append_58 ?_
      have w4 : (upd T z ch) = (sT (rc_app z ch) T (upd T z ch)) := by rw [hrc]; first | done | rfl | (simp only [hcl]; first | done | rfl) | (simp only [hcl, hclp]; first | done | rfl) | (simp only [hclp]; first | done | rfl)
      have hP : va_P D vwCl (mdW cI a N P (sT (rc_app z ch) T (upd T z ch)) U (us (us v 4 (nI (z + 1))) 5 0)) H := (congrArg (fun zz => va_P D vwCl (mdW cI a N P zz U (us (us v 4 (nI (z + 1))) 5 0)) H) w4).mp hP
      have hD : va_D (va_A (mdW cI a N P T U v) s.heap.size) (mdW cI a N P (sT (rc_app z ch) T (upd T z ch)) U (us (us v 4 (nI (z + 1))) 5 0)) := (congrArg (fun zz => va_D (va_A (mdW cI a N P T U v) s.heap.size) (mdW cI a N P zz U (us (us v 4 (nI (z + 1))) 5 0))) w4).mp hD
      have w5 : (us (us v 4 (nI (z + 1))) 5 0) = (us (us v 4 (sZ (rc_app z ch) z)) 5 (rc_app z ch)) := by rw [hrc]; first | done | rfl | (simp only [hcl]; first | done | rfl) | (simp only [hcl, hclp]; first | done | rfl) | (simp only [hclp]; first | done | rfl)
      have hP : va_P D vwCl (mdW cI a N P (sT (rc_app z ch) T (upd T z ch)) U (us (us v 4 (sZ (rc_app z ch) z)) 5 (rc_app z ch))) H := (congrArg (fun zz => va_P D vwCl (mdW cI a N P (sT (rc_app z ch) T (upd T z ch)) U zz) H) w5).mp hP
      have hD : va_D (va_A (mdW cI a N P T U v) s.heap.size) (mdW cI a N P (sT (rc_app z ch) T (upd T z ch)) U (us (us v 4 (sZ (rc_app z ch) z)) 5 (rc_app z ch))) := (congrArg (fun zz => va_D (va_A (mdW cI a N P T U v) s.heap.size) (mdW cI a N P (sT (rc_app z ch) T (upd T z ch)) U zz)) w5).mp hD
      have hP : va_P D vwCl (mdW cI a N P (sT (rc_app z ch) T (upd T z ch)) U (us (us v 4 (sZ (rc_app z ch) z)) 5 (rc_app z ch))) H := hP
      have hD : va_D (va_A (mdW cI a N P T U v) s.heap.size) (mdW cI a N P (sT (rc_app z ch) T (upd T z ch)) U (us (us v 4 (sZ (rc_app z ch) z)) 5 (rc_app z ch))) := hD
      exact k_eMi hx hb hr hlocks hP hS (by rw [hrc]; first | done | rfl | (simp only [hcl]; first | done | rfl) | (simp only [hcl, hclp]; first | done | rfl) | (simp only [hclp]; first | done | rfl)) dX5_append_61
    · have hzc : z = 60 := (nI_eq (a := z) (b := 60) (by omega) (by omega)).mp c2
      have hrc : rc_app z ch = 2 := by simp [rc_app, c1, hzc]
      refine lv_aload_n hx hb dX5_append_31 rfl (lv_at hl 0 rfl) ?_
      refine lv_iconst (v := 2) hx hb dX5_append_32 (by decide) ?_
      refine k_miV (As := [.int 2]) (rest := []) (w1 := []) (wc := mdW cI a N P T U (us v 5 0)) (wc' := mdW cI a N P T U (us v 5 2)) (w3 := []) ⟨hx, hb, hml, hown, hts⟩ (c_X5_fails l D cI cS cL a N P T U (us v 5 0) _ 2) lkX5_33 rfl rfl ⟨(Nat.le_of_ble_eq_true rfl), (Nat.le_of_ble_eq_true rfl)⟩ (va_recv hK hP (ci := 4) (q0 := 0) rfl rfl) hK hE hP hD hS hA rfl rfl hl.1 rfl (Nat.le_of_ble_eq_true rfl) dX5_append_33 ⟨Nat.zero_le _, Nat.zero_le _⟩ (fun H locs hzz hP hD hS => ?_)
      have hP : va_P D vwCl (mdW cI a N P T U (us v 5 2)) H := hP
      have hD : va_D (va_A (mdW cI a N P T U v) s.heap.size) (mdW cI a N P T U (us v 5 2)) := hD
      have w6 : T = (sT (rc_app z ch) T (upd T z ch)) := by rw [hrc]; first | done | rfl | (simp only [hcl]; first | done | rfl) | (simp only [hcl, hclp]; first | done | rfl) | (simp only [hclp]; first | done | rfl)
      have hP : va_P D vwCl (mdW cI a N P (sT (rc_app z ch) T (upd T z ch)) U (us v 5 2)) H := (congrArg (fun zz => va_P D vwCl (mdW cI a N P zz U (us v 5 2)) H) w6).mp hP
      have hD : va_D (va_A (mdW cI a N P T U v) s.heap.size) (mdW cI a N P (sT (rc_app z ch) T (upd T z ch)) U (us v 5 2)) := (congrArg (fun zz => va_D (va_A (mdW cI a N P T U v) s.heap.size) (mdW cI a N P zz U (us v 5 2))) w6).mp hD
      have w7 : (us v 5 2) = (us (us v 4 (sZ (rc_app z ch) z)) 5 (rc_app z ch)) := by rw [hrc, show sZ 2 z = v 4 from hz.symm, us_v]
      have hP : va_P D vwCl (mdW cI a N P (sT (rc_app z ch) T (upd T z ch)) U (us (us v 4 (sZ (rc_app z ch) z)) 5 (rc_app z ch))) H := (congrArg (fun zz => va_P D vwCl (mdW cI a N P (sT (rc_app z ch) T (upd T z ch)) U zz) H) w7).mp hP
      have hD : va_D (va_A (mdW cI a N P T U v) s.heap.size) (mdW cI a N P (sT (rc_app z ch) T (upd T z ch)) U (us (us v 4 (sZ (rc_app z ch) z)) 5 (rc_app z ch))) := (congrArg (fun zz => va_D (va_A (mdW cI a N P T U v) s.heap.size) (mdW cI a N P (sT (rc_app z ch) T (upd T z ch)) U zz)) w7).mp hD
      have hP : va_P D vwCl (mdW cI a N P (sT (rc_app z ch) T (upd T z ch)) U (us (us v 4 (sZ (rc_app z ch) z)) 5 (rc_app z ch))) H := hP
      have hD : va_D (va_A (mdW cI a N P T U v) s.heap.size) (mdW cI a N P (sT (rc_app z ch) T (upd T z ch)) U (us (us v 4 (sZ (rc_app z ch) z)) 5 (rc_app z ch))) := hD
      exact k_eMi hx hb hr hlocks hP hS (by rw [hrc]; first | done | rfl | (simp only [hcl]; first | done | rfl) | (simp only [hcl, hclp]; first | done | rfl) | (simp only [hclp]; first | done | rfl)) dX5_append_36
  · have c1 := bI_eq0 c1
    have hrc : rc_app z ch = 1 := by simp [rc_app, c1]
    refine lv_aload_n hx hb dX5_append_16 rfl (lv_at hl 0 rfl) ?_
    refine lv_iconst (v := 1) hx hb dX5_append_17 (by decide) ?_
    refine k_miV (As := [.int 1]) (rest := []) (w1 := []) (wc := mdW cI a N P T U (us v 5 0)) (wc' := mdW cI a N P T U (us v 5 1)) (w3 := []) ⟨hx, hb, hml, hown, hts⟩ (c_X5_fails l D cI cS cL a N P T U (us v 5 0) _ 1) lkX5_33 rfl rfl ⟨(Nat.le_of_ble_eq_true rfl), (Nat.le_of_ble_eq_true rfl)⟩ (va_recv hK hP (ci := 4) (q0 := 0) rfl rfl) hK hE hP hD hS hA rfl rfl hl.1 rfl (Nat.le_of_ble_eq_true rfl) dX5_append_18 ⟨Nat.zero_le _, Nat.zero_le _⟩ (fun H locs hzz hP hD hS => ?_)
    have hP : va_P D vwCl (mdW cI a N P T U (us v 5 1)) H := hP
    have hD : va_D (va_A (mdW cI a N P T U v) s.heap.size) (mdW cI a N P T U (us v 5 1)) := hD
    have w8 : T = (sT (rc_app z ch) T (upd T z ch)) := by rw [hrc]; first | done | rfl | (simp only [hcl]; first | done | rfl) | (simp only [hcl, hclp]; first | done | rfl) | (simp only [hclp]; first | done | rfl)
    have hP : va_P D vwCl (mdW cI a N P (sT (rc_app z ch) T (upd T z ch)) U (us v 5 1)) H := (congrArg (fun zz => va_P D vwCl (mdW cI a N P zz U (us v 5 1)) H) w8).mp hP
    have hD : va_D (va_A (mdW cI a N P T U v) s.heap.size) (mdW cI a N P (sT (rc_app z ch) T (upd T z ch)) U (us v 5 1)) := (congrArg (fun zz => va_D (va_A (mdW cI a N P T U v) s.heap.size) (mdW cI a N P zz U (us v 5 1))) w8).mp hD
    have w9 : (us v 5 1) = (us (us v 4 (sZ (rc_app z ch) z)) 5 (rc_app z ch)) := by rw [hrc, show sZ 1 z = v 4 from hz.symm, us_v]
    have hP : va_P D vwCl (mdW cI a N P (sT (rc_app z ch) T (upd T z ch)) U (us (us v 4 (sZ (rc_app z ch) z)) 5 (rc_app z ch))) H := (congrArg (fun zz => va_P D vwCl (mdW cI a N P (sT (rc_app z ch) T (upd T z ch)) U zz) H) w9).mp hP
    have hD : va_D (va_A (mdW cI a N P T U v) s.heap.size) (mdW cI a N P (sT (rc_app z ch) T (upd T z ch)) U (us (us v 4 (sZ (rc_app z ch) z)) 5 (rc_app z ch))) := (congrArg (fun zz => va_D (va_A (mdW cI a N P T U v) s.heap.size) (mdW cI a N P (sT (rc_app z ch) T (upd T z ch)) U zz)) w9).mp hD
    have hP : va_P D vwCl (mdW cI a N P (sT (rc_app z ch) T (upd T z ch)) U (us (us v 4 (sZ (rc_app z ch) z)) 5 (rc_app z ch))) H := hP
    have hD : va_D (va_A (mdW cI a N P T U v) s.heap.size) (mdW cI a N P (sT (rc_app z ch) T (upd T z ch)) U (us (us v 4 (sZ (rc_app z ch) z)) 5 (rc_app z ch))) := hD
    exact k_eMi hx hb hr hlocks hP hS (by rw [hrc]; first | done | rfl | (simp only [hcl]; first | done | rfl) | (simp only [hcl, hclp]; first | done | rfl) | (simp only [hclp]; first | done | rfl)) dX5_append_21
