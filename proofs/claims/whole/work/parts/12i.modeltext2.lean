abbrev rmX5_firstError : Room := { frames := 5, cells := 0, slots := 0, locals := 107 }
set_option maxHeartbeats 4000000 in
set_option maxRecDepth 100000 in
theorem c_X5_firstError (l : Launch) (D : va_G) (cI cS cL : ClassId) (a : Nat → Nat) (N : NN) (P T U v : Nat → Int32) (sz : Nat) (z : Nat) (hq4 : v 4 = nI z) (hz60 : z ≤ 60) : Met l yX5_firstError (wy_ yX5_firstError cX5_firstError 2 (some .int)) rmX5_firstError (kPc D (kTy cI cS cL) (mdW cI a N P T U v) sz [.ref (a 0)]) (kMi D (mdW cI a N P T U v) (mdW cI a N P T (m_tU T z U (m_T T z).2.2.2) (us (us (us (us v 5 0) 6 (nI (m_T T z).2.1)) 7 (bI (decide ((m_T T z).2.1 < z)))) 9 (nI (m_T T z).2.2.1))) sz (nI (p_fe T z 0))) 0 0 (va_A (mdW cI a N P T U v) sz) := by
  refine k_ofW (by decide) (Nat.le_of_ble_eq_true rfl) ?_
  intro p e s m args below meth c hx hb hr hml hts hown hlocks hnm hsz hP hK hD hE ls hl
  subst hsz
  have hA : ∀ q : Nat, s.heap.size ≤ q → (va_A (mdW cI a N P T U v) s.heap.size) q := fun q h => Or.inr h
  have hS : va_S (va_A (mdW cI a N P T U v) s.heap.size) s.heap s.heap [] := va_S.rf
  have hl : lv_has ls 2 [(0, .ref (a 0))] := hl
  refine lv_aload_n hx hb dX5_firstError_0 rfl (lv_at hl 0 rfl) ?_
  refine lv_iconst (v := 0) hx hb dX5_firstError_1 (by decide) ?_
  refine f5 hx hb hts hown hK hP hD hS 0 rfl 5 (by decide) flX5_22 (fun _ h => h) rfl rfl rfl (Nat.le_of_ble_eq_true rfl) dX5_firstError_2 (fun H locs hP hD hS => ?_)
  have hP : va_P D vwCl (mdW cI a N P T U (us v 5 0)) H := hP
  have hD : va_D (va_A (mdW cI a N P T U v) s.heap.size) (mdW cI a N P T U (us v 5 0)) := hD
  refine lv_aload_n hx hb dX5_firstError_5 rfl (lv_at hl 0 rfl) ?_
  refine k_miV (As := []) (rest := []) (w1 := []) (wc := mdW cI a N P T U (us v 5 0)) (wc' := mdW cI a N P T (m_tU T z U (m_T T z).2.2.2) (us (us (us (us v 5 0) 6 (nI (m_T T z).2.1)) 7 (bI (decide ((m_T T z).2.1 < z)))) 9 (nI (m_T T z).2.2.1))) (w3 := []) ⟨hx, hb, hml, hown, hts⟩ (c_X5_isText l D cI cS cL a N P T U (us v 5 0) _ z hq4 (by omega)) lkX5_131 rfl rfl ⟨(Nat.le_of_ble_eq_true rfl), (Nat.le_of_ble_eq_true rfl)⟩ (va_recv hK hP (ci := 4) (q0 := 0) rfl rfl) hK hE hP hD hS hA rfl rfl hl.1 rfl (Nat.le_of_ble_eq_true rfl) dX5_firstError_6 ⟨Nat.zero_le _, Nat.zero_le _⟩ (fun H locs hzz hP hD hS => ?_)
  have hP : va_P D vwCl (mdW cI a N P T (m_tU T z U (m_T T z).2.2.2) (us (us (us (us v 5 0) 6 (nI (m_T T z).2.1)) 7 (bI (decide ((m_T T z).2.1 < z)))) 9 (nI (m_T T z).2.2.1))) H := hP
  have hD : va_D (va_A (mdW cI a N P T U v) s.heap.size) (mdW cI a N P T (m_tU T z U (m_T T z).2.2.2) (us (us (us (us v 5 0) 6 (nI (m_T T z).2.1)) 7 (bI (decide ((m_T T z).2.1 < z)))) 9 (nI (m_T T z).2.2.1))) := hD
  refine lv_istore_n (lv' := [(1, .int (bI ((m_T T z).1))), (0, .ref (a 0))]) hx hb dX5_firstError_9 rfl hl (by decide) rfl (fun ls hl => ?_)
  refine lv_iload_n hx hb dX5_firstError_10 rfl (lv_at hl 0 rfl) ?_
  refine lv_if_ne (tgt := 28) hx hb dX5_firstError_11 (by decide) (fun c1 => ?_) (fun c1 => ?_)
  · have c1 := bI_neT c1
    have his := c1
    refine lv_aload_n hx hb dX5_firstError_28 rfl (lv_at hl 1 rfl) ?_
    refine g5 hx hb hts hown hK hP 0 rfl 4 (by decide) flX5_105 (fun _ h => h) (v := .int (nI z)) (by rw [← hq4]; rfl) dX5_firstError_29 ?_
    have hP : va_P D vwCl (mdW cI a N P T (m_tU T z U (m_T T z).2.2.2) (us (us (us (us v 5 0) 6 (nI (m_T T z).2.1)) 7 (bI (decide ((m_T T z).2.1 < z)))) 9 (nI (m_T T z).2.2.1))) H := hP
    have hD : va_D (va_A (mdW cI a N P T U v) s.heap.size) (mdW cI a N P T (m_tU T z U (m_T T z).2.2.2) (us (us (us (us v 5 0) 6 (nI (m_T T z).2.1)) 7 (bI (decide ((m_T T z).2.1 < z)))) 9 (nI (m_T T z).2.2.1))) := hD
    exact k_eMi hx hb hr hlocks hP hS (by rw [tT_fe T hz60]; exact congrArg nI ((tT T hz60).2.2.2.1.mp his).1.symm) dX5_firstError_32
  · have c1 := bI_eqF c1
    refine lv_aload_n hx hb dX5_firstError_14 rfl (lv_at hl 1 rfl) ?_
    refine g5 hx hb hts hown hK hP 0 rfl 7 (by decide) flX5_111 (fun _ h => h) (v := .int (bI (decide ((m_T T z).2.1 < z)))) rfl dX5_firstError_15 ?_
    refine lv_if_eq (tgt := 28) hx hb dX5_firstError_18 (by decide) (fun c2 => ?_) (fun c2 => ?_)
    · have c2 := bI_eq0 c2
      have hnf := c2
      refine lv_aload_n hx hb dX5_firstError_28 rfl (lv_at hl 1 rfl) ?_
      refine g5 hx hb hts hown hK hP 0 rfl 4 (by decide) flX5_105 (fun _ h => h) (v := .int (nI z)) (by rw [← hq4]; rfl) dX5_firstError_29 ?_
      have hP : va_P D vwCl (mdW cI a N P T (m_tU T z U (m_T T z).2.2.2) (us (us (us (us v 5 0) 6 (nI (m_T T z).2.1)) 7 (bI (decide ((m_T T z).2.1 < z)))) 9 (nI (m_T T z).2.2.1))) H := hP
      have hD : va_D (va_A (mdW cI a N P T U v) s.heap.size) (mdW cI a N P T (m_tU T z U (m_T T z).2.2.2) (us (us (us (us v 5 0) 6 (nI (m_T T z).2.1)) 7 (bI (decide ((m_T T z).2.1 < z)))) 9 (nI (m_T T z).2.2.1))) := hD
      exact k_eMi hx hb hr hlocks hP hS (by rw [tT_fe T hz60]; exact congrArg nI (by have := (tT T hz60).1; omega)) dX5_firstError_32
    · have c2 := bI_ne0 c2
      refine lv_aload_n hx hb dX5_firstError_21 rfl (lv_at hl 1 rfl) ?_
      refine g5 hx hb hts hown hK hP 0 rfl 6 (by decide) flX5_108 (fun _ h => h) (v := .int (nI (m_T T z).2.1)) rfl dX5_firstError_22 ?_
      refine lv_goto (tgt := 32) hx hb dX5_firstError_25 (by decide) ?_
      have hP : va_P D vwCl (mdW cI a N P T (m_tU T z U (m_T T z).2.2.2) (us (us (us (us v 5 0) 6 (nI (m_T T z).2.1)) 7 (bI (decide ((m_T T z).2.1 < z)))) 9 (nI (m_T T z).2.2.1))) H := hP
      have hD : va_D (va_A (mdW cI a N P T U v) s.heap.size) (mdW cI a N P T (m_tU T z U (m_T T z).2.2.2) (us (us (us (us v 5 0) 6 (nI (m_T T z).2.1)) 7 (bI (decide ((m_T T z).2.1 < z)))) 9 (nI (m_T T z).2.2.1))) := hD
      exact k_eMi hx hb hr hlocks hP hS (by rw [tT_fe T hz60]) dX5_firstError_32

abbrev rmX5_buyAll : Room := { frames := 5, cells := 0, slots := 0, locals := 107 }
set_option maxHeartbeats 4000000 in
set_option maxRecDepth 100000 in
theorem c_X5_buyAll (l : Launch) (D : va_G) (cI cS cL : ClassId) (a : Nat → Nat) (N : NN) (P T U v : Nat → Int32) (sz : Nat) (n kc : Nat) (z : Nat) (hn : N 1 2 = nI n) (hn14 : n ≤ 14) (hc : v 2 = nI kc) (hc6 : kc ≤ 6) (hq4 : v 4 = nI z) (hz60 : z ≤ 60) : Met l yX5_buyAll (wy_ yX5_buyAll cX5_buyAll 2 (some .int)) rmX5_buyAll (kPc D (kTy cI cS cL) (mdW cI a N P T U v) sz [.ref (a 0)]) (kMi D (mdW cI a N P T U v) (mdW cI a (sN (rc_all T z) N ((p_bp T N z).2.2.2.2)) (sP (rc_all T z) P (flat N) kc) T (m_tU T z U (m_T T z).2.2.2) (us (us (us (us (us (us v 2 (sK (rc_all T z) kc)) 4 (sJ (rc_all T z) 0 (v 4))) 5 (rc_all T z)) 6 (nI (m_T T z).2.1)) 7 (bI (decide ((m_T T z).2.1 < z)))) 9 (nI (m_T T z).2.2.1))) sz (sR (rc_all T z) ((p_bp T N z).2.1))) 0 0 (va_A (mdW cI a N P T U v) sz) := by
  refine k_ofW (by decide) (Nat.le_of_ble_eq_true rfl) ?_
  intro p e s m args below meth c hx hb hr hml hts hown hlocks hnm hsz hP hK hD hE ls hl
  subst hsz
  have hA : ∀ q : Nat, s.heap.size ≤ q → (va_A (mdW cI a N P T U v) s.heap.size) q := fun q h => Or.inr h
  have hS : va_S (va_A (mdW cI a N P T U v) s.heap.size) s.heap s.heap [] := va_S.rf
  have hl : lv_has ls 2 [(0, .ref (a 0))] := hl
  refine lv_aload_n hx hb dX5_buyAll_0 rfl (lv_at hl 0 rfl) ?_
  refine lv_iconst (v := 0) hx hb dX5_buyAll_1 (by decide) ?_
  refine f5 hx hb hts hown hK hP hD hS 0 rfl 5 (by decide) flX5_22 (fun _ h => h) rfl rfl rfl (Nat.le_of_ble_eq_true rfl) dX5_buyAll_2 (fun H locs hP hD hS => ?_)
  have hP : va_P D vwCl (mdW cI a N P T U (us v 5 0)) H := hP
  have hD : va_D (va_A (mdW cI a N P T U v) s.heap.size) (mdW cI a N P T U (us v 5 0)) := hD
  refine lv_aload_n hx hb dX5_buyAll_5 rfl (lv_at hl 0 rfl) ?_
  refine k_miV (As := []) (rest := []) (w1 := []) (wc := mdW cI a N P T U (us v 5 0)) (wc' := mdW cI a N P T (m_tU T z U (m_T T z).2.2.2) (us (us (us (us v 5 0) 6 (nI (m_T T z).2.1)) 7 (bI (decide ((m_T T z).2.1 < z)))) 9 (nI (m_T T z).2.2.1))) (w3 := []) ⟨hx, hb, hml, hown, hts⟩ (c_X5_isText l D cI cS cL a N P T U (us v 5 0) _ z hq4 (by omega)) lkX5_131 rfl rfl ⟨(Nat.le_of_ble_eq_true rfl), (Nat.le_of_ble_eq_true rfl)⟩ (va_recv hK hP (ci := 4) (q0 := 0) rfl rfl) hK hE hP hD hS hA rfl rfl hl.1 rfl (Nat.le_of_ble_eq_true rfl) dX5_buyAll_6 ⟨Nat.zero_le _, Nat.zero_le _⟩ (fun H locs hzz hP hD hS => ?_)
  have hP : va_P D vwCl (mdW cI a N P T (m_tU T z U (m_T T z).2.2.2) (us (us (us (us v 5 0) 6 (nI (m_T T z).2.1)) 7 (bI (decide ((m_T T z).2.1 < z)))) 9 (nI (m_T T z).2.2.1))) H := hP
  have hD : va_D (va_A (mdW cI a N P T U v) s.heap.size) (mdW cI a N P T (m_tU T z U (m_T T z).2.2.2) (us (us (us (us v 5 0) 6 (nI (m_T T z).2.1)) 7 (bI (decide ((m_T T z).2.1 < z)))) 9 (nI (m_T T z).2.2.1))) := hD
  refine lv_if_ne (tgt := 18) hx hb dX5_buyAll_9 (by decide) (fun c1 => ?_) (fun c1 => ?_)
  · have c1 := bI_neT c1
    have his := c1
    have h5 : p_au T z = 5 := by have h := tT_ok T hz60; rw [his] at h; exact of_decide_eq_true h.symm
    have hR := (tT T hz60).2.2.2.2 his
    have hUK := hR.2.1
    have hK15 := hR.2.2.1
    have hrc : rc_all T z = 0 := by simp [rc_all, his, h5]
    refine lv_aload_n hx hb dX5_buyAll_18 rfl (lv_at hl 0 rfl) ?_
    refine k_mvV (As := []) (rest := []) (w1 := []) (wc := mdW cI a N P T (m_tU T z U (m_T T z).2.2.2) (us (us (us (us v 5 0) 6 (nI (m_T T z).2.1)) 7 (bI (decide ((m_T T z).2.1 < z)))) 9 (nI (m_T T z).2.2.1))) (wc' := mdW cI a N (m_sv P (flat N) kc) T (m_tU T z U (m_T T z).2.2.2) (us (us (us (us (us v 2 (nI (m_kc kc))) 5 0) 6 (nI (m_T T z).2.1)) 7 (bI (decide ((m_T T z).2.1 < z)))) 9 (nI (m_T T z).2.2.1))) (w3 := []) ⟨hx, hb, hml, hown, hts⟩ (c_X5_saves l D cI cS cL a N P T (m_tU T z U (m_T T z).2.2.2) (us (us (us (us v 5 0) 6 (nI (m_T T z).2.1)) 7 (bI (decide ((m_T T z).2.1 < z)))) 9 (nI (m_T T z).2.2.1)) _ kc hc (by omega)) lkX5_77 rfl rfl ⟨(Nat.le_of_ble_eq_true rfl), (Nat.le_of_ble_eq_true rfl)⟩ (va_recv hK hP (ci := 4) (q0 := 0) rfl rfl) hK hE hP hD hS hA rfl rfl hl.1 rfl (Nat.le_of_ble_eq_true rfl) dX5_buyAll_19 ⟨Nat.zero_le _, Nat.zero_le _⟩ (fun H locs hzz hP hD hS => ?_)
    have hP : va_P D vwCl (mdW cI a N (m_sv P (flat N) kc) T (m_tU T z U (m_T T z).2.2.2) (us (us (us (us (us v 2 (nI (m_kc kc))) 5 0) 6 (nI (m_T T z).2.1)) 7 (bI (decide ((m_T T z).2.1 < z)))) 9 (nI (m_T T z).2.2.1))) H := hP
    have hD : va_D (va_A (mdW cI a N P T U v) s.heap.size) (mdW cI a N (m_sv P (flat N) kc) T (m_tU T z U (m_T T z).2.2.2) (us (us (us (us (us v 2 (nI (m_kc kc))) 5 0) 6 (nI (m_T T z).2.1)) 7 (bI (decide ((m_T T z).2.1 < z)))) 9 (nI (m_T T z).2.2.1))) := hD
    refine lv_aload_n hx hb dX5_buyAll_22 rfl (lv_at hl 0 rfl) ?_
    refine lv_iconst (v := 0) hx hb dX5_buyAll_23 (by decide) ?_
    refine f5 hx hb hts hown hK hP hD hS 0 rfl 4 (by decide) flX5_105 (fun _ h => h) rfl rfl rfl (Nat.le_of_ble_eq_true rfl) dX5_buyAll_24 (fun H locs hP hD hS => ?_)
    have hP : va_P D vwCl (mdW cI a N (m_sv P (flat N) kc) T (m_tU T z U (m_T T z).2.2.2) (us (us (us (us (us (us v 2 (nI (m_kc kc))) 4 0) 5 0) 6 (nI (m_T T z).2.1)) 7 (bI (decide ((m_T T z).2.1 < z)))) 9 (nI (m_T T z).2.2.1))) H := hP
    have hD : va_D (va_A (mdW cI a N P T U v) s.heap.size) (mdW cI a N (m_sv P (flat N) kc) T (m_tU T z U (m_T T z).2.2.2) (us (us (us (us (us (us v 2 (nI (m_kc kc))) 4 0) 5 0) 6 (nI (m_T T z).2.1)) 7 (bI (decide ((m_T T z).2.1 < z)))) 9 (nI (m_T T z).2.2.1))) := hD
    refine lv_iconst (v := 0) hx hb dX5_buyAll_27 (by decide) ?_
    refine lv_istore_n (lv' := [(1, .int 0), (0, .ref (a 0))]) hx hb dX5_buyAll_28 rfl hl (by decide) rfl (fun ls hl => ?_)
    have L2 : ∀ (f k : Nat), k ≤ (m_T T z).2.2.1 → (m_T T z).2.2.1 - k < f → (hB : m_bI T z N n k) → ∀ (H : Heap) (locs : List Loc), va_P D vwCl (mdW cI a (m_bN T z N k) (m_sv P (flat N) kc) T (m_tU T z U (m_T T z).2.2.2) (us (us (us (us (us (us v 2 (nI (m_kc kc))) 4 0) 5 0) 6 (nI (m_T T z).2.1)) 7 (bI (decide ((m_T T z).2.1 < z)))) 9 (nI (m_T T z).2.2.1))) H → va_D (va_A (mdW cI a N P T U v) s.heap.size) (mdW cI a (m_bN T z N k) (m_sv P (flat N) kc) T (m_tU T z U (m_T T z).2.2.2) (us (us (us (us (us (us v 2 (nI (m_kc kc))) 4 0) 5 0) 6 (nI (m_T T z).2.1)) 7 (bI (decide ((m_T T z).2.1 < z)))) 9 (nI (m_T T z).2.2.1))) → va_S (va_A (mdW cI a N P T U v) s.heap.size) s.heap H locs → s.heap.size ≤ H.size → ∀ ls : Array Slot, lv_has ls 2 [(0, .ref (a 0)), (1, .int (nI k))] → W p l e rmX5_buyAll s m args below meth c H locs 0 0 (MQ below (kMi D (mdW cI a N P T U v) (mdW cI a (sN (rc_all T z) N ((p_bp T N z).2.2.2.2)) (sP (rc_all T z) P (flat N) kc) T (m_tU T z U (m_T T z).2.2.2) (us (us (us (us (us (us v 2 (sK (rc_all T z) kc)) 4 (sJ (rc_all T z) 0 (v 4))) 5 (rc_all T z)) 6 (nI (m_T T z).2.1)) 7 (bI (decide ((m_T T z).2.1 < z)))) 9 (nI (m_T T z).2.2.1))) s.heap.size (sR (rc_all T z) ((p_bp T N z).2.1))) args s 0 0 (va_A (mdW cI a N P T U v) s.heap.size)) (F0 m 29 ls []) := by
      intro f
      induction f with
      | zero => intro k hv1 hv2; exact absurd hv2 (Nat.not_lt_zero _)
      | succ f ih =>
        intro k hv1 hv2 hB H locs hP hD hS hz ls hl
        refine lv_iload_n hx hb dX5_buyAll_29 rfl (lv_at hl 1 rfl) ?_
        refine lv_aload_n hx hb dX5_buyAll_30 rfl (lv_at hl 0 rfl) ?_
        refine g5 hx hb hts hown hK hP 0 rfl 9 (by decide) flX5_122 (fun _ h => h) (v := .int (nI (m_T T z).2.2.1)) rfl dX5_buyAll_31 ?_
        refine lv_icmp_ge (tgt := 102) hx hb dX5_buyAll_34 (by decide) (fun c3 => ?_) (fun c3 => ?_)
        · have c3' := Int32.not_lt.mpr c3
          have hkn : (m_T T z).2.2.1 = k := (k_exit (by omega) hv1 c3).symm
          have hE := m_bE1 hB (by rw [← hkn, ← hR.1]; exact ((tT T hz60).2.2.2.1.mp his).1)
          refine lv_iload_n hx hb dX5_buyAll_102 rfl (lv_at hl 1 rfl) ?_
          have w4 : (m_bN T z N k) = (sN (rc_all T z) N ((p_bp T N z).2.2.2.2)) := by rw [hrc]; exact hE.2.symm
          have hP : va_P D vwCl (mdW cI a (sN (rc_all T z) N ((p_bp T N z).2.2.2.2)) (m_sv P (flat N) kc) T (m_tU T z U (m_T T z).2.2.2) (us (us (us (us (us (us v 2 (nI (m_kc kc))) 4 0) 5 0) 6 (nI (m_T T z).2.1)) 7 (bI (decide ((m_T T z).2.1 < z)))) 9 (nI (m_T T z).2.2.1))) H := (congrArg (fun zz => va_P D vwCl (mdW cI a zz (m_sv P (flat N) kc) T (m_tU T z U (m_T T z).2.2.2) (us (us (us (us (us (us v 2 (nI (m_kc kc))) 4 0) 5 0) 6 (nI (m_T T z).2.1)) 7 (bI (decide ((m_T T z).2.1 < z)))) 9 (nI (m_T T z).2.2.1))) H) w4).mp hP
          have hD : va_D (va_A (mdW cI a N P T U v) s.heap.size) (mdW cI a (sN (rc_all T z) N ((p_bp T N z).2.2.2.2)) (m_sv P (flat N) kc) T (m_tU T z U (m_T T z).2.2.2) (us (us (us (us (us (us v 2 (nI (m_kc kc))) 4 0) 5 0) 6 (nI (m_T T z).2.1)) 7 (bI (decide ((m_T T z).2.1 < z)))) 9 (nI (m_T T z).2.2.1))) := (congrArg (fun zz => va_D (va_A (mdW cI a N P T U v) s.heap.size) (mdW cI a zz (m_sv P (flat N) kc) T (m_tU T z U (m_T T z).2.2.2) (us (us (us (us (us (us v 2 (nI (m_kc kc))) 4 0) 5 0) 6 (nI (m_T T z).2.1)) 7 (bI (decide ((m_T T z).2.1 < z)))) 9 (nI (m_T T z).2.2.1)))) w4).mp hD
          have w5 : (m_sv P (flat N) kc) = (sP (rc_all T z) P (flat N) kc) := by rw [hrc]; first | done | rfl | (simp only [hcl]; first | done | rfl) | (simp only [hcl, hclp]; first | done | rfl) | (simp only [hclp]; first | done | rfl)
          have hP : va_P D vwCl (mdW cI a (sN (rc_all T z) N ((p_bp T N z).2.2.2.2)) (sP (rc_all T z) P (flat N) kc) T (m_tU T z U (m_T T z).2.2.2) (us (us (us (us (us (us v 2 (nI (m_kc kc))) 4 0) 5 0) 6 (nI (m_T T z).2.1)) 7 (bI (decide ((m_T T z).2.1 < z)))) 9 (nI (m_T T z).2.2.1))) H := (congrArg (fun zz => va_P D vwCl (mdW cI a (sN (rc_all T z) N ((p_bp T N z).2.2.2.2)) zz T (m_tU T z U (m_T T z).2.2.2) (us (us (us (us (us (us v 2 (nI (m_kc kc))) 4 0) 5 0) 6 (nI (m_T T z).2.1)) 7 (bI (decide ((m_T T z).2.1 < z)))) 9 (nI (m_T T z).2.2.1))) H) w5).mp hP
          have hD : va_D (va_A (mdW cI a N P T U v) s.heap.size) (mdW cI a (sN (rc_all T z) N ((p_bp T N z).2.2.2.2)) (sP (rc_all T z) P (flat N) kc) T (m_tU T z U (m_T T z).2.2.2) (us (us (us (us (us (us v 2 (nI (m_kc kc))) 4 0) 5 0) 6 (nI (m_T T z).2.1)) 7 (bI (decide ((m_T T z).2.1 < z)))) 9 (nI (m_T T z).2.2.1))) := (congrArg (fun zz => va_D (va_A (mdW cI a N P T U v) s.heap.size) (mdW cI a (sN (rc_all T z) N ((p_bp T N z).2.2.2.2)) zz T (m_tU T z U (m_T T z).2.2.2) (us (us (us (us (us (us v 2 (nI (m_kc kc))) 4 0) 5 0) 6 (nI (m_T T z).2.1)) 7 (bI (decide ((m_T T z).2.1 < z)))) 9 (nI (m_T T z).2.2.1)))) w5).mp hD
          have w6 : (us (us (us (us (us (us v 2 (nI (m_kc kc))) 4 0) 5 0) 6 (nI (m_T T z).2.1)) 7 (bI (decide ((m_T T z).2.1 < z)))) 9 (nI (m_T T z).2.2.1)) = (us (us (us (us (us (us v 2 (sK (rc_all T z) kc)) 4 (sJ (rc_all T z) 0 (v 4))) 5 (rc_all T z)) 6 (nI (m_T T z).2.1)) 7 (bI (decide ((m_T T z).2.1 < z)))) 9 (nI (m_T T z).2.2.1)) := by rw [hrc]; first | done | rfl | (simp only [hcl]; first | done | rfl) | (simp only [hcl, hclp]; first | done | rfl) | (simp only [hclp]; first | done | rfl)
          have hP : va_P D vwCl (mdW cI a (sN (rc_all T z) N ((p_bp T N z).2.2.2.2)) (sP (rc_all T z) P (flat N) kc) T (m_tU T z U (m_T T z).2.2.2) (us (us (us (us (us (us v 2 (sK (rc_all T z) kc)) 4 (sJ (rc_all T z) 0 (v 4))) 5 (rc_all T z)) 6 (nI (m_T T z).2.1)) 7 (bI (decide ((m_T T z).2.1 < z)))) 9 (nI (m_T T z).2.2.1))) H := (congrArg (fun zz => va_P D vwCl (mdW cI a (sN (rc_all T z) N ((p_bp T N z).2.2.2.2)) (sP (rc_all T z) P (flat N) kc) T (m_tU T z U (m_T T z).2.2.2) zz) H) w6).mp hP
          have hD : va_D (va_A (mdW cI a N P T U v) s.heap.size) (mdW cI a (sN (rc_all T z) N ((p_bp T N z).2.2.2.2)) (sP (rc_all T z) P (flat N) kc) T (m_tU T z U (m_T T z).2.2.2) (us (us (us (us (us (us v 2 (sK (rc_all T z) kc)) 4 (sJ (rc_all T z) 0 (v 4))) 5 (rc_all T z)) 6 (nI (m_T T z).2.1)) 7 (bI (decide ((m_T T z).2.1 < z)))) 9 (nI (m_T T z).2.2.1))) := (congrArg (fun zz => va_D (va_A (mdW cI a N P T U v) s.heap.size) (mdW cI a (sN (rc_all T z) N ((p_bp T N z).2.2.2.2)) (sP (rc_all T z) P (flat N) kc) T (m_tU T z U (m_T T z).2.2.2) zz)) w6).mp hD
          have hP : va_P D vwCl (mdW cI a (sN (rc_all T z) N ((p_bp T N z).2.2.2.2)) (sP (rc_all T z) P (flat N) kc) T (m_tU T z U (m_T T z).2.2.2) (us (us (us (us (us (us v 2 (sK (rc_all T z) kc)) 4 (sJ (rc_all T z) 0 (v 4))) 5 (rc_all T z)) 6 (nI (m_T T z).2.1)) 7 (bI (decide ((m_T T z).2.1 < z)))) 9 (nI (m_T T z).2.2.1))) H := hP
          have hD : va_D (va_A (mdW cI a N P T U v) s.heap.size) (mdW cI a (sN (rc_all T z) N ((p_bp T N z).2.2.2.2)) (sP (rc_all T z) P (flat N) kc) T (m_tU T z U (m_T T z).2.2.2) (us (us (us (us (us (us v 2 (sK (rc_all T z) kc)) 4 (sJ (rc_all T z) 0 (v 4))) 5 (rc_all T z)) 6 (nI (m_T T z).2.1)) 7 (bI (decide ((m_T T z).2.1 < z)))) 9 (nI (m_T T z).2.2.1))) := hD
          exact k_eMi hx hb hr hlocks hP hS (by rw [hrc]; exact hE.1.symm) dX5_buyAll_103
        · have c3' := Int32.not_le.mp c3
          have hkK : k < (m_T T z).2.2.1 := k_more (by omega) hv1 c3
          have hpk := (hR.2.2.2.2 k hkK).2
          have hkk := (pk_parts hpk).1
          refine lv_aload_n hx hb dX5_buyAll_37 rfl (lv_at hl 0 rfl) ?_
          refine lv_aload_n hx hb dX5_buyAll_38 rfl (lv_at hl 0 rfl) ?_
          refine g5 hx hb hts hown hK hP 0 rfl 8 (by decide) flX5_19 (fun _ h => h) (v := .ref (a 4)) rfl dX5_buyAll_39 ?_
          refine lv_iconst (v := 3) hx hb dX5_buyAll_42 (by decide) ?_
          refine lv_iload_n hx hb dX5_buyAll_43 rfl (lv_at hl 1 rfl) ?_
          refine lv_imul hx hb dX5_buyAll_44 (lv_topi (fun x7 e7 => ?_))
          have q7 : x7 = nI (3 * k) := by rw [e7]; exact pk_mul 3 k
          subst q7
          refine k_ald (k := 3 * k) hx hb hK hP 4 0 rfl rfl rfl (by omega) (by decide) dX5_buyAll_45 ?_
          rw [show (m_tU T z U (m_T T z).2.2.2) (3 * k) = p_kd (T (m_tp T z k)) from told_0 hUK hkK hpk]
          refine lv_aload_n hx hb dX5_buyAll_46 rfl (lv_at hl 0 rfl) ?_
          refine g5 hx hb hts hown hK hP 0 rfl 8 (by decide) flX5_19 (fun _ h => h) (v := .ref (a 4)) rfl dX5_buyAll_47 ?_
          refine lv_iconst (v := 3) hx hb dX5_buyAll_50 (by decide) ?_
          refine lv_iload_n hx hb dX5_buyAll_51 rfl (lv_at hl 1 rfl) ?_
          refine lv_imul hx hb dX5_buyAll_52 (lv_topi (fun x8 e8 => ?_))
          have q8 : x8 = nI (3 * k) := by rw [e8]; exact pk_mul 3 k
          subst q8
          refine lv_iconst (v := 1) hx hb dX5_buyAll_53 (by decide) ?_
          refine lv_iadd hx hb dX5_buyAll_54 (lv_topi (fun x9 e9 => ?_))
          have q9 : x9 = nI (3 * k + 1) := by rw [e9]; exact nI_add (3 * k) 1
          subst q9
          refine k_ald (k := 3 * k + 1) hx hb hK hP 4 0 rfl rfl rfl (by omega) (by decide) dX5_buyAll_55 ?_
          rw [show (m_tU T z U (m_T T z).2.2.2) (3 * k + 1) = m_lv T z (m_tp T z k + 1) from told_1 hUK hkK hpk]
          refine k_riV (As := [.int (p_kd (T (m_tp T z k))), .int (m_lv T z (m_tp T z k + 1))]) (rest := []) (wc := mdW cI a (m_bN T z N k) (m_sv P (flat N) kc) T (m_tU T z U (m_T T z).2.2.2) (us (us (us (us (us (us v 2 (nI (m_kc kc))) 4 0) 5 0) 6 (nI (m_T T z).2.1)) 7 (bI (decide ((m_T T z).2.1 < z)))) 9 (nI (m_T T z).2.2.1))) ⟨hx, hb, hml, hown, hts⟩ (c_X5_mayBuy l D cI cS cL a (m_bN T z N k) (m_sv P (flat N) kc) T (m_tU T z U (m_T T z).2.2.2) (us (us (us (us (us (us v 2 (nI (m_kc kc))) 4 0) 5 0) 6 (nI (m_T T z).2.1)) 7 (bI (decide ((m_T T z).2.1 < z)))) 9 (nI (m_T T z).2.2.1)) _ (p_kd (T (m_tp T z k))) (m_lv T z (m_tp T z k + 1)) (ks_kd hkk).2) lkX5_73 rfl rfl ⟨(Nat.le_of_ble_eq_true rfl), (Nat.le_of_ble_eq_true rfl)⟩ (va_recv hK hP (ci := 4) (q0 := 0) rfl rfl) hK hE hP hD rfl hl.1 rfl (Nat.le_of_ble_eq_true rfl) dX5_buyAll_56 ⟨Nat.zero_le _, Nat.zero_le _⟩ ?_
          refine lv_if_eq (tgt := 102) hx hb dX5_buyAll_59 (by decide) (fun c10 => ?_) (fun c10 => ?_)
          · have c10 := bI_eqF c10
            have hcan := c10
            have hE := m_bE2 hB hpk hcan
            refine lv_iload_n hx hb dX5_buyAll_102 rfl (lv_at hl 1 rfl) ?_
            have w11 : (m_bN T z N k) = (sN (rc_all T z) N ((p_bp T N z).2.2.2.2)) := by rw [hrc]; exact hE.2.symm
            have hP : va_P D vwCl (mdW cI a (sN (rc_all T z) N ((p_bp T N z).2.2.2.2)) (m_sv P (flat N) kc) T (m_tU T z U (m_T T z).2.2.2) (us (us (us (us (us (us v 2 (nI (m_kc kc))) 4 0) 5 0) 6 (nI (m_T T z).2.1)) 7 (bI (decide ((m_T T z).2.1 < z)))) 9 (nI (m_T T z).2.2.1))) H := (congrArg (fun zz => va_P D vwCl (mdW cI a zz (m_sv P (flat N) kc) T (m_tU T z U (m_T T z).2.2.2) (us (us (us (us (us (us v 2 (nI (m_kc kc))) 4 0) 5 0) 6 (nI (m_T T z).2.1)) 7 (bI (decide ((m_T T z).2.1 < z)))) 9 (nI (m_T T z).2.2.1))) H) w11).mp hP
            have hD : va_D (va_A (mdW cI a N P T U v) s.heap.size) (mdW cI a (sN (rc_all T z) N ((p_bp T N z).2.2.2.2)) (m_sv P (flat N) kc) T (m_tU T z U (m_T T z).2.2.2) (us (us (us (us (us (us v 2 (nI (m_kc kc))) 4 0) 5 0) 6 (nI (m_T T z).2.1)) 7 (bI (decide ((m_T T z).2.1 < z)))) 9 (nI (m_T T z).2.2.1))) := (congrArg (fun zz => va_D (va_A (mdW cI a N P T U v) s.heap.size) (mdW cI a zz (m_sv P (flat N) kc) T (m_tU T z U (m_T T z).2.2.2) (us (us (us (us (us (us v 2 (nI (m_kc kc))) 4 0) 5 0) 6 (nI (m_T T z).2.1)) 7 (bI (decide ((m_T T z).2.1 < z)))) 9 (nI (m_T T z).2.2.1)))) w11).mp hD
            have w12 : (m_sv P (flat N) kc) = (sP (rc_all T z) P (flat N) kc) := by rw [hrc]; first | done | rfl | (simp only [hcl]; first | done | rfl) | (simp only [hcl, hclp]; first | done | rfl) | (simp only [hclp]; first | done | rfl)
            have hP : va_P D vwCl (mdW cI a (sN (rc_all T z) N ((p_bp T N z).2.2.2.2)) (sP (rc_all T z) P (flat N) kc) T (m_tU T z U (m_T T z).2.2.2) (us (us (us (us (us (us v 2 (nI (m_kc kc))) 4 0) 5 0) 6 (nI (m_T T z).2.1)) 7 (bI (decide ((m_T T z).2.1 < z)))) 9 (nI (m_T T z).2.2.1))) H := (congrArg (fun zz => va_P D vwCl (mdW cI a (sN (rc_all T z) N ((p_bp T N z).2.2.2.2)) zz T (m_tU T z U (m_T T z).2.2.2) (us (us (us (us (us (us v 2 (nI (m_kc kc))) 4 0) 5 0) 6 (nI (m_T T z).2.1)) 7 (bI (decide ((m_T T z).2.1 < z)))) 9 (nI (m_T T z).2.2.1))) H) w12).mp hP
            have hD : va_D (va_A (mdW cI a N P T U v) s.heap.size) (mdW cI a (sN (rc_all T z) N ((p_bp T N z).2.2.2.2)) (sP (rc_all T z) P (flat N) kc) T (m_tU T z U (m_T T z).2.2.2) (us (us (us (us (us (us v 2 (nI (m_kc kc))) 4 0) 5 0) 6 (nI (m_T T z).2.1)) 7 (bI (decide ((m_T T z).2.1 < z)))) 9 (nI (m_T T z).2.2.1))) := (congrArg (fun zz => va_D (va_A (mdW cI a N P T U v) s.heap.size) (mdW cI a (sN (rc_all T z) N ((p_bp T N z).2.2.2.2)) zz T (m_tU T z U (m_T T z).2.2.2) (us (us (us (us (us (us v 2 (nI (m_kc kc))) 4 0) 5 0) 6 (nI (m_T T z).2.1)) 7 (bI (decide ((m_T T z).2.1 < z)))) 9 (nI (m_T T z).2.2.1)))) w12).mp hD
            have w13 : (us (us (us (us (us (us v 2 (nI (m_kc kc))) 4 0) 5 0) 6 (nI (m_T T z).2.1)) 7 (bI (decide ((m_T T z).2.1 < z)))) 9 (nI (m_T T z).2.2.1)) = (us (us (us (us (us (us v 2 (sK (rc_all T z) kc)) 4 (sJ (rc_all T z) 0 (v 4))) 5 (rc_all T z)) 6 (nI (m_T T z).2.1)) 7 (bI (decide ((m_T T z).2.1 < z)))) 9 (nI (m_T T z).2.2.1)) := by rw [hrc]; first | done | rfl | (simp only [hcl]; first | done | rfl) | (simp only [hcl, hclp]; first | done | rfl) | (simp only [hclp]; first | done | rfl)
            have hP : va_P D vwCl (mdW cI a (sN (rc_all T z) N ((p_bp T N z).2.2.2.2)) (sP (rc_all T z) P (flat N) kc) T (m_tU T z U (m_T T z).2.2.2) (us (us (us (us (us (us v 2 (sK (rc_all T z) kc)) 4 (sJ (rc_all T z) 0 (v 4))) 5 (rc_all T z)) 6 (nI (m_T T z).2.1)) 7 (bI (decide ((m_T T z).2.1 < z)))) 9 (nI (m_T T z).2.2.1))) H := (congrArg (fun zz => va_P D vwCl (mdW cI a (sN (rc_all T z) N ((p_bp T N z).2.2.2.2)) (sP (rc_all T z) P (flat N) kc) T (m_tU T z U (m_T T z).2.2.2) zz) H) w13).mp hP
            have hD : va_D (va_A (mdW cI a N P T U v) s.heap.size) (mdW cI a (sN (rc_all T z) N ((p_bp T N z).2.2.2.2)) (sP (rc_all T z) P (flat N) kc) T (m_tU T z U (m_T T z).2.2.2) (us (us (us (us (us (us v 2 (sK (rc_all T z) kc)) 4 (sJ (rc_all T z) 0 (v 4))) 5 (rc_all T z)) 6 (nI (m_T T z).2.1)) 7 (bI (decide ((m_T T z).2.1 < z)))) 9 (nI (m_T T z).2.2.1))) := (congrArg (fun zz => va_D (va_A (mdW cI a N P T U v) s.heap.size) (mdW cI a (sN (rc_all T z) N ((p_bp T N z).2.2.2.2)) (sP (rc_all T z) P (flat N) kc) T (m_tU T z U (m_T T z).2.2.2) zz)) w13).mp hD
            have hP : va_P D vwCl (mdW cI a (sN (rc_all T z) N ((p_bp T N z).2.2.2.2)) (sP (rc_all T z) P (flat N) kc) T (m_tU T z U (m_T T z).2.2.2) (us (us (us (us (us (us v 2 (sK (rc_all T z) kc)) 4 (sJ (rc_all T z) 0 (v 4))) 5 (rc_all T z)) 6 (nI (m_T T z).2.1)) 7 (bI (decide ((m_T T z).2.1 < z)))) 9 (nI (m_T T z).2.2.1))) H := hP
            have hD : va_D (va_A (mdW cI a N P T U v) s.heap.size) (mdW cI a (sN (rc_all T z) N ((p_bp T N z).2.2.2.2)) (sP (rc_all T z) P (flat N) kc) T (m_tU T z U (m_T T z).2.2.2) (us (us (us (us (us (us v 2 (sK (rc_all T z) kc)) 4 (sJ (rc_all T z) 0 (v 4))) 5 (rc_all T z)) 6 (nI (m_T T z).2.1)) 7 (bI (decide ((m_T T z).2.1 < z)))) 9 (nI (m_T T z).2.2.1))) := hD
            exact k_eMi hx hb hr hlocks hP hS (by rw [hrc]; exact hE.1.symm) dX5_buyAll_103
          · have c10 := bI_neT c10
            have hcan := c10
            have h14 := p_can_lt hB.2.1 hB.2.2 hcan
            refine lv_aload_n hx hb dX5_buyAll_62 rfl (lv_at hl 0 rfl) ?_
            refine lv_aload_n hx hb dX5_buyAll_63 rfl (lv_at hl 0 rfl) ?_
            refine g5 hx hb hts hown hK hP 0 rfl 8 (by decide) flX5_19 (fun _ h => h) (v := .ref (a 4)) rfl dX5_buyAll_64 ?_
            refine lv_iconst (v := 3) hx hb dX5_buyAll_67 (by decide) ?_
            refine lv_iload_n hx hb dX5_buyAll_68 rfl (lv_at hl 1 rfl) ?_
            refine lv_imul hx hb dX5_buyAll_69 (lv_topi (fun x14 e14 => ?_))
            have q14 : x14 = nI (3 * k) := by rw [e14]; exact pk_mul 3 k
            subst q14
            refine k_ald (k := 3 * k) hx hb hK hP 4 0 rfl rfl rfl (by omega) (by decide) dX5_buyAll_70 ?_
            rw [show (m_tU T z U (m_T T z).2.2.2) (3 * k) = p_kd (T (m_tp T z k)) from told_0 hUK hkK hpk]
            refine lv_aload_n hx hb dX5_buyAll_71 rfl (lv_at hl 0 rfl) ?_
            refine g5 hx hb hts hown hK hP 0 rfl 8 (by decide) flX5_19 (fun _ h => h) (v := .ref (a 4)) rfl dX5_buyAll_72 ?_
            refine lv_iconst (v := 3) hx hb dX5_buyAll_75 (by decide) ?_
            refine lv_iload_n hx hb dX5_buyAll_76 rfl (lv_at hl 1 rfl) ?_
            refine lv_imul hx hb dX5_buyAll_77 (lv_topi (fun x15 e15 => ?_))
            have q15 : x15 = nI (3 * k) := by rw [e15]; exact pk_mul 3 k
            subst q15
            refine lv_iconst (v := 1) hx hb dX5_buyAll_78 (by decide) ?_
            refine lv_iadd hx hb dX5_buyAll_79 (lv_topi (fun x16 e16 => ?_))
            have q16 : x16 = nI (3 * k + 1) := by rw [e16]; exact nI_add (3 * k) 1
            subst q16
            refine k_ald (k := 3 * k + 1) hx hb hK hP 4 0 rfl rfl rfl (by omega) (by decide) dX5_buyAll_80 ?_
            rw [show (m_tU T z U (m_T T z).2.2.2) (3 * k + 1) = m_lv T z (m_tp T z k + 1) from told_1 hUK hkK hpk]
            refine lv_aload_n hx hb dX5_buyAll_81 rfl (lv_at hl 0 rfl) ?_
            refine g5 hx hb hts hown hK hP 0 rfl 8 (by decide) flX5_19 (fun _ h => h) (v := .ref (a 4)) rfl dX5_buyAll_82 ?_
            refine lv_iconst (v := 3) hx hb dX5_buyAll_85 (by decide) ?_
            refine lv_iload_n hx hb dX5_buyAll_86 rfl (lv_at hl 1 rfl) ?_
            refine lv_imul hx hb dX5_buyAll_87 (lv_topi (fun x17 e17 => ?_))
            have q17 : x17 = nI (3 * k) := by rw [e17]; exact pk_mul 3 k
            subst q17
            refine lv_iconst (v := 2) hx hb dX5_buyAll_88 (by decide) ?_
            refine lv_iadd hx hb dX5_buyAll_89 (lv_topi (fun x18 e18 => ?_))
            have q18 : x18 = nI (3 * k + 2) := by rw [e18]; exact nI_add (3 * k) 2
            subst q18
            refine k_ald (k := 3 * k + 2) hx hb hK hP 4 0 rfl rfl rfl (by omega) (by decide) dX5_buyAll_90 ?_
            rw [show (m_tU T z U (m_T T z).2.2.2) (3 * k + 2) = T (m_la T z (m_tp T z k + 1)) - 97 from told_2 hUK hkK hpk]
            refine lv_iconst (v := 3) hx hb dX5_buyAll_91 (by decide) ?_
            refine k_miV (As := [.int (p_kd (T (m_tp T z k))), .int (m_lv T z (m_tp T z k + 1)), .int (T (m_la T z (m_tp T z k + 1)) - 97), .int 3]) (rest := []) (w1 := []) (wc := mdW cI a (m_bN T z N k) (m_sv P (flat N) kc) T (m_tU T z U (m_T T z).2.2.2) (us (us (us (us (us (us v 2 (nI (m_kc kc))) 4 0) 5 0) 6 (nI (m_T T z).2.1)) 7 (bI (decide ((m_T T z).2.1 < z)))) 9 (nI (m_T T z).2.2.1))) (wc' := mdW cI a (p_add (m_bN T z N k) (n + k) (p_kd (T (m_tp T z k))) (m_lv T z (m_tp T z k + 1)) (T (m_la T z (m_tp T z k + 1)) - 97) 3) (m_sv P (flat N) kc) T (m_tU T z U (m_T T z).2.2.2) (us (us (us (us (us (us v 2 (nI (m_kc kc))) 4 0) 5 0) 6 (nI (m_T T z).2.1)) 7 (bI (decide ((m_T T z).2.1 < z)))) 9 (nI (m_T T z).2.2.1))) (w3 := []) ⟨hx, hb, hml, hown, hts⟩ (c_X5_buys l D cI cS cL a (m_bN T z N k) (m_sv P (flat N) kc) T (m_tU T z U (m_T T z).2.2.2) (us (us (us (us (us (us v 2 (nI (m_kc kc))) 4 0) 5 0) 6 (nI (m_T T z).2.1)) 7 (bI (decide ((m_T T z).2.1 < z)))) 9 (nI (m_T T z).2.2.1)) _ (n + k) (p_kd (T (m_tp T z k))) (m_lv T z (m_tp T z k + 1)) (T (m_la T z (m_tp T z k + 1)) - 97) 3 hB.2.1 (by omega) (ks_kd hkk).2) lkX5_80 rfl rfl ⟨(Nat.le_of_ble_eq_true rfl), (Nat.le_of_ble_eq_true rfl)⟩ (va_recv hK hP (ci := 4) (q0 := 0) rfl rfl) hK hE hP hD hS hA rfl rfl hl.1 rfl (Nat.le_of_ble_eq_true rfl) dX5_buyAll_92 ⟨Nat.zero_le _, Nat.zero_le _⟩ (fun H locs hzz hP hD hS => ?_)
            have hP : va_P D vwCl (mdW cI a (p_add (m_bN T z N k) (n + k) (p_kd (T (m_tp T z k))) (m_lv T z (m_tp T z k + 1)) (T (m_la T z (m_tp T z k + 1)) - 97) 3) (m_sv P (flat N) kc) T (m_tU T z U (m_T T z).2.2.2) (us (us (us (us (us (us v 2 (nI (m_kc kc))) 4 0) 5 0) 6 (nI (m_T T z).2.1)) 7 (bI (decide ((m_T T z).2.1 < z)))) 9 (nI (m_T T z).2.2.1))) H := hP
            have hD : va_D (va_A (mdW cI a N P T U v) s.heap.size) (mdW cI a (p_add (m_bN T z N k) (n + k) (p_kd (T (m_tp T z k))) (m_lv T z (m_tp T z k + 1)) (T (m_la T z (m_tp T z k + 1)) - 97) 3) (m_sv P (flat N) kc) T (m_tU T z U (m_T T z).2.2.2) (us (us (us (us (us (us v 2 (nI (m_kc kc))) 4 0) 5 0) 6 (nI (m_T T z).2.1)) 7 (bI (decide ((m_T T z).2.1 < z)))) 9 (nI (m_T T z).2.2.1))) := hD
            refine lv_pop hx hb dX5_buyAll_95 rfl ?_
            refine lv_iinc (v := nI (k + 1)) (lv' := [(1, .int (nI (k + 1))), (0, .ref (a 0))]) hx hb dX5_buyAll_96 hl (k := 1) rfl (nI_1 _) (by decide) rfl (fun ls hl => ?_)
            refine lv_goto (tgt := 29) hx hb dX5_buyAll_99 (by decide) ?_
            have hl : lv_has ls 2 [(0, .ref (a 0)), (1, .int (nI (k + 1)))] := lv_sub hl [1, 0] rfl
            have hl : lv_has ls 2 [(0, .ref (a 0)), (1, .int (nI (k + 1)))] := hl
            have w19 : (p_add (m_bN T z N k) (n + k) (p_kd (T (m_tp T z k))) (m_lv T z (m_tp T z k + 1)) (T (m_la T z (m_tp T z k + 1)) - 97) 3) = (m_bN T z N (k + 1)) := by exact (m_bN_s hB hpk hcan).symm
            have hP : va_P D vwCl (mdW cI a (m_bN T z N (k + 1)) (m_sv P (flat N) kc) T (m_tU T z U (m_T T z).2.2.2) (us (us (us (us (us (us v 2 (nI (m_kc kc))) 4 0) 5 0) 6 (nI (m_T T z).2.1)) 7 (bI (decide ((m_T T z).2.1 < z)))) 9 (nI (m_T T z).2.2.1))) H := (congrArg (fun zz => va_P D vwCl (mdW cI a zz (m_sv P (flat N) kc) T (m_tU T z U (m_T T z).2.2.2) (us (us (us (us (us (us v 2 (nI (m_kc kc))) 4 0) 5 0) 6 (nI (m_T T z).2.1)) 7 (bI (decide ((m_T T z).2.1 < z)))) 9 (nI (m_T T z).2.2.1))) H) w19).mp hP
            have hD : va_D (va_A (mdW cI a N P T U v) s.heap.size) (mdW cI a (m_bN T z N (k + 1)) (m_sv P (flat N) kc) T (m_tU T z U (m_T T z).2.2.2) (us (us (us (us (us (us v 2 (nI (m_kc kc))) 4 0) 5 0) 6 (nI (m_T T z).2.1)) 7 (bI (decide ((m_T T z).2.1 < z)))) 9 (nI (m_T T z).2.2.1))) := (congrArg (fun zz => va_D (va_A (mdW cI a N P T U v) s.heap.size) (mdW cI a zz (m_sv P (flat N) kc) T (m_tU T z U (m_T T z).2.2.2) (us (us (us (us (us (us v 2 (nI (m_kc kc))) 4 0) 5 0) 6 (nI (m_T T z).2.1)) 7 (bI (decide ((m_T T z).2.1 < z)))) 9 (nI (m_T T z).2.2.1)))) w19).mp hD
            have hP : va_P D vwCl (mdW cI a (m_bN T z N (k + 1)) (m_sv P (flat N) kc) T (m_tU T z U (m_T T z).2.2.2) (us (us (us (us (us (us v 2 (nI (m_kc kc))) 4 0) 5 0) 6 (nI (m_T T z).2.1)) 7 (bI (decide ((m_T T z).2.1 < z)))) 9 (nI (m_T T z).2.2.1))) H := hP
            have hD : va_D (va_A (mdW cI a N P T U v) s.heap.size) (mdW cI a (m_bN T z N (k + 1)) (m_sv P (flat N) kc) T (m_tU T z U (m_T T z).2.2.2) (us (us (us (us (us (us v 2 (nI (m_kc kc))) 4 0) 5 0) 6 (nI (m_T T z).2.1)) 7 (bI (decide ((m_T T z).2.1 < z)))) 9 (nI (m_T T z).2.2.1))) := hD
            exact ih (k + 1) (by omega) (by omega) (m_bI_s hB hpk hcan) H locs hP hD hS hS.1 ls hl
    have hl : lv_has ls 2 [(0, .ref (a 0)), (1, .int 0)] := lv_sub hl [1, 0] rfl
    have hl : lv_has ls 2 [(0, .ref (a 0)), (1, .int (nI 0))] := hl
    have hP : va_P D vwCl (mdW cI a (m_bN T z N 0) (m_sv P (flat N) kc) T (m_tU T z U (m_T T z).2.2.2) (us (us (us (us (us (us v 2 (nI (m_kc kc))) 4 0) 5 0) 6 (nI (m_T T z).2.1)) 7 (bI (decide ((m_T T z).2.1 < z)))) 9 (nI (m_T T z).2.2.1))) H := hP
    have hD : va_D (va_A (mdW cI a N P T U v) s.heap.size) (mdW cI a (m_bN T z N 0) (m_sv P (flat N) kc) T (m_tU T z U (m_T T z).2.2.2) (us (us (us (us (us (us v 2 (nI (m_kc kc))) 4 0) 5 0) 6 (nI (m_T T z).2.1)) 7 (bI (decide ((m_T T z).2.1 < z)))) 9 (nI (m_T T z).2.2.1))) := hD
    exact L2 (((m_T T z).2.2.1) - 0 + 1) 0 (by omega) (by omega) (m_bI_0 hn hn14) H locs hP hD hS hS.1 ls hl
  · have c1 := bI_eqF c1
    have his := c1
    have h5 : ¬ p_au T z = 5 := by have h := tT_ok T hz60; rw [his] at h; exact of_decide_eq_false h.symm
    have hrc : rc_all T z = 1 := by simp [rc_all, his, h5]
    refine lv_aload_n hx hb dX5_buyAll_12 rfl (lv_at hl 0 rfl) ?_
    refine lv_iconst (v := 1) hx hb dX5_buyAll_13 (by decide) ?_
    refine k_miV (As := [.int 1]) (rest := []) (w1 := []) (wc := mdW cI a N P T (m_tU T z U (m_T T z).2.2.2) (us (us (us (us v 5 0) 6 (nI (m_T T z).2.1)) 7 (bI (decide ((m_T T z).2.1 < z)))) 9 (nI (m_T T z).2.2.1))) (wc' := mdW cI a N P T (m_tU T z U (m_T T z).2.2.2) (us (us (us (us v 5 1) 6 (nI (m_T T z).2.1)) 7 (bI (decide ((m_T T z).2.1 < z)))) 9 (nI (m_T T z).2.2.1))) (w3 := []) ⟨hx, hb, hml, hown, hts⟩ (c_X5_fails l D cI cS cL a N P T (m_tU T z U (m_T T z).2.2.2) (us (us (us (us v 5 0) 6 (nI (m_T T z).2.1)) 7 (bI (decide ((m_T T z).2.1 < z)))) 9 (nI (m_T T z).2.2.1)) _ 1) lkX5_33 rfl rfl ⟨(Nat.le_of_ble_eq_true rfl), (Nat.le_of_ble_eq_true rfl)⟩ (va_recv hK hP (ci := 4) (q0 := 0) rfl rfl) hK hE hP hD hS hA rfl rfl hl.1 rfl (Nat.le_of_ble_eq_true rfl) dX5_buyAll_14 ⟨Nat.zero_le _, Nat.zero_le _⟩ (fun H locs hzz hP hD hS => ?_)
    have hP : va_P D vwCl (mdW cI a N P T (m_tU T z U (m_T T z).2.2.2) (us (us (us (us v 5 1) 6 (nI (m_T T z).2.1)) 7 (bI (decide ((m_T T z).2.1 < z)))) 9 (nI (m_T T z).2.2.1))) H := hP
    have hD : va_D (va_A (mdW cI a N P T U v) s.heap.size) (mdW cI a N P T (m_tU T z U (m_T T z).2.2.2) (us (us (us (us v 5 1) 6 (nI (m_T T z).2.1)) 7 (bI (decide ((m_T T z).2.1 < z)))) 9 (nI (m_T T z).2.2.1))) := hD
    have w21 : N = (sN (rc_all T z) N ((p_bp T N z).2.2.2.2)) := by rw [hrc]; first | done | rfl | (simp only [hcl]; first | done | rfl) | (simp only [hcl, hclp]; first | done | rfl) | (simp only [hclp]; first | done | rfl)
    have hP : va_P D vwCl (mdW cI a (sN (rc_all T z) N ((p_bp T N z).2.2.2.2)) P T (m_tU T z U (m_T T z).2.2.2) (us (us (us (us v 5 1) 6 (nI (m_T T z).2.1)) 7 (bI (decide ((m_T T z).2.1 < z)))) 9 (nI (m_T T z).2.2.1))) H := (congrArg (fun zz => va_P D vwCl (mdW cI a zz P T (m_tU T z U (m_T T z).2.2.2) (us (us (us (us v 5 1) 6 (nI (m_T T z).2.1)) 7 (bI (decide ((m_T T z).2.1 < z)))) 9 (nI (m_T T z).2.2.1))) H) w21).mp hP
    have hD : va_D (va_A (mdW cI a N P T U v) s.heap.size) (mdW cI a (sN (rc_all T z) N ((p_bp T N z).2.2.2.2)) P T (m_tU T z U (m_T T z).2.2.2) (us (us (us (us v 5 1) 6 (nI (m_T T z).2.1)) 7 (bI (decide ((m_T T z).2.1 < z)))) 9 (nI (m_T T z).2.2.1))) := (congrArg (fun zz => va_D (va_A (mdW cI a N P T U v) s.heap.size) (mdW cI a zz P T (m_tU T z U (m_T T z).2.2.2) (us (us (us (us v 5 1) 6 (nI (m_T T z).2.1)) 7 (bI (decide ((m_T T z).2.1 < z)))) 9 (nI (m_T T z).2.2.1)))) w21).mp hD
    have w22 : P = (sP (rc_all T z) P (flat N) kc) := by rw [hrc]; first | done | rfl | (simp only [hcl]; first | done | rfl) | (simp only [hcl, hclp]; first | done | rfl) | (simp only [hclp]; first | done | rfl)
    have hP : va_P D vwCl (mdW cI a (sN (rc_all T z) N ((p_bp T N z).2.2.2.2)) (sP (rc_all T z) P (flat N) kc) T (m_tU T z U (m_T T z).2.2.2) (us (us (us (us v 5 1) 6 (nI (m_T T z).2.1)) 7 (bI (decide ((m_T T z).2.1 < z)))) 9 (nI (m_T T z).2.2.1))) H := (congrArg (fun zz => va_P D vwCl (mdW cI a (sN (rc_all T z) N ((p_bp T N z).2.2.2.2)) zz T (m_tU T z U (m_T T z).2.2.2) (us (us (us (us v 5 1) 6 (nI (m_T T z).2.1)) 7 (bI (decide ((m_T T z).2.1 < z)))) 9 (nI (m_T T z).2.2.1))) H) w22).mp hP
    have hD : va_D (va_A (mdW cI a N P T U v) s.heap.size) (mdW cI a (sN (rc_all T z) N ((p_bp T N z).2.2.2.2)) (sP (rc_all T z) P (flat N) kc) T (m_tU T z U (m_T T z).2.2.2) (us (us (us (us v 5 1) 6 (nI (m_T T z).2.1)) 7 (bI (decide ((m_T T z).2.1 < z)))) 9 (nI (m_T T z).2.2.1))) := (congrArg (fun zz => va_D (va_A (mdW cI a N P T U v) s.heap.size) (mdW cI a (sN (rc_all T z) N ((p_bp T N z).2.2.2.2)) zz T (m_tU T z U (m_T T z).2.2.2) (us (us (us (us v 5 1) 6 (nI (m_T T z).2.1)) 7 (bI (decide ((m_T T z).2.1 < z)))) 9 (nI (m_T T z).2.2.1)))) w22).mp hD
    have w23 : (us (us (us (us v 5 1) 6 (nI (m_T T z).2.1)) 7 (bI (decide ((m_T T z).2.1 < z)))) 9 (nI (m_T T z).2.2.1)) = (us (us (us (us (us (us v 2 (sK (rc_all T z) kc)) 4 (sJ (rc_all T z) 0 (v 4))) 5 (rc_all T z)) 6 (nI (m_T T z).2.1)) 7 (bI (decide ((m_T T z).2.1 < z)))) 9 (nI (m_T T z).2.2.1)) := by rw [hrc, show sK 1 kc = v 2 from hc.symm, us_v, show sJ 1 0 (v 4) = v 4 from rfl, us_v]; first | done | rfl
    have hP : va_P D vwCl (mdW cI a (sN (rc_all T z) N ((p_bp T N z).2.2.2.2)) (sP (rc_all T z) P (flat N) kc) T (m_tU T z U (m_T T z).2.2.2) (us (us (us (us (us (us v 2 (sK (rc_all T z) kc)) 4 (sJ (rc_all T z) 0 (v 4))) 5 (rc_all T z)) 6 (nI (m_T T z).2.1)) 7 (bI (decide ((m_T T z).2.1 < z)))) 9 (nI (m_T T z).2.2.1))) H := (congrArg (fun zz => va_P D vwCl (mdW cI a (sN (rc_all T z) N ((p_bp T N z).2.2.2.2)) (sP (rc_all T z) P (flat N) kc) T (m_tU T z U (m_T T z).2.2.2) zz) H) w23).mp hP
    have hD : va_D (va_A (mdW cI a N P T U v) s.heap.size) (mdW cI a (sN (rc_all T z) N ((p_bp T N z).2.2.2.2)) (sP (rc_all T z) P (flat N) kc) T (m_tU T z U (m_T T z).2.2.2) (us (us (us (us (us (us v 2 (sK (rc_all T z) kc)) 4 (sJ (rc_all T z) 0 (v 4))) 5 (rc_all T z)) 6 (nI (m_T T z).2.1)) 7 (bI (decide ((m_T T z).2.1 < z)))) 9 (nI (m_T T z).2.2.1))) := (congrArg (fun zz => va_D (va_A (mdW cI a N P T U v) s.heap.size) (mdW cI a (sN (rc_all T z) N ((p_bp T N z).2.2.2.2)) (sP (rc_all T z) P (flat N) kc) T (m_tU T z U (m_T T z).2.2.2) zz)) w23).mp hD
    have hP : va_P D vwCl (mdW cI a (sN (rc_all T z) N ((p_bp T N z).2.2.2.2)) (sP (rc_all T z) P (flat N) kc) T (m_tU T z U (m_T T z).2.2.2) (us (us (us (us (us (us v 2 (sK (rc_all T z) kc)) 4 (sJ (rc_all T z) 0 (v 4))) 5 (rc_all T z)) 6 (nI (m_T T z).2.1)) 7 (bI (decide ((m_T T z).2.1 < z)))) 9 (nI (m_T T z).2.2.1))) H := hP
    have hD : va_D (va_A (mdW cI a N P T U v) s.heap.size) (mdW cI a (sN (rc_all T z) N ((p_bp T N z).2.2.2.2)) (sP (rc_all T z) P (flat N) kc) T (m_tU T z U (m_T T z).2.2.2) (us (us (us (us (us (us v 2 (sK (rc_all T z) kc)) 4 (sJ (rc_all T z) 0 (v 4))) 5 (rc_all T z)) 6 (nI (m_T T z).2.1)) 7 (bI (decide ((m_T T z).2.1 < z)))) 9 (nI (m_T T z).2.2.1))) := hD
    exact k_eMi hx hb hr hlocks hP hS (by rw [hrc]; first | done | rfl | (simp only [hcl]; first | done | rfl) | (simp only [hcl, hclp]; first | done | rfl) | (simp only [hclp]; first | done | rfl)) dX5_buyAll_17
