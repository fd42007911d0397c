abbrev rmX5_isAt : Room := { frames := 1, cells := 0, slots := 0, locals := 22 }
set_option maxHeartbeats 4000000 in
set_option maxRecDepth 100000 in
theorem c_X5_isAt (l : Launch) (D : va_G) (cI cS cL : ClassId) (a : Nat → Nat) (N : NN) (P T U v : Nat → Int32) (sz : Nat) (a0 z : Nat) (lo hi : Int32) (ha : v 6 = nI a0) (hq4 : v 4 = nI z) (hz60 : z ≤ 60) (haz : a0 ≤ z) : Met l yX5_isAt (wy_ yX5_isAt cX5_isAt 3 (some .boolean)) rmX5_isAt (kPc D (kTy cI cS cL) (mdW cI a N P T U v) sz [.ref (a 0), .int lo, .int hi]) (kRi (bI (m_at T z a0 lo hi))) 0 0 noF := by
  refine k_ofW (by decide) (Nat.le_of_ble_eq_true rfl) ?_
  intro p e s m args below meth c hx hb hr hml hts hown hlocks hnm hsz hP hK hD hE ls hl
  subst hsz
  have hl : lv_has ls 3 [(0, .ref (a 0)), (1, .int lo), (2, .int hi)] := hl
  refine lv_aload_n hx hb dX5_isAt_0 rfl (lv_at hl 0 rfl) ?_
  refine g5 hx hb hts hown hK hP 0 rfl 6 (by decide) flX5_108 (fun _ h => h) (v := .int (nI a0)) (by rw [← ha]; rfl) dX5_isAt_1 ?_
  refine lv_aload_n hx hb dX5_isAt_4 rfl (lv_at hl 0 rfl) ?_
  refine g5 hx hb hts hown hK hP 0 rfl 4 (by decide) flX5_105 (fun _ h => h) (v := .int (nI z)) (by rw [← hq4]; rfl) dX5_isAt_5 ?_
  refine lv_icmp_ge (tgt := 32) hx hb dX5_isAt_8 (by decide) (fun c1 => ?_) (fun c1 => ?_)
  · have c1' := Int32.not_lt.mpr c1
    have hge : ¬ a0 < z := by have := k_exit (by omega) haz c1; omega
    refine lv_iconst (v := 0) hx hb dX5_isAt_32 (by decide) ?_
    exact k_eRz hx hb hr hlocks rfl (by exact bI_zero (m_at_no hge)) dX5_isAt_33
  · have c1' := Int32.not_le.mp c1
    have hlt : a0 < z := k_more (by omega) haz c1
    refine lv_aload_n hx hb dX5_isAt_11 rfl (lv_at hl 0 rfl) ?_
    refine g5 hx hb hts hown hK hP 0 rfl 3 (by decide) flX5_16 (fun _ h => h) (v := .ref (a 3)) rfl dX5_isAt_12 ?_
    refine lv_aload_n hx hb dX5_isAt_15 rfl (lv_at hl 0 rfl) ?_
    refine g5 hx hb hts hown hK hP 0 rfl 6 (by decide) flX5_108 (fun _ h => h) (v := .int (nI a0)) (by rw [← ha]; rfl) dX5_isAt_16 ?_
    refine k_ald (k := a0) hx hb hK hP 3 0 rfl rfl rfl (by omega) (by decide) dX5_isAt_19 ?_
    refine lv_iload_n hx hb dX5_isAt_20 rfl (lv_at hl 1 rfl) ?_
    refine lv_iload_n hx hb dX5_isAt_21 rfl (lv_at hl 2 rfl) ?_
    refine k_riS (As := [.int (T a0), .int lo, .int hi]) (rest := []) (wc := []) ⟨hx, hb, hml, hown, hts⟩ (c_X5_in l D cI cS cL _ (T a0) lo hi) lkX5_26 rfl rfl ⟨(Nat.le_of_ble_eq_true rfl), (Nat.le_of_ble_eq_true rfl)⟩ hK hE k_nilP (k_nilD (A := va_A (mdW cI a N P T U v) s.heap.size)) rfl hl.1 rfl (Nat.le_of_ble_eq_true rfl) dX5_isAt_22 ⟨Nat.zero_le _, Nat.zero_le _⟩ ?_
    refine lv_if_eq (tgt := 32) hx hb dX5_isAt_25 (by decide) (fun c2 => ?_) (fun c2 => ?_)
    · have c2 := bI_eq0 c2
      refine lv_iconst (v := 0) hx hb dX5_isAt_32 (by decide) ?_
      exact k_eRz hx hb hr hlocks rfl (by exact bI_zero (m_at_not c2)) dX5_isAt_33
    · have c2 := bI_ne0 c2
      refine lv_iconst (v := 1) hx hb dX5_isAt_28 (by decide) ?_
      refine lv_goto (tgt := 33) hx hb dX5_isAt_29 (by decide) ?_
      exact k_eRz hx hb hr hlocks rfl (by exact bI_one (m_at_yes hlt c2)) dX5_isAt_33

abbrev rmX5_stops : Room := { frames := 0, cells := 0, slots := 0, locals := 0 }
set_option maxHeartbeats 4000000 in
set_option maxRecDepth 100000 in
theorem c_X5_stops (l : Launch) (D : va_G) (cI cS cL : ClassId) (a : Nat → Nat) (N : NN) (P T U v : Nat → Int32) (sz : Nat) (a0 z : Nat) (ha : v 6 = nI a0) (hq4 : v 4 = nI z) (hz60 : z ≤ 60) (haz : a0 ≤ z) : Met l yX5_stops (wy_ yX5_stops cX5_stops 1 (some .boolean)) rmX5_stops (kPc D (kTy cI cS cL) (mdW cI a N P T U v) sz [.ref (a 0)]) (kMi D (mdW cI a N P T U v) (mdW cI a N P T U (us v 7 (bI (decide (a0 < z))))) sz (0)) 0 0 (va_A (mdW cI a N P T U v) sz) := by
  refine k_ofW (by decide) (Nat.le_of_ble_eq_true rfl) ?_
  intro p e s m args below meth c hx hb hr hml hts hown hlocks hnm hsz hP hK hD hE ls hl
  subst hsz
  have hA : ∀ q : Nat, s.heap.size ≤ q → (va_A (mdW cI a N P T U v) s.heap.size) q := fun q h => Or.inr h
  have hS : va_S (va_A (mdW cI a N P T U v) s.heap.size) s.heap s.heap [] := va_S.rf
  have hl : lv_has ls 1 [(0, .ref (a 0))] := hl
  refine lv_aload_n hx hb dX5_stops_0 rfl (lv_at hl 0 rfl) ?_
  refine lv_aload_n hx hb dX5_stops_1 rfl (lv_at hl 0 rfl) ?_
  refine g5 hx hb hts hown hK hP 0 rfl 6 (by decide) flX5_108 (fun _ h => h) (v := .int (nI a0)) (by rw [← ha]; rfl) dX5_stops_2 ?_
  refine lv_aload_n hx hb dX5_stops_5 rfl (lv_at hl 0 rfl) ?_
  refine g5 hx hb hts hown hK hP 0 rfl 4 (by decide) flX5_105 (fun _ h => h) (v := .int (nI z)) (by rw [← hq4]; rfl) dX5_stops_6 ?_
  refine lv_icmp_ge (tgt := 16) hx hb dX5_stops_9 (by decide) (fun c1 => ?_) (fun c1 => ?_)
  · have c1' := Int32.not_lt.mpr c1
    have hge : ¬ a0 < z := by have := k_exit (by omega) haz c1; omega
    refine lv_iconst (v := 0) hx hb dX5_stops_16 (by decide) ?_
    refine f5 hx hb hts hown hK hP hD hS 0 rfl 7 (by decide) flX5_111 (fun _ h => h) rfl (rfl) (rfl) (Nat.le_of_ble_eq_true rfl) dX5_stops_17 (fun H locs hP hD hS => ?_)
    have hP : va_P D vwCl (mdW cI a N P T U (us v 7 0)) H := hP
    have hD : va_D (va_A (mdW cI a N P T U v) s.heap.size) (mdW cI a N P T U (us v 7 0)) := hD
    refine lv_iconst (v := 0) hx hb dX5_stops_20 (by decide) ?_
    have w2 : (us v 7 0) = (us v 7 (bI (decide (a0 < z)))) := by rw [bI_f hge]
    have hP : va_P D vwCl (mdW cI a N P T U (us v 7 (bI (decide (a0 < z))))) H := (congrArg (fun zz => va_P D vwCl (mdW cI a N P T U zz) H) w2).mp hP
    have hD : va_D (va_A (mdW cI a N P T U v) s.heap.size) (mdW cI a N P T U (us v 7 (bI (decide (a0 < z))))) := (congrArg (fun zz => va_D (va_A (mdW cI a N P T U v) s.heap.size) (mdW cI a N P T U zz)) w2).mp hD
    have hP : va_P D vwCl (mdW cI a N P T U (us v 7 (bI (decide (a0 < z))))) H := hP
    have hD : va_D (va_A (mdW cI a N P T U v) s.heap.size) (mdW cI a N P T U (us v 7 (bI (decide (a0 < z))))) := hD
    exact k_eMz hx hb hr hlocks rfl hP hS rfl dX5_stops_21
  · have c1' := Int32.not_le.mp c1
    have hlt : a0 < z := k_more (by omega) haz c1
    refine lv_iconst (v := 1) hx hb dX5_stops_12 (by decide) ?_
    refine lv_goto (tgt := 17) hx hb dX5_stops_13 (by decide) ?_
    refine f5 hx hb hts hown hK hP hD hS 0 rfl 7 (by decide) flX5_111 (fun _ h => h) rfl (rfl) (rfl) (Nat.le_of_ble_eq_true rfl) dX5_stops_17 (fun H locs hP hD hS => ?_)
    have hP : va_P D vwCl (mdW cI a N P T U (us v 7 1)) H := hP
    have hD : va_D (va_A (mdW cI a N P T U v) s.heap.size) (mdW cI a N P T U (us v 7 1)) := hD
    refine lv_iconst (v := 0) hx hb dX5_stops_20 (by decide) ?_
    have w3 : (us v 7 1) = (us v 7 (bI (decide (a0 < z)))) := by rw [bI_t hlt]
    have hP : va_P D vwCl (mdW cI a N P T U (us v 7 (bI (decide (a0 < z))))) H := (congrArg (fun zz => va_P D vwCl (mdW cI a N P T U zz) H) w3).mp hP
    have hD : va_D (va_A (mdW cI a N P T U v) s.heap.size) (mdW cI a N P T U (us v 7 (bI (decide (a0 < z))))) := (congrArg (fun zz => va_D (va_A (mdW cI a N P T U v) s.heap.size) (mdW cI a N P T U zz)) w3).mp hD
    have hP : va_P D vwCl (mdW cI a N P T U (us v 7 (bI (decide (a0 < z))))) H := hP
    have hD : va_D (va_A (mdW cI a N P T U v) s.heap.size) (mdW cI a N P T U (us v 7 (bI (decide (a0 < z))))) := hD
    exact k_eMz hx hb hr hlocks rfl hP hS rfl dX5_stops_21

abbrev rmX5_isLength : Room := { frames := 2, cells := 0, slots := 0, locals := 44 }
set_option maxHeartbeats 4000000 in
set_option maxRecDepth 100000 in
theorem c_X5_isLength (l : Launch) (D : va_G) (cI cS cL : ClassId) (a : Nat → Nat) (N : NN) (P T U v : Nat → Int32) (sz : Nat) (a0 z k : Nat) (ha : v 6 = nI a0) (hq4 : v 4 = nI z) (hz60 : z ≤ 60) (haz : a0 ≤ z) (hk : v 9 = nI k) (hk15 : k ≤ 15) : Met l yX5_isLength (wy_ yX5_isLength cX5_isLength 2 (some .boolean)) rmX5_isLength (kPc D (kTy cI cS cL) (mdW cI a N P T U v) sz [.ref (a 0)]) (kMi D (mdW cI a N P T U v) (mdW cI a N P T (m_lU T z a0 k U) (us (us v 6 (nI (m_la T z a0))) 7 (m_f7 (m_lk T z a0) (m_la T z a0) z (v 7)))) sz (bI (m_lk T z a0))) 0 0 (va_A (mdW cI a N P T U v) sz) := by
  refine k_ofW (by decide) (Nat.le_of_ble_eq_true rfl) ?_
  intro p e s m args below meth c hx hb hr hml hts hown hlocks hnm hsz hP hK hD hE ls hl
  subst hsz
  have hA : ∀ q : Nat, s.heap.size ≤ q → (va_A (mdW cI a N P T U v) s.heap.size) q := fun q h => Or.inr h
  have hS : va_S (va_A (mdW cI a N P T U v) s.heap.size) s.heap s.heap [] := va_S.rf
  have hl : lv_has ls 2 [(0, .ref (a 0))] := hl
  refine lv_aload_n hx hb dX5_isLength_0 rfl (lv_at hl 0 rfl) ?_
  refine lv_bipush (v := 49) hx hb dX5_isLength_1 (by decide) ?_
  refine lv_bipush (v := 57) hx hb dX5_isLength_3 (by decide) ?_
  refine k_riV (As := [.int 49, .int 57]) (rest := []) (wc := mdW cI a N P T U v) ⟨hx, hb, hml, hown, hts⟩ (c_X5_isAt l D cI cS cL a N P T U v _ a0 z 49 57 (by first | rfl | exact ha) hq4 (by omega) (by omega)) lkX5_115 rfl rfl ⟨(Nat.le_of_ble_eq_true rfl), (Nat.le_of_ble_eq_true rfl)⟩ (va_recv hK hP (ci := 4) (q0 := 0) rfl rfl) hK hE hP hD rfl hl.1 rfl (Nat.le_of_ble_eq_true rfl) dX5_isLength_5 ⟨Nat.zero_le _, Nat.zero_le _⟩ ?_
  refine lv_if_ne (tgt := 16) hx hb dX5_isLength_8 (by decide) (fun c1 => ?_) (fun c1 => ?_)
  · have c1 := bI_neT c1
    have hd1 := c1
    have hlt := m_at_lt hd1
    refine lv_aload_n hx hb dX5_isLength_16 rfl (lv_at hl 0 rfl) ?_
    refine g5 hx hb hts hown hK hP 0 rfl 3 (by decide) flX5_16 (fun _ h => h) (v := .ref (a 3)) rfl dX5_isLength_17 ?_
    refine lv_aload_n hx hb dX5_isLength_20 rfl (lv_at hl 0 rfl) ?_
    refine g5 hx hb hts hown hK hP 0 rfl 6 (by decide) flX5_108 (fun _ h => h) (v := .int (nI a0)) (by rw [← ha]; rfl) dX5_isLength_21 ?_
    refine k_ald (k := a0) hx hb hK hP 3 0 rfl rfl rfl (by omega) (by decide) dX5_isLength_24 ?_
    refine lv_bipush (v := 48) hx hb dX5_isLength_25 (by decide) ?_
    refine lv_isub hx hb dX5_isLength_27 (lv_topi (fun x2 e2 => ?_))
    have q2 : x2 = T a0 - 48 := by rw [e2]; skip
    subst q2
    refine lv_istore_n (lv' := [(1, .int (T a0 - 48)), (0, .ref (a 0))]) hx hb dX5_isLength_28 rfl hl (by decide) rfl (fun ls hl => ?_)
    refine lv_aload_n hx hb dX5_isLength_29 rfl (lv_at hl 1 rfl) ?_
    refine lv_dup hx hb dX5_isLength_30 rfl ?_
    refine g5 hx hb hts hown hK hP 0 rfl 6 (by decide) flX5_108 (fun _ h => h) (v := .int (nI a0)) (by rw [← ha]; rfl) dX5_isLength_31 ?_
    refine lv_iconst (v := 1) hx hb dX5_isLength_34 (by decide) ?_
    refine lv_iadd hx hb dX5_isLength_35 (lv_topi (fun x3 e3 => ?_))
    have q3 : x3 = nI (a0 + 1) := by rw [e3]; exact nI_1 a0
    subst q3
    refine f5 hx hb hts hown hK hP hD hS 0 rfl 6 (by decide) flX5_108 (fun _ h => h) rfl rfl rfl (Nat.le_of_ble_eq_true rfl) dX5_isLength_36 (fun H locs hP hD hS => ?_)
    have hP : va_P D vwCl (mdW cI a N P T U (us v 6 (nI (a0 + 1)))) H := hP
    have hD : va_D (va_A (mdW cI a N P T U v) s.heap.size) (mdW cI a N P T U (us v 6 (nI (a0 + 1)))) := hD
    refine lv_iload_n hx hb dX5_isLength_39 rfl (lv_at hl 0 rfl) ?_
    refine lv_iconst (v := 5) hx hb dX5_isLength_40 (by decide) ?_
    refine lv_icmp_ge (tgt := 60) hx hb dX5_isLength_41 (by decide) (fun c4 => ?_) (fun c4 => ?_)
    · have c4' := Int32.not_lt.mpr c4
      have hg5 := c4'
      refine lv_iload_n hx hb dX5_isLength_60 rfl (lv_at hl 0 rfl) ?_
      refine lv_iconst (v := 5) hx hb dX5_isLength_61 (by decide) ?_
      refine lv_icmp_lt (tgt := 81) hx hb dX5_isLength_62 (by decide) (fun h => absurd h (hg5)) (fun _ => ?_)
      refine lv_iload_n hx hb dX5_isLength_65 rfl (lv_at hl 0 rfl) ?_
      refine lv_iconst (v := 5) hx hb dX5_isLength_66 (by decide) ?_
      refine lv_icmp_ne (tgt := 109) hx hb dX5_isLength_67 (by decide) (fun c6 => ?_) (fun c6 => ?_)
      · have hn5 := c6
        refine lv_aload_n hx hb dX5_isLength_109 rfl (lv_at hl 1 rfl) ?_
        refine g5 hx hb hts hown hK hP 0 rfl 8 (by decide) flX5_19 (fun _ h => h) (v := .ref (a 4)) rfl dX5_isLength_110 ?_
        refine lv_iconst (v := 3) hx hb dX5_isLength_113 (by decide) ?_
        refine lv_aload_n hx hb dX5_isLength_114 rfl (lv_at hl 1 rfl) ?_
        refine g5 hx hb hts hown hK hP 0 rfl 9 (by decide) flX5_122 (fun _ h => h) (v := .int (nI k)) (by rw [← hk]; rfl) dX5_isLength_115 ?_
        refine lv_imul hx hb dX5_isLength_118 (lv_topi (fun x7 e7 => ?_))
        have q7 : x7 = nI (3 * k) := by rw [e7]; exact pk_mul 3 k
        subst q7
        refine lv_iconst (v := 1) hx hb dX5_isLength_119 (by decide) ?_
        refine lv_iadd hx hb dX5_isLength_120 (lv_topi (fun x8 e8 => ?_))
        have q8 : x8 = nI (3 * k + 1) := by rw [e8]; exact nI_add (3 * k) 1
        subst q8
        refine lv_iload_n hx hb dX5_isLength_121 rfl (lv_at hl 0 rfl) ?_
        refine k_ast (k := 3 * k + 1) hx hb hK hP hD hS 4 0 rfl rfl rfl (by omega) (by decide) dX5_isLength_122 (fun H locs hP hD hS => ?_)
        have hP : va_P D vwCl (mdW cI a N P T (upd U (3 * k + 1) (T a0 - 48)) (us v 6 (nI (a0 + 1)))) H := hP
        have hD : va_D (va_A (mdW cI a N P T U v) s.heap.size) (mdW cI a N P T (upd U (3 * k + 1) (T a0 - 48)) (us v 6 (nI (a0 + 1)))) := hD
        refine lv_iconst (v := 1) hx hb dX5_isLength_123 (by decide) ?_
        have w9 : (upd U (3 * k + 1) (T a0 - 48)) = (m_lU T z a0 k U) := by simp only [lt55, m_la, m_lk, m_lv, m_lU, m_f7, us_at, if_true, if_false, Bool.false_eq_true, reduceIte, hd1, hg5, hn5]; first | done | rfl | exact (us_v (us v 6 _) 7).symm
        have hP : va_P D vwCl (mdW cI a N P T (m_lU T z a0 k U) (us v 6 (nI (a0 + 1)))) H := (congrArg (fun zz => va_P D vwCl (mdW cI a N P T zz (us v 6 (nI (a0 + 1)))) H) w9).mp hP
        have hD : va_D (va_A (mdW cI a N P T U v) s.heap.size) (mdW cI a N P T (m_lU T z a0 k U) (us v 6 (nI (a0 + 1)))) := (congrArg (fun zz => va_D (va_A (mdW cI a N P T U v) s.heap.size) (mdW cI a N P T zz (us v 6 (nI (a0 + 1))))) w9).mp hD
        have w10 : (us v 6 (nI (a0 + 1))) = (us (us v 6 (nI (m_la T z a0))) 7 (m_f7 (m_lk T z a0) (m_la T z a0) z (v 7))) := by simp only [lt55, m_la, m_lk, m_lv, m_lU, m_f7, us_at, if_true, if_false, Bool.false_eq_true, reduceIte, hd1, hg5, hn5]; first | done | rfl | exact (us_v (us v 6 _) 7).symm
        have hP : va_P D vwCl (mdW cI a N P T (m_lU T z a0 k U) (us (us v 6 (nI (m_la T z a0))) 7 (m_f7 (m_lk T z a0) (m_la T z a0) z (v 7)))) H := (congrArg (fun zz => va_P D vwCl (mdW cI a N P T (m_lU T z a0 k U) zz) H) w10).mp hP
        have hD : va_D (va_A (mdW cI a N P T U v) s.heap.size) (mdW cI a N P T (m_lU T z a0 k U) (us (us v 6 (nI (m_la T z a0))) 7 (m_f7 (m_lk T z a0) (m_la T z a0) z (v 7)))) := (congrArg (fun zz => va_D (va_A (mdW cI a N P T U v) s.heap.size) (mdW cI a N P T (m_lU T z a0 k U) zz)) w10).mp hD
        have hP : va_P D vwCl (mdW cI a N P T (m_lU T z a0 k U) (us (us v 6 (nI (m_la T z a0))) 7 (m_f7 (m_lk T z a0) (m_la T z a0) z (v 7)))) H := hP
        have hD : va_D (va_A (mdW cI a N P T U v) s.heap.size) (mdW cI a N P T (m_lU T z a0 k U) (us (us v 6 (nI (m_la T z a0))) 7 (m_f7 (m_lk T z a0) (m_la T z a0) z (v 7)))) := hD
        exact k_eMz hx hb hr hlocks rfl hP hS (by exact bI_one (by simp only [lt55, m_la, m_lk, m_lv, m_lU, m_f7, us_at, if_true, if_false, Bool.false_eq_true, reduceIte, hd1, hg5, hn5])) dX5_isLength_124
      · have h5 := c6
        refine lv_aload_n hx hb dX5_isLength_70 rfl (lv_at hl 1 rfl) ?_
        refine lv_bipush (v := 48) hx hb dX5_isLength_71 (by decide) ?_
        refine lv_bipush (v := 48) hx hb dX5_isLength_73 (by decide) ?_
        refine k_riV (As := [.int 48, .int 48]) (rest := []) (wc := mdW cI a N P T U (us v 6 (nI (a0 + 1)))) ⟨hx, hb, hml, hown, hts⟩ (c_X5_isAt l D cI cS cL a N P T U (us v 6 (nI (a0 + 1))) _ (a0 + 1) z 48 48 (by first | rfl | exact ha) hq4 (by omega) (by omega)) lkX5_115 rfl rfl ⟨(Nat.le_of_ble_eq_true rfl), (Nat.le_of_ble_eq_true rfl)⟩ (va_recv hK hP (ci := 4) (q0 := 0) rfl rfl) hK hE hP hD rfl hl.1 rfl (Nat.le_of_ble_eq_true rfl) dX5_isLength_75 ⟨Nat.zero_le _, Nat.zero_le _⟩ ?_
        refine lv_if_eq (tgt := 109) hx hb dX5_isLength_78 (by decide) (fun c11 => ?_) (fun c11 => ?_)
        · have c11 := bI_eqF c11
          have ht0 := c11
          refine lv_aload_n hx hb dX5_isLength_109 rfl (lv_at hl 1 rfl) ?_
          refine g5 hx hb hts hown hK hP 0 rfl 8 (by decide) flX5_19 (fun _ h => h) (v := .ref (a 4)) rfl dX5_isLength_110 ?_
          refine lv_iconst (v := 3) hx hb dX5_isLength_113 (by decide) ?_
          refine lv_aload_n hx hb dX5_isLength_114 rfl (lv_at hl 1 rfl) ?_
          refine g5 hx hb hts hown hK hP 0 rfl 9 (by decide) flX5_122 (fun _ h => h) (v := .int (nI k)) (by rw [← hk]; rfl) dX5_isLength_115 ?_
          refine lv_imul hx hb dX5_isLength_118 (lv_topi (fun x12 e12 => ?_))
          have q12 : x12 = nI (3 * k) := by rw [e12]; exact pk_mul 3 k
          subst q12
          refine lv_iconst (v := 1) hx hb dX5_isLength_119 (by decide) ?_
          refine lv_iadd hx hb dX5_isLength_120 (lv_topi (fun x13 e13 => ?_))
          have q13 : x13 = nI (3 * k + 1) := by rw [e13]; exact nI_add (3 * k) 1
          subst q13
          refine lv_iload_n hx hb dX5_isLength_121 rfl (lv_at hl 0 rfl) ?_
          refine k_ast (k := 3 * k + 1) hx hb hK hP hD hS 4 0 rfl rfl rfl (by omega) (by decide) dX5_isLength_122 (fun H locs hP hD hS => ?_)
          have hP : va_P D vwCl (mdW cI a N P T (upd U (3 * k + 1) (T a0 - 48)) (us v 6 (nI (a0 + 1)))) H := hP
          have hD : va_D (va_A (mdW cI a N P T U v) s.heap.size) (mdW cI a N P T (upd U (3 * k + 1) (T a0 - 48)) (us v 6 (nI (a0 + 1)))) := hD
          refine lv_iconst (v := 1) hx hb dX5_isLength_123 (by decide) ?_
          have w14 : (upd U (3 * k + 1) (T a0 - 48)) = (m_lU T z a0 k U) := by simp only [lt55, m_la, m_lk, m_lv, m_lU, m_f7, us_at, if_true, if_false, Bool.false_eq_true, reduceIte, hd1, hg5, h5, ht0]; first | done | rfl | exact (us_v (us v 6 _) 7).symm
          have hP : va_P D vwCl (mdW cI a N P T (m_lU T z a0 k U) (us v 6 (nI (a0 + 1)))) H := (congrArg (fun zz => va_P D vwCl (mdW cI a N P T zz (us v 6 (nI (a0 + 1)))) H) w14).mp hP
          have hD : va_D (va_A (mdW cI a N P T U v) s.heap.size) (mdW cI a N P T (m_lU T z a0 k U) (us v 6 (nI (a0 + 1)))) := (congrArg (fun zz => va_D (va_A (mdW cI a N P T U v) s.heap.size) (mdW cI a N P T zz (us v 6 (nI (a0 + 1))))) w14).mp hD
          have w15 : (us v 6 (nI (a0 + 1))) = (us (us v 6 (nI (m_la T z a0))) 7 (m_f7 (m_lk T z a0) (m_la T z a0) z (v 7))) := by simp only [lt55, m_la, m_lk, m_lv, m_lU, m_f7, us_at, if_true, if_false, Bool.false_eq_true, reduceIte, hd1, hg5, h5, ht0]; first | done | rfl | exact (us_v (us v 6 _) 7).symm
          have hP : va_P D vwCl (mdW cI a N P T (m_lU T z a0 k U) (us (us v 6 (nI (m_la T z a0))) 7 (m_f7 (m_lk T z a0) (m_la T z a0) z (v 7)))) H := (congrArg (fun zz => va_P D vwCl (mdW cI a N P T (m_lU T z a0 k U) zz) H) w15).mp hP
          have hD : va_D (va_A (mdW cI a N P T U v) s.heap.size) (mdW cI a N P T (m_lU T z a0 k U) (us (us v 6 (nI (m_la T z a0))) 7 (m_f7 (m_lk T z a0) (m_la T z a0) z (v 7)))) := (congrArg (fun zz => va_D (va_A (mdW cI a N P T U v) s.heap.size) (mdW cI a N P T (m_lU T z a0 k U) zz)) w15).mp hD
          have hP : va_P D vwCl (mdW cI a N P T (m_lU T z a0 k U) (us (us v 6 (nI (m_la T z a0))) 7 (m_f7 (m_lk T z a0) (m_la T z a0) z (v 7)))) H := hP
          have hD : va_D (va_A (mdW cI a N P T U v) s.heap.size) (mdW cI a N P T (m_lU T z a0 k U) (us (us v 6 (nI (m_la T z a0))) 7 (m_f7 (m_lk T z a0) (m_la T z a0) z (v 7)))) := hD
          exact k_eMz hx hb hr hlocks rfl hP hS (by exact bI_one (by simp only [lt55, m_la, m_lk, m_lv, m_lU, m_f7, us_at, if_true, if_false, Bool.false_eq_true, reduceIte, hd1, hg5, h5, ht0])) dX5_isLength_124
        · have c11 := bI_neT c11
          have ht1 := c11
          have hlt2 := m_at_lt ht1
          refine lv_bipush (v := 10) hx hb dX5_isLength_81 (by decide) ?_
          refine lv_iload_n hx hb dX5_isLength_83 rfl (lv_at hl 0 rfl) ?_
          refine lv_imul hx hb dX5_isLength_84 (lv_topi (fun x16 e16 => ?_))
          have q16 : x16 = 10 * (T a0 - 48) := by rw [e16]; skip
          subst q16
          refine lv_aload_n hx hb dX5_isLength_85 rfl (lv_at hl 1 rfl) ?_
          refine g5 hx hb hts hown hK hP 0 rfl 3 (by decide) flX5_16 (fun _ h => h) (v := .ref (a 3)) rfl dX5_isLength_86 ?_
          refine lv_aload_n hx hb dX5_isLength_89 rfl (lv_at hl 1 rfl) ?_
          refine g5 hx hb hts hown hK hP 0 rfl 6 (by decide) flX5_108 (fun _ h => h) (v := .int (nI (a0 + 1))) rfl dX5_isLength_90 ?_
          refine k_ald (k := a0 + 1) hx hb hK hP 3 0 rfl rfl rfl (by omega) (by decide) dX5_isLength_93 ?_
          refine lv_iadd hx hb dX5_isLength_94 (lv_topi (fun x17 e17 => ?_))
          have q17 : x17 = 10 * (T a0 - 48) + T (a0 + 1) := by rw [e17]; skip
          subst q17
          refine lv_bipush (v := 48) hx hb dX5_isLength_95 (by decide) ?_
          refine lv_isub hx hb dX5_isLength_97 (lv_topi (fun x18 e18 => ?_))
          have q18 : x18 = 10 * (T a0 - 48) + T (a0 + 1) - 48 := by rw [e18]; skip
          subst q18
          refine lv_istore_n (lv' := [(1, .int (10 * (T a0 - 48) + T (a0 + 1) - 48)), (0, .ref (a 0))]) hx hb dX5_isLength_98 rfl hl (by decide) rfl (fun ls hl => ?_)
          refine lv_aload_n hx hb dX5_isLength_99 rfl (lv_at hl 1 rfl) ?_
          refine lv_dup hx hb dX5_isLength_100 rfl ?_
          refine g5 hx hb hts hown hK hP 0 rfl 6 (by decide) flX5_108 (fun _ h => h) (v := .int (nI (a0 + 1))) rfl dX5_isLength_101 ?_
          refine lv_iconst (v := 1) hx hb dX5_isLength_104 (by decide) ?_
          refine lv_iadd hx hb dX5_isLength_105 (lv_topi (fun x19 e19 => ?_))
          have q19 : x19 = nI (a0 + 1 + 1) := by rw [e19]; exact nI_1 (a0 + 1)
          subst q19
          refine f5 hx hb hts hown hK hP hD hS 0 rfl 6 (by decide) flX5_108 (fun _ h => h) rfl rfl rfl (Nat.le_of_ble_eq_true rfl) dX5_isLength_106 (fun H locs hP hD hS => ?_)
          have hP : va_P D vwCl (mdW cI a N P T U (us v 6 (nI (a0 + 1 + 1)))) H := hP
          have hD : va_D (va_A (mdW cI a N P T U v) s.heap.size) (mdW cI a N P T U (us v 6 (nI (a0 + 1 + 1)))) := hD
          refine lv_aload_n hx hb dX5_isLength_109 rfl (lv_at hl 1 rfl) ?_
          refine g5 hx hb hts hown hK hP 0 rfl 8 (by decide) flX5_19 (fun _ h => h) (v := .ref (a 4)) rfl dX5_isLength_110 ?_
          refine lv_iconst (v := 3) hx hb dX5_isLength_113 (by decide) ?_
          refine lv_aload_n hx hb dX5_isLength_114 rfl (lv_at hl 1 rfl) ?_
          refine g5 hx hb hts hown hK hP 0 rfl 9 (by decide) flX5_122 (fun _ h => h) (v := .int (nI k)) (by rw [← hk]; rfl) dX5_isLength_115 ?_
          refine lv_imul hx hb dX5_isLength_118 (lv_topi (fun x20 e20 => ?_))
          have q20 : x20 = nI (3 * k) := by rw [e20]; exact pk_mul 3 k
          subst q20
          refine lv_iconst (v := 1) hx hb dX5_isLength_119 (by decide) ?_
          refine lv_iadd hx hb dX5_isLength_120 (lv_topi (fun x21 e21 => ?_))
          have q21 : x21 = nI (3 * k + 1) := by rw [e21]; exact nI_add (3 * k) 1
          subst q21
          refine lv_iload_n hx hb dX5_isLength_121 rfl (lv_at hl 0 rfl) ?_
          refine k_ast (k := 3 * k + 1) hx hb hK hP hD hS 4 0 rfl rfl rfl (by omega) (by decide) dX5_isLength_122 (fun H locs hP hD hS => ?_)
          have hP : va_P D vwCl (mdW cI a N P T (upd U (3 * k + 1) (10 * (T a0 - 48) + T (a0 + 1) - 48)) (us v 6 (nI (a0 + 1 + 1)))) H := hP
          have hD : va_D (va_A (mdW cI a N P T U v) s.heap.size) (mdW cI a N P T (upd U (3 * k + 1) (10 * (T a0 - 48) + T (a0 + 1) - 48)) (us v 6 (nI (a0 + 1 + 1)))) := hD
          refine lv_iconst (v := 1) hx hb dX5_isLength_123 (by decide) ?_
          have w22 : (upd U (3 * k + 1) (10 * (T a0 - 48) + T (a0 + 1) - 48)) = (m_lU T z a0 k U) := by simp only [lt55, m_la, m_lk, m_lv, m_lU, m_f7, us_at, if_true, if_false, Bool.false_eq_true, reduceIte, hd1, hg5, h5, ht1]; first | done | rfl | exact (us_v (us v 6 _) 7).symm
          have hP : va_P D vwCl (mdW cI a N P T (m_lU T z a0 k U) (us v 6 (nI (a0 + 1 + 1)))) H := (congrArg (fun zz => va_P D vwCl (mdW cI a N P T zz (us v 6 (nI (a0 + 1 + 1)))) H) w22).mp hP
          have hD : va_D (va_A (mdW cI a N P T U v) s.heap.size) (mdW cI a N P T (m_lU T z a0 k U) (us v 6 (nI (a0 + 1 + 1)))) := (congrArg (fun zz => va_D (va_A (mdW cI a N P T U v) s.heap.size) (mdW cI a N P T zz (us v 6 (nI (a0 + 1 + 1))))) w22).mp hD
          have w23 : (us v 6 (nI (a0 + 1 + 1))) = (us (us v 6 (nI (m_la T z a0))) 7 (m_f7 (m_lk T z a0) (m_la T z a0) z (v 7))) := by simp only [lt55, m_la, m_lk, m_lv, m_lU, m_f7, us_at, if_true, if_false, Bool.false_eq_true, reduceIte, hd1, hg5, h5, ht1]; first | done | rfl | exact (us_v (us v 6 _) 7).symm
          have hP : va_P D vwCl (mdW cI a N P T (m_lU T z a0 k U) (us (us v 6 (nI (m_la T z a0))) 7 (m_f7 (m_lk T z a0) (m_la T z a0) z (v 7)))) H := (congrArg (fun zz => va_P D vwCl (mdW cI a N P T (m_lU T z a0 k U) zz) H) w23).mp hP
          have hD : va_D (va_A (mdW cI a N P T U v) s.heap.size) (mdW cI a N P T (m_lU T z a0 k U) (us (us v 6 (nI (m_la T z a0))) 7 (m_f7 (m_lk T z a0) (m_la T z a0) z (v 7)))) := (congrArg (fun zz => va_D (va_A (mdW cI a N P T U v) s.heap.size) (mdW cI a N P T (m_lU T z a0 k U) zz)) w23).mp hD
          have hP : va_P D vwCl (mdW cI a N P T (m_lU T z a0 k U) (us (us v 6 (nI (m_la T z a0))) 7 (m_f7 (m_lk T z a0) (m_la T z a0) z (v 7)))) H := hP
          have hD : va_D (va_A (mdW cI a N P T U v) s.heap.size) (mdW cI a N P T (m_lU T z a0 k U) (us (us v 6 (nI (m_la T z a0))) 7 (m_f7 (m_lk T z a0) (m_la T z a0) z (v 7)))) := hD
          exact k_eMz hx hb hr hlocks rfl hP hS (by exact bI_one (by simp only [lt55, m_la, m_lk, m_lv, m_lU, m_f7, us_at, if_true, if_false, Bool.false_eq_true, reduceIte, hd1, hg5, h5, ht1])) dX5_isLength_124
    · have c4' := Int32.not_le.mp c4
      have hl5 := c4'
      refine lv_aload_n hx hb dX5_isLength_44 rfl (lv_at hl 1 rfl) ?_
      refine lv_bipush (v := 48) hx hb dX5_isLength_45 (by decide) ?_
      refine lv_bipush (v := 57) hx hb dX5_isLength_47 (by decide) ?_
      refine k_riV (As := [.int 48, .int 57]) (rest := []) (wc := mdW cI a N P T U (us v 6 (nI (a0 + 1)))) ⟨hx, hb, hml, hown, hts⟩ (c_X5_isAt l D cI cS cL a N P T U (us v 6 (nI (a0 + 1))) _ (a0 + 1) z 48 57 (by first | rfl | exact ha) hq4 (by omega) (by omega)) lkX5_115 rfl rfl ⟨(Nat.le_of_ble_eq_true rfl), (Nat.le_of_ble_eq_true rfl)⟩ (va_recv hK hP (ci := 4) (q0 := 0) rfl rfl) hK hE hP hD rfl hl.1 rfl (Nat.le_of_ble_eq_true rfl) dX5_isLength_49 ⟨Nat.zero_le _, Nat.zero_le _⟩ ?_
      refine lv_if_ne (tgt := 60) hx hb dX5_isLength_52 (by decide) (fun c24 => ?_) (fun c24 => ?_)
      · have c24 := bI_neT c24
        have ht1 := c24
        have hlt2 := m_at_lt ht1
        refine lv_iload_n hx hb dX5_isLength_60 rfl (lv_at hl 0 rfl) ?_
        refine lv_iconst (v := 5) hx hb dX5_isLength_61 (by decide) ?_
        refine lv_icmp_lt (tgt := 81) hx hb dX5_isLength_62 (by decide) (fun _ => ?_) (fun h => absurd (hl5) h)
        refine lv_bipush (v := 10) hx hb dX5_isLength_81 (by decide) ?_
        refine lv_iload_n hx hb dX5_isLength_83 rfl (lv_at hl 0 rfl) ?_
        refine lv_imul hx hb dX5_isLength_84 (lv_topi (fun x26 e26 => ?_))
        have q26 : x26 = 10 * (T a0 - 48) := by rw [e26]; skip
        subst q26
        refine lv_aload_n hx hb dX5_isLength_85 rfl (lv_at hl 1 rfl) ?_
        refine g5 hx hb hts hown hK hP 0 rfl 3 (by decide) flX5_16 (fun _ h => h) (v := .ref (a 3)) rfl dX5_isLength_86 ?_
        refine lv_aload_n hx hb dX5_isLength_89 rfl (lv_at hl 1 rfl) ?_
        refine g5 hx hb hts hown hK hP 0 rfl 6 (by decide) flX5_108 (fun _ h => h) (v := .int (nI (a0 + 1))) rfl dX5_isLength_90 ?_
        refine k_ald (k := a0 + 1) hx hb hK hP 3 0 rfl rfl rfl (by omega) (by decide) dX5_isLength_93 ?_
        refine lv_iadd hx hb dX5_isLength_94 (lv_topi (fun x27 e27 => ?_))
        have q27 : x27 = 10 * (T a0 - 48) + T (a0 + 1) := by rw [e27]; skip
        subst q27
        refine lv_bipush (v := 48) hx hb dX5_isLength_95 (by decide) ?_
        refine lv_isub hx hb dX5_isLength_97 (lv_topi (fun x28 e28 => ?_))
        have q28 : x28 = 10 * (T a0 - 48) + T (a0 + 1) - 48 := by rw [e28]; skip
        subst q28
        refine lv_istore_n (lv' := [(1, .int (10 * (T a0 - 48) + T (a0 + 1) - 48)), (0, .ref (a 0))]) hx hb dX5_isLength_98 rfl hl (by decide) rfl (fun ls hl => ?_)
        refine lv_aload_n hx hb dX5_isLength_99 rfl (lv_at hl 1 rfl) ?_
        refine lv_dup hx hb dX5_isLength_100 rfl ?_
        refine g5 hx hb hts hown hK hP 0 rfl 6 (by decide) flX5_108 (fun _ h => h) (v := .int (nI (a0 + 1))) rfl dX5_isLength_101 ?_
        refine lv_iconst (v := 1) hx hb dX5_isLength_104 (by decide) ?_
        refine lv_iadd hx hb dX5_isLength_105 (lv_topi (fun x29 e29 => ?_))
        have q29 : x29 = nI (a0 + 1 + 1) := by rw [e29]; exact nI_1 (a0 + 1)
        subst q29
        refine f5 hx hb hts hown hK hP hD hS 0 rfl 6 (by decide) flX5_108 (fun _ h => h) rfl rfl rfl (Nat.le_of_ble_eq_true rfl) dX5_isLength_106 (fun H locs hP hD hS => ?_)
        have hP : va_P D vwCl (mdW cI a N P T U (us v 6 (nI (a0 + 1 + 1)))) H := hP
        have hD : va_D (va_A (mdW cI a N P T U v) s.heap.size) (mdW cI a N P T U (us v 6 (nI (a0 + 1 + 1)))) := hD
        refine lv_aload_n hx hb dX5_isLength_109 rfl (lv_at hl 1 rfl) ?_
        refine g5 hx hb hts hown hK hP 0 rfl 8 (by decide) flX5_19 (fun _ h => h) (v := .ref (a 4)) rfl dX5_isLength_110 ?_
        refine lv_iconst (v := 3) hx hb dX5_isLength_113 (by decide) ?_
        refine lv_aload_n hx hb dX5_isLength_114 rfl (lv_at hl 1 rfl) ?_
        refine g5 hx hb hts hown hK hP 0 rfl 9 (by decide) flX5_122 (fun _ h => h) (v := .int (nI k)) (by rw [← hk]; rfl) dX5_isLength_115 ?_
        refine lv_imul hx hb dX5_isLength_118 (lv_topi (fun x30 e30 => ?_))
        have q30 : x30 = nI (3 * k) := by rw [e30]; exact pk_mul 3 k
        subst q30
        refine lv_iconst (v := 1) hx hb dX5_isLength_119 (by decide) ?_
        refine lv_iadd hx hb dX5_isLength_120 (lv_topi (fun x31 e31 => ?_))
        have q31 : x31 = nI (3 * k + 1) := by rw [e31]; exact nI_add (3 * k) 1
        subst q31
        refine lv_iload_n hx hb dX5_isLength_121 rfl (lv_at hl 0 rfl) ?_
        refine k_ast (k := 3 * k + 1) hx hb hK hP hD hS 4 0 rfl rfl rfl (by omega) (by decide) dX5_isLength_122 (fun H locs hP hD hS => ?_)
        have hP : va_P D vwCl (mdW cI a N P T (upd U (3 * k + 1) (10 * (T a0 - 48) + T (a0 + 1) - 48)) (us v 6 (nI (a0 + 1 + 1)))) H := hP
        have hD : va_D (va_A (mdW cI a N P T U v) s.heap.size) (mdW cI a N P T (upd U (3 * k + 1) (10 * (T a0 - 48) + T (a0 + 1) - 48)) (us v 6 (nI (a0 + 1 + 1)))) := hD
        refine lv_iconst (v := 1) hx hb dX5_isLength_123 (by decide) ?_
        have w32 : (upd U (3 * k + 1) (10 * (T a0 - 48) + T (a0 + 1) - 48)) = (m_lU T z a0 k U) := by simp only [lt55, m_la, m_lk, m_lv, m_lU, m_f7, us_at, if_true, if_false, Bool.false_eq_true, reduceIte, hd1, hl5, ht1]; first | done | rfl | exact (us_v (us v 6 _) 7).symm
        have hP : va_P D vwCl (mdW cI a N P T (m_lU T z a0 k U) (us v 6 (nI (a0 + 1 + 1)))) H := (congrArg (fun zz => va_P D vwCl (mdW cI a N P T zz (us v 6 (nI (a0 + 1 + 1)))) H) w32).mp hP
        have hD : va_D (va_A (mdW cI a N P T U v) s.heap.size) (mdW cI a N P T (m_lU T z a0 k U) (us v 6 (nI (a0 + 1 + 1)))) := (congrArg (fun zz => va_D (va_A (mdW cI a N P T U v) s.heap.size) (mdW cI a N P T zz (us v 6 (nI (a0 + 1 + 1))))) w32).mp hD
        have w33 : (us v 6 (nI (a0 + 1 + 1))) = (us (us v 6 (nI (m_la T z a0))) 7 (m_f7 (m_lk T z a0) (m_la T z a0) z (v 7))) := by simp only [lt55, m_la, m_lk, m_lv, m_lU, m_f7, us_at, if_true, if_false, Bool.false_eq_true, reduceIte, hd1, hl5, ht1]; first | done | rfl | exact (us_v (us v 6 _) 7).symm
        have hP : va_P D vwCl (mdW cI a N P T (m_lU T z a0 k U) (us (us v 6 (nI (m_la T z a0))) 7 (m_f7 (m_lk T z a0) (m_la T z a0) z (v 7)))) H := (congrArg (fun zz => va_P D vwCl (mdW cI a N P T (m_lU T z a0 k U) zz) H) w33).mp hP
        have hD : va_D (va_A (mdW cI a N P T U v) s.heap.size) (mdW cI a N P T (m_lU T z a0 k U) (us (us v 6 (nI (m_la T z a0))) 7 (m_f7 (m_lk T z a0) (m_la T z a0) z (v 7)))) := (congrArg (fun zz => va_D (va_A (mdW cI a N P T U v) s.heap.size) (mdW cI a N P T (m_lU T z a0 k U) zz)) w33).mp hD
        have hP : va_P D vwCl (mdW cI a N P T (m_lU T z a0 k U) (us (us v 6 (nI (m_la T z a0))) 7 (m_f7 (m_lk T z a0) (m_la T z a0) z (v 7)))) H := hP
        have hD : va_D (va_A (mdW cI a N P T U v) s.heap.size) (mdW cI a N P T (m_lU T z a0 k U) (us (us v 6 (nI (m_la T z a0))) 7 (m_f7 (m_lk T z a0) (m_la T z a0) z (v 7)))) := hD
        exact k_eMz hx hb hr hlocks rfl hP hS (by exact bI_one (by simp only [lt55, m_la, m_lk, m_lv, m_lU, m_f7, us_at, if_true, if_false, Bool.false_eq_true, reduceIte, hd1, hl5, ht1])) dX5_isLength_124
      · have c24 := bI_eqF c24
        have ht0 := c24
        refine lv_aload_n hx hb dX5_isLength_55 rfl (lv_at hl 1 rfl) ?_
        refine k_miV (As := []) (rest := []) (w1 := []) (wc := mdW cI a N P T U (us v 6 (nI (a0 + 1)))) (wc' := mdW cI a N P T U (us (us v 6 (nI (a0 + 1))) 7 (bI (decide ((a0 + 1) < z))))) (w3 := []) ⟨hx, hb, hml, hown, hts⟩ (c_X5_stops l D cI cS cL a N P T U (us v 6 (nI (a0 + 1))) _ (a0 + 1) z (by first | rfl | exact ha) hq4 (by omega) (by omega)) lkX5_118 rfl rfl ⟨(Nat.le_of_ble_eq_true rfl), (Nat.le_of_ble_eq_true rfl)⟩ (va_recv hK hP (ci := 4) (q0 := 0) rfl rfl) hK hE hP hD hS hA rfl rfl hl.1 rfl (Nat.le_of_ble_eq_true rfl) dX5_isLength_56 ⟨Nat.zero_le _, Nat.zero_le _⟩ (fun H locs hzz hP hD hS => ?_)
        have hP : va_P D vwCl (mdW cI a N P T U (us (us v 6 (nI (a0 + 1))) 7 (bI (decide ((a0 + 1) < z))))) H := hP
        have hD : va_D (va_A (mdW cI a N P T U v) s.heap.size) (mdW cI a N P T U (us (us v 6 (nI (a0 + 1))) 7 (bI (decide ((a0 + 1) < z))))) := hD
        have w34 : U = (m_lU T z a0 k U) := by simp only [lt55, m_la, m_lk, m_lv, m_lU, m_f7, us_at, if_true, if_false, Bool.false_eq_true, reduceIte, hd1, hl5, ht0]; first | done | rfl | exact (us_v (us v 6 _) 7).symm
        have hP : va_P D vwCl (mdW cI a N P T (m_lU T z a0 k U) (us (us v 6 (nI (a0 + 1))) 7 (bI (decide ((a0 + 1) < z))))) H := (congrArg (fun zz => va_P D vwCl (mdW cI a N P T zz (us (us v 6 (nI (a0 + 1))) 7 (bI (decide ((a0 + 1) < z))))) H) w34).mp hP
        have hD : va_D (va_A (mdW cI a N P T U v) s.heap.size) (mdW cI a N P T (m_lU T z a0 k U) (us (us v 6 (nI (a0 + 1))) 7 (bI (decide ((a0 + 1) < z))))) := (congrArg (fun zz => va_D (va_A (mdW cI a N P T U v) s.heap.size) (mdW cI a N P T zz (us (us v 6 (nI (a0 + 1))) 7 (bI (decide ((a0 + 1) < z)))))) w34).mp hD
        have w35 : (us (us v 6 (nI (a0 + 1))) 7 (bI (decide ((a0 + 1) < z)))) = (us (us v 6 (nI (m_la T z a0))) 7 (m_f7 (m_lk T z a0) (m_la T z a0) z (v 7))) := by simp only [lt55, m_la, m_lk, m_lv, m_lU, m_f7, us_at, if_true, if_false, Bool.false_eq_true, reduceIte, hd1, hl5, ht0]; first | done | rfl | exact (us_v (us v 6 _) 7).symm
        have hP : va_P D vwCl (mdW cI a N P T (m_lU T z a0 k U) (us (us v 6 (nI (m_la T z a0))) 7 (m_f7 (m_lk T z a0) (m_la T z a0) z (v 7)))) H := (congrArg (fun zz => va_P D vwCl (mdW cI a N P T (m_lU T z a0 k U) zz) H) w35).mp hP
        have hD : va_D (va_A (mdW cI a N P T U v) s.heap.size) (mdW cI a N P T (m_lU T z a0 k U) (us (us v 6 (nI (m_la T z a0))) 7 (m_f7 (m_lk T z a0) (m_la T z a0) z (v 7)))) := (congrArg (fun zz => va_D (va_A (mdW cI a N P T U v) s.heap.size) (mdW cI a N P T (m_lU T z a0 k U) zz)) w35).mp hD
        have hP : va_P D vwCl (mdW cI a N P T (m_lU T z a0 k U) (us (us v 6 (nI (m_la T z a0))) 7 (m_f7 (m_lk T z a0) (m_la T z a0) z (v 7)))) H := hP
        have hD : va_D (va_A (mdW cI a N P T U v) s.heap.size) (mdW cI a N P T (m_lU T z a0 k U) (us (us v 6 (nI (m_la T z a0))) 7 (m_f7 (m_lk T z a0) (m_la T z a0) z (v 7)))) := hD
        exact k_eMz hx hb hr hlocks rfl hP hS (by exact bI_zero (by simp only [lt55, m_la, m_lk, m_lv, m_lU, m_f7, us_at, if_true, if_false, Bool.false_eq_true, reduceIte, hd1, hl5, ht0])) dX5_isLength_59
  · have c1 := bI_eqF c1
    have hd0 := c1
    refine lv_aload_n hx hb dX5_isLength_11 rfl (lv_at hl 0 rfl) ?_
    refine k_miV (As := []) (rest := []) (w1 := []) (wc := mdW cI a N P T U v) (wc' := mdW cI a N P T U (us v 7 (bI (decide (a0 < z))))) (w3 := []) ⟨hx, hb, hml, hown, hts⟩ (c_X5_stops l D cI cS cL a N P T U v _ a0 z (by first | rfl | exact ha) hq4 (by omega) (by omega)) lkX5_118 rfl rfl ⟨(Nat.le_of_ble_eq_true rfl), (Nat.le_of_ble_eq_true rfl)⟩ (va_recv hK hP (ci := 4) (q0 := 0) rfl rfl) hK hE hP hD hS hA rfl rfl hl.1 rfl (Nat.le_of_ble_eq_true rfl) dX5_isLength_12 ⟨Nat.zero_le _, Nat.zero_le _⟩ (fun H locs hzz hP hD hS => ?_)
    have hP : va_P D vwCl (mdW cI a N P T U (us v 7 (bI (decide (a0 < z))))) H := hP
    have hD : va_D (va_A (mdW cI a N P T U v) s.heap.size) (mdW cI a N P T U (us v 7 (bI (decide (a0 < z))))) := hD
    have w36 : U = (m_lU T z a0 k U) := by simp only [lt55, m_la, m_lk, m_lv, m_lU, m_f7, us_at, if_true, if_false, Bool.false_eq_true, reduceIte, hd0]; first | done | rfl | (rw [← ha, us_v])
    have hP : va_P D vwCl (mdW cI a N P T (m_lU T z a0 k U) (us v 7 (bI (decide (a0 < z))))) H := (congrArg (fun zz => va_P D vwCl (mdW cI a N P T zz (us v 7 (bI (decide (a0 < z))))) H) w36).mp hP
    have hD : va_D (va_A (mdW cI a N P T U v) s.heap.size) (mdW cI a N P T (m_lU T z a0 k U) (us v 7 (bI (decide (a0 < z))))) := (congrArg (fun zz => va_D (va_A (mdW cI a N P T U v) s.heap.size) (mdW cI a N P T zz (us v 7 (bI (decide (a0 < z)))))) w36).mp hD
    have w37 : (us v 7 (bI (decide (a0 < z)))) = (us (us v 6 (nI (m_la T z a0))) 7 (m_f7 (m_lk T z a0) (m_la T z a0) z (v 7))) := by simp only [lt55, m_la, m_lk, m_lv, m_lU, m_f7, us_at, if_true, if_false, Bool.false_eq_true, reduceIte, hd0]; first | done | rfl | (rw [← ha, us_v])
    have hP : va_P D vwCl (mdW cI a N P T (m_lU T z a0 k U) (us (us v 6 (nI (m_la T z a0))) 7 (m_f7 (m_lk T z a0) (m_la T z a0) z (v 7)))) H := (congrArg (fun zz => va_P D vwCl (mdW cI a N P T (m_lU T z a0 k U) zz) H) w37).mp hP
    have hD : va_D (va_A (mdW cI a N P T U v) s.heap.size) (mdW cI a N P T (m_lU T z a0 k U) (us (us v 6 (nI (m_la T z a0))) 7 (m_f7 (m_lk T z a0) (m_la T z a0) z (v 7)))) := (congrArg (fun zz => va_D (va_A (mdW cI a N P T U v) s.heap.size) (mdW cI a N P T (m_lU T z a0 k U) zz)) w37).mp hD
    have hP : va_P D vwCl (mdW cI a N P T (m_lU T z a0 k U) (us (us v 6 (nI (m_la T z a0))) 7 (m_f7 (m_lk T z a0) (m_la T z a0) z (v 7)))) H := hP
    have hD : va_D (va_A (mdW cI a N P T U v) s.heap.size) (mdW cI a N P T (m_lU T z a0 k U) (us (us v 6 (nI (m_la T z a0))) 7 (m_f7 (m_lk T z a0) (m_la T z a0) z (v 7)))) := hD
    exact k_eMz hx hb hr hlocks rfl hP hS (by exact bI_zero (by simp only [lt55, m_la, m_lk, m_lv, m_lU, m_f7, us_at, if_true, if_false, Bool.false_eq_true, reduceIte, hd0])) dX5_isLength_15

abbrev rmX5_isPart : Room := { frames := 3, cells := 0, slots := 0, locals := 65 }
set_option maxHeartbeats 4000000 in
set_option maxRecDepth 100000 in
theorem c_X5_isPart (l : Launch) (D : va_G) (cI cS cL : ClassId) (a : Nat → Nat) (N : NN) (P T U v : Nat → Int32) (sz : Nat) (a0 z k : Nat) (ha : v 6 = nI a0) (hq4 : v 4 = nI z) (hz60 : z ≤ 60) (haz : a0 ≤ z) (hk : v 9 = nI k) (hk15 : k ≤ 15) : Met l yX5_isPart (wy_ yX5_isPart cX5_isPart 2 (some .boolean)) rmX5_isPart (kPc D (kTy cI cS cL) (mdW cI a N P T U v) sz [.ref (a 0)]) (kMi D (mdW cI a N P T U v) (mdW cI a N P T (m_pU T z a0 k U) (us (us v 6 (nI (m_pa T z a0))) 7 (m_f7 (m_pk T z a0) (m_pa T z a0) z (v 7)))) sz (bI (m_pk T z a0))) 0 0 (va_A (mdW cI a N P T U v) sz) := by
  refine k_ofW (by decide) (Nat.le_of_ble_eq_true rfl) ?_
  intro p e s m args below meth c hx hb hr hml hts hown hlocks hnm hsz hP hK hD hE ls hl
  subst hsz
  have hA : ∀ q : Nat, s.heap.size ≤ q → (va_A (mdW cI a N P T U v) s.heap.size) q := fun q h => Or.inr h
  have hS : va_S (va_A (mdW cI a N P T U v) s.heap.size) s.heap s.heap [] := va_S.rf
  have hl : lv_has ls 2 [(0, .ref (a 0))] := hl
  refine lv_aload_n hx hb dX5_isPart_0 rfl (lv_at hl 0 rfl) ?_
  refine g5 hx hb hts hown hK hP 0 rfl 6 (by decide) flX5_108 (fun _ h => h) (v := .int (nI a0)) (by rw [← ha]; rfl) dX5_isPart_1 ?_
  refine lv_aload_n hx hb dX5_isPart_4 rfl (lv_at hl 0 rfl) ?_
  refine g5 hx hb hts hown hK hP 0 rfl 4 (by decide) flX5_105 (fun _ h => h) (v := .int (nI z)) (by rw [← hq4]; rfl) dX5_isPart_5 ?_
  refine lv_icmp_ge (tgt := 23) hx hb dX5_isPart_8 (by decide) (fun c1 => ?_) (fun c1 => ?_)
  · have c1' := Int32.not_lt.mpr c1
    have hge : ¬ a0 < z := by have := k_exit (by omega) haz c1; omega
    refine lv_iconst (v := 0) hx hb dX5_isPart_23 (by decide) ?_
    refine lv_istore_n (lv' := [(1, .int 0), (0, .ref (a 0))]) hx hb dX5_isPart_24 rfl hl (by decide) rfl (fun ls hl => ?_)
    refine lv_aload_n hx hb dX5_isPart_25 rfl (lv_at hl 1 rfl) ?_
    refine g5 hx hb hts hown hK hP 0 rfl 8 (by decide) flX5_19 (fun _ h => h) (v := .ref (a 4)) rfl dX5_isPart_26 ?_
    refine lv_iconst (v := 3) hx hb dX5_isPart_29 (by decide) ?_
    refine lv_aload_n hx hb dX5_isPart_30 rfl (lv_at hl 1 rfl) ?_
    refine g5 hx hb hts hown hK hP 0 rfl 9 (by decide) flX5_122 (fun _ h => h) (v := .int (nI k)) (by rw [← hk]; rfl) dX5_isPart_31 ?_
    refine lv_imul hx hb dX5_isPart_34 (lv_topi (fun x2 e2 => ?_))
    have q2 : x2 = nI (3 * k) := by rw [e2]; exact pk_mul 3 k
    subst q2
    refine lv_iload_n hx hb dX5_isPart_35 rfl (lv_at hl 0 rfl) ?_
    refine lv_bipush (v := 110) hx hb dX5_isPart_36 (by decide) ?_
    refine lv_icmp_ne (tgt := 45) hx hb dX5_isPart_38 (by decide) (fun _ => ?_) (fun h => absurd h (by decide))
    refine lv_iload_n hx hb dX5_isPart_45 rfl (lv_at hl 0 rfl) ?_
    refine lv_bipush (v := 114) hx hb dX5_isPart_46 (by decide) ?_
    refine lv_icmp_ne (tgt := 55) hx hb dX5_isPart_48 (by decide) (fun _ => ?_) (fun h => absurd h (by decide))
    refine lv_iconst (v := 2) hx hb dX5_isPart_55 (by decide) ?_
    refine k_ast (k := 3 * k) hx hb hK hP hD hS 4 0 rfl rfl rfl (by omega) (by decide) dX5_isPart_56 (fun H locs hP hD hS => ?_)
    have hP : va_P D vwCl (mdW cI a N P T (upd U (3 * k) 2) v) H := hP
    have hD : va_D (va_A (mdW cI a N P T U v) s.heap.size) (mdW cI a N P T (upd U (3 * k) 2) v) := hD
    refine lv_iload_n hx hb dX5_isPart_57 rfl (lv_at hl 0 rfl) ?_
    refine lv_bipush (v := 110) hx hb dX5_isPart_58 (by decide) ?_
    refine lv_icmp_eq (tgt := 80) hx hb dX5_isPart_60 (by decide) (fun h => absurd h (by decide)) (fun _ => ?_)
    refine lv_iload_n hx hb dX5_isPart_63 rfl (lv_at hl 0 rfl) ?_
    refine lv_bipush (v := 114) hx hb dX5_isPart_64 (by decide) ?_
    refine lv_icmp_eq (tgt := 80) hx hb dX5_isPart_66 (by decide) (fun h => absurd h (by decide)) (fun _ => ?_)
    refine lv_iload_n hx hb dX5_isPart_69 rfl (lv_at hl 0 rfl) ?_
    refine lv_bipush (v := 108) hx hb dX5_isPart_70 (by decide) ?_
    refine lv_icmp_eq (tgt := 80) hx hb dX5_isPart_72 (by decide) (fun h => absurd h (by decide)) (fun _ => ?_)
    have hch : m_ch T z a0 = 0 := if_neg hge
    have hkk : m_kk (m_ch T z a0) = false := by rw [hch]; decide
    have hks : m_ks (m_ch T z a0) = 2 := by rw [hch]; decide
    refine lv_aload_n hx hb dX5_isPart_75 rfl (lv_at hl 1 rfl) ?_
    refine k_miV (As := []) (rest := []) (w1 := []) (wc := mdW cI a N P T (upd U (3 * k) 2) v) (wc' := mdW cI a N P T (upd U (3 * k) 2) (us v 7 (bI (decide (a0 < z))))) (w3 := []) ⟨hx, hb, hml, hown, hts⟩ (c_X5_stops l D cI cS cL a N P T (upd U (3 * k) 2) v _ a0 z (by first | rfl | exact ha) hq4 (by omega) (by omega)) lkX5_118 rfl rfl ⟨(Nat.le_of_ble_eq_true rfl), (Nat.le_of_ble_eq_true rfl)⟩ (va_recv hK hP (ci := 4) (q0 := 0) rfl rfl) hK hE hP hD hS hA rfl rfl hl.1 rfl (Nat.le_of_ble_eq_true rfl) dX5_isPart_76 ⟨Nat.zero_le _, Nat.zero_le _⟩ (fun H locs hzz hP hD hS => ?_)
    have hP : va_P D vwCl (mdW cI a N P T (upd U (3 * k) 2) (us v 7 (bI (decide (a0 < z))))) H := hP
    have hD : va_D (va_A (mdW cI a N P T U v) s.heap.size) (mdW cI a N P T (upd U (3 * k) 2) (us v 7 (bI (decide (a0 < z))))) := hD
    have w3 : (upd U (3 * k) 2) = (m_pU T z a0 k U) := by simp only [m_pa, m_pk, m_pU, m_f7, us_at, if_true, if_false, Bool.false_eq_true, reduceIte, hkk, hks]; first | done | rfl | exact (us_v (us v 6 _) 7).symm | (rw [← ha, us_v])
    have hP : va_P D vwCl (mdW cI a N P T (m_pU T z a0 k U) (us v 7 (bI (decide (a0 < z))))) H := (congrArg (fun zz => va_P D vwCl (mdW cI a N P T zz (us v 7 (bI (decide (a0 < z))))) H) w3).mp hP
    have hD : va_D (va_A (mdW cI a N P T U v) s.heap.size) (mdW cI a N P T (m_pU T z a0 k U) (us v 7 (bI (decide (a0 < z))))) := (congrArg (fun zz => va_D (va_A (mdW cI a N P T U v) s.heap.size) (mdW cI a N P T zz (us v 7 (bI (decide (a0 < z)))))) w3).mp hD
    have w4 : (us v 7 (bI (decide (a0 < z)))) = (us (us v 6 (nI (m_pa T z a0))) 7 (m_f7 (m_pk T z a0) (m_pa T z a0) z (v 7))) := by simp only [m_pa, m_pk, m_pU, m_f7, us_at, if_true, if_false, Bool.false_eq_true, reduceIte, hkk, hks]; first | done | rfl | exact (us_v (us v 6 _) 7).symm | (rw [← ha, us_v])
    have hP : va_P D vwCl (mdW cI a N P T (m_pU T z a0 k U) (us (us v 6 (nI (m_pa T z a0))) 7 (m_f7 (m_pk T z a0) (m_pa T z a0) z (v 7)))) H := (congrArg (fun zz => va_P D vwCl (mdW cI a N P T (m_pU T z a0 k U) zz) H) w4).mp hP
    have hD : va_D (va_A (mdW cI a N P T U v) s.heap.size) (mdW cI a N P T (m_pU T z a0 k U) (us (us v 6 (nI (m_pa T z a0))) 7 (m_f7 (m_pk T z a0) (m_pa T z a0) z (v 7)))) := (congrArg (fun zz => va_D (va_A (mdW cI a N P T U v) s.heap.size) (mdW cI a N P T (m_pU T z a0 k U) zz)) w4).mp hD
    have hP : va_P D vwCl (mdW cI a N P T (m_pU T z a0 k U) (us (us v 6 (nI (m_pa T z a0))) 7 (m_f7 (m_pk T z a0) (m_pa T z a0) z (v 7)))) H := hP
    have hD : va_D (va_A (mdW cI a N P T U v) s.heap.size) (mdW cI a N P T (m_pU T z a0 k U) (us (us v 6 (nI (m_pa T z a0))) 7 (m_f7 (m_pk T z a0) (m_pa T z a0) z (v 7)))) := hD
    exact k_eMz hx hb hr hlocks rfl hP hS (by exact bI_zero (by simp only [m_pa, m_pk, m_pU, m_f7, us_at, if_true, if_false, Bool.false_eq_true, reduceIte, hkk, hks])) dX5_isPart_79
  · have c1' := Int32.not_le.mp c1
    have hlt : a0 < z := k_more (by omega) haz c1
    refine lv_aload_n hx hb dX5_isPart_11 rfl (lv_at hl 0 rfl) ?_
    refine g5 hx hb hts hown hK hP 0 rfl 3 (by decide) flX5_16 (fun _ h => h) (v := .ref (a 3)) rfl dX5_isPart_12 ?_
    refine lv_aload_n hx hb dX5_isPart_15 rfl (lv_at hl 0 rfl) ?_
    refine g5 hx hb hts hown hK hP 0 rfl 6 (by decide) flX5_108 (fun _ h => h) (v := .int (nI a0)) (by rw [← ha]; rfl) dX5_isPart_16 ?_
    refine k_ald (k := a0) hx hb hK hP 3 0 rfl rfl rfl (by omega) (by decide) dX5_isPart_19 ?_
    refine lv_goto (tgt := 24) hx hb dX5_isPart_20 (by decide) ?_
    refine lv_istore_n (lv' := [(1, .int (T a0)), (0, .ref (a 0))]) hx hb dX5_isPart_24 rfl hl (by decide) rfl (fun ls hl => ?_)
    refine lv_aload_n hx hb dX5_isPart_25 rfl (lv_at hl 1 rfl) ?_
    refine g5 hx hb hts hown hK hP 0 rfl 8 (by decide) flX5_19 (fun _ h => h) (v := .ref (a 4)) rfl dX5_isPart_26 ?_
    refine lv_iconst (v := 3) hx hb dX5_isPart_29 (by decide) ?_
    refine lv_aload_n hx hb dX5_isPart_30 rfl (lv_at hl 1 rfl) ?_
    refine g5 hx hb hts hown hK hP 0 rfl 9 (by decide) flX5_122 (fun _ h => h) (v := .int (nI k)) (by rw [← hk]; rfl) dX5_isPart_31 ?_
    refine lv_imul hx hb dX5_isPart_34 (lv_topi (fun x5 e5 => ?_))
    have q5 : x5 = nI (3 * k) := by rw [e5]; exact pk_mul 3 k
    subst q5
    refine lv_iload_n hx hb dX5_isPart_35 rfl (lv_at hl 0 rfl) ?_
    refine lv_bipush (v := 110) hx hb dX5_isPart_36 (by decide) ?_
    refine lv_icmp_ne (tgt := 45) hx hb dX5_isPart_38 (by decide) (fun c6 => ?_) (fun c6 => ?_)
    · have n110 := c6
      refine lv_iload_n hx hb dX5_isPart_45 rfl (lv_at hl 0 rfl) ?_
      refine lv_bipush (v := 114) hx hb dX5_isPart_46 (by decide) ?_
      refine lv_icmp_ne (tgt := 55) hx hb dX5_isPart_48 (by decide) (fun c7 => ?_) (fun c7 => ?_)
      · have n114 := c7
        refine lv_iconst (v := 2) hx hb dX5_isPart_55 (by decide) ?_
        refine k_ast (k := 3 * k) hx hb hK hP hD hS 4 0 rfl rfl rfl (by omega) (by decide) dX5_isPart_56 (fun H locs hP hD hS => ?_)
        have hP : va_P D vwCl (mdW cI a N P T (upd U (3 * k) 2) v) H := hP
        have hD : va_D (va_A (mdW cI a N P T U v) s.heap.size) (mdW cI a N P T (upd U (3 * k) 2) v) := hD
        refine lv_iload_n hx hb dX5_isPart_57 rfl (lv_at hl 0 rfl) ?_
        refine lv_bipush (v := 110) hx hb dX5_isPart_58 (by decide) ?_
        refine lv_icmp_eq (tgt := 80) hx hb dX5_isPart_60 (by decide) (fun h => absurd h (n110)) (fun _ => ?_)
        refine lv_iload_n hx hb dX5_isPart_63 rfl (lv_at hl 0 rfl) ?_
        refine lv_bipush (v := 114) hx hb dX5_isPart_64 (by decide) ?_
        refine lv_icmp_eq (tgt := 80) hx hb dX5_isPart_66 (by decide) (fun h => absurd h (n114)) (fun _ => ?_)
        refine lv_iload_n hx hb dX5_isPart_69 rfl (lv_at hl 0 rfl) ?_
        refine lv_bipush (v := 108) hx hb dX5_isPart_70 (by decide) ?_
        refine lv_icmp_eq (tgt := 80) hx hb dX5_isPart_72 (by decide) (fun c10 => ?_) (fun c10 => ?_)
        · have h108 := c10
          have hch : m_ch T z a0 = T a0 := if_pos hlt
          have hkk : m_kk (m_ch T z a0) = true := by rw [hch]; exact decide_eq_true (by simp [n110, n114, h108])
          have hks : m_ks (m_ch T z a0) = 2 := by rw [hch]; simp [m_ks, n110, n114, h108]
          refine lv_aload_n hx hb dX5_isPart_80 rfl (lv_at hl 1 rfl) ?_
          refine lv_dup hx hb dX5_isPart_81 rfl ?_
          refine g5 hx hb hts hown hK hP 0 rfl 6 (by decide) flX5_108 (fun _ h => h) (v := .int (nI a0)) (by rw [← ha]; rfl) dX5_isPart_82 ?_
          refine lv_iconst (v := 1) hx hb dX5_isPart_85 (by decide) ?_
          refine lv_iadd hx hb dX5_isPart_86 (lv_topi (fun x11 e11 => ?_))
          have q11 : x11 = nI (a0 + 1) := by rw [e11]; exact nI_1 a0
          subst q11
          refine f5 hx hb hts hown hK hP hD hS 0 rfl 6 (by decide) flX5_108 (fun _ h => h) rfl rfl rfl (Nat.le_of_ble_eq_true rfl) dX5_isPart_87 (fun H locs hP hD hS => ?_)
          have hP : va_P D vwCl (mdW cI a N P T (upd U (3 * k) 2) (us v 6 (nI (a0 + 1)))) H := hP
          have hD : va_D (va_A (mdW cI a N P T U v) s.heap.size) (mdW cI a N P T (upd U (3 * k) 2) (us v 6 (nI (a0 + 1)))) := hD
          refine lv_aload_n hx hb dX5_isPart_90 rfl (lv_at hl 1 rfl) ?_
          refine k_miV (As := []) (rest := []) (w1 := []) (wc := mdW cI a N P T (upd U (3 * k) 2) (us v 6 (nI (a0 + 1)))) (wc' := mdW cI a N P T (m_lU T z (a0 + 1) k (upd U (3 * k) 2)) (us (us v 6 (nI (m_la T z (a0 + 1)))) 7 (m_f7 (m_lk T z (a0 + 1)) (m_la T z (a0 + 1)) z ((us v 6 (nI (a0 + 1))) 7)))) (w3 := []) ⟨hx, hb, hml, hown, hts⟩ (c_X5_isLength l D cI cS cL a N P T (upd U (3 * k) 2) (us v 6 (nI (a0 + 1))) _ (a0 + 1) z k (by first | rfl | exact ha) hq4 (by omega) (by omega) (by first | rfl | exact hk) (by omega)) lkX5_125 rfl rfl ⟨(Nat.le_of_ble_eq_true rfl), (Nat.le_of_ble_eq_true rfl)⟩ (va_recv hK hP (ci := 4) (q0 := 0) rfl rfl) hK hE hP hD hS hA rfl rfl hl.1 rfl (Nat.le_of_ble_eq_true rfl) dX5_isPart_91 ⟨Nat.zero_le _, Nat.zero_le _⟩ (fun H locs hzz hP hD hS => ?_)
          have hP : va_P D vwCl (mdW cI a N P T (m_lU T z (a0 + 1) k (upd U (3 * k) 2)) (us (us v 6 (nI (m_la T z (a0 + 1)))) 7 (m_f7 (m_lk T z (a0 + 1)) (m_la T z (a0 + 1)) z ((us v 6 (nI (a0 + 1))) 7)))) H := hP
          have hD : va_D (va_A (mdW cI a N P T U v) s.heap.size) (mdW cI a N P T (m_lU T z (a0 + 1) k (upd U (3 * k) 2)) (us (us v 6 (nI (m_la T z (a0 + 1)))) 7 (m_f7 (m_lk T z (a0 + 1)) (m_la T z (a0 + 1)) z ((us v 6 (nI (a0 + 1))) 7)))) := hD
          refine lv_if_ne (tgt := 99) hx hb dX5_isPart_94 (by decide) (fun c12 => ?_) (fun c12 => ?_)
          · have c12 := bI_neT c12
            have hlk := c12
            refine lv_aload_n hx hb dX5_isPart_99 rfl (lv_at hl 1 rfl) ?_
            refine lv_bipush (v := 97) hx hb dX5_isPart_100 (by decide) ?_
            refine lv_bipush (v := 99) hx hb dX5_isPart_102 (by decide) ?_
            refine k_riV (As := [.int 97, .int 99]) (rest := []) (wc := mdW cI a N P T (m_lU T z (a0 + 1) k (upd U (3 * k) 2)) (us (us v 6 (nI (m_la T z (a0 + 1)))) 7 (m_f7 (m_lk T z (a0 + 1)) (m_la T z (a0 + 1)) z ((us v 6 (nI (a0 + 1))) 7)))) ⟨hx, hb, hml, hown, hts⟩ (c_X5_isAt l D cI cS cL a N P T (m_lU T z (a0 + 1) k (upd U (3 * k) 2)) (us (us v 6 (nI (m_la T z (a0 + 1)))) 7 (m_f7 (m_lk T z (a0 + 1)) (m_la T z (a0 + 1)) z ((us v 6 (nI (a0 + 1))) 7))) _ (m_la T z (a0 + 1)) z 97 99 (by first | rfl | exact ha) hq4 (by omega) (m_la_le T (by omega))) lkX5_115 rfl rfl ⟨(Nat.le_of_ble_eq_true rfl), (Nat.le_of_ble_eq_true rfl)⟩ (va_recv hK hP (ci := 4) (q0 := 0) rfl rfl) hK hE hP hD rfl hl.1 rfl (Nat.le_of_ble_eq_true rfl) dX5_isPart_104 ⟨Nat.zero_le _, Nat.zero_le _⟩ ?_
            refine lv_if_ne (tgt := 115) hx hb dX5_isPart_107 (by decide) (fun c13 => ?_) (fun c13 => ?_)
            · have c13 := bI_neT c13
              have hat := c13
              have hlt3 := m_at_lt hat
              refine lv_aload_n hx hb dX5_isPart_115 rfl (lv_at hl 1 rfl) ?_
              refine g5 hx hb hts hown hK hP 0 rfl 8 (by decide) flX5_19 (fun _ h => h) (v := .ref (a 4)) rfl dX5_isPart_116 ?_
              refine lv_iconst (v := 3) hx hb dX5_isPart_119 (by decide) ?_
              refine lv_aload_n hx hb dX5_isPart_120 rfl (lv_at hl 1 rfl) ?_
              refine g5 hx hb hts hown hK hP 0 rfl 9 (by decide) flX5_122 (fun _ h => h) (v := .int (nI k)) (by rw [← hk]; rfl) dX5_isPart_121 ?_
              refine lv_imul hx hb dX5_isPart_124 (lv_topi (fun x14 e14 => ?_))
              have q14 : x14 = nI (3 * k) := by rw [e14]; exact pk_mul 3 k
              subst q14
              refine lv_iconst (v := 2) hx hb dX5_isPart_125 (by decide) ?_
              refine lv_iadd hx hb dX5_isPart_126 (lv_topi (fun x15 e15 => ?_))
              have q15 : x15 = nI (3 * k + 2) := by rw [e15]; exact nI_add (3 * k) 2
              subst q15
              refine lv_aload_n hx hb dX5_isPart_127 rfl (lv_at hl 1 rfl) ?_
              refine g5 hx hb hts hown hK hP 0 rfl 3 (by decide) flX5_16 (fun _ h => h) (v := .ref (a 3)) rfl dX5_isPart_128 ?_
              refine lv_aload_n hx hb dX5_isPart_131 rfl (lv_at hl 1 rfl) ?_
              refine g5 hx hb hts hown hK hP 0 rfl 6 (by decide) flX5_108 (fun _ h => h) (v := .int (nI (m_la T z (a0 + 1)))) rfl dX5_isPart_132 ?_
              refine k_ald (k := m_la T z (a0 + 1)) hx hb hK hP 3 0 rfl rfl rfl (by omega) (by decide) dX5_isPart_135 ?_
              refine lv_bipush (v := 97) hx hb dX5_isPart_136 (by decide) ?_
              refine lv_isub hx hb dX5_isPart_138 (lv_topi (fun x16 e16 => ?_))
              have q16 : x16 = T (m_la T z (a0 + 1)) - 97 := by rw [e16]; skip
              subst q16
              refine k_ast (k := 3 * k + 2) hx hb hK hP hD hS 4 0 rfl rfl rfl (by omega) (by decide) dX5_isPart_139 (fun H locs hP hD hS => ?_)
              have hP : va_P D vwCl (mdW cI a N P T (upd (m_lU T z (a0 + 1) k (upd U (3 * k) 2)) (3 * k + 2) (T (m_la T z (a0 + 1)) - 97)) (us (us v 6 (nI (m_la T z (a0 + 1)))) 7 (m_f7 (m_lk T z (a0 + 1)) (m_la T z (a0 + 1)) z ((us v 6 (nI (a0 + 1))) 7)))) H := hP
              have hD : va_D (va_A (mdW cI a N P T U v) s.heap.size) (mdW cI a N P T (upd (m_lU T z (a0 + 1) k (upd U (3 * k) 2)) (3 * k + 2) (T (m_la T z (a0 + 1)) - 97)) (us (us v 6 (nI (m_la T z (a0 + 1)))) 7 (m_f7 (m_lk T z (a0 + 1)) (m_la T z (a0 + 1)) z ((us v 6 (nI (a0 + 1))) 7)))) := hD
              refine lv_aload_n hx hb dX5_isPart_140 rfl (lv_at hl 1 rfl) ?_
              refine lv_dup hx hb dX5_isPart_141 rfl ?_
              refine g5 hx hb hts hown hK hP 0 rfl 6 (by decide) flX5_108 (fun _ h => h) (v := .int (nI (m_la T z (a0 + 1)))) rfl dX5_isPart_142 ?_
              refine lv_iconst (v := 1) hx hb dX5_isPart_145 (by decide) ?_
              refine lv_iadd hx hb dX5_isPart_146 (lv_topi (fun x17 e17 => ?_))
              have q17 : x17 = nI (m_la T z (a0 + 1) + 1) := by rw [e17]; exact nI_1 _
              subst q17
              refine f5 hx hb hts hown hK hP hD hS 0 rfl 6 (by decide) flX5_108 (fun _ h => h) rfl rfl rfl (Nat.le_of_ble_eq_true rfl) dX5_isPart_147 (fun H locs hP hD hS => ?_)
              have hP : va_P D vwCl (mdW cI a N P T (upd (m_lU T z (a0 + 1) k (upd U (3 * k) 2)) (3 * k + 2) (T (m_la T z (a0 + 1)) - 97)) (us (us v 6 (nI (m_la T z (a0 + 1) + 1))) 7 (m_f7 (m_lk T z (a0 + 1)) (m_la T z (a0 + 1)) z ((us v 6 (nI (a0 + 1))) 7)))) H := hP
              have hD : va_D (va_A (mdW cI a N P T U v) s.heap.size) (mdW cI a N P T (upd (m_lU T z (a0 + 1) k (upd U (3 * k) 2)) (3 * k + 2) (T (m_la T z (a0 + 1)) - 97)) (us (us v 6 (nI (m_la T z (a0 + 1) + 1))) 7 (m_f7 (m_lk T z (a0 + 1)) (m_la T z (a0 + 1)) z ((us v 6 (nI (a0 + 1))) 7)))) := hD
              refine lv_iconst (v := 1) hx hb dX5_isPart_150 (by decide) ?_
              have w18 : (upd (m_lU T z (a0 + 1) k (upd U (3 * k) 2)) (3 * k + 2) (T (m_la T z (a0 + 1)) - 97)) = (m_pU T z a0 k U) := by simp only [m_pa, m_pk, m_pU, m_f7, us_at, if_true, if_false, Bool.false_eq_true, reduceIte, hkk, hks, hlk, hat]; first | done | rfl | exact (us_v (us v 6 _) 7).symm | (rw [← ha, us_v])
              have hP : va_P D vwCl (mdW cI a N P T (m_pU T z a0 k U) (us (us v 6 (nI (m_la T z (a0 + 1) + 1))) 7 (m_f7 (m_lk T z (a0 + 1)) (m_la T z (a0 + 1)) z ((us v 6 (nI (a0 + 1))) 7)))) H := (congrArg (fun zz => va_P D vwCl (mdW cI a N P T zz (us (us v 6 (nI (m_la T z (a0 + 1) + 1))) 7 (m_f7 (m_lk T z (a0 + 1)) (m_la T z (a0 + 1)) z ((us v 6 (nI (a0 + 1))) 7)))) H) w18).mp hP
              have hD : va_D (va_A (mdW cI a N P T U v) s.heap.size) (mdW cI a N P T (m_pU T z a0 k U) (us (us v 6 (nI (m_la T z (a0 + 1) + 1))) 7 (m_f7 (m_lk T z (a0 + 1)) (m_la T z (a0 + 1)) z ((us v 6 (nI (a0 + 1))) 7)))) := (congrArg (fun zz => va_D (va_A (mdW cI a N P T U v) s.heap.size) (mdW cI a N P T zz (us (us v 6 (nI (m_la T z (a0 + 1) + 1))) 7 (m_f7 (m_lk T z (a0 + 1)) (m_la T z (a0 + 1)) z ((us v 6 (nI (a0 + 1))) 7))))) w18).mp hD
              have w19 : (us (us v 6 (nI (m_la T z (a0 + 1) + 1))) 7 (m_f7 (m_lk T z (a0 + 1)) (m_la T z (a0 + 1)) z ((us v 6 (nI (a0 + 1))) 7))) = (us (us v 6 (nI (m_pa T z a0))) 7 (m_f7 (m_pk T z a0) (m_pa T z a0) z (v 7))) := by simp only [m_pa, m_pk, m_pU, m_f7, us_at, if_true, if_false, Bool.false_eq_true, reduceIte, hkk, hks, hlk, hat]; first | done | rfl | exact (us_v (us v 6 _) 7).symm | (rw [← ha, us_v])
              have hP : va_P D vwCl (mdW cI a N P T (m_pU T z a0 k U) (us (us v 6 (nI (m_pa T z a0))) 7 (m_f7 (m_pk T z a0) (m_pa T z a0) z (v 7)))) H := (congrArg (fun zz => va_P D vwCl (mdW cI a N P T (m_pU T z a0 k U) zz) H) w19).mp hP
              have hD : va_D (va_A (mdW cI a N P T U v) s.heap.size) (mdW cI a N P T (m_pU T z a0 k U) (us (us v 6 (nI (m_pa T z a0))) 7 (m_f7 (m_pk T z a0) (m_pa T z a0) z (v 7)))) := (congrArg (fun zz => va_D (va_A (mdW cI a N P T U v) s.heap.size) (mdW cI a N P T (m_pU T z a0 k U) zz)) w19).mp hD
              have hP : va_P D vwCl (mdW cI a N P T (m_pU T z a0 k U) (us (us v 6 (nI (m_pa T z a0))) 7 (m_f7 (m_pk T z a0) (m_pa T z a0) z (v 7)))) H := hP
              have hD : va_D (va_A (mdW cI a N P T U v) s.heap.size) (mdW cI a N P T (m_pU T z a0 k U) (us (us v 6 (nI (m_pa T z a0))) 7 (m_f7 (m_pk T z a0) (m_pa T z a0) z (v 7)))) := hD
              exact k_eMz hx hb hr hlocks rfl hP hS (by exact bI_one (by simp only [m_pa, m_pk, m_pU, m_f7, us_at, if_true, if_false, Bool.false_eq_true, reduceIte, hkk, hks, hlk, hat])) dX5_isPart_151
            · have c13 := bI_eqF c13
              have hat := c13
              refine lv_aload_n hx hb dX5_isPart_110 rfl (lv_at hl 1 rfl) ?_
              refine k_miV (As := []) (rest := []) (w1 := []) (wc := mdW cI a N P T (m_lU T z (a0 + 1) k (upd U (3 * k) 2)) (us (us v 6 (nI (m_la T z (a0 + 1)))) 7 (m_f7 (m_lk T z (a0 + 1)) (m_la T z (a0 + 1)) z ((us v 6 (nI (a0 + 1))) 7)))) (wc' := mdW cI a N P T (m_lU T z (a0 + 1) k (upd U (3 * k) 2)) (us (us v 6 (nI (m_la T z (a0 + 1)))) 7 (bI (decide ((m_la T z (a0 + 1)) < z))))) (w3 := []) ⟨hx, hb, hml, hown, hts⟩ (c_X5_stops l D cI cS cL a N P T (m_lU T z (a0 + 1) k (upd U (3 * k) 2)) (us (us v 6 (nI (m_la T z (a0 + 1)))) 7 (m_f7 (m_lk T z (a0 + 1)) (m_la T z (a0 + 1)) z ((us v 6 (nI (a0 + 1))) 7))) _ (m_la T z (a0 + 1)) z (by first | rfl | exact ha) hq4 (by omega) (m_la_le T (by omega))) lkX5_118 rfl rfl ⟨(Nat.le_of_ble_eq_true rfl), (Nat.le_of_ble_eq_true rfl)⟩ (va_recv hK hP (ci := 4) (q0 := 0) rfl rfl) hK hE hP hD hS hA rfl rfl hl.1 rfl (Nat.le_of_ble_eq_true rfl) dX5_isPart_111 ⟨Nat.zero_le _, Nat.zero_le _⟩ (fun H locs hzz hP hD hS => ?_)
              have hP : va_P D vwCl (mdW cI a N P T (m_lU T z (a0 + 1) k (upd U (3 * k) 2)) (us (us v 6 (nI (m_la T z (a0 + 1)))) 7 (bI (decide ((m_la T z (a0 + 1)) < z))))) H := hP
              have hD : va_D (va_A (mdW cI a N P T U v) s.heap.size) (mdW cI a N P T (m_lU T z (a0 + 1) k (upd U (3 * k) 2)) (us (us v 6 (nI (m_la T z (a0 + 1)))) 7 (bI (decide ((m_la T z (a0 + 1)) < z))))) := hD
              have w20 : (m_lU T z (a0 + 1) k (upd U (3 * k) 2)) = (m_pU T z a0 k U) := by simp only [m_pa, m_pk, m_pU, m_f7, us_at, if_true, if_false, Bool.false_eq_true, reduceIte, hkk, hks, hlk, hat]; first | done | rfl | exact (us_v (us v 6 _) 7).symm | (rw [← ha, us_v])
              have hP : va_P D vwCl (mdW cI a N P T (m_pU T z a0 k U) (us (us v 6 (nI (m_la T z (a0 + 1)))) 7 (bI (decide ((m_la T z (a0 + 1)) < z))))) H := (congrArg (fun zz => va_P D vwCl (mdW cI a N P T zz (us (us v 6 (nI (m_la T z (a0 + 1)))) 7 (bI (decide ((m_la T z (a0 + 1)) < z))))) H) w20).mp hP
              have hD : va_D (va_A (mdW cI a N P T U v) s.heap.size) (mdW cI a N P T (m_pU T z a0 k U) (us (us v 6 (nI (m_la T z (a0 + 1)))) 7 (bI (decide ((m_la T z (a0 + 1)) < z))))) := (congrArg (fun zz => va_D (va_A (mdW cI a N P T U v) s.heap.size) (mdW cI a N P T zz (us (us v 6 (nI (m_la T z (a0 + 1)))) 7 (bI (decide ((m_la T z (a0 + 1)) < z)))))) w20).mp hD
              have w21 : (us (us v 6 (nI (m_la T z (a0 + 1)))) 7 (bI (decide ((m_la T z (a0 + 1)) < z)))) = (us (us v 6 (nI (m_pa T z a0))) 7 (m_f7 (m_pk T z a0) (m_pa T z a0) z (v 7))) := by simp only [m_pa, m_pk, m_pU, m_f7, us_at, if_true, if_false, Bool.false_eq_true, reduceIte, hkk, hks, hlk, hat]; first | done | rfl | exact (us_v (us v 6 _) 7).symm | (rw [← ha, us_v])
              have hP : va_P D vwCl (mdW cI a N P T (m_pU T z a0 k U) (us (us v 6 (nI (m_pa T z a0))) 7 (m_f7 (m_pk T z a0) (m_pa T z a0) z (v 7)))) H := (congrArg (fun zz => va_P D vwCl (mdW cI a N P T (m_pU T z a0 k U) zz) H) w21).mp hP
              have hD : va_D (va_A (mdW cI a N P T U v) s.heap.size) (mdW cI a N P T (m_pU T z a0 k U) (us (us v 6 (nI (m_pa T z a0))) 7 (m_f7 (m_pk T z a0) (m_pa T z a0) z (v 7)))) := (congrArg (fun zz => va_D (va_A (mdW cI a N P T U v) s.heap.size) (mdW cI a N P T (m_pU T z a0 k U) zz)) w21).mp hD
              have hP : va_P D vwCl (mdW cI a N P T (m_pU T z a0 k U) (us (us v 6 (nI (m_pa T z a0))) 7 (m_f7 (m_pk T z a0) (m_pa T z a0) z (v 7)))) H := hP
              have hD : va_D (va_A (mdW cI a N P T U v) s.heap.size) (mdW cI a N P T (m_pU T z a0 k U) (us (us v 6 (nI (m_pa T z a0))) 7 (m_f7 (m_pk T z a0) (m_pa T z a0) z (v 7)))) := hD
              exact k_eMz hx hb hr hlocks rfl hP hS (by exact bI_zero (by simp only [m_pa, m_pk, m_pU, m_f7, us_at, if_true, if_false, Bool.false_eq_true, reduceIte, hkk, hks, hlk, hat])) dX5_isPart_114
          · have c12 := bI_eqF c12
            have hlk := c12
            refine lv_iconst (v := 0) hx hb dX5_isPart_97 (by decide) ?_
            have w22 : (m_lU T z (a0 + 1) k (upd U (3 * k) 2)) = (m_pU T z a0 k U) := by simp only [m_pa, m_pk, m_pU, m_f7, us_at, if_true, if_false, Bool.false_eq_true, reduceIte, hkk, hks, hlk]; first | done | rfl | exact (us_v (us v 6 _) 7).symm | (rw [← ha, us_v])
            have hP : va_P D vwCl (mdW cI a N P T (m_pU T z a0 k U) (us (us v 6 (nI (m_la T z (a0 + 1)))) 7 (m_f7 (m_lk T z (a0 + 1)) (m_la T z (a0 + 1)) z ((us v 6 (nI (a0 + 1))) 7)))) H := (congrArg (fun zz => va_P D vwCl (mdW cI a N P T zz (us (us v 6 (nI (m_la T z (a0 + 1)))) 7 (m_f7 (m_lk T z (a0 + 1)) (m_la T z (a0 + 1)) z ((us v 6 (nI (a0 + 1))) 7)))) H) w22).mp hP
            have hD : va_D (va_A (mdW cI a N P T U v) s.heap.size) (mdW cI a N P T (m_pU T z a0 k U) (us (us v 6 (nI (m_la T z (a0 + 1)))) 7 (m_f7 (m_lk T z (a0 + 1)) (m_la T z (a0 + 1)) z ((us v 6 (nI (a0 + 1))) 7)))) := (congrArg (fun zz => va_D (va_A (mdW cI a N P T U v) s.heap.size) (mdW cI a N P T zz (us (us v 6 (nI (m_la T z (a0 + 1)))) 7 (m_f7 (m_lk T z (a0 + 1)) (m_la T z (a0 + 1)) z ((us v 6 (nI (a0 + 1))) 7))))) w22).mp hD
            have w23 : (us (us v 6 (nI (m_la T z (a0 + 1)))) 7 (m_f7 (m_lk T z (a0 + 1)) (m_la T z (a0 + 1)) z ((us v 6 (nI (a0 + 1))) 7))) = (us (us v 6 (nI (m_pa T z a0))) 7 (m_f7 (m_pk T z a0) (m_pa T z a0) z (v 7))) := by simp only [m_pa, m_pk, m_pU, m_f7, us_at, if_true, if_false, Bool.false_eq_true, reduceIte, hkk, hks, hlk]; first | done | rfl | exact (us_v (us v 6 _) 7).symm | (rw [← ha, us_v])
            have hP : va_P D vwCl (mdW cI a N P T (m_pU T z a0 k U) (us (us v 6 (nI (m_pa T z a0))) 7 (m_f7 (m_pk T z a0) (m_pa T z a0) z (v 7)))) H := (congrArg (fun zz => va_P D vwCl (mdW cI a N P T (m_pU T z a0 k U) zz) H) w23).mp hP
            have hD : va_D (va_A (mdW cI a N P T U v) s.heap.size) (mdW cI a N P T (m_pU T z a0 k U) (us (us v 6 (nI (m_pa T z a0))) 7 (m_f7 (m_pk T z a0) (m_pa T z a0) z (v 7)))) := (congrArg (fun zz => va_D (va_A (mdW cI a N P T U v) s.heap.size) (mdW cI a N P T (m_pU T z a0 k U) zz)) w23).mp hD
            have hP : va_P D vwCl (mdW cI a N P T (m_pU T z a0 k U) (us (us v 6 (nI (m_pa T z a0))) 7 (m_f7 (m_pk T z a0) (m_pa T z a0) z (v 7)))) H := hP
            have hD : va_D (va_A (mdW cI a N P T U v) s.heap.size) (mdW cI a N P T (m_pU T z a0 k U) (us (us v 6 (nI (m_pa T z a0))) 7 (m_f7 (m_pk T z a0) (m_pa T z a0) z (v 7)))) := hD
            exact k_eMz hx hb hr hlocks rfl hP hS (by exact bI_zero (by simp only [m_pa, m_pk, m_pU, m_f7, us_at, if_true, if_false, Bool.false_eq_true, reduceIte, hkk, hks, hlk])) dX5_isPart_98
        · have n108 := c10
          have hch : m_ch T z a0 = T a0 := if_pos hlt
          have hkk : m_kk (m_ch T z a0) = false := by rw [hch]; exact decide_eq_false (by simp [n110, n114, n108])
          have hks : m_ks (m_ch T z a0) = 2 := by rw [hch]; simp [m_ks, n110, n114, n108]
          refine lv_aload_n hx hb dX5_isPart_75 rfl (lv_at hl 1 rfl) ?_
          refine k_miV (As := []) (rest := []) (w1 := []) (wc := mdW cI a N P T (upd U (3 * k) 2) v) (wc' := mdW cI a N P T (upd U (3 * k) 2) (us v 7 (bI (decide (a0 < z))))) (w3 := []) ⟨hx, hb, hml, hown, hts⟩ (c_X5_stops l D cI cS cL a N P T (upd U (3 * k) 2) v _ a0 z (by first | rfl | exact ha) hq4 (by omega) (by omega)) lkX5_118 rfl rfl ⟨(Nat.le_of_ble_eq_true rfl), (Nat.le_of_ble_eq_true rfl)⟩ (va_recv hK hP (ci := 4) (q0 := 0) rfl rfl) hK hE hP hD hS hA rfl rfl hl.1 rfl (Nat.le_of_ble_eq_true rfl) dX5_isPart_76 ⟨Nat.zero_le _, Nat.zero_le _⟩ (fun H locs hzz hP hD hS => ?_)
          have hP : va_P D vwCl (mdW cI a N P T (upd U (3 * k) 2) (us v 7 (bI (decide (a0 < z))))) H := hP
          have hD : va_D (va_A (mdW cI a N P T U v) s.heap.size) (mdW cI a N P T (upd U (3 * k) 2) (us v 7 (bI (decide (a0 < z))))) := hD
          have w24 : (upd U (3 * k) 2) = (m_pU T z a0 k U) := by simp only [m_pa, m_pk, m_pU, m_f7, us_at, if_true, if_false, Bool.false_eq_true, reduceIte, hkk, hks]; first | done | rfl | exact (us_v (us v 6 _) 7).symm | (rw [← ha, us_v])
          have hP : va_P D vwCl (mdW cI a N P T (m_pU T z a0 k U) (us v 7 (bI (decide (a0 < z))))) H := (congrArg (fun zz => va_P D vwCl (mdW cI a N P T zz (us v 7 (bI (decide (a0 < z))))) H) w24).mp hP
          have hD : va_D (va_A (mdW cI a N P T U v) s.heap.size) (mdW cI a N P T (m_pU T z a0 k U) (us v 7 (bI (decide (a0 < z))))) := (congrArg (fun zz => va_D (va_A (mdW cI a N P T U v) s.heap.size) (mdW cI a N P T zz (us v 7 (bI (decide (a0 < z)))))) w24).mp hD
          have w25 : (us v 7 (bI (decide (a0 < z)))) = (us (us v 6 (nI (m_pa T z a0))) 7 (m_f7 (m_pk T z a0) (m_pa T z a0) z (v 7))) := by simp only [m_pa, m_pk, m_pU, m_f7, us_at, if_true, if_false, Bool.false_eq_true, reduceIte, hkk, hks]; first | done | rfl | exact (us_v (us v 6 _) 7).symm | (rw [← ha, us_v])
          have hP : va_P D vwCl (mdW cI a N P T (m_pU T z a0 k U) (us (us v 6 (nI (m_pa T z a0))) 7 (m_f7 (m_pk T z a0) (m_pa T z a0) z (v 7)))) H := (congrArg (fun zz => va_P D vwCl (mdW cI a N P T (m_pU T z a0 k U) zz) H) w25).mp hP
          have hD : va_D (va_A (mdW cI a N P T U v) s.heap.size) (mdW cI a N P T (m_pU T z a0 k U) (us (us v 6 (nI (m_pa T z a0))) 7 (m_f7 (m_pk T z a0) (m_pa T z a0) z (v 7)))) := (congrArg (fun zz => va_D (va_A (mdW cI a N P T U v) s.heap.size) (mdW cI a N P T (m_pU T z a0 k U) zz)) w25).mp hD
          have hP : va_P D vwCl (mdW cI a N P T (m_pU T z a0 k U) (us (us v 6 (nI (m_pa T z a0))) 7 (m_f7 (m_pk T z a0) (m_pa T z a0) z (v 7)))) H := hP
          have hD : va_D (va_A (mdW cI a N P T U v) s.heap.size) (mdW cI a N P T (m_pU T z a0 k U) (us (us v 6 (nI (m_pa T z a0))) 7 (m_f7 (m_pk T z a0) (m_pa T z a0) z (v 7)))) := hD
          exact k_eMz hx hb hr hlocks rfl hP hS (by exact bI_zero (by simp only [m_pa, m_pk, m_pU, m_f7, us_at, if_true, if_false, Bool.false_eq_true, reduceIte, hkk, hks])) dX5_isPart_79
      · have h114 := c7
        refine lv_iconst (v := 1) hx hb dX5_isPart_51 (by decide) ?_
        refine lv_goto (tgt := 56) hx hb dX5_isPart_52 (by decide) ?_
        refine k_ast (k := 3 * k) hx hb hK hP hD hS 4 0 rfl rfl rfl (by omega) (by decide) dX5_isPart_56 (fun H locs hP hD hS => ?_)
        have hP : va_P D vwCl (mdW cI a N P T (upd U (3 * k) 1) v) H := hP
        have hD : va_D (va_A (mdW cI a N P T U v) s.heap.size) (mdW cI a N P T (upd U (3 * k) 1) v) := hD
        refine lv_iload_n hx hb dX5_isPart_57 rfl (lv_at hl 0 rfl) ?_
        refine lv_bipush (v := 110) hx hb dX5_isPart_58 (by decide) ?_
        refine lv_icmp_eq (tgt := 80) hx hb dX5_isPart_60 (by decide) (fun h => absurd h (n110)) (fun _ => ?_)
        refine lv_iload_n hx hb dX5_isPart_63 rfl (lv_at hl 0 rfl) ?_
        refine lv_bipush (v := 114) hx hb dX5_isPart_64 (by decide) ?_
        refine lv_icmp_eq (tgt := 80) hx hb dX5_isPart_66 (by decide) (fun _ => ?_) (fun h => absurd (h114) h)
        have hch : m_ch T z a0 = T a0 := if_pos hlt
        have hkk : m_kk (m_ch T z a0) = true := by rw [hch]; exact decide_eq_true (by simp [n110, h114])
        have hks : m_ks (m_ch T z a0) = 1 := by rw [hch]; simp [m_ks, n110, h114]
        refine lv_aload_n hx hb dX5_isPart_80 rfl (lv_at hl 1 rfl) ?_
        refine lv_dup hx hb dX5_isPart_81 rfl ?_
        refine g5 hx hb hts hown hK hP 0 rfl 6 (by decide) flX5_108 (fun _ h => h) (v := .int (nI a0)) (by rw [← ha]; rfl) dX5_isPart_82 ?_
        refine lv_iconst (v := 1) hx hb dX5_isPart_85 (by decide) ?_
        refine lv_iadd hx hb dX5_isPart_86 (lv_topi (fun x28 e28 => ?_))
        have q28 : x28 = nI (a0 + 1) := by rw [e28]; exact nI_1 a0
        subst q28
        refine f5 hx hb hts hown hK hP hD hS 0 rfl 6 (by decide) flX5_108 (fun _ h => h) rfl rfl rfl (Nat.le_of_ble_eq_true rfl) dX5_isPart_87 (fun H locs hP hD hS => ?_)
        have hP : va_P D vwCl (mdW cI a N P T (upd U (3 * k) 1) (us v 6 (nI (a0 + 1)))) H := hP
        have hD : va_D (va_A (mdW cI a N P T U v) s.heap.size) (mdW cI a N P T (upd U (3 * k) 1) (us v 6 (nI (a0 + 1)))) := hD
        refine lv_aload_n hx hb dX5_isPart_90 rfl (lv_at hl 1 rfl) ?_
        refine k_miV (As := []) (rest := []) (w1 := []) (wc := mdW cI a N P T (upd U (3 * k) 1) (us v 6 (nI (a0 + 1)))) (wc' := mdW cI a N P T (m_lU T z (a0 + 1) k (upd U (3 * k) 1)) (us (us v 6 (nI (m_la T z (a0 + 1)))) 7 (m_f7 (m_lk T z (a0 + 1)) (m_la T z (a0 + 1)) z ((us v 6 (nI (a0 + 1))) 7)))) (w3 := []) ⟨hx, hb, hml, hown, hts⟩ (c_X5_isLength l D cI cS cL a N P T (upd U (3 * k) 1) (us v 6 (nI (a0 + 1))) _ (a0 + 1) z k (by first | rfl | exact ha) hq4 (by omega) (by omega) (by first | rfl | exact hk) (by omega)) lkX5_125 rfl rfl ⟨(Nat.le_of_ble_eq_true rfl), (Nat.le_of_ble_eq_true rfl)⟩ (va_recv hK hP (ci := 4) (q0 := 0) rfl rfl) hK hE hP hD hS hA rfl rfl hl.1 rfl (Nat.le_of_ble_eq_true rfl) dX5_isPart_91 ⟨Nat.zero_le _, Nat.zero_le _⟩ (fun H locs hzz hP hD hS => ?_)
        have hP : va_P D vwCl (mdW cI a N P T (m_lU T z (a0 + 1) k (upd U (3 * k) 1)) (us (us v 6 (nI (m_la T z (a0 + 1)))) 7 (m_f7 (m_lk T z (a0 + 1)) (m_la T z (a0 + 1)) z ((us v 6 (nI (a0 + 1))) 7)))) H := hP
        have hD : va_D (va_A (mdW cI a N P T U v) s.heap.size) (mdW cI a N P T (m_lU T z (a0 + 1) k (upd U (3 * k) 1)) (us (us v 6 (nI (m_la T z (a0 + 1)))) 7 (m_f7 (m_lk T z (a0 + 1)) (m_la T z (a0 + 1)) z ((us v 6 (nI (a0 + 1))) 7)))) := hD
        refine lv_if_ne (tgt := 99) hx hb dX5_isPart_94 (by decide) (fun c29 => ?_) (fun c29 => ?_)
        · have c29 := bI_neT c29
          have hlk := c29
          refine lv_aload_n hx hb dX5_isPart_99 rfl (lv_at hl 1 rfl) ?_
          refine lv_bipush (v := 97) hx hb dX5_isPart_100 (by decide) ?_
          refine lv_bipush (v := 99) hx hb dX5_isPart_102 (by decide) ?_
          refine k_riV (As := [.int 97, .int 99]) (rest := []) (wc := mdW cI a N P T (m_lU T z (a0 + 1) k (upd U (3 * k) 1)) (us (us v 6 (nI (m_la T z (a0 + 1)))) 7 (m_f7 (m_lk T z (a0 + 1)) (m_la T z (a0 + 1)) z ((us v 6 (nI (a0 + 1))) 7)))) ⟨hx, hb, hml, hown, hts⟩ (c_X5_isAt l D cI cS cL a N P T (m_lU T z (a0 + 1) k (upd U (3 * k) 1)) (us (us v 6 (nI (m_la T z (a0 + 1)))) 7 (m_f7 (m_lk T z (a0 + 1)) (m_la T z (a0 + 1)) z ((us v 6 (nI (a0 + 1))) 7))) _ (m_la T z (a0 + 1)) z 97 99 (by first | rfl | exact ha) hq4 (by omega) (m_la_le T (by omega))) lkX5_115 rfl rfl ⟨(Nat.le_of_ble_eq_true rfl), (Nat.le_of_ble_eq_true rfl)⟩ (va_recv hK hP (ci := 4) (q0 := 0) rfl rfl) hK hE hP hD rfl hl.1 rfl (Nat.le_of_ble_eq_true rfl) dX5_isPart_104 ⟨Nat.zero_le _, Nat.zero_le _⟩ ?_
          refine lv_if_ne (tgt := 115) hx hb dX5_isPart_107 (by decide) (fun c30 => ?_) (fun c30 => ?_)
          · have c30 := bI_neT c30
            have hat := c30
            have hlt3 := m_at_lt hat
            refine lv_aload_n hx hb dX5_isPart_115 rfl (lv_at hl 1 rfl) ?_
            refine g5 hx hb hts hown hK hP 0 rfl 8 (by decide) flX5_19 (fun _ h => h) (v := .ref (a 4)) rfl dX5_isPart_116 ?_
            refine lv_iconst (v := 3) hx hb dX5_isPart_119 (by decide) ?_
            refine lv_aload_n hx hb dX5_isPart_120 rfl (lv_at hl 1 rfl) ?_
            refine g5 hx hb hts hown hK hP 0 rfl 9 (by decide) flX5_122 (fun _ h => h) (v := .int (nI k)) (by rw [← hk]; rfl) dX5_isPart_121 ?_
            refine lv_imul hx hb dX5_isPart_124 (lv_topi (fun x31 e31 => ?_))
            have q31 : x31 = nI (3 * k) := by rw [e31]; exact pk_mul 3 k
            subst q31
            refine lv_iconst (v := 2) hx hb dX5_isPart_125 (by decide) ?_
            refine lv_iadd hx hb dX5_isPart_126 (lv_topi (fun x32 e32 => ?_))
            have q32 : x32 = nI (3 * k + 2) := by rw [e32]; exact nI_add (3 * k) 2
            subst q32
            refine lv_aload_n hx hb dX5_isPart_127 rfl (lv_at hl 1 rfl) ?_
            refine g5 hx hb hts hown hK hP 0 rfl 3 (by decide) flX5_16 (fun _ h => h) (v := .ref (a 3)) rfl dX5_isPart_128 ?_
            refine lv_aload_n hx hb dX5_isPart_131 rfl (lv_at hl 1 rfl) ?_
            refine g5 hx hb hts hown hK hP 0 rfl 6 (by decide) flX5_108 (fun _ h => h) (v := .int (nI (m_la T z (a0 + 1)))) rfl dX5_isPart_132 ?_
            refine k_ald (k := m_la T z (a0 + 1)) hx hb hK hP 3 0 rfl rfl rfl (by omega) (by decide) dX5_isPart_135 ?_
            refine lv_bipush (v := 97) hx hb dX5_isPart_136 (by decide) ?_
            refine lv_isub hx hb dX5_isPart_138 (lv_topi (fun x33 e33 => ?_))
            have q33 : x33 = T (m_la T z (a0 + 1)) - 97 := by rw [e33]; skip
            subst q33
            refine k_ast (k := 3 * k + 2) hx hb hK hP hD hS 4 0 rfl rfl rfl (by omega) (by decide) dX5_isPart_139 (fun H locs hP hD hS => ?_)
            have hP : va_P D vwCl (mdW cI a N P T (upd (m_lU T z (a0 + 1) k (upd U (3 * k) 1)) (3 * k + 2) (T (m_la T z (a0 + 1)) - 97)) (us (us v 6 (nI (m_la T z (a0 + 1)))) 7 (m_f7 (m_lk T z (a0 + 1)) (m_la T z (a0 + 1)) z ((us v 6 (nI (a0 + 1))) 7)))) H := hP
            have hD : va_D (va_A (mdW cI a N P T U v) s.heap.size) (mdW cI a N P T (upd (m_lU T z (a0 + 1) k (upd U (3 * k) 1)) (3 * k + 2) (T (m_la T z (a0 + 1)) - 97)) (us (us v 6 (nI (m_la T z (a0 + 1)))) 7 (m_f7 (m_lk T z (a0 + 1)) (m_la T z (a0 + 1)) z ((us v 6 (nI (a0 + 1))) 7)))) := hD
            refine lv_aload_n hx hb dX5_isPart_140 rfl (lv_at hl 1 rfl) ?_
            refine lv_dup hx hb dX5_isPart_141 rfl ?_
            refine g5 hx hb hts hown hK hP 0 rfl 6 (by decide) flX5_108 (fun _ h => h) (v := .int (nI (m_la T z (a0 + 1)))) rfl dX5_isPart_142 ?_
            refine lv_iconst (v := 1) hx hb dX5_isPart_145 (by decide) ?_
            refine lv_iadd hx hb dX5_isPart_146 (lv_topi (fun x34 e34 => ?_))
            have q34 : x34 = nI (m_la T z (a0 + 1) + 1) := by rw [e34]; exact nI_1 _
            subst q34
            refine f5 hx hb hts hown hK hP hD hS 0 rfl 6 (by decide) flX5_108 (fun _ h => h) rfl rfl rfl (Nat.le_of_ble_eq_true rfl) dX5_isPart_147 (fun H locs hP hD hS => ?_)
            have hP : va_P D vwCl (mdW cI a N P T (upd (m_lU T z (a0 + 1) k (upd U (3 * k) 1)) (3 * k + 2) (T (m_la T z (a0 + 1)) - 97)) (us (us v 6 (nI (m_la T z (a0 + 1) + 1))) 7 (m_f7 (m_lk T z (a0 + 1)) (m_la T z (a0 + 1)) z ((us v 6 (nI (a0 + 1))) 7)))) H := hP
            have hD : va_D (va_A (mdW cI a N P T U v) s.heap.size) (mdW cI a N P T (upd (m_lU T z (a0 + 1) k (upd U (3 * k) 1)) (3 * k + 2) (T (m_la T z (a0 + 1)) - 97)) (us (us v 6 (nI (m_la T z (a0 + 1) + 1))) 7 (m_f7 (m_lk T z (a0 + 1)) (m_la T z (a0 + 1)) z ((us v 6 (nI (a0 + 1))) 7)))) := hD
            refine lv_iconst (v := 1) hx hb dX5_isPart_150 (by decide) ?_
            have w35 : (upd (m_lU T z (a0 + 1) k (upd U (3 * k) 1)) (3 * k + 2) (T (m_la T z (a0 + 1)) - 97)) = (m_pU T z a0 k U) := by simp only [m_pa, m_pk, m_pU, m_f7, us_at, if_true, if_false, Bool.false_eq_true, reduceIte, hkk, hks, hlk, hat]; first | done | rfl | exact (us_v (us v 6 _) 7).symm | (rw [← ha, us_v])
            have hP : va_P D vwCl (mdW cI a N P T (m_pU T z a0 k U) (us (us v 6 (nI (m_la T z (a0 + 1) + 1))) 7 (m_f7 (m_lk T z (a0 + 1)) (m_la T z (a0 + 1)) z ((us v 6 (nI (a0 + 1))) 7)))) H := (congrArg (fun zz => va_P D vwCl (mdW cI a N P T zz (us (us v 6 (nI (m_la T z (a0 + 1) + 1))) 7 (m_f7 (m_lk T z (a0 + 1)) (m_la T z (a0 + 1)) z ((us v 6 (nI (a0 + 1))) 7)))) H) w35).mp hP
            have hD : va_D (va_A (mdW cI a N P T U v) s.heap.size) (mdW cI a N P T (m_pU T z a0 k U) (us (us v 6 (nI (m_la T z (a0 + 1) + 1))) 7 (m_f7 (m_lk T z (a0 + 1)) (m_la T z (a0 + 1)) z ((us v 6 (nI (a0 + 1))) 7)))) := (congrArg (fun zz => va_D (va_A (mdW cI a N P T U v) s.heap.size) (mdW cI a N P T zz (us (us v 6 (nI (m_la T z (a0 + 1) + 1))) 7 (m_f7 (m_lk T z (a0 + 1)) (m_la T z (a0 + 1)) z ((us v 6 (nI (a0 + 1))) 7))))) w35).mp hD
            have w36 : (us (us v 6 (nI (m_la T z (a0 + 1) + 1))) 7 (m_f7 (m_lk T z (a0 + 1)) (m_la T z (a0 + 1)) z ((us v 6 (nI (a0 + 1))) 7))) = (us (us v 6 (nI (m_pa T z a0))) 7 (m_f7 (m_pk T z a0) (m_pa T z a0) z (v 7))) := by simp only [m_pa, m_pk, m_pU, m_f7, us_at, if_true, if_false, Bool.false_eq_true, reduceIte, hkk, hks, hlk, hat]; first | done | rfl | exact (us_v (us v 6 _) 7).symm | (rw [← ha, us_v])
            have hP : va_P D vwCl (mdW cI a N P T (m_pU T z a0 k U) (us (us v 6 (nI (m_pa T z a0))) 7 (m_f7 (m_pk T z a0) (m_pa T z a0) z (v 7)))) H := (congrArg (fun zz => va_P D vwCl (mdW cI a N P T (m_pU T z a0 k U) zz) H) w36).mp hP
            have hD : va_D (va_A (mdW cI a N P T U v) s.heap.size) (mdW cI a N P T (m_pU T z a0 k U) (us (us v 6 (nI (m_pa T z a0))) 7 (m_f7 (m_pk T z a0) (m_pa T z a0) z (v 7)))) := (congrArg (fun zz => va_D (va_A (mdW cI a N P T U v) s.heap.size) (mdW cI a N P T (m_pU T z a0 k U) zz)) w36).mp hD
            have hP : va_P D vwCl (mdW cI a N P T (m_pU T z a0 k U) (us (us v 6 (nI (m_pa T z a0))) 7 (m_f7 (m_pk T z a0) (m_pa T z a0) z (v 7)))) H := hP
            have hD : va_D (va_A (mdW cI a N P T U v) s.heap.size) (mdW cI a N P T (m_pU T z a0 k U) (us (us v 6 (nI (m_pa T z a0))) 7 (m_f7 (m_pk T z a0) (m_pa T z a0) z (v 7)))) := hD
            exact k_eMz hx hb hr hlocks rfl hP hS (by exact bI_one (by simp only [m_pa, m_pk, m_pU, m_f7, us_at, if_true, if_false, Bool.false_eq_true, reduceIte, hkk, hks, hlk, hat])) dX5_isPart_151
          · have c30 := bI_eqF c30
            have hat := c30
            refine lv_aload_n hx hb dX5_isPart_110 rfl (lv_at hl 1 rfl) ?_
            refine k_miV (As := []) (rest := []) (w1 := []) (wc := mdW cI a N P T (m_lU T z (a0 + 1) k (upd U (3 * k) 1)) (us (us v 6 (nI (m_la T z (a0 + 1)))) 7 (m_f7 (m_lk T z (a0 + 1)) (m_la T z (a0 + 1)) z ((us v 6 (nI (a0 + 1))) 7)))) (wc' := mdW cI a N P T (m_lU T z (a0 + 1) k (upd U (3 * k) 1)) (us (us v 6 (nI (m_la T z (a0 + 1)))) 7 (bI (decide ((m_la T z (a0 + 1)) < z))))) (w3 := []) ⟨hx, hb, hml, hown, hts⟩ (c_X5_stops l D cI cS cL a N P T (m_lU T z (a0 + 1) k (upd U (3 * k) 1)) (us (us v 6 (nI (m_la T z (a0 + 1)))) 7 (m_f7 (m_lk T z (a0 + 1)) (m_la T z (a0 + 1)) z ((us v 6 (nI (a0 + 1))) 7))) _ (m_la T z (a0 + 1)) z (by first | rfl | exact ha) hq4 (by omega) (m_la_le T (by omega))) lkX5_118 rfl rfl ⟨(Nat.le_of_ble_eq_true rfl), (Nat.le_of_ble_eq_true rfl)⟩ (va_recv hK hP (ci := 4) (q0 := 0) rfl rfl) hK hE hP hD hS hA rfl rfl hl.1 rfl (Nat.le_of_ble_eq_true rfl) dX5_isPart_111 ⟨Nat.zero_le _, Nat.zero_le _⟩ (fun H locs hzz hP hD hS => ?_)
            have hP : va_P D vwCl (mdW cI a N P T (m_lU T z (a0 + 1) k (upd U (3 * k) 1)) (us (us v 6 (nI (m_la T z (a0 + 1)))) 7 (bI (decide ((m_la T z (a0 + 1)) < z))))) H := hP
            have hD : va_D (va_A (mdW cI a N P T U v) s.heap.size) (mdW cI a N P T (m_lU T z (a0 + 1) k (upd U (3 * k) 1)) (us (us v 6 (nI (m_la T z (a0 + 1)))) 7 (bI (decide ((m_la T z (a0 + 1)) < z))))) := hD
            have w37 : (m_lU T z (a0 + 1) k (upd U (3 * k) 1)) = (m_pU T z a0 k U) := by simp only [m_pa, m_pk, m_pU, m_f7, us_at, if_true, if_false, Bool.false_eq_true, reduceIte, hkk, hks, hlk, hat]; first | done | rfl | exact (us_v (us v 6 _) 7).symm | (rw [← ha, us_v])
            have hP : va_P D vwCl (mdW cI a N P T (m_pU T z a0 k U) (us (us v 6 (nI (m_la T z (a0 + 1)))) 7 (bI (decide ((m_la T z (a0 + 1)) < z))))) H := (congrArg (fun zz => va_P D vwCl (mdW cI a N P T zz (us (us v 6 (nI (m_la T z (a0 + 1)))) 7 (bI (decide ((m_la T z (a0 + 1)) < z))))) H) w37).mp hP
            have hD : va_D (va_A (mdW cI a N P T U v) s.heap.size) (mdW cI a N P T (m_pU T z a0 k U) (us (us v 6 (nI (m_la T z (a0 + 1)))) 7 (bI (decide ((m_la T z (a0 + 1)) < z))))) := (congrArg (fun zz => va_D (va_A (mdW cI a N P T U v) s.heap.size) (mdW cI a N P T zz (us (us v 6 (nI (m_la T z (a0 + 1)))) 7 (bI (decide ((m_la T z (a0 + 1)) < z)))))) w37).mp hD
            have w38 : (us (us v 6 (nI (m_la T z (a0 + 1)))) 7 (bI (decide ((m_la T z (a0 + 1)) < z)))) = (us (us v 6 (nI (m_pa T z a0))) 7 (m_f7 (m_pk T z a0) (m_pa T z a0) z (v 7))) := by simp only [m_pa, m_pk, m_pU, m_f7, us_at, if_true, if_false, Bool.false_eq_true, reduceIte, hkk, hks, hlk, hat]; first | done | rfl | exact (us_v (us v 6 _) 7).symm | (rw [← ha, us_v])
            have hP : va_P D vwCl (mdW cI a N P T (m_pU T z a0 k U) (us (us v 6 (nI (m_pa T z a0))) 7 (m_f7 (m_pk T z a0) (m_pa T z a0) z (v 7)))) H := (congrArg (fun zz => va_P D vwCl (mdW cI a N P T (m_pU T z a0 k U) zz) H) w38).mp hP
            have hD : va_D (va_A (mdW cI a N P T U v) s.heap.size) (mdW cI a N P T (m_pU T z a0 k U) (us (us v 6 (nI (m_pa T z a0))) 7 (m_f7 (m_pk T z a0) (m_pa T z a0) z (v 7)))) := (congrArg (fun zz => va_D (va_A (mdW cI a N P T U v) s.heap.size) (mdW cI a N P T (m_pU T z a0 k U) zz)) w38).mp hD
            have hP : va_P D vwCl (mdW cI a N P T (m_pU T z a0 k U) (us (us v 6 (nI (m_pa T z a0))) 7 (m_f7 (m_pk T z a0) (m_pa T z a0) z (v 7)))) H := hP
            have hD : va_D (va_A (mdW cI a N P T U v) s.heap.size) (mdW cI a N P T (m_pU T z a0 k U) (us (us v 6 (nI (m_pa T z a0))) 7 (m_f7 (m_pk T z a0) (m_pa T z a0) z (v 7)))) := hD
            exact k_eMz hx hb hr hlocks rfl hP hS (by exact bI_zero (by simp only [m_pa, m_pk, m_pU, m_f7, us_at, if_true, if_false, Bool.false_eq_true, reduceIte, hkk, hks, hlk, hat])) dX5_isPart_114
        · have c29 := bI_eqF c29
          have hlk := c29
          refine lv_iconst (v := 0) hx hb dX5_isPart_97 (by decide) ?_
          have w39 : (m_lU T z (a0 + 1) k (upd U (3 * k) 1)) = (m_pU T z a0 k U) := by simp only [m_pa, m_pk, m_pU, m_f7, us_at, if_true, if_false, Bool.false_eq_true, reduceIte, hkk, hks, hlk]; first | done | rfl | exact (us_v (us v 6 _) 7).symm | (rw [← ha, us_v])
          have hP : va_P D vwCl (mdW cI a N P T (m_pU T z a0 k U) (us (us v 6 (nI (m_la T z (a0 + 1)))) 7 (m_f7 (m_lk T z (a0 + 1)) (m_la T z (a0 + 1)) z ((us v 6 (nI (a0 + 1))) 7)))) H := (congrArg (fun zz => va_P D vwCl (mdW cI a N P T zz (us (us v 6 (nI (m_la T z (a0 + 1)))) 7 (m_f7 (m_lk T z (a0 + 1)) (m_la T z (a0 + 1)) z ((us v 6 (nI (a0 + 1))) 7)))) H) w39).mp hP
          have hD : va_D (va_A (mdW cI a N P T U v) s.heap.size) (mdW cI a N P T (m_pU T z a0 k U) (us (us v 6 (nI (m_la T z (a0 + 1)))) 7 (m_f7 (m_lk T z (a0 + 1)) (m_la T z (a0 + 1)) z ((us v 6 (nI (a0 + 1))) 7)))) := (congrArg (fun zz => va_D (va_A (mdW cI a N P T U v) s.heap.size) (mdW cI a N P T zz (us (us v 6 (nI (m_la T z (a0 + 1)))) 7 (m_f7 (m_lk T z (a0 + 1)) (m_la T z (a0 + 1)) z ((us v 6 (nI (a0 + 1))) 7))))) w39).mp hD
          have w40 : (us (us v 6 (nI (m_la T z (a0 + 1)))) 7 (m_f7 (m_lk T z (a0 + 1)) (m_la T z (a0 + 1)) z ((us v 6 (nI (a0 + 1))) 7))) = (us (us v 6 (nI (m_pa T z a0))) 7 (m_f7 (m_pk T z a0) (m_pa T z a0) z (v 7))) := by simp only [m_pa, m_pk, m_pU, m_f7, us_at, if_true, if_false, Bool.false_eq_true, reduceIte, hkk, hks, hlk]; first | done | rfl | exact (us_v (us v 6 _) 7).symm | (rw [← ha, us_v])
          have hP : va_P D vwCl (mdW cI a N P T (m_pU T z a0 k U) (us (us v 6 (nI (m_pa T z a0))) 7 (m_f7 (m_pk T z a0) (m_pa T z a0) z (v 7)))) H := (congrArg (fun zz => va_P D vwCl (mdW cI a N P T (m_pU T z a0 k U) zz) H) w40).mp hP
          have hD : va_D (va_A (mdW cI a N P T U v) s.heap.size) (mdW cI a N P T (m_pU T z a0 k U) (us (us v 6 (nI (m_pa T z a0))) 7 (m_f7 (m_pk T z a0) (m_pa T z a0) z (v 7)))) := (congrArg (fun zz => va_D (va_A (mdW cI a N P T U v) s.heap.size) (mdW cI a N P T (m_pU T z a0 k U) zz)) w40).mp hD
          have hP : va_P D vwCl (mdW cI a N P T (m_pU T z a0 k U) (us (us v 6 (nI (m_pa T z a0))) 7 (m_f7 (m_pk T z a0) (m_pa T z a0) z (v 7)))) H := hP
          have hD : va_D (va_A (mdW cI a N P T U v) s.heap.size) (mdW cI a N P T (m_pU T z a0 k U) (us (us v 6 (nI (m_pa T z a0))) 7 (m_f7 (m_pk T z a0) (m_pa T z a0) z (v 7)))) := hD
          exact k_eMz hx hb hr hlocks rfl hP hS (by exact bI_zero (by simp only [m_pa, m_pk, m_pU, m_f7, us_at, if_true, if_false, Bool.false_eq_true, reduceIte, hkk, hks, hlk])) dX5_isPart_98
    · have h110 := c6
      refine lv_iconst (v := 0) hx hb dX5_isPart_41 (by decide) ?_
      refine lv_goto (tgt := 56) hx hb dX5_isPart_42 (by decide) ?_
      refine k_ast (k := 3 * k) hx hb hK hP hD hS 4 0 rfl rfl rfl (by omega) (by decide) dX5_isPart_56 (fun H locs hP hD hS => ?_)
      have hP : va_P D vwCl (mdW cI a N P T (upd U (3 * k) 0) v) H := hP
      have hD : va_D (va_A (mdW cI a N P T U v) s.heap.size) (mdW cI a N P T (upd U (3 * k) 0) v) := hD
      refine lv_iload_n hx hb dX5_isPart_57 rfl (lv_at hl 0 rfl) ?_
      refine lv_bipush (v := 110) hx hb dX5_isPart_58 (by decide) ?_
      refine lv_icmp_eq (tgt := 80) hx hb dX5_isPart_60 (by decide) (fun _ => ?_) (fun h => absurd (h110) h)
      have hch : m_ch T z a0 = T a0 := if_pos hlt
      have hkk : m_kk (m_ch T z a0) = true := by rw [hch]; exact decide_eq_true (by simp [h110])
      have hks : m_ks (m_ch T z a0) = 0 := by rw [hch]; simp [m_ks, h110]
      refine lv_aload_n hx hb dX5_isPart_80 rfl (lv_at hl 1 rfl) ?_
      refine lv_dup hx hb dX5_isPart_81 rfl ?_
      refine g5 hx hb hts hown hK hP 0 rfl 6 (by decide) flX5_108 (fun _ h => h) (v := .int (nI a0)) (by rw [← ha]; rfl) dX5_isPart_82 ?_
      refine lv_iconst (v := 1) hx hb dX5_isPart_85 (by decide) ?_
      refine lv_iadd hx hb dX5_isPart_86 (lv_topi (fun x42 e42 => ?_))
      have q42 : x42 = nI (a0 + 1) := by rw [e42]; exact nI_1 a0
      subst q42
      refine f5 hx hb hts hown hK hP hD hS 0 rfl 6 (by decide) flX5_108 (fun _ h => h) rfl rfl rfl (Nat.le_of_ble_eq_true rfl) dX5_isPart_87 (fun H locs hP hD hS => ?_)
      have hP : va_P D vwCl (mdW cI a N P T (upd U (3 * k) 0) (us v 6 (nI (a0 + 1)))) H := hP
      have hD : va_D (va_A (mdW cI a N P T U v) s.heap.size) (mdW cI a N P T (upd U (3 * k) 0) (us v 6 (nI (a0 + 1)))) := hD
      refine lv_aload_n hx hb dX5_isPart_90 rfl (lv_at hl 1 rfl) ?_
      refine k_miV (As := []) (rest := []) (w1 := []) (wc := mdW cI a N P T (upd U (3 * k) 0) (us v 6 (nI (a0 + 1)))) (wc' := mdW cI a N P T (m_lU T z (a0 + 1) k (upd U (3 * k) 0)) (us (us v 6 (nI (m_la T z (a0 + 1)))) 7 (m_f7 (m_lk T z (a0 + 1)) (m_la T z (a0 + 1)) z ((us v 6 (nI (a0 + 1))) 7)))) (w3 := []) ⟨hx, hb, hml, hown, hts⟩ (c_X5_isLength l D cI cS cL a N P T (upd U (3 * k) 0) (us v 6 (nI (a0 + 1))) _ (a0 + 1) z k (by first | rfl | exact ha) hq4 (by omega) (by omega) (by first | rfl | exact hk) (by omega)) lkX5_125 rfl rfl ⟨(Nat.le_of_ble_eq_true rfl), (Nat.le_of_ble_eq_true rfl)⟩ (va_recv hK hP (ci := 4) (q0 := 0) rfl rfl) hK hE hP hD hS hA rfl rfl hl.1 rfl (Nat.le_of_ble_eq_true rfl) dX5_isPart_91 ⟨Nat.zero_le _, Nat.zero_le _⟩ (fun H locs hzz hP hD hS => ?_)
      have hP : va_P D vwCl (mdW cI a N P T (m_lU T z (a0 + 1) k (upd U (3 * k) 0)) (us (us v 6 (nI (m_la T z (a0 + 1)))) 7 (m_f7 (m_lk T z (a0 + 1)) (m_la T z (a0 + 1)) z ((us v 6 (nI (a0 + 1))) 7)))) H := hP
      have hD : va_D (va_A (mdW cI a N P T U v) s.heap.size) (mdW cI a N P T (m_lU T z (a0 + 1) k (upd U (3 * k) 0)) (us (us v 6 (nI (m_la T z (a0 + 1)))) 7 (m_f7 (m_lk T z (a0 + 1)) (m_la T z (a0 + 1)) z ((us v 6 (nI (a0 + 1))) 7)))) := hD
      refine lv_if_ne (tgt := 99) hx hb dX5_isPart_94 (by decide) (fun c43 => ?_) (fun c43 => ?_)
      · have c43 := bI_neT c43
        have hlk := c43
        refine lv_aload_n hx hb dX5_isPart_99 rfl (lv_at hl 1 rfl) ?_
        refine lv_bipush (v := 97) hx hb dX5_isPart_100 (by decide) ?_
        refine lv_bipush (v := 99) hx hb dX5_isPart_102 (by decide) ?_
        refine k_riV (As := [.int 97, .int 99]) (rest := []) (wc := mdW cI a N P T (m_lU T z (a0 + 1) k (upd U (3 * k) 0)) (us (us v 6 (nI (m_la T z (a0 + 1)))) 7 (m_f7 (m_lk T z (a0 + 1)) (m_la T z (a0 + 1)) z ((us v 6 (nI (a0 + 1))) 7)))) ⟨hx, hb, hml, hown, hts⟩ (c_X5_isAt l D cI cS cL a N P T (m_lU T z (a0 + 1) k (upd U (3 * k) 0)) (us (us v 6 (nI (m_la T z (a0 + 1)))) 7 (m_f7 (m_lk T z (a0 + 1)) (m_la T z (a0 + 1)) z ((us v 6 (nI (a0 + 1))) 7))) _ (m_la T z (a0 + 1)) z 97 99 (by first | rfl | exact ha) hq4 (by omega) (m_la_le T (by omega))) lkX5_115 rfl rfl ⟨(Nat.le_of_ble_eq_true rfl), (Nat.le_of_ble_eq_true rfl)⟩ (va_recv hK hP (ci := 4) (q0 := 0) rfl rfl) hK hE hP hD rfl hl.1 rfl (Nat.le_of_ble_eq_true rfl) dX5_isPart_104 ⟨Nat.zero_le _, Nat.zero_le _⟩ ?_
        refine lv_if_ne (tgt := 115) hx hb dX5_isPart_107 (by decide) (fun c44 => ?_) (fun c44 => ?_)
        · have c44 := bI_neT c44
          have hat := c44
          have hlt3 := m_at_lt hat
          refine lv_aload_n hx hb dX5_isPart_115 rfl (lv_at hl 1 rfl) ?_
          refine g5 hx hb hts hown hK hP 0 rfl 8 (by decide) flX5_19 (fun _ h => h) (v := .ref (a 4)) rfl dX5_isPart_116 ?_
          refine lv_iconst (v := 3) hx hb dX5_isPart_119 (by decide) ?_
          refine lv_aload_n hx hb dX5_isPart_120 rfl (lv_at hl 1 rfl) ?_
          refine g5 hx hb hts hown hK hP 0 rfl 9 (by decide) flX5_122 (fun _ h => h) (v := .int (nI k)) (by rw [← hk]; rfl) dX5_isPart_121 ?_
          refine lv_imul hx hb dX5_isPart_124 (lv_topi (fun x45 e45 => ?_))
          have q45 : x45 = nI (3 * k) := by rw [e45]; exact pk_mul 3 k
          subst q45
          refine lv_iconst (v := 2) hx hb dX5_isPart_125 (by decide) ?_
          refine lv_iadd hx hb dX5_isPart_126 (lv_topi (fun x46 e46 => ?_))
          have q46 : x46 = nI (3 * k + 2) := by rw [e46]; exact nI_add (3 * k) 2
          subst q46
          refine lv_aload_n hx hb dX5_isPart_127 rfl (lv_at hl 1 rfl) ?_
          refine g5 hx hb hts hown hK hP 0 rfl 3 (by decide) flX5_16 (fun _ h => h) (v := .ref (a 3)) rfl dX5_isPart_128 ?_
          refine lv_aload_n hx hb dX5_isPart_131 rfl (lv_at hl 1 rfl) ?_
          refine g5 hx hb hts hown hK hP 0 rfl 6 (by decide) flX5_108 (fun _ h => h) (v := .int (nI (m_la T z (a0 + 1)))) rfl dX5_isPart_132 ?_
          refine k_ald (k := m_la T z (a0 + 1)) hx hb hK hP 3 0 rfl rfl rfl (by omega) (by decide) dX5_isPart_135 ?_
          refine lv_bipush (v := 97) hx hb dX5_isPart_136 (by decide) ?_
          refine lv_isub hx hb dX5_isPart_138 (lv_topi (fun x47 e47 => ?_))
          have q47 : x47 = T (m_la T z (a0 + 1)) - 97 := by rw [e47]; skip
          subst q47
          refine k_ast (k := 3 * k + 2) hx hb hK hP hD hS 4 0 rfl rfl rfl (by omega) (by decide) dX5_isPart_139 (fun H locs hP hD hS => ?_)
          have hP : va_P D vwCl (mdW cI a N P T (upd (m_lU T z (a0 + 1) k (upd U (3 * k) 0)) (3 * k + 2) (T (m_la T z (a0 + 1)) - 97)) (us (us v 6 (nI (m_la T z (a0 + 1)))) 7 (m_f7 (m_lk T z (a0 + 1)) (m_la T z (a0 + 1)) z ((us v 6 (nI (a0 + 1))) 7)))) H := hP
          have hD : va_D (va_A (mdW cI a N P T U v) s.heap.size) (mdW cI a N P T (upd (m_lU T z (a0 + 1) k (upd U (3 * k) 0)) (3 * k + 2) (T (m_la T z (a0 + 1)) - 97)) (us (us v 6 (nI (m_la T z (a0 + 1)))) 7 (m_f7 (m_lk T z (a0 + 1)) (m_la T z (a0 + 1)) z ((us v 6 (nI (a0 + 1))) 7)))) := hD
          refine lv_aload_n hx hb dX5_isPart_140 rfl (lv_at hl 1 rfl) ?_
          refine lv_dup hx hb dX5_isPart_141 rfl ?_
          refine g5 hx hb hts hown hK hP 0 rfl 6 (by decide) flX5_108 (fun _ h => h) (v := .int (nI (m_la T z (a0 + 1)))) rfl dX5_isPart_142 ?_
          refine lv_iconst (v := 1) hx hb dX5_isPart_145 (by decide) ?_
          refine lv_iadd hx hb dX5_isPart_146 (lv_topi (fun x48 e48 => ?_))
          have q48 : x48 = nI (m_la T z (a0 + 1) + 1) := by rw [e48]; exact nI_1 _
          subst q48
          refine f5 hx hb hts hown hK hP hD hS 0 rfl 6 (by decide) flX5_108 (fun _ h => h) rfl rfl rfl (Nat.le_of_ble_eq_true rfl) dX5_isPart_147 (fun H locs hP hD hS => ?_)
          have hP : va_P D vwCl (mdW cI a N P T (upd (m_lU T z (a0 + 1) k (upd U (3 * k) 0)) (3 * k + 2) (T (m_la T z (a0 + 1)) - 97)) (us (us v 6 (nI (m_la T z (a0 + 1) + 1))) 7 (m_f7 (m_lk T z (a0 + 1)) (m_la T z (a0 + 1)) z ((us v 6 (nI (a0 + 1))) 7)))) H := hP
          have hD : va_D (va_A (mdW cI a N P T U v) s.heap.size) (mdW cI a N P T (upd (m_lU T z (a0 + 1) k (upd U (3 * k) 0)) (3 * k + 2) (T (m_la T z (a0 + 1)) - 97)) (us (us v 6 (nI (m_la T z (a0 + 1) + 1))) 7 (m_f7 (m_lk T z (a0 + 1)) (m_la T z (a0 + 1)) z ((us v 6 (nI (a0 + 1))) 7)))) := hD
          refine lv_iconst (v := 1) hx hb dX5_isPart_150 (by decide) ?_
          have w49 : (upd (m_lU T z (a0 + 1) k (upd U (3 * k) 0)) (3 * k + 2) (T (m_la T z (a0 + 1)) - 97)) = (m_pU T z a0 k U) := by simp only [m_pa, m_pk, m_pU, m_f7, us_at, if_true, if_false, Bool.false_eq_true, reduceIte, hkk, hks, hlk, hat]; first | done | rfl | exact (us_v (us v 6 _) 7).symm | (rw [← ha, us_v])
          have hP : va_P D vwCl (mdW cI a N P T (m_pU T z a0 k U) (us (us v 6 (nI (m_la T z (a0 + 1) + 1))) 7 (m_f7 (m_lk T z (a0 + 1)) (m_la T z (a0 + 1)) z ((us v 6 (nI (a0 + 1))) 7)))) H := (congrArg (fun zz => va_P D vwCl (mdW cI a N P T zz (us (us v 6 (nI (m_la T z (a0 + 1) + 1))) 7 (m_f7 (m_lk T z (a0 + 1)) (m_la T z (a0 + 1)) z ((us v 6 (nI (a0 + 1))) 7)))) H) w49).mp hP
          have hD : va_D (va_A (mdW cI a N P T U v) s.heap.size) (mdW cI a N P T (m_pU T z a0 k U) (us (us v 6 (nI (m_la T z (a0 + 1) + 1))) 7 (m_f7 (m_lk T z (a0 + 1)) (m_la T z (a0 + 1)) z ((us v 6 (nI (a0 + 1))) 7)))) := (congrArg (fun zz => va_D (va_A (mdW cI a N P T U v) s.heap.size) (mdW cI a N P T zz (us (us v 6 (nI (m_la T z (a0 + 1) + 1))) 7 (m_f7 (m_lk T z (a0 + 1)) (m_la T z (a0 + 1)) z ((us v 6 (nI (a0 + 1))) 7))))) w49).mp hD
          have w50 : (us (us v 6 (nI (m_la T z (a0 + 1) + 1))) 7 (m_f7 (m_lk T z (a0 + 1)) (m_la T z (a0 + 1)) z ((us v 6 (nI (a0 + 1))) 7))) = (us (us v 6 (nI (m_pa T z a0))) 7 (m_f7 (m_pk T z a0) (m_pa T z a0) z (v 7))) := by simp only [m_pa, m_pk, m_pU, m_f7, us_at, if_true, if_false, Bool.false_eq_true, reduceIte, hkk, hks, hlk, hat]; first | done | rfl | exact (us_v (us v 6 _) 7).symm | (rw [← ha, us_v])
          have hP : va_P D vwCl (mdW cI a N P T (m_pU T z a0 k U) (us (us v 6 (nI (m_pa T z a0))) 7 (m_f7 (m_pk T z a0) (m_pa T z a0) z (v 7)))) H := (congrArg (fun zz => va_P D vwCl (mdW cI a N P T (m_pU T z a0 k U) zz) H) w50).mp hP
          have hD : va_D (va_A (mdW cI a N P T U v) s.heap.size) (mdW cI a N P T (m_pU T z a0 k U) (us (us v 6 (nI (m_pa T z a0))) 7 (m_f7 (m_pk T z a0) (m_pa T z a0) z (v 7)))) := (congrArg (fun zz => va_D (va_A (mdW cI a N P T U v) s.heap.size) (mdW cI a N P T (m_pU T z a0 k U) zz)) w50).mp hD
          have hP : va_P D vwCl (mdW cI a N P T (m_pU T z a0 k U) (us (us v 6 (nI (m_pa T z a0))) 7 (m_f7 (m_pk T z a0) (m_pa T z a0) z (v 7)))) H := hP
          have hD : va_D (va_A (mdW cI a N P T U v) s.heap.size) (mdW cI a N P T (m_pU T z a0 k U) (us (us v 6 (nI (m_pa T z a0))) 7 (m_f7 (m_pk T z a0) (m_pa T z a0) z (v 7)))) := hD
          exact k_eMz hx hb hr hlocks rfl hP hS (by exact bI_one (by simp only [m_pa, m_pk, m_pU, m_f7, us_at, if_true, if_false, Bool.false_eq_true, reduceIte, hkk, hks, hlk, hat])) dX5_isPart_151
        · have c44 := bI_eqF c44
          have hat := c44
          refine lv_aload_n hx hb dX5_isPart_110 rfl (lv_at hl 1 rfl) ?_
          refine k_miV (As := []) (rest := []) (w1 := []) (wc := mdW cI a N P T (m_lU T z (a0 + 1) k (upd U (3 * k) 0)) (us (us v 6 (nI (m_la T z (a0 + 1)))) 7 (m_f7 (m_lk T z (a0 + 1)) (m_la T z (a0 + 1)) z ((us v 6 (nI (a0 + 1))) 7)))) (wc' := mdW cI a N P T (m_lU T z (a0 + 1) k (upd U (3 * k) 0)) (us (us v 6 (nI (m_la T z (a0 + 1)))) 7 (bI (decide ((m_la T z (a0 + 1)) < z))))) (w3 := []) ⟨hx, hb, hml, hown, hts⟩ (c_X5_stops l D cI cS cL a N P T (m_lU T z (a0 + 1) k (upd U (3 * k) 0)) (us (us v 6 (nI (m_la T z (a0 + 1)))) 7 (m_f7 (m_lk T z (a0 + 1)) (m_la T z (a0 + 1)) z ((us v 6 (nI (a0 + 1))) 7))) _ (m_la T z (a0 + 1)) z (by first | rfl | exact ha) hq4 (by omega) (m_la_le T (by omega))) lkX5_118 rfl rfl ⟨(Nat.le_of_ble_eq_true rfl), (Nat.le_of_ble_eq_true rfl)⟩ (va_recv hK hP (ci := 4) (q0 := 0) rfl rfl) hK hE hP hD hS hA rfl rfl hl.1 rfl (Nat.le_of_ble_eq_true rfl) dX5_isPart_111 ⟨Nat.zero_le _, Nat.zero_le _⟩ (fun H locs hzz hP hD hS => ?_)
          have hP : va_P D vwCl (mdW cI a N P T (m_lU T z (a0 + 1) k (upd U (3 * k) 0)) (us (us v 6 (nI (m_la T z (a0 + 1)))) 7 (bI (decide ((m_la T z (a0 + 1)) < z))))) H := hP
          have hD : va_D (va_A (mdW cI a N P T U v) s.heap.size) (mdW cI a N P T (m_lU T z (a0 + 1) k (upd U (3 * k) 0)) (us (us v 6 (nI (m_la T z (a0 + 1)))) 7 (bI (decide ((m_la T z (a0 + 1)) < z))))) := hD
          have w51 : (m_lU T z (a0 + 1) k (upd U (3 * k) 0)) = (m_pU T z a0 k U) := by simp only [m_pa, m_pk, m_pU, m_f7, us_at, if_true, if_false, Bool.false_eq_true, reduceIte, hkk, hks, hlk, hat]; first | done | rfl | exact (us_v (us v 6 _) 7).symm | (rw [← ha, us_v])
          have hP : va_P D vwCl (mdW cI a N P T (m_pU T z a0 k U) (us (us v 6 (nI (m_la T z (a0 + 1)))) 7 (bI (decide ((m_la T z (a0 + 1)) < z))))) H := (congrArg (fun zz => va_P D vwCl (mdW cI a N P T zz (us (us v 6 (nI (m_la T z (a0 + 1)))) 7 (bI (decide ((m_la T z (a0 + 1)) < z))))) H) w51).mp hP
          have hD : va_D (va_A (mdW cI a N P T U v) s.heap.size) (mdW cI a N P T (m_pU T z a0 k U) (us (us v 6 (nI (m_la T z (a0 + 1)))) 7 (bI (decide ((m_la T z (a0 + 1)) < z))))) := (congrArg (fun zz => va_D (va_A (mdW cI a N P T U v) s.heap.size) (mdW cI a N P T zz (us (us v 6 (nI (m_la T z (a0 + 1)))) 7 (bI (decide ((m_la T z (a0 + 1)) < z)))))) w51).mp hD
          have w52 : (us (us v 6 (nI (m_la T z (a0 + 1)))) 7 (bI (decide ((m_la T z (a0 + 1)) < z)))) = (us (us v 6 (nI (m_pa T z a0))) 7 (m_f7 (m_pk T z a0) (m_pa T z a0) z (v 7))) := by simp only [m_pa, m_pk, m_pU, m_f7, us_at, if_true, if_false, Bool.false_eq_true, reduceIte, hkk, hks, hlk, hat]; first | done | rfl | exact (us_v (us v 6 _) 7).symm | (rw [← ha, us_v])
          have hP : va_P D vwCl (mdW cI a N P T (m_pU T z a0 k U) (us (us v 6 (nI (m_pa T z a0))) 7 (m_f7 (m_pk T z a0) (m_pa T z a0) z (v 7)))) H := (congrArg (fun zz => va_P D vwCl (mdW cI a N P T (m_pU T z a0 k U) zz) H) w52).mp hP
          have hD : va_D (va_A (mdW cI a N P T U v) s.heap.size) (mdW cI a N P T (m_pU T z a0 k U) (us (us v 6 (nI (m_pa T z a0))) 7 (m_f7 (m_pk T z a0) (m_pa T z a0) z (v 7)))) := (congrArg (fun zz => va_D (va_A (mdW cI a N P T U v) s.heap.size) (mdW cI a N P T (m_pU T z a0 k U) zz)) w52).mp hD
          have hP : va_P D vwCl (mdW cI a N P T (m_pU T z a0 k U) (us (us v 6 (nI (m_pa T z a0))) 7 (m_f7 (m_pk T z a0) (m_pa T z a0) z (v 7)))) H := hP
          have hD : va_D (va_A (mdW cI a N P T U v) s.heap.size) (mdW cI a N P T (m_pU T z a0 k U) (us (us v 6 (nI (m_pa T z a0))) 7 (m_f7 (m_pk T z a0) (m_pa T z a0) z (v 7)))) := hD
          exact k_eMz hx hb hr hlocks rfl hP hS (by exact bI_zero (by simp only [m_pa, m_pk, m_pU, m_f7, us_at, if_true, if_false, Bool.false_eq_true, reduceIte, hkk, hks, hlk, hat])) dX5_isPart_114
      · have c43 := bI_eqF c43
        have hlk := c43
        refine lv_iconst (v := 0) hx hb dX5_isPart_97 (by decide) ?_
        have w53 : (m_lU T z (a0 + 1) k (upd U (3 * k) 0)) = (m_pU T z a0 k U) := by simp only [m_pa, m_pk, m_pU, m_f7, us_at, if_true, if_false, Bool.false_eq_true, reduceIte, hkk, hks, hlk]; first | done | rfl | exact (us_v (us v 6 _) 7).symm | (rw [← ha, us_v])
        have hP : va_P D vwCl (mdW cI a N P T (m_pU T z a0 k U) (us (us v 6 (nI (m_la T z (a0 + 1)))) 7 (m_f7 (m_lk T z (a0 + 1)) (m_la T z (a0 + 1)) z ((us v 6 (nI (a0 + 1))) 7)))) H := (congrArg (fun zz => va_P D vwCl (mdW cI a N P T zz (us (us v 6 (nI (m_la T z (a0 + 1)))) 7 (m_f7 (m_lk T z (a0 + 1)) (m_la T z (a0 + 1)) z ((us v 6 (nI (a0 + 1))) 7)))) H) w53).mp hP
        have hD : va_D (va_A (mdW cI a N P T U v) s.heap.size) (mdW cI a N P T (m_pU T z a0 k U) (us (us v 6 (nI (m_la T z (a0 + 1)))) 7 (m_f7 (m_lk T z (a0 + 1)) (m_la T z (a0 + 1)) z ((us v 6 (nI (a0 + 1))) 7)))) := (congrArg (fun zz => va_D (va_A (mdW cI a N P T U v) s.heap.size) (mdW cI a N P T zz (us (us v 6 (nI (m_la T z (a0 + 1)))) 7 (m_f7 (m_lk T z (a0 + 1)) (m_la T z (a0 + 1)) z ((us v 6 (nI (a0 + 1))) 7))))) w53).mp hD
        have w54 : (us (us v 6 (nI (m_la T z (a0 + 1)))) 7 (m_f7 (m_lk T z (a0 + 1)) (m_la T z (a0 + 1)) z ((us v 6 (nI (a0 + 1))) 7))) = (us (us v 6 (nI (m_pa T z a0))) 7 (m_f7 (m_pk T z a0) (m_pa T z a0) z (v 7))) := by simp only [m_pa, m_pk, m_pU, m_f7, us_at, if_true, if_false, Bool.false_eq_true, reduceIte, hkk, hks, hlk]; first | done | rfl | exact (us_v (us v 6 _) 7).symm | (rw [← ha, us_v])
        have hP : va_P D vwCl (mdW cI a N P T (m_pU T z a0 k U) (us (us v 6 (nI (m_pa T z a0))) 7 (m_f7 (m_pk T z a0) (m_pa T z a0) z (v 7)))) H := (congrArg (fun zz => va_P D vwCl (mdW cI a N P T (m_pU T z a0 k U) zz) H) w54).mp hP
        have hD : va_D (va_A (mdW cI a N P T U v) s.heap.size) (mdW cI a N P T (m_pU T z a0 k U) (us (us v 6 (nI (m_pa T z a0))) 7 (m_f7 (m_pk T z a0) (m_pa T z a0) z (v 7)))) := (congrArg (fun zz => va_D (va_A (mdW cI a N P T U v) s.heap.size) (mdW cI a N P T (m_pU T z a0 k U) zz)) w54).mp hD
        have hP : va_P D vwCl (mdW cI a N P T (m_pU T z a0 k U) (us (us v 6 (nI (m_pa T z a0))) 7 (m_f7 (m_pk T z a0) (m_pa T z a0) z (v 7)))) H := hP
        have hD : va_D (va_A (mdW cI a N P T U v) s.heap.size) (mdW cI a N P T (m_pU T z a0 k U) (us (us v 6 (nI (m_pa T z a0))) 7 (m_f7 (m_pk T z a0) (m_pa T z a0) z (v 7)))) := hD
        exact k_eMz hx hb hr hlocks rfl hP hS (by exact bI_zero (by simp only [m_pa, m_pk, m_pU, m_f7, us_at, if_true, if_false, Bool.false_eq_true, reduceIte, hkk, hks, hlk])) dX5_isPart_98

abbrev rmX5_isText : Room := { frames := 4, cells := 0, slots := 0, locals := 86 }
set_option maxHeartbeats 4000000 in
set_option maxRecDepth 100000 in
theorem c_X5_isText (l : Launch) (D : va_G) (cI cS cL : ClassId) (a : Nat → Nat) (N : NN) (P T U v : Nat → Int32) (sz : Nat) (z : Nat) (hq4 : v 4 = nI z) (hz60 : z ≤ 60) : Met l yX5_isText (wy_ yX5_isText cX5_isText 2 (some .boolean)) rmX5_isText (kPc D (kTy cI cS cL) (mdW cI a N P T U v) sz [.ref (a 0)]) (kMi D (mdW cI a N P T U v) (mdW cI a N P T (m_tU T z U (m_T T z).2.2.2) (us (us (us v 6 (nI (m_T T z).2.1)) 7 (bI (decide ((m_T T z).2.1 < z)))) 9 (nI (m_T T z).2.2.1))) sz (bI ((m_T T z).1))) 0 0 (va_A (mdW cI a N P T U v) sz) := by
  refine k_ofW (by decide) (Nat.le_of_ble_eq_true rfl) ?_
  intro p e s m args below meth c hx hb hr hml hts hown hlocks hnm hsz hP hK hD hE ls hl
  subst hsz
  have hA : ∀ q : Nat, s.heap.size ≤ q → (va_A (mdW cI a N P T U v) s.heap.size) q := fun q h => Or.inr h
  have hS : va_S (va_A (mdW cI a N P T U v) s.heap.size) s.heap s.heap [] := va_S.rf
  have hl : lv_has ls 2 [(0, .ref (a 0))] := hl
  refine lv_aload_n hx hb dX5_isText_0 rfl (lv_at hl 0 rfl) ?_
  refine lv_iconst (v := 0) hx hb dX5_isText_1 (by decide) ?_
  refine f5 hx hb hts hown hK hP hD hS 0 rfl 6 (by decide) flX5_108 (fun _ h => h) rfl rfl rfl (Nat.le_of_ble_eq_true rfl) dX5_isText_2 (fun H locs hP hD hS => ?_)
  have hP : va_P D vwCl (mdW cI a N P T U (us v 6 0)) H := hP
  have hD : va_D (va_A (mdW cI a N P T U v) s.heap.size) (mdW cI a N P T U (us v 6 0)) := hD
  refine lv_aload_n hx hb dX5_isText_5 rfl (lv_at hl 0 rfl) ?_
  refine lv_iconst (v := 0) hx hb dX5_isText_6 (by decide) ?_
  refine f5 hx hb hts hown hK hP hD hS 0 rfl 9 (by decide) flX5_122 (fun _ h => h) rfl rfl rfl (Nat.le_of_ble_eq_true rfl) dX5_isText_7 (fun H locs hP hD hS => ?_)
  have hP : va_P D vwCl (mdW cI a N P T U (us (us v 6 0) 9 0)) H := hP
  have hD : va_D (va_A (mdW cI a N P T U v) s.heap.size) (mdW cI a N P T U (us (us v 6 0) 9 0)) := hD
  refine lv_aload_n hx hb dX5_isText_10 rfl (lv_at hl 0 rfl) ?_
  refine lv_iconst (v := 0) hx hb dX5_isText_11 (by decide) ?_
  refine f5 hx hb hts hown hK hP hD hS 0 rfl 7 (by decide) flX5_111 (fun _ h => h) rfl (rfl) (rfl) (Nat.le_of_ble_eq_true rfl) dX5_isText_12 (fun H locs hP hD hS => ?_)
  have hP : va_P D vwCl (mdW cI a N P T U (us (us (us v 6 0) 7 0) 9 0)) H := hP
  have hD : va_D (va_A (mdW cI a N P T U v) s.heap.size) (mdW cI a N P T U (us (us (us v 6 0) 7 0) 9 0)) := hD
  refine lv_iconst (v := 1) hx hb dX5_isText_15 (by decide) ?_
  refine lv_istore_n (lv' := [(1, .int 1), (0, .ref (a 0))]) hx hb dX5_isText_16 rfl hl (by decide) rfl (fun ls hl => ?_)
  have L1 : ∀ (f k : Nat), k ≤ 16 → 16 - k < f → (hj : m_tx T z (17 - k) k = m_T T z) → (hI : m_tI T z k) → ∀ (H : Heap) (locs : List Loc), va_P D vwCl (mdW cI a N P T (m_tU T z U k) (us (us (us v 6 (nI (m_tp T z k))) 7 0) 9 (nI k))) H → va_D (va_A (mdW cI a N P T U v) s.heap.size) (mdW cI a N P T (m_tU T z U k) (us (us (us v 6 (nI (m_tp T z k))) 7 0) 9 (nI k))) → va_S (va_A (mdW cI a N P T U v) s.heap.size) s.heap H locs → s.heap.size ≤ H.size → ∀ ls : Array Slot, lv_has ls 2 [(0, .ref (a 0)), (1, .int (bI (m_mo T z k)))] → W p l e rmX5_isText s m args below meth c H locs 0 0 (MQ below (kMi D (mdW cI a N P T U v) (mdW cI a N P T (m_tU T z U (m_T T z).2.2.2) (us (us (us v 6 (nI (m_T T z).2.1)) 7 (bI (decide ((m_T T z).2.1 < z)))) 9 (nI (m_T T z).2.2.1))) s.heap.size (bI ((m_T T z).1))) args s 0 0 (va_A (mdW cI a N P T U v) s.heap.size)) (F0 m 17 ls []) := by
    intro f
    induction f with
    | zero => intro k hv1 hv2; exact absurd hv2 (Nat.not_lt_zero _)
    | succ f ih =>
      intro k hv1 hv2 hj hI H locs hP hD hS hz ls hl
      have hk15 := m_tI_15 hI hz60
      refine lv_iload_n hx hb dX5_isText_17 rfl (lv_at hl 1 rfl) ?_
      refine lv_if_eq (tgt := 70) hx hb dX5_isText_18 (by decide) (fun c2 => ?_) (fun c2 => ?_)
      · have c2 := bI_eqF c2
        have hmo := c2
        have hT := hj.symm.trans (m_tx_end hk15 hmo)
        refine lv_aload_n hx hb dX5_isText_70 rfl (lv_at hl 0 rfl) ?_
        refine lv_aload_n hx hb dX5_isText_71 rfl (lv_at hl 0 rfl) ?_
        refine g5 hx hb hts hown hK hP 0 rfl 6 (by decide) flX5_108 (fun _ h => h) (v := .int (nI (m_tp T z k))) rfl dX5_isText_72 ?_
        refine lv_aload_n hx hb dX5_isText_75 rfl (lv_at hl 0 rfl) ?_
        refine g5 hx hb hts hown hK hP 0 rfl 4 (by decide) flX5_105 (fun _ h => h) (v := .int (nI z)) (by rw [← hq4]; rfl) dX5_isText_76 ?_
        refine lv_icmp_ge (tgt := 86) hx hb dX5_isText_79 (by decide) (fun c3 => ?_) (fun c3 => ?_)
        · have c3' := Int32.not_lt.mpr c3
          have hge : ¬ m_tp T z k < z := by have := k_exit (by omega) hI.2.2 c3; omega
          refine lv_iconst (v := 0) hx hb dX5_isText_86 (by decide) ?_
          refine f5 hx hb hts hown hK hP hD hS 0 rfl 7 (by decide) flX5_111 (fun _ h => h) rfl (rfl) (rfl) (Nat.le_of_ble_eq_true rfl) dX5_isText_87 (fun H locs hP hD hS => ?_)
          have hP : va_P D vwCl (mdW cI a N P T (m_tU T z U k) (us (us (us v 6 (nI (m_tp T z k))) 7 0) 9 (nI k))) H := hP
          have hD : va_D (va_A (mdW cI a N P T U v) s.heap.size) (mdW cI a N P T (m_tU T z U k) (us (us (us v 6 (nI (m_tp T z k))) 7 0) 9 (nI k))) := hD
          refine lv_aload_n hx hb dX5_isText_90 rfl (lv_at hl 0 rfl) ?_
          refine g5 hx hb hts hown hK hP 0 rfl 6 (by decide) flX5_108 (fun _ h => h) (v := .int (nI (m_tp T z k))) rfl dX5_isText_91 ?_
          refine lv_aload_n hx hb dX5_isText_94 rfl (lv_at hl 0 rfl) ?_
          refine g5 hx hb hts hown hK hP 0 rfl 4 (by decide) flX5_105 (fun _ h => h) (v := .int (nI z)) (by rw [← hq4]; rfl) dX5_isText_95 ?_
          refine lv_icmp_ne (tgt := 105) hx hb dX5_isText_98 (by decide) (fun h => absurd (congrArg nI (show m_tp T z k = z by have := hI.2.2; omega)) h) (fun _ => ?_)
          refine lv_iconst (v := 1) hx hb dX5_isText_101 (by decide) ?_
          refine lv_goto (tgt := 106) hx hb dX5_isText_102 (by decide) ?_
          have w5 : (m_tU T z U k) = (m_tU T z U (m_T T z).2.2.2) := by rw [hT]; first | done | rfl
          have hP : va_P D vwCl (mdW cI a N P T (m_tU T z U (m_T T z).2.2.2) (us (us (us v 6 (nI (m_tp T z k))) 7 0) 9 (nI k))) H := (congrArg (fun zz => va_P D vwCl (mdW cI a N P T zz (us (us (us v 6 (nI (m_tp T z k))) 7 0) 9 (nI k))) H) w5).mp hP
          have hD : va_D (va_A (mdW cI a N P T U v) s.heap.size) (mdW cI a N P T (m_tU T z U (m_T T z).2.2.2) (us (us (us v 6 (nI (m_tp T z k))) 7 0) 9 (nI k))) := (congrArg (fun zz => va_D (va_A (mdW cI a N P T U v) s.heap.size) (mdW cI a N P T zz (us (us (us v 6 (nI (m_tp T z k))) 7 0) 9 (nI k)))) w5).mp hD
          have w6 : (us (us (us v 6 (nI (m_tp T z k))) 7 0) 9 (nI k)) = (us (us (us v 6 (nI (m_T T z).2.1)) 7 (bI (decide ((m_T T z).2.1 < z)))) 9 (nI (m_T T z).2.2.1)) := by rw [hT]; simp only [m_f7, hge, us_at, if_true, if_false, Bool.false_eq_true, reduceIte]; first | done | rfl | (rw [bI_f hge])
          have hP : va_P D vwCl (mdW cI a N P T (m_tU T z U (m_T T z).2.2.2) (us (us (us v 6 (nI (m_T T z).2.1)) 7 (bI (decide ((m_T T z).2.1 < z)))) 9 (nI (m_T T z).2.2.1))) H := (congrArg (fun zz => va_P D vwCl (mdW cI a N P T (m_tU T z U (m_T T z).2.2.2) zz) H) w6).mp hP
          have hD : va_D (va_A (mdW cI a N P T U v) s.heap.size) (mdW cI a N P T (m_tU T z U (m_T T z).2.2.2) (us (us (us v 6 (nI (m_T T z).2.1)) 7 (bI (decide ((m_T T z).2.1 < z)))) 9 (nI (m_T T z).2.2.1))) := (congrArg (fun zz => va_D (va_A (mdW cI a N P T U v) s.heap.size) (mdW cI a N P T (m_tU T z U (m_T T z).2.2.2) zz)) w6).mp hD
          have hP : va_P D vwCl (mdW cI a N P T (m_tU T z U (m_T T z).2.2.2) (us (us (us v 6 (nI (m_T T z).2.1)) 7 (bI (decide ((m_T T z).2.1 < z)))) 9 (nI (m_T T z).2.2.1))) H := hP
          have hD : va_D (va_A (mdW cI a N P T U v) s.heap.size) (mdW cI a N P T (m_tU T z U (m_T T z).2.2.2) (us (us (us v 6 (nI (m_T T z).2.1)) 7 (bI (decide ((m_T T z).2.1 < z)))) 9 (nI (m_T T z).2.2.1))) := hD
          exact k_eMz hx hb hr hlocks rfl hP hS (by rw [hT]; first | done | rfl | exact bI_zero (decide_eq_false (by omega)) | exact bI_one (decide_eq_true (by have := hI.2.2; omega))) dX5_isText_106
        · have c3' := Int32.not_le.mp c3
          have hlt : m_tp T z k < z := k_more (by omega) hI.2.2 c3
          refine lv_iconst (v := 1) hx hb dX5_isText_82 (by decide) ?_
          refine lv_goto (tgt := 87) hx hb dX5_isText_83 (by decide) ?_
          refine f5 hx hb hts hown hK hP hD hS 0 rfl 7 (by decide) flX5_111 (fun _ h => h) rfl (rfl) (rfl) (Nat.le_of_ble_eq_true rfl) dX5_isText_87 (fun H locs hP hD hS => ?_)
          have hP : va_P D vwCl (mdW cI a N P T (m_tU T z U k) (us (us (us v 6 (nI (m_tp T z k))) 7 1) 9 (nI k))) H := hP
          have hD : va_D (va_A (mdW cI a N P T U v) s.heap.size) (mdW cI a N P T (m_tU T z U k) (us (us (us v 6 (nI (m_tp T z k))) 7 1) 9 (nI k))) := hD
          refine lv_aload_n hx hb dX5_isText_90 rfl (lv_at hl 0 rfl) ?_
          refine g5 hx hb hts hown hK hP 0 rfl 6 (by decide) flX5_108 (fun _ h => h) (v := .int (nI (m_tp T z k))) rfl dX5_isText_91 ?_
          refine lv_aload_n hx hb dX5_isText_94 rfl (lv_at hl 0 rfl) ?_
          refine g5 hx hb hts hown hK hP 0 rfl 4 (by decide) flX5_105 (fun _ h => h) (v := .int (nI z)) (by rw [← hq4]; rfl) dX5_isText_95 ?_
          refine lv_icmp_ne (tgt := 105) hx hb dX5_isText_98 (by decide) (fun _ => ?_) (fun h => absurd h (fun h => by have := (nI_eq (by omega) (by omega)).mp h; omega))
          refine lv_iconst (v := 0) hx hb dX5_isText_105 (by decide) ?_
          have w8 : (m_tU T z U k) = (m_tU T z U (m_T T z).2.2.2) := by rw [hT]; first | done | rfl
          have hP : va_P D vwCl (mdW cI a N P T (m_tU T z U (m_T T z).2.2.2) (us (us (us v 6 (nI (m_tp T z k))) 7 1) 9 (nI k))) H := (congrArg (fun zz => va_P D vwCl (mdW cI a N P T zz (us (us (us v 6 (nI (m_tp T z k))) 7 1) 9 (nI k))) H) w8).mp hP
          have hD : va_D (va_A (mdW cI a N P T U v) s.heap.size) (mdW cI a N P T (m_tU T z U (m_T T z).2.2.2) (us (us (us v 6 (nI (m_tp T z k))) 7 1) 9 (nI k))) := (congrArg (fun zz => va_D (va_A (mdW cI a N P T U v) s.heap.size) (mdW cI a N P T zz (us (us (us v 6 (nI (m_tp T z k))) 7 1) 9 (nI k)))) w8).mp hD
          have w9 : (us (us (us v 6 (nI (m_tp T z k))) 7 1) 9 (nI k)) = (us (us (us v 6 (nI (m_T T z).2.1)) 7 (bI (decide ((m_T T z).2.1 < z)))) 9 (nI (m_T T z).2.2.1)) := by rw [hT]; simp only [m_f7, hlt, us_at, if_true, if_false, Bool.false_eq_true, reduceIte]; first | done | rfl | (rw [bI_t hlt])
          have hP : va_P D vwCl (mdW cI a N P T (m_tU T z U (m_T T z).2.2.2) (us (us (us v 6 (nI (m_T T z).2.1)) 7 (bI (decide ((m_T T z).2.1 < z)))) 9 (nI (m_T T z).2.2.1))) H := (congrArg (fun zz => va_P D vwCl (mdW cI a N P T (m_tU T z U (m_T T z).2.2.2) zz) H) w9).mp hP
          have hD : va_D (va_A (mdW cI a N P T U v) s.heap.size) (mdW cI a N P T (m_tU T z U (m_T T z).2.2.2) (us (us (us v 6 (nI (m_T T z).2.1)) 7 (bI (decide ((m_T T z).2.1 < z)))) 9 (nI (m_T T z).2.2.1))) := (congrArg (fun zz => va_D (va_A (mdW cI a N P T U v) s.heap.size) (mdW cI a N P T (m_tU T z U (m_T T z).2.2.2) zz)) w9).mp hD
          have hP : va_P D vwCl (mdW cI a N P T (m_tU T z U (m_T T z).2.2.2) (us (us (us v 6 (nI (m_T T z).2.1)) 7 (bI (decide ((m_T T z).2.1 < z)))) 9 (nI (m_T T z).2.2.1))) H := hP
          have hD : va_D (va_A (mdW cI a N P T U v) s.heap.size) (mdW cI a N P T (m_tU T z U (m_T T z).2.2.2) (us (us (us v 6 (nI (m_T T z).2.1)) 7 (bI (decide ((m_T T z).2.1 < z)))) 9 (nI (m_T T z).2.2.1))) := hD
          exact k_eMz hx hb hr hlocks rfl hP hS (by rw [hT]; first | done | rfl | exact bI_zero (decide_eq_false (by omega)) | exact bI_one (decide_eq_true (by have := hI.2.2; omega))) dX5_isText_106
      · have c2 := bI_neT c2
        have hmo := c2
        refine lv_aload_n hx hb dX5_isText_21 rfl (lv_at hl 0 rfl) ?_
        refine k_miV (As := []) (rest := []) (w1 := []) (wc := mdW cI a N P T (m_tU T z U k) (us (us (us v 6 (nI (m_tp T z k))) 7 0) 9 (nI k))) (wc' := mdW cI a N P T (m_pU T z (m_tp T z k) k (m_tU T z U k)) (us (us (us v 6 (nI (m_pa T z (m_tp T z k)))) 7 (m_f7 (m_pk T z (m_tp T z k)) (m_pa T z (m_tp T z k)) z ((us (us (us v 6 (nI (m_tp T z k))) 7 0) 9 (nI k)) 7))) 9 (nI k))) (w3 := []) ⟨hx, hb, hml, hown, hts⟩ (c_X5_isPart l D cI cS cL a N P T (m_tU T z U k) (us (us (us v 6 (nI (m_tp T z k))) 7 0) 9 (nI k)) _ (m_tp T z k) z k (by first | rfl | exact ha) hq4 (by omega) hI.2.2 (by first | rfl | exact hk) hk15) lkX5_128 rfl rfl ⟨(Nat.le_of_ble_eq_true rfl), (Nat.le_of_ble_eq_true rfl)⟩ (va_recv hK hP (ci := 4) (q0 := 0) rfl rfl) hK hE hP hD hS hA rfl rfl hl.1 rfl (Nat.le_of_ble_eq_true rfl) dX5_isText_22 ⟨Nat.zero_le _, Nat.zero_le _⟩ (fun H locs hzz hP hD hS => ?_)
        have hP : va_P D vwCl (mdW cI a N P T (m_pU T z (m_tp T z k) k (m_tU T z U k)) (us (us (us v 6 (nI (m_pa T z (m_tp T z k)))) 7 (m_f7 (m_pk T z (m_tp T z k)) (m_pa T z (m_tp T z k)) z ((us (us (us v 6 (nI (m_tp T z k))) 7 0) 9 (nI k)) 7))) 9 (nI k))) H := hP
        have hD : va_D (va_A (mdW cI a N P T U v) s.heap.size) (mdW cI a N P T (m_pU T z (m_tp T z k) k (m_tU T z U k)) (us (us (us v 6 (nI (m_pa T z (m_tp T z k)))) 7 (m_f7 (m_pk T z (m_tp T z k)) (m_pa T z (m_tp T z k)) z ((us (us (us v 6 (nI (m_tp T z k))) 7 0) 9 (nI k)) 7))) 9 (nI k))) := hD
        refine lv_if_ne (tgt := 30) hx hb dX5_isText_25 (by decide) (fun c10 => ?_) (fun c10 => ?_)
        · have c10 := bI_neT c10
          have hpk := c10
          refine lv_aload_n hx hb dX5_isText_30 rfl (lv_at hl 0 rfl) ?_
          refine lv_dup hx hb dX5_isText_31 rfl ?_
          refine g5 hx hb hts hown hK hP 0 rfl 9 (by decide) flX5_122 (fun _ h => h) (v := .int (nI k)) rfl dX5_isText_32 ?_
          refine lv_iconst (v := 1) hx hb dX5_isText_35 (by decide) ?_
          refine lv_iadd hx hb dX5_isText_36 (lv_topi (fun x11 e11 => ?_))
          have q11 : x11 = nI (k + 1) := by rw [e11]; exact nI_1 k
          subst q11
          refine f5 hx hb hts hown hK hP hD hS 0 rfl 9 (by decide) flX5_122 (fun _ h => h) rfl rfl rfl (Nat.le_of_ble_eq_true rfl) dX5_isText_37 (fun H locs hP hD hS => ?_)
          have hP : va_P D vwCl (mdW cI a N P T (m_pU T z (m_tp T z k) k (m_tU T z U k)) (us (us (us v 6 (nI (m_pa T z (m_tp T z k)))) 7 (m_f7 (m_pk T z (m_tp T z k)) (m_pa T z (m_tp T z k)) z ((us (us (us v 6 (nI (m_tp T z k))) 7 0) 9 (nI k)) 7))) 9 (nI (k + 1)))) H := hP
          have hD : va_D (va_A (mdW cI a N P T U v) s.heap.size) (mdW cI a N P T (m_pU T z (m_tp T z k) k (m_tU T z U k)) (us (us (us v 6 (nI (m_pa T z (m_tp T z k)))) 7 (m_f7 (m_pk T z (m_tp T z k)) (m_pa T z (m_tp T z k)) z ((us (us (us v 6 (nI (m_tp T z k))) 7 0) 9 (nI k)) 7))) 9 (nI (k + 1)))) := hD
          refine lv_aload_n hx hb dX5_isText_40 rfl (lv_at hl 0 rfl) ?_
          refine lv_bipush (v := 44) hx hb dX5_isText_41 (by decide) ?_
          refine lv_bipush (v := 44) hx hb dX5_isText_43 (by decide) ?_
          refine k_riV (As := [.int 44, .int 44]) (rest := []) (wc := mdW cI a N P T (m_pU T z (m_tp T z k) k (m_tU T z U k)) (us (us (us v 6 (nI (m_pa T z (m_tp T z k)))) 7 (m_f7 (m_pk T z (m_tp T z k)) (m_pa T z (m_tp T z k)) z ((us (us (us v 6 (nI (m_tp T z k))) 7 0) 9 (nI k)) 7))) 9 (nI (k + 1)))) ⟨hx, hb, hml, hown, hts⟩ (c_X5_isAt l D cI cS cL a N P T (m_pU T z (m_tp T z k) k (m_tU T z U k)) (us (us (us v 6 (nI (m_pa T z (m_tp T z k)))) 7 (m_f7 (m_pk T z (m_tp T z k)) (m_pa T z (m_tp T z k)) z ((us (us (us v 6 (nI (m_tp T z k))) 7 0) 9 (nI k)) 7))) 9 (nI (k + 1))) _ (m_pa T z (m_tp T z k)) z 44 44 (by first | rfl | exact ha) hq4 (by omega) (m_pa_le T hI.2.2)) lkX5_115 rfl rfl ⟨(Nat.le_of_ble_eq_true rfl), (Nat.le_of_ble_eq_true rfl)⟩ (va_recv hK hP (ci := 4) (q0 := 0) rfl rfl) hK hE hP hD rfl hl.1 rfl (Nat.le_of_ble_eq_true rfl) dX5_isText_45 ⟨Nat.zero_le _, Nat.zero_le _⟩ ?_
          refine lv_istore_n (lv' := [(1, .int (bI (m_at T z (m_pa T z (m_tp T z k)) 44 44))), (0, .ref (a 0))]) hx hb dX5_isText_48 rfl hl (by decide) rfl (fun ls hl => ?_)
          refine lv_aload_n hx hb dX5_isText_49 rfl (lv_at hl 1 rfl) ?_
          refine lv_dup hx hb dX5_isText_50 rfl ?_
          refine g5 hx hb hts hown hK hP 0 rfl 6 (by decide) flX5_108 (fun _ h => h) (v := .int (nI (m_pa T z (m_tp T z k)))) rfl dX5_isText_51 ?_
          refine lv_iload_n hx hb dX5_isText_54 rfl (lv_at hl 0 rfl) ?_
          refine lv_if_eq (tgt := 62) hx hb dX5_isText_55 (by decide) (fun c12 => ?_) (fun c12 => ?_)
          · have c12 := bI_eqF c12
            have hcn := c12
            refine lv_iconst (v := 0) hx hb dX5_isText_62 (by decide) ?_
            refine lv_iadd hx hb dX5_isText_63 (lv_topi (fun x13 e13 => ?_))
            have q13 : x13 = nI (m_tp T z (k + 1)) := by rw [e13]; exact (Int32.add_zero _).trans (congrArg nI (m_tp_n hcn).symm)
            subst q13
            refine f5 hx hb hts hown hK hP hD hS 0 rfl 6 (by decide) flX5_108 (fun _ h => h) rfl rfl rfl (Nat.le_of_ble_eq_true rfl) dX5_isText_64 (fun H locs hP hD hS => ?_)
            have hP : va_P D vwCl (mdW cI a N P T (m_pU T z (m_tp T z k) k (m_tU T z U k)) (us (us (us v 6 (nI (m_tp T z (k + 1)))) 7 (m_f7 (m_pk T z (m_tp T z k)) (m_pa T z (m_tp T z k)) z ((us (us (us v 6 (nI (m_tp T z k))) 7 0) 9 (nI k)) 7))) 9 (nI (k + 1)))) H := hP
            have hD : va_D (va_A (mdW cI a N P T U v) s.heap.size) (mdW cI a N P T (m_pU T z (m_tp T z k) k (m_tU T z U k)) (us (us (us v 6 (nI (m_tp T z (k + 1)))) 7 (m_f7 (m_pk T z (m_tp T z k)) (m_pa T z (m_tp T z k)) z ((us (us (us v 6 (nI (m_tp T z k))) 7 0) 9 (nI k)) 7))) 9 (nI (k + 1)))) := hD
            refine lv_goto (tgt := 17) hx hb dX5_isText_67 (by decide) ?_
            have hl : lv_has ls 2 [(0, .ref (a 0)), (1, .int (bI (m_at T z (m_pa T z (m_tp T z k)) 44 44)))] := lv_sub hl [1, 0] rfl
            have hl : lv_has ls 2 [(0, .ref (a 0)), (1, .int (bI (m_mo T z (k + 1))))] := hl
            have w16 : (us (us (us v 6 (nI (m_tp T z (k + 1)))) 7 (m_f7 (m_pk T z (m_tp T z k)) (m_pa T z (m_tp T z k)) z ((us (us (us v 6 (nI (m_tp T z k))) 7 0) 9 (nI k)) 7))) 9 (nI (k + 1))) = (us (us (us v 6 (nI (m_tp T z (k + 1)))) 7 0) 9 (nI (k + 1))) := by simp only [m_f7, hpk, if_true]; rfl
            have hP : va_P D vwCl (mdW cI a N P T (m_tU T z U (k + 1)) (us (us (us v 6 (nI (m_tp T z (k + 1)))) 7 0) 9 (nI (k + 1)))) H := (congrArg (fun zz => va_P D vwCl (mdW cI a N P T (m_tU T z U (k + 1)) zz) H) w16).mp hP
            have hD : va_D (va_A (mdW cI a N P T U v) s.heap.size) (mdW cI a N P T (m_tU T z U (k + 1)) (us (us (us v 6 (nI (m_tp T z (k + 1)))) 7 0) 9 (nI (k + 1)))) := (congrArg (fun zz => va_D (va_A (mdW cI a N P T U v) s.heap.size) (mdW cI a N P T (m_tU T z U (k + 1)) zz)) w16).mp hD
            have hP : va_P D vwCl (mdW cI a N P T (m_tU T z U (k + 1)) (us (us (us v 6 (nI (m_tp T z (k + 1)))) 7 0) 9 (nI (k + 1)))) H := hP
            have hD : va_D (va_A (mdW cI a N P T U v) s.heap.size) (mdW cI a N P T (m_tU T z U (k + 1)) (us (us (us v 6 (nI (m_tp T z (k + 1)))) 7 0) 9 (nI (k + 1)))) := hD
            exact ih (k + 1) (by omega) (by omega) ((m_tx_step hk15 hmo hpk).symm.trans hj) (m_tI_s hI hmo hpk) H locs hP hD hS hS.1 ls hl
          · have c12 := bI_neT c12
            have hcm := c12
            refine lv_iconst (v := 1) hx hb dX5_isText_58 (by decide) ?_
            refine lv_goto (tgt := 63) hx hb dX5_isText_59 (by decide) ?_
            refine lv_iadd hx hb dX5_isText_63 (lv_topi (fun x17 e17 => ?_))
            have q17 : x17 = nI (m_tp T z (k + 1)) := by rw [e17]; exact (nI_1 _).trans (congrArg nI (m_tp_c hcm).symm)
            subst q17
            refine f5 hx hb hts hown hK hP hD hS 0 rfl 6 (by decide) flX5_108 (fun _ h => h) rfl rfl rfl (Nat.le_of_ble_eq_true rfl) dX5_isText_64 (fun H locs hP hD hS => ?_)
            have hP : va_P D vwCl (mdW cI a N P T (m_pU T z (m_tp T z k) k (m_tU T z U k)) (us (us (us v 6 (nI (m_tp T z (k + 1)))) 7 (m_f7 (m_pk T z (m_tp T z k)) (m_pa T z (m_tp T z k)) z ((us (us (us v 6 (nI (m_tp T z k))) 7 0) 9 (nI k)) 7))) 9 (nI (k + 1)))) H := hP
            have hD : va_D (va_A (mdW cI a N P T U v) s.heap.size) (mdW cI a N P T (m_pU T z (m_tp T z k) k (m_tU T z U k)) (us (us (us v 6 (nI (m_tp T z (k + 1)))) 7 (m_f7 (m_pk T z (m_tp T z k)) (m_pa T z (m_tp T z k)) z ((us (us (us v 6 (nI (m_tp T z k))) 7 0) 9 (nI k)) 7))) 9 (nI (k + 1)))) := hD
            refine lv_goto (tgt := 17) hx hb dX5_isText_67 (by decide) ?_
            have hl : lv_has ls 2 [(0, .ref (a 0)), (1, .int (bI (m_at T z (m_pa T z (m_tp T z k)) 44 44)))] := lv_sub hl [1, 0] rfl
            have hl : lv_has ls 2 [(0, .ref (a 0)), (1, .int (bI (m_mo T z (k + 1))))] := hl
            have w20 : (us (us (us v 6 (nI (m_tp T z (k + 1)))) 7 (m_f7 (m_pk T z (m_tp T z k)) (m_pa T z (m_tp T z k)) z ((us (us (us v 6 (nI (m_tp T z k))) 7 0) 9 (nI k)) 7))) 9 (nI (k + 1))) = (us (us (us v 6 (nI (m_tp T z (k + 1)))) 7 0) 9 (nI (k + 1))) := by simp only [m_f7, hpk, if_true]; rfl
            have hP : va_P D vwCl (mdW cI a N P T (m_tU T z U (k + 1)) (us (us (us v 6 (nI (m_tp T z (k + 1)))) 7 0) 9 (nI (k + 1)))) H := (congrArg (fun zz => va_P D vwCl (mdW cI a N P T (m_tU T z U (k + 1)) zz) H) w20).mp hP
            have hD : va_D (va_A (mdW cI a N P T U v) s.heap.size) (mdW cI a N P T (m_tU T z U (k + 1)) (us (us (us v 6 (nI (m_tp T z (k + 1)))) 7 0) 9 (nI (k + 1)))) := (congrArg (fun zz => va_D (va_A (mdW cI a N P T U v) s.heap.size) (mdW cI a N P T (m_tU T z U (k + 1)) zz)) w20).mp hD
            have hP : va_P D vwCl (mdW cI a N P T (m_tU T z U (k + 1)) (us (us (us v 6 (nI (m_tp T z (k + 1)))) 7 0) 9 (nI (k + 1)))) H := hP
            have hD : va_D (va_A (mdW cI a N P T U v) s.heap.size) (mdW cI a N P T (m_tU T z U (k + 1)) (us (us (us v 6 (nI (m_tp T z (k + 1)))) 7 0) 9 (nI (k + 1)))) := hD
            exact ih (k + 1) (by omega) (by omega) ((m_tx_step hk15 hmo hpk).symm.trans hj) (m_tI_s hI hmo hpk) H locs hP hD hS hS.1 ls hl
        · have c10 := bI_eqF c10
          have hpk := c10
          have hT := hj.symm.trans (m_tx_fail hk15 hmo hpk)
          refine lv_iconst (v := 0) hx hb dX5_isText_28 (by decide) ?_
          have w21 : (m_pU T z (m_tp T z k) k (m_tU T z U k)) = (m_tU T z U (m_T T z).2.2.2) := by rw [hT]; first | done | rfl
          have hP : va_P D vwCl (mdW cI a N P T (m_tU T z U (m_T T z).2.2.2) (us (us (us v 6 (nI (m_pa T z (m_tp T z k)))) 7 (m_f7 (m_pk T z (m_tp T z k)) (m_pa T z (m_tp T z k)) z ((us (us (us v 6 (nI (m_tp T z k))) 7 0) 9 (nI k)) 7))) 9 (nI k))) H := (congrArg (fun zz => va_P D vwCl (mdW cI a N P T zz (us (us (us v 6 (nI (m_pa T z (m_tp T z k)))) 7 (m_f7 (m_pk T z (m_tp T z k)) (m_pa T z (m_tp T z k)) z ((us (us (us v 6 (nI (m_tp T z k))) 7 0) 9 (nI k)) 7))) 9 (nI k))) H) w21).mp hP
          have hD : va_D (va_A (mdW cI a N P T U v) s.heap.size) (mdW cI a N P T (m_tU T z U (m_T T z).2.2.2) (us (us (us v 6 (nI (m_pa T z (m_tp T z k)))) 7 (m_f7 (m_pk T z (m_tp T z k)) (m_pa T z (m_tp T z k)) z ((us (us (us v 6 (nI (m_tp T z k))) 7 0) 9 (nI k)) 7))) 9 (nI k))) := (congrArg (fun zz => va_D (va_A (mdW cI a N P T U v) s.heap.size) (mdW cI a N P T zz (us (us (us v 6 (nI (m_pa T z (m_tp T z k)))) 7 (m_f7 (m_pk T z (m_tp T z k)) (m_pa T z (m_tp T z k)) z ((us (us (us v 6 (nI (m_tp T z k))) 7 0) 9 (nI k)) 7))) 9 (nI k)))) w21).mp hD
          have w22 : (us (us (us v 6 (nI (m_pa T z (m_tp T z k)))) 7 (m_f7 (m_pk T z (m_tp T z k)) (m_pa T z (m_tp T z k)) z ((us (us (us v 6 (nI (m_tp T z k))) 7 0) 9 (nI k)) 7))) 9 (nI k)) = (us (us (us v 6 (nI (m_T T z).2.1)) 7 (bI (decide ((m_T T z).2.1 < z)))) 9 (nI (m_T T z).2.2.1)) := by rw [hT]; simp only [m_f7, hpk, us_at, if_true, if_false, Bool.false_eq_true, reduceIte]; first | done | rfl
          have hP : va_P D vwCl (mdW cI a N P T (m_tU T z U (m_T T z).2.2.2) (us (us (us v 6 (nI (m_T T z).2.1)) 7 (bI (decide ((m_T T z).2.1 < z)))) 9 (nI (m_T T z).2.2.1))) H := (congrArg (fun zz => va_P D vwCl (mdW cI a N P T (m_tU T z U (m_T T z).2.2.2) zz) H) w22).mp hP
          have hD : va_D (va_A (mdW cI a N P T U v) s.heap.size) (mdW cI a N P T (m_tU T z U (m_T T z).2.2.2) (us (us (us v 6 (nI (m_T T z).2.1)) 7 (bI (decide ((m_T T z).2.1 < z)))) 9 (nI (m_T T z).2.2.1))) := (congrArg (fun zz => va_D (va_A (mdW cI a N P T U v) s.heap.size) (mdW cI a N P T (m_tU T z U (m_T T z).2.2.2) zz)) w22).mp hD
          have hP : va_P D vwCl (mdW cI a N P T (m_tU T z U (m_T T z).2.2.2) (us (us (us v 6 (nI (m_T T z).2.1)) 7 (bI (decide ((m_T T z).2.1 < z)))) 9 (nI (m_T T z).2.2.1))) H := hP
          have hD : va_D (va_A (mdW cI a N P T U v) s.heap.size) (mdW cI a N P T (m_tU T z U (m_T T z).2.2.2) (us (us (us v 6 (nI (m_T T z).2.1)) 7 (bI (decide ((m_T T z).2.1 < z)))) 9 (nI (m_T T z).2.2.1))) := hD
          exact k_eMz hx hb hr hlocks rfl hP hS (by rw [hT]; first | done | rfl | exact bI_zero (decide_eq_false (by omega)) | exact bI_one (decide_eq_true (by have := hI.2.2; omega))) dX5_isText_29
  have hl : lv_has ls 2 [(0, .ref (a 0)), (1, .int 1)] := lv_sub hl [1, 0] rfl
  have hl : lv_has ls 2 [(0, .ref (a 0)), (1, .int (bI (m_mo T z 0)))] := hl
  have hP : va_P D vwCl (mdW cI a N P T (m_tU T z U 0) (us (us (us v 6 (nI (m_tp T z 0))) 7 0) 9 (nI 0))) H := hP
  have hD : va_D (va_A (mdW cI a N P T U v) s.heap.size) (mdW cI a N P T (m_tU T z U 0) (us (us (us v 6 (nI (m_tp T z 0))) 7 0) 9 (nI 0))) := hD
  exact L1 (16 - 0 + 1) 0 (by omega) (by omega) rfl (m_tI_0 T z) H locs hP hD hS hS.1 ls hl
