abbrev rmX2_begin : Room := { frames := 0, cells := 0, slots := 0, locals := 0 }
set_option maxHeartbeats 4000000 in
set_option maxRecDepth 100000 in
theorem c_X2_begin (l : Launch) (D : va_G) (cI cS cL : ClassId) (a : Nat → Nat) (v : Nat → Int32) (sz : Nat) : Met l yX2_begin (wy_ yX2_begin cX2_begin 1 none) rmX2_begin (kPc D (kTy cI cS cL) (lnW a v) sz [.ref (a 11)]) (kMv D (lnW a v) (lnW a ln0) sz) 0 0 (va_A (lnW a v) sz) := by
  refine k_ofW (by decide) (Nat.le_of_ble_eq_true rfl) ?_
  intro p e s m args below meth c hx hb hr hml hts hown hlocks hnm hsz hP hK hD hE ls hl
  subst hsz
  have hA : ∀ q : Nat, s.heap.size ≤ q → (va_A (lnW a v) s.heap.size) q := fun q h => Or.inr h
  have hS : va_S (va_A (lnW a v) s.heap.size) s.heap s.heap [] := va_S.rf
  have hl : lv_has ls 1 [(0, .ref (a 11))] := hl
  refine lv_aload_n hx hb dX2_begin_0 rfl (lv_at hl 0 rfl) ?_
  refine lv_iconst (v := 0) hx hb dX2_begin_1 (by decide) ?_
  refine f2 hx hb hts hown hK hP hD hS 0 rfl 0 (by decide) flX2_9 (fun _ h => h) rfl rfl rfl (Nat.le_of_ble_eq_true rfl) dX2_begin_2 (fun H locs hP hD hS => ?_)
  have hP : va_P D vwCl (lnW a (us v 0 0)) H := hP
  have hD : va_D (va_A (lnW a v) s.heap.size) (lnW a (us v 0 0)) := hD
  refine lv_aload_n hx hb dX2_begin_5 rfl (lv_at hl 0 rfl) ?_
  refine lv_iconst (v := 0) hx hb dX2_begin_6 (by decide) ?_
  refine f2 hx hb hts hown hK hP hD hS 0 rfl 1 (by decide) flX2_15 (fun _ h => h) rfl rfl rfl (Nat.le_of_ble_eq_true rfl) dX2_begin_7 (fun H locs hP hD hS => ?_)
  have hP : va_P D vwCl (lnW a (us (us v 0 0) 1 0)) H := hP
  have hD : va_D (va_A (lnW a v) s.heap.size) (lnW a (us (us v 0 0) 1 0)) := hD
  refine lv_aload_n hx hb dX2_begin_10 rfl (lv_at hl 0 rfl) ?_
  refine lv_iconst (v := 0) hx hb dX2_begin_11 (by decide) ?_
  refine f2 hx hb hts hown hK hP hD hS 0 rfl 2 (by decide) flX2_18 (fun _ h => h) rfl rfl rfl (Nat.le_of_ble_eq_true rfl) dX2_begin_12 (fun H locs hP hD hS => ?_)
  have hP : va_P D vwCl (lnW a (us (us (us v 0 0) 1 0) 2 0)) H := hP
  have hD : va_D (va_A (lnW a v) s.heap.size) (lnW a (us (us (us v 0 0) 1 0) 2 0)) := hD
  refine lv_aload_n hx hb dX2_begin_15 rfl (lv_at hl 0 rfl) ?_
  refine lv_iconst (v := (-1)) hx hb dX2_begin_16 (by decide) ?_
  refine f2 hx hb hts hown hK hP hD hS 0 rfl 3 (by decide) flX2_21 (fun _ h => h) rfl rfl rfl (Nat.le_of_ble_eq_true rfl) dX2_begin_17 (fun H locs hP hD hS => ?_)
  have hP : va_P D vwCl (lnW a (us (us (us (us v 0 0) 1 0) 2 0) 3 (-1))) H := hP
  have hD : va_D (va_A (lnW a v) s.heap.size) (lnW a (us (us (us (us v 0 0) 1 0) 2 0) 3 (-1))) := hD
  have hP : va_P D vwCl (lnW a ln0) H := hP
  have hD : va_D (va_A (lnW a v) s.heap.size) (lnW a ln0) := hD
  exact k_eMv hx hb hr hlocks hP hS dX2_begin_20

abbrev rmX2_join : Room := { frames := 0, cells := 0, slots := 0, locals := 0 }
set_option maxHeartbeats 4000000 in
set_option maxRecDepth 100000 in
theorem c_X2_join (l : Launch) (D : va_G) (cI cS cL : ClassId) (a : Nat → Nat) (v : Nat → Int32) (sz : Nat) (k : Nat) (len cp ad : Int32) : Met l yX2_join (wy_ yX2_join cX2_join 5 none) rmX2_join (kPc D (kTy cI cS cL) (lnW a v) sz [.ref (a 11), .int (nI k), .int len, .int cp, .int ad]) (kMv D (lnW a v) (lnW a (p_join v (nI k) len cp ad)) sz) 0 0 (va_A (lnW a v) sz) := by
  refine k_ofW (by decide) (Nat.le_of_ble_eq_true rfl) ?_
  intro p e s m args below meth c hx hb hr hml hts hown hlocks hnm hsz hP hK hD hE ls hl
  subst hsz
  have hA : ∀ q : Nat, s.heap.size ≤ q → (va_A (lnW a v) s.heap.size) q := fun q h => Or.inr h
  have hS : va_S (va_A (lnW a v) s.heap.size) s.heap s.heap [] := va_S.rf
  have hl : lv_has ls 5 [(0, .ref (a 11)), (1, .int (nI k)), (2, .int len), (3, .int cp), (4, .int ad)] := hl
  refine lv_aload_n hx hb dX2_join_0 rfl (lv_at hl 0 rfl) ?_
  refine g2 hx hb hts hown hK hP 0 rfl 3 (by decide) flX2_21 (fun _ h => h) (v := .int (v 3)) rfl dX2_join_1 ?_
  refine lv_iconst (v := (-1)) hx hb dX2_join_4 (by decide) ?_
  refine lv_icmp_eq (tgt := 36) hx hb dX2_join_5 (by decide) (fun c1 => ?_) (fun c1 => ?_)
  · refine lv_aload_n hx hb dX2_join_36 rfl (lv_at hl 0 rfl) ?_
    refine lv_iload_n hx hb dX2_join_37 rfl (lv_at hl 3 rfl) ?_
    refine f2 hx hb hts hown hK hP hD hS 0 rfl 3 (by decide) flX2_21 (fun _ h => h) rfl rfl rfl (Nat.le_of_ble_eq_true rfl) dX2_join_38 (fun H locs hP hD hS => ?_)
    have hP : va_P D vwCl (lnW a (us v 3 cp)) H := hP
    have hD : va_D (va_A (lnW a v) s.heap.size) (lnW a (us v 3 cp)) := hD
    refine lv_aload_n hx hb dX2_join_41 rfl (lv_at hl 0 rfl) ?_
    refine lv_dup hx hb dX2_join_42 rfl ?_
    refine g2 hx hb hts hown hK hP 0 rfl 0 (by decide) flX2_9 (fun _ h => h) (v := .int (v 0)) rfl dX2_join_43 ?_
    refine lv_iload_n hx hb dX2_join_46 rfl (lv_at hl 2 rfl) ?_
    refine lv_iadd hx hb dX2_join_47 (lv_topi (fun x2 e2 => ?_))
    refine f2 hx hb hts hown hK hP hD hS 0 rfl 0 (by decide) flX2_9 (fun _ h => h) rfl rfl rfl (Nat.le_of_ble_eq_true rfl) dX2_join_48 (fun H locs hP hD hS => ?_)
    have hP : va_P D vwCl (lnW a (us (us v 0 x2) 3 cp)) H := hP
    have hD : va_D (va_A (lnW a v) s.heap.size) (lnW a (us (us v 0 x2) 3 cp)) := hD
    refine lv_aload_n hx hb dX2_join_51 rfl (lv_at hl 0 rfl) ?_
    refine lv_dup hx hb dX2_join_52 rfl ?_
    refine g2 hx hb hts hown hK hP 0 rfl 2 (by decide) flX2_18 (fun _ h => h) (v := .int (v 2)) rfl dX2_join_53 ?_
    refine lv_iconst (v := 1) hx hb dX2_join_56 (by decide) ?_
    refine lv_iload_n hx hb dX2_join_57 rfl (lv_at hl 1 rfl) ?_
    refine lv_ishl hx hb dX2_join_58 (lv_topi (fun x3 e3 => ?_))
    refine lv_ior hx hb dX2_join_59 (lv_topi (fun x4 e4 => ?_))
    refine f2 hx hb hts hown hK hP hD hS 0 rfl 2 (by decide) flX2_18 (fun _ h => h) rfl rfl rfl (Nat.le_of_ble_eq_true rfl) dX2_join_60 (fun H locs hP hD hS => ?_)
    have hP : va_P D vwCl (lnW a (us (us (us v 0 x2) 2 x4) 3 cp)) H := hP
    have hD : va_D (va_A (lnW a v) s.heap.size) (lnW a (us (us (us v 0 x2) 2 x4) 3 cp)) := hD
    have w5 : (us (us (us v 0 x2) 2 x4) 3 cp) = (p_join v (nI k) len cp ad) := by first | (subst e2 e3 e4; simp [p_join, p_msk, c1]; done) | (subst e2 e3 e4; simp [p_join, p_msk, c1]; rfl)
    have hP : va_P D vwCl (lnW a (p_join v (nI k) len cp ad)) H := (congrArg (fun zz => va_P D vwCl (lnW a zz) H) w5).mp hP
    have hD : va_D (va_A (lnW a v) s.heap.size) (lnW a (p_join v (nI k) len cp ad)) := (congrArg (fun zz => va_D (va_A (lnW a v) s.heap.size) (lnW a zz)) w5).mp hD
    have hP : va_P D vwCl (lnW a (p_join v (nI k) len cp ad)) H := hP
    have hD : va_D (va_A (lnW a v) s.heap.size) (lnW a (p_join v (nI k) len cp ad)) := hD
    exact k_eMv hx hb hr hlocks hP hS dX2_join_63
  · refine lv_aload_n hx hb dX2_join_8 rfl (lv_at hl 0 rfl) ?_
    refine g2 hx hb hts hown hK hP 0 rfl 3 (by decide) flX2_21 (fun _ h => h) (v := .int (v 3)) rfl dX2_join_9 ?_
    refine lv_iload_n hx hb dX2_join_12 rfl (lv_at hl 3 rfl) ?_
    refine lv_icmp_eq (tgt := 36) hx hb dX2_join_13 (by decide) (fun c6 => ?_) (fun c6 => ?_)
    · refine lv_aload_n hx hb dX2_join_36 rfl (lv_at hl 0 rfl) ?_
      refine lv_iload_n hx hb dX2_join_37 rfl (lv_at hl 3 rfl) ?_
      refine f2 hx hb hts hown hK hP hD hS 0 rfl 3 (by decide) flX2_21 (fun _ h => h) rfl rfl rfl (Nat.le_of_ble_eq_true rfl) dX2_join_38 (fun H locs hP hD hS => ?_)
      have hP : va_P D vwCl (lnW a (us v 3 cp)) H := hP
      have hD : va_D (va_A (lnW a v) s.heap.size) (lnW a (us v 3 cp)) := hD
      refine lv_aload_n hx hb dX2_join_41 rfl (lv_at hl 0 rfl) ?_
      refine lv_dup hx hb dX2_join_42 rfl ?_
      refine g2 hx hb hts hown hK hP 0 rfl 0 (by decide) flX2_9 (fun _ h => h) (v := .int (v 0)) rfl dX2_join_43 ?_
      refine lv_iload_n hx hb dX2_join_46 rfl (lv_at hl 2 rfl) ?_
      refine lv_iadd hx hb dX2_join_47 (lv_topi (fun x7 e7 => ?_))
      refine f2 hx hb hts hown hK hP hD hS 0 rfl 0 (by decide) flX2_9 (fun _ h => h) rfl rfl rfl (Nat.le_of_ble_eq_true rfl) dX2_join_48 (fun H locs hP hD hS => ?_)
      have hP : va_P D vwCl (lnW a (us (us v 0 x7) 3 cp)) H := hP
      have hD : va_D (va_A (lnW a v) s.heap.size) (lnW a (us (us v 0 x7) 3 cp)) := hD
      refine lv_aload_n hx hb dX2_join_51 rfl (lv_at hl 0 rfl) ?_
      refine lv_dup hx hb dX2_join_52 rfl ?_
      refine g2 hx hb hts hown hK hP 0 rfl 2 (by decide) flX2_18 (fun _ h => h) (v := .int (v 2)) rfl dX2_join_53 ?_
      refine lv_iconst (v := 1) hx hb dX2_join_56 (by decide) ?_
      refine lv_iload_n hx hb dX2_join_57 rfl (lv_at hl 1 rfl) ?_
      refine lv_ishl hx hb dX2_join_58 (lv_topi (fun x8 e8 => ?_))
      refine lv_ior hx hb dX2_join_59 (lv_topi (fun x9 e9 => ?_))
      refine f2 hx hb hts hown hK hP hD hS 0 rfl 2 (by decide) flX2_18 (fun _ h => h) rfl rfl rfl (Nat.le_of_ble_eq_true rfl) dX2_join_60 (fun H locs hP hD hS => ?_)
      have hP : va_P D vwCl (lnW a (us (us (us v 0 x7) 2 x9) 3 cp)) H := hP
      have hD : va_D (va_A (lnW a v) s.heap.size) (lnW a (us (us (us v 0 x7) 2 x9) 3 cp)) := hD
      have w10 : (us (us (us v 0 x7) 2 x9) 3 cp) = (p_join v (nI k) len cp ad) := by first | (subst e7 e8 e9; simp [p_join, p_msk, c1, c6]; done) | (subst e7 e8 e9; simp [p_join, p_msk, c1, c6]; rfl)
      have hP : va_P D vwCl (lnW a (p_join v (nI k) len cp ad)) H := (congrArg (fun zz => va_P D vwCl (lnW a zz) H) w10).mp hP
      have hD : va_D (va_A (lnW a v) s.heap.size) (lnW a (p_join v (nI k) len cp ad)) := (congrArg (fun zz => va_D (va_A (lnW a v) s.heap.size) (lnW a zz)) w10).mp hD
      have hP : va_P D vwCl (lnW a (p_join v (nI k) len cp ad)) H := hP
      have hD : va_D (va_A (lnW a v) s.heap.size) (lnW a (p_join v (nI k) len cp ad)) := hD
      exact k_eMv hx hb hr hlocks hP hS dX2_join_63
    · refine lv_aload_n hx hb dX2_join_16 rfl (lv_at hl 0 rfl) ?_
      refine g2 hx hb hts hown hK hP 0 rfl 1 (by decide) flX2_15 (fun _ h => h) (v := .int (v 1)) rfl dX2_join_17 ?_
      refine lv_iload hx hb dX2_join_20 (lv_at hl 4 rfl) ?_
      refine lv_icmp_lt (tgt := 26) hx hb dX2_join_22 (by decide) (fun c11 => ?_) (fun c11 => ?_)
      · have c11' := Int32.not_le.mpr c11
        refine lv_aload_n hx hb dX2_join_26 rfl (lv_at hl 0 rfl) ?_
        refine lv_dup hx hb dX2_join_27 rfl ?_
        refine g2 hx hb hts hown hK hP 0 rfl 1 (by decide) flX2_15 (fun _ h => h) (v := .int (v 1)) rfl dX2_join_28 ?_
        refine lv_iconst (v := 1) hx hb dX2_join_31 (by decide) ?_
        refine lv_iadd hx hb dX2_join_32 (lv_topi (fun x12 e12 => ?_))
        refine f2 hx hb hts hown hK hP hD hS 0 rfl 1 (by decide) flX2_15 (fun _ h => h) rfl rfl rfl (Nat.le_of_ble_eq_true rfl) dX2_join_33 (fun H locs hP hD hS => ?_)
        have hP : va_P D vwCl (lnW a (us v 1 x12)) H := hP
        have hD : va_D (va_A (lnW a v) s.heap.size) (lnW a (us v 1 x12)) := hD
        refine lv_aload_n hx hb dX2_join_36 rfl (lv_at hl 0 rfl) ?_
        refine lv_iload_n hx hb dX2_join_37 rfl (lv_at hl 3 rfl) ?_
        refine f2 hx hb hts hown hK hP hD hS 0 rfl 3 (by decide) flX2_21 (fun _ h => h) rfl rfl rfl (Nat.le_of_ble_eq_true rfl) dX2_join_38 (fun H locs hP hD hS => ?_)
        have hP : va_P D vwCl (lnW a (us (us v 1 x12) 3 cp)) H := hP
        have hD : va_D (va_A (lnW a v) s.heap.size) (lnW a (us (us v 1 x12) 3 cp)) := hD
        refine lv_aload_n hx hb dX2_join_41 rfl (lv_at hl 0 rfl) ?_
        refine lv_dup hx hb dX2_join_42 rfl ?_
        refine g2 hx hb hts hown hK hP 0 rfl 0 (by decide) flX2_9 (fun _ h => h) (v := .int (v 0)) rfl dX2_join_43 ?_
        refine lv_iload_n hx hb dX2_join_46 rfl (lv_at hl 2 rfl) ?_
        refine lv_iadd hx hb dX2_join_47 (lv_topi (fun x13 e13 => ?_))
        refine f2 hx hb hts hown hK hP hD hS 0 rfl 0 (by decide) flX2_9 (fun _ h => h) rfl rfl rfl (Nat.le_of_ble_eq_true rfl) dX2_join_48 (fun H locs hP hD hS => ?_)
        have hP : va_P D vwCl (lnW a (us (us (us v 0 x13) 1 x12) 3 cp)) H := hP
        have hD : va_D (va_A (lnW a v) s.heap.size) (lnW a (us (us (us v 0 x13) 1 x12) 3 cp)) := hD
        refine lv_aload_n hx hb dX2_join_51 rfl (lv_at hl 0 rfl) ?_
        refine lv_dup hx hb dX2_join_52 rfl ?_
        refine g2 hx hb hts hown hK hP 0 rfl 2 (by decide) flX2_18 (fun _ h => h) (v := .int (v 2)) rfl dX2_join_53 ?_
        refine lv_iconst (v := 1) hx hb dX2_join_56 (by decide) ?_
        refine lv_iload_n hx hb dX2_join_57 rfl (lv_at hl 1 rfl) ?_
        refine lv_ishl hx hb dX2_join_58 (lv_topi (fun x14 e14 => ?_))
        refine lv_ior hx hb dX2_join_59 (lv_topi (fun x15 e15 => ?_))
        refine f2 hx hb hts hown hK hP hD hS 0 rfl 2 (by decide) flX2_18 (fun _ h => h) rfl rfl rfl (Nat.le_of_ble_eq_true rfl) dX2_join_60 (fun H locs hP hD hS => ?_)
        have hP : va_P D vwCl (lnW a (us (us (us (us v 0 x13) 1 x12) 2 x15) 3 cp)) H := hP
        have hD : va_D (va_A (lnW a v) s.heap.size) (lnW a (us (us (us (us v 0 x13) 1 x12) 2 x15) 3 cp)) := hD
        have w16 : (us (us (us (us v 0 x13) 1 x12) 2 x15) 3 cp) = (p_join v (nI k) len cp ad) := by first | (subst e12 e13 e14 e15; simp [p_join, p_msk, c1, c6, c11, c11']; done) | (subst e12 e13 e14 e15; simp [p_join, p_msk, c1, c6, c11, c11']; rfl)
        have hP : va_P D vwCl (lnW a (p_join v (nI k) len cp ad)) H := (congrArg (fun zz => va_P D vwCl (lnW a zz) H) w16).mp hP
        have hD : va_D (va_A (lnW a v) s.heap.size) (lnW a (p_join v (nI k) len cp ad)) := (congrArg (fun zz => va_D (va_A (lnW a v) s.heap.size) (lnW a zz)) w16).mp hD
        have hP : va_P D vwCl (lnW a (p_join v (nI k) len cp ad)) H := hP
        have hD : va_D (va_A (lnW a v) s.heap.size) (lnW a (p_join v (nI k) len cp ad)) := hD
        exact k_eMv hx hb hr hlocks hP hS dX2_join_63
      · have c11' := Int32.not_lt.mp c11
        have w17 : v = (p_join v (nI k) len cp ad) := by first | (simp [p_join, p_msk, c1, c6, c11, c11']; done) | (simp [p_join, p_msk, c1, c6, c11, c11']; rfl)
        have hP : va_P D vwCl (lnW a (p_join v (nI k) len cp ad)) s.heap := (congrArg (fun zz => va_P D vwCl (lnW a zz) s.heap) w17).mp hP
        have hD : va_D (va_A (lnW a v) s.heap.size) (lnW a (p_join v (nI k) len cp ad)) := (congrArg (fun zz => va_D (va_A (lnW a v) s.heap.size) (lnW a zz)) w17).mp hD
        have hP : va_P D vwCl (lnW a (p_join v (nI k) len cp ad)) s.heap := hP
        have hD : va_D (va_A (lnW a v) s.heap.size) (lnW a (p_join v (nI k) len cp ad)) := hD
        exact k_eMv hx hb hr hlocks hP hS dX2_join_25

abbrev rmX3_layLine : Room := { frames := 3, cells := 0, slots := 0, locals := 63 }
set_option maxHeartbeats 4000000 in
set_option maxRecDepth 100000 in
theorem c_X3_layLine (l : Launch) (D : va_G) (cI cS cL : ClassId) (a : Nat → Nat) (N : NN) (v : Nat → Int32) (sz : Nat) (n t : Nat) (mo : Int32) (hn : N 1 2 = nI n) (hn14 : n ≤ 14) (ht : t < 3) : Met l yX3_layLine (wy_ yX3_layLine cX3_layLine 4 (some .boolean)) rmX3_layLine (kPc D (kTy cI cS cL) (stW cI a N v) sz [.ref (a 0), .int (nI t), .int mo]) (kMi D (stW cI a N v) (stW cI a N (p_lay N (nI t) mo n)) sz (bI (decide (N 2 t ≤ p_lay N (nI t) mo n 0)))) 0 0 (va_A (stW cI a N v) sz) := by
  refine k_ofW (by decide) (Nat.le_of_ble_eq_true rfl) ?_
  intro p e s m args below meth c hx hb hr hml hts hown hlocks hnm hsz hP hK hD hE ls hl
  subst hsz
  have hA : ∀ q : Nat, s.heap.size ≤ q → (va_A (stW cI a N v) s.heap.size) q := fun q h => Or.inr h
  have hS : va_S (va_A (stW cI a N v) s.heap.size) s.heap s.heap [] := va_S.rf
  have hl : lv_has ls 4 [(0, .ref (a 0)), (1, .int (nI t)), (2, .int mo)] := hl
  refine lv_aload_n hx hb dX3_layLine_0 rfl (lv_at hl 0 rfl) ?_
  refine g3 hx hb hts hown hK hP 0 rfl 16 (by decide) flX3_52 (fun _ h => h) (v := .ref (a 11)) rfl dX3_layLine_1 ?_
  refine k_mvV (As := []) (rest := []) (w1 := stA cI a N) (wc := lnW a v) (wc' := lnW a ln0) (w3 := []) ⟨hx, hb, hml, hown, hts⟩ (c_X2_begin l D cI cS cL a v _) lkX3_141 rfl rfl ⟨(Nat.le_of_ble_eq_true rfl), (Nat.le_of_ble_eq_true rfl)⟩ (va_recv hK hP (ci := 1) (q0 := 11) rfl rfl) hK hE hP hD hS hA rfl rfl hl.1 rfl (Nat.le_of_ble_eq_true rfl) dX3_layLine_4 ⟨Nat.zero_le _, Nat.zero_le _⟩ (fun H locs hzz hP hD hS => ?_)
  have hP : va_P D vwCl (stW cI a N ln0) H := hP
  have hD : va_D (va_A (stW cI a N v) s.heap.size) (stW cI a N ln0) := hD
  refine lv_iconst (v := 0) hx hb dX3_layLine_7 (by decide) ?_
  refine lv_istore_n (lv' := [(3, .int 0), (0, .ref (a 0)), (1, .int (nI t)), (2, .int mo)]) hx hb dX3_layLine_8 rfl hl (by decide) rfl (fun ls hl => ?_)
  have L1 : ∀ (f k : Nat), k ≤ n → n - k < f → ∀ (H : Heap) (locs : List Loc), va_P D vwCl (stW cI a N (p_lay N (nI t) mo k)) H → va_D (va_A (stW cI a N v) s.heap.size) (stW cI a N (p_lay N (nI t) mo k)) → va_S (va_A (stW cI a N v) s.heap.size) s.heap H locs → s.heap.size ≤ H.size → ∀ ls : Array Slot, lv_has ls 4 [(0, .ref (a 0)), (1, .int (nI t)), (2, .int mo), (3, .int (nI k))] → W p l e rmX3_layLine s m args below meth c H locs 0 0 (MQ below (kMi D (stW cI a N v) (stW cI a N (p_lay N (nI t) mo n)) s.heap.size (bI (decide (N 2 t ≤ p_lay N (nI t) mo n 0)))) args s 0 0 (va_A (stW cI a N v) s.heap.size)) (F0 m 9 ls []) := by
    intro f
    induction f with
    | zero => intro k hv1 hv2; exact absurd hv2 (Nat.not_lt_zero _)
    | succ f ih =>
      intro k hv1 hv2 H locs hP hD hS hz ls hl
      refine lv_iload_n hx hb dX3_layLine_9 rfl (lv_at hl 3 rfl) ?_
      refine lv_aload_n hx hb dX3_layLine_10 rfl (lv_at hl 0 rfl) ?_
      refine g3 hx hb hts hown hK hP 0 rfl 2 (by decide) flX3_56 (fun _ h => h) (v := .int (nI n)) (by rw [← hn]; rfl) dX3_layLine_11 ?_
      refine lv_icmp_ge (tgt := 72) hx hb dX3_layLine_14 (by decide) (fun c2 => ?_) (fun c2 => ?_)
      · have c2' := Int32.not_lt.mpr c2
        have hkn : n = k := (k_exit (by omega) hv1 c2).symm
        subst hkn
        refine lv_aload_n hx hb dX3_layLine_72 rfl (lv_at hl 0 rfl) ?_
        refine g3 hx hb hts hown hK hP 0 rfl 16 (by decide) flX3_52 (fun _ h => h) (v := .ref (a 11)) rfl dX3_layLine_73 ?_
        refine g2 hx hb hts hown hK hP 11 rfl 0 (by decide) flX3_148 (fun _ h => h) (v := .int ((p_lay N (nI t) mo n) 0)) rfl dX3_layLine_76 ?_
        refine lv_aload_n hx hb dX3_layLine_79 rfl (lv_at hl 0 rfl) ?_
        refine g3 hx hb hts hown hK hP 0 rfl 6 (by decide) flX3_18 (fun _ h => h) (v := .ref (a 1)) rfl dX3_layLine_80 ?_
        refine lv_iload_n hx hb dX3_layLine_83 rfl (lv_at hl 1 rfl) ?_
        refine k_ald (k := t) hx hb hK hP 1 0 rfl rfl rfl (by omega) (by decide) dX3_layLine_84 ?_
        refine lv_icmp_lt (tgt := 92) hx hb dX3_layLine_85 (by decide) (fun c3 => ?_) (fun c3 => ?_)
        · have c3' := Int32.not_le.mpr c3
          refine lv_iconst (v := 0) hx hb dX3_layLine_92 (by decide) ?_
          have hP : va_P D vwCl (stW cI a N (p_lay N (nI t) mo n)) H := hP
          have hD : va_D (va_A (stW cI a N v) s.heap.size) (stW cI a N (p_lay N (nI t) mo n)) := hD
          exact k_eMz hx hb hr hlocks rfl hP hS (by exact bI_zero (by simp [p_lay, c2, c2', c3, c3'])) dX3_layLine_93
        · have c3' := Int32.not_lt.mp c3
          refine lv_iconst (v := 1) hx hb dX3_layLine_88 (by decide) ?_
          refine lv_goto (tgt := 93) hx hb dX3_layLine_89 (by decide) ?_
          have hP : va_P D vwCl (stW cI a N (p_lay N (nI t) mo n)) H := hP
          have hD : va_D (va_A (stW cI a N v) s.heap.size) (stW cI a N (p_lay N (nI t) mo n)) := hD
          exact k_eMz hx hb hr hlocks rfl hP hS (by exact bI_one (by simp [p_lay, c2, c2', c3, c3'])) dX3_layLine_93
      · have c2' := Int32.not_le.mp c2
        have hkn : k < n := k_more (by omega) hv1 c2
        refine lv_aload_n hx hb dX3_layLine_17 rfl (lv_at hl 0 rfl) ?_
        refine g3 hx hb hts hown hK hP 0 rfl 14 (by decide) flX3_43 (fun _ h => h) (v := .ref (a 9)) rfl dX3_layLine_18 ?_
        refine lv_iload_n hx hb dX3_layLine_21 rfl (lv_at hl 3 rfl) ?_
        refine k_ald (k := k) hx hb hK hP 9 0 rfl rfl rfl (by omega) (by decide) dX3_layLine_22 ?_
        refine lv_iload_n hx hb dX3_layLine_23 rfl (lv_at hl 1 rfl) ?_
        refine lv_icmp_eq (tgt := 32) hx hb dX3_layLine_24 (by decide) (fun c4 => ?_) (fun c4 => ?_)
        · refine lv_aload_n hx hb dX3_layLine_32 rfl (lv_at hl 0 rfl) ?_
          refine lv_iload_n hx hb dX3_layLine_33 rfl (lv_at hl 3 rfl) ?_
          refine k_riV (As := [.int (nI k)]) (rest := []) (wc := stW cI a N (p_lay N (nI t) mo k)) ⟨hx, hb, hml, hown, hts⟩ (c_X3_isReady l D cI cS cL a N (p_lay N (nI t) mo k) _ k (by omega)) lkX3_138 rfl rfl ⟨(Nat.le_of_ble_eq_true rfl), (Nat.le_of_ble_eq_true rfl)⟩ (va_recv hK hP (ci := 2) (q0 := 0) rfl rfl) hK hE hP hD rfl hl.1 rfl (Nat.le_of_ble_eq_true rfl) dX3_layLine_34 ⟨Nat.zero_le _, Nat.zero_le _⟩ ?_
          refine lv_if_eq (tgt := 66) hx hb dX3_layLine_37 (by decide) (fun c5 => ?_) (fun c5 => ?_)
          · have c5 := bI_eq0 c5
            refine lv_iinc (v := nI (k + 1)) (lv' := [(3, .int (nI (k + 1))), (0, .ref (a 0)), (1, .int (nI t)), (2, .int mo)]) hx hb dX3_layLine_66 hl (k := 3) rfl (nI_1 _) (by decide) rfl (fun ls hl => ?_)
            refine lv_goto (tgt := 9) hx hb dX3_layLine_69 (by decide) ?_
            have hl : lv_has ls 4 [(0, .ref (a 0)), (1, .int (nI t)), (2, .int mo), (3, .int (nI (k + 1)))] := lv_sub hl [1, 2, 3, 0] rfl
            have hl : lv_has ls 4 [(0, .ref (a 0)), (1, .int (nI t)), (2, .int mo), (3, .int (nI (k + 1)))] := hl
            have w6 : (p_lay N (nI t) mo k) = (p_lay N (nI t) mo (k + 1)) := by simp [p_lay, c2, c2', hkn, c4, c5]
            have hP : va_P D vwCl (stW cI a N (p_lay N (nI t) mo (k + 1))) H := (congrArg (fun zz => va_P D vwCl (stW cI a N zz) H) w6).mp hP
            have hD : va_D (va_A (stW cI a N v) s.heap.size) (stW cI a N (p_lay N (nI t) mo (k + 1))) := (congrArg (fun zz => va_D (va_A (stW cI a N v) s.heap.size) (stW cI a N zz)) w6).mp hD
            have hP : va_P D vwCl (stW cI a N (p_lay N (nI t) mo (k + 1))) H := hP
            have hD : va_D (va_A (stW cI a N v) s.heap.size) (stW cI a N (p_lay N (nI t) mo (k + 1))) := hD
            exact ih (k + 1) (by omega) (by omega) H locs hP hD hS hS.1 ls hl
          · have c5 := bI_ne0 c5
            refine lv_aload_n hx hb dX3_layLine_40 rfl (lv_at hl 0 rfl) ?_
            refine g3 hx hb hts hown hK hP 0 rfl 16 (by decide) flX3_52 (fun _ h => h) (v := .ref (a 11)) rfl dX3_layLine_41 ?_
            refine lv_iload_n hx hb dX3_layLine_44 rfl (lv_at hl 3 rfl) ?_
            refine lv_aload_n hx hb dX3_layLine_45 rfl (lv_at hl 0 rfl) ?_
            refine g3 hx hb hts hown hK hP 0 rfl 9 (by decide) flX3_28 (fun _ h => h) (v := .ref (a 4)) rfl dX3_layLine_46 ?_
            refine lv_iload_n hx hb dX3_layLine_49 rfl (lv_at hl 3 rfl) ?_
            refine k_ald (k := k) hx hb hK hP 4 0 rfl rfl rfl (by omega) (by decide) dX3_layLine_50 ?_
            refine lv_aload_n hx hb dX3_layLine_51 rfl (lv_at hl 0 rfl) ?_
            refine g3 hx hb hts hown hK hP 0 rfl 10 (by decide) flX3_31 (fun _ h => h) (v := .ref (a 5)) rfl dX3_layLine_52 ?_
            refine lv_iload_n hx hb dX3_layLine_55 rfl (lv_at hl 3 rfl) ?_
            refine k_ald (k := k) hx hb hK hP 5 0 rfl rfl rfl (by omega) (by decide) dX3_layLine_56 ?_
            refine lv_aload_n hx hb dX3_layLine_57 rfl (lv_at hl 0 rfl) ?_
            refine g3 hx hb hts hown hK hP 0 rfl 7 (by decide) flX3_22 (fun _ h => h) (v := .ref (a 2)) rfl dX3_layLine_58 ?_
            refine lv_iconst (v := 1) hx hb dX3_layLine_61 (by decide) ?_
            refine k_ald (k := 1) hx hb hK hP 2 0 rfl rfl rfl (by decide) (by decide) dX3_layLine_62 ?_
            refine k_mvV (As := [.int (nI k), .int (N 4 k), .int (N 5 k), .int (N 0 1)]) (rest := []) (w1 := stA cI a N) (wc := lnW a (p_lay N (nI t) mo k)) (wc' := lnW a (p_join (p_lay N (nI t) mo k) (nI k) (N 4 k) (N 5 k) (N 0 1))) (w3 := []) ⟨hx, hb, hml, hown, hts⟩ (c_X2_join l D cI cS cL a (p_lay N (nI t) mo k) _ k (N 4 k) (N 5 k) (N 0 1)) lkX3_144 rfl rfl ⟨(Nat.le_of_ble_eq_true rfl), (Nat.le_of_ble_eq_true rfl)⟩ (va_recv hK hP (ci := 1) (q0 := 11) rfl rfl) hK hE hP hD hS hA rfl rfl hl.1 rfl (Nat.le_of_ble_eq_true rfl) dX3_layLine_63 ⟨Nat.zero_le _, Nat.zero_le _⟩ (fun H locs hzz hP hD hS => ?_)
            have hP : va_P D vwCl (stW cI a N (p_join (p_lay N (nI t) mo k) (nI k) (N 4 k) (N 5 k) (N 0 1))) H := hP
            have hD : va_D (va_A (stW cI a N v) s.heap.size) (stW cI a N (p_join (p_lay N (nI t) mo k) (nI k) (N 4 k) (N 5 k) (N 0 1))) := hD
            refine lv_iinc (v := nI (k + 1)) (lv' := [(3, .int (nI (k + 1))), (0, .ref (a 0)), (1, .int (nI t)), (2, .int mo)]) hx hb dX3_layLine_66 hl (k := 3) rfl (nI_1 _) (by decide) rfl (fun ls hl => ?_)
            refine lv_goto (tgt := 9) hx hb dX3_layLine_69 (by decide) ?_
            have hl : lv_has ls 4 [(0, .ref (a 0)), (1, .int (nI t)), (2, .int mo), (3, .int (nI (k + 1)))] := lv_sub hl [1, 2, 3, 0] rfl
            have hl : lv_has ls 4 [(0, .ref (a 0)), (1, .int (nI t)), (2, .int mo), (3, .int (nI (k + 1)))] := hl
            have w7 : (p_join (p_lay N (nI t) mo k) (nI k) (N 4 k) (N 5 k) (N 0 1)) = (p_lay N (nI t) mo (k + 1)) := by simp [p_lay, c2, c2', hkn, c4, c5]
            have hP : va_P D vwCl (stW cI a N (p_lay N (nI t) mo (k + 1))) H := (congrArg (fun zz => va_P D vwCl (stW cI a N zz) H) w7).mp hP
            have hD : va_D (va_A (stW cI a N v) s.heap.size) (stW cI a N (p_lay N (nI t) mo (k + 1))) := (congrArg (fun zz => va_D (va_A (stW cI a N v) s.heap.size) (stW cI a N zz)) w7).mp hD
            have hP : va_P D vwCl (stW cI a N (p_lay N (nI t) mo (k + 1))) H := hP
            have hD : va_D (va_A (stW cI a N v) s.heap.size) (stW cI a N (p_lay N (nI t) mo (k + 1))) := hD
            exact ih (k + 1) (by omega) (by omega) H locs hP hD hS hS.1 ls hl
        · refine lv_iload_n hx hb dX3_layLine_27 rfl (lv_at hl 3 rfl) ?_
          refine lv_iload_n hx hb dX3_layLine_28 rfl (lv_at hl 2 rfl) ?_
          refine lv_icmp_ne (tgt := 66) hx hb dX3_layLine_29 (by decide) (fun c8 => ?_) (fun c8 => ?_)
          · refine lv_iinc (v := nI (k + 1)) (lv' := [(3, .int (nI (k + 1))), (0, .ref (a 0)), (1, .int (nI t)), (2, .int mo)]) hx hb dX3_layLine_66 hl (k := 3) rfl (nI_1 _) (by decide) rfl (fun ls hl => ?_)
            refine lv_goto (tgt := 9) hx hb dX3_layLine_69 (by decide) ?_
            have hl : lv_has ls 4 [(0, .ref (a 0)), (1, .int (nI t)), (2, .int mo), (3, .int (nI (k + 1)))] := lv_sub hl [1, 2, 3, 0] rfl
            have hl : lv_has ls 4 [(0, .ref (a 0)), (1, .int (nI t)), (2, .int mo), (3, .int (nI (k + 1)))] := hl
            have w9 : (p_lay N (nI t) mo k) = (p_lay N (nI t) mo (k + 1)) := by simp [p_lay, c2, c2', hkn, c4, c8]
            have hP : va_P D vwCl (stW cI a N (p_lay N (nI t) mo (k + 1))) H := (congrArg (fun zz => va_P D vwCl (stW cI a N zz) H) w9).mp hP
            have hD : va_D (va_A (stW cI a N v) s.heap.size) (stW cI a N (p_lay N (nI t) mo (k + 1))) := (congrArg (fun zz => va_D (va_A (stW cI a N v) s.heap.size) (stW cI a N zz)) w9).mp hD
            have hP : va_P D vwCl (stW cI a N (p_lay N (nI t) mo (k + 1))) H := hP
            have hD : va_D (va_A (stW cI a N v) s.heap.size) (stW cI a N (p_lay N (nI t) mo (k + 1))) := hD
            exact ih (k + 1) (by omega) (by omega) H locs hP hD hS hS.1 ls hl
          · refine lv_aload_n hx hb dX3_layLine_32 rfl (lv_at hl 0 rfl) ?_
            refine lv_iload_n hx hb dX3_layLine_33 rfl (lv_at hl 3 rfl) ?_
            refine k_riV (As := [.int (nI k)]) (rest := []) (wc := stW cI a N (p_lay N (nI t) mo k)) ⟨hx, hb, hml, hown, hts⟩ (c_X3_isReady l D cI cS cL a N (p_lay N (nI t) mo k) _ k (by omega)) lkX3_138 rfl rfl ⟨(Nat.le_of_ble_eq_true rfl), (Nat.le_of_ble_eq_true rfl)⟩ (va_recv hK hP (ci := 2) (q0 := 0) rfl rfl) hK hE hP hD rfl hl.1 rfl (Nat.le_of_ble_eq_true rfl) dX3_layLine_34 ⟨Nat.zero_le _, Nat.zero_le _⟩ ?_
            refine lv_if_eq (tgt := 66) hx hb dX3_layLine_37 (by decide) (fun c10 => ?_) (fun c10 => ?_)
            · have c10 := bI_eq0 c10
              refine lv_iinc (v := nI (k + 1)) (lv' := [(3, .int (nI (k + 1))), (0, .ref (a 0)), (1, .int (nI t)), (2, .int mo)]) hx hb dX3_layLine_66 hl (k := 3) rfl (nI_1 _) (by decide) rfl (fun ls hl => ?_)
              refine lv_goto (tgt := 9) hx hb dX3_layLine_69 (by decide) ?_
              have hl : lv_has ls 4 [(0, .ref (a 0)), (1, .int (nI t)), (2, .int mo), (3, .int (nI (k + 1)))] := lv_sub hl [1, 2, 3, 0] rfl
              have hl : lv_has ls 4 [(0, .ref (a 0)), (1, .int (nI t)), (2, .int mo), (3, .int (nI (k + 1)))] := hl
              have w11 : (p_lay N (nI t) mo k) = (p_lay N (nI t) mo (k + 1)) := by simp [p_lay, c2, c2', hkn, c4, c8, c10]
              have hP : va_P D vwCl (stW cI a N (p_lay N (nI t) mo (k + 1))) H := (congrArg (fun zz => va_P D vwCl (stW cI a N zz) H) w11).mp hP
              have hD : va_D (va_A (stW cI a N v) s.heap.size) (stW cI a N (p_lay N (nI t) mo (k + 1))) := (congrArg (fun zz => va_D (va_A (stW cI a N v) s.heap.size) (stW cI a N zz)) w11).mp hD
              have hP : va_P D vwCl (stW cI a N (p_lay N (nI t) mo (k + 1))) H := hP
              have hD : va_D (va_A (stW cI a N v) s.heap.size) (stW cI a N (p_lay N (nI t) mo (k + 1))) := hD
              exact ih (k + 1) (by omega) (by omega) H locs hP hD hS hS.1 ls hl
            · have c10 := bI_ne0 c10
              refine lv_aload_n hx hb dX3_layLine_40 rfl (lv_at hl 0 rfl) ?_
              refine g3 hx hb hts hown hK hP 0 rfl 16 (by decide) flX3_52 (fun _ h => h) (v := .ref (a 11)) rfl dX3_layLine_41 ?_
              refine lv_iload_n hx hb dX3_layLine_44 rfl (lv_at hl 3 rfl) ?_
              refine lv_aload_n hx hb dX3_layLine_45 rfl (lv_at hl 0 rfl) ?_
              refine g3 hx hb hts hown hK hP 0 rfl 9 (by decide) flX3_28 (fun _ h => h) (v := .ref (a 4)) rfl dX3_layLine_46 ?_
              refine lv_iload_n hx hb dX3_layLine_49 rfl (lv_at hl 3 rfl) ?_
              refine k_ald (k := k) hx hb hK hP 4 0 rfl rfl rfl (by omega) (by decide) dX3_layLine_50 ?_
              refine lv_aload_n hx hb dX3_layLine_51 rfl (lv_at hl 0 rfl) ?_
              refine g3 hx hb hts hown hK hP 0 rfl 10 (by decide) flX3_31 (fun _ h => h) (v := .ref (a 5)) rfl dX3_layLine_52 ?_
              refine lv_iload_n hx hb dX3_layLine_55 rfl (lv_at hl 3 rfl) ?_
              refine k_ald (k := k) hx hb hK hP 5 0 rfl rfl rfl (by omega) (by decide) dX3_layLine_56 ?_
              refine lv_aload_n hx hb dX3_layLine_57 rfl (lv_at hl 0 rfl) ?_
              refine g3 hx hb hts hown hK hP 0 rfl 7 (by decide) flX3_22 (fun _ h => h) (v := .ref (a 2)) rfl dX3_layLine_58 ?_
              refine lv_iconst (v := 1) hx hb dX3_layLine_61 (by decide) ?_
              refine k_ald (k := 1) hx hb hK hP 2 0 rfl rfl rfl (by decide) (by decide) dX3_layLine_62 ?_
              refine k_mvV (As := [.int (nI k), .int (N 4 k), .int (N 5 k), .int (N 0 1)]) (rest := []) (w1 := stA cI a N) (wc := lnW a (p_lay N (nI t) mo k)) (wc' := lnW a (p_join (p_lay N (nI t) mo k) (nI k) (N 4 k) (N 5 k) (N 0 1))) (w3 := []) ⟨hx, hb, hml, hown, hts⟩ (c_X2_join l D cI cS cL a (p_lay N (nI t) mo k) _ k (N 4 k) (N 5 k) (N 0 1)) lkX3_144 rfl rfl ⟨(Nat.le_of_ble_eq_true rfl), (Nat.le_of_ble_eq_true rfl)⟩ (va_recv hK hP (ci := 1) (q0 := 11) rfl rfl) hK hE hP hD hS hA rfl rfl hl.1 rfl (Nat.le_of_ble_eq_true rfl) dX3_layLine_63 ⟨Nat.zero_le _, Nat.zero_le _⟩ (fun H locs hzz hP hD hS => ?_)
              have hP : va_P D vwCl (stW cI a N (p_join (p_lay N (nI t) mo k) (nI k) (N 4 k) (N 5 k) (N 0 1))) H := hP
              have hD : va_D (va_A (stW cI a N v) s.heap.size) (stW cI a N (p_join (p_lay N (nI t) mo k) (nI k) (N 4 k) (N 5 k) (N 0 1))) := hD
              refine lv_iinc (v := nI (k + 1)) (lv' := [(3, .int (nI (k + 1))), (0, .ref (a 0)), (1, .int (nI t)), (2, .int mo)]) hx hb dX3_layLine_66 hl (k := 3) rfl (nI_1 _) (by decide) rfl (fun ls hl => ?_)
              refine lv_goto (tgt := 9) hx hb dX3_layLine_69 (by decide) ?_
              have hl : lv_has ls 4 [(0, .ref (a 0)), (1, .int (nI t)), (2, .int mo), (3, .int (nI (k + 1)))] := lv_sub hl [1, 2, 3, 0] rfl
              have hl : lv_has ls 4 [(0, .ref (a 0)), (1, .int (nI t)), (2, .int mo), (3, .int (nI (k + 1)))] := hl
              have w12 : (p_join (p_lay N (nI t) mo k) (nI k) (N 4 k) (N 5 k) (N 0 1)) = (p_lay N (nI t) mo (k + 1)) := by simp [p_lay, c2, c2', hkn, c4, c8, c10]
              have hP : va_P D vwCl (stW cI a N (p_lay N (nI t) mo (k + 1))) H := (congrArg (fun zz => va_P D vwCl (stW cI a N zz) H) w12).mp hP
              have hD : va_D (va_A (stW cI a N v) s.heap.size) (stW cI a N (p_lay N (nI t) mo (k + 1))) := (congrArg (fun zz => va_D (va_A (stW cI a N v) s.heap.size) (stW cI a N zz)) w12).mp hD
              have hP : va_P D vwCl (stW cI a N (p_lay N (nI t) mo (k + 1))) H := hP
              have hD : va_D (va_A (stW cI a N v) s.heap.size) (stW cI a N (p_lay N (nI t) mo (k + 1))) := hD
              exact ih (k + 1) (by omega) (by omega) H locs hP hD hS hS.1 ls hl
  have hl : lv_has ls 4 [(0, .ref (a 0)), (1, .int (nI t)), (2, .int mo), (3, .int 0)] := lv_sub hl [1, 2, 3, 0] rfl
  have hl : lv_has ls 4 [(0, .ref (a 0)), (1, .int (nI t)), (2, .int mo), (3, .int (nI 0))] := hl
  have hP : va_P D vwCl (stW cI a N (p_lay N (nI t) mo 0)) H := hP
  have hD : va_D (va_A (stW cI a N v) s.heap.size) (stW cI a N (p_lay N (nI t) mo 0)) := hD
  exact L1 (n - 0 + 1) 0 (by omega) (by omega) H locs hP hD hS hS.1 ls hl

abbrev rmX3_wholeTrucks : Room := { frames := 4, cells := 0, slots := 0, locals := 86 }
set_option maxHeartbeats 4000000 in
set_option maxRecDepth 100000 in
theorem c_X3_wholeTrucks (l : Launch) (D : va_G) (cI cS cL : ClassId) (a : Nat → Nat) (N : NN) (v : Nat → Int32) (sz : Nat) (n : Nat) (hn : N 1 2 = nI n) (hn14 : n ≤ 14) : Met l yX3_wholeTrucks (wy_ yX3_wholeTrucks cX3_wholeTrucks 3 (some .int)) rmX3_wholeTrucks (kPc D (kTy cI cS cL) (stW cI a N v) sz [.ref (a 0)]) (kMi D (stW cI a N v) (stW cI a N (p_wtv N n v 3)) sz (p_wtr N n 3)) 0 0 (va_A (stW cI a N v) sz) := by
  refine k_ofW (by decide) (Nat.le_of_ble_eq_true rfl) ?_
  intro p e s m args below meth c hx hb hr hml hts hown hlocks hnm hsz hP hK hD hE ls hl
  subst hsz
  have hA : ∀ q : Nat, s.heap.size ≤ q → (va_A (stW cI a N v) s.heap.size) q := fun q h => Or.inr h
  have hS : va_S (va_A (stW cI a N v) s.heap.size) s.heap s.heap [] := va_S.rf
  have hl : lv_has ls 3 [(0, .ref (a 0))] := hl
  refine lv_iconst (v := 0) hx hb dX3_wholeTrucks_0 (by decide) ?_
  refine lv_istore_n (lv' := [(1, .int 0), (0, .ref (a 0))]) hx hb dX3_wholeTrucks_1 rfl hl (by decide) rfl (fun ls hl => ?_)
  refine lv_iconst (v := 0) hx hb dX3_wholeTrucks_2 (by decide) ?_
  refine lv_istore_n (lv' := [(2, .int 0), (1, .int 0), (0, .ref (a 0))]) hx hb dX3_wholeTrucks_3 rfl hl (by decide) rfl (fun ls hl => ?_)
  have L1 : ∀ (f t : Nat), t ≤ 3 → 3 - t < f → ∀ (H : Heap) (locs : List Loc), va_P D vwCl (stW cI a N (p_wtv N n v t)) H → va_D (va_A (stW cI a N v) s.heap.size) (stW cI a N (p_wtv N n v t)) → va_S (va_A (stW cI a N v) s.heap.size) s.heap H locs → s.heap.size ≤ H.size → ∀ ls : Array Slot, lv_has ls 3 [(0, .ref (a 0)), (1, .int (p_wtr N n t)), (2, .int (nI t))] → W p l e rmX3_wholeTrucks s m args below meth c H locs 0 0 (MQ below (kMi D (stW cI a N v) (stW cI a N (p_wtv N n v 3)) s.heap.size (p_wtr N n 3)) args s 0 0 (va_A (stW cI a N v) s.heap.size)) (F0 m 4 ls []) := by
    intro f
    induction f with
    | zero => intro t hv1 hv2; exact absurd hv2 (Nat.not_lt_zero _)
    | succ f ih =>
      intro t hv1 hv2 H locs hP hD hS hz ls hl
      refine lv_iload_n hx hb dX3_wholeTrucks_4 rfl (lv_at hl 2 rfl) ?_
      refine lv_iconst (v := 3) hx hb dX3_wholeTrucks_5 (by decide) ?_
      refine lv_icmp_ge (tgt := 27) hx hb dX3_wholeTrucks_6 (by decide) (fun c2 => ?_) (fun c2 => ?_)
      · have c2' := Int32.not_lt.mpr c2
        have htn : t = 3 := k_exit (n := 3) (by omega) hv1 c2
        refine lv_iload_n hx hb dX3_wholeTrucks_27 rfl (lv_at hl 1 rfl) ?_
        have w3 : (p_wtv N n v t) = (p_wtv N n v 3) := by simp [p_wtr, p_wtv, c2, c2', htn]
        have hP : va_P D vwCl (stW cI a N (p_wtv N n v 3)) H := (congrArg (fun zz => va_P D vwCl (stW cI a N zz) H) w3).mp hP
        have hD : va_D (va_A (stW cI a N v) s.heap.size) (stW cI a N (p_wtv N n v 3)) := (congrArg (fun zz => va_D (va_A (stW cI a N v) s.heap.size) (stW cI a N zz)) w3).mp hD
        have hP : va_P D vwCl (stW cI a N (p_wtv N n v 3)) H := hP
        have hD : va_D (va_A (stW cI a N v) s.heap.size) (stW cI a N (p_wtv N n v 3)) := hD
        exact k_eMi hx hb hr hlocks hP hS (by simp [p_wtr, p_wtv, c2, c2', htn]) dX3_wholeTrucks_28
      · have c2' := Int32.not_le.mp c2
        have htn : t < 3 := k_more (n := 3) (by omega) hv1 c2
        refine lv_aload_n hx hb dX3_wholeTrucks_9 rfl (lv_at hl 0 rfl) ?_
        refine lv_iload_n hx hb dX3_wholeTrucks_10 rfl (lv_at hl 2 rfl) ?_
        refine lv_iconst (v := (-1)) hx hb dX3_wholeTrucks_11 (by decide) ?_
        refine k_miV (As := [.int (nI t), .int (-1)]) (rest := []) (w1 := []) (wc := stW cI a N (p_wtv N n v t)) (wc' := stW cI a N (p_lay N (nI t) (-1) n)) (w3 := []) ⟨hx, hb, hml, hown, hts⟩ (c_X3_layLine l D cI cS cL a N (p_wtv N n v t) _ n t (-1) hn hn14 (by omega)) lkX3_151 rfl rfl ⟨(Nat.le_of_ble_eq_true rfl), (Nat.le_of_ble_eq_true rfl)⟩ (va_recv hK hP (ci := 2) (q0 := 0) rfl rfl) hK hE hP hD hS hA rfl rfl hl.1 rfl (Nat.le_of_ble_eq_true rfl) dX3_wholeTrucks_12 ⟨Nat.zero_le _, Nat.zero_le _⟩ (fun H locs hzz hP hD hS => ?_)
        have hP : va_P D vwCl (stW cI a N (p_lay N (nI t) (-1) n)) H := hP
        have hD : va_D (va_A (stW cI a N v) s.heap.size) (stW cI a N (p_lay N (nI t) (-1) n)) := hD
        refine lv_if_eq (tgt := 21) hx hb dX3_wholeTrucks_15 (by decide) (fun c4 => ?_) (fun c4 => ?_)
        · have c4 := bI_eq0 c4
          refine lv_iinc (v := nI (t + 1)) (lv' := [(2, .int (nI (t + 1))), (0, .ref (a 0)), (1, .int (p_wtr N n t))]) hx hb dX3_wholeTrucks_21 hl (k := 2) rfl (nI_1 _) (by decide) rfl (fun ls hl => ?_)
          refine lv_goto (tgt := 4) hx hb dX3_wholeTrucks_24 (by decide) ?_
          have hl : lv_has ls 3 [(0, .ref (a 0)), (1, .int (p_wtr N n t)), (2, .int (nI (t + 1)))] := lv_sub hl [1, 2, 0] rfl
          have w5 : p_wtr N n t = p_wtr N n (t + 1) := by simp [p_wtr, p_wtv, c2, c2', htn, c4]
          have hl : lv_has ls 3 [(0, .ref (a 0)), (1, .int (p_wtr N n (t + 1))), (2, .int (nI (t + 1)))] := (congrArg (fun zz => lv_has ls 3 [(0, .ref (a 0)), (1, .int zz), (2, .int (nI (t + 1)))]) w5).mp hl
          have hl : lv_has ls 3 [(0, .ref (a 0)), (1, .int (p_wtr N n (t + 1))), (2, .int (nI (t + 1)))] := hl
          have w6 : (p_lay N (nI t) (-1) n) = (p_wtv N n v (t + 1)) := by simp [p_wtr, p_wtv, c2, c2', htn, c4]
          have hP : va_P D vwCl (stW cI a N (p_wtv N n v (t + 1))) H := (congrArg (fun zz => va_P D vwCl (stW cI a N zz) H) w6).mp hP
          have hD : va_D (va_A (stW cI a N v) s.heap.size) (stW cI a N (p_wtv N n v (t + 1))) := (congrArg (fun zz => va_D (va_A (stW cI a N v) s.heap.size) (stW cI a N zz)) w6).mp hD
          have hP : va_P D vwCl (stW cI a N (p_wtv N n v (t + 1))) H := hP
          have hD : va_D (va_A (stW cI a N v) s.heap.size) (stW cI a N (p_wtv N n v (t + 1))) := hD
          exact ih (t + 1) (by omega) (by omega) H locs hP hD hS hS.1 ls hl
        · have c4 := bI_ne0 c4
          obtain ⟨x7, e7⟩ : ∃ z : Int32, z = (p_wtr N n t) + 1 := ⟨_, rfl⟩
          refine lv_iinc (v := x7) (lv' := [(1, .int x7), (0, .ref (a 0)), (2, .int (nI t))]) hx hb dX3_wholeTrucks_18 hl (k := 1) rfl (by rw [e7]; rfl) (by decide) rfl (fun ls hl => ?_)
          refine lv_iinc (v := nI (t + 1)) (lv' := [(2, .int (nI (t + 1))), (1, .int x7), (0, .ref (a 0))]) hx hb dX3_wholeTrucks_21 hl (k := 2) rfl (nI_1 _) (by decide) rfl (fun ls hl => ?_)
          refine lv_goto (tgt := 4) hx hb dX3_wholeTrucks_24 (by decide) ?_
          have hl : lv_has ls 3 [(0, .ref (a 0)), (1, .int x7), (2, .int (nI (t + 1)))] := lv_sub hl [2, 1, 0] rfl
          have w8 : x7 = p_wtr N n (t + 1) := by subst e7; simp [p_wtr, p_wtv, c2, c2', htn, c4]
          have hl : lv_has ls 3 [(0, .ref (a 0)), (1, .int (p_wtr N n (t + 1))), (2, .int (nI (t + 1)))] := (congrArg (fun zz => lv_has ls 3 [(0, .ref (a 0)), (1, .int zz), (2, .int (nI (t + 1)))]) w8).mp hl
          have hl : lv_has ls 3 [(0, .ref (a 0)), (1, .int (p_wtr N n (t + 1))), (2, .int (nI (t + 1)))] := hl
          have w9 : (p_lay N (nI t) (-1) n) = (p_wtv N n v (t + 1)) := by subst e7; simp [p_wtr, p_wtv, c2, c2', htn, c4]
          have hP : va_P D vwCl (stW cI a N (p_wtv N n v (t + 1))) H := (congrArg (fun zz => va_P D vwCl (stW cI a N zz) H) w9).mp hP
          have hD : va_D (va_A (stW cI a N v) s.heap.size) (stW cI a N (p_wtv N n v (t + 1))) := (congrArg (fun zz => va_D (va_A (stW cI a N v) s.heap.size) (stW cI a N zz)) w9).mp hD
          have hP : va_P D vwCl (stW cI a N (p_wtv N n v (t + 1))) H := hP
          have hD : va_D (va_A (stW cI a N v) s.heap.size) (stW cI a N (p_wtv N n v (t + 1))) := hD
          exact ih (t + 1) (by omega) (by omega) H locs hP hD hS hS.1 ls hl
  have hl : lv_has ls 3 [(0, .ref (a 0)), (1, .int 0), (2, .int 0)] := lv_sub hl [2, 1, 0] rfl
  have hl : lv_has ls 3 [(0, .ref (a 0)), (1, .int (p_wtr N n 0)), (2, .int (nI 0))] := hl
  have hP : va_P D vwCl (stW cI a N (p_wtv N n v 0)) s.heap := hP
  have hD : va_D (va_A (stW cI a N v) s.heap.size) (stW cI a N (p_wtv N n v 0)) := hD
  exact L1 (3 - 0 + 1) 0 (by omega) (by omega) s.heap [] hP hD hS (Nat.le_refl _) ls hl

abbrev rmX3_cheapestHelp : Room := { frames := 4, cells := 0, slots := 0, locals := 86 }
set_option maxHeartbeats 4000000 in
set_option maxRecDepth 100000 in
theorem c_X3_cheapestHelp (l : Launch) (D : va_G) (cI cS cL : ClassId) (a : Nat → Nat) (N : NN) (v : Nat → Int32) (sz : Nat) (n t : Nat) (hn : N 1 2 = nI n) (hn14 : n ≤ 14) (ht : t < 3) : Met l yX3_cheapestHelp (wy_ yX3_cheapestHelp cX3_cheapestHelp 6 (some .int)) rmX3_cheapestHelp (kPc D (kTy cI cS cL) (stW cI a N v) sz [.ref (a 0), .int (nI t)]) (kMi D (stW cI a N v) (stW cI a N (p_helpv N t n)) sz (p_help N t n)) 0 0 (va_A (stW cI a N v) sz) := by
  refine k_ofW (by decide) (Nat.le_of_ble_eq_true rfl) ?_
  intro p e s m args below meth c hx hb hr hml hts hown hlocks hnm hsz hP hK hD hE ls hl
  subst hsz
  have hA : ∀ q : Nat, s.heap.size ≤ q → (va_A (stW cI a N v) s.heap.size) q := fun q h => Or.inr h
  have hS : va_S (va_A (stW cI a N v) s.heap.size) s.heap s.heap [] := va_S.rf
  have hl : lv_has ls 6 [(0, .ref (a 0)), (1, .int (nI t))] := hl
  refine lv_aload_n hx hb dX3_cheapestHelp_0 rfl (lv_at hl 0 rfl) ?_
  refine lv_iload_n hx hb dX3_cheapestHelp_1 rfl (lv_at hl 1 rfl) ?_
  refine lv_iconst (v := (-1)) hx hb dX3_cheapestHelp_2 (by decide) ?_
  refine k_miV (As := [.int (nI t), .int (-1)]) (rest := []) (w1 := []) (wc := stW cI a N v) (wc' := stW cI a N (p_lay N (nI t) (-1) n)) (w3 := []) ⟨hx, hb, hml, hown, hts⟩ (c_X3_layLine l D cI cS cL a N v _ n t (-1) hn hn14 (by omega)) lkX3_151 rfl rfl ⟨(Nat.le_of_ble_eq_true rfl), (Nat.le_of_ble_eq_true rfl)⟩ (va_recv hK hP (ci := 2) (q0 := 0) rfl rfl) hK hE hP hD hS hA rfl rfl hl.1 rfl (Nat.le_of_ble_eq_true rfl) dX3_cheapestHelp_3 ⟨Nat.zero_le _, Nat.zero_le _⟩ (fun H locs hzz hP hD hS => ?_)
  have hP : va_P D vwCl (stW cI a N (p_lay N (nI t) (-1) n)) H := hP
  have hD : va_D (va_A (stW cI a N v) s.heap.size) (stW cI a N (p_lay N (nI t) (-1) n)) := hD
  refine lv_if_eq (tgt := 11) hx hb dX3_cheapestHelp_6 (by decide) (fun c1 => ?_) (fun c1 => ?_)
  · have c1 := bI_eq0 c1
    refine lv_iconst (v := (-1)) hx hb dX3_cheapestHelp_11 (by decide) ?_
    refine lv_istore_n (lv' := [(2, .int (-1)), (0, .ref (a 0)), (1, .int (nI t))]) hx hb dX3_cheapestHelp_12 rfl hl (by decide) rfl (fun ls hl => ?_)
    refine lv_iconst (v := 0) hx hb dX3_cheapestHelp_13 (by decide) ?_
    refine lv_istore_n (lv' := [(3, .int 0), (2, .int (-1)), (0, .ref (a 0)), (1, .int (nI t))]) hx hb dX3_cheapestHelp_14 rfl hl (by decide) rfl (fun ls hl => ?_)
    refine lv_iconst (v := 0) hx hb dX3_cheapestHelp_15 (by decide) ?_
    refine lv_istore (lv' := [(4, .int 0), (3, .int 0), (2, .int (-1)), (0, .ref (a 0)), (1, .int (nI t))]) hx hb dX3_cheapestHelp_16 hl (by decide) rfl (fun ls hl => ?_)
    have L2 : ∀ (f k : Nat), k ≤ n → n - k < f → ∀ (H : Heap) (locs : List Loc), va_P D vwCl (stW cI a N (p_chv N t n k)) H → va_D (va_A (stW cI a N v) s.heap.size) (stW cI a N (p_chv N t n k)) → va_S (va_A (stW cI a N v) s.heap.size) s.heap H locs → s.heap.size ≤ H.size → ∀ ls : Array Slot, lv_has ls 6 [(0, .ref (a 0)), (1, .int (nI t)), (2, .int (p_ch N t n k)), (3, .int (p_chp N t n k)), (4, .int (nI k))] → W p l e rmX3_cheapestHelp s m args below meth c H locs 0 0 (MQ below (kMi D (stW cI a N v) (stW cI a N (p_helpv N t n)) s.heap.size (p_help N t n)) args s 0 0 (va_A (stW cI a N v) s.heap.size)) (F0 m 18 ls []) := by
      intro f
      induction f with
      | zero => intro k hv1 hv2; exact absurd hv2 (Nat.not_lt_zero _)
      | succ f ih =>
        intro k hv1 hv2 H locs hP hD hS hz ls hl
        refine lv_iload hx hb dX3_cheapestHelp_18 (lv_at hl 4 rfl) ?_
        refine lv_aload_n hx hb dX3_cheapestHelp_20 rfl (lv_at hl 0 rfl) ?_
        refine g3 hx hb hts hown hK hP 0 rfl 2 (by decide) flX3_56 (fun _ h => h) (v := .int (nI n)) (by rw [← hn]; rfl) dX3_cheapestHelp_21 ?_
        refine lv_icmp_ge (tgt := 100) hx hb dX3_cheapestHelp_24 (by decide) (fun c3 => ?_) (fun c3 => ?_)
        · have c3' := Int32.not_lt.mpr c3
          have hkn : n = k := (k_exit (by omega) hv1 c3).symm
          subst hkn
          refine lv_iload_n hx hb dX3_cheapestHelp_100 rfl (lv_at hl 2 rfl) ?_
          have w4 : (p_chv N t n n) = (p_helpv N t n) := by simp [p_ch, p_chv, p_help, p_helpv, c1, c3, c3']
          have hP : va_P D vwCl (stW cI a N (p_helpv N t n)) H := (congrArg (fun zz => va_P D vwCl (stW cI a N zz) H) w4).mp hP
          have hD : va_D (va_A (stW cI a N v) s.heap.size) (stW cI a N (p_helpv N t n)) := (congrArg (fun zz => va_D (va_A (stW cI a N v) s.heap.size) (stW cI a N zz)) w4).mp hD
          have hP : va_P D vwCl (stW cI a N (p_helpv N t n)) H := hP
          have hD : va_D (va_A (stW cI a N v) s.heap.size) (stW cI a N (p_helpv N t n)) := hD
          exact k_eMi hx hb hr hlocks hP hS (by simp [p_ch, p_chv, p_help, p_helpv, c1, c3, c3']) dX3_cheapestHelp_101
        · have c3' := Int32.not_le.mp c3
          have hkn : k < n := k_more (by omega) hv1 c3
          refine lv_aload_n hx hb dX3_cheapestHelp_27 rfl (lv_at hl 0 rfl) ?_
          refine g3 hx hb hts hown hK hP 0 rfl 14 (by decide) flX3_43 (fun _ h => h) (v := .ref (a 9)) rfl dX3_cheapestHelp_28 ?_
          refine lv_iload hx hb dX3_cheapestHelp_31 (lv_at hl 4 rfl) ?_
          refine k_ald (k := k) hx hb hK hP 9 0 rfl rfl rfl (by omega) (by decide) dX3_cheapestHelp_33 ?_
          refine lv_iconst (v := 3) hx hb dX3_cheapestHelp_34 (by decide) ?_
          refine lv_icmp_ne (tgt := 61) hx hb dX3_cheapestHelp_35 (by decide) (fun c5 => ?_) (fun c5 => ?_)
          · refine lv_iconst (v := 0) hx hb dX3_cheapestHelp_61 (by decide) ?_
            refine lv_istore (lv' := [(5, .int 0), (0, .ref (a 0)), (1, .int (nI t)), (2, .int (p_ch N t n k)), (3, .int (p_chp N t n k)), (4, .int (nI k))]) hx hb dX3_cheapestHelp_62 hl (by decide) rfl (fun ls hl => ?_)
            refine lv_iload hx hb dX3_cheapestHelp_64 (lv_at hl 0 rfl) ?_
            refine lv_if_eq (tgt := 94) hx hb dX3_cheapestHelp_66 (by decide) (fun _ => ?_) (fun h => absurd (by decide) h)
            refine lv_iinc (v := nI (k + 1)) (lv' := [(4, .int (nI (k + 1))), (5, .int 0), (0, .ref (a 0)), (1, .int (nI t)), (2, .int (p_ch N t n k)), (3, .int (p_chp N t n k))]) hx hb dX3_cheapestHelp_94 hl (k := 5) rfl (nI_1 _) (by decide) rfl (fun ls hl => ?_)
            refine lv_goto (tgt := 18) hx hb dX3_cheapestHelp_97 (by decide) ?_
            have hl : lv_has ls 6 [(0, .ref (a 0)), (1, .int (nI t)), (2, .int (p_ch N t n k)), (3, .int (p_chp N t n k)), (4, .int (nI (k + 1)))] := lv_sub hl [2, 3, 4, 5, 0] rfl
            have w6 : p_ch N t n k = p_ch N t n (k + 1) := by simp [p_ch, p_chv, p_help, p_helpv, c1, c3, c3', hkn, c5, p_chp]
            have hl : lv_has ls 6 [(0, .ref (a 0)), (1, .int (nI t)), (2, .int (p_ch N t n (k + 1))), (3, .int (p_chp N t n k)), (4, .int (nI (k + 1)))] := (congrArg (fun zz => lv_has ls 6 [(0, .ref (a 0)), (1, .int (nI t)), (2, .int zz), (3, .int (p_chp N t n k)), (4, .int (nI (k + 1)))]) w6).mp hl
            have w7 : p_chp N t n k = p_chp N t n (k + 1) := by exact p_chp_eq (by simp [p_ch, p_chv, p_help, p_helpv, c1, c3, c3', hkn, c5, p_chp])
            have hl : lv_has ls 6 [(0, .ref (a 0)), (1, .int (nI t)), (2, .int (p_ch N t n (k + 1))), (3, .int (p_chp N t n (k + 1))), (4, .int (nI (k + 1)))] := (congrArg (fun zz => lv_has ls 6 [(0, .ref (a 0)), (1, .int (nI t)), (2, .int (p_ch N t n (k + 1))), (3, .int zz), (4, .int (nI (k + 1)))]) w7).mp hl
            have hl : lv_has ls 6 [(0, .ref (a 0)), (1, .int (nI t)), (2, .int (p_ch N t n (k + 1))), (3, .int (p_chp N t n (k + 1))), (4, .int (nI (k + 1)))] := hl
            have w8 : (p_chv N t n k) = (p_chv N t n (k + 1)) := by simp [p_ch, p_chv, p_help, p_helpv, c1, c3, c3', hkn, c5]
            have hP : va_P D vwCl (stW cI a N (p_chv N t n (k + 1))) H := (congrArg (fun zz => va_P D vwCl (stW cI a N zz) H) w8).mp hP
            have hD : va_D (va_A (stW cI a N v) s.heap.size) (stW cI a N (p_chv N t n (k + 1))) := (congrArg (fun zz => va_D (va_A (stW cI a N v) s.heap.size) (stW cI a N zz)) w8).mp hD
            have hP : va_P D vwCl (stW cI a N (p_chv N t n (k + 1))) H := hP
            have hD : va_D (va_A (stW cI a N v) s.heap.size) (stW cI a N (p_chv N t n (k + 1))) := hD
            exact ih (k + 1) (by omega) (by omega) H locs hP hD hS hS.1 ls hl
          · refine lv_aload_n hx hb dX3_cheapestHelp_38 rfl (lv_at hl 0 rfl) ?_
            refine lv_iload hx hb dX3_cheapestHelp_39 (lv_at hl 4 rfl) ?_
            refine k_riV (As := [.int (nI k)]) (rest := []) (wc := stW cI a N (p_chv N t n k)) ⟨hx, hb, hml, hown, hts⟩ (c_X3_isReady l D cI cS cL a N (p_chv N t n k) _ k (by omega)) lkX3_138 rfl rfl ⟨(Nat.le_of_ble_eq_true rfl), (Nat.le_of_ble_eq_true rfl)⟩ (va_recv hK hP (ci := 2) (q0 := 0) rfl rfl) hK hE hP hD rfl hl.1 rfl (Nat.le_of_ble_eq_true rfl) dX3_cheapestHelp_41 ⟨Nat.zero_le _, Nat.zero_le _⟩ ?_
            refine lv_if_eq (tgt := 61) hx hb dX3_cheapestHelp_44 (by decide) (fun c9 => ?_) (fun c9 => ?_)
            · have c9 := bI_eq0 c9
              refine lv_iconst (v := 0) hx hb dX3_cheapestHelp_61 (by decide) ?_
              refine lv_istore (lv' := [(5, .int 0), (0, .ref (a 0)), (1, .int (nI t)), (2, .int (p_ch N t n k)), (3, .int (p_chp N t n k)), (4, .int (nI k))]) hx hb dX3_cheapestHelp_62 hl (by decide) rfl (fun ls hl => ?_)
              refine lv_iload hx hb dX3_cheapestHelp_64 (lv_at hl 0 rfl) ?_
              refine lv_if_eq (tgt := 94) hx hb dX3_cheapestHelp_66 (by decide) (fun _ => ?_) (fun h => absurd (by decide) h)
              refine lv_iinc (v := nI (k + 1)) (lv' := [(4, .int (nI (k + 1))), (5, .int 0), (0, .ref (a 0)), (1, .int (nI t)), (2, .int (p_ch N t n k)), (3, .int (p_chp N t n k))]) hx hb dX3_cheapestHelp_94 hl (k := 5) rfl (nI_1 _) (by decide) rfl (fun ls hl => ?_)
              refine lv_goto (tgt := 18) hx hb dX3_cheapestHelp_97 (by decide) ?_
              have hl : lv_has ls 6 [(0, .ref (a 0)), (1, .int (nI t)), (2, .int (p_ch N t n k)), (3, .int (p_chp N t n k)), (4, .int (nI (k + 1)))] := lv_sub hl [2, 3, 4, 5, 0] rfl
              have w10 : p_ch N t n k = p_ch N t n (k + 1) := by simp [p_ch, p_chv, p_help, p_helpv, c1, c3, c3', hkn, c5, c9, p_chp]
              have hl : lv_has ls 6 [(0, .ref (a 0)), (1, .int (nI t)), (2, .int (p_ch N t n (k + 1))), (3, .int (p_chp N t n k)), (4, .int (nI (k + 1)))] := (congrArg (fun zz => lv_has ls 6 [(0, .ref (a 0)), (1, .int (nI t)), (2, .int zz), (3, .int (p_chp N t n k)), (4, .int (nI (k + 1)))]) w10).mp hl
              have w11 : p_chp N t n k = p_chp N t n (k + 1) := by exact p_chp_eq (by simp [p_ch, p_chv, p_help, p_helpv, c1, c3, c3', hkn, c5, c9, p_chp])
              have hl : lv_has ls 6 [(0, .ref (a 0)), (1, .int (nI t)), (2, .int (p_ch N t n (k + 1))), (3, .int (p_chp N t n (k + 1))), (4, .int (nI (k + 1)))] := (congrArg (fun zz => lv_has ls 6 [(0, .ref (a 0)), (1, .int (nI t)), (2, .int (p_ch N t n (k + 1))), (3, .int zz), (4, .int (nI (k + 1)))]) w11).mp hl
              have hl : lv_has ls 6 [(0, .ref (a 0)), (1, .int (nI t)), (2, .int (p_ch N t n (k + 1))), (3, .int (p_chp N t n (k + 1))), (4, .int (nI (k + 1)))] := hl
              have w12 : (p_chv N t n k) = (p_chv N t n (k + 1)) := by simp [p_ch, p_chv, p_help, p_helpv, c1, c3, c3', hkn, c5, c9]
              have hP : va_P D vwCl (stW cI a N (p_chv N t n (k + 1))) H := (congrArg (fun zz => va_P D vwCl (stW cI a N zz) H) w12).mp hP
              have hD : va_D (va_A (stW cI a N v) s.heap.size) (stW cI a N (p_chv N t n (k + 1))) := (congrArg (fun zz => va_D (va_A (stW cI a N v) s.heap.size) (stW cI a N zz)) w12).mp hD
              have hP : va_P D vwCl (stW cI a N (p_chv N t n (k + 1))) H := hP
              have hD : va_D (va_A (stW cI a N v) s.heap.size) (stW cI a N (p_chv N t n (k + 1))) := hD
              exact ih (k + 1) (by omega) (by omega) H locs hP hD hS hS.1 ls hl
            · have c9 := bI_ne0 c9
              refine lv_aload_n hx hb dX3_cheapestHelp_47 rfl (lv_at hl 0 rfl) ?_
              refine lv_iload_n hx hb dX3_cheapestHelp_48 rfl (lv_at hl 1 rfl) ?_
              refine lv_iload hx hb dX3_cheapestHelp_49 (lv_at hl 4 rfl) ?_
              refine k_miV (As := [.int (nI t), .int (nI k)]) (rest := []) (w1 := []) (wc := stW cI a N (p_chv N t n k)) (wc' := stW cI a N (p_lay N (nI t) (nI k) n)) (w3 := []) ⟨hx, hb, hml, hown, hts⟩ (c_X3_layLine l D cI cS cL a N (p_chv N t n k) _ n t (nI k) hn hn14 (by omega)) lkX3_151 rfl rfl ⟨(Nat.le_of_ble_eq_true rfl), (Nat.le_of_ble_eq_true rfl)⟩ (va_recv hK hP (ci := 2) (q0 := 0) rfl rfl) hK hE hP hD hS hA rfl rfl hl.1 rfl (Nat.le_of_ble_eq_true rfl) dX3_cheapestHelp_51 ⟨Nat.zero_le _, Nat.zero_le _⟩ (fun H locs hzz hP hD hS => ?_)
              have hP : va_P D vwCl (stW cI a N (p_lay N (nI t) (nI k) n)) H := hP
              have hD : va_D (va_A (stW cI a N v) s.heap.size) (stW cI a N (p_lay N (nI t) (nI k) n)) := hD
              refine lv_if_eq (tgt := 61) hx hb dX3_cheapestHelp_54 (by decide) (fun c13 => ?_) (fun c13 => ?_)
              · have c13 := bI_eq0 c13
                refine lv_iconst (v := 0) hx hb dX3_cheapestHelp_61 (by decide) ?_
                refine lv_istore (lv' := [(5, .int 0), (0, .ref (a 0)), (1, .int (nI t)), (2, .int (p_ch N t n k)), (3, .int (p_chp N t n k)), (4, .int (nI k))]) hx hb dX3_cheapestHelp_62 hl (by decide) rfl (fun ls hl => ?_)
                refine lv_iload hx hb dX3_cheapestHelp_64 (lv_at hl 0 rfl) ?_
                refine lv_if_eq (tgt := 94) hx hb dX3_cheapestHelp_66 (by decide) (fun _ => ?_) (fun h => absurd (by decide) h)
                refine lv_iinc (v := nI (k + 1)) (lv' := [(4, .int (nI (k + 1))), (5, .int 0), (0, .ref (a 0)), (1, .int (nI t)), (2, .int (p_ch N t n k)), (3, .int (p_chp N t n k))]) hx hb dX3_cheapestHelp_94 hl (k := 5) rfl (nI_1 _) (by decide) rfl (fun ls hl => ?_)
                refine lv_goto (tgt := 18) hx hb dX3_cheapestHelp_97 (by decide) ?_
                have hl : lv_has ls 6 [(0, .ref (a 0)), (1, .int (nI t)), (2, .int (p_ch N t n k)), (3, .int (p_chp N t n k)), (4, .int (nI (k + 1)))] := lv_sub hl [2, 3, 4, 5, 0] rfl
                have w14 : p_ch N t n k = p_ch N t n (k + 1) := by simp [p_ch, p_chv, p_help, p_helpv, c1, c3, c3', hkn, c5, c9, c13, p_chp]
                have hl : lv_has ls 6 [(0, .ref (a 0)), (1, .int (nI t)), (2, .int (p_ch N t n (k + 1))), (3, .int (p_chp N t n k)), (4, .int (nI (k + 1)))] := (congrArg (fun zz => lv_has ls 6 [(0, .ref (a 0)), (1, .int (nI t)), (2, .int zz), (3, .int (p_chp N t n k)), (4, .int (nI (k + 1)))]) w14).mp hl
                have w15 : p_chp N t n k = p_chp N t n (k + 1) := by exact p_chp_eq (by simp [p_ch, p_chv, p_help, p_helpv, c1, c3, c3', hkn, c5, c9, c13, p_chp])
                have hl : lv_has ls 6 [(0, .ref (a 0)), (1, .int (nI t)), (2, .int (p_ch N t n (k + 1))), (3, .int (p_chp N t n (k + 1))), (4, .int (nI (k + 1)))] := (congrArg (fun zz => lv_has ls 6 [(0, .ref (a 0)), (1, .int (nI t)), (2, .int (p_ch N t n (k + 1))), (3, .int zz), (4, .int (nI (k + 1)))]) w15).mp hl
                have hl : lv_has ls 6 [(0, .ref (a 0)), (1, .int (nI t)), (2, .int (p_ch N t n (k + 1))), (3, .int (p_chp N t n (k + 1))), (4, .int (nI (k + 1)))] := hl
                have w16 : (p_lay N (nI t) (nI k) n) = (p_chv N t n (k + 1)) := by simp [p_ch, p_chv, p_help, p_helpv, c1, c3, c3', hkn, c5, c9, c13]
                have hP : va_P D vwCl (stW cI a N (p_chv N t n (k + 1))) H := (congrArg (fun zz => va_P D vwCl (stW cI a N zz) H) w16).mp hP
                have hD : va_D (va_A (stW cI a N v) s.heap.size) (stW cI a N (p_chv N t n (k + 1))) := (congrArg (fun zz => va_D (va_A (stW cI a N v) s.heap.size) (stW cI a N zz)) w16).mp hD
                have hP : va_P D vwCl (stW cI a N (p_chv N t n (k + 1))) H := hP
                have hD : va_D (va_A (stW cI a N v) s.heap.size) (stW cI a N (p_chv N t n (k + 1))) := hD
                exact ih (k + 1) (by omega) (by omega) H locs hP hD hS hS.1 ls hl
              · have c13 := bI_ne0 c13
                refine lv_iconst (v := 1) hx hb dX3_cheapestHelp_57 (by decide) ?_
                refine lv_goto (tgt := 62) hx hb dX3_cheapestHelp_58 (by decide) ?_
                refine lv_istore (lv' := [(5, .int 1), (0, .ref (a 0)), (1, .int (nI t)), (2, .int (p_ch N t n k)), (3, .int (p_chp N t n k)), (4, .int (nI k))]) hx hb dX3_cheapestHelp_62 hl (by decide) rfl (fun ls hl => ?_)
                refine lv_iload hx hb dX3_cheapestHelp_64 (lv_at hl 0 rfl) ?_
                refine lv_if_eq (tgt := 94) hx hb dX3_cheapestHelp_66 (by decide) (fun h => absurd h (by decide)) (fun _ => ?_)
                refine lv_iload_n hx hb dX3_cheapestHelp_69 rfl (lv_at hl 3 rfl) ?_
                refine lv_iconst (v := (-1)) hx hb dX3_cheapestHelp_70 (by decide) ?_
                refine lv_icmp_eq (tgt := 84) hx hb dX3_cheapestHelp_71 (by decide) (fun c17 => ?_) (fun c17 => ?_)
                · refine lv_iload hx hb dX3_cheapestHelp_84 (lv_at hl 5 rfl) ?_
                  refine lv_istore_n (lv' := [(2, .int (nI k)), (5, .int 1), (0, .ref (a 0)), (1, .int (nI t)), (3, .int (p_chp N t n k)), (4, .int (nI k))]) hx hb dX3_cheapestHelp_86 rfl hl (by decide) rfl (fun ls hl => ?_)
                  refine lv_aload_n hx hb dX3_cheapestHelp_87 rfl (lv_at hl 2 rfl) ?_
                  refine lv_iload hx hb dX3_cheapestHelp_88 (lv_at hl 5 rfl) ?_
                  refine k_riV (As := [.int (nI k)]) (rest := []) (wc := stW cI a N (p_lay N (nI t) (nI k) n)) ⟨hx, hb, hml, hown, hts⟩ (c_X3_priceOf l D cI cS cL a N (p_lay N (nI t) (nI k) n) _ k (by omega)) lkX3_102 rfl rfl ⟨(Nat.le_of_ble_eq_true rfl), (Nat.le_of_ble_eq_true rfl)⟩ (va_recv hK hP (ci := 2) (q0 := 0) rfl rfl) hK hE hP hD rfl hl.1 rfl (Nat.le_of_ble_eq_true rfl) dX3_cheapestHelp_90 ⟨Nat.zero_le _, Nat.zero_le _⟩ ?_
                  refine lv_istore_n (lv' := [(3, .int (p_price N k)), (2, .int (nI k)), (5, .int 1), (0, .ref (a 0)), (1, .int (nI t)), (4, .int (nI k))]) hx hb dX3_cheapestHelp_93 rfl hl (by decide) rfl (fun ls hl => ?_)
                  refine lv_iinc (v := nI (k + 1)) (lv' := [(4, .int (nI (k + 1))), (3, .int (p_price N k)), (2, .int (nI k)), (5, .int 1), (0, .ref (a 0)), (1, .int (nI t))]) hx hb dX3_cheapestHelp_94 hl (k := 5) rfl (nI_1 _) (by decide) rfl (fun ls hl => ?_)
                  refine lv_goto (tgt := 18) hx hb dX3_cheapestHelp_97 (by decide) ?_
                  have hl : lv_has ls 6 [(0, .ref (a 0)), (1, .int (nI t)), (2, .int (nI k)), (3, .int (p_price N k)), (4, .int (nI (k + 1)))] := lv_sub hl [4, 5, 2, 1, 0] rfl
                  have w18 : nI k = p_ch N t n (k + 1) := by simp [p_ch, p_chv, p_help, p_helpv, c1, c3, c3', hkn, c5, c9, c13, c17, p_chp]
                  have hl : lv_has ls 6 [(0, .ref (a 0)), (1, .int (nI t)), (2, .int (p_ch N t n (k + 1))), (3, .int (p_price N k)), (4, .int (nI (k + 1)))] := (congrArg (fun zz => lv_has ls 6 [(0, .ref (a 0)), (1, .int (nI t)), (2, .int zz), (3, .int (p_price N k)), (4, .int (nI (k + 1)))]) w18).mp hl
                  have w19 : p_price N k = p_chp N t n (k + 1) := by exact p_chp_hit w18.symm (by omega)
                  have hl : lv_has ls 6 [(0, .ref (a 0)), (1, .int (nI t)), (2, .int (p_ch N t n (k + 1))), (3, .int (p_chp N t n (k + 1))), (4, .int (nI (k + 1)))] := (congrArg (fun zz => lv_has ls 6 [(0, .ref (a 0)), (1, .int (nI t)), (2, .int (p_ch N t n (k + 1))), (3, .int zz), (4, .int (nI (k + 1)))]) w19).mp hl
                  have hl : lv_has ls 6 [(0, .ref (a 0)), (1, .int (nI t)), (2, .int (p_ch N t n (k + 1))), (3, .int (p_chp N t n (k + 1))), (4, .int (nI (k + 1)))] := hl
                  have w20 : (p_lay N (nI t) (nI k) n) = (p_chv N t n (k + 1)) := by simp [p_ch, p_chv, p_help, p_helpv, c1, c3, c3', hkn, c5, c9, c13, c17]
                  have hP : va_P D vwCl (stW cI a N (p_chv N t n (k + 1))) H := (congrArg (fun zz => va_P D vwCl (stW cI a N zz) H) w20).mp hP
                  have hD : va_D (va_A (stW cI a N v) s.heap.size) (stW cI a N (p_chv N t n (k + 1))) := (congrArg (fun zz => va_D (va_A (stW cI a N v) s.heap.size) (stW cI a N zz)) w20).mp hD
                  have hP : va_P D vwCl (stW cI a N (p_chv N t n (k + 1))) H := hP
                  have hD : va_D (va_A (stW cI a N v) s.heap.size) (stW cI a N (p_chv N t n (k + 1))) := hD
                  exact ih (k + 1) (by omega) (by omega) H locs hP hD hS hS.1 ls hl
                · have hcp : p_chp N t n k = p_price N (p_ch N t n k).toNatClampNeg := if_neg c17
                  refine lv_aload_n hx hb dX3_cheapestHelp_74 rfl (lv_at hl 1 rfl) ?_
                  refine lv_iload hx hb dX3_cheapestHelp_75 (lv_at hl 5 rfl) ?_
                  refine k_riV (As := [.int (nI k)]) (rest := []) (wc := stW cI a N (p_lay N (nI t) (nI k) n)) ⟨hx, hb, hml, hown, hts⟩ (c_X3_priceOf l D cI cS cL a N (p_lay N (nI t) (nI k) n) _ k (by omega)) lkX3_102 rfl rfl ⟨(Nat.le_of_ble_eq_true rfl), (Nat.le_of_ble_eq_true rfl)⟩ (va_recv hK hP (ci := 2) (q0 := 0) rfl rfl) hK hE hP hD rfl hl.1 rfl (Nat.le_of_ble_eq_true rfl) dX3_cheapestHelp_77 ⟨Nat.zero_le _, Nat.zero_le _⟩ ?_
                  refine lv_iload_n hx hb dX3_cheapestHelp_80 rfl (lv_at hl 4 rfl) ?_
                  refine lv_icmp_ge (tgt := 94) hx hb dX3_cheapestHelp_81 (by decide) (fun c21 => ?_) (fun c21 => ?_)
                  · have c21' := Int32.not_lt.mpr c21
                    rw [hcp] at c21 c21'
                    refine lv_iinc (v := nI (k + 1)) (lv' := [(4, .int (nI (k + 1))), (5, .int 1), (0, .ref (a 0)), (1, .int (nI t)), (2, .int (p_ch N t n k)), (3, .int (p_chp N t n k))]) hx hb dX3_cheapestHelp_94 hl (k := 5) rfl (nI_1 _) (by decide) rfl (fun ls hl => ?_)
                    refine lv_goto (tgt := 18) hx hb dX3_cheapestHelp_97 (by decide) ?_
                    have hl : lv_has ls 6 [(0, .ref (a 0)), (1, .int (nI t)), (2, .int (p_ch N t n k)), (3, .int (p_chp N t n k)), (4, .int (nI (k + 1)))] := lv_sub hl [2, 3, 4, 5, 0] rfl
                    have w22 : p_ch N t n k = p_ch N t n (k + 1) := by simp [p_ch, p_chv, p_help, p_helpv, c1, c3, c3', hkn, c5, c9, c13, c17, hcp, c21, c21', p_chp]
                    have hl : lv_has ls 6 [(0, .ref (a 0)), (1, .int (nI t)), (2, .int (p_ch N t n (k + 1))), (3, .int (p_chp N t n k)), (4, .int (nI (k + 1)))] := (congrArg (fun zz => lv_has ls 6 [(0, .ref (a 0)), (1, .int (nI t)), (2, .int zz), (3, .int (p_chp N t n k)), (4, .int (nI (k + 1)))]) w22).mp hl
                    have w23 : p_chp N t n k = p_chp N t n (k + 1) := by exact p_chp_eq (by simp [p_ch, p_chv, p_help, p_helpv, c1, c3, c3', hkn, c5, c9, c13, c17, hcp, c21, c21', p_chp])
                    have hl : lv_has ls 6 [(0, .ref (a 0)), (1, .int (nI t)), (2, .int (p_ch N t n (k + 1))), (3, .int (p_chp N t n (k + 1))), (4, .int (nI (k + 1)))] := (congrArg (fun zz => lv_has ls 6 [(0, .ref (a 0)), (1, .int (nI t)), (2, .int (p_ch N t n (k + 1))), (3, .int zz), (4, .int (nI (k + 1)))]) w23).mp hl
                    have hl : lv_has ls 6 [(0, .ref (a 0)), (1, .int (nI t)), (2, .int (p_ch N t n (k + 1))), (3, .int (p_chp N t n (k + 1))), (4, .int (nI (k + 1)))] := hl
                    have w24 : (p_lay N (nI t) (nI k) n) = (p_chv N t n (k + 1)) := by simp [p_ch, p_chv, p_help, p_helpv, c1, c3, c3', hkn, c5, c9, c13, c17, hcp, c21, c21']
                    have hP : va_P D vwCl (stW cI a N (p_chv N t n (k + 1))) H := (congrArg (fun zz => va_P D vwCl (stW cI a N zz) H) w24).mp hP
                    have hD : va_D (va_A (stW cI a N v) s.heap.size) (stW cI a N (p_chv N t n (k + 1))) := (congrArg (fun zz => va_D (va_A (stW cI a N v) s.heap.size) (stW cI a N zz)) w24).mp hD
                    have hP : va_P D vwCl (stW cI a N (p_chv N t n (k + 1))) H := hP
                    have hD : va_D (va_A (stW cI a N v) s.heap.size) (stW cI a N (p_chv N t n (k + 1))) := hD
                    exact ih (k + 1) (by omega) (by omega) H locs hP hD hS hS.1 ls hl
                  · have c21' := Int32.not_le.mp c21
                    rw [hcp] at c21 c21'
                    refine lv_iload hx hb dX3_cheapestHelp_84 (lv_at hl 5 rfl) ?_
                    refine lv_istore_n (lv' := [(2, .int (nI k)), (5, .int 1), (0, .ref (a 0)), (1, .int (nI t)), (3, .int (p_chp N t n k)), (4, .int (nI k))]) hx hb dX3_cheapestHelp_86 rfl hl (by decide) rfl (fun ls hl => ?_)
                    refine lv_aload_n hx hb dX3_cheapestHelp_87 rfl (lv_at hl 2 rfl) ?_
                    refine lv_iload hx hb dX3_cheapestHelp_88 (lv_at hl 5 rfl) ?_
                    refine k_riV (As := [.int (nI k)]) (rest := []) (wc := stW cI a N (p_lay N (nI t) (nI k) n)) ⟨hx, hb, hml, hown, hts⟩ (c_X3_priceOf l D cI cS cL a N (p_lay N (nI t) (nI k) n) _ k (by omega)) lkX3_102 rfl rfl ⟨(Nat.le_of_ble_eq_true rfl), (Nat.le_of_ble_eq_true rfl)⟩ (va_recv hK hP (ci := 2) (q0 := 0) rfl rfl) hK hE hP hD rfl hl.1 rfl (Nat.le_of_ble_eq_true rfl) dX3_cheapestHelp_90 ⟨Nat.zero_le _, Nat.zero_le _⟩ ?_
                    refine lv_istore_n (lv' := [(3, .int (p_price N k)), (2, .int (nI k)), (5, .int 1), (0, .ref (a 0)), (1, .int (nI t)), (4, .int (nI k))]) hx hb dX3_cheapestHelp_93 rfl hl (by decide) rfl (fun ls hl => ?_)
                    refine lv_iinc (v := nI (k + 1)) (lv' := [(4, .int (nI (k + 1))), (3, .int (p_price N k)), (2, .int (nI k)), (5, .int 1), (0, .ref (a 0)), (1, .int (nI t))]) hx hb dX3_cheapestHelp_94 hl (k := 5) rfl (nI_1 _) (by decide) rfl (fun ls hl => ?_)
                    refine lv_goto (tgt := 18) hx hb dX3_cheapestHelp_97 (by decide) ?_
                    have hl : lv_has ls 6 [(0, .ref (a 0)), (1, .int (nI t)), (2, .int (nI k)), (3, .int (p_price N k)), (4, .int (nI (k + 1)))] := lv_sub hl [4, 5, 2, 1, 0] rfl
                    have w25 : nI k = p_ch N t n (k + 1) := by simp [p_ch, p_chv, p_help, p_helpv, c1, c3, c3', hkn, c5, c9, c13, c17, hcp, c21, c21', p_chp]
                    have hl : lv_has ls 6 [(0, .ref (a 0)), (1, .int (nI t)), (2, .int (p_ch N t n (k + 1))), (3, .int (p_price N k)), (4, .int (nI (k + 1)))] := (congrArg (fun zz => lv_has ls 6 [(0, .ref (a 0)), (1, .int (nI t)), (2, .int zz), (3, .int (p_price N k)), (4, .int (nI (k + 1)))]) w25).mp hl
                    have w26 : p_price N k = p_chp N t n (k + 1) := by exact p_chp_hit w25.symm (by omega)
                    have hl : lv_has ls 6 [(0, .ref (a 0)), (1, .int (nI t)), (2, .int (p_ch N t n (k + 1))), (3, .int (p_chp N t n (k + 1))), (4, .int (nI (k + 1)))] := (congrArg (fun zz => lv_has ls 6 [(0, .ref (a 0)), (1, .int (nI t)), (2, .int (p_ch N t n (k + 1))), (3, .int zz), (4, .int (nI (k + 1)))]) w26).mp hl
                    have hl : lv_has ls 6 [(0, .ref (a 0)), (1, .int (nI t)), (2, .int (p_ch N t n (k + 1))), (3, .int (p_chp N t n (k + 1))), (4, .int (nI (k + 1)))] := hl
                    have w27 : (p_lay N (nI t) (nI k) n) = (p_chv N t n (k + 1)) := by simp [p_ch, p_chv, p_help, p_helpv, c1, c3, c3', hkn, c5, c9, c13, c17, hcp, c21, c21']
                    have hP : va_P D vwCl (stW cI a N (p_chv N t n (k + 1))) H := (congrArg (fun zz => va_P D vwCl (stW cI a N zz) H) w27).mp hP
                    have hD : va_D (va_A (stW cI a N v) s.heap.size) (stW cI a N (p_chv N t n (k + 1))) := (congrArg (fun zz => va_D (va_A (stW cI a N v) s.heap.size) (stW cI a N zz)) w27).mp hD
                    have hP : va_P D vwCl (stW cI a N (p_chv N t n (k + 1))) H := hP
                    have hD : va_D (va_A (stW cI a N v) s.heap.size) (stW cI a N (p_chv N t n (k + 1))) := hD
                    exact ih (k + 1) (by omega) (by omega) H locs hP hD hS hS.1 ls hl
    have hl : lv_has ls 6 [(0, .ref (a 0)), (1, .int (nI t)), (2, .int (-1)), (3, .int 0), (4, .int 0)] := lv_sub hl [3, 4, 2, 1, 0] rfl
    have w28 : (-1) = p_ch N t n 0 := by simp [p_ch, p_chv, p_help, p_helpv, c1, p_chp]
    have hl : lv_has ls 6 [(0, .ref (a 0)), (1, .int (nI t)), (2, .int (p_ch N t n 0)), (3, .int 0), (4, .int 0)] := (congrArg (fun zz => lv_has ls 6 [(0, .ref (a 0)), (1, .int (nI t)), (2, .int zz), (3, .int 0), (4, .int 0)]) w28).mp hl
    have w29 : 0 = p_chp N t n 0 := by simp [p_chp, p_ch]
    have hl : lv_has ls 6 [(0, .ref (a 0)), (1, .int (nI t)), (2, .int (p_ch N t n 0)), (3, .int (p_chp N t n 0)), (4, .int 0)] := (congrArg (fun zz => lv_has ls 6 [(0, .ref (a 0)), (1, .int (nI t)), (2, .int (p_ch N t n 0)), (3, .int zz), (4, .int 0)]) w29).mp hl
    have hl : lv_has ls 6 [(0, .ref (a 0)), (1, .int (nI t)), (2, .int (p_ch N t n 0)), (3, .int (p_chp N t n 0)), (4, .int (nI 0))] := hl
    have hP : va_P D vwCl (stW cI a N (p_chv N t n 0)) H := hP
    have hD : va_D (va_A (stW cI a N v) s.heap.size) (stW cI a N (p_chv N t n 0)) := hD
    exact L2 (n - 0 + 1) 0 (by omega) (by omega) H locs hP hD hS hS.1 ls hl
  · have c1 := bI_ne0 c1
    refine lv_iconst (v := (-1)) hx hb dX3_cheapestHelp_9 (by decide) ?_
    have w31 : (p_lay N (nI t) (-1) n) = (p_helpv N t n) := by simp [p_ch, p_chv, p_help, p_helpv, c1]
    have hP : va_P D vwCl (stW cI a N (p_helpv N t n)) H := (congrArg (fun zz => va_P D vwCl (stW cI a N zz) H) w31).mp hP
    have hD : va_D (va_A (stW cI a N v) s.heap.size) (stW cI a N (p_helpv N t n)) := (congrArg (fun zz => va_D (va_A (stW cI a N v) s.heap.size) (stW cI a N zz)) w31).mp hD
    have hP : va_P D vwCl (stW cI a N (p_helpv N t n)) H := hP
    have hD : va_D (va_A (stW cI a N v) s.heap.size) (stW cI a N (p_helpv N t n)) := hD
    exact k_eMi hx hb hr hlocks hP hS (by simp [p_ch, p_chv, p_help, p_helpv, c1]) dX3_cheapestHelp_10

abbrev rmX3_addHose : Room := { frames := 2, cells := 0, slots := 0, locals := 42 }
set_option maxHeartbeats 4000000 in
set_option maxRecDepth 100000 in
theorem c_X3_addHose (l : Launch) (D : va_G) (cI cS cL : ClassId) (a : Nat → Nat) (N : NN) (v : Nat → Int32) (sz : Nat) (n : Nat) (kd ln cp pl : Int32) (hn : N 1 2 = nI n) (hn14 : n < 14) : Met l yX3_addHose (wy_ yX3_addHose cX3_addHose 6 (some .int)) rmX3_addHose (kPc D (kTy cI cS cL) (stW cI a N v) sz [.ref (a 0), .int kd, .int ln, .int cp, .int pl]) (kMi D (stW cI a N v) (stW cI a (p_add N n kd ln cp pl) v) sz (nI n)) 0 0 (va_A (stW cI a N v) sz) := by
  refine k_ofW (by decide) (Nat.le_of_ble_eq_true rfl) ?_
  intro p e s m args below meth c hx hb hr hml hts hown hlocks hnm hsz hP hK hD hE ls hl
  subst hsz
  have hA : ∀ q : Nat, s.heap.size ≤ q → (va_A (stW cI a N v) s.heap.size) q := fun q h => Or.inr h
  have hS : va_S (va_A (stW cI a N v) s.heap.size) s.heap s.heap [] := va_S.rf
  have hl : lv_has ls 6 [(0, .ref (a 0)), (1, .int kd), (2, .int ln), (3, .int cp), (4, .int pl)] := hl
  refine lv_aload_n hx hb dX3_addHose_0 rfl (lv_at hl 0 rfl) ?_
  refine g3 hx hb hts hown hK hP 0 rfl 2 (by decide) flX3_56 (fun _ h => h) (v := .int (nI n)) (by rw [← hn]; rfl) dX3_addHose_1 ?_
  refine lv_istore (lv' := [(5, .int (nI n)), (0, .ref (a 0)), (1, .int kd), (2, .int ln), (3, .int cp), (4, .int pl)]) hx hb dX3_addHose_4 hl (by decide) rfl (fun ls hl => ?_)
  refine lv_aload_n hx hb dX3_addHose_6 rfl (lv_at hl 1 rfl) ?_
  refine g3 hx hb hts hown hK hP 0 rfl 8 (by decide) flX3_25 (fun _ h => h) (v := .ref (a 3)) rfl dX3_addHose_7 ?_
  refine lv_iload hx hb dX3_addHose_10 (lv_at hl 0 rfl) ?_
  refine lv_iload_n hx hb dX3_addHose_12 rfl (lv_at hl 2 rfl) ?_
  refine k_ast (k := n) hx hb hK hP hD hS 3 0 rfl rfl rfl (by omega) (by decide) dX3_addHose_13 (fun H locs hP hD hS => ?_)
  have hP : va_P D vwCl (stW cI a (up2 N 3 n kd) v) H := hP
  have hD : va_D (va_A (stW cI a N v) s.heap.size) (stW cI a (up2 N 3 n kd) v) := hD
  refine lv_aload_n hx hb dX3_addHose_14 rfl (lv_at hl 1 rfl) ?_
  refine g3 hx hb hts hown hK hP 0 rfl 9 (by decide) flX3_28 (fun _ h => h) (v := .ref (a 4)) rfl dX3_addHose_15 ?_
  refine lv_iload hx hb dX3_addHose_18 (lv_at hl 0 rfl) ?_
  refine lv_iload_n hx hb dX3_addHose_20 rfl (lv_at hl 3 rfl) ?_
  refine k_ast (k := n) hx hb hK hP hD hS 4 0 rfl rfl rfl (by omega) (by decide) dX3_addHose_21 (fun H locs hP hD hS => ?_)
  have hP : va_P D vwCl (stW cI a (up2 (up2 N 3 n kd) 4 n ln) v) H := hP
  have hD : va_D (va_A (stW cI a N v) s.heap.size) (stW cI a (up2 (up2 N 3 n kd) 4 n ln) v) := hD
  refine lv_aload_n hx hb dX3_addHose_22 rfl (lv_at hl 1 rfl) ?_
  refine g3 hx hb hts hown hK hP 0 rfl 10 (by decide) flX3_31 (fun _ h => h) (v := .ref (a 5)) rfl dX3_addHose_23 ?_
  refine lv_iload hx hb dX3_addHose_26 (lv_at hl 0 rfl) ?_
  refine lv_iload_n hx hb dX3_addHose_28 rfl (lv_at hl 4 rfl) ?_
  refine k_ast (k := n) hx hb hK hP hD hS 5 0 rfl rfl rfl (by omega) (by decide) dX3_addHose_29 (fun H locs hP hD hS => ?_)
  have hP : va_P D vwCl (stW cI a (up2 (up2 (up2 N 3 n kd) 4 n ln) 5 n cp) v) H := hP
  have hD : va_D (va_A (stW cI a N v) s.heap.size) (stW cI a (up2 (up2 (up2 N 3 n kd) 4 n ln) 5 n cp) v) := hD
  refine lv_aload_n hx hb dX3_addHose_30 rfl (lv_at hl 1 rfl) ?_
  refine g3 hx hb hts hown hK hP 0 rfl 11 (by decide) flX3_34 (fun _ h => h) (v := .ref (a 6)) rfl dX3_addHose_31 ?_
  refine lv_iload hx hb dX3_addHose_34 (lv_at hl 0 rfl) ?_
  refine lv_aload_n hx hb dX3_addHose_36 rfl (lv_at hl 1 rfl) ?_
  refine g3 hx hb hts hown hK hP 0 rfl 0 (by decide) flX3_9 (fun _ h => h) (v := .int (N 1 0)) rfl dX3_addHose_37 ?_
  refine k_ast (k := n) hx hb hK hP hD hS 6 0 rfl rfl rfl (by omega) (by decide) dX3_addHose_40 (fun H locs hP hD hS => ?_)
  have hP : va_P D vwCl (stW cI a (up2 (up2 (up2 (up2 N 3 n kd) 4 n ln) 5 n cp) 6 n (N 1 0)) v) H := hP
  have hD : va_D (va_A (stW cI a N v) s.heap.size) (stW cI a (up2 (up2 (up2 (up2 N 3 n kd) 4 n ln) 5 n cp) 6 n (N 1 0)) v) := hD
  refine lv_aload_n hx hb dX3_addHose_41 rfl (lv_at hl 1 rfl) ?_
  refine g3 hx hb hts hown hK hP 0 rfl 12 (by decide) flX3_37 (fun _ h => h) (v := .ref (a 7)) rfl dX3_addHose_42 ?_
  refine lv_iload hx hb dX3_addHose_45 (lv_at hl 0 rfl) ?_
  refine lv_iconst (v := 0) hx hb dX3_addHose_47 (by decide) ?_
  refine k_ast (k := n) hx hb hK hP hD hS 7 0 rfl rfl rfl (by omega) (by decide) dX3_addHose_48 (fun H locs hP hD hS => ?_)
  have hP : va_P D vwCl (stW cI a (up2 (up2 (up2 (up2 (up2 N 3 n kd) 4 n ln) 5 n cp) 6 n (N 1 0)) 7 n 0) v) H := hP
  have hD : va_D (va_A (stW cI a N v) s.heap.size) (stW cI a (up2 (up2 (up2 (up2 (up2 N 3 n kd) 4 n ln) 5 n cp) 6 n (N 1 0)) 7 n 0) v) := hD
  refine lv_aload_n hx hb dX3_addHose_49 rfl (lv_at hl 1 rfl) ?_
  refine g3 hx hb hts hown hK hP 0 rfl 13 (by decide) flX3_40 (fun _ h => h) (v := .ref (a 8)) rfl dX3_addHose_50 ?_
  refine lv_iload hx hb dX3_addHose_53 (lv_at hl 0 rfl) ?_
  refine lv_iconst (v := (-1)) hx hb dX3_addHose_55 (by decide) ?_
  refine k_ast (k := n) hx hb hK hP hD hS 8 0 rfl rfl rfl (by omega) (by decide) dX3_addHose_56 (fun H locs hP hD hS => ?_)
  have hP : va_P D vwCl (stW cI a (up2 (up2 (up2 (up2 (up2 (up2 N 3 n kd) 4 n ln) 5 n cp) 6 n (N 1 0)) 7 n 0) 8 n (-1)) v) H := hP
  have hD : va_D (va_A (stW cI a N v) s.heap.size) (stW cI a (up2 (up2 (up2 (up2 (up2 (up2 N 3 n kd) 4 n ln) 5 n cp) 6 n (N 1 0)) 7 n 0) 8 n (-1)) v) := hD
  refine lv_aload_n hx hb dX3_addHose_57 rfl (lv_at hl 1 rfl) ?_
  refine g3 hx hb hts hown hK hP 0 rfl 14 (by decide) flX3_43 (fun _ h => h) (v := .ref (a 9)) rfl dX3_addHose_58 ?_
  refine lv_iload hx hb dX3_addHose_61 (lv_at hl 0 rfl) ?_
  refine lv_iload hx hb dX3_addHose_63 (lv_at hl 5 rfl) ?_
  refine k_ast (k := n) hx hb hK hP hD hS 9 0 rfl rfl rfl (by omega) (by decide) dX3_addHose_65 (fun H locs hP hD hS => ?_)
  have hP : va_P D vwCl (stW cI a (up2 (up2 (up2 (up2 (up2 (up2 (up2 N 3 n kd) 4 n ln) 5 n cp) 6 n (N 1 0)) 7 n 0) 8 n (-1)) 9 n pl) v) H := hP
  have hD : va_D (va_A (stW cI a N v) s.heap.size) (stW cI a (up2 (up2 (up2 (up2 (up2 (up2 (up2 N 3 n kd) 4 n ln) 5 n cp) 6 n (N 1 0)) 7 n 0) 8 n (-1)) 9 n pl) v) := hD
  refine lv_aload_n hx hb dX3_addHose_66 rfl (lv_at hl 1 rfl) ?_
  refine g3 hx hb hts hown hK hP 0 rfl 15 (by decide) flX3_46 (fun _ h => h) (v := .ref (a 10)) rfl dX3_addHose_67 ?_
  refine lv_iload hx hb dX3_addHose_70 (lv_at hl 0 rfl) ?_
  refine lv_iconst (v := (-1)) hx hb dX3_addHose_72 (by decide) ?_
  refine k_ast (k := n) hx hb hK hP hD hS 10 0 rfl rfl rfl (by omega) (by decide) dX3_addHose_73 (fun H locs hP hD hS => ?_)
  have hP : va_P D vwCl (stW cI a (up2 (up2 (up2 (up2 (up2 (up2 (up2 (up2 N 3 n kd) 4 n ln) 5 n cp) 6 n (N 1 0)) 7 n 0) 8 n (-1)) 9 n pl) 10 n (-1)) v) H := hP
  have hD : va_D (va_A (stW cI a N v) s.heap.size) (stW cI a (up2 (up2 (up2 (up2 (up2 (up2 (up2 (up2 N 3 n kd) 4 n ln) 5 n cp) 6 n (N 1 0)) 7 n 0) 8 n (-1)) 9 n pl) 10 n (-1)) v) := hD
  refine lv_aload_n hx hb dX3_addHose_74 rfl (lv_at hl 1 rfl) ?_
  refine lv_dup hx hb dX3_addHose_75 rfl ?_
  refine g3 hx hb hts hown hK hP 0 rfl 2 (by decide) flX3_56 (fun _ h => h) (v := .int (N 1 2)) rfl dX3_addHose_76 ?_
  refine lv_iconst (v := 1) hx hb dX3_addHose_79 (by decide) ?_
  refine lv_iadd hx hb dX3_addHose_80 (lv_topi (fun x1 e1 => ?_))
  refine f3 hx hb hts hown hK hP hD hS 0 rfl 2 (by decide) flX3_56 (fun _ h => h) rfl rfl rfl (Nat.le_of_ble_eq_true rfl) dX3_addHose_81 (fun H locs hP hD hS => ?_)
  have hP : va_P D vwCl (stW cI a (up2 (up2 (up2 (up2 (up2 (up2 (up2 (up2 (up2 N 3 n kd) 4 n ln) 5 n cp) 6 n (N 1 0)) 7 n 0) 8 n (-1)) 9 n pl) 10 n (-1)) 1 2 x1) v) H := hP
  have hD : va_D (va_A (stW cI a N v) s.heap.size) (stW cI a (up2 (up2 (up2 (up2 (up2 (up2 (up2 (up2 (up2 N 3 n kd) 4 n ln) 5 n cp) 6 n (N 1 0)) 7 n 0) 8 n (-1)) 9 n pl) 10 n (-1)) 1 2 x1) v) := hD
  refine lv_aload_n hx hb dX3_addHose_84 rfl (lv_at hl 1 rfl) ?_
  refine lv_dup hx hb dX3_addHose_85 rfl ?_
  refine g3 hx hb hts hown hK hP 0 rfl 1 (by decide) flX3_15 (fun _ h => h) (v := .int (N 1 1)) rfl dX3_addHose_86 ?_
  refine lv_aload_n hx hb dX3_addHose_89 rfl (lv_at hl 1 rfl) ?_
  refine lv_iload hx hb dX3_addHose_90 (lv_at hl 0 rfl) ?_
  refine k_riV (As := [.int (nI n)]) (rest := [.int (N 1 1), .ref (a 0)]) (wc := stW cI a (up2 (up2 (up2 (up2 (up2 (up2 (up2 (up2 (up2 N 3 n kd) 4 n ln) 5 n cp) 6 n (N 1 0)) 7 n 0) 8 n (-1)) 9 n pl) 10 n (-1)) 1 2 x1) v) ⟨hx, hb, hml, hown, hts⟩ (c_X3_priceOf l D cI cS cL a (up2 (up2 (up2 (up2 (up2 (up2 (up2 (up2 (up2 N 3 n kd) 4 n ln) 5 n cp) 6 n (N 1 0)) 7 n 0) 8 n (-1)) 9 n pl) 10 n (-1)) 1 2 x1) v _ n (by omega)) lkX3_102 rfl rfl ⟨(Nat.le_of_ble_eq_true rfl), (Nat.le_of_ble_eq_true rfl)⟩ (va_recv hK hP (ci := 2) (q0 := 0) rfl rfl) hK hE hP hD rfl hl.1 rfl (Nat.le_of_ble_eq_true rfl) dX3_addHose_92 ⟨Nat.zero_le _, Nat.zero_le _⟩ ?_
  rw [show p_price (up2 (up2 (up2 (up2 (up2 (up2 (up2 (up2 (up2 N 3 n kd) 4 n ln) 5 n cp) 6 n (N 1 0)) 7 n 0) 8 n (-1)) 9 n pl) 10 n (-1)) 1 2 x1) n = p_cost kd ln from (by simp [p_price, up2_at])]
  refine lv_isub hx hb dX3_addHose_95 (lv_topi (fun x2 e2 => ?_))
  refine f3 hx hb hts hown hK hP hD hS 0 rfl 1 (by decide) flX3_15 (fun _ h => h) rfl rfl rfl (Nat.le_of_ble_eq_true rfl) dX3_addHose_96 (fun H locs hP hD hS => ?_)
  have hP : va_P D vwCl (stW cI a (up2 (up2 (up2 (up2 (up2 (up2 (up2 (up2 (up2 (up2 N 3 n kd) 4 n ln) 5 n cp) 6 n (N 1 0)) 7 n 0) 8 n (-1)) 9 n pl) 10 n (-1)) 1 2 x1) 1 1 x2) v) H := hP
  have hD : va_D (va_A (stW cI a N v) s.heap.size) (stW cI a (up2 (up2 (up2 (up2 (up2 (up2 (up2 (up2 (up2 (up2 N 3 n kd) 4 n ln) 5 n cp) 6 n (N 1 0)) 7 n 0) 8 n (-1)) 9 n pl) 10 n (-1)) 1 2 x1) 1 1 x2) v) := hD
  refine lv_aload_n hx hb dX3_addHose_99 rfl (lv_at hl 1 rfl) ?_
  refine lv_dup hx hb dX3_addHose_100 rfl ?_
  refine g3 hx hb hts hown hK hP 0 rfl 5 (by decide) flX3_65 (fun _ h => h) (v := .int (N 1 5)) rfl dX3_addHose_101 ?_
  refine lv_aload_n hx hb dX3_addHose_104 rfl (lv_at hl 1 rfl) ?_
  refine lv_iload hx hb dX3_addHose_105 (lv_at hl 0 rfl) ?_
  refine k_riV (As := [.int (nI n)]) (rest := [.int (N 1 5), .ref (a 0)]) (wc := stW cI a (up2 (up2 (up2 (up2 (up2 (up2 (up2 (up2 (up2 (up2 N 3 n kd) 4 n ln) 5 n cp) 6 n (N 1 0)) 7 n 0) 8 n (-1)) 9 n pl) 10 n (-1)) 1 2 x1) 1 1 x2) v) ⟨hx, hb, hml, hown, hts⟩ (c_X3_priceOf l D cI cS cL a (up2 (up2 (up2 (up2 (up2 (up2 (up2 (up2 (up2 (up2 N 3 n kd) 4 n ln) 5 n cp) 6 n (N 1 0)) 7 n 0) 8 n (-1)) 9 n pl) 10 n (-1)) 1 2 x1) 1 1 x2) v _ n (by omega)) lkX3_102 rfl rfl ⟨(Nat.le_of_ble_eq_true rfl), (Nat.le_of_ble_eq_true rfl)⟩ (va_recv hK hP (ci := 2) (q0 := 0) rfl rfl) hK hE hP hD rfl hl.1 rfl (Nat.le_of_ble_eq_true rfl) dX3_addHose_107 ⟨Nat.zero_le _, Nat.zero_le _⟩ ?_
  rw [show p_price (up2 (up2 (up2 (up2 (up2 (up2 (up2 (up2 (up2 (up2 N 3 n kd) 4 n ln) 5 n cp) 6 n (N 1 0)) 7 n 0) 8 n (-1)) 9 n pl) 10 n (-1)) 1 2 x1) 1 1 x2) n = p_cost kd ln from (by simp [p_price, up2_at])]
  refine lv_iadd hx hb dX3_addHose_110 (lv_topi (fun x3 e3 => ?_))
  refine f3 hx hb hts hown hK hP hD hS 0 rfl 5 (by decide) flX3_65 (fun _ h => h) rfl rfl rfl (Nat.le_of_ble_eq_true rfl) dX3_addHose_111 (fun H locs hP hD hS => ?_)
  have hP : va_P D vwCl (stW cI a (up2 (up2 (up2 (up2 (up2 (up2 (up2 (up2 (up2 (up2 (up2 N 3 n kd) 4 n ln) 5 n cp) 6 n (N 1 0)) 7 n 0) 8 n (-1)) 9 n pl) 10 n (-1)) 1 2 x1) 1 1 x2) 1 5 x3) v) H := hP
  have hD : va_D (va_A (stW cI a N v) s.heap.size) (stW cI a (up2 (up2 (up2 (up2 (up2 (up2 (up2 (up2 (up2 (up2 (up2 N 3 n kd) 4 n ln) 5 n cp) 6 n (N 1 0)) 7 n 0) 8 n (-1)) 9 n pl) 10 n (-1)) 1 2 x1) 1 1 x2) 1 5 x3) v) := hD
  refine lv_iload hx hb dX3_addHose_114 (lv_at hl 0 rfl) ?_
  have w4 : (up2 (up2 (up2 (up2 (up2 (up2 (up2 (up2 (up2 (up2 (up2 N 3 n kd) 4 n ln) 5 n cp) 6 n (N 1 0)) 7 n 0) 8 n (-1)) 9 n pl) 10 n (-1)) 1 2 x1) 1 1 x2) 1 5 x3) = (p_add N n kd ln cp pl) := by subst e1 e2 e3; rfl
  have hP : va_P D vwCl (stW cI a (p_add N n kd ln cp pl) v) H := (congrArg (fun zz => va_P D vwCl (stW cI a zz v) H) w4).mp hP
  have hD : va_D (va_A (stW cI a N v) s.heap.size) (stW cI a (p_add N n kd ln cp pl) v) := (congrArg (fun zz => va_D (va_A (stW cI a N v) s.heap.size) (stW cI a zz v)) w4).mp hD
  have hP : va_P D vwCl (stW cI a (p_add N n kd ln cp pl) v) H := hP
  have hD : va_D (va_A (stW cI a N v) s.heap.size) (stW cI a (p_add N n kd ln cp pl) v) := hD
  exact k_eMi hx hb hr hlocks hP hS rfl dX3_addHose_116

abbrev rmX3_replaceHose : Room := { frames := 3, cells := 0, slots := 0, locals := 67 }
set_option maxHeartbeats 4000000 in
set_option maxRecDepth 100000 in
theorem c_X3_replaceHose (l : Launch) (D : va_G) (cI cS cL : ClassId) (a : Nat → Nat) (N : NN) (v : Nat → Int32) (sz : Nat) (n k : Nat) (hn : N 1 2 = nI n) (hn14 : n < 14) (hk : k < 14) : Met l yX3_replaceHose (wy_ yX3_replaceHose cX3_replaceHose 3 (some .int)) rmX3_replaceHose (kPc D (kTy cI cS cL) (stW cI a N v) sz [.ref (a 0), .int (nI k)]) (kMi D (stW cI a N v) (stW cI a (p_renew N n k) v) sz (nI n)) 0 0 (va_A (stW cI a N v) sz) := by
  refine k_ofW (by decide) (Nat.le_of_ble_eq_true rfl) ?_
  intro p e s m args below meth c hx hb hr hml hts hown hlocks hnm hsz hP hK hD hE ls hl
  subst hsz
  have hA : ∀ q : Nat, s.heap.size ≤ q → (va_A (stW cI a N v) s.heap.size) q := fun q h => Or.inr h
  have hS : va_S (va_A (stW cI a N v) s.heap.size) s.heap s.heap [] := va_S.rf
  have hl : lv_has ls 3 [(0, .ref (a 0)), (1, .int (nI k))] := hl
  refine lv_aload_n hx hb dX3_replaceHose_0 rfl (lv_at hl 0 rfl) ?_
  refine g3 hx hb hts hown hK hP 0 rfl 14 (by decide) flX3_43 (fun _ h => h) (v := .ref (a 9)) rfl dX3_replaceHose_1 ?_
  refine lv_iload_n hx hb dX3_replaceHose_4 rfl (lv_at hl 1 rfl) ?_
  refine k_ald (k := k) hx hb hK hP 9 0 rfl rfl rfl (by omega) (by decide) dX3_replaceHose_5 ?_
  refine lv_istore_n (lv' := [(2, .int (N 9 k)), (0, .ref (a 0)), (1, .int (nI k))]) hx hb dX3_replaceHose_6 rfl hl (by decide) rfl (fun ls hl => ?_)
  refine lv_aload_n hx hb dX3_replaceHose_7 rfl (lv_at hl 1 rfl) ?_
  refine g3 hx hb hts hown hK hP 0 rfl 14 (by decide) flX3_43 (fun _ h => h) (v := .ref (a 9)) rfl dX3_replaceHose_8 ?_
  refine lv_iload_n hx hb dX3_replaceHose_11 rfl (lv_at hl 2 rfl) ?_
  refine lv_iconst (v := (-1)) hx hb dX3_replaceHose_12 (by decide) ?_
  refine k_ast (k := k) hx hb hK hP hD hS 9 0 rfl rfl rfl (by omega) (by decide) dX3_replaceHose_13 (fun H locs hP hD hS => ?_)
  have hP : va_P D vwCl (stW cI a (up2 N 9 k (-1)) v) H := hP
  have hD : va_D (va_A (stW cI a N v) s.heap.size) (stW cI a (up2 N 9 k (-1)) v) := hD
  refine lv_aload_n hx hb dX3_replaceHose_14 rfl (lv_at hl 1 rfl) ?_
  refine lv_aload_n hx hb dX3_replaceHose_15 rfl (lv_at hl 1 rfl) ?_
  refine g3 hx hb hts hown hK hP 0 rfl 8 (by decide) flX3_25 (fun _ h => h) (v := .ref (a 3)) rfl dX3_replaceHose_16 ?_
  refine lv_iload_n hx hb dX3_replaceHose_19 rfl (lv_at hl 2 rfl) ?_
  refine k_ald (k := k) hx hb hK hP 3 0 rfl rfl rfl (by omega) (by decide) dX3_replaceHose_20 ?_
  rw [show ((up2 N 9 k (-1)) : NN) 3 k = N 3 k from rfl]
  refine lv_aload_n hx hb dX3_replaceHose_21 rfl (lv_at hl 1 rfl) ?_
  refine g3 hx hb hts hown hK hP 0 rfl 9 (by decide) flX3_28 (fun _ h => h) (v := .ref (a 4)) rfl dX3_replaceHose_22 ?_
  refine lv_iload_n hx hb dX3_replaceHose_25 rfl (lv_at hl 2 rfl) ?_
  refine k_ald (k := k) hx hb hK hP 4 0 rfl rfl rfl (by omega) (by decide) dX3_replaceHose_26 ?_
  rw [show ((up2 N 9 k (-1)) : NN) 4 k = N 4 k from rfl]
  refine lv_aload_n hx hb dX3_replaceHose_27 rfl (lv_at hl 1 rfl) ?_
  refine g3 hx hb hts hown hK hP 0 rfl 10 (by decide) flX3_31 (fun _ h => h) (v := .ref (a 5)) rfl dX3_replaceHose_28 ?_
  refine lv_iload_n hx hb dX3_replaceHose_31 rfl (lv_at hl 2 rfl) ?_
  refine k_ald (k := k) hx hb hK hP 5 0 rfl rfl rfl (by omega) (by decide) dX3_replaceHose_32 ?_
  rw [show ((up2 N 9 k (-1)) : NN) 5 k = N 5 k from rfl]
  refine lv_iload_n hx hb dX3_replaceHose_33 rfl (lv_at hl 0 rfl) ?_
  refine k_miV (As := [.int (N 3 k), .int (N 4 k), .int (N 5 k), .int (N 9 k)]) (rest := []) (w1 := []) (wc := stW cI a (up2 N 9 k (-1)) v) (wc' := stW cI a (p_add (up2 N 9 k (-1)) n (N 3 k) (N 4 k) (N 5 k) (N 9 k)) v) (w3 := []) ⟨hx, hb, hml, hown, hts⟩ (c_X3_addHose l D cI cS cL a (up2 N 9 k (-1)) v _ n (N 3 k) (N 4 k) (N 5 k) (N 9 k) hn (by omega)) lkX3_105 rfl rfl ⟨(Nat.le_of_ble_eq_true rfl), (Nat.le_of_ble_eq_true rfl)⟩ (va_recv hK hP (ci := 2) (q0 := 0) rfl rfl) hK hE hP hD hS hA rfl rfl hl.1 rfl (Nat.le_of_ble_eq_true rfl) dX3_replaceHose_34 ⟨Nat.zero_le _, Nat.zero_le _⟩ (fun H locs hzz hP hD hS => ?_)
  have hP : va_P D vwCl (stW cI a (p_add (up2 N 9 k (-1)) n (N 3 k) (N 4 k) (N 5 k) (N 9 k)) v) H := hP
  have hD : va_D (va_A (stW cI a N v) s.heap.size) (stW cI a (p_add (up2 N 9 k (-1)) n (N 3 k) (N 4 k) (N 5 k) (N 9 k)) v) := hD
  have hP : va_P D vwCl (stW cI a (p_renew N n k) v) H := hP
  have hD : va_D (va_A (stW cI a N v) s.heap.size) (stW cI a (p_renew N n k) v) := hD
  exact k_eMi hx hb hr hlocks hP hS rfl dX3_replaceHose_37

abbrev rmX3_lendOut : Room := { frames := 0, cells := 0, slots := 0, locals := 0 }
set_option maxHeartbeats 4000000 in
set_option maxRecDepth 100000 in
theorem c_X3_lendOut (l : Launch) (D : va_G) (cI cS cL : ClassId) (a : Nat → Nat) (N : NN) (v : Nat → Int32) (sz : Nat) (k : Nat) (dd : Int32) (hk : k < 14) : Met l yX3_lendOut (wy_ yX3_lendOut cX3_lendOut 3 (some .int)) rmX3_lendOut (kPc D (kTy cI cS cL) (stW cI a N v) sz [.ref (a 0), .int (nI k), .int dd]) (kMi D (stW cI a N v) (stW cI a (p_lend N k dd) v) sz (N 1 0 + dd)) 0 0 (va_A (stW cI a N v) sz) := by
  refine k_ofW (by decide) (Nat.le_of_ble_eq_true rfl) ?_
  intro p e s m args below meth c hx hb hr hml hts hown hlocks hnm hsz hP hK hD hE ls hl
  subst hsz
  have hA : ∀ q : Nat, s.heap.size ≤ q → (va_A (stW cI a N v) s.heap.size) q := fun q h => Or.inr h
  have hS : va_S (va_A (stW cI a N v) s.heap.size) s.heap s.heap [] := va_S.rf
  have hl : lv_has ls 3 [(0, .ref (a 0)), (1, .int (nI k)), (2, .int dd)] := hl
  refine lv_aload_n hx hb dX3_lendOut_0 rfl (lv_at hl 0 rfl) ?_
  refine g3 hx hb hts hown hK hP 0 rfl 14 (by decide) flX3_43 (fun _ h => h) (v := .ref (a 9)) rfl dX3_lendOut_1 ?_
  refine lv_iload_n hx hb dX3_lendOut_4 rfl (lv_at hl 1 rfl) ?_
  refine lv_iconst (v := 4) hx hb dX3_lendOut_5 (by decide) ?_
  refine k_ast (k := k) hx hb hK hP hD hS 9 0 rfl rfl rfl (by omega) (by decide) dX3_lendOut_6 (fun H locs hP hD hS => ?_)
  have hP : va_P D vwCl (stW cI a (up2 N 9 k 4) v) H := hP
  have hD : va_D (va_A (stW cI a N v) s.heap.size) (stW cI a (up2 N 9 k 4) v) := hD
  refine lv_aload_n hx hb dX3_lendOut_7 rfl (lv_at hl 0 rfl) ?_
  refine g3 hx hb hts hown hK hP 0 rfl 15 (by decide) flX3_46 (fun _ h => h) (v := .ref (a 10)) rfl dX3_lendOut_8 ?_
  refine lv_iload_n hx hb dX3_lendOut_11 rfl (lv_at hl 1 rfl) ?_
  refine lv_aload_n hx hb dX3_lendOut_12 rfl (lv_at hl 0 rfl) ?_
  refine g3 hx hb hts hown hK hP 0 rfl 0 (by decide) flX3_9 (fun _ h => h) (v := .int (N 1 0)) rfl dX3_lendOut_13 ?_
  refine lv_iload_n hx hb dX3_lendOut_16 rfl (lv_at hl 2 rfl) ?_
  refine lv_iadd hx hb dX3_lendOut_17 (lv_topi (fun x1 e1 => ?_))
  refine k_ast (k := k) hx hb hK hP hD hS 10 0 rfl rfl rfl (by omega) (by decide) dX3_lendOut_18 (fun H locs hP hD hS => ?_)
  have hP : va_P D vwCl (stW cI a (up2 (up2 N 9 k 4) 10 k x1) v) H := hP
  have hD : va_D (va_A (stW cI a N v) s.heap.size) (stW cI a (up2 (up2 N 9 k 4) 10 k x1) v) := hD
  refine lv_aload_n hx hb dX3_lendOut_19 rfl (lv_at hl 0 rfl) ?_
  refine g3 hx hb hts hown hK hP 0 rfl 15 (by decide) flX3_46 (fun _ h => h) (v := .ref (a 10)) rfl dX3_lendOut_20 ?_
  refine lv_iload_n hx hb dX3_lendOut_23 rfl (lv_at hl 1 rfl) ?_
  refine k_ald (k := k) hx hb hK hP 10 0 rfl rfl rfl (by omega) (by decide) dX3_lendOut_24 ?_
  rw [show ((up2 (up2 N 9 k 4) 10 k x1) : NN) 10 k = x1 from (by simp [up2_at])]
  have w2 : (up2 (up2 N 9 k 4) 10 k x1) = (p_lend N k dd) := by subst e1; simp [p_lend]
  have hP : va_P D vwCl (stW cI a (p_lend N k dd) v) H := (congrArg (fun zz => va_P D vwCl (stW cI a zz v) H) w2).mp hP
  have hD : va_D (va_A (stW cI a N v) s.heap.size) (stW cI a (p_lend N k dd) v) := (congrArg (fun zz => va_D (va_A (stW cI a N v) s.heap.size) (stW cI a zz v)) w2).mp hD
  have hP : va_P D vwCl (stW cI a (p_lend N k dd) v) H := hP
  have hD : va_D (va_A (stW cI a N v) s.heap.size) (stW cI a (p_lend N k dd) v) := hD
  exact k_eMi hx hb hr hlocks hP hS (by subst e1; simp [p_lend]) dX3_lendOut_25

abbrev rmX3_runTest : Room := { frames := 5, cells := 0, slots := 0, locals := 106 }
set_option maxHeartbeats 4000000 in
set_option maxRecDepth 100000 in
theorem c_X3_runTest (l : Launch) (D : va_G) (cI cS cL : ClassId) (a : Nat → Nat) (N : NN) (v : Nat → Int32) (sz : Nat) (k P : Nat) (hk : k < 14) (hPp : P ≤ 24) (hw0 : 0 ≤ N 7 k) (hw1 : N 7 k ≤ 99) : Met l yX3_runTest (wy_ yX3_runTest cX3_runTest 5 (some .int)) rmX3_runTest (kPc D (kTy cI cS cL) (stW cI a N v) sz [.ref (a 0), .int (nI k), .int (nI P)]) (kMi D (stW cI a N v) (stW cI a (p_test N k P) v) sz (p_out N k P)) 0 0 (va_A (stW cI a N v) sz) := by
  refine k_ofW (by decide) (Nat.le_of_ble_eq_true rfl) ?_
  intro p e s m args below meth c hx hb hr hml hts hown hlocks hnm hsz hP hK hD hE ls hl
  subst hsz
  have hA : ∀ q : Nat, s.heap.size ≤ q → (va_A (stW cI a N v) s.heap.size) q := fun q h => Or.inr h
  have hS : va_S (va_A (stW cI a N v) s.heap.size) s.heap s.heap [] := va_S.rf
  have hl : lv_has ls 5 [(0, .ref (a 0)), (1, .int (nI k)), (2, .int (nI P))] := hl
  refine lv_aload_n hx hb dX3_runTest_0 rfl (lv_at hl 0 rfl) ?_
  refine lv_iload_n hx hb dX3_runTest_1 rfl (lv_at hl 1 rfl) ?_
  refine lv_iload_n hx hb dX3_runTest_2 rfl (lv_at hl 2 rfl) ?_
  refine k_riV (As := [.int (nI k), .int (nI P)]) (rest := []) (wc := stW cI a N v) ⟨hx, hb, hml, hown, hts⟩ (c_X3_outcomeOf l D cI cS cL a N v _ k P (by omega) (by omega)) lkX3_123 rfl rfl ⟨(Nat.le_of_ble_eq_true rfl), (Nat.le_of_ble_eq_true rfl)⟩ (va_recv hK hP (ci := 2) (q0 := 0) rfl rfl) hK hE hP hD rfl hl.1 rfl (Nat.le_of_ble_eq_true rfl) dX3_runTest_3 ⟨Nat.zero_le _, Nat.zero_le _⟩ ?_
  refine lv_istore_n (lv' := [(3, .int (p_out N k P)), (0, .ref (a 0)), (1, .int (nI k)), (2, .int (nI P))]) hx hb dX3_runTest_6 rfl hl (by decide) rfl (fun ls hl => ?_)
  refine lv_iload_n hx hb dX3_runTest_7 rfl (lv_at hl 0 rfl) ?_
  refine lv_bipush (v := 100) hx hb dX3_runTest_8 (by decide) ?_
  refine lv_icmp_lt (tgt := 17) hx hb dX3_runTest_10 (by decide) (fun c1 => ?_) (fun c1 => ?_)
  · have c1' := Int32.not_le.mpr c1
    obtain ⟨hbr, hbe⟩ := p_out_h hPp c1
    have hbb := hbr
    refine lv_iconst (v := 0) hx hb dX3_runTest_17 (by decide) ?_
    refine lv_istore (lv' := [(4, .int 0), (3, .int (p_out N k P)), (0, .ref (a 0)), (1, .int (nI k)), (2, .int (nI P))]) hx hb dX3_runTest_18 hl (by decide) rfl (fun ls hl => ?_)
    refine lv_aload_n hx hb dX3_runTest_20 rfl (lv_at hl 2 rfl) ?_
    refine g3 hx hb hts hown hK hP 0 rfl 12 (by decide) flX3_37 (fun _ h => h) (v := .ref (a 7)) rfl dX3_runTest_21 ?_
    refine lv_iload_n hx hb dX3_runTest_24 rfl (lv_at hl 3 rfl) ?_
    refine lv_bipush (v := 99) hx hb dX3_runTest_25 (by decide) ?_
    refine lv_aload_n hx hb dX3_runTest_27 rfl (lv_at hl 2 rfl) ?_
    refine g3 hx hb hts hown hK hP 0 rfl 12 (by decide) flX3_37 (fun _ h => h) (v := .ref (a 7)) rfl dX3_runTest_28 ?_
    refine lv_iload_n hx hb dX3_runTest_31 rfl (lv_at hl 3 rfl) ?_
    refine k_ald (k := k) hx hb hK hP 7 0 rfl rfl rfl (by omega) (by decide) dX3_runTest_32 ?_
    refine lv_iload hx hb dX3_runTest_33 (lv_at hl 0 rfl) ?_
    refine lv_if_eq (tgt := 45) hx hb dX3_runTest_35 (by decide) (fun _ => ?_) (fun h => absurd (by decide) h)
    refine lv_iload_n hx hb dX3_runTest_45 rfl (lv_at hl 1 rfl) ?_
    refine lv_iadd hx hb dX3_runTest_46 (lv_topi (fun x2 e2 => ?_))
    refine va_mmin hx hb (hml.trans hl.1.symm) hown (hts _ wd_methodLink_RX3_112_Lib_Math_min_name) (hts _ wd_static_Lib_Math_min_name) (hts _ wd_initialized_java_lang_Math) (hts _ wd_code_Lib_Math_min_name_Lib_Math_min_code_2_some_int) (Nat.le_of_ble_eq_true rfl) (Nat.le_of_ble_eq_true rfl) (Nat.zero_le _) (Nat.zero_le _) dX3_runTest_47 (lv_topi (fun x3 e3 => ?_))
    have q3 : x3 = p_worn (N 7 k) (p_held N k P) := by rw [e3]; subst e2; exact p_wh hPp hw0 hw1 hbe
    subst q3
    refine k_ast (k := k) hx hb hK hP hD hS 7 0 rfl rfl rfl (by omega) (by decide) dX3_runTest_50 (fun H locs hP hD hS => ?_)
    have hP : va_P D vwCl (stW cI a (up2 N 7 k (p_worn (N 7 k) (p_held N k P))) v) H := hP
    have hD : va_D (va_A (stW cI a N v) s.heap.size) (stW cI a (up2 N 7 k (p_worn (N 7 k) (p_held N k P))) v) := hD
    refine lv_aload_n hx hb dX3_runTest_51 rfl (lv_at hl 2 rfl) ?_
    refine lv_dup hx hb dX3_runTest_52 rfl ?_
    refine g3 hx hb hts hown hK hP 0 rfl 3 (by decide) flX3_59 (fun _ h => h) (v := .int (N 1 3)) rfl dX3_runTest_53 ?_
    refine lv_iconst (v := 1) hx hb dX3_runTest_56 (by decide) ?_
    refine lv_iadd hx hb dX3_runTest_57 (lv_topi (fun x4 e4 => ?_))
    refine f3 hx hb hts hown hK hP hD hS 0 rfl 3 (by decide) flX3_59 (fun _ h => h) rfl rfl rfl (Nat.le_of_ble_eq_true rfl) dX3_runTest_58 (fun H locs hP hD hS => ?_)
    have hP : va_P D vwCl (stW cI a (up2 (up2 N 7 k (p_worn (N 7 k) (p_held N k P))) 1 3 x4) v) H := hP
    have hD : va_D (va_A (stW cI a N v) s.heap.size) (stW cI a (up2 (up2 N 7 k (p_worn (N 7 k) (p_held N k P))) 1 3 x4) v) := hD
    refine lv_iload hx hb dX3_runTest_61 (lv_at hl 0 rfl) ?_
    refine lv_if_eq (tgt := 86) hx hb dX3_runTest_63 (by decide) (fun _ => ?_) (fun h => absurd (by decide) h)
    refine lv_iload_n hx hb dX3_runTest_86 rfl (lv_at hl 4 rfl) ?_
    refine lv_aload_n hx hb dX3_runTest_87 rfl (lv_at hl 2 rfl) ?_
    refine g3 hx hb hts hown hK hP 0 rfl 7 (by decide) flX3_22 (fun _ h => h) (v := .ref (a 2)) rfl dX3_runTest_88 ?_
    refine lv_iconst (v := 0) hx hb dX3_runTest_91 (by decide) ?_
    refine k_ald (k := 0) hx hb hK hP 2 0 rfl rfl rfl (by decide) (by decide) dX3_runTest_92 ?_
    rw [show ((up2 (up2 N 7 k (p_worn (N 7 k) (p_held N k P))) 1 3 x4) : NN) 0 0 = N 0 0 from rfl]
    refine lv_icmp_lt (tgt := 116) hx hb dX3_runTest_93 (by decide) (fun c5 => ?_) (fun c5 => ?_)
    · have c5' := Int32.not_le.mpr c5
      refine lv_iload_n hx hb dX3_runTest_116 rfl (lv_at hl 1 rfl) ?_
      have w6 : (up2 (up2 N 7 k (p_worn (N 7 k) (p_held N k P))) 1 3 x4) = (p_test N k P) := by subst e2 e4; simp [p_test, up2_at, c1, c1', hbb, c5, c5']
      have hP : va_P D vwCl (stW cI a (p_test N k P) v) H := (congrArg (fun zz => va_P D vwCl (stW cI a zz v) H) w6).mp hP
      have hD : va_D (va_A (stW cI a N v) s.heap.size) (stW cI a (p_test N k P) v) := (congrArg (fun zz => va_D (va_A (stW cI a N v) s.heap.size) (stW cI a zz v)) w6).mp hD
      have hP : va_P D vwCl (stW cI a (p_test N k P) v) H := hP
      have hD : va_D (va_A (stW cI a N v) s.heap.size) (stW cI a (p_test N k P) v) := hD
      exact k_eMi hx hb hr hlocks hP hS rfl dX3_runTest_117
    · have c5' := Int32.not_lt.mp c5
      refine lv_aload_n hx hb dX3_runTest_96 rfl (lv_at hl 2 rfl) ?_
      refine g3 hx hb hts hown hK hP 0 rfl 13 (by decide) flX3_40 (fun _ h => h) (v := .ref (a 8)) rfl dX3_runTest_97 ?_
      refine lv_iload_n hx hb dX3_runTest_100 rfl (lv_at hl 3 rfl) ?_
      refine lv_aload_n hx hb dX3_runTest_101 rfl (lv_at hl 2 rfl) ?_
      refine g3 hx hb hts hown hK hP 0 rfl 0 (by decide) flX3_9 (fun _ h => h) (v := .int (N 1 0)) rfl dX3_runTest_102 ?_
      refine lv_aload_n hx hb dX3_runTest_105 rfl (lv_at hl 2 rfl) ?_
      refine g3 hx hb hts hown hK hP 0 rfl 8 (by decide) flX3_25 (fun _ h => h) (v := .ref (a 3)) rfl dX3_runTest_106 ?_
      refine lv_iload_n hx hb dX3_runTest_109 rfl (lv_at hl 3 rfl) ?_
      refine k_ald (k := k) hx hb hK hP 3 0 rfl rfl rfl (by omega) (by decide) dX3_runTest_110 ?_
      rw [show ((up2 (up2 N 7 k (p_worn (N 7 k) (p_held N k P))) 1 3 x4) : NN) 3 k = N 3 k from rfl]
      refine k_riS (As := [.int (N 3 k)]) (rest := [.int (N 1 0), .int (nI k), .ref (a 8)]) (wc := []) ⟨hx, hb, hml, hown, hts⟩ (c_X1_daysInForce l D cI cS cL _ (N 3 k)) lkX3_126 rfl rfl ⟨(Nat.le_of_ble_eq_true rfl), (Nat.le_of_ble_eq_true rfl)⟩ hK hE k_nilP (k_nilD (A := va_A (stW cI a N v) s.heap.size)) rfl hl.1 rfl (Nat.le_of_ble_eq_true rfl) dX3_runTest_111 ⟨Nat.zero_le _, Nat.zero_le _⟩ ?_
      refine lv_iadd hx hb dX3_runTest_114 (lv_topi (fun x7 e7 => ?_))
      refine k_ast (k := k) hx hb hK hP hD hS 8 0 rfl rfl rfl (by omega) (by decide) dX3_runTest_115 (fun H locs hP hD hS => ?_)
      have hP : va_P D vwCl (stW cI a (up2 (up2 (up2 N 7 k (p_worn (N 7 k) (p_held N k P))) 1 3 x4) 8 k x7) v) H := hP
      have hD : va_D (va_A (stW cI a N v) s.heap.size) (stW cI a (up2 (up2 (up2 N 7 k (p_worn (N 7 k) (p_held N k P))) 1 3 x4) 8 k x7) v) := hD
      refine lv_iload_n hx hb dX3_runTest_116 rfl (lv_at hl 1 rfl) ?_
      have w8 : (up2 (up2 (up2 N 7 k (p_worn (N 7 k) (p_held N k P))) 1 3 x4) 8 k x7) = (p_test N k P) := by subst e2 e4 e7; simp [p_test, up2_at, c1, c1', hbb, c5, c5']
      have hP : va_P D vwCl (stW cI a (p_test N k P) v) H := (congrArg (fun zz => va_P D vwCl (stW cI a zz v) H) w8).mp hP
      have hD : va_D (va_A (stW cI a N v) s.heap.size) (stW cI a (p_test N k P) v) := (congrArg (fun zz => va_D (va_A (stW cI a N v) s.heap.size) (stW cI a zz v)) w8).mp hD
      have hP : va_P D vwCl (stW cI a (p_test N k P) v) H := hP
      have hD : va_D (va_A (stW cI a N v) s.heap.size) (stW cI a (p_test N k P) v) := hD
      exact k_eMi hx hb hr hlocks hP hS rfl dX3_runTest_117
  · have c1' := Int32.not_lt.mp c1
    obtain ⟨hbr, hbe⟩ := p_out_b hPp c1
    have hbb := hbr
    refine lv_iconst (v := 1) hx hb dX3_runTest_13 (by decide) ?_
    refine lv_goto (tgt := 18) hx hb dX3_runTest_14 (by decide) ?_
    refine lv_istore (lv' := [(4, .int 1), (3, .int (p_out N k P)), (0, .ref (a 0)), (1, .int (nI k)), (2, .int (nI P))]) hx hb dX3_runTest_18 hl (by decide) rfl (fun ls hl => ?_)
    refine lv_aload_n hx hb dX3_runTest_20 rfl (lv_at hl 2 rfl) ?_
    refine g3 hx hb hts hown hK hP 0 rfl 12 (by decide) flX3_37 (fun _ h => h) (v := .ref (a 7)) rfl dX3_runTest_21 ?_
    refine lv_iload_n hx hb dX3_runTest_24 rfl (lv_at hl 3 rfl) ?_
    refine lv_bipush (v := 99) hx hb dX3_runTest_25 (by decide) ?_
    refine lv_aload_n hx hb dX3_runTest_27 rfl (lv_at hl 2 rfl) ?_
    refine g3 hx hb hts hown hK hP 0 rfl 12 (by decide) flX3_37 (fun _ h => h) (v := .ref (a 7)) rfl dX3_runTest_28 ?_
    refine lv_iload_n hx hb dX3_runTest_31 rfl (lv_at hl 3 rfl) ?_
    refine k_ald (k := k) hx hb hK hP 7 0 rfl rfl rfl (by omega) (by decide) dX3_runTest_32 ?_
    refine lv_iload hx hb dX3_runTest_33 (lv_at hl 0 rfl) ?_
    refine lv_if_eq (tgt := 45) hx hb dX3_runTest_35 (by decide) (fun h => absurd h (by decide)) (fun _ => ?_)
    refine lv_iload_n hx hb dX3_runTest_38 rfl (lv_at hl 1 rfl) ?_
    refine lv_bipush (v := 100) hx hb dX3_runTest_39 (by decide) ?_
    refine lv_isub hx hb dX3_runTest_41 (lv_topi (fun x9 e9 => ?_))
    refine lv_goto (tgt := 46) hx hb dX3_runTest_42 (by decide) ?_
    refine lv_iadd hx hb dX3_runTest_46 (lv_topi (fun x10 e10 => ?_))
    refine va_mmin hx hb (hml.trans hl.1.symm) hown (hts _ wd_methodLink_RX3_112_Lib_Math_min_name) (hts _ wd_static_Lib_Math_min_name) (hts _ wd_initialized_java_lang_Math) (hts _ wd_code_Lib_Math_min_name_Lib_Math_min_code_2_some_int) (Nat.le_of_ble_eq_true rfl) (Nat.le_of_ble_eq_true rfl) (Nat.zero_le _) (Nat.zero_le _) dX3_runTest_47 (lv_topi (fun x11 e11 => ?_))
    have q11 : x11 = p_worn (N 7 k) (p_held N k P) := by rw [e11]; subst e9 e10; exact p_wb hPp hw0 hw1 hbe
    subst q11
    refine k_ast (k := k) hx hb hK hP hD hS 7 0 rfl rfl rfl (by omega) (by decide) dX3_runTest_50 (fun H locs hP hD hS => ?_)
    have hP : va_P D vwCl (stW cI a (up2 N 7 k (p_worn (N 7 k) (p_held N k P))) v) H := hP
    have hD : va_D (va_A (stW cI a N v) s.heap.size) (stW cI a (up2 N 7 k (p_worn (N 7 k) (p_held N k P))) v) := hD
    refine lv_aload_n hx hb dX3_runTest_51 rfl (lv_at hl 2 rfl) ?_
    refine lv_dup hx hb dX3_runTest_52 rfl ?_
    refine g3 hx hb hts hown hK hP 0 rfl 3 (by decide) flX3_59 (fun _ h => h) (v := .int (N 1 3)) rfl dX3_runTest_53 ?_
    refine lv_iconst (v := 1) hx hb dX3_runTest_56 (by decide) ?_
    refine lv_iadd hx hb dX3_runTest_57 (lv_topi (fun x12 e12 => ?_))
    refine f3 hx hb hts hown hK hP hD hS 0 rfl 3 (by decide) flX3_59 (fun _ h => h) rfl rfl rfl (Nat.le_of_ble_eq_true rfl) dX3_runTest_58 (fun H locs hP hD hS => ?_)
    have hP : va_P D vwCl (stW cI a (up2 (up2 N 7 k (p_worn (N 7 k) (p_held N k P))) 1 3 x12) v) H := hP
    have hD : va_D (va_A (stW cI a N v) s.heap.size) (stW cI a (up2 (up2 N 7 k (p_worn (N 7 k) (p_held N k P))) 1 3 x12) v) := hD
    refine lv_iload hx hb dX3_runTest_61 (lv_at hl 0 rfl) ?_
    refine lv_if_eq (tgt := 86) hx hb dX3_runTest_63 (by decide) (fun h => absurd h (by decide)) (fun _ => ?_)
    refine lv_aload_n hx hb dX3_runTest_66 rfl (lv_at hl 2 rfl) ?_
    refine lv_dup hx hb dX3_runTest_67 rfl ?_
    refine g3 hx hb hts hown hK hP 0 rfl 4 (by decide) flX3_62 (fun _ h => h) (v := .int (N 1 4)) rfl dX3_runTest_68 ?_
    refine lv_iconst (v := 1) hx hb dX3_runTest_71 (by decide) ?_
    refine lv_iadd hx hb dX3_runTest_72 (lv_topi (fun x13 e13 => ?_))
    refine f3 hx hb hts hown hK hP hD hS 0 rfl 4 (by decide) flX3_62 (fun _ h => h) rfl rfl rfl (Nat.le_of_ble_eq_true rfl) dX3_runTest_73 (fun H locs hP hD hS => ?_)
    have hP : va_P D vwCl (stW cI a (up2 (up2 (up2 N 7 k (p_worn (N 7 k) (p_held N k P))) 1 3 x12) 1 4 x13) v) H := hP
    have hD : va_D (va_A (stW cI a N v) s.heap.size) (stW cI a (up2 (up2 (up2 N 7 k (p_worn (N 7 k) (p_held N k P))) 1 3 x12) 1 4 x13) v) := hD
    refine lv_aload_n hx hb dX3_runTest_76 rfl (lv_at hl 2 rfl) ?_
    refine g3 hx hb hts hown hK hP 0 rfl 14 (by decide) flX3_43 (fun _ h => h) (v := .ref (a 9)) rfl dX3_runTest_77 ?_
    refine lv_iload_n hx hb dX3_runTest_80 rfl (lv_at hl 3 rfl) ?_
    refine lv_iconst (v := (-1)) hx hb dX3_runTest_81 (by decide) ?_
    refine k_ast (k := k) hx hb hK hP hD hS 9 0 rfl rfl rfl (by omega) (by decide) dX3_runTest_82 (fun H locs hP hD hS => ?_)
    have hP : va_P D vwCl (stW cI a (up2 (up2 (up2 (up2 N 7 k (p_worn (N 7 k) (p_held N k P))) 1 3 x12) 1 4 x13) 9 k (-1)) v) H := hP
    have hD : va_D (va_A (stW cI a N v) s.heap.size) (stW cI a (up2 (up2 (up2 (up2 N 7 k (p_worn (N 7 k) (p_held N k P))) 1 3 x12) 1 4 x13) 9 k (-1)) v) := hD
    refine lv_goto (tgt := 116) hx hb dX3_runTest_83 (by decide) ?_
    refine lv_iload_n hx hb dX3_runTest_116 rfl (lv_at hl 1 rfl) ?_
    have w14 : (up2 (up2 (up2 (up2 N 7 k (p_worn (N 7 k) (p_held N k P))) 1 3 x12) 1 4 x13) 9 k (-1)) = (p_test N k P) := by subst e9 e10 e12 e13; simp [p_test, up2_at, c1, c1', hbb]
    have hP : va_P D vwCl (stW cI a (p_test N k P) v) H := (congrArg (fun zz => va_P D vwCl (stW cI a zz v) H) w14).mp hP
    have hD : va_D (va_A (stW cI a N v) s.heap.size) (stW cI a (p_test N k P) v) := (congrArg (fun zz => va_D (va_A (stW cI a N v) s.heap.size) (stW cI a zz v)) w14).mp hD
    have hP : va_P D vwCl (stW cI a (p_test N k P) v) H := hP
    have hD : va_D (va_A (stW cI a N v) s.heap.size) (stW cI a (p_test N k P) v) := hD
    exact k_eMi hx hb hr hlocks hP hS rfl dX3_runTest_117

abbrev rmX3_takeBackLent : Room := { frames := 1, cells := 0, slots := 0, locals := 21 }
set_option maxHeartbeats 4000000 in
set_option maxRecDepth 100000 in
theorem c_X3_takeBackLent (l : Launch) (D : va_G) (cI cS cL : ClassId) (a : Nat → Nat) (N : NN) (v : Nat → Int32) (sz : Nat) (n : Nat) (hn : N 1 2 = nI n) (hn14 : n ≤ 14) : Met l yX3_takeBackLent (wy_ yX3_takeBackLent cX3_takeBackLent 2 none) rmX3_takeBackLent (kPc D (kTy cI cS cL) (stW cI a N v) sz [.ref (a 0)]) (kMv D (stW cI a N v) (stW cI a (p_tb N n) v) sz) 0 0 (va_A (stW cI a N v) sz) := by
  refine k_ofW (by decide) (Nat.le_of_ble_eq_true rfl) ?_
  intro p e s m args below meth c hx hb hr hml hts hown hlocks hnm hsz hP hK hD hE ls hl
  subst hsz
  have hA : ∀ q : Nat, s.heap.size ≤ q → (va_A (stW cI a N v) s.heap.size) q := fun q h => Or.inr h
  have hS : va_S (va_A (stW cI a N v) s.heap.size) s.heap s.heap [] := va_S.rf
  have hl : lv_has ls 2 [(0, .ref (a 0))] := hl
  refine lv_iconst (v := 0) hx hb dX3_takeBackLent_0 (by decide) ?_
  refine lv_istore_n (lv' := [(1, .int 0), (0, .ref (a 0))]) hx hb dX3_takeBackLent_1 rfl hl (by decide) rfl (fun ls hl => ?_)
  have L1 : ∀ (f k : Nat), k ≤ n → n - k < f → ∀ (H : Heap) (locs : List Loc), va_P D vwCl (stW cI a (p_tb N k) v) H → va_D (va_A (stW cI a N v) s.heap.size) (stW cI a (p_tb N k) v) → va_S (va_A (stW cI a N v) s.heap.size) s.heap H locs → s.heap.size ≤ H.size → ∀ ls : Array Slot, lv_has ls 2 [(0, .ref (a 0)), (1, .int (nI k))] → W p l e rmX3_takeBackLent s m args below meth c H locs 0 0 (MQ below (kMv D (stW cI a N v) (stW cI a (p_tb N n) v) s.heap.size) args s 0 0 (va_A (stW cI a N v) s.heap.size)) (F0 m 2 ls []) := by
    intro f
    induction f with
    | zero => intro k hv1 hv2; exact absurd hv2 (Nat.not_lt_zero _)
    | succ f ih =>
      intro k hv1 hv2 H locs hP hD hS hz ls hl
      refine lv_iload_n hx hb dX3_takeBackLent_2 rfl (lv_at hl 1 rfl) ?_
      refine lv_aload_n hx hb dX3_takeBackLent_3 rfl (lv_at hl 0 rfl) ?_
      refine g3 hx hb hts hown hK hP 0 rfl 2 (by decide) flX3_56 (fun _ h => h) (v := .int (nI n)) (by show some (Value.int (p_tb N k 1 2)) = _; rw [p_tb_row1, hn]) dX3_takeBackLent_4 ?_
      refine lv_icmp_ge (tgt := 51) hx hb dX3_takeBackLent_7 (by decide) (fun c2 => ?_) (fun c2 => ?_)
      · have c2' := Int32.not_lt.mpr c2
        have hkn : n = k := (k_exit (by omega) hv1 c2).symm
        subst hkn
        have hP : va_P D vwCl (stW cI a (p_tb N n) v) H := hP
        have hD : va_D (va_A (stW cI a N v) s.heap.size) (stW cI a (p_tb N n) v) := hD
        exact k_eMv hx hb hr hlocks hP hS dX3_takeBackLent_51
      · have c2' := Int32.not_le.mp c2
        have hkn : k < n := k_more (by omega) hv1 c2
        refine lv_aload_n hx hb dX3_takeBackLent_10 rfl (lv_at hl 0 rfl) ?_
        refine lv_iload_n hx hb dX3_takeBackLent_11 rfl (lv_at hl 1 rfl) ?_
        refine k_riV (As := [.int (nI k)]) (rest := []) (wc := stW cI a (p_tb N k) v) ⟨hx, hb, hml, hown, hts⟩ (c_X3_isLent l D cI cS cL a (p_tb N k) v _ k (by omega)) lkX3_86 rfl rfl ⟨(Nat.le_of_ble_eq_true rfl), (Nat.le_of_ble_eq_true rfl)⟩ (va_recv hK hP (ci := 2) (q0 := 0) rfl rfl) hK hE hP hD rfl hl.1 rfl (Nat.le_of_ble_eq_true rfl) dX3_takeBackLent_12 ⟨Nat.zero_le _, Nat.zero_le _⟩ ?_
        refine lv_if_eq (tgt := 45) hx hb dX3_takeBackLent_15 (by decide) (fun c3 => ?_) (fun c3 => ?_)
        · have c3 := bI_eq0 c3
          refine lv_iinc (v := nI (k + 1)) (lv' := [(1, .int (nI (k + 1))), (0, .ref (a 0))]) hx hb dX3_takeBackLent_45 hl (k := 1) rfl (nI_1 _) (by decide) rfl (fun ls hl => ?_)
          refine lv_goto (tgt := 2) hx hb dX3_takeBackLent_48 (by decide) ?_
          have hl : lv_has ls 2 [(0, .ref (a 0)), (1, .int (nI (k + 1)))] := lv_sub hl [1, 0] rfl
          have hl : lv_has ls 2 [(0, .ref (a 0)), (1, .int (nI (k + 1)))] := hl
          have w4 : (p_tb N k) = (p_tb N (k + 1)) := by simp [p_tb, mn, c2, c2', hkn, c3]
          have hP : va_P D vwCl (stW cI a (p_tb N (k + 1)) v) H := (congrArg (fun zz => va_P D vwCl (stW cI a zz v) H) w4).mp hP
          have hD : va_D (va_A (stW cI a N v) s.heap.size) (stW cI a (p_tb N (k + 1)) v) := (congrArg (fun zz => va_D (va_A (stW cI a N v) s.heap.size) (stW cI a zz v)) w4).mp hD
          have hP : va_P D vwCl (stW cI a (p_tb N (k + 1)) v) H := hP
          have hD : va_D (va_A (stW cI a N v) s.heap.size) (stW cI a (p_tb N (k + 1)) v) := hD
          exact ih (k + 1) (by omega) (by omega) H locs hP hD hS hS.1 ls hl
        · have c3 := bI_ne0 c3
          refine lv_aload_n hx hb dX3_takeBackLent_18 rfl (lv_at hl 0 rfl) ?_
          refine g3 hx hb hts hown hK hP 0 rfl 15 (by decide) flX3_46 (fun _ h => h) (v := .ref (a 10)) rfl dX3_takeBackLent_19 ?_
          refine lv_iload_n hx hb dX3_takeBackLent_22 rfl (lv_at hl 1 rfl) ?_
          refine k_ald (k := k) hx hb hK hP 10 0 rfl rfl rfl (by omega) (by decide) dX3_takeBackLent_23 ?_
          refine lv_aload_n hx hb dX3_takeBackLent_24 rfl (lv_at hl 0 rfl) ?_
          refine g3 hx hb hts hown hK hP 0 rfl 0 (by decide) flX3_9 (fun _ h => h) (v := .int ((p_tb N k) 1 0)) rfl dX3_takeBackLent_25 ?_
          refine lv_icmp_ne (tgt := 45) hx hb dX3_takeBackLent_28 (by decide) (fun c5 => ?_) (fun c5 => ?_)
          · refine lv_iinc (v := nI (k + 1)) (lv' := [(1, .int (nI (k + 1))), (0, .ref (a 0))]) hx hb dX3_takeBackLent_45 hl (k := 1) rfl (nI_1 _) (by decide) rfl (fun ls hl => ?_)
            refine lv_goto (tgt := 2) hx hb dX3_takeBackLent_48 (by decide) ?_
            have hl : lv_has ls 2 [(0, .ref (a 0)), (1, .int (nI (k + 1)))] := lv_sub hl [1, 0] rfl
            have hl : lv_has ls 2 [(0, .ref (a 0)), (1, .int (nI (k + 1)))] := hl
            have w6 : (p_tb N k) = (p_tb N (k + 1)) := by simp [p_tb, mn, c2, c2', hkn, c3, c5]
            have hP : va_P D vwCl (stW cI a (p_tb N (k + 1)) v) H := (congrArg (fun zz => va_P D vwCl (stW cI a zz v) H) w6).mp hP
            have hD : va_D (va_A (stW cI a N v) s.heap.size) (stW cI a (p_tb N (k + 1)) v) := (congrArg (fun zz => va_D (va_A (stW cI a N v) s.heap.size) (stW cI a zz v)) w6).mp hD
            have hP : va_P D vwCl (stW cI a (p_tb N (k + 1)) v) H := hP
            have hD : va_D (va_A (stW cI a N v) s.heap.size) (stW cI a (p_tb N (k + 1)) v) := hD
            exact ih (k + 1) (by omega) (by omega) H locs hP hD hS hS.1 ls hl
          · refine lv_aload_n hx hb dX3_takeBackLent_31 rfl (lv_at hl 0 rfl) ?_
            refine g3 hx hb hts hown hK hP 0 rfl 14 (by decide) flX3_43 (fun _ h => h) (v := .ref (a 9)) rfl dX3_takeBackLent_32 ?_
            refine lv_iload_n hx hb dX3_takeBackLent_35 rfl (lv_at hl 1 rfl) ?_
            refine lv_iconst (v := 3) hx hb dX3_takeBackLent_36 (by decide) ?_
            refine k_ast (k := k) hx hb hK hP hD hS 9 0 rfl rfl rfl (by omega) (by decide) dX3_takeBackLent_37 (fun H locs hP hD hS => ?_)
            have hP : va_P D vwCl (stW cI a (up2 (p_tb N k) 9 k 3) v) H := hP
            have hD : va_D (va_A (stW cI a N v) s.heap.size) (stW cI a (up2 (p_tb N k) 9 k 3) v) := hD
            refine lv_aload_n hx hb dX3_takeBackLent_38 rfl (lv_at hl 0 rfl) ?_
            refine g3 hx hb hts hown hK hP 0 rfl 15 (by decide) flX3_46 (fun _ h => h) (v := .ref (a 10)) rfl dX3_takeBackLent_39 ?_
            refine lv_iload_n hx hb dX3_takeBackLent_42 rfl (lv_at hl 1 rfl) ?_
            refine lv_iconst (v := (-1)) hx hb dX3_takeBackLent_43 (by decide) ?_
            refine k_ast (k := k) hx hb hK hP hD hS 10 0 rfl rfl rfl (by omega) (by decide) dX3_takeBackLent_44 (fun H locs hP hD hS => ?_)
            have hP : va_P D vwCl (stW cI a (up2 (up2 (p_tb N k) 9 k 3) 10 k (-1)) v) H := hP
            have hD : va_D (va_A (stW cI a N v) s.heap.size) (stW cI a (up2 (up2 (p_tb N k) 9 k 3) 10 k (-1)) v) := hD
            refine lv_iinc (v := nI (k + 1)) (lv' := [(1, .int (nI (k + 1))), (0, .ref (a 0))]) hx hb dX3_takeBackLent_45 hl (k := 1) rfl (nI_1 _) (by decide) rfl (fun ls hl => ?_)
            refine lv_goto (tgt := 2) hx hb dX3_takeBackLent_48 (by decide) ?_
            have hl : lv_has ls 2 [(0, .ref (a 0)), (1, .int (nI (k + 1)))] := lv_sub hl [1, 0] rfl
            have hl : lv_has ls 2 [(0, .ref (a 0)), (1, .int (nI (k + 1)))] := hl
            have w7 : (up2 (up2 (p_tb N k) 9 k 3) 10 k (-1)) = (p_tb N (k + 1)) := by simp [p_tb, mn, c2, c2', hkn, c3, c5]
            have hP : va_P D vwCl (stW cI a (p_tb N (k + 1)) v) H := (congrArg (fun zz => va_P D vwCl (stW cI a zz v) H) w7).mp hP
            have hD : va_D (va_A (stW cI a N v) s.heap.size) (stW cI a (p_tb N (k + 1)) v) := (congrArg (fun zz => va_D (va_A (stW cI a N v) s.heap.size) (stW cI a zz v)) w7).mp hD
            have hP : va_P D vwCl (stW cI a (p_tb N (k + 1)) v) H := hP
            have hD : va_D (va_A (stW cI a N v) s.heap.size) (stW cI a (p_tb N (k + 1)) v) := hD
            exact ih (k + 1) (by omega) (by omega) H locs hP hD hS hS.1 ls hl
  have hl : lv_has ls 2 [(0, .ref (a 0)), (1, .int 0)] := lv_sub hl [1, 0] rfl
  have hl : lv_has ls 2 [(0, .ref (a 0)), (1, .int (nI 0))] := hl
  have hP : va_P D vwCl (stW cI a (p_tb N 0) v) s.heap := hP
  have hD : va_D (va_A (stW cI a N v) s.heap.size) (stW cI a (p_tb N 0) v) := hD
  exact L1 (n - 0 + 1) 0 (by omega) (by omega) s.heap [] hP hD hS (Nat.le_refl _) ls hl

abbrev rmX3_wearOnTrucks : Room := { frames := 3, cells := 0, slots := 0, locals := 63 }
set_option maxHeartbeats 4000000 in
set_option maxRecDepth 100000 in
theorem c_X3_wearOnTrucks (l : Launch) (D : va_G) (cI cS cL : ClassId) (a : Nat → Nat) (N : NN) (v : Nat → Int32) (sz : Nat) (n : Nat) (hn : N 1 2 = nI n) (hn14 : n ≤ 14) : Met l yX3_wearOnTrucks (wy_ yX3_wearOnTrucks cX3_wearOnTrucks 2 none) rmX3_wearOnTrucks (kPc D (kTy cI cS cL) (stW cI a N v) sz [.ref (a 0)]) (kMv D (stW cI a N v) (stW cI a (p_wt N n) v) sz) 0 0 (va_A (stW cI a N v) sz) := by
  refine k_ofW (by decide) (Nat.le_of_ble_eq_true rfl) ?_
  intro p e s m args below meth c hx hb hr hml hts hown hlocks hnm hsz hP hK hD hE ls hl
  subst hsz
  have hA : ∀ q : Nat, s.heap.size ≤ q → (va_A (stW cI a N v) s.heap.size) q := fun q h => Or.inr h
  have hS : va_S (va_A (stW cI a N v) s.heap.size) s.heap s.heap [] := va_S.rf
  have hl : lv_has ls 2 [(0, .ref (a 0))] := hl
  refine lv_iconst (v := 0) hx hb dX3_wearOnTrucks_0 (by decide) ?_
  refine lv_istore_n (lv' := [(1, .int 0), (0, .ref (a 0))]) hx hb dX3_wearOnTrucks_1 rfl hl (by decide) rfl (fun ls hl => ?_)
  have L1 : ∀ (f k : Nat), k ≤ n → n - k < f → ∀ (H : Heap) (locs : List Loc), va_P D vwCl (stW cI a (p_wt N k) v) H → va_D (va_A (stW cI a N v) s.heap.size) (stW cI a (p_wt N k) v) → va_S (va_A (stW cI a N v) s.heap.size) s.heap H locs → s.heap.size ≤ H.size → ∀ ls : Array Slot, lv_has ls 2 [(0, .ref (a 0)), (1, .int (nI k))] → W p l e rmX3_wearOnTrucks s m args below meth c H locs 0 0 (MQ below (kMv D (stW cI a N v) (stW cI a (p_wt N n) v) s.heap.size) args s 0 0 (va_A (stW cI a N v) s.heap.size)) (F0 m 2 ls []) := by
    intro f
    induction f with
    | zero => intro k hv1 hv2; exact absurd hv2 (Nat.not_lt_zero _)
    | succ f ih =>
      intro k hv1 hv2 H locs hP hD hS hz ls hl
      refine lv_iload_n hx hb dX3_wearOnTrucks_2 rfl (lv_at hl 1 rfl) ?_
      refine lv_aload_n hx hb dX3_wearOnTrucks_3 rfl (lv_at hl 0 rfl) ?_
      refine g3 hx hb hts hown hK hP 0 rfl 2 (by decide) flX3_56 (fun _ h => h) (v := .int (nI n)) (by show some (Value.int (p_wt N k 1 2)) = _; rw [p_wt_row1, hn]) dX3_wearOnTrucks_4 ?_
      refine lv_icmp_ge (tgt := 51) hx hb dX3_wearOnTrucks_7 (by decide) (fun c2 => ?_) (fun c2 => ?_)
      · have c2' := Int32.not_lt.mpr c2
        have hkn : n = k := (k_exit (by omega) hv1 c2).symm
        subst hkn
        have hP : va_P D vwCl (stW cI a (p_wt N n) v) H := hP
        have hD : va_D (va_A (stW cI a N v) s.heap.size) (stW cI a (p_wt N n) v) := hD
        exact k_eMv hx hb hr hlocks hP hS dX3_wearOnTrucks_51
      · have c2' := Int32.not_le.mp c2
        have hkn : k < n := k_more (by omega) hv1 c2
        refine lv_aload_n hx hb dX3_wearOnTrucks_10 rfl (lv_at hl 0 rfl) ?_
        refine lv_iload_n hx hb dX3_wearOnTrucks_11 rfl (lv_at hl 1 rfl) ?_
        refine k_riV (As := [.int (nI k)]) (rest := []) (wc := stW cI a (p_wt N k) v) ⟨hx, hb, hml, hown, hts⟩ (c_X3_isOnTruck l D cI cS cL a (p_wt N k) v _ k (by omega)) lkX3_135 rfl rfl ⟨(Nat.le_of_ble_eq_true rfl), (Nat.le_of_ble_eq_true rfl)⟩ (va_recv hK hP (ci := 2) (q0 := 0) rfl rfl) hK hE hP hD rfl hl.1 rfl (Nat.le_of_ble_eq_true rfl) dX3_wearOnTrucks_12 ⟨Nat.zero_le _, Nat.zero_le _⟩ ?_
        refine lv_if_eq (tgt := 45) hx hb dX3_wearOnTrucks_15 (by decide) (fun c3 => ?_) (fun c3 => ?_)
        · have c3 := bI_eq0 c3
          refine lv_iinc (v := nI (k + 1)) (lv' := [(1, .int (nI (k + 1))), (0, .ref (a 0))]) hx hb dX3_wearOnTrucks_45 hl (k := 1) rfl (nI_1 _) (by decide) rfl (fun ls hl => ?_)
          refine lv_goto (tgt := 2) hx hb dX3_wearOnTrucks_48 (by decide) ?_
          have hl : lv_has ls 2 [(0, .ref (a 0)), (1, .int (nI (k + 1)))] := lv_sub hl [1, 0] rfl
          have hl : lv_has ls 2 [(0, .ref (a 0)), (1, .int (nI (k + 1)))] := hl
          have w4 : (p_wt N k) = (p_wt N (k + 1)) := by simp [p_wt, mn, c2, c2', hkn, c3]
          have hP : va_P D vwCl (stW cI a (p_wt N (k + 1)) v) H := (congrArg (fun zz => va_P D vwCl (stW cI a zz v) H) w4).mp hP
          have hD : va_D (va_A (stW cI a N v) s.heap.size) (stW cI a (p_wt N (k + 1)) v) := (congrArg (fun zz => va_D (va_A (stW cI a N v) s.heap.size) (stW cI a zz v)) w4).mp hD
          have hP : va_P D vwCl (stW cI a (p_wt N (k + 1)) v) H := hP
          have hD : va_D (va_A (stW cI a N v) s.heap.size) (stW cI a (p_wt N (k + 1)) v) := hD
          exact ih (k + 1) (by omega) (by omega) H locs hP hD hS hS.1 ls hl
        · have c3 := bI_ne0 c3
          refine lv_aload_n hx hb dX3_wearOnTrucks_18 rfl (lv_at hl 0 rfl) ?_
          refine lv_iload_n hx hb dX3_wearOnTrucks_19 rfl (lv_at hl 1 rfl) ?_
          refine k_riV (As := [.int (nI k)]) (rest := []) (wc := stW cI a (p_wt N k) v) ⟨hx, hb, hml, hown, hts⟩ (c_X3_isReady l D cI cS cL a (p_wt N k) v _ k (by omega)) lkX3_138 rfl rfl ⟨(Nat.le_of_ble_eq_true rfl), (Nat.le_of_ble_eq_true rfl)⟩ (va_recv hK hP (ci := 2) (q0 := 0) rfl rfl) hK hE hP hD rfl hl.1 rfl (Nat.le_of_ble_eq_true rfl) dX3_wearOnTrucks_20 ⟨Nat.zero_le _, Nat.zero_le _⟩ ?_
          refine lv_if_eq (tgt := 45) hx hb dX3_wearOnTrucks_23 (by decide) (fun c5 => ?_) (fun c5 => ?_)
          · have c5 := bI_eq0 c5
            refine lv_iinc (v := nI (k + 1)) (lv' := [(1, .int (nI (k + 1))), (0, .ref (a 0))]) hx hb dX3_wearOnTrucks_45 hl (k := 1) rfl (nI_1 _) (by decide) rfl (fun ls hl => ?_)
            refine lv_goto (tgt := 2) hx hb dX3_wearOnTrucks_48 (by decide) ?_
            have hl : lv_has ls 2 [(0, .ref (a 0)), (1, .int (nI (k + 1)))] := lv_sub hl [1, 0] rfl
            have hl : lv_has ls 2 [(0, .ref (a 0)), (1, .int (nI (k + 1)))] := hl
            have w6 : (p_wt N k) = (p_wt N (k + 1)) := by simp [p_wt, mn, c2, c2', hkn, c3, c5]
            have hP : va_P D vwCl (stW cI a (p_wt N (k + 1)) v) H := (congrArg (fun zz => va_P D vwCl (stW cI a zz v) H) w6).mp hP
            have hD : va_D (va_A (stW cI a N v) s.heap.size) (stW cI a (p_wt N (k + 1)) v) := (congrArg (fun zz => va_D (va_A (stW cI a N v) s.heap.size) (stW cI a zz v)) w6).mp hD
            have hP : va_P D vwCl (stW cI a (p_wt N (k + 1)) v) H := hP
            have hD : va_D (va_A (stW cI a N v) s.heap.size) (stW cI a (p_wt N (k + 1)) v) := hD
            exact ih (k + 1) (by omega) (by omega) H locs hP hD hS hS.1 ls hl
          · have c5 := bI_ne0 c5
            refine lv_aload_n hx hb dX3_wearOnTrucks_26 rfl (lv_at hl 0 rfl) ?_
            refine g3 hx hb hts hown hK hP 0 rfl 12 (by decide) flX3_37 (fun _ h => h) (v := .ref (a 7)) rfl dX3_wearOnTrucks_27 ?_
            refine lv_iload_n hx hb dX3_wearOnTrucks_30 rfl (lv_at hl 1 rfl) ?_
            refine lv_bipush (v := 99) hx hb dX3_wearOnTrucks_31 (by decide) ?_
            refine lv_aload_n hx hb dX3_wearOnTrucks_33 rfl (lv_at hl 0 rfl) ?_
            refine g3 hx hb hts hown hK hP 0 rfl 12 (by decide) flX3_37 (fun _ h => h) (v := .ref (a 7)) rfl dX3_wearOnTrucks_34 ?_
            refine lv_iload_n hx hb dX3_wearOnTrucks_37 rfl (lv_at hl 1 rfl) ?_
            refine k_ald (k := k) hx hb hK hP 7 0 rfl rfl rfl (by omega) (by decide) dX3_wearOnTrucks_38 ?_
            refine lv_iconst (v := 1) hx hb dX3_wearOnTrucks_39 (by decide) ?_
            refine lv_iadd hx hb dX3_wearOnTrucks_40 (lv_topi (fun x7 e7 => ?_))
            refine va_mmin hx hb (hml.trans hl.1.symm) hown (hts _ wd_methodLink_RX3_112_Lib_Math_min_name) (hts _ wd_static_Lib_Math_min_name) (hts _ wd_initialized_java_lang_Math) (hts _ wd_code_Lib_Math_min_name_Lib_Math_min_code_2_some_int) (Nat.le_of_ble_eq_true rfl) (Nat.le_of_ble_eq_true rfl) (Nat.zero_le _) (Nat.zero_le _) dX3_wearOnTrucks_41 (lv_topi (fun x8 e8 => ?_))
            refine k_ast (k := k) hx hb hK hP hD hS 7 0 rfl rfl rfl (by omega) (by decide) dX3_wearOnTrucks_44 (fun H locs hP hD hS => ?_)
            have hP : va_P D vwCl (stW cI a (up2 (p_wt N k) 7 k x8) v) H := hP
            have hD : va_D (va_A (stW cI a N v) s.heap.size) (stW cI a (up2 (p_wt N k) 7 k x8) v) := hD
            refine lv_iinc (v := nI (k + 1)) (lv' := [(1, .int (nI (k + 1))), (0, .ref (a 0))]) hx hb dX3_wearOnTrucks_45 hl (k := 1) rfl (nI_1 _) (by decide) rfl (fun ls hl => ?_)
            refine lv_goto (tgt := 2) hx hb dX3_wearOnTrucks_48 (by decide) ?_
            have hl : lv_has ls 2 [(0, .ref (a 0)), (1, .int (nI (k + 1)))] := lv_sub hl [1, 0] rfl
            have hl : lv_has ls 2 [(0, .ref (a 0)), (1, .int (nI (k + 1)))] := hl
            have w9 : (up2 (p_wt N k) 7 k x8) = (p_wt N (k + 1)) := by subst e7 e8; simp [p_wt, mn, c2, c2', hkn, c3, c5]
            have hP : va_P D vwCl (stW cI a (p_wt N (k + 1)) v) H := (congrArg (fun zz => va_P D vwCl (stW cI a zz v) H) w9).mp hP
            have hD : va_D (va_A (stW cI a N v) s.heap.size) (stW cI a (p_wt N (k + 1)) v) := (congrArg (fun zz => va_D (va_A (stW cI a N v) s.heap.size) (stW cI a zz v)) w9).mp hD
            have hP : va_P D vwCl (stW cI a (p_wt N (k + 1)) v) H := hP
            have hD : va_D (va_A (stW cI a N v) s.heap.size) (stW cI a (p_wt N (k + 1)) v) := hD
            exact ih (k + 1) (by omega) (by omega) H locs hP hD hS hS.1 ls hl
  have hl : lv_has ls 2 [(0, .ref (a 0)), (1, .int 0)] := lv_sub hl [1, 0] rfl
  have hl : lv_has ls 2 [(0, .ref (a 0)), (1, .int (nI 0))] := hl
  have hP : va_P D vwCl (stW cI a (p_wt N 0) v) s.heap := hP
  have hD : va_D (va_A (stW cI a N v) s.heap.size) (stW cI a (p_wt N 0) v) := hD
  exact L1 (n - 0 + 1) 0 (by omega) (by omega) s.heap [] hP hD hS (Nat.le_refl _) ls hl

abbrev rmX3_passDay : Room := { frames := 4, cells := 0, slots := 0, locals := 84 }
set_option maxHeartbeats 4000000 in
set_option maxRecDepth 100000 in
theorem c_X3_passDay (l : Launch) (D : va_G) (cI cS cL : ClassId) (a : Nat → Nat) (N : NN) (v : Nat → Int32) (sz : Nat) (n : Nat) (hn : N 1 2 = nI n) (hn14 : n ≤ 14) : Met l yX3_passDay (wy_ yX3_passDay cX3_passDay 1 none) rmX3_passDay (kPc D (kTy cI cS cL) (stW cI a N v) sz [.ref (a 0)]) (kMv D (stW cI a N v) (stW cI a (p_day N n) v) sz) 0 0 (va_A (stW cI a N v) sz) := by
  refine k_ofW (by decide) (Nat.le_of_ble_eq_true rfl) ?_
  intro p e s m args below meth c hx hb hr hml hts hown hlocks hnm hsz hP hK hD hE ls hl
  subst hsz
  have hA : ∀ q : Nat, s.heap.size ≤ q → (va_A (stW cI a N v) s.heap.size) q := fun q h => Or.inr h
  have hS : va_S (va_A (stW cI a N v) s.heap.size) s.heap s.heap [] := va_S.rf
  have hl : lv_has ls 1 [(0, .ref (a 0))] := hl
  refine lv_aload_n hx hb dX3_passDay_0 rfl (lv_at hl 0 rfl) ?_
  refine lv_dup hx hb dX3_passDay_1 rfl ?_
  refine g3 hx hb hts hown hK hP 0 rfl 0 (by decide) flX3_9 (fun _ h => h) (v := .int (N 1 0)) rfl dX3_passDay_2 ?_
  refine lv_iconst (v := 1) hx hb dX3_passDay_5 (by decide) ?_
  refine lv_iadd hx hb dX3_passDay_6 (lv_topi (fun x1 e1 => ?_))
  have q1 : x1 = N 1 0 + 1 := by rw [e1]; skip
  subst q1
  refine f3 hx hb hts hown hK hP hD hS 0 rfl 0 (by decide) flX3_9 (fun _ h => h) rfl rfl rfl (Nat.le_of_ble_eq_true rfl) dX3_passDay_7 (fun H locs hP hD hS => ?_)
  have hP : va_P D vwCl (stW cI a (up2 N 1 0 (N 1 0 + 1)) v) H := hP
  have hD : va_D (va_A (stW cI a N v) s.heap.size) (stW cI a (up2 N 1 0 (N 1 0 + 1)) v) := hD
  refine lv_aload_n hx hb dX3_passDay_10 rfl (lv_at hl 0 rfl) ?_
  refine k_mvV (As := []) (rest := []) (w1 := []) (wc := stW cI a (up2 N 1 0 (N 1 0 + 1)) v) (wc' := stW cI a (p_tb (up2 N 1 0 (N 1 0 + 1)) n) v) (w3 := []) ⟨hx, hb, hml, hown, hts⟩ (c_X3_takeBackLent l D cI cS cL a (up2 N 1 0 (N 1 0 + 1)) v _ n hn hn14) lkX3_129 rfl rfl ⟨(Nat.le_of_ble_eq_true rfl), (Nat.le_of_ble_eq_true rfl)⟩ (va_recv hK hP (ci := 2) (q0 := 0) rfl rfl) hK hE hP hD hS hA rfl rfl hl.1 rfl (Nat.le_of_ble_eq_true rfl) dX3_passDay_11 ⟨Nat.zero_le _, Nat.zero_le _⟩ (fun H locs hzz hP hD hS => ?_)
  have hP : va_P D vwCl (stW cI a (p_tb (up2 N 1 0 (N 1 0 + 1)) n) v) H := hP
  have hD : va_D (va_A (stW cI a N v) s.heap.size) (stW cI a (p_tb (up2 N 1 0 (N 1 0 + 1)) n) v) := hD
  refine lv_aload_n hx hb dX3_passDay_14 rfl (lv_at hl 0 rfl) ?_
  refine g3 hx hb hts hown hK hP 0 rfl 0 (by decide) flX3_9 (fun _ h => h) (v := .int ((p_tb (up2 N 1 0 (N 1 0 + 1)) n) 1 0)) rfl dX3_passDay_15 ?_
  refine lv_bipush (v := 10) hx hb dX3_passDay_18 (by decide) ?_
  refine lv_irem hx hb dX3_passDay_20 (by decide) (lv_topi (fun x2 e2 => ?_))
  refine lv_if_ne (tgt := 28) hx hb dX3_passDay_21 (by decide) (fun c3 => ?_) (fun c3 => ?_)
  · refine lv_aload_n hx hb dX3_passDay_28 rfl (lv_at hl 0 rfl) ?_
    refine g3 hx hb hts hown hK hP 0 rfl 0 (by decide) flX3_9 (fun _ h => h) (v := .int ((p_tb (up2 N 1 0 (N 1 0 + 1)) n) 1 0)) rfl dX3_passDay_29 ?_
    refine lv_bipush (v := 30) hx hb dX3_passDay_32 (by decide) ?_
    refine lv_irem hx hb dX3_passDay_34 (by decide) (lv_topi (fun x4 e4 => ?_))
    refine lv_if_ne (tgt := 59) hx hb dX3_passDay_35 (by decide) (fun c5 => ?_) (fun c5 => ?_)
    · have w6 : (p_tb (up2 N 1 0 (N 1 0 + 1)) n) = (p_day N n) := by subst e2 e4; simp [p_day, p_mon, p_wtd, p_rem, mn, c3, c5]
      have hP : va_P D vwCl (stW cI a (p_day N n) v) H := (congrArg (fun zz => va_P D vwCl (stW cI a zz v) H) w6).mp hP
      have hD : va_D (va_A (stW cI a N v) s.heap.size) (stW cI a (p_day N n) v) := (congrArg (fun zz => va_D (va_A (stW cI a N v) s.heap.size) (stW cI a zz v)) w6).mp hD
      have hP : va_P D vwCl (stW cI a (p_day N n) v) H := hP
      have hD : va_D (va_A (stW cI a N v) s.heap.size) (stW cI a (p_day N n) v) := hD
      exact k_eMv hx hb hr hlocks hP hS dX3_passDay_59
    · refine lv_aload_n hx hb dX3_passDay_38 rfl (lv_at hl 0 rfl) ?_
      refine lv_sipush (v := 9999) hx hb dX3_passDay_39 (by decide) ?_
      refine lv_aload_n hx hb dX3_passDay_42 rfl (lv_at hl 0 rfl) ?_
      refine g3 hx hb hts hown hK hP 0 rfl 1 (by decide) flX3_15 (fun _ h => h) (v := .int ((p_tb (up2 N 1 0 (N 1 0 + 1)) n) 1 1)) rfl dX3_passDay_43 ?_
      refine lv_aload_n hx hb dX3_passDay_46 rfl (lv_at hl 0 rfl) ?_
      refine g3 hx hb hts hown hK hP 0 rfl 7 (by decide) flX3_22 (fun _ h => h) (v := .ref (a 2)) rfl dX3_passDay_47 ?_
      refine lv_iconst (v := 2) hx hb dX3_passDay_50 (by decide) ?_
      refine k_ald (k := 2) hx hb hK hP 2 0 rfl rfl rfl (by decide) (by decide) dX3_passDay_51 ?_
      refine lv_iadd hx hb dX3_passDay_52 (lv_topi (fun x7 e7 => ?_))
      refine va_mmin hx hb (hml.trans hl.1.symm) hown (hts _ wd_methodLink_RX3_112_Lib_Math_min_name) (hts _ wd_static_Lib_Math_min_name) (hts _ wd_initialized_java_lang_Math) (hts _ wd_code_Lib_Math_min_name_Lib_Math_min_code_2_some_int) (Nat.le_of_ble_eq_true rfl) (Nat.le_of_ble_eq_true rfl) (Nat.zero_le _) (Nat.zero_le _) dX3_passDay_53 (lv_topi (fun x8 e8 => ?_))
      refine f3 hx hb hts hown hK hP hD hS 0 rfl 1 (by decide) flX3_15 (fun _ h => h) rfl rfl rfl (Nat.le_of_ble_eq_true rfl) dX3_passDay_56 (fun H locs hP hD hS => ?_)
      have hP : va_P D vwCl (stW cI a (up2 (p_tb (up2 N 1 0 (N 1 0 + 1)) n) 1 1 x8) v) H := hP
      have hD : va_D (va_A (stW cI a N v) s.heap.size) (stW cI a (up2 (p_tb (up2 N 1 0 (N 1 0 + 1)) n) 1 1 x8) v) := hD
      have w9 : (up2 (p_tb (up2 N 1 0 (N 1 0 + 1)) n) 1 1 x8) = (p_day N n) := by subst e2 e4 e7 e8; simp [p_day, p_mon, p_wtd, p_rem, mn, c3, c5]
      have hP : va_P D vwCl (stW cI a (p_day N n) v) H := (congrArg (fun zz => va_P D vwCl (stW cI a zz v) H) w9).mp hP
      have hD : va_D (va_A (stW cI a N v) s.heap.size) (stW cI a (p_day N n) v) := (congrArg (fun zz => va_D (va_A (stW cI a N v) s.heap.size) (stW cI a zz v)) w9).mp hD
      have hP : va_P D vwCl (stW cI a (p_day N n) v) H := hP
      have hD : va_D (va_A (stW cI a N v) s.heap.size) (stW cI a (p_day N n) v) := hD
      exact k_eMv hx hb hr hlocks hP hS dX3_passDay_59
  · refine lv_aload_n hx hb dX3_passDay_24 rfl (lv_at hl 0 rfl) ?_
    refine k_mvV (As := []) (rest := []) (w1 := []) (wc := stW cI a (p_tb (up2 N 1 0 (N 1 0 + 1)) n) v) (wc' := stW cI a (p_wt (p_tb (up2 N 1 0 (N 1 0 + 1)) n) n) v) (w3 := []) ⟨hx, hb, hml, hown, hts⟩ (c_X3_wearOnTrucks l D cI cS cL a (p_tb (up2 N 1 0 (N 1 0 + 1)) n) v _ n (by rw [p_tb_row1]; exact hn) hn14) lkX3_132 rfl rfl ⟨(Nat.le_of_ble_eq_true rfl), (Nat.le_of_ble_eq_true rfl)⟩ (va_recv hK hP (ci := 2) (q0 := 0) rfl rfl) hK hE hP hD hS hA rfl rfl hl.1 rfl (Nat.le_of_ble_eq_true rfl) dX3_passDay_25 ⟨Nat.zero_le _, Nat.zero_le _⟩ (fun H locs hzz hP hD hS => ?_)
    have hP : va_P D vwCl (stW cI a (p_wt (p_tb (up2 N 1 0 (N 1 0 + 1)) n) n) v) H := hP
    have hD : va_D (va_A (stW cI a N v) s.heap.size) (stW cI a (p_wt (p_tb (up2 N 1 0 (N 1 0 + 1)) n) n) v) := hD
    refine lv_aload_n hx hb dX3_passDay_28 rfl (lv_at hl 0 rfl) ?_
    refine g3 hx hb hts hown hK hP 0 rfl 0 (by decide) flX3_9 (fun _ h => h) (v := .int ((p_wt (p_tb (up2 N 1 0 (N 1 0 + 1)) n) n) 1 0)) rfl dX3_passDay_29 ?_
    refine lv_bipush (v := 30) hx hb dX3_passDay_32 (by decide) ?_
    refine lv_irem hx hb dX3_passDay_34 (by decide) (lv_topi (fun x10 e10 => ?_))
    refine lv_if_ne (tgt := 59) hx hb dX3_passDay_35 (by decide) (fun c11 => ?_) (fun c11 => ?_)
    · have w12 : (p_wt (p_tb (up2 N 1 0 (N 1 0 + 1)) n) n) = (p_day N n) := by subst e2 e10; simp [p_day, p_mon, p_wtd, p_rem, mn, c3, c11]
      have hP : va_P D vwCl (stW cI a (p_day N n) v) H := (congrArg (fun zz => va_P D vwCl (stW cI a zz v) H) w12).mp hP
      have hD : va_D (va_A (stW cI a N v) s.heap.size) (stW cI a (p_day N n) v) := (congrArg (fun zz => va_D (va_A (stW cI a N v) s.heap.size) (stW cI a zz v)) w12).mp hD
      have hP : va_P D vwCl (stW cI a (p_day N n) v) H := hP
      have hD : va_D (va_A (stW cI a N v) s.heap.size) (stW cI a (p_day N n) v) := hD
      exact k_eMv hx hb hr hlocks hP hS dX3_passDay_59
    · refine lv_aload_n hx hb dX3_passDay_38 rfl (lv_at hl 0 rfl) ?_
      refine lv_sipush (v := 9999) hx hb dX3_passDay_39 (by decide) ?_
      refine lv_aload_n hx hb dX3_passDay_42 rfl (lv_at hl 0 rfl) ?_
      refine g3 hx hb hts hown hK hP 0 rfl 1 (by decide) flX3_15 (fun _ h => h) (v := .int ((p_wt (p_tb (up2 N 1 0 (N 1 0 + 1)) n) n) 1 1)) rfl dX3_passDay_43 ?_
      refine lv_aload_n hx hb dX3_passDay_46 rfl (lv_at hl 0 rfl) ?_
      refine g3 hx hb hts hown hK hP 0 rfl 7 (by decide) flX3_22 (fun _ h => h) (v := .ref (a 2)) rfl dX3_passDay_47 ?_
      refine lv_iconst (v := 2) hx hb dX3_passDay_50 (by decide) ?_
      refine k_ald (k := 2) hx hb hK hP 2 0 rfl rfl rfl (by decide) (by decide) dX3_passDay_51 ?_
      refine lv_iadd hx hb dX3_passDay_52 (lv_topi (fun x13 e13 => ?_))
      refine va_mmin hx hb (hml.trans hl.1.symm) hown (hts _ wd_methodLink_RX3_112_Lib_Math_min_name) (hts _ wd_static_Lib_Math_min_name) (hts _ wd_initialized_java_lang_Math) (hts _ wd_code_Lib_Math_min_name_Lib_Math_min_code_2_some_int) (Nat.le_of_ble_eq_true rfl) (Nat.le_of_ble_eq_true rfl) (Nat.zero_le _) (Nat.zero_le _) dX3_passDay_53 (lv_topi (fun x14 e14 => ?_))
      refine f3 hx hb hts hown hK hP hD hS 0 rfl 1 (by decide) flX3_15 (fun _ h => h) rfl rfl rfl (Nat.le_of_ble_eq_true rfl) dX3_passDay_56 (fun H locs hP hD hS => ?_)
      have hP : va_P D vwCl (stW cI a (up2 (p_wt (p_tb (up2 N 1 0 (N 1 0 + 1)) n) n) 1 1 x14) v) H := hP
      have hD : va_D (va_A (stW cI a N v) s.heap.size) (stW cI a (up2 (p_wt (p_tb (up2 N 1 0 (N 1 0 + 1)) n) n) 1 1 x14) v) := hD
      have w15 : (up2 (p_wt (p_tb (up2 N 1 0 (N 1 0 + 1)) n) n) 1 1 x14) = (p_day N n) := by subst e2 e10 e13 e14; simp [p_day, p_mon, p_wtd, p_rem, mn, c3, c11]
      have hP : va_P D vwCl (stW cI a (p_day N n) v) H := (congrArg (fun zz => va_P D vwCl (stW cI a zz v) H) w15).mp hP
      have hD : va_D (va_A (stW cI a N v) s.heap.size) (stW cI a (p_day N n) v) := (congrArg (fun zz => va_D (va_A (stW cI a N v) s.heap.size) (stW cI a zz v)) w15).mp hD
      have hP : va_P D vwCl (stW cI a (p_day N n) v) H := hP
      have hD : va_D (va_A (stW cI a N v) s.heap.size) (stW cI a (p_day N n) v) := hD
      exact k_eMv hx hb hr hlocks hP hS dX3_passDay_59

abbrev rmX3_copyFrom : Room := { frames := 1, cells := 0, slots := 0, locals := 18 }
set_option maxHeartbeats 4000000 in
set_option maxRecDepth 100000 in
theorem c_X3_copyFrom (l : Launch) (D : va_G) (cI cS cL : ClassId) (a : Nat → Nat) (N : NN) (v : Nat → Int32) (b : Nat → Nat) (M : NN) (u : Nat → Int32) (sz : Nat) : Met l yX3_copyFrom (wy_ yX3_copyFrom cX3_copyFrom 2 none) rmX3_copyFrom (kPc D (kTy cI cS cL) (stW cI a N v ++ (stW cI b M u)) sz [.ref (a 0), .ref (b 0)]) (kMv D (stW cI a N v ++ (stW cI b M u)) (stW cI a M v ++ (stW cI b M u)) sz) 0 0 (va_A (stW cI a N v ++ (stW cI b M u)) sz) := by
  refine k_ofW (by decide) (Nat.le_of_ble_eq_true rfl) ?_
  intro p e s m args below meth c hx hb hr hml hts hown hlocks hnm hsz hP hK hD hE ls hl
  subst hsz
  have hA : ∀ q : Nat, s.heap.size ≤ q → (va_A (stW cI a N v ++ (stW cI b M u)) s.heap.size) q := fun q h => Or.inr h
  have hS : va_S (va_A (stW cI a N v ++ (stW cI b M u)) s.heap.size) s.heap s.heap [] := va_S.rf
  have hl : lv_has ls 2 [(0, .ref (a 0)), (1, .ref (b 0))] := hl
  refine lv_aload_n hx hb dX3_copyFrom_0 rfl (lv_at hl 0 rfl) ?_
  refine lv_aload_n hx hb dX3_copyFrom_1 rfl (lv_at hl 1 rfl) ?_
  refine g3 hx hb hts hown hK hP 12 rfl 0 (by decide) flX3_9 (fun _ h => h) (v := .int (M 1 0)) rfl dX3_copyFrom_2 ?_
  refine f3 hx hb hts hown hK hP hD hS 0 rfl 0 (by decide) flX3_9 (fun _ h => h) rfl rfl rfl (Nat.le_of_ble_eq_true rfl) dX3_copyFrom_5 (fun H locs hP hD hS => ?_)
  have hP : va_P D vwCl (stW cI a (up2 N 1 0 (M 1 0)) v ++ (stW cI b M u)) H := hP
  have hD : va_D (va_A (stW cI a N v ++ (stW cI b M u)) s.heap.size) (stW cI a (up2 N 1 0 (M 1 0)) v ++ (stW cI b M u)) := hD
  refine lv_aload_n hx hb dX3_copyFrom_8 rfl (lv_at hl 0 rfl) ?_
  refine lv_aload_n hx hb dX3_copyFrom_9 rfl (lv_at hl 1 rfl) ?_
  refine g3 hx hb hts hown hK hP 12 rfl 1 (by decide) flX3_15 (fun _ h => h) (v := .int (M 1 1)) rfl dX3_copyFrom_10 ?_
  refine f3 hx hb hts hown hK hP hD hS 0 rfl 1 (by decide) flX3_15 (fun _ h => h) rfl rfl rfl (Nat.le_of_ble_eq_true rfl) dX3_copyFrom_13 (fun H locs hP hD hS => ?_)
  have hP : va_P D vwCl (stW cI a (up2 (up2 N 1 0 (M 1 0)) 1 1 (M 1 1)) v ++ (stW cI b M u)) H := hP
  have hD : va_D (va_A (stW cI a N v ++ (stW cI b M u)) s.heap.size) (stW cI a (up2 (up2 N 1 0 (M 1 0)) 1 1 (M 1 1)) v ++ (stW cI b M u)) := hD
  refine lv_aload_n hx hb dX3_copyFrom_16 rfl (lv_at hl 0 rfl) ?_
  refine lv_aload_n hx hb dX3_copyFrom_17 rfl (lv_at hl 1 rfl) ?_
  refine g3 hx hb hts hown hK hP 12 rfl 2 (by decide) flX3_56 (fun _ h => h) (v := .int (M 1 2)) rfl dX3_copyFrom_18 ?_
  refine f3 hx hb hts hown hK hP hD hS 0 rfl 2 (by decide) flX3_56 (fun _ h => h) rfl rfl rfl (Nat.le_of_ble_eq_true rfl) dX3_copyFrom_21 (fun H locs hP hD hS => ?_)
  have hP : va_P D vwCl (stW cI a (up2 (up2 (up2 N 1 0 (M 1 0)) 1 1 (M 1 1)) 1 2 (M 1 2)) v ++ (stW cI b M u)) H := hP
  have hD : va_D (va_A (stW cI a N v ++ (stW cI b M u)) s.heap.size) (stW cI a (up2 (up2 (up2 N 1 0 (M 1 0)) 1 1 (M 1 1)) 1 2 (M 1 2)) v ++ (stW cI b M u)) := hD
  refine lv_aload_n hx hb dX3_copyFrom_24 rfl (lv_at hl 0 rfl) ?_
  refine lv_aload_n hx hb dX3_copyFrom_25 rfl (lv_at hl 1 rfl) ?_
  refine g3 hx hb hts hown hK hP 12 rfl 3 (by decide) flX3_59 (fun _ h => h) (v := .int (M 1 3)) rfl dX3_copyFrom_26 ?_
  refine f3 hx hb hts hown hK hP hD hS 0 rfl 3 (by decide) flX3_59 (fun _ h => h) rfl rfl rfl (Nat.le_of_ble_eq_true rfl) dX3_copyFrom_29 (fun H locs hP hD hS => ?_)
  have hP : va_P D vwCl (stW cI a (up2 (up2 (up2 (up2 N 1 0 (M 1 0)) 1 1 (M 1 1)) 1 2 (M 1 2)) 1 3 (M 1 3)) v ++ (stW cI b M u)) H := hP
  have hD : va_D (va_A (stW cI a N v ++ (stW cI b M u)) s.heap.size) (stW cI a (up2 (up2 (up2 (up2 N 1 0 (M 1 0)) 1 1 (M 1 1)) 1 2 (M 1 2)) 1 3 (M 1 3)) v ++ (stW cI b M u)) := hD
  refine lv_aload_n hx hb dX3_copyFrom_32 rfl (lv_at hl 0 rfl) ?_
  refine lv_aload_n hx hb dX3_copyFrom_33 rfl (lv_at hl 1 rfl) ?_
  refine g3 hx hb hts hown hK hP 12 rfl 4 (by decide) flX3_62 (fun _ h => h) (v := .int (M 1 4)) rfl dX3_copyFrom_34 ?_
  refine f3 hx hb hts hown hK hP hD hS 0 rfl 4 (by decide) flX3_62 (fun _ h => h) rfl rfl rfl (Nat.le_of_ble_eq_true rfl) dX3_copyFrom_37 (fun H locs hP hD hS => ?_)
  have hP : va_P D vwCl (stW cI a (up2 (up2 (up2 (up2 (up2 N 1 0 (M 1 0)) 1 1 (M 1 1)) 1 2 (M 1 2)) 1 3 (M 1 3)) 1 4 (M 1 4)) v ++ (stW cI b M u)) H := hP
  have hD : va_D (va_A (stW cI a N v ++ (stW cI b M u)) s.heap.size) (stW cI a (up2 (up2 (up2 (up2 (up2 N 1 0 (M 1 0)) 1 1 (M 1 1)) 1 2 (M 1 2)) 1 3 (M 1 3)) 1 4 (M 1 4)) v ++ (stW cI b M u)) := hD
  refine lv_aload_n hx hb dX3_copyFrom_40 rfl (lv_at hl 0 rfl) ?_
  refine lv_aload_n hx hb dX3_copyFrom_41 rfl (lv_at hl 1 rfl) ?_
  refine g3 hx hb hts hown hK hP 12 rfl 5 (by decide) flX3_65 (fun _ h => h) (v := .int (M 1 5)) rfl dX3_copyFrom_42 ?_
  refine f3 hx hb hts hown hK hP hD hS 0 rfl 5 (by decide) flX3_65 (fun _ h => h) rfl rfl rfl (Nat.le_of_ble_eq_true rfl) dX3_copyFrom_45 (fun H locs hP hD hS => ?_)
  have hP : va_P D vwCl (stW cI a (up2 (up2 (up2 (up2 (up2 (up2 N 1 0 (M 1 0)) 1 1 (M 1 1)) 1 2 (M 1 2)) 1 3 (M 1 3)) 1 4 (M 1 4)) 1 5 (M 1 5)) v ++ (stW cI b M u)) H := hP
  have hD : va_D (va_A (stW cI a N v ++ (stW cI b M u)) s.heap.size) (stW cI a (up2 (up2 (up2 (up2 (up2 (up2 N 1 0 (M 1 0)) 1 1 (M 1 1)) 1 2 (M 1 2)) 1 3 (M 1 3)) 1 4 (M 1 4)) 1 5 (M 1 5)) v ++ (stW cI b M u)) := hD
  refine lv_aload_n hx hb dX3_copyFrom_48 rfl (lv_at hl 1 rfl) ?_
  refine g3 hx hb hts hown hK hP 12 rfl 6 (by decide) flX3_18 (fun _ h => h) (v := .ref (b 1)) rfl dX3_copyFrom_49 ?_
  refine lv_iconst (v := 0) hx hb dX3_copyFrom_52 (by decide) ?_
  refine lv_aload_n hx hb dX3_copyFrom_53 rfl (lv_at hl 0 rfl) ?_
  refine g3 hx hb hts hown hK hP 0 rfl 6 (by decide) flX3_18 (fun _ h => h) (v := .ref (a 1)) rfl dX3_copyFrom_54 ?_
  refine lv_iconst (v := 0) hx hb dX3_copyFrom_57 (by decide) ?_
  refine lv_iconst (v := 3) hx hb dX3_copyFrom_58 (by decide) ?_
  refine k_cpy hx hb (hml.trans hl.1.symm) hown hts wd_methodLink_RX3_68_arraycopyName hK hP hD hS 13 1 3 rfl rfl rfl rfl (by decide) (Nat.le_of_ble_eq_true rfl) (Nat.le_of_ble_eq_true rfl) dX3_copyFrom_59 (fun H locs hP hD hS => ?_)
  have hP : va_P D vwCl (stW cI a (upR (up2 (up2 (up2 (up2 (up2 (up2 N 1 0 (M 1 0)) 1 1 (M 1 1)) 1 2 (M 1 2)) 1 3 (M 1 3)) 1 4 (M 1 4)) 1 5 (M 1 5)) 2 (M 2)) v ++ (stW cI b M u)) H := hP
  have hD : va_D (va_A (stW cI a N v ++ (stW cI b M u)) s.heap.size) (stW cI a (upR (up2 (up2 (up2 (up2 (up2 (up2 N 1 0 (M 1 0)) 1 1 (M 1 1)) 1 2 (M 1 2)) 1 3 (M 1 3)) 1 4 (M 1 4)) 1 5 (M 1 5)) 2 (M 2)) v ++ (stW cI b M u)) := hD
  refine lv_aload_n hx hb dX3_copyFrom_62 rfl (lv_at hl 1 rfl) ?_
  refine g3 hx hb hts hown hK hP 12 rfl 7 (by decide) flX3_22 (fun _ h => h) (v := .ref (b 2)) rfl dX3_copyFrom_63 ?_
  refine lv_iconst (v := 0) hx hb dX3_copyFrom_66 (by decide) ?_
  refine lv_aload_n hx hb dX3_copyFrom_67 rfl (lv_at hl 0 rfl) ?_
  refine g3 hx hb hts hown hK hP 0 rfl 7 (by decide) flX3_22 (fun _ h => h) (v := .ref (a 2)) rfl dX3_copyFrom_68 ?_
  refine lv_iconst (v := 0) hx hb dX3_copyFrom_71 (by decide) ?_
  refine lv_iconst (v := 3) hx hb dX3_copyFrom_72 (by decide) ?_
  refine k_cpy hx hb (hml.trans hl.1.symm) hown hts wd_methodLink_RX3_68_arraycopyName hK hP hD hS 14 2 3 rfl rfl rfl rfl (by decide) (Nat.le_of_ble_eq_true rfl) (Nat.le_of_ble_eq_true rfl) dX3_copyFrom_73 (fun H locs hP hD hS => ?_)
  have hP : va_P D vwCl (stW cI a (upR (upR (up2 (up2 (up2 (up2 (up2 (up2 N 1 0 (M 1 0)) 1 1 (M 1 1)) 1 2 (M 1 2)) 1 3 (M 1 3)) 1 4 (M 1 4)) 1 5 (M 1 5)) 2 (M 2)) 0 (M 0)) v ++ (stW cI b M u)) H := hP
  have hD : va_D (va_A (stW cI a N v ++ (stW cI b M u)) s.heap.size) (stW cI a (upR (upR (up2 (up2 (up2 (up2 (up2 (up2 N 1 0 (M 1 0)) 1 1 (M 1 1)) 1 2 (M 1 2)) 1 3 (M 1 3)) 1 4 (M 1 4)) 1 5 (M 1 5)) 2 (M 2)) 0 (M 0)) v ++ (stW cI b M u)) := hD
  refine lv_aload_n hx hb dX3_copyFrom_76 rfl (lv_at hl 1 rfl) ?_
  refine g3 hx hb hts hown hK hP 12 rfl 8 (by decide) flX3_25 (fun _ h => h) (v := .ref (b 3)) rfl dX3_copyFrom_77 ?_
  refine lv_iconst (v := 0) hx hb dX3_copyFrom_80 (by decide) ?_
  refine lv_aload_n hx hb dX3_copyFrom_81 rfl (lv_at hl 0 rfl) ?_
  refine g3 hx hb hts hown hK hP 0 rfl 8 (by decide) flX3_25 (fun _ h => h) (v := .ref (a 3)) rfl dX3_copyFrom_82 ?_
  refine lv_iconst (v := 0) hx hb dX3_copyFrom_85 (by decide) ?_
  refine lv_bipush (v := 14) hx hb dX3_copyFrom_86 (by decide) ?_
  refine k_cpy hx hb (hml.trans hl.1.symm) hown hts wd_methodLink_RX3_68_arraycopyName hK hP hD hS 15 3 14 rfl rfl rfl rfl (by decide) (Nat.le_of_ble_eq_true rfl) (Nat.le_of_ble_eq_true rfl) dX3_copyFrom_88 (fun H locs hP hD hS => ?_)
  have hP : va_P D vwCl (stW cI a (upR (upR (upR (up2 (up2 (up2 (up2 (up2 (up2 N 1 0 (M 1 0)) 1 1 (M 1 1)) 1 2 (M 1 2)) 1 3 (M 1 3)) 1 4 (M 1 4)) 1 5 (M 1 5)) 2 (M 2)) 0 (M 0)) 3 (M 3)) v ++ (stW cI b M u)) H := hP
  have hD : va_D (va_A (stW cI a N v ++ (stW cI b M u)) s.heap.size) (stW cI a (upR (upR (upR (up2 (up2 (up2 (up2 (up2 (up2 N 1 0 (M 1 0)) 1 1 (M 1 1)) 1 2 (M 1 2)) 1 3 (M 1 3)) 1 4 (M 1 4)) 1 5 (M 1 5)) 2 (M 2)) 0 (M 0)) 3 (M 3)) v ++ (stW cI b M u)) := hD
  refine lv_aload_n hx hb dX3_copyFrom_91 rfl (lv_at hl 1 rfl) ?_
  refine g3 hx hb hts hown hK hP 12 rfl 9 (by decide) flX3_28 (fun _ h => h) (v := .ref (b 4)) rfl dX3_copyFrom_92 ?_
  refine lv_iconst (v := 0) hx hb dX3_copyFrom_95 (by decide) ?_
  refine lv_aload_n hx hb dX3_copyFrom_96 rfl (lv_at hl 0 rfl) ?_
  refine g3 hx hb hts hown hK hP 0 rfl 9 (by decide) flX3_28 (fun _ h => h) (v := .ref (a 4)) rfl dX3_copyFrom_97 ?_
  refine lv_iconst (v := 0) hx hb dX3_copyFrom_100 (by decide) ?_
  refine lv_bipush (v := 14) hx hb dX3_copyFrom_101 (by decide) ?_
  refine k_cpy hx hb (hml.trans hl.1.symm) hown hts wd_methodLink_RX3_68_arraycopyName hK hP hD hS 16 4 14 rfl rfl rfl rfl (by decide) (Nat.le_of_ble_eq_true rfl) (Nat.le_of_ble_eq_true rfl) dX3_copyFrom_103 (fun H locs hP hD hS => ?_)
  have hP : va_P D vwCl (stW cI a (upR (upR (upR (upR (up2 (up2 (up2 (up2 (up2 (up2 N 1 0 (M 1 0)) 1 1 (M 1 1)) 1 2 (M 1 2)) 1 3 (M 1 3)) 1 4 (M 1 4)) 1 5 (M 1 5)) 2 (M 2)) 0 (M 0)) 3 (M 3)) 4 (M 4)) v ++ (stW cI b M u)) H := hP
  have hD : va_D (va_A (stW cI a N v ++ (stW cI b M u)) s.heap.size) (stW cI a (upR (upR (upR (upR (up2 (up2 (up2 (up2 (up2 (up2 N 1 0 (M 1 0)) 1 1 (M 1 1)) 1 2 (M 1 2)) 1 3 (M 1 3)) 1 4 (M 1 4)) 1 5 (M 1 5)) 2 (M 2)) 0 (M 0)) 3 (M 3)) 4 (M 4)) v ++ (stW cI b M u)) := hD
  refine lv_aload_n hx hb dX3_copyFrom_106 rfl (lv_at hl 1 rfl) ?_
  refine g3 hx hb hts hown hK hP 12 rfl 10 (by decide) flX3_31 (fun _ h => h) (v := .ref (b 5)) rfl dX3_copyFrom_107 ?_
  refine lv_iconst (v := 0) hx hb dX3_copyFrom_110 (by decide) ?_
  refine lv_aload_n hx hb dX3_copyFrom_111 rfl (lv_at hl 0 rfl) ?_
  refine g3 hx hb hts hown hK hP 0 rfl 10 (by decide) flX3_31 (fun _ h => h) (v := .ref (a 5)) rfl dX3_copyFrom_112 ?_
  refine lv_iconst (v := 0) hx hb dX3_copyFrom_115 (by decide) ?_
  refine lv_bipush (v := 14) hx hb dX3_copyFrom_116 (by decide) ?_
  refine k_cpy hx hb (hml.trans hl.1.symm) hown hts wd_methodLink_RX3_68_arraycopyName hK hP hD hS 17 5 14 rfl rfl rfl rfl (by decide) (Nat.le_of_ble_eq_true rfl) (Nat.le_of_ble_eq_true rfl) dX3_copyFrom_118 (fun H locs hP hD hS => ?_)
  have hP : va_P D vwCl (stW cI a (upR (upR (upR (upR (upR (up2 (up2 (up2 (up2 (up2 (up2 N 1 0 (M 1 0)) 1 1 (M 1 1)) 1 2 (M 1 2)) 1 3 (M 1 3)) 1 4 (M 1 4)) 1 5 (M 1 5)) 2 (M 2)) 0 (M 0)) 3 (M 3)) 4 (M 4)) 5 (M 5)) v ++ (stW cI b M u)) H := hP
  have hD : va_D (va_A (stW cI a N v ++ (stW cI b M u)) s.heap.size) (stW cI a (upR (upR (upR (upR (upR (up2 (up2 (up2 (up2 (up2 (up2 N 1 0 (M 1 0)) 1 1 (M 1 1)) 1 2 (M 1 2)) 1 3 (M 1 3)) 1 4 (M 1 4)) 1 5 (M 1 5)) 2 (M 2)) 0 (M 0)) 3 (M 3)) 4 (M 4)) 5 (M 5)) v ++ (stW cI b M u)) := hD
  refine lv_aload_n hx hb dX3_copyFrom_121 rfl (lv_at hl 1 rfl) ?_
  refine g3 hx hb hts hown hK hP 12 rfl 11 (by decide) flX3_34 (fun _ h => h) (v := .ref (b 6)) rfl dX3_copyFrom_122 ?_
  refine lv_iconst (v := 0) hx hb dX3_copyFrom_125 (by decide) ?_
  refine lv_aload_n hx hb dX3_copyFrom_126 rfl (lv_at hl 0 rfl) ?_
  refine g3 hx hb hts hown hK hP 0 rfl 11 (by decide) flX3_34 (fun _ h => h) (v := .ref (a 6)) rfl dX3_copyFrom_127 ?_
  refine lv_iconst (v := 0) hx hb dX3_copyFrom_130 (by decide) ?_
  refine lv_bipush (v := 14) hx hb dX3_copyFrom_131 (by decide) ?_
  refine k_cpy hx hb (hml.trans hl.1.symm) hown hts wd_methodLink_RX3_68_arraycopyName hK hP hD hS 18 6 14 rfl rfl rfl rfl (by decide) (Nat.le_of_ble_eq_true rfl) (Nat.le_of_ble_eq_true rfl) dX3_copyFrom_133 (fun H locs hP hD hS => ?_)
  have hP : va_P D vwCl (stW cI a (upR (upR (upR (upR (upR (upR (up2 (up2 (up2 (up2 (up2 (up2 N 1 0 (M 1 0)) 1 1 (M 1 1)) 1 2 (M 1 2)) 1 3 (M 1 3)) 1 4 (M 1 4)) 1 5 (M 1 5)) 2 (M 2)) 0 (M 0)) 3 (M 3)) 4 (M 4)) 5 (M 5)) 6 (M 6)) v ++ (stW cI b M u)) H := hP
  have hD : va_D (va_A (stW cI a N v ++ (stW cI b M u)) s.heap.size) (stW cI a (upR (upR (upR (upR (upR (upR (up2 (up2 (up2 (up2 (up2 (up2 N 1 0 (M 1 0)) 1 1 (M 1 1)) 1 2 (M 1 2)) 1 3 (M 1 3)) 1 4 (M 1 4)) 1 5 (M 1 5)) 2 (M 2)) 0 (M 0)) 3 (M 3)) 4 (M 4)) 5 (M 5)) 6 (M 6)) v ++ (stW cI b M u)) := hD
  refine lv_aload_n hx hb dX3_copyFrom_136 rfl (lv_at hl 1 rfl) ?_
  refine g3 hx hb hts hown hK hP 12 rfl 12 (by decide) flX3_37 (fun _ h => h) (v := .ref (b 7)) rfl dX3_copyFrom_137 ?_
  refine lv_iconst (v := 0) hx hb dX3_copyFrom_140 (by decide) ?_
  refine lv_aload_n hx hb dX3_copyFrom_141 rfl (lv_at hl 0 rfl) ?_
  refine g3 hx hb hts hown hK hP 0 rfl 12 (by decide) flX3_37 (fun _ h => h) (v := .ref (a 7)) rfl dX3_copyFrom_142 ?_
  refine lv_iconst (v := 0) hx hb dX3_copyFrom_145 (by decide) ?_
  refine lv_bipush (v := 14) hx hb dX3_copyFrom_146 (by decide) ?_
  refine k_cpy hx hb (hml.trans hl.1.symm) hown hts wd_methodLink_RX3_68_arraycopyName hK hP hD hS 19 7 14 rfl rfl rfl rfl (by decide) (Nat.le_of_ble_eq_true rfl) (Nat.le_of_ble_eq_true rfl) dX3_copyFrom_148 (fun H locs hP hD hS => ?_)
  have hP : va_P D vwCl (stW cI a (upR (upR (upR (upR (upR (upR (upR (up2 (up2 (up2 (up2 (up2 (up2 N 1 0 (M 1 0)) 1 1 (M 1 1)) 1 2 (M 1 2)) 1 3 (M 1 3)) 1 4 (M 1 4)) 1 5 (M 1 5)) 2 (M 2)) 0 (M 0)) 3 (M 3)) 4 (M 4)) 5 (M 5)) 6 (M 6)) 7 (M 7)) v ++ (stW cI b M u)) H := hP
  have hD : va_D (va_A (stW cI a N v ++ (stW cI b M u)) s.heap.size) (stW cI a (upR (upR (upR (upR (upR (upR (upR (up2 (up2 (up2 (up2 (up2 (up2 N 1 0 (M 1 0)) 1 1 (M 1 1)) 1 2 (M 1 2)) 1 3 (M 1 3)) 1 4 (M 1 4)) 1 5 (M 1 5)) 2 (M 2)) 0 (M 0)) 3 (M 3)) 4 (M 4)) 5 (M 5)) 6 (M 6)) 7 (M 7)) v ++ (stW cI b M u)) := hD
  refine lv_aload_n hx hb dX3_copyFrom_151 rfl (lv_at hl 1 rfl) ?_
  refine g3 hx hb hts hown hK hP 12 rfl 13 (by decide) flX3_40 (fun _ h => h) (v := .ref (b 8)) rfl dX3_copyFrom_152 ?_
  refine lv_iconst (v := 0) hx hb dX3_copyFrom_155 (by decide) ?_
  refine lv_aload_n hx hb dX3_copyFrom_156 rfl (lv_at hl 0 rfl) ?_
  refine g3 hx hb hts hown hK hP 0 rfl 13 (by decide) flX3_40 (fun _ h => h) (v := .ref (a 8)) rfl dX3_copyFrom_157 ?_
  refine lv_iconst (v := 0) hx hb dX3_copyFrom_160 (by decide) ?_
  refine lv_bipush (v := 14) hx hb dX3_copyFrom_161 (by decide) ?_
  refine k_cpy hx hb (hml.trans hl.1.symm) hown hts wd_methodLink_RX3_68_arraycopyName hK hP hD hS 20 8 14 rfl rfl rfl rfl (by decide) (Nat.le_of_ble_eq_true rfl) (Nat.le_of_ble_eq_true rfl) dX3_copyFrom_163 (fun H locs hP hD hS => ?_)
  have hP : va_P D vwCl (stW cI a (upR (upR (upR (upR (upR (upR (upR (upR (up2 (up2 (up2 (up2 (up2 (up2 N 1 0 (M 1 0)) 1 1 (M 1 1)) 1 2 (M 1 2)) 1 3 (M 1 3)) 1 4 (M 1 4)) 1 5 (M 1 5)) 2 (M 2)) 0 (M 0)) 3 (M 3)) 4 (M 4)) 5 (M 5)) 6 (M 6)) 7 (M 7)) 8 (M 8)) v ++ (stW cI b M u)) H := hP
  have hD : va_D (va_A (stW cI a N v ++ (stW cI b M u)) s.heap.size) (stW cI a (upR (upR (upR (upR (upR (upR (upR (upR (up2 (up2 (up2 (up2 (up2 (up2 N 1 0 (M 1 0)) 1 1 (M 1 1)) 1 2 (M 1 2)) 1 3 (M 1 3)) 1 4 (M 1 4)) 1 5 (M 1 5)) 2 (M 2)) 0 (M 0)) 3 (M 3)) 4 (M 4)) 5 (M 5)) 6 (M 6)) 7 (M 7)) 8 (M 8)) v ++ (stW cI b M u)) := hD
  refine lv_aload_n hx hb dX3_copyFrom_166 rfl (lv_at hl 1 rfl) ?_
  refine g3 hx hb hts hown hK hP 12 rfl 14 (by decide) flX3_43 (fun _ h => h) (v := .ref (b 9)) rfl dX3_copyFrom_167 ?_
  refine lv_iconst (v := 0) hx hb dX3_copyFrom_170 (by decide) ?_
  refine lv_aload_n hx hb dX3_copyFrom_171 rfl (lv_at hl 0 rfl) ?_
  refine g3 hx hb hts hown hK hP 0 rfl 14 (by decide) flX3_43 (fun _ h => h) (v := .ref (a 9)) rfl dX3_copyFrom_172 ?_
  refine lv_iconst (v := 0) hx hb dX3_copyFrom_175 (by decide) ?_
  refine lv_bipush (v := 14) hx hb dX3_copyFrom_176 (by decide) ?_
  refine k_cpy hx hb (hml.trans hl.1.symm) hown hts wd_methodLink_RX3_68_arraycopyName hK hP hD hS 21 9 14 rfl rfl rfl rfl (by decide) (Nat.le_of_ble_eq_true rfl) (Nat.le_of_ble_eq_true rfl) dX3_copyFrom_178 (fun H locs hP hD hS => ?_)
  have hP : va_P D vwCl (stW cI a (upR (upR (upR (upR (upR (upR (upR (upR (upR (up2 (up2 (up2 (up2 (up2 (up2 N 1 0 (M 1 0)) 1 1 (M 1 1)) 1 2 (M 1 2)) 1 3 (M 1 3)) 1 4 (M 1 4)) 1 5 (M 1 5)) 2 (M 2)) 0 (M 0)) 3 (M 3)) 4 (M 4)) 5 (M 5)) 6 (M 6)) 7 (M 7)) 8 (M 8)) 9 (M 9)) v ++ (stW cI b M u)) H := hP
  have hD : va_D (va_A (stW cI a N v ++ (stW cI b M u)) s.heap.size) (stW cI a (upR (upR (upR (upR (upR (upR (upR (upR (upR (up2 (up2 (up2 (up2 (up2 (up2 N 1 0 (M 1 0)) 1 1 (M 1 1)) 1 2 (M 1 2)) 1 3 (M 1 3)) 1 4 (M 1 4)) 1 5 (M 1 5)) 2 (M 2)) 0 (M 0)) 3 (M 3)) 4 (M 4)) 5 (M 5)) 6 (M 6)) 7 (M 7)) 8 (M 8)) 9 (M 9)) v ++ (stW cI b M u)) := hD
  refine lv_aload_n hx hb dX3_copyFrom_181 rfl (lv_at hl 1 rfl) ?_
  refine g3 hx hb hts hown hK hP 12 rfl 15 (by decide) flX3_46 (fun _ h => h) (v := .ref (b 10)) rfl dX3_copyFrom_182 ?_
  refine lv_iconst (v := 0) hx hb dX3_copyFrom_185 (by decide) ?_
  refine lv_aload_n hx hb dX3_copyFrom_186 rfl (lv_at hl 0 rfl) ?_
  refine g3 hx hb hts hown hK hP 0 rfl 15 (by decide) flX3_46 (fun _ h => h) (v := .ref (a 10)) rfl dX3_copyFrom_187 ?_
  refine lv_iconst (v := 0) hx hb dX3_copyFrom_190 (by decide) ?_
  refine lv_bipush (v := 14) hx hb dX3_copyFrom_191 (by decide) ?_
  refine k_cpy hx hb (hml.trans hl.1.symm) hown hts wd_methodLink_RX3_68_arraycopyName hK hP hD hS 22 10 14 rfl rfl rfl rfl (by decide) (Nat.le_of_ble_eq_true rfl) (Nat.le_of_ble_eq_true rfl) dX3_copyFrom_193 (fun H locs hP hD hS => ?_)
  have hP : va_P D vwCl (stW cI a (upR (upR (upR (upR (upR (upR (upR (upR (upR (upR (up2 (up2 (up2 (up2 (up2 (up2 N 1 0 (M 1 0)) 1 1 (M 1 1)) 1 2 (M 1 2)) 1 3 (M 1 3)) 1 4 (M 1 4)) 1 5 (M 1 5)) 2 (M 2)) 0 (M 0)) 3 (M 3)) 4 (M 4)) 5 (M 5)) 6 (M 6)) 7 (M 7)) 8 (M 8)) 9 (M 9)) 10 (M 10)) v ++ (stW cI b M u)) H := hP
  have hD : va_D (va_A (stW cI a N v ++ (stW cI b M u)) s.heap.size) (stW cI a (upR (upR (upR (upR (upR (upR (upR (upR (upR (upR (up2 (up2 (up2 (up2 (up2 (up2 N 1 0 (M 1 0)) 1 1 (M 1 1)) 1 2 (M 1 2)) 1 3 (M 1 3)) 1 4 (M 1 4)) 1 5 (M 1 5)) 2 (M 2)) 0 (M 0)) 3 (M 3)) 4 (M 4)) 5 (M 5)) 6 (M 6)) 7 (M 7)) 8 (M 8)) 9 (M 9)) 10 (M 10)) v ++ (stW cI b M u)) := hD
  have hP : va_P D vwCl (stW cI a M v ++ (stW cI b M u)) H := hP
  have hD : va_D (va_A (stW cI a N v ++ (stW cI b M u)) s.heap.size) (stW cI a M v ++ (stW cI b M u)) := hD
  exact k_eMv hx hb hr hlocks hP hS dX3_copyFrom_196
