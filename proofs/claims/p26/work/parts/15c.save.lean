abbrev rmX4_saveState : Room := { frames := 2, cells := 0, slots := 0, locals := 39 }
set_option maxHeartbeats 4000000 in
set_option maxRecDepth 100000 in
theorem c_X4_saveState (l : Launch) (D : va_G) (cI cS cL : ClassId) (x a : Nat → Nat) (r : Nat → Nat → Nat) (qi kc z : Nat) (T : Nat → Int32) (N : NN) (v : Nat → Int32) (R : Nat → NN) (u : Nat → Nat → Int32) (sz : Nat) (hq : qi < 6) (hkc : kc ≤ 6) : Met l yX4_saveState (wy_ yX4_saveState cX4_saveState 2 none) rmX4_saveState (kPc D (kTy cI cS cL) (xH cS x a r (nI qi) (nI kc) ++ (txW cI x (nI z) T ++ (stW cI a N v ++ (rgW cI r R u)))) sz [.ref (x 0)]) (kMv D (xH cS x a r (nI qi) (nI kc) ++ (txW cI x (nI z) T ++ (stW cI a N v ++ (rgW cI r R u)))) (xH cS x a r (nI (p_nx qi)) (nI (m_kc kc)) ++ (txW cI x (nI z) T ++ (stW cI a N v ++ (rgW cI r (updN R (p_nx qi) N) u)))) sz) 0 0 (va_A (xH cS x a r (nI qi) (nI kc) ++ (txW cI x (nI z) T ++ (stW cI a N v ++ (rgW cI r R u)))) sz) := by
  refine k_ofW (by decide) (Nat.le_of_ble_eq_true rfl) ?_
  intro p e s m args below meth c hx hb hr hml hts hown hlocks hnm hsz hP hK hD hE ls hl
  subst hsz
  have hA : ∀ q : Nat, s.heap.size ≤ q → (va_A (xH cS x a r (nI qi) (nI kc) ++ (txW cI x (nI z) T ++ (stW cI a N v ++ (rgW cI r R u)))) s.heap.size) q := fun q h => Or.inr h
  have hS : va_S (va_A (xH cS x a r (nI qi) (nI kc) ++ (txW cI x (nI z) T ++ (stW cI a N v ++ (rgW cI r R u)))) s.heap.size) s.heap s.heap [] := va_S.rf
  have hl : lv_has ls 2 [(0, .ref (x 0))] := hl
  refine lv_aload_n hx hb dX4_saveState_0 rfl (lv_at hl 0 rfl) ?_
  refine lv_aload_n hx hb dX4_saveState_1 rfl (lv_at hl 0 rfl) ?_
  refine g4 hx hb hts hown hK hP 0 rfl 2 (by decide) flX4_20 (fun _ h => h) (v := .int (nI qi)) rfl dX4_saveState_2 ?_
  refine lv_iconst (v := 5) hx hb dX4_saveState_5 (by decide) ?_
  refine lv_icmp_lt (tgt := 13) hx hb dX4_saveState_6 (by decide) (fun c1 => ?_) (fun c1 => ?_)
  · have c1' := Int32.not_le.mpr c1
    have hq5 : qi < 5 := k_more (n := 5) (by omega) (by omega) c1'
    refine lv_aload_n hx hb dX4_saveState_13 rfl (lv_at hl 0 rfl) ?_
    refine g4 hx hb hts hown hK hP 0 rfl 2 (by decide) flX4_20 (fun _ h => h) (v := .int (nI qi)) rfl dX4_saveState_14 ?_
    refine lv_iconst (v := 1) hx hb dX4_saveState_17 (by decide) ?_
    refine lv_iadd hx hb dX4_saveState_18 (lv_topi (fun x2 e2 => ?_))
    have q2 : x2 = nI (p_nx qi) := by rw [e2]; rw [p_nx_s hq5]; exact nI_1 qi
    subst q2
    refine f4 hx hb hts hown hK hP hD hS 0 rfl 2 (by decide) flX4_20 (fun _ h => h) rfl rfl rfl (Nat.le_of_ble_eq_true rfl) dX4_saveState_19 (fun H locs hP hD hS => ?_)
    have hP : va_P D vwCl (xH cS x a r (nI (p_nx qi)) (nI kc) ++ (txW cI x (nI z) T ++ (stW cI a N v ++ (rgW cI r R u)))) H := hP
    have hD : va_D (va_A (xH cS x a r (nI qi) (nI kc) ++ (txW cI x (nI z) T ++ (stW cI a N v ++ (rgW cI r R u)))) s.heap.size) (xH cS x a r (nI (p_nx qi)) (nI kc) ++ (txW cI x (nI z) T ++ (stW cI a N v ++ (rgW cI r R u)))) := hD
    refine lv_aload_n hx hb dX4_saveState_22 rfl (lv_at hl 0 rfl) ?_
    refine g4 hx hb hts hown hK hP 0 rfl 1 (by decide) flX4_16 (fun _ h => h) (v := .ref (x 1)) rfl dX4_saveState_23 ?_
    refine lv_aload_n hx hb dX4_saveState_26 rfl (lv_at hl 0 rfl) ?_
    refine g4 hx hb hts hown hK hP 0 rfl 2 (by decide) flX4_20 (fun _ h => h) (v := .int (nI (p_nx qi))) rfl dX4_saveState_27 ?_
    refine k_aldr (f := fun j => r j 0) (k := p_nx qi) hx hb hK hP 1 1 rfl rfl rfl (p_nx_lt hq) (by decide) dX4_saveState_30 ?_
    refine lv_astore_n (lv' := [(1, .ref (r (p_nx qi) 0)), (0, .ref (x 0))]) hx hb dX4_saveState_31 rfl hl (by decide) rfl (fun ls hl => ?_)
    refine lv_aload_n hx hb dX4_saveState_32 rfl (lv_at hl 0 rfl) ?_
    refine lv_ifnull hx hb dX4_saveState_33 ?_
    refine lv_aload_n hx hb dX4_saveState_36 rfl (lv_at hl 0 rfl) ?_
    refine lv_aload_n hx hb dX4_saveState_37 rfl (lv_at hl 1 rfl) ?_
    refine g4 hx hb hts hown hK hP 0 rfl 0 (by decide) flX4_10 (fun _ h => h) (v := .ref (a 0)) rfl dX4_saveState_38 ?_
    refine k_cpSave (rest := []) (j := p_nx qi) (wA := xH cS x a r (nI (p_nx qi)) (nI kc)) (wB := txW cI x (nI z) T) (p_nx_lt hq) ⟨hx, hb, hml, hown, hts⟩ ⟨(Nat.le_of_ble_eq_true rfl), (Nat.le_of_ble_eq_true rfl)⟩ hK hE hP hD hS hA hl.1 (Nat.le_of_ble_eq_true rfl) dX4_saveState_41 ⟨Nat.zero_le _, Nat.zero_le _⟩ (fun H locs hzz hP hD hS => ?_)
    have hP : va_P D vwCl (xH cS x a r (nI (p_nx qi)) (nI kc) ++ (txW cI x (nI z) T ++ (stW cI a N v ++ (rgW cI r (updN R (p_nx qi) N) u)))) H := hP
    have hD : va_D (va_A (xH cS x a r (nI qi) (nI kc) ++ (txW cI x (nI z) T ++ (stW cI a N v ++ (rgW cI r R u)))) s.heap.size) (xH cS x a r (nI (p_nx qi)) (nI kc) ++ (txW cI x (nI z) T ++ (stW cI a N v ++ (rgW cI r (updN R (p_nx qi) N) u)))) := hD
    refine lv_aload_n hx hb dX4_saveState_44 rfl (lv_at hl 1 rfl) ?_
    refine g4 hx hb hts hown hK hP 0 rfl 3 (by decide) flX4_24 (fun _ h => h) (v := .int (nI kc)) rfl dX4_saveState_45 ?_
    refine lv_bipush (v := 6) hx hb dX4_saveState_48 (by decide) ?_
    refine lv_icmp_ge (tgt := 63) hx hb dX4_saveState_50 (by decide) (fun c3 => ?_) (fun c3 => ?_)
    · have c3' := Int32.not_lt.mpr c3
      have hk6 : kc = 6 := k_exit (n := 6) (by omega) hkc c3
      have w4 : nI kc = nI (m_kc kc) := by simp [m_kc, hk6]
      have hP : va_P D vwCl (xH cS x a r (nI (p_nx qi)) (nI (m_kc kc)) ++ (txW cI x (nI z) T ++ (stW cI a N v ++ (rgW cI r (updN R (p_nx qi) N) u)))) H := (congrArg (fun zz => va_P D vwCl (xH cS x a r (nI (p_nx qi)) zz ++ (txW cI x (nI z) T ++ (stW cI a N v ++ (rgW cI r (updN R (p_nx qi) N) u)))) H) w4).mp hP
      have hD : va_D (va_A (xH cS x a r (nI qi) (nI kc) ++ (txW cI x (nI z) T ++ (stW cI a N v ++ (rgW cI r R u)))) s.heap.size) (xH cS x a r (nI (p_nx qi)) (nI (m_kc kc)) ++ (txW cI x (nI z) T ++ (stW cI a N v ++ (rgW cI r (updN R (p_nx qi) N) u)))) := (congrArg (fun zz => va_D (va_A (xH cS x a r (nI qi) (nI kc) ++ (txW cI x (nI z) T ++ (stW cI a N v ++ (rgW cI r R u)))) s.heap.size) (xH cS x a r (nI (p_nx qi)) zz ++ (txW cI x (nI z) T ++ (stW cI a N v ++ (rgW cI r (updN R (p_nx qi) N) u))))) w4).mp hD
      have hP : va_P D vwCl (xH cS x a r (nI (p_nx qi)) (nI (m_kc kc)) ++ (txW cI x (nI z) T ++ (stW cI a N v ++ (rgW cI r (updN R (p_nx qi) N) u)))) H := hP
      have hD : va_D (va_A (xH cS x a r (nI qi) (nI kc) ++ (txW cI x (nI z) T ++ (stW cI a N v ++ (rgW cI r R u)))) s.heap.size) (xH cS x a r (nI (p_nx qi)) (nI (m_kc kc)) ++ (txW cI x (nI z) T ++ (stW cI a N v ++ (rgW cI r (updN R (p_nx qi) N) u)))) := hD
      exact k_eMv hx hb hr hlocks hP hS dX4_saveState_63
    · have c3' := Int32.not_le.mp c3
      have hk5 : kc < 6 := k_more (n := 6) (by omega) hkc c3
      have hk5n : ¬ kc = 6 := fun h => absurd hk5 (by omega)
      refine lv_aload_n hx hb dX4_saveState_53 rfl (lv_at hl 1 rfl) ?_
      refine lv_dup hx hb dX4_saveState_54 rfl ?_
      refine g4 hx hb hts hown hK hP 0 rfl 3 (by decide) flX4_24 (fun _ h => h) (v := .int (nI kc)) rfl dX4_saveState_55 ?_
      refine lv_iconst (v := 1) hx hb dX4_saveState_58 (by decide) ?_
      refine lv_iadd hx hb dX4_saveState_59 (lv_topi (fun x5 e5 => ?_))
      have q5 : x5 = nI (kc + 1) := by rw [e5]; exact nI_1 kc
      subst q5
      refine f4 hx hb hts hown hK hP hD hS 0 rfl 3 (by decide) flX4_24 (fun _ h => h) rfl rfl rfl (Nat.le_of_ble_eq_true rfl) dX4_saveState_60 (fun H locs hP hD hS => ?_)
      have hP : va_P D vwCl (xH cS x a r (nI (p_nx qi)) (nI (kc + 1)) ++ (txW cI x (nI z) T ++ (stW cI a N v ++ (rgW cI r (updN R (p_nx qi) N) u)))) H := hP
      have hD : va_D (va_A (xH cS x a r (nI qi) (nI kc) ++ (txW cI x (nI z) T ++ (stW cI a N v ++ (rgW cI r R u)))) s.heap.size) (xH cS x a r (nI (p_nx qi)) (nI (kc + 1)) ++ (txW cI x (nI z) T ++ (stW cI a N v ++ (rgW cI r (updN R (p_nx qi) N) u)))) := hD
      have w6 : nI (kc + 1) = nI (m_kc kc) := by simp [m_kc, hk5n]
      have hP : va_P D vwCl (xH cS x a r (nI (p_nx qi)) (nI (m_kc kc)) ++ (txW cI x (nI z) T ++ (stW cI a N v ++ (rgW cI r (updN R (p_nx qi) N) u)))) H := (congrArg (fun zz => va_P D vwCl (xH cS x a r (nI (p_nx qi)) zz ++ (txW cI x (nI z) T ++ (stW cI a N v ++ (rgW cI r (updN R (p_nx qi) N) u)))) H) w6).mp hP
      have hD : va_D (va_A (xH cS x a r (nI qi) (nI kc) ++ (txW cI x (nI z) T ++ (stW cI a N v ++ (rgW cI r R u)))) s.heap.size) (xH cS x a r (nI (p_nx qi)) (nI (m_kc kc)) ++ (txW cI x (nI z) T ++ (stW cI a N v ++ (rgW cI r (updN R (p_nx qi) N) u)))) := (congrArg (fun zz => va_D (va_A (xH cS x a r (nI qi) (nI kc) ++ (txW cI x (nI z) T ++ (stW cI a N v ++ (rgW cI r R u)))) s.heap.size) (xH cS x a r (nI (p_nx qi)) zz ++ (txW cI x (nI z) T ++ (stW cI a N v ++ (rgW cI r (updN R (p_nx qi) N) u))))) w6).mp hD
      have hP : va_P D vwCl (xH cS x a r (nI (p_nx qi)) (nI (m_kc kc)) ++ (txW cI x (nI z) T ++ (stW cI a N v ++ (rgW cI r (updN R (p_nx qi) N) u)))) H := hP
      have hD : va_D (va_A (xH cS x a r (nI qi) (nI kc) ++ (txW cI x (nI z) T ++ (stW cI a N v ++ (rgW cI r R u)))) s.heap.size) (xH cS x a r (nI (p_nx qi)) (nI (m_kc kc)) ++ (txW cI x (nI z) T ++ (stW cI a N v ++ (rgW cI r (updN R (p_nx qi) N) u)))) := hD
      exact k_eMv hx hb hr hlocks hP hS dX4_saveState_63
  · have c1' := Int32.not_lt.mp c1
    have hq5 : qi = 5 := k_exit (n := 5) (by omega) (by omega) c1'
    refine lv_iconst (v := 0) hx hb dX4_saveState_9 (by decide) ?_
    refine lv_goto (tgt := 19) hx hb dX4_saveState_10 (by decide) ?_
    rw [show (0 : Int32) = nI (p_nx qi) from by rw [hq5]; rfl]
    refine f4 hx hb hts hown hK hP hD hS 0 rfl 2 (by decide) flX4_20 (fun _ h => h) rfl rfl rfl (Nat.le_of_ble_eq_true rfl) dX4_saveState_19 (fun H locs hP hD hS => ?_)
    have hP : va_P D vwCl (xH cS x a r (nI (p_nx qi)) (nI kc) ++ (txW cI x (nI z) T ++ (stW cI a N v ++ (rgW cI r R u)))) H := hP
    have hD : va_D (va_A (xH cS x a r (nI qi) (nI kc) ++ (txW cI x (nI z) T ++ (stW cI a N v ++ (rgW cI r R u)))) s.heap.size) (xH cS x a r (nI (p_nx qi)) (nI kc) ++ (txW cI x (nI z) T ++ (stW cI a N v ++ (rgW cI r R u)))) := hD
    refine lv_aload_n hx hb dX4_saveState_22 rfl (lv_at hl 0 rfl) ?_
    refine g4 hx hb hts hown hK hP 0 rfl 1 (by decide) flX4_16 (fun _ h => h) (v := .ref (x 1)) rfl dX4_saveState_23 ?_
    refine lv_aload_n hx hb dX4_saveState_26 rfl (lv_at hl 0 rfl) ?_
    refine g4 hx hb hts hown hK hP 0 rfl 2 (by decide) flX4_20 (fun _ h => h) (v := .int (nI (p_nx qi))) rfl dX4_saveState_27 ?_
    refine k_aldr (f := fun j => r j 0) (k := p_nx qi) hx hb hK hP 1 1 rfl rfl rfl (p_nx_lt hq) (by decide) dX4_saveState_30 ?_
    refine lv_astore_n (lv' := [(1, .ref (r (p_nx qi) 0)), (0, .ref (x 0))]) hx hb dX4_saveState_31 rfl hl (by decide) rfl (fun ls hl => ?_)
    refine lv_aload_n hx hb dX4_saveState_32 rfl (lv_at hl 0 rfl) ?_
    refine lv_ifnull hx hb dX4_saveState_33 ?_
    refine lv_aload_n hx hb dX4_saveState_36 rfl (lv_at hl 0 rfl) ?_
    refine lv_aload_n hx hb dX4_saveState_37 rfl (lv_at hl 1 rfl) ?_
    refine g4 hx hb hts hown hK hP 0 rfl 0 (by decide) flX4_10 (fun _ h => h) (v := .ref (a 0)) rfl dX4_saveState_38 ?_
    refine k_cpSave (rest := []) (j := p_nx qi) (wA := xH cS x a r (nI (p_nx qi)) (nI kc)) (wB := txW cI x (nI z) T) (p_nx_lt hq) ⟨hx, hb, hml, hown, hts⟩ ⟨(Nat.le_of_ble_eq_true rfl), (Nat.le_of_ble_eq_true rfl)⟩ hK hE hP hD hS hA hl.1 (Nat.le_of_ble_eq_true rfl) dX4_saveState_41 ⟨Nat.zero_le _, Nat.zero_le _⟩ (fun H locs hzz hP hD hS => ?_)
    have hP : va_P D vwCl (xH cS x a r (nI (p_nx qi)) (nI kc) ++ (txW cI x (nI z) T ++ (stW cI a N v ++ (rgW cI r (updN R (p_nx qi) N) u)))) H := hP
    have hD : va_D (va_A (xH cS x a r (nI qi) (nI kc) ++ (txW cI x (nI z) T ++ (stW cI a N v ++ (rgW cI r R u)))) s.heap.size) (xH cS x a r (nI (p_nx qi)) (nI kc) ++ (txW cI x (nI z) T ++ (stW cI a N v ++ (rgW cI r (updN R (p_nx qi) N) u)))) := hD
    refine lv_aload_n hx hb dX4_saveState_44 rfl (lv_at hl 1 rfl) ?_
    refine g4 hx hb hts hown hK hP 0 rfl 3 (by decide) flX4_24 (fun _ h => h) (v := .int (nI kc)) rfl dX4_saveState_45 ?_
    refine lv_bipush (v := 6) hx hb dX4_saveState_48 (by decide) ?_
    refine lv_icmp_ge (tgt := 63) hx hb dX4_saveState_50 (by decide) (fun c7 => ?_) (fun c7 => ?_)
    · have c7' := Int32.not_lt.mpr c7
      have hk6 : kc = 6 := k_exit (n := 6) (by omega) hkc c7
      have w8 : nI kc = nI (m_kc kc) := by simp [m_kc, hk6]
      have hP : va_P D vwCl (xH cS x a r (nI (p_nx qi)) (nI (m_kc kc)) ++ (txW cI x (nI z) T ++ (stW cI a N v ++ (rgW cI r (updN R (p_nx qi) N) u)))) H := (congrArg (fun zz => va_P D vwCl (xH cS x a r (nI (p_nx qi)) zz ++ (txW cI x (nI z) T ++ (stW cI a N v ++ (rgW cI r (updN R (p_nx qi) N) u)))) H) w8).mp hP
      have hD : va_D (va_A (xH cS x a r (nI qi) (nI kc) ++ (txW cI x (nI z) T ++ (stW cI a N v ++ (rgW cI r R u)))) s.heap.size) (xH cS x a r (nI (p_nx qi)) (nI (m_kc kc)) ++ (txW cI x (nI z) T ++ (stW cI a N v ++ (rgW cI r (updN R (p_nx qi) N) u)))) := (congrArg (fun zz => va_D (va_A (xH cS x a r (nI qi) (nI kc) ++ (txW cI x (nI z) T ++ (stW cI a N v ++ (rgW cI r R u)))) s.heap.size) (xH cS x a r (nI (p_nx qi)) zz ++ (txW cI x (nI z) T ++ (stW cI a N v ++ (rgW cI r (updN R (p_nx qi) N) u))))) w8).mp hD
      have hP : va_P D vwCl (xH cS x a r (nI (p_nx qi)) (nI (m_kc kc)) ++ (txW cI x (nI z) T ++ (stW cI a N v ++ (rgW cI r (updN R (p_nx qi) N) u)))) H := hP
      have hD : va_D (va_A (xH cS x a r (nI qi) (nI kc) ++ (txW cI x (nI z) T ++ (stW cI a N v ++ (rgW cI r R u)))) s.heap.size) (xH cS x a r (nI (p_nx qi)) (nI (m_kc kc)) ++ (txW cI x (nI z) T ++ (stW cI a N v ++ (rgW cI r (updN R (p_nx qi) N) u)))) := hD
      exact k_eMv hx hb hr hlocks hP hS dX4_saveState_63
    · have c7' := Int32.not_le.mp c7
      have hk5 : kc < 6 := k_more (n := 6) (by omega) hkc c7
      have hk5n : ¬ kc = 6 := fun h => absurd hk5 (by omega)
      refine lv_aload_n hx hb dX4_saveState_53 rfl (lv_at hl 1 rfl) ?_
      refine lv_dup hx hb dX4_saveState_54 rfl ?_
      refine g4 hx hb hts hown hK hP 0 rfl 3 (by decide) flX4_24 (fun _ h => h) (v := .int (nI kc)) rfl dX4_saveState_55 ?_
      refine lv_iconst (v := 1) hx hb dX4_saveState_58 (by decide) ?_
      refine lv_iadd hx hb dX4_saveState_59 (lv_topi (fun x9 e9 => ?_))
      have q9 : x9 = nI (kc + 1) := by rw [e9]; exact nI_1 kc
      subst q9
      refine f4 hx hb hts hown hK hP hD hS 0 rfl 3 (by decide) flX4_24 (fun _ h => h) rfl rfl rfl (Nat.le_of_ble_eq_true rfl) dX4_saveState_60 (fun H locs hP hD hS => ?_)
      have hP : va_P D vwCl (xH cS x a r (nI (p_nx qi)) (nI (kc + 1)) ++ (txW cI x (nI z) T ++ (stW cI a N v ++ (rgW cI r (updN R (p_nx qi) N) u)))) H := hP
      have hD : va_D (va_A (xH cS x a r (nI qi) (nI kc) ++ (txW cI x (nI z) T ++ (stW cI a N v ++ (rgW cI r R u)))) s.heap.size) (xH cS x a r (nI (p_nx qi)) (nI (kc + 1)) ++ (txW cI x (nI z) T ++ (stW cI a N v ++ (rgW cI r (updN R (p_nx qi) N) u)))) := hD
      have w10 : nI (kc + 1) = nI (m_kc kc) := by simp [m_kc, hk5n]
      have hP : va_P D vwCl (xH cS x a r (nI (p_nx qi)) (nI (m_kc kc)) ++ (txW cI x (nI z) T ++ (stW cI a N v ++ (rgW cI r (updN R (p_nx qi) N) u)))) H := (congrArg (fun zz => va_P D vwCl (xH cS x a r (nI (p_nx qi)) zz ++ (txW cI x (nI z) T ++ (stW cI a N v ++ (rgW cI r (updN R (p_nx qi) N) u)))) H) w10).mp hP
      have hD : va_D (va_A (xH cS x a r (nI qi) (nI kc) ++ (txW cI x (nI z) T ++ (stW cI a N v ++ (rgW cI r R u)))) s.heap.size) (xH cS x a r (nI (p_nx qi)) (nI (m_kc kc)) ++ (txW cI x (nI z) T ++ (stW cI a N v ++ (rgW cI r (updN R (p_nx qi) N) u)))) := (congrArg (fun zz => va_D (va_A (xH cS x a r (nI qi) (nI kc) ++ (txW cI x (nI z) T ++ (stW cI a N v ++ (rgW cI r R u)))) s.heap.size) (xH cS x a r (nI (p_nx qi)) zz ++ (txW cI x (nI z) T ++ (stW cI a N v ++ (rgW cI r (updN R (p_nx qi) N) u))))) w10).mp hD
      have hP : va_P D vwCl (xH cS x a r (nI (p_nx qi)) (nI (m_kc kc)) ++ (txW cI x (nI z) T ++ (stW cI a N v ++ (rgW cI r (updN R (p_nx qi) N) u)))) H := hP
      have hD : va_D (va_A (xH cS x a r (nI qi) (nI kc) ++ (txW cI x (nI z) T ++ (stW cI a N v ++ (rgW cI r R u)))) s.heap.size) (xH cS x a r (nI (p_nx qi)) (nI (m_kc kc)) ++ (txW cI x (nI z) T ++ (stW cI a N v ++ (rgW cI r (updN R (p_nx qi) N) u)))) := hD
      exact k_eMv hx hb hr hlocks hP hS dX4_saveState_63

abbrev rmX4_undo_g : Room := { frames := 2, cells := 0, slots := 0, locals := 39 }
set_option maxHeartbeats 4000000 in
set_option maxRecDepth 100000 in
theorem c_X4_undo_g (l : Launch) (D : va_G) (cI cS cL : ClassId) (x a : Nat → Nat) (r : Nat → Nat → Nat) (qi kc z : Nat) (T : Nat → Int32) (N : NN) (v : Nat → Int32) (R : Nat → NN) (u : Nat → Nat → Int32) (sz : Nat) (kp : Nat) (hk1 : kc = kp + 1) (hq : qi < 6) (hkc : kc ≤ 6) : Met l yX4_undo (wy_ yX4_undo cX4_undo 2 (some .int)) rmX4_undo_g (kPc D (kTy cI cS cL) (xH cS x a r (nI qi) (nI kc) ++ (txW cI x (nI z) T ++ (stW cI a N v ++ (rgW cI r R u)))) sz [.ref (x 0)]) (kMi D (xH cS x a r (nI qi) (nI kc) ++ (txW cI x (nI z) T ++ (stW cI a N v ++ (rgW cI r R u)))) (xH cS x a r (nI (p_pv qi)) (nI kp) ++ (txW cI x (nI z) T ++ (stW cI a (R qi) v ++ (rgW cI r R u)))) sz (nI kp)) 0 0 (va_A (xH cS x a r (nI qi) (nI kc) ++ (txW cI x (nI z) T ++ (stW cI a N v ++ (rgW cI r R u)))) sz) := by
  refine k_ofW (by decide) (Nat.le_of_ble_eq_true rfl) ?_
  intro p e s m args below meth c hx hb hr hml hts hown hlocks hnm hsz hP hK hD hE ls hl
  subst hsz
  have hA : ∀ q : Nat, s.heap.size ≤ q → (va_A (xH cS x a r (nI qi) (nI kc) ++ (txW cI x (nI z) T ++ (stW cI a N v ++ (rgW cI r R u)))) s.heap.size) q := fun q h => Or.inr h
  have hS : va_S (va_A (xH cS x a r (nI qi) (nI kc) ++ (txW cI x (nI z) T ++ (stW cI a N v ++ (rgW cI r R u)))) s.heap.size) s.heap s.heap [] := va_S.rf
  have hl : lv_has ls 2 [(0, .ref (x 0))] := hl
  refine lv_aload_n hx hb dX4_undo_0 rfl (lv_at hl 0 rfl) ?_
  refine g4 hx hb hts hown hK hP 0 rfl 3 (by decide) flX4_24 (fun _ h => h) (v := .int (nI kc)) rfl dX4_undo_1 ?_
  refine lv_if_ne (tgt := 17) hx hb dX4_undo_4 (by decide) (fun c1 => ?_) (fun c1 => ?_)
  · refine lv_aload_n hx hb dX4_undo_17 rfl (lv_at hl 0 rfl) ?_
    refine g4 hx hb hts hown hK hP 0 rfl 1 (by decide) flX4_16 (fun _ h => h) (v := .ref (x 1)) rfl dX4_undo_18 ?_
    refine lv_aload_n hx hb dX4_undo_21 rfl (lv_at hl 0 rfl) ?_
    refine g4 hx hb hts hown hK hP 0 rfl 2 (by decide) flX4_20 (fun _ h => h) (v := .int (nI qi)) rfl dX4_undo_22 ?_
    refine k_aldr (f := fun j => r j 0) (k := qi) hx hb hK hP 1 1 rfl rfl rfl (by omega) (by decide) dX4_undo_25 ?_
    refine lv_astore_n (lv' := [(1, .ref (r qi 0)), (0, .ref (x 0))]) hx hb dX4_undo_26 rfl hl (by decide) rfl (fun ls hl => ?_)
    refine lv_aload_n hx hb dX4_undo_27 rfl (lv_at hl 0 rfl) ?_
    refine lv_ifnull hx hb dX4_undo_28 ?_
    refine lv_aload_n hx hb dX4_undo_31 rfl (lv_at hl 1 rfl) ?_
    refine g4 hx hb hts hown hK hP 0 rfl 0 (by decide) flX4_10 (fun _ h => h) (v := .ref (a 0)) rfl dX4_undo_32 ?_
    refine lv_aload_n hx hb dX4_undo_35 rfl (lv_at hl 0 rfl) ?_
    refine k_cpUndo (rest := []) (j := qi) (wA := xH cS x a r (nI qi) (nI kc)) (wB := txW cI x (nI z) T) (by omega) ⟨hx, hb, hml, hown, hts⟩ ⟨(Nat.le_of_ble_eq_true rfl), (Nat.le_of_ble_eq_true rfl)⟩ hK hE hP hD hS hA hl.1 (Nat.le_of_ble_eq_true rfl) dX4_undo_36 ⟨Nat.zero_le _, Nat.zero_le _⟩ (fun H locs hzz hP hD hS => ?_)
    have hP : va_P D vwCl (xH cS x a r (nI qi) (nI kc) ++ (txW cI x (nI z) T ++ (stW cI a (R qi) v ++ (rgW cI r R u)))) H := hP
    have hD : va_D (va_A (xH cS x a r (nI qi) (nI kc) ++ (txW cI x (nI z) T ++ (stW cI a N v ++ (rgW cI r R u)))) s.heap.size) (xH cS x a r (nI qi) (nI kc) ++ (txW cI x (nI z) T ++ (stW cI a (R qi) v ++ (rgW cI r R u)))) := hD
    refine lv_aload_n hx hb dX4_undo_39 rfl (lv_at hl 1 rfl) ?_
    refine lv_aload_n hx hb dX4_undo_40 rfl (lv_at hl 1 rfl) ?_
    refine g4 hx hb hts hown hK hP 0 rfl 2 (by decide) flX4_20 (fun _ h => h) (v := .int (nI qi)) rfl dX4_undo_41 ?_
    refine lv_if_ne (tgt := 51) hx hb dX4_undo_44 (by decide) (fun c2 => ?_) (fun c2 => ?_)
    · have hq0 : ¬ qi = 0 := fun h => c2 (by rw [h]; rfl)
      refine lv_aload_n hx hb dX4_undo_51 rfl (lv_at hl 1 rfl) ?_
      refine g4 hx hb hts hown hK hP 0 rfl 2 (by decide) flX4_20 (fun _ h => h) (v := .int (nI qi)) rfl dX4_undo_52 ?_
      refine lv_iconst (v := 1) hx hb dX4_undo_55 (by decide) ?_
      refine lv_isub hx hb dX4_undo_56 (lv_topi (fun x3 e3 => ?_))
      have q3 : x3 = nI (p_pv qi) := by rw [e3]; rw [p_pv_s hq0]; exact pk_sub (a := qi) (b := 1) (by omega)
      subst q3
      refine f4 hx hb hts hown hK hP hD hS 0 rfl 2 (by decide) flX4_20 (fun _ h => h) rfl rfl rfl (Nat.le_of_ble_eq_true rfl) dX4_undo_57 (fun H locs hP hD hS => ?_)
      have hP : va_P D vwCl (xH cS x a r (nI (p_pv qi)) (nI kc) ++ (txW cI x (nI z) T ++ (stW cI a (R qi) v ++ (rgW cI r R u)))) H := hP
      have hD : va_D (va_A (xH cS x a r (nI qi) (nI kc) ++ (txW cI x (nI z) T ++ (stW cI a N v ++ (rgW cI r R u)))) s.heap.size) (xH cS x a r (nI (p_pv qi)) (nI kc) ++ (txW cI x (nI z) T ++ (stW cI a (R qi) v ++ (rgW cI r R u)))) := hD
      refine lv_aload_n hx hb dX4_undo_60 rfl (lv_at hl 1 rfl) ?_
      refine lv_dup hx hb dX4_undo_61 rfl ?_
      refine g4 hx hb hts hown hK hP 0 rfl 3 (by decide) flX4_24 (fun _ h => h) (v := .int (nI kc)) rfl dX4_undo_62 ?_
      refine lv_iconst (v := 1) hx hb dX4_undo_65 (by decide) ?_
      refine lv_isub hx hb dX4_undo_66 (lv_topi (fun x4 e4 => ?_))
      have q4 : x4 = nI kp := by rw [e4]; subst hk1; exact nI_pred kp
      subst q4
      refine f4 hx hb hts hown hK hP hD hS 0 rfl 3 (by decide) flX4_24 (fun _ h => h) rfl rfl rfl (Nat.le_of_ble_eq_true rfl) dX4_undo_67 (fun H locs hP hD hS => ?_)
      have hP : va_P D vwCl (xH cS x a r (nI (p_pv qi)) (nI kp) ++ (txW cI x (nI z) T ++ (stW cI a (R qi) v ++ (rgW cI r R u)))) H := hP
      have hD : va_D (va_A (xH cS x a r (nI qi) (nI kc) ++ (txW cI x (nI z) T ++ (stW cI a N v ++ (rgW cI r R u)))) s.heap.size) (xH cS x a r (nI (p_pv qi)) (nI kp) ++ (txW cI x (nI z) T ++ (stW cI a (R qi) v ++ (rgW cI r R u)))) := hD
      refine lv_aload_n hx hb dX4_undo_70 rfl (lv_at hl 1 rfl) ?_
      refine g4 hx hb hts hown hK hP 0 rfl 3 (by decide) flX4_24 (fun _ h => h) (v := .int (nI kp)) rfl dX4_undo_71 ?_
      have hP : va_P D vwCl (xH cS x a r (nI (p_pv qi)) (nI kp) ++ (txW cI x (nI z) T ++ (stW cI a (R qi) v ++ (rgW cI r R u)))) H := hP
      have hD : va_D (va_A (xH cS x a r (nI qi) (nI kc) ++ (txW cI x (nI z) T ++ (stW cI a N v ++ (rgW cI r R u)))) s.heap.size) (xH cS x a r (nI (p_pv qi)) (nI kp) ++ (txW cI x (nI z) T ++ (stW cI a (R qi) v ++ (rgW cI r R u)))) := hD
      exact k_eMi hx hb hr hlocks hP hS rfl dX4_undo_74
    · have hq0 : qi = 0 := (nI_eq (a := qi) (b := 0) (by omega) (by omega)).mp c2
      refine lv_iconst (v := 5) hx hb dX4_undo_47 (by decide) ?_
      refine lv_goto (tgt := 57) hx hb dX4_undo_48 (by decide) ?_
      rw [show (5 : Int32) = nI (p_pv qi) from by rw [hq0]; rfl]
      refine f4 hx hb hts hown hK hP hD hS 0 rfl 2 (by decide) flX4_20 (fun _ h => h) rfl rfl rfl (Nat.le_of_ble_eq_true rfl) dX4_undo_57 (fun H locs hP hD hS => ?_)
      have hP : va_P D vwCl (xH cS x a r (nI (p_pv qi)) (nI kc) ++ (txW cI x (nI z) T ++ (stW cI a (R qi) v ++ (rgW cI r R u)))) H := hP
      have hD : va_D (va_A (xH cS x a r (nI qi) (nI kc) ++ (txW cI x (nI z) T ++ (stW cI a N v ++ (rgW cI r R u)))) s.heap.size) (xH cS x a r (nI (p_pv qi)) (nI kc) ++ (txW cI x (nI z) T ++ (stW cI a (R qi) v ++ (rgW cI r R u)))) := hD
      refine lv_aload_n hx hb dX4_undo_60 rfl (lv_at hl 1 rfl) ?_
      refine lv_dup hx hb dX4_undo_61 rfl ?_
      refine g4 hx hb hts hown hK hP 0 rfl 3 (by decide) flX4_24 (fun _ h => h) (v := .int (nI kc)) rfl dX4_undo_62 ?_
      refine lv_iconst (v := 1) hx hb dX4_undo_65 (by decide) ?_
      refine lv_isub hx hb dX4_undo_66 (lv_topi (fun x5 e5 => ?_))
      have q5 : x5 = nI kp := by rw [e5]; subst hk1; exact nI_pred kp
      subst q5
      refine f4 hx hb hts hown hK hP hD hS 0 rfl 3 (by decide) flX4_24 (fun _ h => h) rfl rfl rfl (Nat.le_of_ble_eq_true rfl) dX4_undo_67 (fun H locs hP hD hS => ?_)
      have hP : va_P D vwCl (xH cS x a r (nI (p_pv qi)) (nI kp) ++ (txW cI x (nI z) T ++ (stW cI a (R qi) v ++ (rgW cI r R u)))) H := hP
      have hD : va_D (va_A (xH cS x a r (nI qi) (nI kc) ++ (txW cI x (nI z) T ++ (stW cI a N v ++ (rgW cI r R u)))) s.heap.size) (xH cS x a r (nI (p_pv qi)) (nI kp) ++ (txW cI x (nI z) T ++ (stW cI a (R qi) v ++ (rgW cI r R u)))) := hD
      refine lv_aload_n hx hb dX4_undo_70 rfl (lv_at hl 1 rfl) ?_
      refine g4 hx hb hts hown hK hP 0 rfl 3 (by decide) flX4_24 (fun _ h => h) (v := .int (nI kp)) rfl dX4_undo_71 ?_
      have hP : va_P D vwCl (xH cS x a r (nI (p_pv qi)) (nI kp) ++ (txW cI x (nI z) T ++ (stW cI a (R qi) v ++ (rgW cI r R u)))) H := hP
      have hD : va_D (va_A (xH cS x a r (nI qi) (nI kc) ++ (txW cI x (nI z) T ++ (stW cI a N v ++ (rgW cI r R u)))) s.heap.size) (xH cS x a r (nI (p_pv qi)) (nI kp) ++ (txW cI x (nI z) T ++ (stW cI a (R qi) v ++ (rgW cI r R u)))) := hD
      exact k_eMi hx hb hr hlocks hP hS rfl dX4_undo_74
  · exact absurd c1 (fun h => by have := (nI_eq (a := kc) (b := 0) (by omega) (by omega)).mp h; omega)

abbrev rmX4_undo_b : Room := { frames := 6, cells := 1, slots := 6, locals := 82 }
set_option maxHeartbeats 4000000 in
set_option maxRecDepth 100000 in
theorem c_X4_undo_b (l : Launch) (hfl : l.stackTraces = false) (D : va_G) (cI cS cL : ClassId) (x a : Nat → Nat) (r : Nat → Nat → Nat) (lat cnt z : Int32) (T : Nat → Int32) (N : NN) (v : Nat → Int32) (sz : Nat) (hcnt : cnt = 0) : vx_Met l yX4_undo (wy_ yX4_undo cX4_undo 2 (some .int)) rmX4_undo_b (kPx D (kTy cI cS cL) (xH cS x a r lat cnt ++ (txW cI x z T ++ (stW cI a N v))) sz [.ref (x 0)]) kQx (kXe eS) 1 6 noF := by
  refine k_xofW (by decide) (Nat.le_of_ble_eq_true rfl) ?_
  intro p e s m args below meth c hx hb hr hml hts hown hlocks hno hsz hP hK hD hE hT ls hl
  subst hsz
  have hl : lv_has ls 2 [(0, .ref (x 0))] := hl
  refine lv_aload_n hx hb dX4_undo_0 rfl (lv_at hl 0 rfl) ?_
  refine g4 hx hb hts hown hK hP 0 rfl 3 (by decide) flX4_24 (fun _ h => h) (v := .int cnt) rfl dX4_undo_1 ?_
  refine lv_if_ne (tgt := 17) hx hb dX4_undo_4 (by decide) (fun c1 => ?_) (fun c1 => ?_)
  · exact absurd hcnt c1
  · exact k_xtS (is := 156) hx hb hfl hts hown hE hT (hl.1.trans hml.symm) hno hlocks (List.mem_of_getElem? (i := 7) rfl) dX4_undo_7 dX4_undo_10 dX4_undo_11 dX4_undo_13 dX4_undo_16 ⟨(Nat.le_of_ble_eq_true rfl), (Nat.le_of_ble_eq_true rfl), Nat.le_refl _, Nat.le_refl _⟩
