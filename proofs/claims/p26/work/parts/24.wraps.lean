abbrev rmL_buy : Room := { frames := 7, cells := 1, slots := 6, locals := 105 }
set_option maxHeartbeats 4000000 in
set_option maxRecDepth 100000 in
theorem c_L_buy (l : Launch) (hfl : l.stackTraces = false) (D : va_G) (cI cS cL : ClassId) (x a : Nat → Nat) (r : Nat → Nat → Nat) (qi kc z : Nat) (T : Nat → Int32) (N : NN) (v : Nat → Int32) (R : Nat → NN) (u : Nat → Nat → Int32) (sz : Nat) (n : Nat) (kd : Int32) (ln : Int32) (cp : Int32) (hn : N 1 2 = nI n) (hn14 : n ≤ 14) (hq : qi < 6) (hkc : kc ≤ 6) (hok : (0 ≤ kd ∧ kd ≤ 2) ∧ (5 ≤ ln ∧ ln ≤ 50) ∧ (0 ≤ cp ∧ cp ≤ 2)) : vx_Met l yL_buy (wyW_ yL_buy cL_buy 5 (some .int) [(0, 7, 8, 15)]) rmL_buy (kPx D (kTy cI cS cL) (xH cS x a r (nI qi) (nI kc) ++ (txW cI x (nI z) T ++ (stW cI a N v ++ (rgW cI r R u)))) sz [.ref (x 0), .int kd, .int ln, .int cp]) (kMe D (xH cS x a r (nI qi) (nI kc) ++ (txW cI x (nI z) T ++ (stW cI a N v ++ (rgW cI r R u)))) sz (kAct qi kc N R (p_can N kd ln = true) (nI n) (p_add N n kd ln cp 3)) (fun y9 : AU => xH cS x a r (nI y9.1) (nI y9.2.1) ++ (txW cI x (nI z) T ++ (stW cI a y9.2.2.1 v ++ rgW cI r y9.2.2.2 u)))) kNX 1 6 (va_A (xH cS x a r (nI qi) (nI kc) ++ (txW cI x (nI z) T ++ (stW cI a N v ++ (rgW cI r R u)))) sz) := by
  refine k_wofW (by decide) (Nat.le_of_ble_eq_true rfl) ?_
  intro p e s m args below meth c hx hb hr hml hts hown hlocks htab hsz hP hK hD hE hT ls hl
  subst hsz
  have hA : ∀ q : Nat, s.heap.size ≤ q → (va_A (xH cS x a r (nI qi) (nI kc) ++ (txW cI x (nI z) T ++ (stW cI a N v ++ (rgW cI r R u)))) s.heap.size) q := fun q h => Or.inr h
  have hS : va_S (va_A (xH cS x a r (nI qi) (nI kc) ++ (txW cI x (nI z) T ++ (stW cI a N v ++ (rgW cI r R u)))) s.heap.size) s.heap s.heap [] := va_S.rf
  have hl : lv_has ls 5 [(0, .ref (x 0)), (1, .int kd), (2, .int ln), (3, .int cp)] := hl
  by_cases hcan : p_can N kd ln = true
  · refine lv_aload_n hx hb dL_buy_0 rfl (lv_at hl 0 rfl) ?_
    refine lv_iload_n hx hb dL_buy_1 rfl (lv_at hl 1 rfl) ?_
    refine lv_iload_n hx hb dL_buy_2 rfl (lv_at hl 2 rfl) ?_
    refine lv_iload_n hx hb dL_buy_3 rfl (lv_at hl 3 rfl) ?_
    refine k_miV0 (As := [.int kd, .int ln, .int cp]) (rest := []) (wc := xH cS x a r (nI qi) (nI kc) ++ (txW cI x (nI z) T ++ (stW cI a N v ++ (rgW cI r R u)))) (wc' := xH cS x a r (nI (p_nx qi)) (nI (m_kc kc)) ++ (txW cI x (nI z) T ++ (stW cI a (p_add N n kd ln cp 3) v ++ (rgW cI r (updN R (p_nx qi) N) u)))) ⟨hx, hb, hml, hown, hts⟩ (c_X4_buy_g l D cI cS cL x a r qi kc z T N v R u _ n hn hn14 kd ln cp hq hkc hok hcan) lkL_9 rfl rfl ⟨(Nat.le_of_ble_eq_true rfl), (Nat.le_of_ble_eq_true rfl)⟩ (va_recv hK hP (ci := 3) (q0 := 0) rfl rfl) hK hE hP hD hS hA rfl rfl hl.1 rfl (Nat.le_of_ble_eq_true rfl) dL_buy_4 ⟨Nat.zero_le _, Nat.zero_le _⟩ (fun H locs hzz hP hD hS => ?_)
    have hP : va_P D vwCl (xH cS x a r (nI (p_nx qi)) (nI (m_kc kc)) ++ (txW cI x (nI z) T ++ (stW cI a (p_add N n kd ln cp 3) v ++ (rgW cI r (updN R (p_nx qi) N) u)))) H := hP
    have hD : va_D (va_A (xH cS x a r (nI qi) (nI kc) ++ (txW cI x (nI z) T ++ (stW cI a N v ++ (rgW cI r R u)))) s.heap.size) (xH cS x a r (nI (p_nx qi)) (nI (m_kc kc)) ++ (txW cI x (nI z) T ++ (stW cI a (p_add N n kd ln cp 3) v ++ (rgW cI r (updN R (p_nx qi) N) u)))) := hD
    exact k_xMe (Wf := fun y9 : AU => xH cS x a r (nI y9.1) (nI y9.2.1) ++ (txW cI x (nI z) T ++ (stW cI a y9.2.2.1 v ++ rgW cI r y9.2.2.2 u))) ((p_nx qi, m_kc kc, p_add N n kd ln cp 3, updN R (p_nx qi) N)) hx hb hr hlocks (Nat.le_of_ble_eq_true rfl) (Nat.le_of_ble_eq_true rfl) (Or.inr ⟨hcan, rfl, rfl⟩) hP hS dL_buy_7
  · have hcan2 : p_can N kd ln = false := by simpa using hcan
    refine lv_aload_n hx hb dL_buy_0 rfl (lv_at hl 0 rfl) ?_
    refine lv_iload_n hx hb dL_buy_1 rfl (lv_at hl 1 rfl) ?_
    refine lv_iload_n hx hb dL_buy_2 rfl (lv_at hl 2 rfl) ?_
    refine lv_iload_n hx hb dL_buy_3 rfl (lv_at hl 3 rfl) ?_
    refine k_xcW (As := [.int kd, .int ln, .int cp]) (rest := []) (w1 := []) (wc := xH cS x a r (nI qi) (nI kc) ++ (txW cI x (nI z) T ++ (stW cI a N v))) (w3 := rgW cI r R u) (ce0 := ⟨0, 7, 8, 15⟩) ⟨hx, hb, hml, hown, hts⟩ (c_X4_buy_2 l hfl D cI cS cL x a r (nI qi) (nI kc) (nI z) T N v _ kd ln cp hok hcan2) lkL_9 rfl rfl ⟨(Nat.le_of_ble_eq_true rfl), (Nat.le_of_ble_eq_true rfl)⟩ (va_recv hK hP (ci := 3) (q0 := 0) rfl rfl) hK hE hT hP hD (htab.trans rfl) (by decide) (by decide) (hts _ wd_classLink_RL_15_java_lang_IllegalStateException) hT.1.2.1 rfl hl.1 rfl (Nat.le_of_ble_eq_true rfl) dL_buy_4 ⟨Nat.le_refl _, Nat.le_refl _⟩ (fun q9 H locs hz9 hP hS => ?_)
    have hP : va_P D vwCl (xH cS x a r (nI qi) (nI kc) ++ (txW cI x (nI z) T ++ (stW cI a N v ++ (rgW cI r R u)))) H := hP
    refine lv_astore (lv' := [(4, .ref q9), (0, .ref (x 0)), (1, .int kd), (2, .int ln), (3, .int cp)]) hx hb dL_buy_8 hl (by decide) rfl (fun ls hl => ?_)
    refine lv_bipush (v := (-3)) hx hb dL_buy_10 (by decide) ?_
    exact k_xMe (Wf := fun y9 : AU => xH cS x a r (nI y9.1) (nI y9.2.1) ++ (txW cI x (nI z) T ++ (stW cI a y9.2.2.1 v ++ rgW cI r y9.2.2.2 u))) ((qi, kc, N, R)) hx hb hr hlocks (Nat.le_of_ble_eq_true rfl) (Nat.le_of_ble_eq_true rfl) (Or.inl ⟨hcan, rfl, rfl⟩) hP hS dL_buy_12

abbrev rmL_renew : Room := { frames := 8, cells := 1, slots := 6, locals := 124 }
set_option maxHeartbeats 4000000 in
set_option maxRecDepth 100000 in
theorem c_L_renew (l : Launch) (hfl : l.stackTraces = false) (D : va_G) (cI cS cL : ClassId) (x a : Nat → Nat) (r : Nat → Nat → Nat) (qi kc z : Nat) (T : Nat → Int32) (N : NN) (v : Nat → Int32) (R : Nat → NN) (u : Nat → Nat → Int32) (sz : Nat) (n : Nat) (k : Nat) (hn : N 1 2 = nI n) (hn14 : n ≤ 14) (hq : qi < 6) (hkc : kc ≤ 6) (hkn : k < n) : vx_Met l yL_renew (wyW_ yL_renew cL_renew 3 (some .int) [(0, 5, 6, 15)]) rmL_renew (kPx D (kTy cI cS cL) (xH cS x a r (nI qi) (nI kc) ++ (txW cI x (nI z) T ++ (stW cI a N v ++ (rgW cI r R u)))) sz [.ref (x 0), .int (nI k)]) (kMe D (xH cS x a r (nI qi) (nI kc) ++ (txW cI x (nI z) T ++ (stW cI a N v ++ (rgW cI r R u)))) sz (kAct qi kc N R ((¬ N 9 k = -1 ∧ ¬ N 9 k = 4) ∧ p_can N (N 3 k) (N 4 k) = true) (nI n) (p_renew N n k)) (fun y9 : AU => xH cS x a r (nI y9.1) (nI y9.2.1) ++ (txW cI x (nI z) T ++ (stW cI a y9.2.2.1 v ++ rgW cI r y9.2.2.2 u)))) kNX 1 6 (va_A (xH cS x a r (nI qi) (nI kc) ++ (txW cI x (nI z) T ++ (stW cI a N v ++ (rgW cI r R u)))) sz) := by
  refine k_wofW (by decide) (Nat.le_of_ble_eq_true rfl) ?_
  intro p e s m args below meth c hx hb hr hml hts hown hlocks htab hsz hP hK hD hE hT ls hl
  subst hsz
  have hA : ∀ q : Nat, s.heap.size ≤ q → (va_A (xH cS x a r (nI qi) (nI kc) ++ (txW cI x (nI z) T ++ (stW cI a N v ++ (rgW cI r R u)))) s.heap.size) q := fun q h => Or.inr h
  have hS : va_S (va_A (xH cS x a r (nI qi) (nI kc) ++ (txW cI x (nI z) T ++ (stW cI a N v ++ (rgW cI r R u)))) s.heap.size) s.heap s.heap [] := va_S.rf
  have hl : lv_has ls 3 [(0, .ref (x 0)), (1, .int (nI k))] := hl
  by_cases hok : ¬ N 9 k = -1 ∧ ¬ N 9 k = 4
  by_cases hcan : p_can N (N 3 k) (N 4 k) = true
  · obtain ⟨h1, h4⟩ := id hok
    refine lv_aload_n hx hb dL_renew_0 rfl (lv_at hl 0 rfl) ?_
    refine lv_iload_n hx hb dL_renew_1 rfl (lv_at hl 1 rfl) ?_
    refine k_miV0 (As := [.int (nI k)]) (rest := []) (wc := xH cS x a r (nI qi) (nI kc) ++ (txW cI x (nI z) T ++ (stW cI a N v ++ (rgW cI r R u)))) (wc' := xH cS x a r (nI (p_nx qi)) (nI (m_kc kc)) ++ (txW cI x (nI z) T ++ (stW cI a (p_renew N n k) v ++ (rgW cI r (updN R (p_nx qi) N) u)))) ⟨hx, hb, hml, hown, hts⟩ (c_X4_renew_g l D cI cS cL x a r qi kc z T N v R u _ n hn hn14 k hkn h1 h4 hq hkc hcan) lkL_17 rfl rfl ⟨(Nat.le_of_ble_eq_true rfl), (Nat.le_of_ble_eq_true rfl)⟩ (va_recv hK hP (ci := 3) (q0 := 0) rfl rfl) hK hE hP hD hS hA rfl rfl hl.1 rfl (Nat.le_of_ble_eq_true rfl) dL_renew_2 ⟨Nat.zero_le _, Nat.zero_le _⟩ (fun H locs hzz hP hD hS => ?_)
    have hP : va_P D vwCl (xH cS x a r (nI (p_nx qi)) (nI (m_kc kc)) ++ (txW cI x (nI z) T ++ (stW cI a (p_renew N n k) v ++ (rgW cI r (updN R (p_nx qi) N) u)))) H := hP
    have hD : va_D (va_A (xH cS x a r (nI qi) (nI kc) ++ (txW cI x (nI z) T ++ (stW cI a N v ++ (rgW cI r R u)))) s.heap.size) (xH cS x a r (nI (p_nx qi)) (nI (m_kc kc)) ++ (txW cI x (nI z) T ++ (stW cI a (p_renew N n k) v ++ (rgW cI r (updN R (p_nx qi) N) u)))) := hD
    exact k_xMe (Wf := fun y9 : AU => xH cS x a r (nI y9.1) (nI y9.2.1) ++ (txW cI x (nI z) T ++ (stW cI a y9.2.2.1 v ++ rgW cI r y9.2.2.2 u))) ((p_nx qi, m_kc kc, p_renew N n k, updN R (p_nx qi) N)) hx hb hr hlocks (Nat.le_of_ble_eq_true rfl) (Nat.le_of_ble_eq_true rfl) (Or.inr ⟨⟨hok, hcan⟩, rfl, rfl⟩) hP hS dL_renew_5
  · obtain ⟨h1, h4⟩ := id hok
    have hcan2 : p_can N (N 3 k) (N 4 k) = false := by simpa using hcan
    refine lv_aload_n hx hb dL_renew_0 rfl (lv_at hl 0 rfl) ?_
    refine lv_iload_n hx hb dL_renew_1 rfl (lv_at hl 1 rfl) ?_
    refine k_xcW (As := [.int (nI k)]) (rest := []) (w1 := []) (wc := xH cS x a r (nI qi) (nI kc) ++ (txW cI x (nI z) T ++ (stW cI a N v))) (w3 := rgW cI r R u) (ce0 := ⟨0, 5, 6, 15⟩) ⟨hx, hb, hml, hown, hts⟩ (c_X4_renew_3 l hfl D cI cS cL x a r (nI qi) (nI kc) (nI z) T N v _ n hn hn14 k hkn h1 h4 hcan2) lkL_17 rfl rfl ⟨(Nat.le_of_ble_eq_true rfl), (Nat.le_of_ble_eq_true rfl)⟩ (va_recv hK hP (ci := 3) (q0 := 0) rfl rfl) hK hE hT hP hD (htab.trans rfl) (by decide) (by decide) (hts _ wd_classLink_RL_15_java_lang_IllegalStateException) hT.1.2.1 rfl hl.1 rfl (Nat.le_of_ble_eq_true rfl) dL_renew_2 ⟨Nat.le_refl _, Nat.le_refl _⟩ (fun q9 H locs hz9 hP hS => ?_)
    have hP : va_P D vwCl (xH cS x a r (nI qi) (nI kc) ++ (txW cI x (nI z) T ++ (stW cI a N v ++ (rgW cI r R u)))) H := hP
    refine lv_astore_n (lv' := [(2, .ref q9), (0, .ref (x 0)), (1, .int (nI k))]) hx hb dL_renew_6 rfl hl (by decide) rfl (fun ls hl => ?_)
    refine lv_bipush (v := (-3)) hx hb dL_renew_7 (by decide) ?_
    exact k_xMe (Wf := fun y9 : AU => xH cS x a r (nI y9.1) (nI y9.2.1) ++ (txW cI x (nI z) T ++ (stW cI a y9.2.2.1 v ++ rgW cI r y9.2.2.2 u))) ((qi, kc, N, R)) hx hb hr hlocks (Nat.le_of_ble_eq_true rfl) (Nat.le_of_ble_eq_true rfl) (Or.inl ⟨fun z => hcan z.2, rfl, rfl⟩) hP hS dL_renew_9
  · have h14 : N 9 k = -1 ∨ N 9 k = 4 := Classical.byContradiction fun q => hok ⟨fun z => q (Or.inl z), fun z => q (Or.inr z)⟩
    refine lv_aload_n hx hb dL_renew_0 rfl (lv_at hl 0 rfl) ?_
    refine lv_iload_n hx hb dL_renew_1 rfl (lv_at hl 1 rfl) ?_
    refine k_xcW (As := [.int (nI k)]) (rest := []) (w1 := []) (wc := xH cS x a r (nI qi) (nI kc) ++ (txW cI x (nI z) T ++ (stW cI a N v))) (w3 := rgW cI r R u) (ce0 := ⟨0, 5, 6, 15⟩) ⟨hx, hb, hml, hown, hts⟩ (c_X4_renew_2 l hfl D cI cS cL x a r (nI qi) (nI kc) (nI z) T N v _ n hn hn14 k hkn h14) lkL_17 rfl rfl ⟨(Nat.le_of_ble_eq_true rfl), (Nat.le_of_ble_eq_true rfl)⟩ (va_recv hK hP (ci := 3) (q0 := 0) rfl rfl) hK hE hT hP hD (htab.trans rfl) (by decide) (by decide) (hts _ wd_classLink_RL_15_java_lang_IllegalStateException) hT.1.2.1 rfl hl.1 rfl (Nat.le_of_ble_eq_true rfl) dL_renew_2 ⟨Nat.le_refl _, Nat.le_refl _⟩ (fun q9 H locs hz9 hP hS => ?_)
    have hP : va_P D vwCl (xH cS x a r (nI qi) (nI kc) ++ (txW cI x (nI z) T ++ (stW cI a N v ++ (rgW cI r R u)))) H := hP
    refine lv_astore_n (lv' := [(2, .ref q9), (0, .ref (x 0)), (1, .int (nI k))]) hx hb dL_renew_6 rfl hl (by decide) rfl (fun ls hl => ?_)
    refine lv_bipush (v := (-3)) hx hb dL_renew_7 (by decide) ?_
    exact k_xMe (Wf := fun y9 : AU => xH cS x a r (nI y9.1) (nI y9.2.1) ++ (txW cI x (nI z) T ++ (stW cI a y9.2.2.1 v ++ rgW cI r y9.2.2.2 u))) ((qi, kc, N, R)) hx hb hr hlocks (Nat.le_of_ble_eq_true rfl) (Nat.le_of_ble_eq_true rfl) (Or.inl ⟨fun z => hok z.1, rfl, rfl⟩) hP hS dL_renew_9

abbrev rmL_put : Room := { frames := 8, cells := 1, slots := 6, locals := 126 }
set_option maxHeartbeats 4000000 in
set_option maxRecDepth 100000 in
theorem c_L_put (l : Launch) (hfl : l.stackTraces = false) (D : va_G) (cI cS cL : ClassId) (x a : Nat → Nat) (r : Nat → Nat → Nat) (qi kc z : Nat) (T : Nat → Int32) (N : NN) (v : Nat → Int32) (R : Nat → NN) (u : Nat → Nat → Int32) (sz : Nat) (n : Nat) (k : Nat) (pl : Int32) (hn : N 1 2 = nI n) (hn14 : n ≤ 14) (hq : qi < 6) (hkc : kc ≤ 6) (hkn : k < n) (hpl : 0 ≤ pl ∧ pl ≤ 3) : vx_Met l yL_put (wyW_ yL_put cL_put 4 (some .int) [(0, 6, 7, 15)]) rmL_put (kPx D (kTy cI cS cL) (xH cS x a r (nI qi) (nI kc) ++ (txW cI x (nI z) T ++ (stW cI a N v ++ (rgW cI r R u)))) sz [.ref (x 0), .int (nI k), .int pl]) (kMe D (xH cS x a r (nI qi) (nI kc) ++ (txW cI x (nI z) T ++ (stW cI a N v ++ (rgW cI r R u)))) sz (kAct qi kc N R (¬ N 9 k = -1 ∧ ¬ N 9 k = 4) (N 9 k) (up2 N 9 k pl)) (fun y9 : AU => xH cS x a r (nI y9.1) (nI y9.2.1) ++ (txW cI x (nI z) T ++ (stW cI a y9.2.2.1 v ++ rgW cI r y9.2.2.2 u)))) kNX 1 6 (va_A (xH cS x a r (nI qi) (nI kc) ++ (txW cI x (nI z) T ++ (stW cI a N v ++ (rgW cI r R u)))) sz) := by
  refine k_wofW (by decide) (Nat.le_of_ble_eq_true rfl) ?_
  intro p e s m args below meth c hx hb hr hml hts hown hlocks htab hsz hP hK hD hE hT ls hl
  subst hsz
  have hA : ∀ q : Nat, s.heap.size ≤ q → (va_A (xH cS x a r (nI qi) (nI kc) ++ (txW cI x (nI z) T ++ (stW cI a N v ++ (rgW cI r R u)))) s.heap.size) q := fun q h => Or.inr h
  have hS : va_S (va_A (xH cS x a r (nI qi) (nI kc) ++ (txW cI x (nI z) T ++ (stW cI a N v ++ (rgW cI r R u)))) s.heap.size) s.heap s.heap [] := va_S.rf
  have hl : lv_has ls 4 [(0, .ref (x 0)), (1, .int (nI k)), (2, .int pl)] := hl
  by_cases hok : ¬ N 9 k = -1 ∧ ¬ N 9 k = 4
  · obtain ⟨h1, h4⟩ := id hok
    refine lv_aload_n hx hb dL_put_0 rfl (lv_at hl 0 rfl) ?_
    refine lv_iload_n hx hb dL_put_1 rfl (lv_at hl 1 rfl) ?_
    refine lv_iload_n hx hb dL_put_2 rfl (lv_at hl 2 rfl) ?_
    refine k_miV0 (As := [.int (nI k), .int pl]) (rest := []) (wc := xH cS x a r (nI qi) (nI kc) ++ (txW cI x (nI z) T ++ (stW cI a N v ++ (rgW cI r R u)))) (wc' := xH cS x a r (nI (p_nx qi)) (nI (m_kc kc)) ++ (txW cI x (nI z) T ++ (stW cI a (up2 N 9 k pl) v ++ (rgW cI r (updN R (p_nx qi) N) u)))) ⟨hx, hb, hml, hown, hts⟩ (c_X4_put_g l D cI cS cL x a r qi kc z T N v R u _ n hn hn14 k pl hkn h1 h4 hq hkc hpl) lkL_21 rfl rfl ⟨(Nat.le_of_ble_eq_true rfl), (Nat.le_of_ble_eq_true rfl)⟩ (va_recv hK hP (ci := 3) (q0 := 0) rfl rfl) hK hE hP hD hS hA rfl rfl hl.1 rfl (Nat.le_of_ble_eq_true rfl) dL_put_3 ⟨Nat.zero_le _, Nat.zero_le _⟩ (fun H locs hzz hP hD hS => ?_)
    have hP : va_P D vwCl (xH cS x a r (nI (p_nx qi)) (nI (m_kc kc)) ++ (txW cI x (nI z) T ++ (stW cI a (up2 N 9 k pl) v ++ (rgW cI r (updN R (p_nx qi) N) u)))) H := hP
    have hD : va_D (va_A (xH cS x a r (nI qi) (nI kc) ++ (txW cI x (nI z) T ++ (stW cI a N v ++ (rgW cI r R u)))) s.heap.size) (xH cS x a r (nI (p_nx qi)) (nI (m_kc kc)) ++ (txW cI x (nI z) T ++ (stW cI a (up2 N 9 k pl) v ++ (rgW cI r (updN R (p_nx qi) N) u)))) := hD
    exact k_xMe (Wf := fun y9 : AU => xH cS x a r (nI y9.1) (nI y9.2.1) ++ (txW cI x (nI z) T ++ (stW cI a y9.2.2.1 v ++ rgW cI r y9.2.2.2 u))) ((p_nx qi, m_kc kc, up2 N 9 k pl, updN R (p_nx qi) N)) hx hb hr hlocks (Nat.le_of_ble_eq_true rfl) (Nat.le_of_ble_eq_true rfl) (Or.inr ⟨hok, rfl, rfl⟩) hP hS dL_put_6
  · have h14 : N 9 k = -1 ∨ N 9 k = 4 := Classical.byContradiction fun q => hok ⟨fun z => q (Or.inl z), fun z => q (Or.inr z)⟩
    refine lv_aload_n hx hb dL_put_0 rfl (lv_at hl 0 rfl) ?_
    refine lv_iload_n hx hb dL_put_1 rfl (lv_at hl 1 rfl) ?_
    refine lv_iload_n hx hb dL_put_2 rfl (lv_at hl 2 rfl) ?_
    refine k_xcW (As := [.int (nI k), .int pl]) (rest := []) (w1 := []) (wc := xH cS x a r (nI qi) (nI kc) ++ (txW cI x (nI z) T ++ (stW cI a N v))) (w3 := rgW cI r R u) (ce0 := ⟨0, 6, 7, 15⟩) ⟨hx, hb, hml, hown, hts⟩ (c_X4_put_3 l hfl D cI cS cL x a r (nI qi) (nI kc) (nI z) T N v _ n hn hn14 k pl hkn hpl h14) lkL_21 rfl rfl ⟨(Nat.le_of_ble_eq_true rfl), (Nat.le_of_ble_eq_true rfl)⟩ (va_recv hK hP (ci := 3) (q0 := 0) rfl rfl) hK hE hT hP hD (htab.trans rfl) (by decide) (by decide) (hts _ wd_classLink_RL_15_java_lang_IllegalStateException) hT.1.2.1 rfl hl.1 rfl (Nat.le_of_ble_eq_true rfl) dL_put_3 ⟨Nat.le_refl _, Nat.le_refl _⟩ (fun q9 H locs hz9 hP hS => ?_)
    have hP : va_P D vwCl (xH cS x a r (nI qi) (nI kc) ++ (txW cI x (nI z) T ++ (stW cI a N v ++ (rgW cI r R u)))) H := hP
    refine lv_astore_n (lv' := [(3, .ref q9), (0, .ref (x 0)), (1, .int (nI k)), (2, .int pl)]) hx hb dL_put_7 rfl hl (by decide) rfl (fun ls hl => ?_)
    refine lv_bipush (v := (-3)) hx hb dL_put_8 (by decide) ?_
    exact k_xMe (Wf := fun y9 : AU => xH cS x a r (nI y9.1) (nI y9.2.1) ++ (txW cI x (nI z) T ++ (stW cI a y9.2.2.1 v ++ rgW cI r y9.2.2.2 u))) ((qi, kc, N, R)) hx hb hr hlocks (Nat.le_of_ble_eq_true rfl) (Nat.le_of_ble_eq_true rfl) (Or.inl ⟨hok, rfl, rfl⟩) hP hS dL_put_10

abbrev rmL_lend : Room := { frames := 7, cells := 1, slots := 6, locals := 104 }
set_option maxHeartbeats 4000000 in
set_option maxRecDepth 100000 in
theorem c_L_lend (l : Launch) (hfl : l.stackTraces = false) (D : va_G) (cI cS cL : ClassId) (x a : Nat → Nat) (r : Nat → Nat → Nat) (qi kc z : Nat) (T : Nat → Int32) (N : NN) (v : Nat → Int32) (R : Nat → NN) (u : Nat → Nat → Int32) (sz : Nat) (n : Nat) (k : Nat) (dd : Int32) (hn : N 1 2 = nI n) (hn14 : n ≤ 14) (hq : qi < 6) (hkc : kc ≤ 6) (hkn : k < n) (hdd : 1 ≤ dd ∧ dd ≤ 99) : vx_Met l yL_lend (wyW_ yL_lend cL_lend 4 (some .int) [(0, 6, 7, 15)]) rmL_lend (kPx D (kTy cI cS cL) (xH cS x a r (nI qi) (nI kc) ++ (txW cI x (nI z) T ++ (stW cI a N v ++ (rgW cI r R u)))) sz [.ref (x 0), .int (nI k), .int dd]) (kMe D (xH cS x a r (nI qi) (nI kc) ++ (txW cI x (nI z) T ++ (stW cI a N v ++ (rgW cI r R u)))) sz (kAct qi kc N R (p_reason N k = 0) (N 1 0 + dd) (p_lend N k dd)) (fun y9 : AU => xH cS x a r (nI y9.1) (nI y9.2.1) ++ (txW cI x (nI z) T ++ (stW cI a y9.2.2.1 v ++ rgW cI r y9.2.2.2 u)))) kNX 1 6 (va_A (xH cS x a r (nI qi) (nI kc) ++ (txW cI x (nI z) T ++ (stW cI a N v ++ (rgW cI r R u)))) sz) := by
  refine k_wofW (by decide) (Nat.le_of_ble_eq_true rfl) ?_
  intro p e s m args below meth c hx hb hr hml hts hown hlocks htab hsz hP hK hD hE hT ls hl
  subst hsz
  have hA : ∀ q : Nat, s.heap.size ≤ q → (va_A (xH cS x a r (nI qi) (nI kc) ++ (txW cI x (nI z) T ++ (stW cI a N v ++ (rgW cI r R u)))) s.heap.size) q := fun q h => Or.inr h
  have hS : va_S (va_A (xH cS x a r (nI qi) (nI kc) ++ (txW cI x (nI z) T ++ (stW cI a N v ++ (rgW cI r R u)))) s.heap.size) s.heap s.heap [] := va_S.rf
  have hl : lv_has ls 4 [(0, .ref (x 0)), (1, .int (nI k)), (2, .int dd)] := hl
  by_cases hrd : p_reason N k = 0
  · refine lv_aload_n hx hb dL_lend_0 rfl (lv_at hl 0 rfl) ?_
    refine lv_iload_n hx hb dL_lend_1 rfl (lv_at hl 1 rfl) ?_
    refine lv_iload_n hx hb dL_lend_2 rfl (lv_at hl 2 rfl) ?_
    refine k_miV0 (As := [.int (nI k), .int dd]) (rest := []) (wc := xH cS x a r (nI qi) (nI kc) ++ (txW cI x (nI z) T ++ (stW cI a N v ++ (rgW cI r R u)))) (wc' := xH cS x a r (nI (p_nx qi)) (nI (m_kc kc)) ++ (txW cI x (nI z) T ++ (stW cI a (p_lend N k dd) v ++ (rgW cI r (updN R (p_nx qi) N) u)))) ⟨hx, hb, hml, hown, hts⟩ (c_X4_lend_g l D cI cS cL x a r qi kc z T N v R u _ n hn hn14 k dd hkn hq hkc hdd hrd) lkL_25 rfl rfl ⟨(Nat.le_of_ble_eq_true rfl), (Nat.le_of_ble_eq_true rfl)⟩ (va_recv hK hP (ci := 3) (q0 := 0) rfl rfl) hK hE hP hD hS hA rfl rfl hl.1 rfl (Nat.le_of_ble_eq_true rfl) dL_lend_3 ⟨Nat.zero_le _, Nat.zero_le _⟩ (fun H locs hzz hP hD hS => ?_)
    have hP : va_P D vwCl (xH cS x a r (nI (p_nx qi)) (nI (m_kc kc)) ++ (txW cI x (nI z) T ++ (stW cI a (p_lend N k dd) v ++ (rgW cI r (updN R (p_nx qi) N) u)))) H := hP
    have hD : va_D (va_A (xH cS x a r (nI qi) (nI kc) ++ (txW cI x (nI z) T ++ (stW cI a N v ++ (rgW cI r R u)))) s.heap.size) (xH cS x a r (nI (p_nx qi)) (nI (m_kc kc)) ++ (txW cI x (nI z) T ++ (stW cI a (p_lend N k dd) v ++ (rgW cI r (updN R (p_nx qi) N) u)))) := hD
    exact k_xMe (Wf := fun y9 : AU => xH cS x a r (nI y9.1) (nI y9.2.1) ++ (txW cI x (nI z) T ++ (stW cI a y9.2.2.1 v ++ rgW cI r y9.2.2.2 u))) ((p_nx qi, m_kc kc, p_lend N k dd, updN R (p_nx qi) N)) hx hb hr hlocks (Nat.le_of_ble_eq_true rfl) (Nat.le_of_ble_eq_true rfl) (Or.inr ⟨hrd, rfl, rfl⟩) hP hS dL_lend_6
  · refine lv_aload_n hx hb dL_lend_0 rfl (lv_at hl 0 rfl) ?_
    refine lv_iload_n hx hb dL_lend_1 rfl (lv_at hl 1 rfl) ?_
    refine lv_iload_n hx hb dL_lend_2 rfl (lv_at hl 2 rfl) ?_
    refine k_xcW (As := [.int (nI k), .int dd]) (rest := []) (w1 := []) (wc := xH cS x a r (nI qi) (nI kc) ++ (txW cI x (nI z) T ++ (stW cI a N v))) (w3 := rgW cI r R u) (ce0 := ⟨0, 6, 7, 15⟩) ⟨hx, hb, hml, hown, hts⟩ (c_X4_lend_3 l hfl D cI cS cL x a r (nI qi) (nI kc) (nI z) T N v _ n hn hn14 k dd hkn hdd hrd) lkL_25 rfl rfl ⟨(Nat.le_of_ble_eq_true rfl), (Nat.le_of_ble_eq_true rfl)⟩ (va_recv hK hP (ci := 3) (q0 := 0) rfl rfl) hK hE hT hP hD (htab.trans rfl) (by decide) (by decide) (hts _ wd_classLink_RL_15_java_lang_IllegalStateException) hT.1.2.1 rfl hl.1 rfl (Nat.le_of_ble_eq_true rfl) dL_lend_3 ⟨Nat.le_refl _, Nat.le_refl _⟩ (fun q9 H locs hz9 hP hS => ?_)
    have hP : va_P D vwCl (xH cS x a r (nI qi) (nI kc) ++ (txW cI x (nI z) T ++ (stW cI a N v ++ (rgW cI r R u)))) H := hP
    refine lv_astore_n (lv' := [(3, .ref q9), (0, .ref (x 0)), (1, .int (nI k)), (2, .int dd)]) hx hb dL_lend_7 rfl hl (by decide) rfl (fun ls hl => ?_)
    refine lv_bipush (v := (-3)) hx hb dL_lend_8 (by decide) ?_
    exact k_xMe (Wf := fun y9 : AU => xH cS x a r (nI y9.1) (nI y9.2.1) ++ (txW cI x (nI z) T ++ (stW cI a y9.2.2.1 v ++ rgW cI r y9.2.2.2 u))) ((qi, kc, N, R)) hx hb hr hlocks (Nat.le_of_ble_eq_true rfl) (Nat.le_of_ble_eq_true rfl) (Or.inl ⟨hrd, rfl, rfl⟩) hP hS dL_lend_10

abbrev rmL_test : Room := { frames := 8, cells := 1, slots := 6, locals := 152 }
set_option maxHeartbeats 4000000 in
set_option maxRecDepth 100000 in
theorem c_L_test (l : Launch) (hfl : l.stackTraces = false) (D : va_G) (cI cS cL : ClassId) (x a : Nat → Nat) (r : Nat → Nat → Nat) (qi kc z : Nat) (T : Nat → Int32) (N : NN) (v : Nat → Int32) (R : Nat → NN) (u : Nat → Nat → Int32) (sz : Nat) (n : Nat) (k : Nat) (w : Nat) (hn : N 1 2 = nI n) (hn14 : n ≤ 14) (hq : qi < 6) (hkc : kc ≤ 6) (hkn : k < n) (hw4 : 4 ≤ w) (hw24 : w ≤ 24) (hw0 : 0 ≤ N 7 k) (hw1 : N 7 k ≤ 99) : vx_Met l yL_test (wyW_ yL_test cL_test 4 (some .int) [(0, 6, 7, 15)]) rmL_test (kPx D (kTy cI cS cL) (xH cS x a r (nI qi) (nI kc) ++ (txW cI x (nI z) T ++ (stW cI a N v ++ (rgW cI r R u)))) sz [.ref (x 0), .int (nI k), .int (nI w)]) (kMe D (xH cS x a r (nI qi) (nI kc) ++ (txW cI x (nI z) T ++ (stW cI a N v ++ (rgW cI r R u)))) sz (kAct qi kc N R (¬ N 9 k = -1 ∧ ¬ N 9 k = 4) (p_out N k w) (p_test N k w)) (fun y9 : AU => xH cS x a r (nI y9.1) (nI y9.2.1) ++ (txW cI x (nI z) T ++ (stW cI a y9.2.2.1 v ++ rgW cI r y9.2.2.2 u)))) kNX 1 6 (va_A (xH cS x a r (nI qi) (nI kc) ++ (txW cI x (nI z) T ++ (stW cI a N v ++ (rgW cI r R u)))) sz) := by
  refine k_wofW (by decide) (Nat.le_of_ble_eq_true rfl) ?_
  intro p e s m args below meth c hx hb hr hml hts hown hlocks htab hsz hP hK hD hE hT ls hl
  subst hsz
  have hA : ∀ q : Nat, s.heap.size ≤ q → (va_A (xH cS x a r (nI qi) (nI kc) ++ (txW cI x (nI z) T ++ (stW cI a N v ++ (rgW cI r R u)))) s.heap.size) q := fun q h => Or.inr h
  have hS : va_S (va_A (xH cS x a r (nI qi) (nI kc) ++ (txW cI x (nI z) T ++ (stW cI a N v ++ (rgW cI r R u)))) s.heap.size) s.heap s.heap [] := va_S.rf
  have hl : lv_has ls 4 [(0, .ref (x 0)), (1, .int (nI k)), (2, .int (nI w))] := hl
  by_cases hok : ¬ N 9 k = -1 ∧ ¬ N 9 k = 4
  · obtain ⟨h1, h4⟩ := id hok
    refine lv_aload_n hx hb dL_test_0 rfl (lv_at hl 0 rfl) ?_
    refine lv_iload_n hx hb dL_test_1 rfl (lv_at hl 1 rfl) ?_
    refine lv_iload_n hx hb dL_test_2 rfl (lv_at hl 2 rfl) ?_
    refine k_miV0 (As := [.int (nI k), .int (nI w)]) (rest := []) (wc := xH cS x a r (nI qi) (nI kc) ++ (txW cI x (nI z) T ++ (stW cI a N v ++ (rgW cI r R u)))) (wc' := xH cS x a r (nI (p_nx qi)) (nI (m_kc kc)) ++ (txW cI x (nI z) T ++ (stW cI a (p_test N k w) v ++ (rgW cI r (updN R (p_nx qi) N) u)))) ⟨hx, hb, hml, hown, hts⟩ (c_X4_test_g l D cI cS cL x a r qi kc z T N v R u _ n hn hn14 k w hkn h1 h4 hq hkc (by omega) (by omega) hw0 hw1) lkL_28 rfl rfl ⟨(Nat.le_of_ble_eq_true rfl), (Nat.le_of_ble_eq_true rfl)⟩ (va_recv hK hP (ci := 3) (q0 := 0) rfl rfl) hK hE hP hD hS hA rfl rfl hl.1 rfl (Nat.le_of_ble_eq_true rfl) dL_test_3 ⟨Nat.zero_le _, Nat.zero_le _⟩ (fun H locs hzz hP hD hS => ?_)
    have hP : va_P D vwCl (xH cS x a r (nI (p_nx qi)) (nI (m_kc kc)) ++ (txW cI x (nI z) T ++ (stW cI a (p_test N k w) v ++ (rgW cI r (updN R (p_nx qi) N) u)))) H := hP
    have hD : va_D (va_A (xH cS x a r (nI qi) (nI kc) ++ (txW cI x (nI z) T ++ (stW cI a N v ++ (rgW cI r R u)))) s.heap.size) (xH cS x a r (nI (p_nx qi)) (nI (m_kc kc)) ++ (txW cI x (nI z) T ++ (stW cI a (p_test N k w) v ++ (rgW cI r (updN R (p_nx qi) N) u)))) := hD
    exact k_xMe (Wf := fun y9 : AU => xH cS x a r (nI y9.1) (nI y9.2.1) ++ (txW cI x (nI z) T ++ (stW cI a y9.2.2.1 v ++ rgW cI r y9.2.2.2 u))) ((p_nx qi, m_kc kc, p_test N k w, updN R (p_nx qi) N)) hx hb hr hlocks (Nat.le_of_ble_eq_true rfl) (Nat.le_of_ble_eq_true rfl) (Or.inr ⟨hok, rfl, rfl⟩) hP hS dL_test_6
  · have h14 : N 9 k = -1 ∨ N 9 k = 4 := Classical.byContradiction fun q => hok ⟨fun z => q (Or.inl z), fun z => q (Or.inr z)⟩
    have hw := nI_rg (lo := 4) (hi := 24) hw4 hw24 (by decide)
    refine lv_aload_n hx hb dL_test_0 rfl (lv_at hl 0 rfl) ?_
    refine lv_iload_n hx hb dL_test_1 rfl (lv_at hl 1 rfl) ?_
    refine lv_iload_n hx hb dL_test_2 rfl (lv_at hl 2 rfl) ?_
    refine k_xcW (As := [.int (nI k), .int (nI w)]) (rest := []) (w1 := []) (wc := xH cS x a r (nI qi) (nI kc) ++ (txW cI x (nI z) T ++ (stW cI a N v))) (w3 := rgW cI r R u) (ce0 := ⟨0, 6, 7, 15⟩) ⟨hx, hb, hml, hown, hts⟩ (c_X4_test_3 l hfl D cI cS cL x a r (nI qi) (nI kc) (nI z) T N v _ n hn hn14 k (nI w) hkn hw h14) lkL_28 rfl rfl ⟨(Nat.le_of_ble_eq_true rfl), (Nat.le_of_ble_eq_true rfl)⟩ (va_recv hK hP (ci := 3) (q0 := 0) rfl rfl) hK hE hT hP hD (htab.trans rfl) (by decide) (by decide) (hts _ wd_classLink_RL_15_java_lang_IllegalStateException) hT.1.2.1 rfl hl.1 rfl (Nat.le_of_ble_eq_true rfl) dL_test_3 ⟨Nat.le_refl _, Nat.le_refl _⟩ (fun q9 H locs hz9 hP hS => ?_)
    have hP : va_P D vwCl (xH cS x a r (nI qi) (nI kc) ++ (txW cI x (nI z) T ++ (stW cI a N v ++ (rgW cI r R u)))) H := hP
    refine lv_astore_n (lv' := [(3, .ref q9), (0, .ref (x 0)), (1, .int (nI k)), (2, .int (nI w))]) hx hb dL_test_7 rfl hl (by decide) rfl (fun ls hl => ?_)
    refine lv_bipush (v := (-3)) hx hb dL_test_8 (by decide) ?_
    exact k_xMe (Wf := fun y9 : AU => xH cS x a r (nI y9.1) (nI y9.2.1) ++ (txW cI x (nI z) T ++ (stW cI a y9.2.2.1 v ++ rgW cI r y9.2.2.2 u))) ((qi, kc, N, R)) hx hb hr hlocks (Nat.le_of_ble_eq_true rfl) (Nat.le_of_ble_eq_true rfl) (Or.inl ⟨hok, rfl, rfl⟩) hP hS dL_test_10

abbrev rmL_undo : Room := { frames := 7, cells := 1, slots := 6, locals := 103 }
set_option maxHeartbeats 4000000 in
set_option maxRecDepth 100000 in
theorem c_L_undo (l : Launch) (hfl : l.stackTraces = false) (D : va_G) (cI cS cL : ClassId) (x a : Nat → Nat) (r : Nat → Nat → Nat) (qi kc z : Nat) (T : Nat → Int32) (N : NN) (v : Nat → Int32) (R : Nat → NN) (u : Nat → Nat → Int32) (sz : Nat) (n : Nat) (hn : N 1 2 = nI n) (hn14 : n ≤ 14) (hq : qi < 6) (hkc : kc ≤ 6) : vx_Met l yL_undo (wyW_ yL_undo cL_undo 2 (some .int) [(0, 4, 5, 15)]) rmL_undo (kPx D (kTy cI cS cL) (xH cS x a r (nI qi) (nI kc) ++ (txW cI x (nI z) T ++ (stW cI a N v ++ (rgW cI r R u)))) sz [.ref (x 0)]) (kMe D (xH cS x a r (nI qi) (nI kc) ++ (txW cI x (nI z) T ++ (stW cI a N v ++ (rgW cI r R u)))) sz (kUndo qi kc N R) (fun y9 : AU => xH cS x a r (nI y9.1) (nI y9.2.1) ++ (txW cI x (nI z) T ++ (stW cI a y9.2.2.1 v ++ rgW cI r y9.2.2.2 u)))) kNX 1 6 (va_A (xH cS x a r (nI qi) (nI kc) ++ (txW cI x (nI z) T ++ (stW cI a N v ++ (rgW cI r R u)))) sz) := by
  refine k_wofW (by decide) (Nat.le_of_ble_eq_true rfl) ?_
  intro p e s m args below meth c hx hb hr hml hts hown hlocks htab hsz hP hK hD hE hT ls hl
  subst hsz
  have hA : ∀ q : Nat, s.heap.size ≤ q → (va_A (xH cS x a r (nI qi) (nI kc) ++ (txW cI x (nI z) T ++ (stW cI a N v ++ (rgW cI r R u)))) s.heap.size) q := fun q h => Or.inr h
  have hS : va_S (va_A (xH cS x a r (nI qi) (nI kc) ++ (txW cI x (nI z) T ++ (stW cI a N v ++ (rgW cI r R u)))) s.heap.size) s.heap s.heap [] := va_S.rf
  have hl : lv_has ls 2 [(0, .ref (x 0))] := hl
  rcases Nat.eq_zero_or_pos kc with hk0 | hk0
  · subst hk0
    refine lv_aload_n hx hb dL_undo_0 rfl (lv_at hl 0 rfl) ?_
    refine k_xcW (As := []) (rest := []) (w1 := []) (wc := xH cS x a r (nI qi) 0 ++ (txW cI x (nI z) T ++ (stW cI a N v))) (w3 := rgW cI r R u) (ce0 := ⟨0, 4, 5, 15⟩) ⟨hx, hb, hml, hown, hts⟩ (c_X4_undo_b l hfl D cI cS cL x a r (nI qi) 0 (nI z) T N v _ rfl) lkL_31 rfl rfl ⟨(Nat.le_of_ble_eq_true rfl), (Nat.le_of_ble_eq_true rfl)⟩ (va_recv hK hP (ci := 3) (q0 := 0) rfl rfl) hK hE hT hP hD (htab.trans rfl) (by decide) (by decide) (hts _ wd_classLink_RL_15_java_lang_IllegalStateException) hT.1.2.1 rfl hl.1 rfl (Nat.le_of_ble_eq_true rfl) dL_undo_1 ⟨Nat.le_refl _, Nat.le_refl _⟩ (fun q9 H locs hz9 hP hS => ?_)
    have hP : va_P D vwCl (xH cS x a r (nI qi) 0 ++ (txW cI x (nI z) T ++ (stW cI a N v ++ (rgW cI r R u)))) H := hP
    refine lv_astore_n (lv' := [(1, .ref q9), (0, .ref (x 0))]) hx hb dL_undo_5 rfl hl (by decide) rfl (fun ls hl => ?_)
    refine lv_bipush (v := (-3)) hx hb dL_undo_6 (by decide) ?_
    exact k_xMe (Wf := fun y9 : AU => xH cS x a r (nI y9.1) (nI y9.2.1) ++ (txW cI x (nI z) T ++ (stW cI a y9.2.2.1 v ++ rgW cI r y9.2.2.2 u))) ((qi, 0, N, R)) hx hb hr hlocks (Nat.le_of_ble_eq_true rfl) (Nat.le_of_ble_eq_true rfl) (Or.inl ⟨rfl, rfl, rfl⟩) hP hS dL_undo_8
  · obtain ⟨kp, hk1⟩ : ∃ kp, kc = kp + 1 := ⟨kc - 1, by omega⟩
    subst hk1
    refine lv_aload_n hx hb dL_undo_0 rfl (lv_at hl 0 rfl) ?_
    refine k_miV0 (As := []) (rest := []) (wc := xH cS x a r (nI qi) (nI (kp + 1)) ++ (txW cI x (nI z) T ++ (stW cI a N v ++ (rgW cI r R u)))) (wc' := xH cS x a r (nI (p_pv qi)) (nI kp) ++ (txW cI x (nI z) T ++ (stW cI a (R qi) v ++ (rgW cI r R u)))) ⟨hx, hb, hml, hown, hts⟩ (c_X4_undo_g l D cI cS cL x a r qi (kp + 1) z T N v R u _ kp rfl hq hkc) lkL_31 rfl rfl ⟨(Nat.le_of_ble_eq_true rfl), (Nat.le_of_ble_eq_true rfl)⟩ (va_recv hK hP (ci := 3) (q0 := 0) rfl rfl) hK hE hP hD hS hA rfl rfl hl.1 rfl (Nat.le_of_ble_eq_true rfl) dL_undo_1 ⟨Nat.zero_le _, Nat.zero_le _⟩ (fun H locs hzz hP hD hS => ?_)
    have hP : va_P D vwCl (xH cS x a r (nI (p_pv qi)) (nI kp) ++ (txW cI x (nI z) T ++ (stW cI a (R qi) v ++ (rgW cI r R u)))) H := hP
    have hD : va_D (va_A (xH cS x a r (nI qi) (nI (kp + 1)) ++ (txW cI x (nI z) T ++ (stW cI a N v ++ (rgW cI r R u)))) s.heap.size) (xH cS x a r (nI (p_pv qi)) (nI kp) ++ (txW cI x (nI z) T ++ (stW cI a (R qi) v ++ (rgW cI r R u)))) := hD
    exact k_xMe (Wf := fun y9 : AU => xH cS x a r (nI y9.1) (nI y9.2.1) ++ (txW cI x (nI z) T ++ (stW cI a y9.2.2.1 v ++ rgW cI r y9.2.2.2 u))) ((p_pv qi, kp, R qi, R)) hx hb hr hlocks (Nat.le_of_ble_eq_true rfl) (Nat.le_of_ble_eq_true rfl) (Or.inr ⟨kp, rfl, rfl, rfl⟩) hP hS dL_undo_4
