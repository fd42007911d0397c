abbrev rmX4_hose_g : Room := { frames := 3, cells := 0, slots := 0, locals := 57 }
set_option maxHeartbeats 4000000 in
set_option maxRecDepth 100000 in
theorem c_X4_hose_g (l : Launch) (D : va_G) (cI cS cL : ClassId) (x a : Nat → Nat) (r : Nat → Nat → Nat) (lat cnt : Int32) (z : Int32) (T : Nat → Int32) (N : NN) (v : Nat → Int32) (sz : Nat) (n : Nat) (hn : N 1 2 = nI n) (hn14 : n ≤ 14) (k w : Nat) (hkn : k < n) (hw9 : w ≤ 9) : Met l yX4_hose (wy_ yX4_hose cX4_hose 3 (some .int)) rmX4_hose_g (kPc D (kTy cI cS cL) (xH cS x a r lat cnt ++ (txW cI x z T ++ (stW cI a N v))) sz [.ref (x 0), .int (nI k), .int (nI w)]) (kRi (p_hose N k w)) 0 0 noF := by
  refine k_ofW (by decide) (Nat.le_of_ble_eq_true rfl) ?_
  intro p e s m args below meth c hx hb hr hml hts hown hlocks hnm hsz hP hK hD hE ls hl
  subst hsz
  have hl : lv_has ls 3 [(0, .ref (x 0)), (1, .int (nI k)), (2, .int (nI w))] := hl
  have hw09 := (nI_rg (lo := 0) (hi := 9) (by omega) (by omega) (by decide))
  refine lv_aload_n hx hb dX4_hose_0 rfl (lv_at hl 0 rfl) ?_
  refine lv_iload_n hx hb dX4_hose_1 rfl (lv_at hl 1 rfl) ?_
  refine k_rvV (As := [.int (nI k)]) (rest := []) (wc := xH cS x a r lat cnt ++ (txW cI x z T ++ (stW cI a N v))) ⟨hx, hb, hml, hown, hts⟩ (c_X4_requireHose_g l D cI cS cL x a r lat cnt z T N v _ (nI k) (is_hose hn hn14 hkn)) lkX4_61 rfl rfl ⟨(Nat.le_of_ble_eq_true rfl), (Nat.le_of_ble_eq_true rfl)⟩ (va_recv hK hP (ci := 3) (q0 := 0) rfl rfl) hK hE hP hD rfl hl.1 rfl (Nat.le_of_ble_eq_true rfl) dX4_hose_2 ⟨Nat.zero_le _, Nat.zero_le _⟩ ?_
  refine lv_iload_n hx hb dX4_hose_5 rfl (lv_at hl 2 rfl) ?_
  refine lv_iconst (v := 0) hx hb dX4_hose_6 (by decide) ?_
  refine lv_bipush (v := 9) hx hb dX4_hose_7 (by decide) ?_
  refine k_riS (As := [.int (nI w), .int 0, .int 9]) (rest := []) (wc := []) ⟨hx, hb, hml, hown, hts⟩ (c_X4_isWithin l D cI cS cL _ (nI w) 0 9) lkX4_34 rfl rfl ⟨(Nat.le_of_ble_eq_true rfl), (Nat.le_of_ble_eq_true rfl)⟩ hK hE k_nilP (k_nilD (A := va_A (xH cS x a r lat cnt ++ (txW cI x z T ++ (stW cI a N v))) s.heap.size)) rfl hl.1 rfl (Nat.le_of_ble_eq_true rfl) dX4_hose_9 ⟨Nat.zero_le _, Nat.zero_le _⟩ ?_
  refine lv_if_ne (tgt := 25) hx hb dX4_hose_12 (by decide) (fun c1 => ?_) (fun c1 => ?_)
  · have c1 := bI_ne0 c1
    refine lv_iload_n hx hb dX4_hose_25 rfl (lv_at hl 2 rfl) ?_
    by_cases c2 : w = 0
    · subst c2
      refine lv_tableIn (off := 50) (tgt := 76) hx hb dX4_hose_26 (by decide) (by decide) rfl (by decide) ?_
      refine lv_aload_n hx hb dX4_hose_76 rfl (lv_at hl 0 rfl) ?_
      refine g4 hx hb hts hown hK hP 0 rfl 0 (by decide) flX4_10 (fun _ h => h) (v := .ref (a 0)) rfl dX4_hose_77 ?_
      refine g3 hx hb hts hown hK hP 4 rfl 8 (by decide) flX4_68 (fun _ h => h) (v := .ref (a 3)) rfl dX4_hose_80 ?_
      refine lv_iload_n hx hb dX4_hose_83 rfl (lv_at hl 1 rfl) ?_
      refine k_ald (k := k) hx hb hK hP 7 0 rfl rfl rfl (by omega) (by decide) dX4_hose_84 ?_
      exact k_eRi hx hb hr hlocks (by rfl) dX4_hose_85
    by_cases c3 : w = 1
    · subst c3
      refine lv_tableIn (off := 60) (tgt := 86) hx hb dX4_hose_26 (by decide) (by decide) rfl (by decide) ?_
      refine lv_aload_n hx hb dX4_hose_86 rfl (lv_at hl 0 rfl) ?_
      refine g4 hx hb hts hown hK hP 0 rfl 0 (by decide) flX4_10 (fun _ h => h) (v := .ref (a 0)) rfl dX4_hose_87 ?_
      refine g3 hx hb hts hown hK hP 4 rfl 9 (by decide) flX4_72 (fun _ h => h) (v := .ref (a 4)) rfl dX4_hose_90 ?_
      refine lv_iload_n hx hb dX4_hose_93 rfl (lv_at hl 1 rfl) ?_
      refine k_ald (k := k) hx hb hK hP 8 0 rfl rfl rfl (by omega) (by decide) dX4_hose_94 ?_
      exact k_eRi hx hb hr hlocks (by rfl) dX4_hose_95
    by_cases c4 : w = 2
    · subst c4
      refine lv_tableIn (off := 70) (tgt := 96) hx hb dX4_hose_26 (by decide) (by decide) rfl (by decide) ?_
      refine lv_aload_n hx hb dX4_hose_96 rfl (lv_at hl 0 rfl) ?_
      refine g4 hx hb hts hown hK hP 0 rfl 0 (by decide) flX4_10 (fun _ h => h) (v := .ref (a 0)) rfl dX4_hose_97 ?_
      refine g3 hx hb hts hown hK hP 4 rfl 10 (by decide) flX4_164 (fun _ h => h) (v := .ref (a 5)) rfl dX4_hose_100 ?_
      refine lv_iload_n hx hb dX4_hose_103 rfl (lv_at hl 1 rfl) ?_
      refine k_ald (k := k) hx hb hK hP 9 0 rfl rfl rfl (by omega) (by decide) dX4_hose_104 ?_
      exact k_eRi hx hb hr hlocks (by rfl) dX4_hose_105
    by_cases c5 : w = 3
    · subst c5
      refine lv_tableIn (off := 80) (tgt := 106) hx hb dX4_hose_26 (by decide) (by decide) rfl (by decide) ?_
      refine lv_aload_n hx hb dX4_hose_106 rfl (lv_at hl 0 rfl) ?_
      refine g4 hx hb hts hown hK hP 0 rfl 0 (by decide) flX4_10 (fun _ h => h) (v := .ref (a 0)) rfl dX4_hose_107 ?_
      refine g3 hx hb hts hown hK hP 4 rfl 11 (by decide) flX4_167 (fun _ h => h) (v := .ref (a 6)) rfl dX4_hose_110 ?_
      refine lv_iload_n hx hb dX4_hose_113 rfl (lv_at hl 1 rfl) ?_
      refine k_ald (k := k) hx hb hK hP 10 0 rfl rfl rfl (by omega) (by decide) dX4_hose_114 ?_
      exact k_eRi hx hb hr hlocks (by rfl) dX4_hose_115
    by_cases c6 : w = 4
    · subst c6
      refine lv_tableIn (off := 90) (tgt := 116) hx hb dX4_hose_26 (by decide) (by decide) rfl (by decide) ?_
      refine lv_aload_n hx hb dX4_hose_116 rfl (lv_at hl 0 rfl) ?_
      refine g4 hx hb hts hown hK hP 0 rfl 0 (by decide) flX4_10 (fun _ h => h) (v := .ref (a 0)) rfl dX4_hose_117 ?_
      refine g3 hx hb hts hown hK hP 4 rfl 12 (by decide) flX4_170 (fun _ h => h) (v := .ref (a 7)) rfl dX4_hose_120 ?_
      refine lv_iload_n hx hb dX4_hose_123 rfl (lv_at hl 1 rfl) ?_
      refine k_ald (k := k) hx hb hK hP 11 0 rfl rfl rfl (by omega) (by decide) dX4_hose_124 ?_
      exact k_eRi hx hb hr hlocks (by rfl) dX4_hose_125
    by_cases c7 : w = 5
    · subst c7
      refine lv_tableIn (off := 100) (tgt := 126) hx hb dX4_hose_26 (by decide) (by decide) rfl (by decide) ?_
      refine lv_aload_n hx hb dX4_hose_126 rfl (lv_at hl 0 rfl) ?_
      refine g4 hx hb hts hown hK hP 0 rfl 0 (by decide) flX4_10 (fun _ h => h) (v := .ref (a 0)) rfl dX4_hose_127 ?_
      refine lv_iload_n hx hb dX4_hose_130 rfl (lv_at hl 1 rfl) ?_
      refine lv_aload_n hx hb dX4_hose_131 rfl (lv_at hl 0 rfl) ?_
      refine g4 hx hb hts hown hK hP 0 rfl 0 (by decide) flX4_10 (fun _ h => h) (v := .ref (a 0)) rfl dX4_hose_132 ?_
      refine g3 hx hb hts hown hK hP 4 rfl 12 (by decide) flX4_170 (fun _ h => h) (v := .ref (a 7)) rfl dX4_hose_135 ?_
      refine lv_iload_n hx hb dX4_hose_138 rfl (lv_at hl 1 rfl) ?_
      refine k_ald (k := k) hx hb hK hP 11 0 rfl rfl rfl (by omega) (by decide) dX4_hose_139 ?_
      refine k_riV (As := [.int (nI k), .int (N 7 k)]) (rest := []) (wc := stW cI a N v) ⟨hx, hb, hml, hown, hts⟩ (c_X3_strengthAt l D cI cS cL a N v _ k (N 7 k) (by omega)) lkX4_173 rfl rfl ⟨(Nat.le_of_ble_eq_true rfl), (Nat.le_of_ble_eq_true rfl)⟩ (va_recv hK hP (ci := 2) (q0 := 4) rfl rfl) hK hE (va_P_midL (w1 := xH cS x a r lat cnt ++ (txW cI x z T)) (wc := stW cI a N v) (w3 := []) hP) (va_D_midL (w1 := xH cS x a r lat cnt ++ (txW cI x z T)) (wc := stW cI a N v) (w3 := []) hD) rfl hl.1 rfl (Nat.le_of_ble_eq_true rfl) dX4_hose_140 ⟨Nat.zero_le _, Nat.zero_le _⟩ ?_
      exact k_eRi hx hb hr hlocks (by rfl) dX4_hose_143
    by_cases c8 : w = 6
    · subst c8
      refine lv_tableIn (off := 118) (tgt := 144) hx hb dX4_hose_26 (by decide) (by decide) rfl (by decide) ?_
      refine lv_aload_n hx hb dX4_hose_144 rfl (lv_at hl 0 rfl) ?_
      refine g4 hx hb hts hown hK hP 0 rfl 0 (by decide) flX4_10 (fun _ h => h) (v := .ref (a 0)) rfl dX4_hose_145 ?_
      refine g3 hx hb hts hown hK hP 4 rfl 13 (by decide) flX4_176 (fun _ h => h) (v := .ref (a 8)) rfl dX4_hose_148 ?_
      refine lv_iload_n hx hb dX4_hose_151 rfl (lv_at hl 1 rfl) ?_
      refine k_ald (k := k) hx hb hK hP 12 0 rfl rfl rfl (by omega) (by decide) dX4_hose_152 ?_
      exact k_eRi hx hb hr hlocks (by rfl) dX4_hose_153
    by_cases c9 : w = 7
    · subst c9
      refine lv_tableIn (off := 128) (tgt := 154) hx hb dX4_hose_26 (by decide) (by decide) rfl (by decide) ?_
      refine lv_aload_n hx hb dX4_hose_154 rfl (lv_at hl 0 rfl) ?_
      refine g4 hx hb hts hown hK hP 0 rfl 0 (by decide) flX4_10 (fun _ h => h) (v := .ref (a 0)) rfl dX4_hose_155 ?_
      refine g3 hx hb hts hown hK hP 4 rfl 14 (by decide) flX4_81 (fun _ h => h) (v := .ref (a 9)) rfl dX4_hose_158 ?_
      refine lv_iload_n hx hb dX4_hose_161 rfl (lv_at hl 1 rfl) ?_
      refine k_ald (k := k) hx hb hK hP 13 0 rfl rfl rfl (by omega) (by decide) dX4_hose_162 ?_
      exact k_eRi hx hb hr hlocks (by rfl) dX4_hose_163
    by_cases c10 : w = 8
    · subst c10
      refine lv_tableIn (off := 138) (tgt := 164) hx hb dX4_hose_26 (by decide) (by decide) rfl (by decide) ?_
      refine lv_aload_n hx hb dX4_hose_164 rfl (lv_at hl 0 rfl) ?_
      refine g4 hx hb hts hown hK hP 0 rfl 0 (by decide) flX4_10 (fun _ h => h) (v := .ref (a 0)) rfl dX4_hose_165 ?_
      refine g3 hx hb hts hown hK hP 4 rfl 15 (by decide) flX4_179 (fun _ h => h) (v := .ref (a 10)) rfl dX4_hose_168 ?_
      refine lv_iload_n hx hb dX4_hose_171 rfl (lv_at hl 1 rfl) ?_
      refine k_ald (k := k) hx hb hK hP 14 0 rfl rfl rfl (by omega) (by decide) dX4_hose_172 ?_
      exact k_eRi hx hb hr hlocks (by rfl) dX4_hose_173
    have c11 : w = 9 := by omega
    subst c11
    refine lv_tableOut (tgt := 174) hx hb dX4_hose_26 (Or.inr (by decide)) (by decide) ?_
    refine lv_aload_n hx hb dX4_hose_174 rfl (lv_at hl 0 rfl) ?_
    refine g4 hx hb hts hown hK hP 0 rfl 0 (by decide) flX4_10 (fun _ h => h) (v := .ref (a 0)) rfl dX4_hose_175 ?_
    refine lv_iload_n hx hb dX4_hose_178 rfl (lv_at hl 1 rfl) ?_
    refine k_riV (As := [.int (nI k)]) (rest := []) (wc := stW cI a N v) ⟨hx, hb, hml, hown, hts⟩ (c_X3_reasonOf l D cI cS cL a N v _ k (by omega)) lkX4_182 rfl rfl ⟨(Nat.le_of_ble_eq_true rfl), (Nat.le_of_ble_eq_true rfl)⟩ (va_recv hK hP (ci := 2) (q0 := 4) rfl rfl) hK hE (va_P_midL (w1 := xH cS x a r lat cnt ++ (txW cI x z T)) (wc := stW cI a N v) (w3 := []) hP) (va_D_midL (w1 := xH cS x a r lat cnt ++ (txW cI x z T)) (wc := stW cI a N v) (w3 := []) hD) rfl hl.1 rfl (Nat.le_of_ble_eq_true rfl) dX4_hose_179 ⟨Nat.zero_le _, Nat.zero_le _⟩ ?_
    exact k_eRi hx hb hr hlocks (by rfl) dX4_hose_182
  · have c1 := bI_eq0 c1
    exact absurd hw09 c1

abbrev rmX4_truck_g : Room := { frames := 4, cells := 0, slots := 0, locals := 86 }
set_option maxHeartbeats 4000000 in
set_option maxRecDepth 100000 in
theorem c_X4_truck_g (l : Launch) (D : va_G) (cI cS cL : ClassId) (x a : Nat → Nat) (r : Nat → Nat → Nat) (lat cnt : Int32) (z : Int32) (T : Nat → Int32) (N : NN) (v : Nat → Int32) (sz : Nat) (n : Nat) (hn : N 1 2 = nI n) (hn14 : n ≤ 14) (t w : Nat) (ht : t < 3) (hw6 : w ≤ 6) : Met l yX4_truck (wy_ yX4_truck cX4_truck 4 (some .int)) rmX4_truck_g (kPc D (kTy cI cS cL) (xH cS x a r lat cnt ++ (txW cI x z T ++ (stW cI a N v))) sz [.ref (x 0), .int (nI t), .int (nI w)]) (kMi D (xH cS x a r lat cnt ++ (txW cI x z T ++ (stW cI a N v))) (xH cS x a r lat cnt ++ (txW cI x z T ++ (stW cI a N (p_lay N (nI t) (-1) n)))) sz (p_truck N n t w)) 0 0 (va_A (xH cS x a r lat cnt ++ (txW cI x z T ++ (stW cI a N v))) sz) := by
  refine k_ofW (by decide) (Nat.le_of_ble_eq_true rfl) ?_
  intro p e s m args below meth c hx hb hr hml hts hown hlocks hnm hsz hP hK hD hE ls hl
  subst hsz
  have hA : ∀ q : Nat, s.heap.size ≤ q → (va_A (xH cS x a r lat cnt ++ (txW cI x z T ++ (stW cI a N v))) s.heap.size) q := fun q h => Or.inr h
  have hS : va_S (va_A (xH cS x a r lat cnt ++ (txW cI x z T ++ (stW cI a N v))) s.heap.size) s.heap s.heap [] := va_S.rf
  have hl : lv_has ls 4 [(0, .ref (x 0)), (1, .int (nI t)), (2, .int (nI w))] := hl
  have hw06 := (nI_rg (lo := 0) (hi := 6) (by omega) (by omega) (by decide))
  refine lv_iload_n hx hb dX4_truck_0 rfl (lv_at hl 1 rfl) ?_
  refine k_rvS (As := [.int (nI t)]) (rest := []) (wc := []) ⟨hx, hb, hml, hown, hts⟩ (c_X4_requireTruck_g l D cI cS cL _ (nI t) (nI_rg (lo := 0) (hi := 2) (by omega) (by omega) (by decide))) lkX4_102 rfl rfl ⟨(Nat.le_of_ble_eq_true rfl), (Nat.le_of_ble_eq_true rfl)⟩ hK hE k_nilP (k_nilD (A := va_A (xH cS x a r lat cnt ++ (txW cI x z T ++ (stW cI a N v))) s.heap.size)) rfl hl.1 rfl (Nat.le_of_ble_eq_true rfl) dX4_truck_1 ⟨Nat.zero_le _, Nat.zero_le _⟩ ?_
  refine lv_iload_n hx hb dX4_truck_4 rfl (lv_at hl 2 rfl) ?_
  refine lv_iconst (v := 0) hx hb dX4_truck_5 (by decide) ?_
  refine lv_bipush (v := 6) hx hb dX4_truck_6 (by decide) ?_
  refine k_riS (As := [.int (nI w), .int 0, .int 6]) (rest := []) (wc := []) ⟨hx, hb, hml, hown, hts⟩ (c_X4_isWithin l D cI cS cL _ (nI w) 0 6) lkX4_34 rfl rfl ⟨(Nat.le_of_ble_eq_true rfl), (Nat.le_of_ble_eq_true rfl)⟩ hK hE k_nilP (k_nilD (A := va_A (xH cS x a r lat cnt ++ (txW cI x z T ++ (stW cI a N v))) s.heap.size)) rfl hl.1 rfl (Nat.le_of_ble_eq_true rfl) dX4_truck_8 ⟨Nat.zero_le _, Nat.zero_le _⟩ ?_
  refine lv_if_ne (tgt := 24) hx hb dX4_truck_11 (by decide) (fun c1 => ?_) (fun c1 => ?_)
  · have c1 := bI_ne0 c1
    refine lv_aload_n hx hb dX4_truck_24 rfl (lv_at hl 0 rfl) ?_
    refine g4 hx hb hts hown hK hP 0 rfl 0 (by decide) flX4_10 (fun _ h => h) (v := .ref (a 0)) rfl dX4_truck_25 ?_
    refine lv_iload_n hx hb dX4_truck_28 rfl (lv_at hl 1 rfl) ?_
    refine lv_iconst (v := (-1)) hx hb dX4_truck_29 (by decide) ?_
    refine k_miV (As := [.int (nI t), .int (-1)]) (rest := []) (w1 := xH cS x a r lat cnt ++ (txW cI x z T)) (wc := stW cI a N v) (wc' := stW cI a N (p_lay N (nI t) (-1) n)) (w3 := []) ⟨hx, hb, hml, hown, hts⟩ (c_X3_layLine l D cI cS cL a N v _ n t (-1) hn hn14 (by omega)) lkX4_187 rfl rfl ⟨(Nat.le_of_ble_eq_true rfl), (Nat.le_of_ble_eq_true rfl)⟩ (va_recv hK hP (ci := 2) (q0 := 4) rfl rfl) hK hE hP hD hS hA rfl rfl hl.1 rfl (Nat.le_of_ble_eq_true rfl) dX4_truck_30 ⟨Nat.zero_le _, Nat.zero_le _⟩ (fun H locs hzz hP hD hS => ?_)
    have hP : va_P D vwCl (xH cS x a r lat cnt ++ (txW cI x z T ++ (stW cI a N (p_lay N (nI t) (-1) n)))) H := hP
    have hD : va_D (va_A (xH cS x a r lat cnt ++ (txW cI x z T ++ (stW cI a N v))) s.heap.size) (xH cS x a r lat cnt ++ (txW cI x z T ++ (stW cI a N (p_lay N (nI t) (-1) n)))) := hD
    refine lv_istore_n (lv' := [(3, .int (bI (decide (N 2 t ≤ p_lay N (nI t) (-1) n 0)))), (0, .ref (x 0)), (1, .int (nI t)), (2, .int (nI w))]) hx hb dX4_truck_33 rfl hl (by decide) rfl (fun ls hl => ?_)
    refine lv_iload_n hx hb dX4_truck_34 rfl (lv_at hl 3 rfl) ?_
    by_cases c2 : w = 0
    · subst c2
      refine lv_tableIn (off := 37) (tgt := 72) hx hb dX4_truck_35 (by decide) (by decide) rfl (by decide) ?_
      refine lv_aload_n hx hb dX4_truck_72 rfl (lv_at hl 1 rfl) ?_
      refine g4 hx hb hts hown hK hP 0 rfl 0 (by decide) flX4_10 (fun _ h => h) (v := .ref (a 0)) rfl dX4_truck_73 ?_
      refine g3 hx hb hts hown hK hP 4 rfl 6 (by decide) flX4_107 (fun _ h => h) (v := .ref (a 1)) rfl dX4_truck_76 ?_
      refine lv_iload_n hx hb dX4_truck_79 rfl (lv_at hl 2 rfl) ?_
      refine k_ald (k := t) hx hb hK hP 5 0 rfl rfl rfl (by omega) (by decide) dX4_truck_80 ?_
      have hP : va_P D vwCl (xH cS x a r lat cnt ++ (txW cI x z T ++ (stW cI a N (p_lay N (nI t) (-1) n)))) H := hP
      have hD : va_D (va_A (xH cS x a r lat cnt ++ (txW cI x z T ++ (stW cI a N v))) s.heap.size) (xH cS x a r lat cnt ++ (txW cI x z T ++ (stW cI a N (p_lay N (nI t) (-1) n)))) := hD
      exact k_eMi hx hb hr hlocks hP hS (by rfl) dX4_truck_81
    by_cases c4 : w = 1
    · subst c4
      refine lv_tableIn (off := 47) (tgt := 82) hx hb dX4_truck_35 (by decide) (by decide) rfl (by decide) ?_
      refine lv_aload_n hx hb dX4_truck_82 rfl (lv_at hl 1 rfl) ?_
      refine g4 hx hb hts hown hK hP 0 rfl 0 (by decide) flX4_10 (fun _ h => h) (v := .ref (a 0)) rfl dX4_truck_83 ?_
      refine g3 hx hb hts hown hK hP 4 rfl 16 (by decide) flX4_190 (fun _ h => h) (v := .ref (a 11)) rfl dX4_truck_86 ?_
      refine g2 hx hb hts hown hK hP 15 rfl 0 (by decide) flX4_194 (fun _ h => h) (v := .int ((p_lay N (nI t) (-1) n) 0)) rfl dX4_truck_89 ?_
      have hP : va_P D vwCl (xH cS x a r lat cnt ++ (txW cI x z T ++ (stW cI a N (p_lay N (nI t) (-1) n)))) H := hP
      have hD : va_D (va_A (xH cS x a r lat cnt ++ (txW cI x z T ++ (stW cI a N v))) s.heap.size) (xH cS x a r lat cnt ++ (txW cI x z T ++ (stW cI a N (p_lay N (nI t) (-1) n)))) := hD
      exact k_eMi hx hb hr hlocks hP hS (by rfl) dX4_truck_92
    by_cases c6 : w = 2
    · subst c6
      refine lv_tableIn (off := 58) (tgt := 93) hx hb dX4_truck_35 (by decide) (by decide) rfl (by decide) ?_
      refine lv_aload_n hx hb dX4_truck_93 rfl (lv_at hl 1 rfl) ?_
      refine g4 hx hb hts hown hK hP 0 rfl 0 (by decide) flX4_10 (fun _ h => h) (v := .ref (a 0)) rfl dX4_truck_94 ?_
      refine lv_iload_n hx hb dX4_truck_97 rfl (lv_at hl 2 rfl) ?_
      refine k_riV (As := [.int (nI t)]) (rest := []) (wc := stW cI a N (p_lay N (nI t) (-1) n)) ⟨hx, hb, hml, hown, hts⟩ (c_X3_hosesAt l D cI cS cL a N (p_lay N (nI t) (-1) n) _ n (nI t) hn hn14) lkX4_199 rfl rfl ⟨(Nat.le_of_ble_eq_true rfl), (Nat.le_of_ble_eq_true rfl)⟩ (va_recv hK hP (ci := 2) (q0 := 4) rfl rfl) hK hE (va_P_midL (w1 := xH cS x a r lat cnt ++ (txW cI x z T)) (wc := stW cI a N (p_lay N (nI t) (-1) n)) (w3 := []) hP) (va_D_midL (w1 := xH cS x a r lat cnt ++ (txW cI x z T)) (wc := stW cI a N (p_lay N (nI t) (-1) n)) (w3 := []) hD) rfl hl.1 rfl (Nat.le_of_ble_eq_true rfl) dX4_truck_98 ⟨Nat.zero_le _, Nat.zero_le _⟩ ?_
      have hP : va_P D vwCl (xH cS x a r lat cnt ++ (txW cI x z T ++ (stW cI a N (p_lay N (nI t) (-1) n)))) H := hP
      have hD : va_D (va_A (xH cS x a r lat cnt ++ (txW cI x z T ++ (stW cI a N v))) s.heap.size) (xH cS x a r lat cnt ++ (txW cI x z T ++ (stW cI a N (p_lay N (nI t) (-1) n)))) := hD
      exact k_eMi hx hb hr hlocks hP hS (by rfl) dX4_truck_101
    by_cases c8 : w = 3
    · subst c8
      refine lv_tableIn (off := 67) (tgt := 102) hx hb dX4_truck_35 (by decide) (by decide) rfl (by decide) ?_
      refine lv_aload_n hx hb dX4_truck_102 rfl (lv_at hl 1 rfl) ?_
      refine g4 hx hb hts hown hK hP 0 rfl 0 (by decide) flX4_10 (fun _ h => h) (v := .ref (a 0)) rfl dX4_truck_103 ?_
      refine lv_iload_n hx hb dX4_truck_106 rfl (lv_at hl 2 rfl) ?_
      refine k_riV (As := [.int (nI t)]) (rest := []) (wc := stW cI a N (p_lay N (nI t) (-1) n)) ⟨hx, hb, hml, hown, hts⟩ (c_X3_readyHosesAt l D cI cS cL a N (p_lay N (nI t) (-1) n) _ n (nI t) hn hn14) lkX4_202 rfl rfl ⟨(Nat.le_of_ble_eq_true rfl), (Nat.le_of_ble_eq_true rfl)⟩ (va_recv hK hP (ci := 2) (q0 := 4) rfl rfl) hK hE (va_P_midL (w1 := xH cS x a r lat cnt ++ (txW cI x z T)) (wc := stW cI a N (p_lay N (nI t) (-1) n)) (w3 := []) hP) (va_D_midL (w1 := xH cS x a r lat cnt ++ (txW cI x z T)) (wc := stW cI a N (p_lay N (nI t) (-1) n)) (w3 := []) hD) rfl hl.1 rfl (Nat.le_of_ble_eq_true rfl) dX4_truck_107 ⟨Nat.zero_le _, Nat.zero_le _⟩ ?_
      have hP : va_P D vwCl (xH cS x a r lat cnt ++ (txW cI x z T ++ (stW cI a N (p_lay N (nI t) (-1) n)))) H := hP
      have hD : va_D (va_A (xH cS x a r lat cnt ++ (txW cI x z T ++ (stW cI a N v))) s.heap.size) (xH cS x a r lat cnt ++ (txW cI x z T ++ (stW cI a N (p_lay N (nI t) (-1) n)))) := hD
      exact k_eMi hx hb hr hlocks hP hS (by rfl) dX4_truck_110
    by_cases c10 : w = 4
    · subst c10
      refine lv_tableIn (off := 76) (tgt := 111) hx hb dX4_truck_35 (by decide) (by decide) rfl (by decide) ?_
      refine lv_aload_n hx hb dX4_truck_111 rfl (lv_at hl 1 rfl) ?_
      refine g4 hx hb hts hown hK hP 0 rfl 0 (by decide) flX4_10 (fun _ h => h) (v := .ref (a 0)) rfl dX4_truck_112 ?_
      refine g3 hx hb hts hown hK hP 4 rfl 16 (by decide) flX4_190 (fun _ h => h) (v := .ref (a 11)) rfl dX4_truck_115 ?_
      refine g2 hx hb hts hown hK hP 15 rfl 1 (by decide) flX4_205 (fun _ h => h) (v := .int ((p_lay N (nI t) (-1) n) 1)) rfl dX4_truck_118 ?_
      have hP : va_P D vwCl (xH cS x a r lat cnt ++ (txW cI x z T ++ (stW cI a N (p_lay N (nI t) (-1) n)))) H := hP
      have hD : va_D (va_A (xH cS x a r lat cnt ++ (txW cI x z T ++ (stW cI a N v))) s.heap.size) (xH cS x a r lat cnt ++ (txW cI x z T ++ (stW cI a N (p_lay N (nI t) (-1) n)))) := hD
      exact k_eMi hx hb hr hlocks hP hS (by rfl) dX4_truck_121
    by_cases c12 : w = 5
    · subst c12
      refine lv_tableIn (off := 87) (tgt := 122) hx hb dX4_truck_35 (by decide) (by decide) rfl (by decide) ?_
      refine lv_aload_n hx hb dX4_truck_122 rfl (lv_at hl 1 rfl) ?_
      refine g4 hx hb hts hown hK hP 0 rfl 0 (by decide) flX4_10 (fun _ h => h) (v := .ref (a 0)) rfl dX4_truck_123 ?_
      refine g3 hx hb hts hown hK hP 4 rfl 16 (by decide) flX4_190 (fun _ h => h) (v := .ref (a 11)) rfl dX4_truck_126 ?_
      refine g2 hx hb hts hown hK hP 15 rfl 2 (by decide) flX4_208 (fun _ h => h) (v := .int ((p_lay N (nI t) (-1) n) 2)) rfl dX4_truck_129 ?_
      have hP : va_P D vwCl (xH cS x a r lat cnt ++ (txW cI x z T ++ (stW cI a N (p_lay N (nI t) (-1) n)))) H := hP
      have hD : va_D (va_A (xH cS x a r lat cnt ++ (txW cI x z T ++ (stW cI a N v))) s.heap.size) (xH cS x a r lat cnt ++ (txW cI x z T ++ (stW cI a N (p_lay N (nI t) (-1) n)))) := hD
      exact k_eMi hx hb hr hlocks hP hS (by rfl) dX4_truck_132
    have c14 : w = 6 := by omega
    subst c14
    refine lv_tableOut (tgt := 133) hx hb dX4_truck_35 (Or.inr (by decide)) (by decide) ?_
    refine lv_iload_n hx hb dX4_truck_133 rfl (lv_at hl 0 rfl) ?_
    refine lv_if_eq (tgt := 141) hx hb dX4_truck_134 (by decide) (fun c15 => ?_) (fun c15 => ?_)
    · have c15 := bI_eq0 c15
      refine lv_iconst (v := 0) hx hb dX4_truck_141 (by decide) ?_
      have hP : va_P D vwCl (xH cS x a r lat cnt ++ (txW cI x z T ++ (stW cI a N (p_lay N (nI t) (-1) n)))) H := hP
      have hD : va_D (va_A (xH cS x a r lat cnt ++ (txW cI x z T ++ (stW cI a N v))) s.heap.size) (xH cS x a r lat cnt ++ (txW cI x z T ++ (stW cI a N (p_lay N (nI t) (-1) n)))) := hD
      exact k_eMi hx hb hr hlocks hP hS (by exact bI_zero (by simp [p_whole, c15])) dX4_truck_142
    · have c15 := bI_ne0 c15
      refine lv_iconst (v := 1) hx hb dX4_truck_137 (by decide) ?_
      refine lv_goto (tgt := 142) hx hb dX4_truck_138 (by decide) ?_
      have hP : va_P D vwCl (xH cS x a r lat cnt ++ (txW cI x z T ++ (stW cI a N (p_lay N (nI t) (-1) n)))) H := hP
      have hD : va_D (va_A (xH cS x a r lat cnt ++ (txW cI x z T ++ (stW cI a N v))) s.heap.size) (xH cS x a r lat cnt ++ (txW cI x z T ++ (stW cI a N (p_lay N (nI t) (-1) n)))) := hD
      exact k_eMi hx hb hr hlocks hP hS (by exact bI_one (by simp [p_whole, c15])) dX4_truck_142
  · have c1 := bI_eq0 c1
    exact absurd hw06 c1

abbrev rmX4_count_g : Room := { frames := 5, cells := 0, slots := 0, locals := 108 }
set_option maxHeartbeats 4000000 in
set_option maxRecDepth 100000 in
theorem c_X4_count_g (l : Launch) (D : va_G) (cI cS cL : ClassId) (x a : Nat → Nat) (r : Nat → Nat → Nat) (lat cnt : Int32) (z : Int32) (T : Nat → Int32) (N : NN) (v : Nat → Int32) (sz : Nat) (n : Nat) (hn : N 1 2 = nI n) (hn14 : n ≤ 14) (w : Nat) (hw10 : w ≤ 10) : Met l yX4_count (wy_ yX4_count cX4_count 2 (some .int)) rmX4_count_g (kPc D (kTy cI cS cL) (xH cS x a r lat cnt ++ (txW cI x z T ++ (stW cI a N v))) sz [.ref (x 0), .int (nI w)]) (kMi D (xH cS x a r lat cnt ++ (txW cI x z T ++ (stW cI a N v))) (xH cS x a r lat cnt ++ (txW cI x z T ++ (stW cI a N (c_v N n v w)))) sz (p_count N n cnt w)) 0 0 (va_A (xH cS x a r lat cnt ++ (txW cI x z T ++ (stW cI a N v))) sz) := by
  refine k_ofW (by decide) (Nat.le_of_ble_eq_true rfl) ?_
  intro p e s m args below meth c hx hb hr hml hts hown hlocks hnm hsz hP hK hD hE ls hl
  subst hsz
  have hA : ∀ q : Nat, s.heap.size ≤ q → (va_A (xH cS x a r lat cnt ++ (txW cI x z T ++ (stW cI a N v))) s.heap.size) q := fun q h => Or.inr h
  have hS : va_S (va_A (xH cS x a r lat cnt ++ (txW cI x z T ++ (stW cI a N v))) s.heap.size) s.heap s.heap [] := va_S.rf
  have hl : lv_has ls 2 [(0, .ref (x 0)), (1, .int (nI w))] := hl
  have hw010 := (nI_rg (lo := 0) (hi := 10) (by omega) (by omega) (by decide))
  refine lv_iload_n hx hb dX4_count_0 rfl (lv_at hl 1 rfl) ?_
  refine lv_iconst (v := 0) hx hb dX4_count_1 (by decide) ?_
  refine lv_bipush (v := 10) hx hb dX4_count_2 (by decide) ?_
  refine k_riS (As := [.int (nI w), .int 0, .int 10]) (rest := []) (wc := []) ⟨hx, hb, hml, hown, hts⟩ (c_X4_isWithin l D cI cS cL _ (nI w) 0 10) lkX4_34 rfl rfl ⟨(Nat.le_of_ble_eq_true rfl), (Nat.le_of_ble_eq_true rfl)⟩ hK hE k_nilP (k_nilD (A := va_A (xH cS x a r lat cnt ++ (txW cI x z T ++ (stW cI a N v))) s.heap.size)) rfl hl.1 rfl (Nat.le_of_ble_eq_true rfl) dX4_count_4 ⟨Nat.zero_le _, Nat.zero_le _⟩ ?_
  refine lv_if_ne (tgt := 20) hx hb dX4_count_7 (by decide) (fun c1 => ?_) (fun c1 => ?_)
  · have c1 := bI_ne0 c1
    refine lv_iload_n hx hb dX4_count_20 rfl (lv_at hl 1 rfl) ?_
    by_cases c2 : w = 0
    · subst c2
      refine lv_tableIn (off := 55) (tgt := 76) hx hb dX4_count_21 (by decide) (by decide) rfl (by decide) ?_
      refine lv_aload_n hx hb dX4_count_76 rfl (lv_at hl 0 rfl) ?_
      refine g4 hx hb hts hown hK hP 0 rfl 0 (by decide) flX4_10 (fun _ h => h) (v := .ref (a 0)) rfl dX4_count_77 ?_
      refine g3 hx hb hts hown hK hP 4 rfl 0 (by decide) flX4_127 (fun _ h => h) (v := .int (N 1 0)) rfl dX4_count_80 ?_
      have hP : va_P D vwCl (xH cS x a r lat cnt ++ (txW cI x z T ++ (stW cI a N (c_v N n v 0)))) s.heap := hP
      have hD : va_D (va_A (xH cS x a r lat cnt ++ (txW cI x z T ++ (stW cI a N v))) s.heap.size) (xH cS x a r lat cnt ++ (txW cI x z T ++ (stW cI a N (c_v N n v 0)))) := hD
      exact k_eMi hx hb hr hlocks hP hS (by rfl) dX4_count_83
    by_cases c4 : w = 1
    · subst c4
      refine lv_tableIn (off := 63) (tgt := 84) hx hb dX4_count_21 (by decide) (by decide) rfl (by decide) ?_
      refine lv_aload_n hx hb dX4_count_84 rfl (lv_at hl 0 rfl) ?_
      refine g4 hx hb hts hown hK hP 0 rfl 0 (by decide) flX4_10 (fun _ h => h) (v := .ref (a 0)) rfl dX4_count_85 ?_
      refine g3 hx hb hts hown hK hP 4 rfl 1 (by decide) flX4_213 (fun _ h => h) (v := .int (N 1 1)) rfl dX4_count_88 ?_
      have hP : va_P D vwCl (xH cS x a r lat cnt ++ (txW cI x z T ++ (stW cI a N (c_v N n v 1)))) s.heap := hP
      have hD : va_D (va_A (xH cS x a r lat cnt ++ (txW cI x z T ++ (stW cI a N v))) s.heap.size) (xH cS x a r lat cnt ++ (txW cI x z T ++ (stW cI a N (c_v N n v 1)))) := hD
      exact k_eMi hx hb hr hlocks hP hS (by rfl) dX4_count_91
    by_cases c6 : w = 2
    · subst c6
      refine lv_tableIn (off := 71) (tgt := 92) hx hb dX4_count_21 (by decide) (by decide) rfl (by decide) ?_
      refine lv_aload_n hx hb dX4_count_92 rfl (lv_at hl 0 rfl) ?_
      refine g4 hx hb hts hown hK hP 0 rfl 0 (by decide) flX4_10 (fun _ h => h) (v := .ref (a 0)) rfl dX4_count_93 ?_
      refine g3 hx hb hts hown hK hP 4 rfl 2 (by decide) flX4_216 (fun _ h => h) (v := .int (N 1 2)) rfl dX4_count_96 ?_
      have hP : va_P D vwCl (xH cS x a r lat cnt ++ (txW cI x z T ++ (stW cI a N (c_v N n v 2)))) s.heap := hP
      have hD : va_D (va_A (xH cS x a r lat cnt ++ (txW cI x z T ++ (stW cI a N v))) s.heap.size) (xH cS x a r lat cnt ++ (txW cI x z T ++ (stW cI a N (c_v N n v 2)))) := hD
      exact k_eMi hx hb hr hlocks hP hS (by rfl) dX4_count_99
    by_cases c8 : w = 3
    · subst c8
      refine lv_tableIn (off := 79) (tgt := 100) hx hb dX4_count_21 (by decide) (by decide) rfl (by decide) ?_
      refine lv_aload_n hx hb dX4_count_100 rfl (lv_at hl 0 rfl) ?_
      refine g4 hx hb hts hown hK hP 0 rfl 0 (by decide) flX4_10 (fun _ h => h) (v := .ref (a 0)) rfl dX4_count_101 ?_
      refine lv_iconst (v := (-1)) hx hb dX4_count_104 (by decide) ?_
      refine k_riV (As := [.int (-1)]) (rest := []) (wc := stW cI a N v) ⟨hx, hb, hml, hown, hts⟩ (c_X3_hosesAt l D cI cS cL a N v _ n (-1) hn hn14) lkX4_199 rfl rfl ⟨(Nat.le_of_ble_eq_true rfl), (Nat.le_of_ble_eq_true rfl)⟩ (va_recv hK hP (ci := 2) (q0 := 4) rfl rfl) hK hE (va_P_midL (w1 := xH cS x a r lat cnt ++ (txW cI x z T)) (wc := stW cI a N v) (w3 := []) hP) (va_D_midL (w1 := xH cS x a r lat cnt ++ (txW cI x z T)) (wc := stW cI a N v) (w3 := []) hD) rfl hl.1 rfl (Nat.le_of_ble_eq_true rfl) dX4_count_105 ⟨Nat.zero_le _, Nat.zero_le _⟩ ?_
      have hP : va_P D vwCl (xH cS x a r lat cnt ++ (txW cI x z T ++ (stW cI a N (c_v N n v 3)))) s.heap := hP
      have hD : va_D (va_A (xH cS x a r lat cnt ++ (txW cI x z T ++ (stW cI a N v))) s.heap.size) (xH cS x a r lat cnt ++ (txW cI x z T ++ (stW cI a N (c_v N n v 3)))) := hD
      exact k_eMi hx hb hr hlocks hP hS (by rfl) dX4_count_108
    by_cases c10 : w = 4
    · subst c10
      refine lv_tableIn (off := 88) (tgt := 109) hx hb dX4_count_21 (by decide) (by decide) rfl (by decide) ?_
      refine lv_aload_n hx hb dX4_count_109 rfl (lv_at hl 0 rfl) ?_
      refine g4 hx hb hts hown hK hP 0 rfl 0 (by decide) flX4_10 (fun _ h => h) (v := .ref (a 0)) rfl dX4_count_110 ?_
      refine k_riV (As := []) (rest := []) (wc := stW cI a N v) ⟨hx, hb, hml, hown, hts⟩ (c_X3_readyHoses l D cI cS cL a N v _ n hn hn14) lkX4_219 rfl rfl ⟨(Nat.le_of_ble_eq_true rfl), (Nat.le_of_ble_eq_true rfl)⟩ (va_recv hK hP (ci := 2) (q0 := 4) rfl rfl) hK hE (va_P_midL (w1 := xH cS x a r lat cnt ++ (txW cI x z T)) (wc := stW cI a N v) (w3 := []) hP) (va_D_midL (w1 := xH cS x a r lat cnt ++ (txW cI x z T)) (wc := stW cI a N v) (w3 := []) hD) rfl hl.1 rfl (Nat.le_of_ble_eq_true rfl) dX4_count_113 ⟨Nat.zero_le _, Nat.zero_le _⟩ ?_
      have hP : va_P D vwCl (xH cS x a r lat cnt ++ (txW cI x z T ++ (stW cI a N (c_v N n v 4)))) s.heap := hP
      have hD : va_D (va_A (xH cS x a r lat cnt ++ (txW cI x z T ++ (stW cI a N v))) s.heap.size) (xH cS x a r lat cnt ++ (txW cI x z T ++ (stW cI a N (c_v N n v 4)))) := hD
      exact k_eMi hx hb hr hlocks hP hS (by rfl) dX4_count_116
    by_cases c12 : w = 5
    · subst c12
      refine lv_tableIn (off := 96) (tgt := 117) hx hb dX4_count_21 (by decide) (by decide) rfl (by decide) ?_
      refine lv_aload_n hx hb dX4_count_117 rfl (lv_at hl 0 rfl) ?_
      refine g4 hx hb hts hown hK hP 0 rfl 0 (by decide) flX4_10 (fun _ h => h) (v := .ref (a 0)) rfl dX4_count_118 ?_
      refine lv_iconst (v := 4) hx hb dX4_count_121 (by decide) ?_
      refine k_riV (As := [.int 4]) (rest := []) (wc := stW cI a N v) ⟨hx, hb, hml, hown, hts⟩ (c_X3_hosesAt l D cI cS cL a N v _ n 4 hn hn14) lkX4_199 rfl rfl ⟨(Nat.le_of_ble_eq_true rfl), (Nat.le_of_ble_eq_true rfl)⟩ (va_recv hK hP (ci := 2) (q0 := 4) rfl rfl) hK hE (va_P_midL (w1 := xH cS x a r lat cnt ++ (txW cI x z T)) (wc := stW cI a N v) (w3 := []) hP) (va_D_midL (w1 := xH cS x a r lat cnt ++ (txW cI x z T)) (wc := stW cI a N v) (w3 := []) hD) rfl hl.1 rfl (Nat.le_of_ble_eq_true rfl) dX4_count_122 ⟨Nat.zero_le _, Nat.zero_le _⟩ ?_
      have hP : va_P D vwCl (xH cS x a r lat cnt ++ (txW cI x z T ++ (stW cI a N (c_v N n v 5)))) s.heap := hP
      have hD : va_D (va_A (xH cS x a r lat cnt ++ (txW cI x z T ++ (stW cI a N v))) s.heap.size) (xH cS x a r lat cnt ++ (txW cI x z T ++ (stW cI a N (c_v N n v 5)))) := hD
      exact k_eMi hx hb hr hlocks hP hS (by rfl) dX4_count_125
    by_cases c14 : w = 6
    · subst c14
      refine lv_tableIn (off := 105) (tgt := 126) hx hb dX4_count_21 (by decide) (by decide) rfl (by decide) ?_
      refine lv_aload_n hx hb dX4_count_126 rfl (lv_at hl 0 rfl) ?_
      refine g4 hx hb hts hown hK hP 0 rfl 0 (by decide) flX4_10 (fun _ h => h) (v := .ref (a 0)) rfl dX4_count_127 ?_
      refine k_miV (As := []) (rest := []) (w1 := xH cS x a r lat cnt ++ (txW cI x z T)) (wc := stW cI a N v) (wc' := stW cI a N (p_wtv N n v 3)) (w3 := []) ⟨hx, hb, hml, hown, hts⟩ (c_X3_wholeTrucks l D cI cS cL a N v _ n hn hn14) lkX4_222 rfl rfl ⟨(Nat.le_of_ble_eq_true rfl), (Nat.le_of_ble_eq_true rfl)⟩ (va_recv hK hP (ci := 2) (q0 := 4) rfl rfl) hK hE hP hD hS hA rfl rfl hl.1 rfl (Nat.le_of_ble_eq_true rfl) dX4_count_130 ⟨Nat.zero_le _, Nat.zero_le _⟩ (fun H locs hzz hP hD hS => ?_)
      have hP : va_P D vwCl (xH cS x a r lat cnt ++ (txW cI x z T ++ (stW cI a N (p_wtv N n v 3)))) H := hP
      have hD : va_D (va_A (xH cS x a r lat cnt ++ (txW cI x z T ++ (stW cI a N v))) s.heap.size) (xH cS x a r lat cnt ++ (txW cI x z T ++ (stW cI a N (p_wtv N n v 3)))) := hD
      have hP : va_P D vwCl (xH cS x a r lat cnt ++ (txW cI x z T ++ (stW cI a N (c_v N n v 6)))) H := hP
      have hD : va_D (va_A (xH cS x a r lat cnt ++ (txW cI x z T ++ (stW cI a N v))) s.heap.size) (xH cS x a r lat cnt ++ (txW cI x z T ++ (stW cI a N (c_v N n v 6)))) := hD
      exact k_eMi hx hb hr hlocks hP hS (by rfl) dX4_count_133
    by_cases c16 : w = 7
    · subst c16
      refine lv_tableIn (off := 113) (tgt := 134) hx hb dX4_count_21 (by decide) (by decide) rfl (by decide) ?_
      refine lv_aload_n hx hb dX4_count_134 rfl (lv_at hl 0 rfl) ?_
      refine g4 hx hb hts hown hK hP 0 rfl 0 (by decide) flX4_10 (fun _ h => h) (v := .ref (a 0)) rfl dX4_count_135 ?_
      refine g3 hx hb hts hown hK hP 4 rfl 3 (by decide) flX4_225 (fun _ h => h) (v := .int (N 1 3)) rfl dX4_count_138 ?_
      have hP : va_P D vwCl (xH cS x a r lat cnt ++ (txW cI x z T ++ (stW cI a N (c_v N n v 7)))) s.heap := hP
      have hD : va_D (va_A (xH cS x a r lat cnt ++ (txW cI x z T ++ (stW cI a N v))) s.heap.size) (xH cS x a r lat cnt ++ (txW cI x z T ++ (stW cI a N (c_v N n v 7)))) := hD
      exact k_eMi hx hb hr hlocks hP hS (by rfl) dX4_count_141
    by_cases c18 : w = 8
    · subst c18
      refine lv_tableIn (off := 121) (tgt := 142) hx hb dX4_count_21 (by decide) (by decide) rfl (by decide) ?_
      refine lv_aload_n hx hb dX4_count_142 rfl (lv_at hl 0 rfl) ?_
      refine g4 hx hb hts hown hK hP 0 rfl 0 (by decide) flX4_10 (fun _ h => h) (v := .ref (a 0)) rfl dX4_count_143 ?_
      refine g3 hx hb hts hown hK hP 4 rfl 4 (by decide) flX4_228 (fun _ h => h) (v := .int (N 1 4)) rfl dX4_count_146 ?_
      have hP : va_P D vwCl (xH cS x a r lat cnt ++ (txW cI x z T ++ (stW cI a N (c_v N n v 8)))) s.heap := hP
      have hD : va_D (va_A (xH cS x a r lat cnt ++ (txW cI x z T ++ (stW cI a N v))) s.heap.size) (xH cS x a r lat cnt ++ (txW cI x z T ++ (stW cI a N (c_v N n v 8)))) := hD
      exact k_eMi hx hb hr hlocks hP hS (by rfl) dX4_count_149
    by_cases c20 : w = 9
    · subst c20
      refine lv_tableIn (off := 129) (tgt := 150) hx hb dX4_count_21 (by decide) (by decide) rfl (by decide) ?_
      refine lv_aload_n hx hb dX4_count_150 rfl (lv_at hl 0 rfl) ?_
      refine g4 hx hb hts hown hK hP 0 rfl 0 (by decide) flX4_10 (fun _ h => h) (v := .ref (a 0)) rfl dX4_count_151 ?_
      refine g3 hx hb hts hown hK hP 4 rfl 5 (by decide) flX4_231 (fun _ h => h) (v := .int (N 1 5)) rfl dX4_count_154 ?_
      have hP : va_P D vwCl (xH cS x a r lat cnt ++ (txW cI x z T ++ (stW cI a N (c_v N n v 9)))) s.heap := hP
      have hD : va_D (va_A (xH cS x a r lat cnt ++ (txW cI x z T ++ (stW cI a N v))) s.heap.size) (xH cS x a r lat cnt ++ (txW cI x z T ++ (stW cI a N (c_v N n v 9)))) := hD
      exact k_eMi hx hb hr hlocks hP hS (by rfl) dX4_count_157
    have c22 : w = 10 := by omega
    subst c22
    refine lv_tableOut (tgt := 158) hx hb dX4_count_21 (Or.inr (by decide)) (by decide) ?_
    refine lv_aload_n hx hb dX4_count_158 rfl (lv_at hl 0 rfl) ?_
    refine g4 hx hb hts hown hK hP 0 rfl 3 (by decide) flX4_24 (fun _ h => h) (v := .int cnt) rfl dX4_count_159 ?_
    have hP : va_P D vwCl (xH cS x a r lat cnt ++ (txW cI x z T ++ (stW cI a N (c_v N n v 10)))) s.heap := hP
    have hD : va_D (va_A (xH cS x a r lat cnt ++ (txW cI x z T ++ (stW cI a N v))) s.heap.size) (xH cS x a r lat cnt ++ (txW cI x z T ++ (stW cI a N (c_v N n v 10)))) := hD
    exact k_eMi hx hb hr hlocks hP hS (by rfl) dX4_count_162
  · have c1 := bI_eq0 c1
    exact absurd hw010 c1

abbrev rmX4_setting_g : Room := { frames := 2, cells := 0, slots := 0, locals := 42 }
set_option maxHeartbeats 4000000 in
set_option maxRecDepth 100000 in
theorem c_X4_setting_g (l : Launch) (D : va_G) (cI cS cL : ClassId) (x a : Nat → Nat) (r : Nat → Nat → Nat) (lat cnt : Int32) (z : Int32) (T : Nat → Int32) (N : NN) (v : Nat → Int32) (sz : Nat) (k : Nat) (hk3 : k < 3) : Met l yX4_setting (wy_ yX4_setting cX4_setting 2 (some .int)) rmX4_setting_g (kPc D (kTy cI cS cL) (xH cS x a r lat cnt ++ (txW cI x z T ++ (stW cI a N v))) sz [.ref (x 0), .int (nI k)]) (kRi (N 0 k)) 0 0 noF := by
  refine k_ofW (by decide) (Nat.le_of_ble_eq_true rfl) ?_
  intro p e s m args below meth c hx hb hr hml hts hown hlocks hnm hsz hP hK hD hE ls hl
  subst hsz
  have hl : lv_has ls 2 [(0, .ref (x 0)), (1, .int (nI k))] := hl
  refine lv_iload_n hx hb dX4_setting_0 rfl (lv_at hl 1 rfl) ?_
  refine k_rvS (As := [.int (nI k)]) (rest := []) (wc := []) ⟨hx, hb, hml, hown, hts⟩ (c_X4_requireSetting_g l D cI cS cL _ (nI k) (nI_rg (lo := 0) (hi := 2) (by omega) (by omega) (by decide))) lkX4_110 rfl rfl ⟨(Nat.le_of_ble_eq_true rfl), (Nat.le_of_ble_eq_true rfl)⟩ hK hE k_nilP (k_nilD (A := va_A (xH cS x a r lat cnt ++ (txW cI x z T ++ (stW cI a N v))) s.heap.size)) rfl hl.1 rfl (Nat.le_of_ble_eq_true rfl) dX4_setting_1 ⟨Nat.zero_le _, Nat.zero_le _⟩ ?_
  refine lv_aload_n hx hb dX4_setting_4 rfl (lv_at hl 0 rfl) ?_
  refine g4 hx hb hts hown hK hP 0 rfl 0 (by decide) flX4_10 (fun _ h => h) (v := .ref (a 0)) rfl dX4_setting_5 ?_
  refine g3 hx hb hts hown hK hP 4 rfl 7 (by decide) flX4_121 (fun _ h => h) (v := .ref (a 2)) rfl dX4_setting_8 ?_
  refine lv_iload_n hx hb dX4_setting_11 rfl (lv_at hl 1 rfl) ?_
  refine k_ald (k := k) hx hb hK hP 6 0 rfl rfl rfl (by omega) (by decide) dX4_setting_12 ?_
  exact k_eRi hx hb hr hlocks rfl dX4_setting_13

abbrev rmX4_ifTested_g : Room := { frames := 5, cells := 0, slots := 0, locals := 106 }
set_option maxHeartbeats 4000000 in
set_option maxRecDepth 100000 in
theorem c_X4_ifTested_g (l : Launch) (D : va_G) (cI cS cL : ClassId) (x a : Nat → Nat) (r : Nat → Nat → Nat) (lat cnt : Int32) (z : Int32) (T : Nat → Int32) (N : NN) (v : Nat → Int32) (sz : Nat) (n : Nat) (hn : N 1 2 = nI n) (hn14 : n ≤ 14) (k w : Nat) (hkn : k < n) (hw4 : 4 ≤ w) (hw24 : w ≤ 24) : Met l yX4_ifTested (wy_ yX4_ifTested cX4_ifTested 3 (some .int)) rmX4_ifTested_g (kPc D (kTy cI cS cL) (xH cS x a r lat cnt ++ (txW cI x z T ++ (stW cI a N v))) sz [.ref (x 0), .int (nI k), .int (nI w)]) (kRi (p_tried N k w)) 0 0 noF := by
  refine k_ofW (by decide) (Nat.le_of_ble_eq_true rfl) ?_
  intro p e s m args below meth c hx hb hr hml hts hown hlocks hnm hsz hP hK hD hE ls hl
  subst hsz
  have hl : lv_has ls 3 [(0, .ref (x 0)), (1, .int (nI k)), (2, .int (nI w))] := hl
  refine lv_aload_n hx hb dX4_ifTested_0 rfl (lv_at hl 0 rfl) ?_
  refine lv_iload_n hx hb dX4_ifTested_1 rfl (lv_at hl 1 rfl) ?_
  refine k_rvV (As := [.int (nI k)]) (rest := []) (wc := xH cS x a r lat cnt ++ (txW cI x z T ++ (stW cI a N v))) ⟨hx, hb, hml, hown, hts⟩ (c_X4_requireHose_g l D cI cS cL x a r lat cnt z T N v _ (nI k) (is_hose hn hn14 hkn)) lkX4_61 rfl rfl ⟨(Nat.le_of_ble_eq_true rfl), (Nat.le_of_ble_eq_true rfl)⟩ (va_recv hK hP (ci := 3) (q0 := 0) rfl rfl) hK hE hP hD rfl hl.1 rfl (Nat.le_of_ble_eq_true rfl) dX4_ifTested_2 ⟨Nat.zero_le _, Nat.zero_le _⟩ ?_
  refine lv_iload_n hx hb dX4_ifTested_5 rfl (lv_at hl 2 rfl) ?_
  refine k_rvS (As := [.int (nI w)]) (rest := []) (wc := []) ⟨hx, hb, hml, hown, hts⟩ (c_X4_requirePressure_g l D cI cS cL _ (nI w) (nI_rg (lo := 4) (hi := 24) (by omega) (by omega) (by decide))) lkX4_96 rfl rfl ⟨(Nat.le_of_ble_eq_true rfl), (Nat.le_of_ble_eq_true rfl)⟩ hK hE k_nilP (k_nilD (A := va_A (xH cS x a r lat cnt ++ (txW cI x z T ++ (stW cI a N v))) s.heap.size)) rfl hl.1 rfl (Nat.le_of_ble_eq_true rfl) dX4_ifTested_6 ⟨Nat.zero_le _, Nat.zero_le _⟩ ?_
  refine lv_aload_n hx hb dX4_ifTested_9 rfl (lv_at hl 0 rfl) ?_
  refine g4 hx hb hts hown hK hP 0 rfl 0 (by decide) flX4_10 (fun _ h => h) (v := .ref (a 0)) rfl dX4_ifTested_10 ?_
  refine lv_iload_n hx hb dX4_ifTested_13 rfl (lv_at hl 1 rfl) ?_
  refine k_riV (As := [.int (nI k)]) (rest := []) (wc := stW cI a N v) ⟨hx, hb, hml, hown, hts⟩ (c_X3_isGone l D cI cS cL a N v _ k (by omega)) lkX4_234 rfl rfl ⟨(Nat.le_of_ble_eq_true rfl), (Nat.le_of_ble_eq_true rfl)⟩ (va_recv hK hP (ci := 2) (q0 := 4) rfl rfl) hK hE (va_P_midL (w1 := xH cS x a r lat cnt ++ (txW cI x z T)) (wc := stW cI a N v) (w3 := []) hP) (va_D_midL (w1 := xH cS x a r lat cnt ++ (txW cI x z T)) (wc := stW cI a N v) (w3 := []) hD) rfl hl.1 rfl (Nat.le_of_ble_eq_true rfl) dX4_ifTested_14 ⟨Nat.zero_le _, Nat.zero_le _⟩ ?_
  refine lv_if_eq (tgt := 24) hx hb dX4_ifTested_17 (by decide) (fun c1 => ?_) (fun c1 => ?_)
  · have c1 := bI_eq0 c1
    refine lv_aload_n hx hb dX4_ifTested_24 rfl (lv_at hl 0 rfl) ?_
    refine g4 hx hb hts hown hK hP 0 rfl 0 (by decide) flX4_10 (fun _ h => h) (v := .ref (a 0)) rfl dX4_ifTested_25 ?_
    refine lv_iload_n hx hb dX4_ifTested_28 rfl (lv_at hl 1 rfl) ?_
    refine lv_iload_n hx hb dX4_ifTested_29 rfl (lv_at hl 2 rfl) ?_
    refine k_riV (As := [.int (nI k), .int (nI w)]) (rest := []) (wc := stW cI a N v) ⟨hx, hb, hml, hown, hts⟩ (c_X3_outcomeOf l D cI cS cL a N v _ k w (by omega) (by omega)) lkX4_237 rfl rfl ⟨(Nat.le_of_ble_eq_true rfl), (Nat.le_of_ble_eq_true rfl)⟩ (va_recv hK hP (ci := 2) (q0 := 4) rfl rfl) hK hE (va_P_midL (w1 := xH cS x a r lat cnt ++ (txW cI x z T)) (wc := stW cI a N v) (w3 := []) hP) (va_D_midL (w1 := xH cS x a r lat cnt ++ (txW cI x z T)) (wc := stW cI a N v) (w3 := []) hD) rfl hl.1 rfl (Nat.le_of_ble_eq_true rfl) dX4_ifTested_30 ⟨Nat.zero_le _, Nat.zero_le _⟩ ?_
    exact k_eRi hx hb hr hlocks (by exact (if_neg c1).symm) dX4_ifTested_33
  · have c1 := bI_ne0 c1
    refine lv_iconst (v := (-1)) hx hb dX4_ifTested_20 (by decide) ?_
    refine lv_goto (tgt := 33) hx hb dX4_ifTested_21 (by decide) ?_
    exact k_eRi hx hb hr hlocks (by exact (if_pos c1).symm) dX4_ifTested_33

abbrev rmX4_safe_g : Room := { frames := 5, cells := 0, slots := 0, locals := 105 }
set_option maxHeartbeats 4000000 in
set_option maxRecDepth 100000 in
theorem c_X4_safe_g (l : Launch) (D : va_G) (cI cS cL : ClassId) (x a : Nat → Nat) (r : Nat → Nat → Nat) (lat cnt : Int32) (z : Int32) (T : Nat → Int32) (N : NN) (v : Nat → Int32) (sz : Nat) (n : Nat) (hn : N 1 2 = nI n) (hn14 : n ≤ 14) (k : Nat) (hkn : k < n) : Met l yX4_safe (wy_ yX4_safe cX4_safe 2 (some .int)) rmX4_safe_g (kPc D (kTy cI cS cL) (xH cS x a r lat cnt ++ (txW cI x z T ++ (stW cI a N v))) sz [.ref (x 0), .int (nI k)]) (kRi (p_safeG N k)) 0 0 noF := by
  refine k_ofW (by decide) (Nat.le_of_ble_eq_true rfl) ?_
  intro p e s m args below meth c hx hb hr hml hts hown hlocks hnm hsz hP hK hD hE ls hl
  subst hsz
  have hl : lv_has ls 2 [(0, .ref (x 0)), (1, .int (nI k))] := hl
  refine lv_aload_n hx hb dX4_safe_0 rfl (lv_at hl 0 rfl) ?_
  refine lv_iload_n hx hb dX4_safe_1 rfl (lv_at hl 1 rfl) ?_
  refine k_rvV (As := [.int (nI k)]) (rest := []) (wc := xH cS x a r lat cnt ++ (txW cI x z T ++ (stW cI a N v))) ⟨hx, hb, hml, hown, hts⟩ (c_X4_requireHose_g l D cI cS cL x a r lat cnt z T N v _ (nI k) (is_hose hn hn14 hkn)) lkX4_61 rfl rfl ⟨(Nat.le_of_ble_eq_true rfl), (Nat.le_of_ble_eq_true rfl)⟩ (va_recv hK hP (ci := 3) (q0 := 0) rfl rfl) hK hE hP hD rfl hl.1 rfl (Nat.le_of_ble_eq_true rfl) dX4_safe_2 ⟨Nat.zero_le _, Nat.zero_le _⟩ ?_
  refine lv_aload_n hx hb dX4_safe_5 rfl (lv_at hl 0 rfl) ?_
  refine g4 hx hb hts hown hK hP 0 rfl 0 (by decide) flX4_10 (fun _ h => h) (v := .ref (a 0)) rfl dX4_safe_6 ?_
  refine lv_iload_n hx hb dX4_safe_9 rfl (lv_at hl 1 rfl) ?_
  refine k_riV (As := [.int (nI k)]) (rest := []) (wc := stW cI a N v) ⟨hx, hb, hml, hown, hts⟩ (c_X3_isGone l D cI cS cL a N v _ k (by omega)) lkX4_234 rfl rfl ⟨(Nat.le_of_ble_eq_true rfl), (Nat.le_of_ble_eq_true rfl)⟩ (va_recv hK hP (ci := 2) (q0 := 4) rfl rfl) hK hE (va_P_midL (w1 := xH cS x a r lat cnt ++ (txW cI x z T)) (wc := stW cI a N v) (w3 := []) hP) (va_D_midL (w1 := xH cS x a r lat cnt ++ (txW cI x z T)) (wc := stW cI a N v) (w3 := []) hD) rfl hl.1 rfl (Nat.le_of_ble_eq_true rfl) dX4_safe_10 ⟨Nat.zero_le _, Nat.zero_le _⟩ ?_
  refine lv_if_eq (tgt := 20) hx hb dX4_safe_13 (by decide) (fun c1 => ?_) (fun c1 => ?_)
  · have c1 := bI_eq0 c1
    refine lv_aload_n hx hb dX4_safe_20 rfl (lv_at hl 0 rfl) ?_
    refine g4 hx hb hts hown hK hP 0 rfl 0 (by decide) flX4_10 (fun _ h => h) (v := .ref (a 0)) rfl dX4_safe_21 ?_
    refine lv_iload_n hx hb dX4_safe_24 rfl (lv_at hl 1 rfl) ?_
    refine k_riV (As := [.int (nI k)]) (rest := []) (wc := stW cI a N v) ⟨hx, hb, hml, hown, hts⟩ (c_X3_greatestSafePressure l D cI cS cL a N v _ k (by omega)) lkX4_240 rfl rfl ⟨(Nat.le_of_ble_eq_true rfl), (Nat.le_of_ble_eq_true rfl)⟩ (va_recv hK hP (ci := 2) (q0 := 4) rfl rfl) hK hE (va_P_midL (w1 := xH cS x a r lat cnt ++ (txW cI x z T)) (wc := stW cI a N v) (w3 := []) hP) (va_D_midL (w1 := xH cS x a r lat cnt ++ (txW cI x z T)) (wc := stW cI a N v) (w3 := []) hD) rfl hl.1 rfl (Nat.le_of_ble_eq_true rfl) dX4_safe_25 ⟨Nat.zero_le _, Nat.zero_le _⟩ ?_
    exact k_eRi hx hb hr hlocks (by exact (if_neg c1).symm) dX4_safe_28
  · have c1 := bI_ne0 c1
    refine lv_iconst (v := (-1)) hx hb dX4_safe_16 (by decide) ?_
    refine lv_goto (tgt := 28) hx hb dX4_safe_17 (by decide) ?_
    exact k_eRi hx hb hr hlocks (by exact (if_pos c1).symm) dX4_safe_28

abbrev rmX4_nextLapse : Room := { frames := 4, cells := 0, slots := 0, locals := 87 }
set_option maxHeartbeats 4000000 in
set_option maxRecDepth 100000 in
theorem c_X4_nextLapse (l : Launch) (D : va_G) (cI cS cL : ClassId) (x a : Nat → Nat) (r : Nat → Nat → Nat) (lat cnt : Int32) (z : Int32) (T : Nat → Int32) (N : NN) (v : Nat → Int32) (sz : Nat) (n : Nat) (hn : N 1 2 = nI n) (hn14 : n ≤ 14) : Met l yX4_nextLapse (wy_ yX4_nextLapse cX4_nextLapse 1 (some .int)) rmX4_nextLapse (kPc D (kTy cI cS cL) (xH cS x a r lat cnt ++ (txW cI x z T ++ (stW cI a N v))) sz [.ref (x 0)]) (kRi (p_fl N n)) 0 0 noF := by
  refine k_ofW (by decide) (Nat.le_of_ble_eq_true rfl) ?_
  intro p e s m args below meth c hx hb hr hml hts hown hlocks hnm hsz hP hK hD hE ls hl
  subst hsz
  have hl : lv_has ls 1 [(0, .ref (x 0))] := hl
  refine lv_aload_n hx hb dX4_nextLapse_0 rfl (lv_at hl 0 rfl) ?_
  refine g4 hx hb hts hown hK hP 0 rfl 0 (by decide) flX4_10 (fun _ h => h) (v := .ref (a 0)) rfl dX4_nextLapse_1 ?_
  refine k_riV (As := []) (rest := []) (wc := stW cI a N v) ⟨hx, hb, hml, hown, hts⟩ (c_X3_daysToFirstLapse l D cI cS cL a N v _ n hn hn14) lkX4_243 rfl rfl ⟨(Nat.le_of_ble_eq_true rfl), (Nat.le_of_ble_eq_true rfl)⟩ (va_recv hK hP (ci := 2) (q0 := 4) rfl rfl) hK hE (va_P_midL (w1 := xH cS x a r lat cnt ++ (txW cI x z T)) (wc := stW cI a N v) (w3 := []) hP) (va_D_midL (w1 := xH cS x a r lat cnt ++ (txW cI x z T)) (wc := stW cI a N v) (w3 := []) hD) rfl hl.1 rfl (Nat.le_of_ble_eq_true rfl) dX4_nextLapse_4 ⟨Nat.zero_le _, Nat.zero_le _⟩ ?_
  exact k_eRi hx hb hr hlocks rfl dX4_nextLapse_7

abbrev rmX4_helps_g : Room := { frames := 5, cells := 0, slots := 0, locals := 111 }
set_option maxHeartbeats 4000000 in
set_option maxRecDepth 100000 in
theorem c_X4_helps_g (l : Launch) (D : va_G) (cI cS cL : ClassId) (x a : Nat → Nat) (r : Nat → Nat → Nat) (lat cnt : Int32) (z : Int32) (T : Nat → Int32) (N : NN) (v : Nat → Int32) (sz : Nat) (n : Nat) (hn : N 1 2 = nI n) (hn14 : n ≤ 14) (t : Nat) (ht : t < 3) : Met l yX4_helps (wy_ yX4_helps cX4_helps 2 (some .int)) rmX4_helps_g (kPc D (kTy cI cS cL) (xH cS x a r lat cnt ++ (txW cI x z T ++ (stW cI a N v))) sz [.ref (x 0), .int (nI t)]) (kMi D (xH cS x a r lat cnt ++ (txW cI x z T ++ (stW cI a N v))) (xH cS x a r lat cnt ++ (txW cI x z T ++ (stW cI a N (p_helpv N t n)))) sz (p_help N t n)) 0 0 (va_A (xH cS x a r lat cnt ++ (txW cI x z T ++ (stW cI a N v))) sz) := by
  refine k_ofW (by decide) (Nat.le_of_ble_eq_true rfl) ?_
  intro p e s m args below meth c hx hb hr hml hts hown hlocks hnm hsz hP hK hD hE ls hl
  subst hsz
  have hA : ∀ q : Nat, s.heap.size ≤ q → (va_A (xH cS x a r lat cnt ++ (txW cI x z T ++ (stW cI a N v))) s.heap.size) q := fun q h => Or.inr h
  have hS : va_S (va_A (xH cS x a r lat cnt ++ (txW cI x z T ++ (stW cI a N v))) s.heap.size) s.heap s.heap [] := va_S.rf
  have hl : lv_has ls 2 [(0, .ref (x 0)), (1, .int (nI t))] := hl
  refine lv_iload_n hx hb dX4_helps_0 rfl (lv_at hl 1 rfl) ?_
  refine k_rvS (As := [.int (nI t)]) (rest := []) (wc := []) ⟨hx, hb, hml, hown, hts⟩ (c_X4_requireTruck_g l D cI cS cL _ (nI t) (nI_rg (lo := 0) (hi := 2) (by omega) (by omega) (by decide))) lkX4_102 rfl rfl ⟨(Nat.le_of_ble_eq_true rfl), (Nat.le_of_ble_eq_true rfl)⟩ hK hE k_nilP (k_nilD (A := va_A (xH cS x a r lat cnt ++ (txW cI x z T ++ (stW cI a N v))) s.heap.size)) rfl hl.1 rfl (Nat.le_of_ble_eq_true rfl) dX4_helps_1 ⟨Nat.zero_le _, Nat.zero_le _⟩ ?_
  refine lv_aload_n hx hb dX4_helps_4 rfl (lv_at hl 0 rfl) ?_
  refine g4 hx hb hts hown hK hP 0 rfl 0 (by decide) flX4_10 (fun _ h => h) (v := .ref (a 0)) rfl dX4_helps_5 ?_
  refine lv_iload_n hx hb dX4_helps_8 rfl (lv_at hl 1 rfl) ?_
  refine k_miV (As := [.int (nI t)]) (rest := []) (w1 := xH cS x a r lat cnt ++ (txW cI x z T)) (wc := stW cI a N v) (wc' := stW cI a N (p_helpv N t n)) (w3 := []) ⟨hx, hb, hml, hown, hts⟩ (c_X3_cheapestHelp l D cI cS cL a N v _ n t hn hn14 (by omega)) lkX4_246 rfl rfl ⟨(Nat.le_of_ble_eq_true rfl), (Nat.le_of_ble_eq_true rfl)⟩ (va_recv hK hP (ci := 2) (q0 := 4) rfl rfl) hK hE hP hD hS hA rfl rfl hl.1 rfl (Nat.le_of_ble_eq_true rfl) dX4_helps_9 ⟨Nat.zero_le _, Nat.zero_le _⟩ (fun H locs hzz hP hD hS => ?_)
  have hP : va_P D vwCl (xH cS x a r lat cnt ++ (txW cI x z T ++ (stW cI a N (p_helpv N t n)))) H := hP
  have hD : va_D (va_A (xH cS x a r lat cnt ++ (txW cI x z T ++ (stW cI a N v))) s.heap.size) (xH cS x a r lat cnt ++ (txW cI x z T ++ (stW cI a N (p_helpv N t n)))) := hD
  have hP : va_P D vwCl (xH cS x a r lat cnt ++ (txW cI x z T ++ (stW cI a N (p_helpv N t n)))) H := hP
  have hD : va_D (va_A (xH cS x a r lat cnt ++ (txW cI x z T ++ (stW cI a N v))) s.heap.size) (xH cS x a r lat cnt ++ (txW cI x z T ++ (stW cI a N (p_helpv N t n)))) := hD
  exact k_eMi hx hb hr hlocks hP hS rfl dX4_helps_12
