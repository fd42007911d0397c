abbrev rmX4_count_c2 : Room := { frames := 1, cells := 0, slots := 0, locals := 22 }
set_option maxHeartbeats 4000000 in
set_option maxRecDepth 100000 in
theorem c_X4_count_c2 (l : Launch) (D : va_G) (cI cS cL : ClassId) (x a : Nat → Nat) (r : Nat → Nat → Nat) (lat cnt : Int32) (z : Int32) (T : Nat → Int32) (N : NN) (v : Nat → Int32) (sz : Nat) (n : Nat) (hn : N 1 2 = nI n) (hn14 : n ≤ 14) : Met l yX4_count (wy_ yX4_count cX4_count 2 (some .int)) rmX4_count_c2 (kPc D (kTy cI cS cL) (xH cS x a r lat cnt ++ (txW cI x z T ++ (stW cI a N v))) sz [.ref (x 0), .int 2]) (kRi (nI n)) 0 0 noF := by
  refine k_ofW (by decide) (Nat.le_of_ble_eq_true rfl) ?_
  intro p e s m args below meth c hx hb hr hml hts hown hlocks hnm hsz hP hK hD hE ls hl
  subst hsz
  have hl : lv_has ls 2 [(0, .ref (x 0)), (1, .int 2)] := hl
  have hw010 : (0 : Int32) ≤ 2 ∧ (2 : Int32) ≤ 10 := by decide
  refine lv_iload_n hx hb dX4_count_0 rfl (lv_at hl 1 rfl) ?_
  refine lv_iconst (v := 0) hx hb dX4_count_1 (by decide) ?_
  refine lv_bipush (v := 10) hx hb dX4_count_2 (by decide) ?_
  refine k_riS (As := [.int 2, .int 0, .int 10]) (rest := []) (wc := []) ⟨hx, hb, hml, hown, hts⟩ (c_X4_isWithin l D cI cS cL _ 2 0 10) lkX4_34 rfl rfl ⟨(Nat.le_of_ble_eq_true rfl), (Nat.le_of_ble_eq_true rfl)⟩ hK hE k_nilP (k_nilD (A := va_A (xH cS x a r lat cnt ++ (txW cI x z T ++ (stW cI a N v))) s.heap.size)) rfl hl.1 rfl (Nat.le_of_ble_eq_true rfl) dX4_count_4 ⟨Nat.zero_le _, Nat.zero_le _⟩ ?_
  refine lv_if_ne (tgt := 20) hx hb dX4_count_7 (by decide) (fun c1 => ?_) (fun c1 => ?_)
  · have c1 := bI_ne0 c1
    refine lv_iload_n hx hb dX4_count_20 rfl (lv_at hl 1 rfl) ?_
    refine lv_tableIn (off := 71) (tgt := 92) hx hb dX4_count_21 (by decide) (by decide) rfl (by decide) ?_
    refine lv_aload_n hx hb dX4_count_92 rfl (lv_at hl 0 rfl) ?_
    refine g4 hx hb hts hown hK hP 0 rfl 0 (by decide) flX4_10 (fun _ h => h) (v := .ref (a 0)) rfl dX4_count_93 ?_
    refine g3 hx hb hts hown hK hP 4 rfl 2 (by decide) flX4_216 (fun _ h => h) (v := .int (N 1 2)) rfl dX4_count_96 ?_
    exact k_eRi hx hb hr hlocks (by exact hn) dX4_count_99
  · have c1 := bI_eq0 c1
    exact absurd hw010 c1
