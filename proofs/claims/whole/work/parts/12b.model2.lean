abbrev rmX5_tried : Room := { frames := 3, cells := 0, slots := 0, locals := 71 }
set_option maxHeartbeats 4000000 in
set_option maxRecDepth 100000 in
theorem c_X5_tried (l : Launch) (D : va_G) (cI cS cL : ClassId) (a : Nat → Nat) (N : NN) (P T U v : Nat → Int32) (sz : Nat) (k P0 : Nat) (hk : k < 14) (hP0 : P0 ≤ 24) (hP4 : 0 < P0) (hw0 : 0 ≤ N 7 k) (hw1 : N 7 k ≤ 99) : Met l yX5_tried (wy_ yX5_tried cX5_tried 3 (some .int)) rmX5_tried (kPc D (kTy cI cS cL) (mdW cI a N P T U v) sz [.ref (a 0), .int (nI k), .int (nI P0)]) (kMi D (mdW cI a N P T U v) (mdW cI a N P T U (us v 10 (m_tw N k P0 (v 10)))) sz (p_tried N k P0)) 0 0 (va_A (mdW cI a N P T U v) sz) := by
  refine k_ofW (by decide) (Nat.le_of_ble_eq_true rfl) ?_
  intro p e s m args below meth c hx hb hr hml hts hown hlocks hnm hsz hP hK hD hE ls hl
  subst hsz
  have hA : ∀ q : Nat, s.heap.size ≤ q → (va_A (mdW cI a N P T U v) s.heap.size) q := fun q h => Or.inr h
  have hS : va_S (va_A (mdW cI a N P T U v) s.heap.size) s.heap s.heap [] := va_S.rf
  have hl : lv_has ls 3 [(0, .ref (a 0)), (1, .int (nI k)), (2, .int (nI P0))] := hl
  refine lv_aload_n hx hb dX5_tried_0 rfl (lv_at hl 0 rfl) ?_
  refine lv_iload_n hx hb dX5_tried_1 rfl (lv_at hl 1 rfl) ?_
  refine lv_bipush (v := 6) hx hb dX5_tried_2 (by decide) ?_
  refine k_riV (As := [.int (nI k), .int (nI 6)]) (rest := []) (wc := mdW cI a N P T U v) ⟨hx, hb, hml, hown, hts⟩ (c_X5_of l D cI cS cL a N P T U v _ k 6 9 (by omega) (by decide) rfl) lkX5_37 rfl rfl ⟨(Nat.le_of_ble_eq_true rfl), (Nat.le_of_ble_eq_true rfl)⟩ (va_recv hK hP (ci := 4) (q0 := 0) rfl rfl) hK hE hP hD rfl hl.1 rfl (Nat.le_of_ble_eq_true rfl) dX5_tried_4 ⟨Nat.zero_le _, Nat.zero_le _⟩ ?_
  refine lv_iconst (v := (-1)) hx hb dX5_tried_7 (by decide) ?_
  refine lv_icmp_ne (tgt := 15) hx hb dX5_tried_8 (by decide) (fun c1 => ?_) (fun c1 => ?_)
  · refine lv_aload_n hx hb dX5_tried_15 rfl (lv_at hl 0 rfl) ?_
    refine lv_iload_n hx hb dX5_tried_16 rfl (lv_at hl 1 rfl) ?_
    refine lv_iload_n hx hb dX5_tried_17 rfl (lv_at hl 2 rfl) ?_
    refine k_miV (As := [.int (nI k), .int (nI P0)]) (rest := []) (w1 := []) (wc := mdW cI a N P T U v) (wc' := mdW cI a N P T U (us v 10 (p_worn (N 7 k) (p_held N k P0)))) (w3 := []) ⟨hx, hb, hml, hown, hts⟩ (c_X5_tries l D cI cS cL a N P T U v _ k P0 (by omega) (by omega) (by omega) hw0 hw1) lkX5_93 rfl rfl ⟨(Nat.le_of_ble_eq_true rfl), (Nat.le_of_ble_eq_true rfl)⟩ (va_recv hK hP (ci := 4) (q0 := 0) rfl rfl) hK hE hP hD hS hA rfl rfl hl.1 rfl (Nat.le_of_ble_eq_true rfl) dX5_tried_18 ⟨Nat.zero_le _, Nat.zero_le _⟩ (fun H locs hzz hP hD hS => ?_)
    have hP : va_P D vwCl (mdW cI a N P T U (us v 10 (p_worn (N 7 k) (p_held N k P0)))) H := hP
    have hD : va_D (va_A (mdW cI a N P T U v) s.heap.size) (mdW cI a N P T U (us v 10 (p_worn (N 7 k) (p_held N k P0)))) := hD
    have w2 : (us v 10 (p_worn (N 7 k) (p_held N k P0))) = (us v 10 (m_tw N k P0 (v 10))) := by simp [m_tw, us_v, c1]
    have hP : va_P D vwCl (mdW cI a N P T U (us v 10 (m_tw N k P0 (v 10)))) H := (congrArg (fun zz => va_P D vwCl (mdW cI a N P T U zz) H) w2).mp hP
    have hD : va_D (va_A (mdW cI a N P T U v) s.heap.size) (mdW cI a N P T U (us v 10 (m_tw N k P0 (v 10)))) := (congrArg (fun zz => va_D (va_A (mdW cI a N P T U v) s.heap.size) (mdW cI a N P T U zz)) w2).mp hD
    have hP : va_P D vwCl (mdW cI a N P T U (us v 10 (m_tw N k P0 (v 10)))) H := hP
    have hD : va_D (va_A (mdW cI a N P T U v) s.heap.size) (mdW cI a N P T U (us v 10 (m_tw N k P0 (v 10)))) := hD
    exact k_eMi hx hb hr hlocks hP hS (by simp [p_tried, c1]) dX5_tried_21
  · refine lv_iconst (v := (-1)) hx hb dX5_tried_11 (by decide) ?_
    refine lv_goto (tgt := 21) hx hb dX5_tried_12 (by decide) ?_
    have w3 : v = (us v 10 (m_tw N k P0 (v 10))) := by simp [m_tw, us_v, c1]
    have hP : va_P D vwCl (mdW cI a N P T U (us v 10 (m_tw N k P0 (v 10)))) s.heap := (congrArg (fun zz => va_P D vwCl (mdW cI a N P T U zz) s.heap) w3).mp hP
    have hD : va_D (va_A (mdW cI a N P T U v) s.heap.size) (mdW cI a N P T U (us v 10 (m_tw N k P0 (v 10)))) := (congrArg (fun zz => va_D (va_A (mdW cI a N P T U v) s.heap.size) (mdW cI a N P T U zz)) w3).mp hD
    have hP : va_P D vwCl (mdW cI a N P T U (us v 10 (m_tw N k P0 (v 10)))) s.heap := hP
    have hD : va_D (va_A (mdW cI a N P T U v) s.heap.size) (mdW cI a N P T U (us v 10 (m_tw N k P0 (v 10)))) := hD
    exact k_eMi hx hb hr hlocks hP hS (by simp [p_tried, c1]) dX5_tried_21

abbrev rmX5_greatest : Room := { frames := 4, cells := 0, slots := 0, locals := 93 }
set_option maxHeartbeats 4000000 in
set_option maxRecDepth 100000 in
theorem c_X5_greatest (l : Launch) (D : va_G) (cI cS cL : ClassId) (a : Nat → Nat) (N : NN) (P T U v : Nat → Int32) (sz : Nat) (k : Nat) (hk : k < 14) (hw0 : 0 ≤ N 7 k) (hw1 : N 7 k ≤ 99) : Met l yX5_greatest (wy_ yX5_greatest cX5_greatest 3 (some .int)) rmX5_greatest (kPc D (kTy cI cS cL) (mdW cI a N P T U v) sz [.ref (a 0), .int (nI k)]) (kMi D (mdW cI a N P T U v) (mdW cI a N P T U (us v 10 (m_gz N k 21 (v 10)))) sz (p_safeG N k)) 0 0 (va_A (mdW cI a N P T U v) sz) := by
  refine k_ofW (by decide) (Nat.le_of_ble_eq_true rfl) ?_
  intro p e s m args below meth c hx hb hr hml hts hown hlocks hnm hsz hP hK hD hE ls hl
  subst hsz
  have hA : ∀ q : Nat, s.heap.size ≤ q → (va_A (mdW cI a N P T U v) s.heap.size) q := fun q h => Or.inr h
  have hS : va_S (va_A (mdW cI a N P T U v) s.heap.size) s.heap s.heap [] := va_S.rf
  have hl : lv_has ls 3 [(0, .ref (a 0)), (1, .int (nI k))] := hl
  refine lv_bipush (v := 24) hx hb dX5_greatest_0 (by decide) ?_
  refine lv_istore_n (lv' := [(2, .int 24), (0, .ref (a 0)), (1, .int (nI k))]) hx hb dX5_greatest_2 rfl hl (by decide) rfl (fun ls hl => ?_)
  have L1 : ∀ (f j : Nat), j ≤ 21 → 21 - j < f → (hj : p_sg N k (21 - j) = p_safeG N k) → (hgz : m_gz N k (21 - j) (m_gw N k (v 10) j) = m_gz N k 21 (v 10)) → ∀ (H : Heap) (locs : List Loc), va_P D vwCl (mdW cI a N P T U (us v 10 (m_gw N k (v 10) j))) H → va_D (va_A (mdW cI a N P T U v) s.heap.size) (mdW cI a N P T U (us v 10 (m_gw N k (v 10) j))) → va_S (va_A (mdW cI a N P T U v) s.heap.size) s.heap H locs → s.heap.size ≤ H.size → ∀ ls : Array Slot, lv_has ls 3 [(0, .ref (a 0)), (1, .int (nI k)), (2, .int (nI (24 - j)))] → W p l e rmX5_greatest s m args below meth c H locs 0 0 (MQ below (kMi D (mdW cI a N P T U v) (mdW cI a N P T U (us v 10 (m_gz N k 21 (v 10)))) s.heap.size (p_safeG N k)) args s 0 0 (va_A (mdW cI a N P T U v) s.heap.size)) (F0 m 3 ls []) := by
    intro f
    induction f with
    | zero => intro j hv1 hv2; exact absurd hv2 (Nat.not_lt_zero _)
    | succ f ih =>
      intro j hv1 hv2 hj hgz H locs hP hD hS hz ls hl
      refine lv_iload_n hx hb dX5_greatest_3 rfl (lv_at hl 2 rfl) ?_
      refine lv_iconst (v := 3) hx hb dX5_greatest_4 (by decide) ?_
      refine lv_icmp_le (tgt := 31) hx hb dX5_greatest_5 (by decide) (fun c2 => ?_) (fun c2 => ?_)
      · have c2' := Int32.not_lt.mpr c2
        have hjn := p_gr_ge hv1 c2
        refine lv_iconst (v := (-1)) hx hb dX5_greatest_31 (by decide) ?_
        have w3 : (us v 10 (m_gw N k (v 10) j)) = (us v 10 (m_gz N k 21 (v 10))) := by rw [← hgz, hjn]; rfl
        have hP : va_P D vwCl (mdW cI a N P T U (us v 10 (m_gz N k 21 (v 10)))) H := (congrArg (fun zz => va_P D vwCl (mdW cI a N P T U zz) H) w3).mp hP
        have hD : va_D (va_A (mdW cI a N P T U v) s.heap.size) (mdW cI a N P T U (us v 10 (m_gz N k 21 (v 10)))) := (congrArg (fun zz => va_D (va_A (mdW cI a N P T U v) s.heap.size) (mdW cI a N P T U zz)) w3).mp hD
        have hP : va_P D vwCl (mdW cI a N P T U (us v 10 (m_gz N k 21 (v 10)))) H := hP
        have hD : va_D (va_A (mdW cI a N P T U v) s.heap.size) (mdW cI a N P T U (us v 10 (m_gz N k 21 (v 10)))) := hD
        exact k_eMi hx hb hr hlocks hP hS (by rw [← hj, hjn]; rfl) dX5_greatest_32
      · have c2' := Int32.not_le.mp c2
        have hjn := p_gr_lt hv1 c2
        refine lv_aload_n hx hb dX5_greatest_8 rfl (lv_at hl 0 rfl) ?_
        refine lv_iload_n hx hb dX5_greatest_9 rfl (lv_at hl 1 rfl) ?_
        refine lv_iload_n hx hb dX5_greatest_10 rfl (lv_at hl 2 rfl) ?_
        refine k_miV (As := [.int (nI k), .int (nI (24 - j))]) (rest := []) (w1 := []) (wc := mdW cI a N P T U (us v 10 (m_gw N k (v 10) j))) (wc' := mdW cI a N P T U (us v 10 (m_tw N k (24 - j) ((us v 10 (m_gw N k (v 10) j)) 10)))) (w3 := []) ⟨hx, hb, hml, hown, hts⟩ (c_X5_tried l D cI cS cL a N P T U (us v 10 (m_gw N k (v 10) j)) _ k (24 - j) (by omega) (by omega) (by omega) hw0 hw1) lkX5_153 rfl rfl ⟨(Nat.le_of_ble_eq_true rfl), (Nat.le_of_ble_eq_true rfl)⟩ (va_recv hK hP (ci := 4) (q0 := 0) rfl rfl) hK hE hP hD hS hA rfl rfl hl.1 rfl (Nat.le_of_ble_eq_true rfl) dX5_greatest_11 ⟨Nat.zero_le _, Nat.zero_le _⟩ (fun H locs hzz hP hD hS => ?_)
        have hP : va_P D vwCl (mdW cI a N P T U (us v 10 (m_tw N k (24 - j) ((us v 10 (m_gw N k (v 10) j)) 10)))) H := hP
        have hD : va_D (va_A (mdW cI a N P T U v) s.heap.size) (mdW cI a N P T U (us v 10 (m_tw N k (24 - j) ((us v 10 (m_gw N k (v 10) j)) 10)))) := hD
        refine lv_iconst (v := 0) hx hb dX5_greatest_14 (by decide) ?_
        refine lv_bipush (v := 99) hx hb dX5_greatest_15 (by decide) ?_
        refine k_riS (As := [.int (p_tried N k (24 - j)), .int 0, .int 99]) (rest := []) (wc := []) ⟨hx, hb, hml, hown, hts⟩ (c_X5_in l D cI cS cL _ (p_tried N k (24 - j)) 0 99) lkX5_26 rfl rfl ⟨(Nat.le_of_ble_eq_true rfl), (Nat.le_of_ble_eq_true rfl)⟩ hK hE k_nilP (k_nilD (A := va_A (mdW cI a N P T U v) s.heap.size)) rfl hl.1 rfl (Nat.le_of_ble_eq_true rfl) dX5_greatest_17 ⟨Nat.zero_le _, Nat.zero_le _⟩ ?_
        refine lv_if_eq (tgt := 25) hx hb dX5_greatest_20 (by decide) (fun c4 => ?_) (fun c4 => ?_)
        · have c4 := bI_eq0 c4
          have hmi := c4
          refine lv_iinc (v := nI (24 - (j + 1))) (lv' := [(2, .int (nI (24 - (j + 1)))), (0, .ref (a 0)), (1, .int (nI k))]) hx hb dX5_greatest_25 hl (k := 2) rfl (nI_dec (by omega)) (by decide) rfl (fun ls hl => ?_)
          refine lv_goto (tgt := 3) hx hb dX5_greatest_28 (by decide) ?_
          have hl : lv_has ls 3 [(0, .ref (a 0)), (1, .int (nI k)), (2, .int (nI (24 - (j + 1))))] := lv_sub hl [1, 2, 0] rfl
          have hl : lv_has ls 3 [(0, .ref (a 0)), (1, .int (nI k)), (2, .int (nI (24 - (j + 1))))] := hl
          have hP : va_P D vwCl (mdW cI a N P T U (us v 10 (m_gw N k (v 10) (j + 1)))) H := hP
          have hD : va_D (va_A (mdW cI a N P T U v) s.heap.size) (mdW cI a N P T U (us v 10 (m_gw N k (v 10) (j + 1)))) := hD
          exact ih (j + 1) (by omega) (by omega) ((p_sg_miss hjn hmi).symm.trans hj) ((m_gz_miss hjn hmi).symm.trans hgz) H locs hP hD hS hS.1 ls hl
        · have c4 := bI_ne0 c4
          have hhi := c4
          refine lv_iload_n hx hb dX5_greatest_23 rfl (lv_at hl 2 rfl) ?_
          have w6 : (us v 10 (m_tw N k (24 - j) ((us v 10 (m_gw N k (v 10) j)) 10))) = (us v 10 (m_gz N k 21 (v 10))) := by rw [← hgz, m_gz_hit hjn hhi]; rfl
          have hP : va_P D vwCl (mdW cI a N P T U (us v 10 (m_gz N k 21 (v 10)))) H := (congrArg (fun zz => va_P D vwCl (mdW cI a N P T U zz) H) w6).mp hP
          have hD : va_D (va_A (mdW cI a N P T U v) s.heap.size) (mdW cI a N P T U (us v 10 (m_gz N k 21 (v 10)))) := (congrArg (fun zz => va_D (va_A (mdW cI a N P T U v) s.heap.size) (mdW cI a N P T U zz)) w6).mp hD
          have hP : va_P D vwCl (mdW cI a N P T U (us v 10 (m_gz N k 21 (v 10)))) H := hP
          have hD : va_D (va_A (mdW cI a N P T U v) s.heap.size) (mdW cI a N P T U (us v 10 (m_gz N k 21 (v 10)))) := hD
          exact k_eMi hx hb hr hlocks hP hS (by rw [← hj, p_sg_hit hjn hhi]) dX5_greatest_24
  have hl : lv_has ls 3 [(0, .ref (a 0)), (1, .int (nI k)), (2, .int 24)] := lv_sub hl [1, 2, 0] rfl
  have hl : lv_has ls 3 [(0, .ref (a 0)), (1, .int (nI k)), (2, .int (nI (24 - 0)))] := hl
  have hP : va_P D vwCl (mdW cI a N P T U (us v 10 (m_gw N k (v 10) 0))) s.heap := hP
  have hD : va_D (va_A (mdW cI a N P T U v) s.heap.size) (mdW cI a N P T U (us v 10 (m_gw N k (v 10) 0))) := hD
  exact L1 (21 - 0 + 1) 0 (by omega) (by omega) (p_sg_all N k) rfl s.heap [] hP hD hS (Nat.le_refl _) ls hl

abbrev rmX5_lays : Room := { frames := 3, cells := 0, slots := 0, locals := 65 }
set_option maxHeartbeats 4000000 in
set_option maxRecDepth 100000 in
theorem c_X5_lays (l : Launch) (D : va_G) (cI cS cL : ClassId) (a : Nat → Nat) (N : NN) (P T U v : Nat → Int32) (sz : Nat) (n t : Nat) (mo : Int32) (hn : N 1 2 = nI n) (hn14 : n ≤ 14) (ht : t < 3) (hd0 : 0 ≤ N 1 0) : Met l yX5_lays (wy_ yX5_lays cX5_lays 7 none) rmX5_lays (kPc D (kTy cI cS cL) (mdW cI a N P T U v) sz [.ref (a 0), .int (nI t), .int mo]) (kMv D (mdW cI a N P T U v) (mdW cI a N P T U (us (us (us v 11 (p_lay N (nI t) mo n 0)) 12 (p_lay N (nI t) mo n 1)) 13 (p_lay N (nI t) mo n 2))) sz) 0 0 (va_A (mdW cI a N P T U v) sz) := by
  refine k_ofW (by decide) (Nat.le_of_ble_eq_true rfl) ?_
  intro p e s m args below meth c hx hb hr hml hts hown hlocks hnm hsz hP hK hD hE ls hl
  subst hsz
  have hA : ∀ q : Nat, s.heap.size ≤ q → (va_A (mdW cI a N P T U v) s.heap.size) q := fun q h => Or.inr h
  have hS : va_S (va_A (mdW cI a N P T U v) s.heap.size) s.heap s.heap [] := va_S.rf
  have hl : lv_has ls 7 [(0, .ref (a 0)), (1, .int (nI t)), (2, .int mo)] := hl
  refine lv_aload_n hx hb dX5_lays_0 rfl (lv_at hl 0 rfl) ?_
  refine lv_iconst (v := 0) hx hb dX5_lays_1 (by decide) ?_
  refine f5 hx hb hts hown hK hP hD hS 0 rfl 11 (by decide) flX5_53 (fun _ h => h) rfl rfl rfl (Nat.le_of_ble_eq_true rfl) dX5_lays_2 (fun H locs hP hD hS => ?_)
  have hP : va_P D vwCl (mdW cI a N P T U (us v 11 0)) H := hP
  have hD : va_D (va_A (mdW cI a N P T U v) s.heap.size) (mdW cI a N P T U (us v 11 0)) := hD
  refine lv_aload_n hx hb dX5_lays_5 rfl (lv_at hl 0 rfl) ?_
  refine lv_iconst (v := 0) hx hb dX5_lays_6 (by decide) ?_
  refine f5 hx hb hts hown hK hP hD hS 0 rfl 12 (by decide) flX5_56 (fun _ h => h) rfl rfl rfl (Nat.le_of_ble_eq_true rfl) dX5_lays_7 (fun H locs hP hD hS => ?_)
  have hP : va_P D vwCl (mdW cI a N P T U (us (us v 11 0) 12 0)) H := hP
  have hD : va_D (va_A (mdW cI a N P T U v) s.heap.size) (mdW cI a N P T U (us (us v 11 0) 12 0)) := hD
  refine lv_aload_n hx hb dX5_lays_10 rfl (lv_at hl 0 rfl) ?_
  refine lv_iconst (v := 0) hx hb dX5_lays_11 (by decide) ?_
  refine f5 hx hb hts hown hK hP hD hS 0 rfl 13 (by decide) flX5_59 (fun _ h => h) rfl rfl rfl (Nat.le_of_ble_eq_true rfl) dX5_lays_12 (fun H locs hP hD hS => ?_)
  have hP : va_P D vwCl (mdW cI a N P T U (us (us (us v 11 0) 12 0) 13 0)) H := hP
  have hD : va_D (va_A (mdW cI a N P T U v) s.heap.size) (mdW cI a N P T U (us (us (us v 11 0) 12 0) 13 0)) := hD
  refine lv_iconst (v := (-1)) hx hb dX5_lays_15 (by decide) ?_
  refine lv_istore_n (lv' := [(3, .int (-1)), (0, .ref (a 0)), (1, .int (nI t)), (2, .int mo)]) hx hb dX5_lays_16 rfl hl (by decide) rfl (fun ls hl => ?_)
  refine lv_iconst (v := 0) hx hb dX5_lays_17 (by decide) ?_
  refine lv_istore (lv' := [(4, .int 0), (3, .int (-1)), (0, .ref (a 0)), (1, .int (nI t)), (2, .int mo)]) hx hb dX5_lays_18 hl (by decide) rfl (fun ls hl => ?_)
  have L1 : ∀ (f k : Nat), k ≤ n → n - k < f → ∀ (H : Heap) (locs : List Loc), va_P D vwCl (mdW cI a N P T U (us (us (us v 11 (p_lay N (nI t) mo k 0)) 12 (p_lay N (nI t) mo k 1)) 13 (p_lay N (nI t) mo k 2))) H → va_D (va_A (mdW cI a N P T U v) s.heap.size) (mdW cI a N P T U (us (us (us v 11 (p_lay N (nI t) mo k 0)) 12 (p_lay N (nI t) mo k 1)) 13 (p_lay N (nI t) mo k 2))) → va_S (va_A (mdW cI a N P T U v) s.heap.size) s.heap H locs → s.heap.size ≤ H.size → ∀ ls : Array Slot, lv_has ls 7 [(0, .ref (a 0)), (1, .int (nI t)), (2, .int mo), (3, .int (p_lay N (nI t) mo k 3)), (4, .int (nI k))] → W p l e rmX5_lays s m args below meth c H locs 0 0 (MQ below (kMv D (mdW cI a N P T U v) (mdW cI a N P T U (us (us (us v 11 (p_lay N (nI t) mo n 0)) 12 (p_lay N (nI t) mo n 1)) 13 (p_lay N (nI t) mo n 2))) s.heap.size) args s 0 0 (va_A (mdW cI a N P T U v) s.heap.size)) (F0 m 20 ls []) := by
    intro f
    induction f with
    | zero => intro k hv1 hv2; exact absurd hv2 (Nat.not_lt_zero _)
    | succ f ih =>
      intro k hv1 hv2 H locs hP hD hS hz ls hl
      refine lv_iload hx hb dX5_lays_20 (lv_at hl 4 rfl) ?_
      refine lv_aload_n hx hb dX5_lays_22 rfl (lv_at hl 0 rfl) ?_
      refine g5 hx hb hts hown hK hP 0 rfl 0 (by decide) flX5_7 (fun _ h => h) (v := .ref (a 1)) rfl dX5_lays_23 ?_
      refine lv_iconst (v := 5) hx hb dX5_lays_26 (by decide) ?_
      refine k_ald (k := 5) hx hb hK hP 1 0 rfl rfl rfl (by decide) (by decide) dX5_lays_27 ?_
      rw [show flat N (5) = N 1 2 from rfl]
      rw [show N 1 2 = nI n from hn]
      refine lv_icmp_ge (tgt := 173) hx hb dX5_lays_28 (by decide) (fun c2 => ?_) (fun c2 => ?_)
      · have c2' := Int32.not_lt.mpr c2
        have hkn : n = k := (k_exit (by omega) hv1 c2).symm
        subst hkn
        have hP : va_P D vwCl (mdW cI a N P T U (us (us (us v 11 (p_lay N (nI t) mo n 0)) 12 (p_lay N (nI t) mo n 1)) 13 (p_lay N (nI t) mo n 2))) H := hP
        have hD : va_D (va_A (mdW cI a N P T U v) s.heap.size) (mdW cI a N P T U (us (us (us v 11 (p_lay N (nI t) mo n 0)) 12 (p_lay N (nI t) mo n 1)) 13 (p_lay N (nI t) mo n 2))) := hD
        exact k_eMv hx hb hr hlocks hP hS dX5_lays_173
      · have c2' := Int32.not_le.mp c2
        have hkn : k < n := k_more (by omega) hv1 c2
        refine lv_aload_n hx hb dX5_lays_31 rfl (lv_at hl 0 rfl) ?_
        refine lv_iload hx hb dX5_lays_32 (lv_at hl 4 rfl) ?_
        refine lv_bipush (v := 6) hx hb dX5_lays_34 (by decide) ?_
        refine k_riV (As := [.int (nI k), .int (nI 6)]) (rest := []) (wc := mdW cI a N P T U (us (us (us v 11 (p_lay N (nI t) mo k 0)) 12 (p_lay N (nI t) mo k 1)) 13 (p_lay N (nI t) mo k 2))) ⟨hx, hb, hml, hown, hts⟩ (c_X5_of l D cI cS cL a N P T U (us (us (us v 11 (p_lay N (nI t) mo k 0)) 12 (p_lay N (nI t) mo k 1)) 13 (p_lay N (nI t) mo k 2)) _ k 6 9 (by omega) (by decide) rfl) lkX5_37 rfl rfl ⟨(Nat.le_of_ble_eq_true rfl), (Nat.le_of_ble_eq_true rfl)⟩ (va_recv hK hP (ci := 4) (q0 := 0) rfl rfl) hK hE hP hD rfl hl.1 rfl (Nat.le_of_ble_eq_true rfl) dX5_lays_36 ⟨Nat.zero_le _, Nat.zero_le _⟩ ?_
        refine lv_iload_n hx hb dX5_lays_39 rfl (lv_at hl 1 rfl) ?_
        refine lv_icmp_eq (tgt := 49) hx hb dX5_lays_40 (by decide) (fun c3 => ?_) (fun c3 => ?_)
        · refine lv_aload_n hx hb dX5_lays_49 rfl (lv_at hl 0 rfl) ?_
          refine lv_iload hx hb dX5_lays_50 (lv_at hl 4 rfl) ?_
          refine k_riV (As := [.int (nI k)]) (rest := []) (wc := mdW cI a N P T U (us (us (us v 11 (p_lay N (nI t) mo k 0)) 12 (p_lay N (nI t) mo k 1)) 13 (p_lay N (nI t) mo k 2))) ⟨hx, hb, hml, hown, hts⟩ (c_X5_isReady l D cI cS cL a N P T U (us (us (us v 11 (p_lay N (nI t) mo k 0)) 12 (p_lay N (nI t) mo k 1)) 13 (p_lay N (nI t) mo k 2)) _ k (by omega) hd0) lkX5_62 rfl rfl ⟨(Nat.le_of_ble_eq_true rfl), (Nat.le_of_ble_eq_true rfl)⟩ (va_recv hK hP (ci := 4) (q0 := 0) rfl rfl) hK hE hP hD rfl hl.1 rfl (Nat.le_of_ble_eq_true rfl) dX5_lays_52 ⟨Nat.zero_le _, Nat.zero_le _⟩ ?_
          refine lv_if_eq (tgt := 62) hx hb dX5_lays_55 (by decide) (fun c4 => ?_) (fun c4 => ?_)
          · have c4 := bI_eq0 c4
            refine lv_iconst (v := 0) hx hb dX5_lays_62 (by decide) ?_
            refine lv_istore (lv' := [(5, .int 0), (0, .ref (a 0)), (1, .int (nI t)), (2, .int mo), (3, .int (p_lay N (nI t) mo k 3)), (4, .int (nI k))]) hx hb dX5_lays_63 hl (by decide) rfl (fun ls hl => ?_)
            refine lv_iload_n hx hb dX5_lays_65 rfl (lv_at hl 4 rfl) ?_
            refine lv_iconst (v := (-1)) hx hb dX5_lays_66 (by decide) ?_
            refine lv_icmp_eq (tgt := 81) hx hb dX5_lays_67 (by decide) (fun c5 => ?_) (fun c5 => ?_)
            · refine lv_iconst (v := 1) hx hb dX5_lays_81 (by decide) ?_
              refine lv_goto (tgt := 86) hx hb dX5_lays_82 (by decide) ?_
              refine lv_istore (lv' := [(6, .int 1), (5, .int 0), (0, .ref (a 0)), (1, .int (nI t)), (2, .int mo), (3, .int (p_lay N (nI t) mo k 3)), (4, .int (nI k))]) hx hb dX5_lays_86 hl (by decide) rfl (fun ls hl => ?_)
              refine lv_iload hx hb dX5_lays_88 (lv_at hl 1 rfl) ?_
              refine lv_if_eq (tgt := 167) hx hb dX5_lays_90 (by decide) (fun _ => ?_) (fun h => absurd (by decide) h)
              have hls := lay_no (N := N) (t := nI t) (mo := mo) (k := k) (by simp [c2, c2', hkn, c3, c4, c5])
              refine lv_iinc (v := nI (k + 1)) (lv' := [(4, .int (nI (k + 1))), (6, .int 1), (5, .int 0), (0, .ref (a 0)), (1, .int (nI t)), (2, .int mo), (3, .int (p_lay N (nI t) mo k 3))]) hx hb dX5_lays_167 hl (k := 6) rfl (nI_1 _) (by decide) rfl (fun ls hl => ?_)
              refine lv_goto (tgt := 20) hx hb dX5_lays_170 (by decide) ?_
              have hl : lv_has ls 7 [(0, .ref (a 0)), (1, .int (nI t)), (2, .int mo), (3, .int (p_lay N (nI t) mo k 3)), (4, .int (nI (k + 1)))] := lv_sub hl [3, 4, 5, 6, 0] rfl
              have w6 : p_lay N (nI t) mo k 3 = p_lay N (nI t) mo (k + 1) 3 := by first | (rw [hls]; done) | (rw [hls]; rfl)
              have hl : lv_has ls 7 [(0, .ref (a 0)), (1, .int (nI t)), (2, .int mo), (3, .int (p_lay N (nI t) mo (k + 1) 3)), (4, .int (nI (k + 1)))] := (congrArg (fun zz => lv_has ls 7 [(0, .ref (a 0)), (1, .int (nI t)), (2, .int mo), (3, .int zz), (4, .int (nI (k + 1)))]) w6).mp hl
              have hl : lv_has ls 7 [(0, .ref (a 0)), (1, .int (nI t)), (2, .int mo), (3, .int (p_lay N (nI t) mo (k + 1) 3)), (4, .int (nI (k + 1)))] := hl
              have w7 : (us (us (us v 11 (p_lay N (nI t) mo k 0)) 12 (p_lay N (nI t) mo k 1)) 13 (p_lay N (nI t) mo k 2)) = (us (us (us v 11 (p_lay N (nI t) mo (k + 1) 0)) 12 (p_lay N (nI t) mo (k + 1) 1)) 13 (p_lay N (nI t) mo (k + 1) 2)) := by first | (rw [hls]; done) | (rw [hls]; rfl)
              have hP : va_P D vwCl (mdW cI a N P T U (us (us (us v 11 (p_lay N (nI t) mo (k + 1) 0)) 12 (p_lay N (nI t) mo (k + 1) 1)) 13 (p_lay N (nI t) mo (k + 1) 2))) H := (congrArg (fun zz => va_P D vwCl (mdW cI a N P T U zz) H) w7).mp hP
              have hD : va_D (va_A (mdW cI a N P T U v) s.heap.size) (mdW cI a N P T U (us (us (us v 11 (p_lay N (nI t) mo (k + 1) 0)) 12 (p_lay N (nI t) mo (k + 1) 1)) 13 (p_lay N (nI t) mo (k + 1) 2))) := (congrArg (fun zz => va_D (va_A (mdW cI a N P T U v) s.heap.size) (mdW cI a N P T U zz)) w7).mp hD
              have hP : va_P D vwCl (mdW cI a N P T U (us (us (us v 11 (p_lay N (nI t) mo (k + 1) 0)) 12 (p_lay N (nI t) mo (k + 1) 1)) 13 (p_lay N (nI t) mo (k + 1) 2))) H := hP
              have hD : va_D (va_A (mdW cI a N P T U v) s.heap.size) (mdW cI a N P T U (us (us (us v 11 (p_lay N (nI t) mo (k + 1) 0)) 12 (p_lay N (nI t) mo (k + 1) 1)) 13 (p_lay N (nI t) mo (k + 1) 2))) := hD
              exact ih (k + 1) (by omega) (by omega) H locs hP hD hS hS.1 ls hl
            · refine lv_aload_n hx hb dX5_lays_70 rfl (lv_at hl 1 rfl) ?_
              refine lv_iload hx hb dX5_lays_71 (lv_at hl 5 rfl) ?_
              refine lv_iconst (v := 2) hx hb dX5_lays_73 (by decide) ?_
              refine k_riV (As := [.int (nI k), .int (nI 2)]) (rest := []) (wc := mdW cI a N P T U (us (us (us v 11 (p_lay N (nI t) mo k 0)) 12 (p_lay N (nI t) mo k 1)) 13 (p_lay N (nI t) mo k 2))) ⟨hx, hb, hml, hown, hts⟩ (c_X5_of l D cI cS cL a N P T U (us (us (us v 11 (p_lay N (nI t) mo k 0)) 12 (p_lay N (nI t) mo k 1)) 13 (p_lay N (nI t) mo k 2)) _ k 2 5 (by omega) (by decide) rfl) lkX5_37 rfl rfl ⟨(Nat.le_of_ble_eq_true rfl), (Nat.le_of_ble_eq_true rfl)⟩ (va_recv hK hP (ci := 4) (q0 := 0) rfl rfl) hK hE hP hD rfl hl.1 rfl (Nat.le_of_ble_eq_true rfl) dX5_lays_74 ⟨Nat.zero_le _, Nat.zero_le _⟩ ?_
              refine lv_iload_n hx hb dX5_lays_77 rfl (lv_at hl 4 rfl) ?_
              refine lv_icmp_ne (tgt := 85) hx hb dX5_lays_78 (by decide) (fun c8 => ?_) (fun c8 => ?_)
              · have hne : ¬ p_lay N (nI t) mo k 3 = N 5 k := fun h => c8 h.symm
                refine lv_iconst (v := 0) hx hb dX5_lays_85 (by decide) ?_
                refine lv_istore (lv' := [(6, .int 0), (5, .int 0), (0, .ref (a 0)), (1, .int (nI t)), (2, .int mo), (3, .int (p_lay N (nI t) mo k 3)), (4, .int (nI k))]) hx hb dX5_lays_86 hl (by decide) rfl (fun ls hl => ?_)
                refine lv_iload hx hb dX5_lays_88 (lv_at hl 1 rfl) ?_
                refine lv_if_eq (tgt := 167) hx hb dX5_lays_90 (by decide) (fun _ => ?_) (fun h => absurd (by decide) h)
                have hls := lay_no (N := N) (t := nI t) (mo := mo) (k := k) (by simp [c2, c2', hkn, c3, c4, c5, hne])
                refine lv_iinc (v := nI (k + 1)) (lv' := [(4, .int (nI (k + 1))), (6, .int 0), (5, .int 0), (0, .ref (a 0)), (1, .int (nI t)), (2, .int mo), (3, .int (p_lay N (nI t) mo k 3))]) hx hb dX5_lays_167 hl (k := 6) rfl (nI_1 _) (by decide) rfl (fun ls hl => ?_)
                refine lv_goto (tgt := 20) hx hb dX5_lays_170 (by decide) ?_
                have hl : lv_has ls 7 [(0, .ref (a 0)), (1, .int (nI t)), (2, .int mo), (3, .int (p_lay N (nI t) mo k 3)), (4, .int (nI (k + 1)))] := lv_sub hl [3, 4, 5, 6, 0] rfl
                have w9 : p_lay N (nI t) mo k 3 = p_lay N (nI t) mo (k + 1) 3 := by first | (rw [hls]; done) | (rw [hls]; rfl)
                have hl : lv_has ls 7 [(0, .ref (a 0)), (1, .int (nI t)), (2, .int mo), (3, .int (p_lay N (nI t) mo (k + 1) 3)), (4, .int (nI (k + 1)))] := (congrArg (fun zz => lv_has ls 7 [(0, .ref (a 0)), (1, .int (nI t)), (2, .int mo), (3, .int zz), (4, .int (nI (k + 1)))]) w9).mp hl
                have hl : lv_has ls 7 [(0, .ref (a 0)), (1, .int (nI t)), (2, .int mo), (3, .int (p_lay N (nI t) mo (k + 1) 3)), (4, .int (nI (k + 1)))] := hl
                have w10 : (us (us (us v 11 (p_lay N (nI t) mo k 0)) 12 (p_lay N (nI t) mo k 1)) 13 (p_lay N (nI t) mo k 2)) = (us (us (us v 11 (p_lay N (nI t) mo (k + 1) 0)) 12 (p_lay N (nI t) mo (k + 1) 1)) 13 (p_lay N (nI t) mo (k + 1) 2)) := by first | (rw [hls]; done) | (rw [hls]; rfl)
                have hP : va_P D vwCl (mdW cI a N P T U (us (us (us v 11 (p_lay N (nI t) mo (k + 1) 0)) 12 (p_lay N (nI t) mo (k + 1) 1)) 13 (p_lay N (nI t) mo (k + 1) 2))) H := (congrArg (fun zz => va_P D vwCl (mdW cI a N P T U zz) H) w10).mp hP
                have hD : va_D (va_A (mdW cI a N P T U v) s.heap.size) (mdW cI a N P T U (us (us (us v 11 (p_lay N (nI t) mo (k + 1) 0)) 12 (p_lay N (nI t) mo (k + 1) 1)) 13 (p_lay N (nI t) mo (k + 1) 2))) := (congrArg (fun zz => va_D (va_A (mdW cI a N P T U v) s.heap.size) (mdW cI a N P T U zz)) w10).mp hD
                have hP : va_P D vwCl (mdW cI a N P T U (us (us (us v 11 (p_lay N (nI t) mo (k + 1) 0)) 12 (p_lay N (nI t) mo (k + 1) 1)) 13 (p_lay N (nI t) mo (k + 1) 2))) H := hP
                have hD : va_D (va_A (mdW cI a N P T U v) s.heap.size) (mdW cI a N P T U (us (us (us v 11 (p_lay N (nI t) mo (k + 1) 0)) 12 (p_lay N (nI t) mo (k + 1) 1)) 13 (p_lay N (nI t) mo (k + 1) 2))) := hD
                exact ih (k + 1) (by omega) (by omega) H locs hP hD hS hS.1 ls hl
              · have heq := (c8).symm
                refine lv_iconst (v := 1) hx hb dX5_lays_81 (by decide) ?_
                refine lv_goto (tgt := 86) hx hb dX5_lays_82 (by decide) ?_
                refine lv_istore (lv' := [(6, .int 1), (5, .int 0), (0, .ref (a 0)), (1, .int (nI t)), (2, .int mo), (3, .int (p_lay N (nI t) mo k 3)), (4, .int (nI k))]) hx hb dX5_lays_86 hl (by decide) rfl (fun ls hl => ?_)
                refine lv_iload hx hb dX5_lays_88 (lv_at hl 1 rfl) ?_
                refine lv_if_eq (tgt := 167) hx hb dX5_lays_90 (by decide) (fun _ => ?_) (fun h => absurd (by decide) h)
                have hls := lay_no (N := N) (t := nI t) (mo := mo) (k := k) (by simp [c2, c2', hkn, c3, c4, c5, heq])
                refine lv_iinc (v := nI (k + 1)) (lv' := [(4, .int (nI (k + 1))), (6, .int 1), (5, .int 0), (0, .ref (a 0)), (1, .int (nI t)), (2, .int mo), (3, .int (p_lay N (nI t) mo k 3))]) hx hb dX5_lays_167 hl (k := 6) rfl (nI_1 _) (by decide) rfl (fun ls hl => ?_)
                refine lv_goto (tgt := 20) hx hb dX5_lays_170 (by decide) ?_
                have hl : lv_has ls 7 [(0, .ref (a 0)), (1, .int (nI t)), (2, .int mo), (3, .int (p_lay N (nI t) mo k 3)), (4, .int (nI (k + 1)))] := lv_sub hl [3, 4, 5, 6, 0] rfl
                have w11 : p_lay N (nI t) mo k 3 = p_lay N (nI t) mo (k + 1) 3 := by first | (rw [hls]; done) | (rw [hls]; rfl)
                have hl : lv_has ls 7 [(0, .ref (a 0)), (1, .int (nI t)), (2, .int mo), (3, .int (p_lay N (nI t) mo (k + 1) 3)), (4, .int (nI (k + 1)))] := (congrArg (fun zz => lv_has ls 7 [(0, .ref (a 0)), (1, .int (nI t)), (2, .int mo), (3, .int zz), (4, .int (nI (k + 1)))]) w11).mp hl
                have hl : lv_has ls 7 [(0, .ref (a 0)), (1, .int (nI t)), (2, .int mo), (3, .int (p_lay N (nI t) mo (k + 1) 3)), (4, .int (nI (k + 1)))] := hl
                have w12 : (us (us (us v 11 (p_lay N (nI t) mo k 0)) 12 (p_lay N (nI t) mo k 1)) 13 (p_lay N (nI t) mo k 2)) = (us (us (us v 11 (p_lay N (nI t) mo (k + 1) 0)) 12 (p_lay N (nI t) mo (k + 1) 1)) 13 (p_lay N (nI t) mo (k + 1) 2)) := by first | (rw [hls]; done) | (rw [hls]; rfl)
                have hP : va_P D vwCl (mdW cI a N P T U (us (us (us v 11 (p_lay N (nI t) mo (k + 1) 0)) 12 (p_lay N (nI t) mo (k + 1) 1)) 13 (p_lay N (nI t) mo (k + 1) 2))) H := (congrArg (fun zz => va_P D vwCl (mdW cI a N P T U zz) H) w12).mp hP
                have hD : va_D (va_A (mdW cI a N P T U v) s.heap.size) (mdW cI a N P T U (us (us (us v 11 (p_lay N (nI t) mo (k + 1) 0)) 12 (p_lay N (nI t) mo (k + 1) 1)) 13 (p_lay N (nI t) mo (k + 1) 2))) := (congrArg (fun zz => va_D (va_A (mdW cI a N P T U v) s.heap.size) (mdW cI a N P T U zz)) w12).mp hD
                have hP : va_P D vwCl (mdW cI a N P T U (us (us (us v 11 (p_lay N (nI t) mo (k + 1) 0)) 12 (p_lay N (nI t) mo (k + 1) 1)) 13 (p_lay N (nI t) mo (k + 1) 2))) H := hP
                have hD : va_D (va_A (mdW cI a N P T U v) s.heap.size) (mdW cI a N P T U (us (us (us v 11 (p_lay N (nI t) mo (k + 1) 0)) 12 (p_lay N (nI t) mo (k + 1) 1)) 13 (p_lay N (nI t) mo (k + 1) 2))) := hD
                exact ih (k + 1) (by omega) (by omega) H locs hP hD hS hS.1 ls hl
          · have c4 := bI_ne0 c4
            refine lv_iconst (v := 1) hx hb dX5_lays_58 (by decide) ?_
            refine lv_goto (tgt := 63) hx hb dX5_lays_59 (by decide) ?_
            refine lv_istore (lv' := [(5, .int 1), (0, .ref (a 0)), (1, .int (nI t)), (2, .int mo), (3, .int (p_lay N (nI t) mo k 3)), (4, .int (nI k))]) hx hb dX5_lays_63 hl (by decide) rfl (fun ls hl => ?_)
            refine lv_iload_n hx hb dX5_lays_65 rfl (lv_at hl 4 rfl) ?_
            refine lv_iconst (v := (-1)) hx hb dX5_lays_66 (by decide) ?_
            refine lv_icmp_eq (tgt := 81) hx hb dX5_lays_67 (by decide) (fun c13 => ?_) (fun c13 => ?_)
            · refine lv_iconst (v := 1) hx hb dX5_lays_81 (by decide) ?_
              refine lv_goto (tgt := 86) hx hb dX5_lays_82 (by decide) ?_
              refine lv_istore (lv' := [(6, .int 1), (5, .int 1), (0, .ref (a 0)), (1, .int (nI t)), (2, .int mo), (3, .int (p_lay N (nI t) mo k 3)), (4, .int (nI k))]) hx hb dX5_lays_86 hl (by decide) rfl (fun ls hl => ?_)
              refine lv_iload hx hb dX5_lays_88 (lv_at hl 1 rfl) ?_
              refine lv_if_eq (tgt := 167) hx hb dX5_lays_90 (by decide) (fun h => absurd h (by decide)) (fun _ => ?_)
              refine lv_iload hx hb dX5_lays_93 (lv_at hl 0 rfl) ?_
              refine lv_if_ne (tgt := 111) hx hb dX5_lays_95 (by decide) (fun _ => ?_) (fun h => absurd h (by decide))
              refine lv_aload_n hx hb dX5_lays_111 rfl (lv_at hl 2 rfl) ?_
              refine lv_dup hx hb dX5_lays_112 rfl ?_
              refine g5 hx hb hts hown hK hP 0 rfl 12 (by decide) flX5_56 (fun _ h => h) (v := .int (p_lay N (nI t) mo k 1)) rfl dX5_lays_113 ?_
              refine lv_iload hx hb dX5_lays_116 (lv_at hl 0 rfl) ?_
              refine lv_if_eq (tgt := 125) hx hb dX5_lays_118 (by decide) (fun h => absurd h (by decide)) (fun _ => ?_)
              refine lv_iconst (v := 0) hx hb dX5_lays_121 (by decide) ?_
              refine lv_goto (tgt := 126) hx hb dX5_lays_122 (by decide) ?_
              refine lv_iadd hx hb dX5_lays_126 (lv_topi (fun x14 e14 => ?_))
              have q14 : x14 = p_lay N (nI t) mo k 1 := by rw [e14]; exact Int32.add_zero _
              subst q14
              refine f5 hx hb hts hown hK hP hD hS 0 rfl 12 (by decide) flX5_56 (fun _ h => h) rfl rfl rfl (Nat.le_of_ble_eq_true rfl) dX5_lays_127 (fun H locs hP hD hS => ?_)
              have hP : va_P D vwCl (mdW cI a N P T U (us (us (us v 11 (p_lay N (nI t) mo k 0)) 12 (p_lay N (nI t) mo k 1)) 13 (p_lay N (nI t) mo k 2))) H := hP
              have hD : va_D (va_A (mdW cI a N P T U v) s.heap.size) (mdW cI a N P T U (us (us (us v 11 (p_lay N (nI t) mo k 0)) 12 (p_lay N (nI t) mo k 1)) 13 (p_lay N (nI t) mo k 2))) := hD
              refine lv_aload_n hx hb dX5_lays_130 rfl (lv_at hl 2 rfl) ?_
              refine lv_iload hx hb dX5_lays_131 (lv_at hl 6 rfl) ?_
              refine lv_iconst (v := 2) hx hb dX5_lays_133 (by decide) ?_
              refine k_riV (As := [.int (nI k), .int (nI 2)]) (rest := []) (wc := mdW cI a N P T U (us (us (us v 11 (p_lay N (nI t) mo k 0)) 12 (p_lay N (nI t) mo k 1)) 13 (p_lay N (nI t) mo k 2))) ⟨hx, hb, hml, hown, hts⟩ (c_X5_of l D cI cS cL a N P T U (us (us (us v 11 (p_lay N (nI t) mo k 0)) 12 (p_lay N (nI t) mo k 1)) 13 (p_lay N (nI t) mo k 2)) _ k 2 5 (by omega) (by decide) rfl) lkX5_37 rfl rfl ⟨(Nat.le_of_ble_eq_true rfl), (Nat.le_of_ble_eq_true rfl)⟩ (va_recv hK hP (ci := 4) (q0 := 0) rfl rfl) hK hE hP hD rfl hl.1 rfl (Nat.le_of_ble_eq_true rfl) dX5_lays_134 ⟨Nat.zero_le _, Nat.zero_le _⟩ ?_
              refine lv_istore_n (lv' := [(3, .int (N 5 k)), (6, .int 1), (5, .int 1), (0, .ref (a 0)), (1, .int (nI t)), (2, .int mo), (4, .int (nI k))]) hx hb dX5_lays_137 rfl hl (by decide) rfl (fun ls hl => ?_)
              refine lv_aload_n hx hb dX5_lays_138 rfl (lv_at hl 3 rfl) ?_
              refine lv_dup hx hb dX5_lays_139 rfl ?_
              refine g5 hx hb hts hown hK hP 0 rfl 11 (by decide) flX5_53 (fun _ h => h) (v := .int (p_lay N (nI t) mo k 0)) rfl dX5_lays_140 ?_
              refine lv_aload_n hx hb dX5_lays_143 rfl (lv_at hl 3 rfl) ?_
              refine lv_iload hx hb dX5_lays_144 (lv_at hl 6 rfl) ?_
              refine lv_iconst (v := 1) hx hb dX5_lays_146 (by decide) ?_
              refine k_riV (As := [.int (nI k), .int (nI 1)]) (rest := [.int (p_lay N (nI t) mo k 0), .ref (a 0)]) (wc := mdW cI a N P T U (us (us (us v 11 (p_lay N (nI t) mo k 0)) 12 (p_lay N (nI t) mo k 1)) 13 (p_lay N (nI t) mo k 2))) ⟨hx, hb, hml, hown, hts⟩ (c_X5_of l D cI cS cL a N P T U (us (us (us v 11 (p_lay N (nI t) mo k 0)) 12 (p_lay N (nI t) mo k 1)) 13 (p_lay N (nI t) mo k 2)) _ k 1 4 (by omega) (by decide) rfl) lkX5_37 rfl rfl ⟨(Nat.le_of_ble_eq_true rfl), (Nat.le_of_ble_eq_true rfl)⟩ (va_recv hK hP (ci := 4) (q0 := 0) rfl rfl) hK hE hP hD rfl hl.1 rfl (Nat.le_of_ble_eq_true rfl) dX5_lays_147 ⟨Nat.zero_le _, Nat.zero_le _⟩ ?_
              refine lv_iadd hx hb dX5_lays_150 (lv_topi (fun x15 e15 => ?_))
              refine f5 hx hb hts hown hK hP hD hS 0 rfl 11 (by decide) flX5_53 (fun _ h => h) rfl rfl rfl (Nat.le_of_ble_eq_true rfl) dX5_lays_151 (fun H locs hP hD hS => ?_)
              have hP : va_P D vwCl (mdW cI a N P T U (us (us (us v 11 x15) 12 (p_lay N (nI t) mo k 1)) 13 (p_lay N (nI t) mo k 2))) H := hP
              have hD : va_D (va_A (mdW cI a N P T U v) s.heap.size) (mdW cI a N P T U (us (us (us v 11 x15) 12 (p_lay N (nI t) mo k 1)) 13 (p_lay N (nI t) mo k 2))) := hD
              refine lv_aload_n hx hb dX5_lays_154 rfl (lv_at hl 3 rfl) ?_
              refine lv_dup hx hb dX5_lays_155 rfl ?_
              refine g5 hx hb hts hown hK hP 0 rfl 13 (by decide) flX5_59 (fun _ h => h) (v := .int (p_lay N (nI t) mo k 2)) rfl dX5_lays_156 ?_
              refine lv_iconst (v := 1) hx hb dX5_lays_159 (by decide) ?_
              refine lv_iload hx hb dX5_lays_160 (lv_at hl 6 rfl) ?_
              refine lv_ishl hx hb dX5_lays_162 (lv_topi (fun x16 e16 => ?_))
              refine lv_ior hx hb dX5_lays_163 (lv_topi (fun x17 e17 => ?_))
              refine f5 hx hb hts hown hK hP hD hS 0 rfl 13 (by decide) flX5_59 (fun _ h => h) rfl rfl rfl (Nat.le_of_ble_eq_true rfl) dX5_lays_164 (fun H locs hP hD hS => ?_)
              have hP : va_P D vwCl (mdW cI a N P T U (us (us (us v 11 x15) 12 (p_lay N (nI t) mo k 1)) 13 x17)) H := hP
              have hD : va_D (va_A (mdW cI a N P T U v) s.heap.size) (mdW cI a N P T U (us (us (us v 11 x15) 12 (p_lay N (nI t) mo k 1)) 13 x17)) := hD
              have hls := lay_fit (N := N) (t := nI t) (mo := mo) (k := k) (by simp [c2, c2', hkn, c3, c4, c13]) (by simp [c2, c2', hkn, c3, c4, c13])
              refine lv_iinc (v := nI (k + 1)) (lv' := [(4, .int (nI (k + 1))), (3, .int (N 5 k)), (6, .int 1), (5, .int 1), (0, .ref (a 0)), (1, .int (nI t)), (2, .int mo)]) hx hb dX5_lays_167 hl (k := 6) rfl (nI_1 _) (by decide) rfl (fun ls hl => ?_)
              refine lv_goto (tgt := 20) hx hb dX5_lays_170 (by decide) ?_
              have hl : lv_has ls 7 [(0, .ref (a 0)), (1, .int (nI t)), (2, .int mo), (3, .int (N 5 k)), (4, .int (nI (k + 1)))] := lv_sub hl [4, 5, 6, 1, 0] rfl
              have w18 : N 5 k = p_lay N (nI t) mo (k + 1) 3 := by subst e15 e16 e17; first | (rw [hls]; done) | (rw [hls]; rfl)
              have hl : lv_has ls 7 [(0, .ref (a 0)), (1, .int (nI t)), (2, .int mo), (3, .int (p_lay N (nI t) mo (k + 1) 3)), (4, .int (nI (k + 1)))] := (congrArg (fun zz => lv_has ls 7 [(0, .ref (a 0)), (1, .int (nI t)), (2, .int mo), (3, .int zz), (4, .int (nI (k + 1)))]) w18).mp hl
              have hl : lv_has ls 7 [(0, .ref (a 0)), (1, .int (nI t)), (2, .int mo), (3, .int (p_lay N (nI t) mo (k + 1) 3)), (4, .int (nI (k + 1)))] := hl
              have w19 : (us (us (us v 11 x15) 12 (p_lay N (nI t) mo k 1)) 13 x17) = (us (us (us v 11 (p_lay N (nI t) mo (k + 1) 0)) 12 (p_lay N (nI t) mo (k + 1) 1)) 13 (p_lay N (nI t) mo (k + 1) 2)) := by subst e15 e16 e17; first | (rw [hls]; done) | (rw [hls]; rfl)
              have hP : va_P D vwCl (mdW cI a N P T U (us (us (us v 11 (p_lay N (nI t) mo (k + 1) 0)) 12 (p_lay N (nI t) mo (k + 1) 1)) 13 (p_lay N (nI t) mo (k + 1) 2))) H := (congrArg (fun zz => va_P D vwCl (mdW cI a N P T U zz) H) w19).mp hP
              have hD : va_D (va_A (mdW cI a N P T U v) s.heap.size) (mdW cI a N P T U (us (us (us v 11 (p_lay N (nI t) mo (k + 1) 0)) 12 (p_lay N (nI t) mo (k + 1) 1)) 13 (p_lay N (nI t) mo (k + 1) 2))) := (congrArg (fun zz => va_D (va_A (mdW cI a N P T U v) s.heap.size) (mdW cI a N P T U zz)) w19).mp hD
              have hP : va_P D vwCl (mdW cI a N P T U (us (us (us v 11 (p_lay N (nI t) mo (k + 1) 0)) 12 (p_lay N (nI t) mo (k + 1) 1)) 13 (p_lay N (nI t) mo (k + 1) 2))) H := hP
              have hD : va_D (va_A (mdW cI a N P T U v) s.heap.size) (mdW cI a N P T U (us (us (us v 11 (p_lay N (nI t) mo (k + 1) 0)) 12 (p_lay N (nI t) mo (k + 1) 1)) 13 (p_lay N (nI t) mo (k + 1) 2))) := hD
              exact ih (k + 1) (by omega) (by omega) H locs hP hD hS hS.1 ls hl
            · refine lv_aload_n hx hb dX5_lays_70 rfl (lv_at hl 1 rfl) ?_
              refine lv_iload hx hb dX5_lays_71 (lv_at hl 5 rfl) ?_
              refine lv_iconst (v := 2) hx hb dX5_lays_73 (by decide) ?_
              refine k_riV (As := [.int (nI k), .int (nI 2)]) (rest := []) (wc := mdW cI a N P T U (us (us (us v 11 (p_lay N (nI t) mo k 0)) 12 (p_lay N (nI t) mo k 1)) 13 (p_lay N (nI t) mo k 2))) ⟨hx, hb, hml, hown, hts⟩ (c_X5_of l D cI cS cL a N P T U (us (us (us v 11 (p_lay N (nI t) mo k 0)) 12 (p_lay N (nI t) mo k 1)) 13 (p_lay N (nI t) mo k 2)) _ k 2 5 (by omega) (by decide) rfl) lkX5_37 rfl rfl ⟨(Nat.le_of_ble_eq_true rfl), (Nat.le_of_ble_eq_true rfl)⟩ (va_recv hK hP (ci := 4) (q0 := 0) rfl rfl) hK hE hP hD rfl hl.1 rfl (Nat.le_of_ble_eq_true rfl) dX5_lays_74 ⟨Nat.zero_le _, Nat.zero_le _⟩ ?_
              refine lv_iload_n hx hb dX5_lays_77 rfl (lv_at hl 4 rfl) ?_
              refine lv_icmp_ne (tgt := 85) hx hb dX5_lays_78 (by decide) (fun c20 => ?_) (fun c20 => ?_)
              · have hne : ¬ p_lay N (nI t) mo k 3 = N 5 k := fun h => c20 h.symm
                refine lv_iconst (v := 0) hx hb dX5_lays_85 (by decide) ?_
                refine lv_istore (lv' := [(6, .int 0), (5, .int 1), (0, .ref (a 0)), (1, .int (nI t)), (2, .int mo), (3, .int (p_lay N (nI t) mo k 3)), (4, .int (nI k))]) hx hb dX5_lays_86 hl (by decide) rfl (fun ls hl => ?_)
                refine lv_iload hx hb dX5_lays_88 (lv_at hl 1 rfl) ?_
                refine lv_if_eq (tgt := 167) hx hb dX5_lays_90 (by decide) (fun h => absurd h (by decide)) (fun _ => ?_)
                refine lv_iload hx hb dX5_lays_93 (lv_at hl 0 rfl) ?_
                refine lv_if_ne (tgt := 111) hx hb dX5_lays_95 (by decide) (fun h => absurd (by decide) h) (fun _ => ?_)
                refine lv_aload_n hx hb dX5_lays_98 rfl (lv_at hl 2 rfl) ?_
                refine g5 hx hb hts hown hK hP 0 rfl 12 (by decide) flX5_56 (fun _ h => h) (v := .int (p_lay N (nI t) mo k 1)) rfl dX5_lays_99 ?_
                refine lv_aload_n hx hb dX5_lays_102 rfl (lv_at hl 2 rfl) ?_
                refine g5 hx hb hts hown hK hP 0 rfl 0 (by decide) flX5_7 (fun _ h => h) (v := .ref (a 1)) rfl dX5_lays_103 ?_
                refine lv_iconst (v := 1) hx hb dX5_lays_106 (by decide) ?_
                refine k_ald (k := 1) hx hb hK hP 1 0 rfl rfl rfl (by decide) (by decide) dX5_lays_107 ?_
                rw [show flat N (1) = N 0 1 from rfl]
                refine lv_icmp_ge (tgt := 167) hx hb dX5_lays_108 (by decide) (fun c21 => ?_) (fun c21 => ?_)
                · have c21' := Int32.not_lt.mpr c21
                  have hfull := c21
                  have hls := lay_full (N := N) (t := nI t) (mo := mo) (k := k) (by simp [c2, c2', hkn, c3, c4, c13, hne, c21, c21', hfull]) (by simp [c2, c2', hkn, c3, c4, c13, hne, c21, c21', hfull]) hfull
                  refine lv_iinc (v := nI (k + 1)) (lv' := [(4, .int (nI (k + 1))), (6, .int 0), (5, .int 1), (0, .ref (a 0)), (1, .int (nI t)), (2, .int mo), (3, .int (p_lay N (nI t) mo k 3))]) hx hb dX5_lays_167 hl (k := 6) rfl (nI_1 _) (by decide) rfl (fun ls hl => ?_)
                  refine lv_goto (tgt := 20) hx hb dX5_lays_170 (by decide) ?_
                  have hl : lv_has ls 7 [(0, .ref (a 0)), (1, .int (nI t)), (2, .int mo), (3, .int (p_lay N (nI t) mo k 3)), (4, .int (nI (k + 1)))] := lv_sub hl [3, 4, 5, 6, 0] rfl
                  have w22 : p_lay N (nI t) mo k 3 = p_lay N (nI t) mo (k + 1) 3 := by first | (rw [hls]; done) | (rw [hls]; rfl)
                  have hl : lv_has ls 7 [(0, .ref (a 0)), (1, .int (nI t)), (2, .int mo), (3, .int (p_lay N (nI t) mo (k + 1) 3)), (4, .int (nI (k + 1)))] := (congrArg (fun zz => lv_has ls 7 [(0, .ref (a 0)), (1, .int (nI t)), (2, .int mo), (3, .int zz), (4, .int (nI (k + 1)))]) w22).mp hl
                  have hl : lv_has ls 7 [(0, .ref (a 0)), (1, .int (nI t)), (2, .int mo), (3, .int (p_lay N (nI t) mo (k + 1) 3)), (4, .int (nI (k + 1)))] := hl
                  have w23 : (us (us (us v 11 (p_lay N (nI t) mo k 0)) 12 (p_lay N (nI t) mo k 1)) 13 (p_lay N (nI t) mo k 2)) = (us (us (us v 11 (p_lay N (nI t) mo (k + 1) 0)) 12 (p_lay N (nI t) mo (k + 1) 1)) 13 (p_lay N (nI t) mo (k + 1) 2)) := by first | (rw [hls]; done) | (rw [hls]; rfl)
                  have hP : va_P D vwCl (mdW cI a N P T U (us (us (us v 11 (p_lay N (nI t) mo (k + 1) 0)) 12 (p_lay N (nI t) mo (k + 1) 1)) 13 (p_lay N (nI t) mo (k + 1) 2))) H := (congrArg (fun zz => va_P D vwCl (mdW cI a N P T U zz) H) w23).mp hP
                  have hD : va_D (va_A (mdW cI a N P T U v) s.heap.size) (mdW cI a N P T U (us (us (us v 11 (p_lay N (nI t) mo (k + 1) 0)) 12 (p_lay N (nI t) mo (k + 1) 1)) 13 (p_lay N (nI t) mo (k + 1) 2))) := (congrArg (fun zz => va_D (va_A (mdW cI a N P T U v) s.heap.size) (mdW cI a N P T U zz)) w23).mp hD
                  have hP : va_P D vwCl (mdW cI a N P T U (us (us (us v 11 (p_lay N (nI t) mo (k + 1) 0)) 12 (p_lay N (nI t) mo (k + 1) 1)) 13 (p_lay N (nI t) mo (k + 1) 2))) H := hP
                  have hD : va_D (va_A (mdW cI a N P T U v) s.heap.size) (mdW cI a N P T U (us (us (us v 11 (p_lay N (nI t) mo (k + 1) 0)) 12 (p_lay N (nI t) mo (k + 1) 1)) 13 (p_lay N (nI t) mo (k + 1) 2))) := hD
                  exact ih (k + 1) (by omega) (by omega) H locs hP hD hS hS.1 ls hl
                · have c21' := Int32.not_le.mp c21
                  have hadp := c21
                  refine lv_aload_n hx hb dX5_lays_111 rfl (lv_at hl 2 rfl) ?_
                  refine lv_dup hx hb dX5_lays_112 rfl ?_
                  refine g5 hx hb hts hown hK hP 0 rfl 12 (by decide) flX5_56 (fun _ h => h) (v := .int (p_lay N (nI t) mo k 1)) rfl dX5_lays_113 ?_
                  refine lv_iload hx hb dX5_lays_116 (lv_at hl 0 rfl) ?_
                  refine lv_if_eq (tgt := 125) hx hb dX5_lays_118 (by decide) (fun _ => ?_) (fun h => absurd (by decide) h)
                  refine lv_iconst (v := 1) hx hb dX5_lays_125 (by decide) ?_
                  refine lv_iadd hx hb dX5_lays_126 (lv_topi (fun x24 e24 => ?_))
                  refine f5 hx hb hts hown hK hP hD hS 0 rfl 12 (by decide) flX5_56 (fun _ h => h) rfl rfl rfl (Nat.le_of_ble_eq_true rfl) dX5_lays_127 (fun H locs hP hD hS => ?_)
                  have hP : va_P D vwCl (mdW cI a N P T U (us (us (us v 11 (p_lay N (nI t) mo k 0)) 12 x24) 13 (p_lay N (nI t) mo k 2))) H := hP
                  have hD : va_D (va_A (mdW cI a N P T U v) s.heap.size) (mdW cI a N P T U (us (us (us v 11 (p_lay N (nI t) mo k 0)) 12 x24) 13 (p_lay N (nI t) mo k 2))) := hD
                  refine lv_aload_n hx hb dX5_lays_130 rfl (lv_at hl 2 rfl) ?_
                  refine lv_iload hx hb dX5_lays_131 (lv_at hl 6 rfl) ?_
                  refine lv_iconst (v := 2) hx hb dX5_lays_133 (by decide) ?_
                  refine k_riV (As := [.int (nI k), .int (nI 2)]) (rest := []) (wc := mdW cI a N P T U (us (us (us v 11 (p_lay N (nI t) mo k 0)) 12 x24) 13 (p_lay N (nI t) mo k 2))) ⟨hx, hb, hml, hown, hts⟩ (c_X5_of l D cI cS cL a N P T U (us (us (us v 11 (p_lay N (nI t) mo k 0)) 12 x24) 13 (p_lay N (nI t) mo k 2)) _ k 2 5 (by omega) (by decide) rfl) lkX5_37 rfl rfl ⟨(Nat.le_of_ble_eq_true rfl), (Nat.le_of_ble_eq_true rfl)⟩ (va_recv hK hP (ci := 4) (q0 := 0) rfl rfl) hK hE hP hD rfl hl.1 rfl (Nat.le_of_ble_eq_true rfl) dX5_lays_134 ⟨Nat.zero_le _, Nat.zero_le _⟩ ?_
                  refine lv_istore_n (lv' := [(3, .int (N 5 k)), (6, .int 0), (5, .int 1), (0, .ref (a 0)), (1, .int (nI t)), (2, .int mo), (4, .int (nI k))]) hx hb dX5_lays_137 rfl hl (by decide) rfl (fun ls hl => ?_)
                  refine lv_aload_n hx hb dX5_lays_138 rfl (lv_at hl 3 rfl) ?_
                  refine lv_dup hx hb dX5_lays_139 rfl ?_
                  refine g5 hx hb hts hown hK hP 0 rfl 11 (by decide) flX5_53 (fun _ h => h) (v := .int (p_lay N (nI t) mo k 0)) rfl dX5_lays_140 ?_
                  refine lv_aload_n hx hb dX5_lays_143 rfl (lv_at hl 3 rfl) ?_
                  refine lv_iload hx hb dX5_lays_144 (lv_at hl 6 rfl) ?_
                  refine lv_iconst (v := 1) hx hb dX5_lays_146 (by decide) ?_
                  refine k_riV (As := [.int (nI k), .int (nI 1)]) (rest := [.int (p_lay N (nI t) mo k 0), .ref (a 0)]) (wc := mdW cI a N P T U (us (us (us v 11 (p_lay N (nI t) mo k 0)) 12 x24) 13 (p_lay N (nI t) mo k 2))) ⟨hx, hb, hml, hown, hts⟩ (c_X5_of l D cI cS cL a N P T U (us (us (us v 11 (p_lay N (nI t) mo k 0)) 12 x24) 13 (p_lay N (nI t) mo k 2)) _ k 1 4 (by omega) (by decide) rfl) lkX5_37 rfl rfl ⟨(Nat.le_of_ble_eq_true rfl), (Nat.le_of_ble_eq_true rfl)⟩ (va_recv hK hP (ci := 4) (q0 := 0) rfl rfl) hK hE hP hD rfl hl.1 rfl (Nat.le_of_ble_eq_true rfl) dX5_lays_147 ⟨Nat.zero_le _, Nat.zero_le _⟩ ?_
                  refine lv_iadd hx hb dX5_lays_150 (lv_topi (fun x25 e25 => ?_))
                  refine f5 hx hb hts hown hK hP hD hS 0 rfl 11 (by decide) flX5_53 (fun _ h => h) rfl rfl rfl (Nat.le_of_ble_eq_true rfl) dX5_lays_151 (fun H locs hP hD hS => ?_)
                  have hP : va_P D vwCl (mdW cI a N P T U (us (us (us v 11 x25) 12 x24) 13 (p_lay N (nI t) mo k 2))) H := hP
                  have hD : va_D (va_A (mdW cI a N P T U v) s.heap.size) (mdW cI a N P T U (us (us (us v 11 x25) 12 x24) 13 (p_lay N (nI t) mo k 2))) := hD
                  refine lv_aload_n hx hb dX5_lays_154 rfl (lv_at hl 3 rfl) ?_
                  refine lv_dup hx hb dX5_lays_155 rfl ?_
                  refine g5 hx hb hts hown hK hP 0 rfl 13 (by decide) flX5_59 (fun _ h => h) (v := .int (p_lay N (nI t) mo k 2)) rfl dX5_lays_156 ?_
                  refine lv_iconst (v := 1) hx hb dX5_lays_159 (by decide) ?_
                  refine lv_iload hx hb dX5_lays_160 (lv_at hl 6 rfl) ?_
                  refine lv_ishl hx hb dX5_lays_162 (lv_topi (fun x26 e26 => ?_))
                  refine lv_ior hx hb dX5_lays_163 (lv_topi (fun x27 e27 => ?_))
                  refine f5 hx hb hts hown hK hP hD hS 0 rfl 13 (by decide) flX5_59 (fun _ h => h) rfl rfl rfl (Nat.le_of_ble_eq_true rfl) dX5_lays_164 (fun H locs hP hD hS => ?_)
                  have hP : va_P D vwCl (mdW cI a N P T U (us (us (us v 11 x25) 12 x24) 13 x27)) H := hP
                  have hD : va_D (va_A (mdW cI a N P T U v) s.heap.size) (mdW cI a N P T U (us (us (us v 11 x25) 12 x24) 13 x27)) := hD
                  have hls := lay_ad (N := N) (t := nI t) (mo := mo) (k := k) (by simp [c2, c2', hkn, c3, c4, c13, hne, c21, c21', hadp]) (by simp [c2, c2', hkn, c3, c4, c13, hne, c21, c21', hadp]) hadp
                  refine lv_iinc (v := nI (k + 1)) (lv' := [(4, .int (nI (k + 1))), (3, .int (N 5 k)), (6, .int 0), (5, .int 1), (0, .ref (a 0)), (1, .int (nI t)), (2, .int mo)]) hx hb dX5_lays_167 hl (k := 6) rfl (nI_1 _) (by decide) rfl (fun ls hl => ?_)
                  refine lv_goto (tgt := 20) hx hb dX5_lays_170 (by decide) ?_
                  have hl : lv_has ls 7 [(0, .ref (a 0)), (1, .int (nI t)), (2, .int mo), (3, .int (N 5 k)), (4, .int (nI (k + 1)))] := lv_sub hl [4, 5, 6, 1, 0] rfl
                  have w28 : N 5 k = p_lay N (nI t) mo (k + 1) 3 := by subst e24 e25 e26 e27; first | (rw [hls]; done) | (rw [hls]; rfl)
                  have hl : lv_has ls 7 [(0, .ref (a 0)), (1, .int (nI t)), (2, .int mo), (3, .int (p_lay N (nI t) mo (k + 1) 3)), (4, .int (nI (k + 1)))] := (congrArg (fun zz => lv_has ls 7 [(0, .ref (a 0)), (1, .int (nI t)), (2, .int mo), (3, .int zz), (4, .int (nI (k + 1)))]) w28).mp hl
                  have hl : lv_has ls 7 [(0, .ref (a 0)), (1, .int (nI t)), (2, .int mo), (3, .int (p_lay N (nI t) mo (k + 1) 3)), (4, .int (nI (k + 1)))] := hl
                  have w29 : (us (us (us v 11 x25) 12 x24) 13 x27) = (us (us (us v 11 (p_lay N (nI t) mo (k + 1) 0)) 12 (p_lay N (nI t) mo (k + 1) 1)) 13 (p_lay N (nI t) mo (k + 1) 2)) := by subst e24 e25 e26 e27; first | (rw [hls]; done) | (rw [hls]; rfl)
                  have hP : va_P D vwCl (mdW cI a N P T U (us (us (us v 11 (p_lay N (nI t) mo (k + 1) 0)) 12 (p_lay N (nI t) mo (k + 1) 1)) 13 (p_lay N (nI t) mo (k + 1) 2))) H := (congrArg (fun zz => va_P D vwCl (mdW cI a N P T U zz) H) w29).mp hP
                  have hD : va_D (va_A (mdW cI a N P T U v) s.heap.size) (mdW cI a N P T U (us (us (us v 11 (p_lay N (nI t) mo (k + 1) 0)) 12 (p_lay N (nI t) mo (k + 1) 1)) 13 (p_lay N (nI t) mo (k + 1) 2))) := (congrArg (fun zz => va_D (va_A (mdW cI a N P T U v) s.heap.size) (mdW cI a N P T U zz)) w29).mp hD
                  have hP : va_P D vwCl (mdW cI a N P T U (us (us (us v 11 (p_lay N (nI t) mo (k + 1) 0)) 12 (p_lay N (nI t) mo (k + 1) 1)) 13 (p_lay N (nI t) mo (k + 1) 2))) H := hP
                  have hD : va_D (va_A (mdW cI a N P T U v) s.heap.size) (mdW cI a N P T U (us (us (us v 11 (p_lay N (nI t) mo (k + 1) 0)) 12 (p_lay N (nI t) mo (k + 1) 1)) 13 (p_lay N (nI t) mo (k + 1) 2))) := hD
                  exact ih (k + 1) (by omega) (by omega) H locs hP hD hS hS.1 ls hl
              · have heq := (c20).symm
                refine lv_iconst (v := 1) hx hb dX5_lays_81 (by decide) ?_
                refine lv_goto (tgt := 86) hx hb dX5_lays_82 (by decide) ?_
                refine lv_istore (lv' := [(6, .int 1), (5, .int 1), (0, .ref (a 0)), (1, .int (nI t)), (2, .int mo), (3, .int (p_lay N (nI t) mo k 3)), (4, .int (nI k))]) hx hb dX5_lays_86 hl (by decide) rfl (fun ls hl => ?_)
                refine lv_iload hx hb dX5_lays_88 (lv_at hl 1 rfl) ?_
                refine lv_if_eq (tgt := 167) hx hb dX5_lays_90 (by decide) (fun h => absurd h (by decide)) (fun _ => ?_)
                refine lv_iload hx hb dX5_lays_93 (lv_at hl 0 rfl) ?_
                refine lv_if_ne (tgt := 111) hx hb dX5_lays_95 (by decide) (fun _ => ?_) (fun h => absurd h (by decide))
                refine lv_aload_n hx hb dX5_lays_111 rfl (lv_at hl 2 rfl) ?_
                refine lv_dup hx hb dX5_lays_112 rfl ?_
                refine g5 hx hb hts hown hK hP 0 rfl 12 (by decide) flX5_56 (fun _ h => h) (v := .int (p_lay N (nI t) mo k 1)) rfl dX5_lays_113 ?_
                refine lv_iload hx hb dX5_lays_116 (lv_at hl 0 rfl) ?_
                refine lv_if_eq (tgt := 125) hx hb dX5_lays_118 (by decide) (fun h => absurd h (by decide)) (fun _ => ?_)
                refine lv_iconst (v := 0) hx hb dX5_lays_121 (by decide) ?_
                refine lv_goto (tgt := 126) hx hb dX5_lays_122 (by decide) ?_
                refine lv_iadd hx hb dX5_lays_126 (lv_topi (fun x30 e30 => ?_))
                have q30 : x30 = p_lay N (nI t) mo k 1 := by rw [e30]; exact Int32.add_zero _
                subst q30
                refine f5 hx hb hts hown hK hP hD hS 0 rfl 12 (by decide) flX5_56 (fun _ h => h) rfl rfl rfl (Nat.le_of_ble_eq_true rfl) dX5_lays_127 (fun H locs hP hD hS => ?_)
                have hP : va_P D vwCl (mdW cI a N P T U (us (us (us v 11 (p_lay N (nI t) mo k 0)) 12 (p_lay N (nI t) mo k 1)) 13 (p_lay N (nI t) mo k 2))) H := hP
                have hD : va_D (va_A (mdW cI a N P T U v) s.heap.size) (mdW cI a N P T U (us (us (us v 11 (p_lay N (nI t) mo k 0)) 12 (p_lay N (nI t) mo k 1)) 13 (p_lay N (nI t) mo k 2))) := hD
                refine lv_aload_n hx hb dX5_lays_130 rfl (lv_at hl 2 rfl) ?_
                refine lv_iload hx hb dX5_lays_131 (lv_at hl 6 rfl) ?_
                refine lv_iconst (v := 2) hx hb dX5_lays_133 (by decide) ?_
                refine k_riV (As := [.int (nI k), .int (nI 2)]) (rest := []) (wc := mdW cI a N P T U (us (us (us v 11 (p_lay N (nI t) mo k 0)) 12 (p_lay N (nI t) mo k 1)) 13 (p_lay N (nI t) mo k 2))) ⟨hx, hb, hml, hown, hts⟩ (c_X5_of l D cI cS cL a N P T U (us (us (us v 11 (p_lay N (nI t) mo k 0)) 12 (p_lay N (nI t) mo k 1)) 13 (p_lay N (nI t) mo k 2)) _ k 2 5 (by omega) (by decide) rfl) lkX5_37 rfl rfl ⟨(Nat.le_of_ble_eq_true rfl), (Nat.le_of_ble_eq_true rfl)⟩ (va_recv hK hP (ci := 4) (q0 := 0) rfl rfl) hK hE hP hD rfl hl.1 rfl (Nat.le_of_ble_eq_true rfl) dX5_lays_134 ⟨Nat.zero_le _, Nat.zero_le _⟩ ?_
                refine lv_istore_n (lv' := [(3, .int (N 5 k)), (6, .int 1), (5, .int 1), (0, .ref (a 0)), (1, .int (nI t)), (2, .int mo), (4, .int (nI k))]) hx hb dX5_lays_137 rfl hl (by decide) rfl (fun ls hl => ?_)
                refine lv_aload_n hx hb dX5_lays_138 rfl (lv_at hl 3 rfl) ?_
                refine lv_dup hx hb dX5_lays_139 rfl ?_
                refine g5 hx hb hts hown hK hP 0 rfl 11 (by decide) flX5_53 (fun _ h => h) (v := .int (p_lay N (nI t) mo k 0)) rfl dX5_lays_140 ?_
                refine lv_aload_n hx hb dX5_lays_143 rfl (lv_at hl 3 rfl) ?_
                refine lv_iload hx hb dX5_lays_144 (lv_at hl 6 rfl) ?_
                refine lv_iconst (v := 1) hx hb dX5_lays_146 (by decide) ?_
                refine k_riV (As := [.int (nI k), .int (nI 1)]) (rest := [.int (p_lay N (nI t) mo k 0), .ref (a 0)]) (wc := mdW cI a N P T U (us (us (us v 11 (p_lay N (nI t) mo k 0)) 12 (p_lay N (nI t) mo k 1)) 13 (p_lay N (nI t) mo k 2))) ⟨hx, hb, hml, hown, hts⟩ (c_X5_of l D cI cS cL a N P T U (us (us (us v 11 (p_lay N (nI t) mo k 0)) 12 (p_lay N (nI t) mo k 1)) 13 (p_lay N (nI t) mo k 2)) _ k 1 4 (by omega) (by decide) rfl) lkX5_37 rfl rfl ⟨(Nat.le_of_ble_eq_true rfl), (Nat.le_of_ble_eq_true rfl)⟩ (va_recv hK hP (ci := 4) (q0 := 0) rfl rfl) hK hE hP hD rfl hl.1 rfl (Nat.le_of_ble_eq_true rfl) dX5_lays_147 ⟨Nat.zero_le _, Nat.zero_le _⟩ ?_
                refine lv_iadd hx hb dX5_lays_150 (lv_topi (fun x31 e31 => ?_))
                refine f5 hx hb hts hown hK hP hD hS 0 rfl 11 (by decide) flX5_53 (fun _ h => h) rfl rfl rfl (Nat.le_of_ble_eq_true rfl) dX5_lays_151 (fun H locs hP hD hS => ?_)
                have hP : va_P D vwCl (mdW cI a N P T U (us (us (us v 11 x31) 12 (p_lay N (nI t) mo k 1)) 13 (p_lay N (nI t) mo k 2))) H := hP
                have hD : va_D (va_A (mdW cI a N P T U v) s.heap.size) (mdW cI a N P T U (us (us (us v 11 x31) 12 (p_lay N (nI t) mo k 1)) 13 (p_lay N (nI t) mo k 2))) := hD
                refine lv_aload_n hx hb dX5_lays_154 rfl (lv_at hl 3 rfl) ?_
                refine lv_dup hx hb dX5_lays_155 rfl ?_
                refine g5 hx hb hts hown hK hP 0 rfl 13 (by decide) flX5_59 (fun _ h => h) (v := .int (p_lay N (nI t) mo k 2)) rfl dX5_lays_156 ?_
                refine lv_iconst (v := 1) hx hb dX5_lays_159 (by decide) ?_
                refine lv_iload hx hb dX5_lays_160 (lv_at hl 6 rfl) ?_
                refine lv_ishl hx hb dX5_lays_162 (lv_topi (fun x32 e32 => ?_))
                refine lv_ior hx hb dX5_lays_163 (lv_topi (fun x33 e33 => ?_))
                refine f5 hx hb hts hown hK hP hD hS 0 rfl 13 (by decide) flX5_59 (fun _ h => h) rfl rfl rfl (Nat.le_of_ble_eq_true rfl) dX5_lays_164 (fun H locs hP hD hS => ?_)
                have hP : va_P D vwCl (mdW cI a N P T U (us (us (us v 11 x31) 12 (p_lay N (nI t) mo k 1)) 13 x33)) H := hP
                have hD : va_D (va_A (mdW cI a N P T U v) s.heap.size) (mdW cI a N P T U (us (us (us v 11 x31) 12 (p_lay N (nI t) mo k 1)) 13 x33)) := hD
                have hls := lay_fit (N := N) (t := nI t) (mo := mo) (k := k) (by simp [c2, c2', hkn, c3, c4, c13, heq]) (by simp [c2, c2', hkn, c3, c4, c13, heq])
                refine lv_iinc (v := nI (k + 1)) (lv' := [(4, .int (nI (k + 1))), (3, .int (N 5 k)), (6, .int 1), (5, .int 1), (0, .ref (a 0)), (1, .int (nI t)), (2, .int mo)]) hx hb dX5_lays_167 hl (k := 6) rfl (nI_1 _) (by decide) rfl (fun ls hl => ?_)
                refine lv_goto (tgt := 20) hx hb dX5_lays_170 (by decide) ?_
                have hl : lv_has ls 7 [(0, .ref (a 0)), (1, .int (nI t)), (2, .int mo), (3, .int (N 5 k)), (4, .int (nI (k + 1)))] := lv_sub hl [4, 5, 6, 1, 0] rfl
                have w34 : N 5 k = p_lay N (nI t) mo (k + 1) 3 := by subst e31 e32 e33; first | (rw [hls]; done) | (rw [hls]; rfl)
                have hl : lv_has ls 7 [(0, .ref (a 0)), (1, .int (nI t)), (2, .int mo), (3, .int (p_lay N (nI t) mo (k + 1) 3)), (4, .int (nI (k + 1)))] := (congrArg (fun zz => lv_has ls 7 [(0, .ref (a 0)), (1, .int (nI t)), (2, .int mo), (3, .int zz), (4, .int (nI (k + 1)))]) w34).mp hl
                have hl : lv_has ls 7 [(0, .ref (a 0)), (1, .int (nI t)), (2, .int mo), (3, .int (p_lay N (nI t) mo (k + 1) 3)), (4, .int (nI (k + 1)))] := hl
                have w35 : (us (us (us v 11 x31) 12 (p_lay N (nI t) mo k 1)) 13 x33) = (us (us (us v 11 (p_lay N (nI t) mo (k + 1) 0)) 12 (p_lay N (nI t) mo (k + 1) 1)) 13 (p_lay N (nI t) mo (k + 1) 2)) := by subst e31 e32 e33; first | (rw [hls]; done) | (rw [hls]; rfl)
                have hP : va_P D vwCl (mdW cI a N P T U (us (us (us v 11 (p_lay N (nI t) mo (k + 1) 0)) 12 (p_lay N (nI t) mo (k + 1) 1)) 13 (p_lay N (nI t) mo (k + 1) 2))) H := (congrArg (fun zz => va_P D vwCl (mdW cI a N P T U zz) H) w35).mp hP
                have hD : va_D (va_A (mdW cI a N P T U v) s.heap.size) (mdW cI a N P T U (us (us (us v 11 (p_lay N (nI t) mo (k + 1) 0)) 12 (p_lay N (nI t) mo (k + 1) 1)) 13 (p_lay N (nI t) mo (k + 1) 2))) := (congrArg (fun zz => va_D (va_A (mdW cI a N P T U v) s.heap.size) (mdW cI a N P T U zz)) w35).mp hD
                have hP : va_P D vwCl (mdW cI a N P T U (us (us (us v 11 (p_lay N (nI t) mo (k + 1) 0)) 12 (p_lay N (nI t) mo (k + 1) 1)) 13 (p_lay N (nI t) mo (k + 1) 2))) H := hP
                have hD : va_D (va_A (mdW cI a N P T U v) s.heap.size) (mdW cI a N P T U (us (us (us v 11 (p_lay N (nI t) mo (k + 1) 0)) 12 (p_lay N (nI t) mo (k + 1) 1)) 13 (p_lay N (nI t) mo (k + 1) 2))) := hD
                exact ih (k + 1) (by omega) (by omega) H locs hP hD hS hS.1 ls hl
        · refine lv_iload hx hb dX5_lays_43 (lv_at hl 4 rfl) ?_
          refine lv_iload_n hx hb dX5_lays_45 rfl (lv_at hl 2 rfl) ?_
          refine lv_icmp_ne (tgt := 62) hx hb dX5_lays_46 (by decide) (fun c36 => ?_) (fun c36 => ?_)
          · refine lv_iconst (v := 0) hx hb dX5_lays_62 (by decide) ?_
            refine lv_istore (lv' := [(5, .int 0), (0, .ref (a 0)), (1, .int (nI t)), (2, .int mo), (3, .int (p_lay N (nI t) mo k 3)), (4, .int (nI k))]) hx hb dX5_lays_63 hl (by decide) rfl (fun ls hl => ?_)
            refine lv_iload_n hx hb dX5_lays_65 rfl (lv_at hl 4 rfl) ?_
            refine lv_iconst (v := (-1)) hx hb dX5_lays_66 (by decide) ?_
            refine lv_icmp_eq (tgt := 81) hx hb dX5_lays_67 (by decide) (fun c37 => ?_) (fun c37 => ?_)
            · refine lv_iconst (v := 1) hx hb dX5_lays_81 (by decide) ?_
              refine lv_goto (tgt := 86) hx hb dX5_lays_82 (by decide) ?_
              refine lv_istore (lv' := [(6, .int 1), (5, .int 0), (0, .ref (a 0)), (1, .int (nI t)), (2, .int mo), (3, .int (p_lay N (nI t) mo k 3)), (4, .int (nI k))]) hx hb dX5_lays_86 hl (by decide) rfl (fun ls hl => ?_)
              refine lv_iload hx hb dX5_lays_88 (lv_at hl 1 rfl) ?_
              refine lv_if_eq (tgt := 167) hx hb dX5_lays_90 (by decide) (fun _ => ?_) (fun h => absurd (by decide) h)
              have hls := lay_no (N := N) (t := nI t) (mo := mo) (k := k) (by simp [c2, c2', hkn, c3, c36, c37])
              refine lv_iinc (v := nI (k + 1)) (lv' := [(4, .int (nI (k + 1))), (6, .int 1), (5, .int 0), (0, .ref (a 0)), (1, .int (nI t)), (2, .int mo), (3, .int (p_lay N (nI t) mo k 3))]) hx hb dX5_lays_167 hl (k := 6) rfl (nI_1 _) (by decide) rfl (fun ls hl => ?_)
              refine lv_goto (tgt := 20) hx hb dX5_lays_170 (by decide) ?_
              have hl : lv_has ls 7 [(0, .ref (a 0)), (1, .int (nI t)), (2, .int mo), (3, .int (p_lay N (nI t) mo k 3)), (4, .int (nI (k + 1)))] := lv_sub hl [3, 4, 5, 6, 0] rfl
              have w38 : p_lay N (nI t) mo k 3 = p_lay N (nI t) mo (k + 1) 3 := by first | (rw [hls]; done) | (rw [hls]; rfl)
              have hl : lv_has ls 7 [(0, .ref (a 0)), (1, .int (nI t)), (2, .int mo), (3, .int (p_lay N (nI t) mo (k + 1) 3)), (4, .int (nI (k + 1)))] := (congrArg (fun zz => lv_has ls 7 [(0, .ref (a 0)), (1, .int (nI t)), (2, .int mo), (3, .int zz), (4, .int (nI (k + 1)))]) w38).mp hl
              have hl : lv_has ls 7 [(0, .ref (a 0)), (1, .int (nI t)), (2, .int mo), (3, .int (p_lay N (nI t) mo (k + 1) 3)), (4, .int (nI (k + 1)))] := hl
              have w39 : (us (us (us v 11 (p_lay N (nI t) mo k 0)) 12 (p_lay N (nI t) mo k 1)) 13 (p_lay N (nI t) mo k 2)) = (us (us (us v 11 (p_lay N (nI t) mo (k + 1) 0)) 12 (p_lay N (nI t) mo (k + 1) 1)) 13 (p_lay N (nI t) mo (k + 1) 2)) := by first | (rw [hls]; done) | (rw [hls]; rfl)
              have hP : va_P D vwCl (mdW cI a N P T U (us (us (us v 11 (p_lay N (nI t) mo (k + 1) 0)) 12 (p_lay N (nI t) mo (k + 1) 1)) 13 (p_lay N (nI t) mo (k + 1) 2))) H := (congrArg (fun zz => va_P D vwCl (mdW cI a N P T U zz) H) w39).mp hP
              have hD : va_D (va_A (mdW cI a N P T U v) s.heap.size) (mdW cI a N P T U (us (us (us v 11 (p_lay N (nI t) mo (k + 1) 0)) 12 (p_lay N (nI t) mo (k + 1) 1)) 13 (p_lay N (nI t) mo (k + 1) 2))) := (congrArg (fun zz => va_D (va_A (mdW cI a N P T U v) s.heap.size) (mdW cI a N P T U zz)) w39).mp hD
              have hP : va_P D vwCl (mdW cI a N P T U (us (us (us v 11 (p_lay N (nI t) mo (k + 1) 0)) 12 (p_lay N (nI t) mo (k + 1) 1)) 13 (p_lay N (nI t) mo (k + 1) 2))) H := hP
              have hD : va_D (va_A (mdW cI a N P T U v) s.heap.size) (mdW cI a N P T U (us (us (us v 11 (p_lay N (nI t) mo (k + 1) 0)) 12 (p_lay N (nI t) mo (k + 1) 1)) 13 (p_lay N (nI t) mo (k + 1) 2))) := hD
              exact ih (k + 1) (by omega) (by omega) H locs hP hD hS hS.1 ls hl
            · refine lv_aload_n hx hb dX5_lays_70 rfl (lv_at hl 1 rfl) ?_
              refine lv_iload hx hb dX5_lays_71 (lv_at hl 5 rfl) ?_
              refine lv_iconst (v := 2) hx hb dX5_lays_73 (by decide) ?_
              refine k_riV (As := [.int (nI k), .int (nI 2)]) (rest := []) (wc := mdW cI a N P T U (us (us (us v 11 (p_lay N (nI t) mo k 0)) 12 (p_lay N (nI t) mo k 1)) 13 (p_lay N (nI t) mo k 2))) ⟨hx, hb, hml, hown, hts⟩ (c_X5_of l D cI cS cL a N P T U (us (us (us v 11 (p_lay N (nI t) mo k 0)) 12 (p_lay N (nI t) mo k 1)) 13 (p_lay N (nI t) mo k 2)) _ k 2 5 (by omega) (by decide) rfl) lkX5_37 rfl rfl ⟨(Nat.le_of_ble_eq_true rfl), (Nat.le_of_ble_eq_true rfl)⟩ (va_recv hK hP (ci := 4) (q0 := 0) rfl rfl) hK hE hP hD rfl hl.1 rfl (Nat.le_of_ble_eq_true rfl) dX5_lays_74 ⟨Nat.zero_le _, Nat.zero_le _⟩ ?_
              refine lv_iload_n hx hb dX5_lays_77 rfl (lv_at hl 4 rfl) ?_
              refine lv_icmp_ne (tgt := 85) hx hb dX5_lays_78 (by decide) (fun c40 => ?_) (fun c40 => ?_)
              · have hne : ¬ p_lay N (nI t) mo k 3 = N 5 k := fun h => c40 h.symm
                refine lv_iconst (v := 0) hx hb dX5_lays_85 (by decide) ?_
                refine lv_istore (lv' := [(6, .int 0), (5, .int 0), (0, .ref (a 0)), (1, .int (nI t)), (2, .int mo), (3, .int (p_lay N (nI t) mo k 3)), (4, .int (nI k))]) hx hb dX5_lays_86 hl (by decide) rfl (fun ls hl => ?_)
                refine lv_iload hx hb dX5_lays_88 (lv_at hl 1 rfl) ?_
                refine lv_if_eq (tgt := 167) hx hb dX5_lays_90 (by decide) (fun _ => ?_) (fun h => absurd (by decide) h)
                have hls := lay_no (N := N) (t := nI t) (mo := mo) (k := k) (by simp [c2, c2', hkn, c3, c36, c37, hne])
                refine lv_iinc (v := nI (k + 1)) (lv' := [(4, .int (nI (k + 1))), (6, .int 0), (5, .int 0), (0, .ref (a 0)), (1, .int (nI t)), (2, .int mo), (3, .int (p_lay N (nI t) mo k 3))]) hx hb dX5_lays_167 hl (k := 6) rfl (nI_1 _) (by decide) rfl (fun ls hl => ?_)
                refine lv_goto (tgt := 20) hx hb dX5_lays_170 (by decide) ?_
                have hl : lv_has ls 7 [(0, .ref (a 0)), (1, .int (nI t)), (2, .int mo), (3, .int (p_lay N (nI t) mo k 3)), (4, .int (nI (k + 1)))] := lv_sub hl [3, 4, 5, 6, 0] rfl
                have w41 : p_lay N (nI t) mo k 3 = p_lay N (nI t) mo (k + 1) 3 := by first | (rw [hls]; done) | (rw [hls]; rfl)
                have hl : lv_has ls 7 [(0, .ref (a 0)), (1, .int (nI t)), (2, .int mo), (3, .int (p_lay N (nI t) mo (k + 1) 3)), (4, .int (nI (k + 1)))] := (congrArg (fun zz => lv_has ls 7 [(0, .ref (a 0)), (1, .int (nI t)), (2, .int mo), (3, .int zz), (4, .int (nI (k + 1)))]) w41).mp hl
                have hl : lv_has ls 7 [(0, .ref (a 0)), (1, .int (nI t)), (2, .int mo), (3, .int (p_lay N (nI t) mo (k + 1) 3)), (4, .int (nI (k + 1)))] := hl
                have w42 : (us (us (us v 11 (p_lay N (nI t) mo k 0)) 12 (p_lay N (nI t) mo k 1)) 13 (p_lay N (nI t) mo k 2)) = (us (us (us v 11 (p_lay N (nI t) mo (k + 1) 0)) 12 (p_lay N (nI t) mo (k + 1) 1)) 13 (p_lay N (nI t) mo (k + 1) 2)) := by first | (rw [hls]; done) | (rw [hls]; rfl)
                have hP : va_P D vwCl (mdW cI a N P T U (us (us (us v 11 (p_lay N (nI t) mo (k + 1) 0)) 12 (p_lay N (nI t) mo (k + 1) 1)) 13 (p_lay N (nI t) mo (k + 1) 2))) H := (congrArg (fun zz => va_P D vwCl (mdW cI a N P T U zz) H) w42).mp hP
                have hD : va_D (va_A (mdW cI a N P T U v) s.heap.size) (mdW cI a N P T U (us (us (us v 11 (p_lay N (nI t) mo (k + 1) 0)) 12 (p_lay N (nI t) mo (k + 1) 1)) 13 (p_lay N (nI t) mo (k + 1) 2))) := (congrArg (fun zz => va_D (va_A (mdW cI a N P T U v) s.heap.size) (mdW cI a N P T U zz)) w42).mp hD
                have hP : va_P D vwCl (mdW cI a N P T U (us (us (us v 11 (p_lay N (nI t) mo (k + 1) 0)) 12 (p_lay N (nI t) mo (k + 1) 1)) 13 (p_lay N (nI t) mo (k + 1) 2))) H := hP
                have hD : va_D (va_A (mdW cI a N P T U v) s.heap.size) (mdW cI a N P T U (us (us (us v 11 (p_lay N (nI t) mo (k + 1) 0)) 12 (p_lay N (nI t) mo (k + 1) 1)) 13 (p_lay N (nI t) mo (k + 1) 2))) := hD
                exact ih (k + 1) (by omega) (by omega) H locs hP hD hS hS.1 ls hl
              · have heq := (c40).symm
                refine lv_iconst (v := 1) hx hb dX5_lays_81 (by decide) ?_
                refine lv_goto (tgt := 86) hx hb dX5_lays_82 (by decide) ?_
                refine lv_istore (lv' := [(6, .int 1), (5, .int 0), (0, .ref (a 0)), (1, .int (nI t)), (2, .int mo), (3, .int (p_lay N (nI t) mo k 3)), (4, .int (nI k))]) hx hb dX5_lays_86 hl (by decide) rfl (fun ls hl => ?_)
                refine lv_iload hx hb dX5_lays_88 (lv_at hl 1 rfl) ?_
                refine lv_if_eq (tgt := 167) hx hb dX5_lays_90 (by decide) (fun _ => ?_) (fun h => absurd (by decide) h)
                have hls := lay_no (N := N) (t := nI t) (mo := mo) (k := k) (by simp [c2, c2', hkn, c3, c36, c37, heq])
                refine lv_iinc (v := nI (k + 1)) (lv' := [(4, .int (nI (k + 1))), (6, .int 1), (5, .int 0), (0, .ref (a 0)), (1, .int (nI t)), (2, .int mo), (3, .int (p_lay N (nI t) mo k 3))]) hx hb dX5_lays_167 hl (k := 6) rfl (nI_1 _) (by decide) rfl (fun ls hl => ?_)
                refine lv_goto (tgt := 20) hx hb dX5_lays_170 (by decide) ?_
                have hl : lv_has ls 7 [(0, .ref (a 0)), (1, .int (nI t)), (2, .int mo), (3, .int (p_lay N (nI t) mo k 3)), (4, .int (nI (k + 1)))] := lv_sub hl [3, 4, 5, 6, 0] rfl
                have w43 : p_lay N (nI t) mo k 3 = p_lay N (nI t) mo (k + 1) 3 := by first | (rw [hls]; done) | (rw [hls]; rfl)
                have hl : lv_has ls 7 [(0, .ref (a 0)), (1, .int (nI t)), (2, .int mo), (3, .int (p_lay N (nI t) mo (k + 1) 3)), (4, .int (nI (k + 1)))] := (congrArg (fun zz => lv_has ls 7 [(0, .ref (a 0)), (1, .int (nI t)), (2, .int mo), (3, .int zz), (4, .int (nI (k + 1)))]) w43).mp hl
                have hl : lv_has ls 7 [(0, .ref (a 0)), (1, .int (nI t)), (2, .int mo), (3, .int (p_lay N (nI t) mo (k + 1) 3)), (4, .int (nI (k + 1)))] := hl
                have w44 : (us (us (us v 11 (p_lay N (nI t) mo k 0)) 12 (p_lay N (nI t) mo k 1)) 13 (p_lay N (nI t) mo k 2)) = (us (us (us v 11 (p_lay N (nI t) mo (k + 1) 0)) 12 (p_lay N (nI t) mo (k + 1) 1)) 13 (p_lay N (nI t) mo (k + 1) 2)) := by first | (rw [hls]; done) | (rw [hls]; rfl)
                have hP : va_P D vwCl (mdW cI a N P T U (us (us (us v 11 (p_lay N (nI t) mo (k + 1) 0)) 12 (p_lay N (nI t) mo (k + 1) 1)) 13 (p_lay N (nI t) mo (k + 1) 2))) H := (congrArg (fun zz => va_P D vwCl (mdW cI a N P T U zz) H) w44).mp hP
                have hD : va_D (va_A (mdW cI a N P T U v) s.heap.size) (mdW cI a N P T U (us (us (us v 11 (p_lay N (nI t) mo (k + 1) 0)) 12 (p_lay N (nI t) mo (k + 1) 1)) 13 (p_lay N (nI t) mo (k + 1) 2))) := (congrArg (fun zz => va_D (va_A (mdW cI a N P T U v) s.heap.size) (mdW cI a N P T U zz)) w44).mp hD
                have hP : va_P D vwCl (mdW cI a N P T U (us (us (us v 11 (p_lay N (nI t) mo (k + 1) 0)) 12 (p_lay N (nI t) mo (k + 1) 1)) 13 (p_lay N (nI t) mo (k + 1) 2))) H := hP
                have hD : va_D (va_A (mdW cI a N P T U v) s.heap.size) (mdW cI a N P T U (us (us (us v 11 (p_lay N (nI t) mo (k + 1) 0)) 12 (p_lay N (nI t) mo (k + 1) 1)) 13 (p_lay N (nI t) mo (k + 1) 2))) := hD
                exact ih (k + 1) (by omega) (by omega) H locs hP hD hS hS.1 ls hl
          · refine lv_aload_n hx hb dX5_lays_49 rfl (lv_at hl 0 rfl) ?_
            refine lv_iload hx hb dX5_lays_50 (lv_at hl 4 rfl) ?_
            refine k_riV (As := [.int (nI k)]) (rest := []) (wc := mdW cI a N P T U (us (us (us v 11 (p_lay N (nI t) mo k 0)) 12 (p_lay N (nI t) mo k 1)) 13 (p_lay N (nI t) mo k 2))) ⟨hx, hb, hml, hown, hts⟩ (c_X5_isReady l D cI cS cL a N P T U (us (us (us v 11 (p_lay N (nI t) mo k 0)) 12 (p_lay N (nI t) mo k 1)) 13 (p_lay N (nI t) mo k 2)) _ k (by omega) hd0) lkX5_62 rfl rfl ⟨(Nat.le_of_ble_eq_true rfl), (Nat.le_of_ble_eq_true rfl)⟩ (va_recv hK hP (ci := 4) (q0 := 0) rfl rfl) hK hE hP hD rfl hl.1 rfl (Nat.le_of_ble_eq_true rfl) dX5_lays_52 ⟨Nat.zero_le _, Nat.zero_le _⟩ ?_
            refine lv_if_eq (tgt := 62) hx hb dX5_lays_55 (by decide) (fun c45 => ?_) (fun c45 => ?_)
            · have c45 := bI_eq0 c45
              refine lv_iconst (v := 0) hx hb dX5_lays_62 (by decide) ?_
              refine lv_istore (lv' := [(5, .int 0), (0, .ref (a 0)), (1, .int (nI t)), (2, .int mo), (3, .int (p_lay N (nI t) mo k 3)), (4, .int (nI k))]) hx hb dX5_lays_63 hl (by decide) rfl (fun ls hl => ?_)
              refine lv_iload_n hx hb dX5_lays_65 rfl (lv_at hl 4 rfl) ?_
              refine lv_iconst (v := (-1)) hx hb dX5_lays_66 (by decide) ?_
              refine lv_icmp_eq (tgt := 81) hx hb dX5_lays_67 (by decide) (fun c46 => ?_) (fun c46 => ?_)
              · refine lv_iconst (v := 1) hx hb dX5_lays_81 (by decide) ?_
                refine lv_goto (tgt := 86) hx hb dX5_lays_82 (by decide) ?_
                refine lv_istore (lv' := [(6, .int 1), (5, .int 0), (0, .ref (a 0)), (1, .int (nI t)), (2, .int mo), (3, .int (p_lay N (nI t) mo k 3)), (4, .int (nI k))]) hx hb dX5_lays_86 hl (by decide) rfl (fun ls hl => ?_)
                refine lv_iload hx hb dX5_lays_88 (lv_at hl 1 rfl) ?_
                refine lv_if_eq (tgt := 167) hx hb dX5_lays_90 (by decide) (fun _ => ?_) (fun h => absurd (by decide) h)
                have hls := lay_no (N := N) (t := nI t) (mo := mo) (k := k) (by simp [c2, c2', hkn, c3, c36, c45, c46])
                refine lv_iinc (v := nI (k + 1)) (lv' := [(4, .int (nI (k + 1))), (6, .int 1), (5, .int 0), (0, .ref (a 0)), (1, .int (nI t)), (2, .int mo), (3, .int (p_lay N (nI t) mo k 3))]) hx hb dX5_lays_167 hl (k := 6) rfl (nI_1 _) (by decide) rfl (fun ls hl => ?_)
                refine lv_goto (tgt := 20) hx hb dX5_lays_170 (by decide) ?_
                have hl : lv_has ls 7 [(0, .ref (a 0)), (1, .int (nI t)), (2, .int mo), (3, .int (p_lay N (nI t) mo k 3)), (4, .int (nI (k + 1)))] := lv_sub hl [3, 4, 5, 6, 0] rfl
                have w47 : p_lay N (nI t) mo k 3 = p_lay N (nI t) mo (k + 1) 3 := by first | (rw [hls]; done) | (rw [hls]; rfl)
                have hl : lv_has ls 7 [(0, .ref (a 0)), (1, .int (nI t)), (2, .int mo), (3, .int (p_lay N (nI t) mo (k + 1) 3)), (4, .int (nI (k + 1)))] := (congrArg (fun zz => lv_has ls 7 [(0, .ref (a 0)), (1, .int (nI t)), (2, .int mo), (3, .int zz), (4, .int (nI (k + 1)))]) w47).mp hl
                have hl : lv_has ls 7 [(0, .ref (a 0)), (1, .int (nI t)), (2, .int mo), (3, .int (p_lay N (nI t) mo (k + 1) 3)), (4, .int (nI (k + 1)))] := hl
                have w48 : (us (us (us v 11 (p_lay N (nI t) mo k 0)) 12 (p_lay N (nI t) mo k 1)) 13 (p_lay N (nI t) mo k 2)) = (us (us (us v 11 (p_lay N (nI t) mo (k + 1) 0)) 12 (p_lay N (nI t) mo (k + 1) 1)) 13 (p_lay N (nI t) mo (k + 1) 2)) := by first | (rw [hls]; done) | (rw [hls]; rfl)
                have hP : va_P D vwCl (mdW cI a N P T U (us (us (us v 11 (p_lay N (nI t) mo (k + 1) 0)) 12 (p_lay N (nI t) mo (k + 1) 1)) 13 (p_lay N (nI t) mo (k + 1) 2))) H := (congrArg (fun zz => va_P D vwCl (mdW cI a N P T U zz) H) w48).mp hP
                have hD : va_D (va_A (mdW cI a N P T U v) s.heap.size) (mdW cI a N P T U (us (us (us v 11 (p_lay N (nI t) mo (k + 1) 0)) 12 (p_lay N (nI t) mo (k + 1) 1)) 13 (p_lay N (nI t) mo (k + 1) 2))) := (congrArg (fun zz => va_D (va_A (mdW cI a N P T U v) s.heap.size) (mdW cI a N P T U zz)) w48).mp hD
                have hP : va_P D vwCl (mdW cI a N P T U (us (us (us v 11 (p_lay N (nI t) mo (k + 1) 0)) 12 (p_lay N (nI t) mo (k + 1) 1)) 13 (p_lay N (nI t) mo (k + 1) 2))) H := hP
                have hD : va_D (va_A (mdW cI a N P T U v) s.heap.size) (mdW cI a N P T U (us (us (us v 11 (p_lay N (nI t) mo (k + 1) 0)) 12 (p_lay N (nI t) mo (k + 1) 1)) 13 (p_lay N (nI t) mo (k + 1) 2))) := hD
                exact ih (k + 1) (by omega) (by omega) H locs hP hD hS hS.1 ls hl
              · refine lv_aload_n hx hb dX5_lays_70 rfl (lv_at hl 1 rfl) ?_
                refine lv_iload hx hb dX5_lays_71 (lv_at hl 5 rfl) ?_
                refine lv_iconst (v := 2) hx hb dX5_lays_73 (by decide) ?_
                refine k_riV (As := [.int (nI k), .int (nI 2)]) (rest := []) (wc := mdW cI a N P T U (us (us (us v 11 (p_lay N (nI t) mo k 0)) 12 (p_lay N (nI t) mo k 1)) 13 (p_lay N (nI t) mo k 2))) ⟨hx, hb, hml, hown, hts⟩ (c_X5_of l D cI cS cL a N P T U (us (us (us v 11 (p_lay N (nI t) mo k 0)) 12 (p_lay N (nI t) mo k 1)) 13 (p_lay N (nI t) mo k 2)) _ k 2 5 (by omega) (by decide) rfl) lkX5_37 rfl rfl ⟨(Nat.le_of_ble_eq_true rfl), (Nat.le_of_ble_eq_true rfl)⟩ (va_recv hK hP (ci := 4) (q0 := 0) rfl rfl) hK hE hP hD rfl hl.1 rfl (Nat.le_of_ble_eq_true rfl) dX5_lays_74 ⟨Nat.zero_le _, Nat.zero_le _⟩ ?_
                refine lv_iload_n hx hb dX5_lays_77 rfl (lv_at hl 4 rfl) ?_
                refine lv_icmp_ne (tgt := 85) hx hb dX5_lays_78 (by decide) (fun c49 => ?_) (fun c49 => ?_)
                · have hne : ¬ p_lay N (nI t) mo k 3 = N 5 k := fun h => c49 h.symm
                  refine lv_iconst (v := 0) hx hb dX5_lays_85 (by decide) ?_
                  refine lv_istore (lv' := [(6, .int 0), (5, .int 0), (0, .ref (a 0)), (1, .int (nI t)), (2, .int mo), (3, .int (p_lay N (nI t) mo k 3)), (4, .int (nI k))]) hx hb dX5_lays_86 hl (by decide) rfl (fun ls hl => ?_)
                  refine lv_iload hx hb dX5_lays_88 (lv_at hl 1 rfl) ?_
                  refine lv_if_eq (tgt := 167) hx hb dX5_lays_90 (by decide) (fun _ => ?_) (fun h => absurd (by decide) h)
                  have hls := lay_no (N := N) (t := nI t) (mo := mo) (k := k) (by simp [c2, c2', hkn, c3, c36, c45, c46, hne])
                  refine lv_iinc (v := nI (k + 1)) (lv' := [(4, .int (nI (k + 1))), (6, .int 0), (5, .int 0), (0, .ref (a 0)), (1, .int (nI t)), (2, .int mo), (3, .int (p_lay N (nI t) mo k 3))]) hx hb dX5_lays_167 hl (k := 6) rfl (nI_1 _) (by decide) rfl (fun ls hl => ?_)
                  refine lv_goto (tgt := 20) hx hb dX5_lays_170 (by decide) ?_
                  have hl : lv_has ls 7 [(0, .ref (a 0)), (1, .int (nI t)), (2, .int mo), (3, .int (p_lay N (nI t) mo k 3)), (4, .int (nI (k + 1)))] := lv_sub hl [3, 4, 5, 6, 0] rfl
                  have w50 : p_lay N (nI t) mo k 3 = p_lay N (nI t) mo (k + 1) 3 := by first | (rw [hls]; done) | (rw [hls]; rfl)
                  have hl : lv_has ls 7 [(0, .ref (a 0)), (1, .int (nI t)), (2, .int mo), (3, .int (p_lay N (nI t) mo (k + 1) 3)), (4, .int (nI (k + 1)))] := (congrArg (fun zz => lv_has ls 7 [(0, .ref (a 0)), (1, .int (nI t)), (2, .int mo), (3, .int zz), (4, .int (nI (k + 1)))]) w50).mp hl
                  have hl : lv_has ls 7 [(0, .ref (a 0)), (1, .int (nI t)), (2, .int mo), (3, .int (p_lay N (nI t) mo (k + 1) 3)), (4, .int (nI (k + 1)))] := hl
                  have w51 : (us (us (us v 11 (p_lay N (nI t) mo k 0)) 12 (p_lay N (nI t) mo k 1)) 13 (p_lay N (nI t) mo k 2)) = (us (us (us v 11 (p_lay N (nI t) mo (k + 1) 0)) 12 (p_lay N (nI t) mo (k + 1) 1)) 13 (p_lay N (nI t) mo (k + 1) 2)) := by first | (rw [hls]; done) | (rw [hls]; rfl)
                  have hP : va_P D vwCl (mdW cI a N P T U (us (us (us v 11 (p_lay N (nI t) mo (k + 1) 0)) 12 (p_lay N (nI t) mo (k + 1) 1)) 13 (p_lay N (nI t) mo (k + 1) 2))) H := (congrArg (fun zz => va_P D vwCl (mdW cI a N P T U zz) H) w51).mp hP
                  have hD : va_D (va_A (mdW cI a N P T U v) s.heap.size) (mdW cI a N P T U (us (us (us v 11 (p_lay N (nI t) mo (k + 1) 0)) 12 (p_lay N (nI t) mo (k + 1) 1)) 13 (p_lay N (nI t) mo (k + 1) 2))) := (congrArg (fun zz => va_D (va_A (mdW cI a N P T U v) s.heap.size) (mdW cI a N P T U zz)) w51).mp hD
                  have hP : va_P D vwCl (mdW cI a N P T U (us (us (us v 11 (p_lay N (nI t) mo (k + 1) 0)) 12 (p_lay N (nI t) mo (k + 1) 1)) 13 (p_lay N (nI t) mo (k + 1) 2))) H := hP
                  have hD : va_D (va_A (mdW cI a N P T U v) s.heap.size) (mdW cI a N P T U (us (us (us v 11 (p_lay N (nI t) mo (k + 1) 0)) 12 (p_lay N (nI t) mo (k + 1) 1)) 13 (p_lay N (nI t) mo (k + 1) 2))) := hD
                  exact ih (k + 1) (by omega) (by omega) H locs hP hD hS hS.1 ls hl
                · have heq := (c49).symm
                  refine lv_iconst (v := 1) hx hb dX5_lays_81 (by decide) ?_
                  refine lv_goto (tgt := 86) hx hb dX5_lays_82 (by decide) ?_
                  refine lv_istore (lv' := [(6, .int 1), (5, .int 0), (0, .ref (a 0)), (1, .int (nI t)), (2, .int mo), (3, .int (p_lay N (nI t) mo k 3)), (4, .int (nI k))]) hx hb dX5_lays_86 hl (by decide) rfl (fun ls hl => ?_)
                  refine lv_iload hx hb dX5_lays_88 (lv_at hl 1 rfl) ?_
                  refine lv_if_eq (tgt := 167) hx hb dX5_lays_90 (by decide) (fun _ => ?_) (fun h => absurd (by decide) h)
                  have hls := lay_no (N := N) (t := nI t) (mo := mo) (k := k) (by simp [c2, c2', hkn, c3, c36, c45, c46, heq])
                  refine lv_iinc (v := nI (k + 1)) (lv' := [(4, .int (nI (k + 1))), (6, .int 1), (5, .int 0), (0, .ref (a 0)), (1, .int (nI t)), (2, .int mo), (3, .int (p_lay N (nI t) mo k 3))]) hx hb dX5_lays_167 hl (k := 6) rfl (nI_1 _) (by decide) rfl (fun ls hl => ?_)
                  refine lv_goto (tgt := 20) hx hb dX5_lays_170 (by decide) ?_
                  have hl : lv_has ls 7 [(0, .ref (a 0)), (1, .int (nI t)), (2, .int mo), (3, .int (p_lay N (nI t) mo k 3)), (4, .int (nI (k + 1)))] := lv_sub hl [3, 4, 5, 6, 0] rfl
                  have w52 : p_lay N (nI t) mo k 3 = p_lay N (nI t) mo (k + 1) 3 := by first | (rw [hls]; done) | (rw [hls]; rfl)
                  have hl : lv_has ls 7 [(0, .ref (a 0)), (1, .int (nI t)), (2, .int mo), (3, .int (p_lay N (nI t) mo (k + 1) 3)), (4, .int (nI (k + 1)))] := (congrArg (fun zz => lv_has ls 7 [(0, .ref (a 0)), (1, .int (nI t)), (2, .int mo), (3, .int zz), (4, .int (nI (k + 1)))]) w52).mp hl
                  have hl : lv_has ls 7 [(0, .ref (a 0)), (1, .int (nI t)), (2, .int mo), (3, .int (p_lay N (nI t) mo (k + 1) 3)), (4, .int (nI (k + 1)))] := hl
                  have w53 : (us (us (us v 11 (p_lay N (nI t) mo k 0)) 12 (p_lay N (nI t) mo k 1)) 13 (p_lay N (nI t) mo k 2)) = (us (us (us v 11 (p_lay N (nI t) mo (k + 1) 0)) 12 (p_lay N (nI t) mo (k + 1) 1)) 13 (p_lay N (nI t) mo (k + 1) 2)) := by first | (rw [hls]; done) | (rw [hls]; rfl)
                  have hP : va_P D vwCl (mdW cI a N P T U (us (us (us v 11 (p_lay N (nI t) mo (k + 1) 0)) 12 (p_lay N (nI t) mo (k + 1) 1)) 13 (p_lay N (nI t) mo (k + 1) 2))) H := (congrArg (fun zz => va_P D vwCl (mdW cI a N P T U zz) H) w53).mp hP
                  have hD : va_D (va_A (mdW cI a N P T U v) s.heap.size) (mdW cI a N P T U (us (us (us v 11 (p_lay N (nI t) mo (k + 1) 0)) 12 (p_lay N (nI t) mo (k + 1) 1)) 13 (p_lay N (nI t) mo (k + 1) 2))) := (congrArg (fun zz => va_D (va_A (mdW cI a N P T U v) s.heap.size) (mdW cI a N P T U zz)) w53).mp hD
                  have hP : va_P D vwCl (mdW cI a N P T U (us (us (us v 11 (p_lay N (nI t) mo (k + 1) 0)) 12 (p_lay N (nI t) mo (k + 1) 1)) 13 (p_lay N (nI t) mo (k + 1) 2))) H := hP
                  have hD : va_D (va_A (mdW cI a N P T U v) s.heap.size) (mdW cI a N P T U (us (us (us v 11 (p_lay N (nI t) mo (k + 1) 0)) 12 (p_lay N (nI t) mo (k + 1) 1)) 13 (p_lay N (nI t) mo (k + 1) 2))) := hD
                  exact ih (k + 1) (by omega) (by omega) H locs hP hD hS hS.1 ls hl
            · have c45 := bI_ne0 c45
              refine lv_iconst (v := 1) hx hb dX5_lays_58 (by decide) ?_
              refine lv_goto (tgt := 63) hx hb dX5_lays_59 (by decide) ?_
              refine lv_istore (lv' := [(5, .int 1), (0, .ref (a 0)), (1, .int (nI t)), (2, .int mo), (3, .int (p_lay N (nI t) mo k 3)), (4, .int (nI k))]) hx hb dX5_lays_63 hl (by decide) rfl (fun ls hl => ?_)
              refine lv_iload_n hx hb dX5_lays_65 rfl (lv_at hl 4 rfl) ?_
              refine lv_iconst (v := (-1)) hx hb dX5_lays_66 (by decide) ?_
              refine lv_icmp_eq (tgt := 81) hx hb dX5_lays_67 (by decide) (fun c54 => ?_) (fun c54 => ?_)
              · refine lv_iconst (v := 1) hx hb dX5_lays_81 (by decide) ?_
                refine lv_goto (tgt := 86) hx hb dX5_lays_82 (by decide) ?_
                refine lv_istore (lv' := [(6, .int 1), (5, .int 1), (0, .ref (a 0)), (1, .int (nI t)), (2, .int mo), (3, .int (p_lay N (nI t) mo k 3)), (4, .int (nI k))]) hx hb dX5_lays_86 hl (by decide) rfl (fun ls hl => ?_)
                refine lv_iload hx hb dX5_lays_88 (lv_at hl 1 rfl) ?_
                refine lv_if_eq (tgt := 167) hx hb dX5_lays_90 (by decide) (fun h => absurd h (by decide)) (fun _ => ?_)
                refine lv_iload hx hb dX5_lays_93 (lv_at hl 0 rfl) ?_
                refine lv_if_ne (tgt := 111) hx hb dX5_lays_95 (by decide) (fun _ => ?_) (fun h => absurd h (by decide))
                refine lv_aload_n hx hb dX5_lays_111 rfl (lv_at hl 2 rfl) ?_
                refine lv_dup hx hb dX5_lays_112 rfl ?_
                refine g5 hx hb hts hown hK hP 0 rfl 12 (by decide) flX5_56 (fun _ h => h) (v := .int (p_lay N (nI t) mo k 1)) rfl dX5_lays_113 ?_
                refine lv_iload hx hb dX5_lays_116 (lv_at hl 0 rfl) ?_
                refine lv_if_eq (tgt := 125) hx hb dX5_lays_118 (by decide) (fun h => absurd h (by decide)) (fun _ => ?_)
                refine lv_iconst (v := 0) hx hb dX5_lays_121 (by decide) ?_
                refine lv_goto (tgt := 126) hx hb dX5_lays_122 (by decide) ?_
                refine lv_iadd hx hb dX5_lays_126 (lv_topi (fun x55 e55 => ?_))
                have q55 : x55 = p_lay N (nI t) mo k 1 := by rw [e55]; exact Int32.add_zero _
                subst q55
                refine f5 hx hb hts hown hK hP hD hS 0 rfl 12 (by decide) flX5_56 (fun _ h => h) rfl rfl rfl (Nat.le_of_ble_eq_true rfl) dX5_lays_127 (fun H locs hP hD hS => ?_)
                have hP : va_P D vwCl (mdW cI a N P T U (us (us (us v 11 (p_lay N (nI t) mo k 0)) 12 (p_lay N (nI t) mo k 1)) 13 (p_lay N (nI t) mo k 2))) H := hP
                have hD : va_D (va_A (mdW cI a N P T U v) s.heap.size) (mdW cI a N P T U (us (us (us v 11 (p_lay N (nI t) mo k 0)) 12 (p_lay N (nI t) mo k 1)) 13 (p_lay N (nI t) mo k 2))) := hD
                refine lv_aload_n hx hb dX5_lays_130 rfl (lv_at hl 2 rfl) ?_
                refine lv_iload hx hb dX5_lays_131 (lv_at hl 6 rfl) ?_
                refine lv_iconst (v := 2) hx hb dX5_lays_133 (by decide) ?_
                refine k_riV (As := [.int (nI k), .int (nI 2)]) (rest := []) (wc := mdW cI a N P T U (us (us (us v 11 (p_lay N (nI t) mo k 0)) 12 (p_lay N (nI t) mo k 1)) 13 (p_lay N (nI t) mo k 2))) ⟨hx, hb, hml, hown, hts⟩ (c_X5_of l D cI cS cL a N P T U (us (us (us v 11 (p_lay N (nI t) mo k 0)) 12 (p_lay N (nI t) mo k 1)) 13 (p_lay N (nI t) mo k 2)) _ k 2 5 (by omega) (by decide) rfl) lkX5_37 rfl rfl ⟨(Nat.le_of_ble_eq_true rfl), (Nat.le_of_ble_eq_true rfl)⟩ (va_recv hK hP (ci := 4) (q0 := 0) rfl rfl) hK hE hP hD rfl hl.1 rfl (Nat.le_of_ble_eq_true rfl) dX5_lays_134 ⟨Nat.zero_le _, Nat.zero_le _⟩ ?_
                refine lv_istore_n (lv' := [(3, .int (N 5 k)), (6, .int 1), (5, .int 1), (0, .ref (a 0)), (1, .int (nI t)), (2, .int mo), (4, .int (nI k))]) hx hb dX5_lays_137 rfl hl (by decide) rfl (fun ls hl => ?_)
                refine lv_aload_n hx hb dX5_lays_138 rfl (lv_at hl 3 rfl) ?_
                refine lv_dup hx hb dX5_lays_139 rfl ?_
                refine g5 hx hb hts hown hK hP 0 rfl 11 (by decide) flX5_53 (fun _ h => h) (v := .int (p_lay N (nI t) mo k 0)) rfl dX5_lays_140 ?_
                refine lv_aload_n hx hb dX5_lays_143 rfl (lv_at hl 3 rfl) ?_
                refine lv_iload hx hb dX5_lays_144 (lv_at hl 6 rfl) ?_
                refine lv_iconst (v := 1) hx hb dX5_lays_146 (by decide) ?_
                refine k_riV (As := [.int (nI k), .int (nI 1)]) (rest := [.int (p_lay N (nI t) mo k 0), .ref (a 0)]) (wc := mdW cI a N P T U (us (us (us v 11 (p_lay N (nI t) mo k 0)) 12 (p_lay N (nI t) mo k 1)) 13 (p_lay N (nI t) mo k 2))) ⟨hx, hb, hml, hown, hts⟩ (c_X5_of l D cI cS cL a N P T U (us (us (us v 11 (p_lay N (nI t) mo k 0)) 12 (p_lay N (nI t) mo k 1)) 13 (p_lay N (nI t) mo k 2)) _ k 1 4 (by omega) (by decide) rfl) lkX5_37 rfl rfl ⟨(Nat.le_of_ble_eq_true rfl), (Nat.le_of_ble_eq_true rfl)⟩ (va_recv hK hP (ci := 4) (q0 := 0) rfl rfl) hK hE hP hD rfl hl.1 rfl (Nat.le_of_ble_eq_true rfl) dX5_lays_147 ⟨Nat.zero_le _, Nat.zero_le _⟩ ?_
                refine lv_iadd hx hb dX5_lays_150 (lv_topi (fun x56 e56 => ?_))
                refine f5 hx hb hts hown hK hP hD hS 0 rfl 11 (by decide) flX5_53 (fun _ h => h) rfl rfl rfl (Nat.le_of_ble_eq_true rfl) dX5_lays_151 (fun H locs hP hD hS => ?_)
                have hP : va_P D vwCl (mdW cI a N P T U (us (us (us v 11 x56) 12 (p_lay N (nI t) mo k 1)) 13 (p_lay N (nI t) mo k 2))) H := hP
                have hD : va_D (va_A (mdW cI a N P T U v) s.heap.size) (mdW cI a N P T U (us (us (us v 11 x56) 12 (p_lay N (nI t) mo k 1)) 13 (p_lay N (nI t) mo k 2))) := hD
                refine lv_aload_n hx hb dX5_lays_154 rfl (lv_at hl 3 rfl) ?_
                refine lv_dup hx hb dX5_lays_155 rfl ?_
                refine g5 hx hb hts hown hK hP 0 rfl 13 (by decide) flX5_59 (fun _ h => h) (v := .int (p_lay N (nI t) mo k 2)) rfl dX5_lays_156 ?_
                refine lv_iconst (v := 1) hx hb dX5_lays_159 (by decide) ?_
                refine lv_iload hx hb dX5_lays_160 (lv_at hl 6 rfl) ?_
                refine lv_ishl hx hb dX5_lays_162 (lv_topi (fun x57 e57 => ?_))
                refine lv_ior hx hb dX5_lays_163 (lv_topi (fun x58 e58 => ?_))
                refine f5 hx hb hts hown hK hP hD hS 0 rfl 13 (by decide) flX5_59 (fun _ h => h) rfl rfl rfl (Nat.le_of_ble_eq_true rfl) dX5_lays_164 (fun H locs hP hD hS => ?_)
                have hP : va_P D vwCl (mdW cI a N P T U (us (us (us v 11 x56) 12 (p_lay N (nI t) mo k 1)) 13 x58)) H := hP
                have hD : va_D (va_A (mdW cI a N P T U v) s.heap.size) (mdW cI a N P T U (us (us (us v 11 x56) 12 (p_lay N (nI t) mo k 1)) 13 x58)) := hD
                have hls := lay_fit (N := N) (t := nI t) (mo := mo) (k := k) (by simp [c2, c2', hkn, c3, c36, c45, c54]) (by simp [c2, c2', hkn, c3, c36, c45, c54])
                refine lv_iinc (v := nI (k + 1)) (lv' := [(4, .int (nI (k + 1))), (3, .int (N 5 k)), (6, .int 1), (5, .int 1), (0, .ref (a 0)), (1, .int (nI t)), (2, .int mo)]) hx hb dX5_lays_167 hl (k := 6) rfl (nI_1 _) (by decide) rfl (fun ls hl => ?_)
                refine lv_goto (tgt := 20) hx hb dX5_lays_170 (by decide) ?_
                have hl : lv_has ls 7 [(0, .ref (a 0)), (1, .int (nI t)), (2, .int mo), (3, .int (N 5 k)), (4, .int (nI (k + 1)))] := lv_sub hl [4, 5, 6, 1, 0] rfl
                have w59 : N 5 k = p_lay N (nI t) mo (k + 1) 3 := by subst e56 e57 e58; first | (rw [hls]; done) | (rw [hls]; rfl)
                have hl : lv_has ls 7 [(0, .ref (a 0)), (1, .int (nI t)), (2, .int mo), (3, .int (p_lay N (nI t) mo (k + 1) 3)), (4, .int (nI (k + 1)))] := (congrArg (fun zz => lv_has ls 7 [(0, .ref (a 0)), (1, .int (nI t)), (2, .int mo), (3, .int zz), (4, .int (nI (k + 1)))]) w59).mp hl
                have hl : lv_has ls 7 [(0, .ref (a 0)), (1, .int (nI t)), (2, .int mo), (3, .int (p_lay N (nI t) mo (k + 1) 3)), (4, .int (nI (k + 1)))] := hl
                have w60 : (us (us (us v 11 x56) 12 (p_lay N (nI t) mo k 1)) 13 x58) = (us (us (us v 11 (p_lay N (nI t) mo (k + 1) 0)) 12 (p_lay N (nI t) mo (k + 1) 1)) 13 (p_lay N (nI t) mo (k + 1) 2)) := by subst e56 e57 e58; first | (rw [hls]; done) | (rw [hls]; rfl)
                have hP : va_P D vwCl (mdW cI a N P T U (us (us (us v 11 (p_lay N (nI t) mo (k + 1) 0)) 12 (p_lay N (nI t) mo (k + 1) 1)) 13 (p_lay N (nI t) mo (k + 1) 2))) H := (congrArg (fun zz => va_P D vwCl (mdW cI a N P T U zz) H) w60).mp hP
                have hD : va_D (va_A (mdW cI a N P T U v) s.heap.size) (mdW cI a N P T U (us (us (us v 11 (p_lay N (nI t) mo (k + 1) 0)) 12 (p_lay N (nI t) mo (k + 1) 1)) 13 (p_lay N (nI t) mo (k + 1) 2))) := (congrArg (fun zz => va_D (va_A (mdW cI a N P T U v) s.heap.size) (mdW cI a N P T U zz)) w60).mp hD
                have hP : va_P D vwCl (mdW cI a N P T U (us (us (us v 11 (p_lay N (nI t) mo (k + 1) 0)) 12 (p_lay N (nI t) mo (k + 1) 1)) 13 (p_lay N (nI t) mo (k + 1) 2))) H := hP
                have hD : va_D (va_A (mdW cI a N P T U v) s.heap.size) (mdW cI a N P T U (us (us (us v 11 (p_lay N (nI t) mo (k + 1) 0)) 12 (p_lay N (nI t) mo (k + 1) 1)) 13 (p_lay N (nI t) mo (k + 1) 2))) := hD
                exact ih (k + 1) (by omega) (by omega) H locs hP hD hS hS.1 ls hl
              · refine lv_aload_n hx hb dX5_lays_70 rfl (lv_at hl 1 rfl) ?_
                refine lv_iload hx hb dX5_lays_71 (lv_at hl 5 rfl) ?_
                refine lv_iconst (v := 2) hx hb dX5_lays_73 (by decide) ?_
                refine k_riV (As := [.int (nI k), .int (nI 2)]) (rest := []) (wc := mdW cI a N P T U (us (us (us v 11 (p_lay N (nI t) mo k 0)) 12 (p_lay N (nI t) mo k 1)) 13 (p_lay N (nI t) mo k 2))) ⟨hx, hb, hml, hown, hts⟩ (c_X5_of l D cI cS cL a N P T U (us (us (us v 11 (p_lay N (nI t) mo k 0)) 12 (p_lay N (nI t) mo k 1)) 13 (p_lay N (nI t) mo k 2)) _ k 2 5 (by omega) (by decide) rfl) lkX5_37 rfl rfl ⟨(Nat.le_of_ble_eq_true rfl), (Nat.le_of_ble_eq_true rfl)⟩ (va_recv hK hP (ci := 4) (q0 := 0) rfl rfl) hK hE hP hD rfl hl.1 rfl (Nat.le_of_ble_eq_true rfl) dX5_lays_74 ⟨Nat.zero_le _, Nat.zero_le _⟩ ?_
                refine lv_iload_n hx hb dX5_lays_77 rfl (lv_at hl 4 rfl) ?_
                refine lv_icmp_ne (tgt := 85) hx hb dX5_lays_78 (by decide) (fun c61 => ?_) (fun c61 => ?_)
                · have hne : ¬ p_lay N (nI t) mo k 3 = N 5 k := fun h => c61 h.symm
                  refine lv_iconst (v := 0) hx hb dX5_lays_85 (by decide) ?_
                  refine lv_istore (lv' := [(6, .int 0), (5, .int 1), (0, .ref (a 0)), (1, .int (nI t)), (2, .int mo), (3, .int (p_lay N (nI t) mo k 3)), (4, .int (nI k))]) hx hb dX5_lays_86 hl (by decide) rfl (fun ls hl => ?_)
                  refine lv_iload hx hb dX5_lays_88 (lv_at hl 1 rfl) ?_
                  refine lv_if_eq (tgt := 167) hx hb dX5_lays_90 (by decide) (fun h => absurd h (by decide)) (fun _ => ?_)
                  refine lv_iload hx hb dX5_lays_93 (lv_at hl 0 rfl) ?_
                  refine lv_if_ne (tgt := 111) hx hb dX5_lays_95 (by decide) (fun h => absurd (by decide) h) (fun _ => ?_)
                  refine lv_aload_n hx hb dX5_lays_98 rfl (lv_at hl 2 rfl) ?_
                  refine g5 hx hb hts hown hK hP 0 rfl 12 (by decide) flX5_56 (fun _ h => h) (v := .int (p_lay N (nI t) mo k 1)) rfl dX5_lays_99 ?_
                  refine lv_aload_n hx hb dX5_lays_102 rfl (lv_at hl 2 rfl) ?_
                  refine g5 hx hb hts hown hK hP 0 rfl 0 (by decide) flX5_7 (fun _ h => h) (v := .ref (a 1)) rfl dX5_lays_103 ?_
                  refine lv_iconst (v := 1) hx hb dX5_lays_106 (by decide) ?_
                  refine k_ald (k := 1) hx hb hK hP 1 0 rfl rfl rfl (by decide) (by decide) dX5_lays_107 ?_
                  rw [show flat N (1) = N 0 1 from rfl]
                  refine lv_icmp_ge (tgt := 167) hx hb dX5_lays_108 (by decide) (fun c62 => ?_) (fun c62 => ?_)
                  · have c62' := Int32.not_lt.mpr c62
                    have hfull := c62
                    have hls := lay_full (N := N) (t := nI t) (mo := mo) (k := k) (by simp [c2, c2', hkn, c3, c36, c45, c54, hne, c62, c62', hfull]) (by simp [c2, c2', hkn, c3, c36, c45, c54, hne, c62, c62', hfull]) hfull
                    refine lv_iinc (v := nI (k + 1)) (lv' := [(4, .int (nI (k + 1))), (6, .int 0), (5, .int 1), (0, .ref (a 0)), (1, .int (nI t)), (2, .int mo), (3, .int (p_lay N (nI t) mo k 3))]) hx hb dX5_lays_167 hl (k := 6) rfl (nI_1 _) (by decide) rfl (fun ls hl => ?_)
                    refine lv_goto (tgt := 20) hx hb dX5_lays_170 (by decide) ?_
                    have hl : lv_has ls 7 [(0, .ref (a 0)), (1, .int (nI t)), (2, .int mo), (3, .int (p_lay N (nI t) mo k 3)), (4, .int (nI (k + 1)))] := lv_sub hl [3, 4, 5, 6, 0] rfl
                    have w63 : p_lay N (nI t) mo k 3 = p_lay N (nI t) mo (k + 1) 3 := by first | (rw [hls]; done) | (rw [hls]; rfl)
                    have hl : lv_has ls 7 [(0, .ref (a 0)), (1, .int (nI t)), (2, .int mo), (3, .int (p_lay N (nI t) mo (k + 1) 3)), (4, .int (nI (k + 1)))] := (congrArg (fun zz => lv_has ls 7 [(0, .ref (a 0)), (1, .int (nI t)), (2, .int mo), (3, .int zz), (4, .int (nI (k + 1)))]) w63).mp hl
                    have hl : lv_has ls 7 [(0, .ref (a 0)), (1, .int (nI t)), (2, .int mo), (3, .int (p_lay N (nI t) mo (k + 1) 3)), (4, .int (nI (k + 1)))] := hl
                    have w64 : (us (us (us v 11 (p_lay N (nI t) mo k 0)) 12 (p_lay N (nI t) mo k 1)) 13 (p_lay N (nI t) mo k 2)) = (us (us (us v 11 (p_lay N (nI t) mo (k + 1) 0)) 12 (p_lay N (nI t) mo (k + 1) 1)) 13 (p_lay N (nI t) mo (k + 1) 2)) := by first | (rw [hls]; done) | (rw [hls]; rfl)
                    have hP : va_P D vwCl (mdW cI a N P T U (us (us (us v 11 (p_lay N (nI t) mo (k + 1) 0)) 12 (p_lay N (nI t) mo (k + 1) 1)) 13 (p_lay N (nI t) mo (k + 1) 2))) H := (congrArg (fun zz => va_P D vwCl (mdW cI a N P T U zz) H) w64).mp hP
                    have hD : va_D (va_A (mdW cI a N P T U v) s.heap.size) (mdW cI a N P T U (us (us (us v 11 (p_lay N (nI t) mo (k + 1) 0)) 12 (p_lay N (nI t) mo (k + 1) 1)) 13 (p_lay N (nI t) mo (k + 1) 2))) := (congrArg (fun zz => va_D (va_A (mdW cI a N P T U v) s.heap.size) (mdW cI a N P T U zz)) w64).mp hD
                    have hP : va_P D vwCl (mdW cI a N P T U (us (us (us v 11 (p_lay N (nI t) mo (k + 1) 0)) 12 (p_lay N (nI t) mo (k + 1) 1)) 13 (p_lay N (nI t) mo (k + 1) 2))) H := hP
                    have hD : va_D (va_A (mdW cI a N P T U v) s.heap.size) (mdW cI a N P T U (us (us (us v 11 (p_lay N (nI t) mo (k + 1) 0)) 12 (p_lay N (nI t) mo (k + 1) 1)) 13 (p_lay N (nI t) mo (k + 1) 2))) := hD
                    exact ih (k + 1) (by omega) (by omega) H locs hP hD hS hS.1 ls hl
                  · have c62' := Int32.not_le.mp c62
                    have hadp := c62
                    refine lv_aload_n hx hb dX5_lays_111 rfl (lv_at hl 2 rfl) ?_
                    refine lv_dup hx hb dX5_lays_112 rfl ?_
                    refine g5 hx hb hts hown hK hP 0 rfl 12 (by decide) flX5_56 (fun _ h => h) (v := .int (p_lay N (nI t) mo k 1)) rfl dX5_lays_113 ?_
                    refine lv_iload hx hb dX5_lays_116 (lv_at hl 0 rfl) ?_
                    refine lv_if_eq (tgt := 125) hx hb dX5_lays_118 (by decide) (fun _ => ?_) (fun h => absurd (by decide) h)
                    refine lv_iconst (v := 1) hx hb dX5_lays_125 (by decide) ?_
                    refine lv_iadd hx hb dX5_lays_126 (lv_topi (fun x65 e65 => ?_))
                    refine f5 hx hb hts hown hK hP hD hS 0 rfl 12 (by decide) flX5_56 (fun _ h => h) rfl rfl rfl (Nat.le_of_ble_eq_true rfl) dX5_lays_127 (fun H locs hP hD hS => ?_)
                    have hP : va_P D vwCl (mdW cI a N P T U (us (us (us v 11 (p_lay N (nI t) mo k 0)) 12 x65) 13 (p_lay N (nI t) mo k 2))) H := hP
                    have hD : va_D (va_A (mdW cI a N P T U v) s.heap.size) (mdW cI a N P T U (us (us (us v 11 (p_lay N (nI t) mo k 0)) 12 x65) 13 (p_lay N (nI t) mo k 2))) := hD
                    refine lv_aload_n hx hb dX5_lays_130 rfl (lv_at hl 2 rfl) ?_
                    refine lv_iload hx hb dX5_lays_131 (lv_at hl 6 rfl) ?_
                    refine lv_iconst (v := 2) hx hb dX5_lays_133 (by decide) ?_
                    refine k_riV (As := [.int (nI k), .int (nI 2)]) (rest := []) (wc := mdW cI a N P T U (us (us (us v 11 (p_lay N (nI t) mo k 0)) 12 x65) 13 (p_lay N (nI t) mo k 2))) ⟨hx, hb, hml, hown, hts⟩ (c_X5_of l D cI cS cL a N P T U (us (us (us v 11 (p_lay N (nI t) mo k 0)) 12 x65) 13 (p_lay N (nI t) mo k 2)) _ k 2 5 (by omega) (by decide) rfl) lkX5_37 rfl rfl ⟨(Nat.le_of_ble_eq_true rfl), (Nat.le_of_ble_eq_true rfl)⟩ (va_recv hK hP (ci := 4) (q0 := 0) rfl rfl) hK hE hP hD rfl hl.1 rfl (Nat.le_of_ble_eq_true rfl) dX5_lays_134 ⟨Nat.zero_le _, Nat.zero_le _⟩ ?_
                    refine lv_istore_n (lv' := [(3, .int (N 5 k)), (6, .int 0), (5, .int 1), (0, .ref (a 0)), (1, .int (nI t)), (2, .int mo), (4, .int (nI k))]) hx hb dX5_lays_137 rfl hl (by decide) rfl (fun ls hl => ?_)
                    refine lv_aload_n hx hb dX5_lays_138 rfl (lv_at hl 3 rfl) ?_
                    refine lv_dup hx hb dX5_lays_139 rfl ?_
                    refine g5 hx hb hts hown hK hP 0 rfl 11 (by decide) flX5_53 (fun _ h => h) (v := .int (p_lay N (nI t) mo k 0)) rfl dX5_lays_140 ?_
                    refine lv_aload_n hx hb dX5_lays_143 rfl (lv_at hl 3 rfl) ?_
                    refine lv_iload hx hb dX5_lays_144 (lv_at hl 6 rfl) ?_
                    refine lv_iconst (v := 1) hx hb dX5_lays_146 (by decide) ?_
                    refine k_riV (As := [.int (nI k), .int (nI 1)]) (rest := [.int (p_lay N (nI t) mo k 0), .ref (a 0)]) (wc := mdW cI a N P T U (us (us (us v 11 (p_lay N (nI t) mo k 0)) 12 x65) 13 (p_lay N (nI t) mo k 2))) ⟨hx, hb, hml, hown, hts⟩ (c_X5_of l D cI cS cL a N P T U (us (us (us v 11 (p_lay N (nI t) mo k 0)) 12 x65) 13 (p_lay N (nI t) mo k 2)) _ k 1 4 (by omega) (by decide) rfl) lkX5_37 rfl rfl ⟨(Nat.le_of_ble_eq_true rfl), (Nat.le_of_ble_eq_true rfl)⟩ (va_recv hK hP (ci := 4) (q0 := 0) rfl rfl) hK hE hP hD rfl hl.1 rfl (Nat.le_of_ble_eq_true rfl) dX5_lays_147 ⟨Nat.zero_le _, Nat.zero_le _⟩ ?_
                    refine lv_iadd hx hb dX5_lays_150 (lv_topi (fun x66 e66 => ?_))
                    refine f5 hx hb hts hown hK hP hD hS 0 rfl 11 (by decide) flX5_53 (fun _ h => h) rfl rfl rfl (Nat.le_of_ble_eq_true rfl) dX5_lays_151 (fun H locs hP hD hS => ?_)
                    have hP : va_P D vwCl (mdW cI a N P T U (us (us (us v 11 x66) 12 x65) 13 (p_lay N (nI t) mo k 2))) H := hP
                    have hD : va_D (va_A (mdW cI a N P T U v) s.heap.size) (mdW cI a N P T U (us (us (us v 11 x66) 12 x65) 13 (p_lay N (nI t) mo k 2))) := hD
                    refine lv_aload_n hx hb dX5_lays_154 rfl (lv_at hl 3 rfl) ?_
                    refine lv_dup hx hb dX5_lays_155 rfl ?_
                    refine g5 hx hb hts hown hK hP 0 rfl 13 (by decide) flX5_59 (fun _ h => h) (v := .int (p_lay N (nI t) mo k 2)) rfl dX5_lays_156 ?_
                    refine lv_iconst (v := 1) hx hb dX5_lays_159 (by decide) ?_
                    refine lv_iload hx hb dX5_lays_160 (lv_at hl 6 rfl) ?_
                    refine lv_ishl hx hb dX5_lays_162 (lv_topi (fun x67 e67 => ?_))
                    refine lv_ior hx hb dX5_lays_163 (lv_topi (fun x68 e68 => ?_))
                    refine f5 hx hb hts hown hK hP hD hS 0 rfl 13 (by decide) flX5_59 (fun _ h => h) rfl rfl rfl (Nat.le_of_ble_eq_true rfl) dX5_lays_164 (fun H locs hP hD hS => ?_)
                    have hP : va_P D vwCl (mdW cI a N P T U (us (us (us v 11 x66) 12 x65) 13 x68)) H := hP
                    have hD : va_D (va_A (mdW cI a N P T U v) s.heap.size) (mdW cI a N P T U (us (us (us v 11 x66) 12 x65) 13 x68)) := hD
                    have hls := lay_ad (N := N) (t := nI t) (mo := mo) (k := k) (by simp [c2, c2', hkn, c3, c36, c45, c54, hne, c62, c62', hadp]) (by simp [c2, c2', hkn, c3, c36, c45, c54, hne, c62, c62', hadp]) hadp
                    refine lv_iinc (v := nI (k + 1)) (lv' := [(4, .int (nI (k + 1))), (3, .int (N 5 k)), (6, .int 0), (5, .int 1), (0, .ref (a 0)), (1, .int (nI t)), (2, .int mo)]) hx hb dX5_lays_167 hl (k := 6) rfl (nI_1 _) (by decide) rfl (fun ls hl => ?_)
                    refine lv_goto (tgt := 20) hx hb dX5_lays_170 (by decide) ?_
                    have hl : lv_has ls 7 [(0, .ref (a 0)), (1, .int (nI t)), (2, .int mo), (3, .int (N 5 k)), (4, .int (nI (k + 1)))] := lv_sub hl [4, 5, 6, 1, 0] rfl
                    have w69 : N 5 k = p_lay N (nI t) mo (k + 1) 3 := by subst e65 e66 e67 e68; first | (rw [hls]; done) | (rw [hls]; rfl)
                    have hl : lv_has ls 7 [(0, .ref (a 0)), (1, .int (nI t)), (2, .int mo), (3, .int (p_lay N (nI t) mo (k + 1) 3)), (4, .int (nI (k + 1)))] := (congrArg (fun zz => lv_has ls 7 [(0, .ref (a 0)), (1, .int (nI t)), (2, .int mo), (3, .int zz), (4, .int (nI (k + 1)))]) w69).mp hl
                    have hl : lv_has ls 7 [(0, .ref (a 0)), (1, .int (nI t)), (2, .int mo), (3, .int (p_lay N (nI t) mo (k + 1) 3)), (4, .int (nI (k + 1)))] := hl
                    have w70 : (us (us (us v 11 x66) 12 x65) 13 x68) = (us (us (us v 11 (p_lay N (nI t) mo (k + 1) 0)) 12 (p_lay N (nI t) mo (k + 1) 1)) 13 (p_lay N (nI t) mo (k + 1) 2)) := by subst e65 e66 e67 e68; first | (rw [hls]; done) | (rw [hls]; rfl)
                    have hP : va_P D vwCl (mdW cI a N P T U (us (us (us v 11 (p_lay N (nI t) mo (k + 1) 0)) 12 (p_lay N (nI t) mo (k + 1) 1)) 13 (p_lay N (nI t) mo (k + 1) 2))) H := (congrArg (fun zz => va_P D vwCl (mdW cI a N P T U zz) H) w70).mp hP
                    have hD : va_D (va_A (mdW cI a N P T U v) s.heap.size) (mdW cI a N P T U (us (us (us v 11 (p_lay N (nI t) mo (k + 1) 0)) 12 (p_lay N (nI t) mo (k + 1) 1)) 13 (p_lay N (nI t) mo (k + 1) 2))) := (congrArg (fun zz => va_D (va_A (mdW cI a N P T U v) s.heap.size) (mdW cI a N P T U zz)) w70).mp hD
                    have hP : va_P D vwCl (mdW cI a N P T U (us (us (us v 11 (p_lay N (nI t) mo (k + 1) 0)) 12 (p_lay N (nI t) mo (k + 1) 1)) 13 (p_lay N (nI t) mo (k + 1) 2))) H := hP
                    have hD : va_D (va_A (mdW cI a N P T U v) s.heap.size) (mdW cI a N P T U (us (us (us v 11 (p_lay N (nI t) mo (k + 1) 0)) 12 (p_lay N (nI t) mo (k + 1) 1)) 13 (p_lay N (nI t) mo (k + 1) 2))) := hD
                    exact ih (k + 1) (by omega) (by omega) H locs hP hD hS hS.1 ls hl
                · have heq := (c61).symm
                  refine lv_iconst (v := 1) hx hb dX5_lays_81 (by decide) ?_
                  refine lv_goto (tgt := 86) hx hb dX5_lays_82 (by decide) ?_
                  refine lv_istore (lv' := [(6, .int 1), (5, .int 1), (0, .ref (a 0)), (1, .int (nI t)), (2, .int mo), (3, .int (p_lay N (nI t) mo k 3)), (4, .int (nI k))]) hx hb dX5_lays_86 hl (by decide) rfl (fun ls hl => ?_)
                  refine lv_iload hx hb dX5_lays_88 (lv_at hl 1 rfl) ?_
                  refine lv_if_eq (tgt := 167) hx hb dX5_lays_90 (by decide) (fun h => absurd h (by decide)) (fun _ => ?_)
                  refine lv_iload hx hb dX5_lays_93 (lv_at hl 0 rfl) ?_
                  refine lv_if_ne (tgt := 111) hx hb dX5_lays_95 (by decide) (fun _ => ?_) (fun h => absurd h (by decide))
                  refine lv_aload_n hx hb dX5_lays_111 rfl (lv_at hl 2 rfl) ?_
                  refine lv_dup hx hb dX5_lays_112 rfl ?_
                  refine g5 hx hb hts hown hK hP 0 rfl 12 (by decide) flX5_56 (fun _ h => h) (v := .int (p_lay N (nI t) mo k 1)) rfl dX5_lays_113 ?_
                  refine lv_iload hx hb dX5_lays_116 (lv_at hl 0 rfl) ?_
                  refine lv_if_eq (tgt := 125) hx hb dX5_lays_118 (by decide) (fun h => absurd h (by decide)) (fun _ => ?_)
                  refine lv_iconst (v := 0) hx hb dX5_lays_121 (by decide) ?_
                  refine lv_goto (tgt := 126) hx hb dX5_lays_122 (by decide) ?_
                  refine lv_iadd hx hb dX5_lays_126 (lv_topi (fun x71 e71 => ?_))
                  have q71 : x71 = p_lay N (nI t) mo k 1 := by rw [e71]; exact Int32.add_zero _
                  subst q71
                  refine f5 hx hb hts hown hK hP hD hS 0 rfl 12 (by decide) flX5_56 (fun _ h => h) rfl rfl rfl (Nat.le_of_ble_eq_true rfl) dX5_lays_127 (fun H locs hP hD hS => ?_)
                  have hP : va_P D vwCl (mdW cI a N P T U (us (us (us v 11 (p_lay N (nI t) mo k 0)) 12 (p_lay N (nI t) mo k 1)) 13 (p_lay N (nI t) mo k 2))) H := hP
                  have hD : va_D (va_A (mdW cI a N P T U v) s.heap.size) (mdW cI a N P T U (us (us (us v 11 (p_lay N (nI t) mo k 0)) 12 (p_lay N (nI t) mo k 1)) 13 (p_lay N (nI t) mo k 2))) := hD
                  refine lv_aload_n hx hb dX5_lays_130 rfl (lv_at hl 2 rfl) ?_
                  refine lv_iload hx hb dX5_lays_131 (lv_at hl 6 rfl) ?_
                  refine lv_iconst (v := 2) hx hb dX5_lays_133 (by decide) ?_
                  refine k_riV (As := [.int (nI k), .int (nI 2)]) (rest := []) (wc := mdW cI a N P T U (us (us (us v 11 (p_lay N (nI t) mo k 0)) 12 (p_lay N (nI t) mo k 1)) 13 (p_lay N (nI t) mo k 2))) ⟨hx, hb, hml, hown, hts⟩ (c_X5_of l D cI cS cL a N P T U (us (us (us v 11 (p_lay N (nI t) mo k 0)) 12 (p_lay N (nI t) mo k 1)) 13 (p_lay N (nI t) mo k 2)) _ k 2 5 (by omega) (by decide) rfl) lkX5_37 rfl rfl ⟨(Nat.le_of_ble_eq_true rfl), (Nat.le_of_ble_eq_true rfl)⟩ (va_recv hK hP (ci := 4) (q0 := 0) rfl rfl) hK hE hP hD rfl hl.1 rfl (Nat.le_of_ble_eq_true rfl) dX5_lays_134 ⟨Nat.zero_le _, Nat.zero_le _⟩ ?_
                  refine lv_istore_n (lv' := [(3, .int (N 5 k)), (6, .int 1), (5, .int 1), (0, .ref (a 0)), (1, .int (nI t)), (2, .int mo), (4, .int (nI k))]) hx hb dX5_lays_137 rfl hl (by decide) rfl (fun ls hl => ?_)
                  refine lv_aload_n hx hb dX5_lays_138 rfl (lv_at hl 3 rfl) ?_
                  refine lv_dup hx hb dX5_lays_139 rfl ?_
                  refine g5 hx hb hts hown hK hP 0 rfl 11 (by decide) flX5_53 (fun _ h => h) (v := .int (p_lay N (nI t) mo k 0)) rfl dX5_lays_140 ?_
                  refine lv_aload_n hx hb dX5_lays_143 rfl (lv_at hl 3 rfl) ?_
                  refine lv_iload hx hb dX5_lays_144 (lv_at hl 6 rfl) ?_
                  refine lv_iconst (v := 1) hx hb dX5_lays_146 (by decide) ?_
                  refine k_riV (As := [.int (nI k), .int (nI 1)]) (rest := [.int (p_lay N (nI t) mo k 0), .ref (a 0)]) (wc := mdW cI a N P T U (us (us (us v 11 (p_lay N (nI t) mo k 0)) 12 (p_lay N (nI t) mo k 1)) 13 (p_lay N (nI t) mo k 2))) ⟨hx, hb, hml, hown, hts⟩ (c_X5_of l D cI cS cL a N P T U (us (us (us v 11 (p_lay N (nI t) mo k 0)) 12 (p_lay N (nI t) mo k 1)) 13 (p_lay N (nI t) mo k 2)) _ k 1 4 (by omega) (by decide) rfl) lkX5_37 rfl rfl ⟨(Nat.le_of_ble_eq_true rfl), (Nat.le_of_ble_eq_true rfl)⟩ (va_recv hK hP (ci := 4) (q0 := 0) rfl rfl) hK hE hP hD rfl hl.1 rfl (Nat.le_of_ble_eq_true rfl) dX5_lays_147 ⟨Nat.zero_le _, Nat.zero_le _⟩ ?_
                  refine lv_iadd hx hb dX5_lays_150 (lv_topi (fun x72 e72 => ?_))
                  refine f5 hx hb hts hown hK hP hD hS 0 rfl 11 (by decide) flX5_53 (fun _ h => h) rfl rfl rfl (Nat.le_of_ble_eq_true rfl) dX5_lays_151 (fun H locs hP hD hS => ?_)
                  have hP : va_P D vwCl (mdW cI a N P T U (us (us (us v 11 x72) 12 (p_lay N (nI t) mo k 1)) 13 (p_lay N (nI t) mo k 2))) H := hP
                  have hD : va_D (va_A (mdW cI a N P T U v) s.heap.size) (mdW cI a N P T U (us (us (us v 11 x72) 12 (p_lay N (nI t) mo k 1)) 13 (p_lay N (nI t) mo k 2))) := hD
                  refine lv_aload_n hx hb dX5_lays_154 rfl (lv_at hl 3 rfl) ?_
                  refine lv_dup hx hb dX5_lays_155 rfl ?_
                  refine g5 hx hb hts hown hK hP 0 rfl 13 (by decide) flX5_59 (fun _ h => h) (v := .int (p_lay N (nI t) mo k 2)) rfl dX5_lays_156 ?_
                  refine lv_iconst (v := 1) hx hb dX5_lays_159 (by decide) ?_
                  refine lv_iload hx hb dX5_lays_160 (lv_at hl 6 rfl) ?_
                  refine lv_ishl hx hb dX5_lays_162 (lv_topi (fun x73 e73 => ?_))
                  refine lv_ior hx hb dX5_lays_163 (lv_topi (fun x74 e74 => ?_))
                  refine f5 hx hb hts hown hK hP hD hS 0 rfl 13 (by decide) flX5_59 (fun _ h => h) rfl rfl rfl (Nat.le_of_ble_eq_true rfl) dX5_lays_164 (fun H locs hP hD hS => ?_)
                  have hP : va_P D vwCl (mdW cI a N P T U (us (us (us v 11 x72) 12 (p_lay N (nI t) mo k 1)) 13 x74)) H := hP
                  have hD : va_D (va_A (mdW cI a N P T U v) s.heap.size) (mdW cI a N P T U (us (us (us v 11 x72) 12 (p_lay N (nI t) mo k 1)) 13 x74)) := hD
                  have hls := lay_fit (N := N) (t := nI t) (mo := mo) (k := k) (by simp [c2, c2', hkn, c3, c36, c45, c54, heq]) (by simp [c2, c2', hkn, c3, c36, c45, c54, heq])
                  refine lv_iinc (v := nI (k + 1)) (lv' := [(4, .int (nI (k + 1))), (3, .int (N 5 k)), (6, .int 1), (5, .int 1), (0, .ref (a 0)), (1, .int (nI t)), (2, .int mo)]) hx hb dX5_lays_167 hl (k := 6) rfl (nI_1 _) (by decide) rfl (fun ls hl => ?_)
                  refine lv_goto (tgt := 20) hx hb dX5_lays_170 (by decide) ?_
                  have hl : lv_has ls 7 [(0, .ref (a 0)), (1, .int (nI t)), (2, .int mo), (3, .int (N 5 k)), (4, .int (nI (k + 1)))] := lv_sub hl [4, 5, 6, 1, 0] rfl
                  have w75 : N 5 k = p_lay N (nI t) mo (k + 1) 3 := by subst e72 e73 e74; first | (rw [hls]; done) | (rw [hls]; rfl)
                  have hl : lv_has ls 7 [(0, .ref (a 0)), (1, .int (nI t)), (2, .int mo), (3, .int (p_lay N (nI t) mo (k + 1) 3)), (4, .int (nI (k + 1)))] := (congrArg (fun zz => lv_has ls 7 [(0, .ref (a 0)), (1, .int (nI t)), (2, .int mo), (3, .int zz), (4, .int (nI (k + 1)))]) w75).mp hl
                  have hl : lv_has ls 7 [(0, .ref (a 0)), (1, .int (nI t)), (2, .int mo), (3, .int (p_lay N (nI t) mo (k + 1) 3)), (4, .int (nI (k + 1)))] := hl
                  have w76 : (us (us (us v 11 x72) 12 (p_lay N (nI t) mo k 1)) 13 x74) = (us (us (us v 11 (p_lay N (nI t) mo (k + 1) 0)) 12 (p_lay N (nI t) mo (k + 1) 1)) 13 (p_lay N (nI t) mo (k + 1) 2)) := by subst e72 e73 e74; first | (rw [hls]; done) | (rw [hls]; rfl)
                  have hP : va_P D vwCl (mdW cI a N P T U (us (us (us v 11 (p_lay N (nI t) mo (k + 1) 0)) 12 (p_lay N (nI t) mo (k + 1) 1)) 13 (p_lay N (nI t) mo (k + 1) 2))) H := (congrArg (fun zz => va_P D vwCl (mdW cI a N P T U zz) H) w76).mp hP
                  have hD : va_D (va_A (mdW cI a N P T U v) s.heap.size) (mdW cI a N P T U (us (us (us v 11 (p_lay N (nI t) mo (k + 1) 0)) 12 (p_lay N (nI t) mo (k + 1) 1)) 13 (p_lay N (nI t) mo (k + 1) 2))) := (congrArg (fun zz => va_D (va_A (mdW cI a N P T U v) s.heap.size) (mdW cI a N P T U zz)) w76).mp hD
                  have hP : va_P D vwCl (mdW cI a N P T U (us (us (us v 11 (p_lay N (nI t) mo (k + 1) 0)) 12 (p_lay N (nI t) mo (k + 1) 1)) 13 (p_lay N (nI t) mo (k + 1) 2))) H := hP
                  have hD : va_D (va_A (mdW cI a N P T U v) s.heap.size) (mdW cI a N P T U (us (us (us v 11 (p_lay N (nI t) mo (k + 1) 0)) 12 (p_lay N (nI t) mo (k + 1) 1)) 13 (p_lay N (nI t) mo (k + 1) 2))) := hD
                  exact ih (k + 1) (by omega) (by omega) H locs hP hD hS hS.1 ls hl
  have hl : lv_has ls 7 [(0, .ref (a 0)), (1, .int (nI t)), (2, .int mo), (3, .int (-1)), (4, .int 0)] := lv_sub hl [2, 3, 4, 1, 0] rfl
  have hl : lv_has ls 7 [(0, .ref (a 0)), (1, .int (nI t)), (2, .int mo), (3, .int (p_lay N (nI t) mo 0 3)), (4, .int (nI 0))] := hl
  have hP : va_P D vwCl (mdW cI a N P T U (us (us (us v 11 (p_lay N (nI t) mo 0 0)) 12 (p_lay N (nI t) mo 0 1)) 13 (p_lay N (nI t) mo 0 2))) H := hP
  have hD : va_D (va_A (mdW cI a N P T U v) s.heap.size) (mdW cI a N P T U (us (us (us v 11 (p_lay N (nI t) mo 0 0)) 12 (p_lay N (nI t) mo 0 1)) 13 (p_lay N (nI t) mo 0 2))) := hD
  exact L1 (n - 0 + 1) 0 (by omega) (by omega) H locs hP hD hS hS.1 ls hl

abbrev rmX5_isWhole : Room := { frames := 4, cells := 0, slots := 0, locals := 91 }
set_option maxHeartbeats 4000000 in
set_option maxRecDepth 100000 in
theorem c_X5_isWhole (l : Launch) (D : va_G) (cI cS cL : ClassId) (a : Nat → Nat) (N : NN) (P T U v : Nat → Int32) (sz : Nat) (n t : Nat) (mo : Int32) (hn : N 1 2 = nI n) (hn14 : n ≤ 14) (ht : t < 3) (hd0 : 0 ≤ N 1 0) : Met l yX5_isWhole (wy_ yX5_isWhole cX5_isWhole 3 (some .boolean)) rmX5_isWhole (kPc D (kTy cI cS cL) (mdW cI a N P T U v) sz [.ref (a 0), .int (nI t), .int mo]) (kMi D (mdW cI a N P T U v) (mdW cI a N P T U (us (us (us v 11 (p_lay N (nI t) mo n 0)) 12 (p_lay N (nI t) mo n 1)) 13 (p_lay N (nI t) mo n 2))) sz (bI (decide (N 2 t ≤ p_lay N (nI t) mo n 0)))) 0 0 (va_A (mdW cI a N P T U v) sz) := by
  refine k_ofW (by decide) (Nat.le_of_ble_eq_true rfl) ?_
  intro p e s m args below meth c hx hb hr hml hts hown hlocks hnm hsz hP hK hD hE ls hl
  subst hsz
  have hA : ∀ q : Nat, s.heap.size ≤ q → (va_A (mdW cI a N P T U v) s.heap.size) q := fun q h => Or.inr h
  have hS : va_S (va_A (mdW cI a N P T U v) s.heap.size) s.heap s.heap [] := va_S.rf
  have hl : lv_has ls 3 [(0, .ref (a 0)), (1, .int (nI t)), (2, .int mo)] := hl
  refine lv_aload_n hx hb dX5_isWhole_0 rfl (lv_at hl 0 rfl) ?_
  refine lv_iload_n hx hb dX5_isWhole_1 rfl (lv_at hl 1 rfl) ?_
  refine lv_iload_n hx hb dX5_isWhole_2 rfl (lv_at hl 2 rfl) ?_
  refine k_mvV (As := [.int (nI t), .int mo]) (rest := []) (w1 := []) (wc := mdW cI a N P T U v) (wc' := mdW cI a N P T U (us (us (us v 11 (p_lay N (nI t) mo n 0)) 12 (p_lay N (nI t) mo n 1)) 13 (p_lay N (nI t) mo n 2))) (w3 := []) ⟨hx, hb, hml, hown, hts⟩ (c_X5_lays l D cI cS cL a N P T U v _ n t mo hn hn14 (by omega) hd0) lkX5_66 rfl rfl ⟨(Nat.le_of_ble_eq_true rfl), (Nat.le_of_ble_eq_true rfl)⟩ (va_recv hK hP (ci := 4) (q0 := 0) rfl rfl) hK hE hP hD hS hA rfl rfl hl.1 rfl (Nat.le_of_ble_eq_true rfl) dX5_isWhole_3 ⟨Nat.zero_le _, Nat.zero_le _⟩ (fun H locs hzz hP hD hS => ?_)
  have hP : va_P D vwCl (mdW cI a N P T U (us (us (us v 11 (p_lay N (nI t) mo n 0)) 12 (p_lay N (nI t) mo n 1)) 13 (p_lay N (nI t) mo n 2))) H := hP
  have hD : va_D (va_A (mdW cI a N P T U v) s.heap.size) (mdW cI a N P T U (us (us (us v 11 (p_lay N (nI t) mo n 0)) 12 (p_lay N (nI t) mo n 1)) 13 (p_lay N (nI t) mo n 2))) := hD
  refine lv_aload_n hx hb dX5_isWhole_6 rfl (lv_at hl 0 rfl) ?_
  refine g5 hx hb hts hown hK hP 0 rfl 11 (by decide) flX5_53 (fun _ h => h) (v := .int (p_lay N (nI t) mo n 0)) rfl dX5_isWhole_7 ?_
  refine lv_aload_n hx hb dX5_isWhole_10 rfl (lv_at hl 0 rfl) ?_
  refine g5 hx hb hts hown hK hP 0 rfl 0 (by decide) flX5_7 (fun _ h => h) (v := .ref (a 1)) rfl dX5_isWhole_11 ?_
  refine lv_bipush (v := 9) hx hb dX5_isWhole_14 (by decide) ?_
  refine lv_iload_n hx hb dX5_isWhole_16 rfl (lv_at hl 1 rfl) ?_
  refine lv_iadd hx hb dX5_isWhole_17 (lv_topi (fun x1 e1 => ?_))
  have q1 : x1 = nI (9 + t) := by rw [e1]; exact nI_add 9 t
  subst q1
  refine k_ald (k := 9 + t) hx hb hK hP 1 0 rfl rfl rfl (by omega) (by decide) dX5_isWhole_18 ?_
  rw [show flat N (9 + t) = N 2 t from flat_want _ _ (by omega)]
  refine lv_icmp_lt (tgt := 26) hx hb dX5_isWhole_19 (by decide) (fun c2 => ?_) (fun c2 => ?_)
  · have c2' := Int32.not_le.mpr c2
    refine lv_iconst (v := 0) hx hb dX5_isWhole_26 (by decide) ?_
    have hP : va_P D vwCl (mdW cI a N P T U (us (us (us v 11 (p_lay N (nI t) mo n 0)) 12 (p_lay N (nI t) mo n 1)) 13 (p_lay N (nI t) mo n 2))) H := hP
    have hD : va_D (va_A (mdW cI a N P T U v) s.heap.size) (mdW cI a N P T U (us (us (us v 11 (p_lay N (nI t) mo n 0)) 12 (p_lay N (nI t) mo n 1)) 13 (p_lay N (nI t) mo n 2))) := hD
    exact k_eMz hx hb hr hlocks rfl hP hS (by exact bI_zero (by simp [c2, c2'])) dX5_isWhole_27
  · have c2' := Int32.not_lt.mp c2
    refine lv_iconst (v := 1) hx hb dX5_isWhole_22 (by decide) ?_
    refine lv_goto (tgt := 27) hx hb dX5_isWhole_23 (by decide) ?_
    have hP : va_P D vwCl (mdW cI a N P T U (us (us (us v 11 (p_lay N (nI t) mo n 0)) 12 (p_lay N (nI t) mo n 1)) 13 (p_lay N (nI t) mo n 2))) H := hP
    have hD : va_D (va_A (mdW cI a N P T U v) s.heap.size) (mdW cI a N P T U (us (us (us v 11 (p_lay N (nI t) mo n 0)) 12 (p_lay N (nI t) mo n 1)) 13 (p_lay N (nI t) mo n 2))) := hD
    exact k_eMz hx hb hr hlocks rfl hP hS (by exact bI_one (by simp [c2, c2'])) dX5_isWhole_27

abbrev rmX5_ofTruck : Room := { frames := 5, cells := 0, slots := 0, locals := 113 }
set_option maxHeartbeats 4000000 in
set_option maxRecDepth 100000 in
theorem c_X5_ofTruck (l : Launch) (D : va_G) (cI cS cL : ClassId) (a : Nat → Nat) (N : NN) (P T U v : Nat → Int32) (sz : Nat) (n t w : Nat) (hn : N 1 2 = nI n) (hn14 : n ≤ 14) (ht : t < 3) (hw6 : w ≤ 6) (hd0 : 0 ≤ N 1 0) : Met l yX5_ofTruck (wy_ yX5_ofTruck cX5_ofTruck 4 (some .int)) rmX5_ofTruck (kPc D (kTy cI cS cL) (mdW cI a N P T U v) sz [.ref (a 0), .int (nI t), .int (nI w)]) (kMi D (mdW cI a N P T U v) (mdW cI a N P T U (us (us (us v 11 (p_lay N (nI t) (-1) n 0)) 12 (p_lay N (nI t) (-1) n 1)) 13 (p_lay N (nI t) (-1) n 2))) sz (p_truck N n t w)) 0 0 (va_A (mdW cI a N P T U v) sz) := by
  refine k_ofW (by decide) (Nat.le_of_ble_eq_true rfl) ?_
  intro p e s m args below meth c hx hb hr hml hts hown hlocks hnm hsz hP hK hD hE ls hl
  subst hsz
  have hA : ∀ q : Nat, s.heap.size ≤ q → (va_A (mdW cI a N P T U v) s.heap.size) q := fun q h => Or.inr h
  have hS : va_S (va_A (mdW cI a N P T U v) s.heap.size) s.heap s.heap [] := va_S.rf
  have hl : lv_has ls 4 [(0, .ref (a 0)), (1, .int (nI t)), (2, .int (nI w))] := hl
  refine lv_aload_n hx hb dX5_ofTruck_0 rfl (lv_at hl 0 rfl) ?_
  refine lv_iload_n hx hb dX5_ofTruck_1 rfl (lv_at hl 1 rfl) ?_
  refine lv_iconst (v := (-1)) hx hb dX5_ofTruck_2 (by decide) ?_
  refine k_miV (As := [.int (nI t), .int (-1)]) (rest := []) (w1 := []) (wc := mdW cI a N P T U v) (wc' := mdW cI a N P T U (us (us (us v 11 (p_lay N (nI t) (-1) n 0)) 12 (p_lay N (nI t) (-1) n 1)) 13 (p_lay N (nI t) (-1) n 2))) (w3 := []) ⟨hx, hb, hml, hown, hts⟩ (c_X5_isWhole l D cI cS cL a N P T U v _ n t (-1) hn hn14 (by omega) hd0) lkX5_137 rfl rfl ⟨(Nat.le_of_ble_eq_true rfl), (Nat.le_of_ble_eq_true rfl)⟩ (va_recv hK hP (ci := 4) (q0 := 0) rfl rfl) hK hE hP hD hS hA rfl rfl hl.1 rfl (Nat.le_of_ble_eq_true rfl) dX5_ofTruck_3 ⟨Nat.zero_le _, Nat.zero_le _⟩ (fun H locs hzz hP hD hS => ?_)
  have hP : va_P D vwCl (mdW cI a N P T U (us (us (us v 11 (p_lay N (nI t) (-1) n 0)) 12 (p_lay N (nI t) (-1) n 1)) 13 (p_lay N (nI t) (-1) n 2))) H := hP
  have hD : va_D (va_A (mdW cI a N P T U v) s.heap.size) (mdW cI a N P T U (us (us (us v 11 (p_lay N (nI t) (-1) n 0)) 12 (p_lay N (nI t) (-1) n 1)) 13 (p_lay N (nI t) (-1) n 2))) := hD
  refine lv_istore_n (lv' := [(3, .int (bI (decide (N 2 t ≤ p_lay N (nI t) (-1) n 0)))), (0, .ref (a 0)), (1, .int (nI t)), (2, .int (nI w))]) hx hb dX5_ofTruck_6 rfl hl (by decide) rfl (fun ls hl => ?_)
  refine lv_iload_n hx hb dX5_ofTruck_7 rfl (lv_at hl 3 rfl) ?_
  by_cases c1 : w = 0
  · subst c1
    refine lv_tableIn (off := 40) (tgt := 48) hx hb dX5_ofTruck_8 (by decide) (by decide) rfl (by decide) ?_
    refine lv_aload_n hx hb dX5_ofTruck_48 rfl (lv_at hl 1 rfl) ?_
    refine g5 hx hb hts hown hK hP 0 rfl 0 (by decide) flX5_7 (fun _ h => h) (v := .ref (a 1)) rfl dX5_ofTruck_49 ?_
    refine lv_bipush (v := 9) hx hb dX5_ofTruck_52 (by decide) ?_
    refine lv_iload_n hx hb dX5_ofTruck_54 rfl (lv_at hl 2 rfl) ?_
    refine lv_iadd hx hb dX5_ofTruck_55 (lv_topi (fun x2 e2 => ?_))
    have q2 : x2 = nI (9 + t) := by rw [e2]; exact nI_add 9 t
    subst q2
    refine k_ald (k := 9 + t) hx hb hK hP 1 0 rfl rfl rfl (by omega) (by decide) dX5_ofTruck_56 ?_
    rw [show flat N (9 + t) = N 2 t from flat_want _ _ (by omega)]
    have hP : va_P D vwCl (mdW cI a N P T U (us (us (us v 11 (p_lay N (nI t) (-1) n 0)) 12 (p_lay N (nI t) (-1) n 1)) 13 (p_lay N (nI t) (-1) n 2))) H := hP
    have hD : va_D (va_A (mdW cI a N P T U v) s.heap.size) (mdW cI a N P T U (us (us (us v 11 (p_lay N (nI t) (-1) n 0)) 12 (p_lay N (nI t) (-1) n 1)) 13 (p_lay N (nI t) (-1) n 2))) := hD
    exact k_eMi hx hb hr hlocks hP hS (by rfl) dX5_ofTruck_57
  by_cases c3 : w = 1
  · subst c3
    refine lv_tableIn (off := 50) (tgt := 58) hx hb dX5_ofTruck_8 (by decide) (by decide) rfl (by decide) ?_
    refine lv_aload_n hx hb dX5_ofTruck_58 rfl (lv_at hl 1 rfl) ?_
    refine g5 hx hb hts hown hK hP 0 rfl 11 (by decide) flX5_53 (fun _ h => h) (v := .int (p_lay N (nI t) (-1) n 0)) rfl dX5_ofTruck_59 ?_
    have hP : va_P D vwCl (mdW cI a N P T U (us (us (us v 11 (p_lay N (nI t) (-1) n 0)) 12 (p_lay N (nI t) (-1) n 1)) 13 (p_lay N (nI t) (-1) n 2))) H := hP
    have hD : va_D (va_A (mdW cI a N P T U v) s.heap.size) (mdW cI a N P T U (us (us (us v 11 (p_lay N (nI t) (-1) n 0)) 12 (p_lay N (nI t) (-1) n 1)) 13 (p_lay N (nI t) (-1) n 2))) := hD
    exact k_eMi hx hb hr hlocks hP hS (by rfl) dX5_ofTruck_62
  by_cases c4 : w = 2
  · subst c4
    refine lv_tableIn (off := 55) (tgt := 63) hx hb dX5_ofTruck_8 (by decide) (by decide) rfl (by decide) ?_
    refine lv_aload_n hx hb dX5_ofTruck_63 rfl (lv_at hl 1 rfl) ?_
    refine lv_iload_n hx hb dX5_ofTruck_64 rfl (lv_at hl 2 rfl) ?_
    refine lv_iload_n hx hb dX5_ofTruck_65 rfl (lv_at hl 3 rfl) ?_
    refine lv_iconst (v := 3) hx hb dX5_ofTruck_66 (by decide) ?_
    refine lv_icmp_ne (tgt := 74) hx hb dX5_ofTruck_67 (by decide) (fun _ => ?_) (fun h => absurd h (by decide))
    refine lv_iconst (v := 0) hx hb dX5_ofTruck_74 (by decide) ?_
    refine k_riV (As := [.int (nI t), .int 0]) (rest := []) (wc := mdW cI a N P T U (us (us (us v 11 (p_lay N (nI t) (-1) n 0)) 12 (p_lay N (nI t) (-1) n 1)) 13 (p_lay N (nI t) (-1) n 2))) ⟨hx, hb, hml, hown, hts⟩ (c_X5_on l D cI cS cL a N P T U (us (us (us v 11 (p_lay N (nI t) (-1) n 0)) 12 (p_lay N (nI t) (-1) n 1)) 13 (p_lay N (nI t) (-1) n 2)) _ n (nI t) 0 (by first | exact Or.inl rfl | exact Or.inr rfl) hn hn14 hd0) lkX5_140 rfl rfl ⟨(Nat.le_of_ble_eq_true rfl), (Nat.le_of_ble_eq_true rfl)⟩ (va_recv hK hP (ci := 4) (q0 := 0) rfl rfl) hK hE hP hD rfl hl.1 rfl (Nat.le_of_ble_eq_true rfl) dX5_ofTruck_75 ⟨Nat.zero_le _, Nat.zero_le _⟩ ?_
    have hP : va_P D vwCl (mdW cI a N P T U (us (us (us v 11 (p_lay N (nI t) (-1) n 0)) 12 (p_lay N (nI t) (-1) n 1)) 13 (p_lay N (nI t) (-1) n 2))) H := hP
    have hD : va_D (va_A (mdW cI a N P T U v) s.heap.size) (mdW cI a N P T U (us (us (us v 11 (p_lay N (nI t) (-1) n 0)) 12 (p_lay N (nI t) (-1) n 1)) 13 (p_lay N (nI t) (-1) n 2))) := hD
    exact k_eMi hx hb hr hlocks hP hS (by exact p_on_at N (nI t) n) dX5_ofTruck_78
  by_cases c5 : w = 3
  · subst c5
    refine lv_tableIn (off := 55) (tgt := 63) hx hb dX5_ofTruck_8 (by decide) (by decide) rfl (by decide) ?_
    refine lv_aload_n hx hb dX5_ofTruck_63 rfl (lv_at hl 1 rfl) ?_
    refine lv_iload_n hx hb dX5_ofTruck_64 rfl (lv_at hl 2 rfl) ?_
    refine lv_iload_n hx hb dX5_ofTruck_65 rfl (lv_at hl 3 rfl) ?_
    refine lv_iconst (v := 3) hx hb dX5_ofTruck_66 (by decide) ?_
    refine lv_icmp_ne (tgt := 74) hx hb dX5_ofTruck_67 (by decide) (fun h => absurd (by decide) h) (fun _ => ?_)
    refine lv_iconst (v := 1) hx hb dX5_ofTruck_70 (by decide) ?_
    refine lv_goto (tgt := 75) hx hb dX5_ofTruck_71 (by decide) ?_
    refine k_riV (As := [.int (nI t), .int 1]) (rest := []) (wc := mdW cI a N P T U (us (us (us v 11 (p_lay N (nI t) (-1) n 0)) 12 (p_lay N (nI t) (-1) n 1)) 13 (p_lay N (nI t) (-1) n 2))) ⟨hx, hb, hml, hown, hts⟩ (c_X5_on l D cI cS cL a N P T U (us (us (us v 11 (p_lay N (nI t) (-1) n 0)) 12 (p_lay N (nI t) (-1) n 1)) 13 (p_lay N (nI t) (-1) n 2)) _ n (nI t) 1 (by first | exact Or.inl rfl | exact Or.inr rfl) hn hn14 hd0) lkX5_140 rfl rfl ⟨(Nat.le_of_ble_eq_true rfl), (Nat.le_of_ble_eq_true rfl)⟩ (va_recv hK hP (ci := 4) (q0 := 0) rfl rfl) hK hE hP hD rfl hl.1 rfl (Nat.le_of_ble_eq_true rfl) dX5_ofTruck_75 ⟨Nat.zero_le _, Nat.zero_le _⟩ ?_
    have hP : va_P D vwCl (mdW cI a N P T U (us (us (us v 11 (p_lay N (nI t) (-1) n 0)) 12 (p_lay N (nI t) (-1) n 1)) 13 (p_lay N (nI t) (-1) n 2))) H := hP
    have hD : va_D (va_A (mdW cI a N P T U v) s.heap.size) (mdW cI a N P T U (us (us (us v 11 (p_lay N (nI t) (-1) n 0)) 12 (p_lay N (nI t) (-1) n 1)) 13 (p_lay N (nI t) (-1) n 2))) := hD
    exact k_eMi hx hb hr hlocks hP hS (by exact p_on_ra N (nI t) n) dX5_ofTruck_78
  by_cases c6 : w = 4
  · subst c6
    refine lv_tableIn (off := 71) (tgt := 79) hx hb dX5_ofTruck_8 (by decide) (by decide) rfl (by decide) ?_
    refine lv_aload_n hx hb dX5_ofTruck_79 rfl (lv_at hl 1 rfl) ?_
    refine g5 hx hb hts hown hK hP 0 rfl 12 (by decide) flX5_56 (fun _ h => h) (v := .int (p_lay N (nI t) (-1) n 1)) rfl dX5_ofTruck_80 ?_
    have hP : va_P D vwCl (mdW cI a N P T U (us (us (us v 11 (p_lay N (nI t) (-1) n 0)) 12 (p_lay N (nI t) (-1) n 1)) 13 (p_lay N (nI t) (-1) n 2))) H := hP
    have hD : va_D (va_A (mdW cI a N P T U v) s.heap.size) (mdW cI a N P T U (us (us (us v 11 (p_lay N (nI t) (-1) n 0)) 12 (p_lay N (nI t) (-1) n 1)) 13 (p_lay N (nI t) (-1) n 2))) := hD
    exact k_eMi hx hb hr hlocks hP hS (by rfl) dX5_ofTruck_83
  by_cases c7 : w = 5
  · subst c7
    refine lv_tableIn (off := 76) (tgt := 84) hx hb dX5_ofTruck_8 (by decide) (by decide) rfl (by decide) ?_
    refine lv_aload_n hx hb dX5_ofTruck_84 rfl (lv_at hl 1 rfl) ?_
    refine g5 hx hb hts hown hK hP 0 rfl 13 (by decide) flX5_59 (fun _ h => h) (v := .int (p_lay N (nI t) (-1) n 2)) rfl dX5_ofTruck_85 ?_
    have hP : va_P D vwCl (mdW cI a N P T U (us (us (us v 11 (p_lay N (nI t) (-1) n 0)) 12 (p_lay N (nI t) (-1) n 1)) 13 (p_lay N (nI t) (-1) n 2))) H := hP
    have hD : va_D (va_A (mdW cI a N P T U v) s.heap.size) (mdW cI a N P T U (us (us (us v 11 (p_lay N (nI t) (-1) n 0)) 12 (p_lay N (nI t) (-1) n 1)) 13 (p_lay N (nI t) (-1) n 2))) := hD
    exact k_eMi hx hb hr hlocks hP hS (by rfl) dX5_ofTruck_88
  have c8 : w = 6 := by omega
  subst c8
  refine lv_tableOut (tgt := 89) hx hb dX5_ofTruck_8 (Or.inr (by decide)) (by decide) ?_
  refine lv_iload_n hx hb dX5_ofTruck_89 rfl (lv_at hl 0 rfl) ?_
  refine lv_if_eq (tgt := 97) hx hb dX5_ofTruck_90 (by decide) (fun c9 => ?_) (fun c9 => ?_)
  · have c9 := bI_eq0 c9
    refine lv_iconst (v := 0) hx hb dX5_ofTruck_97 (by decide) ?_
    have hP : va_P D vwCl (mdW cI a N P T U (us (us (us v 11 (p_lay N (nI t) (-1) n 0)) 12 (p_lay N (nI t) (-1) n 1)) 13 (p_lay N (nI t) (-1) n 2))) H := hP
    have hD : va_D (va_A (mdW cI a N P T U v) s.heap.size) (mdW cI a N P T U (us (us (us v 11 (p_lay N (nI t) (-1) n 0)) 12 (p_lay N (nI t) (-1) n 1)) 13 (p_lay N (nI t) (-1) n 2))) := hD
    exact k_eMi hx hb hr hlocks hP hS (by exact (bI_zero (by simp [p_whole, c9]))) dX5_ofTruck_98
  · have c9 := bI_ne0 c9
    refine lv_iconst (v := 1) hx hb dX5_ofTruck_93 (by decide) ?_
    refine lv_goto (tgt := 98) hx hb dX5_ofTruck_94 (by decide) ?_
    have hP : va_P D vwCl (mdW cI a N P T U (us (us (us v 11 (p_lay N (nI t) (-1) n 0)) 12 (p_lay N (nI t) (-1) n 1)) 13 (p_lay N (nI t) (-1) n 2))) H := hP
    have hD : va_D (va_A (mdW cI a N P T U v) s.heap.size) (mdW cI a N P T U (us (us (us v 11 (p_lay N (nI t) (-1) n 0)) 12 (p_lay N (nI t) (-1) n 1)) 13 (p_lay N (nI t) (-1) n 2))) := hD
    exact k_eMi hx hb hr hlocks hP hS (by exact (bI_one (by simp [p_whole, c9]))) dX5_ofTruck_98

abbrev rmX5_counted : Room := { frames := 6, cells := 0, slots := 0, locals := 136 }
set_option maxHeartbeats 4000000 in
set_option maxRecDepth 100000 in
theorem c_X5_counted (l : Launch) (D : va_G) (cI cS cL : ClassId) (a : Nat → Nat) (N : NN) (P T U v : Nat → Int32) (sz : Nat) (n w : Nat) (hn : N 1 2 = nI n) (hn14 : n ≤ 14) (hw10 : w ≤ 10) (hd0 : 0 ≤ N 1 0) : Met l yX5_counted (wy_ yX5_counted cX5_counted 2 (some .int)) rmX5_counted (kPc D (kTy cI cS cL) (mdW cI a N P T U v) sz [.ref (a 0), .int (nI w)]) (kMi D (mdW cI a N P T U v) (mdW cI a N P T U (us (us (us v 11 (m_cl N n v w 0)) 12 (m_cl N n v w 1)) 13 (m_cl N n v w 2))) sz (p_count N n (v 2) w)) 0 0 (va_A (mdW cI a N P T U v) sz) := by
  refine k_ofW (by decide) (Nat.le_of_ble_eq_true rfl) ?_
  intro p e s m args below meth c hx hb hr hml hts hown hlocks hnm hsz hP hK hD hE ls hl
  subst hsz
  have hA : ∀ q : Nat, s.heap.size ≤ q → (va_A (mdW cI a N P T U v) s.heap.size) q := fun q h => Or.inr h
  have hS : va_S (va_A (mdW cI a N P T U v) s.heap.size) s.heap s.heap [] := va_S.rf
  have hl : lv_has ls 2 [(0, .ref (a 0)), (1, .int (nI w))] := hl
  refine lv_iload_n hx hb dX5_counted_0 rfl (lv_at hl 1 rfl) ?_
  by_cases c1 : w = 3
  · subst c1
    refine lv_tableIn (off := 47) (tgt := 48) hx hb dX5_counted_1 (by decide) (by decide) rfl (by decide) ?_
    refine lv_aload_n hx hb dX5_counted_48 rfl (lv_at hl 0 rfl) ?_
    refine lv_iload_n hx hb dX5_counted_49 rfl (lv_at hl 1 rfl) ?_
    refine lv_iconst (v := 3) hx hb dX5_counted_50 (by decide) ?_
    refine lv_icmp_ne (tgt := 58) hx hb dX5_counted_51 (by decide) (fun h => absurd (by decide) h) (fun _ => ?_)
    refine lv_iconst (v := 1) hx hb dX5_counted_54 (by decide) ?_
    refine lv_goto (tgt := 68) hx hb dX5_counted_55 (by decide) ?_
    refine k_riV (As := [.int 1]) (rest := []) (wc := mdW cI a N P T U v) ⟨hx, hb, hml, hown, hts⟩ (c_X5_having l D cI cS cL a N P T U v _ n 1 hn hn14 hd0) lkX5_147 rfl rfl ⟨(Nat.le_of_ble_eq_true rfl), (Nat.le_of_ble_eq_true rfl)⟩ (va_recv hK hP (ci := 4) (q0 := 0) rfl rfl) hK hE hP hD rfl hl.1 rfl (Nat.le_of_ble_eq_true rfl) dX5_counted_68 ⟨Nat.zero_le _, Nat.zero_le _⟩ ?_
    have w2 : v = (us (us (us v 11 (m_cl N n v 3 0)) 12 (m_cl N n v 3 1)) 13 (m_cl N n v 3 2)) := by exact (m_cl_ne v (by decide)).symm
    have hP : va_P D vwCl (mdW cI a N P T U (us (us (us v 11 (m_cl N n v 3 0)) 12 (m_cl N n v 3 1)) 13 (m_cl N n v 3 2))) s.heap := (congrArg (fun zz => va_P D vwCl (mdW cI a N P T U zz) s.heap) w2).mp hP
    have hD : va_D (va_A (mdW cI a N P T U v) s.heap.size) (mdW cI a N P T U (us (us (us v 11 (m_cl N n v 3 0)) 12 (m_cl N n v 3 1)) 13 (m_cl N n v 3 2))) := (congrArg (fun zz => va_D (va_A (mdW cI a N P T U v) s.heap.size) (mdW cI a N P T U zz)) w2).mp hD
    have hP : va_P D vwCl (mdW cI a N P T U (us (us (us v 11 (m_cl N n v 3 0)) 12 (m_cl N n v 3 1)) 13 (m_cl N n v 3 2))) s.heap := hP
    have hD : va_D (va_A (mdW cI a N P T U v) s.heap.size) (mdW cI a N P T U (us (us (us v 11 (m_cl N n v 3 0)) 12 (m_cl N n v 3 1)) 13 (m_cl N n v 3 2))) := hD
    exact k_eMi hx hb hr hlocks hP hS (by exact p_hv_at1 N n) dX5_counted_71
  by_cases c3 : w = 4
  · subst c3
    refine lv_tableIn (off := 47) (tgt := 48) hx hb dX5_counted_1 (by decide) (by decide) rfl (by decide) ?_
    refine lv_aload_n hx hb dX5_counted_48 rfl (lv_at hl 0 rfl) ?_
    refine lv_iload_n hx hb dX5_counted_49 rfl (lv_at hl 1 rfl) ?_
    refine lv_iconst (v := 3) hx hb dX5_counted_50 (by decide) ?_
    refine lv_icmp_ne (tgt := 58) hx hb dX5_counted_51 (by decide) (fun _ => ?_) (fun h => absurd h (by decide))
    refine lv_iload_n hx hb dX5_counted_58 rfl (lv_at hl 1 rfl) ?_
    refine lv_iconst (v := 4) hx hb dX5_counted_59 (by decide) ?_
    refine lv_icmp_ne (tgt := 67) hx hb dX5_counted_60 (by decide) (fun h => absurd (by decide) h) (fun _ => ?_)
    refine lv_iconst (v := 0) hx hb dX5_counted_63 (by decide) ?_
    refine lv_goto (tgt := 68) hx hb dX5_counted_64 (by decide) ?_
    refine k_riV (As := [.int 0]) (rest := []) (wc := mdW cI a N P T U v) ⟨hx, hb, hml, hown, hts⟩ (c_X5_having l D cI cS cL a N P T U v _ n 0 hn hn14 hd0) lkX5_147 rfl rfl ⟨(Nat.le_of_ble_eq_true rfl), (Nat.le_of_ble_eq_true rfl)⟩ (va_recv hK hP (ci := 4) (q0 := 0) rfl rfl) hK hE hP hD rfl hl.1 rfl (Nat.le_of_ble_eq_true rfl) dX5_counted_68 ⟨Nat.zero_le _, Nat.zero_le _⟩ ?_
    have w4 : v = (us (us (us v 11 (m_cl N n v 4 0)) 12 (m_cl N n v 4 1)) 13 (m_cl N n v 4 2)) := by exact (m_cl_ne v (by decide)).symm
    have hP : va_P D vwCl (mdW cI a N P T U (us (us (us v 11 (m_cl N n v 4 0)) 12 (m_cl N n v 4 1)) 13 (m_cl N n v 4 2))) s.heap := (congrArg (fun zz => va_P D vwCl (mdW cI a N P T U zz) s.heap) w4).mp hP
    have hD : va_D (va_A (mdW cI a N P T U v) s.heap.size) (mdW cI a N P T U (us (us (us v 11 (m_cl N n v 4 0)) 12 (m_cl N n v 4 1)) 13 (m_cl N n v 4 2))) := (congrArg (fun zz => va_D (va_A (mdW cI a N P T U v) s.heap.size) (mdW cI a N P T U zz)) w4).mp hD
    have hP : va_P D vwCl (mdW cI a N P T U (us (us (us v 11 (m_cl N n v 4 0)) 12 (m_cl N n v 4 1)) 13 (m_cl N n v 4 2))) s.heap := hP
    have hD : va_D (va_A (mdW cI a N P T U v) s.heap.size) (mdW cI a N P T U (us (us (us v 11 (m_cl N n v 4 0)) 12 (m_cl N n v 4 1)) 13 (m_cl N n v 4 2))) := hD
    exact k_eMi hx hb hr hlocks hP hS (by exact p_hv_rh N n) dX5_counted_71
  by_cases c5 : w = 5
  · subst c5
    refine lv_tableIn (off := 47) (tgt := 48) hx hb dX5_counted_1 (by decide) (by decide) rfl (by decide) ?_
    refine lv_aload_n hx hb dX5_counted_48 rfl (lv_at hl 0 rfl) ?_
    refine lv_iload_n hx hb dX5_counted_49 rfl (lv_at hl 1 rfl) ?_
    refine lv_iconst (v := 3) hx hb dX5_counted_50 (by decide) ?_
    refine lv_icmp_ne (tgt := 58) hx hb dX5_counted_51 (by decide) (fun _ => ?_) (fun h => absurd h (by decide))
    refine lv_iload_n hx hb dX5_counted_58 rfl (lv_at hl 1 rfl) ?_
    refine lv_iconst (v := 4) hx hb dX5_counted_59 (by decide) ?_
    refine lv_icmp_ne (tgt := 67) hx hb dX5_counted_60 (by decide) (fun _ => ?_) (fun h => absurd h (by decide))
    refine lv_iconst (v := 2) hx hb dX5_counted_67 (by decide) ?_
    refine k_riV (As := [.int 2]) (rest := []) (wc := mdW cI a N P T U v) ⟨hx, hb, hml, hown, hts⟩ (c_X5_having l D cI cS cL a N P T U v _ n 2 hn hn14 hd0) lkX5_147 rfl rfl ⟨(Nat.le_of_ble_eq_true rfl), (Nat.le_of_ble_eq_true rfl)⟩ (va_recv hK hP (ci := 4) (q0 := 0) rfl rfl) hK hE hP hD rfl hl.1 rfl (Nat.le_of_ble_eq_true rfl) dX5_counted_68 ⟨Nat.zero_le _, Nat.zero_le _⟩ ?_
    have w6 : v = (us (us (us v 11 (m_cl N n v 5 0)) 12 (m_cl N n v 5 1)) 13 (m_cl N n v 5 2)) := by exact (m_cl_ne v (by decide)).symm
    have hP : va_P D vwCl (mdW cI a N P T U (us (us (us v 11 (m_cl N n v 5 0)) 12 (m_cl N n v 5 1)) 13 (m_cl N n v 5 2))) s.heap := (congrArg (fun zz => va_P D vwCl (mdW cI a N P T U zz) s.heap) w6).mp hP
    have hD : va_D (va_A (mdW cI a N P T U v) s.heap.size) (mdW cI a N P T U (us (us (us v 11 (m_cl N n v 5 0)) 12 (m_cl N n v 5 1)) 13 (m_cl N n v 5 2))) := (congrArg (fun zz => va_D (va_A (mdW cI a N P T U v) s.heap.size) (mdW cI a N P T U zz)) w6).mp hD
    have hP : va_P D vwCl (mdW cI a N P T U (us (us (us v 11 (m_cl N n v 5 0)) 12 (m_cl N n v 5 1)) 13 (m_cl N n v 5 2))) s.heap := hP
    have hD : va_D (va_A (mdW cI a N P T U v) s.heap.size) (mdW cI a N P T U (us (us (us v 11 (m_cl N n v 5 0)) 12 (m_cl N n v 5 1)) 13 (m_cl N n v 5 2))) := hD
    exact k_eMi hx hb hr hlocks hP hS (by exact p_hv_at2 N n) dX5_counted_71
  by_cases c7 : w = 6
  · subst c7
    refine lv_tableIn (off := 71) (tgt := 72) hx hb dX5_counted_1 (by decide) (by decide) rfl (by decide) ?_
    refine lv_aload_n hx hb dX5_counted_72 rfl (lv_at hl 0 rfl) ?_
    refine lv_iconst (v := 0) hx hb dX5_counted_73 (by decide) ?_
    refine lv_bipush (v := 6) hx hb dX5_counted_74 (by decide) ?_
    refine k_miV (As := [.int (nI 0), .int (nI 6)]) (rest := []) (w1 := []) (wc := mdW cI a N P T U v) (wc' := mdW cI a N P T U (us (us (us v 11 (p_lay N (nI 0) (-1) n 0)) 12 (p_lay N (nI 0) (-1) n 1)) 13 (p_lay N (nI 0) (-1) n 2))) (w3 := []) ⟨hx, hb, hml, hown, hts⟩ (c_X5_ofTruck l D cI cS cL a N P T U v _ n 0 6 hn hn14 (by omega) (by omega) hd0) lkX5_144 rfl rfl ⟨(Nat.le_of_ble_eq_true rfl), (Nat.le_of_ble_eq_true rfl)⟩ (va_recv hK hP (ci := 4) (q0 := 0) rfl rfl) hK hE hP hD hS hA rfl rfl hl.1 rfl (Nat.le_of_ble_eq_true rfl) dX5_counted_76 ⟨Nat.zero_le _, Nat.zero_le _⟩ (fun H locs hzz hP hD hS => ?_)
    have hP : va_P D vwCl (mdW cI a N P T U (us (us (us v 11 (p_lay N (nI 0) (-1) n 0)) 12 (p_lay N (nI 0) (-1) n 1)) 13 (p_lay N (nI 0) (-1) n 2))) H := hP
    have hD : va_D (va_A (mdW cI a N P T U v) s.heap.size) (mdW cI a N P T U (us (us (us v 11 (p_lay N (nI 0) (-1) n 0)) 12 (p_lay N (nI 0) (-1) n 1)) 13 (p_lay N (nI 0) (-1) n 2))) := hD
    refine lv_aload_n hx hb dX5_counted_79 rfl (lv_at hl 0 rfl) ?_
    refine lv_iconst (v := 1) hx hb dX5_counted_80 (by decide) ?_
    refine lv_bipush (v := 6) hx hb dX5_counted_81 (by decide) ?_
    refine k_miV (As := [.int (nI 1), .int (nI 6)]) (rest := [.int (p_truck N n 0 6)]) (w1 := []) (wc := mdW cI a N P T U (us (us (us v 11 (p_lay N (nI 0) (-1) n 0)) 12 (p_lay N (nI 0) (-1) n 1)) 13 (p_lay N (nI 0) (-1) n 2))) (wc' := mdW cI a N P T U (us (us (us v 11 (p_lay N (nI 1) (-1) n 0)) 12 (p_lay N (nI 1) (-1) n 1)) 13 (p_lay N (nI 1) (-1) n 2))) (w3 := []) ⟨hx, hb, hml, hown, hts⟩ (c_X5_ofTruck l D cI cS cL a N P T U (us (us (us v 11 (p_lay N (nI 0) (-1) n 0)) 12 (p_lay N (nI 0) (-1) n 1)) 13 (p_lay N (nI 0) (-1) n 2)) _ n 1 6 hn hn14 (by omega) (by omega) hd0) lkX5_144 rfl rfl ⟨(Nat.le_of_ble_eq_true rfl), (Nat.le_of_ble_eq_true rfl)⟩ (va_recv hK hP (ci := 4) (q0 := 0) rfl rfl) hK hE hP hD hS hA rfl rfl hl.1 rfl (Nat.le_of_ble_eq_true rfl) dX5_counted_83 ⟨Nat.zero_le _, Nat.zero_le _⟩ (fun H locs hzz hP hD hS => ?_)
    have hP : va_P D vwCl (mdW cI a N P T U (us (us (us v 11 (p_lay N (nI 1) (-1) n 0)) 12 (p_lay N (nI 1) (-1) n 1)) 13 (p_lay N (nI 1) (-1) n 2))) H := hP
    have hD : va_D (va_A (mdW cI a N P T U v) s.heap.size) (mdW cI a N P T U (us (us (us v 11 (p_lay N (nI 1) (-1) n 0)) 12 (p_lay N (nI 1) (-1) n 1)) 13 (p_lay N (nI 1) (-1) n 2))) := hD
    refine lv_iadd hx hb dX5_counted_86 (lv_topi (fun x8 e8 => ?_))
    have q8 : x8 = p_truck N n 0 6 + p_truck N n 1 6 := by rw [e8]; skip
    subst q8
    refine lv_aload_n hx hb dX5_counted_87 rfl (lv_at hl 0 rfl) ?_
    refine lv_iconst (v := 2) hx hb dX5_counted_88 (by decide) ?_
    refine lv_bipush (v := 6) hx hb dX5_counted_89 (by decide) ?_
    refine k_miV (As := [.int (nI 2), .int (nI 6)]) (rest := [.int (p_truck N n 0 6 + p_truck N n 1 6)]) (w1 := []) (wc := mdW cI a N P T U (us (us (us v 11 (p_lay N (nI 1) (-1) n 0)) 12 (p_lay N (nI 1) (-1) n 1)) 13 (p_lay N (nI 1) (-1) n 2))) (wc' := mdW cI a N P T U (us (us (us v 11 (p_lay N (nI 2) (-1) n 0)) 12 (p_lay N (nI 2) (-1) n 1)) 13 (p_lay N (nI 2) (-1) n 2))) (w3 := []) ⟨hx, hb, hml, hown, hts⟩ (c_X5_ofTruck l D cI cS cL a N P T U (us (us (us v 11 (p_lay N (nI 1) (-1) n 0)) 12 (p_lay N (nI 1) (-1) n 1)) 13 (p_lay N (nI 1) (-1) n 2)) _ n 2 6 hn hn14 (by omega) (by omega) hd0) lkX5_144 rfl rfl ⟨(Nat.le_of_ble_eq_true rfl), (Nat.le_of_ble_eq_true rfl)⟩ (va_recv hK hP (ci := 4) (q0 := 0) rfl rfl) hK hE hP hD hS hA rfl rfl hl.1 rfl (Nat.le_of_ble_eq_true rfl) dX5_counted_91 ⟨Nat.zero_le _, Nat.zero_le _⟩ (fun H locs hzz hP hD hS => ?_)
    have hP : va_P D vwCl (mdW cI a N P T U (us (us (us v 11 (p_lay N (nI 2) (-1) n 0)) 12 (p_lay N (nI 2) (-1) n 1)) 13 (p_lay N (nI 2) (-1) n 2))) H := hP
    have hD : va_D (va_A (mdW cI a N P T U v) s.heap.size) (mdW cI a N P T U (us (us (us v 11 (p_lay N (nI 2) (-1) n 0)) 12 (p_lay N (nI 2) (-1) n 1)) 13 (p_lay N (nI 2) (-1) n 2))) := hD
    refine lv_iadd hx hb dX5_counted_94 (lv_topi (fun x9 e9 => ?_))
    have q9 : x9 = p_truck N n 0 6 + p_truck N n 1 6 + p_truck N n 2 6 := by rw [e9]; skip
    subst q9
    have hP : va_P D vwCl (mdW cI a N P T U (us (us (us v 11 (m_cl N n v 6 0)) 12 (m_cl N n v 6 1)) 13 (m_cl N n v 6 2))) H := hP
    have hD : va_D (va_A (mdW cI a N P T U v) s.heap.size) (mdW cI a N P T U (us (us (us v 11 (m_cl N n v 6 0)) 12 (m_cl N n v 6 1)) 13 (m_cl N n v 6 2))) := hD
    exact k_eMi hx hb hr hlocks hP hS (by exact p_tr3 N n) dX5_counted_95
  by_cases c11 : w = 7
  · subst c11
    refine lv_tableIn (off := 95) (tgt := 96) hx hb dX5_counted_1 (by decide) (by decide) rfl (by decide) ?_
    refine lv_aload_n hx hb dX5_counted_96 rfl (lv_at hl 0 rfl) ?_
    refine g5 hx hb hts hown hK hP 0 rfl 0 (by decide) flX5_7 (fun _ h => h) (v := .ref (a 1)) rfl dX5_counted_97 ?_
    refine lv_bipush (v := 6) hx hb dX5_counted_100 (by decide) ?_
    refine lv_iload_n hx hb dX5_counted_102 rfl (lv_at hl 1 rfl) ?_
    refine lv_iadd hx hb dX5_counted_103 (lv_topi (fun x12 e12 => ?_))
    have q12 : x12 = nI 13 := by rw [e12]; rfl
    subst q12
    refine lv_bipush (v := 7) hx hb dX5_counted_104 (by decide) ?_
    refine lv_isub hx hb dX5_counted_106 (lv_topi (fun x13 e13 => ?_))
    have q13 : x13 = nI 6 := by rw [e13]; rfl
    subst q13
    refine k_ald (k := 6) hx hb hK hP 1 0 rfl rfl rfl (by decide) (by decide) dX5_counted_107 ?_
    rw [show flat N (6) = N 1 3 from rfl]
    have w14 : v = (us (us (us v 11 (m_cl N n v 7 0)) 12 (m_cl N n v 7 1)) 13 (m_cl N n v 7 2)) := by exact (m_cl_ne v (by decide)).symm
    have hP : va_P D vwCl (mdW cI a N P T U (us (us (us v 11 (m_cl N n v 7 0)) 12 (m_cl N n v 7 1)) 13 (m_cl N n v 7 2))) s.heap := (congrArg (fun zz => va_P D vwCl (mdW cI a N P T U zz) s.heap) w14).mp hP
    have hD : va_D (va_A (mdW cI a N P T U v) s.heap.size) (mdW cI a N P T U (us (us (us v 11 (m_cl N n v 7 0)) 12 (m_cl N n v 7 1)) 13 (m_cl N n v 7 2))) := (congrArg (fun zz => va_D (va_A (mdW cI a N P T U v) s.heap.size) (mdW cI a N P T U zz)) w14).mp hD
    have hP : va_P D vwCl (mdW cI a N P T U (us (us (us v 11 (m_cl N n v 7 0)) 12 (m_cl N n v 7 1)) 13 (m_cl N n v 7 2))) s.heap := hP
    have hD : va_D (va_A (mdW cI a N P T U v) s.heap.size) (mdW cI a N P T U (us (us (us v 11 (m_cl N n v 7 0)) 12 (m_cl N n v 7 1)) 13 (m_cl N n v 7 2))) := hD
    exact k_eMi hx hb hr hlocks hP hS (by rfl) dX5_counted_108
  by_cases c15 : w = 8
  · subst c15
    refine lv_tableIn (off := 95) (tgt := 96) hx hb dX5_counted_1 (by decide) (by decide) rfl (by decide) ?_
    refine lv_aload_n hx hb dX5_counted_96 rfl (lv_at hl 0 rfl) ?_
    refine g5 hx hb hts hown hK hP 0 rfl 0 (by decide) flX5_7 (fun _ h => h) (v := .ref (a 1)) rfl dX5_counted_97 ?_
    refine lv_bipush (v := 6) hx hb dX5_counted_100 (by decide) ?_
    refine lv_iload_n hx hb dX5_counted_102 rfl (lv_at hl 1 rfl) ?_
    refine lv_iadd hx hb dX5_counted_103 (lv_topi (fun x16 e16 => ?_))
    have q16 : x16 = nI 14 := by rw [e16]; rfl
    subst q16
    refine lv_bipush (v := 7) hx hb dX5_counted_104 (by decide) ?_
    refine lv_isub hx hb dX5_counted_106 (lv_topi (fun x17 e17 => ?_))
    have q17 : x17 = nI 7 := by rw [e17]; rfl
    subst q17
    refine k_ald (k := 7) hx hb hK hP 1 0 rfl rfl rfl (by decide) (by decide) dX5_counted_107 ?_
    rw [show flat N (7) = N 1 4 from rfl]
    have w18 : v = (us (us (us v 11 (m_cl N n v 8 0)) 12 (m_cl N n v 8 1)) 13 (m_cl N n v 8 2)) := by exact (m_cl_ne v (by decide)).symm
    have hP : va_P D vwCl (mdW cI a N P T U (us (us (us v 11 (m_cl N n v 8 0)) 12 (m_cl N n v 8 1)) 13 (m_cl N n v 8 2))) s.heap := (congrArg (fun zz => va_P D vwCl (mdW cI a N P T U zz) s.heap) w18).mp hP
    have hD : va_D (va_A (mdW cI a N P T U v) s.heap.size) (mdW cI a N P T U (us (us (us v 11 (m_cl N n v 8 0)) 12 (m_cl N n v 8 1)) 13 (m_cl N n v 8 2))) := (congrArg (fun zz => va_D (va_A (mdW cI a N P T U v) s.heap.size) (mdW cI a N P T U zz)) w18).mp hD
    have hP : va_P D vwCl (mdW cI a N P T U (us (us (us v 11 (m_cl N n v 8 0)) 12 (m_cl N n v 8 1)) 13 (m_cl N n v 8 2))) s.heap := hP
    have hD : va_D (va_A (mdW cI a N P T U v) s.heap.size) (mdW cI a N P T U (us (us (us v 11 (m_cl N n v 8 0)) 12 (m_cl N n v 8 1)) 13 (m_cl N n v 8 2))) := hD
    exact k_eMi hx hb hr hlocks hP hS (by rfl) dX5_counted_108
  by_cases c19 : w = 9
  · subst c19
    refine lv_tableIn (off := 95) (tgt := 96) hx hb dX5_counted_1 (by decide) (by decide) rfl (by decide) ?_
    refine lv_aload_n hx hb dX5_counted_96 rfl (lv_at hl 0 rfl) ?_
    refine g5 hx hb hts hown hK hP 0 rfl 0 (by decide) flX5_7 (fun _ h => h) (v := .ref (a 1)) rfl dX5_counted_97 ?_
    refine lv_bipush (v := 6) hx hb dX5_counted_100 (by decide) ?_
    refine lv_iload_n hx hb dX5_counted_102 rfl (lv_at hl 1 rfl) ?_
    refine lv_iadd hx hb dX5_counted_103 (lv_topi (fun x20 e20 => ?_))
    have q20 : x20 = nI 15 := by rw [e20]; rfl
    subst q20
    refine lv_bipush (v := 7) hx hb dX5_counted_104 (by decide) ?_
    refine lv_isub hx hb dX5_counted_106 (lv_topi (fun x21 e21 => ?_))
    have q21 : x21 = nI 8 := by rw [e21]; rfl
    subst q21
    refine k_ald (k := 8) hx hb hK hP 1 0 rfl rfl rfl (by decide) (by decide) dX5_counted_107 ?_
    rw [show flat N (8) = N 1 5 from rfl]
    have w22 : v = (us (us (us v 11 (m_cl N n v 9 0)) 12 (m_cl N n v 9 1)) 13 (m_cl N n v 9 2)) := by exact (m_cl_ne v (by decide)).symm
    have hP : va_P D vwCl (mdW cI a N P T U (us (us (us v 11 (m_cl N n v 9 0)) 12 (m_cl N n v 9 1)) 13 (m_cl N n v 9 2))) s.heap := (congrArg (fun zz => va_P D vwCl (mdW cI a N P T U zz) s.heap) w22).mp hP
    have hD : va_D (va_A (mdW cI a N P T U v) s.heap.size) (mdW cI a N P T U (us (us (us v 11 (m_cl N n v 9 0)) 12 (m_cl N n v 9 1)) 13 (m_cl N n v 9 2))) := (congrArg (fun zz => va_D (va_A (mdW cI a N P T U v) s.heap.size) (mdW cI a N P T U zz)) w22).mp hD
    have hP : va_P D vwCl (mdW cI a N P T U (us (us (us v 11 (m_cl N n v 9 0)) 12 (m_cl N n v 9 1)) 13 (m_cl N n v 9 2))) s.heap := hP
    have hD : va_D (va_A (mdW cI a N P T U v) s.heap.size) (mdW cI a N P T U (us (us (us v 11 (m_cl N n v 9 0)) 12 (m_cl N n v 9 1)) 13 (m_cl N n v 9 2))) := hD
    exact k_eMi hx hb hr hlocks hP hS (by rfl) dX5_counted_108
  by_cases c23 : w = 10
  · subst c23
    refine lv_tableIn (off := 108) (tgt := 109) hx hb dX5_counted_1 (by decide) (by decide) rfl (by decide) ?_
    refine lv_aload_n hx hb dX5_counted_109 rfl (lv_at hl 0 rfl) ?_
    refine g5 hx hb hts hown hK hP 0 rfl 2 (by decide) flX5_30 (fun _ h => h) (v := .int (v 2)) rfl dX5_counted_110 ?_
    have w24 : v = (us (us (us v 11 (m_cl N n v 10 0)) 12 (m_cl N n v 10 1)) 13 (m_cl N n v 10 2)) := by exact (m_cl_ne v (by decide)).symm
    have hP : va_P D vwCl (mdW cI a N P T U (us (us (us v 11 (m_cl N n v 10 0)) 12 (m_cl N n v 10 1)) 13 (m_cl N n v 10 2))) s.heap := (congrArg (fun zz => va_P D vwCl (mdW cI a N P T U zz) s.heap) w24).mp hP
    have hD : va_D (va_A (mdW cI a N P T U v) s.heap.size) (mdW cI a N P T U (us (us (us v 11 (m_cl N n v 10 0)) 12 (m_cl N n v 10 1)) 13 (m_cl N n v 10 2))) := (congrArg (fun zz => va_D (va_A (mdW cI a N P T U v) s.heap.size) (mdW cI a N P T U zz)) w24).mp hD
    have hP : va_P D vwCl (mdW cI a N P T U (us (us (us v 11 (m_cl N n v 10 0)) 12 (m_cl N n v 10 1)) 13 (m_cl N n v 10 2))) s.heap := hP
    have hD : va_D (va_A (mdW cI a N P T U v) s.heap.size) (mdW cI a N P T U (us (us (us v 11 (m_cl N n v 10 0)) 12 (m_cl N n v 10 1)) 13 (m_cl N n v 10 2))) := hD
    exact k_eMi hx hb hr hlocks hP hS (by rfl) dX5_counted_113
  by_cases c25 : w = 0
  · subst c25
    refine lv_tableOut (tgt := 114) hx hb dX5_counted_1 (Or.inl (by decide)) (by decide) ?_
    refine lv_aload_n hx hb dX5_counted_114 rfl (lv_at hl 0 rfl) ?_
    refine g5 hx hb hts hown hK hP 0 rfl 0 (by decide) flX5_7 (fun _ h => h) (v := .ref (a 1)) rfl dX5_counted_115 ?_
    refine lv_iconst (v := 3) hx hb dX5_counted_118 (by decide) ?_
    refine lv_iload_n hx hb dX5_counted_119 rfl (lv_at hl 1 rfl) ?_
    refine lv_iadd hx hb dX5_counted_120 (lv_topi (fun x26 e26 => ?_))
    have q26 : x26 = nI 3 := by rw [e26]; rfl
    subst q26
    refine k_ald (k := 3) hx hb hK hP 1 0 rfl rfl rfl (by decide) (by decide) dX5_counted_121 ?_
    rw [show flat N (3) = N 1 0 from rfl]
    have w27 : v = (us (us (us v 11 (m_cl N n v 0 0)) 12 (m_cl N n v 0 1)) 13 (m_cl N n v 0 2)) := by exact (m_cl_ne v (by decide)).symm
    have hP : va_P D vwCl (mdW cI a N P T U (us (us (us v 11 (m_cl N n v 0 0)) 12 (m_cl N n v 0 1)) 13 (m_cl N n v 0 2))) s.heap := (congrArg (fun zz => va_P D vwCl (mdW cI a N P T U zz) s.heap) w27).mp hP
    have hD : va_D (va_A (mdW cI a N P T U v) s.heap.size) (mdW cI a N P T U (us (us (us v 11 (m_cl N n v 0 0)) 12 (m_cl N n v 0 1)) 13 (m_cl N n v 0 2))) := (congrArg (fun zz => va_D (va_A (mdW cI a N P T U v) s.heap.size) (mdW cI a N P T U zz)) w27).mp hD
    have hP : va_P D vwCl (mdW cI a N P T U (us (us (us v 11 (m_cl N n v 0 0)) 12 (m_cl N n v 0 1)) 13 (m_cl N n v 0 2))) s.heap := hP
    have hD : va_D (va_A (mdW cI a N P T U v) s.heap.size) (mdW cI a N P T U (us (us (us v 11 (m_cl N n v 0 0)) 12 (m_cl N n v 0 1)) 13 (m_cl N n v 0 2))) := hD
    exact k_eMi hx hb hr hlocks hP hS (by rfl) dX5_counted_122
  by_cases c28 : w = 1
  · subst c28
    refine lv_tableOut (tgt := 114) hx hb dX5_counted_1 (Or.inl (by decide)) (by decide) ?_
    refine lv_aload_n hx hb dX5_counted_114 rfl (lv_at hl 0 rfl) ?_
    refine g5 hx hb hts hown hK hP 0 rfl 0 (by decide) flX5_7 (fun _ h => h) (v := .ref (a 1)) rfl dX5_counted_115 ?_
    refine lv_iconst (v := 3) hx hb dX5_counted_118 (by decide) ?_
    refine lv_iload_n hx hb dX5_counted_119 rfl (lv_at hl 1 rfl) ?_
    refine lv_iadd hx hb dX5_counted_120 (lv_topi (fun x29 e29 => ?_))
    have q29 : x29 = nI 4 := by rw [e29]; rfl
    subst q29
    refine k_ald (k := 4) hx hb hK hP 1 0 rfl rfl rfl (by decide) (by decide) dX5_counted_121 ?_
    rw [show flat N (4) = N 1 1 from rfl]
    have w30 : v = (us (us (us v 11 (m_cl N n v 1 0)) 12 (m_cl N n v 1 1)) 13 (m_cl N n v 1 2)) := by exact (m_cl_ne v (by decide)).symm
    have hP : va_P D vwCl (mdW cI a N P T U (us (us (us v 11 (m_cl N n v 1 0)) 12 (m_cl N n v 1 1)) 13 (m_cl N n v 1 2))) s.heap := (congrArg (fun zz => va_P D vwCl (mdW cI a N P T U zz) s.heap) w30).mp hP
    have hD : va_D (va_A (mdW cI a N P T U v) s.heap.size) (mdW cI a N P T U (us (us (us v 11 (m_cl N n v 1 0)) 12 (m_cl N n v 1 1)) 13 (m_cl N n v 1 2))) := (congrArg (fun zz => va_D (va_A (mdW cI a N P T U v) s.heap.size) (mdW cI a N P T U zz)) w30).mp hD
    have hP : va_P D vwCl (mdW cI a N P T U (us (us (us v 11 (m_cl N n v 1 0)) 12 (m_cl N n v 1 1)) 13 (m_cl N n v 1 2))) s.heap := hP
    have hD : va_D (va_A (mdW cI a N P T U v) s.heap.size) (mdW cI a N P T U (us (us (us v 11 (m_cl N n v 1 0)) 12 (m_cl N n v 1 1)) 13 (m_cl N n v 1 2))) := hD
    exact k_eMi hx hb hr hlocks hP hS (by rfl) dX5_counted_122
  have c31 : w = 2 := by omega
  subst c31
  refine lv_tableOut (tgt := 114) hx hb dX5_counted_1 (Or.inl (by decide)) (by decide) ?_
  refine lv_aload_n hx hb dX5_counted_114 rfl (lv_at hl 0 rfl) ?_
  refine g5 hx hb hts hown hK hP 0 rfl 0 (by decide) flX5_7 (fun _ h => h) (v := .ref (a 1)) rfl dX5_counted_115 ?_
  refine lv_iconst (v := 3) hx hb dX5_counted_118 (by decide) ?_
  refine lv_iload_n hx hb dX5_counted_119 rfl (lv_at hl 1 rfl) ?_
  refine lv_iadd hx hb dX5_counted_120 (lv_topi (fun x32 e32 => ?_))
  have q32 : x32 = nI 5 := by rw [e32]; rfl
  subst q32
  refine k_ald (k := 5) hx hb hK hP 1 0 rfl rfl rfl (by decide) (by decide) dX5_counted_121 ?_
  rw [show flat N (5) = N 1 2 from rfl]
  have w33 : v = (us (us (us v 11 (m_cl N n v 2 0)) 12 (m_cl N n v 2 1)) 13 (m_cl N n v 2 2)) := by exact (m_cl_ne v (by decide)).symm
  have hP : va_P D vwCl (mdW cI a N P T U (us (us (us v 11 (m_cl N n v 2 0)) 12 (m_cl N n v 2 1)) 13 (m_cl N n v 2 2))) s.heap := (congrArg (fun zz => va_P D vwCl (mdW cI a N P T U zz) s.heap) w33).mp hP
  have hD : va_D (va_A (mdW cI a N P T U v) s.heap.size) (mdW cI a N P T U (us (us (us v 11 (m_cl N n v 2 0)) 12 (m_cl N n v 2 1)) 13 (m_cl N n v 2 2))) := (congrArg (fun zz => va_D (va_A (mdW cI a N P T U v) s.heap.size) (mdW cI a N P T U zz)) w33).mp hD
  have hP : va_P D vwCl (mdW cI a N P T U (us (us (us v 11 (m_cl N n v 2 0)) 12 (m_cl N n v 2 1)) 13 (m_cl N n v 2 2))) s.heap := hP
  have hD : va_D (va_A (mdW cI a N P T U v) s.heap.size) (mdW cI a N P T U (us (us (us v 11 (m_cl N n v 2 0)) 12 (m_cl N n v 2 1)) 13 (m_cl N n v 2 2))) := hD
  exact k_eMi hx hb hr hlocks hP hS (by rfl) dX5_counted_122
