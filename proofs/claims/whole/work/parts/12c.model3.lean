abbrev rmX5_cheapest : Room := { frames := 5, cells := 0, slots := 0, locals := 113 }
set_option maxHeartbeats 4000000 in
set_option maxRecDepth 100000 in
theorem c_X5_cheapest (l : Launch) (D : va_G) (cI cS cL : ClassId) (a : Nat → Nat) (N : NN) (P T U v : Nat → Int32) (sz : Nat) (n t : Nat) (hn : N 1 2 = nI n) (hn14 : n ≤ 14) (ht : t < 3) (hd0 : 0 ≤ N 1 0) (hkds : ∀ j, j < n → kdOk (N 3 j)) : Met l yX5_cheapest (wy_ yX5_cheapest cX5_cheapest 6 (some .int)) rmX5_cheapest (kPc D (kTy cI cS cL) (mdW cI a N P T U v) sz [.ref (a 0), .int (nI t)]) (kMi D (mdW cI a N P T U v) (mdW cI a N P T U (us (us (us v 11 (p_helpv N t n 0)) 12 (p_helpv N t n 1)) 13 (p_helpv N t n 2))) sz (p_help N t n)) 0 0 (va_A (mdW cI a N P T U v) sz) := by
  refine k_ofW (by decide) (Nat.le_of_ble_eq_true rfl) ?_
  intro p e s m args below meth c hx hb hr hml hts hown hlocks hnm hsz hP hK hD hE ls hl
  subst hsz
  have hA : ∀ q : Nat, s.heap.size ≤ q → (va_A (mdW cI a N P T U v) s.heap.size) q := fun q h => Or.inr h
  have hS : va_S (va_A (mdW cI a N P T U v) s.heap.size) s.heap s.heap [] := va_S.rf
  have hl : lv_has ls 6 [(0, .ref (a 0)), (1, .int (nI t))] := hl
  refine lv_iconst (v := (-1)) hx hb dX5_cheapest_0 (by decide) ?_
  refine lv_istore_n (lv' := [(2, .int (-1)), (0, .ref (a 0)), (1, .int (nI t))]) hx hb dX5_cheapest_1 rfl hl (by decide) rfl (fun ls hl => ?_)
  refine lv_aload_n hx hb dX5_cheapest_2 rfl (lv_at hl 1 rfl) ?_
  refine lv_iload_n hx hb dX5_cheapest_3 rfl (lv_at hl 2 rfl) ?_
  refine lv_iconst (v := (-1)) hx hb dX5_cheapest_4 (by decide) ?_
  refine k_miV (As := [.int (nI t), .int (-1)]) (rest := []) (w1 := []) (wc := mdW cI a N P T U v) (wc' := mdW cI a N P T U (us (us (us v 11 (p_lay N (nI t) (-1) n 0)) 12 (p_lay N (nI t) (-1) n 1)) 13 (p_lay N (nI t) (-1) n 2))) (w3 := []) ⟨hx, hb, hml, hown, hts⟩ (c_X5_isWhole l D cI cS cL a N P T U v _ n t (-1) hn hn14 (by omega) hd0) lkX5_137 rfl rfl ⟨(Nat.le_of_ble_eq_true rfl), (Nat.le_of_ble_eq_true rfl)⟩ (va_recv hK hP (ci := 4) (q0 := 0) rfl rfl) hK hE hP hD hS hA rfl rfl hl.1 rfl (Nat.le_of_ble_eq_true rfl) dX5_cheapest_5 ⟨Nat.zero_le _, Nat.zero_le _⟩ (fun H locs hzz hP hD hS => ?_)
  have hP : va_P D vwCl (mdW cI a N P T U (us (us (us v 11 (p_lay N (nI t) (-1) n 0)) 12 (p_lay N (nI t) (-1) n 1)) 13 (p_lay N (nI t) (-1) n 2))) H := hP
  have hD : va_D (va_A (mdW cI a N P T U v) s.heap.size) (mdW cI a N P T U (us (us (us v 11 (p_lay N (nI t) (-1) n 0)) 12 (p_lay N (nI t) (-1) n 1)) 13 (p_lay N (nI t) (-1) n 2))) := hD
  refine lv_istore_n (lv' := [(3, .int (bI (decide (N 2 t ≤ p_lay N (nI t) (-1) n 0)))), (2, .int (-1)), (0, .ref (a 0)), (1, .int (nI t))]) hx hb dX5_cheapest_8 rfl hl (by decide) rfl (fun ls hl => ?_)
  refine lv_iconst (v := 0) hx hb dX5_cheapest_9 (by decide) ?_
  refine lv_istore (lv' := [(4, .int 0), (3, .int (bI (decide (N 2 t ≤ p_lay N (nI t) (-1) n 0)))), (2, .int (-1)), (0, .ref (a 0)), (1, .int (nI t))]) hx hb dX5_cheapest_10 hl (by decide) rfl (fun ls hl => ?_)
  have L1 : ∀ (f k : Nat), k ≤ n → n - k < f → (hwh : k = 0 ∨ ¬ N 2 t ≤ p_lay N (nI t) (-1) n 0) → ∀ (H : Heap) (locs : List Loc), va_P D vwCl (mdW cI a N P T U (us (us (us v 11 (p_chv N t n k 0)) 12 (p_chv N t n k 1)) 13 (p_chv N t n k 2))) H → va_D (va_A (mdW cI a N P T U v) s.heap.size) (mdW cI a N P T U (us (us (us v 11 (p_chv N t n k 0)) 12 (p_chv N t n k 1)) 13 (p_chv N t n k 2))) → va_S (va_A (mdW cI a N P T U v) s.heap.size) s.heap H locs → s.heap.size ≤ H.size → ∀ ls : Array Slot, lv_has ls 6 [(0, .ref (a 0)), (1, .int (nI t)), (2, .int (p_ch N t n k)), (3, .int (bI (decide (N 2 t ≤ p_lay N (nI t) (-1) n 0)))), (4, .int (nI k))] → W p l e rmX5_cheapest s m args below meth c H locs 0 0 (MQ below (kMi D (mdW cI a N P T U v) (mdW cI a N P T U (us (us (us v 11 (p_helpv N t n 0)) 12 (p_helpv N t n 1)) 13 (p_helpv N t n 2))) s.heap.size (p_help N t n)) args s 0 0 (va_A (mdW cI a N P T U v) s.heap.size)) (F0 m 12 ls []) := by
    intro f
    induction f with
    | zero => intro k hv1 hv2; exact absurd hv2 (Nat.not_lt_zero _)
    | succ f ih =>
      intro k hv1 hv2 hwh H locs hP hD hS hz ls hl
      refine lv_iload hx hb dX5_cheapest_12 (lv_at hl 4 rfl) ?_
      refine lv_aload_n hx hb dX5_cheapest_14 rfl (lv_at hl 0 rfl) ?_
      refine g5 hx hb hts hown hK hP 0 rfl 0 (by decide) flX5_7 (fun _ h => h) (v := .ref (a 1)) rfl dX5_cheapest_15 ?_
      refine lv_iconst (v := 5) hx hb dX5_cheapest_18 (by decide) ?_
      refine k_ald (k := 5) hx hb hK hP 1 0 rfl rfl rfl (by decide) (by decide) dX5_cheapest_19 ?_
      rw [show flat N (5) = N 1 2 from rfl]
      rw [show N 1 2 = nI n from hn]
      refine lv_icmp_ge (tgt := 123) hx hb dX5_cheapest_20 (by decide) (fun c2 => ?_) (fun c2 => ?_)
      · have c2' := Int32.not_lt.mpr c2
        have hkn : n = k := (k_exit (by omega) hv1 c2).symm
        subst hkn
        refine lv_iload_n hx hb dX5_cheapest_123 rfl (lv_at hl 2 rfl) ?_
        have w3 : (us (us (us v 11 (p_chv N t n n 0)) 12 (p_chv N t n n 1)) 13 (p_chv N t n n 2)) = (us (us (us v 11 (p_helpv N t n 0)) 12 (p_helpv N t n 1)) 13 (p_helpv N t n 2)) := by rw [ch_v1 hwh]
        have hP : va_P D vwCl (mdW cI a N P T U (us (us (us v 11 (p_helpv N t n 0)) 12 (p_helpv N t n 1)) 13 (p_helpv N t n 2))) H := (congrArg (fun zz => va_P D vwCl (mdW cI a N P T U zz) H) w3).mp hP
        have hD : va_D (va_A (mdW cI a N P T U v) s.heap.size) (mdW cI a N P T U (us (us (us v 11 (p_helpv N t n 0)) 12 (p_helpv N t n 1)) 13 (p_helpv N t n 2))) := (congrArg (fun zz => va_D (va_A (mdW cI a N P T U v) s.heap.size) (mdW cI a N P T U zz)) w3).mp hD
        have hP : va_P D vwCl (mdW cI a N P T U (us (us (us v 11 (p_helpv N t n 0)) 12 (p_helpv N t n 1)) 13 (p_helpv N t n 2))) H := hP
        have hD : va_D (va_A (mdW cI a N P T U v) s.heap.size) (mdW cI a N P T U (us (us (us v 11 (p_helpv N t n 0)) 12 (p_helpv N t n 1)) 13 (p_helpv N t n 2))) := hD
        exact k_eMi hx hb hr hlocks hP hS (by exact ch_end1 hwh) dX5_cheapest_124
      · have c2' := Int32.not_le.mp c2
        have hkn : k < n := k_more (by omega) hv1 c2
        refine lv_iload_n hx hb dX5_cheapest_23 rfl (lv_at hl 3 rfl) ?_
        refine lv_if_ne (tgt := 123) hx hb dX5_cheapest_24 (by decide) (fun c4 => ?_) (fun c4 => ?_)
        · have c4 := bI_ne0 c4
          have hk0 : k = 0 := hwh.resolve_right (fun h => h c4)
          have hwd := c4
          refine lv_iload_n hx hb dX5_cheapest_123 rfl (lv_at hl 2 rfl) ?_
          have w5 : (us (us (us v 11 (p_chv N t n k 0)) 12 (p_chv N t n k 1)) 13 (p_chv N t n k 2)) = (us (us (us v 11 (p_helpv N t n 0)) 12 (p_helpv N t n 1)) 13 (p_helpv N t n 2)) := by rw [ch_v2 hwd hk0]
          have hP : va_P D vwCl (mdW cI a N P T U (us (us (us v 11 (p_helpv N t n 0)) 12 (p_helpv N t n 1)) 13 (p_helpv N t n 2))) H := (congrArg (fun zz => va_P D vwCl (mdW cI a N P T U zz) H) w5).mp hP
          have hD : va_D (va_A (mdW cI a N P T U v) s.heap.size) (mdW cI a N P T U (us (us (us v 11 (p_helpv N t n 0)) 12 (p_helpv N t n 1)) 13 (p_helpv N t n 2))) := (congrArg (fun zz => va_D (va_A (mdW cI a N P T U v) s.heap.size) (mdW cI a N P T U zz)) w5).mp hD
          have hP : va_P D vwCl (mdW cI a N P T U (us (us (us v 11 (p_helpv N t n 0)) 12 (p_helpv N t n 1)) 13 (p_helpv N t n 2))) H := hP
          have hD : va_D (va_A (mdW cI a N P T U v) s.heap.size) (mdW cI a N P T U (us (us (us v 11 (p_helpv N t n 0)) 12 (p_helpv N t n 1)) 13 (p_helpv N t n 2))) := hD
          exact k_eMi hx hb hr hlocks hP hS (by exact ch_end2 hwd hk0) dX5_cheapest_124
        · have c4 := bI_eq0 c4
          have hnw := c4
          refine lv_aload_n hx hb dX5_cheapest_27 rfl (lv_at hl 0 rfl) ?_
          refine lv_iload hx hb dX5_cheapest_28 (lv_at hl 4 rfl) ?_
          refine lv_bipush (v := 6) hx hb dX5_cheapest_30 (by decide) ?_
          refine k_riV (As := [.int (nI k), .int (nI 6)]) (rest := []) (wc := mdW cI a N P T U (us (us (us v 11 (p_chv N t n k 0)) 12 (p_chv N t n k 1)) 13 (p_chv N t n k 2))) ⟨hx, hb, hml, hown, hts⟩ (c_X5_of l D cI cS cL a N P T U (us (us (us v 11 (p_chv N t n k 0)) 12 (p_chv N t n k 1)) 13 (p_chv N t n k 2)) _ k 6 9 (by omega) (by decide) rfl) lkX5_37 rfl rfl ⟨(Nat.le_of_ble_eq_true rfl), (Nat.le_of_ble_eq_true rfl)⟩ (va_recv hK hP (ci := 4) (q0 := 0) rfl rfl) hK hE hP hD rfl hl.1 rfl (Nat.le_of_ble_eq_true rfl) dX5_cheapest_32 ⟨Nat.zero_le _, Nat.zero_le _⟩ ?_
          refine lv_iconst (v := 3) hx hb dX5_cheapest_35 (by decide) ?_
          refine lv_icmp_ne (tgt := 62) hx hb dX5_cheapest_36 (by decide) (fun c6 => ?_) (fun c6 => ?_)
          · refine lv_iconst (v := 0) hx hb dX5_cheapest_62 (by decide) ?_
            refine lv_istore (lv' := [(5, .int 0), (0, .ref (a 0)), (1, .int (nI t)), (2, .int (p_ch N t n k)), (3, .int (bI (decide (N 2 t ≤ p_lay N (nI t) (-1) n 0)))), (4, .int (nI k))]) hx hb dX5_cheapest_63 hl (by decide) rfl (fun ls hl => ?_)
            refine lv_iload hx hb dX5_cheapest_65 (lv_at hl 0 rfl) ?_
            refine lv_if_eq (tgt := 115) hx hb dX5_cheapest_67 (by decide) (fun _ => ?_) (fun h => absurd (by decide) h)
            refine lv_iload_n hx hb dX5_cheapest_115 rfl (lv_at hl 3 rfl) ?_
            refine lv_istore_n (lv' := [(2, .int (p_ch N t n k)), (5, .int 0), (0, .ref (a 0)), (1, .int (nI t)), (3, .int (bI (decide (N 2 t ≤ p_lay N (nI t) (-1) n 0)))), (4, .int (nI k))]) hx hb dX5_cheapest_116 rfl hl (by decide) rfl (fun ls hl => ?_)
            refine lv_iinc (v := nI (k + 1)) (lv' := [(4, .int (nI (k + 1))), (2, .int (p_ch N t n k)), (5, .int 0), (0, .ref (a 0)), (1, .int (nI t)), (3, .int (bI (decide (N 2 t ≤ p_lay N (nI t) (-1) n 0))))]) hx hb dX5_cheapest_117 hl (k := 5) rfl (nI_1 _) (by decide) rfl (fun ls hl => ?_)
            refine lv_goto (tgt := 12) hx hb dX5_cheapest_120 (by decide) ?_
            have hl : lv_has ls 6 [(0, .ref (a 0)), (1, .int (nI t)), (2, .int (p_ch N t n k)), (3, .int (bI (decide (N 2 t ≤ p_lay N (nI t) (-1) n 0)))), (4, .int (nI (k + 1)))] := lv_sub hl [3, 4, 1, 5, 0] rfl
            have w7 : p_ch N t n k = p_ch N t n (k + 1) := by exact (ch_no (fun h => absurd h.1 (by simp [c2, c2', hkn, c4, hnw, c6]))).symm
            have hl : lv_has ls 6 [(0, .ref (a 0)), (1, .int (nI t)), (2, .int (p_ch N t n (k + 1))), (3, .int (bI (decide (N 2 t ≤ p_lay N (nI t) (-1) n 0)))), (4, .int (nI (k + 1)))] := (congrArg (fun zz => lv_has ls 6 [(0, .ref (a 0)), (1, .int (nI t)), (2, .int zz), (3, .int (bI (decide (N 2 t ≤ p_lay N (nI t) (-1) n 0)))), (4, .int (nI (k + 1)))]) w7).mp hl
            have hl : lv_has ls 6 [(0, .ref (a 0)), (1, .int (nI t)), (2, .int (p_ch N t n (k + 1))), (3, .int (bI (decide (N 2 t ≤ p_lay N (nI t) (-1) n 0)))), (4, .int (nI (k + 1)))] := hl
            have w8 : (us (us (us v 11 (p_chv N t n k 0)) 12 (p_chv N t n k 1)) 13 (p_chv N t n k 2)) = (us (us (us v 11 (p_chv N t n (k + 1) 0)) 12 (p_chv N t n (k + 1) 1)) 13 (p_chv N t n (k + 1) 2)) := by simp [p_chv, c2, c2', hkn, c4, hnw, c6]
            have hP : va_P D vwCl (mdW cI a N P T U (us (us (us v 11 (p_chv N t n (k + 1) 0)) 12 (p_chv N t n (k + 1) 1)) 13 (p_chv N t n (k + 1) 2))) H := (congrArg (fun zz => va_P D vwCl (mdW cI a N P T U zz) H) w8).mp hP
            have hD : va_D (va_A (mdW cI a N P T U v) s.heap.size) (mdW cI a N P T U (us (us (us v 11 (p_chv N t n (k + 1) 0)) 12 (p_chv N t n (k + 1) 1)) 13 (p_chv N t n (k + 1) 2))) := (congrArg (fun zz => va_D (va_A (mdW cI a N P T U v) s.heap.size) (mdW cI a N P T U zz)) w8).mp hD
            have hP : va_P D vwCl (mdW cI a N P T U (us (us (us v 11 (p_chv N t n (k + 1) 0)) 12 (p_chv N t n (k + 1) 1)) 13 (p_chv N t n (k + 1) 2))) H := hP
            have hD : va_D (va_A (mdW cI a N P T U v) s.heap.size) (mdW cI a N P T U (us (us (us v 11 (p_chv N t n (k + 1) 0)) 12 (p_chv N t n (k + 1) 1)) 13 (p_chv N t n (k + 1) 2))) := hD
            exact ih (k + 1) (by omega) (by omega) (Or.inr hnw) H locs hP hD hS hS.1 ls hl
          · refine lv_aload_n hx hb dX5_cheapest_39 rfl (lv_at hl 0 rfl) ?_
            refine lv_iload hx hb dX5_cheapest_40 (lv_at hl 4 rfl) ?_
            refine k_riV (As := [.int (nI k)]) (rest := []) (wc := mdW cI a N P T U (us (us (us v 11 (p_chv N t n k 0)) 12 (p_chv N t n k 1)) 13 (p_chv N t n k 2))) ⟨hx, hb, hml, hown, hts⟩ (c_X5_isReady l D cI cS cL a N P T U (us (us (us v 11 (p_chv N t n k 0)) 12 (p_chv N t n k 1)) 13 (p_chv N t n k 2)) _ k (by omega) hd0) lkX5_62 rfl rfl ⟨(Nat.le_of_ble_eq_true rfl), (Nat.le_of_ble_eq_true rfl)⟩ (va_recv hK hP (ci := 4) (q0 := 0) rfl rfl) hK hE hP hD rfl hl.1 rfl (Nat.le_of_ble_eq_true rfl) dX5_cheapest_42 ⟨Nat.zero_le _, Nat.zero_le _⟩ ?_
            refine lv_if_eq (tgt := 62) hx hb dX5_cheapest_45 (by decide) (fun c9 => ?_) (fun c9 => ?_)
            · have c9 := bI_eq0 c9
              refine lv_iconst (v := 0) hx hb dX5_cheapest_62 (by decide) ?_
              refine lv_istore (lv' := [(5, .int 0), (0, .ref (a 0)), (1, .int (nI t)), (2, .int (p_ch N t n k)), (3, .int (bI (decide (N 2 t ≤ p_lay N (nI t) (-1) n 0)))), (4, .int (nI k))]) hx hb dX5_cheapest_63 hl (by decide) rfl (fun ls hl => ?_)
              refine lv_iload hx hb dX5_cheapest_65 (lv_at hl 0 rfl) ?_
              refine lv_if_eq (tgt := 115) hx hb dX5_cheapest_67 (by decide) (fun _ => ?_) (fun h => absurd (by decide) h)
              refine lv_iload_n hx hb dX5_cheapest_115 rfl (lv_at hl 3 rfl) ?_
              refine lv_istore_n (lv' := [(2, .int (p_ch N t n k)), (5, .int 0), (0, .ref (a 0)), (1, .int (nI t)), (3, .int (bI (decide (N 2 t ≤ p_lay N (nI t) (-1) n 0)))), (4, .int (nI k))]) hx hb dX5_cheapest_116 rfl hl (by decide) rfl (fun ls hl => ?_)
              refine lv_iinc (v := nI (k + 1)) (lv' := [(4, .int (nI (k + 1))), (2, .int (p_ch N t n k)), (5, .int 0), (0, .ref (a 0)), (1, .int (nI t)), (3, .int (bI (decide (N 2 t ≤ p_lay N (nI t) (-1) n 0))))]) hx hb dX5_cheapest_117 hl (k := 5) rfl (nI_1 _) (by decide) rfl (fun ls hl => ?_)
              refine lv_goto (tgt := 12) hx hb dX5_cheapest_120 (by decide) ?_
              have hl : lv_has ls 6 [(0, .ref (a 0)), (1, .int (nI t)), (2, .int (p_ch N t n k)), (3, .int (bI (decide (N 2 t ≤ p_lay N (nI t) (-1) n 0)))), (4, .int (nI (k + 1)))] := lv_sub hl [3, 4, 1, 5, 0] rfl
              have w10 : p_ch N t n k = p_ch N t n (k + 1) := by exact (ch_no (fun h => absurd h.1 (by simp [c2, c2', hkn, c4, hnw, c6, c9]))).symm
              have hl : lv_has ls 6 [(0, .ref (a 0)), (1, .int (nI t)), (2, .int (p_ch N t n (k + 1))), (3, .int (bI (decide (N 2 t ≤ p_lay N (nI t) (-1) n 0)))), (4, .int (nI (k + 1)))] := (congrArg (fun zz => lv_has ls 6 [(0, .ref (a 0)), (1, .int (nI t)), (2, .int zz), (3, .int (bI (decide (N 2 t ≤ p_lay N (nI t) (-1) n 0)))), (4, .int (nI (k + 1)))]) w10).mp hl
              have hl : lv_has ls 6 [(0, .ref (a 0)), (1, .int (nI t)), (2, .int (p_ch N t n (k + 1))), (3, .int (bI (decide (N 2 t ≤ p_lay N (nI t) (-1) n 0)))), (4, .int (nI (k + 1)))] := hl
              have w11 : (us (us (us v 11 (p_chv N t n k 0)) 12 (p_chv N t n k 1)) 13 (p_chv N t n k 2)) = (us (us (us v 11 (p_chv N t n (k + 1) 0)) 12 (p_chv N t n (k + 1) 1)) 13 (p_chv N t n (k + 1) 2)) := by simp [p_chv, c2, c2', hkn, c4, hnw, c6, c9]
              have hP : va_P D vwCl (mdW cI a N P T U (us (us (us v 11 (p_chv N t n (k + 1) 0)) 12 (p_chv N t n (k + 1) 1)) 13 (p_chv N t n (k + 1) 2))) H := (congrArg (fun zz => va_P D vwCl (mdW cI a N P T U zz) H) w11).mp hP
              have hD : va_D (va_A (mdW cI a N P T U v) s.heap.size) (mdW cI a N P T U (us (us (us v 11 (p_chv N t n (k + 1) 0)) 12 (p_chv N t n (k + 1) 1)) 13 (p_chv N t n (k + 1) 2))) := (congrArg (fun zz => va_D (va_A (mdW cI a N P T U v) s.heap.size) (mdW cI a N P T U zz)) w11).mp hD
              have hP : va_P D vwCl (mdW cI a N P T U (us (us (us v 11 (p_chv N t n (k + 1) 0)) 12 (p_chv N t n (k + 1) 1)) 13 (p_chv N t n (k + 1) 2))) H := hP
              have hD : va_D (va_A (mdW cI a N P T U v) s.heap.size) (mdW cI a N P T U (us (us (us v 11 (p_chv N t n (k + 1) 0)) 12 (p_chv N t n (k + 1) 1)) 13 (p_chv N t n (k + 1) 2))) := hD
              exact ih (k + 1) (by omega) (by omega) (Or.inr hnw) H locs hP hD hS hS.1 ls hl
            · have c9 := bI_ne0 c9
              refine lv_aload_n hx hb dX5_cheapest_48 rfl (lv_at hl 0 rfl) ?_
              refine lv_iload_n hx hb dX5_cheapest_49 rfl (lv_at hl 1 rfl) ?_
              refine lv_iload hx hb dX5_cheapest_50 (lv_at hl 4 rfl) ?_
              refine k_miV (As := [.int (nI t), .int (nI k)]) (rest := []) (w1 := []) (wc := mdW cI a N P T U (us (us (us v 11 (p_chv N t n k 0)) 12 (p_chv N t n k 1)) 13 (p_chv N t n k 2))) (wc' := mdW cI a N P T U (us (us (us v 11 (p_lay N (nI t) (nI k) n 0)) 12 (p_lay N (nI t) (nI k) n 1)) 13 (p_lay N (nI t) (nI k) n 2))) (w3 := []) ⟨hx, hb, hml, hown, hts⟩ (c_X5_isWhole l D cI cS cL a N P T U (us (us (us v 11 (p_chv N t n k 0)) 12 (p_chv N t n k 1)) 13 (p_chv N t n k 2)) _ n t (nI k) hn hn14 (by omega) hd0) lkX5_137 rfl rfl ⟨(Nat.le_of_ble_eq_true rfl), (Nat.le_of_ble_eq_true rfl)⟩ (va_recv hK hP (ci := 4) (q0 := 0) rfl rfl) hK hE hP hD hS hA rfl rfl hl.1 rfl (Nat.le_of_ble_eq_true rfl) dX5_cheapest_52 ⟨Nat.zero_le _, Nat.zero_le _⟩ (fun H locs hzz hP hD hS => ?_)
              have hP : va_P D vwCl (mdW cI a N P T U (us (us (us v 11 (p_lay N (nI t) (nI k) n 0)) 12 (p_lay N (nI t) (nI k) n 1)) 13 (p_lay N (nI t) (nI k) n 2))) H := hP
              have hD : va_D (va_A (mdW cI a N P T U v) s.heap.size) (mdW cI a N P T U (us (us (us v 11 (p_lay N (nI t) (nI k) n 0)) 12 (p_lay N (nI t) (nI k) n 1)) 13 (p_lay N (nI t) (nI k) n 2))) := hD
              refine lv_if_eq (tgt := 62) hx hb dX5_cheapest_55 (by decide) (fun c12 => ?_) (fun c12 => ?_)
              · have c12 := bI_eq0 c12
                refine lv_iconst (v := 0) hx hb dX5_cheapest_62 (by decide) ?_
                refine lv_istore (lv' := [(5, .int 0), (0, .ref (a 0)), (1, .int (nI t)), (2, .int (p_ch N t n k)), (3, .int (bI (decide (N 2 t ≤ p_lay N (nI t) (-1) n 0)))), (4, .int (nI k))]) hx hb dX5_cheapest_63 hl (by decide) rfl (fun ls hl => ?_)
                refine lv_iload hx hb dX5_cheapest_65 (lv_at hl 0 rfl) ?_
                refine lv_if_eq (tgt := 115) hx hb dX5_cheapest_67 (by decide) (fun _ => ?_) (fun h => absurd (by decide) h)
                refine lv_iload_n hx hb dX5_cheapest_115 rfl (lv_at hl 3 rfl) ?_
                refine lv_istore_n (lv' := [(2, .int (p_ch N t n k)), (5, .int 0), (0, .ref (a 0)), (1, .int (nI t)), (3, .int (bI (decide (N 2 t ≤ p_lay N (nI t) (-1) n 0)))), (4, .int (nI k))]) hx hb dX5_cheapest_116 rfl hl (by decide) rfl (fun ls hl => ?_)
                refine lv_iinc (v := nI (k + 1)) (lv' := [(4, .int (nI (k + 1))), (2, .int (p_ch N t n k)), (5, .int 0), (0, .ref (a 0)), (1, .int (nI t)), (3, .int (bI (decide (N 2 t ≤ p_lay N (nI t) (-1) n 0))))]) hx hb dX5_cheapest_117 hl (k := 5) rfl (nI_1 _) (by decide) rfl (fun ls hl => ?_)
                refine lv_goto (tgt := 12) hx hb dX5_cheapest_120 (by decide) ?_
                have hl : lv_has ls 6 [(0, .ref (a 0)), (1, .int (nI t)), (2, .int (p_ch N t n k)), (3, .int (bI (decide (N 2 t ≤ p_lay N (nI t) (-1) n 0)))), (4, .int (nI (k + 1)))] := lv_sub hl [3, 4, 1, 5, 0] rfl
                have w13 : p_ch N t n k = p_ch N t n (k + 1) := by exact (ch_no (fun h => absurd h.1 (by simp [c2, c2', hkn, c4, hnw, c6, c9, c12]))).symm
                have hl : lv_has ls 6 [(0, .ref (a 0)), (1, .int (nI t)), (2, .int (p_ch N t n (k + 1))), (3, .int (bI (decide (N 2 t ≤ p_lay N (nI t) (-1) n 0)))), (4, .int (nI (k + 1)))] := (congrArg (fun zz => lv_has ls 6 [(0, .ref (a 0)), (1, .int (nI t)), (2, .int zz), (3, .int (bI (decide (N 2 t ≤ p_lay N (nI t) (-1) n 0)))), (4, .int (nI (k + 1)))]) w13).mp hl
                have hl : lv_has ls 6 [(0, .ref (a 0)), (1, .int (nI t)), (2, .int (p_ch N t n (k + 1))), (3, .int (bI (decide (N 2 t ≤ p_lay N (nI t) (-1) n 0)))), (4, .int (nI (k + 1)))] := hl
                have w14 : (us (us (us v 11 (p_lay N (nI t) (nI k) n 0)) 12 (p_lay N (nI t) (nI k) n 1)) 13 (p_lay N (nI t) (nI k) n 2)) = (us (us (us v 11 (p_chv N t n (k + 1) 0)) 12 (p_chv N t n (k + 1) 1)) 13 (p_chv N t n (k + 1) 2)) := by simp [p_chv, c2, c2', hkn, c4, hnw, c6, c9, c12]
                have hP : va_P D vwCl (mdW cI a N P T U (us (us (us v 11 (p_chv N t n (k + 1) 0)) 12 (p_chv N t n (k + 1) 1)) 13 (p_chv N t n (k + 1) 2))) H := (congrArg (fun zz => va_P D vwCl (mdW cI a N P T U zz) H) w14).mp hP
                have hD : va_D (va_A (mdW cI a N P T U v) s.heap.size) (mdW cI a N P T U (us (us (us v 11 (p_chv N t n (k + 1) 0)) 12 (p_chv N t n (k + 1) 1)) 13 (p_chv N t n (k + 1) 2))) := (congrArg (fun zz => va_D (va_A (mdW cI a N P T U v) s.heap.size) (mdW cI a N P T U zz)) w14).mp hD
                have hP : va_P D vwCl (mdW cI a N P T U (us (us (us v 11 (p_chv N t n (k + 1) 0)) 12 (p_chv N t n (k + 1) 1)) 13 (p_chv N t n (k + 1) 2))) H := hP
                have hD : va_D (va_A (mdW cI a N P T U v) s.heap.size) (mdW cI a N P T U (us (us (us v 11 (p_chv N t n (k + 1) 0)) 12 (p_chv N t n (k + 1) 1)) 13 (p_chv N t n (k + 1) 2))) := hD
                exact ih (k + 1) (by omega) (by omega) (Or.inr hnw) H locs hP hD hS hS.1 ls hl
              · have c12 := bI_ne0 c12
                refine lv_iconst (v := 1) hx hb dX5_cheapest_58 (by decide) ?_
                refine lv_goto (tgt := 63) hx hb dX5_cheapest_59 (by decide) ?_
                refine lv_istore (lv' := [(5, .int 1), (0, .ref (a 0)), (1, .int (nI t)), (2, .int (p_ch N t n k)), (3, .int (bI (decide (N 2 t ≤ p_lay N (nI t) (-1) n 0)))), (4, .int (nI k))]) hx hb dX5_cheapest_63 hl (by decide) rfl (fun ls hl => ?_)
                refine lv_iload hx hb dX5_cheapest_65 (lv_at hl 0 rfl) ?_
                refine lv_if_eq (tgt := 115) hx hb dX5_cheapest_67 (by decide) (fun h => absurd h (by decide)) (fun _ => ?_)
                refine lv_iload_n hx hb dX5_cheapest_70 rfl (lv_at hl 3 rfl) ?_
                refine lv_iconst (v := (-1)) hx hb dX5_cheapest_71 (by decide) ?_
                refine lv_icmp_eq (tgt := 110) hx hb dX5_cheapest_72 (by decide) (fun c15 => ?_) (fun c15 => ?_)
                · have heq1 := c15
                  refine lv_iload hx hb dX5_cheapest_110 (lv_at hl 5 rfl) ?_
                  refine lv_goto (tgt := 116) hx hb dX5_cheapest_112 (by decide) ?_
                  refine lv_istore_n (lv' := [(2, .int (nI k)), (5, .int 1), (0, .ref (a 0)), (1, .int (nI t)), (3, .int (bI (decide (N 2 t ≤ p_lay N (nI t) (-1) n 0)))), (4, .int (nI k))]) hx hb dX5_cheapest_116 rfl hl (by decide) rfl (fun ls hl => ?_)
                  refine lv_iinc (v := nI (k + 1)) (lv' := [(4, .int (nI (k + 1))), (2, .int (nI k)), (5, .int 1), (0, .ref (a 0)), (1, .int (nI t)), (3, .int (bI (decide (N 2 t ≤ p_lay N (nI t) (-1) n 0))))]) hx hb dX5_cheapest_117 hl (k := 5) rfl (nI_1 _) (by decide) rfl (fun ls hl => ?_)
                  refine lv_goto (tgt := 12) hx hb dX5_cheapest_120 (by decide) ?_
                  have hl : lv_has ls 6 [(0, .ref (a 0)), (1, .int (nI t)), (2, .int (nI k)), (3, .int (bI (decide (N 2 t ≤ p_lay N (nI t) (-1) n 0)))), (4, .int (nI (k + 1)))] := lv_sub hl [3, 4, 1, 5, 0] rfl
                  have w16 : nI k = p_ch N t n (k + 1) := by exact (ch_yes (by simp [c2, c2', hkn, c4, hnw, c6, c9, c12, c15, heq1]) (Or.inl heq1)).symm
                  have hl : lv_has ls 6 [(0, .ref (a 0)), (1, .int (nI t)), (2, .int (p_ch N t n (k + 1))), (3, .int (bI (decide (N 2 t ≤ p_lay N (nI t) (-1) n 0)))), (4, .int (nI (k + 1)))] := (congrArg (fun zz => lv_has ls 6 [(0, .ref (a 0)), (1, .int (nI t)), (2, .int zz), (3, .int (bI (decide (N 2 t ≤ p_lay N (nI t) (-1) n 0)))), (4, .int (nI (k + 1)))]) w16).mp hl
                  have hl : lv_has ls 6 [(0, .ref (a 0)), (1, .int (nI t)), (2, .int (p_ch N t n (k + 1))), (3, .int (bI (decide (N 2 t ≤ p_lay N (nI t) (-1) n 0)))), (4, .int (nI (k + 1)))] := hl
                  have w17 : (us (us (us v 11 (p_lay N (nI t) (nI k) n 0)) 12 (p_lay N (nI t) (nI k) n 1)) 13 (p_lay N (nI t) (nI k) n 2)) = (us (us (us v 11 (p_chv N t n (k + 1) 0)) 12 (p_chv N t n (k + 1) 1)) 13 (p_chv N t n (k + 1) 2)) := by simp [p_chv, c2, c2', hkn, c4, hnw, c6, c9, c12, c15, heq1]
                  have hP : va_P D vwCl (mdW cI a N P T U (us (us (us v 11 (p_chv N t n (k + 1) 0)) 12 (p_chv N t n (k + 1) 1)) 13 (p_chv N t n (k + 1) 2))) H := (congrArg (fun zz => va_P D vwCl (mdW cI a N P T U zz) H) w17).mp hP
                  have hD : va_D (va_A (mdW cI a N P T U v) s.heap.size) (mdW cI a N P T U (us (us (us v 11 (p_chv N t n (k + 1) 0)) 12 (p_chv N t n (k + 1) 1)) 13 (p_chv N t n (k + 1) 2))) := (congrArg (fun zz => va_D (va_A (mdW cI a N P T U v) s.heap.size) (mdW cI a N P T U zz)) w17).mp hD
                  have hP : va_P D vwCl (mdW cI a N P T U (us (us (us v 11 (p_chv N t n (k + 1) 0)) 12 (p_chv N t n (k + 1) 1)) 13 (p_chv N t n (k + 1) 2))) H := hP
                  have hD : va_D (va_A (mdW cI a N P T U v) s.heap.size) (mdW cI a N P T U (us (us (us v 11 (p_chv N t n (k + 1) 0)) 12 (p_chv N t n (k + 1) 1)) 13 (p_chv N t n (k + 1) 2))) := hD
                  exact ih (k + 1) (by omega) (by omega) (Or.inr hnw) H locs hP hD hS hS.1 ls hl
                · have hne1 := c15
                  obtain ⟨j, hjk, hje⟩ := p_ch_nI c15
                  have _hpj : p_price N (p_ch N t n k).toNatClampNeg = p_cost (N 3 j) (N 4 j) := p_price_up hje (by omega)
                  rw [hje] at hl
                  refine lv_aload_n hx hb dX5_cheapest_75 rfl (lv_at hl 1 rfl) ?_
                  refine lv_iload hx hb dX5_cheapest_76 (lv_at hl 5 rfl) ?_
                  refine lv_iconst (v := 0) hx hb dX5_cheapest_78 (by decide) ?_
                  refine k_riV (As := [.int (nI k), .int (nI 0)]) (rest := []) (wc := mdW cI a N P T U (us (us (us v 11 (p_lay N (nI t) (nI k) n 0)) 12 (p_lay N (nI t) (nI k) n 1)) 13 (p_lay N (nI t) (nI k) n 2))) ⟨hx, hb, hml, hown, hts⟩ (c_X5_of l D cI cS cL a N P T U (us (us (us v 11 (p_lay N (nI t) (nI k) n 0)) 12 (p_lay N (nI t) (nI k) n 1)) 13 (p_lay N (nI t) (nI k) n 2)) _ k 0 3 (by omega) (by decide) rfl) lkX5_37 rfl rfl ⟨(Nat.le_of_ble_eq_true rfl), (Nat.le_of_ble_eq_true rfl)⟩ (va_recv hK hP (ci := 4) (q0 := 0) rfl rfl) hK hE hP hD rfl hl.1 rfl (Nat.le_of_ble_eq_true rfl) dX5_cheapest_79 ⟨Nat.zero_le _, Nat.zero_le _⟩ ?_
                  refine lv_aload_n hx hb dX5_cheapest_82 rfl (lv_at hl 1 rfl) ?_
                  refine lv_iload hx hb dX5_cheapest_83 (lv_at hl 5 rfl) ?_
                  refine lv_iconst (v := 1) hx hb dX5_cheapest_85 (by decide) ?_
                  refine k_riV (As := [.int (nI k), .int (nI 1)]) (rest := [.int (N 3 k)]) (wc := mdW cI a N P T U (us (us (us v 11 (p_lay N (nI t) (nI k) n 0)) 12 (p_lay N (nI t) (nI k) n 1)) 13 (p_lay N (nI t) (nI k) n 2))) ⟨hx, hb, hml, hown, hts⟩ (c_X5_of l D cI cS cL a N P T U (us (us (us v 11 (p_lay N (nI t) (nI k) n 0)) 12 (p_lay N (nI t) (nI k) n 1)) 13 (p_lay N (nI t) (nI k) n 2)) _ k 1 4 (by omega) (by decide) rfl) lkX5_37 rfl rfl ⟨(Nat.le_of_ble_eq_true rfl), (Nat.le_of_ble_eq_true rfl)⟩ (va_recv hK hP (ci := 4) (q0 := 0) rfl rfl) hK hE hP hD rfl hl.1 rfl (Nat.le_of_ble_eq_true rfl) dX5_cheapest_86 ⟨Nat.zero_le _, Nat.zero_le _⟩ ?_
                  refine k_riS (As := [.int (N 3 k), .int (N 4 k)]) (rest := []) (wc := []) ⟨hx, hb, hml, hown, hts⟩ (c_X5_cost l D cI cS cL _ (N 3 k) (N 4 k) (hkds k hkn)) lkX5_70 rfl rfl ⟨(Nat.le_of_ble_eq_true rfl), (Nat.le_of_ble_eq_true rfl)⟩ hK hE k_nilP (k_nilD (A := va_A (mdW cI a N P T U v) s.heap.size)) rfl hl.1 rfl (Nat.le_of_ble_eq_true rfl) dX5_cheapest_89 ⟨Nat.zero_le _, Nat.zero_le _⟩ ?_
                  refine lv_aload_n hx hb dX5_cheapest_92 rfl (lv_at hl 1 rfl) ?_
                  refine lv_iload_n hx hb dX5_cheapest_93 rfl (lv_at hl 3 rfl) ?_
                  refine lv_iconst (v := 0) hx hb dX5_cheapest_94 (by decide) ?_
                  refine k_riV (As := [.int (nI j), .int (nI 0)]) (rest := [.int (p_cost (N 3 k) (N 4 k))]) (wc := mdW cI a N P T U (us (us (us v 11 (p_lay N (nI t) (nI k) n 0)) 12 (p_lay N (nI t) (nI k) n 1)) 13 (p_lay N (nI t) (nI k) n 2))) ⟨hx, hb, hml, hown, hts⟩ (c_X5_of l D cI cS cL a N P T U (us (us (us v 11 (p_lay N (nI t) (nI k) n 0)) 12 (p_lay N (nI t) (nI k) n 1)) 13 (p_lay N (nI t) (nI k) n 2)) _ j 0 3 (by omega) (by decide) rfl) lkX5_37 rfl rfl ⟨(Nat.le_of_ble_eq_true rfl), (Nat.le_of_ble_eq_true rfl)⟩ (va_recv hK hP (ci := 4) (q0 := 0) rfl rfl) hK hE hP hD rfl hl.1 rfl (Nat.le_of_ble_eq_true rfl) dX5_cheapest_95 ⟨Nat.zero_le _, Nat.zero_le _⟩ ?_
                  refine lv_aload_n hx hb dX5_cheapest_98 rfl (lv_at hl 1 rfl) ?_
                  refine lv_iload_n hx hb dX5_cheapest_99 rfl (lv_at hl 3 rfl) ?_
                  refine lv_iconst (v := 1) hx hb dX5_cheapest_100 (by decide) ?_
                  refine k_riV (As := [.int (nI j), .int (nI 1)]) (rest := [.int (N 3 j), .int (p_cost (N 3 k) (N 4 k))]) (wc := mdW cI a N P T U (us (us (us v 11 (p_lay N (nI t) (nI k) n 0)) 12 (p_lay N (nI t) (nI k) n 1)) 13 (p_lay N (nI t) (nI k) n 2))) ⟨hx, hb, hml, hown, hts⟩ (c_X5_of l D cI cS cL a N P T U (us (us (us v 11 (p_lay N (nI t) (nI k) n 0)) 12 (p_lay N (nI t) (nI k) n 1)) 13 (p_lay N (nI t) (nI k) n 2)) _ j 1 4 (by omega) (by decide) rfl) lkX5_37 rfl rfl ⟨(Nat.le_of_ble_eq_true rfl), (Nat.le_of_ble_eq_true rfl)⟩ (va_recv hK hP (ci := 4) (q0 := 0) rfl rfl) hK hE hP hD rfl hl.1 rfl (Nat.le_of_ble_eq_true rfl) dX5_cheapest_101 ⟨Nat.zero_le _, Nat.zero_le _⟩ ?_
                  refine k_riS (As := [.int (N 3 j), .int (N 4 j)]) (rest := [.int (p_cost (N 3 k) (N 4 k))]) (wc := []) ⟨hx, hb, hml, hown, hts⟩ (c_X5_cost l D cI cS cL _ (N 3 j) (N 4 j) (hkds j (by omega))) lkX5_70 rfl rfl ⟨(Nat.le_of_ble_eq_true rfl), (Nat.le_of_ble_eq_true rfl)⟩ hK hE k_nilP (k_nilD (A := va_A (mdW cI a N P T U v) s.heap.size)) rfl hl.1 rfl (Nat.le_of_ble_eq_true rfl) dX5_cheapest_104 ⟨Nat.zero_le _, Nat.zero_le _⟩ ?_
                  refine lv_icmp_ge (tgt := 115) hx hb dX5_cheapest_107 (by decide) (fun c18 => ?_) (fun c18 => ?_)
                  · have c18' := Int32.not_lt.mpr c18
                    have hcn : ¬ (p_ch N t n k = -1 ∨ p_price N k < p_price N (p_ch N t n k).toNatClampNeg) := fun h => h.elim hne1 (fun h => absurd (by rw [_hpj] at h; exact h) (Int32.not_lt.mpr c18))
                    refine lv_iload_n hx hb dX5_cheapest_115 rfl (lv_at hl 3 rfl) ?_
                    refine lv_istore_n (lv' := [(2, .int (nI j)), (5, .int 1), (0, .ref (a 0)), (1, .int (nI t)), (3, .int (bI (decide (N 2 t ≤ p_lay N (nI t) (-1) n 0)))), (4, .int (nI k))]) hx hb dX5_cheapest_116 rfl hl (by decide) rfl (fun ls hl => ?_)
                    refine lv_iinc (v := nI (k + 1)) (lv' := [(4, .int (nI (k + 1))), (2, .int (nI j)), (5, .int 1), (0, .ref (a 0)), (1, .int (nI t)), (3, .int (bI (decide (N 2 t ≤ p_lay N (nI t) (-1) n 0))))]) hx hb dX5_cheapest_117 hl (k := 5) rfl (nI_1 _) (by decide) rfl (fun ls hl => ?_)
                    refine lv_goto (tgt := 12) hx hb dX5_cheapest_120 (by decide) ?_
                    have hl : lv_has ls 6 [(0, .ref (a 0)), (1, .int (nI t)), (2, .int (nI j)), (3, .int (bI (decide (N 2 t ≤ p_lay N (nI t) (-1) n 0)))), (4, .int (nI (k + 1)))] := lv_sub hl [3, 4, 1, 5, 0] rfl
                    have w19 : nI j = p_ch N t n (k + 1) := by rw [← hje]; exact (ch_no (fun h => hcn h.2)).symm
                    have hl : lv_has ls 6 [(0, .ref (a 0)), (1, .int (nI t)), (2, .int (p_ch N t n (k + 1))), (3, .int (bI (decide (N 2 t ≤ p_lay N (nI t) (-1) n 0)))), (4, .int (nI (k + 1)))] := (congrArg (fun zz => lv_has ls 6 [(0, .ref (a 0)), (1, .int (nI t)), (2, .int zz), (3, .int (bI (decide (N 2 t ≤ p_lay N (nI t) (-1) n 0)))), (4, .int (nI (k + 1)))]) w19).mp hl
                    have hl : lv_has ls 6 [(0, .ref (a 0)), (1, .int (nI t)), (2, .int (p_ch N t n (k + 1))), (3, .int (bI (decide (N 2 t ≤ p_lay N (nI t) (-1) n 0)))), (4, .int (nI (k + 1)))] := hl
                    have w20 : (us (us (us v 11 (p_lay N (nI t) (nI k) n 0)) 12 (p_lay N (nI t) (nI k) n 1)) 13 (p_lay N (nI t) (nI k) n 2)) = (us (us (us v 11 (p_chv N t n (k + 1) 0)) 12 (p_chv N t n (k + 1) 1)) 13 (p_chv N t n (k + 1) 2)) := by simp [p_chv, c2, c2', hkn, c4, hnw, c6, c9, c12]
                    have hP : va_P D vwCl (mdW cI a N P T U (us (us (us v 11 (p_chv N t n (k + 1) 0)) 12 (p_chv N t n (k + 1) 1)) 13 (p_chv N t n (k + 1) 2))) H := (congrArg (fun zz => va_P D vwCl (mdW cI a N P T U zz) H) w20).mp hP
                    have hD : va_D (va_A (mdW cI a N P T U v) s.heap.size) (mdW cI a N P T U (us (us (us v 11 (p_chv N t n (k + 1) 0)) 12 (p_chv N t n (k + 1) 1)) 13 (p_chv N t n (k + 1) 2))) := (congrArg (fun zz => va_D (va_A (mdW cI a N P T U v) s.heap.size) (mdW cI a N P T U zz)) w20).mp hD
                    have hP : va_P D vwCl (mdW cI a N P T U (us (us (us v 11 (p_chv N t n (k + 1) 0)) 12 (p_chv N t n (k + 1) 1)) 13 (p_chv N t n (k + 1) 2))) H := hP
                    have hD : va_D (va_A (mdW cI a N P T U v) s.heap.size) (mdW cI a N P T U (us (us (us v 11 (p_chv N t n (k + 1) 0)) 12 (p_chv N t n (k + 1) 1)) 13 (p_chv N t n (k + 1) 2))) := hD
                    exact ih (k + 1) (by omega) (by omega) (Or.inr hnw) H locs hP hD hS hS.1 ls hl
                  · have c18' := Int32.not_le.mp c18
                    have hlt : p_price N k < p_price N (p_ch N t n k).toNatClampNeg := by rw [_hpj]; exact c18'
                    refine lv_iload hx hb dX5_cheapest_110 (lv_at hl 5 rfl) ?_
                    refine lv_goto (tgt := 116) hx hb dX5_cheapest_112 (by decide) ?_
                    refine lv_istore_n (lv' := [(2, .int (nI k)), (5, .int 1), (0, .ref (a 0)), (1, .int (nI t)), (3, .int (bI (decide (N 2 t ≤ p_lay N (nI t) (-1) n 0)))), (4, .int (nI k))]) hx hb dX5_cheapest_116 rfl hl (by decide) rfl (fun ls hl => ?_)
                    refine lv_iinc (v := nI (k + 1)) (lv' := [(4, .int (nI (k + 1))), (2, .int (nI k)), (5, .int 1), (0, .ref (a 0)), (1, .int (nI t)), (3, .int (bI (decide (N 2 t ≤ p_lay N (nI t) (-1) n 0))))]) hx hb dX5_cheapest_117 hl (k := 5) rfl (nI_1 _) (by decide) rfl (fun ls hl => ?_)
                    refine lv_goto (tgt := 12) hx hb dX5_cheapest_120 (by decide) ?_
                    have hl : lv_has ls 6 [(0, .ref (a 0)), (1, .int (nI t)), (2, .int (nI k)), (3, .int (bI (decide (N 2 t ≤ p_lay N (nI t) (-1) n 0)))), (4, .int (nI (k + 1)))] := lv_sub hl [3, 4, 1, 5, 0] rfl
                    have w21 : nI k = p_ch N t n (k + 1) := by exact (ch_yes (by simp [c2, c2', hkn, c4, hnw, c6, c9, c12]) (Or.inr hlt)).symm
                    have hl : lv_has ls 6 [(0, .ref (a 0)), (1, .int (nI t)), (2, .int (p_ch N t n (k + 1))), (3, .int (bI (decide (N 2 t ≤ p_lay N (nI t) (-1) n 0)))), (4, .int (nI (k + 1)))] := (congrArg (fun zz => lv_has ls 6 [(0, .ref (a 0)), (1, .int (nI t)), (2, .int zz), (3, .int (bI (decide (N 2 t ≤ p_lay N (nI t) (-1) n 0)))), (4, .int (nI (k + 1)))]) w21).mp hl
                    have hl : lv_has ls 6 [(0, .ref (a 0)), (1, .int (nI t)), (2, .int (p_ch N t n (k + 1))), (3, .int (bI (decide (N 2 t ≤ p_lay N (nI t) (-1) n 0)))), (4, .int (nI (k + 1)))] := hl
                    have w22 : (us (us (us v 11 (p_lay N (nI t) (nI k) n 0)) 12 (p_lay N (nI t) (nI k) n 1)) 13 (p_lay N (nI t) (nI k) n 2)) = (us (us (us v 11 (p_chv N t n (k + 1) 0)) 12 (p_chv N t n (k + 1) 1)) 13 (p_chv N t n (k + 1) 2)) := by simp [p_chv, c2, c2', hkn, c4, hnw, c6, c9, c12]
                    have hP : va_P D vwCl (mdW cI a N P T U (us (us (us v 11 (p_chv N t n (k + 1) 0)) 12 (p_chv N t n (k + 1) 1)) 13 (p_chv N t n (k + 1) 2))) H := (congrArg (fun zz => va_P D vwCl (mdW cI a N P T U zz) H) w22).mp hP
                    have hD : va_D (va_A (mdW cI a N P T U v) s.heap.size) (mdW cI a N P T U (us (us (us v 11 (p_chv N t n (k + 1) 0)) 12 (p_chv N t n (k + 1) 1)) 13 (p_chv N t n (k + 1) 2))) := (congrArg (fun zz => va_D (va_A (mdW cI a N P T U v) s.heap.size) (mdW cI a N P T U zz)) w22).mp hD
                    have hP : va_P D vwCl (mdW cI a N P T U (us (us (us v 11 (p_chv N t n (k + 1) 0)) 12 (p_chv N t n (k + 1) 1)) 13 (p_chv N t n (k + 1) 2))) H := hP
                    have hD : va_D (va_A (mdW cI a N P T U v) s.heap.size) (mdW cI a N P T U (us (us (us v 11 (p_chv N t n (k + 1) 0)) 12 (p_chv N t n (k + 1) 1)) 13 (p_chv N t n (k + 1) 2))) := hD
                    exact ih (k + 1) (by omega) (by omega) (Or.inr hnw) H locs hP hD hS hS.1 ls hl
  have hl : lv_has ls 6 [(0, .ref (a 0)), (1, .int (nI t)), (2, .int (-1)), (3, .int (bI (decide (N 2 t ≤ p_lay N (nI t) (-1) n 0)))), (4, .int 0)] := lv_sub hl [3, 4, 2, 1, 0] rfl
  have hl : lv_has ls 6 [(0, .ref (a 0)), (1, .int (nI t)), (2, .int (p_ch N t n 0)), (3, .int (bI (decide (N 2 t ≤ p_lay N (nI t) (-1) n 0)))), (4, .int (nI 0))] := hl
  have hP : va_P D vwCl (mdW cI a N P T U (us (us (us v 11 (p_chv N t n 0 0)) 12 (p_chv N t n 0 1)) 13 (p_chv N t n 0 2))) H := hP
  have hD : va_D (va_A (mdW cI a N P T U v) s.heap.size) (mdW cI a N P T U (us (us (us v 11 (p_chv N t n 0 0)) 12 (p_chv N t n 0 1)) 13 (p_chv N t n 0 2))) := hD
  exact L1 (n - 0 + 1) 0 (by omega) (by omega) (Or.inl rfl) H locs hP hD hS hS.1 ls hl
