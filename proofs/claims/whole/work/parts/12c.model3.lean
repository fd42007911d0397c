abbrev rmX5_cheapest : Room := { frames := 5, cells := 0, slots := 0, locals := 113 }
set_option maxHeartbeats 4000000 in
set_option maxRecDepth 100000 in
theorem c_X5_cheapest (l : Launch) (D : va_G) (cI cS cL : ClassId) (a : Nat → Nat) (N : NN) (P T U v : Nat → Int32) (sz : Nat) (n t : Nat) (hn : N 1 2 = nI n) (hn14 : n ≤ 14) (ht : t < 3) (hd0 : 0 ≤ N 1 0) (hkds : ∀ j, j < n → kdOk (N 3 j)) : Met l yX5_cheapest (wy_ yX5_cheapest cX5_cheapest 6 (some .int)) rmX5_cheapest (kPc D (kTy cI cS cL) (mdW cI a N P T U v) sz [.ref (a 0), .int (nI t)]) (kMi D (mdW cI a N P T U v) (mdW cI a N P T U (us (us (us v 11 (p_helpv N t n 0)) 12 (p_helpv N t n 1)) 13 (p_helpv N t n 2))) sz (p_help N t n)) 0 0 (va_A (mdW cI a N P T U v) sz) := by
  refine k_ofW (by decide) (Nat.le_of_ble_eq_true rfl) ?_
  intro p e s m args below meth c hx hb hr hml hts hown hlocks hnm hsz hP hK hD hE ls hl
  subst hsz
  have hA : ∀ q : Nat, s.heap.size ≤ q → (va_A (mdW cI a N P T U v) s.heap.size) q := fun q h => Or.inr h
  have hS : va_S (va_A (mdW cI a N P T U v) s.heap.size) s.heap s.heap [] := va_S.rf
  have hl : lv_has ls 6 [(0, .ref (a 0)), (1, .int (nI t))] := hl
  refine lv_iconst (v := (-1)) hx hb dX5_cheapest_0 (by decide) ?_
  refine lv_istore_n (lv' := [(2, .int (-1)), (0, .ref (a 0)), (1, .int (nI t))]) hx hb dX5_cheapest_1 rfl hl (by decide) rfl (fun ls hl => ?_)
  refine lv_aload_n hx hb dX5_cheapest_2 rfl (lv_at hl 1 rfl) ?_
  refine lv_iload_n hx hb dX5_cheapest_3 rfl (lv_at hl 2 rfl) ?_
  refine lv_iconst (v := (-1)) hx hb dX5_cheapest_4 (by decide) ?_
  refine k_miV (As := [.int (nI t), .int (-1)]) (rest := []) (w1 := []) (wc := mdW cI a N P T U v) (wc' := mdW cI a N P T U (us (us (us v 11 (p_lay N (nI t) (-1) n 0)) 12 (p_lay N (nI t) (-1) n 1)) 13 (p_lay N (nI t) (-1) n 2))) (w3 := []) ⟨hx, hb, hml, hown, hts⟩ (c_X5_isWhole l D cI cS cL a N P T U v _ n t (-1) hn hn14 (by omega) hd0) lkX5_137 rfl rfl ⟨(Nat.le_of_ble_eq_true rfl), (Nat.le_of_ble_eq_true rfl)⟩ (va_recv hK hP (ci := 4) (q0 := 0) rfl rfl) hK hE hP hD hS hA rfl rfl hl.1 rfl (Nat.le_of_ble_eq_true rfl) dX5_cheapest_5 ⟨Nat.zero_le _, Nat.zero_le _⟩ (fun H locs hzz hP hD hS => ?_)
  have hP : va_P D vwCl (mdW cI a N P T U (us (us (us v 11 (p_lay N (nI t) (-1) n 0)) 12 (p_lay N (nI t) (-1) n 1)) 13 (p_lay N (nI t) (-1) n 2))) H := hP
  have hD : va_D (va_A (mdW cI a N P T U v) s.heap.size) (mdW cI a N P T U (us (us (us v 11 (p_lay N (nI t) (-1) n 0)) 12 (p_lay N (nI t) (-1) n 1)) 13 (p_lay N (nI t) (-1) n 2))) := hD
  refine lv_istore_n (lv' := [(3, .int (bI (decide (N 2 t ≤ p_lay N (nI t) (-1) n 0)))), (2, .int (-1)), (0, .ref (a 0)), (1, .int (nI t))]) hx hb dX5_cheapest_8 rfl hl (by decide) rfl (fun ls hl => ?_)
  refine lv_iconst (v := 0) hx hb dX5_cheapest_9 (by decide) ?_
  refine lv_istore (lv' := [(4, .int 0), (3, .int (bI (decide (N 2 t ≤ p_lay N (nI t) (-1) n 0)))), (2, .int (-1)), (0, .ref (a 0)), (1, .int (nI t))]) hx hb dX5_cheapest_10 hl (by decide) rfl (fun ls hl => ?_)
  have L1 : ∀ (f k : Nat), k ≤ n → n - k < f → (hwh : k = 0 ∨ ¬ N 2 t ≤ p_lay N (nI t) (-1) n 0) → ∀ (H : Heap) (locs : List Loc), va_P D vwCl (mdW cI a N P T U (us (us (us v 11 (p_chv N t n k 0)) 12 (p_chv N t n k 1)) 13 (p_chv N t n k 2))) H → va_D (va_A (mdW cI a N P T U v) s.heap.size) (mdW cI a N P T U (us (us (us v 11 (p_chv N t n k 0)) 12 (p_chv N t n k 1)) 13 (p_chv N t n k 2))) → va_S (va_A (mdW cI a N P T U v) s.heap.size) s.heap H locs → s.heap.size ≤ H.size → ∀ ls : Array Slot, lv_has ls 6 [(0, .ref (a 0)), (1, .int (nI t)), (2, .int (p_ch N t n k)), (3, .int (bI (decide (N 2 t ≤ p_lay N (nI t) (-1) n 0)))), (4, .int (nI k))] → W p l e rmX5_cheapest s m args below meth c H locs 0 0 (MQ below (kMi D (mdW cI a N P T U v) (mdW cI a N P T U (us (us (us v 11 (p_helpv N t n 0)) 12 (p_helpv N t n 1)) 13 (p_helpv N t n 2))) s.heap.size (p_help N t n)) args s 0 0 (va_A (mdW cI a N P T U v) s.heap.size)) (F0 m 12 ls []) := by
    intro f
    induction f with
    | zero => intro k hv1 hv2; exact absurd hv2 (Nat.not_lt_zero _)
    | succ f ih =>
      intro k hv1 hv2 hwh H locs hP hD hS hz ls hl
      refine lv_iload hx hb dX5_cheapest_12 (lv_at hl 4 rfl) ?_
      refine lv_aload_n hx hb dX5_cheapest_14 rfl (lv_at hl 0 rfl) ?_
      refine g5 hx hb hts hown hK hP 0 rfl 0 (by decide) flX5_7 (fun _ h => h) (v := .ref (a 1)) rfl dX5_cheapest_15 ?_
      refine lv_iconst (v := 5) hx hb dX5_cheapest_18 (by decide) ?_
      refine k_ald (k := 5) hx hb hK hP 1 0 rfl rfl rfl (by decide) (by decide) dX5_cheapest_19 ?_
      rw [show flat N (5) = N 1 2 from rfl]
      rw [show N 1 2 = nI n from hn]
      refine lv_icmp_ge (tgt := 123) hx hb dX5_cheapest_20 (by decide) (fun c2 => ?_) (fun c2 => ?_)
      · have c2' := Int32.not_lt.mpr c2
        have hkn : n = k := (k_exit (by omega) hv1 c2).symm
        subst hkn
        refine lv_iload_n hx hb dX5_cheapest_123 rfl (lv_at hl 2 rfl) ?_
        have w3 : (us (us (us v 11 (p_chv N t n n 0)) 12 (p_chv N t n n 1)) 13 (p_chv N t n n 2)) = (us (us (us v 11 (p_helpv N t n 0)) 12 (p_helpv N t n 1)) 13 (p_helpv N t n 2)) := by rw [ch_v1 hwh]
        have hP : va_P D vwCl (mdW cI a N P T U (us (us (us v 11 (p_helpv N t n 0)) 12 (p_helpv N t n 1)) 13 (p_helpv N t n 2))) H := (congrArg (fun zz => va_P D vwCl (mdW cI a N P T U zz) H) w3).mp hP
        have hD : va_D (va_A (mdW cI a N P T U v) s.heap.size) (mdW cI a N P T U (us (us (us v 11 (p_helpv N t n 0)) 12 (p_helpv N t n 1)) 13 (p_helpv N t n 2))) := (congrArg (fun zz => va_D (va_A (mdW cI a N P T U v) s.heap.size) (mdW cI a N P T U zz)) w3).mp hD
        have hP : va_P D vwCl (mdW cI a N P T U (us (us (us v 11 (p_helpv N t n 0)) 12 (p_helpv N t n 1)) 13 (p_helpv N t n 2))) H := hP
        have hD : va_D (va_A (mdW cI a N P T U v) s.heap.size) (mdW cI a N P T U (us (us (us v 11 (p_helpv N t n 0)) 12 (p_helpv N t n 1)) 13 (p_helpv N t n 2))) := hD
        exact k_eMi hx hb hr hlocks hP hS (by exact ch_end1 hwh) dX5_cheapest_124
      · have c2' := Int32.not_le.mp c2
        have hkn : k < n := k_more (by omega) hv1 c2
        refine lv_iload_n hx hb dX5_cheapest_23 rfl (lv_at hl 3 rfl) ?_
        refine lv_if_ne (tgt := 123) hx hb dX5_cheapest_24 (by decide) (fun c4 => ?_) (fun c4 => ?_)
        · have c4 := bI_ne0 c4
          have hk0 : k = 0 := hwh.resolve_right (fun h => h c4)
          have hwd := c4
          refine lv_iload_n hx hb dX5_cheapest_123 rfl (lv_at hl 2 rfl) ?_
          have w5 : (us (us (us v 11 (p_chv N t n k 0)) 12 (p_chv N t n k 1)) 13 (p_chv N t n k 2)) = (us (us (us v 11 (p_helpv N t n 0)) 12 (p_helpv N t n 1)) 13 (p_helpv N t n 2)) := by rw [ch_v2 hwd hk0]
          have hP : va_P D vwCl (mdW cI a N P T U (us (us (us v 11 (p_helpv N t n 0)) 12 (p_helpv N t n 1)) 13 (p_helpv N t n 2))) H := (congrArg (fun zz => va_P D vwCl (mdW cI a N P T U zz) H) w5).mp hP
          have hD : va_D (va_A (mdW cI a N P T U v) s.heap.size) (mdW cI a N P T U (us (us (us v 11 (p_helpv N t n 0)) 12 (p_helpv N t n 1)) 13 (p_helpv N t n 2))) := (congrArg (fun zz => va_D (va_A (mdW cI a N P T U v) s.heap.size) (mdW cI a N P T U zz)) w5).mp hD
          have hP : va_P D vwCl (mdW cI a N P T U (us (us (us v 11 (p_helpv N t n 0)) 12 (p_helpv N t n 1)) 13 (p_helpv N t n 2))) H := hP
          have hD : va_D (va_A (mdW cI a N P T U v) s.heap.size) (mdW cI a N P T U (us (us (us v 11 (p_helpv N t n 0)) 12 (p_helpv N t n 1)) 13 (p_helpv N t n 2))) := hD
          exact k_eMi hx hb hr hlocks hP hS (by exact ch_end2 hwd hk0) dX5_cheapest_124
        · have c4 := bI_eq0 c4
          have hnw := c4
          refine lv_aload_n hx hb dX5_cheapest_27 rfl (lv_at hl 0 rfl) ?_
          refine lv_iload hx hb dX5_cheapest_28 (lv_at hl 4 rfl) ?_
          refine lv_bipush (v := 6) hx hb dX5_cheapest_30 (by decide) ?_
          refine k_riV (As := [.int (nI k), .int (nI 6)]) (rest := []) (wc := mdW cI a N P T U (us (us (us v 11 (p_chv N t n k 0)) 12 (p_chv N t n k 1)) 13 (p_chv N t n k 2))) ⟨hx, hb, hml, hown, hts⟩ (c_X5_of l D cI cS cL a N P T U (us (us (us v 11 (p_chv N t n k 0)) 12 (p_chv N t n k 1)) 13 (p_chv N t n k 2)) _ k 6 9 (by omega) (by decide) rfl) lkX5_37 rfl rfl ⟨(Nat.le_of_ble_eq_true rfl), (Nat.le_of_ble_eq_true rfl)⟩ (va_recv hK hP (ci := 4) (q0 := 0) rfl rfl) hK hE hP hD rfl hl.1 rfl (Nat.le_of_ble_eq_true rfl) dX5_cheapest_32 ⟨Nat.zero_le _, Nat.zero_le _⟩ ?_
          refine lv_iconst (v := 3) hx hb dX5_cheapest_35 (by decide) ?_
          refine lv_icmp_ne (tgt := 62) hx hb dX5_cheapest_36 (by decide) (fun c6 => ?_) (fun c6 => ?_)
          · refine lv_iconst (v := 0) hx hb dX5_cheapest_62 (by decide) ?_
            refine lv_istore (lv' := [(5, .int 0), (0, .ref (a 0)), (1, .int (nI t)), (2, .int (p_ch N t n k)), (3, .int (bI (decide (N 2 t ≤ p_lay N (nI t) (-1) n 0)))), (4, .int (nI k))]) hx hb dX5_cheapest_63 hl (by decide) rfl (fun ls hl => ?_)
            refine lv_iload hx hb dX5_cheapest_65 (lv_at hl 0 rfl) ?_
            refine lv_if_eq (tgt := 115) hx hb dX5_cheapest_67 (by decide) (fun _ => ?_) (fun h => absurd (by decide) h)
            refine lv_iload_n hx hb dX5_cheapest_115 rfl (lv_at hl 3 rfl) ?_
            refine lv_istore_n (lv' := [(2, .int (p_ch N t n k)), (5, .int 0), (0, .ref (a 0)), (1, .int (nI t)), (3, .int (bI (decide (N 2 t ≤ p_lay N (nI t) (-1) n 0)))), (4, .int (nI k))]) hx hb dX5_cheapest_116 rfl hl (by decide) rfl (fun ls hl => ?_)
            refine lv_iinc (v := nI (k + 1)) (lv' := [(4, .int (nI (k + 1))), (2, .int (p_ch N t n k)), (5, .int 0), (0, .ref (a 0)), (1, .int (nI t)), (3, .int (bI (decide (N 2 t ≤ p_lay N (nI t) (-1) n 0))))]) hx hb dX5_cheapest_117 hl (k := 5) rfl (nI_1 _) (by decide) rfl (fun ls hl => ?_)
            refine lv_goto (tgt := 12) hx hb dX5_cheapest_120 (by decide) ?_
            have hl : lv_has ls 6 [(0, .ref (a 0)), (1, .int (nI t)), (2, .int (p_ch N t n k)), (3, .int (bI (decide (N 2 t ≤ p_lay N (nI t) (-1) n 0)))), (4, .int (nI (k + 1)))] := lv_sub hl [3, 4, 1, 5, 0] rfl
            have w7 : p_ch N t n k = p_ch N t n (k + 1) := by exact (ch_no (fun h => absurd h.1 (by simp [c2, c2', hkn, c4, hnw, c6]))).symm
            have hl : lv_has ls 6 [(0, .ref (a 0)), (1, .int (nI t)), (2, .int (p_ch N t n (k + 1))), (3, .int (bI (decide (N 2 t ≤ p_lay N (nI t) (-1) n 0)))), (4, .int (nI (k + 1)))] := (congrArg (fun zz => lv_has ls 6 [(0, .ref (a 0)), (1, .int (nI t)), (2, .int zz), (3, .int (bI (decide (N 2 t ≤ p_lay N (nI t) (-1) n 0)))), (4, .int (nI (k + 1)))]) w7).mp hl
            have hl : lv_has ls 6 [(0, .ref (a 0)), (1, .int (nI t)), (2, .int (p_ch N t n (k + 1))), (3, .int (bI (decide (N 2 t ≤ p_lay N (nI t) (-1) n 0)))), (4, .int (nI (k + 1)))] := hl
            have w8 : (us (us (us v 11 (p_chv N t n k 0)) 12 (p_chv N t n k 1)) 13 (p_chv N t n k 2)) = (us (us (us v 11 (p_chv N t n (k + 1) 0)) 12 (p_chv N t n (k + 1) 1)) 13 (p_chv N t n (k + 1) 2)) := by simp [p_chv, c2, c2', hkn, c4, hnw, c6]
            have hP : va_P D vwCl (mdW cI a N P T U (us (us (us v 11 (p_chv N t n (k + 1) 0)) 12 (p_chv N t n (k + 1) 1)) 13 (p_chv N t n (k + 1) 2))) H := (congrArg (fun zz => va_P D vwCl (mdW cI a N P T U zz) H) w8).mp hP
            have hD : va_D (va_A (mdW cI a N P T U v) s.heap.size) (mdW cI a N P T U (us (us (us v 11 (p_chv N t n (k + 1) 0)) 12 (p_chv N t n (k + 1) 1)) 13 (p_chv N t n (k + 1) 2))) := (congrArg (fun zz => va_D (va_A (mdW cI a N P T U v) s.heap.size) (mdW cI a N P T U zz)) w8).mp hD
            have hP : va_P D vwCl (mdW cI a N P T U (us (us (us v 11 (p_chv N t n (k + 1) 0)) 12 (p_chv N t n (k + 1) 1)) 13 (p_chv N t n (k + 1) 2))) H := hP
            have hD : va_D (va_A (mdW cI a N P T U v) s.heap.size) (mdW cI a N P T U (us (us (us v 11 (p_chv N t n (k + 1) 0)) 12 (p_chv N t n (k + 1) 1)) 13 (p_chv N t n (k + 1) 2))) := hD
            exact ih (k + 1) (by omega) (by omega) (Or.inr hnw) H locs hP hD hS hS.1 ls hl
          · refine lv_aload_n hx hb dX5_cheapest_39 rfl (lv_at hl 0 rfl) ?_
            refine lv_iload hx hb dX5_cheapest_40 (lv_at hl 4 rfl) ?_
            refine k_riV (As := [.int (nI k)]) (rest := []) (wc := mdW cI a N P T U (us (us (us v 11 (p_chv N t n k 0)) 12 (p_chv N t n k 1)) 13 (p_chv N t n k 2))) ⟨hx, hb, hml, hown, hts⟩ (c_X5_isReady l D cI cS cL a N P T U (us (us (us v 11 (p_chv N t n k 0)) 12 (p_chv N t n k 1)) 13 (p_chv N t n k 2)) _ k (by omega) hd0) lkX5_62 rfl rfl ⟨(Nat.le_of_ble_eq_true rfl), (Nat.le_of_ble_eq_true rfl)⟩ (va_recv hK hP (ci := 4) (q0 := 0) rfl rfl) hK hE hP hD rfl hl.1 rfl (Nat.le_of_ble_eq_true rfl) dX5_cheapest_42 ⟨Nat.zero_le _, Nat.zero_le _⟩ ?_
            refine lv_if_eq (tgt := 62) hx hb dX5_cheapest_45 (by decide) (fun c9 => ?_) (fun c9 => ?_)
            · have c9 := bI_eq0 c9
              refine lv_iconst (v := 0) hx hb dX5_cheapest_62 (by decide) ?_
              refine lv_istore (lv' := [(5, .int 0), (0, .ref (a 0)), (1, .int (nI t)), (2, .int (p_ch N t n k)), (3, .int (bI (decide (N 2 t ≤ p_lay N (nI t) (-1) n 0)))), (4, .int (nI k))]) hx hb dX5_cheapest_63 hl (by decide) rfl (fun ls hl => ?_)
              refine lv_iload hx hb dX5_cheapest_65 (lv_at hl 0 rfl) ?_
              refine lv_if_eq (tgt := 115) hx hb dX5_cheapest_67 (by decide) (fun _ => ?_) (fun h => absurd (by decide) h)
              refine lv_iload_n hx hb dX5_cheapest_115 rfl (lv_at hl 3 rfl) ?_
              refine lv_istore_n (lv' := [(2, .int (p_ch N t n k)), (5, .int 0), (0, .ref (a 0)), (1, .int (nI t)), (3, .int (bI (decide (N 2 t ≤ p_lay N (nI t) (-1) n 0)))), (4, .int (nI k))]) hx hb dX5_cheapest_116 rfl hl (by decide) rfl (fun ls hl => ?_)
              refine lv_iinc (v := nI (k + 1)) (lv' := [(4, .int (nI (k + 1))), (2, .int (p_ch N t n k)), (5, .int 0), (0, .ref (a 0)), (1, .int (nI t)), (3, .int (bI (decide (N 2 t ≤ p_lay N (nI t) (-1) n 0))))]) hx hb dX5_cheapest_117 hl (k := 5) rfl (nI_1 _) (by decide) rfl (fun ls hl => ?_)
              refine lv_goto (tgt := 12) hx hb dX5_cheapest_120 (by decide) ?_
              have hl : lv_has ls 6 [(0, .ref (a 0)), (1, .int (nI t)), (2, .int (p_ch N t n k)), (3, .int (bI (decide (N 2 t ≤ p_lay N (nI t) (-1) n 0)))), (4, .int (nI (k + 1)))] := lv_sub hl [3, 4, 1, 5, 0] rfl
              have w10 : p_ch N t n k = p_ch N t n (k + 1) := by exact (ch_no (fun h => absurd h.1 (by simp [c2, c2', hkn, c4, hnw, c6, c9]))).symm
              have hl : lv_has ls 6 [(0, .ref (a 0)), (1, .int (nI t)), (2, .int (p_ch N t n (k + 1))), (3, .int (bI (decide (N 2 t ≤ p_lay N (nI t) (-1) n 0)))), (4, .int (nI (k + 1)))] := (congrArg (fun zz => lv_has ls 6 [(0, .ref (a 0)), (1, .int (nI t)), (2, .int zz), (3, .int (bI (decide (N 2 t ≤ p_lay N (nI t) (-1) n 0)))), (4, .int (nI (k + 1)))]) w10).mp hl
              have hl : lv_has ls 6 [(0, .ref (a 0)), (1, .int (nI t)), (2, .int (p_ch N t n (k + 1))), (3, .int (bI (decide (N 2 t ≤ p_lay N (nI t) (-1) n 0)))), (4, .int (nI (k + 1)))] := hl
              have w11 : (us (us (us v 11 (p_chv N t n k 0)) 12 (p_chv N t n k 1)) 13 (p_chv N t n k 2)) = (us (us (us v 11 (p_chv N t n (k + 1) 0)) 12 (p_chv N t n (k + 1) 1)) 13 (p_chv N t n (k + 1) 2)) := by simp [p_chv, c2, c2', hkn, c4, hnw, c6, c9]
              have hP : va_P D vwCl (mdW cI a N P T U (us (us (us v 11 (p_chv N t n (k + 1) 0)) 12 (p_chv N t n (k + 1) 1)) 13 (p_chv N t n (k + 1) 2))) H := (congrArg (fun zz => va_P D vwCl (mdW cI a N P T U zz) H) w11).mp hP
              have hD : va_D (va_A (mdW cI a N P T U v) s.heap.size) (mdW cI a N P T U (us (us (us v 11 (p_chv N t n (k + 1) 0)) 12 (p_chv N t n (k + 1) 1)) 13 (p_chv N t n (k + 1) 2))) := (congrArg (fun zz => va_D (va_A (mdW cI a N P T U v) s.heap.size) (mdW cI a N P T U zz)) w11).mp hD
              have hP : va_P D vwCl (mdW cI a N P T U (us (us (us v 11 (p_chv N t n (k + 1) 0)) 12 (p_chv N t n (k + 1) 1)) 13 (p_chv N t n (k + 1) 2))) H := hP
              have hD : va_D (va_A (mdW cI a N P T U v) s.heap.size) (mdW cI a N P T U (us (us (us v 11 (p_chv N t n (k + 1) 0)) 12 (p_chv N t n (k + 1) 1)) 13 (p_chv N t n (k + 1) 2))) := hD
              exact ih (k + 1) (by omega) (by omega) (Or.inr hnw) H locs hP hD hS hS.1 ls hl
            · have c9 := bI_ne0 c9
              refine lv_aload_n hx hb dX5_cheapest_48 rfl (lv_at hl 0 rfl) ?_
              refine lv_iload_n hx hb dX5_cheapest_49 rfl (lv_at hl 1 rfl) ?_
              refine lv_iload hx hb dX5_cheapest_50 (lv_at hl 4 rfl) ?_
              refine k_miV (As := [.int (nI t), .int (nI k)]) (rest := []) (w1 := []) (wc := mdW cI a N P T U (us (us (us v 11 (p_chv N t n k 0)) 12 (p_chv N t n k 1)) 13 (p_chv N t n k 2))) (wc' := mdW cI a N P T U (us (us (us v 11 (p_lay N (nI t) (nI k) n 0)) 12 (p_lay N (nI t) (nI k) n 1)) 13 (p_lay N (nI t) (nI k) n 2))) (w3 := []) ⟨hx, hb, hml, hown, hts⟩ (c_X5_isWhole l D cI cS cL a N P T U (us (us (us v 11 (p_chv N t n k 0)) 12 (p_chv N t n k 1)) 13 (p_chv N t n k 2)) _ n t (nI k) hn hn14 (by omega) hd0) lkX5_137 rfl rfl ⟨(Nat.le_of_ble_eq_true rfl), (Nat.le_of_ble_eq_true rfl)⟩ (va_recv hK hP (ci := 4) (q0 := 0) rfl rfl) hK hE hP hD hS hA rfl rfl hl.1 rfl (Nat.le_of_ble_eq_true rfl) dX5_cheapest_52 ⟨Nat.zero_le _, Nat.zero_le _⟩ (fun H locs hzz hP hD hS => ?_)
              have hP : va_P D vwCl (mdW cI a N P T U (us (us (us v 11 (p_lay N (nI t) (nI k) n 0)) 12 (p_lay N (nI t) (nI k) n 1)) 13 (p_lay N (nI t) (nI k) n 2))) H := hP
              have hD : va_D (va_A (mdW cI a N P T U v) s.heap.size) (mdW cI a N P T U (us (us (us v 11 (p_lay N (nI t) (nI k) n 0)) 12 (p_lay N (nI t) (nI k) n 1)) 13 (p_lay N (nI t) (nI k) n 2))) := hD
              refine lv_if_eq (tgt := 62) hx hb dX5_cheapest_55 (by decide) (fun c12 => ?_) (fun c12 => ?_)
              · have c12 := bI_eq0 c12
                refine lv_iconst (v := 0) hx hb dX5_cheapest_62 (by decide) ?_
                refine lv_istore (lv' := [(5, .int 0), (0, .ref (a 0)), (1, .int (nI t)), (2, .int (p_ch N t n k)), (3, .int (bI (decide (N 2 t ≤ p_lay N (nI t) (-1) n 0)))), (4, .int (nI k))]) hx hb dX5_cheapest_63 hl (by decide) rfl (fun ls hl => ?_)
                refine lv_iload hx hb dX5_cheapest_65 (lv_at hl 0 rfl) ?_
                refine lv_if_eq (tgt := 115) hx hb dX5_cheapest_67 (by decide) (fun _ => ?_) (fun h => absurd (by decide) h)
                refine lv_iload_n hx hb dX5_cheapest_115 rfl (lv_at hl 3 rfl) ?_
                refine lv_istore_n (lv' := [(2, .int (p_ch N t n k)), (5, .int 0), (0, .ref (a 0)), (1, .int (nI t)), (3, .int (bI (decide (N 2 t ≤ p_lay N (nI t) (-1) n 0)))), (4, .int (nI k))]) hx hb dX5_cheapest_116 rfl hl (by decide) rfl (fun ls hl => ?_)
                refine lv_iinc (v := nI (k + 1)) (lv' := [(4, .int (nI (k + 1))), (2, .int (p_ch N t n k)), (5, .int 0), (0, .ref (a 0)), (1, .int (nI t)), (3, .int (bI (decide (N 2 t ≤ p_lay N (nI t) (-1) n 0))))]) hx hb dX5_cheapest_117 hl (k := 5) rfl (nI_1 _) (by decide) rfl (fun ls hl => ?_)
                refine lv_goto (tgt := 12) hx hb dX5_cheapest_120 (by decide) ?_
                have hl : lv_has ls 6 [(0, .ref (a 0)), (1, .int (nI t)), (2, .int (p_ch N t n k)), (3, .int (bI (decide (N 2 t ≤ p_lay N (nI t) (-1) n 0)))), (4, .int (nI (k + 1)))] := lv_sub hl [3, 4, 1, 5, 0] rfl
                have w13 : p_ch N t n k = p_ch N t n (k + 1) := by exact (ch_no (fun h => absurd h.1 (by simp [c2, c2', hkn, c4, hnw, c6, c9, c12]))).symm
                have hl : lv_has ls 6 [(0, .ref (a 0)), (1, .int (nI t)), (2, .int (p_ch N t n (k + 1))), (3, .int (bI (decide (N 2 t ≤ p_lay N (nI t) (-1) n 0)))), (4, .int (nI (k + 1)))] := (congrArg (fun zz => lv_has ls 6 [(0, .ref (a 0)), (1, .int (nI t)), (2, .int zz), (3, .int (bI (decide (N 2 t ≤ p_lay N (nI t) (-1) n 0)))), (4, .int (nI (k + 1)))]) w13).mp hl
                have hl : lv_has ls 6 [(0, .ref (a 0)), (1, .int (nI t)), (2, .int (p_ch N t n (k + 1))), (3, .int (bI (decide (N 2 t ≤ p_lay N (nI t) (-1) n 0)))), (4, .int (nI (k + 1)))] := hl
                have w14 : (us (us (us v 11 (p_lay N (nI t) (nI k) n 0)) 12 (p_lay N (nI t) (nI k) n 1)) 13 (p_lay N (nI t) (nI k) n 2)) = (us (us (us v 11 (p_chv N t n (k + 1) 0)) 12 (p_chv N t n (k + 1) 1)) 13 (p_chv N t n (k + 1) 2)) := by simp [p_chv, c2, c2', hkn, c4, hnw, c6, c9, c12]
                have hP : va_P D vwCl (mdW cI a N P T U (us (us (us v 11 (p_chv N t n (k + 1) 0)) 12 (p_chv N t n (k + 1) 1)) 13 (p_chv N t n (k + 1) 2))) H := (congrArg (fun zz => va_P D vwCl (mdW cI a N P T U zz) H) w14).mp hP
                have hD : va_D (va_A (mdW cI a N P T U v) s.heap.size) (mdW cI a N P T U (us (us (us v 11 (p_chv N t n (k + 1) 0)) 12 (p_chv N t n (k + 1) 1)) 13 (p_chv N t n (k + 1) 2))) := (congrArg (fun zz => va_D (va_A (mdW cI a N P T U v) s.heap.size) (mdW cI a N P T U zz)) w14).mp hD
                have hP : va_P D vwCl (mdW cI a N P T U (us (us (us v 11 (p_chv N t n (k + 1) 0)) 12 (p_chv N t n (k + 1) 1)) 13 (p_chv N t n (k + 1) 2))) H := hP
                have hD : va_D (va_A (mdW cI a N P T U v) s.heap.size) (mdW cI a N P T U (us (us (us v 11 (p_chv N t n (k + 1) 0)) 12 (p_chv N t n (k + 1) 1)) 13 (p_chv N t n (k + 1) 2))) := hD
                exact ih (k + 1) (by omega) (by omega) (Or.inr hnw) H locs hP hD hS hS.1 ls hl
              · have c12 := bI_ne0 c12
                refine lv_iconst (v := 1) hx hb dX5_cheapest_58 (by decide) ?_
                refine lv_goto (tgt := 63) hx hb dX5_cheapest_59 (by decide) ?_
                refine lv_istore (lv' := [(5, .int 1), (0, .ref (a 0)), (1, .int (nI t)), (2, .int (p_ch N t n k)), (3, .int (bI (decide (N 2 t ≤ p_lay N (nI t) (-1) n 0)))), (4, .int (nI k))]) hx hb dX5_cheapest_63 hl (by decide) rfl (fun ls hl => ?_)
                refine lv_iload hx hb dX5_cheapest_65 (lv_at hl 0 rfl) ?_
                refine lv_if_eq (tgt := 115) hx hb dX5_cheapest_67 (by decide) (fun h => absurd h (by decide)) (fun _ => ?_)
                refine lv_iload_n hx hb dX5_cheapest_70 rfl (lv_at hl 3 rfl) ?_
                refine lv_iconst (v := (-1)) hx hb dX5_cheapest_71 (by decide) ?_
                refine lv_icmp_eq (tgt := 110) hx hb dX5_cheapest_72 (by decide) (fun c15 => ?_) (fun c15 => ?_)
                · have heq1 := c15
                  refine lv_iload hx hb dX5_cheapest_110 (lv_at hl 5 rfl) ?_
                  refine lv_goto (tgt := 116) hx hb dX5_cheapest_112 (by decide) ?_
                  refine lv_istore_n (lv' := [(2, .int (nI k)), (5, .int 1), (0, .ref (a 0)), (1, .int (nI t)), (3, .int (bI (decide (N 2 t ≤ p_lay N (nI t) (-1) n 0)))), (4, .int (nI k))]) hx hb dX5_cheapest_116 rfl hl (by decide) rfl (fun ls hl => ?_)
                  refine lv_iinc (v := nI (k + 1)) (lv' := [(4, .int (nI (k + 1))), (2, .int (nI k)), (5, .int 1), (0, .ref (a 0)), (1, .int (nI t)), (3, .int (bI (decide (N 2 t ≤ p_lay N (nI t) (-1) n 0))))]) hx hb dX5_cheapest_117 hl (k := 5) rfl (nI_1 _) (by decide) rfl (fun ls hl => ?_)
                  refine lv_goto (tgt := 12) hx hb dX5_cheapest_120 (by decide) ?_
                  have hl : lv_has ls 6 [(0, .ref (a 0)), (1, .int (nI t)), (2, .int (nI k)), (3, .int (bI (decide (N 2 t ≤ p_lay N (nI t) (-1) n 0)))), (4, .int (nI (k + 1)))] := lv_sub hl [3, 4, 1, 5, 0] rfl
                  have w16 : nI k = p_ch N t n (k + 1) := by exact (ch_yes (by simp [c2, c2', hkn, c4, hnw, c6, c9, c12, c15, heq1]) (Or.inl heq1)).symm
                  have hl : lv_has ls 6 [(0, .ref (a 0)), (1, .int (nI t)), (2, .int (p_ch N t n (k + 1))), (3, .int (bI (decide (N 2 t ≤ p_lay N (nI t) (-1) n 0)))), (4, .int (nI (k + 1)))] := (congrArg (fun zz => lv_has ls 6 [(0, .ref (a 0)), (1, .int (nI t)), (2, .int zz), (3, .int (bI (decide (N 2 t ≤ p_lay N (nI t) (-1) n 0)))), (4, .int (nI (k + 1)))]) w16).mp hl
                  have hl : lv_has ls 6 [(0, .ref (a 0)), (1, .int (nI t)), (2, .int (p_ch N t n (k + 1))), (3, .int (bI (decide (N 2 t ≤ p_lay N (nI t) (-1) n 0)))), (4, .int (nI (k + 1)))] := hl
                  have w17 : (us (us (us v 11 (p_lay N (nI t) (nI k) n 0)) 12 (p_lay N (nI t) (nI k) n 1)) 13 (p_lay N (nI t) (nI k) n 2)) = (us (us (us v 11 (p_chv N t n (k + 1) 0)) 12 (p_chv N t n (k + 1) 1)) 13 (p_chv N t n (k + 1) 2)) := by simp [p_chv, c2, c2', hkn, c4, hnw, c6, c9, c12, c15, heq1]
                  have hP : va_P D vwCl (mdW cI a N P T U (us (us (us v 11 (p_chv N t n (k + 1) 0)) 12 (p_chv N t n (k + 1) 1)) 13 (p_chv N t n (k + 1) 2))) H := (congrArg (fun zz => va_P D vwCl (mdW cI a N P T U zz) H) w17).mp hP
                  have hD : va_D (va_A (mdW cI a N P T U v) s.heap.size) (mdW cI a N P T U (us (us (us v 11 (p_chv N t n (k + 1) 0)) 12 (p_chv N t n (k + 1) 1)) 13 (p_chv N t n (k + 1) 2))) := (congrArg (fun zz => va_D (va_A (mdW cI a N P T U v) s.heap.size) (mdW cI a N P T U zz)) w17).mp hD
                  have hP : va_P D vwCl (mdW cI a N P T U (us (us (us v 11 (p_chv N t n (k + 1) 0)) 12 (p_chv N t n (k + 1) 1)) 13 (p_chv N t n (k + 1) 2))) H := hP
                  have hD : va_D (va_A (mdW cI a N P T U v) s.heap.size) (mdW cI a N P T U (us (us (us v 11 (p_chv N t n (k + 1) 0)) 12 (p_chv N t n (k + 1) 1)) 13 (p_chv N t n (k + 1) 2))) := hD
                  exact ih (k + 1) (by omega) (by omega) (Or.inr hnw) H locs hP hD hS hS.1 ls hl
                · have hne1 := c15
                  obtain ⟨j, hjk, hje⟩ := p_ch_nI c15
                  have _hpj : p_price N (p_ch N t n k).toNatClampNeg = p_cost (N 3 j) (N 4 j) := p_price_up hje (by omega)
                  rw [hje] at hl
                  refine lv_aload_n hx hb dX5_cheapest_75 rfl (lv_at hl 1 rfl) ?_
                  refine lv_iload hx hb dX5_cheapest_76 (lv_at hl 5 rfl) ?_
                  refine lv_iconst (v := 0) hx hb dX5_cheapest_78 (by decide) ?_
                  refine k_riV (As := [.int (nI k), .int (nI 0)]) (rest := []) (wc := mdW cI a N P T U (us (us (us v 11 (p_lay N (nI t) (nI k) n 0)) 12 (p_lay N (nI t) (nI k) n 1)) 13 (p_lay N (nI t) (nI k) n 2))) ⟨hx, hb, hml, hown, hts⟩ (c_X5_of l D cI cS cL a N P T U (us (us (us v 11 (p_lay N (nI t) (nI k) n 0)) 12 (p_lay N (nI t) (nI k) n 1)) 13 (p_lay N (nI t) (nI k) n 2)) _ k 0 3 (by omega) (by decide) rfl) lkX5_37 rfl rfl ⟨(Nat.le_of_ble_eq_true rfl), (Nat.le_of_ble_eq_true rfl)⟩ (va_recv hK hP (ci := 4) (q0 := 0) rfl rfl) hK hE hP hD rfl hl.1 rfl (Nat.le_of_ble_eq_true rfl) dX5_cheapest_79 ⟨Nat.zero_le _, Nat.zero_le _⟩ ?_
                  refine lv_aload_n hx hb dX5_cheapest_82 rfl (lv_at hl 1 rfl) ?_
                  refine lv_iload hx hb dX5_cheapest_83 (lv_at hl 5 rfl) ?_
                  refine lv_iconst (v := 1) hx hb dX5_cheapest_85 (by decide) ?_
                  refine k_riV (As := [.int (nI k), .int (nI 1)]) (rest := [.int (N 3 k)]) (wc := mdW cI a N P T U (us (us (us v 11 (p_lay N (nI t) (nI k) n 0)) 12 (p_lay N (nI t) (nI k) n 1)) 13 (p_lay N (nI t) (nI k) n 2))) ⟨hx, hb, hml, hown, hts⟩ (c_X5_of l D cI cS cL a N P T U (us (us (us v 11 (p_lay N (nI t) (nI k) n 0)) 12 (p_lay N (nI t) (nI k) n 1)) 13 (p_lay N (nI t) (nI k) n 2)) _ k 1 4 (by omega) (by decide) rfl) lkX5_37 rfl rfl ⟨(Nat.le_of_ble_eq_true rfl), (Nat.le_of_ble_eq_true rfl)⟩ (va_recv hK hP (ci := 4) (q0 := 0) rfl rfl) hK hE hP hD rfl hl.1 rfl (Nat.le_of_ble_eq_true rfl) dX5_cheapest_86 ⟨Nat.zero_le _, Nat.zero_le _⟩ ?_
                  refine k_riS (As := [.int (N 3 k), .int (N 4 k)]) (rest := []) (wc := []) ⟨hx, hb, hml, hown, hts⟩ (c_X5_cost l D cI cS cL _ (N 3 k) (N 4 k) (hkds k hkn)) lkX5_70 rfl rfl ⟨(Nat.le_of_ble_eq_true rfl), (Nat.le_of_ble_eq_true rfl)⟩ hK hE k_nilP (k_nilD (A := va_A (mdW cI a N P T U v) s.heap.size)) rfl hl.1 rfl (Nat.le_of_ble_eq_true rfl) dX5_cheapest_89 ⟨Nat.zero_le _, Nat.zero_le _⟩ ?_
                  refine lv_aload_n hx hb dX5_cheapest_92 rfl (lv_at hl 1 rfl) ?_
                  refine lv_iload_n hx hb dX5_cheapest_93 rfl (lv_at hl 3 rfl) ?_
                  refine lv_iconst (v := 0) hx hb dX5_cheapest_94 (by decide) ?_
                  refine k_riV (As := [.int (nI j), .int (nI 0)]) (rest := [.int (p_cost (N 3 k) (N 4 k))]) (wc := mdW cI a N P T U (us (us (us v 11 (p_lay N (nI t) (nI k) n 0)) 12 (p_lay N (nI t) (nI k) n 1)) 13 (p_lay N (nI t) (nI k) n 2))) ⟨hx, hb, hml, hown, hts⟩ (c_X5_of l D cI cS cL a N P T U (us (us (us v 11 (p_lay N (nI t) (nI k) n 0)) 12 (p_lay N (nI t) (nI k) n 1)) 13 (p_lay N (nI t) (nI k) n 2)) _ j 0 3 (by omega) (by decide) rfl) lkX5_37 rfl rfl ⟨(Nat.le_of_ble_eq_true rfl), (Nat.le_of_ble_eq_true rfl)⟩ (va_recv hK hP (ci := 4) (q0 := 0) rfl rfl) hK hE hP hD rfl hl.1 rfl (Nat.le_of_ble_eq_true rfl) dX5_cheapest_95 ⟨Nat.zero_le _, Nat.zero_le _⟩ ?_
                  refine lv_aload_n hx hb dX5_cheapest_98 rfl (lv_at hl 1 rfl) ?_
                  refine lv_iload_n hx hb dX5_cheapest_99 rfl (lv_at hl 3 rfl) ?_
                  refine lv_iconst (v := 1) hx hb dX5_cheapest_100 (by decide) ?_
                  refine k_riV (As := [.int (nI j), .int (nI 1)]) (rest := [.int (N 3 j), .int (p_cost (N 3 k) (N 4 k))]) (wc := mdW cI a N P T U (us (us (us v 11 (p_lay N (nI t) (nI k) n 0)) 12 (p_lay N (nI t) (nI k) n 1)) 13 (p_lay N (nI t) (nI k) n 2))) ⟨hx, hb, hml, hown, hts⟩ (c_X5_of l D cI cS cL a N P T U (us (us (us v 11 (p_lay N (nI t) (nI k) n 0)) 12 (p_lay N (nI t) (nI k) n 1)) 13 (p_lay N (nI t) (nI k) n 2)) _ j 1 4 (by omega) (by decide) rfl) lkX5_37 rfl rfl ⟨(Nat.le_of_ble_eq_true rfl), (Nat.le_of_ble_eq_true rfl)⟩ (va_recv hK hP (ci := 4) (q0 := 0) rfl rfl) hK hE hP hD rfl hl.1 rfl (Nat.le_of_ble_eq_true rfl) dX5_cheapest_101 ⟨Nat.zero_le _, Nat.zero_le _⟩ ?_
                  refine k_riS (As := [.int (N 3 j), .int (N 4 j)]) (rest := [.int (p_cost (N 3 k) (N 4 k))]) (wc := []) ⟨hx, hb, hml, hown, hts⟩ (c_X5_cost l D cI cS cL _ (N 3 j) (N 4 j) (hkds j (by omega))) lkX5_70 rfl rfl ⟨(Nat.le_of_ble_eq_true rfl), (Nat.le_of_ble_eq_true rfl)⟩ hK hE k_nilP (k_nilD (A := va_A (mdW cI a N P T U v) s.heap.size)) rfl hl.1 rfl (Nat.le_of_ble_eq_true rfl) dX5_cheapest_104 ⟨Nat.zero_le _, Nat.zero_le _⟩ ?_
                  refine lv_icmp_ge (tgt := 115) hx hb dX5_cheapest_107 (by decide) (fun c18 => ?_) (fun c18 => ?_)
                  · have c18' := Int32.not_lt.mpr c18
                    have hcn : ¬ (p_ch N t n k = -1 ∨ p_price N k < p_price N (p_ch N t n k).toNatClampNeg) := fun h => h.elim hne1 (fun h => absurd (by rw [_hpj] at h; exact h) (Int32.not_lt.mpr c18))
                    refine lv_iload_n hx hb dX5_cheapest_115 rfl (lv_at hl 3 rfl) ?_
                    refine lv_istore_n (lv' := [(2, .int (nI j)), (5, .int 1), (0, .ref (a 0)), (1, .int (nI t)), (3, .int (bI (decide (N 2 t ≤ p_lay N (nI t) (-1) n 0)))), (4, .int (nI k))]) hx hb dX5_cheapest_116 rfl hl (by decide) rfl (fun ls hl => ?_)
                    refine lv_iinc (v := nI (k + 1)) (lv' := [(4, .int (nI (k + 1))), (2, .int (nI j)), (5, .int 1), (0, .ref (a 0)), (1, .int (nI t)), (3, .int (bI (decide (N 2 t ≤ p_lay N (nI t) (-1) n 0))))]) hx hb dX5_cheapest_117 hl (k := 5) rfl (nI_1 _) (by decide) rfl (fun ls hl => ?_)
                    refine lv_goto (tgt := 12) hx hb dX5_cheapest_120 (by decide) ?_
                    have hl : lv_has ls 6 [(0, .ref (a 0)), (1, .int (nI t)), (2, .int (nI j)), (3, .int (bI (decide (N 2 t ≤ p_lay N (nI t) (-1) n 0)))), (4, .int (nI (k + 1)))] := lv_sub hl [3, 4, 1, 5, 0] rfl
                    have w19 : nI j = p_ch N t n (k + 1) := by rw [← hje]; exact (ch_no (fun h => hcn h.2)).symm
                    have hl : lv_has ls 6 [(0, .ref (a 0)), (1, .int (nI t)), (2, .int (p_ch N t n (k + 1))), (3, .int (bI (decide (N 2 t ≤ p_lay N (nI t) (-1) n 0)))), (4, .int (nI (k + 1)))] := (congrArg (fun zz => lv_has ls 6 [(0, .ref (a 0)), (1, .int (nI t)), (2, .int zz), (3, .int (bI (decide (N 2 t ≤ p_lay N (nI t) (-1) n 0)))), (4, .int (nI (k + 1)))]) w19).mp hl
                    have hl : lv_has ls 6 [(0, .ref (a 0)), (1, .int (nI t)), (2, .int (p_ch N t n (k + 1))), (3, .int (bI (decide (N 2 t ≤ p_lay N (nI t) (-1) n 0)))), (4, .int (nI (k + 1)))] := hl
                    have w20 : (us (us (us v 11 (p_lay N (nI t) (nI k) n 0)) 12 (p_lay N (nI t) (nI k) n 1)) 13 (p_lay N (nI t) (nI k) n 2)) = (us (us (us v 11 (p_chv N t n (k + 1) 0)) 12 (p_chv N t n (k + 1) 1)) 13 (p_chv N t n (k + 1) 2)) := by simp [p_chv, c2, c2', hkn, c4, hnw, c6, c9, c12]
                    have hP : va_P D vwCl (mdW cI a N P T U (us (us (us v 11 (p_chv N t n (k + 1) 0)) 12 (p_chv N t n (k + 1) 1)) 13 (p_chv N t n (k + 1) 2))) H := (congrArg (fun zz => va_P D vwCl (mdW cI a N P T U zz) H) w20).mp hP
                    have hD : va_D (va_A (mdW cI a N P T U v) s.heap.size) (mdW cI a N P T U (us (us (us v 11 (p_chv N t n (k + 1) 0)) 12 (p_chv N t n (k + 1) 1)) 13 (p_chv N t n (k + 1) 2))) := (congrArg (fun zz => va_D (va_A (mdW cI a N P T U v) s.heap.size) (mdW cI a N P T U zz)) w20).mp hD
                    have hP : va_P D vwCl (mdW cI a N P T U (us (us (us v 11 (p_chv N t n (k + 1) 0)) 12 (p_chv N t n (k + 1) 1)) 13 (p_chv N t n (k + 1) 2))) H := hP
                    have hD : va_D (va_A (mdW cI a N P T U v) s.heap.size) (mdW cI a N P T U (us (us (us v 11 (p_chv N t n (k + 1) 0)) 12 (p_chv N t n (k + 1) 1)) 13 (p_chv N t n (k + 1) 2))) := hD
                    exact ih (k + 1) (by omega) (by omega) (Or.inr hnw) H locs hP hD hS hS.1 ls hl
                  · have c18' := Int32.not_le.mp c18
                    have hlt : p_price N k < p_price N (p_ch N t n k).toNatClampNeg := by rw [_hpj]; exact c18'
                    refine lv_iload hx hb dX5_cheapest_110 (lv_at hl 5 rfl) ?_
                    refine lv_goto (tgt := 116) hx hb dX5_cheapest_112 (by decide) ?_
                    refine lv_istore_n (lv' := [(2, .int (nI k)), (5, .int 1), (0, .ref (a 0)), (1, .int (nI t)), (3, .int (bI (decide (N 2 t ≤ p_lay N (nI t) (-1) n 0)))), (4, .int (nI k))]) hx hb dX5_cheapest_116 rfl hl (by decide) rfl (fun ls hl => ?_)
                    refine lv_iinc (v := nI (k + 1)) (lv' := [(4, .int (nI (k + 1))), (2, .int (nI k)), (5, .int 1), (0, .ref (a 0)), (1, .int (nI t)), (3, .int (bI (decide (N 2 t ≤ p_lay N (nI t) (-1) n 0))))]) hx hb dX5_cheapest_117 hl (k := 5) rfl (nI_1 _) (by decide) rfl (fun ls hl => ?_)
                    refine lv_goto (tgt := 12) hx hb dX5_cheapest_120 (by decide) ?_
                    have hl : lv_has ls 6 [(0, .ref (a 0)), (1, .int (nI t)), (2, .int (nI k)), (3, .int (bI (decide (N 2 t ≤ p_lay N (nI t) (-1) n 0)))), (4, .int (nI (k + 1)))] := lv_sub hl [3, 4, 1, 5, 0] rfl
                    have w21 : nI k = p_ch N t n (k + 1) := by exact (ch_yes (by simp [c2, c2', hkn, c4, hnw, c6, c9, c12]) (Or.inr hlt)).symm
                    have hl : lv_has ls 6 [(0, .ref (a 0)), (1, .int (nI t)), (2, .int (p_ch N t n (k + 1))), (3, .int (bI (decide (N 2 t ≤ p_lay N (nI t) (-1) n 0)))), (4, .int (nI (k + 1)))] := (congrArg (fun zz => lv_has ls 6 [(0, .ref (a 0)), (1, .int (nI t)), (2, .int zz), (3, .int (bI (decide (N 2 t ≤ p_lay N (nI t) (-1) n 0)))), (4, .int (nI (k + 1)))]) w21).mp hl
                    have hl : lv_has ls 6 [(0, .ref (a 0)), (1, .int (nI t)), (2, .int (p_ch N t n (k + 1))), (3, .int (bI (decide (N 2 t ≤ p_lay N (nI t) (-1) n 0)))), (4, .int (nI (k + 1)))] := hl
                    have w22 : (us (us (us v 11 (p_lay N (nI t) (nI k) n 0)) 12 (p_lay N (nI t) (nI k) n 1)) 13 (p_lay N (nI t) (nI k) n 2)) = (us (us (us v 11 (p_chv N t n (k + 1) 0)) 12 (p_chv N t n (k + 1) 1)) 13 (p_chv N t n (k + 1) 2)) := by simp [p_chv, c2, c2', hkn, c4, hnw, c6, c9, c12]
                    have hP : va_P D vwCl (mdW cI a N P T U (us (us (us v 11 (p_chv N t n (k + 1) 0)) 12 (p_chv N t n (k + 1) 1)) 13 (p_chv N t n (k + 1) 2))) H := (congrArg (fun zz => va_P D vwCl (mdW cI a N P T U zz) H) w22).mp hP
                    have hD : va_D (va_A (mdW cI a N P T U v) s.heap.size) (mdW cI a N P T U (us (us (us v 11 (p_chv N t n (k + 1) 0)) 12 (p_chv N t n (k + 1) 1)) 13 (p_chv N t n (k + 1) 2))) := (congrArg (fun zz => va_D (va_A (mdW cI a N P T U v) s.heap.size) (mdW cI a N P T U zz)) w22).mp hD
                    have hP : va_P D vwCl (mdW cI a N P T U (us (us (us v 11 (p_chv N t n (k + 1) 0)) 12 (p_chv N t n (k + 1) 1)) 13 (p_chv N t n (k + 1) 2))) H := hP
                    have hD : va_D (va_A (mdW cI a N P T U v) s.heap.size) (mdW cI a N P T U (us (us (us v 11 (p_chv N t n (k + 1) 0)) 12 (p_chv N t n (k + 1) 1)) 13 (p_chv N t n (k + 1) 2))) := hD
                    exact ih (k + 1) (by omega) (by omega) (Or.inr hnw) H locs hP hD hS hS.1 ls hl
  have hl : lv_has ls 6 [(0, .ref (a 0)), (1, .int (nI t)), (2, .int (-1)), (3, .int (bI (decide (N 2 t ≤ p_lay N (nI t) (-1) n 0)))), (4, .int 0)] := lv_sub hl [3, 4, 2, 1, 0] rfl
  have hl : lv_has ls 6 [(0, .ref (a 0)), (1, .int (nI t)), (2, .int (p_ch N t n 0)), (3, .int (bI (decide (N 2 t ≤ p_lay N (nI t) (-1) n 0)))), (4, .int (nI 0))] := hl
  have hP : va_P D vwCl (mdW cI a N P T U (us (us (us v 11 (p_chv N t n 0 0)) 12 (p_chv N t n 0 1)) 13 (p_chv N t n 0 2))) H := hP
  have hD : va_D (va_A (mdW cI a N P T U v) s.heap.size) (mdW cI a N P T U (us (us (us v 11 (p_chv N t n 0 0)) 12 (p_chv N t n 0 1)) 13 (p_chv N t n 0 2))) := hD
  exact L1 (n - 0 + 1) 0 (by omega) (by omega) (Or.inl rfl) H locs hP hD hS hS.1 ls hl

abbrev rmX5_buys : Room := { frames := 1, cells := 0, slots := 0, locals := 21 }
set_option maxHeartbeats 4000000 in
set_option maxRecDepth 100000 in
theorem c_X5_buys (l : Launch) (D : va_G) (cI cS cL : ClassId) (a : Nat → Nat) (N : NN) (P T U v : Nat → Int32) (sz : Nat) (n : Nat) (kd ln cp pl : Int32) (hn : N 1 2 = nI n) (hn14 : n < 14) (hkd : kdOk kd) : Met l yX5_buys (wy_ yX5_buys cX5_buys 6 (some .int)) rmX5_buys (kPc D (kTy cI cS cL) (mdW cI a N P T U v) sz [.ref (a 0), .int kd, .int ln, .int cp, .int pl]) (kMi D (mdW cI a N P T U v) (mdW cI a (p_add N n kd ln cp pl) P T U v) sz (nI n)) 0 0 (va_A (mdW cI a N P T U v) sz) := by
  refine k_ofW (by decide) (Nat.le_of_ble_eq_true rfl) ?_
  intro p e s m args below meth c hx hb hr hml hts hown hlocks hnm hsz hP hK hD hE ls hl
  subst hsz
  have hA : ∀ q : Nat, s.heap.size ≤ q → (va_A (mdW cI a N P T U v) s.heap.size) q := fun q h => Or.inr h
  have hS : va_S (va_A (mdW cI a N P T U v) s.heap.size) s.heap s.heap [] := va_S.rf
  have hl : lv_has ls 6 [(0, .ref (a 0)), (1, .int kd), (2, .int ln), (3, .int cp), (4, .int pl)] := hl
  refine lv_bipush (v := 12) hx hb dX5_buys_0 (by decide) ?_
  refine lv_bipush (v := 8) hx hb dX5_buys_2 (by decide) ?_
  refine lv_aload_n hx hb dX5_buys_4 rfl (lv_at hl 0 rfl) ?_
  refine g5 hx hb hts hown hK hP 0 rfl 0 (by decide) flX5_7 (fun _ h => h) (v := .ref (a 1)) rfl dX5_buys_5 ?_
  refine lv_iconst (v := 5) hx hb dX5_buys_8 (by decide) ?_
  refine k_ald (k := 5) hx hb hK hP 1 0 rfl rfl rfl (by decide) (by decide) dX5_buys_9 ?_
  rw [show flat N (5) = N 1 2 from rfl]
  rw [show N 1 2 = nI n from hn]
  refine lv_imul hx hb dX5_buys_10 (lv_topi (fun x1 e1 => ?_))
  have q1 : x1 = nI (8 * n) := by rw [e1]; exact pk_mul 8 n
  subst q1
  refine lv_iadd hx hb dX5_buys_11 (lv_topi (fun x2 e2 => ?_))
  have q2 : x2 = nI (12 + 8 * n) := by rw [e2]; exact nI_add 12 (8 * n)
  subst q2
  refine lv_istore (lv' := [(5, .int (nI (12 + 8 * n))), (0, .ref (a 0)), (1, .int kd), (2, .int ln), (3, .int cp), (4, .int pl)]) hx hb dX5_buys_12 hl (by decide) rfl (fun ls hl => ?_)
  refine lv_aload_n hx hb dX5_buys_14 rfl (lv_at hl 1 rfl) ?_
  refine g5 hx hb hts hown hK hP 0 rfl 0 (by decide) flX5_7 (fun _ h => h) (v := .ref (a 1)) rfl dX5_buys_15 ?_
  refine lv_iload hx hb dX5_buys_18 (lv_at hl 0 rfl) ?_
  refine lv_iload_n hx hb dX5_buys_20 rfl (lv_at hl 2 rfl) ?_
  refine k_ast (k := 12 + 8 * n + 0) hx hb hK hP hD hS 1 0 rfl rfl rfl (by omega) (by decide) dX5_buys_21 (fun H locs hP hD hS => ?_)
  rw [flat_putH _ _ 0 _ (by decide)] at hP hD
  have hP : va_P D vwCl (mdW cI a (up2 N 3 n kd) P T U v) H := hP
  have hD : va_D (va_A (mdW cI a N P T U v) s.heap.size) (mdW cI a (up2 N 3 n kd) P T U v) := hD
  refine lv_aload_n hx hb dX5_buys_22 rfl (lv_at hl 1 rfl) ?_
  refine g5 hx hb hts hown hK hP 0 rfl 0 (by decide) flX5_7 (fun _ h => h) (v := .ref (a 1)) rfl dX5_buys_23 ?_
  refine lv_iload hx hb dX5_buys_26 (lv_at hl 0 rfl) ?_
  refine lv_iconst (v := 1) hx hb dX5_buys_28 (by decide) ?_
  refine lv_iadd hx hb dX5_buys_29 (lv_topi (fun x3 e3 => ?_))
  have q3 : x3 = nI (12 + 8 * n + 1) := by rw [e3]; exact nI_add (12 + 8 * n) 1
  subst q3
  refine lv_iload_n hx hb dX5_buys_30 rfl (lv_at hl 3 rfl) ?_
  refine k_ast (k := 12 + 8 * n + 1) hx hb hK hP hD hS 1 0 rfl rfl rfl (by omega) (by decide) dX5_buys_31 (fun H locs hP hD hS => ?_)
  rw [flat_putH _ _ 1 _ (by decide)] at hP hD
  have hP : va_P D vwCl (mdW cI a (up2 (up2 N 3 n kd) 4 n ln) P T U v) H := hP
  have hD : va_D (va_A (mdW cI a N P T U v) s.heap.size) (mdW cI a (up2 (up2 N 3 n kd) 4 n ln) P T U v) := hD
  refine lv_aload_n hx hb dX5_buys_32 rfl (lv_at hl 1 rfl) ?_
  refine g5 hx hb hts hown hK hP 0 rfl 0 (by decide) flX5_7 (fun _ h => h) (v := .ref (a 1)) rfl dX5_buys_33 ?_
  refine lv_iload hx hb dX5_buys_36 (lv_at hl 0 rfl) ?_
  refine lv_iconst (v := 2) hx hb dX5_buys_38 (by decide) ?_
  refine lv_iadd hx hb dX5_buys_39 (lv_topi (fun x4 e4 => ?_))
  have q4 : x4 = nI (12 + 8 * n + 2) := by rw [e4]; exact nI_add (12 + 8 * n) 2
  subst q4
  refine lv_iload_n hx hb dX5_buys_40 rfl (lv_at hl 4 rfl) ?_
  refine k_ast (k := 12 + 8 * n + 2) hx hb hK hP hD hS 1 0 rfl rfl rfl (by omega) (by decide) dX5_buys_41 (fun H locs hP hD hS => ?_)
  rw [flat_putH _ _ 2 _ (by decide)] at hP hD
  have hP : va_P D vwCl (mdW cI a (up2 (up2 (up2 N 3 n kd) 4 n ln) 5 n cp) P T U v) H := hP
  have hD : va_D (va_A (mdW cI a N P T U v) s.heap.size) (mdW cI a (up2 (up2 (up2 N 3 n kd) 4 n ln) 5 n cp) P T U v) := hD
  refine lv_aload_n hx hb dX5_buys_42 rfl (lv_at hl 1 rfl) ?_
  refine g5 hx hb hts hown hK hP 0 rfl 0 (by decide) flX5_7 (fun _ h => h) (v := .ref (a 1)) rfl dX5_buys_43 ?_
  refine lv_iload hx hb dX5_buys_46 (lv_at hl 0 rfl) ?_
  refine lv_iconst (v := 3) hx hb dX5_buys_48 (by decide) ?_
  refine lv_iadd hx hb dX5_buys_49 (lv_topi (fun x5 e5 => ?_))
  have q5 : x5 = nI (12 + 8 * n + 3) := by rw [e5]; exact nI_add (12 + 8 * n) 3
  subst q5
  refine lv_aload_n hx hb dX5_buys_50 rfl (lv_at hl 1 rfl) ?_
  refine g5 hx hb hts hown hK hP 0 rfl 0 (by decide) flX5_7 (fun _ h => h) (v := .ref (a 1)) rfl dX5_buys_51 ?_
  refine lv_iconst (v := 3) hx hb dX5_buys_54 (by decide) ?_
  refine k_ald (k := 3) hx hb hK hP 1 0 rfl rfl rfl (by decide) (by decide) dX5_buys_55 ?_
  rw [show flat (up2 (up2 (up2 N 3 n kd) 4 n ln) 5 n cp) (3) = N 1 0 from rfl]
  refine k_ast (k := 12 + 8 * n + 3) hx hb hK hP hD hS 1 0 rfl rfl rfl (by omega) (by decide) dX5_buys_56 (fun H locs hP hD hS => ?_)
  rw [flat_putH _ _ 3 _ (by decide)] at hP hD
  have hP : va_P D vwCl (mdW cI a (up2 (up2 (up2 (up2 N 3 n kd) 4 n ln) 5 n cp) 6 n (N 1 0)) P T U v) H := hP
  have hD : va_D (va_A (mdW cI a N P T U v) s.heap.size) (mdW cI a (up2 (up2 (up2 (up2 N 3 n kd) 4 n ln) 5 n cp) 6 n (N 1 0)) P T U v) := hD
  refine lv_aload_n hx hb dX5_buys_57 rfl (lv_at hl 1 rfl) ?_
  refine g5 hx hb hts hown hK hP 0 rfl 0 (by decide) flX5_7 (fun _ h => h) (v := .ref (a 1)) rfl dX5_buys_58 ?_
  refine lv_iload hx hb dX5_buys_61 (lv_at hl 0 rfl) ?_
  refine lv_iconst (v := 4) hx hb dX5_buys_63 (by decide) ?_
  refine lv_iadd hx hb dX5_buys_64 (lv_topi (fun x6 e6 => ?_))
  have q6 : x6 = nI (12 + 8 * n + 4) := by rw [e6]; exact nI_add (12 + 8 * n) 4
  subst q6
  refine lv_iconst (v := 0) hx hb dX5_buys_65 (by decide) ?_
  refine k_ast (k := 12 + 8 * n + 4) hx hb hK hP hD hS 1 0 rfl rfl rfl (by omega) (by decide) dX5_buys_66 (fun H locs hP hD hS => ?_)
  rw [flat_putH _ _ 4 _ (by decide)] at hP hD
  have hP : va_P D vwCl (mdW cI a (up2 (up2 (up2 (up2 (up2 N 3 n kd) 4 n ln) 5 n cp) 6 n (N 1 0)) 7 n 0) P T U v) H := hP
  have hD : va_D (va_A (mdW cI a N P T U v) s.heap.size) (mdW cI a (up2 (up2 (up2 (up2 (up2 N 3 n kd) 4 n ln) 5 n cp) 6 n (N 1 0)) 7 n 0) P T U v) := hD
  refine lv_aload_n hx hb dX5_buys_67 rfl (lv_at hl 1 rfl) ?_
  refine g5 hx hb hts hown hK hP 0 rfl 0 (by decide) flX5_7 (fun _ h => h) (v := .ref (a 1)) rfl dX5_buys_68 ?_
  refine lv_iload hx hb dX5_buys_71 (lv_at hl 0 rfl) ?_
  refine lv_iconst (v := 5) hx hb dX5_buys_73 (by decide) ?_
  refine lv_iadd hx hb dX5_buys_74 (lv_topi (fun x7 e7 => ?_))
  have q7 : x7 = nI (12 + 8 * n + 5) := by rw [e7]; exact nI_add (12 + 8 * n) 5
  subst q7
  refine lv_iconst (v := (-1)) hx hb dX5_buys_75 (by decide) ?_
  refine k_ast (k := 12 + 8 * n + 5) hx hb hK hP hD hS 1 0 rfl rfl rfl (by omega) (by decide) dX5_buys_76 (fun H locs hP hD hS => ?_)
  rw [flat_putH _ _ 5 _ (by decide)] at hP hD
  have hP : va_P D vwCl (mdW cI a (up2 (up2 (up2 (up2 (up2 (up2 N 3 n kd) 4 n ln) 5 n cp) 6 n (N 1 0)) 7 n 0) 8 n (-1)) P T U v) H := hP
  have hD : va_D (va_A (mdW cI a N P T U v) s.heap.size) (mdW cI a (up2 (up2 (up2 (up2 (up2 (up2 N 3 n kd) 4 n ln) 5 n cp) 6 n (N 1 0)) 7 n 0) 8 n (-1)) P T U v) := hD
  refine lv_aload_n hx hb dX5_buys_77 rfl (lv_at hl 1 rfl) ?_
  refine g5 hx hb hts hown hK hP 0 rfl 0 (by decide) flX5_7 (fun _ h => h) (v := .ref (a 1)) rfl dX5_buys_78 ?_
  refine lv_iload hx hb dX5_buys_81 (lv_at hl 0 rfl) ?_
  refine lv_bipush (v := 6) hx hb dX5_buys_83 (by decide) ?_
  refine lv_iadd hx hb dX5_buys_85 (lv_topi (fun x8 e8 => ?_))
  have q8 : x8 = nI (12 + 8 * n + 6) := by rw [e8]; exact nI_add (12 + 8 * n) 6
  subst q8
  refine lv_iload hx hb dX5_buys_86 (lv_at hl 5 rfl) ?_
  refine k_ast (k := 12 + 8 * n + 6) hx hb hK hP hD hS 1 0 rfl rfl rfl (by omega) (by decide) dX5_buys_88 (fun H locs hP hD hS => ?_)
  rw [flat_putH _ _ 6 _ (by decide)] at hP hD
  have hP : va_P D vwCl (mdW cI a (up2 (up2 (up2 (up2 (up2 (up2 (up2 N 3 n kd) 4 n ln) 5 n cp) 6 n (N 1 0)) 7 n 0) 8 n (-1)) 9 n pl) P T U v) H := hP
  have hD : va_D (va_A (mdW cI a N P T U v) s.heap.size) (mdW cI a (up2 (up2 (up2 (up2 (up2 (up2 (up2 N 3 n kd) 4 n ln) 5 n cp) 6 n (N 1 0)) 7 n 0) 8 n (-1)) 9 n pl) P T U v) := hD
  refine lv_aload_n hx hb dX5_buys_89 rfl (lv_at hl 1 rfl) ?_
  refine g5 hx hb hts hown hK hP 0 rfl 0 (by decide) flX5_7 (fun _ h => h) (v := .ref (a 1)) rfl dX5_buys_90 ?_
  refine lv_iload hx hb dX5_buys_93 (lv_at hl 0 rfl) ?_
  refine lv_bipush (v := 7) hx hb dX5_buys_95 (by decide) ?_
  refine lv_iadd hx hb dX5_buys_97 (lv_topi (fun x9 e9 => ?_))
  have q9 : x9 = nI (12 + 8 * n + 7) := by rw [e9]; exact nI_add (12 + 8 * n) 7
  subst q9
  refine lv_iconst (v := (-1)) hx hb dX5_buys_98 (by decide) ?_
  refine k_ast (k := 12 + 8 * n + 7) hx hb hK hP hD hS 1 0 rfl rfl rfl (by omega) (by decide) dX5_buys_99 (fun H locs hP hD hS => ?_)
  rw [flat_putH _ _ 7 _ (by decide)] at hP hD
  have hP : va_P D vwCl (mdW cI a (up2 (up2 (up2 (up2 (up2 (up2 (up2 (up2 N 3 n kd) 4 n ln) 5 n cp) 6 n (N 1 0)) 7 n 0) 8 n (-1)) 9 n pl) 10 n (-1)) P T U v) H := hP
  have hD : va_D (va_A (mdW cI a N P T U v) s.heap.size) (mdW cI a (up2 (up2 (up2 (up2 (up2 (up2 (up2 (up2 N 3 n kd) 4 n ln) 5 n cp) 6 n (N 1 0)) 7 n 0) 8 n (-1)) 9 n pl) 10 n (-1)) P T U v) := hD
  refine lv_aload_n hx hb dX5_buys_100 rfl (lv_at hl 1 rfl) ?_
  refine g5 hx hb hts hown hK hP 0 rfl 0 (by decide) flX5_7 (fun _ h => h) (v := .ref (a 1)) rfl dX5_buys_101 ?_
  refine lv_iconst (v := 4) hx hb dX5_buys_104 (by decide) ?_
  refine lv_dup2_11 hx hb dX5_buys_105 rfl rfl ?_
  refine k_ald (k := 4) hx hb hK hP 1 0 rfl rfl rfl (by decide) (by decide) dX5_buys_106 ?_
  rw [show flat (up2 (up2 (up2 (up2 (up2 (up2 (up2 (up2 N 3 n kd) 4 n ln) 5 n cp) 6 n (N 1 0)) 7 n 0) 8 n (-1)) 9 n pl) 10 n (-1)) (4) = N 1 1 from rfl]
  refine lv_iload_n hx hb dX5_buys_107 rfl (lv_at hl 2 rfl) ?_
  refine lv_iload_n hx hb dX5_buys_108 rfl (lv_at hl 3 rfl) ?_
  refine k_riS (As := [.int kd, .int ln]) (rest := [.int (N 1 1), .int 4, .ref (a 1)]) (wc := []) ⟨hx, hb, hml, hown, hts⟩ (c_X5_cost l D cI cS cL _ kd ln hkd) lkX5_70 rfl rfl ⟨(Nat.le_of_ble_eq_true rfl), (Nat.le_of_ble_eq_true rfl)⟩ hK hE k_nilP (k_nilD (A := va_A (mdW cI a N P T U v) s.heap.size)) rfl hl.1 rfl (Nat.le_of_ble_eq_true rfl) dX5_buys_109 ⟨Nat.zero_le _, Nat.zero_le _⟩ ?_
  refine lv_isub hx hb dX5_buys_112 (lv_topi (fun x10 e10 => ?_))
  refine k_ast (k := 4) hx hb hK hP hD hS 1 0 rfl rfl rfl (by decide) (by decide) dX5_buys_113 (fun H locs hP hD hS => ?_)
  rw [flat_put4] at hP hD
  have hP : va_P D vwCl (mdW cI a (up2 (up2 (up2 (up2 (up2 (up2 (up2 (up2 (up2 N 3 n kd) 4 n ln) 5 n cp) 6 n (N 1 0)) 7 n 0) 8 n (-1)) 9 n pl) 10 n (-1)) 1 1 x10) P T U v) H := hP
  have hD : va_D (va_A (mdW cI a N P T U v) s.heap.size) (mdW cI a (up2 (up2 (up2 (up2 (up2 (up2 (up2 (up2 (up2 N 3 n kd) 4 n ln) 5 n cp) 6 n (N 1 0)) 7 n 0) 8 n (-1)) 9 n pl) 10 n (-1)) 1 1 x10) P T U v) := hD
  refine lv_aload_n hx hb dX5_buys_114 rfl (lv_at hl 1 rfl) ?_
  refine g5 hx hb hts hown hK hP 0 rfl 0 (by decide) flX5_7 (fun _ h => h) (v := .ref (a 1)) rfl dX5_buys_115 ?_
  refine lv_bipush (v := 8) hx hb dX5_buys_118 (by decide) ?_
  refine lv_dup2_11 hx hb dX5_buys_120 rfl rfl ?_
  refine k_ald (k := 8) hx hb hK hP 1 0 rfl rfl rfl (by decide) (by decide) dX5_buys_121 ?_
  rw [show flat (up2 (up2 (up2 (up2 (up2 (up2 (up2 (up2 (up2 N 3 n kd) 4 n ln) 5 n cp) 6 n (N 1 0)) 7 n 0) 8 n (-1)) 9 n pl) 10 n (-1)) 1 1 x10) (8) = N 1 5 from rfl]
  refine lv_iload_n hx hb dX5_buys_122 rfl (lv_at hl 2 rfl) ?_
  refine lv_iload_n hx hb dX5_buys_123 rfl (lv_at hl 3 rfl) ?_
  refine k_riS (As := [.int kd, .int ln]) (rest := [.int (N 1 5), .int 8, .ref (a 1)]) (wc := []) ⟨hx, hb, hml, hown, hts⟩ (c_X5_cost l D cI cS cL _ kd ln hkd) lkX5_70 rfl rfl ⟨(Nat.le_of_ble_eq_true rfl), (Nat.le_of_ble_eq_true rfl)⟩ hK hE k_nilP (k_nilD (A := va_A (mdW cI a N P T U v) s.heap.size)) rfl hl.1 rfl (Nat.le_of_ble_eq_true rfl) dX5_buys_124 ⟨Nat.zero_le _, Nat.zero_le _⟩ ?_
  refine lv_iadd hx hb dX5_buys_127 (lv_topi (fun x11 e11 => ?_))
  refine k_ast (k := 8) hx hb hK hP hD hS 1 0 rfl rfl rfl (by decide) (by decide) dX5_buys_128 (fun H locs hP hD hS => ?_)
  rw [flat_put8] at hP hD
  have hP : va_P D vwCl (mdW cI a (up2 (up2 (up2 (up2 (up2 (up2 (up2 (up2 (up2 (up2 N 3 n kd) 4 n ln) 5 n cp) 6 n (N 1 0)) 7 n 0) 8 n (-1)) 9 n pl) 10 n (-1)) 1 1 x10) 1 5 x11) P T U v) H := hP
  have hD : va_D (va_A (mdW cI a N P T U v) s.heap.size) (mdW cI a (up2 (up2 (up2 (up2 (up2 (up2 (up2 (up2 (up2 (up2 N 3 n kd) 4 n ln) 5 n cp) 6 n (N 1 0)) 7 n 0) 8 n (-1)) 9 n pl) 10 n (-1)) 1 1 x10) 1 5 x11) P T U v) := hD
  refine lv_aload_n hx hb dX5_buys_129 rfl (lv_at hl 1 rfl) ?_
  refine g5 hx hb hts hown hK hP 0 rfl 0 (by decide) flX5_7 (fun _ h => h) (v := .ref (a 1)) rfl dX5_buys_130 ?_
  refine lv_iconst (v := 5) hx hb dX5_buys_133 (by decide) ?_
  refine lv_dup2_11 hx hb dX5_buys_134 rfl rfl ?_
  refine k_ald (k := 5) hx hb hK hP 1 0 rfl rfl rfl (by decide) (by decide) dX5_buys_135 ?_
  rw [show flat (up2 (up2 (up2 (up2 (up2 (up2 (up2 (up2 (up2 (up2 N 3 n kd) 4 n ln) 5 n cp) 6 n (N 1 0)) 7 n 0) 8 n (-1)) 9 n pl) 10 n (-1)) 1 1 x10) 1 5 x11) (5) = N 1 2 from rfl]
  refine lv_iconst (v := 1) hx hb dX5_buys_136 (by decide) ?_
  refine lv_iadd hx hb dX5_buys_137 (lv_topi (fun x12 e12 => ?_))
  refine k_ast (k := 5) hx hb hK hP hD hS 1 0 rfl rfl rfl (by decide) (by decide) dX5_buys_138 (fun H locs hP hD hS => ?_)
  rw [flat_put5] at hP hD
  have hP : va_P D vwCl (mdW cI a (up2 (up2 (up2 (up2 (up2 (up2 (up2 (up2 (up2 (up2 (up2 N 3 n kd) 4 n ln) 5 n cp) 6 n (N 1 0)) 7 n 0) 8 n (-1)) 9 n pl) 10 n (-1)) 1 1 x10) 1 5 x11) 1 2 x12) P T U v) H := hP
  have hD : va_D (va_A (mdW cI a N P T U v) s.heap.size) (mdW cI a (up2 (up2 (up2 (up2 (up2 (up2 (up2 (up2 (up2 (up2 (up2 N 3 n kd) 4 n ln) 5 n cp) 6 n (N 1 0)) 7 n 0) 8 n (-1)) 9 n pl) 10 n (-1)) 1 1 x10) 1 5 x11) 1 2 x12) P T U v) := hD
  refine lv_aload_n hx hb dX5_buys_139 rfl (lv_at hl 1 rfl) ?_
  refine g5 hx hb hts hown hK hP 0 rfl 0 (by decide) flX5_7 (fun _ h => h) (v := .ref (a 1)) rfl dX5_buys_140 ?_
  refine lv_iconst (v := 5) hx hb dX5_buys_143 (by decide) ?_
  refine k_ald (k := 5) hx hb hK hP 1 0 rfl rfl rfl (by decide) (by decide) dX5_buys_144 ?_
  rw [show flat (up2 (up2 (up2 (up2 (up2 (up2 (up2 (up2 (up2 (up2 (up2 N 3 n kd) 4 n ln) 5 n cp) 6 n (N 1 0)) 7 n 0) 8 n (-1)) 9 n pl) 10 n (-1)) 1 1 x10) 1 5 x11) 1 2 x12) (5) = x12 from rfl]
  refine lv_iconst (v := 1) hx hb dX5_buys_145 (by decide) ?_
  refine lv_isub hx hb dX5_buys_146 (lv_topi (fun x13 e13 => ?_))
  have q13 : x13 = nI n := by rw [e13]; subst e10 e11 e12; rw [hn, nI_1]; exact nI_pred n
  subst q13
  have w14 : (up2 (up2 (up2 (up2 (up2 (up2 (up2 (up2 (up2 (up2 (up2 N 3 n kd) 4 n ln) 5 n cp) 6 n (N 1 0)) 7 n 0) 8 n (-1)) 9 n pl) 10 n (-1)) 1 1 x10) 1 5 x11) 1 2 x12) = (p_add N n kd ln cp pl) := by subst e10 e11 e12; simp only [p_add]; rw [up2_swap _ 1 5 1 2 _ _ (by decide), up2_swap _ 1 1 1 2 _ _ (by decide)]
  have hP : va_P D vwCl (mdW cI a (p_add N n kd ln cp pl) P T U v) H := (congrArg (fun zz => va_P D vwCl (mdW cI a zz P T U v) H) w14).mp hP
  have hD : va_D (va_A (mdW cI a N P T U v) s.heap.size) (mdW cI a (p_add N n kd ln cp pl) P T U v) := (congrArg (fun zz => va_D (va_A (mdW cI a N P T U v) s.heap.size) (mdW cI a zz P T U v)) w14).mp hD
  have hP : va_P D vwCl (mdW cI a (p_add N n kd ln cp pl) P T U v) H := hP
  have hD : va_D (va_A (mdW cI a N P T U v) s.heap.size) (mdW cI a (p_add N n kd ln cp pl) P T U v) := hD
  exact k_eMi hx hb hr hlocks hP hS rfl dX5_buys_147

abbrev rmX5_changes : Room := { frames := 0, cells := 0, slots := 0, locals := 0 }
set_option maxHeartbeats 4000000 in
set_option maxRecDepth 100000 in
theorem c_X5_changes (l : Launch) (D : va_G) (cI cS cL : ClassId) (a : Nat → Nat) (N : NN) (P T U v : Nat → Int32) (sz : Nat) (q : Nat) (x : Int32) (N2 : NN) (r0 : Int32) (hq : q < 124) (hN2 : upd (flat N) q x = flat N2) (hr0 : flat N q = r0) : Met l yX5_changes (wy_ yX5_changes cX5_changes 4 (some .int)) rmX5_changes (kPc D (kTy cI cS cL) (mdW cI a N P T U v) sz [.ref (a 0), .int (nI q), .int x]) (kMi D (mdW cI a N P T U v) (mdW cI a N2 P T U v) sz (r0)) 0 0 (va_A (mdW cI a N P T U v) sz) := by
  refine k_ofW (by decide) (Nat.le_of_ble_eq_true rfl) ?_
  intro p e s m args below meth c hx hb hr hml hts hown hlocks hnm hsz hP hK hD hE ls hl
  subst hsz
  have hA : ∀ q : Nat, s.heap.size ≤ q → (va_A (mdW cI a N P T U v) s.heap.size) q := fun q h => Or.inr h
  have hS : va_S (va_A (mdW cI a N P T U v) s.heap.size) s.heap s.heap [] := va_S.rf
  have hl : lv_has ls 4 [(0, .ref (a 0)), (1, .int (nI q)), (2, .int x)] := hl
  refine lv_aload_n hx hb dX5_changes_0 rfl (lv_at hl 0 rfl) ?_
  refine g5 hx hb hts hown hK hP 0 rfl 0 (by decide) flX5_7 (fun _ h => h) (v := .ref (a 1)) rfl dX5_changes_1 ?_
  refine lv_iload_n hx hb dX5_changes_4 rfl (lv_at hl 1 rfl) ?_
  refine k_ald (k := q) hx hb hK hP 1 0 rfl rfl rfl (by omega) (by decide) dX5_changes_5 ?_
  rw [hr0]
  refine lv_istore_n (lv' := [(3, .int r0), (0, .ref (a 0)), (1, .int (nI q)), (2, .int x)]) hx hb dX5_changes_6 rfl hl (by decide) rfl (fun ls hl => ?_)
  refine lv_aload_n hx hb dX5_changes_7 rfl (lv_at hl 1 rfl) ?_
  refine g5 hx hb hts hown hK hP 0 rfl 0 (by decide) flX5_7 (fun _ h => h) (v := .ref (a 1)) rfl dX5_changes_8 ?_
  refine lv_iload_n hx hb dX5_changes_11 rfl (lv_at hl 2 rfl) ?_
  refine lv_iload_n hx hb dX5_changes_12 rfl (lv_at hl 3 rfl) ?_
  refine k_ast (k := q) hx hb hK hP hD hS 1 0 rfl rfl rfl (by omega) (by decide) dX5_changes_13 (fun H locs hP hD hS => ?_)
  rw [hN2] at hP hD
  have hP : va_P D vwCl (mdW cI a N2 P T U v) H := hP
  have hD : va_D (va_A (mdW cI a N P T U v) s.heap.size) (mdW cI a N2 P T U v) := hD
  refine lv_iload_n hx hb dX5_changes_14 rfl (lv_at hl 0 rfl) ?_
  have hP : va_P D vwCl (mdW cI a N2 P T U v) H := hP
  have hD : va_D (va_A (mdW cI a N P T U v) s.heap.size) (mdW cI a N2 P T U v) := hD
  exact k_eMi hx hb hr hlocks hP hS rfl dX5_changes_15

abbrev rmX5_day : Room := { frames := 3, cells := 0, slots := 0, locals := 65 }
set_option maxHeartbeats 4000000 in
set_option maxRecDepth 100000 in
theorem c_X5_day (l : Launch) (D : va_G) (cI cS cL : ClassId) (a : Nat → Nat) (N : NN) (P T U v : Nat → Int32) (sz : Nat) (n : Nat) (hn : N 1 2 = nI n) (hn14 : n ≤ 14) (hd0 : 0 ≤ N 1 0 + 1) (hws : ∀ j, j < n → 0 ≤ N 7 j ∧ N 7 j ≤ 99) : Met l yX5_day (wy_ yX5_day cX5_day 3 none) rmX5_day (kPc D (kTy cI cS cL) (mdW cI a N P T U v) sz [.ref (a 0)]) (kMv D (mdW cI a N P T U v) (mdW cI a (p_day N n) P T U v) sz) 0 0 (va_A (mdW cI a N P T U v) sz) := by
  refine k_ofW (by decide) (Nat.le_of_ble_eq_true rfl) ?_
  intro p e s m args below meth c hx hb hr hml hts hown hlocks hnm hsz hP hK hD hE ls hl
  subst hsz
  have hA : ∀ q : Nat, s.heap.size ≤ q → (va_A (mdW cI a N P T U v) s.heap.size) q := fun q h => Or.inr h
  have hS : va_S (va_A (mdW cI a N P T U v) s.heap.size) s.heap s.heap [] := va_S.rf
  have hl : lv_has ls 3 [(0, .ref (a 0))] := hl
  refine lv_aload_n hx hb dX5_day_0 rfl (lv_at hl 0 rfl) ?_
  refine g5 hx hb hts hown hK hP 0 rfl 0 (by decide) flX5_7 (fun _ h => h) (v := .ref (a 1)) rfl dX5_day_1 ?_
  refine lv_iconst (v := 3) hx hb dX5_day_4 (by decide) ?_
  refine lv_dup2_11 hx hb dX5_day_5 rfl rfl ?_
  refine k_ald (k := 3) hx hb hK hP 1 0 rfl rfl rfl (by decide) (by decide) dX5_day_6 ?_
  rw [show flat N (3) = N 1 0 from rfl]
  refine lv_iconst (v := 1) hx hb dX5_day_7 (by decide) ?_
  refine lv_iadd hx hb dX5_day_8 (lv_topi (fun x1 e1 => ?_))
  have q1 : x1 = N 1 0 + 1 := by rw [e1]; skip
  subst q1
  refine k_ast (k := 3) hx hb hK hP hD hS 1 0 rfl rfl rfl (by decide) (by decide) dX5_day_9 (fun H locs hP hD hS => ?_)
  rw [flat_put3] at hP hD
  have hP : va_P D vwCl (mdW cI a (up2 N 1 0 (N 1 0 + 1)) P T U v) H := hP
  have hD : va_D (va_A (mdW cI a N P T U v) s.heap.size) (mdW cI a (up2 N 1 0 (N 1 0 + 1)) P T U v) := hD
  refine lv_iconst (v := 0) hx hb dX5_day_10 (by decide) ?_
  refine lv_istore_n (lv' := [(1, .int 0), (0, .ref (a 0))]) hx hb dX5_day_11 rfl hl (by decide) rfl (fun ls hl => ?_)
  have L2 : ∀ (f k : Nat), k ≤ n → n - k < f → ∀ (H : Heap) (locs : List Loc), va_P D vwCl (mdW cI a (p_tb (up2 N 1 0 (N 1 0 + 1)) k) P T U v) H → va_D (va_A (mdW cI a N P T U v) s.heap.size) (mdW cI a (p_tb (up2 N 1 0 (N 1 0 + 1)) k) P T U v) → va_S (va_A (mdW cI a N P T U v) s.heap.size) s.heap H locs → s.heap.size ≤ H.size → ∀ ls : Array Slot, lv_has ls 3 [(0, .ref (a 0)), (1, .int (nI k))] → W p l e rmX5_day s m args below meth c H locs 0 0 (MQ below (kMv D (mdW cI a N P T U v) (mdW cI a (p_day N n) P T U v) s.heap.size) args s 0 0 (va_A (mdW cI a N P T U v) s.heap.size)) (F0 m 12 ls []) := by
    intro f
    induction f with
    | zero => intro k hv1 hv2; exact absurd hv2 (Nat.not_lt_zero _)
    | succ f ih =>
      intro k hv1 hv2 H locs hP hD hS hz ls hl
      refine lv_iload_n hx hb dX5_day_12 rfl (lv_at hl 1 rfl) ?_
      refine lv_aload_n hx hb dX5_day_13 rfl (lv_at hl 0 rfl) ?_
      refine g5 hx hb hts hown hK hP 0 rfl 0 (by decide) flX5_7 (fun _ h => h) (v := .ref (a 1)) rfl dX5_day_14 ?_
      refine lv_iconst (v := 5) hx hb dX5_day_17 (by decide) ?_
      refine k_ald (k := 5) hx hb hK hP 1 0 rfl rfl rfl (by decide) (by decide) dX5_day_18 ?_
      rw [show flat (p_tb (up2 N 1 0 (N 1 0 + 1)) k) (5) = (p_tb (up2 N 1 0 (N 1 0 + 1)) k) 1 2 from rfl]
      rw [show (p_tb (up2 N 1 0 (N 1 0 + 1)) k) 1 2 = nI n from (by rw [p_tb_row1]; exact hn)]
      refine lv_icmp_ge (tgt := 87) hx hb dX5_day_19 (by decide) (fun c3 => ?_) (fun c3 => ?_)
      · have c3' := Int32.not_lt.mpr c3
        have hkn : n = k := (k_exit (by omega) hv1 c3).symm
        subst hkn
        refine lv_iconst (v := 0) hx hb dX5_day_87 (by decide) ?_
        refine lv_istore_n (lv' := [(1, .int 0), (0, .ref (a 0))]) hx hb dX5_day_88 rfl hl (by decide) rfl (fun ls hl => ?_)
        have L4 : ∀ (f k : Nat), k ≤ n → n - k < f → (hrem : k = 0 ∨ p_rem ((p_tb (up2 N 1 0 (N 1 0 + 1)) n) 1 0) 10 = 0) → ∀ (H : Heap) (locs : List Loc), va_P D vwCl (mdW cI a (p_wt (p_tb (up2 N 1 0 (N 1 0 + 1)) n) k) P T U v) H → va_D (va_A (mdW cI a N P T U v) s.heap.size) (mdW cI a (p_wt (p_tb (up2 N 1 0 (N 1 0 + 1)) n) k) P T U v) → va_S (va_A (mdW cI a N P T U v) s.heap.size) s.heap H locs → s.heap.size ≤ H.size → ∀ ls : Array Slot, lv_has ls 3 [(0, .ref (a 0)), (1, .int (nI k))] → W p l e rmX5_day s m args below meth c H locs 0 0 (MQ below (kMv D (mdW cI a N P T U v) (mdW cI a (p_day N n) P T U v) s.heap.size) args s 0 0 (va_A (mdW cI a N P T U v) s.heap.size)) (F0 m 89 ls []) := by
          intro f
          induction f with
          | zero => intro k hv1 hv2; exact absurd hv2 (Nat.not_lt_zero _)
          | succ f ih =>
            intro k hv1 hv2 hrem H locs hP hD hS hz ls hl
            refine lv_iload_n hx hb dX5_day_89 rfl (lv_at hl 1 rfl) ?_
            refine lv_aload_n hx hb dX5_day_90 rfl (lv_at hl 0 rfl) ?_
            refine g5 hx hb hts hown hK hP 0 rfl 0 (by decide) flX5_7 (fun _ h => h) (v := .ref (a 1)) rfl dX5_day_91 ?_
            refine lv_iconst (v := 5) hx hb dX5_day_94 (by decide) ?_
            refine k_ald (k := 5) hx hb hK hP 1 0 rfl rfl rfl (by decide) (by decide) dX5_day_95 ?_
            rw [show flat (p_wt (p_tb (up2 N 1 0 (N 1 0 + 1)) n) k) (5) = (p_wt (p_tb (up2 N 1 0 (N 1 0 + 1)) n) k) 1 2 from rfl]
            rw [show (p_wt (p_tb (up2 N 1 0 (N 1 0 + 1)) n) k) 1 2 = nI n from (by rw [p_wt_row1, p_tb_row1]; exact hn)]
            refine lv_icmp_ge (tgt := 181) hx hb dX5_day_96 (by decide) (fun c5 => ?_) (fun c5 => ?_)
            · have c5' := Int32.not_lt.mpr c5
              have hkn : n = k := (k_exit (by omega) hv1 c5).symm
              subst hkn
              have hwd := wtd_e1 hrem
              rw [← hwd] at hP hD
              refine lv_aload_n hx hb dX5_day_181 rfl (lv_at hl 0 rfl) ?_
              refine g5 hx hb hts hown hK hP 0 rfl 0 (by decide) flX5_7 (fun _ h => h) (v := .ref (a 1)) rfl dX5_day_182 ?_
              refine lv_iconst (v := 3) hx hb dX5_day_185 (by decide) ?_
              refine k_ald (k := 3) hx hb hK hP 1 0 rfl rfl rfl (by decide) (by decide) dX5_day_186 ?_
              rw [show flat (p_wtd (p_tb (up2 N 1 0 (N 1 0 + 1)) n) n) (3) = (p_wtd (p_tb (up2 N 1 0 (N 1 0 + 1)) n) n) 1 0 from rfl]
              refine lv_bipush (v := 30) hx hb dX5_day_187 (by decide) ?_
              refine lv_irem hx hb dX5_day_189 (by decide) (lv_topi (fun x6 e6 => ?_))
              refine lv_if_ne (tgt := 227) hx hb dX5_day_190 (by decide) (fun c7 => ?_) (fun c7 => ?_)
              · have hmn : ¬ p_rem ((p_wtd (p_tb (up2 N 1 0 (N 1 0 + 1)) n) n) 1 0) 30 = 0 := fun h => c7 (by rw [e6]; exact h)
                have w8 : (p_wtd (p_tb (up2 N 1 0 (N 1 0 + 1)) n) n) = (p_day N n) := by unfold p_day p_mon; rw [if_neg hmn]
                have hP : va_P D vwCl (mdW cI a (p_day N n) P T U v) H := (congrArg (fun zz => va_P D vwCl (mdW cI a zz P T U v) H) w8).mp hP
                have hD : va_D (va_A (mdW cI a N P T U v) s.heap.size) (mdW cI a (p_day N n) P T U v) := (congrArg (fun zz => va_D (va_A (mdW cI a N P T U v) s.heap.size) (mdW cI a zz P T U v)) w8).mp hD
                have hP : va_P D vwCl (mdW cI a (p_day N n) P T U v) H := hP
                have hD : va_D (va_A (mdW cI a N P T U v) s.heap.size) (mdW cI a (p_day N n) P T U v) := hD
                exact k_eMv hx hb hr hlocks hP hS dX5_day_227
              · have hmr : p_rem ((p_wtd (p_tb (up2 N 1 0 (N 1 0 + 1)) n) n) 1 0) 30 = 0 := by have h := c7; rw [e6] at h; exact h
                refine lv_aload_n hx hb dX5_day_193 rfl (lv_at hl 0 rfl) ?_
                refine g5 hx hb hts hown hK hP 0 rfl 0 (by decide) flX5_7 (fun _ h => h) (v := .ref (a 1)) rfl dX5_day_194 ?_
                refine lv_iconst (v := 4) hx hb dX5_day_197 (by decide) ?_
                refine k_ald (k := 4) hx hb hK hP 1 0 rfl rfl rfl (by decide) (by decide) dX5_day_198 ?_
                rw [show flat (p_wtd (p_tb (up2 N 1 0 (N 1 0 + 1)) n) n) (4) = (p_wtd (p_tb (up2 N 1 0 (N 1 0 + 1)) n) n) 1 1 from rfl]
                refine lv_aload_n hx hb dX5_day_199 rfl (lv_at hl 0 rfl) ?_
                refine g5 hx hb hts hown hK hP 0 rfl 0 (by decide) flX5_7 (fun _ h => h) (v := .ref (a 1)) rfl dX5_day_200 ?_
                refine lv_iconst (v := 2) hx hb dX5_day_203 (by decide) ?_
                refine k_ald (k := 2) hx hb hK hP 1 0 rfl rfl rfl (by decide) (by decide) dX5_day_204 ?_
                rw [show flat (p_wtd (p_tb (up2 N 1 0 (N 1 0 + 1)) n) n) (2) = (p_wtd (p_tb (up2 N 1 0 (N 1 0 + 1)) n) n) 0 2 from rfl]
                refine lv_iadd hx hb dX5_day_205 (lv_topi (fun x9 e9 => ?_))
                refine lv_istore_n (lv' := [(1, .int x9), (0, .ref (a 0))]) hx hb dX5_day_206 rfl hl (by decide) rfl (fun ls hl => ?_)
                refine lv_aload_n hx hb dX5_day_207 rfl (lv_at hl 1 rfl) ?_
                refine g5 hx hb hts hown hK hP 0 rfl 0 (by decide) flX5_7 (fun _ h => h) (v := .ref (a 1)) rfl dX5_day_208 ?_
                refine lv_iconst (v := 4) hx hb dX5_day_211 (by decide) ?_
                refine lv_iload_n hx hb dX5_day_212 rfl (lv_at hl 0 rfl) ?_
                refine lv_sipush (v := 9999) hx hb dX5_day_213 (by decide) ?_
                refine lv_icmp_le (tgt := 225) hx hb dX5_day_216 (by decide) (fun c10 => ?_) (fun c10 => ?_)
                · have c10' := Int32.not_lt.mpr c10
                  have hle := c10
                  refine lv_iload_n hx hb dX5_day_225 rfl (lv_at hl 0 rfl) ?_
                  refine k_ast (k := 4) hx hb hK hP hD hS 1 0 rfl rfl rfl (by decide) (by decide) dX5_day_226 (fun H locs hP hD hS => ?_)
                  rw [flat_put4] at hP hD
                  have hP : va_P D vwCl (mdW cI a (up2 (p_wtd (p_tb (up2 N 1 0 (N 1 0 + 1)) n) n) 1 1 x9) P T U v) H := hP
                  have hD : va_D (va_A (mdW cI a N P T U v) s.heap.size) (mdW cI a (up2 (p_wtd (p_tb (up2 N 1 0 (N 1 0 + 1)) n) n) 1 1 x9) P T U v) := hD
                  have w11 : (up2 (p_wtd (p_tb (up2 N 1 0 (N 1 0 + 1)) n) n) 1 1 x9) = (p_day N n) := by subst e6 e9; unfold p_day p_mon; rw [if_pos hmr, mn_le hle]
                  have hP : va_P D vwCl (mdW cI a (p_day N n) P T U v) H := (congrArg (fun zz => va_P D vwCl (mdW cI a zz P T U v) H) w11).mp hP
                  have hD : va_D (va_A (mdW cI a N P T U v) s.heap.size) (mdW cI a (p_day N n) P T U v) := (congrArg (fun zz => va_D (va_A (mdW cI a N P T U v) s.heap.size) (mdW cI a zz P T U v)) w11).mp hD
                  have hP : va_P D vwCl (mdW cI a (p_day N n) P T U v) H := hP
                  have hD : va_D (va_A (mdW cI a N P T U v) s.heap.size) (mdW cI a (p_day N n) P T U v) := hD
                  exact k_eMv hx hb hr hlocks hP hS dX5_day_227
                · have c10' := Int32.not_le.mp c10
                  have hgt := c10
                  refine lv_sipush (v := 9999) hx hb dX5_day_219 (by decide) ?_
                  refine lv_goto (tgt := 226) hx hb dX5_day_222 (by decide) ?_
                  refine k_ast (k := 4) hx hb hK hP hD hS 1 0 rfl rfl rfl (by decide) (by decide) dX5_day_226 (fun H locs hP hD hS => ?_)
                  rw [flat_put4] at hP hD
                  have hP : va_P D vwCl (mdW cI a (up2 (p_wtd (p_tb (up2 N 1 0 (N 1 0 + 1)) n) n) 1 1 9999) P T U v) H := hP
                  have hD : va_D (va_A (mdW cI a N P T U v) s.heap.size) (mdW cI a (up2 (p_wtd (p_tb (up2 N 1 0 (N 1 0 + 1)) n) n) 1 1 9999) P T U v) := hD
                  have w12 : (up2 (p_wtd (p_tb (up2 N 1 0 (N 1 0 + 1)) n) n) 1 1 9999) = (p_day N n) := by subst e6 e9; unfold p_day p_mon; rw [if_pos hmr, mn_gt hgt]
                  have hP : va_P D vwCl (mdW cI a (p_day N n) P T U v) H := (congrArg (fun zz => va_P D vwCl (mdW cI a zz P T U v) H) w12).mp hP
                  have hD : va_D (va_A (mdW cI a N P T U v) s.heap.size) (mdW cI a (p_day N n) P T U v) := (congrArg (fun zz => va_D (va_A (mdW cI a N P T U v) s.heap.size) (mdW cI a zz P T U v)) w12).mp hD
                  have hP : va_P D vwCl (mdW cI a (p_day N n) P T U v) H := hP
                  have hD : va_D (va_A (mdW cI a N P T U v) s.heap.size) (mdW cI a (p_day N n) P T U v) := hD
                  exact k_eMv hx hb hr hlocks hP hS dX5_day_227
            · have c5' := Int32.not_le.mp c5
              have hkn : k < n := k_more (by omega) hv1 c5
              have hz0 : 0 ≤ (p_wt (p_tb (up2 N 1 0 (N 1 0 + 1)) n) k) 7 k := by rw [p_wt_at _ _ _ (Nat.le_refl _), p_tb_row _ (by decide) (by decide)]; exact (hws k hkn).1
              have hz1 : (p_wt (p_tb (up2 N 1 0 (N 1 0 + 1)) n) k) 7 k ≤ 99 := by rw [p_wt_at _ _ _ (Nat.le_refl _), p_tb_row _ (by decide) (by decide)]; exact (hws k hkn).2
              refine lv_aload_n hx hb dX5_day_99 rfl (lv_at hl 0 rfl) ?_
              refine g5 hx hb hts hown hK hP 0 rfl 0 (by decide) flX5_7 (fun _ h => h) (v := .ref (a 1)) rfl dX5_day_100 ?_
              refine lv_iconst (v := 3) hx hb dX5_day_103 (by decide) ?_
              refine k_ald (k := 3) hx hb hK hP 1 0 rfl rfl rfl (by decide) (by decide) dX5_day_104 ?_
              rw [show flat (p_wt (p_tb (up2 N 1 0 (N 1 0 + 1)) n) k) (3) = (p_wt (p_tb (up2 N 1 0 (N 1 0 + 1)) n) k) 1 0 from rfl]
              rw [show (p_wt (p_tb (up2 N 1 0 (N 1 0 + 1)) n) k) 1 0 = (p_tb (up2 N 1 0 (N 1 0 + 1)) n) 1 0 from (by rw [p_wt_row1])]
              refine lv_bipush (v := 10) hx hb dX5_day_105 (by decide) ?_
              refine lv_irem hx hb dX5_day_107 (by decide) (lv_topi (fun x13 e13 => ?_))
              refine lv_if_ne (tgt := 181) hx hb dX5_day_108 (by decide) (fun c14 => ?_) (fun c14 => ?_)
              · have hk0 : k = 0 := hrem.resolve_right (fun h => c14 (by rw [e13]; exact h))
                have hwd := wtd_e2 (n := n) (fun h => c14 (by rw [e13]; exact h)) hk0
                rw [← hwd] at hP hD
                refine lv_aload_n hx hb dX5_day_181 rfl (lv_at hl 0 rfl) ?_
                refine g5 hx hb hts hown hK hP 0 rfl 0 (by decide) flX5_7 (fun _ h => h) (v := .ref (a 1)) rfl dX5_day_182 ?_
                refine lv_iconst (v := 3) hx hb dX5_day_185 (by decide) ?_
                refine k_ald (k := 3) hx hb hK hP 1 0 rfl rfl rfl (by decide) (by decide) dX5_day_186 ?_
                rw [show flat (p_wtd (p_tb (up2 N 1 0 (N 1 0 + 1)) n) n) (3) = (p_wtd (p_tb (up2 N 1 0 (N 1 0 + 1)) n) n) 1 0 from rfl]
                refine lv_bipush (v := 30) hx hb dX5_day_187 (by decide) ?_
                refine lv_irem hx hb dX5_day_189 (by decide) (lv_topi (fun x15 e15 => ?_))
                refine lv_if_ne (tgt := 227) hx hb dX5_day_190 (by decide) (fun c16 => ?_) (fun c16 => ?_)
                · have hmn : ¬ p_rem ((p_wtd (p_tb (up2 N 1 0 (N 1 0 + 1)) n) n) 1 0) 30 = 0 := fun h => c16 (by rw [e15]; exact h)
                  have w17 : (p_wtd (p_tb (up2 N 1 0 (N 1 0 + 1)) n) n) = (p_day N n) := by unfold p_day p_mon; rw [if_neg hmn]
                  have hP : va_P D vwCl (mdW cI a (p_day N n) P T U v) H := (congrArg (fun zz => va_P D vwCl (mdW cI a zz P T U v) H) w17).mp hP
                  have hD : va_D (va_A (mdW cI a N P T U v) s.heap.size) (mdW cI a (p_day N n) P T U v) := (congrArg (fun zz => va_D (va_A (mdW cI a N P T U v) s.heap.size) (mdW cI a zz P T U v)) w17).mp hD
                  have hP : va_P D vwCl (mdW cI a (p_day N n) P T U v) H := hP
                  have hD : va_D (va_A (mdW cI a N P T U v) s.heap.size) (mdW cI a (p_day N n) P T U v) := hD
                  exact k_eMv hx hb hr hlocks hP hS dX5_day_227
                · have hmr : p_rem ((p_wtd (p_tb (up2 N 1 0 (N 1 0 + 1)) n) n) 1 0) 30 = 0 := by have h := c16; rw [e15] at h; exact h
                  refine lv_aload_n hx hb dX5_day_193 rfl (lv_at hl 0 rfl) ?_
                  refine g5 hx hb hts hown hK hP 0 rfl 0 (by decide) flX5_7 (fun _ h => h) (v := .ref (a 1)) rfl dX5_day_194 ?_
                  refine lv_iconst (v := 4) hx hb dX5_day_197 (by decide) ?_
                  refine k_ald (k := 4) hx hb hK hP 1 0 rfl rfl rfl (by decide) (by decide) dX5_day_198 ?_
                  rw [show flat (p_wtd (p_tb (up2 N 1 0 (N 1 0 + 1)) n) n) (4) = (p_wtd (p_tb (up2 N 1 0 (N 1 0 + 1)) n) n) 1 1 from rfl]
                  refine lv_aload_n hx hb dX5_day_199 rfl (lv_at hl 0 rfl) ?_
                  refine g5 hx hb hts hown hK hP 0 rfl 0 (by decide) flX5_7 (fun _ h => h) (v := .ref (a 1)) rfl dX5_day_200 ?_
                  refine lv_iconst (v := 2) hx hb dX5_day_203 (by decide) ?_
                  refine k_ald (k := 2) hx hb hK hP 1 0 rfl rfl rfl (by decide) (by decide) dX5_day_204 ?_
                  rw [show flat (p_wtd (p_tb (up2 N 1 0 (N 1 0 + 1)) n) n) (2) = (p_wtd (p_tb (up2 N 1 0 (N 1 0 + 1)) n) n) 0 2 from rfl]
                  refine lv_iadd hx hb dX5_day_205 (lv_topi (fun x18 e18 => ?_))
                  refine lv_istore_n (lv' := [(1, .int x18), (0, .ref (a 0))]) hx hb dX5_day_206 rfl hl (by decide) rfl (fun ls hl => ?_)
                  refine lv_aload_n hx hb dX5_day_207 rfl (lv_at hl 1 rfl) ?_
                  refine g5 hx hb hts hown hK hP 0 rfl 0 (by decide) flX5_7 (fun _ h => h) (v := .ref (a 1)) rfl dX5_day_208 ?_
                  refine lv_iconst (v := 4) hx hb dX5_day_211 (by decide) ?_
                  refine lv_iload_n hx hb dX5_day_212 rfl (lv_at hl 0 rfl) ?_
                  refine lv_sipush (v := 9999) hx hb dX5_day_213 (by decide) ?_
                  refine lv_icmp_le (tgt := 225) hx hb dX5_day_216 (by decide) (fun c19 => ?_) (fun c19 => ?_)
                  · have c19' := Int32.not_lt.mpr c19
                    have hle := c19
                    refine lv_iload_n hx hb dX5_day_225 rfl (lv_at hl 0 rfl) ?_
                    refine k_ast (k := 4) hx hb hK hP hD hS 1 0 rfl rfl rfl (by decide) (by decide) dX5_day_226 (fun H locs hP hD hS => ?_)
                    rw [flat_put4] at hP hD
                    have hP : va_P D vwCl (mdW cI a (up2 (p_wtd (p_tb (up2 N 1 0 (N 1 0 + 1)) n) n) 1 1 x18) P T U v) H := hP
                    have hD : va_D (va_A (mdW cI a N P T U v) s.heap.size) (mdW cI a (up2 (p_wtd (p_tb (up2 N 1 0 (N 1 0 + 1)) n) n) 1 1 x18) P T U v) := hD
                    have w20 : (up2 (p_wtd (p_tb (up2 N 1 0 (N 1 0 + 1)) n) n) 1 1 x18) = (p_day N n) := by subst e13 e15 e18; unfold p_day p_mon; rw [if_pos hmr, mn_le hle]
                    have hP : va_P D vwCl (mdW cI a (p_day N n) P T U v) H := (congrArg (fun zz => va_P D vwCl (mdW cI a zz P T U v) H) w20).mp hP
                    have hD : va_D (va_A (mdW cI a N P T U v) s.heap.size) (mdW cI a (p_day N n) P T U v) := (congrArg (fun zz => va_D (va_A (mdW cI a N P T U v) s.heap.size) (mdW cI a zz P T U v)) w20).mp hD
                    have hP : va_P D vwCl (mdW cI a (p_day N n) P T U v) H := hP
                    have hD : va_D (va_A (mdW cI a N P T U v) s.heap.size) (mdW cI a (p_day N n) P T U v) := hD
                    exact k_eMv hx hb hr hlocks hP hS dX5_day_227
                  · have c19' := Int32.not_le.mp c19
                    have hgt := c19
                    refine lv_sipush (v := 9999) hx hb dX5_day_219 (by decide) ?_
                    refine lv_goto (tgt := 226) hx hb dX5_day_222 (by decide) ?_
                    refine k_ast (k := 4) hx hb hK hP hD hS 1 0 rfl rfl rfl (by decide) (by decide) dX5_day_226 (fun H locs hP hD hS => ?_)
                    rw [flat_put4] at hP hD
                    have hP : va_P D vwCl (mdW cI a (up2 (p_wtd (p_tb (up2 N 1 0 (N 1 0 + 1)) n) n) 1 1 9999) P T U v) H := hP
                    have hD : va_D (va_A (mdW cI a N P T U v) s.heap.size) (mdW cI a (up2 (p_wtd (p_tb (up2 N 1 0 (N 1 0 + 1)) n) n) 1 1 9999) P T U v) := hD
                    have w21 : (up2 (p_wtd (p_tb (up2 N 1 0 (N 1 0 + 1)) n) n) 1 1 9999) = (p_day N n) := by subst e13 e15 e18; unfold p_day p_mon; rw [if_pos hmr, mn_gt hgt]
                    have hP : va_P D vwCl (mdW cI a (p_day N n) P T U v) H := (congrArg (fun zz => va_P D vwCl (mdW cI a zz P T U v) H) w21).mp hP
                    have hD : va_D (va_A (mdW cI a N P T U v) s.heap.size) (mdW cI a (p_day N n) P T U v) := (congrArg (fun zz => va_D (va_A (mdW cI a N P T U v) s.heap.size) (mdW cI a zz P T U v)) w21).mp hD
                    have hP : va_P D vwCl (mdW cI a (p_day N n) P T U v) H := hP
                    have hD : va_D (va_A (mdW cI a N P T U v) s.heap.size) (mdW cI a (p_day N n) P T U v) := hD
                    exact k_eMv hx hb hr hlocks hP hS dX5_day_227
              · have hrm : p_rem ((p_tb (up2 N 1 0 (N 1 0 + 1)) n) 1 0) 10 = 0 := by have h := c14; rw [e13] at h; exact h
                refine lv_aload_n hx hb dX5_day_111 rfl (lv_at hl 0 rfl) ?_
                refine lv_iload_n hx hb dX5_day_112 rfl (lv_at hl 1 rfl) ?_
                refine lv_bipush (v := 6) hx hb dX5_day_113 (by decide) ?_
                refine k_riV (As := [.int (nI k), .int (nI 6)]) (rest := []) (wc := mdW cI a (p_wt (p_tb (up2 N 1 0 (N 1 0 + 1)) n) k) P T U v) ⟨hx, hb, hml, hown, hts⟩ (c_X5_of l D cI cS cL a (p_wt (p_tb (up2 N 1 0 (N 1 0 + 1)) n) k) P T U v _ k 6 9 (by omega) (by decide) rfl) lkX5_37 rfl rfl ⟨(Nat.le_of_ble_eq_true rfl), (Nat.le_of_ble_eq_true rfl)⟩ (va_recv hK hP (ci := 4) (q0 := 0) rfl rfl) hK hE hP hD rfl hl.1 rfl (Nat.le_of_ble_eq_true rfl) dX5_day_115 ⟨Nat.zero_le _, Nat.zero_le _⟩ ?_
                refine k_riS (As := [.int ((p_wt (p_tb (up2 N 1 0 (N 1 0 + 1)) n) k) 9 k)]) (rest := []) (wc := []) ⟨hx, hb, hml, hown, hts⟩ (c_X5_isTruck l D cI cS cL _ ((p_wt (p_tb (up2 N 1 0 (N 1 0 + 1)) n) k) 9 k)) lkX5_99 rfl rfl ⟨(Nat.le_of_ble_eq_true rfl), (Nat.le_of_ble_eq_true rfl)⟩ hK hE k_nilP (k_nilD (A := va_A (mdW cI a N P T U v) s.heap.size)) rfl hl.1 rfl (Nat.le_of_ble_eq_true rfl) dX5_day_118 ⟨Nat.zero_le _, Nat.zero_le _⟩ ?_
                refine lv_if_eq (tgt := 147) hx hb dX5_day_121 (by decide) (fun c22 => ?_) (fun c22 => ?_)
                · have c22 := bI_eq0 c22
                  have hno := c22
                  refine lv_iconst (v := 0) hx hb dX5_day_147 (by decide) ?_
                  refine lv_istore_n (lv' := [(2, .int 0), (0, .ref (a 0)), (1, .int (nI k))]) hx hb dX5_day_148 rfl hl (by decide) rfl (fun ls hl => ?_)
                  refine lv_aload_n hx hb dX5_day_149 rfl (lv_at hl 1 rfl) ?_
                  refine g5 hx hb hts hown hK hP 0 rfl 0 (by decide) flX5_7 (fun _ h => h) (v := .ref (a 1)) rfl dX5_day_150 ?_
                  refine lv_bipush (v := 12) hx hb dX5_day_153 (by decide) ?_
                  refine lv_bipush (v := 8) hx hb dX5_day_155 (by decide) ?_
                  refine lv_iload_n hx hb dX5_day_157 rfl (lv_at hl 2 rfl) ?_
                  refine lv_imul hx hb dX5_day_158 (lv_topi (fun x23 e23 => ?_))
                  have q23 : x23 = nI (8 * k) := by rw [e23]; exact pk_mul 8 k
                  subst q23
                  refine lv_iadd hx hb dX5_day_159 (lv_topi (fun x24 e24 => ?_))
                  have q24 : x24 = nI (12 + 8 * k) := by rw [e24]; exact nI_add 12 (8 * k)
                  subst q24
                  refine lv_iconst (v := 4) hx hb dX5_day_160 (by decide) ?_
                  refine lv_iadd hx hb dX5_day_161 (lv_topi (fun x25 e25 => ?_))
                  have q25 : x25 = nI (12 + 8 * k + 4) := by rw [e25]; exact nI_add (12 + 8 * k) 4
                  subst q25
                  refine lv_dup2_11 hx hb dX5_day_162 rfl rfl ?_
                  refine k_ald (k := 12 + 8 * k + 4) hx hb hK hP 1 0 rfl rfl rfl (by omega) (by decide) dX5_day_163 ?_
                  rw [show flat (p_wt (p_tb (up2 N 1 0 (N 1 0 + 1)) n) k) (12 + 8 * k + 4) = (p_wt (p_tb (up2 N 1 0 (N 1 0 + 1)) n) k) 7 k from flat_hose _ _ 4 (by decide)]
                  refine lv_iload_n hx hb dX5_day_164 rfl (lv_at hl 0 rfl) ?_
                  refine lv_if_eq (tgt := 172) hx hb dX5_day_165 (by decide) (fun _ => ?_) (fun h => absurd (by decide) h)
                  refine lv_iconst (v := 0) hx hb dX5_day_172 (by decide) ?_
                  refine lv_iadd hx hb dX5_day_173 (lv_topi (fun x26 e26 => ?_))
                  refine k_ast (k := 12 + 8 * k + 4) hx hb hK hP hD hS 1 0 rfl rfl rfl (by omega) (by decide) dX5_day_174 (fun H locs hP hD hS => ?_)
                  rw [flat_putH _ _ 4 _ (by decide)] at hP hD
                  have hP : va_P D vwCl (mdW cI a (up2 (p_wt (p_tb (up2 N 1 0 (N 1 0 + 1)) n) k) 7 k x26) P T U v) H := hP
                  have hD : va_D (va_A (mdW cI a N P T U v) s.heap.size) (mdW cI a (up2 (p_wt (p_tb (up2 N 1 0 (N 1 0 + 1)) n) k) 7 k x26) P T U v) := hD
                  refine lv_iinc (v := nI (k + 1)) (lv' := [(1, .int (nI (k + 1))), (2, .int 0), (0, .ref (a 0))]) hx hb dX5_day_175 hl (k := 2) rfl (nI_1 _) (by decide) rfl (fun ls hl => ?_)
                  refine lv_goto (tgt := 89) hx hb dX5_day_178 (by decide) ?_
                  have hl : lv_has ls 3 [(0, .ref (a 0)), (1, .int (nI (k + 1)))] := lv_sub hl [2, 0] rfl
                  have hl : lv_has ls 3 [(0, .ref (a 0)), (1, .int (nI (k + 1)))] := hl
                  have w27 : (up2 (p_wt (p_tb (up2 N 1 0 (N 1 0 + 1)) n) k) 7 k x26) = (p_wt (p_tb (up2 N 1 0 (N 1 0 + 1)) n) (k + 1)) := by subst e13 e26; rw [Int32.add_zero, up2_self, p_wt_stay (fun h => hno h.1)]
                  have hP : va_P D vwCl (mdW cI a (p_wt (p_tb (up2 N 1 0 (N 1 0 + 1)) n) (k + 1)) P T U v) H := (congrArg (fun zz => va_P D vwCl (mdW cI a zz P T U v) H) w27).mp hP
                  have hD : va_D (va_A (mdW cI a N P T U v) s.heap.size) (mdW cI a (p_wt (p_tb (up2 N 1 0 (N 1 0 + 1)) n) (k + 1)) P T U v) := (congrArg (fun zz => va_D (va_A (mdW cI a N P T U v) s.heap.size) (mdW cI a zz P T U v)) w27).mp hD
                  have hP : va_P D vwCl (mdW cI a (p_wt (p_tb (up2 N 1 0 (N 1 0 + 1)) n) (k + 1)) P T U v) H := hP
                  have hD : va_D (va_A (mdW cI a N P T U v) s.heap.size) (mdW cI a (p_wt (p_tb (up2 N 1 0 (N 1 0 + 1)) n) (k + 1)) P T U v) := hD
                  exact ih (k + 1) (by omega) (by omega) (Or.inr hrm) H locs hP hD hS hS.1 ls hl
                · have c22 := bI_ne0 c22
                  have hyes := c22
                  refine lv_aload_n hx hb dX5_day_124 rfl (lv_at hl 0 rfl) ?_
                  refine lv_iload_n hx hb dX5_day_125 rfl (lv_at hl 1 rfl) ?_
                  refine k_riV (As := [.int (nI k)]) (rest := []) (wc := mdW cI a (p_wt (p_tb (up2 N 1 0 (N 1 0 + 1)) n) k) P T U v) ⟨hx, hb, hml, hown, hts⟩ (c_X5_isReady l D cI cS cL a (p_wt (p_tb (up2 N 1 0 (N 1 0 + 1)) n) k) P T U v _ k (by omega) (by rw [p_wt_row1, p_tb_row1]; exact hd0)) lkX5_62 rfl rfl ⟨(Nat.le_of_ble_eq_true rfl), (Nat.le_of_ble_eq_true rfl)⟩ (va_recv hK hP (ci := 4) (q0 := 0) rfl rfl) hK hE hP hD rfl hl.1 rfl (Nat.le_of_ble_eq_true rfl) dX5_day_126 ⟨Nat.zero_le _, Nat.zero_le _⟩ ?_
                  refine lv_if_eq (tgt := 147) hx hb dX5_day_129 (by decide) (fun c28 => ?_) (fun c28 => ?_)
                  · have c28 := bI_eq0 c28
                    have hnrd := c28
                    refine lv_iconst (v := 0) hx hb dX5_day_147 (by decide) ?_
                    refine lv_istore_n (lv' := [(2, .int 0), (0, .ref (a 0)), (1, .int (nI k))]) hx hb dX5_day_148 rfl hl (by decide) rfl (fun ls hl => ?_)
                    refine lv_aload_n hx hb dX5_day_149 rfl (lv_at hl 1 rfl) ?_
                    refine g5 hx hb hts hown hK hP 0 rfl 0 (by decide) flX5_7 (fun _ h => h) (v := .ref (a 1)) rfl dX5_day_150 ?_
                    refine lv_bipush (v := 12) hx hb dX5_day_153 (by decide) ?_
                    refine lv_bipush (v := 8) hx hb dX5_day_155 (by decide) ?_
                    refine lv_iload_n hx hb dX5_day_157 rfl (lv_at hl 2 rfl) ?_
                    refine lv_imul hx hb dX5_day_158 (lv_topi (fun x29 e29 => ?_))
                    have q29 : x29 = nI (8 * k) := by rw [e29]; exact pk_mul 8 k
                    subst q29
                    refine lv_iadd hx hb dX5_day_159 (lv_topi (fun x30 e30 => ?_))
                    have q30 : x30 = nI (12 + 8 * k) := by rw [e30]; exact nI_add 12 (8 * k)
                    subst q30
                    refine lv_iconst (v := 4) hx hb dX5_day_160 (by decide) ?_
                    refine lv_iadd hx hb dX5_day_161 (lv_topi (fun x31 e31 => ?_))
                    have q31 : x31 = nI (12 + 8 * k + 4) := by rw [e31]; exact nI_add (12 + 8 * k) 4
                    subst q31
                    refine lv_dup2_11 hx hb dX5_day_162 rfl rfl ?_
                    refine k_ald (k := 12 + 8 * k + 4) hx hb hK hP 1 0 rfl rfl rfl (by omega) (by decide) dX5_day_163 ?_
                    rw [show flat (p_wt (p_tb (up2 N 1 0 (N 1 0 + 1)) n) k) (12 + 8 * k + 4) = (p_wt (p_tb (up2 N 1 0 (N 1 0 + 1)) n) k) 7 k from flat_hose _ _ 4 (by decide)]
                    refine lv_iload_n hx hb dX5_day_164 rfl (lv_at hl 0 rfl) ?_
                    refine lv_if_eq (tgt := 172) hx hb dX5_day_165 (by decide) (fun _ => ?_) (fun h => absurd (by decide) h)
                    refine lv_iconst (v := 0) hx hb dX5_day_172 (by decide) ?_
                    refine lv_iadd hx hb dX5_day_173 (lv_topi (fun x32 e32 => ?_))
                    refine k_ast (k := 12 + 8 * k + 4) hx hb hK hP hD hS 1 0 rfl rfl rfl (by omega) (by decide) dX5_day_174 (fun H locs hP hD hS => ?_)
                    rw [flat_putH _ _ 4 _ (by decide)] at hP hD
                    have hP : va_P D vwCl (mdW cI a (up2 (p_wt (p_tb (up2 N 1 0 (N 1 0 + 1)) n) k) 7 k x32) P T U v) H := hP
                    have hD : va_D (va_A (mdW cI a N P T U v) s.heap.size) (mdW cI a (up2 (p_wt (p_tb (up2 N 1 0 (N 1 0 + 1)) n) k) 7 k x32) P T U v) := hD
                    refine lv_iinc (v := nI (k + 1)) (lv' := [(1, .int (nI (k + 1))), (2, .int 0), (0, .ref (a 0))]) hx hb dX5_day_175 hl (k := 2) rfl (nI_1 _) (by decide) rfl (fun ls hl => ?_)
                    refine lv_goto (tgt := 89) hx hb dX5_day_178 (by decide) ?_
                    have hl : lv_has ls 3 [(0, .ref (a 0)), (1, .int (nI (k + 1)))] := lv_sub hl [2, 0] rfl
                    have hl : lv_has ls 3 [(0, .ref (a 0)), (1, .int (nI (k + 1)))] := hl
                    have w33 : (up2 (p_wt (p_tb (up2 N 1 0 (N 1 0 + 1)) n) k) 7 k x32) = (p_wt (p_tb (up2 N 1 0 (N 1 0 + 1)) n) (k + 1)) := by subst e13 e32; rw [Int32.add_zero, up2_self, p_wt_stay (fun h => hnrd h.2)]
                    have hP : va_P D vwCl (mdW cI a (p_wt (p_tb (up2 N 1 0 (N 1 0 + 1)) n) (k + 1)) P T U v) H := (congrArg (fun zz => va_P D vwCl (mdW cI a zz P T U v) H) w33).mp hP
                    have hD : va_D (va_A (mdW cI a N P T U v) s.heap.size) (mdW cI a (p_wt (p_tb (up2 N 1 0 (N 1 0 + 1)) n) (k + 1)) P T U v) := (congrArg (fun zz => va_D (va_A (mdW cI a N P T U v) s.heap.size) (mdW cI a zz P T U v)) w33).mp hD
                    have hP : va_P D vwCl (mdW cI a (p_wt (p_tb (up2 N 1 0 (N 1 0 + 1)) n) (k + 1)) P T U v) H := hP
                    have hD : va_D (va_A (mdW cI a N P T U v) s.heap.size) (mdW cI a (p_wt (p_tb (up2 N 1 0 (N 1 0 + 1)) n) (k + 1)) P T U v) := hD
                    exact ih (k + 1) (by omega) (by omega) (Or.inr hrm) H locs hP hD hS hS.1 ls hl
                  · have c28 := bI_ne0 c28
                    have hrd := c28
                    refine lv_aload_n hx hb dX5_day_132 rfl (lv_at hl 0 rfl) ?_
                    refine lv_iload_n hx hb dX5_day_133 rfl (lv_at hl 1 rfl) ?_
                    refine lv_iconst (v := 4) hx hb dX5_day_134 (by decide) ?_
                    refine k_riV (As := [.int (nI k), .int (nI 4)]) (rest := []) (wc := mdW cI a (p_wt (p_tb (up2 N 1 0 (N 1 0 + 1)) n) k) P T U v) ⟨hx, hb, hml, hown, hts⟩ (c_X5_of l D cI cS cL a (p_wt (p_tb (up2 N 1 0 (N 1 0 + 1)) n) k) P T U v _ k 4 7 (by omega) (by decide) rfl) lkX5_37 rfl rfl ⟨(Nat.le_of_ble_eq_true rfl), (Nat.le_of_ble_eq_true rfl)⟩ (va_recv hK hP (ci := 4) (q0 := 0) rfl rfl) hK hE hP hD rfl hl.1 rfl (Nat.le_of_ble_eq_true rfl) dX5_day_135 ⟨Nat.zero_le _, Nat.zero_le _⟩ ?_
                    refine lv_bipush (v := 99) hx hb dX5_day_138 (by decide) ?_
                    refine lv_icmp_ge (tgt := 147) hx hb dX5_day_140 (by decide) (fun c34 => ?_) (fun c34 => ?_)
                    · have c34' := Int32.not_lt.mpr c34
                      have hg99 := Int32.not_lt.mpr c34
                      refine lv_iconst (v := 0) hx hb dX5_day_147 (by decide) ?_
                      refine lv_istore_n (lv' := [(2, .int 0), (0, .ref (a 0)), (1, .int (nI k))]) hx hb dX5_day_148 rfl hl (by decide) rfl (fun ls hl => ?_)
                      refine lv_aload_n hx hb dX5_day_149 rfl (lv_at hl 1 rfl) ?_
                      refine g5 hx hb hts hown hK hP 0 rfl 0 (by decide) flX5_7 (fun _ h => h) (v := .ref (a 1)) rfl dX5_day_150 ?_
                      refine lv_bipush (v := 12) hx hb dX5_day_153 (by decide) ?_
                      refine lv_bipush (v := 8) hx hb dX5_day_155 (by decide) ?_
                      refine lv_iload_n hx hb dX5_day_157 rfl (lv_at hl 2 rfl) ?_
                      refine lv_imul hx hb dX5_day_158 (lv_topi (fun x35 e35 => ?_))
                      have q35 : x35 = nI (8 * k) := by rw [e35]; exact pk_mul 8 k
                      subst q35
                      refine lv_iadd hx hb dX5_day_159 (lv_topi (fun x36 e36 => ?_))
                      have q36 : x36 = nI (12 + 8 * k) := by rw [e36]; exact nI_add 12 (8 * k)
                      subst q36
                      refine lv_iconst (v := 4) hx hb dX5_day_160 (by decide) ?_
                      refine lv_iadd hx hb dX5_day_161 (lv_topi (fun x37 e37 => ?_))
                      have q37 : x37 = nI (12 + 8 * k + 4) := by rw [e37]; exact nI_add (12 + 8 * k) 4
                      subst q37
                      refine lv_dup2_11 hx hb dX5_day_162 rfl rfl ?_
                      refine k_ald (k := 12 + 8 * k + 4) hx hb hK hP 1 0 rfl rfl rfl (by omega) (by decide) dX5_day_163 ?_
                      rw [show flat (p_wt (p_tb (up2 N 1 0 (N 1 0 + 1)) n) k) (12 + 8 * k + 4) = (p_wt (p_tb (up2 N 1 0 (N 1 0 + 1)) n) k) 7 k from flat_hose _ _ 4 (by decide)]
                      refine lv_iload_n hx hb dX5_day_164 rfl (lv_at hl 0 rfl) ?_
                      refine lv_if_eq (tgt := 172) hx hb dX5_day_165 (by decide) (fun _ => ?_) (fun h => absurd (by decide) h)
                      refine lv_iconst (v := 0) hx hb dX5_day_172 (by decide) ?_
                      refine lv_iadd hx hb dX5_day_173 (lv_topi (fun x38 e38 => ?_))
                      refine k_ast (k := 12 + 8 * k + 4) hx hb hK hP hD hS 1 0 rfl rfl rfl (by omega) (by decide) dX5_day_174 (fun H locs hP hD hS => ?_)
                      rw [flat_putH _ _ 4 _ (by decide)] at hP hD
                      have hP : va_P D vwCl (mdW cI a (up2 (p_wt (p_tb (up2 N 1 0 (N 1 0 + 1)) n) k) 7 k x38) P T U v) H := hP
                      have hD : va_D (va_A (mdW cI a N P T U v) s.heap.size) (mdW cI a (up2 (p_wt (p_tb (up2 N 1 0 (N 1 0 + 1)) n) k) 7 k x38) P T U v) := hD
                      refine lv_iinc (v := nI (k + 1)) (lv' := [(1, .int (nI (k + 1))), (2, .int 0), (0, .ref (a 0))]) hx hb dX5_day_175 hl (k := 2) rfl (nI_1 _) (by decide) rfl (fun ls hl => ?_)
                      refine lv_goto (tgt := 89) hx hb dX5_day_178 (by decide) ?_
                      have hl : lv_has ls 3 [(0, .ref (a 0)), (1, .int (nI (k + 1)))] := lv_sub hl [2, 0] rfl
                      have hl : lv_has ls 3 [(0, .ref (a 0)), (1, .int (nI (k + 1)))] := hl
                      have w39 : (up2 (p_wt (p_tb (up2 N 1 0 (N 1 0 + 1)) n) k) 7 k x38) = (p_wt (p_tb (up2 N 1 0 (N 1 0 + 1)) n) (k + 1)) := by subst e13 e38; rw [p_wt_go ⟨hyes, hrd⟩, ← mn99_ge hz0 hz1 hg99, Int32.add_zero]
                      have hP : va_P D vwCl (mdW cI a (p_wt (p_tb (up2 N 1 0 (N 1 0 + 1)) n) (k + 1)) P T U v) H := (congrArg (fun zz => va_P D vwCl (mdW cI a zz P T U v) H) w39).mp hP
                      have hD : va_D (va_A (mdW cI a N P T U v) s.heap.size) (mdW cI a (p_wt (p_tb (up2 N 1 0 (N 1 0 + 1)) n) (k + 1)) P T U v) := (congrArg (fun zz => va_D (va_A (mdW cI a N P T U v) s.heap.size) (mdW cI a zz P T U v)) w39).mp hD
                      have hP : va_P D vwCl (mdW cI a (p_wt (p_tb (up2 N 1 0 (N 1 0 + 1)) n) (k + 1)) P T U v) H := hP
                      have hD : va_D (va_A (mdW cI a N P T U v) s.heap.size) (mdW cI a (p_wt (p_tb (up2 N 1 0 (N 1 0 + 1)) n) (k + 1)) P T U v) := hD
                      exact ih (k + 1) (by omega) (by omega) (Or.inr hrm) H locs hP hD hS hS.1 ls hl
                    · have c34' := Int32.not_le.mp c34
                      have hl99 := Int32.not_le.mp c34
                      refine lv_iconst (v := 1) hx hb dX5_day_143 (by decide) ?_
                      refine lv_goto (tgt := 148) hx hb dX5_day_144 (by decide) ?_
                      refine lv_istore_n (lv' := [(2, .int 1), (0, .ref (a 0)), (1, .int (nI k))]) hx hb dX5_day_148 rfl hl (by decide) rfl (fun ls hl => ?_)
                      refine lv_aload_n hx hb dX5_day_149 rfl (lv_at hl 1 rfl) ?_
                      refine g5 hx hb hts hown hK hP 0 rfl 0 (by decide) flX5_7 (fun _ h => h) (v := .ref (a 1)) rfl dX5_day_150 ?_
                      refine lv_bipush (v := 12) hx hb dX5_day_153 (by decide) ?_
                      refine lv_bipush (v := 8) hx hb dX5_day_155 (by decide) ?_
                      refine lv_iload_n hx hb dX5_day_157 rfl (lv_at hl 2 rfl) ?_
                      refine lv_imul hx hb dX5_day_158 (lv_topi (fun x40 e40 => ?_))
                      have q40 : x40 = nI (8 * k) := by rw [e40]; exact pk_mul 8 k
                      subst q40
                      refine lv_iadd hx hb dX5_day_159 (lv_topi (fun x41 e41 => ?_))
                      have q41 : x41 = nI (12 + 8 * k) := by rw [e41]; exact nI_add 12 (8 * k)
                      subst q41
                      refine lv_iconst (v := 4) hx hb dX5_day_160 (by decide) ?_
                      refine lv_iadd hx hb dX5_day_161 (lv_topi (fun x42 e42 => ?_))
                      have q42 : x42 = nI (12 + 8 * k + 4) := by rw [e42]; exact nI_add (12 + 8 * k) 4
                      subst q42
                      refine lv_dup2_11 hx hb dX5_day_162 rfl rfl ?_
                      refine k_ald (k := 12 + 8 * k + 4) hx hb hK hP 1 0 rfl rfl rfl (by omega) (by decide) dX5_day_163 ?_
                      rw [show flat (p_wt (p_tb (up2 N 1 0 (N 1 0 + 1)) n) k) (12 + 8 * k + 4) = (p_wt (p_tb (up2 N 1 0 (N 1 0 + 1)) n) k) 7 k from flat_hose _ _ 4 (by decide)]
                      refine lv_iload_n hx hb dX5_day_164 rfl (lv_at hl 0 rfl) ?_
                      refine lv_if_eq (tgt := 172) hx hb dX5_day_165 (by decide) (fun h => absurd h (by decide)) (fun _ => ?_)
                      refine lv_iconst (v := 1) hx hb dX5_day_168 (by decide) ?_
                      refine lv_goto (tgt := 173) hx hb dX5_day_169 (by decide) ?_
                      refine lv_iadd hx hb dX5_day_173 (lv_topi (fun x43 e43 => ?_))
                      refine k_ast (k := 12 + 8 * k + 4) hx hb hK hP hD hS 1 0 rfl rfl rfl (by omega) (by decide) dX5_day_174 (fun H locs hP hD hS => ?_)
                      rw [flat_putH _ _ 4 _ (by decide)] at hP hD
                      have hP : va_P D vwCl (mdW cI a (up2 (p_wt (p_tb (up2 N 1 0 (N 1 0 + 1)) n) k) 7 k x43) P T U v) H := hP
                      have hD : va_D (va_A (mdW cI a N P T U v) s.heap.size) (mdW cI a (up2 (p_wt (p_tb (up2 N 1 0 (N 1 0 + 1)) n) k) 7 k x43) P T U v) := hD
                      refine lv_iinc (v := nI (k + 1)) (lv' := [(1, .int (nI (k + 1))), (2, .int 1), (0, .ref (a 0))]) hx hb dX5_day_175 hl (k := 2) rfl (nI_1 _) (by decide) rfl (fun ls hl => ?_)
                      refine lv_goto (tgt := 89) hx hb dX5_day_178 (by decide) ?_
                      have hl : lv_has ls 3 [(0, .ref (a 0)), (1, .int (nI (k + 1)))] := lv_sub hl [2, 0] rfl
                      have hl : lv_has ls 3 [(0, .ref (a 0)), (1, .int (nI (k + 1)))] := hl
                      have w44 : (up2 (p_wt (p_tb (up2 N 1 0 (N 1 0 + 1)) n) k) 7 k x43) = (p_wt (p_tb (up2 N 1 0 (N 1 0 + 1)) n) (k + 1)) := by subst e13 e43; rw [p_wt_go ⟨hyes, hrd⟩, ← mn99_lt hz0 hz1 hl99]
                      have hP : va_P D vwCl (mdW cI a (p_wt (p_tb (up2 N 1 0 (N 1 0 + 1)) n) (k + 1)) P T U v) H := (congrArg (fun zz => va_P D vwCl (mdW cI a zz P T U v) H) w44).mp hP
                      have hD : va_D (va_A (mdW cI a N P T U v) s.heap.size) (mdW cI a (p_wt (p_tb (up2 N 1 0 (N 1 0 + 1)) n) (k + 1)) P T U v) := (congrArg (fun zz => va_D (va_A (mdW cI a N P T U v) s.heap.size) (mdW cI a zz P T U v)) w44).mp hD
                      have hP : va_P D vwCl (mdW cI a (p_wt (p_tb (up2 N 1 0 (N 1 0 + 1)) n) (k + 1)) P T U v) H := hP
                      have hD : va_D (va_A (mdW cI a N P T U v) s.heap.size) (mdW cI a (p_wt (p_tb (up2 N 1 0 (N 1 0 + 1)) n) (k + 1)) P T U v) := hD
                      exact ih (k + 1) (by omega) (by omega) (Or.inr hrm) H locs hP hD hS hS.1 ls hl
        have hl : lv_has ls 3 [(0, .ref (a 0)), (1, .int 0)] := lv_sub hl [1, 0] rfl
        have hl : lv_has ls 3 [(0, .ref (a 0)), (1, .int (nI 0))] := hl
        have hP : va_P D vwCl (mdW cI a (p_wt (p_tb (up2 N 1 0 (N 1 0 + 1)) n) 0) P T U v) H := hP
        have hD : va_D (va_A (mdW cI a N P T U v) s.heap.size) (mdW cI a (p_wt (p_tb (up2 N 1 0 (N 1 0 + 1)) n) 0) P T U v) := hD
        exact L4 (n - 0 + 1) 0 (by omega) (by omega) (Or.inl rfl) H locs hP hD hS hS.1 ls hl
      · have c3' := Int32.not_le.mp c3
        have hkn : k < n := k_more (by omega) hv1 c3
        refine lv_bipush (v := 12) hx hb dX5_day_22 (by decide) ?_
        refine lv_bipush (v := 8) hx hb dX5_day_24 (by decide) ?_
        refine lv_iload_n hx hb dX5_day_26 rfl (lv_at hl 1 rfl) ?_
        refine lv_imul hx hb dX5_day_27 (lv_topi (fun x46 e46 => ?_))
        have q46 : x46 = nI (8 * k) := by rw [e46]; exact pk_mul 8 k
        subst q46
        refine lv_iadd hx hb dX5_day_28 (lv_topi (fun x47 e47 => ?_))
        have q47 : x47 = nI (12 + 8 * k) := by rw [e47]; exact nI_add 12 (8 * k)
        subst q47
        refine lv_istore_n (lv' := [(2, .int (nI (12 + 8 * k))), (0, .ref (a 0)), (1, .int (nI k))]) hx hb dX5_day_29 rfl hl (by decide) rfl (fun ls hl => ?_)
        refine lv_aload_n hx hb dX5_day_30 rfl (lv_at hl 1 rfl) ?_
        refine g5 hx hb hts hown hK hP 0 rfl 0 (by decide) flX5_7 (fun _ h => h) (v := .ref (a 1)) rfl dX5_day_31 ?_
        refine lv_iload_n hx hb dX5_day_34 rfl (lv_at hl 0 rfl) ?_
        refine lv_bipush (v := 6) hx hb dX5_day_35 (by decide) ?_
        refine lv_iadd hx hb dX5_day_37 (lv_topi (fun x48 e48 => ?_))
        have q48 : x48 = nI (12 + 8 * k + 6) := by rw [e48]; exact nI_add (12 + 8 * k) 6
        subst q48
        refine k_ald (k := 12 + 8 * k + 6) hx hb hK hP 1 0 rfl rfl rfl (by omega) (by decide) dX5_day_38 ?_
        rw [show flat (p_tb (up2 N 1 0 (N 1 0 + 1)) k) (12 + 8 * k + 6) = (p_tb (up2 N 1 0 (N 1 0 + 1)) k) 9 k from flat_hose _ _ 6 (by decide)]
        refine lv_iconst (v := 4) hx hb dX5_day_39 (by decide) ?_
        refine lv_icmp_ne (tgt := 81) hx hb dX5_day_40 (by decide) (fun c49 => ?_) (fun c49 => ?_)
        · refine lv_iinc (v := nI (k + 1)) (lv' := [(1, .int (nI (k + 1))), (2, .int (nI (12 + 8 * k))), (0, .ref (a 0))]) hx hb dX5_day_81 hl (k := 2) rfl (nI_1 _) (by decide) rfl (fun ls hl => ?_)
          refine lv_goto (tgt := 12) hx hb dX5_day_84 (by decide) ?_
          have hl : lv_has ls 3 [(0, .ref (a 0)), (1, .int (nI (k + 1)))] := lv_sub hl [2, 0] rfl
          have hl : lv_has ls 3 [(0, .ref (a 0)), (1, .int (nI (k + 1)))] := hl
          have w50 : (p_tb (up2 N 1 0 (N 1 0 + 1)) k) = (p_tb (up2 N 1 0 (N 1 0 + 1)) (k + 1)) := by simp [p_tb, c3, c3', hkn, c49]
          have hP : va_P D vwCl (mdW cI a (p_tb (up2 N 1 0 (N 1 0 + 1)) (k + 1)) P T U v) H := (congrArg (fun zz => va_P D vwCl (mdW cI a zz P T U v) H) w50).mp hP
          have hD : va_D (va_A (mdW cI a N P T U v) s.heap.size) (mdW cI a (p_tb (up2 N 1 0 (N 1 0 + 1)) (k + 1)) P T U v) := (congrArg (fun zz => va_D (va_A (mdW cI a N P T U v) s.heap.size) (mdW cI a zz P T U v)) w50).mp hD
          have hP : va_P D vwCl (mdW cI a (p_tb (up2 N 1 0 (N 1 0 + 1)) (k + 1)) P T U v) H := hP
          have hD : va_D (va_A (mdW cI a N P T U v) s.heap.size) (mdW cI a (p_tb (up2 N 1 0 (N 1 0 + 1)) (k + 1)) P T U v) := hD
          exact ih (k + 1) (by omega) (by omega) H locs hP hD hS hS.1 ls hl
        · refine lv_aload_n hx hb dX5_day_43 rfl (lv_at hl 1 rfl) ?_
          refine g5 hx hb hts hown hK hP 0 rfl 0 (by decide) flX5_7 (fun _ h => h) (v := .ref (a 1)) rfl dX5_day_44 ?_
          refine lv_iload_n hx hb dX5_day_47 rfl (lv_at hl 0 rfl) ?_
          refine lv_bipush (v := 7) hx hb dX5_day_48 (by decide) ?_
          refine lv_iadd hx hb dX5_day_50 (lv_topi (fun x51 e51 => ?_))
          have q51 : x51 = nI (12 + 8 * k + 7) := by rw [e51]; exact nI_add (12 + 8 * k) 7
          subst q51
          refine k_ald (k := 12 + 8 * k + 7) hx hb hK hP 1 0 rfl rfl rfl (by omega) (by decide) dX5_day_51 ?_
          rw [show flat (p_tb (up2 N 1 0 (N 1 0 + 1)) k) (12 + 8 * k + 7) = (p_tb (up2 N 1 0 (N 1 0 + 1)) k) 10 k from flat_hose _ _ 7 (by decide)]
          refine lv_aload_n hx hb dX5_day_52 rfl (lv_at hl 1 rfl) ?_
          refine g5 hx hb hts hown hK hP 0 rfl 0 (by decide) flX5_7 (fun _ h => h) (v := .ref (a 1)) rfl dX5_day_53 ?_
          refine lv_iconst (v := 3) hx hb dX5_day_56 (by decide) ?_
          refine k_ald (k := 3) hx hb hK hP 1 0 rfl rfl rfl (by decide) (by decide) dX5_day_57 ?_
          rw [show flat (p_tb (up2 N 1 0 (N 1 0 + 1)) k) (3) = (p_tb (up2 N 1 0 (N 1 0 + 1)) k) 1 0 from rfl]
          refine lv_icmp_ne (tgt := 81) hx hb dX5_day_58 (by decide) (fun c52 => ?_) (fun c52 => ?_)
          · refine lv_iinc (v := nI (k + 1)) (lv' := [(1, .int (nI (k + 1))), (2, .int (nI (12 + 8 * k))), (0, .ref (a 0))]) hx hb dX5_day_81 hl (k := 2) rfl (nI_1 _) (by decide) rfl (fun ls hl => ?_)
            refine lv_goto (tgt := 12) hx hb dX5_day_84 (by decide) ?_
            have hl : lv_has ls 3 [(0, .ref (a 0)), (1, .int (nI (k + 1)))] := lv_sub hl [2, 0] rfl
            have hl : lv_has ls 3 [(0, .ref (a 0)), (1, .int (nI (k + 1)))] := hl
            have w53 : (p_tb (up2 N 1 0 (N 1 0 + 1)) k) = (p_tb (up2 N 1 0 (N 1 0 + 1)) (k + 1)) := by simp [p_tb, c3, c3', hkn, c49, c52]
            have hP : va_P D vwCl (mdW cI a (p_tb (up2 N 1 0 (N 1 0 + 1)) (k + 1)) P T U v) H := (congrArg (fun zz => va_P D vwCl (mdW cI a zz P T U v) H) w53).mp hP
            have hD : va_D (va_A (mdW cI a N P T U v) s.heap.size) (mdW cI a (p_tb (up2 N 1 0 (N 1 0 + 1)) (k + 1)) P T U v) := (congrArg (fun zz => va_D (va_A (mdW cI a N P T U v) s.heap.size) (mdW cI a zz P T U v)) w53).mp hD
            have hP : va_P D vwCl (mdW cI a (p_tb (up2 N 1 0 (N 1 0 + 1)) (k + 1)) P T U v) H := hP
            have hD : va_D (va_A (mdW cI a N P T U v) s.heap.size) (mdW cI a (p_tb (up2 N 1 0 (N 1 0 + 1)) (k + 1)) P T U v) := hD
            exact ih (k + 1) (by omega) (by omega) H locs hP hD hS hS.1 ls hl
          · refine lv_aload_n hx hb dX5_day_61 rfl (lv_at hl 1 rfl) ?_
            refine g5 hx hb hts hown hK hP 0 rfl 0 (by decide) flX5_7 (fun _ h => h) (v := .ref (a 1)) rfl dX5_day_62 ?_
            refine lv_iload_n hx hb dX5_day_65 rfl (lv_at hl 0 rfl) ?_
            refine lv_bipush (v := 6) hx hb dX5_day_66 (by decide) ?_
            refine lv_iadd hx hb dX5_day_68 (lv_topi (fun x54 e54 => ?_))
            have q54 : x54 = nI (12 + 8 * k + 6) := by rw [e54]; exact nI_add (12 + 8 * k) 6
            subst q54
            refine lv_iconst (v := 3) hx hb dX5_day_69 (by decide) ?_
            refine k_ast (k := 12 + 8 * k + 6) hx hb hK hP hD hS 1 0 rfl rfl rfl (by omega) (by decide) dX5_day_70 (fun H locs hP hD hS => ?_)
            rw [flat_putH _ _ 6 _ (by decide)] at hP hD
            have hP : va_P D vwCl (mdW cI a (up2 (p_tb (up2 N 1 0 (N 1 0 + 1)) k) 9 k 3) P T U v) H := hP
            have hD : va_D (va_A (mdW cI a N P T U v) s.heap.size) (mdW cI a (up2 (p_tb (up2 N 1 0 (N 1 0 + 1)) k) 9 k 3) P T U v) := hD
            refine lv_aload_n hx hb dX5_day_71 rfl (lv_at hl 1 rfl) ?_
            refine g5 hx hb hts hown hK hP 0 rfl 0 (by decide) flX5_7 (fun _ h => h) (v := .ref (a 1)) rfl dX5_day_72 ?_
            refine lv_iload_n hx hb dX5_day_75 rfl (lv_at hl 0 rfl) ?_
            refine lv_bipush (v := 7) hx hb dX5_day_76 (by decide) ?_
            refine lv_iadd hx hb dX5_day_78 (lv_topi (fun x55 e55 => ?_))
            have q55 : x55 = nI (12 + 8 * k + 7) := by rw [e55]; exact nI_add (12 + 8 * k) 7
            subst q55
            refine lv_iconst (v := (-1)) hx hb dX5_day_79 (by decide) ?_
            refine k_ast (k := 12 + 8 * k + 7) hx hb hK hP hD hS 1 0 rfl rfl rfl (by omega) (by decide) dX5_day_80 (fun H locs hP hD hS => ?_)
            rw [flat_putH _ _ 7 _ (by decide)] at hP hD
            have hP : va_P D vwCl (mdW cI a (up2 (up2 (p_tb (up2 N 1 0 (N 1 0 + 1)) k) 9 k 3) 10 k (-1)) P T U v) H := hP
            have hD : va_D (va_A (mdW cI a N P T U v) s.heap.size) (mdW cI a (up2 (up2 (p_tb (up2 N 1 0 (N 1 0 + 1)) k) 9 k 3) 10 k (-1)) P T U v) := hD
            refine lv_iinc (v := nI (k + 1)) (lv' := [(1, .int (nI (k + 1))), (2, .int (nI (12 + 8 * k))), (0, .ref (a 0))]) hx hb dX5_day_81 hl (k := 2) rfl (nI_1 _) (by decide) rfl (fun ls hl => ?_)
            refine lv_goto (tgt := 12) hx hb dX5_day_84 (by decide) ?_
            have hl : lv_has ls 3 [(0, .ref (a 0)), (1, .int (nI (k + 1)))] := lv_sub hl [2, 0] rfl
            have hl : lv_has ls 3 [(0, .ref (a 0)), (1, .int (nI (k + 1)))] := hl
            have w56 : (up2 (up2 (p_tb (up2 N 1 0 (N 1 0 + 1)) k) 9 k 3) 10 k (-1)) = (p_tb (up2 N 1 0 (N 1 0 + 1)) (k + 1)) := by simp [p_tb, c3, c3', hkn, c49, c52]
            have hP : va_P D vwCl (mdW cI a (p_tb (up2 N 1 0 (N 1 0 + 1)) (k + 1)) P T U v) H := (congrArg (fun zz => va_P D vwCl (mdW cI a zz P T U v) H) w56).mp hP
            have hD : va_D (va_A (mdW cI a N P T U v) s.heap.size) (mdW cI a (p_tb (up2 N 1 0 (N 1 0 + 1)) (k + 1)) P T U v) := (congrArg (fun zz => va_D (va_A (mdW cI a N P T U v) s.heap.size) (mdW cI a zz P T U v)) w56).mp hD
            have hP : va_P D vwCl (mdW cI a (p_tb (up2 N 1 0 (N 1 0 + 1)) (k + 1)) P T U v) H := hP
            have hD : va_D (va_A (mdW cI a N P T U v) s.heap.size) (mdW cI a (p_tb (up2 N 1 0 (N 1 0 + 1)) (k + 1)) P T U v) := hD
            exact ih (k + 1) (by omega) (by omega) H locs hP hD hS hS.1 ls hl
  have hl : lv_has ls 3 [(0, .ref (a 0)), (1, .int 0)] := lv_sub hl [1, 0] rfl
  have hl : lv_has ls 3 [(0, .ref (a 0)), (1, .int (nI 0))] := hl
  have hP : va_P D vwCl (mdW cI a (p_tb (up2 N 1 0 (N 1 0 + 1)) 0) P T U v) H := hP
  have hD : va_D (va_A (mdW cI a N P T U v) s.heap.size) (mdW cI a (p_tb (up2 N 1 0 (N 1 0 + 1)) 0) P T U v) := hD
  exact L2 (n - 0 + 1) 0 (by omega) (by omega) H locs hP hD hS hS.1 ls hl
