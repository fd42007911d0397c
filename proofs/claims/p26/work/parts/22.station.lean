abbrev rmL_station : Room := { frames := 6, cells := 0, slots := 0, locals := 132 }
set_option maxHeartbeats 4000000 in
set_option maxRecDepth 100000 in
theorem c_L_station (l : Launch) (D : va_G) (cI cS cL : ClassId) (x a : Nat → Nat) (r : Nat → Nat → Nat) (lat cnt : Int32) (z : Int32) (T : Nat → Int32) (N : NN) (v : Nat → Int32) (sz : Nat) (n d i : Nat) (hI : J2 N n d i) (hd : d < 2 ^ 18) (hi : i < 2 ^ 18) : Met l yL_station (wy_ yL_station cL_station 13 (some .boolean)) rmL_station (kPc D (kTy cI cS cL) (xH cS x a r lat cnt ++ (txW cI x z T ++ (stW cI a N v))) sz [.ref (x 0)]) (kMi D (xH cS x a r lat cnt ++ (txW cI x z T ++ (stW cI a N v))) (xH cS x a r lat cnt ++ (txW cI x z T ++ (stW cI a N (p_lay N (nI 2) (-1) n)))) sz (1)) 0 0 (va_A (xH cS x a r lat cnt ++ (txW cI x z T ++ (stW cI a N v))) sz) := by
  refine k_ofW (by decide) (Nat.le_of_ble_eq_true rfl) ?_
  intro p e s m args below meth c hx hb hr hml hts hown hlocks hnm hsz hP hK hD hE ls hl
  subst hsz
  have hA : ∀ q : Nat, s.heap.size ≤ q → (va_A (xH cS x a r lat cnt ++ (txW cI x z T ++ (stW cI a N v))) s.heap.size) q := fun q h => Or.inr h
  have hS : va_S (va_A (xH cS x a r lat cnt ++ (txW cI x z T ++ (stW cI a N v))) s.heap.size) s.heap s.heap [] := va_S.rf
  have hl : lv_has ls 13 [(0, .ref (x 0))] := hl
  have hn := hI.1.2.1
  have hn14 := hI.1.1
  refine lv_aload_n hx hb dL_station_0 rfl (lv_at hl 0 rfl) ?_
  refine lv_iconst (v := 2) hx hb dL_station_1 (by decide) ?_
  refine k_miV (As := [.int (nI 2)]) (rest := []) (w1 := []) (wc := xH cS x a r lat cnt ++ (txW cI x z T ++ (stW cI a N v))) (wc' := xH cS x a r lat cnt ++ (txW cI x z T ++ (stW cI a N (c_v N n v 2)))) (w3 := []) ⟨hx, hb, hml, hown, hts⟩ (c_X4_count_g l D cI cS cL x a r lat cnt z T N v _ n hn hn14 2 (by omega)) lkL_35 rfl rfl ⟨(Nat.le_of_ble_eq_true rfl), (Nat.le_of_ble_eq_true rfl)⟩ (va_recv hK hP (ci := 3) (q0 := 0) rfl rfl) hK hE hP hD hS hA rfl rfl hl.1 rfl (Nat.le_of_ble_eq_true rfl) dL_station_2 ⟨Nat.zero_le _, Nat.zero_le _⟩ (fun H locs hzz hP hD hS => ?_)
  have hP : va_P D vwCl (xH cS x a r lat cnt ++ (txW cI x z T ++ (stW cI a N v))) H := hP
  have hD : va_D (va_A (xH cS x a r lat cnt ++ (txW cI x z T ++ (stW cI a N v))) s.heap.size) (xH cS x a r lat cnt ++ (txW cI x z T ++ (stW cI a N v))) := hD
  rw [show p_count N n cnt 2 = nI n from hn]
  refine lv_istore_n (lv' := [(1, .int (nI n)), (0, .ref (x 0))]) hx hb dL_station_5 rfl hl (by decide) rfl (fun ls hl => ?_)
  refine lv_aload_n hx hb dL_station_6 rfl (lv_at hl 1 rfl) ?_
  refine lv_iconst (v := 0) hx hb dL_station_7 (by decide) ?_
  refine k_miV (As := [.int (nI 0)]) (rest := []) (w1 := []) (wc := xH cS x a r lat cnt ++ (txW cI x z T ++ (stW cI a N v))) (wc' := xH cS x a r lat cnt ++ (txW cI x z T ++ (stW cI a N (c_v N n v 0)))) (w3 := []) ⟨hx, hb, hml, hown, hts⟩ (c_X4_count_g l D cI cS cL x a r lat cnt z T N v _ n hn hn14 0 (by omega)) lkL_35 rfl rfl ⟨(Nat.le_of_ble_eq_true rfl), (Nat.le_of_ble_eq_true rfl)⟩ (va_recv hK hP (ci := 3) (q0 := 0) rfl rfl) hK hE hP hD hS hA rfl rfl hl.1 rfl (Nat.le_of_ble_eq_true rfl) dL_station_8 ⟨Nat.zero_le _, Nat.zero_le _⟩ (fun H locs hzz hP hD hS => ?_)
  have hP : va_P D vwCl (xH cS x a r lat cnt ++ (txW cI x z T ++ (stW cI a N v))) H := hP
  have hD : va_D (va_A (xH cS x a r lat cnt ++ (txW cI x z T ++ (stW cI a N v))) s.heap.size) (xH cS x a r lat cnt ++ (txW cI x z T ++ (stW cI a N v))) := hD
  rw [show p_count N n cnt 0 = N 1 0 from rfl]
  refine lv_istore_n (lv' := [(2, .int (N 1 0)), (1, .int (nI n)), (0, .ref (x 0))]) hx hb dL_station_11 rfl hl (by decide) rfl (fun ls hl => ?_)
  refine lv_iconst (v := 0) hx hb dL_station_12 (by decide) ?_
  refine lv_istore_n (lv' := [(3, .int 0), (2, .int (N 1 0)), (1, .int (nI n)), (0, .ref (x 0))]) hx hb dL_station_13 rfl hl (by decide) rfl (fun ls hl => ?_)
  refine lv_iconst (v := 0) hx hb dL_station_14 (by decide) ?_
  refine lv_istore (lv' := [(4, .int 0), (3, .int 0), (2, .int (N 1 0)), (1, .int (nI n)), (0, .ref (x 0))]) hx hb dL_station_15 hl (by decide) rfl (fun ls hl => ?_)
  refine lv_iconst (v := 0) hx hb dL_station_17 (by decide) ?_
  refine lv_istore (lv' := [(5, .int 0), (4, .int 0), (3, .int 0), (2, .int (N 1 0)), (1, .int (nI n)), (0, .ref (x 0))]) hx hb dL_station_18 hl (by decide) rfl (fun ls hl => ?_)
  refine lv_iconst (v := 0) hx hb dL_station_20 (by decide) ?_
  refine lv_istore (lv' := [(6, .int 0), (5, .int 0), (4, .int 0), (3, .int 0), (2, .int (N 1 0)), (1, .int (nI n)), (0, .ref (x 0))]) hx hb dL_station_21 hl (by decide) rfl (fun ls hl => ?_)
  refine lv_iload_n hx hb dL_station_23 rfl (lv_at hl 5 rfl) ?_
  refine lv_bipush (v := 14) hx hb dL_station_24 (by decide) ?_
  refine lv_icmp_gt (tgt := 67) hx hb dL_station_26 (by decide) (fun h => absurd h (fx_n14 hI)) (fun _ => ?_)
  refine lv_aload_n hx hb dL_station_29 rfl (lv_at hl 6 rfl) ?_
  refine lv_bipush (v := 8) hx hb dL_station_30 (by decide) ?_
  refine k_miV (As := [.int (nI 8)]) (rest := []) (w1 := []) (wc := xH cS x a r lat cnt ++ (txW cI x z T ++ (stW cI a N v))) (wc' := xH cS x a r lat cnt ++ (txW cI x z T ++ (stW cI a N (c_v N n v 8)))) (w3 := []) ⟨hx, hb, hml, hown, hts⟩ (c_X4_count_g l D cI cS cL x a r lat cnt z T N v _ n hn hn14 8 (by omega)) lkL_35 rfl rfl ⟨(Nat.le_of_ble_eq_true rfl), (Nat.le_of_ble_eq_true rfl)⟩ (va_recv hK hP (ci := 3) (q0 := 0) rfl rfl) hK hE hP hD hS hA rfl rfl hl.1 rfl (Nat.le_of_ble_eq_true rfl) dL_station_32 ⟨Nat.zero_le _, Nat.zero_le _⟩ (fun H locs hzz hP hD hS => ?_)
  have hP : va_P D vwCl (xH cS x a r lat cnt ++ (txW cI x z T ++ (stW cI a N v))) H := hP
  have hD : va_D (va_A (xH cS x a r lat cnt ++ (txW cI x z T ++ (stW cI a N v))) s.heap.size) (xH cS x a r lat cnt ++ (txW cI x z T ++ (stW cI a N v))) := hD
  rw [show p_count N n cnt 8 = N 1 4 from rfl]
  refine lv_aload_n hx hb dL_station_35 rfl (lv_at hl 6 rfl) ?_
  refine lv_bipush (v := 7) hx hb dL_station_36 (by decide) ?_
  refine k_miV (As := [.int (nI 7)]) (rest := [.int (N 1 4)]) (w1 := []) (wc := xH cS x a r lat cnt ++ (txW cI x z T ++ (stW cI a N v))) (wc' := xH cS x a r lat cnt ++ (txW cI x z T ++ (stW cI a N (c_v N n v 7)))) (w3 := []) ⟨hx, hb, hml, hown, hts⟩ (c_X4_count_g l D cI cS cL x a r lat cnt z T N v _ n hn hn14 7 (by omega)) lkL_35 rfl rfl ⟨(Nat.le_of_ble_eq_true rfl), (Nat.le_of_ble_eq_true rfl)⟩ (va_recv hK hP (ci := 3) (q0 := 0) rfl rfl) hK hE hP hD hS hA rfl rfl hl.1 rfl (Nat.le_of_ble_eq_true rfl) dL_station_38 ⟨Nat.zero_le _, Nat.zero_le _⟩ (fun H locs hzz hP hD hS => ?_)
  have hP : va_P D vwCl (xH cS x a r lat cnt ++ (txW cI x z T ++ (stW cI a N v))) H := hP
  have hD : va_D (va_A (xH cS x a r lat cnt ++ (txW cI x z T ++ (stW cI a N v))) s.heap.size) (xH cS x a r lat cnt ++ (txW cI x z T ++ (stW cI a N v))) := hD
  rw [show p_count N n cnt 7 = N 1 3 from rfl]
  refine lv_icmp_gt (tgt := 67) hx hb dL_station_41 (by decide) (fun h => absurd h (fx_tb hI (by omega))) (fun _ => ?_)
  refine lv_aload_n hx hb dL_station_44 rfl (lv_at hl 6 rfl) ?_
  refine lv_iconst (v := 1) hx hb dL_station_45 (by decide) ?_
  refine k_miV (As := [.int (nI 1)]) (rest := []) (w1 := []) (wc := xH cS x a r lat cnt ++ (txW cI x z T ++ (stW cI a N v))) (wc' := xH cS x a r lat cnt ++ (txW cI x z T ++ (stW cI a N (c_v N n v 1)))) (w3 := []) ⟨hx, hb, hml, hown, hts⟩ (c_X4_count_g l D cI cS cL x a r lat cnt z T N v _ n hn hn14 1 (by omega)) lkL_35 rfl rfl ⟨(Nat.le_of_ble_eq_true rfl), (Nat.le_of_ble_eq_true rfl)⟩ (va_recv hK hP (ci := 3) (q0 := 0) rfl rfl) hK hE hP hD hS hA rfl rfl hl.1 rfl (Nat.le_of_ble_eq_true rfl) dL_station_46 ⟨Nat.zero_le _, Nat.zero_le _⟩ (fun H locs hzz hP hD hS => ?_)
  have hP : va_P D vwCl (xH cS x a r lat cnt ++ (txW cI x z T ++ (stW cI a N v))) H := hP
  have hD : va_D (va_A (xH cS x a r lat cnt ++ (txW cI x z T ++ (stW cI a N v))) s.heap.size) (xH cS x a r lat cnt ++ (txW cI x z T ++ (stW cI a N v))) := hD
  rw [show p_count N n cnt 1 = N 1 1 from rfl]
  refine lv_if_lt (tgt := 67) hx hb dL_station_49 (by decide) (fun h => absurd h (fx_m0 hI)) (fun _ => ?_)
  refine lv_aload_n hx hb dL_station_52 rfl (lv_at hl 6 rfl) ?_
  refine lv_iconst (v := 1) hx hb dL_station_53 (by decide) ?_
  refine k_miV (As := [.int (nI 1)]) (rest := []) (w1 := []) (wc := xH cS x a r lat cnt ++ (txW cI x z T ++ (stW cI a N v))) (wc' := xH cS x a r lat cnt ++ (txW cI x z T ++ (stW cI a N (c_v N n v 1)))) (w3 := []) ⟨hx, hb, hml, hown, hts⟩ (c_X4_count_g l D cI cS cL x a r lat cnt z T N v _ n hn hn14 1 (by omega)) lkL_35 rfl rfl ⟨(Nat.le_of_ble_eq_true rfl), (Nat.le_of_ble_eq_true rfl)⟩ (va_recv hK hP (ci := 3) (q0 := 0) rfl rfl) hK hE hP hD hS hA rfl rfl hl.1 rfl (Nat.le_of_ble_eq_true rfl) dL_station_54 ⟨Nat.zero_le _, Nat.zero_le _⟩ (fun H locs hzz hP hD hS => ?_)
  have hP : va_P D vwCl (xH cS x a r lat cnt ++ (txW cI x z T ++ (stW cI a N v))) H := hP
  have hD : va_D (va_A (xH cS x a r lat cnt ++ (txW cI x z T ++ (stW cI a N v))) s.heap.size) (xH cS x a r lat cnt ++ (txW cI x z T ++ (stW cI a N v))) := hD
  rw [show p_count N n cnt 1 = N 1 1 from rfl]
  refine lv_sipush (v := 9999) hx hb dL_station_57 (by decide) ?_
  refine lv_icmp_gt (tgt := 67) hx hb dL_station_60 (by decide) (fun h => absurd h (fx_m1 hI)) (fun _ => ?_)
  refine lv_iconst (v := 1) hx hb dL_station_63 (by decide) ?_
  refine lv_goto (tgt := 68) hx hb dL_station_64 (by decide) ?_
  refine lv_istore (lv' := [(7, .int 1), (6, .int 0), (5, .int 0), (4, .int 0), (3, .int 0), (2, .int (N 1 0)), (1, .int (nI n)), (0, .ref (x 0))]) hx hb dL_station_68 hl (by decide) rfl (fun ls hl => ?_)
  refine lv_iconst (v := 0) hx hb dL_station_70 (by decide) ?_
  refine lv_istore (lv' := [(8, .int 0), (7, .int 1), (6, .int 0), (5, .int 0), (4, .int 0), (3, .int 0), (2, .int (N 1 0)), (1, .int (nI n)), (0, .ref (x 0))]) hx hb dL_station_71 hl (by decide) rfl (fun ls hl => ?_)
  have L5 : ∀ (f k : Nat), k ≤ n → n - k < f → ∀ (H : Heap) (locs : List Loc), va_P D vwCl (xH cS x a r lat cnt ++ (txW cI x z T ++ (stW cI a N v))) H → va_D (va_A (xH cS x a r lat cnt ++ (txW cI x z T ++ (stW cI a N v))) s.heap.size) (xH cS x a r lat cnt ++ (txW cI x z T ++ (stW cI a N v))) → va_S (va_A (xH cS x a r lat cnt ++ (txW cI x z T ++ (stW cI a N v))) s.heap.size) s.heap H locs → s.heap.size ≤ H.size → ∀ ls : Array Slot, lv_has ls 13 [(0, .ref (x 0)), (1, .int (nI n)), (2, .int (N 1 0)), (3, .int (p_at N (-1) k)), (4, .int (p_rh N k)), (5, .int (p_at N 4 k)), (6, .int 0), (7, .int 1), (8, .int (nI k))] → W p l e rmL_station s m args below meth c H locs 0 0 (MQ below (kMi D (xH cS x a r lat cnt ++ (txW cI x z T ++ (stW cI a N v))) (xH cS x a r lat cnt ++ (txW cI x z T ++ (stW cI a N (p_lay N (nI 2) (-1) n)))) s.heap.size (1)) args s 0 0 (va_A (xH cS x a r lat cnt ++ (txW cI x z T ++ (stW cI a N v))) s.heap.size)) (F0 m 73 ls []) := by
    intro f
    induction f with
    | zero => intro k hv1 hv2; exact absurd hv2 (Nat.not_lt_zero _)
    | succ f ih5 =>
      intro k hv1 hv2 H locs hP hD hS hz ls hl
      refine lv_iload hx hb dL_station_73 (lv_at hl 8 rfl) ?_
      refine lv_iload_n hx hb dL_station_75 rfl (lv_at hl 1 rfl) ?_
      refine lv_icmp_ge (tgt := 388) hx hb dL_station_76 (by decide) (fun c6 => ?_) (fun c6 => ?_)
      · have c6' := Int32.not_lt.mpr c6
        have hkn : n = k := (k_exit (by omega) hv1 c6).symm
        subst hkn
        refine lv_iconst (v := 0) hx hb dL_station_388 (by decide) ?_
        refine lv_istore (lv' := [(8, .int 0), (0, .ref (x 0)), (1, .int (nI n)), (2, .int (N 1 0)), (3, .int (p_at N (-1) n)), (4, .int (p_rh N n)), (5, .int (p_at N 4 n)), (6, .int 0), (7, .int 1)]) hx hb dL_station_389 hl (by decide) rfl (fun ls hl => ?_)
        have L7 : ∀ (f t : Nat), t ≤ 3 → 3 - t < f → ∀ (H : Heap) (locs : List Loc), va_P D vwCl (xH cS x a r lat cnt ++ (txW cI x z T ++ (stW cI a N (p_wtv N n v t)))) H → va_D (va_A (xH cS x a r lat cnt ++ (txW cI x z T ++ (stW cI a N v))) s.heap.size) (xH cS x a r lat cnt ++ (txW cI x z T ++ (stW cI a N (p_wtv N n v t)))) → va_S (va_A (xH cS x a r lat cnt ++ (txW cI x z T ++ (stW cI a N v))) s.heap.size) s.heap H locs → s.heap.size ≤ H.size → ∀ ls : Array Slot, lv_has ls 13 [(0, .ref (x 0)), (1, .int (nI n)), (2, .int (N 1 0)), (3, .int (p_at N (-1) n)), (4, .int (p_rh N n)), (5, .int (p_at N 4 n)), (6, .int (p_wtr N n t)), (7, .int 1), (8, .int (nI t))] → W p l e rmL_station s m args below meth c H locs 0 0 (MQ below (kMi D (xH cS x a r lat cnt ++ (txW cI x z T ++ (stW cI a N v))) (xH cS x a r lat cnt ++ (txW cI x z T ++ (stW cI a N (p_lay N (nI 2) (-1) n)))) s.heap.size (1)) args s 0 0 (va_A (xH cS x a r lat cnt ++ (txW cI x z T ++ (stW cI a N v))) s.heap.size)) (F0 m 391 ls []) := by
          intro f
          induction f with
          | zero => intro t hv1 hv2; exact absurd hv2 (Nat.not_lt_zero _)
          | succ f ih7 =>
            intro t hv1 hv2 H locs hP hD hS hz ls hl
            refine lv_iload hx hb dL_station_391 (lv_at hl 8 rfl) ?_
            refine lv_iconst (v := 3) hx hb dL_station_393 (by decide) ?_
            refine lv_icmp_ge (tgt := 693) hx hb dL_station_394 (by decide) (fun c8 => ?_) (fun c8 => ?_)
            · have c8' := Int32.not_lt.mpr c8
              have htn : t = 3 := k_exit (n := 3) (by omega) hv1 c8
              subst htn
              refine lv_aload_n hx hb dL_station_693 rfl (lv_at hl 0 rfl) ?_
              refine k_riV (As := []) (rest := []) (wc := xH cS x a r lat cnt ++ (txW cI x z T ++ (stW cI a N (p_wtv N n v 3)))) ⟨hx, hb, hml, hown, hts⟩ (c_X4_nextLapse l D cI cS cL x a r lat cnt z T N (p_wtv N n v 3) _ n hn hn14) lkL_56 rfl rfl ⟨(Nat.le_of_ble_eq_true rfl), (Nat.le_of_ble_eq_true rfl)⟩ (va_recv hK hP (ci := 3) (q0 := 0) rfl rfl) hK hE hP hD rfl hl.1 rfl (Nat.le_of_ble_eq_true rfl) dL_station_694 ⟨Nat.zero_le _, Nat.zero_le _⟩ ?_
              refine lv_istore (lv' := [(8, .int (p_fl N n)), (0, .ref (x 0)), (1, .int (nI n)), (2, .int (N 1 0)), (3, .int (p_at N (-1) n)), (4, .int (p_rh N n)), (5, .int (p_at N 4 n)), (6, .int (p_wtr N n 3)), (7, .int 1)]) hx hb dL_station_697 hl (by decide) rfl (fun ls hl => ?_)
              refine lv_iload hx hb dL_station_699 (lv_at hl 8 rfl) ?_
              refine lv_if_eq (tgt := 810) hx hb dL_station_701 (by decide) (fun h => absurd h (by decide)) (fun _ => ?_)
              refine lv_iload_n hx hb dL_station_704 rfl (lv_at hl 4 rfl) ?_
              refine lv_aload_n hx hb dL_station_705 rfl (lv_at hl 1 rfl) ?_
              refine lv_iconst (v := 3) hx hb dL_station_706 (by decide) ?_
              refine k_miV (As := [.int (nI 3)]) (rest := [.int (p_at N (-1) n)]) (w1 := []) (wc := xH cS x a r lat cnt ++ (txW cI x z T ++ (stW cI a N (p_wtv N n v 3)))) (wc' := xH cS x a r lat cnt ++ (txW cI x z T ++ (stW cI a N (c_v N n (p_wtv N n v 3) 3)))) (w3 := []) ⟨hx, hb, hml, hown, hts⟩ (c_X4_count_g l D cI cS cL x a r lat cnt z T N (p_wtv N n v 3) _ n hn hn14 3 (by omega)) lkL_35 rfl rfl ⟨(Nat.le_of_ble_eq_true rfl), (Nat.le_of_ble_eq_true rfl)⟩ (va_recv hK hP (ci := 3) (q0 := 0) rfl rfl) hK hE hP hD hS hA rfl rfl hl.1 rfl (Nat.le_of_ble_eq_true rfl) dL_station_707 ⟨Nat.zero_le _, Nat.zero_le _⟩ (fun H locs hzz hP hD hS => ?_)
              have hP : va_P D vwCl (xH cS x a r lat cnt ++ (txW cI x z T ++ (stW cI a N (p_wtv N n v 3)))) H := hP
              have hD : va_D (va_A (xH cS x a r lat cnt ++ (txW cI x z T ++ (stW cI a N v))) s.heap.size) (xH cS x a r lat cnt ++ (txW cI x z T ++ (stW cI a N (p_wtv N n v 3)))) := hD
              rw [show p_count N n cnt 3 = p_at N (-1) n from rfl]
              refine lv_icmp_ne (tgt := 810) hx hb dL_station_710 (by decide) (fun h => absurd (rfl) h) (fun _ => ?_)
              refine lv_iload hx hb dL_station_713 (lv_at hl 5 rfl) ?_
              refine lv_aload_n hx hb dL_station_715 rfl (lv_at hl 1 rfl) ?_
              refine lv_iconst (v := 4) hx hb dL_station_716 (by decide) ?_
              refine k_miV (As := [.int (nI 4)]) (rest := [.int (p_rh N n)]) (w1 := []) (wc := xH cS x a r lat cnt ++ (txW cI x z T ++ (stW cI a N (p_wtv N n v 3)))) (wc' := xH cS x a r lat cnt ++ (txW cI x z T ++ (stW cI a N (c_v N n (p_wtv N n v 3) 4)))) (w3 := []) ⟨hx, hb, hml, hown, hts⟩ (c_X4_count_g l D cI cS cL x a r lat cnt z T N (p_wtv N n v 3) _ n hn hn14 4 (by omega)) lkL_35 rfl rfl ⟨(Nat.le_of_ble_eq_true rfl), (Nat.le_of_ble_eq_true rfl)⟩ (va_recv hK hP (ci := 3) (q0 := 0) rfl rfl) hK hE hP hD hS hA rfl rfl hl.1 rfl (Nat.le_of_ble_eq_true rfl) dL_station_717 ⟨Nat.zero_le _, Nat.zero_le _⟩ (fun H locs hzz hP hD hS => ?_)
              have hP : va_P D vwCl (xH cS x a r lat cnt ++ (txW cI x z T ++ (stW cI a N (p_wtv N n v 3)))) H := hP
              have hD : va_D (va_A (xH cS x a r lat cnt ++ (txW cI x z T ++ (stW cI a N v))) s.heap.size) (xH cS x a r lat cnt ++ (txW cI x z T ++ (stW cI a N (p_wtv N n v 3)))) := hD
              rw [show p_count N n cnt 4 = p_rh N n from rfl]
              refine lv_icmp_ne (tgt := 810) hx hb dL_station_720 (by decide) (fun h => absurd (rfl) h) (fun _ => ?_)
              refine lv_iload hx hb dL_station_723 (lv_at hl 6 rfl) ?_
              refine lv_aload_n hx hb dL_station_725 rfl (lv_at hl 1 rfl) ?_
              refine lv_iconst (v := 5) hx hb dL_station_726 (by decide) ?_
              refine k_miV (As := [.int (nI 5)]) (rest := [.int (p_at N 4 n)]) (w1 := []) (wc := xH cS x a r lat cnt ++ (txW cI x z T ++ (stW cI a N (p_wtv N n v 3)))) (wc' := xH cS x a r lat cnt ++ (txW cI x z T ++ (stW cI a N (c_v N n (p_wtv N n v 3) 5)))) (w3 := []) ⟨hx, hb, hml, hown, hts⟩ (c_X4_count_g l D cI cS cL x a r lat cnt z T N (p_wtv N n v 3) _ n hn hn14 5 (by omega)) lkL_35 rfl rfl ⟨(Nat.le_of_ble_eq_true rfl), (Nat.le_of_ble_eq_true rfl)⟩ (va_recv hK hP (ci := 3) (q0 := 0) rfl rfl) hK hE hP hD hS hA rfl rfl hl.1 rfl (Nat.le_of_ble_eq_true rfl) dL_station_727 ⟨Nat.zero_le _, Nat.zero_le _⟩ (fun H locs hzz hP hD hS => ?_)
              have hP : va_P D vwCl (xH cS x a r lat cnt ++ (txW cI x z T ++ (stW cI a N (p_wtv N n v 3)))) H := hP
              have hD : va_D (va_A (xH cS x a r lat cnt ++ (txW cI x z T ++ (stW cI a N v))) s.heap.size) (xH cS x a r lat cnt ++ (txW cI x z T ++ (stW cI a N (p_wtv N n v 3)))) := hD
              rw [show p_count N n cnt 5 = p_at N 4 n from rfl]
              refine lv_icmp_ne (tgt := 810) hx hb dL_station_730 (by decide) (fun h => absurd (rfl) h) (fun _ => ?_)
              refine lv_iload hx hb dL_station_733 (lv_at hl 7 rfl) ?_
              refine lv_aload_n hx hb dL_station_735 rfl (lv_at hl 1 rfl) ?_
              refine lv_bipush (v := 6) hx hb dL_station_736 (by decide) ?_
              refine k_miV (As := [.int (nI 6)]) (rest := [.int (p_wtr N n 3)]) (w1 := []) (wc := xH cS x a r lat cnt ++ (txW cI x z T ++ (stW cI a N (p_wtv N n v 3)))) (wc' := xH cS x a r lat cnt ++ (txW cI x z T ++ (stW cI a N (c_v N n (p_wtv N n v 3) 6)))) (w3 := []) ⟨hx, hb, hml, hown, hts⟩ (c_X4_count_g l D cI cS cL x a r lat cnt z T N (p_wtv N n v 3) _ n hn hn14 6 (by omega)) lkL_35 rfl rfl ⟨(Nat.le_of_ble_eq_true rfl), (Nat.le_of_ble_eq_true rfl)⟩ (va_recv hK hP (ci := 3) (q0 := 0) rfl rfl) hK hE hP hD hS hA rfl rfl hl.1 rfl (Nat.le_of_ble_eq_true rfl) dL_station_738 ⟨Nat.zero_le _, Nat.zero_le _⟩ (fun H locs hzz hP hD hS => ?_)
              have hP : va_P D vwCl (xH cS x a r lat cnt ++ (txW cI x z T ++ (stW cI a N (p_lay N (nI 2) (-1) n)))) H := hP
              have hD : va_D (va_A (xH cS x a r lat cnt ++ (txW cI x z T ++ (stW cI a N v))) s.heap.size) (xH cS x a r lat cnt ++ (txW cI x z T ++ (stW cI a N (p_lay N (nI 2) (-1) n)))) := hD
              rw [show p_count N n cnt 6 = p_wtr N n 3 from rfl]
              refine lv_icmp_ne (tgt := 810) hx hb dL_station_741 (by decide) (fun h => absurd (rfl) h) (fun _ => ?_)
              refine lv_iload hx hb dL_station_744 (lv_at hl 0 rfl) ?_
              refine lv_iconst (v := (-1)) hx hb dL_station_746 (by decide) ?_
              have J13 : ∀ zj : Int32, zj = bI (decide (p_fl N n = -1)) → W p l e rmL_station s m args below meth c H locs 0 0 (MQ below (kMi D (xH cS x a r lat cnt ++ (txW cI x z T ++ (stW cI a N v))) (xH cS x a r lat cnt ++ (txW cI x z T ++ (stW cI a N (p_lay N (nI 2) (-1) n)))) s.heap.size (1)) args s 0 0 (va_A (xH cS x a r lat cnt ++ (txW cI x z T ++ (stW cI a N v))) s.heap.size)) (F0 m 755 ls ([.int zj])) := by
                intro zj hzj
                subst hzj
                refine lv_iload hx hb dL_station_755 (lv_at hl 5 rfl) ?_
                have J14 : ∀ zj : Int32, zj = bI (decide (p_rh N n = 0)) → W p l e rmL_station s m args below meth c H locs 0 0 (MQ below (kMi D (xH cS x a r lat cnt ++ (txW cI x z T ++ (stW cI a N v))) (xH cS x a r lat cnt ++ (txW cI x z T ++ (stW cI a N (p_lay N (nI 2) (-1) n)))) s.heap.size (1)) args s 0 0 (va_A (xH cS x a r lat cnt ++ (txW cI x z T ++ (stW cI a N v))) s.heap.size)) (F0 m 765 ls (.int zj :: [.int (bI (decide (p_fl N n = -1)))])) := by
                  intro zj hzj
                  subst hzj
                  refine lv_icmp_ne (tgt := 810) hx hb dL_station_765 (by decide) (fun h => absurd (fx_lapse hI (by omega)) h) (fun _ => ?_)
                  refine lv_iload hx hb dL_station_768 (lv_at hl 0 rfl) ?_
                  refine lv_if_eq (tgt := 810) hx hb dL_station_770 (by decide) (fun h => absurd h (fx_lapse0 hI (by omega))) (fun _ => ?_)
                  refine lv_iload_n hx hb dL_station_773 rfl (lv_at hl 2 rfl) ?_
                  refine lv_iload_n hx hb dL_station_774 rfl (lv_at hl 4 rfl) ?_
                  refine lv_icmp_ne (tgt := 790) hx hb dL_station_775 (by decide) (fun c17 => ?_) (fun c17 => ?_)
                  · have hng := fx_sh2 c17
                    refine lv_aload_n hx hb dL_station_790 rfl (lv_at hl 1 rfl) ?_
                    refine k_rdV (As := []) (rest := []) (wc := xH cS x a r lat cnt ++ (txW cI x z T ++ (stW cI a N (p_lay N (nI 2) (-1) n)))) ⟨hx, hb, hml, hown, hts⟩ (c_X4_readyShare l D cI cS cL x a r lat cnt z T N (p_lay N (nI 2) (-1) n) _ n hn hn14) lkL_59 rfl rfl ⟨(Nat.le_of_ble_eq_true rfl), (Nat.le_of_ble_eq_true rfl)⟩ (va_recv hK hP (ci := 3) (q0 := 0) rfl rfl) hK hE hP hD rfl hl.1 rfl (Nat.le_of_ble_eq_true rfl) dL_station_791 ⟨Nat.zero_le _, Nat.zero_le _⟩ ?_
                    rw [show p_share N n = FP.ddiv (FP.i2d (p_rh N n)) (FP.i2d (nI n - p_at N (-1) n)) from (fx_sh3 hng)]
                    refine lv_iload hx hb dL_station_794 (lv_at hl 5 rfl) ?_
                    refine lv_i2d hx hb dL_station_796 ?_
                    refine lv_iload_n hx hb dL_station_797 rfl (lv_at hl 2 rfl) ?_
                    refine lv_iload_n hx hb dL_station_798 rfl (lv_at hl 4 rfl) ?_
                    refine lv_isub hx hb dL_station_799 (lv_topi (fun x18 e18 => ?_))
                    have q18 : x18 = nI n - p_at N (-1) n := by rw [e18]; skip
                    subst q18
                    refine lv_i2d hx hb dL_station_800 ?_
                    refine lv_ddiv hx hb dL_station_801 (sh_fin hn14 hng) ?_
                    refine lv_dcmp hx hb dL_station_802 ?_
                    refine lv_if_ne (tgt := 810) hx hb dL_station_803 (by decide) (fun h => absurd (fx_sh4 hn14 hng) h) (fun _ => ?_)
                    refine lv_iconst (v := 1) hx hb dL_station_806 (by decide) ?_
                    refine lv_goto (tgt := 811) hx hb dL_station_807 (by decide) ?_
                    have hP : va_P D vwCl (xH cS x a r lat cnt ++ (txW cI x z T ++ (stW cI a N (p_lay N (nI 2) (-1) n)))) H := hP
                    have hD : va_D (va_A (xH cS x a r lat cnt ++ (txW cI x z T ++ (stW cI a N v))) s.heap.size) (xH cS x a r lat cnt ++ (txW cI x z T ++ (stW cI a N (p_lay N (nI 2) (-1) n)))) := hD
                    exact k_eMz hx hb hr hlocks rfl hP hS rfl dL_station_811
                  · have hng := c17
                    refine lv_aload_n hx hb dL_station_778 rfl (lv_at hl 1 rfl) ?_
                    refine k_rdV (As := []) (rest := []) (wc := xH cS x a r lat cnt ++ (txW cI x z T ++ (stW cI a N (p_lay N (nI 2) (-1) n)))) ⟨hx, hb, hml, hown, hts⟩ (c_X4_readyShare l D cI cS cL x a r lat cnt z T N (p_lay N (nI 2) (-1) n) _ n hn hn14) lkL_59 rfl rfl ⟨(Nat.le_of_ble_eq_true rfl), (Nat.le_of_ble_eq_true rfl)⟩ (va_recv hK hP (ci := 3) (q0 := 0) rfl rfl) hK hE hP hD rfl hl.1 rfl (Nat.le_of_ble_eq_true rfl) dL_station_779 ⟨Nat.zero_le _, Nat.zero_le _⟩ ?_
                    rw [show p_share N n = FP.dconst1 from (fx_sh1 hng)]
                    refine lv_dconst1 hx hb dL_station_782 ?_
                    refine lv_dcmp hx hb dL_station_783 ?_
                    refine lv_if_ne (tgt := 810) hx hb dL_station_784 (by decide) (fun h => absurd (sh_c1) h) (fun _ => ?_)
                    refine lv_goto (tgt := 806) hx hb dL_station_787 (by decide) ?_
                    refine lv_iconst (v := 1) hx hb dL_station_806 (by decide) ?_
                    refine lv_goto (tgt := 811) hx hb dL_station_807 (by decide) ?_
                    have hP : va_P D vwCl (xH cS x a r lat cnt ++ (txW cI x z T ++ (stW cI a N (p_lay N (nI 2) (-1) n)))) H := hP
                    have hD : va_D (va_A (xH cS x a r lat cnt ++ (txW cI x z T ++ (stW cI a N v))) s.heap.size) (xH cS x a r lat cnt ++ (txW cI x z T ++ (stW cI a N (p_lay N (nI 2) (-1) n)))) := hD
                    exact k_eMz hx hb hr hlocks rfl hP hS rfl dL_station_811
                refine lv_if_ne (tgt := 764) hx hb dL_station_757 (by decide) (fun c23 => ?_) (fun c23 => ?_)
                · refine lv_iconst (v := 0) hx hb dL_station_764 (by decide) ?_
                  exact J14 _ (by simp [bI, hn, hn14, c6, c6', c8, c8', c23])
                · refine lv_iconst (v := 1) hx hb dL_station_760 (by decide) ?_
                  refine lv_goto (tgt := 765) hx hb dL_station_761 (by decide) ?_
                  exact J14 _ (by simp [bI, hn, hn14, c6, c6', c8, c8', c23])
              refine lv_icmp_ne (tgt := 754) hx hb dL_station_747 (by decide) (fun c24 => ?_) (fun c24 => ?_)
              · refine lv_iconst (v := 0) hx hb dL_station_754 (by decide) ?_
                exact J13 _ (by simp [bI, hn, hn14, c6, c6', c8, c8', c24])
              · refine lv_iconst (v := 1) hx hb dL_station_750 (by decide) ?_
                refine lv_goto (tgt := 755) hx hb dL_station_751 (by decide) ?_
                exact J13 _ (by simp [bI, hn, hn14, c6, c6', c8, c8', c24])
            · have c8' := Int32.not_le.mp c8
              have htn : t < 3 := k_more (n := 3) (by omega) hv1 c8
              refine lv_iload hx hb dL_station_397 (lv_at hl 7 rfl) ?_
              refine lv_if_eq (tgt := 693) hx hb dL_station_399 (by decide) (fun h => absurd h (by decide)) (fun _ => ?_)
              refine lv_iconst (v := 0) hx hb dL_station_402 (by decide) ?_
              refine lv_istore (lv' := [(9, .int 0), (0, .ref (x 0)), (1, .int (nI n)), (2, .int (N 1 0)), (3, .int (p_at N (-1) n)), (4, .int (p_rh N n)), (5, .int (p_at N 4 n)), (6, .int (p_wtr N n t)), (7, .int 1), (8, .int (nI t))]) hx hb dL_station_403 hl (by decide) rfl (fun ls hl => ?_)
              refine lv_aload_n hx hb dL_station_405 rfl (lv_at hl 1 rfl) ?_
              refine lv_iload hx hb dL_station_406 (lv_at hl 9 rfl) ?_
              refine lv_iconst (v := 5) hx hb dL_station_408 (by decide) ?_
              refine k_miV (As := [.int (nI t), .int (nI 5)]) (rest := []) (w1 := []) (wc := xH cS x a r lat cnt ++ (txW cI x z T ++ (stW cI a N (p_wtv N n v t)))) (wc' := xH cS x a r lat cnt ++ (txW cI x z T ++ (stW cI a N (p_lay N (nI t) (-1) n)))) (w3 := []) ⟨hx, hb, hml, hown, hts⟩ (c_X4_truck_g l D cI cS cL x a r lat cnt z T N (p_wtv N n v t) _ n hn hn14 t 5 (by omega) (by omega)) lkL_47 rfl rfl ⟨(Nat.le_of_ble_eq_true rfl), (Nat.le_of_ble_eq_true rfl)⟩ (va_recv hK hP (ci := 3) (q0 := 0) rfl rfl) hK hE hP hD hS hA rfl rfl hl.1 rfl (Nat.le_of_ble_eq_true rfl) dL_station_409 ⟨Nat.zero_le _, Nat.zero_le _⟩ (fun H locs hzz hP hD hS => ?_)
              have hP : va_P D vwCl (xH cS x a r lat cnt ++ (txW cI x z T ++ (stW cI a N (p_lay N (nI t) (-1) n)))) H := hP
              have hD : va_D (va_A (xH cS x a r lat cnt ++ (txW cI x z T ++ (stW cI a N v))) s.heap.size) (xH cS x a r lat cnt ++ (txW cI x z T ++ (stW cI a N (p_lay N (nI t) (-1) n)))) := hD
              rw [show p_truck N n t 5 = nI (p_mk N t n) from (p_mk_eq N t n hn14)]
              refine lv_istore (lv' := [(10, .int (nI (p_mk N t n))), (9, .int 0), (0, .ref (x 0)), (1, .int (nI n)), (2, .int (N 1 0)), (3, .int (p_at N (-1) n)), (4, .int (p_rh N n)), (5, .int (p_at N 4 n)), (6, .int (p_wtr N n t)), (7, .int 1), (8, .int (nI t))]) hx hb dL_station_412 hl (by decide) rfl (fun ls hl => ?_)
              refine lv_iconst (v := 0) hx hb dL_station_414 (by decide) ?_
              refine lv_istore (lv' := [(11, .int 0), (10, .int (nI (p_mk N t n))), (9, .int 0), (0, .ref (x 0)), (1, .int (nI n)), (2, .int (N 1 0)), (3, .int (p_at N (-1) n)), (4, .int (p_rh N n)), (5, .int (p_at N 4 n)), (6, .int (p_wtr N n t)), (7, .int 1), (8, .int (nI t))]) hx hb dL_station_415 hl (by decide) rfl (fun ls hl => ?_)
              have L25 : ∀ (f k : Nat), k ≤ n → n - k < f → ∀ (H : Heap) (locs : List Loc), va_P D vwCl (xH cS x a r lat cnt ++ (txW cI x z T ++ (stW cI a N (p_lay N (nI t) (-1) n)))) H → va_D (va_A (xH cS x a r lat cnt ++ (txW cI x z T ++ (stW cI a N v))) s.heap.size) (xH cS x a r lat cnt ++ (txW cI x z T ++ (stW cI a N (p_lay N (nI t) (-1) n)))) → va_S (va_A (xH cS x a r lat cnt ++ (txW cI x z T ++ (stW cI a N v))) s.heap.size) s.heap H locs → s.heap.size ≤ H.size → ∀ ls : Array Slot, lv_has ls 13 [(0, .ref (x 0)), (1, .int (nI n)), (2, .int (N 1 0)), (3, .int (p_at N (-1) n)), (4, .int (p_rh N n)), (5, .int (p_at N 4 n)), (6, .int (p_wtr N n t)), (7, .int 1), (8, .int (nI t)), (9, .int (p_lay N (nI t) (-1) k 0)), (10, .int (nI (p_mk N t n))), (11, .int (nI k))] → W p l e rmL_station s m args below meth c H locs 0 0 (MQ below (kMi D (xH cS x a r lat cnt ++ (txW cI x z T ++ (stW cI a N v))) (xH cS x a r lat cnt ++ (txW cI x z T ++ (stW cI a N (p_lay N (nI 2) (-1) n)))) s.heap.size (1)) args s 0 0 (va_A (xH cS x a r lat cnt ++ (txW cI x z T ++ (stW cI a N v))) s.heap.size)) (F0 m 417 ls []) := by
                intro f
                induction f with
                | zero => intro k hv1 hv2; exact absurd hv2 (Nat.not_lt_zero _)
                | succ f ih25 =>
                  intro k hv1 hv2 H locs hP hD hS hz ls hl
                  refine lv_iload hx hb dL_station_417 (lv_at hl 11 rfl) ?_
                  refine lv_iload_n hx hb dL_station_419 rfl (lv_at hl 1 rfl) ?_
                  refine lv_icmp_ge (tgt := 521) hx hb dL_station_420 (by decide) (fun c26 => ?_) (fun c26 => ?_)
                  · have c26' := Int32.not_lt.mpr c26
                    have hkn : n = k := (k_exit (by omega) hv1 c26).symm
                    subst hkn
                    refine lv_aload_n hx hb dL_station_521 rfl (lv_at hl 0 rfl) ?_
                    refine lv_iload hx hb dL_station_522 (lv_at hl 8 rfl) ?_
                    refine k_miV (As := [.int (nI t)]) (rest := []) (w1 := []) (wc := xH cS x a r lat cnt ++ (txW cI x z T ++ (stW cI a N (p_lay N (nI t) (-1) n)))) (wc' := xH cS x a r lat cnt ++ (txW cI x z T ++ (stW cI a N (p_helpv N t n)))) (w3 := []) ⟨hx, hb, hml, hown, hts⟩ (c_X4_helps_g l D cI cS cL x a r lat cnt z T N (p_lay N (nI t) (-1) n) _ n hn hn14 t (by omega)) lkL_50 rfl rfl ⟨(Nat.le_of_ble_eq_true rfl), (Nat.le_of_ble_eq_true rfl)⟩ (va_recv hK hP (ci := 3) (q0 := 0) rfl rfl) hK hE hP hD hS hA rfl rfl hl.1 rfl (Nat.le_of_ble_eq_true rfl) dL_station_524 ⟨Nat.zero_le _, Nat.zero_le _⟩ (fun H locs hzz hP hD hS => ?_)
                    have hP : va_P D vwCl (xH cS x a r lat cnt ++ (txW cI x z T ++ (stW cI a N (p_helpv N t n)))) H := hP
                    have hD : va_D (va_A (xH cS x a r lat cnt ++ (txW cI x z T ++ (stW cI a N v))) s.heap.size) (xH cS x a r lat cnt ++ (txW cI x z T ++ (stW cI a N (p_helpv N t n)))) := hD
                    refine lv_istore (lv' := [(11, .int (p_help N t n)), (0, .ref (x 0)), (1, .int (nI n)), (2, .int (N 1 0)), (3, .int (p_at N (-1) n)), (4, .int (p_rh N n)), (5, .int (p_at N 4 n)), (6, .int (p_wtr N n t)), (7, .int 1), (8, .int (nI t)), (9, .int (p_lay N (nI t) (-1) n 0)), (10, .int (nI (p_mk N t n)))]) hx hb dL_station_527 hl (by decide) rfl (fun ls hl => ?_)
                    refine lv_iload hx hb dL_station_529 (lv_at hl 7 rfl) ?_
                    refine lv_aload_n hx hb dL_station_531 rfl (lv_at hl 1 rfl) ?_
                    refine lv_iload hx hb dL_station_532 (lv_at hl 9 rfl) ?_
                    refine lv_bipush (v := 6) hx hb dL_station_534 (by decide) ?_
                    refine k_miV (As := [.int (nI t), .int (nI 6)]) (rest := [.int (p_wtr N n t)]) (w1 := []) (wc := xH cS x a r lat cnt ++ (txW cI x z T ++ (stW cI a N (p_helpv N t n)))) (wc' := xH cS x a r lat cnt ++ (txW cI x z T ++ (stW cI a N (p_lay N (nI t) (-1) n)))) (w3 := []) ⟨hx, hb, hml, hown, hts⟩ (c_X4_truck_g l D cI cS cL x a r lat cnt z T N (p_helpv N t n) _ n hn hn14 t 6 (by omega) (by omega)) lkL_47 rfl rfl ⟨(Nat.le_of_ble_eq_true rfl), (Nat.le_of_ble_eq_true rfl)⟩ (va_recv hK hP (ci := 3) (q0 := 0) rfl rfl) hK hE hP hD hS hA rfl rfl hl.1 rfl (Nat.le_of_ble_eq_true rfl) dL_station_536 ⟨Nat.zero_le _, Nat.zero_le _⟩ (fun H locs hzz hP hD hS => ?_)
                    have hP : va_P D vwCl (xH cS x a r lat cnt ++ (txW cI x z T ++ (stW cI a N (p_lay N (nI t) (-1) n)))) H := hP
                    have hD : va_D (va_A (xH cS x a r lat cnt ++ (txW cI x z T ++ (stW cI a N v))) s.heap.size) (xH cS x a r lat cnt ++ (txW cI x z T ++ (stW cI a N (p_lay N (nI t) (-1) n)))) := hD
                    rw [show p_truck N n t 6 = bI (p_whole N t (-1) n) from rfl]
                    refine lv_iadd hx hb dL_station_539 (lv_topi (fun x27 e27 => ?_))
                    have q27 : x27 = p_wtr N n (t + 1) := by rw [e27]; exact fx_wtr N n t
                    subst q27
                    refine lv_istore (lv' := [(6, .int (p_wtr N n (t + 1))), (11, .int (p_help N t n)), (0, .ref (x 0)), (1, .int (nI n)), (2, .int (N 1 0)), (3, .int (p_at N (-1) n)), (4, .int (p_rh N n)), (5, .int (p_at N 4 n)), (7, .int 1), (8, .int (nI t)), (9, .int (p_lay N (nI t) (-1) n 0)), (10, .int (nI (p_mk N t n)))]) hx hb dL_station_540 hl (by decide) rfl (fun ls hl => ?_)
                    refine lv_iload hx hb dL_station_542 (lv_at hl 8 rfl) ?_
                    refine lv_if_eq (tgt := 684) hx hb dL_station_544 (by decide) (fun h => absurd h (by decide)) (fun _ => ?_)
                    refine lv_iload hx hb dL_station_547 (lv_at hl 11 rfl) ?_
                    refine lv_iload_n hx hb dL_station_549 rfl (lv_at hl 3 rfl) ?_
                    refine lv_ishr hx hb dL_station_550 (lv_topi (fun x28 e28 => ?_))
                    have q28 : x28 = 0 := by rw [e28]; exact fx_mk0 hn14
                    subst q28
                    refine lv_if_ne (tgt := 684) hx hb dL_station_551 (by decide) (fun h => absurd (by decide) h) (fun _ => ?_)
                    refine lv_aload_n hx hb dL_station_554 rfl (lv_at hl 2 rfl) ?_
                    refine lv_iload hx hb dL_station_555 (lv_at hl 9 rfl) ?_
                    refine lv_iconst (v := 1) hx hb dL_station_557 (by decide) ?_
                    refine k_miV (As := [.int (nI t), .int (nI 1)]) (rest := []) (w1 := []) (wc := xH cS x a r lat cnt ++ (txW cI x z T ++ (stW cI a N (p_lay N (nI t) (-1) n)))) (wc' := xH cS x a r lat cnt ++ (txW cI x z T ++ (stW cI a N (p_lay N (nI t) (-1) n)))) (w3 := []) ⟨hx, hb, hml, hown, hts⟩ (c_X4_truck_g l D cI cS cL x a r lat cnt z T N (p_lay N (nI t) (-1) n) _ n hn hn14 t 1 (by omega) (by omega)) lkL_47 rfl rfl ⟨(Nat.le_of_ble_eq_true rfl), (Nat.le_of_ble_eq_true rfl)⟩ (va_recv hK hP (ci := 3) (q0 := 0) rfl rfl) hK hE hP hD hS hA rfl rfl hl.1 rfl (Nat.le_of_ble_eq_true rfl) dL_station_558 ⟨Nat.zero_le _, Nat.zero_le _⟩ (fun H locs hzz hP hD hS => ?_)
                    have hP : va_P D vwCl (xH cS x a r lat cnt ++ (txW cI x z T ++ (stW cI a N (p_lay N (nI t) (-1) n)))) H := hP
                    have hD : va_D (va_A (xH cS x a r lat cnt ++ (txW cI x z T ++ (stW cI a N v))) s.heap.size) (xH cS x a r lat cnt ++ (txW cI x z T ++ (stW cI a N (p_lay N (nI t) (-1) n)))) := hD
                    rw [show p_truck N n t 1 = p_lay N (nI t) (-1) n 0 from rfl]
                    refine lv_iload hx hb dL_station_561 (lv_at hl 10 rfl) ?_
                    refine lv_icmp_ne (tgt := 684) hx hb dL_station_563 (by decide) (fun h => absurd (rfl) h) (fun _ => ?_)
                    refine lv_aload_n hx hb dL_station_566 rfl (lv_at hl 2 rfl) ?_
                    refine lv_iload hx hb dL_station_567 (lv_at hl 9 rfl) ?_
                    refine lv_iconst (v := 4) hx hb dL_station_569 (by decide) ?_
                    refine k_miV (As := [.int (nI t), .int (nI 4)]) (rest := []) (w1 := []) (wc := xH cS x a r lat cnt ++ (txW cI x z T ++ (stW cI a N (p_lay N (nI t) (-1) n)))) (wc' := xH cS x a r lat cnt ++ (txW cI x z T ++ (stW cI a N (p_lay N (nI t) (-1) n)))) (w3 := []) ⟨hx, hb, hml, hown, hts⟩ (c_X4_truck_g l D cI cS cL x a r lat cnt z T N (p_lay N (nI t) (-1) n) _ n hn hn14 t 4 (by omega) (by omega)) lkL_47 rfl rfl ⟨(Nat.le_of_ble_eq_true rfl), (Nat.le_of_ble_eq_true rfl)⟩ (va_recv hK hP (ci := 3) (q0 := 0) rfl rfl) hK hE hP hD hS hA rfl rfl hl.1 rfl (Nat.le_of_ble_eq_true rfl) dL_station_570 ⟨Nat.zero_le _, Nat.zero_le _⟩ (fun H locs hzz hP hD hS => ?_)
                    have hP : va_P D vwCl (xH cS x a r lat cnt ++ (txW cI x z T ++ (stW cI a N (p_lay N (nI t) (-1) n)))) H := hP
                    have hD : va_D (va_A (xH cS x a r lat cnt ++ (txW cI x z T ++ (stW cI a N v))) s.heap.size) (xH cS x a r lat cnt ++ (txW cI x z T ++ (stW cI a N (p_lay N (nI t) (-1) n)))) := hD
                    rw [show p_truck N n t 4 = p_lay N (nI t) (-1) n 1 from rfl]
                    refine lv_aload_n hx hb dL_station_573 rfl (lv_at hl 2 rfl) ?_
                    refine lv_iconst (v := 1) hx hb dL_station_574 (by decide) ?_
                    refine k_riV (As := [.int (nI 1)]) (rest := [.int (p_lay N (nI t) (-1) n 1)]) (wc := xH cS x a r lat cnt ++ (txW cI x z T ++ (stW cI a N (p_lay N (nI t) (-1) n)))) ⟨hx, hb, hml, hown, hts⟩ (c_X4_setting_g l D cI cS cL x a r lat cnt z T N (p_lay N (nI t) (-1) n) _ 1 (by omega)) lkL_53 rfl rfl ⟨(Nat.le_of_ble_eq_true rfl), (Nat.le_of_ble_eq_true rfl)⟩ (va_recv hK hP (ci := 3) (q0 := 0) rfl rfl) hK hE hP hD rfl hl.1 rfl (Nat.le_of_ble_eq_true rfl) dL_station_575 ⟨Nat.zero_le _, Nat.zero_le _⟩ ?_
                    rw [show N 0 1 = N 0 1 from rfl]
                    refine lv_icmp_gt (tgt := 684) hx hb dL_station_578 (by decide) (fun h => absurd h (fx_ad hI)) (fun _ => ?_)
                    refine lv_aload_n hx hb dL_station_581 rfl (lv_at hl 2 rfl) ?_
                    refine lv_iload hx hb dL_station_582 (lv_at hl 9 rfl) ?_
                    refine lv_bipush (v := 6) hx hb dL_station_584 (by decide) ?_
                    refine k_miV (As := [.int (nI t), .int (nI 6)]) (rest := []) (w1 := []) (wc := xH cS x a r lat cnt ++ (txW cI x z T ++ (stW cI a N (p_lay N (nI t) (-1) n)))) (wc' := xH cS x a r lat cnt ++ (txW cI x z T ++ (stW cI a N (p_lay N (nI t) (-1) n)))) (w3 := []) ⟨hx, hb, hml, hown, hts⟩ (c_X4_truck_g l D cI cS cL x a r lat cnt z T N (p_lay N (nI t) (-1) n) _ n hn hn14 t 6 (by omega) (by omega)) lkL_47 rfl rfl ⟨(Nat.le_of_ble_eq_true rfl), (Nat.le_of_ble_eq_true rfl)⟩ (va_recv hK hP (ci := 3) (q0 := 0) rfl rfl) hK hE hP hD hS hA rfl rfl hl.1 rfl (Nat.le_of_ble_eq_true rfl) dL_station_586 ⟨Nat.zero_le _, Nat.zero_le _⟩ (fun H locs hzz hP hD hS => ?_)
                    have hP : va_P D vwCl (xH cS x a r lat cnt ++ (txW cI x z T ++ (stW cI a N (p_lay N (nI t) (-1) n)))) H := hP
                    have hD : va_D (va_A (xH cS x a r lat cnt ++ (txW cI x z T ++ (stW cI a N v))) s.heap.size) (xH cS x a r lat cnt ++ (txW cI x z T ++ (stW cI a N (p_lay N (nI t) (-1) n)))) := hD
                    rw [show p_truck N n t 6 = bI (p_whole N t (-1) n) from rfl]
                    refine lv_iconst (v := 1) hx hb dL_station_589 (by decide) ?_
                    have J31 : ∀ zj : Int32, zj = bI (p_whole N t (-1) n) → W p l e rmL_station s m args below meth c H locs 0 0 (MQ below (kMi D (xH cS x a r lat cnt ++ (txW cI x z T ++ (stW cI a N v))) (xH cS x a r lat cnt ++ (txW cI x z T ++ (stW cI a N (p_lay N (nI 2) (-1) n)))) s.heap.size (1)) args s 0 0 (va_A (xH cS x a r lat cnt ++ (txW cI x z T ++ (stW cI a N v))) s.heap.size)) (F0 m 598 ls ([.int zj])) := by
                      intro zj hzj
                      subst hzj
                      refine lv_aload_n hx hb dL_station_598 rfl (lv_at hl 2 rfl) ?_
                      refine lv_iload hx hb dL_station_599 (lv_at hl 9 rfl) ?_
                      refine lv_iconst (v := 1) hx hb dL_station_601 (by decide) ?_
                      refine k_miV (As := [.int (nI t), .int (nI 1)]) (rest := [.int (bI (p_whole N t (-1) n))]) (w1 := []) (wc := xH cS x a r lat cnt ++ (txW cI x z T ++ (stW cI a N (p_lay N (nI t) (-1) n)))) (wc' := xH cS x a r lat cnt ++ (txW cI x z T ++ (stW cI a N (p_lay N (nI t) (-1) n)))) (w3 := []) ⟨hx, hb, hml, hown, hts⟩ (c_X4_truck_g l D cI cS cL x a r lat cnt z T N (p_lay N (nI t) (-1) n) _ n hn hn14 t 1 (by omega) (by omega)) lkL_47 rfl rfl ⟨(Nat.le_of_ble_eq_true rfl), (Nat.le_of_ble_eq_true rfl)⟩ (va_recv hK hP (ci := 3) (q0 := 0) rfl rfl) hK hE hP hD hS hA rfl rfl hl.1 rfl (Nat.le_of_ble_eq_true rfl) dL_station_602 ⟨Nat.zero_le _, Nat.zero_le _⟩ (fun H locs hzz hP hD hS => ?_)
                      have hP : va_P D vwCl (xH cS x a r lat cnt ++ (txW cI x z T ++ (stW cI a N (p_lay N (nI t) (-1) n)))) H := hP
                      have hD : va_D (va_A (xH cS x a r lat cnt ++ (txW cI x z T ++ (stW cI a N v))) s.heap.size) (xH cS x a r lat cnt ++ (txW cI x z T ++ (stW cI a N (p_lay N (nI t) (-1) n)))) := hD
                      rw [show p_truck N n t 1 = p_lay N (nI t) (-1) n 0 from rfl]
                      refine lv_aload_n hx hb dL_station_605 rfl (lv_at hl 2 rfl) ?_
                      refine lv_iload hx hb dL_station_606 (lv_at hl 9 rfl) ?_
                      refine lv_iconst (v := 0) hx hb dL_station_608 (by decide) ?_
                      refine k_miV (As := [.int (nI t), .int (nI 0)]) (rest := [.int (p_lay N (nI t) (-1) n 0), .int (bI (p_whole N t (-1) n))]) (w1 := []) (wc := xH cS x a r lat cnt ++ (txW cI x z T ++ (stW cI a N (p_lay N (nI t) (-1) n)))) (wc' := xH cS x a r lat cnt ++ (txW cI x z T ++ (stW cI a N (p_lay N (nI t) (-1) n)))) (w3 := []) ⟨hx, hb, hml, hown, hts⟩ (c_X4_truck_g l D cI cS cL x a r lat cnt z T N (p_lay N (nI t) (-1) n) _ n hn hn14 t 0 (by omega) (by omega)) lkL_47 rfl rfl ⟨(Nat.le_of_ble_eq_true rfl), (Nat.le_of_ble_eq_true rfl)⟩ (va_recv hK hP (ci := 3) (q0 := 0) rfl rfl) hK hE hP hD hS hA rfl rfl hl.1 rfl (Nat.le_of_ble_eq_true rfl) dL_station_609 ⟨Nat.zero_le _, Nat.zero_le _⟩ (fun H locs hzz hP hD hS => ?_)
                      have hP : va_P D vwCl (xH cS x a r lat cnt ++ (txW cI x z T ++ (stW cI a N (p_lay N (nI t) (-1) n)))) H := hP
                      have hD : va_D (va_A (xH cS x a r lat cnt ++ (txW cI x z T ++ (stW cI a N v))) s.heap.size) (xH cS x a r lat cnt ++ (txW cI x z T ++ (stW cI a N (p_lay N (nI t) (-1) n)))) := hD
                      rw [show p_truck N n t 0 = N 2 t from rfl]
                      have J32 : ∀ zj : Int32, zj = bI (decide (N 2 t ≤ p_lay N (nI t) (-1) n 0)) → W p l e rmL_station s m args below meth c H locs 0 0 (MQ below (kMi D (xH cS x a r lat cnt ++ (txW cI x z T ++ (stW cI a N v))) (xH cS x a r lat cnt ++ (txW cI x z T ++ (stW cI a N (p_lay N (nI 2) (-1) n)))) s.heap.size (1)) args s 0 0 (va_A (xH cS x a r lat cnt ++ (txW cI x z T ++ (stW cI a N v))) s.heap.size)) (F0 m 620 ls (.int zj :: [.int (bI (p_whole N t (-1) n))])) := by
                        intro zj hzj
                        subst hzj
                        refine lv_icmp_ne (tgt := 684) hx hb dL_station_620 (by decide) (fun h => absurd (rfl) h) (fun _ => ?_)
                        refine lv_aload_n hx hb dL_station_623 rfl (lv_at hl 2 rfl) ?_
                        refine lv_iload hx hb dL_station_624 (lv_at hl 9 rfl) ?_
                        refine lv_iconst (v := 3) hx hb dL_station_626 (by decide) ?_
                        refine k_miV (As := [.int (nI t), .int (nI 3)]) (rest := []) (w1 := []) (wc := xH cS x a r lat cnt ++ (txW cI x z T ++ (stW cI a N (p_lay N (nI t) (-1) n)))) (wc' := xH cS x a r lat cnt ++ (txW cI x z T ++ (stW cI a N (p_lay N (nI t) (-1) n)))) (w3 := []) ⟨hx, hb, hml, hown, hts⟩ (c_X4_truck_g l D cI cS cL x a r lat cnt z T N (p_lay N (nI t) (-1) n) _ n hn hn14 t 3 (by omega) (by omega)) lkL_47 rfl rfl ⟨(Nat.le_of_ble_eq_true rfl), (Nat.le_of_ble_eq_true rfl)⟩ (va_recv hK hP (ci := 3) (q0 := 0) rfl rfl) hK hE hP hD hS hA rfl rfl hl.1 rfl (Nat.le_of_ble_eq_true rfl) dL_station_627 ⟨Nat.zero_le _, Nat.zero_le _⟩ (fun H locs hzz hP hD hS => ?_)
                        have hP : va_P D vwCl (xH cS x a r lat cnt ++ (txW cI x z T ++ (stW cI a N (p_lay N (nI t) (-1) n)))) H := hP
                        have hD : va_D (va_A (xH cS x a r lat cnt ++ (txW cI x z T ++ (stW cI a N v))) s.heap.size) (xH cS x a r lat cnt ++ (txW cI x z T ++ (stW cI a N (p_lay N (nI t) (-1) n)))) := hD
                        rw [show p_truck N n t 3 = p_ra N (nI t) n from rfl]
                        refine lv_aload_n hx hb dL_station_630 rfl (lv_at hl 2 rfl) ?_
                        refine lv_iload hx hb dL_station_631 (lv_at hl 9 rfl) ?_
                        refine lv_iconst (v := 2) hx hb dL_station_633 (by decide) ?_
                        refine k_miV (As := [.int (nI t), .int (nI 2)]) (rest := [.int (p_ra N (nI t) n)]) (w1 := []) (wc := xH cS x a r lat cnt ++ (txW cI x z T ++ (stW cI a N (p_lay N (nI t) (-1) n)))) (wc' := xH cS x a r lat cnt ++ (txW cI x z T ++ (stW cI a N (p_lay N (nI t) (-1) n)))) (w3 := []) ⟨hx, hb, hml, hown, hts⟩ (c_X4_truck_g l D cI cS cL x a r lat cnt z T N (p_lay N (nI t) (-1) n) _ n hn hn14 t 2 (by omega) (by omega)) lkL_47 rfl rfl ⟨(Nat.le_of_ble_eq_true rfl), (Nat.le_of_ble_eq_true rfl)⟩ (va_recv hK hP (ci := 3) (q0 := 0) rfl rfl) hK hE hP hD hS hA rfl rfl hl.1 rfl (Nat.le_of_ble_eq_true rfl) dL_station_634 ⟨Nat.zero_le _, Nat.zero_le _⟩ (fun H locs hzz hP hD hS => ?_)
                        have hP : va_P D vwCl (xH cS x a r lat cnt ++ (txW cI x z T ++ (stW cI a N (p_lay N (nI t) (-1) n)))) H := hP
                        have hD : va_D (va_A (xH cS x a r lat cnt ++ (txW cI x z T ++ (stW cI a N v))) s.heap.size) (xH cS x a r lat cnt ++ (txW cI x z T ++ (stW cI a N (p_lay N (nI t) (-1) n)))) := hD
                        rw [show p_truck N n t 2 = p_at N (nI t) n from rfl]
                        refine lv_icmp_gt (tgt := 684) hx hb dL_station_637 (by decide) (fun h => absurd h (fx_ra hn14 _)) (fun _ => ?_)
                        refine lv_iload hx hb dL_station_640 (lv_at hl 1 rfl) ?_
                        refine lv_iconst (v := (-1)) hx hb dL_station_642 (by decide) ?_
                        refine lv_icmp_eq (tgt := 680) hx hb dL_station_643 (by decide) (fun c35 => ?_) (fun c35 => ?_)
                        · refine lv_iconst (v := 1) hx hb dL_station_680 (by decide) ?_
                          refine lv_goto (tgt := 685) hx hb dL_station_681 (by decide) ?_
                          refine lv_istore (lv' := [(7, .int 1), (6, .int (p_wtr N n (t + 1))), (11, .int (p_help N t n)), (0, .ref (x 0)), (1, .int (nI n)), (2, .int (N 1 0)), (3, .int (p_at N (-1) n)), (4, .int (p_rh N n)), (5, .int (p_at N 4 n)), (8, .int (nI t)), (9, .int (p_lay N (nI t) (-1) n 0)), (10, .int (nI (p_mk N t n)))]) hx hb dL_station_685 hl (by decide) rfl (fun ls hl => ?_)
                          refine lv_iinc (v := nI (t + 1)) (lv' := [(8, .int (nI (t + 1))), (7, .int 1), (6, .int (p_wtr N n (t + 1))), (11, .int (p_help N t n)), (0, .ref (x 0)), (1, .int (nI n)), (2, .int (N 1 0)), (3, .int (p_at N (-1) n)), (4, .int (p_rh N n)), (5, .int (p_at N 4 n)), (9, .int (p_lay N (nI t) (-1) n 0)), (10, .int (nI (p_mk N t n)))]) hx hb dL_station_687 hl (k := 9) rfl (nI_1 _) (by decide) rfl (fun ls hl => ?_)
                          refine lv_goto (tgt := 391) hx hb dL_station_690 (by decide) ?_
                          have hl : lv_has ls 13 [(0, .ref (x 0)), (1, .int (nI n)), (2, .int (N 1 0)), (3, .int (p_at N (-1) n)), (4, .int (p_rh N n)), (5, .int (p_at N 4 n)), (6, .int (p_wtr N n (t + 1))), (7, .int 1), (8, .int (nI (t + 1)))] := lv_sub hl [4, 5, 6, 7, 8, 9, 2, 1, 0] rfl
                          have hl : lv_has ls 13 [(0, .ref (x 0)), (1, .int (nI n)), (2, .int (N 1 0)), (3, .int (p_at N (-1) n)), (4, .int (p_rh N n)), (5, .int (p_at N 4 n)), (6, .int (p_wtr N n (t + 1))), (7, .int 1), (8, .int (nI (t + 1)))] := hl
                          have hP : va_P D vwCl (xH cS x a r lat cnt ++ (txW cI x z T ++ (stW cI a N (p_wtv N n v (t + 1))))) H := hP
                          have hD : va_D (va_A (xH cS x a r lat cnt ++ (txW cI x z T ++ (stW cI a N v))) s.heap.size) (xH cS x a r lat cnt ++ (txW cI x z T ++ (stW cI a N (p_wtv N n v (t + 1))))) := hD
                          exact ih7 (t + 1) (by omega) (by omega) H locs hP hD hS hS.1 ls hl
                        · have hh0 := c35
                          obtain ⟨hwh, j, hjn, hj, hj9, hjr⟩ := (fx_help N t n).resolve_left hh0
                          refine lv_aload_n hx hb dL_station_646 rfl (lv_at hl 2 rfl) ?_
                          refine lv_iload hx hb dL_station_647 (lv_at hl 9 rfl) ?_
                          refine lv_bipush (v := 6) hx hb dL_station_649 (by decide) ?_
                          refine k_miV (As := [.int (nI t), .int (nI 6)]) (rest := []) (w1 := []) (wc := xH cS x a r lat cnt ++ (txW cI x z T ++ (stW cI a N (p_lay N (nI t) (-1) n)))) (wc' := xH cS x a r lat cnt ++ (txW cI x z T ++ (stW cI a N (p_lay N (nI t) (-1) n)))) (w3 := []) ⟨hx, hb, hml, hown, hts⟩ (c_X4_truck_g l D cI cS cL x a r lat cnt z T N (p_lay N (nI t) (-1) n) _ n hn hn14 t 6 (by omega) (by omega)) lkL_47 rfl rfl ⟨(Nat.le_of_ble_eq_true rfl), (Nat.le_of_ble_eq_true rfl)⟩ (va_recv hK hP (ci := 3) (q0 := 0) rfl rfl) hK hE hP hD hS hA rfl rfl hl.1 rfl (Nat.le_of_ble_eq_true rfl) dL_station_651 ⟨Nat.zero_le _, Nat.zero_le _⟩ (fun H locs hzz hP hD hS => ?_)
                          have hP : va_P D vwCl (xH cS x a r lat cnt ++ (txW cI x z T ++ (stW cI a N (p_lay N (nI t) (-1) n)))) H := hP
                          have hD : va_D (va_A (xH cS x a r lat cnt ++ (txW cI x z T ++ (stW cI a N v))) s.heap.size) (xH cS x a r lat cnt ++ (txW cI x z T ++ (stW cI a N (p_lay N (nI t) (-1) n)))) := hD
                          rw [show p_truck N n t 6 = bI (p_whole N t (-1) n) from rfl]
                          refine lv_if_ne (tgt := 684) hx hb dL_station_654 (by decide) (fun h => absurd ((congrArg bI hwh)) h) (fun _ => ?_)
                          refine lv_aload_n hx hb dL_station_657 rfl (lv_at hl 2 rfl) ?_
                          refine lv_iload hx hb dL_station_658 (lv_at hl 1 rfl) ?_
                          rw [hj]
                          refine lv_bipush (v := 7) hx hb dL_station_660 (by decide) ?_
                          refine k_riV (As := [.int (nI j), .int (nI 7)]) (rest := []) (wc := xH cS x a r lat cnt ++ (txW cI x z T ++ (stW cI a N (p_lay N (nI t) (-1) n)))) ⟨hx, hb, hml, hown, hts⟩ (c_X4_hose_g l D cI cS cL x a r lat cnt z T N (p_lay N (nI t) (-1) n) _ n hn hn14 j 7 hjn (by omega)) lkL_38 rfl rfl ⟨(Nat.le_of_ble_eq_true rfl), (Nat.le_of_ble_eq_true rfl)⟩ (va_recv hK hP (ci := 3) (q0 := 0) rfl rfl) hK hE hP hD rfl hl.1 rfl (Nat.le_of_ble_eq_true rfl) dL_station_662 ⟨Nat.zero_le _, Nat.zero_le _⟩ ?_
                          rw [show p_hose N j 7 = N 9 j from rfl]
                          refine lv_iconst (v := 3) hx hb dL_station_665 (by decide) ?_
                          refine lv_icmp_ne (tgt := 684) hx hb dL_station_666 (by decide) (fun h => absurd (hj9) h) (fun _ => ?_)
                          refine lv_aload_n hx hb dL_station_669 rfl (lv_at hl 2 rfl) ?_
                          refine lv_iload hx hb dL_station_670 (lv_at hl 1 rfl) ?_
                          rw [hj]
                          refine lv_bipush (v := 9) hx hb dL_station_672 (by decide) ?_
                          refine k_riV (As := [.int (nI j), .int (nI 9)]) (rest := []) (wc := xH cS x a r lat cnt ++ (txW cI x z T ++ (stW cI a N (p_lay N (nI t) (-1) n)))) ⟨hx, hb, hml, hown, hts⟩ (c_X4_hose_g l D cI cS cL x a r lat cnt z T N (p_lay N (nI t) (-1) n) _ n hn hn14 j 9 hjn (by omega)) lkL_38 rfl rfl ⟨(Nat.le_of_ble_eq_true rfl), (Nat.le_of_ble_eq_true rfl)⟩ (va_recv hK hP (ci := 3) (q0 := 0) rfl rfl) hK hE hP hD rfl hl.1 rfl (Nat.le_of_ble_eq_true rfl) dL_station_674 ⟨Nat.zero_le _, Nat.zero_le _⟩ ?_
                          rw [show p_hose N j 9 = p_reason N j from rfl]
                          refine lv_if_ne (tgt := 684) hx hb dL_station_677 (by decide) (fun h => absurd (hjr) h) (fun _ => ?_)
                          refine lv_iconst (v := 1) hx hb dL_station_680 (by decide) ?_
                          refine lv_goto (tgt := 685) hx hb dL_station_681 (by decide) ?_
                          refine lv_istore (lv' := [(7, .int 1), (6, .int (p_wtr N n (t + 1))), (11, .int (p_help N t n)), (0, .ref (x 0)), (1, .int (nI n)), (2, .int (N 1 0)), (3, .int (p_at N (-1) n)), (4, .int (p_rh N n)), (5, .int (p_at N 4 n)), (8, .int (nI t)), (9, .int (p_lay N (nI t) (-1) n 0)), (10, .int (nI (p_mk N t n)))]) hx hb dL_station_685 hl (by decide) rfl (fun ls hl => ?_)
                          refine lv_iinc (v := nI (t + 1)) (lv' := [(8, .int (nI (t + 1))), (7, .int 1), (6, .int (p_wtr N n (t + 1))), (11, .int (p_help N t n)), (0, .ref (x 0)), (1, .int (nI n)), (2, .int (N 1 0)), (3, .int (p_at N (-1) n)), (4, .int (p_rh N n)), (5, .int (p_at N 4 n)), (9, .int (p_lay N (nI t) (-1) n 0)), (10, .int (nI (p_mk N t n)))]) hx hb dL_station_687 hl (k := 9) rfl (nI_1 _) (by decide) rfl (fun ls hl => ?_)
                          refine lv_goto (tgt := 391) hx hb dL_station_690 (by decide) ?_
                          have hl : lv_has ls 13 [(0, .ref (x 0)), (1, .int (nI n)), (2, .int (N 1 0)), (3, .int (p_at N (-1) n)), (4, .int (p_rh N n)), (5, .int (p_at N 4 n)), (6, .int (p_wtr N n (t + 1))), (7, .int 1), (8, .int (nI (t + 1)))] := lv_sub hl [4, 5, 6, 7, 8, 9, 2, 1, 0] rfl
                          have hl : lv_has ls 13 [(0, .ref (x 0)), (1, .int (nI n)), (2, .int (N 1 0)), (3, .int (p_at N (-1) n)), (4, .int (p_rh N n)), (5, .int (p_at N 4 n)), (6, .int (p_wtr N n (t + 1))), (7, .int 1), (8, .int (nI (t + 1)))] := hl
                          have hP : va_P D vwCl (xH cS x a r lat cnt ++ (txW cI x z T ++ (stW cI a N (p_wtv N n v (t + 1))))) H := hP
                          have hD : va_D (va_A (xH cS x a r lat cnt ++ (txW cI x z T ++ (stW cI a N v))) s.heap.size) (xH cS x a r lat cnt ++ (txW cI x z T ++ (stW cI a N (p_wtv N n v (t + 1))))) := hD
                          exact ih7 (t + 1) (by omega) (by omega) H locs hP hD hS hS.1 ls hl
                      refine lv_icmp_lt (tgt := 619) hx hb dL_station_612 (by decide) (fun c41 => ?_) (fun c41 => ?_)
                      · have c41' := Int32.not_le.mpr c41
                        refine lv_iconst (v := 0) hx hb dL_station_619 (by decide) ?_
                        exact J32 _ (by exact (bI_f (Int32.not_le.mpr c41)).symm)
                      · have c41' := Int32.not_lt.mp c41
                        refine lv_iconst (v := 1) hx hb dL_station_615 (by decide) ?_
                        refine lv_goto (tgt := 620) hx hb dL_station_616 (by decide) ?_
                        exact J32 _ (by exact (bI_t (Int32.not_lt.mp c41)).symm)
                    refine lv_icmp_ne (tgt := 597) hx hb dL_station_590 (by decide) (fun c42 => ?_) (fun c42 => ?_)
                    · refine lv_iconst (v := 0) hx hb dL_station_597 (by decide) ?_
                      exact J31 _ (by exact (congrArg bI (bI_n1 c42)).symm)
                    · refine lv_iconst (v := 1) hx hb dL_station_593 (by decide) ?_
                      refine lv_goto (tgt := 598) hx hb dL_station_594 (by decide) ?_
                      exact J31 _ (by exact (congrArg bI (bI_y1 c42)).symm)
                  · have c26' := Int32.not_le.mp c26
                    have hkn : k < n := k_more (by omega) hv1 c26
                    refine lv_iload hx hb dL_station_423 (lv_at hl 7 rfl) ?_
                    refine lv_if_eq (tgt := 521) hx hb dL_station_425 (by decide) (fun h => absurd h (by decide)) (fun _ => ?_)
                    refine lv_iload hx hb dL_station_428 (lv_at hl 10 rfl) ?_
                    refine lv_iload hx hb dL_station_430 (lv_at hl 11 rfl) ?_
                    refine lv_ishr hx hb dL_station_432 (lv_topi (fun x43 e43 => ?_))
                    have q43 : x43 = nI (p_mk N t n / 2 ^ k) := by rw [e43]; exact fx_shr (by omega) (p_mk_31 N t hn14)
                    subst q43
                    refine lv_iconst (v := 1) hx hb dL_station_433 (by decide) ?_
                    refine lv_iand hx hb dL_station_434 (lv_topi (fun x44 e44 => ?_))
                    have q44 : x44 = bI (p_inl N t k) := by rw [e44]; exact fx_bit hn14 hkn
                    subst q44
                    refine lv_iconst (v := 1) hx hb dL_station_435 (by decide) ?_
                    have J45 : ∀ zj : Int32, zj = bI (p_inl N t k) → W p l e rmL_station s m args below meth c H locs 0 0 (MQ below (kMi D (xH cS x a r lat cnt ++ (txW cI x z T ++ (stW cI a N v))) (xH cS x a r lat cnt ++ (txW cI x z T ++ (stW cI a N (p_lay N (nI 2) (-1) n)))) s.heap.size (1)) args s 0 0 (va_A (xH cS x a r lat cnt ++ (txW cI x z T ++ (stW cI a N v))) s.heap.size)) (F0 m 444 ls ([.int zj])) := by
                      intro zj hzj
                      subst hzj
                      refine lv_istore (lv' := [(12, .int (bI (p_inl N t k))), (0, .ref (x 0)), (1, .int (nI n)), (2, .int (N 1 0)), (3, .int (p_at N (-1) n)), (4, .int (p_rh N n)), (5, .int (p_at N 4 n)), (6, .int (p_wtr N n t)), (7, .int 1), (8, .int (nI t)), (9, .int (p_lay N (nI t) (-1) k 0)), (10, .int (nI (p_mk N t n))), (11, .int (nI k))]) hx hb dL_station_444 hl (by decide) rfl (fun ls hl => ?_)
                      refine lv_iload hx hb dL_station_446 (lv_at hl 10 rfl) ?_
                      refine lv_iload hx hb dL_station_448 (lv_at hl 0 rfl) ?_
                      have J46 : ∀ zj : Int32, zj = (if p_inl N t k = true then N 4 k else 0) → W p l e rmL_station s m args below meth c H locs 0 0 (MQ below (kMi D (xH cS x a r lat cnt ++ (txW cI x z T ++ (stW cI a N v))) (xH cS x a r lat cnt ++ (txW cI x z T ++ (stW cI a N (p_lay N (nI 2) (-1) n)))) s.heap.size (1)) args s 0 0 (va_A (xH cS x a r lat cnt ++ (txW cI x z T ++ (stW cI a N v))) s.heap.size)) (F0 m 464 ls (.int zj :: [.int (p_lay N (nI t) (-1) k 0)])) := by
                        intro zj hzj
                        subst hzj
                        refine lv_iadd hx hb dL_station_464 (lv_topi (fun x47 e47 => ?_))
                        have q47 : x47 = p_lay N (nI t) (-1) (k + 1) 0 := by rw [e47]; exact fx_sum (by omega)
                        subst q47
                        refine lv_istore (lv' := [(9, .int (p_lay N (nI t) (-1) (k + 1) 0)), (12, .int (bI (p_inl N t k))), (0, .ref (x 0)), (1, .int (nI n)), (2, .int (N 1 0)), (3, .int (p_at N (-1) n)), (4, .int (p_rh N n)), (5, .int (p_at N 4 n)), (6, .int (p_wtr N n t)), (7, .int 1), (8, .int (nI t)), (10, .int (nI (p_mk N t n))), (11, .int (nI k))]) hx hb dL_station_465 hl (by decide) rfl (fun ls hl => ?_)
                        have M48 : W p l e rmL_station s m args below meth c H locs 0 0 (MQ below (kMi D (xH cS x a r lat cnt ++ (txW cI x z T ++ (stW cI a N v))) (xH cS x a r lat cnt ++ (txW cI x z T ++ (stW cI a N (p_lay N (nI 2) (-1) n)))) s.heap.size (1)) args s 0 0 (va_A (xH cS x a r lat cnt ++ (txW cI x z T ++ (stW cI a N v))) s.heap.size)) (F0 m 508 ls ([])) := by
                          refine lv_iconst (v := 1) hx hb dL_station_508 (by decide) ?_
                          refine lv_goto (tgt := 513) hx hb dL_station_509 (by decide) ?_
                          refine lv_istore (lv' := [(7, .int 1), (9, .int (p_lay N (nI t) (-1) (k + 1) 0)), (12, .int (bI (p_inl N t k))), (0, .ref (x 0)), (1, .int (nI n)), (2, .int (N 1 0)), (3, .int (p_at N (-1) n)), (4, .int (p_rh N n)), (5, .int (p_at N 4 n)), (6, .int (p_wtr N n t)), (8, .int (nI t)), (10, .int (nI (p_mk N t n))), (11, .int (nI k))]) hx hb dL_station_513 hl (by decide) rfl (fun ls hl => ?_)
                          refine lv_iinc (v := nI (k + 1)) (lv' := [(11, .int (nI (k + 1))), (7, .int 1), (9, .int (p_lay N (nI t) (-1) (k + 1) 0)), (12, .int (bI (p_inl N t k))), (0, .ref (x 0)), (1, .int (nI n)), (2, .int (N 1 0)), (3, .int (p_at N (-1) n)), (4, .int (p_rh N n)), (5, .int (p_at N 4 n)), (6, .int (p_wtr N n t)), (8, .int (nI t)), (10, .int (nI (p_mk N t n)))]) hx hb dL_station_515 hl (k := 12) rfl (nI_1 _) (by decide) rfl (fun ls hl => ?_)
                          refine lv_goto (tgt := 417) hx hb dL_station_518 (by decide) ?_
                          have hl : lv_has ls 13 [(0, .ref (x 0)), (1, .int (nI n)), (2, .int (N 1 0)), (3, .int (p_at N (-1) n)), (4, .int (p_rh N n)), (5, .int (p_at N 4 n)), (6, .int (p_wtr N n t)), (7, .int 1), (8, .int (nI t)), (9, .int (p_lay N (nI t) (-1) (k + 1) 0)), (10, .int (nI (p_mk N t n))), (11, .int (nI (k + 1)))] := lv_sub hl [4, 5, 6, 7, 8, 9, 10, 1, 11, 2, 12, 0] rfl
                          have hl : lv_has ls 13 [(0, .ref (x 0)), (1, .int (nI n)), (2, .int (N 1 0)), (3, .int (p_at N (-1) n)), (4, .int (p_rh N n)), (5, .int (p_at N 4 n)), (6, .int (p_wtr N n t)), (7, .int 1), (8, .int (nI t)), (9, .int (p_lay N (nI t) (-1) (k + 1) 0)), (10, .int (nI (p_mk N t n))), (11, .int (nI (k + 1)))] := hl
                          have hP : va_P D vwCl (xH cS x a r lat cnt ++ (txW cI x z T ++ (stW cI a N (p_lay N (nI t) (-1) n)))) H := hP
                          have hD : va_D (va_A (xH cS x a r lat cnt ++ (txW cI x z T ++ (stW cI a N v))) s.heap.size) (xH cS x a r lat cnt ++ (txW cI x z T ++ (stW cI a N (p_lay N (nI t) (-1) n)))) := hD
                          exact ih25 (k + 1) (by omega) (by omega) H locs hP hD hS hS.1 ls hl
                        refine lv_iload hx hb dL_station_467 (lv_at hl 1 rfl) ?_
                        refine lv_if_eq (tgt := 508) hx hb dL_station_469 (by decide) (fun c49 => ?_) (fun c49 => ?_)
                        · have c49 := bI_eqF c49
                          exact M48
                        · have c49 := bI_neT c49
                          have hin := c49
                          obtain ⟨hi0, hi9, hi8⟩ := fx_in hin
                          refine lv_aload_n hx hb dL_station_472 rfl (lv_at hl 2 rfl) ?_
                          refine lv_iload hx hb dL_station_473 (lv_at hl 12 rfl) ?_
                          refine lv_bipush (v := 9) hx hb dL_station_475 (by decide) ?_
                          refine k_riV (As := [.int (nI k), .int (nI 9)]) (rest := []) (wc := xH cS x a r lat cnt ++ (txW cI x z T ++ (stW cI a N (p_lay N (nI t) (-1) n)))) ⟨hx, hb, hml, hown, hts⟩ (c_X4_hose_g l D cI cS cL x a r lat cnt z T N (p_lay N (nI t) (-1) n) _ n hn hn14 k 9 hkn (by omega)) lkL_38 rfl rfl ⟨(Nat.le_of_ble_eq_true rfl), (Nat.le_of_ble_eq_true rfl)⟩ (va_recv hK hP (ci := 3) (q0 := 0) rfl rfl) hK hE hP hD rfl hl.1 rfl (Nat.le_of_ble_eq_true rfl) dL_station_477 ⟨Nat.zero_le _, Nat.zero_le _⟩ ?_
                          rw [show p_hose N k 9 = p_reason N k from rfl]
                          refine lv_if_ne (tgt := 512) hx hb dL_station_480 (by decide) (fun h => absurd (hi0) h) (fun _ => ?_)
                          refine lv_aload_n hx hb dL_station_483 rfl (lv_at hl 2 rfl) ?_
                          refine lv_iload hx hb dL_station_484 (lv_at hl 12 rfl) ?_
                          refine lv_bipush (v := 7) hx hb dL_station_486 (by decide) ?_
                          refine k_riV (As := [.int (nI k), .int (nI 7)]) (rest := []) (wc := xH cS x a r lat cnt ++ (txW cI x z T ++ (stW cI a N (p_lay N (nI t) (-1) n)))) ⟨hx, hb, hml, hown, hts⟩ (c_X4_hose_g l D cI cS cL x a r lat cnt z T N (p_lay N (nI t) (-1) n) _ n hn hn14 k 7 hkn (by omega)) lkL_38 rfl rfl ⟨(Nat.le_of_ble_eq_true rfl), (Nat.le_of_ble_eq_true rfl)⟩ (va_recv hK hP (ci := 3) (q0 := 0) rfl rfl) hK hE hP hD rfl hl.1 rfl (Nat.le_of_ble_eq_true rfl) dL_station_488 ⟨Nat.zero_le _, Nat.zero_le _⟩ ?_
                          rw [show p_hose N k 7 = N 9 k from rfl]
                          refine lv_iload hx hb dL_station_491 (lv_at hl 10 rfl) ?_
                          refine lv_icmp_ne (tgt := 512) hx hb dL_station_493 (by decide) (fun h => absurd (hi9) h) (fun _ => ?_)
                          refine lv_aload_n hx hb dL_station_496 rfl (lv_at hl 2 rfl) ?_
                          refine lv_iload hx hb dL_station_497 (lv_at hl 12 rfl) ?_
                          refine lv_bipush (v := 6) hx hb dL_station_499 (by decide) ?_
                          refine k_riV (As := [.int (nI k), .int (nI 6)]) (rest := []) (wc := xH cS x a r lat cnt ++ (txW cI x z T ++ (stW cI a N (p_lay N (nI t) (-1) n)))) ⟨hx, hb, hml, hown, hts⟩ (c_X4_hose_g l D cI cS cL x a r lat cnt z T N (p_lay N (nI t) (-1) n) _ n hn hn14 k 6 hkn (by omega)) lkL_38 rfl rfl ⟨(Nat.le_of_ble_eq_true rfl), (Nat.le_of_ble_eq_true rfl)⟩ (va_recv hK hP (ci := 3) (q0 := 0) rfl rfl) hK hE hP hD rfl hl.1 rfl (Nat.le_of_ble_eq_true rfl) dL_station_501 ⟨Nat.zero_le _, Nat.zero_le _⟩ ?_
                          rw [show p_hose N k 6 = N 8 k from rfl]
                          refine lv_iload_n hx hb dL_station_504 rfl (lv_at hl 4 rfl) ?_
                          refine lv_icmp_lt (tgt := 512) hx hb dL_station_505 (by decide) (fun h => absurd h (hi8)) (fun _ => ?_)
                          exact M48
                      refine lv_if_eq (tgt := 463) hx hb dL_station_450 (by decide) (fun c53 => ?_) (fun c53 => ?_)
                      · have c53 := bI_eqF c53
                        refine lv_iconst (v := 0) hx hb dL_station_463 (by decide) ?_
                        exact J46 _ (by rw [if_neg (by rw [c53]; decide)])
                      · have c53 := bI_neT c53
                        refine lv_aload_n hx hb dL_station_453 rfl (lv_at hl 1 rfl) ?_
                        refine lv_iload hx hb dL_station_454 (lv_at hl 12 rfl) ?_
                        refine lv_iconst (v := 1) hx hb dL_station_456 (by decide) ?_
                        refine k_riV (As := [.int (nI k), .int (nI 1)]) (rest := [.int (p_lay N (nI t) (-1) k 0)]) (wc := xH cS x a r lat cnt ++ (txW cI x z T ++ (stW cI a N (p_lay N (nI t) (-1) n)))) ⟨hx, hb, hml, hown, hts⟩ (c_X4_hose_g l D cI cS cL x a r lat cnt z T N (p_lay N (nI t) (-1) n) _ n hn hn14 k 1 hkn (by omega)) lkL_38 rfl rfl ⟨(Nat.le_of_ble_eq_true rfl), (Nat.le_of_ble_eq_true rfl)⟩ (va_recv hK hP (ci := 3) (q0 := 0) rfl rfl) hK hE hP hD rfl hl.1 rfl (Nat.le_of_ble_eq_true rfl) dL_station_457 ⟨Nat.zero_le _, Nat.zero_le _⟩ ?_
                        rw [show p_hose N k 1 = N 4 k from rfl]
                        refine lv_goto (tgt := 464) hx hb dL_station_460 (by decide) ?_
                        exact J46 _ (by rw [if_pos c53])
                    refine lv_icmp_ne (tgt := 443) hx hb dL_station_436 (by decide) (fun c54 => ?_) (fun c54 => ?_)
                    · refine lv_iconst (v := 0) hx hb dL_station_443 (by decide) ?_
                      exact J45 _ (by exact (congrArg bI (bI_n1 c54)).symm)
                    · refine lv_iconst (v := 1) hx hb dL_station_439 (by decide) ?_
                      refine lv_goto (tgt := 444) hx hb dL_station_440 (by decide) ?_
                      exact J45 _ (by exact (congrArg bI (bI_y1 c54)).symm)
              have hl : lv_has ls 13 [(0, .ref (x 0)), (1, .int (nI n)), (2, .int (N 1 0)), (3, .int (p_at N (-1) n)), (4, .int (p_rh N n)), (5, .int (p_at N 4 n)), (6, .int (p_wtr N n t)), (7, .int 1), (8, .int (nI t)), (9, .int 0), (10, .int (nI (p_mk N t n))), (11, .int 0)] := lv_sub hl [3, 4, 5, 6, 7, 8, 9, 10, 11, 2, 1, 0] rfl
              have hl : lv_has ls 13 [(0, .ref (x 0)), (1, .int (nI n)), (2, .int (N 1 0)), (3, .int (p_at N (-1) n)), (4, .int (p_rh N n)), (5, .int (p_at N 4 n)), (6, .int (p_wtr N n t)), (7, .int 1), (8, .int (nI t)), (9, .int (p_lay N (nI t) (-1) 0 0)), (10, .int (nI (p_mk N t n))), (11, .int (nI 0))] := hl
              have hP : va_P D vwCl (xH cS x a r lat cnt ++ (txW cI x z T ++ (stW cI a N (p_lay N (nI t) (-1) n)))) H := hP
              have hD : va_D (va_A (xH cS x a r lat cnt ++ (txW cI x z T ++ (stW cI a N v))) s.heap.size) (xH cS x a r lat cnt ++ (txW cI x z T ++ (stW cI a N (p_lay N (nI t) (-1) n)))) := hD
              exact L25 (n - 0 + 1) 0 (by omega) (by omega) H locs hP hD hS hS.1 ls hl
        have hl : lv_has ls 13 [(0, .ref (x 0)), (1, .int (nI n)), (2, .int (N 1 0)), (3, .int (p_at N (-1) n)), (4, .int (p_rh N n)), (5, .int (p_at N 4 n)), (6, .int 0), (7, .int 1), (8, .int 0)] := lv_sub hl [1, 2, 3, 4, 5, 6, 7, 8, 0] rfl
        have hl : lv_has ls 13 [(0, .ref (x 0)), (1, .int (nI n)), (2, .int (N 1 0)), (3, .int (p_at N (-1) n)), (4, .int (p_rh N n)), (5, .int (p_at N 4 n)), (6, .int (p_wtr N n 0)), (7, .int 1), (8, .int (nI 0))] := hl
        have hP : va_P D vwCl (xH cS x a r lat cnt ++ (txW cI x z T ++ (stW cI a N (p_wtv N n v 0)))) H := hP
        have hD : va_D (va_A (xH cS x a r lat cnt ++ (txW cI x z T ++ (stW cI a N v))) s.heap.size) (xH cS x a r lat cnt ++ (txW cI x z T ++ (stW cI a N (p_wtv N n v 0)))) := hD
        exact L7 (3 - 0 + 1) 0 (by omega) (by omega) H locs hP hD hS hS.1 ls hl
      · have c6' := Int32.not_le.mp c6
        have hkn : k < n := k_more (by omega) hv1 c6
        refine lv_iload hx hb dL_station_79 (lv_at hl 7 rfl) ?_
        refine lv_if_eq (tgt := 388) hx hb dL_station_81 (by decide) (fun h => absurd h (by decide)) (fun _ => ?_)
        refine lv_aload_n hx hb dL_station_84 rfl (lv_at hl 0 rfl) ?_
        refine lv_iload hx hb dL_station_85 (lv_at hl 8 rfl) ?_
        refine lv_bipush (v := 7) hx hb dL_station_87 (by decide) ?_
        refine k_riV (As := [.int (nI k), .int (nI 7)]) (rest := []) (wc := xH cS x a r lat cnt ++ (txW cI x z T ++ (stW cI a N v))) ⟨hx, hb, hml, hown, hts⟩ (c_X4_hose_g l D cI cS cL x a r lat cnt z T N v _ n hn hn14 k 7 hkn (by omega)) lkL_38 rfl rfl ⟨(Nat.le_of_ble_eq_true rfl), (Nat.le_of_ble_eq_true rfl)⟩ (va_recv hK hP (ci := 3) (q0 := 0) rfl rfl) hK hE hP hD rfl hl.1 rfl (Nat.le_of_ble_eq_true rfl) dL_station_89 ⟨Nat.zero_le _, Nat.zero_le _⟩ ?_
        rw [show p_hose N k 7 = N 9 k from rfl]
        refine lv_istore (lv' := [(9, .int (N 9 k)), (0, .ref (x 0)), (1, .int (nI n)), (2, .int (N 1 0)), (3, .int (p_at N (-1) k)), (4, .int (p_rh N k)), (5, .int (p_at N 4 k)), (6, .int 0), (7, .int 1), (8, .int (nI k))]) hx hb dL_station_92 hl (by decide) rfl (fun ls hl => ?_)
        refine lv_aload_n hx hb dL_station_94 rfl (lv_at hl 1 rfl) ?_
        refine lv_iload hx hb dL_station_95 (lv_at hl 9 rfl) ?_
        refine lv_bipush (v := 9) hx hb dL_station_97 (by decide) ?_
        refine k_riV (As := [.int (nI k), .int (nI 9)]) (rest := []) (wc := xH cS x a r lat cnt ++ (txW cI x z T ++ (stW cI a N v))) ⟨hx, hb, hml, hown, hts⟩ (c_X4_hose_g l D cI cS cL x a r lat cnt z T N v _ n hn hn14 k 9 hkn (by omega)) lkL_38 rfl rfl ⟨(Nat.le_of_ble_eq_true rfl), (Nat.le_of_ble_eq_true rfl)⟩ (va_recv hK hP (ci := 3) (q0 := 0) rfl rfl) hK hE hP hD rfl hl.1 rfl (Nat.le_of_ble_eq_true rfl) dL_station_99 ⟨Nat.zero_le _, Nat.zero_le _⟩ ?_
        rw [show p_hose N k 9 = p_reason N k from rfl]
        refine lv_istore (lv' := [(10, .int (p_reason N k)), (9, .int (N 9 k)), (0, .ref (x 0)), (1, .int (nI n)), (2, .int (N 1 0)), (3, .int (p_at N (-1) k)), (4, .int (p_rh N k)), (5, .int (p_at N 4 k)), (6, .int 0), (7, .int 1), (8, .int (nI k))]) hx hb dL_station_102 hl (by decide) rfl (fun ls hl => ?_)
        refine lv_aload_n hx hb dL_station_104 rfl (lv_at hl 2 rfl) ?_
        refine lv_iload hx hb dL_station_105 (lv_at hl 10 rfl) ?_
        refine k_riV (As := [.int (nI k)]) (rest := []) (wc := xH cS x a r lat cnt ++ (txW cI x z T ++ (stW cI a N v))) ⟨hx, hb, hml, hown, hts⟩ (c_X4_safe_g l D cI cS cL x a r lat cnt z T N v _ n hn hn14 k hkn) lkL_41 rfl rfl ⟨(Nat.le_of_ble_eq_true rfl), (Nat.le_of_ble_eq_true rfl)⟩ (va_recv hK hP (ci := 3) (q0 := 0) rfl rfl) hK hE hP hD rfl hl.1 rfl (Nat.le_of_ble_eq_true rfl) dL_station_107 ⟨Nat.zero_le _, Nat.zero_le _⟩ ?_
        refine lv_istore (lv' := [(11, .int (p_safeG N k)), (10, .int (p_reason N k)), (9, .int (N 9 k)), (0, .ref (x 0)), (1, .int (nI n)), (2, .int (N 1 0)), (3, .int (p_at N (-1) k)), (4, .int (p_rh N k)), (5, .int (p_at N 4 k)), (6, .int 0), (7, .int 1), (8, .int (nI k))]) hx hb dL_station_110 hl (by decide) rfl (fun ls hl => ?_)
        refine lv_iload_n hx hb dL_station_112 rfl (lv_at hl 6 rfl) ?_
        refine lv_iload hx hb dL_station_113 (lv_at hl 1 rfl) ?_
        refine lv_iconst (v := 1) hx hb dL_station_115 (by decide) ?_
        have J59 : ∀ zj : Int32, zj = bI (decide (p_reason N k = 1)) → W p l e rmL_station s m args below meth c H locs 0 0 (MQ below (kMi D (xH cS x a r lat cnt ++ (txW cI x z T ++ (stW cI a N v))) (xH cS x a r lat cnt ++ (txW cI x z T ++ (stW cI a N (p_lay N (nI 2) (-1) n)))) s.heap.size (1)) args s 0 0 (va_A (xH cS x a r lat cnt ++ (txW cI x z T ++ (stW cI a N v))) s.heap.size)) (F0 m 124 ls (.int zj :: [.int (p_at N (-1) k)])) := by
          intro zj hzj
          subst hzj
          refine lv_iadd hx hb dL_station_124 (lv_topi (fun x60 e60 => ?_))
          have q60 : x60 = p_at N (-1) (k + 1) := by rw [e60]; exact fx_gone N k
          subst q60
          refine lv_istore_n (lv' := [(3, .int (p_at N (-1) (k + 1))), (11, .int (p_safeG N k)), (10, .int (p_reason N k)), (9, .int (N 9 k)), (0, .ref (x 0)), (1, .int (nI n)), (2, .int (N 1 0)), (4, .int (p_rh N k)), (5, .int (p_at N 4 k)), (6, .int 0), (7, .int 1), (8, .int (nI k))]) hx hb dL_station_125 rfl hl (by decide) rfl (fun ls hl => ?_)
          refine lv_iload hx hb dL_station_126 (lv_at hl 7 rfl) ?_
          refine lv_iload hx hb dL_station_128 (lv_at hl 2 rfl) ?_
          have J61 : ∀ zj : Int32, zj = bI (decide (p_reason N k = 0)) → W p l e rmL_station s m args below meth c H locs 0 0 (MQ below (kMi D (xH cS x a r lat cnt ++ (txW cI x z T ++ (stW cI a N v))) (xH cS x a r lat cnt ++ (txW cI x z T ++ (stW cI a N (p_lay N (nI 2) (-1) n)))) s.heap.size (1)) args s 0 0 (va_A (xH cS x a r lat cnt ++ (txW cI x z T ++ (stW cI a N v))) s.heap.size)) (F0 m 138 ls (.int zj :: [.int (p_rh N k)])) := by
            intro zj hzj
            subst hzj
            refine lv_iadd hx hb dL_station_138 (lv_topi (fun x62 e62 => ?_))
            have q62 : x62 = p_rh N (k + 1) := by rw [e62]; exact fx_ready N k
            subst q62
            refine lv_istore (lv' := [(4, .int (p_rh N (k + 1))), (3, .int (p_at N (-1) (k + 1))), (11, .int (p_safeG N k)), (10, .int (p_reason N k)), (9, .int (N 9 k)), (0, .ref (x 0)), (1, .int (nI n)), (2, .int (N 1 0)), (5, .int (p_at N 4 k)), (6, .int 0), (7, .int 1), (8, .int (nI k))]) hx hb dL_station_139 hl (by decide) rfl (fun ls hl => ?_)
            refine lv_iload hx hb dL_station_141 (lv_at hl 8 rfl) ?_
            refine lv_iload hx hb dL_station_143 (lv_at hl 3 rfl) ?_
            refine lv_iconst (v := 2) hx hb dL_station_145 (by decide) ?_
            have J63 : ∀ zj : Int32, zj = bI (decide (p_reason N k = 2)) → W p l e rmL_station s m args below meth c H locs 0 0 (MQ below (kMi D (xH cS x a r lat cnt ++ (txW cI x z T ++ (stW cI a N v))) (xH cS x a r lat cnt ++ (txW cI x z T ++ (stW cI a N (p_lay N (nI 2) (-1) n)))) s.heap.size (1)) args s 0 0 (va_A (xH cS x a r lat cnt ++ (txW cI x z T ++ (stW cI a N v))) s.heap.size)) (F0 m 154 ls (.int zj :: [.int (p_at N 4 k)])) := by
              intro zj hzj
              subst hzj
              refine lv_iadd hx hb dL_station_154 (lv_topi (fun x64 e64 => ?_))
              have q64 : x64 = p_at N 4 (k + 1) := by rw [e64]; exact fx_lent N k
              subst q64
              refine lv_istore (lv' := [(5, .int (p_at N 4 (k + 1))), (4, .int (p_rh N (k + 1))), (3, .int (p_at N (-1) (k + 1))), (11, .int (p_safeG N k)), (10, .int (p_reason N k)), (9, .int (N 9 k)), (0, .ref (x 0)), (1, .int (nI n)), (2, .int (N 1 0)), (6, .int 0), (7, .int 1), (8, .int (nI k))]) hx hb dL_station_155 hl (by decide) rfl (fun ls hl => ?_)
              refine lv_iload hx hb dL_station_157 (lv_at hl 4 rfl) ?_
              refine lv_iconst (v := 1) hx hb dL_station_159 (by decide) ?_
              have J65 : ∀ zj : Int32, zj = bI (decide (p_reason N k = 1)) → W p l e rmL_station s m args below meth c H locs 0 0 (MQ below (kMi D (xH cS x a r lat cnt ++ (txW cI x z T ++ (stW cI a N v))) (xH cS x a r lat cnt ++ (txW cI x z T ++ (stW cI a N (p_lay N (nI 2) (-1) n)))) s.heap.size (1)) args s 0 0 (va_A (xH cS x a r lat cnt ++ (txW cI x z T ++ (stW cI a N v))) s.heap.size)) (F0 m 168 ls ([.int zj])) := by
                intro zj hzj
                subst hzj
                refine lv_iload hx hb dL_station_168 (lv_at hl 5 rfl) ?_
                refine lv_iconst (v := (-1)) hx hb dL_station_170 (by decide) ?_
                have J66 : ∀ zj : Int32, zj = bI (decide (N 9 k = -1)) → W p l e rmL_station s m args below meth c H locs 0 0 (MQ below (kMi D (xH cS x a r lat cnt ++ (txW cI x z T ++ (stW cI a N v))) (xH cS x a r lat cnt ++ (txW cI x z T ++ (stW cI a N (p_lay N (nI 2) (-1) n)))) s.heap.size (1)) args s 0 0 (va_A (xH cS x a r lat cnt ++ (txW cI x z T ++ (stW cI a N v))) s.heap.size)) (F0 m 179 ls (.int zj :: [.int (bI (decide (p_reason N k = 1)))])) := by
                  intro zj hzj
                  subst hzj
                  refine lv_icmp_ne (tgt := 379) hx hb dL_station_179 (by decide) (fun h => absurd (bI_iff (fx_r1 N k)) h) (fun _ => ?_)
                  refine lv_iload hx hb dL_station_182 (lv_at hl 4 rfl) ?_
                  refine lv_iconst (v := 2) hx hb dL_station_184 (by decide) ?_
                  have J68 : ∀ zj : Int32, zj = bI (decide (p_reason N k = 2)) → W p l e rmL_station s m args below meth c H locs 0 0 (MQ below (kMi D (xH cS x a r lat cnt ++ (txW cI x z T ++ (stW cI a N v))) (xH cS x a r lat cnt ++ (txW cI x z T ++ (stW cI a N (p_lay N (nI 2) (-1) n)))) s.heap.size (1)) args s 0 0 (va_A (xH cS x a r lat cnt ++ (txW cI x z T ++ (stW cI a N v))) s.heap.size)) (F0 m 193 ls ([.int zj])) := by
                    intro zj hzj
                    subst hzj
                    refine lv_iload hx hb dL_station_193 (lv_at hl 5 rfl) ?_
                    refine lv_iconst (v := 4) hx hb dL_station_195 (by decide) ?_
                    have J69 : ∀ zj : Int32, zj = bI (decide (N 9 k = 4)) → W p l e rmL_station s m args below meth c H locs 0 0 (MQ below (kMi D (xH cS x a r lat cnt ++ (txW cI x z T ++ (stW cI a N v))) (xH cS x a r lat cnt ++ (txW cI x z T ++ (stW cI a N (p_lay N (nI 2) (-1) n)))) s.heap.size (1)) args s 0 0 (va_A (xH cS x a r lat cnt ++ (txW cI x z T ++ (stW cI a N v))) s.heap.size)) (F0 m 204 ls (.int zj :: [.int (bI (decide (p_reason N k = 2)))])) := by
                      intro zj hzj
                      subst hzj
                      refine lv_icmp_ne (tgt := 379) hx hb dL_station_204 (by decide) (fun h => absurd (bI_iff (fx_r2 N k)) h) (fun _ => ?_)
                      refine lv_aload_n hx hb dL_station_207 rfl (lv_at hl 6 rfl) ?_
                      refine lv_iload hx hb dL_station_208 (lv_at hl 11 rfl) ?_
                      refine lv_bipush (v := 8) hx hb dL_station_210 (by decide) ?_
                      refine k_riV (As := [.int (nI k), .int (nI 8)]) (rest := []) (wc := xH cS x a r lat cnt ++ (txW cI x z T ++ (stW cI a N v))) ⟨hx, hb, hml, hown, hts⟩ (c_X4_hose_g l D cI cS cL x a r lat cnt z T N v _ n hn hn14 k 8 hkn (by omega)) lkL_38 rfl rfl ⟨(Nat.le_of_ble_eq_true rfl), (Nat.le_of_ble_eq_true rfl)⟩ (va_recv hK hP (ci := 3) (q0 := 0) rfl rfl) hK hE hP hD rfl hl.1 rfl (Nat.le_of_ble_eq_true rfl) dL_station_212 ⟨Nat.zero_le _, Nat.zero_le _⟩ ?_
                      rw [show p_hose N k 8 = N 10 k from rfl]
                      refine lv_iconst (v := (-1)) hx hb dL_station_215 (by decide) ?_
                      have J71 : ∀ zj : Int32, zj = bI (decide (N 10 k = -1)) → W p l e rmL_station s m args below meth c H locs 0 0 (MQ below (kMi D (xH cS x a r lat cnt ++ (txW cI x z T ++ (stW cI a N v))) (xH cS x a r lat cnt ++ (txW cI x z T ++ (stW cI a N (p_lay N (nI 2) (-1) n)))) s.heap.size (1)) args s 0 0 (va_A (xH cS x a r lat cnt ++ (txW cI x z T ++ (stW cI a N v))) s.heap.size)) (F0 m 224 ls ([.int zj])) := by
                        intro zj hzj
                        subst hzj
                        refine lv_iload hx hb dL_station_224 (lv_at hl 5 rfl) ?_
                        refine lv_iconst (v := 4) hx hb dL_station_226 (by decide) ?_
                        have J72 : ∀ zj : Int32, zj = bI (decide (¬ N 9 k = 4)) → W p l e rmL_station s m args below meth c H locs 0 0 (MQ below (kMi D (xH cS x a r lat cnt ++ (txW cI x z T ++ (stW cI a N v))) (xH cS x a r lat cnt ++ (txW cI x z T ++ (stW cI a N (p_lay N (nI 2) (-1) n)))) s.heap.size (1)) args s 0 0 (va_A (xH cS x a r lat cnt ++ (txW cI x z T ++ (stW cI a N v))) s.heap.size)) (F0 m 235 ls (.int zj :: [.int (bI (decide (N 10 k = -1)))])) := by
                          intro zj hzj
                          subst hzj
                          refine lv_icmp_ne (tgt := 379) hx hb dL_station_235 (by decide) (fun h => absurd (bI_iff (fx_back hI (by omega) hkn)) h) (fun _ => ?_)
                          have M74 : W p l e rmL_station s m args below meth c H locs 0 0 (MQ below (kMi D (xH cS x a r lat cnt ++ (txW cI x z T ++ (stW cI a N v))) (xH cS x a r lat cnt ++ (txW cI x z T ++ (stW cI a N (p_lay N (nI 2) (-1) n)))) s.heap.size (1)) args s 0 0 (va_A (xH cS x a r lat cnt ++ (txW cI x z T ++ (stW cI a N v))) s.heap.size)) (F0 m 256 ls ([])) := by
                            refine lv_aload_n hx hb dL_station_256 rfl (lv_at hl 6 rfl) ?_
                            refine lv_iload hx hb dL_station_257 (lv_at hl 11 rfl) ?_
                            refine lv_iconst (v := 4) hx hb dL_station_259 (by decide) ?_
                            refine k_riV (As := [.int (nI k), .int (nI 4)]) (rest := []) (wc := xH cS x a r lat cnt ++ (txW cI x z T ++ (stW cI a N v))) ⟨hx, hb, hml, hown, hts⟩ (c_X4_hose_g l D cI cS cL x a r lat cnt z T N v _ n hn hn14 k 4 hkn (by omega)) lkL_38 rfl rfl ⟨(Nat.le_of_ble_eq_true rfl), (Nat.le_of_ble_eq_true rfl)⟩ (va_recv hK hP (ci := 3) (q0 := 0) rfl rfl) hK hE hP hD rfl hl.1 rfl (Nat.le_of_ble_eq_true rfl) dL_station_260 ⟨Nat.zero_le _, Nat.zero_le _⟩ ?_
                            rw [show p_hose N k 4 = N 7 k from rfl]
                            refine lv_if_lt (tgt := 379) hx hb dL_station_263 (by decide) (fun h => absurd h (fx_w0 hI hkn)) (fun _ => ?_)
                            refine lv_aload_n hx hb dL_station_266 rfl (lv_at hl 6 rfl) ?_
                            refine lv_iload hx hb dL_station_267 (lv_at hl 11 rfl) ?_
                            refine lv_iconst (v := 4) hx hb dL_station_269 (by decide) ?_
                            refine k_riV (As := [.int (nI k), .int (nI 4)]) (rest := []) (wc := xH cS x a r lat cnt ++ (txW cI x z T ++ (stW cI a N v))) ⟨hx, hb, hml, hown, hts⟩ (c_X4_hose_g l D cI cS cL x a r lat cnt z T N v _ n hn hn14 k 4 hkn (by omega)) lkL_38 rfl rfl ⟨(Nat.le_of_ble_eq_true rfl), (Nat.le_of_ble_eq_true rfl)⟩ (va_recv hK hP (ci := 3) (q0 := 0) rfl rfl) hK hE hP hD rfl hl.1 rfl (Nat.le_of_ble_eq_true rfl) dL_station_270 ⟨Nat.zero_le _, Nat.zero_le _⟩ ?_
                            rw [show p_hose N k 4 = N 7 k from rfl]
                            refine lv_bipush (v := 99) hx hb dL_station_273 (by decide) ?_
                            refine lv_icmp_gt (tgt := 379) hx hb dL_station_275 (by decide) (fun h => absurd h (fx_w1 hI hkn)) (fun _ => ?_)
                            refine lv_aload_n hx hb dL_station_278 rfl (lv_at hl 6 rfl) ?_
                            refine lv_iload hx hb dL_station_279 (lv_at hl 11 rfl) ?_
                            refine lv_iconst (v := 5) hx hb dL_station_281 (by decide) ?_
                            refine k_riV (As := [.int (nI k), .int (nI 5)]) (rest := []) (wc := xH cS x a r lat cnt ++ (txW cI x z T ++ (stW cI a N v))) ⟨hx, hb, hml, hown, hts⟩ (c_X4_hose_g l D cI cS cL x a r lat cnt z T N v _ n hn hn14 k 5 hkn (by omega)) lkL_38 rfl rfl ⟨(Nat.le_of_ble_eq_true rfl), (Nat.le_of_ble_eq_true rfl)⟩ (va_recv hK hP (ci := 3) (q0 := 0) rfl rfl) hK hE hP hD rfl hl.1 rfl (Nat.le_of_ble_eq_true rfl) dL_station_282 ⟨Nat.zero_le _, Nat.zero_le _⟩ ?_
                            rw [show p_hose N k 5 = p_strAt N k (N 7 k) from rfl]
                            refine lv_if_lt (tgt := 379) hx hb dL_station_285 (by decide) (fun h => absurd h (fx_s0 hI (by omega) hkn)) (fun _ => ?_)
                            refine lv_aload_n hx hb dL_station_288 rfl (lv_at hl 6 rfl) ?_
                            refine lv_iload hx hb dL_station_289 (lv_at hl 11 rfl) ?_
                            refine lv_iconst (v := 5) hx hb dL_station_291 (by decide) ?_
                            refine k_riV (As := [.int (nI k), .int (nI 5)]) (rest := []) (wc := xH cS x a r lat cnt ++ (txW cI x z T ++ (stW cI a N v))) ⟨hx, hb, hml, hown, hts⟩ (c_X4_hose_g l D cI cS cL x a r lat cnt z T N v _ n hn hn14 k 5 hkn (by omega)) lkL_38 rfl rfl ⟨(Nat.le_of_ble_eq_true rfl), (Nat.le_of_ble_eq_true rfl)⟩ (va_recv hK hP (ci := 3) (q0 := 0) rfl rfl) hK hE hP hD rfl hl.1 rfl (Nat.le_of_ble_eq_true rfl) dL_station_292 ⟨Nat.zero_le _, Nat.zero_le _⟩ ?_
                            rw [show p_hose N k 5 = p_strAt N k (N 7 k) from rfl]
                            refine lv_bipush (v := 24) hx hb dL_station_295 (by decide) ?_
                            refine lv_icmp_gt (tgt := 379) hx hb dL_station_297 (by decide) (fun h => absurd h (fx_s1 hI (by omega) hkn)) (fun _ => ?_)
                            have M79 : W p l e rmL_station s m args below meth c H locs 0 0 (MQ below (kMi D (xH cS x a r lat cnt ++ (txW cI x z T ++ (stW cI a N v))) (xH cS x a r lat cnt ++ (txW cI x z T ++ (stW cI a N (p_lay N (nI 2) (-1) n)))) s.heap.size (1)) args s 0 0 (va_A (xH cS x a r lat cnt ++ (txW cI x z T ++ (stW cI a N v))) s.heap.size)) (F0 m 317 ls ([])) := by
                              have M80 : W p l e rmL_station s m args below meth c H locs 0 0 (MQ below (kMi D (xH cS x a r lat cnt ++ (txW cI x z T ++ (stW cI a N v))) (xH cS x a r lat cnt ++ (txW cI x z T ++ (stW cI a N (p_lay N (nI 2) (-1) n)))) s.heap.size (1)) args s 0 0 (va_A (xH cS x a r lat cnt ++ (txW cI x z T ++ (stW cI a N v))) s.heap.size)) (F0 m 336 ls ([])) := by
                                have M81 : W p l e rmL_station s m args below meth c H locs 0 0 (MQ below (kMi D (xH cS x a r lat cnt ++ (txW cI x z T ++ (stW cI a N v))) (xH cS x a r lat cnt ++ (txW cI x z T ++ (stW cI a N (p_lay N (nI 2) (-1) n)))) s.heap.size (1)) args s 0 0 (va_A (xH cS x a r lat cnt ++ (txW cI x z T ++ (stW cI a N v))) s.heap.size)) (F0 m 364 ls ([])) := by
                                  refine lv_iload hx hb dL_station_364 (lv_at hl 5 rfl) ?_
                                  refine lv_if_ge (tgt := 375) hx hb dL_station_366 (by decide) (fun c82 => ?_) (fun c82 => ?_)
                                  · have c82' := Int32.not_lt.mpr c82
                                    refine lv_iconst (v := 1) hx hb dL_station_375 (by decide) ?_
                                    refine lv_goto (tgt := 380) hx hb dL_station_376 (by decide) ?_
                                    refine lv_istore (lv' := [(7, .int 1), (5, .int (p_at N 4 (k + 1))), (4, .int (p_rh N (k + 1))), (3, .int (p_at N (-1) (k + 1))), (11, .int (p_safeG N k)), (10, .int (p_reason N k)), (9, .int (N 9 k)), (0, .ref (x 0)), (1, .int (nI n)), (2, .int (N 1 0)), (6, .int 0), (8, .int (nI k))]) hx hb dL_station_380 hl (by decide) rfl (fun ls hl => ?_)
                                    refine lv_iinc (v := nI (k + 1)) (lv' := [(8, .int (nI (k + 1))), (7, .int 1), (5, .int (p_at N 4 (k + 1))), (4, .int (p_rh N (k + 1))), (3, .int (p_at N (-1) (k + 1))), (11, .int (p_safeG N k)), (10, .int (p_reason N k)), (9, .int (N 9 k)), (0, .ref (x 0)), (1, .int (nI n)), (2, .int (N 1 0)), (6, .int 0)]) hx hb dL_station_382 hl (k := 11) rfl (nI_1 _) (by decide) rfl (fun ls hl => ?_)
                                    refine lv_goto (tgt := 73) hx hb dL_station_385 (by decide) ?_
                                    have hl : lv_has ls 13 [(0, .ref (x 0)), (1, .int (nI n)), (2, .int (N 1 0)), (3, .int (p_at N (-1) (k + 1))), (4, .int (p_rh N (k + 1))), (5, .int (p_at N 4 (k + 1))), (6, .int 0), (7, .int 1), (8, .int (nI (k + 1)))] := lv_sub hl [8, 9, 10, 4, 3, 2, 11, 1, 0] rfl
                                    have hl : lv_has ls 13 [(0, .ref (x 0)), (1, .int (nI n)), (2, .int (N 1 0)), (3, .int (p_at N (-1) (k + 1))), (4, .int (p_rh N (k + 1))), (5, .int (p_at N 4 (k + 1))), (6, .int 0), (7, .int 1), (8, .int (nI (k + 1)))] := hl
                                    have hP : va_P D vwCl (xH cS x a r lat cnt ++ (txW cI x z T ++ (stW cI a N v))) H := hP
                                    have hD : va_D (va_A (xH cS x a r lat cnt ++ (txW cI x z T ++ (stW cI a N v))) s.heap.size) (xH cS x a r lat cnt ++ (txW cI x z T ++ (stW cI a N v))) := hD
                                    exact ih5 (k + 1) (by omega) (by omega) H locs hP hD hS hS.1 ls hl
                                  · have c82' := Int32.not_le.mp c82
                                    have hp9 := c82
                                    refine lv_iload hx hb dL_station_369 (lv_at hl 3 rfl) ?_
                                    refine lv_iconst (v := (-1)) hx hb dL_station_371 (by decide) ?_
                                    refine lv_icmp_ne (tgt := 379) hx hb dL_station_372 (by decide) (fun h => absurd (fx_safe9 hI hkn hp9) h) (fun _ => ?_)
                                    refine lv_iconst (v := 1) hx hb dL_station_375 (by decide) ?_
                                    refine lv_goto (tgt := 380) hx hb dL_station_376 (by decide) ?_
                                    refine lv_istore (lv' := [(7, .int 1), (5, .int (p_at N 4 (k + 1))), (4, .int (p_rh N (k + 1))), (3, .int (p_at N (-1) (k + 1))), (11, .int (p_safeG N k)), (10, .int (p_reason N k)), (9, .int (N 9 k)), (0, .ref (x 0)), (1, .int (nI n)), (2, .int (N 1 0)), (6, .int 0), (8, .int (nI k))]) hx hb dL_station_380 hl (by decide) rfl (fun ls hl => ?_)
                                    refine lv_iinc (v := nI (k + 1)) (lv' := [(8, .int (nI (k + 1))), (7, .int 1), (5, .int (p_at N 4 (k + 1))), (4, .int (p_rh N (k + 1))), (3, .int (p_at N (-1) (k + 1))), (11, .int (p_safeG N k)), (10, .int (p_reason N k)), (9, .int (N 9 k)), (0, .ref (x 0)), (1, .int (nI n)), (2, .int (N 1 0)), (6, .int 0)]) hx hb dL_station_382 hl (k := 11) rfl (nI_1 _) (by decide) rfl (fun ls hl => ?_)
                                    refine lv_goto (tgt := 73) hx hb dL_station_385 (by decide) ?_
                                    have hl : lv_has ls 13 [(0, .ref (x 0)), (1, .int (nI n)), (2, .int (N 1 0)), (3, .int (p_at N (-1) (k + 1))), (4, .int (p_rh N (k + 1))), (5, .int (p_at N 4 (k + 1))), (6, .int 0), (7, .int 1), (8, .int (nI (k + 1)))] := lv_sub hl [8, 9, 10, 4, 3, 2, 11, 1, 0] rfl
                                    have hl : lv_has ls 13 [(0, .ref (x 0)), (1, .int (nI n)), (2, .int (N 1 0)), (3, .int (p_at N (-1) (k + 1))), (4, .int (p_rh N (k + 1))), (5, .int (p_at N 4 (k + 1))), (6, .int 0), (7, .int 1), (8, .int (nI (k + 1)))] := hl
                                    have hP : va_P D vwCl (xH cS x a r lat cnt ++ (txW cI x z T ++ (stW cI a N v))) H := hP
                                    have hD : va_D (va_A (xH cS x a r lat cnt ++ (txW cI x z T ++ (stW cI a N v))) s.heap.size) (xH cS x a r lat cnt ++ (txW cI x z T ++ (stW cI a N v))) := hD
                                    exact ih5 (k + 1) (by omega) (by omega) H locs hP hD hS hS.1 ls hl
                                refine lv_iload hx hb dL_station_336 (lv_at hl 3 rfl) ?_
                                refine lv_bipush (v := 24) hx hb dL_station_338 (by decide) ?_
                                refine lv_icmp_eq (tgt := 364) hx hb dL_station_340 (by decide) (fun c84 => ?_) (fun c84 => ?_)
                                · exact M81
                                · have hs24 := c84
                                  refine lv_iload hx hb dL_station_343 (lv_at hl 3 rfl) ?_
                                  refine lv_iconst (v := (-1)) hx hb dL_station_345 (by decide) ?_
                                  refine lv_icmp_eq (tgt := 364) hx hb dL_station_346 (by decide) (fun c85 => ?_) (fun c85 => ?_)
                                  · exact M81
                                  · have hs0 := c85
                                    obtain ⟨w, hw4, hw24, hsw, hsl, hsg⟩ := (fx_safe N k).resolve_left hs0
                                    have hw23 : w < 24 := Nat.lt_of_le_of_ne hw24 (fun q => hs24 (by rw [hsw, q]; rfl))
                                    refine lv_aload_n hx hb dL_station_349 rfl (lv_at hl 6 rfl) ?_
                                    refine lv_iload hx hb dL_station_350 (lv_at hl 11 rfl) ?_
                                    refine lv_iload hx hb dL_station_352 (lv_at hl 3 rfl) ?_
                                    rw [hsw]
                                    refine lv_iconst (v := 1) hx hb dL_station_354 (by decide) ?_
                                    refine lv_iadd hx hb dL_station_355 (lv_topi (fun x86 e86 => ?_))
                                    have q86 : x86 = nI (w + 1) := by rw [e86]; exact nI_1 w
                                    subst q86
                                    refine k_riV (As := [.int (nI k), .int (nI (w + 1))]) (rest := []) (wc := xH cS x a r lat cnt ++ (txW cI x z T ++ (stW cI a N v))) ⟨hx, hb, hml, hown, hts⟩ (c_X4_ifTested_g l D cI cS cL x a r lat cnt z T N v _ n hn hn14 k (w + 1) hkn (by omega) (by omega)) lkL_44 rfl rfl ⟨(Nat.le_of_ble_eq_true rfl), (Nat.le_of_ble_eq_true rfl)⟩ (va_recv hK hP (ci := 3) (q0 := 0) rfl rfl) hK hE hP hD rfl hl.1 rfl (Nat.le_of_ble_eq_true rfl) dL_station_356 ⟨Nat.zero_le _, Nat.zero_le _⟩ ?_
                                    refine lv_bipush (v := 100) hx hb dL_station_359 (by decide) ?_
                                    refine lv_icmp_lt (tgt := 379) hx hb dL_station_361 (by decide) (fun h => absurd h (hsg hw23)) (fun _ => ?_)
                                    exact M81
                              refine lv_iload hx hb dL_station_317 (lv_at hl 3 rfl) ?_
                              refine lv_iconst (v := (-1)) hx hb dL_station_319 (by decide) ?_
                              refine lv_icmp_eq (tgt := 336) hx hb dL_station_320 (by decide) (fun c88 => ?_) (fun c88 => ?_)
                              · exact M80
                              · have hs0 := c88
                                obtain ⟨w, hw4, hw24, hsw, hsl, hsg⟩ := (fx_safe N k).resolve_left hs0
                                refine lv_aload_n hx hb dL_station_323 rfl (lv_at hl 6 rfl) ?_
                                refine lv_iload hx hb dL_station_324 (lv_at hl 11 rfl) ?_
                                refine lv_iload hx hb dL_station_326 (lv_at hl 3 rfl) ?_
                                rw [hsw]
                                refine k_riV (As := [.int (nI k), .int (nI w)]) (rest := []) (wc := xH cS x a r lat cnt ++ (txW cI x z T ++ (stW cI a N v))) ⟨hx, hb, hml, hown, hts⟩ (c_X4_ifTested_g l D cI cS cL x a r lat cnt z T N v _ n hn hn14 k w hkn (by omega) (by omega)) lkL_44 rfl rfl ⟨(Nat.le_of_ble_eq_true rfl), (Nat.le_of_ble_eq_true rfl)⟩ (va_recv hK hP (ci := 3) (q0 := 0) rfl rfl) hK hE hP hD rfl hl.1 rfl (Nat.le_of_ble_eq_true rfl) dL_station_328 ⟨Nat.zero_le _, Nat.zero_le _⟩ ?_
                                refine lv_bipush (v := 100) hx hb dL_station_331 (by decide) ?_
                                refine lv_icmp_ge (tgt := 379) hx hb dL_station_333 (by decide) (fun h => absurd h (hsl)) (fun _ => ?_)
                                exact M80
                            refine lv_iload hx hb dL_station_300 (lv_at hl 4 rfl) ?_
                            refine lv_if_ne (tgt := 317) hx hb dL_station_302 (by decide) (fun c90 => ?_) (fun c90 => ?_)
                            · exact M79
                            · have hr0 := c90
                              refine lv_aload_n hx hb dL_station_305 rfl (lv_at hl 6 rfl) ?_
                              refine lv_iload hx hb dL_station_306 (lv_at hl 11 rfl) ?_
                              refine lv_bipush (v := 6) hx hb dL_station_308 (by decide) ?_
                              refine k_riV (As := [.int (nI k), .int (nI 6)]) (rest := []) (wc := xH cS x a r lat cnt ++ (txW cI x z T ++ (stW cI a N v))) ⟨hx, hb, hml, hown, hts⟩ (c_X4_hose_g l D cI cS cL x a r lat cnt z T N v _ n hn hn14 k 6 hkn (by omega)) lkL_38 rfl rfl ⟨(Nat.le_of_ble_eq_true rfl), (Nat.le_of_ble_eq_true rfl)⟩ (va_recv hK hP (ci := 3) (q0 := 0) rfl rfl) hK hE hP hD rfl hl.1 rfl (Nat.le_of_ble_eq_true rfl) dL_station_310 ⟨Nat.zero_le _, Nat.zero_le _⟩ ?_
                              rw [show p_hose N k 6 = N 8 k from rfl]
                              refine lv_iload_n hx hb dL_station_313 rfl (lv_at hl 8 rfl) ?_
                              refine lv_icmp_lt (tgt := 379) hx hb dL_station_314 (by decide) (fun h => absurd h ((fx_r0 hr0).2.2.2.2)) (fun _ => ?_)
                              exact M79
                          refine lv_iload hx hb dL_station_238 (lv_at hl 5 rfl) ?_
                          refine lv_iconst (v := 4) hx hb dL_station_240 (by decide) ?_
                          refine lv_icmp_ne (tgt := 256) hx hb dL_station_241 (by decide) (fun c92 => ?_) (fun c92 => ?_)
                          · exact M74
                          · have hp4 := c92
                            refine lv_aload_n hx hb dL_station_244 rfl (lv_at hl 6 rfl) ?_
                            refine lv_iload hx hb dL_station_245 (lv_at hl 11 rfl) ?_
                            refine lv_bipush (v := 8) hx hb dL_station_247 (by decide) ?_
                            refine k_riV (As := [.int (nI k), .int (nI 8)]) (rest := []) (wc := xH cS x a r lat cnt ++ (txW cI x z T ++ (stW cI a N v))) ⟨hx, hb, hml, hown, hts⟩ (c_X4_hose_g l D cI cS cL x a r lat cnt z T N v _ n hn hn14 k 8 hkn (by omega)) lkL_38 rfl rfl ⟨(Nat.le_of_ble_eq_true rfl), (Nat.le_of_ble_eq_true rfl)⟩ (va_recv hK hP (ci := 3) (q0 := 0) rfl rfl) hK hE hP hD rfl hl.1 rfl (Nat.le_of_ble_eq_true rfl) dL_station_249 ⟨Nat.zero_le _, Nat.zero_le _⟩ ?_
                            rw [show p_hose N k 8 = N 10 k from rfl]
                            refine lv_iload_n hx hb dL_station_252 rfl (lv_at hl 8 rfl) ?_
                            refine lv_icmp_le (tgt := 379) hx hb dL_station_253 (by decide) (fun h => absurd h (fx_back2 hI (by omega) hkn hp4)) (fun _ => ?_)
                            exact M74
                        refine lv_icmp_eq (tgt := 234) hx hb dL_station_227 (by decide) (fun c94 => ?_) (fun c94 => ?_)
                        · refine lv_iconst (v := 0) hx hb dL_station_234 (by decide) ?_
                          exact J72 _ (by simp [bI, hn, hn14, c6, c6', hkn, c94])
                        · refine lv_iconst (v := 1) hx hb dL_station_230 (by decide) ?_
                          refine lv_goto (tgt := 235) hx hb dL_station_231 (by decide) ?_
                          exact J72 _ (by simp [bI, hn, hn14, c6, c6', hkn, c94])
                      refine lv_icmp_ne (tgt := 223) hx hb dL_station_216 (by decide) (fun c95 => ?_) (fun c95 => ?_)
                      · refine lv_iconst (v := 0) hx hb dL_station_223 (by decide) ?_
                        exact J71 _ (by simp [bI, hn, hn14, c6, c6', hkn, c95])
                      · refine lv_iconst (v := 1) hx hb dL_station_219 (by decide) ?_
                        refine lv_goto (tgt := 224) hx hb dL_station_220 (by decide) ?_
                        exact J71 _ (by simp [bI, hn, hn14, c6, c6', hkn, c95])
                    refine lv_icmp_ne (tgt := 203) hx hb dL_station_196 (by decide) (fun c96 => ?_) (fun c96 => ?_)
                    · refine lv_iconst (v := 0) hx hb dL_station_203 (by decide) ?_
                      exact J69 _ (by simp [bI, hn, hn14, c6, c6', hkn, c96])
                    · refine lv_iconst (v := 1) hx hb dL_station_199 (by decide) ?_
                      refine lv_goto (tgt := 204) hx hb dL_station_200 (by decide) ?_
                      exact J69 _ (by simp [bI, hn, hn14, c6, c6', hkn, c96])
                  refine lv_icmp_ne (tgt := 192) hx hb dL_station_185 (by decide) (fun c97 => ?_) (fun c97 => ?_)
                  · refine lv_iconst (v := 0) hx hb dL_station_192 (by decide) ?_
                    exact J68 _ (by simp [bI, hn, hn14, c6, c6', hkn, c97])
                  · refine lv_iconst (v := 1) hx hb dL_station_188 (by decide) ?_
                    refine lv_goto (tgt := 193) hx hb dL_station_189 (by decide) ?_
                    exact J68 _ (by simp [bI, hn, hn14, c6, c6', hkn, c97])
                refine lv_icmp_ne (tgt := 178) hx hb dL_station_171 (by decide) (fun c98 => ?_) (fun c98 => ?_)
                · refine lv_iconst (v := 0) hx hb dL_station_178 (by decide) ?_
                  exact J66 _ (by simp [bI, hn, hn14, c6, c6', hkn, c98])
                · refine lv_iconst (v := 1) hx hb dL_station_174 (by decide) ?_
                  refine lv_goto (tgt := 179) hx hb dL_station_175 (by decide) ?_
                  exact J66 _ (by simp [bI, hn, hn14, c6, c6', hkn, c98])
              refine lv_icmp_ne (tgt := 167) hx hb dL_station_160 (by decide) (fun c99 => ?_) (fun c99 => ?_)
              · refine lv_iconst (v := 0) hx hb dL_station_167 (by decide) ?_
                exact J65 _ (by simp [bI, hn, hn14, c6, c6', hkn, c99])
              · refine lv_iconst (v := 1) hx hb dL_station_163 (by decide) ?_
                refine lv_goto (tgt := 168) hx hb dL_station_164 (by decide) ?_
                exact J65 _ (by simp [bI, hn, hn14, c6, c6', hkn, c99])
            refine lv_icmp_ne (tgt := 153) hx hb dL_station_146 (by decide) (fun c100 => ?_) (fun c100 => ?_)
            · refine lv_iconst (v := 0) hx hb dL_station_153 (by decide) ?_
              exact J63 _ (by simp [bI, hn, hn14, c6, c6', hkn, c100])
            · refine lv_iconst (v := 1) hx hb dL_station_149 (by decide) ?_
              refine lv_goto (tgt := 154) hx hb dL_station_150 (by decide) ?_
              exact J63 _ (by simp [bI, hn, hn14, c6, c6', hkn, c100])
          refine lv_if_ne (tgt := 137) hx hb dL_station_130 (by decide) (fun c101 => ?_) (fun c101 => ?_)
          · refine lv_iconst (v := 0) hx hb dL_station_137 (by decide) ?_
            exact J61 _ (by simp [bI, hn, hn14, c6, c6', hkn, c101])
          · refine lv_iconst (v := 1) hx hb dL_station_133 (by decide) ?_
            refine lv_goto (tgt := 138) hx hb dL_station_134 (by decide) ?_
            exact J61 _ (by simp [bI, hn, hn14, c6, c6', hkn, c101])
        refine lv_icmp_ne (tgt := 123) hx hb dL_station_116 (by decide) (fun c102 => ?_) (fun c102 => ?_)
        · refine lv_iconst (v := 0) hx hb dL_station_123 (by decide) ?_
          exact J59 _ (by simp [bI, hn, hn14, c6, c6', hkn, c102])
        · refine lv_iconst (v := 1) hx hb dL_station_119 (by decide) ?_
          refine lv_goto (tgt := 124) hx hb dL_station_120 (by decide) ?_
          exact J59 _ (by simp [bI, hn, hn14, c6, c6', hkn, c102])
  have hl : lv_has ls 13 [(0, .ref (x 0)), (1, .int (nI n)), (2, .int (N 1 0)), (3, .int 0), (4, .int 0), (5, .int 0), (6, .int 0), (7, .int 1), (8, .int 0)] := lv_sub hl [8, 7, 6, 5, 4, 3, 2, 1, 0] rfl
  have hl : lv_has ls 13 [(0, .ref (x 0)), (1, .int (nI n)), (2, .int (N 1 0)), (3, .int (p_at N (-1) 0)), (4, .int (p_rh N 0)), (5, .int (p_at N 4 0)), (6, .int 0), (7, .int 1), (8, .int (nI 0))] := hl
  have hP : va_P D vwCl (xH cS x a r lat cnt ++ (txW cI x z T ++ (stW cI a N v))) H := hP
  have hD : va_D (va_A (xH cS x a r lat cnt ++ (txW cI x z T ++ (stW cI a N v))) s.heap.size) (xH cS x a r lat cnt ++ (txW cI x z T ++ (stW cI a N v))) := hD
  exact L5 (n - 0 + 1) 0 (by omega) (by omega) H locs hP hD hS hS.1 ls hl
