abbrev rmX4_init : Room := { frames := 3, cells := 87, slots := 1041, locals := 52 }
set_option maxHeartbeats 4000000 in
set_option maxRecDepth 100000 in
theorem c_X4_init (l : Launch) (D : va_G) (cI cS cL : ClassId) (o0 : Nat) (sz : Nat) : Met l yX4_init (wy_ yX4_init cX4_init 2 none) rmX4_init (kPo D (kTy cI cS cL) ([(o0, .inr (3, [.null, .null, .int 0, .int 0, .null]))]) sz [.ref o0]) (kNv D ([(o0, .inr (3, [.null, .null, .int 0, .int 0, .null]))]) sz (fun u : (Nat → Nat) × (Nat → Nat) × (Nat → Nat → Nat) => u.1 0 = o0) (fun u => xH cS u.1 u.2.1 u.2.2 0 0 ++ (txW cI u.1 0 z0 ++ (stW cI u.2.1 N0 z0 ++ rgW cI u.2.2 (fun _ => N0) (fun _ => z0))))) 87 1041 (va_A ([(o0, .inr (3, [.null, .null, .int 0, .int 0, .null]))]) sz) := by
  refine k_oofW (by decide) (Nat.le_of_ble_eq_true rfl) ?_
  intro p e s m args below meth c hx hb hr hml hts hown hlocks hnm hsz hP hK hD hE hO ls hl
  subst hsz
  have hA : ∀ q : Nat, s.heap.size ≤ q → (va_A ([(o0, .inr (3, [.null, .null, .int 0, .int 0, .null]))]) s.heap.size) q := fun q h => Or.inr h
  have hS : va_S (va_A ([(o0, .inr (3, [.null, .null, .int 0, .int 0, .null]))]) s.heap.size) s.heap s.heap [] := va_S.rf
  have hl : lv_has ls 2 [(0, .ref o0)] := hl
  refine lv_aload_n hx hb dX4_init_0 rfl (lv_at hl 0 rfl) ?_
  refine k_objI hx hb hts hown wd_methodLink_RX4_1_objectInit (hl.1.trans hml.symm) dX4_init_1 ⟨(Nat.le_of_ble_eq_true rfl), (Nat.le_of_ble_eq_true rfl)⟩ ?_
  refine lv_aload_n hx hb dX4_init_4 rfl (lv_at hl 0 rfl) ?_
  refine va_new (ci := 2) (fs := [.int 0, .int 0, .int 0, .int 0, .int 0, .int 0, .null, .null, .null, .null, .null, .null, .null, .null, .null, .null, .null]) (C := RX3) (T := TX3) (N := 17) hx hb hts inlX3 tyX3 tyX3_ok hown (hts _ wd_classLink_RX4_7_RX3) (hts _ wd_instantiable_RX3_17) (hts _ wd_initialized_RX3) hK hP hD hS hA rfl (fun j hj => by rcases (show j = 0 ∨ j = 1 ∨ j = 2 ∨ j = 3 ∨ j = 4 ∨ j = 5 ∨ j = 6 ∨ j = 7 ∨ j = 8 ∨ j = 9 ∨ j = 10 ∨ j = 11 ∨ j = 12 ∨ j = 13 ∨ j = 14 ∨ j = 15 ∨ j = 16 by omega) with rfl | rfl | rfl | rfl | rfl | rfl | rfl | rfl | rfl | rfl | rfl | rfl | rfl | rfl | rfl | rfl | rfl <;> rfl) (Nat.le_of_ble_eq_true rfl) (Nat.le_of_ble_eq_true rfl) dX4_init_5 (fun q1v H hP hD hS => ?_)
  have hP : va_P D vwCl ([(o0, .inr (3, [.null, .null, .int 0, .int 0, .null]))] ++ [(q1v, .inr (2, [.int 0, .int 0, .int 0, .int 0, .int 0, .int 0, .null, .null, .null, .null, .null, .null, .null, .null, .null, .null, .null]))]) H := hP
  have hD : va_D (va_A ([(o0, .inr (3, [.null, .null, .int 0, .int 0, .null]))]) s.heap.size) ([(o0, .inr (3, [.null, .null, .int 0, .int 0, .null]))] ++ [(q1v, .inr (2, [.int 0, .int 0, .int 0, .int 0, .int 0, .int 0, .null, .null, .null, .null, .null, .null, .null, .null, .null, .null, .null]))]) := hD
  refine lv_dup hx hb dX4_init_8 rfl ?_
  refine k_initV (As := []) (rest := [.ref q1v, .ref o0]) (w1 := [(o0, .inr (3, [.null, .null, .int 0, .int 0, .null]))]) (wc := [(q1v, .inr (2, [.int 0, .int 0, .int 0, .int 0, .int 0, .int 0, .null, .null, .null, .null, .null, .null, .null, .null, .null, .null, .null]))]) ⟨hx, hb, hml, hown, hts⟩ (c_X3_init l D cI cS cL q1v _) lkX4_9 rfl rfl ⟨(Nat.le_of_ble_eq_true rfl), (Nat.le_of_ble_eq_true rfl)⟩ hK hE hP hD hS hA rfl hl.1 rfl (Nat.le_of_ble_eq_true rfl) dX4_init_9 ⟨(Nat.le_of_ble_eq_true rfl), (Nat.le_of_ble_eq_true rfl)⟩ (fun n2v H locs hu hPn2v hDn2v hSn2v => ?_)
  have hu : n2v 0 = q1v := hu
  subst hu
  have hP := hPn2v
  have hD := hDn2v
  have hS := hSn2v
  have hP : va_P D vwCl ([(o0, .inr (3, [.null, .null, .int 0, .int 0, .null]))] ++ (stW cI n2v N0 z0)) H := hP
  have hD : va_D (va_A ([(o0, .inr (3, [.null, .null, .int 0, .int 0, .null]))]) s.heap.size) ([(o0, .inr (3, [.null, .null, .int 0, .int 0, .null]))] ++ (stW cI n2v N0 z0)) := hD
  refine Fp4 hx hb hts hown hK hP hD hS 0 rfl 0 (by decide) flX4_10 (fun _ h => h) rfl hnm rfl rfl rfl (Nat.le_of_ble_eq_true rfl) dX4_init_12 (fun H locs hP hD hS => ?_)
  have hP : va_P D vwCl ([(o0, .inr (3, [.ref (n2v 0), .null, .int 0, .int 0, .null]))] ++ (stW cI n2v N0 z0)) H := hP
  have hD : va_D (va_A ([(o0, .inr (3, [.null, .null, .int 0, .int 0, .null]))]) s.heap.size) ([(o0, .inr (3, [.ref (n2v 0), .null, .int 0, .int 0, .null]))] ++ (stW cI n2v N0 z0)) := hD
  refine lv_aload_n hx hb dX4_init_15 rfl (lv_at hl 0 rfl) ?_
  refine lv_bipush (v := 6) hx hb dX4_init_16 (by decide) ?_
  refine k_newS (k := 6) (N' := 6) hx hb hown (hts _ wd_classLink_RX4_7_RX3) hO hK hP hD hS hA (by decide) (by decide) (by decide) (Nat.le_of_ble_eq_true rfl) (Nat.le_of_ble_eq_true rfl) dX4_init_18 (fun q3v H hP hD hS => ?_)
  have hP : va_P D vwCl (([(o0, .inr (3, [.ref (n2v 0), .null, .int 0, .int 0, .null]))] ++ (stW cI n2v N0 z0)) ++ [(q3v, .inl (cS, 6, .inr (.inr (.inr (.inr (fun _ => none))))))]) H := hP
  have hD : va_D (va_A ([(o0, .inr (3, [.null, .null, .int 0, .int 0, .null]))]) s.heap.size) (([(o0, .inr (3, [.ref (n2v 0), .null, .int 0, .int 0, .null]))] ++ (stW cI n2v N0 z0)) ++ [(q3v, .inl (cS, 6, .inr (.inr (.inr (.inr (fun _ => none))))))]) := hD
  refine Fp4 hx hb hts hown hK hP hD hS 0 rfl 1 (by decide) flX4_16 (fun _ h => h) rfl hnm rfl rfl rfl (Nat.le_of_ble_eq_true rfl) dX4_init_21 (fun H locs hP hD hS => ?_)
  have hP : va_P D vwCl (([(o0, .inr (3, [.ref (n2v 0), .ref q3v, .int 0, .int 0, .null]))] ++ (stW cI n2v N0 z0)) ++ [(q3v, .inl (cS, 6, .inr (.inr (.inr (.inr (fun _ => none))))))]) H := hP
  have hD : va_D (va_A ([(o0, .inr (3, [.null, .null, .int 0, .int 0, .null]))]) s.heap.size) (([(o0, .inr (3, [.ref (n2v 0), .ref q3v, .int 0, .int 0, .null]))] ++ (stW cI n2v N0 z0)) ++ [(q3v, .inl (cS, 6, .inr (.inr (.inr (.inr (fun _ => none))))))]) := hD
  refine lv_iconst (v := 0) hx hb dX4_init_24 (by decide) ?_
  refine lv_istore_n (lv' := [(1, .int 0), (0, .ref o0)]) hx hb dX4_init_25 rfl hl (by decide) rfl (fun ls hl => ?_)
  refine lv_iload_n hx hb dX4_init_26 rfl (lv_at hl 0 rfl) ?_
  refine lv_bipush (v := 6) hx hb dX4_init_27 (by decide) ?_
  refine lv_icmp_ge (tgt := 51) hx hb dX4_init_29 (by decide) (fun h => absurd h (by decide)) (fun _ => ?_)
  refine lv_aload_n hx hb dX4_init_32 rfl (lv_at hl 1 rfl) ?_
  refine g4 hx hb hts hown hK hP 0 rfl 1 (by decide) flX4_16 (fun _ h => h) (v := .ref q3v) rfl dX4_init_33 ?_
  refine lv_iload_n hx hb dX4_init_36 rfl (lv_at hl 0 rfl) ?_
  refine va_new (ci := 2) (fs := [.int 0, .int 0, .int 0, .int 0, .int 0, .int 0, .null, .null, .null, .null, .null, .null, .null, .null, .null, .null, .null]) (C := RX3) (T := TX3) (N := 17) hx hb hts inlX3 tyX3 tyX3_ok hown (hts _ wd_classLink_RX4_7_RX3) (hts _ wd_instantiable_RX3_17) (hts _ wd_initialized_RX3) hK hP hD hS hA rfl (fun j hj => by rcases (show j = 0 ∨ j = 1 ∨ j = 2 ∨ j = 3 ∨ j = 4 ∨ j = 5 ∨ j = 6 ∨ j = 7 ∨ j = 8 ∨ j = 9 ∨ j = 10 ∨ j = 11 ∨ j = 12 ∨ j = 13 ∨ j = 14 ∨ j = 15 ∨ j = 16 by omega) with rfl | rfl | rfl | rfl | rfl | rfl | rfl | rfl | rfl | rfl | rfl | rfl | rfl | rfl | rfl | rfl | rfl <;> rfl) (Nat.le_of_ble_eq_true rfl) (Nat.le_of_ble_eq_true rfl) dX4_init_37 (fun q4v H hP hD hS => ?_)
  have hP : va_P D vwCl ((([(o0, .inr (3, [.ref (n2v 0), .ref q3v, .int 0, .int 0, .null]))] ++ (stW cI n2v N0 z0)) ++ [(q3v, .inl (cS, 6, .inr (.inr (.inr (.inr (fun _ => none))))))]) ++ [(q4v, .inr (2, [.int 0, .int 0, .int 0, .int 0, .int 0, .int 0, .null, .null, .null, .null, .null, .null, .null, .null, .null, .null, .null]))]) H := hP
  have hD : va_D (va_A ([(o0, .inr (3, [.null, .null, .int 0, .int 0, .null]))]) s.heap.size) ((([(o0, .inr (3, [.ref (n2v 0), .ref q3v, .int 0, .int 0, .null]))] ++ (stW cI n2v N0 z0)) ++ [(q3v, .inl (cS, 6, .inr (.inr (.inr (.inr (fun _ => none))))))]) ++ [(q4v, .inr (2, [.int 0, .int 0, .int 0, .int 0, .int 0, .int 0, .null, .null, .null, .null, .null, .null, .null, .null, .null, .null, .null]))]) := hD
  refine lv_dup hx hb dX4_init_40 rfl ?_
  refine k_initV (As := []) (rest := [.ref q4v, .int 0, .ref q3v]) (w1 := ([(o0, .inr (3, [.ref (n2v 0), .ref q3v, .int 0, .int 0, .null]))] ++ (stW cI n2v N0 z0)) ++ [(q3v, .inl (cS, 6, .inr (.inr (.inr (.inr (fun _ => none))))))]) (wc := [(q4v, .inr (2, [.int 0, .int 0, .int 0, .int 0, .int 0, .int 0, .null, .null, .null, .null, .null, .null, .null, .null, .null, .null, .null]))]) ⟨hx, hb, hml, hown, hts⟩ (c_X3_init l D cI cS cL q4v _) lkX4_9 rfl rfl ⟨(Nat.le_of_ble_eq_true rfl), (Nat.le_of_ble_eq_true rfl)⟩ hK hE hP hD hS hA rfl hl.1 rfl (Nat.le_of_ble_eq_true rfl) dX4_init_41 ⟨(Nat.le_of_ble_eq_true rfl), (Nat.le_of_ble_eq_true rfl)⟩ (fun n5v H locs hu hPn5v hDn5v hSn5v => ?_)
  have hu : n5v 0 = q4v := hu
  subst hu
  have hP := hPn5v
  have hD := hDn5v
  have hS := hSn5v
  have hP : va_P D vwCl ((([(o0, .inr (3, [.ref (n2v 0), .ref q3v, .int 0, .int 0, .null]))] ++ (stW cI n2v N0 z0)) ++ [(q3v, .inl (cS, 6, .inr (.inr (.inr (.inr (fun _ => none))))))]) ++ (stW cI n5v N0 z0)) H := hP
  have hD : va_D (va_A ([(o0, .inr (3, [.null, .null, .int 0, .int 0, .null]))]) s.heap.size) ((([(o0, .inr (3, [.ref (n2v 0), .ref q3v, .int 0, .int 0, .null]))] ++ (stW cI n2v N0 z0)) ++ [(q3v, .inl (cS, 6, .inr (.inr (.inr (.inr (fun _ => none))))))]) ++ (stW cI n5v N0 z0)) := hD
  refine k_astm (k := 0) hx hb hK hP hD hS 13 rfl (List.mem_append_right _ (List.mem_append_left _ List.mem_cons_self)) rfl (by decide) (by decide) dX4_init_44 (fun H locs hP hD hS => ?_)
  have hP : va_P D vwCl ((([(o0, .inr (3, [.ref (n2v 0), .ref q3v, .int 0, .int 0, .null]))] ++ (stW cI n2v N0 z0)) ++ [(q3v, .inl (cS, 6, .inr (.inr (.inr (.inr (va_up (fun _ => none) 0 (some (n5v 0))))))))]) ++ (stW cI n5v N0 z0)) H := hP
  have hD : va_D (va_A ([(o0, .inr (3, [.null, .null, .int 0, .int 0, .null]))]) s.heap.size) ((([(o0, .inr (3, [.ref (n2v 0), .ref q3v, .int 0, .int 0, .null]))] ++ (stW cI n2v N0 z0)) ++ [(q3v, .inl (cS, 6, .inr (.inr (.inr (.inr (va_up (fun _ => none) 0 (some (n5v 0))))))))]) ++ (stW cI n5v N0 z0)) := hD
  refine lv_iinc (v := 1) (lv' := [(1, .int 1), (0, .ref o0)]) hx hb dX4_init_45 hl (k := 0) rfl (by decide) (by decide) rfl (fun ls hl => ?_)
  refine lv_goto (tgt := 26) hx hb dX4_init_48 (by decide) ?_
  refine lv_iload_n hx hb dX4_init_26 rfl (lv_at hl 0 rfl) ?_
  refine lv_bipush (v := 6) hx hb dX4_init_27 (by decide) ?_
  refine lv_icmp_ge (tgt := 51) hx hb dX4_init_29 (by decide) (fun h => absurd h (by decide)) (fun _ => ?_)
  refine lv_aload_n hx hb dX4_init_32 rfl (lv_at hl 1 rfl) ?_
  refine g4 hx hb hts hown hK hP 0 rfl 1 (by decide) flX4_16 (fun _ h => h) (v := .ref q3v) rfl dX4_init_33 ?_
  refine lv_iload_n hx hb dX4_init_36 rfl (lv_at hl 0 rfl) ?_
  refine va_new (ci := 2) (fs := [.int 0, .int 0, .int 0, .int 0, .int 0, .int 0, .null, .null, .null, .null, .null, .null, .null, .null, .null, .null, .null]) (C := RX3) (T := TX3) (N := 17) hx hb hts inlX3 tyX3 tyX3_ok hown (hts _ wd_classLink_RX4_7_RX3) (hts _ wd_instantiable_RX3_17) (hts _ wd_initialized_RX3) hK hP hD hS hA rfl (fun j hj => by rcases (show j = 0 ∨ j = 1 ∨ j = 2 ∨ j = 3 ∨ j = 4 ∨ j = 5 ∨ j = 6 ∨ j = 7 ∨ j = 8 ∨ j = 9 ∨ j = 10 ∨ j = 11 ∨ j = 12 ∨ j = 13 ∨ j = 14 ∨ j = 15 ∨ j = 16 by omega) with rfl | rfl | rfl | rfl | rfl | rfl | rfl | rfl | rfl | rfl | rfl | rfl | rfl | rfl | rfl | rfl | rfl <;> rfl) (Nat.le_of_ble_eq_true rfl) (Nat.le_of_ble_eq_true rfl) dX4_init_37 (fun q6v H hP hD hS => ?_)
  have hP : va_P D vwCl (((([(o0, .inr (3, [.ref (n2v 0), .ref q3v, .int 0, .int 0, .null]))] ++ (stW cI n2v N0 z0)) ++ [(q3v, .inl (cS, 6, .inr (.inr (.inr (.inr (va_up (fun _ => none) 0 (some (n5v 0))))))))]) ++ (stW cI n5v N0 z0)) ++ [(q6v, .inr (2, [.int 0, .int 0, .int 0, .int 0, .int 0, .int 0, .null, .null, .null, .null, .null, .null, .null, .null, .null, .null, .null]))]) H := hP
  have hD : va_D (va_A ([(o0, .inr (3, [.null, .null, .int 0, .int 0, .null]))]) s.heap.size) (((([(o0, .inr (3, [.ref (n2v 0), .ref q3v, .int 0, .int 0, .null]))] ++ (stW cI n2v N0 z0)) ++ [(q3v, .inl (cS, 6, .inr (.inr (.inr (.inr (va_up (fun _ => none) 0 (some (n5v 0))))))))]) ++ (stW cI n5v N0 z0)) ++ [(q6v, .inr (2, [.int 0, .int 0, .int 0, .int 0, .int 0, .int 0, .null, .null, .null, .null, .null, .null, .null, .null, .null, .null, .null]))]) := hD
  refine lv_dup hx hb dX4_init_40 rfl ?_
  refine k_initV (As := []) (rest := [.ref q6v, .int 1, .ref q3v]) (w1 := (([(o0, .inr (3, [.ref (n2v 0), .ref q3v, .int 0, .int 0, .null]))] ++ (stW cI n2v N0 z0)) ++ [(q3v, .inl (cS, 6, .inr (.inr (.inr (.inr (va_up (fun _ => none) 0 (some (n5v 0))))))))]) ++ (stW cI n5v N0 z0)) (wc := [(q6v, .inr (2, [.int 0, .int 0, .int 0, .int 0, .int 0, .int 0, .null, .null, .null, .null, .null, .null, .null, .null, .null, .null, .null]))]) ⟨hx, hb, hml, hown, hts⟩ (c_X3_init l D cI cS cL q6v _) lkX4_9 rfl rfl ⟨(Nat.le_of_ble_eq_true rfl), (Nat.le_of_ble_eq_true rfl)⟩ hK hE hP hD hS hA rfl hl.1 rfl (Nat.le_of_ble_eq_true rfl) dX4_init_41 ⟨(Nat.le_of_ble_eq_true rfl), (Nat.le_of_ble_eq_true rfl)⟩ (fun n7v H locs hu hPn7v hDn7v hSn7v => ?_)
  have hu : n7v 0 = q6v := hu
  subst hu
  have hP := hPn7v
  have hD := hDn7v
  have hS := hSn7v
  have hP : va_P D vwCl (((([(o0, .inr (3, [.ref (n2v 0), .ref q3v, .int 0, .int 0, .null]))] ++ (stW cI n2v N0 z0)) ++ [(q3v, .inl (cS, 6, .inr (.inr (.inr (.inr (va_up (fun _ => none) 0 (some (n5v 0))))))))]) ++ (stW cI n5v N0 z0)) ++ (stW cI n7v N0 z0)) H := hP
  have hD : va_D (va_A ([(o0, .inr (3, [.null, .null, .int 0, .int 0, .null]))]) s.heap.size) (((([(o0, .inr (3, [.ref (n2v 0), .ref q3v, .int 0, .int 0, .null]))] ++ (stW cI n2v N0 z0)) ++ [(q3v, .inl (cS, 6, .inr (.inr (.inr (.inr (va_up (fun _ => none) 0 (some (n5v 0))))))))]) ++ (stW cI n5v N0 z0)) ++ (stW cI n7v N0 z0)) := hD
  refine k_astm (k := 1) hx hb hK hP hD hS 13 rfl (List.mem_append_right _ (List.mem_append_left _ List.mem_cons_self)) rfl (by decide) (by decide) dX4_init_44 (fun H locs hP hD hS => ?_)
  have hP : va_P D vwCl (((([(o0, .inr (3, [.ref (n2v 0), .ref q3v, .int 0, .int 0, .null]))] ++ (stW cI n2v N0 z0)) ++ [(q3v, .inl (cS, 6, .inr (.inr (.inr (.inr (va_up (va_up (fun _ => none) 0 (some (n5v 0))) 1 (some (n7v 0))))))))]) ++ (stW cI n5v N0 z0)) ++ (stW cI n7v N0 z0)) H := hP
  have hD : va_D (va_A ([(o0, .inr (3, [.null, .null, .int 0, .int 0, .null]))]) s.heap.size) (((([(o0, .inr (3, [.ref (n2v 0), .ref q3v, .int 0, .int 0, .null]))] ++ (stW cI n2v N0 z0)) ++ [(q3v, .inl (cS, 6, .inr (.inr (.inr (.inr (va_up (va_up (fun _ => none) 0 (some (n5v 0))) 1 (some (n7v 0))))))))]) ++ (stW cI n5v N0 z0)) ++ (stW cI n7v N0 z0)) := hD
  refine lv_iinc (v := 2) (lv' := [(1, .int 2), (0, .ref o0)]) hx hb dX4_init_45 hl (k := 0) rfl (by decide) (by decide) rfl (fun ls hl => ?_)
  refine lv_goto (tgt := 26) hx hb dX4_init_48 (by decide) ?_
  refine lv_iload_n hx hb dX4_init_26 rfl (lv_at hl 0 rfl) ?_
  refine lv_bipush (v := 6) hx hb dX4_init_27 (by decide) ?_
  refine lv_icmp_ge (tgt := 51) hx hb dX4_init_29 (by decide) (fun h => absurd h (by decide)) (fun _ => ?_)
  refine lv_aload_n hx hb dX4_init_32 rfl (lv_at hl 1 rfl) ?_
  refine g4 hx hb hts hown hK hP 0 rfl 1 (by decide) flX4_16 (fun _ h => h) (v := .ref q3v) rfl dX4_init_33 ?_
  refine lv_iload_n hx hb dX4_init_36 rfl (lv_at hl 0 rfl) ?_
  refine va_new (ci := 2) (fs := [.int 0, .int 0, .int 0, .int 0, .int 0, .int 0, .null, .null, .null, .null, .null, .null, .null, .null, .null, .null, .null]) (C := RX3) (T := TX3) (N := 17) hx hb hts inlX3 tyX3 tyX3_ok hown (hts _ wd_classLink_RX4_7_RX3) (hts _ wd_instantiable_RX3_17) (hts _ wd_initialized_RX3) hK hP hD hS hA rfl (fun j hj => by rcases (show j = 0 ∨ j = 1 ∨ j = 2 ∨ j = 3 ∨ j = 4 ∨ j = 5 ∨ j = 6 ∨ j = 7 ∨ j = 8 ∨ j = 9 ∨ j = 10 ∨ j = 11 ∨ j = 12 ∨ j = 13 ∨ j = 14 ∨ j = 15 ∨ j = 16 by omega) with rfl | rfl | rfl | rfl | rfl | rfl | rfl | rfl | rfl | rfl | rfl | rfl | rfl | rfl | rfl | rfl | rfl <;> rfl) (Nat.le_of_ble_eq_true rfl) (Nat.le_of_ble_eq_true rfl) dX4_init_37 (fun q8v H hP hD hS => ?_)
  have hP : va_P D vwCl ((((([(o0, .inr (3, [.ref (n2v 0), .ref q3v, .int 0, .int 0, .null]))] ++ (stW cI n2v N0 z0)) ++ [(q3v, .inl (cS, 6, .inr (.inr (.inr (.inr (va_up (va_up (fun _ => none) 0 (some (n5v 0))) 1 (some (n7v 0))))))))]) ++ (stW cI n5v N0 z0)) ++ (stW cI n7v N0 z0)) ++ [(q8v, .inr (2, [.int 0, .int 0, .int 0, .int 0, .int 0, .int 0, .null, .null, .null, .null, .null, .null, .null, .null, .null, .null, .null]))]) H := hP
  have hD : va_D (va_A ([(o0, .inr (3, [.null, .null, .int 0, .int 0, .null]))]) s.heap.size) ((((([(o0, .inr (3, [.ref (n2v 0), .ref q3v, .int 0, .int 0, .null]))] ++ (stW cI n2v N0 z0)) ++ [(q3v, .inl (cS, 6, .inr (.inr (.inr (.inr (va_up (va_up (fun _ => none) 0 (some (n5v 0))) 1 (some (n7v 0))))))))]) ++ (stW cI n5v N0 z0)) ++ (stW cI n7v N0 z0)) ++ [(q8v, .inr (2, [.int 0, .int 0, .int 0, .int 0, .int 0, .int 0, .null, .null, .null, .null, .null, .null, .null, .null, .null, .null, .null]))]) := hD
  refine lv_dup hx hb dX4_init_40 rfl ?_
  refine k_initV (As := []) (rest := [.ref q8v, .int 2, .ref q3v]) (w1 := ((([(o0, .inr (3, [.ref (n2v 0), .ref q3v, .int 0, .int 0, .null]))] ++ (stW cI n2v N0 z0)) ++ [(q3v, .inl (cS, 6, .inr (.inr (.inr (.inr (va_up (va_up (fun _ => none) 0 (some (n5v 0))) 1 (some (n7v 0))))))))]) ++ (stW cI n5v N0 z0)) ++ (stW cI n7v N0 z0)) (wc := [(q8v, .inr (2, [.int 0, .int 0, .int 0, .int 0, .int 0, .int 0, .null, .null, .null, .null, .null, .null, .null, .null, .null, .null, .null]))]) ⟨hx, hb, hml, hown, hts⟩ (c_X3_init l D cI cS cL q8v _) lkX4_9 rfl rfl ⟨(Nat.le_of_ble_eq_true rfl), (Nat.le_of_ble_eq_true rfl)⟩ hK hE hP hD hS hA rfl hl.1 rfl (Nat.le_of_ble_eq_true rfl) dX4_init_41 ⟨(Nat.le_of_ble_eq_true rfl), (Nat.le_of_ble_eq_true rfl)⟩ (fun n9v H locs hu hPn9v hDn9v hSn9v => ?_)
  have hu : n9v 0 = q8v := hu
  subst hu
  have hP := hPn9v
  have hD := hDn9v
  have hS := hSn9v
  have hP : va_P D vwCl ((((([(o0, .inr (3, [.ref (n2v 0), .ref q3v, .int 0, .int 0, .null]))] ++ (stW cI n2v N0 z0)) ++ [(q3v, .inl (cS, 6, .inr (.inr (.inr (.inr (va_up (va_up (fun _ => none) 0 (some (n5v 0))) 1 (some (n7v 0))))))))]) ++ (stW cI n5v N0 z0)) ++ (stW cI n7v N0 z0)) ++ (stW cI n9v N0 z0)) H := hP
  have hD : va_D (va_A ([(o0, .inr (3, [.null, .null, .int 0, .int 0, .null]))]) s.heap.size) ((((([(o0, .inr (3, [.ref (n2v 0), .ref q3v, .int 0, .int 0, .null]))] ++ (stW cI n2v N0 z0)) ++ [(q3v, .inl (cS, 6, .inr (.inr (.inr (.inr (va_up (va_up (fun _ => none) 0 (some (n5v 0))) 1 (some (n7v 0))))))))]) ++ (stW cI n5v N0 z0)) ++ (stW cI n7v N0 z0)) ++ (stW cI n9v N0 z0)) := hD
  refine k_astm (k := 2) hx hb hK hP hD hS 13 rfl (List.mem_append_right _ (List.mem_append_left _ List.mem_cons_self)) rfl (by decide) (by decide) dX4_init_44 (fun H locs hP hD hS => ?_)
  have hP : va_P D vwCl ((((([(o0, .inr (3, [.ref (n2v 0), .ref q3v, .int 0, .int 0, .null]))] ++ (stW cI n2v N0 z0)) ++ [(q3v, .inl (cS, 6, .inr (.inr (.inr (.inr (va_up (va_up (va_up (fun _ => none) 0 (some (n5v 0))) 1 (some (n7v 0))) 2 (some (n9v 0))))))))]) ++ (stW cI n5v N0 z0)) ++ (stW cI n7v N0 z0)) ++ (stW cI n9v N0 z0)) H := hP
  have hD : va_D (va_A ([(o0, .inr (3, [.null, .null, .int 0, .int 0, .null]))]) s.heap.size) ((((([(o0, .inr (3, [.ref (n2v 0), .ref q3v, .int 0, .int 0, .null]))] ++ (stW cI n2v N0 z0)) ++ [(q3v, .inl (cS, 6, .inr (.inr (.inr (.inr (va_up (va_up (va_up (fun _ => none) 0 (some (n5v 0))) 1 (some (n7v 0))) 2 (some (n9v 0))))))))]) ++ (stW cI n5v N0 z0)) ++ (stW cI n7v N0 z0)) ++ (stW cI n9v N0 z0)) := hD
  refine lv_iinc (v := 3) (lv' := [(1, .int 3), (0, .ref o0)]) hx hb dX4_init_45 hl (k := 0) rfl (by decide) (by decide) rfl (fun ls hl => ?_)
  refine lv_goto (tgt := 26) hx hb dX4_init_48 (by decide) ?_
  refine lv_iload_n hx hb dX4_init_26 rfl (lv_at hl 0 rfl) ?_
  refine lv_bipush (v := 6) hx hb dX4_init_27 (by decide) ?_
  refine lv_icmp_ge (tgt := 51) hx hb dX4_init_29 (by decide) (fun h => absurd h (by decide)) (fun _ => ?_)
  refine lv_aload_n hx hb dX4_init_32 rfl (lv_at hl 1 rfl) ?_
  refine g4 hx hb hts hown hK hP 0 rfl 1 (by decide) flX4_16 (fun _ h => h) (v := .ref q3v) rfl dX4_init_33 ?_
  refine lv_iload_n hx hb dX4_init_36 rfl (lv_at hl 0 rfl) ?_
  refine va_new (ci := 2) (fs := [.int 0, .int 0, .int 0, .int 0, .int 0, .int 0, .null, .null, .null, .null, .null, .null, .null, .null, .null, .null, .null]) (C := RX3) (T := TX3) (N := 17) hx hb hts inlX3 tyX3 tyX3_ok hown (hts _ wd_classLink_RX4_7_RX3) (hts _ wd_instantiable_RX3_17) (hts _ wd_initialized_RX3) hK hP hD hS hA rfl (fun j hj => by rcases (show j = 0 ∨ j = 1 ∨ j = 2 ∨ j = 3 ∨ j = 4 ∨ j = 5 ∨ j = 6 ∨ j = 7 ∨ j = 8 ∨ j = 9 ∨ j = 10 ∨ j = 11 ∨ j = 12 ∨ j = 13 ∨ j = 14 ∨ j = 15 ∨ j = 16 by omega) with rfl | rfl | rfl | rfl | rfl | rfl | rfl | rfl | rfl | rfl | rfl | rfl | rfl | rfl | rfl | rfl | rfl <;> rfl) (Nat.le_of_ble_eq_true rfl) (Nat.le_of_ble_eq_true rfl) dX4_init_37 (fun q10v H hP hD hS => ?_)
  have hP : va_P D vwCl (((((([(o0, .inr (3, [.ref (n2v 0), .ref q3v, .int 0, .int 0, .null]))] ++ (stW cI n2v N0 z0)) ++ [(q3v, .inl (cS, 6, .inr (.inr (.inr (.inr (va_up (va_up (va_up (fun _ => none) 0 (some (n5v 0))) 1 (some (n7v 0))) 2 (some (n9v 0))))))))]) ++ (stW cI n5v N0 z0)) ++ (stW cI n7v N0 z0)) ++ (stW cI n9v N0 z0)) ++ [(q10v, .inr (2, [.int 0, .int 0, .int 0, .int 0, .int 0, .int 0, .null, .null, .null, .null, .null, .null, .null, .null, .null, .null, .null]))]) H := hP
  have hD : va_D (va_A ([(o0, .inr (3, [.null, .null, .int 0, .int 0, .null]))]) s.heap.size) (((((([(o0, .inr (3, [.ref (n2v 0), .ref q3v, .int 0, .int 0, .null]))] ++ (stW cI n2v N0 z0)) ++ [(q3v, .inl (cS, 6, .inr (.inr (.inr (.inr (va_up (va_up (va_up (fun _ => none) 0 (some (n5v 0))) 1 (some (n7v 0))) 2 (some (n9v 0))))))))]) ++ (stW cI n5v N0 z0)) ++ (stW cI n7v N0 z0)) ++ (stW cI n9v N0 z0)) ++ [(q10v, .inr (2, [.int 0, .int 0, .int 0, .int 0, .int 0, .int 0, .null, .null, .null, .null, .null, .null, .null, .null, .null, .null, .null]))]) := hD
  refine lv_dup hx hb dX4_init_40 rfl ?_
  refine k_initV (As := []) (rest := [.ref q10v, .int 3, .ref q3v]) (w1 := (((([(o0, .inr (3, [.ref (n2v 0), .ref q3v, .int 0, .int 0, .null]))] ++ (stW cI n2v N0 z0)) ++ [(q3v, .inl (cS, 6, .inr (.inr (.inr (.inr (va_up (va_up (va_up (fun _ => none) 0 (some (n5v 0))) 1 (some (n7v 0))) 2 (some (n9v 0))))))))]) ++ (stW cI n5v N0 z0)) ++ (stW cI n7v N0 z0)) ++ (stW cI n9v N0 z0)) (wc := [(q10v, .inr (2, [.int 0, .int 0, .int 0, .int 0, .int 0, .int 0, .null, .null, .null, .null, .null, .null, .null, .null, .null, .null, .null]))]) ⟨hx, hb, hml, hown, hts⟩ (c_X3_init l D cI cS cL q10v _) lkX4_9 rfl rfl ⟨(Nat.le_of_ble_eq_true rfl), (Nat.le_of_ble_eq_true rfl)⟩ hK hE hP hD hS hA rfl hl.1 rfl (Nat.le_of_ble_eq_true rfl) dX4_init_41 ⟨(Nat.le_of_ble_eq_true rfl), (Nat.le_of_ble_eq_true rfl)⟩ (fun n11v H locs hu hPn11v hDn11v hSn11v => ?_)
  have hu : n11v 0 = q10v := hu
  subst hu
  have hP := hPn11v
  have hD := hDn11v
  have hS := hSn11v
  have hP : va_P D vwCl (((((([(o0, .inr (3, [.ref (n2v 0), .ref q3v, .int 0, .int 0, .null]))] ++ (stW cI n2v N0 z0)) ++ [(q3v, .inl (cS, 6, .inr (.inr (.inr (.inr (va_up (va_up (va_up (fun _ => none) 0 (some (n5v 0))) 1 (some (n7v 0))) 2 (some (n9v 0))))))))]) ++ (stW cI n5v N0 z0)) ++ (stW cI n7v N0 z0)) ++ (stW cI n9v N0 z0)) ++ (stW cI n11v N0 z0)) H := hP
  have hD : va_D (va_A ([(o0, .inr (3, [.null, .null, .int 0, .int 0, .null]))]) s.heap.size) (((((([(o0, .inr (3, [.ref (n2v 0), .ref q3v, .int 0, .int 0, .null]))] ++ (stW cI n2v N0 z0)) ++ [(q3v, .inl (cS, 6, .inr (.inr (.inr (.inr (va_up (va_up (va_up (fun _ => none) 0 (some (n5v 0))) 1 (some (n7v 0))) 2 (some (n9v 0))))))))]) ++ (stW cI n5v N0 z0)) ++ (stW cI n7v N0 z0)) ++ (stW cI n9v N0 z0)) ++ (stW cI n11v N0 z0)) := hD
  refine k_astm (k := 3) hx hb hK hP hD hS 13 rfl (List.mem_append_right _ (List.mem_append_left _ List.mem_cons_self)) rfl (by decide) (by decide) dX4_init_44 (fun H locs hP hD hS => ?_)
  have hP : va_P D vwCl (((((([(o0, .inr (3, [.ref (n2v 0), .ref q3v, .int 0, .int 0, .null]))] ++ (stW cI n2v N0 z0)) ++ [(q3v, .inl (cS, 6, .inr (.inr (.inr (.inr (va_up (va_up (va_up (va_up (fun _ => none) 0 (some (n5v 0))) 1 (some (n7v 0))) 2 (some (n9v 0))) 3 (some (n11v 0))))))))]) ++ (stW cI n5v N0 z0)) ++ (stW cI n7v N0 z0)) ++ (stW cI n9v N0 z0)) ++ (stW cI n11v N0 z0)) H := hP
  have hD : va_D (va_A ([(o0, .inr (3, [.null, .null, .int 0, .int 0, .null]))]) s.heap.size) (((((([(o0, .inr (3, [.ref (n2v 0), .ref q3v, .int 0, .int 0, .null]))] ++ (stW cI n2v N0 z0)) ++ [(q3v, .inl (cS, 6, .inr (.inr (.inr (.inr (va_up (va_up (va_up (va_up (fun _ => none) 0 (some (n5v 0))) 1 (some (n7v 0))) 2 (some (n9v 0))) 3 (some (n11v 0))))))))]) ++ (stW cI n5v N0 z0)) ++ (stW cI n7v N0 z0)) ++ (stW cI n9v N0 z0)) ++ (stW cI n11v N0 z0)) := hD
  refine lv_iinc (v := 4) (lv' := [(1, .int 4), (0, .ref o0)]) hx hb dX4_init_45 hl (k := 0) rfl (by decide) (by decide) rfl (fun ls hl => ?_)
  refine lv_goto (tgt := 26) hx hb dX4_init_48 (by decide) ?_
  refine lv_iload_n hx hb dX4_init_26 rfl (lv_at hl 0 rfl) ?_
  refine lv_bipush (v := 6) hx hb dX4_init_27 (by decide) ?_
  refine lv_icmp_ge (tgt := 51) hx hb dX4_init_29 (by decide) (fun h => absurd h (by decide)) (fun _ => ?_)
  refine lv_aload_n hx hb dX4_init_32 rfl (lv_at hl 1 rfl) ?_
  refine g4 hx hb hts hown hK hP 0 rfl 1 (by decide) flX4_16 (fun _ h => h) (v := .ref q3v) rfl dX4_init_33 ?_
  refine lv_iload_n hx hb dX4_init_36 rfl (lv_at hl 0 rfl) ?_
  refine va_new (ci := 2) (fs := [.int 0, .int 0, .int 0, .int 0, .int 0, .int 0, .null, .null, .null, .null, .null, .null, .null, .null, .null, .null, .null]) (C := RX3) (T := TX3) (N := 17) hx hb hts inlX3 tyX3 tyX3_ok hown (hts _ wd_classLink_RX4_7_RX3) (hts _ wd_instantiable_RX3_17) (hts _ wd_initialized_RX3) hK hP hD hS hA rfl (fun j hj => by rcases (show j = 0 ∨ j = 1 ∨ j = 2 ∨ j = 3 ∨ j = 4 ∨ j = 5 ∨ j = 6 ∨ j = 7 ∨ j = 8 ∨ j = 9 ∨ j = 10 ∨ j = 11 ∨ j = 12 ∨ j = 13 ∨ j = 14 ∨ j = 15 ∨ j = 16 by omega) with rfl | rfl | rfl | rfl | rfl | rfl | rfl | rfl | rfl | rfl | rfl | rfl | rfl | rfl | rfl | rfl | rfl <;> rfl) (Nat.le_of_ble_eq_true rfl) (Nat.le_of_ble_eq_true rfl) dX4_init_37 (fun q12v H hP hD hS => ?_)
  have hP : va_P D vwCl ((((((([(o0, .inr (3, [.ref (n2v 0), .ref q3v, .int 0, .int 0, .null]))] ++ (stW cI n2v N0 z0)) ++ [(q3v, .inl (cS, 6, .inr (.inr (.inr (.inr (va_up (va_up (va_up (va_up (fun _ => none) 0 (some (n5v 0))) 1 (some (n7v 0))) 2 (some (n9v 0))) 3 (some (n11v 0))))))))]) ++ (stW cI n5v N0 z0)) ++ (stW cI n7v N0 z0)) ++ (stW cI n9v N0 z0)) ++ (stW cI n11v N0 z0)) ++ [(q12v, .inr (2, [.int 0, .int 0, .int 0, .int 0, .int 0, .int 0, .null, .null, .null, .null, .null, .null, .null, .null, .null, .null, .null]))]) H := hP
  have hD : va_D (va_A ([(o0, .inr (3, [.null, .null, .int 0, .int 0, .null]))]) s.heap.size) ((((((([(o0, .inr (3, [.ref (n2v 0), .ref q3v, .int 0, .int 0, .null]))] ++ (stW cI n2v N0 z0)) ++ [(q3v, .inl (cS, 6, .inr (.inr (.inr (.inr (va_up (va_up (va_up (va_up (fun _ => none) 0 (some (n5v 0))) 1 (some (n7v 0))) 2 (some (n9v 0))) 3 (some (n11v 0))))))))]) ++ (stW cI n5v N0 z0)) ++ (stW cI n7v N0 z0)) ++ (stW cI n9v N0 z0)) ++ (stW cI n11v N0 z0)) ++ [(q12v, .inr (2, [.int 0, .int 0, .int 0, .int 0, .int 0, .int 0, .null, .null, .null, .null, .null, .null, .null, .null, .null, .null, .null]))]) := hD
  refine lv_dup hx hb dX4_init_40 rfl ?_
  refine k_initV (As := []) (rest := [.ref q12v, .int 4, .ref q3v]) (w1 := ((((([(o0, .inr (3, [.ref (n2v 0), .ref q3v, .int 0, .int 0, .null]))] ++ (stW cI n2v N0 z0)) ++ [(q3v, .inl (cS, 6, .inr (.inr (.inr (.inr (va_up (va_up (va_up (va_up (fun _ => none) 0 (some (n5v 0))) 1 (some (n7v 0))) 2 (some (n9v 0))) 3 (some (n11v 0))))))))]) ++ (stW cI n5v N0 z0)) ++ (stW cI n7v N0 z0)) ++ (stW cI n9v N0 z0)) ++ (stW cI n11v N0 z0)) (wc := [(q12v, .inr (2, [.int 0, .int 0, .int 0, .int 0, .int 0, .int 0, .null, .null, .null, .null, .null, .null, .null, .null, .null, .null, .null]))]) ⟨hx, hb, hml, hown, hts⟩ (c_X3_init l D cI cS cL q12v _) lkX4_9 rfl rfl ⟨(Nat.le_of_ble_eq_true rfl), (Nat.le_of_ble_eq_true rfl)⟩ hK hE hP hD hS hA rfl hl.1 rfl (Nat.le_of_ble_eq_true rfl) dX4_init_41 ⟨(Nat.le_of_ble_eq_true rfl), (Nat.le_of_ble_eq_true rfl)⟩ (fun n13v H locs hu hPn13v hDn13v hSn13v => ?_)
  have hu : n13v 0 = q12v := hu
  subst hu
  have hP := hPn13v
  have hD := hDn13v
  have hS := hSn13v
  have hP : va_P D vwCl ((((((([(o0, .inr (3, [.ref (n2v 0), .ref q3v, .int 0, .int 0, .null]))] ++ (stW cI n2v N0 z0)) ++ [(q3v, .inl (cS, 6, .inr (.inr (.inr (.inr (va_up (va_up (va_up (va_up (fun _ => none) 0 (some (n5v 0))) 1 (some (n7v 0))) 2 (some (n9v 0))) 3 (some (n11v 0))))))))]) ++ (stW cI n5v N0 z0)) ++ (stW cI n7v N0 z0)) ++ (stW cI n9v N0 z0)) ++ (stW cI n11v N0 z0)) ++ (stW cI n13v N0 z0)) H := hP
  have hD : va_D (va_A ([(o0, .inr (3, [.null, .null, .int 0, .int 0, .null]))]) s.heap.size) ((((((([(o0, .inr (3, [.ref (n2v 0), .ref q3v, .int 0, .int 0, .null]))] ++ (stW cI n2v N0 z0)) ++ [(q3v, .inl (cS, 6, .inr (.inr (.inr (.inr (va_up (va_up (va_up (va_up (fun _ => none) 0 (some (n5v 0))) 1 (some (n7v 0))) 2 (some (n9v 0))) 3 (some (n11v 0))))))))]) ++ (stW cI n5v N0 z0)) ++ (stW cI n7v N0 z0)) ++ (stW cI n9v N0 z0)) ++ (stW cI n11v N0 z0)) ++ (stW cI n13v N0 z0)) := hD
  refine k_astm (k := 4) hx hb hK hP hD hS 13 rfl (List.mem_append_right _ (List.mem_append_left _ List.mem_cons_self)) rfl (by decide) (by decide) dX4_init_44 (fun H locs hP hD hS => ?_)
  have hP : va_P D vwCl ((((((([(o0, .inr (3, [.ref (n2v 0), .ref q3v, .int 0, .int 0, .null]))] ++ (stW cI n2v N0 z0)) ++ [(q3v, .inl (cS, 6, .inr (.inr (.inr (.inr (va_up (va_up (va_up (va_up (va_up (fun _ => none) 0 (some (n5v 0))) 1 (some (n7v 0))) 2 (some (n9v 0))) 3 (some (n11v 0))) 4 (some (n13v 0))))))))]) ++ (stW cI n5v N0 z0)) ++ (stW cI n7v N0 z0)) ++ (stW cI n9v N0 z0)) ++ (stW cI n11v N0 z0)) ++ (stW cI n13v N0 z0)) H := hP
  have hD : va_D (va_A ([(o0, .inr (3, [.null, .null, .int 0, .int 0, .null]))]) s.heap.size) ((((((([(o0, .inr (3, [.ref (n2v 0), .ref q3v, .int 0, .int 0, .null]))] ++ (stW cI n2v N0 z0)) ++ [(q3v, .inl (cS, 6, .inr (.inr (.inr (.inr (va_up (va_up (va_up (va_up (va_up (fun _ => none) 0 (some (n5v 0))) 1 (some (n7v 0))) 2 (some (n9v 0))) 3 (some (n11v 0))) 4 (some (n13v 0))))))))]) ++ (stW cI n5v N0 z0)) ++ (stW cI n7v N0 z0)) ++ (stW cI n9v N0 z0)) ++ (stW cI n11v N0 z0)) ++ (stW cI n13v N0 z0)) := hD
  refine lv_iinc (v := 5) (lv' := [(1, .int 5), (0, .ref o0)]) hx hb dX4_init_45 hl (k := 0) rfl (by decide) (by decide) rfl (fun ls hl => ?_)
  refine lv_goto (tgt := 26) hx hb dX4_init_48 (by decide) ?_
  refine lv_iload_n hx hb dX4_init_26 rfl (lv_at hl 0 rfl) ?_
  refine lv_bipush (v := 6) hx hb dX4_init_27 (by decide) ?_
  refine lv_icmp_ge (tgt := 51) hx hb dX4_init_29 (by decide) (fun h => absurd h (by decide)) (fun _ => ?_)
  refine lv_aload_n hx hb dX4_init_32 rfl (lv_at hl 1 rfl) ?_
  refine g4 hx hb hts hown hK hP 0 rfl 1 (by decide) flX4_16 (fun _ h => h) (v := .ref q3v) rfl dX4_init_33 ?_
  refine lv_iload_n hx hb dX4_init_36 rfl (lv_at hl 0 rfl) ?_
  refine va_new (ci := 2) (fs := [.int 0, .int 0, .int 0, .int 0, .int 0, .int 0, .null, .null, .null, .null, .null, .null, .null, .null, .null, .null, .null]) (C := RX3) (T := TX3) (N := 17) hx hb hts inlX3 tyX3 tyX3_ok hown (hts _ wd_classLink_RX4_7_RX3) (hts _ wd_instantiable_RX3_17) (hts _ wd_initialized_RX3) hK hP hD hS hA rfl (fun j hj => by rcases (show j = 0 ∨ j = 1 ∨ j = 2 ∨ j = 3 ∨ j = 4 ∨ j = 5 ∨ j = 6 ∨ j = 7 ∨ j = 8 ∨ j = 9 ∨ j = 10 ∨ j = 11 ∨ j = 12 ∨ j = 13 ∨ j = 14 ∨ j = 15 ∨ j = 16 by omega) with rfl | rfl | rfl | rfl | rfl | rfl | rfl | rfl | rfl | rfl | rfl | rfl | rfl | rfl | rfl | rfl | rfl <;> rfl) (Nat.le_of_ble_eq_true rfl) (Nat.le_of_ble_eq_true rfl) dX4_init_37 (fun q14v H hP hD hS => ?_)
  have hP : va_P D vwCl (((((((([(o0, .inr (3, [.ref (n2v 0), .ref q3v, .int 0, .int 0, .null]))] ++ (stW cI n2v N0 z0)) ++ [(q3v, .inl (cS, 6, .inr (.inr (.inr (.inr (va_up (va_up (va_up (va_up (va_up (fun _ => none) 0 (some (n5v 0))) 1 (some (n7v 0))) 2 (some (n9v 0))) 3 (some (n11v 0))) 4 (some (n13v 0))))))))]) ++ (stW cI n5v N0 z0)) ++ (stW cI n7v N0 z0)) ++ (stW cI n9v N0 z0)) ++ (stW cI n11v N0 z0)) ++ (stW cI n13v N0 z0)) ++ [(q14v, .inr (2, [.int 0, .int 0, .int 0, .int 0, .int 0, .int 0, .null, .null, .null, .null, .null, .null, .null, .null, .null, .null, .null]))]) H := hP
  have hD : va_D (va_A ([(o0, .inr (3, [.null, .null, .int 0, .int 0, .null]))]) s.heap.size) (((((((([(o0, .inr (3, [.ref (n2v 0), .ref q3v, .int 0, .int 0, .null]))] ++ (stW cI n2v N0 z0)) ++ [(q3v, .inl (cS, 6, .inr (.inr (.inr (.inr (va_up (va_up (va_up (va_up (va_up (fun _ => none) 0 (some (n5v 0))) 1 (some (n7v 0))) 2 (some (n9v 0))) 3 (some (n11v 0))) 4 (some (n13v 0))))))))]) ++ (stW cI n5v N0 z0)) ++ (stW cI n7v N0 z0)) ++ (stW cI n9v N0 z0)) ++ (stW cI n11v N0 z0)) ++ (stW cI n13v N0 z0)) ++ [(q14v, .inr (2, [.int 0, .int 0, .int 0, .int 0, .int 0, .int 0, .null, .null, .null, .null, .null, .null, .null, .null, .null, .null, .null]))]) := hD
  refine lv_dup hx hb dX4_init_40 rfl ?_
  refine k_initV (As := []) (rest := [.ref q14v, .int 5, .ref q3v]) (w1 := (((((([(o0, .inr (3, [.ref (n2v 0), .ref q3v, .int 0, .int 0, .null]))] ++ (stW cI n2v N0 z0)) ++ [(q3v, .inl (cS, 6, .inr (.inr (.inr (.inr (va_up (va_up (va_up (va_up (va_up (fun _ => none) 0 (some (n5v 0))) 1 (some (n7v 0))) 2 (some (n9v 0))) 3 (some (n11v 0))) 4 (some (n13v 0))))))))]) ++ (stW cI n5v N0 z0)) ++ (stW cI n7v N0 z0)) ++ (stW cI n9v N0 z0)) ++ (stW cI n11v N0 z0)) ++ (stW cI n13v N0 z0)) (wc := [(q14v, .inr (2, [.int 0, .int 0, .int 0, .int 0, .int 0, .int 0, .null, .null, .null, .null, .null, .null, .null, .null, .null, .null, .null]))]) ⟨hx, hb, hml, hown, hts⟩ (c_X3_init l D cI cS cL q14v _) lkX4_9 rfl rfl ⟨(Nat.le_of_ble_eq_true rfl), (Nat.le_of_ble_eq_true rfl)⟩ hK hE hP hD hS hA rfl hl.1 rfl (Nat.le_of_ble_eq_true rfl) dX4_init_41 ⟨(Nat.le_of_ble_eq_true rfl), (Nat.le_of_ble_eq_true rfl)⟩ (fun n15v H locs hu hPn15v hDn15v hSn15v => ?_)
  have hu : n15v 0 = q14v := hu
  subst hu
  have hP := hPn15v
  have hD := hDn15v
  have hS := hSn15v
  have hP : va_P D vwCl (((((((([(o0, .inr (3, [.ref (n2v 0), .ref q3v, .int 0, .int 0, .null]))] ++ (stW cI n2v N0 z0)) ++ [(q3v, .inl (cS, 6, .inr (.inr (.inr (.inr (va_up (va_up (va_up (va_up (va_up (fun _ => none) 0 (some (n5v 0))) 1 (some (n7v 0))) 2 (some (n9v 0))) 3 (some (n11v 0))) 4 (some (n13v 0))))))))]) ++ (stW cI n5v N0 z0)) ++ (stW cI n7v N0 z0)) ++ (stW cI n9v N0 z0)) ++ (stW cI n11v N0 z0)) ++ (stW cI n13v N0 z0)) ++ (stW cI n15v N0 z0)) H := hP
  have hD : va_D (va_A ([(o0, .inr (3, [.null, .null, .int 0, .int 0, .null]))]) s.heap.size) (((((((([(o0, .inr (3, [.ref (n2v 0), .ref q3v, .int 0, .int 0, .null]))] ++ (stW cI n2v N0 z0)) ++ [(q3v, .inl (cS, 6, .inr (.inr (.inr (.inr (va_up (va_up (va_up (va_up (va_up (fun _ => none) 0 (some (n5v 0))) 1 (some (n7v 0))) 2 (some (n9v 0))) 3 (some (n11v 0))) 4 (some (n13v 0))))))))]) ++ (stW cI n5v N0 z0)) ++ (stW cI n7v N0 z0)) ++ (stW cI n9v N0 z0)) ++ (stW cI n11v N0 z0)) ++ (stW cI n13v N0 z0)) ++ (stW cI n15v N0 z0)) := hD
  refine k_astm (k := 5) hx hb hK hP hD hS 13 rfl (List.mem_append_right _ (List.mem_append_left _ List.mem_cons_self)) rfl (by decide) (by decide) dX4_init_44 (fun H locs hP hD hS => ?_)
  have hfg : ∀ j, j < 6 → (va_up (va_up (va_up (va_up (va_up (va_up (fun _ => none) 0 (some (n5v 0))) 1 (some (n7v 0))) 2 (some (n9v 0))) 3 (some (n11v 0))) 4 (some (n13v 0))) 5 (some (n15v 0))) j = (fun i => some ((fun j => ([n5v, n7v, n9v, n11v, n13v, n15v] : List (Nat → Nat)).getD j n5v) i 0) : Nat → Option Nat) j := by
    intro j hj
    rcases (show j = 0 ∨ j = 1 ∨ j = 2 ∨ j = 3 ∨ j = 4 ∨ j = 5 by omega) with rfl | rfl | rfl | rfl | rfl | rfl <;> rfl
  have hP := va_P_setc (vp_cell_6 cS _ _ hfg) hP
  have hD := va_D_setc (y := .inl (cS, 6, .inr (.inr (.inr (.inr (fun i => some ((fun j => ([n5v, n7v, n9v, n11v, n13v, n15v] : List (Nat → Nat)).getD j n5v) i 0))))))) hD
  have hP : va_P D vwCl (((((((([(o0, .inr (3, [.ref (n2v 0), .ref q3v, .int 0, .int 0, .null]))] ++ (stW cI n2v N0 z0)) ++ [(q3v, .inl (cS, 6, .inr (.inr (.inr (.inr (fun i => some ((fun j => ([n5v, n7v, n9v, n11v, n13v, n15v] : List (Nat → Nat)).getD j n5v) i 0)))))))]) ++ (stW cI n5v N0 z0)) ++ (stW cI n7v N0 z0)) ++ (stW cI n9v N0 z0)) ++ (stW cI n11v N0 z0)) ++ (stW cI n13v N0 z0)) ++ (stW cI n15v N0 z0)) H := hP
  have hD : va_D (va_A ([(o0, .inr (3, [.null, .null, .int 0, .int 0, .null]))]) s.heap.size) (((((((([(o0, .inr (3, [.ref (n2v 0), .ref q3v, .int 0, .int 0, .null]))] ++ (stW cI n2v N0 z0)) ++ [(q3v, .inl (cS, 6, .inr (.inr (.inr (.inr (fun i => some ((fun j => ([n5v, n7v, n9v, n11v, n13v, n15v] : List (Nat → Nat)).getD j n5v) i 0)))))))]) ++ (stW cI n5v N0 z0)) ++ (stW cI n7v N0 z0)) ++ (stW cI n9v N0 z0)) ++ (stW cI n11v N0 z0)) ++ (stW cI n13v N0 z0)) ++ (stW cI n15v N0 z0)) := hD
  refine lv_iinc (v := 6) (lv' := [(1, .int 6), (0, .ref o0)]) hx hb dX4_init_45 hl (k := 0) rfl (by decide) (by decide) rfl (fun ls hl => ?_)
  refine lv_goto (tgt := 26) hx hb dX4_init_48 (by decide) ?_
  refine lv_iload_n hx hb dX4_init_26 rfl (lv_at hl 0 rfl) ?_
  refine lv_bipush (v := 6) hx hb dX4_init_27 (by decide) ?_
  refine lv_icmp_ge (tgt := 51) hx hb dX4_init_29 (by decide) (fun _ => ?_) (fun h => absurd (by decide) h)
  refine lv_aload_n hx hb dX4_init_51 rfl (lv_at hl 1 rfl) ?_
  refine lv_iconst (v := 0) hx hb dX4_init_52 (by decide) ?_
  refine f4 hx hb hts hown hK hP hD hS 0 rfl 2 (by decide) flX4_20 (fun _ h => h) rfl rfl rfl (Nat.le_of_ble_eq_true rfl) dX4_init_53 (fun H locs hP hD hS => ?_)
  have hP : va_P D vwCl (((((((([(o0, .inr (3, [.ref (n2v 0), .ref q3v, .int 0, .int 0, .null]))] ++ (stW cI n2v N0 z0)) ++ [(q3v, .inl (cS, 6, .inr (.inr (.inr (.inr (fun i => some ((fun j => ([n5v, n7v, n9v, n11v, n13v, n15v] : List (Nat → Nat)).getD j n5v) i 0)))))))]) ++ (stW cI n5v N0 z0)) ++ (stW cI n7v N0 z0)) ++ (stW cI n9v N0 z0)) ++ (stW cI n11v N0 z0)) ++ (stW cI n13v N0 z0)) ++ (stW cI n15v N0 z0)) H := hP
  have hD : va_D (va_A ([(o0, .inr (3, [.null, .null, .int 0, .int 0, .null]))]) s.heap.size) (((((((([(o0, .inr (3, [.ref (n2v 0), .ref q3v, .int 0, .int 0, .null]))] ++ (stW cI n2v N0 z0)) ++ [(q3v, .inl (cS, 6, .inr (.inr (.inr (.inr (fun i => some ((fun j => ([n5v, n7v, n9v, n11v, n13v, n15v] : List (Nat → Nat)).getD j n5v) i 0)))))))]) ++ (stW cI n5v N0 z0)) ++ (stW cI n7v N0 z0)) ++ (stW cI n9v N0 z0)) ++ (stW cI n11v N0 z0)) ++ (stW cI n13v N0 z0)) ++ (stW cI n15v N0 z0)) := hD
  refine lv_aload_n hx hb dX4_init_56 rfl (lv_at hl 1 rfl) ?_
  refine lv_iconst (v := 0) hx hb dX4_init_57 (by decide) ?_
  refine f4 hx hb hts hown hK hP hD hS 0 rfl 3 (by decide) flX4_24 (fun _ h => h) rfl rfl rfl (Nat.le_of_ble_eq_true rfl) dX4_init_58 (fun H locs hP hD hS => ?_)
  have hP : va_P D vwCl (((((((([(o0, .inr (3, [.ref (n2v 0), .ref q3v, .int 0, .int 0, .null]))] ++ (stW cI n2v N0 z0)) ++ [(q3v, .inl (cS, 6, .inr (.inr (.inr (.inr (fun i => some ((fun j => ([n5v, n7v, n9v, n11v, n13v, n15v] : List (Nat → Nat)).getD j n5v) i 0)))))))]) ++ (stW cI n5v N0 z0)) ++ (stW cI n7v N0 z0)) ++ (stW cI n9v N0 z0)) ++ (stW cI n11v N0 z0)) ++ (stW cI n13v N0 z0)) ++ (stW cI n15v N0 z0)) H := hP
  have hD : va_D (va_A ([(o0, .inr (3, [.null, .null, .int 0, .int 0, .null]))]) s.heap.size) (((((((([(o0, .inr (3, [.ref (n2v 0), .ref q3v, .int 0, .int 0, .null]))] ++ (stW cI n2v N0 z0)) ++ [(q3v, .inl (cS, 6, .inr (.inr (.inr (.inr (fun i => some ((fun j => ([n5v, n7v, n9v, n11v, n13v, n15v] : List (Nat → Nat)).getD j n5v) i 0)))))))]) ++ (stW cI n5v N0 z0)) ++ (stW cI n7v N0 z0)) ++ (stW cI n9v N0 z0)) ++ (stW cI n11v N0 z0)) ++ (stW cI n13v N0 z0)) ++ (stW cI n15v N0 z0)) := hD
  refine lv_aload_n hx hb dX4_init_61 rfl (lv_at hl 1 rfl) ?_
  refine va_new (ci := 0) (fs := [.null, .int 0]) (C := RX0) (T := TX0) (N := 2) hx hb hts inlX0 tyX0 tyX0_ok hown (hts _ wd_classLink_RX4_27_RX0) (hts _ wd_instantiable_RX0_2) (hts _ wd_initialized_RX0) hK hP hD hS hA rfl (fun j hj => by rcases (show j = 0 ∨ j = 1 by omega) with rfl | rfl <;> rfl) (Nat.le_of_ble_eq_true rfl) (Nat.le_of_ble_eq_true rfl) dX4_init_62 (fun q16v H hP hD hS => ?_)
  have hP : va_P D vwCl ((((((((([(o0, .inr (3, [.ref (n2v 0), .ref q3v, .int 0, .int 0, .null]))] ++ (stW cI n2v N0 z0)) ++ [(q3v, .inl (cS, 6, .inr (.inr (.inr (.inr (fun i => some ((fun j => ([n5v, n7v, n9v, n11v, n13v, n15v] : List (Nat → Nat)).getD j n5v) i 0)))))))]) ++ (stW cI n5v N0 z0)) ++ (stW cI n7v N0 z0)) ++ (stW cI n9v N0 z0)) ++ (stW cI n11v N0 z0)) ++ (stW cI n13v N0 z0)) ++ (stW cI n15v N0 z0)) ++ [(q16v, .inr (0, [.null, .int 0]))]) H := hP
  have hD : va_D (va_A ([(o0, .inr (3, [.null, .null, .int 0, .int 0, .null]))]) s.heap.size) ((((((((([(o0, .inr (3, [.ref (n2v 0), .ref q3v, .int 0, .int 0, .null]))] ++ (stW cI n2v N0 z0)) ++ [(q3v, .inl (cS, 6, .inr (.inr (.inr (.inr (fun i => some ((fun j => ([n5v, n7v, n9v, n11v, n13v, n15v] : List (Nat → Nat)).getD j n5v) i 0)))))))]) ++ (stW cI n5v N0 z0)) ++ (stW cI n7v N0 z0)) ++ (stW cI n9v N0 z0)) ++ (stW cI n11v N0 z0)) ++ (stW cI n13v N0 z0)) ++ (stW cI n15v N0 z0)) ++ [(q16v, .inr (0, [.null, .int 0]))]) := hD
  refine lv_dup hx hb dX4_init_65 rfl ?_
  refine k_initV (As := []) (rest := [.ref q16v, .ref o0]) (w1 := ((((((([(o0, .inr (3, [.ref (n2v 0), .ref q3v, .int 0, .int 0, .null]))] ++ (stW cI n2v N0 z0)) ++ [(q3v, .inl (cS, 6, .inr (.inr (.inr (.inr (fun i => some ((fun j => ([n5v, n7v, n9v, n11v, n13v, n15v] : List (Nat → Nat)).getD j n5v) i 0)))))))]) ++ (stW cI n5v N0 z0)) ++ (stW cI n7v N0 z0)) ++ (stW cI n9v N0 z0)) ++ (stW cI n11v N0 z0)) ++ (stW cI n13v N0 z0)) ++ (stW cI n15v N0 z0)) (wc := [(q16v, .inr (0, [.null, .int 0]))]) ⟨hx, hb, hml, hown, hts⟩ (c_X0_init l D cI cS cL q16v _) lkX4_29 rfl rfl ⟨(Nat.le_of_ble_eq_true rfl), (Nat.le_of_ble_eq_true rfl)⟩ hK hE hP hD hS hA rfl hl.1 rfl (Nat.le_of_ble_eq_true rfl) dX4_init_66 ⟨(Nat.le_of_ble_eq_true rfl), (Nat.le_of_ble_eq_true rfl)⟩ (fun t17v H locs hu hP hD hS => ?_)
  have hP : va_P D vwCl ((((((((([(o0, .inr (3, [.ref (n2v 0), .ref q3v, .int 0, .int 0, .null]))] ++ (stW cI n2v N0 z0)) ++ [(q3v, .inl (cS, 6, .inr (.inr (.inr (.inr (fun i => some ((fun j => ([n5v, n7v, n9v, n11v, n13v, n15v] : List (Nat → Nat)).getD j n5v) i 0)))))))]) ++ (stW cI n5v N0 z0)) ++ (stW cI n7v N0 z0)) ++ (stW cI n9v N0 z0)) ++ (stW cI n11v N0 z0)) ++ (stW cI n13v N0 z0)) ++ (stW cI n15v N0 z0)) ++ [(q16v, .inr (0, [.ref t17v, .int 0])), (t17v, .inl (cI, 60, .inl z0))]) H := hP
  have hD : va_D (va_A ([(o0, .inr (3, [.null, .null, .int 0, .int 0, .null]))]) s.heap.size) ((((((((([(o0, .inr (3, [.ref (n2v 0), .ref q3v, .int 0, .int 0, .null]))] ++ (stW cI n2v N0 z0)) ++ [(q3v, .inl (cS, 6, .inr (.inr (.inr (.inr (fun i => some ((fun j => ([n5v, n7v, n9v, n11v, n13v, n15v] : List (Nat → Nat)).getD j n5v) i 0)))))))]) ++ (stW cI n5v N0 z0)) ++ (stW cI n7v N0 z0)) ++ (stW cI n9v N0 z0)) ++ (stW cI n11v N0 z0)) ++ (stW cI n13v N0 z0)) ++ (stW cI n15v N0 z0)) ++ [(q16v, .inr (0, [.ref t17v, .int 0])), (t17v, .inl (cI, 60, .inl z0))]) := hD
  refine Fp4 hx hb hts hown hK hP hD hS 0 rfl 4 (by decide) flX4_30 (fun _ h => h) rfl hnm rfl rfl rfl (Nat.le_of_ble_eq_true rfl) dX4_init_69 (fun H locs hP hD hS => ?_)
  have hP : va_P D vwCl ((((((((([(o0, .inr (3, [.ref (n2v 0), .ref q3v, .int 0, .int 0, .ref q16v]))] ++ (stW cI n2v N0 z0)) ++ [(q3v, .inl (cS, 6, .inr (.inr (.inr (.inr (fun i => some ((fun j => ([n5v, n7v, n9v, n11v, n13v, n15v] : List (Nat → Nat)).getD j n5v) i 0)))))))]) ++ (stW cI n5v N0 z0)) ++ (stW cI n7v N0 z0)) ++ (stW cI n9v N0 z0)) ++ (stW cI n11v N0 z0)) ++ (stW cI n13v N0 z0)) ++ (stW cI n15v N0 z0)) ++ [(q16v, .inr (0, [.ref t17v, .int 0])), (t17v, .inl (cI, 60, .inl z0))]) H := hP
  have hD : va_D (va_A ([(o0, .inr (3, [.null, .null, .int 0, .int 0, .null]))]) s.heap.size) ((((((((([(o0, .inr (3, [.ref (n2v 0), .ref q3v, .int 0, .int 0, .ref q16v]))] ++ (stW cI n2v N0 z0)) ++ [(q3v, .inl (cS, 6, .inr (.inr (.inr (.inr (fun i => some ((fun j => ([n5v, n7v, n9v, n11v, n13v, n15v] : List (Nat → Nat)).getD j n5v) i 0)))))))]) ++ (stW cI n5v N0 z0)) ++ (stW cI n7v N0 z0)) ++ (stW cI n9v N0 z0)) ++ (stW cI n11v N0 z0)) ++ (stW cI n13v N0 z0)) ++ (stW cI n15v N0 z0)) ++ [(q16v, .inr (0, [.ref t17v, .int 0])), (t17v, .inl (cI, 60, .inl z0))]) := hD
  have hP := va_P_perm (pm_ctor _ _ _ _ _ _ _ _ _ _) hP
  have hD := va_D_perm (pm_ctor _ _ _ _ _ _ _ _ _ _) hD
  have hP : va_P D vwCl ((fun u : (Nat → Nat) × (Nat → Nat) × (Nat → Nat → Nat) => xH cS u.1 u.2.1 u.2.2 0 0 ++ (txW cI u.1 0 z0 ++ (stW cI u.2.1 N0 z0 ++ rgW cI u.2.2 (fun _ => N0) (fun _ => z0)))) ((fun j => ([o0, q3v, q16v, t17v] : List Nat).getD j 0, n2v, fun j => ([n5v, n7v, n9v, n11v, n13v, n15v] : List (Nat → Nat)).getD j n5v))) H := hP
  have hD : va_D (va_A ([(o0, .inr (3, [.null, .null, .int 0, .int 0, .null]))]) s.heap.size) ((fun u : (Nat → Nat) × (Nat → Nat) × (Nat → Nat → Nat) => xH cS u.1 u.2.1 u.2.2 0 0 ++ (txW cI u.1 0 z0 ++ (stW cI u.2.1 N0 z0 ++ rgW cI u.2.2 (fun _ => N0) (fun _ => z0)))) ((fun j => ([o0, q3v, q16v, t17v] : List Nat).getD j 0, n2v, fun j => ([n5v, n7v, n9v, n11v, n13v, n15v] : List (Nat → Nat)).getD j n5v))) := hD
  exact k_eNv (q := fun u : (Nat → Nat) × (Nat → Nat) × (Nat → Nat → Nat) => u.1 0 = o0) (Wf := fun u => xH cS u.1 u.2.1 u.2.2 0 0 ++ (txW cI u.1 0 z0 ++ (stW cI u.2.1 N0 z0 ++ rgW cI u.2.2 (fun _ => N0) (fun _ => z0)))) ((fun j => ([o0, q3v, q16v, t17v] : List Nat).getD j 0, n2v, fun j => ([n5v, n7v, n9v, n11v, n13v, n15v] : List (Nat → Nat)).getD j n5v)) hx hb hr hlocks (Nat.le_of_ble_eq_true rfl) (Nat.le_of_ble_eq_true rfl) rfl hP hD hS dX4_init_72

abbrev rmX5_init : Room := { frames := 1, cells := 4, slots := 976, locals := 12 }
set_option maxHeartbeats 4000000 in
set_option maxRecDepth 100000 in
theorem c_X5_init (l : Launch) (D : va_G) (cI cS cL : ClassId) (o0 : Nat) (sz : Nat) : Met l yX5_init (wy_ yX5_init cX5_init 2 none) rmX5_init (kPc D (kTy cI cS cL) ([(o0, .inr (4, [.null, .null, .int 0, .null, .int 0, .int 0, .int 0, .int 0, .null, .int 0, .int 0, .int 0, .int 0, .int 0]))]) sz [.ref o0]) (kNv D ([(o0, .inr (4, [.null, .null, .int 0, .null, .int 0, .int 0, .int 0, .int 0, .null, .int 0, .int 0, .int 0, .int 0, .int 0]))]) sz (fun u : Nat → Nat => u 0 = o0) (fun u => mdW cI u N0 z0 z0 z0 z0)) 4 976 (va_A ([(o0, .inr (4, [.null, .null, .int 0, .null, .int 0, .int 0, .int 0, .int 0, .null, .int 0, .int 0, .int 0, .int 0, .int 0]))]) sz) := by
  refine k_ofW (by decide) (Nat.le_of_ble_eq_true rfl) ?_
  intro p e s m args below meth c hx hb hr hml hts hown hlocks hnm hsz hP hK hD hE ls hl
  subst hsz
  have hA : ∀ q : Nat, s.heap.size ≤ q → (va_A ([(o0, .inr (4, [.null, .null, .int 0, .null, .int 0, .int 0, .int 0, .int 0, .null, .int 0, .int 0, .int 0, .int 0, .int 0]))]) s.heap.size) q := fun q h => Or.inr h
  have hS : va_S (va_A ([(o0, .inr (4, [.null, .null, .int 0, .null, .int 0, .int 0, .int 0, .int 0, .null, .int 0, .int 0, .int 0, .int 0, .int 0]))]) s.heap.size) s.heap s.heap [] := va_S.rf
  have hl : lv_has ls 2 [(0, .ref o0)] := hl
  refine lv_aload_n hx hb dX5_init_0 rfl (lv_at hl 0 rfl) ?_
  refine k_objI hx hb hts hown wd_methodLink_RX5_1_objectInit (hl.1.trans hml.symm) dX5_init_1 ⟨(Nat.le_of_ble_eq_true rfl), (Nat.le_of_ble_eq_true rfl)⟩ ?_
  refine lv_aload_n hx hb dX5_init_4 rfl (lv_at hl 0 rfl) ?_
  refine lv_bipush (v := 124) hx hb dX5_init_5 (by decide) ?_
  refine k_newI (k := 124) (N' := 124) hx hb hts hK hP hD hS hA (by decide) (by decide) (by decide) (Nat.le_of_ble_eq_true rfl) (Nat.le_of_ble_eq_true rfl) dX5_init_7 (fun q1v H hP hD hS => ?_)
  have hP : va_P D vwCl ([(o0, .inr (4, [.null, .null, .int 0, .null, .int 0, .int 0, .int 0, .int 0, .null, .int 0, .int 0, .int 0, .int 0, .int 0]))] ++ [(q1v, .inl (cI, 124, .inl z0))]) H := hP
  have hD : va_D (va_A ([(o0, .inr (4, [.null, .null, .int 0, .null, .int 0, .int 0, .int 0, .int 0, .null, .int 0, .int 0, .int 0, .int 0, .int 0]))]) s.heap.size) ([(o0, .inr (4, [.null, .null, .int 0, .null, .int 0, .int 0, .int 0, .int 0, .null, .int 0, .int 0, .int 0, .int 0, .int 0]))] ++ [(q1v, .inl (cI, 124, .inl z0))]) := hD
  refine Fp5 hx hb hts hown hK hP hD hS 0 rfl 0 (by decide) flX5_7 (fun _ h => h) rfl hnm rfl rfl rfl (Nat.le_of_ble_eq_true rfl) dX5_init_9 (fun H locs hP hD hS => ?_)
  have hP : va_P D vwCl ([(o0, .inr (4, [.ref q1v, .null, .int 0, .null, .int 0, .int 0, .int 0, .int 0, .null, .int 0, .int 0, .int 0, .int 0, .int 0]))] ++ [(q1v, .inl (cI, 124, .inl z0))]) H := hP
  have hD : va_D (va_A ([(o0, .inr (4, [.null, .null, .int 0, .null, .int 0, .int 0, .int 0, .int 0, .null, .int 0, .int 0, .int 0, .int 0, .int 0]))]) s.heap.size) ([(o0, .inr (4, [.ref q1v, .null, .int 0, .null, .int 0, .int 0, .int 0, .int 0, .null, .int 0, .int 0, .int 0, .int 0, .int 0]))] ++ [(q1v, .inl (cI, 124, .inl z0))]) := hD
  refine lv_aload_n hx hb dX5_init_12 rfl (lv_at hl 0 rfl) ?_
  refine lv_sipush (v := 744) hx hb dX5_init_13 (by decide) ?_
  refine k_newI (k := 744) (N' := 744) hx hb hts hK hP hD hS hA (by decide) (by decide) (by decide) (Nat.le_of_ble_eq_true rfl) (Nat.le_of_ble_eq_true rfl) dX5_init_16 (fun q2v H hP hD hS => ?_)
  have hP : va_P D vwCl (([(o0, .inr (4, [.ref q1v, .null, .int 0, .null, .int 0, .int 0, .int 0, .int 0, .null, .int 0, .int 0, .int 0, .int 0, .int 0]))] ++ [(q1v, .inl (cI, 124, .inl z0))]) ++ [(q2v, .inl (cI, 744, .inl z0))]) H := hP
  have hD : va_D (va_A ([(o0, .inr (4, [.null, .null, .int 0, .null, .int 0, .int 0, .int 0, .int 0, .null, .int 0, .int 0, .int 0, .int 0, .int 0]))]) s.heap.size) (([(o0, .inr (4, [.ref q1v, .null, .int 0, .null, .int 0, .int 0, .int 0, .int 0, .null, .int 0, .int 0, .int 0, .int 0, .int 0]))] ++ [(q1v, .inl (cI, 124, .inl z0))]) ++ [(q2v, .inl (cI, 744, .inl z0))]) := hD
  refine Fp5 hx hb hts hown hK hP hD hS 0 rfl 1 (by decide) flX5_13 (fun _ h => h) rfl hnm rfl rfl rfl (Nat.le_of_ble_eq_true rfl) dX5_init_18 (fun H locs hP hD hS => ?_)
  have hP : va_P D vwCl (([(o0, .inr (4, [.ref q1v, .ref q2v, .int 0, .null, .int 0, .int 0, .int 0, .int 0, .null, .int 0, .int 0, .int 0, .int 0, .int 0]))] ++ [(q1v, .inl (cI, 124, .inl z0))]) ++ [(q2v, .inl (cI, 744, .inl z0))]) H := hP
  have hD : va_D (va_A ([(o0, .inr (4, [.null, .null, .int 0, .null, .int 0, .int 0, .int 0, .int 0, .null, .int 0, .int 0, .int 0, .int 0, .int 0]))]) s.heap.size) (([(o0, .inr (4, [.ref q1v, .ref q2v, .int 0, .null, .int 0, .int 0, .int 0, .int 0, .null, .int 0, .int 0, .int 0, .int 0, .int 0]))] ++ [(q1v, .inl (cI, 124, .inl z0))]) ++ [(q2v, .inl (cI, 744, .inl z0))]) := hD
  refine lv_aload_n hx hb dX5_init_21 rfl (lv_at hl 0 rfl) ?_
  refine lv_bipush (v := 60) hx hb dX5_init_22 (by decide) ?_
  refine k_newI (k := 60) (N' := 60) hx hb hts hK hP hD hS hA (by decide) (by decide) (by decide) (Nat.le_of_ble_eq_true rfl) (Nat.le_of_ble_eq_true rfl) dX5_init_24 (fun q3v H hP hD hS => ?_)
  have hP : va_P D vwCl ((([(o0, .inr (4, [.ref q1v, .ref q2v, .int 0, .null, .int 0, .int 0, .int 0, .int 0, .null, .int 0, .int 0, .int 0, .int 0, .int 0]))] ++ [(q1v, .inl (cI, 124, .inl z0))]) ++ [(q2v, .inl (cI, 744, .inl z0))]) ++ [(q3v, .inl (cI, 60, .inl z0))]) H := hP
  have hD : va_D (va_A ([(o0, .inr (4, [.null, .null, .int 0, .null, .int 0, .int 0, .int 0, .int 0, .null, .int 0, .int 0, .int 0, .int 0, .int 0]))]) s.heap.size) ((([(o0, .inr (4, [.ref q1v, .ref q2v, .int 0, .null, .int 0, .int 0, .int 0, .int 0, .null, .int 0, .int 0, .int 0, .int 0, .int 0]))] ++ [(q1v, .inl (cI, 124, .inl z0))]) ++ [(q2v, .inl (cI, 744, .inl z0))]) ++ [(q3v, .inl (cI, 60, .inl z0))]) := hD
  refine Fp5 hx hb hts hown hK hP hD hS 0 rfl 3 (by decide) flX5_16 (fun _ h => h) rfl hnm rfl rfl rfl (Nat.le_of_ble_eq_true rfl) dX5_init_26 (fun H locs hP hD hS => ?_)
  have hP : va_P D vwCl ((([(o0, .inr (4, [.ref q1v, .ref q2v, .int 0, .ref q3v, .int 0, .int 0, .int 0, .int 0, .null, .int 0, .int 0, .int 0, .int 0, .int 0]))] ++ [(q1v, .inl (cI, 124, .inl z0))]) ++ [(q2v, .inl (cI, 744, .inl z0))]) ++ [(q3v, .inl (cI, 60, .inl z0))]) H := hP
  have hD : va_D (va_A ([(o0, .inr (4, [.null, .null, .int 0, .null, .int 0, .int 0, .int 0, .int 0, .null, .int 0, .int 0, .int 0, .int 0, .int 0]))]) s.heap.size) ((([(o0, .inr (4, [.ref q1v, .ref q2v, .int 0, .ref q3v, .int 0, .int 0, .int 0, .int 0, .null, .int 0, .int 0, .int 0, .int 0, .int 0]))] ++ [(q1v, .inl (cI, 124, .inl z0))]) ++ [(q2v, .inl (cI, 744, .inl z0))]) ++ [(q3v, .inl (cI, 60, .inl z0))]) := hD
  refine lv_aload_n hx hb dX5_init_29 rfl (lv_at hl 0 rfl) ?_
  refine lv_bipush (v := 48) hx hb dX5_init_30 (by decide) ?_
  refine k_newI (k := 48) (N' := 48) hx hb hts hK hP hD hS hA (by decide) (by decide) (by decide) (Nat.le_of_ble_eq_true rfl) (Nat.le_of_ble_eq_true rfl) dX5_init_32 (fun q4v H hP hD hS => ?_)
  have hP : va_P D vwCl (((([(o0, .inr (4, [.ref q1v, .ref q2v, .int 0, .ref q3v, .int 0, .int 0, .int 0, .int 0, .null, .int 0, .int 0, .int 0, .int 0, .int 0]))] ++ [(q1v, .inl (cI, 124, .inl z0))]) ++ [(q2v, .inl (cI, 744, .inl z0))]) ++ [(q3v, .inl (cI, 60, .inl z0))]) ++ [(q4v, .inl (cI, 48, .inl z0))]) H := hP
  have hD : va_D (va_A ([(o0, .inr (4, [.null, .null, .int 0, .null, .int 0, .int 0, .int 0, .int 0, .null, .int 0, .int 0, .int 0, .int 0, .int 0]))]) s.heap.size) (((([(o0, .inr (4, [.ref q1v, .ref q2v, .int 0, .ref q3v, .int 0, .int 0, .int 0, .int 0, .null, .int 0, .int 0, .int 0, .int 0, .int 0]))] ++ [(q1v, .inl (cI, 124, .inl z0))]) ++ [(q2v, .inl (cI, 744, .inl z0))]) ++ [(q3v, .inl (cI, 60, .inl z0))]) ++ [(q4v, .inl (cI, 48, .inl z0))]) := hD
  refine Fp5 hx hb hts hown hK hP hD hS 0 rfl 8 (by decide) flX5_19 (fun _ h => h) rfl hnm rfl rfl rfl (Nat.le_of_ble_eq_true rfl) dX5_init_34 (fun H locs hP hD hS => ?_)
  have hP : va_P D vwCl (((([(o0, .inr (4, [.ref q1v, .ref q2v, .int 0, .ref q3v, .int 0, .int 0, .int 0, .int 0, .ref q4v, .int 0, .int 0, .int 0, .int 0, .int 0]))] ++ [(q1v, .inl (cI, 124, .inl z0))]) ++ [(q2v, .inl (cI, 744, .inl z0))]) ++ [(q3v, .inl (cI, 60, .inl z0))]) ++ [(q4v, .inl (cI, 48, .inl z0))]) H := hP
  have hD : va_D (va_A ([(o0, .inr (4, [.null, .null, .int 0, .null, .int 0, .int 0, .int 0, .int 0, .null, .int 0, .int 0, .int 0, .int 0, .int 0]))]) s.heap.size) (((([(o0, .inr (4, [.ref q1v, .ref q2v, .int 0, .ref q3v, .int 0, .int 0, .int 0, .int 0, .ref q4v, .int 0, .int 0, .int 0, .int 0, .int 0]))] ++ [(q1v, .inl (cI, 124, .inl z0))]) ++ [(q2v, .inl (cI, 744, .inl z0))]) ++ [(q3v, .inl (cI, 60, .inl z0))]) ++ [(q4v, .inl (cI, 48, .inl z0))]) := hD
  refine lv_aload_n hx hb dX5_init_37 rfl (lv_at hl 0 rfl) ?_
  refine g5 hx hb hts hown hK hP 0 rfl 0 (by decide) flX5_7 (fun _ h => h) (v := .ref q1v) rfl dX5_init_38 ?_
  refine lv_iconst (v := 0) hx hb dX5_init_41 (by decide) ?_
  refine lv_bipush (v := 12) hx hb dX5_init_42 (by decide) ?_
  refine k_ast (k := 0) hx hb hK hP hD hS 1 0 rfl rfl rfl (by decide) (by decide) dX5_init_44 (fun H locs hP hD hS => ?_)
  have hP : va_P D vwCl (((([(o0, .inr (4, [.ref q1v, .ref q2v, .int 0, .ref q3v, .int 0, .int 0, .int 0, .int 0, .ref q4v, .int 0, .int 0, .int 0, .int 0, .int 0]))] ++ [(q1v, .inl (cI, 124, .inl (upd z0 0 12)))]) ++ [(q2v, .inl (cI, 744, .inl z0))]) ++ [(q3v, .inl (cI, 60, .inl z0))]) ++ [(q4v, .inl (cI, 48, .inl z0))]) H := hP
  have hD : va_D (va_A ([(o0, .inr (4, [.null, .null, .int 0, .null, .int 0, .int 0, .int 0, .int 0, .null, .int 0, .int 0, .int 0, .int 0, .int 0]))]) s.heap.size) (((([(o0, .inr (4, [.ref q1v, .ref q2v, .int 0, .ref q3v, .int 0, .int 0, .int 0, .int 0, .ref q4v, .int 0, .int 0, .int 0, .int 0, .int 0]))] ++ [(q1v, .inl (cI, 124, .inl (upd z0 0 12)))]) ++ [(q2v, .inl (cI, 744, .inl z0))]) ++ [(q3v, .inl (cI, 60, .inl z0))]) ++ [(q4v, .inl (cI, 48, .inl z0))]) := hD
  refine lv_aload_n hx hb dX5_init_45 rfl (lv_at hl 0 rfl) ?_
  refine g5 hx hb hts hown hK hP 0 rfl 0 (by decide) flX5_7 (fun _ h => h) (v := .ref q1v) rfl dX5_init_46 ?_
  refine lv_iconst (v := 1) hx hb dX5_init_49 (by decide) ?_
  refine lv_iconst (v := 1) hx hb dX5_init_50 (by decide) ?_
  refine k_ast (k := 1) hx hb hK hP hD hS 1 0 rfl rfl rfl (by decide) (by decide) dX5_init_51 (fun H locs hP hD hS => ?_)
  have hP : va_P D vwCl (((([(o0, .inr (4, [.ref q1v, .ref q2v, .int 0, .ref q3v, .int 0, .int 0, .int 0, .int 0, .ref q4v, .int 0, .int 0, .int 0, .int 0, .int 0]))] ++ [(q1v, .inl (cI, 124, .inl (upd (upd z0 0 12) 1 1)))]) ++ [(q2v, .inl (cI, 744, .inl z0))]) ++ [(q3v, .inl (cI, 60, .inl z0))]) ++ [(q4v, .inl (cI, 48, .inl z0))]) H := hP
  have hD : va_D (va_A ([(o0, .inr (4, [.null, .null, .int 0, .null, .int 0, .int 0, .int 0, .int 0, .null, .int 0, .int 0, .int 0, .int 0, .int 0]))]) s.heap.size) (((([(o0, .inr (4, [.ref q1v, .ref q2v, .int 0, .ref q3v, .int 0, .int 0, .int 0, .int 0, .ref q4v, .int 0, .int 0, .int 0, .int 0, .int 0]))] ++ [(q1v, .inl (cI, 124, .inl (upd (upd z0 0 12) 1 1)))]) ++ [(q2v, .inl (cI, 744, .inl z0))]) ++ [(q3v, .inl (cI, 60, .inl z0))]) ++ [(q4v, .inl (cI, 48, .inl z0))]) := hD
  refine lv_aload_n hx hb dX5_init_52 rfl (lv_at hl 0 rfl) ?_
  refine g5 hx hb hts hown hK hP 0 rfl 0 (by decide) flX5_7 (fun _ h => h) (v := .ref q1v) rfl dX5_init_53 ?_
  refine lv_iconst (v := 2) hx hb dX5_init_56 (by decide) ?_
  refine lv_bipush (v := 50) hx hb dX5_init_57 (by decide) ?_
  refine k_ast (k := 2) hx hb hK hP hD hS 1 0 rfl rfl rfl (by decide) (by decide) dX5_init_59 (fun H locs hP hD hS => ?_)
  have hP : va_P D vwCl (((([(o0, .inr (4, [.ref q1v, .ref q2v, .int 0, .ref q3v, .int 0, .int 0, .int 0, .int 0, .ref q4v, .int 0, .int 0, .int 0, .int 0, .int 0]))] ++ [(q1v, .inl (cI, 124, .inl (upd (upd (upd z0 0 12) 1 1) 2 50)))]) ++ [(q2v, .inl (cI, 744, .inl z0))]) ++ [(q3v, .inl (cI, 60, .inl z0))]) ++ [(q4v, .inl (cI, 48, .inl z0))]) H := hP
  have hD : va_D (va_A ([(o0, .inr (4, [.null, .null, .int 0, .null, .int 0, .int 0, .int 0, .int 0, .null, .int 0, .int 0, .int 0, .int 0, .int 0]))]) s.heap.size) (((([(o0, .inr (4, [.ref q1v, .ref q2v, .int 0, .ref q3v, .int 0, .int 0, .int 0, .int 0, .ref q4v, .int 0, .int 0, .int 0, .int 0, .int 0]))] ++ [(q1v, .inl (cI, 124, .inl (upd (upd (upd z0 0 12) 1 1) 2 50)))]) ++ [(q2v, .inl (cI, 744, .inl z0))]) ++ [(q3v, .inl (cI, 60, .inl z0))]) ++ [(q4v, .inl (cI, 48, .inl z0))]) := hD
  refine lv_aload_n hx hb dX5_init_60 rfl (lv_at hl 0 rfl) ?_
  refine g5 hx hb hts hown hK hP 0 rfl 0 (by decide) flX5_7 (fun _ h => h) (v := .ref q1v) rfl dX5_init_61 ?_
  refine lv_iconst (v := 4) hx hb dX5_init_64 (by decide) ?_
  refine lv_sipush (v := 200) hx hb dX5_init_65 (by decide) ?_
  refine k_ast (k := 4) hx hb hK hP hD hS 1 0 rfl rfl rfl (by decide) (by decide) dX5_init_68 (fun H locs hP hD hS => ?_)
  have hP : va_P D vwCl (((([(o0, .inr (4, [.ref q1v, .ref q2v, .int 0, .ref q3v, .int 0, .int 0, .int 0, .int 0, .ref q4v, .int 0, .int 0, .int 0, .int 0, .int 0]))] ++ [(q1v, .inl (cI, 124, .inl (upd (upd (upd (upd z0 0 12) 1 1) 2 50) 4 200)))]) ++ [(q2v, .inl (cI, 744, .inl z0))]) ++ [(q3v, .inl (cI, 60, .inl z0))]) ++ [(q4v, .inl (cI, 48, .inl z0))]) H := hP
  have hD : va_D (va_A ([(o0, .inr (4, [.null, .null, .int 0, .null, .int 0, .int 0, .int 0, .int 0, .null, .int 0, .int 0, .int 0, .int 0, .int 0]))]) s.heap.size) (((([(o0, .inr (4, [.ref q1v, .ref q2v, .int 0, .ref q3v, .int 0, .int 0, .int 0, .int 0, .ref q4v, .int 0, .int 0, .int 0, .int 0, .int 0]))] ++ [(q1v, .inl (cI, 124, .inl (upd (upd (upd (upd z0 0 12) 1 1) 2 50) 4 200)))]) ++ [(q2v, .inl (cI, 744, .inl z0))]) ++ [(q3v, .inl (cI, 60, .inl z0))]) ++ [(q4v, .inl (cI, 48, .inl z0))]) := hD
  refine lv_iconst (v := 0) hx hb dX5_init_69 (by decide) ?_
  refine lv_istore_n (lv' := [(1, .int 0), (0, .ref o0)]) hx hb dX5_init_70 rfl hl (by decide) rfl (fun ls hl => ?_)
  refine lv_iload_n hx hb dX5_init_71 rfl (lv_at hl 0 rfl) ?_
  refine lv_iconst (v := 3) hx hb dX5_init_72 (by decide) ?_
  refine lv_icmp_ge (tgt := 93) hx hb dX5_init_73 (by decide) (fun h => absurd h (by decide)) (fun _ => ?_)
  refine lv_aload_n hx hb dX5_init_76 rfl (lv_at hl 1 rfl) ?_
  refine g5 hx hb hts hown hK hP 0 rfl 0 (by decide) flX5_7 (fun _ h => h) (v := .ref q1v) rfl dX5_init_77 ?_
  refine lv_bipush (v := 9) hx hb dX5_init_80 (by decide) ?_
  refine lv_iload_n hx hb dX5_init_82 rfl (lv_at hl 0 rfl) ?_
  refine lv_iadd hx hb dX5_init_83 (lv_topi (fun x5 e5 => ?_))
  have q5 : x5 = 9 := by rw [e5]; (first | done | decide)
  subst q5
  refine lv_bipush (v := 60) hx hb dX5_init_84 (by decide) ?_
  refine k_ast (k := 9) hx hb hK hP hD hS 1 0 rfl rfl rfl (by decide) (by decide) dX5_init_86 (fun H locs hP hD hS => ?_)
  have hP : va_P D vwCl (((([(o0, .inr (4, [.ref q1v, .ref q2v, .int 0, .ref q3v, .int 0, .int 0, .int 0, .int 0, .ref q4v, .int 0, .int 0, .int 0, .int 0, .int 0]))] ++ [(q1v, .inl (cI, 124, .inl (upd (upd (upd (upd (upd z0 0 12) 1 1) 2 50) 4 200) 9 60)))]) ++ [(q2v, .inl (cI, 744, .inl z0))]) ++ [(q3v, .inl (cI, 60, .inl z0))]) ++ [(q4v, .inl (cI, 48, .inl z0))]) H := hP
  have hD : va_D (va_A ([(o0, .inr (4, [.null, .null, .int 0, .null, .int 0, .int 0, .int 0, .int 0, .null, .int 0, .int 0, .int 0, .int 0, .int 0]))]) s.heap.size) (((([(o0, .inr (4, [.ref q1v, .ref q2v, .int 0, .ref q3v, .int 0, .int 0, .int 0, .int 0, .ref q4v, .int 0, .int 0, .int 0, .int 0, .int 0]))] ++ [(q1v, .inl (cI, 124, .inl (upd (upd (upd (upd (upd z0 0 12) 1 1) 2 50) 4 200) 9 60)))]) ++ [(q2v, .inl (cI, 744, .inl z0))]) ++ [(q3v, .inl (cI, 60, .inl z0))]) ++ [(q4v, .inl (cI, 48, .inl z0))]) := hD
  refine lv_iinc (v := 1) (lv' := [(1, .int 1), (0, .ref o0)]) hx hb dX5_init_87 hl (k := 0) rfl (by decide) (by decide) rfl (fun ls hl => ?_)
  refine lv_goto (tgt := 71) hx hb dX5_init_90 (by decide) ?_
  refine lv_iload_n hx hb dX5_init_71 rfl (lv_at hl 0 rfl) ?_
  refine lv_iconst (v := 3) hx hb dX5_init_72 (by decide) ?_
  refine lv_icmp_ge (tgt := 93) hx hb dX5_init_73 (by decide) (fun h => absurd h (by decide)) (fun _ => ?_)
  refine lv_aload_n hx hb dX5_init_76 rfl (lv_at hl 1 rfl) ?_
  refine g5 hx hb hts hown hK hP 0 rfl 0 (by decide) flX5_7 (fun _ h => h) (v := .ref q1v) rfl dX5_init_77 ?_
  refine lv_bipush (v := 9) hx hb dX5_init_80 (by decide) ?_
  refine lv_iload_n hx hb dX5_init_82 rfl (lv_at hl 0 rfl) ?_
  refine lv_iadd hx hb dX5_init_83 (lv_topi (fun x6 e6 => ?_))
  have q6 : x6 = 10 := by rw [e6]; (first | done | decide)
  subst q6
  refine lv_bipush (v := 60) hx hb dX5_init_84 (by decide) ?_
  refine k_ast (k := 10) hx hb hK hP hD hS 1 0 rfl rfl rfl (by decide) (by decide) dX5_init_86 (fun H locs hP hD hS => ?_)
  have hP : va_P D vwCl (((([(o0, .inr (4, [.ref q1v, .ref q2v, .int 0, .ref q3v, .int 0, .int 0, .int 0, .int 0, .ref q4v, .int 0, .int 0, .int 0, .int 0, .int 0]))] ++ [(q1v, .inl (cI, 124, .inl (upd (upd (upd (upd (upd (upd z0 0 12) 1 1) 2 50) 4 200) 9 60) 10 60)))]) ++ [(q2v, .inl (cI, 744, .inl z0))]) ++ [(q3v, .inl (cI, 60, .inl z0))]) ++ [(q4v, .inl (cI, 48, .inl z0))]) H := hP
  have hD : va_D (va_A ([(o0, .inr (4, [.null, .null, .int 0, .null, .int 0, .int 0, .int 0, .int 0, .null, .int 0, .int 0, .int 0, .int 0, .int 0]))]) s.heap.size) (((([(o0, .inr (4, [.ref q1v, .ref q2v, .int 0, .ref q3v, .int 0, .int 0, .int 0, .int 0, .ref q4v, .int 0, .int 0, .int 0, .int 0, .int 0]))] ++ [(q1v, .inl (cI, 124, .inl (upd (upd (upd (upd (upd (upd z0 0 12) 1 1) 2 50) 4 200) 9 60) 10 60)))]) ++ [(q2v, .inl (cI, 744, .inl z0))]) ++ [(q3v, .inl (cI, 60, .inl z0))]) ++ [(q4v, .inl (cI, 48, .inl z0))]) := hD
  refine lv_iinc (v := 2) (lv' := [(1, .int 2), (0, .ref o0)]) hx hb dX5_init_87 hl (k := 0) rfl (by decide) (by decide) rfl (fun ls hl => ?_)
  refine lv_goto (tgt := 71) hx hb dX5_init_90 (by decide) ?_
  refine lv_iload_n hx hb dX5_init_71 rfl (lv_at hl 0 rfl) ?_
  refine lv_iconst (v := 3) hx hb dX5_init_72 (by decide) ?_
  refine lv_icmp_ge (tgt := 93) hx hb dX5_init_73 (by decide) (fun h => absurd h (by decide)) (fun _ => ?_)
  refine lv_aload_n hx hb dX5_init_76 rfl (lv_at hl 1 rfl) ?_
  refine g5 hx hb hts hown hK hP 0 rfl 0 (by decide) flX5_7 (fun _ h => h) (v := .ref q1v) rfl dX5_init_77 ?_
  refine lv_bipush (v := 9) hx hb dX5_init_80 (by decide) ?_
  refine lv_iload_n hx hb dX5_init_82 rfl (lv_at hl 0 rfl) ?_
  refine lv_iadd hx hb dX5_init_83 (lv_topi (fun x7 e7 => ?_))
  have q7 : x7 = 11 := by rw [e7]; (first | done | decide)
  subst q7
  refine lv_bipush (v := 60) hx hb dX5_init_84 (by decide) ?_
  refine k_ast (k := 11) hx hb hK hP hD hS 1 0 rfl rfl rfl (by decide) (by decide) dX5_init_86 (fun H locs hP hD hS => ?_)
  have hP : va_P D vwCl (((([(o0, .inr (4, [.ref q1v, .ref q2v, .int 0, .ref q3v, .int 0, .int 0, .int 0, .int 0, .ref q4v, .int 0, .int 0, .int 0, .int 0, .int 0]))] ++ [(q1v, .inl (cI, 124, .inl (upd (upd (upd (upd (upd (upd (upd z0 0 12) 1 1) 2 50) 4 200) 9 60) 10 60) 11 60)))]) ++ [(q2v, .inl (cI, 744, .inl z0))]) ++ [(q3v, .inl (cI, 60, .inl z0))]) ++ [(q4v, .inl (cI, 48, .inl z0))]) H := hP
  have hD : va_D (va_A ([(o0, .inr (4, [.null, .null, .int 0, .null, .int 0, .int 0, .int 0, .int 0, .null, .int 0, .int 0, .int 0, .int 0, .int 0]))]) s.heap.size) (((([(o0, .inr (4, [.ref q1v, .ref q2v, .int 0, .ref q3v, .int 0, .int 0, .int 0, .int 0, .ref q4v, .int 0, .int 0, .int 0, .int 0, .int 0]))] ++ [(q1v, .inl (cI, 124, .inl (upd (upd (upd (upd (upd (upd (upd z0 0 12) 1 1) 2 50) 4 200) 9 60) 10 60) 11 60)))]) ++ [(q2v, .inl (cI, 744, .inl z0))]) ++ [(q3v, .inl (cI, 60, .inl z0))]) ++ [(q4v, .inl (cI, 48, .inl z0))]) := hD
  refine lv_iinc (v := 3) (lv' := [(1, .int 3), (0, .ref o0)]) hx hb dX5_init_87 hl (k := 0) rfl (by decide) (by decide) rfl (fun ls hl => ?_)
  refine lv_goto (tgt := 71) hx hb dX5_init_90 (by decide) ?_
  refine lv_iload_n hx hb dX5_init_71 rfl (lv_at hl 0 rfl) ?_
  refine lv_iconst (v := 3) hx hb dX5_init_72 (by decide) ?_
  refine lv_icmp_ge (tgt := 93) hx hb dX5_init_73 (by decide) (fun _ => ?_) (fun h => absurd (by decide) h)
  have hP : va_P D vwCl (((([(o0, .inr (4, [.ref q1v, .ref q2v, .int 0, .ref q3v, .int 0, .int 0, .int 0, .int 0, .ref q4v, .int 0, .int 0, .int 0, .int 0, .int 0]))] ++ [(q1v, .inl (cI, 124, .inl (flat N0)))]) ++ [(q2v, .inl (cI, 744, .inl z0))]) ++ [(q3v, .inl (cI, 60, .inl z0))]) ++ [(q4v, .inl (cI, 48, .inl z0))]) H := (congrArg (fun zz => va_P D vwCl (((([(o0, .inr (4, [.ref q1v, .ref q2v, .int 0, .ref q3v, .int 0, .int 0, .int 0, .int 0, .ref q4v, .int 0, .int 0, .int 0, .int 0, .int 0]))] ++ [(q1v, .inl (cI, 124, .inl zz))]) ++ [(q2v, .inl (cI, 744, .inl z0))]) ++ [(q3v, .inl (cI, 60, .inl z0))]) ++ [(q4v, .inl (cI, 48, .inl z0))]) H) m_N0).mp hP
  have hD : va_D (va_A ([(o0, .inr (4, [.null, .null, .int 0, .null, .int 0, .int 0, .int 0, .int 0, .null, .int 0, .int 0, .int 0, .int 0, .int 0]))]) s.heap.size) (((([(o0, .inr (4, [.ref q1v, .ref q2v, .int 0, .ref q3v, .int 0, .int 0, .int 0, .int 0, .ref q4v, .int 0, .int 0, .int 0, .int 0, .int 0]))] ++ [(q1v, .inl (cI, 124, .inl (flat N0)))]) ++ [(q2v, .inl (cI, 744, .inl z0))]) ++ [(q3v, .inl (cI, 60, .inl z0))]) ++ [(q4v, .inl (cI, 48, .inl z0))]) := (congrArg (fun zz => va_D (va_A ([(o0, .inr (4, [.null, .null, .int 0, .null, .int 0, .int 0, .int 0, .int 0, .null, .int 0, .int 0, .int 0, .int 0, .int 0]))]) s.heap.size) (((([(o0, .inr (4, [.ref q1v, .ref q2v, .int 0, .ref q3v, .int 0, .int 0, .int 0, .int 0, .ref q4v, .int 0, .int 0, .int 0, .int 0, .int 0]))] ++ [(q1v, .inl (cI, 124, .inl zz))]) ++ [(q2v, .inl (cI, 744, .inl z0))]) ++ [(q3v, .inl (cI, 60, .inl z0))]) ++ [(q4v, .inl (cI, 48, .inl z0))])) m_N0).mp hD
  have hP : va_P D vwCl ((fun u : Nat → Nat => mdW cI u N0 z0 z0 z0 z0) (fun j => ([o0, q1v, q2v, q3v, q4v] : List Nat).getD j 0)) H := hP
  have hD : va_D (va_A ([(o0, .inr (4, [.null, .null, .int 0, .null, .int 0, .int 0, .int 0, .int 0, .null, .int 0, .int 0, .int 0, .int 0, .int 0]))]) s.heap.size) ((fun u : Nat → Nat => mdW cI u N0 z0 z0 z0 z0) (fun j => ([o0, q1v, q2v, q3v, q4v] : List Nat).getD j 0)) := hD
  exact k_eNv (q := fun u : Nat → Nat => u 0 = o0) (Wf := fun u => mdW cI u N0 z0 z0 z0 z0) (fun j => ([o0, q1v, q2v, q3v, q4v] : List Nat).getD j 0) hx hb hr hlocks (Nat.le_of_ble_eq_true rfl) (Nat.le_of_ble_eq_true rfl) rfl hP hD hS dX5_init_93
