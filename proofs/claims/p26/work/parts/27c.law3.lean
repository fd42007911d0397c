set_option maxHeartbeats 8000000 in
set_option maxRecDepth 100000 in
theorem law_done {p : Program} {l : Launch} {e : Env} {s : State} {m : MethodId} {args : Array Value} {below : List Frame} {meth : Method} {c : Code} {Q : State → Prop} {D : va_G} {cI cS cL : ClassId} {b L cells slots : Nat} {xs : Nat → Int32} (hx : p.tables.exec = Jvm.exec) (hb : c.code = cL_law) (hml : c.maxLocals = 17) (hts : ∀ w ∈ wsL_law, w.before args s = true) (hown : s.vm.findClass RL = some m.cls) (hfl : l.stackTraces = false) (hK : va_K D vwCl (kTy cI cS cL) s) (hE : kEn s) (hT : kEt s) (hX : va_X b L xs s s.heap) (hLL : L ≤ 260) (x a : Nat → Nat) (r : Nat → Nat → Nat) (z : Nat) (T : Nat → Int32) (v : Nat → Int32) (u : Nat → Nat → Int32) (q2 k2 : Nat) (N2 : NN) (R2 : Nat → NN) (n2 d2 i2 tn : Nat) (kc : Nat) (N : NN) (n d i tu : Nat) (S h P : Nat) (br we : Int32) (hJ : J2 N n d i) (hJ2 : J2 N2 n2 d2 i2) (hd : d < 2 ^ 17) (hi : i < 2 ^ 17) (hd2 : d2 < 2 ^ 17) (hi2 : i2 < 2 ^ 17) (hS2 : S < 2 ^ 30) (hP24 : P ≤ 24) (htn : tn < 2 ^ 30) (h04 : S ≤ 4 → nI tn = nI n ∧ ∃ cc : Nat, 0 < cc ∧ cc ≤ 210 ∧ N2 1 1 = N 1 1 - nI cc ∧ N2 1 5 = N 1 5 + nI cc) (h912 : 9 ≤ S → S ≤ 12 → h < n ∧ ¬ N 9 h = -1 ∧ nI tn = p_out N h P ∧ N2 = p_test N h P ∧ n2 = n) (h168 : 16 ≤ S → S ≤ 18 → nI tn = N2 1 0 ∧ N 1 0 < nI tn) (hbr : ¬ n = 0 → br = p_tried N h P) (hwe : ¬ n = 0 → we = N 7 h) (hf : cells ≤ room_1.cells ∧ slots ≤ room_1.slots) (H : Heap) (locs : List Loc)
    (hP : va_P D vwCl (xH cS x a r (nI q2) (nI k2) ++ (txW cI x (nI z) T ++ (stW cI a N2 v ++ (rgW cI r R2 u)))) H) (hD : va_D (fun q => s.heap.size ≤ q) (xH cS x a r (nI q2) (nI k2) ++ (txW cI x (nI z) T ++ (stW cI a N2 v ++ (rgW cI r R2 u))))) (hS : va_S (fun q => s.heap.size ≤ q) s.heap H locs) (ls : Array Slot) (hl : lv_has ls 17 [(0, .ref b), (1, .ref (x 0)), (2, .int 1), (3, .int (nI tu)), (4, .int (nI i)), (5, .int (nI kc)), (6, .int (N 1 0)), (7, .int (N 1 1)), (8, .int (nI n)), (9, .int (N 1 3)), (10, .int (N 1 5)), (11, .int (nI S)), (12, .int (nI h)), (13, .int (nI P)), (14, .int br), (15, .int we), (16, .int (nI tn))])
    (kk : ∀ (H : Heap) (locs : List Loc), va_P D vwCl (xH cS x a r (nI q2) (nI k2) ++ (txW cI x (nI z) T ++ (stW cI a N2 (p_lay N2 (nI 2) (-1) n2) ++ (rgW cI r R2 u)))) H → va_D (fun q => s.heap.size ≤ q) (xH cS x a r (nI q2) (nI k2) ++ (txW cI x (nI z) T ++ (stW cI a N2 (p_lay N2 (nI 2) (-1) n2) ++ (rgW cI r R2 u)))) → va_S (fun q => s.heap.size ≤ q) s.heap H locs → ∀ ls : Array Slot, lv_has ls 17 [(0, .ref b), (1, .ref (x 0)), (2, .int 1), (3, .int (nI tu)), (4, .int (nI i))] → W p l e room_1 s m args below meth c H locs cells slots Q (F0 m 472 ls [])) : W p l e room_1 s m args below meth c H locs cells slots Q (F0 m 195 ls []) := by
  have hA : ∀ q : Nat, s.heap.size ≤ q → (fun q => s.heap.size ≤ q) q := fun q h => h
  have hn := hJ2.1.2.1
  have hn14 := hJ2.1.1
  have hnn := hJ.1.1
  refine lv_iload hx hb dL_law_195 (lv_at hl 16 rfl) ?_
  refine lv_if_ge (tgt := 252) hx hb dL_law_197 (by decide) (fun _ => ?_) (fun h => absurd (nI_pos' (by omega)) h)
  refine lv_iconst (v := 1) hx hb dL_law_252 (by decide) ?_
  refine lv_goto (tgt := 257) hx hb dL_law_253 (by decide) ?_
  refine lv_istore_n (lv' := [(2, .int 1), (0, .ref b), (1, .ref (x 0)), (3, .int (nI tu)), (4, .int (nI i)), (5, .int (nI kc)), (6, .int (N 1 0)), (7, .int (N 1 1)), (8, .int (nI n)), (9, .int (N 1 3)), (10, .int (N 1 5)), (11, .int (nI S)), (12, .int (nI h)), (13, .int (nI P)), (14, .int br), (15, .int we), (16, .int (nI tn))]) hx hb dL_law_257 rfl hl (by decide) rfl (fun ls hl => ?_)
  refine lv_iload_n hx hb dL_law_258 rfl (lv_at hl 0 rfl) ?_
  refine lv_if_eq (tgt := 470) hx hb dL_law_259 (by decide) (fun h => absurd h (by decide)) (fun _ => ?_)
  have M2 : ∀ (H : Heap) (locs : List Loc), va_P D vwCl (xH cS x a r (nI q2) (nI k2) ++ (txW cI x (nI z) T ++ (stW cI a N2 v ++ (rgW cI r R2 u)))) H → va_D ((fun q => s.heap.size ≤ q)) (xH cS x a r (nI q2) (nI k2) ++ (txW cI x (nI z) T ++ (stW cI a N2 v ++ (rgW cI r R2 u)))) → va_S ((fun q => s.heap.size ≤ q)) s.heap H locs → W p l e room_1 s m args below meth c H locs cells slots (Q) (F0 m 311 ls ([])) := by
    intro H locs hP hD hS
    have M3 : ∀ (H : Heap) (locs : List Loc), va_P D vwCl (xH cS x a r (nI q2) (nI k2) ++ (txW cI x (nI z) T ++ (stW cI a N2 v ++ (rgW cI r R2 u)))) H → va_D ((fun q => s.heap.size ≤ q)) (xH cS x a r (nI q2) (nI k2) ++ (txW cI x (nI z) T ++ (stW cI a N2 v ++ (rgW cI r R2 u)))) → va_S ((fun q => s.heap.size ≤ q)) s.heap H locs → W p l e room_1 s m args below meth c H locs cells slots (Q) (F0 m 428 ls ([])) := by
      intro H locs hP hD hS
      have M4 : ∀ (H : Heap) (locs : List Loc), va_P D vwCl (xH cS x a r (nI q2) (nI k2) ++ (txW cI x (nI z) T ++ (stW cI a N2 v ++ (rgW cI r R2 u)))) H → va_D ((fun q => s.heap.size ≤ q)) (xH cS x a r (nI q2) (nI k2) ++ (txW cI x (nI z) T ++ (stW cI a N2 v ++ (rgW cI r R2 u)))) → va_S ((fun q => s.heap.size ≤ q)) s.heap H locs → W p l e room_1 s m args below meth c H locs cells slots (Q) (F0 m 459 ls ([])) := by
        intro H locs hP hD hS
        refine lv_aload_n hx hb dL_law_459 rfl (lv_at hl 2 rfl) ?_
        refine k_miS (As := [.ref (x 0)]) (rest := []) (w1 := []) (wc := xH cS x a r (nI q2) (nI k2) ++ (txW cI x (nI z) T ++ (stW cI a N2 v))) (wc' := xH cS x a r (nI q2) (nI k2) ++ (txW cI x (nI z) T ++ (stW cI a N2 (p_lay N2 (nI 2) (-1) n2)))) (w3 := rgW cI r R2 u) ⟨hx, hb, hml, hown, hts⟩ (c_L_station l D cI cS cL x a r (nI q2) (nI k2) (nI z) T N2 v _ n2 d2 i2 hJ2 (by omega) (by omega)) lkL_102 rfl rfl ⟨(Nat.le_of_ble_eq_true rfl), (Nat.le_of_ble_eq_true rfl)⟩ hK hE hP hD hS hA rfl rfl hl.1 rfl (Nat.le_of_ble_eq_true rfl) dL_law_460 hf (fun H locs hzz hP hD hS => ?_)
        have hP : va_P D vwCl (xH cS x a r (nI q2) (nI k2) ++ (txW cI x (nI z) T ++ (stW cI a N2 (p_lay N2 (nI 2) (-1) n2) ++ (rgW cI r R2 u)))) H := hP
        have hD : va_D ((fun q => s.heap.size ≤ q)) (xH cS x a r (nI q2) (nI k2) ++ (txW cI x (nI z) T ++ (stW cI a N2 (p_lay N2 (nI 2) (-1) n2) ++ (rgW cI r R2 u)))) := hD
        refine lv_if_eq (tgt := 470) hx hb dL_law_463 (by decide) (fun h => absurd h (by decide)) (fun _ => ?_)
        refine lv_iconst (v := 1) hx hb dL_law_466 (by decide) ?_
        refine lv_goto (tgt := 471) hx hb dL_law_467 (by decide) ?_
        refine lv_istore_n (lv' := [(2, .int 1), (0, .ref b), (1, .ref (x 0)), (3, .int (nI tu)), (4, .int (nI i)), (5, .int (nI kc)), (6, .int (N 1 0)), (7, .int (N 1 1)), (8, .int (nI n)), (9, .int (N 1 3)), (10, .int (N 1 5)), (11, .int (nI S)), (12, .int (nI h)), (13, .int (nI P)), (14, .int br), (15, .int we), (16, .int (nI tn))]) hx hb dL_law_471 rfl hl (by decide) rfl (fun ls hl => ?_)
        exact kk H locs hP hD hS ls (lv_sub hl [1, 2, 0, 3, 4] rfl)
      refine lv_iload hx hb dL_law_428 (lv_at hl 11 rfl) ?_
      refine lv_bipush (v := 16) hx hb dL_law_430 (by decide) ?_
      refine lv_icmp_lt (tgt := 459) hx hb dL_law_432 (by decide) (fun c5 => ?_) (fun c5 => ?_)
      · have c5' := Int32.not_le.mpr c5
        exact M4 H locs hP hD hS
      · have c5' := Int32.not_lt.mp c5
        have hS16 : 16 ≤ S := (nI_leI (a := 16) (b := S) (by decide) (by omega)).mp c5'
        refine lv_iload hx hb dL_law_435 (lv_at hl 11 rfl) ?_
        refine lv_bipush (v := 18) hx hb dL_law_437 (by decide) ?_
        refine lv_icmp_gt (tgt := 459) hx hb dL_law_439 (by decide) (fun c6 => ?_) (fun c6 => ?_)
        · have c6' := Int32.not_le.mpr c6
          exact M4 H locs hP hD hS
        · have c6' := Int32.not_lt.mp c6
          have hS18 : S ≤ 18 := (nI_leI (a := S) (b := 18) (by omega) (by decide)).mp c6'
          obtain ⟨htd, hdt⟩ := h168 hS16 hS18
          refine lv_iload hx hb dL_law_442 (lv_at hl 16 rfl) ?_
          refine lv_aload_n hx hb dL_law_444 rfl (lv_at hl 2 rfl) ?_
          refine lv_iconst (v := 0) hx hb dL_law_445 (by decide) ?_
          refine k_miV (As := [.int (nI 0)]) (rest := [.int (nI tn)]) (w1 := []) (wc := xH cS x a r (nI q2) (nI k2) ++ (txW cI x (nI z) T ++ (stW cI a N2 v))) (wc' := xH cS x a r (nI q2) (nI k2) ++ (txW cI x (nI z) T ++ (stW cI a N2 (c_v N2 n2 v 0)))) (w3 := rgW cI r R2 u) ⟨hx, hb, hml, hown, hts⟩ (c_X4_count_g l D cI cS cL x a r (nI q2) (nI k2) (nI z) T N2 v _ n2 hn hn14 0 (by omega)) lkL_35 rfl rfl ⟨(Nat.le_of_ble_eq_true rfl), (Nat.le_of_ble_eq_true rfl)⟩ (va_recv hK hP (ci := 3) (q0 := 0) rfl rfl) hK hE hP hD hS hA rfl rfl hl.1 rfl (Nat.le_of_ble_eq_true rfl) dL_law_446 hf (fun H locs hzz hP hD hS => ?_)
          have hP : va_P D vwCl (xH cS x a r (nI q2) (nI k2) ++ (txW cI x (nI z) T ++ (stW cI a N2 v ++ (rgW cI r R2 u)))) H := hP
          have hD : va_D ((fun q => s.heap.size ≤ q)) (xH cS x a r (nI q2) (nI k2) ++ (txW cI x (nI z) T ++ (stW cI a N2 v ++ (rgW cI r R2 u)))) := hD
          rw [show p_count N2 n2 (nI k2) 0 = N2 1 0 from rfl]
          refine lv_icmp_ne (tgt := 470) hx hb dL_law_449 (by decide) (fun h => absurd (htd) h) (fun _ => ?_)
          refine lv_iload hx hb dL_law_452 (lv_at hl 16 rfl) ?_
          refine lv_iload hx hb dL_law_454 (lv_at hl 6 rfl) ?_
          refine lv_icmp_le (tgt := 470) hx hb dL_law_456 (by decide) (fun h => absurd h (Int32.not_le.mpr hdt)) (fun _ => ?_)
          exact M4 H locs hP hD hS
    refine lv_iload hx hb dL_law_311 (lv_at hl 11 rfl) ?_
    refine lv_bipush (v := 9) hx hb dL_law_313 (by decide) ?_
    refine lv_icmp_lt (tgt := 428) hx hb dL_law_315 (by decide) (fun c9 => ?_) (fun c9 => ?_)
    · have c9' := Int32.not_le.mpr c9
      exact M3 H locs hP hD hS
    · have c9' := Int32.not_lt.mp c9
      have hS9 : 9 ≤ S := (nI_leI (a := 9) (b := S) (by decide) (by omega)).mp c9'
      refine lv_iload hx hb dL_law_318 (lv_at hl 11 rfl) ?_
      refine lv_bipush (v := 12) hx hb dL_law_320 (by decide) ?_
      refine lv_icmp_gt (tgt := 428) hx hb dL_law_322 (by decide) (fun c10 => ?_) (fun c10 => ?_)
      · have c10' := Int32.not_le.mpr c10
        exact M3 H locs hP hD hS
      · have c10' := Int32.not_lt.mp c10
        have hS12 : S ≤ 12 := (nI_leI (a := S) (b := 12) (by omega) (by decide)).mp c10'
        obtain ⟨hh, h9, hto, hN2, hn2⟩ := h912 hS9 hS12
        have hh2 : h < n2 := by rw [hn2]; exact hh
        have htb : nI tn = br := by rw [hbr (by omega), hto]; exact (if_neg h9).symm
        have hwe2 := hwe (by omega)
        refine lv_iload hx hb dL_law_325 (lv_at hl 16 rfl) ?_
        refine lv_if_lt (tgt := 428) hx hb dL_law_327 (by decide) (fun h => absurd h (nI_pos (by omega))) (fun _ => ?_)
        refine lv_iload hx hb dL_law_330 (lv_at hl 16 rfl) ?_
        refine lv_iload hx hb dL_law_332 (lv_at hl 14 rfl) ?_
        refine lv_icmp_ne (tgt := 470) hx hb dL_law_334 (by decide) (fun h => absurd (htb) h) (fun _ => ?_)
        refine lv_aload_n hx hb dL_law_337 rfl (lv_at hl 2 rfl) ?_
        refine lv_bipush (v := 7) hx hb dL_law_338 (by decide) ?_
        refine k_miV (As := [.int (nI 7)]) (rest := []) (w1 := []) (wc := xH cS x a r (nI q2) (nI k2) ++ (txW cI x (nI z) T ++ (stW cI a N2 v))) (wc' := xH cS x a r (nI q2) (nI k2) ++ (txW cI x (nI z) T ++ (stW cI a N2 (c_v N2 n2 v 7)))) (w3 := rgW cI r R2 u) ⟨hx, hb, hml, hown, hts⟩ (c_X4_count_g l D cI cS cL x a r (nI q2) (nI k2) (nI z) T N2 v _ n2 hn hn14 7 (by omega)) lkL_35 rfl rfl ⟨(Nat.le_of_ble_eq_true rfl), (Nat.le_of_ble_eq_true rfl)⟩ (va_recv hK hP (ci := 3) (q0 := 0) rfl rfl) hK hE hP hD hS hA rfl rfl hl.1 rfl (Nat.le_of_ble_eq_true rfl) dL_law_340 hf (fun H locs hzz hP hD hS => ?_)
        have hP : va_P D vwCl (xH cS x a r (nI q2) (nI k2) ++ (txW cI x (nI z) T ++ (stW cI a N2 v ++ (rgW cI r R2 u)))) H := hP
        have hD : va_D ((fun q => s.heap.size ≤ q)) (xH cS x a r (nI q2) (nI k2) ++ (txW cI x (nI z) T ++ (stW cI a N2 v ++ (rgW cI r R2 u)))) := hD
        rw [show p_count N2 n2 (nI k2) 7 = N2 1 3 from rfl]
        refine lv_iload hx hb dL_law_343 (lv_at hl 9 rfl) ?_
        refine lv_iconst (v := 1) hx hb dL_law_345 (by decide) ?_
        refine lv_iadd hx hb dL_law_346 (lv_topi (fun x13 e13 => ?_))
        have q13 : x13 = N 1 3 + 1 := by rw [e13]; skip
        subst q13
        refine lv_icmp_ne (tgt := 470) hx hb dL_law_347 (by decide) (fun h => absurd (lw_tests hN2) h) (fun _ => ?_)
        refine lv_iload hx hb dL_law_350 (lv_at hl 16 rfl) ?_
        refine lv_bipush (v := 100) hx hb dL_law_352 (by decide) ?_
        refine lv_icmp_ge (tgt := 416) hx hb dL_law_354 (by decide) (fun c15 => ?_) (fun c15 => ?_)
        · have c15' := Int32.not_lt.mpr c15
          have hge := c15
          refine lv_aload_n hx hb dL_law_416 rfl (lv_at hl 2 rfl) ?_
          refine lv_iload hx hb dL_law_417 (lv_at hl 12 rfl) ?_
          refine lv_bipush (v := 7) hx hb dL_law_419 (by decide) ?_
          refine k_riV (As := [.int (nI h), .int (nI 7)]) (rest := []) (wc := xH cS x a r (nI q2) (nI k2) ++ (txW cI x (nI z) T ++ (stW cI a N2 v))) ⟨hx, hb, hml, hown, hts⟩ (c_X4_hose_g l D cI cS cL x a r (nI q2) (nI k2) (nI z) T N2 v _ n2 hn hn14 h 7 hh2 (by omega)) lkL_38 rfl rfl ⟨(Nat.le_of_ble_eq_true rfl), (Nat.le_of_ble_eq_true rfl)⟩ (va_recv hK hP (ci := 3) (q0 := 0) rfl rfl) hK hE (va_P_midL (w1 := []) (wc := xH cS x a r (nI q2) (nI k2) ++ (txW cI x (nI z) T ++ (stW cI a N2 v))) (w3 := rgW cI r R2 u) hP) (va_D_midL (w1 := []) (wc := xH cS x a r (nI q2) (nI k2) ++ (txW cI x (nI z) T ++ (stW cI a N2 v))) (w3 := rgW cI r R2 u) hD) rfl hl.1 rfl (Nat.le_of_ble_eq_true rfl) dL_law_421 hf ?_
          rw [show p_hose N2 h 7 = N2 9 h from rfl]
          refine lv_iconst (v := (-1)) hx hb dL_law_424 (by decide) ?_
          refine lv_icmp_ne (tgt := 470) hx hb dL_law_425 (by decide) (fun h => absurd (lw_b9 hP24 hto hN2 hge) h) (fun _ => ?_)
          exact M3 H locs hP hD hS
        · have c15' := Int32.not_le.mp c15
          have hlt := c15
          refine lv_aload_n hx hb dL_law_357 rfl (lv_at hl 2 rfl) ?_
          refine lv_iload hx hb dL_law_358 (lv_at hl 12 rfl) ?_
          refine lv_iconst (v := 4) hx hb dL_law_360 (by decide) ?_
          refine k_riV (As := [.int (nI h), .int (nI 4)]) (rest := []) (wc := xH cS x a r (nI q2) (nI k2) ++ (txW cI x (nI z) T ++ (stW cI a N2 v))) ⟨hx, hb, hml, hown, hts⟩ (c_X4_hose_g l D cI cS cL x a r (nI q2) (nI k2) (nI z) T N2 v _ n2 hn hn14 h 4 hh2 (by omega)) lkL_38 rfl rfl ⟨(Nat.le_of_ble_eq_true rfl), (Nat.le_of_ble_eq_true rfl)⟩ (va_recv hK hP (ci := 3) (q0 := 0) rfl rfl) hK hE (va_P_midL (w1 := []) (wc := xH cS x a r (nI q2) (nI k2) ++ (txW cI x (nI z) T ++ (stW cI a N2 v))) (w3 := rgW cI r R2 u) hP) (va_D_midL (w1 := []) (wc := xH cS x a r (nI q2) (nI k2) ++ (txW cI x (nI z) T ++ (stW cI a N2 v))) (w3 := rgW cI r R2 u) hD) rfl hl.1 rfl (Nat.le_of_ble_eq_true rfl) dL_law_361 hf ?_
          rw [show p_hose N2 h 4 = N2 7 h from rfl]
          refine lv_iload hx hb dL_law_364 (lv_at hl 15 rfl) ?_
          refine lv_iload hx hb dL_law_366 (lv_at hl 16 rfl) ?_
          refine lv_iadd hx hb dL_law_368 (lv_topi (fun x17 e17 => ?_))
          have q17 : x17 = we + nI tn := by rw [e17]; skip
          subst q17
          refine lv_bipush (v := 99) hx hb dL_law_369 (by decide) ?_
          have J18 : ∀ zj : Int32, zj = N2 7 h → W p l e room_1 s m args below meth c H locs cells slots (Q) (F0 m 384 ls (.int zj :: [.int (N2 7 h)])) := by
            intro zj hzj
            subst hzj
            refine lv_icmp_ne (tgt := 470) hx hb dL_law_384 (by decide) (fun h => absurd (rfl) h) (fun _ => ?_)
            refine lv_iload hx hb dL_law_387 (lv_at hl 13 rfl) ?_
            refine lv_aload_n hx hb dL_law_389 rfl (lv_at hl 2 rfl) ?_
            refine lv_iconst (v := 0) hx hb dL_law_390 (by decide) ?_
            refine k_riV (As := [.int (nI 0)]) (rest := [.int (nI P)]) (wc := xH cS x a r (nI q2) (nI k2) ++ (txW cI x (nI z) T ++ (stW cI a N2 v))) ⟨hx, hb, hml, hown, hts⟩ (c_X4_setting_g l D cI cS cL x a r (nI q2) (nI k2) (nI z) T N2 v _ 0 (by omega)) lkL_53 rfl rfl ⟨(Nat.le_of_ble_eq_true rfl), (Nat.le_of_ble_eq_true rfl)⟩ (va_recv hK hP (ci := 3) (q0 := 0) rfl rfl) hK hE (va_P_midL (w1 := []) (wc := xH cS x a r (nI q2) (nI k2) ++ (txW cI x (nI z) T ++ (stW cI a N2 v))) (w3 := rgW cI r R2 u) hP) (va_D_midL (w1 := []) (wc := xH cS x a r (nI q2) (nI k2) ++ (txW cI x (nI z) T ++ (stW cI a N2 v))) (w3 := rgW cI r R2 u) hD) rfl hl.1 rfl (Nat.le_of_ble_eq_true rfl) dL_law_391 hf ?_
            rw [show N2 0 0 = N2 0 0 from rfl]
            refine lv_icmp_lt (tgt := 428) hx hb dL_law_394 (by decide) (fun c20 => ?_) (fun c20 => ?_)
            · have c20' := Int32.not_le.mpr c20
              exact M3 H locs hP hD hS
            · have c20' := Int32.not_lt.mp c20
              have hps := c20
              refine lv_aload_n hx hb dL_law_397 rfl (lv_at hl 2 rfl) ?_
              refine lv_iload hx hb dL_law_398 (lv_at hl 12 rfl) ?_
              refine lv_bipush (v := 6) hx hb dL_law_400 (by decide) ?_
              refine k_riV (As := [.int (nI h), .int (nI 6)]) (rest := []) (wc := xH cS x a r (nI q2) (nI k2) ++ (txW cI x (nI z) T ++ (stW cI a N2 v))) ⟨hx, hb, hml, hown, hts⟩ (c_X4_hose_g l D cI cS cL x a r (nI q2) (nI k2) (nI z) T N2 v _ n2 hn hn14 h 6 hh2 (by omega)) lkL_38 rfl rfl ⟨(Nat.le_of_ble_eq_true rfl), (Nat.le_of_ble_eq_true rfl)⟩ (va_recv hK hP (ci := 3) (q0 := 0) rfl rfl) hK hE (va_P_midL (w1 := []) (wc := xH cS x a r (nI q2) (nI k2) ++ (txW cI x (nI z) T ++ (stW cI a N2 v))) (w3 := rgW cI r R2 u) hP) (va_D_midL (w1 := []) (wc := xH cS x a r (nI q2) (nI k2) ++ (txW cI x (nI z) T ++ (stW cI a N2 v))) (w3 := rgW cI r R2 u) hD) rfl hl.1 rfl (Nat.le_of_ble_eq_true rfl) dL_law_402 hf ?_
              rw [show p_hose N2 h 6 = N2 8 h from rfl]
              refine lv_iload hx hb dL_law_405 (lv_at hl 6 rfl) ?_
              refine lv_bipush (v := 100) hx hb dL_law_407 (by decide) ?_
              refine lv_iadd hx hb dL_law_409 (lv_topi (fun x21 e21 => ?_))
              have q21 : x21 = N 1 0 + 100 := by rw [e21]; skip
              subst q21
              refine lv_icmp_lt (tgt := 470) hx hb dL_law_410 (by decide) (fun h => absurd h (lw_day hJ (by omega) hP24 hto hN2 hlt hps)) (fun _ => ?_)
              refine lv_goto (tgt := 428) hx hb dL_law_413 (by decide) ?_
              exact M3 H locs hP hD hS
          refine lv_icmp_le (tgt := 379) hx hb dL_law_371 (by decide) (fun c23 => ?_) (fun c23 => ?_)
          · have c23' := Int32.not_lt.mpr c23
            have hle := c23
            refine lv_iload hx hb dL_law_379 (lv_at hl 15 rfl) ?_
            refine lv_iload hx hb dL_law_381 (lv_at hl 16 rfl) ?_
            refine lv_iadd hx hb dL_law_383 (lv_topi (fun x24 e24 => ?_))
            have q24 : x24 = we + nI tn := by rw [e24]; skip
            subst q24
            exact J18 _ (by rw [hwe2] at hle; rw [hwe2]; exact lw_w1 hJ hh hP24 hto hN2 hlt hle)
          · have c23' := Int32.not_le.mp c23
            have hle := c23
            refine lv_bipush (v := 99) hx hb dL_law_374 (by decide) ?_
            refine lv_goto (tgt := 384) hx hb dL_law_376 (by decide) ?_
            exact J18 _ (by rw [hwe2] at hle; exact lw_w2 hJ hh hP24 hto hN2 hlt hle)
  refine lv_iload hx hb dL_law_262 (lv_at hl 11 rfl) ?_
  refine lv_iconst (v := 4) hx hb dL_law_264 (by decide) ?_
  refine lv_icmp_gt (tgt := 311) hx hb dL_law_265 (by decide) (fun c25 => ?_) (fun c25 => ?_)
  · have c25' := Int32.not_le.mpr c25
    exact M2 H locs hP hD hS
  · have c25' := Int32.not_lt.mp c25
    have hS4 : S ≤ 4 := (nI_leI (a := S) (b := 4) (by omega) (by decide)).mp c25'
    obtain ⟨htn4, cc, cc0, cc1, hm1, hm5⟩ := h04 hS4
    have hp4 := lw_paid hJ.2.1.2.2.1 (by omega) cc0 cc1
    rw [← hm5] at hp4
    refine lv_iload hx hb dL_law_268 (lv_at hl 16 rfl) ?_
    refine lv_if_lt (tgt := 311) hx hb dL_law_270 (by decide) (fun h => absurd h (nI_pos (by omega))) (fun _ => ?_)
    refine lv_iload hx hb dL_law_273 (lv_at hl 16 rfl) ?_
    refine lv_iload hx hb dL_law_275 (lv_at hl 8 rfl) ?_
    refine lv_icmp_ne (tgt := 470) hx hb dL_law_277 (by decide) (fun h => absurd (htn4) h) (fun _ => ?_)
    refine lv_iload hx hb dL_law_280 (lv_at hl 7 rfl) ?_
    refine lv_aload_n hx hb dL_law_282 rfl (lv_at hl 2 rfl) ?_
    refine lv_iconst (v := 1) hx hb dL_law_283 (by decide) ?_
    refine k_miV (As := [.int (nI 1)]) (rest := [.int (N 1 1)]) (w1 := []) (wc := xH cS x a r (nI q2) (nI k2) ++ (txW cI x (nI z) T ++ (stW cI a N2 v))) (wc' := xH cS x a r (nI q2) (nI k2) ++ (txW cI x (nI z) T ++ (stW cI a N2 (c_v N2 n2 v 1)))) (w3 := rgW cI r R2 u) ⟨hx, hb, hml, hown, hts⟩ (c_X4_count_g l D cI cS cL x a r (nI q2) (nI k2) (nI z) T N2 v _ n2 hn hn14 1 (by omega)) lkL_35 rfl rfl ⟨(Nat.le_of_ble_eq_true rfl), (Nat.le_of_ble_eq_true rfl)⟩ (va_recv hK hP (ci := 3) (q0 := 0) rfl rfl) hK hE hP hD hS hA rfl rfl hl.1 rfl (Nat.le_of_ble_eq_true rfl) dL_law_284 hf (fun H locs hzz hP hD hS => ?_)
    have hP : va_P D vwCl (xH cS x a r (nI q2) (nI k2) ++ (txW cI x (nI z) T ++ (stW cI a N2 v ++ (rgW cI r R2 u)))) H := hP
    have hD : va_D ((fun q => s.heap.size ≤ q)) (xH cS x a r (nI q2) (nI k2) ++ (txW cI x (nI z) T ++ (stW cI a N2 v ++ (rgW cI r R2 u)))) := hD
    rw [show p_count N2 n2 (nI k2) 1 = N2 1 1 from rfl]
    refine lv_isub hx hb dL_law_287 (lv_topi (fun x28 e28 => ?_))
    have q28 : x28 = nI cc := by rw [e28]; rw [hm1]; exact i32_ss _ _
    subst q28
    refine lv_aload_n hx hb dL_law_288 rfl (lv_at hl 2 rfl) ?_
    refine lv_bipush (v := 9) hx hb dL_law_289 (by decide) ?_
    refine k_miV (As := [.int (nI 9)]) (rest := [.int (nI cc)]) (w1 := []) (wc := xH cS x a r (nI q2) (nI k2) ++ (txW cI x (nI z) T ++ (stW cI a N2 v))) (wc' := xH cS x a r (nI q2) (nI k2) ++ (txW cI x (nI z) T ++ (stW cI a N2 (c_v N2 n2 v 9)))) (w3 := rgW cI r R2 u) ⟨hx, hb, hml, hown, hts⟩ (c_X4_count_g l D cI cS cL x a r (nI q2) (nI k2) (nI z) T N2 v _ n2 hn hn14 9 (by omega)) lkL_35 rfl rfl ⟨(Nat.le_of_ble_eq_true rfl), (Nat.le_of_ble_eq_true rfl)⟩ (va_recv hK hP (ci := 3) (q0 := 0) rfl rfl) hK hE hP hD hS hA rfl rfl hl.1 rfl (Nat.le_of_ble_eq_true rfl) dL_law_291 hf (fun H locs hzz hP hD hS => ?_)
    have hP : va_P D vwCl (xH cS x a r (nI q2) (nI k2) ++ (txW cI x (nI z) T ++ (stW cI a N2 v ++ (rgW cI r R2 u)))) H := hP
    have hD : va_D ((fun q => s.heap.size ≤ q)) (xH cS x a r (nI q2) (nI k2) ++ (txW cI x (nI z) T ++ (stW cI a N2 v ++ (rgW cI r R2 u)))) := hD
    rw [show p_count N2 n2 (nI k2) 9 = N2 1 5 from rfl]
    refine lv_iload hx hb dL_law_294 (lv_at hl 10 rfl) ?_
    refine lv_isub hx hb dL_law_296 (lv_topi (fun x29 e29 => ?_))
    have q29 : x29 = nI cc := by rw [e29]; rw [hm5]; exact i32_as _ _
    subst q29
    refine lv_icmp_ne (tgt := 470) hx hb dL_law_297 (by decide) (fun h => absurd (rfl) h) (fun _ => ?_)
    refine lv_aload_n hx hb dL_law_300 rfl (lv_at hl 2 rfl) ?_
    refine lv_bipush (v := 9) hx hb dL_law_301 (by decide) ?_
    refine k_miV (As := [.int (nI 9)]) (rest := []) (w1 := []) (wc := xH cS x a r (nI q2) (nI k2) ++ (txW cI x (nI z) T ++ (stW cI a N2 v))) (wc' := xH cS x a r (nI q2) (nI k2) ++ (txW cI x (nI z) T ++ (stW cI a N2 (c_v N2 n2 v 9)))) (w3 := rgW cI r R2 u) ⟨hx, hb, hml, hown, hts⟩ (c_X4_count_g l D cI cS cL x a r (nI q2) (nI k2) (nI z) T N2 v _ n2 hn hn14 9 (by omega)) lkL_35 rfl rfl ⟨(Nat.le_of_ble_eq_true rfl), (Nat.le_of_ble_eq_true rfl)⟩ (va_recv hK hP (ci := 3) (q0 := 0) rfl rfl) hK hE hP hD hS hA rfl rfl hl.1 rfl (Nat.le_of_ble_eq_true rfl) dL_law_303 hf (fun H locs hzz hP hD hS => ?_)
    have hP : va_P D vwCl (xH cS x a r (nI q2) (nI k2) ++ (txW cI x (nI z) T ++ (stW cI a N2 v ++ (rgW cI r R2 u)))) H := hP
    have hD : va_D ((fun q => s.heap.size ≤ q)) (xH cS x a r (nI q2) (nI k2) ++ (txW cI x (nI z) T ++ (stW cI a N2 v ++ (rgW cI r R2 u)))) := hD
    rw [show p_count N2 n2 (nI k2) 9 = N2 1 5 from rfl]
    refine lv_iload hx hb dL_law_306 (lv_at hl 10 rfl) ?_
    refine lv_icmp_le (tgt := 470) hx hb dL_law_308 (by decide) (fun h => absurd h (hp4)) (fun _ => ?_)
    exact M2 H locs hP hD hS
