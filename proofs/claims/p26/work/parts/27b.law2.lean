set_option maxHeartbeats 8000000 in
set_option maxRecDepth 100000 in
theorem law_ref {p : Program} {l : Launch} {e : Env} {s : State} {m : MethodId} {args : Array Value} {below : List Frame} {meth : Method} {c : Code} {Q : State → Prop} {D : va_G} {cI cS cL : ClassId} {b L cells slots : Nat} {xs : Nat → Int32} (hx : p.tables.exec = Jvm.exec) (hb : c.code = cL_law) (hml : c.maxLocals = 17) (hts : ∀ w ∈ wsL_law, w.before args s = true) (hown : s.vm.findClass RL = some m.cls) (hfl : l.stackTraces = false) (hK : va_K D vwCl (kTy cI cS cL) s) (hE : kEn s) (hT : kEt s) (hX : va_X b L xs s s.heap) (hLL : L ≤ 260) (x a : Nat → Nat) (r : Nat → Nat → Nat) (z : Nat) (T : Nat → Int32) (v : Nat → Int32) (u : Nat → Nat → Int32) (qi kc : Nat) (N : NN) (R : Nat → NN) (n d i tu : Nat) (S h P : Nat) (br we : Int32) (hJ : J2 N n d i) (hd : d < 2 ^ 17) (hi : i < 2 ^ 17) (hS2 : S < 2 ^ 30) (hSS : S < 16 ∨ 18 < S) (hf : cells ≤ room_1.cells ∧ slots ≤ room_1.slots) (H : Heap) (locs : List Loc)
    (hP : va_P D vwCl (xH cS x a r (nI qi) (nI kc) ++ (txW cI x (nI z) T ++ (stW cI a N v ++ (rgW cI r R u)))) H) (hD : va_D (fun q => s.heap.size ≤ q) (xH cS x a r (nI qi) (nI kc) ++ (txW cI x (nI z) T ++ (stW cI a N v ++ (rgW cI r R u))))) (hS : va_S (fun q => s.heap.size ≤ q) s.heap H locs) (ls : Array Slot) (hl : lv_has ls 17 [(0, .ref b), (1, .ref (x 0)), (2, .int 1), (3, .int (nI tu)), (4, .int (nI i)), (5, .int (nI kc)), (6, .int (N 1 0)), (7, .int (N 1 1)), (8, .int (nI n)), (9, .int (N 1 3)), (10, .int (N 1 5)), (11, .int (nI S)), (12, .int (nI h)), (13, .int (nI P)), (14, .int br), (15, .int we), (16, .int (-3))])
    (kk : ∀ (H : Heap) (locs : List Loc), va_P D vwCl (xH cS x a r (nI qi) (nI kc) ++ (txW cI x (nI z) T ++ (stW cI a N (p_lay N (nI 2) (-1) n) ++ (rgW cI r R u)))) H → va_D (fun q => s.heap.size ≤ q) (xH cS x a r (nI qi) (nI kc) ++ (txW cI x (nI z) T ++ (stW cI a N (p_lay N (nI 2) (-1) n) ++ (rgW cI r R u)))) → va_S (fun q => s.heap.size ≤ q) s.heap H locs → ∀ ls : Array Slot, lv_has ls 17 [(0, .ref b), (1, .ref (x 0)), (2, .int 1), (3, .int (nI tu)), (4, .int (nI i))] → W p l e room_1 s m args below meth c H locs cells slots Q (F0 m 472 ls [])) : W p l e room_1 s m args below meth c H locs cells slots Q (F0 m 195 ls []) := by
  have hA : ∀ q : Nat, s.heap.size ≤ q → (fun q => s.heap.size ≤ q) q := fun q h => h
  have hn := hJ.1.2.1
  have hn14 := hJ.1.1
  refine lv_iload hx hb dL_law_195 (lv_at hl 16 rfl) ?_
  refine lv_if_ge (tgt := 252) hx hb dL_law_197 (by decide) (fun h => absurd h (by decide)) (fun _ => ?_)
  refine lv_aload_n hx hb dL_law_200 rfl (lv_at hl 1 rfl) ?_
  refine lv_bipush (v := 10) hx hb dL_law_201 (by decide) ?_
  refine k_miV (As := [.int (nI 10)]) (rest := []) (w1 := []) (wc := xH cS x a r (nI qi) (nI kc) ++ (txW cI x (nI z) T ++ (stW cI a N v))) (wc' := xH cS x a r (nI qi) (nI kc) ++ (txW cI x (nI z) T ++ (stW cI a N (c_v N n v 10)))) (w3 := rgW cI r R u) ⟨hx, hb, hml, hown, hts⟩ (c_X4_count_g l D cI cS cL x a r (nI qi) (nI kc) (nI z) T N v _ n hn hn14 10 (by omega)) lkL_35 rfl rfl ⟨(Nat.le_of_ble_eq_true rfl), (Nat.le_of_ble_eq_true rfl)⟩ (va_recv hK hP (ci := 3) (q0 := 0) rfl rfl) hK hE hP hD hS hA rfl rfl hl.1 rfl (Nat.le_of_ble_eq_true rfl) dL_law_203 hf (fun H locs hzz hP hD hS => ?_)
  have hP : va_P D vwCl (xH cS x a r (nI qi) (nI kc) ++ (txW cI x (nI z) T ++ (stW cI a N v ++ (rgW cI r R u)))) H := hP
  have hD : va_D ((fun q => s.heap.size ≤ q)) (xH cS x a r (nI qi) (nI kc) ++ (txW cI x (nI z) T ++ (stW cI a N v ++ (rgW cI r R u)))) := hD
  rw [show p_count N n (nI kc) 10 = nI kc from rfl]
  refine lv_iload hx hb dL_law_206 (lv_at hl 5 rfl) ?_
  refine lv_icmp_ne (tgt := 256) hx hb dL_law_208 (by decide) (fun h => absurd (rfl) h) (fun _ => ?_)
  refine lv_aload_n hx hb dL_law_211 rfl (lv_at hl 1 rfl) ?_
  refine lv_iconst (v := 0) hx hb dL_law_212 (by decide) ?_
  refine k_miV (As := [.int (nI 0)]) (rest := []) (w1 := []) (wc := xH cS x a r (nI qi) (nI kc) ++ (txW cI x (nI z) T ++ (stW cI a N v))) (wc' := xH cS x a r (nI qi) (nI kc) ++ (txW cI x (nI z) T ++ (stW cI a N (c_v N n v 0)))) (w3 := rgW cI r R u) ⟨hx, hb, hml, hown, hts⟩ (c_X4_count_g l D cI cS cL x a r (nI qi) (nI kc) (nI z) T N v _ n hn hn14 0 (by omega)) lkL_35 rfl rfl ⟨(Nat.le_of_ble_eq_true rfl), (Nat.le_of_ble_eq_true rfl)⟩ (va_recv hK hP (ci := 3) (q0 := 0) rfl rfl) hK hE hP hD hS hA rfl rfl hl.1 rfl (Nat.le_of_ble_eq_true rfl) dL_law_213 hf (fun H locs hzz hP hD hS => ?_)
  have hP : va_P D vwCl (xH cS x a r (nI qi) (nI kc) ++ (txW cI x (nI z) T ++ (stW cI a N v ++ (rgW cI r R u)))) H := hP
  have hD : va_D ((fun q => s.heap.size ≤ q)) (xH cS x a r (nI qi) (nI kc) ++ (txW cI x (nI z) T ++ (stW cI a N v ++ (rgW cI r R u)))) := hD
  rw [show p_count N n (nI kc) 0 = N 1 0 from rfl]
  refine lv_iload hx hb dL_law_216 (lv_at hl 6 rfl) ?_
  refine lv_icmp_ne (tgt := 256) hx hb dL_law_218 (by decide) (fun h => absurd (rfl) h) (fun _ => ?_)
  refine lv_aload_n hx hb dL_law_221 rfl (lv_at hl 1 rfl) ?_
  refine lv_iconst (v := 1) hx hb dL_law_222 (by decide) ?_
  refine k_miV (As := [.int (nI 1)]) (rest := []) (w1 := []) (wc := xH cS x a r (nI qi) (nI kc) ++ (txW cI x (nI z) T ++ (stW cI a N v))) (wc' := xH cS x a r (nI qi) (nI kc) ++ (txW cI x (nI z) T ++ (stW cI a N (c_v N n v 1)))) (w3 := rgW cI r R u) ⟨hx, hb, hml, hown, hts⟩ (c_X4_count_g l D cI cS cL x a r (nI qi) (nI kc) (nI z) T N v _ n hn hn14 1 (by omega)) lkL_35 rfl rfl ⟨(Nat.le_of_ble_eq_true rfl), (Nat.le_of_ble_eq_true rfl)⟩ (va_recv hK hP (ci := 3) (q0 := 0) rfl rfl) hK hE hP hD hS hA rfl rfl hl.1 rfl (Nat.le_of_ble_eq_true rfl) dL_law_223 hf (fun H locs hzz hP hD hS => ?_)
  have hP : va_P D vwCl (xH cS x a r (nI qi) (nI kc) ++ (txW cI x (nI z) T ++ (stW cI a N v ++ (rgW cI r R u)))) H := hP
  have hD : va_D ((fun q => s.heap.size ≤ q)) (xH cS x a r (nI qi) (nI kc) ++ (txW cI x (nI z) T ++ (stW cI a N v ++ (rgW cI r R u)))) := hD
  rw [show p_count N n (nI kc) 1 = N 1 1 from rfl]
  refine lv_iload hx hb dL_law_226 (lv_at hl 7 rfl) ?_
  refine lv_icmp_ne (tgt := 256) hx hb dL_law_228 (by decide) (fun h => absurd (rfl) h) (fun _ => ?_)
  refine lv_aload_n hx hb dL_law_231 rfl (lv_at hl 1 rfl) ?_
  refine lv_iconst (v := 2) hx hb dL_law_232 (by decide) ?_
  refine k_miV (As := [.int (nI 2)]) (rest := []) (w1 := []) (wc := xH cS x a r (nI qi) (nI kc) ++ (txW cI x (nI z) T ++ (stW cI a N v))) (wc' := xH cS x a r (nI qi) (nI kc) ++ (txW cI x (nI z) T ++ (stW cI a N (c_v N n v 2)))) (w3 := rgW cI r R u) ⟨hx, hb, hml, hown, hts⟩ (c_X4_count_g l D cI cS cL x a r (nI qi) (nI kc) (nI z) T N v _ n hn hn14 2 (by omega)) lkL_35 rfl rfl ⟨(Nat.le_of_ble_eq_true rfl), (Nat.le_of_ble_eq_true rfl)⟩ (va_recv hK hP (ci := 3) (q0 := 0) rfl rfl) hK hE hP hD hS hA rfl rfl hl.1 rfl (Nat.le_of_ble_eq_true rfl) dL_law_233 hf (fun H locs hzz hP hD hS => ?_)
  have hP : va_P D vwCl (xH cS x a r (nI qi) (nI kc) ++ (txW cI x (nI z) T ++ (stW cI a N v ++ (rgW cI r R u)))) H := hP
  have hD : va_D ((fun q => s.heap.size ≤ q)) (xH cS x a r (nI qi) (nI kc) ++ (txW cI x (nI z) T ++ (stW cI a N v ++ (rgW cI r R u)))) := hD
  rw [show p_count N n (nI kc) 2 = nI n from hn]
  refine lv_iload hx hb dL_law_236 (lv_at hl 8 rfl) ?_
  refine lv_icmp_ne (tgt := 256) hx hb dL_law_238 (by decide) (fun h => absurd (rfl) h) (fun _ => ?_)
  refine lv_aload_n hx hb dL_law_241 rfl (lv_at hl 1 rfl) ?_
  refine lv_bipush (v := 7) hx hb dL_law_242 (by decide) ?_
  refine k_miV (As := [.int (nI 7)]) (rest := []) (w1 := []) (wc := xH cS x a r (nI qi) (nI kc) ++ (txW cI x (nI z) T ++ (stW cI a N v))) (wc' := xH cS x a r (nI qi) (nI kc) ++ (txW cI x (nI z) T ++ (stW cI a N (c_v N n v 7)))) (w3 := rgW cI r R u) ⟨hx, hb, hml, hown, hts⟩ (c_X4_count_g l D cI cS cL x a r (nI qi) (nI kc) (nI z) T N v _ n hn hn14 7 (by omega)) lkL_35 rfl rfl ⟨(Nat.le_of_ble_eq_true rfl), (Nat.le_of_ble_eq_true rfl)⟩ (va_recv hK hP (ci := 3) (q0 := 0) rfl rfl) hK hE hP hD hS hA rfl rfl hl.1 rfl (Nat.le_of_ble_eq_true rfl) dL_law_244 hf (fun H locs hzz hP hD hS => ?_)
  have hP : va_P D vwCl (xH cS x a r (nI qi) (nI kc) ++ (txW cI x (nI z) T ++ (stW cI a N v ++ (rgW cI r R u)))) H := hP
  have hD : va_D ((fun q => s.heap.size ≤ q)) (xH cS x a r (nI qi) (nI kc) ++ (txW cI x (nI z) T ++ (stW cI a N v ++ (rgW cI r R u)))) := hD
  rw [show p_count N n (nI kc) 7 = N 1 3 from rfl]
  refine lv_iload hx hb dL_law_247 (lv_at hl 9 rfl) ?_
  refine lv_icmp_ne (tgt := 256) hx hb dL_law_249 (by decide) (fun h => absurd (rfl) h) (fun _ => ?_)
  refine lv_iconst (v := 1) hx hb dL_law_252 (by decide) ?_
  refine lv_goto (tgt := 257) hx hb dL_law_253 (by decide) ?_
  refine lv_istore_n (lv' := [(2, .int 1), (0, .ref b), (1, .ref (x 0)), (3, .int (nI tu)), (4, .int (nI i)), (5, .int (nI kc)), (6, .int (N 1 0)), (7, .int (N 1 1)), (8, .int (nI n)), (9, .int (N 1 3)), (10, .int (N 1 5)), (11, .int (nI S)), (12, .int (nI h)), (13, .int (nI P)), (14, .int br), (15, .int we), (16, .int (-3))]) hx hb dL_law_257 rfl hl (by decide) rfl (fun ls hl => ?_)
  refine lv_iload_n hx hb dL_law_258 rfl (lv_at hl 0 rfl) ?_
  refine lv_if_eq (tgt := 470) hx hb dL_law_259 (by decide) (fun h => absurd h (by decide)) (fun _ => ?_)
  have M6 : W p l e room_1 s m args below meth c H locs cells slots (Q) (F0 m 311 ls ([])) := by
    have M7 : W p l e room_1 s m args below meth c H locs cells slots (Q) (F0 m 428 ls ([])) := by
      have M8 : W p l e room_1 s m args below meth c H locs cells slots (Q) (F0 m 459 ls ([])) := by
        refine lv_aload_n hx hb dL_law_459 rfl (lv_at hl 2 rfl) ?_
        refine k_miS (As := [.ref (x 0)]) (rest := []) (w1 := []) (wc := xH cS x a r (nI qi) (nI kc) ++ (txW cI x (nI z) T ++ (stW cI a N v))) (wc' := xH cS x a r (nI qi) (nI kc) ++ (txW cI x (nI z) T ++ (stW cI a N (p_lay N (nI 2) (-1) n)))) (w3 := rgW cI r R u) ⟨hx, hb, hml, hown, hts⟩ (c_L_station l D cI cS cL x a r (nI qi) (nI kc) (nI z) T N v _ n d i hJ (by omega) (by omega)) lkL_102 rfl rfl ⟨(Nat.le_of_ble_eq_true rfl), (Nat.le_of_ble_eq_true rfl)⟩ hK hE hP hD hS hA rfl rfl hl.1 rfl (Nat.le_of_ble_eq_true rfl) dL_law_460 hf (fun H locs hzz hP hD hS => ?_)
        have hP : va_P D vwCl (xH cS x a r (nI qi) (nI kc) ++ (txW cI x (nI z) T ++ (stW cI a N (p_lay N (nI 2) (-1) n) ++ (rgW cI r R u)))) H := hP
        have hD : va_D ((fun q => s.heap.size ≤ q)) (xH cS x a r (nI qi) (nI kc) ++ (txW cI x (nI z) T ++ (stW cI a N (p_lay N (nI 2) (-1) n) ++ (rgW cI r R u)))) := hD
        refine lv_if_eq (tgt := 470) hx hb dL_law_463 (by decide) (fun h => absurd h (by decide)) (fun _ => ?_)
        refine lv_iconst (v := 1) hx hb dL_law_466 (by decide) ?_
        refine lv_goto (tgt := 471) hx hb dL_law_467 (by decide) ?_
        refine lv_istore_n (lv' := [(2, .int 1), (0, .ref b), (1, .ref (x 0)), (3, .int (nI tu)), (4, .int (nI i)), (5, .int (nI kc)), (6, .int (N 1 0)), (7, .int (N 1 1)), (8, .int (nI n)), (9, .int (N 1 3)), (10, .int (N 1 5)), (11, .int (nI S)), (12, .int (nI h)), (13, .int (nI P)), (14, .int br), (15, .int we), (16, .int (-3))]) hx hb dL_law_471 rfl hl (by decide) rfl (fun ls hl => ?_)
        exact kk H locs hP hD hS ls (lv_sub hl [1, 2, 0, 3, 4] rfl)
      refine lv_iload hx hb dL_law_428 (lv_at hl 11 rfl) ?_
      refine lv_bipush (v := 16) hx hb dL_law_430 (by decide) ?_
      refine lv_icmp_lt (tgt := 459) hx hb dL_law_432 (by decide) (fun c9 => ?_) (fun c9 => ?_)
      · have c9' := Int32.not_le.mpr c9
        exact M8
      · have c9' := Int32.not_lt.mp c9
        have hS16 := (nI_leI (a := 16) (b := S) (by decide) (by omega)).mp c9'
        refine lv_iload hx hb dL_law_435 (lv_at hl 11 rfl) ?_
        refine lv_bipush (v := 18) hx hb dL_law_437 (by decide) ?_
        refine lv_icmp_gt (tgt := 459) hx hb dL_law_439 (by decide) (fun c10 => ?_) (fun c10 => ?_)
        · have c10' := Int32.not_le.mpr c10
          exact M8
        · have c10' := Int32.not_lt.mp c10
          exact absurd ((nI_leI (a := S) (b := 18) (by omega) (by decide)).mp c10') (by omega)
    refine lv_iload hx hb dL_law_311 (lv_at hl 11 rfl) ?_
    refine lv_bipush (v := 9) hx hb dL_law_313 (by decide) ?_
    refine lv_icmp_lt (tgt := 428) hx hb dL_law_315 (by decide) (fun c11 => ?_) (fun c11 => ?_)
    · have c11' := Int32.not_le.mpr c11
      exact M7
    · have c11' := Int32.not_lt.mp c11
      refine lv_iload hx hb dL_law_318 (lv_at hl 11 rfl) ?_
      refine lv_bipush (v := 12) hx hb dL_law_320 (by decide) ?_
      refine lv_icmp_gt (tgt := 428) hx hb dL_law_322 (by decide) (fun c12 => ?_) (fun c12 => ?_)
      · have c12' := Int32.not_le.mpr c12
        exact M7
      · have c12' := Int32.not_lt.mp c12
        refine lv_iload hx hb dL_law_325 (lv_at hl 16 rfl) ?_
        refine lv_if_lt (tgt := 428) hx hb dL_law_327 (by decide) (fun _ => ?_) (fun h => absurd (by decide) h)
        exact M7
  refine lv_iload hx hb dL_law_262 (lv_at hl 11 rfl) ?_
  refine lv_iconst (v := 4) hx hb dL_law_264 (by decide) ?_
  refine lv_icmp_gt (tgt := 311) hx hb dL_law_265 (by decide) (fun c13 => ?_) (fun c13 => ?_)
  · have c13' := Int32.not_le.mpr c13
    exact M6
  · have c13' := Int32.not_lt.mp c13
    refine lv_iload hx hb dL_law_268 (lv_at hl 16 rfl) ?_
    refine lv_if_lt (tgt := 311) hx hb dL_law_270 (by decide) (fun _ => ?_) (fun h => absurd (by decide) h)
    exact M6
