set_option maxHeartbeats 8000000 in
set_option maxRecDepth 100000 in
theorem law_turn {p : Program} {l : Launch} {e : Env} {s : State} {m : MethodId} {args : Array Value} {below : List Frame} {meth : Method} {c : Code} {Q : State → Prop} {D : va_G} {cI cS cL : ClassId} {b L cells slots : Nat} {xs : Nat → Int32} (hx : p.tables.exec = Jvm.exec) (hb : c.code = cL_law) (hml : c.maxLocals = 17) (hts : ∀ w ∈ wsL_law, w.before args s = true) (hown : s.vm.findClass RL = some m.cls) (hfl : l.stackTraces = false) (hK : va_K D vwCl (kTy cI cS cL) s) (hE : kEn s) (hT : kEt s) (hX : va_X b L xs s s.heap) (hLL : L ≤ 260) (x a : Nat → Nat) (r : Nat → Nat → Nat) (z : Nat) (T : Nat → Int32) (v : Nat → Int32) (u : Nat → Nat → Int32) (qi kc : Nat) (N : NN) (R : Nat → NN) (n d i tu : Nat) (hLR : LR2 N n d qi kc R i) (hi : i < 1000) (hk3 : 3 * i + 2 < L) (hf1 : cells + 1 ≤ room_1.cells ∧ slots + 6 ≤ room_1.slots) (H : Heap) (locs : List Loc)
    (hP : va_P D vwCl (xH cS x a r (nI qi) (nI kc) ++ (txW cI x (nI z) T ++ (stW cI a N v ++ (rgW cI r R u)))) H) (hD : va_D (fun q => s.heap.size ≤ q) (xH cS x a r (nI qi) (nI kc) ++ (txW cI x (nI z) T ++ (stW cI a N v ++ (rgW cI r R u))))) (hS : va_S (fun q => s.heap.size ≤ q) s.heap H locs) (ls : Array Slot) (hl : lv_has ls 17 [(0, .ref b), (1, .ref (x 0)), (2, .int 1), (3, .int (nI tu)), (4, .int (nI i))])
    (kk : ∀ (t9 : Int32) (y9 : AU) (H : Heap) (locs : List Loc), AP N n d qi kc R i (p_low (xs (3 * i)) 20) (p_hx (xs (3 * i + 1)) n) (4 + p_low (xs (3 * i + 2)) 21) t9 y9 → va_P D vwCl ((fun y9 : AU => xH cS x a r (nI y9.1) (nI y9.2.1) ++ (txW cI x (nI z) T ++ (stW cI a y9.2.2.1 v ++ rgW cI r y9.2.2.2 u))) y9) H → va_D (fun q => s.heap.size ≤ q) ((fun y9 : AU => xH cS x a r (nI y9.1) (nI y9.2.1) ++ (txW cI x (nI z) T ++ (stW cI a y9.2.2.1 v ++ rgW cI r y9.2.2.2 u))) y9) → va_S (fun q => s.heap.size ≤ q) s.heap H locs → ∀ ls : Array Slot, lv_has ls 17 [(0, .ref b), (1, .ref (x 0)), (2, .int 1), (3, .int (nI tu)), (4, .int (nI i)), (5, .int (nI kc)), (6, .int (N 1 0)), (7, .int (N 1 1)), (8, .int (nI n)), (9, .int (N 1 3)), (10, .int (N 1 5)), (11, .int (nI (p_low (xs (3 * i)) 20))), (12, .int (nI (p_hx (xs (3 * i + 1)) n))), (13, .int (nI (4 + p_low (xs (3 * i + 2)) 21))), (14, .int (if n = 0 then -1 else p_tried N (p_hx (xs (3 * i + 1)) n) (4 + p_low (xs (3 * i + 2)) 21))), (15, .int (if n = 0 then 0 else N 7 (p_hx (xs (3 * i + 1)) n))), (16, .int t9)] → W p l e room_1 s m args below meth c H locs (cells + 1) (slots + 6) Q (F0 m 195 ls [])) : W p l e room_1 s m args below meth c H locs cells slots Q (F0 m 42 ls []) := by
  have hA : ∀ q : Nat, s.heap.size ≤ q → (fun q => s.heap.size ≤ q) q := fun q h => h
  have hn := hLR.1.1.1.2.1
  have hn14 := hLR.1.1.1.1
  have hf : cells ≤ room_1.cells ∧ slots ≤ room_1.slots := ⟨by have := hf1.1; omega, by have := hf1.2; omega⟩
  have hbA : ¬ (fun q => s.heap.size ≤ q) b := Nat.not_le.mpr hX.lt
  refine lv_aload_n hx hb dL_law_42 rfl (lv_at hl 1 rfl) ?_
  refine lv_bipush (v := 10) hx hb dL_law_43 (by decide) ?_
  refine k_miV (As := [.int (nI 10)]) (rest := []) (w1 := []) (wc := xH cS x a r (nI qi) (nI kc) ++ (txW cI x (nI z) T ++ (stW cI a N v))) (wc' := xH cS x a r (nI qi) (nI kc) ++ (txW cI x (nI z) T ++ (stW cI a N (c_v N n v 10)))) (w3 := rgW cI r R u) ⟨hx, hb, hml, hown, hts⟩ (c_X4_count_g l D cI cS cL x a r (nI qi) (nI kc) (nI z) T N v _ n hn hn14 10 (by omega)) lkL_35 rfl rfl ⟨(Nat.le_of_ble_eq_true rfl), (Nat.le_of_ble_eq_true rfl)⟩ (va_recv hK hP (ci := 3) (q0 := 0) rfl rfl) hK hE hP hD hS hA rfl rfl hl.1 rfl (Nat.le_of_ble_eq_true rfl) dL_law_45 hf (fun H locs hzz hP hD hS => ?_)
  have hP : va_P D vwCl (xH cS x a r (nI qi) (nI kc) ++ (txW cI x (nI z) T ++ (stW cI a N v ++ (rgW cI r R u)))) H := hP
  have hD : va_D ((fun q => s.heap.size ≤ q)) (xH cS x a r (nI qi) (nI kc) ++ (txW cI x (nI z) T ++ (stW cI a N v ++ (rgW cI r R u)))) := hD
  rw [show p_count N n (nI kc) 10 = nI kc from rfl]
  refine lv_istore (lv' := [(5, .int (nI kc)), (0, .ref b), (1, .ref (x 0)), (2, .int 1), (3, .int (nI tu)), (4, .int (nI i))]) hx hb dL_law_48 hl (by decide) rfl (fun ls hl => ?_)
  refine lv_aload_n hx hb dL_law_50 rfl (lv_at hl 2 rfl) ?_
  refine lv_iconst (v := 0) hx hb dL_law_51 (by decide) ?_
  refine k_miV (As := [.int (nI 0)]) (rest := []) (w1 := []) (wc := xH cS x a r (nI qi) (nI kc) ++ (txW cI x (nI z) T ++ (stW cI a N v))) (wc' := xH cS x a r (nI qi) (nI kc) ++ (txW cI x (nI z) T ++ (stW cI a N (c_v N n v 0)))) (w3 := rgW cI r R u) ⟨hx, hb, hml, hown, hts⟩ (c_X4_count_g l D cI cS cL x a r (nI qi) (nI kc) (nI z) T N v _ n hn hn14 0 (by omega)) lkL_35 rfl rfl ⟨(Nat.le_of_ble_eq_true rfl), (Nat.le_of_ble_eq_true rfl)⟩ (va_recv hK hP (ci := 3) (q0 := 0) rfl rfl) hK hE hP hD hS hA rfl rfl hl.1 rfl (Nat.le_of_ble_eq_true rfl) dL_law_52 hf (fun H locs hzz hP hD hS => ?_)
  have hP : va_P D vwCl (xH cS x a r (nI qi) (nI kc) ++ (txW cI x (nI z) T ++ (stW cI a N v ++ (rgW cI r R u)))) H := hP
  have hD : va_D ((fun q => s.heap.size ≤ q)) (xH cS x a r (nI qi) (nI kc) ++ (txW cI x (nI z) T ++ (stW cI a N v ++ (rgW cI r R u)))) := hD
  rw [show p_count N n (nI kc) 0 = N 1 0 from rfl]
  refine lv_istore (lv' := [(6, .int (N 1 0)), (5, .int (nI kc)), (0, .ref b), (1, .ref (x 0)), (2, .int 1), (3, .int (nI tu)), (4, .int (nI i))]) hx hb dL_law_55 hl (by decide) rfl (fun ls hl => ?_)
  refine lv_aload_n hx hb dL_law_57 rfl (lv_at hl 3 rfl) ?_
  refine lv_iconst (v := 1) hx hb dL_law_58 (by decide) ?_
  refine k_miV (As := [.int (nI 1)]) (rest := []) (w1 := []) (wc := xH cS x a r (nI qi) (nI kc) ++ (txW cI x (nI z) T ++ (stW cI a N v))) (wc' := xH cS x a r (nI qi) (nI kc) ++ (txW cI x (nI z) T ++ (stW cI a N (c_v N n v 1)))) (w3 := rgW cI r R u) ⟨hx, hb, hml, hown, hts⟩ (c_X4_count_g l D cI cS cL x a r (nI qi) (nI kc) (nI z) T N v _ n hn hn14 1 (by omega)) lkL_35 rfl rfl ⟨(Nat.le_of_ble_eq_true rfl), (Nat.le_of_ble_eq_true rfl)⟩ (va_recv hK hP (ci := 3) (q0 := 0) rfl rfl) hK hE hP hD hS hA rfl rfl hl.1 rfl (Nat.le_of_ble_eq_true rfl) dL_law_59 hf (fun H locs hzz hP hD hS => ?_)
  have hP : va_P D vwCl (xH cS x a r (nI qi) (nI kc) ++ (txW cI x (nI z) T ++ (stW cI a N v ++ (rgW cI r R u)))) H := hP
  have hD : va_D ((fun q => s.heap.size ≤ q)) (xH cS x a r (nI qi) (nI kc) ++ (txW cI x (nI z) T ++ (stW cI a N v ++ (rgW cI r R u)))) := hD
  rw [show p_count N n (nI kc) 1 = N 1 1 from rfl]
  refine lv_istore (lv' := [(7, .int (N 1 1)), (6, .int (N 1 0)), (5, .int (nI kc)), (0, .ref b), (1, .ref (x 0)), (2, .int 1), (3, .int (nI tu)), (4, .int (nI i))]) hx hb dL_law_62 hl (by decide) rfl (fun ls hl => ?_)
  refine lv_aload_n hx hb dL_law_64 rfl (lv_at hl 4 rfl) ?_
  refine lv_iconst (v := 2) hx hb dL_law_65 (by decide) ?_
  refine k_miV (As := [.int (nI 2)]) (rest := []) (w1 := []) (wc := xH cS x a r (nI qi) (nI kc) ++ (txW cI x (nI z) T ++ (stW cI a N v))) (wc' := xH cS x a r (nI qi) (nI kc) ++ (txW cI x (nI z) T ++ (stW cI a N (c_v N n v 2)))) (w3 := rgW cI r R u) ⟨hx, hb, hml, hown, hts⟩ (c_X4_count_g l D cI cS cL x a r (nI qi) (nI kc) (nI z) T N v _ n hn hn14 2 (by omega)) lkL_35 rfl rfl ⟨(Nat.le_of_ble_eq_true rfl), (Nat.le_of_ble_eq_true rfl)⟩ (va_recv hK hP (ci := 3) (q0 := 0) rfl rfl) hK hE hP hD hS hA rfl rfl hl.1 rfl (Nat.le_of_ble_eq_true rfl) dL_law_66 hf (fun H locs hzz hP hD hS => ?_)
  have hP : va_P D vwCl (xH cS x a r (nI qi) (nI kc) ++ (txW cI x (nI z) T ++ (stW cI a N v ++ (rgW cI r R u)))) H := hP
  have hD : va_D ((fun q => s.heap.size ≤ q)) (xH cS x a r (nI qi) (nI kc) ++ (txW cI x (nI z) T ++ (stW cI a N v ++ (rgW cI r R u)))) := hD
  rw [show p_count N n (nI kc) 2 = nI n from hn]
  refine lv_istore (lv' := [(8, .int (nI n)), (7, .int (N 1 1)), (6, .int (N 1 0)), (5, .int (nI kc)), (0, .ref b), (1, .ref (x 0)), (2, .int 1), (3, .int (nI tu)), (4, .int (nI i))]) hx hb dL_law_69 hl (by decide) rfl (fun ls hl => ?_)
  refine lv_aload_n hx hb dL_law_71 rfl (lv_at hl 5 rfl) ?_
  refine lv_bipush (v := 7) hx hb dL_law_72 (by decide) ?_
  refine k_miV (As := [.int (nI 7)]) (rest := []) (w1 := []) (wc := xH cS x a r (nI qi) (nI kc) ++ (txW cI x (nI z) T ++ (stW cI a N v))) (wc' := xH cS x a r (nI qi) (nI kc) ++ (txW cI x (nI z) T ++ (stW cI a N (c_v N n v 7)))) (w3 := rgW cI r R u) ⟨hx, hb, hml, hown, hts⟩ (c_X4_count_g l D cI cS cL x a r (nI qi) (nI kc) (nI z) T N v _ n hn hn14 7 (by omega)) lkL_35 rfl rfl ⟨(Nat.le_of_ble_eq_true rfl), (Nat.le_of_ble_eq_true rfl)⟩ (va_recv hK hP (ci := 3) (q0 := 0) rfl rfl) hK hE hP hD hS hA rfl rfl hl.1 rfl (Nat.le_of_ble_eq_true rfl) dL_law_74 hf (fun H locs hzz hP hD hS => ?_)
  have hP : va_P D vwCl (xH cS x a r (nI qi) (nI kc) ++ (txW cI x (nI z) T ++ (stW cI a N v ++ (rgW cI r R u)))) H := hP
  have hD : va_D ((fun q => s.heap.size ≤ q)) (xH cS x a r (nI qi) (nI kc) ++ (txW cI x (nI z) T ++ (stW cI a N v ++ (rgW cI r R u)))) := hD
  rw [show p_count N n (nI kc) 7 = N 1 3 from rfl]
  refine lv_istore (lv' := [(9, .int (N 1 3)), (8, .int (nI n)), (7, .int (N 1 1)), (6, .int (N 1 0)), (5, .int (nI kc)), (0, .ref b), (1, .ref (x 0)), (2, .int 1), (3, .int (nI tu)), (4, .int (nI i))]) hx hb dL_law_77 hl (by decide) rfl (fun ls hl => ?_)
  refine lv_aload_n hx hb dL_law_79 rfl (lv_at hl 6 rfl) ?_
  refine lv_bipush (v := 9) hx hb dL_law_80 (by decide) ?_
  refine k_miV (As := [.int (nI 9)]) (rest := []) (w1 := []) (wc := xH cS x a r (nI qi) (nI kc) ++ (txW cI x (nI z) T ++ (stW cI a N v))) (wc' := xH cS x a r (nI qi) (nI kc) ++ (txW cI x (nI z) T ++ (stW cI a N (c_v N n v 9)))) (w3 := rgW cI r R u) ⟨hx, hb, hml, hown, hts⟩ (c_X4_count_g l D cI cS cL x a r (nI qi) (nI kc) (nI z) T N v _ n hn hn14 9 (by omega)) lkL_35 rfl rfl ⟨(Nat.le_of_ble_eq_true rfl), (Nat.le_of_ble_eq_true rfl)⟩ (va_recv hK hP (ci := 3) (q0 := 0) rfl rfl) hK hE hP hD hS hA rfl rfl hl.1 rfl (Nat.le_of_ble_eq_true rfl) dL_law_82 hf (fun H locs hzz hP hD hS => ?_)
  have hP : va_P D vwCl (xH cS x a r (nI qi) (nI kc) ++ (txW cI x (nI z) T ++ (stW cI a N v ++ (rgW cI r R u)))) H := hP
  have hD : va_D ((fun q => s.heap.size ≤ q)) (xH cS x a r (nI qi) (nI kc) ++ (txW cI x (nI z) T ++ (stW cI a N v ++ (rgW cI r R u)))) := hD
  rw [show p_count N n (nI kc) 9 = N 1 5 from rfl]
  refine lv_istore (lv' := [(10, .int (N 1 5)), (9, .int (N 1 3)), (8, .int (nI n)), (7, .int (N 1 1)), (6, .int (N 1 0)), (5, .int (nI kc)), (0, .ref b), (1, .ref (x 0)), (2, .int 1), (3, .int (nI tu)), (4, .int (nI i))]) hx hb dL_law_85 hl (by decide) rfl (fun ls hl => ?_)
  refine lv_aload_n hx hb dL_law_87 rfl (lv_at hl 6 rfl) ?_
  refine lv_iconst (v := 3) hx hb dL_law_88 (by decide) ?_
  refine lv_iload hx hb dL_law_89 (lv_at hl 10 rfl) ?_
  refine lv_imul hx hb dL_law_91 (lv_topi (fun x1 e1 => ?_))
  have q1 : x1 = nI (3 * i) := by rw [e1]; exact pk_mul 3 i
  subst q1
  refine k_rX (As := [.ref b, .int (nI (3 * i))]) (rest := []) ⟨hx, hb, hml, hown, hts⟩ (c_L_cell l (by omega) hLL) lkL_63 rfl rfl ⟨(Nat.le_of_ble_eq_true rfl), (Nat.le_of_ble_eq_true rfl)⟩ hX hbA hS rfl hl.1 rfl (Nat.le_of_ble_eq_true rfl) dL_law_92 hf ?_
  refine lv_bipush (v := 20) hx hb dL_law_95 (by decide) ?_
  refine k_riS (As := [.int (xs (3 * i)), .int (nI 20)]) (rest := []) (wc := []) ⟨hx, hb, hml, hown, hts⟩ (c_L_low l D cI cS cL _ (xs (3 * i)) 20 (by omega) (by omega)) lkL_69 rfl rfl ⟨(Nat.le_of_ble_eq_true rfl), (Nat.le_of_ble_eq_true rfl)⟩ hK hE k_nilP (k_nilD (A := (fun q => s.heap.size ≤ q))) rfl hl.1 rfl (Nat.le_of_ble_eq_true rfl) dL_law_97 hf ?_
  refine lv_istore (lv' := [(11, .int (nI (p_low (xs (3 * i)) 20))), (10, .int (N 1 5)), (9, .int (N 1 3)), (8, .int (nI n)), (7, .int (N 1 1)), (6, .int (N 1 0)), (5, .int (nI kc)), (0, .ref b), (1, .ref (x 0)), (2, .int 1), (3, .int (nI tu)), (4, .int (nI i))]) hx hb dL_law_100 hl (by decide) rfl (fun ls hl => ?_)
  refine lv_iload hx hb dL_law_102 (lv_at hl 3 rfl) ?_
  have J2 : ∀ zj : Int32, zj = nI (p_hx (xs (3 * i + 1)) n) → W p l e room_1 s m args below meth c H locs cells slots (Q) (F0 m 126 ls ([.int zj])) := by
    intro zj hzj
    subst hzj
    refine lv_istore (lv' := [(12, .int (nI (p_hx (xs (3 * i + 1)) n))), (11, .int (nI (p_low (xs (3 * i)) 20))), (10, .int (N 1 5)), (9, .int (N 1 3)), (8, .int (nI n)), (7, .int (N 1 1)), (6, .int (N 1 0)), (5, .int (nI kc)), (0, .ref b), (1, .ref (x 0)), (2, .int 1), (3, .int (nI tu)), (4, .int (nI i))]) hx hb dL_law_126 hl (by decide) rfl (fun ls hl => ?_)
    refine lv_iconst (v := 4) hx hb dL_law_128 (by decide) ?_
    refine lv_aload_n hx hb dL_law_129 rfl (lv_at hl 8 rfl) ?_
    refine lv_iconst (v := 3) hx hb dL_law_130 (by decide) ?_
    refine lv_iload hx hb dL_law_131 (lv_at hl 12 rfl) ?_
    refine lv_imul hx hb dL_law_133 (lv_topi (fun x3 e3 => ?_))
    have q3 : x3 = nI (3 * i) := by rw [e3]; exact pk_mul 3 i
    subst q3
    refine lv_iconst (v := 2) hx hb dL_law_134 (by decide) ?_
    refine lv_iadd hx hb dL_law_135 (lv_topi (fun x4 e4 => ?_))
    have q4 : x4 = nI (3 * i + 2) := by rw [e4]; exact nI_add (3 * i) 2
    subst q4
    refine k_rX (As := [.ref b, .int (nI (3 * i + 2))]) (rest := [.int 4]) ⟨hx, hb, hml, hown, hts⟩ (c_L_cell l (by omega) hLL) lkL_63 rfl rfl ⟨(Nat.le_of_ble_eq_true rfl), (Nat.le_of_ble_eq_true rfl)⟩ hX hbA hS rfl hl.1 rfl (Nat.le_of_ble_eq_true rfl) dL_law_136 hf ?_
    refine lv_bipush (v := 21) hx hb dL_law_139 (by decide) ?_
    refine k_riS (As := [.int (xs (3 * i + 2)), .int (nI 21)]) (rest := [.int 4]) (wc := []) ⟨hx, hb, hml, hown, hts⟩ (c_L_low l D cI cS cL _ (xs (3 * i + 2)) 21 (by omega) (by omega)) lkL_69 rfl rfl ⟨(Nat.le_of_ble_eq_true rfl), (Nat.le_of_ble_eq_true rfl)⟩ hK hE k_nilP (k_nilD (A := (fun q => s.heap.size ≤ q))) rfl hl.1 rfl (Nat.le_of_ble_eq_true rfl) dL_law_141 hf ?_
    refine lv_iadd hx hb dL_law_144 (lv_topi (fun x5 e5 => ?_))
    have q5 : x5 = nI (4 + p_low (xs (3 * i + 2)) 21) := by rw [e5]; exact nI_add 4 _
    subst q5
    refine lv_istore (lv' := [(13, .int (nI (4 + p_low (xs (3 * i + 2)) 21))), (12, .int (nI (p_hx (xs (3 * i + 1)) n))), (11, .int (nI (p_low (xs (3 * i)) 20))), (10, .int (N 1 5)), (9, .int (N 1 3)), (8, .int (nI n)), (7, .int (N 1 1)), (6, .int (N 1 0)), (5, .int (nI kc)), (0, .ref b), (1, .ref (x 0)), (2, .int 1), (3, .int (nI tu)), (4, .int (nI i))]) hx hb dL_law_145 hl (by decide) rfl (fun ls hl => ?_)
    refine lv_iload hx hb dL_law_147 (lv_at hl 5 rfl) ?_
    have J6 : ∀ zj : Int32, zj = (if n = 0 then -1 else p_tried N (p_hx (xs (3 * i + 1)) n) (4 + p_low (xs (3 * i + 2)) 21)) → W p l e room_1 s m args below meth c H locs cells slots (Q) (F0 m 164 ls ([.int zj])) := by
      intro zj hzj
      subst hzj
      refine lv_istore (lv' := [(14, .int (if n = 0 then -1 else p_tried N (p_hx (xs (3 * i + 1)) n) (4 + p_low (xs (3 * i + 2)) 21))), (13, .int (nI (4 + p_low (xs (3 * i + 2)) 21))), (12, .int (nI (p_hx (xs (3 * i + 1)) n))), (11, .int (nI (p_low (xs (3 * i)) 20))), (10, .int (N 1 5)), (9, .int (N 1 3)), (8, .int (nI n)), (7, .int (N 1 1)), (6, .int (N 1 0)), (5, .int (nI kc)), (0, .ref b), (1, .ref (x 0)), (2, .int 1), (3, .int (nI tu)), (4, .int (nI i))]) hx hb dL_law_164 hl (by decide) rfl (fun ls hl => ?_)
      refine lv_iload hx hb dL_law_166 (lv_at hl 6 rfl) ?_
      have J7 : ∀ zj : Int32, zj = (if n = 0 then 0 else N 7 (p_hx (xs (3 * i + 1)) n)) → W p l e room_1 s m args below meth c H locs cells slots (Q) (F0 m 182 ls ([.int zj])) := by
        intro zj hzj
        subst hzj
        refine lv_istore (lv' := [(15, .int (if n = 0 then 0 else N 7 (p_hx (xs (3 * i + 1)) n))), (14, .int (if n = 0 then -1 else p_tried N (p_hx (xs (3 * i + 1)) n) (4 + p_low (xs (3 * i + 2)) 21))), (13, .int (nI (4 + p_low (xs (3 * i + 2)) 21))), (12, .int (nI (p_hx (xs (3 * i + 1)) n))), (11, .int (nI (p_low (xs (3 * i)) 20))), (10, .int (N 1 5)), (9, .int (N 1 3)), (8, .int (nI n)), (7, .int (N 1 1)), (6, .int (N 1 0)), (5, .int (nI kc)), (0, .ref b), (1, .ref (x 0)), (2, .int 1), (3, .int (nI tu)), (4, .int (nI i))]) hx hb dL_law_182 hl (by decide) rfl (fun ls hl => ?_)
        refine lv_aload_n hx hb dL_law_184 rfl (lv_at hl 12 rfl) ?_
        refine lv_aload_n hx hb dL_law_185 rfl (lv_at hl 11 rfl) ?_
        refine lv_iconst (v := 3) hx hb dL_law_186 (by decide) ?_
        refine lv_iload hx hb dL_law_187 (lv_at hl 15 rfl) ?_
        refine lv_imul hx hb dL_law_189 (lv_topi (fun x8 e8 => ?_))
        have q8 : x8 = nI (3 * i) := by rw [e8]; exact pk_mul 3 i
        subst q8
        refine k_ecS (post := AP N n d qi kc R i (p_low (xs (3 * i)) 20) (p_hx (xs (3 * i + 1)) n) (4 + p_low (xs (3 * i + 2)) 21)) (Wf := fun y9 : AU => xH cS x a r (nI y9.1) (nI y9.2.1) ++ (txW cI x (nI z) T ++ (stW cI a y9.2.2.1 v ++ rgW cI r y9.2.2.2 u))) (As := [.ref (x 0), .ref b, .int (nI (3 * i))]) (rest := []) ⟨hx, hb, hml, hown, hts⟩ (c_L_act l hfl D cI cS cL x a r qi kc z T N v R u _ n d i b L xs hLR hi hLL hk3) lkL_98 rfl rfl ⟨(Nat.le_of_ble_eq_true rfl), (Nat.le_of_ble_eq_true rfl)⟩ hK hE hT hX (fun q hq hqb => Nat.not_le.mpr hX.lt (hqb ▸ va_D_all hD q hq)) hP hD hS (fun _ => rfl) rfl hl.1 rfl (Nat.le_of_ble_eq_true rfl) dL_law_190 hf1 (fun t9 y9 H locs hzz hpost hP hD hS => ?_)
        refine lv_istore (lv' := [(16, .int t9), (15, .int (if n = 0 then 0 else N 7 (p_hx (xs (3 * i + 1)) n))), (14, .int (if n = 0 then -1 else p_tried N (p_hx (xs (3 * i + 1)) n) (4 + p_low (xs (3 * i + 2)) 21))), (13, .int (nI (4 + p_low (xs (3 * i + 2)) 21))), (12, .int (nI (p_hx (xs (3 * i + 1)) n))), (11, .int (nI (p_low (xs (3 * i)) 20))), (10, .int (N 1 5)), (9, .int (N 1 3)), (8, .int (nI n)), (7, .int (N 1 1)), (6, .int (N 1 0)), (5, .int (nI kc)), (0, .ref b), (1, .ref (x 0)), (2, .int 1), (3, .int (nI tu)), (4, .int (nI i))]) hx hb dL_law_193 hl (by decide) rfl (fun ls hl => ?_)
        exact kk t9 y9 H locs hpost hP hD hS ls (lv_sub hl [12, 13, 14, 15, 16, 11, 10, 9, 8, 7, 6, 5, 4, 3, 2, 1, 0] rfl)
      refine lv_if_ne (tgt := 175) hx hb dL_law_168 (by decide) (fun c9 => ?_) (fun c9 => ?_)
      · have hn0 : ¬ n = 0 := fun q => c9 (by rw [q]; rfl)
        refine lv_aload_n hx hb dL_law_175 rfl (lv_at hl 11 rfl) ?_
        refine lv_iload hx hb dL_law_176 (lv_at hl 2 rfl) ?_
        refine lv_iconst (v := 4) hx hb dL_law_178 (by decide) ?_
        refine k_riV (As := [.int (nI (p_hx (xs (3 * i + 1)) n)), .int (nI 4)]) (rest := []) (wc := xH cS x a r (nI qi) (nI kc) ++ (txW cI x (nI z) T ++ (stW cI a N v))) ⟨hx, hb, hml, hown, hts⟩ (c_X4_hose_g l D cI cS cL x a r (nI qi) (nI kc) (nI z) T N v _ n hn hn14 (p_hx (xs (3 * i + 1)) n) 4 (p_hx_lt _ hn0) (by omega)) lkL_38 rfl rfl ⟨(Nat.le_of_ble_eq_true rfl), (Nat.le_of_ble_eq_true rfl)⟩ (va_recv hK hP (ci := 3) (q0 := 0) rfl rfl) hK hE (va_P_midL (w1 := []) (wc := xH cS x a r (nI qi) (nI kc) ++ (txW cI x (nI z) T ++ (stW cI a N v))) (w3 := rgW cI r R u) hP) (va_D_midL (w1 := []) (wc := xH cS x a r (nI qi) (nI kc) ++ (txW cI x (nI z) T ++ (stW cI a N v))) (w3 := rgW cI r R u) hD) rfl hl.1 rfl (Nat.le_of_ble_eq_true rfl) dL_law_179 hf ?_
        rw [show p_hose N (p_hx (xs (3 * i + 1)) n) 4 = N 7 (p_hx (xs (3 * i + 1)) n) from rfl]
        exact J7 _ (by rw [if_neg hn0])
      · have hn0 : n = 0 := (nI_eq (a := n) (b := 0) (by omega) (by decide)).mp c9
        refine lv_iconst (v := 0) hx hb dL_law_171 (by decide) ?_
        refine lv_goto (tgt := 182) hx hb dL_law_172 (by decide) ?_
        exact J7 _ (by rw [if_pos hn0])
    refine lv_if_ne (tgt := 156) hx hb dL_law_149 (by decide) (fun c10 => ?_) (fun c10 => ?_)
    · have hn0 : ¬ n = 0 := fun q => c10 (by rw [q]; rfl)
      refine lv_aload_n hx hb dL_law_156 rfl (lv_at hl 10 rfl) ?_
      refine lv_iload hx hb dL_law_157 (lv_at hl 1 rfl) ?_
      refine lv_iload hx hb dL_law_159 (lv_at hl 0 rfl) ?_
      refine k_riV (As := [.int (nI (p_hx (xs (3 * i + 1)) n)), .int (nI (4 + p_low (xs (3 * i + 2)) 21))]) (rest := []) (wc := xH cS x a r (nI qi) (nI kc) ++ (txW cI x (nI z) T ++ (stW cI a N v))) ⟨hx, hb, hml, hown, hts⟩ (c_X4_ifTested_g l D cI cS cL x a r (nI qi) (nI kc) (nI z) T N v _ n hn hn14 (p_hx (xs (3 * i + 1)) n) (4 + p_low (xs (3 * i + 2)) 21) (p_hx_lt _ hn0) (by omega) (by have := p_low_lt (xs (3 * i + 2)) (m := 21) (by decide); omega)) lkL_44 rfl rfl ⟨(Nat.le_of_ble_eq_true rfl), (Nat.le_of_ble_eq_true rfl)⟩ (va_recv hK hP (ci := 3) (q0 := 0) rfl rfl) hK hE (va_P_midL (w1 := []) (wc := xH cS x a r (nI qi) (nI kc) ++ (txW cI x (nI z) T ++ (stW cI a N v))) (w3 := rgW cI r R u) hP) (va_D_midL (w1 := []) (wc := xH cS x a r (nI qi) (nI kc) ++ (txW cI x (nI z) T ++ (stW cI a N v))) (w3 := rgW cI r R u) hD) rfl hl.1 rfl (Nat.le_of_ble_eq_true rfl) dL_law_161 hf ?_
      exact J6 _ (by rw [if_neg hn0])
    · have hn0 : n = 0 := (nI_eq (a := n) (b := 0) (by omega) (by decide)).mp c10
      refine lv_iconst (v := (-1)) hx hb dL_law_152 (by decide) ?_
      refine lv_goto (tgt := 164) hx hb dL_law_153 (by decide) ?_
      exact J6 _ (by rw [if_pos hn0])
  refine lv_if_ne (tgt := 111) hx hb dL_law_104 (by decide) (fun c11 => ?_) (fun c11 => ?_)
  · have hn0 : ¬ n = 0 := fun q => c11 (by rw [q]; rfl)
    refine lv_aload_n hx hb dL_law_111 rfl (lv_at hl 7 rfl) ?_
    refine lv_iconst (v := 3) hx hb dL_law_112 (by decide) ?_
    refine lv_iload hx hb dL_law_113 (lv_at hl 11 rfl) ?_
    refine lv_imul hx hb dL_law_115 (lv_topi (fun x12 e12 => ?_))
    have q12 : x12 = nI (3 * i) := by rw [e12]; exact pk_mul 3 i
    subst q12
    refine lv_iconst (v := 1) hx hb dL_law_116 (by decide) ?_
    refine lv_iadd hx hb dL_law_117 (lv_topi (fun x13 e13 => ?_))
    have q13 : x13 = nI (3 * i + 1) := by rw [e13]; exact nI_add (3 * i) 1
    subst q13
    refine k_rX (As := [.ref b, .int (nI (3 * i + 1))]) (rest := []) ⟨hx, hb, hml, hown, hts⟩ (c_L_cell l (by omega) hLL) lkL_63 rfl rfl ⟨(Nat.le_of_ble_eq_true rfl), (Nat.le_of_ble_eq_true rfl)⟩ hX hbA hS rfl hl.1 rfl (Nat.le_of_ble_eq_true rfl) dL_law_118 hf ?_
    refine lv_iload hx hb dL_law_121 (lv_at hl 3 rfl) ?_
    refine k_riS (As := [.int (xs (3 * i + 1)), .int (nI n)]) (rest := []) (wc := []) ⟨hx, hb, hml, hown, hts⟩ (c_L_low l D cI cS cL _ (xs (3 * i + 1)) n (by omega) (by omega)) lkL_69 rfl rfl ⟨(Nat.le_of_ble_eq_true rfl), (Nat.le_of_ble_eq_true rfl)⟩ hK hE k_nilP (k_nilD (A := (fun q => s.heap.size ≤ q))) rfl hl.1 rfl (Nat.le_of_ble_eq_true rfl) dL_law_123 hf ?_
    exact J2 _ (by rw [p_hx, if_neg hn0])
  · have hn0 : n = 0 := (nI_eq (a := n) (b := 0) (by omega) (by decide)).mp c11
    refine lv_iconst (v := 0) hx hb dL_law_107 (by decide) ?_
    refine lv_goto (tgt := 126) hx hb dL_law_108 (by decide) ?_
    exact J2 _ (by rw [p_hx, if_pos hn0]; rfl)
