/-! the law's loop -/
theorem lp_more {L i : Nat} (hL : L ≤ 2048) (h1 : 4 * i ≤ L) {x1 : Int32} (e1 : x1 = nI L - 4) (hle : ¬ x1 < nI (4 * i)) : 4 * i + 4 ≤ L := by
  rcases Nat.lt_or_ge L 4 with h | h
  · exfalso
    apply hle
    obtain rfl : i = 0 := by omega
    rw [e1]
    rcases (show L = 0 ∨ L = 1 ∨ L = 2 ∨ L = 3 by omega) with rfl | rfl | rfl | rfl <;> decide
  · have e : nI L - 4 = nI (L - 4) := pk_sub (a := L) (b := 4) (by omega)
    rw [e1, e] at hle
    rcases Nat.lt_or_ge (L - 4) (4 * i) with q | q
    · exact absurd ((nI_ltI (by omega) (by omega)).mpr q) hle
    · omega
set_option maxHeartbeats 4000000 in
set_option maxRecDepth 100000 in
theorem law_loop {p : Program} {l : Launch} {e : Env} {s : State} {m : MethodId} {args : Array Value} {below : List Frame} {meth : Method} {c : Code} {Q : State → Prop} {D : va_G} {cI cS cL : ClassId} {b L c0 s0 : Nat} {xs : Nat → Int32} (hx : p.tables.exec = Jvm.exec) (hb : c.code = cL_law) (hml : c.maxLocals = 9) (hts : ∀ w ∈ wsL_law, w.before args s = true) (hown : s.vm.findClass RL = some m.cls) (hfl : l.stackTraces = false) (hK : va_K D vwCl (kTy cI cS cL) s) (hE : kEn s) (hT : kEt s) (hX : va_X b L xs s s.heap) (hbl : b < s.heap.size) (hL : L ≤ 2048) (hc0 : c0 + 512 ≤ room_1.cells ∧ s0 + 3072 ≤ room_1.slots) (x a am : Nat → Nat) (r : Nat → Nat → Nat) (u : Nat → Nat → Int32) (o : Nat)
    (kE : ∀ (i : Nat) (H : Heap) (locs : List Loc), 4 * i ≤ L → va_S (fun q => s.heap.size ≤ q) s.heap H locs → ∀ ls : Array Slot, W p l e room_1 s m args below meth c H locs (c0 + i) (s0 + 6 * i) Q (F0 m 1348 ls [])) :
    ∀ (f i : Nat), 4 * i ≤ L → L < 4 * i + f → ∀ (qi kc z : Nat) (T : Nat → Int32) (N : NN) (v : Nat → Int32) (R : Nat → NN) (w : Int64) (P U mv : Nat → Int32) (n dy : Nat), LR N n dy qi kc z R P mv i → ∀ (H : Heap) (locs : List Loc), va_P D vwCl (mdW cI am N P T U mv ++ (outW cL o w ++ (xH cS x a r (nI qi) (nI kc) ++ (txW cI x (nI z) T ++ (stW cI a N v ++ (rgW cI r R u)))))) H → va_D (fun q => s.heap.size ≤ q) (mdW cI am N P T U mv ++ (outW cL o w ++ (xH cS x a r (nI qi) (nI kc) ++ (txW cI x (nI z) T ++ (stW cI a N v ++ (rgW cI r R u)))))) → va_S (fun q => s.heap.size ≤ q) s.heap H locs → ∀ ls : Array Slot, lv_has ls 9 [(0, .ref b), (1, .ref (x 0)), (2, .ref (am 0)), (3, .ref o), (4, .int (nI (4 * i)))] → W p l e room_1 s m args below meth c H locs (c0 + i) (s0 + 6 * i) Q (F0 m 23 ls []) := by
  intro f
  induction f with
  | zero => intro i h1 h2; exact absurd h1 (by omega)
  | succ f ih =>
    intro i h1 h2 qi kc z T N v R w P U mv n dy hLR H locs hP hD hS ls hl
    refine lv_iload hx hb dL_law_23 (lv_at hl 4 rfl) ?_
    refine lv_aload_n hx hb dL_law_25 rfl (lv_at hl 0 rfl) ?_
    refine va_slen hx hb hX hbl (Nat.not_le.mpr hbl) hS dL_law_26 ?_
    refine lv_iconst (v := 4) hx hb dL_law_27 (by decide) ?_
    refine lv_isub hx hb dL_law_28 (lv_topi (fun x1 e1 => ?_))
    refine lv_icmp_gt (tgt := 1348) hx hb dL_law_29 (by decide) (fun hgt => ?_) (fun hle => ?_)
    · exact kE i H locs h1 hS ls
    have hi : 4 * i + 4 ≤ L := lp_more hL h1 e1 hle
    have hf0 : c0 + i + 1 ≤ room_1.cells ∧ s0 + 6 * i + 6 ≤ room_1.slots := ⟨by have := hc0.1; omega, by have := hc0.2; omega⟩
    obtain ⟨hI, hdd, hq, hkc, hz60, hm2, hm4, -⟩ := id hLR
    have hdy : dy < 2 ^ 29 := by omega
    have next : ∀ {qi kc z : Nat} {T : Nat → Int32} {N : NN} {v : Nat → Int32} {R : Nat → NN} {w : Int64} {P U mv : Nat → Int32} (H : Heap) (locs : List Loc), va_P D vwCl (mdW cI am N P T U mv ++ (outW cL o w ++ (xH cS x a r (nI qi) (nI kc) ++ (txW cI x (nI z) T ++ (stW cI a N v ++ (rgW cI r R u)))))) H → va_D (fun q => s.heap.size ≤ q) (mdW cI am N P T U mv ++ (outW cL o w ++ (xH cS x a r (nI qi) (nI kc) ++ (txW cI x (nI z) T ++ (stW cI a N v ++ (rgW cI r R u)))))) → va_S (fun q => s.heap.size ≤ q) s.heap H locs → ∀ ls : Array Slot, lv_has ls 9 [(0, .ref b), (1, .ref (x 0)), (2, .ref (am 0)), (3, .ref o), (4, .int (nI (4 * i)))] → (∃ n dy : Nat, LR N n dy qi kc z R P mv (i + 1)) → W p l e room_1 s m args below meth c H locs (c0 + i + 1) (s0 + 6 * i + 6) Q (F0 m 1342 ls []) := by
      intro qi kc z T N v R w P U mv H locs hP hD hS ls hl hx2
      obtain ⟨n, dy, hLR⟩ := hx2
      refine lv_iinc (v := nI (4 * (i + 1))) (lv' := [(4, .int (nI (4 * (i + 1)))), (0, .ref b), (1, .ref (x 0)), (2, .ref (am 0)), (3, .ref o)]) hx hb dL_law_1342 hl (k := 4) rfl (nI_add (4 * i) 4) (by decide) rfl (fun ls hl => ?_)
      refine lv_goto (tgt := 23) hx hb dL_law_1345 (by decide) ?_
      refine W.widen (k := c0 + (i + 1)) (n := s0 + 6 * (i + 1)) (by omega) (by omega) ?_
      exact ih (i + 1) (by omega) (by omega) qi kc z T N v R w P U mv n dy hLR H locs hP hD hS ls (lv_sub hl [1, 2, 3, 4, 0] rfl)
    refine lv_aload_n hx hb dL_law_32 rfl (lv_at hl 0 rfl) ?_
    refine lv_iload hx hb dL_law_33 (lv_at hl 4 rfl) ?_
    refine k_sld (k := 4 * i) hx hb hX hbl hS rfl (by omega) hL dL_law_35 ?_
    refine lv_bipush (v := 31) hx hb dL_law_36 (by decide) ?_
    refine lv_iand hx hb dL_law_38 (lv_topi (fun x2 e2 => ?_))
    by_cases cs0 : x2 = 0
    · refine lv_tableIn (off := 105) (tgt := 144) hx hb dL_law_39 (by rw [cs0]; decide) (by rw [cs0]; decide) (by rw [cs0]; rfl) (by decide) ?_
      exact law_c0 hx hb hml hts hown hfl hK hE hT hX hbl hL hf0 x a r qi kc z T N v R u o w am P U mv n dy i hi hI hdy hq hkc hz60 hm2 hm4 H locs hP hD hS ls hl (fun H locs hP hD hS ls hl => next H locs hP hD hS ls hl (lr_buy hLR rfl hm4))
    by_cases cs1 : x2 = 1
    · refine lv_tableIn (off := 185) (tgt := 224) hx hb dL_law_39 (by rw [cs1]; decide) (by rw [cs1]; decide) (by rw [cs1]; rfl) (by decide) ?_
      exact law_c1 hx hb hml hts hown hfl hK hE hT hX hbl hL hf0 x a r qi kc z T N v R u o w am P U mv n dy i hi hI hdy hq hkc hz60 hm2 hm4 H locs hP hD hS ls hl (fun H locs hP hD hS ls hl => next H locs hP hD hS ls hl (lr_renew hLR rfl hm4))
    by_cases cs2 : x2 = 2
    · refine lv_tableIn (off := 241) (tgt := 280) hx hb dL_law_39 (by rw [cs2]; decide) (by rw [cs2]; decide) (by rw [cs2]; rfl) (by decide) ?_
      exact law_c2 hx hb hml hts hown hfl hK hE hT hX hbl hL hf0 x a r qi kc z T N v R u o w am P U mv n dy i hi hI hdy hq hkc hz60 hm2 hm4 H locs hP hD hS ls hl (fun H locs hP hD hS ls hl => next H locs hP hD hS ls hl (lr_put hLR rfl hm4))
    by_cases cs3 : x2 = 3
    · refine lv_tableIn (off := 309) (tgt := 348) hx hb dL_law_39 (by rw [cs3]; decide) (by rw [cs3]; decide) (by rw [cs3]; rfl) (by decide) ?_
      exact law_c3 hx hb hml hts hown hfl hK hE hT hX hbl hL hf0 x a r qi kc z T N v R u o w am P U mv n dy i hi hI hdy hq hkc hz60 hm2 hm4 H locs hP hD hS ls hl (fun H locs hP hD hS ls hl => next H locs hP hD hS ls hl (lr_lend hLR rfl hm4))
    by_cases cs4 : x2 = 4
    · refine lv_tableIn (off := 377) (tgt := 416) hx hb dL_law_39 (by rw [cs4]; decide) (by rw [cs4]; decide) (by rw [cs4]; rfl) (by decide) ?_
      exact law_c4 hx hb hml hts hown hfl hK hE hT hX hbl hL hf0 x a r qi kc z T N v R u o w am P U mv n dy i hi hI hdy hq hkc hz60 hm2 hm4 H locs hP hD hS ls hl (fun H locs hP hD hS ls hl => next H locs hP hD hS ls hl (lr_test hLR rfl hm4))
    by_cases cs5 : x2 = 5
    · refine lv_tableIn (off := 445) (tgt := 484) hx hb dL_law_39 (by rw [cs5]; decide) (by rw [cs5]; decide) (by rw [cs5]; rfl) (by decide) ?_
      exact law_c5 hx hb hml hts hown hfl hK hE hT hX hbl hL hf0 x a r qi kc z T N v R u o w am P U mv n dy i hi hI hdy hq hkc hz60 hm2 hm4 H locs hP hD hS ls hl (fun H locs hP hD hS ls hl => next H locs hP hD hS ls hl (lr_want hLR rfl hm4))
    by_cases cs6 : x2 = 6
    · refine lv_tableIn (off := 513) (tgt := 552) hx hb dL_law_39 (by rw [cs6]; decide) (by rw [cs6]; decide) (by rw [cs6]; rfl) (by decide) ?_
      exact law_c6 hx hb hml hts hown hfl hK hE hT hX hbl hL hf0 x a r qi kc z T N v R u o w am P U mv n dy i hi hI hdy hq hkc hz60 hm2 hm4 H locs hP hD hS ls hl (fun H locs hP hD hS ls hl => next H locs hP hD hS ls hl (lr_set hLR rfl hm4))
    by_cases cs7 : x2 = 7
    · refine lv_tableIn (off := 581) (tgt := 620) hx hb dL_law_39 (by rw [cs7]; decide) (by rw [cs7]; decide) (by rw [cs7]; rfl) (by decide) ?_
      exact law_c7 hx hb hml hts hown hfl hK hE hT hX hbl hL hf0 x a r qi kc z T N v R u o w am P U mv n dy i hi hI hdy hq hkc hz60 hm2 hm4 H locs hP hD hS ls hl (fun H locs hP hD hS ls hl => next H locs hP hD hS ls hl (lr_pass hLR rfl hm4))
    by_cases cs8 : x2 = 8
    · refine lv_tableIn (off := 637) (tgt := 676) hx hb dL_law_39 (by rw [cs8]; decide) (by rw [cs8]; decide) (by rw [cs8]; rfl) (by decide) ?_
      exact law_c8 hx hb hml hts hown hfl hK hE hT hX hbl hL hf0 x a r qi kc z T N v R u o w am P U mv n dy i hi hI hdy hq hkc hz60 hm2 hm4 H locs hP hD hS ls hl (fun H locs hP hD hS ls hl => next H locs hP hD hS ls hl (lr_append hLR hm2 rfl))
    by_cases cs9 : x2 = 9
    · refine lv_tableIn (off := 693) (tgt := 732) hx hb dL_law_39 (by rw [cs9]; decide) (by rw [cs9]; decide) (by rw [cs9]; rfl) (by decide) ?_
      exact law_c9 hx hb hml hts hown hfl hK hE hT hX hbl hL hf0 x a r qi kc z T N v R u o w am P U mv n dy i hi hI hdy hq hkc hz60 hm2 hm4 H locs hP hD hS ls hl (fun H locs hP hD hS ls hl => next (z := 0) H locs hP hD hS ls hl (⟨n, dy, LR_keep hLR hm2 rfl (Nat.zero_le _)⟩))
    by_cases cs10 : x2 = 10
    · refine lv_tableIn (off := 706) (tgt := 745) hx hb dL_law_39 (by rw [cs10]; decide) (by rw [cs10]; decide) (by rw [cs10]; rfl) (by decide) ?_
      exact law_c10 hx hb hml hts hown hfl hK hE hT hX hbl hL hf0 x a r qi kc z T N v R u o w am P U mv n dy i hi hI hdy hq hkc hz60 hm2 hm4 H locs hP hD hS ls hl (fun H locs hP hD hS ls hl => next H locs hP hD hS ls hl (⟨n, dy, LR_keep hLR hm2 hm4 hz60⟩))
    by_cases cs11 : x2 = 11
    · refine lv_tableIn (off := 719) (tgt := 758) hx hb dL_law_39 (by rw [cs11]; decide) (by rw [cs11]; decide) (by rw [cs11]; rfl) (by decide) ?_
      exact law_c11 hx hb hml hts hown hfl hK hE hT hX hbl hL hf0 x a r qi kc z T N v R u o w am P U mv n dy i hi hI hdy hq hkc hz60 hm2 hm4 H locs hP hD hS ls hl (fun H locs hP hD hS ls hl => next H locs hP hD hS ls hl (lr_all hLR rfl rfl))
    by_cases cs12 : x2 = 12
    · refine lv_tableIn (off := 763) (tgt := 802) hx hb dL_law_39 (by rw [cs12]; decide) (by rw [cs12]; decide) (by rw [cs12]; rfl) (by decide) ?_
      exact law_c12 hx hb hml hts hown hfl hK hE hT hX hbl hL hf0 x a r qi kc z T N v R u o w am P U mv n dy i hi hI hdy hq hkc hz60 hm2 hm4 (LR_hM hLR) H locs hP hD hS ls hl (fun H locs hP hD hS ls hl => next H locs hP hD hS ls hl (lr_undo hLR rfl hm4))
    by_cases cs13 : x2 = 13
    · refine lv_tableIn (off := 807) (tgt := 846) hx hb dL_law_39 (by rw [cs13]; decide) (by rw [cs13]; decide) (by rw [cs13]; rfl) (by decide) ?_
      exact law_c13 hx hb hml hts hown hfl hK hE hT hX hbl hL hf0 x a r qi kc z T N v R u o w am P U mv n dy i hi hI hdy hq hkc hz60 hm2 hm4 H locs hP hD hS ls hl (fun H locs hP hD hS ls hl => next H locs hP hD hS ls hl (⟨n, dy, LR_keep hLR hm2 hm4 hz60⟩))
    by_cases cs14 : x2 = 14
    · refine lv_tableIn (off := 875) (tgt := 914) hx hb dL_law_39 (by rw [cs14]; decide) (by rw [cs14]; decide) (by rw [cs14]; rfl) (by decide) ?_
      exact law_c14 hx hb hml hts hown hfl hK hE hT hX hbl hL hf0 x a r qi kc z T N v R u o w am P U mv n dy i hi hI hdy hq hkc hz60 hm2 hm4 H locs hP hD hS ls hl (fun H locs hP hD hS ls hl => next H locs hP hD hS ls hl (⟨n, dy, LR_keep hLR hm2 hm4 hz60⟩))
    by_cases cs15 : x2 = 15
    · refine lv_tableIn (off := 943) (tgt := 982) hx hb dL_law_39 (by rw [cs15]; decide) (by rw [cs15]; decide) (by rw [cs15]; rfl) (by decide) ?_
      exact law_c15 hx hb hml hts hown hfl hK hE hT hX hbl hL hf0 x a r qi kc z T N v R u o w am P U mv n dy i hi hI hdy hq hkc hz60 hm2 hm4 H locs hP hD hS ls hl (fun H locs hP hD hS ls hl => next H locs hP hD hS ls hl (⟨n, dy, LR_keep hLR hm2 hm4 hz60⟩))
    by_cases cs16 : x2 = 16
    · refine lv_tableIn (off := 999) (tgt := 1038) hx hb dL_law_39 (by rw [cs16]; decide) (by rw [cs16]; decide) (by rw [cs16]; rfl) (by decide) ?_
      exact law_c16 hx hb hml hts hown hfl hK hE hT hX hbl hL hf0 x a r qi kc z T N v R u o w am P U mv n dy i hi hI hdy hq hkc hz60 hm2 hm4 H locs hP hD hS ls hl (fun H locs hP hD hS ls hl => next H locs hP hD hS ls hl (⟨n, dy, LR_keep hLR hm2 hm4 hz60⟩))
    by_cases cs17 : x2 = 17
    · refine lv_tableIn (off := 1055) (tgt := 1094) hx hb dL_law_39 (by rw [cs17]; decide) (by rw [cs17]; decide) (by rw [cs17]; rfl) (by decide) ?_
      exact law_c17 hx hb hml hts hown hfl hK hE hT hX hbl hL hf0 x a r qi kc z T N v R u o w am P U mv n dy i hi hI hdy hq hkc hz60 hm2 hm4 H locs hP hD hS ls hl (fun H locs hP hD hS ls hl => next H locs hP hD hS ls hl (⟨n, dy, LR_keep hLR hm2 hm4 hz60⟩))
    by_cases cs18 : x2 = 18
    · refine lv_tableIn (off := 1123) (tgt := 1162) hx hb dL_law_39 (by rw [cs18]; decide) (by rw [cs18]; decide) (by rw [cs18]; rfl) (by decide) ?_
      exact law_c18 hx hb hml hts hown hfl hK hE hT hX hbl hL hf0 x a r qi kc z T N v R u o w am P U mv n dy i hi hI hdy hq hkc hz60 hm2 hm4 H locs hP hD hS ls hl (fun H locs hP hD hS ls hl => next H locs hP hD hS ls hl (⟨n, dy, LR_keep hLR hm2 hm4 hz60⟩))
    by_cases cs19 : x2 = 19
    · refine lv_tableIn (off := 1179) (tgt := 1218) hx hb dL_law_39 (by rw [cs19]; decide) (by rw [cs19]; decide) (by rw [cs19]; rfl) (by decide) ?_
      exact law_c19 hx hb hml hts hown hfl hK hE hT hX hbl hL hf0 x a r qi kc z T N v R u o w am P U mv n dy i hi hI hdy hq hkc hz60 hm2 hm4 H locs hP hD hS ls hl (fun H locs hP hD hS ls hl => next H locs hP hD hS ls hl (⟨n, dy, LR_keep hLR hm2 hm4 hz60⟩))
    by_cases cs20 : x2 = 20
    · refine lv_tableIn (off := 1192) (tgt := 1231) hx hb dL_law_39 (by rw [cs20]; decide) (by rw [cs20]; decide) (by rw [cs20]; rfl) (by decide) ?_
      exact law_c20 hx hb hml hts hown hfl hK hE hT hX hbl hL hf0 x a r qi kc z T N v R u o w am P U mv n dy i hi hI hdy hq hkc hz60 hm2 hm4 H locs hP hD hS ls hl (fun H locs hP hD hS ls hl => next H locs hP hD hS ls hl (⟨n, dy, LR_keep hLR hm2 hm4 hz60⟩))
    by_cases cs21 : x2 = 21
    · refine lv_tableIn (off := 1248) (tgt := 1287) hx hb dL_law_39 (by rw [cs21]; decide) (by rw [cs21]; decide) (by rw [cs21]; rfl) (by decide) ?_
      exact law_c21 hx hb hml hts hown hfl hK hE hT hX hbl hL hf0 x a r qi kc z T N v R u o w am P U mv n dy i hi hI hdy hq hkc hz60 hm2 hm4 H locs hP hD hS ls hl (fun H locs hP hD hS ls hl => next H locs hP hD hS ls hl (⟨n, dy, LR_keep hLR hm2 hm4 hz60⟩))
    by_cases cs22 : x2 = 22
    · refine lv_tableIn (off := 1289) (tgt := 1328) hx hb dL_law_39 (by rw [cs22]; decide) (by rw [cs22]; decide) (by rw [cs22]; rfl) (by decide) ?_
      exact law_c22 hx hb hml hts hown hfl hK hE hT hX hbl hL hf0 x a r qi kc z T N v R u o w am P U mv n dy i hi hI hdy hq hkc hz60 hm2 hm4 H locs hP hD hS ls hl (fun H locs hP hD hS ls hl => next H locs hP hD hS ls hl (⟨n, dy, LR_keep hLR ((d_v_lo N n (us mv 5 0) (q := 2) (by decide) 3 n 11).trans hm2) ((d_v_lo N n (us mv 5 0) (q := 4) (by decide) 3 n 11).trans hm4) hz60⟩))
    refine lv_tableOut (tgt := 1342) hx hb dL_law_39 (by have z0 := i32_ne (b := 0) (z := 0) (by decide) cs0; have z1 := i32_ne (b := 1) (z := 1) (by decide) cs1; have z2 := i32_ne (b := 2) (z := 2) (by decide) cs2; have z3 := i32_ne (b := 3) (z := 3) (by decide) cs3; have z4 := i32_ne (b := 4) (z := 4) (by decide) cs4; have z5 := i32_ne (b := 5) (z := 5) (by decide) cs5; have z6 := i32_ne (b := 6) (z := 6) (by decide) cs6; have z7 := i32_ne (b := 7) (z := 7) (by decide) cs7; have z8 := i32_ne (b := 8) (z := 8) (by decide) cs8; have z9 := i32_ne (b := 9) (z := 9) (by decide) cs9; have z10 := i32_ne (b := 10) (z := 10) (by decide) cs10; have z11 := i32_ne (b := 11) (z := 11) (by decide) cs11; have z12 := i32_ne (b := 12) (z := 12) (by decide) cs12; have z13 := i32_ne (b := 13) (z := 13) (by decide) cs13; have z14 := i32_ne (b := 14) (z := 14) (by decide) cs14; have z15 := i32_ne (b := 15) (z := 15) (by decide) cs15; have z16 := i32_ne (b := 16) (z := 16) (by decide) cs16; have z17 := i32_ne (b := 17) (z := 17) (by decide) cs17; have z18 := i32_ne (b := 18) (z := 18) (by decide) cs18; have z19 := i32_ne (b := 19) (z := 19) (by decide) cs19; have z20 := i32_ne (b := 20) (z := 20) (by decide) cs20; have z21 := i32_ne (b := 21) (z := 21) (by decide) cs21; have z22 := i32_ne (b := 22) (z := 22) (by decide) cs22; omega) (by decide) ?_
    exact W.widen (Nat.le_succ _) (Nat.le_add_right _ _) (next H locs hP hD hS ls hl ⟨n, dy, LR_keep hLR hm2 hm4 hz60⟩)
