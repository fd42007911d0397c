/-! the law's loop -/
set_option maxHeartbeats 4000000 in
set_option maxRecDepth 100000 in
theorem law_loop {p : Program} {l : Launch} {e : Env} {s : State} {m : MethodId} {args : Array Value} {below : List Frame} {meth : Method} {c : Code} {Q : State → Prop} {D : va_G} {cI cS cL : ClassId} {b L c0 s0 : Nat} {xs : Nat → Int32} (hx : p.tables.exec = Jvm.exec) (hb : c.code = cL_law) (hml : c.maxLocals = 17) (hts : ∀ w ∈ wsL_law, w.before args s = true) (hown : s.vm.findClass RL = some m.cls) (hfl : l.stackTraces = false) (hK : va_K D vwCl (kTy cI cS cL) s) (hE : kEn s) (hT : kEt s) (hX : va_X b L xs s s.heap) (hLL : L ≤ 260) (hc0 : c0 + 44 ≤ room_1.cells ∧ s0 + 264 ≤ room_1.slots) (tu : Nat) (htu : tu ≤ 44) (ht3 : 3 * tu ≤ L) (x a : Nat → Nat) (r : Nat → Nat → Nat) (z : Nat) (T : Nat → Int32) (u : Nat → Nat → Int32)
    (kE : ∀ (i : Nat) (H : Heap) (locs : List Loc), i ≤ tu → va_S (fun q => s.heap.size ≤ q) s.heap H locs → ∀ ls : Array Slot, lv_has ls 17 [(0, .ref b), (1, .ref (x 0)), (2, .int 1), (3, .int (nI tu)), (4, .int (nI i))] → W p l e room_1 s m args below meth c H locs (c0 + i) (s0 + 6 * i) Q (F0 m 478 ls [])) :
    ∀ (f i : Nat), i ≤ tu → tu < i + f → ∀ (qi kc : Nat) (N : NN) (v : Nat → Int32) (R : Nat → NN) (n d : Nat), LR2 N n d qi kc R i → ∀ (H : Heap) (locs : List Loc), va_P D vwCl (xH cS x a r (nI qi) (nI kc) ++ (txW cI x (nI z) T ++ (stW cI a N v ++ (rgW cI r R u)))) H → va_D (fun q => s.heap.size ≤ q) (xH cS x a r (nI qi) (nI kc) ++ (txW cI x (nI z) T ++ (stW cI a N v ++ (rgW cI r R u)))) → va_S (fun q => s.heap.size ≤ q) s.heap H locs → ∀ ls : Array Slot, lv_has ls 17 [(0, .ref b), (1, .ref (x 0)), (2, .int 1), (3, .int (nI tu)), (4, .int (nI i))] → W p l e room_1 s m args below meth c H locs (c0 + i) (s0 + 6 * i) Q (F0 m 32 ls []) := by
  intro f
  induction f with
  | zero => intro i h1 h2; exact absurd h1 (by omega)
  | succ f ih =>
    intro i h1 h2 qi kc N v R n d hLR H locs hP hD hS ls hl
    refine lv_iload hx hb dL_law_32 (lv_at hl 4 rfl) ?_
    refine lv_iload_n hx hb dL_law_34 rfl (lv_at hl 3 rfl) ?_
    refine lv_icmp_ge (tgt := 478) hx hb dL_law_35 (by decide) (fun _ => kE i H locs h1 hS ls hl) (fun hlt => ?_)
    have hi : i < tu := k_more (by omega) h1 hlt
    have hd := hLR.2.1
    have hf1 : c0 + i + 1 ≤ room_1.cells ∧ s0 + 6 * i + 6 ≤ room_1.slots := ⟨by have := hc0.1; omega, by have := hc0.2; omega⟩
    refine lv_iload_n hx hb dL_law_38 rfl (lv_at hl 2 rfl) ?_
    refine lv_if_eq (tgt := 478) hx hb dL_law_39 (by decide) (fun h => absurd h (by decide)) (fun _ => ?_)
    have next : ∀ (qi kc : Nat) (N : NN) (v : Nat → Int32) (R : Nat → NN) (n d : Nat), LR2 N n d qi kc R (i + 1) → ∀ (H : Heap) (locs : List Loc), va_P D vwCl (xH cS x a r (nI qi) (nI kc) ++ (txW cI x (nI z) T ++ (stW cI a N v ++ (rgW cI r R u)))) H → va_D (fun q => s.heap.size ≤ q) (xH cS x a r (nI qi) (nI kc) ++ (txW cI x (nI z) T ++ (stW cI a N v ++ (rgW cI r R u)))) → va_S (fun q => s.heap.size ≤ q) s.heap H locs → ∀ ls : Array Slot, lv_has ls 17 [(0, .ref b), (1, .ref (x 0)), (2, .int 1), (3, .int (nI tu)), (4, .int (nI i))] → W p l e room_1 s m args below meth c H locs (c0 + i + 1) (s0 + 6 * i + 6) Q (F0 m 472 ls []) := by
      intro qi kc N v R n d hLR H locs hP hD hS ls hl
      refine lv_iinc (v := nI (i + 1)) (lv' := [(4, .int (nI (i + 1))), (0, .ref b), (1, .ref (x 0)), (2, .int 1), (3, .int (nI tu))]) hx hb dL_law_472 hl (k := 4) rfl (nI_1 i) (by decide) rfl (fun ls hl => ?_)
      refine lv_goto (tgt := 32) hx hb dL_law_475 (by decide) ?_
      refine W.widen (k := c0 + (i + 1)) (n := s0 + 6 * (i + 1)) (by omega) (by omega) ?_
      exact ih (i + 1) (by omega) (by omega) qi kc N v R n d hLR H locs hP hD hS ls (lv_sub hl [1, 2, 3, 4, 0] rfl)
    refine law_turn hx hb hml hts hown hfl hK hE hT hX hLL x a r z T v u qi kc N R n d i tu hLR (by omega) (by omega) hf1 H locs hP hD hS ls hl (fun t9 y9 H locs hpost hP hD hS ls hl => ?_)
    obtain ⟨q2, k2, N2, R2⟩ := y9
    rcases hpost with ⟨rfl, hy, hSS⟩ | ⟨tn, n2, d2, htn, rfl, hLR2, h04, h912, h168⟩
    · cases hy
      exact law_ref hx hb hml hts hown hfl hK hE hT hX hLL x a r z T v u qi kc N R n d i tu (p_low (xs (3 * i)) 20) (p_hx (xs (3 * i + 1)) n) (4 + p_low (xs (3 * i + 2)) 21) (if n = 0 then -1 else p_tried N (p_hx (xs (3 * i + 1)) n) (4 + p_low (xs (3 * i + 2)) 21)) (if n = 0 then 0 else N 7 (p_hx (xs (3 * i + 1)) n)) hLR.1.1 (by omega) (by omega) (by have := p_low_lt (xs (3 * i)) (m := 20) (by decide); omega) hSS hf1 H locs hP hD hS ls hl (fun H locs hP hD hS ls hl => next qi kc N _ R n d (LR2_up hLR) H locs hP hD hS ls hl)
    · have hd2 := hLR2.2.1
      exact law_done hx hb hml hts hown hfl hK hE hT hX hLL x a r z T v u q2 k2 N2 R2 n2 d2 (i + 1) tn kc N n d i tu (p_low (xs (3 * i)) 20) (p_hx (xs (3 * i + 1)) n) (4 + p_low (xs (3 * i + 2)) 21) (if n = 0 then -1 else p_tried N (p_hx (xs (3 * i + 1)) n) (4 + p_low (xs (3 * i + 2)) 21)) (if n = 0 then 0 else N 7 (p_hx (xs (3 * i + 1)) n)) hLR.1.1 hLR2.1.1 (by omega) (by omega) (by omega) (by omega) (by have := p_low_lt (xs (3 * i)) (m := 20) (by decide); omega) (by have := p_low_lt (xs (3 * i + 2)) (m := 21) (by decide); omega) htn h04 h912 h168 (fun h0 => if_neg h0) (fun h0 => if_neg h0) hf1 H locs hP hD hS ls hl (fun H locs hP hD hS ls hl => next q2 k2 N2 _ R2 n2 d2 hLR2 H locs hP hD hS ls hl)
