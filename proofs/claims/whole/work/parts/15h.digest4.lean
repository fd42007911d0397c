abbrev rmX4_digest : Room := { frames := 6, cells := 0, slots := 0, locals := 132 }
set_option maxHeartbeats 4000000 in
set_option maxRecDepth 100000 in
theorem c_X4_digest (l : Launch) (D : va_G) (cI cS cL : ClassId) (x a : Nat → Nat) (r : Nat → Nat → Nat) (lat cnt : Int32) (z : Nat) (T : Nat → Int32) (N : NN) (v : Nat → Int32) (sz : Nat) (n : Nat) (hn : N 1 2 = nI n) (hn14 : n ≤ 14) (hz60 : z ≤ 60) (hbks : ∀ j, j < n → ¬ N 9 j = 4 → N 10 j = -1) : Met l yX4_digest (wy_ yX4_digest cX4_digest 5 (some .long)) rmX4_digest (kPc D (kTy cI cS cL) (xH cS x a r lat cnt ++ (txW cI x (nI z) T ++ (stW cI a N v))) sz [.ref (x 0)]) (kMl D (xH cS x a r lat cnt ++ (txW cI x (nI z) T ++ (stW cI a N v))) (xH cS x a r lat cnt ++ (txW cI x (nI z) T ++ (stW cI a N (e_v3 N n (e_v1 N n v 11) 3)))) sz (p_hash N n cnt z T)) 0 0 (va_A (xH cS x a r lat cnt ++ (txW cI x (nI z) T ++ (stW cI a N v))) sz) := by
  refine k_ofW (by decide) (Nat.le_of_ble_eq_true rfl) ?_
  intro p e s m args below meth c hx hb hr hml hts hown hlocks hnm hsz hP hK hD hE ls hl
  subst hsz
  have hA : ∀ q : Nat, s.heap.size ≤ q → (va_A (xH cS x a r lat cnt ++ (txW cI x (nI z) T ++ (stW cI a N v))) s.heap.size) q := fun q h => Or.inr h
  have hS : va_S (va_A (xH cS x a r lat cnt ++ (txW cI x (nI z) T ++ (stW cI a N v))) s.heap.size) s.heap s.heap [] := va_S.rf
  have hl : lv_has ls 5 [(0, .ref (x 0))] := hl
  refine lv_ldc2 (v := 3271) hx hb hown (hts _ wd_constantLong_RX4_249_3271) dX4_digest_0 ?_
  refine lv_lstore_n (lv' := [(1, .long 3271), (0, .ref (x 0))]) hx hb dX4_digest_3 rfl hl (by decide) rfl (fun ls hl => ?_)
  refine lv_iconst (v := 0) hx hb dX4_digest_4 (by decide) ?_
  refine lv_istore_n (lv' := [(3, .int 0), (1, .long 3271), (0, .ref (x 0))]) hx hb dX4_digest_5 rfl hl (by decide) rfl (fun ls hl => ?_)
  have L1 : ∀ (f k : Nat), k ≤ 11 → 11 - k < f → ∀ (H : Heap) (locs : List Loc), va_P D vwCl (xH cS x a r lat cnt ++ (txW cI x (nI z) T ++ (stW cI a N (e_v1 N n v k)))) H → va_D (va_A (xH cS x a r lat cnt ++ (txW cI x (nI z) T ++ (stW cI a N v))) s.heap.size) (xH cS x a r lat cnt ++ (txW cI x (nI z) T ++ (stW cI a N (e_v1 N n v k)))) → va_S (va_A (xH cS x a r lat cnt ++ (txW cI x (nI z) T ++ (stW cI a N v))) s.heap.size) s.heap H locs → s.heap.size ≤ H.size → ∀ ls : Array Slot, lv_has ls 5 [(0, .ref (x 0)), (1, .long (d_cnt N n cnt k)), (3, .int (nI k))] → W p l e rmX4_digest s m args below meth c H locs 0 0 (MQ below (kMl D (xH cS x a r lat cnt ++ (txW cI x (nI z) T ++ (stW cI a N v))) (xH cS x a r lat cnt ++ (txW cI x (nI z) T ++ (stW cI a N (e_v3 N n (e_v1 N n v 11) 3)))) s.heap.size (p_hash N n cnt z T)) args s 0 0 (va_A (xH cS x a r lat cnt ++ (txW cI x (nI z) T ++ (stW cI a N v))) s.heap.size)) (F0 m 6 ls []) := by
    intro f
    induction f with
    | zero => intro k hv1 hv2; exact absurd hv2 (Nat.not_lt_zero _)
    | succ f ih1 =>
      intro k hv1 hv2 H locs hP hD hS hz ls hl
      refine lv_iload_n hx hb dX4_digest_6 rfl (lv_at hl 2 rfl) ?_
      refine lv_bipush (v := 11) hx hb dX4_digest_7 (by decide) ?_
      refine lv_icmp_ge (tgt := 29) hx hb dX4_digest_9 (by decide) (fun c2 => ?_) (fun c2 => ?_)
      · have c2' := Int32.not_lt.mpr c2
        have hkn : k = 11 := k_exit (n := 11) (by omega) hv1 c2
        subst hkn
        refine lv_iconst (v := 0) hx hb dX4_digest_29 (by decide) ?_
        refine lv_istore_n (lv' := [(3, .int 0), (0, .ref (x 0)), (1, .long (d_cnt N n cnt 11))]) hx hb dX4_digest_30 rfl hl (by decide) rfl (fun ls hl => ?_)
        have L3 : ∀ (f k : Nat), k ≤ 3 → 3 - k < f → ∀ (H : Heap) (locs : List Loc), va_P D vwCl (xH cS x a r lat cnt ++ (txW cI x (nI z) T ++ (stW cI a N (e_v1 N n v 11)))) H → va_D (va_A (xH cS x a r lat cnt ++ (txW cI x (nI z) T ++ (stW cI a N v))) s.heap.size) (xH cS x a r lat cnt ++ (txW cI x (nI z) T ++ (stW cI a N (e_v1 N n v 11)))) → va_S (va_A (xH cS x a r lat cnt ++ (txW cI x (nI z) T ++ (stW cI a N v))) s.heap.size) s.heap H locs → s.heap.size ≤ H.size → ∀ ls : Array Slot, lv_has ls 5 [(0, .ref (x 0)), (1, .long (d_set N (d_cnt N n cnt 11) k)), (3, .int (nI k))] → W p l e rmX4_digest s m args below meth c H locs 0 0 (MQ below (kMl D (xH cS x a r lat cnt ++ (txW cI x (nI z) T ++ (stW cI a N v))) (xH cS x a r lat cnt ++ (txW cI x (nI z) T ++ (stW cI a N (e_v3 N n (e_v1 N n v 11) 3)))) s.heap.size (p_hash N n cnt z T)) args s 0 0 (va_A (xH cS x a r lat cnt ++ (txW cI x (nI z) T ++ (stW cI a N v))) s.heap.size)) (F0 m 31 ls []) := by
          intro f
          induction f with
          | zero => intro k hv1 hv2; exact absurd hv2 (Nat.not_lt_zero _)
          | succ f ih3 =>
            intro k hv1 hv2 H locs hP hD hS hz ls hl
            refine lv_iload_n hx hb dX4_digest_31 rfl (lv_at hl 2 rfl) ?_
            refine lv_iconst (v := 3) hx hb dX4_digest_32 (by decide) ?_
            refine lv_icmp_ge (tgt := 57) hx hb dX4_digest_33 (by decide) (fun c4 => ?_) (fun c4 => ?_)
            · have c4' := Int32.not_lt.mpr c4
              have hkn : k = 3 := k_exit (n := 3) (by omega) hv1 c4
              subst hkn
              refine lv_iconst (v := 0) hx hb dX4_digest_57 (by decide) ?_
              refine lv_istore_n (lv' := [(3, .int 0), (0, .ref (x 0)), (1, .long (d_set N (d_cnt N n cnt 11) 3))]) hx hb dX4_digest_58 rfl hl (by decide) rfl (fun ls hl => ?_)
              have L5 : ∀ (f k : Nat), k ≤ n → n - k < f → ∀ (H : Heap) (locs : List Loc), va_P D vwCl (xH cS x a r lat cnt ++ (txW cI x (nI z) T ++ (stW cI a N (e_v1 N n v 11)))) H → va_D (va_A (xH cS x a r lat cnt ++ (txW cI x (nI z) T ++ (stW cI a N v))) s.heap.size) (xH cS x a r lat cnt ++ (txW cI x (nI z) T ++ (stW cI a N (e_v1 N n v 11)))) → va_S (va_A (xH cS x a r lat cnt ++ (txW cI x (nI z) T ++ (stW cI a N v))) s.heap.size) s.heap H locs → s.heap.size ≤ H.size → ∀ ls : Array Slot, lv_has ls 5 [(0, .ref (x 0)), (1, .long (d_hs N (d_set N (d_cnt N n cnt 11) 3) k)), (3, .int (nI k))] → W p l e rmX4_digest s m args below meth c H locs 0 0 (MQ below (kMl D (xH cS x a r lat cnt ++ (txW cI x (nI z) T ++ (stW cI a N v))) (xH cS x a r lat cnt ++ (txW cI x (nI z) T ++ (stW cI a N (e_v3 N n (e_v1 N n v 11) 3)))) s.heap.size (p_hash N n cnt z T)) args s 0 0 (va_A (xH cS x a r lat cnt ++ (txW cI x (nI z) T ++ (stW cI a N v))) s.heap.size)) (F0 m 59 ls []) := by
                intro f
                induction f with
                | zero => intro k hv1 hv2; exact absurd hv2 (Nat.not_lt_zero _)
                | succ f ih5 =>
                  intro k hv1 hv2 H locs hP hD hS hz ls hl
                  refine lv_iload_n hx hb dX4_digest_59 rfl (lv_at hl 2 rfl) ?_
                  refine lv_aload_n hx hb dX4_digest_60 rfl (lv_at hl 0 rfl) ?_
                  refine g4 hx hb hts hown hK hP 0 rfl 0 (by decide) flX4_10 (fun _ h => h) (v := .ref (a 0)) rfl dX4_digest_61 ?_
                  refine g3 hx hb hts hown hK hP 4 rfl 2 (by decide) flX4_216 (fun _ h => h) (v := .int (nI n)) (by rw [← hn]; rfl) dX4_digest_64 ?_
                  refine lv_icmp_ge (tgt := 129) hx hb dX4_digest_67 (by decide) (fun c6 => ?_) (fun c6 => ?_)
                  · have c6' := Int32.not_lt.mpr c6
                    have hkn : n = k := (k_exit (by omega) hv1 c6).symm
                    subst hkn
                    refine lv_iconst (v := 0) hx hb dX4_digest_129 (by decide) ?_
                    refine lv_istore_n (lv' := [(3, .int 0), (0, .ref (x 0)), (1, .long (d_hs N (d_set N (d_cnt N n cnt 11) 3) n))]) hx hb dX4_digest_130 rfl hl (by decide) rfl (fun ls hl => ?_)
                    have L7 : ∀ (f k : Nat), k ≤ 3 → 3 - k < f → ∀ (H : Heap) (locs : List Loc), va_P D vwCl (xH cS x a r lat cnt ++ (txW cI x (nI z) T ++ (stW cI a N (e_v3 N n (e_v1 N n v 11) k)))) H → va_D (va_A (xH cS x a r lat cnt ++ (txW cI x (nI z) T ++ (stW cI a N v))) s.heap.size) (xH cS x a r lat cnt ++ (txW cI x (nI z) T ++ (stW cI a N (e_v3 N n (e_v1 N n v 11) k)))) → va_S (va_A (xH cS x a r lat cnt ++ (txW cI x (nI z) T ++ (stW cI a N v))) s.heap.size) s.heap H locs → s.heap.size ≤ H.size → ∀ ls : Array Slot, lv_has ls 5 [(0, .ref (x 0)), (1, .long (d_tr N n (d_hs N (d_set N (d_cnt N n cnt 11) 3) n) k)), (3, .int (nI k))] → W p l e rmX4_digest s m args below meth c H locs 0 0 (MQ below (kMl D (xH cS x a r lat cnt ++ (txW cI x (nI z) T ++ (stW cI a N v))) (xH cS x a r lat cnt ++ (txW cI x (nI z) T ++ (stW cI a N (e_v3 N n (e_v1 N n v 11) 3)))) s.heap.size (p_hash N n cnt z T)) args s 0 0 (va_A (xH cS x a r lat cnt ++ (txW cI x (nI z) T ++ (stW cI a N v))) s.heap.size)) (F0 m 131 ls []) := by
                      intro f
                      induction f with
                      | zero => intro k hv1 hv2; exact absurd hv2 (Nat.not_lt_zero _)
                      | succ f ih7 =>
                        intro k hv1 hv2 H locs hP hD hS hz ls hl
                        refine lv_iload_n hx hb dX4_digest_131 rfl (lv_at hl 2 rfl) ?_
                        refine lv_iconst (v := 3) hx hb dX4_digest_132 (by decide) ?_
                        refine lv_icmp_ge (tgt := 182) hx hb dX4_digest_133 (by decide) (fun c8 => ?_) (fun c8 => ?_)
                        · have c8' := Int32.not_lt.mpr c8
                          have hkn : k = 3 := k_exit (n := 3) (by omega) hv1 c8
                          subst hkn
                          refine lv_lload_n hx hb dX4_digest_182 rfl (lv_at hl 1 rfl) ?_
                          refine lv_aload_n hx hb dX4_digest_183 rfl (lv_at hl 0 rfl) ?_
                          refine k_riV (As := []) (rest := [.long (d_tr N n (d_hs N (d_set N (d_cnt N n cnt 11) 3) n) 3)]) (wc := xH cS x a r lat cnt ++ (txW cI x (nI z) T ++ (stW cI a N (e_v3 N n (e_v1 N n v 11) 3)))) ⟨hx, hb, hml, hown, hts⟩ (c_X4_nextLapse l D cI cS cL x a r lat cnt (nI z) T N (e_v3 N n (e_v1 N n v 11) 3) _ n hn hn14) lkX4_273 rfl rfl ⟨(Nat.le_of_ble_eq_true rfl), (Nat.le_of_ble_eq_true rfl)⟩ (va_recv hK hP (ci := 3) (q0 := 0) rfl rfl) hK hE hP hD rfl hl.1 rfl (Nat.le_of_ble_eq_true rfl) dX4_digest_184 ⟨Nat.zero_le _, Nat.zero_le _⟩ ?_
                          refine lv_i2l (v := (p_fl N n).toInt64) hx hb dX4_digest_187 rfl ?_
                          refine k_rlS (As := [.long (d_tr N n (d_hs N (d_set N (d_cnt N n cnt 11) 3) n) 3), .long ((p_fl N n).toInt64)]) (rest := []) (wc := []) ⟨hx, hb, hml, hown, hts⟩ (c_X4_mixed l D cI cS cL _ (d_tr N n (d_hs N (d_set N (d_cnt N n cnt 11) 3) n) 3) ((p_fl N n).toInt64)) lkX4_254 rfl rfl ⟨(Nat.le_of_ble_eq_true rfl), (Nat.le_of_ble_eq_true rfl)⟩ hK hE k_nilP (k_nilD (A := va_A (xH cS x a r lat cnt ++ (txW cI x (nI z) T ++ (stW cI a N v))) s.heap.size)) rfl hl.1 rfl (Nat.le_of_ble_eq_true rfl) dX4_digest_188 ⟨Nat.zero_le _, Nat.zero_le _⟩ ?_
                          refine lv_lstore_n (lv' := [(1, .long (31 * (d_tr N n (d_hs N (d_set N (d_cnt N n cnt 11) 3) n) 3) + ((p_fl N n).toInt64))), (0, .ref (x 0)), (3, .int 3)]) hx hb dX4_digest_191 rfl hl (by decide) rfl (fun ls hl => ?_)
                          refine lv_lload_n hx hb dX4_digest_192 rfl (lv_at hl 0 rfl) ?_
                          refine lv_aload_n hx hb dX4_digest_193 rfl (lv_at hl 1 rfl) ?_
                          refine k_rdV (As := []) (rest := [.long (31 * (d_tr N n (d_hs N (d_set N (d_cnt N n cnt 11) 3) n) 3) + ((p_fl N n).toInt64))]) (wc := xH cS x a r lat cnt ++ (txW cI x (nI z) T ++ (stW cI a N (e_v3 N n (e_v1 N n v 11) 3)))) ⟨hx, hb, hml, hown, hts⟩ (c_X4_readyShare l D cI cS cL x a r lat cnt (nI z) T N (e_v3 N n (e_v1 N n v 11) 3) _ n hn hn14) lkX4_276 rfl rfl ⟨(Nat.le_of_ble_eq_true rfl), (Nat.le_of_ble_eq_true rfl)⟩ (va_recv hK hP (ci := 3) (q0 := 0) rfl rfl) hK hE hP hD rfl hl.1 rfl (Nat.le_of_ble_eq_true rfl) dX4_digest_194 ⟨Nat.zero_le _, Nat.zero_le _⟩ ?_
                          refine k_rlS (As := [.double (p_share N n)]) (rest := [.long (31 * (d_tr N n (d_hs N (d_set N (d_cnt N n cnt 11) 3) n) 3) + ((p_fl N n).toInt64))]) (wc := []) ⟨hx, hb, hml, hown, hts⟩ (c_X4_bitsOfShare l D cI cS cL _ (p_share N n) (bs_share hn14)) lkX4_280 rfl rfl ⟨(Nat.le_of_ble_eq_true rfl), (Nat.le_of_ble_eq_true rfl)⟩ hK hE k_nilP (k_nilD (A := va_A (xH cS x a r lat cnt ++ (txW cI x (nI z) T ++ (stW cI a N v))) s.heap.size)) rfl hl.1 rfl (Nat.le_of_ble_eq_true rfl) dX4_digest_197 ⟨Nat.zero_le _, Nat.zero_le _⟩ ?_
                          refine k_rlS (As := [.long (31 * (d_tr N n (d_hs N (d_set N (d_cnt N n cnt 11) 3) n) 3) + ((p_fl N n).toInt64)), .long ((p_share N n).toInt64)]) (rest := []) (wc := []) ⟨hx, hb, hml, hown, hts⟩ (c_X4_mixed l D cI cS cL _ (31 * (d_tr N n (d_hs N (d_set N (d_cnt N n cnt 11) 3) n) 3) + ((p_fl N n).toInt64)) ((p_share N n).toInt64)) lkX4_254 rfl rfl ⟨(Nat.le_of_ble_eq_true rfl), (Nat.le_of_ble_eq_true rfl)⟩ hK hE k_nilP (k_nilD (A := va_A (xH cS x a r lat cnt ++ (txW cI x (nI z) T ++ (stW cI a N v))) s.heap.size)) rfl hl.1 rfl (Nat.le_of_ble_eq_true rfl) dX4_digest_200 ⟨Nat.zero_le _, Nat.zero_le _⟩ ?_
                          refine lv_lstore_n (lv' := [(1, .long (31 * (31 * (d_tr N n (d_hs N (d_set N (d_cnt N n cnt 11) 3) n) 3) + ((p_fl N n).toInt64)) + ((p_share N n).toInt64))), (0, .ref (x 0)), (3, .int 3)]) hx hb dX4_digest_203 rfl hl (by decide) rfl (fun ls hl => ?_)
                          refine lv_lload_n hx hb dX4_digest_204 rfl (lv_at hl 0 rfl) ?_
                          refine lv_aload_n hx hb dX4_digest_205 rfl (lv_at hl 1 rfl) ?_
                          refine g4 hx hb hts hown hK hP 0 rfl 4 (by decide) flX4_30 (fun _ h => h) (v := .ref (x 2)) rfl dX4_digest_206 ?_
                          refine g0 hx hb hts hown hK hP 2 rfl 1 (by decide) flX4_141 (fun _ h => h) (v := .int (nI z)) rfl dX4_digest_209 ?_
                          refine lv_i2l (v := (nI z).toInt64) hx hb dX4_digest_212 rfl ?_
                          refine k_rlS (As := [.long (31 * (31 * (d_tr N n (d_hs N (d_set N (d_cnt N n cnt 11) 3) n) 3) + ((p_fl N n).toInt64)) + ((p_share N n).toInt64)), .long ((nI z).toInt64)]) (rest := []) (wc := []) ⟨hx, hb, hml, hown, hts⟩ (c_X4_mixed l D cI cS cL _ (31 * (31 * (d_tr N n (d_hs N (d_set N (d_cnt N n cnt 11) 3) n) 3) + ((p_fl N n).toInt64)) + ((p_share N n).toInt64)) ((nI z).toInt64)) lkX4_254 rfl rfl ⟨(Nat.le_of_ble_eq_true rfl), (Nat.le_of_ble_eq_true rfl)⟩ hK hE k_nilP (k_nilD (A := va_A (xH cS x a r lat cnt ++ (txW cI x (nI z) T ++ (stW cI a N v))) s.heap.size)) rfl hl.1 rfl (Nat.le_of_ble_eq_true rfl) dX4_digest_213 ⟨Nat.zero_le _, Nat.zero_le _⟩ ?_
                          refine lv_lstore_n (lv' := [(1, .long (31 * (31 * (31 * (d_tr N n (d_hs N (d_set N (d_cnt N n cnt 11) 3) n) 3) + ((p_fl N n).toInt64)) + ((p_share N n).toInt64)) + ((nI z).toInt64))), (0, .ref (x 0)), (3, .int 3)]) hx hb dX4_digest_216 rfl hl (by decide) rfl (fun ls hl => ?_)
                          refine lv_iconst (v := 0) hx hb dX4_digest_217 (by decide) ?_
                          refine lv_istore_n (lv' := [(3, .int 0), (1, .long (31 * (31 * (31 * (d_tr N n (d_hs N (d_set N (d_cnt N n cnt 11) 3) n) 3) + ((p_fl N n).toInt64)) + ((p_share N n).toInt64)) + ((nI z).toInt64))), (0, .ref (x 0))]) hx hb dX4_digest_218 rfl hl (by decide) rfl (fun ls hl => ?_)
                          have L9 : ∀ (f k : Nat), k ≤ z → z - k < f → ∀ (H : Heap) (locs : List Loc), va_P D vwCl (xH cS x a r lat cnt ++ (txW cI x (nI z) T ++ (stW cI a N (e_v3 N n (e_v1 N n v 11) 3)))) H → va_D (va_A (xH cS x a r lat cnt ++ (txW cI x (nI z) T ++ (stW cI a N v))) s.heap.size) (xH cS x a r lat cnt ++ (txW cI x (nI z) T ++ (stW cI a N (e_v3 N n (e_v1 N n v 11) 3)))) → va_S (va_A (xH cS x a r lat cnt ++ (txW cI x (nI z) T ++ (stW cI a N v))) s.heap.size) s.heap H locs → s.heap.size ≤ H.size → ∀ ls : Array Slot, lv_has ls 5 [(0, .ref (x 0)), (1, .long (d_tx T (31 * (31 * (31 * (d_tr N n (d_hs N (d_set N (d_cnt N n cnt 11) 3) n) 3) + (p_fl N n).toInt64) + (p_share N n).toInt64) + (nI z).toInt64) k)), (3, .int (nI k))] → W p l e rmX4_digest s m args below meth c H locs 0 0 (MQ below (kMl D (xH cS x a r lat cnt ++ (txW cI x (nI z) T ++ (stW cI a N v))) (xH cS x a r lat cnt ++ (txW cI x (nI z) T ++ (stW cI a N (e_v3 N n (e_v1 N n v 11) 3)))) s.heap.size (p_hash N n cnt z T)) args s 0 0 (va_A (xH cS x a r lat cnt ++ (txW cI x (nI z) T ++ (stW cI a N v))) s.heap.size)) (F0 m 219 ls []) := by
                            intro f
                            induction f with
                            | zero => intro k hv1 hv2; exact absurd hv2 (Nat.not_lt_zero _)
                            | succ f ih9 =>
                              intro k hv1 hv2 H locs hP hD hS hz ls hl
                              refine lv_iload_n hx hb dX4_digest_219 rfl (lv_at hl 2 rfl) ?_
                              refine lv_aload_n hx hb dX4_digest_220 rfl (lv_at hl 0 rfl) ?_
                              refine g4 hx hb hts hown hK hP 0 rfl 4 (by decide) flX4_30 (fun _ h => h) (v := .ref (x 2)) rfl dX4_digest_221 ?_
                              refine g0 hx hb hts hown hK hP 2 rfl 1 (by decide) flX4_141 (fun _ h => h) (v := .int (nI z)) rfl dX4_digest_224 ?_
                              refine lv_icmp_ge (tgt := 251) hx hb dX4_digest_227 (by decide) (fun c10 => ?_) (fun c10 => ?_)
                              · have c10' := Int32.not_lt.mpr c10
                                have hkz : z = k := (k_exit (n := z) (by omega) hv1 c10).symm
                                subst hkz
                                refine lv_lload_n hx hb dX4_digest_251 rfl (lv_at hl 1 rfl) ?_
                                have hP : va_P D vwCl (xH cS x a r lat cnt ++ (txW cI x (nI z) T ++ (stW cI a N (e_v3 N n (e_v1 N n v 11) 3)))) H := hP
                                have hD : va_D (va_A (xH cS x a r lat cnt ++ (txW cI x (nI z) T ++ (stW cI a N v))) s.heap.size) (xH cS x a r lat cnt ++ (txW cI x (nI z) T ++ (stW cI a N (e_v3 N n (e_v1 N n v 11) 3)))) := hD
                                exact k_eMl hx hb hr hlocks hP hS (by rfl) dX4_digest_252
                              · have c10' := Int32.not_le.mp c10
                                have hkz : k < z := k_more (n := z) (by omega) hv1 c10
                                refine lv_lload_n hx hb dX4_digest_230 rfl (lv_at hl 1 rfl) ?_
                                refine lv_aload_n hx hb dX4_digest_231 rfl (lv_at hl 0 rfl) ?_
                                refine g4 hx hb hts hown hK hP 0 rfl 4 (by decide) flX4_30 (fun _ h => h) (v := .ref (x 2)) rfl dX4_digest_232 ?_
                                refine g0 hx hb hts hown hK hP 2 rfl 0 (by decide) flX4_284 (fun _ h => h) (v := .ref (x 3)) rfl dX4_digest_235 ?_
                                refine lv_iload_n hx hb dX4_digest_238 rfl (lv_at hl 2 rfl) ?_
                                refine k_ald (k := k) hx hb hK hP 3 0 rfl rfl rfl (by omega) (by decide) dX4_digest_239 ?_
                                refine lv_i2l (v := (T k).toInt64) hx hb dX4_digest_240 rfl ?_
                                refine k_rlS (As := [.long (d_tx T (31 * (31 * (31 * (d_tr N n (d_hs N (d_set N (d_cnt N n cnt 11) 3) n) 3) + (p_fl N n).toInt64) + (p_share N n).toInt64) + (nI z).toInt64) k), .long ((T k).toInt64)]) (rest := []) (wc := []) ⟨hx, hb, hml, hown, hts⟩ (c_X4_mixed l D cI cS cL _ (d_tx T (31 * (31 * (31 * (d_tr N n (d_hs N (d_set N (d_cnt N n cnt 11) 3) n) 3) + (p_fl N n).toInt64) + (p_share N n).toInt64) + (nI z).toInt64) k) ((T k).toInt64)) lkX4_254 rfl rfl ⟨(Nat.le_of_ble_eq_true rfl), (Nat.le_of_ble_eq_true rfl)⟩ hK hE k_nilP (k_nilD (A := va_A (xH cS x a r lat cnt ++ (txW cI x (nI z) T ++ (stW cI a N v))) s.heap.size)) rfl hl.1 rfl (Nat.le_of_ble_eq_true rfl) dX4_digest_241 ⟨Nat.zero_le _, Nat.zero_le _⟩ ?_
                                refine lv_lstore_n (lv' := [(1, .long (31 * (d_tx T (31 * (31 * (31 * (d_tr N n (d_hs N (d_set N (d_cnt N n cnt 11) 3) n) 3) + (p_fl N n).toInt64) + (p_share N n).toInt64) + (nI z).toInt64) k) + ((T k).toInt64))), (0, .ref (x 0)), (3, .int (nI k))]) hx hb dX4_digest_244 rfl hl (by decide) rfl (fun ls hl => ?_)
                                refine lv_iinc (v := nI (k + 1)) (lv' := [(3, .int (nI (k + 1))), (1, .long (31 * (d_tx T (31 * (31 * (31 * (d_tr N n (d_hs N (d_set N (d_cnt N n cnt 11) 3) n) 3) + (p_fl N n).toInt64) + (p_share N n).toInt64) + (nI z).toInt64) k) + ((T k).toInt64))), (0, .ref (x 0))]) hx hb dX4_digest_245 hl (k := 2) rfl (nI_1 _) (by decide) rfl (fun ls hl => ?_)
                                refine lv_goto (tgt := 219) hx hb dX4_digest_248 (by decide) ?_
                                have hl : lv_has ls 5 [(0, .ref (x 0)), (1, .long (31 * (d_tx T (31 * (31 * (31 * (d_tr N n (d_hs N (d_set N (d_cnt N n cnt 11) 3) n) 3) + (p_fl N n).toInt64) + (p_share N n).toInt64) + (nI z).toInt64) k) + ((T k).toInt64))), (3, .int (nI (k + 1)))] := lv_sub hl [2, 1, 0] rfl
                                have hl : lv_has ls 5 [(0, .ref (x 0)), (1, .long (d_tx T (31 * (31 * (31 * (d_tr N n (d_hs N (d_set N (d_cnt N n cnt 11) 3) n) 3) + (p_fl N n).toInt64) + (p_share N n).toInt64) + (nI z).toInt64) (k + 1))), (3, .int (nI (k + 1)))] := hl
                                have hP : va_P D vwCl (xH cS x a r lat cnt ++ (txW cI x (nI z) T ++ (stW cI a N (e_v3 N n (e_v1 N n v 11) 3)))) H := hP
                                have hD : va_D (va_A (xH cS x a r lat cnt ++ (txW cI x (nI z) T ++ (stW cI a N v))) s.heap.size) (xH cS x a r lat cnt ++ (txW cI x (nI z) T ++ (stW cI a N (e_v3 N n (e_v1 N n v 11) 3)))) := hD
                                exact ih9 (k + 1) (by omega) (by omega) H locs hP hD hS hS.1 ls hl
                          have hl : lv_has ls 5 [(0, .ref (x 0)), (1, .long (31 * (31 * (31 * (d_tr N n (d_hs N (d_set N (d_cnt N n cnt 11) 3) n) 3) + ((p_fl N n).toInt64)) + ((p_share N n).toInt64)) + ((nI z).toInt64))), (3, .int 0)] := lv_sub hl [2, 1, 0] rfl
                          have hl : lv_has ls 5 [(0, .ref (x 0)), (1, .long (d_tx T (31 * (31 * (31 * (d_tr N n (d_hs N (d_set N (d_cnt N n cnt 11) 3) n) 3) + (p_fl N n).toInt64) + (p_share N n).toInt64) + (nI z).toInt64) 0)), (3, .int (nI 0))] := hl
                          have hP : va_P D vwCl (xH cS x a r lat cnt ++ (txW cI x (nI z) T ++ (stW cI a N (e_v3 N n (e_v1 N n v 11) 3)))) H := hP
                          have hD : va_D (va_A (xH cS x a r lat cnt ++ (txW cI x (nI z) T ++ (stW cI a N v))) s.heap.size) (xH cS x a r lat cnt ++ (txW cI x (nI z) T ++ (stW cI a N (e_v3 N n (e_v1 N n v 11) 3)))) := hD
                          exact L9 (z - 0 + 1) 0 (by omega) (by omega) H locs hP hD hS hS.1 ls hl
                        · have c8' := Int32.not_le.mp c8
                          have hkn : k < 3 := k_more (n := 3) (by omega) hv1 c8
                          refine lv_iconst (v := 0) hx hb dX4_digest_136 (by decide) ?_
                          refine lv_istore (lv' := [(4, .int 0), (0, .ref (x 0)), (1, .long (d_tr N n (d_hs N (d_set N (d_cnt N n cnt 11) 3) n) k)), (3, .int (nI k))]) hx hb dX4_digest_137 hl (by decide) rfl (fun ls hl => ?_)
                          have L15 : ∀ (f w : Nat), w ≤ 7 → 7 - w < f → ∀ (H : Heap) (locs : List Loc), va_P D vwCl (xH cS x a r lat cnt ++ (txW cI x (nI z) T ++ (stW cI a N (e_v3i N n k (e_v3 N n (e_v1 N n v 11) k) w)))) H → va_D (va_A (xH cS x a r lat cnt ++ (txW cI x (nI z) T ++ (stW cI a N v))) s.heap.size) (xH cS x a r lat cnt ++ (txW cI x (nI z) T ++ (stW cI a N (e_v3i N n k (e_v3 N n (e_v1 N n v 11) k) w)))) → va_S (va_A (xH cS x a r lat cnt ++ (txW cI x (nI z) T ++ (stW cI a N v))) s.heap.size) s.heap H locs → s.heap.size ≤ H.size → ∀ ls : Array Slot, lv_has ls 5 [(0, .ref (x 0)), (1, .long (d_tr1 N n k (d_tr N n (d_hs N (d_set N (d_cnt N n cnt 11) 3) n) k) w)), (3, .int (nI k)), (4, .int (nI w))] → W p l e rmX4_digest s m args below meth c H locs 0 0 (MQ below (kMl D (xH cS x a r lat cnt ++ (txW cI x (nI z) T ++ (stW cI a N v))) (xH cS x a r lat cnt ++ (txW cI x (nI z) T ++ (stW cI a N (e_v3 N n (e_v1 N n v 11) 3)))) s.heap.size (p_hash N n cnt z T)) args s 0 0 (va_A (xH cS x a r lat cnt ++ (txW cI x (nI z) T ++ (stW cI a N v))) s.heap.size)) (F0 m 139 ls []) := by
                            intro f
                            induction f with
                            | zero => intro w hv1 hv2; exact absurd hv2 (Nat.not_lt_zero _)
                            | succ f ih15 =>
                              intro w hv1 hv2 H locs hP hD hS hz ls hl
                              refine lv_iload hx hb dX4_digest_139 (lv_at hl 3 rfl) ?_
                              refine lv_bipush (v := 7) hx hb dX4_digest_141 (by decide) ?_
                              refine lv_icmp_ge (tgt := 165) hx hb dX4_digest_143 (by decide) (fun c16 => ?_) (fun c16 => ?_)
                              · have c16' := Int32.not_lt.mpr c16
                                have hwn : w = 7 := k_exit (n := 7) (by omega) hv1 c16
                                subst hwn
                                refine lv_lload_n hx hb dX4_digest_165 rfl (lv_at hl 1 rfl) ?_
                                refine lv_aload_n hx hb dX4_digest_166 rfl (lv_at hl 0 rfl) ?_
                                refine lv_iload_n hx hb dX4_digest_167 rfl (lv_at hl 2 rfl) ?_
                                refine k_miV (As := [.int (nI k)]) (rest := [.long (d_tr1 N n k (d_tr N n (d_hs N (d_set N (d_cnt N n cnt 11) 3) n) k) 7)]) (w1 := []) (wc := xH cS x a r lat cnt ++ (txW cI x (nI z) T ++ (stW cI a N (e_v3i N n k (e_v3 N n (e_v1 N n v 11) k) 7)))) (wc' := xH cS x a r lat cnt ++ (txW cI x (nI z) T ++ (stW cI a N (p_helpv N k n)))) (w3 := []) ⟨hx, hb, hml, hown, hts⟩ (c_X4_helps_g l D cI cS cL x a r lat cnt (nI z) T N (e_v3i N n k (e_v3 N n (e_v1 N n v 11) k) 7) _ n hn hn14 k (by omega)) lkX4_270 rfl rfl ⟨(Nat.le_of_ble_eq_true rfl), (Nat.le_of_ble_eq_true rfl)⟩ (va_recv hK hP (ci := 3) (q0 := 0) rfl rfl) hK hE hP hD hS hA rfl rfl hl.1 rfl (Nat.le_of_ble_eq_true rfl) dX4_digest_168 ⟨Nat.zero_le _, Nat.zero_le _⟩ (fun H locs hzz hP hD hS => ?_)
                                have hP : va_P D vwCl (xH cS x a r lat cnt ++ (txW cI x (nI z) T ++ (stW cI a N (p_helpv N k n)))) H := hP
                                have hD : va_D (va_A (xH cS x a r lat cnt ++ (txW cI x (nI z) T ++ (stW cI a N v))) s.heap.size) (xH cS x a r lat cnt ++ (txW cI x (nI z) T ++ (stW cI a N (p_helpv N k n)))) := hD
                                refine lv_i2l (v := (p_help N k n).toInt64) hx hb dX4_digest_171 rfl ?_
                                refine k_rlS (As := [.long (d_tr1 N n k (d_tr N n (d_hs N (d_set N (d_cnt N n cnt 11) 3) n) k) 7), .long ((p_help N k n).toInt64)]) (rest := []) (wc := []) ⟨hx, hb, hml, hown, hts⟩ (c_X4_mixed l D cI cS cL _ (d_tr1 N n k (d_tr N n (d_hs N (d_set N (d_cnt N n cnt 11) 3) n) k) 7) ((p_help N k n).toInt64)) lkX4_254 rfl rfl ⟨(Nat.le_of_ble_eq_true rfl), (Nat.le_of_ble_eq_true rfl)⟩ hK hE k_nilP (k_nilD (A := va_A (xH cS x a r lat cnt ++ (txW cI x (nI z) T ++ (stW cI a N v))) s.heap.size)) rfl hl.1 rfl (Nat.le_of_ble_eq_true rfl) dX4_digest_172 ⟨Nat.zero_le _, Nat.zero_le _⟩ ?_
                                refine lv_lstore_n (lv' := [(1, .long (31 * (d_tr1 N n k (d_tr N n (d_hs N (d_set N (d_cnt N n cnt 11) 3) n) k) 7) + ((p_help N k n).toInt64))), (0, .ref (x 0)), (3, .int (nI k)), (4, .int 7)]) hx hb dX4_digest_175 rfl hl (by decide) rfl (fun ls hl => ?_)
                                refine lv_iinc (v := nI (k + 1)) (lv' := [(3, .int (nI (k + 1))), (1, .long (31 * (d_tr1 N n k (d_tr N n (d_hs N (d_set N (d_cnt N n cnt 11) 3) n) k) 7) + ((p_help N k n).toInt64))), (0, .ref (x 0)), (4, .int 7)]) hx hb dX4_digest_176 hl (k := 2) rfl (nI_1 _) (by decide) rfl (fun ls hl => ?_)
                                refine lv_goto (tgt := 131) hx hb dX4_digest_179 (by decide) ?_
                                have hl : lv_has ls 5 [(0, .ref (x 0)), (1, .long (31 * (d_tr1 N n k (d_tr N n (d_hs N (d_set N (d_cnt N n cnt 11) 3) n) k) 7) + ((p_help N k n).toInt64))), (3, .int (nI (k + 1)))] := lv_sub hl [2, 1, 0] rfl
                                have hl : lv_has ls 5 [(0, .ref (x 0)), (1, .long (d_tr N n (d_hs N (d_set N (d_cnt N n cnt 11) 3) n) (k + 1))), (3, .int (nI (k + 1)))] := hl
                                have hP : va_P D vwCl (xH cS x a r lat cnt ++ (txW cI x (nI z) T ++ (stW cI a N (e_v3 N n (e_v1 N n v 11) (k + 1))))) H := hP
                                have hD : va_D (va_A (xH cS x a r lat cnt ++ (txW cI x (nI z) T ++ (stW cI a N v))) s.heap.size) (xH cS x a r lat cnt ++ (txW cI x (nI z) T ++ (stW cI a N (e_v3 N n (e_v1 N n v 11) (k + 1))))) := hD
                                exact ih7 (k + 1) (by omega) (by omega) H locs hP hD hS hS.1 ls hl
                              · have c16' := Int32.not_le.mp c16
                                have hwn : w < 7 := k_more (n := 7) (by omega) hv1 c16
                                refine lv_lload_n hx hb dX4_digest_146 rfl (lv_at hl 1 rfl) ?_
                                refine lv_aload_n hx hb dX4_digest_147 rfl (lv_at hl 0 rfl) ?_
                                refine lv_iload_n hx hb dX4_digest_148 rfl (lv_at hl 2 rfl) ?_
                                refine lv_iload hx hb dX4_digest_149 (lv_at hl 3 rfl) ?_
                                refine k_miV (As := [.int (nI k), .int (nI w)]) (rest := [.long (d_tr1 N n k (d_tr N n (d_hs N (d_set N (d_cnt N n cnt 11) 3) n) k) w)]) (w1 := []) (wc := xH cS x a r lat cnt ++ (txW cI x (nI z) T ++ (stW cI a N (e_v3i N n k (e_v3 N n (e_v1 N n v 11) k) w)))) (wc' := xH cS x a r lat cnt ++ (txW cI x (nI z) T ++ (stW cI a N (p_lay N (nI k) (-1) n)))) (w3 := []) ⟨hx, hb, hml, hown, hts⟩ (c_X4_truck_g l D cI cS cL x a r lat cnt (nI z) T N (e_v3i N n k (e_v3 N n (e_v1 N n v 11) k) w) _ n hn hn14 k w (by omega) (by omega)) lkX4_267 rfl rfl ⟨(Nat.le_of_ble_eq_true rfl), (Nat.le_of_ble_eq_true rfl)⟩ (va_recv hK hP (ci := 3) (q0 := 0) rfl rfl) hK hE hP hD hS hA rfl rfl hl.1 rfl (Nat.le_of_ble_eq_true rfl) dX4_digest_151 ⟨Nat.zero_le _, Nat.zero_le _⟩ (fun H locs hzz hP hD hS => ?_)
                                have hP : va_P D vwCl (xH cS x a r lat cnt ++ (txW cI x (nI z) T ++ (stW cI a N (p_lay N (nI k) (-1) n)))) H := hP
                                have hD : va_D (va_A (xH cS x a r lat cnt ++ (txW cI x (nI z) T ++ (stW cI a N v))) s.heap.size) (xH cS x a r lat cnt ++ (txW cI x (nI z) T ++ (stW cI a N (p_lay N (nI k) (-1) n)))) := hD
                                refine lv_i2l (v := (p_truck N n k w).toInt64) hx hb dX4_digest_154 rfl ?_
                                refine k_rlS (As := [.long (d_tr1 N n k (d_tr N n (d_hs N (d_set N (d_cnt N n cnt 11) 3) n) k) w), .long ((p_truck N n k w).toInt64)]) (rest := []) (wc := []) ⟨hx, hb, hml, hown, hts⟩ (c_X4_mixed l D cI cS cL _ (d_tr1 N n k (d_tr N n (d_hs N (d_set N (d_cnt N n cnt 11) 3) n) k) w) ((p_truck N n k w).toInt64)) lkX4_254 rfl rfl ⟨(Nat.le_of_ble_eq_true rfl), (Nat.le_of_ble_eq_true rfl)⟩ hK hE k_nilP (k_nilD (A := va_A (xH cS x a r lat cnt ++ (txW cI x (nI z) T ++ (stW cI a N v))) s.heap.size)) rfl hl.1 rfl (Nat.le_of_ble_eq_true rfl) dX4_digest_155 ⟨Nat.zero_le _, Nat.zero_le _⟩ ?_
                                refine lv_lstore_n (lv' := [(1, .long (31 * (d_tr1 N n k (d_tr N n (d_hs N (d_set N (d_cnt N n cnt 11) 3) n) k) w) + ((p_truck N n k w).toInt64))), (0, .ref (x 0)), (3, .int (nI k)), (4, .int (nI w))]) hx hb dX4_digest_158 rfl hl (by decide) rfl (fun ls hl => ?_)
                                refine lv_iinc (v := nI (w + 1)) (lv' := [(4, .int (nI (w + 1))), (1, .long (31 * (d_tr1 N n k (d_tr N n (d_hs N (d_set N (d_cnt N n cnt 11) 3) n) k) w) + ((p_truck N n k w).toInt64))), (0, .ref (x 0)), (3, .int (nI k))]) hx hb dX4_digest_159 hl (k := 3) rfl (nI_1 _) (by decide) rfl (fun ls hl => ?_)
                                refine lv_goto (tgt := 139) hx hb dX4_digest_162 (by decide) ?_
                                have hl : lv_has ls 5 [(0, .ref (x 0)), (1, .long (31 * (d_tr1 N n k (d_tr N n (d_hs N (d_set N (d_cnt N n cnt 11) 3) n) k) w) + ((p_truck N n k w).toInt64))), (3, .int (nI k)), (4, .int (nI (w + 1)))] := lv_sub hl [2, 1, 3, 0] rfl
                                have hl : lv_has ls 5 [(0, .ref (x 0)), (1, .long (d_tr1 N n k (d_tr N n (d_hs N (d_set N (d_cnt N n cnt 11) 3) n) k) (w + 1))), (3, .int (nI k)), (4, .int (nI (w + 1)))] := hl
                                have hP : va_P D vwCl (xH cS x a r lat cnt ++ (txW cI x (nI z) T ++ (stW cI a N (e_v3i N n k (e_v3 N n (e_v1 N n v 11) k) (w + 1))))) H := hP
                                have hD : va_D (va_A (xH cS x a r lat cnt ++ (txW cI x (nI z) T ++ (stW cI a N v))) s.heap.size) (xH cS x a r lat cnt ++ (txW cI x (nI z) T ++ (stW cI a N (e_v3i N n k (e_v3 N n (e_v1 N n v 11) k) (w + 1))))) := hD
                                exact ih15 (w + 1) (by omega) (by omega) H locs hP hD hS hS.1 ls hl
                          have hl : lv_has ls 5 [(0, .ref (x 0)), (1, .long (d_tr N n (d_hs N (d_set N (d_cnt N n cnt 11) 3) n) k)), (3, .int (nI k)), (4, .int 0)] := lv_sub hl [1, 2, 3, 0] rfl
                          have hl : lv_has ls 5 [(0, .ref (x 0)), (1, .long (d_tr1 N n k (d_tr N n (d_hs N (d_set N (d_cnt N n cnt 11) 3) n) k) 0)), (3, .int (nI k)), (4, .int (nI 0))] := hl
                          have hP : va_P D vwCl (xH cS x a r lat cnt ++ (txW cI x (nI z) T ++ (stW cI a N (e_v3i N n k (e_v3 N n (e_v1 N n v 11) k) 0)))) H := hP
                          have hD : va_D (va_A (xH cS x a r lat cnt ++ (txW cI x (nI z) T ++ (stW cI a N v))) s.heap.size) (xH cS x a r lat cnt ++ (txW cI x (nI z) T ++ (stW cI a N (e_v3i N n k (e_v3 N n (e_v1 N n v 11) k) 0)))) := hD
                          exact L15 (7 - 0 + 1) 0 (by omega) (by omega) H locs hP hD hS hS.1 ls hl
                    have hl : lv_has ls 5 [(0, .ref (x 0)), (1, .long (d_hs N (d_set N (d_cnt N n cnt 11) 3) n)), (3, .int 0)] := lv_sub hl [1, 2, 0] rfl
                    have hl : lv_has ls 5 [(0, .ref (x 0)), (1, .long (d_tr N n (d_hs N (d_set N (d_cnt N n cnt 11) 3) n) 0)), (3, .int (nI 0))] := hl
                    have hP : va_P D vwCl (xH cS x a r lat cnt ++ (txW cI x (nI z) T ++ (stW cI a N (e_v3 N n (e_v1 N n v 11) 0)))) H := hP
                    have hD : va_D (va_A (xH cS x a r lat cnt ++ (txW cI x (nI z) T ++ (stW cI a N v))) s.heap.size) (xH cS x a r lat cnt ++ (txW cI x (nI z) T ++ (stW cI a N (e_v3 N n (e_v1 N n v 11) 0)))) := hD
                    exact L7 (3 - 0 + 1) 0 (by omega) (by omega) H locs hP hD hS hS.1 ls hl
                  · have c6' := Int32.not_le.mp c6
                    have hkn : k < n := k_more (by omega) hv1 c6
                    refine lv_iconst (v := 0) hx hb dX4_digest_70 (by decide) ?_
                    refine lv_istore (lv' := [(4, .int 0), (0, .ref (x 0)), (1, .long (d_hs N (d_set N (d_cnt N n cnt 11) 3) k)), (3, .int (nI k))]) hx hb dX4_digest_71 hl (by decide) rfl (fun ls hl => ?_)
                    have L25 : ∀ (f w : Nat), w ≤ 10 → 10 - w < f → ∀ (H : Heap) (locs : List Loc), va_P D vwCl (xH cS x a r lat cnt ++ (txW cI x (nI z) T ++ (stW cI a N (e_v1 N n v 11)))) H → va_D (va_A (xH cS x a r lat cnt ++ (txW cI x (nI z) T ++ (stW cI a N v))) s.heap.size) (xH cS x a r lat cnt ++ (txW cI x (nI z) T ++ (stW cI a N (e_v1 N n v 11)))) → va_S (va_A (xH cS x a r lat cnt ++ (txW cI x (nI z) T ++ (stW cI a N v))) s.heap.size) s.heap H locs → s.heap.size ≤ H.size → ∀ ls : Array Slot, lv_has ls 5 [(0, .ref (x 0)), (1, .long (d_hs1 N k (d_hs N (d_set N (d_cnt N n cnt 11) 3) k) w)), (3, .int (nI k)), (4, .int (nI w))] → W p l e rmX4_digest s m args below meth c H locs 0 0 (MQ below (kMl D (xH cS x a r lat cnt ++ (txW cI x (nI z) T ++ (stW cI a N v))) (xH cS x a r lat cnt ++ (txW cI x (nI z) T ++ (stW cI a N (e_v3 N n (e_v1 N n v 11) 3)))) s.heap.size (p_hash N n cnt z T)) args s 0 0 (va_A (xH cS x a r lat cnt ++ (txW cI x (nI z) T ++ (stW cI a N v))) s.heap.size)) (F0 m 73 ls []) := by
                      intro f
                      induction f with
                      | zero => intro w hv1 hv2; exact absurd hv2 (Nat.not_lt_zero _)
                      | succ f ih25 =>
                        intro w hv1 hv2 H locs hP hD hS hz ls hl
                        refine lv_iload hx hb dX4_digest_73 (lv_at hl 3 rfl) ?_
                        refine lv_bipush (v := 10) hx hb dX4_digest_75 (by decide) ?_
                        refine lv_icmp_ge (tgt := 99) hx hb dX4_digest_77 (by decide) (fun c26 => ?_) (fun c26 => ?_)
                        · have c26' := Int32.not_lt.mpr c26
                          have hwn : w = 10 := k_exit (n := 10) (by omega) hv1 c26
                          subst hwn
                          refine lv_lload_n hx hb dX4_digest_99 rfl (lv_at hl 1 rfl) ?_
                          refine lv_aload_n hx hb dX4_digest_100 rfl (lv_at hl 0 rfl) ?_
                          refine lv_iload_n hx hb dX4_digest_101 rfl (lv_at hl 2 rfl) ?_
                          refine lv_bipush (v := 12) hx hb dX4_digest_102 (by decide) ?_
                          refine k_riV (As := [.int (nI k), .int (nI 12)]) (rest := [.long (d_hs1 N k (d_hs N (d_set N (d_cnt N n cnt 11) 3) k) 10)]) (wc := xH cS x a r lat cnt ++ (txW cI x (nI z) T ++ (stW cI a N (e_v1 N n v 11)))) ⟨hx, hb, hml, hown, hts⟩ (c_X4_ifTested_g l D cI cS cL x a r lat cnt (nI z) T N (e_v1 N n v 11) _ n hn hn14 k 12 hkn (by omega) (by omega)) lkX4_261 rfl rfl ⟨(Nat.le_of_ble_eq_true rfl), (Nat.le_of_ble_eq_true rfl)⟩ (va_recv hK hP (ci := 3) (q0 := 0) rfl rfl) hK hE hP hD rfl hl.1 rfl (Nat.le_of_ble_eq_true rfl) dX4_digest_104 ⟨Nat.zero_le _, Nat.zero_le _⟩ ?_
                          refine lv_i2l (v := (p_tried N k 12).toInt64) hx hb dX4_digest_107 rfl ?_
                          refine k_rlS (As := [.long (d_hs1 N k (d_hs N (d_set N (d_cnt N n cnt 11) 3) k) 10), .long ((p_tried N k 12).toInt64)]) (rest := []) (wc := []) ⟨hx, hb, hml, hown, hts⟩ (c_X4_mixed l D cI cS cL _ (d_hs1 N k (d_hs N (d_set N (d_cnt N n cnt 11) 3) k) 10) ((p_tried N k 12).toInt64)) lkX4_254 rfl rfl ⟨(Nat.le_of_ble_eq_true rfl), (Nat.le_of_ble_eq_true rfl)⟩ hK hE k_nilP (k_nilD (A := va_A (xH cS x a r lat cnt ++ (txW cI x (nI z) T ++ (stW cI a N v))) s.heap.size)) rfl hl.1 rfl (Nat.le_of_ble_eq_true rfl) dX4_digest_108 ⟨Nat.zero_le _, Nat.zero_le _⟩ ?_
                          refine lv_lstore_n (lv' := [(1, .long (31 * (d_hs1 N k (d_hs N (d_set N (d_cnt N n cnt 11) 3) k) 10) + ((p_tried N k 12).toInt64))), (0, .ref (x 0)), (3, .int (nI k)), (4, .int 10)]) hx hb dX4_digest_111 rfl hl (by decide) rfl (fun ls hl => ?_)
                          refine lv_lload_n hx hb dX4_digest_112 rfl (lv_at hl 0 rfl) ?_
                          refine lv_aload_n hx hb dX4_digest_113 rfl (lv_at hl 1 rfl) ?_
                          refine lv_iload_n hx hb dX4_digest_114 rfl (lv_at hl 2 rfl) ?_
                          refine k_riV (As := [.int (nI k)]) (rest := [.long (31 * (d_hs1 N k (d_hs N (d_set N (d_cnt N n cnt 11) 3) k) 10) + ((p_tried N k 12).toInt64))]) (wc := xH cS x a r lat cnt ++ (txW cI x (nI z) T ++ (stW cI a N (e_v1 N n v 11)))) ⟨hx, hb, hml, hown, hts⟩ (c_X4_safe_g l D cI cS cL x a r lat cnt (nI z) T N (e_v1 N n v 11) _ n hn hn14 k hkn) lkX4_264 rfl rfl ⟨(Nat.le_of_ble_eq_true rfl), (Nat.le_of_ble_eq_true rfl)⟩ (va_recv hK hP (ci := 3) (q0 := 0) rfl rfl) hK hE hP hD rfl hl.1 rfl (Nat.le_of_ble_eq_true rfl) dX4_digest_115 ⟨Nat.zero_le _, Nat.zero_le _⟩ ?_
                          refine lv_i2l (v := (p_safeG N k).toInt64) hx hb dX4_digest_118 rfl ?_
                          refine k_rlS (As := [.long (31 * (d_hs1 N k (d_hs N (d_set N (d_cnt N n cnt 11) 3) k) 10) + ((p_tried N k 12).toInt64)), .long ((p_safeG N k).toInt64)]) (rest := []) (wc := []) ⟨hx, hb, hml, hown, hts⟩ (c_X4_mixed l D cI cS cL _ (31 * (d_hs1 N k (d_hs N (d_set N (d_cnt N n cnt 11) 3) k) 10) + ((p_tried N k 12).toInt64)) ((p_safeG N k).toInt64)) lkX4_254 rfl rfl ⟨(Nat.le_of_ble_eq_true rfl), (Nat.le_of_ble_eq_true rfl)⟩ hK hE k_nilP (k_nilD (A := va_A (xH cS x a r lat cnt ++ (txW cI x (nI z) T ++ (stW cI a N v))) s.heap.size)) rfl hl.1 rfl (Nat.le_of_ble_eq_true rfl) dX4_digest_119 ⟨Nat.zero_le _, Nat.zero_le _⟩ ?_
                          refine lv_lstore_n (lv' := [(1, .long (31 * (31 * (d_hs1 N k (d_hs N (d_set N (d_cnt N n cnt 11) 3) k) 10) + ((p_tried N k 12).toInt64)) + ((p_safeG N k).toInt64))), (0, .ref (x 0)), (3, .int (nI k)), (4, .int 10)]) hx hb dX4_digest_122 rfl hl (by decide) rfl (fun ls hl => ?_)
                          refine lv_iinc (v := nI (k + 1)) (lv' := [(3, .int (nI (k + 1))), (1, .long (31 * (31 * (d_hs1 N k (d_hs N (d_set N (d_cnt N n cnt 11) 3) k) 10) + ((p_tried N k 12).toInt64)) + ((p_safeG N k).toInt64))), (0, .ref (x 0)), (4, .int 10)]) hx hb dX4_digest_123 hl (k := 2) rfl (nI_1 _) (by decide) rfl (fun ls hl => ?_)
                          refine lv_goto (tgt := 59) hx hb dX4_digest_126 (by decide) ?_
                          have hl : lv_has ls 5 [(0, .ref (x 0)), (1, .long (31 * (31 * (d_hs1 N k (d_hs N (d_set N (d_cnt N n cnt 11) 3) k) 10) + ((p_tried N k 12).toInt64)) + ((p_safeG N k).toInt64))), (3, .int (nI (k + 1)))] := lv_sub hl [2, 1, 0] rfl
                          have hl : lv_has ls 5 [(0, .ref (x 0)), (1, .long (d_hs N (d_set N (d_cnt N n cnt 11) 3) (k + 1))), (3, .int (nI (k + 1)))] := hl
                          have hP : va_P D vwCl (xH cS x a r lat cnt ++ (txW cI x (nI z) T ++ (stW cI a N (e_v1 N n v 11)))) H := hP
                          have hD : va_D (va_A (xH cS x a r lat cnt ++ (txW cI x (nI z) T ++ (stW cI a N v))) s.heap.size) (xH cS x a r lat cnt ++ (txW cI x (nI z) T ++ (stW cI a N (e_v1 N n v 11)))) := hD
                          exact ih5 (k + 1) (by omega) (by omega) H locs hP hD hS hS.1 ls hl
                        · have c26' := Int32.not_le.mp c26
                          have hwn : w < 10 := k_more (n := 10) (by omega) hv1 c26
                          refine lv_lload_n hx hb dX4_digest_80 rfl (lv_at hl 1 rfl) ?_
                          refine lv_aload_n hx hb dX4_digest_81 rfl (lv_at hl 0 rfl) ?_
                          refine lv_iload_n hx hb dX4_digest_82 rfl (lv_at hl 2 rfl) ?_
                          refine lv_iload hx hb dX4_digest_83 (lv_at hl 3 rfl) ?_
                          refine k_riV (As := [.int (nI k), .int (nI w)]) (rest := [.long (d_hs1 N k (d_hs N (d_set N (d_cnt N n cnt 11) 3) k) w)]) (wc := xH cS x a r lat cnt ++ (txW cI x (nI z) T ++ (stW cI a N (e_v1 N n v 11)))) ⟨hx, hb, hml, hown, hts⟩ (c_X4_hose_g l D cI cS cL x a r lat cnt (nI z) T N (e_v1 N n v 11) _ n hn hn14 k w hkn (by omega) (hbks k hkn)) lkX4_258 rfl rfl ⟨(Nat.le_of_ble_eq_true rfl), (Nat.le_of_ble_eq_true rfl)⟩ (va_recv hK hP (ci := 3) (q0 := 0) rfl rfl) hK hE hP hD rfl hl.1 rfl (Nat.le_of_ble_eq_true rfl) dX4_digest_85 ⟨Nat.zero_le _, Nat.zero_le _⟩ ?_
                          refine lv_i2l (v := (m_hose N k w).toInt64) hx hb dX4_digest_88 rfl ?_
                          refine k_rlS (As := [.long (d_hs1 N k (d_hs N (d_set N (d_cnt N n cnt 11) 3) k) w), .long ((m_hose N k w).toInt64)]) (rest := []) (wc := []) ⟨hx, hb, hml, hown, hts⟩ (c_X4_mixed l D cI cS cL _ (d_hs1 N k (d_hs N (d_set N (d_cnt N n cnt 11) 3) k) w) ((m_hose N k w).toInt64)) lkX4_254 rfl rfl ⟨(Nat.le_of_ble_eq_true rfl), (Nat.le_of_ble_eq_true rfl)⟩ hK hE k_nilP (k_nilD (A := va_A (xH cS x a r lat cnt ++ (txW cI x (nI z) T ++ (stW cI a N v))) s.heap.size)) rfl hl.1 rfl (Nat.le_of_ble_eq_true rfl) dX4_digest_89 ⟨Nat.zero_le _, Nat.zero_le _⟩ ?_
                          refine lv_lstore_n (lv' := [(1, .long (31 * (d_hs1 N k (d_hs N (d_set N (d_cnt N n cnt 11) 3) k) w) + ((m_hose N k w).toInt64))), (0, .ref (x 0)), (3, .int (nI k)), (4, .int (nI w))]) hx hb dX4_digest_92 rfl hl (by decide) rfl (fun ls hl => ?_)
                          refine lv_iinc (v := nI (w + 1)) (lv' := [(4, .int (nI (w + 1))), (1, .long (31 * (d_hs1 N k (d_hs N (d_set N (d_cnt N n cnt 11) 3) k) w) + ((m_hose N k w).toInt64))), (0, .ref (x 0)), (3, .int (nI k))]) hx hb dX4_digest_93 hl (k := 3) rfl (nI_1 _) (by decide) rfl (fun ls hl => ?_)
                          refine lv_goto (tgt := 73) hx hb dX4_digest_96 (by decide) ?_
                          have hl : lv_has ls 5 [(0, .ref (x 0)), (1, .long (31 * (d_hs1 N k (d_hs N (d_set N (d_cnt N n cnt 11) 3) k) w) + ((m_hose N k w).toInt64))), (3, .int (nI k)), (4, .int (nI (w + 1)))] := lv_sub hl [2, 1, 3, 0] rfl
                          have hl : lv_has ls 5 [(0, .ref (x 0)), (1, .long (d_hs1 N k (d_hs N (d_set N (d_cnt N n cnt 11) 3) k) (w + 1))), (3, .int (nI k)), (4, .int (nI (w + 1)))] := hl
                          have hP : va_P D vwCl (xH cS x a r lat cnt ++ (txW cI x (nI z) T ++ (stW cI a N (e_v1 N n v 11)))) H := hP
                          have hD : va_D (va_A (xH cS x a r lat cnt ++ (txW cI x (nI z) T ++ (stW cI a N v))) s.heap.size) (xH cS x a r lat cnt ++ (txW cI x (nI z) T ++ (stW cI a N (e_v1 N n v 11)))) := hD
                          exact ih25 (w + 1) (by omega) (by omega) H locs hP hD hS hS.1 ls hl
                    have hl : lv_has ls 5 [(0, .ref (x 0)), (1, .long (d_hs N (d_set N (d_cnt N n cnt 11) 3) k)), (3, .int (nI k)), (4, .int 0)] := lv_sub hl [1, 2, 3, 0] rfl
                    have hl : lv_has ls 5 [(0, .ref (x 0)), (1, .long (d_hs1 N k (d_hs N (d_set N (d_cnt N n cnt 11) 3) k) 0)), (3, .int (nI k)), (4, .int (nI 0))] := hl
                    have hP : va_P D vwCl (xH cS x a r lat cnt ++ (txW cI x (nI z) T ++ (stW cI a N (e_v1 N n v 11)))) H := hP
                    have hD : va_D (va_A (xH cS x a r lat cnt ++ (txW cI x (nI z) T ++ (stW cI a N v))) s.heap.size) (xH cS x a r lat cnt ++ (txW cI x (nI z) T ++ (stW cI a N (e_v1 N n v 11)))) := hD
                    exact L25 (10 - 0 + 1) 0 (by omega) (by omega) H locs hP hD hS hS.1 ls hl
              have hl : lv_has ls 5 [(0, .ref (x 0)), (1, .long (d_set N (d_cnt N n cnt 11) 3)), (3, .int 0)] := lv_sub hl [1, 2, 0] rfl
              have hl : lv_has ls 5 [(0, .ref (x 0)), (1, .long (d_hs N (d_set N (d_cnt N n cnt 11) 3) 0)), (3, .int (nI 0))] := hl
              have hP : va_P D vwCl (xH cS x a r lat cnt ++ (txW cI x (nI z) T ++ (stW cI a N (e_v1 N n v 11)))) H := hP
              have hD : va_D (va_A (xH cS x a r lat cnt ++ (txW cI x (nI z) T ++ (stW cI a N v))) s.heap.size) (xH cS x a r lat cnt ++ (txW cI x (nI z) T ++ (stW cI a N (e_v1 N n v 11)))) := hD
              exact L5 (n - 0 + 1) 0 (by omega) (by omega) H locs hP hD hS hS.1 ls hl
            · have c4' := Int32.not_le.mp c4
              have hkn : k < 3 := k_more (n := 3) (by omega) hv1 c4
              refine lv_lload_n hx hb dX4_digest_36 rfl (lv_at hl 1 rfl) ?_
              refine lv_aload_n hx hb dX4_digest_37 rfl (lv_at hl 0 rfl) ?_
              refine g4 hx hb hts hown hK hP 0 rfl 0 (by decide) flX4_10 (fun _ h => h) (v := .ref (a 0)) rfl dX4_digest_38 ?_
              refine g3 hx hb hts hown hK hP 4 rfl 7 (by decide) flX4_121 (fun _ h => h) (v := .ref (a 2)) rfl dX4_digest_41 ?_
              refine lv_iload_n hx hb dX4_digest_44 rfl (lv_at hl 2 rfl) ?_
              refine k_ald (k := k) hx hb hK hP 6 0 rfl rfl rfl (by omega) (by decide) dX4_digest_45 ?_
              refine lv_i2l (v := (N 0 k).toInt64) hx hb dX4_digest_46 rfl ?_
              refine k_rlS (As := [.long (d_set N (d_cnt N n cnt 11) k), .long ((N 0 k).toInt64)]) (rest := []) (wc := []) ⟨hx, hb, hml, hown, hts⟩ (c_X4_mixed l D cI cS cL _ (d_set N (d_cnt N n cnt 11) k) ((N 0 k).toInt64)) lkX4_254 rfl rfl ⟨(Nat.le_of_ble_eq_true rfl), (Nat.le_of_ble_eq_true rfl)⟩ hK hE k_nilP (k_nilD (A := va_A (xH cS x a r lat cnt ++ (txW cI x (nI z) T ++ (stW cI a N v))) s.heap.size)) rfl hl.1 rfl (Nat.le_of_ble_eq_true rfl) dX4_digest_47 ⟨Nat.zero_le _, Nat.zero_le _⟩ ?_
              refine lv_lstore_n (lv' := [(1, .long (31 * (d_set N (d_cnt N n cnt 11) k) + ((N 0 k).toInt64))), (0, .ref (x 0)), (3, .int (nI k))]) hx hb dX4_digest_50 rfl hl (by decide) rfl (fun ls hl => ?_)
              refine lv_iinc (v := nI (k + 1)) (lv' := [(3, .int (nI (k + 1))), (1, .long (31 * (d_set N (d_cnt N n cnt 11) k) + ((N 0 k).toInt64))), (0, .ref (x 0))]) hx hb dX4_digest_51 hl (k := 2) rfl (nI_1 _) (by decide) rfl (fun ls hl => ?_)
              refine lv_goto (tgt := 31) hx hb dX4_digest_54 (by decide) ?_
              have hl : lv_has ls 5 [(0, .ref (x 0)), (1, .long (31 * (d_set N (d_cnt N n cnt 11) k) + ((N 0 k).toInt64))), (3, .int (nI (k + 1)))] := lv_sub hl [2, 1, 0] rfl
              have hl : lv_has ls 5 [(0, .ref (x 0)), (1, .long (d_set N (d_cnt N n cnt 11) (k + 1))), (3, .int (nI (k + 1)))] := hl
              have hP : va_P D vwCl (xH cS x a r lat cnt ++ (txW cI x (nI z) T ++ (stW cI a N (e_v1 N n v 11)))) H := hP
              have hD : va_D (va_A (xH cS x a r lat cnt ++ (txW cI x (nI z) T ++ (stW cI a N v))) s.heap.size) (xH cS x a r lat cnt ++ (txW cI x (nI z) T ++ (stW cI a N (e_v1 N n v 11)))) := hD
              exact ih3 (k + 1) (by omega) (by omega) H locs hP hD hS hS.1 ls hl
        have hl : lv_has ls 5 [(0, .ref (x 0)), (1, .long (d_cnt N n cnt 11)), (3, .int 0)] := lv_sub hl [1, 2, 0] rfl
        have hl : lv_has ls 5 [(0, .ref (x 0)), (1, .long (d_set N (d_cnt N n cnt 11) 0)), (3, .int (nI 0))] := hl
        have hP : va_P D vwCl (xH cS x a r lat cnt ++ (txW cI x (nI z) T ++ (stW cI a N (e_v1 N n v 11)))) H := hP
        have hD : va_D (va_A (xH cS x a r lat cnt ++ (txW cI x (nI z) T ++ (stW cI a N v))) s.heap.size) (xH cS x a r lat cnt ++ (txW cI x (nI z) T ++ (stW cI a N (e_v1 N n v 11)))) := hD
        exact L3 (3 - 0 + 1) 0 (by omega) (by omega) H locs hP hD hS hS.1 ls hl
      · have c2' := Int32.not_le.mp c2
        have hkn : k < 11 := k_more (n := 11) (by omega) hv1 c2
        refine lv_lload_n hx hb dX4_digest_12 rfl (lv_at hl 1 rfl) ?_
        refine lv_aload_n hx hb dX4_digest_13 rfl (lv_at hl 0 rfl) ?_
        refine lv_iload_n hx hb dX4_digest_14 rfl (lv_at hl 2 rfl) ?_
        refine k_miV (As := [.int (nI k)]) (rest := [.long (d_cnt N n cnt k)]) (w1 := []) (wc := xH cS x a r lat cnt ++ (txW cI x (nI z) T ++ (stW cI a N (e_v1 N n v k)))) (wc' := xH cS x a r lat cnt ++ (txW cI x (nI z) T ++ (stW cI a N (c_v N n (e_v1 N n v k) k)))) (w3 := []) ⟨hx, hb, hml, hown, hts⟩ (c_X4_count_g l D cI cS cL x a r lat cnt (nI z) T N (e_v1 N n v k) _ n hn hn14 k (by omega)) lkX4_251 rfl rfl ⟨(Nat.le_of_ble_eq_true rfl), (Nat.le_of_ble_eq_true rfl)⟩ (va_recv hK hP (ci := 3) (q0 := 0) rfl rfl) hK hE hP hD hS hA rfl rfl hl.1 rfl (Nat.le_of_ble_eq_true rfl) dX4_digest_15 ⟨Nat.zero_le _, Nat.zero_le _⟩ (fun H locs hzz hP hD hS => ?_)
        have hP : va_P D vwCl (xH cS x a r lat cnt ++ (txW cI x (nI z) T ++ (stW cI a N (c_v N n (e_v1 N n v k) k)))) H := hP
        have hD : va_D (va_A (xH cS x a r lat cnt ++ (txW cI x (nI z) T ++ (stW cI a N v))) s.heap.size) (xH cS x a r lat cnt ++ (txW cI x (nI z) T ++ (stW cI a N (c_v N n (e_v1 N n v k) k)))) := hD
        refine lv_i2l (v := (p_count N n cnt k).toInt64) hx hb dX4_digest_18 rfl ?_
        refine k_rlS (As := [.long (d_cnt N n cnt k), .long ((p_count N n cnt k).toInt64)]) (rest := []) (wc := []) ⟨hx, hb, hml, hown, hts⟩ (c_X4_mixed l D cI cS cL _ (d_cnt N n cnt k) ((p_count N n cnt k).toInt64)) lkX4_254 rfl rfl ⟨(Nat.le_of_ble_eq_true rfl), (Nat.le_of_ble_eq_true rfl)⟩ hK hE k_nilP (k_nilD (A := va_A (xH cS x a r lat cnt ++ (txW cI x (nI z) T ++ (stW cI a N v))) s.heap.size)) rfl hl.1 rfl (Nat.le_of_ble_eq_true rfl) dX4_digest_19 ⟨Nat.zero_le _, Nat.zero_le _⟩ ?_
        refine lv_lstore_n (lv' := [(1, .long (31 * (d_cnt N n cnt k) + ((p_count N n cnt k).toInt64))), (0, .ref (x 0)), (3, .int (nI k))]) hx hb dX4_digest_22 rfl hl (by decide) rfl (fun ls hl => ?_)
        refine lv_iinc (v := nI (k + 1)) (lv' := [(3, .int (nI (k + 1))), (1, .long (31 * (d_cnt N n cnt k) + ((p_count N n cnt k).toInt64))), (0, .ref (x 0))]) hx hb dX4_digest_23 hl (k := 2) rfl (nI_1 _) (by decide) rfl (fun ls hl => ?_)
        refine lv_goto (tgt := 6) hx hb dX4_digest_26 (by decide) ?_
        have hl : lv_has ls 5 [(0, .ref (x 0)), (1, .long (31 * (d_cnt N n cnt k) + ((p_count N n cnt k).toInt64))), (3, .int (nI (k + 1)))] := lv_sub hl [2, 1, 0] rfl
        have hl : lv_has ls 5 [(0, .ref (x 0)), (1, .long (d_cnt N n cnt (k + 1))), (3, .int (nI (k + 1)))] := hl
        have hP : va_P D vwCl (xH cS x a r lat cnt ++ (txW cI x (nI z) T ++ (stW cI a N (e_v1 N n v (k + 1))))) H := hP
        have hD : va_D (va_A (xH cS x a r lat cnt ++ (txW cI x (nI z) T ++ (stW cI a N v))) s.heap.size) (xH cS x a r lat cnt ++ (txW cI x (nI z) T ++ (stW cI a N (e_v1 N n v (k + 1))))) := hD
        exact ih1 (k + 1) (by omega) (by omega) H locs hP hD hS hS.1 ls hl
  have hl : lv_has ls 5 [(0, .ref (x 0)), (1, .long 3271), (3, .int 0)] := lv_sub hl [2, 1, 0] rfl
  have hl : lv_has ls 5 [(0, .ref (x 0)), (1, .long (d_cnt N n cnt 0)), (3, .int (nI 0))] := hl
  have hP : va_P D vwCl (xH cS x a r lat cnt ++ (txW cI x (nI z) T ++ (stW cI a N (e_v1 N n v 0)))) s.heap := hP
  have hD : va_D (va_A (xH cS x a r lat cnt ++ (txW cI x (nI z) T ++ (stW cI a N v))) s.heap.size) (xH cS x a r lat cnt ++ (txW cI x (nI z) T ++ (stW cI a N (e_v1 N n v 0)))) := hD
  exact L1 (11 - 0 + 1) 0 (by omega) (by omega) s.heap [] hP hD hS (Nat.le_refl _) ls hl
