abbrev rmX5_digest : Room := { frames := 7, cells := 0, slots := 0, locals := 157 }
set_option maxHeartbeats 4000000 in
set_option maxRecDepth 100000 in
theorem c_X5_digest (l : Launch) (D : va_G) (cI cS cL : ClassId) (a : Nat → Nat) (N : NN) (P T U v : Nat → Int32) (sz : Nat) (n z : Nat) (hn : N 1 2 = nI n) (hn14 : n ≤ 14) (hd0 : 0 ≤ N 1 0) (hkds : ∀ j, j < n → kdOk (N 3 j)) (hws : ∀ j, j < n → 0 ≤ N 7 j ∧ N 7 j ≤ 99) (hq4 : v 4 = nI z) (hz60 : z ≤ 60) : Met l yX5_digest (wy_ yX5_digest cX5_digest 5 (some .long)) rmX5_digest (kPc D (kTy cI cS cL) (mdW cI a N P T U v) sz [.ref (a 0)]) (kMl D (mdW cI a N P T U v) (mdW cI a N P T U (d_v3 N n (d_v2 N (d_v1 N n (us v 5 0) 11) n) 3)) sz (p_hash N n (v 2) z T)) 0 0 (va_A (mdW cI a N P T U v) sz) := by
  refine k_ofW (by decide) (Nat.le_of_ble_eq_true rfl) ?_
  intro p e s m args below meth c hx hb hr hml hts hown hlocks hnm hsz hP hK hD hE ls hl
  subst hsz
  have hA : ∀ q : Nat, s.heap.size ≤ q → (va_A (mdW cI a N P T U v) s.heap.size) q := fun q h => Or.inr h
  have hS : va_S (va_A (mdW cI a N P T U v) s.heap.size) s.heap s.heap [] := va_S.rf
  have hl : lv_has ls 5 [(0, .ref (a 0))] := hl
  refine lv_aload_n hx hb dX5_digest_0 rfl (lv_at hl 0 rfl) ?_
  refine lv_iconst (v := 0) hx hb dX5_digest_1 (by decide) ?_
  refine f5 hx hb hts hown hK hP hD hS 0 rfl 5 (by decide) flX5_22 (fun _ h => h) rfl rfl rfl (Nat.le_of_ble_eq_true rfl) dX5_digest_2 (fun H locs hP hD hS => ?_)
  have hP : va_P D vwCl (mdW cI a N P T U (us v 5 0)) H := hP
  have hD : va_D (va_A (mdW cI a N P T U v) s.heap.size) (mdW cI a N P T U (us v 5 0)) := hD
  refine lv_ldc2 (v := 3271) hx hb hown (hts _ wd_constantLong_RX5_170_3271) dX5_digest_5 ?_
  refine lv_lstore_n (lv' := [(1, .long 3271), (0, .ref (a 0))]) hx hb dX5_digest_8 rfl hl (by decide) rfl (fun ls hl => ?_)
  refine lv_iconst (v := 0) hx hb dX5_digest_9 (by decide) ?_
  refine lv_istore_n (lv' := [(3, .int 0), (1, .long 3271), (0, .ref (a 0))]) hx hb dX5_digest_10 rfl hl (by decide) rfl (fun ls hl => ?_)
  have L1 : ∀ (f k : Nat), k ≤ 11 → 11 - k < f → ∀ (H : Heap) (locs : List Loc), va_P D vwCl (mdW cI a N P T U (d_v1 N n (us v 5 0) k)) H → va_D (va_A (mdW cI a N P T U v) s.heap.size) (mdW cI a N P T U (d_v1 N n (us v 5 0) k)) → va_S (va_A (mdW cI a N P T U v) s.heap.size) s.heap H locs → s.heap.size ≤ H.size → ∀ ls : Array Slot, lv_has ls 5 [(0, .ref (a 0)), (1, .long (d_cnt N n (v 2) k)), (3, .int (nI k))] → W p l e rmX5_digest s m args below meth c H locs 0 0 (MQ below (kMl D (mdW cI a N P T U v) (mdW cI a N P T U (d_v3 N n (d_v2 N (d_v1 N n (us v 5 0) 11) n) 3)) s.heap.size (p_hash N n (v 2) z T)) args s 0 0 (va_A (mdW cI a N P T U v) s.heap.size)) (F0 m 11 ls []) := by
    intro f
    induction f with
    | zero => intro k hv1 hv2; exact absurd hv2 (Nat.not_lt_zero _)
    | succ f ih1 =>
      intro k hv1 hv2 H locs hP hD hS hz ls hl
      refine lv_iload_n hx hb dX5_digest_11 rfl (lv_at hl 2 rfl) ?_
      refine lv_bipush (v := 11) hx hb dX5_digest_12 (by decide) ?_
      refine lv_icmp_ge (tgt := 36) hx hb dX5_digest_14 (by decide) (fun c2 => ?_) (fun c2 => ?_)
      · have c2' := Int32.not_lt.mpr c2
        have hkn : k = 11 := k_exit (n := 11) (by omega) hv1 c2
        subst hkn
        refine lv_iconst (v := 0) hx hb dX5_digest_36 (by decide) ?_
        refine lv_istore_n (lv' := [(3, .int 0), (0, .ref (a 0)), (1, .long (d_cnt N n (v 2) 11))]) hx hb dX5_digest_37 rfl hl (by decide) rfl (fun ls hl => ?_)
        have L3 : ∀ (f k : Nat), k ≤ 3 → 3 - k < f → ∀ (H : Heap) (locs : List Loc), va_P D vwCl (mdW cI a N P T U (d_v1 N n (us v 5 0) 11)) H → va_D (va_A (mdW cI a N P T U v) s.heap.size) (mdW cI a N P T U (d_v1 N n (us v 5 0) 11)) → va_S (va_A (mdW cI a N P T U v) s.heap.size) s.heap H locs → s.heap.size ≤ H.size → ∀ ls : Array Slot, lv_has ls 5 [(0, .ref (a 0)), (1, .long (d_set N (d_cnt N n (v 2) 11) k)), (3, .int (nI k))] → W p l e rmX5_digest s m args below meth c H locs 0 0 (MQ below (kMl D (mdW cI a N P T U v) (mdW cI a N P T U (d_v3 N n (d_v2 N (d_v1 N n (us v 5 0) 11) n) 3)) s.heap.size (p_hash N n (v 2) z T)) args s 0 0 (va_A (mdW cI a N P T U v) s.heap.size)) (F0 m 38 ls []) := by
          intro f
          induction f with
          | zero => intro k hv1 hv2; exact absurd hv2 (Nat.not_lt_zero _)
          | succ f ih3 =>
            intro k hv1 hv2 H locs hP hD hS hz ls hl
            refine lv_iload_n hx hb dX5_digest_38 rfl (lv_at hl 2 rfl) ?_
            refine lv_iconst (v := 3) hx hb dX5_digest_39 (by decide) ?_
            refine lv_icmp_ge (tgt := 63) hx hb dX5_digest_40 (by decide) (fun c4 => ?_) (fun c4 => ?_)
            · have c4' := Int32.not_lt.mpr c4
              have hkn : k = 3 := k_exit (n := 3) (by omega) hv1 c4
              subst hkn
              refine lv_iconst (v := 0) hx hb dX5_digest_63 (by decide) ?_
              refine lv_istore_n (lv' := [(3, .int 0), (0, .ref (a 0)), (1, .long (d_set N (d_cnt N n (v 2) 11) 3))]) hx hb dX5_digest_64 rfl hl (by decide) rfl (fun ls hl => ?_)
              have L5 : ∀ (f k : Nat), k ≤ n → n - k < f → ∀ (H : Heap) (locs : List Loc), va_P D vwCl (mdW cI a N P T U (d_v2 N (d_v1 N n (us v 5 0) 11) k)) H → va_D (va_A (mdW cI a N P T U v) s.heap.size) (mdW cI a N P T U (d_v2 N (d_v1 N n (us v 5 0) 11) k)) → va_S (va_A (mdW cI a N P T U v) s.heap.size) s.heap H locs → s.heap.size ≤ H.size → ∀ ls : Array Slot, lv_has ls 5 [(0, .ref (a 0)), (1, .long (d_hs N (d_set N (d_cnt N n (v 2) 11) 3) k)), (3, .int (nI k))] → W p l e rmX5_digest s m args below meth c H locs 0 0 (MQ below (kMl D (mdW cI a N P T U v) (mdW cI a N P T U (d_v3 N n (d_v2 N (d_v1 N n (us v 5 0) 11) n) 3)) s.heap.size (p_hash N n (v 2) z T)) args s 0 0 (va_A (mdW cI a N P T U v) s.heap.size)) (F0 m 65 ls []) := by
                intro f
                induction f with
                | zero => intro k hv1 hv2; exact absurd hv2 (Nat.not_lt_zero _)
                | succ f ih5 =>
                  intro k hv1 hv2 H locs hP hD hS hz ls hl
                  refine lv_iload_n hx hb dX5_digest_65 rfl (lv_at hl 2 rfl) ?_
                  refine lv_aload_n hx hb dX5_digest_66 rfl (lv_at hl 0 rfl) ?_
                  refine g5 hx hb hts hown hK hP 0 rfl 0 (by decide) flX5_7 (fun _ h => h) (v := .ref (a 1)) rfl dX5_digest_67 ?_
                  refine lv_iconst (v := 5) hx hb dX5_digest_70 (by decide) ?_
                  refine k_ald (k := 5) hx hb hK hP 1 0 rfl rfl rfl (by decide) (by decide) dX5_digest_71 ?_
                  rw [show flat N (5) = N 1 2 from rfl]
                  rw [show N 1 2 = nI n from hn]
                  refine lv_icmp_ge (tgt := 138) hx hb dX5_digest_72 (by decide) (fun c6 => ?_) (fun c6 => ?_)
                  · have c6' := Int32.not_lt.mpr c6
                    have hkn : n = k := (k_exit (by omega) hv1 c6).symm
                    subst hkn
                    refine lv_iconst (v := 0) hx hb dX5_digest_138 (by decide) ?_
                    refine lv_istore_n (lv' := [(3, .int 0), (0, .ref (a 0)), (1, .long (d_hs N (d_set N (d_cnt N n (v 2) 11) 3) n))]) hx hb dX5_digest_139 rfl hl (by decide) rfl (fun ls hl => ?_)
                    have L7 : ∀ (f k : Nat), k ≤ 3 → 3 - k < f → ∀ (H : Heap) (locs : List Loc), va_P D vwCl (mdW cI a N P T U (d_v3 N n (d_v2 N (d_v1 N n (us v 5 0) 11) n) k)) H → va_D (va_A (mdW cI a N P T U v) s.heap.size) (mdW cI a N P T U (d_v3 N n (d_v2 N (d_v1 N n (us v 5 0) 11) n) k)) → va_S (va_A (mdW cI a N P T U v) s.heap.size) s.heap H locs → s.heap.size ≤ H.size → ∀ ls : Array Slot, lv_has ls 5 [(0, .ref (a 0)), (1, .long (d_tr N n (d_hs N (d_set N (d_cnt N n (v 2) 11) 3) n) k)), (3, .int (nI k))] → W p l e rmX5_digest s m args below meth c H locs 0 0 (MQ below (kMl D (mdW cI a N P T U v) (mdW cI a N P T U (d_v3 N n (d_v2 N (d_v1 N n (us v 5 0) 11) n) 3)) s.heap.size (p_hash N n (v 2) z T)) args s 0 0 (va_A (mdW cI a N P T U v) s.heap.size)) (F0 m 140 ls []) := by
                      intro f
                      induction f with
                      | zero => intro k hv1 hv2; exact absurd hv2 (Nat.not_lt_zero _)
                      | succ f ih7 =>
                        intro k hv1 hv2 H locs hP hD hS hz ls hl
                        refine lv_iload_n hx hb dX5_digest_140 rfl (lv_at hl 2 rfl) ?_
                        refine lv_iconst (v := 3) hx hb dX5_digest_141 (by decide) ?_
                        refine lv_icmp_ge (tgt := 195) hx hb dX5_digest_142 (by decide) (fun c8 => ?_) (fun c8 => ?_)
                        · have c8' := Int32.not_lt.mpr c8
                          have hkn : k = 3 := k_exit (n := 3) (by omega) hv1 c8
                          subst hkn
                          refine lv_ldc2 (v := 31) hx hb hown (hts _ wd_constantLong_RX5_172_31) dX5_digest_195 ?_
                          refine lv_lload_n hx hb dX5_digest_198 rfl (lv_at hl 1 rfl) ?_
                          refine lv_lmul hx hb dX5_digest_199 (lv_topl (fun x9 e9 => ?_))
                          have q9 : x9 = 31 * (d_tr N n (d_hs N (d_set N (d_cnt N n (v 2) 11) 3) n) 3) := by rw [e9]; skip
                          subst q9
                          refine lv_aload_n hx hb dX5_digest_200 rfl (lv_at hl 0 rfl) ?_
                          refine k_riV (As := []) (rest := [.long (31 * (d_tr N n (d_hs N (d_set N (d_cnt N n (v 2) 11) 3) n) 3))]) (wc := mdW cI a N P T U (d_v3 N n (d_v2 N (d_v1 N n (us v 5 0) 11) n) 3)) ⟨hx, hb, hml, hown, hts⟩ (c_X5_lapses l D cI cS cL a N P T U (d_v3 N n (d_v2 N (d_v1 N n (us v 5 0) 11) n) 3) _ n hn hn14 hd0) lkX5_159 rfl rfl ⟨(Nat.le_of_ble_eq_true rfl), (Nat.le_of_ble_eq_true rfl)⟩ (va_recv hK hP (ci := 4) (q0 := 0) rfl rfl) hK hE hP hD rfl hl.1 rfl (Nat.le_of_ble_eq_true rfl) dX5_digest_201 ⟨Nat.zero_le _, Nat.zero_le _⟩ ?_
                          refine lv_i2l (v := (p_fl N n).toInt64) hx hb dX5_digest_204 rfl ?_
                          refine lv_ladd hx hb dX5_digest_205 (lv_topl (fun x10 e10 => ?_))
                          have q10 : x10 = 31 * (d_tr N n (d_hs N (d_set N (d_cnt N n (v 2) 11) 3) n) 3) + (p_fl N n).toInt64 := by rw [e10]; skip
                          subst q10
                          refine lv_lstore_n (lv' := [(1, .long (31 * (d_tr N n (d_hs N (d_set N (d_cnt N n (v 2) 11) 3) n) 3) + (p_fl N n).toInt64)), (0, .ref (a 0)), (3, .int 3)]) hx hb dX5_digest_206 rfl hl (by decide) rfl (fun ls hl => ?_)
                          refine lv_ldc2 (v := 31) hx hb hown (hts _ wd_constantLong_RX5_172_31) dX5_digest_207 ?_
                          refine lv_ldc2 (v := 31) hx hb hown (hts _ wd_constantLong_RX5_172_31) dX5_digest_210 ?_
                          refine lv_lload_n hx hb dX5_digest_213 rfl (lv_at hl 0 rfl) ?_
                          refine lv_lmul hx hb dX5_digest_214 (lv_topl (fun x11 e11 => ?_))
                          have q11 : x11 = 31 * (31 * (d_tr N n (d_hs N (d_set N (d_cnt N n (v 2) 11) 3) n) 3) + (p_fl N n).toInt64) := by rw [e11]; skip
                          subst q11
                          refine lv_aload_n hx hb dX5_digest_215 rfl (lv_at hl 1 rfl) ?_
                          refine k_rdV (As := []) (rest := [.long (31 * (31 * (d_tr N n (d_hs N (d_set N (d_cnt N n (v 2) 11) 3) n) 3) + (p_fl N n).toInt64)), .long 31]) (wc := mdW cI a N P T U (d_v3 N n (d_v2 N (d_v1 N n (us v 5 0) 11) n) 3)) ⟨hx, hb, hml, hown, hts⟩ (c_X5_share l D cI cS cL a N P T U (d_v3 N n (d_v2 N (d_v1 N n (us v 5 0) 11) n) 3) _ n hn hn14 hd0) lkX5_166 rfl rfl ⟨(Nat.le_of_ble_eq_true rfl), (Nat.le_of_ble_eq_true rfl)⟩ (va_recv hK hP (ci := 4) (q0 := 0) rfl rfl) hK hE hP hD rfl hl.1 rfl (Nat.le_of_ble_eq_true rfl) dX5_digest_216 ⟨Nat.zero_le _, Nat.zero_le _⟩ ?_
                          refine k_rlS (As := [.double (p_share N n)]) (rest := [.long (31 * (31 * (d_tr N n (d_hs N (d_set N (d_cnt N n (v 2) 11) 3) n) 3) + (p_fl N n).toInt64)), .long 31]) (wc := []) ⟨hx, hb, hml, hown, hts⟩ (c_Jxe99ae_doubleToLongBits_ccdee l D cI cS cL _ (p_share N n) (sh_cmp hn14)) lkX5_174 rfl rfl ⟨(Nat.le_of_ble_eq_true rfl), (Nat.le_of_ble_eq_true rfl)⟩ hK hE k_nilP (k_nilD (A := va_A (mdW cI a N P T U v) s.heap.size)) rfl hl.1 rfl (Nat.le_of_ble_eq_true rfl) dX5_digest_219 ⟨Nat.zero_le _, Nat.zero_le _⟩ ?_
                          refine lv_ladd hx hb dX5_digest_222 (lv_topl (fun x12 e12 => ?_))
                          have q12 : x12 = 31 * (31 * (d_tr N n (d_hs N (d_set N (d_cnt N n (v 2) 11) 3) n) 3) + (p_fl N n).toInt64) + (p_share N n).toInt64 := by rw [e12]; skip
                          subst q12
                          refine lv_lmul hx hb dX5_digest_223 (lv_topl (fun x13 e13 => ?_))
                          have q13 : x13 = 31 * (31 * (31 * (d_tr N n (d_hs N (d_set N (d_cnt N n (v 2) 11) 3) n) 3) + (p_fl N n).toInt64) + (p_share N n).toInt64) := by rw [e13]; skip
                          subst q13
                          refine lv_aload_n hx hb dX5_digest_224 rfl (lv_at hl 1 rfl) ?_
                          refine g5 hx hb hts hown hK hP 0 rfl 4 (by decide) flX5_105 (fun _ h => h) (v := .int (nI z)) (congrArg (fun x => some (Value.int x)) ((d_v_lo N n (us v 5 0) (q := 4) (by decide) 3 n 11).trans hq4)) dX5_digest_225 ?_
                          refine lv_i2l (v := (nI z).toInt64) hx hb dX5_digest_228 rfl ?_
                          refine lv_ladd hx hb dX5_digest_229 (lv_topl (fun x14 e14 => ?_))
                          have q14 : x14 = 31 * (31 * (31 * (d_tr N n (d_hs N (d_set N (d_cnt N n (v 2) 11) 3) n) 3) + (p_fl N n).toInt64) + (p_share N n).toInt64) + (nI z).toInt64 := by rw [e14]; skip
                          subst q14
                          refine lv_lstore_n (lv' := [(1, .long (31 * (31 * (31 * (d_tr N n (d_hs N (d_set N (d_cnt N n (v 2) 11) 3) n) 3) + (p_fl N n).toInt64) + (p_share N n).toInt64) + (nI z).toInt64)), (0, .ref (a 0)), (3, .int 3)]) hx hb dX5_digest_230 rfl hl (by decide) rfl (fun ls hl => ?_)
                          refine lv_iconst (v := 0) hx hb dX5_digest_231 (by decide) ?_
                          refine lv_istore_n (lv' := [(3, .int 0), (1, .long (31 * (31 * (31 * (d_tr N n (d_hs N (d_set N (d_cnt N n (v 2) 11) 3) n) 3) + (p_fl N n).toInt64) + (p_share N n).toInt64) + (nI z).toInt64)), (0, .ref (a 0))]) hx hb dX5_digest_232 rfl hl (by decide) rfl (fun ls hl => ?_)
                          have L15 : ∀ (f k : Nat), k ≤ z → z - k < f → ∀ (H : Heap) (locs : List Loc), va_P D vwCl (mdW cI a N P T U (d_v3 N n (d_v2 N (d_v1 N n (us v 5 0) 11) n) 3)) H → va_D (va_A (mdW cI a N P T U v) s.heap.size) (mdW cI a N P T U (d_v3 N n (d_v2 N (d_v1 N n (us v 5 0) 11) n) 3)) → va_S (va_A (mdW cI a N P T U v) s.heap.size) s.heap H locs → s.heap.size ≤ H.size → ∀ ls : Array Slot, lv_has ls 5 [(0, .ref (a 0)), (1, .long (d_tx T (31 * (31 * (31 * (d_tr N n (d_hs N (d_set N (d_cnt N n (v 2) 11) 3) n) 3) + (p_fl N n).toInt64) + (p_share N n).toInt64) + (nI z).toInt64) k)), (3, .int (nI k))] → W p l e rmX5_digest s m args below meth c H locs 0 0 (MQ below (kMl D (mdW cI a N P T U v) (mdW cI a N P T U (d_v3 N n (d_v2 N (d_v1 N n (us v 5 0) 11) n) 3)) s.heap.size (p_hash N n (v 2) z T)) args s 0 0 (va_A (mdW cI a N P T U v) s.heap.size)) (F0 m 233 ls []) := by
                            intro f
                            induction f with
                            | zero => intro k hv1 hv2; exact absurd hv2 (Nat.not_lt_zero _)
                            | succ f ih15 =>
                              intro k hv1 hv2 H locs hP hD hS hz ls hl
                              refine lv_iload_n hx hb dX5_digest_233 rfl (lv_at hl 2 rfl) ?_
                              refine lv_aload_n hx hb dX5_digest_234 rfl (lv_at hl 0 rfl) ?_
                              refine g5 hx hb hts hown hK hP 0 rfl 4 (by decide) flX5_105 (fun _ h => h) (v := .int (nI z)) (congrArg (fun x => some (Value.int x)) ((d_v_lo N n (us v 5 0) (q := 4) (by decide) 3 n 11).trans hq4)) dX5_digest_235 ?_
                              refine lv_icmp_ge (tgt := 261) hx hb dX5_digest_238 (by decide) (fun c16 => ?_) (fun c16 => ?_)
                              · have c16' := Int32.not_lt.mpr c16
                                have hkz : k = z := k_exit (n := z) (by omega) hv1 c16
                                subst hkz
                                refine lv_lload_n hx hb dX5_digest_261 rfl (lv_at hl 1 rfl) ?_
                                have hP : va_P D vwCl (mdW cI a N P T U (d_v3 N n (d_v2 N (d_v1 N n (us v 5 0) 11) n) 3)) H := hP
                                have hD : va_D (va_A (mdW cI a N P T U v) s.heap.size) (mdW cI a N P T U (d_v3 N n (d_v2 N (d_v1 N n (us v 5 0) 11) n) 3)) := hD
                                exact k_eMl hx hb hr hlocks hP hS (by rfl) dX5_digest_262
                              · have c16' := Int32.not_le.mp c16
                                have hkz : k < z := k_more (n := z) (by omega) hv1 c16
                                refine lv_ldc2 (v := 31) hx hb hown (hts _ wd_constantLong_RX5_172_31) dX5_digest_241 ?_
                                refine lv_lload_n hx hb dX5_digest_244 rfl (lv_at hl 1 rfl) ?_
                                refine lv_lmul hx hb dX5_digest_245 (lv_topl (fun x17 e17 => ?_))
                                have q17 : x17 = 31 * (d_tx T (31 * (31 * (31 * (d_tr N n (d_hs N (d_set N (d_cnt N n (v 2) 11) 3) n) 3) + (p_fl N n).toInt64) + (p_share N n).toInt64) + (nI z).toInt64) k) := by rw [e17]; skip
                                subst q17
                                refine lv_aload_n hx hb dX5_digest_246 rfl (lv_at hl 0 rfl) ?_
                                refine g5 hx hb hts hown hK hP 0 rfl 3 (by decide) flX5_16 (fun _ h => h) (v := .ref (a 3)) rfl dX5_digest_247 ?_
                                refine lv_iload_n hx hb dX5_digest_250 rfl (lv_at hl 2 rfl) ?_
                                refine k_ald (k := k) hx hb hK hP 3 0 rfl rfl rfl (by omega) (by decide) dX5_digest_251 ?_
                                refine lv_i2l (v := (T k).toInt64) hx hb dX5_digest_252 rfl ?_
                                refine lv_ladd hx hb dX5_digest_253 (lv_topl (fun x18 e18 => ?_))
                                have q18 : x18 = 31 * (d_tx T (31 * (31 * (31 * (d_tr N n (d_hs N (d_set N (d_cnt N n (v 2) 11) 3) n) 3) + (p_fl N n).toInt64) + (p_share N n).toInt64) + (nI z).toInt64) k) + (T k).toInt64 := by rw [e18]; skip
                                subst q18
                                refine lv_lstore_n (lv' := [(1, .long (31 * (d_tx T (31 * (31 * (31 * (d_tr N n (d_hs N (d_set N (d_cnt N n (v 2) 11) 3) n) 3) + (p_fl N n).toInt64) + (p_share N n).toInt64) + (nI z).toInt64) k) + (T k).toInt64)), (0, .ref (a 0)), (3, .int (nI k))]) hx hb dX5_digest_254 rfl hl (by decide) rfl (fun ls hl => ?_)
                                refine lv_iinc (v := nI (k + 1)) (lv' := [(3, .int (nI (k + 1))), (1, .long (31 * (d_tx T (31 * (31 * (31 * (d_tr N n (d_hs N (d_set N (d_cnt N n (v 2) 11) 3) n) 3) + (p_fl N n).toInt64) + (p_share N n).toInt64) + (nI z).toInt64) k) + (T k).toInt64)), (0, .ref (a 0))]) hx hb dX5_digest_255 hl (k := 2) rfl (nI_1 _) (by decide) rfl (fun ls hl => ?_)
                                refine lv_goto (tgt := 233) hx hb dX5_digest_258 (by decide) ?_
                                have hl : lv_has ls 5 [(0, .ref (a 0)), (1, .long (31 * (d_tx T (31 * (31 * (31 * (d_tr N n (d_hs N (d_set N (d_cnt N n (v 2) 11) 3) n) 3) + (p_fl N n).toInt64) + (p_share N n).toInt64) + (nI z).toInt64) k) + (T k).toInt64)), (3, .int (nI (k + 1)))] := lv_sub hl [2, 1, 0] rfl
                                have hl : lv_has ls 5 [(0, .ref (a 0)), (1, .long (d_tx T (31 * (31 * (31 * (d_tr N n (d_hs N (d_set N (d_cnt N n (v 2) 11) 3) n) 3) + (p_fl N n).toInt64) + (p_share N n).toInt64) + (nI z).toInt64) (k + 1))), (3, .int (nI (k + 1)))] := hl
                                have hP : va_P D vwCl (mdW cI a N P T U (d_v3 N n (d_v2 N (d_v1 N n (us v 5 0) 11) n) 3)) H := hP
                                have hD : va_D (va_A (mdW cI a N P T U v) s.heap.size) (mdW cI a N P T U (d_v3 N n (d_v2 N (d_v1 N n (us v 5 0) 11) n) 3)) := hD
                                exact ih15 (k + 1) (by omega) (by omega) H locs hP hD hS hS.1 ls hl
                          have hl : lv_has ls 5 [(0, .ref (a 0)), (1, .long (31 * (31 * (31 * (d_tr N n (d_hs N (d_set N (d_cnt N n (v 2) 11) 3) n) 3) + (p_fl N n).toInt64) + (p_share N n).toInt64) + (nI z).toInt64)), (3, .int 0)] := lv_sub hl [2, 1, 0] rfl
                          have hl : lv_has ls 5 [(0, .ref (a 0)), (1, .long (d_tx T (31 * (31 * (31 * (d_tr N n (d_hs N (d_set N (d_cnt N n (v 2) 11) 3) n) 3) + (p_fl N n).toInt64) + (p_share N n).toInt64) + (nI z).toInt64) 0)), (3, .int (nI 0))] := hl
                          have hP : va_P D vwCl (mdW cI a N P T U (d_v3 N n (d_v2 N (d_v1 N n (us v 5 0) 11) n) 3)) H := hP
                          have hD : va_D (va_A (mdW cI a N P T U v) s.heap.size) (mdW cI a N P T U (d_v3 N n (d_v2 N (d_v1 N n (us v 5 0) 11) n) 3)) := hD
                          exact L15 (z - 0 + 1) 0 (by omega) (by omega) H locs hP hD hS hS.1 ls hl
                        · have c8' := Int32.not_le.mp c8
                          have hkn : k < 3 := k_more (n := 3) (by omega) hv1 c8
                          refine lv_iconst (v := 0) hx hb dX5_digest_145 (by decide) ?_
                          refine lv_istore (lv' := [(4, .int 0), (0, .ref (a 0)), (1, .long (d_tr N n (d_hs N (d_set N (d_cnt N n (v 2) 11) 3) n) k)), (3, .int (nI k))]) hx hb dX5_digest_146 hl (by decide) rfl (fun ls hl => ?_)
                          have L22 : ∀ (f w : Nat), w ≤ 7 → 7 - w < f → ∀ (H : Heap) (locs : List Loc), va_P D vwCl (mdW cI a N P T U (d_v3i N n k (d_v3 N n (d_v2 N (d_v1 N n (us v 5 0) 11) n) k) w)) H → va_D (va_A (mdW cI a N P T U v) s.heap.size) (mdW cI a N P T U (d_v3i N n k (d_v3 N n (d_v2 N (d_v1 N n (us v 5 0) 11) n) k) w)) → va_S (va_A (mdW cI a N P T U v) s.heap.size) s.heap H locs → s.heap.size ≤ H.size → ∀ ls : Array Slot, lv_has ls 5 [(0, .ref (a 0)), (1, .long (d_tr1 N n k (d_tr N n (d_hs N (d_set N (d_cnt N n (v 2) 11) 3) n) k) w)), (3, .int (nI k)), (4, .int (nI w))] → W p l e rmX5_digest s m args below meth c H locs 0 0 (MQ below (kMl D (mdW cI a N P T U v) (mdW cI a N P T U (d_v3 N n (d_v2 N (d_v1 N n (us v 5 0) 11) n) 3)) s.heap.size (p_hash N n (v 2) z T)) args s 0 0 (va_A (mdW cI a N P T U v) s.heap.size)) (F0 m 148 ls []) := by
                            intro f
                            induction f with
                            | zero => intro w hv1 hv2; exact absurd hv2 (Nat.not_lt_zero _)
                            | succ f ih22 =>
                              intro w hv1 hv2 H locs hP hD hS hz ls hl
                              refine lv_iload hx hb dX5_digest_148 (lv_at hl 3 rfl) ?_
                              refine lv_bipush (v := 7) hx hb dX5_digest_150 (by decide) ?_
                              refine lv_icmp_ge (tgt := 176) hx hb dX5_digest_152 (by decide) (fun c23 => ?_) (fun c23 => ?_)
                              · have c23' := Int32.not_lt.mpr c23
                                have hwn : w = 7 := k_exit (n := 7) (by omega) hv1 c23
                                subst hwn
                                refine lv_ldc2 (v := 31) hx hb hown (hts _ wd_constantLong_RX5_172_31) dX5_digest_176 ?_
                                refine lv_lload_n hx hb dX5_digest_179 rfl (lv_at hl 1 rfl) ?_
                                refine lv_lmul hx hb dX5_digest_180 (lv_topl (fun x24 e24 => ?_))
                                have q24 : x24 = 31 * (d_tr1 N n k (d_tr N n (d_hs N (d_set N (d_cnt N n (v 2) 11) 3) n) k) 7) := by rw [e24]; skip
                                subst q24
                                refine lv_aload_n hx hb dX5_digest_181 rfl (lv_at hl 0 rfl) ?_
                                refine lv_iload_n hx hb dX5_digest_182 rfl (lv_at hl 2 rfl) ?_
                                refine k_miV (As := [.int (nI k)]) (rest := [.long (31 * (d_tr1 N n k (d_tr N n (d_hs N (d_set N (d_cnt N n (v 2) 11) 3) n) k) 7))]) (w1 := []) (wc := mdW cI a N P T U (d_v3i N n k (d_v3 N n (d_v2 N (d_v1 N n (us v 5 0) 11) n) k) 7)) (wc' := mdW cI a N P T U (us (us (us (d_v3i N n k (d_v3 N n (d_v2 N (d_v1 N n (us v 5 0) 11) n) k) 7) 11 (p_helpv N k n 0)) 12 (p_helpv N k n 1)) 13 (p_helpv N k n 2))) (w3 := []) ⟨hx, hb, hml, hown, hts⟩ (c_X5_cheapest l D cI cS cL a N P T U (d_v3i N n k (d_v3 N n (d_v2 N (d_v1 N n (us v 5 0) 11) n) k) 7) _ n k hn hn14 (by omega) hd0 hkds) lkX5_163 rfl rfl ⟨(Nat.le_of_ble_eq_true rfl), (Nat.le_of_ble_eq_true rfl)⟩ (va_recv hK hP (ci := 4) (q0 := 0) rfl rfl) hK hE hP hD hS hA rfl rfl hl.1 rfl (Nat.le_of_ble_eq_true rfl) dX5_digest_183 ⟨Nat.zero_le _, Nat.zero_le _⟩ (fun H locs hzz hP hD hS => ?_)
                                have hP : va_P D vwCl (mdW cI a N P T U (us (us (us (d_v3i N n k (d_v3 N n (d_v2 N (d_v1 N n (us v 5 0) 11) n) k) 7) 11 (p_helpv N k n 0)) 12 (p_helpv N k n 1)) 13 (p_helpv N k n 2))) H := hP
                                have hD : va_D (va_A (mdW cI a N P T U v) s.heap.size) (mdW cI a N P T U (us (us (us (d_v3i N n k (d_v3 N n (d_v2 N (d_v1 N n (us v 5 0) 11) n) k) 7) 11 (p_helpv N k n 0)) 12 (p_helpv N k n 1)) 13 (p_helpv N k n 2))) := hD
                                refine lv_i2l (v := (p_help N k n).toInt64) hx hb dX5_digest_186 rfl ?_
                                refine lv_ladd hx hb dX5_digest_187 (lv_topl (fun x25 e25 => ?_))
                                have q25 : x25 = 31 * (d_tr1 N n k (d_tr N n (d_hs N (d_set N (d_cnt N n (v 2) 11) 3) n) k) 7) + (p_help N k n).toInt64 := by rw [e25]; skip
                                subst q25
                                refine lv_lstore_n (lv' := [(1, .long (31 * (d_tr1 N n k (d_tr N n (d_hs N (d_set N (d_cnt N n (v 2) 11) 3) n) k) 7) + (p_help N k n).toInt64)), (0, .ref (a 0)), (3, .int (nI k)), (4, .int 7)]) hx hb dX5_digest_188 rfl hl (by decide) rfl (fun ls hl => ?_)
                                refine lv_iinc (v := nI (k + 1)) (lv' := [(3, .int (nI (k + 1))), (1, .long (31 * (d_tr1 N n k (d_tr N n (d_hs N (d_set N (d_cnt N n (v 2) 11) 3) n) k) 7) + (p_help N k n).toInt64)), (0, .ref (a 0)), (4, .int 7)]) hx hb dX5_digest_189 hl (k := 2) rfl (nI_1 _) (by decide) rfl (fun ls hl => ?_)
                                refine lv_goto (tgt := 140) hx hb dX5_digest_192 (by decide) ?_
                                have hl : lv_has ls 5 [(0, .ref (a 0)), (1, .long (31 * (d_tr1 N n k (d_tr N n (d_hs N (d_set N (d_cnt N n (v 2) 11) 3) n) k) 7) + (p_help N k n).toInt64)), (3, .int (nI (k + 1)))] := lv_sub hl [2, 1, 0] rfl
                                have hl : lv_has ls 5 [(0, .ref (a 0)), (1, .long (d_tr N n (d_hs N (d_set N (d_cnt N n (v 2) 11) 3) n) (k + 1))), (3, .int (nI (k + 1)))] := hl
                                have hP : va_P D vwCl (mdW cI a N P T U (d_v3 N n (d_v2 N (d_v1 N n (us v 5 0) 11) n) (k + 1))) H := hP
                                have hD : va_D (va_A (mdW cI a N P T U v) s.heap.size) (mdW cI a N P T U (d_v3 N n (d_v2 N (d_v1 N n (us v 5 0) 11) n) (k + 1))) := hD
                                exact ih7 (k + 1) (by omega) (by omega) H locs hP hD hS hS.1 ls hl
                              · have c23' := Int32.not_le.mp c23
                                have hwn : w < 7 := k_more (n := 7) (by omega) hv1 c23
                                refine lv_ldc2 (v := 31) hx hb hown (hts _ wd_constantLong_RX5_172_31) dX5_digest_155 ?_
                                refine lv_lload_n hx hb dX5_digest_158 rfl (lv_at hl 1 rfl) ?_
                                refine lv_lmul hx hb dX5_digest_159 (lv_topl (fun x28 e28 => ?_))
                                have q28 : x28 = 31 * (d_tr1 N n k (d_tr N n (d_hs N (d_set N (d_cnt N n (v 2) 11) 3) n) k) w) := by rw [e28]; skip
                                subst q28
                                refine lv_aload_n hx hb dX5_digest_160 rfl (lv_at hl 0 rfl) ?_
                                refine lv_iload_n hx hb dX5_digest_161 rfl (lv_at hl 2 rfl) ?_
                                refine lv_iload hx hb dX5_digest_162 (lv_at hl 3 rfl) ?_
                                refine k_miV (As := [.int (nI k), .int (nI w)]) (rest := [.long (31 * (d_tr1 N n k (d_tr N n (d_hs N (d_set N (d_cnt N n (v 2) 11) 3) n) k) w))]) (w1 := []) (wc := mdW cI a N P T U (d_v3i N n k (d_v3 N n (d_v2 N (d_v1 N n (us v 5 0) 11) n) k) w)) (wc' := mdW cI a N P T U (us (us (us (d_v3i N n k (d_v3 N n (d_v2 N (d_v1 N n (us v 5 0) 11) n) k) w) 11 (p_lay N (nI k) (-1) n 0)) 12 (p_lay N (nI k) (-1) n 1)) 13 (p_lay N (nI k) (-1) n 2))) (w3 := []) ⟨hx, hb, hml, hown, hts⟩ (c_X5_ofTruck l D cI cS cL a N P T U (d_v3i N n k (d_v3 N n (d_v2 N (d_v1 N n (us v 5 0) 11) n) k) w) _ n k w hn hn14 (by omega) (by omega) hd0) lkX5_144 rfl rfl ⟨(Nat.le_of_ble_eq_true rfl), (Nat.le_of_ble_eq_true rfl)⟩ (va_recv hK hP (ci := 4) (q0 := 0) rfl rfl) hK hE hP hD hS hA rfl rfl hl.1 rfl (Nat.le_of_ble_eq_true rfl) dX5_digest_164 ⟨Nat.zero_le _, Nat.zero_le _⟩ (fun H locs hzz hP hD hS => ?_)
                                have hP : va_P D vwCl (mdW cI a N P T U (us (us (us (d_v3i N n k (d_v3 N n (d_v2 N (d_v1 N n (us v 5 0) 11) n) k) w) 11 (p_lay N (nI k) (-1) n 0)) 12 (p_lay N (nI k) (-1) n 1)) 13 (p_lay N (nI k) (-1) n 2))) H := hP
                                have hD : va_D (va_A (mdW cI a N P T U v) s.heap.size) (mdW cI a N P T U (us (us (us (d_v3i N n k (d_v3 N n (d_v2 N (d_v1 N n (us v 5 0) 11) n) k) w) 11 (p_lay N (nI k) (-1) n 0)) 12 (p_lay N (nI k) (-1) n 1)) 13 (p_lay N (nI k) (-1) n 2))) := hD
                                refine lv_i2l (v := (p_truck N n k w).toInt64) hx hb dX5_digest_167 rfl ?_
                                refine lv_ladd hx hb dX5_digest_168 (lv_topl (fun x29 e29 => ?_))
                                have q29 : x29 = 31 * (d_tr1 N n k (d_tr N n (d_hs N (d_set N (d_cnt N n (v 2) 11) 3) n) k) w) + (p_truck N n k w).toInt64 := by rw [e29]; skip
                                subst q29
                                refine lv_lstore_n (lv' := [(1, .long (31 * (d_tr1 N n k (d_tr N n (d_hs N (d_set N (d_cnt N n (v 2) 11) 3) n) k) w) + (p_truck N n k w).toInt64)), (0, .ref (a 0)), (3, .int (nI k)), (4, .int (nI w))]) hx hb dX5_digest_169 rfl hl (by decide) rfl (fun ls hl => ?_)
                                refine lv_iinc (v := nI (w + 1)) (lv' := [(4, .int (nI (w + 1))), (1, .long (31 * (d_tr1 N n k (d_tr N n (d_hs N (d_set N (d_cnt N n (v 2) 11) 3) n) k) w) + (p_truck N n k w).toInt64)), (0, .ref (a 0)), (3, .int (nI k))]) hx hb dX5_digest_170 hl (k := 3) rfl (nI_1 _) (by decide) rfl (fun ls hl => ?_)
                                refine lv_goto (tgt := 148) hx hb dX5_digest_173 (by decide) ?_
                                have hl : lv_has ls 5 [(0, .ref (a 0)), (1, .long (31 * (d_tr1 N n k (d_tr N n (d_hs N (d_set N (d_cnt N n (v 2) 11) 3) n) k) w) + (p_truck N n k w).toInt64)), (3, .int (nI k)), (4, .int (nI (w + 1)))] := lv_sub hl [2, 1, 3, 0] rfl
                                have hl : lv_has ls 5 [(0, .ref (a 0)), (1, .long (d_tr1 N n k (d_tr N n (d_hs N (d_set N (d_cnt N n (v 2) 11) 3) n) k) (w + 1))), (3, .int (nI k)), (4, .int (nI (w + 1)))] := hl
                                have hP : va_P D vwCl (mdW cI a N P T U (d_v3i N n k (d_v3 N n (d_v2 N (d_v1 N n (us v 5 0) 11) n) k) (w + 1))) H := hP
                                have hD : va_D (va_A (mdW cI a N P T U v) s.heap.size) (mdW cI a N P T U (d_v3i N n k (d_v3 N n (d_v2 N (d_v1 N n (us v 5 0) 11) n) k) (w + 1))) := hD
                                exact ih22 (w + 1) (by omega) (by omega) H locs hP hD hS hS.1 ls hl
                          have hl : lv_has ls 5 [(0, .ref (a 0)), (1, .long (d_tr N n (d_hs N (d_set N (d_cnt N n (v 2) 11) 3) n) k)), (3, .int (nI k)), (4, .int 0)] := lv_sub hl [1, 2, 3, 0] rfl
                          have hl : lv_has ls 5 [(0, .ref (a 0)), (1, .long (d_tr1 N n k (d_tr N n (d_hs N (d_set N (d_cnt N n (v 2) 11) 3) n) k) 0)), (3, .int (nI k)), (4, .int (nI 0))] := hl
                          have hP : va_P D vwCl (mdW cI a N P T U (d_v3i N n k (d_v3 N n (d_v2 N (d_v1 N n (us v 5 0) 11) n) k) 0)) H := hP
                          have hD : va_D (va_A (mdW cI a N P T U v) s.heap.size) (mdW cI a N P T U (d_v3i N n k (d_v3 N n (d_v2 N (d_v1 N n (us v 5 0) 11) n) k) 0)) := hD
                          exact L22 (7 - 0 + 1) 0 (by omega) (by omega) H locs hP hD hS hS.1 ls hl
                    have hl : lv_has ls 5 [(0, .ref (a 0)), (1, .long (d_hs N (d_set N (d_cnt N n (v 2) 11) 3) n)), (3, .int 0)] := lv_sub hl [1, 2, 0] rfl
                    have hl : lv_has ls 5 [(0, .ref (a 0)), (1, .long (d_tr N n (d_hs N (d_set N (d_cnt N n (v 2) 11) 3) n) 0)), (3, .int (nI 0))] := hl
                    have hP : va_P D vwCl (mdW cI a N P T U (d_v3 N n (d_v2 N (d_v1 N n (us v 5 0) 11) n) 0)) H := hP
                    have hD : va_D (va_A (mdW cI a N P T U v) s.heap.size) (mdW cI a N P T U (d_v3 N n (d_v2 N (d_v1 N n (us v 5 0) 11) n) 0)) := hD
                    exact L7 (3 - 0 + 1) 0 (by omega) (by omega) H locs hP hD hS hS.1 ls hl
                  · have c6' := Int32.not_le.mp c6
                    have hkn : k < n := k_more (by omega) hv1 c6
                    refine lv_iconst (v := 0) hx hb dX5_digest_75 (by decide) ?_
                    refine lv_istore (lv' := [(4, .int 0), (0, .ref (a 0)), (1, .long (d_hs N (d_set N (d_cnt N n (v 2) 11) 3) k)), (3, .int (nI k))]) hx hb dX5_digest_76 hl (by decide) rfl (fun ls hl => ?_)
                    have L36 : ∀ (f w : Nat), w ≤ 10 → 10 - w < f → ∀ (H : Heap) (locs : List Loc), va_P D vwCl (mdW cI a N P T U (d_v2 N (d_v1 N n (us v 5 0) 11) k)) H → va_D (va_A (mdW cI a N P T U v) s.heap.size) (mdW cI a N P T U (d_v2 N (d_v1 N n (us v 5 0) 11) k)) → va_S (va_A (mdW cI a N P T U v) s.heap.size) s.heap H locs → s.heap.size ≤ H.size → ∀ ls : Array Slot, lv_has ls 5 [(0, .ref (a 0)), (1, .long (d_hs1 N k (d_hs N (d_set N (d_cnt N n (v 2) 11) 3) k) w)), (3, .int (nI k)), (4, .int (nI w))] → W p l e rmX5_digest s m args below meth c H locs 0 0 (MQ below (kMl D (mdW cI a N P T U v) (mdW cI a N P T U (d_v3 N n (d_v2 N (d_v1 N n (us v 5 0) 11) n) 3)) s.heap.size (p_hash N n (v 2) z T)) args s 0 0 (va_A (mdW cI a N P T U v) s.heap.size)) (F0 m 78 ls []) := by
                      intro f
                      induction f with
                      | zero => intro w hv1 hv2; exact absurd hv2 (Nat.not_lt_zero _)
                      | succ f ih36 =>
                        intro w hv1 hv2 H locs hP hD hS hz ls hl
                        refine lv_iload hx hb dX5_digest_78 (lv_at hl 3 rfl) ?_
                        refine lv_bipush (v := 10) hx hb dX5_digest_80 (by decide) ?_
                        refine lv_icmp_ge (tgt := 106) hx hb dX5_digest_82 (by decide) (fun c37 => ?_) (fun c37 => ?_)
                        · have c37' := Int32.not_lt.mpr c37
                          have hwn : w = 10 := k_exit (n := 10) (by omega) hv1 c37
                          subst hwn
                          refine lv_ldc2 (v := 31) hx hb hown (hts _ wd_constantLong_RX5_172_31) dX5_digest_106 ?_
                          refine lv_ldc2 (v := 31) hx hb hown (hts _ wd_constantLong_RX5_172_31) dX5_digest_109 ?_
                          refine lv_lload_n hx hb dX5_digest_112 rfl (lv_at hl 1 rfl) ?_
                          refine lv_lmul hx hb dX5_digest_113 (lv_topl (fun x38 e38 => ?_))
                          have q38 : x38 = 31 * (d_hs1 N k (d_hs N (d_set N (d_cnt N n (v 2) 11) 3) k) 10) := by rw [e38]; skip
                          subst q38
                          refine lv_aload_n hx hb dX5_digest_114 rfl (lv_at hl 0 rfl) ?_
                          refine lv_iload_n hx hb dX5_digest_115 rfl (lv_at hl 2 rfl) ?_
                          refine lv_bipush (v := 12) hx hb dX5_digest_116 (by decide) ?_
                          refine k_miV (As := [.int (nI k), .int (nI 12)]) (rest := [.long (31 * (d_hs1 N k (d_hs N (d_set N (d_cnt N n (v 2) 11) 3) k) 10)), .long 31]) (w1 := []) (wc := mdW cI a N P T U (d_v2 N (d_v1 N n (us v 5 0) 11) k)) (wc' := mdW cI a N P T U (us (d_v2 N (d_v1 N n (us v 5 0) 11) k) 10 (m_tw N k 12 ((d_v2 N (d_v1 N n (us v 5 0) 11) k) 10)))) (w3 := []) ⟨hx, hb, hml, hown, hts⟩ (c_X5_tried l D cI cS cL a N P T U (d_v2 N (d_v1 N n (us v 5 0) 11) k) _ k 12 (by omega) (by omega) (by omega) (hws k hkn).1 (hws k hkn).2) lkX5_153 rfl rfl ⟨(Nat.le_of_ble_eq_true rfl), (Nat.le_of_ble_eq_true rfl)⟩ (va_recv hK hP (ci := 4) (q0 := 0) rfl rfl) hK hE hP hD hS hA rfl rfl hl.1 rfl (Nat.le_of_ble_eq_true rfl) dX5_digest_118 ⟨Nat.zero_le _, Nat.zero_le _⟩ (fun H locs hzz hP hD hS => ?_)
                          have hP : va_P D vwCl (mdW cI a N P T U (us (d_v2 N (d_v1 N n (us v 5 0) 11) k) 10 (m_tw N k 12 ((d_v2 N (d_v1 N n (us v 5 0) 11) k) 10)))) H := hP
                          have hD : va_D (va_A (mdW cI a N P T U v) s.heap.size) (mdW cI a N P T U (us (d_v2 N (d_v1 N n (us v 5 0) 11) k) 10 (m_tw N k 12 ((d_v2 N (d_v1 N n (us v 5 0) 11) k) 10)))) := hD
                          refine lv_i2l (v := (p_tried N k 12).toInt64) hx hb dX5_digest_121 rfl ?_
                          refine lv_ladd hx hb dX5_digest_122 (lv_topl (fun x39 e39 => ?_))
                          have q39 : x39 = 31 * (d_hs1 N k (d_hs N (d_set N (d_cnt N n (v 2) 11) 3) k) 10) + (p_tried N k 12).toInt64 := by rw [e39]; skip
                          subst q39
                          refine lv_lmul hx hb dX5_digest_123 (lv_topl (fun x40 e40 => ?_))
                          have q40 : x40 = 31 * (31 * (d_hs1 N k (d_hs N (d_set N (d_cnt N n (v 2) 11) 3) k) 10) + (p_tried N k 12).toInt64) := by rw [e40]; skip
                          subst q40
                          refine lv_aload_n hx hb dX5_digest_124 rfl (lv_at hl 0 rfl) ?_
                          refine lv_iload_n hx hb dX5_digest_125 rfl (lv_at hl 2 rfl) ?_
                          refine k_miV (As := [.int (nI k)]) (rest := [.long (31 * (31 * (d_hs1 N k (d_hs N (d_set N (d_cnt N n (v 2) 11) 3) k) 10) + (p_tried N k 12).toInt64))]) (w1 := []) (wc := mdW cI a N P T U (us (d_v2 N (d_v1 N n (us v 5 0) 11) k) 10 (m_tw N k 12 ((d_v2 N (d_v1 N n (us v 5 0) 11) k) 10)))) (wc' := mdW cI a N P T U (us (d_v2 N (d_v1 N n (us v 5 0) 11) k) 10 (m_gz N k 21 ((us (d_v2 N (d_v1 N n (us v 5 0) 11) k) 10 (m_tw N k 12 ((d_v2 N (d_v1 N n (us v 5 0) 11) k) 10))) 10)))) (w3 := []) ⟨hx, hb, hml, hown, hts⟩ (c_X5_greatest l D cI cS cL a N P T U (us (d_v2 N (d_v1 N n (us v 5 0) 11) k) 10 (m_tw N k 12 ((d_v2 N (d_v1 N n (us v 5 0) 11) k) 10))) _ k (by omega) (hws k hkn).1 (hws k hkn).2) lkX5_156 rfl rfl ⟨(Nat.le_of_ble_eq_true rfl), (Nat.le_of_ble_eq_true rfl)⟩ (va_recv hK hP (ci := 4) (q0 := 0) rfl rfl) hK hE hP hD hS hA rfl rfl hl.1 rfl (Nat.le_of_ble_eq_true rfl) dX5_digest_126 ⟨Nat.zero_le _, Nat.zero_le _⟩ (fun H locs hzz hP hD hS => ?_)
                          have hP : va_P D vwCl (mdW cI a N P T U (us (d_v2 N (d_v1 N n (us v 5 0) 11) k) 10 (m_gz N k 21 ((us (d_v2 N (d_v1 N n (us v 5 0) 11) k) 10 (m_tw N k 12 ((d_v2 N (d_v1 N n (us v 5 0) 11) k) 10))) 10)))) H := hP
                          have hD : va_D (va_A (mdW cI a N P T U v) s.heap.size) (mdW cI a N P T U (us (d_v2 N (d_v1 N n (us v 5 0) 11) k) 10 (m_gz N k 21 ((us (d_v2 N (d_v1 N n (us v 5 0) 11) k) 10 (m_tw N k 12 ((d_v2 N (d_v1 N n (us v 5 0) 11) k) 10))) 10)))) := hD
                          refine lv_i2l (v := (p_safeG N k).toInt64) hx hb dX5_digest_129 rfl ?_
                          refine lv_ladd hx hb dX5_digest_130 (lv_topl (fun x41 e41 => ?_))
                          have q41 : x41 = 31 * (31 * (d_hs1 N k (d_hs N (d_set N (d_cnt N n (v 2) 11) 3) k) 10) + (p_tried N k 12).toInt64) + (p_safeG N k).toInt64 := by rw [e41]; skip
                          subst q41
                          refine lv_lstore_n (lv' := [(1, .long (31 * (31 * (d_hs1 N k (d_hs N (d_set N (d_cnt N n (v 2) 11) 3) k) 10) + (p_tried N k 12).toInt64) + (p_safeG N k).toInt64)), (0, .ref (a 0)), (3, .int (nI k)), (4, .int 10)]) hx hb dX5_digest_131 rfl hl (by decide) rfl (fun ls hl => ?_)
                          refine lv_iinc (v := nI (k + 1)) (lv' := [(3, .int (nI (k + 1))), (1, .long (31 * (31 * (d_hs1 N k (d_hs N (d_set N (d_cnt N n (v 2) 11) 3) k) 10) + (p_tried N k 12).toInt64) + (p_safeG N k).toInt64)), (0, .ref (a 0)), (4, .int 10)]) hx hb dX5_digest_132 hl (k := 2) rfl (nI_1 _) (by decide) rfl (fun ls hl => ?_)
                          refine lv_goto (tgt := 65) hx hb dX5_digest_135 (by decide) ?_
                          have hl : lv_has ls 5 [(0, .ref (a 0)), (1, .long (31 * (31 * (d_hs1 N k (d_hs N (d_set N (d_cnt N n (v 2) 11) 3) k) 10) + (p_tried N k 12).toInt64) + (p_safeG N k).toInt64)), (3, .int (nI (k + 1)))] := lv_sub hl [2, 1, 0] rfl
                          have hl : lv_has ls 5 [(0, .ref (a 0)), (1, .long (d_hs N (d_set N (d_cnt N n (v 2) 11) 3) (k + 1))), (3, .int (nI (k + 1)))] := hl
                          have hP : va_P D vwCl (mdW cI a N P T U (d_v2 N (d_v1 N n (us v 5 0) 11) (k + 1))) H := hP
                          have hD : va_D (va_A (mdW cI a N P T U v) s.heap.size) (mdW cI a N P T U (d_v2 N (d_v1 N n (us v 5 0) 11) (k + 1))) := hD
                          exact ih5 (k + 1) (by omega) (by omega) H locs hP hD hS hS.1 ls hl
                        · have c37' := Int32.not_le.mp c37
                          have hwn : w < 10 := k_more (n := 10) (by omega) hv1 c37
                          refine lv_ldc2 (v := 31) hx hb hown (hts _ wd_constantLong_RX5_172_31) dX5_digest_85 ?_
                          refine lv_lload_n hx hb dX5_digest_88 rfl (lv_at hl 1 rfl) ?_
                          refine lv_lmul hx hb dX5_digest_89 (lv_topl (fun x44 e44 => ?_))
                          have q44 : x44 = 31 * (d_hs1 N k (d_hs N (d_set N (d_cnt N n (v 2) 11) 3) k) w) := by rw [e44]; skip
                          subst q44
                          refine lv_aload_n hx hb dX5_digest_90 rfl (lv_at hl 0 rfl) ?_
                          refine lv_iload_n hx hb dX5_digest_91 rfl (lv_at hl 2 rfl) ?_
                          refine lv_iload hx hb dX5_digest_92 (lv_at hl 3 rfl) ?_
                          refine k_riV (As := [.int (nI k), .int (nI w)]) (rest := [.long (31 * (d_hs1 N k (d_hs N (d_set N (d_cnt N n (v 2) 11) 3) k) w))]) (wc := mdW cI a N P T U (d_v2 N (d_v1 N n (us v 5 0) 11) k)) ⟨hx, hb, hml, hown, hts⟩ (c_X5_ofHose l D cI cS cL a N P T U (d_v2 N (d_v1 N n (us v 5 0) 11) k) _ k w (by omega) (by omega) hd0) lkX5_134 rfl rfl ⟨(Nat.le_of_ble_eq_true rfl), (Nat.le_of_ble_eq_true rfl)⟩ (va_recv hK hP (ci := 4) (q0 := 0) rfl rfl) hK hE hP hD rfl hl.1 rfl (Nat.le_of_ble_eq_true rfl) dX5_digest_94 ⟨Nat.zero_le _, Nat.zero_le _⟩ ?_
                          refine lv_i2l (v := (m_hose N k w).toInt64) hx hb dX5_digest_97 rfl ?_
                          refine lv_ladd hx hb dX5_digest_98 (lv_topl (fun x45 e45 => ?_))
                          have q45 : x45 = 31 * (d_hs1 N k (d_hs N (d_set N (d_cnt N n (v 2) 11) 3) k) w) + (m_hose N k w).toInt64 := by rw [e45]; skip
                          subst q45
                          refine lv_lstore_n (lv' := [(1, .long (31 * (d_hs1 N k (d_hs N (d_set N (d_cnt N n (v 2) 11) 3) k) w) + (m_hose N k w).toInt64)), (0, .ref (a 0)), (3, .int (nI k)), (4, .int (nI w))]) hx hb dX5_digest_99 rfl hl (by decide) rfl (fun ls hl => ?_)
                          refine lv_iinc (v := nI (w + 1)) (lv' := [(4, .int (nI (w + 1))), (1, .long (31 * (d_hs1 N k (d_hs N (d_set N (d_cnt N n (v 2) 11) 3) k) w) + (m_hose N k w).toInt64)), (0, .ref (a 0)), (3, .int (nI k))]) hx hb dX5_digest_100 hl (k := 3) rfl (nI_1 _) (by decide) rfl (fun ls hl => ?_)
                          refine lv_goto (tgt := 78) hx hb dX5_digest_103 (by decide) ?_
                          have hl : lv_has ls 5 [(0, .ref (a 0)), (1, .long (31 * (d_hs1 N k (d_hs N (d_set N (d_cnt N n (v 2) 11) 3) k) w) + (m_hose N k w).toInt64)), (3, .int (nI k)), (4, .int (nI (w + 1)))] := lv_sub hl [2, 1, 3, 0] rfl
                          have hl : lv_has ls 5 [(0, .ref (a 0)), (1, .long (d_hs1 N k (d_hs N (d_set N (d_cnt N n (v 2) 11) 3) k) (w + 1))), (3, .int (nI k)), (4, .int (nI (w + 1)))] := hl
                          have hP : va_P D vwCl (mdW cI a N P T U (d_v2 N (d_v1 N n (us v 5 0) 11) k)) H := hP
                          have hD : va_D (va_A (mdW cI a N P T U v) s.heap.size) (mdW cI a N P T U (d_v2 N (d_v1 N n (us v 5 0) 11) k)) := hD
                          exact ih36 (w + 1) (by omega) (by omega) H locs hP hD hS hS.1 ls hl
                    have hl : lv_has ls 5 [(0, .ref (a 0)), (1, .long (d_hs N (d_set N (d_cnt N n (v 2) 11) 3) k)), (3, .int (nI k)), (4, .int 0)] := lv_sub hl [1, 2, 3, 0] rfl
                    have hl : lv_has ls 5 [(0, .ref (a 0)), (1, .long (d_hs1 N k (d_hs N (d_set N (d_cnt N n (v 2) 11) 3) k) 0)), (3, .int (nI k)), (4, .int (nI 0))] := hl
                    have hP : va_P D vwCl (mdW cI a N P T U (d_v2 N (d_v1 N n (us v 5 0) 11) k)) H := hP
                    have hD : va_D (va_A (mdW cI a N P T U v) s.heap.size) (mdW cI a N P T U (d_v2 N (d_v1 N n (us v 5 0) 11) k)) := hD
                    exact L36 (10 - 0 + 1) 0 (by omega) (by omega) H locs hP hD hS hS.1 ls hl
              have hl : lv_has ls 5 [(0, .ref (a 0)), (1, .long (d_set N (d_cnt N n (v 2) 11) 3)), (3, .int 0)] := lv_sub hl [1, 2, 0] rfl
              have hl : lv_has ls 5 [(0, .ref (a 0)), (1, .long (d_hs N (d_set N (d_cnt N n (v 2) 11) 3) 0)), (3, .int (nI 0))] := hl
              have hP : va_P D vwCl (mdW cI a N P T U (d_v2 N (d_v1 N n (us v 5 0) 11) 0)) H := hP
              have hD : va_D (va_A (mdW cI a N P T U v) s.heap.size) (mdW cI a N P T U (d_v2 N (d_v1 N n (us v 5 0) 11) 0)) := hD
              exact L5 (n - 0 + 1) 0 (by omega) (by omega) H locs hP hD hS hS.1 ls hl
            · have c4' := Int32.not_le.mp c4
              have hkn : k < 3 := k_more (n := 3) (by omega) hv1 c4
              refine lv_ldc2 (v := 31) hx hb hown (hts _ wd_constantLong_RX5_172_31) dX5_digest_43 ?_
              refine lv_lload_n hx hb dX5_digest_46 rfl (lv_at hl 1 rfl) ?_
              refine lv_lmul hx hb dX5_digest_47 (lv_topl (fun x51 e51 => ?_))
              have q51 : x51 = 31 * (d_set N (d_cnt N n (v 2) 11) k) := by rw [e51]; skip
              subst q51
              refine lv_aload_n hx hb dX5_digest_48 rfl (lv_at hl 0 rfl) ?_
              refine g5 hx hb hts hown hK hP 0 rfl 0 (by decide) flX5_7 (fun _ h => h) (v := .ref (a 1)) rfl dX5_digest_49 ?_
              refine lv_iload_n hx hb dX5_digest_52 rfl (lv_at hl 2 rfl) ?_
              refine k_ald (k := 0 + k) hx hb hK hP 1 0 rfl rfl (congrArg nI (Nat.zero_add k).symm) (by omega) (by decide) dX5_digest_53 ?_
              rw [show flat N (0 + k) = N 0 k from flat_set _ _ (by omega)]
              refine lv_i2l (v := (N 0 k).toInt64) hx hb dX5_digest_54 rfl ?_
              refine lv_ladd hx hb dX5_digest_55 (lv_topl (fun x52 e52 => ?_))
              have q52 : x52 = 31 * (d_set N (d_cnt N n (v 2) 11) k) + (N 0 k).toInt64 := by rw [e52]; skip
              subst q52
              refine lv_lstore_n (lv' := [(1, .long (31 * (d_set N (d_cnt N n (v 2) 11) k) + (N 0 k).toInt64)), (0, .ref (a 0)), (3, .int (nI k))]) hx hb dX5_digest_56 rfl hl (by decide) rfl (fun ls hl => ?_)
              refine lv_iinc (v := nI (k + 1)) (lv' := [(3, .int (nI (k + 1))), (1, .long (31 * (d_set N (d_cnt N n (v 2) 11) k) + (N 0 k).toInt64)), (0, .ref (a 0))]) hx hb dX5_digest_57 hl (k := 2) rfl (nI_1 _) (by decide) rfl (fun ls hl => ?_)
              refine lv_goto (tgt := 38) hx hb dX5_digest_60 (by decide) ?_
              have hl : lv_has ls 5 [(0, .ref (a 0)), (1, .long (31 * (d_set N (d_cnt N n (v 2) 11) k) + (N 0 k).toInt64)), (3, .int (nI (k + 1)))] := lv_sub hl [2, 1, 0] rfl
              have hl : lv_has ls 5 [(0, .ref (a 0)), (1, .long (d_set N (d_cnt N n (v 2) 11) (k + 1))), (3, .int (nI (k + 1)))] := hl
              have hP : va_P D vwCl (mdW cI a N P T U (d_v1 N n (us v 5 0) 11)) H := hP
              have hD : va_D (va_A (mdW cI a N P T U v) s.heap.size) (mdW cI a N P T U (d_v1 N n (us v 5 0) 11)) := hD
              exact ih3 (k + 1) (by omega) (by omega) H locs hP hD hS hS.1 ls hl
        have hl : lv_has ls 5 [(0, .ref (a 0)), (1, .long (d_cnt N n (v 2) 11)), (3, .int 0)] := lv_sub hl [1, 2, 0] rfl
        have hl : lv_has ls 5 [(0, .ref (a 0)), (1, .long (d_set N (d_cnt N n (v 2) 11) 0)), (3, .int (nI 0))] := hl
        have hP : va_P D vwCl (mdW cI a N P T U (d_v1 N n (us v 5 0) 11)) H := hP
        have hD : va_D (va_A (mdW cI a N P T U v) s.heap.size) (mdW cI a N P T U (d_v1 N n (us v 5 0) 11)) := hD
        exact L3 (3 - 0 + 1) 0 (by omega) (by omega) H locs hP hD hS hS.1 ls hl
      · have c2' := Int32.not_le.mp c2
        have hkn : k < 11 := k_more (n := 11) (by omega) hv1 c2
        refine lv_ldc2 (v := 31) hx hb hown (hts _ wd_constantLong_RX5_172_31) dX5_digest_17 ?_
        refine lv_lload_n hx hb dX5_digest_20 rfl (lv_at hl 1 rfl) ?_
        refine lv_lmul hx hb dX5_digest_21 (lv_topl (fun x56 e56 => ?_))
        have q56 : x56 = 31 * (d_cnt N n (v 2) k) := by rw [e56]; skip
        subst q56
        refine lv_aload_n hx hb dX5_digest_22 rfl (lv_at hl 0 rfl) ?_
        refine lv_iload_n hx hb dX5_digest_23 rfl (lv_at hl 2 rfl) ?_
        refine k_miV (As := [.int (nI k)]) (rest := [.long (31 * (d_cnt N n (v 2) k))]) (w1 := []) (wc := mdW cI a N P T U (d_v1 N n (us v 5 0) k)) (wc' := mdW cI a N P T U (us (us (us (d_v1 N n (us v 5 0) k) 11 (m_cl N n (d_v1 N n (us v 5 0) k) k 0)) 12 (m_cl N n (d_v1 N n (us v 5 0) k) k 1)) 13 (m_cl N n (d_v1 N n (us v 5 0) k) k 2))) (w3 := []) ⟨hx, hb, hml, hown, hts⟩ (c_X5_counted l D cI cS cL a N P T U (d_v1 N n (us v 5 0) k) _ n k hn hn14 (by omega) hd0) lkX5_150 rfl rfl ⟨(Nat.le_of_ble_eq_true rfl), (Nat.le_of_ble_eq_true rfl)⟩ (va_recv hK hP (ci := 4) (q0 := 0) rfl rfl) hK hE hP hD hS hA rfl rfl hl.1 rfl (Nat.le_of_ble_eq_true rfl) dX5_digest_24 ⟨Nat.zero_le _, Nat.zero_le _⟩ (fun H locs hzz hP hD hS => ?_)
        have hP : va_P D vwCl (mdW cI a N P T U (us (us (us (d_v1 N n (us v 5 0) k) 11 (m_cl N n (d_v1 N n (us v 5 0) k) k 0)) 12 (m_cl N n (d_v1 N n (us v 5 0) k) k 1)) 13 (m_cl N n (d_v1 N n (us v 5 0) k) k 2))) H := hP
        have hD : va_D (va_A (mdW cI a N P T U v) s.heap.size) (mdW cI a N P T U (us (us (us (d_v1 N n (us v 5 0) k) 11 (m_cl N n (d_v1 N n (us v 5 0) k) k 0)) 12 (m_cl N n (d_v1 N n (us v 5 0) k) k 1)) 13 (m_cl N n (d_v1 N n (us v 5 0) k) k 2))) := hD
        rw [show p_count N n ((d_v1 N n (us v 5 0) k) 2) k = p_count N n (v 2) k from (by rw [d_v1_lo _ _ _ (by decide)]; rfl)]
        refine lv_i2l (v := (p_count N n (v 2) k).toInt64) hx hb dX5_digest_27 rfl ?_
        refine lv_ladd hx hb dX5_digest_28 (lv_topl (fun x57 e57 => ?_))
        have q57 : x57 = 31 * (d_cnt N n (v 2) k) + (p_count N n (v 2) k).toInt64 := by rw [e57]; skip
        subst q57
        refine lv_lstore_n (lv' := [(1, .long (31 * (d_cnt N n (v 2) k) + (p_count N n (v 2) k).toInt64)), (0, .ref (a 0)), (3, .int (nI k))]) hx hb dX5_digest_29 rfl hl (by decide) rfl (fun ls hl => ?_)
        refine lv_iinc (v := nI (k + 1)) (lv' := [(3, .int (nI (k + 1))), (1, .long (31 * (d_cnt N n (v 2) k) + (p_count N n (v 2) k).toInt64)), (0, .ref (a 0))]) hx hb dX5_digest_30 hl (k := 2) rfl (nI_1 _) (by decide) rfl (fun ls hl => ?_)
        refine lv_goto (tgt := 11) hx hb dX5_digest_33 (by decide) ?_
        have hl : lv_has ls 5 [(0, .ref (a 0)), (1, .long (31 * (d_cnt N n (v 2) k) + (p_count N n (v 2) k).toInt64)), (3, .int (nI (k + 1)))] := lv_sub hl [2, 1, 0] rfl
        have hl : lv_has ls 5 [(0, .ref (a 0)), (1, .long (d_cnt N n (v 2) (k + 1))), (3, .int (nI (k + 1)))] := hl
        have hP : va_P D vwCl (mdW cI a N P T U (d_v1 N n (us v 5 0) (k + 1))) H := hP
        have hD : va_D (va_A (mdW cI a N P T U v) s.heap.size) (mdW cI a N P T U (d_v1 N n (us v 5 0) (k + 1))) := hD
        exact ih1 (k + 1) (by omega) (by omega) H locs hP hD hS hS.1 ls hl
  have hl : lv_has ls 5 [(0, .ref (a 0)), (1, .long 3271), (3, .int 0)] := lv_sub hl [2, 1, 0] rfl
  have hl : lv_has ls 5 [(0, .ref (a 0)), (1, .long (d_cnt N n (v 2) 0)), (3, .int (nI 0))] := hl
  have hP : va_P D vwCl (mdW cI a N P T U (d_v1 N n (us v 5 0) 0)) H := hP
  have hD : va_D (va_A (mdW cI a N P T U v) s.heap.size) (mdW cI a N P T U (d_v1 N n (us v 5 0) 0)) := hD
  exact L1 (11 - 0 + 1) 0 (by omega) (by omega) H locs hP hD hS hS.1 ls hl
