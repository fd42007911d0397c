abbrev rmX5_saves : Room := { frames := 0, cells := 0, slots := 0, locals := 0 }
set_option maxHeartbeats 4000000 in
set_option maxRecDepth 100000 in
theorem c_X5_saves (l : Launch) (D : va_G) (cI cS cL : ClassId) (a : Nat → Nat) (N : NN) (P T U v : Nat → Int32) (sz : Nat) (kc : Nat) (hc : v 2 = nI kc) (hc6 : kc ≤ 6) : Met l yX5_saves (wy_ yX5_saves cX5_saves 2 none) rmX5_saves (kPc D (kTy cI cS cL) (mdW cI a N P T U v) sz [.ref (a 0)]) (kMv D (mdW cI a N P T U v) (mdW cI a N (m_sv P (flat N) kc) T U (us v 2 (nI (m_kc kc)))) sz) 0 0 (va_A (mdW cI a N P T U v) sz) := by
  refine k_ofW (by decide) (Nat.le_of_ble_eq_true rfl) ?_
  intro p e s m args below meth c hx hb hr hml hts hown hlocks hnm hsz hP hK hD hE ls hl
  subst hsz
  have hA : ∀ q : Nat, s.heap.size ≤ q → (va_A (mdW cI a N P T U v) s.heap.size) q := fun q h => Or.inr h
  have hS : va_S (va_A (mdW cI a N P T U v) s.heap.size) s.heap s.heap [] := va_S.rf
  have hl : lv_has ls 2 [(0, .ref (a 0))] := hl
  refine lv_aload_n hx hb dX5_saves_0 rfl (lv_at hl 0 rfl) ?_
  refine g5 hx hb hts hown hK hP 0 rfl 2 (by decide) flX5_30 (fun _ h => h) (v := .int (nI kc)) (by rw [← hc]; rfl) dX5_saves_1 ?_
  refine lv_bipush (v := 6) hx hb dX5_saves_4 (by decide) ?_
  refine lv_icmp_ne (tgt := 49) hx hb dX5_saves_6 (by decide) (fun c1 => ?_) (fun c1 => ?_)
  · have hcn : ¬ kc = 6 := fun h => c1 (by rw [h]; rfl)
    refine lv_iconst (v := 0) hx hb dX5_saves_49 (by decide) ?_
    refine lv_istore_n (lv' := [(1, .int 0), (0, .ref (a 0))]) hx hb dX5_saves_50 rfl hl (by decide) rfl (fun ls hl => ?_)
    have L2 : ∀ (f k : Nat), k ≤ 124 → 124 - k < f → ∀ (H : Heap) (locs : List Loc), va_P D vwCl (mdW cI a N (m_cp P (124 * kc) (flat N) k) T U v) H → va_D (va_A (mdW cI a N P T U v) s.heap.size) (mdW cI a N (m_cp P (124 * kc) (flat N) k) T U v) → va_S (va_A (mdW cI a N P T U v) s.heap.size) s.heap H locs → s.heap.size ≤ H.size → ∀ ls : Array Slot, lv_has ls 2 [(0, .ref (a 0)), (1, .int (nI k))] → W p l e rmX5_saves s m args below meth c H locs 0 0 (MQ below (kMv D (mdW cI a N P T U v) (mdW cI a N (m_sv P (flat N) kc) T U (us v 2 (nI (m_kc kc)))) s.heap.size) args s 0 0 (va_A (mdW cI a N P T U v) s.heap.size)) (F0 m 51 ls []) := by
      intro f
      induction f with
      | zero => intro k hv1 hv2; exact absurd hv2 (Nat.not_lt_zero _)
      | succ f ih =>
        intro k hv1 hv2 H locs hP hD hS hz ls hl
        refine lv_iload_n hx hb dX5_saves_51 rfl (lv_at hl 1 rfl) ?_
        refine lv_bipush (v := 124) hx hb dX5_saves_52 (by decide) ?_
        refine lv_icmp_ge (tgt := 83) hx hb dX5_saves_54 (by decide) (fun c3 => ?_) (fun c3 => ?_)
        · have c3' := Int32.not_lt.mpr c3
          have hkn : k = 124 := k_exit (n := 124) (by omega) hv1 c3
          subst hkn
          refine lv_aload_n hx hb dX5_saves_83 rfl (lv_at hl 0 rfl) ?_
          refine lv_dup hx hb dX5_saves_84 rfl ?_
          refine g5 hx hb hts hown hK hP 0 rfl 2 (by decide) flX5_30 (fun _ h => h) (v := .int (nI kc)) (by rw [← hc]; rfl) dX5_saves_85 ?_
          refine lv_iconst (v := 1) hx hb dX5_saves_88 (by decide) ?_
          refine lv_iadd hx hb dX5_saves_89 (lv_topi (fun x4 e4 => ?_))
          have q4 : x4 = nI (kc + 1) := by rw [e4]; exact nI_1 kc
          subst q4
          refine f5 hx hb hts hown hK hP hD hS 0 rfl 2 (by decide) flX5_30 (fun _ h => h) rfl rfl rfl (Nat.le_of_ble_eq_true rfl) dX5_saves_90 (fun H locs hP hD hS => ?_)
          have hP : va_P D vwCl (mdW cI a N (m_cp P (124 * kc) (flat N) 124) T U (us v 2 (nI (kc + 1)))) H := hP
          have hD : va_D (va_A (mdW cI a N P T U v) s.heap.size) (mdW cI a N (m_cp P (124 * kc) (flat N) 124) T U (us v 2 (nI (kc + 1)))) := hD
          have w5 : (m_cp P (124 * kc) (flat N) 124) = (m_sv P (flat N) kc) := by simp [m_sv, m_kc, hcn]
          have hP : va_P D vwCl (mdW cI a N (m_sv P (flat N) kc) T U (us v 2 (nI (kc + 1)))) H := (congrArg (fun zz => va_P D vwCl (mdW cI a N zz T U (us v 2 (nI (kc + 1)))) H) w5).mp hP
          have hD : va_D (va_A (mdW cI a N P T U v) s.heap.size) (mdW cI a N (m_sv P (flat N) kc) T U (us v 2 (nI (kc + 1)))) := (congrArg (fun zz => va_D (va_A (mdW cI a N P T U v) s.heap.size) (mdW cI a N zz T U (us v 2 (nI (kc + 1))))) w5).mp hD
          have w6 : (us v 2 (nI (kc + 1))) = (us v 2 (nI (m_kc kc))) := by simp [m_sv, m_kc, hcn]
          have hP : va_P D vwCl (mdW cI a N (m_sv P (flat N) kc) T U (us v 2 (nI (m_kc kc)))) H := (congrArg (fun zz => va_P D vwCl (mdW cI a N (m_sv P (flat N) kc) T U zz) H) w6).mp hP
          have hD : va_D (va_A (mdW cI a N P T U v) s.heap.size) (mdW cI a N (m_sv P (flat N) kc) T U (us v 2 (nI (m_kc kc)))) := (congrArg (fun zz => va_D (va_A (mdW cI a N P T U v) s.heap.size) (mdW cI a N (m_sv P (flat N) kc) T U zz)) w6).mp hD
          have hP : va_P D vwCl (mdW cI a N (m_sv P (flat N) kc) T U (us v 2 (nI (m_kc kc)))) H := hP
          have hD : va_D (va_A (mdW cI a N P T U v) s.heap.size) (mdW cI a N (m_sv P (flat N) kc) T U (us v 2 (nI (m_kc kc)))) := hD
          exact k_eMv hx hb hr hlocks hP hS dX5_saves_93
        · have c3' := Int32.not_le.mp c3
          have hkn : k < 124 := k_more (n := 124) (by omega) hv1 c3
          refine lv_aload_n hx hb dX5_saves_57 rfl (lv_at hl 0 rfl) ?_
          refine g5 hx hb hts hown hK hP 0 rfl 1 (by decide) flX5_13 (fun _ h => h) (v := .ref (a 2)) rfl dX5_saves_58 ?_
          refine lv_bipush (v := 124) hx hb dX5_saves_61 (by decide) ?_
          refine lv_aload_n hx hb dX5_saves_63 rfl (lv_at hl 0 rfl) ?_
          refine g5 hx hb hts hown hK hP 0 rfl 2 (by decide) flX5_30 (fun _ h => h) (v := .int (nI kc)) (by rw [← hc]; rfl) dX5_saves_64 ?_
          refine lv_imul hx hb dX5_saves_67 (lv_topi (fun x7 e7 => ?_))
          have q7 : x7 = nI (124 * kc) := by rw [e7]; exact pk_mul 124 kc
          subst q7
          refine lv_iload_n hx hb dX5_saves_68 rfl (lv_at hl 1 rfl) ?_
          refine lv_iadd hx hb dX5_saves_69 (lv_topi (fun x8 e8 => ?_))
          have q8 : x8 = nI (124 * kc + k) := by rw [e8]; exact nI_add _ k
          subst q8
          refine lv_aload_n hx hb dX5_saves_70 rfl (lv_at hl 0 rfl) ?_
          refine g5 hx hb hts hown hK hP 0 rfl 0 (by decide) flX5_7 (fun _ h => h) (v := .ref (a 1)) rfl dX5_saves_71 ?_
          refine lv_iload_n hx hb dX5_saves_74 rfl (lv_at hl 1 rfl) ?_
          refine k_ald (k := k) hx hb hK hP 1 0 rfl rfl rfl (by omega) (by decide) dX5_saves_75 ?_
          refine k_ast (k := 124 * kc + k) hx hb hK hP hD hS 2 0 rfl rfl rfl (by omega) (by decide) dX5_saves_76 (fun H locs hP hD hS => ?_)
          have hP : va_P D vwCl (mdW cI a N (upd (m_cp P (124 * kc) (flat N) k) (124 * kc + k) (flat N k)) T U v) H := hP
          have hD : va_D (va_A (mdW cI a N P T U v) s.heap.size) (mdW cI a N (upd (m_cp P (124 * kc) (flat N) k) (124 * kc + k) (flat N k)) T U v) := hD
          refine lv_iinc (v := nI (k + 1)) (lv' := [(1, .int (nI (k + 1))), (0, .ref (a 0))]) hx hb dX5_saves_77 hl (k := 1) rfl (nI_1 _) (by decide) rfl (fun ls hl => ?_)
          refine lv_goto (tgt := 51) hx hb dX5_saves_80 (by decide) ?_
          have hl : lv_has ls 2 [(0, .ref (a 0)), (1, .int (nI (k + 1)))] := lv_sub hl [1, 0] rfl
          have hl : lv_has ls 2 [(0, .ref (a 0)), (1, .int (nI (k + 1)))] := hl
          have w9 : (upd (m_cp P (124 * kc) (flat N) k) (124 * kc + k) (flat N k)) = (m_cp P (124 * kc) (flat N) (k + 1)) := by exact m_cp_s _ _ _ k
          have hP : va_P D vwCl (mdW cI a N (m_cp P (124 * kc) (flat N) (k + 1)) T U v) H := (congrArg (fun zz => va_P D vwCl (mdW cI a N zz T U v) H) w9).mp hP
          have hD : va_D (va_A (mdW cI a N P T U v) s.heap.size) (mdW cI a N (m_cp P (124 * kc) (flat N) (k + 1)) T U v) := (congrArg (fun zz => va_D (va_A (mdW cI a N P T U v) s.heap.size) (mdW cI a N zz T U v)) w9).mp hD
          have hP : va_P D vwCl (mdW cI a N (m_cp P (124 * kc) (flat N) (k + 1)) T U v) H := hP
          have hD : va_D (va_A (mdW cI a N P T U v) s.heap.size) (mdW cI a N (m_cp P (124 * kc) (flat N) (k + 1)) T U v) := hD
          exact ih (k + 1) (by omega) (by omega) H locs hP hD hS hS.1 ls hl
    have hl : lv_has ls 2 [(0, .ref (a 0)), (1, .int 0)] := lv_sub hl [1, 0] rfl
    have hl : lv_has ls 2 [(0, .ref (a 0)), (1, .int (nI 0))] := hl
    have w11 : P = (m_cp P (124 * kc) (flat N) 0) := by exact m_cp_0 _ _ _
    have hP : va_P D vwCl (mdW cI a N (m_cp P (124 * kc) (flat N) 0) T U v) s.heap := (congrArg (fun zz => va_P D vwCl (mdW cI a N zz T U v) s.heap) w11).mp hP
    have hD : va_D (va_A (mdW cI a N P T U v) s.heap.size) (mdW cI a N (m_cp P (124 * kc) (flat N) 0) T U v) := (congrArg (fun zz => va_D (va_A (mdW cI a N P T U v) s.heap.size) (mdW cI a N zz T U v)) w11).mp hD
    have hP : va_P D vwCl (mdW cI a N (m_cp P (124 * kc) (flat N) 0) T U v) s.heap := hP
    have hD : va_D (va_A (mdW cI a N P T U v) s.heap.size) (mdW cI a N (m_cp P (124 * kc) (flat N) 0) T U v) := hD
    exact L2 (124 - 0 + 1) 0 (by omega) (by omega) s.heap [] hP hD hS (Nat.le_refl _) ls hl
  · have hc6 : kc = 6 := (nI_eq (a := kc) (b := 6) (by omega) (by omega)).mp c1
    subst hc6
    refine lv_iconst (v := 0) hx hb dX5_saves_9 (by decide) ?_
    refine lv_istore_n (lv' := [(1, .int 0), (0, .ref (a 0))]) hx hb dX5_saves_10 rfl hl (by decide) rfl (fun ls hl => ?_)
    have L12 : ∀ (f k : Nat), k ≤ 620 → 620 - k < f → ∀ (H : Heap) (locs : List Loc), va_P D vwCl (mdW cI a N (m_sh P k) T U v) H → va_D (va_A (mdW cI a N P T U v) s.heap.size) (mdW cI a N (m_sh P k) T U v) → va_S (va_A (mdW cI a N P T U v) s.heap.size) s.heap H locs → s.heap.size ≤ H.size → ∀ ls : Array Slot, lv_has ls 2 [(0, .ref (a 0)), (1, .int (nI k))] → W p l e rmX5_saves s m args below meth c H locs 0 0 (MQ below (kMv D (mdW cI a N P T U v) (mdW cI a N (m_sv P (flat N) 6) T U (us v 2 (nI (m_kc 6)))) s.heap.size) args s 0 0 (va_A (mdW cI a N P T U v) s.heap.size)) (F0 m 11 ls []) := by
      intro f
      induction f with
      | zero => intro k hv1 hv2; exact absurd hv2 (Nat.not_lt_zero _)
      | succ f ih =>
        intro k hv1 hv2 H locs hP hD hS hz ls hl
        refine lv_iload_n hx hb dX5_saves_11 rfl (lv_at hl 1 rfl) ?_
        refine lv_sipush (v := 620) hx hb dX5_saves_12 (by decide) ?_
        refine lv_icmp_ge (tgt := 39) hx hb dX5_saves_15 (by decide) (fun c13 => ?_) (fun c13 => ?_)
        · have c13' := Int32.not_lt.mpr c13
          have hkn : k = 620 := k_exit (n := 620) (by omega) hv1 c13
          subst hkn
          refine lv_aload_n hx hb dX5_saves_39 rfl (lv_at hl 0 rfl) ?_
          refine lv_dup hx hb dX5_saves_40 rfl ?_
          refine g5 hx hb hts hown hK hP 0 rfl 2 (by decide) flX5_30 (fun _ h => h) (v := .int (nI 6)) (by rw [← hc]; rfl) dX5_saves_41 ?_
          refine lv_iconst (v := 1) hx hb dX5_saves_44 (by decide) ?_
          refine lv_isub hx hb dX5_saves_45 (lv_topi (fun x14 e14 => ?_))
          have q14 : x14 = nI 5 := by rw [e14]; decide
          subst q14
          refine f5 hx hb hts hown hK hP hD hS 0 rfl 2 (by decide) flX5_30 (fun _ h => h) rfl rfl rfl (Nat.le_of_ble_eq_true rfl) dX5_saves_46 (fun H locs hP hD hS => ?_)
          have hP : va_P D vwCl (mdW cI a N (m_sh P 620) T U (us v 2 (nI 5))) H := hP
          have hD : va_D (va_A (mdW cI a N P T U v) s.heap.size) (mdW cI a N (m_sh P 620) T U (us v 2 (nI 5))) := hD
          refine lv_iconst (v := 0) hx hb dX5_saves_49 (by decide) ?_
          refine lv_istore_n (lv' := [(1, .int 0), (0, .ref (a 0))]) hx hb dX5_saves_50 rfl hl (by decide) rfl (fun ls hl => ?_)
          have L15 : ∀ (f k : Nat), k ≤ 124 → 124 - k < f → ∀ (H : Heap) (locs : List Loc), va_P D vwCl (mdW cI a N (m_cp (m_sh P 620) (620) (flat N) k) T U (us v 2 (nI 5))) H → va_D (va_A (mdW cI a N P T U v) s.heap.size) (mdW cI a N (m_cp (m_sh P 620) (620) (flat N) k) T U (us v 2 (nI 5))) → va_S (va_A (mdW cI a N P T U v) s.heap.size) s.heap H locs → s.heap.size ≤ H.size → ∀ ls : Array Slot, lv_has ls 2 [(0, .ref (a 0)), (1, .int (nI k))] → W p l e rmX5_saves s m args below meth c H locs 0 0 (MQ below (kMv D (mdW cI a N P T U v) (mdW cI a N (m_sv P (flat N) 6) T U (us v 2 (nI (m_kc 6)))) s.heap.size) args s 0 0 (va_A (mdW cI a N P T U v) s.heap.size)) (F0 m 51 ls []) := by
            intro f
            induction f with
            | zero => intro k hv1 hv2; exact absurd hv2 (Nat.not_lt_zero _)
            | succ f ih =>
              intro k hv1 hv2 H locs hP hD hS hz ls hl
              refine lv_iload_n hx hb dX5_saves_51 rfl (lv_at hl 1 rfl) ?_
              refine lv_bipush (v := 124) hx hb dX5_saves_52 (by decide) ?_
              refine lv_icmp_ge (tgt := 83) hx hb dX5_saves_54 (by decide) (fun c16 => ?_) (fun c16 => ?_)
              · have c16' := Int32.not_lt.mpr c16
                have hkn : k = 124 := k_exit (n := 124) (by omega) hv1 c16
                subst hkn
                refine lv_aload_n hx hb dX5_saves_83 rfl (lv_at hl 0 rfl) ?_
                refine lv_dup hx hb dX5_saves_84 rfl ?_
                refine g5 hx hb hts hown hK hP 0 rfl 2 (by decide) flX5_30 (fun _ h => h) (v := .int 5) rfl dX5_saves_85 ?_
                refine lv_iconst (v := 1) hx hb dX5_saves_88 (by decide) ?_
                refine lv_iadd hx hb dX5_saves_89 (lv_topi (fun x17 e17 => ?_))
                have q17 : x17 = nI 6 := by rw [e17]; decide
                subst q17
                refine f5 hx hb hts hown hK hP hD hS 0 rfl 2 (by decide) flX5_30 (fun _ h => h) rfl rfl rfl (Nat.le_of_ble_eq_true rfl) dX5_saves_90 (fun H locs hP hD hS => ?_)
                have hP : va_P D vwCl (mdW cI a N (m_cp (m_sh P 620) (620) (flat N) 124) T U (us v 2 (nI 6))) H := hP
                have hD : va_D (va_A (mdW cI a N P T U v) s.heap.size) (mdW cI a N (m_cp (m_sh P 620) (620) (flat N) 124) T U (us v 2 (nI 6))) := hD
                have hP : va_P D vwCl (mdW cI a N (m_sv P (flat N) 6) T U (us v 2 (nI (m_kc 6)))) H := hP
                have hD : va_D (va_A (mdW cI a N P T U v) s.heap.size) (mdW cI a N (m_sv P (flat N) 6) T U (us v 2 (nI (m_kc 6)))) := hD
                exact k_eMv hx hb hr hlocks hP hS dX5_saves_93
              · have c16' := Int32.not_le.mp c16
                have hkn : k < 124 := k_more (n := 124) (by omega) hv1 c16
                refine lv_aload_n hx hb dX5_saves_57 rfl (lv_at hl 0 rfl) ?_
                refine g5 hx hb hts hown hK hP 0 rfl 1 (by decide) flX5_13 (fun _ h => h) (v := .ref (a 2)) rfl dX5_saves_58 ?_
                refine lv_bipush (v := 124) hx hb dX5_saves_61 (by decide) ?_
                refine lv_aload_n hx hb dX5_saves_63 rfl (lv_at hl 0 rfl) ?_
                refine g5 hx hb hts hown hK hP 0 rfl 2 (by decide) flX5_30 (fun _ h => h) (v := .int (nI 5)) rfl dX5_saves_64 ?_
                refine lv_imul hx hb dX5_saves_67 (lv_topi (fun x20 e20 => ?_))
                have q20 : x20 = nI 620 := by rw [e20]; decide
                subst q20
                refine lv_iload_n hx hb dX5_saves_68 rfl (lv_at hl 1 rfl) ?_
                refine lv_iadd hx hb dX5_saves_69 (lv_topi (fun x21 e21 => ?_))
                have q21 : x21 = nI (620 + k) := by rw [e21]; exact nI_add _ k
                subst q21
                refine lv_aload_n hx hb dX5_saves_70 rfl (lv_at hl 0 rfl) ?_
                refine g5 hx hb hts hown hK hP 0 rfl 0 (by decide) flX5_7 (fun _ h => h) (v := .ref (a 1)) rfl dX5_saves_71 ?_
                refine lv_iload_n hx hb dX5_saves_74 rfl (lv_at hl 1 rfl) ?_
                refine k_ald (k := k) hx hb hK hP 1 0 rfl rfl rfl (by omega) (by decide) dX5_saves_75 ?_
                refine k_ast (k := 620 + k) hx hb hK hP hD hS 2 0 rfl rfl rfl (by omega) (by decide) dX5_saves_76 (fun H locs hP hD hS => ?_)
                have hP : va_P D vwCl (mdW cI a N (upd (m_cp (m_sh P 620) (620) (flat N) k) (620 + k) (flat N k)) T U (us v 2 (nI 5))) H := hP
                have hD : va_D (va_A (mdW cI a N P T U v) s.heap.size) (mdW cI a N (upd (m_cp (m_sh P 620) (620) (flat N) k) (620 + k) (flat N k)) T U (us v 2 (nI 5))) := hD
                refine lv_iinc (v := nI (k + 1)) (lv' := [(1, .int (nI (k + 1))), (0, .ref (a 0))]) hx hb dX5_saves_77 hl (k := 1) rfl (nI_1 _) (by decide) rfl (fun ls hl => ?_)
                refine lv_goto (tgt := 51) hx hb dX5_saves_80 (by decide) ?_
                have hl : lv_has ls 2 [(0, .ref (a 0)), (1, .int (nI (k + 1)))] := lv_sub hl [1, 0] rfl
                have hl : lv_has ls 2 [(0, .ref (a 0)), (1, .int (nI (k + 1)))] := hl
                have w22 : (upd (m_cp (m_sh P 620) (620) (flat N) k) (620 + k) (flat N k)) = (m_cp (m_sh P 620) (620) (flat N) (k + 1)) := by exact m_cp_s _ _ _ k
                have hP : va_P D vwCl (mdW cI a N (m_cp (m_sh P 620) (620) (flat N) (k + 1)) T U (us v 2 (nI 5))) H := (congrArg (fun zz => va_P D vwCl (mdW cI a N zz T U (us v 2 (nI 5))) H) w22).mp hP
                have hD : va_D (va_A (mdW cI a N P T U v) s.heap.size) (mdW cI a N (m_cp (m_sh P 620) (620) (flat N) (k + 1)) T U (us v 2 (nI 5))) := (congrArg (fun zz => va_D (va_A (mdW cI a N P T U v) s.heap.size) (mdW cI a N zz T U (us v 2 (nI 5)))) w22).mp hD
                have hP : va_P D vwCl (mdW cI a N (m_cp (m_sh P 620) (620) (flat N) (k + 1)) T U (us v 2 (nI 5))) H := hP
                have hD : va_D (va_A (mdW cI a N P T U v) s.heap.size) (mdW cI a N (m_cp (m_sh P 620) (620) (flat N) (k + 1)) T U (us v 2 (nI 5))) := hD
                exact ih (k + 1) (by omega) (by omega) H locs hP hD hS hS.1 ls hl
          have hl : lv_has ls 2 [(0, .ref (a 0)), (1, .int 0)] := lv_sub hl [1, 0] rfl
          have hl : lv_has ls 2 [(0, .ref (a 0)), (1, .int (nI 0))] := hl
          have w24 : (m_sh P 620) = (m_cp (m_sh P 620) (620) (flat N) 0) := by exact m_cp_0 _ _ _
          have hP : va_P D vwCl (mdW cI a N (m_cp (m_sh P 620) (620) (flat N) 0) T U (us v 2 (nI 5))) H := (congrArg (fun zz => va_P D vwCl (mdW cI a N zz T U (us v 2 (nI 5))) H) w24).mp hP
          have hD : va_D (va_A (mdW cI a N P T U v) s.heap.size) (mdW cI a N (m_cp (m_sh P 620) (620) (flat N) 0) T U (us v 2 (nI 5))) := (congrArg (fun zz => va_D (va_A (mdW cI a N P T U v) s.heap.size) (mdW cI a N zz T U (us v 2 (nI 5)))) w24).mp hD
          have hP : va_P D vwCl (mdW cI a N (m_cp (m_sh P 620) (620) (flat N) 0) T U (us v 2 (nI 5))) H := hP
          have hD : va_D (va_A (mdW cI a N P T U v) s.heap.size) (mdW cI a N (m_cp (m_sh P 620) (620) (flat N) 0) T U (us v 2 (nI 5))) := hD
          exact L15 (124 - 0 + 1) 0 (by omega) (by omega) H locs hP hD hS hS.1 ls hl
        · have c13' := Int32.not_le.mp c13
          have hkn : k < 620 := k_more (n := 620) (by omega) hv1 c13
          refine lv_aload_n hx hb dX5_saves_18 rfl (lv_at hl 0 rfl) ?_
          refine g5 hx hb hts hown hK hP 0 rfl 1 (by decide) flX5_13 (fun _ h => h) (v := .ref (a 2)) rfl dX5_saves_19 ?_
          refine lv_iload_n hx hb dX5_saves_22 rfl (lv_at hl 1 rfl) ?_
          refine lv_aload_n hx hb dX5_saves_23 rfl (lv_at hl 0 rfl) ?_
          refine g5 hx hb hts hown hK hP 0 rfl 1 (by decide) flX5_13 (fun _ h => h) (v := .ref (a 2)) rfl dX5_saves_24 ?_
          refine lv_iload_n hx hb dX5_saves_27 rfl (lv_at hl 1 rfl) ?_
          refine lv_bipush (v := 124) hx hb dX5_saves_28 (by decide) ?_
          refine lv_iadd hx hb dX5_saves_30 (lv_topi (fun x25 e25 => ?_))
          have q25 : x25 = nI (k + 124) := by rw [e25]; exact nI_add k 124
          subst q25
          refine k_ald (k := k + 124) hx hb hK hP 2 0 rfl rfl rfl (by omega) (by decide) dX5_saves_31 ?_
          rw [show (m_sh P k) (k + 124) = P (k + 124) from (m_sh_at P k)]
          refine k_ast (k := k) hx hb hK hP hD hS 2 0 rfl rfl rfl (by omega) (by decide) dX5_saves_32 (fun H locs hP hD hS => ?_)
          have hP : va_P D vwCl (mdW cI a N (upd (m_sh P k) k (P (k + 124))) T U v) H := hP
          have hD : va_D (va_A (mdW cI a N P T U v) s.heap.size) (mdW cI a N (upd (m_sh P k) k (P (k + 124))) T U v) := hD
          refine lv_iinc (v := nI (k + 1)) (lv' := [(1, .int (nI (k + 1))), (0, .ref (a 0))]) hx hb dX5_saves_33 hl (k := 1) rfl (nI_1 _) (by decide) rfl (fun ls hl => ?_)
          refine lv_goto (tgt := 11) hx hb dX5_saves_36 (by decide) ?_
          have hl : lv_has ls 2 [(0, .ref (a 0)), (1, .int (nI (k + 1)))] := lv_sub hl [1, 0] rfl
          have hl : lv_has ls 2 [(0, .ref (a 0)), (1, .int (nI (k + 1)))] := hl
          have w26 : (upd (m_sh P k) k (P (k + 124))) = (m_sh P (k + 1)) := by exact m_sh_s P k
          have hP : va_P D vwCl (mdW cI a N (m_sh P (k + 1)) T U v) H := (congrArg (fun zz => va_P D vwCl (mdW cI a N zz T U v) H) w26).mp hP
          have hD : va_D (va_A (mdW cI a N P T U v) s.heap.size) (mdW cI a N (m_sh P (k + 1)) T U v) := (congrArg (fun zz => va_D (va_A (mdW cI a N P T U v) s.heap.size) (mdW cI a N zz T U v)) w26).mp hD
          have hP : va_P D vwCl (mdW cI a N (m_sh P (k + 1)) T U v) H := hP
          have hD : va_D (va_A (mdW cI a N P T U v) s.heap.size) (mdW cI a N (m_sh P (k + 1)) T U v) := hD
          exact ih (k + 1) (by omega) (by omega) H locs hP hD hS hS.1 ls hl
    have hl : lv_has ls 2 [(0, .ref (a 0)), (1, .int 0)] := lv_sub hl [1, 0] rfl
    have hl : lv_has ls 2 [(0, .ref (a 0)), (1, .int (nI 0))] := hl
    have w28 : P = (m_sh P 0) := by exact m_sh_0 P
    have hP : va_P D vwCl (mdW cI a N (m_sh P 0) T U v) s.heap := (congrArg (fun zz => va_P D vwCl (mdW cI a N zz T U v) s.heap) w28).mp hP
    have hD : va_D (va_A (mdW cI a N P T U v) s.heap.size) (mdW cI a N (m_sh P 0) T U v) := (congrArg (fun zz => va_D (va_A (mdW cI a N P T U v) s.heap.size) (mdW cI a N zz T U v)) w28).mp hD
    have hP : va_P D vwCl (mdW cI a N (m_sh P 0) T U v) s.heap := hP
    have hD : va_D (va_A (mdW cI a N P T U v) s.heap.size) (mdW cI a N (m_sh P 0) T U v) := hD
    exact L12 (620 - 0 + 1) 0 (by omega) (by omega) s.heap [] hP hD hS (Nat.le_refl _) ls hl

abbrev rmX5_undo : Room := { frames := 1, cells := 0, slots := 0, locals := 21 }
set_option maxHeartbeats 4000000 in
set_option maxRecDepth 100000 in
theorem c_X5_undo (l : Launch) (D : va_G) (cI cS cL : ClassId) (a : Nat → Nat) (N : NN) (P T U v : Nat → Int32) (sz : Nat) (kc : Nat) (M : NN) (hc : v 2 = nI kc) (hc6 : kc ≤ 6) (hM : ∀ kp, kc = kp + 1 → ∀ j, j < 124 → P (124 * kp + j) = flat M j) : Met l yX5_undo (wy_ yX5_undo cX5_undo 2 (some .int)) rmX5_undo (kPc D (kTy cI cS cL) (mdW cI a N P T U v) sz [.ref (a 0)]) (kMi D (mdW cI a N P T U v) (mdW cI a (if kc = 0 then N else M) P T U (us (us v 2 (nI (kc - 1))) 5 (if kc = 0 then 1 else 0))) sz (if kc = 0 then 0 else nI (kc - 1))) 0 0 (va_A (mdW cI a N P T U v) sz) := by
  refine k_ofW (by decide) (Nat.le_of_ble_eq_true rfl) ?_
  intro p e s m args below meth c hx hb hr hml hts hown hlocks hnm hsz hP hK hD hE ls hl
  subst hsz
  have hA : ∀ q : Nat, s.heap.size ≤ q → (va_A (mdW cI a N P T U v) s.heap.size) q := fun q h => Or.inr h
  have hS : va_S (va_A (mdW cI a N P T U v) s.heap.size) s.heap s.heap [] := va_S.rf
  have hl : lv_has ls 2 [(0, .ref (a 0))] := hl
  refine lv_aload_n hx hb dX5_undo_0 rfl (lv_at hl 0 rfl) ?_
  refine lv_iconst (v := 0) hx hb dX5_undo_1 (by decide) ?_
  refine f5 hx hb hts hown hK hP hD hS 0 rfl 5 (by decide) flX5_22 (fun _ h => h) rfl rfl rfl (Nat.le_of_ble_eq_true rfl) dX5_undo_2 (fun H locs hP hD hS => ?_)
  have hP : va_P D vwCl (mdW cI a N P T U (us v 5 0)) H := hP
  have hD : va_D (va_A (mdW cI a N P T U v) s.heap.size) (mdW cI a N P T U (us v 5 0)) := hD
  refine lv_aload_n hx hb dX5_undo_5 rfl (lv_at hl 0 rfl) ?_
  refine g5 hx hb hts hown hK hP 0 rfl 2 (by decide) flX5_30 (fun _ h => h) (v := .int (nI kc)) (by rw [← hc]; rfl) dX5_undo_6 ?_
  refine lv_if_ne (tgt := 18) hx hb dX5_undo_9 (by decide) (fun c1 => ?_) (fun c1 => ?_)
  · obtain ⟨kp, hc1⟩ : ∃ kp, kc = kp + 1 := ⟨kc - 1, by have : ¬ kc = 0 := fun h => c1 (by rw [h]; rfl); omega⟩
    subst hc1
    refine lv_aload_n hx hb dX5_undo_18 rfl (lv_at hl 0 rfl) ?_
    refine lv_dup hx hb dX5_undo_19 rfl ?_
    refine g5 hx hb hts hown hK hP 0 rfl 2 (by decide) flX5_30 (fun _ h => h) (v := .int (nI (kp + 1))) (by rw [← hc]; rfl) dX5_undo_20 ?_
    refine lv_iconst (v := 1) hx hb dX5_undo_23 (by decide) ?_
    refine lv_isub hx hb dX5_undo_24 (lv_topi (fun x2 e2 => ?_))
    have q2 : x2 = nI kp := by rw [e2]; exact nI_pred kp
    subst q2
    refine f5 hx hb hts hown hK hP hD hS 0 rfl 2 (by decide) flX5_30 (fun _ h => h) rfl rfl rfl (Nat.le_of_ble_eq_true rfl) dX5_undo_25 (fun H locs hP hD hS => ?_)
    have hP : va_P D vwCl (mdW cI a N P T U (us (us v 2 (nI kp)) 5 0)) H := hP
    have hD : va_D (va_A (mdW cI a N P T U v) s.heap.size) (mdW cI a N P T U (us (us v 2 (nI kp)) 5 0)) := hD
    have hP : va_P D vwCl (mdF cI a (flat N) P T U (us (us v 2 (nI kp)) 5 0)) H := hP
    have hD : va_D (va_A (mdW cI a N P T U v) s.heap.size) (mdF cI a (flat N) P T U (us (us v 2 (nI kp)) 5 0)) := hD
    refine lv_iconst (v := 0) hx hb dX5_undo_28 (by decide) ?_
    refine lv_istore_n (lv' := [(1, .int 0), (0, .ref (a 0))]) hx hb dX5_undo_29 rfl hl (by decide) rfl (fun ls hl => ?_)
    have L3 : ∀ (f k : Nat), k ≤ 124 → 124 - k < f → ∀ (H : Heap) (locs : List Loc), va_P D vwCl (mdF cI a (m_ud (flat N) (fun q => P (124 * kp + q)) k) P T U (us (us v 2 (nI kp)) 5 0)) H → va_D (va_A (mdW cI a N P T U v) s.heap.size) (mdF cI a (m_ud (flat N) (fun q => P (124 * kp + q)) k) P T U (us (us v 2 (nI kp)) 5 0)) → va_S (va_A (mdW cI a N P T U v) s.heap.size) s.heap H locs → s.heap.size ≤ H.size → ∀ ls : Array Slot, lv_has ls 2 [(0, .ref (a 0)), (1, .int (nI k))] → W p l e rmX5_undo s m args below meth c H locs 0 0 (MQ below (kMi D (mdW cI a N P T U v) (mdW cI a (if (kp + 1) = 0 then N else M) P T U (us (us v 2 (nI ((kp + 1) - 1))) 5 (if (kp + 1) = 0 then 1 else 0))) s.heap.size (if (kp + 1) = 0 then 0 else nI ((kp + 1) - 1))) args s 0 0 (va_A (mdW cI a N P T U v) s.heap.size)) (F0 m 30 ls []) := by
      intro f
      induction f with
      | zero => intro k hv1 hv2; exact absurd hv2 (Nat.not_lt_zero _)
      | succ f ih =>
        intro k hv1 hv2 H locs hP hD hS hz ls hl
        refine lv_iload_n hx hb dX5_undo_30 rfl (lv_at hl 1 rfl) ?_
        refine lv_bipush (v := 124) hx hb dX5_undo_31 (by decide) ?_
        refine lv_icmp_ge (tgt := 62) hx hb dX5_undo_33 (by decide) (fun c4 => ?_) (fun c4 => ?_)
        · have c4' := Int32.not_lt.mpr c4
          have hkn : k = 124 := k_exit (n := 124) (by omega) hv1 c4
          subst hkn
          have hP : va_P D vwCl (mdW cI a M P T U (us (us v 2 (nI kp)) 5 0)) H := mdF_P (g := flat M) (fun j hj => (if_pos hj).trans (hM kp rfl j hj)) hP
          have hD : va_D (va_A (mdW cI a N P T U v) s.heap.size) (mdW cI a M P T U (us (us v 2 (nI kp)) 5 0)) := va_D_same (by rfl) hD
          refine lv_aload_n hx hb dX5_undo_62 rfl (lv_at hl 0 rfl) ?_
          refine g5 hx hb hts hown hK hP 0 rfl 2 (by decide) flX5_30 (fun _ h => h) (v := .int (nI kp)) rfl dX5_undo_63 ?_
          have hP : va_P D vwCl (mdW cI a (if (kp + 1) = 0 then N else M) P T U (us (us v 2 (nI ((kp + 1) - 1))) 5 (if (kp + 1) = 0 then 1 else 0))) H := hP
          have hD : va_D (va_A (mdW cI a N P T U v) s.heap.size) (mdW cI a (if (kp + 1) = 0 then N else M) P T U (us (us v 2 (nI ((kp + 1) - 1))) 5 (if (kp + 1) = 0 then 1 else 0))) := hD
          exact k_eMi hx hb hr hlocks hP hS (by simp [hP, hD, c4, c4', hP, hD]) dX5_undo_66
        · have c4' := Int32.not_le.mp c4
          have hkn : k < 124 := k_more (n := 124) (by omega) hv1 c4
          refine lv_aload_n hx hb dX5_undo_36 rfl (lv_at hl 0 rfl) ?_
          refine g5 hx hb hts hown hK hP 0 rfl 0 (by decide) flX5_7 (fun _ h => h) (v := .ref (a 1)) rfl dX5_undo_37 ?_
          refine lv_iload_n hx hb dX5_undo_40 rfl (lv_at hl 1 rfl) ?_
          refine lv_aload_n hx hb dX5_undo_41 rfl (lv_at hl 0 rfl) ?_
          refine g5 hx hb hts hown hK hP 0 rfl 1 (by decide) flX5_13 (fun _ h => h) (v := .ref (a 2)) rfl dX5_undo_42 ?_
          refine lv_bipush (v := 124) hx hb dX5_undo_45 (by decide) ?_
          refine lv_aload_n hx hb dX5_undo_47 rfl (lv_at hl 0 rfl) ?_
          refine g5 hx hb hts hown hK hP 0 rfl 2 (by decide) flX5_30 (fun _ h => h) (v := .int (nI kp)) rfl dX5_undo_48 ?_
          refine lv_imul hx hb dX5_undo_51 (lv_topi (fun x7 e7 => ?_))
          have q7 : x7 = nI (124 * kp) := by rw [e7]; exact pk_mul 124 kp
          subst q7
          refine lv_iload_n hx hb dX5_undo_52 rfl (lv_at hl 1 rfl) ?_
          refine lv_iadd hx hb dX5_undo_53 (lv_topi (fun x8 e8 => ?_))
          have q8 : x8 = nI (124 * kp + k) := by rw [e8]; exact nI_add _ k
          subst q8
          refine k_ald (k := 124 * kp + k) hx hb hK hP 2 0 rfl rfl rfl (by omega) (by decide) dX5_undo_54 ?_
          refine k_ast (k := k) hx hb hK hP hD hS 1 0 rfl rfl rfl (by omega) (by decide) dX5_undo_55 (fun H locs hP hD hS => ?_)
          have hP : va_P D vwCl (mdF cI a (upd (m_ud (flat N) (fun q => P (124 * kp + q)) k) k (P (124 * kp + k))) P T U (us (us v 2 (nI kp)) 5 0)) H := hP
          have hD : va_D (va_A (mdW cI a N P T U v) s.heap.size) (mdF cI a (upd (m_ud (flat N) (fun q => P (124 * kp + q)) k) k (P (124 * kp + k))) P T U (us (us v 2 (nI kp)) 5 0)) := hD
          refine lv_iinc (v := nI (k + 1)) (lv' := [(1, .int (nI (k + 1))), (0, .ref (a 0))]) hx hb dX5_undo_56 hl (k := 1) rfl (nI_1 _) (by decide) rfl (fun ls hl => ?_)
          refine lv_goto (tgt := 30) hx hb dX5_undo_59 (by decide) ?_
          have hl : lv_has ls 2 [(0, .ref (a 0)), (1, .int (nI (k + 1)))] := lv_sub hl [1, 0] rfl
          have hl : lv_has ls 2 [(0, .ref (a 0)), (1, .int (nI (k + 1)))] := hl
          have w9 : (upd (m_ud (flat N) (fun q => P (124 * kp + q)) k) k (P (124 * kp + k))) = (m_ud (flat N) (fun q => P (124 * kp + q)) (k + 1)) := by exact m_ud_s _ (fun q => P (124 * kp + q)) k
          have hP : va_P D vwCl (mdF cI a (m_ud (flat N) (fun q => P (124 * kp + q)) (k + 1)) P T U (us (us v 2 (nI kp)) 5 0)) H := (congrArg (fun zz => va_P D vwCl (mdF cI a zz P T U (us (us v 2 (nI kp)) 5 0)) H) w9).mp hP
          have hD : va_D (va_A (mdW cI a N P T U v) s.heap.size) (mdF cI a (m_ud (flat N) (fun q => P (124 * kp + q)) (k + 1)) P T U (us (us v 2 (nI kp)) 5 0)) := (congrArg (fun zz => va_D (va_A (mdW cI a N P T U v) s.heap.size) (mdF cI a zz P T U (us (us v 2 (nI kp)) 5 0))) w9).mp hD
          have hP : va_P D vwCl (mdF cI a (m_ud (flat N) (fun q => P (124 * kp + q)) (k + 1)) P T U (us (us v 2 (nI kp)) 5 0)) H := hP
          have hD : va_D (va_A (mdW cI a N P T U v) s.heap.size) (mdF cI a (m_ud (flat N) (fun q => P (124 * kp + q)) (k + 1)) P T U (us (us v 2 (nI kp)) 5 0)) := hD
          exact ih (k + 1) (by omega) (by omega) H locs hP hD hS hS.1 ls hl
    have hl : lv_has ls 2 [(0, .ref (a 0)), (1, .int 0)] := lv_sub hl [1, 0] rfl
    have hl : lv_has ls 2 [(0, .ref (a 0)), (1, .int (nI 0))] := hl
    have w11 : (flat N) = (m_ud (flat N) (fun q => P (124 * kp + q)) 0) := by exact m_ud_0 _ _
    have hP : va_P D vwCl (mdF cI a (m_ud (flat N) (fun q => P (124 * kp + q)) 0) P T U (us (us v 2 (nI kp)) 5 0)) H := (congrArg (fun zz => va_P D vwCl (mdF cI a zz P T U (us (us v 2 (nI kp)) 5 0)) H) w11).mp hP
    have hD : va_D (va_A (mdW cI a N P T U v) s.heap.size) (mdF cI a (m_ud (flat N) (fun q => P (124 * kp + q)) 0) P T U (us (us v 2 (nI kp)) 5 0)) := (congrArg (fun zz => va_D (va_A (mdW cI a N P T U v) s.heap.size) (mdF cI a zz P T U (us (us v 2 (nI kp)) 5 0))) w11).mp hD
    have hP : va_P D vwCl (mdF cI a (m_ud (flat N) (fun q => P (124 * kp + q)) 0) P T U (us (us v 2 (nI kp)) 5 0)) H := hP
    have hD : va_D (va_A (mdW cI a N P T U v) s.heap.size) (mdF cI a (m_ud (flat N) (fun q => P (124 * kp + q)) 0) P T U (us (us v 2 (nI kp)) 5 0)) := hD
    exact L3 (124 - 0 + 1) 0 (by omega) (by omega) H locs hP hD hS hS.1 ls hl
  · have hc0 : kc = 0 := (nI_eq (a := kc) (b := 0) (by omega) (by omega)).mp c1
    subst hc0
    refine lv_aload_n hx hb dX5_undo_12 rfl (lv_at hl 0 rfl) ?_
    refine lv_iconst (v := 1) hx hb dX5_undo_13 (by decide) ?_
    refine k_miV (As := [.int 1]) (rest := []) (w1 := []) (wc := mdW cI a N P T U (us v 5 0)) (wc' := mdW cI a N P T U (us v 5 1)) (w3 := []) ⟨hx, hb, hml, hown, hts⟩ (c_X5_fails l D cI cS cL a N P T U (us v 5 0) _ 1) lkX5_33 rfl rfl ⟨(Nat.le_of_ble_eq_true rfl), (Nat.le_of_ble_eq_true rfl)⟩ (va_recv hK hP (ci := 4) (q0 := 0) rfl rfl) hK hE hP hD hS hA rfl rfl hl.1 rfl (Nat.le_of_ble_eq_true rfl) dX5_undo_14 ⟨Nat.zero_le _, Nat.zero_le _⟩ (fun H locs hzz hP hD hS => ?_)
    have hP : va_P D vwCl (mdW cI a N P T U (us v 5 1)) H := hP
    have hD : va_D (va_A (mdW cI a N P T U v) s.heap.size) (mdW cI a N P T U (us v 5 1)) := hD
    have w13 : (us v 5 1) = (us (us v 2 (nI (0 - 1))) 5 (if 0 = 0 then 1 else 0)) := by rw [show nI (0 - 1) = v 2 from hc.symm, us_v]; rfl
    have hP : va_P D vwCl (mdW cI a (if 0 = 0 then N else M) P T U (us (us v 2 (nI (0 - 1))) 5 (if 0 = 0 then 1 else 0))) H := (congrArg (fun zz => va_P D vwCl (mdW cI a (if 0 = 0 then N else M) P T U zz) H) w13).mp hP
    have hD : va_D (va_A (mdW cI a N P T U v) s.heap.size) (mdW cI a (if 0 = 0 then N else M) P T U (us (us v 2 (nI (0 - 1))) 5 (if 0 = 0 then 1 else 0))) := (congrArg (fun zz => va_D (va_A (mdW cI a N P T U v) s.heap.size) (mdW cI a (if 0 = 0 then N else M) P T U zz)) w13).mp hD
    have hP : va_P D vwCl (mdW cI a (if 0 = 0 then N else M) P T U (us (us v 2 (nI (0 - 1))) 5 (if 0 = 0 then 1 else 0))) H := hP
    have hD : va_D (va_A (mdW cI a N P T U v) s.heap.size) (mdW cI a (if 0 = 0 then N else M) P T U (us (us v 2 (nI (0 - 1))) 5 (if 0 = 0 then 1 else 0))) := hD
    exact k_eMi hx hb hr hlocks hP hS (by simp []) dX5_undo_17
