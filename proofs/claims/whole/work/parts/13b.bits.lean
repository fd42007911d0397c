abbrev rmX4_bitsOfShare : Room := { frames := 0, cells := 0, slots := 0, locals := 0 }
set_option maxHeartbeats 4000000 in
set_option maxRecDepth 100000 in
theorem c_X4_bitsOfShare (l : Launch) (D : va_G) (cI cS cL : ClassId) (sz : Nat) (dd : UInt64) (hok : if bs_z dd = true then bs_ok dd = true else dd.toInt64 = 0) : Met l yX4_bitsOfShare (wy_ yX4_bitsOfShare cX4_bitsOfShare 8 (some .long)) rmX4_bitsOfShare (kPc D (kTy cI cS cL) ([]) sz [.double dd]) (kRl (dd.toInt64)) 0 0 noF := by
  refine k_ofW (by decide) (Nat.le_of_ble_eq_true rfl) ?_
  intro p e s m args below meth c hx hb hr hml hts hown hlocks hnm hsz hP hK hD hE ls hl
  subst hsz
  have hl : lv_has ls 8 [(0, .double dd)] := hl
  refine lv_dload_n hx hb dX4_bitsOfShare_0 rfl (lv_at hl 0 rfl) ?_
  refine lv_dconst0 hx hb dX4_bitsOfShare_1 ?_
  refine lv_dcmp hx hb dX4_bitsOfShare_2 ?_
  refine lv_if_gt (tgt := 8) hx hb dX4_bitsOfShare_3 (by decide) (fun c1 => ?_) (fun c1 => ?_)
  · have c1' := Int32.not_le.mpr c1
    have hzt : bs_z dd = true := decide_eq_true c1
    have hbp := bs_parts (by rw [if_pos hzt] at hok; exact hok)
    refine lv_dload_n hx hb dX4_bitsOfShare_8 rfl (lv_at hl 0 rfl) ?_
    refine lv_dstore_n (lv' := [(2, .double dd), (0, .double dd)]) hx hb dX4_bitsOfShare_9 rfl hl (by decide) rfl (fun ls hl => ?_)
    refine lv_ldc2 (v := 1023) hx hb hown (hts _ wd_constantLong_RX4_314_1023) dX4_bitsOfShare_10 ?_
    refine lv_lstore (lv' := [(4, .long 1023), (2, .double dd), (0, .double dd)]) hx hb dX4_bitsOfShare_13 hl (by decide) rfl (fun ls hl => ?_)
    refine lv_iconst (v := 0) hx hb dX4_bitsOfShare_15 (by decide) ?_
    refine lv_istore (lv' := [(6, .int 0), (4, .long 1023), (2, .double dd), (0, .double dd)]) hx hb dX4_bitsOfShare_16 hl (by decide) rfl (fun ls hl => ?_)
    have L2 : ∀ (f k : Nat), k ≤ (bs_m dd) → (bs_m dd) - k < f → ∀ ls : Array Slot, lv_has ls 8 [(0, .double dd), (2, .double (bs_g dd k)), (4, .long (bs_e k)), (6, .int (nI k))] → W p l e rmX4_bitsOfShare s m args below meth c s.heap [] 0 0 (MQ below (kRl (dd.toInt64)) args s 0 0 noF) (F0 m 18 ls []) := by
      intro f
      induction f with
      | zero => intro k hv1 hv2; exact absurd hv2 (Nat.not_lt_zero _)
      | succ f ih =>
        intro k hv1 hv2  ls hl
        refine lv_iload hx hb dX4_bitsOfShare_18 (lv_at hl 3 rfl) ?_
        refine lv_sipush (v := 1022) hx hb dX4_bitsOfShare_20 (by decide) ?_
        refine lv_icmp_ge (tgt := 50) hx hb dX4_bitsOfShare_23 (by decide) (fun h => absurd h (bs_no hv1)) (fun _ => ?_)
        refine lv_dload_n hx hb dX4_bitsOfShare_26 rfl (lv_at hl 1 rfl) ?_
        refine lv_dconst1 hx hb dX4_bitsOfShare_27 ?_
        refine lv_dcmp hx hb dX4_bitsOfShare_28 ?_
        refine lv_if_ge (tgt := 50) hx hb dX4_bitsOfShare_29 (by decide) (fun c4 => ?_) (fun c4 => ?_)
        · have c4' := Int32.not_lt.mpr c4
          have hkm : k = bs_m dd := bs_ex hv1 c4
          have hend := hbp.2.2.2.2
          refine lv_dload_n hx hb dX4_bitsOfShare_50 rfl (lv_at hl 1 rfl) ?_
          refine lv_dconst1 hx hb dX4_bitsOfShare_51 ?_
          refine lv_dsub hx hb dX4_bitsOfShare_52 (by rw [hkm]; exact hbp.2.2.1) ?_
          refine lv_ldc2d (v := 4841369599423283200) hx hb hown (hts _ wd_constantDouble_RX4_318_4841369599423283200) dX4_bitsOfShare_53 ?_
          refine lv_dmul hx hb dX4_bitsOfShare_56 (by rw [hkm]; exact hbp.2.2.2.1) ?_
          refine lv_d2l hx hb dX4_bitsOfShare_57 ?_
          refine lv_lstore (lv' := [(6, .long (FP.d2l (FP.dmul (FP.dsub (bs_g dd k) FP.dconst1) 4841369599423283200))), (0, .double dd), (2, .double (bs_g dd k)), (4, .long (bs_e k))]) hx hb dX4_bitsOfShare_58 hl (by decide) rfl (fun ls hl => ?_)
          refine lv_lload hx hb dX4_bitsOfShare_60 (lv_at hl 3 rfl) ?_
          refine lv_bipush (v := 52) hx hb dX4_bitsOfShare_62 (by decide) ?_
          refine lv_lshl (v := (bs_e k) <<< 52) hx hb dX4_bitsOfShare_64 (by rw [bs_52]) ?_
          refine lv_lload hx hb dX4_bitsOfShare_65 (lv_at hl 0 rfl) ?_
          refine lv_ladd hx hb dX4_bitsOfShare_67 (lv_topl (fun x5 e5 => ?_))
          have q5 : x5 = dd.toInt64 := by rw [e5]; rw [hkm]; exact hend
          subst q5
          exact k_eRl hx hb hr hlocks rfl dX4_bitsOfShare_68
        · have c4' := Int32.not_le.mp c4
          have hkl : k < bs_m dd := Nat.lt_of_le_of_ne hv1 (fun q => c4 (by rw [q]; exact hbp.2.1))
          refine lv_dload_n hx hb dX4_bitsOfShare_32 rfl (lv_at hl 1 rfl) ?_
          refine lv_ldc2d (v := 4611686018427387904) hx hb hown (hts _ wd_constantDouble_RX4_316_4611686018427387904) dX4_bitsOfShare_33 ?_
          refine lv_dmul hx hb dX4_bitsOfShare_36 (hbp.1 k hkl) ?_
          refine lv_dstore_n (lv' := [(2, .double (FP.dmul (bs_g dd k) 4611686018427387904)), (0, .double dd), (4, .long (bs_e k)), (6, .int (nI k))]) hx hb dX4_bitsOfShare_37 rfl hl (by decide) rfl (fun ls hl => ?_)
          refine lv_lload hx hb dX4_bitsOfShare_38 (lv_at hl 2 rfl) ?_
          refine lv_lconst (v := 1) hx hb dX4_bitsOfShare_40 (by decide) ?_
          refine lv_lsub hx hb dX4_bitsOfShare_41 (lv_topl (fun x6 e6 => ?_))
          have q6 : x6 = bs_e (k + 1) := by rw [e6]; exact bs_es hv1
          subst q6
          refine lv_lstore (lv' := [(4, .long (bs_e (k + 1))), (2, .double (FP.dmul (bs_g dd k) 4611686018427387904)), (0, .double dd), (6, .int (nI k))]) hx hb dX4_bitsOfShare_42 hl (by decide) rfl (fun ls hl => ?_)
          refine lv_iinc (v := nI (k + 1)) (lv' := [(6, .int (nI (k + 1))), (4, .long (bs_e (k + 1))), (2, .double (FP.dmul (bs_g dd k) 4611686018427387904)), (0, .double dd)]) hx hb dX4_bitsOfShare_44 hl (k := 3) rfl (nI_1 _) (by decide) rfl (fun ls hl => ?_)
          refine lv_goto (tgt := 18) hx hb dX4_bitsOfShare_47 (by decide) ?_
          have hl : lv_has ls 8 [(0, .double dd), (2, .double (FP.dmul (bs_g dd k) 4611686018427387904)), (4, .long (bs_e (k + 1))), (6, .int (nI (k + 1)))] := lv_sub hl [3, 2, 1, 0] rfl
          have hl : lv_has ls 8 [(0, .double dd), (2, .double (bs_g dd (k + 1))), (4, .long (bs_e (k + 1))), (6, .int (nI (k + 1)))] := hl
          exact ih (k + 1) (by omega) (by omega) ls hl
    have hl : lv_has ls 8 [(0, .double dd), (2, .double dd), (4, .long 1023), (6, .int 0)] := lv_sub hl [3, 2, 1, 0] rfl
    have w9 : 1023 = bs_e 0 := by decide
    have hl : lv_has ls 8 [(0, .double dd), (2, .double (bs_g dd 0)), (4, .long (bs_e 0)), (6, .int 0)] := (congrArg (fun zz => lv_has ls 8 [(0, .double dd), (2, .double (bs_g dd 0)), (4, .long zz), (6, .int 0)]) w9).mp hl
    have hl : lv_has ls 8 [(0, .double dd), (2, .double (bs_g dd 0)), (4, .long (bs_e 0)), (6, .int (nI 0))] := hl
    exact L2 ((bs_m dd) - 0 + 1) 0 (by omega) (by omega) ls hl
  · have c1' := Int32.not_lt.mp c1
    have hzf : ¬ bs_z dd = true := fun q => c1 (of_decide_eq_true q)
    have hz0 : dd.toInt64 = 0 := by rw [if_neg hzf] at hok; exact hok
    refine lv_lconst (v := 0) hx hb dX4_bitsOfShare_6 (by decide) ?_
    exact k_eRl hx hb hr hlocks (by exact hz0.symm) dX4_bitsOfShare_7
