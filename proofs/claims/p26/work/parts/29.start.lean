/-! the law's start: what the premises give, and what holds at first -/
theorem k_strs_in : ∀ q ∈ kStrs, Cond.stringRef RX4 q.1 q.2 ∈ lw_tbl := by decide +kernel
theorem k_dec_in : ∀ w ∈ kDec, w ∈ lw_tbl := by decide +kernel
theorem start_env {b : Nat} {s : State} (hts : ∀ w ∈ lw_tbl, w.before #[Value.ref b] s = true) (hgv : (Jvm.Cond.and given_1 narrow_1).before #[Value.ref b] s = true) : ∃ (D : va_G) (cI cS cL : ClassId), va_K D vwCl (kTy cI cS cL) s ∧ kEn s ∧ kEt s ∧ va_AO RX3 s := by
  have hs := flat_of_before _ hgv
  obtain ⟨d0, i0, k0⟩ := u_known (C := RX0) (T := TX0) (N := 2) (n := 2) hts inX0 (hts (.instantiable RX0 2) (wsL_law_in _ wd_instantiable_RX0_2))
  obtain ⟨d2, i2, k2⟩ := u_known (C := RX2) (T := TX2) (N := 4) (n := 4) hts inX2 (hts (.instantiable RX2 4) (wsL_law_in _ wd_instantiable_RX2_4))
  obtain ⟨d3, i3, k3⟩ := u_known (C := RX3) (T := TX3) (N := 17) (n := 17) hts inX3 (hts (.instantiable RX3 17) (wsL_law_in _ wd_instantiable_RX3_17))
  obtain ⟨d4, i4, k4⟩ := u_known (C := RX4) (T := TX4) (N := 5) (n := 5) hts inX4 (hts (.instantiable RX4 5) (wsL_law_in _ wd_instantiable_RX4_5))
  obtain ⟨dC, dI, hKc⟩ : ∃ (dC : Nat → ClassId) (dI : Nat → Nat → Nat), ∀ (k : Nat) (q : vw_C), vwCl[k]? = some q → u_Kn s q.1 q.2.1 q.2.2 (dC k) (dI k) := by
    refine ⟨fun k => if k = 0 then d0 else if k = 1 then d2 else if k = 2 then d3 else d4, fun k => if k = 0 then i0 else if k = 1 then i2 else if k = 2 then i3 else i4, ?_⟩
    intro k q hq
    match k, hq with
    | 0, hq => cases hq; exact k0
    | 1, hq => cases hq; exact k2
    | 2, hq => cases hq; exact k3
    | 3, hq => cases hq; exact k4
    | k + 4, hq => simp at hq
  have hO : va_AO RX3 s := va_AO.of (hts (.arrayOver (.object RX3)) (by decide +kernel))
  obtain ⟨cI, kI, compI, a1, a2, a3⟩ := Cond.arrayClass_spec (hts _ (wsL_law_in _ wd_arrayClass_int))
  obtain ⟨compS, cS, kS, b1, b2, b3, b4, b5⟩ := Cond.arrayOver_spec (hts (.arrayOver (.object RX3)) (by decide +kernel))
  refine ⟨(dC, dI), cI, cS, cI, ⟨hKc, ?_⟩, ⟨va_Nw.of rfl (hts (.methodLinkNest RX3 51 yX2_init RX4) (by decide +kernel)), va_Nw.of rfl (hts (.methodLinkNest RX3 74 yX4_isWithin RX4) (by decide +kernel)), fun q hq => ?_⟩, ⟨⟨k_cas (Vm.Alike.refl _) (hts (.castable eA eA) (by decide +kernel)), k_cas (Vm.Alike.refl _) (hts (.castable eS eS) (by decide +kernel)), k_cas (Vm.Alike.refl _) (hts (.castable eB eB) (by decide +kernel)), k_decl (Vm.Alike.refl _) (fun w hw => hts w (k_dec_in w hw))⟩, ?_, ?_⟩, hO⟩
  · intro k q hk
    match k, hk with
    | 0, hk => cases hk; exact ⟨fun n z => ⟨fun k h => (by cases h), kI, a2, compI, a3⟩, a1⟩
    | 1, hk => cases hk; exact ⟨fun n z => ⟨fun k h => (by cases h), kS, b3, compS, b4⟩, ⟨kS, compS, b3, b4, b1, b5⟩⟩
    | k + 2, hk => simp at hk
  · have h := hts _ (k_strs_in q hq)
    obtain ⟨k, cf, i, a, -, -, -, -, -, hev⟩ := Cond.stringRef_spec k4.2.1 h
    exact ⟨a, vk_R.of h hev⟩
  · exact vx_Zqof (hts (.laysStatic Bundle.tN "UNASSIGNED_STACK" Bundle.steD) (by decide +kernel)) (hts (.initialized Bundle.tN) (by decide +kernel)) (hs (.isRef (.static Bundle.tN "UNASSIGNED_STACK" Bundle.steD)) (by decide +kernel)) (fun a h => Nat.not_le.mpr h)
  · exact vx_Zqof (hts (.laysStatic Bundle.tN "SUPPRESSED_SENTINEL" Bundle.listD) (by decide +kernel)) (hts (.initialized Bundle.tN) (by decide +kernel)) (hs (.isRef (.static Bundle.tN "SUPPRESSED_SENTINEL" Bundle.listD)) (by decide +kernel)) (fun a h => Nat.not_le.mpr h)
theorem LR2_0 : LR2 N0 0 0 0 0 (fun _ => N0) 0 := by
  refine ⟨⟨⟨⟨by omega, rfl, rfl, fun k hk => absurd hk (Nat.not_lt_zero _)⟩, ⟨⟨200, by omega, by omega, rfl⟩, ⟨0, 0, by omega, by omega, rfl, rfl⟩, ⟨0, by omega, by omega, rfl⟩, ⟨12, by omega, by omega, rfl⟩, ⟨1, by omega, by omega, rfl⟩, ⟨50, by omega, by omega, rfl⟩⟩, fun k hk => absurd hk (Nat.not_lt_zero _)⟩, fun t ht => ?_⟩, by omega, by omega, by omega, fun j hj => absurd hj (Nat.not_lt_zero _)⟩
  rcases (show t = 0 ∨ t = 1 ∨ t = 2 by omega) with rfl | rfl | rfl <;> exact ⟨60, by omega, by omega, rfl⟩
