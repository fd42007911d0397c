abbrev kMd (D : va_G) (wc wc' : va_W) (sz : Nat) (r0 : UInt64) : Array Value → State → Outcome → State → Prop := va_Qd (fun r (_ : Unit) => r = r0) (fun _ t => va_P D vwCl wc' t.heap) (va_A wc sz)
section KROWD
variable {p : Program} {l : Launch} {e : Env} {R : Room} {s : State} {m : MethodId} {args : Array Value} {below : List Frame} {meth : Method} {c : Code} {H : Heap} {locs : List Loc} {cells slots : Nat} {Q : State → Prop}
variable {cc bytes : ByteArray} {pc nL maxL n index mc ms : Nat} {ls : Array Slot} {rest st0 As : List Value} {D : va_G} {A0 : Nat → Prop} {a b : Nat} {ty : List (ClassId × FieldType)} {w1 wc wc' w3 ws : va_W} {H0 : Heap} {y : MethodName} {own C : String} {ret : Option FieldType} {rm : Room}
theorem k_mdV {r0 : UInt64} (S : CallFix p m c cc nL s args wsL_law own) (hM : Met l y (wy_ y bytes maxL ret) rm (kPc D ty wc H.size (.ref b :: As)) (kMd D wc wc' H.size r0) 0 0 (va_A wc H.size)) (hlk : KV own index C y bytes maxL ret n) (hrc : rm.cells = 0) (hrs : rm.slots = 0) (hR : rm.frames + 1 ≤ R.frames ∧ 8 + (maxL + 11) + rm.locals ≤ R.locals)
    (hrv : ∃ cell : Cell, H[b]? = some cell ∧ cell.vm.isStatics = false ∧ s.vm.findClass C = some cell.cls) (hK : va_K D vwCl ty s) (hE : kEn s) (hP : va_P D vwCl (w1 ++ (wc ++ w3)) H) (hD : va_D A0 (w1 ++ (wc ++ w3))) (hS : va_S A0 H0 H locs) (hA : ∀ q, H0.size ≤ q → A0 q) (ha : wc'.map Prod.fst = wc.map Prod.fst)
    (hn : As.length = n) (hsz : ls.size = nL) (hst : st0 = As.reverse ++ .ref b :: rest) (hrest : (rest.map fun v => v.category).sum ≤ 8)
    (hdg : decode cc pc = .ok (.invokevirtual index, 3)) (hf : cells ≤ R.cells ∧ slots ≤ R.slots)
    (kk : ∀ (H1 : Heap) (locs1 : List Loc), H.size ≤ H1.size → va_P D vwCl (w1 ++ (wc' ++ w3)) H1 → va_D A0 (w1 ++ (wc' ++ w3)) → va_S A0 H0 H1 locs1 → W p l e R s m args below meth c H1 locs1 cells slots Q (F0 m (pc + 3) ls (.double r0 :: rest))) : W p l e R s m args below meth c H locs cells slots Q (F0 m pc ls st0) := by
  have hF := k_free hD hS hA
  refine va_calld (va_runV S hM (k_cV S.2.2.2.2 hlk hrc hrs hR) ⟨kPc_blind, hrv, kPc_at hK hE (va_P_midL hP) ((va_D_midL hD).weaken fun _ _ _ _ => trivial)⟩ rfl hn hsz hst (lv_room hrest) hdg hf) hS (fun q _ h => hF q h) hF (fun r u t H1 locs1 ht _ hr hB hz hk hS1 => ?_)
  subst hr
  rw [ht] at hB
  obtain ⟨h1, h2⟩ := k_join hP hD ha hk hB
  exact kk H1 locs1 hz h1 h2 hS1
theorem k_eMd {r0 v : UInt64} (hexec : p.tables.exec = Jvm.exec) (hb : c.code = cc) (hr : meth.sig.returnType = some .double) (hlocks : meth.locks = false) (hP : va_P D vwCl wc' H) (hS : va_S (va_A wc s.heap.size) s.heap H locs) (hv : v = r0) (hdg : decode cc pc = .ok (.dreturn, 1)) :
    W p l e R s m args below meth c H locs cells slots (MQ below (kMd D wc wc' s.heap.size r0) args s cells slots (va_A wc s.heap.size)) (F0 m pc ls [.double v]) :=
  W.dret hexec hb hr (fun t ht _ => ⟨⟨v, (), rfl, hv, (show va_P D vwCl wc' t.heap by rw [ht]; exact hP)⟩, hS.F ht⟩) hS.2.2 hdg
end KROWD
def p_share (N : NN) (n : Nat) : UInt64 := if nI n - p_at N (-1) n = 0 then FP.dconst1 else FP.ddiv (FP.i2d (p_rh N n)) (FP.i2d (nI n - p_at N (-1) n))
theorem hv_two (N : NN) : ∀ k, ∃ r g : Nat, p_hv N 0 k = nI r ∧ p_hv N 1 k = nI g ∧ r + g ≤ k := by
  intro k
  induction k with
  | zero => exact ⟨0, 0, rfl, rfl, Nat.le_refl 0⟩
  | succ k ih =>
    obtain ⟨r, g, h1, h2, h3⟩ := ih
    by_cases c : p_reason N k = 0
    · refine ⟨r + 1, g, ?_, ?_, by omega⟩
      · show (if p_reason N k = 0 then p_hv N 0 k + 1 else p_hv N 0 k) = _
        rw [if_pos c, h1]; exact nI_1 r
      · show (if p_reason N k = 1 then p_hv N 1 k + 1 else p_hv N 1 k) = _
        rw [if_neg (by rw [c]; decide), h2]
    · by_cases d : p_reason N k = 1
      · refine ⟨r, g + 1, ?_, ?_, by omega⟩
        · show (if p_reason N k = 0 then p_hv N 0 k + 1 else p_hv N 0 k) = _
          rw [if_neg c, h1]
        · show (if p_reason N k = 1 then p_hv N 1 k + 1 else p_hv N 1 k) = _
          rw [if_pos d, h2]; exact nI_1 g
      · refine ⟨r, g, ?_, ?_, by omega⟩
        · show (if p_reason N k = 0 then p_hv N 0 k + 1 else p_hv N 0 k) = _
          rw [if_neg c, h1]
        · show (if p_reason N k = 1 then p_hv N 1 k + 1 else p_hv N 1 k) = _
          rw [if_neg d, h2]
theorem sub_q : ∀ n : Fin 15, ∀ g : Fin 15, g.1 ≤ n.1 → nI n.1 - nI g.1 = nI (n.1 - g.1) := by decide
theorem sh_parts {N : NN} {n : Nat} (hn14 : n ≤ 14) : ∃ r b : Nat, r ≤ b ∧ b ≤ 14 ∧ p_rh N n = nI r ∧ nI n - p_at N (-1) n = nI b := by
  obtain ⟨r, g, h1, h2, h3⟩ := hv_two N n
  refine ⟨r, n - g, by omega, by omega, (p_hv_rh N n) ▸ h1, ?_⟩
  rw [← p_hv_at1, h2]
  exact sub_q ⟨n, by omega⟩ ⟨g, by omega⟩ (by omega : g ≤ n)
theorem sh_q : ∀ r : Fin 15, ∀ b : Fin 15, r.1 ≤ b.1 → ¬ b.1 = 0 → FP.ddiv (FP.i2d (nI r.1)) (FP.i2d (nI b.1)) &&& 0x7fffffffffffffff ≤ 0x7ff0000000000000 := by decide +kernel
theorem sh_fin {N : NN} {n : Nat} (hn14 : n ≤ 14) (h : ¬ nI n - p_at N (-1) n = 0) : vf_n64 (FP.ddiv (FP.i2d (p_rh N n)) (FP.i2d (nI n - p_at N (-1) n))) := by
  obtain ⟨r, b, h1, h2, h3, h4⟩ := sh_parts (N := N) hn14
  rw [h4] at h ⊢
  rw [h3]
  exact sh_q ⟨r, by omega⟩ ⟨b, by omega⟩ h1 (fun q => h (by rw [show b = 0 from q]; rfl))
theorem sh_zero {N : NN} {n : Nat} (hn14 : n ≤ 14) (h : ¬ 0 < nI n - p_at N (-1) n) : nI n - p_at N (-1) n = 0 := by
  obtain ⟨r, b, h1, h2, h3, h4⟩ := sh_parts (N := N) hn14
  rw [h4] at h ⊢
  have : ¬ 0 < b := fun q => h ((nI_ltI (a := 0) (b := b) (by omega) (by omega)).mpr q)
  have : b = 0 := by omega
  subst this
  rfl
theorem sh_cq : ∀ r : Fin 15, ∀ b : Fin 15, r.1 ≤ b.1 → ¬ b.1 = 0 → Op.cmpValue (FP.dcmp (FP.ddiv (FP.i2d (nI r.1)) (FP.i2d (nI b.1))) (FP.ddiv (FP.i2d (nI r.1)) (FP.i2d (nI b.1)))) .l = 0 := by decide +kernel
theorem sh_c1 : Op.cmpValue (FP.dcmp FP.dconst1 FP.dconst1) .l = 0 := by decide +kernel
theorem sh_cmp {N : NN} {n : Nat} (hn14 : n ≤ 14) : Op.cmpValue (FP.dcmp (p_share N n) (p_share N n)) .l = 0 := by
  obtain ⟨r, b, h1, h2, h3, h4⟩ := sh_parts (N := N) hn14
  unfold p_share
  rw [h4, h3]
  by_cases c : b = 0
  · subst c
    exact sh_c1
  · have hb0 : ¬ nI b = 0 := fun q => c ((nI_eq (a := b) (b := 0) (by omega) (by omega)).mp q)
    rw [if_neg hb0]
    exact sh_cq ⟨r, by omega⟩ ⟨b, by omega⟩ h1 c
