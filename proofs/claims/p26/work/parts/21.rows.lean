/-! rows for the law's own methods: static calls that write, ends with an answer and a world that are only described, the script handed to a callee -/
abbrev kMe {S : Type} (D : va_G) (wc : va_W) (sz : Nat) (post : Int32 → S → Prop) (Wf : S → va_W) : Array Value → State → Outcome → State → Prop := va_Qi post (fun u t => va_P D vwCl (Wf u) t.heap) (va_A wc sz)
/-- it never throws -/
abbrev kNX : String → State → State → Prop := vx_X (fun _ : Unit => False) (fun _ _ _ => True) noF
/-- a contract out of a walk from its entry, whatever the start wants -/
theorem k_gofW {l : Launch} {y : MethodName} {rm : Room} {av : List Value} {Pc0 : State → Prop} {Qc : Array Value → State → Outcome → State → Prop} {mc ms : Nat} {free : Addr → Prop} {cc : ByteArray} {maxL : Nat} {ret : Option FieldType}
    (hy : plainName y.cls = true) (hlen : (lg_sl av).length ≤ maxL)
    (body : ∀ (p : Program) (e : Env) (s : State) (m : MethodId) (args : Array Value) (below : List Frame) (meth : Method) (c : Code), p.tables.exec = Jvm.exec → c.code = cc → meth.sig.returnType = ret → c.maxLocals = maxL → (∀ w ∈ wsL_law, w.before args s = true) → s.vm.findClass y.cls = some m.cls → meth.locks = false →
      Pc0 s → ∀ ls : Array Slot, lv_has ls maxL (lv_args 0 av) → W p l e rm s m args below meth c s.heap [] 0 0 (MQ below Qc args s mc ms free) (F0 m 0 ls [])) : Met l y (wy_ y cc maxL ret) rm (va_Pc av Pc0) Qc mc ms free := by
  refine Met.ofW (cc := cc) (maxL := maxL) (ret := ret) hy rfl ?_
  intro p e s m args below meth c s₁ B hml hv
  obtain ⟨rfl, h0⟩ := hv
  rw [lg_entry_eq]
  exact body p e s m _ below meth c B.exec B.bytes B.returns hml (fun w hw => atoms_spec (ws := wy_ y cc maxL ret) B.pre w (List.mem_cons_of_mem _ hw)) (findClass_of_methodNamed B.named) B.notSynchronized h0 _ (lv_entry av hlen)
theorem k_wofW {l : Launch} {y : MethodName} {rm : Room} {D : va_G} {ty : List (ClassId × FieldType)} {wc : va_W} {sz : Nat} {av : List Value} {Qc : Array Value → State → Outcome → State → Prop} {XC : String → State → State → Prop} {mc ms : Nat} {free : Addr → Prop} {cc : ByteArray} {maxL : Nat} {ret : Option FieldType} {hh : List (Nat × Nat × Nat × Nat)}
    (hy : plainName y.cls = true) (hlen : (lg_sl av).length ≤ maxL)
    (body : ∀ (p : Program) (e : Env) (s : State) (m : MethodId) (args : Array Value) (below : List Frame) (meth : Method) (c : Code), p.tables.exec = Jvm.exec → c.code = cc → meth.sig.returnType = ret → c.maxLocals = maxL → (∀ w ∈ wsL_law, w.before args s = true) → s.vm.findClass y.cls = some m.cls → meth.locks = false → c.exceptionTable.toList = tableOf hh →
      s.heap.size = sz → va_P D vwCl wc s.heap → va_K D vwCl ty s → va_D (va_A wc sz) wc → kEn s → kEt s → ∀ ls : Array Slot, lv_has ls maxL (lv_args 0 av) → W p l e rm s m args below meth c s.heap [] 0 0 (vx_MQ below Qc XC args s mc ms free) (F0 m 0 ls [])) : vx_Met l y (wyW_ y cc maxL ret hh) rm (kPx D ty wc sz av) Qc XC mc ms free := by
  refine vx_ofWH (cc := cc) (maxL := maxL) (ret := ret) (hh := hh) hy rfl ?_
  intro p e s m args below meth c s₁ B hml hv
  obtain ⟨rfl, hsz, hP, hK, hD, hE, hT⟩ := hv
  have hat := atoms_spec (ws := wyW_ y cc maxL ret hh) B.pre
  have htab := vx_table (x := y) B (hat _ List.mem_cons_self)
  rw [lg_entry_eq]
  exact body p e s m _ below meth c B.exec B.bytes B.returns hml (fun w hw => hat w (List.mem_cons_of_mem _ hw)) (findClass_of_methodNamed B.named) B.notSynchronized htab hsz hP hK hD.self hE hT _ (lv_entry av hlen)
/-- the start of a method that reads the script alone -/
abbrev kPX (av : List Value) (b L : Nat) (xs : Nat → Int32) : Array Value → State → Prop := va_Pc av (fun U => va_X b L xs U U.heap)
theorem kPX_blind {av : List Value} {b L : Nat} {xs : Nat → Int32} : FrameBlind (kPX av b L xs) := fun a U g mk q => ⟨q.1, va_X.moved (u := U) (U := U.calling g mk a) (Vm.Alike.refl U.vm) q.2⟩
theorem kX_at {b L : Nat} {xs : Nat → Int32} {A : Nat → Prop} {s U : State} {H : Heap} {locs : List Loc} (hX : va_X b L xs s s.heap) (hbl : b < s.heap.size) (hbA : ¬ A b) (hS : va_S A s.heap H locs) (hU : U.heap = H) (hW : s.WarmedH U.vm) : va_X b L xs U U.heap := by
  rw [hU]
  exact (hX.kept (hS.2.1 b hbl hbA)).moved hW.alike
theorem va_X.lt {b L : Nat} {xs : Nat → Int32} {s : State} {H : Heap} (h : va_X b L xs s H) : b < H.size := by
  obtain ⟨scr, h1, -⟩ := h
  exact (Array.getElem?_eq_some_iff.mp h1).1
/-- the start of a method that has the object, may throw within, and reads the script -/
def kPa (D : va_G) (ty : List (ClassId × FieldType)) (wc : va_W) (sz : Nat) (av : List Value) (b L : Nat) (xs : Nat → Int32) : Array Value → State → Prop :=
  va_Pc av (fun U => U.heap.size = sz ∧ va_P D vwCl wc U.heap ∧ va_K D vwCl ty U ∧ va_D (fun _ => True) wc ∧ kEn U ∧ kEt U ∧ va_X b L xs U U.heap ∧ ∀ q ∈ wc, q.1 ≠ b)
theorem kPa_blind {D : va_G} {ty : List (ClassId × FieldType)} {wc : va_W} {sz : Nat} {av : List Value} {b L : Nat} {xs : Nat → Int32} : FrameBlind (kPa D ty wc sz av b L xs) := fun a U g mk q => by
  obtain ⟨q0, q1, qP, qK, qD, qE, qT, qX, qB⟩ := q
  exact ⟨q0, q1, qP, va_K.moved (u := U) (U := U.calling g mk a) (Vm.Alike.refl U.vm) qK, qD, kEn.same (u := U) (U := U.calling g mk a) rfl qE, kEt_same (u := U) (U := U.calling g mk a) rfl rfl qT, va_X.moved (u := U) (U := U.calling g mk a) (Vm.Alike.refl U.vm) qX, qB⟩
theorem kPa_at {D : va_G} {ty : List (ClassId × FieldType)} {wc : va_W} {av : List Value} {s : State} {H : Heap} {locs : List Loc} {b L : Nat} {xs : Nat → Int32} (hK : va_K D vwCl ty s) (hE : kEn s) (hT : kEt s) (hX : va_X b L xs s s.heap) (hB : ∀ q ∈ wc, q.1 ≠ b) (hS : va_S (fun q => s.heap.size ≤ q) s.heap H locs) (hP : va_P D vwCl wc H) (hD : va_D (fun _ => True) wc) (U : State) (hU : U.heap = H) (hW : s.WarmedH U.vm) : kPa D ty wc H.size av b L xs av.toArray U :=
  ⟨rfl, by rw [hU], by rw [hU]; exact hP, va_K.moved hW.alike hK, hD, kEn.warm hW hE, kEt_at hT hS hU hW, kX_at hX hX.lt (Nat.not_le.mpr hX.lt) hS hU hW, hB⟩
section KS6
variable {p : Program} {l : Launch} {e : Env} {R : Room} {s : State} {m : MethodId} {args : Array Value} {below : List Frame} {meth : Method} {c : Code} {H : Heap} {locs : List Loc} {cells slots : Nat} {Q : State → Prop}
variable {cc bytes : ByteArray} {pc nL maxL n index mc ms : Nat} {ls : Array Slot} {rest st0 As : List Value} {D : va_G} {A0 : Nat → Prop} {a b : Nat} {ty : List (ClassId × FieldType)} {w1 wc wc' w3 ws : va_W} {H0 : Heap} {y : MethodName} {own C : String} {ret : Option FieldType} {rm : Room}
theorem k_miS {r0 : Int32} (S : CallFix p m c cc nL s args wsL_law own) (hM : Met l y (wy_ y bytes maxL ret) rm (kPc D ty wc H.size As) (kMi D wc wc' H.size r0) 0 0 (va_A wc H.size)) (hlk : KS own index y bytes maxL ret n) (hrc : rm.cells = 0) (hrs : rm.slots = 0) (hR : rm.frames + 1 ≤ R.frames ∧ 8 + (maxL + 11) + rm.locals ≤ R.locals)
    (hK : va_K D vwCl ty s) (hE : kEn s) (hP : va_P D vwCl (w1 ++ (wc ++ w3)) H) (hD : va_D A0 (w1 ++ (wc ++ w3))) (hS : va_S A0 H0 H locs) (hA : ∀ q, H0.size ≤ q → A0 q) (ha : wc'.map Prod.fst = wc.map Prod.fst)
    (hn : As.length = n) (hsz : ls.size = nL) (hst : st0 = As.reverse ++ rest) (hrest : (rest.map fun v => v.category).sum ≤ 8)
    (hdg : decode cc pc = .ok (.invokestatic index, 3)) (hf : cells ≤ R.cells ∧ slots ≤ R.slots)
    (kk : ∀ (H1 : Heap) (locs1 : List Loc), H.size ≤ H1.size → va_P D vwCl (w1 ++ (wc' ++ w3)) H1 → va_D A0 (w1 ++ (wc' ++ w3)) → va_S A0 H0 H1 locs1 → W p l e R s m args below meth c H1 locs1 cells slots Q (F0 m (pc + 3) ls (.int r0 :: rest))) : W p l e R s m args below meth c H locs cells slots Q (F0 m pc ls st0) := by
  have hF := k_free hD hS hA
  refine va_calli (va_runS S hM (k_cS S.2.2.2.2 hlk hrc hrs hR) ⟨kPc_blind, kPc_at hK hE (va_P_midL hP) ((va_D_midL hD).weaken fun _ _ _ _ => trivial)⟩ rfl hn hsz hst (lv_room hrest) hdg hf) hS (fun q _ h => hF q h) hF (fun r u t H1 locs1 ht _ hr hB hz hk hS1 => ?_)
  subst hr
  rw [ht] at hB
  obtain ⟨h1, h2⟩ := k_join hP hD ha hk hB
  exact kk H1 locs1 hz h1 h2 hS1
/-- a call of a method that reads the script alone -/
theorem k_rX {r0 : Int32} {L : Nat} {xs : Nat → Int32} (S : CallFix p m c cc nL s args wsL_law own) (hM : Met l y (wy_ y bytes maxL ret) rm (kPX As b L xs) (kRi r0) 0 0 noF) (hlk : KS own index y bytes maxL ret n) (hrc : rm.cells = 0) (hrs : rm.slots = 0) (hR : rm.frames + 1 ≤ R.frames ∧ 8 + (maxL + 11) + rm.locals ≤ R.locals)
    (hX : va_X b L xs s s.heap) (hbA : ¬ A0 b) (hS : va_S A0 s.heap H locs) (hn : As.length = n) (hsz : ls.size = nL) (hst : st0 = As.reverse ++ rest) (hrest : (rest.map fun v => v.category).sum ≤ 8)
    (hdg : decode cc pc = .ok (.invokestatic index, 3)) (hf : cells ≤ R.cells ∧ slots ≤ R.slots)
    (kk : W p l e R s m args below meth c H locs cells slots Q (F0 m (pc + 3) ls (.int r0 :: rest))) : W p l e R s m args below meth c H locs cells slots Q (F0 m pc ls st0) :=
  vp_callSi (W.runS S hM (k_cS S.2.2.2.2 hlk hrc hrs hR) ⟨kPX_blind, fun U hU hW => ⟨rfl, kX_at hX hX.lt hbA hS hU hW⟩⟩ rfl hn hsz hst (lv_room hrest) hdg hf) (fun r hr => by subst hr; exact kk)
/-- ends -/
theorem k_eMe {T : Type} {post : Int32 → T → Prop} {Wf : T → va_W} (u : T) {v : Int32} (hexec : p.tables.exec = Jvm.exec) (hb : c.code = cc) (hr : meth.sig.returnType = some .int) (hlocks : meth.locks = false) (hc : cells ≤ mc) (hs : slots ≤ ms) (hv : post v u) (hP : va_P D vwCl (Wf u) H) (hS : va_S (va_A wc s.heap.size) s.heap H locs) (hdg : decode cc pc = .ok (.ireturn, 1)) :
    W p l e R s m args below meth c H locs cells slots (MQ below (kMe D wc s.heap.size post Wf) args s mc ms (va_A wc s.heap.size)) (F0 m pc ls [.int v]) :=
  W.widen hc hs (W.iret hexec hb hr (fun t ht _ => ⟨⟨v, u, rfl, hv, (show va_P D vwCl (Wf u) t.heap by rw [ht]; exact hP)⟩, hS.F ht⟩) hS.2.2 hdg)
theorem k_xMe {T : Type} {post : Int32 → T → Prop} {Wf : T → va_W} {XC : String → State → State → Prop} (u : T) {v : Int32} (hexec : p.tables.exec = Jvm.exec) (hb : c.code = cc) (hr : meth.sig.returnType = some .int) (hlocks : meth.locks = false) (hc : cells ≤ mc) (hs : slots ≤ ms) (hv : post v u) (hP : va_P D vwCl (Wf u) H) (hS : va_S (va_A wc s.heap.size) s.heap H locs) (hdg : decode cc pc = .ok (.ireturn, 1)) :
    W p l e R s m args below meth c H locs cells slots (vx_MQ below (kMe D wc s.heap.size post Wf) XC args s mc ms (va_A wc s.heap.size)) (F0 m pc ls [.int v]) :=
  vx_ret (k_eMe u hexec hb hr hlocks hc hs hv hP hS hdg)
/-- behind a call: a new world in the old one's place, nothing beside it -/
theorem k_join1 {D : va_G} {cl : List vw_C} {H H1 : Heap} (hD : va_D A0 wc) (ha : wc'.map Prod.fst = wc.map Prod.fst) (hP1 : va_P D cl wc' H1) : va_P D cl wc' H1 ∧ va_D A0 wc' := ⟨hP1, va_D_same ha hD⟩
theorem k_free1 {H1 : Heap} (hD : va_D A0 wc) (hS : va_S A0 H0 H1 locs) (hA : ∀ q, H0.size ≤ q → A0 q) : ∀ q, va_A wc H1.size q → A0 q := by
  intro q h
  rcases h with ⟨k, e, h⟩ | h
  · exact hD.2 k (q, e) h
  · exact hA q (Nat.le_trans hS.1 h)
/-- a call of a method that catches what it calls: its world is all of ours -/
theorem k_ecW {T : Type} {post : Int32 → T → Prop} {Wf : T → va_W} {hh : List (Nat × Nat × Nat × Nat)} {A1 : Nat → Prop} (hA1 : ∀ q, s.heap.size ≤ q → A1 q) (hT1 : kEt s) (hTS : ∀ U : State, U.heap = H → s.WarmedH U.vm → kEt U) (S : CallFix p m c cc nL s args wsL_law own) (hM : vx_Met l y (wyW_ y bytes maxL ret hh) rm (kPx D ty wc H.size As) (kMe D wc H.size post Wf) kNX 1 6 (va_A wc H.size)) (hlk : KSW own index y bytes maxL ret hh n) (hrc : rm.cells = 1) (hrs : rm.slots = 6) (hR : rm.frames + 1 ≤ R.frames ∧ 8 + (maxL + 11) + rm.locals ≤ R.locals)
    (hK : va_K D vwCl ty s) (hE : kEn s) (hP : va_P D vwCl wc H) (hD : va_D A1 wc) (hS : va_S A1 s.heap H locs) (ha : ∀ u, (Wf u).map Prod.fst = wc.map Prod.fst)
    (hn : As.length = n) (hsz : ls.size = nL) (hst : st0 = As.reverse ++ rest) (hrest : (rest.map fun v => v.category).sum ≤ 8)
    (hdg : decode cc pc = .ok (.invokestatic index, 3)) (hf : cells + 1 ≤ R.cells ∧ slots + 6 ≤ R.slots)
    (kk : ∀ (r : Int32) (u : T) (H1 : Heap) (locs1 : List Loc), H.size ≤ H1.size → post r u → va_P D vwCl (Wf u) H1 → va_D A1 (Wf u) → va_S A1 s.heap H1 locs1 → W p l e R s m args below meth c H1 locs1 (cells + 1) (slots + 6) Q (F0 m (pc + 3) ls (.int r :: rest))) : W p l e R s m args below meth c H locs cells slots Q (F0 m pc ls st0) := by
  have hF := k_free1 hD hS hA1
  refine vx_calli (vx_runSX S hM (k_cSW S.2.2.2.2 hlk hrc hrs hR) ⟨kPx_blind, fun U hU hW => ⟨rfl, by rw [hU], by rw [hU]; exact hP, va_K.moved hW.alike hK, hD.weaken fun _ _ _ _ => trivial, kEn.warm hW hE, hTS U hU hW⟩⟩ rfl hn hsz hst (lv_room hrest) hdg hf) hS (fun q _ h => hF q h) hF (fun _ _ h => h.elim) (fun E ce q9 u t H1 locs1 _ _ hp _ _ _ _ _ _ _ => hp.elim) (fun r u t H1 locs1 ht _ hr hB hz hk hS1 => ?_)
  rw [ht] at hB
  exact kk r u H1 locs1 hz hr hB (va_D_same (ha u) hD) hS1
/-- a call of a method that has the object and reads the script -/
theorem k_ecS {T : Type} {post : Int32 → T → Prop} {Wf : T → va_W} {L : Nat} {xs : Nat → Int32} (S : CallFix p m c cc nL s args wsL_law own) (hM : Met l y (wy_ y bytes maxL ret) rm (kPa D ty wc H.size As b L xs) (kMe D wc H.size post Wf) 1 6 (va_A wc H.size)) (hlk : KS own index y bytes maxL ret n) (hrc : rm.cells = 1) (hrs : rm.slots = 6) (hR : rm.frames + 1 ≤ R.frames ∧ 8 + (maxL + 11) + rm.locals ≤ R.locals)
    (hK : va_K D vwCl ty s) (hE : kEn s) (hT : kEt s) (hX : va_X b L xs s s.heap) (hB : ∀ q ∈ wc, q.1 ≠ b) (hP : va_P D vwCl wc H) (hD : va_D (fun q => s.heap.size ≤ q) wc) (hS : va_S (fun q => s.heap.size ≤ q) s.heap H locs) (ha : ∀ u, (Wf u).map Prod.fst = wc.map Prod.fst)
    (hn : As.length = n) (hsz : ls.size = nL) (hst : st0 = As.reverse ++ rest) (hrest : (rest.map fun v => v.category).sum ≤ 8)
    (hdg : decode cc pc = .ok (.invokestatic index, 3)) (hf : cells + 1 ≤ R.cells ∧ slots + 6 ≤ R.slots)
    (kk : ∀ (r : Int32) (u : T) (H1 : Heap) (locs1 : List Loc), H.size ≤ H1.size → post r u → va_P D vwCl (Wf u) H1 → va_D (fun q => s.heap.size ≤ q) (Wf u) → va_S (fun q => s.heap.size ≤ q) s.heap H1 locs1 → W p l e R s m args below meth c H1 locs1 (cells + 1) (slots + 6) Q (F0 m (pc + 3) ls (.int r :: rest))) : W p l e R s m args below meth c H locs cells slots Q (F0 m pc ls st0) := by
  have hF := k_free1 hD hS (fun q h => h)
  refine va_calli (va_runS S hM (k_cS S.2.2.2.2 hlk hrc hrs hR) ⟨kPa_blind, kPa_at hK hE hT hX hB hS hP (hD.weaken fun _ _ _ _ => trivial)⟩ rfl hn hsz hst (lv_room hrest) hdg hf) hS (fun q _ h => hF q h) hF (fun r u t H1 locs1 ht _ hr hB hz hk hS1 => ?_)
  rw [ht] at hB
  exact kk r u H1 locs1 hz hr hB (va_D_same (ha u) hD) hS1
/-- a call of a method that throws E0, caught here: its world is the first part of ours -/
theorem k_xcW {E0 : String} {name : String} {ce0 : ExceptionTableEntry} (S : CallFix p m c cc nL s args wsL_law own) (hM : vx_Met l y (wy_ y bytes maxL ret) rm (kPx D ty wc s.heap.size (.ref b :: As)) kQx (kXe E0) 1 6 noF) (hlk : KV own index C y bytes maxL ret n) (hrc : rm.cells = 1) (hrs : rm.slots = 6) (hR : rm.frames + 1 ≤ R.frames ∧ 8 + (maxL + 11) + rm.locals ≤ R.locals)
    (hrv : ∃ cell : Cell, s.heap[b]? = some cell ∧ cell.vm.isStatics = false ∧ s.vm.findClass C = some cell.cls) (hK : va_K D vwCl ty s) (hE : kEn s) (hT : kEt s) (hP : va_P D vwCl (w1 ++ (wc ++ w3)) s.heap) (hD : va_D A0 (w1 ++ (wc ++ w3)))
    (hsplit : c.exceptionTable.toList = [ce0]) (hcov : covers ce0 pc = true) (h0 : ce0.catchType ≠ 0) (hlink : (Cond.classLink own ce0.catchType name).before args s = true) (hcast : (Cond.castable E0 name).before #[] s = true)
    (hn : As.length = n) (hsz : ls.size = nL) (hst : st0 = As.reverse ++ .ref b :: rest) (hrest : (rest.map fun v => v.category).sum ≤ 8) (hdg : decode cc pc = .ok (.invokevirtual index, 3)) (hf : 0 + 1 ≤ R.cells ∧ 0 + 6 ≤ R.slots)
    (kk : ∀ (q9 : Nat) (H1 : Heap) (locs1 : List Loc), s.heap.size ≤ H1.size → va_P D vwCl (w1 ++ (wc ++ w3)) H1 → va_S A0 s.heap H1 locs1 → W p l e R s m args below meth c H1 locs1 (0 + 1) (0 + 6) Q (F0 m ce0.handlerPc ls [.ref q9])) :
    W p l e R s m args below meth c s.heap [] 0 0 Q (F0 m pc ls st0) := by
  have hPc : va_P D vwCl wc s.heap := va_P_midL hP
  have hDc : va_D (fun _ => True) wc := (va_D_midL hD).weaken fun _ _ _ _ => trivial
  refine vx_calli (A0 := A0) (vx_runV S hM (k_cV S.2.2.2.2 hlk hrc hrs hR) ⟨kPx_blind, hrv, kPx_at hK hE hT va_S.rf hPc hDc⟩ rfl hn hsz hst (lv_room hrest) hdg hf) va_S.rf (fun _ _ h => h.elim) (fun _ h => h.elim) (fun _ _ h => h.elim)
    (fun E ce q9 u t H1 locs1 _ _ _ hB hz hk hS1 hce hv hcl => ?_) (fun r u t H1 locs1 _ _ hpost _ _ _ _ => hpost.elim)
  have hB' : E = E0 := hB
  subst hB'
  exact vx_catch (own := own) (name := name) S.2.2.2.1 [] ce0 [] hsplit (fun z hz => absurd hz List.not_mem_nil) hcov h0 hlink (k_cas (Vm.Alike.refl _) hcast) hce hv hcl (kk q9 H1 locs1 hz (va_P_of_mem fun q hq => (va_P_mem hP hq).kept (hk q.1 (va_P_mem hP hq).lt (fun h => h))) hS1)
end KS6
/-! the script's numbers, cut to a range -/
def p_low (v : Int32) (m : Nat) : Nat := v.toBitVec.toNat % 2 ^ 31 % m
theorem p_low_lt (v : Int32) {m : Nat} (h : 0 < m) : p_low v m < m := Nat.mod_lt _ h
abbrev rmL_cell : Room := { frames := 0, cells := 0, slots := 0, locals := 0 }
set_option maxHeartbeats 4000000 in
set_option maxRecDepth 100000 in
theorem c_L_cell (l : Launch) {b L k : Nat} {xs : Nat → Int32} (hk : k < L) (hL : L ≤ 260) : Met l yL_cell (wy_ yL_cell cL_cell 2 (some .int)) rmL_cell (kPX [.ref b, .int (nI k)] b L xs) (kRi (xs k)) 0 0 noF := by
  refine k_gofW (by decide) (Nat.le_of_ble_eq_true rfl) ?_
  intro p e s m args below meth c hx hb hr hml hts hown hlocks hX ls hl
  have hl : lv_has ls 2 [(0, .ref b), (1, .int (nI k))] := hl
  have hbA : ¬ (fun q => s.heap.size ≤ q) b := Nat.not_le.mpr hX.lt
  refine lv_iload_n hx hb dL_cell_0 rfl (lv_at hl 1 rfl) ?_
  refine lv_aload_n hx hb dL_cell_1 rfl (lv_at hl 0 rfl) ?_
  refine va_slen hx hb hX hX.lt hbA va_S.rf dL_cell_2 ?_
  refine lv_icmp_ge (tgt := 12) hx hb dL_cell_3 (by decide) (fun h => absurd ((nI_leI (a := L) (b := k) (by omega) (by omega)).mp h) (by omega)) (fun _ => ?_)
  refine lv_aload_n hx hb dL_cell_6 rfl (lv_at hl 0 rfl) ?_
  refine lv_iload_n hx hb dL_cell_7 rfl (lv_at hl 1 rfl) ?_
  refine va_sld hx hb hX hX.lt hbA va_S.rf (vp_in_nI hk (by omega)) dL_cell_8 ?_
  rw [nI_clamp (by omega)]
  refine lv_goto (tgt := 20) hx hb dL_cell_9 (by decide) ?_
  exact k_eRi hx hb hr hlocks rfl dL_cell_20
