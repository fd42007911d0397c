/-! exceptions of the class: what a state must hold, a contract that throws, its start, its throws, calls of it that let out or catch; a method without an answer that only reads -/
abbrev eA : String := "java/lang/IllegalArgumentException"
abbrev eS : String := "java/lang/IllegalStateException"
abbrev eB : String := "java/lang/IndexOutOfBoundsException"
abbrev kSup : List String := ["java/lang/RuntimeException", "java/lang/Exception"]
abbrev kDec : List Cond := [.declares (Bundle.initS "java/lang/RuntimeException"), .declares (Bundle.initS "java/lang/Exception"), .declares (Bundle.initS Bundle.tN)]
def kCas (U : State) : Prop := (Cond.castable eA eA).before #[] U = true ∧ (Cond.castable eS eS).before #[] U = true ∧ (Cond.castable eB eB).before #[] U = true ∧ ∀ w ∈ kDec, w.before #[] U = true
def kSta (H0 : Heap) (U : State) (H : Heap) : Prop := vx_Zq Bundle.tN "UNASSIGNED_STACK" Bundle.steD (fun q => H0.size ≤ q) U H ∧ vx_Zq Bundle.tN "SUPPRESSED_SENTINEL" Bundle.listD (fun q => H0.size ≤ q) U H
/-- what a method that may throw wants of its state -/
def kEt (U : State) : Prop := kCas U ∧ kSta U.heap U U.heap
theorem k_cas {a b : String} {A A' : Array Value} {u U : State} (hvm : u.vm.Alike U.vm) (h : (Cond.castable a b).before A u = true) : (Cond.castable a b).before A' U = true :=
  va_tabs (A := A) (u := u.setVm U.vm) rfl rfl ((Cond.castable_setVm hvm a b).trans h)
theorem k_decl {A A' : Array Value} {u U : State} (hvm : u.vm.Alike U.vm) (h : ∀ w ∈ kDec, w.before A u = true) : ∀ w ∈ kDec, w.before A' U = true := by
  have one : ∀ y : MethodName, (Cond.declares y).before A u = true → (Cond.declares y).before A' U = true := fun y hy =>
    va_tabs (A := A) (u := u.setVm U.vm) rfl rfl ((Cond.declares_setVm hvm y).trans hy)
  intro w hw
  rcases List.mem_cons.mp hw with rfl | hw
  · exact one _ (h _ List.mem_cons_self)
  rcases List.mem_cons.mp hw with rfl | hw
  · exact one _ (h _ (List.mem_cons_of_mem _ List.mem_cons_self))
  rcases List.mem_cons.mp hw with rfl | hw
  · exact one _ (h _ (List.mem_cons_of_mem _ (List.mem_cons_of_mem _ List.mem_cons_self)))
  · exact absurd hw List.not_mem_nil
theorem kEt_at {s U : State} {H : Heap} {locs : List Loc} (h : kEt s) (hS : va_S (fun q => s.heap.size ≤ q) s.heap H locs) (hU : U.heap = H) (hW : s.WarmedH U.vm) : kEt U := by
  subst hU
  obtain ⟨⟨c1, c2, c3, c4⟩, z1, z2⟩ := h
  have hv := hW.alike
  have hz : ∀ q, U.heap.size ≤ q → s.heap.size ≤ q := fun q h => Nat.le_trans hS.1 h
  exact ⟨⟨k_cas hv c1, k_cas hv c2, k_cas hv c3, k_decl hv c4⟩, vx_Zq.moved hv ((z1.kept hS.2.1).narrow hz), vx_Zq.moved hv ((z2.kept hS.2.1).narrow hz)⟩
theorem kEt_same {u U : State} (hv : U.vm = u.vm) (hh : U.heap = u.heap) (h : kEt u) : kEt U := by
  obtain ⟨⟨c1, c2, c3, c4⟩, z1, z2⟩ := h
  have hal : u.vm.Alike U.vm := by rw [hv]; exact Vm.Alike.refl _
  refine ⟨⟨k_cas hal c1, k_cas hal c2, k_cas hal c3, k_decl hal c4⟩, ?_⟩
  unfold kSta
  rw [hh]
  exact ⟨vx_Zq.moved hal z1, vx_Zq.moved hal z2⟩
def kPx (D : va_G) (ty : List (ClassId × FieldType)) (wc : va_W) (sz : Nat) (av : List Value) : Array Value → State → Prop :=
  va_Pc av (fun U => U.heap.size = sz ∧ va_P D vwCl wc U.heap ∧ va_K D vwCl ty U ∧ va_D (fun _ => True) wc ∧ kEn U ∧ kEt U)
theorem kPx_blind {D : va_G} {ty : List (ClassId × FieldType)} {wc : va_W} {sz : Nat} {av : List Value} : FrameBlind (kPx D ty wc sz av) := fun a U g mk q => by
  obtain ⟨q0, q1, qP, qK, qD, qE, qT⟩ := q
  exact ⟨q0, q1, qP, va_K.moved (u := U) (U := U.calling g mk a) (Vm.Alike.refl U.vm) qK, qD, kEn.same (u := U) (U := U.calling g mk a) rfl qE, kEt_same (u := U) (U := U.calling g mk a) rfl rfl qT⟩
theorem kPx_at {D : va_G} {ty : List (ClassId × FieldType)} {wc : va_W} {av : List Value} {s : State} {H : Heap} {locs : List Loc} (hK : va_K D vwCl ty s) (hE : kEn s) (hT : kEt s) (hS : va_S (fun q => s.heap.size ≤ q) s.heap H locs) (hP : va_P D vwCl wc H) (hD : va_D (fun _ => True) wc) (U : State) (hU : U.heap = H) (hW : s.WarmedH U.vm) : kPx D ty wc H.size av av.toArray U :=
  ⟨rfl, by rw [hU], by rw [hU]; exact hP, va_K.moved hW.alike hK, hD, kEn.warm hW hE, kEt_at hT hS hU hW⟩
/-- it throws E0, nothing old changes -/
abbrev kXe (E0 : String) : String → State → State → Prop := vx_X (fun _ : Unit => True) (fun E _ _ => E = E0) noF
abbrev kQx : Array Value → State → Outcome → State → Prop := va_Qi (fun _ (_ : Unit) => False) (fun _ _ => True) noF
abbrev kQxv : Array Value → State → Outcome → State → Prop := va_Qv (fun _ : Unit => False) (fun _ _ => True) noF
theorem k_xofW {l : Launch} {y : MethodName} {rm : Room} {D : va_G} {ty : List (ClassId × FieldType)} {wc : va_W} {sz : Nat} {av : List Value} {Qc : Array Value → State → Outcome → State → Prop} {XC : String → State → State → Prop} {mc ms : Nat} {free : Addr → Prop} {cc : ByteArray} {maxL : Nat} {ret : Option FieldType}
    (hy : plainName y.cls = true) (hlen : (lg_sl av).length ≤ maxL)
    (body : ∀ (p : Program) (e : Env) (s : State) (m : MethodId) (args : Array Value) (below : List Frame) (meth : Method) (c : Code), p.tables.exec = Jvm.exec → c.code = cc → meth.sig.returnType = ret → c.maxLocals = maxL → (∀ w ∈ wsL_law, w.before args s = true) → s.vm.findClass y.cls = some m.cls → meth.locks = false → (∀ x ∈ c.exceptionTable.toList, False) →
      s.heap.size = sz → va_P D vwCl wc s.heap → va_K D vwCl ty s → va_D (va_A wc sz) wc → kEn s → kEt s → ∀ ls : Array Slot, lv_has ls maxL (lv_args 0 av) → W p l e rm s m args below meth c s.heap [] 0 0 (vx_MQ below Qc XC args s mc ms free) (F0 m 0 ls [])) : vx_Met l y (wy_ y cc maxL ret) rm (kPx D ty wc sz av) Qc XC mc ms free := by
  refine vx_ofW (cc := cc) (maxL := maxL) (ret := ret) hy rfl ?_
  intro p e s m args below meth c s₁ B hml hno hv
  obtain ⟨rfl, hsz, hP, hK, hD, hE, hT⟩ := hv
  rw [lg_entry_eq]
  exact body p e s m _ below meth c B.exec B.bytes B.returns hml (fun w hw => atoms_spec (ws := wy_ y cc maxL ret) B.pre w (List.mem_cons_of_mem _ hw)) (findClass_of_methodNamed B.named) B.notSynchronized hno hsz hP hK hD.self hE hT _ (lv_entry av hlen)
theorem k_inA : ∀ w ∈ (vx_atS RX4 42 eA kSup).filter goodWord, w ∈ wsL_law := fun _ h => List.mem_append_left _ (List.mem_append_left _ (List.mem_append_right _ h))
theorem k_inB : ∀ w ∈ (vx_atS RX4 291 eB kSup).filter goodWord, w ∈ wsL_law := fun _ h => List.mem_append_left _ (List.mem_append_right _ h)
theorem k_inS : ∀ w ∈ (vx_atS RX4 53 eS kSup).filter goodWord, w ∈ wsL_law := fun _ h => List.mem_append_right _ h
theorem k_hatA {A : Array Value} {s : State} (hts : ∀ w ∈ wsL_law, w.before A s = true) (hc : kCas s) : ∀ w ∈ vx_atS RX4 42 eA kSup, w.before A s = true :=
  vx_hat (B := Cond.castable eA eA :: kDec) (fun w hw => hts w (k_inA w hw)) (by decide +kernel) (vx_c (k_cas (Vm.Alike.refl _) hc.1) (k_decl (Vm.Alike.refl _) hc.2.2.2))
theorem k_hatS {A : Array Value} {s : State} (hts : ∀ w ∈ wsL_law, w.before A s = true) (hc : kCas s) : ∀ w ∈ vx_atS RX4 53 eS kSup, w.before A s = true :=
  vx_hat (B := Cond.castable eS eS :: kDec) (fun w hw => hts w (k_inS w hw)) (by decide +kernel) (vx_c (k_cas (Vm.Alike.refl _) hc.2.1) (k_decl (Vm.Alike.refl _) hc.2.2.2))
theorem k_hatB {A : Array Value} {s : State} (hts : ∀ w ∈ wsL_law, w.before A s = true) (hc : kCas s) : ∀ w ∈ vx_atS RX4 291 eB kSup, w.before A s = true :=
  vx_hat (B := Cond.castable eB eB :: kDec) (fun w hw => hts w (k_inB w hw)) (by decide +kernel) (vx_c (k_cas (Vm.Alike.refl _) hc.2.2.1) (k_decl (Vm.Alike.refl _) hc.2.2.2))
theorem k_gdA : ∀ w ∈ Cond.classLink RX4 38 eA :: Cond.initialized eA :: vx_atS RX4 42 eA kSup, vx_ot w = true := by decide +kernel
theorem k_gdS : ∀ w ∈ Cond.classLink RX4 49 eS :: Cond.initialized eS :: vx_atS RX4 53 eS kSup, vx_ot w = true := by decide +kernel
theorem k_gdB : ∀ w ∈ Cond.classLink RX4 287 eB :: Cond.initialized eB :: vx_atS RX4 291 eB kSup, vx_ot w = true := by decide +kernel
theorem k_fitS : ∀ n ∈ kSup, Bundle.fit n = true := by decide +kernel
section KX
variable {p : Program} {l : Launch} {e : Env} {R : Room} {s : State} {m : MethodId} {args : Array Value} {below : List Frame} {meth : Method} {c : Code} {Q : State → Prop}
variable {cc bytes : ByteArray} {pc nL maxL n index : Nat} {ls : Array Slot} {rest st0 As : List Value} {D : va_G} {A0 : Nat → Prop} {b : Nat} {ty : List (ClassId × FieldType)} {w1 wc w3 : va_W} {y : MethodName} {own C E0 : String} {ret : Option FieldType} {rm : Room} {Qc : Array Value → State → Outcome → State → Prop} {is : Nat} {text : String}
theorem k_xtA (hx : p.tables.exec = Jvm.exec) (hb : c.code = cc) (hl : l.stackTraces = false) (hts : ∀ w ∈ wsL_law, w.before args s = true) (hown : s.vm.findClass RX4 = some m.cls) (hE : kEn s) (hT : kEt s) (hsz : ls.size = c.maxLocals) (hno : ∀ x ∈ c.exceptionTable.toList, False) (hlocks : meth.locks = false) (hst : (is, text) ∈ kStrs)
    (d0 : decode cc pc = .ok (.new 38, 3)) (d3 : decode cc (pc + 3) = .ok (.dup, 1)) (d4 : decode cc (pc + 4) = .ok (.ldc is, 2)) (d6 : decode cc (pc + 6) = .ok (.invokespecial 42, 3)) (d9 : decode cc (pc + 9) = .ok (.athrow, 1)) (hR : 5 < R.frames ∧ (rest.map fun v => v.category).sum + 82 ≤ R.locals ∧ 1 ≤ R.cells ∧ 6 ≤ R.slots) :
    W p l e R s m args below meth c s.heap [] 0 0 (vx_MQ below Qc (kXe eA) args s 1 6 noF) (F0 m pc ls rest) := by
  obtain ⟨sa, hstr⟩ := hE.2.2 _ hst
  exact vx_throwS (names := kSup) (A := fun q => s.heap.size ≤ q) hx hb hl hown (by decide +kernel) k_fitS (hts _ wd_classLink_RX4_38_java_lang_IllegalArgumentException) (hts _ wd_initialized_java_lang_IllegalArgumentException) hstr (k_hatA hts hT.1) k_gdA hT.2.1 hT.2.2 va_S.rf hsz d0 d3 d4 d6 d9 (fun x h => (hno x h).elim)
    hR.1 hR.2.1 (by have := hR.2.2.1; omega) (by have := hR.2.2.2; omega) hlocks (fun t _ h1 h2 => ⟨(), trivial, rfl, h1, fun q hq _ => h2 q hq⟩) (fun z hz => nomatch hz) (by omega) (by omega)
theorem k_xtS (hx : p.tables.exec = Jvm.exec) (hb : c.code = cc) (hl : l.stackTraces = false) (hts : ∀ w ∈ wsL_law, w.before args s = true) (hown : s.vm.findClass RX4 = some m.cls) (hE : kEn s) (hT : kEt s) (hsz : ls.size = c.maxLocals) (hno : ∀ x ∈ c.exceptionTable.toList, False) (hlocks : meth.locks = false) (hst : (is, text) ∈ kStrs)
    (d0 : decode cc pc = .ok (.new 49, 3)) (d3 : decode cc (pc + 3) = .ok (.dup, 1)) (d4 : decode cc (pc + 4) = .ok (.ldc is, 2)) (d6 : decode cc (pc + 6) = .ok (.invokespecial 53, 3)) (d9 : decode cc (pc + 9) = .ok (.athrow, 1)) (hR : 5 < R.frames ∧ (rest.map fun v => v.category).sum + 82 ≤ R.locals ∧ 1 ≤ R.cells ∧ 6 ≤ R.slots) :
    W p l e R s m args below meth c s.heap [] 0 0 (vx_MQ below Qc (kXe eS) args s 1 6 noF) (F0 m pc ls rest) := by
  obtain ⟨sa, hstr⟩ := hE.2.2 _ hst
  exact vx_throwS (names := kSup) (A := fun q => s.heap.size ≤ q) hx hb hl hown (by decide +kernel) k_fitS (hts _ wd_classLink_RX4_49_java_lang_IllegalStateException) (hts _ wd_initialized_java_lang_IllegalStateException) hstr (k_hatS hts hT.1) k_gdS hT.2.1 hT.2.2 va_S.rf hsz d0 d3 d4 d6 d9 (fun x h => (hno x h).elim)
    hR.1 hR.2.1 (by have := hR.2.2.1; omega) (by have := hR.2.2.2; omega) hlocks (fun t _ h1 h2 => ⟨(), trivial, rfl, h1, fun q hq _ => h2 q hq⟩) (fun z hz => nomatch hz) (by omega) (by omega)
theorem k_xtAW (hx : p.tables.exec = Jvm.exec) (hb : c.code = cc) (hl : l.stackTraces = false) (hts : ∀ w ∈ wsL_law, w.before args s = true) (hown : s.vm.findClass RX4 = some m.cls) (hE : kEn s) (hT : kEt s) (hsz : ls.size = c.maxLocals) (hno : ∀ x ∈ c.exceptionTable.toList, False) (hlocks : meth.locks = false) (hst : (is, text) ∈ kStrs)
    (d0 : decode cc pc = .ok (.new 38, 3)) (d3 : decode cc (pc + 3) = .ok (.dup, 1)) (d4 : decode cc (pc + 4) = .ok (.ldc_w is, 3)) (d7 : decode cc (pc + 7) = .ok (.invokespecial 42, 3)) (d10 : decode cc (pc + 10) = .ok (.athrow, 1)) (hR : 5 < R.frames ∧ (rest.map fun v => v.category).sum + 82 ≤ R.locals ∧ 1 ≤ R.cells ∧ 6 ≤ R.slots) :
    W p l e R s m args below meth c s.heap [] 0 0 (vx_MQ below Qc (kXe eA) args s 1 6 noF) (F0 m pc ls rest) := by
  obtain ⟨sa, hstr⟩ := hE.2.2 _ hst
  exact vx_throwSW (names := kSup) (A := fun q => s.heap.size ≤ q) hx hb hl hown (by decide +kernel) k_fitS (hts _ wd_classLink_RX4_38_java_lang_IllegalArgumentException) (hts _ wd_initialized_java_lang_IllegalArgumentException) hstr (k_hatA hts hT.1) k_gdA hT.2.1 hT.2.2 va_S.rf hsz d0 d3 d4 d7 d10 (fun x h => (hno x h).elim)
    hR.1 hR.2.1 (by have := hR.2.2.1; omega) (by have := hR.2.2.2; omega) hlocks (fun t _ h1 h2 => ⟨(), trivial, rfl, h1, fun q hq _ => h2 q hq⟩) (fun z hz => nomatch hz) (by omega) (by omega)
theorem k_xtSW (hx : p.tables.exec = Jvm.exec) (hb : c.code = cc) (hl : l.stackTraces = false) (hts : ∀ w ∈ wsL_law, w.before args s = true) (hown : s.vm.findClass RX4 = some m.cls) (hE : kEn s) (hT : kEt s) (hsz : ls.size = c.maxLocals) (hno : ∀ x ∈ c.exceptionTable.toList, False) (hlocks : meth.locks = false) (hst : (is, text) ∈ kStrs)
    (d0 : decode cc pc = .ok (.new 49, 3)) (d3 : decode cc (pc + 3) = .ok (.dup, 1)) (d4 : decode cc (pc + 4) = .ok (.ldc_w is, 3)) (d7 : decode cc (pc + 7) = .ok (.invokespecial 53, 3)) (d10 : decode cc (pc + 10) = .ok (.athrow, 1)) (hR : 5 < R.frames ∧ (rest.map fun v => v.category).sum + 82 ≤ R.locals ∧ 1 ≤ R.cells ∧ 6 ≤ R.slots) :
    W p l e R s m args below meth c s.heap [] 0 0 (vx_MQ below Qc (kXe eS) args s 1 6 noF) (F0 m pc ls rest) := by
  obtain ⟨sa, hstr⟩ := hE.2.2 _ hst
  exact vx_throwSW (names := kSup) (A := fun q => s.heap.size ≤ q) hx hb hl hown (by decide +kernel) k_fitS (hts _ wd_classLink_RX4_49_java_lang_IllegalStateException) (hts _ wd_initialized_java_lang_IllegalStateException) hstr (k_hatS hts hT.1) k_gdS hT.2.1 hT.2.2 va_S.rf hsz d0 d3 d4 d7 d10 (fun x h => (hno x h).elim)
    hR.1 hR.2.1 (by have := hR.2.2.1; omega) (by have := hR.2.2.2; omega) hlocks (fun t _ h1 h2 => ⟨(), trivial, rfl, h1, fun q hq _ => h2 q hq⟩) (fun z hz => nomatch hz) (by omega) (by omega)
theorem k_xtBW (hx : p.tables.exec = Jvm.exec) (hb : c.code = cc) (hl : l.stackTraces = false) (hts : ∀ w ∈ wsL_law, w.before args s = true) (hown : s.vm.findClass RX4 = some m.cls) (hE : kEn s) (hT : kEt s) (hsz : ls.size = c.maxLocals) (hno : ∀ x ∈ c.exceptionTable.toList, False) (hlocks : meth.locks = false) (hst : (is, text) ∈ kStrs)
    (d0 : decode cc pc = .ok (.new 287, 3)) (d3 : decode cc (pc + 3) = .ok (.dup, 1)) (d4 : decode cc (pc + 4) = .ok (.ldc_w is, 3)) (d7 : decode cc (pc + 7) = .ok (.invokespecial 291, 3)) (d10 : decode cc (pc + 10) = .ok (.athrow, 1)) (hR : 5 < R.frames ∧ (rest.map fun v => v.category).sum + 82 ≤ R.locals ∧ 1 ≤ R.cells ∧ 6 ≤ R.slots) :
    W p l e R s m args below meth c s.heap [] 0 0 (vx_MQ below Qc (kXe eB) args s 1 6 noF) (F0 m pc ls rest) := by
  obtain ⟨sa, hstr⟩ := hE.2.2 _ hst
  exact vx_throwSW (names := kSup) (A := fun q => s.heap.size ≤ q) hx hb hl hown (by decide +kernel) k_fitS (hts _ wd_classLink_RX4_287_java_lang_IndexOutOfBoundsException) (hts _ wd_initialized_java_lang_IndexOutOfBoundsException) hstr (k_hatB hts hT.1) k_gdB hT.2.1 hT.2.2 va_S.rf hsz d0 d3 d4 d7 d10 (fun x h => (hno x h).elim)
    hR.1 hR.2.1 (by have := hR.2.2.1; omega) (by have := hR.2.2.2; omega) hlocks (fun t _ h1 h2 => ⟨(), trivial, rfl, h1, fun q hq _ => h2 q hq⟩) (fun z hz => nomatch hz) (by omega) (by omega)
/-- a call of a method that throws: it goes on to the caller -/
theorem k_xoV (S : CallFix p m c cc nL s args wsL_law own) (hM : vx_Met l y (wy_ y bytes maxL ret) rm (kPx D ty wc s.heap.size (.ref b :: As)) kQxv (kXe E0) 1 6 noF) (hlk : KV own index C y bytes maxL ret n) (hrc : rm.cells = 1) (hrs : rm.slots = 6) (hR : rm.frames + 1 ≤ R.frames ∧ 8 + (maxL + 11) + rm.locals ≤ R.locals)
    (hrv : ∃ cell : Cell, s.heap[b]? = some cell ∧ cell.vm.isStatics = false ∧ s.vm.findClass C = some cell.cls) (hK : va_K D vwCl ty s) (hE : kEn s) (hT : kEt s) (hP : va_P D vwCl wc s.heap) (hD : va_D A0 wc) (hno : ∀ x ∈ c.exceptionTable.toList, False) (hlocks : meth.locks = false)
    (hn : As.length = n) (hsz : ls.size = nL) (hst : st0 = As.reverse ++ .ref b :: rest) (hrest : (rest.map fun v => v.category).sum ≤ 8) (hdg : decode cc pc = .ok (.invokevirtual index, 3)) (hf : 0 + 1 ≤ R.cells ∧ 0 + 6 ≤ R.slots) :
    W p l e R s m args below meth c s.heap [] 0 0 (vx_MQ below Qc (kXe E0) args s 1 6 noF) (F0 m pc ls st0) :=
  vx_callv (A0 := noF) (vx_runV S hM (k_cV S.2.2.2.2 hlk hrc hrs hR) ⟨kPx_blind, hrv, kPx_at hK hE hT va_S.rf hP (hD.weaken fun _ _ _ _ => trivial)⟩ rfl hn hsz hst (lv_room hrest) hdg hf) va_S.rf (fun _ _ h => h.elim) (fun _ h => h.elim) (fun _ _ h => h)
    (fun E ce q9 u t H1 locs1 _ _ _ hB hz hk hS1 hce hv hcl => vx_out (fun x h => (hno x h).elim) hlocks hce hv hcl (fun t' ht' _ => ⟨(), trivial, hB, by rw [ht']; exact hz, fun q hq h => by rw [ht']; exact hk q hq h⟩) (fun z hz => hS1.2.2 z hz) (by omega) (by omega))
    (fun u t H1 locs1 _ _ hpost _ _ _ _ => hpost.elim)
theorem k_xoS (S : CallFix p m c cc nL s args wsL_law own) (hM : vx_Met l y (wy_ y bytes maxL ret) rm (kPx D ty wc s.heap.size As) kQxv (kXe E0) 1 6 noF) (hlk : KS own index y bytes maxL ret n) (hrc : rm.cells = 1) (hrs : rm.slots = 6) (hR : rm.frames + 1 ≤ R.frames ∧ 8 + (maxL + 11) + rm.locals ≤ R.locals)
    (hK : va_K D vwCl ty s) (hE : kEn s) (hT : kEt s) (hP : va_P D vwCl wc s.heap) (hD : va_D A0 wc) (hno : ∀ x ∈ c.exceptionTable.toList, False) (hlocks : meth.locks = false)
    (hn : As.length = n) (hsz : ls.size = nL) (hst : st0 = As.reverse ++ rest) (hrest : (rest.map fun v => v.category).sum ≤ 8) (hdg : decode cc pc = .ok (.invokestatic index, 3)) (hf : 0 + 1 ≤ R.cells ∧ 0 + 6 ≤ R.slots) :
    W p l e R s m args below meth c s.heap [] 0 0 (vx_MQ below Qc (kXe E0) args s 1 6 noF) (F0 m pc ls st0) :=
  vx_callv (A0 := noF) (vx_runS S hM (k_cS S.2.2.2.2 hlk hrc hrs hR) ⟨kPx_blind, kPx_at hK hE hT va_S.rf hP (hD.weaken fun _ _ _ _ => trivial)⟩ rfl hn hsz hst (lv_room hrest) hdg hf) va_S.rf (fun _ _ h => h.elim) (fun _ h => h.elim) (fun _ _ h => h)
    (fun E ce q9 u t H1 locs1 _ _ _ hB hz hk hS1 hce hv hcl => vx_out (fun x h => (hno x h).elim) hlocks hce hv hcl (fun t' ht' _ => ⟨(), trivial, hB, by rw [ht']; exact hz, fun q hq h => by rw [ht']; exact hk q hq h⟩) (fun z hz => hS1.2.2 z hz) (by omega) (by omega))
    (fun u t H1 locs1 _ _ hpost _ _ _ _ => hpost.elim)
/-- a call of a method that throws E0, caught here -/
theorem k_xcV {name : String} {ce0 : ExceptionTableEntry} (pre : List ExceptionTableEntry) (suf : List ExceptionTableEntry) (S : CallFix p m c cc nL s args wsL_law own) (hM : vx_Met l y (wy_ y bytes maxL ret) rm (kPx D ty wc s.heap.size (.ref b :: As)) kQx (kXe E0) 1 6 noF) (hlk : KV own index C y bytes maxL ret n) (hrc : rm.cells = 1) (hrs : rm.slots = 6) (hR : rm.frames + 1 ≤ R.frames ∧ 8 + (maxL + 11) + rm.locals ≤ R.locals)
    (hrv : ∃ cell : Cell, s.heap[b]? = some cell ∧ cell.vm.isStatics = false ∧ s.vm.findClass C = some cell.cls) (hK : va_K D vwCl ty s) (hE : kEn s) (hT : kEt s) (hP : va_P D vwCl (wc ++ w3) s.heap) (hD : va_D A0 (wc ++ w3))
    (hsplit : c.exceptionTable.toList = pre ++ ce0 :: suf) (hpass : ∀ z ∈ pre, covers z pc = false ∨ (z.catchType ≠ 0 ∧ ∃ nm : String, (Cond.classLink own z.catchType nm).before args s = true ∧ va_Nc E0 nm s)) (hcov : covers ce0 pc = true) (h0 : ce0.catchType ≠ 0) (hlink : (Cond.classLink own ce0.catchType name).before args s = true) (hcast : (Cond.castable E0 name).before #[] s = true)
    (hn : As.length = n) (hsz : ls.size = nL) (hst : st0 = As.reverse ++ .ref b :: rest) (hrest : (rest.map fun v => v.category).sum ≤ 8) (hdg : decode cc pc = .ok (.invokevirtual index, 3)) (hf : 0 + 1 ≤ R.cells ∧ 0 + 6 ≤ R.slots)
    (kk : ∀ (q9 : Nat) (H1 : Heap) (locs1 : List Loc), s.heap.size ≤ H1.size → va_P D vwCl (wc ++ w3) H1 → va_S A0 s.heap H1 locs1 → W p l e R s m args below meth c H1 locs1 (0 + 1) (0 + 6) Q (F0 m ce0.handlerPc ls [.ref q9])) :
    W p l e R s m args below meth c s.heap [] 0 0 Q (F0 m pc ls st0) := by
  have hPc : va_P D vwCl wc s.heap := va_P_of_mem fun q hq => va_P_mem hP (List.mem_append_left _ hq)
  have hDc : va_D (fun _ => True) wc := by
    have h := va_D_midL (w1 := []) (wc := wc) (w3 := w3) (A := A0) hD
    exact h.weaken fun _ _ _ _ => trivial
  refine vx_calli (A0 := A0) (vx_runV S hM (k_cV S.2.2.2.2 hlk hrc hrs hR) ⟨kPx_blind, hrv, kPx_at hK hE hT va_S.rf hPc hDc⟩ rfl hn hsz hst (lv_room hrest) hdg hf) va_S.rf (fun _ _ h => h.elim) (fun _ h => h.elim) (fun _ _ h => h.elim)
    (fun E ce q9 u t H1 locs1 _ _ _ hB hz hk hS1 hce hv hcl => ?_) (fun r u t H1 locs1 _ _ hpost _ _ _ _ => hpost.elim)
  have hB' : E = E0 := hB
  subst hB'
  exact vx_catch (own := own) (name := name) S.2.2.2.1 pre ce0 suf hsplit hpass hcov h0 hlink (k_cas (Vm.Alike.refl _) hcast) hce hv hcl (kk q9 H1 locs1 hz (va_P_of_mem fun q hq => (va_P_mem hP hq).kept (hk q.1 (va_P_mem hP hq).lt (fun h => h))) hS1)
end KX
/-- a method without an answer that only reads -/
def kRv : Array Value → State → Outcome → State → Prop := fun _ st o t => o = .returned none ∧ t.heap = st.heap
section KRV
variable {p : Program} {l : Launch} {e : Env} {R : Room} {s : State} {m : MethodId} {args : Array Value} {below : List Frame} {meth : Method} {c : Code} {H : Heap} {locs : List Loc} {cells slots : Nat} {Q : State → Prop}
variable {cc bytes : ByteArray} {pc nL maxL n index : Nat} {ls : Array Slot} {rest st0 As : List Value} {D : va_G} {A0 : Nat → Prop} {b : Nat} {ty : List (ClassId × FieldType)} {wc : va_W} {y : MethodName} {own C : String} {ret : Option FieldType} {rm : Room}
theorem k_callRv {a : Array Value} (hr : CallRun p l e R s m args below meth c H locs cells slots 0 0 (F0 m pc ls st0) rest (kRv a) (fun _ => False))
    (kk : W p l e R s m args below meth c H locs cells slots Q (F0 m (pc + 3) ls rest)) : W p l e R s m args below meth c H locs cells slots Q (F0 m pc ls st0) := by
  intro T hT X
  obtain ⟨v, st₀, t, T', L, h0, X', hL, e1, ⟨hv, hh⟩, st⟩ := hr T hT X
  cases hv
  obtain ⟨t2, a1, b1⟩ := kk T' (by rw [e1, hh, h0]) (Stand.forget X' (fun q h => (hL q h).elim))
  exact ⟨t2, st t2 a1, b1⟩
theorem k_rvV (S : CallFix p m c cc nL s args wsL_law own) (hM : Met l y (wy_ y bytes maxL ret) rm (kPc D ty wc H.size (.ref b :: As)) kRv 0 0 noF) (hlk : KV own index C y bytes maxL ret n) (hrc : rm.cells = 0) (hrs : rm.slots = 0) (hR : rm.frames + 1 ≤ R.frames ∧ 8 + (maxL + 11) + rm.locals ≤ R.locals)
    (hrv : ∃ cell : Cell, H[b]? = some cell ∧ cell.vm.isStatics = false ∧ s.vm.findClass C = some cell.cls) (hK : va_K D vwCl ty s) (hE : kEn s) (hP : va_P D vwCl wc H) (hD : va_D A0 wc) (hn : As.length = n) (hsz : ls.size = nL) (hst : st0 = As.reverse ++ .ref b :: rest) (hrest : (rest.map fun v => v.category).sum ≤ 8)
    (hdg : decode cc pc = .ok (.invokevirtual index, 3)) (hf : cells ≤ R.cells ∧ slots ≤ R.slots)
    (kk : W p l e R s m args below meth c H locs cells slots Q (F0 m (pc + 3) ls rest)) : W p l e R s m args below meth c H locs cells slots Q (F0 m pc ls st0) :=
  k_callRv (W.runV S hM (k_cV S.2.2.2.2 hlk hrc hrs hR) ⟨kPc_blind, hrv, kPc_at hK hE hP (hD.weaken fun _ _ _ _ => trivial)⟩ rfl hn hsz hst (lv_room hrest) hdg hf) kk
theorem k_rvS (S : CallFix p m c cc nL s args wsL_law own) (hM : Met l y (wy_ y bytes maxL ret) rm (kPc D ty wc H.size As) kRv 0 0 noF) (hlk : KS own index y bytes maxL ret n) (hrc : rm.cells = 0) (hrs : rm.slots = 0) (hR : rm.frames + 1 ≤ R.frames ∧ 8 + (maxL + 11) + rm.locals ≤ R.locals)
    (hK : va_K D vwCl ty s) (hE : kEn s) (hP : va_P D vwCl wc H) (hD : va_D A0 wc) (hn : As.length = n) (hsz : ls.size = nL) (hst : st0 = As.reverse ++ rest) (hrest : (rest.map fun v => v.category).sum ≤ 8)
    (hdg : decode cc pc = .ok (.invokestatic index, 3)) (hf : cells ≤ R.cells ∧ slots ≤ R.slots)
    (kk : W p l e R s m args below meth c H locs cells slots Q (F0 m (pc + 3) ls rest)) : W p l e R s m args below meth c H locs cells slots Q (F0 m pc ls st0) :=
  k_callRv (W.runS S hM (k_cS S.2.2.2.2 hlk hrc hrs hR) ⟨kPc_blind, kPc_at hK hE hP (hD.weaken fun _ _ _ _ => trivial)⟩ rfl hn hsz hst (lv_room hrest) hdg hf) kk
theorem k_eRv (hexec : p.tables.exec = Jvm.exec) (hb : c.code = cc) (hr : meth.sig.returnType = none) (hlocks : meth.locks = false) (hdg : decode cc pc = .ok (.return_, 1)) :
    W p l e R s m args below meth c s.heap [] cells slots (MQ below kRv args s cells slots noF) (F0 m pc ls []) :=
  W.vret hexec hb hr (fun _ ht _ => ⟨rfl, ht⟩) (fun _ h => absurd h List.not_mem_nil) hdg
/-- the whole world changed by a call -/
theorem k_nil {α : Type} (w : List α) : [] ++ (w ++ []) = w := by simp
theorem k_miV0 {r0 : Int32} {wc' : va_W} {H0 : Heap} (S : CallFix p m c cc nL s args wsL_law own) (hM : Met l y (wy_ y bytes maxL ret) rm (kPc D ty wc H.size (.ref b :: As)) (kMi D wc wc' H.size r0) 0 0 (va_A wc H.size)) (hlk : KV own index C y bytes maxL ret n) (hrc : rm.cells = 0) (hrs : rm.slots = 0) (hR : rm.frames + 1 ≤ R.frames ∧ 8 + (maxL + 11) + rm.locals ≤ R.locals)
    (hrv : ∃ cell : Cell, H[b]? = some cell ∧ cell.vm.isStatics = false ∧ s.vm.findClass C = some cell.cls) (hK : va_K D vwCl ty s) (hE : kEn s) (hP : va_P D vwCl wc H) (hD : va_D A0 wc) (hS : va_S A0 H0 H locs) (hA : ∀ q, H0.size ≤ q → A0 q) (ha : wc'.map Prod.fst = wc.map Prod.fst)
    (hn : As.length = n) (hsz : ls.size = nL) (hst : st0 = As.reverse ++ .ref b :: rest) (hrest : (rest.map fun v => v.category).sum ≤ 8)
    (hdg : decode cc pc = .ok (.invokevirtual index, 3)) (hf : cells ≤ R.cells ∧ slots ≤ R.slots)
    (kk : ∀ (H1 : Heap) (locs1 : List Loc), H.size ≤ H1.size → va_P D vwCl wc' H1 → va_D A0 wc' → va_S A0 H0 H1 locs1 → W p l e R s m args below meth c H1 locs1 cells slots Q (F0 m (pc + 3) ls (.int r0 :: rest))) : W p l e R s m args below meth c H locs cells slots Q (F0 m pc ls st0) :=
  k_miV (w1 := []) (w3 := []) S hM hlk hrc hrs hR hrv hK hE ((k_nil wc).symm ▸ hP) ((k_nil wc).symm ▸ hD) hS hA ha hn hsz hst hrest hdg hf (fun H1 locs1 hz h1 h2 h3 => kk H1 locs1 hz (k_nil wc' ▸ h1) (k_nil wc' ▸ h2) h3)
theorem k_mvV0 {wc' : va_W} {H0 : Heap} (S : CallFix p m c cc nL s args wsL_law own) (hM : Met l y (wy_ y bytes maxL ret) rm (kPc D ty wc H.size (.ref b :: As)) (kMv D wc wc' H.size) 0 0 (va_A wc H.size)) (hlk : KV own index C y bytes maxL ret n) (hrc : rm.cells = 0) (hrs : rm.slots = 0) (hR : rm.frames + 1 ≤ R.frames ∧ 8 + (maxL + 11) + rm.locals ≤ R.locals)
    (hrv : ∃ cell : Cell, H[b]? = some cell ∧ cell.vm.isStatics = false ∧ s.vm.findClass C = some cell.cls) (hK : va_K D vwCl ty s) (hE : kEn s) (hP : va_P D vwCl wc H) (hD : va_D A0 wc) (hS : va_S A0 H0 H locs) (hA : ∀ q, H0.size ≤ q → A0 q) (ha : wc'.map Prod.fst = wc.map Prod.fst)
    (hn : As.length = n) (hsz : ls.size = nL) (hst : st0 = As.reverse ++ .ref b :: rest) (hrest : (rest.map fun v => v.category).sum ≤ 8)
    (hdg : decode cc pc = .ok (.invokevirtual index, 3)) (hf : cells ≤ R.cells ∧ slots ≤ R.slots)
    (kk : ∀ (H1 : Heap) (locs1 : List Loc), H.size ≤ H1.size → va_P D vwCl wc' H1 → va_D A0 wc' → va_S A0 H0 H1 locs1 → W p l e R s m args below meth c H1 locs1 cells slots Q (F0 m (pc + 3) ls rest)) : W p l e R s m args below meth c H locs cells slots Q (F0 m pc ls st0) :=
  k_mvV (w1 := []) (w3 := []) S hM hlk hrc hrs hR hrv hK hE ((k_nil wc).symm ▸ hP) ((k_nil wc).symm ▸ hD) hS hA ha hn hsz hst hrest hdg hf (fun H1 locs1 hz h1 h2 h3 => kk H1 locs1 hz (k_nil wc' ▸ h1) (k_nil wc' ▸ h2) h3)
end KRV
