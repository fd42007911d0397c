/-! the law's own methods: a call of the class's method, its answer kept, its exceptions turned to numbers -/
abbrev outW (cL : ClassId) (o : Nat) (w : Int64) : va_W := [(o, .inl (cL, 1, .inr (.inl (fun _ => w))))]
/-- it never throws -/
abbrev kNX : String → State → State → Prop := vx_X (fun _ : Unit => False) (fun _ _ _ => True) noF
def sO (rc : Int32) (w : Int64) (r : Int32) : Int64 := if rc = 0 then r.toInt64 else w
def sQ (rc : Int32) (q : Nat) : Nat := if rc = 0 then p_nx q else q
def sC (rc : Int32) (c : Nat) : Nat := if rc = 0 then m_kc c else c
def sR6 (rc : Int32) (R : Nat → NN) (q : Nat) (N : NN) : Nat → NN := if rc = 0 then updN R (p_nx q) N else R
def sV (rc : Int32) (u v : Nat → Int32) : Nat → Int32 := if rc = 0 then u else v
def sZn (rc : Int32) (a b : Nat) : Nat := if rc = 0 then a else b
theorem k_wofW {l : Launch} {y : MethodName} {rm : Room} {D : va_G} {ty : List (ClassId × FieldType)} {wc : va_W} {sz : Nat} {av : List Value} {Qc : Array Value → State → Outcome → State → Prop} {XC : String → State → State → Prop} {mc ms : Nat} {free : Addr → Prop} {cc : ByteArray} {maxL : Nat} {ret : Option FieldType} {hh : List (Nat × Nat × Nat × Nat)}
    (hy : plainName y.cls = true) (hlen : (lg_sl av).length ≤ maxL)
    (body : ∀ (p : Program) (e : Env) (s : State) (m : MethodId) (args : Array Value) (below : List Frame) (meth : Method) (c : Code), p.tables.exec = Jvm.exec → c.code = cc → meth.sig.returnType = ret → c.maxLocals = maxL → (∀ w ∈ wsL_law, w.before args s = true) → s.vm.findClass y.cls = some m.cls → meth.locks = false → c.exceptionTable.toList = tableOf hh →
      s.heap.size = sz → va_P D vwCl wc s.heap → va_K D vwCl ty s → va_D (va_A wc sz) wc → kEn s → kEt s → ∀ ls : Array Slot, lv_has ls maxL (lv_args 0 av) → W p l e rm s m args below meth c s.heap [] 0 0 (vx_MQ below Qc XC args s mc ms free) (F0 m 0 ls [])) : vx_Met l y (wyW_ y cc maxL ret hh) rm (kPx D ty wc sz av) Qc XC mc ms free := by
  refine vx_ofWH (cc := cc) (maxL := maxL) (ret := ret) (hh := hh) hy rfl ?_
  intro p e s m args below meth c s₁ B hml hv
  obtain ⟨rfl, hsz, hP, hK, hD, hE, hT⟩ := hv
  have hat := atoms_spec (ws := wyW_ y cc maxL ret hh) B.pre
  have htab := vx_table (x := y) B (hat _ List.mem_cons_self)
  rw [lg_entry_eq]
  exact body p e s m _ below meth c B.exec B.bytes B.returns hml (fun w hw => hat w (List.mem_cons_of_mem _ hw)) (findClass_of_methodNamed B.named) B.notSynchronized htab hsz hP hK hD.self hE hT _ (lv_entry av hlen)
theorem vp_cell_one (c : ClassId) (w x : Int64) : vp_cell c (1, .inr (.inl (vp_updL (fun _ => w) 0 x))) = vp_cell c (1, .inr (.inl (fun _ => x))) := by
  rw [vp_cell_l, vp_cell_l]
  unfold arrV
  congr 1
section KWR
variable {p : Program} {l : Launch} {e : Env} {R : Room} {s : State} {m : MethodId} {args : Array Value} {below : List Frame} {meth : Method} {c : Code} {H : Heap} {locs : List Loc} {cells slots : Nat} {Q : State → Prop}
variable {cc bytes : ByteArray} {pc nL maxL n index : Nat} {ls : Array Slot} {rest st0 As : List Value} {D : va_G} {A0 : Nat → Prop} {a b : Nat} {ty : List (ClassId × FieldType)} {w1 wc wc' w3 ws ws' : va_W} {H0 : Heap} {y : MethodName} {own C : String} {ret : Option FieldType} {rm : Room}
theorem k_lst (hexec : p.tables.exec = Jvm.exec) (hb : c.code = cc) (hK : va_K D vwCl ty s) (hP : va_P D vwCl ws H) (hD : va_D A0 ws) (hS : va_S A0 H0 H locs) (q0 t0 : Nat) {cA : ClassId} {w x : Int64} (ha : ws[q0]? = some (a, .inl (cA, 1, .inr (.inl (fun _ => w))))) (ht : ty[t0]? = some (cA, .long)) (hdg : decode cc pc = .ok (.lastore, 1))
    (kk : ∀ (H1 : Heap) (locs1 : List Loc), va_P D vwCl (ws.set q0 (a, .inl (cA, 1, .inr (.inl (fun _ => x))))) H1 → va_D A0 (ws.set q0 (a, .inl (cA, 1, .inr (.inl (fun _ => x))))) → va_S A0 H0 H1 locs1 → W p l e R s m args below meth c H1 locs1 cells slots Q (F0 m (pc + 1) ls rest)) : W p l e R s m args below meth c H locs cells slots Q (F0 m pc ls (.long x :: .int 0 :: .ref a :: rest)) := by
  have h0 : (0 : Int32).toNatClampNeg = 0 := sb_cl0
  refine va_last hexec hb hK hP hD hS q0 t0 ha ht (vp_in_nI (n := 0) (N := 1) (by decide) (by decide)) hdg fun H1 locs1 h1 h2 h3 => ?_
  rw [h0] at h1 h2
  exact kk H1 locs1 (va_P_setc (vp_cell_one cA w x) h1) (va_D_setc h2) h3
theorem k_lld (hexec : p.tables.exec = Jvm.exec) (hb : c.code = cc) (hK : va_K D vwCl ty s) (hP : va_P D vwCl ws H) (q0 t0 : Nat) {cA : ClassId} {w : Int64} (ha : ws[q0]? = some (a, .inl (cA, 1, .inr (.inl (fun _ => w))))) (ht : ty[t0]? = some (cA, .long)) (hdg : decode cc pc = .ok (.laload, 1))
    (kk : W p l e R s m args below meth c H locs cells slots Q (F0 m (pc + 1) ls (.long w :: rest))) : W p l e R s m args below meth c H locs cells slots Q (F0 m pc ls (.int 0 :: .ref a :: rest)) :=
  va_lald hexec hb hK hP q0 t0 ha ht (vp_in_nI (n := 0) (N := 1) (by decide) (by decide)) hdg kk
/-- the end of such a method -/
theorem k_wend {r0 v : Int32} {XC : String → State → State → Prop} (hexec : p.tables.exec = Jvm.exec) (hb : c.code = cc) (hr : meth.sig.returnType = some .int) (hlocks : meth.locks = false) (hc : cells ≤ 1) (hs : slots ≤ 6) (hP : va_P D vwCl wc' H) (hS : va_S (va_A wc s.heap.size) s.heap H locs) (hv : v = r0) (hdg : decode cc pc = .ok (.ireturn, 1)) :
    W p l e R s m args below meth c H locs cells slots (vx_MQ below (kMi D wc wc' s.heap.size r0) XC args s 1 6 (va_A wc s.heap.size)) (F0 m pc ls [.int v]) :=
  W.widen hc hs (vx_ret (k_eMi hexec hb hr hlocks hP hS hv hdg))
/-- a call of such a method -/
theorem k_wcall {r0 : Int32} {hh : List (Nat × Nat × Nat × Nat)} (S : CallFix p m c cc nL s args wsL_law own) (hM : vx_Met l y (wyW_ y bytes maxL ret hh) rm (kPx D ty wc H.size As) (kMi D wc wc' H.size r0) kNX 1 6 (va_A wc H.size)) (hlk : KSW own index y bytes maxL ret hh n) (hrc : rm.cells = 1) (hrs : rm.slots = 6) (hR : rm.frames + 1 ≤ R.frames ∧ 8 + (maxL + 11) + rm.locals ≤ R.locals)
    (hK : va_K D vwCl ty s) (hE : kEn s) (hT : kEt s) (hP : va_P D vwCl (w1 ++ (wc ++ w3)) H) (hD : va_D (fun q => s.heap.size ≤ q) (w1 ++ (wc ++ w3))) (hS : va_S (fun q => s.heap.size ≤ q) s.heap H locs) (ha : wc'.map Prod.fst = wc.map Prod.fst)
    (hn : As.length = n) (hsz : ls.size = nL) (hst : st0 = As.reverse ++ rest) (hrest : (rest.map fun v => v.category).sum ≤ 8)
    (hdg : decode cc pc = .ok (.invokestatic index, 3)) (hf : cells + 1 ≤ R.cells ∧ slots + 6 ≤ R.slots)
    (kk : ∀ (H1 : Heap) (locs1 : List Loc), H.size ≤ H1.size → va_P D vwCl (w1 ++ (wc' ++ w3)) H1 → va_D (fun q => s.heap.size ≤ q) (w1 ++ (wc' ++ w3)) → va_S (fun q => s.heap.size ≤ q) s.heap H1 locs1 → W p l e R s m args below meth c H1 locs1 (cells + 1) (slots + 6) Q (F0 m (pc + 3) ls (.int r0 :: rest))) : W p l e R s m args below meth c H locs cells slots Q (F0 m pc ls st0) := by
  have hF := k_free hD hS (fun q h => h)
  refine vx_calli (vx_runSX S hM (k_cSW S.2.2.2.2 hlk hrc hrs hR) ⟨kPx_blind, kPx_at hK hE hT hS (va_P_midL hP) ((va_D_midL hD).weaken fun _ _ _ _ => trivial)⟩ rfl hn hsz hst (lv_room hrest) hdg hf) hS (fun q _ h => hF q h) hF (fun _ _ h => h.elim) (fun E ce q9 u t H1 locs1 _ _ hp _ _ _ _ _ _ _ => hp.elim) (fun r u t H1 locs1 ht _ hr hB hz hk hS1 => ?_)
  subst hr
  rw [ht] at hB
  obtain ⟨h1, h2⟩ := k_join hP hD ha hk hB
  exact kk H1 locs1 hz h1 h2 hS1
/-- a call of a method that throws E0, caught here -/
theorem k_xcW {E0 : String} {name : String} {ce0 : ExceptionTableEntry} (pre : List ExceptionTableEntry) (suf : List ExceptionTableEntry) (S : CallFix p m c cc nL s args wsL_law own) (hM : vx_Met l y (wy_ y bytes maxL ret) rm (kPx D ty wc s.heap.size (.ref b :: As)) kQx (kXe E0) 1 6 noF) (hlk : KV own index C y bytes maxL ret n) (hrc : rm.cells = 1) (hrs : rm.slots = 6) (hR : rm.frames + 1 ≤ R.frames ∧ 8 + (maxL + 11) + rm.locals ≤ R.locals)
    (hrv : ∃ cell : Cell, s.heap[b]? = some cell ∧ cell.vm.isStatics = false ∧ s.vm.findClass C = some cell.cls) (hK : va_K D vwCl ty s) (hE : kEn s) (hT : kEt s) (hP : va_P D vwCl (w1 ++ (wc ++ w3)) s.heap) (hD : va_D A0 (w1 ++ (wc ++ w3)))
    (hsplit : c.exceptionTable.toList = pre ++ ce0 :: suf) (hpass : ∀ z ∈ pre, covers z pc = false ∨ (z.catchType ≠ 0 ∧ ∃ nm : String, (Cond.classLink own z.catchType nm).before args s = true ∧ va_Nc E0 nm s)) (hcov : covers ce0 pc = true) (h0 : ce0.catchType ≠ 0) (hlink : (Cond.classLink own ce0.catchType name).before args s = true) (hcast : (Cond.castable E0 name).before #[] s = true)
    (hn : As.length = n) (hsz : ls.size = nL) (hst : st0 = As.reverse ++ .ref b :: rest) (hrest : (rest.map fun v => v.category).sum ≤ 8) (hdg : decode cc pc = .ok (.invokevirtual index, 3)) (hf : 0 + 1 ≤ R.cells ∧ 0 + 6 ≤ R.slots)
    (kk : ∀ (q9 : Nat) (H1 : Heap) (locs1 : List Loc), s.heap.size ≤ H1.size → va_P D vwCl (w1 ++ (wc ++ w3)) H1 → va_S A0 s.heap H1 locs1 → W p l e R s m args below meth c H1 locs1 (0 + 1) (0 + 6) Q (F0 m ce0.handlerPc ls [.ref q9])) :
    W p l e R s m args below meth c s.heap [] 0 0 Q (F0 m pc ls st0) := by
  have hPc : va_P D vwCl wc s.heap := va_P_midL hP
  have hDc : va_D (fun _ => True) wc := (va_D_midL hD).weaken fun _ _ _ _ => trivial
  refine vx_calli (A0 := A0) (vx_runV S hM (k_cV S.2.2.2.2 hlk hrc hrs hR) ⟨kPx_blind, hrv, kPx_at hK hE hT va_S.rf hPc hDc⟩ rfl hn hsz hst (lv_room hrest) hdg hf) va_S.rf (fun _ _ h => h.elim) (fun _ h => h.elim) (fun _ _ h => h.elim)
    (fun E ce q9 u t H1 locs1 _ _ _ hB hz hk hS1 hce hv hcl => ?_) (fun r u t H1 locs1 _ _ hpost _ _ _ _ => hpost.elim)
  have hB' : E = E0 := hB
  subst hB'
  exact vx_catch (own := own) (name := name) S.2.2.2.1 pre ce0 suf hsplit hpass hcov h0 hlink (k_cas (Vm.Alike.refl _) hcast) hce hv hcl (kk q9 H1 locs1 hz (va_P_of_mem fun q hq => (va_P_mem hP hq).kept (hk q.1 (va_P_mem hP hq).lt (fun h => h))) hS1)
theorem k_wcallL {r0 : Int32} {hh : List (Nat × Nat × Nat × Nat)} (S : CallFix p m c cc nL s args wsL_law own) (hM : vx_Met l y (wyW_ y bytes maxL ret hh) rm (kPx D ty wc H.size As) (kMi D wc wc' H.size r0) kNX 1 6 (va_A wc H.size)) (hlk : KSW own index y bytes maxL ret hh n) (hrc : rm.cells = 1) (hrs : rm.slots = 6) (hR : rm.frames + 1 ≤ R.frames ∧ 8 + (maxL + 11) + rm.locals ≤ R.locals)
    (hK : va_K D vwCl ty s) (hE : kEn s) (hT : kEt s) (hP : va_P D vwCl (w1 ++ wc) H) (hD : va_D (fun q => s.heap.size ≤ q) (w1 ++ wc)) (hS : va_S (fun q => s.heap.size ≤ q) s.heap H locs) (ha : wc'.map Prod.fst = wc.map Prod.fst)
    (hn : As.length = n) (hsz : ls.size = nL) (hst : st0 = As.reverse ++ rest) (hrest : (rest.map fun v => v.category).sum ≤ 8)
    (hdg : decode cc pc = .ok (.invokestatic index, 3)) (hf : cells + 1 ≤ R.cells ∧ slots + 6 ≤ R.slots)
    (kk : ∀ (H1 : Heap) (locs1 : List Loc), H.size ≤ H1.size → va_P D vwCl (w1 ++ wc') H1 → va_D (fun q => s.heap.size ≤ q) (w1 ++ wc') → va_S (fun q => s.heap.size ≤ q) s.heap H1 locs1 → W p l e R s m args below meth c H1 locs1 (cells + 1) (slots + 6) Q (F0 m (pc + 3) ls (.int r0 :: rest))) : W p l e R s m args below meth c H locs cells slots Q (F0 m pc ls st0) :=
  k_wcall (w1 := w1) (w3 := []) S hM hlk hrc hrs hR hK hE hT ((List.append_nil wc).symm ▸ hP) ((List.append_nil wc).symm ▸ hD) hS ha hn hsz hst hrest hdg hf (fun H1 locs1 hz h1 h2 h3 => kk H1 locs1 hz (List.append_nil wc' ▸ h1) (List.append_nil wc' ▸ h2) h3)
end KWR
