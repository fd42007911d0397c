/-! constructors: final fields, new arrays of known classes, new objects beside a world, ends with a new world -/
section GF
variable {p : Program} {l : Launch} {e : Env} {R : Room} {s : State} {m : MethodId} {args : Array Value} {below : List Frame} {meth : Method} {c : Code} {H : Heap} {locs : List Loc} {cells slots : Nat} {Q : State → Prop}
variable {cc : ByteArray} {pc : Nat} {ls : Array Slot} {rest : List Value} {D : va_G} {A : Nat → Prop} {a index : Nat} {ty : List (ClassId × FieldType)} {ws : va_W} {H0 : Heap} {own ref : String}
theorem Fp0 (hx : p.tables.exec = Jvm.exec) (hb : c.code = cc) (hts : ∀ w ∈ wsL_law, w.before args s = true) (hown : s.vm.findClass own = some m.cls) (hK : va_K D vwCl ty s) (hP : va_P D vwCl ws H) (hD : va_D A ws) (hS : va_S A H0 H locs) (q0 : Nat) {fs : List Value} (he : ws[q0]? = some (a, .inr (0, fs))) (k : Nat) (hk : k < 2) (hlink : Cond.fieldLink own index ref (TX0 k).2.1 (TX0 k).2.2.1 ∈ wsL_law) (hsame : ∀ x, s.fieldFound? (TX0 k).1 (TX0 k).2.1 (TX0 k).2.2.1 = some x → s.fieldFound? ref (TX0 k).2.1 (TX0 k).2.2.1 = some x) {v : Value} (hfin : (TX0 k).2.2.2 = true) (hin2 : meth.name = "<init>") (hdecl : (TX0 k).1 = own) (hn : narrow (tyX0 k) v = v) (hfit : fits (tyX0 k) v = true) (hl : k < fs.length) (hdg : decode cc pc = .ok (.putfield index, 3))
    (kk : ∀ (H1 : Heap) (locs1 : List Loc), va_P D vwCl (ws.set q0 (a, .inr (0, fs.set k v))) H1 → va_D A (ws.set q0 (a, .inr (0, fs.set k v))) → va_S A H0 H1 locs1 → W p l e R s m args below meth c H1 locs1 cells slots Q (F0 m (pc + 3) ls rest)) : W p l e R s m args below meth c H locs cells slots Q (F0 m pc ls (v :: .ref a :: rest)) :=
  va_putF hx hb hts inlX0 tyX0 tyX0_ok nmX0 hown hK hP hD hS q0 he rfl k hk (hts _ hlink) hsame hfin hin2 hdecl (tyX0_ok k hk) hn hfit hl hdg kk
theorem Fp3 (hx : p.tables.exec = Jvm.exec) (hb : c.code = cc) (hts : ∀ w ∈ wsL_law, w.before args s = true) (hown : s.vm.findClass own = some m.cls) (hK : va_K D vwCl ty s) (hP : va_P D vwCl ws H) (hD : va_D A ws) (hS : va_S A H0 H locs) (q0 : Nat) {fs : List Value} (he : ws[q0]? = some (a, .inr (2, fs))) (k : Nat) (hk : k < 17) (hlink : Cond.fieldLink own index ref (TX3 k).2.1 (TX3 k).2.2.1 ∈ wsL_law) (hsame : ∀ x, s.fieldFound? (TX3 k).1 (TX3 k).2.1 (TX3 k).2.2.1 = some x → s.fieldFound? ref (TX3 k).2.1 (TX3 k).2.2.1 = some x) {v : Value} (hfin : (TX3 k).2.2.2 = true) (hin2 : meth.name = "<init>") (hdecl : (TX3 k).1 = own) (hn : narrow (tyX3 k) v = v) (hfit : fits (tyX3 k) v = true) (hl : k < fs.length) (hdg : decode cc pc = .ok (.putfield index, 3))
    (kk : ∀ (H1 : Heap) (locs1 : List Loc), va_P D vwCl (ws.set q0 (a, .inr (2, fs.set k v))) H1 → va_D A (ws.set q0 (a, .inr (2, fs.set k v))) → va_S A H0 H1 locs1 → W p l e R s m args below meth c H1 locs1 cells slots Q (F0 m (pc + 3) ls rest)) : W p l e R s m args below meth c H locs cells slots Q (F0 m pc ls (v :: .ref a :: rest)) :=
  va_putF hx hb hts inlX3 tyX3 tyX3_ok nmX3 hown hK hP hD hS q0 he rfl k hk (hts _ hlink) hsame hfin hin2 hdecl (tyX3_ok k hk) hn hfit hl hdg kk
theorem Fp4 (hx : p.tables.exec = Jvm.exec) (hb : c.code = cc) (hts : ∀ w ∈ wsL_law, w.before args s = true) (hown : s.vm.findClass own = some m.cls) (hK : va_K D vwCl ty s) (hP : va_P D vwCl ws H) (hD : va_D A ws) (hS : va_S A H0 H locs) (q0 : Nat) {fs : List Value} (he : ws[q0]? = some (a, .inr (3, fs))) (k : Nat) (hk : k < 5) (hlink : Cond.fieldLink own index ref (TX4 k).2.1 (TX4 k).2.2.1 ∈ wsL_law) (hsame : ∀ x, s.fieldFound? (TX4 k).1 (TX4 k).2.1 (TX4 k).2.2.1 = some x → s.fieldFound? ref (TX4 k).2.1 (TX4 k).2.2.1 = some x) {v : Value} (hfin : (TX4 k).2.2.2 = true) (hin2 : meth.name = "<init>") (hdecl : (TX4 k).1 = own) (hn : narrow (tyX4 k) v = v) (hfit : fits (tyX4 k) v = true) (hl : k < fs.length) (hdg : decode cc pc = .ok (.putfield index, 3))
    (kk : ∀ (H1 : Heap) (locs1 : List Loc), va_P D vwCl (ws.set q0 (a, .inr (3, fs.set k v))) H1 → va_D A (ws.set q0 (a, .inr (3, fs.set k v))) → va_S A H0 H1 locs1 → W p l e R s m args below meth c H1 locs1 cells slots Q (F0 m (pc + 3) ls rest)) : W p l e R s m args below meth c H locs cells slots Q (F0 m pc ls (v :: .ref a :: rest)) :=
  va_putF hx hb hts inlX4 tyX4 tyX4_ok nmX4 hown hK hP hD hS q0 he rfl k hk (hts _ hlink) hsame hfin hin2 hdecl (tyX4_ok k hk) hn hfit hl hdg kk
end GF
theorem wd_iX2 : Cond.instanceMethod yX2_init ∈ wsL_law := (m_r2 _ (List.mem_of_getElem? (i := 17) rfl))
theorem wd_cX2 : Cond.code yX2_init cX2_init 1 none ∈ wsL_law := (m_r2 _ (List.mem_of_getElem? (i := 18) rfl))
/-- the numbers at first -/
def Z0 : NN := fun _ _ => 0
def N0 : NN := up2 (up2 (up2 (up2 (up2 (up2 (up2 Z0 0 0 12) 0 1 1) 0 2 50) 1 1 200) 2 0 60) 2 1 60) 2 2 60
def z0 : Nat → Int32 := fun _ => 0
abbrev kNv {S : Type} (D : va_G) (w0 : va_W) (sz : Nat) (q : S → Prop) (Wf : S → va_W) : Array Value → State → Outcome → State → Prop := va_Qv q (fun u t => va_P D vwCl (Wf u) t.heap ∧ va_D (va_A w0 sz) (Wf u)) (va_A w0 sz)
/-- behind the making of an object: the world beside it is as it was -/
theorem k_joinN {A0 : Nat → Prop} {D : va_G} {cl : List vw_C} {w1 wc w' : va_W} {H H1 : Heap} (hP : va_P D cl (w1 ++ wc) H) (hD : va_D A0 (w1 ++ wc)) (hF : ∀ q, va_A wc H.size q → A0 q)
    (hk : ∀ q : Nat, q < H.size → ¬ va_A wc H.size q → H1[q]? = H[q]?) (hP1 : va_P D cl w' H1) (hD1 : va_D (va_A wc H.size) w') : va_P D cl (w1 ++ w') H1 ∧ va_D A0 (w1 ++ w') := by
  have hD' : va_D A0 (w1 ++ (wc ++ [])) := by rw [List.append_nil]; exact hD
  have apart : ∀ q ∈ w1, q.1 < H.size ∧ ¬ va_A wc H.size q.1 := by
    intro q hq
    have hl := (va_P_mem hP (List.mem_append_left _ hq)).lt
    refine ⟨hl, fun h => ?_⟩
    rcases h with ⟨k, e, h⟩ | h
    · exact va_D_mid_ne hD' (Or.inl hq) (List.mem_of_getElem? h) rfl
    · omega
  have hnd := va_D_nd hD
  rw [List.map_append, List.nodup_append] at hnd
  refine ⟨va_P_of_mem fun q hq => ?_, va_D_of ?_ fun q hq => ?_⟩
  · rcases List.mem_append.mp hq with h | h
    · exact (va_P_mem hP (List.mem_append_left _ h)).kept (hk q.1 (apart q h).1 (apart q h).2)
    · exact va_P_mem hP1 h
  · rw [List.map_append, List.nodup_append]
    refine ⟨hnd.1, va_D_nd hD1, fun a ha b hb he => ?_⟩
    obtain ⟨x, hx, rfl⟩ := List.mem_map.mp ha
    obtain ⟨y, hy, rfl⟩ := List.mem_map.mp hb
    have h2 := va_D_all hD1 y hy
    rw [← he] at h2
    exact (apart x hx).2 h2
  · rcases List.mem_append.mp hq with h | h
    · exact va_D_all hD q (List.mem_append_left _ h)
    · exact hF _ (va_D_all hD1 q h)
theorem vp_cell_6 (c : ClassId) {n : Nat} (f g : Nat → Option Nat) (h : ∀ j, j < n → f j = g j) : vp_cell c (n, .inr (.inr (.inr (.inr f)))) = vp_cell c (n, .inr (.inr (.inr (.inr g)))) := by
  rw [vp_cell_q, vp_cell_q]
  unfold arrV
  congr 2
  funext j
  show va_rf (f j.val) = va_rf (g j.val)
  rw [h j.val j.isLt]
/-- the premise of the making of a row of stations -/
def kPo (D : va_G) (ty : List (ClassId × FieldType)) (wc : va_W) (sz : Nat) (av : List Value) : Array Value → State → Prop :=
  va_Pc av (fun U => U.heap.size = sz ∧ va_P D vwCl wc U.heap ∧ va_K D vwCl ty U ∧ va_D (fun _ => True) wc ∧ kEn U ∧ va_AO RX3 U)
theorem kPo_blind {D : va_G} {ty : List (ClassId × FieldType)} {wc : va_W} {sz : Nat} {av : List Value} : FrameBlind (kPo D ty wc sz av) := fun a U g mk q => by
  obtain ⟨q0, q1, qP, qK, qD, qE, qO⟩ := q
  exact ⟨q0, q1, qP, va_K.moved (u := U) (U := U.calling g mk a) (Vm.Alike.refl U.vm) qK, qD, kEn.same (u := U) (U := U.calling g mk a) rfl qE, va_AO.moved (u := U) (U := U.calling g mk a) (Vm.Alike.refl U.vm) qO⟩
theorem kPo_at {D : va_G} {ty : List (ClassId × FieldType)} {wc : va_W} {av : List Value} {s : State} {H : Heap} (hK : va_K D vwCl ty s) (hE : kEn s) (hO : va_AO RX3 s) (hP : va_P D vwCl wc H) (hD : va_D (fun _ => True) wc) (U : State) (hU : U.heap = H) (hW : s.WarmedH U.vm) : kPo D ty wc H.size av av.toArray U :=
  ⟨rfl, by rw [hU], by rw [hU]; exact hP, va_K.moved hW.alike hK, hD, kEn.warm hW hE, va_AO.moved hW.alike hO⟩
theorem k_oofW {l : Launch} {y : MethodName} {rm : Room} {D : va_G} {ty : List (ClassId × FieldType)} {wc : va_W} {sz : Nat} {av : List Value} {Qc : Array Value → State → Outcome → State → Prop} {mc ms : Nat} {free : Addr → Prop} {cc : ByteArray} {maxL : Nat} {ret : Option FieldType}
    (hy : plainName y.cls = true) (hlen : (lg_sl av).length ≤ maxL)
    (body : ∀ (p : Program) (e : Env) (s : State) (m : MethodId) (args : Array Value) (below : List Frame) (meth : Method) (c : Code), p.tables.exec = Jvm.exec → c.code = cc → meth.sig.returnType = ret → c.maxLocals = maxL → (∀ w ∈ wsL_law, w.before args s = true) → s.vm.findClass y.cls = some m.cls → meth.locks = false → meth.name = y.name →
      s.heap.size = sz → va_P D vwCl wc s.heap → va_K D vwCl ty s → va_D (va_A wc sz) wc → kEn s → va_AO RX3 s → ∀ ls : Array Slot, lv_has ls maxL (lv_args 0 av) → W p l e rm s m args below meth c s.heap [] 0 0 (MQ below Qc args s mc ms free) (F0 m 0 ls [])) : Met l y (wy_ y cc maxL ret) rm (kPo D ty wc sz av) Qc mc ms free := by
  refine Met.ofW (cc := cc) (maxL := maxL) (ret := ret) hy rfl ?_
  intro p e s m args below meth c s₁ B hml hv
  obtain ⟨rfl, hsz, hP, hK, hD, hE, hO⟩ := hv
  rw [lg_entry_eq]
  exact body p e s m _ below meth c B.exec B.bytes B.returns hml (fun w hw => atoms_spec (ws := wy_ y cc maxL ret) B.pre w (List.mem_cons_of_mem _ hw)) (findClass_of_methodNamed B.named) B.notSynchronized (name_of_methodNamed B.named B.method).1 hsz hP hK hD.self hE hO _ (lv_entry av hlen)
section KCT
variable {p : Program} {l : Launch} {e : Env} {R : Room} {s : State} {m : MethodId} {args : Array Value} {below : List Frame} {meth : Method} {c : Code} {H : Heap} {locs : List Loc} {cells slots : Nat} {Q : State → Prop}
variable {cc bytes : ByteArray} {pc nL maxL n index mc ms : Nat} {ls : Array Slot} {rest st0 As : List Value} {D : va_G} {A0 : Nat → Prop} {a b : Nat} {w0 w1 wc ws : va_W} {H0 : Heap} {y : MethodName} {own : String} {rm : Room} {cI cS cL : ClassId}
theorem k_newI (hexec : p.tables.exec = Jvm.exec) (hb : c.code = cc) (hts : ∀ w ∈ wsL_law, w.before args s = true) (hK : va_K D vwCl (kTy cI cS cL) s) (hP : va_P D vwCl ws H) (hD : va_D A0 ws) (hS : va_S A0 H0 H locs) (hA : ∀ q, H0.size ≤ q → A0 q) {k : Int32} {N' : Nat} (hn : ¬ k < 0) (hN : k.toNatClampNeg = N') (hbytes : N' * 4 ≤ 536870912) (hcells : cells + 1 ≤ R.cells) (hslots : slots + N' ≤ R.slots) (hdg : decode cc pc = .ok (.newarray .int, 2))
    (kk : ∀ (q : Nat) (H1 : Heap), va_P D vwCl (ws ++ [(q, .inl (cI, N', .inl z0))]) H1 → va_D A0 (ws ++ [(q, .inl (cI, N', .inl z0))]) → va_S A0 H0 H1 locs → W p l e R s m args below meth c H1 locs (cells + 1) (slots + N') Q (F0 m (pc + 2) ls (.ref q :: rest))) : W p l e R s m args below meth c H locs cells slots Q (F0 m pc ls (.int k :: rest)) := by
  refine va_newa (atype := .int) (ty := .int) (a0 := (N', .inl z0)) hexec hb (hts _ wd_arrayClass_int) rfl hK hP hD hS hA (fun cA => rfl) hn hN hbytes hcells hslots hdg (fun q cA H1 hK2 hP2 hD2 hS2 => ?_)
  have h1 : s.vm.findClass ("[" ++ FieldType.int.toString) = some cA := (hK2.2 2 (cA, .int) rfl).2
  have h2 : s.vm.findClass ("[" ++ FieldType.int.toString) = some cI := (hK.2 0 (cI, .int) rfl).2
  have e1 : cA = cI := Option.some.inj (h1.symm.trans h2)
  rw [e1] at hP2 hD2
  exact kk q H1 hP2 hD2 hS2
theorem k_newS (hexec : p.tables.exec = Jvm.exec) (hb : c.code = cc) (hown : s.vm.findClass own = some m.cls) (hclink : (Cond.classLink own index RX3).before args s = true) (hO : va_AO RX3 s) (hK : va_K D vwCl (kTy cI cS cL) s) (hP : va_P D vwCl ws H) (hD : va_D A0 ws) (hS : va_S A0 H0 H locs) (hA : ∀ q, H0.size ≤ q → A0 q) {k : Int32} {N' : Nat} (hn : ¬ k < 0) (hN : k.toNatClampNeg = N') (hbytes : N' * 4 ≤ 536870912) (hcells : cells + 1 ≤ R.cells) (hslots : slots + N' ≤ R.slots) (hdg : decode cc pc = .ok (.anewarray index, 3))
    (kk : ∀ (q : Nat) (H1 : Heap), va_P D vwCl (ws ++ [(q, .inl (cS, N', .inr (.inr (.inr (.inr (fun _ => none))))))]) H1 → va_D A0 (ws ++ [(q, .inl (cS, N', .inr (.inr (.inr (.inr (fun _ => none))))))]) → va_S A0 H0 H1 locs → W p l e R s m args below meth c H1 locs (cells + 1) (slots + N') Q (F0 m (pc + 3) ls (.ref q :: rest))) : W p l e R s m args below meth c H locs cells slots Q (F0 m pc ls (.int k :: rest)) := by
  refine va_newq hexec hb hown hclink hO hK hP hD hS hA hn hN hbytes hcells hslots hdg (fun q cA H1 hK2 hP2 hD2 hS2 => ?_)
  obtain ⟨k1, c1, g1, g2, g3, h1⟩ := (hK2.2 2 (cA, .object RX3) rfl).2
  obtain ⟨k2, c2, g4, g5, g6, h2⟩ := (hK.2 1 (cS, .object RX3) rfl).2
  have e1 : cA = cS := Option.some.inj (h1.symm.trans h2)
  rw [e1] at hP2 hD2
  exact kk q H1 hP2 hD2 hS2
theorem k_objI (hexec : p.tables.exec = Jvm.exec) (hb : c.code = cc) (hts : ∀ w ∈ wsL_law, w.before args s = true) (hown : s.vm.findClass own = some m.cls) (hlink : Cond.methodLink own index objectInit ∈ wsL_law) (hsz : ls.size = c.maxLocals) (hdg : decode cc pc = .ok (.invokespecial index, 3)) (hR : 1 ≤ R.frames ∧ (rest.map fun v => v.category).sum + 12 ≤ R.locals)
    (kk : W p l e R s m args below meth c H locs cells slots Q (F0 m (pc + 3) ls rest)) : W p l e R s m args below meth c H locs cells slots Q (F0 m pc ls (.ref a :: rest)) :=
  W.objInit hexec hb hown (hts _ hlink) (hts _ wd_instanceMethod_objectInit) (hts _ wd_code_objectInit_0xb1_1_none) (g := F0 m pc ls (.ref a :: rest)) rfl hsz rfl hdg hR.1 (by have h := hR.2; simpa [F0, JFrame.monitorRoom] using h) kk
theorem k_eNv {S : Type} {q : S → Prop} {Wf : S → va_W} (u : S) (hexec : p.tables.exec = Jvm.exec) (hb : c.code = cc) (hr : meth.sig.returnType = none) (hlocks : meth.locks = false) (hc : cells ≤ mc) (hs : slots ≤ ms) (hq : q u) (hP : va_P D vwCl (Wf u) H) (hD : va_D (va_A w0 s.heap.size) (Wf u)) (hS : va_S (va_A w0 s.heap.size) s.heap H locs) (hdg : decode cc pc = .ok (.return_, 1)) :
    W p l e R s m args below meth c H locs cells slots (MQ below (kNv D w0 s.heap.size q Wf) args s mc ms (va_A w0 s.heap.size)) (F0 m pc ls []) :=
  W.widen hc hs (W.vret hexec hb hr (fun t ht _ => ⟨⟨u, rfl, hq, (show va_P D vwCl (Wf u) t.heap by rw [ht]; exact hP), hD⟩, hS.F ht⟩) hS.2.2 hdg)
/-- an object's constructor, the object last in the world -/
theorem k_initV {S : Type} {q : S → Prop} {Wf : S → va_W} (C0 : CallFix p m c cc nL s args wsL_law own) (hM : Met l y (wy_ y bytes maxL none) rm (kPc D (kTy cI cS cL) wc H.size (.ref b :: As)) (kNv D wc H.size q Wf) mc ms (va_A wc H.size)) (hlk : KI own index y bytes maxL n) (hrc : rm.cells = mc) (hrs : rm.slots = ms) (hR : rm.frames + 1 ≤ R.frames ∧ 8 + (maxL + 11) + rm.locals ≤ R.locals)
    (hK : va_K D vwCl (kTy cI cS cL) s) (hE : kEn s) (hP : va_P D vwCl (w1 ++ wc) H) (hD : va_D A0 (w1 ++ wc)) (hS : va_S A0 H0 H locs) (hA : ∀ q, H0.size ≤ q → A0 q) (hn : As.length = n) (hsz : ls.size = nL) (hst : st0 = As.reverse ++ .ref b :: rest) (hrest : (rest.map fun v => v.category).sum ≤ 8)
    (hdg : decode cc pc = .ok (.invokespecial index, 3)) (hf : cells + mc ≤ R.cells ∧ slots + ms ≤ R.slots)
    (kk : ∀ (u : S) (H1 : Heap) (locs1 : List Loc), q u → va_P D vwCl (w1 ++ Wf u) H1 → va_D A0 (w1 ++ Wf u) → va_S A0 H0 H1 locs1 → W p l e R s m args below meth c H1 locs1 (cells + mc) (slots + ms) Q (F0 m (pc + 3) ls rest)) : W p l e R s m args below meth c H locs cells slots Q (F0 m pc ls st0) := by
  have hP' : va_P D vwCl (w1 ++ (wc ++ [])) H := by rw [List.append_nil]; exact hP
  have hD' : va_D A0 (w1 ++ (wc ++ [])) := by rw [List.append_nil]; exact hD
  have hF := k_free hD' hS hA
  refine va_callv (va_runI C0 hM (k_cI C0.2.2.2.2 hlk hrc hrs hR) ⟨kPc_blind, kPc_at hK hE (va_P_midL hP') ((va_D_midL hD').weaken fun _ _ _ _ => trivial)⟩ rfl hn hsz hst (lv_room hrest) hdg hf) hS (fun q _ h => hF q h) hF (fun u t H1 locs1 ht _ hq hB hz hk hS1 => ?_)
  obtain ⟨hB1, hB2⟩ := hB
  rw [ht] at hB1
  obtain ⟨h1, h2⟩ := k_joinN hP hD hF hk hB1 hB2
  exact kk u H1 locs1 hq h1 h2 hS1
theorem k_initO {S : Type} {q : S → Prop} {Wf : S → va_W} (C0 : CallFix p m c cc nL s args wsL_law own) (hM : Met l y (wy_ y bytes maxL none) rm (kPo D (kTy cI cS cL) wc H.size (.ref b :: As)) (kNv D wc H.size q Wf) mc ms (va_A wc H.size)) (hlk : KI own index y bytes maxL n) (hrc : rm.cells = mc) (hrs : rm.slots = ms) (hR : rm.frames + 1 ≤ R.frames ∧ 8 + (maxL + 11) + rm.locals ≤ R.locals)
    (hK : va_K D vwCl (kTy cI cS cL) s) (hE : kEn s) (hO : va_AO RX3 s) (hP : va_P D vwCl (w1 ++ wc) H) (hD : va_D A0 (w1 ++ wc)) (hS : va_S A0 H0 H locs) (hA : ∀ q, H0.size ≤ q → A0 q) (hn : As.length = n) (hsz : ls.size = nL) (hst : st0 = As.reverse ++ .ref b :: rest) (hrest : (rest.map fun v => v.category).sum ≤ 8)
    (hdg : decode cc pc = .ok (.invokespecial index, 3)) (hf : cells + mc ≤ R.cells ∧ slots + ms ≤ R.slots)
    (kk : ∀ (u : S) (H1 : Heap) (locs1 : List Loc), q u → va_P D vwCl (w1 ++ Wf u) H1 → va_D A0 (w1 ++ Wf u) → va_S A0 H0 H1 locs1 → W p l e R s m args below meth c H1 locs1 (cells + mc) (slots + ms) Q (F0 m (pc + 3) ls rest)) : W p l e R s m args below meth c H locs cells slots Q (F0 m pc ls st0) := by
  have hP' : va_P D vwCl (w1 ++ (wc ++ [])) H := by rw [List.append_nil]; exact hP
  have hD' : va_D A0 (w1 ++ (wc ++ [])) := by rw [List.append_nil]; exact hD
  have hF := k_free hD' hS hA
  refine va_callv (va_runI C0 hM (k_cI C0.2.2.2.2 hlk hrc hrs hR) ⟨kPo_blind, kPo_at hK hE hO (va_P_midL hP') ((va_D_midL hD').weaken fun _ _ _ _ => trivial)⟩ rfl hn hsz hst (lv_room hrest) hdg hf) hS (fun q _ h => hF q h) hF (fun u t H1 locs1 ht _ hq hB hz hk hS1 => ?_)
  obtain ⟨hB1, hB2⟩ := hB
  rw [ht] at hB1
  obtain ⟨h1, h2⟩ := k_joinN hP hD hF hk hB1 hB2
  exact kk u H1 locs1 hq h1 h2 hS1
/-- the private constructor of the line, which does nothing -/
theorem k_inN (C0 : CallFix p m c cc nL s args wsL_law RX3) (hM : Met l yX2_init (wy_ yX2_init cX2_init 1 none) rm (kPc D (kTy cI cS cL) [] H.size [.ref b]) kRv 0 0 noF) (hrc : rm.cells = 0) (hrs : rm.slots = 0) (hR : rm.frames + 1 ≤ R.frames ∧ 8 + (1 + 11) + rm.locals ≤ R.locals)
    (hK : va_K D vwCl (kTy cI cS cL) s) (hE : kEn s) (hsz : ls.size = nL) (hrest : (rest.map fun v => v.category).sum ≤ 8)
    (hdg : decode cc pc = .ok (.invokespecial 51, 3)) (hf : cells ≤ R.cells ∧ slots ≤ R.slots)
    (kk : W p l e R s m args below meth c H locs cells slots Q (F0 m (pc + 3) ls rest)) : W p l e R s m args below meth c H locs cells slots Q (F0 m pc ls (.ref b :: rest)) :=
  k_callRv (va_toCR (va_runIN (As := []) C0 hM ⟨k_cN C0.2.2.2.2 hE.1 wd_initialized_RX2 wd_cX2 ky_X2_init hrc hrs hR, rfl, C0.2.2.2.2 _ wd_iX2⟩ ⟨kPc_blind, kPc_at hK hE k_nilP (k_nilD (A := fun _ => True))⟩ rfl rfl hsz rfl (lv_room hrest) hdg hf)) kk
/-- a write to the row of stations: the value is a station of the world -/
theorem k_astm (hexec : p.tables.exec = Jvm.exec) (hb : c.code = cc) (hK : va_K D vwCl (kTy cI cS cL) s) (hP : va_P D vwCl ws H) (hD : va_D A0 ws) (hS : va_S A0 H0 H locs) (q0 : Nat) {N k v : Nat} {vs : List Value} {f : Nat → Option Nat} {i : Int32} (ha : ws[q0]? = some (a, .inl (cS, N, .inr (.inr (.inr (.inr f)))))) (hv : (v, .inr (2, vs)) ∈ ws) (hi : i = nI k) (hk : k < N) (hN : N < 2 ^ 31) (hdg : decode cc pc = .ok (.aastore, 1))
    (kk : ∀ (H1 : Heap) (locs1 : List Loc), va_P D vwCl (ws.set q0 (a, .inl (cS, N, .inr (.inr (.inr (.inr (va_up f k (some v)))))))) H1 → va_D A0 (ws.set q0 (a, .inl (cS, N, .inr (.inr (.inr (.inr (va_up f k (some v)))))))) → va_S A0 H0 H1 locs1 → W p l e R s m args below meth c H1 locs1 cells slots Q (F0 m (pc + 1) ls rest)) : W p l e R s m args below meth c H locs cells slots Q (F0 m pc ls (.ref v :: .int i :: .ref a :: rest)) := by
  subst hi
  obtain ⟨qk, hqk⟩ := List.getElem?_of_mem hv
  have hc : (nI k).toNatClampNeg = k := nI_clamp (by omega)
  refine va_astq (r := (RX3, TX3, 17)) hexec hb hK hP hD hS q0 1 qk 2 ha rfl hqk rfl (vp_in_nI hk hN) hdg fun H1 locs1 h1 h2 h3 => ?_
  rw [hc] at h1 h2
  exact kk H1 locs1 h1 h2 h3
end KCT
