section
-- ===== PART A: goes FIRST, ahead of the names: the tables' words, and 'selects' of the private methods out of them =====
/-- a private method of a class that the tables say can be made, by its rows of tables_1 -/
def lw_okq (q : MethodName × Nat) : Prop := (q.1.cls ≠ "java/lang/invoke/MethodHandle" ∧ q.1.cls ≠ "java/lang/invoke/VarHandle") ∧ Cond.instantiable q.1.cls q.2 ∈ tables_1 ∧ Cond.privateMethod q.1 ∈ tables_1 ∧ Cond.instanceMethod q.1 ∈ tables_1
theorem lw_p0 : lw_okq (⟨"HoseTests", "requireHose", "(I)V"⟩, 5) := ⟨⟨by decide +kernel, by decide +kernel⟩, List.mem_of_getElem? (i := 15) (by decide +kernel), List.mem_of_getElem? (i := 156) (by decide +kernel), List.mem_of_getElem? (i := 157) (by decide +kernel)⟩
theorem lw_p1 : lw_okq (⟨"java/lang/Throwable", "fillInStackTrace", "(I)Ljava/lang/Throwable;"⟩, 6) := ⟨⟨by decide +kernel, by decide +kernel⟩, List.mem_of_getElem? (i := 201) (by decide +kernel), List.mem_of_getElem? (i := 199) (by decide +kernel), List.mem_of_getElem? (i := 200) (by decide +kernel)⟩
theorem lw_p2 : lw_okq (⟨"HoseTests", "saveState", "()V"⟩, 5) := ⟨⟨by decide +kernel, by decide +kernel⟩, List.mem_of_getElem? (i := 15) (by decide +kernel), List.mem_of_getElem? (i := 430) (by decide +kernel), List.mem_of_getElem? (i := 431) (by decide +kernel)⟩
theorem lw_p3 : lw_okq (⟨"HoseTests", "requireAtHand", "(I)V"⟩, 5) := ⟨⟨by decide +kernel, by decide +kernel⟩, List.mem_of_getElem? (i := 15) (by decide +kernel), List.mem_of_getElem? (i := 452) (by decide +kernel), List.mem_of_getElem? (i := 453) (by decide +kernel)⟩
theorem lw_p4 : lw_okq (⟨"HoseTests$Station", "takeBackLent", "()V"⟩, 17) := ⟨⟨by decide +kernel, by decide +kernel⟩, List.mem_of_getElem? (i := 23) (by decide +kernel), List.mem_of_getElem? (i := 524) (by decide +kernel), List.mem_of_getElem? (i := 525) (by decide +kernel)⟩
theorem lw_p5 : lw_okq (⟨"HoseTests$Station", "wearOnTrucks", "()V"⟩, 17) := ⟨⟨by decide +kernel, by decide +kernel⟩, List.mem_of_getElem? (i := 23) (by decide +kernel), List.mem_of_getElem? (i := 528) (by decide +kernel), List.mem_of_getElem? (i := 529) (by decide +kernel)⟩
def lw_privs_1 : List (MethodName × Nat) := [(⟨"HoseTests", "requireHose", "(I)V"⟩, 5), (⟨"java/lang/Throwable", "fillInStackTrace", "(I)Ljava/lang/Throwable;"⟩, 6), (⟨"HoseTests", "saveState", "()V"⟩, 5), (⟨"HoseTests", "requireAtHand", "(I)V"⟩, 5), (⟨"HoseTests$Station", "takeBackLent", "()V"⟩, 17), (⟨"HoseTests$Station", "wearOnTrucks", "()V"⟩, 17)]
theorem lw_r1 : ∀ q ∈ lw_privs_1, lw_okq q := List.forall_mem_cons.mpr ⟨lw_p0, List.forall_mem_cons.mpr ⟨lw_p1, List.forall_mem_cons.mpr ⟨lw_p2, List.forall_mem_cons.mpr ⟨lw_p3, List.forall_mem_cons.mpr ⟨lw_p4, List.forall_mem_cons.mpr ⟨lw_p5, fun _ h => absurd h List.not_mem_nil⟩⟩⟩⟩⟩⟩
def lw_privs : List (MethodName × Nat) := lw_privs_1
def lw_tbl : List Cond := k2_sels lw_privs ++ tables_1
theorem lw_privs_ok : ∀ q ∈ lw_privs, lw_okq q := lw_r1
/-- the streams that the claim lets the run draw from -/
abbrev lw_cs : List Choice := [Jvm.Choice.named "NaN.bits"]
theorem lw_bits : nanBits ∈ lw_cs := by first | decide | exact List.mem_cons_self | simp [lw_cs, nanBits]
end
section
/-! ===== BEGIN words of one list among another's, by their places ===== -/
theorem goodIn_r {big : List Cond} (ws : List Cond) (ps : List Nat) (hp : ws = ps.filterMap (fun i => big[i]?)) (h : ws.all goodWord = true) : GoodIn big ws := by
  intro w hw
  have h1 := List.all_eq_true.mp h w hw
  rw [hp] at hw
  obtain ⟨i, -, hi⟩ := List.mem_filterMap.mp hw
  have hm : w ∈ big := by first | exact List.mem_of_getElem? hi | exact List.getElem?_mem hi
  exact ⟨hm, good_of_word h1⟩
theorem goodIn_app {big a b : List Cond} (ha : GoodIn big a) (hb : GoodIn big b) : GoodIn big (a ++ b) := fun w h => (List.mem_append.mp h).elim (ha w) (hb w)
theorem goodIn_ca {big a b : List Cond} {c : Cond} (ha : GoodIn big (c :: a)) (hb : GoodIn big b) : GoodIn big (c :: (a ++ b)) := fun w h => (List.mem_cons.mp h).elim (fun e => ha w (List.mem_cons.mpr (Or.inl e))) (fun h => (List.mem_append.mp h).elim (fun h => ha w (List.mem_cons.mpr (Or.inr h))) (hb w))
theorem goodIn_sub {big ws : List Cond} (hm : ∀ w ∈ ws, w ∈ big) (h : ws.all goodWord = true) : GoodIn big ws := fun w hw => ⟨hm w hw, good_of_word (List.all_eq_true.mp h w hw)⟩
/-! ===== END ===== -/

/-! ===== BEGIN exceptions that leave a method, and their catching by the caller (launches without stack traces) ===== -/
section VXA
/-! The laws vx_back, vx_callV, vx_callS, vx_callSW, vx_throw0, vx_throwS follow proofs of the library, with one case more: JvmDerived/Free/Laws.lean (Back.of_free), Shelf42/LK1.lean (callV, callS), Shelf/KitTraced.lean (throwNew0V, throwNewS). -/
/-- where a method has thrown q: the class by its name, the cell, what was written, the world -/
def vx_T (XC : String → State → State → Prop) (st : State) (q : Addr) (t : State) (mc ms : Nat) (free : Addr → Prop) : Prop :=
  ∃ (E : String) (ce : Cell) (L : List Loc), XC E st t ∧ t.heap[q]? = some ce ∧ ce.vm = .none ∧ st.vm.findClass E = some ce.cls ∧ st.WarmedH t.vm ∧ st.sameButNew ({ t with vm := st.vm } : State) L mc ms ∧ ∀ z ∈ L, free z.base
def vx_Q (Qc : Array Value → State → Outcome → State → Prop) (XC : String → State → State → Prop) (mc ms : Nat) (free : Addr → Prop) : Array Value → State → Outcome → State → Prop := fun a st o t =>
  (Qc a st o t ∧ ∃ L, FrameEnd st o t L mc ms ∧ ∀ q ∈ L, free q.base) ∨ ∃ q, o = .threw q ∧ vx_T XC st q t mc ms free
/-- a callee that returns or throws -/
def vx_Met (l : Launch) (y : MethodName) (ws : List Cond) (rm : Room) (Pc : Array Value → State → Prop) (Qc : Array Value → State → Outcome → State → Prop) (XC : String → State → State → Prop) (mc ms : Nat) (free : Addr → Prop) : Prop :=
  MetFree l y (headSpec ws rm) Pc (fun _ _ _ _ _ => True) (vx_Q Qc XC mc ms free)
def vx_Post (XC : String → State → State → Prop) (mc ms : Nat) (free : Addr → Prop) : Pt → Array Value → Addr → Pt → Prop := fun A a q B =>
  ∃ (g : JFrame) (mk : MethodId) (t : State) (L : List Loc) (E : String) (ce : Cell), B.U.heap = t.heap ∧ B.U.vm = t.vm ∧ XC E (A.U.calling g mk a) t ∧ t.heap[q]? = some ce ∧ ce.vm = .none ∧ A.U.vm.findClass E = some ce.cls ∧ B.locs = A.locs ++ L ∧ (∀ z ∈ L, free z.base) ∧ B.cells = A.cells + mc ∧ B.slots = A.slots + ms
def vx_Back (l : Launch) (R : Room) (p : Program) (e : Env) (below : List Frame) (s : State) (sargs : Array Value) (y : MethodName) (len W9 : Nat)
    (Pre : Pt → Array Value → Prop) (Post : Pt → Array Value → Option Value → Pt → Prop) (PostX : Pt → Array Value → Addr → Pt → Prop) : Prop :=
  ∀ (m : MethodId) (meth : Method) (c : Code) (A : Pt) (g : JFrame) (ig : Instr) (mk : MethodId) (a : Array Value),
    Stand p l e R s m sargs below meth c A.U A.locs A.cells A.slots → g.method = m → g.locals.size = c.maxLocals → decode c.code g.pc = .ok (ig, len) →
    2 * g.monitorRoom + (g.stack.map fun v => v.category).sum ≤ W9 → A.U.methodNamed? y = some mk → Pre A a →
    (∃ (v : Option Value) (B : Pt), Stand p l e R s m sargs below meth c B.U B.locs B.cells B.slots ∧ Post A a v B ∧
      Steps p.tables e below (doInvoke e (A.U.setTop g) [] mk a).1 (B.U.setTop { g with pc := g.pc + len, stack := v.toList ++ g.stack })) ∨
    (∃ (q : Addr) (B : Pt), Stand p l e R s m sargs below meth c B.U B.locs B.cells B.slots ∧ PostX A a q B ∧
      Steps p.tables e below (doInvoke e (A.U.setTop g) [] mk a).1 ((B.U.setTop g).pushFrame (.throwing q)))
section Payer
variable {l : Launch} {R : Room} {p : Program} {e : Env} {below : List Frame} {s : State} {sargs : Array Value} {y : MethodName} {len W9 : Nat}
theorem vx_back {ws : List Cond} {rm : Room} {Pc : Array Value → State → Prop} {Qc : Array Value → State → Outcome → State → Prop} {XC : String → State → State → Prop} {mc ms : Nat} {free : Addr → Prop} {bytes : ByteArray} {maxL : Nat} {ret : Option FieldType}
    (hM : vx_Met l y ws rm Pc Qc XC mc ms free) (hblind : FrameBlind Pc) (hrc : rm.cells = mc) (hrs : rm.slots = ms)
    (hframes : rm.frames + 1 ≤ R.frames) (hlocals : W9 + (maxL + 11) + rm.locals ≤ R.locals)
    (hws : ∀ w ∈ ws, ∀ a' U, s.WarmedH U.vm → w.before a' U = true) (hcode : Cond.code y bytes maxL ret ∈ ws) (hinit : ∀ a' U, s.WarmedH U.vm → (Cond.initialized y.cls).before a' U = true) :
    vx_Back l R p e below s sargs y len W9 (PreOf R mc ms Pc) (PostOf Qc mc ms free) (vx_Post XC mc ms free) := by
  intro m meth c A g ig mk a X hg hsize hdg hW hn hp
  have h1 : (headSpec ws rm).pre.before a A.U = true := atoms_intro fun w hw => hws w hw _ _ X.warmed
  have h2 : (Cond.code y bytes maxL ret).before a A.U = true := hws _ hcode _ _ X.warmed
  have h3 : (Cond.initialized y.cls).before a A.U = true := hinit _ _ X.warmed
  have h4 : A.cells + (headSpec ws rm).room.cells ≤ R.cells := by rw [show (headSpec ws rm).room.cells = mc from hrc]; exact hp.1
  have h5 : A.slots + (headSpec ws rm).room.slots ≤ R.slots := by rw [show (headSpec ws rm).room.slots = ms from hrs]; exact hp.2.1
  have hPc : Pc a (A.U.calling g mk a) := hblind _ _ _ _ hp.2.2
  obtain ⟨U, Ls, c0, s0⟩ := A
  dsimp only [Pt.U, Pt.locs, Pt.cells, Pt.slots] at h1 h2 h3 h4 h5 X hn hPc ⊢
  obtain ⟨methY, cY, hmY, hcY, -, hlY, -, -, -, -⟩ := Cond.code_spec hn h2
  obtain ⟨kY, hkY, -⟩ := className_of_methodNamed hn
  have hinitY : kY.init = .initialized := Cond.initialized_spec (findClass_of_methodNamed hn) hkY h3
  have h : At U g.method c below := by rw [hg]; exact X.here
  have hlocals9 : W9 + (maxL + 11) + (headSpec ws rm).room.locals ≤ R.locals := hlocals
  have happ : (headSpec ws rm).appliesLoose y e.platform (U.calling g mk a) = true :=
    Spec.appliesLoose_calling (g := g) h hdg hn hkY hinitY
      (X.room_calling (g := g) (R' := (headSpec ws rm).room) hsize hmY hcY hframes (by rw [hlY]; omega) h4 h5) h1
  obtain ⟨mid, hmid⟩ := h.above
  have hfr : (U.setTop g).frames = (.java g :: mid) ++ below := by rw [State.frames_setTop' g h.top, hmid]; rfl
  obtain ⟨o, s₂, hsteps, -, hend, hq⟩ := Steps.callFree hM p X.admits X.cas X.clock (acts := []) hfr happ hPc trivial
  have hq' : vx_Q Qc XC mc ms free a (U.calling g mk a) o s₂ := hq
  rw [State.frames_setTop' g h.top] at hend
  obtain ⟨g₀, hg0⟩ := Option.isSome_iff_exists.mp h.top
  obtain ⟨r, hr⟩ := State.topJava?_eq_some.mp hg0
  have hr' : (({ U with heap := s₂.heap, slotsUsed := s₂.slotsUsed } : State).setVm s₂.vm).frames = .java g₀ :: r := hr
  rcases hq' with ⟨hqc, L, hfe, hL⟩ | ⟨q, rfl, E, ce, L, hx, hce, hcv, hcl, hW₂, hsm, hL⟩
  · obtain ⟨⟨v, rfl⟩, hW₂, e2, q2, q3, q4, q5, q6⟩ := id hfe
    have e3 : s₂ = ({ (U.calling g mk a).setFrames s₂.frames with heap := s₂.heap, slotsUsed := s₂.slotsUsed } : State).setVm s₂.vm := by
      have : s₂ = ({ s₂ with vm := (U.calling g mk a).vm } : State).setVm s₂.vm := rfl
      rw [e2] at this
      exact this
    obtain ⟨c₂, i₂, len₂, hc₂, hd₂, hf₂⟩ := hend
    have hW' : U.WarmedH s₂.vm := hW₂
    have hcc : c₂ = c := by
      have h1 : s₂.code? g.method = U.code? g.method := by
        rw [State.code?_eq, State.code?_eq, hW'.alike.method?]
      exact Option.some.inj (hc₂.symm.trans (h1.trans h.code))
    subst hcc
    have hlen : len₂ = len := by rw [hdg] at hd₂; cases hd₂; rfl
    subst hlen
    have hs₂ : s₂ = (({ U with heap := s₂.heap, slotsUsed := s₂.slotsUsed } : State).setVm s₂.vm).setTop { g with pc := g.pc + len₂, stack := v.toList ++ g.stack } := by
      refine e3.trans ?_
      rw [hf₂, State.calling_eq h.top, State.setFrames_setFrames, State.setTop_of_frames _ hr', hr]
      rfl
    have hsame : U.sameButNew ({ U with heap := s₂.heap, slotsUsed := s₂.slotsUsed } : State) L mc ms := by
      refine ⟨?_, q2, q3, q4, q5, q6⟩
      obtain ⟨t, ht, -⟩ := State.frames_cons hr
      show ({ U with heap := s₂.heap, slotsUsed := s₂.slotsUsed } : State) = { U.setFrames U.frames with heap := s₂.heap, slotsUsed := s₂.slotsUsed }
      rw [State.setFrames_self ht]
    subst hg
    refine Or.inl ⟨v, ⟨(({ U with heap := s₂.heap, slotsUsed := s₂.slotsUsed } : State).setVm s₂.vm), Ls ++ L, c0 + mc, s0 + ms⟩,
      ⟨X.admits, X.cas, X.clock, X.frames, X.room, X.hears, X.method, X.code, (X.here.setHeapUsed s₂.heap s₂.slotsUsed).setVm hW'.alike, X.tail, State.WarmedH.trans X.warmed hW', X.limits, X.bytes, X.same.trans (hsame.setVm s.vm)⟩,
      ⟨g, mk, s₂, L, rfl, rfl, hqc, rfl, hL, rfl, rfl⟩, ?_⟩
    show Steps p.tables e below _ ((({ U with heap := s₂.heap, slotsUsed := s₂.slotsUsed } : State).setVm s₂.vm).setTop { g with pc := g.pc + len₂, stack := v.toList ++ g.stack })
    rw [← hs₂]
    exact hsteps
  · obtain ⟨e2, q2, q3, q4, q5, q6⟩ := id hsm
    have e3 : s₂ = ({ (U.calling g mk a).setFrames s₂.frames with heap := s₂.heap, slotsUsed := s₂.slotsUsed } : State).setVm s₂.vm := by
      have : s₂ = ({ s₂ with vm := (U.calling g mk a).vm } : State).setVm s₂.vm := rfl
      rw [e2] at this
      exact this
    have hf₂ : s₂.frames = .throwing q :: .java g :: U.frames.tail := hend
    have hW' : U.WarmedH s₂.vm := hW₂
    have hs₂ : s₂ = ((({ U with heap := s₂.heap, slotsUsed := s₂.slotsUsed } : State).setVm s₂.vm).setTop g).pushFrame (.throwing q) := by
      refine e3.trans ?_
      rw [hf₂, State.calling_eq h.top, State.setFrames_setFrames, State.pushFrame, State.frames_setTop _ hr', State.setTop_of_frames _ hr', State.setFrames_setFrames, hr]
      rfl
    have hsame : U.sameButNew ({ U with heap := s₂.heap, slotsUsed := s₂.slotsUsed } : State) L mc ms := by
      refine ⟨?_, q2, q3, q4, q5, q6⟩
      obtain ⟨t, ht, -⟩ := State.frames_cons hr
      show ({ U with heap := s₂.heap, slotsUsed := s₂.slotsUsed } : State) = { U.setFrames U.frames with heap := s₂.heap, slotsUsed := s₂.slotsUsed }
      rw [State.setFrames_self ht]
    subst hg
    refine Or.inr ⟨q, ⟨(({ U with heap := s₂.heap, slotsUsed := s₂.slotsUsed } : State).setVm s₂.vm), Ls ++ L, c0 + mc, s0 + ms⟩,
      ⟨X.admits, X.cas, X.clock, X.frames, X.room, X.hears, X.method, X.code, (X.here.setHeapUsed s₂.heap s₂.slotsUsed).setVm hW'.alike, X.tail, State.WarmedH.trans X.warmed hW', X.limits, X.bytes, X.same.trans (hsame.setVm s.vm)⟩,
      ⟨g, mk, s₂, L, E, ce, rfl, rfl, hx, hce, hcv, hcl, rfl, hL, rfl, rfl⟩, ?_⟩
    show Steps p.tables e below _ (((({ U with heap := s₂.heap, slotsUsed := s₂.slotsUsed } : State).setVm s₂.vm).setTop g).pushFrame (.throwing q))
    rw [← hs₂]
    exact hsteps
end Payer
section Calls
variable {p : Program} {l : Launch} {e : Env} {R : Room} {s : State} {m : MethodId} {args : Array Value} {below : List Frame} {meth : Method} {c : Code} {T : State} {locs : List Loc} {cells slots : Nat}
theorem vx_callV (X : Stand p l e R s m args below meth c T locs cells slots) (hexec : p.tables.exec = Jvm.exec) {own C : String} {index : Nat} {y : MethodName} {bytes : ByteArray} {maxL : Nat} {ret : Option FieldType}
    (hown : s.vm.findClass own = some m.cls) (hlink : (Cond.methodLink own index y).before args s = true) (hinst : (Cond.instanceMethod y).before args s = true) (hsel : (Cond.selects C y y).before args s = true)
    (hcode : (Cond.code y bytes maxL ret).before args s = true) (hy : y.cls ≠ "java/lang/invoke/MethodHandle" ∧ y.cls ≠ "java/lang/invoke/VarHandle")
    {W9 : Nat} {Pre : Pt → Array Value → Prop} {Post : Pt → Array Value → Option Value → Pt → Prop} {PostX : Pt → Array Value → Addr → Pt → Prop} (hK : vx_Back l R p e below s args y 3 W9 Pre Post PostX)
    {b : Addr} {cellB : Cell} (hcell : T.heap[b]? = some cellB) (hobj : cellB.vm.isStatics = false) (hcls : s.vm.findClass C = some cellB.cls)
    {g : JFrame} (hg : g.method = m) (hsize : g.locals.size = c.maxLocals) {argsL rest : List Value} (hlen : ∀ sig, parseMethodDescriptor y.desc = some sig → argsL.length = sig.parameters.length)
    (hstack : g.stack = argsL.reverse ++ .ref b :: rest) (hW : 2 * g.monitorRoom + (rest.map fun v => v.category).sum ≤ W9) (hdg : decode c.code g.pc = .ok (.invokevirtual index, 3))
    (hpre : ∀ vm₁, s.WarmedH vm₁ → Pre ⟨T.setVm vm₁, locs, cells, slots⟩ (Value.ref b :: argsL).toArray) :
    (∃ (v : Option Value) (vm₁ : Vm) (B : Pt), s.WarmedH vm₁ ∧ Stand p l e R s m args below meth c B.U B.locs B.cells B.slots ∧ Post ⟨T.setVm vm₁, locs, cells, slots⟩ (Value.ref b :: argsL).toArray v B ∧
      ∀ target, Steps p.tables e below (B.U.setTop { g with pc := g.pc + 3, stack := v.toList ++ rest }) target → Steps p.tables e below (T.setTop g) target) ∨
    (∃ (q : Addr) (vm₁ : Vm) (B : Pt), s.WarmedH vm₁ ∧ Stand p l e R s m args below meth c B.U B.locs B.cells B.slots ∧ PostX ⟨T.setVm vm₁, locs, cells, slots⟩ (Value.ref b :: argsL).toArray q B ∧
      Steps p.tables e below (T.setTop g) ((B.U.setTop { g with stack := rest }).pushFrame (.throwing q))) := by
  obtain ⟨mk, methM, hnamed, hmethM, hstM, habM⟩ := Cond.instanceMethod_spec hinst
  obtain ⟨methM', cM, hmethM', -, -, -, -, -, -, hsigM⟩ := Cond.code_spec hnamed hcode
  cases hmethM.symm.trans hmethM'
  obtain ⟨c2, r2, m2, q1, q2, q3, q4, kP, hkP, hkPi⟩ := Cond.selects_spec hsel
  cases hcls.symm.trans q1
  cases (State.methodFound?_of_named hnamed hy).symm.trans q2
  cases hnamed.symm.trans q3
  have hselP : selectMethod e.platform s.vm cellB.cls mk = .method mk := by rw [Launch.admits_selectMethod X.admits]; exact q4
  obtain ⟨vm₁, X₁, hstep₁⟩ := X.invokevirtual hexec hown hlink hnamed hmethM hstM hkP hkPi hy (a := b) (cell := cellB) hcell
    (fun z h => by rw [h] at hobj; cases hobj) hselP hmethM habM hkP hkPi (g := g) hg (argsL := argsL) (rest := rest) (hlen _ hsigM) hstack hdg
  rcases hK m meth c ⟨T.setVm vm₁, locs, cells, slots⟩ { g with stack := rest } (.invokevirtual index) mk (Value.ref b :: argsL).toArray X₁ hg hsize hdg hW (X₁.named hnamed) (hpre vm₁ X₁.warmed) with ⟨v, B, X', hpost, hsteps⟩ | ⟨q, B, X', hpost, hsteps⟩
  · exact Or.inl ⟨v, vm₁, B, X₁.warmed, X', hpost, fun target h => hstep₁ _ fun acts => by rw [doInvoke_state]; exact hsteps.trans h⟩
  · exact Or.inr ⟨q, vm₁, B, X₁.warmed, X', hpost, hstep₁ _ fun acts => by rw [doInvoke_state]; exact hsteps⟩
theorem vx_callS (X : Stand p l e R s m args below meth c T locs cells slots) (hexec : p.tables.exec = Jvm.exec) {own : String} {index : Nat} {y : MethodName} {bytes : ByteArray} {maxL : Nat} {ret : Option FieldType}
    (hown : s.vm.findClass own = some m.cls) (hlink : (Cond.methodLink own index y).before args s = true) (hstat : (Cond.static y).before args s = true) (hinit : (Cond.initialized y.cls).before args s = true)
    (hcode : (Cond.code y bytes maxL ret).before args s = true) (hy : y.cls ≠ "java/lang/invoke/MethodHandle" ∧ y.cls ≠ "java/lang/invoke/VarHandle")
    {W9 : Nat} {Pre : Pt → Array Value → Prop} {Post : Pt → Array Value → Option Value → Pt → Prop} {PostX : Pt → Array Value → Addr → Pt → Prop} (hK : vx_Back l R p e below s args y 3 W9 Pre Post PostX)
    {g : JFrame} (hg : g.method = m) (hsize : g.locals.size = c.maxLocals) {argsL rest : List Value} (hlen : ∀ sig, parseMethodDescriptor y.desc = some sig → argsL.length = sig.parameters.length)
    (hstack : g.stack = argsL.reverse ++ rest) (hW : 2 * g.monitorRoom + (rest.map fun v => v.category).sum ≤ W9) (hdg : decode c.code g.pc = .ok (.invokestatic index, 3))
    (hpre : ∀ vm₁, s.WarmedH vm₁ → Pre ⟨T.setVm vm₁, locs, cells, slots⟩ argsL.toArray) :
    (∃ (v : Option Value) (vm₁ : Vm) (B : Pt), s.WarmedH vm₁ ∧ Stand p l e R s m args below meth c B.U B.locs B.cells B.slots ∧ Post ⟨T.setVm vm₁, locs, cells, slots⟩ argsL.toArray v B ∧
      ∀ target, Steps p.tables e below (B.U.setTop { g with pc := g.pc + 3, stack := v.toList ++ rest }) target → Steps p.tables e below (T.setTop g) target) ∨
    (∃ (q : Addr) (vm₁ : Vm) (B : Pt), s.WarmedH vm₁ ∧ Stand p l e R s m args below meth c B.U B.locs B.cells B.slots ∧ PostX ⟨T.setVm vm₁, locs, cells, slots⟩ argsL.toArray q B ∧
      Steps p.tables e below (T.setTop g) ((B.U.setTop { g with stack := rest }).pushFrame (.throwing q))) := by
  obtain ⟨mk, hnamed⟩ := Cond.code_named hcode
  obtain ⟨methM, cM, hmethM, -, -, -, -, -, -, hsigM⟩ := Cond.code_spec hnamed hcode
  have hstatic : methM.isStatic = true := Cond.static_spec hnamed hmethM hstat
  obtain ⟨kP, hkP, -⟩ := className_of_methodNamed hnamed
  have hinitP : kP.init = .initialized := Cond.initialized_spec (findClass_of_methodNamed hnamed) hkP hinit
  obtain ⟨vm₁, X₁, hstep₁⟩ := X.invokestatic hexec hown hlink hnamed hmethM hstatic hkP hinitP hy (g := g) hg (argsL := argsL) (rest := rest) (hlen _ hsigM) hstack hdg
  rcases hK m meth c ⟨T.setVm vm₁, locs, cells, slots⟩ { g with stack := rest } (.invokestatic index) mk argsL.toArray X₁ hg hsize hdg hW (X₁.named hnamed) (hpre vm₁ X₁.warmed) with ⟨v, B, X', hpost, hsteps⟩ | ⟨q, B, X', hpost, hsteps⟩
  · exact Or.inl ⟨v, vm₁, B, X₁.warmed, X', hpost, fun target h => hstep₁ _ fun acts => by rw [doInvoke_state]; exact hsteps.trans h⟩
  · exact Or.inr ⟨q, vm₁, B, X₁.warmed, X', hpost, hstep₁ _ fun acts => by rw [doInvoke_state]; exact hsteps⟩
end Calls
theorem vx_cls {s : State} {T : State} {vm₁ : Vm} {E : String} {k : ClassId} (hW : s.WarmedH vm₁) (h : (T.setVm vm₁).vm.findClass E = some k) : s.vm.findClass E = some k := by
  have h1 : vm₁.findClass E = some k := h
  rw [hW.alike.findClass] at h1
  exact h1
/-- the method's frame g, with q thrown over it -/
def vx_W (p : Program) (l : Launch) (e : Env) (R : Room) (s : State) (m : MethodId) (args : Array Value) (below : List Frame) (meth : Method) (c : Code) (H : Heap) (locs : List Loc) (cells slots : Nat) (Q : State → Prop) (g : JFrame) (q : Addr) : Prop :=
  ∀ T : State, T.heap = H → Stand p l e R s m args below meth c T locs cells slots → ∃ t, Steps p.tables e below ((T.setTop g).pushFrame (.throwing q)) t ∧ Q t
def vx_Run (p : Program) (l : Launch) (e : Env) (R : Room) (s : State) (m : MethodId) (args : Array Value) (below : List Frame) (meth : Method) (c : Code) (H : Heap) (locs : List Loc) (cells slots mc ms : Nat) (g : JFrame) (rest : List Value) (Qa : State → Outcome → State → Prop) (XC : String → State → State → Prop) (free : Addr → Prop) : Prop :=
  ∀ T : State, T.heap = H → Stand p l e R s m args below meth c T locs cells slots →
    (∃ (v : Option Value) (st₀ t T' : State) (L : List Loc), st₀.heap = H ∧ Stand p l e R s m args below meth c T' (locs ++ L) (cells + mc) (slots + ms) ∧ (∀ q ∈ L, free q.base) ∧ T'.heap = t.heap ∧ T'.vm = t.vm ∧ Qa st₀ (.returned v) t ∧
      Goes p e below T g T' { g with pc := g.pc + 3, stack := v.toList ++ rest }) ∨
    (∃ (q : Addr) (st₀ t T' : State) (L : List Loc) (E : String) (ce : Cell), st₀.heap = H ∧ Stand p l e R s m args below meth c T' (locs ++ L) (cells + mc) (slots + ms) ∧ (∀ z ∈ L, free z.base) ∧ T'.heap = t.heap ∧ T'.vm = t.vm ∧ XC E st₀ t ∧ t.heap[q]? = some ce ∧ ce.vm = .none ∧ s.vm.findClass E = some ce.cls ∧
      Steps p.tables e below (T.setTop g) ((T'.setTop { g with stack := rest }).pushFrame (.throwing q)))
def vx_X {S : Type} (px : S → Prop) (B : String → S → State → Prop) (A : Nat → Prop) : String → State → State → Prop := fun E st t => ∃ u : S, px u ∧ B E u t ∧ va_F A st t
section Runs
variable {p : Program} {l : Launch} {e : Env} {R : Room} {s : State} {m : MethodId} {args : Array Value} {below : List Frame} {meth : Method} {c : Code} {H : Heap} {locs : List Loc} {cells slots : Nat}
variable {y : MethodName} {bytes cc : ByteArray} {maxL nL mc ms n index : Nat} {ret : Option FieldType} {ws : List Cond} {rm : Room} {Pc : Array Value → State → Prop} {Qc : Array Value → State → Outcome → State → Prop} {XC : String → State → State → Prop} {free : Addr → Prop} {Ts : List Cond} {own C : String} {b : Addr} {As rest : List Value} {g : JFrame}
theorem vx_callBack (cb : CallB R s args own index y bytes maxL ret ws rm mc ms n) (hM : vx_Met l y ws rm Pc Qc XC mc ms free) (hbl : FrameBlind Pc) : vx_Back l R p e below s args y 3 8 (PreOf R mc ms Pc) (PostOf Qc mc ms free) (vx_Post XC mc ms free) := by
  obtain ⟨hrc, hrs, hfr, hlo, hws, hcw, -, hini, -⟩ := cb
  exact vx_back (bytes := bytes) (maxL := maxL) (ret := ret) hM hbl hrc hrs hfr hlo hws hcw (fun a' U hW => word_at hW (Or.inl (by first | rfl | simp [Cond.onTables, Cond.keeps, Cond.steady])) hini)
theorem vx_runV (S : CallFix p m c cc nL s args Ts own) (hM : vx_Met l y ws rm Pc Qc XC mc ms free) (cw : CallW R s args own C index y bytes maxL ret ws rm mc ms n) (hp : PreV s H C b Pc As)
    (hg : g.method = m) (hn : As.length = n) (hsize : g.locals.size = nL) (hstack : g.stack = As.reverse ++ .ref b :: rest) (hW : 2 * g.monitorRoom + (rest.map fun v => v.category).sum ≤ 8) (hdg : decode cc g.pc = .ok (.invokevirtual index, 3)) (hf : cells + mc ≤ R.cells ∧ slots + ms ≤ R.slots) :
    vx_Run p l e R s m args below meth c H locs cells slots mc ms g rest (Qc (Value.ref b :: As).toArray) XC free := by
  have hK : vx_Back l R p e below s args y 3 8 (PreOf R mc ms Pc) (PostOf Qc mc ms free) (vx_Post XC mc ms free) := vx_callBack cw.1 hM hp.1
  obtain ⟨⟨-, -, -, -, -, -, hcode, -, hy, hlen, hl⟩, hin, hse⟩ := cw
  obtain ⟨hx, hb, hml, ho, -⟩ := S
  obtain ⟨-, ⟨cellB, hcB, hoB, hclB⟩, hPc⟩ := hp
  intro T hT X
  rcases vx_callV X hx (C := C) (bytes := bytes) (maxL := maxL) (ret := ret) ho hl hin hse hcode hy hK (by rw [hT]; exact hcB) hoB hclB hg (hsize.trans hml.symm) (argsL := As) (rest := rest) (fun sig h => hn.trans (hlen sig h)) hstack hW (by rw [hb]; exact hdg)
    (fun vm₁ hW₁ => ⟨hf.1, hf.2, hPc (T.setVm vm₁) hT hW₁⟩) with ⟨v, vm₁, ⟨U', l2, c2, s2⟩, hW₁, X', ⟨g', mk, t, L, e1, e2, hq, h1, hL, h2, h3⟩, st⟩ | ⟨q, vm₁, ⟨U', l2, c2, s2⟩, hW₁, X', ⟨g', mk, t, L, E, ce, e1, e2, hq, hce, hcv, hcl, h1, hL, h2, h3⟩, st⟩
  · dsimp only [Pt.U, Pt.locs, Pt.cells, Pt.slots] at X' e1 e2 h1 h2 h3 st
    subst h1; subst h2; subst h3
    exact Or.inl ⟨v, (T.setVm vm₁).calling g' mk (Value.ref b :: As).toArray, t, U', L, hT, X', hL, e1, e2, hq, st⟩
  · dsimp only [Pt.U, Pt.locs, Pt.cells, Pt.slots] at X' e1 e2 h1 h2 h3 st hcl
    subst h1; subst h2; subst h3
    exact Or.inr ⟨q, (T.setVm vm₁).calling g' mk (Value.ref b :: As).toArray, t, U', L, E, ce, hT, X', hL, e1, e2, hq, hce, hcv, vx_cls hW₁ hcl, st⟩
theorem vx_runS (S : CallFix p m c cc nL s args Ts own) (hM : vx_Met l y ws rm Pc Qc XC mc ms free) (cw : CallB R s args own index y bytes maxL ret ws rm mc ms n ∧ (Cond.static y).before args s = true) (hp : PreS s H Pc As)
    (hg : g.method = m) (hn : As.length = n) (hsize : g.locals.size = nL) (hstack : g.stack = As.reverse ++ rest) (hW : 2 * g.monitorRoom + (rest.map fun v => v.category).sum ≤ 8) (hdg : decode cc g.pc = .ok (.invokestatic index, 3)) (hf : cells + mc ≤ R.cells ∧ slots + ms ≤ R.slots) :
    vx_Run p l e R s m args below meth c H locs cells slots mc ms g rest (Qc As.toArray) XC free := by
  have hK : vx_Back l R p e below s args y 3 8 (PreOf R mc ms Pc) (PostOf Qc mc ms free) (vx_Post XC mc ms free) := vx_callBack cw.1 hM hp.1
  obtain ⟨⟨-, -, -, -, -, -, hcode, hini, hy, hlen, hl⟩, hstt⟩ := cw
  obtain ⟨hx, hb, hml, ho, -⟩ := S
  intro T hT X
  rcases vx_callS X hx (bytes := bytes) (maxL := maxL) (ret := ret) ho hl hstt hini hcode hy hK hg (hsize.trans hml.symm) (argsL := As) (rest := rest) (fun sig h => hn.trans (hlen sig h)) hstack hW (by rw [hb]; exact hdg)
    (fun vm₁ hW₁ => ⟨hf.1, hf.2, hp.2 (T.setVm vm₁) hT hW₁⟩) with ⟨v, vm₁, ⟨U', l2, c2, s2⟩, hW₁, X', ⟨g', mk, t, L, e1, e2, hq, h1, hL, h2, h3⟩, st⟩ | ⟨q, vm₁, ⟨U', l2, c2, s2⟩, hW₁, X', ⟨g', mk, t, L, E, ce, e1, e2, hq, hce, hcv, hcl, h1, hL, h2, h3⟩, st⟩
  · dsimp only [Pt.U, Pt.locs, Pt.cells, Pt.slots] at X' e1 e2 h1 h2 h3 st
    subst h1; subst h2; subst h3
    exact Or.inl ⟨v, (T.setVm vm₁).calling g' mk As.toArray, t, U', L, hT, X', hL, e1, e2, hq, st⟩
  · dsimp only [Pt.U, Pt.locs, Pt.cells, Pt.slots] at X' e1 e2 h1 h2 h3 st hcl
    subst h1; subst h2; subst h3
    exact Or.inr ⟨q, (T.setVm vm₁).calling g' mk As.toArray, t, U', L, E, ce, hT, X', hL, e1, e2, hq, hce, hcv, vx_cls hW₁ hcl, st⟩
end Runs
section Rows
variable {p : Program} {l : Launch} {e : Env} {R : Room} {s : State} {m : MethodId} {args : Array Value} {below : List Frame} {meth : Method} {c : Code} {H : Heap} {locs : List Loc} {cells slots : Nat} {Q : State → Prop}
variable {mc ms : Nat} {free : Addr → Prop} {A0 A1 : Nat → Prop} {H0 : Heap} {a : Array Value} {pc : Nat} {ls : Array Slot} {st0 rest : List Value}
theorem vx_keep {st₀ t T' : State} {L : List Loc} (h0 : st₀.heap = H) (e1 : T'.heap = t.heap) (hS : va_S A0 H0 H locs) (hA : ∀ q, q < H.size → A1 q → A0 q) (hf : ∀ q, free q → A0 q) (hL : ∀ q ∈ L, free q.base) (hF : va_F A1 st₀ t) :
    H.size ≤ T'.heap.size ∧ (∀ q : Nat, q < H.size → ¬ A1 q → T'.heap[q]? = H[q]?) ∧ va_S A0 H0 T'.heap (locs ++ L) := by
  obtain ⟨hz, hk⟩ := hF
  rw [h0] at hz hk
  exact ⟨by rw [e1]; exact hz, fun q h1 h2 => by rw [e1]; exact hk q h1 h2,
    ⟨Nat.le_trans hS.1 (by rw [e1]; exact hz), fun q h1 h2 => by rw [e1, hk q (Nat.lt_of_lt_of_le h1 hS.1) (fun z => h2 (hA q (Nat.lt_of_lt_of_le h1 hS.1) z))]; exact hS.2.1 q h1 h2, fun q hq => by
      rcases List.mem_append.mp hq with h | h
      · exact hS.2.2 q h
      · exact hf _ (hL q h)⟩⟩
theorem vx_calli {S SX : Type} {post : Int32 → S → Prop} {px : SX → Prop} {B : S → State → Prop} {BX : String → SX → State → Prop} {AX : Nat → Prop} (hr : vx_Run p l e R s m args below meth c H locs cells slots mc ms (F0 m pc ls st0) rest (va_Qi post B A1 a) (vx_X px BX AX) free) (hS : va_S A0 H0 H locs) (hA : ∀ q, q < H.size → A1 q → A0 q) (hf : ∀ q, free q → A0 q) (hAX : ∀ q, q < H.size → AX q → A0 q)
    (kx : ∀ (E : String) (ce : Cell) (q9 : Addr) (u : SX) (t : State) (H1 : Heap) (locs1 : List Loc), t.heap = H1 → s.vm.Alike t.vm → px u → BX E u t → H.size ≤ H1.size → (∀ q : Nat, q < H.size → ¬ AX q → H1[q]? = H[q]?) → va_S A0 H0 H1 locs1 → H1[q9]? = some ce → ce.vm = .none → s.vm.findClass E = some ce.cls → vx_W p l e R s m args below meth c H1 locs1 (cells + mc) (slots + ms) Q (F0 m pc ls rest) q9)
    (kk : ∀ (r : Int32) (u : S) (t : State) (H1 : Heap) (locs1 : List Loc), t.heap = H1 → s.vm.Alike t.vm → post r u → B u t → H.size ≤ H1.size → (∀ q : Nat, q < H.size → ¬ A1 q → H1[q]? = H[q]?) → va_S A0 H0 H1 locs1 → W p l e R s m args below meth c H1 locs1 (cells + mc) (slots + ms) Q (F0 m (pc + 3) ls (.int r :: rest))) : W p l e R s m args below meth c H locs cells slots Q (F0 m pc ls st0) := by
  intro T hT X
  rcases hr T hT X with ⟨v, st₀, t, T', L, h0, X', hL, e1, e2, ⟨⟨r, u, hv, hp, hb⟩, hF⟩, st⟩ | ⟨q, st₀, t, T', L, E, ce, h0, X', hL, e1, e2, ⟨u, hp, hb, hF⟩, hce, hcv, hcl, st⟩
  · cases hv
    obtain ⟨k1, k2, k3⟩ := vx_keep h0 e1 hS hA hf hL hF
    obtain ⟨t2, a1, b1⟩ := kk r u t T'.heap (locs ++ L) e1.symm (by rw [← e2]; exact X'.warmed.alike) hp hb k1 k2 k3 T' rfl X'
    exact ⟨t2, st t2 a1, b1⟩
  · obtain ⟨k1, k2, k3⟩ := vx_keep h0 e1 hS hAX hf hL hF
    obtain ⟨t2, a1, b1⟩ := kx E ce q u t T'.heap (locs ++ L) e1.symm (by rw [← e2]; exact X'.warmed.alike) hp hb k1 k2 k3 (by rw [e1]; exact hce) hcv hcl T' rfl X'
    exact ⟨t2, st.trans a1, b1⟩
theorem vx_calll {S SX : Type} {post : Int64 → S → Prop} {px : SX → Prop} {B : S → State → Prop} {BX : String → SX → State → Prop} {AX : Nat → Prop} (hr : vx_Run p l e R s m args below meth c H locs cells slots mc ms (F0 m pc ls st0) rest (va_Ql post B A1 a) (vx_X px BX AX) free) (hS : va_S A0 H0 H locs) (hA : ∀ q, q < H.size → A1 q → A0 q) (hf : ∀ q, free q → A0 q) (hAX : ∀ q, q < H.size → AX q → A0 q)
    (kx : ∀ (E : String) (ce : Cell) (q9 : Addr) (u : SX) (t : State) (H1 : Heap) (locs1 : List Loc), t.heap = H1 → s.vm.Alike t.vm → px u → BX E u t → H.size ≤ H1.size → (∀ q : Nat, q < H.size → ¬ AX q → H1[q]? = H[q]?) → va_S A0 H0 H1 locs1 → H1[q9]? = some ce → ce.vm = .none → s.vm.findClass E = some ce.cls → vx_W p l e R s m args below meth c H1 locs1 (cells + mc) (slots + ms) Q (F0 m pc ls rest) q9)
    (kk : ∀ (r : Int64) (u : S) (t : State) (H1 : Heap) (locs1 : List Loc), t.heap = H1 → s.vm.Alike t.vm → post r u → B u t → H.size ≤ H1.size → (∀ q : Nat, q < H.size → ¬ A1 q → H1[q]? = H[q]?) → va_S A0 H0 H1 locs1 → W p l e R s m args below meth c H1 locs1 (cells + mc) (slots + ms) Q (F0 m (pc + 3) ls (.long r :: rest))) : W p l e R s m args below meth c H locs cells slots Q (F0 m pc ls st0) := by
  intro T hT X
  rcases hr T hT X with ⟨v, st₀, t, T', L, h0, X', hL, e1, e2, ⟨⟨r, u, hv, hp, hb⟩, hF⟩, st⟩ | ⟨q, st₀, t, T', L, E, ce, h0, X', hL, e1, e2, ⟨u, hp, hb, hF⟩, hce, hcv, hcl, st⟩
  · cases hv
    obtain ⟨k1, k2, k3⟩ := vx_keep h0 e1 hS hA hf hL hF
    obtain ⟨t2, a1, b1⟩ := kk r u t T'.heap (locs ++ L) e1.symm (by rw [← e2]; exact X'.warmed.alike) hp hb k1 k2 k3 T' rfl X'
    exact ⟨t2, st t2 a1, b1⟩
  · obtain ⟨k1, k2, k3⟩ := vx_keep h0 e1 hS hAX hf hL hF
    obtain ⟨t2, a1, b1⟩ := kx E ce q u t T'.heap (locs ++ L) e1.symm (by rw [← e2]; exact X'.warmed.alike) hp hb k1 k2 k3 (by rw [e1]; exact hce) hcv hcl T' rfl X'
    exact ⟨t2, st.trans a1, b1⟩
theorem vx_callf {S SX : Type} {post : UInt32 → S → Prop} {px : SX → Prop} {B : S → State → Prop} {BX : String → SX → State → Prop} {AX : Nat → Prop} (hr : vx_Run p l e R s m args below meth c H locs cells slots mc ms (F0 m pc ls st0) rest (va_Qf post B A1 a) (vx_X px BX AX) free) (hS : va_S A0 H0 H locs) (hA : ∀ q, q < H.size → A1 q → A0 q) (hf : ∀ q, free q → A0 q) (hAX : ∀ q, q < H.size → AX q → A0 q)
    (kx : ∀ (E : String) (ce : Cell) (q9 : Addr) (u : SX) (t : State) (H1 : Heap) (locs1 : List Loc), t.heap = H1 → s.vm.Alike t.vm → px u → BX E u t → H.size ≤ H1.size → (∀ q : Nat, q < H.size → ¬ AX q → H1[q]? = H[q]?) → va_S A0 H0 H1 locs1 → H1[q9]? = some ce → ce.vm = .none → s.vm.findClass E = some ce.cls → vx_W p l e R s m args below meth c H1 locs1 (cells + mc) (slots + ms) Q (F0 m pc ls rest) q9)
    (kk : ∀ (r : UInt32) (u : S) (t : State) (H1 : Heap) (locs1 : List Loc), t.heap = H1 → s.vm.Alike t.vm → post r u → B u t → H.size ≤ H1.size → (∀ q : Nat, q < H.size → ¬ A1 q → H1[q]? = H[q]?) → va_S A0 H0 H1 locs1 → W p l e R s m args below meth c H1 locs1 (cells + mc) (slots + ms) Q (F0 m (pc + 3) ls (.float r :: rest))) : W p l e R s m args below meth c H locs cells slots Q (F0 m pc ls st0) := by
  intro T hT X
  rcases hr T hT X with ⟨v, st₀, t, T', L, h0, X', hL, e1, e2, ⟨⟨r, u, hv, hp, hb⟩, hF⟩, st⟩ | ⟨q, st₀, t, T', L, E, ce, h0, X', hL, e1, e2, ⟨u, hp, hb, hF⟩, hce, hcv, hcl, st⟩
  · cases hv
    obtain ⟨k1, k2, k3⟩ := vx_keep h0 e1 hS hA hf hL hF
    obtain ⟨t2, a1, b1⟩ := kk r u t T'.heap (locs ++ L) e1.symm (by rw [← e2]; exact X'.warmed.alike) hp hb k1 k2 k3 T' rfl X'
    exact ⟨t2, st t2 a1, b1⟩
  · obtain ⟨k1, k2, k3⟩ := vx_keep h0 e1 hS hAX hf hL hF
    obtain ⟨t2, a1, b1⟩ := kx E ce q u t T'.heap (locs ++ L) e1.symm (by rw [← e2]; exact X'.warmed.alike) hp hb k1 k2 k3 (by rw [e1]; exact hce) hcv hcl T' rfl X'
    exact ⟨t2, st.trans a1, b1⟩
theorem vx_calld {S SX : Type} {post : UInt64 → S → Prop} {px : SX → Prop} {B : S → State → Prop} {BX : String → SX → State → Prop} {AX : Nat → Prop} (hr : vx_Run p l e R s m args below meth c H locs cells slots mc ms (F0 m pc ls st0) rest (va_Qd post B A1 a) (vx_X px BX AX) free) (hS : va_S A0 H0 H locs) (hA : ∀ q, q < H.size → A1 q → A0 q) (hf : ∀ q, free q → A0 q) (hAX : ∀ q, q < H.size → AX q → A0 q)
    (kx : ∀ (E : String) (ce : Cell) (q9 : Addr) (u : SX) (t : State) (H1 : Heap) (locs1 : List Loc), t.heap = H1 → s.vm.Alike t.vm → px u → BX E u t → H.size ≤ H1.size → (∀ q : Nat, q < H.size → ¬ AX q → H1[q]? = H[q]?) → va_S A0 H0 H1 locs1 → H1[q9]? = some ce → ce.vm = .none → s.vm.findClass E = some ce.cls → vx_W p l e R s m args below meth c H1 locs1 (cells + mc) (slots + ms) Q (F0 m pc ls rest) q9)
    (kk : ∀ (r : UInt64) (u : S) (t : State) (H1 : Heap) (locs1 : List Loc), t.heap = H1 → s.vm.Alike t.vm → post r u → B u t → H.size ≤ H1.size → (∀ q : Nat, q < H.size → ¬ A1 q → H1[q]? = H[q]?) → va_S A0 H0 H1 locs1 → W p l e R s m args below meth c H1 locs1 (cells + mc) (slots + ms) Q (F0 m (pc + 3) ls (.double r :: rest))) : W p l e R s m args below meth c H locs cells slots Q (F0 m pc ls st0) := by
  intro T hT X
  rcases hr T hT X with ⟨v, st₀, t, T', L, h0, X', hL, e1, e2, ⟨⟨r, u, hv, hp, hb⟩, hF⟩, st⟩ | ⟨q, st₀, t, T', L, E, ce, h0, X', hL, e1, e2, ⟨u, hp, hb, hF⟩, hce, hcv, hcl, st⟩
  · cases hv
    obtain ⟨k1, k2, k3⟩ := vx_keep h0 e1 hS hA hf hL hF
    obtain ⟨t2, a1, b1⟩ := kk r u t T'.heap (locs ++ L) e1.symm (by rw [← e2]; exact X'.warmed.alike) hp hb k1 k2 k3 T' rfl X'
    exact ⟨t2, st t2 a1, b1⟩
  · obtain ⟨k1, k2, k3⟩ := vx_keep h0 e1 hS hAX hf hL hF
    obtain ⟨t2, a1, b1⟩ := kx E ce q u t T'.heap (locs ++ L) e1.symm (by rw [← e2]; exact X'.warmed.alike) hp hb k1 k2 k3 (by rw [e1]; exact hce) hcv hcl T' rfl X'
    exact ⟨t2, st.trans a1, b1⟩
theorem vx_callv {S SX : Type} {post : S → Prop} {px : SX → Prop} {B : S → State → Prop} {BX : String → SX → State → Prop} {AX : Nat → Prop} (hr : vx_Run p l e R s m args below meth c H locs cells slots mc ms (F0 m pc ls st0) rest (va_Qv post B A1 a) (vx_X px BX AX) free) (hS : va_S A0 H0 H locs) (hA : ∀ q, q < H.size → A1 q → A0 q) (hf : ∀ q, free q → A0 q) (hAX : ∀ q, q < H.size → AX q → A0 q)
    (kx : ∀ (E : String) (ce : Cell) (q9 : Addr) (u : SX) (t : State) (H1 : Heap) (locs1 : List Loc), t.heap = H1 → s.vm.Alike t.vm → px u → BX E u t → H.size ≤ H1.size → (∀ q : Nat, q < H.size → ¬ AX q → H1[q]? = H[q]?) → va_S A0 H0 H1 locs1 → H1[q9]? = some ce → ce.vm = .none → s.vm.findClass E = some ce.cls → vx_W p l e R s m args below meth c H1 locs1 (cells + mc) (slots + ms) Q (F0 m pc ls rest) q9)
    (kk : ∀ (u : S) (t : State) (H1 : Heap) (locs1 : List Loc), t.heap = H1 → s.vm.Alike t.vm → post u → B u t → H.size ≤ H1.size → (∀ q : Nat, q < H.size → ¬ A1 q → H1[q]? = H[q]?) → va_S A0 H0 H1 locs1 → W p l e R s m args below meth c H1 locs1 (cells + mc) (slots + ms) Q (F0 m (pc + 3) ls (rest))) : W p l e R s m args below meth c H locs cells slots Q (F0 m pc ls st0) := by
  intro T hT X
  rcases hr T hT X with ⟨v, st₀, t, T', L, h0, X', hL, e1, e2, ⟨⟨u, hv, hp, hb⟩, hF⟩, st⟩ | ⟨q, st₀, t, T', L, E, ce, h0, X', hL, e1, e2, ⟨u, hp, hb, hF⟩, hce, hcv, hcl, st⟩
  · cases hv
    obtain ⟨k1, k2, k3⟩ := vx_keep h0 e1 hS hA hf hL hF
    obtain ⟨t2, a1, b1⟩ := kk u t T'.heap (locs ++ L) e1.symm (by rw [← e2]; exact X'.warmed.alike) hp hb k1 k2 k3 T' rfl X'
    exact ⟨t2, st t2 a1, b1⟩
  · obtain ⟨k1, k2, k3⟩ := vx_keep h0 e1 hS hAX hf hL hF
    obtain ⟨t2, a1, b1⟩ := kx E ce q u t T'.heap (locs ++ L) e1.symm (by rw [← e2]; exact X'.warmed.alike) hp hb k1 k2 k3 (by rw [e1]; exact hce) hcv hcl T' rfl X'
    exact ⟨t2, st.trans a1, b1⟩
/-- caught by the row x of this method's table; the rows ahead don't take it -/
theorem vx_catch {own name : String} {E : String} {ce : Cell} {q : Addr} (hown : s.vm.findClass own = some m.cls) (pre : List ExceptionTableEntry) (x : ExceptionTableEntry) (suf : List ExceptionTableEntry) (hsplit : c.exceptionTable.toList = pre ++ x :: suf)
    (hpass : ∀ z ∈ pre, covers z pc = false ∨ (z.catchType ≠ 0 ∧ ∃ nm : String, (Cond.classLink own z.catchType nm).before args s = true ∧ va_Nc E nm s)) (hx : covers x pc = true) (h0 : x.catchType ≠ 0)
    (hlink : (Cond.classLink own x.catchType name).before args s = true) (hcast : (Cond.castable E name).before args s = true) (hcell : H[q]? = some ce) (hv : ce.vm = .none) (hcl : s.vm.findClass E = some ce.cls)
    (kk : W p l e R s m args below meth c H locs cells slots Q (F0 m x.handlerPc ls [.ref q])) : vx_W p l e R s m args below meth c H locs cells slots Q (F0 m pc ls rest) q := by
  intro T hT X
  have hpl : e.platform.magicAccessors = ({} : Platform).magicAccessors := by rw [X.admits.platform]
  obtain ⟨c3, c4, hc3, hc4, hasg⟩ := Cond.castable_spec hcast
  cases Option.some.inj (hc3.symm.trans hcl)
  obtain ⟨c5, hc5, hcl5⟩ := Cond.classLink_spec hown hlink e.platform hpl
  cases Option.some.inj (hc4.symm.trans hc5)
  obtain ⟨vm', X', st⟩ := X.thenCaughtThrough q (g := F0 m pc ls rest) rfl (Steps.refl _) (by rw [hT]; exact hcell) (by rw [hv]; rfl) (by obtain ⟨k9, h9, -⟩ := Vm.findClass_spec hcl; exact ⟨k9, h9⟩) pre x suf hsplit
    (fun z hz => by
      rcases hpass z hz with h | ⟨hz0, nm, hl1, hn1⟩
      · exact Or.inl h
      · obtain ⟨c6, hc6, hcl6⟩ := Cond.classLink_spec hown hl1 e.platform hpl
        obtain ⟨a8, b8, h1, h2, h3⟩ := hn1
        cases Option.some.inj (h1.symm.trans hcl)
        cases Option.some.inj (h2.symm.trans hc6)
        exact Or.inr ⟨hz0, _, hcl6, h3⟩) hx (Or.inr ⟨h0, c4, hcl5, hasg⟩)
  obtain ⟨t, a1, b1⟩ := kk (T.setVm vm') hT X'
  exact ⟨t, st.trans a1, b1⟩
end Rows
section Ends
variable {p : Program} {l : Launch} {e : Env} {R : Room} {s : State} {m : MethodId} {args : Array Value} {below : List Frame} {meth : Method} {c : Code} {H : Heap} {locs : List Loc} {cells slots : Nat} {Q : State → Prop}
variable {mc ms : Nat} {free : Addr → Prop} {A0 A1 : Nat → Prop} {H0 : Heap} {a : Array Value} {ls : Array Slot} {st0 rest : List Value}
variable {Qc : Array Value → State → Outcome → State → Prop} {XC : String → State → State → Prop}
/-- what a body that may throw owes at its end -/
def vx_MQ (below : List Frame) (Qc : Array Value → State → Outcome → State → Prop) (XC : String → State → State → Prop) (a : Array Value) (s : State) (mc ms : Nat) (free : Addr → Prop) : State → Prop := fun t =>
  ∃ o, t.status = .running ∧ Ended t below o ∧ vx_Q Qc XC mc ms free a s o t
theorem vx_ret {g : JFrame} {mc ms : Nat} (k : W p l e R s m args below meth c H locs cells slots (MQ below Qc args s mc ms free) g) : W p l e R s m args below meth c H locs cells slots (vx_MQ below Qc XC args s mc ms free) g := by
  intro T hT X
  obtain ⟨t, a1, o, b1, b2, b3, b4⟩ := k T hT X
  exact ⟨t, a1, o, b1, b2, Or.inl ⟨b3, b4⟩⟩
/-- not caught here: it goes on to the caller -/
theorem vx_widen {g : JFrame} {q : Addr} {k n : Nat} (h1 : cells ≤ k) (h2 : slots ≤ n) (kk : vx_W p l e R s m args below meth c H locs k n Q g q) : vx_W p l e R s m args below meth c H locs cells slots Q g q := fun T hT X => kk T hT (stand_widen X h1 h2)
theorem vx_out {pc : Nat} {E : String} {ce : Cell} {q : Addr} {mc ms : Nat} (hout : ∀ x ∈ c.exceptionTable.toList, covers x pc = false) (hlocks : meth.locks = false) (hcell : H[q]? = some ce) (hv : ce.vm = .none) (hcl : s.vm.findClass E = some ce.cls)
    (hx : ∀ t : State, t.heap = H → s.vm.Alike t.vm → XC E s t) (hf : ∀ z ∈ locs, free z.base) (hc : cells ≤ mc) (hs : slots ≤ ms) :
    vx_W p l e R s m args below meth c H locs cells slots (vx_MQ below Qc XC args s mc ms free) (F0 m pc ls rest) q := by
  intro T hT X
  obtain ⟨st1, hrun, hend, hW, hsm⟩ := X.leaveThrown q (g := F0 m pc ls rest) rfl rfl rfl hout hlocks
  have hcell9 : (T.setFrames (.throwing q :: below)).heap[q]? = some ce := by
    show T.heap[q]? = some ce
    rw [hT]; exact hcell
  exact ⟨_, st1, .threw q, hrun, hend, Or.inr ⟨q, rfl, E, ce, locs, hx _ hT hW.alike, hcell9, hv, hcl, hW, hsm.mono hc hs, hf⟩⟩
theorem vx_frame {U : State} {k n : Nat} (h : s.sameButNew ({ U with vm := s.vm } : State) locs k n) : s.heap.size ≤ U.heap.size ∧ ∀ q : Nat, q < s.heap.size → (∀ z ∈ locs, z.base ≠ q) → U.heap[q]? = s.heap[q]? := by
  obtain ⟨-, h2, -, -, -, h6⟩ := h
  refine ⟨h2, fun q hq hz => ?_⟩
  obtain ⟨c9, e1, e2, e3, e4⟩ := h6 q _ (Array.getElem?_eq_getElem hq)
  have hs : c9.slots = (s.heap[q]).slots := Array.ext_getElem? fun i => e4 i fun hm => hz _ hm rfl
  have h9 : c9 = s.heap[q] := by
    rw [hs] at e2
    exact e2
  have e5 : U.heap[q]? = some c9 := e1
  rw [e5, h9, Array.getElem?_eq_getElem hq]
/-- the words of a throw but the four that speak of the heap -/
def vx_no (w : Cond) : Bool := decide (w ≠ .isRef (.static Bundle.tN "UNASSIGNED_STACK" Bundle.steD)) && decide (w ≠ .isRef (.static Bundle.tN "SUPPRESSED_SENTINEL" Bundle.listD)) && decide (w ≠ .laysStatic Bundle.tN "UNASSIGNED_STACK" Bundle.steD) && decide (w ≠ .laysStatic Bundle.tN "SUPPRESSED_SENTINEL" Bundle.listD)
def vx_at0 (own : String) (ic : Nat) (X : String) (names : List String) : List Cond := (Bundle.ownAtoms0 own ic X names).filter vx_no
def vx_atS (own : String) (ic : Nat) (X : String) (names : List String) : List Cond := (Bundle.ownAtoms own ic X names).filter vx_no
/-- a word that the tables alone decide, or a good one -/
def vx_ot (w : Cond) : Bool := w.onTables || goodWord w
theorem vx_ot_at {args a' : Array Value} {s U : State} {w : Cond} (hW : s.WarmedH U.vm) (hvm : s.vm = U.vm) (hg : vx_ot w = true) (h : w.before args s = true) : w.before a' U = true := by
  simp only [vx_ot, Bool.or_eq_true] at hg
  rcases hg with hg | hg
  · exact va_tabs hg hvm h
  · exact word_at hW (good_of_word hg) h
/-- a list's words: the good ones out of the method's own list, the others by premises of their own -/
theorem vx_hat {args : Array Value} {s : State} {L B : List Cond} (h1 : ∀ w ∈ L.filter goodWord, w.before args s = true) (h2 : ∀ w ∈ L.filter (fun w => !goodWord w), w ∈ B) (h3 : ∀ w ∈ B, w.before args s = true) : ∀ w ∈ L, w.before args s = true := by
  intro w hw
  by_cases g : goodWord w = true
  · exact h1 w (List.mem_filter.mpr ⟨hw, g⟩)
  · refine h3 w (h2 w (List.mem_filter.mpr ⟨hw, ?_⟩))
    show (!goodWord w) = true
    cases hgw : goodWord w
    · rfl
    · exact absurd hgw g
theorem vx_c {args : Array Value} {s : State} {w : Cond} {B : List Cond} (h : w.before args s = true) (t : ∀ w ∈ B, w.before args s = true) : ∀ w' ∈ w :: B, w'.before args s = true := fun w' h' => (List.mem_cons.mp h').elim (fun e => by rw [e]; exact h) (t w')
theorem vx_n {args : Array Value} {s : State} : ∀ w ∈ ([] : List Cond), w.before args s = true := fun _ h => nomatch h
theorem vx_own {args : Array Value} {s : State} {L : List Cond} (h1 : ∀ w ∈ L.filter vx_no, w.before args s = true)
    (hU : (Cond.isRef (.static Bundle.tN "UNASSIGNED_STACK" Bundle.steD)).before args s = true) (hN : (Cond.isRef (.static Bundle.tN "SUPPRESSED_SENTINEL" Bundle.listD)).before args s = true)
    (lU : (Cond.laysStatic Bundle.tN "UNASSIGNED_STACK" Bundle.steD).before args s = true) (lN : (Cond.laysStatic Bundle.tN "SUPPRESSED_SENTINEL" Bundle.listD).before args s = true) : ∀ w ∈ L, w.before args s = true := by
  intro w hw
  by_cases e1 : w = .isRef (.static Bundle.tN "UNASSIGNED_STACK" Bundle.steD)
  · rw [e1]; exact hU
  · by_cases e2 : w = .isRef (.static Bundle.tN "SUPPRESSED_SENTINEL" Bundle.listD)
    · rw [e2]; exact hN
    · by_cases e3 : w = .laysStatic Bundle.tN "UNASSIGNED_STACK" Bundle.steD
      · rw [e3]; exact lU
      · by_cases e4 : w = .laysStatic Bundle.tN "SUPPRESSED_SENTINEL" Bundle.listD
        · rw [e4]; exact lN
        · exact h1 w (List.mem_filter.mpr ⟨hw, by unfold vx_no; rw [decide_eq_true e1, decide_eq_true e2, decide_eq_true e3, decide_eq_true e4]; rfl⟩)
/-- where a static field lies, its class's statics cell in H -/
def vx_L (C n d : String) (A : Nat → Prop) (U : State) (H : Heap) : Prop := ∃ (c : ClassId) (k : Class) (i : Nat) (f : Field) (a : Nat) (cell : Cell), U.vm.findClass C = some c ∧ U.fieldFound? C n d = some (c, k, i, f) ∧ f.isStatic = true ∧ k.statics = some a ∧ H[a]? = some cell ∧ cell.vm.isStatics = true ∧ cell.cls = c ∧ f.slot < cell.slots.size ∧ k.staticTypes[f.slot]? = some f.type ∧ ¬ A a
theorem vx_L.moved {C n d : String} {A : Nat → Prop} {u U : State} {H : Heap} (hvm : u.vm.Alike U.vm) (h : vx_L C n d A u H) : vx_L C n d A U H := by
  obtain ⟨c, k, i, f, a, cell, h1, h2, h3, h4, h5, h6, h7, h8, h9, h10⟩ := h
  obtain ⟨k', hi', he⟩ := State.fieldFound?_setVm hvm h2
  exact ⟨c, k', i, f, a, cell, by rw [hvm.findClass]; exact h1, hi', h3, by rw [he]; exact h4, h5, h6, h7, h8, by rw [he]; exact h9, h10⟩
theorem vx_L.kept {C n d : String} {A : Nat → Prop} {U : State} {H H1 : Heap} (h : vx_L C n d A U H) (hq : ∀ a : Nat, a < H.size → ¬ A a → H1[a]? = H[a]?) : vx_L C n d A U H1 := by
  obtain ⟨c, k, i, f, a, cell, h1, h2, h3, h4, h5, h6, h7, h8, h9, h10⟩ := h
  exact ⟨c, k, i, f, a, cell, h1, h2, h3, h4, by rw [hq a (Array.getElem?_eq_some_iff.mp h5).1 h10]; exact h5, h6, h7, h8, h9, h10⟩
theorem vx_L.narrow {C n d : String} {A B : Nat → Prop} {U : State} {H : Heap} (h : vx_L C n d A U H) (hAB : ∀ q, B q → A q) : vx_L C n d B U H := by
  obtain ⟨c, k, i, f, a, cell, h1, h2, h3, h4, h5, h6, h7, h8, h9, h10⟩ := h
  exact ⟨c, k, i, f, a, cell, h1, h2, h3, h4, h5, h6, h7, h8, h9, fun z => h10 (hAB _ z)⟩
theorem vx_L.word {C n d : String} {A : Nat → Prop} {s : State} {args : Array Value} (h : vx_L C n d A s s.heap) : (Cond.laysStatic C n d).before args s = true := by
  obtain ⟨c, k, i, f, a, cell, h1, h2, h3, h4, h5, h6, h7, h8, h9, -⟩ := h
  show (Cond.laysStatic C n d).holds args s none s [] = true
  exact Cond.laysStatic_of h1 h2 h3 h4 h5 h6 h7 h8 h9
/-- .. and what it holds: null or some reference -/
def vx_Zq (C n d : String) (A : Nat → Prop) (U : State) (H : Heap) : Prop := va_Zq C n d A U H ∧ vx_L C n d A U H
theorem vx_Zq.moved {C n d : String} {A : Nat → Prop} {u U : State} {H : Heap} (hvm : u.vm.Alike U.vm) (h : vx_Zq C n d A u H) : vx_Zq C n d A U H := ⟨va_Zq.moved hvm h.1, vx_L.moved hvm h.2⟩
theorem vx_Zq.kept {C n d : String} {A : Nat → Prop} {U : State} {H H1 : Heap} (h : vx_Zq C n d A U H) (hq : ∀ a : Nat, a < H.size → ¬ A a → H1[a]? = H[a]?) : vx_Zq C n d A U H1 := ⟨va_Zq.kept h.1 hq, vx_L.kept h.2 hq⟩
theorem vx_Zq.narrow {C n d : String} {A B : Nat → Prop} {U : State} {H : Heap} (h : vx_Zq C n d A U H) (hAB : ∀ q, B q → A q) : vx_Zq C n d B U H := ⟨va_Zq.narrow h.1 hAB, vx_L.narrow h.2 hAB⟩
theorem vx_Zqof {args : Array Value} {s : State} {C n d : String} {A : Nat → Prop} (hl : (Cond.laysStatic C n d).before args s = true) (hini : (Cond.initialized C).before args s = true) (h : (Cond.isRef (.static C n d)).before args s = true) (hA : ∀ a : Nat, a < s.heap.size → ¬ A a) : vx_Zq C n d A s s.heap := by
  refine ⟨va_Zqof hl hini h hA, ?_⟩
  obtain ⟨c, k, i, f, a, cell, h1, h2, h3, h4, h5, h6, h7, h8, h9⟩ := Cond.laysStatic_spec hl
  exact ⟨c, k, i, f, a, cell, h1, h2, h3, h4, h5, h6, h7, h8, h9, hA a (Array.getElem?_eq_some_iff.mp h5).1⟩
theorem vx_isRef {C n d : String} {v : Value} {A : Nat → Prop} {s : State} {args : Array Value} (h : va_Z C n d v A s s.heap) (hv : v.isRef = true) : (Cond.isRef (.static C n d)).before args s = true := by
  obtain ⟨cf, kf, fi, f, a, cell, h1, h2, h3, h4, h5, h6, h7, -⟩ := h
  have he : (Term.static C n d).eval args s none [] s = some v := by
    simp [Term.eval, State.fieldNamed?, h1, h2, h4, h5, h6, h7]
  simp only [Cond.before, Cond.holds, Cond.value, he]
  cases v <;> simp_all [Value.isRef]
theorem vx_isRefq {C n d : String} {A : Nat → Prop} {s : State} {args : Array Value} (h : va_Zq C n d A s s.heap) : (Cond.isRef (.static C n d)).before args s = true := by
  rcases h with h | ⟨t, h⟩
  · exact vx_isRef h rfl
  · exact vx_isRef h rfl
/-- the same frame, seen from here: as if the method were called anew in this heap -/
theorem vx_rebase {T : State} (X : Stand p l e R s m args below meth c T locs cells slots) {R' : Room} (hf : R'.frames ≤ R.frames) (hl : R'.locals ≤ R.locals) (hc : cells + R'.cells ≤ R.cells) (hs : slots + R'.slots ≤ R.slots) :
    Stand p l e R' ((T.setVm s.vm).setFrames (.invoking m args :: below)) m args below meth c T [] 0 0 := by
  have htop : (T.setVm s.vm).topJava?.isSome := X.here.top
  have hF : ((T.setVm s.vm).setFrames (.invoking m args :: below)).frames = .invoking m args :: below := State.frames_setFrames _ (State.cur_lt_of_top htop)
  obtain ⟨g₀, hg0⟩ := Option.isSome_iff_exists.mp htop
  obtain ⟨r, hr⟩ := State.topJava?_eq_some.mp hg0
  have hl9 : e.platform.stackLimits (T.setVm s.vm).me = e.platform.stackLimits s.me := X.limits
  have hb9 : (T.setVm s.vm).me.stackBytes = s.me.stackBytes := X.bytes
  refine ⟨X.admits, X.cas, X.clock, hF, ?_, X.hears, X.method, X.code, X.here, X.tail, X.warmed, ?_, ?_, ?_⟩
  · have h := X.room
    have hU : ((T.setVm s.vm).setFrames (.invoking m args :: below)).localsInUse = s.localsInUse := by
      rw [State.localsInUse_invoking hF (meth := meth) (c := c) X.method X.code, State.localsInUse_invoking X.frames X.method X.code]
    simp only [State.hasRoom, Bool.and_eq_true, decide_eq_true_eq] at h ⊢
    obtain ⟨⟨⟨⟨h1, h2, h3, h4, h5, h6⟩, h7⟩, h8⟩, h9⟩ := h
    rw [X.frames, List.length_cons] at h2 h3
    have q1 := X.heapSize
    have q2 := X.used
    simp only [hF, hU, List.length_cons, State.stackLimits_setFrames, State.stackBytes_setFrames, hl9, hb9]
    refine ⟨⟨⟨⟨by omega, by omega, by omega, by omega, by omega, h6⟩, ?_⟩, ?_⟩, X.book⟩
    · show T.heap.size + R'.cells ≤ e.platform.maxCells
      omega
    · show T.slotsUsed + R'.slots ≤ e.platform.maxSlots
      omega
  · rw [State.stackLimits_setFrames]; rfl
  · rw [State.stackBytes_setFrames]; rfl
  · refine ⟨?_, Nat.le_refl _, Nat.le_refl _, ?_, ?_, fun a c9 h9 => ⟨c9, h9, rfl, rfl, fun _ _ => rfl⟩⟩
    · obtain ⟨t, ht, -⟩ := State.frames_cons hr
      show T.setVm s.vm = { ((T.setVm s.vm).setFrames (.invoking m args :: below)).setFrames (T.setVm s.vm).frames with heap := T.heap, slotsUsed := T.slotsUsed }
      rw [State.setFrames_setFrames, State.setFrames_self ht]
      rfl
    · show T.slotsUsed = T.slotsUsed + ((T.heap.toList.drop T.heap.size).map (·.slots.size)).sum
      rw [List.drop_eq_nil_of_le (Nat.le_of_eq Array.length_toList)]
      rfl
    · show ((T.heap.toList.drop T.heap.size).map (·.slots.size)).sum ≤ 0
      rw [List.drop_eq_nil_of_le (Nat.le_of_eq Array.length_toList)]
      exact Nat.le_refl _
/-- 'throw new E()': new; dup; invokespecial; athrow -/
theorem vx_throw0 {cc : ByteArray} {pc : Nat} (hexec : p.tables.exec = Jvm.exec) (hb : c.code = cc) (hl : l.stackTraces = false) {own cls : String} {names : List String} {ik ic mc ms : Nat} {A : Nat → Prop}
    (hown : s.vm.findClass own = some m.cls) (hcls : Bundle.fit cls = true) (hnames : ∀ n ∈ names, Bundle.fit n = true)
    (hk : (Cond.classLink own ik cls).before args s = true) (hini : (Cond.initialized cls).before args s = true) (hat : ∀ w ∈ vx_at0 own ic cls names, w.before args s = true)
    (hgood : ∀ w ∈ Cond.classLink own ik cls :: Cond.initialized cls :: vx_at0 own ic cls names, vx_ot w = true)
    (hU : vx_Zq Bundle.tN "UNASSIGNED_STACK" Bundle.steD A s s.heap) (hN : vx_Zq Bundle.tN "SUPPRESSED_SENTINEL" Bundle.listD A s s.heap) (hS : va_S A s.heap H locs) (hsize : ls.size = c.maxLocals)
    (d0 : decode cc pc = .ok (.new ik, 3)) (d3 : decode cc (pc + 3) = .ok (.dup, 1)) (d4 : decode cc (pc + 4) = .ok (.invokespecial ic, 3)) (d7 : decode cc (pc + 7) = .ok (.athrow, 1))
    (hout : ∀ x ∈ c.exceptionTable.toList, covers x (pc + 7) = false)
    (hRframes : names.length + 3 < R.frames) (hRlocals : (rest.map fun v => v.category).sum + (13 * (names.length + 1) + 42) ≤ R.locals) (hRcells : cells + 1 ≤ R.cells) (hRslots : slots + 6 ≤ R.slots) (hlocks : meth.locks = false)
    (hx : ∀ t : State, s.vm.Alike t.vm → H.size ≤ t.heap.size → (∀ q : Nat, q < H.size → t.heap[q]? = H[q]?) → XC cls s t)
    (hf : ∀ z ∈ locs, free z.base) (hc : cells + 1 ≤ mc) (hs : slots + 6 ≤ ms) :
    W p l e R s m args below meth c H locs cells slots (vx_MQ below Qc XC args s mc ms free) (F0 m pc ls rest) := by
  intro T hT X
  have htr : e.platform.stackTraces = false := (show e.platform.stackTraces = l.stackTraces by rw [X.admits.platform]).trans hl
  have Y := vx_rebase X (R' := { frames := R.frames, locals := R.locals, cells := 1, slots := 6 }) (Nat.le_refl _) (Nat.le_refl _) hRcells hRslots
  obtain ⟨s', hA⟩ : ∃ z, z = (T.setVm s.vm).setFrames (.invoking m args :: below) := ⟨_, rfl⟩
  rw [← hA] at Y
  have hvm : s'.vm = s.vm := by rw [hA]; rfl
  have hhp : s'.heap = H := by rw [hA]; exact hT
  have hW0 : s.WarmedH s'.vm := by rw [hvm]; exact State.WarmedH.refl s
  have hat' : ∀ w ∈ vx_at0 own ic cls names, w.before args s' = true := fun w hw => vx_ot_at hW0 hvm.symm (hgood w (List.mem_cons_of_mem _ (List.mem_cons_of_mem _ hw))) (hat w hw)
  have hk' : (Cond.classLink own ik cls).before args s' = true := vx_ot_at hW0 hvm.symm (hgood _ List.mem_cons_self) hk
  have hini' : (Cond.initialized cls).before args s' = true := vx_ot_at hW0 hvm.symm (hgood _ (List.mem_cons_of_mem _ List.mem_cons_self)) hini
  have hU' : vx_Zq Bundle.tN "UNASSIGNED_STACK" Bundle.steD A s' s'.heap := by rw [hhp]; exact vx_Zq.moved hW0.alike (hU.kept hS.2.1)
  have hN' : vx_Zq Bundle.tN "SUPPRESSED_SENTINEL" Bundle.listD A s' s'.heap := by rw [hhp]; exact vx_Zq.moved hW0.alike (hN.kept hS.2.1)
  have h : ∀ w ∈ Bundle.ownAtoms0 own ic cls names, w.before args s' = true := vx_own hat' (vx_isRefq hU'.1) (vx_isRefq hN'.1) hU'.2.word hN'.2.word
  have hown' : s'.vm.findClass own = some m.cls := by rw [hvm]; exact hown
  have hins : (Cond.instantiable cls 6).before args s' = true := h _ (by simp [Bundle.ownAtoms0])
  obtain ⟨vm₁, cX, kX, hfX, hkX, -, -, X₁, st1⟩ := Y.newCold hexec (own := own) (C := cls) (index := ik) (n := 6) hown' hk' hins hini'
    (g := F0 m pc ls rest) rfl (by rw [hb]; exact d0) (Nat.le_refl _) (Nat.le_refl _)
  generalize hT1 : (T.setVm vm₁).pushCell { cls := cX, slots := kX.instanceTypes.map defaultValue, vm := .none } = T1 at X₁ st1
  have hcat : (Value.ref T.heap.size).category = 1 := rfl
  have hcellA : T1.heap[T.heap.size]? = some (freshCell cX kX) := by rw [← hT1]; exact State.heap_pushCell_size _ _
  have d3' : decode c.code (pc + 3) = .ok (.dup, 1) := by rw [hb]; exact d3
  obtain ⟨U, hsteps, hrun, hend, hW, hsame, ce, hce, hO⟩ := X₁.ctorThrow0 hexec htr (own := own) (cls := cls) (names := names) (ic := ic) hown' hcls hnames h (fun x hx => nomatch hx) hfX hkX hcellA (by rw [hhp, hT]; exact Nat.le_refl _)
    (g := { method := m, pc := pc + 4, locals := ls, stack := .ref T.heap.size :: .ref T.heap.size :: rest, locked := none }) rfl hsize rfl rfl (rest := rest) rfl
    (by rw [hb]; exact d4) (by rw [hb]; exact d7) hout hRframes (by simp only [List.map_cons, List.sum_cons, hcat]; omega) hlocks
  obtain ⟨f1, f2⟩ := vx_frame hsame
  rw [hhp] at f1 f2
  have hWs : s.WarmedH U.vm := State.WarmedH.trans hW0 hW
  have hcl : s.vm.findClass cls = some ce.cls := by
    have h9 := hO.cls
    rw [hvm] at h9
    exact h9
  have hall : s.sameButNew ({ U with vm := s.vm } : State) locs mc ms := by
    subst hA
    obtain ⟨e1, e2⟩ := hsame
    rw [State.setFrames_setFrames] at e1
    have h2 : (T.setVm s.vm).sameButNew ({ U with vm := s.vm } : State) [] (0 + 1) (0 + 6) := ⟨e1, e2⟩
    have h3 := X.same.trans h2
    rw [List.append_nil] at h3
    exact h3.mono hc hs
  refine ⟨U, ?_, .threw T.heap.size, hrun, hend, Or.inr ⟨T.heap.size, rfl, cls, ce, locs, hx U hWs.alike f1 (fun q hq => f2 q hq (fun z hz => nomatch hz)), hce, hO.vm, hcl, hWs, hall, hf⟩⟩
  refine st1 _ ?_
  show Steps p.tables e below (T1.setTop { method := m, pc := pc + 3, locals := ls, stack := .ref T.heap.size :: rest, locked := none }) _
  jvm_step X₁.here [X₁.here.top, hexec, d3', Value.category]
  exact hsteps
/-- 'throw new E("text")': new; dup; ldc; invokespecial; athrow -/
theorem vx_throwS {cc : ByteArray} {pc : Nat} (hexec : p.tables.exec = Jvm.exec) (hb : c.code = cc) (hl : l.stackTraces = false) {own cls text : String} {names : List String} {ik is ic mc ms sa : Nat} {A : Nat → Prop}
    (hown : s.vm.findClass own = some m.cls) (hcls : Bundle.fit cls = true) (hnames : ∀ n ∈ names, Bundle.fit n = true)
    (hk : (Cond.classLink own ik cls).before args s = true) (hini : (Cond.initialized cls).before args s = true) (hstr : vk_R own is text sa s) (hat : ∀ w ∈ vx_atS own ic cls names, w.before args s = true)
    (hgood : ∀ w ∈ Cond.classLink own ik cls :: Cond.initialized cls :: vx_atS own ic cls names, vx_ot w = true)
    (hU : vx_Zq Bundle.tN "UNASSIGNED_STACK" Bundle.steD A s s.heap) (hN : vx_Zq Bundle.tN "SUPPRESSED_SENTINEL" Bundle.listD A s s.heap) (hS : va_S A s.heap H locs) (hsize : ls.size = c.maxLocals)
    (d0 : decode cc pc = .ok (.new ik, 3)) (d3 : decode cc (pc + 3) = .ok (.dup, 1)) (d4 : decode cc (pc + 4) = .ok (.ldc is, 2)) (d6 : decode cc (pc + 6) = .ok (.invokespecial ic, 3)) (d9 : decode cc (pc + 9) = .ok (.athrow, 1))
    (hout : ∀ x ∈ c.exceptionTable.toList, covers x (pc + 9) = false)
    (hRframes : names.length + 3 < R.frames) (hRlocals : (rest.map fun v => v.category).sum + (13 * (names.length + 1) + 43) ≤ R.locals) (hRcells : cells + 1 ≤ R.cells) (hRslots : slots + 6 ≤ R.slots) (hlocks : meth.locks = false)
    (hx : ∀ t : State, s.vm.Alike t.vm → H.size ≤ t.heap.size → (∀ q : Nat, q < H.size → t.heap[q]? = H[q]?) → XC cls s t)
    (hf : ∀ z ∈ locs, free z.base) (hc : cells + 1 ≤ mc) (hs : slots + 6 ≤ ms) :
    W p l e R s m args below meth c H locs cells slots (vx_MQ below Qc XC args s mc ms free) (F0 m pc ls rest) := by
  intro T hT X
  have htr : e.platform.stackTraces = false := (show e.platform.stackTraces = l.stackTraces by rw [X.admits.platform]).trans hl
  have Y := vx_rebase X (R' := { frames := R.frames, locals := R.locals, cells := 1, slots := 6 }) (Nat.le_refl _) (Nat.le_refl _) hRcells hRslots
  obtain ⟨s', hA⟩ : ∃ z, z = (T.setVm s.vm).setFrames (.invoking m args :: below) := ⟨_, rfl⟩
  rw [← hA] at Y
  have hvm : s'.vm = s.vm := by rw [hA]; rfl
  have hhp : s'.heap = H := by rw [hA]; exact hT
  have hW0 : s.WarmedH s'.vm := by rw [hvm]; exact State.WarmedH.refl s
  have hat' : ∀ w ∈ vx_atS own ic cls names, w.before args s' = true := fun w hw => vx_ot_at hW0 hvm.symm (hgood w (List.mem_cons_of_mem _ (List.mem_cons_of_mem _ hw))) (hat w hw)
  have hk' : (Cond.classLink own ik cls).before args s' = true := vx_ot_at hW0 hvm.symm (hgood _ List.mem_cons_self) hk
  have hini' : (Cond.initialized cls).before args s' = true := vx_ot_at hW0 hvm.symm (hgood _ (List.mem_cons_of_mem _ List.mem_cons_self)) hini
  have hU' : vx_Zq Bundle.tN "UNASSIGNED_STACK" Bundle.steD A s' s'.heap := by rw [hhp]; exact vx_Zq.moved hW0.alike (hU.kept hS.2.1)
  have hN' : vx_Zq Bundle.tN "SUPPRESSED_SENTINEL" Bundle.listD A s' s'.heap := by rw [hhp]; exact vx_Zq.moved hW0.alike (hN.kept hS.2.1)
  have h : ∀ w ∈ Bundle.ownAtoms own ic cls names, w.before args s' = true := vx_own hat' (vx_isRefq hU'.1) (vx_isRefq hN'.1) hU'.2.word hN'.2.word
  have hown' : s'.vm.findClass own = some m.cls := by rw [hvm]; exact hown
  have hins : (Cond.instantiable cls 6).before args s' = true := h _ (by simp [Bundle.ownAtoms])
  obtain ⟨vm₁, cX, kX, hfX, hkX, -, -, X₁, st1⟩ := Y.newCold hexec (own := own) (C := cls) (index := ik) (n := 6) hown' hk' hins hini'
    (g := F0 m pc ls rest) rfl (by rw [hb]; exact d0) (Nat.le_refl _) (Nat.le_refl _)
  generalize hT1 : (T.setVm vm₁).pushCell { cls := cX, slots := kX.instanceTypes.map defaultValue, vm := .none } = T1 at X₁ st1
  have hcat : (Value.ref T.heap.size).category = 1 := rfl
  have hcellA : T1.heap[T.heap.size]? = some (freshCell cX kX) := by rw [← hT1]; exact State.heap_pushCell_size _ _
  have d3' : decode c.code (pc + 3) = .ok (.dup, 1) := by rw [hb]; exact d3
  have d4' : decode c.code (pc + 4) = .ok (.ldc is, 2) := by rw [hb]; exact d4
  have hstr' : vk_R own is text sa s' := vk_R.warm hW0 hstr
  obtain ⟨U, hsteps, hrun, hend, hW, hsame, ce, hce, hO⟩ := X₁.ctorThrowS hexec htr (own := own) (cls := cls) (names := names) (ic := ic) hown' hcls hnames h (fun x hx => nomatch hx) hfX hkX hcellA (by rw [hhp, hT]; exact Nat.le_refl _) (msg := .ref sa) rfl
    (g := { method := m, pc := pc + 6, locals := ls, stack := .ref sa :: .ref T.heap.size :: .ref T.heap.size :: rest, locked := none }) rfl hsize rfl rfl (rest := rest) rfl
    (by rw [hb]; exact d6) (by rw [hb]; exact d9) hout hRframes (by simp only [List.map_cons, List.sum_cons, hcat]; omega) hlocks
  obtain ⟨f1, f2⟩ := vx_frame hsame
  rw [hhp] at f1 f2
  have hWs : s.WarmedH U.vm := State.WarmedH.trans hW0 hW
  have hcl : s.vm.findClass cls = some ce.cls := by
    have h9 := hO.cls
    rw [hvm] at h9
    exact h9
  have hall : s.sameButNew ({ U with vm := s.vm } : State) locs mc ms := by
    subst hA
    obtain ⟨e1, e2⟩ := hsame
    rw [State.setFrames_setFrames] at e1
    have h2 : (T.setVm s.vm).sameButNew ({ U with vm := s.vm } : State) [] (0 + 1) (0 + 6) := ⟨e1, e2⟩
    have h3 := X.same.trans h2
    rw [List.append_nil] at h3
    exact h3.mono hc hs
  refine ⟨U, ?_, .threw T.heap.size, hrun, hend, Or.inr ⟨T.heap.size, rfl, cls, ce, locs, hx U hWs.alike f1 (fun q hq => f2 q hq (fun z hz => nomatch hz)), hce, hO.vm, hcl, hWs, hall, hf⟩⟩
  refine st1 _ ?_
  show Steps p.tables e below (T1.setTop { method := m, pc := pc + 3, locals := ls, stack := .ref T.heap.size :: rest, locked := none }) _
  jvm_step X₁.here [X₁.here.top, hexec, d3', Value.category]
  exact X₁.ldcString hexec (own := own) (text := text) (index := is) (a := sa) hown' hstr'.1 hstr'.2
    (g := { method := m, pc := pc + 4, locals := ls, stack := .ref T.heap.size :: .ref T.heap.size :: rest, locked := none }) rfl d4' _ hsteps
/-- 'throw new E("text")', the text by a wide index -/
theorem vx_throwSW {cc : ByteArray} {pc : Nat} (hexec : p.tables.exec = Jvm.exec) (hb : c.code = cc) (hl : l.stackTraces = false) {own cls text : String} {names : List String} {ik is ic mc ms sa : Nat} {A : Nat → Prop}
    (hown : s.vm.findClass own = some m.cls) (hcls : Bundle.fit cls = true) (hnames : ∀ n ∈ names, Bundle.fit n = true)
    (hk : (Cond.classLink own ik cls).before args s = true) (hini : (Cond.initialized cls).before args s = true) (hstr : vk_R own is text sa s) (hat : ∀ w ∈ vx_atS own ic cls names, w.before args s = true)
    (hgood : ∀ w ∈ Cond.classLink own ik cls :: Cond.initialized cls :: vx_atS own ic cls names, vx_ot w = true)
    (hU : vx_Zq Bundle.tN "UNASSIGNED_STACK" Bundle.steD A s s.heap) (hN : vx_Zq Bundle.tN "SUPPRESSED_SENTINEL" Bundle.listD A s s.heap) (hS : va_S A s.heap H locs) (hsize : ls.size = c.maxLocals)
    (d0 : decode cc pc = .ok (.new ik, 3)) (d3 : decode cc (pc + 3) = .ok (.dup, 1)) (d4 : decode cc (pc + 4) = .ok (.ldc_w is, 3)) (d7 : decode cc (pc + 7) = .ok (.invokespecial ic, 3)) (d10 : decode cc (pc + 10) = .ok (.athrow, 1))
    (hout : ∀ x ∈ c.exceptionTable.toList, covers x (pc + 10) = false)
    (hRframes : names.length + 3 < R.frames) (hRlocals : (rest.map fun v => v.category).sum + (13 * (names.length + 1) + 43) ≤ R.locals) (hRcells : cells + 1 ≤ R.cells) (hRslots : slots + 6 ≤ R.slots) (hlocks : meth.locks = false)
    (hx : ∀ t : State, s.vm.Alike t.vm → H.size ≤ t.heap.size → (∀ q : Nat, q < H.size → t.heap[q]? = H[q]?) → XC cls s t)
    (hf : ∀ z ∈ locs, free z.base) (hc : cells + 1 ≤ mc) (hs : slots + 6 ≤ ms) :
    W p l e R s m args below meth c H locs cells slots (vx_MQ below Qc XC args s mc ms free) (F0 m pc ls rest) := by
  intro T hT X
  have htr : e.platform.stackTraces = false := (show e.platform.stackTraces = l.stackTraces by rw [X.admits.platform]).trans hl
  have Y := vx_rebase X (R' := { frames := R.frames, locals := R.locals, cells := 1, slots := 6 }) (Nat.le_refl _) (Nat.le_refl _) hRcells hRslots
  obtain ⟨s', hA⟩ : ∃ z, z = (T.setVm s.vm).setFrames (.invoking m args :: below) := ⟨_, rfl⟩
  rw [← hA] at Y
  have hvm : s'.vm = s.vm := by rw [hA]; rfl
  have hhp : s'.heap = H := by rw [hA]; exact hT
  have hW0 : s.WarmedH s'.vm := by rw [hvm]; exact State.WarmedH.refl s
  have hat' : ∀ w ∈ vx_atS own ic cls names, w.before args s' = true := fun w hw => vx_ot_at hW0 hvm.symm (hgood w (List.mem_cons_of_mem _ (List.mem_cons_of_mem _ hw))) (hat w hw)
  have hk' : (Cond.classLink own ik cls).before args s' = true := vx_ot_at hW0 hvm.symm (hgood _ List.mem_cons_self) hk
  have hini' : (Cond.initialized cls).before args s' = true := vx_ot_at hW0 hvm.symm (hgood _ (List.mem_cons_of_mem _ List.mem_cons_self)) hini
  have hU' : vx_Zq Bundle.tN "UNASSIGNED_STACK" Bundle.steD A s' s'.heap := by rw [hhp]; exact vx_Zq.moved hW0.alike (hU.kept hS.2.1)
  have hN' : vx_Zq Bundle.tN "SUPPRESSED_SENTINEL" Bundle.listD A s' s'.heap := by rw [hhp]; exact vx_Zq.moved hW0.alike (hN.kept hS.2.1)
  have h : ∀ w ∈ Bundle.ownAtoms own ic cls names, w.before args s' = true := vx_own hat' (vx_isRefq hU'.1) (vx_isRefq hN'.1) hU'.2.word hN'.2.word
  have hown' : s'.vm.findClass own = some m.cls := by rw [hvm]; exact hown
  have hins : (Cond.instantiable cls 6).before args s' = true := h _ (by simp [Bundle.ownAtoms])
  obtain ⟨vm₁, cX, kX, hfX, hkX, -, -, X₁, st1⟩ := Y.newCold hexec (own := own) (C := cls) (index := ik) (n := 6) hown' hk' hins hini'
    (g := F0 m pc ls rest) rfl (by rw [hb]; exact d0) (Nat.le_refl _) (Nat.le_refl _)
  generalize hT1 : (T.setVm vm₁).pushCell { cls := cX, slots := kX.instanceTypes.map defaultValue, vm := .none } = T1 at X₁ st1
  have hcat : (Value.ref T.heap.size).category = 1 := rfl
  have hcellA : T1.heap[T.heap.size]? = some (freshCell cX kX) := by rw [← hT1]; exact State.heap_pushCell_size _ _
  have d3' : decode c.code (pc + 3) = .ok (.dup, 1) := by rw [hb]; exact d3
  have d4' : decode c.code (pc + 4) = .ok (.ldc_w is, 3) := by rw [hb]; exact d4
  have hstr' : vk_R own is text sa s' := vk_R.warm hW0 hstr
  obtain ⟨U, hsteps, hrun, hend, hW, hsame, ce, hce, hO⟩ := X₁.ctorThrowS hexec htr (own := own) (cls := cls) (names := names) (ic := ic) hown' hcls hnames h (fun x hx => nomatch hx) hfX hkX hcellA (by rw [hhp, hT]; exact Nat.le_refl _) (msg := .ref sa) rfl
    (g := { method := m, pc := pc + 7, locals := ls, stack := .ref sa :: .ref T.heap.size :: .ref T.heap.size :: rest, locked := none }) rfl hsize rfl rfl (rest := rest) rfl
    (by rw [hb]; exact d7) (by rw [hb]; exact d10) hout hRframes (by simp only [List.map_cons, List.sum_cons, hcat]; omega) hlocks
  obtain ⟨f1, f2⟩ := vx_frame hsame
  rw [hhp] at f1 f2
  have hWs : s.WarmedH U.vm := State.WarmedH.trans hW0 hW
  have hcl : s.vm.findClass cls = some ce.cls := by
    have h9 := hO.cls
    rw [hvm] at h9
    exact h9
  have hall : s.sameButNew ({ U with vm := s.vm } : State) locs mc ms := by
    subst hA
    obtain ⟨e1, e2⟩ := hsame
    rw [State.setFrames_setFrames] at e1
    have h2 : (T.setVm s.vm).sameButNew ({ U with vm := s.vm } : State) [] (0 + 1) (0 + 6) := ⟨e1, e2⟩
    have h3 := X.same.trans h2
    rw [List.append_nil] at h3
    exact h3.mono hc hs
  refine ⟨U, ?_, .threw T.heap.size, hrun, hend, Or.inr ⟨T.heap.size, rfl, cls, ce, locs, hx U hWs.alike f1 (fun q hq => f2 q hq (fun z hz => nomatch hz)), hce, hO.vm, hcl, hWs, hall, hf⟩⟩
  refine st1 _ ?_
  show Steps p.tables e below (T1.setTop { method := m, pc := pc + 3, locals := ls, stack := .ref T.heap.size :: rest, locked := none }) _
  jvm_step X₁.here [X₁.here.top, hexec, d3', Value.category]
  exact X₁.ldcStringW hexec (own := own) (text := text) (index := is) (a := sa) hown' hstr'.1 hstr'.2
    (g := { method := m, pc := pc + 4, locals := ls, stack := .ref T.heap.size :: .ref T.heap.size :: rest, locked := none }) rfl d4' _ hsteps
end Ends
section Bodies
variable {l : Launch}
theorem vx_ofW {y : MethodName} {ws ws' : List Cond} {rm : Room} {Pc : Array Value → State → Prop} {Qc : Array Value → State → Outcome → State → Prop} {XC : String → State → State → Prop} {mc ms : Nat} {free : Addr → Prop} {cc : ByteArray} {maxL : Nat} {ret : Option FieldType}
    (hy : plainName y.cls = true) (hw : ws = Cond.code y cc maxL ret :: ws')
    (body : ∀ p e s m args below meth c s₁, BodyLoose p l y (headSpec ws rm) cc maxL ret e s m args below meth c s₁ → c.maxLocals = maxL → (∀ x ∈ c.exceptionTable.toList, False) → Pc args s →
      W p l e (headSpec ws rm).room s m args below meth c s.heap [] 0 0 (vx_MQ below Qc XC args s mc ms free) (entryFrame m args maxL)) : vx_Met l y ws rm Pc Qc XC mc ms free := by
  refine MetFree.of_bodyS (code := cc) (maxLocals := maxL) (ret := ret) hy ?_ ?_
  · intro args s m h hn
    obtain ⟨meth, c, h1, h2, h3, h4, h5, h6, -, -⟩ := Cond.code_spec hn (atoms_spec (ws := ws) h _ (by rw [hw]; exact List.mem_cons_self))
    exact ⟨meth, c, h1, h2, h3, h4, h5, h6⟩
  · intro p e s m args below meth c s₁ B hml hP _
    have hh0 : s₁.heap = s.heap := by rw [B.state]; rfl
    have ht : ∀ x ∈ c.exceptionTable.toList, False := by
      obtain ⟨meth9, c9, h1, h2, -, -, -, -, h7, -⟩ := Cond.code_spec B.named (atoms_spec (ws := ws) B.pre _ (by rw [hw]; exact List.mem_cons_self))
      cases Option.some.inj (h1.symm.trans B.method)
      cases Option.some.inj (h2.symm.trans (Stand.of_body B).code)
      intro x hx
      rw [Array.isEmpty_iff.mp h7] at hx
      cases hx
    obtain ⟨t, a1, o, b1, b2, b3⟩ := body p e s m args below meth c s₁ B hml ht hP s₁ hh0 (Stand.of_body B)
    exact ⟨t, o, a1, b1, b2, b3⟩
/-- the table of a body with handlers -/
theorem vx_table {p : Program} {x y : MethodName} {S : Spec} {cc bytes : ByteArray} {maxL maxL' : Nat} {ret ret' : Option FieldType} {e : Env} {s s₁ : State} {m : MethodId} {args : Array Value} {below : List Frame} {meth : Method} {c : Code} {hh : List (Nat × Nat × Nat × Nat)}
    (B : BodyLoose p l y S cc maxL ret e s m args below meth c s₁) (h : (Cond.codeWith y bytes maxL' ret' hh).before args s = true) : c.exceptionTable.toList = tableOf hh := by
  obtain ⟨m9, meth9, c9, hn9, h1, h2, -, -, h6, -⟩ := Cond.codeWith_spec h
  cases Option.some.inj (hn9.symm.trans B.named)
  cases Option.some.inj (h1.symm.trans B.method)
  cases Option.some.inj (h2.symm.trans (Stand.of_body B).code)
  rw [← h6, table_eq]
end Bodies
end VXA
/-! ===== END ===== -/
/-! ===== BEGIN a static call of a method with an exception table ===== -/
section VXS
variable {p : Program} {l : Launch} {e : Env} {R : Room} {s : State} {m : MethodId} {args : Array Value} {below : List Frame} {meth : Method} {c : Code} {T : State} {H : Heap} {locs : List Loc} {cells slots : Nat}
abbrev vx_CSW (R : Room) (s : State) (args : Array Value) (own : String) (index : Nat) (y : MethodName) (bytes : ByteArray) (maxL : Nat) (ret : Option FieldType) (hh : List (Nat × Nat × Nat × Nat)) (ws : List Cond) (rm : Room) (mc ms n : Nat) : Prop :=
  (rm.cells = mc ∧ rm.slots = ms ∧ rm.frames + 1 ≤ R.frames ∧ 8 + (maxL + 11) + rm.locals ≤ R.locals ∧ (∀ w ∈ ws, ∀ (a' : Array Value) (U : State), s.WarmedH U.vm → w.before a' U = true) ∧ Cond.codeWith y bytes maxL ret hh ∈ ws) ∧
  (Cond.codeWith y bytes maxL ret hh).before args s = true ∧ (Cond.initialized y.cls).before args s = true ∧ (y.cls ≠ "java/lang/invoke/MethodHandle" ∧ y.cls ≠ "java/lang/invoke/VarHandle") ∧
  (∀ sig, parseMethodDescriptor y.desc = some sig → n = sig.parameters.length) ∧ (Cond.methodLink own index y).before args s = true ∧ (Cond.static y).before args s = true
theorem vx_cwSW {own : String} {index maxL mc ms : Nat} {y : MethodName} {bytes : ByteArray} {ret : Option FieldType} {hh : List (Nat × Nat × Nat × Nat)} {Ts ws ws' : List Cond} {rm : Room} (n : Nat) (ht : ∀ w ∈ Ts, w.before args s = true) (hT : GoodIn Ts (va_wsS own index y ws)) (hw : ws = Cond.codeWith y bytes maxL ret hh :: ws') (hrc : rm.cells = mc) (hrs : rm.slots = ms)
    (hd : y.cls ≠ "java/lang/invoke/MethodHandle" ∧ y.cls ≠ "java/lang/invoke/VarHandle" ∧ (parseMethodDescriptor y.desc).map (fun d => d.parameters.length) = some n) (hR : rm.frames + 1 ≤ R.frames ∧ 8 + (maxL + 11) + rm.locals ≤ R.locals) :
    vx_CSW R s args own index y bytes maxL ret hh ws rm mc ms n := by
  have ok : ∀ w ∈ va_wsS own index y ws, w.before args s = true := fun w h => ht w (hT w h).1
  have hG : GoodIn Ts ws := fun w h => hT w (by unfold va_wsS; exact List.mem_append_right _ h)
  have hc : Cond.codeWith y bytes maxL ret hh ∈ ws := by rw [hw]; exact List.mem_cons_self
  refine ⟨⟨hrc, hrs, hR.1, hR.2, pay_in ht hG, hc⟩, ht _ (hG _ hc).1, ok _ (by simp [va_wsS]), ⟨hd.1, hd.2.1⟩, fun sig h => ?_, ok _ (by simp [va_wsS]), ok _ (by simp [va_wsS])⟩
  have h2 := hd.2.2
  rw [h] at h2
  exact (Option.some.inj h2).symm
theorem vx_callSW (X : Stand p l e R s m args below meth c T locs cells slots) (hexec : p.tables.exec = Jvm.exec) {own : String} {index : Nat} {y : MethodName} {bytes : ByteArray} {maxL : Nat} {ret : Option FieldType} {hh : List (Nat × Nat × Nat × Nat)}
    (hown : s.vm.findClass own = some m.cls) (hlink : (Cond.methodLink own index y).before args s = true) (hstat : (Cond.static y).before args s = true) (hinit : (Cond.initialized y.cls).before args s = true)
    (hcode : (Cond.codeWith y bytes maxL ret hh).before args s = true) (hy : y.cls ≠ "java/lang/invoke/MethodHandle" ∧ y.cls ≠ "java/lang/invoke/VarHandle")
    {W9 : Nat} {Pre : Pt → Array Value → Prop} {Post : Pt → Array Value → Option Value → Pt → Prop} (hK : Back l R p e below s args y 3 W9 Pre Post)
    {g : JFrame} (hg : g.method = m) (hsize : g.locals.size = c.maxLocals) {argsL rest : List Value} (hlen : ∀ sig, parseMethodDescriptor y.desc = some sig → argsL.length = sig.parameters.length)
    (hstack : g.stack = argsL.reverse ++ rest) (hW : 2 * g.monitorRoom + (rest.map fun v => v.category).sum ≤ W9) (hdg : decode c.code g.pc = .ok (.invokestatic index, 3))
    (hpre : ∀ vm₁, s.WarmedH vm₁ → Pre ⟨T.setVm vm₁, locs, cells, slots⟩ argsL.toArray) :
    ∃ (v : Option Value) (vm₁ : Vm) (B : Pt), s.WarmedH vm₁ ∧ Stand p l e R s m args below meth c B.U B.locs B.cells B.slots ∧ Post ⟨T.setVm vm₁, locs, cells, slots⟩ argsL.toArray v B ∧
      ∀ target, Steps p.tables e below (B.U.setTop { g with pc := g.pc + 3, stack := v.toList ++ rest }) target → Steps p.tables e below (T.setTop g) target := by
  obtain ⟨mk, methM, cM, hnamed, hmethM, -, -, -, -, -, -, hsigM⟩ := Cond.codeWith_spec hcode
  have hstatic : methM.isStatic = true := Cond.static_spec hnamed hmethM hstat
  obtain ⟨kP, hkP, -⟩ := className_of_methodNamed hnamed
  have hinitP : kP.init = .initialized := Cond.initialized_spec (findClass_of_methodNamed hnamed) hkP hinit
  obtain ⟨vm₁, X₁, hstep₁⟩ := X.invokestatic hexec hown hlink hnamed hmethM hstatic hkP hinitP hy (g := g) hg (argsL := argsL) (rest := rest) (hlen _ hsigM) hstack hdg
  obtain ⟨v, B, X', hpost, hsteps⟩ := hK m meth c ⟨T.setVm vm₁, locs, cells, slots⟩ { g with stack := rest } (.invokestatic index) mk argsL.toArray X₁ hg hsize hdg hW (X₁.named hnamed) (hpre vm₁ X₁.warmed)
  exact ⟨v, vm₁, B, X₁.warmed, X', hpost, fun target h => hstep₁ _ fun acts => by rw [doInvoke_state]; exact hsteps.trans h⟩
theorem vx_runSW {y : MethodName} {bytes cc : ByteArray} {maxL nL mc ms n index : Nat} {ret : Option FieldType} {hh : List (Nat × Nat × Nat × Nat)} {ws : List Cond} {rm : Room} {Pc : Array Value → State → Prop} {Qc : Array Value → State → Outcome → State → Prop} {free : Addr → Prop} {Ts : List Cond} {own : String} {As rest : List Value} {g : JFrame}
    (S : CallFix p m c cc nL s args Ts own) (hM : Met l y ws rm Pc Qc mc ms free) (cw : vx_CSW R s args own index y bytes maxL ret hh ws rm mc ms n) (hp : PreS s H Pc As)
    (hg : g.method = m) (hn : As.length = n) (hsize : g.locals.size = nL) (hstack : g.stack = As.reverse ++ rest) (hW : 2 * g.monitorRoom + (rest.map fun v => v.category).sum ≤ 8) (hdg : decode cc g.pc = .ok (.invokestatic index, 3)) (hf : cells + mc ≤ R.cells ∧ slots + ms ≤ R.slots) :
    va_Run p l e R s m args below meth c H locs cells slots mc ms g rest (Qc As.toArray) (free) := by
  obtain ⟨⟨hrc, hrs, hfr, hlo, hws, hcw⟩, hcode, hini, hy, hlen, hl, hstt⟩ := cw
  have hK : Back l R p e below s args y 3 8 (PreOf R mc ms Pc) (PostOf Qc mc ms free) := va_backW (hh := hh) (bytes := bytes) (maxL := maxL) (ret := ret) hM hp.1 hrc hrs hfr hlo hws hcw (fun a' U hW => word_at hW (Or.inl (by first | rfl | simp [Cond.onTables, Cond.keeps, Cond.steady])) hini)
  obtain ⟨hx, hb, hml, ho, -⟩ := S
  intro T hT X
  obtain ⟨v, vm₁, ⟨U', l2, c2, s2⟩, hW₁, X', ⟨g', mk, t, L, e1, e2, hq, h1, hL, h2, h3⟩, st⟩ := vx_callSW X hx (hh := hh) (bytes := bytes) (maxL := maxL) (ret := ret) ho hl hstt hini hcode hy hK hg (hsize.trans hml.symm) (argsL := As) (rest := rest) (fun sig h => hn.trans (hlen sig h)) hstack hW (by rw [hb]; exact hdg)
    (fun vm₁ hW₁ => ⟨hf.1, hf.2, hp.2 (T.setVm vm₁) hT hW₁⟩)
  dsimp only [Pt.U, Pt.locs, Pt.cells, Pt.slots] at X' e1 e2 h1 h2 h3 st
  subst h1; subst h2; subst h3
  exact ⟨v, (T.setVm vm₁).calling g' mk As.toArray, t, U', L, hT, X', hL, e1, e2, hq, st⟩
/-- not caught here, past rows that name other classes: it goes on to the caller -/
theorem vx_outP {p : Program} {l : Launch} {e : Env} {R : Room} {s : State} {m : MethodId} {args : Array Value} {below : List Frame} {meth : Method} {c : Code} {H : Heap} {locs : List Loc} {cells slots : Nat} {free : Addr → Prop} {ls : Array Slot} {rest : List Value} {Qc : Array Value → State → Outcome → State → Prop} {XC : String → State → State → Prop}
    {pc : Nat} {own E : String} {ce : Cell} {q : Addr} {mc ms : Nat} (hown : s.vm.findClass own = some m.cls) (hlocks : meth.locks = false)
    (hpass : ∀ z ∈ c.exceptionTable.toList, covers z pc = false ∨ (z.catchType ≠ 0 ∧ ∃ nm : String, (Cond.classLink own z.catchType nm).before args s = true ∧ va_Nc E nm s)) (hcell : H[q]? = some ce) (hv : ce.vm = .none) (hcl : s.vm.findClass E = some ce.cls)
    (hx : ∀ t : State, t.heap = H → s.vm.Alike t.vm → XC E s t) (hf : ∀ z ∈ locs, free z.base) (hc : cells ≤ mc) (hs : slots ≤ ms) :
    vx_W p l e R s m args below meth c H locs cells slots (vx_MQ below Qc XC args s mc ms free) (F0 m pc ls rest) q := by
  intro T hT X
  have hpl : e.platform.magicAccessors = ({} : Platform).magicAccessors := by rw [X.admits.platform]
  obtain ⟨vm', hW', X', st⟩ := X.outThrough hlocks q (g := F0 m pc ls rest) rfl rfl rfl (cell := ce) (by rw [hT]; exact hcell) (by rw [hv]; rfl)
    (by obtain ⟨k9, h9, -⟩ := Vm.findClass_spec hcl; exact ⟨k9, h9⟩) (fun z hz => by
      rcases hpass z hz with h | ⟨hz0, nm, hl1, hn1⟩
      · exact Or.inl h
      · obtain ⟨c6, hc6, hcl6⟩ := Cond.classLink_spec hown hl1 e.platform hpl
        obtain ⟨a8, b8, h1, h2, h3⟩ := hn1
        cases Option.some.inj (h1.symm.trans hcl)
        cases Option.some.inj (h2.symm.trans hc6)
        exact Or.inr ⟨hz0, _, hcl6, h3⟩)
  obtain ⟨g₀, hfr⟩ := X'.frames_eq
  have hcell9 : ((T.setVm vm').setFrames (.throwing q :: below)).heap[q]? = some ce := by
    show T.heap[q]? = some ce
    rw [hT]; exact hcell
  have hend : Ended ((T.setVm vm').setFrames (.throwing q :: below)) below (.threw q) := State.frames_setFrames _ (State.cur_lt_of_frames hfr)
  refine ⟨(T.setVm vm').setFrames (.throwing q :: below), ?_, .threw q, X'.here.running, hend, Or.inr ⟨q, rfl, E, ce, locs, hx _ hT (X'.ends _).1.alike, hcell9, hv, hcl, (X'.ends _).1, (X'.ends _).2.mono hc hs, hf⟩⟩
  rw [X.pushThrowing_eq]
  exact st
/-- a thing of a world lies in the heap -/
theorem vx_lt {D : va_G} {cl : List vw_C} {ws : va_W} {H1 : Heap} (h : va_P D cl ws H1) {k : Nat} {q : Nat × va_E} (hk : ws[k]? = some q) : q.1 < H1.size := (h k q hk).lt
end VXS
/-! ===== END ===== -/
/-! ===== BEGIN methods with a table of their own: called by a name, returning or throwing ===== -/
section VXH
/-! vx_backW, vx_callVX, vx_callSX, vx_callVW, vx_runVW, vx_runVX, vx_runSX, vx_ofWH follow the same proofs as their sisters above (Free/Laws.lean, Shelf42/LK1.lean); vx_outP calls Shelf42/NT130.lean (outThrough). -/
section
variable {l : Launch} {R : Room} {p : Program} {e : Env} {below : List Frame} {s : State} {sargs : Array Value} {y : MethodName} {len W9 : Nat}
theorem vx_backW {ws : List Cond} {rm : Room} {Pc : Array Value → State → Prop} {Qc : Array Value → State → Outcome → State → Prop} {XC : String → State → State → Prop} {mc ms : Nat} {free : Addr → Prop} {bytes : ByteArray} {maxL : Nat} {ret : Option FieldType} {hh : List (Nat × Nat × Nat × Nat)}
    (hM : vx_Met l y ws rm Pc Qc XC mc ms free) (hblind : FrameBlind Pc) (hrc : rm.cells = mc) (hrs : rm.slots = ms)
    (hframes : rm.frames + 1 ≤ R.frames) (hlocals : W9 + (maxL + 11) + rm.locals ≤ R.locals)
    (hws : ∀ w ∈ ws, ∀ a' U, s.WarmedH U.vm → w.before a' U = true) (hcode : Cond.codeWith y bytes maxL ret hh ∈ ws) (hinit : ∀ a' U, s.WarmedH U.vm → (Cond.initialized y.cls).before a' U = true) :
    vx_Back l R p e below s sargs y len W9 (PreOf R mc ms Pc) (PostOf Qc mc ms free) (vx_Post XC mc ms free) := by
  intro m meth c A g ig mk a X hg hsize hdg hW hn hp
  have h1 : (headSpec ws rm).pre.before a A.U = true := atoms_intro fun w hw => hws w hw _ _ X.warmed
  have h2 : (Cond.codeWith y bytes maxL ret hh).before a A.U = true := hws _ hcode _ _ X.warmed
  have h3 : (Cond.initialized y.cls).before a A.U = true := hinit _ _ X.warmed
  have h4 : A.cells + (headSpec ws rm).room.cells ≤ R.cells := by rw [show (headSpec ws rm).room.cells = mc from hrc]; exact hp.1
  have h5 : A.slots + (headSpec ws rm).room.slots ≤ R.slots := by rw [show (headSpec ws rm).room.slots = ms from hrs]; exact hp.2.1
  have hPc : Pc a (A.U.calling g mk a) := hblind _ _ _ _ hp.2.2
  obtain ⟨U, Ls, c0, s0⟩ := A
  dsimp only [Pt.U, Pt.locs, Pt.cells, Pt.slots] at h1 h2 h3 h4 h5 X hn hPc ⊢
  obtain ⟨m9, methY, cY, hn9, hmY, hcY, -, hlY, -⟩ := Cond.codeWith_spec h2
  cases Option.some.inj (hn9.symm.trans hn)
  obtain ⟨kY, hkY, -⟩ := className_of_methodNamed hn
  have hinitY : kY.init = .initialized := Cond.initialized_spec (findClass_of_methodNamed hn) hkY h3
  have h : At U g.method c below := by rw [hg]; exact X.here
  have hlocals9 : W9 + (maxL + 11) + (headSpec ws rm).room.locals ≤ R.locals := hlocals
  have happ : (headSpec ws rm).appliesLoose y e.platform (U.calling g mk a) = true :=
    Spec.appliesLoose_calling (g := g) h hdg hn hkY hinitY
      (X.room_calling (g := g) (R' := (headSpec ws rm).room) hsize hmY hcY hframes (by rw [hlY]; omega) h4 h5) h1
  obtain ⟨mid, hmid⟩ := h.above
  have hfr : (U.setTop g).frames = (.java g :: mid) ++ below := by rw [State.frames_setTop' g h.top, hmid]; rfl
  obtain ⟨o, s₂, hsteps, -, hend, hq⟩ := Steps.callFree hM p X.admits X.cas X.clock (acts := []) hfr happ hPc trivial
  have hq' : vx_Q Qc XC mc ms free a (U.calling g mk a) o s₂ := hq
  rw [State.frames_setTop' g h.top] at hend
  obtain ⟨g₀, hg0⟩ := Option.isSome_iff_exists.mp h.top
  obtain ⟨r, hr⟩ := State.topJava?_eq_some.mp hg0
  have hr' : (({ U with heap := s₂.heap, slotsUsed := s₂.slotsUsed } : State).setVm s₂.vm).frames = .java g₀ :: r := hr
  rcases hq' with ⟨hqc, L, hfe, hL⟩ | ⟨q, rfl, E, ce, L, hx, hce, hcv, hcl, hW₂, hsm, hL⟩
  · obtain ⟨⟨v, rfl⟩, hW₂, e2, q2, q3, q4, q5, q6⟩ := id hfe
    have e3 : s₂ = ({ (U.calling g mk a).setFrames s₂.frames with heap := s₂.heap, slotsUsed := s₂.slotsUsed } : State).setVm s₂.vm := by
      have : s₂ = ({ s₂ with vm := (U.calling g mk a).vm } : State).setVm s₂.vm := rfl
      rw [e2] at this
      exact this
    obtain ⟨c₂, i₂, len₂, hc₂, hd₂, hf₂⟩ := hend
    have hW' : U.WarmedH s₂.vm := hW₂
    have hcc : c₂ = c := by
      have h1 : s₂.code? g.method = U.code? g.method := by
        rw [State.code?_eq, State.code?_eq, hW'.alike.method?]
      exact Option.some.inj (hc₂.symm.trans (h1.trans h.code))
    subst hcc
    have hlen : len₂ = len := by rw [hdg] at hd₂; cases hd₂; rfl
    subst hlen
    have hs₂ : s₂ = (({ U with heap := s₂.heap, slotsUsed := s₂.slotsUsed } : State).setVm s₂.vm).setTop { g with pc := g.pc + len₂, stack := v.toList ++ g.stack } := by
      refine e3.trans ?_
      rw [hf₂, State.calling_eq h.top, State.setFrames_setFrames, State.setTop_of_frames _ hr', hr]
      rfl
    have hsame : U.sameButNew ({ U with heap := s₂.heap, slotsUsed := s₂.slotsUsed } : State) L mc ms := by
      refine ⟨?_, q2, q3, q4, q5, q6⟩
      obtain ⟨t, ht, -⟩ := State.frames_cons hr
      show ({ U with heap := s₂.heap, slotsUsed := s₂.slotsUsed } : State) = { U.setFrames U.frames with heap := s₂.heap, slotsUsed := s₂.slotsUsed }
      rw [State.setFrames_self ht]
    subst hg
    refine Or.inl ⟨v, ⟨(({ U with heap := s₂.heap, slotsUsed := s₂.slotsUsed } : State).setVm s₂.vm), Ls ++ L, c0 + mc, s0 + ms⟩,
      ⟨X.admits, X.cas, X.clock, X.frames, X.room, X.hears, X.method, X.code, (X.here.setHeapUsed s₂.heap s₂.slotsUsed).setVm hW'.alike, X.tail, State.WarmedH.trans X.warmed hW', X.limits, X.bytes, X.same.trans (hsame.setVm s.vm)⟩,
      ⟨g, mk, s₂, L, rfl, rfl, hqc, rfl, hL, rfl, rfl⟩, ?_⟩
    show Steps p.tables e below _ ((({ U with heap := s₂.heap, slotsUsed := s₂.slotsUsed } : State).setVm s₂.vm).setTop { g with pc := g.pc + len₂, stack := v.toList ++ g.stack })
    rw [← hs₂]
    exact hsteps
  · obtain ⟨e2, q2, q3, q4, q5, q6⟩ := id hsm
    have e3 : s₂ = ({ (U.calling g mk a).setFrames s₂.frames with heap := s₂.heap, slotsUsed := s₂.slotsUsed } : State).setVm s₂.vm := by
      have : s₂ = ({ s₂ with vm := (U.calling g mk a).vm } : State).setVm s₂.vm := rfl
      rw [e2] at this
      exact this
    have hf₂ : s₂.frames = .throwing q :: .java g :: U.frames.tail := hend
    have hW' : U.WarmedH s₂.vm := hW₂
    have hs₂ : s₂ = ((({ U with heap := s₂.heap, slotsUsed := s₂.slotsUsed } : State).setVm s₂.vm).setTop g).pushFrame (.throwing q) := by
      refine e3.trans ?_
      rw [hf₂, State.calling_eq h.top, State.setFrames_setFrames, State.pushFrame, State.frames_setTop _ hr', State.setTop_of_frames _ hr', State.setFrames_setFrames, hr]
      rfl
    have hsame : U.sameButNew ({ U with heap := s₂.heap, slotsUsed := s₂.slotsUsed } : State) L mc ms := by
      refine ⟨?_, q2, q3, q4, q5, q6⟩
      obtain ⟨t, ht, -⟩ := State.frames_cons hr
      show ({ U with heap := s₂.heap, slotsUsed := s₂.slotsUsed } : State) = { U.setFrames U.frames with heap := s₂.heap, slotsUsed := s₂.slotsUsed }
      rw [State.setFrames_self ht]
    subst hg
    refine Or.inr ⟨q, ⟨(({ U with heap := s₂.heap, slotsUsed := s₂.slotsUsed } : State).setVm s₂.vm), Ls ++ L, c0 + mc, s0 + ms⟩,
      ⟨X.admits, X.cas, X.clock, X.frames, X.room, X.hears, X.method, X.code, (X.here.setHeapUsed s₂.heap s₂.slotsUsed).setVm hW'.alike, X.tail, State.WarmedH.trans X.warmed hW', X.limits, X.bytes, X.same.trans (hsame.setVm s.vm)⟩,
      ⟨g, mk, s₂, L, E, ce, rfl, rfl, hx, hce, hcv, hcl, rfl, hL, rfl, rfl⟩, ?_⟩
    show Steps p.tables e below _ (((({ U with heap := s₂.heap, slotsUsed := s₂.slotsUsed } : State).setVm s₂.vm).setTop g).pushFrame (.throwing q))
    rw [← hs₂]
    exact hsteps
end
variable {p : Program} {l : Launch} {e : Env} {R : Room} {s : State} {m : MethodId} {args : Array Value} {below : List Frame} {meth : Method} {c : Code} {T : State} {H : Heap} {locs : List Loc} {cells slots : Nat}
theorem vx_callVX (X : Stand p l e R s m args below meth c T locs cells slots) (hexec : p.tables.exec = Jvm.exec) {own C : String} {index : Nat} {y : MethodName} {bytes : ByteArray} {maxL : Nat} {ret : Option FieldType} {hh : List (Nat × Nat × Nat × Nat)}
    (hown : s.vm.findClass own = some m.cls) (hlink : (Cond.methodLink own index y).before args s = true) (hinst : (Cond.instanceMethod y).before args s = true) (hsel : (Cond.selects C y y).before args s = true)
    (hcode : (Cond.codeWith y bytes maxL ret hh).before args s = true) (hy : y.cls ≠ "java/lang/invoke/MethodHandle" ∧ y.cls ≠ "java/lang/invoke/VarHandle")
    {W9 : Nat} {Pre : Pt → Array Value → Prop} {Post : Pt → Array Value → Option Value → Pt → Prop} {PostX : Pt → Array Value → Addr → Pt → Prop} (hK : vx_Back l R p e below s args y 3 W9 Pre Post PostX)
    {b : Addr} {cellB : Cell} (hcell : T.heap[b]? = some cellB) (hobj : cellB.vm.isStatics = false) (hcls : s.vm.findClass C = some cellB.cls)
    {g : JFrame} (hg : g.method = m) (hsize : g.locals.size = c.maxLocals) {argsL rest : List Value} (hlen : ∀ sig, parseMethodDescriptor y.desc = some sig → argsL.length = sig.parameters.length)
    (hstack : g.stack = argsL.reverse ++ .ref b :: rest) (hW : 2 * g.monitorRoom + (rest.map fun v => v.category).sum ≤ W9) (hdg : decode c.code g.pc = .ok (.invokevirtual index, 3))
    (hpre : ∀ vm₁, s.WarmedH vm₁ → Pre ⟨T.setVm vm₁, locs, cells, slots⟩ (Value.ref b :: argsL).toArray) :
    (∃ (v : Option Value) (vm₁ : Vm) (B : Pt), s.WarmedH vm₁ ∧ Stand p l e R s m args below meth c B.U B.locs B.cells B.slots ∧ Post ⟨T.setVm vm₁, locs, cells, slots⟩ (Value.ref b :: argsL).toArray v B ∧
      ∀ target, Steps p.tables e below (B.U.setTop { g with pc := g.pc + 3, stack := v.toList ++ rest }) target → Steps p.tables e below (T.setTop g) target) ∨
    (∃ (q : Addr) (vm₁ : Vm) (B : Pt), s.WarmedH vm₁ ∧ Stand p l e R s m args below meth c B.U B.locs B.cells B.slots ∧ PostX ⟨T.setVm vm₁, locs, cells, slots⟩ (Value.ref b :: argsL).toArray q B ∧
      Steps p.tables e below (T.setTop g) ((B.U.setTop { g with stack := rest }).pushFrame (.throwing q))) := by
  obtain ⟨mk, methM, hnamed, hmethM, hstM, habM⟩ := Cond.instanceMethod_spec hinst
  obtain ⟨m8, methM', cM, hn8, hmethM', -, -, -, -, -, -, hsigM⟩ := Cond.codeWith_spec hcode
  cases Option.some.inj (hn8.symm.trans hnamed)
  cases hmethM.symm.trans hmethM'
  obtain ⟨c2, r2, m2, q1, q2, q3, q4, kP, hkP, hkPi⟩ := Cond.selects_spec hsel
  cases hcls.symm.trans q1
  cases (State.methodFound?_of_named hnamed hy).symm.trans q2
  cases hnamed.symm.trans q3
  have hselP : selectMethod e.platform s.vm cellB.cls mk = .method mk := by rw [Launch.admits_selectMethod X.admits]; exact q4
  obtain ⟨vm₁, X₁, hstep₁⟩ := X.invokevirtual hexec hown hlink hnamed hmethM hstM hkP hkPi hy (a := b) (cell := cellB) hcell
    (fun z h => by rw [h] at hobj; cases hobj) hselP hmethM habM hkP hkPi (g := g) hg (argsL := argsL) (rest := rest) (hlen _ hsigM) hstack hdg
  rcases hK m meth c ⟨T.setVm vm₁, locs, cells, slots⟩ { g with stack := rest } (.invokevirtual index) mk (Value.ref b :: argsL).toArray X₁ hg hsize hdg hW (X₁.named hnamed) (hpre vm₁ X₁.warmed) with ⟨v, B, X', hpost, hsteps⟩ | ⟨q, B, X', hpost, hsteps⟩
  · exact Or.inl ⟨v, vm₁, B, X₁.warmed, X', hpost, fun target h => hstep₁ _ fun acts => by rw [doInvoke_state]; exact hsteps.trans h⟩
  · exact Or.inr ⟨q, vm₁, B, X₁.warmed, X', hpost, hstep₁ _ fun acts => by rw [doInvoke_state]; exact hsteps⟩
theorem vx_callSX (X : Stand p l e R s m args below meth c T locs cells slots) (hexec : p.tables.exec = Jvm.exec) {own : String} {index : Nat} {y : MethodName} {bytes : ByteArray} {maxL : Nat} {ret : Option FieldType} {hh : List (Nat × Nat × Nat × Nat)}
    (hown : s.vm.findClass own = some m.cls) (hlink : (Cond.methodLink own index y).before args s = true) (hstat : (Cond.static y).before args s = true) (hinit : (Cond.initialized y.cls).before args s = true)
    (hcode : (Cond.codeWith y bytes maxL ret hh).before args s = true) (hy : y.cls ≠ "java/lang/invoke/MethodHandle" ∧ y.cls ≠ "java/lang/invoke/VarHandle")
    {W9 : Nat} {Pre : Pt → Array Value → Prop} {Post : Pt → Array Value → Option Value → Pt → Prop} {PostX : Pt → Array Value → Addr → Pt → Prop} (hK : vx_Back l R p e below s args y 3 W9 Pre Post PostX)
    {g : JFrame} (hg : g.method = m) (hsize : g.locals.size = c.maxLocals) {argsL rest : List Value} (hlen : ∀ sig, parseMethodDescriptor y.desc = some sig → argsL.length = sig.parameters.length)
    (hstack : g.stack = argsL.reverse ++ rest) (hW : 2 * g.monitorRoom + (rest.map fun v => v.category).sum ≤ W9) (hdg : decode c.code g.pc = .ok (.invokestatic index, 3))
    (hpre : ∀ vm₁, s.WarmedH vm₁ → Pre ⟨T.setVm vm₁, locs, cells, slots⟩ argsL.toArray) :
    (∃ (v : Option Value) (vm₁ : Vm) (B : Pt), s.WarmedH vm₁ ∧ Stand p l e R s m args below meth c B.U B.locs B.cells B.slots ∧ Post ⟨T.setVm vm₁, locs, cells, slots⟩ argsL.toArray v B ∧
      ∀ target, Steps p.tables e below (B.U.setTop { g with pc := g.pc + 3, stack := v.toList ++ rest }) target → Steps p.tables e below (T.setTop g) target) ∨
    (∃ (q : Addr) (vm₁ : Vm) (B : Pt), s.WarmedH vm₁ ∧ Stand p l e R s m args below meth c B.U B.locs B.cells B.slots ∧ PostX ⟨T.setVm vm₁, locs, cells, slots⟩ argsL.toArray q B ∧
      Steps p.tables e below (T.setTop g) ((B.U.setTop { g with stack := rest }).pushFrame (.throwing q))) := by
  obtain ⟨mk, methM, cM, hnamed, hmethM, -, -, -, -, -, -, hsigM⟩ := Cond.codeWith_spec hcode
  have hstatic : methM.isStatic = true := Cond.static_spec hnamed hmethM hstat
  obtain ⟨kP, hkP, -⟩ := className_of_methodNamed hnamed
  have hinitP : kP.init = .initialized := Cond.initialized_spec (findClass_of_methodNamed hnamed) hkP hinit
  obtain ⟨vm₁, X₁, hstep₁⟩ := X.invokestatic hexec hown hlink hnamed hmethM hstatic hkP hinitP hy (g := g) hg (argsL := argsL) (rest := rest) (hlen _ hsigM) hstack hdg
  rcases hK m meth c ⟨T.setVm vm₁, locs, cells, slots⟩ { g with stack := rest } (.invokestatic index) mk argsL.toArray X₁ hg hsize hdg hW (X₁.named hnamed) (hpre vm₁ X₁.warmed) with ⟨v, B, X', hpost, hsteps⟩ | ⟨q, B, X', hpost, hsteps⟩
  · exact Or.inl ⟨v, vm₁, B, X₁.warmed, X', hpost, fun target h => hstep₁ _ fun acts => by rw [doInvoke_state]; exact hsteps.trans h⟩
  · exact Or.inr ⟨q, vm₁, B, X₁.warmed, X', hpost, hstep₁ _ fun acts => by rw [doInvoke_state]; exact hsteps⟩
theorem vx_callVW (X : Stand p l e R s m args below meth c T locs cells slots) (hexec : p.tables.exec = Jvm.exec) {own C : String} {index : Nat} {y : MethodName} {bytes : ByteArray} {maxL : Nat} {ret : Option FieldType} {hh : List (Nat × Nat × Nat × Nat)}
    (hown : s.vm.findClass own = some m.cls) (hlink : (Cond.methodLink own index y).before args s = true) (hinst : (Cond.instanceMethod y).before args s = true) (hsel : (Cond.selects C y y).before args s = true)
    (hcode : (Cond.codeWith y bytes maxL ret hh).before args s = true) (hy : y.cls ≠ "java/lang/invoke/MethodHandle" ∧ y.cls ≠ "java/lang/invoke/VarHandle")
    {W9 : Nat} {Pre : Pt → Array Value → Prop} {Post : Pt → Array Value → Option Value → Pt → Prop} (hK : Back l R p e below s args y 3 W9 Pre Post)
    {b : Addr} {cellB : Cell} (hcell : T.heap[b]? = some cellB) (hobj : cellB.vm.isStatics = false) (hcls : s.vm.findClass C = some cellB.cls)
    {g : JFrame} (hg : g.method = m) (hsize : g.locals.size = c.maxLocals) {argsL rest : List Value} (hlen : ∀ sig, parseMethodDescriptor y.desc = some sig → argsL.length = sig.parameters.length)
    (hstack : g.stack = argsL.reverse ++ .ref b :: rest) (hW : 2 * g.monitorRoom + (rest.map fun v => v.category).sum ≤ W9) (hdg : decode c.code g.pc = .ok (.invokevirtual index, 3))
    (hpre : ∀ vm₁, s.WarmedH vm₁ → Pre ⟨T.setVm vm₁, locs, cells, slots⟩ (Value.ref b :: argsL).toArray) :
    ∃ (v : Option Value) (vm₁ : Vm) (B : Pt), s.WarmedH vm₁ ∧ Stand p l e R s m args below meth c B.U B.locs B.cells B.slots ∧ Post ⟨T.setVm vm₁, locs, cells, slots⟩ (Value.ref b :: argsL).toArray v B ∧
      ∀ target, Steps p.tables e below (B.U.setTop { g with pc := g.pc + 3, stack := v.toList ++ rest }) target → Steps p.tables e below (T.setTop g) target := by
  obtain ⟨mk, methM, hnamed, hmethM, hstM, habM⟩ := Cond.instanceMethod_spec hinst
  obtain ⟨m8, methM', cM, hn8, hmethM', -, -, -, -, -, -, hsigM⟩ := Cond.codeWith_spec hcode
  cases Option.some.inj (hn8.symm.trans hnamed)
  cases hmethM.symm.trans hmethM'
  obtain ⟨c2, r2, m2, q1, q2, q3, q4, kP, hkP, hkPi⟩ := Cond.selects_spec hsel
  cases hcls.symm.trans q1
  cases (State.methodFound?_of_named hnamed hy).symm.trans q2
  cases hnamed.symm.trans q3
  have hselP : selectMethod e.platform s.vm cellB.cls mk = .method mk := by rw [Launch.admits_selectMethod X.admits]; exact q4
  obtain ⟨vm₁, X₁, hstep₁⟩ := X.invokevirtual hexec hown hlink hnamed hmethM hstM hkP hkPi hy (a := b) (cell := cellB) hcell
    (fun z h => by rw [h] at hobj; cases hobj) hselP hmethM habM hkP hkPi (g := g) hg (argsL := argsL) (rest := rest) (hlen _ hsigM) hstack hdg
  obtain ⟨v, B, X', hpost, hsteps⟩ := hK m meth c ⟨T.setVm vm₁, locs, cells, slots⟩ { g with stack := rest } (.invokevirtual index) mk (Value.ref b :: argsL).toArray X₁ hg hsize hdg hW (X₁.named hnamed) (hpre vm₁ X₁.warmed)
  exact ⟨v, vm₁, B, X₁.warmed, X', hpost, fun target h => hstep₁ _ fun acts => by rw [doInvoke_state]; exact hsteps.trans h⟩
abbrev vx_CVW (R : Room) (s : State) (args : Array Value) (own C : String) (index : Nat) (y : MethodName) (bytes : ByteArray) (maxL : Nat) (ret : Option FieldType) (hh : List (Nat × Nat × Nat × Nat)) (ws : List Cond) (rm : Room) (mc ms n : Nat) : Prop :=
  (rm.cells = mc ∧ rm.slots = ms ∧ rm.frames + 1 ≤ R.frames ∧ 8 + (maxL + 11) + rm.locals ≤ R.locals ∧ (∀ w ∈ ws, ∀ (a' : Array Value) (U : State), s.WarmedH U.vm → w.before a' U = true) ∧ Cond.codeWith y bytes maxL ret hh ∈ ws) ∧
  (Cond.codeWith y bytes maxL ret hh).before args s = true ∧ (Cond.initialized y.cls).before args s = true ∧ (y.cls ≠ "java/lang/invoke/MethodHandle" ∧ y.cls ≠ "java/lang/invoke/VarHandle") ∧
  (∀ sig, parseMethodDescriptor y.desc = some sig → n = sig.parameters.length) ∧ (Cond.methodLink own index y).before args s = true ∧ (Cond.instanceMethod y).before args s = true ∧ (Cond.selects C y y).before args s = true
theorem vx_cwVW {own C : String} {index maxL mc ms : Nat} {y : MethodName} {bytes : ByteArray} {ret : Option FieldType} {hh : List (Nat × Nat × Nat × Nat)} {Ts ws ws' : List Cond} {rm : Room} (n : Nat) (ht : ∀ w ∈ Ts, w.before args s = true) (hT : GoodIn Ts (wsV own index C y ws)) (hw : ws = Cond.codeWith y bytes maxL ret hh :: ws') (hrc : rm.cells = mc) (hrs : rm.slots = ms)
    (hd : y.cls = C ∧ y.cls ≠ "java/lang/invoke/MethodHandle" ∧ y.cls ≠ "java/lang/invoke/VarHandle" ∧ (parseMethodDescriptor y.desc).map (fun d => d.parameters.length) = some n) (hR : rm.frames + 1 ≤ R.frames ∧ 8 + (maxL + 11) + rm.locals ≤ R.locals) :
    vx_CVW R s args own C index y bytes maxL ret hh ws rm mc ms n := by
  obtain ⟨hC, hd⟩ := hd
  subst hC
  have ok : ∀ w ∈ wsV own index y.cls y ws, w.before args s = true := fun w h => ht w (hT w h).1
  have hG : GoodIn Ts ws := fun w h => hT w (by unfold wsV; exact List.mem_append_right _ h)
  have hc : Cond.codeWith y bytes maxL ret hh ∈ ws := by rw [hw]; exact List.mem_cons_self
  refine ⟨⟨hrc, hrs, hR.1, hR.2, pay_in ht hG, hc⟩, ht _ (hG _ hc).1, ok _ (by simp [wsV]), ⟨hd.1, hd.2.1⟩, fun sig h => ?_, ok _ (by simp [wsV]), ok _ (by simp [wsV]), ok _ (by simp [wsV])⟩
  have h2 := hd.2.2
  rw [h] at h2
  exact (Option.some.inj h2).symm
theorem vx_runVW {y : MethodName} {bytes cc : ByteArray} {maxL nL mc ms n index : Nat} {ret : Option FieldType} {hh : List (Nat × Nat × Nat × Nat)} {ws : List Cond} {rm : Room} {Pc : Array Value → State → Prop} {Qc : Array Value → State → Outcome → State → Prop} {free : Addr → Prop} {Ts : List Cond} {own C : String} {b : Addr} {As rest : List Value} {g : JFrame}
    (S : CallFix p m c cc nL s args Ts own) (hM : Met l y ws rm Pc Qc mc ms free) (cw : vx_CVW R s args own C index y bytes maxL ret hh ws rm mc ms n) (hp : PreV s H C b Pc As)
    (hg : g.method = m) (hn : As.length = n) (hsize : g.locals.size = nL) (hstack : g.stack = As.reverse ++ .ref b :: rest) (hW : 2 * g.monitorRoom + (rest.map fun v => v.category).sum ≤ 8) (hdg : decode cc g.pc = .ok (.invokevirtual index, 3)) (hf : cells + mc ≤ R.cells ∧ slots + ms ≤ R.slots) :
    va_Run p l e R s m args below meth c H locs cells slots mc ms g rest (Qc (Value.ref b :: As).toArray) free := by
  obtain ⟨⟨hrc, hrs, hfr, hlo, hws, hcw⟩, hcode, hini, hy, hlen, hl, hin, hse⟩ := cw
  have hK : Back l R p e below s args y 3 8 (PreOf R mc ms Pc) (PostOf Qc mc ms free) := va_backW (hh := hh) (bytes := bytes) (maxL := maxL) (ret := ret) hM hp.1 hrc hrs hfr hlo hws hcw (fun a' U hW => word_at hW (Or.inl (by first | rfl | simp [Cond.onTables, Cond.keeps, Cond.steady])) hini)
  obtain ⟨hx, hb, hml, ho, -⟩ := S
  obtain ⟨-, ⟨cellB, hcB, hoB, hclB⟩, hPc⟩ := hp
  intro T hT X
  obtain ⟨v, vm₁, ⟨U', l2, c2, s2⟩, hW₁, X', ⟨g', mk, t, L, e1, e2, hq, h1, hL, h2, h3⟩, st⟩ := vx_callVW X hx (C := C) (hh := hh) (bytes := bytes) (maxL := maxL) (ret := ret) ho hl hin hse hcode hy hK (by rw [hT]; exact hcB) hoB hclB hg (hsize.trans hml.symm) (argsL := As) (rest := rest) (fun sig h => hn.trans (hlen sig h)) hstack hW (by rw [hb]; exact hdg)
    (fun vm₁ hW₁ => ⟨hf.1, hf.2, hPc (T.setVm vm₁) hT hW₁⟩)
  dsimp only [Pt.U, Pt.locs, Pt.cells, Pt.slots] at X' e1 e2 h1 h2 h3 st
  subst h1; subst h2; subst h3
  exact ⟨v, (T.setVm vm₁).calling g' mk (Value.ref b :: As).toArray, t, U', L, hT, X', hL, e1, e2, hq, st⟩
section
variable {y : MethodName} {bytes cc : ByteArray} {maxL nL mc ms n index : Nat} {ret : Option FieldType} {ws : List Cond} {rm : Room} {Pc : Array Value → State → Prop} {Qc : Array Value → State → Outcome → State → Prop} {XC : String → State → State → Prop} {free : Addr → Prop} {Ts : List Cond} {own C : String} {b : Addr} {As rest : List Value} {g : JFrame}
theorem vx_runVX {hh : List (Nat × Nat × Nat × Nat)} (S : CallFix p m c cc nL s args Ts own) (hM : vx_Met l y ws rm Pc Qc XC mc ms free) (cw : vx_CVW R s args own C index y bytes maxL ret hh ws rm mc ms n) (hp : PreV s H C b Pc As)
    (hg : g.method = m) (hn : As.length = n) (hsize : g.locals.size = nL) (hstack : g.stack = As.reverse ++ .ref b :: rest) (hW : 2 * g.monitorRoom + (rest.map fun v => v.category).sum ≤ 8) (hdg : decode cc g.pc = .ok (.invokevirtual index, 3)) (hf : cells + mc ≤ R.cells ∧ slots + ms ≤ R.slots) :
    vx_Run p l e R s m args below meth c H locs cells slots mc ms g rest (Qc (Value.ref b :: As).toArray) XC free := by
  obtain ⟨⟨hrc, hrs, hfr, hlo, hws, hcw⟩, hcode, hini, hy, hlen, hl, hin, hse⟩ := cw
  have hK : vx_Back l R p e below s args y 3 8 (PreOf R mc ms Pc) (PostOf Qc mc ms free) (vx_Post XC mc ms free) := vx_backW (hh := hh) (bytes := bytes) (maxL := maxL) (ret := ret) hM hp.1 hrc hrs hfr hlo hws hcw (fun a' U hW => word_at hW (Or.inl (by first | rfl | simp [Cond.onTables, Cond.keeps, Cond.steady])) hini)
  obtain ⟨hx, hb, hml, ho, -⟩ := S
  obtain ⟨-, ⟨cellB, hcB, hoB, hclB⟩, hPc⟩ := hp
  intro T hT X
  rcases vx_callVX X hx (C := C) (hh := hh) (bytes := bytes) (maxL := maxL) (ret := ret) ho hl hin hse hcode hy hK (by rw [hT]; exact hcB) hoB hclB hg (hsize.trans hml.symm) (argsL := As) (rest := rest) (fun sig h => hn.trans (hlen sig h)) hstack hW (by rw [hb]; exact hdg)
    (fun vm₁ hW₁ => ⟨hf.1, hf.2, hPc (T.setVm vm₁) hT hW₁⟩) with ⟨v, vm₁, ⟨U', l2, c2, s2⟩, hW₁, X', ⟨g', mk, t, L, e1, e2, hq, h1, hL, h2, h3⟩, st⟩ | ⟨q, vm₁, ⟨U', l2, c2, s2⟩, hW₁, X', ⟨g', mk, t, L, E, ce, e1, e2, hq, hce, hcv, hcl, h1, hL, h2, h3⟩, st⟩
  · dsimp only [Pt.U, Pt.locs, Pt.cells, Pt.slots] at X' e1 e2 h1 h2 h3 st
    subst h1; subst h2; subst h3
    exact Or.inl ⟨v, (T.setVm vm₁).calling g' mk (Value.ref b :: As).toArray, t, U', L, hT, X', hL, e1, e2, hq, st⟩
  · dsimp only [Pt.U, Pt.locs, Pt.cells, Pt.slots] at X' e1 e2 h1 h2 h3 st hcl
    subst h1; subst h2; subst h3
    exact Or.inr ⟨q, (T.setVm vm₁).calling g' mk (Value.ref b :: As).toArray, t, U', L, E, ce, hT, X', hL, e1, e2, hq, hce, hcv, vx_cls hW₁ hcl, st⟩
theorem vx_runSX {hh : List (Nat × Nat × Nat × Nat)} (S : CallFix p m c cc nL s args Ts own) (hM : vx_Met l y ws rm Pc Qc XC mc ms free) (cw : vx_CSW R s args own index y bytes maxL ret hh ws rm mc ms n) (hp : PreS s H Pc As)
    (hg : g.method = m) (hn : As.length = n) (hsize : g.locals.size = nL) (hstack : g.stack = As.reverse ++ rest) (hW : 2 * g.monitorRoom + (rest.map fun v => v.category).sum ≤ 8) (hdg : decode cc g.pc = .ok (.invokestatic index, 3)) (hf : cells + mc ≤ R.cells ∧ slots + ms ≤ R.slots) :
    vx_Run p l e R s m args below meth c H locs cells slots mc ms g rest (Qc As.toArray) XC free := by
  obtain ⟨⟨hrc, hrs, hfr, hlo, hws, hcw⟩, hcode, hini, hy, hlen, hl, hstt⟩ := cw
  have hK : vx_Back l R p e below s args y 3 8 (PreOf R mc ms Pc) (PostOf Qc mc ms free) (vx_Post XC mc ms free) := vx_backW (hh := hh) (bytes := bytes) (maxL := maxL) (ret := ret) hM hp.1 hrc hrs hfr hlo hws hcw (fun a' U hW => word_at hW (Or.inl (by first | rfl | simp [Cond.onTables, Cond.keeps, Cond.steady])) hini)
  obtain ⟨hx, hb, hml, ho, -⟩ := S
  intro T hT X
  rcases vx_callSX X hx (hh := hh) (bytes := bytes) (maxL := maxL) (ret := ret) ho hl hstt hini hcode hy hK hg (hsize.trans hml.symm) (argsL := As) (rest := rest) (fun sig h => hn.trans (hlen sig h)) hstack hW (by rw [hb]; exact hdg)
    (fun vm₁ hW₁ => ⟨hf.1, hf.2, hp.2 (T.setVm vm₁) hT hW₁⟩) with ⟨v, vm₁, ⟨U', l2, c2, s2⟩, hW₁, X', ⟨g', mk, t, L, e1, e2, hq, h1, hL, h2, h3⟩, st⟩ | ⟨q, vm₁, ⟨U', l2, c2, s2⟩, hW₁, X', ⟨g', mk, t, L, E, ce, e1, e2, hq, hce, hcv, hcl, h1, hL, h2, h3⟩, st⟩
  · dsimp only [Pt.U, Pt.locs, Pt.cells, Pt.slots] at X' e1 e2 h1 h2 h3 st
    subst h1; subst h2; subst h3
    exact Or.inl ⟨v, (T.setVm vm₁).calling g' mk As.toArray, t, U', L, hT, X', hL, e1, e2, hq, st⟩
  · dsimp only [Pt.U, Pt.locs, Pt.cells, Pt.slots] at X' e1 e2 h1 h2 h3 st hcl
    subst h1; subst h2; subst h3
    exact Or.inr ⟨q, (T.setVm vm₁).calling g' mk As.toArray, t, U', L, E, ce, hT, X', hL, e1, e2, hq, hce, hcv, vx_cls hW₁ hcl, st⟩
end
end VXH
theorem vx_ofWH {l : Launch} {y : MethodName} {ws ws' : List Cond} {rm : Room} {Pc : Array Value → State → Prop} {Qc : Array Value → State → Outcome → State → Prop} {XC : String → State → State → Prop} {mc ms : Nat} {free : Addr → Prop} {cc : ByteArray} {maxL : Nat} {ret : Option FieldType} {hh : List (Nat × Nat × Nat × Nat)}
    (hy : plainName y.cls = true) (hw : ws = Cond.codeWith y cc maxL ret hh :: ws')
    (body : ∀ p e s m args below meth c s₁, BodyLoose p l y (headSpec ws rm) cc maxL ret e s m args below meth c s₁ → c.maxLocals = maxL → Pc args s →
      W p l e (headSpec ws rm).room s m args below meth c s.heap [] 0 0 (vx_MQ below Qc XC args s mc ms free) (entryFrame m args maxL)) : vx_Met l y ws rm Pc Qc XC mc ms free := by
  refine MetFree.of_bodyS (code := cc) (maxLocals := maxL) (ret := ret) hy ?_ ?_
  · intro args s m h hn
    obtain ⟨m9, meth, c, hn9, h1, h2, h3, h4, -, h5, h6, -⟩ := Cond.codeWith_spec (atoms_spec (ws := ws) h _ (by rw [hw]; exact List.mem_cons_self))
    cases hn.symm.trans hn9
    exact ⟨meth, c, h1, h2, h3, h4, h5, h6⟩
  · intro p e s m args below meth c s₁ B hml hP _
    have hh0 : s₁.heap = s.heap := by rw [B.state]; rfl
    obtain ⟨t, a1, o, b1, b2, b3⟩ := body p e s m args below meth c s₁ B hml hP s₁ hh0 (Stand.of_body B)
    exact ⟨t, o, a1, b1, b2, b3⟩
/-! ===== END ===== -/
end
section
/-! ===== BEGIN printed: names, fields, word lists, decode rows ===== -/
def RX0 : String := "HoseTests$HoseText"
def TX0 : u_T := fun k => match k with
  | 0 => ("HoseTests$HoseText", "codes", "[I", true)
  | _ => ("HoseTests$HoseText", "size", "I", false)
def tyX0 : Nat → FieldType := fun k => match k with
  | 0 => .array .int
  | _ => .int
abbrev wsX00 : List Cond := u_ws RX0 TX0 2
theorem nmX0 : ∀ a, a < 2 → ∀ b, b < 2 → a ≠ b → (TX0 a).2.1 ≠ (TX0 b).2.1 := by decide +kernel
theorem tyX0_ok : ∀ k, k < 2 → parseFieldDescriptor (TX0 k).2.2.1 = some (tyX0 k) := by decide +kernel
abbrev cX0_init : ByteArray := prog_2_method_1_code
def yX0_init : MethodName := ⟨RX0, "<init>", "()V"⟩
def RX1 : String := "HoseTests$Kinds"
def TX1 : u_T := fun k => match k with
  | _ => ("", "", "", false)
def tyX1 : Nat → FieldType := fun k => match k with
  | _ => .int
abbrev wsX10 : List Cond := u_ws RX1 TX1 0
theorem nmX1 : ∀ a, a < 0 → ∀ b, b < 0 → a ≠ b → (TX1 a).2.1 ≠ (TX1 b).2.1 := by decide +kernel
theorem tyX1_ok : ∀ k, k < 0 → parseFieldDescriptor (TX1 k).2.2.1 = some (tyX1 k) := by decide +kernel
abbrev cX1_strengthOf : ByteArray := prog_3_method_2_code
def yX1_strengthOf : MethodName := ⟨RX1, "strengthOf", "(III)I"⟩
abbrev cX1_lifeOf : ByteArray := prog_3_method_3_code
def yX1_lifeOf : MethodName := ⟨RX1, "lifeOf", "(I)I"⟩
abbrev cX1_daysInForce : ByteArray := prog_3_method_4_code
def yX1_daysInForce : MethodName := ⟨RX1, "daysInForce", "(I)I"⟩
abbrev cX1_costOf : ByteArray := prog_3_method_5_code
def yX1_costOf : MethodName := ⟨RX1, "costOf", "(II)I"⟩
def RX2 : String := "HoseTests$Line"
def TX2 : u_T := fun k => match k with
  | 0 => ("HoseTests$Line", "metres", "I", false)
  | 1 => ("HoseTests$Line", "adaptersUsed", "I", false)
  | 2 => ("HoseTests$Line", "mask", "I", false)
  | _ => ("HoseTests$Line", "lastCoupling", "I", false)
def tyX2 : Nat → FieldType := fun k => match k with
  | 0 => .int
  | 1 => .int
  | 2 => .int
  | _ => .int
abbrev wsX20 : List Cond := u_ws RX2 TX2 4
theorem nmX2 : ∀ a, a < 4 → ∀ b, b < 4 → a ≠ b → (TX2 a).2.1 ≠ (TX2 b).2.1 := by decide +kernel
theorem tyX2_ok : ∀ k, k < 4 → parseFieldDescriptor (TX2 k).2.2.1 = some (tyX2 k) := by decide +kernel
abbrev cX2_init : ByteArray := prog_4_method_1_code
def yX2_init : MethodName := ⟨RX2, "<init>", "()V"⟩
abbrev cX2_begin : ByteArray := prog_4_method_2_code
def yX2_begin : MethodName := ⟨RX2, "begin", "()V"⟩
abbrev cX2_join : ByteArray := prog_4_method_3_code
def yX2_join : MethodName := ⟨RX2, "join", "(IIII)V"⟩
def RX3 : String := "HoseTests$Station"
def TX3 : u_T := fun k => match k with
  | 0 => ("HoseTests$Station", "day", "I", false)
  | 1 => ("HoseTests$Station", "money", "I", false)
  | 2 => ("HoseTests$Station", "hoses", "I", false)
  | 3 => ("HoseTests$Station", "tests", "I", false)
  | 4 => ("HoseTests$Station", "bursts", "I", false)
  | 5 => ("HoseTests$Station", "paid", "I", false)
  | 6 => ("HoseTests$Station", "wanted", "[I", true)
  | 7 => ("HoseTests$Station", "settings", "[I", true)
  | 8 => ("HoseTests$Station", "kind", "[I", true)
  | 9 => ("HoseTests$Station", "length", "[I", true)
  | 10 => ("HoseTests$Station", "coupling", "[I", true)
  | 11 => ("HoseTests$Station", "made", "[I", true)
  | 12 => ("HoseTests$Station", "wear", "[I", true)
  | 13 => ("HoseTests$Station", "lastTestDay", "[I", true)
  | 14 => ("HoseTests$Station", "place", "[I", true)
  | 15 => ("HoseTests$Station", "backDay", "[I", true)
  | _ => ("HoseTests$Station", "line", "LHoseTests$Line;", true)
def tyX3 : Nat → FieldType := fun k => match k with
  | 0 => .int
  | 1 => .int
  | 2 => .int
  | 3 => .int
  | 4 => .int
  | 5 => .int
  | 6 => .array .int
  | 7 => .array .int
  | 8 => .array .int
  | 9 => .array .int
  | 10 => .array .int
  | 11 => .array .int
  | 12 => .array .int
  | 13 => .array .int
  | 14 => .array .int
  | 15 => .array .int
  | _ => .object "HoseTests$Line"
abbrev wsX30 : List Cond := u_ws RX3 TX3 17
theorem nmX3 : ∀ a, a < 17 → ∀ b, b < 17 → a ≠ b → (TX3 a).2.1 ≠ (TX3 b).2.1 := by decide +kernel
theorem tyX3_ok : ∀ k, k < 17 → parseFieldDescriptor (TX3 k).2.2.1 = some (tyX3 k) := by decide +kernel
abbrev cX3_init : ByteArray := prog_5_method_1_code
def yX3_init : MethodName := ⟨RX3, "<init>", "()V"⟩
abbrev cX3_copyFrom : ByteArray := prog_5_method_2_code
def yX3_copyFrom : MethodName := ⟨RX3, "copyFrom", "(LHoseTests$Station;)V"⟩
abbrev cX3_isGone : ByteArray := prog_5_method_3_code
def yX3_isGone : MethodName := ⟨RX3, "isGone", "(I)Z"⟩
abbrev cX3_isLent : ByteArray := prog_5_method_4_code
def yX3_isLent : MethodName := ⟨RX3, "isLent", "(I)Z"⟩
abbrev cX3_isOnTruck : ByteArray := prog_5_method_5_code
def yX3_isOnTruck : MethodName := ⟨RX3, "isOnTruck", "(I)Z"⟩
abbrev cX3_isReady : ByteArray := prog_5_method_6_code
def yX3_isReady : MethodName := ⟨RX3, "isReady", "(I)Z"⟩
abbrev cX3_reasonOf : ByteArray := prog_5_method_7_code
def yX3_reasonOf : MethodName := ⟨RX3, "reasonOf", "(I)I"⟩
abbrev cX3_strengthAt : ByteArray := prog_5_method_8_code
def yX3_strengthAt : MethodName := ⟨RX3, "strengthAt", "(II)I"⟩
abbrev cX3_priceOf : ByteArray := prog_5_method_9_code
def yX3_priceOf : MethodName := ⟨RX3, "priceOf", "(I)I"⟩
abbrev cX3_canBuy : ByteArray := prog_5_method_10_code
def yX3_canBuy : MethodName := ⟨RX3, "canBuy", "(II)Z"⟩
abbrev cX3_addHose : ByteArray := prog_5_method_11_code
def yX3_addHose : MethodName := ⟨RX3, "addHose", "(IIII)I"⟩
abbrev cX3_replaceHose : ByteArray := prog_5_method_12_code
def yX3_replaceHose : MethodName := ⟨RX3, "replaceHose", "(I)I"⟩
abbrev cX3_lendOut : ByteArray := prog_5_method_13_code
def yX3_lendOut : MethodName := ⟨RX3, "lendOut", "(II)I"⟩
abbrev cX3_stepsUpTo : ByteArray := prog_5_method_14_code
def yX3_stepsUpTo : MethodName := ⟨RX3, "stepsUpTo", "(I)I"⟩
abbrev cX3_stepsHeld : ByteArray := prog_5_method_15_code
def yX3_stepsHeld : MethodName := ⟨RX3, "stepsHeld", "(II)I"⟩
abbrev cX3_outcomeOf : ByteArray := prog_5_method_16_code
def yX3_outcomeOf : MethodName := ⟨RX3, "outcomeOf", "(II)I"⟩
abbrev cX3_runTest : ByteArray := prog_5_method_17_code
def yX3_runTest : MethodName := ⟨RX3, "runTest", "(II)I"⟩
abbrev cX3_greatestSafePressure : ByteArray := prog_5_method_18_code
def yX3_greatestSafePressure : MethodName := ⟨RX3, "greatestSafePressure", "(I)I"⟩
abbrev cX3_passDay : ByteArray := prog_5_method_19_code
def yX3_passDay : MethodName := ⟨RX3, "passDay", "()V"⟩
abbrev cX3_takeBackLent : ByteArray := prog_5_method_20_code
def yX3_takeBackLent : MethodName := ⟨RX3, "takeBackLent", "()V"⟩
abbrev cX3_wearOnTrucks : ByteArray := prog_5_method_21_code
def yX3_wearOnTrucks : MethodName := ⟨RX3, "wearOnTrucks", "()V"⟩
abbrev cX3_hosesAt : ByteArray := prog_5_method_22_code
def yX3_hosesAt : MethodName := ⟨RX3, "hosesAt", "(I)I"⟩
abbrev cX3_readyHosesAt : ByteArray := prog_5_method_23_code
def yX3_readyHosesAt : MethodName := ⟨RX3, "readyHosesAt", "(I)I"⟩
abbrev cX3_readyHoses : ByteArray := prog_5_method_24_code
def yX3_readyHoses : MethodName := ⟨RX3, "readyHoses", "()I"⟩
abbrev cX3_layLine : ByteArray := prog_5_method_25_code
def yX3_layLine : MethodName := ⟨RX3, "layLine", "(II)Z"⟩
abbrev cX3_wholeTrucks : ByteArray := prog_5_method_26_code
def yX3_wholeTrucks : MethodName := ⟨RX3, "wholeTrucks", "()I"⟩
abbrev cX3_cheapestHelp : ByteArray := prog_5_method_27_code
def yX3_cheapestHelp : MethodName := ⟨RX3, "cheapestHelp", "(I)I"⟩
abbrev cX3_daysToFirstLapse : ByteArray := prog_5_method_28_code
def yX3_daysToFirstLapse : MethodName := ⟨RX3, "daysToFirstLapse", "()I"⟩
def RX4 : String := "HoseTests"
def TX4 : u_T := fun k => match k with
  | 0 => ("HoseTests", "now", "LHoseTests$Station;", true)
  | 1 => ("HoseTests", "saved", "[LHoseTests$Station;", true)
  | 2 => ("HoseTests", "latestSaved", "I", false)
  | 3 => ("HoseTests", "savedStates", "I", false)
  | _ => ("HoseTests", "text", "LHoseTests$HoseText;", true)
def tyX4 : Nat → FieldType := fun k => match k with
  | 0 => .object "HoseTests$Station"
  | 1 => .array (.object "HoseTests$Station")
  | 2 => .int
  | 3 => .int
  | _ => .object "HoseTests$HoseText"
abbrev wsX40 : List Cond := u_ws RX4 TX4 5
theorem nmX4 : ∀ a, a < 5 → ∀ b, b < 5 → a ≠ b → (TX4 a).2.1 ≠ (TX4 b).2.1 := by decide +kernel
theorem tyX4_ok : ∀ k, k < 5 → parseFieldDescriptor (TX4 k).2.2.1 = some (tyX4 k) := by decide +kernel
abbrev cX4_init : ByteArray := prog_1_method_1_code
def yX4_init : MethodName := ⟨RX4, "<init>", "()V"⟩
abbrev cX4_buy : ByteArray := prog_1_method_2_code
def yX4_buy : MethodName := ⟨RX4, "buy", "(III)I"⟩
abbrev cX4_renew : ByteArray := prog_1_method_3_code
def yX4_renew : MethodName := ⟨RX4, "renew", "(I)I"⟩
abbrev cX4_put : ByteArray := prog_1_method_4_code
def yX4_put : MethodName := ⟨RX4, "put", "(II)I"⟩
abbrev cX4_lend : ByteArray := prog_1_method_5_code
def yX4_lend : MethodName := ⟨RX4, "lend", "(II)I"⟩
abbrev cX4_test : ByteArray := prog_1_method_6_code
def yX4_test : MethodName := ⟨RX4, "test", "(II)I"⟩
abbrev cX4_want : ByteArray := prog_1_method_7_code
def yX4_want : MethodName := ⟨RX4, "want", "(II)I"⟩
abbrev cX4_set : ByteArray := prog_1_method_8_code
def yX4_set : MethodName := ⟨RX4, "set", "(II)I"⟩
abbrev cX4_pass : ByteArray := prog_1_method_9_code
def yX4_pass : MethodName := ⟨RX4, "pass", "(I)I"⟩
abbrev cX4_undo : ByteArray := prog_1_method_14_code
def yX4_undo : MethodName := ⟨RX4, "undo", "()I"⟩
abbrev cX4_hose : ByteArray := prog_1_method_15_code
def yX4_hose : MethodName := ⟨RX4, "hose", "(II)I"⟩
abbrev cX4_truck : ByteArray := prog_1_method_16_code
def yX4_truck : MethodName := ⟨RX4, "truck", "(II)I"⟩
abbrev cX4_count : ByteArray := prog_1_method_17_code
def yX4_count : MethodName := ⟨RX4, "count", "(I)I"⟩
abbrev cX4_setting : ByteArray := prog_1_method_18_code
def yX4_setting : MethodName := ⟨RX4, "setting", "(I)I"⟩
abbrev cX4_ifTested : ByteArray := prog_1_method_19_code
def yX4_ifTested : MethodName := ⟨RX4, "ifTested", "(II)I"⟩
abbrev cX4_safe : ByteArray := prog_1_method_20_code
def yX4_safe : MethodName := ⟨RX4, "safe", "(I)I"⟩
abbrev cX4_nextLapse : ByteArray := prog_1_method_21_code
def yX4_nextLapse : MethodName := ⟨RX4, "nextLapse", "()I"⟩
abbrev cX4_helps : ByteArray := prog_1_method_22_code
def yX4_helps : MethodName := ⟨RX4, "helps", "(I)I"⟩
abbrev cX4_readyShare : ByteArray := prog_1_method_23_code
def yX4_readyShare : MethodName := ⟨RX4, "readyShare", "()D"⟩
abbrev cX4_isWithin : ByteArray := prog_1_method_25_code
def yX4_isWithin : MethodName := ⟨RX4, "isWithin", "(III)Z"⟩
abbrev cX4_requireHose : ByteArray := prog_1_method_26_code
def yX4_requireHose : MethodName := ⟨RX4, "requireHose", "(I)V"⟩
abbrev cX4_requireAtHand : ByteArray := prog_1_method_27_code
def yX4_requireAtHand : MethodName := ⟨RX4, "requireAtHand", "(I)V"⟩
abbrev cX4_requireTruck : ByteArray := prog_1_method_28_code
def yX4_requireTruck : MethodName := ⟨RX4, "requireTruck", "(I)V"⟩
abbrev cX4_requireSetting : ByteArray := prog_1_method_29_code
def yX4_requireSetting : MethodName := ⟨RX4, "requireSetting", "(I)V"⟩
abbrev cX4_requirePressure : ByteArray := prog_1_method_30_code
def yX4_requirePressure : MethodName := ⟨RX4, "requirePressure", "(I)V"⟩
abbrev cX4_leastOfSetting : ByteArray := prog_1_method_31_code
def yX4_leastOfSetting : MethodName := ⟨RX4, "leastOfSetting", "(I)I"⟩
abbrev cX4_greatestOfSetting : ByteArray := prog_1_method_32_code
def yX4_greatestOfSetting : MethodName := ⟨RX4, "greatestOfSetting", "(I)I"⟩
abbrev cX4_saveState : ByteArray := prog_1_method_33_code
def yX4_saveState : MethodName := ⟨RX4, "saveState", "()V"⟩
def RX5 : String := "HoseTestsModel"
def TX5 : u_T := fun k => match k with
  | _ => ("", "", "", false)
def tyX5 : Nat → FieldType := fun k => match k with
  | _ => .int
abbrev wsX50 : List Cond := u_ws RX5 TX5 0
theorem nmX5 : ∀ a, a < 0 → ∀ b, b < 0 → a ≠ b → (TX5 a).2.1 ≠ (TX5 b).2.1 := by decide +kernel
theorem tyX5_ok : ∀ k, k < 0 → parseFieldDescriptor (TX5 k).2.2.1 = some (tyX5 k) := by decide +kernel
def RJ9 : String := "java/lang/Math"
def TJ9 : u_T := fun k => match k with
  | _ => ("", "", "", false)
def tyJ9 : Nat → FieldType := fun k => match k with
  | _ => .int
abbrev wsJ90 : List Cond := u_ws RJ9 TJ9 0
theorem nmJ9 : ∀ a, a < 0 → ∀ b, b < 0 → a ≠ b → (TJ9 a).2.1 ≠ (TJ9 b).2.1 := by decide +kernel
theorem tyJ9_ok : ∀ k, k < 0 → parseFieldDescriptor (TJ9 k).2.2.1 = some (tyJ9 k) := by decide +kernel
abbrev cJ9_max_7cf53 : ByteArray := prog_12_method_65_code
def yJ9_max_7cf53 : MethodName := ⟨RJ9, "max", "(II)I"⟩
abbrev cJ9_min_7cf53 : ByteArray := prog_12_method_69_code
def yJ9_min_7cf53 : MethodName := ⟨RJ9, "min", "(II)I"⟩
def RJ0 : String := "java/lang/String"
def TJ0 : u_T := fun k => match k with
  | _ => ("", "", "", false)
def tyJ0 : Nat → FieldType := fun k => match k with
  | _ => .int
abbrev wsJ00 : List Cond := u_ws RJ0 TJ0 0
theorem nmJ0 : ∀ a, a < 0 → ∀ b, b < 0 → a ≠ b → (TJ0 a).2.1 ≠ (TJ0 b).2.1 := by decide +kernel
theorem tyJ0_ok : ∀ k, k < 0 → parseFieldDescriptor (TJ0 k).2.2.1 = some (tyJ0 k) := by decide +kernel
def RJ10 : String := "java/lang/System"
def TJ10 : u_T := fun k => match k with
  | _ => ("", "", "", false)
def tyJ10 : Nat → FieldType := fun k => match k with
  | _ => .int
abbrev wsJ100 : List Cond := u_ws RJ10 TJ10 0
theorem nmJ10 : ∀ a, a < 0 → ∀ b, b < 0 → a ≠ b → (TJ10 a).2.1 ≠ (TJ10 b).2.1 := by decide +kernel
theorem tyJ10_ok : ∀ k, k < 0 → parseFieldDescriptor (TJ10 k).2.2.1 = some (tyJ10 k) := by decide +kernel
def RL : String := "HoseTestsLaw"
abbrev cL_low : ByteArray := method_2_code
def yL_low : MethodName := ⟨RL, "low", "(II)I"⟩
abbrev cL_cell : ByteArray := method_3_code
def yL_cell : MethodName := ⟨RL, "cell", "([II)I"⟩
abbrev cL_buy : ByteArray := method_4_code
def yL_buy : MethodName := ⟨RL, "buy", "(LHoseTests;III)I"⟩
abbrev cL_renew : ByteArray := method_5_code
def yL_renew : MethodName := ⟨RL, "renew", "(LHoseTests;I)I"⟩
abbrev cL_put : ByteArray := method_6_code
def yL_put : MethodName := ⟨RL, "put", "(LHoseTests;II)I"⟩
abbrev cL_lend : ByteArray := method_7_code
def yL_lend : MethodName := ⟨RL, "lend", "(LHoseTests;II)I"⟩
abbrev cL_test : ByteArray := method_8_code
def yL_test : MethodName := ⟨RL, "test", "(LHoseTests;II)I"⟩
abbrev cL_undo : ByteArray := method_9_code
def yL_undo : MethodName := ⟨RL, "undo", "(LHoseTests;)I"⟩
abbrev cL_station : ByteArray := method_10_code
def yL_station : MethodName := ⟨RL, "station", "(LHoseTests;)Z"⟩
abbrev cL_act : ByteArray := method_11_code
def yL_act : MethodName := ⟨RL, "act", "(LHoseTests;[II)I"⟩
abbrev cL_law : ByteArray := code
def yL_law : MethodName := ⟨RL, "law", "([I)Z"⟩
def wsL_law0_r1 : List Cond := [Cond.classLink RL 10 RX4, Cond.instantiable RX4 5, Cond.initialized RX4, Cond.methodLink RL 97 yX4_init, Cond.instanceMethod yX4_init, Cond.code yX4_init cX4_init 2 none, Cond.methodLink RX4 1 objectInit, Cond.instanceMethod objectInit, Cond.code objectInit ⟨#[0xb1]⟩ 1 none, Cond.classLink RX4 7 RX3, Cond.instantiable RX3 17, Cond.initialized RX3, Cond.fieldLink RX4 10 "HoseTests" "now" "LHoseTests$Station;", Cond.fieldLink RX4 16 "HoseTests" "saved" "[LHoseTests$Station;", Cond.fieldLink RX4 20 "HoseTests" "latestSaved" "I", Cond.fieldLink RX4 24 "HoseTests" "savedStates" "I", Cond.classLink RX4 27 RX0, Cond.instantiable RX0 2, Cond.initialized RX0, Cond.fieldLink RX4 30 "HoseTests" "text" "LHoseTests$HoseText;", Cond.methodLink RX4 9 yX3_init, Cond.instanceMethod yX3_init, Cond.code yX3_init cX3_init 1 none, Cond.methodLink RX3 3 objectInit]
def wsL_law0_r2 : List Cond := [Cond.fieldLink RX3 9 "HoseTests$Station" "day" "I", Cond.fieldLink RX3 15 "HoseTests$Station" "money" "I", Cond.arrayClass .int, Cond.fieldLink RX3 18 "HoseTests$Station" "wanted" "[I", Cond.fieldLink RX3 22 "HoseTests$Station" "settings" "[I", Cond.fieldLink RX3 25 "HoseTests$Station" "kind" "[I", Cond.fieldLink RX3 28 "HoseTests$Station" "length" "[I", Cond.fieldLink RX3 31 "HoseTests$Station" "coupling" "[I", Cond.fieldLink RX3 34 "HoseTests$Station" "made" "[I", Cond.fieldLink RX3 37 "HoseTests$Station" "wear" "[I", Cond.fieldLink RX3 40 "HoseTests$Station" "lastTestDay" "[I", Cond.fieldLink RX3 43 "HoseTests$Station" "place" "[I", Cond.fieldLink RX3 46 "HoseTests$Station" "backDay" "[I", Cond.classLink RX3 49 RX2, Cond.instantiable RX2 4, Cond.initialized RX2, Cond.fieldLink RX3 52 "HoseTests$Station" "line" "LHoseTests$Line;", Cond.instanceMethod yX2_init, Cond.code yX2_init cX2_init 1 none, Cond.methodLink RX2 3 objectInit, Cond.methodLink RX4 29 yX0_init, Cond.instanceMethod yX0_init, Cond.code yX0_init cX0_init 1 none, Cond.methodLink RX0 3 objectInit]
def wsL_law0_r3 : List Cond := [Cond.fieldLink RX0 11 "HoseTests$HoseText" "codes" "[I", Cond.fieldLink RX0 15 "HoseTests$HoseText" "size" "I", Cond.methodLink RL 35 yX4_count, Cond.instanceMethod yX4_count, Cond.selects RX4 yX4_count yX4_count, Cond.code yX4_count cX4_count 2 (some .int), Cond.classLink RX4 38 "java/lang/IllegalArgumentException", Cond.initialized "java/lang/IllegalArgumentException", Cond.fieldLink RX4 127 "HoseTests$Station" "day" "I", Cond.fieldLink RX4 213 "HoseTests$Station" "money" "I", Cond.fieldLink RX4 216 "HoseTests$Station" "hoses" "I", Cond.fieldLink RX4 225 "HoseTests$Station" "tests" "I", Cond.fieldLink RX4 228 "HoseTests$Station" "bursts" "I", Cond.fieldLink RX4 231 "HoseTests$Station" "paid" "I", Cond.methodLink RX4 34 yX4_isWithin, Cond.static yX4_isWithin, Cond.code yX4_isWithin cX4_isWithin 3 (some .boolean), Cond.methodLink RX4 199 yX3_hosesAt, Cond.instanceMethod yX3_hosesAt, Cond.selects RX3 yX3_hosesAt yX3_hosesAt, Cond.code yX3_hosesAt cX3_hosesAt 4 (some .int), Cond.fieldLink RX3 56 "HoseTests$Station" "hoses" "I", Cond.methodLink RX4 219 yX3_readyHoses, Cond.instanceMethod yX3_readyHoses]
def wsL_law0_r4 : List Cond := [Cond.selects RX3 yX3_readyHoses yX3_readyHoses, Cond.code yX3_readyHoses cX3_readyHoses 3 (some .int), Cond.methodLink RX3 138 yX3_isReady, Cond.instanceMethod yX3_isReady, Cond.selects RX3 yX3_isReady yX3_isReady, Cond.code yX3_isReady cX3_isReady 2 (some .boolean), Cond.methodLink RX3 78 yX3_reasonOf, Cond.instanceMethod yX3_reasonOf, Cond.selects RX3 yX3_reasonOf yX3_reasonOf, Cond.code yX3_reasonOf cX3_reasonOf 2 (some .int), Cond.methodLink RX3 82 yX3_isGone, Cond.instanceMethod yX3_isGone, Cond.selects RX3 yX3_isGone yX3_isGone, Cond.code yX3_isGone cX3_isGone 2 (some .boolean), Cond.methodLink RX3 86 yX3_isLent, Cond.instanceMethod yX3_isLent, Cond.selects RX3 yX3_isLent yX3_isLent, Cond.code yX3_isLent cX3_isLent 2 (some .boolean), Cond.methodLink RX3 89 yX1_lifeOf, Cond.static yX1_lifeOf, Cond.initialized RX1, Cond.code yX1_lifeOf cX1_lifeOf 1 (some .int), Cond.methodLink RX4 222 yX3_wholeTrucks, Cond.instanceMethod yX3_wholeTrucks]
def wsL_law0_r5 : List Cond := [Cond.selects RX3 yX3_wholeTrucks yX3_wholeTrucks, Cond.code yX3_wholeTrucks cX3_wholeTrucks 3 (some .int), Cond.methodLink RX3 151 yX3_layLine, Cond.instanceMethod yX3_layLine, Cond.selects RX3 yX3_layLine yX3_layLine, Cond.code yX3_layLine cX3_layLine 4 (some .boolean), Cond.fieldLink RX3 148 "HoseTests$Line" "metres" "I", Cond.methodLink RX3 141 yX2_begin, Cond.instanceMethod yX2_begin, Cond.selects RX2 yX2_begin yX2_begin, Cond.code yX2_begin cX2_begin 1 none, Cond.fieldLink RX2 9 "HoseTests$Line" "metres" "I", Cond.fieldLink RX2 15 "HoseTests$Line" "adaptersUsed" "I", Cond.fieldLink RX2 18 "HoseTests$Line" "mask" "I", Cond.fieldLink RX2 21 "HoseTests$Line" "lastCoupling" "I", Cond.methodLink RX3 144 yX2_join, Cond.instanceMethod yX2_join, Cond.selects RX2 yX2_join yX2_join, Cond.code yX2_join cX2_join 5 none, Cond.methodLink RL 63 yL_cell, Cond.static yL_cell, Cond.initialized RL, Cond.code yL_cell cL_cell 2 (some .int), Cond.constant RL 8 (40503)]
def wsL_law0_r6 : List Cond := [Cond.methodLink RL 69 yL_low, Cond.static yL_low, Cond.code yL_low cL_low 2 (some .int), Cond.constant RL 7 (2147483647), Cond.methodLink RL 44 yX4_ifTested, Cond.instanceMethod yX4_ifTested, Cond.selects RX4 yX4_ifTested yX4_ifTested, Cond.code yX4_ifTested cX4_ifTested 3 (some .int), Cond.methodLink RX4 61 yX4_requireHose, Cond.instanceMethod yX4_requireHose, Cond.selects RX4 yX4_requireHose yX4_requireHose, Cond.code yX4_requireHose cX4_requireHose 2 none, Cond.classLink RX4 287 "java/lang/IndexOutOfBoundsException", Cond.initialized "java/lang/IndexOutOfBoundsException", Cond.methodLink RX4 96 yX4_requirePressure, Cond.static yX4_requirePressure, Cond.code yX4_requirePressure cX4_requirePressure 1 none, Cond.methodLink RX4 234 yX3_isGone, Cond.methodLink RX4 237 yX3_outcomeOf, Cond.instanceMethod yX3_outcomeOf, Cond.selects RX3 yX3_outcomeOf yX3_outcomeOf, Cond.code yX3_outcomeOf cX3_outcomeOf 4 (some .int), Cond.methodLink RX3 120 yX3_stepsHeld, Cond.instanceMethod yX3_stepsHeld]
def wsL_law0_r7 : List Cond := [Cond.selects RX3 yX3_stepsHeld yX3_stepsHeld, Cond.code yX3_stepsHeld cX3_stepsHeld 7 (some .int), Cond.methodLink RX3 112 Lib.Math.min.name, Cond.static Lib.Math.min.name, Cond.initialized "java/lang/Math", Cond.code Lib.Math.min.name Lib.Math.min.code 2 (some .int), Cond.methodLink RX3 109 yX3_stepsUpTo, Cond.static yX3_stepsUpTo, Cond.code yX3_stepsUpTo cX3_stepsUpTo 1 (some .int), Cond.methodLink RX3 117 yX3_strengthAt, Cond.instanceMethod yX3_strengthAt, Cond.selects RX3 yX3_strengthAt yX3_strengthAt, Cond.code yX3_strengthAt cX3_strengthAt 3 (some .int), Cond.methodLink RX3 94 yX1_strengthOf, Cond.static yX1_strengthOf, Cond.code yX1_strengthOf cX1_strengthOf 3 (some .int), Cond.methodLink RX1 9 Lib.Math.max.name, Cond.static Lib.Math.max.name, Cond.code Lib.Math.max.name Lib.Math.max.code 2 (some .int), Cond.methodLink RL 38 yX4_hose, Cond.instanceMethod yX4_hose, Cond.selects RX4 yX4_hose yX4_hose, Cond.code yX4_hose cX4_hose 3 (some .int), Cond.fieldLink RX4 68 "HoseTests$Station" "kind" "[I"]
def wsL_law0_r8 : List Cond := [Cond.fieldLink RX4 72 "HoseTests$Station" "length" "[I", Cond.fieldLink RX4 164 "HoseTests$Station" "coupling" "[I", Cond.fieldLink RX4 167 "HoseTests$Station" "made" "[I", Cond.fieldLink RX4 170 "HoseTests$Station" "wear" "[I", Cond.fieldLink RX4 176 "HoseTests$Station" "lastTestDay" "[I", Cond.fieldLink RX4 81 "HoseTests$Station" "place" "[I", Cond.fieldLink RX4 179 "HoseTests$Station" "backDay" "[I", Cond.methodLink RX4 173 yX3_strengthAt, Cond.methodLink RX4 182 yX3_reasonOf, Cond.methodLink RL 98 yL_act, Cond.static yL_act, Cond.code yL_act cL_act 7 (some .int), Cond.methodLink RL 72 yL_buy, Cond.static yL_buy, Cond.codeWith yL_buy cL_buy 5 (some .int) [(0, 7, 8, 15)], Cond.classLink RL 15 "java/lang/IllegalStateException", Cond.methodLink RL 9 yX4_buy, Cond.instanceMethod yX4_buy, Cond.selects RX4 yX4_buy yX4_buy, Cond.code yX4_buy cX4_buy 4 (some .int), Cond.classLink RX4 49 "java/lang/IllegalStateException", Cond.initialized "java/lang/IllegalStateException", Cond.methodLink RX4 45 yX3_canBuy, Cond.instanceMethod yX3_canBuy]
def wsL_law0_r9 : List Cond := [Cond.selects RX3 yX3_canBuy yX3_canBuy, Cond.code yX3_canBuy cX3_canBuy 3 (some .boolean), Cond.methodLink RX3 98 yX1_costOf, Cond.static yX1_costOf, Cond.code yX1_costOf cX1_costOf 2 (some .int), Cond.methodLink RX4 54 yX4_saveState, Cond.instanceMethod yX4_saveState, Cond.selects RX4 yX4_saveState yX4_saveState, Cond.code yX4_saveState cX4_saveState 2 none, Cond.methodLink RX4 158 yX3_copyFrom, Cond.instanceMethod yX3_copyFrom, Cond.selects RX3 yX3_copyFrom yX3_copyFrom, Cond.code yX3_copyFrom cX3_copyFrom 2 none, Cond.fieldLink RX3 59 "HoseTests$Station" "tests" "I", Cond.fieldLink RX3 62 "HoseTests$Station" "bursts" "I", Cond.fieldLink RX3 65 "HoseTests$Station" "paid" "I", Cond.methodLink RX3 68 arraycopyName, Cond.native arraycopyName, Cond.static arraycopyName, Cond.initialized "java/lang/System", Cond.methodLink RX4 57 yX3_addHose, Cond.instanceMethod yX3_addHose, Cond.selects RX3 yX3_addHose yX3_addHose, Cond.code yX3_addHose cX3_addHose 6 (some .int)]
def wsL_law0_r10 : List Cond := [Cond.methodLink RX3 102 yX3_priceOf, Cond.instanceMethod yX3_priceOf, Cond.selects RX3 yX3_priceOf yX3_priceOf, Cond.code yX3_priceOf cX3_priceOf 2 (some .int), Cond.methodLink RL 75 yL_renew, Cond.static yL_renew, Cond.codeWith yL_renew cL_renew 3 (some .int) [(0, 5, 6, 15)], Cond.methodLink RL 17 yX4_renew, Cond.instanceMethod yX4_renew, Cond.selects RX4 yX4_renew yX4_renew, Cond.code yX4_renew cX4_renew 2 (some .int), Cond.methodLink RX4 65 yX4_requireAtHand, Cond.instanceMethod yX4_requireAtHand, Cond.selects RX4 yX4_requireAtHand yX4_requireAtHand, Cond.code yX4_requireAtHand cX4_requireAtHand 2 none, Cond.methodLink RX4 292 yX3_isLent, Cond.methodLink RX4 75 yX3_replaceHose, Cond.instanceMethod yX3_replaceHose, Cond.selects RX3 yX3_replaceHose yX3_replaceHose, Cond.code yX3_replaceHose cX3_replaceHose 3 (some .int), Cond.methodLink RX3 105 yX3_addHose, Cond.methodLink RL 78 yL_put, Cond.static yL_put, Cond.codeWith yL_put cL_put 4 (some .int) [(0, 6, 7, 15)]]
def wsL_law0_r11 : List Cond := [Cond.methodLink RL 21 yX4_put, Cond.instanceMethod yX4_put, Cond.selects RX4 yX4_put yX4_put, Cond.code yX4_put cX4_put 4 (some .int), Cond.methodLink RL 81 yL_lend, Cond.static yL_lend, Cond.codeWith yL_lend cL_lend 4 (some .int) [(0, 6, 7, 15)], Cond.methodLink RL 25 yX4_lend, Cond.instanceMethod yX4_lend, Cond.selects RX4 yX4_lend yX4_lend, Cond.code yX4_lend cX4_lend 3 (some .int), Cond.methodLink RX4 86 yX3_isReady, Cond.methodLink RX4 92 yX3_lendOut, Cond.instanceMethod yX3_lendOut, Cond.selects RX3 yX3_lendOut yX3_lendOut, Cond.code yX3_lendOut cX3_lendOut 3 (some .int), Cond.methodLink RL 83 yL_test, Cond.static yL_test, Cond.codeWith yL_test cL_test 4 (some .int) [(0, 6, 7, 15)], Cond.methodLink RL 28 yX4_test, Cond.instanceMethod yX4_test, Cond.selects RX4 yX4_test yX4_test, Cond.code yX4_test cX4_test 3 (some .int), Cond.methodLink RX4 99 yX3_runTest]
def wsL_law0_r12 : List Cond := [Cond.instanceMethod yX3_runTest, Cond.selects RX3 yX3_runTest yX3_runTest, Cond.code yX3_runTest cX3_runTest 5 (some .int), Cond.methodLink RX3 123 yX3_outcomeOf, Cond.methodLink RX3 126 yX1_daysInForce, Cond.static yX1_daysInForce, Cond.code yX1_daysInForce cX1_daysInForce 1 (some .int), Cond.methodLink RL 85 yX4_want, Cond.instanceMethod yX4_want, Cond.selects RX4 yX4_want yX4_want, Cond.code yX4_want cX4_want 4 (some .int), Cond.fieldLink RX4 107 "HoseTests$Station" "wanted" "[I", Cond.methodLink RX4 102 yX4_requireTruck, Cond.static yX4_requireTruck, Cond.code yX4_requireTruck cX4_requireTruck 1 none, Cond.methodLink RL 88 yX4_set, Cond.instanceMethod yX4_set, Cond.selects RX4 yX4_set yX4_set, Cond.code yX4_set cX4_set 4 (some .int), Cond.fieldLink RX4 121 "HoseTests$Station" "settings" "[I", Cond.methodLink RX4 110 yX4_requireSetting, Cond.static yX4_requireSetting, Cond.code yX4_requireSetting cX4_requireSetting 1 none, Cond.methodLink RX4 113 yX4_leastOfSetting]
def wsL_law0_r13 : List Cond := [Cond.static yX4_leastOfSetting, Cond.code yX4_leastOfSetting cX4_leastOfSetting 1 (some .int), Cond.methodLink RX4 116 yX4_greatestOfSetting, Cond.static yX4_greatestOfSetting, Cond.code yX4_greatestOfSetting cX4_greatestOfSetting 1 (some .int), Cond.methodLink RL 91 yX4_pass, Cond.instanceMethod yX4_pass, Cond.selects RX4 yX4_pass yX4_pass, Cond.code yX4_pass cX4_pass 3 (some .int), Cond.methodLink RX4 124 yX3_passDay, Cond.instanceMethod yX3_passDay, Cond.selects RX3 yX3_passDay yX3_passDay, Cond.code yX3_passDay cX3_passDay 1 none, Cond.methodLink RX3 129 yX3_takeBackLent, Cond.instanceMethod yX3_takeBackLent, Cond.selects RX3 yX3_takeBackLent yX3_takeBackLent, Cond.code yX3_takeBackLent cX3_takeBackLent 2 none, Cond.methodLink RX3 132 yX3_wearOnTrucks, Cond.instanceMethod yX3_wearOnTrucks, Cond.selects RX3 yX3_wearOnTrucks yX3_wearOnTrucks, Cond.code yX3_wearOnTrucks cX3_wearOnTrucks 2 none, Cond.methodLink RX3 135 yX3_isOnTruck, Cond.instanceMethod yX3_isOnTruck, Cond.selects RX3 yX3_isOnTruck yX3_isOnTruck]
def wsL_law0_r14 : List Cond := [Cond.code yX3_isOnTruck cX3_isOnTruck 2 (some .boolean), Cond.methodLink RL 94 yL_undo, Cond.static yL_undo, Cond.codeWith yL_undo cL_undo 2 (some .int) [(0, 4, 5, 15)], Cond.methodLink RL 31 yX4_undo, Cond.instanceMethod yX4_undo, Cond.selects RX4 yX4_undo yX4_undo, Cond.code yX4_undo cX4_undo 2 (some .int), Cond.methodLink RL 53 yX4_setting, Cond.instanceMethod yX4_setting, Cond.selects RX4 yX4_setting yX4_setting, Cond.code yX4_setting cX4_setting 2 (some .int), Cond.methodLink RL 102 yL_station, Cond.static yL_station, Cond.code yL_station cL_station 13 (some .boolean), Cond.methodLink RL 41 yX4_safe, Cond.instanceMethod yX4_safe, Cond.selects RX4 yX4_safe yX4_safe, Cond.code yX4_safe cX4_safe 2 (some .int), Cond.methodLink RX4 240 yX3_greatestSafePressure, Cond.instanceMethod yX3_greatestSafePressure, Cond.selects RX3 yX3_greatestSafePressure yX3_greatestSafePressure, Cond.code yX3_greatestSafePressure cX3_greatestSafePressure 3 (some .int), Cond.methodLink RL 47 yX4_truck]
def wsL_law0_r15 : List Cond := [Cond.instanceMethod yX4_truck, Cond.selects RX4 yX4_truck yX4_truck, Cond.code yX4_truck cX4_truck 4 (some .int), Cond.fieldLink RX4 190 "HoseTests$Station" "line" "LHoseTests$Line;", Cond.fieldLink RX4 194 "HoseTests$Line" "metres" "I", Cond.fieldLink RX4 205 "HoseTests$Line" "adaptersUsed" "I", Cond.fieldLink RX4 208 "HoseTests$Line" "mask" "I", Cond.methodLink RX4 187 yX3_layLine, Cond.methodLink RX4 202 yX3_readyHosesAt, Cond.instanceMethod yX3_readyHosesAt, Cond.selects RX3 yX3_readyHosesAt yX3_readyHosesAt, Cond.code yX3_readyHosesAt cX3_readyHosesAt 4 (some .int), Cond.methodLink RL 50 yX4_helps, Cond.instanceMethod yX4_helps, Cond.selects RX4 yX4_helps yX4_helps, Cond.code yX4_helps cX4_helps 2 (some .int), Cond.methodLink RX4 246 yX3_cheapestHelp, Cond.instanceMethod yX3_cheapestHelp, Cond.selects RX3 yX3_cheapestHelp yX3_cheapestHelp, Cond.code yX3_cheapestHelp cX3_cheapestHelp 6 (some .int), Cond.methodLink RL 56 yX4_nextLapse, Cond.instanceMethod yX4_nextLapse, Cond.selects RX4 yX4_nextLapse yX4_nextLapse, Cond.code yX4_nextLapse cX4_nextLapse 1 (some .int)]
def wsL_law0_r16 : List Cond := [Cond.methodLink RX4 243 yX3_daysToFirstLapse, Cond.instanceMethod yX3_daysToFirstLapse, Cond.selects RX3 yX3_daysToFirstLapse yX3_daysToFirstLapse, Cond.code yX3_daysToFirstLapse cX3_daysToFirstLapse 5 (some .int), Cond.methodLink RL 59 yX4_readyShare, Cond.instanceMethod yX4_readyShare, Cond.selects RX4 yX4_readyShare yX4_readyShare, Cond.code yX4_readyShare cX4_readyShare 2 (some .double)]
def wsL_law0 : List Cond := (wsL_law0_r1 ++ (wsL_law0_r2 ++ (wsL_law0_r3 ++ (wsL_law0_r4 ++ (wsL_law0_r5 ++ (wsL_law0_r6 ++ (wsL_law0_r7 ++ (wsL_law0_r8 ++ (wsL_law0_r9 ++ (wsL_law0_r10 ++ (wsL_law0_r11 ++ (wsL_law0_r12 ++ (wsL_law0_r13 ++ (wsL_law0_r14 ++ (wsL_law0_r15 ++ wsL_law0_r16))))))))))))))) ++ wsX40 ++ wsX30 ++ wsX00 ++ wsX20 ++ ([] : List Cond)
def wsL_law : List Cond := wsL_law0 ++ (vx_atS RX4 42 "java/lang/IllegalArgumentException" ["java/lang/RuntimeException", "java/lang/Exception"]).filter goodWord ++ (vx_atS RX4 291 "java/lang/IndexOutOfBoundsException" ["java/lang/RuntimeException", "java/lang/Exception"]).filter goodWord ++ (vx_atS RX4 53 "java/lang/IllegalStateException" ["java/lang/RuntimeException", "java/lang/Exception"]).filter goodWord

set_option maxRecDepth 20000 in
theorem wsL_law0_r1_in : ∀ w ∈ wsL_law0_r1, w ∈ lw_tbl := fun w h => (goodIn_p wsL_law0_r1 [24, 27, 32] (by decide +kernel) (by decide +kernel) w h).1
set_option maxRecDepth 20000 in
theorem wsL_law0_r2_in : ∀ w ∈ wsL_law0_r2, w ∈ lw_tbl := fun w h => (goodIn_p wsL_law0_r2 [38, 132] (by decide +kernel) (by decide +kernel) w h).1
set_option maxRecDepth 20000 in
theorem wsL_law0_r3_in : ∀ w ∈ wsL_law0_r3, w ∈ lw_tbl := fun w h => (goodIn_p wsL_law0_r3 [280, 167, 285] (by decide +kernel) (by decide +kernel) w h).1
set_option maxRecDepth 20000 in
theorem wsL_law0_r4_in : ∀ w ∈ wsL_law0_r4, w ∈ lw_tbl := fun w h => (goodIn_p wsL_law0_r4 [289, 293, 265, 269, 273, 276] (by decide +kernel) (by decide +kernel) w h).1
set_option maxRecDepth 20000 in
theorem wsL_law0_r5_in : ∀ w ∈ wsL_law0_r5, w ∈ lw_tbl := fun w h => (goodIn_p wsL_law0_r5 [298, 302, 306, 310, 349] (by decide +kernel) (by decide +kernel) w h).1
set_option maxRecDepth 20000 in
theorem wsL_law0_r6_in : ∀ w ∈ wsL_law0_r6, w ∈ lw_tbl := fun w h => (goodIn_p wsL_law0_r6 [345, 322, 164, 325, 331] (by decide +kernel) (by decide +kernel) w h).1
set_option maxRecDepth 20000 in
theorem wsL_law0_r7_in : ∀ w ∈ wsL_law0_r7, w ∈ lw_tbl := fun w h => (goodIn_p wsL_law0_r7 [335, 341, 338, 255, 258, 261, 160] (by decide +kernel) (by decide +kernel) w h).1
set_option maxRecDepth 20000 in
theorem wsL_law0_r8_in : ∀ w ∈ wsL_law0_r8, w ∈ lw_tbl := fun w h => (goodIn_p wsL_law0_r8 [405, 413] (by decide +kernel) (by decide +kernel) w h).1
set_option maxRecDepth 20000 in
theorem wsL_law0_r9_in : ∀ w ∈ wsL_law0_r9, w ∈ lw_tbl := fun w h => (goodIn_p wsL_law0_r9 [418, 390, 438, 442, 449] (by decide +kernel) (by decide +kernel) w h).1
set_option maxRecDepth 20000 in
theorem wsL_law0_r10_in : ∀ w ∈ wsL_law0_r10, w ∈ lw_tbl := fun w h => (goodIn_p wsL_law0_r10 [387, 456, 460, 466] (by decide +kernel) (by decide +kernel) w h).1
set_option maxRecDepth 20000 in
theorem wsL_law0_r11_in : ∀ w ∈ wsL_law0_r11, w ∈ lw_tbl := fun w h => (goodIn_p wsL_law0_r11 [474, 482, 489, 496] (by decide +kernel) (by decide +kernel) w h).1
set_option maxRecDepth 20000 in
theorem wsL_law0_r12_in : ∀ w ∈ wsL_law0_r12, w ∈ lw_tbl := fun w h => (goodIn_p wsL_law0_r12 [500, 504, 508, 368, 513, 317] (by decide +kernel) (by decide +kernel) w h).1
set_option maxRecDepth 20000 in
theorem wsL_law0_r13_in : ∀ w ∈ wsL_law0_r13, w ∈ lw_tbl := fun w h => (goodIn_p wsL_law0_r13 [516, 519, 524, 528, 532, 536] (by decide +kernel) (by decide +kernel) w h).1
set_option maxRecDepth 20000 in
theorem wsL_law0_r14_in : ∀ w ∈ wsL_law0_r14, w ∈ lw_tbl := fun w h => (goodIn_p wsL_law0_r14 [540, 548, 314, 353, 357, 361] (by decide +kernel) (by decide +kernel) w h).1
set_option maxRecDepth 20000 in
theorem wsL_law0_r15_in : ∀ w ∈ wsL_law0_r15, w ∈ lw_tbl := fun w h => (goodIn_p wsL_law0_r15 [365, 375, 379, 383, 394] (by decide +kernel) (by decide +kernel) w h).1
set_option maxRecDepth 20000 in
theorem wsL_law0_r16_in : ∀ w ∈ wsL_law0_r16, w ∈ lw_tbl := fun w h => (goodIn_p wsL_law0_r16 [398, 402] (by decide +kernel) (by decide +kernel) w h).1
theorem wsX40_in : ∀ w ∈ wsX40, w ∈ lw_tbl := by decide +kernel
theorem wsX30_in : ∀ w ∈ wsX30, w ∈ lw_tbl := by decide +kernel
theorem wsX00_in : ∀ w ∈ wsX00, w ∈ lw_tbl := by decide +kernel
theorem wsX20_in : ∀ w ∈ wsX20, w ∈ lw_tbl := by decide +kernel
theorem wsL_law_in0 : ∀ w ∈ wsL_law0, w ∈ lw_tbl := fun w h => (List.mem_append.mp h).elim (fun h => (List.mem_append.mp h).elim (fun h => (List.mem_append.mp h).elim (fun h => (List.mem_append.mp h).elim (fun h => (List.mem_append.mp h).elim (fun h => (List.mem_append.mp h).elim (fun h => wsL_law0_r1_in w h) (fun h => (List.mem_append.mp h).elim (fun h => wsL_law0_r2_in w h) (fun h => (List.mem_append.mp h).elim (fun h => wsL_law0_r3_in w h) (fun h => (List.mem_append.mp h).elim (fun h => wsL_law0_r4_in w h) (fun h => (List.mem_append.mp h).elim (fun h => wsL_law0_r5_in w h) (fun h => (List.mem_append.mp h).elim (fun h => wsL_law0_r6_in w h) (fun h => (List.mem_append.mp h).elim (fun h => wsL_law0_r7_in w h) (fun h => (List.mem_append.mp h).elim (fun h => wsL_law0_r8_in w h) (fun h => (List.mem_append.mp h).elim (fun h => wsL_law0_r9_in w h) (fun h => (List.mem_append.mp h).elim (fun h => wsL_law0_r10_in w h) (fun h => (List.mem_append.mp h).elim (fun h => wsL_law0_r11_in w h) (fun h => (List.mem_append.mp h).elim (fun h => wsL_law0_r12_in w h) (fun h => (List.mem_append.mp h).elim (fun h => wsL_law0_r13_in w h) (fun h => (List.mem_append.mp h).elim (fun h => wsL_law0_r14_in w h) (fun h => (List.mem_append.mp h).elim (fun h => wsL_law0_r15_in w h) (fun h => wsL_law0_r16_in w h)))))))))))))))) (fun h => wsX40_in w h)) (fun h => wsX30_in w h)) (fun h => wsX00_in w h)) (fun h => wsX20_in w h)) (fun h => absurd h List.not_mem_nil)
theorem wsL_law_x0 : ∀ w ∈ (vx_atS RX4 42 "java/lang/IllegalArgumentException" ["java/lang/RuntimeException", "java/lang/Exception"]).filter goodWord, w ∈ lw_tbl := by decide +kernel
theorem wsL_law_x1 : ∀ w ∈ (vx_atS RX4 291 "java/lang/IndexOutOfBoundsException" ["java/lang/RuntimeException", "java/lang/Exception"]).filter goodWord, w ∈ lw_tbl := by decide +kernel
theorem wsL_law_x2 : ∀ w ∈ (vx_atS RX4 53 "java/lang/IllegalStateException" ["java/lang/RuntimeException", "java/lang/Exception"]).filter goodWord, w ∈ lw_tbl := by decide +kernel
theorem wsL_law_in : ∀ w ∈ wsL_law, w ∈ lw_tbl := fun w h => (List.mem_append.mp h).elim (fun h => (List.mem_append.mp h).elim (fun h => (List.mem_append.mp h).elim (fun h => wsL_law_in0 w h) (fun h => wsL_law_x0 w h)) (fun h => wsL_law_x1 w h)) (fun h => wsL_law_x2 w h)
theorem inlX0 : ∀ w ∈ wsX00, w ∈ wsL_law := fun _ h => List.mem_append_left _ (List.mem_append_left _ (List.mem_append_left _ (List.mem_append_left _ (List.mem_append_left _ (List.mem_append_right _ h)))))
theorem inX0 : ∀ w ∈ wsX00, w ∈ lw_tbl := fun w h => wsL_law_in w (inlX0 w h)
theorem inX1 : ∀ w ∈ wsX10, w ∈ lw_tbl := by decide +kernel
theorem inlX2 : ∀ w ∈ wsX20, w ∈ wsL_law := fun _ h => List.mem_append_left _ (List.mem_append_left _ (List.mem_append_left _ (List.mem_append_left _ (List.mem_append_right _ h))))
theorem inX2 : ∀ w ∈ wsX20, w ∈ lw_tbl := fun w h => wsL_law_in w (inlX2 w h)
theorem inlX3 : ∀ w ∈ wsX30, w ∈ wsL_law := fun _ h => List.mem_append_left _ (List.mem_append_left _ (List.mem_append_left _ (List.mem_append_left _ (List.mem_append_left _ (List.mem_append_left _ (List.mem_append_right _ h))))))
theorem inX3 : ∀ w ∈ wsX30, w ∈ lw_tbl := fun w h => wsL_law_in w (inlX3 w h)
theorem inlX4 : ∀ w ∈ wsX40, w ∈ wsL_law := fun _ h => List.mem_append_left _ (List.mem_append_left _ (List.mem_append_left _ (List.mem_append_left _ (List.mem_append_left _ (List.mem_append_left _ (List.mem_append_left _ (List.mem_append_right _ h)))))))
theorem inX4 : ∀ w ∈ wsX40, w ∈ lw_tbl := fun w h => wsL_law_in w (inlX4 w h)
theorem inX5 : ∀ w ∈ wsX50, w ∈ lw_tbl := by decide +kernel
theorem inJ9 : ∀ w ∈ wsJ90, w ∈ lw_tbl := by decide +kernel
theorem inJ0 : ∀ w ∈ wsJ00, w ∈ lw_tbl := by decide +kernel
theorem inJ10 : ∀ w ∈ wsJ100, w ∈ lw_tbl := by decide +kernel
abbrev vwCl : List vw_C := [(RX0, TX0, 2), (RX2, TX2, 4), (RX3, TX3, 17), (RX4, TX4, 5)]

/-! ===== END printed: names ===== -/
end
section
/-! decode rows -/
theorem dX0_init_0 : decode cX0_init 0 = .ok (.aload_n 0, 1) := by decide +kernel
theorem dX0_init_1 : decode cX0_init 1 = .ok (.invokespecial 3, 3) := by decide +kernel
theorem dX0_init_4 : decode cX0_init 4 = .ok (.aload_n 0, 1) := by decide +kernel
theorem dX0_init_5 : decode cX0_init 5 = .ok (.bipush 60, 2) := by decide +kernel
theorem dX0_init_7 : decode cX0_init 7 = .ok (.newarray .int, 2) := by decide +kernel
theorem dX0_init_9 : decode cX0_init 9 = .ok (.putfield 11, 3) := by decide +kernel
theorem dX0_init_12 : decode cX0_init 12 = .ok (.aload_n 0, 1) := by decide +kernel
theorem dX0_init_13 : decode cX0_init 13 = .ok (.iconst 0, 1) := by decide +kernel
theorem dX0_init_14 : decode cX0_init 14 = .ok (.putfield 15, 3) := by decide +kernel
theorem dX0_init_17 : decode cX0_init 17 = .ok (.return_, 1) := by decide +kernel
theorem dX1_strengthOf_0 : decode cX1_strengthOf 0 = .ok (.iload_n 0, 1) := by decide +kernel
theorem dX1_strengthOf_1 : decode cX1_strengthOf 1 = .ok (.lookupswitch 57 #[(0, 27), (1, 41)], 27) := by decide +kernel
theorem dX1_strengthOf_28 : decode cX1_strengthOf 28 = .ok (.iconst 0, 1) := by decide +kernel
theorem dX1_strengthOf_29 : decode cX1_strengthOf 29 = .ok (.bipush 16, 2) := by decide +kernel
theorem dX1_strengthOf_31 : decode cX1_strengthOf 31 = .ok (.iload_n 1, 1) := by decide +kernel
theorem dX1_strengthOf_32 : decode cX1_strengthOf 32 = .ok (.bipush 10, 2) := by decide +kernel
theorem dX1_strengthOf_34 : decode cX1_strengthOf 34 = .ok (.idiv, 1) := by decide +kernel
theorem dX1_strengthOf_35 : decode cX1_strengthOf 35 = .ok (.isub, 1) := by decide +kernel
theorem dX1_strengthOf_36 : decode cX1_strengthOf 36 = .ok (.iload_n 2, 1) := by decide +kernel
theorem dX1_strengthOf_37 : decode cX1_strengthOf 37 = .ok (.isub, 1) := by decide +kernel
theorem dX1_strengthOf_38 : decode cX1_strengthOf 38 = .ok (.invokestatic 9, 3) := by decide +kernel
theorem dX1_strengthOf_41 : decode cX1_strengthOf 41 = .ok (.ireturn, 1) := by decide +kernel
theorem dX1_strengthOf_42 : decode cX1_strengthOf 42 = .ok (.iconst 0, 1) := by decide +kernel
theorem dX1_strengthOf_43 : decode cX1_strengthOf 43 = .ok (.bipush 20, 2) := by decide +kernel
theorem dX1_strengthOf_45 : decode cX1_strengthOf 45 = .ok (.iload_n 1, 1) := by decide +kernel
theorem dX1_strengthOf_46 : decode cX1_strengthOf 46 = .ok (.bipush 8, 2) := by decide +kernel
theorem dX1_strengthOf_48 : decode cX1_strengthOf 48 = .ok (.idiv, 1) := by decide +kernel
theorem dX1_strengthOf_49 : decode cX1_strengthOf 49 = .ok (.isub, 1) := by decide +kernel
theorem dX1_strengthOf_50 : decode cX1_strengthOf 50 = .ok (.iload_n 2, 1) := by decide +kernel
theorem dX1_strengthOf_51 : decode cX1_strengthOf 51 = .ok (.iconst 2, 1) := by decide +kernel
theorem dX1_strengthOf_52 : decode cX1_strengthOf 52 = .ok (.idiv, 1) := by decide +kernel
theorem dX1_strengthOf_53 : decode cX1_strengthOf 53 = .ok (.isub, 1) := by decide +kernel
theorem dX1_strengthOf_54 : decode cX1_strengthOf 54 = .ok (.invokestatic 9, 3) := by decide +kernel
theorem dX1_strengthOf_57 : decode cX1_strengthOf 57 = .ok (.ireturn, 1) := by decide +kernel
theorem dX1_strengthOf_58 : decode cX1_strengthOf 58 = .ok (.iconst 0, 1) := by decide +kernel
theorem dX1_strengthOf_59 : decode cX1_strengthOf 59 = .ok (.bipush 24, 2) := by decide +kernel
theorem dX1_strengthOf_61 : decode cX1_strengthOf 61 = .ok (.iload_n 1, 1) := by decide +kernel
theorem dX1_strengthOf_62 : decode cX1_strengthOf 62 = .ok (.iconst 5, 1) := by decide +kernel
theorem dX1_strengthOf_63 : decode cX1_strengthOf 63 = .ok (.idiv, 1) := by decide +kernel
theorem dX1_strengthOf_64 : decode cX1_strengthOf 64 = .ok (.isub, 1) := by decide +kernel
theorem dX1_strengthOf_65 : decode cX1_strengthOf 65 = .ok (.invokestatic 9, 3) := by decide +kernel
theorem dX1_strengthOf_68 : decode cX1_strengthOf 68 = .ok (.ireturn, 1) := by decide +kernel
theorem dX1_lifeOf_0 : decode cX1_lifeOf 0 = .ok (.iload_n 0, 1) := by decide +kernel
theorem dX1_lifeOf_1 : decode cX1_lifeOf 1 = .ok (.lookupswitch 35 #[(0, 27), (1, 31)], 27) := by decide +kernel
theorem dX1_lifeOf_28 : decode cX1_lifeOf 28 = .ok (.sipush 900, 3) := by decide +kernel
theorem dX1_lifeOf_31 : decode cX1_lifeOf 31 = .ok (.ireturn, 1) := by decide +kernel
theorem dX1_lifeOf_32 : decode cX1_lifeOf 32 = .ok (.sipush 1500, 3) := by decide +kernel
theorem dX1_lifeOf_35 : decode cX1_lifeOf 35 = .ok (.ireturn, 1) := by decide +kernel
theorem dX1_lifeOf_36 : decode cX1_lifeOf 36 = .ok (.sipush 1200, 3) := by decide +kernel
theorem dX1_lifeOf_39 : decode cX1_lifeOf 39 = .ok (.ireturn, 1) := by decide +kernel
theorem dX1_daysInForce_0 : decode cX1_daysInForce 0 = .ok (.iload_n 0, 1) := by decide +kernel
theorem dX1_daysInForce_1 : decode cX1_daysInForce 1 = .ok (.lookupswitch 34 #[(0, 27), (1, 30)], 27) := by decide +kernel
theorem dX1_daysInForce_28 : decode cX1_daysInForce 28 = .ok (.bipush 100, 2) := by decide +kernel
theorem dX1_daysInForce_30 : decode cX1_daysInForce 30 = .ok (.ireturn, 1) := by decide +kernel
theorem dX1_daysInForce_31 : decode cX1_daysInForce 31 = .ok (.sipush 150, 3) := by decide +kernel
theorem dX1_daysInForce_34 : decode cX1_daysInForce 34 = .ok (.ireturn, 1) := by decide +kernel
theorem dX1_daysInForce_35 : decode cX1_daysInForce 35 = .ok (.sipush 200, 3) := by decide +kernel
theorem dX1_daysInForce_38 : decode cX1_daysInForce 38 = .ok (.ireturn, 1) := by decide +kernel
theorem dX1_costOf_0 : decode cX1_costOf 0 = .ok (.iload_n 0, 1) := by decide +kernel
theorem dX1_costOf_1 : decode cX1_costOf 1 = .ok (.lookupswitch 35 #[(0, 27), (1, 31)], 27) := by decide +kernel
theorem dX1_costOf_28 : decode cX1_costOf 28 = .ok (.iconst 2, 1) := by decide +kernel
theorem dX1_costOf_29 : decode cX1_costOf 29 = .ok (.iload_n 1, 1) := by decide +kernel
theorem dX1_costOf_30 : decode cX1_costOf 30 = .ok (.imul, 1) := by decide +kernel
theorem dX1_costOf_31 : decode cX1_costOf 31 = .ok (.ireturn, 1) := by decide +kernel
theorem dX1_costOf_32 : decode cX1_costOf 32 = .ok (.iconst 3, 1) := by decide +kernel
theorem dX1_costOf_33 : decode cX1_costOf 33 = .ok (.iload_n 1, 1) := by decide +kernel
theorem dX1_costOf_34 : decode cX1_costOf 34 = .ok (.imul, 1) := by decide +kernel
theorem dX1_costOf_35 : decode cX1_costOf 35 = .ok (.ireturn, 1) := by decide +kernel
theorem dX1_costOf_36 : decode cX1_costOf 36 = .ok (.iconst 4, 1) := by decide +kernel
theorem dX1_costOf_37 : decode cX1_costOf 37 = .ok (.iload_n 1, 1) := by decide +kernel
theorem dX1_costOf_38 : decode cX1_costOf 38 = .ok (.imul, 1) := by decide +kernel
theorem dX1_costOf_39 : decode cX1_costOf 39 = .ok (.bipush 10, 2) := by decide +kernel
theorem dX1_costOf_41 : decode cX1_costOf 41 = .ok (.iadd, 1) := by decide +kernel
theorem dX1_costOf_42 : decode cX1_costOf 42 = .ok (.ireturn, 1) := by decide +kernel
theorem dX2_init_0 : decode cX2_init 0 = .ok (.aload_n 0, 1) := by decide +kernel
theorem dX2_init_1 : decode cX2_init 1 = .ok (.invokespecial 3, 3) := by decide +kernel
theorem dX2_init_4 : decode cX2_init 4 = .ok (.return_, 1) := by decide +kernel
theorem dX2_begin_0 : decode cX2_begin 0 = .ok (.aload_n 0, 1) := by decide +kernel
theorem dX2_begin_1 : decode cX2_begin 1 = .ok (.iconst 0, 1) := by decide +kernel
theorem dX2_begin_2 : decode cX2_begin 2 = .ok (.putfield 9, 3) := by decide +kernel
theorem dX2_begin_5 : decode cX2_begin 5 = .ok (.aload_n 0, 1) := by decide +kernel
theorem dX2_begin_6 : decode cX2_begin 6 = .ok (.iconst 0, 1) := by decide +kernel
theorem dX2_begin_7 : decode cX2_begin 7 = .ok (.putfield 15, 3) := by decide +kernel
theorem dX2_begin_10 : decode cX2_begin 10 = .ok (.aload_n 0, 1) := by decide +kernel
theorem dX2_begin_11 : decode cX2_begin 11 = .ok (.iconst 0, 1) := by decide +kernel
theorem dX2_begin_12 : decode cX2_begin 12 = .ok (.putfield 18, 3) := by decide +kernel
theorem dX2_begin_15 : decode cX2_begin 15 = .ok (.aload_n 0, 1) := by decide +kernel
theorem dX2_begin_16 : decode cX2_begin 16 = .ok (.iconst (-1), 1) := by decide +kernel
theorem dX2_begin_17 : decode cX2_begin 17 = .ok (.putfield 21, 3) := by decide +kernel
theorem dX2_begin_20 : decode cX2_begin 20 = .ok (.return_, 1) := by decide +kernel
theorem dX2_join_0 : decode cX2_join 0 = .ok (.aload_n 0, 1) := by decide +kernel
theorem dX2_join_1 : decode cX2_join 1 = .ok (.getfield 21, 3) := by decide +kernel
theorem dX2_join_4 : decode cX2_join 4 = .ok (.iconst (-1), 1) := by decide +kernel
theorem dX2_join_5 : decode cX2_join 5 = .ok (.if_icmp .eq 31, 3) := by decide +kernel
theorem dX2_join_8 : decode cX2_join 8 = .ok (.aload_n 0, 1) := by decide +kernel
theorem dX2_join_9 : decode cX2_join 9 = .ok (.getfield 21, 3) := by decide +kernel
theorem dX2_join_12 : decode cX2_join 12 = .ok (.iload_n 3, 1) := by decide +kernel
theorem dX2_join_13 : decode cX2_join 13 = .ok (.if_icmp .eq 23, 3) := by decide +kernel
theorem dX2_join_16 : decode cX2_join 16 = .ok (.aload_n 0, 1) := by decide +kernel
theorem dX2_join_17 : decode cX2_join 17 = .ok (.getfield 15, 3) := by decide +kernel
theorem dX2_join_20 : decode cX2_join 20 = .ok (.iload 4, 2) := by decide +kernel
theorem dX2_join_22 : decode cX2_join 22 = .ok (.if_icmp .lt 4, 3) := by decide +kernel
theorem dX2_join_25 : decode cX2_join 25 = .ok (.return_, 1) := by decide +kernel
theorem dX2_join_26 : decode cX2_join 26 = .ok (.aload_n 0, 1) := by decide +kernel
theorem dX2_join_27 : decode cX2_join 27 = .ok (.dup, 1) := by decide +kernel
theorem dX2_join_28 : decode cX2_join 28 = .ok (.getfield 15, 3) := by decide +kernel
theorem dX2_join_31 : decode cX2_join 31 = .ok (.iconst 1, 1) := by decide +kernel
theorem dX2_join_32 : decode cX2_join 32 = .ok (.iadd, 1) := by decide +kernel
theorem dX2_join_33 : decode cX2_join 33 = .ok (.putfield 15, 3) := by decide +kernel
theorem dX2_join_36 : decode cX2_join 36 = .ok (.aload_n 0, 1) := by decide +kernel
theorem dX2_join_37 : decode cX2_join 37 = .ok (.iload_n 3, 1) := by decide +kernel
theorem dX2_join_38 : decode cX2_join 38 = .ok (.putfield 21, 3) := by decide +kernel
theorem dX2_join_41 : decode cX2_join 41 = .ok (.aload_n 0, 1) := by decide +kernel
theorem dX2_join_42 : decode cX2_join 42 = .ok (.dup, 1) := by decide +kernel
theorem dX2_join_43 : decode cX2_join 43 = .ok (.getfield 9, 3) := by decide +kernel
theorem dX2_join_46 : decode cX2_join 46 = .ok (.iload_n 2, 1) := by decide +kernel
theorem dX2_join_47 : decode cX2_join 47 = .ok (.iadd, 1) := by decide +kernel
theorem dX2_join_48 : decode cX2_join 48 = .ok (.putfield 9, 3) := by decide +kernel
theorem dX2_join_51 : decode cX2_join 51 = .ok (.aload_n 0, 1) := by decide +kernel
theorem dX2_join_52 : decode cX2_join 52 = .ok (.dup, 1) := by decide +kernel
theorem dX2_join_53 : decode cX2_join 53 = .ok (.getfield 18, 3) := by decide +kernel
theorem dX2_join_56 : decode cX2_join 56 = .ok (.iconst 1, 1) := by decide +kernel
theorem dX2_join_57 : decode cX2_join 57 = .ok (.iload_n 1, 1) := by decide +kernel
theorem dX2_join_58 : decode cX2_join 58 = .ok (.ishl, 1) := by decide +kernel
theorem dX2_join_59 : decode cX2_join 59 = .ok (.ior, 1) := by decide +kernel
theorem dX2_join_60 : decode cX2_join 60 = .ok (.putfield 18, 3) := by decide +kernel
theorem dX2_join_63 : decode cX2_join 63 = .ok (.return_, 1) := by decide +kernel
theorem dX3_init_0 : decode cX3_init 0 = .ok (.aload_n 0, 1) := by decide +kernel
theorem dX3_init_1 : decode cX3_init 1 = .ok (.invokespecial 3, 3) := by decide +kernel
theorem dX3_init_4 : decode cX3_init 4 = .ok (.aload_n 0, 1) := by decide +kernel
theorem dX3_init_5 : decode cX3_init 5 = .ok (.iconst 0, 1) := by decide +kernel
theorem dX3_init_6 : decode cX3_init 6 = .ok (.putfield 9, 3) := by decide +kernel
theorem dX3_init_9 : decode cX3_init 9 = .ok (.aload_n 0, 1) := by decide +kernel
theorem dX3_init_10 : decode cX3_init 10 = .ok (.sipush 200, 3) := by decide +kernel
theorem dX3_init_13 : decode cX3_init 13 = .ok (.putfield 15, 3) := by decide +kernel
theorem dX3_init_16 : decode cX3_init 16 = .ok (.aload_n 0, 1) := by decide +kernel
theorem dX3_init_17 : decode cX3_init 17 = .ok (.iconst 3, 1) := by decide +kernel
theorem dX3_init_18 : decode cX3_init 18 = .ok (.newarray .int, 2) := by decide +kernel
theorem dX3_init_20 : decode cX3_init 20 = .ok (.dup, 1) := by decide +kernel
theorem dX3_init_21 : decode cX3_init 21 = .ok (.iconst 0, 1) := by decide +kernel
theorem dX3_init_22 : decode cX3_init 22 = .ok (.bipush 60, 2) := by decide +kernel
theorem dX3_init_24 : decode cX3_init 24 = .ok (.iastore, 1) := by decide +kernel
theorem dX3_init_25 : decode cX3_init 25 = .ok (.dup, 1) := by decide +kernel
theorem dX3_init_26 : decode cX3_init 26 = .ok (.iconst 1, 1) := by decide +kernel
theorem dX3_init_27 : decode cX3_init 27 = .ok (.bipush 60, 2) := by decide +kernel
theorem dX3_init_29 : decode cX3_init 29 = .ok (.iastore, 1) := by decide +kernel
theorem dX3_init_30 : decode cX3_init 30 = .ok (.dup, 1) := by decide +kernel
theorem dX3_init_31 : decode cX3_init 31 = .ok (.iconst 2, 1) := by decide +kernel
theorem dX3_init_32 : decode cX3_init 32 = .ok (.bipush 60, 2) := by decide +kernel
theorem dX3_init_34 : decode cX3_init 34 = .ok (.iastore, 1) := by decide +kernel
theorem dX3_init_35 : decode cX3_init 35 = .ok (.putfield 18, 3) := by decide +kernel
theorem dX3_init_38 : decode cX3_init 38 = .ok (.aload_n 0, 1) := by decide +kernel
theorem dX3_init_39 : decode cX3_init 39 = .ok (.iconst 3, 1) := by decide +kernel
theorem dX3_init_40 : decode cX3_init 40 = .ok (.newarray .int, 2) := by decide +kernel
theorem dX3_init_42 : decode cX3_init 42 = .ok (.dup, 1) := by decide +kernel
theorem dX3_init_43 : decode cX3_init 43 = .ok (.iconst 0, 1) := by decide +kernel
theorem dX3_init_44 : decode cX3_init 44 = .ok (.bipush 12, 2) := by decide +kernel
theorem dX3_init_46 : decode cX3_init 46 = .ok (.iastore, 1) := by decide +kernel
theorem dX3_init_47 : decode cX3_init 47 = .ok (.dup, 1) := by decide +kernel
theorem dX3_init_48 : decode cX3_init 48 = .ok (.iconst 1, 1) := by decide +kernel
theorem dX3_init_49 : decode cX3_init 49 = .ok (.iconst 1, 1) := by decide +kernel
theorem dX3_init_50 : decode cX3_init 50 = .ok (.iastore, 1) := by decide +kernel
theorem dX3_init_51 : decode cX3_init 51 = .ok (.dup, 1) := by decide +kernel
theorem dX3_init_52 : decode cX3_init 52 = .ok (.iconst 2, 1) := by decide +kernel
theorem dX3_init_53 : decode cX3_init 53 = .ok (.bipush 50, 2) := by decide +kernel
theorem dX3_init_55 : decode cX3_init 55 = .ok (.iastore, 1) := by decide +kernel
theorem dX3_init_56 : decode cX3_init 56 = .ok (.putfield 22, 3) := by decide +kernel
theorem dX3_init_59 : decode cX3_init 59 = .ok (.aload_n 0, 1) := by decide +kernel
theorem dX3_init_60 : decode cX3_init 60 = .ok (.bipush 14, 2) := by decide +kernel
theorem dX3_init_62 : decode cX3_init 62 = .ok (.newarray .int, 2) := by decide +kernel
theorem dX3_init_64 : decode cX3_init 64 = .ok (.putfield 25, 3) := by decide +kernel
theorem dX3_init_67 : decode cX3_init 67 = .ok (.aload_n 0, 1) := by decide +kernel
theorem dX3_init_68 : decode cX3_init 68 = .ok (.bipush 14, 2) := by decide +kernel
theorem dX3_init_70 : decode cX3_init 70 = .ok (.newarray .int, 2) := by decide +kernel
theorem dX3_init_72 : decode cX3_init 72 = .ok (.putfield 28, 3) := by decide +kernel
theorem dX3_init_75 : decode cX3_init 75 = .ok (.aload_n 0, 1) := by decide +kernel
theorem dX3_init_76 : decode cX3_init 76 = .ok (.bipush 14, 2) := by decide +kernel
theorem dX3_init_78 : decode cX3_init 78 = .ok (.newarray .int, 2) := by decide +kernel
theorem dX3_init_80 : decode cX3_init 80 = .ok (.putfield 31, 3) := by decide +kernel
theorem dX3_init_83 : decode cX3_init 83 = .ok (.aload_n 0, 1) := by decide +kernel
theorem dX3_init_84 : decode cX3_init 84 = .ok (.bipush 14, 2) := by decide +kernel
theorem dX3_init_86 : decode cX3_init 86 = .ok (.newarray .int, 2) := by decide +kernel
theorem dX3_init_88 : decode cX3_init 88 = .ok (.putfield 34, 3) := by decide +kernel
theorem dX3_init_91 : decode cX3_init 91 = .ok (.aload_n 0, 1) := by decide +kernel
theorem dX3_init_92 : decode cX3_init 92 = .ok (.bipush 14, 2) := by decide +kernel
theorem dX3_init_94 : decode cX3_init 94 = .ok (.newarray .int, 2) := by decide +kernel
theorem dX3_init_96 : decode cX3_init 96 = .ok (.putfield 37, 3) := by decide +kernel
theorem dX3_init_99 : decode cX3_init 99 = .ok (.aload_n 0, 1) := by decide +kernel
theorem dX3_init_100 : decode cX3_init 100 = .ok (.bipush 14, 2) := by decide +kernel
theorem dX3_init_102 : decode cX3_init 102 = .ok (.newarray .int, 2) := by decide +kernel
theorem dX3_init_104 : decode cX3_init 104 = .ok (.putfield 40, 3) := by decide +kernel
theorem dX3_init_107 : decode cX3_init 107 = .ok (.aload_n 0, 1) := by decide +kernel
theorem dX3_init_108 : decode cX3_init 108 = .ok (.bipush 14, 2) := by decide +kernel
theorem dX3_init_110 : decode cX3_init 110 = .ok (.newarray .int, 2) := by decide +kernel
theorem dX3_init_112 : decode cX3_init 112 = .ok (.putfield 43, 3) := by decide +kernel
theorem dX3_init_115 : decode cX3_init 115 = .ok (.aload_n 0, 1) := by decide +kernel
theorem dX3_init_116 : decode cX3_init 116 = .ok (.bipush 14, 2) := by decide +kernel
theorem dX3_init_118 : decode cX3_init 118 = .ok (.newarray .int, 2) := by decide +kernel
theorem dX3_init_120 : decode cX3_init 120 = .ok (.putfield 46, 3) := by decide +kernel
theorem dX3_init_123 : decode cX3_init 123 = .ok (.aload_n 0, 1) := by decide +kernel
theorem dX3_init_124 : decode cX3_init 124 = .ok (.new 49, 3) := by decide +kernel
theorem dX3_init_127 : decode cX3_init 127 = .ok (.dup, 1) := by decide +kernel
theorem dX3_init_128 : decode cX3_init 128 = .ok (.invokespecial 51, 3) := by decide +kernel
theorem dX3_init_131 : decode cX3_init 131 = .ok (.putfield 52, 3) := by decide +kernel
theorem dX3_init_134 : decode cX3_init 134 = .ok (.return_, 1) := by decide +kernel
theorem dX3_copyFrom_0 : decode cX3_copyFrom 0 = .ok (.aload_n 0, 1) := by decide +kernel
theorem dX3_copyFrom_1 : decode cX3_copyFrom 1 = .ok (.aload_n 1, 1) := by decide +kernel
theorem dX3_copyFrom_2 : decode cX3_copyFrom 2 = .ok (.getfield 9, 3) := by decide +kernel
theorem dX3_copyFrom_5 : decode cX3_copyFrom 5 = .ok (.putfield 9, 3) := by decide +kernel
theorem dX3_copyFrom_8 : decode cX3_copyFrom 8 = .ok (.aload_n 0, 1) := by decide +kernel
theorem dX3_copyFrom_9 : decode cX3_copyFrom 9 = .ok (.aload_n 1, 1) := by decide +kernel
theorem dX3_copyFrom_10 : decode cX3_copyFrom 10 = .ok (.getfield 15, 3) := by decide +kernel
theorem dX3_copyFrom_13 : decode cX3_copyFrom 13 = .ok (.putfield 15, 3) := by decide +kernel
theorem dX3_copyFrom_16 : decode cX3_copyFrom 16 = .ok (.aload_n 0, 1) := by decide +kernel
theorem dX3_copyFrom_17 : decode cX3_copyFrom 17 = .ok (.aload_n 1, 1) := by decide +kernel
theorem dX3_copyFrom_18 : decode cX3_copyFrom 18 = .ok (.getfield 56, 3) := by decide +kernel
theorem dX3_copyFrom_21 : decode cX3_copyFrom 21 = .ok (.putfield 56, 3) := by decide +kernel
theorem dX3_copyFrom_24 : decode cX3_copyFrom 24 = .ok (.aload_n 0, 1) := by decide +kernel
theorem dX3_copyFrom_25 : decode cX3_copyFrom 25 = .ok (.aload_n 1, 1) := by decide +kernel
theorem dX3_copyFrom_26 : decode cX3_copyFrom 26 = .ok (.getfield 59, 3) := by decide +kernel
theorem dX3_copyFrom_29 : decode cX3_copyFrom 29 = .ok (.putfield 59, 3) := by decide +kernel
theorem dX3_copyFrom_32 : decode cX3_copyFrom 32 = .ok (.aload_n 0, 1) := by decide +kernel
theorem dX3_copyFrom_33 : decode cX3_copyFrom 33 = .ok (.aload_n 1, 1) := by decide +kernel
theorem dX3_copyFrom_34 : decode cX3_copyFrom 34 = .ok (.getfield 62, 3) := by decide +kernel
theorem dX3_copyFrom_37 : decode cX3_copyFrom 37 = .ok (.putfield 62, 3) := by decide +kernel
theorem dX3_copyFrom_40 : decode cX3_copyFrom 40 = .ok (.aload_n 0, 1) := by decide +kernel
theorem dX3_copyFrom_41 : decode cX3_copyFrom 41 = .ok (.aload_n 1, 1) := by decide +kernel
theorem dX3_copyFrom_42 : decode cX3_copyFrom 42 = .ok (.getfield 65, 3) := by decide +kernel
theorem dX3_copyFrom_45 : decode cX3_copyFrom 45 = .ok (.putfield 65, 3) := by decide +kernel
theorem dX3_copyFrom_48 : decode cX3_copyFrom 48 = .ok (.aload_n 1, 1) := by decide +kernel
theorem dX3_copyFrom_49 : decode cX3_copyFrom 49 = .ok (.getfield 18, 3) := by decide +kernel
theorem dX3_copyFrom_52 : decode cX3_copyFrom 52 = .ok (.iconst 0, 1) := by decide +kernel
theorem dX3_copyFrom_53 : decode cX3_copyFrom 53 = .ok (.aload_n 0, 1) := by decide +kernel
theorem dX3_copyFrom_54 : decode cX3_copyFrom 54 = .ok (.getfield 18, 3) := by decide +kernel
theorem dX3_copyFrom_57 : decode cX3_copyFrom 57 = .ok (.iconst 0, 1) := by decide +kernel
theorem dX3_copyFrom_58 : decode cX3_copyFrom 58 = .ok (.iconst 3, 1) := by decide +kernel
theorem dX3_copyFrom_59 : decode cX3_copyFrom 59 = .ok (.invokestatic 68, 3) := by decide +kernel
theorem dX3_copyFrom_62 : decode cX3_copyFrom 62 = .ok (.aload_n 1, 1) := by decide +kernel
theorem dX3_copyFrom_63 : decode cX3_copyFrom 63 = .ok (.getfield 22, 3) := by decide +kernel
theorem dX3_copyFrom_66 : decode cX3_copyFrom 66 = .ok (.iconst 0, 1) := by decide +kernel
theorem dX3_copyFrom_67 : decode cX3_copyFrom 67 = .ok (.aload_n 0, 1) := by decide +kernel
theorem dX3_copyFrom_68 : decode cX3_copyFrom 68 = .ok (.getfield 22, 3) := by decide +kernel
theorem dX3_copyFrom_71 : decode cX3_copyFrom 71 = .ok (.iconst 0, 1) := by decide +kernel
theorem dX3_copyFrom_72 : decode cX3_copyFrom 72 = .ok (.iconst 3, 1) := by decide +kernel
theorem dX3_copyFrom_73 : decode cX3_copyFrom 73 = .ok (.invokestatic 68, 3) := by decide +kernel
theorem dX3_copyFrom_76 : decode cX3_copyFrom 76 = .ok (.aload_n 1, 1) := by decide +kernel
theorem dX3_copyFrom_77 : decode cX3_copyFrom 77 = .ok (.getfield 25, 3) := by decide +kernel
theorem dX3_copyFrom_80 : decode cX3_copyFrom 80 = .ok (.iconst 0, 1) := by decide +kernel
theorem dX3_copyFrom_81 : decode cX3_copyFrom 81 = .ok (.aload_n 0, 1) := by decide +kernel
theorem dX3_copyFrom_82 : decode cX3_copyFrom 82 = .ok (.getfield 25, 3) := by decide +kernel
theorem dX3_copyFrom_85 : decode cX3_copyFrom 85 = .ok (.iconst 0, 1) := by decide +kernel
theorem dX3_copyFrom_86 : decode cX3_copyFrom 86 = .ok (.bipush 14, 2) := by decide +kernel
theorem dX3_copyFrom_88 : decode cX3_copyFrom 88 = .ok (.invokestatic 68, 3) := by decide +kernel
theorem dX3_copyFrom_91 : decode cX3_copyFrom 91 = .ok (.aload_n 1, 1) := by decide +kernel
theorem dX3_copyFrom_92 : decode cX3_copyFrom 92 = .ok (.getfield 28, 3) := by decide +kernel
theorem dX3_copyFrom_95 : decode cX3_copyFrom 95 = .ok (.iconst 0, 1) := by decide +kernel
theorem dX3_copyFrom_96 : decode cX3_copyFrom 96 = .ok (.aload_n 0, 1) := by decide +kernel
theorem dX3_copyFrom_97 : decode cX3_copyFrom 97 = .ok (.getfield 28, 3) := by decide +kernel
theorem dX3_copyFrom_100 : decode cX3_copyFrom 100 = .ok (.iconst 0, 1) := by decide +kernel
theorem dX3_copyFrom_101 : decode cX3_copyFrom 101 = .ok (.bipush 14, 2) := by decide +kernel
theorem dX3_copyFrom_103 : decode cX3_copyFrom 103 = .ok (.invokestatic 68, 3) := by decide +kernel
theorem dX3_copyFrom_106 : decode cX3_copyFrom 106 = .ok (.aload_n 1, 1) := by decide +kernel
theorem dX3_copyFrom_107 : decode cX3_copyFrom 107 = .ok (.getfield 31, 3) := by decide +kernel
theorem dX3_copyFrom_110 : decode cX3_copyFrom 110 = .ok (.iconst 0, 1) := by decide +kernel
theorem dX3_copyFrom_111 : decode cX3_copyFrom 111 = .ok (.aload_n 0, 1) := by decide +kernel
theorem dX3_copyFrom_112 : decode cX3_copyFrom 112 = .ok (.getfield 31, 3) := by decide +kernel
theorem dX3_copyFrom_115 : decode cX3_copyFrom 115 = .ok (.iconst 0, 1) := by decide +kernel
theorem dX3_copyFrom_116 : decode cX3_copyFrom 116 = .ok (.bipush 14, 2) := by decide +kernel
theorem dX3_copyFrom_118 : decode cX3_copyFrom 118 = .ok (.invokestatic 68, 3) := by decide +kernel
theorem dX3_copyFrom_121 : decode cX3_copyFrom 121 = .ok (.aload_n 1, 1) := by decide +kernel
theorem dX3_copyFrom_122 : decode cX3_copyFrom 122 = .ok (.getfield 34, 3) := by decide +kernel
theorem dX3_copyFrom_125 : decode cX3_copyFrom 125 = .ok (.iconst 0, 1) := by decide +kernel
theorem dX3_copyFrom_126 : decode cX3_copyFrom 126 = .ok (.aload_n 0, 1) := by decide +kernel
theorem dX3_copyFrom_127 : decode cX3_copyFrom 127 = .ok (.getfield 34, 3) := by decide +kernel
theorem dX3_copyFrom_130 : decode cX3_copyFrom 130 = .ok (.iconst 0, 1) := by decide +kernel
theorem dX3_copyFrom_131 : decode cX3_copyFrom 131 = .ok (.bipush 14, 2) := by decide +kernel
theorem dX3_copyFrom_133 : decode cX3_copyFrom 133 = .ok (.invokestatic 68, 3) := by decide +kernel
theorem dX3_copyFrom_136 : decode cX3_copyFrom 136 = .ok (.aload_n 1, 1) := by decide +kernel
theorem dX3_copyFrom_137 : decode cX3_copyFrom 137 = .ok (.getfield 37, 3) := by decide +kernel
theorem dX3_copyFrom_140 : decode cX3_copyFrom 140 = .ok (.iconst 0, 1) := by decide +kernel
theorem dX3_copyFrom_141 : decode cX3_copyFrom 141 = .ok (.aload_n 0, 1) := by decide +kernel
theorem dX3_copyFrom_142 : decode cX3_copyFrom 142 = .ok (.getfield 37, 3) := by decide +kernel
theorem dX3_copyFrom_145 : decode cX3_copyFrom 145 = .ok (.iconst 0, 1) := by decide +kernel
theorem dX3_copyFrom_146 : decode cX3_copyFrom 146 = .ok (.bipush 14, 2) := by decide +kernel
theorem dX3_copyFrom_148 : decode cX3_copyFrom 148 = .ok (.invokestatic 68, 3) := by decide +kernel
theorem dX3_copyFrom_151 : decode cX3_copyFrom 151 = .ok (.aload_n 1, 1) := by decide +kernel
theorem dX3_copyFrom_152 : decode cX3_copyFrom 152 = .ok (.getfield 40, 3) := by decide +kernel
theorem dX3_copyFrom_155 : decode cX3_copyFrom 155 = .ok (.iconst 0, 1) := by decide +kernel
theorem dX3_copyFrom_156 : decode cX3_copyFrom 156 = .ok (.aload_n 0, 1) := by decide +kernel
theorem dX3_copyFrom_157 : decode cX3_copyFrom 157 = .ok (.getfield 40, 3) := by decide +kernel
theorem dX3_copyFrom_160 : decode cX3_copyFrom 160 = .ok (.iconst 0, 1) := by decide +kernel
theorem dX3_copyFrom_161 : decode cX3_copyFrom 161 = .ok (.bipush 14, 2) := by decide +kernel
theorem dX3_copyFrom_163 : decode cX3_copyFrom 163 = .ok (.invokestatic 68, 3) := by decide +kernel
theorem dX3_copyFrom_166 : decode cX3_copyFrom 166 = .ok (.aload_n 1, 1) := by decide +kernel
theorem dX3_copyFrom_167 : decode cX3_copyFrom 167 = .ok (.getfield 43, 3) := by decide +kernel
theorem dX3_copyFrom_170 : decode cX3_copyFrom 170 = .ok (.iconst 0, 1) := by decide +kernel
theorem dX3_copyFrom_171 : decode cX3_copyFrom 171 = .ok (.aload_n 0, 1) := by decide +kernel
theorem dX3_copyFrom_172 : decode cX3_copyFrom 172 = .ok (.getfield 43, 3) := by decide +kernel
theorem dX3_copyFrom_175 : decode cX3_copyFrom 175 = .ok (.iconst 0, 1) := by decide +kernel
theorem dX3_copyFrom_176 : decode cX3_copyFrom 176 = .ok (.bipush 14, 2) := by decide +kernel
theorem dX3_copyFrom_178 : decode cX3_copyFrom 178 = .ok (.invokestatic 68, 3) := by decide +kernel
theorem dX3_copyFrom_181 : decode cX3_copyFrom 181 = .ok (.aload_n 1, 1) := by decide +kernel
theorem dX3_copyFrom_182 : decode cX3_copyFrom 182 = .ok (.getfield 46, 3) := by decide +kernel
theorem dX3_copyFrom_185 : decode cX3_copyFrom 185 = .ok (.iconst 0, 1) := by decide +kernel
theorem dX3_copyFrom_186 : decode cX3_copyFrom 186 = .ok (.aload_n 0, 1) := by decide +kernel
theorem dX3_copyFrom_187 : decode cX3_copyFrom 187 = .ok (.getfield 46, 3) := by decide +kernel
theorem dX3_copyFrom_190 : decode cX3_copyFrom 190 = .ok (.iconst 0, 1) := by decide +kernel
theorem dX3_copyFrom_191 : decode cX3_copyFrom 191 = .ok (.bipush 14, 2) := by decide +kernel
theorem dX3_copyFrom_193 : decode cX3_copyFrom 193 = .ok (.invokestatic 68, 3) := by decide +kernel
theorem dX3_copyFrom_196 : decode cX3_copyFrom 196 = .ok (.return_, 1) := by decide +kernel
theorem dX3_isGone_0 : decode cX3_isGone 0 = .ok (.aload_n 0, 1) := by decide +kernel
theorem dX3_isGone_1 : decode cX3_isGone 1 = .ok (.getfield 43, 3) := by decide +kernel
theorem dX3_isGone_4 : decode cX3_isGone 4 = .ok (.iload_n 1, 1) := by decide +kernel
theorem dX3_isGone_5 : decode cX3_isGone 5 = .ok (.iaload, 1) := by decide +kernel
theorem dX3_isGone_6 : decode cX3_isGone 6 = .ok (.iconst (-1), 1) := by decide +kernel
theorem dX3_isGone_7 : decode cX3_isGone 7 = .ok (.if_icmp .ne 7, 3) := by decide +kernel
theorem dX3_isGone_10 : decode cX3_isGone 10 = .ok (.iconst 1, 1) := by decide +kernel
theorem dX3_isGone_11 : decode cX3_isGone 11 = .ok (.goto 4, 3) := by decide +kernel
theorem dX3_isGone_14 : decode cX3_isGone 14 = .ok (.iconst 0, 1) := by decide +kernel
theorem dX3_isGone_15 : decode cX3_isGone 15 = .ok (.ireturn, 1) := by decide +kernel
theorem dX3_isLent_0 : decode cX3_isLent 0 = .ok (.aload_n 0, 1) := by decide +kernel
theorem dX3_isLent_1 : decode cX3_isLent 1 = .ok (.getfield 43, 3) := by decide +kernel
theorem dX3_isLent_4 : decode cX3_isLent 4 = .ok (.iload_n 1, 1) := by decide +kernel
theorem dX3_isLent_5 : decode cX3_isLent 5 = .ok (.iaload, 1) := by decide +kernel
theorem dX3_isLent_6 : decode cX3_isLent 6 = .ok (.iconst 4, 1) := by decide +kernel
theorem dX3_isLent_7 : decode cX3_isLent 7 = .ok (.if_icmp .ne 7, 3) := by decide +kernel
theorem dX3_isLent_10 : decode cX3_isLent 10 = .ok (.iconst 1, 1) := by decide +kernel
theorem dX3_isLent_11 : decode cX3_isLent 11 = .ok (.goto 4, 3) := by decide +kernel
theorem dX3_isLent_14 : decode cX3_isLent 14 = .ok (.iconst 0, 1) := by decide +kernel
theorem dX3_isLent_15 : decode cX3_isLent 15 = .ok (.ireturn, 1) := by decide +kernel
theorem dX3_isOnTruck_0 : decode cX3_isOnTruck 0 = .ok (.aload_n 0, 1) := by decide +kernel
theorem dX3_isOnTruck_1 : decode cX3_isOnTruck 1 = .ok (.getfield 43, 3) := by decide +kernel
theorem dX3_isOnTruck_4 : decode cX3_isOnTruck 4 = .ok (.iload_n 1, 1) := by decide +kernel
theorem dX3_isOnTruck_5 : decode cX3_isOnTruck 5 = .ok (.iaload, 1) := by decide +kernel
theorem dX3_isOnTruck_6 : decode cX3_isOnTruck 6 = .ok (.iconst 0, 1) := by decide +kernel
theorem dX3_isOnTruck_7 : decode cX3_isOnTruck 7 = .ok (.iconst 2, 1) := by decide +kernel
theorem dX3_isOnTruck_8 : decode cX3_isOnTruck 8 = .ok (.invokestatic 74, 3) := by decide +kernel
theorem dX3_isOnTruck_11 : decode cX3_isOnTruck 11 = .ok (.ireturn, 1) := by decide +kernel
theorem dX3_isReady_0 : decode cX3_isReady 0 = .ok (.aload_n 0, 1) := by decide +kernel
theorem dX3_isReady_1 : decode cX3_isReady 1 = .ok (.iload_n 1, 1) := by decide +kernel
theorem dX3_isReady_2 : decode cX3_isReady 2 = .ok (.invokevirtual 78, 3) := by decide +kernel
theorem dX3_isReady_5 : decode cX3_isReady 5 = .ok (.ifCond .ne 7, 3) := by decide +kernel
theorem dX3_isReady_8 : decode cX3_isReady 8 = .ok (.iconst 1, 1) := by decide +kernel
theorem dX3_isReady_9 : decode cX3_isReady 9 = .ok (.goto 4, 3) := by decide +kernel
theorem dX3_isReady_12 : decode cX3_isReady 12 = .ok (.iconst 0, 1) := by decide +kernel
theorem dX3_isReady_13 : decode cX3_isReady 13 = .ok (.ireturn, 1) := by decide +kernel
theorem dX3_reasonOf_0 : decode cX3_reasonOf 0 = .ok (.aload_n 0, 1) := by decide +kernel
theorem dX3_reasonOf_1 : decode cX3_reasonOf 1 = .ok (.iload_n 1, 1) := by decide +kernel
theorem dX3_reasonOf_2 : decode cX3_reasonOf 2 = .ok (.invokevirtual 82, 3) := by decide +kernel
theorem dX3_reasonOf_5 : decode cX3_reasonOf 5 = .ok (.ifCond .eq 5, 3) := by decide +kernel
theorem dX3_reasonOf_8 : decode cX3_reasonOf 8 = .ok (.iconst 1, 1) := by decide +kernel
theorem dX3_reasonOf_9 : decode cX3_reasonOf 9 = .ok (.ireturn, 1) := by decide +kernel
theorem dX3_reasonOf_10 : decode cX3_reasonOf 10 = .ok (.aload_n 0, 1) := by decide +kernel
theorem dX3_reasonOf_11 : decode cX3_reasonOf 11 = .ok (.iload_n 1, 1) := by decide +kernel
theorem dX3_reasonOf_12 : decode cX3_reasonOf 12 = .ok (.invokevirtual 86, 3) := by decide +kernel
theorem dX3_reasonOf_15 : decode cX3_reasonOf 15 = .ok (.ifCond .eq 5, 3) := by decide +kernel
theorem dX3_reasonOf_18 : decode cX3_reasonOf 18 = .ok (.iconst 2, 1) := by decide +kernel
theorem dX3_reasonOf_19 : decode cX3_reasonOf 19 = .ok (.ireturn, 1) := by decide +kernel
theorem dX3_reasonOf_20 : decode cX3_reasonOf 20 = .ok (.aload_n 0, 1) := by decide +kernel
theorem dX3_reasonOf_21 : decode cX3_reasonOf 21 = .ok (.getfield 9, 3) := by decide +kernel
theorem dX3_reasonOf_24 : decode cX3_reasonOf 24 = .ok (.aload_n 0, 1) := by decide +kernel
theorem dX3_reasonOf_25 : decode cX3_reasonOf 25 = .ok (.getfield 34, 3) := by decide +kernel
theorem dX3_reasonOf_28 : decode cX3_reasonOf 28 = .ok (.iload_n 1, 1) := by decide +kernel
theorem dX3_reasonOf_29 : decode cX3_reasonOf 29 = .ok (.iaload, 1) := by decide +kernel
theorem dX3_reasonOf_30 : decode cX3_reasonOf 30 = .ok (.isub, 1) := by decide +kernel
theorem dX3_reasonOf_31 : decode cX3_reasonOf 31 = .ok (.aload_n 0, 1) := by decide +kernel
theorem dX3_reasonOf_32 : decode cX3_reasonOf 32 = .ok (.getfield 25, 3) := by decide +kernel
theorem dX3_reasonOf_35 : decode cX3_reasonOf 35 = .ok (.iload_n 1, 1) := by decide +kernel
theorem dX3_reasonOf_36 : decode cX3_reasonOf 36 = .ok (.iaload, 1) := by decide +kernel
theorem dX3_reasonOf_37 : decode cX3_reasonOf 37 = .ok (.invokestatic 89, 3) := by decide +kernel
theorem dX3_reasonOf_40 : decode cX3_reasonOf 40 = .ok (.if_icmp .le 5, 3) := by decide +kernel
theorem dX3_reasonOf_43 : decode cX3_reasonOf 43 = .ok (.iconst 3, 1) := by decide +kernel
theorem dX3_reasonOf_44 : decode cX3_reasonOf 44 = .ok (.ireturn, 1) := by decide +kernel
theorem dX3_reasonOf_45 : decode cX3_reasonOf 45 = .ok (.aload_n 0, 1) := by decide +kernel
theorem dX3_reasonOf_46 : decode cX3_reasonOf 46 = .ok (.getfield 40, 3) := by decide +kernel
theorem dX3_reasonOf_49 : decode cX3_reasonOf 49 = .ok (.iload_n 1, 1) := by decide +kernel
theorem dX3_reasonOf_50 : decode cX3_reasonOf 50 = .ok (.iaload, 1) := by decide +kernel
theorem dX3_reasonOf_51 : decode cX3_reasonOf 51 = .ok (.iconst (-1), 1) := by decide +kernel
theorem dX3_reasonOf_52 : decode cX3_reasonOf 52 = .ok (.if_icmp .eq 16, 3) := by decide +kernel
theorem dX3_reasonOf_55 : decode cX3_reasonOf 55 = .ok (.aload_n 0, 1) := by decide +kernel
theorem dX3_reasonOf_56 : decode cX3_reasonOf 56 = .ok (.getfield 9, 3) := by decide +kernel
theorem dX3_reasonOf_59 : decode cX3_reasonOf 59 = .ok (.aload_n 0, 1) := by decide +kernel
theorem dX3_reasonOf_60 : decode cX3_reasonOf 60 = .ok (.getfield 40, 3) := by decide +kernel
theorem dX3_reasonOf_63 : decode cX3_reasonOf 63 = .ok (.iload_n 1, 1) := by decide +kernel
theorem dX3_reasonOf_64 : decode cX3_reasonOf 64 = .ok (.iaload, 1) := by decide +kernel
theorem dX3_reasonOf_65 : decode cX3_reasonOf 65 = .ok (.if_icmp .le 7, 3) := by decide +kernel
theorem dX3_reasonOf_68 : decode cX3_reasonOf 68 = .ok (.iconst 4, 1) := by decide +kernel
theorem dX3_reasonOf_69 : decode cX3_reasonOf 69 = .ok (.goto 4, 3) := by decide +kernel
theorem dX3_reasonOf_72 : decode cX3_reasonOf 72 = .ok (.iconst 0, 1) := by decide +kernel
theorem dX3_reasonOf_73 : decode cX3_reasonOf 73 = .ok (.ireturn, 1) := by decide +kernel
theorem dX3_strengthAt_0 : decode cX3_strengthAt 0 = .ok (.aload_n 0, 1) := by decide +kernel
theorem dX3_strengthAt_1 : decode cX3_strengthAt 1 = .ok (.getfield 25, 3) := by decide +kernel
theorem dX3_strengthAt_4 : decode cX3_strengthAt 4 = .ok (.iload_n 1, 1) := by decide +kernel
theorem dX3_strengthAt_5 : decode cX3_strengthAt 5 = .ok (.iaload, 1) := by decide +kernel
theorem dX3_strengthAt_6 : decode cX3_strengthAt 6 = .ok (.iload_n 2, 1) := by decide +kernel
theorem dX3_strengthAt_7 : decode cX3_strengthAt 7 = .ok (.aload_n 0, 1) := by decide +kernel
theorem dX3_strengthAt_8 : decode cX3_strengthAt 8 = .ok (.getfield 9, 3) := by decide +kernel
theorem dX3_strengthAt_11 : decode cX3_strengthAt 11 = .ok (.aload_n 0, 1) := by decide +kernel
theorem dX3_strengthAt_12 : decode cX3_strengthAt 12 = .ok (.getfield 34, 3) := by decide +kernel
theorem dX3_strengthAt_15 : decode cX3_strengthAt 15 = .ok (.iload_n 1, 1) := by decide +kernel
theorem dX3_strengthAt_16 : decode cX3_strengthAt 16 = .ok (.iaload, 1) := by decide +kernel
theorem dX3_strengthAt_17 : decode cX3_strengthAt 17 = .ok (.isub, 1) := by decide +kernel
theorem dX3_strengthAt_18 : decode cX3_strengthAt 18 = .ok (.bipush 100, 2) := by decide +kernel
theorem dX3_strengthAt_20 : decode cX3_strengthAt 20 = .ok (.idiv, 1) := by decide +kernel
theorem dX3_strengthAt_21 : decode cX3_strengthAt 21 = .ok (.invokestatic 94, 3) := by decide +kernel
theorem dX3_strengthAt_24 : decode cX3_strengthAt 24 = .ok (.ireturn, 1) := by decide +kernel
theorem dX3_priceOf_0 : decode cX3_priceOf 0 = .ok (.aload_n 0, 1) := by decide +kernel
theorem dX3_priceOf_1 : decode cX3_priceOf 1 = .ok (.getfield 25, 3) := by decide +kernel
theorem dX3_priceOf_4 : decode cX3_priceOf 4 = .ok (.iload_n 1, 1) := by decide +kernel
theorem dX3_priceOf_5 : decode cX3_priceOf 5 = .ok (.iaload, 1) := by decide +kernel
theorem dX3_priceOf_6 : decode cX3_priceOf 6 = .ok (.aload_n 0, 1) := by decide +kernel
theorem dX3_priceOf_7 : decode cX3_priceOf 7 = .ok (.getfield 28, 3) := by decide +kernel
theorem dX3_priceOf_10 : decode cX3_priceOf 10 = .ok (.iload_n 1, 1) := by decide +kernel
theorem dX3_priceOf_11 : decode cX3_priceOf 11 = .ok (.iaload, 1) := by decide +kernel
theorem dX3_priceOf_12 : decode cX3_priceOf 12 = .ok (.invokestatic 98, 3) := by decide +kernel
theorem dX3_priceOf_15 : decode cX3_priceOf 15 = .ok (.ireturn, 1) := by decide +kernel
theorem dX3_canBuy_0 : decode cX3_canBuy 0 = .ok (.aload_n 0, 1) := by decide +kernel
theorem dX3_canBuy_1 : decode cX3_canBuy 1 = .ok (.getfield 56, 3) := by decide +kernel
theorem dX3_canBuy_4 : decode cX3_canBuy 4 = .ok (.bipush 14, 2) := by decide +kernel
theorem dX3_canBuy_6 : decode cX3_canBuy 6 = .ok (.if_icmp .ge 19, 3) := by decide +kernel
theorem dX3_canBuy_9 : decode cX3_canBuy 9 = .ok (.iload_n 1, 1) := by decide +kernel
theorem dX3_canBuy_10 : decode cX3_canBuy 10 = .ok (.iload_n 2, 1) := by decide +kernel
theorem dX3_canBuy_11 : decode cX3_canBuy 11 = .ok (.invokestatic 98, 3) := by decide +kernel
theorem dX3_canBuy_14 : decode cX3_canBuy 14 = .ok (.aload_n 0, 1) := by decide +kernel
theorem dX3_canBuy_15 : decode cX3_canBuy 15 = .ok (.getfield 15, 3) := by decide +kernel
theorem dX3_canBuy_18 : decode cX3_canBuy 18 = .ok (.if_icmp .gt 7, 3) := by decide +kernel
theorem dX3_canBuy_21 : decode cX3_canBuy 21 = .ok (.iconst 1, 1) := by decide +kernel
theorem dX3_canBuy_22 : decode cX3_canBuy 22 = .ok (.goto 4, 3) := by decide +kernel
theorem dX3_canBuy_25 : decode cX3_canBuy 25 = .ok (.iconst 0, 1) := by decide +kernel
theorem dX3_canBuy_26 : decode cX3_canBuy 26 = .ok (.ireturn, 1) := by decide +kernel
theorem dX3_addHose_0 : decode cX3_addHose 0 = .ok (.aload_n 0, 1) := by decide +kernel
theorem dX3_addHose_1 : decode cX3_addHose 1 = .ok (.getfield 56, 3) := by decide +kernel
theorem dX3_addHose_4 : decode cX3_addHose 4 = .ok (.istore 5, 2) := by decide +kernel
theorem dX3_addHose_6 : decode cX3_addHose 6 = .ok (.aload_n 0, 1) := by decide +kernel
theorem dX3_addHose_7 : decode cX3_addHose 7 = .ok (.getfield 25, 3) := by decide +kernel
theorem dX3_addHose_10 : decode cX3_addHose 10 = .ok (.iload 5, 2) := by decide +kernel
theorem dX3_addHose_12 : decode cX3_addHose 12 = .ok (.iload_n 1, 1) := by decide +kernel
theorem dX3_addHose_13 : decode cX3_addHose 13 = .ok (.iastore, 1) := by decide +kernel
theorem dX3_addHose_14 : decode cX3_addHose 14 = .ok (.aload_n 0, 1) := by decide +kernel
theorem dX3_addHose_15 : decode cX3_addHose 15 = .ok (.getfield 28, 3) := by decide +kernel
theorem dX3_addHose_18 : decode cX3_addHose 18 = .ok (.iload 5, 2) := by decide +kernel
theorem dX3_addHose_20 : decode cX3_addHose 20 = .ok (.iload_n 2, 1) := by decide +kernel
theorem dX3_addHose_21 : decode cX3_addHose 21 = .ok (.iastore, 1) := by decide +kernel
theorem dX3_addHose_22 : decode cX3_addHose 22 = .ok (.aload_n 0, 1) := by decide +kernel
theorem dX3_addHose_23 : decode cX3_addHose 23 = .ok (.getfield 31, 3) := by decide +kernel
theorem dX3_addHose_26 : decode cX3_addHose 26 = .ok (.iload 5, 2) := by decide +kernel
theorem dX3_addHose_28 : decode cX3_addHose 28 = .ok (.iload_n 3, 1) := by decide +kernel
theorem dX3_addHose_29 : decode cX3_addHose 29 = .ok (.iastore, 1) := by decide +kernel
theorem dX3_addHose_30 : decode cX3_addHose 30 = .ok (.aload_n 0, 1) := by decide +kernel
theorem dX3_addHose_31 : decode cX3_addHose 31 = .ok (.getfield 34, 3) := by decide +kernel
theorem dX3_addHose_34 : decode cX3_addHose 34 = .ok (.iload 5, 2) := by decide +kernel
theorem dX3_addHose_36 : decode cX3_addHose 36 = .ok (.aload_n 0, 1) := by decide +kernel
theorem dX3_addHose_37 : decode cX3_addHose 37 = .ok (.getfield 9, 3) := by decide +kernel
theorem dX3_addHose_40 : decode cX3_addHose 40 = .ok (.iastore, 1) := by decide +kernel
theorem dX3_addHose_41 : decode cX3_addHose 41 = .ok (.aload_n 0, 1) := by decide +kernel
theorem dX3_addHose_42 : decode cX3_addHose 42 = .ok (.getfield 37, 3) := by decide +kernel
theorem dX3_addHose_45 : decode cX3_addHose 45 = .ok (.iload 5, 2) := by decide +kernel
theorem dX3_addHose_47 : decode cX3_addHose 47 = .ok (.iconst 0, 1) := by decide +kernel
theorem dX3_addHose_48 : decode cX3_addHose 48 = .ok (.iastore, 1) := by decide +kernel
theorem dX3_addHose_49 : decode cX3_addHose 49 = .ok (.aload_n 0, 1) := by decide +kernel
theorem dX3_addHose_50 : decode cX3_addHose 50 = .ok (.getfield 40, 3) := by decide +kernel
theorem dX3_addHose_53 : decode cX3_addHose 53 = .ok (.iload 5, 2) := by decide +kernel
theorem dX3_addHose_55 : decode cX3_addHose 55 = .ok (.iconst (-1), 1) := by decide +kernel
theorem dX3_addHose_56 : decode cX3_addHose 56 = .ok (.iastore, 1) := by decide +kernel
theorem dX3_addHose_57 : decode cX3_addHose 57 = .ok (.aload_n 0, 1) := by decide +kernel
theorem dX3_addHose_58 : decode cX3_addHose 58 = .ok (.getfield 43, 3) := by decide +kernel
theorem dX3_addHose_61 : decode cX3_addHose 61 = .ok (.iload 5, 2) := by decide +kernel
theorem dX3_addHose_63 : decode cX3_addHose 63 = .ok (.iload 4, 2) := by decide +kernel
theorem dX3_addHose_65 : decode cX3_addHose 65 = .ok (.iastore, 1) := by decide +kernel
theorem dX3_addHose_66 : decode cX3_addHose 66 = .ok (.aload_n 0, 1) := by decide +kernel
theorem dX3_addHose_67 : decode cX3_addHose 67 = .ok (.getfield 46, 3) := by decide +kernel
theorem dX3_addHose_70 : decode cX3_addHose 70 = .ok (.iload 5, 2) := by decide +kernel
theorem dX3_addHose_72 : decode cX3_addHose 72 = .ok (.iconst (-1), 1) := by decide +kernel
theorem dX3_addHose_73 : decode cX3_addHose 73 = .ok (.iastore, 1) := by decide +kernel
theorem dX3_addHose_74 : decode cX3_addHose 74 = .ok (.aload_n 0, 1) := by decide +kernel
theorem dX3_addHose_75 : decode cX3_addHose 75 = .ok (.dup, 1) := by decide +kernel
theorem dX3_addHose_76 : decode cX3_addHose 76 = .ok (.getfield 56, 3) := by decide +kernel
theorem dX3_addHose_79 : decode cX3_addHose 79 = .ok (.iconst 1, 1) := by decide +kernel
theorem dX3_addHose_80 : decode cX3_addHose 80 = .ok (.iadd, 1) := by decide +kernel
theorem dX3_addHose_81 : decode cX3_addHose 81 = .ok (.putfield 56, 3) := by decide +kernel
theorem dX3_addHose_84 : decode cX3_addHose 84 = .ok (.aload_n 0, 1) := by decide +kernel
theorem dX3_addHose_85 : decode cX3_addHose 85 = .ok (.dup, 1) := by decide +kernel
theorem dX3_addHose_86 : decode cX3_addHose 86 = .ok (.getfield 15, 3) := by decide +kernel
theorem dX3_addHose_89 : decode cX3_addHose 89 = .ok (.aload_n 0, 1) := by decide +kernel
theorem dX3_addHose_90 : decode cX3_addHose 90 = .ok (.iload 5, 2) := by decide +kernel
theorem dX3_addHose_92 : decode cX3_addHose 92 = .ok (.invokevirtual 102, 3) := by decide +kernel
theorem dX3_addHose_95 : decode cX3_addHose 95 = .ok (.isub, 1) := by decide +kernel
theorem dX3_addHose_96 : decode cX3_addHose 96 = .ok (.putfield 15, 3) := by decide +kernel
theorem dX3_addHose_99 : decode cX3_addHose 99 = .ok (.aload_n 0, 1) := by decide +kernel
theorem dX3_addHose_100 : decode cX3_addHose 100 = .ok (.dup, 1) := by decide +kernel
theorem dX3_addHose_101 : decode cX3_addHose 101 = .ok (.getfield 65, 3) := by decide +kernel
theorem dX3_addHose_104 : decode cX3_addHose 104 = .ok (.aload_n 0, 1) := by decide +kernel
theorem dX3_addHose_105 : decode cX3_addHose 105 = .ok (.iload 5, 2) := by decide +kernel
theorem dX3_addHose_107 : decode cX3_addHose 107 = .ok (.invokevirtual 102, 3) := by decide +kernel
theorem dX3_addHose_110 : decode cX3_addHose 110 = .ok (.iadd, 1) := by decide +kernel
theorem dX3_addHose_111 : decode cX3_addHose 111 = .ok (.putfield 65, 3) := by decide +kernel
theorem dX3_addHose_114 : decode cX3_addHose 114 = .ok (.iload 5, 2) := by decide +kernel
theorem dX3_addHose_116 : decode cX3_addHose 116 = .ok (.ireturn, 1) := by decide +kernel
theorem dX3_replaceHose_0 : decode cX3_replaceHose 0 = .ok (.aload_n 0, 1) := by decide +kernel
theorem dX3_replaceHose_1 : decode cX3_replaceHose 1 = .ok (.getfield 43, 3) := by decide +kernel
theorem dX3_replaceHose_4 : decode cX3_replaceHose 4 = .ok (.iload_n 1, 1) := by decide +kernel
theorem dX3_replaceHose_5 : decode cX3_replaceHose 5 = .ok (.iaload, 1) := by decide +kernel
theorem dX3_replaceHose_6 : decode cX3_replaceHose 6 = .ok (.istore_n 2, 1) := by decide +kernel
theorem dX3_replaceHose_7 : decode cX3_replaceHose 7 = .ok (.aload_n 0, 1) := by decide +kernel
theorem dX3_replaceHose_8 : decode cX3_replaceHose 8 = .ok (.getfield 43, 3) := by decide +kernel
theorem dX3_replaceHose_11 : decode cX3_replaceHose 11 = .ok (.iload_n 1, 1) := by decide +kernel
theorem dX3_replaceHose_12 : decode cX3_replaceHose 12 = .ok (.iconst (-1), 1) := by decide +kernel
theorem dX3_replaceHose_13 : decode cX3_replaceHose 13 = .ok (.iastore, 1) := by decide +kernel
theorem dX3_replaceHose_14 : decode cX3_replaceHose 14 = .ok (.aload_n 0, 1) := by decide +kernel
theorem dX3_replaceHose_15 : decode cX3_replaceHose 15 = .ok (.aload_n 0, 1) := by decide +kernel
theorem dX3_replaceHose_16 : decode cX3_replaceHose 16 = .ok (.getfield 25, 3) := by decide +kernel
theorem dX3_replaceHose_19 : decode cX3_replaceHose 19 = .ok (.iload_n 1, 1) := by decide +kernel
theorem dX3_replaceHose_20 : decode cX3_replaceHose 20 = .ok (.iaload, 1) := by decide +kernel
theorem dX3_replaceHose_21 : decode cX3_replaceHose 21 = .ok (.aload_n 0, 1) := by decide +kernel
theorem dX3_replaceHose_22 : decode cX3_replaceHose 22 = .ok (.getfield 28, 3) := by decide +kernel
theorem dX3_replaceHose_25 : decode cX3_replaceHose 25 = .ok (.iload_n 1, 1) := by decide +kernel
theorem dX3_replaceHose_26 : decode cX3_replaceHose 26 = .ok (.iaload, 1) := by decide +kernel
theorem dX3_replaceHose_27 : decode cX3_replaceHose 27 = .ok (.aload_n 0, 1) := by decide +kernel
theorem dX3_replaceHose_28 : decode cX3_replaceHose 28 = .ok (.getfield 31, 3) := by decide +kernel
theorem dX3_replaceHose_31 : decode cX3_replaceHose 31 = .ok (.iload_n 1, 1) := by decide +kernel
theorem dX3_replaceHose_32 : decode cX3_replaceHose 32 = .ok (.iaload, 1) := by decide +kernel
theorem dX3_replaceHose_33 : decode cX3_replaceHose 33 = .ok (.iload_n 2, 1) := by decide +kernel
theorem dX3_replaceHose_34 : decode cX3_replaceHose 34 = .ok (.invokevirtual 105, 3) := by decide +kernel
theorem dX3_replaceHose_37 : decode cX3_replaceHose 37 = .ok (.ireturn, 1) := by decide +kernel
theorem dX3_lendOut_0 : decode cX3_lendOut 0 = .ok (.aload_n 0, 1) := by decide +kernel
theorem dX3_lendOut_1 : decode cX3_lendOut 1 = .ok (.getfield 43, 3) := by decide +kernel
theorem dX3_lendOut_4 : decode cX3_lendOut 4 = .ok (.iload_n 1, 1) := by decide +kernel
theorem dX3_lendOut_5 : decode cX3_lendOut 5 = .ok (.iconst 4, 1) := by decide +kernel
theorem dX3_lendOut_6 : decode cX3_lendOut 6 = .ok (.iastore, 1) := by decide +kernel
theorem dX3_lendOut_7 : decode cX3_lendOut 7 = .ok (.aload_n 0, 1) := by decide +kernel
theorem dX3_lendOut_8 : decode cX3_lendOut 8 = .ok (.getfield 46, 3) := by decide +kernel
theorem dX3_lendOut_11 : decode cX3_lendOut 11 = .ok (.iload_n 1, 1) := by decide +kernel
theorem dX3_lendOut_12 : decode cX3_lendOut 12 = .ok (.aload_n 0, 1) := by decide +kernel
theorem dX3_lendOut_13 : decode cX3_lendOut 13 = .ok (.getfield 9, 3) := by decide +kernel
theorem dX3_lendOut_16 : decode cX3_lendOut 16 = .ok (.iload_n 2, 1) := by decide +kernel
theorem dX3_lendOut_17 : decode cX3_lendOut 17 = .ok (.iadd, 1) := by decide +kernel
theorem dX3_lendOut_18 : decode cX3_lendOut 18 = .ok (.iastore, 1) := by decide +kernel
theorem dX3_lendOut_19 : decode cX3_lendOut 19 = .ok (.aload_n 0, 1) := by decide +kernel
theorem dX3_lendOut_20 : decode cX3_lendOut 20 = .ok (.getfield 46, 3) := by decide +kernel
theorem dX3_lendOut_23 : decode cX3_lendOut 23 = .ok (.iload_n 1, 1) := by decide +kernel
theorem dX3_lendOut_24 : decode cX3_lendOut 24 = .ok (.iaload, 1) := by decide +kernel
theorem dX3_lendOut_25 : decode cX3_lendOut 25 = .ok (.ireturn, 1) := by decide +kernel
theorem dX3_stepsUpTo_0 : decode cX3_stepsUpTo 0 = .ok (.iload_n 0, 1) := by decide +kernel
theorem dX3_stepsUpTo_1 : decode cX3_stepsUpTo 1 = .ok (.iconst 4, 1) := by decide +kernel
theorem dX3_stepsUpTo_2 : decode cX3_stepsUpTo 2 = .ok (.iadd, 1) := by decide +kernel
theorem dX3_stepsUpTo_3 : decode cX3_stepsUpTo 3 = .ok (.iconst 1, 1) := by decide +kernel
theorem dX3_stepsUpTo_4 : decode cX3_stepsUpTo 4 = .ok (.isub, 1) := by decide +kernel
theorem dX3_stepsUpTo_5 : decode cX3_stepsUpTo 5 = .ok (.iconst 4, 1) := by decide +kernel
theorem dX3_stepsUpTo_6 : decode cX3_stepsUpTo 6 = .ok (.idiv, 1) := by decide +kernel
theorem dX3_stepsUpTo_7 : decode cX3_stepsUpTo 7 = .ok (.ireturn, 1) := by decide +kernel
theorem dX3_stepsHeld_0 : decode cX3_stepsHeld 0 = .ok (.iload_n 2, 1) := by decide +kernel
theorem dX3_stepsHeld_1 : decode cX3_stepsHeld 1 = .ok (.invokestatic 109, 3) := by decide +kernel
theorem dX3_stepsHeld_4 : decode cX3_stepsHeld 4 = .ok (.istore_n 3, 1) := by decide +kernel
theorem dX3_stepsHeld_5 : decode cX3_stepsHeld 5 = .ok (.aload_n 0, 1) := by decide +kernel
theorem dX3_stepsHeld_6 : decode cX3_stepsHeld 6 = .ok (.getfield 37, 3) := by decide +kernel
theorem dX3_stepsHeld_9 : decode cX3_stepsHeld 9 = .ok (.iload_n 1, 1) := by decide +kernel
theorem dX3_stepsHeld_10 : decode cX3_stepsHeld 10 = .ok (.iaload, 1) := by decide +kernel
theorem dX3_stepsHeld_11 : decode cX3_stepsHeld 11 = .ok (.istore 4, 2) := by decide +kernel
theorem dX3_stepsHeld_13 : decode cX3_stepsHeld 13 = .ok (.iconst 0, 1) := by decide +kernel
theorem dX3_stepsHeld_14 : decode cX3_stepsHeld 14 = .ok (.istore 5, 2) := by decide +kernel
theorem dX3_stepsHeld_16 : decode cX3_stepsHeld 16 = .ok (.iload 5, 2) := by decide +kernel
theorem dX3_stepsHeld_18 : decode cX3_stepsHeld 18 = .ok (.iload_n 3, 1) := by decide +kernel
theorem dX3_stepsHeld_19 : decode cX3_stepsHeld 19 = .ok (.if_icmp .ge 47, 3) := by decide +kernel
theorem dX3_stepsHeld_22 : decode cX3_stepsHeld 22 = .ok (.iconst 4, 1) := by decide +kernel
theorem dX3_stepsHeld_23 : decode cX3_stepsHeld 23 = .ok (.iload 5, 2) := by decide +kernel
theorem dX3_stepsHeld_25 : decode cX3_stepsHeld 25 = .ok (.iconst 1, 1) := by decide +kernel
theorem dX3_stepsHeld_26 : decode cX3_stepsHeld 26 = .ok (.iadd, 1) := by decide +kernel
theorem dX3_stepsHeld_27 : decode cX3_stepsHeld 27 = .ok (.imul, 1) := by decide +kernel
theorem dX3_stepsHeld_28 : decode cX3_stepsHeld 28 = .ok (.iload_n 2, 1) := by decide +kernel
theorem dX3_stepsHeld_29 : decode cX3_stepsHeld 29 = .ok (.invokestatic 112, 3) := by decide +kernel
theorem dX3_stepsHeld_32 : decode cX3_stepsHeld 32 = .ok (.istore 6, 2) := by decide +kernel
theorem dX3_stepsHeld_34 : decode cX3_stepsHeld 34 = .ok (.aload_n 0, 1) := by decide +kernel
theorem dX3_stepsHeld_35 : decode cX3_stepsHeld 35 = .ok (.iload_n 1, 1) := by decide +kernel
theorem dX3_stepsHeld_36 : decode cX3_stepsHeld 36 = .ok (.iload 4, 2) := by decide +kernel
theorem dX3_stepsHeld_38 : decode cX3_stepsHeld 38 = .ok (.invokevirtual 117, 3) := by decide +kernel
theorem dX3_stepsHeld_41 : decode cX3_stepsHeld 41 = .ok (.iload 6, 2) := by decide +kernel
theorem dX3_stepsHeld_43 : decode cX3_stepsHeld 43 = .ok (.if_icmp .ge 6, 3) := by decide +kernel
theorem dX3_stepsHeld_46 : decode cX3_stepsHeld 46 = .ok (.iload 5, 2) := by decide +kernel
theorem dX3_stepsHeld_48 : decode cX3_stepsHeld 48 = .ok (.ireturn, 1) := by decide +kernel
theorem dX3_stepsHeld_49 : decode cX3_stepsHeld 49 = .ok (.bipush 99, 2) := by decide +kernel
theorem dX3_stepsHeld_51 : decode cX3_stepsHeld 51 = .ok (.iload 4, 2) := by decide +kernel
theorem dX3_stepsHeld_53 : decode cX3_stepsHeld 53 = .ok (.iconst 1, 1) := by decide +kernel
theorem dX3_stepsHeld_54 : decode cX3_stepsHeld 54 = .ok (.iadd, 1) := by decide +kernel
theorem dX3_stepsHeld_55 : decode cX3_stepsHeld 55 = .ok (.invokestatic 112, 3) := by decide +kernel
theorem dX3_stepsHeld_58 : decode cX3_stepsHeld 58 = .ok (.istore 4, 2) := by decide +kernel
theorem dX3_stepsHeld_60 : decode cX3_stepsHeld 60 = .ok (.iinc 5 1, 3) := by decide +kernel
theorem dX3_stepsHeld_63 : decode cX3_stepsHeld 63 = .ok (.goto (-47), 3) := by decide +kernel
theorem dX3_stepsHeld_66 : decode cX3_stepsHeld 66 = .ok (.iload_n 3, 1) := by decide +kernel
theorem dX3_stepsHeld_67 : decode cX3_stepsHeld 67 = .ok (.ireturn, 1) := by decide +kernel
theorem dX3_outcomeOf_0 : decode cX3_outcomeOf 0 = .ok (.aload_n 0, 1) := by decide +kernel
theorem dX3_outcomeOf_1 : decode cX3_outcomeOf 1 = .ok (.iload_n 1, 1) := by decide +kernel
theorem dX3_outcomeOf_2 : decode cX3_outcomeOf 2 = .ok (.iload_n 2, 1) := by decide +kernel
theorem dX3_outcomeOf_3 : decode cX3_outcomeOf 3 = .ok (.invokevirtual 120, 3) := by decide +kernel
theorem dX3_outcomeOf_6 : decode cX3_outcomeOf 6 = .ok (.istore_n 3, 1) := by decide +kernel
theorem dX3_outcomeOf_7 : decode cX3_outcomeOf 7 = .ok (.iload_n 3, 1) := by decide +kernel
theorem dX3_outcomeOf_8 : decode cX3_outcomeOf 8 = .ok (.iload_n 2, 1) := by decide +kernel
theorem dX3_outcomeOf_9 : decode cX3_outcomeOf 9 = .ok (.invokestatic 109, 3) := by decide +kernel
theorem dX3_outcomeOf_12 : decode cX3_outcomeOf 12 = .ok (.if_icmp .ge 10, 3) := by decide +kernel
theorem dX3_outcomeOf_15 : decode cX3_outcomeOf 15 = .ok (.iload_n 3, 1) := by decide +kernel
theorem dX3_outcomeOf_16 : decode cX3_outcomeOf 16 = .ok (.bipush 100, 2) := by decide +kernel
theorem dX3_outcomeOf_18 : decode cX3_outcomeOf 18 = .ok (.iadd, 1) := by decide +kernel
theorem dX3_outcomeOf_19 : decode cX3_outcomeOf 19 = .ok (.goto 4, 3) := by decide +kernel
theorem dX3_outcomeOf_22 : decode cX3_outcomeOf 22 = .ok (.iload_n 3, 1) := by decide +kernel
theorem dX3_outcomeOf_23 : decode cX3_outcomeOf 23 = .ok (.ireturn, 1) := by decide +kernel
theorem dX3_runTest_0 : decode cX3_runTest 0 = .ok (.aload_n 0, 1) := by decide +kernel
theorem dX3_runTest_1 : decode cX3_runTest 1 = .ok (.iload_n 1, 1) := by decide +kernel
theorem dX3_runTest_2 : decode cX3_runTest 2 = .ok (.iload_n 2, 1) := by decide +kernel
theorem dX3_runTest_3 : decode cX3_runTest 3 = .ok (.invokevirtual 123, 3) := by decide +kernel
theorem dX3_runTest_6 : decode cX3_runTest 6 = .ok (.istore_n 3, 1) := by decide +kernel
theorem dX3_runTest_7 : decode cX3_runTest 7 = .ok (.iload_n 3, 1) := by decide +kernel
theorem dX3_runTest_8 : decode cX3_runTest 8 = .ok (.bipush 100, 2) := by decide +kernel
theorem dX3_runTest_10 : decode cX3_runTest 10 = .ok (.if_icmp .lt 7, 3) := by decide +kernel
theorem dX3_runTest_13 : decode cX3_runTest 13 = .ok (.iconst 1, 1) := by decide +kernel
theorem dX3_runTest_14 : decode cX3_runTest 14 = .ok (.goto 4, 3) := by decide +kernel
theorem dX3_runTest_17 : decode cX3_runTest 17 = .ok (.iconst 0, 1) := by decide +kernel
theorem dX3_runTest_18 : decode cX3_runTest 18 = .ok (.istore 4, 2) := by decide +kernel
theorem dX3_runTest_20 : decode cX3_runTest 20 = .ok (.aload_n 0, 1) := by decide +kernel
theorem dX3_runTest_21 : decode cX3_runTest 21 = .ok (.getfield 37, 3) := by decide +kernel
theorem dX3_runTest_24 : decode cX3_runTest 24 = .ok (.iload_n 1, 1) := by decide +kernel
theorem dX3_runTest_25 : decode cX3_runTest 25 = .ok (.bipush 99, 2) := by decide +kernel
theorem dX3_runTest_27 : decode cX3_runTest 27 = .ok (.aload_n 0, 1) := by decide +kernel
theorem dX3_runTest_28 : decode cX3_runTest 28 = .ok (.getfield 37, 3) := by decide +kernel
theorem dX3_runTest_31 : decode cX3_runTest 31 = .ok (.iload_n 1, 1) := by decide +kernel
theorem dX3_runTest_32 : decode cX3_runTest 32 = .ok (.iaload, 1) := by decide +kernel
theorem dX3_runTest_33 : decode cX3_runTest 33 = .ok (.iload 4, 2) := by decide +kernel
theorem dX3_runTest_35 : decode cX3_runTest 35 = .ok (.ifCond .eq 10, 3) := by decide +kernel
theorem dX3_runTest_38 : decode cX3_runTest 38 = .ok (.iload_n 3, 1) := by decide +kernel
theorem dX3_runTest_39 : decode cX3_runTest 39 = .ok (.bipush 100, 2) := by decide +kernel
theorem dX3_runTest_41 : decode cX3_runTest 41 = .ok (.isub, 1) := by decide +kernel
theorem dX3_runTest_42 : decode cX3_runTest 42 = .ok (.goto 4, 3) := by decide +kernel
theorem dX3_runTest_45 : decode cX3_runTest 45 = .ok (.iload_n 3, 1) := by decide +kernel
theorem dX3_runTest_46 : decode cX3_runTest 46 = .ok (.iadd, 1) := by decide +kernel
theorem dX3_runTest_47 : decode cX3_runTest 47 = .ok (.invokestatic 112, 3) := by decide +kernel
theorem dX3_runTest_50 : decode cX3_runTest 50 = .ok (.iastore, 1) := by decide +kernel
theorem dX3_runTest_51 : decode cX3_runTest 51 = .ok (.aload_n 0, 1) := by decide +kernel
theorem dX3_runTest_52 : decode cX3_runTest 52 = .ok (.dup, 1) := by decide +kernel
theorem dX3_runTest_53 : decode cX3_runTest 53 = .ok (.getfield 59, 3) := by decide +kernel
theorem dX3_runTest_56 : decode cX3_runTest 56 = .ok (.iconst 1, 1) := by decide +kernel
theorem dX3_runTest_57 : decode cX3_runTest 57 = .ok (.iadd, 1) := by decide +kernel
theorem dX3_runTest_58 : decode cX3_runTest 58 = .ok (.putfield 59, 3) := by decide +kernel
theorem dX3_runTest_61 : decode cX3_runTest 61 = .ok (.iload 4, 2) := by decide +kernel
theorem dX3_runTest_63 : decode cX3_runTest 63 = .ok (.ifCond .eq 23, 3) := by decide +kernel
theorem dX3_runTest_66 : decode cX3_runTest 66 = .ok (.aload_n 0, 1) := by decide +kernel
theorem dX3_runTest_67 : decode cX3_runTest 67 = .ok (.dup, 1) := by decide +kernel
theorem dX3_runTest_68 : decode cX3_runTest 68 = .ok (.getfield 62, 3) := by decide +kernel
theorem dX3_runTest_71 : decode cX3_runTest 71 = .ok (.iconst 1, 1) := by decide +kernel
theorem dX3_runTest_72 : decode cX3_runTest 72 = .ok (.iadd, 1) := by decide +kernel
theorem dX3_runTest_73 : decode cX3_runTest 73 = .ok (.putfield 62, 3) := by decide +kernel
theorem dX3_runTest_76 : decode cX3_runTest 76 = .ok (.aload_n 0, 1) := by decide +kernel
theorem dX3_runTest_77 : decode cX3_runTest 77 = .ok (.getfield 43, 3) := by decide +kernel
theorem dX3_runTest_80 : decode cX3_runTest 80 = .ok (.iload_n 1, 1) := by decide +kernel
theorem dX3_runTest_81 : decode cX3_runTest 81 = .ok (.iconst (-1), 1) := by decide +kernel
theorem dX3_runTest_82 : decode cX3_runTest 82 = .ok (.iastore, 1) := by decide +kernel
theorem dX3_runTest_83 : decode cX3_runTest 83 = .ok (.goto 33, 3) := by decide +kernel
theorem dX3_runTest_86 : decode cX3_runTest 86 = .ok (.iload_n 2, 1) := by decide +kernel
theorem dX3_runTest_87 : decode cX3_runTest 87 = .ok (.aload_n 0, 1) := by decide +kernel
theorem dX3_runTest_88 : decode cX3_runTest 88 = .ok (.getfield 22, 3) := by decide +kernel
theorem dX3_runTest_91 : decode cX3_runTest 91 = .ok (.iconst 0, 1) := by decide +kernel
theorem dX3_runTest_92 : decode cX3_runTest 92 = .ok (.iaload, 1) := by decide +kernel
theorem dX3_runTest_93 : decode cX3_runTest 93 = .ok (.if_icmp .lt 23, 3) := by decide +kernel
theorem dX3_runTest_96 : decode cX3_runTest 96 = .ok (.aload_n 0, 1) := by decide +kernel
theorem dX3_runTest_97 : decode cX3_runTest 97 = .ok (.getfield 40, 3) := by decide +kernel
theorem dX3_runTest_100 : decode cX3_runTest 100 = .ok (.iload_n 1, 1) := by decide +kernel
theorem dX3_runTest_101 : decode cX3_runTest 101 = .ok (.aload_n 0, 1) := by decide +kernel
theorem dX3_runTest_102 : decode cX3_runTest 102 = .ok (.getfield 9, 3) := by decide +kernel
theorem dX3_runTest_105 : decode cX3_runTest 105 = .ok (.aload_n 0, 1) := by decide +kernel
theorem dX3_runTest_106 : decode cX3_runTest 106 = .ok (.getfield 25, 3) := by decide +kernel
theorem dX3_runTest_109 : decode cX3_runTest 109 = .ok (.iload_n 1, 1) := by decide +kernel
theorem dX3_runTest_110 : decode cX3_runTest 110 = .ok (.iaload, 1) := by decide +kernel
theorem dX3_runTest_111 : decode cX3_runTest 111 = .ok (.invokestatic 126, 3) := by decide +kernel
theorem dX3_runTest_114 : decode cX3_runTest 114 = .ok (.iadd, 1) := by decide +kernel
theorem dX3_runTest_115 : decode cX3_runTest 115 = .ok (.iastore, 1) := by decide +kernel
theorem dX3_runTest_116 : decode cX3_runTest 116 = .ok (.iload_n 3, 1) := by decide +kernel
theorem dX3_runTest_117 : decode cX3_runTest 117 = .ok (.ireturn, 1) := by decide +kernel
theorem dX3_greatestSafePressure_0 : decode cX3_greatestSafePressure 0 = .ok (.bipush 24, 2) := by decide +kernel
theorem dX3_greatestSafePressure_2 : decode cX3_greatestSafePressure 2 = .ok (.istore_n 2, 1) := by decide +kernel
theorem dX3_greatestSafePressure_3 : decode cX3_greatestSafePressure 3 = .ok (.iload_n 2, 1) := by decide +kernel
theorem dX3_greatestSafePressure_4 : decode cX3_greatestSafePressure 4 = .ok (.iconst 4, 1) := by decide +kernel
theorem dX3_greatestSafePressure_5 : decode cX3_greatestSafePressure 5 = .ok (.if_icmp .lt 24, 3) := by decide +kernel
theorem dX3_greatestSafePressure_8 : decode cX3_greatestSafePressure 8 = .ok (.aload_n 0, 1) := by decide +kernel
theorem dX3_greatestSafePressure_9 : decode cX3_greatestSafePressure 9 = .ok (.iload_n 1, 1) := by decide +kernel
theorem dX3_greatestSafePressure_10 : decode cX3_greatestSafePressure 10 = .ok (.iload_n 2, 1) := by decide +kernel
theorem dX3_greatestSafePressure_11 : decode cX3_greatestSafePressure 11 = .ok (.invokevirtual 120, 3) := by decide +kernel
theorem dX3_greatestSafePressure_14 : decode cX3_greatestSafePressure 14 = .ok (.iload_n 2, 1) := by decide +kernel
theorem dX3_greatestSafePressure_15 : decode cX3_greatestSafePressure 15 = .ok (.invokestatic 109, 3) := by decide +kernel
theorem dX3_greatestSafePressure_18 : decode cX3_greatestSafePressure 18 = .ok (.if_icmp .ne 5, 3) := by decide +kernel
theorem dX3_greatestSafePressure_21 : decode cX3_greatestSafePressure 21 = .ok (.iload_n 2, 1) := by decide +kernel
theorem dX3_greatestSafePressure_22 : decode cX3_greatestSafePressure 22 = .ok (.ireturn, 1) := by decide +kernel
theorem dX3_greatestSafePressure_23 : decode cX3_greatestSafePressure 23 = .ok (.iinc 2 (-1), 3) := by decide +kernel
theorem dX3_greatestSafePressure_26 : decode cX3_greatestSafePressure 26 = .ok (.goto (-23), 3) := by decide +kernel
theorem dX3_greatestSafePressure_29 : decode cX3_greatestSafePressure 29 = .ok (.iconst (-1), 1) := by decide +kernel
theorem dX3_greatestSafePressure_30 : decode cX3_greatestSafePressure 30 = .ok (.ireturn, 1) := by decide +kernel
theorem dX3_passDay_0 : decode cX3_passDay 0 = .ok (.aload_n 0, 1) := by decide +kernel
theorem dX3_passDay_1 : decode cX3_passDay 1 = .ok (.dup, 1) := by decide +kernel
theorem dX3_passDay_2 : decode cX3_passDay 2 = .ok (.getfield 9, 3) := by decide +kernel
theorem dX3_passDay_5 : decode cX3_passDay 5 = .ok (.iconst 1, 1) := by decide +kernel
theorem dX3_passDay_6 : decode cX3_passDay 6 = .ok (.iadd, 1) := by decide +kernel
theorem dX3_passDay_7 : decode cX3_passDay 7 = .ok (.putfield 9, 3) := by decide +kernel
theorem dX3_passDay_10 : decode cX3_passDay 10 = .ok (.aload_n 0, 1) := by decide +kernel
theorem dX3_passDay_11 : decode cX3_passDay 11 = .ok (.invokevirtual 129, 3) := by decide +kernel
theorem dX3_passDay_14 : decode cX3_passDay 14 = .ok (.aload_n 0, 1) := by decide +kernel
theorem dX3_passDay_15 : decode cX3_passDay 15 = .ok (.getfield 9, 3) := by decide +kernel
theorem dX3_passDay_18 : decode cX3_passDay 18 = .ok (.bipush 10, 2) := by decide +kernel
theorem dX3_passDay_20 : decode cX3_passDay 20 = .ok (.irem, 1) := by decide +kernel
theorem dX3_passDay_21 : decode cX3_passDay 21 = .ok (.ifCond .ne 7, 3) := by decide +kernel
theorem dX3_passDay_24 : decode cX3_passDay 24 = .ok (.aload_n 0, 1) := by decide +kernel
theorem dX3_passDay_25 : decode cX3_passDay 25 = .ok (.invokevirtual 132, 3) := by decide +kernel
theorem dX3_passDay_28 : decode cX3_passDay 28 = .ok (.aload_n 0, 1) := by decide +kernel
theorem dX3_passDay_29 : decode cX3_passDay 29 = .ok (.getfield 9, 3) := by decide +kernel
theorem dX3_passDay_32 : decode cX3_passDay 32 = .ok (.bipush 30, 2) := by decide +kernel
theorem dX3_passDay_34 : decode cX3_passDay 34 = .ok (.irem, 1) := by decide +kernel
theorem dX3_passDay_35 : decode cX3_passDay 35 = .ok (.ifCond .ne 24, 3) := by decide +kernel
theorem dX3_passDay_38 : decode cX3_passDay 38 = .ok (.aload_n 0, 1) := by decide +kernel
theorem dX3_passDay_39 : decode cX3_passDay 39 = .ok (.sipush 9999, 3) := by decide +kernel
theorem dX3_passDay_42 : decode cX3_passDay 42 = .ok (.aload_n 0, 1) := by decide +kernel
theorem dX3_passDay_43 : decode cX3_passDay 43 = .ok (.getfield 15, 3) := by decide +kernel
theorem dX3_passDay_46 : decode cX3_passDay 46 = .ok (.aload_n 0, 1) := by decide +kernel
theorem dX3_passDay_47 : decode cX3_passDay 47 = .ok (.getfield 22, 3) := by decide +kernel
theorem dX3_passDay_50 : decode cX3_passDay 50 = .ok (.iconst 2, 1) := by decide +kernel
theorem dX3_passDay_51 : decode cX3_passDay 51 = .ok (.iaload, 1) := by decide +kernel
theorem dX3_passDay_52 : decode cX3_passDay 52 = .ok (.iadd, 1) := by decide +kernel
theorem dX3_passDay_53 : decode cX3_passDay 53 = .ok (.invokestatic 112, 3) := by decide +kernel
theorem dX3_passDay_56 : decode cX3_passDay 56 = .ok (.putfield 15, 3) := by decide +kernel
theorem dX3_passDay_59 : decode cX3_passDay 59 = .ok (.return_, 1) := by decide +kernel
theorem dX3_takeBackLent_0 : decode cX3_takeBackLent 0 = .ok (.iconst 0, 1) := by decide +kernel
theorem dX3_takeBackLent_1 : decode cX3_takeBackLent 1 = .ok (.istore_n 1, 1) := by decide +kernel
theorem dX3_takeBackLent_2 : decode cX3_takeBackLent 2 = .ok (.iload_n 1, 1) := by decide +kernel
theorem dX3_takeBackLent_3 : decode cX3_takeBackLent 3 = .ok (.aload_n 0, 1) := by decide +kernel
theorem dX3_takeBackLent_4 : decode cX3_takeBackLent 4 = .ok (.getfield 56, 3) := by decide +kernel
theorem dX3_takeBackLent_7 : decode cX3_takeBackLent 7 = .ok (.if_icmp .ge 44, 3) := by decide +kernel
theorem dX3_takeBackLent_10 : decode cX3_takeBackLent 10 = .ok (.aload_n 0, 1) := by decide +kernel
theorem dX3_takeBackLent_11 : decode cX3_takeBackLent 11 = .ok (.iload_n 1, 1) := by decide +kernel
theorem dX3_takeBackLent_12 : decode cX3_takeBackLent 12 = .ok (.invokevirtual 86, 3) := by decide +kernel
theorem dX3_takeBackLent_15 : decode cX3_takeBackLent 15 = .ok (.ifCond .eq 30, 3) := by decide +kernel
theorem dX3_takeBackLent_18 : decode cX3_takeBackLent 18 = .ok (.aload_n 0, 1) := by decide +kernel
theorem dX3_takeBackLent_19 : decode cX3_takeBackLent 19 = .ok (.getfield 46, 3) := by decide +kernel
theorem dX3_takeBackLent_22 : decode cX3_takeBackLent 22 = .ok (.iload_n 1, 1) := by decide +kernel
theorem dX3_takeBackLent_23 : decode cX3_takeBackLent 23 = .ok (.iaload, 1) := by decide +kernel
theorem dX3_takeBackLent_24 : decode cX3_takeBackLent 24 = .ok (.aload_n 0, 1) := by decide +kernel
theorem dX3_takeBackLent_25 : decode cX3_takeBackLent 25 = .ok (.getfield 9, 3) := by decide +kernel
theorem dX3_takeBackLent_28 : decode cX3_takeBackLent 28 = .ok (.if_icmp .ne 17, 3) := by decide +kernel
theorem dX3_takeBackLent_31 : decode cX3_takeBackLent 31 = .ok (.aload_n 0, 1) := by decide +kernel
theorem dX3_takeBackLent_32 : decode cX3_takeBackLent 32 = .ok (.getfield 43, 3) := by decide +kernel
theorem dX3_takeBackLent_35 : decode cX3_takeBackLent 35 = .ok (.iload_n 1, 1) := by decide +kernel
theorem dX3_takeBackLent_36 : decode cX3_takeBackLent 36 = .ok (.iconst 3, 1) := by decide +kernel
theorem dX3_takeBackLent_37 : decode cX3_takeBackLent 37 = .ok (.iastore, 1) := by decide +kernel
theorem dX3_takeBackLent_38 : decode cX3_takeBackLent 38 = .ok (.aload_n 0, 1) := by decide +kernel
theorem dX3_takeBackLent_39 : decode cX3_takeBackLent 39 = .ok (.getfield 46, 3) := by decide +kernel
theorem dX3_takeBackLent_42 : decode cX3_takeBackLent 42 = .ok (.iload_n 1, 1) := by decide +kernel
theorem dX3_takeBackLent_43 : decode cX3_takeBackLent 43 = .ok (.iconst (-1), 1) := by decide +kernel
theorem dX3_takeBackLent_44 : decode cX3_takeBackLent 44 = .ok (.iastore, 1) := by decide +kernel
theorem dX3_takeBackLent_45 : decode cX3_takeBackLent 45 = .ok (.iinc 1 1, 3) := by decide +kernel
theorem dX3_takeBackLent_48 : decode cX3_takeBackLent 48 = .ok (.goto (-46), 3) := by decide +kernel
theorem dX3_takeBackLent_51 : decode cX3_takeBackLent 51 = .ok (.return_, 1) := by decide +kernel
theorem dX3_wearOnTrucks_0 : decode cX3_wearOnTrucks 0 = .ok (.iconst 0, 1) := by decide +kernel
theorem dX3_wearOnTrucks_1 : decode cX3_wearOnTrucks 1 = .ok (.istore_n 1, 1) := by decide +kernel
theorem dX3_wearOnTrucks_2 : decode cX3_wearOnTrucks 2 = .ok (.iload_n 1, 1) := by decide +kernel
theorem dX3_wearOnTrucks_3 : decode cX3_wearOnTrucks 3 = .ok (.aload_n 0, 1) := by decide +kernel
theorem dX3_wearOnTrucks_4 : decode cX3_wearOnTrucks 4 = .ok (.getfield 56, 3) := by decide +kernel
theorem dX3_wearOnTrucks_7 : decode cX3_wearOnTrucks 7 = .ok (.if_icmp .ge 44, 3) := by decide +kernel
theorem dX3_wearOnTrucks_10 : decode cX3_wearOnTrucks 10 = .ok (.aload_n 0, 1) := by decide +kernel
theorem dX3_wearOnTrucks_11 : decode cX3_wearOnTrucks 11 = .ok (.iload_n 1, 1) := by decide +kernel
theorem dX3_wearOnTrucks_12 : decode cX3_wearOnTrucks 12 = .ok (.invokevirtual 135, 3) := by decide +kernel
theorem dX3_wearOnTrucks_15 : decode cX3_wearOnTrucks 15 = .ok (.ifCond .eq 30, 3) := by decide +kernel
theorem dX3_wearOnTrucks_18 : decode cX3_wearOnTrucks 18 = .ok (.aload_n 0, 1) := by decide +kernel
theorem dX3_wearOnTrucks_19 : decode cX3_wearOnTrucks 19 = .ok (.iload_n 1, 1) := by decide +kernel
theorem dX3_wearOnTrucks_20 : decode cX3_wearOnTrucks 20 = .ok (.invokevirtual 138, 3) := by decide +kernel
theorem dX3_wearOnTrucks_23 : decode cX3_wearOnTrucks 23 = .ok (.ifCond .eq 22, 3) := by decide +kernel
theorem dX3_wearOnTrucks_26 : decode cX3_wearOnTrucks 26 = .ok (.aload_n 0, 1) := by decide +kernel
theorem dX3_wearOnTrucks_27 : decode cX3_wearOnTrucks 27 = .ok (.getfield 37, 3) := by decide +kernel
theorem dX3_wearOnTrucks_30 : decode cX3_wearOnTrucks 30 = .ok (.iload_n 1, 1) := by decide +kernel
theorem dX3_wearOnTrucks_31 : decode cX3_wearOnTrucks 31 = .ok (.bipush 99, 2) := by decide +kernel
theorem dX3_wearOnTrucks_33 : decode cX3_wearOnTrucks 33 = .ok (.aload_n 0, 1) := by decide +kernel
theorem dX3_wearOnTrucks_34 : decode cX3_wearOnTrucks 34 = .ok (.getfield 37, 3) := by decide +kernel
theorem dX3_wearOnTrucks_37 : decode cX3_wearOnTrucks 37 = .ok (.iload_n 1, 1) := by decide +kernel
theorem dX3_wearOnTrucks_38 : decode cX3_wearOnTrucks 38 = .ok (.iaload, 1) := by decide +kernel
theorem dX3_wearOnTrucks_39 : decode cX3_wearOnTrucks 39 = .ok (.iconst 1, 1) := by decide +kernel
theorem dX3_wearOnTrucks_40 : decode cX3_wearOnTrucks 40 = .ok (.iadd, 1) := by decide +kernel
theorem dX3_wearOnTrucks_41 : decode cX3_wearOnTrucks 41 = .ok (.invokestatic 112, 3) := by decide +kernel
theorem dX3_wearOnTrucks_44 : decode cX3_wearOnTrucks 44 = .ok (.iastore, 1) := by decide +kernel
theorem dX3_wearOnTrucks_45 : decode cX3_wearOnTrucks 45 = .ok (.iinc 1 1, 3) := by decide +kernel
theorem dX3_wearOnTrucks_48 : decode cX3_wearOnTrucks 48 = .ok (.goto (-46), 3) := by decide +kernel
theorem dX3_wearOnTrucks_51 : decode cX3_wearOnTrucks 51 = .ok (.return_, 1) := by decide +kernel
theorem dX3_hosesAt_0 : decode cX3_hosesAt 0 = .ok (.iconst 0, 1) := by decide +kernel
theorem dX3_hosesAt_1 : decode cX3_hosesAt 1 = .ok (.istore_n 2, 1) := by decide +kernel
theorem dX3_hosesAt_2 : decode cX3_hosesAt 2 = .ok (.iconst 0, 1) := by decide +kernel
theorem dX3_hosesAt_3 : decode cX3_hosesAt 3 = .ok (.istore_n 3, 1) := by decide +kernel
theorem dX3_hosesAt_4 : decode cX3_hosesAt 4 = .ok (.iload_n 3, 1) := by decide +kernel
theorem dX3_hosesAt_5 : decode cX3_hosesAt 5 = .ok (.aload_n 0, 1) := by decide +kernel
theorem dX3_hosesAt_6 : decode cX3_hosesAt 6 = .ok (.getfield 56, 3) := by decide +kernel
theorem dX3_hosesAt_9 : decode cX3_hosesAt 9 = .ok (.if_icmp .ge 22, 3) := by decide +kernel
theorem dX3_hosesAt_12 : decode cX3_hosesAt 12 = .ok (.aload_n 0, 1) := by decide +kernel
theorem dX3_hosesAt_13 : decode cX3_hosesAt 13 = .ok (.getfield 43, 3) := by decide +kernel
theorem dX3_hosesAt_16 : decode cX3_hosesAt 16 = .ok (.iload_n 3, 1) := by decide +kernel
theorem dX3_hosesAt_17 : decode cX3_hosesAt 17 = .ok (.iaload, 1) := by decide +kernel
theorem dX3_hosesAt_18 : decode cX3_hosesAt 18 = .ok (.iload_n 1, 1) := by decide +kernel
theorem dX3_hosesAt_19 : decode cX3_hosesAt 19 = .ok (.if_icmp .ne 6, 3) := by decide +kernel
theorem dX3_hosesAt_22 : decode cX3_hosesAt 22 = .ok (.iinc 2 1, 3) := by decide +kernel
theorem dX3_hosesAt_25 : decode cX3_hosesAt 25 = .ok (.iinc 3 1, 3) := by decide +kernel
theorem dX3_hosesAt_28 : decode cX3_hosesAt 28 = .ok (.goto (-24), 3) := by decide +kernel
theorem dX3_hosesAt_31 : decode cX3_hosesAt 31 = .ok (.iload_n 2, 1) := by decide +kernel
theorem dX3_hosesAt_32 : decode cX3_hosesAt 32 = .ok (.ireturn, 1) := by decide +kernel
theorem dX3_readyHosesAt_0 : decode cX3_readyHosesAt 0 = .ok (.iconst 0, 1) := by decide +kernel
theorem dX3_readyHosesAt_1 : decode cX3_readyHosesAt 1 = .ok (.istore_n 2, 1) := by decide +kernel
theorem dX3_readyHosesAt_2 : decode cX3_readyHosesAt 2 = .ok (.iconst 0, 1) := by decide +kernel
theorem dX3_readyHosesAt_3 : decode cX3_readyHosesAt 3 = .ok (.istore_n 3, 1) := by decide +kernel
theorem dX3_readyHosesAt_4 : decode cX3_readyHosesAt 4 = .ok (.iload_n 3, 1) := by decide +kernel
theorem dX3_readyHosesAt_5 : decode cX3_readyHosesAt 5 = .ok (.aload_n 0, 1) := by decide +kernel
theorem dX3_readyHosesAt_6 : decode cX3_readyHosesAt 6 = .ok (.getfield 56, 3) := by decide +kernel
theorem dX3_readyHosesAt_9 : decode cX3_readyHosesAt 9 = .ok (.if_icmp .ge 30, 3) := by decide +kernel
theorem dX3_readyHosesAt_12 : decode cX3_readyHosesAt 12 = .ok (.aload_n 0, 1) := by decide +kernel
theorem dX3_readyHosesAt_13 : decode cX3_readyHosesAt 13 = .ok (.getfield 43, 3) := by decide +kernel
theorem dX3_readyHosesAt_16 : decode cX3_readyHosesAt 16 = .ok (.iload_n 3, 1) := by decide +kernel
theorem dX3_readyHosesAt_17 : decode cX3_readyHosesAt 17 = .ok (.iaload, 1) := by decide +kernel
theorem dX3_readyHosesAt_18 : decode cX3_readyHosesAt 18 = .ok (.iload_n 1, 1) := by decide +kernel
theorem dX3_readyHosesAt_19 : decode cX3_readyHosesAt 19 = .ok (.if_icmp .ne 14, 3) := by decide +kernel
theorem dX3_readyHosesAt_22 : decode cX3_readyHosesAt 22 = .ok (.aload_n 0, 1) := by decide +kernel
theorem dX3_readyHosesAt_23 : decode cX3_readyHosesAt 23 = .ok (.iload_n 3, 1) := by decide +kernel
theorem dX3_readyHosesAt_24 : decode cX3_readyHosesAt 24 = .ok (.invokevirtual 138, 3) := by decide +kernel
theorem dX3_readyHosesAt_27 : decode cX3_readyHosesAt 27 = .ok (.ifCond .eq 6, 3) := by decide +kernel
theorem dX3_readyHosesAt_30 : decode cX3_readyHosesAt 30 = .ok (.iinc 2 1, 3) := by decide +kernel
theorem dX3_readyHosesAt_33 : decode cX3_readyHosesAt 33 = .ok (.iinc 3 1, 3) := by decide +kernel
theorem dX3_readyHosesAt_36 : decode cX3_readyHosesAt 36 = .ok (.goto (-32), 3) := by decide +kernel
theorem dX3_readyHosesAt_39 : decode cX3_readyHosesAt 39 = .ok (.iload_n 2, 1) := by decide +kernel
theorem dX3_readyHosesAt_40 : decode cX3_readyHosesAt 40 = .ok (.ireturn, 1) := by decide +kernel
theorem dX3_readyHoses_0 : decode cX3_readyHoses 0 = .ok (.iconst 0, 1) := by decide +kernel
theorem dX3_readyHoses_1 : decode cX3_readyHoses 1 = .ok (.istore_n 1, 1) := by decide +kernel
theorem dX3_readyHoses_2 : decode cX3_readyHoses 2 = .ok (.iconst 0, 1) := by decide +kernel
theorem dX3_readyHoses_3 : decode cX3_readyHoses 3 = .ok (.istore_n 2, 1) := by decide +kernel
theorem dX3_readyHoses_4 : decode cX3_readyHoses 4 = .ok (.iload_n 2, 1) := by decide +kernel
theorem dX3_readyHoses_5 : decode cX3_readyHoses 5 = .ok (.aload_n 0, 1) := by decide +kernel
theorem dX3_readyHoses_6 : decode cX3_readyHoses 6 = .ok (.getfield 56, 3) := by decide +kernel
theorem dX3_readyHoses_9 : decode cX3_readyHoses 9 = .ok (.if_icmp .ge 20, 3) := by decide +kernel
theorem dX3_readyHoses_12 : decode cX3_readyHoses 12 = .ok (.aload_n 0, 1) := by decide +kernel
theorem dX3_readyHoses_13 : decode cX3_readyHoses 13 = .ok (.iload_n 2, 1) := by decide +kernel
theorem dX3_readyHoses_14 : decode cX3_readyHoses 14 = .ok (.invokevirtual 138, 3) := by decide +kernel
theorem dX3_readyHoses_17 : decode cX3_readyHoses 17 = .ok (.ifCond .eq 6, 3) := by decide +kernel
theorem dX3_readyHoses_20 : decode cX3_readyHoses 20 = .ok (.iinc 1 1, 3) := by decide +kernel
theorem dX3_readyHoses_23 : decode cX3_readyHoses 23 = .ok (.iinc 2 1, 3) := by decide +kernel
theorem dX3_readyHoses_26 : decode cX3_readyHoses 26 = .ok (.goto (-22), 3) := by decide +kernel
theorem dX3_readyHoses_29 : decode cX3_readyHoses 29 = .ok (.iload_n 1, 1) := by decide +kernel
theorem dX3_readyHoses_30 : decode cX3_readyHoses 30 = .ok (.ireturn, 1) := by decide +kernel
theorem dX3_layLine_0 : decode cX3_layLine 0 = .ok (.aload_n 0, 1) := by decide +kernel
theorem dX3_layLine_1 : decode cX3_layLine 1 = .ok (.getfield 52, 3) := by decide +kernel
theorem dX3_layLine_4 : decode cX3_layLine 4 = .ok (.invokevirtual 141, 3) := by decide +kernel
theorem dX3_layLine_7 : decode cX3_layLine 7 = .ok (.iconst 0, 1) := by decide +kernel
theorem dX3_layLine_8 : decode cX3_layLine 8 = .ok (.istore_n 3, 1) := by decide +kernel
theorem dX3_layLine_9 : decode cX3_layLine 9 = .ok (.iload_n 3, 1) := by decide +kernel
theorem dX3_layLine_10 : decode cX3_layLine 10 = .ok (.aload_n 0, 1) := by decide +kernel
theorem dX3_layLine_11 : decode cX3_layLine 11 = .ok (.getfield 56, 3) := by decide +kernel
theorem dX3_layLine_14 : decode cX3_layLine 14 = .ok (.if_icmp .ge 58, 3) := by decide +kernel
theorem dX3_layLine_17 : decode cX3_layLine 17 = .ok (.aload_n 0, 1) := by decide +kernel
theorem dX3_layLine_18 : decode cX3_layLine 18 = .ok (.getfield 43, 3) := by decide +kernel
theorem dX3_layLine_21 : decode cX3_layLine 21 = .ok (.iload_n 3, 1) := by decide +kernel
theorem dX3_layLine_22 : decode cX3_layLine 22 = .ok (.iaload, 1) := by decide +kernel
theorem dX3_layLine_23 : decode cX3_layLine 23 = .ok (.iload_n 1, 1) := by decide +kernel
theorem dX3_layLine_24 : decode cX3_layLine 24 = .ok (.if_icmp .eq 8, 3) := by decide +kernel
theorem dX3_layLine_27 : decode cX3_layLine 27 = .ok (.iload_n 3, 1) := by decide +kernel
theorem dX3_layLine_28 : decode cX3_layLine 28 = .ok (.iload_n 2, 1) := by decide +kernel
theorem dX3_layLine_29 : decode cX3_layLine 29 = .ok (.if_icmp .ne 37, 3) := by decide +kernel
theorem dX3_layLine_32 : decode cX3_layLine 32 = .ok (.aload_n 0, 1) := by decide +kernel
theorem dX3_layLine_33 : decode cX3_layLine 33 = .ok (.iload_n 3, 1) := by decide +kernel
theorem dX3_layLine_34 : decode cX3_layLine 34 = .ok (.invokevirtual 138, 3) := by decide +kernel
theorem dX3_layLine_37 : decode cX3_layLine 37 = .ok (.ifCond .eq 29, 3) := by decide +kernel
theorem dX3_layLine_40 : decode cX3_layLine 40 = .ok (.aload_n 0, 1) := by decide +kernel
theorem dX3_layLine_41 : decode cX3_layLine 41 = .ok (.getfield 52, 3) := by decide +kernel
theorem dX3_layLine_44 : decode cX3_layLine 44 = .ok (.iload_n 3, 1) := by decide +kernel
theorem dX3_layLine_45 : decode cX3_layLine 45 = .ok (.aload_n 0, 1) := by decide +kernel
theorem dX3_layLine_46 : decode cX3_layLine 46 = .ok (.getfield 28, 3) := by decide +kernel
theorem dX3_layLine_49 : decode cX3_layLine 49 = .ok (.iload_n 3, 1) := by decide +kernel
theorem dX3_layLine_50 : decode cX3_layLine 50 = .ok (.iaload, 1) := by decide +kernel
theorem dX3_layLine_51 : decode cX3_layLine 51 = .ok (.aload_n 0, 1) := by decide +kernel
theorem dX3_layLine_52 : decode cX3_layLine 52 = .ok (.getfield 31, 3) := by decide +kernel
theorem dX3_layLine_55 : decode cX3_layLine 55 = .ok (.iload_n 3, 1) := by decide +kernel
theorem dX3_layLine_56 : decode cX3_layLine 56 = .ok (.iaload, 1) := by decide +kernel
theorem dX3_layLine_57 : decode cX3_layLine 57 = .ok (.aload_n 0, 1) := by decide +kernel
theorem dX3_layLine_58 : decode cX3_layLine 58 = .ok (.getfield 22, 3) := by decide +kernel
theorem dX3_layLine_61 : decode cX3_layLine 61 = .ok (.iconst 1, 1) := by decide +kernel
theorem dX3_layLine_62 : decode cX3_layLine 62 = .ok (.iaload, 1) := by decide +kernel
theorem dX3_layLine_63 : decode cX3_layLine 63 = .ok (.invokevirtual 144, 3) := by decide +kernel
theorem dX3_layLine_66 : decode cX3_layLine 66 = .ok (.iinc 3 1, 3) := by decide +kernel
theorem dX3_layLine_69 : decode cX3_layLine 69 = .ok (.goto (-60), 3) := by decide +kernel
theorem dX3_layLine_72 : decode cX3_layLine 72 = .ok (.aload_n 0, 1) := by decide +kernel
theorem dX3_layLine_73 : decode cX3_layLine 73 = .ok (.getfield 52, 3) := by decide +kernel
theorem dX3_layLine_76 : decode cX3_layLine 76 = .ok (.getfield 148, 3) := by decide +kernel
theorem dX3_layLine_79 : decode cX3_layLine 79 = .ok (.aload_n 0, 1) := by decide +kernel
theorem dX3_layLine_80 : decode cX3_layLine 80 = .ok (.getfield 18, 3) := by decide +kernel
theorem dX3_layLine_83 : decode cX3_layLine 83 = .ok (.iload_n 1, 1) := by decide +kernel
theorem dX3_layLine_84 : decode cX3_layLine 84 = .ok (.iaload, 1) := by decide +kernel
theorem dX3_layLine_85 : decode cX3_layLine 85 = .ok (.if_icmp .lt 7, 3) := by decide +kernel
theorem dX3_layLine_88 : decode cX3_layLine 88 = .ok (.iconst 1, 1) := by decide +kernel
theorem dX3_layLine_89 : decode cX3_layLine 89 = .ok (.goto 4, 3) := by decide +kernel
theorem dX3_layLine_92 : decode cX3_layLine 92 = .ok (.iconst 0, 1) := by decide +kernel
theorem dX3_layLine_93 : decode cX3_layLine 93 = .ok (.ireturn, 1) := by decide +kernel
theorem dX3_wholeTrucks_0 : decode cX3_wholeTrucks 0 = .ok (.iconst 0, 1) := by decide +kernel
theorem dX3_wholeTrucks_1 : decode cX3_wholeTrucks 1 = .ok (.istore_n 1, 1) := by decide +kernel
theorem dX3_wholeTrucks_2 : decode cX3_wholeTrucks 2 = .ok (.iconst 0, 1) := by decide +kernel
theorem dX3_wholeTrucks_3 : decode cX3_wholeTrucks 3 = .ok (.istore_n 2, 1) := by decide +kernel
theorem dX3_wholeTrucks_4 : decode cX3_wholeTrucks 4 = .ok (.iload_n 2, 1) := by decide +kernel
theorem dX3_wholeTrucks_5 : decode cX3_wholeTrucks 5 = .ok (.iconst 3, 1) := by decide +kernel
theorem dX3_wholeTrucks_6 : decode cX3_wholeTrucks 6 = .ok (.if_icmp .ge 21, 3) := by decide +kernel
theorem dX3_wholeTrucks_9 : decode cX3_wholeTrucks 9 = .ok (.aload_n 0, 1) := by decide +kernel
theorem dX3_wholeTrucks_10 : decode cX3_wholeTrucks 10 = .ok (.iload_n 2, 1) := by decide +kernel
theorem dX3_wholeTrucks_11 : decode cX3_wholeTrucks 11 = .ok (.iconst (-1), 1) := by decide +kernel
theorem dX3_wholeTrucks_12 : decode cX3_wholeTrucks 12 = .ok (.invokevirtual 151, 3) := by decide +kernel
theorem dX3_wholeTrucks_15 : decode cX3_wholeTrucks 15 = .ok (.ifCond .eq 6, 3) := by decide +kernel
theorem dX3_wholeTrucks_18 : decode cX3_wholeTrucks 18 = .ok (.iinc 1 1, 3) := by decide +kernel
theorem dX3_wholeTrucks_21 : decode cX3_wholeTrucks 21 = .ok (.iinc 2 1, 3) := by decide +kernel
theorem dX3_wholeTrucks_24 : decode cX3_wholeTrucks 24 = .ok (.goto (-20), 3) := by decide +kernel
theorem dX3_wholeTrucks_27 : decode cX3_wholeTrucks 27 = .ok (.iload_n 1, 1) := by decide +kernel
theorem dX3_wholeTrucks_28 : decode cX3_wholeTrucks 28 = .ok (.ireturn, 1) := by decide +kernel
theorem dX3_cheapestHelp_0 : decode cX3_cheapestHelp 0 = .ok (.aload_n 0, 1) := by decide +kernel
theorem dX3_cheapestHelp_1 : decode cX3_cheapestHelp 1 = .ok (.iload_n 1, 1) := by decide +kernel
theorem dX3_cheapestHelp_2 : decode cX3_cheapestHelp 2 = .ok (.iconst (-1), 1) := by decide +kernel
theorem dX3_cheapestHelp_3 : decode cX3_cheapestHelp 3 = .ok (.invokevirtual 151, 3) := by decide +kernel
theorem dX3_cheapestHelp_6 : decode cX3_cheapestHelp 6 = .ok (.ifCond .eq 5, 3) := by decide +kernel
theorem dX3_cheapestHelp_9 : decode cX3_cheapestHelp 9 = .ok (.iconst (-1), 1) := by decide +kernel
theorem dX3_cheapestHelp_10 : decode cX3_cheapestHelp 10 = .ok (.ireturn, 1) := by decide +kernel
theorem dX3_cheapestHelp_11 : decode cX3_cheapestHelp 11 = .ok (.iconst (-1), 1) := by decide +kernel
theorem dX3_cheapestHelp_12 : decode cX3_cheapestHelp 12 = .ok (.istore_n 2, 1) := by decide +kernel
theorem dX3_cheapestHelp_13 : decode cX3_cheapestHelp 13 = .ok (.iconst 0, 1) := by decide +kernel
theorem dX3_cheapestHelp_14 : decode cX3_cheapestHelp 14 = .ok (.istore_n 3, 1) := by decide +kernel
theorem dX3_cheapestHelp_15 : decode cX3_cheapestHelp 15 = .ok (.iconst 0, 1) := by decide +kernel
theorem dX3_cheapestHelp_16 : decode cX3_cheapestHelp 16 = .ok (.istore 4, 2) := by decide +kernel
theorem dX3_cheapestHelp_18 : decode cX3_cheapestHelp 18 = .ok (.iload 4, 2) := by decide +kernel
theorem dX3_cheapestHelp_20 : decode cX3_cheapestHelp 20 = .ok (.aload_n 0, 1) := by decide +kernel
theorem dX3_cheapestHelp_21 : decode cX3_cheapestHelp 21 = .ok (.getfield 56, 3) := by decide +kernel
theorem dX3_cheapestHelp_24 : decode cX3_cheapestHelp 24 = .ok (.if_icmp .ge 76, 3) := by decide +kernel
theorem dX3_cheapestHelp_27 : decode cX3_cheapestHelp 27 = .ok (.aload_n 0, 1) := by decide +kernel
theorem dX3_cheapestHelp_28 : decode cX3_cheapestHelp 28 = .ok (.getfield 43, 3) := by decide +kernel
theorem dX3_cheapestHelp_31 : decode cX3_cheapestHelp 31 = .ok (.iload 4, 2) := by decide +kernel
theorem dX3_cheapestHelp_33 : decode cX3_cheapestHelp 33 = .ok (.iaload, 1) := by decide +kernel
theorem dX3_cheapestHelp_34 : decode cX3_cheapestHelp 34 = .ok (.iconst 3, 1) := by decide +kernel
theorem dX3_cheapestHelp_35 : decode cX3_cheapestHelp 35 = .ok (.if_icmp .ne 26, 3) := by decide +kernel
theorem dX3_cheapestHelp_38 : decode cX3_cheapestHelp 38 = .ok (.aload_n 0, 1) := by decide +kernel
theorem dX3_cheapestHelp_39 : decode cX3_cheapestHelp 39 = .ok (.iload 4, 2) := by decide +kernel
theorem dX3_cheapestHelp_41 : decode cX3_cheapestHelp 41 = .ok (.invokevirtual 138, 3) := by decide +kernel
theorem dX3_cheapestHelp_44 : decode cX3_cheapestHelp 44 = .ok (.ifCond .eq 17, 3) := by decide +kernel
theorem dX3_cheapestHelp_47 : decode cX3_cheapestHelp 47 = .ok (.aload_n 0, 1) := by decide +kernel
theorem dX3_cheapestHelp_48 : decode cX3_cheapestHelp 48 = .ok (.iload_n 1, 1) := by decide +kernel
theorem dX3_cheapestHelp_49 : decode cX3_cheapestHelp 49 = .ok (.iload 4, 2) := by decide +kernel
theorem dX3_cheapestHelp_51 : decode cX3_cheapestHelp 51 = .ok (.invokevirtual 151, 3) := by decide +kernel
theorem dX3_cheapestHelp_54 : decode cX3_cheapestHelp 54 = .ok (.ifCond .eq 7, 3) := by decide +kernel
theorem dX3_cheapestHelp_57 : decode cX3_cheapestHelp 57 = .ok (.iconst 1, 1) := by decide +kernel
theorem dX3_cheapestHelp_58 : decode cX3_cheapestHelp 58 = .ok (.goto 4, 3) := by decide +kernel
theorem dX3_cheapestHelp_61 : decode cX3_cheapestHelp 61 = .ok (.iconst 0, 1) := by decide +kernel
theorem dX3_cheapestHelp_62 : decode cX3_cheapestHelp 62 = .ok (.istore 5, 2) := by decide +kernel
theorem dX3_cheapestHelp_64 : decode cX3_cheapestHelp 64 = .ok (.iload 5, 2) := by decide +kernel
theorem dX3_cheapestHelp_66 : decode cX3_cheapestHelp 66 = .ok (.ifCond .eq 28, 3) := by decide +kernel
theorem dX3_cheapestHelp_69 : decode cX3_cheapestHelp 69 = .ok (.iload_n 2, 1) := by decide +kernel
theorem dX3_cheapestHelp_70 : decode cX3_cheapestHelp 70 = .ok (.iconst (-1), 1) := by decide +kernel
theorem dX3_cheapestHelp_71 : decode cX3_cheapestHelp 71 = .ok (.if_icmp .eq 13, 3) := by decide +kernel
theorem dX3_cheapestHelp_74 : decode cX3_cheapestHelp 74 = .ok (.aload_n 0, 1) := by decide +kernel
theorem dX3_cheapestHelp_75 : decode cX3_cheapestHelp 75 = .ok (.iload 4, 2) := by decide +kernel
theorem dX3_cheapestHelp_77 : decode cX3_cheapestHelp 77 = .ok (.invokevirtual 102, 3) := by decide +kernel
theorem dX3_cheapestHelp_80 : decode cX3_cheapestHelp 80 = .ok (.iload_n 3, 1) := by decide +kernel
theorem dX3_cheapestHelp_81 : decode cX3_cheapestHelp 81 = .ok (.if_icmp .ge 13, 3) := by decide +kernel
theorem dX3_cheapestHelp_84 : decode cX3_cheapestHelp 84 = .ok (.iload 4, 2) := by decide +kernel
theorem dX3_cheapestHelp_86 : decode cX3_cheapestHelp 86 = .ok (.istore_n 2, 1) := by decide +kernel
theorem dX3_cheapestHelp_87 : decode cX3_cheapestHelp 87 = .ok (.aload_n 0, 1) := by decide +kernel
theorem dX3_cheapestHelp_88 : decode cX3_cheapestHelp 88 = .ok (.iload 4, 2) := by decide +kernel
theorem dX3_cheapestHelp_90 : decode cX3_cheapestHelp 90 = .ok (.invokevirtual 102, 3) := by decide +kernel
theorem dX3_cheapestHelp_93 : decode cX3_cheapestHelp 93 = .ok (.istore_n 3, 1) := by decide +kernel
theorem dX3_cheapestHelp_94 : decode cX3_cheapestHelp 94 = .ok (.iinc 4 1, 3) := by decide +kernel
theorem dX3_cheapestHelp_97 : decode cX3_cheapestHelp 97 = .ok (.goto (-79), 3) := by decide +kernel
theorem dX3_cheapestHelp_100 : decode cX3_cheapestHelp 100 = .ok (.iload_n 2, 1) := by decide +kernel
theorem dX3_cheapestHelp_101 : decode cX3_cheapestHelp 101 = .ok (.ireturn, 1) := by decide +kernel
theorem dX3_daysToFirstLapse_0 : decode cX3_daysToFirstLapse 0 = .ok (.iconst (-1), 1) := by decide +kernel
theorem dX3_daysToFirstLapse_1 : decode cX3_daysToFirstLapse 1 = .ok (.istore_n 1, 1) := by decide +kernel
theorem dX3_daysToFirstLapse_2 : decode cX3_daysToFirstLapse 2 = .ok (.iconst 0, 1) := by decide +kernel
theorem dX3_daysToFirstLapse_3 : decode cX3_daysToFirstLapse 3 = .ok (.istore_n 2, 1) := by decide +kernel
theorem dX3_daysToFirstLapse_4 : decode cX3_daysToFirstLapse 4 = .ok (.iload_n 2, 1) := by decide +kernel
theorem dX3_daysToFirstLapse_5 : decode cX3_daysToFirstLapse 5 = .ok (.aload_n 0, 1) := by decide +kernel
theorem dX3_daysToFirstLapse_6 : decode cX3_daysToFirstLapse 6 = .ok (.getfield 56, 3) := by decide +kernel
theorem dX3_daysToFirstLapse_9 : decode cX3_daysToFirstLapse 9 = .ok (.if_icmp .ge 70, 3) := by decide +kernel
theorem dX3_daysToFirstLapse_12 : decode cX3_daysToFirstLapse 12 = .ok (.aload_n 0, 1) := by decide +kernel
theorem dX3_daysToFirstLapse_13 : decode cX3_daysToFirstLapse 13 = .ok (.iload_n 2, 1) := by decide +kernel
theorem dX3_daysToFirstLapse_14 : decode cX3_daysToFirstLapse 14 = .ok (.invokevirtual 138, 3) := by decide +kernel
theorem dX3_daysToFirstLapse_17 : decode cX3_daysToFirstLapse 17 = .ok (.ifCond .eq 56, 3) := by decide +kernel
theorem dX3_daysToFirstLapse_20 : decode cX3_daysToFirstLapse 20 = .ok (.aload_n 0, 1) := by decide +kernel
theorem dX3_daysToFirstLapse_21 : decode cX3_daysToFirstLapse 21 = .ok (.getfield 40, 3) := by decide +kernel
theorem dX3_daysToFirstLapse_24 : decode cX3_daysToFirstLapse 24 = .ok (.iload_n 2, 1) := by decide +kernel
theorem dX3_daysToFirstLapse_25 : decode cX3_daysToFirstLapse 25 = .ok (.iaload, 1) := by decide +kernel
theorem dX3_daysToFirstLapse_26 : decode cX3_daysToFirstLapse 26 = .ok (.aload_n 0, 1) := by decide +kernel
theorem dX3_daysToFirstLapse_27 : decode cX3_daysToFirstLapse 27 = .ok (.getfield 34, 3) := by decide +kernel
theorem dX3_daysToFirstLapse_30 : decode cX3_daysToFirstLapse 30 = .ok (.iload_n 2, 1) := by decide +kernel
theorem dX3_daysToFirstLapse_31 : decode cX3_daysToFirstLapse 31 = .ok (.iaload, 1) := by decide +kernel
theorem dX3_daysToFirstLapse_32 : decode cX3_daysToFirstLapse 32 = .ok (.aload_n 0, 1) := by decide +kernel
theorem dX3_daysToFirstLapse_33 : decode cX3_daysToFirstLapse 33 = .ok (.getfield 25, 3) := by decide +kernel
theorem dX3_daysToFirstLapse_36 : decode cX3_daysToFirstLapse 36 = .ok (.iload_n 2, 1) := by decide +kernel
theorem dX3_daysToFirstLapse_37 : decode cX3_daysToFirstLapse 37 = .ok (.iaload, 1) := by decide +kernel
theorem dX3_daysToFirstLapse_38 : decode cX3_daysToFirstLapse 38 = .ok (.invokestatic 89, 3) := by decide +kernel
theorem dX3_daysToFirstLapse_41 : decode cX3_daysToFirstLapse 41 = .ok (.iadd, 1) := by decide +kernel
theorem dX3_daysToFirstLapse_42 : decode cX3_daysToFirstLapse 42 = .ok (.invokestatic 112, 3) := by decide +kernel
theorem dX3_daysToFirstLapse_45 : decode cX3_daysToFirstLapse 45 = .ok (.istore_n 3, 1) := by decide +kernel
theorem dX3_daysToFirstLapse_46 : decode cX3_daysToFirstLapse 46 = .ok (.iload_n 3, 1) := by decide +kernel
theorem dX3_daysToFirstLapse_47 : decode cX3_daysToFirstLapse 47 = .ok (.iconst 1, 1) := by decide +kernel
theorem dX3_daysToFirstLapse_48 : decode cX3_daysToFirstLapse 48 = .ok (.iadd, 1) := by decide +kernel
theorem dX3_daysToFirstLapse_49 : decode cX3_daysToFirstLapse 49 = .ok (.aload_n 0, 1) := by decide +kernel
theorem dX3_daysToFirstLapse_50 : decode cX3_daysToFirstLapse 50 = .ok (.getfield 9, 3) := by decide +kernel
theorem dX3_daysToFirstLapse_53 : decode cX3_daysToFirstLapse 53 = .ok (.isub, 1) := by decide +kernel
theorem dX3_daysToFirstLapse_54 : decode cX3_daysToFirstLapse 54 = .ok (.istore 4, 2) := by decide +kernel
theorem dX3_daysToFirstLapse_56 : decode cX3_daysToFirstLapse 56 = .ok (.iload_n 1, 1) := by decide +kernel
theorem dX3_daysToFirstLapse_57 : decode cX3_daysToFirstLapse 57 = .ok (.iconst (-1), 1) := by decide +kernel
theorem dX3_daysToFirstLapse_58 : decode cX3_daysToFirstLapse 58 = .ok (.if_icmp .ne 8, 3) := by decide +kernel
theorem dX3_daysToFirstLapse_61 : decode cX3_daysToFirstLapse 61 = .ok (.iload 4, 2) := by decide +kernel
theorem dX3_daysToFirstLapse_63 : decode cX3_daysToFirstLapse 63 = .ok (.goto 9, 3) := by decide +kernel
theorem dX3_daysToFirstLapse_66 : decode cX3_daysToFirstLapse 66 = .ok (.iload_n 1, 1) := by decide +kernel
theorem dX3_daysToFirstLapse_67 : decode cX3_daysToFirstLapse 67 = .ok (.iload 4, 2) := by decide +kernel
theorem dX3_daysToFirstLapse_69 : decode cX3_daysToFirstLapse 69 = .ok (.invokestatic 112, 3) := by decide +kernel
theorem dX3_daysToFirstLapse_72 : decode cX3_daysToFirstLapse 72 = .ok (.istore_n 1, 1) := by decide +kernel
theorem dX3_daysToFirstLapse_73 : decode cX3_daysToFirstLapse 73 = .ok (.iinc 2 1, 3) := by decide +kernel
theorem dX3_daysToFirstLapse_76 : decode cX3_daysToFirstLapse 76 = .ok (.goto (-72), 3) := by decide +kernel
theorem dX3_daysToFirstLapse_79 : decode cX3_daysToFirstLapse 79 = .ok (.iload_n 1, 1) := by decide +kernel
theorem dX3_daysToFirstLapse_80 : decode cX3_daysToFirstLapse 80 = .ok (.ireturn, 1) := by decide +kernel
theorem dX4_init_0 : decode cX4_init 0 = .ok (.aload_n 0, 1) := by decide +kernel
theorem dX4_init_1 : decode cX4_init 1 = .ok (.invokespecial 1, 3) := by decide +kernel
theorem dX4_init_4 : decode cX4_init 4 = .ok (.aload_n 0, 1) := by decide +kernel
theorem dX4_init_5 : decode cX4_init 5 = .ok (.new 7, 3) := by decide +kernel
theorem dX4_init_8 : decode cX4_init 8 = .ok (.dup, 1) := by decide +kernel
theorem dX4_init_9 : decode cX4_init 9 = .ok (.invokespecial 9, 3) := by decide +kernel
theorem dX4_init_12 : decode cX4_init 12 = .ok (.putfield 10, 3) := by decide +kernel
theorem dX4_init_15 : decode cX4_init 15 = .ok (.aload_n 0, 1) := by decide +kernel
theorem dX4_init_16 : decode cX4_init 16 = .ok (.bipush 6, 2) := by decide +kernel
theorem dX4_init_18 : decode cX4_init 18 = .ok (.anewarray 7, 3) := by decide +kernel
theorem dX4_init_21 : decode cX4_init 21 = .ok (.putfield 16, 3) := by decide +kernel
theorem dX4_init_24 : decode cX4_init 24 = .ok (.iconst 0, 1) := by decide +kernel
theorem dX4_init_25 : decode cX4_init 25 = .ok (.istore_n 1, 1) := by decide +kernel
theorem dX4_init_26 : decode cX4_init 26 = .ok (.iload_n 1, 1) := by decide +kernel
theorem dX4_init_27 : decode cX4_init 27 = .ok (.bipush 6, 2) := by decide +kernel
theorem dX4_init_29 : decode cX4_init 29 = .ok (.if_icmp .ge 22, 3) := by decide +kernel
theorem dX4_init_32 : decode cX4_init 32 = .ok (.aload_n 0, 1) := by decide +kernel
theorem dX4_init_33 : decode cX4_init 33 = .ok (.getfield 16, 3) := by decide +kernel
theorem dX4_init_36 : decode cX4_init 36 = .ok (.iload_n 1, 1) := by decide +kernel
theorem dX4_init_37 : decode cX4_init 37 = .ok (.new 7, 3) := by decide +kernel
theorem dX4_init_40 : decode cX4_init 40 = .ok (.dup, 1) := by decide +kernel
theorem dX4_init_41 : decode cX4_init 41 = .ok (.invokespecial 9, 3) := by decide +kernel
theorem dX4_init_44 : decode cX4_init 44 = .ok (.aastore, 1) := by decide +kernel
theorem dX4_init_45 : decode cX4_init 45 = .ok (.iinc 1 1, 3) := by decide +kernel
theorem dX4_init_48 : decode cX4_init 48 = .ok (.goto (-22), 3) := by decide +kernel
theorem dX4_init_51 : decode cX4_init 51 = .ok (.aload_n 0, 1) := by decide +kernel
theorem dX4_init_52 : decode cX4_init 52 = .ok (.iconst 0, 1) := by decide +kernel
theorem dX4_init_53 : decode cX4_init 53 = .ok (.putfield 20, 3) := by decide +kernel
theorem dX4_init_56 : decode cX4_init 56 = .ok (.aload_n 0, 1) := by decide +kernel
theorem dX4_init_57 : decode cX4_init 57 = .ok (.iconst 0, 1) := by decide +kernel
theorem dX4_init_58 : decode cX4_init 58 = .ok (.putfield 24, 3) := by decide +kernel
theorem dX4_init_61 : decode cX4_init 61 = .ok (.aload_n 0, 1) := by decide +kernel
theorem dX4_init_62 : decode cX4_init 62 = .ok (.new 27, 3) := by decide +kernel
theorem dX4_init_65 : decode cX4_init 65 = .ok (.dup, 1) := by decide +kernel
theorem dX4_init_66 : decode cX4_init 66 = .ok (.invokespecial 29, 3) := by decide +kernel
theorem dX4_init_69 : decode cX4_init 69 = .ok (.putfield 30, 3) := by decide +kernel
theorem dX4_init_72 : decode cX4_init 72 = .ok (.return_, 1) := by decide +kernel
theorem dX4_buy_0 : decode cX4_buy 0 = .ok (.iload_n 1, 1) := by decide +kernel
theorem dX4_buy_1 : decode cX4_buy 1 = .ok (.iconst 0, 1) := by decide +kernel
theorem dX4_buy_2 : decode cX4_buy 2 = .ok (.iconst 2, 1) := by decide +kernel
theorem dX4_buy_3 : decode cX4_buy 3 = .ok (.invokestatic 34, 3) := by decide +kernel
theorem dX4_buy_6 : decode cX4_buy 6 = .ok (.ifCond .eq 22, 3) := by decide +kernel
theorem dX4_buy_9 : decode cX4_buy 9 = .ok (.iload_n 2, 1) := by decide +kernel
theorem dX4_buy_10 : decode cX4_buy 10 = .ok (.iconst 5, 1) := by decide +kernel
theorem dX4_buy_11 : decode cX4_buy 11 = .ok (.bipush 50, 2) := by decide +kernel
theorem dX4_buy_13 : decode cX4_buy 13 = .ok (.invokestatic 34, 3) := by decide +kernel
theorem dX4_buy_16 : decode cX4_buy 16 = .ok (.ifCond .eq 12, 3) := by decide +kernel
theorem dX4_buy_19 : decode cX4_buy 19 = .ok (.iload_n 3, 1) := by decide +kernel
theorem dX4_buy_20 : decode cX4_buy 20 = .ok (.iconst 0, 1) := by decide +kernel
theorem dX4_buy_21 : decode cX4_buy 21 = .ok (.iconst 2, 1) := by decide +kernel
theorem dX4_buy_22 : decode cX4_buy 22 = .ok (.invokestatic 34, 3) := by decide +kernel
theorem dX4_buy_25 : decode cX4_buy 25 = .ok (.ifCond .ne 13, 3) := by decide +kernel
theorem dX4_buy_28 : decode cX4_buy 28 = .ok (.new 38, 3) := by decide +kernel
theorem dX4_buy_31 : decode cX4_buy 31 = .ok (.dup, 1) := by decide +kernel
theorem dX4_buy_32 : decode cX4_buy 32 = .ok (.ldc 40, 2) := by decide +kernel
theorem dX4_buy_34 : decode cX4_buy 34 = .ok (.invokespecial 42, 3) := by decide +kernel
theorem dX4_buy_37 : decode cX4_buy 37 = .ok (.athrow, 1) := by decide +kernel
theorem dX4_buy_38 : decode cX4_buy 38 = .ok (.aload_n 0, 1) := by decide +kernel
theorem dX4_buy_39 : decode cX4_buy 39 = .ok (.getfield 10, 3) := by decide +kernel
theorem dX4_buy_42 : decode cX4_buy 42 = .ok (.iload_n 1, 1) := by decide +kernel
theorem dX4_buy_43 : decode cX4_buy 43 = .ok (.iload_n 2, 1) := by decide +kernel
theorem dX4_buy_44 : decode cX4_buy 44 = .ok (.invokevirtual 45, 3) := by decide +kernel
theorem dX4_buy_47 : decode cX4_buy 47 = .ok (.ifCond .ne 13, 3) := by decide +kernel
theorem dX4_buy_50 : decode cX4_buy 50 = .ok (.new 49, 3) := by decide +kernel
theorem dX4_buy_53 : decode cX4_buy 53 = .ok (.dup, 1) := by decide +kernel
theorem dX4_buy_54 : decode cX4_buy 54 = .ok (.ldc 51, 2) := by decide +kernel
theorem dX4_buy_56 : decode cX4_buy 56 = .ok (.invokespecial 53, 3) := by decide +kernel
theorem dX4_buy_59 : decode cX4_buy 59 = .ok (.athrow, 1) := by decide +kernel
theorem dX4_buy_60 : decode cX4_buy 60 = .ok (.aload_n 0, 1) := by decide +kernel
theorem dX4_buy_61 : decode cX4_buy 61 = .ok (.invokevirtual 54, 3) := by decide +kernel
theorem dX4_buy_64 : decode cX4_buy 64 = .ok (.aload_n 0, 1) := by decide +kernel
theorem dX4_buy_65 : decode cX4_buy 65 = .ok (.getfield 10, 3) := by decide +kernel
theorem dX4_buy_68 : decode cX4_buy 68 = .ok (.iload_n 1, 1) := by decide +kernel
theorem dX4_buy_69 : decode cX4_buy 69 = .ok (.iload_n 2, 1) := by decide +kernel
theorem dX4_buy_70 : decode cX4_buy 70 = .ok (.iload_n 3, 1) := by decide +kernel
theorem dX4_buy_71 : decode cX4_buy 71 = .ok (.iconst 3, 1) := by decide +kernel
theorem dX4_buy_72 : decode cX4_buy 72 = .ok (.invokevirtual 57, 3) := by decide +kernel
theorem dX4_buy_75 : decode cX4_buy 75 = .ok (.ireturn, 1) := by decide +kernel
theorem dX4_renew_0 : decode cX4_renew 0 = .ok (.aload_n 0, 1) := by decide +kernel
theorem dX4_renew_1 : decode cX4_renew 1 = .ok (.iload_n 1, 1) := by decide +kernel
theorem dX4_renew_2 : decode cX4_renew 2 = .ok (.invokevirtual 61, 3) := by decide +kernel
theorem dX4_renew_5 : decode cX4_renew 5 = .ok (.aload_n 0, 1) := by decide +kernel
theorem dX4_renew_6 : decode cX4_renew 6 = .ok (.iload_n 1, 1) := by decide +kernel
theorem dX4_renew_7 : decode cX4_renew 7 = .ok (.invokevirtual 65, 3) := by decide +kernel
theorem dX4_renew_10 : decode cX4_renew 10 = .ok (.aload_n 0, 1) := by decide +kernel
theorem dX4_renew_11 : decode cX4_renew 11 = .ok (.getfield 10, 3) := by decide +kernel
theorem dX4_renew_14 : decode cX4_renew 14 = .ok (.aload_n 0, 1) := by decide +kernel
theorem dX4_renew_15 : decode cX4_renew 15 = .ok (.getfield 10, 3) := by decide +kernel
theorem dX4_renew_18 : decode cX4_renew 18 = .ok (.getfield 68, 3) := by decide +kernel
theorem dX4_renew_21 : decode cX4_renew 21 = .ok (.iload_n 1, 1) := by decide +kernel
theorem dX4_renew_22 : decode cX4_renew 22 = .ok (.iaload, 1) := by decide +kernel
theorem dX4_renew_23 : decode cX4_renew 23 = .ok (.aload_n 0, 1) := by decide +kernel
theorem dX4_renew_24 : decode cX4_renew 24 = .ok (.getfield 10, 3) := by decide +kernel
theorem dX4_renew_27 : decode cX4_renew 27 = .ok (.getfield 72, 3) := by decide +kernel
theorem dX4_renew_30 : decode cX4_renew 30 = .ok (.iload_n 1, 1) := by decide +kernel
theorem dX4_renew_31 : decode cX4_renew 31 = .ok (.iaload, 1) := by decide +kernel
theorem dX4_renew_32 : decode cX4_renew 32 = .ok (.invokevirtual 45, 3) := by decide +kernel
theorem dX4_renew_35 : decode cX4_renew 35 = .ok (.ifCond .ne 13, 3) := by decide +kernel
theorem dX4_renew_38 : decode cX4_renew 38 = .ok (.new 49, 3) := by decide +kernel
theorem dX4_renew_41 : decode cX4_renew 41 = .ok (.dup, 1) := by decide +kernel
theorem dX4_renew_42 : decode cX4_renew 42 = .ok (.ldc 51, 2) := by decide +kernel
theorem dX4_renew_44 : decode cX4_renew 44 = .ok (.invokespecial 53, 3) := by decide +kernel
theorem dX4_renew_47 : decode cX4_renew 47 = .ok (.athrow, 1) := by decide +kernel
theorem dX4_renew_48 : decode cX4_renew 48 = .ok (.aload_n 0, 1) := by decide +kernel
theorem dX4_renew_49 : decode cX4_renew 49 = .ok (.invokevirtual 54, 3) := by decide +kernel
theorem dX4_renew_52 : decode cX4_renew 52 = .ok (.aload_n 0, 1) := by decide +kernel
theorem dX4_renew_53 : decode cX4_renew 53 = .ok (.getfield 10, 3) := by decide +kernel
theorem dX4_renew_56 : decode cX4_renew 56 = .ok (.iload_n 1, 1) := by decide +kernel
theorem dX4_renew_57 : decode cX4_renew 57 = .ok (.invokevirtual 75, 3) := by decide +kernel
theorem dX4_renew_60 : decode cX4_renew 60 = .ok (.ireturn, 1) := by decide +kernel
theorem dX4_put_0 : decode cX4_put 0 = .ok (.aload_n 0, 1) := by decide +kernel
theorem dX4_put_1 : decode cX4_put 1 = .ok (.iload_n 1, 1) := by decide +kernel
theorem dX4_put_2 : decode cX4_put 2 = .ok (.invokevirtual 61, 3) := by decide +kernel
theorem dX4_put_5 : decode cX4_put 5 = .ok (.iload_n 2, 1) := by decide +kernel
theorem dX4_put_6 : decode cX4_put 6 = .ok (.iconst 0, 1) := by decide +kernel
theorem dX4_put_7 : decode cX4_put 7 = .ok (.iconst 3, 1) := by decide +kernel
theorem dX4_put_8 : decode cX4_put 8 = .ok (.invokestatic 34, 3) := by decide +kernel
theorem dX4_put_11 : decode cX4_put 11 = .ok (.ifCond .ne 13, 3) := by decide +kernel
theorem dX4_put_14 : decode cX4_put 14 = .ok (.new 38, 3) := by decide +kernel
theorem dX4_put_17 : decode cX4_put 17 = .ok (.dup, 1) := by decide +kernel
theorem dX4_put_18 : decode cX4_put 18 = .ok (.ldc 79, 2) := by decide +kernel
theorem dX4_put_20 : decode cX4_put 20 = .ok (.invokespecial 42, 3) := by decide +kernel
theorem dX4_put_23 : decode cX4_put 23 = .ok (.athrow, 1) := by decide +kernel
theorem dX4_put_24 : decode cX4_put 24 = .ok (.aload_n 0, 1) := by decide +kernel
theorem dX4_put_25 : decode cX4_put 25 = .ok (.iload_n 1, 1) := by decide +kernel
theorem dX4_put_26 : decode cX4_put 26 = .ok (.invokevirtual 65, 3) := by decide +kernel
theorem dX4_put_29 : decode cX4_put 29 = .ok (.aload_n 0, 1) := by decide +kernel
theorem dX4_put_30 : decode cX4_put 30 = .ok (.invokevirtual 54, 3) := by decide +kernel
theorem dX4_put_33 : decode cX4_put 33 = .ok (.aload_n 0, 1) := by decide +kernel
theorem dX4_put_34 : decode cX4_put 34 = .ok (.getfield 10, 3) := by decide +kernel
theorem dX4_put_37 : decode cX4_put 37 = .ok (.getfield 81, 3) := by decide +kernel
theorem dX4_put_40 : decode cX4_put 40 = .ok (.iload_n 1, 1) := by decide +kernel
theorem dX4_put_41 : decode cX4_put 41 = .ok (.iaload, 1) := by decide +kernel
theorem dX4_put_42 : decode cX4_put 42 = .ok (.istore_n 3, 1) := by decide +kernel
theorem dX4_put_43 : decode cX4_put 43 = .ok (.aload_n 0, 1) := by decide +kernel
theorem dX4_put_44 : decode cX4_put 44 = .ok (.getfield 10, 3) := by decide +kernel
theorem dX4_put_47 : decode cX4_put 47 = .ok (.getfield 81, 3) := by decide +kernel
theorem dX4_put_50 : decode cX4_put 50 = .ok (.iload_n 1, 1) := by decide +kernel
theorem dX4_put_51 : decode cX4_put 51 = .ok (.iload_n 2, 1) := by decide +kernel
theorem dX4_put_52 : decode cX4_put 52 = .ok (.iastore, 1) := by decide +kernel
theorem dX4_put_53 : decode cX4_put 53 = .ok (.iload_n 3, 1) := by decide +kernel
theorem dX4_put_54 : decode cX4_put 54 = .ok (.ireturn, 1) := by decide +kernel
theorem dX4_lend_0 : decode cX4_lend 0 = .ok (.aload_n 0, 1) := by decide +kernel
theorem dX4_lend_1 : decode cX4_lend 1 = .ok (.iload_n 1, 1) := by decide +kernel
theorem dX4_lend_2 : decode cX4_lend 2 = .ok (.invokevirtual 61, 3) := by decide +kernel
theorem dX4_lend_5 : decode cX4_lend 5 = .ok (.iload_n 2, 1) := by decide +kernel
theorem dX4_lend_6 : decode cX4_lend 6 = .ok (.iconst 1, 1) := by decide +kernel
theorem dX4_lend_7 : decode cX4_lend 7 = .ok (.bipush 99, 2) := by decide +kernel
theorem dX4_lend_9 : decode cX4_lend 9 = .ok (.invokestatic 34, 3) := by decide +kernel
theorem dX4_lend_12 : decode cX4_lend 12 = .ok (.ifCond .ne 13, 3) := by decide +kernel
theorem dX4_lend_15 : decode cX4_lend 15 = .ok (.new 38, 3) := by decide +kernel
theorem dX4_lend_18 : decode cX4_lend 18 = .ok (.dup, 1) := by decide +kernel
theorem dX4_lend_19 : decode cX4_lend 19 = .ok (.ldc 84, 2) := by decide +kernel
theorem dX4_lend_21 : decode cX4_lend 21 = .ok (.invokespecial 42, 3) := by decide +kernel
theorem dX4_lend_24 : decode cX4_lend 24 = .ok (.athrow, 1) := by decide +kernel
theorem dX4_lend_25 : decode cX4_lend 25 = .ok (.aload_n 0, 1) := by decide +kernel
theorem dX4_lend_26 : decode cX4_lend 26 = .ok (.getfield 10, 3) := by decide +kernel
theorem dX4_lend_29 : decode cX4_lend 29 = .ok (.iload_n 1, 1) := by decide +kernel
theorem dX4_lend_30 : decode cX4_lend 30 = .ok (.invokevirtual 86, 3) := by decide +kernel
theorem dX4_lend_33 : decode cX4_lend 33 = .ok (.ifCond .ne 13, 3) := by decide +kernel
theorem dX4_lend_36 : decode cX4_lend 36 = .ok (.new 49, 3) := by decide +kernel
theorem dX4_lend_39 : decode cX4_lend 39 = .ok (.dup, 1) := by decide +kernel
theorem dX4_lend_40 : decode cX4_lend 40 = .ok (.ldc 90, 2) := by decide +kernel
theorem dX4_lend_42 : decode cX4_lend 42 = .ok (.invokespecial 53, 3) := by decide +kernel
theorem dX4_lend_45 : decode cX4_lend 45 = .ok (.athrow, 1) := by decide +kernel
theorem dX4_lend_46 : decode cX4_lend 46 = .ok (.aload_n 0, 1) := by decide +kernel
theorem dX4_lend_47 : decode cX4_lend 47 = .ok (.invokevirtual 54, 3) := by decide +kernel
theorem dX4_lend_50 : decode cX4_lend 50 = .ok (.aload_n 0, 1) := by decide +kernel
theorem dX4_lend_51 : decode cX4_lend 51 = .ok (.getfield 10, 3) := by decide +kernel
theorem dX4_lend_54 : decode cX4_lend 54 = .ok (.iload_n 1, 1) := by decide +kernel
theorem dX4_lend_55 : decode cX4_lend 55 = .ok (.iload_n 2, 1) := by decide +kernel
theorem dX4_lend_56 : decode cX4_lend 56 = .ok (.invokevirtual 92, 3) := by decide +kernel
theorem dX4_lend_59 : decode cX4_lend 59 = .ok (.ireturn, 1) := by decide +kernel
theorem dX4_test_0 : decode cX4_test 0 = .ok (.aload_n 0, 1) := by decide +kernel
theorem dX4_test_1 : decode cX4_test 1 = .ok (.iload_n 1, 1) := by decide +kernel
theorem dX4_test_2 : decode cX4_test 2 = .ok (.invokevirtual 61, 3) := by decide +kernel
theorem dX4_test_5 : decode cX4_test 5 = .ok (.iload_n 2, 1) := by decide +kernel
theorem dX4_test_6 : decode cX4_test 6 = .ok (.invokestatic 96, 3) := by decide +kernel
theorem dX4_test_9 : decode cX4_test 9 = .ok (.aload_n 0, 1) := by decide +kernel
theorem dX4_test_10 : decode cX4_test 10 = .ok (.iload_n 1, 1) := by decide +kernel
theorem dX4_test_11 : decode cX4_test 11 = .ok (.invokevirtual 65, 3) := by decide +kernel
theorem dX4_test_14 : decode cX4_test 14 = .ok (.aload_n 0, 1) := by decide +kernel
theorem dX4_test_15 : decode cX4_test 15 = .ok (.invokevirtual 54, 3) := by decide +kernel
theorem dX4_test_18 : decode cX4_test 18 = .ok (.aload_n 0, 1) := by decide +kernel
theorem dX4_test_19 : decode cX4_test 19 = .ok (.getfield 10, 3) := by decide +kernel
theorem dX4_test_22 : decode cX4_test 22 = .ok (.iload_n 1, 1) := by decide +kernel
theorem dX4_test_23 : decode cX4_test 23 = .ok (.iload_n 2, 1) := by decide +kernel
theorem dX4_test_24 : decode cX4_test 24 = .ok (.invokevirtual 99, 3) := by decide +kernel
theorem dX4_test_27 : decode cX4_test 27 = .ok (.ireturn, 1) := by decide +kernel
theorem dX4_want_0 : decode cX4_want 0 = .ok (.iload_n 1, 1) := by decide +kernel
theorem dX4_want_1 : decode cX4_want 1 = .ok (.invokestatic 102, 3) := by decide +kernel
theorem dX4_want_4 : decode cX4_want 4 = .ok (.iload_n 2, 1) := by decide +kernel
theorem dX4_want_5 : decode cX4_want 5 = .ok (.iconst 0, 1) := by decide +kernel
theorem dX4_want_6 : decode cX4_want 6 = .ok (.sipush 200, 3) := by decide +kernel
theorem dX4_want_9 : decode cX4_want 9 = .ok (.invokestatic 34, 3) := by decide +kernel
theorem dX4_want_12 : decode cX4_want 12 = .ok (.ifCond .ne 13, 3) := by decide +kernel
theorem dX4_want_15 : decode cX4_want 15 = .ok (.new 38, 3) := by decide +kernel
theorem dX4_want_18 : decode cX4_want 18 = .ok (.dup, 1) := by decide +kernel
theorem dX4_want_19 : decode cX4_want 19 = .ok (.ldc 105, 2) := by decide +kernel
theorem dX4_want_21 : decode cX4_want 21 = .ok (.invokespecial 42, 3) := by decide +kernel
theorem dX4_want_24 : decode cX4_want 24 = .ok (.athrow, 1) := by decide +kernel
theorem dX4_want_25 : decode cX4_want 25 = .ok (.aload_n 0, 1) := by decide +kernel
theorem dX4_want_26 : decode cX4_want 26 = .ok (.invokevirtual 54, 3) := by decide +kernel
theorem dX4_want_29 : decode cX4_want 29 = .ok (.aload_n 0, 1) := by decide +kernel
theorem dX4_want_30 : decode cX4_want 30 = .ok (.getfield 10, 3) := by decide +kernel
theorem dX4_want_33 : decode cX4_want 33 = .ok (.getfield 107, 3) := by decide +kernel
theorem dX4_want_36 : decode cX4_want 36 = .ok (.iload_n 1, 1) := by decide +kernel
theorem dX4_want_37 : decode cX4_want 37 = .ok (.iaload, 1) := by decide +kernel
theorem dX4_want_38 : decode cX4_want 38 = .ok (.istore_n 3, 1) := by decide +kernel
theorem dX4_want_39 : decode cX4_want 39 = .ok (.aload_n 0, 1) := by decide +kernel
theorem dX4_want_40 : decode cX4_want 40 = .ok (.getfield 10, 3) := by decide +kernel
theorem dX4_want_43 : decode cX4_want 43 = .ok (.getfield 107, 3) := by decide +kernel
theorem dX4_want_46 : decode cX4_want 46 = .ok (.iload_n 1, 1) := by decide +kernel
theorem dX4_want_47 : decode cX4_want 47 = .ok (.iload_n 2, 1) := by decide +kernel
theorem dX4_want_48 : decode cX4_want 48 = .ok (.iastore, 1) := by decide +kernel
theorem dX4_want_49 : decode cX4_want 49 = .ok (.iload_n 3, 1) := by decide +kernel
theorem dX4_want_50 : decode cX4_want 50 = .ok (.ireturn, 1) := by decide +kernel
theorem dX4_set_0 : decode cX4_set 0 = .ok (.iload_n 1, 1) := by decide +kernel
theorem dX4_set_1 : decode cX4_set 1 = .ok (.invokestatic 110, 3) := by decide +kernel
theorem dX4_set_4 : decode cX4_set 4 = .ok (.iload_n 2, 1) := by decide +kernel
theorem dX4_set_5 : decode cX4_set 5 = .ok (.iload_n 1, 1) := by decide +kernel
theorem dX4_set_6 : decode cX4_set 6 = .ok (.invokestatic 113, 3) := by decide +kernel
theorem dX4_set_9 : decode cX4_set 9 = .ok (.iload_n 1, 1) := by decide +kernel
theorem dX4_set_10 : decode cX4_set 10 = .ok (.invokestatic 116, 3) := by decide +kernel
theorem dX4_set_13 : decode cX4_set 13 = .ok (.invokestatic 34, 3) := by decide +kernel
theorem dX4_set_16 : decode cX4_set 16 = .ok (.ifCond .ne 13, 3) := by decide +kernel
theorem dX4_set_19 : decode cX4_set 19 = .ok (.new 38, 3) := by decide +kernel
theorem dX4_set_22 : decode cX4_set 22 = .ok (.dup, 1) := by decide +kernel
theorem dX4_set_23 : decode cX4_set 23 = .ok (.ldc 119, 2) := by decide +kernel
theorem dX4_set_25 : decode cX4_set 25 = .ok (.invokespecial 42, 3) := by decide +kernel
theorem dX4_set_28 : decode cX4_set 28 = .ok (.athrow, 1) := by decide +kernel
theorem dX4_set_29 : decode cX4_set 29 = .ok (.aload_n 0, 1) := by decide +kernel
theorem dX4_set_30 : decode cX4_set 30 = .ok (.invokevirtual 54, 3) := by decide +kernel
theorem dX4_set_33 : decode cX4_set 33 = .ok (.aload_n 0, 1) := by decide +kernel
theorem dX4_set_34 : decode cX4_set 34 = .ok (.getfield 10, 3) := by decide +kernel
theorem dX4_set_37 : decode cX4_set 37 = .ok (.getfield 121, 3) := by decide +kernel
theorem dX4_set_40 : decode cX4_set 40 = .ok (.iload_n 1, 1) := by decide +kernel
theorem dX4_set_41 : decode cX4_set 41 = .ok (.iaload, 1) := by decide +kernel
theorem dX4_set_42 : decode cX4_set 42 = .ok (.istore_n 3, 1) := by decide +kernel
theorem dX4_set_43 : decode cX4_set 43 = .ok (.aload_n 0, 1) := by decide +kernel
theorem dX4_set_44 : decode cX4_set 44 = .ok (.getfield 10, 3) := by decide +kernel
theorem dX4_set_47 : decode cX4_set 47 = .ok (.getfield 121, 3) := by decide +kernel
theorem dX4_set_50 : decode cX4_set 50 = .ok (.iload_n 1, 1) := by decide +kernel
theorem dX4_set_51 : decode cX4_set 51 = .ok (.iload_n 2, 1) := by decide +kernel
theorem dX4_set_52 : decode cX4_set 52 = .ok (.iastore, 1) := by decide +kernel
theorem dX4_set_53 : decode cX4_set 53 = .ok (.iload_n 3, 1) := by decide +kernel
theorem dX4_set_54 : decode cX4_set 54 = .ok (.ireturn, 1) := by decide +kernel
theorem dX4_pass_0 : decode cX4_pass 0 = .ok (.iload_n 1, 1) := by decide +kernel
theorem dX4_pass_1 : decode cX4_pass 1 = .ok (.iconst 1, 1) := by decide +kernel
theorem dX4_pass_2 : decode cX4_pass 2 = .ok (.bipush 100, 2) := by decide +kernel
theorem dX4_pass_4 : decode cX4_pass 4 = .ok (.invokestatic 34, 3) := by decide +kernel
theorem dX4_pass_7 : decode cX4_pass 7 = .ok (.ifCond .ne 13, 3) := by decide +kernel
theorem dX4_pass_10 : decode cX4_pass 10 = .ok (.new 38, 3) := by decide +kernel
theorem dX4_pass_13 : decode cX4_pass 13 = .ok (.dup, 1) := by decide +kernel
theorem dX4_pass_14 : decode cX4_pass 14 = .ok (.ldc 84, 2) := by decide +kernel
theorem dX4_pass_16 : decode cX4_pass 16 = .ok (.invokespecial 42, 3) := by decide +kernel
theorem dX4_pass_19 : decode cX4_pass 19 = .ok (.athrow, 1) := by decide +kernel
theorem dX4_pass_20 : decode cX4_pass 20 = .ok (.aload_n 0, 1) := by decide +kernel
theorem dX4_pass_21 : decode cX4_pass 21 = .ok (.invokevirtual 54, 3) := by decide +kernel
theorem dX4_pass_24 : decode cX4_pass 24 = .ok (.iconst 0, 1) := by decide +kernel
theorem dX4_pass_25 : decode cX4_pass 25 = .ok (.istore_n 2, 1) := by decide +kernel
theorem dX4_pass_26 : decode cX4_pass 26 = .ok (.iload_n 2, 1) := by decide +kernel
theorem dX4_pass_27 : decode cX4_pass 27 = .ok (.iload_n 1, 1) := by decide +kernel
theorem dX4_pass_28 : decode cX4_pass 28 = .ok (.if_icmp .ge 16, 3) := by decide +kernel
theorem dX4_pass_31 : decode cX4_pass 31 = .ok (.aload_n 0, 1) := by decide +kernel
theorem dX4_pass_32 : decode cX4_pass 32 = .ok (.getfield 10, 3) := by decide +kernel
theorem dX4_pass_35 : decode cX4_pass 35 = .ok (.invokevirtual 124, 3) := by decide +kernel
theorem dX4_pass_38 : decode cX4_pass 38 = .ok (.iinc 2 1, 3) := by decide +kernel
theorem dX4_pass_41 : decode cX4_pass 41 = .ok (.goto (-15), 3) := by decide +kernel
theorem dX4_pass_44 : decode cX4_pass 44 = .ok (.aload_n 0, 1) := by decide +kernel
theorem dX4_pass_45 : decode cX4_pass 45 = .ok (.getfield 10, 3) := by decide +kernel
theorem dX4_pass_48 : decode cX4_pass 48 = .ok (.getfield 127, 3) := by decide +kernel
theorem dX4_pass_51 : decode cX4_pass 51 = .ok (.ireturn, 1) := by decide +kernel
theorem dX4_undo_0 : decode cX4_undo 0 = .ok (.aload_n 0, 1) := by decide +kernel
theorem dX4_undo_1 : decode cX4_undo 1 = .ok (.getfield 24, 3) := by decide +kernel
theorem dX4_undo_4 : decode cX4_undo 4 = .ok (.ifCond .ne 13, 3) := by decide +kernel
theorem dX4_undo_7 : decode cX4_undo 7 = .ok (.new 49, 3) := by decide +kernel
theorem dX4_undo_10 : decode cX4_undo 10 = .ok (.dup, 1) := by decide +kernel
theorem dX4_undo_11 : decode cX4_undo 11 = .ok (.ldc 156, 2) := by decide +kernel
theorem dX4_undo_13 : decode cX4_undo 13 = .ok (.invokespecial 53, 3) := by decide +kernel
theorem dX4_undo_16 : decode cX4_undo 16 = .ok (.athrow, 1) := by decide +kernel
theorem dX4_undo_17 : decode cX4_undo 17 = .ok (.aload_n 0, 1) := by decide +kernel
theorem dX4_undo_18 : decode cX4_undo 18 = .ok (.getfield 16, 3) := by decide +kernel
theorem dX4_undo_21 : decode cX4_undo 21 = .ok (.aload_n 0, 1) := by decide +kernel
theorem dX4_undo_22 : decode cX4_undo 22 = .ok (.getfield 20, 3) := by decide +kernel
theorem dX4_undo_25 : decode cX4_undo 25 = .ok (.aaload, 1) := by decide +kernel
theorem dX4_undo_26 : decode cX4_undo 26 = .ok (.astore_n 1, 1) := by decide +kernel
theorem dX4_undo_27 : decode cX4_undo 27 = .ok (.aload_n 1, 1) := by decide +kernel
theorem dX4_undo_28 : decode cX4_undo 28 = .ok (.ifnull 11, 3) := by decide +kernel
theorem dX4_undo_31 : decode cX4_undo 31 = .ok (.aload_n 0, 1) := by decide +kernel
theorem dX4_undo_32 : decode cX4_undo 32 = .ok (.getfield 10, 3) := by decide +kernel
theorem dX4_undo_35 : decode cX4_undo 35 = .ok (.aload_n 1, 1) := by decide +kernel
theorem dX4_undo_36 : decode cX4_undo 36 = .ok (.invokevirtual 158, 3) := by decide +kernel
theorem dX4_undo_39 : decode cX4_undo 39 = .ok (.aload_n 0, 1) := by decide +kernel
theorem dX4_undo_40 : decode cX4_undo 40 = .ok (.aload_n 0, 1) := by decide +kernel
theorem dX4_undo_41 : decode cX4_undo 41 = .ok (.getfield 20, 3) := by decide +kernel
theorem dX4_undo_44 : decode cX4_undo 44 = .ok (.ifCond .ne 7, 3) := by decide +kernel
theorem dX4_undo_47 : decode cX4_undo 47 = .ok (.iconst 5, 1) := by decide +kernel
theorem dX4_undo_48 : decode cX4_undo 48 = .ok (.goto 9, 3) := by decide +kernel
theorem dX4_undo_51 : decode cX4_undo 51 = .ok (.aload_n 0, 1) := by decide +kernel
theorem dX4_undo_52 : decode cX4_undo 52 = .ok (.getfield 20, 3) := by decide +kernel
theorem dX4_undo_55 : decode cX4_undo 55 = .ok (.iconst 1, 1) := by decide +kernel
theorem dX4_undo_56 : decode cX4_undo 56 = .ok (.isub, 1) := by decide +kernel
theorem dX4_undo_57 : decode cX4_undo 57 = .ok (.putfield 20, 3) := by decide +kernel
theorem dX4_undo_60 : decode cX4_undo 60 = .ok (.aload_n 0, 1) := by decide +kernel
theorem dX4_undo_61 : decode cX4_undo 61 = .ok (.dup, 1) := by decide +kernel
theorem dX4_undo_62 : decode cX4_undo 62 = .ok (.getfield 24, 3) := by decide +kernel
theorem dX4_undo_65 : decode cX4_undo 65 = .ok (.iconst 1, 1) := by decide +kernel
theorem dX4_undo_66 : decode cX4_undo 66 = .ok (.isub, 1) := by decide +kernel
theorem dX4_undo_67 : decode cX4_undo 67 = .ok (.putfield 24, 3) := by decide +kernel
theorem dX4_undo_70 : decode cX4_undo 70 = .ok (.aload_n 0, 1) := by decide +kernel
theorem dX4_undo_71 : decode cX4_undo 71 = .ok (.getfield 24, 3) := by decide +kernel
theorem dX4_undo_74 : decode cX4_undo 74 = .ok (.ireturn, 1) := by decide +kernel
theorem dX4_hose_0 : decode cX4_hose 0 = .ok (.aload_n 0, 1) := by decide +kernel
theorem dX4_hose_1 : decode cX4_hose 1 = .ok (.iload_n 1, 1) := by decide +kernel
theorem dX4_hose_2 : decode cX4_hose 2 = .ok (.invokevirtual 61, 3) := by decide +kernel
theorem dX4_hose_5 : decode cX4_hose 5 = .ok (.iload_n 2, 1) := by decide +kernel
theorem dX4_hose_6 : decode cX4_hose 6 = .ok (.iconst 0, 1) := by decide +kernel
theorem dX4_hose_7 : decode cX4_hose 7 = .ok (.bipush 9, 2) := by decide +kernel
theorem dX4_hose_9 : decode cX4_hose 9 = .ok (.invokestatic 34, 3) := by decide +kernel
theorem dX4_hose_12 : decode cX4_hose 12 = .ok (.ifCond .ne 13, 3) := by decide +kernel
theorem dX4_hose_15 : decode cX4_hose 15 = .ok (.new 38, 3) := by decide +kernel
theorem dX4_hose_18 : decode cX4_hose 18 = .ok (.dup, 1) := by decide +kernel
theorem dX4_hose_19 : decode cX4_hose 19 = .ok (.ldc 162, 2) := by decide +kernel
theorem dX4_hose_21 : decode cX4_hose 21 = .ok (.invokespecial 42, 3) := by decide +kernel
theorem dX4_hose_24 : decode cX4_hose 24 = .ok (.athrow, 1) := by decide +kernel
theorem dX4_hose_25 : decode cX4_hose 25 = .ok (.iload_n 2, 1) := by decide +kernel
theorem dX4_hose_26 : decode cX4_hose 26 = .ok (.tableswitch 148 0 8 #[50, 60, 70, 80, 90, 100, 118, 128, 138], 50) := by decide +kernel
theorem dX4_hose_76 : decode cX4_hose 76 = .ok (.aload_n 0, 1) := by decide +kernel
theorem dX4_hose_77 : decode cX4_hose 77 = .ok (.getfield 10, 3) := by decide +kernel
theorem dX4_hose_80 : decode cX4_hose 80 = .ok (.getfield 68, 3) := by decide +kernel
theorem dX4_hose_83 : decode cX4_hose 83 = .ok (.iload_n 1, 1) := by decide +kernel
theorem dX4_hose_84 : decode cX4_hose 84 = .ok (.iaload, 1) := by decide +kernel
theorem dX4_hose_85 : decode cX4_hose 85 = .ok (.ireturn, 1) := by decide +kernel
theorem dX4_hose_86 : decode cX4_hose 86 = .ok (.aload_n 0, 1) := by decide +kernel
theorem dX4_hose_87 : decode cX4_hose 87 = .ok (.getfield 10, 3) := by decide +kernel
theorem dX4_hose_90 : decode cX4_hose 90 = .ok (.getfield 72, 3) := by decide +kernel
theorem dX4_hose_93 : decode cX4_hose 93 = .ok (.iload_n 1, 1) := by decide +kernel
theorem dX4_hose_94 : decode cX4_hose 94 = .ok (.iaload, 1) := by decide +kernel
theorem dX4_hose_95 : decode cX4_hose 95 = .ok (.ireturn, 1) := by decide +kernel
theorem dX4_hose_96 : decode cX4_hose 96 = .ok (.aload_n 0, 1) := by decide +kernel
theorem dX4_hose_97 : decode cX4_hose 97 = .ok (.getfield 10, 3) := by decide +kernel
theorem dX4_hose_100 : decode cX4_hose 100 = .ok (.getfield 164, 3) := by decide +kernel
theorem dX4_hose_103 : decode cX4_hose 103 = .ok (.iload_n 1, 1) := by decide +kernel
theorem dX4_hose_104 : decode cX4_hose 104 = .ok (.iaload, 1) := by decide +kernel
theorem dX4_hose_105 : decode cX4_hose 105 = .ok (.ireturn, 1) := by decide +kernel
theorem dX4_hose_106 : decode cX4_hose 106 = .ok (.aload_n 0, 1) := by decide +kernel
theorem dX4_hose_107 : decode cX4_hose 107 = .ok (.getfield 10, 3) := by decide +kernel
theorem dX4_hose_110 : decode cX4_hose 110 = .ok (.getfield 167, 3) := by decide +kernel
theorem dX4_hose_113 : decode cX4_hose 113 = .ok (.iload_n 1, 1) := by decide +kernel
theorem dX4_hose_114 : decode cX4_hose 114 = .ok (.iaload, 1) := by decide +kernel
theorem dX4_hose_115 : decode cX4_hose 115 = .ok (.ireturn, 1) := by decide +kernel
theorem dX4_hose_116 : decode cX4_hose 116 = .ok (.aload_n 0, 1) := by decide +kernel
theorem dX4_hose_117 : decode cX4_hose 117 = .ok (.getfield 10, 3) := by decide +kernel
theorem dX4_hose_120 : decode cX4_hose 120 = .ok (.getfield 170, 3) := by decide +kernel
theorem dX4_hose_123 : decode cX4_hose 123 = .ok (.iload_n 1, 1) := by decide +kernel
theorem dX4_hose_124 : decode cX4_hose 124 = .ok (.iaload, 1) := by decide +kernel
theorem dX4_hose_125 : decode cX4_hose 125 = .ok (.ireturn, 1) := by decide +kernel
theorem dX4_hose_126 : decode cX4_hose 126 = .ok (.aload_n 0, 1) := by decide +kernel
theorem dX4_hose_127 : decode cX4_hose 127 = .ok (.getfield 10, 3) := by decide +kernel
theorem dX4_hose_130 : decode cX4_hose 130 = .ok (.iload_n 1, 1) := by decide +kernel
theorem dX4_hose_131 : decode cX4_hose 131 = .ok (.aload_n 0, 1) := by decide +kernel
theorem dX4_hose_132 : decode cX4_hose 132 = .ok (.getfield 10, 3) := by decide +kernel
theorem dX4_hose_135 : decode cX4_hose 135 = .ok (.getfield 170, 3) := by decide +kernel
theorem dX4_hose_138 : decode cX4_hose 138 = .ok (.iload_n 1, 1) := by decide +kernel
theorem dX4_hose_139 : decode cX4_hose 139 = .ok (.iaload, 1) := by decide +kernel
theorem dX4_hose_140 : decode cX4_hose 140 = .ok (.invokevirtual 173, 3) := by decide +kernel
theorem dX4_hose_143 : decode cX4_hose 143 = .ok (.ireturn, 1) := by decide +kernel
theorem dX4_hose_144 : decode cX4_hose 144 = .ok (.aload_n 0, 1) := by decide +kernel
theorem dX4_hose_145 : decode cX4_hose 145 = .ok (.getfield 10, 3) := by decide +kernel
theorem dX4_hose_148 : decode cX4_hose 148 = .ok (.getfield 176, 3) := by decide +kernel
theorem dX4_hose_151 : decode cX4_hose 151 = .ok (.iload_n 1, 1) := by decide +kernel
theorem dX4_hose_152 : decode cX4_hose 152 = .ok (.iaload, 1) := by decide +kernel
theorem dX4_hose_153 : decode cX4_hose 153 = .ok (.ireturn, 1) := by decide +kernel
theorem dX4_hose_154 : decode cX4_hose 154 = .ok (.aload_n 0, 1) := by decide +kernel
theorem dX4_hose_155 : decode cX4_hose 155 = .ok (.getfield 10, 3) := by decide +kernel
theorem dX4_hose_158 : decode cX4_hose 158 = .ok (.getfield 81, 3) := by decide +kernel
theorem dX4_hose_161 : decode cX4_hose 161 = .ok (.iload_n 1, 1) := by decide +kernel
theorem dX4_hose_162 : decode cX4_hose 162 = .ok (.iaload, 1) := by decide +kernel
theorem dX4_hose_163 : decode cX4_hose 163 = .ok (.ireturn, 1) := by decide +kernel
theorem dX4_hose_164 : decode cX4_hose 164 = .ok (.aload_n 0, 1) := by decide +kernel
theorem dX4_hose_165 : decode cX4_hose 165 = .ok (.getfield 10, 3) := by decide +kernel
theorem dX4_hose_168 : decode cX4_hose 168 = .ok (.getfield 179, 3) := by decide +kernel
theorem dX4_hose_171 : decode cX4_hose 171 = .ok (.iload_n 1, 1) := by decide +kernel
theorem dX4_hose_172 : decode cX4_hose 172 = .ok (.iaload, 1) := by decide +kernel
theorem dX4_hose_173 : decode cX4_hose 173 = .ok (.ireturn, 1) := by decide +kernel
theorem dX4_hose_174 : decode cX4_hose 174 = .ok (.aload_n 0, 1) := by decide +kernel
theorem dX4_hose_175 : decode cX4_hose 175 = .ok (.getfield 10, 3) := by decide +kernel
theorem dX4_hose_178 : decode cX4_hose 178 = .ok (.iload_n 1, 1) := by decide +kernel
theorem dX4_hose_179 : decode cX4_hose 179 = .ok (.invokevirtual 182, 3) := by decide +kernel
theorem dX4_hose_182 : decode cX4_hose 182 = .ok (.ireturn, 1) := by decide +kernel
theorem dX4_truck_0 : decode cX4_truck 0 = .ok (.iload_n 1, 1) := by decide +kernel
theorem dX4_truck_1 : decode cX4_truck 1 = .ok (.invokestatic 102, 3) := by decide +kernel
theorem dX4_truck_4 : decode cX4_truck 4 = .ok (.iload_n 2, 1) := by decide +kernel
theorem dX4_truck_5 : decode cX4_truck 5 = .ok (.iconst 0, 1) := by decide +kernel
theorem dX4_truck_6 : decode cX4_truck 6 = .ok (.bipush 6, 2) := by decide +kernel
theorem dX4_truck_8 : decode cX4_truck 8 = .ok (.invokestatic 34, 3) := by decide +kernel
theorem dX4_truck_11 : decode cX4_truck 11 = .ok (.ifCond .ne 13, 3) := by decide +kernel
theorem dX4_truck_14 : decode cX4_truck 14 = .ok (.new 38, 3) := by decide +kernel
theorem dX4_truck_17 : decode cX4_truck 17 = .ok (.dup, 1) := by decide +kernel
theorem dX4_truck_18 : decode cX4_truck 18 = .ok (.ldc 185, 2) := by decide +kernel
theorem dX4_truck_20 : decode cX4_truck 20 = .ok (.invokespecial 42, 3) := by decide +kernel
theorem dX4_truck_23 : decode cX4_truck 23 = .ok (.athrow, 1) := by decide +kernel
theorem dX4_truck_24 : decode cX4_truck 24 = .ok (.aload_n 0, 1) := by decide +kernel
theorem dX4_truck_25 : decode cX4_truck 25 = .ok (.getfield 10, 3) := by decide +kernel
theorem dX4_truck_28 : decode cX4_truck 28 = .ok (.iload_n 1, 1) := by decide +kernel
theorem dX4_truck_29 : decode cX4_truck 29 = .ok (.iconst (-1), 1) := by decide +kernel
theorem dX4_truck_30 : decode cX4_truck 30 = .ok (.invokevirtual 187, 3) := by decide +kernel
theorem dX4_truck_33 : decode cX4_truck 33 = .ok (.istore_n 3, 1) := by decide +kernel
theorem dX4_truck_34 : decode cX4_truck 34 = .ok (.iload_n 2, 1) := by decide +kernel
theorem dX4_truck_35 : decode cX4_truck 35 = .ok (.tableswitch 98 0 5 #[37, 47, 58, 67, 76, 87], 37) := by decide +kernel
theorem dX4_truck_72 : decode cX4_truck 72 = .ok (.aload_n 0, 1) := by decide +kernel
theorem dX4_truck_73 : decode cX4_truck 73 = .ok (.getfield 10, 3) := by decide +kernel
theorem dX4_truck_76 : decode cX4_truck 76 = .ok (.getfield 107, 3) := by decide +kernel
theorem dX4_truck_79 : decode cX4_truck 79 = .ok (.iload_n 1, 1) := by decide +kernel
theorem dX4_truck_80 : decode cX4_truck 80 = .ok (.iaload, 1) := by decide +kernel
theorem dX4_truck_81 : decode cX4_truck 81 = .ok (.ireturn, 1) := by decide +kernel
theorem dX4_truck_82 : decode cX4_truck 82 = .ok (.aload_n 0, 1) := by decide +kernel
theorem dX4_truck_83 : decode cX4_truck 83 = .ok (.getfield 10, 3) := by decide +kernel
theorem dX4_truck_86 : decode cX4_truck 86 = .ok (.getfield 190, 3) := by decide +kernel
theorem dX4_truck_89 : decode cX4_truck 89 = .ok (.getfield 194, 3) := by decide +kernel
theorem dX4_truck_92 : decode cX4_truck 92 = .ok (.ireturn, 1) := by decide +kernel
theorem dX4_truck_93 : decode cX4_truck 93 = .ok (.aload_n 0, 1) := by decide +kernel
theorem dX4_truck_94 : decode cX4_truck 94 = .ok (.getfield 10, 3) := by decide +kernel
theorem dX4_truck_97 : decode cX4_truck 97 = .ok (.iload_n 1, 1) := by decide +kernel
theorem dX4_truck_98 : decode cX4_truck 98 = .ok (.invokevirtual 199, 3) := by decide +kernel
theorem dX4_truck_101 : decode cX4_truck 101 = .ok (.ireturn, 1) := by decide +kernel
theorem dX4_truck_102 : decode cX4_truck 102 = .ok (.aload_n 0, 1) := by decide +kernel
theorem dX4_truck_103 : decode cX4_truck 103 = .ok (.getfield 10, 3) := by decide +kernel
theorem dX4_truck_106 : decode cX4_truck 106 = .ok (.iload_n 1, 1) := by decide +kernel
theorem dX4_truck_107 : decode cX4_truck 107 = .ok (.invokevirtual 202, 3) := by decide +kernel
theorem dX4_truck_110 : decode cX4_truck 110 = .ok (.ireturn, 1) := by decide +kernel
theorem dX4_truck_111 : decode cX4_truck 111 = .ok (.aload_n 0, 1) := by decide +kernel
theorem dX4_truck_112 : decode cX4_truck 112 = .ok (.getfield 10, 3) := by decide +kernel
theorem dX4_truck_115 : decode cX4_truck 115 = .ok (.getfield 190, 3) := by decide +kernel
theorem dX4_truck_118 : decode cX4_truck 118 = .ok (.getfield 205, 3) := by decide +kernel
theorem dX4_truck_121 : decode cX4_truck 121 = .ok (.ireturn, 1) := by decide +kernel
theorem dX4_truck_122 : decode cX4_truck 122 = .ok (.aload_n 0, 1) := by decide +kernel
theorem dX4_truck_123 : decode cX4_truck 123 = .ok (.getfield 10, 3) := by decide +kernel
theorem dX4_truck_126 : decode cX4_truck 126 = .ok (.getfield 190, 3) := by decide +kernel
theorem dX4_truck_129 : decode cX4_truck 129 = .ok (.getfield 208, 3) := by decide +kernel
theorem dX4_truck_132 : decode cX4_truck 132 = .ok (.ireturn, 1) := by decide +kernel
theorem dX4_truck_133 : decode cX4_truck 133 = .ok (.iload_n 3, 1) := by decide +kernel
theorem dX4_truck_134 : decode cX4_truck 134 = .ok (.ifCond .eq 7, 3) := by decide +kernel
theorem dX4_truck_137 : decode cX4_truck 137 = .ok (.iconst 1, 1) := by decide +kernel
theorem dX4_truck_138 : decode cX4_truck 138 = .ok (.goto 4, 3) := by decide +kernel
theorem dX4_truck_141 : decode cX4_truck 141 = .ok (.iconst 0, 1) := by decide +kernel
theorem dX4_truck_142 : decode cX4_truck 142 = .ok (.ireturn, 1) := by decide +kernel
theorem dX4_count_0 : decode cX4_count 0 = .ok (.iload_n 1, 1) := by decide +kernel
theorem dX4_count_1 : decode cX4_count 1 = .ok (.iconst 0, 1) := by decide +kernel
theorem dX4_count_2 : decode cX4_count 2 = .ok (.bipush 10, 2) := by decide +kernel
theorem dX4_count_4 : decode cX4_count 4 = .ok (.invokestatic 34, 3) := by decide +kernel
theorem dX4_count_7 : decode cX4_count 7 = .ok (.ifCond .ne 13, 3) := by decide +kernel
theorem dX4_count_10 : decode cX4_count 10 = .ok (.new 38, 3) := by decide +kernel
theorem dX4_count_13 : decode cX4_count 13 = .ok (.dup, 1) := by decide +kernel
theorem dX4_count_14 : decode cX4_count 14 = .ok (.ldc 211, 2) := by decide +kernel
theorem dX4_count_16 : decode cX4_count 16 = .ok (.invokespecial 42, 3) := by decide +kernel
theorem dX4_count_19 : decode cX4_count 19 = .ok (.athrow, 1) := by decide +kernel
theorem dX4_count_20 : decode cX4_count 20 = .ok (.iload_n 1, 1) := by decide +kernel
theorem dX4_count_21 : decode cX4_count 21 = .ok (.tableswitch 137 0 9 #[55, 63, 71, 79, 88, 96, 105, 113, 121, 129], 55) := by decide +kernel
theorem dX4_count_76 : decode cX4_count 76 = .ok (.aload_n 0, 1) := by decide +kernel
theorem dX4_count_77 : decode cX4_count 77 = .ok (.getfield 10, 3) := by decide +kernel
theorem dX4_count_80 : decode cX4_count 80 = .ok (.getfield 127, 3) := by decide +kernel
theorem dX4_count_83 : decode cX4_count 83 = .ok (.ireturn, 1) := by decide +kernel
theorem dX4_count_84 : decode cX4_count 84 = .ok (.aload_n 0, 1) := by decide +kernel
theorem dX4_count_85 : decode cX4_count 85 = .ok (.getfield 10, 3) := by decide +kernel
theorem dX4_count_88 : decode cX4_count 88 = .ok (.getfield 213, 3) := by decide +kernel
theorem dX4_count_91 : decode cX4_count 91 = .ok (.ireturn, 1) := by decide +kernel
theorem dX4_count_92 : decode cX4_count 92 = .ok (.aload_n 0, 1) := by decide +kernel
theorem dX4_count_93 : decode cX4_count 93 = .ok (.getfield 10, 3) := by decide +kernel
theorem dX4_count_96 : decode cX4_count 96 = .ok (.getfield 216, 3) := by decide +kernel
theorem dX4_count_99 : decode cX4_count 99 = .ok (.ireturn, 1) := by decide +kernel
theorem dX4_count_100 : decode cX4_count 100 = .ok (.aload_n 0, 1) := by decide +kernel
theorem dX4_count_101 : decode cX4_count 101 = .ok (.getfield 10, 3) := by decide +kernel
theorem dX4_count_104 : decode cX4_count 104 = .ok (.iconst (-1), 1) := by decide +kernel
theorem dX4_count_105 : decode cX4_count 105 = .ok (.invokevirtual 199, 3) := by decide +kernel
theorem dX4_count_108 : decode cX4_count 108 = .ok (.ireturn, 1) := by decide +kernel
theorem dX4_count_109 : decode cX4_count 109 = .ok (.aload_n 0, 1) := by decide +kernel
theorem dX4_count_110 : decode cX4_count 110 = .ok (.getfield 10, 3) := by decide +kernel
theorem dX4_count_113 : decode cX4_count 113 = .ok (.invokevirtual 219, 3) := by decide +kernel
theorem dX4_count_116 : decode cX4_count 116 = .ok (.ireturn, 1) := by decide +kernel
theorem dX4_count_117 : decode cX4_count 117 = .ok (.aload_n 0, 1) := by decide +kernel
theorem dX4_count_118 : decode cX4_count 118 = .ok (.getfield 10, 3) := by decide +kernel
theorem dX4_count_121 : decode cX4_count 121 = .ok (.iconst 4, 1) := by decide +kernel
theorem dX4_count_122 : decode cX4_count 122 = .ok (.invokevirtual 199, 3) := by decide +kernel
theorem dX4_count_125 : decode cX4_count 125 = .ok (.ireturn, 1) := by decide +kernel
theorem dX4_count_126 : decode cX4_count 126 = .ok (.aload_n 0, 1) := by decide +kernel
theorem dX4_count_127 : decode cX4_count 127 = .ok (.getfield 10, 3) := by decide +kernel
theorem dX4_count_130 : decode cX4_count 130 = .ok (.invokevirtual 222, 3) := by decide +kernel
theorem dX4_count_133 : decode cX4_count 133 = .ok (.ireturn, 1) := by decide +kernel
theorem dX4_count_134 : decode cX4_count 134 = .ok (.aload_n 0, 1) := by decide +kernel
theorem dX4_count_135 : decode cX4_count 135 = .ok (.getfield 10, 3) := by decide +kernel
theorem dX4_count_138 : decode cX4_count 138 = .ok (.getfield 225, 3) := by decide +kernel
theorem dX4_count_141 : decode cX4_count 141 = .ok (.ireturn, 1) := by decide +kernel
theorem dX4_count_142 : decode cX4_count 142 = .ok (.aload_n 0, 1) := by decide +kernel
theorem dX4_count_143 : decode cX4_count 143 = .ok (.getfield 10, 3) := by decide +kernel
theorem dX4_count_146 : decode cX4_count 146 = .ok (.getfield 228, 3) := by decide +kernel
theorem dX4_count_149 : decode cX4_count 149 = .ok (.ireturn, 1) := by decide +kernel
theorem dX4_count_150 : decode cX4_count 150 = .ok (.aload_n 0, 1) := by decide +kernel
theorem dX4_count_151 : decode cX4_count 151 = .ok (.getfield 10, 3) := by decide +kernel
theorem dX4_count_154 : decode cX4_count 154 = .ok (.getfield 231, 3) := by decide +kernel
theorem dX4_count_157 : decode cX4_count 157 = .ok (.ireturn, 1) := by decide +kernel
theorem dX4_count_158 : decode cX4_count 158 = .ok (.aload_n 0, 1) := by decide +kernel
theorem dX4_count_159 : decode cX4_count 159 = .ok (.getfield 24, 3) := by decide +kernel
theorem dX4_count_162 : decode cX4_count 162 = .ok (.ireturn, 1) := by decide +kernel
theorem dX4_setting_0 : decode cX4_setting 0 = .ok (.iload_n 1, 1) := by decide +kernel
theorem dX4_setting_1 : decode cX4_setting 1 = .ok (.invokestatic 110, 3) := by decide +kernel
theorem dX4_setting_4 : decode cX4_setting 4 = .ok (.aload_n 0, 1) := by decide +kernel
theorem dX4_setting_5 : decode cX4_setting 5 = .ok (.getfield 10, 3) := by decide +kernel
theorem dX4_setting_8 : decode cX4_setting 8 = .ok (.getfield 121, 3) := by decide +kernel
theorem dX4_setting_11 : decode cX4_setting 11 = .ok (.iload_n 1, 1) := by decide +kernel
theorem dX4_setting_12 : decode cX4_setting 12 = .ok (.iaload, 1) := by decide +kernel
theorem dX4_setting_13 : decode cX4_setting 13 = .ok (.ireturn, 1) := by decide +kernel
theorem dX4_ifTested_0 : decode cX4_ifTested 0 = .ok (.aload_n 0, 1) := by decide +kernel
theorem dX4_ifTested_1 : decode cX4_ifTested 1 = .ok (.iload_n 1, 1) := by decide +kernel
theorem dX4_ifTested_2 : decode cX4_ifTested 2 = .ok (.invokevirtual 61, 3) := by decide +kernel
theorem dX4_ifTested_5 : decode cX4_ifTested 5 = .ok (.iload_n 2, 1) := by decide +kernel
theorem dX4_ifTested_6 : decode cX4_ifTested 6 = .ok (.invokestatic 96, 3) := by decide +kernel
theorem dX4_ifTested_9 : decode cX4_ifTested 9 = .ok (.aload_n 0, 1) := by decide +kernel
theorem dX4_ifTested_10 : decode cX4_ifTested 10 = .ok (.getfield 10, 3) := by decide +kernel
theorem dX4_ifTested_13 : decode cX4_ifTested 13 = .ok (.iload_n 1, 1) := by decide +kernel
theorem dX4_ifTested_14 : decode cX4_ifTested 14 = .ok (.invokevirtual 234, 3) := by decide +kernel
theorem dX4_ifTested_17 : decode cX4_ifTested 17 = .ok (.ifCond .eq 7, 3) := by decide +kernel
theorem dX4_ifTested_20 : decode cX4_ifTested 20 = .ok (.iconst (-1), 1) := by decide +kernel
theorem dX4_ifTested_21 : decode cX4_ifTested 21 = .ok (.goto 12, 3) := by decide +kernel
theorem dX4_ifTested_24 : decode cX4_ifTested 24 = .ok (.aload_n 0, 1) := by decide +kernel
theorem dX4_ifTested_25 : decode cX4_ifTested 25 = .ok (.getfield 10, 3) := by decide +kernel
theorem dX4_ifTested_28 : decode cX4_ifTested 28 = .ok (.iload_n 1, 1) := by decide +kernel
theorem dX4_ifTested_29 : decode cX4_ifTested 29 = .ok (.iload_n 2, 1) := by decide +kernel
theorem dX4_ifTested_30 : decode cX4_ifTested 30 = .ok (.invokevirtual 237, 3) := by decide +kernel
theorem dX4_ifTested_33 : decode cX4_ifTested 33 = .ok (.ireturn, 1) := by decide +kernel
theorem dX4_safe_0 : decode cX4_safe 0 = .ok (.aload_n 0, 1) := by decide +kernel
theorem dX4_safe_1 : decode cX4_safe 1 = .ok (.iload_n 1, 1) := by decide +kernel
theorem dX4_safe_2 : decode cX4_safe 2 = .ok (.invokevirtual 61, 3) := by decide +kernel
theorem dX4_safe_5 : decode cX4_safe 5 = .ok (.aload_n 0, 1) := by decide +kernel
theorem dX4_safe_6 : decode cX4_safe 6 = .ok (.getfield 10, 3) := by decide +kernel
theorem dX4_safe_9 : decode cX4_safe 9 = .ok (.iload_n 1, 1) := by decide +kernel
theorem dX4_safe_10 : decode cX4_safe 10 = .ok (.invokevirtual 234, 3) := by decide +kernel
theorem dX4_safe_13 : decode cX4_safe 13 = .ok (.ifCond .eq 7, 3) := by decide +kernel
theorem dX4_safe_16 : decode cX4_safe 16 = .ok (.iconst (-1), 1) := by decide +kernel
theorem dX4_safe_17 : decode cX4_safe 17 = .ok (.goto 11, 3) := by decide +kernel
theorem dX4_safe_20 : decode cX4_safe 20 = .ok (.aload_n 0, 1) := by decide +kernel
theorem dX4_safe_21 : decode cX4_safe 21 = .ok (.getfield 10, 3) := by decide +kernel
theorem dX4_safe_24 : decode cX4_safe 24 = .ok (.iload_n 1, 1) := by decide +kernel
theorem dX4_safe_25 : decode cX4_safe 25 = .ok (.invokevirtual 240, 3) := by decide +kernel
theorem dX4_safe_28 : decode cX4_safe 28 = .ok (.ireturn, 1) := by decide +kernel
theorem dX4_nextLapse_0 : decode cX4_nextLapse 0 = .ok (.aload_n 0, 1) := by decide +kernel
theorem dX4_nextLapse_1 : decode cX4_nextLapse 1 = .ok (.getfield 10, 3) := by decide +kernel
theorem dX4_nextLapse_4 : decode cX4_nextLapse 4 = .ok (.invokevirtual 243, 3) := by decide +kernel
theorem dX4_nextLapse_7 : decode cX4_nextLapse 7 = .ok (.ireturn, 1) := by decide +kernel
theorem dX4_helps_0 : decode cX4_helps 0 = .ok (.iload_n 1, 1) := by decide +kernel
theorem dX4_helps_1 : decode cX4_helps 1 = .ok (.invokestatic 102, 3) := by decide +kernel
theorem dX4_helps_4 : decode cX4_helps 4 = .ok (.aload_n 0, 1) := by decide +kernel
theorem dX4_helps_5 : decode cX4_helps 5 = .ok (.getfield 10, 3) := by decide +kernel
theorem dX4_helps_8 : decode cX4_helps 8 = .ok (.iload_n 1, 1) := by decide +kernel
theorem dX4_helps_9 : decode cX4_helps 9 = .ok (.invokevirtual 246, 3) := by decide +kernel
theorem dX4_helps_12 : decode cX4_helps 12 = .ok (.ireturn, 1) := by decide +kernel
theorem dX4_readyShare_0 : decode cX4_readyShare 0 = .ok (.aload_n 0, 1) := by decide +kernel
theorem dX4_readyShare_1 : decode cX4_readyShare 1 = .ok (.getfield 10, 3) := by decide +kernel
theorem dX4_readyShare_4 : decode cX4_readyShare 4 = .ok (.getfield 216, 3) := by decide +kernel
theorem dX4_readyShare_7 : decode cX4_readyShare 7 = .ok (.aload_n 0, 1) := by decide +kernel
theorem dX4_readyShare_8 : decode cX4_readyShare 8 = .ok (.getfield 10, 3) := by decide +kernel
theorem dX4_readyShare_11 : decode cX4_readyShare 11 = .ok (.iconst (-1), 1) := by decide +kernel
theorem dX4_readyShare_12 : decode cX4_readyShare 12 = .ok (.invokevirtual 199, 3) := by decide +kernel
theorem dX4_readyShare_15 : decode cX4_readyShare 15 = .ok (.isub, 1) := by decide +kernel
theorem dX4_readyShare_16 : decode cX4_readyShare 16 = .ok (.istore_n 1, 1) := by decide +kernel
theorem dX4_readyShare_17 : decode cX4_readyShare 17 = .ok (.iload_n 1, 1) := by decide +kernel
theorem dX4_readyShare_18 : decode cX4_readyShare 18 = .ok (.ifCond .gt 5, 3) := by decide +kernel
theorem dX4_readyShare_21 : decode cX4_readyShare 21 = .ok (.dconst 1, 1) := by decide +kernel
theorem dX4_readyShare_22 : decode cX4_readyShare 22 = .ok (.dreturn, 1) := by decide +kernel
theorem dX4_readyShare_23 : decode cX4_readyShare 23 = .ok (.aload_n 0, 1) := by decide +kernel
theorem dX4_readyShare_24 : decode cX4_readyShare 24 = .ok (.getfield 10, 3) := by decide +kernel
theorem dX4_readyShare_27 : decode cX4_readyShare 27 = .ok (.invokevirtual 219, 3) := by decide +kernel
theorem dX4_readyShare_30 : decode cX4_readyShare 30 = .ok (.i2d, 1) := by decide +kernel
theorem dX4_readyShare_31 : decode cX4_readyShare 31 = .ok (.iload_n 1, 1) := by decide +kernel
theorem dX4_readyShare_32 : decode cX4_readyShare 32 = .ok (.i2d, 1) := by decide +kernel
theorem dX4_readyShare_33 : decode cX4_readyShare 33 = .ok (.ddiv, 1) := by decide +kernel
theorem dX4_readyShare_34 : decode cX4_readyShare 34 = .ok (.dreturn, 1) := by decide +kernel
theorem dX4_isWithin_0 : decode cX4_isWithin 0 = .ok (.iload_n 0, 1) := by decide +kernel
theorem dX4_isWithin_1 : decode cX4_isWithin 1 = .ok (.iload_n 1, 1) := by decide +kernel
theorem dX4_isWithin_2 : decode cX4_isWithin 2 = .ok (.if_icmp .lt 12, 3) := by decide +kernel
theorem dX4_isWithin_5 : decode cX4_isWithin 5 = .ok (.iload_n 0, 1) := by decide +kernel
theorem dX4_isWithin_6 : decode cX4_isWithin 6 = .ok (.iload_n 2, 1) := by decide +kernel
theorem dX4_isWithin_7 : decode cX4_isWithin 7 = .ok (.if_icmp .gt 7, 3) := by decide +kernel
theorem dX4_isWithin_10 : decode cX4_isWithin 10 = .ok (.iconst 1, 1) := by decide +kernel
theorem dX4_isWithin_11 : decode cX4_isWithin 11 = .ok (.goto 4, 3) := by decide +kernel
theorem dX4_isWithin_14 : decode cX4_isWithin 14 = .ok (.iconst 0, 1) := by decide +kernel
theorem dX4_isWithin_15 : decode cX4_isWithin 15 = .ok (.ireturn, 1) := by decide +kernel
theorem dX4_requireHose_0 : decode cX4_requireHose 0 = .ok (.iload_n 1, 1) := by decide +kernel
theorem dX4_requireHose_1 : decode cX4_requireHose 1 = .ok (.iconst 0, 1) := by decide +kernel
theorem dX4_requireHose_2 : decode cX4_requireHose 2 = .ok (.aload_n 0, 1) := by decide +kernel
theorem dX4_requireHose_3 : decode cX4_requireHose 3 = .ok (.getfield 10, 3) := by decide +kernel
theorem dX4_requireHose_6 : decode cX4_requireHose 6 = .ok (.getfield 216, 3) := by decide +kernel
theorem dX4_requireHose_9 : decode cX4_requireHose 9 = .ok (.iconst 1, 1) := by decide +kernel
theorem dX4_requireHose_10 : decode cX4_requireHose 10 = .ok (.isub, 1) := by decide +kernel
theorem dX4_requireHose_11 : decode cX4_requireHose 11 = .ok (.invokestatic 34, 3) := by decide +kernel
theorem dX4_requireHose_14 : decode cX4_requireHose 14 = .ok (.ifCond .ne 14, 3) := by decide +kernel
theorem dX4_requireHose_17 : decode cX4_requireHose 17 = .ok (.new 287, 3) := by decide +kernel
theorem dX4_requireHose_20 : decode cX4_requireHose 20 = .ok (.dup, 1) := by decide +kernel
theorem dX4_requireHose_21 : decode cX4_requireHose 21 = .ok (.ldc_w 289, 3) := by decide +kernel
theorem dX4_requireHose_24 : decode cX4_requireHose 24 = .ok (.invokespecial 291, 3) := by decide +kernel
theorem dX4_requireHose_27 : decode cX4_requireHose 27 = .ok (.athrow, 1) := by decide +kernel
theorem dX4_requireHose_28 : decode cX4_requireHose 28 = .ok (.return_, 1) := by decide +kernel
theorem dX4_requireAtHand_0 : decode cX4_requireAtHand 0 = .ok (.aload_n 0, 1) := by decide +kernel
theorem dX4_requireAtHand_1 : decode cX4_requireAtHand 1 = .ok (.getfield 10, 3) := by decide +kernel
theorem dX4_requireAtHand_4 : decode cX4_requireAtHand 4 = .ok (.iload_n 1, 1) := by decide +kernel
theorem dX4_requireAtHand_5 : decode cX4_requireAtHand 5 = .ok (.invokevirtual 234, 3) := by decide +kernel
theorem dX4_requireAtHand_8 : decode cX4_requireAtHand 8 = .ok (.ifCond .ne 14, 3) := by decide +kernel
theorem dX4_requireAtHand_11 : decode cX4_requireAtHand 11 = .ok (.aload_n 0, 1) := by decide +kernel
theorem dX4_requireAtHand_12 : decode cX4_requireAtHand 12 = .ok (.getfield 10, 3) := by decide +kernel
theorem dX4_requireAtHand_15 : decode cX4_requireAtHand 15 = .ok (.iload_n 1, 1) := by decide +kernel
theorem dX4_requireAtHand_16 : decode cX4_requireAtHand 16 = .ok (.invokevirtual 292, 3) := by decide +kernel
theorem dX4_requireAtHand_19 : decode cX4_requireAtHand 19 = .ok (.ifCond .eq 14, 3) := by decide +kernel
theorem dX4_requireAtHand_22 : decode cX4_requireAtHand 22 = .ok (.new 49, 3) := by decide +kernel
theorem dX4_requireAtHand_25 : decode cX4_requireAtHand 25 = .ok (.dup, 1) := by decide +kernel
theorem dX4_requireAtHand_26 : decode cX4_requireAtHand 26 = .ok (.ldc_w 295, 3) := by decide +kernel
theorem dX4_requireAtHand_29 : decode cX4_requireAtHand 29 = .ok (.invokespecial 53, 3) := by decide +kernel
theorem dX4_requireAtHand_32 : decode cX4_requireAtHand 32 = .ok (.athrow, 1) := by decide +kernel
theorem dX4_requireAtHand_33 : decode cX4_requireAtHand 33 = .ok (.return_, 1) := by decide +kernel
theorem dX4_requireTruck_0 : decode cX4_requireTruck 0 = .ok (.iload_n 0, 1) := by decide +kernel
theorem dX4_requireTruck_1 : decode cX4_requireTruck 1 = .ok (.iconst 0, 1) := by decide +kernel
theorem dX4_requireTruck_2 : decode cX4_requireTruck 2 = .ok (.iconst 2, 1) := by decide +kernel
theorem dX4_requireTruck_3 : decode cX4_requireTruck 3 = .ok (.invokestatic 34, 3) := by decide +kernel
theorem dX4_requireTruck_6 : decode cX4_requireTruck 6 = .ok (.ifCond .ne 14, 3) := by decide +kernel
theorem dX4_requireTruck_9 : decode cX4_requireTruck 9 = .ok (.new 287, 3) := by decide +kernel
theorem dX4_requireTruck_12 : decode cX4_requireTruck 12 = .ok (.dup, 1) := by decide +kernel
theorem dX4_requireTruck_13 : decode cX4_requireTruck 13 = .ok (.ldc_w 297, 3) := by decide +kernel
theorem dX4_requireTruck_16 : decode cX4_requireTruck 16 = .ok (.invokespecial 291, 3) := by decide +kernel
theorem dX4_requireTruck_19 : decode cX4_requireTruck 19 = .ok (.athrow, 1) := by decide +kernel
theorem dX4_requireTruck_20 : decode cX4_requireTruck 20 = .ok (.return_, 1) := by decide +kernel
theorem dX4_requireSetting_0 : decode cX4_requireSetting 0 = .ok (.iload_n 0, 1) := by decide +kernel
theorem dX4_requireSetting_1 : decode cX4_requireSetting 1 = .ok (.iconst 0, 1) := by decide +kernel
theorem dX4_requireSetting_2 : decode cX4_requireSetting 2 = .ok (.iconst 2, 1) := by decide +kernel
theorem dX4_requireSetting_3 : decode cX4_requireSetting 3 = .ok (.invokestatic 34, 3) := by decide +kernel
theorem dX4_requireSetting_6 : decode cX4_requireSetting 6 = .ok (.ifCond .ne 14, 3) := by decide +kernel
theorem dX4_requireSetting_9 : decode cX4_requireSetting 9 = .ok (.new 287, 3) := by decide +kernel
theorem dX4_requireSetting_12 : decode cX4_requireSetting 12 = .ok (.dup, 1) := by decide +kernel
theorem dX4_requireSetting_13 : decode cX4_requireSetting 13 = .ok (.ldc_w 299, 3) := by decide +kernel
theorem dX4_requireSetting_16 : decode cX4_requireSetting 16 = .ok (.invokespecial 291, 3) := by decide +kernel
theorem dX4_requireSetting_19 : decode cX4_requireSetting 19 = .ok (.athrow, 1) := by decide +kernel
theorem dX4_requireSetting_20 : decode cX4_requireSetting 20 = .ok (.return_, 1) := by decide +kernel
theorem dX4_requirePressure_0 : decode cX4_requirePressure 0 = .ok (.iload_n 0, 1) := by decide +kernel
theorem dX4_requirePressure_1 : decode cX4_requirePressure 1 = .ok (.iconst 4, 1) := by decide +kernel
theorem dX4_requirePressure_2 : decode cX4_requirePressure 2 = .ok (.bipush 24, 2) := by decide +kernel
theorem dX4_requirePressure_4 : decode cX4_requirePressure 4 = .ok (.invokestatic 34, 3) := by decide +kernel
theorem dX4_requirePressure_7 : decode cX4_requirePressure 7 = .ok (.ifCond .ne 14, 3) := by decide +kernel
theorem dX4_requirePressure_10 : decode cX4_requirePressure 10 = .ok (.new 38, 3) := by decide +kernel
theorem dX4_requirePressure_13 : decode cX4_requirePressure 13 = .ok (.dup, 1) := by decide +kernel
theorem dX4_requirePressure_14 : decode cX4_requirePressure 14 = .ok (.ldc_w 301, 3) := by decide +kernel
theorem dX4_requirePressure_17 : decode cX4_requirePressure 17 = .ok (.invokespecial 42, 3) := by decide +kernel
theorem dX4_requirePressure_20 : decode cX4_requirePressure 20 = .ok (.athrow, 1) := by decide +kernel
theorem dX4_requirePressure_21 : decode cX4_requirePressure 21 = .ok (.return_, 1) := by decide +kernel
theorem dX4_leastOfSetting_0 : decode cX4_leastOfSetting 0 = .ok (.iload_n 0, 1) := by decide +kernel
theorem dX4_leastOfSetting_1 : decode cX4_leastOfSetting 1 = .ok (.ifCond .ne 7, 3) := by decide +kernel
theorem dX4_leastOfSetting_4 : decode cX4_leastOfSetting 4 = .ok (.iconst 4, 1) := by decide +kernel
theorem dX4_leastOfSetting_5 : decode cX4_leastOfSetting 5 = .ok (.goto 4, 3) := by decide +kernel
theorem dX4_leastOfSetting_8 : decode cX4_leastOfSetting 8 = .ok (.iconst 0, 1) := by decide +kernel
theorem dX4_leastOfSetting_9 : decode cX4_leastOfSetting 9 = .ok (.ireturn, 1) := by decide +kernel
theorem dX4_greatestOfSetting_0 : decode cX4_greatestOfSetting 0 = .ok (.iload_n 0, 1) := by decide +kernel
theorem dX4_greatestOfSetting_1 : decode cX4_greatestOfSetting 1 = .ok (.lookupswitch 32 #[(0, 27), (1, 30)], 27) := by decide +kernel
theorem dX4_greatestOfSetting_28 : decode cX4_greatestOfSetting 28 = .ok (.bipush 24, 2) := by decide +kernel
theorem dX4_greatestOfSetting_30 : decode cX4_greatestOfSetting 30 = .ok (.ireturn, 1) := by decide +kernel
theorem dX4_greatestOfSetting_31 : decode cX4_greatestOfSetting 31 = .ok (.iconst 5, 1) := by decide +kernel
theorem dX4_greatestOfSetting_32 : decode cX4_greatestOfSetting 32 = .ok (.ireturn, 1) := by decide +kernel
theorem dX4_greatestOfSetting_33 : decode cX4_greatestOfSetting 33 = .ok (.sipush 200, 3) := by decide +kernel
theorem dX4_greatestOfSetting_36 : decode cX4_greatestOfSetting 36 = .ok (.ireturn, 1) := by decide +kernel
theorem dX4_saveState_0 : decode cX4_saveState 0 = .ok (.aload_n 0, 1) := by decide +kernel
theorem dX4_saveState_1 : decode cX4_saveState 1 = .ok (.aload_n 0, 1) := by decide +kernel
theorem dX4_saveState_2 : decode cX4_saveState 2 = .ok (.getfield 20, 3) := by decide +kernel
theorem dX4_saveState_5 : decode cX4_saveState 5 = .ok (.iconst 5, 1) := by decide +kernel
theorem dX4_saveState_6 : decode cX4_saveState 6 = .ok (.if_icmp .lt 7, 3) := by decide +kernel
theorem dX4_saveState_9 : decode cX4_saveState 9 = .ok (.iconst 0, 1) := by decide +kernel
theorem dX4_saveState_10 : decode cX4_saveState 10 = .ok (.goto 9, 3) := by decide +kernel
theorem dX4_saveState_13 : decode cX4_saveState 13 = .ok (.aload_n 0, 1) := by decide +kernel
theorem dX4_saveState_14 : decode cX4_saveState 14 = .ok (.getfield 20, 3) := by decide +kernel
theorem dX4_saveState_17 : decode cX4_saveState 17 = .ok (.iconst 1, 1) := by decide +kernel
theorem dX4_saveState_18 : decode cX4_saveState 18 = .ok (.iadd, 1) := by decide +kernel
theorem dX4_saveState_19 : decode cX4_saveState 19 = .ok (.putfield 20, 3) := by decide +kernel
theorem dX4_saveState_22 : decode cX4_saveState 22 = .ok (.aload_n 0, 1) := by decide +kernel
theorem dX4_saveState_23 : decode cX4_saveState 23 = .ok (.getfield 16, 3) := by decide +kernel
theorem dX4_saveState_26 : decode cX4_saveState 26 = .ok (.aload_n 0, 1) := by decide +kernel
theorem dX4_saveState_27 : decode cX4_saveState 27 = .ok (.getfield 20, 3) := by decide +kernel
theorem dX4_saveState_30 : decode cX4_saveState 30 = .ok (.aaload, 1) := by decide +kernel
theorem dX4_saveState_31 : decode cX4_saveState 31 = .ok (.astore_n 1, 1) := by decide +kernel
theorem dX4_saveState_32 : decode cX4_saveState 32 = .ok (.aload_n 1, 1) := by decide +kernel
theorem dX4_saveState_33 : decode cX4_saveState 33 = .ok (.ifnull 11, 3) := by decide +kernel
theorem dX4_saveState_36 : decode cX4_saveState 36 = .ok (.aload_n 1, 1) := by decide +kernel
theorem dX4_saveState_37 : decode cX4_saveState 37 = .ok (.aload_n 0, 1) := by decide +kernel
theorem dX4_saveState_38 : decode cX4_saveState 38 = .ok (.getfield 10, 3) := by decide +kernel
theorem dX4_saveState_41 : decode cX4_saveState 41 = .ok (.invokevirtual 158, 3) := by decide +kernel
theorem dX4_saveState_44 : decode cX4_saveState 44 = .ok (.aload_n 0, 1) := by decide +kernel
theorem dX4_saveState_45 : decode cX4_saveState 45 = .ok (.getfield 24, 3) := by decide +kernel
theorem dX4_saveState_48 : decode cX4_saveState 48 = .ok (.bipush 6, 2) := by decide +kernel
theorem dX4_saveState_50 : decode cX4_saveState 50 = .ok (.if_icmp .ge 13, 3) := by decide +kernel
theorem dX4_saveState_53 : decode cX4_saveState 53 = .ok (.aload_n 0, 1) := by decide +kernel
theorem dX4_saveState_54 : decode cX4_saveState 54 = .ok (.dup, 1) := by decide +kernel
theorem dX4_saveState_55 : decode cX4_saveState 55 = .ok (.getfield 24, 3) := by decide +kernel
theorem dX4_saveState_58 : decode cX4_saveState 58 = .ok (.iconst 1, 1) := by decide +kernel
theorem dX4_saveState_59 : decode cX4_saveState 59 = .ok (.iadd, 1) := by decide +kernel
theorem dX4_saveState_60 : decode cX4_saveState 60 = .ok (.putfield 24, 3) := by decide +kernel
theorem dX4_saveState_63 : decode cX4_saveState 63 = .ok (.return_, 1) := by decide +kernel
theorem dJ9_max_7cf53_0 : decode cJ9_max_7cf53 0 = .ok (.iload_n 0, 1) := by decide +kernel
theorem dJ9_max_7cf53_1 : decode cJ9_max_7cf53 1 = .ok (.iload_n 1, 1) := by decide +kernel
theorem dJ9_max_7cf53_2 : decode cJ9_max_7cf53 2 = .ok (.if_icmp .lt 7, 3) := by decide +kernel
theorem dJ9_max_7cf53_5 : decode cJ9_max_7cf53 5 = .ok (.iload_n 0, 1) := by decide +kernel
theorem dJ9_max_7cf53_6 : decode cJ9_max_7cf53 6 = .ok (.goto 4, 3) := by decide +kernel
theorem dJ9_max_7cf53_9 : decode cJ9_max_7cf53 9 = .ok (.iload_n 1, 1) := by decide +kernel
theorem dJ9_max_7cf53_10 : decode cJ9_max_7cf53 10 = .ok (.ireturn, 1) := by decide +kernel
theorem dJ9_min_7cf53_0 : decode cJ9_min_7cf53 0 = .ok (.iload_n 0, 1) := by decide +kernel
theorem dJ9_min_7cf53_1 : decode cJ9_min_7cf53 1 = .ok (.iload_n 1, 1) := by decide +kernel
theorem dJ9_min_7cf53_2 : decode cJ9_min_7cf53 2 = .ok (.if_icmp .gt 7, 3) := by decide +kernel
theorem dJ9_min_7cf53_5 : decode cJ9_min_7cf53 5 = .ok (.iload_n 0, 1) := by decide +kernel
theorem dJ9_min_7cf53_6 : decode cJ9_min_7cf53 6 = .ok (.goto 4, 3) := by decide +kernel
theorem dJ9_min_7cf53_9 : decode cJ9_min_7cf53 9 = .ok (.iload_n 1, 1) := by decide +kernel
theorem dJ9_min_7cf53_10 : decode cJ9_min_7cf53 10 = .ok (.ireturn, 1) := by decide +kernel
theorem dL_low_0 : decode cL_low 0 = .ok (.iload_n 0, 1) := by decide +kernel
theorem dL_low_1 : decode cL_low 1 = .ok (.ldc 7, 2) := by decide +kernel
theorem dL_low_3 : decode cL_low 3 = .ok (.iand, 1) := by decide +kernel
theorem dL_low_4 : decode cL_low 4 = .ok (.iload_n 1, 1) := by decide +kernel
theorem dL_low_5 : decode cL_low 5 = .ok (.irem, 1) := by decide +kernel
theorem dL_low_6 : decode cL_low 6 = .ok (.ireturn, 1) := by decide +kernel
theorem dL_cell_0 : decode cL_cell 0 = .ok (.iload_n 1, 1) := by decide +kernel
theorem dL_cell_1 : decode cL_cell 1 = .ok (.aload_n 0, 1) := by decide +kernel
theorem dL_cell_2 : decode cL_cell 2 = .ok (.arraylength, 1) := by decide +kernel
theorem dL_cell_3 : decode cL_cell 3 = .ok (.if_icmp .ge 9, 3) := by decide +kernel
theorem dL_cell_6 : decode cL_cell 6 = .ok (.aload_n 0, 1) := by decide +kernel
theorem dL_cell_7 : decode cL_cell 7 = .ok (.iload_n 1, 1) := by decide +kernel
theorem dL_cell_8 : decode cL_cell 8 = .ok (.iaload, 1) := by decide +kernel
theorem dL_cell_9 : decode cL_cell 9 = .ok (.goto 11, 3) := by decide +kernel
theorem dL_cell_12 : decode cL_cell 12 = .ok (.ldc 8, 2) := by decide +kernel
theorem dL_cell_14 : decode cL_cell 14 = .ok (.iload_n 1, 1) := by decide +kernel
theorem dL_cell_15 : decode cL_cell 15 = .ok (.imul, 1) := by decide +kernel
theorem dL_cell_16 : decode cL_cell 16 = .ok (.sipush 977, 3) := by decide +kernel
theorem dL_cell_19 : decode cL_cell 19 = .ok (.iadd, 1) := by decide +kernel
theorem dL_cell_20 : decode cL_cell 20 = .ok (.ireturn, 1) := by decide +kernel
theorem dL_buy_0 : decode cL_buy 0 = .ok (.aload_n 0, 1) := by decide +kernel
theorem dL_buy_1 : decode cL_buy 1 = .ok (.iload_n 1, 1) := by decide +kernel
theorem dL_buy_2 : decode cL_buy 2 = .ok (.iload_n 2, 1) := by decide +kernel
theorem dL_buy_3 : decode cL_buy 3 = .ok (.iload_n 3, 1) := by decide +kernel
theorem dL_buy_4 : decode cL_buy 4 = .ok (.invokevirtual 9, 3) := by decide +kernel
theorem dL_buy_7 : decode cL_buy 7 = .ok (.ireturn, 1) := by decide +kernel
theorem dL_buy_8 : decode cL_buy 8 = .ok (.astore 4, 2) := by decide +kernel
theorem dL_buy_10 : decode cL_buy 10 = .ok (.bipush (-3), 2) := by decide +kernel
theorem dL_buy_12 : decode cL_buy 12 = .ok (.ireturn, 1) := by decide +kernel
theorem dL_renew_0 : decode cL_renew 0 = .ok (.aload_n 0, 1) := by decide +kernel
theorem dL_renew_1 : decode cL_renew 1 = .ok (.iload_n 1, 1) := by decide +kernel
theorem dL_renew_2 : decode cL_renew 2 = .ok (.invokevirtual 17, 3) := by decide +kernel
theorem dL_renew_5 : decode cL_renew 5 = .ok (.ireturn, 1) := by decide +kernel
theorem dL_renew_6 : decode cL_renew 6 = .ok (.astore_n 2, 1) := by decide +kernel
theorem dL_renew_7 : decode cL_renew 7 = .ok (.bipush (-3), 2) := by decide +kernel
theorem dL_renew_9 : decode cL_renew 9 = .ok (.ireturn, 1) := by decide +kernel
theorem dL_put_0 : decode cL_put 0 = .ok (.aload_n 0, 1) := by decide +kernel
theorem dL_put_1 : decode cL_put 1 = .ok (.iload_n 1, 1) := by decide +kernel
theorem dL_put_2 : decode cL_put 2 = .ok (.iload_n 2, 1) := by decide +kernel
theorem dL_put_3 : decode cL_put 3 = .ok (.invokevirtual 21, 3) := by decide +kernel
theorem dL_put_6 : decode cL_put 6 = .ok (.ireturn, 1) := by decide +kernel
theorem dL_put_7 : decode cL_put 7 = .ok (.astore_n 3, 1) := by decide +kernel
theorem dL_put_8 : decode cL_put 8 = .ok (.bipush (-3), 2) := by decide +kernel
theorem dL_put_10 : decode cL_put 10 = .ok (.ireturn, 1) := by decide +kernel
theorem dL_lend_0 : decode cL_lend 0 = .ok (.aload_n 0, 1) := by decide +kernel
theorem dL_lend_1 : decode cL_lend 1 = .ok (.iload_n 1, 1) := by decide +kernel
theorem dL_lend_2 : decode cL_lend 2 = .ok (.iload_n 2, 1) := by decide +kernel
theorem dL_lend_3 : decode cL_lend 3 = .ok (.invokevirtual 25, 3) := by decide +kernel
theorem dL_lend_6 : decode cL_lend 6 = .ok (.ireturn, 1) := by decide +kernel
theorem dL_lend_7 : decode cL_lend 7 = .ok (.astore_n 3, 1) := by decide +kernel
theorem dL_lend_8 : decode cL_lend 8 = .ok (.bipush (-3), 2) := by decide +kernel
theorem dL_lend_10 : decode cL_lend 10 = .ok (.ireturn, 1) := by decide +kernel
theorem dL_test_0 : decode cL_test 0 = .ok (.aload_n 0, 1) := by decide +kernel
theorem dL_test_1 : decode cL_test 1 = .ok (.iload_n 1, 1) := by decide +kernel
theorem dL_test_2 : decode cL_test 2 = .ok (.iload_n 2, 1) := by decide +kernel
theorem dL_test_3 : decode cL_test 3 = .ok (.invokevirtual 28, 3) := by decide +kernel
theorem dL_test_6 : decode cL_test 6 = .ok (.ireturn, 1) := by decide +kernel
theorem dL_test_7 : decode cL_test 7 = .ok (.astore_n 3, 1) := by decide +kernel
theorem dL_test_8 : decode cL_test 8 = .ok (.bipush (-3), 2) := by decide +kernel
theorem dL_test_10 : decode cL_test 10 = .ok (.ireturn, 1) := by decide +kernel
theorem dL_undo_0 : decode cL_undo 0 = .ok (.aload_n 0, 1) := by decide +kernel
theorem dL_undo_1 : decode cL_undo 1 = .ok (.invokevirtual 31, 3) := by decide +kernel
theorem dL_undo_4 : decode cL_undo 4 = .ok (.ireturn, 1) := by decide +kernel
theorem dL_undo_5 : decode cL_undo 5 = .ok (.astore_n 1, 1) := by decide +kernel
theorem dL_undo_6 : decode cL_undo 6 = .ok (.bipush (-3), 2) := by decide +kernel
theorem dL_undo_8 : decode cL_undo 8 = .ok (.ireturn, 1) := by decide +kernel
theorem dL_station_0 : decode cL_station 0 = .ok (.aload_n 0, 1) := by decide +kernel
theorem dL_station_1 : decode cL_station 1 = .ok (.iconst 2, 1) := by decide +kernel
theorem dL_station_2 : decode cL_station 2 = .ok (.invokevirtual 35, 3) := by decide +kernel
theorem dL_station_5 : decode cL_station 5 = .ok (.istore_n 1, 1) := by decide +kernel
theorem dL_station_6 : decode cL_station 6 = .ok (.aload_n 0, 1) := by decide +kernel
theorem dL_station_7 : decode cL_station 7 = .ok (.iconst 0, 1) := by decide +kernel
theorem dL_station_8 : decode cL_station 8 = .ok (.invokevirtual 35, 3) := by decide +kernel
theorem dL_station_11 : decode cL_station 11 = .ok (.istore_n 2, 1) := by decide +kernel
theorem dL_station_12 : decode cL_station 12 = .ok (.iconst 0, 1) := by decide +kernel
theorem dL_station_13 : decode cL_station 13 = .ok (.istore_n 3, 1) := by decide +kernel
theorem dL_station_14 : decode cL_station 14 = .ok (.iconst 0, 1) := by decide +kernel
theorem dL_station_15 : decode cL_station 15 = .ok (.istore 4, 2) := by decide +kernel
theorem dL_station_17 : decode cL_station 17 = .ok (.iconst 0, 1) := by decide +kernel
theorem dL_station_18 : decode cL_station 18 = .ok (.istore 5, 2) := by decide +kernel
theorem dL_station_20 : decode cL_station 20 = .ok (.iconst 0, 1) := by decide +kernel
theorem dL_station_21 : decode cL_station 21 = .ok (.istore 6, 2) := by decide +kernel
theorem dL_station_23 : decode cL_station 23 = .ok (.iload_n 1, 1) := by decide +kernel
theorem dL_station_24 : decode cL_station 24 = .ok (.bipush 14, 2) := by decide +kernel
theorem dL_station_26 : decode cL_station 26 = .ok (.if_icmp .gt 41, 3) := by decide +kernel
theorem dL_station_29 : decode cL_station 29 = .ok (.aload_n 0, 1) := by decide +kernel
theorem dL_station_30 : decode cL_station 30 = .ok (.bipush 8, 2) := by decide +kernel
theorem dL_station_32 : decode cL_station 32 = .ok (.invokevirtual 35, 3) := by decide +kernel
theorem dL_station_35 : decode cL_station 35 = .ok (.aload_n 0, 1) := by decide +kernel
theorem dL_station_36 : decode cL_station 36 = .ok (.bipush 7, 2) := by decide +kernel
theorem dL_station_38 : decode cL_station 38 = .ok (.invokevirtual 35, 3) := by decide +kernel
theorem dL_station_41 : decode cL_station 41 = .ok (.if_icmp .gt 26, 3) := by decide +kernel
theorem dL_station_44 : decode cL_station 44 = .ok (.aload_n 0, 1) := by decide +kernel
theorem dL_station_45 : decode cL_station 45 = .ok (.iconst 1, 1) := by decide +kernel
theorem dL_station_46 : decode cL_station 46 = .ok (.invokevirtual 35, 3) := by decide +kernel
theorem dL_station_49 : decode cL_station 49 = .ok (.ifCond .lt 18, 3) := by decide +kernel
theorem dL_station_52 : decode cL_station 52 = .ok (.aload_n 0, 1) := by decide +kernel
theorem dL_station_53 : decode cL_station 53 = .ok (.iconst 1, 1) := by decide +kernel
theorem dL_station_54 : decode cL_station 54 = .ok (.invokevirtual 35, 3) := by decide +kernel
theorem dL_station_57 : decode cL_station 57 = .ok (.sipush 9999, 3) := by decide +kernel
theorem dL_station_60 : decode cL_station 60 = .ok (.if_icmp .gt 7, 3) := by decide +kernel
theorem dL_station_63 : decode cL_station 63 = .ok (.iconst 1, 1) := by decide +kernel
theorem dL_station_64 : decode cL_station 64 = .ok (.goto 4, 3) := by decide +kernel
theorem dL_station_67 : decode cL_station 67 = .ok (.iconst 0, 1) := by decide +kernel
theorem dL_station_68 : decode cL_station 68 = .ok (.istore 7, 2) := by decide +kernel
theorem dL_station_70 : decode cL_station 70 = .ok (.iconst 0, 1) := by decide +kernel
theorem dL_station_71 : decode cL_station 71 = .ok (.istore 8, 2) := by decide +kernel
theorem dL_station_73 : decode cL_station 73 = .ok (.iload 8, 2) := by decide +kernel
theorem dL_station_75 : decode cL_station 75 = .ok (.iload_n 1, 1) := by decide +kernel
theorem dL_station_76 : decode cL_station 76 = .ok (.if_icmp .ge 312, 3) := by decide +kernel
theorem dL_station_79 : decode cL_station 79 = .ok (.iload 7, 2) := by decide +kernel
theorem dL_station_81 : decode cL_station 81 = .ok (.ifCond .eq 307, 3) := by decide +kernel
theorem dL_station_84 : decode cL_station 84 = .ok (.aload_n 0, 1) := by decide +kernel
theorem dL_station_85 : decode cL_station 85 = .ok (.iload 8, 2) := by decide +kernel
theorem dL_station_87 : decode cL_station 87 = .ok (.bipush 7, 2) := by decide +kernel
theorem dL_station_89 : decode cL_station 89 = .ok (.invokevirtual 38, 3) := by decide +kernel
theorem dL_station_92 : decode cL_station 92 = .ok (.istore 9, 2) := by decide +kernel
theorem dL_station_94 : decode cL_station 94 = .ok (.aload_n 0, 1) := by decide +kernel
theorem dL_station_95 : decode cL_station 95 = .ok (.iload 8, 2) := by decide +kernel
theorem dL_station_97 : decode cL_station 97 = .ok (.bipush 9, 2) := by decide +kernel
theorem dL_station_99 : decode cL_station 99 = .ok (.invokevirtual 38, 3) := by decide +kernel
theorem dL_station_102 : decode cL_station 102 = .ok (.istore 10, 2) := by decide +kernel
theorem dL_station_104 : decode cL_station 104 = .ok (.aload_n 0, 1) := by decide +kernel
theorem dL_station_105 : decode cL_station 105 = .ok (.iload 8, 2) := by decide +kernel
theorem dL_station_107 : decode cL_station 107 = .ok (.invokevirtual 41, 3) := by decide +kernel
theorem dL_station_110 : decode cL_station 110 = .ok (.istore 11, 2) := by decide +kernel
theorem dL_station_112 : decode cL_station 112 = .ok (.iload_n 3, 1) := by decide +kernel
theorem dL_station_113 : decode cL_station 113 = .ok (.iload 10, 2) := by decide +kernel
theorem dL_station_115 : decode cL_station 115 = .ok (.iconst 1, 1) := by decide +kernel
theorem dL_station_116 : decode cL_station 116 = .ok (.if_icmp .ne 7, 3) := by decide +kernel
theorem dL_station_119 : decode cL_station 119 = .ok (.iconst 1, 1) := by decide +kernel
theorem dL_station_120 : decode cL_station 120 = .ok (.goto 4, 3) := by decide +kernel
theorem dL_station_123 : decode cL_station 123 = .ok (.iconst 0, 1) := by decide +kernel
theorem dL_station_124 : decode cL_station 124 = .ok (.iadd, 1) := by decide +kernel
theorem dL_station_125 : decode cL_station 125 = .ok (.istore_n 3, 1) := by decide +kernel
theorem dL_station_126 : decode cL_station 126 = .ok (.iload 4, 2) := by decide +kernel
theorem dL_station_128 : decode cL_station 128 = .ok (.iload 10, 2) := by decide +kernel
theorem dL_station_130 : decode cL_station 130 = .ok (.ifCond .ne 7, 3) := by decide +kernel
theorem dL_station_133 : decode cL_station 133 = .ok (.iconst 1, 1) := by decide +kernel
theorem dL_station_134 : decode cL_station 134 = .ok (.goto 4, 3) := by decide +kernel
theorem dL_station_137 : decode cL_station 137 = .ok (.iconst 0, 1) := by decide +kernel
theorem dL_station_138 : decode cL_station 138 = .ok (.iadd, 1) := by decide +kernel
theorem dL_station_139 : decode cL_station 139 = .ok (.istore 4, 2) := by decide +kernel
theorem dL_station_141 : decode cL_station 141 = .ok (.iload 5, 2) := by decide +kernel
theorem dL_station_143 : decode cL_station 143 = .ok (.iload 10, 2) := by decide +kernel
theorem dL_station_145 : decode cL_station 145 = .ok (.iconst 2, 1) := by decide +kernel
theorem dL_station_146 : decode cL_station 146 = .ok (.if_icmp .ne 7, 3) := by decide +kernel
theorem dL_station_149 : decode cL_station 149 = .ok (.iconst 1, 1) := by decide +kernel
theorem dL_station_150 : decode cL_station 150 = .ok (.goto 4, 3) := by decide +kernel
theorem dL_station_153 : decode cL_station 153 = .ok (.iconst 0, 1) := by decide +kernel
theorem dL_station_154 : decode cL_station 154 = .ok (.iadd, 1) := by decide +kernel
theorem dL_station_155 : decode cL_station 155 = .ok (.istore 5, 2) := by decide +kernel
theorem dL_station_157 : decode cL_station 157 = .ok (.iload 10, 2) := by decide +kernel
theorem dL_station_159 : decode cL_station 159 = .ok (.iconst 1, 1) := by decide +kernel
theorem dL_station_160 : decode cL_station 160 = .ok (.if_icmp .ne 7, 3) := by decide +kernel
theorem dL_station_163 : decode cL_station 163 = .ok (.iconst 1, 1) := by decide +kernel
theorem dL_station_164 : decode cL_station 164 = .ok (.goto 4, 3) := by decide +kernel
theorem dL_station_167 : decode cL_station 167 = .ok (.iconst 0, 1) := by decide +kernel
theorem dL_station_168 : decode cL_station 168 = .ok (.iload 9, 2) := by decide +kernel
theorem dL_station_170 : decode cL_station 170 = .ok (.iconst (-1), 1) := by decide +kernel
theorem dL_station_171 : decode cL_station 171 = .ok (.if_icmp .ne 7, 3) := by decide +kernel
theorem dL_station_174 : decode cL_station 174 = .ok (.iconst 1, 1) := by decide +kernel
theorem dL_station_175 : decode cL_station 175 = .ok (.goto 4, 3) := by decide +kernel
theorem dL_station_178 : decode cL_station 178 = .ok (.iconst 0, 1) := by decide +kernel
theorem dL_station_179 : decode cL_station 179 = .ok (.if_icmp .ne 200, 3) := by decide +kernel
theorem dL_station_182 : decode cL_station 182 = .ok (.iload 10, 2) := by decide +kernel
theorem dL_station_184 : decode cL_station 184 = .ok (.iconst 2, 1) := by decide +kernel
theorem dL_station_185 : decode cL_station 185 = .ok (.if_icmp .ne 7, 3) := by decide +kernel
theorem dL_station_188 : decode cL_station 188 = .ok (.iconst 1, 1) := by decide +kernel
theorem dL_station_189 : decode cL_station 189 = .ok (.goto 4, 3) := by decide +kernel
theorem dL_station_192 : decode cL_station 192 = .ok (.iconst 0, 1) := by decide +kernel
theorem dL_station_193 : decode cL_station 193 = .ok (.iload 9, 2) := by decide +kernel
theorem dL_station_195 : decode cL_station 195 = .ok (.iconst 4, 1) := by decide +kernel
theorem dL_station_196 : decode cL_station 196 = .ok (.if_icmp .ne 7, 3) := by decide +kernel
theorem dL_station_199 : decode cL_station 199 = .ok (.iconst 1, 1) := by decide +kernel
theorem dL_station_200 : decode cL_station 200 = .ok (.goto 4, 3) := by decide +kernel
theorem dL_station_203 : decode cL_station 203 = .ok (.iconst 0, 1) := by decide +kernel
theorem dL_station_204 : decode cL_station 204 = .ok (.if_icmp .ne 175, 3) := by decide +kernel
theorem dL_station_207 : decode cL_station 207 = .ok (.aload_n 0, 1) := by decide +kernel
theorem dL_station_208 : decode cL_station 208 = .ok (.iload 8, 2) := by decide +kernel
theorem dL_station_210 : decode cL_station 210 = .ok (.bipush 8, 2) := by decide +kernel
theorem dL_station_212 : decode cL_station 212 = .ok (.invokevirtual 38, 3) := by decide +kernel
theorem dL_station_215 : decode cL_station 215 = .ok (.iconst (-1), 1) := by decide +kernel
theorem dL_station_216 : decode cL_station 216 = .ok (.if_icmp .ne 7, 3) := by decide +kernel
theorem dL_station_219 : decode cL_station 219 = .ok (.iconst 1, 1) := by decide +kernel
theorem dL_station_220 : decode cL_station 220 = .ok (.goto 4, 3) := by decide +kernel
theorem dL_station_223 : decode cL_station 223 = .ok (.iconst 0, 1) := by decide +kernel
theorem dL_station_224 : decode cL_station 224 = .ok (.iload 9, 2) := by decide +kernel
theorem dL_station_226 : decode cL_station 226 = .ok (.iconst 4, 1) := by decide +kernel
theorem dL_station_227 : decode cL_station 227 = .ok (.if_icmp .eq 7, 3) := by decide +kernel
theorem dL_station_230 : decode cL_station 230 = .ok (.iconst 1, 1) := by decide +kernel
theorem dL_station_231 : decode cL_station 231 = .ok (.goto 4, 3) := by decide +kernel
theorem dL_station_234 : decode cL_station 234 = .ok (.iconst 0, 1) := by decide +kernel
theorem dL_station_235 : decode cL_station 235 = .ok (.if_icmp .ne 144, 3) := by decide +kernel
theorem dL_station_238 : decode cL_station 238 = .ok (.iload 9, 2) := by decide +kernel
theorem dL_station_240 : decode cL_station 240 = .ok (.iconst 4, 1) := by decide +kernel
theorem dL_station_241 : decode cL_station 241 = .ok (.if_icmp .ne 15, 3) := by decide +kernel
theorem dL_station_244 : decode cL_station 244 = .ok (.aload_n 0, 1) := by decide +kernel
theorem dL_station_245 : decode cL_station 245 = .ok (.iload 8, 2) := by decide +kernel
theorem dL_station_247 : decode cL_station 247 = .ok (.bipush 8, 2) := by decide +kernel
theorem dL_station_249 : decode cL_station 249 = .ok (.invokevirtual 38, 3) := by decide +kernel
theorem dL_station_252 : decode cL_station 252 = .ok (.iload_n 2, 1) := by decide +kernel
theorem dL_station_253 : decode cL_station 253 = .ok (.if_icmp .le 126, 3) := by decide +kernel
theorem dL_station_256 : decode cL_station 256 = .ok (.aload_n 0, 1) := by decide +kernel
theorem dL_station_257 : decode cL_station 257 = .ok (.iload 8, 2) := by decide +kernel
theorem dL_station_259 : decode cL_station 259 = .ok (.iconst 4, 1) := by decide +kernel
theorem dL_station_260 : decode cL_station 260 = .ok (.invokevirtual 38, 3) := by decide +kernel
theorem dL_station_263 : decode cL_station 263 = .ok (.ifCond .lt 116, 3) := by decide +kernel
theorem dL_station_266 : decode cL_station 266 = .ok (.aload_n 0, 1) := by decide +kernel
theorem dL_station_267 : decode cL_station 267 = .ok (.iload 8, 2) := by decide +kernel
theorem dL_station_269 : decode cL_station 269 = .ok (.iconst 4, 1) := by decide +kernel
theorem dL_station_270 : decode cL_station 270 = .ok (.invokevirtual 38, 3) := by decide +kernel
theorem dL_station_273 : decode cL_station 273 = .ok (.bipush 99, 2) := by decide +kernel
theorem dL_station_275 : decode cL_station 275 = .ok (.if_icmp .gt 104, 3) := by decide +kernel
theorem dL_station_278 : decode cL_station 278 = .ok (.aload_n 0, 1) := by decide +kernel
theorem dL_station_279 : decode cL_station 279 = .ok (.iload 8, 2) := by decide +kernel
theorem dL_station_281 : decode cL_station 281 = .ok (.iconst 5, 1) := by decide +kernel
theorem dL_station_282 : decode cL_station 282 = .ok (.invokevirtual 38, 3) := by decide +kernel
theorem dL_station_285 : decode cL_station 285 = .ok (.ifCond .lt 94, 3) := by decide +kernel
theorem dL_station_288 : decode cL_station 288 = .ok (.aload_n 0, 1) := by decide +kernel
theorem dL_station_289 : decode cL_station 289 = .ok (.iload 8, 2) := by decide +kernel
theorem dL_station_291 : decode cL_station 291 = .ok (.iconst 5, 1) := by decide +kernel
theorem dL_station_292 : decode cL_station 292 = .ok (.invokevirtual 38, 3) := by decide +kernel
theorem dL_station_295 : decode cL_station 295 = .ok (.bipush 24, 2) := by decide +kernel
theorem dL_station_297 : decode cL_station 297 = .ok (.if_icmp .gt 82, 3) := by decide +kernel
theorem dL_station_300 : decode cL_station 300 = .ok (.iload 10, 2) := by decide +kernel
theorem dL_station_302 : decode cL_station 302 = .ok (.ifCond .ne 15, 3) := by decide +kernel
theorem dL_station_305 : decode cL_station 305 = .ok (.aload_n 0, 1) := by decide +kernel
theorem dL_station_306 : decode cL_station 306 = .ok (.iload 8, 2) := by decide +kernel
theorem dL_station_308 : decode cL_station 308 = .ok (.bipush 6, 2) := by decide +kernel
theorem dL_station_310 : decode cL_station 310 = .ok (.invokevirtual 38, 3) := by decide +kernel
theorem dL_station_313 : decode cL_station 313 = .ok (.iload_n 2, 1) := by decide +kernel
theorem dL_station_314 : decode cL_station 314 = .ok (.if_icmp .lt 65, 3) := by decide +kernel
theorem dL_station_317 : decode cL_station 317 = .ok (.iload 11, 2) := by decide +kernel
theorem dL_station_319 : decode cL_station 319 = .ok (.iconst (-1), 1) := by decide +kernel
theorem dL_station_320 : decode cL_station 320 = .ok (.if_icmp .eq 16, 3) := by decide +kernel
theorem dL_station_323 : decode cL_station 323 = .ok (.aload_n 0, 1) := by decide +kernel
theorem dL_station_324 : decode cL_station 324 = .ok (.iload 8, 2) := by decide +kernel
theorem dL_station_326 : decode cL_station 326 = .ok (.iload 11, 2) := by decide +kernel
theorem dL_station_328 : decode cL_station 328 = .ok (.invokevirtual 44, 3) := by decide +kernel
theorem dL_station_331 : decode cL_station 331 = .ok (.bipush 100, 2) := by decide +kernel
theorem dL_station_333 : decode cL_station 333 = .ok (.if_icmp .ge 46, 3) := by decide +kernel
theorem dL_station_336 : decode cL_station 336 = .ok (.iload 11, 2) := by decide +kernel
theorem dL_station_338 : decode cL_station 338 = .ok (.bipush 24, 2) := by decide +kernel
theorem dL_station_340 : decode cL_station 340 = .ok (.if_icmp .eq 24, 3) := by decide +kernel
theorem dL_station_343 : decode cL_station 343 = .ok (.iload 11, 2) := by decide +kernel
theorem dL_station_345 : decode cL_station 345 = .ok (.iconst (-1), 1) := by decide +kernel
theorem dL_station_346 : decode cL_station 346 = .ok (.if_icmp .eq 18, 3) := by decide +kernel
theorem dL_station_349 : decode cL_station 349 = .ok (.aload_n 0, 1) := by decide +kernel
theorem dL_station_350 : decode cL_station 350 = .ok (.iload 8, 2) := by decide +kernel
theorem dL_station_352 : decode cL_station 352 = .ok (.iload 11, 2) := by decide +kernel
theorem dL_station_354 : decode cL_station 354 = .ok (.iconst 1, 1) := by decide +kernel
theorem dL_station_355 : decode cL_station 355 = .ok (.iadd, 1) := by decide +kernel
theorem dL_station_356 : decode cL_station 356 = .ok (.invokevirtual 44, 3) := by decide +kernel
theorem dL_station_359 : decode cL_station 359 = .ok (.bipush 100, 2) := by decide +kernel
theorem dL_station_361 : decode cL_station 361 = .ok (.if_icmp .lt 18, 3) := by decide +kernel
theorem dL_station_364 : decode cL_station 364 = .ok (.iload 9, 2) := by decide +kernel
theorem dL_station_366 : decode cL_station 366 = .ok (.ifCond .ge 9, 3) := by decide +kernel
theorem dL_station_369 : decode cL_station 369 = .ok (.iload 11, 2) := by decide +kernel
theorem dL_station_371 : decode cL_station 371 = .ok (.iconst (-1), 1) := by decide +kernel
theorem dL_station_372 : decode cL_station 372 = .ok (.if_icmp .ne 7, 3) := by decide +kernel
theorem dL_station_375 : decode cL_station 375 = .ok (.iconst 1, 1) := by decide +kernel
theorem dL_station_376 : decode cL_station 376 = .ok (.goto 4, 3) := by decide +kernel
theorem dL_station_379 : decode cL_station 379 = .ok (.iconst 0, 1) := by decide +kernel
theorem dL_station_380 : decode cL_station 380 = .ok (.istore 7, 2) := by decide +kernel
theorem dL_station_382 : decode cL_station 382 = .ok (.iinc 8 1, 3) := by decide +kernel
theorem dL_station_385 : decode cL_station 385 = .ok (.goto (-312), 3) := by decide +kernel
theorem dL_station_388 : decode cL_station 388 = .ok (.iconst 0, 1) := by decide +kernel
theorem dL_station_389 : decode cL_station 389 = .ok (.istore 8, 2) := by decide +kernel
theorem dL_station_391 : decode cL_station 391 = .ok (.iload 8, 2) := by decide +kernel
theorem dL_station_393 : decode cL_station 393 = .ok (.iconst 3, 1) := by decide +kernel
theorem dL_station_394 : decode cL_station 394 = .ok (.if_icmp .ge 299, 3) := by decide +kernel
theorem dL_station_397 : decode cL_station 397 = .ok (.iload 7, 2) := by decide +kernel
theorem dL_station_399 : decode cL_station 399 = .ok (.ifCond .eq 294, 3) := by decide +kernel
theorem dL_station_402 : decode cL_station 402 = .ok (.iconst 0, 1) := by decide +kernel
theorem dL_station_403 : decode cL_station 403 = .ok (.istore 9, 2) := by decide +kernel
theorem dL_station_405 : decode cL_station 405 = .ok (.aload_n 0, 1) := by decide +kernel
theorem dL_station_406 : decode cL_station 406 = .ok (.iload 8, 2) := by decide +kernel
theorem dL_station_408 : decode cL_station 408 = .ok (.iconst 5, 1) := by decide +kernel
theorem dL_station_409 : decode cL_station 409 = .ok (.invokevirtual 47, 3) := by decide +kernel
theorem dL_station_412 : decode cL_station 412 = .ok (.istore 10, 2) := by decide +kernel
theorem dL_station_414 : decode cL_station 414 = .ok (.iconst 0, 1) := by decide +kernel
theorem dL_station_415 : decode cL_station 415 = .ok (.istore 11, 2) := by decide +kernel
theorem dL_station_417 : decode cL_station 417 = .ok (.iload 11, 2) := by decide +kernel
theorem dL_station_419 : decode cL_station 419 = .ok (.iload_n 1, 1) := by decide +kernel
theorem dL_station_420 : decode cL_station 420 = .ok (.if_icmp .ge 101, 3) := by decide +kernel
theorem dL_station_423 : decode cL_station 423 = .ok (.iload 7, 2) := by decide +kernel
theorem dL_station_425 : decode cL_station 425 = .ok (.ifCond .eq 96, 3) := by decide +kernel
theorem dL_station_428 : decode cL_station 428 = .ok (.iload 10, 2) := by decide +kernel
theorem dL_station_430 : decode cL_station 430 = .ok (.iload 11, 2) := by decide +kernel
theorem dL_station_432 : decode cL_station 432 = .ok (.ishr, 1) := by decide +kernel
theorem dL_station_433 : decode cL_station 433 = .ok (.iconst 1, 1) := by decide +kernel
theorem dL_station_434 : decode cL_station 434 = .ok (.iand, 1) := by decide +kernel
theorem dL_station_435 : decode cL_station 435 = .ok (.iconst 1, 1) := by decide +kernel
theorem dL_station_436 : decode cL_station 436 = .ok (.if_icmp .ne 7, 3) := by decide +kernel
theorem dL_station_439 : decode cL_station 439 = .ok (.iconst 1, 1) := by decide +kernel
theorem dL_station_440 : decode cL_station 440 = .ok (.goto 4, 3) := by decide +kernel
theorem dL_station_443 : decode cL_station 443 = .ok (.iconst 0, 1) := by decide +kernel
theorem dL_station_444 : decode cL_station 444 = .ok (.istore 12, 2) := by decide +kernel
theorem dL_station_446 : decode cL_station 446 = .ok (.iload 9, 2) := by decide +kernel
theorem dL_station_448 : decode cL_station 448 = .ok (.iload 12, 2) := by decide +kernel
theorem dL_station_450 : decode cL_station 450 = .ok (.ifCond .eq 13, 3) := by decide +kernel
theorem dL_station_453 : decode cL_station 453 = .ok (.aload_n 0, 1) := by decide +kernel
theorem dL_station_454 : decode cL_station 454 = .ok (.iload 11, 2) := by decide +kernel
theorem dL_station_456 : decode cL_station 456 = .ok (.iconst 1, 1) := by decide +kernel
theorem dL_station_457 : decode cL_station 457 = .ok (.invokevirtual 38, 3) := by decide +kernel
theorem dL_station_460 : decode cL_station 460 = .ok (.goto 4, 3) := by decide +kernel
theorem dL_station_463 : decode cL_station 463 = .ok (.iconst 0, 1) := by decide +kernel
theorem dL_station_464 : decode cL_station 464 = .ok (.iadd, 1) := by decide +kernel
theorem dL_station_465 : decode cL_station 465 = .ok (.istore 9, 2) := by decide +kernel
theorem dL_station_467 : decode cL_station 467 = .ok (.iload 12, 2) := by decide +kernel
theorem dL_station_469 : decode cL_station 469 = .ok (.ifCond .eq 39, 3) := by decide +kernel
theorem dL_station_472 : decode cL_station 472 = .ok (.aload_n 0, 1) := by decide +kernel
theorem dL_station_473 : decode cL_station 473 = .ok (.iload 11, 2) := by decide +kernel
theorem dL_station_475 : decode cL_station 475 = .ok (.bipush 9, 2) := by decide +kernel
theorem dL_station_477 : decode cL_station 477 = .ok (.invokevirtual 38, 3) := by decide +kernel
theorem dL_station_480 : decode cL_station 480 = .ok (.ifCond .ne 32, 3) := by decide +kernel
theorem dL_station_483 : decode cL_station 483 = .ok (.aload_n 0, 1) := by decide +kernel
theorem dL_station_484 : decode cL_station 484 = .ok (.iload 11, 2) := by decide +kernel
theorem dL_station_486 : decode cL_station 486 = .ok (.bipush 7, 2) := by decide +kernel
theorem dL_station_488 : decode cL_station 488 = .ok (.invokevirtual 38, 3) := by decide +kernel
theorem dL_station_491 : decode cL_station 491 = .ok (.iload 8, 2) := by decide +kernel
theorem dL_station_493 : decode cL_station 493 = .ok (.if_icmp .ne 19, 3) := by decide +kernel
theorem dL_station_496 : decode cL_station 496 = .ok (.aload_n 0, 1) := by decide +kernel
theorem dL_station_497 : decode cL_station 497 = .ok (.iload 11, 2) := by decide +kernel
theorem dL_station_499 : decode cL_station 499 = .ok (.bipush 6, 2) := by decide +kernel
theorem dL_station_501 : decode cL_station 501 = .ok (.invokevirtual 38, 3) := by decide +kernel
theorem dL_station_504 : decode cL_station 504 = .ok (.iload_n 2, 1) := by decide +kernel
theorem dL_station_505 : decode cL_station 505 = .ok (.if_icmp .lt 7, 3) := by decide +kernel
theorem dL_station_508 : decode cL_station 508 = .ok (.iconst 1, 1) := by decide +kernel
theorem dL_station_509 : decode cL_station 509 = .ok (.goto 4, 3) := by decide +kernel
theorem dL_station_512 : decode cL_station 512 = .ok (.iconst 0, 1) := by decide +kernel
theorem dL_station_513 : decode cL_station 513 = .ok (.istore 7, 2) := by decide +kernel
theorem dL_station_515 : decode cL_station 515 = .ok (.iinc 11 1, 3) := by decide +kernel
theorem dL_station_518 : decode cL_station 518 = .ok (.goto (-101), 3) := by decide +kernel
theorem dL_station_521 : decode cL_station 521 = .ok (.aload_n 0, 1) := by decide +kernel
theorem dL_station_522 : decode cL_station 522 = .ok (.iload 8, 2) := by decide +kernel
theorem dL_station_524 : decode cL_station 524 = .ok (.invokevirtual 50, 3) := by decide +kernel
theorem dL_station_527 : decode cL_station 527 = .ok (.istore 11, 2) := by decide +kernel
theorem dL_station_529 : decode cL_station 529 = .ok (.iload 6, 2) := by decide +kernel
theorem dL_station_531 : decode cL_station 531 = .ok (.aload_n 0, 1) := by decide +kernel
theorem dL_station_532 : decode cL_station 532 = .ok (.iload 8, 2) := by decide +kernel
theorem dL_station_534 : decode cL_station 534 = .ok (.bipush 6, 2) := by decide +kernel
theorem dL_station_536 : decode cL_station 536 = .ok (.invokevirtual 47, 3) := by decide +kernel
theorem dL_station_539 : decode cL_station 539 = .ok (.iadd, 1) := by decide +kernel
theorem dL_station_540 : decode cL_station 540 = .ok (.istore 6, 2) := by decide +kernel
theorem dL_station_542 : decode cL_station 542 = .ok (.iload 7, 2) := by decide +kernel
theorem dL_station_544 : decode cL_station 544 = .ok (.ifCond .eq 140, 3) := by decide +kernel
theorem dL_station_547 : decode cL_station 547 = .ok (.iload 10, 2) := by decide +kernel
theorem dL_station_549 : decode cL_station 549 = .ok (.iload_n 1, 1) := by decide +kernel
theorem dL_station_550 : decode cL_station 550 = .ok (.ishr, 1) := by decide +kernel
theorem dL_station_551 : decode cL_station 551 = .ok (.ifCond .ne 133, 3) := by decide +kernel
theorem dL_station_554 : decode cL_station 554 = .ok (.aload_n 0, 1) := by decide +kernel
theorem dL_station_555 : decode cL_station 555 = .ok (.iload 8, 2) := by decide +kernel
theorem dL_station_557 : decode cL_station 557 = .ok (.iconst 1, 1) := by decide +kernel
theorem dL_station_558 : decode cL_station 558 = .ok (.invokevirtual 47, 3) := by decide +kernel
theorem dL_station_561 : decode cL_station 561 = .ok (.iload 9, 2) := by decide +kernel
theorem dL_station_563 : decode cL_station 563 = .ok (.if_icmp .ne 121, 3) := by decide +kernel
theorem dL_station_566 : decode cL_station 566 = .ok (.aload_n 0, 1) := by decide +kernel
theorem dL_station_567 : decode cL_station 567 = .ok (.iload 8, 2) := by decide +kernel
theorem dL_station_569 : decode cL_station 569 = .ok (.iconst 4, 1) := by decide +kernel
theorem dL_station_570 : decode cL_station 570 = .ok (.invokevirtual 47, 3) := by decide +kernel
theorem dL_station_573 : decode cL_station 573 = .ok (.aload_n 0, 1) := by decide +kernel
theorem dL_station_574 : decode cL_station 574 = .ok (.iconst 1, 1) := by decide +kernel
theorem dL_station_575 : decode cL_station 575 = .ok (.invokevirtual 53, 3) := by decide +kernel
theorem dL_station_578 : decode cL_station 578 = .ok (.if_icmp .gt 106, 3) := by decide +kernel
theorem dL_station_581 : decode cL_station 581 = .ok (.aload_n 0, 1) := by decide +kernel
theorem dL_station_582 : decode cL_station 582 = .ok (.iload 8, 2) := by decide +kernel
theorem dL_station_584 : decode cL_station 584 = .ok (.bipush 6, 2) := by decide +kernel
theorem dL_station_586 : decode cL_station 586 = .ok (.invokevirtual 47, 3) := by decide +kernel
theorem dL_station_589 : decode cL_station 589 = .ok (.iconst 1, 1) := by decide +kernel
theorem dL_station_590 : decode cL_station 590 = .ok (.if_icmp .ne 7, 3) := by decide +kernel
theorem dL_station_593 : decode cL_station 593 = .ok (.iconst 1, 1) := by decide +kernel
theorem dL_station_594 : decode cL_station 594 = .ok (.goto 4, 3) := by decide +kernel
theorem dL_station_597 : decode cL_station 597 = .ok (.iconst 0, 1) := by decide +kernel
theorem dL_station_598 : decode cL_station 598 = .ok (.aload_n 0, 1) := by decide +kernel
theorem dL_station_599 : decode cL_station 599 = .ok (.iload 8, 2) := by decide +kernel
theorem dL_station_601 : decode cL_station 601 = .ok (.iconst 1, 1) := by decide +kernel
theorem dL_station_602 : decode cL_station 602 = .ok (.invokevirtual 47, 3) := by decide +kernel
theorem dL_station_605 : decode cL_station 605 = .ok (.aload_n 0, 1) := by decide +kernel
theorem dL_station_606 : decode cL_station 606 = .ok (.iload 8, 2) := by decide +kernel
theorem dL_station_608 : decode cL_station 608 = .ok (.iconst 0, 1) := by decide +kernel
theorem dL_station_609 : decode cL_station 609 = .ok (.invokevirtual 47, 3) := by decide +kernel
theorem dL_station_612 : decode cL_station 612 = .ok (.if_icmp .lt 7, 3) := by decide +kernel
theorem dL_station_615 : decode cL_station 615 = .ok (.iconst 1, 1) := by decide +kernel
theorem dL_station_616 : decode cL_station 616 = .ok (.goto 4, 3) := by decide +kernel
theorem dL_station_619 : decode cL_station 619 = .ok (.iconst 0, 1) := by decide +kernel
theorem dL_station_620 : decode cL_station 620 = .ok (.if_icmp .ne 64, 3) := by decide +kernel
theorem dL_station_623 : decode cL_station 623 = .ok (.aload_n 0, 1) := by decide +kernel
theorem dL_station_624 : decode cL_station 624 = .ok (.iload 8, 2) := by decide +kernel
theorem dL_station_626 : decode cL_station 626 = .ok (.iconst 3, 1) := by decide +kernel
theorem dL_station_627 : decode cL_station 627 = .ok (.invokevirtual 47, 3) := by decide +kernel
theorem dL_station_630 : decode cL_station 630 = .ok (.aload_n 0, 1) := by decide +kernel
theorem dL_station_631 : decode cL_station 631 = .ok (.iload 8, 2) := by decide +kernel
theorem dL_station_633 : decode cL_station 633 = .ok (.iconst 2, 1) := by decide +kernel
theorem dL_station_634 : decode cL_station 634 = .ok (.invokevirtual 47, 3) := by decide +kernel
theorem dL_station_637 : decode cL_station 637 = .ok (.if_icmp .gt 47, 3) := by decide +kernel
theorem dL_station_640 : decode cL_station 640 = .ok (.iload 11, 2) := by decide +kernel
theorem dL_station_642 : decode cL_station 642 = .ok (.iconst (-1), 1) := by decide +kernel
theorem dL_station_643 : decode cL_station 643 = .ok (.if_icmp .eq 37, 3) := by decide +kernel
theorem dL_station_646 : decode cL_station 646 = .ok (.aload_n 0, 1) := by decide +kernel
theorem dL_station_647 : decode cL_station 647 = .ok (.iload 8, 2) := by decide +kernel
theorem dL_station_649 : decode cL_station 649 = .ok (.bipush 6, 2) := by decide +kernel
theorem dL_station_651 : decode cL_station 651 = .ok (.invokevirtual 47, 3) := by decide +kernel
theorem dL_station_654 : decode cL_station 654 = .ok (.ifCond .ne 30, 3) := by decide +kernel
theorem dL_station_657 : decode cL_station 657 = .ok (.aload_n 0, 1) := by decide +kernel
theorem dL_station_658 : decode cL_station 658 = .ok (.iload 11, 2) := by decide +kernel
theorem dL_station_660 : decode cL_station 660 = .ok (.bipush 7, 2) := by decide +kernel
theorem dL_station_662 : decode cL_station 662 = .ok (.invokevirtual 38, 3) := by decide +kernel
theorem dL_station_665 : decode cL_station 665 = .ok (.iconst 3, 1) := by decide +kernel
theorem dL_station_666 : decode cL_station 666 = .ok (.if_icmp .ne 18, 3) := by decide +kernel
theorem dL_station_669 : decode cL_station 669 = .ok (.aload_n 0, 1) := by decide +kernel
theorem dL_station_670 : decode cL_station 670 = .ok (.iload 11, 2) := by decide +kernel
theorem dL_station_672 : decode cL_station 672 = .ok (.bipush 9, 2) := by decide +kernel
theorem dL_station_674 : decode cL_station 674 = .ok (.invokevirtual 38, 3) := by decide +kernel
theorem dL_station_677 : decode cL_station 677 = .ok (.ifCond .ne 7, 3) := by decide +kernel
theorem dL_station_680 : decode cL_station 680 = .ok (.iconst 1, 1) := by decide +kernel
theorem dL_station_681 : decode cL_station 681 = .ok (.goto 4, 3) := by decide +kernel
theorem dL_station_684 : decode cL_station 684 = .ok (.iconst 0, 1) := by decide +kernel
theorem dL_station_685 : decode cL_station 685 = .ok (.istore 7, 2) := by decide +kernel
theorem dL_station_687 : decode cL_station 687 = .ok (.iinc 8 1, 3) := by decide +kernel
theorem dL_station_690 : decode cL_station 690 = .ok (.goto (-299), 3) := by decide +kernel
theorem dL_station_693 : decode cL_station 693 = .ok (.aload_n 0, 1) := by decide +kernel
theorem dL_station_694 : decode cL_station 694 = .ok (.invokevirtual 56, 3) := by decide +kernel
theorem dL_station_697 : decode cL_station 697 = .ok (.istore 8, 2) := by decide +kernel
theorem dL_station_699 : decode cL_station 699 = .ok (.iload 7, 2) := by decide +kernel
theorem dL_station_701 : decode cL_station 701 = .ok (.ifCond .eq 109, 3) := by decide +kernel
theorem dL_station_704 : decode cL_station 704 = .ok (.iload_n 3, 1) := by decide +kernel
theorem dL_station_705 : decode cL_station 705 = .ok (.aload_n 0, 1) := by decide +kernel
theorem dL_station_706 : decode cL_station 706 = .ok (.iconst 3, 1) := by decide +kernel
theorem dL_station_707 : decode cL_station 707 = .ok (.invokevirtual 35, 3) := by decide +kernel
theorem dL_station_710 : decode cL_station 710 = .ok (.if_icmp .ne 100, 3) := by decide +kernel
theorem dL_station_713 : decode cL_station 713 = .ok (.iload 4, 2) := by decide +kernel
theorem dL_station_715 : decode cL_station 715 = .ok (.aload_n 0, 1) := by decide +kernel
theorem dL_station_716 : decode cL_station 716 = .ok (.iconst 4, 1) := by decide +kernel
theorem dL_station_717 : decode cL_station 717 = .ok (.invokevirtual 35, 3) := by decide +kernel
theorem dL_station_720 : decode cL_station 720 = .ok (.if_icmp .ne 90, 3) := by decide +kernel
theorem dL_station_723 : decode cL_station 723 = .ok (.iload 5, 2) := by decide +kernel
theorem dL_station_725 : decode cL_station 725 = .ok (.aload_n 0, 1) := by decide +kernel
theorem dL_station_726 : decode cL_station 726 = .ok (.iconst 5, 1) := by decide +kernel
theorem dL_station_727 : decode cL_station 727 = .ok (.invokevirtual 35, 3) := by decide +kernel
theorem dL_station_730 : decode cL_station 730 = .ok (.if_icmp .ne 80, 3) := by decide +kernel
theorem dL_station_733 : decode cL_station 733 = .ok (.iload 6, 2) := by decide +kernel
theorem dL_station_735 : decode cL_station 735 = .ok (.aload_n 0, 1) := by decide +kernel
theorem dL_station_736 : decode cL_station 736 = .ok (.bipush 6, 2) := by decide +kernel
theorem dL_station_738 : decode cL_station 738 = .ok (.invokevirtual 35, 3) := by decide +kernel
theorem dL_station_741 : decode cL_station 741 = .ok (.if_icmp .ne 69, 3) := by decide +kernel
theorem dL_station_744 : decode cL_station 744 = .ok (.iload 8, 2) := by decide +kernel
theorem dL_station_746 : decode cL_station 746 = .ok (.iconst (-1), 1) := by decide +kernel
theorem dL_station_747 : decode cL_station 747 = .ok (.if_icmp .ne 7, 3) := by decide +kernel
theorem dL_station_750 : decode cL_station 750 = .ok (.iconst 1, 1) := by decide +kernel
theorem dL_station_751 : decode cL_station 751 = .ok (.goto 4, 3) := by decide +kernel
theorem dL_station_754 : decode cL_station 754 = .ok (.iconst 0, 1) := by decide +kernel
theorem dL_station_755 : decode cL_station 755 = .ok (.iload 4, 2) := by decide +kernel
theorem dL_station_757 : decode cL_station 757 = .ok (.ifCond .ne 7, 3) := by decide +kernel
theorem dL_station_760 : decode cL_station 760 = .ok (.iconst 1, 1) := by decide +kernel
theorem dL_station_761 : decode cL_station 761 = .ok (.goto 4, 3) := by decide +kernel
theorem dL_station_764 : decode cL_station 764 = .ok (.iconst 0, 1) := by decide +kernel
theorem dL_station_765 : decode cL_station 765 = .ok (.if_icmp .ne 45, 3) := by decide +kernel
theorem dL_station_768 : decode cL_station 768 = .ok (.iload 8, 2) := by decide +kernel
theorem dL_station_770 : decode cL_station 770 = .ok (.ifCond .eq 40, 3) := by decide +kernel
theorem dL_station_773 : decode cL_station 773 = .ok (.iload_n 1, 1) := by decide +kernel
theorem dL_station_774 : decode cL_station 774 = .ok (.iload_n 3, 1) := by decide +kernel
theorem dL_station_775 : decode cL_station 775 = .ok (.if_icmp .ne 15, 3) := by decide +kernel
theorem dL_station_778 : decode cL_station 778 = .ok (.aload_n 0, 1) := by decide +kernel
theorem dL_station_779 : decode cL_station 779 = .ok (.invokevirtual 59, 3) := by decide +kernel
theorem dL_station_782 : decode cL_station 782 = .ok (.dconst 1, 1) := by decide +kernel
theorem dL_station_783 : decode cL_station 783 = .ok (.dcmp .l, 1) := by decide +kernel
theorem dL_station_784 : decode cL_station 784 = .ok (.ifCond .ne 26, 3) := by decide +kernel
theorem dL_station_787 : decode cL_station 787 = .ok (.goto 19, 3) := by decide +kernel
theorem dL_station_790 : decode cL_station 790 = .ok (.aload_n 0, 1) := by decide +kernel
theorem dL_station_791 : decode cL_station 791 = .ok (.invokevirtual 59, 3) := by decide +kernel
theorem dL_station_794 : decode cL_station 794 = .ok (.iload 4, 2) := by decide +kernel
theorem dL_station_796 : decode cL_station 796 = .ok (.i2d, 1) := by decide +kernel
theorem dL_station_797 : decode cL_station 797 = .ok (.iload_n 1, 1) := by decide +kernel
theorem dL_station_798 : decode cL_station 798 = .ok (.iload_n 3, 1) := by decide +kernel
theorem dL_station_799 : decode cL_station 799 = .ok (.isub, 1) := by decide +kernel
theorem dL_station_800 : decode cL_station 800 = .ok (.i2d, 1) := by decide +kernel
theorem dL_station_801 : decode cL_station 801 = .ok (.ddiv, 1) := by decide +kernel
theorem dL_station_802 : decode cL_station 802 = .ok (.dcmp .l, 1) := by decide +kernel
theorem dL_station_803 : decode cL_station 803 = .ok (.ifCond .ne 7, 3) := by decide +kernel
theorem dL_station_806 : decode cL_station 806 = .ok (.iconst 1, 1) := by decide +kernel
theorem dL_station_807 : decode cL_station 807 = .ok (.goto 4, 3) := by decide +kernel
theorem dL_station_810 : decode cL_station 810 = .ok (.iconst 0, 1) := by decide +kernel
theorem dL_station_811 : decode cL_station 811 = .ok (.ireturn, 1) := by decide +kernel
theorem dL_act_0 : decode cL_act 0 = .ok (.aload_n 1, 1) := by decide +kernel
theorem dL_act_1 : decode cL_act 1 = .ok (.iload_n 2, 1) := by decide +kernel
theorem dL_act_2 : decode cL_act 2 = .ok (.iconst 1, 1) := by decide +kernel
theorem dL_act_3 : decode cL_act 3 = .ok (.iadd, 1) := by decide +kernel
theorem dL_act_4 : decode cL_act 4 = .ok (.invokestatic 63, 3) := by decide +kernel
theorem dL_act_7 : decode cL_act 7 = .ok (.istore_n 3, 1) := by decide +kernel
theorem dL_act_8 : decode cL_act 8 = .ok (.aload_n 1, 1) := by decide +kernel
theorem dL_act_9 : decode cL_act 9 = .ok (.iload_n 2, 1) := by decide +kernel
theorem dL_act_10 : decode cL_act 10 = .ok (.iconst 2, 1) := by decide +kernel
theorem dL_act_11 : decode cL_act 11 = .ok (.iadd, 1) := by decide +kernel
theorem dL_act_12 : decode cL_act 12 = .ok (.invokestatic 63, 3) := by decide +kernel
theorem dL_act_15 : decode cL_act 15 = .ok (.istore 4, 2) := by decide +kernel
theorem dL_act_17 : decode cL_act 17 = .ok (.aload_n 0, 1) := by decide +kernel
theorem dL_act_18 : decode cL_act 18 = .ok (.iconst 2, 1) := by decide +kernel
theorem dL_act_19 : decode cL_act 19 = .ok (.invokevirtual 35, 3) := by decide +kernel
theorem dL_act_22 : decode cL_act 22 = .ok (.istore 5, 2) := by decide +kernel
theorem dL_act_24 : decode cL_act 24 = .ok (.iload 5, 2) := by decide +kernel
theorem dL_act_26 : decode cL_act 26 = .ok (.ifCond .ne 7, 3) := by decide +kernel
theorem dL_act_29 : decode cL_act 29 = .ok (.iconst 0, 1) := by decide +kernel
theorem dL_act_30 : decode cL_act 30 = .ok (.goto 9, 3) := by decide +kernel
theorem dL_act_33 : decode cL_act 33 = .ok (.iload_n 3, 1) := by decide +kernel
theorem dL_act_34 : decode cL_act 34 = .ok (.iload 5, 2) := by decide +kernel
theorem dL_act_36 : decode cL_act 36 = .ok (.invokestatic 69, 3) := by decide +kernel
theorem dL_act_39 : decode cL_act 39 = .ok (.istore 6, 2) := by decide +kernel
theorem dL_act_41 : decode cL_act 41 = .ok (.aload_n 1, 1) := by decide +kernel
theorem dL_act_42 : decode cL_act 42 = .ok (.iload_n 2, 1) := by decide +kernel
theorem dL_act_43 : decode cL_act 43 = .ok (.invokestatic 63, 3) := by decide +kernel
theorem dL_act_46 : decode cL_act 46 = .ok (.bipush 20, 2) := by decide +kernel
theorem dL_act_48 : decode cL_act 48 = .ok (.invokestatic 69, 3) := by decide +kernel
theorem dL_act_51 : decode cL_act 51 = .ok (.tableswitch 290 0 18 #[89, 89, 89, 89, 116, 133, 133, 133, 156, 182, 182, 182, 182, 208, 225, 263, 277, 277, 277], 89) := by decide +kernel
theorem dL_act_140 : decode cL_act 140 = .ok (.aload_n 0, 1) := by decide +kernel
theorem dL_act_141 : decode cL_act 141 = .ok (.iload_n 3, 1) := by decide +kernel
theorem dL_act_142 : decode cL_act 142 = .ok (.iconst 3, 1) := by decide +kernel
theorem dL_act_143 : decode cL_act 143 = .ok (.invokestatic 69, 3) := by decide +kernel
theorem dL_act_146 : decode cL_act 146 = .ok (.iconst 5, 1) := by decide +kernel
theorem dL_act_147 : decode cL_act 147 = .ok (.iload 4, 2) := by decide +kernel
theorem dL_act_149 : decode cL_act 149 = .ok (.bipush 20, 2) := by decide +kernel
theorem dL_act_151 : decode cL_act 151 = .ok (.invokestatic 69, 3) := by decide +kernel
theorem dL_act_154 : decode cL_act 154 = .ok (.iadd, 1) := by decide +kernel
theorem dL_act_155 : decode cL_act 155 = .ok (.iload 4, 2) := by decide +kernel
theorem dL_act_157 : decode cL_act 157 = .ok (.iconst 5, 1) := by decide +kernel
theorem dL_act_158 : decode cL_act 158 = .ok (.ishr, 1) := by decide +kernel
theorem dL_act_159 : decode cL_act 159 = .ok (.iconst 3, 1) := by decide +kernel
theorem dL_act_160 : decode cL_act 160 = .ok (.invokestatic 69, 3) := by decide +kernel
theorem dL_act_163 : decode cL_act 163 = .ok (.invokestatic 72, 3) := by decide +kernel
theorem dL_act_166 : decode cL_act 166 = .ok (.ireturn, 1) := by decide +kernel
theorem dL_act_167 : decode cL_act 167 = .ok (.iload 5, 2) := by decide +kernel
theorem dL_act_169 : decode cL_act 169 = .ok (.ifCond .ne 8, 3) := by decide +kernel
theorem dL_act_172 : decode cL_act 172 = .ok (.bipush (-3), 2) := by decide +kernel
theorem dL_act_174 : decode cL_act 174 = .ok (.goto 9, 3) := by decide +kernel
theorem dL_act_177 : decode cL_act 177 = .ok (.aload_n 0, 1) := by decide +kernel
theorem dL_act_178 : decode cL_act 178 = .ok (.iload 6, 2) := by decide +kernel
theorem dL_act_180 : decode cL_act 180 = .ok (.invokestatic 75, 3) := by decide +kernel
theorem dL_act_183 : decode cL_act 183 = .ok (.ireturn, 1) := by decide +kernel
theorem dL_act_184 : decode cL_act 184 = .ok (.iload 5, 2) := by decide +kernel
theorem dL_act_186 : decode cL_act 186 = .ok (.ifCond .ne 8, 3) := by decide +kernel
theorem dL_act_189 : decode cL_act 189 = .ok (.bipush (-3), 2) := by decide +kernel
theorem dL_act_191 : decode cL_act 191 = .ok (.goto 15, 3) := by decide +kernel
theorem dL_act_194 : decode cL_act 194 = .ok (.aload_n 0, 1) := by decide +kernel
theorem dL_act_195 : decode cL_act 195 = .ok (.iload 6, 2) := by decide +kernel
theorem dL_act_197 : decode cL_act 197 = .ok (.iload 4, 2) := by decide +kernel
theorem dL_act_199 : decode cL_act 199 = .ok (.iconst 4, 1) := by decide +kernel
theorem dL_act_200 : decode cL_act 200 = .ok (.invokestatic 69, 3) := by decide +kernel
theorem dL_act_203 : decode cL_act 203 = .ok (.invokestatic 78, 3) := by decide +kernel
theorem dL_act_206 : decode cL_act 206 = .ok (.ireturn, 1) := by decide +kernel
theorem dL_act_207 : decode cL_act 207 = .ok (.iload 5, 2) := by decide +kernel
theorem dL_act_209 : decode cL_act 209 = .ok (.ifCond .ne 8, 3) := by decide +kernel
theorem dL_act_212 : decode cL_act 212 = .ok (.bipush (-3), 2) := by decide +kernel
theorem dL_act_214 : decode cL_act 214 = .ok (.goto 18, 3) := by decide +kernel
theorem dL_act_217 : decode cL_act 217 = .ok (.aload_n 0, 1) := by decide +kernel
theorem dL_act_218 : decode cL_act 218 = .ok (.iload 6, 2) := by decide +kernel
theorem dL_act_220 : decode cL_act 220 = .ok (.iconst 1, 1) := by decide +kernel
theorem dL_act_221 : decode cL_act 221 = .ok (.iload 4, 2) := by decide +kernel
theorem dL_act_223 : decode cL_act 223 = .ok (.bipush 40, 2) := by decide +kernel
theorem dL_act_225 : decode cL_act 225 = .ok (.invokestatic 69, 3) := by decide +kernel
theorem dL_act_228 : decode cL_act 228 = .ok (.iadd, 1) := by decide +kernel
theorem dL_act_229 : decode cL_act 229 = .ok (.invokestatic 81, 3) := by decide +kernel
theorem dL_act_232 : decode cL_act 232 = .ok (.ireturn, 1) := by decide +kernel
theorem dL_act_233 : decode cL_act 233 = .ok (.iload 5, 2) := by decide +kernel
theorem dL_act_235 : decode cL_act 235 = .ok (.ifCond .ne 8, 3) := by decide +kernel
theorem dL_act_238 : decode cL_act 238 = .ok (.bipush (-3), 2) := by decide +kernel
theorem dL_act_240 : decode cL_act 240 = .ok (.goto 18, 3) := by decide +kernel
theorem dL_act_243 : decode cL_act 243 = .ok (.aload_n 0, 1) := by decide +kernel
theorem dL_act_244 : decode cL_act 244 = .ok (.iload 6, 2) := by decide +kernel
theorem dL_act_246 : decode cL_act 246 = .ok (.iconst 4, 1) := by decide +kernel
theorem dL_act_247 : decode cL_act 247 = .ok (.iload 4, 2) := by decide +kernel
theorem dL_act_249 : decode cL_act 249 = .ok (.bipush 21, 2) := by decide +kernel
theorem dL_act_251 : decode cL_act 251 = .ok (.invokestatic 69, 3) := by decide +kernel
theorem dL_act_254 : decode cL_act 254 = .ok (.iadd, 1) := by decide +kernel
theorem dL_act_255 : decode cL_act 255 = .ok (.invokestatic 83, 3) := by decide +kernel
theorem dL_act_258 : decode cL_act 258 = .ok (.ireturn, 1) := by decide +kernel
theorem dL_act_259 : decode cL_act 259 = .ok (.aload_n 0, 1) := by decide +kernel
theorem dL_act_260 : decode cL_act 260 = .ok (.iload_n 3, 1) := by decide +kernel
theorem dL_act_261 : decode cL_act 261 = .ok (.iconst 3, 1) := by decide +kernel
theorem dL_act_262 : decode cL_act 262 = .ok (.invokestatic 69, 3) := by decide +kernel
theorem dL_act_265 : decode cL_act 265 = .ok (.iload 4, 2) := by decide +kernel
theorem dL_act_267 : decode cL_act 267 = .ok (.bipush 120, 2) := by decide +kernel
theorem dL_act_269 : decode cL_act 269 = .ok (.invokestatic 69, 3) := by decide +kernel
theorem dL_act_272 : decode cL_act 272 = .ok (.invokevirtual 85, 3) := by decide +kernel
theorem dL_act_275 : decode cL_act 275 = .ok (.ireturn, 1) := by decide +kernel
theorem dL_act_276 : decode cL_act 276 = .ok (.iload_n 3, 1) := by decide +kernel
theorem dL_act_277 : decode cL_act 277 = .ok (.iconst 2, 1) := by decide +kernel
theorem dL_act_278 : decode cL_act 278 = .ok (.invokestatic 69, 3) := by decide +kernel
theorem dL_act_281 : decode cL_act 281 = .ok (.ifCond .ne 20, 3) := by decide +kernel
theorem dL_act_284 : decode cL_act 284 = .ok (.aload_n 0, 1) := by decide +kernel
theorem dL_act_285 : decode cL_act 285 = .ok (.iconst 0, 1) := by decide +kernel
theorem dL_act_286 : decode cL_act 286 = .ok (.iconst 4, 1) := by decide +kernel
theorem dL_act_287 : decode cL_act 287 = .ok (.iload 4, 2) := by decide +kernel
theorem dL_act_289 : decode cL_act 289 = .ok (.bipush 21, 2) := by decide +kernel
theorem dL_act_291 : decode cL_act 291 = .ok (.invokestatic 69, 3) := by decide +kernel
theorem dL_act_294 : decode cL_act 294 = .ok (.iadd, 1) := by decide +kernel
theorem dL_act_295 : decode cL_act 295 = .ok (.invokevirtual 88, 3) := by decide +kernel
theorem dL_act_298 : decode cL_act 298 = .ok (.goto 15, 3) := by decide +kernel
theorem dL_act_301 : decode cL_act 301 = .ok (.aload_n 0, 1) := by decide +kernel
theorem dL_act_302 : decode cL_act 302 = .ok (.iconst 1, 1) := by decide +kernel
theorem dL_act_303 : decode cL_act 303 = .ok (.iload 4, 2) := by decide +kernel
theorem dL_act_305 : decode cL_act 305 = .ok (.bipush 6, 2) := by decide +kernel
theorem dL_act_307 : decode cL_act 307 = .ok (.invokestatic 69, 3) := by decide +kernel
theorem dL_act_310 : decode cL_act 310 = .ok (.invokevirtual 88, 3) := by decide +kernel
theorem dL_act_313 : decode cL_act 313 = .ok (.ireturn, 1) := by decide +kernel
theorem dL_act_314 : decode cL_act 314 = .ok (.aload_n 0, 1) := by decide +kernel
theorem dL_act_315 : decode cL_act 315 = .ok (.iconst 2, 1) := by decide +kernel
theorem dL_act_316 : decode cL_act 316 = .ok (.iload 4, 2) := by decide +kernel
theorem dL_act_318 : decode cL_act 318 = .ok (.sipush 201, 3) := by decide +kernel
theorem dL_act_321 : decode cL_act 321 = .ok (.invokestatic 69, 3) := by decide +kernel
theorem dL_act_324 : decode cL_act 324 = .ok (.invokevirtual 88, 3) := by decide +kernel
theorem dL_act_327 : decode cL_act 327 = .ok (.ireturn, 1) := by decide +kernel
theorem dL_act_328 : decode cL_act 328 = .ok (.aload_n 0, 1) := by decide +kernel
theorem dL_act_329 : decode cL_act 329 = .ok (.iconst 1, 1) := by decide +kernel
theorem dL_act_330 : decode cL_act 330 = .ok (.iload_n 3, 1) := by decide +kernel
theorem dL_act_331 : decode cL_act 331 = .ok (.bipush 40, 2) := by decide +kernel
theorem dL_act_333 : decode cL_act 333 = .ok (.invokestatic 69, 3) := by decide +kernel
theorem dL_act_336 : decode cL_act 336 = .ok (.iadd, 1) := by decide +kernel
theorem dL_act_337 : decode cL_act 337 = .ok (.invokevirtual 91, 3) := by decide +kernel
theorem dL_act_340 : decode cL_act 340 = .ok (.ireturn, 1) := by decide +kernel
theorem dL_act_341 : decode cL_act 341 = .ok (.aload_n 0, 1) := by decide +kernel
theorem dL_act_342 : decode cL_act 342 = .ok (.invokestatic 94, 3) := by decide +kernel
theorem dL_act_345 : decode cL_act 345 = .ok (.ireturn, 1) := by decide +kernel
theorem dL_law_0 : decode cL_law 0 = .ok (.new 10, 3) := by decide +kernel
theorem dL_law_3 : decode cL_law 3 = .ok (.dup, 1) := by decide +kernel
theorem dL_law_4 : decode cL_law 4 = .ok (.invokespecial 97, 3) := by decide +kernel
theorem dL_law_7 : decode cL_law 7 = .ok (.astore_n 1, 1) := by decide +kernel
theorem dL_law_8 : decode cL_law 8 = .ok (.iconst 1, 1) := by decide +kernel
theorem dL_law_9 : decode cL_law 9 = .ok (.istore_n 2, 1) := by decide +kernel
theorem dL_law_10 : decode cL_law 10 = .ok (.aload_n 0, 1) := by decide +kernel
theorem dL_law_11 : decode cL_law 11 = .ok (.arraylength, 1) := by decide +kernel
theorem dL_law_12 : decode cL_law 12 = .ok (.iconst 3, 1) := by decide +kernel
theorem dL_law_13 : decode cL_law 13 = .ok (.idiv, 1) := by decide +kernel
theorem dL_law_14 : decode cL_law 14 = .ok (.bipush 44, 2) := by decide +kernel
theorem dL_law_16 : decode cL_law 16 = .ok (.if_icmp .le 8, 3) := by decide +kernel
theorem dL_law_19 : decode cL_law 19 = .ok (.bipush 44, 2) := by decide +kernel
theorem dL_law_21 : decode cL_law 21 = .ok (.goto 7, 3) := by decide +kernel
theorem dL_law_24 : decode cL_law 24 = .ok (.aload_n 0, 1) := by decide +kernel
theorem dL_law_25 : decode cL_law 25 = .ok (.arraylength, 1) := by decide +kernel
theorem dL_law_26 : decode cL_law 26 = .ok (.iconst 3, 1) := by decide +kernel
theorem dL_law_27 : decode cL_law 27 = .ok (.idiv, 1) := by decide +kernel
theorem dL_law_28 : decode cL_law 28 = .ok (.istore_n 3, 1) := by decide +kernel
theorem dL_law_29 : decode cL_law 29 = .ok (.iconst 0, 1) := by decide +kernel
theorem dL_law_30 : decode cL_law 30 = .ok (.istore 4, 2) := by decide +kernel
theorem dL_law_32 : decode cL_law 32 = .ok (.iload 4, 2) := by decide +kernel
theorem dL_law_34 : decode cL_law 34 = .ok (.iload_n 3, 1) := by decide +kernel
theorem dL_law_35 : decode cL_law 35 = .ok (.if_icmp .ge 443, 3) := by decide +kernel
theorem dL_law_38 : decode cL_law 38 = .ok (.iload_n 2, 1) := by decide +kernel
theorem dL_law_39 : decode cL_law 39 = .ok (.ifCond .eq 439, 3) := by decide +kernel
theorem dL_law_42 : decode cL_law 42 = .ok (.aload_n 1, 1) := by decide +kernel
theorem dL_law_43 : decode cL_law 43 = .ok (.bipush 10, 2) := by decide +kernel
theorem dL_law_45 : decode cL_law 45 = .ok (.invokevirtual 35, 3) := by decide +kernel
theorem dL_law_48 : decode cL_law 48 = .ok (.istore 5, 2) := by decide +kernel
theorem dL_law_50 : decode cL_law 50 = .ok (.aload_n 1, 1) := by decide +kernel
theorem dL_law_51 : decode cL_law 51 = .ok (.iconst 0, 1) := by decide +kernel
theorem dL_law_52 : decode cL_law 52 = .ok (.invokevirtual 35, 3) := by decide +kernel
theorem dL_law_55 : decode cL_law 55 = .ok (.istore 6, 2) := by decide +kernel
theorem dL_law_57 : decode cL_law 57 = .ok (.aload_n 1, 1) := by decide +kernel
theorem dL_law_58 : decode cL_law 58 = .ok (.iconst 1, 1) := by decide +kernel
theorem dL_law_59 : decode cL_law 59 = .ok (.invokevirtual 35, 3) := by decide +kernel
theorem dL_law_62 : decode cL_law 62 = .ok (.istore 7, 2) := by decide +kernel
theorem dL_law_64 : decode cL_law 64 = .ok (.aload_n 1, 1) := by decide +kernel
theorem dL_law_65 : decode cL_law 65 = .ok (.iconst 2, 1) := by decide +kernel
theorem dL_law_66 : decode cL_law 66 = .ok (.invokevirtual 35, 3) := by decide +kernel
theorem dL_law_69 : decode cL_law 69 = .ok (.istore 8, 2) := by decide +kernel
theorem dL_law_71 : decode cL_law 71 = .ok (.aload_n 1, 1) := by decide +kernel
theorem dL_law_72 : decode cL_law 72 = .ok (.bipush 7, 2) := by decide +kernel
theorem dL_law_74 : decode cL_law 74 = .ok (.invokevirtual 35, 3) := by decide +kernel
theorem dL_law_77 : decode cL_law 77 = .ok (.istore 9, 2) := by decide +kernel
theorem dL_law_79 : decode cL_law 79 = .ok (.aload_n 1, 1) := by decide +kernel
theorem dL_law_80 : decode cL_law 80 = .ok (.bipush 9, 2) := by decide +kernel
theorem dL_law_82 : decode cL_law 82 = .ok (.invokevirtual 35, 3) := by decide +kernel
theorem dL_law_85 : decode cL_law 85 = .ok (.istore 10, 2) := by decide +kernel
theorem dL_law_87 : decode cL_law 87 = .ok (.aload_n 0, 1) := by decide +kernel
theorem dL_law_88 : decode cL_law 88 = .ok (.iconst 3, 1) := by decide +kernel
theorem dL_law_89 : decode cL_law 89 = .ok (.iload 4, 2) := by decide +kernel
theorem dL_law_91 : decode cL_law 91 = .ok (.imul, 1) := by decide +kernel
theorem dL_law_92 : decode cL_law 92 = .ok (.invokestatic 63, 3) := by decide +kernel
theorem dL_law_95 : decode cL_law 95 = .ok (.bipush 20, 2) := by decide +kernel
theorem dL_law_97 : decode cL_law 97 = .ok (.invokestatic 69, 3) := by decide +kernel
theorem dL_law_100 : decode cL_law 100 = .ok (.istore 11, 2) := by decide +kernel
theorem dL_law_102 : decode cL_law 102 = .ok (.iload 8, 2) := by decide +kernel
theorem dL_law_104 : decode cL_law 104 = .ok (.ifCond .ne 7, 3) := by decide +kernel
theorem dL_law_107 : decode cL_law 107 = .ok (.iconst 0, 1) := by decide +kernel
theorem dL_law_108 : decode cL_law 108 = .ok (.goto 18, 3) := by decide +kernel
theorem dL_law_111 : decode cL_law 111 = .ok (.aload_n 0, 1) := by decide +kernel
theorem dL_law_112 : decode cL_law 112 = .ok (.iconst 3, 1) := by decide +kernel
theorem dL_law_113 : decode cL_law 113 = .ok (.iload 4, 2) := by decide +kernel
theorem dL_law_115 : decode cL_law 115 = .ok (.imul, 1) := by decide +kernel
theorem dL_law_116 : decode cL_law 116 = .ok (.iconst 1, 1) := by decide +kernel
theorem dL_law_117 : decode cL_law 117 = .ok (.iadd, 1) := by decide +kernel
theorem dL_law_118 : decode cL_law 118 = .ok (.invokestatic 63, 3) := by decide +kernel
theorem dL_law_121 : decode cL_law 121 = .ok (.iload 8, 2) := by decide +kernel
theorem dL_law_123 : decode cL_law 123 = .ok (.invokestatic 69, 3) := by decide +kernel
theorem dL_law_126 : decode cL_law 126 = .ok (.istore 12, 2) := by decide +kernel
theorem dL_law_128 : decode cL_law 128 = .ok (.iconst 4, 1) := by decide +kernel
theorem dL_law_129 : decode cL_law 129 = .ok (.aload_n 0, 1) := by decide +kernel
theorem dL_law_130 : decode cL_law 130 = .ok (.iconst 3, 1) := by decide +kernel
theorem dL_law_131 : decode cL_law 131 = .ok (.iload 4, 2) := by decide +kernel
theorem dL_law_133 : decode cL_law 133 = .ok (.imul, 1) := by decide +kernel
theorem dL_law_134 : decode cL_law 134 = .ok (.iconst 2, 1) := by decide +kernel
theorem dL_law_135 : decode cL_law 135 = .ok (.iadd, 1) := by decide +kernel
theorem dL_law_136 : decode cL_law 136 = .ok (.invokestatic 63, 3) := by decide +kernel
theorem dL_law_139 : decode cL_law 139 = .ok (.bipush 21, 2) := by decide +kernel
theorem dL_law_141 : decode cL_law 141 = .ok (.invokestatic 69, 3) := by decide +kernel
theorem dL_law_144 : decode cL_law 144 = .ok (.iadd, 1) := by decide +kernel
theorem dL_law_145 : decode cL_law 145 = .ok (.istore 13, 2) := by decide +kernel
theorem dL_law_147 : decode cL_law 147 = .ok (.iload 8, 2) := by decide +kernel
theorem dL_law_149 : decode cL_law 149 = .ok (.ifCond .ne 7, 3) := by decide +kernel
theorem dL_law_152 : decode cL_law 152 = .ok (.iconst (-1), 1) := by decide +kernel
theorem dL_law_153 : decode cL_law 153 = .ok (.goto 11, 3) := by decide +kernel
theorem dL_law_156 : decode cL_law 156 = .ok (.aload_n 1, 1) := by decide +kernel
theorem dL_law_157 : decode cL_law 157 = .ok (.iload 12, 2) := by decide +kernel
theorem dL_law_159 : decode cL_law 159 = .ok (.iload 13, 2) := by decide +kernel
theorem dL_law_161 : decode cL_law 161 = .ok (.invokevirtual 44, 3) := by decide +kernel
theorem dL_law_164 : decode cL_law 164 = .ok (.istore 14, 2) := by decide +kernel
theorem dL_law_166 : decode cL_law 166 = .ok (.iload 8, 2) := by decide +kernel
theorem dL_law_168 : decode cL_law 168 = .ok (.ifCond .ne 7, 3) := by decide +kernel
theorem dL_law_171 : decode cL_law 171 = .ok (.iconst 0, 1) := by decide +kernel
theorem dL_law_172 : decode cL_law 172 = .ok (.goto 10, 3) := by decide +kernel
theorem dL_law_175 : decode cL_law 175 = .ok (.aload_n 1, 1) := by decide +kernel
theorem dL_law_176 : decode cL_law 176 = .ok (.iload 12, 2) := by decide +kernel
theorem dL_law_178 : decode cL_law 178 = .ok (.iconst 4, 1) := by decide +kernel
theorem dL_law_179 : decode cL_law 179 = .ok (.invokevirtual 38, 3) := by decide +kernel
theorem dL_law_182 : decode cL_law 182 = .ok (.istore 15, 2) := by decide +kernel
theorem dL_law_184 : decode cL_law 184 = .ok (.aload_n 1, 1) := by decide +kernel
theorem dL_law_185 : decode cL_law 185 = .ok (.aload_n 0, 1) := by decide +kernel
theorem dL_law_186 : decode cL_law 186 = .ok (.iconst 3, 1) := by decide +kernel
theorem dL_law_187 : decode cL_law 187 = .ok (.iload 4, 2) := by decide +kernel
theorem dL_law_189 : decode cL_law 189 = .ok (.imul, 1) := by decide +kernel
theorem dL_law_190 : decode cL_law 190 = .ok (.invokestatic 98, 3) := by decide +kernel
theorem dL_law_193 : decode cL_law 193 = .ok (.istore 16, 2) := by decide +kernel
theorem dL_law_195 : decode cL_law 195 = .ok (.iload 16, 2) := by decide +kernel
theorem dL_law_197 : decode cL_law 197 = .ok (.ifCond .ge 55, 3) := by decide +kernel
theorem dL_law_200 : decode cL_law 200 = .ok (.aload_n 1, 1) := by decide +kernel
theorem dL_law_201 : decode cL_law 201 = .ok (.bipush 10, 2) := by decide +kernel
theorem dL_law_203 : decode cL_law 203 = .ok (.invokevirtual 35, 3) := by decide +kernel
theorem dL_law_206 : decode cL_law 206 = .ok (.iload 5, 2) := by decide +kernel
theorem dL_law_208 : decode cL_law 208 = .ok (.if_icmp .ne 48, 3) := by decide +kernel
theorem dL_law_211 : decode cL_law 211 = .ok (.aload_n 1, 1) := by decide +kernel
theorem dL_law_212 : decode cL_law 212 = .ok (.iconst 0, 1) := by decide +kernel
theorem dL_law_213 : decode cL_law 213 = .ok (.invokevirtual 35, 3) := by decide +kernel
theorem dL_law_216 : decode cL_law 216 = .ok (.iload 6, 2) := by decide +kernel
theorem dL_law_218 : decode cL_law 218 = .ok (.if_icmp .ne 38, 3) := by decide +kernel
theorem dL_law_221 : decode cL_law 221 = .ok (.aload_n 1, 1) := by decide +kernel
theorem dL_law_222 : decode cL_law 222 = .ok (.iconst 1, 1) := by decide +kernel
theorem dL_law_223 : decode cL_law 223 = .ok (.invokevirtual 35, 3) := by decide +kernel
theorem dL_law_226 : decode cL_law 226 = .ok (.iload 7, 2) := by decide +kernel
theorem dL_law_228 : decode cL_law 228 = .ok (.if_icmp .ne 28, 3) := by decide +kernel
theorem dL_law_231 : decode cL_law 231 = .ok (.aload_n 1, 1) := by decide +kernel
theorem dL_law_232 : decode cL_law 232 = .ok (.iconst 2, 1) := by decide +kernel
theorem dL_law_233 : decode cL_law 233 = .ok (.invokevirtual 35, 3) := by decide +kernel
theorem dL_law_236 : decode cL_law 236 = .ok (.iload 8, 2) := by decide +kernel
theorem dL_law_238 : decode cL_law 238 = .ok (.if_icmp .ne 18, 3) := by decide +kernel
theorem dL_law_241 : decode cL_law 241 = .ok (.aload_n 1, 1) := by decide +kernel
theorem dL_law_242 : decode cL_law 242 = .ok (.bipush 7, 2) := by decide +kernel
theorem dL_law_244 : decode cL_law 244 = .ok (.invokevirtual 35, 3) := by decide +kernel
theorem dL_law_247 : decode cL_law 247 = .ok (.iload 9, 2) := by decide +kernel
theorem dL_law_249 : decode cL_law 249 = .ok (.if_icmp .ne 7, 3) := by decide +kernel
theorem dL_law_252 : decode cL_law 252 = .ok (.iconst 1, 1) := by decide +kernel
theorem dL_law_253 : decode cL_law 253 = .ok (.goto 4, 3) := by decide +kernel
theorem dL_law_256 : decode cL_law 256 = .ok (.iconst 0, 1) := by decide +kernel
theorem dL_law_257 : decode cL_law 257 = .ok (.istore_n 2, 1) := by decide +kernel
theorem dL_law_258 : decode cL_law 258 = .ok (.iload_n 2, 1) := by decide +kernel
theorem dL_law_259 : decode cL_law 259 = .ok (.ifCond .eq 211, 3) := by decide +kernel
theorem dL_law_262 : decode cL_law 262 = .ok (.iload 11, 2) := by decide +kernel
theorem dL_law_264 : decode cL_law 264 = .ok (.iconst 4, 1) := by decide +kernel
theorem dL_law_265 : decode cL_law 265 = .ok (.if_icmp .gt 46, 3) := by decide +kernel
theorem dL_law_268 : decode cL_law 268 = .ok (.iload 16, 2) := by decide +kernel
theorem dL_law_270 : decode cL_law 270 = .ok (.ifCond .lt 41, 3) := by decide +kernel
theorem dL_law_273 : decode cL_law 273 = .ok (.iload 16, 2) := by decide +kernel
theorem dL_law_275 : decode cL_law 275 = .ok (.iload 8, 2) := by decide +kernel
theorem dL_law_277 : decode cL_law 277 = .ok (.if_icmp .ne 193, 3) := by decide +kernel
theorem dL_law_280 : decode cL_law 280 = .ok (.iload 7, 2) := by decide +kernel
theorem dL_law_282 : decode cL_law 282 = .ok (.aload_n 1, 1) := by decide +kernel
theorem dL_law_283 : decode cL_law 283 = .ok (.iconst 1, 1) := by decide +kernel
theorem dL_law_284 : decode cL_law 284 = .ok (.invokevirtual 35, 3) := by decide +kernel
theorem dL_law_287 : decode cL_law 287 = .ok (.isub, 1) := by decide +kernel
theorem dL_law_288 : decode cL_law 288 = .ok (.aload_n 1, 1) := by decide +kernel
theorem dL_law_289 : decode cL_law 289 = .ok (.bipush 9, 2) := by decide +kernel
theorem dL_law_291 : decode cL_law 291 = .ok (.invokevirtual 35, 3) := by decide +kernel
theorem dL_law_294 : decode cL_law 294 = .ok (.iload 10, 2) := by decide +kernel
theorem dL_law_296 : decode cL_law 296 = .ok (.isub, 1) := by decide +kernel
theorem dL_law_297 : decode cL_law 297 = .ok (.if_icmp .ne 173, 3) := by decide +kernel
theorem dL_law_300 : decode cL_law 300 = .ok (.aload_n 1, 1) := by decide +kernel
theorem dL_law_301 : decode cL_law 301 = .ok (.bipush 9, 2) := by decide +kernel
theorem dL_law_303 : decode cL_law 303 = .ok (.invokevirtual 35, 3) := by decide +kernel
theorem dL_law_306 : decode cL_law 306 = .ok (.iload 10, 2) := by decide +kernel
theorem dL_law_308 : decode cL_law 308 = .ok (.if_icmp .le 162, 3) := by decide +kernel
theorem dL_law_311 : decode cL_law 311 = .ok (.iload 11, 2) := by decide +kernel
theorem dL_law_313 : decode cL_law 313 = .ok (.bipush 9, 2) := by decide +kernel
theorem dL_law_315 : decode cL_law 315 = .ok (.if_icmp .lt 113, 3) := by decide +kernel
theorem dL_law_318 : decode cL_law 318 = .ok (.iload 11, 2) := by decide +kernel
theorem dL_law_320 : decode cL_law 320 = .ok (.bipush 12, 2) := by decide +kernel
theorem dL_law_322 : decode cL_law 322 = .ok (.if_icmp .gt 106, 3) := by decide +kernel
theorem dL_law_325 : decode cL_law 325 = .ok (.iload 16, 2) := by decide +kernel
theorem dL_law_327 : decode cL_law 327 = .ok (.ifCond .lt 101, 3) := by decide +kernel
theorem dL_law_330 : decode cL_law 330 = .ok (.iload 16, 2) := by decide +kernel
theorem dL_law_332 : decode cL_law 332 = .ok (.iload 14, 2) := by decide +kernel
theorem dL_law_334 : decode cL_law 334 = .ok (.if_icmp .ne 136, 3) := by decide +kernel
theorem dL_law_337 : decode cL_law 337 = .ok (.aload_n 1, 1) := by decide +kernel
theorem dL_law_338 : decode cL_law 338 = .ok (.bipush 7, 2) := by decide +kernel
theorem dL_law_340 : decode cL_law 340 = .ok (.invokevirtual 35, 3) := by decide +kernel
theorem dL_law_343 : decode cL_law 343 = .ok (.iload 9, 2) := by decide +kernel
theorem dL_law_345 : decode cL_law 345 = .ok (.iconst 1, 1) := by decide +kernel
theorem dL_law_346 : decode cL_law 346 = .ok (.iadd, 1) := by decide +kernel
theorem dL_law_347 : decode cL_law 347 = .ok (.if_icmp .ne 123, 3) := by decide +kernel
theorem dL_law_350 : decode cL_law 350 = .ok (.iload 16, 2) := by decide +kernel
theorem dL_law_352 : decode cL_law 352 = .ok (.bipush 100, 2) := by decide +kernel
theorem dL_law_354 : decode cL_law 354 = .ok (.if_icmp .ge 62, 3) := by decide +kernel
theorem dL_law_357 : decode cL_law 357 = .ok (.aload_n 1, 1) := by decide +kernel
theorem dL_law_358 : decode cL_law 358 = .ok (.iload 12, 2) := by decide +kernel
theorem dL_law_360 : decode cL_law 360 = .ok (.iconst 4, 1) := by decide +kernel
theorem dL_law_361 : decode cL_law 361 = .ok (.invokevirtual 38, 3) := by decide +kernel
theorem dL_law_364 : decode cL_law 364 = .ok (.iload 15, 2) := by decide +kernel
theorem dL_law_366 : decode cL_law 366 = .ok (.iload 16, 2) := by decide +kernel
theorem dL_law_368 : decode cL_law 368 = .ok (.iadd, 1) := by decide +kernel
theorem dL_law_369 : decode cL_law 369 = .ok (.bipush 99, 2) := by decide +kernel
theorem dL_law_371 : decode cL_law 371 = .ok (.if_icmp .le 8, 3) := by decide +kernel
theorem dL_law_374 : decode cL_law 374 = .ok (.bipush 99, 2) := by decide +kernel
theorem dL_law_376 : decode cL_law 376 = .ok (.goto 8, 3) := by decide +kernel
theorem dL_law_379 : decode cL_law 379 = .ok (.iload 15, 2) := by decide +kernel
theorem dL_law_381 : decode cL_law 381 = .ok (.iload 16, 2) := by decide +kernel
theorem dL_law_383 : decode cL_law 383 = .ok (.iadd, 1) := by decide +kernel
theorem dL_law_384 : decode cL_law 384 = .ok (.if_icmp .ne 86, 3) := by decide +kernel
theorem dL_law_387 : decode cL_law 387 = .ok (.iload 13, 2) := by decide +kernel
theorem dL_law_389 : decode cL_law 389 = .ok (.aload_n 1, 1) := by decide +kernel
theorem dL_law_390 : decode cL_law 390 = .ok (.iconst 0, 1) := by decide +kernel
theorem dL_law_391 : decode cL_law 391 = .ok (.invokevirtual 53, 3) := by decide +kernel
theorem dL_law_394 : decode cL_law 394 = .ok (.if_icmp .lt 34, 3) := by decide +kernel
theorem dL_law_397 : decode cL_law 397 = .ok (.aload_n 1, 1) := by decide +kernel
theorem dL_law_398 : decode cL_law 398 = .ok (.iload 12, 2) := by decide +kernel
theorem dL_law_400 : decode cL_law 400 = .ok (.bipush 6, 2) := by decide +kernel
theorem dL_law_402 : decode cL_law 402 = .ok (.invokevirtual 38, 3) := by decide +kernel
theorem dL_law_405 : decode cL_law 405 = .ok (.iload 6, 2) := by decide +kernel
theorem dL_law_407 : decode cL_law 407 = .ok (.bipush 100, 2) := by decide +kernel
theorem dL_law_409 : decode cL_law 409 = .ok (.iadd, 1) := by decide +kernel
theorem dL_law_410 : decode cL_law 410 = .ok (.if_icmp .lt 60, 3) := by decide +kernel
theorem dL_law_413 : decode cL_law 413 = .ok (.goto 15, 3) := by decide +kernel
theorem dL_law_416 : decode cL_law 416 = .ok (.aload_n 1, 1) := by decide +kernel
theorem dL_law_417 : decode cL_law 417 = .ok (.iload 12, 2) := by decide +kernel
theorem dL_law_419 : decode cL_law 419 = .ok (.bipush 7, 2) := by decide +kernel
theorem dL_law_421 : decode cL_law 421 = .ok (.invokevirtual 38, 3) := by decide +kernel
theorem dL_law_424 : decode cL_law 424 = .ok (.iconst (-1), 1) := by decide +kernel
theorem dL_law_425 : decode cL_law 425 = .ok (.if_icmp .ne 45, 3) := by decide +kernel
theorem dL_law_428 : decode cL_law 428 = .ok (.iload 11, 2) := by decide +kernel
theorem dL_law_430 : decode cL_law 430 = .ok (.bipush 16, 2) := by decide +kernel
theorem dL_law_432 : decode cL_law 432 = .ok (.if_icmp .lt 27, 3) := by decide +kernel
theorem dL_law_435 : decode cL_law 435 = .ok (.iload 11, 2) := by decide +kernel
theorem dL_law_437 : decode cL_law 437 = .ok (.bipush 18, 2) := by decide +kernel
theorem dL_law_439 : decode cL_law 439 = .ok (.if_icmp .gt 20, 3) := by decide +kernel
theorem dL_law_442 : decode cL_law 442 = .ok (.iload 16, 2) := by decide +kernel
theorem dL_law_444 : decode cL_law 444 = .ok (.aload_n 1, 1) := by decide +kernel
theorem dL_law_445 : decode cL_law 445 = .ok (.iconst 0, 1) := by decide +kernel
theorem dL_law_446 : decode cL_law 446 = .ok (.invokevirtual 35, 3) := by decide +kernel
theorem dL_law_449 : decode cL_law 449 = .ok (.if_icmp .ne 21, 3) := by decide +kernel
theorem dL_law_452 : decode cL_law 452 = .ok (.iload 16, 2) := by decide +kernel
theorem dL_law_454 : decode cL_law 454 = .ok (.iload 6, 2) := by decide +kernel
theorem dL_law_456 : decode cL_law 456 = .ok (.if_icmp .le 14, 3) := by decide +kernel
theorem dL_law_459 : decode cL_law 459 = .ok (.aload_n 1, 1) := by decide +kernel
theorem dL_law_460 : decode cL_law 460 = .ok (.invokestatic 102, 3) := by decide +kernel
theorem dL_law_463 : decode cL_law 463 = .ok (.ifCond .eq 7, 3) := by decide +kernel
theorem dL_law_466 : decode cL_law 466 = .ok (.iconst 1, 1) := by decide +kernel
theorem dL_law_467 : decode cL_law 467 = .ok (.goto 4, 3) := by decide +kernel
theorem dL_law_470 : decode cL_law 470 = .ok (.iconst 0, 1) := by decide +kernel
theorem dL_law_471 : decode cL_law 471 = .ok (.istore_n 2, 1) := by decide +kernel
theorem dL_law_472 : decode cL_law 472 = .ok (.iinc 4 1, 3) := by decide +kernel
theorem dL_law_475 : decode cL_law 475 = .ok (.goto (-443), 3) := by decide +kernel
theorem dL_law_478 : decode cL_law 478 = .ok (.iload_n 2, 1) := by decide +kernel
theorem dL_law_479 : decode cL_law 479 = .ok (.ireturn, 1) := by decide +kernel
end
section
/-! links: the words as members of wsL_law, by their places; bundles for calls -/
theorem m_r1 : ∀ w ∈ wsL_law0_r1, w ∈ wsL_law := fun _ h => List.mem_append_left _ (List.mem_append_left _ (List.mem_append_left _ (List.mem_append_left _ (List.mem_append_left _ (List.mem_append_left _ (List.mem_append_left _ (List.mem_append_left _ (List.mem_append_left _ h))))))))
theorem m_r2 : ∀ w ∈ wsL_law0_r2, w ∈ wsL_law := fun _ h => List.mem_append_left _ (List.mem_append_left _ (List.mem_append_left _ (List.mem_append_left _ (List.mem_append_left _ (List.mem_append_left _ (List.mem_append_left _ (List.mem_append_left _ (List.mem_append_right _ (List.mem_append_left _ h)))))))))
theorem m_r3 : ∀ w ∈ wsL_law0_r3, w ∈ wsL_law := fun _ h => List.mem_append_left _ (List.mem_append_left _ (List.mem_append_left _ (List.mem_append_left _ (List.mem_append_left _ (List.mem_append_left _ (List.mem_append_left _ (List.mem_append_left _ (List.mem_append_right _ (List.mem_append_right _ (List.mem_append_left _ h))))))))))
theorem m_r4 : ∀ w ∈ wsL_law0_r4, w ∈ wsL_law := fun _ h => List.mem_append_left _ (List.mem_append_left _ (List.mem_append_left _ (List.mem_append_left _ (List.mem_append_left _ (List.mem_append_left _ (List.mem_append_left _ (List.mem_append_left _ (List.mem_append_right _ (List.mem_append_right _ (List.mem_append_right _ (List.mem_append_left _ h)))))))))))
theorem m_r5 : ∀ w ∈ wsL_law0_r5, w ∈ wsL_law := fun _ h => List.mem_append_left _ (List.mem_append_left _ (List.mem_append_left _ (List.mem_append_left _ (List.mem_append_left _ (List.mem_append_left _ (List.mem_append_left _ (List.mem_append_left _ (List.mem_append_right _ (List.mem_append_right _ (List.mem_append_right _ (List.mem_append_right _ (List.mem_append_left _ h))))))))))))
theorem m_r6 : ∀ w ∈ wsL_law0_r6, w ∈ wsL_law := fun _ h => List.mem_append_left _ (List.mem_append_left _ (List.mem_append_left _ (List.mem_append_left _ (List.mem_append_left _ (List.mem_append_left _ (List.mem_append_left _ (List.mem_append_left _ (List.mem_append_right _ (List.mem_append_right _ (List.mem_append_right _ (List.mem_append_right _ (List.mem_append_right _ (List.mem_append_left _ h)))))))))))))
theorem m_r7 : ∀ w ∈ wsL_law0_r7, w ∈ wsL_law := fun _ h => List.mem_append_left _ (List.mem_append_left _ (List.mem_append_left _ (List.mem_append_left _ (List.mem_append_left _ (List.mem_append_left _ (List.mem_append_left _ (List.mem_append_left _ (List.mem_append_right _ (List.mem_append_right _ (List.mem_append_right _ (List.mem_append_right _ (List.mem_append_right _ (List.mem_append_right _ (List.mem_append_left _ h))))))))))))))
theorem m_r8 : ∀ w ∈ wsL_law0_r8, w ∈ wsL_law := fun _ h => List.mem_append_left _ (List.mem_append_left _ (List.mem_append_left _ (List.mem_append_left _ (List.mem_append_left _ (List.mem_append_left _ (List.mem_append_left _ (List.mem_append_left _ (List.mem_append_right _ (List.mem_append_right _ (List.mem_append_right _ (List.mem_append_right _ (List.mem_append_right _ (List.mem_append_right _ (List.mem_append_right _ (List.mem_append_left _ h)))))))))))))))
theorem m_r9 : ∀ w ∈ wsL_law0_r9, w ∈ wsL_law := fun _ h => List.mem_append_left _ (List.mem_append_left _ (List.mem_append_left _ (List.mem_append_left _ (List.mem_append_left _ (List.mem_append_left _ (List.mem_append_left _ (List.mem_append_left _ (List.mem_append_right _ (List.mem_append_right _ (List.mem_append_right _ (List.mem_append_right _ (List.mem_append_right _ (List.mem_append_right _ (List.mem_append_right _ (List.mem_append_right _ (List.mem_append_left _ h))))))))))))))))
theorem m_r10 : ∀ w ∈ wsL_law0_r10, w ∈ wsL_law := fun _ h => List.mem_append_left _ (List.mem_append_left _ (List.mem_append_left _ (List.mem_append_left _ (List.mem_append_left _ (List.mem_append_left _ (List.mem_append_left _ (List.mem_append_left _ (List.mem_append_right _ (List.mem_append_right _ (List.mem_append_right _ (List.mem_append_right _ (List.mem_append_right _ (List.mem_append_right _ (List.mem_append_right _ (List.mem_append_right _ (List.mem_append_right _ (List.mem_append_left _ h)))))))))))))))))
theorem m_r11 : ∀ w ∈ wsL_law0_r11, w ∈ wsL_law := fun _ h => List.mem_append_left _ (List.mem_append_left _ (List.mem_append_left _ (List.mem_append_left _ (List.mem_append_left _ (List.mem_append_left _ (List.mem_append_left _ (List.mem_append_left _ (List.mem_append_right _ (List.mem_append_right _ (List.mem_append_right _ (List.mem_append_right _ (List.mem_append_right _ (List.mem_append_right _ (List.mem_append_right _ (List.mem_append_right _ (List.mem_append_right _ (List.mem_append_right _ (List.mem_append_left _ h))))))))))))))))))
theorem m_r12 : ∀ w ∈ wsL_law0_r12, w ∈ wsL_law := fun _ h => List.mem_append_left _ (List.mem_append_left _ (List.mem_append_left _ (List.mem_append_left _ (List.mem_append_left _ (List.mem_append_left _ (List.mem_append_left _ (List.mem_append_left _ (List.mem_append_right _ (List.mem_append_right _ (List.mem_append_right _ (List.mem_append_right _ (List.mem_append_right _ (List.mem_append_right _ (List.mem_append_right _ (List.mem_append_right _ (List.mem_append_right _ (List.mem_append_right _ (List.mem_append_right _ (List.mem_append_left _ h)))))))))))))))))))
theorem m_r13 : ∀ w ∈ wsL_law0_r13, w ∈ wsL_law := fun _ h => List.mem_append_left _ (List.mem_append_left _ (List.mem_append_left _ (List.mem_append_left _ (List.mem_append_left _ (List.mem_append_left _ (List.mem_append_left _ (List.mem_append_left _ (List.mem_append_right _ (List.mem_append_right _ (List.mem_append_right _ (List.mem_append_right _ (List.mem_append_right _ (List.mem_append_right _ (List.mem_append_right _ (List.mem_append_right _ (List.mem_append_right _ (List.mem_append_right _ (List.mem_append_right _ (List.mem_append_right _ (List.mem_append_left _ h))))))))))))))))))))
theorem m_r14 : ∀ w ∈ wsL_law0_r14, w ∈ wsL_law := fun _ h => List.mem_append_left _ (List.mem_append_left _ (List.mem_append_left _ (List.mem_append_left _ (List.mem_append_left _ (List.mem_append_left _ (List.mem_append_left _ (List.mem_append_left _ (List.mem_append_right _ (List.mem_append_right _ (List.mem_append_right _ (List.mem_append_right _ (List.mem_append_right _ (List.mem_append_right _ (List.mem_append_right _ (List.mem_append_right _ (List.mem_append_right _ (List.mem_append_right _ (List.mem_append_right _ (List.mem_append_right _ (List.mem_append_right _ (List.mem_append_left _ h)))))))))))))))))))))
theorem m_r15 : ∀ w ∈ wsL_law0_r15, w ∈ wsL_law := fun _ h => List.mem_append_left _ (List.mem_append_left _ (List.mem_append_left _ (List.mem_append_left _ (List.mem_append_left _ (List.mem_append_left _ (List.mem_append_left _ (List.mem_append_left _ (List.mem_append_right _ (List.mem_append_right _ (List.mem_append_right _ (List.mem_append_right _ (List.mem_append_right _ (List.mem_append_right _ (List.mem_append_right _ (List.mem_append_right _ (List.mem_append_right _ (List.mem_append_right _ (List.mem_append_right _ (List.mem_append_right _ (List.mem_append_right _ (List.mem_append_right _ (List.mem_append_left _ h))))))))))))))))))))))
theorem m_r16 : ∀ w ∈ wsL_law0_r16, w ∈ wsL_law := fun _ h => List.mem_append_left _ (List.mem_append_left _ (List.mem_append_left _ (List.mem_append_left _ (List.mem_append_left _ (List.mem_append_left _ (List.mem_append_left _ (List.mem_append_left _ (List.mem_append_right _ (List.mem_append_right _ (List.mem_append_right _ (List.mem_append_right _ (List.mem_append_right _ (List.mem_append_right _ (List.mem_append_right _ (List.mem_append_right _ (List.mem_append_right _ (List.mem_append_right _ (List.mem_append_right _ (List.mem_append_right _ (List.mem_append_right _ (List.mem_append_right _ (List.mem_append_right _ (h)))))))))))))))))))))))
theorem wl_good : wsL_law.all goodWord = true := by decide +kernel
theorem wl_pay {args : Array Value} {s : State} (hts : ∀ w ∈ wsL_law, w.before args s = true) : ∀ w ∈ wsL_law, ∀ (a' : Array Value) (U : State), s.WarmedH U.vm → w.before a' U = true := fun w h _ _ hW => word_at hW (good_of_word (List.all_eq_true.mp wl_good w h)) (hts w h)
abbrev wy_ (y : MethodName) (bytes : ByteArray) (maxL : Nat) (ret : Option FieldType) : List Cond := .code y bytes maxL ret :: wsL_law
abbrev wyW_ (y : MethodName) (bytes : ByteArray) (maxL : Nat) (ret : Option FieldType) (hh : List (Nat × Nat × Nat × Nat)) : List Cond := .codeWith y bytes maxL ret hh :: wsL_law
def KY (y : MethodName) (n : Nat) : Prop := y.cls ≠ "java/lang/invoke/MethodHandle" ∧ y.cls ≠ "java/lang/invoke/VarHandle" ∧ (parseMethodDescriptor y.desc).map (fun d => d.parameters.length) = some n
def KV (own : String) (index : Nat) (C : String) (y : MethodName) (bytes : ByteArray) (maxL : Nat) (ret : Option FieldType) (n : Nat) : Prop := (Cond.methodLink own index y ∈ wsL_law ∧ Cond.instanceMethod y ∈ wsL_law ∧ Cond.selects C y y ∈ wsL_law ∧ Cond.initialized y.cls ∈ wsL_law ∧ Cond.code y bytes maxL ret ∈ wsL_law) ∧ KY y n
def KS (own : String) (index : Nat) (y : MethodName) (bytes : ByteArray) (maxL : Nat) (ret : Option FieldType) (n : Nat) : Prop := (Cond.methodLink own index y ∈ wsL_law ∧ Cond.static y ∈ wsL_law ∧ Cond.initialized y.cls ∈ wsL_law ∧ Cond.code y bytes maxL ret ∈ wsL_law) ∧ KY y n
def KI (own : String) (index : Nat) (y : MethodName) (bytes : ByteArray) (maxL : Nat) (n : Nat) : Prop := (Cond.methodLink own index y ∈ wsL_law ∧ Cond.instanceMethod y ∈ wsL_law ∧ Cond.initialized y.cls ∈ wsL_law ∧ Cond.code y bytes maxL none ∈ wsL_law) ∧ KY y n ∧ y.name = "<init>"
def KSW (own : String) (index : Nat) (y : MethodName) (bytes : ByteArray) (maxL : Nat) (ret : Option FieldType) (hh : List (Nat × Nat × Nat × Nat)) (n : Nat) : Prop := (Cond.methodLink own index y ∈ wsL_law ∧ Cond.static y ∈ wsL_law ∧ Cond.initialized y.cls ∈ wsL_law ∧ Cond.codeWith y bytes maxL ret hh ∈ wsL_law) ∧ KY y n
theorem k_cB {R : Room} {s : State} {args : Array Value} {own : String} {index maxL n mc ms : Nat} {y : MethodName} {bytes : ByteArray} {ret : Option FieldType} {rm : Room} (hts : ∀ w ∈ wsL_law, w.before args s = true) (h1 : Cond.methodLink own index y ∈ wsL_law) (h2 : Cond.initialized y.cls ∈ wsL_law) (h3 : Cond.code y bytes maxL ret ∈ wsL_law) (hy : KY y n) (hrc : rm.cells = mc) (hrs : rm.slots = ms) (hR : rm.frames + 1 ≤ R.frames ∧ 8 + (maxL + 11) + rm.locals ≤ R.locals) :
    CallB R s args own index y bytes maxL ret (wy_ y bytes maxL ret) rm mc ms n := by
  refine ⟨hrc, hrs, hR.1, hR.2, fun w hw a' U hW => ?_, List.mem_cons_self, hts _ h3, hts _ h2, ⟨hy.1, hy.2.1⟩, fun sig h => ?_, hts _ h1⟩
  · rcases List.mem_cons.mp hw with rfl | hw
    · exact wl_pay hts _ h3 a' U hW
    · exact wl_pay hts _ hw a' U hW
  · have h2 := hy.2.2
    rw [h] at h2
    exact (Option.some.inj h2).symm
theorem k_cV {R : Room} {s : State} {args : Array Value} {own C : String} {index maxL n mc ms : Nat} {y : MethodName} {bytes : ByteArray} {ret : Option FieldType} {rm : Room} (hts : ∀ w ∈ wsL_law, w.before args s = true) (h : KV own index C y bytes maxL ret n) (hrc : rm.cells = mc) (hrs : rm.slots = ms) (hR : rm.frames + 1 ≤ R.frames ∧ 8 + (maxL + 11) + rm.locals ≤ R.locals) :
    CallW R s args own C index y bytes maxL ret (wy_ y bytes maxL ret) rm mc ms n := ⟨k_cB hts h.1.1 h.1.2.2.2.1 h.1.2.2.2.2 h.2 hrc hrs hR, hts _ h.1.2.1, hts _ h.1.2.2.1⟩
theorem k_cS {R : Room} {s : State} {args : Array Value} {own : String} {index maxL n mc ms : Nat} {y : MethodName} {bytes : ByteArray} {ret : Option FieldType} {rm : Room} (hts : ∀ w ∈ wsL_law, w.before args s = true) (h : KS own index y bytes maxL ret n) (hrc : rm.cells = mc) (hrs : rm.slots = ms) (hR : rm.frames + 1 ≤ R.frames ∧ 8 + (maxL + 11) + rm.locals ≤ R.locals) :
    CallB R s args own index y bytes maxL ret (wy_ y bytes maxL ret) rm mc ms n ∧ (Cond.static y).before args s = true := ⟨k_cB hts h.1.1 h.1.2.2.1 h.1.2.2.2 h.2 hrc hrs hR, hts _ h.1.2.1⟩
theorem k_cI {R : Room} {s : State} {args : Array Value} {own : String} {index maxL n mc ms : Nat} {y : MethodName} {bytes : ByteArray} {rm : Room} (hts : ∀ w ∈ wsL_law, w.before args s = true) (h : KI own index y bytes maxL n) (hrc : rm.cells = mc) (hrs : rm.slots = ms) (hR : rm.frames + 1 ≤ R.frames ∧ 8 + (maxL + 11) + rm.locals ≤ R.locals) :
    CallB R s args own index y bytes maxL none (wy_ y bytes maxL none) rm mc ms n ∧ y.name = "<init>" ∧ (Cond.instanceMethod y).before args s = true := ⟨k_cB hts h.1.1 h.1.2.2.1 h.1.2.2.2 h.2.1 hrc hrs hR, h.2.2, hts _ h.1.2.1⟩
theorem k_cSW {R : Room} {s : State} {args : Array Value} {own : String} {index maxL n mc ms : Nat} {y : MethodName} {bytes : ByteArray} {ret : Option FieldType} {hh : List (Nat × Nat × Nat × Nat)} {rm : Room} (hts : ∀ w ∈ wsL_law, w.before args s = true) (h : KSW own index y bytes maxL ret hh n) (hrc : rm.cells = mc) (hrs : rm.slots = ms) (hR : rm.frames + 1 ≤ R.frames ∧ 8 + (maxL + 11) + rm.locals ≤ R.locals) :
    vx_CSW R s args own index y bytes maxL ret hh (wyW_ y bytes maxL ret hh) rm mc ms n := by
  refine ⟨⟨hrc, hrs, hR.1, hR.2, fun w hw a' U hW => ?_, List.mem_cons_self⟩, hts _ h.1.2.2.2, hts _ h.1.2.2.1, ⟨h.2.1, h.2.2.1⟩, fun sig hh => ?_, hts _ h.1.1, hts _ h.1.2.1⟩
  · rcases List.mem_cons.mp hw with rfl | hw
    · exact wl_pay hts _ h.1.2.2.2 a' U hW
    · exact wl_pay hts _ hw a' U hW
  · have h2 := h.2.2.2
    rw [hh] at h2
    exact (Option.some.inj h2).symm
theorem ky_L_act : KY yL_act 3 := ⟨by decide +kernel, by decide +kernel, by decide +kernel⟩
theorem ky_L_buy : KY yL_buy 4 := ⟨by decide +kernel, by decide +kernel, by decide +kernel⟩
theorem ky_L_cell : KY yL_cell 2 := ⟨by decide +kernel, by decide +kernel, by decide +kernel⟩
theorem ky_L_lend : KY yL_lend 3 := ⟨by decide +kernel, by decide +kernel, by decide +kernel⟩
theorem ky_L_low : KY yL_low 2 := ⟨by decide +kernel, by decide +kernel, by decide +kernel⟩
theorem ky_L_put : KY yL_put 3 := ⟨by decide +kernel, by decide +kernel, by decide +kernel⟩
theorem ky_L_renew : KY yL_renew 2 := ⟨by decide +kernel, by decide +kernel, by decide +kernel⟩
theorem ky_L_station : KY yL_station 1 := ⟨by decide +kernel, by decide +kernel, by decide +kernel⟩
theorem ky_L_test : KY yL_test 3 := ⟨by decide +kernel, by decide +kernel, by decide +kernel⟩
theorem ky_L_undo : KY yL_undo 1 := ⟨by decide +kernel, by decide +kernel, by decide +kernel⟩
theorem ky_X0_init : KY yX0_init 0 := ⟨by decide +kernel, by decide +kernel, by decide +kernel⟩
theorem ky_X1_costOf : KY yX1_costOf 2 := ⟨by decide +kernel, by decide +kernel, by decide +kernel⟩
theorem ky_X1_daysInForce : KY yX1_daysInForce 1 := ⟨by decide +kernel, by decide +kernel, by decide +kernel⟩
theorem ky_X1_lifeOf : KY yX1_lifeOf 1 := ⟨by decide +kernel, by decide +kernel, by decide +kernel⟩
theorem ky_X1_strengthOf : KY yX1_strengthOf 3 := ⟨by decide +kernel, by decide +kernel, by decide +kernel⟩
theorem ky_X2_begin : KY yX2_begin 0 := ⟨by decide +kernel, by decide +kernel, by decide +kernel⟩
theorem ky_X2_init : KY yX2_init 0 := ⟨by decide +kernel, by decide +kernel, by decide +kernel⟩
theorem ky_X2_join : KY yX2_join 4 := ⟨by decide +kernel, by decide +kernel, by decide +kernel⟩
theorem ky_X3_addHose : KY yX3_addHose 4 := ⟨by decide +kernel, by decide +kernel, by decide +kernel⟩
theorem ky_X3_canBuy : KY yX3_canBuy 2 := ⟨by decide +kernel, by decide +kernel, by decide +kernel⟩
theorem ky_X3_cheapestHelp : KY yX3_cheapestHelp 1 := ⟨by decide +kernel, by decide +kernel, by decide +kernel⟩
theorem ky_X3_copyFrom : KY yX3_copyFrom 1 := ⟨by decide +kernel, by decide +kernel, by decide +kernel⟩
theorem ky_X3_daysToFirstLapse : KY yX3_daysToFirstLapse 0 := ⟨by decide +kernel, by decide +kernel, by decide +kernel⟩
theorem ky_X3_greatestSafePressure : KY yX3_greatestSafePressure 1 := ⟨by decide +kernel, by decide +kernel, by decide +kernel⟩
theorem ky_X3_hosesAt : KY yX3_hosesAt 1 := ⟨by decide +kernel, by decide +kernel, by decide +kernel⟩
theorem ky_X3_init : KY yX3_init 0 := ⟨by decide +kernel, by decide +kernel, by decide +kernel⟩
theorem ky_X3_isGone : KY yX3_isGone 1 := ⟨by decide +kernel, by decide +kernel, by decide +kernel⟩
theorem ky_X3_isLent : KY yX3_isLent 1 := ⟨by decide +kernel, by decide +kernel, by decide +kernel⟩
theorem ky_X3_isOnTruck : KY yX3_isOnTruck 1 := ⟨by decide +kernel, by decide +kernel, by decide +kernel⟩
theorem ky_X3_isReady : KY yX3_isReady 1 := ⟨by decide +kernel, by decide +kernel, by decide +kernel⟩
theorem ky_X3_layLine : KY yX3_layLine 2 := ⟨by decide +kernel, by decide +kernel, by decide +kernel⟩
theorem ky_X3_lendOut : KY yX3_lendOut 2 := ⟨by decide +kernel, by decide +kernel, by decide +kernel⟩
theorem ky_X3_outcomeOf : KY yX3_outcomeOf 2 := ⟨by decide +kernel, by decide +kernel, by decide +kernel⟩
theorem ky_X3_passDay : KY yX3_passDay 0 := ⟨by decide +kernel, by decide +kernel, by decide +kernel⟩
theorem ky_X3_priceOf : KY yX3_priceOf 1 := ⟨by decide +kernel, by decide +kernel, by decide +kernel⟩
theorem ky_X3_readyHoses : KY yX3_readyHoses 0 := ⟨by decide +kernel, by decide +kernel, by decide +kernel⟩
theorem ky_X3_readyHosesAt : KY yX3_readyHosesAt 1 := ⟨by decide +kernel, by decide +kernel, by decide +kernel⟩
theorem ky_X3_reasonOf : KY yX3_reasonOf 1 := ⟨by decide +kernel, by decide +kernel, by decide +kernel⟩
theorem ky_X3_replaceHose : KY yX3_replaceHose 1 := ⟨by decide +kernel, by decide +kernel, by decide +kernel⟩
theorem ky_X3_runTest : KY yX3_runTest 2 := ⟨by decide +kernel, by decide +kernel, by decide +kernel⟩
theorem ky_X3_stepsHeld : KY yX3_stepsHeld 2 := ⟨by decide +kernel, by decide +kernel, by decide +kernel⟩
theorem ky_X3_stepsUpTo : KY yX3_stepsUpTo 1 := ⟨by decide +kernel, by decide +kernel, by decide +kernel⟩
theorem ky_X3_strengthAt : KY yX3_strengthAt 2 := ⟨by decide +kernel, by decide +kernel, by decide +kernel⟩
theorem ky_X3_takeBackLent : KY yX3_takeBackLent 0 := ⟨by decide +kernel, by decide +kernel, by decide +kernel⟩
theorem ky_X3_wearOnTrucks : KY yX3_wearOnTrucks 0 := ⟨by decide +kernel, by decide +kernel, by decide +kernel⟩
theorem ky_X3_wholeTrucks : KY yX3_wholeTrucks 0 := ⟨by decide +kernel, by decide +kernel, by decide +kernel⟩
theorem ky_X4_buy : KY yX4_buy 3 := ⟨by decide +kernel, by decide +kernel, by decide +kernel⟩
theorem ky_X4_count : KY yX4_count 1 := ⟨by decide +kernel, by decide +kernel, by decide +kernel⟩
theorem ky_X4_greatestOfSetting : KY yX4_greatestOfSetting 1 := ⟨by decide +kernel, by decide +kernel, by decide +kernel⟩
theorem ky_X4_helps : KY yX4_helps 1 := ⟨by decide +kernel, by decide +kernel, by decide +kernel⟩
theorem ky_X4_hose : KY yX4_hose 2 := ⟨by decide +kernel, by decide +kernel, by decide +kernel⟩
theorem ky_X4_ifTested : KY yX4_ifTested 2 := ⟨by decide +kernel, by decide +kernel, by decide +kernel⟩
theorem ky_X4_init : KY yX4_init 0 := ⟨by decide +kernel, by decide +kernel, by decide +kernel⟩
theorem ky_X4_isWithin : KY yX4_isWithin 3 := ⟨by decide +kernel, by decide +kernel, by decide +kernel⟩
theorem ky_X4_leastOfSetting : KY yX4_leastOfSetting 1 := ⟨by decide +kernel, by decide +kernel, by decide +kernel⟩
theorem ky_X4_lend : KY yX4_lend 2 := ⟨by decide +kernel, by decide +kernel, by decide +kernel⟩
theorem ky_X4_nextLapse : KY yX4_nextLapse 0 := ⟨by decide +kernel, by decide +kernel, by decide +kernel⟩
theorem ky_X4_pass : KY yX4_pass 1 := ⟨by decide +kernel, by decide +kernel, by decide +kernel⟩
theorem ky_X4_put : KY yX4_put 2 := ⟨by decide +kernel, by decide +kernel, by decide +kernel⟩
theorem ky_X4_readyShare : KY yX4_readyShare 0 := ⟨by decide +kernel, by decide +kernel, by decide +kernel⟩
theorem ky_X4_renew : KY yX4_renew 1 := ⟨by decide +kernel, by decide +kernel, by decide +kernel⟩
theorem ky_X4_requireAtHand : KY yX4_requireAtHand 1 := ⟨by decide +kernel, by decide +kernel, by decide +kernel⟩
theorem ky_X4_requireHose : KY yX4_requireHose 1 := ⟨by decide +kernel, by decide +kernel, by decide +kernel⟩
theorem ky_X4_requirePressure : KY yX4_requirePressure 1 := ⟨by decide +kernel, by decide +kernel, by decide +kernel⟩
theorem ky_X4_requireSetting : KY yX4_requireSetting 1 := ⟨by decide +kernel, by decide +kernel, by decide +kernel⟩
theorem ky_X4_requireTruck : KY yX4_requireTruck 1 := ⟨by decide +kernel, by decide +kernel, by decide +kernel⟩
theorem ky_X4_safe : KY yX4_safe 1 := ⟨by decide +kernel, by decide +kernel, by decide +kernel⟩
theorem ky_X4_saveState : KY yX4_saveState 0 := ⟨by decide +kernel, by decide +kernel, by decide +kernel⟩
theorem ky_X4_set : KY yX4_set 2 := ⟨by decide +kernel, by decide +kernel, by decide +kernel⟩
theorem ky_X4_setting : KY yX4_setting 1 := ⟨by decide +kernel, by decide +kernel, by decide +kernel⟩
theorem ky_X4_test : KY yX4_test 2 := ⟨by decide +kernel, by decide +kernel, by decide +kernel⟩
theorem ky_X4_truck : KY yX4_truck 2 := ⟨by decide +kernel, by decide +kernel, by decide +kernel⟩
theorem ky_X4_undo : KY yX4_undo 0 := ⟨by decide +kernel, by decide +kernel, by decide +kernel⟩
theorem ky_X4_want : KY yX4_want 2 := ⟨by decide +kernel, by decide +kernel, by decide +kernel⟩
theorem flX4_10 : Cond.fieldLink RX4 10 "HoseTests" "now" "LHoseTests$Station;" ∈ wsL_law := (m_r1 _ (List.mem_of_getElem? (i := 12) rfl))
theorem flX4_16 : Cond.fieldLink RX4 16 "HoseTests" "saved" "[LHoseTests$Station;" ∈ wsL_law := (m_r1 _ (List.mem_of_getElem? (i := 13) rfl))
theorem flX4_20 : Cond.fieldLink RX4 20 "HoseTests" "latestSaved" "I" ∈ wsL_law := (m_r1 _ (List.mem_of_getElem? (i := 14) rfl))
theorem flX4_24 : Cond.fieldLink RX4 24 "HoseTests" "savedStates" "I" ∈ wsL_law := (m_r1 _ (List.mem_of_getElem? (i := 15) rfl))
theorem flX4_30 : Cond.fieldLink RX4 30 "HoseTests" "text" "LHoseTests$HoseText;" ∈ wsL_law := (m_r1 _ (List.mem_of_getElem? (i := 19) rfl))
theorem flX3_9 : Cond.fieldLink RX3 9 "HoseTests$Station" "day" "I" ∈ wsL_law := (m_r2 _ (List.mem_of_getElem? (i := 0) rfl))
theorem flX3_15 : Cond.fieldLink RX3 15 "HoseTests$Station" "money" "I" ∈ wsL_law := (m_r2 _ (List.mem_of_getElem? (i := 1) rfl))
theorem flX3_18 : Cond.fieldLink RX3 18 "HoseTests$Station" "wanted" "[I" ∈ wsL_law := (m_r2 _ (List.mem_of_getElem? (i := 3) rfl))
theorem flX3_22 : Cond.fieldLink RX3 22 "HoseTests$Station" "settings" "[I" ∈ wsL_law := (m_r2 _ (List.mem_of_getElem? (i := 4) rfl))
theorem flX3_25 : Cond.fieldLink RX3 25 "HoseTests$Station" "kind" "[I" ∈ wsL_law := (m_r2 _ (List.mem_of_getElem? (i := 5) rfl))
theorem flX3_28 : Cond.fieldLink RX3 28 "HoseTests$Station" "length" "[I" ∈ wsL_law := (m_r2 _ (List.mem_of_getElem? (i := 6) rfl))
theorem flX3_31 : Cond.fieldLink RX3 31 "HoseTests$Station" "coupling" "[I" ∈ wsL_law := (m_r2 _ (List.mem_of_getElem? (i := 7) rfl))
theorem flX3_34 : Cond.fieldLink RX3 34 "HoseTests$Station" "made" "[I" ∈ wsL_law := (m_r2 _ (List.mem_of_getElem? (i := 8) rfl))
theorem flX3_37 : Cond.fieldLink RX3 37 "HoseTests$Station" "wear" "[I" ∈ wsL_law := (m_r2 _ (List.mem_of_getElem? (i := 9) rfl))
theorem flX3_40 : Cond.fieldLink RX3 40 "HoseTests$Station" "lastTestDay" "[I" ∈ wsL_law := (m_r2 _ (List.mem_of_getElem? (i := 10) rfl))
theorem flX3_43 : Cond.fieldLink RX3 43 "HoseTests$Station" "place" "[I" ∈ wsL_law := (m_r2 _ (List.mem_of_getElem? (i := 11) rfl))
theorem flX3_46 : Cond.fieldLink RX3 46 "HoseTests$Station" "backDay" "[I" ∈ wsL_law := (m_r2 _ (List.mem_of_getElem? (i := 12) rfl))
theorem flX3_52 : Cond.fieldLink RX3 52 "HoseTests$Station" "line" "LHoseTests$Line;" ∈ wsL_law := (m_r2 _ (List.mem_of_getElem? (i := 16) rfl))
theorem flX0_11 : Cond.fieldLink RX0 11 "HoseTests$HoseText" "codes" "[I" ∈ wsL_law := (m_r3 _ (List.mem_of_getElem? (i := 0) rfl))
theorem flX0_15 : Cond.fieldLink RX0 15 "HoseTests$HoseText" "size" "I" ∈ wsL_law := (m_r3 _ (List.mem_of_getElem? (i := 1) rfl))
theorem flX4_127 : Cond.fieldLink RX4 127 "HoseTests$Station" "day" "I" ∈ wsL_law := (m_r3 _ (List.mem_of_getElem? (i := 8) rfl))
theorem flX4_213 : Cond.fieldLink RX4 213 "HoseTests$Station" "money" "I" ∈ wsL_law := (m_r3 _ (List.mem_of_getElem? (i := 9) rfl))
theorem flX4_216 : Cond.fieldLink RX4 216 "HoseTests$Station" "hoses" "I" ∈ wsL_law := (m_r3 _ (List.mem_of_getElem? (i := 10) rfl))
theorem flX4_225 : Cond.fieldLink RX4 225 "HoseTests$Station" "tests" "I" ∈ wsL_law := (m_r3 _ (List.mem_of_getElem? (i := 11) rfl))
theorem flX4_228 : Cond.fieldLink RX4 228 "HoseTests$Station" "bursts" "I" ∈ wsL_law := (m_r3 _ (List.mem_of_getElem? (i := 12) rfl))
theorem flX4_231 : Cond.fieldLink RX4 231 "HoseTests$Station" "paid" "I" ∈ wsL_law := (m_r3 _ (List.mem_of_getElem? (i := 13) rfl))
theorem flX3_56 : Cond.fieldLink RX3 56 "HoseTests$Station" "hoses" "I" ∈ wsL_law := (m_r3 _ (List.mem_of_getElem? (i := 21) rfl))
theorem flX3_148 : Cond.fieldLink RX3 148 "HoseTests$Line" "metres" "I" ∈ wsL_law := (m_r5 _ (List.mem_of_getElem? (i := 6) rfl))
theorem flX2_9 : Cond.fieldLink RX2 9 "HoseTests$Line" "metres" "I" ∈ wsL_law := (m_r5 _ (List.mem_of_getElem? (i := 11) rfl))
theorem flX2_15 : Cond.fieldLink RX2 15 "HoseTests$Line" "adaptersUsed" "I" ∈ wsL_law := (m_r5 _ (List.mem_of_getElem? (i := 12) rfl))
theorem flX2_18 : Cond.fieldLink RX2 18 "HoseTests$Line" "mask" "I" ∈ wsL_law := (m_r5 _ (List.mem_of_getElem? (i := 13) rfl))
theorem flX2_21 : Cond.fieldLink RX2 21 "HoseTests$Line" "lastCoupling" "I" ∈ wsL_law := (m_r5 _ (List.mem_of_getElem? (i := 14) rfl))
theorem flX4_68 : Cond.fieldLink RX4 68 "HoseTests$Station" "kind" "[I" ∈ wsL_law := (m_r7 _ (List.mem_of_getElem? (i := 23) rfl))
theorem flX4_72 : Cond.fieldLink RX4 72 "HoseTests$Station" "length" "[I" ∈ wsL_law := (m_r8 _ (List.mem_of_getElem? (i := 0) rfl))
theorem flX4_164 : Cond.fieldLink RX4 164 "HoseTests$Station" "coupling" "[I" ∈ wsL_law := (m_r8 _ (List.mem_of_getElem? (i := 1) rfl))
theorem flX4_167 : Cond.fieldLink RX4 167 "HoseTests$Station" "made" "[I" ∈ wsL_law := (m_r8 _ (List.mem_of_getElem? (i := 2) rfl))
theorem flX4_170 : Cond.fieldLink RX4 170 "HoseTests$Station" "wear" "[I" ∈ wsL_law := (m_r8 _ (List.mem_of_getElem? (i := 3) rfl))
theorem flX4_176 : Cond.fieldLink RX4 176 "HoseTests$Station" "lastTestDay" "[I" ∈ wsL_law := (m_r8 _ (List.mem_of_getElem? (i := 4) rfl))
theorem flX4_81 : Cond.fieldLink RX4 81 "HoseTests$Station" "place" "[I" ∈ wsL_law := (m_r8 _ (List.mem_of_getElem? (i := 5) rfl))
theorem flX4_179 : Cond.fieldLink RX4 179 "HoseTests$Station" "backDay" "[I" ∈ wsL_law := (m_r8 _ (List.mem_of_getElem? (i := 6) rfl))
theorem flX3_59 : Cond.fieldLink RX3 59 "HoseTests$Station" "tests" "I" ∈ wsL_law := (m_r9 _ (List.mem_of_getElem? (i := 13) rfl))
theorem flX3_62 : Cond.fieldLink RX3 62 "HoseTests$Station" "bursts" "I" ∈ wsL_law := (m_r9 _ (List.mem_of_getElem? (i := 14) rfl))
theorem flX3_65 : Cond.fieldLink RX3 65 "HoseTests$Station" "paid" "I" ∈ wsL_law := (m_r9 _ (List.mem_of_getElem? (i := 15) rfl))
theorem flX4_107 : Cond.fieldLink RX4 107 "HoseTests$Station" "wanted" "[I" ∈ wsL_law := (m_r12 _ (List.mem_of_getElem? (i := 11) rfl))
theorem flX4_121 : Cond.fieldLink RX4 121 "HoseTests$Station" "settings" "[I" ∈ wsL_law := (m_r12 _ (List.mem_of_getElem? (i := 19) rfl))
theorem flX4_190 : Cond.fieldLink RX4 190 "HoseTests$Station" "line" "LHoseTests$Line;" ∈ wsL_law := (m_r15 _ (List.mem_of_getElem? (i := 3) rfl))
theorem flX4_194 : Cond.fieldLink RX4 194 "HoseTests$Line" "metres" "I" ∈ wsL_law := (m_r15 _ (List.mem_of_getElem? (i := 4) rfl))
theorem flX4_205 : Cond.fieldLink RX4 205 "HoseTests$Line" "adaptersUsed" "I" ∈ wsL_law := (m_r15 _ (List.mem_of_getElem? (i := 5) rfl))
theorem flX4_208 : Cond.fieldLink RX4 208 "HoseTests$Line" "mask" "I" ∈ wsL_law := (m_r15 _ (List.mem_of_getElem? (i := 6) rfl))
theorem lkL_97 : KI RL 97 yX4_init cX4_init 2 0 := ⟨⟨(m_r1 _ (List.mem_of_getElem? (i := 3) rfl)), (m_r1 _ (List.mem_of_getElem? (i := 4) rfl)), (m_r1 _ (List.mem_of_getElem? (i := 2) rfl)), (m_r1 _ (List.mem_of_getElem? (i := 5) rfl))⟩, ky_X4_init, by decide +kernel⟩
theorem lkX4_9 : KI RX4 9 yX3_init cX3_init 1 0 := ⟨⟨(m_r1 _ (List.mem_of_getElem? (i := 20) rfl)), (m_r1 _ (List.mem_of_getElem? (i := 21) rfl)), (m_r1 _ (List.mem_of_getElem? (i := 11) rfl)), (m_r1 _ (List.mem_of_getElem? (i := 22) rfl))⟩, ky_X3_init, by decide +kernel⟩
theorem lkX4_29 : KI RX4 29 yX0_init cX0_init 1 0 := ⟨⟨(m_r2 _ (List.mem_of_getElem? (i := 20) rfl)), (m_r2 _ (List.mem_of_getElem? (i := 21) rfl)), (m_r1 _ (List.mem_of_getElem? (i := 18) rfl)), (m_r2 _ (List.mem_of_getElem? (i := 22) rfl))⟩, ky_X0_init, by decide +kernel⟩
theorem lkL_35 : KV RL 35 RX4 yX4_count cX4_count 2 (some .int) 1 := ⟨⟨(m_r3 _ (List.mem_of_getElem? (i := 2) rfl)), (m_r3 _ (List.mem_of_getElem? (i := 3) rfl)), (m_r3 _ (List.mem_of_getElem? (i := 4) rfl)), (m_r1 _ (List.mem_of_getElem? (i := 2) rfl)), (m_r3 _ (List.mem_of_getElem? (i := 5) rfl))⟩, ky_X4_count⟩
theorem lkX4_34 : KS RX4 34 yX4_isWithin cX4_isWithin 3 (some .boolean) 3 := ⟨⟨(m_r3 _ (List.mem_of_getElem? (i := 14) rfl)), (m_r3 _ (List.mem_of_getElem? (i := 15) rfl)), (m_r1 _ (List.mem_of_getElem? (i := 2) rfl)), (m_r3 _ (List.mem_of_getElem? (i := 16) rfl))⟩, ky_X4_isWithin⟩
theorem lkX4_199 : KV RX4 199 RX3 yX3_hosesAt cX3_hosesAt 4 (some .int) 1 := ⟨⟨(m_r3 _ (List.mem_of_getElem? (i := 17) rfl)), (m_r3 _ (List.mem_of_getElem? (i := 18) rfl)), (m_r3 _ (List.mem_of_getElem? (i := 19) rfl)), (m_r1 _ (List.mem_of_getElem? (i := 11) rfl)), (m_r3 _ (List.mem_of_getElem? (i := 20) rfl))⟩, ky_X3_hosesAt⟩
theorem lkX4_219 : KV RX4 219 RX3 yX3_readyHoses cX3_readyHoses 3 (some .int) 0 := ⟨⟨(m_r3 _ (List.mem_of_getElem? (i := 22) rfl)), (m_r3 _ (List.mem_of_getElem? (i := 23) rfl)), (m_r4 _ (List.mem_of_getElem? (i := 0) rfl)), (m_r1 _ (List.mem_of_getElem? (i := 11) rfl)), (m_r4 _ (List.mem_of_getElem? (i := 1) rfl))⟩, ky_X3_readyHoses⟩
theorem lkX3_138 : KV RX3 138 RX3 yX3_isReady cX3_isReady 2 (some .boolean) 1 := ⟨⟨(m_r4 _ (List.mem_of_getElem? (i := 2) rfl)), (m_r4 _ (List.mem_of_getElem? (i := 3) rfl)), (m_r4 _ (List.mem_of_getElem? (i := 4) rfl)), (m_r1 _ (List.mem_of_getElem? (i := 11) rfl)), (m_r4 _ (List.mem_of_getElem? (i := 5) rfl))⟩, ky_X3_isReady⟩
theorem lkX3_78 : KV RX3 78 RX3 yX3_reasonOf cX3_reasonOf 2 (some .int) 1 := ⟨⟨(m_r4 _ (List.mem_of_getElem? (i := 6) rfl)), (m_r4 _ (List.mem_of_getElem? (i := 7) rfl)), (m_r4 _ (List.mem_of_getElem? (i := 8) rfl)), (m_r1 _ (List.mem_of_getElem? (i := 11) rfl)), (m_r4 _ (List.mem_of_getElem? (i := 9) rfl))⟩, ky_X3_reasonOf⟩
theorem lkX3_82 : KV RX3 82 RX3 yX3_isGone cX3_isGone 2 (some .boolean) 1 := ⟨⟨(m_r4 _ (List.mem_of_getElem? (i := 10) rfl)), (m_r4 _ (List.mem_of_getElem? (i := 11) rfl)), (m_r4 _ (List.mem_of_getElem? (i := 12) rfl)), (m_r1 _ (List.mem_of_getElem? (i := 11) rfl)), (m_r4 _ (List.mem_of_getElem? (i := 13) rfl))⟩, ky_X3_isGone⟩
theorem lkX3_86 : KV RX3 86 RX3 yX3_isLent cX3_isLent 2 (some .boolean) 1 := ⟨⟨(m_r4 _ (List.mem_of_getElem? (i := 14) rfl)), (m_r4 _ (List.mem_of_getElem? (i := 15) rfl)), (m_r4 _ (List.mem_of_getElem? (i := 16) rfl)), (m_r1 _ (List.mem_of_getElem? (i := 11) rfl)), (m_r4 _ (List.mem_of_getElem? (i := 17) rfl))⟩, ky_X3_isLent⟩
theorem lkX3_89 : KS RX3 89 yX1_lifeOf cX1_lifeOf 1 (some .int) 1 := ⟨⟨(m_r4 _ (List.mem_of_getElem? (i := 18) rfl)), (m_r4 _ (List.mem_of_getElem? (i := 19) rfl)), (m_r4 _ (List.mem_of_getElem? (i := 20) rfl)), (m_r4 _ (List.mem_of_getElem? (i := 21) rfl))⟩, ky_X1_lifeOf⟩
theorem lkX4_222 : KV RX4 222 RX3 yX3_wholeTrucks cX3_wholeTrucks 3 (some .int) 0 := ⟨⟨(m_r4 _ (List.mem_of_getElem? (i := 22) rfl)), (m_r4 _ (List.mem_of_getElem? (i := 23) rfl)), (m_r5 _ (List.mem_of_getElem? (i := 0) rfl)), (m_r1 _ (List.mem_of_getElem? (i := 11) rfl)), (m_r5 _ (List.mem_of_getElem? (i := 1) rfl))⟩, ky_X3_wholeTrucks⟩
theorem lkX3_151 : KV RX3 151 RX3 yX3_layLine cX3_layLine 4 (some .boolean) 2 := ⟨⟨(m_r5 _ (List.mem_of_getElem? (i := 2) rfl)), (m_r5 _ (List.mem_of_getElem? (i := 3) rfl)), (m_r5 _ (List.mem_of_getElem? (i := 4) rfl)), (m_r1 _ (List.mem_of_getElem? (i := 11) rfl)), (m_r5 _ (List.mem_of_getElem? (i := 5) rfl))⟩, ky_X3_layLine⟩
theorem lkX3_141 : KV RX3 141 RX2 yX2_begin cX2_begin 1 none 0 := ⟨⟨(m_r5 _ (List.mem_of_getElem? (i := 7) rfl)), (m_r5 _ (List.mem_of_getElem? (i := 8) rfl)), (m_r5 _ (List.mem_of_getElem? (i := 9) rfl)), (m_r2 _ (List.mem_of_getElem? (i := 15) rfl)), (m_r5 _ (List.mem_of_getElem? (i := 10) rfl))⟩, ky_X2_begin⟩
theorem lkX3_144 : KV RX3 144 RX2 yX2_join cX2_join 5 none 4 := ⟨⟨(m_r5 _ (List.mem_of_getElem? (i := 15) rfl)), (m_r5 _ (List.mem_of_getElem? (i := 16) rfl)), (m_r5 _ (List.mem_of_getElem? (i := 17) rfl)), (m_r2 _ (List.mem_of_getElem? (i := 15) rfl)), (m_r5 _ (List.mem_of_getElem? (i := 18) rfl))⟩, ky_X2_join⟩
theorem lkL_63 : KS RL 63 yL_cell cL_cell 2 (some .int) 2 := ⟨⟨(m_r5 _ (List.mem_of_getElem? (i := 19) rfl)), (m_r5 _ (List.mem_of_getElem? (i := 20) rfl)), (m_r5 _ (List.mem_of_getElem? (i := 21) rfl)), (m_r5 _ (List.mem_of_getElem? (i := 22) rfl))⟩, ky_L_cell⟩
theorem lkL_69 : KS RL 69 yL_low cL_low 2 (some .int) 2 := ⟨⟨(m_r6 _ (List.mem_of_getElem? (i := 0) rfl)), (m_r6 _ (List.mem_of_getElem? (i := 1) rfl)), (m_r5 _ (List.mem_of_getElem? (i := 21) rfl)), (m_r6 _ (List.mem_of_getElem? (i := 2) rfl))⟩, ky_L_low⟩
theorem lkL_44 : KV RL 44 RX4 yX4_ifTested cX4_ifTested 3 (some .int) 2 := ⟨⟨(m_r6 _ (List.mem_of_getElem? (i := 4) rfl)), (m_r6 _ (List.mem_of_getElem? (i := 5) rfl)), (m_r6 _ (List.mem_of_getElem? (i := 6) rfl)), (m_r1 _ (List.mem_of_getElem? (i := 2) rfl)), (m_r6 _ (List.mem_of_getElem? (i := 7) rfl))⟩, ky_X4_ifTested⟩
theorem lkX4_61 : KV RX4 61 RX4 yX4_requireHose cX4_requireHose 2 none 1 := ⟨⟨(m_r6 _ (List.mem_of_getElem? (i := 8) rfl)), (m_r6 _ (List.mem_of_getElem? (i := 9) rfl)), (m_r6 _ (List.mem_of_getElem? (i := 10) rfl)), (m_r1 _ (List.mem_of_getElem? (i := 2) rfl)), (m_r6 _ (List.mem_of_getElem? (i := 11) rfl))⟩, ky_X4_requireHose⟩
theorem lkX4_96 : KS RX4 96 yX4_requirePressure cX4_requirePressure 1 none 1 := ⟨⟨(m_r6 _ (List.mem_of_getElem? (i := 14) rfl)), (m_r6 _ (List.mem_of_getElem? (i := 15) rfl)), (m_r1 _ (List.mem_of_getElem? (i := 2) rfl)), (m_r6 _ (List.mem_of_getElem? (i := 16) rfl))⟩, ky_X4_requirePressure⟩
theorem lkX4_234 : KV RX4 234 RX3 yX3_isGone cX3_isGone 2 (some .boolean) 1 := ⟨⟨(m_r6 _ (List.mem_of_getElem? (i := 17) rfl)), (m_r4 _ (List.mem_of_getElem? (i := 11) rfl)), (m_r4 _ (List.mem_of_getElem? (i := 12) rfl)), (m_r1 _ (List.mem_of_getElem? (i := 11) rfl)), (m_r4 _ (List.mem_of_getElem? (i := 13) rfl))⟩, ky_X3_isGone⟩
theorem lkX4_237 : KV RX4 237 RX3 yX3_outcomeOf cX3_outcomeOf 4 (some .int) 2 := ⟨⟨(m_r6 _ (List.mem_of_getElem? (i := 18) rfl)), (m_r6 _ (List.mem_of_getElem? (i := 19) rfl)), (m_r6 _ (List.mem_of_getElem? (i := 20) rfl)), (m_r1 _ (List.mem_of_getElem? (i := 11) rfl)), (m_r6 _ (List.mem_of_getElem? (i := 21) rfl))⟩, ky_X3_outcomeOf⟩
theorem lkX3_120 : KV RX3 120 RX3 yX3_stepsHeld cX3_stepsHeld 7 (some .int) 2 := ⟨⟨(m_r6 _ (List.mem_of_getElem? (i := 22) rfl)), (m_r6 _ (List.mem_of_getElem? (i := 23) rfl)), (m_r7 _ (List.mem_of_getElem? (i := 0) rfl)), (m_r1 _ (List.mem_of_getElem? (i := 11) rfl)), (m_r7 _ (List.mem_of_getElem? (i := 1) rfl))⟩, ky_X3_stepsHeld⟩
theorem lkX3_109 : KS RX3 109 yX3_stepsUpTo cX3_stepsUpTo 1 (some .int) 1 := ⟨⟨(m_r7 _ (List.mem_of_getElem? (i := 6) rfl)), (m_r7 _ (List.mem_of_getElem? (i := 7) rfl)), (m_r1 _ (List.mem_of_getElem? (i := 11) rfl)), (m_r7 _ (List.mem_of_getElem? (i := 8) rfl))⟩, ky_X3_stepsUpTo⟩
theorem lkX3_117 : KV RX3 117 RX3 yX3_strengthAt cX3_strengthAt 3 (some .int) 2 := ⟨⟨(m_r7 _ (List.mem_of_getElem? (i := 9) rfl)), (m_r7 _ (List.mem_of_getElem? (i := 10) rfl)), (m_r7 _ (List.mem_of_getElem? (i := 11) rfl)), (m_r1 _ (List.mem_of_getElem? (i := 11) rfl)), (m_r7 _ (List.mem_of_getElem? (i := 12) rfl))⟩, ky_X3_strengthAt⟩
theorem lkX3_94 : KS RX3 94 yX1_strengthOf cX1_strengthOf 3 (some .int) 3 := ⟨⟨(m_r7 _ (List.mem_of_getElem? (i := 13) rfl)), (m_r7 _ (List.mem_of_getElem? (i := 14) rfl)), (m_r4 _ (List.mem_of_getElem? (i := 20) rfl)), (m_r7 _ (List.mem_of_getElem? (i := 15) rfl))⟩, ky_X1_strengthOf⟩
theorem lkL_38 : KV RL 38 RX4 yX4_hose cX4_hose 3 (some .int) 2 := ⟨⟨(m_r7 _ (List.mem_of_getElem? (i := 19) rfl)), (m_r7 _ (List.mem_of_getElem? (i := 20) rfl)), (m_r7 _ (List.mem_of_getElem? (i := 21) rfl)), (m_r1 _ (List.mem_of_getElem? (i := 2) rfl)), (m_r7 _ (List.mem_of_getElem? (i := 22) rfl))⟩, ky_X4_hose⟩
theorem lkX4_173 : KV RX4 173 RX3 yX3_strengthAt cX3_strengthAt 3 (some .int) 2 := ⟨⟨(m_r8 _ (List.mem_of_getElem? (i := 7) rfl)), (m_r7 _ (List.mem_of_getElem? (i := 10) rfl)), (m_r7 _ (List.mem_of_getElem? (i := 11) rfl)), (m_r1 _ (List.mem_of_getElem? (i := 11) rfl)), (m_r7 _ (List.mem_of_getElem? (i := 12) rfl))⟩, ky_X3_strengthAt⟩
theorem lkX4_182 : KV RX4 182 RX3 yX3_reasonOf cX3_reasonOf 2 (some .int) 1 := ⟨⟨(m_r8 _ (List.mem_of_getElem? (i := 8) rfl)), (m_r4 _ (List.mem_of_getElem? (i := 7) rfl)), (m_r4 _ (List.mem_of_getElem? (i := 8) rfl)), (m_r1 _ (List.mem_of_getElem? (i := 11) rfl)), (m_r4 _ (List.mem_of_getElem? (i := 9) rfl))⟩, ky_X3_reasonOf⟩
theorem lkL_98 : KS RL 98 yL_act cL_act 7 (some .int) 3 := ⟨⟨(m_r8 _ (List.mem_of_getElem? (i := 9) rfl)), (m_r8 _ (List.mem_of_getElem? (i := 10) rfl)), (m_r5 _ (List.mem_of_getElem? (i := 21) rfl)), (m_r8 _ (List.mem_of_getElem? (i := 11) rfl))⟩, ky_L_act⟩
theorem lkL_72 : KSW RL 72 yL_buy cL_buy 5 (some .int) [(0, 7, 8, 15)] 4 := ⟨⟨(m_r8 _ (List.mem_of_getElem? (i := 12) rfl)), (m_r8 _ (List.mem_of_getElem? (i := 13) rfl)), (m_r5 _ (List.mem_of_getElem? (i := 21) rfl)), (m_r8 _ (List.mem_of_getElem? (i := 14) rfl))⟩, ky_L_buy⟩
theorem lkL_9 : KV RL 9 RX4 yX4_buy cX4_buy 4 (some .int) 3 := ⟨⟨(m_r8 _ (List.mem_of_getElem? (i := 16) rfl)), (m_r8 _ (List.mem_of_getElem? (i := 17) rfl)), (m_r8 _ (List.mem_of_getElem? (i := 18) rfl)), (m_r1 _ (List.mem_of_getElem? (i := 2) rfl)), (m_r8 _ (List.mem_of_getElem? (i := 19) rfl))⟩, ky_X4_buy⟩
theorem lkX4_45 : KV RX4 45 RX3 yX3_canBuy cX3_canBuy 3 (some .boolean) 2 := ⟨⟨(m_r8 _ (List.mem_of_getElem? (i := 22) rfl)), (m_r8 _ (List.mem_of_getElem? (i := 23) rfl)), (m_r9 _ (List.mem_of_getElem? (i := 0) rfl)), (m_r1 _ (List.mem_of_getElem? (i := 11) rfl)), (m_r9 _ (List.mem_of_getElem? (i := 1) rfl))⟩, ky_X3_canBuy⟩
theorem lkX3_98 : KS RX3 98 yX1_costOf cX1_costOf 2 (some .int) 2 := ⟨⟨(m_r9 _ (List.mem_of_getElem? (i := 2) rfl)), (m_r9 _ (List.mem_of_getElem? (i := 3) rfl)), (m_r4 _ (List.mem_of_getElem? (i := 20) rfl)), (m_r9 _ (List.mem_of_getElem? (i := 4) rfl))⟩, ky_X1_costOf⟩
theorem lkX4_54 : KV RX4 54 RX4 yX4_saveState cX4_saveState 2 none 0 := ⟨⟨(m_r9 _ (List.mem_of_getElem? (i := 5) rfl)), (m_r9 _ (List.mem_of_getElem? (i := 6) rfl)), (m_r9 _ (List.mem_of_getElem? (i := 7) rfl)), (m_r1 _ (List.mem_of_getElem? (i := 2) rfl)), (m_r9 _ (List.mem_of_getElem? (i := 8) rfl))⟩, ky_X4_saveState⟩
theorem lkX4_158 : KV RX4 158 RX3 yX3_copyFrom cX3_copyFrom 2 none 1 := ⟨⟨(m_r9 _ (List.mem_of_getElem? (i := 9) rfl)), (m_r9 _ (List.mem_of_getElem? (i := 10) rfl)), (m_r9 _ (List.mem_of_getElem? (i := 11) rfl)), (m_r1 _ (List.mem_of_getElem? (i := 11) rfl)), (m_r9 _ (List.mem_of_getElem? (i := 12) rfl))⟩, ky_X3_copyFrom⟩
theorem lkX4_57 : KV RX4 57 RX3 yX3_addHose cX3_addHose 6 (some .int) 4 := ⟨⟨(m_r9 _ (List.mem_of_getElem? (i := 20) rfl)), (m_r9 _ (List.mem_of_getElem? (i := 21) rfl)), (m_r9 _ (List.mem_of_getElem? (i := 22) rfl)), (m_r1 _ (List.mem_of_getElem? (i := 11) rfl)), (m_r9 _ (List.mem_of_getElem? (i := 23) rfl))⟩, ky_X3_addHose⟩
theorem lkX3_102 : KV RX3 102 RX3 yX3_priceOf cX3_priceOf 2 (some .int) 1 := ⟨⟨(m_r10 _ (List.mem_of_getElem? (i := 0) rfl)), (m_r10 _ (List.mem_of_getElem? (i := 1) rfl)), (m_r10 _ (List.mem_of_getElem? (i := 2) rfl)), (m_r1 _ (List.mem_of_getElem? (i := 11) rfl)), (m_r10 _ (List.mem_of_getElem? (i := 3) rfl))⟩, ky_X3_priceOf⟩
theorem lkL_75 : KSW RL 75 yL_renew cL_renew 3 (some .int) [(0, 5, 6, 15)] 2 := ⟨⟨(m_r10 _ (List.mem_of_getElem? (i := 4) rfl)), (m_r10 _ (List.mem_of_getElem? (i := 5) rfl)), (m_r5 _ (List.mem_of_getElem? (i := 21) rfl)), (m_r10 _ (List.mem_of_getElem? (i := 6) rfl))⟩, ky_L_renew⟩
theorem lkL_17 : KV RL 17 RX4 yX4_renew cX4_renew 2 (some .int) 1 := ⟨⟨(m_r10 _ (List.mem_of_getElem? (i := 7) rfl)), (m_r10 _ (List.mem_of_getElem? (i := 8) rfl)), (m_r10 _ (List.mem_of_getElem? (i := 9) rfl)), (m_r1 _ (List.mem_of_getElem? (i := 2) rfl)), (m_r10 _ (List.mem_of_getElem? (i := 10) rfl))⟩, ky_X4_renew⟩
theorem lkX4_65 : KV RX4 65 RX4 yX4_requireAtHand cX4_requireAtHand 2 none 1 := ⟨⟨(m_r10 _ (List.mem_of_getElem? (i := 11) rfl)), (m_r10 _ (List.mem_of_getElem? (i := 12) rfl)), (m_r10 _ (List.mem_of_getElem? (i := 13) rfl)), (m_r1 _ (List.mem_of_getElem? (i := 2) rfl)), (m_r10 _ (List.mem_of_getElem? (i := 14) rfl))⟩, ky_X4_requireAtHand⟩
theorem lkX4_292 : KV RX4 292 RX3 yX3_isLent cX3_isLent 2 (some .boolean) 1 := ⟨⟨(m_r10 _ (List.mem_of_getElem? (i := 15) rfl)), (m_r4 _ (List.mem_of_getElem? (i := 15) rfl)), (m_r4 _ (List.mem_of_getElem? (i := 16) rfl)), (m_r1 _ (List.mem_of_getElem? (i := 11) rfl)), (m_r4 _ (List.mem_of_getElem? (i := 17) rfl))⟩, ky_X3_isLent⟩
theorem lkX4_75 : KV RX4 75 RX3 yX3_replaceHose cX3_replaceHose 3 (some .int) 1 := ⟨⟨(m_r10 _ (List.mem_of_getElem? (i := 16) rfl)), (m_r10 _ (List.mem_of_getElem? (i := 17) rfl)), (m_r10 _ (List.mem_of_getElem? (i := 18) rfl)), (m_r1 _ (List.mem_of_getElem? (i := 11) rfl)), (m_r10 _ (List.mem_of_getElem? (i := 19) rfl))⟩, ky_X3_replaceHose⟩
theorem lkX3_105 : KV RX3 105 RX3 yX3_addHose cX3_addHose 6 (some .int) 4 := ⟨⟨(m_r10 _ (List.mem_of_getElem? (i := 20) rfl)), (m_r9 _ (List.mem_of_getElem? (i := 21) rfl)), (m_r9 _ (List.mem_of_getElem? (i := 22) rfl)), (m_r1 _ (List.mem_of_getElem? (i := 11) rfl)), (m_r9 _ (List.mem_of_getElem? (i := 23) rfl))⟩, ky_X3_addHose⟩
theorem lkL_78 : KSW RL 78 yL_put cL_put 4 (some .int) [(0, 6, 7, 15)] 3 := ⟨⟨(m_r10 _ (List.mem_of_getElem? (i := 21) rfl)), (m_r10 _ (List.mem_of_getElem? (i := 22) rfl)), (m_r5 _ (List.mem_of_getElem? (i := 21) rfl)), (m_r10 _ (List.mem_of_getElem? (i := 23) rfl))⟩, ky_L_put⟩
theorem lkL_21 : KV RL 21 RX4 yX4_put cX4_put 4 (some .int) 2 := ⟨⟨(m_r11 _ (List.mem_of_getElem? (i := 0) rfl)), (m_r11 _ (List.mem_of_getElem? (i := 1) rfl)), (m_r11 _ (List.mem_of_getElem? (i := 2) rfl)), (m_r1 _ (List.mem_of_getElem? (i := 2) rfl)), (m_r11 _ (List.mem_of_getElem? (i := 3) rfl))⟩, ky_X4_put⟩
theorem lkL_81 : KSW RL 81 yL_lend cL_lend 4 (some .int) [(0, 6, 7, 15)] 3 := ⟨⟨(m_r11 _ (List.mem_of_getElem? (i := 4) rfl)), (m_r11 _ (List.mem_of_getElem? (i := 5) rfl)), (m_r5 _ (List.mem_of_getElem? (i := 21) rfl)), (m_r11 _ (List.mem_of_getElem? (i := 6) rfl))⟩, ky_L_lend⟩
theorem lkL_25 : KV RL 25 RX4 yX4_lend cX4_lend 3 (some .int) 2 := ⟨⟨(m_r11 _ (List.mem_of_getElem? (i := 7) rfl)), (m_r11 _ (List.mem_of_getElem? (i := 8) rfl)), (m_r11 _ (List.mem_of_getElem? (i := 9) rfl)), (m_r1 _ (List.mem_of_getElem? (i := 2) rfl)), (m_r11 _ (List.mem_of_getElem? (i := 10) rfl))⟩, ky_X4_lend⟩
theorem lkX4_86 : KV RX4 86 RX3 yX3_isReady cX3_isReady 2 (some .boolean) 1 := ⟨⟨(m_r11 _ (List.mem_of_getElem? (i := 11) rfl)), (m_r4 _ (List.mem_of_getElem? (i := 3) rfl)), (m_r4 _ (List.mem_of_getElem? (i := 4) rfl)), (m_r1 _ (List.mem_of_getElem? (i := 11) rfl)), (m_r4 _ (List.mem_of_getElem? (i := 5) rfl))⟩, ky_X3_isReady⟩
theorem lkX4_92 : KV RX4 92 RX3 yX3_lendOut cX3_lendOut 3 (some .int) 2 := ⟨⟨(m_r11 _ (List.mem_of_getElem? (i := 12) rfl)), (m_r11 _ (List.mem_of_getElem? (i := 13) rfl)), (m_r11 _ (List.mem_of_getElem? (i := 14) rfl)), (m_r1 _ (List.mem_of_getElem? (i := 11) rfl)), (m_r11 _ (List.mem_of_getElem? (i := 15) rfl))⟩, ky_X3_lendOut⟩
theorem lkL_83 : KSW RL 83 yL_test cL_test 4 (some .int) [(0, 6, 7, 15)] 3 := ⟨⟨(m_r11 _ (List.mem_of_getElem? (i := 16) rfl)), (m_r11 _ (List.mem_of_getElem? (i := 17) rfl)), (m_r5 _ (List.mem_of_getElem? (i := 21) rfl)), (m_r11 _ (List.mem_of_getElem? (i := 18) rfl))⟩, ky_L_test⟩
theorem lkL_28 : KV RL 28 RX4 yX4_test cX4_test 3 (some .int) 2 := ⟨⟨(m_r11 _ (List.mem_of_getElem? (i := 19) rfl)), (m_r11 _ (List.mem_of_getElem? (i := 20) rfl)), (m_r11 _ (List.mem_of_getElem? (i := 21) rfl)), (m_r1 _ (List.mem_of_getElem? (i := 2) rfl)), (m_r11 _ (List.mem_of_getElem? (i := 22) rfl))⟩, ky_X4_test⟩
theorem lkX4_99 : KV RX4 99 RX3 yX3_runTest cX3_runTest 5 (some .int) 2 := ⟨⟨(m_r11 _ (List.mem_of_getElem? (i := 23) rfl)), (m_r12 _ (List.mem_of_getElem? (i := 0) rfl)), (m_r12 _ (List.mem_of_getElem? (i := 1) rfl)), (m_r1 _ (List.mem_of_getElem? (i := 11) rfl)), (m_r12 _ (List.mem_of_getElem? (i := 2) rfl))⟩, ky_X3_runTest⟩
theorem lkX3_123 : KV RX3 123 RX3 yX3_outcomeOf cX3_outcomeOf 4 (some .int) 2 := ⟨⟨(m_r12 _ (List.mem_of_getElem? (i := 3) rfl)), (m_r6 _ (List.mem_of_getElem? (i := 19) rfl)), (m_r6 _ (List.mem_of_getElem? (i := 20) rfl)), (m_r1 _ (List.mem_of_getElem? (i := 11) rfl)), (m_r6 _ (List.mem_of_getElem? (i := 21) rfl))⟩, ky_X3_outcomeOf⟩
theorem lkX3_126 : KS RX3 126 yX1_daysInForce cX1_daysInForce 1 (some .int) 1 := ⟨⟨(m_r12 _ (List.mem_of_getElem? (i := 4) rfl)), (m_r12 _ (List.mem_of_getElem? (i := 5) rfl)), (m_r4 _ (List.mem_of_getElem? (i := 20) rfl)), (m_r12 _ (List.mem_of_getElem? (i := 6) rfl))⟩, ky_X1_daysInForce⟩
theorem lkL_85 : KV RL 85 RX4 yX4_want cX4_want 4 (some .int) 2 := ⟨⟨(m_r12 _ (List.mem_of_getElem? (i := 7) rfl)), (m_r12 _ (List.mem_of_getElem? (i := 8) rfl)), (m_r12 _ (List.mem_of_getElem? (i := 9) rfl)), (m_r1 _ (List.mem_of_getElem? (i := 2) rfl)), (m_r12 _ (List.mem_of_getElem? (i := 10) rfl))⟩, ky_X4_want⟩
theorem lkX4_102 : KS RX4 102 yX4_requireTruck cX4_requireTruck 1 none 1 := ⟨⟨(m_r12 _ (List.mem_of_getElem? (i := 12) rfl)), (m_r12 _ (List.mem_of_getElem? (i := 13) rfl)), (m_r1 _ (List.mem_of_getElem? (i := 2) rfl)), (m_r12 _ (List.mem_of_getElem? (i := 14) rfl))⟩, ky_X4_requireTruck⟩
theorem lkL_88 : KV RL 88 RX4 yX4_set cX4_set 4 (some .int) 2 := ⟨⟨(m_r12 _ (List.mem_of_getElem? (i := 15) rfl)), (m_r12 _ (List.mem_of_getElem? (i := 16) rfl)), (m_r12 _ (List.mem_of_getElem? (i := 17) rfl)), (m_r1 _ (List.mem_of_getElem? (i := 2) rfl)), (m_r12 _ (List.mem_of_getElem? (i := 18) rfl))⟩, ky_X4_set⟩
theorem lkX4_110 : KS RX4 110 yX4_requireSetting cX4_requireSetting 1 none 1 := ⟨⟨(m_r12 _ (List.mem_of_getElem? (i := 20) rfl)), (m_r12 _ (List.mem_of_getElem? (i := 21) rfl)), (m_r1 _ (List.mem_of_getElem? (i := 2) rfl)), (m_r12 _ (List.mem_of_getElem? (i := 22) rfl))⟩, ky_X4_requireSetting⟩
theorem lkX4_113 : KS RX4 113 yX4_leastOfSetting cX4_leastOfSetting 1 (some .int) 1 := ⟨⟨(m_r12 _ (List.mem_of_getElem? (i := 23) rfl)), (m_r13 _ (List.mem_of_getElem? (i := 0) rfl)), (m_r1 _ (List.mem_of_getElem? (i := 2) rfl)), (m_r13 _ (List.mem_of_getElem? (i := 1) rfl))⟩, ky_X4_leastOfSetting⟩
theorem lkX4_116 : KS RX4 116 yX4_greatestOfSetting cX4_greatestOfSetting 1 (some .int) 1 := ⟨⟨(m_r13 _ (List.mem_of_getElem? (i := 2) rfl)), (m_r13 _ (List.mem_of_getElem? (i := 3) rfl)), (m_r1 _ (List.mem_of_getElem? (i := 2) rfl)), (m_r13 _ (List.mem_of_getElem? (i := 4) rfl))⟩, ky_X4_greatestOfSetting⟩
theorem lkL_91 : KV RL 91 RX4 yX4_pass cX4_pass 3 (some .int) 1 := ⟨⟨(m_r13 _ (List.mem_of_getElem? (i := 5) rfl)), (m_r13 _ (List.mem_of_getElem? (i := 6) rfl)), (m_r13 _ (List.mem_of_getElem? (i := 7) rfl)), (m_r1 _ (List.mem_of_getElem? (i := 2) rfl)), (m_r13 _ (List.mem_of_getElem? (i := 8) rfl))⟩, ky_X4_pass⟩
theorem lkX4_124 : KV RX4 124 RX3 yX3_passDay cX3_passDay 1 none 0 := ⟨⟨(m_r13 _ (List.mem_of_getElem? (i := 9) rfl)), (m_r13 _ (List.mem_of_getElem? (i := 10) rfl)), (m_r13 _ (List.mem_of_getElem? (i := 11) rfl)), (m_r1 _ (List.mem_of_getElem? (i := 11) rfl)), (m_r13 _ (List.mem_of_getElem? (i := 12) rfl))⟩, ky_X3_passDay⟩
theorem lkX3_129 : KV RX3 129 RX3 yX3_takeBackLent cX3_takeBackLent 2 none 0 := ⟨⟨(m_r13 _ (List.mem_of_getElem? (i := 13) rfl)), (m_r13 _ (List.mem_of_getElem? (i := 14) rfl)), (m_r13 _ (List.mem_of_getElem? (i := 15) rfl)), (m_r1 _ (List.mem_of_getElem? (i := 11) rfl)), (m_r13 _ (List.mem_of_getElem? (i := 16) rfl))⟩, ky_X3_takeBackLent⟩
theorem lkX3_132 : KV RX3 132 RX3 yX3_wearOnTrucks cX3_wearOnTrucks 2 none 0 := ⟨⟨(m_r13 _ (List.mem_of_getElem? (i := 17) rfl)), (m_r13 _ (List.mem_of_getElem? (i := 18) rfl)), (m_r13 _ (List.mem_of_getElem? (i := 19) rfl)), (m_r1 _ (List.mem_of_getElem? (i := 11) rfl)), (m_r13 _ (List.mem_of_getElem? (i := 20) rfl))⟩, ky_X3_wearOnTrucks⟩
theorem lkX3_135 : KV RX3 135 RX3 yX3_isOnTruck cX3_isOnTruck 2 (some .boolean) 1 := ⟨⟨(m_r13 _ (List.mem_of_getElem? (i := 21) rfl)), (m_r13 _ (List.mem_of_getElem? (i := 22) rfl)), (m_r13 _ (List.mem_of_getElem? (i := 23) rfl)), (m_r1 _ (List.mem_of_getElem? (i := 11) rfl)), (m_r14 _ (List.mem_of_getElem? (i := 0) rfl))⟩, ky_X3_isOnTruck⟩
theorem lkL_94 : KSW RL 94 yL_undo cL_undo 2 (some .int) [(0, 4, 5, 15)] 1 := ⟨⟨(m_r14 _ (List.mem_of_getElem? (i := 1) rfl)), (m_r14 _ (List.mem_of_getElem? (i := 2) rfl)), (m_r5 _ (List.mem_of_getElem? (i := 21) rfl)), (m_r14 _ (List.mem_of_getElem? (i := 3) rfl))⟩, ky_L_undo⟩
theorem lkL_31 : KV RL 31 RX4 yX4_undo cX4_undo 2 (some .int) 0 := ⟨⟨(m_r14 _ (List.mem_of_getElem? (i := 4) rfl)), (m_r14 _ (List.mem_of_getElem? (i := 5) rfl)), (m_r14 _ (List.mem_of_getElem? (i := 6) rfl)), (m_r1 _ (List.mem_of_getElem? (i := 2) rfl)), (m_r14 _ (List.mem_of_getElem? (i := 7) rfl))⟩, ky_X4_undo⟩
theorem lkL_53 : KV RL 53 RX4 yX4_setting cX4_setting 2 (some .int) 1 := ⟨⟨(m_r14 _ (List.mem_of_getElem? (i := 8) rfl)), (m_r14 _ (List.mem_of_getElem? (i := 9) rfl)), (m_r14 _ (List.mem_of_getElem? (i := 10) rfl)), (m_r1 _ (List.mem_of_getElem? (i := 2) rfl)), (m_r14 _ (List.mem_of_getElem? (i := 11) rfl))⟩, ky_X4_setting⟩
theorem lkL_102 : KS RL 102 yL_station cL_station 13 (some .boolean) 1 := ⟨⟨(m_r14 _ (List.mem_of_getElem? (i := 12) rfl)), (m_r14 _ (List.mem_of_getElem? (i := 13) rfl)), (m_r5 _ (List.mem_of_getElem? (i := 21) rfl)), (m_r14 _ (List.mem_of_getElem? (i := 14) rfl))⟩, ky_L_station⟩
theorem lkL_41 : KV RL 41 RX4 yX4_safe cX4_safe 2 (some .int) 1 := ⟨⟨(m_r14 _ (List.mem_of_getElem? (i := 15) rfl)), (m_r14 _ (List.mem_of_getElem? (i := 16) rfl)), (m_r14 _ (List.mem_of_getElem? (i := 17) rfl)), (m_r1 _ (List.mem_of_getElem? (i := 2) rfl)), (m_r14 _ (List.mem_of_getElem? (i := 18) rfl))⟩, ky_X4_safe⟩
theorem lkX4_240 : KV RX4 240 RX3 yX3_greatestSafePressure cX3_greatestSafePressure 3 (some .int) 1 := ⟨⟨(m_r14 _ (List.mem_of_getElem? (i := 19) rfl)), (m_r14 _ (List.mem_of_getElem? (i := 20) rfl)), (m_r14 _ (List.mem_of_getElem? (i := 21) rfl)), (m_r1 _ (List.mem_of_getElem? (i := 11) rfl)), (m_r14 _ (List.mem_of_getElem? (i := 22) rfl))⟩, ky_X3_greatestSafePressure⟩
theorem lkL_47 : KV RL 47 RX4 yX4_truck cX4_truck 4 (some .int) 2 := ⟨⟨(m_r14 _ (List.mem_of_getElem? (i := 23) rfl)), (m_r15 _ (List.mem_of_getElem? (i := 0) rfl)), (m_r15 _ (List.mem_of_getElem? (i := 1) rfl)), (m_r1 _ (List.mem_of_getElem? (i := 2) rfl)), (m_r15 _ (List.mem_of_getElem? (i := 2) rfl))⟩, ky_X4_truck⟩
theorem lkX4_187 : KV RX4 187 RX3 yX3_layLine cX3_layLine 4 (some .boolean) 2 := ⟨⟨(m_r15 _ (List.mem_of_getElem? (i := 7) rfl)), (m_r5 _ (List.mem_of_getElem? (i := 3) rfl)), (m_r5 _ (List.mem_of_getElem? (i := 4) rfl)), (m_r1 _ (List.mem_of_getElem? (i := 11) rfl)), (m_r5 _ (List.mem_of_getElem? (i := 5) rfl))⟩, ky_X3_layLine⟩
theorem lkX4_202 : KV RX4 202 RX3 yX3_readyHosesAt cX3_readyHosesAt 4 (some .int) 1 := ⟨⟨(m_r15 _ (List.mem_of_getElem? (i := 8) rfl)), (m_r15 _ (List.mem_of_getElem? (i := 9) rfl)), (m_r15 _ (List.mem_of_getElem? (i := 10) rfl)), (m_r1 _ (List.mem_of_getElem? (i := 11) rfl)), (m_r15 _ (List.mem_of_getElem? (i := 11) rfl))⟩, ky_X3_readyHosesAt⟩
theorem lkL_50 : KV RL 50 RX4 yX4_helps cX4_helps 2 (some .int) 1 := ⟨⟨(m_r15 _ (List.mem_of_getElem? (i := 12) rfl)), (m_r15 _ (List.mem_of_getElem? (i := 13) rfl)), (m_r15 _ (List.mem_of_getElem? (i := 14) rfl)), (m_r1 _ (List.mem_of_getElem? (i := 2) rfl)), (m_r15 _ (List.mem_of_getElem? (i := 15) rfl))⟩, ky_X4_helps⟩
theorem lkX4_246 : KV RX4 246 RX3 yX3_cheapestHelp cX3_cheapestHelp 6 (some .int) 1 := ⟨⟨(m_r15 _ (List.mem_of_getElem? (i := 16) rfl)), (m_r15 _ (List.mem_of_getElem? (i := 17) rfl)), (m_r15 _ (List.mem_of_getElem? (i := 18) rfl)), (m_r1 _ (List.mem_of_getElem? (i := 11) rfl)), (m_r15 _ (List.mem_of_getElem? (i := 19) rfl))⟩, ky_X3_cheapestHelp⟩
theorem lkL_56 : KV RL 56 RX4 yX4_nextLapse cX4_nextLapse 1 (some .int) 0 := ⟨⟨(m_r15 _ (List.mem_of_getElem? (i := 20) rfl)), (m_r15 _ (List.mem_of_getElem? (i := 21) rfl)), (m_r15 _ (List.mem_of_getElem? (i := 22) rfl)), (m_r1 _ (List.mem_of_getElem? (i := 2) rfl)), (m_r15 _ (List.mem_of_getElem? (i := 23) rfl))⟩, ky_X4_nextLapse⟩
theorem lkX4_243 : KV RX4 243 RX3 yX3_daysToFirstLapse cX3_daysToFirstLapse 5 (some .int) 0 := ⟨⟨(m_r16 _ (List.mem_of_getElem? (i := 0) rfl)), (m_r16 _ (List.mem_of_getElem? (i := 1) rfl)), (m_r16 _ (List.mem_of_getElem? (i := 2) rfl)), (m_r1 _ (List.mem_of_getElem? (i := 11) rfl)), (m_r16 _ (List.mem_of_getElem? (i := 3) rfl))⟩, ky_X3_daysToFirstLapse⟩
theorem lkL_59 : KV RL 59 RX4 yX4_readyShare cX4_readyShare 2 (some .double) 0 := ⟨⟨(m_r16 _ (List.mem_of_getElem? (i := 4) rfl)), (m_r16 _ (List.mem_of_getElem? (i := 5) rfl)), (m_r16 _ (List.mem_of_getElem? (i := 6) rfl)), (m_r1 _ (List.mem_of_getElem? (i := 2) rfl)), (m_r16 _ (List.mem_of_getElem? (i := 7) rfl))⟩, ky_X4_readyShare⟩
theorem wd_classLink_RL_10_RX4 : Cond.classLink RL 10 RX4 ∈ wsL_law := (m_r1 _ (List.mem_of_getElem? (i := 0) rfl))
theorem wd_instantiable_RX4_5 : Cond.instantiable RX4 5 ∈ wsL_law := (m_r1 _ (List.mem_of_getElem? (i := 1) rfl))
theorem wd_initialized_RX4 : Cond.initialized RX4 ∈ wsL_law := (m_r1 _ (List.mem_of_getElem? (i := 2) rfl))
theorem wd_methodLink_RX4_1_objectInit : Cond.methodLink RX4 1 objectInit ∈ wsL_law := (m_r1 _ (List.mem_of_getElem? (i := 6) rfl))
theorem wd_instanceMethod_objectInit : Cond.instanceMethod objectInit ∈ wsL_law := (m_r1 _ (List.mem_of_getElem? (i := 7) rfl))
theorem wd_code_objectInit_0xb1_1_none : Cond.code objectInit ⟨#[0xb1]⟩ 1 none ∈ wsL_law := (m_r1 _ (List.mem_of_getElem? (i := 8) rfl))
theorem wd_classLink_RX4_7_RX3 : Cond.classLink RX4 7 RX3 ∈ wsL_law := (m_r1 _ (List.mem_of_getElem? (i := 9) rfl))
theorem wd_instantiable_RX3_17 : Cond.instantiable RX3 17 ∈ wsL_law := (m_r1 _ (List.mem_of_getElem? (i := 10) rfl))
theorem wd_initialized_RX3 : Cond.initialized RX3 ∈ wsL_law := (m_r1 _ (List.mem_of_getElem? (i := 11) rfl))
theorem wd_classLink_RX4_27_RX0 : Cond.classLink RX4 27 RX0 ∈ wsL_law := (m_r1 _ (List.mem_of_getElem? (i := 16) rfl))
theorem wd_instantiable_RX0_2 : Cond.instantiable RX0 2 ∈ wsL_law := (m_r1 _ (List.mem_of_getElem? (i := 17) rfl))
theorem wd_initialized_RX0 : Cond.initialized RX0 ∈ wsL_law := (m_r1 _ (List.mem_of_getElem? (i := 18) rfl))
theorem wd_methodLink_RX3_3_objectInit : Cond.methodLink RX3 3 objectInit ∈ wsL_law := (m_r1 _ (List.mem_of_getElem? (i := 23) rfl))
theorem wd_arrayClass_int : Cond.arrayClass .int ∈ wsL_law := (m_r2 _ (List.mem_of_getElem? (i := 2) rfl))
theorem wd_classLink_RX3_49_RX2 : Cond.classLink RX3 49 RX2 ∈ wsL_law := (m_r2 _ (List.mem_of_getElem? (i := 13) rfl))
theorem wd_instantiable_RX2_4 : Cond.instantiable RX2 4 ∈ wsL_law := (m_r2 _ (List.mem_of_getElem? (i := 14) rfl))
theorem wd_initialized_RX2 : Cond.initialized RX2 ∈ wsL_law := (m_r2 _ (List.mem_of_getElem? (i := 15) rfl))
theorem wd_methodLink_RX2_3_objectInit : Cond.methodLink RX2 3 objectInit ∈ wsL_law := (m_r2 _ (List.mem_of_getElem? (i := 19) rfl))
theorem wd_methodLink_RX0_3_objectInit : Cond.methodLink RX0 3 objectInit ∈ wsL_law := (m_r2 _ (List.mem_of_getElem? (i := 23) rfl))
theorem wd_classLink_RX4_38_java_lang_IllegalArgumentException : Cond.classLink RX4 38 "java/lang/IllegalArgumentException" ∈ wsL_law := (m_r3 _ (List.mem_of_getElem? (i := 6) rfl))
theorem wd_initialized_java_lang_IllegalArgumentException : Cond.initialized "java/lang/IllegalArgumentException" ∈ wsL_law := (m_r3 _ (List.mem_of_getElem? (i := 7) rfl))
theorem wd_initialized_RX1 : Cond.initialized RX1 ∈ wsL_law := (m_r4 _ (List.mem_of_getElem? (i := 20) rfl))
theorem wd_initialized_RL : Cond.initialized RL ∈ wsL_law := (m_r5 _ (List.mem_of_getElem? (i := 21) rfl))
theorem wd_constant_RL_8_40503 : Cond.constant RL 8 (40503) ∈ wsL_law := (m_r5 _ (List.mem_of_getElem? (i := 23) rfl))
theorem wd_constant_RL_7_2147483647 : Cond.constant RL 7 (2147483647) ∈ wsL_law := (m_r6 _ (List.mem_of_getElem? (i := 3) rfl))
theorem wd_classLink_RX4_287_java_lang_IndexOutOfBoundsException : Cond.classLink RX4 287 "java/lang/IndexOutOfBoundsException" ∈ wsL_law := (m_r6 _ (List.mem_of_getElem? (i := 12) rfl))
theorem wd_initialized_java_lang_IndexOutOfBoundsException : Cond.initialized "java/lang/IndexOutOfBoundsException" ∈ wsL_law := (m_r6 _ (List.mem_of_getElem? (i := 13) rfl))
theorem wd_methodLink_RX3_112_Lib_Math_min_name : Cond.methodLink RX3 112 Lib.Math.min.name ∈ wsL_law := (m_r7 _ (List.mem_of_getElem? (i := 2) rfl))
theorem wd_static_Lib_Math_min_name : Cond.static Lib.Math.min.name ∈ wsL_law := (m_r7 _ (List.mem_of_getElem? (i := 3) rfl))
theorem wd_initialized_java_lang_Math : Cond.initialized "java/lang/Math" ∈ wsL_law := (m_r7 _ (List.mem_of_getElem? (i := 4) rfl))
theorem wd_code_Lib_Math_min_name_Lib_Math_min_code_2_some_int : Cond.code Lib.Math.min.name Lib.Math.min.code 2 (some .int) ∈ wsL_law := (m_r7 _ (List.mem_of_getElem? (i := 5) rfl))
theorem wd_methodLink_RX1_9_Lib_Math_max_name : Cond.methodLink RX1 9 Lib.Math.max.name ∈ wsL_law := (m_r7 _ (List.mem_of_getElem? (i := 16) rfl))
theorem wd_static_Lib_Math_max_name : Cond.static Lib.Math.max.name ∈ wsL_law := (m_r7 _ (List.mem_of_getElem? (i := 17) rfl))
theorem wd_code_Lib_Math_max_name_Lib_Math_max_code_2_some_int : Cond.code Lib.Math.max.name Lib.Math.max.code 2 (some .int) ∈ wsL_law := (m_r7 _ (List.mem_of_getElem? (i := 18) rfl))
theorem wd_classLink_RL_15_java_lang_IllegalStateException : Cond.classLink RL 15 "java/lang/IllegalStateException" ∈ wsL_law := (m_r8 _ (List.mem_of_getElem? (i := 15) rfl))
theorem wd_classLink_RX4_49_java_lang_IllegalStateException : Cond.classLink RX4 49 "java/lang/IllegalStateException" ∈ wsL_law := (m_r8 _ (List.mem_of_getElem? (i := 20) rfl))
theorem wd_initialized_java_lang_IllegalStateException : Cond.initialized "java/lang/IllegalStateException" ∈ wsL_law := (m_r8 _ (List.mem_of_getElem? (i := 21) rfl))
theorem wd_methodLink_RX3_68_arraycopyName : Cond.methodLink RX3 68 arraycopyName ∈ wsL_law := (m_r9 _ (List.mem_of_getElem? (i := 16) rfl))
theorem wd_native_arraycopyName : Cond.native arraycopyName ∈ wsL_law := (m_r9 _ (List.mem_of_getElem? (i := 17) rfl))
theorem wd_static_arraycopyName : Cond.static arraycopyName ∈ wsL_law := (m_r9 _ (List.mem_of_getElem? (i := 18) rfl))
theorem wd_initialized_java_lang_System : Cond.initialized "java/lang/System" ∈ wsL_law := (m_r9 _ (List.mem_of_getElem? (i := 19) rfl))
end
section
/-! own rows: a contract's start, its ends, calls with the frame; one cell of a list of cells; two-row numbers -/
def us (v : Nat → Int32) (i : Nat) (x : Int32) : Nat → Int32 := fun q => cond (Nat.beq q i) x (v q)
def up2 (N : Nat → Nat → Int32) (i j : Nat) (x : Int32) : Nat → Nat → Int32 := fun q => cond (Nat.beq q i) (upd (N i) j x) (N q)
theorem us_self (v : Nat → Int32) (i : Nat) (x : Int32) : us v i x i = x := by simp [us]
theorem us_ne (v : Nat → Int32) {i j : Nat} (x : Int32) (h : j ≠ i) : us v i x j = v j := by
  have h1 : Nat.beq j i = false := by
    cases hb : Nat.beq j i with
    | true => exact absurd (Nat.eq_of_beq_eq_true hb) h
    | false => rfl
  simp [us, h1]
theorem up2_row (N : Nat → Nat → Int32) (i j : Nat) (x : Int32) : up2 N i j x i = upd (N i) j x := by simp [up2]
theorem up2_ne (N : Nat → Nat → Int32) {i q : Nat} (j : Nat) (x : Int32) (h : q ≠ i) : up2 N i j x q = N q := by
  have h1 : Nat.beq q i = false := by
    cases hb : Nat.beq q i with
    | true => exact absurd (Nat.eq_of_beq_eq_true hb) h
    | false => rfl
  simp [up2, h1]
def noF : Nat → Prop := fun _ => False
/-- what the tables say beside the words: the two links between nest mates, the texts of the exceptions -/
def kStrs : List (Nat × String) := [(40, "kind, length or coupling is out of range"), (51, "no room or not enough money for a new hose"), (79, "place is out of range"), (84, "days is out of range"), (90, "the hose is not ready"), (105, "length is out of range"), (119, "value is out of range"), (156, "no state is saved"), (162, "what is not 0 to 9"), (185, "what is not 0 to 6"), (211, "what is not 0 to 10"), (289, "there is no such hose"), (295, "the hose is gone or lent"), (297, "there is no such truck"), (299, "there is no such setting"), (301, "pressure is out of range")]
def kEn (U : State) : Prop := va_Nw (.methodLinkNest RX3 51 yX2_init RX4) U ∧ va_Nw (.methodLinkNest RX3 74 yX4_isWithin RX4) U ∧ ∀ q ∈ kStrs, ∃ sa, vk_R RX4 q.1 q.2 sa U
theorem kEn.warm {s U : State} (hW : s.WarmedH U.vm) (h : kEn s) : kEn U := ⟨va_Nw.warmM hW h.1, va_Nw.warmM hW h.2.1, fun q hq => by
  obtain ⟨sa, h1⟩ := h.2.2 q hq
  exact ⟨sa, vk_R.warm hW h1⟩⟩
theorem kEn.same {u U : State} (hv : U.vm = u.vm) (h : kEn u) : kEn U := ⟨va_Nw.same rfl hv.symm h.1, va_Nw.same rfl hv.symm h.2.1, fun q hq => by
  obtain ⟨sa, h1⟩ := h.2.2 q hq
  exact ⟨sa, vk_R.same hv h1⟩⟩
/-- a contract's start: the arguments, the size of the heap, the world, the tables -/
def kPc (D : va_G) (ty : List (ClassId × FieldType)) (wc : va_W) (sz : Nat) (av : List Value) : Array Value → State → Prop :=
  va_Pc av (fun U => U.heap.size = sz ∧ va_P D vwCl wc U.heap ∧ va_K D vwCl ty U ∧ va_D (fun _ => True) wc ∧ kEn U)
theorem kPc_blind {D : va_G} {ty : List (ClassId × FieldType)} {wc : va_W} {sz : Nat} {av : List Value} : FrameBlind (kPc D ty wc sz av) := fun a U g mk q => by
  obtain ⟨q0, q1, qP, qK, qD, qE⟩ := q
  exact ⟨q0, q1, qP, va_K.moved (u := U) (U := U.calling g mk a) (Vm.Alike.refl U.vm) qK, qD, kEn.same (u := U) (U := U.calling g mk a) rfl qE⟩
theorem kPc_at {D : va_G} {ty : List (ClassId × FieldType)} {wc : va_W} {av : List Value} {s : State} {H : Heap} (hK : va_K D vwCl ty s) (hE : kEn s) (hP : va_P D vwCl wc H) (hD : va_D (fun _ => True) wc) (U : State) (hU : U.heap = H) (hW : s.WarmedH U.vm) : kPc D ty wc H.size av av.toArray U :=
  ⟨rfl, by rw [hU], by rw [hU]; exact hP, va_K.moved hW.alike hK, hD, kEn.warm hW hE⟩
/-- ends that leave the heap as it was -/
abbrev kRi (r0 : Int32) : Array Value → State → Outcome → State → Prop := vp_Si (fun r => r = r0)
abbrev kRl (r0 : Int64) : Array Value → State → Outcome → State → Prop := vp_Sl (fun r => r = r0)
abbrev kRd (r0 : UInt64) : Array Value → State → Outcome → State → Prop := vp_Sd (fun r => r = r0)
/-- ends with a new world in the old one's place -/
abbrev kMi (D : va_G) (wc wc' : va_W) (sz : Nat) (r0 : Int32) : Array Value → State → Outcome → State → Prop := va_Qi (fun r (_ : Unit) => r = r0) (fun _ t => va_P D vwCl wc' t.heap) (va_A wc sz)
abbrev kMl (D : va_G) (wc wc' : va_W) (sz : Nat) (r0 : Int64) : Array Value → State → Outcome → State → Prop := va_Ql (fun r (_ : Unit) => r = r0) (fun _ t => va_P D vwCl wc' t.heap) (va_A wc sz)
abbrev kMv (D : va_G) (wc wc' : va_W) (sz : Nat) : Array Value → State → Outcome → State → Prop := va_Qv (fun (_ : Unit) => True) (fun _ t => va_P D vwCl wc' t.heap) (va_A wc sz)
/-- the same addresses -/
theorem va_D_same {A : Nat → Prop} {ws ws' : va_W} (h : ws'.map Prod.fst = ws.map Prod.fst) (hD : va_D A ws) : va_D A ws' := by
  have key : ∀ (k : Nat) (q : Nat × va_E), ws'[k]? = some q → ∃ q0, ws[k]? = some q0 ∧ q0.1 = q.1 := by
    intro k q hk
    have h1 : (ws'.map Prod.fst)[k]? = some q.1 := by rw [List.getElem?_map, hk]; rfl
    rw [h, List.getElem?_map] at h1
    cases hw : ws[k]? with
    | none => rw [hw] at h1; cases h1
    | some q0 => rw [hw] at h1; exact ⟨q0, rfl, Option.some.inj h1⟩
  refine ⟨fun i j x y hi hj hxy => ?_, fun k q hk => ?_⟩
  · obtain ⟨x0, h1, h2⟩ := key i x hi
    obtain ⟨y0, h3, h4⟩ := key j y hj
    exact hD.1 i j x0 y0 h1 h3 (h2.trans (hxy.trans h4.symm))
  · obtain ⟨q0, h1, h2⟩ := key k q hk
    rw [← h2]
    exact hD.2 k q0 h1
theorem va_P_of_mem {D : va_G} {cl : List vw_C} {ws : va_W} {H : Heap} (h : ∀ q ∈ ws, va_at D cl q H) : va_P D cl ws H := fun _ q hk => h q (List.mem_of_getElem? hk)
theorem va_P_mem {D : va_G} {cl : List vw_C} {ws : va_W} {H : Heap} (h : va_P D cl ws H) {q : Nat × va_E} (hq : q ∈ ws) : va_at D cl q H := by
  obtain ⟨k, hk⟩ := List.getElem?_of_mem hq
  exact h k q hk
theorem va_P_midL {D : va_G} {cl : List vw_C} {w1 wc w3 : va_W} {H : Heap} (h : va_P D cl (w1 ++ (wc ++ w3)) H) : va_P D cl wc H :=
  va_P_of_mem fun q hq => va_P_mem h (List.mem_append_right _ (List.mem_append_left _ hq))
theorem va_D_midL {A : Nat → Prop} {w1 wc w3 : va_W} (h : va_D A (w1 ++ (wc ++ w3))) : va_D A wc := by
  have e : ∀ (k : Nat) (q : Nat × va_E), wc[k]? = some q → (w1 ++ (wc ++ w3))[w1.length + k]? = some q := by
    intro k q hk
    rw [List.getElem?_append_right (by omega), Nat.add_sub_cancel_left, List.getElem?_append_left (List.getElem?_eq_some_iff.mp hk).1]
    exact hk
  refine h.by _ e (fun i j _ _ h => ?_)
  have h' : w1.length + i = w1.length + j := h
  omega
/-- the cells of a middle part: what a caller's cell is in it -/
theorem va_D_mid_ne {A : Nat → Prop} {w1 wc w3 : va_W} (h : va_D A (w1 ++ (wc ++ w3))) {q : Nat × va_E} (hq : q ∈ w1 ∨ q ∈ w3) {c : Nat × va_E} (hc : c ∈ wc) : c.1 ≠ q.1 := by
  intro he
  obtain ⟨k, hk⟩ := List.getElem?_of_mem hc
  have hkl := (List.getElem?_eq_some_iff.mp hk).1
  have e1 : (w1 ++ (wc ++ w3))[w1.length + k]? = some c := by
    rw [List.getElem?_append_right (by omega), Nat.add_sub_cancel_left, List.getElem?_append_left hkl]
    exact hk
  rcases hq with hq | hq
  · obtain ⟨i, hi⟩ := List.getElem?_of_mem hq
    have hil := (List.getElem?_eq_some_iff.mp hi).1
    have e2 : (w1 ++ (wc ++ w3))[i]? = some q := by rw [List.getElem?_append_left hil]; exact hi
    have := h.1 _ _ c q e1 e2 he
    omega
  · obtain ⟨i, hi⟩ := List.getElem?_of_mem hq
    have e2 : (w1 ++ (wc ++ w3))[w1.length + (wc.length + i)]? = some q := by
      rw [List.getElem?_append_right (by omega), Nat.add_sub_cancel_left, List.getElem?_append_right (by omega), Nat.add_sub_cancel_left]
      exact hi
    have := h.1 _ _ c q e1 e2 he
    omega
/-- behind a call: a new middle part, all else as it was -/
theorem k_join {A0 : Nat → Prop} {D : va_G} {cl : List vw_C} {w1 wc wc' w3 : va_W} {H H1 : Heap} (hP : va_P D cl (w1 ++ (wc ++ w3)) H) (hD : va_D A0 (w1 ++ (wc ++ w3))) (ha : wc'.map Prod.fst = wc.map Prod.fst)
    (hk : ∀ q : Nat, q < H.size → ¬ va_A wc H.size q → H1[q]? = H[q]?) (hP1 : va_P D cl wc' H1) : va_P D cl (w1 ++ (wc' ++ w3)) H1 ∧ va_D A0 (w1 ++ (wc' ++ w3)) := by
  have keep : ∀ q : Nat × va_E, q ∈ w1 ∨ q ∈ w3 → va_at D cl q H1 := by
    intro q hq
    have hm : q ∈ w1 ++ (wc ++ w3) := by
      rcases hq with h | h
      · exact List.mem_append_left _ h
      · exact List.mem_append_right _ (List.mem_append_right _ h)
    have hat := va_P_mem hP hm
    refine hat.kept (hk q.1 hat.lt fun hA => ?_)
    rcases hA with ⟨k, e, h⟩ | h
    · exact va_D_mid_ne hD hq (List.mem_of_getElem? h) rfl
    · have := hat.lt
      omega
  refine ⟨va_P_of_mem fun q hq => ?_, va_D_same (by simp [ha]) hD⟩
  rcases List.mem_append.mp hq with h | h
  · exact keep q (Or.inl h)
  · rcases List.mem_append.mp h with h | h
    · exact va_P_mem hP1 h
    · exact keep q (Or.inr h)
theorem k_free {A0 : Nat → Prop} {w1 wc w3 : va_W} {H0 H : Heap} {locs : List Loc} (hD : va_D A0 (w1 ++ (wc ++ w3))) (hS : va_S A0 H0 H locs) (hA : ∀ q, H0.size ≤ q → A0 q) : ∀ q, va_A wc H.size q → A0 q := by
  intro q h
  rcases h with ⟨k, e, h⟩ | h
  · exact (va_D_midL hD).2 k (q, e) h
  · exact hA q (Nat.le_trans hS.1 h)
section KROW
variable {p : Program} {l : Launch} {e : Env} {R : Room} {s : State} {m : MethodId} {args : Array Value} {below : List Frame} {meth : Method} {c : Code} {H : Heap} {locs : List Loc} {cells slots : Nat} {Q : State → Prop}
variable {cc bytes : ByteArray} {pc nL maxL n index mc ms : Nat} {ls : Array Slot} {rest st0 As : List Value} {D : va_G} {A0 : Nat → Prop} {a b : Nat} {ty : List (ClassId × FieldType)} {w1 wc wc' w3 ws : va_W} {H0 : Heap} {y : MethodName} {own C : String} {ret : Option FieldType} {rm : Room}
/-- a read of an int array at a known place -/
theorem k_ald (hexec : p.tables.exec = Jvm.exec) (hb : c.code = cc) (hK : va_K D vwCl ty s) (hP : va_P D vwCl ws H) (q0 t0 : Nat) {cA : ClassId} {N k : Nat} {f : Nat → Int32} {i : Int32} (ha : ws[q0]? = some (a, .inl (cA, N, .inl f))) (ht : ty[t0]? = some (cA, .int)) (hi : i = nI k) (hk : k < N) (hN : N < 2 ^ 31) (hdg : decode cc pc = .ok (.iaload, 1))
    (kk : W p l e R s m args below meth c H locs cells slots Q (F0 m (pc + 1) ls (.int (f k) :: rest))) : W p l e R s m args below meth c H locs cells slots Q (F0 m pc ls (.int i :: .ref a :: rest)) := by
  subst hi
  refine va_iald hexec hb hK hP q0 t0 ha ht (vp_in_nI hk hN) hdg ?_
  rw [nI_clamp (by omega)]
  exact kk
/-- a write to an int array at a known place -/
theorem k_ast (hexec : p.tables.exec = Jvm.exec) (hb : c.code = cc) (hK : va_K D vwCl ty s) (hP : va_P D vwCl ws H) (hD : va_D A0 ws) (hS : va_S A0 H0 H locs) (q0 t0 : Nat) {cA : ClassId} {N k : Nat} {f : Nat → Int32} {i x : Int32} (ha : ws[q0]? = some (a, .inl (cA, N, .inl f))) (ht : ty[t0]? = some (cA, .int)) (hi : i = nI k) (hk : k < N) (hN : N < 2 ^ 31) (hdg : decode cc pc = .ok (.iastore, 1))
    (kk : ∀ (H1 : Heap) (locs1 : List Loc), va_P D vwCl (ws.set q0 (a, .inl (cA, N, .inl (upd f k x)))) H1 → va_D A0 (ws.set q0 (a, .inl (cA, N, .inl (upd f k x)))) → va_S A0 H0 H1 locs1 → W p l e R s m args below meth c H1 locs1 cells slots Q (F0 m (pc + 1) ls rest)) : W p l e R s m args below meth c H locs cells slots Q (F0 m pc ls (.int x :: .int i :: .ref a :: rest)) := by
  subst hi
  have hc : (nI k).toNatClampNeg = k := nI_clamp (by omega)
  refine va_iast hexec hb hK hP hD hS q0 t0 ha ht (vp_in_nI hk hN) hdg fun H1 locs1 h1 h2 h3 => ?_
  rw [hc] at h1 h2
  exact kk H1 locs1 h1 h2 h3
/-- a call of a method that only reads and answers an int -/
theorem k_riV {r0 : Int32} (S : CallFix p m c cc nL s args wsL_law own) (hM : Met l y (wy_ y bytes maxL ret) rm (kPc D ty wc H.size (.ref b :: As)) (kRi r0) 0 0 noF) (hlk : KV own index C y bytes maxL ret n) (hrc : rm.cells = 0) (hrs : rm.slots = 0) (hR : rm.frames + 1 ≤ R.frames ∧ 8 + (maxL + 11) + rm.locals ≤ R.locals)
    (hrv : ∃ cell : Cell, H[b]? = some cell ∧ cell.vm.isStatics = false ∧ s.vm.findClass C = some cell.cls) (hK : va_K D vwCl ty s) (hE : kEn s) (hP : va_P D vwCl wc H) (hD : va_D A0 wc) (hn : As.length = n) (hsz : ls.size = nL) (hst : st0 = As.reverse ++ .ref b :: rest) (hrest : (rest.map fun v => v.category).sum ≤ 8)
    (hdg : decode cc pc = .ok (.invokevirtual index, 3)) (hf : cells ≤ R.cells ∧ slots ≤ R.slots)
    (kk : W p l e R s m args below meth c H locs cells slots Q (F0 m (pc + 3) ls (.int r0 :: rest))) : W p l e R s m args below meth c H locs cells slots Q (F0 m pc ls st0) :=
  vp_callSi (W.runV S hM (k_cV S.2.2.2.2 hlk hrc hrs hR) ⟨kPc_blind, hrv, kPc_at hK hE hP (hD.weaken fun _ _ _ _ => trivial)⟩ rfl hn hsz hst (lv_room hrest) hdg hf) (fun r hr => by subst hr; exact kk)
theorem k_riS {r0 : Int32} (S : CallFix p m c cc nL s args wsL_law own) (hM : Met l y (wy_ y bytes maxL ret) rm (kPc D ty wc H.size As) (kRi r0) 0 0 noF) (hlk : KS own index y bytes maxL ret n) (hrc : rm.cells = 0) (hrs : rm.slots = 0) (hR : rm.frames + 1 ≤ R.frames ∧ 8 + (maxL + 11) + rm.locals ≤ R.locals)
    (hK : va_K D vwCl ty s) (hE : kEn s) (hP : va_P D vwCl wc H) (hD : va_D A0 wc) (hn : As.length = n) (hsz : ls.size = nL) (hst : st0 = As.reverse ++ rest) (hrest : (rest.map fun v => v.category).sum ≤ 8)
    (hdg : decode cc pc = .ok (.invokestatic index, 3)) (hf : cells ≤ R.cells ∧ slots ≤ R.slots)
    (kk : W p l e R s m args below meth c H locs cells slots Q (F0 m (pc + 3) ls (.int r0 :: rest))) : W p l e R s m args below meth c H locs cells slots Q (F0 m pc ls st0) :=
  vp_callSi (W.runS S hM (k_cS S.2.2.2.2 hlk hrc hrs hR) ⟨kPc_blind, kPc_at hK hE hP (hD.weaken fun _ _ _ _ => trivial)⟩ rfl hn hsz hst (lv_room hrest) hdg hf) (fun r hr => by subst hr; exact kk)
/-- a call of a method that only reads and answers a long -/
theorem k_rlV {r0 : Int64} (S : CallFix p m c cc nL s args wsL_law own) (hM : Met l y (wy_ y bytes maxL ret) rm (kPc D ty wc H.size (.ref b :: As)) (kRl r0) 0 0 noF) (hlk : KV own index C y bytes maxL ret n) (hrc : rm.cells = 0) (hrs : rm.slots = 0) (hR : rm.frames + 1 ≤ R.frames ∧ 8 + (maxL + 11) + rm.locals ≤ R.locals)
    (hrv : ∃ cell : Cell, H[b]? = some cell ∧ cell.vm.isStatics = false ∧ s.vm.findClass C = some cell.cls) (hK : va_K D vwCl ty s) (hE : kEn s) (hP : va_P D vwCl wc H) (hD : va_D A0 wc) (hn : As.length = n) (hsz : ls.size = nL) (hst : st0 = As.reverse ++ .ref b :: rest) (hrest : (rest.map fun v => v.category).sum ≤ 8)
    (hdg : decode cc pc = .ok (.invokevirtual index, 3)) (hf : cells ≤ R.cells ∧ slots ≤ R.slots)
    (kk : W p l e R s m args below meth c H locs cells slots Q (F0 m (pc + 3) ls (.long r0 :: rest))) : W p l e R s m args below meth c H locs cells slots Q (F0 m pc ls st0) :=
  vp_callSl (W.runV S hM (k_cV S.2.2.2.2 hlk hrc hrs hR) ⟨kPc_blind, hrv, kPc_at hK hE hP (hD.weaken fun _ _ _ _ => trivial)⟩ rfl hn hsz hst (lv_room hrest) hdg hf) (fun r hr => by subst hr; exact kk)
theorem k_rlS {r0 : Int64} (S : CallFix p m c cc nL s args wsL_law own) (hM : Met l y (wy_ y bytes maxL ret) rm (kPc D ty wc H.size As) (kRl r0) 0 0 noF) (hlk : KS own index y bytes maxL ret n) (hrc : rm.cells = 0) (hrs : rm.slots = 0) (hR : rm.frames + 1 ≤ R.frames ∧ 8 + (maxL + 11) + rm.locals ≤ R.locals)
    (hK : va_K D vwCl ty s) (hE : kEn s) (hP : va_P D vwCl wc H) (hD : va_D A0 wc) (hn : As.length = n) (hsz : ls.size = nL) (hst : st0 = As.reverse ++ rest) (hrest : (rest.map fun v => v.category).sum ≤ 8)
    (hdg : decode cc pc = .ok (.invokestatic index, 3)) (hf : cells ≤ R.cells ∧ slots ≤ R.slots)
    (kk : W p l e R s m args below meth c H locs cells slots Q (F0 m (pc + 3) ls (.long r0 :: rest))) : W p l e R s m args below meth c H locs cells slots Q (F0 m pc ls st0) :=
  vp_callSl (W.runS S hM (k_cS S.2.2.2.2 hlk hrc hrs hR) ⟨kPc_blind, kPc_at hK hE hP (hD.weaken fun _ _ _ _ => trivial)⟩ rfl hn hsz hst (lv_room hrest) hdg hf) (fun r hr => by subst hr; exact kk)
/-- a call of a method that only reads and answers a double -/
theorem k_rdV {r0 : UInt64} (S : CallFix p m c cc nL s args wsL_law own) (hM : Met l y (wy_ y bytes maxL ret) rm (kPc D ty wc H.size (.ref b :: As)) (kRd r0) 0 0 noF) (hlk : KV own index C y bytes maxL ret n) (hrc : rm.cells = 0) (hrs : rm.slots = 0) (hR : rm.frames + 1 ≤ R.frames ∧ 8 + (maxL + 11) + rm.locals ≤ R.locals)
    (hrv : ∃ cell : Cell, H[b]? = some cell ∧ cell.vm.isStatics = false ∧ s.vm.findClass C = some cell.cls) (hK : va_K D vwCl ty s) (hE : kEn s) (hP : va_P D vwCl wc H) (hD : va_D A0 wc) (hn : As.length = n) (hsz : ls.size = nL) (hst : st0 = As.reverse ++ .ref b :: rest) (hrest : (rest.map fun v => v.category).sum ≤ 8)
    (hdg : decode cc pc = .ok (.invokevirtual index, 3)) (hf : cells ≤ R.cells ∧ slots ≤ R.slots)
    (kk : W p l e R s m args below meth c H locs cells slots Q (F0 m (pc + 3) ls (.double r0 :: rest))) : W p l e R s m args below meth c H locs cells slots Q (F0 m pc ls st0) :=
  vp_callSd (W.runV S hM (k_cV S.2.2.2.2 hlk hrc hrs hR) ⟨kPc_blind, hrv, kPc_at hK hE hP (hD.weaken fun _ _ _ _ => trivial)⟩ rfl hn hsz hst (lv_room hrest) hdg hf) (fun r hr => by subst hr; exact kk)
theorem k_rdS {r0 : UInt64} (S : CallFix p m c cc nL s args wsL_law own) (hM : Met l y (wy_ y bytes maxL ret) rm (kPc D ty wc H.size As) (kRd r0) 0 0 noF) (hlk : KS own index y bytes maxL ret n) (hrc : rm.cells = 0) (hrs : rm.slots = 0) (hR : rm.frames + 1 ≤ R.frames ∧ 8 + (maxL + 11) + rm.locals ≤ R.locals)
    (hK : va_K D vwCl ty s) (hE : kEn s) (hP : va_P D vwCl wc H) (hD : va_D A0 wc) (hn : As.length = n) (hsz : ls.size = nL) (hst : st0 = As.reverse ++ rest) (hrest : (rest.map fun v => v.category).sum ≤ 8)
    (hdg : decode cc pc = .ok (.invokestatic index, 3)) (hf : cells ≤ R.cells ∧ slots ≤ R.slots)
    (kk : W p l e R s m args below meth c H locs cells slots Q (F0 m (pc + 3) ls (.double r0 :: rest))) : W p l e R s m args below meth c H locs cells slots Q (F0 m pc ls st0) :=
  vp_callSd (W.runS S hM (k_cS S.2.2.2.2 hlk hrc hrs hR) ⟨kPc_blind, kPc_at hK hE hP (hD.weaken fun _ _ _ _ => trivial)⟩ rfl hn hsz hst (lv_room hrest) hdg hf) (fun r hr => by subst hr; exact kk)
/-- a static method of a nest mate that only reads -/
theorem va_toCR {mc ms : Nat} {g : JFrame} {Qa : State → Outcome → State → Prop} {free : Addr → Prop} (h : va_Run p l e R s m args below meth c H locs cells slots mc ms g rest Qa free) : CallRun p l e R s m args below meth c H locs cells slots mc ms g rest Qa free := fun T hT X => by
  obtain ⟨v, st₀, t, T', L, h0, X', hL, e1, e2, hq, st⟩ := h T hT X
  exact ⟨v, st₀, t, T', L, h0, X', hL, e1, hq, st⟩
theorem k_cN {own host : String} {index maxL n mc ms : Nat} {y : MethodName} {bytes : ByteArray} {ret : Option FieldType} {rm : Room} (hts : ∀ w ∈ wsL_law, w.before args s = true) (hl : va_Nw (.methodLinkNest own index y host) s) (h2 : Cond.initialized y.cls ∈ wsL_law) (h3 : Cond.code y bytes maxL ret ∈ wsL_law) (hy : KY y n) (hrc : rm.cells = mc) (hrs : rm.slots = ms) (hR : rm.frames + 1 ≤ R.frames ∧ 8 + (maxL + 11) + rm.locals ≤ R.locals) :
    va_CN R s args own index y host bytes maxL ret (wy_ y bytes maxL ret) rm mc ms n := by
  refine ⟨⟨hrc, hrs, hR.1, hR.2, fun w hw a' U hW => ?_, List.mem_cons_self⟩, hts _ h3, hts _ h2, ⟨hy.1, hy.2.1⟩, fun sig h => ?_, va_Nw.use rfl hl⟩
  · rcases List.mem_cons.mp hw with rfl | hw
    · exact wl_pay hts _ h3 a' U hW
    · exact wl_pay hts _ hw a' U hW
  · have h2 := hy.2.2
    rw [h] at h2
    exact (Option.some.inj h2).symm
theorem k_riN {host : String} {r0 : Int32} (S : CallFix p m c cc nL s args wsL_law own) (hM : Met l y (wy_ y bytes maxL ret) rm (kPc D ty wc H.size As) (kRi r0) 0 0 noF) (hl : va_Nw (.methodLinkNest own index y host) s) (h2 : Cond.initialized y.cls ∈ wsL_law) (h3 : Cond.code y bytes maxL ret ∈ wsL_law) (h4 : Cond.static y ∈ wsL_law) (hy : KY y n) (hrc : rm.cells = 0) (hrs : rm.slots = 0) (hR : rm.frames + 1 ≤ R.frames ∧ 8 + (maxL + 11) + rm.locals ≤ R.locals)
    (hK : va_K D vwCl ty s) (hE : kEn s) (hP : va_P D vwCl wc H) (hD : va_D A0 wc) (hn : As.length = n) (hsz : ls.size = nL) (hst : st0 = As.reverse ++ rest) (hrest : (rest.map fun v => v.category).sum ≤ 8)
    (hdg : decode cc pc = .ok (.invokestatic index, 3)) (hf : cells ≤ R.cells ∧ slots ≤ R.slots)
    (kk : W p l e R s m args below meth c H locs cells slots Q (F0 m (pc + 3) ls (.int r0 :: rest))) : W p l e R s m args below meth c H locs cells slots Q (F0 m pc ls st0) :=
  vp_callSi (va_toCR (va_runSN S hM ⟨k_cN S.2.2.2.2 hl h2 h3 hy hrc hrs hR, S.2.2.2.2 _ h4, trivial⟩ ⟨kPc_blind, kPc_at hK hE hP (hD.weaken fun _ _ _ _ => trivial)⟩ rfl hn hsz hst (lv_room hrest) hdg hf)) (fun r hr => by subst hr; exact kk)
/-- a call of a method that writes its world and answers an int -/
theorem k_miV {r0 : Int32} (S : CallFix p m c cc nL s args wsL_law own) (hM : Met l y (wy_ y bytes maxL ret) rm (kPc D ty wc H.size (.ref b :: As)) (kMi D wc wc' H.size r0) 0 0 (va_A wc H.size)) (hlk : KV own index C y bytes maxL ret n) (hrc : rm.cells = 0) (hrs : rm.slots = 0) (hR : rm.frames + 1 ≤ R.frames ∧ 8 + (maxL + 11) + rm.locals ≤ R.locals)
    (hrv : ∃ cell : Cell, H[b]? = some cell ∧ cell.vm.isStatics = false ∧ s.vm.findClass C = some cell.cls) (hK : va_K D vwCl ty s) (hE : kEn s) (hP : va_P D vwCl (w1 ++ (wc ++ w3)) H) (hD : va_D A0 (w1 ++ (wc ++ w3))) (hS : va_S A0 H0 H locs) (hA : ∀ q, H0.size ≤ q → A0 q) (ha : wc'.map Prod.fst = wc.map Prod.fst)
    (hn : As.length = n) (hsz : ls.size = nL) (hst : st0 = As.reverse ++ .ref b :: rest) (hrest : (rest.map fun v => v.category).sum ≤ 8)
    (hdg : decode cc pc = .ok (.invokevirtual index, 3)) (hf : cells ≤ R.cells ∧ slots ≤ R.slots)
    (kk : ∀ (H1 : Heap) (locs1 : List Loc), H.size ≤ H1.size → va_P D vwCl (w1 ++ (wc' ++ w3)) H1 → va_D A0 (w1 ++ (wc' ++ w3)) → va_S A0 H0 H1 locs1 → W p l e R s m args below meth c H1 locs1 cells slots Q (F0 m (pc + 3) ls (.int r0 :: rest))) : W p l e R s m args below meth c H locs cells slots Q (F0 m pc ls st0) := by
  have hF := k_free hD hS hA
  refine va_calli (va_runV S hM (k_cV S.2.2.2.2 hlk hrc hrs hR) ⟨kPc_blind, hrv, kPc_at hK hE (va_P_midL hP) ((va_D_midL hD).weaken fun _ _ _ _ => trivial)⟩ rfl hn hsz hst (lv_room hrest) hdg hf) hS (fun q _ h => hF q h) hF (fun r u t H1 locs1 ht _ hr hB hz hk hS1 => ?_)
  subst hr
  rw [ht] at hB
  obtain ⟨h1, h2⟩ := k_join hP hD ha hk hB
  exact kk H1 locs1 hz h1 h2 hS1
theorem k_mlV {r0 : Int64} (S : CallFix p m c cc nL s args wsL_law own) (hM : Met l y (wy_ y bytes maxL ret) rm (kPc D ty wc H.size (.ref b :: As)) (kMl D wc wc' H.size r0) 0 0 (va_A wc H.size)) (hlk : KV own index C y bytes maxL ret n) (hrc : rm.cells = 0) (hrs : rm.slots = 0) (hR : rm.frames + 1 ≤ R.frames ∧ 8 + (maxL + 11) + rm.locals ≤ R.locals)
    (hrv : ∃ cell : Cell, H[b]? = some cell ∧ cell.vm.isStatics = false ∧ s.vm.findClass C = some cell.cls) (hK : va_K D vwCl ty s) (hE : kEn s) (hP : va_P D vwCl (w1 ++ (wc ++ w3)) H) (hD : va_D A0 (w1 ++ (wc ++ w3))) (hS : va_S A0 H0 H locs) (hA : ∀ q, H0.size ≤ q → A0 q) (ha : wc'.map Prod.fst = wc.map Prod.fst)
    (hn : As.length = n) (hsz : ls.size = nL) (hst : st0 = As.reverse ++ .ref b :: rest) (hrest : (rest.map fun v => v.category).sum ≤ 8)
    (hdg : decode cc pc = .ok (.invokevirtual index, 3)) (hf : cells ≤ R.cells ∧ slots ≤ R.slots)
    (kk : ∀ (H1 : Heap) (locs1 : List Loc), H.size ≤ H1.size → va_P D vwCl (w1 ++ (wc' ++ w3)) H1 → va_D A0 (w1 ++ (wc' ++ w3)) → va_S A0 H0 H1 locs1 → W p l e R s m args below meth c H1 locs1 cells slots Q (F0 m (pc + 3) ls (.long r0 :: rest))) : W p l e R s m args below meth c H locs cells slots Q (F0 m pc ls st0) := by
  have hF := k_free hD hS hA
  refine va_calll (va_runV S hM (k_cV S.2.2.2.2 hlk hrc hrs hR) ⟨kPc_blind, hrv, kPc_at hK hE (va_P_midL hP) ((va_D_midL hD).weaken fun _ _ _ _ => trivial)⟩ rfl hn hsz hst (lv_room hrest) hdg hf) hS (fun q _ h => hF q h) hF (fun r u t H1 locs1 ht _ hr hB hz hk hS1 => ?_)
  subst hr
  rw [ht] at hB
  obtain ⟨h1, h2⟩ := k_join hP hD ha hk hB
  exact kk H1 locs1 hz h1 h2 hS1
theorem k_mvV (S : CallFix p m c cc nL s args wsL_law own) (hM : Met l y (wy_ y bytes maxL ret) rm (kPc D ty wc H.size (.ref b :: As)) (kMv D wc wc' H.size) 0 0 (va_A wc H.size)) (hlk : KV own index C y bytes maxL ret n) (hrc : rm.cells = 0) (hrs : rm.slots = 0) (hR : rm.frames + 1 ≤ R.frames ∧ 8 + (maxL + 11) + rm.locals ≤ R.locals)
    (hrv : ∃ cell : Cell, H[b]? = some cell ∧ cell.vm.isStatics = false ∧ s.vm.findClass C = some cell.cls) (hK : va_K D vwCl ty s) (hE : kEn s) (hP : va_P D vwCl (w1 ++ (wc ++ w3)) H) (hD : va_D A0 (w1 ++ (wc ++ w3))) (hS : va_S A0 H0 H locs) (hA : ∀ q, H0.size ≤ q → A0 q) (ha : wc'.map Prod.fst = wc.map Prod.fst)
    (hn : As.length = n) (hsz : ls.size = nL) (hst : st0 = As.reverse ++ .ref b :: rest) (hrest : (rest.map fun v => v.category).sum ≤ 8)
    (hdg : decode cc pc = .ok (.invokevirtual index, 3)) (hf : cells ≤ R.cells ∧ slots ≤ R.slots)
    (kk : ∀ (H1 : Heap) (locs1 : List Loc), H.size ≤ H1.size → va_P D vwCl (w1 ++ (wc' ++ w3)) H1 → va_D A0 (w1 ++ (wc' ++ w3)) → va_S A0 H0 H1 locs1 → W p l e R s m args below meth c H1 locs1 cells slots Q (F0 m (pc + 3) ls rest)) : W p l e R s m args below meth c H locs cells slots Q (F0 m pc ls st0) := by
  have hF := k_free hD hS hA
  refine va_callv (va_runV S hM (k_cV S.2.2.2.2 hlk hrc hrs hR) ⟨kPc_blind, hrv, kPc_at hK hE (va_P_midL hP) ((va_D_midL hD).weaken fun _ _ _ _ => trivial)⟩ rfl hn hsz hst (lv_room hrest) hdg hf) hS (fun q _ h => hF q h) hF (fun u t H1 locs1 ht _ hr hB hz hk hS1 => ?_)
  rw [ht] at hB
  obtain ⟨h1, h2⟩ := k_join hP hD ha hk hB
  exact kk H1 locs1 hz h1 h2 hS1
/-- ends -/
theorem k_eRi {r0 v : Int32} (hexec : p.tables.exec = Jvm.exec) (hb : c.code = cc) (hr : meth.sig.returnType = some .int) (hlocks : meth.locks = false) (hv : v = r0) (hdg : decode cc pc = .ok (.ireturn, 1)) :
    W p l e R s m args below meth c s.heap [] cells slots (MQ below (kRi r0) args s cells slots noF) (F0 m pc ls [.int v]) :=
  W.iret hexec hb hr (fun _ ht _ => ⟨v, rfl, hv, ht⟩) (fun _ h => absurd h List.not_mem_nil) hdg
theorem k_eRz {r0 v : Int32} {tz : FieldType} (hexec : p.tables.exec = Jvm.exec) (hb : c.code = cc) (hr : meth.sig.returnType = some tz) (hlocks : meth.locks = false) (hz : narrow tz (.int v) = .int v) (hv : v = r0) (hdg : decode cc pc = .ok (.ireturn, 1)) :
    W p l e R s m args below meth c s.heap [] cells slots (MQ below (kRi r0) args s cells slots noF) (F0 m pc ls [.int v]) :=
  W.zret hexec hb hr hz (fun _ ht _ => ⟨v, rfl, hv, ht⟩) (fun _ h => absurd h List.not_mem_nil) hdg
theorem k_eRl {r0 v : Int64} (hexec : p.tables.exec = Jvm.exec) (hb : c.code = cc) (hr : meth.sig.returnType = some .long) (hlocks : meth.locks = false) (hv : v = r0) (hdg : decode cc pc = .ok (.lreturn, 1)) :
    W p l e R s m args below meth c s.heap [] cells slots (MQ below (kRl r0) args s cells slots noF) (F0 m pc ls [.long v]) :=
  W.lret hexec hb hr (fun _ ht _ => ⟨v, rfl, hv, ht⟩) (fun _ h => absurd h List.not_mem_nil) hdg
theorem k_eRd {r0 v : UInt64} (hexec : p.tables.exec = Jvm.exec) (hb : c.code = cc) (hr : meth.sig.returnType = some .double) (hlocks : meth.locks = false) (hv : v = r0) (hdg : decode cc pc = .ok (.dreturn, 1)) :
    W p l e R s m args below meth c s.heap [] cells slots (MQ below (kRd r0) args s cells slots noF) (F0 m pc ls [.double v]) :=
  W.dret hexec hb hr (fun _ ht _ => ⟨v, rfl, hv, ht⟩) (fun _ h => absurd h List.not_mem_nil) hdg
theorem k_eMi {r0 v : Int32} (hexec : p.tables.exec = Jvm.exec) (hb : c.code = cc) (hr : meth.sig.returnType = some .int) (hlocks : meth.locks = false) (hP : va_P D vwCl wc' H) (hS : va_S (va_A wc s.heap.size) s.heap H locs) (hv : v = r0) (hdg : decode cc pc = .ok (.ireturn, 1)) :
    W p l e R s m args below meth c H locs cells slots (MQ below (kMi D wc wc' s.heap.size r0) args s cells slots (va_A wc s.heap.size)) (F0 m pc ls [.int v]) :=
  W.iret hexec hb hr (fun t ht _ => ⟨⟨v, (), rfl, hv, (show va_P D vwCl wc' t.heap by rw [ht]; exact hP)⟩, hS.F ht⟩) hS.2.2 hdg
theorem k_eMz {r0 v : Int32} {tz : FieldType} (hexec : p.tables.exec = Jvm.exec) (hb : c.code = cc) (hr : meth.sig.returnType = some tz) (hlocks : meth.locks = false) (hz : narrow tz (.int v) = .int v) (hP : va_P D vwCl wc' H) (hS : va_S (va_A wc s.heap.size) s.heap H locs) (hv : v = r0) (hdg : decode cc pc = .ok (.ireturn, 1)) :
    W p l e R s m args below meth c H locs cells slots (MQ below (kMi D wc wc' s.heap.size r0) args s cells slots (va_A wc s.heap.size)) (F0 m pc ls [.int v]) :=
  W.zret hexec hb hr hz (fun t ht _ => ⟨⟨v, (), rfl, hv, (show va_P D vwCl wc' t.heap by rw [ht]; exact hP)⟩, hS.F ht⟩) hS.2.2 hdg
theorem k_eMl {r0 v : Int64} (hexec : p.tables.exec = Jvm.exec) (hb : c.code = cc) (hr : meth.sig.returnType = some .long) (hlocks : meth.locks = false) (hP : va_P D vwCl wc' H) (hS : va_S (va_A wc s.heap.size) s.heap H locs) (hv : v = r0) (hdg : decode cc pc = .ok (.lreturn, 1)) :
    W p l e R s m args below meth c H locs cells slots (MQ below (kMl D wc wc' s.heap.size r0) args s cells slots (va_A wc s.heap.size)) (F0 m pc ls [.long v]) :=
  W.lret hexec hb hr (fun t ht _ => ⟨⟨v, (), rfl, hv, (show va_P D vwCl wc' t.heap by rw [ht]; exact hP)⟩, hS.F ht⟩) hS.2.2 hdg
theorem k_eMv (hexec : p.tables.exec = Jvm.exec) (hb : c.code = cc) (hr : meth.sig.returnType = none) (hlocks : meth.locks = false) (hP : va_P D vwCl wc' H) (hS : va_S (va_A wc s.heap.size) s.heap H locs) (hdg : decode cc pc = .ok (.return_, 1)) :
    W p l e R s m args below meth c H locs cells slots (MQ below (kMv D wc wc' s.heap.size) args s cells slots (va_A wc s.heap.size)) (F0 m pc ls []) :=
  W.vret hexec hb hr (fun t ht _ => ⟨⟨(), rfl, trivial, (show va_P D vwCl wc' t.heap by rw [ht]; exact hP)⟩, hS.F ht⟩) hS.2.2 hdg
end KROW
theorem va_S_self {A : Nat → Prop} {H : Heap} : va_S A H H [] := va_S.rf
/-- a contract out of a walk from its entry -/
theorem k_ofW {l : Launch} {y : MethodName} {rm : Room} {D : va_G} {ty : List (ClassId × FieldType)} {wc : va_W} {sz : Nat} {av : List Value} {Qc : Array Value → State → Outcome → State → Prop} {mc ms : Nat} {free : Addr → Prop} {cc : ByteArray} {maxL : Nat} {ret : Option FieldType}
    (hy : plainName y.cls = true) (hlen : (lg_sl av).length ≤ maxL)
    (body : ∀ (p : Program) (e : Env) (s : State) (m : MethodId) (args : Array Value) (below : List Frame) (meth : Method) (c : Code), p.tables.exec = Jvm.exec → c.code = cc → meth.sig.returnType = ret → c.maxLocals = maxL → (∀ w ∈ wsL_law, w.before args s = true) → s.vm.findClass y.cls = some m.cls → meth.locks = false → meth.name = y.name →
      s.heap.size = sz → va_P D vwCl wc s.heap → va_K D vwCl ty s → va_D (va_A wc sz) wc → kEn s → ∀ ls : Array Slot, lv_has ls maxL (lv_args 0 av) → W p l e rm s m args below meth c s.heap [] 0 0 (MQ below Qc args s mc ms free) (F0 m 0 ls [])) : Met l y (wy_ y cc maxL ret) rm (kPc D ty wc sz av) Qc mc ms free := by
  refine Met.ofW (cc := cc) (maxL := maxL) (ret := ret) hy rfl ?_
  intro p e s m args below meth c s₁ B hml hv
  obtain ⟨rfl, hsz, hP, hK, hD, hE⟩ := hv
  rw [lg_entry_eq]
  exact body p e s m _ below meth c B.exec B.bytes B.returns hml (fun w hw => atoms_spec (ws := wy_ y cc maxL ret) B.pre w (List.mem_cons_of_mem _ hw)) (findClass_of_methodNamed B.named) B.notSynchronized (name_of_methodNamed B.named B.method).1 hsz hP hK hD.self hE _ (lv_entry av hlen)
end
section
/-! the mathematical value of a station, row by row (0 settings; 1 day, money, hoses, tests, bursts, paid; 2 wanted; 3 kind, 4 length, 5 coupling, 6 made, 7 wear, 8 last day of the test, 9 place, 10 day back), and what the methods answer of it -/
abbrev NN : Type := Nat → Nat → Int32
def bI (b : Bool) : Int32 := cond b 1 0
theorem bI_t {P : Prop} [Decidable P] (h : P) : bI (decide P) = 1 := by simp [bI, h]
theorem bI_f {P : Prop} [Decidable P] (h : ¬ P) : bI (decide P) = 0 := by simp [bI, h]
theorem bI_01 (b : Bool) : bI b = 0 ∨ bI b = 1 := by cases b <;> simp [bI]
def mx0 (x : Int32) : Int32 := if 0 < x then x else 0
def mn (x y : Int32) : Int32 := if y < x then y else x
def p_life (k : Int32) : Int32 := if k = 0 then 900 else if k = 1 then 1500 else 1200
def p_force (k : Int32) : Int32 := if k = 0 then 100 else if k = 1 then 150 else 200
def p_cost (k n : Int32) : Int32 := if k = 0 then 2 * n else if k = 1 then 3 * n else 4 * n + 10
def p_str (k w g : Int32) : Int32 := if k = 0 then mx0 (16 - w / 10 - g) else if k = 1 then mx0 (20 - w / 8 - g / 2) else mx0 (24 - w / 5)
def p_strAt (N : NN) (k : Nat) (w : Int32) : Int32 := p_str (N 3 k) w ((N 1 0 - N 6 k) / 100)
def p_reason (N : NN) (k : Nat) : Int32 := if N 9 k = -1 then 1 else if N 9 k = 4 then 2 else if p_life (N 3 k) < N 1 0 - N 6 k then 3 else if N 8 k = -1 ∨ N 8 k < N 1 0 then 4 else 0
def p_price (N : NN) (k : Nat) : Int32 := p_cost (N 3 k) (N 4 k)
def p_can (N : NN) (k n : Int32) : Bool := decide (N 1 2 < 14 ∧ p_cost k n ≤ N 1 1)
/-- the wear behind j steps that held -/
def p_worn (w : Int32) : Nat → Int32
  | 0 => w
  | j + 1 => mn 99 (p_worn w j + 1)
/-- the pressure of step j (from 0) of a test up to P, and how many steps it has -/
def p_sp (P j : Nat) : Nat := if P < 4 * (j + 1) then P else 4 * (j + 1)
def p_S (P : Nat) : Nat := (P + 3) / 4
/-- from step j on, with r steps to go: the first one that does not hold -/
def p_go (N : NN) (k P : Nat) : Nat → Nat → Nat
  | 0, j => j
  | r + 1, j => if p_strAt N k (p_worn (N 7 k) j) < nI (p_sp P j) then j else p_go N k P r (j + 1)
def p_held (N : NN) (k P : Nat) : Nat := p_go N k P (p_S P) 0
def p_out (N : NN) (k P : Nat) : Int32 := if p_held N k P < p_S P then nI (p_held N k P + 100) else nI (p_held N k P)
def p_test (N : NN) (k P : Nat) : NN :=
  let M := up2 (up2 N 7 k (p_worn (N 7 k) (p_held N k P))) 1 3 (N 1 3 + 1)
  if p_held N k P < p_S P then up2 (up2 M 1 4 (M 1 4 + 1)) 9 k (-1) else if N 0 0 ≤ nI P then up2 M 8 k (N 1 0 + p_force (N 3 k)) else M
/-- the greatest pressure below q + 4 that does not burst it -/
def p_sf (N : NN) (k : Nat) : Nat → Int32
  | 0 => -1
  | q + 1 => if p_held N k (q + 4) = p_S (q + 4) then nI (q + 4) else p_sf N k q
def p_safe (N : NN) (k : Nat) : Int32 := p_sf N k 21
def p_tried (N : NN) (k P : Nat) : Int32 := if N 9 k = -1 then -1 else p_out N k P
def p_safeG (N : NN) (k : Nat) : Int32 := if N 9 k = -1 then -1 else p_safe N k
/-- a day passes: those that are lent come back, those on trucks wear, money comes -/
def p_tb (N : NN) : Nat → NN
  | 0 => N
  | k + 1 => if p_tb N k 9 k = 4 ∧ p_tb N k 10 k = p_tb N k 1 0 then up2 (up2 (p_tb N k) 9 k 3) 10 k (-1) else p_tb N k
def p_wt (N : NN) : Nat → NN
  | 0 => N
  | k + 1 => if (0 ≤ p_wt N k 9 k ∧ p_wt N k 9 k ≤ 2) ∧ p_reason (p_wt N k) k = 0 then up2 (p_wt N k) 7 k (mn 99 (p_wt N k 7 k + 1)) else p_wt N k
def p_rem (x m : Int32) : Int32 := x - x / m * m
def p_mon (N : NN) : NN := if p_rem (N 1 0) 30 = 0 then up2 N 1 1 (mn 9999 (N 1 1 + N 0 2)) else N
def p_wtd (N : NN) (n : Nat) : NN := if p_rem (N 1 0) 10 = 0 then p_wt N n else N
def p_day (N : NN) (n : Nat) : NN := p_mon (p_wtd (p_tb (up2 N 1 0 (N 1 0 + 1)) n) n)
def p_days (N : NN) (n : Nat) : Nat → NN
  | 0 => N
  | j + 1 => p_day (p_days N n j) n
/-- counts -/
def p_at (N : NN) (w : Int32) : Nat → Int32
  | 0 => 0
  | k + 1 => if N 9 k = w then p_at N w k + 1 else p_at N w k
def p_ra (N : NN) (w : Int32) : Nat → Int32
  | 0 => 0
  | k + 1 => if N 9 k = w ∧ p_reason N k = 0 then p_ra N w k + 1 else p_ra N w k
def p_rh (N : NN) : Nat → Int32
  | 0 => 0
  | k + 1 => if p_reason N k = 0 then p_rh N k + 1 else p_rh N k
/-- a line: metres, adapters, mask, the last coupling -/
def ln0 : Nat → Int32 := fun q => cond (Nat.beq q 3) (-1) 0
def p_msk (m h : Int32) : Int32 := m ||| (1 <<< (h &&& 31))
def p_join (v : Nat → Int32) (h len cp ad : Int32) : Nat → Int32 :=
  if v 3 = -1 ∨ v 3 = cp then us (us (us v 0 (v 0 + len)) 2 (p_msk (v 2) h)) 3 cp else if ad ≤ v 1 then v else us (us (us (us v 0 (v 0 + len)) 1 (v 1 + 1)) 2 (p_msk (v 2) h)) 3 cp
def p_lay (N : NN) (t mo : Int32) : Nat → Nat → Int32
  | 0 => ln0
  | k + 1 => if (N 9 k = t ∨ nI k = mo) ∧ p_reason N k = 0 then p_join (p_lay N t mo k) (nI k) (N 4 k) (N 5 k) (N 0 1) else p_lay N t mo k
def p_whole (N : NN) (t : Nat) (mo : Int32) (n : Nat) : Bool := decide (N 2 t ≤ p_lay N (nI t) mo n 0)
def p_wtr (N : NN) (n : Nat) : Nat → Int32
  | 0 => 0
  | t + 1 => if N 2 t ≤ p_lay N (nI t) (-1) n 0 then p_wtr N n t + 1 else p_wtr N n t
def p_wtv (N : NN) (n : Nat) (v : Nat → Int32) : Nat → Nat → Int32
  | 0 => v
  | t + 1 => p_lay N (nI t) (-1) n
/-- the cheapest one that helps -/
def p_ch (N : NN) (t n : Nat) : Nat → Int32
  | 0 => -1
  | k + 1 => if ((N 9 k = 3 ∧ p_reason N k = 0) ∧ N 2 t ≤ p_lay N (nI t) (nI k) n 0) ∧ (p_ch N t n k = -1 ∨ p_price N k < p_price N (p_ch N t n k).toNatClampNeg) then nI k else p_ch N t n k
def p_chv (N : NN) (t n : Nat) : Nat → Nat → Int32
  | 0 => p_lay N (nI t) (-1) n
  | k + 1 => if N 9 k = 3 ∧ p_reason N k = 0 then p_lay N (nI t) (nI k) n else p_chv N t n k
def p_help (N : NN) (t n : Nat) : Int32 := if N 2 t ≤ p_lay N (nI t) (-1) n 0 then -1 else p_ch N t n n
def p_helpv (N : NN) (t n : Nat) : Nat → Int32 := if N 2 t ≤ p_lay N (nI t) (-1) n 0 then p_lay N (nI t) (-1) n else p_chv N t n n
/-- the first lapse -/
def p_dl (N : NN) (k : Nat) : Int32 := mn (N 8 k) (N 6 k + p_life (N 3 k)) + 1 - N 1 0
def p_fl (N : NN) : Nat → Int32
  | 0 => -1
  | k + 1 => if p_reason N k = 0 then (if p_fl N k = -1 then p_dl N k else mn (p_fl N k) (p_dl N k)) else p_fl N k
/-- hoses come -/
def p_add (N : NN) (n : Nat) (k len cp pl : Int32) : NN :=
  up2 (up2 (up2 (up2 (up2 (up2 (up2 (up2 (up2 (up2 (up2 N 3 n k) 4 n len) 5 n cp) 6 n (N 1 0)) 7 n 0) 8 n (-1)) 9 n pl) 10 n (-1)) 1 2 (N 1 2 + 1)) 1 1 (N 1 1 - p_cost k len)) 1 5 (N 1 5 + p_cost k len)
def p_renew (N : NN) (n k : Nat) : NN := p_add (up2 N 9 k (-1)) n (N 3 k) (N 4 k) (N 5 k) (N 9 k)
def p_lend (N : NN) (k : Nat) (days : Int32) : NN := up2 (up2 N 9 k 4) 10 k (N 1 0 + days)
/-- the looks -/
def p_hose (N : NN) (k what : Nat) : Int32 := match what with
  | 0 => N 3 k
  | 1 => N 4 k
  | 2 => N 5 k
  | 3 => N 6 k
  | 4 => N 7 k
  | 5 => p_strAt N k (N 7 k)
  | 6 => N 8 k
  | 7 => N 9 k
  | 8 => N 10 k
  | _ => p_reason N k
def p_truck (N : NN) (n t what : Nat) : Int32 := match what with
  | 0 => N 2 t
  | 1 => p_lay N (nI t) (-1) n 0
  | 2 => p_at N (nI t) n
  | 3 => p_ra N (nI t) n
  | 4 => p_lay N (nI t) (-1) n 1
  | 5 => p_lay N (nI t) (-1) n 2
  | _ => bI (p_whole N t (-1) n)
def p_count (N : NN) (n : Nat) (kept : Int32) (what : Nat) : Int32 := match what with
  | 0 => N 1 0
  | 1 => N 1 1
  | 2 => N 1 2
  | 3 => p_at N (-1) n
  | 4 => p_rh N n
  | 5 => p_at N 4 n
  | 6 => p_wtr N n 3
  | 7 => N 1 3
  | 8 => N 1 4
  | 9 => N 1 5
  | _ => kept
end
section
/-! what the cells hold: a station, its line, the text, the head of the class, the reference; rows that read and write them -/
abbrev kTy (cI cS cL : ClassId) : List (ClassId × FieldType) := [(cI, .int), (cS, .object RX3)]
abbrev stA (cI : ClassId) (a : Nat → Nat) (N : NN) : va_W := [(a 0, .inr (2, [.int (N 1 0), .int (N 1 1), .int (N 1 2), .int (N 1 3), .int (N 1 4), .int (N 1 5), .ref (a 1), .ref (a 2), .ref (a 3), .ref (a 4), .ref (a 5), .ref (a 6), .ref (a 7), .ref (a 8), .ref (a 9), .ref (a 10), .ref (a 11)])), (a 1, .inl (cI, 3, .inl (N 2))), (a 2, .inl (cI, 3, .inl (N 0))), (a 3, .inl (cI, 14, .inl (N 3))), (a 4, .inl (cI, 14, .inl (N 4))), (a 5, .inl (cI, 14, .inl (N 5))), (a 6, .inl (cI, 14, .inl (N 6))), (a 7, .inl (cI, 14, .inl (N 7))), (a 8, .inl (cI, 14, .inl (N 8))), (a 9, .inl (cI, 14, .inl (N 9))), (a 10, .inl (cI, 14, .inl (N 10)))]
abbrev lnW (a : Nat → Nat) (v : Nat → Int32) : va_W := [(a 11, .inr (1, [.int (v 0), .int (v 1), .int (v 2), .int (v 3)]))]
abbrev stW (cI : ClassId) (a : Nat → Nat) (N : NN) (v : Nat → Int32) : va_W := stA cI a N ++ lnW a v
abbrev xH (cS : ClassId) (x n : Nat → Nat) (r : Nat → Nat → Nat) (lat cnt : Int32) : va_W := [(x 0, .inr (3, [.ref (n 0), .ref (x 1), .int lat, .int cnt, .ref (x 2)])), (x 1, .inl (cS, 6, .inr (.inr (.inr (.inr (fun i => some (r i 0)))))))]
abbrev txW (cI : ClassId) (x : Nat → Nat) (sz : Int32) (T : Nat → Int32) : va_W := [(x 2, .inr (0, [.ref (x 3), .int sz])), (x 3, .inl (cI, 60, .inl T))]
theorem up2_at (N : NN) (i j : Nat) (x : Int32) (q d : Nat) : up2 N i j x q d = if q = i ∧ d = j then x else N q d := by
  by_cases h : q = i
  · subst h
    rw [up2_row]
    by_cases hd : d = j
    · simp [upd, hd]
    · simp [upd, hd]
  · rw [up2_ne N j x h]
    simp [h]
theorem bI_eq0 {P : Prop} [Decidable P] (h : bI (decide P) = 0) : ¬ P := fun hp => by simp [bI, hp] at h
theorem bI_ne0 {P : Prop} [Decidable P] (h : ¬ bI (decide P) = 0) : P := by
  by_cases hp : P
  · exact hp
  · simp [bI, hp] at h
theorem bI_eqF {b : Bool} (h : bI b = 0) : b = false := by cases b <;> simp_all [bI]
theorem bI_neT {b : Bool} (h : ¬ bI b = 0) : b = true := by cases b <;> simp_all [bI]
theorem bI_nar (b : Bool) : narrow .boolean (.int (bI b)) = .int (bI b) := by cases b <;> rfl
theorem bI_one {b : Bool} (h : b = true) : (1 : Int32) = bI b := by rw [h]; rfl
theorem bI_zero {b : Bool} (h : b = false) : (0 : Int32) = bI b := by rw [h]; rfl
theorem i32_ne {x b : Int32} {z : Int} (hz : b.toInt = z) (h : ¬ x = b) : ¬ z = x.toInt := fun e => h (Int32.toInt_inj.mp (e.symm.trans hz.symm))
theorem k_nilP {D : va_G} {H : Heap} : va_P D vwCl [] H := fun _ _ h => by simp at h
theorem k_nilD {A : Nat → Prop} : va_D A [] := ⟨fun _ _ _ _ h => by simp at h, fun _ _ h => by simp at h⟩
section GF
variable {p : Program} {l : Launch} {e : Env} {R : Room} {s : State} {m : MethodId} {args : Array Value} {below : List Frame} {meth : Method} {c : Code} {H : Heap} {locs : List Loc} {cells slots : Nat} {Q : State → Prop}
variable {cc : ByteArray} {pc : Nat} {ls : Array Slot} {rest : List Value} {D : va_G} {A : Nat → Prop} {a index : Nat} {ty : List (ClassId × FieldType)} {ws : va_W} {H0 : Heap} {own ref : String}
theorem g0 (hx : p.tables.exec = Jvm.exec) (hb : c.code = cc) (hts : ∀ w ∈ wsL_law, w.before args s = true) (hown : s.vm.findClass own = some m.cls) (hK : va_K D vwCl ty s) (hP : va_P D vwCl ws H) (q0 : Nat) {fs : List Value} (he : ws[q0]? = some (a, .inr (0, fs))) (k : Nat) (hk : k < 2) (hlink : Cond.fieldLink own index ref (TX0 k).2.1 (TX0 k).2.2.1 ∈ wsL_law) (hsame : ∀ x, s.fieldFound? (TX0 k).1 (TX0 k).2.1 (TX0 k).2.2.1 = some x → s.fieldFound? ref (TX0 k).2.1 (TX0 k).2.2.1 = some x) {v : Value} (hv : fs[k]? = some v) (hdg : decode cc pc = .ok (.getfield index, 3))
    (kk : W p l e R s m args below meth c H locs cells slots Q (F0 m (pc + 3) ls (v :: rest))) : W p l e R s m args below meth c H locs cells slots Q (F0 m pc ls (.ref a :: rest)) :=
  va_get hx hb hts inlX0 hown hK hP q0 he rfl k hk (hts _ hlink) hsame hv hdg kk
theorem f0 (hx : p.tables.exec = Jvm.exec) (hb : c.code = cc) (hts : ∀ w ∈ wsL_law, w.before args s = true) (hown : s.vm.findClass own = some m.cls) (hK : va_K D vwCl ty s) (hP : va_P D vwCl ws H) (hD : va_D A ws) (hS : va_S A H0 H locs) (q0 : Nat) {fs : List Value} (he : ws[q0]? = some (a, .inr (0, fs))) (k : Nat) (hk : k < 2) (hlink : Cond.fieldLink own index ref (TX0 k).2.1 (TX0 k).2.2.1 ∈ wsL_law) (hsame : ∀ x, s.fieldFound? (TX0 k).1 (TX0 k).2.1 (TX0 k).2.2.1 = some x → s.fieldFound? ref (TX0 k).2.1 (TX0 k).2.2.1 = some x) {v : Value} (hfin : (TX0 k).2.2.2 = false) (hn : narrow (tyX0 k) v = v) (hfit : fits (tyX0 k) v = true) (hl : k < fs.length) (hdg : decode cc pc = .ok (.putfield index, 3))
    (kk : ∀ (H1 : Heap) (locs1 : List Loc), va_P D vwCl (ws.set q0 (a, .inr (0, fs.set k v))) H1 → va_D A (ws.set q0 (a, .inr (0, fs.set k v))) → va_S A H0 H1 locs1 → W p l e R s m args below meth c H1 locs1 cells slots Q (F0 m (pc + 3) ls rest)) : W p l e R s m args below meth c H locs cells slots Q (F0 m pc ls (v :: .ref a :: rest)) :=
  va_put hx hb hts inlX0 tyX0 tyX0_ok nmX0 hown hK hP hD hS q0 he rfl k hk (hts _ hlink) hsame hfin (tyX0_ok k hk) hn hfit hl hdg kk
theorem g2 (hx : p.tables.exec = Jvm.exec) (hb : c.code = cc) (hts : ∀ w ∈ wsL_law, w.before args s = true) (hown : s.vm.findClass own = some m.cls) (hK : va_K D vwCl ty s) (hP : va_P D vwCl ws H) (q0 : Nat) {fs : List Value} (he : ws[q0]? = some (a, .inr (1, fs))) (k : Nat) (hk : k < 4) (hlink : Cond.fieldLink own index ref (TX2 k).2.1 (TX2 k).2.2.1 ∈ wsL_law) (hsame : ∀ x, s.fieldFound? (TX2 k).1 (TX2 k).2.1 (TX2 k).2.2.1 = some x → s.fieldFound? ref (TX2 k).2.1 (TX2 k).2.2.1 = some x) {v : Value} (hv : fs[k]? = some v) (hdg : decode cc pc = .ok (.getfield index, 3))
    (kk : W p l e R s m args below meth c H locs cells slots Q (F0 m (pc + 3) ls (v :: rest))) : W p l e R s m args below meth c H locs cells slots Q (F0 m pc ls (.ref a :: rest)) :=
  va_get hx hb hts inlX2 hown hK hP q0 he rfl k hk (hts _ hlink) hsame hv hdg kk
theorem f2 (hx : p.tables.exec = Jvm.exec) (hb : c.code = cc) (hts : ∀ w ∈ wsL_law, w.before args s = true) (hown : s.vm.findClass own = some m.cls) (hK : va_K D vwCl ty s) (hP : va_P D vwCl ws H) (hD : va_D A ws) (hS : va_S A H0 H locs) (q0 : Nat) {fs : List Value} (he : ws[q0]? = some (a, .inr (1, fs))) (k : Nat) (hk : k < 4) (hlink : Cond.fieldLink own index ref (TX2 k).2.1 (TX2 k).2.2.1 ∈ wsL_law) (hsame : ∀ x, s.fieldFound? (TX2 k).1 (TX2 k).2.1 (TX2 k).2.2.1 = some x → s.fieldFound? ref (TX2 k).2.1 (TX2 k).2.2.1 = some x) {v : Value} (hfin : (TX2 k).2.2.2 = false) (hn : narrow (tyX2 k) v = v) (hfit : fits (tyX2 k) v = true) (hl : k < fs.length) (hdg : decode cc pc = .ok (.putfield index, 3))
    (kk : ∀ (H1 : Heap) (locs1 : List Loc), va_P D vwCl (ws.set q0 (a, .inr (1, fs.set k v))) H1 → va_D A (ws.set q0 (a, .inr (1, fs.set k v))) → va_S A H0 H1 locs1 → W p l e R s m args below meth c H1 locs1 cells slots Q (F0 m (pc + 3) ls rest)) : W p l e R s m args below meth c H locs cells slots Q (F0 m pc ls (v :: .ref a :: rest)) :=
  va_put hx hb hts inlX2 tyX2 tyX2_ok nmX2 hown hK hP hD hS q0 he rfl k hk (hts _ hlink) hsame hfin (tyX2_ok k hk) hn hfit hl hdg kk
theorem g3 (hx : p.tables.exec = Jvm.exec) (hb : c.code = cc) (hts : ∀ w ∈ wsL_law, w.before args s = true) (hown : s.vm.findClass own = some m.cls) (hK : va_K D vwCl ty s) (hP : va_P D vwCl ws H) (q0 : Nat) {fs : List Value} (he : ws[q0]? = some (a, .inr (2, fs))) (k : Nat) (hk : k < 17) (hlink : Cond.fieldLink own index ref (TX3 k).2.1 (TX3 k).2.2.1 ∈ wsL_law) (hsame : ∀ x, s.fieldFound? (TX3 k).1 (TX3 k).2.1 (TX3 k).2.2.1 = some x → s.fieldFound? ref (TX3 k).2.1 (TX3 k).2.2.1 = some x) {v : Value} (hv : fs[k]? = some v) (hdg : decode cc pc = .ok (.getfield index, 3))
    (kk : W p l e R s m args below meth c H locs cells slots Q (F0 m (pc + 3) ls (v :: rest))) : W p l e R s m args below meth c H locs cells slots Q (F0 m pc ls (.ref a :: rest)) :=
  va_get hx hb hts inlX3 hown hK hP q0 he rfl k hk (hts _ hlink) hsame hv hdg kk
theorem f3 (hx : p.tables.exec = Jvm.exec) (hb : c.code = cc) (hts : ∀ w ∈ wsL_law, w.before args s = true) (hown : s.vm.findClass own = some m.cls) (hK : va_K D vwCl ty s) (hP : va_P D vwCl ws H) (hD : va_D A ws) (hS : va_S A H0 H locs) (q0 : Nat) {fs : List Value} (he : ws[q0]? = some (a, .inr (2, fs))) (k : Nat) (hk : k < 17) (hlink : Cond.fieldLink own index ref (TX3 k).2.1 (TX3 k).2.2.1 ∈ wsL_law) (hsame : ∀ x, s.fieldFound? (TX3 k).1 (TX3 k).2.1 (TX3 k).2.2.1 = some x → s.fieldFound? ref (TX3 k).2.1 (TX3 k).2.2.1 = some x) {v : Value} (hfin : (TX3 k).2.2.2 = false) (hn : narrow (tyX3 k) v = v) (hfit : fits (tyX3 k) v = true) (hl : k < fs.length) (hdg : decode cc pc = .ok (.putfield index, 3))
    (kk : ∀ (H1 : Heap) (locs1 : List Loc), va_P D vwCl (ws.set q0 (a, .inr (2, fs.set k v))) H1 → va_D A (ws.set q0 (a, .inr (2, fs.set k v))) → va_S A H0 H1 locs1 → W p l e R s m args below meth c H1 locs1 cells slots Q (F0 m (pc + 3) ls rest)) : W p l e R s m args below meth c H locs cells slots Q (F0 m pc ls (v :: .ref a :: rest)) :=
  va_put hx hb hts inlX3 tyX3 tyX3_ok nmX3 hown hK hP hD hS q0 he rfl k hk (hts _ hlink) hsame hfin (tyX3_ok k hk) hn hfit hl hdg kk
theorem g4 (hx : p.tables.exec = Jvm.exec) (hb : c.code = cc) (hts : ∀ w ∈ wsL_law, w.before args s = true) (hown : s.vm.findClass own = some m.cls) (hK : va_K D vwCl ty s) (hP : va_P D vwCl ws H) (q0 : Nat) {fs : List Value} (he : ws[q0]? = some (a, .inr (3, fs))) (k : Nat) (hk : k < 5) (hlink : Cond.fieldLink own index ref (TX4 k).2.1 (TX4 k).2.2.1 ∈ wsL_law) (hsame : ∀ x, s.fieldFound? (TX4 k).1 (TX4 k).2.1 (TX4 k).2.2.1 = some x → s.fieldFound? ref (TX4 k).2.1 (TX4 k).2.2.1 = some x) {v : Value} (hv : fs[k]? = some v) (hdg : decode cc pc = .ok (.getfield index, 3))
    (kk : W p l e R s m args below meth c H locs cells slots Q (F0 m (pc + 3) ls (v :: rest))) : W p l e R s m args below meth c H locs cells slots Q (F0 m pc ls (.ref a :: rest)) :=
  va_get hx hb hts inlX4 hown hK hP q0 he rfl k hk (hts _ hlink) hsame hv hdg kk
theorem f4 (hx : p.tables.exec = Jvm.exec) (hb : c.code = cc) (hts : ∀ w ∈ wsL_law, w.before args s = true) (hown : s.vm.findClass own = some m.cls) (hK : va_K D vwCl ty s) (hP : va_P D vwCl ws H) (hD : va_D A ws) (hS : va_S A H0 H locs) (q0 : Nat) {fs : List Value} (he : ws[q0]? = some (a, .inr (3, fs))) (k : Nat) (hk : k < 5) (hlink : Cond.fieldLink own index ref (TX4 k).2.1 (TX4 k).2.2.1 ∈ wsL_law) (hsame : ∀ x, s.fieldFound? (TX4 k).1 (TX4 k).2.1 (TX4 k).2.2.1 = some x → s.fieldFound? ref (TX4 k).2.1 (TX4 k).2.2.1 = some x) {v : Value} (hfin : (TX4 k).2.2.2 = false) (hn : narrow (tyX4 k) v = v) (hfit : fits (tyX4 k) v = true) (hl : k < fs.length) (hdg : decode cc pc = .ok (.putfield index, 3))
    (kk : ∀ (H1 : Heap) (locs1 : List Loc), va_P D vwCl (ws.set q0 (a, .inr (3, fs.set k v))) H1 → va_D A (ws.set q0 (a, .inr (3, fs.set k v))) → va_S A H0 H1 locs1 → W p l e R s m args below meth c H1 locs1 cells slots Q (F0 m (pc + 3) ls rest)) : W p l e R s m args below meth c H locs cells slots Q (F0 m pc ls (v :: .ref a :: rest)) :=
  va_put hx hb hts inlX4 tyX4 tyX4_ok nmX4 hown hK hP hD hS q0 he rfl k hk (hts _ hlink) hsame hfin (tyX4_ok k hk) hn hfit hl hdg kk
end GF
end
section
/-! plain facts about the mathematical value -/
theorem k_exit {k n : Nat} (hn : n ≤ 2048) (hk : k ≤ n) (c : nI n ≤ nI k) : k = n := by
  have := (nI_leI (a := n) (b := k) (by omega) (by omega)).mp c
  omega
theorem k_more {k n : Nat} (hn : n ≤ 2048) (hk : k ≤ n) (c : ¬ nI n ≤ nI k) : k < n := by
  rcases Nat.lt_or_ge k n with h | h
  · exact h
  · exact absurd ((nI_leI (a := n) (b := k) (by omega) (by omega)).mpr h) c
theorem nI_dec {a b : Nat} (h : a = b + 1) : nI a + Int32.ofInt (-1) = nI b := by
  subst h
  exact pk_m1 b
theorem p_S_le {P : Nat} (h : P ≤ 24) : p_S P ≤ 6 := by unfold p_S; omega
theorem p_go_le (N : NN) (k P : Nat) : ∀ r j, p_go N k P r j ≤ r + j := by
  intro r
  induction r with
  | zero => intro j; simp [p_go]
  | succ r ih =>
    intro j
    unfold p_go
    split
    · omega
    · have := ih (j + 1); omega
theorem p_held_le (N : NN) (k P : Nat) : p_held N k P ≤ p_S P := by
  have := p_go_le N k P (p_S P) 0
  unfold p_held
  omega
theorem p_go_step {N : NN} {k P S j : Nat} (h : j < S) (c : ¬ p_strAt N k (p_worn (N 7 k) j) < nI (p_sp P j)) : p_go N k P (S - j) j = p_go N k P (S - (j + 1)) (j + 1) := by
  rw [show S - j = (S - (j + 1)) + 1 by omega]
  simp only [p_go, if_neg c]
theorem p_go_stop {N : NN} {k P S j : Nat} (h : j < S) (c : p_strAt N k (p_worn (N 7 k) j) < nI (p_sp P j)) : p_go N k P (S - j) j = j := by
  rw [show S - j = (S - (j + 1)) + 1 by omega]
  simp only [p_go, if_pos c]
theorem p_go_end {N : NN} {k P S j : Nat} (h : j = S) : p_go N k P (S - j) j = S := by
  subst h
  simp [p_go]
theorem nI_sp {P j : Nat} (hP : P ≤ 24) (hj : j ≤ 100) : (if nI P < nI (4 * (j + 1)) then nI P else nI (4 * (j + 1))) = nI (p_sp P j) := by
  unfold p_sp
  by_cases h : P < 4 * (j + 1)
  · rw [if_pos h, if_pos ((nI_ltI (by omega) (by omega)).mpr h)]
  · rw [if_neg h, if_neg (fun q => h ((nI_ltI (by omega) (by omega)).mp q))]
theorem p_out_ge {N : NN} {k P : Nat} (hP : P ≤ 24) (c : nI (p_S P) ≤ nI (p_held N k P)) : nI (p_held N k P) = p_out N k P := by
  have h1 := p_S_le hP
  have h2 := p_held_le N k P
  have h := (nI_leI (by omega) (by omega)).mp c
  unfold p_out
  rw [if_neg (by omega)]
theorem p_out_lt {N : NN} {k P : Nat} (hP : P ≤ 24) (c : ¬ nI (p_S P) ≤ nI (p_held N k P)) : nI (p_held N k P + 100) = p_out N k P := by
  have h1 := p_S_le hP
  have h2 := p_held_le N k P
  unfold p_out
  rcases Nat.lt_or_ge (p_held N k P) (p_S P) with h | h
  · rw [if_pos h]
  · exact absurd ((nI_leI (by omega) (by omega)).mpr h) c
theorem p_heldS {N : NN} {k P : Nat} (hP : P ≤ 24) : nI (p_held N k P) = nI (p_S P) ↔ p_held N k P = p_S P := by
  have h1 := p_S_le hP
  have h2 := p_held_le N k P
  exact nI_eq (by omega) (by omega)
theorem p_sf_hit {N : NN} {k j : Nat} (h : j < 21) (c : nI (p_held N k (24 - j)) = nI (p_S (24 - j))) : p_sf N k (21 - j) = nI (24 - j) := by
  rw [show 21 - j = (20 - j) + 1 by omega]
  unfold p_sf
  rw [show 20 - j + 4 = 24 - j by omega, if_pos ((p_heldS (by omega)).mp c)]
theorem p_sf_miss {N : NN} {k j : Nat} (h : j < 21) (c : ¬ nI (p_held N k (24 - j)) = nI (p_S (24 - j))) : p_sf N k (21 - j) = p_sf N k (21 - (j + 1)) := by
  rw [show 21 - j = (21 - (j + 1)) + 1 by omega]
  conv => lhs; unfold p_sf
  rw [show 21 - (j + 1) + 4 = 24 - j by omega, if_neg (fun q => c (by rw [q]))]
theorem p_pr_lt {j : Nat} (hj : j ≤ 21) (c : nI (24 - j) < 4) : j = 21 := by
  have := (nI_ltI (a := 24 - j) (b := 4) (by omega) (by omega)).mp c
  omega
theorem p_pr_ge {j : Nat} (hj : j ≤ 21) (c : ¬ nI (24 - j) < 4) : j < 21 := by
  rcases Nat.lt_or_ge j 21 with h | h
  · exact h
  · exact absurd ((nI_ltI (a := 24 - j) (b := 4) (by omega) (by omega)).mpr (by omega)) c
theorem us_at (v : Nat → Int32) (i : Nat) (x : Int32) (j : Nat) : us v i x j = if j = i then x else v j := by
  by_cases h : j = i
  · subst h; rw [us_self, if_pos rfl]
  · rw [us_ne v x h, if_neg h]
theorem mx0_ge {x : Int32} (h : 0 ≤ x) : x = mx0 x := by
  unfold mx0
  by_cases h2 : 0 < x
  · rw [if_pos h2]
  · rw [if_neg h2]
    exact Int32.le_antisymm (Int32.not_lt.mp h2) h
theorem mx0_lt {x : Int32} (h : ¬ 0 ≤ x) : 0 = mx0 x := by
  unfold mx0
  rw [if_neg (fun q => h (Int32.le_of_lt q))]
theorem p_reason_m {N : NN} {k : Nat} (hd : 0 ≤ N 1 0) : p_reason N k = if N 9 k = -1 then 1 else if N 9 k = 4 then 2 else if p_life (N 3 k) < N 1 0 - N 6 k then 3 else if N 8 k < N 1 0 then 4 else 0 := by
  unfold p_reason
  by_cases h : N 8 k = -1
  · have h2 : N 8 k < N 1 0 := by
      rw [h]
      exact Int32.lt_of_lt_of_le (by decide) hd
    simp [h, h2]
    simp [h] at h2
    simp [h2]
  · simp [h]
theorem up2_self (N : NN) (i j : Nat) : up2 N i j (N i j) = N := by
  funext q d
  rw [up2_at]
  by_cases h : q = i ∧ d = j
  · rw [if_pos h, h.1, h.2]
  · rw [if_neg h]
theorem up2_comm (N : NN) {i i' : Nat} (j j' : Nat) (x y : Int32) (h : i ≠ i') : up2 (up2 N i j x) i' j' y = up2 (up2 N i' j' y) i j x := by
  funext q d
  simp only [up2_at]
  by_cases h1 : q = i' ∧ d = j'
  · by_cases h2 : q = i ∧ d = j
    · exact absurd (h2.1.symm.trans h1.1) h
    · simp [h1, h2]
      intro h3
      exact absurd h3.symm h
  · by_cases h2 : q = i ∧ d = j
    · simp [h1, h2]
      intro h3
      exact absurd h3 h
    · simp [h1, h2]
end
section
/-! a copy of a whole array; rows put in place as a whole -/
def upR (N : NN) (i : Nat) (f : Nat → Int32) : NN := fun q => cond (Nat.beq q i) f (N q)
theorem va_P_setc {D : va_G} {cl : List vw_C} {ws : va_W} {H : Heap} {q a : Nat} {c : ClassId} {x y : vp_A} (h : vp_cell c x = vp_cell c y) (hP : va_P D cl (ws.set q (a, .inl (c, x))) H) : va_P D cl (ws.set q (a, .inl (c, y))) H := by
  intro k z hk
  by_cases hkq : k = q
  · subst hkq
    have hl : k < ws.length := by
      have := (List.getElem?_eq_some_iff.mp hk).1
      rwa [List.length_set] at this
    rw [List.getElem?_set_self hl] at hk
    cases hk
    have h1 := hP k (a, .inl (c, x)) (List.getElem?_set_self hl)
    have h2 : H[a]? = some (vp_cell c x) := h1
    show H[a]? = some (vp_cell c y)
    rw [← h]; exact h2
  · rw [List.getElem?_set_ne (Ne.symm hkq)] at hk
    exact hP k z (by rw [List.getElem?_set_ne (Ne.symm hkq)]; exact hk)
theorem va_D_setc {A : Nat → Prop} {ws : va_W} {q a : Nat} {x y : va_E} (hD : va_D A (ws.set q (a, x))) : va_D A (ws.set q (a, y)) := va_D_same (by simp [List.map_set]) hD
theorem vp_cell_cpy (c : ClassId) (n : Nat) (f g : Nat → Int32) : vp_cell c (n, .inl (va_cpy f g 0 0 n)) = vp_cell c (n, .inl f) := by
  rw [vp_cell_i, vp_cell_i]
  unfold arrV
  congr 1
  congr 1
  funext j
  have hj := j.isLt
  simp [va_cpy, hj]
section KCPY
variable {p : Program} {l : Launch} {e : Env} {R : Room} {s : State} {m : MethodId} {args : Array Value} {below : List Frame} {meth : Method} {c : Code} {H : Heap} {locs : List Loc} {cells slots : Nat} {Q : State → Prop}
variable {cc : ByteArray} {pc : Nat} {ls : Array Slot} {rest : List Value} {D : va_G} {A : Nat → Prop} {a a0 index : Nat} {ty : List (ClassId × FieldType)} {ws : va_W} {H0 : Heap} {own : String}
theorem k_cpy (hx : p.tables.exec = Jvm.exec) (hb : c.code = cc) (hml : c.maxLocals = ls.size) (hown : s.vm.findClass own = some m.cls) (hts : ∀ w ∈ wsL_law, w.before args s = true) (hlink : Cond.methodLink own index arraycopyName ∈ wsL_law) (hK : va_K D vwCl ty s) (hP : va_P D vwCl ws H) (hD : va_D A ws) (hS : va_S A H0 H locs) (q0 q1 n : Nat) {cA : ClassId} {f g : Nat → Int32} (ha0 : ws[q0]? = some (a0, .inl (cA, n, .inl f))) (ha1 : ws[q1]? = some (a, .inl (cA, n, .inl g))) (ht : ty[0]? = some (cA, .int)) {z : Int32} (hz : z = nI n) (hn : n < 2 ^ 31)
    (hframes : 1 ≤ R.frames) (hlocals : (rest.map fun v => v.category).sum + (nativeFrameWords "java/lang/System" "arraycopy" 5 + 11) ≤ R.locals) (hdg : decode cc pc = .ok (.invokestatic index, 3))
    (kk : ∀ (H1 : Heap) (locs1 : List Loc), va_P D vwCl (ws.set q1 (a, .inl (cA, n, .inl f))) H1 → va_D A (ws.set q1 (a, .inl (cA, n, .inl f))) → va_S A H0 H1 locs1 → W p l e R s m args below meth c H1 locs1 cells slots Q (F0 m (pc + 3) ls rest)) : W p l e R s m args below meth c H locs cells slots Q (F0 m pc ls (.int z :: .int 0 :: .ref a :: .int 0 :: .ref a0 :: rest)) := by
  subst hz
  have h0 : (0 : Int32).toNatClampNeg = 0 := sb_cl0
  have h1 : (nI n).toNatClampNeg = n := nI_clamp hn
  refine va_copyi hx hb hml hown (hts _ hlink) (hts _ wd_native_arraycopyName) (hts _ wd_static_arraycopyName) (hts _ wd_initialized_java_lang_System) hK hP hD hS q0 q1 0 0 ha0 ha1 ht ht rfl (by decide) (by decide) (nI_pos hn) (by rw [h0, h1]; omega) (by rw [h0, h1]; omega) (fun _ _ => rfl) hframes hlocals hdg (fun H1 locs1 hP1 hD1 hS1 => ?_)
  rw [h0, h1] at hP1 hD1
  exact kk H1 locs1 (va_P_setc (vp_cell_cpy cA n f g) hP1) (va_D_setc hD1) hS1
end KCPY
theorem p_tb_row1 (N : NN) : ∀ k, p_tb N k 1 = N 1 := by
  intro k
  induction k with
  | zero => rfl
  | succ k ih =>
    unfold p_tb
    split
    · rw [up2_ne _ _ _ (by decide), up2_ne _ _ _ (by decide), ih]
    · exact ih
theorem p_wt_row1 (N : NN) : ∀ k, p_wt N k 1 = N 1 := by
  intro k
  induction k with
  | zero => rfl
  | succ k ih =>
    unfold p_wt
    split
    · rw [up2_ne _ _ _ (by decide), ih]
    · exact ih
/-- the price that goes with the best so far -/
def p_chp (N : NN) (t n k : Nat) : Int32 := if p_ch N t n k = -1 then 0 else p_price N (p_ch N t n k).toNatClampNeg
theorem nI_m1 {k : Nat} (h : k < 100) : ¬ nI k = -1 := fun q => by
  have h1 := congrArg Int32.toInt q
  rw [nI_toInt (by omega)] at h1
  have h2 : (-1 : Int32).toInt = -1 := by decide
  omega
theorem p_chp_hit {N : NN} {t n k j : Nat} (h : p_ch N t n k = nI j) (hj : j < 100) : p_price N j = p_chp N t n k := by
  unfold p_chp
  rw [h, if_neg (nI_m1 hj), nI_clamp (by omega)]
theorem p_chp_eq {N : NN} {t n k j : Nat} (h : p_ch N t n k = p_ch N t n j) : p_chp N t n j = p_chp N t n k := by
  unfold p_chp
  rw [h]
theorem mn99 {w : Int32} (h0 : 0 ≤ w) (h1 : w ≤ 99) : ∃ q : Nat, q ≤ 99 ∧ w = nI q := nI_of2 (M := 99) (n := 99) rfl (Int32.not_lt.mpr h0) h1
theorem mnI {a : Nat} (ha : a < 2 ^ 31) : (if nI a < 99 then nI a else 99) = nI (if a < 99 then a else 99) := by
  by_cases h : a < 99
  · have q : nI a < (99 : Int32) := (nI_ltI (a := a) (b := 99) (by omega) (by omega)).mpr h
    rw [if_pos h, if_pos q]
  · have q : ¬ nI a < (99 : Int32) := fun z => h ((nI_ltI (a := a) (b := 99) (by omega) (by omega)).mp z)
    rw [if_neg h, if_neg q]
    rfl
theorem p_worn_nI {q : Nat} (hq : q ≤ 99) : ∀ j, p_worn (nI q) j = nI (if q + j < 99 then q + j else 99) := by
  intro j
  induction j with
  | zero =>
    show nI q = _
    congr 1
    by_cases h : q + 0 < 99
    · rw [if_pos h]; rfl
    · rw [if_neg h]; omega
  | succ j ih =>
    show mn 99 (p_worn (nI q) j + 1) = _
    rw [ih, nI_1]
    unfold mn
    rw [mnI (by split <;> omega)]
    congr 1
    split <;> split <;> split <;> omega
theorem p_worn_add {w : Int32} {j : Nat} (h0 : 0 ≤ w) (h1 : w ≤ 99) (hj : j ≤ 100) : (if w + nI j < 99 then w + nI j else 99) = p_worn w j := by
  obtain ⟨q, hq, rfl⟩ := mn99 h0 h1
  rw [p_worn_nI hq, nI_add]
  exact mnI (by omega)
theorem p_out_b {N : NN} {k P : Nat} (hP : P ≤ 24) (c : ¬ p_out N k P < 100) : p_held N k P < p_S P ∧ p_out N k P = nI (p_held N k P + 100) := by
  have h1 := p_S_le hP
  have h2 := p_held_le N k P
  unfold p_out at c ⊢
  by_cases h : p_held N k P < p_S P
  · exact ⟨h, if_pos h⟩
  · rw [if_neg h] at c
    exact absurd ((nI_ltI (a := p_held N k P) (b := 100) (by omega) (by omega)).mpr (by omega)) c
theorem p_out_h {N : NN} {k P : Nat} (hP : P ≤ 24) (c : p_out N k P < 100) : ¬ p_held N k P < p_S P ∧ p_out N k P = nI (p_held N k P) := by
  have h1 := p_S_le hP
  have h2 := p_held_le N k P
  unfold p_out at c ⊢
  by_cases h : p_held N k P < p_S P
  · rw [if_pos h] at c
    have := (nI_ltI (a := p_held N k P + 100) (b := 100) (by omega) (by omega)).mp c
    omega
  · exact ⟨h, if_neg h⟩
theorem p_wb {N : NN} {k P : Nat} (hP : P ≤ 24) (h0 : 0 ≤ N 7 k) (h1 : N 7 k ≤ 99) (h : p_out N k P = nI (p_held N k P + 100)) : (if N 7 k + (p_out N k P - 100) < 99 then N 7 k + (p_out N k P - 100) else 99) = p_worn (N 7 k) (p_held N k P) := by
  have g1 := p_S_le hP
  have g2 := p_held_le N k P
  have e : p_out N k P - 100 = nI (p_held N k P) := by rw [h]; exact pk_sub (a := p_held N k P + 100) (b := 100) (by omega)
  rw [e]
  exact p_worn_add h0 h1 (by omega)
theorem p_wh {N : NN} {k P : Nat} (hP : P ≤ 24) (h0 : 0 ≤ N 7 k) (h1 : N 7 k ≤ 99) (h : p_out N k P = nI (p_held N k P)) : (if N 7 k + p_out N k P < 99 then N 7 k + p_out N k P else 99) = p_worn (N 7 k) (p_held N k P) := by
  have g1 := p_S_le hP
  have g2 := p_held_le N k P
  rw [h]
  exact p_worn_add h0 h1 (by omega)
end
