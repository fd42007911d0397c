/-! own rows: a contract's start, its ends, calls with the frame; one cell of a list of cells; two-row numbers -/
def us (v : Nat → Int32) (i : Nat) (x : Int32) : Nat → Int32 := fun q => cond (Nat.beq q i) x (v q)
def up2 (N : Nat → Nat → Int32) (i j : Nat) (x : Int32) : Nat → Nat → Int32 := fun q => cond (Nat.beq q i) (upd (N i) j x) (N q)
theorem us_self (v : Nat → Int32) (i : Nat) (x : Int32) : us v i x i = x := by simp [us]
theorem us_ne (v : Nat → Int32) {i j : Nat} (x : Int32) (h : j ≠ i) : us v i x j = v j := by
  have h1 : Nat.beq j i = false := by
    cases hb : Nat.beq j i with
    | true => exact absurd (Nat.eq_of_beq_eq_true hb) h
    | false => rfl
  simp [us, h1]
theorem up2_row (N : Nat → Nat → Int32) (i j : Nat) (x : Int32) : up2 N i j x i = upd (N i) j x := by simp [up2]
theorem up2_ne (N : Nat → Nat → Int32) {i q : Nat} (j : Nat) (x : Int32) (h : q ≠ i) : up2 N i j x q = N q := by
  have h1 : Nat.beq q i = false := by
    cases hb : Nat.beq q i with
    | true => exact absurd (Nat.eq_of_beq_eq_true hb) h
    | false => rfl
  simp [up2, h1]
def noF : Nat → Prop := fun _ => False
/-- what the tables say beside the words: the two links between nest mates, the texts of the exceptions -/
def kStrs : List (Nat × String) := [(40, "kind, length or coupling is out of range"), (51, "no room or not enough money for a new hose"), (79, "place is out of range"), (84, "days is out of range"), (90, "the hose is not ready"), (105, "length is out of range"), (119, "value is out of range"), (156, "no state is saved"), (162, "what is not 0 to 9"), (185, "what is not 0 to 6"), (211, "what is not 0 to 10"), (289, "there is no such hose"), (295, "the hose is gone or lent"), (297, "there is no such truck"), (299, "there is no such setting"), (301, "pressure is out of range")]
def kEn (U : State) : Prop := va_Nw (.methodLinkNest RX3 51 yX2_init RX4) U ∧ va_Nw (.methodLinkNest RX3 74 yX4_isWithin RX4) U ∧ ∀ q ∈ kStrs, ∃ sa, vk_R RX4 q.1 q.2 sa U
theorem kEn.warm {s U : State} (hW : s.WarmedH U.vm) (h : kEn s) : kEn U := ⟨va_Nw.warmM hW h.1, va_Nw.warmM hW h.2.1, fun q hq => by
  obtain ⟨sa, h1⟩ := h.2.2 q hq
  exact ⟨sa, vk_R.warm hW h1⟩⟩
theorem kEn.same {u U : State} (hv : U.vm = u.vm) (h : kEn u) : kEn U := ⟨va_Nw.same rfl hv.symm h.1, va_Nw.same rfl hv.symm h.2.1, fun q hq => by
  obtain ⟨sa, h1⟩ := h.2.2 q hq
  exact ⟨sa, vk_R.same hv h1⟩⟩
/-- a contract's start: the arguments, the size of the heap, the world, the tables -/
def kPc (D : va_G) (ty : List (ClassId × FieldType)) (wc : va_W) (sz : Nat) (av : List Value) : Array Value → State → Prop :=
  va_Pc av (fun U => U.heap.size = sz ∧ va_P D vwCl wc U.heap ∧ va_K D vwCl ty U ∧ va_D (fun _ => True) wc ∧ kEn U)
theorem kPc_blind {D : va_G} {ty : List (ClassId × FieldType)} {wc : va_W} {sz : Nat} {av : List Value} : FrameBlind (kPc D ty wc sz av) := fun a U g mk q => by
  obtain ⟨q0, q1, qP, qK, qD, qE⟩ := q
  exact ⟨q0, q1, qP, va_K.moved (u := U) (U := U.calling g mk a) (Vm.Alike.refl U.vm) qK, qD, kEn.same (u := U) (U := U.calling g mk a) rfl qE⟩
theorem kPc_at {D : va_G} {ty : List (ClassId × FieldType)} {wc : va_W} {av : List Value} {s : State} {H : Heap} (hK : va_K D vwCl ty s) (hE : kEn s) (hP : va_P D vwCl wc H) (hD : va_D (fun _ => True) wc) (U : State) (hU : U.heap = H) (hW : s.WarmedH U.vm) : kPc D ty wc H.size av av.toArray U :=
  ⟨rfl, by rw [hU], by rw [hU]; exact hP, va_K.moved hW.alike hK, hD, kEn.warm hW hE⟩
/-- ends that leave the heap as it was -/
abbrev kRi (r0 : Int32) : Array Value → State → Outcome → State → Prop := vp_Si (fun r => r = r0)
abbrev kRl (r0 : Int64) : Array Value → State → Outcome → State → Prop := vp_Sl (fun r => r = r0)
abbrev kRd (r0 : UInt64) : Array Value → State → Outcome → State → Prop := vp_Sd (fun r => r = r0)
/-- ends with a new world in the old one's place -/
abbrev kMi (D : va_G) (wc wc' : va_W) (sz : Nat) (r0 : Int32) : Array Value → State → Outcome → State → Prop := va_Qi (fun r (_ : Unit) => r = r0) (fun _ t => va_P D vwCl wc' t.heap) (va_A wc sz)
abbrev kMl (D : va_G) (wc wc' : va_W) (sz : Nat) (r0 : Int64) : Array Value → State → Outcome → State → Prop := va_Ql (fun r (_ : Unit) => r = r0) (fun _ t => va_P D vwCl wc' t.heap) (va_A wc sz)
abbrev kMv (D : va_G) (wc wc' : va_W) (sz : Nat) : Array Value → State → Outcome → State → Prop := va_Qv (fun (_ : Unit) => True) (fun _ t => va_P D vwCl wc' t.heap) (va_A wc sz)
/-- the same addresses -/
theorem va_D_same {A : Nat → Prop} {ws ws' : va_W} (h : ws'.map Prod.fst = ws.map Prod.fst) (hD : va_D A ws) : va_D A ws' := by
  have key : ∀ (k : Nat) (q : Nat × va_E), ws'[k]? = some q → ∃ q0, ws[k]? = some q0 ∧ q0.1 = q.1 := by
    intro k q hk
    have h1 : (ws'.map Prod.fst)[k]? = some q.1 := by rw [List.getElem?_map, hk]; rfl
    rw [h, List.getElem?_map] at h1
    cases hw : ws[k]? with
    | none => rw [hw] at h1; cases h1
    | some q0 => rw [hw] at h1; exact ⟨q0, rfl, Option.some.inj h1⟩
  refine ⟨fun i j x y hi hj hxy => ?_, fun k q hk => ?_⟩
  · obtain ⟨x0, h1, h2⟩ := key i x hi
    obtain ⟨y0, h3, h4⟩ := key j y hj
    exact hD.1 i j x0 y0 h1 h3 (h2.trans (hxy.trans h4.symm))
  · obtain ⟨q0, h1, h2⟩ := key k q hk
    rw [← h2]
    exact hD.2 k q0 h1
theorem va_P_of_mem {D : va_G} {cl : List vw_C} {ws : va_W} {H : Heap} (h : ∀ q ∈ ws, va_at D cl q H) : va_P D cl ws H := fun _ q hk => h q (List.mem_of_getElem? hk)
theorem va_P_mem {D : va_G} {cl : List vw_C} {ws : va_W} {H : Heap} (h : va_P D cl ws H) {q : Nat × va_E} (hq : q ∈ ws) : va_at D cl q H := by
  obtain ⟨k, hk⟩ := List.getElem?_of_mem hq
  exact h k q hk
theorem va_P_midL {D : va_G} {cl : List vw_C} {w1 wc w3 : va_W} {H : Heap} (h : va_P D cl (w1 ++ (wc ++ w3)) H) : va_P D cl wc H :=
  va_P_of_mem fun q hq => va_P_mem h (List.mem_append_right _ (List.mem_append_left _ hq))
theorem va_D_midL {A : Nat → Prop} {w1 wc w3 : va_W} (h : va_D A (w1 ++ (wc ++ w3))) : va_D A wc := by
  have e : ∀ (k : Nat) (q : Nat × va_E), wc[k]? = some q → (w1 ++ (wc ++ w3))[w1.length + k]? = some q := by
    intro k q hk
    rw [List.getElem?_append_right (by omega), Nat.add_sub_cancel_left, List.getElem?_append_left (List.getElem?_eq_some_iff.mp hk).1]
    exact hk
  refine h.by _ e (fun i j _ _ h => ?_)
  have h' : w1.length + i = w1.length + j := h
  omega
/-- the cells of a middle part: what a caller's cell is in it -/
theorem va_D_mid_ne {A : Nat → Prop} {w1 wc w3 : va_W} (h : va_D A (w1 ++ (wc ++ w3))) {q : Nat × va_E} (hq : q ∈ w1 ∨ q ∈ w3) {c : Nat × va_E} (hc : c ∈ wc) : c.1 ≠ q.1 := by
  intro he
  obtain ⟨k, hk⟩ := List.getElem?_of_mem hc
  have hkl := (List.getElem?_eq_some_iff.mp hk).1
  have e1 : (w1 ++ (wc ++ w3))[w1.length + k]? = some c := by
    rw [List.getElem?_append_right (by omega), Nat.add_sub_cancel_left, List.getElem?_append_left hkl]
    exact hk
  rcases hq with hq | hq
  · obtain ⟨i, hi⟩ := List.getElem?_of_mem hq
    have hil := (List.getElem?_eq_some_iff.mp hi).1
    have e2 : (w1 ++ (wc ++ w3))[i]? = some q := by rw [List.getElem?_append_left hil]; exact hi
    have := h.1 _ _ c q e1 e2 he
    omega
  · obtain ⟨i, hi⟩ := List.getElem?_of_mem hq
    have e2 : (w1 ++ (wc ++ w3))[w1.length + (wc.length + i)]? = some q := by
      rw [List.getElem?_append_right (by omega), Nat.add_sub_cancel_left, List.getElem?_append_right (by omega), Nat.add_sub_cancel_left]
      exact hi
    have := h.1 _ _ c q e1 e2 he
    omega
/-- behind a call: a new middle part, all else as it was -/
theorem k_join {A0 : Nat → Prop} {D : va_G} {cl : List vw_C} {w1 wc wc' w3 : va_W} {H H1 : Heap} (hP : va_P D cl (w1 ++ (wc ++ w3)) H) (hD : va_D A0 (w1 ++ (wc ++ w3))) (ha : wc'.map Prod.fst = wc.map Prod.fst)
    (hk : ∀ q : Nat, q < H.size → ¬ va_A wc H.size q → H1[q]? = H[q]?) (hP1 : va_P D cl wc' H1) : va_P D cl (w1 ++ (wc' ++ w3)) H1 ∧ va_D A0 (w1 ++ (wc' ++ w3)) := by
  have keep : ∀ q : Nat × va_E, q ∈ w1 ∨ q ∈ w3 → va_at D cl q H1 := by
    intro q hq
    have hm : q ∈ w1 ++ (wc ++ w3) := by
      rcases hq with h | h
      · exact List.mem_append_left _ h
      · exact List.mem_append_right _ (List.mem_append_right _ h)
    have hat := va_P_mem hP hm
    refine hat.kept (hk q.1 hat.lt fun hA => ?_)
    rcases hA with ⟨k, e, h⟩ | h
    · exact va_D_mid_ne hD hq (List.mem_of_getElem? h) rfl
    · have := hat.lt
      omega
  refine ⟨va_P_of_mem fun q hq => ?_, va_D_same (by simp [ha]) hD⟩
  rcases List.mem_append.mp hq with h | h
  · exact keep q (Or.inl h)
  · rcases List.mem_append.mp h with h | h
    · exact va_P_mem hP1 h
    · exact keep q (Or.inr h)
theorem k_free {A0 : Nat → Prop} {w1 wc w3 : va_W} {H0 H : Heap} {locs : List Loc} (hD : va_D A0 (w1 ++ (wc ++ w3))) (hS : va_S A0 H0 H locs) (hA : ∀ q, H0.size ≤ q → A0 q) : ∀ q, va_A wc H.size q → A0 q := by
  intro q h
  rcases h with ⟨k, e, h⟩ | h
  · exact (va_D_midL hD).2 k (q, e) h
  · exact hA q (Nat.le_trans hS.1 h)
section KROW
variable {p : Program} {l : Launch} {e : Env} {R : Room} {s : State} {m : MethodId} {args : Array Value} {below : List Frame} {meth : Method} {c : Code} {H : Heap} {locs : List Loc} {cells slots : Nat} {Q : State → Prop}
variable {cc bytes : ByteArray} {pc nL maxL n index mc ms : Nat} {ls : Array Slot} {rest st0 As : List Value} {D : va_G} {A0 : Nat → Prop} {a b : Nat} {ty : List (ClassId × FieldType)} {w1 wc wc' w3 ws : va_W} {H0 : Heap} {y : MethodName} {own C : String} {ret : Option FieldType} {rm : Room}
/-- a read of an int array at a known place -/
theorem k_ald (hexec : p.tables.exec = Jvm.exec) (hb : c.code = cc) (hK : va_K D vwCl ty s) (hP : va_P D vwCl ws H) (q0 t0 : Nat) {cA : ClassId} {N k : Nat} {f : Nat → Int32} {i : Int32} (ha : ws[q0]? = some (a, .inl (cA, N, .inl f))) (ht : ty[t0]? = some (cA, .int)) (hi : i = nI k) (hk : k < N) (hN : N < 2 ^ 31) (hdg : decode cc pc = .ok (.iaload, 1))
    (kk : W p l e R s m args below meth c H locs cells slots Q (F0 m (pc + 1) ls (.int (f k) :: rest))) : W p l e R s m args below meth c H locs cells slots Q (F0 m pc ls (.int i :: .ref a :: rest)) := by
  subst hi
  refine va_iald hexec hb hK hP q0 t0 ha ht (vp_in_nI hk hN) hdg ?_
  rw [nI_clamp (by omega)]
  exact kk
/-- a write to an int array at a known place -/
theorem k_ast (hexec : p.tables.exec = Jvm.exec) (hb : c.code = cc) (hK : va_K D vwCl ty s) (hP : va_P D vwCl ws H) (hD : va_D A0 ws) (hS : va_S A0 H0 H locs) (q0 t0 : Nat) {cA : ClassId} {N k : Nat} {f : Nat → Int32} {i x : Int32} (ha : ws[q0]? = some (a, .inl (cA, N, .inl f))) (ht : ty[t0]? = some (cA, .int)) (hi : i = nI k) (hk : k < N) (hN : N < 2 ^ 31) (hdg : decode cc pc = .ok (.iastore, 1))
    (kk : ∀ (H1 : Heap) (locs1 : List Loc), va_P D vwCl (ws.set q0 (a, .inl (cA, N, .inl (upd f k x)))) H1 → va_D A0 (ws.set q0 (a, .inl (cA, N, .inl (upd f k x)))) → va_S A0 H0 H1 locs1 → W p l e R s m args below meth c H1 locs1 cells slots Q (F0 m (pc + 1) ls rest)) : W p l e R s m args below meth c H locs cells slots Q (F0 m pc ls (.int x :: .int i :: .ref a :: rest)) := by
  subst hi
  have hc : (nI k).toNatClampNeg = k := nI_clamp (by omega)
  refine va_iast hexec hb hK hP hD hS q0 t0 ha ht (vp_in_nI hk hN) hdg fun H1 locs1 h1 h2 h3 => ?_
  rw [hc] at h1 h2
  exact kk H1 locs1 h1 h2 h3
/-- a call of a method that only reads and answers an int -/
theorem k_riV {r0 : Int32} (S : CallFix p m c cc nL s args wsL_law own) (hM : Met l y (wy_ y bytes maxL ret) rm (kPc D ty wc H.size (.ref b :: As)) (kRi r0) 0 0 noF) (hlk : KV own index C y bytes maxL ret n) (hrc : rm.cells = 0) (hrs : rm.slots = 0) (hR : rm.frames + 1 ≤ R.frames ∧ 8 + (maxL + 11) + rm.locals ≤ R.locals)
    (hrv : ∃ cell : Cell, H[b]? = some cell ∧ cell.vm.isStatics = false ∧ s.vm.findClass C = some cell.cls) (hK : va_K D vwCl ty s) (hE : kEn s) (hP : va_P D vwCl wc H) (hD : va_D A0 wc) (hn : As.length = n) (hsz : ls.size = nL) (hst : st0 = As.reverse ++ .ref b :: rest) (hrest : (rest.map fun v => v.category).sum ≤ 8)
    (hdg : decode cc pc = .ok (.invokevirtual index, 3)) (hf : cells ≤ R.cells ∧ slots ≤ R.slots)
    (kk : W p l e R s m args below meth c H locs cells slots Q (F0 m (pc + 3) ls (.int r0 :: rest))) : W p l e R s m args below meth c H locs cells slots Q (F0 m pc ls st0) :=
  vp_callSi (W.runV S hM (k_cV S.2.2.2.2 hlk hrc hrs hR) ⟨kPc_blind, hrv, kPc_at hK hE hP (hD.weaken fun _ _ _ _ => trivial)⟩ rfl hn hsz hst (lv_room hrest) hdg hf) (fun r hr => by subst hr; exact kk)
theorem k_riS {r0 : Int32} (S : CallFix p m c cc nL s args wsL_law own) (hM : Met l y (wy_ y bytes maxL ret) rm (kPc D ty wc H.size As) (kRi r0) 0 0 noF) (hlk : KS own index y bytes maxL ret n) (hrc : rm.cells = 0) (hrs : rm.slots = 0) (hR : rm.frames + 1 ≤ R.frames ∧ 8 + (maxL + 11) + rm.locals ≤ R.locals)
    (hK : va_K D vwCl ty s) (hE : kEn s) (hP : va_P D vwCl wc H) (hD : va_D A0 wc) (hn : As.length = n) (hsz : ls.size = nL) (hst : st0 = As.reverse ++ rest) (hrest : (rest.map fun v => v.category).sum ≤ 8)
    (hdg : decode cc pc = .ok (.invokestatic index, 3)) (hf : cells ≤ R.cells ∧ slots ≤ R.slots)
    (kk : W p l e R s m args below meth c H locs cells slots Q (F0 m (pc + 3) ls (.int r0 :: rest))) : W p l e R s m args below meth c H locs cells slots Q (F0 m pc ls st0) :=
  vp_callSi (W.runS S hM (k_cS S.2.2.2.2 hlk hrc hrs hR) ⟨kPc_blind, kPc_at hK hE hP (hD.weaken fun _ _ _ _ => trivial)⟩ rfl hn hsz hst (lv_room hrest) hdg hf) (fun r hr => by subst hr; exact kk)
/-- a call of a method that only reads and answers a long -/
theorem k_rlV {r0 : Int64} (S : CallFix p m c cc nL s args wsL_law own) (hM : Met l y (wy_ y bytes maxL ret) rm (kPc D ty wc H.size (.ref b :: As)) (kRl r0) 0 0 noF) (hlk : KV own index C y bytes maxL ret n) (hrc : rm.cells = 0) (hrs : rm.slots = 0) (hR : rm.frames + 1 ≤ R.frames ∧ 8 + (maxL + 11) + rm.locals ≤ R.locals)
    (hrv : ∃ cell : Cell, H[b]? = some cell ∧ cell.vm.isStatics = false ∧ s.vm.findClass C = some cell.cls) (hK : va_K D vwCl ty s) (hE : kEn s) (hP : va_P D vwCl wc H) (hD : va_D A0 wc) (hn : As.length = n) (hsz : ls.size = nL) (hst : st0 = As.reverse ++ .ref b :: rest) (hrest : (rest.map fun v => v.category).sum ≤ 8)
    (hdg : decode cc pc = .ok (.invokevirtual index, 3)) (hf : cells ≤ R.cells ∧ slots ≤ R.slots)
    (kk : W p l e R s m args below meth c H locs cells slots Q (F0 m (pc + 3) ls (.long r0 :: rest))) : W p l e R s m args below meth c H locs cells slots Q (F0 m pc ls st0) :=
  vp_callSl (W.runV S hM (k_cV S.2.2.2.2 hlk hrc hrs hR) ⟨kPc_blind, hrv, kPc_at hK hE hP (hD.weaken fun _ _ _ _ => trivial)⟩ rfl hn hsz hst (lv_room hrest) hdg hf) (fun r hr => by subst hr; exact kk)
theorem k_rlS {r0 : Int64} (S : CallFix p m c cc nL s args wsL_law own) (hM : Met l y (wy_ y bytes maxL ret) rm (kPc D ty wc H.size As) (kRl r0) 0 0 noF) (hlk : KS own index y bytes maxL ret n) (hrc : rm.cells = 0) (hrs : rm.slots = 0) (hR : rm.frames + 1 ≤ R.frames ∧ 8 + (maxL + 11) + rm.locals ≤ R.locals)
    (hK : va_K D vwCl ty s) (hE : kEn s) (hP : va_P D vwCl wc H) (hD : va_D A0 wc) (hn : As.length = n) (hsz : ls.size = nL) (hst : st0 = As.reverse ++ rest) (hrest : (rest.map fun v => v.category).sum ≤ 8)
    (hdg : decode cc pc = .ok (.invokestatic index, 3)) (hf : cells ≤ R.cells ∧ slots ≤ R.slots)
    (kk : W p l e R s m args below meth c H locs cells slots Q (F0 m (pc + 3) ls (.long r0 :: rest))) : W p l e R s m args below meth c H locs cells slots Q (F0 m pc ls st0) :=
  vp_callSl (W.runS S hM (k_cS S.2.2.2.2 hlk hrc hrs hR) ⟨kPc_blind, kPc_at hK hE hP (hD.weaken fun _ _ _ _ => trivial)⟩ rfl hn hsz hst (lv_room hrest) hdg hf) (fun r hr => by subst hr; exact kk)
/-- a call of a method that only reads and answers a double -/
theorem k_rdV {r0 : UInt64} (S : CallFix p m c cc nL s args wsL_law own) (hM : Met l y (wy_ y bytes maxL ret) rm (kPc D ty wc H.size (.ref b :: As)) (kRd r0) 0 0 noF) (hlk : KV own index C y bytes maxL ret n) (hrc : rm.cells = 0) (hrs : rm.slots = 0) (hR : rm.frames + 1 ≤ R.frames ∧ 8 + (maxL + 11) + rm.locals ≤ R.locals)
    (hrv : ∃ cell : Cell, H[b]? = some cell ∧ cell.vm.isStatics = false ∧ s.vm.findClass C = some cell.cls) (hK : va_K D vwCl ty s) (hE : kEn s) (hP : va_P D vwCl wc H) (hD : va_D A0 wc) (hn : As.length = n) (hsz : ls.size = nL) (hst : st0 = As.reverse ++ .ref b :: rest) (hrest : (rest.map fun v => v.category).sum ≤ 8)
    (hdg : decode cc pc = .ok (.invokevirtual index, 3)) (hf : cells ≤ R.cells ∧ slots ≤ R.slots)
    (kk : W p l e R s m args below meth c H locs cells slots Q (F0 m (pc + 3) ls (.double r0 :: rest))) : W p l e R s m args below meth c H locs cells slots Q (F0 m pc ls st0) :=
  vp_callSd (W.runV S hM (k_cV S.2.2.2.2 hlk hrc hrs hR) ⟨kPc_blind, hrv, kPc_at hK hE hP (hD.weaken fun _ _ _ _ => trivial)⟩ rfl hn hsz hst (lv_room hrest) hdg hf) (fun r hr => by subst hr; exact kk)
theorem k_rdS {r0 : UInt64} (S : CallFix p m c cc nL s args wsL_law own) (hM : Met l y (wy_ y bytes maxL ret) rm (kPc D ty wc H.size As) (kRd r0) 0 0 noF) (hlk : KS own index y bytes maxL ret n) (hrc : rm.cells = 0) (hrs : rm.slots = 0) (hR : rm.frames + 1 ≤ R.frames ∧ 8 + (maxL + 11) + rm.locals ≤ R.locals)
    (hK : va_K D vwCl ty s) (hE : kEn s) (hP : va_P D vwCl wc H) (hD : va_D A0 wc) (hn : As.length = n) (hsz : ls.size = nL) (hst : st0 = As.reverse ++ rest) (hrest : (rest.map fun v => v.category).sum ≤ 8)
    (hdg : decode cc pc = .ok (.invokestatic index, 3)) (hf : cells ≤ R.cells ∧ slots ≤ R.slots)
    (kk : W p l e R s m args below meth c H locs cells slots Q (F0 m (pc + 3) ls (.double r0 :: rest))) : W p l e R s m args below meth c H locs cells slots Q (F0 m pc ls st0) :=
  vp_callSd (W.runS S hM (k_cS S.2.2.2.2 hlk hrc hrs hR) ⟨kPc_blind, kPc_at hK hE hP (hD.weaken fun _ _ _ _ => trivial)⟩ rfl hn hsz hst (lv_room hrest) hdg hf) (fun r hr => by subst hr; exact kk)
/-- a static method of a nest mate that only reads -/
theorem va_toCR {mc ms : Nat} {g : JFrame} {Qa : State → Outcome → State → Prop} {free : Addr → Prop} (h : va_Run p l e R s m args below meth c H locs cells slots mc ms g rest Qa free) : CallRun p l e R s m args below meth c H locs cells slots mc ms g rest Qa free := fun T hT X => by
  obtain ⟨v, st₀, t, T', L, h0, X', hL, e1, e2, hq, st⟩ := h T hT X
  exact ⟨v, st₀, t, T', L, h0, X', hL, e1, hq, st⟩
theorem k_cN {own host : String} {index maxL n mc ms : Nat} {y : MethodName} {bytes : ByteArray} {ret : Option FieldType} {rm : Room} (hts : ∀ w ∈ wsL_law, w.before args s = true) (hl : va_Nw (.methodLinkNest own index y host) s) (h2 : Cond.initialized y.cls ∈ wsL_law) (h3 : Cond.code y bytes maxL ret ∈ wsL_law) (hy : KY y n) (hrc : rm.cells = mc) (hrs : rm.slots = ms) (hR : rm.frames + 1 ≤ R.frames ∧ 8 + (maxL + 11) + rm.locals ≤ R.locals) :
    va_CN R s args own index y host bytes maxL ret (wy_ y bytes maxL ret) rm mc ms n := by
  refine ⟨⟨hrc, hrs, hR.1, hR.2, fun w hw a' U hW => ?_, List.mem_cons_self⟩, hts _ h3, hts _ h2, ⟨hy.1, hy.2.1⟩, fun sig h => ?_, va_Nw.use rfl hl⟩
  · rcases List.mem_cons.mp hw with rfl | hw
    · exact wl_pay hts _ h3 a' U hW
    · exact wl_pay hts _ hw a' U hW
  · have h2 := hy.2.2
    rw [h] at h2
    exact (Option.some.inj h2).symm
theorem k_riN {host : String} {r0 : Int32} (S : CallFix p m c cc nL s args wsL_law own) (hM : Met l y (wy_ y bytes maxL ret) rm (kPc D ty wc H.size As) (kRi r0) 0 0 noF) (hl : va_Nw (.methodLinkNest own index y host) s) (h2 : Cond.initialized y.cls ∈ wsL_law) (h3 : Cond.code y bytes maxL ret ∈ wsL_law) (h4 : Cond.static y ∈ wsL_law) (hy : KY y n) (hrc : rm.cells = 0) (hrs : rm.slots = 0) (hR : rm.frames + 1 ≤ R.frames ∧ 8 + (maxL + 11) + rm.locals ≤ R.locals)
    (hK : va_K D vwCl ty s) (hE : kEn s) (hP : va_P D vwCl wc H) (hD : va_D A0 wc) (hn : As.length = n) (hsz : ls.size = nL) (hst : st0 = As.reverse ++ rest) (hrest : (rest.map fun v => v.category).sum ≤ 8)
    (hdg : decode cc pc = .ok (.invokestatic index, 3)) (hf : cells ≤ R.cells ∧ slots ≤ R.slots)
    (kk : W p l e R s m args below meth c H locs cells slots Q (F0 m (pc + 3) ls (.int r0 :: rest))) : W p l e R s m args below meth c H locs cells slots Q (F0 m pc ls st0) :=
  vp_callSi (va_toCR (va_runSN S hM ⟨k_cN S.2.2.2.2 hl h2 h3 hy hrc hrs hR, S.2.2.2.2 _ h4, trivial⟩ ⟨kPc_blind, kPc_at hK hE hP (hD.weaken fun _ _ _ _ => trivial)⟩ rfl hn hsz hst (lv_room hrest) hdg hf)) (fun r hr => by subst hr; exact kk)
/-- a call of a method that writes its world and answers an int -/
theorem k_miV {r0 : Int32} (S : CallFix p m c cc nL s args wsL_law own) (hM : Met l y (wy_ y bytes maxL ret) rm (kPc D ty wc H.size (.ref b :: As)) (kMi D wc wc' H.size r0) 0 0 (va_A wc H.size)) (hlk : KV own index C y bytes maxL ret n) (hrc : rm.cells = 0) (hrs : rm.slots = 0) (hR : rm.frames + 1 ≤ R.frames ∧ 8 + (maxL + 11) + rm.locals ≤ R.locals)
    (hrv : ∃ cell : Cell, H[b]? = some cell ∧ cell.vm.isStatics = false ∧ s.vm.findClass C = some cell.cls) (hK : va_K D vwCl ty s) (hE : kEn s) (hP : va_P D vwCl (w1 ++ (wc ++ w3)) H) (hD : va_D A0 (w1 ++ (wc ++ w3))) (hS : va_S A0 H0 H locs) (hA : ∀ q, H0.size ≤ q → A0 q) (ha : wc'.map Prod.fst = wc.map Prod.fst)
    (hn : As.length = n) (hsz : ls.size = nL) (hst : st0 = As.reverse ++ .ref b :: rest) (hrest : (rest.map fun v => v.category).sum ≤ 8)
    (hdg : decode cc pc = .ok (.invokevirtual index, 3)) (hf : cells ≤ R.cells ∧ slots ≤ R.slots)
    (kk : ∀ (H1 : Heap) (locs1 : List Loc), H.size ≤ H1.size → va_P D vwCl (w1 ++ (wc' ++ w3)) H1 → va_D A0 (w1 ++ (wc' ++ w3)) → va_S A0 H0 H1 locs1 → W p l e R s m args below meth c H1 locs1 cells slots Q (F0 m (pc + 3) ls (.int r0 :: rest))) : W p l e R s m args below meth c H locs cells slots Q (F0 m pc ls st0) := by
  have hF := k_free hD hS hA
  refine va_calli (va_runV S hM (k_cV S.2.2.2.2 hlk hrc hrs hR) ⟨kPc_blind, hrv, kPc_at hK hE (va_P_midL hP) ((va_D_midL hD).weaken fun _ _ _ _ => trivial)⟩ rfl hn hsz hst (lv_room hrest) hdg hf) hS (fun q _ h => hF q h) hF (fun r u t H1 locs1 ht _ hr hB hz hk hS1 => ?_)
  subst hr
  rw [ht] at hB
  obtain ⟨h1, h2⟩ := k_join hP hD ha hk hB
  exact kk H1 locs1 hz h1 h2 hS1
theorem k_mlV {r0 : Int64} (S : CallFix p m c cc nL s args wsL_law own) (hM : Met l y (wy_ y bytes maxL ret) rm (kPc D ty wc H.size (.ref b :: As)) (kMl D wc wc' H.size r0) 0 0 (va_A wc H.size)) (hlk : KV own index C y bytes maxL ret n) (hrc : rm.cells = 0) (hrs : rm.slots = 0) (hR : rm.frames + 1 ≤ R.frames ∧ 8 + (maxL + 11) + rm.locals ≤ R.locals)
    (hrv : ∃ cell : Cell, H[b]? = some cell ∧ cell.vm.isStatics = false ∧ s.vm.findClass C = some cell.cls) (hK : va_K D vwCl ty s) (hE : kEn s) (hP : va_P D vwCl (w1 ++ (wc ++ w3)) H) (hD : va_D A0 (w1 ++ (wc ++ w3))) (hS : va_S A0 H0 H locs) (hA : ∀ q, H0.size ≤ q → A0 q) (ha : wc'.map Prod.fst = wc.map Prod.fst)
    (hn : As.length = n) (hsz : ls.size = nL) (hst : st0 = As.reverse ++ .ref b :: rest) (hrest : (rest.map fun v => v.category).sum ≤ 8)
    (hdg : decode cc pc = .ok (.invokevirtual index, 3)) (hf : cells ≤ R.cells ∧ slots ≤ R.slots)
    (kk : ∀ (H1 : Heap) (locs1 : List Loc), H.size ≤ H1.size → va_P D vwCl (w1 ++ (wc' ++ w3)) H1 → va_D A0 (w1 ++ (wc' ++ w3)) → va_S A0 H0 H1 locs1 → W p l e R s m args below meth c H1 locs1 cells slots Q (F0 m (pc + 3) ls (.long r0 :: rest))) : W p l e R s m args below meth c H locs cells slots Q (F0 m pc ls st0) := by
  have hF := k_free hD hS hA
  refine va_calll (va_runV S hM (k_cV S.2.2.2.2 hlk hrc hrs hR) ⟨kPc_blind, hrv, kPc_at hK hE (va_P_midL hP) ((va_D_midL hD).weaken fun _ _ _ _ => trivial)⟩ rfl hn hsz hst (lv_room hrest) hdg hf) hS (fun q _ h => hF q h) hF (fun r u t H1 locs1 ht _ hr hB hz hk hS1 => ?_)
  subst hr
  rw [ht] at hB
  obtain ⟨h1, h2⟩ := k_join hP hD ha hk hB
  exact kk H1 locs1 hz h1 h2 hS1
theorem k_mvV (S : CallFix p m c cc nL s args wsL_law own) (hM : Met l y (wy_ y bytes maxL ret) rm (kPc D ty wc H.size (.ref b :: As)) (kMv D wc wc' H.size) 0 0 (va_A wc H.size)) (hlk : KV own index C y bytes maxL ret n) (hrc : rm.cells = 0) (hrs : rm.slots = 0) (hR : rm.frames + 1 ≤ R.frames ∧ 8 + (maxL + 11) + rm.locals ≤ R.locals)
    (hrv : ∃ cell : Cell, H[b]? = some cell ∧ cell.vm.isStatics = false ∧ s.vm.findClass C = some cell.cls) (hK : va_K D vwCl ty s) (hE : kEn s) (hP : va_P D vwCl (w1 ++ (wc ++ w3)) H) (hD : va_D A0 (w1 ++ (wc ++ w3))) (hS : va_S A0 H0 H locs) (hA : ∀ q, H0.size ≤ q → A0 q) (ha : wc'.map Prod.fst = wc.map Prod.fst)
    (hn : As.length = n) (hsz : ls.size = nL) (hst : st0 = As.reverse ++ .ref b :: rest) (hrest : (rest.map fun v => v.category).sum ≤ 8)
    (hdg : decode cc pc = .ok (.invokevirtual index, 3)) (hf : cells ≤ R.cells ∧ slots ≤ R.slots)
    (kk : ∀ (H1 : Heap) (locs1 : List Loc), H.size ≤ H1.size → va_P D vwCl (w1 ++ (wc' ++ w3)) H1 → va_D A0 (w1 ++ (wc' ++ w3)) → va_S A0 H0 H1 locs1 → W p l e R s m args below meth c H1 locs1 cells slots Q (F0 m (pc + 3) ls rest)) : W p l e R s m args below meth c H locs cells slots Q (F0 m pc ls st0) := by
  have hF := k_free hD hS hA
  refine va_callv (va_runV S hM (k_cV S.2.2.2.2 hlk hrc hrs hR) ⟨kPc_blind, hrv, kPc_at hK hE (va_P_midL hP) ((va_D_midL hD).weaken fun _ _ _ _ => trivial)⟩ rfl hn hsz hst (lv_room hrest) hdg hf) hS (fun q _ h => hF q h) hF (fun u t H1 locs1 ht _ hr hB hz hk hS1 => ?_)
  rw [ht] at hB
  obtain ⟨h1, h2⟩ := k_join hP hD ha hk hB
  exact kk H1 locs1 hz h1 h2 hS1
/-- ends -/
theorem k_eRi {r0 v : Int32} (hexec : p.tables.exec = Jvm.exec) (hb : c.code = cc) (hr : meth.sig.returnType = some .int) (hlocks : meth.locks = false) (hv : v = r0) (hdg : decode cc pc = .ok (.ireturn, 1)) :
    W p l e R s m args below meth c s.heap [] cells slots (MQ below (kRi r0) args s cells slots noF) (F0 m pc ls [.int v]) :=
  W.iret hexec hb hr (fun _ ht _ => ⟨v, rfl, hv, ht⟩) (fun _ h => absurd h List.not_mem_nil) hdg
theorem k_eRz {r0 v : Int32} {tz : FieldType} (hexec : p.tables.exec = Jvm.exec) (hb : c.code = cc) (hr : meth.sig.returnType = some tz) (hlocks : meth.locks = false) (hz : narrow tz (.int v) = .int v) (hv : v = r0) (hdg : decode cc pc = .ok (.ireturn, 1)) :
    W p l e R s m args below meth c s.heap [] cells slots (MQ below (kRi r0) args s cells slots noF) (F0 m pc ls [.int v]) :=
  W.zret hexec hb hr hz (fun _ ht _ => ⟨v, rfl, hv, ht⟩) (fun _ h => absurd h List.not_mem_nil) hdg
theorem k_eRl {r0 v : Int64} (hexec : p.tables.exec = Jvm.exec) (hb : c.code = cc) (hr : meth.sig.returnType = some .long) (hlocks : meth.locks = false) (hv : v = r0) (hdg : decode cc pc = .ok (.lreturn, 1)) :
    W p l e R s m args below meth c s.heap [] cells slots (MQ below (kRl r0) args s cells slots noF) (F0 m pc ls [.long v]) :=
  W.lret hexec hb hr (fun _ ht _ => ⟨v, rfl, hv, ht⟩) (fun _ h => absurd h List.not_mem_nil) hdg
theorem k_eRd {r0 v : UInt64} (hexec : p.tables.exec = Jvm.exec) (hb : c.code = cc) (hr : meth.sig.returnType = some .double) (hlocks : meth.locks = false) (hv : v = r0) (hdg : decode cc pc = .ok (.dreturn, 1)) :
    W p l e R s m args below meth c s.heap [] cells slots (MQ below (kRd r0) args s cells slots noF) (F0 m pc ls [.double v]) :=
  W.dret hexec hb hr (fun _ ht _ => ⟨v, rfl, hv, ht⟩) (fun _ h => absurd h List.not_mem_nil) hdg
theorem k_eMi {r0 v : Int32} (hexec : p.tables.exec = Jvm.exec) (hb : c.code = cc) (hr : meth.sig.returnType = some .int) (hlocks : meth.locks = false) (hP : va_P D vwCl wc' H) (hS : va_S (va_A wc s.heap.size) s.heap H locs) (hv : v = r0) (hdg : decode cc pc = .ok (.ireturn, 1)) :
    W p l e R s m args below meth c H locs cells slots (MQ below (kMi D wc wc' s.heap.size r0) args s cells slots (va_A wc s.heap.size)) (F0 m pc ls [.int v]) :=
  W.iret hexec hb hr (fun t ht _ => ⟨⟨v, (), rfl, hv, (show va_P D vwCl wc' t.heap by rw [ht]; exact hP)⟩, hS.F ht⟩) hS.2.2 hdg
theorem k_eMz {r0 v : Int32} {tz : FieldType} (hexec : p.tables.exec = Jvm.exec) (hb : c.code = cc) (hr : meth.sig.returnType = some tz) (hlocks : meth.locks = false) (hz : narrow tz (.int v) = .int v) (hP : va_P D vwCl wc' H) (hS : va_S (va_A wc s.heap.size) s.heap H locs) (hv : v = r0) (hdg : decode cc pc = .ok (.ireturn, 1)) :
    W p l e R s m args below meth c H locs cells slots (MQ below (kMi D wc wc' s.heap.size r0) args s cells slots (va_A wc s.heap.size)) (F0 m pc ls [.int v]) :=
  W.zret hexec hb hr hz (fun t ht _ => ⟨⟨v, (), rfl, hv, (show va_P D vwCl wc' t.heap by rw [ht]; exact hP)⟩, hS.F ht⟩) hS.2.2 hdg
theorem k_eMl {r0 v : Int64} (hexec : p.tables.exec = Jvm.exec) (hb : c.code = cc) (hr : meth.sig.returnType = some .long) (hlocks : meth.locks = false) (hP : va_P D vwCl wc' H) (hS : va_S (va_A wc s.heap.size) s.heap H locs) (hv : v = r0) (hdg : decode cc pc = .ok (.lreturn, 1)) :
    W p l e R s m args below meth c H locs cells slots (MQ below (kMl D wc wc' s.heap.size r0) args s cells slots (va_A wc s.heap.size)) (F0 m pc ls [.long v]) :=
  W.lret hexec hb hr (fun t ht _ => ⟨⟨v, (), rfl, hv, (show va_P D vwCl wc' t.heap by rw [ht]; exact hP)⟩, hS.F ht⟩) hS.2.2 hdg
theorem k_eMv (hexec : p.tables.exec = Jvm.exec) (hb : c.code = cc) (hr : meth.sig.returnType = none) (hlocks : meth.locks = false) (hP : va_P D vwCl wc' H) (hS : va_S (va_A wc s.heap.size) s.heap H locs) (hdg : decode cc pc = .ok (.return_, 1)) :
    W p l e R s m args below meth c H locs cells slots (MQ below (kMv D wc wc' s.heap.size) args s cells slots (va_A wc s.heap.size)) (F0 m pc ls []) :=
  W.vret hexec hb hr (fun t ht _ => ⟨⟨(), rfl, trivial, (show va_P D vwCl wc' t.heap by rw [ht]; exact hP)⟩, hS.F ht⟩) hS.2.2 hdg
end KROW
theorem va_S_self {A : Nat → Prop} {H : Heap} : va_S A H H [] := va_S.rf
/-- a contract out of a walk from its entry -/
theorem k_ofW {l : Launch} {y : MethodName} {rm : Room} {D : va_G} {ty : List (ClassId × FieldType)} {wc : va_W} {sz : Nat} {av : List Value} {Qc : Array Value → State → Outcome → State → Prop} {mc ms : Nat} {free : Addr → Prop} {cc : ByteArray} {maxL : Nat} {ret : Option FieldType}
    (hy : plainName y.cls = true) (hlen : (lg_sl av).length ≤ maxL)
    (body : ∀ (p : Program) (e : Env) (s : State) (m : MethodId) (args : Array Value) (below : List Frame) (meth : Method) (c : Code), p.tables.exec = Jvm.exec → c.code = cc → meth.sig.returnType = ret → c.maxLocals = maxL → (∀ w ∈ wsL_law, w.before args s = true) → s.vm.findClass y.cls = some m.cls → meth.locks = false → meth.name = y.name →
      s.heap.size = sz → va_P D vwCl wc s.heap → va_K D vwCl ty s → va_D (va_A wc sz) wc → kEn s → ∀ ls : Array Slot, lv_has ls maxL (lv_args 0 av) → W p l e rm s m args below meth c s.heap [] 0 0 (MQ below Qc args s mc ms free) (F0 m 0 ls [])) : Met l y (wy_ y cc maxL ret) rm (kPc D ty wc sz av) Qc mc ms free := by
  refine Met.ofW (cc := cc) (maxL := maxL) (ret := ret) hy rfl ?_
  intro p e s m args below meth c s₁ B hml hv
  obtain ⟨rfl, hsz, hP, hK, hD, hE⟩ := hv
  rw [lg_entry_eq]
  exact body p e s m _ below meth c B.exec B.bytes B.returns hml (fun w hw => atoms_spec (ws := wy_ y cc maxL ret) B.pre w (List.mem_cons_of_mem _ hw)) (findClass_of_methodNamed B.named) B.notSynchronized (name_of_methodNamed B.named B.method).1 hsz hP hK hD.self hE _ (lv_entry av hlen)
