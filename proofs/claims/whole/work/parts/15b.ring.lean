/-! the ring of saved stations: worlds in another order, a read of a row of references, a call over two stations that lie apart -/
def updN (R : Nat → NN) (q : Nat) (N : NN) : Nat → NN := fun j => cond (Nat.beq j q) N (R j)
def rgW (cI : ClassId) (r : Nat → Nat → Nat) (R : Nat → NN) (u : Nat → Nat → Int32) : va_W := stW cI (r 0) (R 0) (u 0) ++ (stW cI (r 1) (R 1) (u 1) ++ (stW cI (r 2) (R 2) (u 2) ++ (stW cI (r 3) (R 3) (u 3) ++ (stW cI (r 4) (R 4) (u 4) ++ (stW cI (r 5) (R 5) (u 5))))))
def p_nx (q : Nat) : Nat := cond (Nat.beq q 5) 0 (q + 1)
def p_pv (q : Nat) : Nat := cond (Nat.beq q 0) 5 (q - 1)
theorem va_P_perm {D : va_G} {cl : List vw_C} {ws ws' : va_W} {H : Heap} (h : ws.Perm ws') (hP : va_P D cl ws H) : va_P D cl ws' H := va_P_of_mem fun _ hq => va_P_mem hP (h.mem_iff.mpr hq)
theorem va_D_nd {A : Nat → Prop} {ws : va_W} (h : va_D A ws) : (ws.map Prod.fst).Nodup := by
  rw [List.nodup_iff_pairwise_ne, List.pairwise_iff_getElem]
  intro i j hi hj hij he
  rw [List.length_map] at hi hj
  have h1 := h.1 i j ws[i] ws[j] (List.getElem?_eq_getElem hi) (List.getElem?_eq_getElem hj) (by simpa using he)
  omega
theorem va_D_of {A : Nat → Prop} {ws : va_W} (h : (ws.map Prod.fst).Nodup) (hA : ∀ q ∈ ws, A q.1) : va_D A ws := by
  refine ⟨fun i j p q hi hj he => ?_, fun k q hk => hA q (List.mem_of_getElem? hk)⟩
  have hil := (List.getElem?_eq_some_iff.mp hi).1
  have hjl := (List.getElem?_eq_some_iff.mp hj).1
  have e1 : (ws.map Prod.fst)[i]? = some p.1 := by rw [List.getElem?_map, hi]; rfl
  have e2 : (ws.map Prod.fst)[j]? = some q.1 := by rw [List.getElem?_map, hj]; rfl
  have hil' : i < (ws.map Prod.fst).length := by rw [List.length_map]; exact hil
  exact (List.getElem?_inj hil' h).mp (by rw [e1, e2, he])
theorem va_D_all {A : Nat → Prop} {ws : va_W} (h : va_D A ws) : ∀ q ∈ ws, A q.1 := fun q hq => by
  obtain ⟨k, hk⟩ := List.getElem?_of_mem hq
  exact h.2 k q hk
theorem va_D_perm {A : Nat → Prop} {ws ws' : va_W} (h : ws.Perm ws') (hD : va_D A ws) : va_D A ws' :=
  va_D_of ((h.map Prod.fst).nodup_iff.mp (va_D_nd hD)) fun q hq => va_D_all hD q (h.mem_iff.mpr hq)
section PM
variable {α : Type} (A B S r0 r1 r2 r3 r4 r5 : List α)
theorem pm_0 : (A ++ (B ++ (S ++ (r0 ++ (r1 ++ (r2 ++ (r3 ++ (r4 ++ r5)))))))).Perm ((S ++ r0) ++ (A ++ (B ++ (r1 ++ (r2 ++ (r3 ++ (r4 ++ r5))))))) := by
  classical
  exact List.perm_iff_count.mpr fun z => by simp only [List.count_append]; omega
theorem pm_1 : (A ++ (B ++ (S ++ (r0 ++ (r1 ++ (r2 ++ (r3 ++ (r4 ++ r5)))))))).Perm ((S ++ r1) ++ (A ++ (B ++ (r0 ++ (r2 ++ (r3 ++ (r4 ++ r5))))))) := by
  classical
  exact List.perm_iff_count.mpr fun z => by simp only [List.count_append]; omega
theorem pm_2 : (A ++ (B ++ (S ++ (r0 ++ (r1 ++ (r2 ++ (r3 ++ (r4 ++ r5)))))))).Perm ((S ++ r2) ++ (A ++ (B ++ (r0 ++ (r1 ++ (r3 ++ (r4 ++ r5))))))) := by
  classical
  exact List.perm_iff_count.mpr fun z => by simp only [List.count_append]; omega
theorem pm_3 : (A ++ (B ++ (S ++ (r0 ++ (r1 ++ (r2 ++ (r3 ++ (r4 ++ r5)))))))).Perm ((S ++ r3) ++ (A ++ (B ++ (r0 ++ (r1 ++ (r2 ++ (r4 ++ r5))))))) := by
  classical
  exact List.perm_iff_count.mpr fun z => by simp only [List.count_append]; omega
theorem pm_4 : (A ++ (B ++ (S ++ (r0 ++ (r1 ++ (r2 ++ (r3 ++ (r4 ++ r5)))))))).Perm ((S ++ r4) ++ (A ++ (B ++ (r0 ++ (r1 ++ (r2 ++ (r3 ++ r5))))))) := by
  classical
  exact List.perm_iff_count.mpr fun z => by simp only [List.count_append]; omega
theorem pm_5 : (A ++ (B ++ (S ++ (r0 ++ (r1 ++ (r2 ++ (r3 ++ (r4 ++ r5)))))))).Perm ((S ++ r5) ++ (A ++ (B ++ (r0 ++ (r1 ++ (r2 ++ (r3 ++ r4))))))) := by
  classical
  exact List.perm_iff_count.mpr fun z => by simp only [List.count_append]; omega
theorem pm_sw (C : List α) : ((A ++ B) ++ C).Perm ((B ++ A) ++ C) := by
  classical
  exact List.perm_iff_count.mpr fun z => by simp only [List.count_append]; omega
end PM
section KRG
variable {p : Program} {l : Launch} {e : Env} {R : Room} {s : State} {m : MethodId} {args : Array Value} {below : List Frame} {meth : Method} {c : Code} {H : Heap} {locs : List Loc} {cells slots : Nat} {Q : State → Prop}
variable {cc bytes : ByteArray} {pc nL maxL n index : Nat} {ls : Array Slot} {rest st0 As : List Value} {D : va_G} {A0 : Nat → Prop} {a b : Nat} {ty : List (ClassId × FieldType)} {wc wc' w3 ws ws' : va_W} {H0 : Heap} {y : MethodName} {own C : String} {ret : Option FieldType} {rm : Room}
/-- a read of a row of references, none of them null -/
theorem k_aldr (hexec : p.tables.exec = Jvm.exec) (hb : c.code = cc) (hK : va_K D vwCl ty s) (hP : va_P D vwCl ws H) (q0 t0 : Nat) {cA : ClassId} {E : String} {N k : Nat} {f : Nat → Nat} {i : Int32} (ha : ws[q0]? = some (a, .inl (cA, N, .inr (.inr (.inr (.inr (fun j => some (f j)))))))) (ht : ty[t0]? = some (cA, .object E)) (hi : i = nI k) (hk : k < N) (hN : N < 2 ^ 31) (hdg : decode cc pc = .ok (.aaload, 1))
    (kk : W p l e R s m args below meth c H locs cells slots Q (F0 m (pc + 1) ls (.ref (f k) :: rest))) : W p l e R s m args below meth c H locs cells slots Q (F0 m pc ls (.int i :: .ref a :: rest)) := by
  subst hi
  refine va_aldq hexec hb hK hP q0 t0 ha ht (vp_in_nI hk hN) hdg ?_
  rw [nI_clamp (by omega)]
  exact kk
theorem k_mvP (h1 : ws.Perm (wc ++ w3)) (h2 : ws'.Perm (wc' ++ w3)) (S : CallFix p m c cc nL s args wsL_law own) (hM : Met l y (wy_ y bytes maxL ret) rm (kPc D ty wc H.size (.ref b :: As)) (kMv D wc wc' H.size) 0 0 (va_A wc H.size)) (hlk : KV own index C y bytes maxL ret n) (hrc : rm.cells = 0) (hrs : rm.slots = 0) (hR : rm.frames + 1 ≤ R.frames ∧ 8 + (maxL + 11) + rm.locals ≤ R.locals)
    (hrv : ∃ cell : Cell, H[b]? = some cell ∧ cell.vm.isStatics = false ∧ s.vm.findClass C = some cell.cls) (hK : va_K D vwCl ty s) (hE : kEn s) (hP : va_P D vwCl ws H) (hD : va_D A0 ws) (hS : va_S A0 H0 H locs) (hA : ∀ q, H0.size ≤ q → A0 q) (ha : wc'.map Prod.fst = wc.map Prod.fst)
    (hn : As.length = n) (hsz : ls.size = nL) (hst : st0 = As.reverse ++ .ref b :: rest) (hrest : (rest.map fun v => v.category).sum ≤ 8)
    (hdg : decode cc pc = .ok (.invokevirtual index, 3)) (hf : cells ≤ R.cells ∧ slots ≤ R.slots)
    (kk : ∀ (H1 : Heap) (locs1 : List Loc), H.size ≤ H1.size → va_P D vwCl ws' H1 → va_D A0 ws' → va_S A0 H0 H1 locs1 → W p l e R s m args below meth c H1 locs1 cells slots Q (F0 m (pc + 3) ls rest)) : W p l e R s m args below meth c H locs cells slots Q (F0 m pc ls st0) :=
  k_mvV (w1 := []) (wc := wc) (wc' := wc') (w3 := w3) S hM hlk hrc hrs hR hrv hK hE (va_P_perm h1 hP) (va_D_perm h1 hD) hS hA ha hn hsz hst hrest hdg hf (fun H1 locs1 hz g1 g2 g3 => kk H1 locs1 hz (va_P_perm h2.symm g1) (va_D_perm h2.symm g2) g3)
end KRG
