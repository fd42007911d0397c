/-! the ring of saved stations: worlds in another order, a read of a row of references, a call over two stations that lie apart -/
def updN (R : Nat → NN) (q : Nat) (N : NN) : Nat → NN := fun j => cond (Nat.beq j q) N (R j)
def rgW (cI : ClassId) (r : Nat → Nat → Nat) (R : Nat → NN) (u : Nat → Nat → Int32) : va_W := stW cI (r 0) (R 0) (u 0) ++ (stW cI (r 1) (R 1) (u 1) ++ (stW cI (r 2) (R 2) (u 2) ++ (stW cI (r 3) (R 3) (u 3) ++ (stW cI (r 4) (R 4) (u 4) ++ (stW cI (r 5) (R 5) (u 5))))))
def p_nx (q : Nat) : Nat := cond (Nat.beq q 5) 0 (q + 1)
def p_pv (q : Nat) : Nat := cond (Nat.beq q 0) 5 (q - 1)
theorem va_P_perm {D : va_G} {cl : List vw_C} {ws ws' : va_W} {H : Heap} (h : ws.Perm ws') (hP : va_P D cl ws H) : va_P D cl ws' H := va_P_of_mem fun _ hq => va_P_mem hP (h.mem_iff.mpr hq)
theorem va_D_nd {A : Nat → Prop} {ws : va_W} (h : va_D A ws) : (ws.map Prod.fst).Nodup := by
  rw [List.nodup_iff_pairwise_ne, List.pairwise_iff_getElem]
  intro i j hi hj hij he
  rw [List.length_map] at hi hj
  have h1 := h.1 i j ws[i] ws[j] (List.getElem?_eq_getElem hi) (List.getElem?_eq_getElem hj) (by simpa using he)
  omega
theorem va_D_of {A : Nat → Prop} {ws : va_W} (h : (ws.map Prod.fst).Nodup) (hA : ∀ q ∈ ws, A q.1) : va_D A ws := by
  refine ⟨fun i j p q hi hj he => ?_, fun k q hk => hA q (List.mem_of_getElem? hk)⟩
  have hil := (List.getElem?_eq_some_iff.mp hi).1
  have hjl := (List.getElem?_eq_some_iff.mp hj).1
  have e1 : (ws.map Prod.fst)[i]? = some p.1 := by rw [List.getElem?_map, hi]; rfl
  have e2 : (ws.map Prod.fst)[j]? = some q.1 := by rw [List.getElem?_map, hj]; rfl
  have hil' : i < (ws.map Prod.fst).length := by rw [List.length_map]; exact hil
  exact (List.getElem?_inj hil' h).mp (by rw [e1, e2, he])
theorem va_D_all {A : Nat → Prop} {ws : va_W} (h : va_D A ws) : ∀ q ∈ ws, A q.1 := fun q hq => by
  obtain ⟨k, hk⟩ := List.getElem?_of_mem hq
  exact h.2 k q hk
theorem va_D_perm {A : Nat → Prop} {ws ws' : va_W} (h : ws.Perm ws') (hD : va_D A ws) : va_D A ws' :=
  va_D_of ((h.map Prod.fst).nodup_iff.mp (va_D_nd hD)) fun q hq => va_D_all hD q (h.mem_iff.mpr hq)
section PM
variable {α : Type}
theorem pm_j (pre Q post : List α) : (pre ++ (Q ++ post)).Perm (Q ++ (pre ++ post)) := by
  classical
  exact List.perm_iff_count.mpr fun z => by simp only [List.count_append]; omega
theorem pm_c {Q rest X : List α} (A B S : List α) (h : X.Perm (Q ++ rest)) : (A ++ (B ++ (S ++ X))).Perm ((S ++ Q) ++ (A ++ (B ++ rest))) := by
  classical
  exact List.perm_iff_count.mpr fun z => by
    have := List.perm_iff_count.mp h z
    simp only [List.count_append] at this ⊢
    omega
theorem pm_d {Q rest X : List α} (A B S : List α) (h : X.Perm (Q ++ rest)) : (A ++ (B ++ (S ++ X))).Perm ((Q ++ S) ++ (A ++ (B ++ rest))) := by
  classical
  exact List.perm_iff_count.mpr fun z => by
    have := List.perm_iff_count.mp h z
    simp only [List.count_append] at this ⊢
    omega
theorem pm_1 (a b c : List α) : (a ++ (b ++ c)).Perm (b ++ (a ++ c)) := pm_j a b c
theorem pm_2 (a b c d : List α) : (a ++ (b ++ (c ++ d))).Perm (c ++ (a ++ (b ++ d))) := by
  classical
  exact List.perm_iff_count.mpr fun z => by simp only [List.count_append]; omega
theorem pm_3 (a b c d e : List α) : (a ++ (b ++ (c ++ (d ++ e)))).Perm (d ++ (a ++ (b ++ (c ++ e)))) := by
  classical
  exact List.perm_iff_count.mpr fun z => by simp only [List.count_append]; omega
theorem pm_4 (a b c d e f : List α) : (a ++ (b ++ (c ++ (d ++ (e ++ f))))).Perm (e ++ (a ++ (b ++ (c ++ (d ++ f))))) := by
  classical
  exact List.perm_iff_count.mpr fun z => by simp only [List.count_append]; omega
theorem pm_5 (a b c d e f : List α) : (a ++ (b ++ (c ++ (d ++ (e ++ f))))).Perm (f ++ (a ++ (b ++ (c ++ (d ++ e))))) := by
  classical
  exact List.perm_iff_count.mpr fun z => by simp only [List.count_append]; omega
end PM
/-- one station of the ring, and the others, which a change of that one leaves -/
theorem rg_perm (cI : ClassId) (r : Nat → Nat → Nat) (R : Nat → NN) (u : Nat → Nat → Int32) {j : Nat} (hj : j < 6) : ∃ rest : va_W, (rgW cI r R u).Perm (stW cI (r j) (R j) (u j) ++ rest) ∧ ∀ M : NN, (rgW cI r (updN R j M) u).Perm (stW cI (r j) M (u j) ++ rest) := by
  rcases (show j = 0 ∨ j = 1 ∨ j = 2 ∨ j = 3 ∨ j = 4 ∨ j = 5 by omega) with rfl | rfl | rfl | rfl | rfl | rfl
  · exact ⟨_, List.Perm.refl _, fun M => List.Perm.refl _⟩
  · exact ⟨_, pm_1 _ _ _, fun M => pm_1 _ _ _⟩
  · exact ⟨_, pm_2 _ _ _ _, fun M => pm_2 _ _ _ _⟩
  · exact ⟨_, pm_3 _ _ _ _ _, fun M => pm_3 _ _ _ _ _⟩
  · exact ⟨_, pm_4 _ _ _ _ _ _, fun M => pm_4 _ _ _ _ _ _⟩
  · exact ⟨_, pm_5 _ _ _ _ _ _, fun M => pm_5 _ _ _ _ _ _⟩
theorem p_nx_lt {q : Nat} (h : q < 6) : p_nx q < 6 := by
  rcases (show q = 0 ∨ q = 1 ∨ q = 2 ∨ q = 3 ∨ q = 4 ∨ q = 5 by omega) with rfl | rfl | rfl | rfl | rfl | rfl <;> decide
theorem p_nx_s {q : Nat} (h : q < 5) : p_nx q = q + 1 := by
  rcases (show q = 0 ∨ q = 1 ∨ q = 2 ∨ q = 3 ∨ q = 4 by omega) with rfl | rfl | rfl | rfl | rfl <;> rfl
theorem p_pv_s {q : Nat} (h : ¬ q = 0) : p_pv q = q - 1 := by
  unfold p_pv
  rw [show Nat.beq q 0 = false by cases q with
    | zero => exact absurd rfl h
    | succ n => rfl]
  rfl
theorem p_pv_lt {q : Nat} (h : q < 6) : p_pv q < 6 := by
  rcases (show q = 0 ∨ q = 1 ∨ q = 2 ∨ q = 3 ∨ q = 4 ∨ q = 5 by omega) with rfl | rfl | rfl | rfl | rfl | rfl <;> decide
section KRG
variable {p : Program} {l : Launch} {e : Env} {R : Room} {s : State} {m : MethodId} {args : Array Value} {below : List Frame} {meth : Method} {c : Code} {H : Heap} {locs : List Loc} {cells slots : Nat} {Q : State → Prop}
variable {cc bytes : ByteArray} {pc nL maxL n index : Nat} {ls : Array Slot} {rest st0 As : List Value} {D : va_G} {A0 : Nat → Prop} {a b : Nat} {ty : List (ClassId × FieldType)} {wc wc' w3 ws ws' : va_W} {H0 : Heap} {y : MethodName} {own C : String} {ret : Option FieldType} {rm : Room}
/-- a read of a row of references, none of them null -/
theorem k_aldr (hexec : p.tables.exec = Jvm.exec) (hb : c.code = cc) (hK : va_K D vwCl ty s) (hP : va_P D vwCl ws H) (q0 t0 : Nat) {cA : ClassId} {E : String} {N k : Nat} {f : Nat → Nat} {i : Int32} (ha : ws[q0]? = some (a, .inl (cA, N, .inr (.inr (.inr (.inr (fun j => some (f j)))))))) (ht : ty[t0]? = some (cA, .object E)) (hi : i = nI k) (hk : k < N) (hN : N < 2 ^ 31) (hdg : decode cc pc = .ok (.aaload, 1))
    (kk : W p l e R s m args below meth c H locs cells slots Q (F0 m (pc + 1) ls (.ref (f k) :: rest))) : W p l e R s m args below meth c H locs cells slots Q (F0 m pc ls (.int i :: .ref a :: rest)) := by
  subst hi
  refine va_aldq hexec hb hK hP q0 t0 ha ht (vp_in_nI hk hN) hdg ?_
  rw [nI_clamp (by omega)]
  exact kk
theorem k_mvP (h1 : ws.Perm (wc ++ w3)) (h2 : ws'.Perm (wc' ++ w3)) (S : CallFix p m c cc nL s args wsL_law own) (hM : Met l y (wy_ y bytes maxL ret) rm (kPc D ty wc H.size (.ref b :: As)) (kMv D wc wc' H.size) 0 0 (va_A wc H.size)) (hlk : KV own index C y bytes maxL ret n) (hrc : rm.cells = 0) (hrs : rm.slots = 0) (hR : rm.frames + 1 ≤ R.frames ∧ 8 + (maxL + 11) + rm.locals ≤ R.locals)
    (hrv : ∃ cell : Cell, H[b]? = some cell ∧ cell.vm.isStatics = false ∧ s.vm.findClass C = some cell.cls) (hK : va_K D vwCl ty s) (hE : kEn s) (hP : va_P D vwCl ws H) (hD : va_D A0 ws) (hS : va_S A0 H0 H locs) (hA : ∀ q, H0.size ≤ q → A0 q) (ha : wc'.map Prod.fst = wc.map Prod.fst)
    (hn : As.length = n) (hsz : ls.size = nL) (hst : st0 = As.reverse ++ .ref b :: rest) (hrest : (rest.map fun v => v.category).sum ≤ 8)
    (hdg : decode cc pc = .ok (.invokevirtual index, 3)) (hf : cells ≤ R.cells ∧ slots ≤ R.slots)
    (kk : ∀ (H1 : Heap) (locs1 : List Loc), H.size ≤ H1.size → va_P D vwCl ws' H1 → va_D A0 ws' → va_S A0 H0 H1 locs1 → W p l e R s m args below meth c H1 locs1 cells slots Q (F0 m (pc + 3) ls rest)) : W p l e R s m args below meth c H locs cells slots Q (F0 m pc ls st0) :=
  k_mvV (w1 := []) (wc := wc) (wc' := wc') (w3 := w3) S hM hlk hrc hrs hR hrv hK hE (va_P_perm h1 hP) (va_D_perm h1 hD) hS hA ha hn hsz hst hrest hdg hf (fun H1 locs1 hz g1 g2 g3 => kk H1 locs1 hz (va_P_perm h2.symm g1) (va_D_perm h2.symm g2) g3)
/-- now copies a station of the ring -/
theorem k_cpUndo {cI cS cL : ClassId} {r : Nat → Nat → Nat} {Rr : Nat → NN} {u : Nat → Nat → Int32} {an : Nat → Nat} {N : NN} {v : Nat → Int32} {wA wB : va_W} {j : Nat} (hj : j < 6) (S : CallFix p m c cc nL s args wsL_law RX4) (hR : rmX3_copyFrom.frames + 1 ≤ R.frames ∧ 8 + (2 + 11) + rmX3_copyFrom.locals ≤ R.locals)
    (hK : va_K D vwCl (kTy cI cS cL) s) (hE : kEn s) (hP : va_P D vwCl (wA ++ (wB ++ (stW cI an N v ++ rgW cI r Rr u))) H) (hD : va_D A0 (wA ++ (wB ++ (stW cI an N v ++ rgW cI r Rr u)))) (hS : va_S A0 H0 H locs) (hA : ∀ q, H0.size ≤ q → A0 q)
    (hsz : ls.size = nL) (hrest : (rest.map fun v => v.category).sum ≤ 8) (hdg : decode cc pc = .ok (.invokevirtual 158, 3)) (hf : cells ≤ R.cells ∧ slots ≤ R.slots)
    (kk : ∀ (H1 : Heap) (locs1 : List Loc), H.size ≤ H1.size → va_P D vwCl (wA ++ (wB ++ (stW cI an (Rr j) v ++ rgW cI r Rr u))) H1 → va_D A0 (wA ++ (wB ++ (stW cI an (Rr j) v ++ rgW cI r Rr u))) → va_S A0 H0 H1 locs1 → W p l e R s m args below meth c H1 locs1 cells slots Q (F0 m (pc + 3) ls rest)) :
    W p l e R s m args below meth c H locs cells slots Q (F0 m pc ls (.ref (r j 0) :: .ref (an 0) :: rest)) := by
  obtain ⟨wr, h1, -⟩ := rg_perm cI r Rr u hj
  have hp := pm_c wA wB (stW cI an N v) h1
  have hP1 := va_P_perm hp hP
  exact k_mvP (As := [.ref (r j 0)]) (rest := rest) hp (pm_c wA wB (stW cI an (Rr j) v) h1) S (c_X3_copyFrom l D cI cS cL an N v (r j) (Rr j) (u j) _) lkX4_158 rfl rfl hR (va_recv hK hP1 (ci := 2) (q0 := 0) rfl rfl) hK hE hP hD hS hA rfl rfl hsz rfl hrest hdg hf kk
/-- a station of the ring copies now -/
theorem k_cpSave {cI cS cL : ClassId} {r : Nat → Nat → Nat} {Rr : Nat → NN} {u : Nat → Nat → Int32} {an : Nat → Nat} {N : NN} {v : Nat → Int32} {wA wB : va_W} {j : Nat} (hj : j < 6) (S : CallFix p m c cc nL s args wsL_law RX4) (hR : rmX3_copyFrom.frames + 1 ≤ R.frames ∧ 8 + (2 + 11) + rmX3_copyFrom.locals ≤ R.locals)
    (hK : va_K D vwCl (kTy cI cS cL) s) (hE : kEn s) (hP : va_P D vwCl (wA ++ (wB ++ (stW cI an N v ++ rgW cI r Rr u))) H) (hD : va_D A0 (wA ++ (wB ++ (stW cI an N v ++ rgW cI r Rr u)))) (hS : va_S A0 H0 H locs) (hA : ∀ q, H0.size ≤ q → A0 q)
    (hsz : ls.size = nL) (hrest : (rest.map fun v => v.category).sum ≤ 8) (hdg : decode cc pc = .ok (.invokevirtual 158, 3)) (hf : cells ≤ R.cells ∧ slots ≤ R.slots)
    (kk : ∀ (H1 : Heap) (locs1 : List Loc), H.size ≤ H1.size → va_P D vwCl (wA ++ (wB ++ (stW cI an N v ++ rgW cI r (updN Rr j N) u))) H1 → va_D A0 (wA ++ (wB ++ (stW cI an N v ++ rgW cI r (updN Rr j N) u))) → va_S A0 H0 H1 locs1 → W p l e R s m args below meth c H1 locs1 cells slots Q (F0 m (pc + 3) ls rest)) :
    W p l e R s m args below meth c H locs cells slots Q (F0 m pc ls (.ref (an 0) :: .ref (r j 0) :: rest)) := by
  obtain ⟨wr, h1, h2⟩ := rg_perm cI r Rr u hj
  have hp := pm_d wA wB (stW cI an N v) h1
  have hP1 := va_P_perm hp hP
  exact k_mvP (As := [.ref (an 0)]) (rest := rest) hp (pm_d wA wB (stW cI an N v) (h2 N)) S (c_X3_copyFrom l D cI cS cL (r j) (Rr j) (u j) an N v _) lkX4_158 rfl rfl hR (va_recv hK hP1 (ci := 2) (q0 := 0) rfl rfl) hK hE hP hD hS hA rfl rfl hsz rfl hrest hdg hf kk
end KRG
