/-! a copy of a whole array; rows put in place as a whole -/
def upR (N : NN) (i : Nat) (f : Nat → Int32) : NN := fun q => cond (Nat.beq q i) f (N q)
theorem va_P_setc {D : va_G} {cl : List vw_C} {ws : va_W} {H : Heap} {q a : Nat} {c : ClassId} {x y : vp_A} (h : vp_cell c x = vp_cell c y) (hP : va_P D cl (ws.set q (a, .inl (c, x))) H) : va_P D cl (ws.set q (a, .inl (c, y))) H := by
  intro k z hk
  by_cases hkq : k = q
  · subst hkq
    have hl : k < ws.length := by
      have := (List.getElem?_eq_some_iff.mp hk).1
      rwa [List.length_set] at this
    rw [List.getElem?_set_self hl] at hk
    cases hk
    have h1 := hP k (a, .inl (c, x)) (List.getElem?_set_self hl)
    have h2 : H[a]? = some (vp_cell c x) := h1
    show H[a]? = some (vp_cell c y)
    rw [← h]; exact h2
  · rw [List.getElem?_set_ne (Ne.symm hkq)] at hk
    exact hP k z (by rw [List.getElem?_set_ne (Ne.symm hkq)]; exact hk)
theorem va_D_setc {A : Nat → Prop} {ws : va_W} {q a : Nat} {x y : va_E} (hD : va_D A (ws.set q (a, x))) : va_D A (ws.set q (a, y)) := va_D_same (by simp [List.map_set]) hD
theorem vp_cell_cpy (c : ClassId) (n : Nat) (f g : Nat → Int32) : vp_cell c (n, .inl (va_cpy f g 0 0 n)) = vp_cell c (n, .inl f) := by
  rw [vp_cell_i, vp_cell_i]
  unfold arrV
  congr 1
  congr 1
  funext j
  have hj := j.isLt
  simp [va_cpy, hj]
section KCPY
variable {p : Program} {l : Launch} {e : Env} {R : Room} {s : State} {m : MethodId} {args : Array Value} {below : List Frame} {meth : Method} {c : Code} {H : Heap} {locs : List Loc} {cells slots : Nat} {Q : State → Prop}
variable {cc : ByteArray} {pc : Nat} {ls : Array Slot} {rest : List Value} {D : va_G} {A : Nat → Prop} {a a0 index : Nat} {ty : List (ClassId × FieldType)} {ws : va_W} {H0 : Heap} {own : String}
theorem k_cpy (hx : p.tables.exec = Jvm.exec) (hb : c.code = cc) (hml : c.maxLocals = ls.size) (hown : s.vm.findClass own = some m.cls) (hts : ∀ w ∈ wsL_law, w.before args s = true) (hlink : Cond.methodLink own index arraycopyName ∈ wsL_law) (hK : va_K D vwCl ty s) (hP : va_P D vwCl ws H) (hD : va_D A ws) (hS : va_S A H0 H locs) (q0 q1 n : Nat) {cA : ClassId} {f g : Nat → Int32} (ha0 : ws[q0]? = some (a0, .inl (cA, n, .inl f))) (ha1 : ws[q1]? = some (a, .inl (cA, n, .inl g))) (ht : ty[0]? = some (cA, .int)) {z : Int32} (hz : z = nI n) (hn : n < 2 ^ 31)
    (hframes : 1 ≤ R.frames) (hlocals : (rest.map fun v => v.category).sum + (nativeFrameWords "java/lang/System" "arraycopy" 5 + 11) ≤ R.locals) (hdg : decode cc pc = .ok (.invokestatic index, 3))
    (kk : ∀ (H1 : Heap) (locs1 : List Loc), va_P D vwCl (ws.set q1 (a, .inl (cA, n, .inl f))) H1 → va_D A (ws.set q1 (a, .inl (cA, n, .inl f))) → va_S A H0 H1 locs1 → W p l e R s m args below meth c H1 locs1 cells slots Q (F0 m (pc + 3) ls rest)) : W p l e R s m args below meth c H locs cells slots Q (F0 m pc ls (.int z :: .int 0 :: .ref a :: .int 0 :: .ref a0 :: rest)) := by
  subst hz
  have h0 : (0 : Int32).toNatClampNeg = 0 := sb_cl0
  have h1 : (nI n).toNatClampNeg = n := nI_clamp hn
  refine va_copyi hx hb hml hown (hts _ hlink) (hts _ wd_native_arraycopyName) (hts _ wd_static_arraycopyName) (hts _ wd_initialized_java_lang_System) hK hP hD hS q0 q1 0 0 ha0 ha1 ht ht rfl (by decide) (by decide) (nI_pos hn) (by rw [h0, h1]; omega) (by rw [h0, h1]; omega) (fun _ _ => rfl) hframes hlocals hdg (fun H1 locs1 hP1 hD1 hS1 => ?_)
  rw [h0, h1] at hP1 hD1
  exact kk H1 locs1 (va_P_setc (vp_cell_cpy cA n f g) hP1) (va_D_setc hD1) hS1
end KCPY
theorem p_tb_row1 (N : NN) : ∀ k, p_tb N k 1 = N 1 := by
  intro k
  induction k with
  | zero => rfl
  | succ k ih =>
    unfold p_tb
    split
    · rw [up2_ne _ _ _ (by decide), up2_ne _ _ _ (by decide), ih]
    · exact ih
theorem p_wt_row1 (N : NN) : ∀ k, p_wt N k 1 = N 1 := by
  intro k
  induction k with
  | zero => rfl
  | succ k ih =>
    unfold p_wt
    split
    · rw [up2_ne _ _ _ (by decide), ih]
    · exact ih
/-- the price that goes with the best so far -/
def p_chp (N : NN) (t n k : Nat) : Int32 := if p_ch N t n k = -1 then 0 else p_price N (p_ch N t n k).toNatClampNeg
theorem nI_m1 {k : Nat} (h : k < 100) : ¬ nI k = -1 := fun q => by
  have h1 := congrArg Int32.toInt q
  rw [nI_toInt (by omega)] at h1
  have h2 : (-1 : Int32).toInt = -1 := by decide
  omega
theorem p_chp_hit {N : NN} {t n k j : Nat} (h : p_ch N t n k = nI j) (hj : j < 100) : p_price N j = p_chp N t n k := by
  unfold p_chp
  rw [h, if_neg (nI_m1 hj), nI_clamp (by omega)]
theorem p_chp_eq {N : NN} {t n k j : Nat} (h : p_ch N t n k = p_ch N t n j) : p_chp N t n j = p_chp N t n k := by
  unfold p_chp
  rw [h]
theorem mn99 {w : Int32} (h0 : 0 ≤ w) (h1 : w ≤ 99) : ∃ q : Nat, q ≤ 99 ∧ w = nI q := nI_of2 (M := 99) (n := 99) rfl (Int32.not_lt.mpr h0) h1
theorem mnI {a : Nat} (ha : a < 2 ^ 31) : (if nI a < 99 then nI a else 99) = nI (if a < 99 then a else 99) := by
  by_cases h : a < 99
  · have q : nI a < (99 : Int32) := (nI_ltI (a := a) (b := 99) (by omega) (by omega)).mpr h
    rw [if_pos h, if_pos q]
  · have q : ¬ nI a < (99 : Int32) := fun z => h ((nI_ltI (a := a) (b := 99) (by omega) (by omega)).mp z)
    rw [if_neg h, if_neg q]
    rfl
theorem p_worn_nI {q : Nat} (hq : q ≤ 99) : ∀ j, p_worn (nI q) j = nI (if q + j < 99 then q + j else 99) := by
  intro j
  induction j with
  | zero =>
    show nI q = _
    congr 1
    by_cases h : q + 0 < 99
    · rw [if_pos h]; rfl
    · rw [if_neg h]; omega
  | succ j ih =>
    show mn 99 (p_worn (nI q) j + 1) = _
    rw [ih, nI_1]
    unfold mn
    rw [mnI (by split <;> omega)]
    congr 1
    split <;> split <;> split <;> omega
theorem p_worn_add {w : Int32} {j : Nat} (h0 : 0 ≤ w) (h1 : w ≤ 99) (hj : j ≤ 100) : (if w + nI j < 99 then w + nI j else 99) = p_worn w j := by
  obtain ⟨q, hq, rfl⟩ := mn99 h0 h1
  rw [p_worn_nI hq, nI_add]
  exact mnI (by omega)
theorem p_out_b {N : NN} {k P : Nat} (hP : P ≤ 24) (c : ¬ p_out N k P < 100) : p_held N k P < p_S P ∧ p_out N k P = nI (p_held N k P + 100) := by
  have h1 := p_S_le hP
  have h2 := p_held_le N k P
  unfold p_out at c ⊢
  by_cases h : p_held N k P < p_S P
  · exact ⟨h, if_pos h⟩
  · rw [if_neg h] at c
    exact absurd ((nI_ltI (a := p_held N k P) (b := 100) (by omega) (by omega)).mpr (by omega)) c
theorem p_out_h {N : NN} {k P : Nat} (hP : P ≤ 24) (c : p_out N k P < 100) : ¬ p_held N k P < p_S P ∧ p_out N k P = nI (p_held N k P) := by
  have h1 := p_S_le hP
  have h2 := p_held_le N k P
  unfold p_out at c ⊢
  by_cases h : p_held N k P < p_S P
  · rw [if_pos h] at c
    have := (nI_ltI (a := p_held N k P + 100) (b := 100) (by omega) (by omega)).mp c
    omega
  · exact ⟨h, if_neg h⟩
theorem p_wb {N : NN} {k P : Nat} (hP : P ≤ 24) (h0 : 0 ≤ N 7 k) (h1 : N 7 k ≤ 99) (h : p_out N k P = nI (p_held N k P + 100)) : (if N 7 k + (p_out N k P - 100) < 99 then N 7 k + (p_out N k P - 100) else 99) = p_worn (N 7 k) (p_held N k P) := by
  have g1 := p_S_le hP
  have g2 := p_held_le N k P
  have e : p_out N k P - 100 = nI (p_held N k P) := by rw [h]; exact pk_sub (a := p_held N k P + 100) (b := 100) (by omega)
  rw [e]
  exact p_worn_add h0 h1 (by omega)
theorem p_wh {N : NN} {k P : Nat} (hP : P ≤ 24) (h0 : 0 ≤ N 7 k) (h1 : N 7 k ≤ 99) (h : p_out N k P = nI (p_held N k P)) : (if N 7 k + p_out N k P < 99 then N 7 k + p_out N k P else 99) = p_worn (N 7 k) (p_held N k P) := by
  have g1 := p_S_le hP
  have g2 := p_held_le N k P
  rw [h]
  exact p_worn_add h0 h1 (by omega)
