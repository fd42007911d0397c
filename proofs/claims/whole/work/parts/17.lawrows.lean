/-! the law: its script, its comparisons -/
theorem sO_sR {rc : Int32} {w : Int64} {r r' : Int32} (h : rc = 0) (hr : r = r') : sO rc w r = (sR rc r').toInt64 := by
  unfold sO sR
  rw [if_pos h, if_pos h, hr]
theorem lg_same (x : Int64) : lg_cmp x x = 0 := by
  have h1 : ¬ x < x := Int64.lt_irrefl
  simp [lg_cmp, h1]
section KLR
variable {p : Program} {l : Launch} {e : Env} {R : Room} {s : State} {m : MethodId} {args : Array Value} {below : List Frame} {meth : Method} {c : Code} {H : Heap} {locs : List Loc} {cells slots : Nat} {Q : State → Prop}
variable {cc : ByteArray} {pc : Nat} {ls : Array Slot} {rest : List Value}
theorem k_sld (hexec : p.tables.exec = Jvm.exec) (hb : c.code = cc) {b L k : Nat} {xs : Nat → Int32} (hX : va_X b L xs s s.heap) (hbl : b < s.heap.size) (hS : va_S (fun q => s.heap.size ≤ q) s.heap H locs) {i : Int32} (hi : i = nI k) (hk : k < L) (hL : L ≤ 2048) (hdg : decode cc pc = .ok (.iaload, 1))
    (kk : W p l e R s m args below meth c H locs cells slots Q (F0 m (pc + 1) ls (.int (xs k) :: rest))) : W p l e R s m args below meth c H locs cells slots Q (F0 m pc ls (.int i :: .ref b :: rest)) := by
  subst hi
  refine va_sld hexec hb hX hbl (Nat.not_le.mpr hbl) hS (vp_in_nI hk (by omega)) hdg ?_
  rw [nI_clamp (by omega)]
  exact kk
theorem k_lcmp (hexec : p.tables.exec = Jvm.exec) (hb : c.code = cc) {x y : Int64} (h : x = y) (hdg : decode cc pc = .ok (.lcmp, 1))
    (kk : W p l e R s m args below meth c H locs cells slots Q (F0 m (pc + 1) ls (.int 0 :: rest))) : W p l e R s m args below meth c H locs cells slots Q (F0 m pc ls (.long y :: .long x :: rest)) := by
  subst h
  refine W.lcmp hexec hb hdg ?_
  rw [lg_same]
  exact kk
end KLR
theorem undo_N (kc : Nat) (N M : NN) : (if kc = 0 then N else M) = sN (rc_undo kc) N M := by
  unfold sN rc_undo
  by_cases h : kc = 0
  · rw [if_pos h, if_pos h, if_neg (by decide)]
  · rw [if_neg h, if_neg h, if_pos rfl]
theorem undo_eq {kc : Nat} (w : Int64) (h : rc_undo kc = 0) : sO (rc_undo kc) w (nI (kc - 1)) = (if kc = 0 then 0 else nI (kc - 1)).toInt64 := by
  have hk : ¬ kc = 0 := fun q => by
    rw [q] at h
    exact absurd h (by decide)
  unfold sO
  rw [if_pos h, if_neg hk]
