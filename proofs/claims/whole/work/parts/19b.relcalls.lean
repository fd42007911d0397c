/-! each call keeps the relation -/
section LRC
variable {N : NN} {n dy qi kc z i : Nat} {R : Nat → NN} {P mv mv' : Nat → Int32}
theorem LR_d (h : LR N n dy qi kc z R P mv i) : dy ≤ 100 * (i + 1) := by
  have := h.2.1
  omega
theorem LR_z (h : LR N n dy qi kc z R P mv i) : z ≤ 60 := h.2.2.2.2.1
theorem lr_buy (h : LR N n dy qi kc z R P mv i) {a b c : Int32} (h2 : mv' 2 = sK (rc_buy N a b c) kc) (h4 : mv' 4 = nI z) : ∃ n2 d2 : Nat, LR (sN (rc_buy N a b c) N (p_add N n a b c 3)) n2 d2 (sQ (rc_buy N a b c) qi) (sC (rc_buy N a b c) kc) z (sR6 (rc_buy N a b c) R qi N) (sP (rc_buy N a b c) P (flat N) kc) mv' (i + 1) := by
  refine LR_act h (fun hr => ?_) h2 h4 (LR_z h)
  rcases cs_buy N a b c with ⟨hrc, hok, hcan⟩ | ⟨hrc, hok⟩ | ⟨hrc, hok, hcan⟩
  · exact ⟨n + 1, dy, Inv_add h.1 (p_can_lt h.1.2.1 h.1.1 hcan) (kdOk_of hok.1.1 hok.1.2) ⟨by decide, by decide⟩, LR_d h⟩
  · exact absurd (hrc.symm.trans hr) (by decide)
  · exact absurd (hrc.symm.trans hr) (by decide)
theorem lr_renew (h : LR N n dy qi kc z R P mv i) {x : Int32} (h2 : mv' 2 = sK (rc_renew N x) kc) (h4 : mv' 4 = nI z) : ∃ n2 d2 : Nat, LR (sN (rc_renew N x) N (p_renew N n (kx x))) n2 d2 (sQ (rc_renew N x) qi) (sC (rc_renew N x) kc) z (sR6 (rc_renew N x) R qi N) (sP (rc_renew N x) P (flat N) kc) mv' (i + 1) := by
  refine LR_act h (fun hr => ?_) h2 h4 (LR_z h)
  have h14 := h.1.1
  rcases cs_renew h.1 x with ⟨hrc, -⟩ | ⟨k, hk, rfl, hrc, -⟩ | ⟨k, hk, rfl, hrc, -⟩ | ⟨k, hk, rfl, hrc, g1, g4, hcan⟩
  · exact absurd (hrc.symm.trans hr) (by decide)
  · exact absurd (hrc.symm.trans hr) (by decide)
  · exact absurd (hrc.symm.trans hr) (by decide)
  · rw [kx_nI (by omega)]
    exact ⟨n + 1, dy, Inv_renew h.1 hk g1 g4 (p_can_lt h.1.2.1 h.1.1 hcan), LR_d h⟩
theorem lr_put (h : LR N n dy qi kc z R P mv i) {x y : Int32} (h2 : mv' 2 = sK (rc_put N x y) kc) (h4 : mv' 4 = nI z) : ∃ n2 d2 : Nat, LR (sN (rc_put N x y) N (up2 N 9 (kx x) y)) n2 d2 (sQ (rc_put N x y) qi) (sC (rc_put N x y) kc) z (sR6 (rc_put N x y) R qi N) (sP (rc_put N x y) P (flat N) kc) mv' (i + 1) := by
  refine LR_act h (fun hr => ?_) h2 h4 (LR_z h)
  have h14 := h.1.1
  rcases cs_put h.1 x y with ⟨hrc, -⟩ | ⟨k, hk, rfl, hrc, -⟩ | ⟨k, hk, rfl, hrc, -⟩ | ⟨k, hk, rfl, hrc, hp, g1, g4⟩
  · exact absurd (hrc.symm.trans hr) (by decide)
  · exact absurd (hrc.symm.trans hr) (by decide)
  · exact absurd (hrc.symm.trans hr) (by decide)
  · rw [kx_nI (by omega)]
    exact ⟨n, dy, Inv_pl h.1 g4 (Or.inr hp), LR_d h⟩
theorem lr_lend (h : LR N n dy qi kc z R P mv i) {x y : Int32} (h2 : mv' 2 = sK (rc_lend N x y) kc) (h4 : mv' 4 = nI z) : ∃ n2 d2 : Nat, LR (sN (rc_lend N x y) N (p_lend N (kx x) y)) n2 d2 (sQ (rc_lend N x y) qi) (sC (rc_lend N x y) kc) z (sR6 (rc_lend N x y) R qi N) (sP (rc_lend N x y) P (flat N) kc) mv' (i + 1) :=
  LR_act h (fun _ => ⟨n, dy, Inv_lend h.1 y, LR_d h⟩) h2 h4 (LR_z h)
theorem lr_test (h : LR N n dy qi kc z R P mv i) {x y : Int32} (h2 : mv' 2 = sK (rc_test N x y) kc) (h4 : mv' 4 = nI z) : ∃ n2 d2 : Nat, LR (sN (rc_test N x y) N (p_test N (kx x) (kx y))) n2 d2 (sQ (rc_test N x y) qi) (sC (rc_test N x y) kc) z (sR6 (rc_test N x y) R qi N) (sP (rc_test N x y) P (flat N) kc) mv' (i + 1) := by
  refine LR_act h (fun hr => ?_) h2 h4 (LR_z h)
  have h14 := h.1.1
  rcases cs_test h.1 x y with ⟨hrc, -⟩ | ⟨k, hk, rfl, hrc, -⟩ | ⟨k, hk, rfl, hrc, -⟩ | ⟨k, hk, rfl, hrc, hp, g1, g4⟩
  · exact absurd (hrc.symm.trans hr) (by decide)
  · exact absurd (hrc.symm.trans hr) (by decide)
  · exact absurd (hrc.symm.trans hr) (by decide)
  · rw [kx_nI (show k < 2 ^ 31 by omega)]
    exact ⟨n, dy, Inv_test h.1 hk g4, LR_d h⟩
theorem lr_want (h : LR N n dy qi kc z R P mv i) {x y : Int32} (h2 : mv' 2 = sK (rc_want x y) kc) (h4 : mv' 4 = nI z) : ∃ n2 d2 : Nat, LR (sN (rc_want x y) N (up2 N 2 (kx x) y)) n2 d2 (sQ (rc_want x y) qi) (sC (rc_want x y) kc) z (sR6 (rc_want x y) R qi N) (sP (rc_want x y) P (flat N) kc) mv' (i + 1) :=
  LR_act h (fun _ => ⟨n, dy, Inv_r2 h.1, LR_d h⟩) h2 h4 (LR_z h)
theorem lr_set (h : LR N n dy qi kc z R P mv i) {x y : Int32} (h2 : mv' 2 = sK (rc_set x y) kc) (h4 : mv' 4 = nI z) : ∃ n2 d2 : Nat, LR (sN (rc_set x y) N (up2 N 0 (kx x) y)) n2 d2 (sQ (rc_set x y) qi) (sC (rc_set x y) kc) z (sR6 (rc_set x y) R qi N) (sP (rc_set x y) P (flat N) kc) mv' (i + 1) :=
  LR_act h (fun _ => ⟨n, dy, Inv_r0 h.1, LR_d h⟩) h2 h4 (LR_z h)
theorem lr_pass (h : LR N n dy qi kc z R P mv i) {x : Int32} (h2 : mv' 2 = sK (rc_pass x) kc) (h4 : mv' 4 = nI z) : ∃ n2 d2 : Nat, LR (sN (rc_pass x) N (p_days N n (kx x))) n2 d2 (sQ (rc_pass x) qi) (sC (rc_pass x) kc) z (sR6 (rc_pass x) R qi N) (sP (rc_pass x) P (flat N) kc) mv' (i + 1) := by
  refine LR_act h (fun hr => ?_) h2 h4 (LR_z h)
  rcases cs_pass x with ⟨hrc, -⟩ | ⟨w, w1, w2, rfl, hrc⟩
  · exact absurd (hrc.symm.trans hr) (by decide)
  · rw [kx_nI (by omega)]
    exact ⟨n, dy + w, Inv_days h.1 w, by have := h.2.1; omega⟩
theorem lr_all (h : LR N n dy qi kc z R P mv i) {T : Nat → Int32} (h2 : mv' 2 = sK (rc_all T z) kc) (h4 : mv' 4 = sJ (rc_all T z) 0 (mv 4)) : ∃ n2 d2 : Nat, LR (sN (rc_all T z) N (b_N T N z)) n2 d2 (sQ (rc_all T z) qi) (sC (rc_all T z) kc) (sZn (rc_all T z) 0 z) (sR6 (rc_all T z) R qi N) (sP (rc_all T z) P (flat N) kc) mv' (i + 1) := by
  have hz := LR_z h
  have hm4 : mv 4 = nI z := h.2.2.2.2.2.2.1
  refine LR_act h (fun _ => ?_) h2 ?_ ?_
  · obtain ⟨⟨m, hm⟩, -⟩ := Inv_bN T h.1 z
    exact ⟨m, dy, hm, LR_d h⟩
  · rw [h4]
    unfold sJ sZn
    split
    · rfl
    · exact hm4
  · unfold sZn
    split <;> omega
theorem lr_append (h : LR N n dy qi kc z R P mv i) {x : Int32} (h2 : mv' 2 = nI kc) (h4 : mv' 4 = sZ (rc_app z x) z) : ∃ n2 d2 : Nat, LR N n2 d2 qi kc (sZn (rc_app z x) (z + 1) z) R P mv' (i + 1) := by
  refine ⟨n, dy, LR_keep h h2 h4 ?_⟩
  have hz := LR_z h
  rcases cs_app hz x with ⟨hrc, -⟩ | ⟨hrc, -⟩ | ⟨hrc, -, h60⟩
  · rw [hrc]; exact hz
  · rw [hrc]; exact hz
  · rw [hrc]; show z + 1 ≤ 60; omega
theorem lr_undo (h : LR N n dy qi kc z R P mv i) (h2 : mv' 2 = nI (kc - 1)) (h4 : mv' 4 = nI z) : ∃ n2 d2 : Nat, LR (sN (rc_undo kc) N (R qi)) n2 d2 (sZn (rc_undo kc) (p_pv qi) qi) (sZn (rc_undo kc) (kc - 1) kc) z R P mv' (i + 1) := by
  cases kc with
  | zero => exact ⟨n, dy, LR_keep h h2 h4 (LR_z h)⟩
  | succ kp => exact LR_undo h h2 h4
end LRC
