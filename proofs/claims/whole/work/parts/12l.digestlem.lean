/-! the digest: a hash over what is seen, and what the reference's hand keeps on the way -/
def d_mx (h : Int64) (x : Int32) : Int64 := 31 * h + x.toInt64
def d_cnt (N : NN) (n : Nat) (c : Int32) : Nat → Int64
  | 0 => 3271
  | w + 1 => d_mx (d_cnt N n c w) (p_count N n c w)
def d_set (N : NN) (h : Int64) : Nat → Int64
  | 0 => h
  | w + 1 => d_mx (d_set N h w) (N 0 w)
def d_hs1 (N : NN) (k : Nat) (h : Int64) : Nat → Int64
  | 0 => h
  | w + 1 => d_mx (d_hs1 N k h w) (m_hose N k w)
def d_hs (N : NN) (h : Int64) : Nat → Int64
  | 0 => h
  | k + 1 => d_mx (d_mx (d_hs1 N k (d_hs N h k) 10) (p_tried N k 12)) (p_safeG N k)
def d_tr1 (N : NN) (n t : Nat) (h : Int64) : Nat → Int64
  | 0 => h
  | w + 1 => d_mx (d_tr1 N n t h w) (p_truck N n t w)
def d_tr (N : NN) (n : Nat) (h : Int64) : Nat → Int64
  | 0 => h
  | t + 1 => d_mx (d_tr1 N n t (d_tr N n h t) 7) (p_help N t n)
def d_tx (T : Nat → Int32) (h : Int64) : Nat → Int64
  | 0 => h
  | k + 1 => d_mx (d_tx T h k) (T k)
def p_hash (N : NN) (n : Nat) (c : Int32) (z : Nat) (T : Nat → Int32) : Int64 :=
  d_tx T (31 * (31 * (31 * d_tr N n (d_hs N (d_set N (d_cnt N n c 11) 3) n) 3 + (p_fl N n).toInt64) + (p_share N n).toInt64) + (nI z).toInt64) z
def d_v1 (N : NN) (n : Nat) (u : Nat → Int32) : Nat → Nat → Int32
  | 0 => u
  | w + 1 => us (us (us (d_v1 N n u w) 11 (m_cl N n (d_v1 N n u w) w 0)) 12 (m_cl N n (d_v1 N n u w) w 1)) 13 (m_cl N n (d_v1 N n u w) w 2)
def d_v2 (N : NN) (u : Nat → Int32) : Nat → Nat → Int32
  | 0 => u
  | k + 1 => us (d_v2 N u k) 10 (m_gz N k 21 (m_tw N k 12 (d_v2 N u k 10)))
def d_v3i (N : NN) (n t : Nat) (u : Nat → Int32) : Nat → Nat → Int32
  | 0 => u
  | w + 1 => us (us (us (d_v3i N n t u w) 11 (p_lay N (nI t) (-1) n 0)) 12 (p_lay N (nI t) (-1) n 1)) 13 (p_lay N (nI t) (-1) n 2)
def d_v3 (N : NN) (n : Nat) (u : Nat → Int32) : Nat → Nat → Int32
  | 0 => u
  | t + 1 => us (us (us (d_v3i N n t (d_v3 N n u t) 7) 11 (p_helpv N t n 0)) 12 (p_helpv N t n 1)) 13 (p_helpv N t n 2)
theorem us3_lo (u : Nat → Int32) (x y z : Int32) {q : Nat} (h : q ≤ 9) : us (us (us u 11 x) 12 y) 13 z q = u q := by
  rw [us_ne _ _ (by omega), us_ne _ _ (by omega), us_ne _ _ (by omega)]
theorem d_v1_lo (N : NN) (n : Nat) (u : Nat → Int32) {q : Nat} (h : q ≤ 9) : ∀ w, d_v1 N n u w q = u q := by
  intro w
  induction w with
  | zero => rfl
  | succ w ih => exact (us3_lo _ _ _ _ h).trans ih
theorem d_v2_lo (N : NN) (u : Nat → Int32) {q : Nat} (h : q ≤ 9) : ∀ w, d_v2 N u w q = u q := by
  intro w
  induction w with
  | zero => rfl
  | succ w ih => exact (us_ne _ _ (by omega)).trans ih
theorem d_v3i_lo (N : NN) (n t : Nat) (u : Nat → Int32) {q : Nat} (h : q ≤ 9) : ∀ w, d_v3i N n t u w q = u q := by
  intro w
  induction w with
  | zero => rfl
  | succ w ih => exact (us3_lo _ _ _ _ h).trans ih
theorem d_v3_lo (N : NN) (n : Nat) (u : Nat → Int32) {q : Nat} (h : q ≤ 9) : ∀ t, d_v3 N n u t q = u q := by
  intro t
  induction t with
  | zero => rfl
  | succ t ih => exact (us3_lo _ _ _ _ h).trans ((d_v3i_lo N n t _ h 7).trans ih)
theorem d_v_lo (N : NN) (n : Nat) (u : Nat → Int32) {q : Nat} (h : q ≤ 9) (t k w : Nat) : d_v3 N n (d_v2 N (d_v1 N n u w) k) t q = u q :=
  (d_v3_lo N n _ h t).trans ((d_v2_lo N _ h k).trans (d_v1_lo N n u h w))
