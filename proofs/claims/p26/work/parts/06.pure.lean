/-! the mathematical value of a station, row by row (0 settings; 1 day, money, hoses, tests, bursts, paid; 2 wanted; 3 kind, 4 length, 5 coupling, 6 made, 7 wear, 8 last day of the test, 9 place, 10 day back), and what the methods answer of it -/
abbrev NN : Type := Nat → Nat → Int32
def bI (b : Bool) : Int32 := cond b 1 0
theorem bI_t {P : Prop} [Decidable P] (h : P) : bI (decide P) = 1 := by simp [bI, h]
theorem bI_f {P : Prop} [Decidable P] (h : ¬ P) : bI (decide P) = 0 := by simp [bI, h]
theorem bI_01 (b : Bool) : bI b = 0 ∨ bI b = 1 := by cases b <;> simp [bI]
def mx0 (x : Int32) : Int32 := if 0 < x then x else 0
def mn (x y : Int32) : Int32 := if y < x then y else x
def p_life (k : Int32) : Int32 := if k = 0 then 900 else if k = 1 then 1500 else 1200
def p_force (k : Int32) : Int32 := if k = 0 then 100 else if k = 1 then 150 else 200
def p_cost (k n : Int32) : Int32 := if k = 0 then 2 * n else if k = 1 then 3 * n else 4 * n + 10
def p_str (k w g : Int32) : Int32 := if k = 0 then mx0 (16 - w / 10 - g) else if k = 1 then mx0 (20 - w / 8 - g / 2) else mx0 (24 - w / 5)
def p_strAt (N : NN) (k : Nat) (w : Int32) : Int32 := p_str (N 3 k) w ((N 1 0 - N 6 k) / 100)
def p_reason (N : NN) (k : Nat) : Int32 := if N 9 k = -1 then 1 else if N 9 k = 4 then 2 else if p_life (N 3 k) < N 1 0 - N 6 k then 3 else if N 8 k = -1 ∨ N 8 k < N 1 0 then 4 else 0
def p_price (N : NN) (k : Nat) : Int32 := p_cost (N 3 k) (N 4 k)
def p_can (N : NN) (k n : Int32) : Bool := decide (N 1 2 < 14 ∧ p_cost k n ≤ N 1 1)
/-- the wear behind j steps that held -/
def p_worn (w : Int32) : Nat → Int32
  | 0 => w
  | j + 1 => mn 99 (p_worn w j + 1)
/-- the pressure of step j (from 0) of a test up to P, and how many steps it has -/
def p_sp (P j : Nat) : Nat := if P < 4 * (j + 1) then P else 4 * (j + 1)
def p_S (P : Nat) : Nat := (P + 3) / 4
/-- from step j on, with r steps to go: the first one that does not hold -/
def p_go (N : NN) (k P : Nat) : Nat → Nat → Nat
  | 0, j => j
  | r + 1, j => if p_strAt N k (p_worn (N 7 k) j) < nI (p_sp P j) then j else p_go N k P r (j + 1)
def p_held (N : NN) (k P : Nat) : Nat := p_go N k P (p_S P) 0
def p_out (N : NN) (k P : Nat) : Int32 := if p_held N k P < p_S P then nI (p_held N k P + 100) else nI (p_held N k P)
def p_test (N : NN) (k P : Nat) : NN :=
  let M := up2 (up2 N 7 k (p_worn (N 7 k) (p_held N k P))) 1 3 (N 1 3 + 1)
  if p_held N k P < p_S P then up2 (up2 M 1 4 (M 1 4 + 1)) 9 k (-1) else if N 0 0 ≤ nI P then up2 M 8 k (N 1 0 + p_force (N 3 k)) else M
/-- the greatest pressure below q + 4 that does not burst it -/
def p_sf (N : NN) (k : Nat) : Nat → Int32
  | 0 => -1
  | q + 1 => if p_held N k (q + 4) = p_S (q + 4) then nI (q + 4) else p_sf N k q
def p_safe (N : NN) (k : Nat) : Int32 := p_sf N k 21
def p_tried (N : NN) (k P : Nat) : Int32 := if N 9 k = -1 then -1 else p_out N k P
def p_safeG (N : NN) (k : Nat) : Int32 := if N 9 k = -1 then -1 else p_safe N k
/-- a day passes: those that are lent come back, those on trucks wear, money comes -/
def p_tb (N : NN) : Nat → NN
  | 0 => N
  | k + 1 => if p_tb N k 9 k = 4 ∧ p_tb N k 10 k = p_tb N k 1 0 then up2 (up2 (p_tb N k) 9 k 3) 10 k (-1) else p_tb N k
def p_wt (N : NN) : Nat → NN
  | 0 => N
  | k + 1 => if (0 ≤ p_wt N k 9 k ∧ p_wt N k 9 k ≤ 2) ∧ p_reason (p_wt N k) k = 0 then up2 (p_wt N k) 7 k (mn 99 (p_wt N k 7 k + 1)) else p_wt N k
def p_rem (x m : Int32) : Int32 := x - x / m * m
def p_mon (N : NN) : NN := if p_rem (N 1 0) 30 = 0 then up2 N 1 1 (mn 9999 (N 1 1 + N 0 2)) else N
def p_wtd (N : NN) (n : Nat) : NN := if p_rem (N 1 0) 10 = 0 then p_wt N n else N
def p_day (N : NN) (n : Nat) : NN := p_mon (p_wtd (p_tb (up2 N 1 0 (N 1 0 + 1)) n) n)
def p_days (N : NN) (n : Nat) : Nat → NN
  | 0 => N
  | j + 1 => p_day (p_days N n j) n
/-- counts -/
def p_at (N : NN) (w : Int32) : Nat → Int32
  | 0 => 0
  | k + 1 => if N 9 k = w then p_at N w k + 1 else p_at N w k
def p_ra (N : NN) (w : Int32) : Nat → Int32
  | 0 => 0
  | k + 1 => if N 9 k = w ∧ p_reason N k = 0 then p_ra N w k + 1 else p_ra N w k
def p_rh (N : NN) : Nat → Int32
  | 0 => 0
  | k + 1 => if p_reason N k = 0 then p_rh N k + 1 else p_rh N k
/-- a line: metres, adapters, mask, the last coupling -/
def ln0 : Nat → Int32 := fun q => cond (Nat.beq q 3) (-1) 0
def p_msk (m h : Int32) : Int32 := m ||| (1 <<< (h &&& 31))
def p_join (v : Nat → Int32) (h len cp ad : Int32) : Nat → Int32 :=
  if v 3 = -1 ∨ v 3 = cp then us (us (us v 0 (v 0 + len)) 2 (p_msk (v 2) h)) 3 cp else if ad ≤ v 1 then v else us (us (us (us v 0 (v 0 + len)) 1 (v 1 + 1)) 2 (p_msk (v 2) h)) 3 cp
def p_lay (N : NN) (t mo : Int32) : Nat → Nat → Int32
  | 0 => ln0
  | k + 1 => if (N 9 k = t ∨ nI k = mo) ∧ p_reason N k = 0 then p_join (p_lay N t mo k) (nI k) (N 4 k) (N 5 k) (N 0 1) else p_lay N t mo k
def p_whole (N : NN) (t : Nat) (mo : Int32) (n : Nat) : Bool := decide (N 2 t ≤ p_lay N (nI t) mo n 0)
def p_wtr (N : NN) (n : Nat) : Nat → Int32
  | 0 => 0
  | t + 1 => if N 2 t ≤ p_lay N (nI t) (-1) n 0 then p_wtr N n t + 1 else p_wtr N n t
def p_wtv (N : NN) (n : Nat) (v : Nat → Int32) : Nat → Nat → Int32
  | 0 => v
  | t + 1 => p_lay N (nI t) (-1) n
/-- the cheapest one that helps -/
def p_ch (N : NN) (t n : Nat) : Nat → Int32
  | 0 => -1
  | k + 1 => if ((N 9 k = 3 ∧ p_reason N k = 0) ∧ N 2 t ≤ p_lay N (nI t) (nI k) n 0) ∧ (p_ch N t n k = -1 ∨ p_price N k < p_price N (p_ch N t n k).toNatClampNeg) then nI k else p_ch N t n k
def p_chv (N : NN) (t n : Nat) : Nat → Nat → Int32
  | 0 => p_lay N (nI t) (-1) n
  | k + 1 => if N 9 k = 3 ∧ p_reason N k = 0 then p_lay N (nI t) (nI k) n else p_chv N t n k
def p_help (N : NN) (t n : Nat) : Int32 := if N 2 t ≤ p_lay N (nI t) (-1) n 0 then -1 else p_ch N t n n
def p_helpv (N : NN) (t n : Nat) : Nat → Int32 := if N 2 t ≤ p_lay N (nI t) (-1) n 0 then p_lay N (nI t) (-1) n else p_chv N t n n
/-- the first lapse -/
def p_dl (N : NN) (k : Nat) : Int32 := mn (N 8 k) (N 6 k + p_life (N 3 k)) + 1 - N 1 0
def p_fl (N : NN) : Nat → Int32
  | 0 => -1
  | k + 1 => if p_reason N k = 0 then (if p_fl N k = -1 then p_dl N k else mn (p_fl N k) (p_dl N k)) else p_fl N k
/-- hoses come -/
def p_add (N : NN) (n : Nat) (k len cp pl : Int32) : NN :=
  up2 (up2 (up2 (up2 (up2 (up2 (up2 (up2 (up2 (up2 (up2 N 3 n k) 4 n len) 5 n cp) 6 n (N 1 0)) 7 n 0) 8 n (-1)) 9 n pl) 10 n (-1)) 1 2 (N 1 2 + 1)) 1 1 (N 1 1 - p_cost k len)) 1 5 (N 1 5 + p_cost k len)
def p_renew (N : NN) (n k : Nat) : NN := p_add (up2 N 9 k (-1)) n (N 3 k) (N 4 k) (N 5 k) (N 9 k)
def p_lend (N : NN) (k : Nat) (days : Int32) : NN := up2 (up2 N 9 k 4) 10 k (N 1 0 + days)
/-- the looks -/
def p_hose (N : NN) (k what : Nat) : Int32 := match what with
  | 0 => N 3 k
  | 1 => N 4 k
  | 2 => N 5 k
  | 3 => N 6 k
  | 4 => N 7 k
  | 5 => p_strAt N k (N 7 k)
  | 6 => N 8 k
  | 7 => N 9 k
  | 8 => N 10 k
  | _ => p_reason N k
def p_truck (N : NN) (n t what : Nat) : Int32 := match what with
  | 0 => N 2 t
  | 1 => p_lay N (nI t) (-1) n 0
  | 2 => p_at N (nI t) n
  | 3 => p_ra N (nI t) n
  | 4 => p_lay N (nI t) (-1) n 1
  | 5 => p_lay N (nI t) (-1) n 2
  | _ => bI (p_whole N t (-1) n)
def p_count (N : NN) (n : Nat) (kept : Int32) (what : Nat) : Int32 := match what with
  | 0 => N 1 0
  | 1 => N 1 1
  | 2 => N 1 2
  | 3 => p_at N (-1) n
  | 4 => p_rh N n
  | 5 => p_at N 4 n
  | 6 => p_wtr N n 3
  | 7 => N 1 3
  | 8 => N 1 4
  | 9 => N 1 5
  | _ => kept
