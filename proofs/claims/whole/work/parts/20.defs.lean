def s_X1_at_b17 (h : mH) (t0 : Int32) : Option (Int32) := some t0
def s_X1_at_b16 (h : mH) : Option (Int32) := s_X1_at_b17 h 0
def s_X1_at (h : mH) (v0 : Nat) (v1 : Int32) : Option (Int32) := if v1 < 0 then (s_X1_at_b16 h) else ((m_ilen h v0).bind fun x6 => if x6 ≤ v1 then (s_X1_at_b16 h) else ((m_iald h v0 v1).bind fun x12 => s_X1_at_b17 h x12))
def s_X1_fill_L2 : Nat → mH → Nat → Int32 → Int32 → Option (mH)
  | 0, _, _, _, _ => none
  | n + 1, h, v0, v1, v2 => (m_ilen h v0).bind fun x4 => if x4 ≤ v2 then (some h) else ((m_iast h v0 v2 v1).bind fun h11 => s_X1_fill_L2 n h11 v0 v1 (v2 + 1))
def s_X1_fill (h : mH) (v0 : Nat) (v1 : Int32) : Option (mH) := s_X1_fill_L2 m_F h v0 v1 0
def s_X5_tapAt (h : mH) (v0 : Nat) (v1 : Int32) : Option (Int32) := (m_gr h 3 v0 0).bind fun x1 => (s_X1_at h x1 v1).bind fun x5 => some x5
def s_X4_isIn_b11 (h : mH) (t0 : Int32) : Option (Int32) := (m_z t0).bind fun x11 => some x11
def s_X4_isIn (h : mH) (v0 : Int32) : Option (Int32) := if (v0 &&& 2) = 0 then (s_X4_isIn_b11 h 0) else (s_X4_isIn_b11 h 1)
def s_X4_dayOf (h : mH) (v0 : Int32) : Option (Int32) := some ((v0 >>> (19 &&& 31)) &&& 31)
def s_X4_minuteOf (h : mH) (v0 : Int32) : Option (Int32) := some ((v0 >>> (8 &&& 31)) &&& 2047)
def s_X0_isRide_b43 (h : mH) (t0 : Int32) : Option (Int32) := (m_z t0).bind fun x43 => some x43
def s_X0_isRide_b42 (h : mH) : Option (Int32) := s_X0_isRide_b43 h 0
def s_X0_isRide (h : mH) (v0 : Int32) (v1 : Int32) (v2 : Int32) : Option (Int32) := (s_X4_isIn h v0).bind fun x1 => if x1 = 0 then (s_X0_isRide_b42 h) else ((s_X4_isIn h v1).bind fun x8 => if x8 = 0 then ((s_X4_dayOf h v0).bind fun x15 => (s_X4_dayOf h v1).bind fun x19 => if x15 = x19 then ((s_X4_minuteOf h v1).bind fun x26 => (s_X4_minuteOf h v0).bind fun x30 => if v2 < (x26 - x30) then (s_X0_isRide_b42 h) else (s_X0_isRide_b43 h 1)) else (s_X0_isRide_b42 h)) else (s_X0_isRide_b42 h))
def s_X1_put_b14 (h : mH) : Option (mH) := some h
def s_X1_put (h : mH) (v0 : Nat) (v1 : Int32) (v2 : Int32) : Option (mH) := if v1 < 0 then (s_X1_put_b14 h) else ((m_ilen h v0).bind fun x6 => if x6 ≤ v1 then (s_X1_put_b14 h) else ((m_iast h v0 v1 v2).bind fun h13 => s_X1_put_b14 h13))
def s_X1_raise (h : mH) (v0 : Nat) (v1 : Int32) (v2 : Int32) : Option (mH) := (s_X1_at h v0 v1).bind fun x4 => (s_X1_put h v0 v1 (x4 + v2)).bind fun h9 => some h9
def s_X1_copy_b26 (h : mH) : Option (mH) := some h
def s_X1_copy_L2 : Nat → mH → Nat → Nat → Int32 → Option (mH)
  | 0, _, _, _, _ => none
  | n + 1, h, v0, v1, v2 => (m_ilen h v0).bind fun x4 => if x4 ≤ v2 then (s_X1_copy_b26 h) else ((m_ilen h v1).bind fun x10 => if x10 ≤ v2 then (s_X1_copy_b26 h) else ((m_iald h v0 v2).bind fun x18 => (m_iast h v1 v2 x18).bind fun h19 => s_X1_copy_L2 n h19 v0 v1 (v2 + 1)))
def s_X1_copy (h : mH) (v0 : Nat) (v1 : Nat) : Option (mH) := s_X1_copy_L2 m_F h v0 v1 0
def s_X1_sum_L10 (h : mH) : Nat → Int32 → Nat → Int32 → Int32 → Option (Int32)
  | 0, _, _, _, _ => none
  | n + 1, v1, v2, v3, v4 => if v3 ≤ v4 then (some v1) else ((m_iald h v2 v4).bind fun x19 => s_X1_sum_L10 h n (v1 + x19) v2 v3 (v4 + 1))
def s_X1_sum (h : mH) (v0 : Nat) : Option (Int32) := (m_ilen h v0).bind fun x5 => s_X1_sum_L10 h m_F 0 v0 x5 0
def s_X4_make_b28 (h : mH) (t0 : Int32) (t1 : Int32) : Option (Int32) := some (t0 ||| t1)
def s_X4_make (h : mH) (v0 : Int32) (v1 : Int32) (v2 : Int32) (v3 : Int32) (v4 : Int32) : Option (Int32) := if v4 = 0 then (s_X4_make_b28 h ((((v1 <<< (19 &&& 31)) ||| (v2 <<< (8 &&& 31))) ||| (v0 <<< (6 &&& 31))) ||| (v3 <<< (2 &&& 31))) 0) else (s_X4_make_b28 h ((((v1 <<< (19 &&& 31)) ||| (v2 <<< (8 &&& 31))) ||| (v0 <<< (6 &&& 31))) ||| (v3 <<< (2 &&& 31))) 2)
def s_X4_timeOf (h : mH) (v0 : Int32) : Option (Int32) := some (v0 >>> (8 &&& 31))
def s_X4_weekOf (h : mH) (v0 : Int32) : Option (Int32) := (s_X4_dayOf h v0).bind fun x1 => (m_div x1 7).bind fun x6 => some x6
def s_X5_insert_b61 (h : mH) (v0 : Nat) (v1 : Int32) (v2 : Int32) : Option (Int32 × mH) := (m_gr h 3 v0 0).bind fun x62 => (s_X1_put h x62 v2 v1).bind fun h67 => (m_gi h67 3 v0 1).bind fun x72 => (m_put h67 3 v0 1 (.int (x72 + 1))).bind fun h77 => some (v2, h77)
def s_X5_insert_L19 : Nat → mH → Nat → Int32 → Int32 → Option (Int32 × mH)
  | 0, _, _, _, _ => none
  | n + 1, h, v0, v1, v2 => if v2 ≤ 0 then (s_X5_insert_b61 h v0 v1 v2) else ((m_is h 3 v0).bind fun _ => (s_X5_tapAt h v0 (v2 - 1)).bind fun x27 => (s_X4_timeOf h x27).bind fun x30 => (s_X4_timeOf h v1).bind fun x34 => if x30 ≤ x34 then (s_X5_insert_b61 h v0 v1 v2) else ((m_gr h 3 v0 0).bind fun x41 => (m_is h 3 v0).bind fun _ => (s_X5_tapAt h v0 (v2 - 1)).bind fun x49 => (s_X1_put h x41 v2 x49).bind fun h52 => s_X5_insert_L19 n h52 v0 v1 (v2 + (-1))))
def s_X5_insert (h : mH) (v0 : Nat) (v1 : Int32) : Option (Int32 × mH) := (m_gi h 3 v0 1).bind fun x1 => (m_gr h 3 v0 0).bind fun x5 => (m_ilen h x5).bind fun x8 => if x1 < x8 then ((m_gi h 3 v0 1).bind fun x15 => s_X5_insert_L19 m_F h v0 v1 x15) else (some ((-1), h))
