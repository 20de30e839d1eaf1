/-! PURE: the class' reader, sign by sign -/
section PRe
def rdO (g tc st : Nat) (a b c d e : Int32) : mE := mO 4 [.ref (g + 1), .int (nI tc), .int (nI st), .int a, .int b, .int c, .int d, .int e]
theorem dig_lo : ∀ c, c < 48 → nI c - 48 < 0 := by decide
theorem dig_hi {c : Nat} (h : 48 ≤ c) : nI c - 48 = nI (c - 48) := by rw [show (48 : Int32) = nI 48 from rfl, nI_sub h]
theorem dig_no {h : mH} {c b : Nat} (hc : c < 127) (hb : b < 2 ^ 31) (q : ¬ (48 ≤ c ∧ c < 48 + b)) : s_X7_isBelow h (nI c - 48) (nI b) = some 0 := by
  by_cases q1 : 48 ≤ c
  · rw [dig_hi q1]
    exact below_no (Or.inr (nI_le (by omega) (by omega)))
  · exact below_no (Or.inl (dig_lo c (by omega)))
theorem dig_yes {h : mH} {c b : Nat} (hc : c < 127) (hb : b < 2 ^ 31) (q : 48 ≤ c ∧ c < 48 + b) : s_X7_isBelow h (nI c - 48) (nI b) = some 1 := by
  rw [dig_hi q.1]
  exact below_yes (by omega) hb
variable {h : mH} {g tc st : Nat} {a b c d e : Int32}
theorem goes1 (H : h g = some (rdO g tc st a b c d e)) (st' : Nat) : s_X6_goesOn h g 1 (nI st') = some (1, m_up h g (rdO g tc st' a b c d e)) := by
  have w : m_put h 4 g 2 (.int (nI st')) = some (m_up h g (rdO g tc st' a b c d e)) := put_O H (k := 2) (show 2 < 8 by decide)
  rw [s_X6_goesOn, if_neg (by decide), w, bS]; rfl
theorem goes0 {v : Int32} : s_X6_goesOn h g 0 v = some (0, h) := by
  rw [s_X6_goesOn, if_pos rfl]; rfl
theorem starts1 (H : h g = some (rdO g tc st a b c d e)) {x : Nat} (hx : x < 127) (st' : Nat) (q : 48 ≤ x ∧ x < 58) : ∃ h', s_X6_startsNumber h g (nI x) (nI st') = some (1, h') ∧ h' g = some (rdO g tc st' (nI (x - 48)) b c d e) ∧ fr h h' g (g + 1) := by
  have w : m_put h 4 g 3 (.int (nI x - 48)) = some (m_up h g (rdO g tc st (nI x - 48) b c d e)) := put_O H (k := 3) (show 3 < 8 by decide)
  have u : (m_up h g (rdO g tc st (nI x - 48) b c d e)) g = some (rdO g tc st (nI x - 48) b c d e) := m_up_same _ _ _
  refine ⟨m_up (m_up h g (rdO g tc st (nI x - 48) b c d e)) g (rdO g tc st' (nI x - 48) b c d e), ?_, ?_, fr.tr fr.up fr.up⟩
  · rw [s_X6_startsNumber, w, bS, gi_O u (k := 3) rfl, bS, show (10 : Int32) = nI 10 from rfl, dig_yes hx (by decide) q, bS, is_O u, bS, goes1 u, bS]; rfl
  · rw [m_up_same, dig_hi q.1]
theorem starts0 (H : h g = some (rdO g tc st a b c d e)) {x : Nat} (hx : x < 127) {v : Int32} (q : ¬ (48 ≤ x ∧ x < 58)) : ∃ h', s_X6_startsNumber h g (nI x) v = some (0, h') ∧ h' g = some (rdO g tc st (nI x - 48) b c d e) ∧ fr h h' g (g + 1) := by
  have w : m_put h 4 g 3 (.int (nI x - 48)) = some (m_up h g (rdO g tc st (nI x - 48) b c d e)) := put_O H (k := 3) (show 3 < 8 by decide)
  have u : (m_up h g (rdO g tc st (nI x - 48) b c d e)) g = some (rdO g tc st (nI x - 48) b c d e) := m_up_same _ _ _
  refine ⟨_, ?_, u, fr.up⟩
  rw [s_X6_startsNumber, w, bS, gi_O u (k := 3) rfl, bS, show (10 : Int32) = nI 10 from rfl, dig_no hx (by decide) q, bS, is_O u, bS, goes0, bS]; rfl
theorem length1 {m B x : Nat} (H : h g = some (rdO g tc st (nI m) b c d e)) (hx : x < 127) (hm : m < 10000) (hB : B < 2 ^ 31) (q : 48 ≤ x ∧ x < 58) (q0 : m ≠ 0) (q1 : m * 10 + (x - 48) < B) : ∃ h', s_X6_lengthensNumber h g (nI x) (nI B) = some (1, h') ∧ h' g = some (rdO g tc st (nI (m * 10 + (x - 48))) b c d e) ∧ fr h h' g (g + 1) := by
  have ev : nI m * 10 + (nI x - 48) = nI (m * 10 + (x - 48)) := by rw [dig_hi q.1, show (10 : Int32) = nI 10 from rfl, nI_mul, nI_add]
  have w : m_put h 4 g 3 (.int (nI (m * 10 + (x - 48)))) = some (m_up h g (rdO g tc st (nI (m * 10 + (x - 48))) b c d e)) := put_O H (k := 3) (show 3 < 8 by decide)
  refine ⟨_, ?_, m_up_same _ _ _, fr.up⟩
  rw [s_X6_lengthensNumber, show (10 : Int32) = nI 10 from rfl, dig_yes hx (by decide) q, bS, if_neg (by decide), gi_O H (k := 3) rfl, bS, if_neg (nI_ne0 (by omega) (by omega)), bS, show nI 10 = (10 : Int32) from rfl, ev, below_yes q1 hB, bS, if_neg (by decide), bS, ev, w]; rfl
theorem length0 {m B x : Nat} (H : h g = some (rdO g tc st (nI m) b c d e)) (hx : x < 127) (hm : m < 10000) (hB : B < 2 ^ 31) (q : ¬ ((48 ≤ x ∧ x < 58) ∧ m ≠ 0 ∧ m * 10 + (x - 48) < B)) : s_X6_lengthensNumber h g (nI x) (nI B) = some (0, h) := by
  rw [s_X6_lengthensNumber, show (10 : Int32) = nI 10 from rfl]
  by_cases q1 : 48 ≤ x ∧ x < 58
  · rw [dig_yes hx (by decide) q1, bS, if_neg (by decide), gi_O H (k := 3) rfl, bS]
    by_cases q2 : m = 0
    · rw [q2, if_pos (show nI 0 = 0 from rfl)]; rfl
    · have ev : nI m * nI 10 + (nI x - 48) = nI (m * 10 + (x - 48)) := by rw [dig_hi q1.1, nI_mul, nI_add]
      rw [if_neg (nI_ne0 (by omega) (by omega)), bS, ev, below_no (Or.inr (nI_le (by omega) (by omega))), bS, if_pos rfl]; rfl
  · rw [dig_no hx (by decide) q1, bS, if_pos rfl]; rfl
/-- the reader: stage, number, wallet, day, minute, in; taps, how many -/
abbrev mD : Type := Nat × (Nat × (Nat × (Nat × (Nat × (Nat × (Nat × (Nat → Nat → Nat)))))))
def mkD (st nm wl dy mn i tc : Nat) (tp : Nat → Nat → Nat) : mD := (st, nm, wl, dy, mn, i, tc, tp)
def dstep (s : mD) (x : Nat) : Option mD := match s with
  | (0, nm, _, dy, mn, i, tc, tp) => if 48 ≤ x ∧ x < 52 then some (mkD 1 nm (x - 48) dy mn i tc tp) else none
  | (1, nm, wl, dy, mn, i, tc, tp) => if x = 100 then some (mkD 2 nm wl dy mn i tc tp) else none
  | (2, _, wl, dy, mn, i, tc, tp) => if 48 ≤ x ∧ x < 58 then some (mkD 3 (x - 48) wl dy mn i tc tp) else none
  | (3, nm, wl, _, mn, i, tc, tp) => if x = 58 then some (mkD 4 nm wl nm mn i tc tp) else if (48 ≤ x ∧ x < 58) ∧ nm ≠ 0 ∧ nm * 10 + (x - 48) < 28 then some (mkD 3 (nm * 10 + (x - 48)) wl nm mn i tc tp) else none
  | (4, _, wl, dy, mn, i, tc, tp) => if 48 ≤ x ∧ x < 58 then some (mkD 5 (x - 48) wl dy mn i tc tp) else none
  | (5, nm, wl, dy, _, _, tc, tp) => if x = 43 ∨ x = 45 then some (mkD 6 nm wl dy nm (if x = 43 then 1 else 0) tc tp) else if (48 ≤ x ∧ x < 58) ∧ nm ≠ 0 ∧ nm * 10 + (x - 48) < 1440 then some (mkD 5 (nm * 10 + (x - 48)) wl dy nm 0 tc tp) else none
  | (6, nm, wl, dy, mn, i, tc, tp) => if 48 ≤ x ∧ x < 58 then some (mkD 7 nm wl dy mn i (tc + 1) (fun j => if j = tc then mkT wl dy mn (x - 48) i 0 else tp j)) else none
  | (st, nm, wl, dy, mn, i, tc, tp) => if x = 59 then some (mkD 0 nm wl dy mn i tc tp) else none
def isRD (h : mH) (g st nm wl dy mn i tc : Nat) (tp : Nat → Nat → Nat) : Prop := (∃ a b c d e, h g = some (rdO g tc st a b c d e) ∧ ((st = 3 ∨ st = 5) → a = nI nm) ∧ (1 ≤ st ∧ st ≤ 6 → b = nI wl) ∧ (4 ≤ st ∧ st ≤ 6 → c = nI dy) ∧ (st = 6 → d = nI mn ∧ e = nI i)) ∧ ∃ f, isA h (g + 1) 10 f ∧ ∀ j, j < tc → f j = pk (tp j)
def dV (st nm wl dy mn i tc p : Nat) (tp : Nat → Nat → Nat) : Prop := st ≤ 7 ∧ (st = 3 → nm < 28) ∧ (st = 5 → nm < 1440) ∧ (1 ≤ st ∧ st ≤ 6 → wl < 4) ∧ (4 ≤ st ∧ st ≤ 6 → dy < 28) ∧ (st = 6 → mn < 1440 ∧ i < 2) ∧ (st ≤ 6 → 8 * tc + st ≤ p) ∧ (st = 7 → 8 * tc ≤ p + 1) ∧ ∀ j, j < tc → vT (tp j)
theorem isRD.R {nm wl dy mn i : Nat} {tp : Nat → Nat → Nat} (A : isRD h g st nm wl dy mn i tc tp) : isRR h g := by
  obtain ⟨⟨a, b, c, d, e, H, -⟩, f, F, -⟩ := A
  exact ⟨⟨_, _, _, _, _, _, _, H⟩, f, F⟩
theorem rdO_R {h' : mH} {f : Nat → Int32} (H : h' g = some (rdO g tc st a b c d e)) (F : isA h (g + 1) 10 f) (E : fr h h' g (g + 1)) : isRR h' g := ⟨⟨_, _, _, _, _, _, _, H⟩, f, F.fr E (by omega)⟩
end PRe
