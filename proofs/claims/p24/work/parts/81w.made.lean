/-! PURE: the saved states and the whole object are made -/
section PMa
theorem two_fr {h h' : mH} {lo hi B : Nat} (hq : ∀ q, ((lo ≤ q ∧ q < hi) ∨ B ≤ q) → h' q = h q) : ∃ hm : mH, fr h hm 0 lo ∧ fr hm h' hi B := by
  refine ⟨fun q => if q < lo then h' q else h q, fun q z => ?_, fun q z => ?_⟩
  · show (if q < lo then h' q else h q) = h q
    rw [if_neg (by omega)]
  · show h' q = (if q < lo then h' q else h q)
    by_cases y : q < lo
    · rw [if_pos y]
    · rw [if_neg y, hq q (by omega)]
def pS (h0 h : mH) (g : Nat) (f : Nat → Int32) (j : Nat) : Prop := h g = some (mO 1 [.ref (g + 1), .int 0, .int 0]) ∧ (∃ rf : Nat → Option Nat, h (g + 1) = some (mR 6 rf) ∧ ∀ i, i < j → rf i = some (g + 2 + 9 * i) ∧ isC h (g + 2 + 9 * i) (k0 f)) ∧ fr h0 h g (g + 2 + 9 * j)
theorem pS_step {st : m_T} {h0 h : mH} {g j : Nat} {f : Nat → Int32} (hj : j < 6) (T : isT h0 (st.2 0) 6 f) (ht : st.2 0 < g) (P : pS h0 h g f j) : ∃ h', pS h0 h' g f (j + 1) ∧ ∀ K : mH → Nat → Option (mH × Nat), ((m_gr h 1 g 0).bind fun x17 => (m_alen h x17).bind fun x20 => if x20 ≤ nI j then ((m_put h 1 g 1 (.int 0)).bind fun h45 => (m_put h45 1 g 2 (.int 0)).bind fun h50 => some (h50, g + 2 + 9 * j)) else ((m_gr h 1 g 0).bind fun x25 => (some (m_up h (g + 2 + 9 * j) (mO 2 [.null, .null, .null, .null, .null, .null, .null, .int 0, .int 0, .int 0]))).bind fun h29 => (s_X3_init st h29 (g + 2 + 9 * j + 1) (g + 2 + 9 * j)).bind fun (h33, z33) => (m_aast h33 x25 (nI j) (g + 2 + 9 * j)).bind fun h36 => K h36 z33)) = K h' (g + 2 + 9 * (j + 1)) := by
  obtain ⟨o, ⟨rf, r, hr⟩, F⟩ := P
  have E1 : fr h (m_up h (g + 2 + 9 * j) (mO 2 [.null, .null, .null, .null, .null, .null, .null, .int 0, .int 0, .int 0])) (g + 2 + 9 * j) (g + 2 + 9 * j + 1) := fr.up
  obtain ⟨h2, e2, c2, f2⟩ := X3i (st := st) (f := f) (m_up_same h (g + 2 + 9 * j) (mO 2 [.null, .null, .null, .null, .null, .null, .null, .int 0, .int 0, .int 0])) ((T.fr F (by omega)).fr E1 (by omega)) (by omega)
  have W : fr h h2 (g + 2 + 9 * j) (g + 2 + 9 * j + 9) := (E1.wd (by omega) (by omega)).tr f2
  have r2 := W.O r (show g + 1 < g + 2 + 9 * j ∨ _ by omega)
  have o2 := W.O o (show g < g + 2 + 9 * j ∨ _ by omega)
  have hj2 : j < 2 ^ 31 := by omega
  have w : m_aast h2 (g + 1) (nI j) (g + 2 + 9 * j) = some (m_up h2 (g + 1) (mR 6 (va_up rf j (some (g + 2 + 9 * j))))) := by
    have c := c2.1
    unfold cO at c
    simp only [m_aast, r2, c, nI_cl hj2, nI_nn hj2, hj, not_false_eq_true, and_self, if_true]
  have E3 : fr h2 (m_up h2 (g + 1) (mR 6 (va_up rf j (some (g + 2 + 9 * j))))) (g + 1) (g + 2) := fr.up
  refine ⟨_, ⟨E3.O o2 (by omega), ⟨_, m_up_same _ _ _, fun i hi => ?_⟩, (F.wd (by omega) (by omega)).tr ((W.wd (by omega) (by omega)).tr (E3.wd (by omega) (by omega)))⟩, fun K => ?_⟩
  · by_cases q : i = j
    · subst q
      exact ⟨if_pos rfl, c2.fr E3 (by omega)⟩
    · obtain ⟨q1, q2⟩ := hr i (by omega)
      exact ⟨(if_neg q).trans q1, (q2.fr W (by omega)).fr E3 (by omega)⟩
  · have e1 : m_alen h (g + 1) = some (nI 6) := by simp only [m_alen, r]; rfl
    rw [gr_O o (k := 0) rfl, bS, e1, bS, if_neg (nI_ge hj (by decide)), bS, bS, e2, bS]
    show ((m_aast h2 (g + 1) (nI j) (g + 2 + 9 * j)).bind fun h36 => K h36 (g + 2 + 9 * j + 9)) = _
    rw [w]; rfl
theorem X2i {st : m_T} {h : mH} {g : Nat} {f : Nat → Int32} {sv : Nat → mK} (H : h g = some (mO 1 [.null, .int 0, .int 0])) (T : isT h (st.2 0) 6 f) (ht : st.2 0 < g) : ∃ h', s_X2_init st h (g + 1) g = some (h', g + 56) ∧ isV h' g 0 sv ∧ fr h h' g (g + 56) := by
  have E1 : fr h (m_up h (g + 1) (mR 6 (fun _ => none))) (g + 1) (g + 2) := fr.up
  obtain ⟨h0, e0, o0, f0⟩ := putO (E1.O H (by omega)) 0 (.ref (g + 1)) (show 0 < 3 by decide)
  have P0 : pS h h0 g f 0 := ⟨o0, ⟨_, f0.O (m_up_same h (g + 1) (mR 6 (fun _ => none))) (by omega), fun i hi => absurd hi (by omega)⟩, (E1.wd (by omega) (by omega)).tr (f0.wd (by omega) (by omega))⟩
  obtain ⟨h1, P1, s0⟩ := pS_step (st := st) (show 0 < 6 by decide) T ht P0
  obtain ⟨h2, P2, s1⟩ := pS_step (st := st) (show 1 < 6 by decide) T ht P1
  obtain ⟨h3, P3, s2⟩ := pS_step (st := st) (show 2 < 6 by decide) T ht P2
  obtain ⟨h4, P4, s3⟩ := pS_step (st := st) (show 3 < 6 by decide) T ht P3
  obtain ⟨h5, P5, s4⟩ := pS_step (st := st) (show 4 < 6 by decide) T ht P4
  obtain ⟨h6, P6, s5⟩ := pS_step (st := st) (show 5 < 6 by decide) T ht P5
  obtain ⟨o6, ⟨rf, r6, hr⟩, F6⟩ := P6
  obtain ⟨h7, e7, o7, f7⟩ := putO o6 1 (.int 0) (show 1 < 3 by decide)
  obtain ⟨h8, e8, o8, f8⟩ := putO o7 2 (.int 0) (show 2 < 3 by decide)
  have Z : fr h6 h8 g (g + 1) := f7.tr f8
  refine ⟨h8, ?_, ⟨0, fun _ => k0 f, rf, o8, Z.O r6 (by omega), fun i hi => (hr i hi).1, by decide, by decide, fun i hi => (hr i hi).2.fr Z (by omega), fun j hj => absurd hj (by omega)⟩, F6.tr (Z.wd (by omega) (by omega))⟩
  have e1 : m_alen h6 (g + 1) = some (nI 6) := by simp only [m_alen, r6]; rfl
  have l6 : ∀ z, s_X2_init_L15_6 st h6 z g (nI 6) = some (h8, z) := by
    intro z
    rw [s_X2_init_L15_6, gr_O o6 (k := 0) rfl, bS, e1, bS, if_pos (show nI 6 ≤ nI 6 by decide), e7, bS, e8, bS]
  have l5 : s_X2_init_L15_5 st h5 (g + 2 + 9 * 5) g (nI 5) = some (h8, g + 2 + 9 * 6) := (s5 (fun a z => s_X2_init_L15_6 st a z g (nI 5 + 1))).trans (by rw [show nI 5 + 1 = nI 6 from rfl]; exact l6 _)
  have l4 : s_X2_init_L15_4 st h4 (g + 2 + 9 * 4) g (nI 4) = some (h8, g + 2 + 9 * 6) := (s4 (fun a z => s_X2_init_L15_5 st a z g (nI 4 + 1))).trans l5
  have l3 : s_X2_init_L15_3 st h3 (g + 2 + 9 * 3) g (nI 3) = some (h8, g + 2 + 9 * 6) := (s3 (fun a z => s_X2_init_L15_4 st a z g (nI 3 + 1))).trans l4
  have l2 : s_X2_init_L15_2 st h2 (g + 2 + 9 * 2) g (nI 2) = some (h8, g + 2 + 9 * 6) := (s2 (fun a z => s_X2_init_L15_3 st a z g (nI 2 + 1))).trans l3
  have l1 : s_X2_init_L15_1 st h1 (g + 2 + 9 * 1) g (nI 1) = some (h8, g + 2 + 9 * 6) := (s1 (fun a z => s_X2_init_L15_2 st a z g (nI 1 + 1))).trans l2
  have l0 : s_X2_init_L15_0 st h0 (g + 2 + 9 * 0) g (nI 0) = some (h8, g + 2 + 9 * 6) := (s0 (fun a z => s_X2_init_L15_1 st a z g (nI 0 + 1))).trans l1
  rw [s_X2_init, bS, e0, bS]
  exact l0
theorem X7i {st : m_T} {h : mH} {X : Nat} {f : Nat → Int32} {sv : Nat → mK} (H : h X = some (mO 5 [.null, .null, .null, .null, .null, .null, .int 0, .null])) (T : isT h (st.2 0) 6 f) (ht : st.2 0 < X) : ∃ h', s_X7_init st h (X + 1) X = some (h', X + 87) ∧ isW h' X (k0 f) 0 sv 0 (fun _ => 0) ∧ fr h h' X (X + 87) := by
  have E1 : fr h (m_up h (X + 1) (mO 2 [.null, .null, .null, .null, .null, .null, .null, .int 0, .int 0, .int 0])) (X + 1) (X + 2) := fr.up
  obtain ⟨h1, e1, c1, f1⟩ := X3i (st := st) (f := f) (m_up_same h (X + 1) (mO 2 [.null, .null, .null, .null, .null, .null, .null, .int 0, .int 0, .int 0])) (T.fr E1 (by omega)) (by omega)
  obtain ⟨h2, e2, o2, f2⟩ := putO (f1.O (E1.O H (by omega)) (by omega)) 0 (.ref (X + 1)) (show 0 < 8 by decide)
  have E3 : fr h2 (m_up h2 (X + 10) (mO 0 [.null, .null, .null, .null, .null, .null, .null, .int 0, .int 0])) (X + 10) (X + 11) := fr.up
  obtain ⟨h3, e3, c3, f3⟩ := X0i (m_up_same h2 (X + 10) (mO 0 [.null, .null, .null, .null, .null, .null, .null, .int 0, .int 0]))
  obtain ⟨h4, e4, o4, f4⟩ := putO (f3.O (E3.O o2 (by omega)) (by omega)) 1 (.ref (X + 10)) (show 1 < 8 by decide)
  have E5 : fr h4 (m_up h4 (X + 18) (mO 1 [.null, .int 0, .int 0])) (X + 18) (X + 19) := fr.up
  have W4 : fr h h4 X (X + 18) := (E1.wd (by omega) (by omega)).tr ((f1.wd (by omega) (by omega)).tr ((f2.wd (by omega) (by omega)).tr ((E3.wd (by omega) (by omega)).tr ((f3.wd (by omega) (by omega)).tr (f4.wd (by omega) (by omega))))))
  obtain ⟨h5, e5, c5, f5⟩ := X2i (st := st) (f := f) (sv := sv) (m_up_same h4 (X + 18) (mO 1 [.null, .int 0, .int 0])) ((T.fr W4 (by omega)).fr E5 (by omega)) (by omega)
  obtain ⟨h6, e6, o6, f6⟩ := putO (f5.O (E5.O o4 (by omega)) (by omega)) 2 (.ref (X + 18)) (show 2 < 8 by decide)
  have E7 : fr h6 (m_up h6 (X + 74) (mO 3 [.null, .int 0])) (X + 74) (X + 75) := fr.up
  obtain ⟨h7, e7, c7, f7⟩ := X5i (tp := fun _ _ => 0) (m_up_same h6 (X + 74) (mO 3 [.null, .int 0]))
  obtain ⟨h8, e8, o8, f8⟩ := putO (f7.O (E7.O o6 (by omega)) (by omega)) 3 (.ref (X + 74)) (show 3 < 8 by decide)
  have E9 : fr h8 (m_up h8 (X + 76) (mO 0 [.null, .null, .null, .null, .null, .null, .null, .int 0, .int 0])) (X + 76) (X + 77) := fr.up
  obtain ⟨h9, e9, c9, f9⟩ := X0i (m_up_same h8 (X + 76) (mO 0 [.null, .null, .null, .null, .null, .null, .null, .int 0, .int 0]))
  obtain ⟨hA, eA, oA', fA⟩ := putO (f9.O (E9.O o8 (by omega)) (by omega)) 4 (.ref (X + 76)) (show 4 < 8 by decide)
  have EB : fr hA (m_up hA (X + 84) (mI 60 (fun _ => 0))) (X + 84) (X + 85) := fr.up
  obtain ⟨hB, eB, oB', fB⟩ := putO (EB.O oA' (by omega)) 5 (.ref (X + 84)) (show 5 < 8 by decide)
  obtain ⟨hC, eC, oC, fC⟩ := putO oB' 6 (.int 0) (show 6 < 8 by decide)
  have ED : fr hC (m_up hC (X + 85) (mO 4 [.null, .int 0, .int 0, .int 0, .int 0, .int 0, .int 0, .int 0])) (X + 85) (X + 86) := fr.up
  obtain ⟨hE, eE, cE, fE⟩ := X6i (m_up_same hC (X + 85) (mO 4 [.null, .int 0, .int 0, .int 0, .int 0, .int 0, .int 0, .int 0]))
  obtain ⟨hF, eF, oF, fF⟩ := putO (fE.O (ED.O oC (by omega)) (by omega)) 7 (.ref (X + 85)) (show 7 < 8 by decide)
  -- what changes behind each stage
  have ZE : fr hE hF X (X + 1) := fF
  have ZC : ∀ q, (q < X ∨ (X + 1 ≤ q ∧ q < X + 85) ∨ X + 87 ≤ q) → hF q = hC q := fun q hq => by rw [fF q (by omega), fE q (by omega), ED q (by omega)]
  have ZA : ∀ q, (q < X ∨ (X + 1 ≤ q ∧ q < X + 84) ∨ X + 87 ≤ q) → hF q = hA q := fun q hq => by rw [ZC q (by omega), fC q (by omega), fB q (by omega), EB q (by omega)]
  have Z8 : ∀ q, (q < X ∨ (X + 1 ≤ q ∧ q < X + 76) ∨ X + 87 ≤ q) → hF q = h8 q := fun q hq => by rw [ZA q (by omega), fA q (by omega), f9 q (by omega), E9 q (by omega)]
  have Z6 : ∀ q, (q < X ∨ (X + 1 ≤ q ∧ q < X + 74) ∨ X + 87 ≤ q) → hF q = h6 q := fun q hq => by rw [Z8 q (by omega), f8 q (by omega), f7 q (by omega), E7 q (by omega)]
  have Z4 : ∀ q, (q < X ∨ (X + 1 ≤ q ∧ q < X + 18) ∨ X + 87 ≤ q) → hF q = h4 q := fun q hq => by rw [Z6 q (by omega), f6 q (by omega), f5 q (by omega), E5 q (by omega)]
  have Z2 : ∀ q, (q < X ∨ (X + 1 ≤ q ∧ q < X + 10) ∨ X + 87 ≤ q) → hF q = h2 q := fun q hq => by rw [Z4 q (by omega), f4 q (by omega), f3 q (by omega), E3 q (by omega)]
  have U8 : ∀ q, X + 87 ≤ q → hF q = h q := fun q hq => by rw [Z2 q (by omega), f2 q (by omega), f1 q (by omega), E1 q (by omega)]
  obtain ⟨m1, p1, q1⟩ := two_fr (h := h1) (h' := hF) (lo := X + 1) (hi := X + 10) (B := X + 87) (fun q hq => by rw [Z2 q (by omega), f2 q (by omega)])
  obtain ⟨m3, p3, q3⟩ := two_fr (h := h3) (h' := hF) (lo := X + 10) (hi := X + 18) (B := X + 87) (fun q hq => by rw [Z4 q (by omega), f4 q (by omega)])
  obtain ⟨m5, p5, q5⟩ := two_fr (h := h5) (h' := hF) (lo := X + 18) (hi := X + 74) (B := X + 87) (fun q hq => by rw [Z6 q (by omega), f6 q (by omega)])
  obtain ⟨m7, p7, q7⟩ := two_fr (h := h7) (h' := hF) (lo := X + 74) (hi := X + 76) (B := X + 87) (fun q hq => by rw [Z8 q (by omega), f8 q (by omega)])
  obtain ⟨m9, p9, q9⟩ := two_fr (h := h9) (h' := hF) (lo := X + 76) (hi := X + 84) (B := X + 87) (fun q hq => by rw [ZA q (by omega), fA q (by omega)])
  obtain ⟨mB, pB, qB⟩ := two_fr (h := m_up hA (X + 84) (mI 60 (fun _ => 0))) (h' := hF) (lo := X + 84) (hi := X + 85) (B := X + 87) (fun q hq => by rw [fF q (by omega), fE q (by omega), ED q (by omega), fC q (by omega), fB q (by omega)])
  have C1 : isC hF (X + 1) (k0 f) := (c1.fr p1 (by omega)).fr q1 (by omega)
  have C3 : isRG hF (X + 10) := (c3.fr p3 (by omega)).fr q3 (by omega)
  have C5 : isV hF (X + 18) 0 sv := (c5.fr p5 (by omega)).fr q5 (by omega)
  have C7 : isTR hF (X + 74) 0 (fun _ _ => 0) := (c7.fr p7 (by omega)).fr q7 (by omega)
  have C9 : isRG hF (X + 76) := (c9.fr p9 (by omega)).fr q9 (by omega)
  have CB : isA hF (X + 84) 60 (fun _ => 0) := ((new_A hA (X + 84) 60).fr pB (by omega)).fr qB (by omega)
  have CE : isRR hF (X + 85) := cE.fr fF (by omega)
  have O : hF X = some (xO X 0) := oF
  have U : isU hF X (k0 f) 0 sv 0 (fun _ => 0) := ⟨O, C1, C3, C5, ⟨_, _, C7⟩, C9, CB, CE⟩
  have W : fr h hF X (X + 87) := fun q hq => by
    rcases hq with hq | hq
    · rw [Z2 q (by omega), f2 q (by omega), f1 q (by omega), E1 q (by omega)]
    · exact U8 q hq
  obtain ⟨g1, g2, g3⟩ := C1
  obtain ⟨hG, r1, r2, r3⟩ := readFrom_R (show 0 ≤ 61 by decide) (fun i hi => absurd hi (by omega)) (show X + 1 + 1 + 2 ≤ X + 10 ∨ _ by omega) (show X + 1 + 3 < X + 10 ∨ _ by omega) C3 g2 g3.1
  refine ⟨hG, ?_, ⟨r3.O O (by omega), (show isC hF (X + 1) (k0 f) from ⟨g1, g2, g3⟩).fr r3 (by omega), r2, C5.fr r3 (by omega), ⟨_, _, C7.fr r3 (by omega)⟩, C9.fr r3 (by omega), CB.fr r3 (by omega), CE.fr r3 (by omega)⟩, W.tr (r3.wd (by omega) (by omega))⟩
  rw [s_X7_init, bS, e1, bS]
  show ((m_put h1 5 X 0 (.ref (X + 1))).bind fun h12 => _) = _
  rw [e2, bS, bS]
  show ((s_X0_init (m_up h2 (X + 10) (mO 0 [.null, .null, .null, .null, .null, .null, .null, .int 0, .int 0])) (X + 10 + 1) (X + 10)).bind fun (h20, z20) => _) = _
  rw [e3, bS]
  show ((m_put h3 5 X 1 (.ref (X + 10))).bind fun h23 => _) = _
  rw [e4, bS, bS]
  show ((s_X2_init st (m_up h4 (X + 18) (mO 1 [.null, .int 0, .int 0])) (X + 18 + 1) (X + 18)).bind fun (h31, z31) => _) = _
  rw [e5, bS]
  show ((m_put h5 5 X 2 (.ref (X + 18))).bind fun h34 => _) = _
  rw [e6, bS, bS]
  show ((s_X5_init (m_up h6 (X + 74) (mO 3 [.null, .int 0])) (X + 74 + 1) (X + 74)).bind fun (h42, z42) => _) = _
  rw [e7, bS]
  show ((m_put h7 5 X 3 (.ref (X + 74))).bind fun h45 => _) = _
  rw [e8, bS, bS]
  show ((s_X0_init (m_up h8 (X + 76) (mO 0 [.null, .null, .null, .null, .null, .null, .null, .int 0, .int 0])) (X + 76 + 1) (X + 76)).bind fun (h53, z53) => _) = _
  rw [e9, bS]
  show ((m_put h9 5 X 4 (.ref (X + 76))).bind fun h56 => _) = _
  rw [eA, bS, bS]
  show ((m_put (m_up hA (X + 84) (mI 60 (fun _ => 0))) 5 X 5 (.ref (X + 84))).bind fun h64 => _) = _
  rw [eB, bS, eC, bS, bS]
  show ((s_X6_init (m_up hC (X + 85) (mO 4 [.null, .int 0, .int 0, .int 0, .int 0, .int 0, .int 0, .int 0])) (X + 85 + 1) (X + 85)).bind fun (h77, z77) => _) = _
  rw [eE, bS]
  show ((m_put hE 5 X 7 (.ref (X + 85))).bind fun h80 => _) = _
  rw [eF, bS, gr_O O (k := 1) rfl, bS, gr_O O (k := 0) rfl, bS, gr_O g1 (k := 0) rfl, bS, bS, gr_O g1 (k := 1) rfl, bS, is_O C3.1.choose_spec.choose_spec, bS, r1, bS]
end PMa
