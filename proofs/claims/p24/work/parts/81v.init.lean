/-! PURE: the class is made -/
section PIn
theorem putO {h : mH} {ci a : Nat} {fs : List Value} (H : h a = some (mO ci fs)) (k : Nat) (v : Value) (hk : k < fs.length) : ∃ h', m_put h ci a k v = some h' ∧ h' a = some (mO ci (fs.set k v)) ∧ fr h h' a (a + 1) :=
  ⟨_, put_O H hk, m_up_same _ _ _, fr.up⟩
theorem new_A (h : mH) (a n : Nat) : isA (m_up h a (mI n (fun _ => 0))) a n (fun _ => 0) := isA.up fun _ _ => rfl
theorem X5i {h : mH} {g : Nat} {tp : Nat → Nat → Nat} (H : h g = some (mO 3 [.null, .int 0])) : ∃ h', s_X5_init h (g + 1) g = some (h', g + 2) ∧ isTR h' g 0 tp ∧ fr h h' g (g + 2) := by
  have E1 : fr h (m_up h (g + 1) (mI 61 (fun _ => 0))) (g + 1) (g + 2) := fr.up
  obtain ⟨h2, e2, o2, f2⟩ := putO (E1.O H (by omega)) 0 (.ref (g + 1)) (show 0 < 2 by decide)
  obtain ⟨h3, e3, o3, f3⟩ := putO o2 1 (.int 0) (show 1 < 2 by decide)
  refine ⟨h3, ?_, ⟨o3, _, ((new_A h (g + 1) 61).fr f2 (by omega)).fr f3 (by omega), fun i hi => absurd hi (by omega)⟩, (E1.wd (by omega) (by omega)).tr ((f2.wd (by omega) (by omega)).tr (f3.wd (by omega) (by omega)))⟩
  rw [s_X5_init, bS, e2, bS, e3]; rfl
def k0 (f : Nat → Int32) : mK := (0, (fun _ _ => 0), f, (fun _ => 0), (fun _ => 0), (fun _ => 0), (fun _ => 0), (fun _ _ => 0), (fun _ _ => 0), 0, 0, 0)
theorem X3i {st : m_T} {h : mH} {g : Nat} {f : Nat → Int32} (H : h g = some (mO 2 [.null, .null, .null, .null, .null, .null, .null, .int 0, .int 0, .int 0])) (T : isT h (st.2 0) 6 f) (ht : st.2 0 < g) : ∃ h', s_X3_init st h (g + 1) g = some (h', g + 9) ∧ isC h' g (k0 f) ∧ fr h h' g (g + 9) := by
  have E1 : fr h (m_up h (g + 1) (mO 3 [.null, .int 0])) (g + 1) (g + 2) := fr.up
  obtain ⟨h2, e2, o2, f2⟩ := X5i (tp := fun _ _ => 0) (m_up_same h (g + 1) (mO 3 [.null, .int 0]))
  obtain ⟨h3, e3, o3, f3⟩ := putO (f2.O (E1.O H (by omega)) (by omega)) 0 (.ref (g + 1)) (show 0 < 10 by decide)
  have E4 : fr h3 (m_up h3 (g + 3) (mI 6 (fun _ => 0))) (g + 3) (g + 4) := fr.up
  obtain ⟨h5, e5, o5, f5⟩ := putO (E4.O o3 (by omega)) 1 (.ref (g + 3)) (show 1 < 10 by decide)
  have E6 : fr h5 (m_up h5 (g + 4) (mI 16 (fun _ => 0))) (g + 4) (g + 5) := fr.up
  obtain ⟨h7, e7, o7, f7⟩ := putO (E6.O o5 (by omega)) 2 (.ref (g + 4)) (show 2 < 10 by decide)
  have E8 : fr h7 (m_up h7 (g + 5) (mI 16 (fun _ => 0))) (g + 5) (g + 6) := fr.up
  obtain ⟨h9, e9, o9, f9⟩ := putO (E8.O o7 (by omega)) 3 (.ref (g + 5)) (show 3 < 10 by decide)
  have EA : fr h9 (m_up h9 (g + 6) (mI 16 (fun _ => 0))) (g + 6) (g + 7) := fr.up
  obtain ⟨hB, eB, oB', fB⟩ := putO (EA.O o9 (by omega)) 4 (.ref (g + 6)) (show 4 < 10 by decide)
  have EC : fr hB (m_up hB (g + 7) (mI 32 (fun _ => 0))) (g + 7) (g + 8) := fr.up
  obtain ⟨hD, eD, oD, fD⟩ := putO (EC.O oB' (by omega)) 5 (.ref (g + 7)) (show 5 < 10 by decide)
  have EE : fr hD (m_up hD (g + 8) (mI 32 (fun _ => 0))) (g + 8) (g + 9) := fr.up
  obtain ⟨hF, eF, oF, fF⟩ := putO (EE.O oD (by omega)) 6 (.ref (g + 8)) (show 6 < 10 by decide)
  obtain ⟨hG, eG, oG, fG⟩ := putO oF 7 (.int 0) (show 7 < 10 by decide)
  obtain ⟨hH, eH, oH, fH⟩ := putO oG 8 (.int 0) (show 8 < 10 by decide)
  obtain ⟨hI, eI, oI, fI⟩ := putO oH 9 (.int 0) (show 9 < 10 by decide)
  -- from each stage to hI
  have ZI : fr hF hI g (g + 1) := fG.tr (fH.tr fI)
  have ZE : fr (m_up hD (g + 8) (mI 32 (fun _ => 0))) hI g (g + 1) := fF.tr ZI
  have ZD : fr hD hI g (g + 9) := (EE.wd (by omega) (by omega)).tr (ZE.wd (by omega) (by omega))
  have A8 : isA hI (g + 8) 32 (fun _ => 0) := (new_A hD (g + 8) 32).fr ZE (by omega)
  have A7 : isA hI (g + 7) 32 (fun _ => 0) := ((((new_A hB (g + 7) 32).fr fD (by omega)).fr EE (by omega))).fr ZE (by omega)
  have A6 : isA hI (g + 6) 16 (fun _ => 0) := ((((((new_A h9 (g + 6) 16).fr fB (by omega)).fr EC (by omega)).fr fD (by omega)).fr EE (by omega))).fr ZE (by omega)
  have A5 : isA hI (g + 5) 16 (fun _ => 0) := ((((((((new_A h7 (g + 5) 16).fr f9 (by omega)).fr EA (by omega)).fr fB (by omega)).fr EC (by omega)).fr fD (by omega)).fr EE (by omega))).fr ZE (by omega)
  have A4 : isA hI (g + 4) 16 (fun _ => 0) := ((((((((((new_A h5 (g + 4) 16).fr f7 (by omega)).fr E8 (by omega)).fr f9 (by omega)).fr EA (by omega)).fr fB (by omega)).fr EC (by omega)).fr fD (by omega)).fr EE (by omega))).fr ZE (by omega)
  have A3 : isA hI (g + 3) 6 (fun _ => 0) := ((((((((((((new_A h3 (g + 3) 6).fr f5 (by omega)).fr E6 (by omega)).fr f7 (by omega)).fr E8 (by omega)).fr f9 (by omega)).fr EA (by omega)).fr fB (by omega)).fr EC (by omega)).fr fD (by omega)).fr EE (by omega))).fr ZE (by omega)
  have R1 : isTR hI (g + 1) 0 (fun _ _ => 0) := (((((((((((((o2.fr f3 (by omega)).fr E4 (by omega)).fr f5 (by omega)).fr E6 (by omega)).fr f7 (by omega)).fr E8 (by omega)).fr f9 (by omega)).fr EA (by omega)).fr fB (by omega)).fr EC (by omega)).fr fD (by omega)).fr EE (by omega))).fr ZE (by omega)
  have W1 : fr h h3 g (g + 9) := (E1.wd (by omega) (by omega)).tr ((f2.wd (by omega) (by omega)).tr (f3.wd (by omega) (by omega)))
  have W2 : fr h3 h7 g (g + 9) := (E4.wd (by omega) (by omega)).tr ((f5.wd (by omega) (by omega)).tr ((E6.wd (by omega) (by omega)).tr (f7.wd (by omega) (by omega))))
  have W3 : fr h7 hB g (g + 9) := (E8.wd (by omega) (by omega)).tr ((f9.wd (by omega) (by omega)).tr ((EA.wd (by omega) (by omega)).tr (fB.wd (by omega) (by omega))))
  have W4 : fr hB hI g (g + 9) := (EC.wd (by omega) (by omega)).tr ((fD.wd (by omega) (by omega)).tr ZD)
  have W : fr h hI g (g + 9) := W1.tr (W2.tr (W3.tr W4))
  obtain ⟨hJ, eJ, oJ, fJ⟩ := copy_T (T.fr W (by omega)) A3 (by omega) (by decide)
  obtain ⟨hK, eK, oK, fK⟩ := fill_A (A7.fr fJ (by omega)) (by decide) (-1)
  obtain ⟨hL, eL, oL, fL⟩ := fill_A ((A8.fr fJ (by omega)).fr fK (by omega)) (by decide) (-1)
  have Y : fr hJ hL (g + 7) (g + 9) := (fK.wd (by omega) (by omega)).tr (fL.wd (by omega) (by omega))
  refine ⟨hL, ?_, ⟨Y.O (fJ.O oI (by omega)) (by omega), (R1.fr fJ (by omega)).fr Y (by omega), oJ.fr Y (by omega), (A4.fr fJ (by omega)).fr Y (by omega), (A5.fr fJ (by omega)).fr Y (by omega), (A6.fr fJ (by omega)).fr Y (by omega), oK.fr fL (by omega), oL⟩, W.tr ((fJ.wd (by omega) (by omega)).tr (Y.wd (by omega) (by omega)))⟩
  rw [s_X3_init, bS, e2, bS]
  show ((m_put h2 2 g 0 (.ref (g + 1))).bind fun h12 => _) = _
  rw [e3, bS, bS]
  show ((m_put (m_up h3 (g + 3) (mI 6 (fun _ => 0))) 2 g 1 (.ref (g + 3))).bind fun h20 => _) = _
  rw [e5, bS, bS]
  show ((m_put (m_up h5 (g + 4) (mI 16 (fun _ => 0))) 2 g 2 (.ref (g + 4))).bind fun h28 => _) = _
  rw [e7, bS, bS]
  show ((m_put (m_up h7 (g + 5) (mI 16 (fun _ => 0))) 2 g 3 (.ref (g + 5))).bind fun h36 => _) = _
  rw [e9, bS, bS]
  show ((m_put (m_up h9 (g + 6) (mI 16 (fun _ => 0))) 2 g 4 (.ref (g + 6))).bind fun h44 => _) = _
  rw [eB, bS, bS]
  show ((m_put (m_up hB (g + 7) (mI 32 (fun _ => 0))) 2 g 5 (.ref (g + 7))).bind fun h52 => _) = _
  rw [eD, bS, bS]
  show ((m_put (m_up hD (g + 8) (mI 32 (fun _ => 0))) 2 g 6 (.ref (g + 8))).bind fun h60 => _) = _
  rw [eF, bS, eG, bS, eH, bS, eI, bS, gr_O oI (k := 1) rfl, bS, eJ, bS, gr_O (fJ.O oI (by omega)) (k := 5) rfl, bS, eK, bS, gr_O (fK.O (fJ.O oI (by omega)) (by omega)) (k := 6) rfl, bS, eL]
  rfl
theorem X0i {h : mH} {g : Nat} (H : h g = some (mO 0 [.null, .null, .null, .null, .null, .null, .null, .int 0, .int 0])) : ∃ h', s_X0_init h (g + 1) g = some (h', g + 8) ∧ isRG h' g ∧ fr h h' g (g + 8) := by
  have E1 : fr h (m_up h (g + 1) (mI 61 (fun _ => 0))) (g + 1) (g + 2) := fr.up
  obtain ⟨h1, e1, o1, f1⟩ := putO (E1.O H (by omega)) 0 (.ref (g + 1)) (show 0 < 9 by decide)
  have E2 : fr h1 (m_up h1 (g + 2) (mI 61 (fun _ => 0))) (g + 2) (g + 3) := fr.up
  obtain ⟨h2, e2, o2, f2⟩ := putO (E2.O o1 (by omega)) 1 (.ref (g + 2)) (show 1 < 9 by decide)
  have E3 : fr h2 (m_up h2 (g + 3) (mI 112 (fun _ => 0))) (g + 3) (g + 4) := fr.up
  obtain ⟨h3, e3, o3, f3⟩ := putO (E3.O o2 (by omega)) 2 (.ref (g + 3)) (show 2 < 9 by decide)
  have E4 : fr h3 (m_up h3 (g + 4) (mI 112 (fun _ => 0))) (g + 4) (g + 5) := fr.up
  obtain ⟨h4, e4, o4, f4⟩ := putO (E4.O o3 (by omega)) 3 (.ref (g + 4)) (show 3 < 9 by decide)
  have E5 : fr h4 (m_up h4 (g + 5) (mI 112 (fun _ => 0))) (g + 5) (g + 6) := fr.up
  obtain ⟨h5, e5, o5, f5⟩ := putO (E5.O o4 (by omega)) 4 (.ref (g + 5)) (show 4 < 9 by decide)
  have E6 : fr h5 (m_up h5 (g + 6) (mI 10 (fun _ => 0))) (g + 6) (g + 7) := fr.up
  obtain ⟨h6, e6, o6, f6⟩ := putO (E6.O o5 (by omega)) 5 (.ref (g + 6)) (show 5 < 9 by decide)
  have E7 : fr h6 (m_up h6 (g + 7) (mI 4 (fun _ => 0))) (g + 7) (g + 8) := fr.up
  obtain ⟨h7, e7, o7, f7⟩ := putO (E7.O o6 (by omega)) 6 (.ref (g + 7)) (show 6 < 9 by decide)
  obtain ⟨h8, e8, o8, f8⟩ := putO o7 7 (.int 0) (show 7 < 9 by decide)
  obtain ⟨h9, e9, o9, f9⟩ := putO o8 8 (.int 0) (show 8 < 9 by decide)
  have Z7 : fr (m_up h6 (g + 7) (mI 4 (fun _ => 0))) h9 g (g + 1) := f7.tr (f8.tr f9)
  have Z6 : fr h6 h9 g (g + 8) := (E7.wd (by omega) (by omega)).tr (Z7.wd (by omega) (by omega))
  have Z5 : fr h5 h9 g (g + 8) := (E6.wd (by omega) (by omega)).tr ((f6.wd (by omega) (by omega)).tr Z6)
  have Z4 : fr h4 h9 g (g + 8) := (E5.wd (by omega) (by omega)).tr ((f5.wd (by omega) (by omega)).tr Z5)
  have Z3 : fr h3 h9 g (g + 8) := (E4.wd (by omega) (by omega)).tr ((f4.wd (by omega) (by omega)).tr Z4)
  have Z2 : fr h2 h9 g (g + 8) := (E3.wd (by omega) (by omega)).tr ((f3.wd (by omega) (by omega)).tr Z3)
  have Z1 : fr h1 h9 g (g + 8) := (E2.wd (by omega) (by omega)).tr ((f2.wd (by omega) (by omega)).tr Z2)
  have A7 : isA h9 (g + 7) 4 (fun _ => 0) := (new_A h6 (g + 7) 4).fr Z7 (by omega)
  have A6 : isA h9 (g + 6) 10 (fun _ => 0) := (((new_A h5 (g + 6) 10).fr f6 (by omega)).fr E7 (by omega)).fr Z7 (by omega)
  have A5 : isA h9 (g + 5) 112 (fun _ => 0) := (((((new_A h4 (g + 5) 112).fr f5 (by omega)).fr E6 (by omega)).fr f6 (by omega)).fr E7 (by omega)).fr Z7 (by omega)
  have A4 : isA h9 (g + 4) 112 (fun _ => 0) := (((((((new_A h3 (g + 4) 112).fr f4 (by omega)).fr E5 (by omega)).fr f5 (by omega)).fr E6 (by omega)).fr f6 (by omega)).fr E7 (by omega)).fr Z7 (by omega)
  have A3 : isA h9 (g + 3) 112 (fun _ => 0) := (((((((((new_A h2 (g + 3) 112).fr f3 (by omega)).fr E4 (by omega)).fr f4 (by omega)).fr E5 (by omega)).fr f5 (by omega)).fr E6 (by omega)).fr f6 (by omega)).fr E7 (by omega)).fr Z7 (by omega)
  have A2 : isA h9 (g + 2) 61 (fun _ => 0) := (((((((((((new_A h1 (g + 2) 61).fr f2 (by omega)).fr E3 (by omega)).fr f3 (by omega)).fr E4 (by omega)).fr f4 (by omega)).fr E5 (by omega)).fr f5 (by omega)).fr E6 (by omega)).fr f6 (by omega)).fr E7 (by omega)).fr Z7 (by omega)
  have A1 : isA h9 (g + 1) 61 (fun _ => 0) := (((((((((((((new_A h (g + 1) 61).fr f1 (by omega)).fr E2 (by omega)).fr f2 (by omega)).fr E3 (by omega)).fr f3 (by omega)).fr E4 (by omega)).fr f4 (by omega)).fr E5 (by omega)).fr f5 (by omega)).fr E6 (by omega)).fr f6 (by omega)).fr E7 (by omega)).fr Z7 (by omega)
  refine ⟨h9, ?_, ⟨⟨0, 0, o9⟩, ⟨_, A1⟩, ⟨_, A2⟩, ⟨_, A3⟩, ⟨_, A4⟩, ⟨_, A5⟩, ⟨_, A6⟩, ⟨_, A7⟩⟩, (E1.wd (by omega) (by omega)).tr ((f1.wd (by omega) (by omega)).tr Z1)⟩
  rw [s_X0_init, bS, e1, bS, bS]
  show ((m_put (m_up h1 (g + 2) (mI 61 (fun _ => 0))) 0 g 1 (.ref (g + 2))).bind fun h17 => _) = _
  rw [e2, bS, bS]
  show ((m_put (m_up h2 (g + 3) (mI 112 (fun _ => 0))) 0 g 2 (.ref (g + 3))).bind fun h25 => _) = _
  rw [e3, bS, bS]
  show ((m_put (m_up h3 (g + 4) (mI 112 (fun _ => 0))) 0 g 3 (.ref (g + 4))).bind fun h33 => _) = _
  rw [e4, bS, bS]
  show ((m_put (m_up h4 (g + 5) (mI 112 (fun _ => 0))) 0 g 4 (.ref (g + 5))).bind fun h41 => _) = _
  rw [e5, bS, bS]
  show ((m_put (m_up h5 (g + 6) (mI 10 (fun _ => 0))) 0 g 5 (.ref (g + 6))).bind fun h49 => _) = _
  rw [e6, bS, bS]
  show ((m_put (m_up h6 (g + 7) (mI 4 (fun _ => 0))) 0 g 6 (.ref (g + 7))).bind fun h56 => _) = _
  rw [e7, bS, e8, bS, e9]
  rfl
theorem X6i {h : mH} {g : Nat} (H : h g = some (mO 4 [.null, .int 0, .int 0, .int 0, .int 0, .int 0, .int 0, .int 0])) : ∃ h', s_X6_init h (g + 1) g = some (h', g + 2) ∧ isRR h' g ∧ fr h h' g (g + 2) := by
  have E1 : fr h (m_up h (g + 1) (mI 10 (fun _ => 0))) (g + 1) (g + 2) := fr.up
  obtain ⟨h1, e1, o1, f1⟩ := putO (E1.O H (by omega)) 0 (.ref (g + 1)) (show 0 < 8 by decide)
  obtain ⟨h2, e2, o2, f2⟩ := putO o1 1 (.int 0) (show 1 < 8 by decide)
  obtain ⟨h3, e3, o3, f3⟩ := putO o2 2 (.int 0) (show 2 < 8 by decide)
  obtain ⟨h4, e4, o4, f4⟩ := putO o3 3 (.int 0) (show 3 < 8 by decide)
  obtain ⟨h5, e5, o5, f5⟩ := putO o4 4 (.int 0) (show 4 < 8 by decide)
  obtain ⟨h6, e6, o6, f6⟩ := putO o5 5 (.int 0) (show 5 < 8 by decide)
  obtain ⟨h7, e7, o7, f7⟩ := putO o6 6 (.int 0) (show 6 < 8 by decide)
  obtain ⟨h8, e8, o8, f8⟩ := putO o7 7 (.int 0) (show 7 < 8 by decide)
  have Z : fr (m_up h (g + 1) (mI 10 (fun _ => 0))) h8 g (g + 1) := f1.tr (f2.tr (f3.tr (f4.tr (f5.tr (f6.tr (f7.tr f8))))))
  refine ⟨h8, ?_, ⟨⟨0, 0, 0, 0, 0, 0, 0, o8⟩, _, (new_A h (g + 1) 10).fr Z (by omega)⟩, (E1.wd (by omega) (by omega)).tr (Z.wd (by omega) (by omega))⟩
  rw [s_X6_init, bS, e1, bS, e2, bS, e3, bS, e4, bS, e5, bS, e6, bS, e7, bS, z_0, bS, e8]; rfl
end PIn
