/-! PURE: the reference is made -/
section RIn
theorem X8i {h : mH} {M : Nat} (H : h M = some (mO 6 [.int 0, .null, .null, .null, .int 0, .null, .int 0, .null, .int 0, .int 0, .null, .int 0, .long 0])) : ∃ h' f, s_X8_init h (M + 1) M = some (h', M + 7) ∧ isR h' M 0 0 0 f (fun _ => 0) (fun _ => 0) (fun _ => 0) ∧ (∀ i, i < 6 → f i = m_tab 0 i) ∧ (∀ i, 6 ≤ i → f i = 0) ∧ fr h h' M (M + 7) := by
  have E1 : fr h (m_up h (M + 1) (mI 492 (fun _ => 0))) (M + 1) (M + 2) := fr.up
  have a1 := new_A h (M + 1) 492
  obtain ⟨h1, e1, o1, f1⟩ := putO (E1.O H (by omega)) 1 (.ref (M + 1)) (show 1 < 13 by decide)
  have E2 : fr h1 (m_up h1 (M + 1 + 1) (mI 492 (fun _ => 0))) (M + 2) (M + 3) := fr.up
  have a2 := new_A h1 (M + 1 + 1) 492
  obtain ⟨h2, e2, o2, f2⟩ := putO (E2.O o1 (by omega)) 2 (.ref (M + 1 + 1)) (show 2 < 13 by decide)
  have E3 : fr h2 (m_up h2 (M + 1 + 1 + 1) (mI 2952 (fun _ => 0))) (M + 3) (M + 4) := fr.up
  have a3 := new_A h2 (M + 1 + 1 + 1) 2952
  obtain ⟨h3, e3, o3, f3⟩ := putO (E3.O o2 (by omega)) 3 (.ref (M + 1 + 1 + 1)) (show 3 < 13 by decide)
  have E4 : fr h3 (m_up h3 (M + 1 + 1 + 1 + 1) (mI 60 (fun _ => 0))) (M + 4) (M + 5) := fr.up
  have a4 := new_A h3 (M + 1 + 1 + 1 + 1) 60
  obtain ⟨h4, e4, o4, f4⟩ := putO (E4.O o3 (by omega)) 5 (.ref (M + 1 + 1 + 1 + 1)) (show 5 < 13 by decide)
  have E5 : fr h4 (m_up h4 (M + 1 + 1 + 1 + 1 + 1) (mI 61 (fun _ => 0))) (M + 5) (M + 6) := fr.up
  have a5 := new_A h4 (M + 1 + 1 + 1 + 1 + 1) 61
  obtain ⟨h5', e5, o5, f5⟩ := putO (E5.O o4 (by omega)) 7 (.ref (M + 1 + 1 + 1 + 1 + 1)) (show 7 < 13 by decide)
  have E6 : fr h5' (m_up h5' (M + 1 + 1 + 1 + 1 + 1 + 1) (mI 64 (fun _ => 0))) (M + 6) (M + 7) := fr.up
  have a6 := new_A h5' (M + 1 + 1 + 1 + 1 + 1 + 1) 64
  obtain ⟨h6, e6, o6, f6⟩ := putO (E6.O o5 (by omega)) 10 (.ref (M + 1 + 1 + 1 + 1 + 1 + 1)) (show 10 < 13 by decide)
  obtain ⟨h7, e7, o7, f7⟩ := putO o6 0 (.int 0) (show 0 < 13 by decide)
  have o7' : h7 M = some (mOb M 0 0 0 0 0 0 0) := o7
  -- what changes behind each
  have Z6 : ∀ q, q ≠ M → h7 q = m_up h5' (M + 1 + 1 + 1 + 1 + 1 + 1) (mI 64 (fun _ => 0)) q := fun q hq => by rw [f7 q (by omega), f6 q (by omega)]
  have Z5 : ∀ q, q ≠ M → q ≠ M + 6 → h7 q = m_up h4 (M + 1 + 1 + 1 + 1 + 1) (mI 61 (fun _ => 0)) q := fun q h1 h2 => by rw [Z6 q h1, E6 q (by omega), f5 q (by omega)]
  have Z4 : ∀ q, q ≠ M → q ≠ M + 6 → q ≠ M + 5 → h7 q = m_up h3 (M + 1 + 1 + 1 + 1) (mI 60 (fun _ => 0)) q := fun q h1 h2 h3 => by rw [Z5 q h1 h2, E5 q (by omega), f4 q (by omega)]
  have Z3 : ∀ q, q ≠ M → q ≠ M + 6 → q ≠ M + 5 → q ≠ M + 4 → h7 q = m_up h2 (M + 1 + 1 + 1) (mI 2952 (fun _ => 0)) q := fun q h1 h2 h3 h4 => by rw [Z4 q h1 h2 h3, E4 q (by omega), f3 q (by omega)]
  have Z2 : ∀ q, q ≠ M → q ≠ M + 6 → q ≠ M + 5 → q ≠ M + 4 → q ≠ M + 3 → h7 q = m_up h1 (M + 1 + 1) (mI 492 (fun _ => 0)) q := fun q h1 h2 h3 h4 h5 => by rw [Z3 q h1 h2 h3 h4, E3 q (by omega), f2 q (by omega)]
  have Z1 : ∀ q, q ≠ M → q ≠ M + 6 → q ≠ M + 5 → q ≠ M + 4 → q ≠ M + 3 → q ≠ M + 2 → h7 q = m_up h (M + 1) (mI 492 (fun _ => 0)) q := fun q h1 h2 h3 h4 h5 h6 => by rw [Z2 q h1 h2 h3 h4 h5, E2 q (by omega), f1 q (by omega)]
  have R7 : isR h7 M 0 0 0 (fun _ => 0) (fun _ => 0) (fun _ => 0) (fun _ => 0) := ⟨⟨0, 0, 0, 0, o7'⟩, a1.eqq (Z1 _ (by omega) (by omega) (by omega) (by omega) (by omega) (by omega)), a2.eqq (Z2 _ (by omega) (by omega) (by omega) (by omega) (by omega)), a3.eqq (Z3 _ (by omega) (by omega) (by omega) (by omega)), a4.eqq (Z4 _ (by omega) (by omega) (by omega)), ⟨_, a5.eqq (Z5 _ (by omega) (by omega))⟩, _, a6.eqq (Z6 _ (by omega))⟩
  obtain ⟨g0, b0, c0, d0⟩ := iast_A R7.2.1 (k := 0) (by decide) (by decide) 180
  have O0 := d0.O o7' (by omega)
  obtain ⟨g1, b1, c1, d1⟩ := iast_A c0 (k := 1) (by decide) (by decide) 60
  have O1 := d1.O O0 (by omega)
  obtain ⟨g2, b2, c2, d2⟩ := iast_A c1 (k := 2) (by decide) (by decide) 420
  have O2 := d2.O O1 (by omega)
  obtain ⟨g3, b3, c3, d3⟩ := iast_A c2 (k := 3) (by decide) (by decide) 120
  have O3 := d3.O O2 (by omega)
  obtain ⟨g4, b4, c4, d4⟩ := iast_A c3 (k := 4) (by decide) (by decide) 700
  have O4 := d4.O O3 (by omega)
  obtain ⟨g5, b5, c5, d5⟩ := iast_A c4 (k := 5) (by decide) (by decide) 2800
  have D : fr h7 g5 (M + 1) (M + 2) := ((((d0.tr d1).tr d2).tr d3).tr d4).tr d5
  refine ⟨g5, _, ?_, R7.m1 D c5, fun i hi => ?_, fun i hi => ?_, fun q hq => ?_⟩
  · have b0' : m_iast h7 (M + 1) 0 180 = some g0 := b0
    have b1' : m_iast g0 (M + 1) 1 60 = some g1 := b1
    have b2' : m_iast g1 (M + 1) 2 420 = some g2 := b2
    have b3' : m_iast g2 (M + 1) 3 120 = some g3 := b3
    have b4' : m_iast g3 (M + 1) 4 700 = some g4 := b4
    have b5' : m_iast g4 (M + 1) 5 2800 = some g5 := b5
    rw [s_X8_init, bS, e1, bS, bS, e2, bS, bS, e3, bS, bS, e4, bS, bS, e5, bS, bS, e6, bS, e7, bS, gr_O o7' (k := 1) rfl, bS, b0', bS, gr_O O0 (k := 1) rfl, bS, b1', bS, gr_O O1 (k := 1) rfl, bS, b2', bS, gr_O O2 (k := 1) rfl, bS, b3', bS, gr_O O3 (k := 1) rfl, bS, b4', bS, gr_O O4 (k := 1) rfl, bS, b5', bS]
  · match i, hi with
    | 0, _ => rfl
    | 1, _ => rfl
    | 2, _ => rfl
    | 3, _ => rfl
    | 4, _ => rfl
    | 5, _ => rfl
  · rw [pk_un (by omega), pk_un (by omega), pk_un (by omega), pk_un (by omega), pk_un (by omega), pk_un (by omega)]
  · rw [D q (by omega), Z1 q (by omega) (by omega) (by omega) (by omega) (by omega) (by omega), E1 q (by omega)]
theorem isS_0 {f g : Nat → Int32} (h1 : ∀ i, i < 6 → f i = g i) (h2 : ∀ i, 6 ≤ i → f i = 0) : isS f (k0 g) :=
  ⟨h1, h2 6 (by decide), h2 7 (by decide), h2 8 (by decide), ⟨h2 9 (by decide), h1 3 (by decide), fun i hi => absurd hi (Nat.not_lt_zero _)⟩, fun c _ => h2 _ (by omega), fun c _ => h2 _ (by omega), fun c _ => h2 _ (by omega), fun w _ => h2 _ (by omega), fun w _ b hb => absurd hb (Nat.not_lt_zero _)⟩
theorem made_M {h : mH} {M : Nat} {sv : Nat → mK} (H : h M = some (mO 6 [.int 0, .null, .null, .null, .int 0, .null, .int 0, .null, .int 0, .int 0, .null, .int 0, .long 0])) : ∃ h', s_X8_init h (M + 1) M = some (h', M + 7) ∧ isM h' M 0 (k0 (m_tab 0)) 0 sv 0 (fun _ => 0) ∧ fr h h' M (M + 7) := by
  obtain ⟨h', f, e1, e2, e3, e4, e5⟩ := X8i H
  exact ⟨h', e1, ⟨f, _, _, e2, isS_0 e3 e4, fun i hi => absurd hi (Nat.not_lt_zero _)⟩, e5⟩
end RIn
