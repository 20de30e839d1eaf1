/-! PURE: the law answers 1 -/
theorem law_ok {st : m_T} {h0 : mH} {z b L : Nat} {xs : Nat → Int32} (hL : L ≤ 3072) (hb : h0 b = some (mC L xs)) (hT : ∀ k, k < 4 → ∃ f, h0 (st.2 k) = some (mC (m_len k) f) ∧ ∀ j, j < m_len k → f j = m_tab k j) (hz : ∀ q, z ≤ q → h0 q = none) : s_L_law st h0 z b = some 1 := by
  have bz : b < z := Nat.lt_of_not_le fun q => by rw [hz b q] at hb; cases hb
  have tz : ∀ j, j < 4 → st.2 j < z := fun j hj => Nat.lt_of_not_le fun q => by
    obtain ⟨f, e, -⟩ := hT j hj
    rw [hz _ q] at e
    cases e
  have E1 : fr h0 (m_up h0 z (mO 5 [.null, .null, .null, .null, .null, .null, .int 0, .null])) z (z + 1) := fr.up
  have T0 : isT h0 (st.2 0) 6 (m_tab 0) := hT 0 (by decide)
  obtain ⟨h1, a1, a2, a3⟩ := X7i (st := st) (sv := fun _ => k0 (m_tab 0)) (m_up_same h0 z (mO 5 [.null, .null, .null, .null, .null, .null, .int 0, .null])) (T0.fr E1 (Or.inl (tz 0 (by decide)))) (tz 0 (by decide))
  have E2 : fr h1 (m_up h1 (z + 87) (mO 6 [.int 0, .null, .null, .null, .int 0, .null, .int 0, .null, .int 0, .int 0, .null, .int 0, .long 0])) (z + 87) (z + 87 + 1) := fr.up
  obtain ⟨h2, b1, b2, b3⟩ := made_M (sv := fun _ => k0 (m_tab 0)) (m_up_same h1 (z + 87) (mO 6 [.int 0, .null, .null, .null, .int 0, .null, .int 0, .null, .int 0, .int 0, .null, .int 0, .long 0]))
  have E3 : fr h2 (m_up h2 (z + 87 + 7) (mL 1 (fun _ => 0))) (z + 87 + 7) (z + 87 + 7 + 1) := fr.up
  have far : ∀ q, q < z → m_up h2 (z + 87 + 7) (mL 1 (fun _ => 0)) q = h0 q := fun q hq => by rw [E3 q (by omega), b3 q (by omega), E2 q (by omega), a3 q (by omega), E1 q (by omega)]
  have I : iE st (m_up h2 (z + 87 + 7) (mL 1 (fun _ => 0))) z b L xs := by
    refine ⟨k0 (m_tab 0), 0, fun _ => k0 (m_tab 0), 0, fun _ => 0, ((a2.fr E2 (by omega)).fr b3 (by omega)).fr E3 (by omega), ⟨0, b2.ff E3 (by omega)⟩, by rw [far b bz]; exact hb, fun j hj => by rw [far _ (tz j hj)]; exact hT j hj, ⟨_, m_up_same _ _ _⟩, ⟨Nat.zero_le _, fun i hi => absurd hi (Nat.not_lt_zero _), fun w _ => Nat.zero_le _, fun i hi => ?_, ⟨120, by decide, by decide, rfl⟩, fun i i1 i2 => ?_⟩, fun j hj => absurd hj (Nat.not_lt_zero _), Nat.zero_le _, ⟨fun _ => 0, Nat.zero_le _, fun j hj => absurd hj (Nat.not_lt_zero _)⟩, bz, tz⟩
    · match i, hi with
      | 0, _ => exact ⟨180, by decide, rfl⟩
      | 1, _ => exact ⟨60, by decide, rfl⟩
      | 2, _ => exact ⟨420, by decide, rfl⟩
    · match i, i1, i2 with
      | 4, _, _ => exact ⟨700, by decide, rfl⟩
      | 5, _, _ => exact ⟨2800, by decide, rfl⟩
  have r := law_L (st := st) (X := z) (b := b) (L := L) (xs := xs) 513 0 _ hL I (Nat.zero_le _) (by omega)
  rw [s_L_law, bS, a1, bS]
  show ((some (m_up h1 (z + 87) (mO 6 [.int 0, .null, .null, .null, .int 0, .null, .int 0, .null, .int 0, .int 0, .null, .int 0, .long 0]))).bind fun h8 => _) = _
  rw [bS, b1, bS]
  show ((some (m_up h2 (z + 87 + 7) (mL 1 (fun _ => 0)))).bind fun h17 => _) = _
  rw [bS]
  exact r
