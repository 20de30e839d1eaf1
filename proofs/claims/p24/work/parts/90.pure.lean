/-! PURE: the law answers 1 -/
theorem kok_0 : kok (k0 (m_tab 0)) := by
  refine ⟨Nat.zero_le _, fun i hi => absurd hi (Nat.not_lt_zero _), fun w _ => Nat.zero_le _, fun i hi => ?_, ⟨120, by decide, by decide, rfl⟩, fun i i1 i2 => ?_⟩
  · match i, hi with
    | 0, _ => exact ⟨180, by decide, rfl⟩
    | 1, _ => exact ⟨60, by decide, rfl⟩
    | 2, _ => exact ⟨420, by decide, rfl⟩
  · match i, i1, i2 with
    | 4, _, _ => exact ⟨700, by decide, rfl⟩
    | 5, _, _ => exact ⟨2800, by decide, rfl⟩
theorem law_ok {st : m_T} {h0 : mH} {z b L : Nat} {xs : Nat → Int32} (hL : L ≤ 260) (hb : h0 b = some (mC L xs)) (hT : ∀ k, k < 3 → ∃ f, h0 (st.2 k) = some (mC (m_len k) f) ∧ ∀ j, j < m_len k → f j = m_tab k j) (hz : ∀ q, z ≤ q → h0 q = none) : s_L_law st h0 z b = some 1 := by
  have bz : b < z := Nat.lt_of_not_le fun q => by rw [hz b q] at hb; cases hb
  have tz : ∀ j, j < 3 → st.2 j < z := fun j hj => Nat.lt_of_not_le fun q => by
    obtain ⟨f, e, -⟩ := hT j hj
    rw [hz _ q] at e
    cases e
  have E1 : fr h0 (m_up h0 z (mO 5 [.null, .null, .null, .null, .null, .null, .int 0, .null])) z (z + 1) := fr.up
  have T0 : isT h0 (st.2 0) 6 (m_tab 0) := hT 0 (by decide)
  have T1 : isT h0 (st.2 1) 6 (m_tab 1) := hT 1 (by decide)
  have T2 : isT h0 (st.2 2) 6 (m_tab 2) := hT 2 (by decide)
  have z0 := tz 0 (by decide)
  have z1 := tz 1 (by decide)
  have z2 := tz 2 (by decide)
  obtain ⟨h1, a1, a2, a3⟩ := X7i (st := st) (sv := fun _ => k0 (m_tab 0)) (m_up_same h0 z (mO 5 [.null, .null, .null, .null, .null, .null, .int 0, .null])) (T0.fr E1 (Or.inl z0)) z0
  have E : fr h0 h1 z (z + 87) := (E1.wd (Nat.le_refl _) (by omega)).tr a3
  have I : iT st h1 z b L xs 0 (k0 (m_tab 0)) 0 (fun _ => k0 (m_tab 0)) 0 (fun _ => 0) :=
    ⟨a2, ⟨kok_0, Nat.le_refl _, fun i j _ hj => absurd hj (Nat.not_lt_zero _), fun c _ => ⟨0, Nat.zero_le _, rfl⟩, fun c _ => ⟨0, Nat.zero_le _, rfl⟩⟩, fun j hj => absurd hj (Nat.not_lt_zero _), Nat.zero_le _, (E b (Or.inl bz)).trans hb, T1.fr E (Or.inl z1), T2.fr E (Or.inl z2), bz, z1, z2⟩
  have r := law_L (st := st) (X := z) (b := b) (L := L) (xs := xs) hL 24 0 m_F h1 _ 0 _ (by decide) (by unfold m_F; decide) I
  rw [s_L_law, bS, a1, bS]
  exact r
