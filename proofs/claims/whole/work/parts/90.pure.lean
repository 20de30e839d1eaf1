theorem law_ok {st : m_T} {h0 : mH} {z b L : Nat} {xs : Nat → Int32} (hL : L ≤ 3072) (hb : h0 b = some (mC L xs)) (hT : ∀ k, k < 4 → ∃ f, h0 (st.2 k) = some (mC (m_len k) f) ∧ ∀ j, j < m_len k → f j = m_tab k j) (hz : ∀ q, z ≤ q → h0 q = none) : s_L_law st h0 z b = some 1 := by
  sorry
