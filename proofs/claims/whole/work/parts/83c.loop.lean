/-! PURE: the law's loop, and the law -/
section LC
variable {st : m_T} {X b L : Nat} {xs : Nat → Int32}
theorem exit_c {L i : Nat} (hL : L ≤ 3072) (hi : 6 * i ≤ L) : (nI L - 6 < nI (6 * i)) ↔ ¬ 6 * i + 6 ≤ L := by
  by_cases c : 6 ≤ L
  · rw [show nI L - 6 = nI (L - 6) from nI_sub (b := 6) c, nI_ltI (by omega) (by omega)]
    omega
  · have i0 : i = 0 := by omega
    subst i0
    have : ∀ l, l < 6 → nI l - 6 < nI (6 * 0) := by decide
    exact ⟨fun _ => by omega, fun _ => this L (by omega)⟩
theorem law_L : ∀ (F i : Nat) (h : mH), L ≤ 3072 → iE st h X b L xs → 6 * i ≤ L → L < 6 * (i + F) → s_L_law_L23 st F h b X (X + 87) (X + 94) (nI (6 * i)) = some 1 := by
  intro F
  induction F with
  | zero => intro i h hL I hi hF; omega
  | succ F ih =>
    intro i h hL I hi hF
    obtain ⟨k, sz, sv, bl, bf, I⟩ := I
    have H := I.2.2.1
    have T : isT h b L xs := ⟨xs, H, fun _ _ => rfl⟩
    by_cases c : 6 * i + 6 ≤ L
    · have L31 : L < 2 ^ 31 := by omega
      have fin : ∀ h', iE st h' X b L xs → s_L_law_L23 st F h' b X (X + 87) (X + 94) (nI (6 * i) + 6) = some 1 := by
        intro h' I'
        rw [show nI (6 * i) + 6 = nI (6 * (i + 1)) from (nI_add (6 * i) 6).trans (by rw [Nat.mul_succ])]
        exact ih (i + 1) h' hL I' (by omega) (by omega)
      rw [s_L_law_L23, ilen_T T, bS, if_neg (fun z => (exit_c hL hi).mp z c), iald_T T (show 6 * i < L by omega) L31, bS]
      by_cases c0 : xs (6 * i) &&& 31 = 0
      · rw [if_pos c0]
        obtain ⟨h', ie, e⟩ := br_0 (K := s_L_law_L23 st F) I c L31
        exact e.trans (fin h' ie)
      rw [if_neg c0]
      by_cases c1 : xs (6 * i) &&& 31 = 1
      · rw [if_pos c1]
        obtain ⟨h', ie, e⟩ := br_1 (K := s_L_law_L23 st F) I c L31
        exact e.trans (fin h' ie)
      rw [if_neg c1]
      by_cases c2 : xs (6 * i) &&& 31 = 2
      · rw [if_pos c2]
        obtain ⟨h', ie, e⟩ := br_2 (K := s_L_law_L23 st F) I c L31
        exact e.trans (fin h' ie)
      rw [if_neg c2]
      by_cases c3 : xs (6 * i) &&& 31 = 3
      · rw [if_pos c3]
        obtain ⟨h', ie, e⟩ := br_3 (K := s_L_law_L23 st F) I c L31
        exact e.trans (fin h' ie)
      rw [if_neg c3]
      by_cases c4 : xs (6 * i) &&& 31 = 4
      · rw [if_pos c4]
        obtain ⟨h', ie, e⟩ := br_4 (K := s_L_law_L23 st F) I c L31
        exact e.trans (fin h' ie)
      rw [if_neg c4]
      by_cases c5 : xs (6 * i) &&& 31 = 5
      · rw [if_pos c5]
        obtain ⟨h', ie, e⟩ := br_5 (K := s_L_law_L23 st F) I c L31
        exact e.trans (fin h' ie)
      rw [if_neg c5]
      by_cases c6 : xs (6 * i) &&& 31 = 6
      · rw [if_pos c6]
        obtain ⟨h', ie, e⟩ := br_6 (K := s_L_law_L23 st F) I c L31
        exact e.trans (fin h' ie)
      rw [if_neg c6]
      by_cases c7 : xs (6 * i) &&& 31 = 7
      · rw [if_pos c7]
        obtain ⟨h', ie, e⟩ := br_7 (K := s_L_law_L23 st F) I c L31
        exact e.trans (fin h' ie)
      rw [if_neg c7]
      by_cases c8 : xs (6 * i) &&& 31 = 8
      · rw [if_pos c8]
        obtain ⟨h', ie, e⟩ := br_8 (K := s_L_law_L23 st F) I c L31
        exact e.trans (fin h' ie)
      rw [if_neg c8]
      by_cases c9 : xs (6 * i) &&& 31 = 9
      · rw [if_pos c9]
        obtain ⟨h', ie, e⟩ := br_9 (K := s_L_law_L23 st F) I c L31
        exact e.trans (fin h' ie)
      rw [if_neg c9]
      by_cases c10 : xs (6 * i) &&& 31 = 10
      · rw [if_pos c10]
        obtain ⟨h', ie, e⟩ := br_10 (K := s_L_law_L23 st F) I c L31
        exact e.trans (fin h' ie)
      rw [if_neg c10]
      by_cases c11 : xs (6 * i) &&& 31 = 11
      · rw [if_pos c11]
        obtain ⟨h', ie, e⟩ := br_11 (K := s_L_law_L23 st F) I c L31
        exact e.trans (fin h' ie)
      rw [if_neg c11]
      by_cases c12 : xs (6 * i) &&& 31 = 12
      · rw [if_pos c12]
        obtain ⟨h', ie, e⟩ := br_12 (K := s_L_law_L23 st F) I c L31
        exact e.trans (fin h' ie)
      rw [if_neg c12]
      by_cases c13 : xs (6 * i) &&& 31 = 13
      · rw [if_pos c13]
        obtain ⟨h', ie, e⟩ := br_13 (K := s_L_law_L23 st F) I c L31
        exact e.trans (fin h' ie)
      rw [if_neg c13]
      by_cases c14 : xs (6 * i) &&& 31 = 14
      · rw [if_pos c14]
        obtain ⟨h', ie, e⟩ := br_14 (K := s_L_law_L23 st F) I c L31
        exact e.trans (fin h' ie)
      rw [if_neg c14]
      by_cases c15 : xs (6 * i) &&& 31 = 15
      · rw [if_pos c15]
        obtain ⟨h', ie, e⟩ := br_15 (K := s_L_law_L23 st F) I c L31
        exact e.trans (fin h' ie)
      rw [if_neg c15]
      by_cases c16 : xs (6 * i) &&& 31 = 16
      · rw [if_pos c16]
        obtain ⟨h', ie, e⟩ := br_16 (K := s_L_law_L23 st F) I c L31
        exact e.trans (fin h' ie)
      rw [if_neg c16]
      by_cases c17 : xs (6 * i) &&& 31 = 17
      · rw [if_pos c17]
        obtain ⟨h', ie, e⟩ := br_17 (K := s_L_law_L23 st F) I c L31
        exact e.trans (fin h' ie)
      rw [if_neg c17]
      by_cases c18 : xs (6 * i) &&& 31 = 18
      · rw [if_pos c18]
        obtain ⟨h', ie, e⟩ := br_18 (K := s_L_law_L23 st F) I c L31
        exact e.trans (fin h' ie)
      rw [if_neg c18]
      by_cases c19 : xs (6 * i) &&& 31 = 19
      · rw [if_pos c19]
        obtain ⟨h', ie, e⟩ := br_19 (K := s_L_law_L23 st F) I c L31
        exact e.trans (fin h' ie)
      rw [if_neg c19]
      by_cases c20 : xs (6 * i) &&& 31 = 20
      · rw [if_pos c20]
        obtain ⟨h', ie, e⟩ := br_20 (K := s_L_law_L23 st F) I c L31
        exact e.trans (fin h' ie)
      rw [if_neg c20]
      exact fin h ⟨k, sz, sv, bl, bf, I⟩
    · rw [s_L_law_L23, ilen_T T, bS, if_pos ((exit_c hL hi).mpr c)]
end LC
