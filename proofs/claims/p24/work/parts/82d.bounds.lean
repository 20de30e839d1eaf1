/-! PURE: costs are at most fares -/
section RBo
theorem sum_nI {g g' : Nat → Int32} {c : Nat} : ∀ {n : Nat}, (∀ i, i < n → ∃ a b, g i = nI a ∧ g' i = nI b ∧ a ≤ b ∧ b ≤ c) → ∃ a b, sumF g n = nI a ∧ sumF g' n = nI b ∧ a ≤ b ∧ b ≤ c * n
  | 0, _ => ⟨0, 0, rfl, rfl, Nat.le_refl _, Nat.zero_le _⟩
  | n + 1, h => by
    obtain ⟨a, b, e1, e2, e3, e4⟩ := sum_nI (n := n) (fun i hi => h i (by omega))
    obtain ⟨a', b', f1, f2, f3, f4⟩ := h n (by omega)
    refine ⟨a + a', b + b', ?_, ?_, by omega, by rw [Nat.mul_succ]; omega⟩
    · show sumF g n + g n = _
      rw [e1, f1, nI_add]
    · show sumF g' n + g' n = _
      rw [e2, f2, nI_add]
theorem min_nI {s a : Nat} (hs : s < 2 ^ 31) (ha : a < 2 ^ 31) : ∃ m, (if nI s < nI a then nI s else nI a) = nI m ∧ m ≤ a := by
  by_cases q : s < a
  · exact ⟨s, by rw [if_pos (nI_lt q ha)], by omega⟩
  · exact ⟨a, by rw [if_neg (nI_nlt (by omega) hs)], Nat.le_refl _⟩
theorem abs_nI : ∀ a, a < 5 → ∀ b, b < 5 → absI (nI a - nI b) = nI (if b ≤ a then a - b else b - a) := by decide
variable {k : mK}
theorem fare_nI (hk : kok k) {i : Nat} (hi : i < kn k) : ∃ m, fareOf (kset k) (ktp k) (mt (kn k) (kset k 3) (ktp k)) i = nI m ∧ m ≤ 5000 := by
  obtain ⟨h1, h2, h3, h4, h5, h6⟩ := hk
  obtain ⟨s0, b0, e0⟩ := h4 0 (by decide)
  obtain ⟨s1, b1, e1⟩ := h4 1 (by decide)
  obtain ⟨s2, b2, e2⟩ := h4 2 (by decide)
  unfold fareOf
  by_cases c : mt (kn k) (kset k 3) (ktp k) i = -1
  · rw [if_pos c]
    exact ⟨s2, e2, by omega⟩
  · rcases (mt_is (kn k) (kset k 3) (ktp k)).cases hi with c' | ⟨q, hq, hqi, eq⟩
    · exact absurd c' c
    · have v3 := (h2 i hi).2.2.2.1
      have w3 := (h2 q hq).2.2.2.1
      rw [if_neg c, eq, nI_cl (show q < 2 ^ 31 by omega), abs_nI _ (by omega) _ (by omega), e0, e1, nI_mul, nI_add]
      refine ⟨_, rfl, ?_⟩
      have hm : (if ktp k q 3 / 2 ≤ ktp k i 3 / 2 then ktp k i 3 / 2 - ktp k q 3 / 2 else ktp k q 3 / 2 - ktp k i 3 / 2) ≤ 4 := by
        split <;> omega
      have := Nat.mul_le_mul b1 hm
      omega
theorem dF_nI (hk : kok k) (c : Nat) : ∃ m, dF (kn k) (kset k) (ktp k) c = nI m ∧ m ≤ 300000 := by
  obtain ⟨a, b, e1, e2, e3, e4⟩ := sum_nI (c := 5000) (n := kn k) (g := gF (ktp k) (mt (kn k) (kset k 3) (ktp k)) (fareOf (kset k) (ktp k) (mt (kn k) (kset k 3) (ktp k))) c) (g' := gF (ktp k) (mt (kn k) (kset k 3) (ktp k)) (fareOf (kset k) (ktp k) (mt (kn k) (kset k 3) (ktp k))) c) (fun i hi => by
    obtain ⟨m, f1, f2⟩ := fare_nI hk hi
    unfold gF
    split
    · exact ⟨m, m, f1, f1, Nat.le_refl _, f2⟩
    · exact ⟨0, 0, rfl, rfl, Nat.le_refl _, Nat.zero_le _⟩)
  have hn := hk.1
  have := Nat.mul_le_mul_left 5000 hn
  exact ⟨b, e2, by omega⟩
theorem dcost_nI (hk : kok k) (w d : Nat) : ∃ a b, dcost (kn k) (kset k) (ktp k) w d = nI a ∧ dF (kn k) (kset k) (ktp k) (w * 28 + d) = nI b ∧ a ≤ b ∧ b ≤ 300000 := by
  obtain ⟨m, f1, f2⟩ := dF_nI hk (w * 28 + d)
  obtain ⟨s4, b4, e4⟩ := hk.2.2.2.2.2 4 (by decide) (by decide)
  unfold dcost
  rw [f1, e4]
  obtain ⟨a, g1, g2⟩ := min_nI (s := s4) (a := m) (by omega) (by omega)
  exact ⟨a, m, g1, rfl, g2, f2⟩
theorem kwj_nI (hk : kok k) (c : Nat) : ∃ a b, kwj k c = nI a ∧ wsum (dF (kn k) (kset k) (ktp k)) (c / 4) (c % 4) = nI b ∧ a ≤ b ∧ b ≤ 2100000 := by
  obtain ⟨a, b, e1, e2, e3, e4⟩ := sum_nI (n := 7) (fun i _ => dcost_nI hk (c / 4) ((c % 4) * 7 + i))
  obtain ⟨s5, b5, e5⟩ := hk.2.2.2.2.2 5 (by decide) (by decide)
  obtain ⟨m, g1, g2⟩ := min_nI (s := s5) (a := a) (by omega) (by omega)
  refine ⟨m, b, ?_, e2, by omega, by omega⟩
  show (if kset k 5 < wdays (kn k) (kset k) (ktp k) (c / 4) (c % 4) then kset k 5 else wdays (kn k) (kset k) (ktp k) (c / 4) (c % 4)) = _
  rw [show wdays (kn k) (kset k) (ktp k) (c / 4) (c % 4) = nI a from e1, e5]
  exact g1
/-- the costs and the fares of all weeks -/
theorem tot_nI (hk : kok k) : ∃ a b, sumF (kwj k) 16 = nI a ∧ aFares k = nI b ∧ a ≤ b ∧ b ≤ 33600000 := by
  obtain ⟨a, b, e1, e2, e3, e4⟩ := sum_nI (n := 16) (fun i _ => kwj_nI hk i)
  rw [sumF_weeks] at e2
  exact ⟨a, b, e1, e2, e3, by omega⟩
end RBo
