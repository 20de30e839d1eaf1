/-! PURE: the reference's leaky station -/
section RL
variable {h : mH} {M : Nat} {t sm ln p wl rm : Int32} {hs : Int64} {f m : Nat → Int32} {k : mK}
theorem leak_L22 {k10 : mH → Nat → Int32 → Int32 → Int32 → Option (Int32 × mH)} (H : h M = some (mOb M t sm ln p wl rm hs)) (A : isA h (M + 1) 492 f) (S : isS f k) (hn : kn k ≤ 61) (hv : vTs (kn k) (ktp k)) (B : isA h (M + 5) 61 m) (hm : ∀ i, i < kn k → m i = mt (kn k) (kset k 3) (ktp k) i) {b x : Int32} {s : Nat} (hs : s < 10) : ∀ (e i F : Nat), i + e = kn k → e < F →
    s_X8_leakyOne_L22 k10 F h M b x (nI s) (sumF (gL (ktp k) (mt (kn k) (kset k 3) (ktp k)) s) i) (nI i) = if lk (kn k) (kset k) (ktp k) s ≤ x then k10 h M b x (nI (s + 1)) else k10 h M (nI s) (lk (kn k) (kset k) (ktp k) s) (nI (s + 1)) := by
  have T := S.2.2.2.2.1
  intro e
  induction e with
  | zero =>
    intro i F hi hF
    obtain ⟨F, rfl⟩ : ∃ F', F = F' + 1 := ⟨F - 1, by omega⟩
    obtain rfl : i = kn k := by omega
    rw [s_X8_leakyOne_L22, num_M H A T, if_pos (nI_le (Nat.le_refl _) (by omega))]
    show (if lk (kn k) (kset k) (ktp k) s ≤ x then s_X8_leakyOne_b83 k10 h M x (nI s) (lk (kn k) (kset k) (ktp k) s) b else s_X8_leakyOne_b83 k10 h M x (nI s) (lk (kn k) (kset k) (ktp k) s) (nI s)) = _
    by_cases c : lk (kn k) (kset k) (ktp k) s ≤ x
    · rw [if_pos c, if_pos c, s_X8_leakyOne_b83, if_pos c, s_X8_leakyOne_b96, nI_1]
    · rw [if_neg c, if_neg c, s_X8_leakyOne_b83, if_neg c, s_X8_leakyOne_b96, nI_1]
  | succ e ih =>
    intro i F hi hF
    obtain ⟨F, rfl⟩ : ∃ F', F = F' + 1 := ⟨F - 1, by omega⟩
    have hin : i < kn k := by omega
    have vi := (hv i hin).2.2.2.1
    have nx := ih (i + 1) F (by omega) (by omega)
    have sx : ∀ y : Int32, gL (ktp k) (mt (kn k) (kset k 3) (ktp k)) s i = y → sumF (gL (ktp k) (mt (kn k) (kset k 3) (ktp k)) s) (i + 1) = sumF (gL (ktp k) (mt (kn k) (kset k 3) (ktp k)) s) i + y := fun y hy => by rw [← hy]; rfl
    rw [s_X8_leakyOne_L22, num_M H A T, if_neg (nI_ge hin (by omega)), gr_O H (k := 7) rfl, bS, iald_A B (show i < 61 by omega) (by decide), bS, hm i hin]
    by_cases c : mt (kn k) (kset k 3) (ktp k) i = -1
    · rw [if_pos c, is_O H, bS, show (3 : Int32) = nI 3 from rfl, of_T H A T hn hin (by decide), bS]
      by_cases c2 : ktp k i 3 = s
      · rw [sx 1 (if_pos ⟨c, c2⟩)] at nx
        rw [if_pos (by rw [c2]), s_X8_leakyOne_b63, nI_1]
        exact nx
      · rw [sx 0 (if_neg fun z => c2 z.2)] at nx
        rw [if_neg (fun z => c2 ((nI_eq (by omega) (by omega)).mp z)), s_X8_leakyOne_b62, s_X8_leakyOne_b63, nI_1]
        exact nx
    · rw [sx 0 (if_neg fun z => c z.1)] at nx
      rw [if_neg c, s_X8_leakyOne_b62, s_X8_leakyOne_b63, nI_1]
      exact nx
theorem leaky_M (A : isQ h M (mOb M t sm ln p wl rm hs) f) (S : isS f k) (hn : kn k ≤ 61) (hv : vTs (kn k) (ktp k)) : ∃ h', s_X8_leakyOne h M = some ((aLeak k 10).2, h') ∧ isQ h' M (mOb M t sm ln p wl rm hs) f ∧ fr h h' (M + 5) (M + 6) := by
  obtain ⟨a0, a1, m, a2⟩ := id A
  obtain ⟨h', m', e1, e2, e3, e4⟩ := lays_M a0 a1 a2 S.2.2.2.2.1 hn hv
  refine ⟨h', ?_, A.fr e4 e2, e4⟩
  have r : ∀ (d i F : Nat), i + d = 10 → d < F → s_X8_leakyOne_L10 F h' M (aLeak k i).2 (aLeak k i).1 (nI i) = some ((aLeak k 10).2, h') := by
    intro d
    induction d with
    | zero =>
      intro i F hi hF
      obtain ⟨F, rfl⟩ : ∃ F', F = F' + 1 := ⟨F - 1, by omega⟩
      obtain rfl : i = 10 := by omega
      rw [s_X8_leakyOne_L10, if_pos (show (10 : Int32) ≤ nI 10 by decide)]
    | succ d ih =>
      intro i F hi hF
      obtain ⟨F, rfl⟩ : ∃ F', F = F' + 1 := ⟨F - 1, by omega⟩
      have nx := ih (i + 1) F (by omega) (by omega)
      have l := leak_L22 (k10 := s_X8_leakyOne_L10 F) (b := (aLeak k i).2) (x := (aLeak k i).1) (e4.O a0 (by omega)) (a1.fr e4 (by omega)) S hn hv e2 e3 (show i < 10 by omega) (kn k) 0 m_F (by omega) (by unfold m_F; omega)
      rw [s_X8_leakyOne_L10, if_neg (show ¬ (10 : Int32) ≤ nI i from nI_ge (b := 10) (by omega) (by decide))]
      refine l.trans ?_
      by_cases c : lk (kn k) (kset k) (ktp k) i ≤ (aLeak k i).1
      · have ee : aLeak k (i + 1) = aLeak k i := if_pos c
        rw [ee] at nx
        rw [if_pos c]
        exact nx
      · have ee : aLeak k (i + 1) = (lk (kn k) (kset k) (ktp k) i, nI i) := if_neg c
        rw [ee] at nx
        rw [if_neg c]
        exact nx
  rw [s_X8_leakyOne, is_O a0, bS, e1, bS]
  exact r 10 0 m_F (by decide) (by unfold m_F; decide)
end RL
