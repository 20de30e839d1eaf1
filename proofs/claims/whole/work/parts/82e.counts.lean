/-! PURE: what the reference counts -/
section RE
variable {h : mH} {M sz : Nat} {t sm ln p wl rm : Int32} {hs : Int64} {f : Nat → Int32} {k : mK}
theorem unsettled_L (S : isS f k) (hn : kn k ≤ 61) (hv : vTs (kn k) (ktp k)) : ∀ (e i F : Nat) (h : mH), isQ h M (mOb M t sm ln p wl rm hs) f → i + e = 16 → e < F →
    ∃ h', s_X8_unsettled_L4 F h M (sumF (kuns k) i) (nI i) = some (sumF (kuns k) 16, h') ∧ isQ h' M (mOb M t sm ln p wl rm hs) f ∧ fr h h' (M + 5) (M + 6) := by
  intro e
  induction e with
  | zero =>
    intro i F h A hi hF
    obtain ⟨F, rfl⟩ : ∃ F', F = F' + 1 := ⟨F - 1, by omega⟩
    obtain rfl : i = 16 := by omega
    exact ⟨h, by rw [s_X8_unsettled_L4, if_pos (show (16 : Int32) ≤ nI 16 by decide)], A, fr.rf⟩
  | succ e ih =>
    intro i F h A hi hF
    obtain ⟨F, rfl⟩ : ∃ F', F = F' + 1 := ⟨F - 1, by omega⟩
    have hc : i < 16 := by omega
    have go : ∀ (h1 : mH) (x : Int32), kuns k i = x → isQ h1 M (mOb M t sm ln p wl rm hs) f → ∃ h', s_X8_unsettled_b52 (s_X8_unsettled_L4 F) h1 M (nI i) (sumF (kuns k) i) x = some (sumF (kuns k) 16, h') ∧ isQ h' M (mOb M t sm ln p wl rm hs) f ∧ fr h1 h' (M + 5) (M + 6) := by
      intro h1 x hx A1
      obtain ⟨h2, g1, g2, g3⟩ := ih (i + 1) F h1 A1 (by omega) (by omega)
      refine ⟨h2, ?_, g2, g3⟩
      rw [s_X8_unsettled_b52, nI_1, ← hx]
      exact g1
    rw [s_X8_unsettled_L4, if_neg (show ¬ (16 : Int32) ≤ nI i from nI_ge (b := 16) hc (by decide)), show (408 : Int32) = nI 408 from rfl, nI_add, st_M A.1 A.2.1 (show 408 + i < 492 by omega), S.2.2.2.2.2.2.2.1 i hc]
    by_cases c1 : kstl k i ≤ 0
    · rw [if_pos c1, s_X8_unsettled_b51]
      exact go h 0 (if_neg fun z => z.1 c1) A
    · obtain ⟨h1, e1, e2, e3⟩ := costs_M A S hn hv (show i / 4 < 4 by omega) (show i % 4 < 4 by omega)
      rw [if_neg c1, show (4 : Int32) = nI 4 from rfl, m_div_nI (by omega) (by decide) (by decide), bS, m_rem_nI (by omega) (by decide) (by decide), bS, is_O A.1, bS, e1, bS]
      show ∃ h', ((m_gr h1 6 M 1).bind fun x35 => (m_iald h1 x35 (376 + nI i)).bind fun x43 => _) = _ ∧ _
      rw [show (376 : Int32) = nI 376 from rfl, nI_add, st_M e2.1 e2.2.1 (show 376 + i < 492 by omega), S.2.2.2.2.2.1 i hc]
      by_cases c2 : kw k (i / 4) (i % 4) = kchg k i
      · rw [if_pos c2, s_X8_unsettled_b51]
        obtain ⟨h2, g1, g2, g3⟩ := go h1 0 (if_neg fun z => z.2 c2.symm) e2
        exact ⟨h2, g1, g2, e3.tr g3⟩
      · rw [if_neg c2]
        obtain ⟨h2, g1, g2, g3⟩ := go h1 1 (if_pos ⟨c1, fun z => c2 z.symm⟩) e2
        exact ⟨h2, g1, g2, e3.tr g3⟩
theorem alone_L (H : h M = some (mOb M t sm ln p wl rm hs)) (A : isA h (M + 1) 492 f) (S : isS f k) (hn : kn k ≤ 61) {m : Nat → Int32} (B : isA h (M + 5) 61 m) (hm : ∀ i, i < kn k → m i = mt (kn k) (kset k 3) (ktp k) i) : ∀ (e i F : Nat), i + e = kn k → e < F →
    s_X8_alone_L8 F h M (sumF (fun i => if mt (kn k) (kset k 3) (ktp k) i = -1 then 1 else 0) i) (nI i) = some (sumF (fun i => if mt (kn k) (kset k 3) (ktp k) i = -1 then 1 else 0) (kn k), h) := by
  have T := S.2.2.2.2.1
  intro e
  induction e with
  | zero =>
    intro i F hi hF
    obtain ⟨F, rfl⟩ : ∃ F', F = F' + 1 := ⟨F - 1, by omega⟩
    obtain rfl : i = kn k := by omega
    rw [s_X8_alone_L8, num_M H A T, if_pos (nI_le (Nat.le_refl _) (by omega))]
  | succ e ih =>
    intro i F hi hF
    obtain ⟨F, rfl⟩ : ∃ F', F = F' + 1 := ⟨F - 1, by omega⟩
    have nx := ih (i + 1) F (by omega) (by omega)
    have hin : i < kn k := by omega
    have sx : ∀ x : Int32, (if mt (kn k) (kset k 3) (ktp k) i = -1 then (1 : Int32) else 0) = x → sumF (fun i => if mt (kn k) (kset k 3) (ktp k) i = -1 then (1 : Int32) else 0) (i + 1) = sumF (fun i => if mt (kn k) (kset k 3) (ktp k) i = -1 then (1 : Int32) else 0) i + x := fun x hx => by rw [← hx]; rfl
    rw [s_X8_alone_L8, num_M H A T, if_neg (nI_ge hin (by omega)), gr_O H (k := 7) rfl, bS, iald_A B (show i < 61 by omega) (by decide), bS, hm i hin]
    by_cases c : mt (kn k) (kset k 3) (ktp k) i = -1
    · rw [sx 1 (if_pos c)] at nx
      rw [if_pos c, s_X8_alone_b35, nI_1]
      exact nx
    · rw [sx 0 (if_neg c)] at nx
      rw [if_neg c, s_X8_alone_b35, nI_1]
      exact nx
theorem counts_M (A : isQ h M (mOb M t (nI sz) ln p wl rm hs) f) (S : isS f k) (hn : kn k ≤ 61) (hv : vTs (kn k) (ktp k)) {q : Nat} (hq : q < 10) :
    ∃ h', s_X8_counts h M (nI q) = some (aCount k sz q, h') ∧ isQ h' M (mOb M t (nI sz) ln p wl rm hs) f ∧ fr h h' (M + 5) (M + 6) := by
  match q, hq with
  | 0, _ =>
    refine ⟨h, ?_, A, fr.rf⟩
    rw [s_X8_counts, if_pos (show nI 0 = 0 from rfl), num_M A.1 A.2.1 S.2.2.2.2.1]; rfl
  | 1, _ =>
    obtain ⟨h', e1, e2, e3⟩ := overWeeks_M A S hn hv (show 0 < 7 by decide)
    refine ⟨h', ?_, e2, e3⟩
    rw [s_X8_counts, if_neg (show ¬ nI 1 = 0 by decide), if_pos (show nI 1 = 1 from rfl), is_O A.1, bS, show (0 : Int32) = nI 0 from rfl, e1, bS]
    show some (sumF (fun c => wsum (dR (kn k) (kset k) (ktp k)) (c / 4) (c % 4)) 16, h') = _
    rw [sumF_weeks]; rfl
  | 2, _ =>
    obtain ⟨a0, a1, m, a2⟩ := id A
    obtain ⟨h', m', e1, e2, e3, e4⟩ := lays_M a0 a1 a2 S.2.2.2.2.1 hn hv
    refine ⟨h', ?_, A.fr e4 e2, e4⟩
    have r := alone_L (e4.O a0 (by omega)) (a1.fr e4 (by omega)) S hn e2 e3 (kn k) 0 m_F (by omega) (by unfold m_F; omega)
    rw [s_X8_counts, if_neg (show ¬ nI 2 = 0 by decide), if_neg (show ¬ nI 2 = 1 by decide), if_pos (show nI 2 = 2 from rfl), is_O A.1, bS, s_X8_alone, is_O A.1, bS, e1, bS]
    show ((s_X8_alone_L8 m_F h' M 0 0).bind fun (x67, h67) => _) = some (sumF (dA (kn k) (kset k) (ktp k)) 112, h')
    rw [alone_sum hv, show s_X8_alone_L8 m_F h' M 0 0 = _ from r]; rfl
  | 3, _ =>
    obtain ⟨h', e1, e2, e3⟩ := overWeeks_M A S hn hv (show 3 < 7 by decide)
    refine ⟨h', ?_, e2, e3⟩
    rw [s_X8_counts, if_neg (show ¬ nI 3 = 0 by decide), if_neg (show ¬ nI 3 = 1 by decide), if_neg (show ¬ nI 3 = 2 by decide), if_pos (show nI 3 = 3 from rfl), s_X8_counts_b71, is_O A.1, bS, e1]; rfl
  | 4, _ =>
    obtain ⟨h', e1, e2, e3⟩ := overWeeks_M A S hn hv (show 4 < 7 by decide)
    refine ⟨h', ?_, e2, e3⟩
    rw [s_X8_counts, if_neg (show ¬ nI 4 = 0 by decide), if_neg (show ¬ nI 4 = 1 by decide), if_neg (show ¬ nI 4 = 2 by decide), if_neg (show ¬ nI 4 = 3 by decide), if_pos (show nI 4 = 4 from rfl), s_X8_counts_b71, is_O A.1, bS, e1, bS]
    show some (sumF (fun c => kchg k (c / 4 * 4 + c % 4)) 16, h') = some (sumF (kchg k) 16, h')
    rw [sumF_ext (g' := kchg k) fun c _ => by rw [Nat.mul_comm, Nat.div_add_mod]]
  | 5, _ =>
    refine ⟨h, ?_, A, fr.rf⟩
    rw [s_X8_counts, if_neg (show ¬ nI 5 = 0 by decide), if_neg (show ¬ nI 5 = 1 by decide), if_neg (show ¬ nI 5 = 2 by decide), if_neg (show ¬ nI 5 = 3 by decide), if_neg (show ¬ nI 5 = 4 by decide), if_pos (show nI 5 = 5 from rfl), s_X8_counts_b77, show (6 : Int32) + nI 5 - 5 = nI 6 by decide, st_M A.1 A.2.1 (by decide), S.2.1]; rfl
  | 6, _ =>
    refine ⟨h, ?_, A, fr.rf⟩
    rw [s_X8_counts, if_neg (show ¬ nI 6 = 0 by decide), if_neg (show ¬ nI 6 = 1 by decide), if_neg (show ¬ nI 6 = 2 by decide), if_neg (show ¬ nI 6 = 3 by decide), if_neg (show ¬ nI 6 = 4 by decide), if_neg (show ¬ nI 6 = 5 by decide), if_pos (show nI 6 = 6 from rfl), s_X8_counts_b77, show (6 : Int32) + nI 6 - 5 = nI 7 by decide, st_M A.1 A.2.1 (by decide), S.2.2.1]; rfl
  | 7, _ =>
    refine ⟨h, ?_, A, fr.rf⟩
    rw [s_X8_counts, if_neg (show ¬ nI 7 = 0 by decide), if_neg (show ¬ nI 7 = 1 by decide), if_neg (show ¬ nI 7 = 2 by decide), if_neg (show ¬ nI 7 = 3 by decide), if_neg (show ¬ nI 7 = 4 by decide), if_neg (show ¬ nI 7 = 5 by decide), if_neg (show ¬ nI 7 = 6 by decide), if_pos (show nI 7 = 7 from rfl), s_X8_counts_b77, show (6 : Int32) + nI 7 - 5 = nI 8 by decide, st_M A.1 A.2.1 (by decide), S.2.2.2.1]; rfl
  | 8, _ =>
    obtain ⟨h', e1, e2, e3⟩ := unsettled_L S hn hv 16 0 m_F h A (by decide) (by unfold m_F; decide)
    refine ⟨h', ?_, e2, e3⟩
    rw [s_X8_counts, if_neg (show ¬ nI 8 = 0 by decide), if_neg (show ¬ nI 8 = 1 by decide), if_neg (show ¬ nI 8 = 2 by decide), if_neg (show ¬ nI 8 = 3 by decide), if_neg (show ¬ nI 8 = 4 by decide), if_neg (show ¬ nI 8 = 5 by decide), if_neg (show ¬ nI 8 = 6 by decide), if_neg (show ¬ nI 8 = 7 by decide), if_pos (show nI 8 = 8 from rfl), is_O A.1, bS, s_X8_unsettled, show s_X8_unsettled_L4 m_F h M 0 0 = _ from e1]; rfl
  | 9, _ =>
    refine ⟨h, ?_, A, fr.rf⟩
    rw [s_X8_counts, if_neg (show ¬ nI 9 = 0 by decide), if_neg (show ¬ nI 9 = 1 by decide), if_neg (show ¬ nI 9 = 2 by decide), if_neg (show ¬ nI 9 = 3 by decide), if_neg (show ¬ nI 9 = 4 by decide), if_neg (show ¬ nI 9 = 5 by decide), if_neg (show ¬ nI 9 = 6 by decide), if_neg (show ¬ nI 9 = 7 by decide), if_neg (show ¬ nI 9 = 8 by decide), gi_O A.1 (k := 4) rfl]; rfl
end RE
