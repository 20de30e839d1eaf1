/-! PURE: the reference puts aside and takes back -/
section RK
variable {M : Nat} {t sm ln p wl rm : Int32} {hs : Int64}
theorem putAside_L {f : Nat → Int32} : ∀ (e i F : Nat) (h : mH) (g : Nat → Int32), h M = some (mOb M t sm ln p wl rm hs) → isA h (M + 1) 492 f → isA h (M + 2) 492 g → (∀ j, j < i → g j = f j) → i + e = 492 → e < F →
    ∃ h', s_X8_putAside_L2 F h M (nI i) = some h' ∧ isA h' (M + 2) 492 f ∧ fr h h' (M + 2) (M + 3) := by
  intro e
  induction e with
  | zero =>
    intro i F h g H A B hg hi hF
    obtain ⟨F, rfl⟩ : ∃ F', F = F' + 1 := ⟨F - 1, by omega⟩
    obtain rfl : i = 492 := by omega
    exact ⟨h, by rw [s_X8_putAside_L2, if_pos (show (492 : Int32) ≤ nI 492 by decide)], B.ext hg, fr.rf⟩
  | succ e ih =>
    intro i F h g H A B hg hi hF
    obtain ⟨F, rfl⟩ : ∃ F', F = F' + 1 := ⟨F - 1, by omega⟩
    obtain ⟨h1, e1, e2, e3⟩ := iast_A B (k := i) (by omega) (by decide) (f i)
    obtain ⟨h2, g1, g2, g3⟩ := ih (i + 1) F h1 _ (e3.O H (by omega)) (A.fr e3 (by omega)) e2 (fun j hj => by
      by_cases q : j = i
      · subst q; rw [pk_us]
      · rw [pk_un q, hg j (by omega)]) (by omega) (by omega)
    refine ⟨h2, ?_, g2, e3.tr g3⟩
    rw [s_X8_putAside_L2, if_neg (show ¬ (492 : Int32) ≤ nI i from nI_ge (b := 492) (by omega) (by decide)), gr_O H (k := 2) rfl, bS, gr_O H (k := 1) rfl, bS, iald_A A (show i < 492 by omega) (by decide), bS, e1, bS, nI_1, g1]
theorem putAside_M {h : mH} {f g : Nat → Int32} (H : h M = some (mOb M t sm ln p wl rm hs)) (A : isA h (M + 1) 492 f) (B : isA h (M + 2) 492 g) : ∃ h', s_X8_putAside h M = some h' ∧ isA h' (M + 2) 492 f ∧ fr h h' (M + 2) (M + 3) :=
  putAside_L 492 0 m_F h g H A B (fun j hj => absurd hj (Nat.not_lt_zero _)) (by decide) (by unfold m_F; decide)
theorem takeBack_L {f : Nat → Int32} : ∀ (e i F : Nat) (h : mH) (g : Nat → Int32), h M = some (mOb M t sm ln p wl rm hs) → isA h (M + 2) 492 f → isA h (M + 1) 492 g → (∀ j, j < i → g j = f j) → i + e = 492 → e < F →
    ∃ h', s_X8_takeBack_L2 F h M (nI i) = some h' ∧ isA h' (M + 1) 492 f ∧ fr h h' (M + 1) (M + 2) := by
  intro e
  induction e with
  | zero =>
    intro i F h g H A B hg hi hF
    obtain ⟨F, rfl⟩ : ∃ F', F = F' + 1 := ⟨F - 1, by omega⟩
    obtain rfl : i = 492 := by omega
    exact ⟨h, by rw [s_X8_takeBack_L2, if_pos (show (492 : Int32) ≤ nI 492 by decide)], B.ext hg, fr.rf⟩
  | succ e ih =>
    intro i F h g H A B hg hi hF
    obtain ⟨F, rfl⟩ : ∃ F', F = F' + 1 := ⟨F - 1, by omega⟩
    obtain ⟨h1, e1, e2, e3⟩ := iast_A B (k := i) (by omega) (by decide) (f i)
    obtain ⟨h2, g1, g2, g3⟩ := ih (i + 1) F h1 _ (e3.O H (by omega)) (A.fr e3 (by omega)) e2 (fun j hj => by
      by_cases q : j = i
      · subst q; rw [pk_us]
      · rw [pk_un q, hg j (by omega)]) (by omega) (by omega)
    refine ⟨h2, ?_, g2, e3.tr g3⟩
    rw [s_X8_takeBack_L2, if_neg (show ¬ (492 : Int32) ≤ nI i from nI_ge (b := 492) (by omega) (by decide)), gr_O H (k := 1) rfl, bS, gr_O H (k := 2) rfl, bS, iald_A A (show i < 492 by omega) (by decide), bS, e1, bS, nI_1, g1]
theorem takeBack_M {h : mH} {f g : Nat → Int32} (H : h M = some (mOb M t sm ln p wl rm hs)) (A : isA h (M + 2) 492 f) (B : isA h (M + 1) 492 g) : ∃ h', s_X8_takeBack h M = some h' ∧ isA h' (M + 1) 492 f ∧ fr h h' (M + 1) (M + 2) :=
  takeBack_L 492 0 m_F h g H A B (fun j hj => absurd hj (Nat.not_lt_zero _)) (by decide) (by unfold m_F; decide)
end RK
