/-! PURE: the reference takes a tap in -/
section RG
variable {M : Nat} {t sm ln p wl rm : Int32} {hs : Int64}
theorem timeOf_M {h : mH} {f : Nat → Int32} {n : Nat} (H : h M = some (mOb M t sm ln p wl rm hs)) (A : isA h (M + 1) 492 f) {u : Nat → Nat} {i : Nat} (hi : i < 61) (hu : ∀ j, j < 6 → f (10 + 6 * i + j) = nI (u j)) : s_X8_timeOf h M (nI i) = some (nI (tm u)) := by
  rw [s_X8_timeOf, is_O H, bS, show (1 : Int32) = nI 1 from rfl, of_M H A (by omega), bS, bS, show (2 : Int32) = nI 2 from rfl, of_M H A (by omega), bS, hu 1 (by decide), hu 2 (by decide), show (1440 : Int32) = nI 1440 from rfl, nI_mul, nI_add]
  rfl
theorem comes_L39 {k18 : mH → Nat → Int32 → Int32 → Int32 → Int32 → Int32 → Int32 → Int32 → Int32 → Option (Int32 × mH)} {v1 v2 v3 v4 v5 v6 v8 : Int32} {q : Nat} (hq : q < 60) {u : Nat → Nat} : ∀ (e j F : Nat) (h : mH) (f : Nat → Int32), h M = some (mOb M t sm ln p wl rm hs) → isA h (M + 1) 492 f → (∀ j, j < 6 → f (10 + 6 * q + j) = nI (u j)) → j + e = 6 → e < F → (∀ i, i < j → f (10 + 6 * (q + 1) + i) = nI (u i)) →
    ∃ h' f', s_X8_comes_L39 k18 F h M v1 v2 v3 v4 v5 v6 (nI (q + 1)) v8 (nI j) = k18 h' M v1 v2 v3 v4 v5 v6 (nI q) v8 ∧ isA h' (M + 1) 492 f' ∧ (∀ i, i < 6 → f' (10 + 6 * (q + 1) + i) = nI (u i)) ∧ (∀ x, ¬ (10 + 6 * (q + 1) ≤ x ∧ x < 10 + 6 * (q + 1) + 6) → f' x = f x) ∧ fr h h' (M + 1) (M + 2) := by
  intro e
  have e5 : nI (q + 1) + (-1) = nI q := (Int32.sub_eq_add_neg _ _).symm.trans (nI_pred q)
  induction e with
  | zero =>
    intro j F h f H A hu hj hF hd
    obtain ⟨F, rfl⟩ : ∃ F', F = F' + 1 := ⟨F - 1, by omega⟩
    obtain rfl : j = 6 := by omega
    refine ⟨h, f, ?_, A, hd, fun x _ => rfl, fr.rf⟩
    rw [s_X8_comes_L39, if_pos (show (6 : Int32) ≤ nI 6 by decide), e5]
  | succ e ih =>
    intro j F h f H A hu hj hF hd
    obtain ⟨F, rfl⟩ : ∃ F', F = F' + 1 := ⟨F - 1, by omega⟩
    obtain ⟨h1, g1, g2, g3⟩ := iast_A A (k := 10 + 6 * (q + 1) + j) (by omega) (by decide) (nI (u j))
    obtain ⟨h', f', k1, k2, k3, k4, k5⟩ := ih (j + 1) F h1 _ (g3.O H (by omega)) g2 (fun i hi => by rw [pk_un (by omega), hu i hi]) (by omega) (by omega) (fun i hi => by
      by_cases z : i = j
      · subst z; rw [pk_us]
      · rw [pk_un (by omega), hd i (by omega)])
    refine ⟨h', f', ?_, k2, k3, fun x hx => by rw [k4 x hx, pk_un (by omega)], g3.tr k5⟩
    rw [s_X8_comes_L39, if_neg (show ¬ (6 : Int32) ≤ nI j from nI_ge (b := 6) (by omega) (by decide)), gr_O H (k := 1) rfl, bS, is_O H, bS, show nI (q + 1) - 1 = nI q from nI_pred q, of_M H A (show 10 + 6 * q + j < 492 by omega), bS, hu j (by omega), show (10 : Int32) = nI 10 from rfl, show (6 : Int32) = nI 6 from rfl, nI_mul, nI_add, nI_add, g1, bS, nI_1, k1]
end RG
