/-! PURE: the reference takes a tap in, whole -/
section RI
variable {M : Nat} {t sm ln p wl rm : Int32} {hs : Int64}
theorem comes_L {f0 : Nat → Int32} {n : Nat} {tp : Nat → Nat → Nat} {u : Nat → Nat} (hn : n ≤ 60) (hv : vTs n tp) (vu : vT u) : ∀ (q F : Nat) (h : mH) (f : Nat → Int32), h M = some (mOb M t sm ln p wl rm hs) → isA h (M + 1) 492 f → f 9 = nI n → (∀ i, i < q → ∀ j, j < 6 → f (10 + 6 * i + j) = nI (tp i j)) → (∀ i, q < i → i ≤ n → ∀ j, j < 6 → f (10 + 6 * i + j) = nI (tp (i - 1) j)) → (∀ x, (x < 10 ∨ 376 ≤ x) → f x = f0 x) → q ≤ n → q < F →
    ∃ h' f', s_X8_comes_L18 F h M (nI (u 0)) (nI (u 1)) (nI (u 2)) (nI (u 3)) (nI (u 4)) (nI (u 5)) (nI q) (nI (tm u)) = some (nI (ip tp u q), h') ∧ isA h' (M + 1) 492 f' ∧ f' 9 = nI (n + 1) ∧ (∀ i, i < n + 1 → ∀ j, j < 6 → f' (10 + 6 * i + j) = nI (tins tp (ip tp u q) u i j)) ∧ (∀ x, x ≠ 9 → (x < 10 ∨ 376 ≤ x) → f' x = f0 x) ∧ fr h h' (M + 1) (M + 2) := by
  intro q
  -- where the tap lands
  have land : ∀ (q : Nat) (h : mH) (f : Nat → Int32), h M = some (mOb M t sm ln p wl rm hs) → isA h (M + 1) 492 f → f 9 = nI n → (∀ i, i < q → ∀ j, j < 6 → f (10 + 6 * i + j) = nI (tp i j)) → (∀ i, q < i → i ≤ n → ∀ j, j < 6 → f (10 + 6 * i + j) = nI (tp (i - 1) j)) → (∀ x, (x < 10 ∨ 376 ≤ x) → f x = f0 x) → q ≤ n →
      ∃ h' f', s_X8_comes_b84 h M (nI (u 0)) (nI (u 1)) (nI (u 2)) (nI (u 3)) (nI (u 4)) (nI (u 5)) (nI q) = some (nI q, h') ∧ isA h' (M + 1) 492 f' ∧ f' 9 = nI (n + 1) ∧ (∀ i, i < n + 1 → ∀ j, j < 6 → f' (10 + 6 * i + j) = nI (tins tp q u i j)) ∧ (∀ x, x ≠ 9 → (x < 10 ∨ 376 ≤ x) → f' x = f0 x) ∧ fr h h' (M + 1) (M + 2) := by
    intro q h f H A h9 g1 g2 g3 hq
    obtain ⟨h', f', e1, e2, e3, e4, e5, e6⟩ := comes_b84 (u := u) (n := n) H A (show q ≤ 60 by omega) h9
    refine ⟨h', f', e1, e2, e4, fun i hi j hj => ?_, fun x h1 h2 => by rw [e5 x h1 (by omega), g3 x h2], e6⟩
    unfold tins
    rcases Nat.lt_trichotomy i q with z | z | z
    · rw [if_pos z, e5 _ (by omega) (by omega), g1 i z j hj]
    · subst z
      rw [if_neg (by omega), if_pos rfl, e3 j hj]
    · rw [if_neg (by omega), if_neg (by omega), e5 _ (by omega) (by omega), g2 i z (by omega) j hj]
  induction q with
  | zero =>
    intro F h f H A h9 g1 g2 g3 hq hF
    obtain ⟨F, rfl⟩ : ∃ F', F = F' + 1 := ⟨F - 1, by omega⟩
    rw [s_X8_comes_L18, if_pos (show nI 0 ≤ 0 by decide)]
    exact land 0 h f H A h9 g1 g2 g3 hq
  | succ q ih =>
    intro F h f H A h9 g1 g2 g3 hq hF
    obtain ⟨F, rfl⟩ : ∃ F', F = F' + 1 := ⟨F - 1, by omega⟩
    have vq := hv q (by omega)
    have b1 : tm (tp q) < 2 ^ 31 := by have h1 := vq.2.1; have h2 := vq.2.2.1; unfold tm; omega
    have b2 : tm u < 2 ^ 31 := by have h1 := vu.2.1; have h2 := vu.2.2.1; unfold tm; omega
    rw [s_X8_comes_L18, if_neg (nI_nle (by omega) (by omega)), is_O H, bS, show nI (q + 1) - 1 = nI q from nI_pred q, timeOf_M (n := n) H A (show q < 61 by omega) (g1 q (by omega)), bS]
    by_cases c : tm (tp q) ≤ tm u
    · have hi : ip tp u (q + 1) = q + 1 := by unfold ip; rw [if_neg (by omega)]
      rw [if_pos (nI_le c b2), hi]
      exact land (q + 1) h f H A h9 g1 g2 g3 hq
    · have hi : ip tp u (q + 1) = ip tp u q := by rw [ip, if_pos (by omega)]
      rw [if_neg (fun z => c ((nI_leI b1 b2).mp z)), hi]
      obtain ⟨h1, f1, e1, e2, e3, e4, e5⟩ := comes_L39 (k18 := s_X8_comes_L18 F) (v1 := nI (u 0)) (v2 := nI (u 1)) (v3 := nI (u 2)) (v4 := nI (u 3)) (v5 := nI (u 4)) (v6 := nI (u 5)) (v8 := nI (tm u)) (show q < 60 by omega) 6 0 m_F h f H A (g1 q (by omega)) (by decide) (by unfold m_F; decide) (fun i hi => absurd hi (Nat.not_lt_zero _))
      obtain ⟨h2, f2, k1, k2, k3, k4, k5, k6⟩ := ih F h1 f1 (e5.O H (by omega)) e2 (by rw [e4 9 (by omega), h9]) (fun i hi j hj => by rw [e4 _ (by omega), g1 i (by omega) j hj]) (fun i h1 h2 j hj => by
        by_cases z : i = q + 1
        · subst z; rw [e3 j hj, Nat.add_sub_cancel]
        · rw [e4 _ (by omega), g2 i (by omega) h2 j hj]) (fun x hx => by rw [e4 x (by omega), g3 x hx]) (by omega) (by omega)
      exact ⟨h2, f2, e1.trans k1, k2, k3, k4, k5, e5.tr k6⟩
theorem comes_M {h : mH} {f : Nat → Int32} {n : Nat} {L : Int32} {tp : Nat → Nat → Nat} {u : Nat → Nat} (H : h M = some (mOb M t sm ln p wl rm hs)) (A : isA h (M + 1) 492 f) (T : hasT f n L tp) (hn : n ≤ 60) (hv : vTs n tp) (vu : vT u) :
    ∃ h' f', s_X8_comes h M (nI (u 0)) (nI (u 1)) (nI (u 2)) (nI (u 3)) (nI (u 4)) (nI (u 5)) = some (nI (ip tp u n), h') ∧ isA h' (M + 1) 492 f' ∧ hasT f' (n + 1) L (tins tp (ip tp u n) u) ∧ (∀ x, x ≠ 9 → (x < 10 ∨ 376 ≤ x) → f' x = f x) ∧ fr h h' (M + 1) (M + 2) := by
  obtain ⟨h', f', e1, e2, e3, e4, e5, e6⟩ := comes_L (f0 := f) hn hv vu n m_F h f H A T.1 T.2.2 (fun i h1 h2 => absurd h1 (by omega)) (fun x _ => rfl) (Nat.le_refl _) (by unfold m_F; omega)
  refine ⟨h', f', ?_, e2, ⟨e3, by rw [e5 3 (by decide) (by decide), T.2.1], e4⟩, e5, e6⟩
  rw [s_X8_comes, num_M H A T, show (1440 : Int32) = nI 1440 from rfl, nI_mul, nI_add]
  exact e1
end RI
