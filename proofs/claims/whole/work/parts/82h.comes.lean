/-! PURE: the reference takes a tap in, its place -/
section RH
variable {M : Nat} {t sm ln p wl rm : Int32} {hs : Int64}
theorem comes_b84 {h : mH} {f : Nat → Int32} {n q : Nat} {u : Nat → Nat} (H : h M = some (mOb M t sm ln p wl rm hs)) (A : isA h (M + 1) 492 f) (hq : q ≤ 60) (h9 : f 9 = nI n) : ∃ h' f', s_X8_comes_b84 h M (nI (u 0)) (nI (u 1)) (nI (u 2)) (nI (u 3)) (nI (u 4)) (nI (u 5)) (nI q) = some (nI q, h') ∧ isA h' (M + 1) 492 f' ∧ (∀ j, j < 6 → f' (10 + 6 * q + j) = nI (u j)) ∧ f' 9 = nI (n + 1) ∧ (∀ x, x ≠ 9 → ¬ (10 + 6 * q ≤ x ∧ x < 10 + 6 * q + 6) → f' x = f x) ∧ fr h h' (M + 1) (M + 2) := by
  have ev : ∀ j : Nat, (10 : Int32) + 6 * nI q + nI j = nI (10 + 6 * q + j) := fun j => by rw [show (10 : Int32) = nI 10 from rfl, show (6 : Int32) = nI 6 from rfl, nI_mul, nI_add, nI_add]
  obtain ⟨h0, e0, a0, f0⟩ := iast_A A (k := 10 + 6 * q + 0) (by omega) (by decide) (nI (u 0))
  have H0 := f0.O H (by omega)
  obtain ⟨h1, e1, a1, f1⟩ := iast_A a0 (k := 10 + 6 * q + 1) (by omega) (by decide) (nI (u 1))
  have H1 := f1.O H0 (by omega)
  obtain ⟨h2, e2, a2, f2⟩ := iast_A a1 (k := 10 + 6 * q + 2) (by omega) (by decide) (nI (u 2))
  have H2 := f2.O H1 (by omega)
  obtain ⟨h3, e3, a3, f3⟩ := iast_A a2 (k := 10 + 6 * q + 3) (by omega) (by decide) (nI (u 3))
  have H3 := f3.O H2 (by omega)
  obtain ⟨h4, e4, a4, f4⟩ := iast_A a3 (k := 10 + 6 * q + 4) (by omega) (by decide) (nI (u 4))
  have H4 := f4.O H3 (by omega)
  obtain ⟨h5, e5, a5, f5⟩ := iast_A a4 (k := 10 + 6 * q + 5) (by omega) (by decide) (nI (u 5))
  have H5 := f5.O H4 (by omega)
  obtain ⟨h6, e6, a6, f6⟩ := iast_A a5 (k := 9) (by decide) (by decide) (nI (n + 1))
  have r9 : m_iald h5 (M + 1) (nI 9) = some (nI n) := by
    rw [iald_A a5 (show 9 < 492 by decide) (by decide), pk_un (by omega), pk_un (by omega), pk_un (by omega), pk_un (by omega), pk_un (by omega), pk_un (by omega), h9]
  refine ⟨h6, _, ?_, a6, fun j hj => ?_, pk_us, fun x hx hr => ?_, f0.tr (f1.tr (f2.tr (f3.tr (f4.tr (f5.tr f6)))))⟩
  · rw [s_X8_comes_b84, gr_O H (k := 1) rfl, bS, show (0 : Int32) = nI 0 from rfl, ev, e0, bS, gr_O H0 (k := 1) rfl, bS, show (1 : Int32) = nI 1 from rfl, ev, e1, bS, gr_O H1 (k := 1) rfl, bS, show (2 : Int32) = nI 2 from rfl, ev, e2, bS, gr_O H2 (k := 1) rfl, bS, show (3 : Int32) = nI 3 from rfl, ev, e3, bS, gr_O H3 (k := 1) rfl, bS, show (4 : Int32) = nI 4 from rfl, ev, e4, bS, gr_O H4 (k := 1) rfl, bS, show (5 : Int32) = nI 5 from rfl, ev, e5, bS, gr_O H5 (k := 1) rfl, bS, show (9 : Int32) = nI 9 from rfl, r9, bS, nI_add, e6, bS]
  · rw [pk_un (by omega)]
    match j, hj with
    | 0, _ => rw [pk_un (by omega), pk_un (by omega), pk_un (by omega), pk_un (by omega), pk_un (by omega), pk_us]
    | 1, _ => rw [pk_un (by omega), pk_un (by omega), pk_un (by omega), pk_un (by omega), pk_us]
    | 2, _ => rw [pk_un (by omega), pk_un (by omega), pk_un (by omega), pk_us]
    | 3, _ => rw [pk_un (by omega), pk_un (by omega), pk_us]
    | 4, _ => rw [pk_un (by omega), pk_us]
    | 5, _ => rw [pk_us]
  · rw [pk_un hx, pk_un (by omega), pk_un (by omega), pk_un (by omega), pk_un (by omega), pk_un (by omega), pk_un (by omega)]
end RH
