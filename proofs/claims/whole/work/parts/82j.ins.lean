/-! PURE: the state row with one more tap -/
section RJ
variable {M : Nat} {t sm ln p wl rm : Int32} {hs : Int64}
theorem isS.ins {f f' : Nat → Int32} {k : mK} {u : Nat → Nat} (S : isS f k) (T : hasT f' (kn k + 1) (kset k 3) (tins (ktp k) (kip k u) u)) (hx : ∀ x, x ≠ 9 → (x < 10 ∨ 376 ≤ x) → f' x = f x) (hl : ∀ w, w < 4 → kln k w ≤ 8) : isS f' (kins k u) := by
  obtain ⟨s1, s2, s3, s4, s5, s6, s7, s8, s9, s10⟩ := S
  refine ⟨fun i hi => ?_, ?_, ?_, ?_, T, fun c hc => ?_, fun c hc => ?_, fun c hc => ?_, fun w hw => ?_, fun w hw b hb => ?_⟩
  · rw [hx i (by omega) (by omega)]; exact s1 i hi
  · rw [hx 6 (by decide) (by decide)]; exact s2
  · rw [hx 7 (by decide) (by decide)]; exact s3
  · rw [hx 8 (by decide) (by decide)]; exact s4
  · rw [hx _ (by omega) (by omega)]; exact s6 c hc
  · rw [hx _ (by omega) (by omega)]; exact s7 c hc
  · rw [hx _ (by omega) (by omega)]; exact s8 c hc
  · rw [hx _ (by omega) (by omega)]; exact s9 w hw
  · have hb8 : b < kln k w := hb
    have hw8 := hl w hw
    rw [hx _ (by omega) (by omega), hx _ (by omega) (by omega)]
    exact s10 w hw b hb8
theorem comes_S {h : mH} {f : Nat → Int32} {k : mK} {u : Nat → Nat} (H : h M = some (mOb M t sm ln p wl rm hs)) (A : isA h (M + 1) 492 f) (S : isS f k) (hl : ∀ w, w < 4 → kln k w ≤ 8) (hn : kn k ≤ 60) (hv : vTs (kn k) (ktp k)) (vu : vT u) :
    ∃ h' f', s_X8_comes h M (nI (u 0)) (nI (u 1)) (nI (u 2)) (nI (u 3)) (nI (u 4)) (nI (u 5)) = some (nI (kip k u), h') ∧ isA h' (M + 1) 492 f' ∧ isS f' (kins k u) ∧ fr h h' (M + 1) (M + 2) := by
  obtain ⟨h', f', e1, e2, e3, e4, e5⟩ := comes_M H A S.2.2.2.2.1 hn hv vu
  exact ⟨h', f', e1, e2, S.ins e3 e4 hl, e5⟩
end RJ
