/-! PURE: the reference's days and weeks -/
section RB
def isS (f : Nat → Int32) (k : mK) : Prop := (∀ i, i < 6 → f i = kset k i) ∧ f 6 = krf k ∧ f 7 = krd k ∧ f 8 = krr k ∧ hasT f (kn k) (kset k 3) (ktp k) ∧ (∀ c, c < 16 → f (376 + c) = kchg k c) ∧ (∀ c, c < 16 → f (392 + c) = kclm k c) ∧ (∀ c, c < 16 → f (408 + c) = kstl k c) ∧ (∀ w, w < 4 → f (424 + w) = nI (kln k w)) ∧ ∀ w, w < 4 → ∀ b, b < kln k w → f (428 + 16 * w + 2 * b) = klw k w b ∧ f (428 + 16 * w + 2 * b + 1) = kls k w b
variable {h : mH} {M : Nat} {t sm ln p wl rm : Int32} {hs : Int64} {f m : Nat → Int32} {k : mK}
theorem st_M (H : h M = some (mOb M t sm ln p wl rm hs)) (A : isA h (M + 1) 492 f) {j : Nat} (hj : j < 492) : ∀ {β : Type} (F : Int32 → Option β), ((m_gr h 6 M 1).bind fun x => (m_iald h x (nI j)).bind F) = F (f j) := by
  intro β F
  rw [gr_O H (k := 1) rfl, bS, iald_A A hj (by decide), bS]
theorem fare_M (H : h M = some (mOb M t sm ln p wl rm hs)) (A : isA h (M + 1) 492 f) (S : isS f k) (hn : kn k ≤ 61) (hv : vTs (kn k) (ktp k)) (B : isA h (M + 5) 61 m) (hm : ∀ i, i < kn k → m i = mt (kn k) (kset k 3) (ktp k) i) {i : Nat} (hi : i < kn k) : s_X8_fare h M (nI i) = some (fareOf (kset k) (ktp k) (mt (kn k) (kset k 3) (ktp k)) i) := by
  have T := S.2.2.2.2.1
  have vi := hv i hi
  rw [s_X8_fare, gr_O H (k := 7) rfl, bS, iald_A B (show i < 61 by omega) (by decide), bS, hm i hi]
  unfold fareOf
  by_cases c : mt (kn k) (kset k 3) (ktp k) i = -1
  · rw [if_pos c, if_pos c, show (2 : Int32) = nI 2 from rfl, st_M H A (by decide), S.1 2 (by decide)]
  · rcases (mt_is (kn k) (kset k 3) (ktp k)).cases hi with c' | ⟨q, hq, hqi, eq⟩
    · exact absurd c' c
    · have vq := hv q hq
      have v3 := vi.2.2.2.1
      have w3 := vq.2.2.2.1
      rw [if_neg c, if_neg c, eq, is_O H, bS, show (3 : Int32) = nI 3 from rfl, of_T H A T hn hi (by decide), bS, show (2 : Int32) = nI 2 from rfl, m_div_nI (by omega) (by decide) (by decide), bS, bS, iald_A B (show i < 61 by omega) (by decide), bS, hm i hi, eq, bS, of_T H A T hn hq (by decide), bS, m_div_nI (by omega) (by decide) (by decide), bS, show (0 : Int32) = nI 0 from rfl, st_M H A (by decide), show (1 : Int32) = nI 1 from rfl, st_M H A (by decide), S.1 0 (by decide), S.1 1 (by decide), nI_cl (show q < 2 ^ 31 by omega)]
      unfold absI
      by_cases z : 0 ≤ nI (ktp k i 3 / 2) - nI (ktp k q 3 / 2)
      · rw [if_pos z, if_pos (show nI 0 ≤ _ from z)]; rfl
      · rw [if_neg z, if_neg (show ¬ nI 0 ≤ _ from z), Int32.zero_sub]; rfl
theorem begins_M (H : h M = some (mOb M t sm ln p wl rm hs)) (B : isA h (M + 5) 61 m) {i : Nat} (hi : i < 61) : s_X8_begins h M (nI i) = some (if m i = -1 ∨ ¬ m i ≤ nI i then 1 else 0) := by
  rw [s_X8_begins, gr_O H (k := 7) rfl, bS, iald_A B hi (by decide), bS]
  by_cases c : m i = -1
  · rw [if_pos c, if_pos (Or.inl c)]; rfl
  · rw [if_neg c, bS, iald_A B hi (by decide), bS]
    by_cases c2 : m i ≤ nI i
    · rw [if_pos c2, if_neg (fun z => z.elim c fun z => z c2)]; rfl
    · rw [if_neg c2, if_pos (Or.inr c2)]; rfl
theorem ofDay_L (H : h M = some (mOb M t sm ln p wl rm hs)) (A : isA h (M + 1) 492 f) (S : isS f k) (hn : kn k ≤ 61) (hv : vTs (kn k) (ktp k)) (B : isA h (M + 5) 61 m) (hm : ∀ i, i < kn k → m i = mt (kn k) (kset k 3) (ktp k) i) {w d q : Nat} (hw : w < 4) (hd : d < 28) (hq : q < 4) : ∀ (e i F : Nat), i + e = kn k → e < F →
    s_X8_ofDay_L16 F h M (nI w) (nI d) (nI q) (sumF (gR (ktp k) (mt (kn k) (kset k 3) (ktp k)) (w * 28 + d)) i) (sumF (gA (ktp k) (mt (kn k) (kset k 3) (ktp k)) (w * 28 + d)) i) (sumF (gF (ktp k) (mt (kn k) (kset k 3) (ktp k)) (fareOf (kset k) (ktp k) (mt (kn k) (kset k 3) (ktp k))) (w * 28 + d)) i) (nI i) = some (aDay k w d q, h) := by
  have T := S.2.2.2.2.1
  intro e
  induction e with
  | zero =>
    intro i F hi hF
    obtain ⟨F, rfl⟩ : ∃ F', F = F' + 1 := ⟨F - 1, by omega⟩
    obtain rfl : i = kn k := by omega
    rw [s_X8_ofDay_L16, num_M H A T, if_pos (nI_le (Nat.le_refl _) (by omega))]
    match q, hq with
    | 0, _ => rw [if_pos (show nI 0 = 0 from rfl)]; rfl
    | 1, _ => rw [if_neg (show ¬ nI 1 = 0 by decide), if_pos (show nI 1 = 1 from rfl)]; rfl
    | 2, _ => rw [if_neg (show ¬ nI 2 = 0 by decide), if_neg (show ¬ nI 2 = 1 by decide), if_pos (show nI 2 = 2 from rfl)]; rfl
    | 3, _ =>
      rw [if_neg (show ¬ nI 3 = 0 by decide), if_neg (show ¬ nI 3 = 1 by decide), if_neg (show ¬ nI 3 = 2 by decide), show (4 : Int32) = nI 4 from rfl, st_M H A (by decide), S.1 4 (by decide)]
      show (if kset k 4 ≤ dF (kn k) (kset k) (ktp k) (w * 28 + d) then _ else _) = some ((if kset k 4 < dF (kn k) (kset k) (ktp k) (w * 28 + d) then kset k 4 else dF (kn k) (kset k) (ktp k) (w * 28 + d)), h)
      by_cases z : kset k 4 ≤ dF (kn k) (kset k) (ktp k) (w * 28 + d)
      · rw [if_pos z, st_M H A (by decide), S.1 4 (by decide)]
        by_cases y : kset k 4 < dF (kn k) (kset k) (ktp k) (w * 28 + d)
        · rw [if_pos y]; rfl
        · have ee : kset k 4 = dF (kn k) (kset k) (ktp k) (w * 28 + d) := Int32.le_antisymm z (Int32.not_lt.mp y)
          rw [if_neg y, ← ee]; rfl
      · rw [if_neg z, if_neg (fun y => z (Int32.le_of_lt y))]; rfl
  | succ e ih =>
    intro i F hi hF
    obtain ⟨F, rfl⟩ : ∃ F', F = F' + 1 := ⟨F - 1, by omega⟩
    have hin : i < kn k := by omega
    have vi := hv i hin
    have v0 := vi.1
    have v1 := vi.2.1
    have nx := ih (i + 1) F (by omega) (by omega)
    have sR : ∀ x : Int32, gR (ktp k) (mt (kn k) (kset k 3) (ktp k)) (w * 28 + d) i = x → sumF (gR (ktp k) (mt (kn k) (kset k 3) (ktp k)) (w * 28 + d)) (i + 1) = sumF (gR (ktp k) (mt (kn k) (kset k 3) (ktp k)) (w * 28 + d)) i + x := fun x hx => by rw [← hx]; rfl
    have sA : ∀ x : Int32, gA (ktp k) (mt (kn k) (kset k 3) (ktp k)) (w * 28 + d) i = x → sumF (gA (ktp k) (mt (kn k) (kset k 3) (ktp k)) (w * 28 + d)) (i + 1) = sumF (gA (ktp k) (mt (kn k) (kset k 3) (ktp k)) (w * 28 + d)) i + x := fun x hx => by rw [← hx]; rfl
    have sF : ∀ x : Int32, gF (ktp k) (mt (kn k) (kset k 3) (ktp k)) (fareOf (kset k) (ktp k) (mt (kn k) (kset k 3) (ktp k))) (w * 28 + d) i = x → sumF (gF (ktp k) (mt (kn k) (kset k 3) (ktp k)) (fareOf (kset k) (ktp k) (mt (kn k) (kset k 3) (ktp k))) (w * 28 + d)) (i + 1) = sumF (gF (ktp k) (mt (kn k) (kset k 3) (ktp k)) (fareOf (kset k) (ktp k) (mt (kn k) (kset k 3) (ktp k))) (w * 28 + d)) i + x := fun x hx => by rw [← hx]; rfl
    -- the tap is not of the cell, or begins no ride
    have skip : ¬ (cel (ktp k) i = w * 28 + d ∧ (mt (kn k) (kset k 3) (ktp k) i = -1 ∨ ¬ mt (kn k) (kset k 3) (ktp k) i ≤ nI i)) → s_X8_ofDay_b94 (s_X8_ofDay_L16 F) h M (nI w) (nI d) (nI q) (sumF (gR (ktp k) (mt (kn k) (kset k 3) (ktp k)) (w * 28 + d)) i) (sumF (gA (ktp k) (mt (kn k) (kset k 3) (ktp k)) (w * 28 + d)) i) (sumF (gF (ktp k) (mt (kn k) (kset k 3) (ktp k)) (fareOf (kset k) (ktp k) (mt (kn k) (kset k 3) (ktp k))) (w * 28 + d)) i) (nI i) = some (aDay k w d q, h) := by
      intro z
      rw [sR 0 (if_neg z), sA 0 (if_neg fun y => z ⟨y.1, Or.inl y.2⟩), sF 0 (if_neg z), Int32.add_zero, Int32.add_zero, Int32.add_zero] at nx
      rw [s_X8_ofDay_b94, nI_1]
      exact nx
    rw [s_X8_ofDay_L16, num_M H A T, if_neg (nI_ge hin (by omega)), is_O H, bS, show (0 : Int32) = nI 0 from rfl, of_T H A T hn hin (by decide), bS]
    by_cases c0 : ktp k i 0 = w
    · rw [if_pos (by rw [c0]), bS, show (1 : Int32) = nI 1 from rfl, of_T H A T hn hin (by decide), bS]
      by_cases c1 : ktp k i 1 = d
      · have cc : cel (ktp k) i = w * 28 + d := by unfold cel; rw [c0, c1]
        rw [if_pos (by rw [c1]), bS, begins_M H B (by omega), bS, hm i hin]
        by_cases c2 : mt (kn k) (kset k 3) (ktp k) i = -1 ∨ ¬ mt (kn k) (kset k 3) (ktp k) i ≤ nI i
        · have b80 : ∀ x : Int32, s_X8_ofDay_b80 (s_X8_ofDay_L16 F) h M (nI w) (nI d) (nI q) (sumF (gR (ktp k) (mt (kn k) (kset k 3) (ktp k)) (w * 28 + d)) i + nI 1) (sumF (gF (ktp k) (mt (kn k) (kset k 3) (ktp k)) (fareOf (kset k) (ktp k) (mt (kn k) (kset k 3) (ktp k))) (w * 28 + d)) i) (nI i) (sumF (gA (ktp k) (mt (kn k) (kset k 3) (ktp k)) (w * 28 + d)) i) x = s_X8_ofDay_L16 F h M (nI w) (nI d) (nI q) (sumF (gR (ktp k) (mt (kn k) (kset k 3) (ktp k)) (w * 28 + d)) i + nI 1) (sumF (gA (ktp k) (mt (kn k) (kset k 3) (ktp k)) (w * 28 + d)) i + x) (sumF (gF (ktp k) (mt (kn k) (kset k 3) (ktp k)) (fareOf (kset k) (ktp k) (mt (kn k) (kset k 3) (ktp k))) (w * 28 + d)) i + fareOf (kset k) (ktp k) (mt (kn k) (kset k 3) (ktp k)) i) (nI (i + 1)) := by
            intro x
            rw [s_X8_ofDay_b80, is_O H, bS, fare_M H A S hn hv B hm hin, bS, s_X8_ofDay_b94, nI_1]
          rw [sR (nI 1) (if_pos ⟨cc, c2⟩), sF _ (if_pos ⟨cc, c2⟩)] at nx
          rw [if_pos c2, if_neg (show ¬ (1 : Int32) = nI 0 by decide), gr_O H (k := 7) rfl, bS, iald_A B (show i < 61 by omega) (by decide), bS, hm i hin]
          by_cases c3 : mt (kn k) (kset k 3) (ktp k) i = -1
          · rw [sA (nI 1) (if_pos ⟨cc, c3⟩)] at nx
            rw [if_pos (show mt (kn k) (kset k 3) (ktp k) i = -nI 1 from c3), b80]
            exact nx
          · rw [sA (nI 0) (if_neg fun z => c3 z.2)] at nx
            rw [if_neg (show ¬ mt (kn k) (kset k 3) (ktp k) i = -nI 1 from c3), b80]
            exact nx
        · rw [if_neg c2, if_pos (show (0 : Int32) = nI 0 from rfl)]
          exact skip fun z => c2 z.2
      · rw [if_neg (fun z => c1 ((nI_eq (by omega) (by omega)).mp z))]
        exact skip fun z => c1 (by have := z.1; unfold cel at this; omega)
    · rw [if_neg (fun z => c0 ((nI_eq (by omega) (by omega)).mp z))]
      exact skip fun z => c0 (by have := z.1; unfold cel at this; omega)
theorem ofDay_M (H : h M = some (mOb M t sm ln p wl rm hs)) (A : isA h (M + 1) 492 f) (S : isS f k) (hn : kn k ≤ 61) (hv : vTs (kn k) (ktp k)) (B : isA h (M + 5) 61 m) {w d q : Nat} (hw : w < 4) (hd : d < 28) (hq : q < 4) : ∃ h' m', s_X8_ofDay h M (nI w) (nI d) (nI q) = some (aDay k w d q, h') ∧ isA h' (M + 5) 61 m' ∧ fr h h' (M + 5) (M + 6) := by
  obtain ⟨h', m', e1, e2, e3, e4⟩ := lays_M H A B S.2.2.2.2.1 hn hv
  refine ⟨h', m', ?_, e2, e4⟩
  have r := ofDay_L (e4.O H (by omega)) (A.fr e4 (by omega)) S hn hv e2 e3 hw hd hq (kn k) 0 m_F (by omega) (by unfold m_F; omega)
  rw [s_X8_ofDay, is_O H, bS, e1, bS]
  exact r
end RB
