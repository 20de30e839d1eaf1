/-! PURE: the reference's object, its taps and its rides -/
section RA
def mOb (M : Nat) (t sm ln : Int32) (p wl rm : Int32) (hs : Int64) : mE := mO 6 [.int t, .ref (M + 1), .ref (M + 2), .ref (M + 3), .int sm, .ref (M + 4), .int ln, .ref (M + 5), .int p, .int wl, .ref (M + 6), .int rm, .long hs]
def hasT (f : Nat → Int32) (n : Nat) (L : Int32) (tp : Nat → Nat → Nat) : Prop := f 9 = nI n ∧ f 3 = L ∧ ∀ i, i < n → ∀ j, j < 6 → f (10 + 6 * i + j) = nI (tp i j)
variable {h : mH} {M n : Nat} {t sm ln p wl rm L : Int32} {hs : Int64} {f : Nat → Int32} {tp : Nat → Nat → Nat}
theorem of_M (H : h M = some (mOb M t sm ln p wl rm hs)) (A : isA h (M + 1) 492 f) {i j : Nat} (hi : 10 + 6 * i + j < 492) : s_X8_of h M (nI i) (nI j) = some (f (10 + 6 * i + j)) := by
  rw [s_X8_of, gr_O H (k := 1) rfl, bS, show (10 : Int32) = nI 10 from rfl, show (6 : Int32) = nI 6 from rfl, nI_mul, nI_add, nI_add, iald_A A hi (by decide), bS]
theorem of_T (H : h M = some (mOb M t sm ln p wl rm hs)) (A : isA h (M + 1) 492 f) (T : hasT f n L tp) (hn : n ≤ 61) {i j : Nat} (hi : i < n) (hj : j < 6) : s_X8_of h M (nI i) (nI j) = some (nI (tp i j)) := by
  rw [of_M H A (show 10 + 6 * i + j < 492 by omega), T.2.2 i hi j hj]
theorem num_M (H : h M = some (mOb M t sm ln p wl rm hs)) (A : isA h (M + 1) 492 f) (T : hasT f n L tp) : ∀ {β : Type} (F : Int32 → Option β), ((m_gr h 6 M 1).bind fun x => (m_iald h x 9).bind F) = F (nI n) := by
  intro β F
  rw [gr_O H (k := 1) rfl, bS, show (9 : Int32) = nI 9 from rfl, iald_A A (show 9 < 492 by decide) (by decide), bS, T.1]
theorem nextOf_L (H : h M = some (mOb M t sm ln p wl rm hs)) (A : isA h (M + 1) 492 f) (T : hasT f n L tp) (hn : n ≤ 61) (hv : vTs n tp) {i : Nat} (hi : i < n) : ∀ (d q F : Nat), q + d = n → d < F → i < q → (∀ r, i < r → r < q → tp r 0 ≠ tp i 0) →
    ∃ q', s_X8_nextOf_L4 h F M (nI i) (nI q) = some (nI q') ∧ i < q' ∧ q' ≤ n ∧ (∀ r, i < r → r < q' → tp r 0 ≠ tp i 0) ∧ (q' < n → tp q' 0 = tp i 0) := by
  intro d
  induction d with
  | zero =>
    intro q F hq hF hiq hr
    obtain ⟨F, rfl⟩ : ∃ F', F = F' + 1 := ⟨F - 1, by omega⟩
    obtain rfl : q = n := by omega
    refine ⟨q, ?_, hiq, Nat.le_refl _, hr, fun z => absurd z (by omega)⟩
    rw [s_X8_nextOf_L4, num_M H A T, if_pos (nI_le (Nat.le_refl _) (by omega))]; rfl
  | succ d ih =>
    intro q F hq hF hiq hr
    obtain ⟨F, rfl⟩ : ∃ F', F = F' + 1 := ⟨F - 1, by omega⟩
    have v1 := (hv q (by omega)).1
    have v2 := (hv i hi).1
    have st : s_X8_nextOf_L4 h (F + 1) M (nI i) (nI q) = if nI (tp q 0) = nI (tp i 0) then s_X8_nextOf_b36 h (nI q) else s_X8_nextOf_L4 h F M (nI i) (nI (q + 1)) := by
      rw [s_X8_nextOf_L4, num_M H A T, if_neg (nI_ge (by omega) (by omega)), is_O H, bS, show (0 : Int32) = nI 0 from rfl, of_T H A T hn (show q < n by omega) (by decide), bS, bS, of_T H A T hn hi (by decide), bS, nI_1]
    rw [st]
    by_cases c : tp q 0 = tp i 0
    · rw [if_pos (by rw [c])]
      exact ⟨q, rfl, hiq, by omega, hr, fun _ => c⟩
    · rw [if_neg (fun z => c ((nI_eq (by omega) (by omega)).mp z))]
      exact ih (q + 1) F (by omega) (by omega) (by omega) (fun r h1 h2 => by
        by_cases z : r = q
        · rw [z]; exact c
        · exact hr r h1 (by omega))
theorem nextOf_M (H : h M = some (mOb M t sm ln p wl rm hs)) (A : isA h (M + 1) 492 f) (T : hasT f n L tp) (hn : n ≤ 61) (hv : vTs n tp) {i : Nat} (hi : i < n) :
    ∃ q', s_X8_nextOf h M (nI i) = some (nI q') ∧ i < q' ∧ q' ≤ n ∧ (∀ r, i < r → r < q' → tp r 0 ≠ tp i 0) ∧ (q' < n → tp q' 0 = tp i 0) := by
  obtain ⟨q', e⟩ := nextOf_L H A T hn hv hi (n - (i + 1)) (i + 1) m_F (by omega) (by unfold m_F; omega) (by omega) (fun r h1 h2 => absurd h1 (by omega))
  rw [s_X8_nextOf, nI_1]
  exact ⟨q', e⟩
theorem lays_L28 (hn : n ≤ 61) (hv : vTs n tp) (T : hasT f n L tp) : ∀ (d i F : Nat) (h : mH) (m : Nat → Int32), h M = some (mOb M t sm ln p wl rm hs) → isA h (M + 1) 492 f → isA h (M + 5) 61 m → isMM (fun x y => pq n L tp x y ∧ x < i) n m → i + d = n → d < F →
    ∃ h' m', s_X8_laysRides_L28 F h M (nI i) = some h' ∧ isA h' (M + 5) 61 m' ∧ isMM (pq n L tp) n m' ∧ fr h h' (M + 5) (M + 6) := by
  intro d
  induction d with
  | zero =>
    intro i F h m H A B S hi hF
    obtain ⟨F, rfl⟩ : ∃ F', F = F' + 1 := ⟨F - 1, by omega⟩
    obtain rfl : i = n := by omega
    refine ⟨h, m, ?_, B, S.same fun x y => ⟨fun z => z.1, fun z => ⟨z, by have := z.1; have := z.2.1; omega⟩⟩, fr.rf⟩
    rw [s_X8_laysRides_L28, num_M H A T, if_pos (nI_le (Nat.le_refl _) (by omega))]
  | succ d ih =>
    intro i F h m H A B S hi hF
    obtain ⟨F, rfl⟩ : ∃ F', F = F' + 1 := ⟨F - 1, by omega⟩
    have hin : i < n := by omega
    have vi := hv i hin
    obtain ⟨q, e1, e2, e3, e4, e5⟩ := nextOf_M H A T hn hv hin
    have plain : (∀ y, ¬ pq n L tp i y) → ∃ h' m', s_X8_laysRides_b136 (s_X8_laysRides_L28 F) h M (nI i) = some h' ∧ isA h' (M + 5) 61 m' ∧ isMM (pq n L tp) n m' ∧ fr h h' (M + 5) (M + 6) := by
      intro hno
      obtain ⟨h', m', g1, g2, g3, g4⟩ := ih (i + 1) F h m H A B (S.same fun x y => ⟨fun z => ⟨z.1, by omega⟩, fun z => ⟨z.1, by
        by_cases c : x = i
        · subst c; exact absurd z.1 (hno y)
        · omega⟩⟩) (by omega) (by omega)
      refine ⟨h', m', ?_, g2, g3, g4⟩
      rw [s_X8_laysRides_b136, nI_1, g1]
    have uq : ∀ y, pq n L tp i y → y = q ∧ q < n := by
      intro y hy
      have hyn := hy.2.1
      rcases Nat.lt_trichotomy y q with z | z | z
      · exact absurd hy.2.2.1.symm (e4 y hy.1 z)
      · exact ⟨z, by omega⟩
      · exact absurd (e5 (by omega)) (hy.2.2.2.1 q e2 z)
    rw [s_X8_laysRides_L28, num_M H A T, if_neg (nI_ge hin (by omega)), is_O H, bS, e1, bS, num_M H A T]
    by_cases c0 : n ≤ q
    · rw [if_pos (nI_le c0 (by omega)), s_X8_laysRides_b94, s_X8_laysRides_b95, if_pos rfl]
      exact plain fun y hy => by have := (uq y hy).2; omega
    · have hq : q < n := by omega
      have vq := hv q hq
      have ew := e5 hq
      have no : ∃ h' m', s_X8_laysRides_b94 (s_X8_laysRides_L28 F) h M (nI i) (nI q) = some h' ∧ isA h' (M + 5) 61 m' ∧ isMM (pq n L tp) n m' ∧ fr h h' (M + 5) (M + 6) ∨ pq n L tp i q := by
        by_cases c : pq n L tp i q
        · exact ⟨h, m, Or.inr c⟩
        · obtain ⟨h', m', g⟩ := plain fun y hy => c (by rw [← (uq y hy).1]; exact hy)
          exact ⟨h', m', Or.inl (by rw [s_X8_laysRides_b94, s_X8_laysRides_b95, if_pos rfl]; exact g)⟩
      have i4 : tp i 4 < 2 := vi.2.2.2.2.1
      have q4 : tp q 4 < 2 := vq.2.2.2.2.1
      have i1 := vi.2.1
      have q1 := vq.2.1
      rw [if_neg (nI_ge hq (by omega)), bS, show (4 : Int32) = nI 4 from rfl, of_T H A T hn hin (by decide), bS]
      by_cases c1 : tp i 4 = 1
      · rw [if_pos (by rw [c1]; rfl), bS, of_T H A T hn hq (by decide), bS]
        by_cases c2 : tp q 4 = 0
        · rw [if_pos (by rw [c2]; rfl), bS, show (1 : Int32) = nI 1 from rfl, of_T H A T hn hin (by decide), bS, bS, of_T H A T hn hq (by decide), bS]
          by_cases c3 : tp i 1 = tp q 1
          · rw [if_pos (by rw [c3]), s_X8_laysRides_b95, if_neg (show ¬ nI 1 = 0 by decide), is_O H, bS, show (2 : Int32) = nI 2 from rfl, of_T H A T hn hq (by decide), bS, bS, of_T H A T hn hin (by decide), bS, gr_O H (k := 1) rfl, bS, show (3 : Int32) = nI 3 from rfl, iald_A A (show 3 < 492 by decide) (by decide), bS, T.2.1]
            by_cases c4 : L < nI (tp q 2) - nI (tp i 2)
            · rw [if_pos c4]
              exact plain fun y hy => by
                obtain ⟨rfl, -⟩ := uq y hy
                have := hy.2.2.2.2.2.2.2
                have a1 := Int32.lt_iff_toInt_lt.mp c4
                have a2 := Int32.le_iff_toInt_le.mp this
                omega
            · have hpq : pq n L tp i q := ⟨e2, hq, ew.symm, e4, c1, c2, c3, by
                apply Int32.le_iff_toInt_le.mpr
                have a1 : ¬ L.toInt < (nI (tp q 2) - nI (tp i 2)).toInt := fun z => c4 (Int32.lt_iff_toInt_lt.mpr z)
                omega⟩
              obtain ⟨h1, g1, g2, g3⟩ := iast_A B (k := i) (by omega) (by decide) (nI q)
              have H1 := g3.O H (by omega)
              obtain ⟨h2, k1, k2, k3⟩ := iast_A g2 (k := q) (by omega) (by decide) (nI i)
              have H2 := k3.O H1 (by omega)
              obtain ⟨h', m', j1, j2, j3, j4⟩ := ih (i + 1) F h2 _ H2 ((A.fr g3 (by omega)).fr k3 (by omega)) k2 (S.add (a := i) (b := q) (fun x y => ⟨fun z => by
                by_cases c : x = i
                · subst c; exact Or.inr ⟨rfl, (uq y z.1).1⟩
                · exact Or.inl ⟨z.1, by omega⟩, fun z => by
                rcases z with z | ⟨z1, z2⟩
                · exact ⟨z.1, by omega⟩
                · subst z1; subst z2; exact ⟨hpq, by omega⟩⟩) (by omega) (fun y => ⟨fun z => by omega, fun z => pq_x z.1 hpq⟩) (fun y => ⟨fun z => pq_x hpq z.1, fun z => by have := pq_l z.1 hpq; omega⟩)) (by omega) (by omega)
              refine ⟨h', m', ?_, j2, j3, (g3.tr k3).tr j4⟩
              rw [if_neg c4, gr_O H (k := 7) rfl, bS, g1, bS, gr_O H1 (k := 7) rfl, bS, k1, bS, s_X8_laysRides_b136, nI_1, j1]
          · obtain ⟨h', m', g | g⟩ := no
            · rw [if_neg (fun z => c3 ((nI_eq (by omega) (by omega)).mp z))]
              exact ⟨h', m', g⟩
            · exact absurd g.2.2.2.2.2.2.1 c3
        · obtain ⟨h', m', g | g⟩ := no
          · rw [if_neg (show ¬ nI (tp q 4) = 0 from nI_ne0 (by omega) (by omega))]
            exact ⟨h', m', g⟩
          · exact absurd g.2.2.2.2.2.1 c2
      · obtain ⟨h', m', g | g⟩ := no
        · rw [if_neg (show ¬ nI (tp i 4) = 1 from fun z => c1 ((nI_eq (b := 1) (by omega) (by decide)).mp z))]
          exact ⟨h', m', g⟩
        · exact absurd g.2.2.2.2.1 c1
theorem lays_L2 (hn : n ≤ 61) (hv : vTs n tp) (T : hasT f n L tp) : ∀ (d i F : Nat) (h : mH) (m : Nat → Int32), h M = some (mOb M t sm ln p wl rm hs) → isA h (M + 1) 492 f → isA h (M + 5) 61 m → (∀ j, j < i → m j = -1) → i + d = n → d < F →
    ∃ h' m', s_X8_laysRides_L2 F h M (nI i) = some h' ∧ isA h' (M + 5) 61 m' ∧ isMM (pq n L tp) n m' ∧ fr h h' (M + 5) (M + 6) := by
  intro d
  induction d with
  | zero =>
    intro i F h m H A B hm hi hF
    obtain ⟨F, rfl⟩ : ∃ F', F = F' + 1 := ⟨F - 1, by omega⟩
    obtain rfl : i = n := by omega
    obtain ⟨h', m', e1, e2, e3, e4⟩ := lays_L28 hn hv T i 0 m_F h m H A B (isMM.none (fun x y z => absurd z.2 (Nat.not_lt_zero _)) hm) (by omega) (by unfold m_F; omega)
    refine ⟨h', m', ?_, e2, e3, e4⟩
    rw [s_X8_laysRides_L2, num_M H A T, if_pos (nI_le (Nat.le_refl _) (by omega))]
    exact e1
  | succ d ih =>
    intro i F h m H A B hm hi hF
    obtain ⟨F, rfl⟩ : ∃ F', F = F' + 1 := ⟨F - 1, by omega⟩
    obtain ⟨h1, e1, e2, e3⟩ := iast_A B (k := i) (by omega) (by decide) (-1)
    obtain ⟨h', m', g1, g2, g3, g4⟩ := ih (i + 1) F h1 _ (e3.O H (by omega)) (A.fr e3 (by omega)) e2 (fun j hj => by
      by_cases q : j = i
      · subst q; rw [pk_us]
      · rw [pk_un q, hm j (by omega)]) (by omega) (by omega)
    refine ⟨h', m', ?_, g2, g3, e3.tr g4⟩
    rw [s_X8_laysRides_L2, num_M H A T, if_neg (nI_ge (by omega) (by omega)), gr_O H (k := 7) rfl, bS, e1, bS, nI_1, g1]
theorem lays_M (H : h M = some (mOb M t sm ln p wl rm hs)) (A : isA h (M + 1) 492 f) {m : Nat → Int32} (B : isA h (M + 5) 61 m) (T : hasT f n L tp) (hn : n ≤ 61) (hv : vTs n tp) : ∃ h' m', s_X8_laysRides h M = some h' ∧ isA h' (M + 5) 61 m' ∧ (∀ i, i < n → m' i = mt n L tp i) ∧ fr h h' (M + 5) (M + 6) := by
  obtain ⟨h', m', e1, e2, e3, e4⟩ := lays_L2 hn hv T n 0 m_F h m H A B (fun j hj => absurd hj (Nat.not_lt_zero _)) (by omega) (by unfold m_F; omega)
  exact ⟨h', m', e1, e2, e3.uniq (mt_is n L tp), e4⟩
end RA
