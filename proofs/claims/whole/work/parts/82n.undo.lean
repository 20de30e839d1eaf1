/-! PURE: the reference's undo and remove -/
section RN
theorem in0_yes {h : mH} {b i : Nat} (hi : i < b + 1) (hb : b < 2 ^ 31) : s_X8_in h (nI i) 0 (nI b) = some 1 := by
  rw [s_X8_in, if_neg (show ¬ nI i < 0 from nI_pos (by omega)), if_neg (nI_nlt (by omega) (by omega)), s_X8_in_b15, z_1, bS]
theorem in0_no {h : mH} {b : Nat} {v : Int32} (q : oB v (b + 1)) (hb : b + 1 < 2 ^ 31) : s_X8_in h v 0 (nI b) = some 0 := by
  rw [s_X8_in]
  rcases q with q | q
  · rw [if_pos q, s_X8_in_b14, s_X8_in_b15, z_0, bS]
  · by_cases c : v < 0
    · rw [if_pos c, s_X8_in_b14, s_X8_in_b15, z_0, bS]
    · rw [if_neg c, if_pos (Int32.lt_of_lt_of_le (nI_lt (by omega) (by omega)) q), s_X8_in_b14, s_X8_in_b15, z_0, bS]
theorem in_yes {h : mH} {v a b : Int32} (q1 : ¬ v < a) (q2 : ¬ b < v) : s_X8_in h v a b = some 1 := by
  rw [s_X8_in, if_neg q1, if_neg q2, s_X8_in_b15, z_1, bS]
theorem in_no {h : mH} {v a b : Int32} (q : v < a ∨ b < v) : s_X8_in h v a b = some 0 := by
  rw [s_X8_in]
  by_cases c : v < a
  · rw [if_pos c, s_X8_in_b14, s_X8_in_b15, z_0, bS]
  · rw [if_neg c, if_pos (q.resolve_left c), s_X8_in_b14, s_X8_in_b15, z_0, bS]
variable {h : mH} {M sz bl : Nat} {t sm ln p wl rm : Int32} {hs : Int64} {f g V b : Nat → Int32} {k : mK} {sv : Nat → mK}
theorem isTap_yes (A : isR h M t sm ln f g V b) {n i : Nat} (h9 : f 9 = nI n) (hi : i < n) (hn : n ≤ 61) : s_X8_isTap h M (nI i) = some 1 := by
  obtain ⟨⟨p, wl, rm, hs, a0⟩, a1, -⟩ := A
  obtain ⟨m, rfl⟩ : ∃ m, n = m + 1 := ⟨n - 1, by omega⟩
  rw [s_X8_isTap, gr_O a0 (k := 1) rfl, bS, show (9 : Int32) = nI 9 from rfl, iald_A a1 (show 9 < 492 by decide) (by decide), bS, h9, show nI (m + 1) - 1 = nI m from nI_pred m, in0_yes hi (by omega), bS, z_1, bS]
theorem isTap_no (A : isR h M t sm ln f g V b) {n : Nat} {v : Int32} (h9 : f 9 = nI n) (q : oB v n) (hn : n ≤ 61) : s_X8_isTap h M v = some 0 := by
  obtain ⟨⟨p, wl, rm, hs, a0⟩, a1, -⟩ := A
  have e : s_X8_in h v 0 (nI n - 1) = some 0 := by
    match n, q with
    | 0, q => exact in_no (q.imp id fun z => Int32.lt_of_lt_of_le (show nI 0 - 1 < nI 0 by decide) z)
    | m + 1, q => rw [nI_pred]; exact in0_no q (by omega)
  rw [s_X8_isTap, gr_O a0 (k := 1) rfl, bS, show (9 : Int32) = nI 9 from rfl, iald_A a1 (show 9 < 492 by decide) (by decide), bS, h9, e, bS, z_0, bS]
theorem undo_30 {c : Nat} (hc : c < 6) : ∀ (e i F : Nat) (h : mH) (f : Nat → Int32), h M = some (mOb M t (nI c) ln p wl rm hs) → isA h (M + 1) 492 f → isA h (M + 3) 2952 V → (∀ x, x < i → f x = V (492 * c + x)) → i + e = 492 → e < F →
    ∃ h', s_X8_undo_L30 F h M (nI i) = some (nI c, h') ∧ isA h' (M + 1) 492 (fun x => V (492 * c + x)) ∧ fr h h' (M + 1) (M + 2) := by
  intro e
  induction e with
  | zero =>
    intro i F h f H A B h1 hi hF
    obtain ⟨F, rfl⟩ : ∃ F', F = F' + 1 := ⟨F - 1, by omega⟩
    obtain rfl : i = 492 := by omega
    refine ⟨h, ?_, A.ext h1, fr.rf⟩
    rw [s_X8_undo_L30, if_pos (show (492 : Int32) ≤ nI 492 by decide), gi_O H (k := 4) rfl, bS]
  | succ e ih =>
    intro i F h f H A B h1 hi hF
    obtain ⟨F, rfl⟩ : ∃ F', F = F' + 1 := ⟨F - 1, by omega⟩
    obtain ⟨ha, e1, e2, e3⟩ := iast_A A (k := i) (by omega) (by decide) (V (492 * c + i))
    obtain ⟨hb, g1, g2, g3⟩ := ih (i + 1) F ha _ (e3.O H (by omega)) e2 (B.fr e3 (by omega)) (fun x hx => by
      by_cases q : x = i
      · subst q; rw [pk_us]
      · rw [pk_un q, h1 x (by omega)]) (by omega) (by omega)
    refine ⟨hb, ?_, g2, e3.tr g3⟩
    rw [s_X8_undo_L30, if_neg (show ¬ (492 : Int32) ≤ nI i from nI_ge (b := 492) (by omega) (by decide)), gr_O H (k := 1) rfl, bS, gr_O H (k := 3) rfl, bS, gi_O H (k := 4) rfl, bS, show (492 : Int32) = nI 492 from rfl, nI_mul, nI_add, iald_A B (show 492 * c + i < 2952 by omega) (by decide), bS, e1, bS, nI_1, g1]
theorem undo_Mno (A : isM h M t k 0 sv bl b) : ∃ h', s_X8_undo h M = some (0, h') ∧ isM h' M 1 k 0 sv bl b ∧ fr h h' M (M + 7) := by
  obtain ⟨f, g, V, R, S, W⟩ := A
  obtain ⟨h1, e1, e2, e3⟩ := R.th 0
  obtain ⟨h2, g1, g2, g3⟩ := e2.fl 1
  refine ⟨h2, ?_, ⟨f, g, V, g2, S, W⟩, (e3.tr g3).wd (by omega) (by omega)⟩
  obtain ⟨p, wl, rm, hs, b0⟩ := e2.1
  rw [s_X8_undo, e1, bS, gi_O b0 (k := 4) rfl, bS, if_pos (show nI 0 = 0 from rfl), is_O b0, bS, g1, bS]
theorem undo_M (A : isM h M t k (sz + 1) sv bl b) (hz : sz < 6) : ∃ h', s_X8_undo h M = some (nI sz, h') ∧ isM h' M 0 (sv 0) sz (fun j => sv (j + 1)) bl b ∧ fr h h' M (M + 7) := by
  obtain ⟨f, g, V, R, S, W⟩ := A
  obtain ⟨h1, e1, e2, e3⟩ := R.th 0
  obtain ⟨p, wl, rm, hs, b0⟩ := e2.1
  have w : m_put h1 6 M 4 (.int (nI sz)) = some (m_up h1 M (mOb M 0 (nI sz) (nI bl) p wl rm hs)) := put_O b0 (k := 4) (show 4 < 13 by decide)
  have R2 : isR (m_up h1 M (mOb M 0 (nI sz) (nI bl) p wl rm hs)) M 0 (nI sz) (nI bl) f g V b := e2.m0
  have E : fr h1 (m_up h1 M (mOb M 0 (nI sz) (nI bl) p wl rm hs)) M (M + 1) := fr.up
  obtain ⟨h3, g1, g2, g3⟩ := undo_30 (V := V) hz 492 0 m_F _ f (m_up_same h1 M (mOb M 0 (nI sz) (nI bl) p wl rm hs)) R2.2.1 R2.2.2.2.1 (fun x hx => absurd hx (Nat.not_lt_zero _)) (by decide) (by unfold m_F; decide)
  refine ⟨h3, ?_, ⟨_, g, V, R2.m1 g3 g2, ?_, fun i hi => ?_⟩, ((e3.wd (by omega) (by omega)).tr (E.wd (by omega) (by omega))).tr (g3.wd (by omega) (by omega))⟩
  · rw [s_X8_undo, e1, bS, gi_O b0 (k := 4) rfl, bS, if_neg (show ¬ nI (sz + 1) = 0 from nI_ne0 (by omega) (by omega)), bS, nI_pred, w, bS]
    exact g1
  · have w := W sz (by omega)
    rw [show sz + 1 - 1 - sz = 0 by omega] at w
    exact w
  · have w := W i (by omega)
    rw [show sz + 1 - 1 - i = sz - 1 - i + 1 by omega] at w
    exact w
theorem remove_39 {n v0 : Nat} (hn : n < 60) (h9 : f 9 = nI n) : ∀ (e v F : Nat) (h : mH) (f1 : Nat → Int32), h M = some (mOb M t sm ln p wl rm hs) → isA h (M + 1) 492 f1 → (∀ x, x < 10 + v0 → f1 x = f x) → (∀ x, 10 + v0 ≤ x → x < 10 + v → f1 x = f (x + 6)) → (∀ x, 10 + v ≤ x → f1 x = f x) → v0 ≤ v → v + e = 6 * n → e < F →
    ∃ h' f', s_X8_remove_L39 F h M (nI v) = some (nI n, h') ∧ isA h' (M + 1) 492 f' ∧ (∀ x, x < 10 + v0 → f' x = f x) ∧ (∀ x, 10 + v0 ≤ x → x < 10 + 6 * n → f' x = f (x + 6)) ∧ (∀ x, 10 + 6 * n ≤ x → f' x = f x) ∧ fr h h' (M + 1) (M + 2) := by
  intro e
  induction e with
  | zero =>
    intro v F h f1 H A h1 h2 h3 hv0 hv hF
    obtain ⟨F, rfl⟩ : ∃ F', F = F' + 1 := ⟨F - 1, by omega⟩
    obtain rfl : v = 6 * n := by omega
    refine ⟨h, f1, ?_, A, h1, h2, h3, fr.rf⟩
    rw [s_X8_remove_L39, gr_O H (k := 1) rfl, bS, show (9 : Int32) = nI 9 from rfl, iald_A A (show 9 < 492 by decide) (by decide), bS, h1 9 (by omega), h9, show (6 : Int32) = nI 6 from rfl, nI_mul, if_pos (nI_le (Nat.le_refl _) (by omega)), bS, iald_A A (show 9 < 492 by decide) (by decide), bS, h1 9 (by omega), h9]
  | succ e ih =>
    intro v F h f1 H A h1 h2 h3 hv0 hv hF
    obtain ⟨F, rfl⟩ : ∃ F', F = F' + 1 := ⟨F - 1, by omega⟩
    obtain ⟨ha, e1, e2, e3⟩ := iast_A A (k := 10 + v) (by omega) (by decide) (f1 (10 + v + 6))
    obtain ⟨hb, f', g1, g2, g3, g4, g5, g6⟩ := ih (v + 1) F ha _ (e3.O H (by omega)) e2 (fun x hx => by rw [pk_un (by omega), h1 x hx]) (fun x hx1 hx2 => by
      by_cases q : x = 10 + v
      · subst q; rw [pk_us, h3 _ (by omega)]
      · rw [pk_un q, h2 x hx1 (by omega)]) (fun x hx => by rw [pk_un (by omega), h3 x (by omega)]) (by omega) (by omega) (by omega)
    refine ⟨hb, f', ?_, g2, g3, g4, g5, e3.tr g6⟩
    rw [s_X8_remove_L39, gr_O H (k := 1) rfl, bS, show (9 : Int32) = nI 9 from rfl, iald_A A (show 9 < 492 by decide) (by decide), bS, h1 9 (by omega), h9, show (6 : Int32) = nI 6 from rfl, nI_mul, if_neg (nI_ge (by omega) (by omega)), bS, bS, show (10 : Int32) = nI 10 from rfl, nI_add, nI_add, iald_A A (show 10 + v + 6 < 492 by omega) (by decide), bS, e1, bS, nI_1, g1]
theorem remove_Mno (A : isM h M t k sz sv bl b) (hn : kn k ≤ 60) {v : Int32} (q : oB v (kn k)) : ∃ h', s_X8_remove h M v = some (0, h') ∧ isM h' M 1 k sz sv bl b ∧ fr h h' M (M + 7) := by
  obtain ⟨f, g, V, R, S, W⟩ := A
  obtain ⟨h1, e1, e2, e3⟩ := R.th 0
  obtain ⟨h2, g1, g2, g3⟩ := e2.fl 1
  refine ⟨h2, ?_, ⟨f, g, V, g2, S, W⟩, (e3.tr g3).wd (by omega) (by omega)⟩
  rw [s_X8_remove, e1, bS, e2.is, bS, isTap_no e2 S.2.2.2.2.1.1 q (by omega), bS, if_pos rfl, bS, g1, bS]
theorem remove_M (A : isM h M t k sz sv bl b) (hk : kok k) (hsv : ∀ j, j < sz → kok (sv j)) (hz : sz ≤ 6) {i : Nat} (hi : i < kn k) : ∃ h', s_X8_remove h M (nI i) = some (nI (kn k - 1), h') ∧ isM h' M 0 (kdel k i) (min (sz + 1) 6) (kpush sv k) bl b ∧ fr h h' M (M + 7) := by
  obtain ⟨f, g, V, R, S, W⟩ := A
  obtain ⟨h1, e1, e2, e3⟩ := R.th 0
  obtain ⟨h2, V', g1, g2, g3, g4⟩ := saves_M e2 S hk W hsv hz
  obtain ⟨p, wl, rm, hs, b0⟩ := g2.1
  obtain ⟨s1, s2, s3, s4, ⟨t1, t2, t3⟩, s6, s7, s8, s9, s10⟩ := id S
  have hn := hk.1
  obtain ⟨h3, j1, j2, j3⟩ := iast_A g2.2.1 (k := 9) (by decide) (by decide) (nI (kn k - 1))
  obtain ⟨h4, f', l1, l2, l3, l4, l5, l6⟩ := remove_39 (M := M) (f := upd f 9 (nI (kn k - 1))) (n := kn k - 1) (v0 := 6 * i) (by omega) pk_us (6 * (kn k - 1) - 6 * i) (6 * i) m_F h3 _ (j3.O b0 (by omega)) j2 (fun x hx => rfl) (fun x h1 h2 => absurd h1 (by omega)) (fun x hx => rfl) (Nat.le_refl _) (by omega) (by unfold m_F; omega)
  have far : ∀ x, x ≠ 9 → (x < 10 ∨ 370 ≤ x) → f' x = f x := by
    intro x x1 x2
    rcases x2 with x2 | x2
    · rw [l3 x (by omega), pk_un x1]
    · rw [l5 x (by omega), pk_un x1]
  have kn' : kn (kdel k i) = kn k - 1 := rfl
  refine ⟨h4, ?_, ⟨f', g, V', (g2.m1 j3 j2).m1 l6 l2, ⟨fun c hc => ?_, ?_, ?_, ?_, ⟨?_, ?_, fun c hc j hj => ?_⟩, fun c hc => ?_, fun c hc => ?_, fun c hc => ?_, fun w hw => ?_, fun w hw c hc => ?_⟩, g3⟩, ((e3.wd (by omega) (by omega)).tr (g4.wd (by omega) (by omega))).tr ((j3.tr l6).wd (by omega) (by omega))⟩
  · rw [s_X8_remove, e1, bS, e2.is, bS, isTap_yes e2 t1 hi (by omega), bS, if_neg (by decide), bS, g1, bS, gr_O b0 (k := 1) rfl, bS, show (9 : Int32) = nI 9 from rfl, iald_A g2.2.1 (show 9 < 492 by decide) (by decide), bS, t1, show nI (kn k) - 1 = nI (kn k - 1) from by rw [show (1 : Int32) = nI 1 from rfl, nI_sub (by omega)], j1, bS, show (6 : Int32) = nI 6 from rfl, nI_mul]
    exact l1
  · rw [far c (by omega) (by omega)]; exact s1 c hc
  · rw [far 6 (by decide) (by decide)]; exact s2
  · rw [far 7 (by decide) (by decide)]; exact s3
  · rw [far 8 (by decide) (by decide)]; exact s4
  · rw [l3 9 (by omega), pk_us]; rfl
  · rw [far 3 (by decide) (by decide)]; exact t2
  · have hc' : c < kn k - 1 := hc
    show f' (10 + 6 * c + j) = nI ((if c < i then ktp k c else ktp k (c + 1)) j)
    by_cases z : c < i
    · rw [if_pos z, l3 _ (by omega), pk_un (by omega), t3 c (by omega) j hj]
    · rw [if_neg z, l4 _ (by omega) (by omega), pk_un (by omega), show 10 + 6 * c + j + 6 = 10 + 6 * (c + 1) + j by omega, t3 (c + 1) (by omega) j hj]
  · rw [far _ (by omega) (by omega)]; exact s6 c hc
  · rw [far _ (by omega) (by omega)]; exact s7 c hc
  · rw [far _ (by omega) (by omega)]; exact s8 c hc
  · rw [far _ (by omega) (by omega)]; exact s9 w hw
  · have hc8 : c < kln k w := hc
    have hw8 := hk.2.2.1 w hw
    rw [far _ (by omega) (by omega), far _ (by omega) (by omega)]
    exact s10 w hw c hc8
end RN
