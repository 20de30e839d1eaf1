/-! PURE: the reference's rows, and what it saves -/
section RM
theorem isA.eqq {h h' : mH} {a n : Nat} {f : Nat → Int32} (A : isA h a n f) (e : h' a = h a) : isA h' a n f := by
  obtain ⟨g, h1, h2⟩ := A
  exact ⟨g, e.trans h1, h2⟩
def isR (h : mH) (M : Nat) (t sm ln : Int32) (f g V b : Nat → Int32) : Prop := (∃ p wl rm hs, h M = some (mOb M t sm ln p wl rm hs)) ∧ isA h (M + 1) 492 f ∧ isA h (M + 2) 492 g ∧ isA h (M + 3) 2952 V ∧ isA h (M + 4) 60 b ∧ (∃ m, isA h (M + 5) 61 m) ∧ ∃ r, isA h (M + 6) 64 r
theorem isR.ff {h h' : mH} {M lo hi : Nat} {t sm ln : Int32} {f g V b : Nat → Int32} (A : isR h M t sm ln f g V b) (F : fr h h' lo hi) (hq : M + 7 ≤ lo ∨ hi ≤ M) : isR h' M t sm ln f g V b := by
  obtain ⟨⟨p, wl, rm, hs, a0⟩, a1, a2, a3, a4, ⟨m, a5⟩, r, a6⟩ := A
  exact ⟨⟨p, wl, rm, hs, F.O a0 (by omega)⟩, a1.fr F (by omega), a2.fr F (by omega), a3.fr F (by omega), a4.fr F (by omega), ⟨m, a5.fr F (by omega)⟩, r, a6.fr F (by omega)⟩
theorem isR.m5 {h h' : mH} {M : Nat} {t sm ln : Int32} {f g V b m : Nat → Int32} (A : isR h M t sm ln f g V b) (F : fr h h' (M + 5) (M + 6)) (B : isA h' (M + 5) 61 m) : isR h' M t sm ln f g V b := by
  obtain ⟨⟨p, wl, rm, hs, a0⟩, a1, a2, a3, a4, a5, r, a6⟩ := A
  exact ⟨⟨p, wl, rm, hs, F.O a0 (by omega)⟩, a1.fr F (by omega), a2.fr F (by omega), a3.fr F (by omega), a4.fr F (by omega), ⟨m, B⟩, r, a6.fr F (by omega)⟩
theorem isR.m1 {h h' : mH} {M : Nat} {t sm ln : Int32} {f f' g V b : Nat → Int32} (A : isR h M t sm ln f g V b) (F : fr h h' (M + 1) (M + 2)) (B : isA h' (M + 1) 492 f') : isR h' M t sm ln f' g V b := by
  obtain ⟨⟨p, wl, rm, hs, a0⟩, a1, a2, a3, a4, ⟨m, a5⟩, r, a6⟩ := A
  exact ⟨⟨p, wl, rm, hs, F.O a0 (by omega)⟩, B, a2.fr F (by omega), a3.fr F (by omega), a4.fr F (by omega), ⟨m, a5.fr F (by omega)⟩, r, a6.fr F (by omega)⟩
theorem isR.m2 {h h' : mH} {M : Nat} {t sm ln : Int32} {f g g' V b : Nat → Int32} (A : isR h M t sm ln f g V b) (F : fr h h' (M + 2) (M + 3)) (B : isA h' (M + 2) 492 g') : isR h' M t sm ln f g' V b := by
  obtain ⟨⟨p, wl, rm, hs, a0⟩, a1, a2, a3, a4, ⟨m, a5⟩, r, a6⟩ := A
  exact ⟨⟨p, wl, rm, hs, F.O a0 (by omega)⟩, a1.fr F (by omega), B, a3.fr F (by omega), a4.fr F (by omega), ⟨m, a5.fr F (by omega)⟩, r, a6.fr F (by omega)⟩
theorem isR.m4 {h h' : mH} {M : Nat} {t sm ln : Int32} {f g V b b' : Nat → Int32} (A : isR h M t sm ln f g V b) (F : fr h h' (M + 4) (M + 5)) (B : isA h' (M + 4) 60 b') : isR h' M t sm ln f g V b' := by
  obtain ⟨⟨p, wl, rm, hs, a0⟩, a1, a2, a3, a4, ⟨m, a5⟩, r, a6⟩ := A
  exact ⟨⟨p, wl, rm, hs, F.O a0 (by omega)⟩, a1.fr F (by omega), a2.fr F (by omega), a3.fr F (by omega), B, ⟨m, a5.fr F (by omega)⟩, r, a6.fr F (by omega)⟩
theorem isR.m0 {h : mH} {M : Nat} {t sm ln t' sm' ln' p' wl' rm' : Int32} {hs' : Int64} {f g V b : Nat → Int32} (A : isR h M t sm ln f g V b) : isR (m_up h M (mOb M t' sm' ln' p' wl' rm' hs')) M t' sm' ln' f g V b := by
  obtain ⟨-, a1, a2, a3, a4, ⟨m, a5⟩, r, a6⟩ := A
  have F : fr h (m_up h M (mOb M t' sm' ln' p' wl' rm' hs')) M (M + 1) := fr.up
  exact ⟨⟨p', wl', rm', hs', m_up_same _ _ _⟩, a1.fr F (by omega), a2.fr F (by omega), a3.fr F (by omega), a4.fr F (by omega), ⟨m, a5.fr F (by omega)⟩, r, a6.fr F (by omega)⟩
theorem isR.Q {h : mH} {M : Nat} {t sm ln : Int32} {f g V b : Nat → Int32} (A : isR h M t sm ln f g V b) : ∃ p wl rm hs, isQ h M (mOb M t sm ln p wl rm hs) f := by
  obtain ⟨⟨p, wl, rm, hs, a0⟩, a1, a2, a3, a4, a5, r, a6⟩ := A
  exact ⟨p, wl, rm, hs, a0, a1, a5⟩
theorem isR.q5 {h h' : mH} {M : Nat} {t sm ln : Int32} {o : mE} {f g V b : Nat → Int32} (A : isR h M t sm ln f g V b) (F : fr h h' (M + 5) (M + 6)) (Q : isQ h' M o f) : isR h' M t sm ln f g V b := by
  obtain ⟨-, -, m, B⟩ := Q
  exact A.m5 F B
/-- the thrown word is put -/
theorem isR.th {h : mH} {M : Nat} {t sm ln : Int32} {f g V b : Nat → Int32} (A : isR h M t sm ln f g V b) (v : Int32) : ∃ h', m_put h 6 M 0 (.int v) = some h' ∧ isR h' M v sm ln f g V b ∧ fr h h' M (M + 1) := by
  obtain ⟨p, wl, rm, hs, a0⟩ := A.1
  exact ⟨m_up h M (mOb M v sm ln p wl rm hs), put_O a0 (k := 0) (show 0 < 13 by decide), A.m0, fr.up⟩
theorem isR.is {h : mH} {M : Nat} {t sm ln : Int32} {f g V b : Nat → Int32} (A : isR h M t sm ln f g V b) : m_is h 6 M = some () := by
  obtain ⟨p, wl, rm, hs, a0⟩ := A.1
  exact is_O a0
theorem isR.fl {h : mH} {M : Nat} {t sm ln : Int32} {f g V b : Nat → Int32} (A : isR h M t sm ln f g V b) (v : Int32) : ∃ h', s_X8_fails h M v = some (0, h') ∧ isR h' M v sm ln f g V b ∧ fr h h' M (M + 1) := by
  obtain ⟨h', e1, e2, e3⟩ := A.th v
  exact ⟨h', by rw [s_X8_fails, e1, bS], e2, e3⟩
theorem isS.eqq {f f' : Nat → Int32} {k : mK} (S : isS f k) (hn : kn k ≤ 61) (hl : ∀ w, w < 4 → kln k w ≤ 8) (he : ∀ x, x < 492 → f' x = f x) : isS f' k := by
  obtain ⟨s1, s2, s3, s4, ⟨t1, t2, t3⟩, s6, s7, s8, s9, s10⟩ := S
  refine ⟨fun i hi => ?_, ?_, ?_, ?_, ⟨?_, ?_, fun i hi j hj => ?_⟩, fun c hc => ?_, fun c hc => ?_, fun c hc => ?_, fun w hw => ?_, fun w hw b hb => ?_⟩
  · rw [he i (by omega)]; exact s1 i hi
  · rw [he 6 (by decide)]; exact s2
  · rw [he 7 (by decide)]; exact s3
  · rw [he 8 (by decide)]; exact s4
  · rw [he 9 (by decide)]; exact t1
  · rw [he 3 (by decide)]; exact t2
  · rw [he _ (by omega)]; exact t3 i hi j hj
  · rw [he _ (by omega)]; exact s6 c hc
  · rw [he _ (by omega)]; exact s7 c hc
  · rw [he _ (by omega)]; exact s8 c hc
  · rw [he _ (by omega)]; exact s9 w hw
  · have hw8 := hl w hw
    rw [he _ (by omega), he _ (by omega)]
    exact s10 w hw b hb
/-- a state that may stand -/
def kok (k : mK) : Prop := kn k ≤ 60 ∧ vTs (kn k) (ktp k) ∧ (∀ w, w < 4 → kln k w ≤ 8) ∧ (∀ i, i < 3 → ∃ n, n ≤ 999 ∧ kset k i = nI n) ∧ (∃ n, 1 ≤ n ∧ n ≤ 1439 ∧ kset k 3 = nI n) ∧ ∀ i, 4 ≤ i → i < 6 → ∃ n, n ≤ 9999 ∧ kset k i = nI n
def isVs (V : Nat → Int32) (sz : Nat) (sv : Nat → mK) : Prop := ∀ i, i < sz → isS (fun x => V (492 * i + x)) (sv (sz - 1 - i))
def isM (h : mH) (M : Nat) (t : Int32) (k : mK) (sz : Nat) (sv : Nat → mK) (bl : Nat) (b : Nat → Int32) : Prop := ∃ f g V, isR h M t (nI sz) (nI bl) f g V b ∧ isS f k ∧ isVs V sz sv
theorem isM.ff {h h' : mH} {M lo hi sz bl : Nat} {t : Int32} {k : mK} {sv : Nat → mK} {b : Nat → Int32} (A : isM h M t k sz sv bl b) (F : fr h h' lo hi) (hq : M + 7 ≤ lo ∨ hi ≤ M) : isM h' M t k sz sv bl b := by
  obtain ⟨f, g, V, a, b, c⟩ := A
  exact ⟨f, g, V, a.ff F hq, b, c⟩
variable {M : Nat} {t ln p wl rm : Int32} {hs : Int64} {f V0 : Nat → Int32}
theorem saves_52 {c : Nat} (hc : c < 6) : ∀ (e i F : Nat) (h : mH) (V : Nat → Int32), h M = some (mOb M t (nI c) ln p wl rm hs) → isA h (M + 1) 492 f → isA h (M + 3) 2952 V → (∀ x, x < i → V (492 * c + x) = f x) → (∀ x, x < 492 * c → V x = V0 x) → i + e = 492 → e < F →
    ∃ h' V', s_X8_saves_L52 F h M (nI i) = some h' ∧ h' M = some (mOb M t (nI (c + 1)) ln p wl rm hs) ∧ isA h' (M + 3) 2952 V' ∧ (∀ x, x < 492 → V' (492 * c + x) = f x) ∧ (∀ x, x < 492 * c → V' x = V0 x) ∧ ∀ q, q ≠ M → q ≠ M + 3 → h' q = h q := by
  intro e
  induction e with
  | zero =>
    intro i F h V H A B h1 h2 hi hF
    obtain ⟨F, rfl⟩ : ∃ F', F = F' + 1 := ⟨F - 1, by omega⟩
    obtain rfl : i = 492 := by omega
    have w : m_put h 6 M 4 (.int (nI (c + 1))) = some (m_up h M (mOb M t (nI (c + 1)) ln p wl rm hs)) := put_O H (k := 4) (show 4 < 13 by decide)
    have E : fr h (m_up h M (mOb M t (nI (c + 1)) ln p wl rm hs)) M (M + 1) := fr.up
    refine ⟨_, V, ?_, m_up_same _ _ _, B.fr E (by omega), h1, h2, fun q h3 h4 => E q (by omega)⟩
    rw [s_X8_saves_L52, if_pos (show (492 : Int32) ≤ nI 492 by decide), gi_O H (k := 4) rfl, bS, nI_1, w, bS]
  | succ e ih =>
    intro i F h V H A B h1 h2 hi hF
    obtain ⟨F, rfl⟩ : ∃ F', F = F' + 1 := ⟨F - 1, by omega⟩
    obtain ⟨ha, e1, e2, e3⟩ := iast_A B (k := 492 * c + i) (by omega) (by decide) (f i)
    obtain ⟨hb, V', g1, g2, g3, g4, g5, g6⟩ := ih (i + 1) F ha _ (e3.O H (by omega)) (A.fr e3 (by omega)) e2 (fun x hx => by
      by_cases q : x = i
      · subst q; rw [pk_us]
      · rw [pk_un (by omega), h1 x (by omega)]) (fun x hx => by rw [pk_un (by omega), h2 x hx]) (by omega) (by omega)
    refine ⟨hb, V', ?_, g2, g3, g4, g5, fun q h3 h4 => by rw [g6 q h3 h4, e3 q (by omega)]⟩
    rw [s_X8_saves_L52, if_neg (show ¬ (492 : Int32) ≤ nI i from nI_ge (b := 492) (by omega) (by decide)), gr_O H (k := 3) rfl, bS, gi_O H (k := 4) rfl, bS, gr_O H (k := 1) rfl, bS, iald_A A (show i < 492 by omega) (by decide), bS, show (492 : Int32) = nI 492 from rfl, nI_mul, nI_add, e1, bS, nI_1, g1]
theorem saves_11 : ∀ (e i F : Nat) (h : mH) (V : Nat → Int32), h M = some (mOb M t (nI 6) ln p wl rm hs) → isA h (M + 1) 492 f → isA h (M + 3) 2952 V → (∀ x, x < i → V x = V0 (x + 492)) → (∀ x, i ≤ x → V x = V0 x) → i + e = 2460 → e < F →
    ∃ h' V', s_X8_saves_L11 F h M (nI i) = some h' ∧ h' M = some (mOb M t (nI 6) ln p wl rm hs) ∧ isA h' (M + 3) 2952 V' ∧ (∀ x, x < 492 → V' (492 * 5 + x) = f x) ∧ (∀ x, x < 492 * 5 → V' x = V0 (x + 492)) ∧ ∀ q, q ≠ M → q ≠ M + 3 → h' q = h q := by
  intro e
  induction e with
  | zero =>
    intro i F h V H A B h1 h2 hi hF
    obtain ⟨F, rfl⟩ : ∃ F', F = F' + 1 := ⟨F - 1, by omega⟩
    obtain rfl : i = 2460 := by omega
    have w : m_put h 6 M 4 (.int (nI 5)) = some (m_up h M (mOb M t (nI 5) ln p wl rm hs)) := put_O H (k := 4) (show 4 < 13 by decide)
    have E : fr h (m_up h M (mOb M t (nI 5) ln p wl rm hs)) M (M + 1) := fr.up
    obtain ⟨hb, V', g1, g2, g3, g4, g5, g6⟩ := saves_52 (V0 := V) (f := f) (c := 5) (by decide) 492 0 m_F _ V (m_up_same h M (mOb M t (nI 5) ln p wl rm hs)) (A.fr E (by omega)) (B.fr E (by omega)) (fun x hx => absurd hx (Nat.not_lt_zero _)) (fun x hx => rfl) (by decide) (by unfold m_F; decide)
    refine ⟨hb, V', ?_, g2, g3, g4, fun x hx => by rw [g5 x hx, h1 x (by omega)], fun q h3 h4 => by rw [g6 q h3 h4, E q (by omega)]⟩
    rw [s_X8_saves_L11, if_pos (show (2460 : Int32) ≤ nI 2460 by decide), gi_O H (k := 4) rfl, bS, show nI 6 - 1 = nI 5 from rfl, w, bS, s_X8_saves_b50]
    exact g1
  | succ e ih =>
    intro i F h V H A B h1 h2 hi hF
    obtain ⟨F, rfl⟩ : ∃ F', F = F' + 1 := ⟨F - 1, by omega⟩
    obtain ⟨ha, e1, e2, e3⟩ := iast_A B (k := i) (by omega) (by decide) (V (i + 492))
    obtain ⟨hb, V', g1, g2, g3, g4, g5, g6⟩ := ih (i + 1) F ha _ (e3.O H (by omega)) (A.fr e3 (by omega)) e2 (fun x hx => by
      by_cases q : x = i
      · subst q; rw [pk_us, h2 _ (by omega)]
      · rw [pk_un q, h1 x (by omega)]) (fun x hx => by rw [pk_un (by omega), h2 x (by omega)]) (by omega) (by omega)
    refine ⟨hb, V', ?_, g2, g3, g4, g5, fun q h3 h4 => by rw [g6 q h3 h4, e3 q (by omega)]⟩
    rw [s_X8_saves_L11, if_neg (show ¬ (2460 : Int32) ≤ nI i from nI_ge (b := 2460) (by omega) (by decide)), gr_O H (k := 3) rfl, bS, bS, show (492 : Int32) = nI 492 from rfl, nI_add, iald_A B (show i + 492 < 2952 by omega) (by decide), bS, e1, bS, nI_1, g1]
theorem saves_MM {h : mH} {sz bl : Nat} {k : mK} {sv : Nat → mK} {f g V b : Nat → Int32} (a0 : h M = some (mOb M t (nI sz) (nI bl) p wl rm hs)) (A : isR h M t (nI sz) (nI bl) f g V b) (S : isS f k) (hk : kok k) (W : isVs V sz sv) (hsv : ∀ j, j < sz → kok (sv j)) (hz : sz ≤ 6) :
    ∃ h' V', s_X8_saves h M = some h' ∧ isR h' M t (nI (min (sz + 1) 6)) (nI bl) f g V' b ∧ isVs V' (min (sz + 1) 6) (kpush sv k) ∧ fr h h' M (M + 4) ∧ h' M = some (mOb M t (nI (min (sz + 1) 6)) (nI bl) p wl rm hs) := by
  obtain ⟨-, a1, a2, a3, a4, ⟨m, a5⟩, r, a6⟩ := A
  by_cases c : sz = 6
  · subst c
    obtain ⟨h', V', g1, g2, g3, g4, g5, g6⟩ := saves_11 (V0 := V) 2460 0 m_F h V a0 a1 a3 (fun x hx => absurd hx (Nat.not_lt_zero _)) (fun x hx => rfl) (by decide) (by unfold m_F; decide)
    refine ⟨h', V', ?_, ⟨⟨p, wl, rm, hs, g2⟩, a1.eqq (g6 _ (by omega) (by omega)), a2.eqq (g6 _ (by omega) (by omega)), g3, a4.eqq (g6 _ (by omega) (by omega)), ⟨m, a5.eqq (g6 _ (by omega) (by omega))⟩, r, a6.eqq (g6 _ (by omega) (by omega))⟩, fun i hi => ?_, fun q hq => g6 q (by omega) (by omega), g2⟩
    · rw [s_X8_saves, gi_O a0 (k := 4) rfl, bS, if_pos (show nI 6 = 6 from rfl)]
      exact g1
    · have hi6 : i < 6 := hi
      show isS _ (kpush sv k (6 - 1 - i))
      by_cases q : i = 5
      · subst q
        exact S.eqq (by have := hk.1; omega) hk.2.2.1 fun x hx => g4 x hx
      · have hj : i + 1 < 6 := by omega
        obtain ⟨j, hj1⟩ : ∃ j, 6 - 1 - i = j + 1 := ⟨4 - i, by omega⟩
        have hh : 6 - 1 - (i + 1) = j := by omega
        rw [hj1]
        have w := W (i + 1) hj
        rw [hh] at w
        have ko := hsv j (by omega)
        exact w.eqq (by have := ko.1; omega) ko.2.2.1 fun x hx => by
          show V' (492 * i + x) = V (492 * (i + 1) + x)
          rw [g5 _ (by omega), show 492 * i + x + 492 = 492 * (i + 1) + x by omega]
  · obtain ⟨h', V', g1, g2, g3, g4, g5, g6⟩ := saves_52 (V0 := V) (f := f) (c := sz) (by omega) 492 0 m_F h V a0 a1 a3 (fun x hx => absurd hx (Nat.not_lt_zero _)) (fun x hx => rfl) (by decide) (by unfold m_F; decide)
    have hm : min (sz + 1) 6 = sz + 1 := by omega
    rw [hm]
    refine ⟨h', V', ?_, ⟨⟨p, wl, rm, hs, g2⟩, a1.eqq (g6 _ (by omega) (by omega)), a2.eqq (g6 _ (by omega) (by omega)), g3, a4.eqq (g6 _ (by omega) (by omega)), ⟨m, a5.eqq (g6 _ (by omega) (by omega))⟩, r, a6.eqq (g6 _ (by omega) (by omega))⟩, fun i hi => ?_, fun q hq => g6 q (by omega) (by omega), g2⟩
    · rw [s_X8_saves, gi_O a0 (k := 4) rfl, bS, if_neg (show ¬ nI sz = 6 from fun z => c ((nI_eq (b := 6) (by omega) (by decide)).mp z)), s_X8_saves_b50]
      exact g1
    · by_cases q : i = sz
      · subst q
        rw [show i + 1 - 1 - i = 0 by omega]
        exact S.eqq (by have := hk.1; omega) hk.2.2.1 fun x hx => g4 x hx
      · obtain ⟨j, hj1⟩ : ∃ j, sz + 1 - 1 - i = j + 1 := ⟨sz - 1 - i, by omega⟩
        have hh : sz - 1 - i = j := by omega
        rw [hj1]
        have w := W i (by omega)
        rw [hh] at w
        have ko := hsv j (by omega)
        exact w.eqq (by have := ko.1; omega) ko.2.2.1 fun x hx => by
          show V' (492 * i + x) = V (492 * i + x)
          rw [g5 _ (by omega)]
theorem saves_M {h : mH} {sz bl : Nat} {k : mK} {sv : Nat → mK} {f g V b : Nat → Int32} (A : isR h M t (nI sz) (nI bl) f g V b) (S : isS f k) (hk : kok k) (W : isVs V sz sv) (hsv : ∀ j, j < sz → kok (sv j)) (hz : sz ≤ 6) :
    ∃ h' V', s_X8_saves h M = some h' ∧ isR h' M t (nI (min (sz + 1) 6)) (nI bl) f g V' b ∧ isVs V' (min (sz + 1) 6) (kpush sv k) ∧ fr h h' M (M + 4) := by
  obtain ⟨p, wl, rm, hs, a0⟩ := A.1
  obtain ⟨h', V', e1, e2, e3, e4, -⟩ := saves_MM a0 A S hk W hsv hz
  exact ⟨h', V', e1, e2, e3, e4⟩
theorem kpush_ok {sz : Nat} {k : mK} {sv : Nat → mK} (hk : kok k) (hsv : ∀ j, j < sz → kok (sv j)) : ∀ j, j < min (sz + 1) 6 → kok (kpush sv k j) := by
  intro j hj
  match j with
  | 0 => exact hk
  | j + 1 => exact hsv j (by omega)
end RM
