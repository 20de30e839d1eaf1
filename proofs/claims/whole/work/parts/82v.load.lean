/-! PURE: the reference's first error and load -/
section RV
variable {bl p : Nat} {bc : Nat → Nat} {R : Nat × Option mD} {h : mH} {M rm sz : Nat} {sm w t : Int32} {hs : Int64} {b r f g V : Nat → Int32} {k : mK} {sv : Nat → mK}
theorem all_L (hB : isB bl b bc) : ∀ (d p F : Nat) (h : mH) (w : Int32) (rm : Nat) (r : Nat → Int32), isJ h M sm bl p w rm hs b r → dJ w bl p R (at7 bl bc R p rm r) → bl ≤ p + d → d + 1 < F →
    ∃ h' r' p' w' rm', s_X8_readsAll_L19 F h M = some h' ∧ isJ h' M sm bl p' w' rm' hs b r' ∧ ((w' = 1 ∧ p' = bl ∧ at7 bl bc R p' rm' r') ∨ (w' = 0 ∧ noR bl R p')) ∧ fJ h h' M := by
  have stop : ∀ (p F : Nat) (h : mH) (rm : Nat) (r : Nat → Int32), isJ h M sm bl p 0 rm hs b r → noR bl R p → 0 < F → ∃ h' r' p' w' rm', s_X8_readsAll_L19 F h M = some h' ∧ isJ h' M sm bl p' w' rm' hs b r' ∧ ((w' = 1 ∧ p' = bl ∧ at7 bl bc R p' rm' r') ∨ (w' = 0 ∧ noR bl R p')) ∧ fJ h h' M := by
    intro p F h rm r A hn hF
    obtain ⟨F, rfl⟩ : ∃ F', F = F' + 1 := ⟨F - 1, by omega⟩
    refine ⟨h, r, p, 0, rm, ?_, A, Or.inr ⟨rfl, hn⟩, fJ.rf⟩
    rw [s_X8_readsAll_L19, gi_O A.1 (k := 9) rfl, bS, if_pos rfl]; rfl
  have hb := hB.1
  intro d
  induction d with
  | zero =>
    intro p F h w rm r A D hd hF
    rcases D with ⟨rfl, hp, a7⟩ | ⟨rfl, hn⟩
    · obtain ⟨F, rfl⟩ : ∃ F', F = F' + 1 := ⟨F - 1, by omega⟩
      refine ⟨h, r, p, 1, rm, ?_, A, Or.inl ⟨rfl, by omega, a7⟩, fJ.rf⟩
      rw [s_X8_readsAll_L19, gi_O A.1 (k := 9) rfl, bS, if_neg (by decide), gi_O A.1 (k := 8) rfl, bS, gi_O A.1 (k := 6) rfl, bS, if_pos (nI_le (by omega) (by omega))]; rfl
    · exact stop p F h rm r A hn (by omega)
  | succ d ih =>
    intro p F h w rm r A D hd hF
    rcases D with ⟨rfl, hp, a7⟩ | ⟨rfl, hn⟩
    · obtain ⟨F, rfl⟩ : ∃ F', F = F' + 1 := ⟨F - 1, by omega⟩
      by_cases q : bl ≤ p
      · refine ⟨h, r, p, 1, rm, ?_, A, Or.inl ⟨rfl, by omega, a7⟩, fJ.rf⟩
        rw [s_X8_readsAll_L19, gi_O A.1 (k := 9) rfl, bS, if_neg (by decide), gi_O A.1 (k := 8) rfl, bS, gi_O A.1 (k := 6) rfl, bS, if_pos (nI_le q (by omega))]; rfl
      · obtain ⟨nm, wl, dy, mn, i, tp, K, hr, h8⟩ := a7
        have sp : sg bl bc p = bc p := by unfold sg; rw [if_pos (by omega)]
        have st : s_X8_readsAll_L19 (F + 1) h M = (s_X8_wants h M 59).bind fun h40 => (m_gi h40 6 M 9).bind fun x44 => if x44 = 0 then (s_X8_readsAll_L19 F h40 M) else ((m_is h40 6 M).bind fun _ => (s_X8_readsTap h40 M).bind fun h51 => s_X8_readsAll_L19 F h51 M) := by
          rw [s_X8_readsAll_L19, gi_O A.1 (k := 9) rfl, bS, if_neg (by decide), gi_O A.1 (k := 8) rfl, bS, gi_O A.1 (k := 6) rfl, bS, if_neg (nI_ge (by omega) (by omega)), is_O A.1, bS]
        rw [st]
        by_cases c : sg bl bc p = 59
        · obtain ⟨h1, e1, e2, e3⟩ := wants_yes A hB hp c
          have e1' : s_X8_wants h M 59 = some h1 := e1
          have K1 : okR bl bc R (p + 1) (mkD 0 nm wl dy mn i rm tp) := ok_step K (by rw [c]; rfl) (by omega)
          obtain ⟨h2, r2, p2, w2, rm2, g1, g2, g3, g4, g5⟩ := reads_J hB e2 K1 hr (by omega)
          obtain ⟨h3, r3, p3, w3, rm3, j1, j2, j3, j4⟩ := ih p2 F h2 w2 rm2 r2 g2 g3 (by omega) (by omega)
          refine ⟨h3, r3, p3, w3, rm3, ?_, j2, j3, fun q q1 q2 => by rw [j4 q q1 q2, g5 q q1 q2, e3 q (by omega)]⟩
          rw [e1', bS, gi_O e2.1 (k := 9) rfl, bS, if_neg (by decide), is_O e2.1, bS, g1, bS, j1]
        · obtain ⟨h1, e1, e2, e3⟩ := wants_no (v := 59) A hB hp (by decide) c
          have e1' : s_X8_wants h M 59 = some h1 := e1
          have hn : noR bl R p := ok_no K (by omega) (by rw [← sp]; exact if_neg c)
          obtain ⟨h3, r3, p3, w3, rm3, j1, j2, j3, j4⟩ := stop p F h1 rm r e2 hn (by omega)
          refine ⟨h3, r3, p3, w3, rm3, ?_, j2, j3, fun q q1 q2 => by rw [j4 q q1 q2, e3 q (by omega)]⟩
          rw [e1', bS, gi_O e2.1 (k := 9) rfl, bS, if_pos rfl, j1]
    · exact stop p F h rm r A hn (by omega)
theorem isR.J {h' : mH} {p' rm' : Nat} {w' : Int32} {r' : Nat → Int32} (A : isR h M 0 sm (nI bl) f g V b) (F : fJ h h' M) (J : isJ h' M sm bl p' w' rm' hs b r') : isR h' M 0 sm (nI bl) f g V b := by
  obtain ⟨-, a1, a2, a3, a4, ⟨m, a5⟩, r, a6⟩ := A
  exact ⟨⟨_, _, _, _, J.1⟩, a1.eqq (F _ (by omega) (by omega)), a2.eqq (F _ (by omega) (by omega)), a3.eqq (F _ (by omega) (by omega)), J.2.1, ⟨m, a5.eqq (F _ (by omega) (by omega))⟩, r', J.2.2⟩
theorem readsAll_M (hB : isB bl b bc) (A : isR h M 0 sm (nI bl) f g V b) : ∃ h' r' p' w' rm' hs, s_X8_readsAll h M = some h' ∧ isJ h' M sm bl p' w' rm' hs b r' ∧ ((w' = 1 ∧ p' = bl ∧ at7 bl bc (drun bc bl 0 s0D) p' rm' r') ∨ (w' = 0 ∧ noR bl (drun bc bl 0 s0D) p')) ∧ fJ h h' M := by
  obtain ⟨⟨p, wl, rm, hs, a0⟩, a1, a2, a3, a4, a5, r, a6⟩ := A
  have w1 : m_put h 6 M 8 (.int 0) = some (m_up h M (mOb M 0 sm (nI bl) (nI 0) wl rm hs)) := put_O a0 (k := 8) (show 8 < 13 by decide)
  have u1 : (m_up h M (mOb M 0 sm (nI bl) (nI 0) wl rm hs)) M = some (mOb M 0 sm (nI bl) (nI 0) wl rm hs) := m_up_same _ _ _
  generalize hh1 : m_up h M (mOb M 0 sm (nI bl) (nI 0) wl rm hs) = h1 at w1 u1
  have w2 : m_put h1 6 M 9 (.int 1) = some (m_up h1 M (mOb M 0 sm (nI bl) (nI 0) 1 rm hs)) := put_O u1 (k := 9) (show 9 < 13 by decide)
  have u2 : (m_up h1 M (mOb M 0 sm (nI bl) (nI 0) 1 rm hs)) M = some (mOb M 0 sm (nI bl) (nI 0) 1 rm hs) := m_up_same _ _ _
  generalize hh2 : m_up h1 M (mOb M 0 sm (nI bl) (nI 0) 1 rm hs) = h2 at w2 u2
  have w3 : m_put h2 6 M 11 (.int 0) = some (m_up h2 M (mOb M 0 sm (nI bl) (nI 0) 1 (nI 0) hs)) := put_O u2 (k := 11) (show 11 < 13 by decide)
  have u3 : (m_up h2 M (mOb M 0 sm (nI bl) (nI 0) 1 (nI 0) hs)) M = some (mOb M 0 sm (nI bl) (nI 0) 1 (nI 0) hs) := m_up_same _ _ _
  generalize hh3 : m_up h2 M (mOb M 0 sm (nI bl) (nI 0) 1 (nI 0) hs) = h3 at w3 u3
  have E : fr h h3 M (M + 1) := by
    rw [← hh3, ← hh2, ← hh1]
    exact (fr.up.tr fr.up).tr fr.up
  have J3 : isJ h3 M sm bl 0 1 0 hs b r := ⟨u3, a4.fr E (by omega), a6.fr E (by omega)⟩
  obtain ⟨h4, r4, p4, w4, rm4, g1, g2, g3, g4, g5⟩ := reads_J (R := drun bc bl 0 s0D) hB J3 (nm := 0) (wl := 0) (dy := 0) (mn := 0) (i := 0) (tp := fun _ _ => 0) ⟨Nat.zero_le _, by rw [Nat.sub_zero]; rfl⟩ (fun j hj => absurd hj (Nat.not_lt_zero _)) (by decide)
  obtain ⟨h5, r5, p5, w5, rm5, j1, j2, j3, j4⟩ := all_L hB bl p4 m_F h4 w4 rm4 r4 g2 g3 (by omega) (by have := hB.1; unfold m_F; omega)
  refine ⟨h5, r5, p5, w5, rm5, hs, ?_, j2, j3, fun q q1 q2 => by rw [j4 q q1 q2, g5 q q1 q2, E q (by omega)]⟩
  rw [s_X8_readsAll, w1, bS, z_1, bS, w2, bS, w3, bS, is_O u3, bS, g1, bS, j1]
theorem fJ.fr {h' : mH} (a : fJ h h' M) : ∀ q, (q < M ∨ M + 7 ≤ q) → h' q = h q := fun q hq => a q (by omega) (by omega)
theorem firstError_M (A : isM h M t k sz sv bl b) (hB : isB bl b bc) : ∃ h', s_X8_firstError h M = some (nI (drun bc bl 0 s0D).1, h') ∧ isM h' M 0 k sz sv bl b ∧ fr h h' M (M + 7) := by
  obtain ⟨f, g, V, A, S, W⟩ := A
  obtain ⟨h1, e1, e2, e3⟩ := A.th 0
  obtain ⟨h2, r2, p2, w2, rm2, hs, g1, g2, g3, g4⟩ := readsAll_M hB e2
  have hp : p2 = (drun bc bl 0 s0D).1 := by
    rcases g3 with ⟨-, rfl, nm, wl, dy, mn, i, tp, K, -⟩ | ⟨-, hn⟩
    · rw [K.2, Nat.sub_self]; rfl
    · exact hn.2.1.symm
  refine ⟨h2, ?_, ⟨f, g, V, e2.J g4 g2, S, W⟩, (e3.wd (by omega) (by omega)).tr g4.fr⟩
  rw [s_X8_firstError, e1, bS, e2.is, bS, g1, bS, gi_O g2.1 (k := 8) rfl, bS, hp]
theorem load_Mno (A : isM h M t k sz sv bl b) (hB : isB bl b bc) (hq : ¬ ∃ s, (drun bc bl 0 s0D).2 = some s ∧ s.1 = 7) : ∃ h', s_X8_load h M = some (0, h') ∧ isM h' M 1 k sz sv bl b ∧ fr h h' M (M + 7) := by
  obtain ⟨f, g, V, A, S, W⟩ := A
  obtain ⟨h1, e1, e2, e3⟩ := A.th 0
  obtain ⟨h2, r2, p2, w2, rm2, hs, g1, g2, g3, g4⟩ := readsAll_M hB e2
  rcases g3 with ⟨-, rfl, nm, wl, dy, mn, i, tp, K, -⟩ | ⟨rfl, hn⟩
  · exact absurd ⟨mkD 7 nm wl dy mn i rm2 tp, by rw [K.2, Nat.sub_self]; rfl, rfl⟩ hq
  · have R2 := e2.J g4 g2
    obtain ⟨h3, j1, j2, j3⟩ := R2.fl 1
    refine ⟨h3, ?_, ⟨f, g, V, j2, S, W⟩, ((e3.wd (by omega) (by omega)).tr g4.fr).tr (j3.wd (by omega) (by omega))⟩
    rw [s_X8_load, e1, bS, e2.is, bS, g1, bS, gi_O g2.1 (k := 9) rfl, bS, if_pos rfl, R2.is, bS, j1, bS]
theorem kok_ins {u : Nat → Nat} (hk : kok k) (hn : kn k < 60) (vu : vT u) : kok (kins k u) := ⟨show kn k + 1 ≤ 60 by omega, kins_v hk.2.1 vu, hk.2.2⟩
theorem kok_ld {tp : Nat → Nat → Nat} (hk : kok k) : ∀ m, m ≤ 60 - kn k → (∀ j, j < m → vT (tp j)) → kok (kld k tp m)
  | 0, _, _ => hk
  | m + 1, h1, h2 => by
    have e := kld_n k tp m
    have := hk.1
    exact kok_ins (kok_ld hk m (by omega) (fun j hj => h2 j (by omega))) (by rw [e]; omega) (h2 m (by omega))
theorem load_ML {tp : Nat → Nat → Nat} {rm m : Nat} {wl ps : Int32} (hk : kok k) (hm : m = min rm (60 - kn k)) (hr : rdOK r rm tp) (hrm : rm ≤ 8) : ∀ (d i F : Nat) (h : mH) (f : Nat → Int32), isR h M 0 sm (nI 0) f g V b → h M = some (mOb M 0 sm (nI 0) ps wl (nI rm) hs) → isA h (M + 6) 64 r → isS f (kld k tp i) → i + d = m → d < F →
    ∃ h' f', s_X8_load_L33 F h M (nI i) = some (nI m, h') ∧ isR h' M 0 sm (nI 0) f' g V b ∧ isS f' (kld k tp m) ∧ fr h h' (M + 1) (M + 2) := by
  have hn := hk.1
  intro d
  induction d with
  | zero =>
    intro i F h f A H B S hi hF
    obtain ⟨F, rfl⟩ : ∃ F', F = F' + 1 := ⟨F - 1, by omega⟩
    obtain rfl : i = m := by omega
    refine ⟨h, f, ?_, A, S, fr.rf⟩
    rw [s_X8_load_L33, gi_O H (k := 11) rfl, bS]
    by_cases q : rm ≤ i
    · rw [if_pos (nI_le q (by omega))]; rfl
    · have kN := kld_n k tp i
      rw [if_neg (nI_ge (by omega) (by omega)), num_M H A.2.1 S.2.2.2.2.1, if_pos (show (60 : Int32) ≤ nI (kn (kld k tp i)) from nI_le (a := 60) (by omega) (by omega))]; rfl
  | succ d ih =>
    intro i F h f A H B S hi hF
    obtain ⟨F, rfl⟩ : ∃ F', F = F' + 1 := ⟨F - 1, by omega⟩
    have kN := kld_n k tp i
    obtain ⟨⟨vt, t5⟩, hq⟩ := hr i (by omega)
    have ko := kok_ld hk i (by omega) (fun j hj => (hr j (by omega)).1.1)
    obtain ⟨h1, f1, a1, a2, a3, a4⟩ := comes_R A S ko vt
    obtain ⟨h2, f2, g1, g2, g3, g4⟩ := ih (i + 1) F h1 f1 a2 (a4.O H (by omega)) (B.fr a4 (by omega)) a3 (by omega) (by omega)
    refine ⟨h2, f2, ?_, g2, g3, a4.tr g4⟩
    have a1' : s_X8_comes h M (nI (tp i 0)) (nI (tp i 1)) (nI (tp i 2)) (nI (tp i 3)) (nI (tp i 4)) 0 = some (nI (kip (kld k tp i) (tp i)), h1) := by
      rw [t5] at a1; exact a1
    have q0 := hq 0 (by decide)
    have q1 := hq 1 (by decide)
    have q2 := hq 2 (by decide)
    have q3 := hq 3 (by decide)
    have q4 := hq 4 (by decide)
    have e5 : (5 : Int32) * nI i = nI (5 * i) := by rw [show (5 : Int32) = nI 5 from rfl, nI_mul]
    have r0 : m_iald h (M + 6) (nI (5 * i)) = some (nI (tp i 0)) := by rw [iald_A B (show 5 * i < 64 by omega) (by decide)]; exact congrArg some q0
    have r1 : m_iald h (M + 6) (nI (5 * i) + 1) = some (nI (tp i 1)) := by rw [nI_1, iald_A B (show 5 * i + 1 < 64 by omega) (by decide), q1]
    have r2 : m_iald h (M + 6) (nI (5 * i) + 2) = some (nI (tp i 2)) := by rw [show nI (5 * i) + 2 = nI (5 * i + 2) from nI_add _ 2, iald_A B (show 5 * i + 2 < 64 by omega) (by decide), q2]
    have r3 : m_iald h (M + 6) (nI (5 * i) + 3) = some (nI (tp i 3)) := by rw [show nI (5 * i) + 3 = nI (5 * i + 3) from nI_add _ 3, iald_A B (show 5 * i + 3 < 64 by omega) (by decide), q3]
    have r4 : m_iald h (M + 6) (nI (5 * i) + 4) = some (nI (tp i 4)) := by rw [show nI (5 * i) + 4 = nI (5 * i + 4) from nI_add _ 4, iald_A B (show 5 * i + 4 < 64 by omega) (by decide), q4]
    rw [s_X8_load_L33, gi_O H (k := 11) rfl, bS, if_neg (nI_ge (by omega) (by omega)), num_M H A.2.1 S.2.2.2.2.1, if_neg (show ¬ (60 : Int32) ≤ nI (kn (kld k tp i)) from nI_ge (b := 60) (by omega) (by decide)), gr_O H (k := 10) rfl, bS, e5, r0, bS, bS, r1, bS, bS, r2, bS, bS, r3, bS, bS, r4, bS, is_O H, bS, a1', bS]
    show s_X8_load_L33 F h1 M (nI i + 1) = _
    rw [nI_1, g1]
theorem load_M (A : isM h M t k sz sv bl b) (hB : isB bl b bc) (hk : kok k) (hsv : ∀ j, j < sz → kok (sv j)) (hz : sz ≤ 6) {s : mD} (hr : (drun bc bl 0 s0D).2 = some s) (h7 : s.1 = 7) :
    ∃ h', s_X8_load h M = some (nI (min s.2.2.2.2.2.2.1 (60 - kn k)), h') ∧ isM h' M 0 (kld k s.2.2.2.2.2.2.2 (min s.2.2.2.2.2.2.1 (60 - kn k))) (min (sz + 1) 6) (kpush sv k) 0 b ∧ fr h h' M (M + 7) ∧ ∀ j, j < min s.2.2.2.2.2.2.1 (60 - kn k) → vT (s.2.2.2.2.2.2.2 j) := by
  have hb := hB.1
  obtain ⟨f, g, V, A, S, W⟩ := A
  obtain ⟨h1, e1, e2, e3⟩ := A.th 0
  obtain ⟨h2, r2, p2, w2, rm2, hs, g1, g2, g3, g4⟩ := readsAll_M hB e2
  rcases g3 with ⟨rfl, rfl, nm, wl, dy, mn, i, tp, K, hrd, h8⟩ | ⟨rfl, hn⟩
  · have es : s = mkD 7 nm wl dy mn i rm2 tp := by
      have e := K.2
      rw [Nat.sub_self] at e
      rw [e] at hr
      have hr' : some (mkD 7 nm wl dy mn i rm2 tp) = some s := hr
      exact (Option.some.inj hr').symm
    subst es
    show ∃ h', s_X8_load h M = some (nI (min rm2 (60 - kn k)), h') ∧ isM h' M 0 (kld k tp (min rm2 (60 - kn k))) (min (sz + 1) 6) (kpush sv k) 0 b ∧ fr h h' M (M + 7) ∧ ∀ j, j < min rm2 (60 - kn k) → vT (tp j)
    have R2 := e2.J g4 g2
    obtain ⟨h3, V3, j1, j2, j3, j4, j5⟩ := saves_MM g2.1 R2 S hk W hsv hz
    have w4 : m_put h3 6 M 6 (.int 0) = some (m_up h3 M (mOb M 0 (nI (min (sz + 1) 6)) (nI 0) (nI p2) 1 (nI rm2) hs)) := put_O j5 (k := 6) (show 6 < 13 by decide)
    have E : fr h3 (m_up h3 M (mOb M 0 (nI (min (sz + 1) 6)) (nI 0) (nI p2) 1 (nI rm2) hs)) M (M + 1) := fr.up
    obtain ⟨h5, f5, l1, l2, l3, l4⟩ := load_ML (ps := nI p2) (wl := 1) (hs := hs) (tp := tp) hk rfl hrd (by omega) (min rm2 (60 - kn k)) 0 m_F _ f (j2.m0 (t' := 0) (sm' := nI (min (sz + 1) 6)) (ln' := nI 0) (p' := nI p2) (wl' := 1) (rm' := nI rm2) (hs' := hs)) (m_up_same _ _ _) ((g2.2.2.fr j4 (by omega)).fr E (by omega)) S (by omega) (by unfold m_F; omega)
    refine ⟨h5, ?_, ⟨f5, g, V3, l2, l3, j3⟩, ((((e3.wd (by omega) (by omega)).tr g4.fr).tr (j4.wd (by omega) (by omega))).tr (E.wd (by omega) (by omega))).tr (l4.wd (by omega) (by omega)), fun j hj => (hrd j (by omega)).1.1⟩
    rw [s_X8_load, e1, bS, e2.is, bS, g1, bS, gi_O g2.1 (k := 9) rfl, bS, if_neg (by decide), R2.is, bS, j1, bS, w4, bS]
    exact l1
  · exact absurd ⟨s, hr, h7⟩ hn.2.2
end RV
