/-! PURE: what the reference tries, refuses and lets claim -/
section RO
variable {h : mH} {M sz bl : Nat} {t sm ln : Int32} {f g V b : Nat → Int32} {k : mK} {sv : Nat → mK}
theorem aside_R (A : isR h M t sm ln f g V b) : ∃ h', s_X8_putAside h M = some h' ∧ isR h' M t sm ln f f V b ∧ fr h h' (M + 2) (M + 3) := by
  obtain ⟨p, wl, rm, hs, a0⟩ := A.1
  obtain ⟨h', e1, e2, e3⟩ := putAside_M a0 A.2.1 A.2.2.1
  exact ⟨h', e1, A.m2 e3 e2, e3⟩
theorem back_R (A : isR h M t sm ln f g V b) : ∃ h', s_X8_takeBack h M = some h' ∧ isR h' M t sm ln g g V b ∧ fr h h' (M + 1) (M + 2) := by
  obtain ⟨p, wl, rm, hs, a0⟩ := A.1
  obtain ⟨h', e1, e2, e3⟩ := takeBack_M a0 A.2.2.1 A.2.1
  exact ⟨h', e1, A.m1 e3 e2, e3⟩
theorem costs_R (A : isR h M t sm ln f g V b) (S : isS f k) (hn : kn k ≤ 61) (hv : vTs (kn k) (ktp k)) {w j : Nat} (hw : w < 4) (hj : j < 4) : ∃ h', s_X8_costs h M (nI w) (nI j) = some (kw k w j, h') ∧ isR h' M t sm ln f g V b ∧ fr h h' (M + 5) (M + 6) := by
  obtain ⟨p, wl, rm, hs, Q⟩ := A.Q
  obtain ⟨h', e1, e2, e3⟩ := costs_M Q S hn hv hw hj
  exact ⟨h', e1, A.q5 e3 e2, e3⟩
theorem comes_R (A : isR h M t sm ln f g V b) (S : isS f k) (hk : kok k) {u : Nat → Nat} (vu : vT u) : ∃ h' f', s_X8_comes h M (nI (u 0)) (nI (u 1)) (nI (u 2)) (nI (u 3)) (nI (u 4)) (nI (u 5)) = some (nI (kip k u), h') ∧ isR h' M t sm ln f' g V b ∧ isS f' (kins k u) ∧ fr h h' (M + 1) (M + 2) := by
  obtain ⟨p, wl, rm, hs, a0⟩ := A.1
  obtain ⟨h', f', e1, e2, e3, e4⟩ := comes_S a0 A.2.1 S hk.2.2.1 hk.1 hk.2.1 vu
  exact ⟨h', f', e1, A.m1 e4 e2, e3, e4⟩
theorem lays_R (A : isR h M t sm ln f g V b) (S : isS f k) (hn : kn k ≤ 61) (hv : vTs (kn k) (ktp k)) : ∃ h' m, s_X8_laysRides h M = some h' ∧ isR h' M t sm ln f g V b ∧ isA h' (M + 5) 61 m ∧ (∀ i, i < kn k → m i = mt (kn k) (kset k 3) (ktp k) i) ∧ fr h h' (M + 5) (M + 6) := by
  obtain ⟨⟨p, wl, rm, hs, a0⟩, a1, -, -, -, ⟨m, a5⟩, -⟩ := id A
  obtain ⟨h', m', e1, e2, e3, e4⟩ := lays_M a0 a1 a5 S.2.2.2.2.1 hn hv
  exact ⟨h', m', e1, A.m5 e4 e2, e2, e3, e4⟩
theorem of_R (A : isR h M t sm ln f g V b) (S : isS f k) (hn : kn k ≤ 61) {i j : Nat} (hi : i < kn k) (hj : j < 6) : s_X8_of h M (nI i) (nI j) = some (nI (ktp k i j)) := by
  obtain ⟨p, wl, rm, hs, a0⟩ := A.1
  exact of_T a0 A.2.1 S.2.2.2.2.1 hn hi hj
theorem would_R (A : isR h M t sm ln f g V b) (S : isS f k) (hk : kok k) {u : Nat → Nat} (vu : vT u) (h5 : u 5 = 0) : ∃ h', s_X8_would h M (nI (u 0)) (nI (u 1)) (nI (u 2)) (nI (u 3)) (nI (u 4)) = some (aRaised k u, h') ∧ isR h' M t sm ln f f V b ∧ fr h h' (M + 1) (M + 7) := by
  have hn := hk.1
  have u1 := vu.2.1
  obtain ⟨h1, a1, a2, a3⟩ := aside_R A
  obtain ⟨h2, b1, b2, b3⟩ := costs_R a2 S (by omega) hk.2.1 vu.1 (show u 1 / 7 < 4 by omega)
  obtain ⟨h3, f3, c1, c2, c3, c4⟩ := comes_R b2 S hk vu
  obtain ⟨h4, d1, d2, d3⟩ := costs_R c2 c3 (show kn k + 1 ≤ 61 by omega) (kins_v hk.2.1 vu) vu.1 (show u 1 / 7 < 4 by omega)
  obtain ⟨h5', j1, j2, j3⟩ := back_R d2
  refine ⟨h5', ?_, j2, ((((a3.wd (by omega) (by omega)).tr (b3.wd (by omega) (by omega))).tr (c4.wd (by omega) (by omega))).tr (d3.wd (by omega) (by omega))).tr (j3.wd (by omega) (by omega))⟩
  rw [h5] at c1
  have c1' : s_X8_comes h2 M (nI (u 0)) (nI (u 1)) (nI (u 2)) (nI (u 3)) (nI (u 4)) 0 = some (nI (kip k u), h3) := c1
  have dv : m_div (nI (u 1)) 7 = some (nI (u 1 / 7)) := m_div_nI (b := 7) (by omega) (by decide) (by decide)
  rw [s_X8_would, A.is, bS, a1, bS, dv, bS, a2.is, bS, b1, bS]
  show ((m_is h2 6 M).bind fun _ => _) = _
  rw [b2.is, bS, c1', bS]
  show ((some (nI (u 1 / 7))).bind fun x33 => _) = _
  rw [bS]
  show ((m_is h3 6 M).bind fun _ => _) = _
  rw [c2.is, bS, d1, bS]
  show ((m_is h4 6 M).bind fun _ => _) = _
  rw [d2.is, bS, j1, bS]
  rfl
theorem ref_164 (A : isR h M t sm ln f g V b) (S : isS f k) (hk : kok k) (hn : kn k < 60) {i m s : Nat} (hi : i < kn k) (hm : m < 1440) (hs : s < 10) :
    ∃ h' f', s_X8_refuses_b164 h M (nI i) (nI (ktp k i 0 * 4 + ktp k i 1 / 7)) M (nI (ktp k i 0)) (nI (ktp k i 1)) (nI m) (nI s) (nI (1 - ktp k i 4)) = some (nI (if aWould k i (mis k i m s) = true then 0 else 5), h') ∧ isR h' M t sm ln f' g V b ∧ isS f' (kclaim k i m s) ∧ fr h h' M (M + 7) := by
  have v := hk.2.1 i hi
  have v0 := v.1
  have v1 := v.2.1
  have vm : vT (mis k i m s) := mis_v v hm hs
  obtain ⟨h1, f1, a1, a2, a3, a4⟩ := comes_R A S hk vm
  have a1' : s_X8_comes h M (nI (ktp k i 0)) (nI (ktp k i 1)) (nI m) (nI s) (nI (1 - ktp k i 4)) 1 = some (nI (kip k (mis k i m s)), h1) := a1
  obtain ⟨h2, m2, b1, b2, b3, b4, b5⟩ := lays_R a2 a3 (show kn k + 1 ≤ 61 by omega) (kins_v hk.2.1 vm)
  have hc : ktp k i 0 * 4 + ktp k i 1 / 7 < 16 := by omega
  obtain ⟨h3, c1, c2, c3⟩ := iast_A b2.2.1 (k := 392 + (ktp k i 0 * 4 + ktp k i 1 / 7)) (by omega) (by decide) (f1 (392 + (ktp k i 0 * 4 + ktp k i 1 / 7)) + 1)
  have R3 := b2.m1 c3 c2
  have hkp : kip k (mis k i m s) ≤ kn k := ip_le _
  obtain ⟨s1, s2, s3, s4, ⟨t1, t2, t3⟩, s6, s7, s8, s9, s10⟩ := id a3
  refine ⟨h3, _, ?_, R3, ⟨fun c hc => ?_, ?_, ?_, ?_, ⟨?_, ?_, fun c hc j hj => ?_⟩, fun c hc => ?_, fun c hc => ?_, fun c hc => ?_, fun w hw => ?_, fun w hw c hc => ?_⟩, ((a4.wd (by omega) (by omega)).tr (b5.wd (by omega) (by omega))).tr (c3.wd (by omega) (by omega))⟩
  · obtain ⟨p2, wl2, rm2, hs2, z2⟩ := b2.1
    obtain ⟨p3, wl3, rm3, hs3, z3⟩ := R3.1
    have key : ∀ x : Int32, s_X8_refuses_b187 h2 M (nI (ktp k i 0 * 4 + ktp k i 1 / 7)) (nI (kip k (mis k i m s))) x = some (nI (if mt (kn k + 1) (kset k 3) (ktp (kins k (mis k i m s))) (kip k (mis k i m s)) = x then 0 else 5), h3) := by
      intro x
      rw [s_X8_refuses_b187, gr_O z2 (k := 1) rfl, bS, show (392 : Int32) = nI 392 from rfl, nI_add, iald_A b2.2.1 (show 392 + (ktp k i 0 * 4 + ktp k i 1 / 7) < 492 by omega) (by decide), bS, c1, bS, gr_O z3 (k := 7) rfl, bS, iald_A (b3.fr c3 (by omega)) (show kip k (mis k i m s) < 61 by omega) (by decide), bS, b4 _ (show kip k (mis k i m s) < kn k + 1 by omega)]
      show (if mt (kn k + 1) (kset k 3) (ktp (kins k (mis k i m s))) (kip k (mis k i m s)) = x then _ else _) = _
      by_cases q : mt (kn k + 1) (kset k 3) (ktp (kins k (mis k i m s))) (kip k (mis k i m s)) = x
      · rw [if_pos q, if_pos q]; rfl
      · rw [if_neg q, if_neg q]; rfl
    rw [s_X8_refuses_b164, A.is, bS, a1', bS]
    show ((m_is h1 6 M).bind fun _ => _) = _
    rw [a2.is, bS, b1, bS]
    show (if nI i < nI (kip k (mis k i m s)) then _ else _) = _
    by_cases q : i < kip k (mis k i m s)
    · rw [if_pos (nI_lt q (by omega)), key, aWould, if_pos q]
      by_cases z : mt (kn k + 1) (kset k 3) (ktp (kins k (mis k i m s))) (kip k (mis k i m s)) = nI i
      · rw [if_pos z, if_pos (decide_eq_true z)]
      · rw [if_neg z, if_neg (by rw [decide_eq_true_iff]; exact z)]
    · rw [if_neg (fun z => q ((nI_ltI (by omega) (by omega)).mp z)), show nI i + 1 = nI (i + 1) from nI_1 i, key, aWould, if_neg q]
      by_cases z : mt (kn k + 1) (kset k 3) (ktp (kins k (mis k i m s))) (kip k (mis k i m s)) = nI (i + 1)
      · rw [if_pos z, if_pos (decide_eq_true z)]
      · rw [if_neg z, if_neg (by rw [decide_eq_true_iff]; exact z)]
  · rw [pk_un (by omega)]; exact s1 c hc
  · rw [pk_un (by omega)]; exact s2
  · rw [pk_un (by omega)]; exact s3
  · rw [pk_un (by omega)]; exact s4
  · rw [pk_un (by omega)]; exact t1
  · rw [pk_un (by omega)]; exact t2
  · have hc' : c < kn k + 1 := hc
    rw [pk_un (by omega)]; exact t3 c hc j hj
  · rw [pk_un (by omega)]; exact s6 c hc
  · show upd f1 (392 + (ktp k i 0 * 4 + ktp k i 1 / 7)) (f1 (392 + (ktp k i 0 * 4 + ktp k i 1 / 7)) + 1) (392 + c) = upd (kclm k) (ktp k i 0 * 4 + ktp k i 1 / 7) (kclm k (ktp k i 0 * 4 + ktp k i 1 / 7) + 1) c
    by_cases z : c = ktp k i 0 * 4 + ktp k i 1 / 7
    · subst z
      rw [pk_us, pk_us, s7 _ hc]; rfl
    · rw [pk_un (by omega), pk_un z]; exact s7 c hc
  · rw [pk_un (by omega)]; exact s8 c hc
  · rw [pk_un (by omega)]; exact s9 w hw
  · have hc8 : c < kln k w := hc
    have hw8 := hk.2.2.1 w hw
    rw [pk_un (by omega), pk_un (by omega)]
    exact s10 w hw c hc8
theorem ref_91 (A : isR h M t sm ln f g V b) (S : isS f k) (hk : kok k) {i m s : Nat} (hi : i < kn k) (hm : m < 1440) (hs : s < 10) :
    ∃ h' f', s_X8_refuses_b91 h M (nI i) (nI m) (nI s) (nI (ktp k i 4)) (nI (ktp k i 0 * 4 + ktp k i 1 / 7)) = some (nI (if kclm k (ktp k i 0 * 4 + ktp k i 1 / 7) < 2 then (if kn k < 60 then (if aWould k i (mis k i m s) = true then 0 else 5) else 4) else 3), h') ∧ isR h' M t sm ln f' g V b ∧ ((if kclm k (ktp k i 0 * 4 + ktp k i 1 / 7) < 2 then (if kn k < 60 then (if aWould k i (mis k i m s) = true then 0 else 5) else 4) else 3) = 0 → isS f' (kclaim k i m s)) ∧ fr h h' M (M + 7) := by
  have hn := hk.1
  have v := hk.2.1 i hi
  have v0 := v.1
  have v1 := v.2.1
  have v4 := v.2.2.2.2.1
  have hc : ktp k i 0 * 4 + ktp k i 1 / 7 < 16 := by omega
  obtain ⟨p, wl, rm, hs', a0⟩ := A.1
  have e2 : (392 : Int32) + nI (ktp k i 0 * 4 + ktp k i 1 / 7) = nI (392 + (ktp k i 0 * 4 + ktp k i 1 / 7)) := by rw [show (392 : Int32) = nI 392 from rfl, nI_add]
  have s7 := S.2.2.2.2.2.2.1 _ hc
  have rd : m_iald h (M + 1) (nI (392 + (ktp k i 0 * 4 + ktp k i 1 / 7))) = some (kclm k (ktp k i 0 * 4 + ktp k i 1 / 7)) := by rw [iald_A A.2.1 (by omega) (by decide), s7]
  have b118 : s_X8_refuses_b118 h M (nI (ktp k i 0 * 4 + ktp k i 1 / 7)) = some (nI (if kclm k (ktp k i 0 * 4 + ktp k i 1 / 7) < 2 then 4 else 3), h) := by
    rw [s_X8_refuses_b118, gr_O a0 (k := 1) rfl, bS, e2, rd, bS]
    by_cases q : kclm k (ktp k i 0 * 4 + ktp k i 1 / 7) < 2
    · rw [if_pos q, if_pos q]; rfl
    · rw [if_neg q, if_neg q]; rfl
  rw [s_X8_refuses_b91, gr_O a0 (k := 1) rfl, bS, e2, rd, bS, b118]
  by_cases q1 : kclm k (ktp k i 0 * 4 + ktp k i 1 / 7) < 2
  · rw [if_neg (Int32.not_le.mpr q1), if_pos q1, if_pos q1, bS, show (9 : Int32) = nI 9 from rfl, iald_A A.2.1 (show 9 < 492 by decide) (by decide), bS, S.2.2.2.2.1.1]
    by_cases q2 : kn k < 60
    · have q2' : ¬ nI (kn k) = 60 := fun z => by have := (nI_eq (b := 60) (by omega) (by decide)).mp z; omega
      rw [if_neg q2', if_pos q2, A.is, bS, show (0 : Int32) = nI 0 from rfl, of_R A S (by omega) hi (by decide), bS, bS, show (1 : Int32) = nI 1 from rfl, of_R A S (by omega) hi (by decide), bS]
      obtain ⟨h', f', c1, c2, c3, c4⟩ := ref_164 A S hk q2 hi hm hs
      refine ⟨h', f', ?_, c2, fun _ => c3, c4⟩
      by_cases q3 : ktp k i 4 = 0
      · rw [q3] at c1
        rw [if_pos (by rw [q3])]
        exact c1
      · have q4 : ktp k i 4 = 1 := by omega
        rw [q4] at c1
        rw [if_neg (by rw [q4]; decide)]
        exact c1
    · have q2' : nI (kn k) = 60 := by rw [show kn k = 60 by omega]; rfl
      rw [if_pos q2', if_neg q2]
      exact ⟨h, f, rfl, A, fun z => absurd z (by decide), fr.rf⟩
  · rw [if_pos (Int32.not_lt.mp q1), if_neg q1, if_neg q1]
    exact ⟨h, f, rfl, A, fun z => absurd z (by decide), fr.rf⟩
theorem ref_R (A : isR h M t sm ln f g V b) (S : isS f k) (hk : kok k) {i m s : Nat} (hi : i < kn k) (hm : m < 1440) (hs : s < 10) :
    ∃ h' f', s_X8_refuses h M (nI i) (nI m) (nI s) = some (nI (aRef k i m s), h') ∧ isR h' M t sm ln f' g V b ∧ (aRef k i m s = 0 → isS f' (kclaim k i m s)) ∧ fr h h' M (M + 7) := by
  have hn := hk.1
  have v := hk.2.1 i hi
  have v0 := v.1
  have v1 := v.2.1
  have v2 := v.2.2.1
  have v4 := v.2.2.2.2.1
  obtain ⟨h1, m1, a1, a2, a3, a4, a5⟩ := lays_R A S (by omega) hk.2.1
  obtain ⟨p, wl, rm, hs', b0⟩ := a2.1
  have F : fr h h1 M (M + 7) := a5.wd (by omega) (by omega)
  have dv : m_div (nI (ktp k i 1)) 7 = some (nI (ktp k i 1 / 7)) := m_div_nI (b := 7) (by omega) (by decide) (by decide)
  have ev : 4 * nI (ktp k i 0) + nI (ktp k i 1 / 7) = nI (ktp k i 0 * 4 + ktp k i 1 / 7) := by rw [show (4 : Int32) = nI 4 from rfl, nI_mul, nI_add, Nat.mul_comm]
  rw [s_X8_refuses, A.is, bS, a1, bS, a2.is, bS, isTap_yes a2 S.2.2.2.2.1.1 hi (by omega), bS, if_neg (by decide), gr_O b0 (k := 7) rfl, bS, iald_A a3 (show i < 61 by omega) (by decide), bS, a4 i hi]
  unfold aRef
  by_cases q1 : mt (kn k) (kset k 3) (ktp k) i = -1
  · rw [if_pos q1, if_pos (show kmt k i = -1 from q1), bS, show (4 : Int32) = nI 4 from rfl, of_R a2 S (by omega) hi (by decide), bS]
    by_cases q2 : ktp k i 4 = 1
    · rw [if_pos (by rw [q2]; rfl), s_X8_refuses_b39, is_O b0, bS, show (0 : Int32) = nI 0 from rfl, of_R a2 S (by omega) hi (by decide), bS, bS, show (1 : Int32) = nI 1 from rfl, of_R a2 S (by omega) hi (by decide), bS, dv, bS, if_neg (show ¬ nI 1 = nI 0 by decide), bS, show (2 : Int32) = nI 2 from rfl, of_R a2 S (by omega) hi (by decide), bS]
      by_cases q3 : ktp k i 2 ≤ m
      · obtain ⟨h', f', c1, c2, c3, c4⟩ := ref_91 a2 S hk hi hm hs
        rw [if_pos (nI_le q3 (by omega)), if_pos (Or.inr ⟨q2, q3⟩)]
        rw [q2] at c1
        rw [ev]
        exact ⟨h', f', c1, c2, c3, F.tr c4⟩
      · rw [if_neg (fun z => q3 ((nI_leI (by omega) (by omega)).mp z)), if_neg (show ¬ ((ktp k i 4 = 0 ∧ m ≤ ktp k i 2) ∨ (ktp k i 4 = 1 ∧ ktp k i 2 ≤ m)) by omega)]
        exact ⟨h1, f, rfl, a2, fun z => absurd z (by decide), F⟩
    · have e4 : ktp k i 4 = 0 := by omega
      rw [if_neg (by rw [e4]; decide), s_X8_refuses_b39, is_O b0, bS, show (0 : Int32) = nI 0 from rfl, of_R a2 S (by omega) hi (by decide), bS, bS, show (1 : Int32) = nI 1 from rfl, of_R a2 S (by omega) hi (by decide), bS, dv, bS, if_pos rfl, bS, show (2 : Int32) = nI 2 from rfl, of_R a2 S (by omega) hi (by decide), bS]
      by_cases q3 : m ≤ ktp k i 2
      · obtain ⟨h', f', c1, c2, c3, c4⟩ := ref_91 a2 S hk hi hm hs
        rw [if_pos (nI_le q3 (by omega)), if_pos (Or.inl ⟨e4, q3⟩)]
        rw [e4] at c1
        rw [ev]
        exact ⟨h', f', c1, c2, c3, F.tr c4⟩
      · rw [if_neg (fun z => q3 ((nI_leI (by omega) (by omega)).mp z)), if_neg (show ¬ ((ktp k i 4 = 0 ∧ m ≤ ktp k i 2) ∨ (ktp k i 4 = 1 ∧ ktp k i 2 ≤ m)) by omega)]
        exact ⟨h1, f, rfl, a2, fun z => absurd z (by decide), F⟩
  · rw [if_neg q1, if_neg (show ¬ kmt k i = -1 from q1)]
    exact ⟨h1, f, rfl, a2, fun z => absurd z (by decide), F⟩
theorem ref_Rno (A : isR h M t sm ln f g V b) (S : isS f k) (hk : kok k) {v v2 v3 : Int32} (hp : oB v (kn k)) : ∃ h', s_X8_refuses h M v v2 v3 = some (1, h') ∧ isR h' M t sm ln f g V b ∧ fr h h' M (M + 7) := by
  have hn := hk.1
  obtain ⟨h1, m1, a1, a2, a3, a4, a5⟩ := lays_R A S (by omega) hk.2.1
  refine ⟨h1, ?_, a2, a5.wd (by omega) (by omega)⟩
  rw [s_X8_refuses, A.is, bS, a1, bS, a2.is, bS, isTap_no a2 S.2.2.2.2.1.1 hp (by omega), bS, if_pos rfl]; rfl
end RO
