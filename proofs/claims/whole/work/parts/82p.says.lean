/-! PURE: the reference's calls, with what it says is thrown: taps, claims, questions -/
section RP
variable {h : mH} {M sz bl : Nat} {t sm ln : Int32} {f g V b : Nat → Int32} {k : mK} {sv : Nat → mK}
theorem isWallet_yes {i : Nat} (hi : i < 4) : s_X8_isWallet h (nI i) = some 1 := by
  rw [s_X8_isWallet, show s_X8_in h (nI i) 0 3 = some 1 from in0_yes (b := 3) hi (by decide), bS, z_1, bS]
theorem isWallet_no {v : Int32} (q : oB v 4) : s_X8_isWallet h v = some 0 := by
  rw [s_X8_isWallet, show s_X8_in h v 0 3 = some 0 from in0_no (b := 3) q (by decide), bS, z_0, bS]
theorem isTold_yes {w d m s : Nat} (hw : w < 4) (hd : d < 28) (hm : m < 1440) (hs : s < 10) : s_X8_isTold h (nI w) (nI d) (nI m) (nI s) = some 1 := by
  rw [s_X8_isTold, isWallet_yes hw, bS, if_neg (by decide), show s_X8_in h (nI d) 0 27 = some 1 from in0_yes (b := 27) hd (by decide), bS, if_neg (by decide), show s_X8_in h (nI m) 0 1439 = some 1 from in0_yes (b := 1439) hm (by decide), bS, if_neg (by decide), show s_X8_in h (nI s) 0 9 = some 1 from in0_yes (b := 9) hs (by decide), bS, if_neg (by decide), s_X8_isTold_b43, z_1, bS]
theorem isTold_no {v1 v2 v3 v4 : Int32} (q : (oB v1 4 ∨ oB v2 28) ∨ oB v3 1440 ∨ oB v4 10) : s_X8_isTold h v1 v2 v3 v4 = some 0 := by
  have no : s_X8_isTold_b42 h = some 0 := by rw [s_X8_isTold_b42, s_X8_isTold_b43, z_0, bS]
  rw [s_X8_isTold, no]
  rcases below_c v1 4 (by decide) with ⟨w, hw, rfl⟩ | q1
  · rw [isWallet_yes hw, bS, if_neg (by decide)]
    rcases below_c v2 28 (by decide) with ⟨d, hd, rfl⟩ | q2
    · rw [show s_X8_in h (nI d) 0 27 = some 1 from in0_yes (b := 27) hd (by decide), bS, if_neg (by decide)]
      have q' := q.resolve_left fun z => z.elim (oB_no hw (by decide)) (oB_no hd (by decide))
      rcases below_c v3 1440 (by decide) with ⟨m, hm, rfl⟩ | q3
      · have q4 := q'.resolve_left (oB_no hm (by decide))
        rw [show s_X8_in h (nI m) 0 1439 = some 1 from in0_yes (b := 1439) hm (by decide), bS, if_neg (by decide), show s_X8_in h v4 0 9 = some 0 from in0_no (b := 9) q4 (by decide), bS, if_pos rfl]
      · rw [show s_X8_in h v3 0 1439 = some 0 from in0_no (b := 1439) q3 (by decide), bS, if_pos rfl]
    · rw [show s_X8_in h v2 0 27 = some 0 from in0_no (b := 27) q2 (by decide), bS, if_pos rfl]
  · rw [isWallet_no q1, bS, if_pos rfl]
/-- a call refused -/
theorem no_M (A : isM h M t k sz sv bl b) (v : Int32) : ∃ h1 h2, m_put h 6 M 0 (.int 0) = some h1 ∧ isM h1 M 0 k sz sv bl b ∧ s_X8_fails h1 M v = some (0, h2) ∧ isM h2 M v k sz sv bl b ∧ m_is h1 6 M = some () ∧ fr h h2 M (M + 7) := by
  obtain ⟨f, g, V, R, S, W⟩ := A
  obtain ⟨h1, e1, e2, e3⟩ := R.th 0
  obtain ⟨h2, g1, g2, g3⟩ := e2.fl v
  exact ⟨h1, h2, e1, ⟨f, g, V, e2, S, W⟩, g1, ⟨f, g, V, g2, S, W⟩, e2.is, (e3.tr g3).wd (by omega) (by omega)⟩
theorem tap_Mno (A : isM h M t k sz sv bl b) {v1 v2 v3 v4 v5 : Int32} (q : (oB v1 4 ∨ oB v2 28) ∨ oB v3 1440 ∨ oB v4 10) : ∃ h', s_X8_tap h M v1 v2 v3 v4 v5 = some (0, h') ∧ isM h' M 1 k sz sv bl b ∧ fr h h' M (M + 7) := by
  obtain ⟨h1, h2, e1, e2, e3, e4, e5, e6⟩ := no_M A 1
  refine ⟨h2, ?_, e4, e6⟩
  rw [s_X8_tap, e1, bS, isTold_no q, bS, if_pos rfl, e5, bS, e3, bS]
theorem tap_Mfull (A : isM h M t k sz sv bl b) {w d m s : Nat} {v5 : Int32} (hw : w < 4) (hd : d < 28) (hm : m < 1440) (hs : s < 10) (hn : kn k = 60) : ∃ h', s_X8_tap h M (nI w) (nI d) (nI m) (nI s) v5 = some (0, h') ∧ isM h' M 2 k sz sv bl b ∧ fr h h' M (M + 7) := by
  obtain ⟨h1, h2, e1, ⟨f, g, V, R, S, W⟩, e3, e4, e5, e6⟩ := no_M A 2
  refine ⟨h2, ?_, e4, e6⟩
  obtain ⟨p, wl, rm, hs', a0⟩ := R.1
  rw [s_X8_tap, e1, bS, isTold_yes hw hd hm hs, bS, if_neg (by decide), gr_O a0 (k := 1) rfl, bS, show (9 : Int32) = nI 9 from rfl, iald_A R.2.1 (show 9 < 492 by decide) (by decide), bS, S.2.2.2.2.1.1, if_pos (show nI (kn k) = 60 by rw [hn]; rfl), e5, bS, e3, bS]
theorem tap_M (A : isM h M t k sz sv bl b) (hk : kok k) (hsv : ∀ j, j < sz → kok (sv j)) (hz : sz ≤ 6) {w d m s i : Nat} (hw : w < 4) (hd : d < 28) (hm : m < 1440) (hs : s < 10) (hi : i < 2) (hn : kn k < 60) :
    ∃ h', s_X8_tap h M (nI w) (nI d) (nI m) (nI s) (nI i) = some (nI (kip k (mkT w d m s i 0)), h') ∧ isM h' M 0 (kins k (mkT w d m s i 0)) (min (sz + 1) 6) (kpush sv k) bl b ∧ fr h h' M (M + 7) := by
  have vt : vT (mkT w d m s i 0) := ⟨hw, hd, hm, hs, hi, show 0 < 2 by decide⟩
  obtain ⟨f, g, V, R, S, W⟩ := A
  obtain ⟨h1, e1, e2, e3⟩ := R.th 0
  obtain ⟨p, wl, rm, hs', a0⟩ := e2.1
  obtain ⟨h2, V', g1, g2, g3, g4⟩ := saves_M e2 S hk W hsv hz
  obtain ⟨h3, f', c1, c2, c3, c4⟩ := comes_R g2 S hk vt
  have c1' : s_X8_comes h2 M (nI w) (nI d) (nI m) (nI s) (nI i) 0 = some (nI (kip k (mkT w d m s i 0)), h3) := c1
  refine ⟨h3, ?_, ⟨f', g, V', c2, c3, g3⟩, ((e3.wd (by omega) (by omega)).tr (g4.wd (by omega) (by omega))).tr (c4.wd (by omega) (by omega))⟩
  have q2' : ¬ nI (kn k) = 60 := fun z => by have := (nI_eq (b := 60) (by omega) (by decide)).mp z; omega
  have b60 : s_X8_tap_b60 h2 M (nI w) (nI d) (nI m) (nI s) (nI i) = some (nI (kip k (mkT w d m s i 0)), h3) := by
    rw [s_X8_tap_b60, g2.is, bS, c1', bS]
  rw [s_X8_tap, e1, bS, isTold_yes hw hd hm hs, bS, if_neg (by decide), gr_O a0 (k := 1) rfl, bS, show (9 : Int32) = nI 9 from rfl, iald_A e2.2.1 (show 9 < 492 by decide) (by decide), bS, S.2.2.2.2.1.1, if_neg q2', is_O a0, bS, g1, bS]
  rcases Nat.lt_or_ge i 1 with z | z
  · obtain rfl : i = 0 := by omega
    rw [if_pos (show nI 0 = 0 from rfl)]
    exact b60
  · obtain rfl : i = 1 := by omega
    rw [if_neg (show ¬ nI 1 = 0 by decide)]
    exact b60
theorem ifTapped_Mno (A : isM h M t k sz sv bl b) {v1 v2 v3 v4 v5 : Int32} (q : (oB v1 4 ∨ oB v2 28) ∨ oB v3 1440 ∨ oB v4 10) : ∃ h', s_X8_ifTapped h M v1 v2 v3 v4 v5 = some (0, h') ∧ isM h' M 1 k sz sv bl b ∧ fr h h' M (M + 7) := by
  obtain ⟨h1, h2, e1, e2, e3, e4, e5, e6⟩ := no_M A 1
  refine ⟨h2, ?_, e4, e6⟩
  rw [s_X8_ifTapped, e1, bS, isTold_no q, bS, if_pos rfl, e5, bS, e3, bS]
  rfl
theorem ifTapped_M (A : isM h M t k sz sv bl b) (hk : kok k) {w d m s i : Nat} (hw : w < 4) (hd : d < 28) (hm : m < 1440) (hs : s < 10) (hi : i < 2) :
    ∃ h', s_X8_ifTapped h M (nI w) (nI d) (nI m) (nI s) (nI i) = some (aRaised k (mkT w d m s i 0), h') ∧ isM h' M 0 k sz sv bl b ∧ fr h h' M (M + 7) := by
  have vt : vT (mkT w d m s i 0) := ⟨hw, hd, hm, hs, hi, show 0 < 2 by decide⟩
  obtain ⟨f, g, V, R, S, W⟩ := A
  obtain ⟨h1, e1, e2, e3⟩ := R.th 0
  obtain ⟨h2, c1, c2, c3⟩ := would_R e2 S hk vt rfl
  have c1' : s_X8_would h1 M (nI w) (nI d) (nI m) (nI s) (nI i) = some (aRaised k (mkT w d m s i 0), h2) := c1
  refine ⟨h2, ?_, ⟨f, f, V, c2, S, W⟩, (e3.wd (by omega) (by omega)).tr (c3.wd (by omega) (by omega))⟩
  have b32 : s_X8_ifTapped_b32 h1 M (nI w) (nI d) (nI m) (nI s) (nI i) = some (aRaised k (mkT w d m s i 0), h2) := by
    rw [s_X8_ifTapped_b32, e2.is, bS, c1', bS]
    rfl
  rw [s_X8_ifTapped, e1, bS, isTold_yes hw hd hm hs, bS, if_neg (by decide)]
  rcases Nat.lt_or_ge i 1 with z | z
  · obtain rfl : i = 0 := by omega
    rw [if_pos (show nI 0 = 0 from rfl)]
    exact b32
  · obtain rfl : i = 1 := by omega
    rw [if_neg (show ¬ nI 1 = 0 by decide)]
    exact b32
/-! claims -/
theorem ms_no {v2 v3 : Int32} {α : Type} {x y : Option α} (q : oB v2 1440 ∨ oB v3 10) : ((s_X8_in h v2 0 1439).bind fun x10 => if x10 = 0 then x else ((s_X8_in h v3 0 9).bind fun x20 => if x20 = 0 then x else y)) = x := by
  rcases below_c v2 1440 (by decide) with ⟨m, hm, rfl⟩ | q3
  · have q4 := q.resolve_left (oB_no hm (by decide))
    rw [show s_X8_in h (nI m) 0 1439 = some 1 from in0_yes (b := 1439) hm (by decide), bS, if_neg (by decide), show s_X8_in h v3 0 9 = some 0 from in0_no (b := 9) q4 (by decide), bS, if_pos rfl]
  · rw [show s_X8_in h v2 0 1439 = some 0 from in0_no (b := 1439) q3 (by decide), bS, if_pos rfl]
theorem ms_yes {m s : Nat} (hm : m < 1440) (hs : s < 10) {α : Type} {x y : Option α} : ((s_X8_in h (nI m) 0 1439).bind fun x10 => if x10 = 0 then x else ((s_X8_in h (nI s) 0 9).bind fun x20 => if x20 = 0 then x else y)) = y := by
  rw [show s_X8_in h (nI m) 0 1439 = some 1 from in0_yes (b := 1439) hm (by decide), bS, if_neg (by decide), show s_X8_in h (nI s) 0 9 = some 1 from in0_yes (b := 9) hs (by decide), bS, if_neg (by decide)]
theorem claim_Mno (A : isM h M t k sz sv bl b) {v1 v2 v3 : Int32} (q : oB v2 1440 ∨ oB v3 10) : ∃ h', s_X8_claim h M v1 v2 v3 = some (0, h') ∧ isM h' M 1 k sz sv bl b ∧ fr h h' M (M + 7) := by
  obtain ⟨h1, h2, e1, e2, e3, e4, e5, e6⟩ := no_M A 1
  refine ⟨h2, ?_, e4, e6⟩
  rw [s_X8_claim, e1, bS, ms_no q, s_X8_claim_b26, e5, bS, e3, bS]
theorem whyNot_Mno (A : isM h M t k sz sv bl b) {v1 v2 v3 : Int32} (q : oB v2 1440 ∨ oB v3 10) : ∃ h', s_X8_whyNot h M v1 v2 v3 = some (0, h') ∧ isM h' M 1 k sz sv bl b ∧ fr h h' M (M + 7) := by
  obtain ⟨h1, h2, e1, e2, e3, e4, e5, e6⟩ := no_M A 1
  refine ⟨h2, ?_, e4, e6⟩
  rw [s_X8_whyNot, e1, bS, ms_no q, s_X8_whyNot_b26, e5, bS, e3, bS]
theorem whyNot_to {x : Int32} {v1 : Int32} {m s : Nat} (A : isM h M t k sz sv bl b) (hm : m < 1440) (hs : s < 10) (hr : ∀ {h : mH} {g : Nat → Int32} {f : Nat → Int32} {V : Nat → Int32}, isS f k → isR h M 0 (nI sz) (nI bl) f g V b → ∃ h' f', s_X8_refuses h M v1 (nI m) (nI s) = some (x, h') ∧ isR h' M 0 (nI sz) (nI bl) f' g V b ∧ fr h h' M (M + 7)) :
    ∃ h', s_X8_whyNot h M v1 (nI m) (nI s) = some (x, h') ∧ isM h' M 0 k sz sv bl b ∧ fr h h' M (M + 7) := by
  obtain ⟨f, g, V, R, S, W⟩ := A
  obtain ⟨h1, e1, e2, e3⟩ := R.th 0
  obtain ⟨h2, a1, a2, a3⟩ := aside_R e2
  obtain ⟨h3, f', c1, c2, c3⟩ := hr S a2
  obtain ⟨h4, d1, d2, d3⟩ := back_R c2
  refine ⟨h4, ?_, ⟨f, f, V, d2, S, W⟩, (((e3.wd (by omega) (by omega)).tr (a3.wd (by omega) (by omega))).tr c3).tr (d3.wd (by omega) (by omega))⟩
  rw [s_X8_whyNot, e1, bS, ms_yes hm hs, e2.is, bS, a1, bS, a2.is, bS, c1, bS]
  show ((m_is h3 6 M).bind fun _ => _) = _
  rw [c2.is, bS, d1, bS]
theorem whyNot_M (A : isM h M t k sz sv bl b) (hk : kok k) {i m s : Nat} (hi : i < kn k) (hm : m < 1440) (hs : s < 10) : ∃ h', s_X8_whyNot h M (nI i) (nI m) (nI s) = some (nI (aRef k i m s), h') ∧ isM h' M 0 k sz sv bl b ∧ fr h h' M (M + 7) :=
  whyNot_to A hm hs fun S R => by
    obtain ⟨h', f', e1, e2, e3, e4⟩ := ref_R R S hk hi hm hs
    exact ⟨h', f', e1, e2, e4⟩
theorem whyNot_M1 (A : isM h M t k sz sv bl b) (hk : kok k) {v : Int32} {m s : Nat} (hm : m < 1440) (hs : s < 10) (hp : oB v (kn k)) : ∃ h', s_X8_whyNot h M v (nI m) (nI s) = some (1, h') ∧ isM h' M 0 k sz sv bl b ∧ fr h h' M (M + 7) :=
  whyNot_to A hm hs fun S R => by
    obtain ⟨h', e1, e2, e3⟩ := ref_Rno R S hk hp
    exact ⟨h', _, e1, e2, e3⟩
theorem isS.rr {k : mK} {f : Nat → Int32} (S : isS f k) (hn : kn k ≤ 60) (hl : ∀ w, w < 4 → kln k w ≤ 8) : isS (upd f 8 (f 8 + 1)) (krefuse k) := by
  obtain ⟨s1, s2, s3, s4, ⟨t1, t2, t3⟩, s6, s7, s8, s9, s10⟩ := S
  refine ⟨fun i hi => ?_, ?_, ?_, ?_, ⟨?_, ?_, fun i hi j hj => ?_⟩, fun c hc => ?_, fun c hc => ?_, fun c hc => ?_, fun w hw => ?_, fun w hw b hb => ?_⟩
  · rw [pk_un (by omega)]; exact s1 i hi
  · rw [pk_un (by omega)]; exact s2
  · rw [pk_un (by omega)]; exact s3
  · rw [pk_us, s4]; rfl
  · rw [pk_un (by omega)]; exact t1
  · rw [pk_un (by omega)]; exact t2
  · rw [pk_un (by omega)]; exact t3 i hi j hj
  · rw [pk_un (by omega)]; exact s6 c hc
  · rw [pk_un (by omega)]; exact s7 c hc
  · rw [pk_un (by omega)]; exact s8 c hc
  · rw [pk_un (by omega)]; exact s9 w hw
  · rw [pk_un (by omega), pk_un (by omega)]
    exact s10 w hw b hb
theorem claim_to {x : Int32} {v1 : Int32} {m s : Nat} {k' : mK} (A : isM h M t k sz sv bl b) (hk : kok k) (hsv : ∀ j, j < sz → kok (sv j)) (hz : sz ≤ 6) (hm : m < 1440) (hs : s < 10) (hr : ∀ {h : mH} {f g V : Nat → Int32} {sm : Int32}, isS f k → isR h M 0 sm (nI bl) f g V b → ∃ h' f', s_X8_refuses h M v1 (nI m) (nI s) = some (x, h') ∧ isR h' M 0 sm (nI bl) f' g V b ∧ (x = 0 → isS f' k') ∧ fr h h' M (M + 7)) :
    ∃ h', s_X8_claim h M v1 (nI m) (nI s) = some (x, h') ∧ isM h' M 0 (if x = 0 then k' else krefuse k) (min (sz + 1) 6) (kpush sv k) bl b ∧ fr h h' M (M + 7) := by
  obtain ⟨f, g, V, R, S, W⟩ := A
  obtain ⟨h1, e1, e2, e3⟩ := R.th 0
  obtain ⟨h2, V', b1, b2, b3, b4⟩ := saves_M e2 S hk W hsv hz
  obtain ⟨h3, a1, a2, a3⟩ := aside_R b2
  obtain ⟨h4, f', c1, c2, c3, c4⟩ := hr S a2
  have F : fr h h4 M (M + 7) := (((e3.wd (by omega) (by omega)).tr (b4.wd (by omega) (by omega))).tr (a3.wd (by omega) (by omega))).tr c4
  by_cases q : x = 0
  · subst q
    refine ⟨h4, ?_, ⟨f', f, V', c2, by rw [if_pos rfl]; exact c3 rfl, b3⟩, F⟩
    rw [s_X8_claim, e1, bS, ms_yes hm hs, e2.is, bS, b1, bS, b2.is, bS, a1, bS, a2.is, bS, c1, bS]
    show (if (0 : Int32) = 0 then _ else _) = _
    rw [if_pos rfl]; rfl
  · obtain ⟨h5', d1, d2, d3⟩ := back_R c2
    obtain ⟨p, wl, rm, hs', z0⟩ := d2.1
    obtain ⟨h6, j1, j2, j3⟩ := iast_A d2.2.1 (k := 8) (by decide) (by decide) (f 8 + 1)
    refine ⟨h6, ?_, ⟨_, f, V', d2.m1 j3 j2, by rw [if_neg q]; exact S.rr hk.1 hk.2.2.1, b3⟩, (F.tr (d3.wd (by omega) (by omega))).tr (j3.wd (by omega) (by omega))⟩
    rw [s_X8_claim, e1, bS, ms_yes hm hs, e2.is, bS, b1, bS, b2.is, bS, a1, bS, a2.is, bS, c1, bS]
    show (if x = 0 then _ else _) = _
    rw [if_neg q]
    show ((m_is h4 6 M).bind fun _ => _) = _
    rw [c2.is, bS, d1, bS, gr_O z0 (k := 1) rfl, bS, show (8 : Int32) = nI 8 from rfl, iald_A d2.2.1 (show 8 < 492 by decide) (by decide), bS, j1, bS]
    rfl
theorem claim_M (A : isM h M t k sz sv bl b) (hk : kok k) (hsv : ∀ j, j < sz → kok (sv j)) (hz : sz ≤ 6) {i m s : Nat} (hi : i < kn k) (hm : m < 1440) (hs : s < 10) :
    ∃ h', s_X8_claim h M (nI i) (nI m) (nI s) = some (nI (aRef k i m s), h') ∧ isM h' M 0 (if aRef k i m s = 0 then kclaim k i m s else krefuse k) (min (sz + 1) 6) (kpush sv k) bl b ∧ fr h h' M (M + 7) := by
  have hlt := aRef_lt k i m s
  obtain ⟨h', e1, e2, e3⟩ := claim_to (x := nI (aRef k i m s)) (k' := kclaim k i m s) A hk hsv hz hm hs fun S R => by
    obtain ⟨h', f', e1, e2, e3, e4⟩ := ref_R R S hk hi hm hs
    exact ⟨h', f', e1, e2, fun z => e3 ((nI_eq (b := 0) (by omega) (by decide)).mp z), e4⟩
  refine ⟨h', e1, ?_, e3⟩
  by_cases q : aRef k i m s = 0
  · rw [if_pos (show nI (aRef k i m s) = 0 by rw [q]; rfl)] at e2
    rw [if_pos q]; exact e2
  · rw [if_neg (nI_ne0 (by omega) (by omega))] at e2
    rw [if_neg q]; exact e2
theorem claim_M1 (A : isM h M t k sz sv bl b) (hk : kok k) (hsv : ∀ j, j < sz → kok (sv j)) (hz : sz ≤ 6) {v : Int32} {m s : Nat} (hm : m < 1440) (hs : s < 10) (hp : oB v (kn k)) :
    ∃ h', s_X8_claim h M v (nI m) (nI s) = some (1, h') ∧ isM h' M 0 (krefuse k) (min (sz + 1) 6) (kpush sv k) bl b ∧ fr h h' M (M + 7) := by
  obtain ⟨h', e1, e2, e3⟩ := claim_to (x := 1) (k' := k) A hk hsv hz hm hs fun S R => by
    obtain ⟨h', e1, e2, e3⟩ := ref_Rno R S hk hp
    exact ⟨h', _, e1, e2, fun z => absurd z (by decide), e3⟩
  rw [if_neg (show ¬ (1 : Int32) = 0 by decide)] at e2
  exact ⟨h', e1, e2, e3⟩
/-! questions -/
theorem tapOf_Mno1 (A : isM h M t k sz sv bl b) (hk : kok k) {v1 v2 : Int32} (q : oB v1 (kn k)) : ∃ h', s_X8_tapOf h M v1 v2 = some (0, h') ∧ isM h' M 1 k sz sv bl b ∧ fr h h' M (M + 7) := by
  have hn := hk.1
  obtain ⟨h1, h2, e1, ⟨f, g, V, R, S, W⟩, e3, e4, e5, e6⟩ := no_M A 1
  refine ⟨h2, ?_, e4, e6⟩
  rw [s_X8_tapOf, e1, bS, e5, bS, isTap_no R S.2.2.2.2.1.1 q (by omega), bS, if_pos rfl, bS, e3, bS]
theorem tapOf_Mno2 (A : isM h M t k sz sv bl b) (hk : kok k) {i : Nat} {v2 : Int32} (hi : i < kn k) (q : oB v2 8) : ∃ h', s_X8_tapOf h M (nI i) v2 = some (0, h') ∧ isM h' M 2 k sz sv bl b ∧ fr h h' M (M + 7) := by
  have hn := hk.1
  obtain ⟨f, g, V, R, S, W⟩ := A
  obtain ⟨h1, e1, e2, e3⟩ := R.th 0
  obtain ⟨h2, m2, a1, a2, a3, a4, a5⟩ := lays_R e2 S (by omega) hk.2.1
  obtain ⟨h3, g1, g2, g3⟩ := a2.fl 2
  refine ⟨h3, ?_, ⟨f, g, V, g2, S, W⟩, ((e3.wd (by omega) (by omega)).tr (a5.wd (by omega) (by omega))).tr (g3.wd (by omega) (by omega))⟩
  rw [s_X8_tapOf, e1, bS, e2.is, bS, isTap_yes e2 S.2.2.2.2.1.1 hi (by omega), bS, if_neg (by decide), bS, a1, bS, show s_X8_in h2 v2 0 7 = some 0 from in0_no (b := 7) q (by decide), bS, if_pos rfl, a2.is, bS, g1, bS]
  rfl
theorem tapOf_M (A : isM h M t k sz sv bl b) (hk : kok k) {i p : Nat} (hi : i < kn k) (hp : p < 8) : ∃ h', s_X8_tapOf h M (nI i) (nI p) = some (aTap k i p, h') ∧ isM h' M 0 k sz sv bl b ∧ fr h h' M (M + 7) := by
  have hn := hk.1
  obtain ⟨f, g, V, R, S, W⟩ := A
  obtain ⟨h1, e1, e2, e3⟩ := R.th 0
  obtain ⟨h2, m2, a1, a2, a3, a4, a5⟩ := lays_R e2 S (by omega) hk.2.1
  obtain ⟨pp, wl, rm, hs', z0⟩ := a2.1
  refine ⟨h2, ?_, ⟨f, g, V, a2, S, W⟩, (e3.wd (by omega) (by omega)).tr (a5.wd (by omega) (by omega))⟩
  rw [s_X8_tapOf, e1, bS, e2.is, bS, isTap_yes e2 S.2.2.2.2.1.1 hi (by omega), bS, if_neg (by decide), bS, a1, bS, show s_X8_in h2 (nI p) 0 7 = some 1 from in0_yes (b := 7) hp (by decide), bS, if_neg (by decide), a2.is, bS, tellsTap_M z0 a2.2.1 S (by omega) hk.2.1 a3 a4 hi hp, bS]
  rfl
theorem day_Mno (A : isM h M t k sz sv bl b) {v1 v2 v3 : Int32} (q : (oB v1 4 ∨ oB v2 28) ∨ oB v3 4) : ∃ h', s_X8_day h M v1 v2 v3 = some (0, h') ∧ isM h' M 1 k sz sv bl b ∧ fr h h' M (M + 7) := by
  obtain ⟨h1, h2, e1, e2, e3, e4, e5, e6⟩ := no_M A 1
  refine ⟨h2, ?_, e4, e6⟩
  have no : s_X8_day_b41 h1 M = some (0, h2) := by rw [s_X8_day_b41, e5, bS, e3, bS]; rfl
  rw [s_X8_day, e1, bS, no]
  rcases below_c v1 4 (by decide) with ⟨w, hw, rfl⟩ | q1
  · rw [isWallet_yes hw, bS, if_neg (by decide)]
    rcases below_c v2 28 (by decide) with ⟨d, hd, rfl⟩ | q2
    · have q3 : oB v3 4 := q.resolve_left fun z => z.elim (oB_no hw (by decide)) (oB_no hd (by decide))
      rw [show s_X8_in h1 (nI d) 0 27 = some 1 from in0_yes (b := 27) hd (by decide), bS, if_neg (by decide), show s_X8_in h1 v3 0 3 = some 0 from in0_no (b := 3) q3 (by decide), bS, if_pos rfl]
    · rw [show s_X8_in h1 v2 0 27 = some 0 from in0_no (b := 27) q2 (by decide), bS, if_pos rfl]
  · rw [isWallet_no q1, bS, if_pos rfl]
theorem day_M (A : isM h M t k sz sv bl b) (hk : kok k) {w d p : Nat} (hw : w < 4) (hd : d < 28) (hp : p < 4) : ∃ h', s_X8_day h M (nI w) (nI d) (nI p) = some (aDay k w d p, h') ∧ isM h' M 0 k sz sv bl b ∧ fr h h' M (M + 7) := by
  have hn := hk.1
  obtain ⟨f, g, V, R, S, W⟩ := A
  obtain ⟨h1, e1, e2, e3⟩ := R.th 0
  obtain ⟨pp, wl, rm, hs', Q⟩ := e2.Q
  obtain ⟨h2, a1, a2, a3⟩ := ofDay_Q Q S (by omega) hk.2.1 hw hd hp
  refine ⟨h2, ?_, ⟨f, g, V, e2.q5 a3 a2, S, W⟩, (e3.wd (by omega) (by omega)).tr (a3.wd (by omega) (by omega))⟩
  rw [s_X8_day, e1, bS, isWallet_yes hw, bS, if_neg (by decide), show s_X8_in h1 (nI d) 0 27 = some 1 from in0_yes (b := 27) hd (by decide), bS, if_neg (by decide), show s_X8_in h1 (nI p) 0 3 = some 1 from in0_yes (b := 3) hp (by decide), bS, if_neg (by decide), e2.is, bS, a1, bS]
  rfl
theorem week_Mno (A : isM h M t k sz sv bl b) {v1 v2 v3 : Int32} (q : oB v1 4 ∨ oB v2 4 ∨ oB v3 7) : ∃ h', s_X8_week h M v1 v2 v3 = some (0, h') ∧ isM h' M 1 k sz sv bl b ∧ fr h h' M (M + 7) := by
  obtain ⟨h1, h2, e1, e2, e3, e4, e5, e6⟩ := no_M A 1
  refine ⟨h2, ?_, e4, e6⟩
  have no : s_X8_week_b41 h1 M = some (0, h2) := by rw [s_X8_week_b41, e5, bS, e3, bS]; rfl
  rw [s_X8_week, e1, bS, no]
  rcases below_c v1 4 (by decide) with ⟨w, hw, rfl⟩ | q1
  · rw [isWallet_yes hw, bS, if_neg (by decide)]
    rcases below_c v2 4 (by decide) with ⟨d, hd, rfl⟩ | q2
    · have q3 : oB v3 7 := (q.resolve_left (oB_no hw (by decide))).resolve_left (oB_no hd (by decide))
      rw [show s_X8_in h1 (nI d) 0 3 = some 1 from in0_yes (b := 3) hd (by decide), bS, if_neg (by decide), show s_X8_in h1 v3 0 6 = some 0 from in0_no (b := 6) q3 (by decide), bS, if_pos rfl]
    · rw [show s_X8_in h1 v2 0 3 = some 0 from in0_no (b := 3) q2 (by decide), bS, if_pos rfl]
  · rw [isWallet_no q1, bS, if_pos rfl]
theorem week_M (A : isM h M t k sz sv bl b) (hk : kok k) {w d p : Nat} (hw : w < 4) (hd : d < 4) (hp : p < 7) : ∃ h', s_X8_week h M (nI w) (nI d) (nI p) = some (aWeek k w d p, h') ∧ isM h' M 0 k sz sv bl b ∧ fr h h' M (M + 7) := by
  have hn := hk.1
  obtain ⟨f, g, V, R, S, W⟩ := A
  obtain ⟨h1, e1, e2, e3⟩ := R.th 0
  obtain ⟨pp, wl, rm, hs', Q⟩ := e2.Q
  obtain ⟨h2, a1, a2, a3⟩ := tellsWeek_M Q S (by omega) hk.2.1 hw hd hp
  refine ⟨h2, ?_, ⟨f, g, V, e2.q5 a3 a2, S, W⟩, (e3.wd (by omega) (by omega)).tr (a3.wd (by omega) (by omega))⟩
  rw [s_X8_week, e1, bS, isWallet_yes hw, bS, if_neg (by decide), show s_X8_in h1 (nI d) 0 3 = some 1 from in0_yes (b := 3) hd (by decide), bS, if_neg (by decide), show s_X8_in h1 (nI p) 0 6 = some 1 from in0_yes (b := 6) hp (by decide), bS, if_neg (by decide), e2.is, bS, a1, bS]
  rfl
theorem ledger_Mno (A : isM h M t k sz sv bl b) {v1 v2 v3 : Int32} (q : oB v1 4 ∨ oB v2 8 ∨ oB v3 2) : ∃ h', s_X8_ledger h M v1 v2 v3 = some (0, h') ∧ isM h' M 1 k sz sv bl b ∧ fr h h' M (M + 7) := by
  obtain ⟨h1, h2, e1, e2, e3, e4, e5, e6⟩ := no_M A 1
  refine ⟨h2, ?_, e4, e6⟩
  have no : s_X8_ledger_b41 h1 M = some (0, h2) := by rw [s_X8_ledger_b41, e5, bS, e3, bS]; rfl
  rw [s_X8_ledger, e1, bS, no]
  rcases below_c v1 4 (by decide) with ⟨w, hw, rfl⟩ | q1
  · rw [isWallet_yes hw, bS, if_neg (by decide)]
    rcases below_c v2 8 (by decide) with ⟨d, hd, rfl⟩ | q2
    · have q3 : oB v3 2 := (q.resolve_left (oB_no hw (by decide))).resolve_left (oB_no hd (by decide))
      rw [show s_X8_in h1 (nI d) 0 7 = some 1 from in0_yes (b := 7) hd (by decide), bS, if_neg (by decide), show s_X8_in h1 v3 0 1 = some 0 from in0_no (b := 1) q3 (by decide), bS, if_pos rfl]
    · rw [show s_X8_in h1 v2 0 7 = some 0 from in0_no (b := 7) q2 (by decide), bS, if_pos rfl]
  · rw [isWallet_no q1, bS, if_pos rfl]
theorem ledger_M (A : isM h M t k sz sv bl b) (hk : kok k) {w d p : Nat} (hw : w < 4) (hd : d < 8) (hp : p < 2) : ∃ h', s_X8_ledger h M (nI w) (nI d) (nI p) = some (aLedger k w d p, h') ∧ isM h' M 0 k sz sv bl b ∧ fr h h' M (M + 7) := by
  obtain ⟨f, g, V, R, S, W⟩ := A
  obtain ⟨h1, e1, e2, e3⟩ := R.th 0
  obtain ⟨pp, wl, rm, hs', Q⟩ := e2.Q
  refine ⟨h1, ?_, ⟨f, g, V, e2, S, W⟩, e3.wd (by omega) (by omega)⟩
  rw [s_X8_ledger, e1, bS, isWallet_yes hw, bS, if_neg (by decide), show s_X8_in h1 (nI d) 0 7 = some 1 from in0_yes (b := 7) hd (by decide), bS, if_neg (by decide), show s_X8_in h1 (nI p) 0 1 = some 1 from in0_yes (b := 1) hp (by decide), bS, if_neg (by decide), e2.is, bS, entry_M Q S hk.2.2.1 hw hd hp, bS]
  rfl
theorem count_Mno (A : isM h M t k sz sv bl b) {v1 : Int32} (q : oB v1 10) : ∃ h', s_X8_count h M v1 = some (0, h') ∧ isM h' M 1 k sz sv bl b ∧ fr h h' M (M + 7) := by
  obtain ⟨h1, h2, e1, e2, e3, e4, e5, e6⟩ := no_M A 1
  refine ⟨h2, ?_, e4, e6⟩
  rw [s_X8_count, e1, bS, show s_X8_in h1 v1 0 9 = some 0 from in0_no (b := 9) q (by decide), bS, if_pos rfl, e5, bS, e3, bS]
  rfl
theorem count_M (A : isM h M t k sz sv bl b) (hk : kok k) {p : Nat} (hp : p < 10) : ∃ h', s_X8_count h M (nI p) = some (aCount k sz p, h') ∧ isM h' M 0 k sz sv bl b ∧ fr h h' M (M + 7) := by
  have hn := hk.1
  obtain ⟨f, g, V, R, S, W⟩ := A
  obtain ⟨h1, e1, e2, e3⟩ := R.th 0
  obtain ⟨pp, wl, rm, hs', Q⟩ := e2.Q
  obtain ⟨h2, a1, a2, a3⟩ := counts_M Q S (by omega) hk.2.1 hp
  refine ⟨h2, ?_, ⟨f, g, V, e2.q5 a3 a2, S, W⟩, (e3.wd (by omega) (by omega)).tr (a3.wd (by omega) (by omega))⟩
  rw [s_X8_count, e1, bS, show s_X8_in h1 (nI p) 0 9 = some 1 from in0_yes (b := 9) hp (by decide), bS, if_neg (by decide), e2.is, bS, a1, bS]
  rfl
theorem leaky_Mp (A : isM h M t k sz sv bl b) (hk : kok k) : ∃ h', s_X8_leaky h M = some ((aLeak k 10).2, h') ∧ isM h' M 0 k sz sv bl b ∧ fr h h' M (M + 7) := by
  have hn := hk.1
  obtain ⟨f, g, V, R, S, W⟩ := A
  obtain ⟨h1, e1, e2, e3⟩ := R.th 0
  obtain ⟨pp, wl, rm, hs', Q⟩ := e2.Q
  obtain ⟨h2, a1, a2, a3⟩ := leaky_M Q S (by omega) hk.2.1
  refine ⟨h2, ?_, ⟨f, g, V, e2.q5 a3 a2, S, W⟩, (e3.wd (by omega) (by omega)).tr (a3.wd (by omega) (by omega))⟩
  rw [s_X8_leaky, e1, bS, e2.is, bS, a1, bS]
theorem leastCap_M (A : isM h M t k sz sv bl b) (hk : kok k) : ∃ h', s_X8_leastCap h M = some (kleast k, h') ∧ isM h' M 0 k sz sv bl b ∧ fr h h' M (M + 7) := by
  have hn := hk.1
  obtain ⟨f, g, V, R, S, W⟩ := A
  obtain ⟨h1, e1, e2, e3⟩ := R.th 0
  obtain ⟨pp, wl, rm, hs', Q⟩ := e2.Q
  obtain ⟨h2, a1, a2, a3⟩ := least_M Q S (by omega) hk.2.1
  refine ⟨h2, ?_, ⟨f, g, V, e2.q5 a3 a2, S, W⟩, (e3.wd (by omega) (by omega)).tr (a3.wd (by omega) (by omega))⟩
  rw [s_X8_leastCap, e1, bS, e2.is, bS, a1, bS]
end RP
