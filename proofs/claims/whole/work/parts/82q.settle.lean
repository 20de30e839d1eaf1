/-! PURE: the reference settles, sets and takes signs -/
section RQ
variable {M sz bl : Nat} {t sm ln p wl rm : Int32} {hs : Int64} {f g V b : Nat → Int32} {k : mK} {sv : Nat → mK}
theorem led_14 {w : Nat} {x y : Int32} {f0 : Nat → Int32} (hw : w < 4) : ∀ (d F : Nat) (h : mH) (f : Nat → Int32), h M = some (mOb M t sm ln p wl rm hs) → isA h (M + 1) 492 f → (∀ j, d + 1 < j → j < 16 → f (428 + 16 * w + j) = f0 (428 + 16 * w + j - 2)) → (∀ q, ¬ (428 + 16 * w + d + 1 < q ∧ q < 428 + 16 * w + 16) → f q = f0 q) → d < 15 → d < F →
    ∃ h' f', s_X8_entersLedger_L14 F h M (nI w) x y (nI (428 + 16 * w)) (nI (d + 1)) = some h' ∧ isA h' (M + 1) 492 f' ∧ (∀ j, 1 < j → j < 16 → f' (428 + 16 * w + j) = f0 (428 + 16 * w + j - 2)) ∧ f' (428 + 16 * w) = x ∧ f' (428 + 16 * w + 1) = y ∧ f' (424 + w) = f0 (424 + w) + (if 8 ≤ f0 (424 + w) then 0 else 1) ∧ (∀ q, ¬ (428 + 16 * w ≤ q ∧ q < 428 + 16 * w + 16) → q ≠ 424 + w → f' q = f0 q) ∧ fr h h' (M + 1) (M + 2) := by
  intro d
  induction d with
  | zero =>
    intro F h f H A h1 h2 hd hF
    obtain ⟨F, rfl⟩ : ∃ F', F = F' + 1 := ⟨F - 1, by omega⟩
    obtain ⟨ha, a1, a2, a3⟩ := iast_A A (k := 428 + 16 * w) (by omega) (by decide) x
    have Ha := a3.O H (by omega)
    obtain ⟨hb, b1, b2, b3⟩ := iast_A a2 (k := 428 + 16 * w + 1) (by omega) (by decide) y
    have Hb := b3.O Ha (by omega)
    obtain ⟨hc, c1, c2, c3⟩ := iast_A b2 (k := 424 + w) (by omega) (by decide) (f0 (424 + w) + (if 8 ≤ f0 (424 + w) then 0 else 1))
    have e4 : upd (upd f (428 + 16 * w) x) (428 + 16 * w + 1) y (424 + w) = f0 (424 + w) := by rw [pk_un (by omega), pk_un (by omega), h2 _ (by omega)]
    refine ⟨hc, _, ?_, c2, fun j j1 j2 => ?_, ?_, ?_, pk_us, fun q q1 q2 => ?_, (a3.tr b3).tr c3⟩
    · have tail : ∀ z : Int32, z = (if 8 ≤ f0 (424 + w) then 0 else 1) → s_X8_entersLedger_b97 hb (M + 1) (nI (424 + w)) (f0 (424 + w)) z = some hc := by
        intro z hz
        rw [s_X8_entersLedger_b97, hz, c1, bS]
      rw [s_X8_entersLedger_L14, if_pos (show nI (0 + 1) < 2 by decide), gr_O H (k := 1) rfl, bS, a1, bS, gr_O Ha (k := 1) rfl, bS, show nI (428 + 16 * w) + 1 = nI (428 + 16 * w + 1) from nI_1 _, b1, bS, gr_O Hb (k := 1) rfl, bS, show (424 : Int32) = nI 424 from rfl, nI_add, iald_A b2 (show 424 + w < 492 by omega) (by decide), e4, bS, bS, iald_A b2 (show 424 + w < 492 by omega) (by decide), e4, bS]
      by_cases c : 8 ≤ f0 (424 + w)
      · rw [if_pos c]; exact tail 0 (if_pos c).symm
      · rw [if_neg c]; exact tail 1 (if_neg c).symm
    · rw [pk_un (by omega), pk_un (by omega), pk_un (by omega), h1 j (by omega) j2]
    · rw [pk_un (by omega), pk_un (by omega), pk_us]
    · rw [pk_un (by omega), pk_us]
    · rw [pk_un q2, pk_un (by omega), pk_un (by omega), h2 q (by omega)]
  | succ d ih =>
    intro F h f H A h1 h2 hd hF
    obtain ⟨F, rfl⟩ : ∃ F', F = F' + 1 := ⟨F - 1, by omega⟩
    have e5 : nI (d + 1 + 1) + (-1) = nI (d + 1) := (Int32.sub_eq_add_neg _ _).symm.trans (nI_pred (d + 1))
    obtain ⟨ha, a1, a2, a3⟩ := iast_A A (k := 428 + 16 * w + (d + 1 + 1)) (by omega) (by decide) (f (428 + 16 * w + (d + 1 + 1) - 2))
    obtain ⟨hb, f', g1, g2, g3, g4, g5, g6, g7, g8⟩ := ih F ha _ (a3.O H (by omega)) a2 (fun j j1 j2 => by
      by_cases q : j = d + 1 + 1
      · subst q
        rw [pk_us, h2 _ (by omega)]
      · rw [pk_un (by omega), h1 j (by omega) j2]) (fun q q1 => by rw [pk_un (by omega), h2 q (by omega)]) (by omega) (by omega)
    refine ⟨hb, f', ?_, g2, g3, g4, g5, g6, g7, a3.tr g8⟩
    rw [s_X8_entersLedger_L14, if_neg (show ¬ nI (d + 1 + 1) < 2 from nI_nlt (b := 2) (by omega) (by omega)), gr_O H (k := 1) rfl, bS, bS, nI_add, show nI (428 + 16 * w + (d + 1 + 1)) - 2 = nI (428 + 16 * w + (d + 1 + 1) - 2) from nI_sub (b := 2) (by omega), iald_A A (show 428 + 16 * w + (d + 1 + 1) - 2 < 492 by omega) (by decide), bS, a1, bS, e5, g1]
theorem kok_charge {w j : Nat} {c : Int32} (hk : kok k) : kok (kcharge k w j c) := by
  refine ⟨hk.1, hk.2.1, fun w' hw' => ?_, hk.2.2.2⟩
  show (if w' = w then min (kln k w + 1) 8 else kln k w') ≤ 8
  have := hk.2.2.1 w' hw'
  split <;> omega
theorem kok_st {j : Nat} (hk : kok k) : ∀ n, kok (kst k j n)
  | 0 => hk
  | n + 1 => kok_charge (kok_st hk n)
theorem kw_st {j : Nat} (n w i : Nat) : kw (kst k j n) w i = kw k w i := by
  obtain ⟨e1, e2, e3⟩ := kst_n k j n
  unfold kw
  rw [e1, e2, e3]
theorem led_ln {l : Nat} (h8 : l ≤ 8) : nI l + (if 8 ≤ nI l then 0 else 1) = nI (min (l + 1) 8) := by
  by_cases c : 8 ≤ l
  · have e : l = 8 := by omega
    subst e
    rw [if_pos (show (8 : Int32) ≤ nI 8 by decide)]; rfl
  · rw [if_neg (show ¬ (8 : Int32) ≤ nI l from nI_ge (b := 8) (by omega) (by decide)), Nat.min_eq_left (by omega)]
    exact nI_1 l
/-- one wallet's week is settled -/
theorem settle_1 {w j : Nat} {f' : Nat → Int32} {c : Int32} (hw : w < 4) (hj : j < 4) (hk : kok k) (S : isS f k)
    (c1 : f' (376 + (w * 4 + j)) = c) (c2 : f' (408 + (w * 4 + j)) = kstl k (w * 4 + j) + 1) (c3 : f' 6 = krf k + (if 0 ≤ c - kchg k (w * 4 + j) then 0 else 1)) (c4 : f' 7 = krd k + (if 0 ≤ c - kchg k (w * 4 + j) then 0 else -(c - kchg k (w * 4 + j))))
    (c5 : ∀ i, 1 < i → i < 16 → f' (428 + 16 * w + i) = f (428 + 16 * w + i - 2)) (c6 : f' (428 + 16 * w) = nI j) (c7 : f' (428 + 16 * w + 1) = c - kchg k (w * 4 + j)) (c8 : f' (424 + w) = f (424 + w) + (if 8 ≤ f (424 + w) then 0 else 1))
    (c9 : ∀ q, q ≠ 376 + (w * 4 + j) → q ≠ 408 + (w * 4 + j) → q ≠ 6 → q ≠ 7 → ¬ (428 + 16 * w ≤ q ∧ q < 428 + 16 * w + 16) → q ≠ 424 + w → f' q = f q) : isS f' (kcharge k w j c) := by
  obtain ⟨s1, s2, s3, s4, ⟨t1, t2, t3⟩, s6, s7, s8, s9, s10⟩ := S
  have hn := hk.1
  refine ⟨fun i hi => ?_, ?_, ?_, ?_, ⟨?_, ?_, fun i hi j hj => ?_⟩, fun i hi => ?_, fun i hi => ?_, fun i hi => ?_, fun v hv => ?_, fun v hv b hb => ?_⟩
  · rw [c9 i (by omega) (by omega) (by omega) (by omega) (by omega) (by omega)]; exact s1 i hi
  · show f' 6 = if 0 ≤ c - kchg k (w * 4 + j) then krf k else krf k + 1
    rw [c3]
    by_cases q : 0 ≤ c - kchg k (w * 4 + j)
    · rw [if_pos q, if_pos q, Int32.add_zero]
    · rw [if_neg q, if_neg q]
  · show f' 7 = if 0 ≤ c - kchg k (w * 4 + j) then krd k else krd k - (c - kchg k (w * 4 + j))
    rw [c4]
    by_cases q : 0 ≤ c - kchg k (w * 4 + j)
    · rw [if_pos q, if_pos q, Int32.add_zero]
    · rw [if_neg q, if_neg q]
      exact (Int32.sub_eq_add_neg _ _).symm
  · rw [c9 8 (by omega) (by omega) (by omega) (by omega) (by omega) (by omega)]; exact s4
  · rw [c9 9 (by omega) (by omega) (by omega) (by omega) (by omega) (by omega)]; exact t1
  · rw [c9 3 (by omega) (by omega) (by omega) (by omega) (by omega) (by omega)]; exact t2
  · have hi' : i < kn k := hi
    rw [c9 _ (by omega) (by omega) (by omega) (by omega) (by omega) (by omega)]; exact t3 i hi' j hj
  · show f' (376 + i) = upd (kchg k) (w * 4 + j) c i
    by_cases q : i = w * 4 + j
    · subst q; rw [pk_us, c1]
    · rw [pk_un q, c9 _ (by omega) (by omega) (by omega) (by omega) (by omega) (by omega)]; exact s6 i hi
  · rw [c9 _ (by omega) (by omega) (by omega) (by omega) (by omega) (by omega)]; exact s7 i hi
  · show f' (408 + i) = upd (kstl k) (w * 4 + j) (kstl k (w * 4 + j) + 1) i
    by_cases q : i = w * 4 + j
    · subst q; rw [pk_us, c2]
    · rw [pk_un q, c9 _ (by omega) (by omega) (by omega) (by omega) (by omega) (by omega)]; exact s8 i hi
  · show f' (424 + v) = nI (if v = w then min (kln k w + 1) 8 else kln k v)
    by_cases q : v = w
    · subst q
      rw [if_pos rfl, c8, s9 v hv, led_ln (hk.2.2.1 v hv)]
    · rw [if_neg q, c9 _ (by omega) (by omega) (by omega) (by omega) (by omega) (by omega)]; exact s9 v hv
  · have hb' : b < (if v = w then min (kln k w + 1) 8 else kln k v) := hb
    show f' _ = lcons w (nI j) (klw k) v b ∧ f' _ = lcons w (c - kchg k (w * 4 + j)) (kls k) v b
    have hv8 := hk.2.2.1 v hv
    by_cases q : v = w
    · subst q
      rw [if_pos rfl] at hb'
      match b, hb' with
      | 0, _ =>
        show f' (428 + 16 * v + 2 * 0) = (if v = v then nI j else _) ∧ f' (428 + 16 * v + 2 * 0 + 1) = (if v = v then c - kchg k (v * 4 + j) else _)
        rw [if_pos rfl, if_pos rfl]
        exact ⟨c6, c7⟩
      | b + 1, hb' =>
        show f' (428 + 16 * v + 2 * (b + 1)) = (if v = v then klw k v b else _) ∧ f' (428 + 16 * v + 2 * (b + 1) + 1) = (if v = v then kls k v b else _)
        obtain ⟨u1, u2⟩ := s10 v hv b (by omega)
        rw [if_pos rfl, if_pos rfl, show 428 + 16 * v + 2 * (b + 1) = 428 + 16 * v + (2 * b + 2) by omega, c5 _ (by omega) (by omega), show 428 + 16 * v + (2 * b + 2) + 1 = 428 + 16 * v + (2 * b + 3) by omega, c5 _ (by omega) (by omega)]
        exact ⟨u1, u2⟩
    · rw [if_neg q] at hb'
      obtain ⟨u1, u2⟩ := s10 v hv b hb'
      have l1 : lcons w (nI j) (klw k) v b = klw k v b := if_neg q
      have l2 : lcons w (c - kchg k (w * 4 + j)) (kls k) v b = kls k v b := if_neg q
      rw [l1, l2, c9 _ (by omega) (by omega) (by omega) (by omega) (by omega) (by omega), c9 _ (by omega) (by omega) (by omega) (by omega) (by omega) (by omega)]
      exact ⟨u1, u2⟩
theorem settle_b {k28 : mH → Nat → Int32 → Int32 → Int32 → Option (Int32 × mH)} {h : mH} {w j : Nat} {c a : Int32} (hw : w < 4) (hj : j < 4) (hk : kok k) (S : isS f k) (A : isR h M t sm ln f g V b) : ∃ h' f', isR h' M t sm ln f' g V b ∧ isS f' (kcharge k w j c) ∧ fr h h' (M + 1) (M + 2) ∧
    ((m_gr h 6 M 1).bind fun x47 => (m_iald h x47 (376 + ((4 * nI w) + nI j))).bind fun x56 => (m_gr h 6 M 1).bind fun x61 => (m_iald h x61 (376 + ((4 * nI w) + nI j))).bind fun x71 => (m_iast h x61 (376 + ((4 * nI w) + nI j)) (x71 + (c - x56))).bind fun h75 => (m_gr h75 6 M 1).bind fun x77 => (m_iald h75 x77 (408 + ((4 * nI w) + nI j))).bind fun x87 => (m_iast h75 x77 (408 + ((4 * nI w) + nI j)) (x87 + 1)).bind fun h90 => (m_gr h90 6 M 1).bind fun x92 => (m_iald h90 x92 6).bind fun x98 => if 0 ≤ (c - x56) then (s_X8_settle_b109 k28 h90 M (nI j) a (nI w) (c - x56) x92 6 x98 0) else (s_X8_settle_b109 k28 h90 M (nI j) a (nI w) (c - x56) x92 6 x98 1)) = k28 h' M (nI j) (a + (c - kchg k (w * 4 + j))) (nI (w + 1)) := by
  have hc : w * 4 + j < 16 := by omega
  have ev : ∀ q : Nat, nI q + (4 * nI w + nI j) = nI (q + (w * 4 + j)) := fun q => by rw [show (4 : Int32) = nI 4 from rfl, nI_mul, nI_add, nI_add, Nat.mul_comm]
  obtain ⟨p, wl, rm, hs, a0⟩ := A.1
  have a1 := A.2.1
  have S' := S
  obtain ⟨s1, s2, s3, s4, ⟨t1, t2, t3⟩, s6, s7, s8, s9, s10⟩ := S'
  obtain ⟨h1, b1, b2, b3⟩ := iast_A a1 (k := 376 + (w * 4 + j)) (by omega) (by decide) (kchg k (w * 4 + j) + (c - kchg k (w * 4 + j)))
  have H1 := b3.O a0 (by omega)
  obtain ⟨h2, c1, c2, c3⟩ := iast_A b2 (k := 408 + (w * 4 + j)) (by omega) (by decide) (kstl k (w * 4 + j) + 1)
  have H2 := c3.O H1 (by omega)
  have e8 : upd f (376 + (w * 4 + j)) (kchg k (w * 4 + j) + (c - kchg k (w * 4 + j))) (408 + (w * 4 + j)) = kstl k (w * 4 + j) := by rw [pk_un (by omega), s8 _ hc]
  obtain ⟨h3, d1, d2, d3⟩ := iast_A c2 (k := 6) (by omega) (by decide) (krf k + (if 0 ≤ c - kchg k (w * 4 + j) then 0 else 1))
  have H3 := d3.O H2 (by omega)
  have e6 : upd (upd f (376 + (w * 4 + j)) (kchg k (w * 4 + j) + (c - kchg k (w * 4 + j)))) (408 + (w * 4 + j)) (kstl k (w * 4 + j) + 1) 6 = krf k := by rw [pk_un (by omega), pk_un (by omega), s2]
  obtain ⟨h4, j1, j2, j3⟩ := iast_A d2 (k := 7) (by omega) (by decide) (krd k + (if 0 ≤ c - kchg k (w * 4 + j) then 0 else -(c - kchg k (w * 4 + j))))
  have H4 := j3.O H3 (by omega)
  have e7 : upd (upd (upd f (376 + (w * 4 + j)) (kchg k (w * 4 + j) + (c - kchg k (w * 4 + j)))) (408 + (w * 4 + j)) (kstl k (w * 4 + j) + 1)) 6 (krf k + (if 0 ≤ c - kchg k (w * 4 + j) then 0 else 1)) 7 = krd k := by rw [pk_un (by omega), pk_un (by omega), pk_un (by omega), s3]
  obtain ⟨h5, f', l1, l2, l3, l4, l5, l6, l7, l8⟩ := led_14 (x := nI j) (y := c - kchg k (w * 4 + j)) hw 14 m_F h4 _ H4 j2 (fun q q1 q2 => absurd q1 (by omega)) (fun q _ => rfl) (by decide) (by unfold m_F; decide)
  have F4 : fr h h4 (M + 1) (M + 2) := ((b3.tr c3).tr d3).tr j3
  have R4 := A.m1 F4 j2
  refine ⟨h5, f', R4.m1 l8 l2, settle_1 hw hj hk S ?_ ?_ ?_ ?_ (fun i i1 i2 => ?_) l4 l5 ?_ (fun q q1 q2 q3 q4 q5 q6 => ?_), F4.tr l8, ?_⟩
  · rw [l7 _ (by omega) (by omega), pk_un (by omega), pk_un (by omega), pk_un (by omega), pk_us, Int32.add_comm, Int32.sub_add_cancel]
  · rw [l7 _ (by omega) (by omega), pk_un (by omega), pk_un (by omega), pk_us]
  · rw [l7 _ (by omega) (by omega), pk_un (by omega), pk_us]
  · rw [l7 _ (by omega) (by omega), pk_us]
  · rw [l3 i i1 i2, pk_un (by omega), pk_un (by omega), pk_un (by omega), pk_un (by omega)]
  · rw [l6, pk_un (by omega), pk_un (by omega), pk_un (by omega), pk_un (by omega)]
  · rw [l7 q q5 q6, pk_un q4, pk_un q3, pk_un q2, pk_un q1]
  · have tail : ∀ y : Int32, y = (if 0 ≤ c - kchg k (w * 4 + j) then 0 else -(c - kchg k (w * 4 + j))) → s_X8_settle_b131 k28 h3 M (nI j) a (nI w) (c - kchg k (w * 4 + j)) (M + 1) 7 (krd k) y = k28 h5 M (nI j) (a + (c - kchg k (w * 4 + j))) (nI (w + 1)) := by
      intro y hy
      rw [s_X8_settle_b131, hy, show (7 : Int32) = nI 7 from rfl, j1, bS, is_O H4, bS, s_X8_entersLedger, show (428 : Int32) + 16 * nI w = nI (428 + 16 * w) from by rw [show (428 : Int32) = nI 428 from rfl, show (16 : Int32) = nI 16 from rfl, nI_mul, nI_add]]
      refine (congrArg (fun o => Option.bind o _) l1).trans ?_
      rw [bS, nI_1]
    have t109 : ∀ x : Int32, x = (if 0 ≤ c - kchg k (w * 4 + j) then 0 else 1) → s_X8_settle_b109 k28 h2 M (nI j) a (nI w) (c - kchg k (w * 4 + j)) (M + 1) 6 (krf k) x = k28 h5 M (nI j) (a + (c - kchg k (w * 4 + j))) (nI (w + 1)) := by
      intro x hx
      rw [s_X8_settle_b109, hx, show (6 : Int32) = nI 6 from rfl, d1, bS, gr_O H3 (k := 1) rfl, bS, show (7 : Int32) = nI 7 from rfl, iald_A d2 (show 7 < 492 by decide) (by decide), bS, e7]
      by_cases q : 0 ≤ c - kchg k (w * 4 + j)
      · rw [if_pos q]; exact tail 0 (if_pos q).symm
      · rw [if_neg q]; exact tail _ (if_neg q).symm
    rw [gr_O a0 (k := 1) rfl, bS, show (376 : Int32) = nI 376 from rfl, show (408 : Int32) = nI 408 from rfl, ev, ev, iald_A a1 (show 376 + (w * 4 + j) < 492 by omega) (by decide), s6 _ hc, bS, bS, iald_A a1 (show 376 + (w * 4 + j) < 492 by omega) (by decide), s6 _ hc, bS, b1, bS, gr_O H1 (k := 1) rfl, bS, iald_A b2 (show 408 + (w * 4 + j) < 492 by omega) (by decide), e8, bS, c1, bS, gr_O H2 (k := 1) rfl, bS, show (6 : Int32) = nI 6 from rfl, iald_A c2 (show 6 < 492 by decide) (by decide), e6, bS]
    by_cases q : 0 ≤ c - kchg k (w * 4 + j)
    · rw [if_pos q]; exact t109 0 (if_pos q).symm
    · rw [if_neg q]; exact t109 1 (if_neg q).symm
theorem settle_ML {j : Nat} (hj : j < 4) (hk : kok k) : ∀ (d n F : Nat) (h : mH) (f : Nat → Int32), isR h M t sm ln f g V b → isS f (kst k j n) → n + d = 4 → d < F → ∃ h' f', s_X8_settle_L28 F h M (nI j) (aSet k j n) (nI n) = some (aSet k j 4 + 100000, h') ∧ isR h' M t sm ln f' g V b ∧ isS f' (kst k j 4) ∧ fr h h' M (M + 7) := by
  intro d
  induction d with
  | zero =>
    intro n F h f A S hi hF
    obtain ⟨F, rfl⟩ : ∃ F', F = F' + 1 := ⟨F - 1, by omega⟩
    obtain rfl : n = 4 := by omega
    exact ⟨h, f, by rw [s_X8_settle_L28, if_pos (show (4 : Int32) ≤ nI 4 by decide)], A, S, fr.rf⟩
  | succ d ih =>
    intro n F h f A S hi hF
    obtain ⟨F, rfl⟩ : ∃ F', F = F' + 1 := ⟨F - 1, by omega⟩
    have hn : n < 4 := by omega
    have ko := kok_st (j := j) hk n
    have kon := ko.1
    obtain ⟨h1, e1, e2, e3⟩ := costs_R A S (by omega) ko.2.1 hn hj
    rw [kw_st] at e1
    obtain ⟨h2, f2, g1, g2, g3, g4⟩ := settle_b (k28 := s_X8_settle_L28 F) (c := kw k n j) (a := aSet k j n) hn hj ko S e2
    obtain ⟨h3, f3, j1, j2, j3, j4⟩ := ih (n + 1) F h2 f2 g1 g2 (by omega) (by omega)
    refine ⟨h3, f3, ?_, j2, j3, ((e3.wd (by omega) (by omega)).tr (g3.wd (by omega) (by omega))).tr j4⟩
    rw [s_X8_settle_L28, if_neg (show ¬ (4 : Int32) ≤ nI n from nI_ge (b := 4) hn (by decide)), A.is, bS, e1, bS]
    exact g4.trans j1
variable {h : mH}
theorem settle_Mno (A : isM h M t k sz sv bl b) {v : Int32} (q : oB v 4) : ∃ h', s_X8_settle h M v = some (0, h') ∧ isM h' M 1 k sz sv bl b ∧ fr h h' M (M + 7) := by
  obtain ⟨h1, h2, e1, e2, e3, e4, e5, e6⟩ := no_M A 1
  refine ⟨h2, ?_, e4, e6⟩
  rw [s_X8_settle, e1, bS, show s_X8_in h1 v 0 3 = some 0 from in0_no (b := 3) q (by decide), bS, if_pos rfl, e5, bS, e3, bS]
theorem settle_M (A : isM h M t k sz sv bl b) (hk : kok k) (hsv : ∀ j, j < sz → kok (sv j)) (hz : sz ≤ 6) {j : Nat} (hj : j < 4) : ∃ h', s_X8_settle h M (nI j) = some (aSet k j 4 + 100000, h') ∧ isM h' M 0 (kst k j 4) (min (sz + 1) 6) (kpush sv k) bl b ∧ fr h h' M (M + 7) := by
  obtain ⟨f, g, V, R, S, W⟩ := A
  obtain ⟨h1, e1, e2, e3⟩ := R.th 0
  obtain ⟨h2, V', g1, g2, g3, g4⟩ := saves_M e2 S hk W hsv hz
  obtain ⟨h3, f', j1, j2, j3, j4⟩ := settle_ML hj hk 4 0 m_F h2 f g2 S (by decide) (by unfold m_F; decide)
  refine ⟨h3, ?_, ⟨f', g, V', j2, j3, g3⟩, ((e3.wd (by omega) (by omega)).tr (g4.wd (by omega) (by omega))).tr j4⟩
  rw [s_X8_settle, e1, bS, show s_X8_in h1 (nI j) 0 3 = some 1 from in0_yes (b := 3) hj (by decide), bS, if_neg (by decide), e2.is, bS, g1, bS]
  exact j1
end RQ
