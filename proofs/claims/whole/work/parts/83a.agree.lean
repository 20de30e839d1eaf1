/-! PURE: class and reference agree, call by call -/
section LA
def iI (st : m_T) (h : mH) (X b L : Nat) (xs : Nat → Int32) (k : mK) (sz : Nat) (sv : Nat → mK) (bl : Nat) (bf : Nat → Int32) : Prop := isW h X k sz sv bl bf ∧ (∃ t, isM h (X + 87) t k sz sv bl bf) ∧ h b = some (mC L xs) ∧ (∀ j, j < 4 → ∃ f, h (st.2 j) = some (mC (m_len j) f) ∧ ∀ i, i < m_len j → f i = m_tab j i) ∧ (∃ g, h (X + 94) = some (mL 1 g)) ∧ kok k ∧ (∀ j, j < sz → kok (sv j)) ∧ sz ≤ 6 ∧ (∃ bc, isB bl bf bc) ∧ b < X ∧ ∀ j, j < 4 → st.2 j < X
def iE (st : m_T) (h : mH) (X b L : Nat) (xs : Nat → Int32) : Prop := ∃ k sz sv bl bf, iI st h X b L xs k sz sv bl bf
def vK (k : mK) (sz : Nat) (sv : Nat → mK) (bl : Nat) (bf : Nat → Int32) : Prop := kok k ∧ (∀ j, j < sz → kok (sv j)) ∧ sz ≤ 6 ∧ ∃ bc, isB bl bf bc
variable {st : m_T} {h : mH} {X b L : Nat} {xs : Nat → Int32} {k k' : mK} {sz sz' : Nat} {sv sv' : Nat → mK} {bl bl' : Nat} {bf bf' : Nat → Int32}
theorem iI.go (I : iI st h X b L xs k sz sv bl bf) {h1 h2 h3 : mH} {t : Int32} (F1 : fr h h1 X (X + 87)) (W : isW h1 X k' sz' sv' bl' bf') (F2 : fr h1 h2 (X + 94) (X + 95)) (G : ∃ g, h2 (X + 94) = some (mL 1 g)) (F3 : fr h2 h3 (X + 87) (X + 87 + 7)) (A : isM h3 (X + 87) t k' sz' sv' bl' bf') (V : vK k' sz' sv' bl' bf') : iE st h3 X b L xs := by
  obtain ⟨-, -, i3, i4, -, -, -, -, -, i10, i11⟩ := I
  have far : ∀ q, q < X → h3 q = h q := fun q hq => by rw [F3 q (by omega), F2 q (by omega), F1 q (by omega)]
  refine ⟨k', sz', sv', bl', bf', (W.fr F2 (by omega)).fr F3 (by omega), ⟨t, A⟩, by rw [far b i10]; exact i3, fun j hj => ?_, ?_, V.1, V.2.1, V.2.2.1, V.2.2.2, i10, i11⟩
  · rw [far _ (i11 j hj)]; exact i4 j hj
  · obtain ⟨g, G⟩ := G
    exact ⟨g, (F3 _ (by omega)).trans G⟩
theorem isM.is (A : isM h X 0 k sz sv bl bf) : m_is h 6 X = some () := by
  obtain ⟨f, g, V, R, -⟩ := A
  exact R.is
theorem isM.it {t : Int32} (A : isM h X t k sz sv bl bf) : m_is h 6 X = some () := by
  obtain ⟨f, g, V, R, -⟩ := A
  exact R.is
theorem last_ok {a : Nat} {g : Nat → Int64} (H : h a = some (mL 1 g)) (v : Int64) : ∃ h', m_last h a 0 v = some h' ∧ m_lald h' a 0 = some v ∧ (∃ g, h' a = some (mL 1 g)) ∧ fr h h' a (a + 1) := by
  refine ⟨m_up h a (mL 1 (vp_updL g 0 v)), ?_, ?_, ⟨_, m_up_same _ _ _⟩, fr.up⟩
  · simp only [m_last, H]
    rfl
  · simp only [m_lald, m_up_same]
    rfl
def agr (st : m_T) (X b L : Nat) (xs : Nat → Int32) (o1 : Option (Int32 × mH)) (o2 : mH → Option (Int32 × mH)) : Prop := ∃ x h1 y h2, o1 = some (x, h1) ∧ h1 b = some (mC L xs) ∧ m_is h1 6 (X + 87) = some () ∧ o2 h1 = some (y, h2) ∧ m_is h2 6 (X + 87) = some () ∧ s_X8_thrown h2 (X + 87) = some x ∧ (x = 0 → m_lald h2 (X + 94) 0 = some y.toInt64) ∧ iE st h2 X b L xs
theorem agr_yes (I : iI st h X b L xs k sz sv bl bf) {o1 : Option (Int32 × mH)} {o2 : mH → Option (Int32 × mH)} {h1 : mH} {v : Int32} (F1 : fr h h1 X (X + 87)) (W : isW h1 X k' sz' sv' bl' bf') (e1 : ∀ h2, m_last h1 (X + 94) 0 v.toInt64 = some h2 → o1 = some (0, h2)) (hM : ∀ (h2 : mH) (t : Int32), isM h2 (X + 87) t k sz sv bl bf → ∃ h3, o2 h2 = some (v, h3) ∧ isM h3 (X + 87) 0 k' sz' sv' bl' bf' ∧ fr h2 h3 (X + 87) (X + 87 + 7)) (V : vK k' sz' sv' bl' bf') : agr st X b L xs o1 o2 := by
  obtain ⟨-, ⟨t, A⟩, i3, -, ⟨g, G⟩, -, -, -, -, i10, -⟩ := id I
  obtain ⟨h2, l1, l2, l3, l4⟩ := last_ok ((F1 _ (by omega)).trans G) v.toInt64
  have A2 := (A.ff F1 (by omega)).ff l4 (by omega)
  obtain ⟨h3, m1, m2, m3⟩ := hM h2 t A2
  refine ⟨0, h2, v, h3, e1 h2 l1, ?_, A2.it, m1, m2.it, thrown_M m2, fun _ => ?_, I.go F1 W l4 l3 m3 m2 V⟩
  · rw [l4 b (by omega), F1 b (by omega)]; exact i3
  · have e : h3 (X + 94) = h2 (X + 94) := m3 _ (by omega)
    rw [← l2]
    simp only [m_lald, e]
theorem agr_no (I : iI st h X b L xs k sz sv bl bf) {o1 : Option (Int32 × mH)} {o2 : mH → Option (Int32 × mH)} {h1 : mH} {c : Int32} (F1 : fr h h1 X (X + 87)) (W : isW h1 X k sz sv bl bf) (hc : c ≠ 0) (e1 : o1 = some (c, h1)) (hM : ∀ (h2 : mH) (t : Int32), isM h2 (X + 87) t k sz sv bl bf → ∃ h3, o2 h2 = some (0, h3) ∧ isM h3 (X + 87) c k sz sv bl bf ∧ fr h2 h3 (X + 87) (X + 87 + 7)) : agr st X b L xs o1 o2 := by
  obtain ⟨-, ⟨t, A⟩, i3, -, ⟨g, G⟩, v1, v2, v3, v4, i10, -⟩ := id I
  have A2 := A.ff F1 (by omega)
  obtain ⟨h3, m1, m2, m3⟩ := hM h1 t A2
  refine ⟨c, h1, 0, h3, e1, ?_, A2.it, m1, m2.it, thrown_M m2, fun z => absurd z hc, I.go F1 W fr.rf ⟨g, (F1 _ (by omega)).trans G⟩ m3 m2 ⟨v1, v2, v3, v4⟩⟩
  rw [F1 b (by omega)]; exact i3
theorem push_v (I : iI st h X b L xs k sz sv bl bf) (hk : kok k') : vK k' (min (sz + 1) 6) (kpush sv k) bl bf := by
  obtain ⟨-, -, -, -, -, v1, v2, v3, v4, -, -⟩ := I
  exact ⟨hk, kpush_ok v1 v2, by omega, v4⟩
theorem agr_tap (I : iI st h X b L xs k sz sv bl bf) (v1 v2 v3 v4 : Int32) {i : Nat} (hi : i < 2) : agr st X b L xs (s_L_tap h X v1 v2 v3 v4 (nI i) (X + 94)) (fun h1 => s_X8_tap h1 (X + 87) v1 v2 v3 v4 (nI i)) := by
  obtain ⟨W, -, -, -, -, hk, hsv, hz, hB, -, -⟩ := id I
  have no : ((oB v1 4 ∨ oB v2 28) ∨ oB v3 1440 ∨ oB v4 10) → agr st X b L xs (s_L_tap h X v1 v2 v3 v4 (nI i) (X + 94)) (fun h1 => s_X8_tap h1 (X + 87) v1 v2 v3 v4 (nI i)) := fun q =>
    agr_no I fr.rf W (c := 1) (by decide) (by rw [s_L_tap, is_O W.1, bS, tap_no q, bS]; exact if_pos rfl) fun h2 t A => tap_Mno A q
  rcases wd_c v1 v2 with ⟨w, d, hw, hd, rfl, rfl⟩ | q1
  · rcases ms_c v3 v4 with ⟨m, s, hm, hs, rfl, rfl⟩ | q2
    · have hn := hk.1
      by_cases hn6 : kn k = 60
      · exact agr_no I fr.rf W (c := 2) (by decide) (by rw [s_L_tap, is_O W.1, bS, tap_full W hw hd hm hs hn6, bS]; exact (if_neg (by decide)).trans (if_pos rfl)) fun h2 t A => tap_Mfull A hw hd hm hs hn6
      · obtain ⟨h1, e1, e2, e3⟩ := tap_W W hk.2.1 hw hd hm hs hi (by omega)
        have vt : vT (mkT w d m s i 0) := ⟨hw, hd, hm, hs, hi, show 0 < 2 by decide⟩
        exact agr_yes I e3 e2 (fun h2 e => by
          rw [s_L_tap, is_O W.1, bS, e1, bS]
          show ((m_last h1 (X + 94) 0 _).bind _) = _
          rw [e, bS]) (fun h2 t A => tap_M A hk hsv hz hw hd hm hs hi (by omega)) (push_v I (kok_ins hk (by omega) vt))
    · exact no (Or.inr q2)
  · exact no (Or.inl q1)
theorem kok_del (hk : kok k) {i : Nat} (hi : i < kn k) : kok (kdel k i) := ⟨by have := hk.1; show kn k - 1 ≤ 60; omega, vTs.tdel (n := kn k - 1) (by rw [show kn k - 1 + 1 = kn k by omega]; exact hk.2.1) (by omega), hk.2.2⟩
theorem agr_remove (I : iI st h X b L xs k sz sv bl bf) (v : Int32) : agr st X b L xs (s_L_remove h X v (X + 94)) (fun h1 => s_X8_remove h1 (X + 87) v) := by
  obtain ⟨W, -, -, -, -, hk, hsv, hz, hB, -, -⟩ := id I
  have hn := hk.1
  rcases below_c v (kn k) (by omega) with ⟨i, hi, rfl⟩ | q
  · obtain ⟨h1, e1, e2, e3⟩ := remove_W W hn hk.2.1 hi
    exact agr_yes I e3 e2 (fun h2 e => by
      rw [s_L_remove, is_O W.1, bS, e1, bS]
      show ((m_last h1 (X + 94) 0 _).bind _) = _
      rw [e, bS]) (fun h2 t A => remove_M A hk hsv hz hi) (push_v I (kok_del hk hi))
  · exact agr_no I fr.rf W (c := 1) (by decide) (by rw [s_L_remove, is_O W.1, bS, remove_no W q, bS]; exact if_pos rfl) fun h2 t A => remove_Mno A hn q
theorem kok_claim (hk : kok k) {i m s : Nat} (hi : i < kn k) (hm : m < 1440) (hs : s < 10) : kok (if aRef k i m s = 0 then kclaim k i m s else krefuse k) := by
  by_cases q : aRef k i m s = 0
  · have hn' : kn k < 60 := by
      apply Classical.byContradiction
      intro z
      unfold aRef at q
      revert q
      repeat' split
      all_goals first
        | (intro q; exact absurd q (by decide))
        | (intro q; omega)
    have vm : vT (mis k i m s) := mis_v (hk.2.1 i hi) hm hs
    rw [if_pos q]
    exact ⟨show kn k + 1 ≤ 60 by omega, hk.2.1.tins vm (ip_le _), hk.2.2⟩
  · rw [if_neg q]
    exact hk
theorem agr_claim (I : iI st h X b L xs k sz sv bl bf) (v1 v2 v3 : Int32) : agr st X b L xs (s_L_claim h X v1 v2 v3 (X + 94)) (fun h1 => s_X8_claim h1 (X + 87) v1 v2 v3) := by
  obtain ⟨W, -, -, -, -, hk, hsv, hz, hB, -, -⟩ := id I
  have hn := hk.1
  rcases ms_c v2 v3 with ⟨m, s, hm, hs, rfl, rfl⟩ | q2
  · rcases below_c v1 (kn k) (by omega) with ⟨i, hi, rfl⟩ | q
    · obtain ⟨h1, e1, e2, e3⟩ := claim_W W hn hk.2.1 hi hm hs
      exact agr_yes I e3 e2 (fun h2 e => by
        rw [s_L_claim, is_O W.1, bS, e1, bS]
        show ((m_last h1 (X + 94) 0 _).bind _) = _
        rw [e, bS]) (fun h2 t A => claim_M A hk hsv hz hi hm hs) (push_v I (kok_claim hk hi hm hs))
    · obtain ⟨h1, e1, e2, e3⟩ := claim_refused W hm hs (refusal_no W q) W fr.rf (by decide)
      exact agr_yes I e3 e2 (fun h2 e => by
        rw [s_L_claim, is_O W.1, bS, e1, bS]
        show ((m_last h1 (X + 94) 0 _).bind _) = _
        rw [e, bS]) (fun h2 t A => claim_M1 A hk hsv hz hm hs q) (push_v I (show kok (krefuse k) from hk))
  · exact agr_no I fr.rf W (c := 1) (by decide) (by rw [s_L_claim, is_O W.1, bS, claim_no q2, bS]; exact if_pos rfl) fun h2 t A => claim_Mno A q2
theorem agr_settle (I : iI st h X b L xs k sz sv bl bf) (v : Int32) : agr st X b L xs (s_L_settle h X v (X + 94)) (fun h1 => s_X8_settle h1 (X + 87) v) := by
  obtain ⟨W, -, -, -, -, hk, hsv, hz, hB, -, -⟩ := id I
  rcases below_c v 4 (by decide) with ⟨j, hj, rfl⟩ | q
  · obtain ⟨h1, e1, e2, e3⟩ := settle_W W hj
    exact agr_yes I e3 e2 (fun h2 e => by
      rw [s_L_settle, is_O W.1, bS, e1, bS]
      show ((m_last h1 (X + 94) 0 _).bind _) = _
      rw [e, bS]) (fun h2 t A => settle_M A hk hsv hz hj) (push_v I (kok_st hk 4))
  · exact agr_no I fr.rf W (c := 1) (by decide) (by rw [s_L_settle, is_O W.1, bS, settle_no q, bS]; exact if_pos rfl) fun h2 t A => settle_Mno A q
theorem lo_tab : ∀ i, i < 6 → m_tab 1 i = loS i := by decide
theorem hi_tab : ∀ i, i < 6 → m_tab 2 i = hiS i := by decide
theorem hi_nn : ∀ i, i < 6 → ∃ n, n < 10000 ∧ hiS i = nI n ∧ ((i < 3 → n ≤ 999) ∧ (i = 3 → n ≤ 1439)) := fun i hi => by
  match i, hi with
  | 0, _ => exact ⟨999, by decide, rfl, by decide, by decide⟩
  | 1, _ => exact ⟨999, by decide, rfl, by decide, by decide⟩
  | 2, _ => exact ⟨999, by decide, rfl, by decide, by decide⟩
  | 3, _ => exact ⟨1439, by decide, rfl, by decide, by decide⟩
  | 4, _ => exact ⟨9999, by decide, rfl, by decide, by decide⟩
  | 5, _ => exact ⟨9999, by decide, rfl, by decide, by decide⟩
theorem kok_set (hk : kok k) {i : Nat} {v : Int32} (hi : i < 6) (q1 : ¬ v < loS i) (q2 : ¬ hiS i < v) : kok (kset' k i v) := by
  obtain ⟨n, hn, en, n3, n4⟩ := hi_nn i hi
  have v0 : ¬ v < 0 := by
    intro z
    apply q1
    unfold loS
    by_cases c : i = 3
    · rw [if_pos c]; exact Int32.lt_of_lt_of_le z (by decide)
    · rw [if_neg c]; exact z
  obtain ⟨m, hm, rfl⟩ := nIof (v := v) (b := n + 1) (by omega) v0 (fun z => q2 (by rw [en]; exact Int32.lt_of_lt_of_le (nI_lt (by omega) (by omega)) z))
  obtain ⟨h1, h2, h3, h4, ⟨s3, b3, c3, e3⟩, h6⟩ := hk
  refine ⟨h1, h2, h3, fun j hj => ?_, ?_, fun j j1 j2 => ?_⟩
  · show ∃ n, n ≤ 999 ∧ upd (kset k) i (nI m) j = nI n
    by_cases c : j = i
    · subst c; exact ⟨m, by have := n3 hj; omega, pk_us⟩
    · rw [pk_un c]; exact h4 j hj
  · show ∃ n, 1 ≤ n ∧ n ≤ 1439 ∧ upd (kset k) i (nI m) 3 = nI n
    by_cases c : 3 = i
    · subst c
      refine ⟨m, ?_, by have := n4 rfl; omega, pk_us⟩
      apply Classical.byContradiction
      intro z
      obtain rfl : m = 0 := by omega
      exact q1 (by decide)
    · rw [pk_un c]; exact ⟨s3, b3, c3, e3⟩
  · show ∃ n, n ≤ 9999 ∧ upd (kset k) i (nI m) j = nI n
    by_cases c : j = i
    · subst c; exact ⟨m, by omega, pk_us⟩
    · rw [pk_un c]; exact h6 j j1 j2
theorem agr_set (I : iI st h X b L xs k sz sv bl bf) (v1 v2 : Int32) : agr st X b L xs (s_L_set st h X v1 v2 (X + 94)) (fun h1 => s_X8_set h1 (X + 87) v1 v2) := by
  obtain ⟨W, -, -, T, -, hk, hsv, hz, hB, -, -⟩ := id I
  have hn := hk.1
  have T1 : isT h (st.2 1) 6 (m_tab 1) := T 1 (by decide)
  have T2 : isT h (st.2 2) 6 (m_tab 2) := T 2 (by decide)
  rcases below_c v1 6 (by decide) with ⟨i, hi, rfl⟩ | q
  · by_cases c : v2 < loS i ∨ hiS i < v2
    · exact agr_no I fr.rf W (c := 2) (by decide) (by rw [s_L_set, is_O W.1, bS, set_no2 T1 T2 hi (by rw [lo_tab i hi, hi_tab i hi]; exact c.imp id Int32.not_le.mpr), bS]; exact (if_neg (by decide)).trans (if_pos rfl)) fun h2 t A => set_Mno2 A hi c
    · have q1 : ¬ v2 < loS i := fun z => c (Or.inl z)
      have q2 : ¬ hiS i < v2 := fun z => c (Or.inr z)
      obtain ⟨h1, e1, e2, e3⟩ := set_W T1 T2 W hn hk.2.1 hi (by rw [lo_tab i hi]; exact q1) (by rw [hi_tab i hi]; exact Int32.not_lt.mp q2)
      exact agr_yes I e3 e2 (fun h2 e => by
        rw [s_L_set, is_O W.1, bS, e1, bS]
        show ((m_last h1 (X + 94) 0 _).bind _) = _
        rw [e, bS]) (fun h2 t A => set_M A hk hsv hz hi q1 q2) (push_v I (kok_set hk hi q1 q2))
  · exact agr_no I fr.rf W (c := 1) (by decide) (by rw [s_L_set, is_O W.1, bS, set_no1 q, bS]; exact if_pos rfl) fun h2 t A => set_Mno1 A q
theorem agr_append (I : iI st h X b L xs k sz sv bl bf) (v : Int32) : agr st X b L xs (s_L_append h X v (X + 94)) (fun h1 => s_X8_append h1 (X + 87) v) := by
  obtain ⟨W, -, -, -, -, hk, hsv, hz, ⟨bc, hb, hB⟩, -, -⟩ := id I
  by_cases c : v < 33 ∨ 126 < v
  · exact agr_no I fr.rf W (c := 1) (by decide) (by rw [s_L_append, is_O W.1, bS, append_no1 (c.imp id Int32.not_le.mpr), bS]; exact if_pos rfl) fun h2 t A => append_Mno1 A c
  · have q1 : ¬ v < 33 := fun z => c (Or.inl z)
    have q2 : ¬ 126 < v := fun z => c (Or.inr z)
    by_cases hb6 : bl = 60
    · subst hb6
      exact agr_no I fr.rf W (c := 2) (by decide) (by rw [s_L_append, is_O W.1, bS, append_no2 W q1 (Int32.not_lt.mp q2), bS]; exact (if_neg (by decide)).trans (if_pos rfl)) fun h2 t A => append_Mno2 A q1 q2
    · obtain ⟨h1, e1, e2, e3⟩ := append_W W q1 (Int32.not_lt.mp q2) (by omega)
      have v0 : ¬ v < 0 := fun z => q1 (Int32.lt_of_lt_of_le z (by decide))
      obtain ⟨n, hn, rfl⟩ := nIof (v := v) (b := 127) (by decide) v0 (fun z => q2 (Int32.lt_of_lt_of_le (show (126 : Int32) < nI 127 by decide) z))
      exact agr_yes I e3 e2 (fun h2 e => by
        rw [s_L_append, is_O W.1, bS, e1, bS]
        show ((m_last h1 (X + 94) 0 _).bind _) = _
        rw [e, bS]) (fun h2 t A => append_M A q1 q2 (by omega)) ⟨hk, hsv, hz, fun j => if j = bl then n else bc j, by omega, fun j hj => by
          show upd bf bl (nI n) j = nI (if j = bl then n else bc j) ∧ (if j = bl then n else bc j) < 127
          by_cases z : j = bl
          · subst z; rw [pk_us, if_pos rfl]; exact ⟨rfl, hn⟩
          · rw [pk_un z, if_neg z]; exact hB j (by omega)⟩
theorem agr_load (I : iI st h X b L xs k sz sv bl bf) : agr st X b L xs (s_L_load h X (X + 94)) (fun h1 => s_X8_load h1 (X + 87)) := by
  obtain ⟨W, ⟨t0, A0⟩, -, -, -, hk, hsv, hz, ⟨bc, hB⟩, -, -⟩ := id I
  have hn := hk.1
  by_cases q : ∃ s, (drun bc bl 0 s0D).2 = some s ∧ s.1 = 7
  · obtain ⟨s, hr, h7⟩ := q
    obtain ⟨h1, e1, e2, e3⟩ := load_W W hB hn hk.2.1 hr h7
    obtain ⟨-, -, -, -, vts⟩ := load_M A0 hB hk hsv hz hr h7
    refine agr_yes I e3 e2 (fun h2 e => by
      rw [s_L_load, is_O W.1, bS, e1, bS]
      show ((m_last h1 (X + 94) 0 _).bind _) = _
      rw [e, bS]) (fun h2 t A => ?_) ⟨kok_ld hk _ (by omega) vts, kpush_ok hk hsv, by omega, bc, Nat.zero_le _, fun j hj => absurd hj (Nat.not_lt_zero _)⟩
    obtain ⟨h3, m1, m2, m3, -⟩ := load_M A hB hk hsv hz hr h7
    exact ⟨h3, m1, m2, m3⟩
  · obtain ⟨h1, e1, e2, e3⟩ := load_no W hB q
    exact agr_no I e3 e2 (c := 1) (by decide) (by rw [s_L_load, is_O W.1, bS, e1, bS]; exact if_pos rfl) fun h2 t A => load_Mno A hB q
theorem agr_undo (I : iI st h X b L xs k sz sv bl bf) : agr st X b L xs (s_L_undo h X (X + 94)) (fun h1 => s_X8_undo h1 (X + 87)) := by
  obtain ⟨W, -, -, -, -, hk, hsv, hz, hB, -, -⟩ := id I
  match sz, I, W, hsv, hz with
  | 0, I, W, _, _ => exact agr_no I fr.rf W (c := 1) (by decide) (by rw [s_L_undo, is_O W.1, bS, undo_no W, bS]; exact if_pos rfl) fun h2 t A => undo_Mno A
  | sz + 1, I, W, hsv, hz =>
    have k0 := hsv 0 (by omega)
    obtain ⟨h1, e1, e2, e3⟩ := undo_W W (by omega) k0.1 k0.2.1
    exact agr_yes I e3 e2 (fun h2 e => by
      rw [s_L_undo, is_O W.1, bS, e1, bS]
      show ((m_last h1 (X + 94) 0 _).bind _) = _
      rw [e, bS]) (fun h2 t A => undo_M A (by omega)) ⟨k0, fun j hj => hsv (j + 1) (by omega), by omega, hB⟩
theorem same_v (I : iI st h X b L xs k sz sv bl bf) : vK k sz sv bl bf := by
  obtain ⟨-, -, -, -, -, v1, v2, v3, v4, -, -⟩ := I
  exact ⟨v1, v2, v3, v4⟩
theorem agr_tapOf (I : iI st h X b L xs k sz sv bl bf) (v1 v2 : Int32) : agr st X b L xs (s_L_tapOf h X v1 v2 (X + 94)) (fun h1 => s_X8_tapOf h1 (X + 87) v1 v2) := by
  obtain ⟨W, -, -, -, -, hk, hsv, hz, hB, -, -⟩ := id I
  have hn := hk.1
  rcases below_c v1 (kn k) (by omega) with ⟨i, hi, rfl⟩ | q
  · rcases below_c v2 8 (by decide) with ⟨p, hp, rfl⟩ | q2
    · exact agr_yes I fr.rf W (fun h2 e => by
        rw [s_L_tapOf, is_O W.1, bS, tapOf_W W hn hk.2.1 hi hp, bS]
        show ((m_last h (X + 94) 0 _).bind _) = _
        rw [e, bS]) (fun h2 t A => tapOf_M A hk hi hp) (same_v I)
    · exact agr_no I fr.rf W (c := 2) (by decide) (by rw [s_L_tapOf, is_O W.1, bS, tapOf_no2 W hn hi q2, bS]; exact (if_neg (by decide)).trans (if_pos rfl)) fun h2 t A => tapOf_Mno2 A hk hi q2
  · exact agr_no I fr.rf W (c := 1) (by decide) (by rw [s_L_tapOf, is_O W.1, bS, tapOf_no1 W q, bS]; exact if_pos rfl) fun h2 t A => tapOf_Mno1 A hk q
theorem agr_day (I : iI st h X b L xs k sz sv bl bf) (v1 v2 v3 : Int32) : agr st X b L xs (s_L_day h X v1 v2 v3 (X + 94)) (fun h1 => s_X8_day h1 (X + 87) v1 v2 v3) := by
  obtain ⟨W, -, -, -, -, hk, hsv, hz, hB, -, -⟩ := id I
  have no : ((oB v1 4 ∨ oB v2 28) ∨ oB v3 4) → agr st X b L xs (s_L_day h X v1 v2 v3 (X + 94)) (fun h1 => s_X8_day h1 (X + 87) v1 v2 v3) := fun q =>
    agr_no I fr.rf W (c := 1) (by decide) (by rw [s_L_day, is_O W.1, bS, day_no q, bS]; exact if_pos rfl) fun h2 t A => day_Mno A q
  rcases wd_c v1 v2 with ⟨w, d, hw, hd, rfl, rfl⟩ | q1
  · rcases below_c v3 4 (by decide) with ⟨p, hp, rfl⟩ | q2
    · exact agr_yes I fr.rf W (fun h2 e => by
        rw [s_L_day, is_O W.1, bS, day_W W hw hd hp, bS]
        show ((m_last h (X + 94) 0 _).bind _) = _
        rw [e, bS]) (fun h2 t A => day_M A hk hw hd hp) (same_v I)
    · exact no (Or.inr q2)
  · exact no (Or.inl q1)
theorem agr_week (I : iI st h X b L xs k sz sv bl bf) (v1 v2 v3 : Int32) : agr st X b L xs (s_L_week h X v1 v2 v3 (X + 94)) (fun h1 => s_X8_week h1 (X + 87) v1 v2 v3) := by
  obtain ⟨W, -, -, -, -, hk, hsv, hz, hB, -, -⟩ := id I
  have no : (oB v1 4 ∨ oB v2 4 ∨ oB v3 7) → agr st X b L xs (s_L_week h X v1 v2 v3 (X + 94)) (fun h1 => s_X8_week h1 (X + 87) v1 v2 v3) := fun q =>
    agr_no I fr.rf W (c := 1) (by decide) (by rw [s_L_week, is_O W.1, bS, week_no q, bS]; exact if_pos rfl) fun h2 t A => week_Mno A q
  rcases below_c v1 4 (by decide) with ⟨w, hw, rfl⟩ | q1
  · rcases below_c v2 4 (by decide) with ⟨d, hd, rfl⟩ | q2
    · rcases below_c v3 7 (by decide) with ⟨p, hp, rfl⟩ | q3
      · exact agr_yes I fr.rf W (fun h2 e => by
          rw [s_L_week, is_O W.1, bS, week_W W hw hd hp, bS]
          show ((m_last h (X + 94) 0 _).bind _) = _
          rw [e, bS]) (fun h2 t A => week_M A hk hw hd hp) (same_v I)
      · exact no (Or.inr (Or.inr q3))
    · exact no (Or.inr (Or.inl q2))
  · exact no (Or.inl q1)
theorem agr_count (I : iI st h X b L xs k sz sv bl bf) (v : Int32) : agr st X b L xs (s_L_count h X v (X + 94)) (fun h1 => s_X8_count h1 (X + 87) v) := by
  obtain ⟨W, -, -, -, -, hk, hsv, hz, hB, -, -⟩ := id I
  rcases below_c v 10 (by decide) with ⟨p, hp, rfl⟩ | q
  · exact agr_yes I fr.rf W (fun h2 e => by
      rw [s_L_count, is_O W.1, bS, count_W W hp, bS]
      show ((m_last h (X + 94) 0 _).bind _) = _
      rw [e, bS]) (fun h2 t A => count_M A hk hp) (same_v I)
  · exact agr_no I fr.rf W (c := 1) (by decide) (by rw [s_L_count, is_O W.1, bS, count_no q, bS]; exact if_pos rfl) fun h2 t A => count_Mno A q
theorem agr_ledger (I : iI st h X b L xs k sz sv bl bf) (v1 v2 v3 : Int32) : agr st X b L xs (s_L_ledger h X v1 v2 v3 (X + 94)) (fun h1 => s_X8_ledger h1 (X + 87) v1 v2 v3) := by
  obtain ⟨W, -, -, -, -, hk, hsv, hz, hB, -, -⟩ := id I
  have no : (oB v1 4 ∨ oB v2 8 ∨ oB v3 2) → agr st X b L xs (s_L_ledger h X v1 v2 v3 (X + 94)) (fun h1 => s_X8_ledger h1 (X + 87) v1 v2 v3) := fun q =>
    agr_no I fr.rf W (c := 1) (by decide) (by rw [s_L_ledger, is_O W.1, bS, ledger_no q, bS]; exact if_pos rfl) fun h2 t A => ledger_Mno A q
  rcases below_c v1 4 (by decide) with ⟨w, hw, rfl⟩ | q1
  · rcases below_c v2 8 (by decide) with ⟨d, hd, rfl⟩ | q2
    · rcases below_c v3 2 (by decide) with ⟨p, hp, rfl⟩ | q3
      · exact agr_yes I fr.rf W (fun h2 e => by
          rw [s_L_ledger, is_O W.1, bS, ledger_W W hw hd hp, bS]
          show ((m_last h (X + 94) 0 _).bind _) = _
          rw [e, bS]) (fun h2 t A => ledger_M A hk hw hd hp) (same_v I)
      · exact no (Or.inr (Or.inr q3))
    · exact no (Or.inr (Or.inl q2))
  · exact no (Or.inl q1)
theorem agr_ifTapped (I : iI st h X b L xs k sz sv bl bf) (v1 v2 v3 v4 : Int32) {i : Nat} (hi : i < 2) : agr st X b L xs (s_L_ifTapped h X v1 v2 v3 v4 (nI i) (X + 94)) (fun h1 => s_X8_ifTapped h1 (X + 87) v1 v2 v3 v4 (nI i)) := by
  obtain ⟨W, -, -, -, -, hk, hsv, hz, hB, -, -⟩ := id I
  have no : ((oB v1 4 ∨ oB v2 28) ∨ oB v3 1440 ∨ oB v4 10) → agr st X b L xs (s_L_ifTapped h X v1 v2 v3 v4 (nI i) (X + 94)) (fun h1 => s_X8_ifTapped h1 (X + 87) v1 v2 v3 v4 (nI i)) := fun q =>
    agr_no I fr.rf W (c := 1) (by decide) (by rw [s_L_ifTapped, is_O W.1, bS, ifTapped_no q, bS]; exact if_pos rfl) fun h2 t A => ifTapped_Mno A q
  rcases wd_c v1 v2 with ⟨w, d, hw, hd, rfl, rfl⟩ | q1
  · rcases ms_c v3 v4 with ⟨m, s, hm, hs, rfl, rfl⟩ | q2
    · obtain ⟨h1, e1, e2, e3⟩ := ifTapped_W W hk.1 hk.2.1 hw hd hm hs hi
      exact agr_yes I e3 e2 (fun h2 e => by
        rw [s_L_ifTapped, is_O W.1, bS, e1, bS]
        show ((m_last h1 (X + 94) 0 _).bind _) = _
        rw [e, bS]) (fun h2 t A => ifTapped_M A hk hw hd hm hs hi) (same_v I)
    · exact no (Or.inr q2)
  · exact no (Or.inl q1)
theorem agr_whyNot (I : iI st h X b L xs k sz sv bl bf) (v1 v2 v3 : Int32) : agr st X b L xs (s_L_whyNot h X v1 v2 v3 (X + 94)) (fun h1 => s_X8_whyNot h1 (X + 87) v1 v2 v3) := by
  obtain ⟨W, -, -, -, -, hk, hsv, hz, hB, -, -⟩ := id I
  have hn := hk.1
  rcases ms_c v2 v3 with ⟨m, s, hm, hs, rfl, rfl⟩ | q2
  · rcases below_c v1 (kn k) (by omega) with ⟨i, hi, rfl⟩ | q
    · obtain ⟨h1, e1, e2, e3⟩ := whyNot_W W hn hk.2.1 hi hm hs
      exact agr_yes I e3 e2 (fun h2 e => by
        rw [s_L_whyNot, is_O W.1, bS, e1, bS]
        show ((m_last h1 (X + 94) 0 _).bind _) = _
        rw [e, bS]) (fun h2 t A => whyNot_M A hk hi hm hs) (same_v I)
    · exact agr_yes I fr.rf W (fun h2 e => by
        rw [s_L_whyNot, is_O W.1, bS, whyNot_no2 W hm hs q, bS]
        show ((m_last h (X + 94) 0 _).bind _) = _
        rw [e, bS]) (fun h2 t A => whyNot_M1 A hk hm hs q) (same_v I)
  · exact agr_no I fr.rf W (c := 1) (by decide) (by rw [s_L_whyNot, is_O W.1, bS, whyNot_no1 q2, bS]; exact if_pos rfl) fun h2 t A => whyNot_Mno A q2
end LA
