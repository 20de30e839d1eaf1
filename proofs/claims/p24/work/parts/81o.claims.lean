/-! PURE: the class' claims and what it refuses -/
section PCl
noncomputable def aRef (k : mK) (i m s : Nat) : Nat := if kmt k i = -1 then (if (ktp k i 4 = 0 ∧ m ≤ ktp k i 2) ∨ (ktp k i 4 = 1 ∧ ktp k i 2 ≤ m) then (if kclm k (ktp k i 0 * 4 + ktp k i 1 / 7) < 2 then (if kn k < 60 then (if aWould k i (mis k i m s) = true then 0 else 5) else 4) else 3) else 2) else 1
theorem aRef_lt (k : mK) (i m s : Nat) : aRef k i m s < 6 := by
  unfold aRef
  repeat' split
  all_goals decide
variable {h : mH} {X sz bl : Nat} {k : mK} {sv : Nat → mK} {bf : Nat → Int32}
theorem refusal_no (A : isW h X k sz sv bl bf) {v v2 v3 : Int32} (hp : oB v (kn k)) : s_X7_refusal h X v v2 v3 = some (1, h) := by
  rw [s_X7_refusal, is_O A.1, bS, place_no A hp, bS, if_pos rfl]; rfl
theorem refusal_69 (A : isW h X k sz sv bl bf) (hn : kn k ≤ 60) (hv : vTs (kn k) (ktp k)) {i m s : Nat} (hi : i < kn k) (hm : m < 1440) (hs : s < 10) :
    ∃ h', s_X7_refusal_b69 h X (nI i) (nI m) (nI s) (pk (ktp k i)) = some (nI (if kclm k (ktp k i 0 * 4 + ktp k i 1 / 7) < 2 then (if kn k < 60 then (if aWould k i (mis k i m s) = true then 0 else 5) else 4) else 3), h') ∧ isW h' X k sz sv bl bf ∧ fr h h' X (X + 87) := by
  have v := hv i hi
  have vm : vT (mis k i m s) := mis_v v hm hs
  have w0 := v.1
  have w1 := v.2.1
  obtain ⟨c0, c1, c2, c3, c4, c5, c6, c7⟩ := id A.2.1
  have st : ∀ (f : Int32 → Option (Int32 × mH)), ((m_gr h 5 X 0).bind fun x70 => (m_gr h 2 x70 3).bind fun x73 => (s_X4_walletOf h (pk (ktp k i))).bind fun x78 => (s_X4_weekOf h (pk (ktp k i))).bind fun x83 => (s_X7_weekCell h x78 x83).bind fun x86 => (s_X1_at h x73 x86).bind f) = f (kclm k (ktp k i 0 * 4 + ktp k i 1 / 7)) := by
    intro f
    rw [gr_O A.1 (k := 0) rfl, bS, gr_O c0 (k := 3) rfl, bS, walletOf_pk v, bS, weekOf_pk v, bS, weekCell_nI, bS, at_A c4 (show ktp k i 0 * 4 + ktp k i 1 / 7 < 16 by omega) (by decide), bS]
  rw [s_X7_refusal_b69, st]
  by_cases q1 : kclm k (ktp k i 0 * 4 + ktp k i 1 / 7) < 2
  · rw [if_pos q1, if_pos q1, gr_O A.1 (k := 0) rfl, bS, gr_O c0 (k := 0) rfl, bS, size_R c1, bS]
    by_cases q2 : kn k < 60
    · rw [if_pos (show nI (kn k) < 60 from nI_lt q2 (by decide)), if_pos q2, missingOf_pk v hm hs, bS, is_O A.1, bS]
      obtain ⟨h', e1, e2, e3⟩ := would_W A hn hv vm hi
      refine ⟨h', ?_, e2, e3.wd (by omega) (by omega)⟩
      show ((s_X7_wouldRideWith h X (nI i) (pk (mis k i m s))).bind fun (x124, h124) => _) = _
      rw [e1, bS]
      by_cases q3 : aWould k i (mis k i m s) = true
      · rw [if_pos q3, if_pos q3]; rfl
      · rw [if_neg q3, if_neg q3]; rfl
    · have q2' : ¬ nI (kn k) < 60 := fun z => q2 ((nI_ltI (b := 60) (by omega) (by decide)).mp z)
      rw [if_neg q2', if_neg q2]
      exact ⟨h, rfl, A, fr.rf⟩
  · rw [if_neg q1, if_neg q1]
    exact ⟨h, rfl, A, fr.rf⟩
theorem refusal_W (A : isW h X k sz sv bl bf) (hn : kn k ≤ 60) (hv : vTs (kn k) (ktp k)) {i m s : Nat} (hi : i < kn k) (hm : m < 1440) (hs : s < 10) :
    ∃ h', s_X7_refusal h X (nI i) (nI m) (nI s) = some (nI (aRef k i m s), h') ∧ isW h' X k sz sv bl bf ∧ fr h h' X (X + 87) := by
  have v := hv i hi
  have v4 := v.2.2.2.2.1
  have v2 := v.2.2.1
  obtain ⟨c0, c1, -⟩ := id A.2.1
  obtain ⟨r0, ⟨M, r1, r2⟩, -⟩ := id A.2.2.1
  rw [s_X7_refusal, is_O A.1, bS, place_yes A hn hi, bS, if_neg (by decide), gr_O A.1 (k := 1) rfl, bS, gr_O r0 (k := 0) rfl, bS, at_A r1 (show i < 61 by omega) (by decide), bS, r2 i hi]
  unfold aRef
  by_cases q1 : mt (kn k) (kset k 3) (ktp k) i = -1
  · rw [if_pos q1, if_pos (show kmt k i = -1 from q1), gr_O A.1 (k := 0) rfl, bS, gr_O c0 (k := 0) rfl, bS, is_O c1.1, bS, tapAt_R c1 hi (by omega), bS, isIn_pk v, bS, minuteOf_pk v]
    by_cases q2 : ktp k i 4 = 0
    · rw [if_pos (show nI (ktp k i 4) = 0 by rw [q2]; rfl), bS]
      by_cases q3 : m ≤ ktp k i 2
      · rw [if_pos (nI_le q3 (by omega)), if_pos (Or.inl ⟨q2, q3⟩)]
        exact refusal_69 A hn hv hi hm hs
      · rw [if_neg (fun z => q3 ((nI_leI (by omega) (by omega)).mp z)), if_neg (show ¬ ((ktp k i 4 = 0 ∧ m ≤ ktp k i 2) ∨ (ktp k i 4 = 1 ∧ ktp k i 2 ≤ m)) by omega)]
        exact ⟨h, rfl, A, fr.rf⟩
    · have e4 : ktp k i 4 = 1 := by omega
      rw [if_neg (show ¬ nI (ktp k i 4) = 0 by rw [e4]; decide), bS]
      by_cases q3 : ktp k i 2 ≤ m
      · rw [if_pos (nI_le q3 (by omega)), if_pos (Or.inr ⟨e4, q3⟩)]
        exact refusal_69 A hn hv hi hm hs
      · rw [if_neg (fun z => q3 ((nI_leI (by omega) (by omega)).mp z)), if_neg (show ¬ ((ktp k i 4 = 0 ∧ m ≤ ktp k i 2) ∨ (ktp k i 4 = 1 ∧ ktp k i 2 ≤ m)) by omega)]
        exact ⟨h, rfl, A, fr.rf⟩
  · rw [if_neg q1, if_neg (show ¬ kmt k i = -1 from q1)]
    exact ⟨h, rfl, A, fr.rf⟩
theorem claim_no {v1 v2 v3 : Int32} (q : oB v2 1440 ∨ oB v3 10) : s_X7_claim h X v1 v2 v3 = some (Sum.inl "java/lang/IllegalArgumentException", h) := by
  rw [s_X7_claim, minuteStation_no q, bS, if_pos rfl]
theorem refuse_s {f : mH → Option ((String ⊕ Int32) × mH)} {h2 : mH} (w : ((m_gr h 5 X 0).bind fun x54 => (m_gi h 2 x54 9).bind fun x58 => (m_put h 2 x54 9 (.int (x58 + 1)))) = some h2) : ((m_gr h 5 X 0).bind fun x54 => (m_gi h 2 x54 9).bind fun x58 => (m_put h 2 x54 9 (.int (x58 + 1))).bind f) = f h2 := by
  rcases e1 : m_gr h 5 X 0 with _ | a
  · rw [e1] at w; cases w
  · rw [e1, bS] at w
    rcases e2 : m_gi h 2 a 9 with _ | b
    · rw [e2] at w; cases w
    · rw [e2, bS] at w
      rw [bS, e2, bS, w, bS]
theorem claim_refused (A : isW h X k sz sv bl bf) {v1 x : Int32} {m s : Nat} {h1 : mH} (hm : m < 1440) (hs : s < 10) (e1 : s_X7_refusal h X v1 (nI m) (nI s) = some (x, h1)) (e2 : isW h1 X k sz sv bl bf) (e3 : fr h h1 X (X + 87)) (hx : ¬ x = 0) :
    ∃ h', s_X7_claim h X v1 (nI m) (nI s) = some (Sum.inr x, h') ∧ isW h' X (krefuse k) (min (sz + 1) 6) (kpush sv k) bl bf ∧ fr h h' X (X + 87) := by
  obtain ⟨nx, sr⟩ := sv_ref e2
  obtain ⟨h2, f1, f2, f3⟩ := push_W e2
  obtain ⟨h3, g1, g2, g3⟩ := refuse_W f2
  refine ⟨h3, ?_, g2, (e3.tr f3).tr g3⟩
  rw [s_X7_claim, minuteStation_yes hm hs, bS, if_neg (by decide), is_O A.1, bS, e1, bS]
  show ((m_gr h1 5 X 2).bind fun x28 => _) = _
  rw [gr_O e2.1 (k := 2) rfl, bS, gr_O e2.1 (k := 0) rfl, bS, is_O sr, bS, f1, bS, if_neg hx, refuse_s g1]
  rfl
theorem claim_W (A : isW h X k sz sv bl bf) (hn : kn k ≤ 60) (hv : vTs (kn k) (ktp k)) {i m s : Nat} (hi : i < kn k) (hm : m < 1440) (hs : s < 10) :
    ∃ h', s_X7_claim h X (nI i) (nI m) (nI s) = some (Sum.inr (nI (aRef k i m s)), h') ∧ isW h' X (if aRef k i m s = 0 then kclaim k i m s else krefuse k) (min (sz + 1) 6) (kpush sv k) bl bf ∧ fr h h' X (X + 87) := by
  obtain ⟨h1, e1, e2, e3⟩ := refusal_W A hn hv hi hm hs
  have hr := aRef_lt k i m s
  by_cases q : aRef k i m s = 0
  · have hn' : kn k < 60 := by
      apply Classical.byContradiction
      intro z
      unfold aRef at q
      revert q
      repeat' split
      all_goals first
        | (intro q; exact absurd q (by decide))
        | (intro q; omega)
    obtain ⟨nx, sr⟩ := sv_ref e2
    obtain ⟨h2, f1, f2, f3⟩ := push_W e2
    obtain ⟨h3, g1, g2, g3⟩ := fillIn_W f2 hn' hv hi hm hs
    rw [if_pos q]
    refine ⟨h3, ?_, g2, (e3.tr f3).tr g3⟩
    rw [s_X7_claim, minuteStation_yes hm hs, bS, if_neg (by decide), is_O A.1, bS, e1, bS]
    show ((m_gr h1 5 X 2).bind fun x28 => _) = _
    rw [gr_O e2.1 (k := 2) rfl, bS, gr_O e2.1 (k := 0) rfl, bS, is_O sr, bS, f1, bS, if_pos (show nI (aRef k i m s) = 0 by rw [q]; rfl), is_O f2.1, bS, g1]
    rfl
  · rw [if_neg q]
    exact claim_refused A hm hs e1 e2 e3 (nI_ne0 (by omega) (by omega))
end PCl
