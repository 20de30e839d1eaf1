/-! PURE: the law's turns -/
section LW
variable {st : m_T} {h h' : mH} {X b L T T' sz sz' bl i : Nat} {xs bf : Nat → Int32} {k k' : mK} {sv sv' : Nat → mK} {K : mH → Nat → Nat → Int32 → Option Int32} {v w : Int32}
/-- the object and the script as a turn finds them -/
def iT (st : m_T) (h : mH) (X b L : Nat) (xs : Nat → Int32) (T : Nat) (k : mK) (sz : Nat) (sv : Nat → mK) (bl : Nat) (bf : Nat → Int32) : Prop := isW h X k sz sv bl bf ∧ kgo T k ∧ (∀ j, j < sz → kgo T (sv j)) ∧ sz ≤ 6 ∧ h b = some (mC L xs) ∧ isT h (st.2 1) 6 (m_tab 1) ∧ isT h (st.2 2) 6 (m_tab 2) ∧ b < X ∧ st.2 1 < X ∧ st.2 2 < X
theorem iT.go (I : iT st h X b L xs T k sz sv bl bf) (F : fr h h' X (X + 87)) (W : isW h' X k' sz' sv' bl bf) (g : kgo T' k') (gs : ∀ j, j < sz' → kgo T' (sv' j)) (hz : sz' ≤ 6) : iT st h' X b L xs T' k' sz' sv' bl bf := by
  obtain ⟨-, -, -, -, hb, T1, T2, l0, l1, l2⟩ := I
  exact ⟨W, g, gs, hz, (F b (Or.inl l0)).trans hb, T1.fr F (Or.inl l1), T2.fr F (Or.inl l2), l0, l1, l2⟩
theorem cell_ok (H : h b = some (mC L xs)) (hL : L ≤ 260) {c : Nat} (hc : c < 2 ^ 31) : ∃ v, s_L_cell h b (nI c) = some v := by
  have Tb : isT h b L xs := ⟨xs, H, fun _ _ => rfl⟩
  by_cases q : L ≤ c
  · exact ⟨_, by rw [s_L_cell, ilen_T Tb, bS, if_pos (nI_le q hc), s_L_cell_b24]⟩
  · exact ⟨_, by rw [s_L_cell, ilen_T Tb, bS, if_neg (nI_ge (show c < L by omega) (by omega)), iald_T Tb (show c < L by omega) (by omega), bS, s_L_cell_b24]⟩
theorem nI_m9 {n : Nat} (hn : n < 2 ^ 31) : ¬ nI n ≤ -9 := by
  have e : (-9 : Int32).toInt = -9 := by decide
  rw [Int32.le_iff_toInt_le, nI_toInt hn, e]
  omega
theorem law_230 (fin : ∀ (h' : mH) (k' : mK) (sz' : Nat) (sv' : Nat → mK), iT st h' X b L xs T k' sz' sv' bl bf → K h' b X (nI (i + 1)) = some 1) (I : iT st h X b L xs T k sz sv bl bf) (hi : i < 24) : s_L_law_b230 st K h b X (nI i) (toldK k) = some 1 := by
  obtain ⟨W, g, gs, hz, hb, T1, T2, l0, l1, l2⟩ := id I
  have r2 : m_rem (nI i) 2 = some (nI (i % 2)) := m_rem_nI (b := 2) (by omega) (by decide) (by decide)
  by_cases c : i % 2 = 1
  · obtain ⟨h1, e1, e2, e3⟩ := holds_W W g hz T1 T2 l1 l2
    rw [s_L_law_b230, r2, bS, if_pos (show nI (i % 2) = 1 by rw [c]; rfl), e1, bS]
    show (if (1 : Int32) = 0 then _ else ((s_L_told h1 X).bind _)) = _
    rw [if_neg (show ¬ (1 : Int32) = 0 by decide), told_W e2 g.1.1 g.1.2.1, bS]
    show (if lg_cmp (toldK k) (toldK k) = 0 then s_L_law_b256 st K h1 b X (nI i) else _) = _
    rw [if_pos ((lg_cmp_eq _ _).mpr rfl), s_L_law_b256, nI_1]
    exact fin h1 k (min sz 5) sv (I.go e3 e2 g (fun j hj => gs j (by omega)) (by omega))
  · rw [s_L_law_b230, r2, bS, if_neg (show ¬ nI (i % 2) = 1 from fun z => c ((nI_eq (b := 1) (by omega) (by decide)).mp z)), s_L_law_b256, nI_1]
    exact fin h k sz sv I
theorem law_171 (fin : ∀ (h' : mH) (k' : mK) (sz' : Nat) (sv' : Nat → mK), iT st h' X b L xs T' k' sz' sv' bl bf → K h' b X (nI (i + 1)) = some 1) (I : iT st h X b L xs T' k' (sz + 1) (kpush sv k) bl bf) (hz : sz ≤ 5) (hi : i < 24) {n : Nat} (hn : n < 2 ^ 31) (C : chg st k k' (nI n) (fun h X => s_L_act st h X v w)) : s_L_law_b171 st K h b X (nI i) v w (nI sz) (toldK k) (nI n) (toldK k') = some 1 := by
  obtain ⟨W, g, gs, -, hb, T1, T2, l0, l1, l2⟩ := id I
  have g0 : kgo T' k := gs 0 (by omega)
  rw [s_L_law_b171, if_neg (nI_m9 hn)]
  by_cases c : ((v >>> ((10 : Int32) &&& 31)) &&& 1) = 0
  · obtain ⟨h1, e1, e2, e3⟩ := undo_W W (by omega) (show kn k ≤ 60 from g0.1.1) (show vTs (kn k) (ktp k) from g0.1.2.1)
    have W1 : isW h1 X k sz sv bl bf := e2
    obtain ⟨h2, f1, f2, f3⟩ := C h1 X sz bl sv bf W1 (T1.fr e3 (Or.inl l1)) (T2.fr e3 (Or.inl l2))
    have f1' : s_L_act st h1 X v w = some (nI n, h2) := f1
    rw [if_pos c, is_O W.1, bS, e1, okS, bS]
    show (if nI sz = nI sz then ((s_L_told h1 X).bind _) else _) = _
    rw [if_pos rfl, told_W W1 g0.1.1 g0.1.2.1, bS]
    show (if lg_cmp (toldK k) (toldK k) = 0 then ((s_L_act st h1 X v w).bind _) else _) = _
    rw [if_pos ((lg_cmp_eq _ _).mpr rfl), f1', bS]
    show (if nI n = nI n then ((s_L_told h2 X).bind _) else _) = _
    rw [if_pos rfl, told_W f2 g.1.1 g.1.2.1, bS]
    show (if lg_cmp (toldK k') (toldK k') = 0 then s_L_law_b230 st K h2 b X (nI i) (toldK k') else _) = _
    rw [if_pos ((lg_cmp_eq _ _).mpr rfl)]
    refine law_230 fin (I.go (e3.tr f3) f2 g (fun j hj => gs j (by omega)) (by omega)) hi
  · rw [if_neg c]
    exact law_230 fin I hi
theorem law_136 (W : isW h X k sz sv bl bf) {v5 v8 v9 : Int32} {v6 v10 : Int64} (q : (v &&& 15) ≤ 2 ∨ 6 ≤ (v &&& 15) ∨ sumF (kchg k) 16 = (v8 + v9) - 100000) : s_L_law_b136 st K h b X (nI i) v w v5 v6 v8 v9 v10 = s_L_law_b171 st K h b X (nI i) v w v5 v6 v9 v10 := by
  rw [s_L_law_b136]
  by_cases c1 : (v &&& 15) ≤ 2
  · rw [if_pos c1]
  · rw [if_neg c1]
    by_cases c2 : 6 ≤ (v &&& 15)
    · rw [if_pos c2]
    · rw [if_neg c2]
      have q3 := (q.resolve_left c1).resolve_left c2
      refine (cntS W (p := 4) (by decide) _).trans ?_
      exact if_pos q3
theorem law_56 (fin : ∀ (h' : mH) (k' : mK) (sz' : Nat) (sv' : Nat → mK), iT st h' X b L xs (T + 1) k' sz' sv' bl bf → K h' b X (nI (i + 1)) = some 1) (I : iT st h X b L xs T k sz sv bl bf) (hs : sz ≤ 5) (hT : T ≤ 23) (hi : i < 24) : s_L_law_b56 st K h b X (nI i) v w = some 1 := by
  obtain ⟨W, g, gs, hz, hb, T1, T2, l0, l1, l2⟩ := id I
  rw [s_L_law_b56]
  refine (cntS W (p := 9) (by decide) _).trans ?_
  show ((s_L_told h X).bind _) = _
  rw [told_W W g.1.1 g.1.2.1, bS]
  refine (cntS W (p := 4) (by decide) _).trans ?_
  rcases act_ok st g hT v w with ⟨q, e⟩ | ⟨r, k', ⟨n, hn, rfl⟩, g', q, C⟩
  · have e0 := e h X sz bl sv bf W
    show ((s_L_act st h X v w).bind _) = _
    rw [e0, bS]
    show ((s_L_told h X).bind _) = _
    rw [told_W W g.1.1 g.1.2.1, bS]
    show (if (-9 : Int32) = -9 then _ else _) = _
    rw [if_pos rfl]
    show (if lg_cmp (toldK k) (toldK k) = 0 then _ else _) = _
    rw [if_pos ((lg_cmp_eq _ _).mpr rfl)]
    refine (cntS W (p := 9) (by decide) _).trans ?_
    refine (if_pos (show nI sz = nI sz from rfl)).trans ?_
    refine (law_136 W (q.imp id Or.inl)).trans ?_
    show s_L_law_b171 st K h b X (nI i) v w (nI sz) (toldK k) (-9) (toldK k) = some 1
    rw [s_L_law_b171, if_pos (Int32.le_refl _)]
    exact law_230 fin (I.go fr.rf W (g.wd (Nat.le_succ _)) (fun j hj => (gs j hj).wd (Nat.le_succ _)) hz) hi
  · obtain ⟨h1, e1, e2, e3⟩ := C h X sz bl sv bf W T1 T2
    have e1' : s_L_act st h X v w = some (nI n, h1) := e1
    rw [show min (sz + 1) 6 = sz + 1 by omega] at e2
    have I1 : iT st h1 X b L xs (T + 1) k' (sz + 1) (kpush sv k) bl bf := I.go e3 e2 g' (fun j hj => by
      match j, hj with
      | 0, _ => exact g.wd (Nat.le_succ _)
      | j + 1, hj => exact (gs j (by omega)).wd (Nat.le_succ _)) (by omega)
    show ((s_L_act st h X v w).bind _) = _
    rw [e1', bS]
    show ((s_L_told h1 X).bind _) = _
    rw [told_W e2 g'.1.1 g'.1.2.1, bS]
    show (if nI n = -9 then _ else _) = _
    rw [if_neg (show ¬ nI n = -9 from fun z => nI_m9 hn (by rw [z]; exact Int32.le_refl _))]
    refine (cntS e2 (p := 9) (by decide) _).trans ?_
    refine (if_pos (show nI (sz + 1) = nI sz + 1 from (nI_1 sz).symm)).trans ?_
    refine (law_136 e2 q).trans ?_
    exact law_171 fin I1 hs hi hn C
theorem law_L (hL : L ≤ 260) : ∀ (d i F : Nat) (h : mH) (k : mK) (sz : Nat) (sv : Nat → mK), i + d = 24 → d < F → iT st h X b L xs i k sz sv bl bf → s_L_law_L10 st F h b X (nI i) = some 1 := by
  intro d
  induction d with
  | zero =>
    intro i F h k sz sv hi hF I
    obtain ⟨F, rfl⟩ : ∃ F', F = F' + 1 := ⟨F - 1, by omega⟩
    obtain rfl : i = 24 := by omega
    rw [s_L_law_L10, if_pos (show (24 : Int32) ≤ nI 24 by decide)]
  | succ d ih =>
    intro i F h k sz sv hi hF I
    obtain ⟨F, rfl⟩ : ∃ F', F = F' + 1 := ⟨F - 1, by omega⟩
    obtain ⟨W, g, gs, hz, hb, T1, T2, l0, l1, l2⟩ := id I
    have c : ¬ (24 : Int32) ≤ nI i := nI_ge (b := 24) (by omega) (by decide)
    have e2i : (2 : Int32) * nI i = nI (2 * i) := by rw [show (2 : Int32) = nI 2 from rfl, nI_mul]
    obtain ⟨v, ev⟩ := cell_ok hb hL (c := 2 * i) (by omega)
    obtain ⟨w, ew⟩ := cell_ok hb hL (c := 2 * i + 1) (by omega)
    have fin : ∀ (h' : mH) (k' : mK) (sz' : Nat) (sv' : Nat → mK), iT st h' X b L xs (i + 1) k' sz' sv' bl bf → s_L_law_L10 st F h' b X (nI (i + 1)) = some 1 := fun h' k' sz' sv' I' => ih (i + 1) F h' k' sz' sv' (by omega) (by omega) I'
    rw [s_L_law_L10, if_neg c, e2i, ev, bS, nI_1, ew, bS]
    refine (cntS W (p := 9) (by decide) _).trans ?_
    by_cases c6 : sz = 6
    · subst c6
      have g0 := gs 0 (by decide)
      have g1 := gs 1 (by decide)
      obtain ⟨h1, e1, W1, F1⟩ := undo_W (sz := 5) W (by decide) g0.1.1 g0.1.2.1
      obtain ⟨h2, e2, W2, F2⟩ := undo_W (sz := 4) W1 (by decide) g1.1.1 g1.1.2.1
      refine (if_pos (show nI 6 = 6 from rfl)).trans ?_
      rw [is_O W.1, bS, e1, okS, bS]
      show ((m_is h1 5 X).bind fun _ => _) = _
      rw [is_O W1.1, bS, e2, okS, bS]
      exact law_56 fin (I.go (F1.tr F2) W2 g1 (fun j hj => gs (j + 1 + 1) (by omega)) (by decide)) (by decide) (by omega) (by omega)
    · refine (if_neg (show ¬ nI sz = 6 from fun z => c6 ((nI_eq (b := 6) (by omega) (by decide)).mp z))).trans ?_
      exact law_56 fin I (by omega) (by omega) (by omega)
end LW
