/-! PURE: the six saved states -/
section PV
def isV (h : mH) (g sz : Nat) (sv : Nat → mK) : Prop := ∃ (nx : Nat) (rk : Nat → mK) (rf : Nat → Option Nat), h g = some (mO 1 [.ref (g + 1), .int (nI nx), .int (nI sz)]) ∧ h (g + 1) = some (mR 6 rf) ∧ (∀ i, i < 6 → rf i = some (g + 2 + 9 * i)) ∧ nx < 6 ∧ sz ≤ 6 ∧ (∀ i, i < 6 → isC h (g + 2 + 9 * i) (rk i)) ∧ ∀ j, j < sz → sv j = rk ((nx + 5 - j) % 6)
theorem isV.fr {h h' : mH} {g sz lo hi : Nat} {sv : Nat → mK} (A : isV h g sz sv) (F : fr h h' lo hi) (hq : g + 56 ≤ lo ∨ hi ≤ g) : isV h' g sz sv := by
  obtain ⟨nx, rk, rf, a0, a1, a2, a3, a4, a5, a6⟩ := A
  exact ⟨nx, rk, rf, F.O a0 (by omega), F.O a1 (by omega), a2, a3, a4, fun i hi => (a5 i hi).fr F (by omega), a6⟩
theorem slot_V {h : mH} {g : Nat} {v1 v2 : Value} {rf : Nat → Option Nat} (H : h g = some (mO 1 [.ref (g + 1), v1, v2])) (R : h (g + 1) = some (mR 6 rf)) {k : Nat} (hk : k < 6) : s_X2_slot h g (nI k) = some (rf k) := by
  have h1 : ¬ (nI k < 0) := nI_pos (by omega)
  have h2 : ¬ (nI 6 ≤ nI k) := nI_ge hk (by decide)
  have e1 : m_alen h (g + 1) = some (nI 6) := by simp only [m_alen, R]; rfl
  have e2 : m_aald h (g + 1) (nI k) = some (rf k) := by simp only [m_aald, R, nI_cl (show k < 2 ^ 31 by omega), h1, hk, not_false_eq_true, and_self, if_true]
  rw [s_X2_slot, if_neg h1, gr_O H (k := 0) rfl, bS, e1, bS, if_neg h2, bS, e2, bS]
  rfl
def kpush (sv : Nat → mK) (k : mK) : Nat → mK := fun j => match j with
  | 0 => k
  | j + 1 => sv j
theorem push_V {h : mH} {g s sz : Nat} {sv : Nat → mK} {k : mK} (A : isV h g sz sv) (S : isC h s k) (hgs : s + 9 ≤ g ∨ g + 56 ≤ s) : ∃ h', s_X2_push h g s = some h' ∧ isV h' g (min (sz + 1) 6) (kpush sv k) ∧ fr h h' g (g + 56) := by
  obtain ⟨nx, rk, rf, a0, a1, a2, a3, a4, a5, a6⟩ := A
  obtain ⟨h1, e1, p1, f1⟩ := copyState (c := g + 2 + 9 * nx) S (a5 nx a3) (by omega)
  have x0 := f1.O a0 (by omega)
  have x1 := f1.O a1 (by omega)
  obtain ⟨nx', hnx⟩ : ∃ nx', nx' = if nx + 1 < 6 then nx + 1 else 0 := ⟨_, rfl⟩
  have hnx' : nx' < 6 := by rw [hnx]; split <;> omega
  let h2 := m_up h1 g (mO 1 [.ref (g + 1), .int (nI nx'), .int (nI sz)])
  let h3 := m_up h2 g (mO 1 [.ref (g + 1), .int (nI nx'), .int (nI (min (sz + 1) 6))])
  have F3 : fr h1 h3 g (g + 1) := fr.up.tr fr.up
  refine ⟨h3, ?_, ⟨nx', fun i => if i = nx then k else rk i, rf, m_up_same _ _ _, F3.O x1 (by omega), a2, hnx', by omega, fun i hi => ?_, fun j hj => ?_⟩, (f1.wd (by omega) (by omega)).tr (F3.wd (by omega) (by omega))⟩
  · have w1 : m_put h1 1 g 1 (.int (nI nx')) = some h2 := put_O x0 (k := 1) (show 1 < 3 by decide)
    have g2 : h2 g = some (mO 1 [.ref (g + 1), .int (nI nx'), .int (nI sz)]) := m_up_same _ _ _
    have w2 : m_put h2 1 g 2 (.int (nI (min (sz + 1) 6))) = some h3 := put_O g2 (k := 2) (show 2 < 3 by decide)
    have hmin : (if 6 < (nI sz + 1) then 6 else (nI sz + 1)) = nI (min (sz + 1) 6) := by
      rw [nI_1]
      by_cases q : 6 < sz + 1
      · have c6 : (6 : Int32) < nI (sz + 1) := nI_lt (a := 6) q (by omega)
        rw [if_pos c6, Nat.min_eq_right (by omega)]; rfl
      · have c6 : ¬ (6 : Int32) < nI (sz + 1) := nI_nlt (b := sz + 1) (a := 6) (by omega) (by decide)
        rw [if_neg c6, Nat.min_eq_left (by omega)]
    have hb : s_X2_push_b18 h1 g = some h3 := by
      have tail : s_X2_push_b40 h1 g g (nI nx') = some h3 := by
        rw [s_X2_push_b40, w1, bS, gi_O g2 (k := 2) rfl, bS, hmin, w2, bS]
      rw [s_X2_push_b18, gi_O x0 (k := 1) rfl, bS, nI_1]
      by_cases q : 6 ≤ nx + 1
      · have c6 : (6 : Int32) ≤ nI (nx + 1) := nI_le (a := 6) q (by omega)
        rw [if_pos c6]
        have : nx' = 0 := by rw [hnx, if_neg (by omega)]
        rw [this] at tail
        exact tail
      · have c6 : ¬ (6 : Int32) ≤ nI (nx + 1) := nI_ge (a := nx + 1) (b := 6) (by omega) (by decide)
        rw [if_neg c6, bS, nI_1]
        have : nx' = nx + 1 := by rw [hnx, if_pos (by omega)]
        rw [this] at tail
        exact tail
    rw [s_X2_push, gi_O a0 (k := 1) rfl, bS, is_O a0, bS, slot_V a0 a1 a3, bS, a2 nx a3]
    show ((m_is h 2 (g + 2 + 9 * nx)).bind fun _ => (s_X3_copyFrom h (g + 2 + 9 * nx) s).bind fun h15 => s_X2_push_b18 h15 g) = _
    rw [is_O (a5 nx a3).1, bS, e1, bS, hb]
  · by_cases q : i = nx
    · subst q
      show isC h3 _ (if i = i then k else rk i)
      rw [if_pos rfl]
      exact p1.fr F3 (by omega)
    · show isC h3 _ (if i = nx then k else rk i)
      rw [if_neg q]
      exact ((a5 i hi).fr f1 (by omega)).fr F3 (by omega)
  · have hnx2 : (nx' + 5) % 6 = nx := by rw [hnx]; split <;> omega
    match j, hj with
    | 0, hj =>
      show k = if (nx' + 5 - 0) % 6 = nx then k else _
      rw [Nat.sub_zero, if_pos hnx2]
    | j + 1, hj =>
      show sv j = if (nx' + 5 - (j + 1)) % 6 = nx then k else rk ((nx' + 5 - (j + 1)) % 6)
      have hj2 : j < sz := by omega
      have e : (nx' + 5 - (j + 1)) % 6 = (nx + 5 - j) % 6 := by rw [hnx]; split <;> omega
      have hne : (nx + 5 - j) % 6 ≠ nx := by omega
      rw [e, if_neg hne]
      exact a6 j hj2
theorem pop_V {h : mH} {g s sz : Nat} {sv : Nat → mK} {k : mK} (A : isV h g (sz + 1) sv) (S : isC h s k) (hgs : s + 9 ≤ g ∨ g + 56 ≤ s) : ∃ h1 h', s_X2_popInto h g s = some h' ∧ isV h' g sz (fun j => sv (j + 1)) ∧ isC h' s (sv 0) ∧ fr h h1 g (g + 1) ∧ fr h1 h' s (s + 9) := by
  obtain ⟨nx, rk, rf, a0, a1, a2, a3, a4, a5, a6⟩ := A
  obtain ⟨nx', hnx⟩ : ∃ nx', nx' = if 0 < nx then nx - 1 else 5 := ⟨_, rfl⟩
  have hnx' : nx' < 6 := by rw [hnx]; split <;> omega
  let h2 := m_up h g (mO 1 [.ref (g + 1), .int (nI nx'), .int (nI (sz + 1))])
  let h3 := m_up h2 g (mO 1 [.ref (g + 1), .int (nI nx'), .int (nI sz)])
  have F3 : fr h h3 g (g + 1) := fr.up.tr fr.up
  have g3 : h3 g = some (mO 1 [.ref (g + 1), .int (nI nx'), .int (nI sz)]) := m_up_same _ _ _
  have b5 : ∀ i, i < 6 → isC h3 (g + 2 + 9 * i) (rk i) := fun i hi => (a5 i hi).fr F3 (by omega)
  have hrk : rk nx' = sv 0 := by
    rw [a6 0 (by omega)]
    congr 1
    rw [hnx]; split <;> omega
  obtain ⟨h4, e4, p4, f4⟩ := copyState (b5 nx' hnx') (S.fr F3 (by omega)) (by omega)
  refine ⟨h3, h4, ?_, ⟨nx', rk, rf, f4.O g3 (by omega), f4.O (F3.O a1 (by omega)) (by omega), a2, hnx', by omega, fun i hi => (b5 i hi).fr f4 (by omega), fun j hj => ?_⟩, hrk ▸ p4, F3, f4⟩
  · have w1 : m_put h 1 g 1 (.int (nI nx')) = some h2 := put_O a0 (k := 1) (show 1 < 3 by decide)
    have g2 : h2 g = some (mO 1 [.ref (g + 1), .int (nI nx'), .int (nI (sz + 1))]) := m_up_same _ _ _
    have w2 : m_put h2 1 g 2 (.int (nI sz)) = some h3 := put_O g2 (k := 2) (show 2 < 3 by decide)
    have tail : s_X2_popInto_b18 h g s g (nI nx') = some h4 := by
      rw [s_X2_popInto_b18, w1, bS, gi_O g2 (k := 2) rfl, bS, nI_pred, w2, bS, gi_O g3 (k := 1) rfl, bS, is_O g3, bS, slot_V g3 (F3.O a1 (by omega)) hnx', bS, a2 nx' hnx']
      show ((m_is h3 2 s).bind fun _ => (s_X3_copyFrom h3 s (g + 2 + 9 * nx')).bind fun h46 => s_X2_popInto_b49 h46) = _
      rw [is_O (S.fr F3 (by omega)).1, bS, e4, bS]
      rfl
    rw [s_X2_popInto, gi_O a0 (k := 1) rfl, bS]
    by_cases q : nx = 0
    · subst q
      rw [if_pos (show nI 0 ≤ 0 by decide)]
      have : nx' = 5 := by rw [hnx, if_neg (by omega)]
      rw [this] at tail
      exact tail
    · obtain ⟨m, rfl⟩ : ∃ m, nx = m + 1 := ⟨nx - 1, by omega⟩
      rw [if_neg (nI_nle (by omega) (by omega)), bS, nI_pred]
      have : nx' = m := by rw [hnx, if_pos (by omega)]; omega
      rw [this] at tail
      exact tail
  · show sv (j + 1) = _
    rw [a6 (j + 1) (by omega)]
    congr 1
    rw [hnx]; split <;> omega
end PV
