/-! PURE: the reference's weeks and counts -/
section RC
def isQ (h : mH) (M : Nat) (o : mE) (f : Nat → Int32) : Prop := h M = some o ∧ isA h (M + 1) 492 f ∧ ∃ m, isA h (M + 5) 61 m
theorem isQ.fr {h h' : mH} {M : Nat} {o : mE} {f : Nat → Int32} (A : isQ h M o f) (F : fr h h' (M + 5) (M + 6)) {m : Nat → Int32} (B : isA h' (M + 5) 61 m) : isQ h' M o f := ⟨F.O A.1 (by omega), A.2.1.fr F (by omega), m, B⟩
variable {h : mH} {M : Nat} {t sm ln p wl rm : Int32} {hs : Int64} {f : Nat → Int32} {k : mK}
theorem ofDay_Q (A : isQ h M (mOb M t sm ln p wl rm hs) f) (S : isS f k) (hn : kn k ≤ 61) (hv : vTs (kn k) (ktp k)) {w d q : Nat} (hw : w < 4) (hd : d < 28) (hq : q < 4) : ∃ h', s_X8_ofDay h M (nI w) (nI d) (nI q) = some (aDay k w d q, h') ∧ isQ h' M (mOb M t sm ln p wl rm hs) f ∧ fr h h' (M + 5) (M + 6) := by
  obtain ⟨a0, a1, m, a2⟩ := id A
  obtain ⟨h', m', e1, e2, e3⟩ := ofDay_M a0 a1 S hn hv a2 hw hd hq
  exact ⟨h', e1, A.fr e3 e2, e3⟩
theorem overDays_L (S : isS f k) (hn : kn k ≤ 61) (hv : vTs (kn k) (ktp k)) {w j q : Nat} (hw : w < 4) (hj : j < 4) (hq : q < 4) : ∀ (e i F : Nat) (h : mH), isQ h M (mOb M t sm ln p wl rm hs) f → i + e = 7 → e < F →
    ∃ h', s_X8_overDays_L9 F h M (nI w) (nI j) (nI q) (sumF (fun i => aDay k w (j * 7 + i) q) i) (nI (j * 7 + i)) = some (sumF (fun i => aDay k w (j * 7 + i) q) 7, h') ∧ isQ h' M (mOb M t sm ln p wl rm hs) f ∧ fr h h' (M + 5) (M + 6) := by
  intro e
  have ev : 7 * nI j + 7 = nI (j * 7 + 7) := by rw [show (7 : Int32) = nI 7 from rfl, nI_mul, nI_add, Nat.mul_comm]
  induction e with
  | zero =>
    intro i F h A hi hF
    obtain ⟨F, rfl⟩ : ∃ F', F = F' + 1 := ⟨F - 1, by omega⟩
    obtain rfl : i = 7 := by omega
    refine ⟨h, ?_, A, fr.rf⟩
    rw [s_X8_overDays_L9, ev, if_pos (nI_le (Nat.le_refl _) (by omega))]
  | succ e ih =>
    intro i F h A hi hF
    obtain ⟨F, rfl⟩ : ∃ F', F = F' + 1 := ⟨F - 1, by omega⟩
    obtain ⟨h1, e1, e2, e3⟩ := ofDay_Q A S hn hv hw (show j * 7 + i < 28 by omega) hq
    obtain ⟨h2, g1, g2, g3⟩ := ih (i + 1) F h1 e2 (by omega) (by omega)
    refine ⟨h2, ?_, g2, e3.tr g3⟩
    rw [s_X8_overDays_L9, ev, if_neg (nI_ge (by omega) (by omega)), is_O A.1, bS, e1, bS]
    show s_X8_overDays_L9 F h1 M (nI w) (nI j) (nI q) _ (nI (j * 7 + i) + 1) = _
    rw [show nI (j * 7 + i) + 1 = nI (j * 7 + (i + 1)) from nI_1 _]
    exact g1
theorem overDays_M (A : isQ h M (mOb M t sm ln p wl rm hs) f) (S : isS f k) (hn : kn k ≤ 61) (hv : vTs (kn k) (ktp k)) {w j q : Nat} (hw : w < 4) (hj : j < 4) (hq : q < 4) :
    ∃ h', s_X8_overDays h M (nI w) (nI j) (nI q) = some (sumF (fun i => aDay k w (j * 7 + i) q) 7, h') ∧ isQ h' M (mOb M t sm ln p wl rm hs) f ∧ fr h h' (M + 5) (M + 6) := by
  obtain ⟨h', e1, e2, e3⟩ := overDays_L S hn hv hw hj hq 7 0 m_F h A (by decide) (by unfold m_F; decide)
  refine ⟨h', ?_, e2, e3⟩
  rw [s_X8_overDays, show (7 : Int32) = nI 7 from rfl, nI_mul, Nat.mul_comm]
  exact e1
theorem costs_M (A : isQ h M (mOb M t sm ln p wl rm hs) f) (S : isS f k) (hn : kn k ≤ 61) (hv : vTs (kn k) (ktp k)) {w j : Nat} (hw : w < 4) (hj : j < 4) :
    ∃ h', s_X8_costs h M (nI w) (nI j) = some (kw k w j, h') ∧ isQ h' M (mOb M t sm ln p wl rm hs) f ∧ fr h h' (M + 5) (M + 6) := by
  obtain ⟨h', e1, e2, e3⟩ := overDays_M A S hn hv hw hj (show 3 < 4 by decide)
  refine ⟨h', ?_, e2, e3⟩
  rw [s_X8_costs, is_O A.1, bS, show (3 : Int32) = nI 3 from rfl, e1, bS]
  show ((m_gr h' 6 M 1).bind fun x10 => _) = _
  rw [show (5 : Int32) = nI 5 from rfl, st_M e2.1 e2.2.1 (by decide), S.1 5 (by decide)]
  show (if kset k 5 ≤ wdays (kn k) (kset k) (ktp k) w j then _ else _) = some ((if kset k 5 < wdays (kn k) (kset k) (ktp k) w j then kset k 5 else wdays (kn k) (kset k) (ktp k) w j), h')
  by_cases z : kset k 5 ≤ wdays (kn k) (kset k) (ktp k) w j
  · rw [if_pos z, st_M e2.1 e2.2.1 (by decide), S.1 5 (by decide)]
    by_cases y : kset k 5 < wdays (kn k) (kset k) (ktp k) w j
    · rw [if_pos y]; rfl
    · have ee : kset k 5 = wdays (kn k) (kset k) (ktp k) w j := Int32.le_antisymm z (Int32.not_lt.mp y)
      rw [if_neg y, ← ee]; rfl
  · rw [if_neg z, if_neg (fun y => z (Int32.le_of_lt y))]; rfl
theorem tellsWeek_M (A : isQ h M (mOb M t sm ln p wl rm hs) f) (S : isS f k) (hn : kn k ≤ 61) (hv : vTs (kn k) (ktp k)) {w j q : Nat} (hw : w < 4) (hj : j < 4) (hq : q < 7) :
    ∃ h', s_X8_tellsWeek h M (nI w) (nI j) (nI q) = some (aWeek k w j q, h') ∧ isQ h' M (mOb M t sm ln p wl rm hs) f ∧ fr h h' (M + 5) (M + 6) := by
  have ec : ∀ b : Nat, nI b + (4 * nI w + nI j) = nI (b + (w * 4 + j)) := fun b => by rw [show (4 : Int32) = nI 4 from rfl, nI_mul, nI_add, nI_add, Nat.mul_comm]
  have hc : w * 4 + j < 16 := by omega
  match q, hq with
  | 0, _ =>
    obtain ⟨h', e1, e2, e3⟩ := overDays_M A S hn hv hw hj (show 0 < 4 by decide)
    refine ⟨h', ?_, e2, e3⟩
    rw [s_X8_tellsWeek, if_pos (show nI 0 = 0 from rfl), is_O A.1, bS, show (0 : Int32) = nI 0 from rfl, e1]; rfl
  | 1, _ =>
    obtain ⟨h', e1, e2, e3⟩ := overDays_M A S hn hv hw hj (show 2 < 4 by decide)
    refine ⟨h', ?_, e2, e3⟩
    rw [s_X8_tellsWeek, if_neg (show ¬ nI 1 = 0 by decide), if_pos (show nI 1 = 1 from rfl), s_X8_tellsWeek_b56, is_O A.1, bS, show nI 1 + 1 = nI 2 from rfl, e1]; rfl
  | 2, _ =>
    obtain ⟨h', e1, e2, e3⟩ := overDays_M A S hn hv hw hj (show 3 < 4 by decide)
    refine ⟨h', ?_, e2, e3⟩
    rw [s_X8_tellsWeek, if_neg (show ¬ nI 2 = 0 by decide), if_neg (show ¬ nI 2 = 1 by decide), if_pos (show nI 2 = 2 from rfl), s_X8_tellsWeek_b56, is_O A.1, bS, show nI 2 + 1 = nI 3 from rfl, e1]; rfl
  | 3, _ =>
    obtain ⟨h', e1, e2, e3⟩ := costs_M A S hn hv hw hj
    refine ⟨h', ?_, e2, e3⟩
    rw [s_X8_tellsWeek, if_neg (show ¬ nI 3 = 0 by decide), if_neg (show ¬ nI 3 = 1 by decide), if_neg (show ¬ nI 3 = 2 by decide), if_pos (show nI 3 = 3 from rfl), is_O A.1, bS, e1]; rfl
  | 4, _ =>
    refine ⟨h, ?_, A, fr.rf⟩
    rw [s_X8_tellsWeek, if_neg (show ¬ nI 4 = 0 by decide), if_neg (show ¬ nI 4 = 1 by decide), if_neg (show ¬ nI 4 = 2 by decide), if_neg (show ¬ nI 4 = 3 by decide), if_pos (show nI 4 = 4 from rfl), show (376 : Int32) = nI 376 from rfl, ec, st_M A.1 A.2.1 (by omega), S.2.2.2.2.2.1 _ hc]; rfl
  | 5, _ =>
    refine ⟨h, ?_, A, fr.rf⟩
    rw [s_X8_tellsWeek, if_neg (show ¬ nI 5 = 0 by decide), if_neg (show ¬ nI 5 = 1 by decide), if_neg (show ¬ nI 5 = 2 by decide), if_neg (show ¬ nI 5 = 3 by decide), if_neg (show ¬ nI 5 = 4 by decide), if_pos (show nI 5 = 5 from rfl), show (392 : Int32) = nI 392 from rfl, ec, st_M A.1 A.2.1 (by omega), S.2.2.2.2.2.2.1 _ hc]; rfl
  | 6, _ =>
    refine ⟨h, ?_, A, fr.rf⟩
    rw [s_X8_tellsWeek, if_neg (show ¬ nI 6 = 0 by decide), if_neg (show ¬ nI 6 = 1 by decide), if_neg (show ¬ nI 6 = 2 by decide), if_neg (show ¬ nI 6 = 3 by decide), if_neg (show ¬ nI 6 = 4 by decide), if_neg (show ¬ nI 6 = 5 by decide), show (408 : Int32) = nI 408 from rfl, ec, st_M A.1 A.2.1 (by omega), S.2.2.2.2.2.2.2.1 _ hc]; rfl
end RC
