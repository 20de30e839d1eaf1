/-! PURE: the reference's reader, piece by piece -/
section RTd
def sg (bl : Nat) (bc : Nat → Nat) (p : Nat) : Nat := if p < bl then bc p else 0
def okR (bl : Nat) (bc : Nat → Nat) (R : Nat × Option mD) (p : Nat) (s : mD) : Prop := p ≤ bl ∧ R = drun bc (bl - p) p s
def noR (bl : Nat) (R : Nat × Option mD) (p : Nat) : Prop := p ≤ bl ∧ R.1 = p ∧ ¬ ∃ s, R.2 = some s ∧ s.1 = 7
variable {bl p : Nat} {bc : Nat → Nat} {R : Nat × Option mD} {s s' : mD}
theorem sg_lt (h : sg bl bc p ≠ 0) : p < bl ∧ sg bl bc p = bc p := by
  unfold sg at h ⊢
  by_cases q : p < bl
  · rw [if_pos q]; exact ⟨q, rfl⟩
  · rw [if_neg q] at h; exact absurd rfl h
theorem ok_yes (K : okR bl bc R p s) (hp : p < bl) (hd : dstep s (bc p) = some s') : okR bl bc R (p + 1) s' := by
  refine ⟨hp, ?_⟩
  obtain ⟨d, hd'⟩ : ∃ d, bl - p = d + 1 := ⟨bl - p - 1, by omega⟩
  rw [K.2, hd', show bl - (p + 1) = d by omega]
  show (match dstep s (bc p) with | some s' => drun bc d (p + 1) s' | none => (p, none)) = _
  rw [hd]
theorem ok_no (K : okR bl bc R p s) (hp : p < bl) (hd : dstep s (bc p) = none) : noR bl R p := by
  obtain ⟨d, hd'⟩ : ∃ d, bl - p = d + 1 := ⟨bl - p - 1, by omega⟩
  have e : R = (p, none) := by
    rw [K.2, hd']
    show (match dstep s (bc p) with | some s' => drun bc d (p + 1) s' | none => (p, none)) = _
    rw [hd]
  rw [e]
  exact ⟨K.1, rfl, fun ⟨s, h1, _⟩ => by cases h1⟩
theorem ok_end (K : okR bl bc R p s) (hp : ¬ p < bl) (h7 : s.1 ≠ 7) : noR bl R p := by
  have hp' := K.1
  have e : R = (p, some s) := by
    rw [K.2, show bl - p = 0 by omega]; rfl
  rw [e]
  exact ⟨K.1, rfl, fun ⟨s', h1, h2⟩ => by cases h1; exact h7 h2⟩
theorem ok_stop (K : okR bl bc R p s) (hd : dstep s (sg bl bc p) = none) (h7 : s.1 ≠ 7) : noR bl R p := by
  by_cases q : p < bl
  · exact ok_no K q (by rw [← hd]; unfold sg; rw [if_pos q])
  · exact ok_end K q h7
theorem ok_step (K : okR bl bc R p s) (hd : dstep s (sg bl bc p) = some s') (h0 : sg bl bc p ≠ 0) : okR bl bc R (p + 1) s' := by
  obtain ⟨h1, h2⟩ := sg_lt h0
  exact ok_yes K h1 (by rw [← h2]; exact hd)
def isJ (h : mH) (M : Nat) (sm : Int32) (bl p : Nat) (w : Int32) (rm : Nat) (hs : Int64) (b r : Nat → Int32) : Prop := h M = some (mOb M 0 sm (nI bl) (nI p) w (nI rm) hs) ∧ isA h (M + 4) 60 b ∧ isA h (M + 6) 64 r
variable {h : mH} {M rm : Nat} {sm w : Int32} {hs : Int64} {b r : Nat → Int32}
theorem isJ.up {p' rm' : Nat} {w' : Int32} (A : isJ h M sm bl p w rm hs b r) : isJ (m_up h M (mOb M 0 sm (nI bl) (nI p') w' (nI rm') hs)) M sm bl p' w' rm' hs b r := by
  have F : fr h (m_up h M (mOb M 0 sm (nI bl) (nI p') w' (nI rm') hs)) M (M + 1) := fr.up
  exact ⟨m_up_same _ _ _, A.2.1.fr F (by omega), A.2.2.fr F (by omega)⟩
theorem isJ.p8 (A : isJ h M sm bl p w rm hs b r) (p' : Nat) : ∃ h', m_put h 6 M 8 (.int (nI p')) = some h' ∧ isJ h' M sm bl p' w rm hs b r ∧ fr h h' M (M + 1) := ⟨_, put_O A.1 (k := 8) (show 8 < 13 by decide), A.up, fr.up⟩
theorem isJ.p9 (A : isJ h M sm bl p w rm hs b r) (w' : Int32) : ∃ h', m_put h 6 M 9 (.int w') = some h' ∧ isJ h' M sm bl p w' rm hs b r ∧ fr h h' M (M + 1) := ⟨_, put_O A.1 (k := 9) (show 9 < 13 by decide), A.up, fr.up⟩
theorem isJ.p11 (A : isJ h M sm bl p w rm hs b r) (rm' : Nat) : ∃ h', m_put h 6 M 11 (.int (nI rm')) = some h' ∧ isJ h' M sm bl p w rm' hs b r ∧ fr h h' M (M + 1) := ⟨_, put_O A.1 (k := 11) (show 11 < 13 by decide), A.up, fr.up⟩
theorem sign_J (A : isJ h M sm bl p w rm hs b r) (hB : isB bl b bc) (hp : p ≤ bl) : s_X8_sign h M = some (nI (sg bl bc p)) := by
  obtain ⟨hb, hB⟩ := hB
  rw [s_X8_sign, gi_O A.1 (k := 8) rfl, bS, gi_O A.1 (k := 6) rfl, bS]
  unfold sg
  by_cases q : p < bl
  · rw [if_neg (nI_ge q (by omega)), if_pos q, gr_O A.1 (k := 5) rfl, bS, bS, iald_A A.2.1 (show p < 60 by omega) (by decide), bS, (hB p q).1]; rfl
  · rw [if_pos (nI_le (by omega) (by omega)), if_neg q]; rfl
theorem sg_127 (hB : isB bl b bc) (p : Nat) : sg bl bc p < 127 := by
  unfold sg
  by_cases q : p < bl
  · rw [if_pos q]; exact (hB.2 p q).2
  · rw [if_neg q]; decide
theorem wants_0 (A : isJ h M sm bl p w rm hs b r) : ∃ h', s_X8_wants_b20 h M M = some h' ∧ isJ h' M sm bl p 0 rm hs b r ∧ fr h h' M (M + 1) := by
  obtain ⟨h1, a1, a2, a3⟩ := A.p9 0
  obtain ⟨h2, b1, b2, b3⟩ := a2.p8 p
  refine ⟨h2, ?_, b2, a3.tr b3⟩
  rw [s_X8_wants_b20, s_X8_wants_b21, z_0, bS, a1, bS, gi_O a2.1 (k := 8) rfl, bS, gi_O a2.1 (k := 9) rfl, bS, if_pos rfl, s_X8_wants_b41, Int32.add_zero, b1, bS]
theorem wants_1 (A : isJ h M sm bl p w rm hs b r) : ∃ h', s_X8_wants_b21 h M M 1 = some h' ∧ isJ h' M sm bl (p + 1) 1 rm hs b r ∧ fr h h' M (M + 1) := by
  obtain ⟨h1, a1, a2, a3⟩ := A.p9 1
  obtain ⟨h2, b1, b2, b3⟩ := a2.p8 (p + 1)
  refine ⟨h2, ?_, b2, a3.tr b3⟩
  rw [s_X8_wants_b21, z_1, bS, a1, bS, gi_O a2.1 (k := 8) rfl, bS, gi_O a2.1 (k := 9) rfl, bS, if_neg (by decide), s_X8_wants_b41, nI_1, b1, bS]
theorem wants_w0 (A : isJ h M sm bl p 0 rm hs b r) {v : Int32} : ∃ h', s_X8_wants h M v = some h' ∧ isJ h' M sm bl p 0 rm hs b r ∧ fr h h' M (M + 1) := by
  obtain ⟨h', e1, e2, e3⟩ := wants_0 A
  refine ⟨h', ?_, e2, e3⟩
  rw [s_X8_wants, gi_O A.1 (k := 9) rfl, bS, if_pos rfl, e1]
theorem wants_yes (A : isJ h M sm bl p 1 rm hs b r) (hB : isB bl b bc) (hp : p ≤ bl) {v : Nat} (q : sg bl bc p = v) : ∃ h', s_X8_wants h M (nI v) = some h' ∧ isJ h' M sm bl (p + 1) 1 rm hs b r ∧ fr h h' M (M + 1) := by
  obtain ⟨h', e1, e2, e3⟩ := wants_1 A
  refine ⟨h', ?_, e2, e3⟩
  rw [s_X8_wants, gi_O A.1 (k := 9) rfl, bS, if_neg (by decide), is_O A.1, bS, sign_J A hB hp, bS, if_pos (by rw [q]), e1]
theorem wants_no (A : isJ h M sm bl p 1 rm hs b r) (hB : isB bl b bc) (hp : p ≤ bl) {v : Nat} (hv : v < 127) (q : sg bl bc p ≠ v) : ∃ h', s_X8_wants h M (nI v) = some h' ∧ isJ h' M sm bl p 0 rm hs b r ∧ fr h h' M (M + 1) := by
  obtain ⟨h', e1, e2, e3⟩ := wants_0 A
  refine ⟨h', ?_, e2, e3⟩
  have := sg_127 hB p
  rw [s_X8_wants, gi_O A.1 (k := 9) rfl, bS, if_neg (by decide), is_O A.1, bS, sign_J A hB hp, bS, if_neg (fun z => q ((nI_eq (by omega) (by omega)).mp z)), e1]
/-! numbers -/
def ext (B v x : Nat) : Prop := (48 ≤ x ∧ x < 58) ∧ v ≠ 0 ∧ v * 10 + (x - 48) < B + 1
theorem num_L {α : Type} {S : Nat → α → mD} {B : Nat} (hB : isB bl b bc) (hB2 : B < 10000) (hS : ∀ v j x, ext B v x → ∃ j', dstep (S v j) x = some (S (v * 10 + (x - 48)) j')) : ∀ (d p F : Nat) (h : mH) (v : Nat) (j : α), isJ h M sm bl p 1 rm hs b r → okR bl bc R p (S v j) → p + d = bl → d < F → v ≤ B →
    ∃ v' p' j' h', s_X8_number_L72 F h M (nI B) (nI v) = some (nI v', h') ∧ isJ h' M sm bl p' 1 rm hs b r ∧ p ≤ p' ∧ v' ≤ B ∧ okR bl bc R p' (S v' j') ∧ ¬ ext B v' (sg bl bc p') ∧ fr h h' M (M + 1) := by
  intro d
  induction d with
  | zero =>
    intro p F h v j A K hp hF hv
    obtain ⟨F, rfl⟩ : ∃ F', F = F' + 1 := ⟨F - 1, by omega⟩
    have s0 : sg bl bc p = 0 := by unfold sg; rw [if_neg (by omega)]
    refine ⟨v, p, j, h, ?_, A, Nat.le_refl _, hv, K, fun z => by have := z.1; omega, fr.rf⟩
    rw [s_X8_number_L72, gi_O A.1 (k := 9) rfl, bS, if_neg (by decide)]
    by_cases q : v = 0
    · rw [q, if_pos (show nI 0 ≤ 0 by decide)]; rfl
    · rw [if_neg (nI_nle (by omega) (by omega)), is_O A.1, bS, sign_J A hB (by omega), bS, s0, in_no (Or.inl (show nI 0 < 48 by decide)), bS, if_pos rfl]; rfl
  | succ d ih =>
    intro p F h v j A K hp hF hv
    obtain ⟨F, rfl⟩ : ∃ F', F = F' + 1 := ⟨F - 1, by omega⟩
    have h127 := sg_127 hB p
    by_cases e : ext B v (sg bl bc p)
    · obtain ⟨j', hj⟩ := hS v j _ e
      have K1 := ok_step K hj (by have := e.1; omega)
      obtain ⟨h1, a1, a2, a3⟩ := A.p8 (p + 1)
      obtain ⟨v', p', j2, h', g1, g2, g3, g4, g5, g6, g7⟩ := ih (p + 1) F h1 _ j' a2 K1 (by omega) (by omega) (by have := e.2.2; omega)
      refine ⟨v', p', j2, h', ?_, g2, by omega, g4, g5, g6, a3.tr g7⟩
      obtain ⟨⟨e1, e2⟩, e3, e4⟩ := e
      have ev : 10 * nI v + nI (sg bl bc p) - 48 = nI (v * 10 + (sg bl bc p - 48)) := by
        rw [show (10 : Int32) = nI 10 from rfl, nI_mul, nI_add]
        refine (nI_sub (b := 48) (by omega)).trans ?_
        congr 1; omega
      rw [s_X8_number_L72, gi_O A.1 (k := 9) rfl, bS, if_neg (by decide), if_neg (nI_nle (by omega) (by omega)), is_O A.1, bS, sign_J A hB K.1, bS, in_yes (show ¬ nI (sg bl bc p) < 48 from nI_nlt (b := 48) e1 (by omega)) (show ¬ (57 : Int32) < nI (sg bl bc p) from nI_nlt (a := 57) (by omega) (by decide)), bS, if_neg (by decide), bS, bS, ev, if_neg (nI_nlt (by omega) (by omega)), bS, bS, gi_O A.1 (k := 8) rfl, bS, nI_1, a1, bS, ev, g1]
    · refine ⟨v, p, j, h, ?_, A, Nat.le_refl _, hv, K, e, fr.rf⟩
      rw [s_X8_number_L72, gi_O A.1 (k := 9) rfl, bS, if_neg (by decide)]
      by_cases q : v = 0
      · rw [q, if_pos (show nI 0 ≤ 0 by decide)]; rfl
      · rw [if_neg (nI_nle (by omega) (by omega)), is_O A.1, bS, sign_J A hB K.1, bS]
        by_cases q1 : 48 ≤ sg bl bc p ∧ sg bl bc p < 58
        · have ev : 10 * nI v + nI (sg bl bc p) - 48 = nI (v * 10 + (sg bl bc p - 48)) := by
            rw [show (10 : Int32) = nI 10 from rfl, nI_mul, nI_add]
            refine (nI_sub (b := 48) (by omega)).trans ?_
            congr 1; omega
          have q2 : ¬ v * 10 + (sg bl bc p - 48) < B + 1 := fun z => e ⟨q1, q, z⟩
          rw [in_yes (show ¬ nI (sg bl bc p) < 48 from nI_nlt (b := 48) q1.1 (by omega)) (show ¬ (57 : Int32) < nI (sg bl bc p) from nI_nlt (a := 57) (by omega) (by decide)), bS, if_neg (by decide), bS, bS, ev, if_pos (nI_lt (by omega) (by omega))]; rfl
        · have : nI (sg bl bc p) < 48 ∨ (57 : Int32) < nI (sg bl bc p) := by
            by_cases z : 48 ≤ sg bl bc p
            · exact Or.inr (nI_lt (a := 57) (by omega) (by omega))
            · exact Or.inl (nI_lt (b := 48) (by omega) (by decide))
          rw [in_no this, bS, if_pos rfl]; rfl
theorem num_0 (A : isJ h M sm bl p w rm hs b r) (hB : isB bl b bc) (hp : p ≤ bl) {B : Int32} : ∃ x h', s_X8_number_b39 h M B M = some (x, h') ∧ isJ h' M sm bl p 0 rm hs b r ∧ fr h h' M (M + 1) := by
  obtain ⟨h1, a1, a2, a3⟩ := A.p9 0
  obtain ⟨h2, b1, b2, b3⟩ := a2.p8 p
  refine ⟨nI (sg bl bc p) - 48, h2, ?_, b2, a3.tr b3⟩
  have lp : s_X8_number_L72 m_F h2 M B (nI (sg bl bc p) - 48) = some (nI (sg bl bc p) - 48, h2) := by
    show s_X8_number_L72 (3999 + 1) h2 M B (nI (sg bl bc p) - 48) = _
    rw [s_X8_number_L72, gi_O b2.1 (k := 9) rfl, bS, if_pos rfl]; rfl
  rw [s_X8_number_b39, s_X8_number_b40, z_0, bS, a1, bS, is_O a2.1, bS, sign_J a2 hB hp, bS, gi_O a2.1 (k := 8) rfl, bS, gi_O a2.1 (k := 9) rfl, bS, if_pos rfl, s_X8_number_b68, Int32.add_zero, b1, bS, lp]
theorem num_w0 (A : isJ h M sm bl p 0 rm hs b r) (hB : isB bl b bc) (hp : p ≤ bl) {B : Int32} : ∃ x h', s_X8_number h M B = some (x, h') ∧ isJ h' M sm bl p 0 rm hs b r ∧ fr h h' M (M + 1) := by
  obtain ⟨x, h', e1, e2, e3⟩ := num_0 (B := B) A hB hp
  refine ⟨x, h', ?_, e2, e3⟩
  rw [s_X8_number, gi_O A.1 (k := 9) rfl, bS, if_pos rfl, e1]
/-- the first digit -/
abbrev dg1 (B x : Nat) : Prop := 48 ≤ x ∧ x < 49 + min B 9
theorem num_pre (A : isJ h M sm bl p 1 rm hs b r) (hB : isB bl b bc) (hp : p ≤ bl) {B : Nat} (hB2 : B < 10000) : s_X8_number h M (nI B) = (if dg1 B (sg bl bc p) then s_X8_number_b40 h M (nI B) M 1 else s_X8_number_b39 h M (nI B) M) := by
  have h127 := sg_127 hB p
  rw [s_X8_number, gi_O A.1 (k := 9) rfl, bS, if_neg (by decide), is_O A.1, bS, sign_J A hB hp, bS]
  by_cases c : 9 ≤ B
  · rw [if_pos (show (9 : Int32) ≤ nI B from nI_le (a := 9) c (by omega)), s_X8_number_b29]
    by_cases q : dg1 B (sg bl bc p)
    · rw [if_pos q, in_yes (show ¬ nI (sg bl bc p) < 48 from nI_nlt (b := 48) q.1 (by omega)) (show ¬ (57 : Int32) < nI (sg bl bc p) from nI_nlt (a := 57) (by have := q.2; omega) (by decide)), bS, if_neg (by decide)]
    · have : nI (sg bl bc p) < 48 ∨ (57 : Int32) < nI (sg bl bc p) := by
        by_cases z : 48 ≤ sg bl bc p
        · exact Or.inr (nI_lt (a := 57) (by unfold dg1 at q; omega) (by omega))
        · exact Or.inl (nI_lt (b := 48) (by omega) (by decide))
      rw [if_neg q, in_no this, bS, if_pos rfl]
  · rw [if_neg (show ¬ (9 : Int32) ≤ nI B from nI_ge (b := 9) (by omega) (by decide)), s_X8_number_b29, show (48 : Int32) + nI B = nI (48 + B) from nI_add 48 B]
    by_cases q : dg1 B (sg bl bc p)
    · rw [if_pos q, in_yes (show ¬ nI (sg bl bc p) < 48 from nI_nlt (b := 48) q.1 (by omega)) (show ¬ nI (48 + B) < nI (sg bl bc p) from nI_nlt (by have := q.2; omega) (by omega)), bS, if_neg (by decide)]
    · have : nI (sg bl bc p) < 48 ∨ nI (48 + B) < nI (sg bl bc p) := by
        by_cases z : 48 ≤ sg bl bc p
        · exact Or.inr (nI_lt (by unfold dg1 at q; omega) (by omega))
        · exact Or.inl (nI_lt (b := 48) (by omega) (by decide))
      rw [if_neg q, in_no this, bS, if_pos rfl]
theorem num_J {α : Type} {S : Nat → α → mD} {B : Nat} (hB : isB bl b bc) (hB2 : B < 10000) (hS : ∀ v j x, ext B v x → ∃ j', dstep (S v j) x = some (S (v * 10 + (x - 48)) j')) (A : isJ h M sm bl p 1 rm hs b r) (K : okR bl bc R p s) (h7 : s.1 ≠ 7) (hy : ∀ x, dg1 B x → ∃ j, dstep s x = some (S (x - 48) j)) (hn : ∀ x, ¬ dg1 B x → dstep s x = none) :
    (∃ v p' j h', s_X8_number h M (nI B) = some (nI v, h') ∧ isJ h' M sm bl p' 1 rm hs b r ∧ p + 1 ≤ p' ∧ v ≤ B ∧ okR bl bc R p' (S v j) ∧ ¬ ext B v (sg bl bc p') ∧ fr h h' M (M + 1)) ∨
    (noR bl R p ∧ ∃ x h', s_X8_number h M (nI B) = some (x, h') ∧ isJ h' M sm bl p 0 rm hs b r ∧ fr h h' M (M + 1)) := by
  have hp := K.1
  rw [num_pre A hB hp hB2]
  by_cases q : dg1 B (sg bl bc p)
  · refine Or.inl ?_
    rw [if_pos q]
    obtain ⟨j, hj⟩ := hy _ q
    have K1 := ok_step K hj (by have := q.1; omega)
    obtain ⟨h1, a1, a2, a3⟩ := A.p9 1
    obtain ⟨h2, b1, b2, b3⟩ := a2.p8 (p + 1)
    obtain ⟨v', p', j', h', g1, g2, g3, g4, g5, g6, g7⟩ := num_L hB hB2 hS (bl - (p + 1)) (p + 1) m_F h2 _ j b2 K1 (by have := K1.1; omega) (by have := hB.1; unfold m_F; omega) (by have := q.1; have := q.2; omega)
    refine ⟨v', p', j', h', ?_, g2, g3, g4, g5, g6, (a3.tr b3).tr g7⟩
    rw [s_X8_number_b40, z_1, bS, a1, bS, is_O a2.1, bS, sign_J a2 hB hp, bS, gi_O a2.1 (k := 8) rfl, bS, gi_O a2.1 (k := 9) rfl, bS, if_neg (by decide), s_X8_number_b68, nI_1, b1, bS, show nI (sg bl bc p) - 48 = nI (sg bl bc p - 48) from nI_sub (b := 48) q.1, g1]
  · refine Or.inr ⟨ok_stop K (hn _ q) h7, ?_⟩
    rw [if_neg q]
    exact num_0 A hB hp
end RTd
