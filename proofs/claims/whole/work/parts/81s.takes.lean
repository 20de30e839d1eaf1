/-! PURE: the reader takes a sign -/
section PTk
def isRDs (h : mH) (g : Nat) (s : mD) : Prop := isRD h g s.1 s.2.1 s.2.2.1 s.2.2.2.1 s.2.2.2.2.1 s.2.2.2.2.2.1 s.2.2.2.2.2.2.1 s.2.2.2.2.2.2.2
def dVs (s : mD) (p : Nat) : Prop := dV s.1 s.2.1 s.2.2.1 s.2.2.2.1 s.2.2.2.2.1 s.2.2.2.2.2.1 s.2.2.2.2.2.2.1 p s.2.2.2.2.2.2.2
def tkOK (h : mH) (g : Nat) (s : mD) (x p : Nat) : Prop := (∃ s' h', dstep s x = some s' ∧ s_X6_takes h g (nI x) = some (1, h') ∧ isRDs h' g s' ∧ dVs s' (p + 1) ∧ fr h h' g (g + 2)) ∨ (dstep s x = none ∧ ∃ h', s_X6_takes h g (nI x) = some (0, h') ∧ isRR h' g ∧ fr h h' g (g + 2))
variable {h : mH} {g tc nm wl dy mn i x p : Nat} {tp : Nat → Nat → Nat}
theorem tk0 (hx : x < 127) (A : isRD h g 0 nm wl dy mn i tc tp) (V : dV 0 nm wl dy mn i tc p tp) : tkOK h g (mkD 0 nm wl dy mn i tc tp) x p := by
  obtain ⟨⟨a, b, c, d, e, H, -, -, -, -⟩, f, F, hf⟩ := A
  obtain ⟨-, -, -, -, -, -, v7, -, v9⟩ := V
  have w : m_put h 4 g 4 (.int (nI x - 48)) = some (m_up h g (rdO g tc 0 a (nI x - 48) c d e)) := put_O H (k := 4) (show 4 < 8 by decide)
  have u : (m_up h g (rdO g tc 0 a (nI x - 48) c d e)) g = some (rdO g tc 0 a (nI x - 48) c d e) := m_up_same _ _ _
  have E : fr h (m_up h g (rdO g tc 0 a (nI x - 48) c d e)) g (g + 1) := fr.up
  by_cases q : 48 ≤ x ∧ x < 52
  · have E2 := fr.tr E (fr.up (e := rdO g tc 1 a (nI x - 48) c d e))
    refine Or.inl ⟨mkD 1 nm (x - 48) dy mn i tc tp, _, if_pos q, ?_, (show isRD _ g 1 nm (x - 48) dy mn i tc tp from ⟨⟨a, _, c, d, e, m_up_same _ _ _, fun z => by omega, fun _ => dig_hi q.1, fun z => by omega, fun z => by omega⟩, f, F.fr E2 (by omega), hf⟩), (show dV 1 nm (x - 48) dy mn i tc (p + 1) tp from ⟨by decide, fun z => by omega, fun z => by omega, fun _ => by show x - 48 < 4; omega, fun z => by omega, fun z => by omega, fun _ => by have := v7 (by decide); omega, fun z => by omega, v9⟩), E2.wd (by omega) (by omega)⟩
    rw [s_X6_takes, gi_O H (k := 2) rfl, bS, if_pos (show nI 0 = 0 from rfl), w, bS, gi_O u (k := 4) rfl, bS, show (4 : Int32) = nI 4 from rfl, dig_yes hx (by decide) q, bS, is_O u, bS, show (1 : Int32) = nI 1 from rfl]
    show ((s_X6_goesOn _ g 1 (nI 1)).bind fun (x66, h66) => _) = _
    rw [goes1 u]; rfl
  · refine Or.inr ⟨if_neg q, _, ?_, rdO_R u F E, E.wd (by omega) (by omega)⟩
    rw [s_X6_takes, gi_O H (k := 2) rfl, bS, if_pos (show nI 0 = 0 from rfl), w, bS, gi_O u (k := 4) rfl, bS, show (4 : Int32) = nI 4 from rfl, dig_no hx (by decide) q, bS, is_O u, bS, goes0]; rfl
theorem tk1 (hx : x < 127) (A : isRD h g 1 nm wl dy mn i tc tp) (V : dV 1 nm wl dy mn i tc p tp) : tkOK h g (mkD 1 nm wl dy mn i tc tp) x p := by
  obtain ⟨⟨a, b, c, d, e, H, -, hb, -, -⟩, f, F, hf⟩ := id A
  obtain ⟨-, -, -, v4, -, -, v7, -, v9⟩ := V
  have E : fr h (m_up h g (rdO g tc 2 a b c d e)) g (g + 1) := fr.up
  by_cases q : x = 100
  · subst q
    refine Or.inl ⟨mkD 2 nm wl dy mn i tc tp, _, rfl, ?_, (show isRD _ g 2 nm wl dy mn i tc tp from ⟨⟨a, b, c, d, e, m_up_same _ _ _, fun z => by omega, fun _ => hb (by decide), fun z => by omega, fun z => by omega⟩, f, F.fr E (by omega), hf⟩), (show dV 2 nm wl dy mn i tc (p + 1) tp from ⟨by decide, fun z => by omega, fun z => by omega, fun _ => v4 (by decide), fun z => by omega, fun z => by omega, fun _ => by have := v7 (by decide); omega, fun z => by omega, v9⟩), E.wd (by omega) (by omega)⟩
    rw [s_X6_takes, gi_O H (k := 2) rfl, bS, if_neg (show ¬ nI 1 = 0 by decide), if_pos (show nI 1 = 1 from rfl), if_pos (show nI 100 = 100 from rfl), s_X6_takes_b82, is_O H, bS, show (2 : Int32) = nI 2 from rfl, goes1 H]; rfl
  · refine Or.inr ⟨if_neg q, h, ?_, A.R, fr.rf⟩
    have q' : ¬ nI x = 100 := fun z => q ((nI_eq (b := 100) (by omega) (by decide)).mp z)
    rw [s_X6_takes, gi_O H (k := 2) rfl, bS, if_neg (show ¬ nI 1 = 0 by decide), if_pos (show nI 1 = 1 from rfl), if_neg q', s_X6_takes_b82, is_O H, bS, goes0]; rfl
theorem tk2 (hx : x < 127) (A : isRD h g 2 nm wl dy mn i tc tp) (V : dV 2 nm wl dy mn i tc p tp) : tkOK h g (mkD 2 nm wl dy mn i tc tp) x p := by
  obtain ⟨⟨a, b, c, d, e, H, -, hb, -, -⟩, f, F, hf⟩ := id A
  obtain ⟨-, -, -, v4, -, -, v7, -, v9⟩ := V
  by_cases q : 48 ≤ x ∧ x < 58
  · obtain ⟨h', e1, e2, e3⟩ := starts1 H hx 3 q
    refine Or.inl ⟨mkD 3 (x - 48) wl dy mn i tc tp, h', if_pos q, ?_, (show isRD _ g 3 (x - 48) wl dy mn i tc tp from ⟨⟨_, b, c, d, e, e2, fun _ => rfl, fun _ => hb (by decide), fun z => by omega, fun z => by omega⟩, f, F.fr e3 (by omega), hf⟩), (show dV 3 (x - 48) wl dy mn i tc (p + 1) tp from ⟨by decide, fun z => by show x - 48 < 28; omega, fun z => by omega, fun _ => v4 (by decide), fun z => by omega, fun z => by omega, fun _ => by have := v7 (by decide); omega, fun z => by omega, v9⟩), e3.wd (by omega) (by omega)⟩
    rw [s_X6_takes, gi_O H (k := 2) rfl, bS, if_neg (show ¬ nI 2 = 0 by decide), if_neg (show ¬ nI 2 = 1 by decide), if_pos (show nI 2 = 2 from rfl), is_O H, bS, show (3 : Int32) = nI 3 from rfl, e1]; rfl
  · obtain ⟨h', e1, e2, e3⟩ := starts0 (v := 3) H hx q
    refine Or.inr ⟨if_neg q, h', ?_, rdO_R e2 F e3, e3.wd (by omega) (by omega)⟩
    rw [s_X6_takes, gi_O H (k := 2) rfl, bS, if_neg (show ¬ nI 2 = 0 by decide), if_neg (show ¬ nI 2 = 1 by decide), if_pos (show nI 2 = 2 from rfl), is_O H, bS, e1]; rfl
theorem tk4 (hx : x < 127) (A : isRD h g 4 nm wl dy mn i tc tp) (V : dV 4 nm wl dy mn i tc p tp) : tkOK h g (mkD 4 nm wl dy mn i tc tp) x p := by
  obtain ⟨⟨a, b, c, d, e, H, -, hb, hc, -⟩, f, F, hf⟩ := id A
  obtain ⟨-, -, -, v4, v5, -, v7, -, v9⟩ := V
  have pre : s_X6_takes h g (nI x) = (s_X6_startsNumber h g (nI x) 5).bind fun (x128, h128) => (m_z x128).bind fun x131 => some (x131, h128) := by
    rw [s_X6_takes, gi_O H (k := 2) rfl, bS, if_neg (show ¬ nI 4 = 0 by decide), if_neg (show ¬ nI 4 = 1 by decide), if_neg (show ¬ nI 4 = 2 by decide), if_neg (show ¬ nI 4 = 3 by decide), if_pos (show nI 4 = 4 from rfl), is_O H, bS]
  by_cases q : 48 ≤ x ∧ x < 58
  · obtain ⟨h', e1, e2, e3⟩ := starts1 H hx 5 q
    refine Or.inl ⟨mkD 5 (x - 48) wl dy mn i tc tp, h', if_pos q, ?_, (show isRD _ g 5 (x - 48) wl dy mn i tc tp from ⟨⟨_, b, c, d, e, e2, fun _ => rfl, fun _ => hb (by decide), fun _ => hc (by decide), fun z => by omega⟩, f, F.fr e3 (by omega), hf⟩), (show dV 5 (x - 48) wl dy mn i tc (p + 1) tp from ⟨by decide, fun z => by omega, fun z => by show x - 48 < 1440; omega, fun _ => v4 (by decide), fun _ => v5 (by decide), fun z => by omega, fun _ => by have := v7 (by decide); omega, fun z => by omega, v9⟩), e3.wd (by omega) (by omega)⟩
    rw [pre, show (5 : Int32) = nI 5 from rfl, e1]; rfl
  · obtain ⟨h', e1, e2, e3⟩ := starts0 (v := 5) H hx q
    refine Or.inr ⟨if_neg q, h', ?_, rdO_R e2 F e3, e3.wd (by omega) (by omega)⟩
    rw [pre, e1]; rfl
theorem tk7 (hx : x < 127) (A : isRD h g 7 nm wl dy mn i tc tp) (V : dV 7 nm wl dy mn i tc p tp) : tkOK h g (mkD 7 nm wl dy mn i tc tp) x p := by
  obtain ⟨⟨a, b, c, d, e, H, -, -, -, -⟩, f, F, hf⟩ := id A
  obtain ⟨-, -, -, -, -, -, -, v8, v9⟩ := V
  have E : fr h (m_up h g (rdO g tc 0 a b c d e)) g (g + 1) := fr.up
  have pre : s_X6_takes h g (nI x) = if nI x = 59 then s_X6_takes_b208 h g 1 else s_X6_takes_b208 h g 0 := by
    rw [s_X6_takes, gi_O H (k := 2) rfl, bS, if_neg (show ¬ nI 7 = 0 by decide), if_neg (show ¬ nI 7 = 1 by decide), if_neg (show ¬ nI 7 = 2 by decide), if_neg (show ¬ nI 7 = 3 by decide), if_neg (show ¬ nI 7 = 4 by decide), if_neg (show ¬ nI 7 = 5 by decide), if_neg (show ¬ nI 7 = 6 by decide)]
  rw [tkOK, pre]
  by_cases q : x = 59
  · subst q
    refine Or.inl ⟨mkD 0 nm wl dy mn i tc tp, _, rfl, ?_, (show isRD _ g 0 nm wl dy mn i tc tp from ⟨⟨a, b, c, d, e, m_up_same _ _ _, fun z => by omega, fun z => by omega, fun z => by omega, fun z => by omega⟩, f, F.fr E (by omega), hf⟩), (show dV 0 nm wl dy mn i tc (p + 1) tp from ⟨by decide, fun z => by omega, fun z => by omega, fun z => by omega, fun z => by omega, fun z => by omega, fun _ => by have := v8 rfl; omega, fun z => by omega, v9⟩), E.wd (by omega) (by omega)⟩
    rw [if_pos (show nI 59 = 59 from rfl), s_X6_takes_b208, is_O H, bS, show (0 : Int32) = nI 0 from rfl, goes1 H]; rfl
  · refine Or.inr ⟨if_neg q, h, ?_, A.R, fr.rf⟩
    have q' : ¬ nI x = 59 := fun z => q ((nI_eq (b := 59) (by omega) (by decide)).mp z)
    rw [if_neg q', s_X6_takes_b208, is_O H, bS, goes0]; rfl
theorem tk3 (hx : x < 127) (A : isRD h g 3 nm wl dy mn i tc tp) (V : dV 3 nm wl dy mn i tc p tp) : tkOK h g (mkD 3 nm wl dy mn i tc tp) x p := by
  obtain ⟨⟨a, b, c, d, e, H, ha, hb, -, -⟩, f, F, hf⟩ := id A
  obtain ⟨-, v2, -, v4, -, -, v7, -, v9⟩ := V
  obtain rfl := ha (Or.inl rfl)
  have hn := v2 rfl
  have w : m_put h 4 g 5 (.int (nI nm)) = some (m_up h g (rdO g tc 3 (nI nm) b (nI nm) d e)) := put_O H (k := 5) (show 5 < 8 by decide)
  have u : (m_up h g (rdO g tc 3 (nI nm) b (nI nm) d e)) g = some (rdO g tc 3 (nI nm) b (nI nm) d e) := m_up_same _ _ _
  have E : fr h (m_up h g (rdO g tc 3 (nI nm) b (nI nm) d e)) g (g + 1) := fr.up
  have pre : s_X6_takes h g (nI x) = if nI x = 58 then ((m_is (m_up h g (rdO g tc 3 (nI nm) b (nI nm) d e)) 4 g).bind fun _ => (s_X6_goesOn (m_up h g (rdO g tc 3 (nI nm) b (nI nm) d e)) g 1 4).bind fun (x111, h111) => s_X6_takes_b124 h111 x111) else ((m_is (m_up h g (rdO g tc 3 (nI nm) b (nI nm) d e)) 4 g).bind fun _ => (s_X6_lengthensNumber (m_up h g (rdO g tc 3 (nI nm) b (nI nm) d e)) g (nI x) 28).bind fun (x121, h121) => s_X6_takes_b124 h121 x121) := by
    rw [s_X6_takes, gi_O H (k := 2) rfl, bS, if_neg (show ¬ nI 3 = 0 by decide), if_neg (show ¬ nI 3 = 1 by decide), if_neg (show ¬ nI 3 = 2 by decide), if_pos (show nI 3 = 3 from rfl), gi_O H (k := 3) rfl, bS, w, bS]
  rw [tkOK, pre, is_O u, bS, bS]
  by_cases q : x = 58
  · subst q
    have E2 := fr.tr E (fr.up (e := rdO g tc 4 (nI nm) b (nI nm) d e))
    refine Or.inl ⟨mkD 4 nm wl nm mn i tc tp, _, rfl, ?_, (show isRD _ g 4 nm wl nm mn i tc tp from ⟨⟨_, b, _, d, e, m_up_same _ _ _, fun z => by omega, fun _ => hb (by decide), fun _ => rfl, fun z => by omega⟩, f, F.fr E2 (by omega), hf⟩), (show dV 4 nm wl nm mn i tc (p + 1) tp from ⟨by decide, fun z => by omega, fun z => by omega, fun _ => v4 (by decide), fun _ => hn, fun z => by omega, fun _ => by have := v7 (by decide); omega, fun z => by omega, v9⟩), E2.wd (by omega) (by omega)⟩
    rw [if_pos (show nI 58 = 58 from rfl), show (4 : Int32) = nI 4 from rfl, goes1 u]; rfl
  · have q' : ¬ nI x = 58 := fun z => q ((nI_eq (b := 58) (by omega) (by decide)).mp z)
    rw [if_neg q', show (28 : Int32) = nI 28 from rfl]
    by_cases r : (48 ≤ x ∧ x < 58) ∧ nm ≠ 0 ∧ nm * 10 + (x - 48) < 28
    · obtain ⟨h', e1, e2, e3⟩ := length1 (B := 28) u hx (by omega) (by decide) r.1 r.2.1 r.2.2
      have E2 := fr.tr E e3
      refine Or.inl ⟨mkD 3 (nm * 10 + (x - 48)) wl nm mn i tc tp, h', (if_neg q).trans (if_pos r), ?_, (show isRD _ g 3 (nm * 10 + (x - 48)) wl nm mn i tc tp from ⟨⟨_, b, _, d, e, e2, fun _ => rfl, fun _ => hb (by decide), fun z => by omega, fun z => by omega⟩, f, F.fr E2 (by omega), hf⟩), (show dV 3 (nm * 10 + (x - 48)) wl nm mn i tc (p + 1) tp from ⟨by decide, fun _ => r.2.2, fun z => by omega, fun _ => v4 (by decide), fun z => by omega, fun z => by omega, fun _ => by have := v7 (by decide); omega, fun z => by omega, v9⟩), E2.wd (by omega) (by omega)⟩
      rw [e1]; rfl
    · refine Or.inr ⟨(if_neg q).trans (if_neg r), _, ?_, rdO_R u F E, E.wd (by omega) (by omega)⟩
      rw [length0 (B := 28) u hx (by omega) (by decide) r]; rfl
theorem tk5 (hx : x < 127) (A : isRD h g 5 nm wl dy mn i tc tp) (V : dV 5 nm wl dy mn i tc p tp) : tkOK h g (mkD 5 nm wl dy mn i tc tp) x p := by
  obtain ⟨⟨a, b, c, d, e, H, ha, hb, hc, -⟩, f, F, hf⟩ := id A
  obtain ⟨-, -, v3, v4, v5, -, v7, -, v9⟩ := V
  obtain rfl := ha (Or.inr rfl)
  have hn := v3 rfl
  have w : m_put h 4 g 6 (.int (nI nm)) = some (m_up h g (rdO g tc 5 (nI nm) b c (nI nm) e)) := put_O H (k := 6) (show 6 < 8 by decide)
  have u : (m_up h g (rdO g tc 5 (nI nm) b c (nI nm) e)) g = some (rdO g tc 5 (nI nm) b c (nI nm) e) := m_up_same _ _ _
  have E : fr h (m_up h g (rdO g tc 5 (nI nm) b c (nI nm) e)) g (g + 1) := fr.up
  have pre : s_X6_takes h g (nI x) = if nI x = 43 then s_X6_takes_b152 (m_up h g (rdO g tc 5 (nI nm) b c (nI nm) e)) g (nI x) g 1 else s_X6_takes_b152 (m_up h g (rdO g tc 5 (nI nm) b c (nI nm) e)) g (nI x) g 0 := by
    rw [s_X6_takes, gi_O H (k := 2) rfl, bS, if_neg (show ¬ nI 5 = 0 by decide), if_neg (show ¬ nI 5 = 1 by decide), if_neg (show ¬ nI 5 = 2 by decide), if_neg (show ¬ nI 5 = 3 by decide), if_neg (show ¬ nI 5 = 4 by decide), if_pos (show nI 5 = 5 from rfl), gi_O H (k := 3) rfl, bS, w, bS]
  have w2 : ∀ j : Nat, m_put (m_up h g (rdO g tc 5 (nI nm) b c (nI nm) e)) 4 g 7 (.int (nI j)) = some (m_up (m_up h g (rdO g tc 5 (nI nm) b c (nI nm) e)) g (rdO g tc 5 (nI nm) b c (nI nm) (nI j))) := fun j => put_O u (k := 7) (show 7 < 8 by decide)
  have u2 : ∀ j : Nat, (m_up (m_up h g (rdO g tc 5 (nI nm) b c (nI nm) e)) g (rdO g tc 5 (nI nm) b c (nI nm) (nI j))) g = some (rdO g tc 5 (nI nm) b c (nI nm) (nI j)) := fun j => m_up_same _ _ _
  have E2 : ∀ j : Nat, fr h (m_up (m_up h g (rdO g tc 5 (nI nm) b c (nI nm) e)) g (rdO g tc 5 (nI nm) b c (nI nm) (nI j))) g (g + 1) := fun j => fr.tr E fr.up
  have E3 : ∀ j : Nat, fr h (m_up (m_up (m_up h g (rdO g tc 5 (nI nm) b c (nI nm) e)) g (rdO g tc 5 (nI nm) b c (nI nm) (nI j))) g (rdO g tc 6 (nI nm) b c (nI nm) (nI j))) g (g + 1) := fun j => fr.tr (E2 j) fr.up
  rw [tkOK, pre]
  by_cases q : x = 43
  · subst q
    refine Or.inl ⟨mkD 6 nm wl dy nm 1 tc tp, _, rfl, ?_, (show isRD _ g 6 nm wl dy nm 1 tc tp from ⟨⟨_, b, c, _, _, m_up_same _ _ _, fun z => by omega, fun _ => hb (by decide), fun _ => hc (by decide), fun _ => ⟨rfl, rfl⟩⟩, f, F.fr (E3 1) (by omega), hf⟩), (show dV 6 nm wl dy nm 1 tc (p + 1) tp from ⟨by decide, fun z => by omega, fun z => by omega, fun _ => v4 (by decide), fun _ => v5 (by decide), fun _ => ⟨hn, by decide⟩, fun _ => by have := v7 (by decide); omega, fun z => by omega, v9⟩), (E3 1).wd (by omega) (by omega)⟩
    rw [if_pos (show nI 43 = 43 from rfl), s_X6_takes_b152, z_1, bS, show (1 : Int32) = nI 1 from rfl, w2 1, bS, gi_O (u2 1) (k := 7) rfl, bS, if_neg (show ¬ nI 1 = 0 by decide), s_X6_takes_b168, is_O (u2 1), bS, show (6 : Int32) = nI 6 from rfl, show (1 : Int32) = nI 1 from rfl]
    show ((s_X6_goesOn _ g 1 (nI 6)).bind fun (x172, h172) => _) = _
    rw [goes1 (u2 1)]; rfl
  · have q' : ¬ nI x = 43 := fun z => q ((nI_eq (b := 43) (by omega) (by decide)).mp z)
    rw [if_neg q', s_X6_takes_b152, z_0, bS]
    show _ ∨ _
    by_cases q2 : x = 45
    · subst q2
      refine Or.inl ⟨mkD 6 nm wl dy nm 0 tc tp, _, rfl, ?_, (show isRD _ g 6 nm wl dy nm 0 tc tp from ⟨⟨_, b, c, _, _, m_up_same _ _ _, fun z => by omega, fun _ => hb (by decide), fun _ => hc (by decide), fun _ => ⟨rfl, rfl⟩⟩, f, F.fr (E3 0) (by omega), hf⟩), (show dV 6 nm wl dy nm 0 tc (p + 1) tp from ⟨by decide, fun z => by omega, fun z => by omega, fun _ => v4 (by decide), fun _ => v5 (by decide), fun _ => ⟨hn, by decide⟩, fun _ => by have := v7 (by decide); omega, fun z => by omega, v9⟩), (E3 0).wd (by omega) (by omega)⟩
      show ((m_put _ 4 g 7 (.int (nI 0))).bind fun h152 => _) = _
      rw [w2 0, bS, gi_O (u2 0) (k := 7) rfl, bS, if_pos (show nI 0 = 0 from rfl), if_pos (show nI 45 = 45 from rfl), s_X6_takes_b168, is_O (u2 0), bS, show (6 : Int32) = nI 6 from rfl, goes1 (u2 0)]; rfl
    · have q3 : ¬ nI x = 45 := fun z => q2 ((nI_eq (b := 45) (by omega) (by decide)).mp z)
      have st : ∀ y : Option (Int32 × mH), s_X6_lengthensNumber (m_up (m_up h g (rdO g tc 5 (nI nm) b c (nI nm) e)) g (rdO g tc 5 (nI nm) b c (nI nm) (nI 0))) g (nI x) (nI 1440) = y → ((m_put (m_up h g (rdO g tc 5 (nI nm) b c (nI nm) e)) 4 g 7 (.int (nI 0))).bind fun h152 => (m_gi h152 4 g 7).bind fun x156 => if x156 = 0 then (if nI x = 45 then (s_X6_takes_b168 h152 g) else ((m_is h152 4 g).bind fun _ => (s_X6_lengthensNumber h152 g (nI x) 1440).bind fun (x183, h183) => s_X6_takes_b186 h183 x183)) else (s_X6_takes_b168 h152 g)) = y.bind fun (x183, h183) => s_X6_takes_b186 h183 x183 := by
        intro y hy
        rw [w2 0, bS, gi_O (u2 0) (k := 7) rfl, bS, if_pos (show nI 0 = 0 from rfl), if_neg q3, is_O (u2 0), bS, show (1440 : Int32) = nI 1440 from rfl, hy]
      have qn : ¬ (x = 43 ∨ x = 45) := by omega
      by_cases r : (48 ≤ x ∧ x < 58) ∧ nm ≠ 0 ∧ nm * 10 + (x - 48) < 1440
      · obtain ⟨h', e1, e2, e3⟩ := length1 (B := 1440) (u2 0) hx (by omega) (by decide) r.1 r.2.1 r.2.2
        have E4 := fr.tr (E2 0) e3
        refine Or.inl ⟨mkD 5 (nm * 10 + (x - 48)) wl dy nm 0 tc tp, h', (if_neg qn).trans (if_pos r), ?_, (show isRD _ g 5 (nm * 10 + (x - 48)) wl dy nm 0 tc tp from ⟨⟨_, b, c, _, _, e2, fun _ => rfl, fun _ => hb (by decide), fun _ => hc (by decide), fun z => by omega⟩, f, F.fr E4 (by omega), hf⟩), (show dV 5 (nm * 10 + (x - 48)) wl dy nm 0 tc (p + 1) tp from ⟨by decide, fun z => by omega, fun _ => r.2.2, fun _ => v4 (by decide), fun _ => v5 (by decide), fun z => by omega, fun _ => by have := v7 (by decide); omega, fun z => by omega, v9⟩), E4.wd (by omega) (by omega)⟩
        exact (st _ e1).trans rfl
      · exact Or.inr ⟨(if_neg qn).trans (if_neg r), _, (st _ (length0 (B := 1440) (u2 0) hx (by omega) (by decide) r)).trans rfl, rdO_R (u2 0) F (E2 0), (E2 0).wd (by omega) (by omega)⟩
theorem tk6 (hx : x < 127) (hp : p < 60) (A : isRD h g 6 nm wl dy mn i tc tp) (V : dV 6 nm wl dy mn i tc p tp) : tkOK h g (mkD 6 nm wl dy mn i tc tp) x p := by
  obtain ⟨⟨a, b, c, d, e, H, -, hb, hc, hd⟩, f, F, hf⟩ := id A
  obtain ⟨-, -, -, v4, v5, v6, v7, -, v9⟩ := V
  obtain rfl := hb (by decide)
  obtain rfl := hc (by decide)
  obtain ⟨rfl, rfl⟩ := hd rfl
  have ht := v7 (by decide)
  have pre : s_X6_takes h g (nI x) = (s_X6_endsTap h g (nI x - 48)).bind fun (x192, h192) => (m_z x192).bind fun x195 => some (x195, h192) := by
    rw [s_X6_takes, gi_O H (k := 2) rfl, bS, if_neg (show ¬ nI 6 = 0 by decide), if_neg (show ¬ nI 6 = 1 by decide), if_neg (show ¬ nI 6 = 2 by decide), if_neg (show ¬ nI 6 = 3 by decide), if_neg (show ¬ nI 6 = 4 by decide), if_neg (show ¬ nI 6 = 5 by decide), if_pos (show nI 6 = 6 from rfl), is_O H, bS]
  by_cases q : 48 ≤ x ∧ x < 58
  · have vt : vT (mkT wl dy mn (x - 48) i 0) := ⟨v4 (by decide), v5 (by decide), (v6 rfl).1, show x - 48 < 10 by omega, (v6 rfl).2, show 0 < 2 by decide⟩
    obtain ⟨h1, e1, e2, e3⟩ := put_A F (k := tc) (by omega) (by decide) (pk (mkT wl dy mn (x - 48) i 0))
    have H1 := e3.O H (by omega)
    have w1 : m_put h1 4 g 1 (.int (nI (tc + 1))) = some (m_up h1 g (rdO g (tc + 1) 6 a (nI wl) (nI dy) (nI mn) (nI i))) := put_O H1 (k := 1) (show 1 < 8 by decide)
    have u1 : (m_up h1 g (rdO g (tc + 1) 6 a (nI wl) (nI dy) (nI mn) (nI i))) g = some (rdO g (tc + 1) 6 a (nI wl) (nI dy) (nI mn) (nI i)) := m_up_same _ _ _
    have w2 : m_put (m_up h1 g (rdO g (tc + 1) 6 a (nI wl) (nI dy) (nI mn) (nI i))) 4 g 2 (.int 7) = some (m_up (m_up h1 g (rdO g (tc + 1) 6 a (nI wl) (nI dy) (nI mn) (nI i))) g (rdO g (tc + 1) 7 a (nI wl) (nI dy) (nI mn) (nI i))) := put_O u1 (k := 2) (show 2 < 8 by decide)
    have E : fr h1 (m_up (m_up h1 g (rdO g (tc + 1) 6 a (nI wl) (nI dy) (nI mn) (nI i))) g (rdO g (tc + 1) 7 a (nI wl) (nI dy) (nI mn) (nI i))) g (g + 1) := fr.tr fr.up fr.up
    refine Or.inl ⟨mkD 7 nm wl dy mn i (tc + 1) (fun j => if j = tc then mkT wl dy mn (x - 48) i 0 else tp j), _, if_pos q, ?_, (show isRD _ g 7 nm wl dy mn i (tc + 1) (fun j => if j = tc then mkT wl dy mn (x - 48) i 0 else tp j) from ⟨⟨_, _, _, _, _, m_up_same _ _ _, fun z => by omega, fun z => by omega, fun z => by omega, fun z => by omega⟩, _, e2.fr E (by omega), fun j hj => ?_⟩), (show dV 7 nm wl dy mn i (tc + 1) (p + 1) (fun j => if j = tc then mkT wl dy mn (x - 48) i 0 else tp j) from ⟨by decide, fun z => by omega, fun z => by omega, fun z => by omega, fun z => by omega, fun z => by omega, fun z => by omega, fun z => by omega, fun j hj => ?_⟩), (e3.wd (by omega) (by omega)).tr (E.wd (by omega) (by omega))⟩
    · rw [pre, s_X6_endsTap, show (10 : Int32) = nI 10 from rfl, dig_yes hx (by decide) q, bS, if_neg (by decide), gr_O H (k := 0) rfl, bS, gi_O H (k := 1) rfl, bS, gi_O H (k := 4) rfl, bS, gi_O H (k := 5) rfl, bS, gi_O H (k := 6) rfl, bS, gi_O H (k := 7) rfl, bS, dig_hi q.1, make_pk vt, bS, e1, bS, gi_O H1 (k := 1) rfl, bS, nI_1, w1, bS, w2]; rfl
    · show upd f tc _ j = pk (if j = tc then _ else tp j)
      by_cases z : j = tc
      · subst z; rw [pk_us, if_pos rfl]
      · rw [pk_un z, if_neg z, hf j (by omega)]
    · show vT (if j = tc then _ else tp j)
      by_cases z : j = tc
      · rw [if_pos z]; exact vt
      · rw [if_neg z]; exact v9 j (by omega)
  · refine Or.inr ⟨if_neg q, h, ?_, A.R, fr.rf⟩
    rw [pre, s_X6_endsTap, show (10 : Int32) = nI 10 from rfl, dig_no hx (by decide) q, bS, if_pos rfl]; rfl
theorem tk (hx : x < 127) (hp : p < 60) {st : Nat} (A : isRD h g st nm wl dy mn i tc tp) (V : dV st nm wl dy mn i tc p tp) : tkOK h g (mkD st nm wl dy mn i tc tp) x p := by
  have hs := V.1
  match st, hs, A, V with
  | 0, _, A, V => exact tk0 hx A V
  | 1, _, A, V => exact tk1 hx A V
  | 2, _, A, V => exact tk2 hx A V
  | 3, _, A, V => exact tk3 hx A V
  | 4, _, A, V => exact tk4 hx A V
  | 5, _, A, V => exact tk5 hx A V
  | 6, _, A, V => exact tk6 hx hp A V
  | 7, _, A, V => exact tk7 hx A V
  | n + 8, z, _, _ => exact absurd z (by omega)
end PTk
