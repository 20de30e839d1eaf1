/-! PURE: the class reads a text and loads it -/
section PLo
def drun (bc : Nat → Nat) : Nat → Nat → mD → Nat × Option mD
  | 0, i, s => (i, some s)
  | d + 1, i, s => match dstep s (bc i) with
    | some s' => drun bc d (i + 1) s'
    | none => (i, none)
def dres (h : mH) (g bl : Nat) (r : Nat × Option mD) : Prop := match r.2 with
  | some s => isRDs h g s ∧ dVs s bl ∧ r.1 = bl
  | none => isRR h g ∧ r.1 < bl
def s0D : mD := mkD 0 0 0 0 0 0 0 (fun _ _ => 0)
/-- the signs of the buffer -/
def isB (bl : Nat) (bf : Nat → Int32) (bc : Nat → Nat) : Prop := bl ≤ 60 ∧ ∀ j, j < bl → bf j = nI (bc j) ∧ bc j < 127
theorem isRDs.fr {h h' : mH} {g lo hi : Nat} {s : mD} (A : isRDs h g s) (F : fr h h' lo hi) (hq : g + 2 ≤ lo ∨ hi ≤ g) : isRDs h' g s := by
  obtain ⟨⟨a, b, c, d, e, H, r⟩, f, G, hf⟩ := A
  exact ⟨⟨a, b, c, d, e, F.O H (by omega), r⟩, f, G.fr F (by omega), hf⟩
theorem readUpTo_L {g b bl : Nat} {bf : Nat → Int32} {bc : Nat → Nat} (hB : isB bl bf bc) (hgb : b < g ∨ g + 2 ≤ b) : ∀ (d i F : Nat) (h : mH) (s : mD), isRDs h g s → dVs s i → isA h b 60 bf → i + d = bl → d < F →
    ∃ h', s_X6_readUpTo_L12 F h g b (nI bl) (nI i) = some (nI (drun bc d i s).1, h') ∧ dres h' g bl (drun bc d i s) ∧ fr h h' g (g + 2) := by
  intro d
  obtain ⟨hb, hB⟩ := hB
  induction d with
  | zero =>
    intro i F h s A V B hi hF
    obtain ⟨F, rfl⟩ : ∃ F', F = F' + 1 := ⟨F - 1, by omega⟩
    obtain rfl : i = bl := by omega
    refine ⟨h, ?_, ⟨A, V, rfl⟩, fr.rf⟩
    rw [s_X6_readUpTo_L12, if_pos (nI_le (Nat.le_refl _) (by omega))]
    rfl
  | succ d ih =>
    intro i F h s A V B hi hF
    obtain ⟨F, rfl⟩ : ∃ F', F = F' + 1 := ⟨F - 1, by omega⟩
    obtain ⟨e1, e2⟩ := hB i (by omega)
    have hO : m_is h 4 g = some () := by
      obtain ⟨⟨a, b, c, d, e, H, r⟩, f, G, hf⟩ := A
      exact is_O H
    have T : tkOK h g s (bc i) i := tk e2 (by omega) A V
    have st : s_X6_readUpTo_L12 (F + 1) h g b (nI bl) (nI i) = (s_X6_takes h g (nI (bc i))).bind fun (x23, h23) => if x23 = 0 then (some (nI i, h23)) else (s_X6_readUpTo_L12 F h23 g b (nI bl) (nI i + 1)) := by
      rw [s_X6_readUpTo_L12, if_neg (nI_ge (by omega) (by omega)), at_A B (show i < 60 by omega) (by decide), bS, hO, bS, e1]
    rw [st]
    rcases T with ⟨s', h1, t1, t2, t3, t4, t5⟩ | ⟨t1, h1, t2, t3, t4⟩
    · have er : drun bc (d + 1) i s = drun bc d (i + 1) s' := by
        show (match dstep s (bc i) with | some s' => drun bc d (i + 1) s' | none => (i, none)) = _
        rw [t1]
      obtain ⟨h2, f1, f2, f3⟩ := ih (i + 1) F h1 s' t3 t4 (B.fr t5 (by omega)) (by omega) (by omega)
      rw [er]
      refine ⟨h2, ?_, f2, t5.tr f3⟩
      rw [t2, bS]
      show (if (1 : Int32) = 0 then _ else _) = _
      rw [if_neg (by decide), show nI i + 1 = nI (i + 1) from nI_1 i, f1]
    · have er : drun bc (d + 1) i s = (i, none) := by
        show (match dstep s (bc i) with | some s' => drun bc d (i + 1) s' | none => (i, none)) = _
        rw [t1]
      rw [er]
      refine ⟨h1, ?_, ⟨t3, show i < bl by omega⟩, t4⟩
      rw [t2]; rfl
theorem readUpTo_D {h : mH} {g b bl : Nat} {bf : Nat → Int32} {bc : Nat → Nat} (hB : isB bl bf bc) (hgb : b < g ∨ g + 2 ≤ b) (R : isRR h g) (B : isA h b 60 bf) : ∃ h', s_X6_readUpTo h g b (nI bl) = some (nI (drun bc bl 0 s0D).1, h') ∧ dres h' g bl (drun bc bl 0 s0D) ∧ fr h h' g (g + 2) := by
  obtain ⟨⟨a, a', c, d, e, f, i, H⟩, q, G⟩ := R
  let h1 := m_up h g (mO 4 [.ref (g + 1), .int (nI 0), .int a', .int c, .int d, .int e, .int f, .int i])
  let h2 := m_up h1 g (rdO g 0 0 c d e f i)
  have w1 : m_put h 4 g 1 (.int 0) = some h1 := put_O H (k := 1) (show 1 < 8 by decide)
  have o1 : h1 g = some (mO 4 [.ref (g + 1), .int (nI 0), .int a', .int c, .int d, .int e, .int f, .int i]) := m_up_same _ _ _
  have w2 : m_put h1 4 g 2 (.int 0) = some h2 := put_O o1 (k := 2) (show 2 < 8 by decide)
  have E : fr h h2 g (g + 1) := fr.tr fr.up fr.up
  have D : isRDs h2 g s0D := (show isRD h2 g 0 0 0 0 0 0 0 (fun _ _ => 0) from ⟨⟨c, d, e, f, i, m_up_same _ _ _, fun z => by omega, fun z => by omega, fun z => by omega, fun z => by omega⟩, q, G.fr E (by omega), fun j hj => absurd hj (by omega)⟩)
  have V : dVs s0D 0 := (show dV 0 0 0 0 0 0 0 0 (fun _ _ => 0) from ⟨by decide, fun z => by omega, fun z => by omega, fun z => by omega, fun z => by omega, fun z => by omega, fun z => by omega, fun z => by omega, fun j hj => absurd hj (by omega)⟩)
  obtain ⟨h', e1, e2, e3⟩ := readUpTo_L hB hgb bl 0 m_F h2 s0D D V (B.fr E (by omega)) (by omega) (by have := hB.1; unfold m_F; omega)
  refine ⟨h', ?_, e2, (E.wd (by omega) (by omega)).tr e3⟩
  rw [s_X6_readUpTo, w1, bS, w2, bS]
  exact e1
variable {h : mH} {X sz bl : Nat} {k : mK} {sv : Nat → mK} {bf : Nat → Int32} {bc : Nat → Nat}
theorem dres.R {g : Nat} {r : Nat × Option mD} (A : dres h g bl r) : isRR h g := by
  unfold dres at A
  rcases hr : r.2 with _ | s
  · rw [hr] at A; exact A.1
  · rw [hr] at A
    obtain ⟨⟨a, b, c, d, e, H, -⟩, f, F, -⟩ := A.1
    exact ⟨⟨_, _, _, _, _, _, _, H⟩, f, F⟩
theorem firstError_W (A : isW h X k sz sv bl bf) (hB : isB bl bf bc) : ∃ h', s_X7_firstError h X = some (nI (drun bc bl 0 s0D).1, h') ∧ isW h' X k sz sv bl bf ∧ fr h h' X (X + 87) := by
  obtain ⟨a0, a1, a2, a3, ⟨n, tp, a4⟩, a5, a6, a7⟩ := A
  obtain ⟨h', e1, e2, e3⟩ := readUpTo_D hB (by omega) a7 a6
  refine ⟨h', ?_, ⟨e3.O a0 (by omega), a1.fr e3 (by omega), a2.fr e3 (by omega), a3.fr e3 (by omega), ⟨n, tp, a4.fr e3 (by omega)⟩, a5.fr e3 (by omega), a6.fr e3 (by omega), e2.R⟩, e3.wd (by omega) (by omega)⟩
  obtain ⟨⟨a, a', c, d, e, f, i, H⟩, q, G⟩ := a7
  rw [s_X7_firstError, gr_O a0 (k := 7) rfl, bS, gr_O a0 (k := 5) rfl, bS, gi_O a0 (k := 6) rfl, bS, is_O H, bS, e1]; rfl
end PLo
