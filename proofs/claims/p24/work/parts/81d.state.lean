/-! PURE: a state of the system, and its six saved ones -/
section PS
/-- taps, how many; settings; charged, claims, settled by weeks; the ledger: how many, weeks, sums; refunds, refunded, refused -/
abbrev mK : Type := Nat × ((Nat → Nat → Nat) × ((Nat → Int32) × ((Nat → Int32) × ((Nat → Int32) × ((Nat → Int32) × ((Nat → Nat) × ((Nat → Nat → Int32) × ((Nat → Nat → Int32) × (Int32 × (Int32 × Int32))))))))))
def kn (k : mK) : Nat := k.1
def ktp (k : mK) : Nat → Nat → Nat := k.2.1
def kset (k : mK) : Nat → Int32 := k.2.2.1
def kchg (k : mK) : Nat → Int32 := k.2.2.2.1
def kclm (k : mK) : Nat → Int32 := k.2.2.2.2.1
def kstl (k : mK) : Nat → Int32 := k.2.2.2.2.2.1
def kln (k : mK) : Nat → Nat := k.2.2.2.2.2.2.1
def klw (k : mK) : Nat → Nat → Int32 := k.2.2.2.2.2.2.2.1
def kls (k : mK) : Nat → Nat → Int32 := k.2.2.2.2.2.2.2.2.1
def krf (k : mK) : Int32 := k.2.2.2.2.2.2.2.2.2.1
def krd (k : mK) : Int32 := k.2.2.2.2.2.2.2.2.2.2.1
def krr (k : mK) : Int32 := k.2.2.2.2.2.2.2.2.2.2.2
def cLW (k : mK) : Nat → Int32 := fun j => if j % 8 < kln k (j / 8) then klw k (j / 8) (j % 8) else -1
def cLS (k : mK) : Nat → Int32 := fun j => if j % 8 < kln k (j / 8) then kls k (j / 8) (j % 8) + 100000 else -1
def cO (g : Nat) (a b c : Int32) : mE := mO 2 [.ref (g + 1), .ref (g + 3), .ref (g + 4), .ref (g + 5), .ref (g + 6), .ref (g + 7), .ref (g + 8), .int a, .int b, .int c]
def isC (h : mH) (g : Nat) (k : mK) : Prop := h g = some (cO g (krf k) (krd k) (krr k)) ∧ isTR h (g + 1) (kn k) (ktp k) ∧ isA h (g + 3) 6 (kset k) ∧ isA h (g + 4) 16 (kchg k) ∧ isA h (g + 5) 16 (kclm k) ∧ isA h (g + 6) 16 (kstl k) ∧ isA h (g + 7) 32 (cLW k) ∧ isA h (g + 8) 32 (cLS k)
theorem isC.fr {h h' : mH} {g lo hi : Nat} {k : mK} (A : isC h g k) (F : fr h h' lo hi) (hq : g + 9 ≤ lo ∨ hi ≤ g) : isC h' g k := by
  obtain ⟨a0, a1, a2, a3, a4, a5, a6, a7⟩ := A
  exact ⟨F.O a0 (by omega), a1.fr F (by omega), a2.fr F (by omega), a3.fr F (by omega), a4.fr F (by omega), a5.fr F (by omega), a6.fr F (by omega), a7.fr F (by omega)⟩
theorem copyState {h : mH} {g c : Nat} {k k' : mK} (A : isC h g k) (C : isC h c k') (hgc : g + 9 ≤ c ∨ c + 9 ≤ g) : ∃ h', s_X3_copyFrom h c g = some h' ∧ isC h' c k ∧ fr h h' c (c + 9) := by
  obtain ⟨a0, a1, a2, a3, a4, a5, a6, a7⟩ := id A
  obtain ⟨c0, c1, c2, c3, c4, c5, c6, c7⟩ := id C
  obtain ⟨h1, e1, p1, f1⟩ := copyRow a1 c1 (by omega)
  have F1 : fr h h1 (c + 1) (c + 3) := f1.wd (by omega) (by omega)
  obtain ⟨h2, e2, p2, f2⟩ := copy_A (a2.fr F1 (by omega)) (c2.fr F1 (by omega)) (by omega) (by decide)
  have F2 : fr h h2 (c + 1) (c + 4) := (F1.wd (by omega) (by omega)).tr (f2.wd (by omega) (by omega))
  obtain ⟨h3, e3, p3, f3⟩ := copy_A (a3.fr F2 (by omega)) (c3.fr F2 (by omega)) (by omega) (by decide)
  have F3 : fr h h3 (c + 1) (c + 5) := (F2.wd (by omega) (by omega)).tr (f3.wd (by omega) (by omega))
  obtain ⟨h4, e4, p4, f4⟩ := copy_A (a4.fr F3 (by omega)) (c4.fr F3 (by omega)) (by omega) (by decide)
  have F4 : fr h h4 (c + 1) (c + 6) := (F3.wd (by omega) (by omega)).tr (f4.wd (by omega) (by omega))
  obtain ⟨h5, e5, p5, f5⟩ := copy_A (a5.fr F4 (by omega)) (c5.fr F4 (by omega)) (by omega) (by decide)
  have F5 : fr h h5 (c + 1) (c + 7) := (F4.wd (by omega) (by omega)).tr (f5.wd (by omega) (by omega))
  obtain ⟨h6, e6, p6, f6⟩ := copy_A (a6.fr F5 (by omega)) (c6.fr F5 (by omega)) (by omega) (by decide)
  have F6 : fr h h6 (c + 1) (c + 8) := (F5.wd (by omega) (by omega)).tr (f6.wd (by omega) (by omega))
  obtain ⟨h7, e7, p7, f7⟩ := copy_A (a7.fr F6 (by omega)) (c7.fr F6 (by omega)) (by omega) (by decide)
  have F7 : fr h h7 (c + 1) (c + 9) := (F6.wd (by omega) (by omega)).tr (f7.wd (by omega) (by omega))
  have o7 := F7.O c0 (by omega)
  have s7 := F7.O a0 (by omega)
  let h8 := m_up h7 c (cO c (krf k) (krd k') (krr k'))
  let h9 := m_up h8 c (cO c (krf k) (krd k) (krr k'))
  let h10 := m_up h9 c (cO c (krf k) (krd k) (krr k))
  have F10 : fr h7 h10 c (c + 1) := (fr.up.tr fr.up).tr fr.up
  refine ⟨h10, ?_, ⟨m_up_same _ _ _, ?_, ?_, ?_, ?_, ?_, ?_, ?_⟩, (F7.wd (by omega) (by omega)).tr (F10.wd (by omega) (by omega))⟩
  · have g8 : h8 c = some (cO c (krf k) (krd k') (krr k')) := m_up_same _ _ _
    have g9 : h9 c = some (cO c (krf k) (krd k) (krr k')) := m_up_same _ _ _
    have s8 : h8 g = some (cO g (krf k) (krd k) (krr k)) := (fr.up : fr h7 h8 c (c + 1)).O s7 (by omega)
    have s9 : h9 g = some (cO g (krf k) (krd k) (krr k)) := (fr.up : fr h8 h9 c (c + 1)).O s8 (by omega)
    have w7 : m_put h7 2 c 7 (.int (krf k)) = some h8 := put_O o7 (k := 7) (show 7 < 10 by decide)
    have w8 : m_put h8 2 c 8 (.int (krd k)) = some h9 := put_O g8 (k := 8) (show 8 < 10 by decide)
    have w9 : m_put h9 2 c 9 (.int (krr k)) = some h10 := put_O g9 (k := 9) (show 9 < 10 by decide)
    have q : ∀ {hh : mH} {lo hi : Nat}, fr h hh lo hi → c < lo → (g < lo ∨ hi ≤ g) → hh c = some (cO c (krf k') (krd k') (krr k')) ∧ hh g = some (cO g (krf k) (krd k) (krr k)) := fun F h1 h2 => ⟨F.O c0 (by omega), F.O a0 (by omega)⟩
    obtain ⟨x1, y1⟩ := q F1 (by omega) (by omega)
    obtain ⟨x2, y2⟩ := q F2 (by omega) (by omega)
    obtain ⟨x3, y3⟩ := q F3 (by omega) (by omega)
    obtain ⟨x4, y4⟩ := q F4 (by omega) (by omega)
    obtain ⟨x5, y5⟩ := q F5 (by omega) (by omega)
    obtain ⟨x6, y6⟩ := q F6 (by omega) (by omega)
    rw [s_X3_copyFrom, gr_O c0 (k := 0) rfl, bS, gr_O a0 (k := 0) rfl, bS, is_O c1.1, bS, e1, bS,
      gr_O y1 (k := 1) rfl, bS, gr_O x1 (k := 1) rfl, bS, e2, bS, gr_O y2 (k := 2) rfl, bS, gr_O x2 (k := 2) rfl, bS, e3, bS,
      gr_O y3 (k := 3) rfl, bS, gr_O x3 (k := 3) rfl, bS, e4, bS, gr_O y4 (k := 4) rfl, bS, gr_O x4 (k := 4) rfl, bS, e5, bS,
      gr_O y5 (k := 5) rfl, bS, gr_O x5 (k := 5) rfl, bS, e6, bS, gr_O y6 (k := 6) rfl, bS, gr_O x6 (k := 6) rfl, bS, e7, bS,
      gi_O s7 (k := 7) rfl, bS, w7, bS, gi_O s8 (k := 8) rfl, bS, w8, bS, gi_O s9 (k := 9) rfl, bS, w9, bS]
  · exact ((p1.fr f2 (by omega)).fr (((f3.wd (lo' := c + 4) (hi' := c + 9) (by omega) (by omega)).tr (f4.wd (by omega) (by omega))).tr ((f5.wd (by omega) (by omega)).tr ((f6.wd (by omega) (by omega)).tr (f7.wd (by omega) (by omega))))) (by omega)).fr F10 (by omega)
  · exact (p2.fr (((f3.wd (lo' := c + 4) (hi' := c + 9) (by omega) (by omega)).tr (f4.wd (by omega) (by omega))).tr ((f5.wd (by omega) (by omega)).tr ((f6.wd (by omega) (by omega)).tr (f7.wd (by omega) (by omega))))) (by omega)).fr F10 (by omega)
  · exact (p3.fr ((f4.wd (lo' := c + 5) (hi' := c + 9) (by omega) (by omega)).tr ((f5.wd (by omega) (by omega)).tr ((f6.wd (by omega) (by omega)).tr (f7.wd (by omega) (by omega))))) (by omega)).fr F10 (by omega)
  · exact (p4.fr ((f5.wd (lo' := c + 6) (hi' := c + 9) (by omega) (by omega)).tr ((f6.wd (by omega) (by omega)).tr (f7.wd (by omega) (by omega)))) (by omega)).fr F10 (by omega)
  · exact (p5.fr ((f6.wd (lo' := c + 7) (hi' := c + 9) (by omega) (by omega)).tr (f7.wd (by omega) (by omega))) (by omega)).fr F10 (by omega)
  · exact (p6.fr f7 (by omega)).fr F10 (by omega)
  · exact p7.fr F10 (by omega)
end PS
