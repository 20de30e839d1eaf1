/-! PURE: what the rides hold once they are read -/
section PRR
noncomputable def dR (n : Nat) (set : Nat → Int32) (tp : Nat → Nat → Nat) (c : Nat) : Int32 := sumF (gR tp (mt n (set 3) tp) c) n
noncomputable def dA (n : Nat) (set : Nat → Int32) (tp : Nat → Nat → Nat) (c : Nat) : Int32 := sumF (gA tp (mt n (set 3) tp) c) n
noncomputable def dF (n : Nat) (set : Nat → Int32) (tp : Nat → Nat → Nat) (c : Nat) : Int32 := sumF (gF tp (mt n (set 3) tp) (fareOf set tp (mt n (set 3) tp)) c) n
noncomputable def lk (n : Nat) (set : Nat → Int32) (tp : Nat → Nat → Nat) (s : Nat) : Int32 := sumF (gL tp (mt n (set 3) tp) s) n
def isRd (h : mH) (g n : Nat) (set : Nat → Int32) (tp : Nat → Nat → Nat) : Prop := h g = some (rO g (set 4) (set 5)) ∧ (∃ F, isA h (g + 1) 61 F ∧ ∀ p, p < n → F p = mt n (set 3) tp p) ∧ (∃ F, isA h (g + 2) 61 F ∧ ∀ p, p < n → F p = fareOf set tp (mt n (set 3) tp) p) ∧ isA h (g + 3) 112 (dR n set tp) ∧ isA h (g + 4) 112 (dA n set tp) ∧ isA h (g + 5) 112 (dF n set tp) ∧ isA h (g + 6) 10 (lk n set tp) ∧ ∃ G, isA h (g + 7) 4 G
def isRG (h : mH) (g : Nat) : Prop := (∃ a b, h g = some (rO g a b)) ∧ (∃ f, isA h (g + 1) 61 f) ∧ (∃ f, isA h (g + 2) 61 f) ∧ (∃ f, isA h (g + 3) 112 f) ∧ (∃ f, isA h (g + 4) 112 f) ∧ (∃ f, isA h (g + 5) 112 f) ∧ (∃ f, isA h (g + 6) 10 f) ∧ ∃ f, isA h (g + 7) 4 f
theorem isRd.G {h : mH} {g n : Nat} {set : Nat → Int32} {tp : Nat → Nat → Nat} (A : isRd h g n set tp) : isRG h g := by
  obtain ⟨a0, ⟨F, a1, -⟩, ⟨F2, a2, -⟩, a3, a4, a5, a6, a7⟩ := A
  exact ⟨⟨_, _, a0⟩, ⟨_, a1⟩, ⟨_, a2⟩, ⟨_, a3⟩, ⟨_, a4⟩, ⟨_, a5⟩, ⟨_, a6⟩, a7⟩
theorem isRd.fr {h h' : mH} {g n lo hi : Nat} {set : Nat → Int32} {tp : Nat → Nat → Nat} (A : isRd h g n set tp) (F : fr h h' lo hi) (hq : g + 8 ≤ lo ∨ hi ≤ g) : isRd h' g n set tp := by
  obtain ⟨a0, ⟨F1, a1, b1⟩, ⟨F2, a2, b2⟩, a3, a4, a5, a6, G, a7⟩ := A
  exact ⟨F.O a0 (by omega), ⟨F1, a1.fr F (by omega), b1⟩, ⟨F2, a2.fr F (by omega), b2⟩, a3.fr F (by omega), a4.fr F (by omega), a5.fr F (by omega), a6.fr F (by omega), G, a7.fr F (by omega)⟩
theorem isRG.fr {h h' : mH} {g lo hi : Nat} (A : isRG h g) (F : fr h h' lo hi) (hq : g + 8 ≤ lo ∨ hi ≤ g) : isRG h' g := by
  obtain ⟨⟨a, b, a0⟩, ⟨F1, a1⟩, ⟨F2, a2⟩, ⟨F3, a3⟩, ⟨F4, a4⟩, ⟨F5, a5⟩, ⟨F6, a6⟩, G, a7⟩ := A
  exact ⟨⟨a, b, F.O a0 (by omega)⟩, ⟨F1, a1.fr F (by omega)⟩, ⟨F2, a2.fr F (by omega)⟩, ⟨F3, a3.fr F (by omega)⟩, ⟨F4, a4.fr F (by omega)⟩, ⟨F5, a5.fr F (by omega)⟩, ⟨F6, a6.fr F (by omega)⟩, G, a7.fr F (by omega)⟩
theorem fareOf_ext {set : Nat → Int32} {tp : Nat → Nat → Nat} {M M' : Nat → Int32} {p : Nat} (h : M p = M' p) : fareOf set tp M p = fareOf set tp M' p := by
  unfold fareOf
  rw [h]
theorem readFrom_R {h : mH} {g r s n : Nat} {set : Nat → Int32} {tp : Nat → Nat → Nat} (hn : n ≤ 61) (hv : vTs n tp) (hgr : r + 2 ≤ g ∨ g + 8 ≤ r) (hgs : s < g ∨ g + 8 ≤ s) (A : isRG h g) (R : isTR h r n tp) (S : isA h s 6 set) :
    ∃ h', s_X0_readFrom h g r s = some h' ∧ isRd h' g n set tp ∧ fr h h' g (g + 8) := by
  obtain ⟨⟨a, b, a0⟩, ⟨F1, a1⟩, ⟨F2, a2⟩, ⟨F3, a3⟩, ⟨F4, a4⟩, ⟨F5, a5⟩, ⟨F6, a6⟩, G, a7⟩ := A
  let h1 := m_up h g (rO g (set 4) b)
  let h2 := m_up h1 g (rO g (set 4) (set 5))
  have E : fr h h2 g (g + 1) := fr.up.tr fr.up
  have E1 : fr h h1 g (g + 1) := fr.up
  have o1 : h1 g = some (rO g (set 4) b) := m_up_same _ _ _
  have o2 : h2 g = some (rO g (set 4) (set 5)) := m_up_same _ _ _
  have w1 : m_put h 0 g 7 (.int (set 4)) = some h1 := put_O a0 (k := 7) (show 7 < 9 by decide)
  have w2 : m_put h1 0 g 8 (.int (set 5)) = some h2 := put_O o1 (k := 8) (show 8 < 9 by decide)
  have S2 := S.fr E (by omega)
  obtain ⟨h3, e3, ⟨F, p3, m3⟩, ⟨G', p3'⟩, f3⟩ := fm_R (L := set 3) hn hv hgr o2 (R.fr E (by omega)) (a1.fr E (by omega)) (a7.fr E (by omega))
  have o3 := f3.O o2 (by omega) (by omega)
  have f3' : fr h2 h3 (g + 1) (g + 8) := f3.fr (by omega) (by omega) (by omega) (by omega)
  have R3 := (R.fr E (by omega)).fr f3' (by omega)
  have S3 := S2.fr f3' (by omega)
  obtain ⟨h4, FA, e4, p4, m4, f4⟩ := ff_L (L := set 3) hn hv hgr hgs m3 n 0 m_F h3 _ o3 R3 S3 p3 (f3.A (a2.fr E (by omega)) (by omega) (by omega)) (fun p hp => absurd hp (Nat.not_lt_zero _)) (by omega) (by unfold m_F; omega)
  have o4 := f4.O o3 (by omega)
  have hFm : ∀ p, p < n → F p = mt n (set 3) tp p := m3.uniq (mt_is _ _ _)
  -- addUp
  have pre : ∀ {k m : Nat} {f : Nat → Int32}, isA h (g + k) m f → 3 ≤ k → k ≤ 6 → isA h4 (g + k) m f := fun x h1 h2 => (f3.A (x.fr E (by omega)) (by omega) (by omega)).fr f4 (by omega)
  obtain ⟨h5, e5, p5, f5⟩ := fill_A (pre a3 (by omega) (by omega)) (by decide) 0
  obtain ⟨h6, e6, p6, f6⟩ := fill_A ((pre a4 (by omega) (by omega)).fr f5 (by omega)) (by decide) 0
  obtain ⟨h7, e7, p7, f7⟩ := fill_A (((pre a5 (by omega) (by omega)).fr f5 (by omega)).fr f6 (by omega)) (by decide) 0
  obtain ⟨h8, e8, p8, f8⟩ := fill_A ((((pre a6 (by omega) (by omega)).fr f5 (by omega)).fr f6 (by omega)).fr f7 (by omega)) (by decide) 0
  have o5 := f5.O o4 (by omega)
  have o6 := f6.O o5 (by omega)
  have o7 := f7.O o6 (by omega)
  have o8 := f8.O o7 (by omega)
  have f48 : fr h4 h8 (g + 3) (g + 7) := ((f5.wd (by omega) (by omega)).tr (f6.wd (by omega) (by omega))).tr ((f7.wd (by omega) (by omega)).tr (f8.wd (by omega) (by omega)))
  have R4 := R3.fr f4 (by omega)
  obtain ⟨h9, e9, y1, y2, y3, y4, f9⟩ := au_L (L := set 3) (M := F) (FA := FA) hn hv hgr n 0 m_F h8 o8 (R4.fr f48 (by omega)) ((p3.fr f4 (by omega)).fr f48 (by omega)) (p4.fr f48 (by omega)) (((p5.fr f6 (by omega)).fr f7 (by omega)).fr f8 (by omega)) ((p6.fr f7 (by omega)).fr f8 (by omega)) (p7.fr f8 (by omega)) p8 (by omega) (by unfold m_F; omega)
  have f49 : fr h4 h9 (g + 3) (g + 7) := f48.tr f9
  refine ⟨h9, ?_, ⟨f9.O o8 (by omega), ⟨F, (p3.fr f4 (by omega)).fr f49 (by omega), hFm⟩, ⟨FA, p4.fr f49 (by omega), fun p hp => by rw [m4 p hp, fareOf_ext (hFm p hp)]⟩, y1.ext fun c _ => sumF_ext fun p hp => ?_, y2.ext fun c _ => sumF_ext fun p hp => ?_, y3.ext fun c _ => sumF_ext fun p hp => ?_, y4.ext fun c _ => sumF_ext fun p hp => ?_, G', (p3'.fr f4 (by omega)).fr f49 (by omega)⟩, ?_⟩
  · have add : s_X0_addUp h4 g r = some h9 := by
      rw [s_X0_addUp, gr_O o4 (k := 2) rfl, bS, e5, bS, gr_O o5 (k := 3) rfl, bS, e6, bS, gr_O o6 (k := 4) rfl, bS, e7, bS, gr_O o7 (k := 5) rfl, bS, e8, bS]
      exact e9
    have ff : s_X0_findFares h3 g r s = some h4 := e4
    rw [s_X0_readFrom, show (4 : Int32) = nI 4 from rfl, at_A S (show 4 < 6 by decide) (by decide), bS, w1, bS, show (5 : Int32) = nI 5 from rfl, at_A (S.fr E1 (by omega)) (show 5 < 6 by decide) (by decide), bS, w2, bS, show (3 : Int32) = nI 3 from rfl, at_A S2 (show 3 < 6 by decide) (by decide), bS, is_O o2, bS, e3, bS, is_O o3, bS, ff, bS, is_O o4, bS, add, bS]
  · show gR tp F c p = gR tp _ c p
    unfold gR
    rw [hFm p hp]
  · show gA tp F c p = gA tp _ c p
    unfold gA
    rw [hFm p hp]
  · show gF tp F FA c p = gF tp _ _ c p
    unfold gF
    rw [hFm p hp, m4 p hp, fareOf_ext (hFm p hp)]
  · show gL tp F c p = gL tp _ c p
    unfold gL
    rw [hFm p hp]
  · exact (E.wd (by omega) (by omega)).tr ((f3'.wd (by omega) (by omega)).tr ((f4.wd (by omega) (by omega)).tr (f49.wd (by omega) (by omega))))
end PRR
