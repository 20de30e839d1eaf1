/-! PURE: the class finds the mates -/
section PF
def rO (g : Nat) (a b : Int32) : mE := mO 0 [.ref (g + 1), .ref (g + 2), .ref (g + 3), .ref (g + 4), .ref (g + 5), .ref (g + 6), .ref (g + 7), .int a, .int b]
def f2 (h h' : mH) (a b : Nat) : Prop := ∀ q, q ≠ a → q ≠ b → h' q = h q
theorem f2.rf {h : mH} {a b : Nat} : f2 h h a b := fun _ _ _ => rfl
theorem f2.tr {h h1 h2 : mH} {a b : Nat} (x : f2 h h1 a b) (y : f2 h1 h2 a b) : f2 h h2 a b := fun q p1 p2 => (y q p1 p2).trans (x q p1 p2)
theorem fr.l {h h' : mH} {a b : Nat} (F : fr h h' a (a + 1)) : f2 h h' a b := fun q p1 _ => F q (by omega)
theorem fr.r {h h' : mH} {a b : Nat} (F : fr h h' b (b + 1)) : f2 h h' a b := fun q _ p2 => F q (by omega)
theorem f2.fr {h h' : mH} {a b lo hi : Nat} (F : f2 h h' a b) (h1 : lo ≤ a) (h2 : a < hi) (h3 : lo ≤ b) (h4 : b < hi) : fr h h' lo hi := fun q hq => F q (by omega) (by omega)
theorem f2.O {h h' : mH} {a b c : Nat} {e : mE} (F : f2 h h' a b) (H : h c = some e) (h1 : c ≠ a) (h2 : c ≠ b) : h' c = some e := (F c h1 h2).trans H
theorem f2.A {h h' : mH} {a b c n : Nat} {f : Nat → Int32} (F : f2 h h' a b) (A : isA h c n f) (h1 : c ≠ a) (h2 : c ≠ b) : isA h' c n f := by
  obtain ⟨g, p1, p2⟩ := A
  exact ⟨g, (F c h1 h2).trans p1, p2⟩
theorem f2.R {h h' : mH} {a b g n : Nat} {tp : Nat → Nat → Nat} (F : f2 h h' a b) (A : isTR h g n tp) (h1 : g ≠ a) (h2 : g ≠ b) (h3 : g + 1 ≠ a) (h4 : g + 1 ≠ b) : isTR h' g n tp := by
  obtain ⟨p1, f, p2, p3⟩ := A
  exact ⟨F.O p1 h1 h2, f, F.A p2 h3 h4, p3⟩
theorem fm_b {k : mH → Nat → Nat → Int32 → Int32 → Option mH} {h : mH} {g r i : Nat} {L c1 c2 : Int32} {t : Nat → Nat} {G : Nat → Int32} (H : h g = some (rO g c1 c2)) (v : vT t) (A : isA h (g + 7) 4 G) : ∃ h', s_X0_findMates_b87 k h g r L (nI i) (pk t) = k h' g r L (nI (i + 1)) ∧ isA h' (g + 7) 4 (upd G (t 0) (nI i)) ∧ fr h h' (g + 7) (g + 7 + 1) := by
  obtain ⟨h', e1, e2, e3⟩ := put_A A (k := t 0) v.1 (by decide) (nI i)
  refine ⟨h', ?_, e2, e3⟩
  rw [s_X0_findMates_b87, gr_O H (k := 6) rfl, bS, walletOf_pk v, bS, e1, bS, nI_1]
theorem fm_L {g r n : Nat} {L c1 c2 : Int32} {tp : Nat → Nat → Nat} (hn : n ≤ 61) (hv : vTs n tp) (hgr : r + 2 ≤ g ∨ g + 8 ≤ r) : ∀ (d i F : Nat) (h : mH) (f G : Nat → Int32), h g = some (rO g c1 c2) → isTR h r n tp → isA h (g + 1) 61 f → isA h (g + 7) 4 G → isMM (fun x y => pq n L tp x y ∧ y < i) n f → (∀ w, w < 4 → lst tp w i (G w)) → i + d = n → d < F →
    ∃ h', s_X0_findMates_L18 F h g r L (nI i) = some h' ∧ (∃ f', isA h' (g + 1) 61 f' ∧ isMM (pq n L tp) n f') ∧ (∃ G', isA h' (g + 7) 4 G') ∧ f2 h h' (g + 1) (g + 7) := by
  intro d
  induction d with
  | zero =>
    intro i F h f G H R A B M S hi hF
    obtain ⟨F, rfl⟩ : ∃ F', F = F' + 1 := ⟨F - 1, by omega⟩
    refine ⟨h, ?_, ⟨f, A, M.same fun x y => ⟨fun z => z.1, fun z => ⟨z, by have := z.2.1; omega⟩⟩⟩, ⟨G, B⟩, f2.rf⟩
    rw [s_X0_findMates_L18, size_R R, bS, if_pos (nI_le (by omega) (by omega))]
  | succ d ih =>
    intro i F h f G H R A B M S hi hF
    obtain ⟨F, rfl⟩ : ∃ F', F = F' + 1 := ⟨F - 1, by omega⟩
    have vi := hv i (by omega)
    have hw : tp i 0 < 4 := vi.1
    have S' : ∀ w, w < 4 → lst tp w (i + 1) (upd G (tp i 0) (nI i) w) := by
      intro w hw4
      have := (S w hw4).step
      by_cases q : w = tp i 0
      · rw [q, pk_us]
        rw [q, if_pos rfl] at this
        exact this
      · rw [pk_un q]
        rw [if_neg (fun z => q z.symm)] at this
        exact this
    have start : s_X0_findMates_L18 (F + 1) h g r L (nI i) = if G (tp i 0) < 0 then s_X0_findMates_b87 (s_X0_findMates_L18 F) h g r L (nI i) (pk (tp i)) else ((s_X5_tapAt h r (G (tp i 0))).bind fun x55 => (s_X0_isRide h x55 (pk (tp i)) L).bind fun x61 => if x61 = 0 then (s_X0_findMates_b87 (s_X0_findMates_L18 F) h g r L (nI i) (pk (tp i))) else ((m_gr h 0 g 0).bind fun x68 => (s_X1_put h x68 (G (tp i 0)) (nI i)).bind fun h74 => (m_gr h74 0 g 0).bind fun x78 => (s_X1_put h74 x78 (nI i) (G (tp i 0))).bind fun h84 => s_X0_findMates_b87 (s_X0_findMates_L18 F) h84 g r L (nI i) (pk (tp i)))) := by
      rw [s_X0_findMates_L18, size_R R, bS, if_neg (nI_ge (by omega) (by omega)), is_O R.1, bS, tapAt_R R (by omega) hn, bS, gr_O H (k := 6) rfl, bS, walletOf_pk vi, bS, at_A B hw (by decide), bS]
      rfl
    rw [start]
    -- the step where no ride comes
    have plain : (∀ x, ¬ pq n L tp x i) → ∃ h', s_X0_findMates_b87 (s_X0_findMates_L18 F) h g r L (nI i) (pk (tp i)) = some h' ∧ (∃ f', isA h' (g + 1) 61 f' ∧ isMM (pq n L tp) n f') ∧ (∃ G', isA h' (g + 7) 4 G') ∧ f2 h h' (g + 1) (g + 7) := by
      intro hno
      obtain ⟨h1, e1, e2, e3⟩ := fm_b (k := s_X0_findMates_L18 F) (r := r) (i := i) (L := L) H vi B
      have E : f2 h h1 (g + 1) (g + 7) := e3.r
      obtain ⟨h2, q1, q2, q3, q4⟩ := ih (i + 1) F h1 f _ (E.O H (by omega) (by omega)) (E.R R (by omega) (by omega) (by omega) (by omega)) (A.fr e3 (by omega)) e2 (M.same fun x y => ⟨fun z => ⟨z.1, by omega⟩, fun z => ⟨z.1, by
        by_cases q : y = i
        · subst q; exact absurd z.1 (hno x)
        · omega⟩⟩) S' (by omega) (by omega)
      exact ⟨h2, e1.trans q1, q2, q3, E.tr q4⟩
    rcases S (tp i 0) hw with ⟨s1, s2⟩ | ⟨p, s1, s2, s3, s4⟩
    · rw [s1, if_pos (show (-1 : Int32) < 0 by decide)]
      exact plain fun x hx => absurd hx.2.2.1 (s2 x hx.1)
    · have hpos : ¬ (nI p < 0) := nI_pos (by omega)
      have vp := hv p (by omega)
      rw [s2, if_neg hpos, tapAt_R R (by omega) hn, bS, isRide_pk vp vi, bS]
      by_cases c : tp p 4 = 1 ∧ tp i 4 = 0 ∧ tp p 1 = tp i 1 ∧ nI (tp i 2) - nI (tp p 2) ≤ L
      · have hpi : pq n L tp p i := ⟨s1, by omega, s3, fun r h1 h2 => by rw [s3]; exact s4 r h1 h2, c.1, c.2.1, c.2.2.1, c.2.2.2⟩
        rw [if_pos c, if_neg (show ¬ (1 : Int32) = 0 by decide), gr_O H (k := 0) rfl, bS]
        obtain ⟨h1, e1, e2, e3⟩ := put_A A (k := p) (by omega) (by decide) (nI i)
        have H1 := e3.O H (by omega)
        obtain ⟨h2, g1, g2, g3⟩ := put_A e2 (k := i) (by omega) (by decide) (nI p)
        have H2 := g3.O H1 (by omega)
        obtain ⟨h3, k1, k2, k3⟩ := fm_b (k := s_X0_findMates_L18 F) (r := r) (i := i) (L := L) H2 vi ((B.fr e3 (by omega)).fr g3 (by omega))
        have E : f2 h h3 (g + 1) (g + 7) := (e3.l.tr g3.l).tr k3.r
        obtain ⟨h4, q1, q2, q3, q4⟩ := ih (i + 1) F h3 _ _ (E.O H (by omega) (by omega)) (E.R R (by omega) (by omega) (by omega) (by omega)) (g2.fr k3 (by omega)) k2
          (M.add (P' := fun x y => pq n L tp x y ∧ y < i + 1) (a := p) (b := i) (fun x y => ⟨fun z => by
            by_cases q : y = i
            · subst q; exact Or.inr ⟨pq_l z.1 hpi, rfl⟩
            · exact Or.inl ⟨z.1, by omega⟩, fun z => by
            rcases z with z | ⟨z1, z2⟩
            · exact ⟨z.1, by omega⟩
            · subst z1; subst z2; exact ⟨hpi, by omega⟩⟩) (by omega) (fun q => ⟨fun z => by have := pq_r z.1 hpi; omega, fun z => pq_x z.1 hpi⟩) (fun q => ⟨fun z => pq_x hpi z.1, fun z => by omega⟩)) S' (by omega) (by omega)
        refine ⟨h4, ?_, q2, q3, E.tr q4⟩
        rw [e1, bS, gr_O H1 (k := 0) rfl, bS, g1, bS, k1, q1]
      · rw [if_neg c, if_pos rfl]
        refine plain fun x hx => c ?_
        have hxp : x = p := by
          rcases Nat.lt_trichotomy x p with z | z | z
          · exact absurd (s3.trans hx.2.2.1.symm) (hx.2.2.2.1 p z s1)
          · exact z
          · exact absurd hx.2.2.1 (s4 x z hx.1)
        subst hxp
        exact ⟨hx.2.2.2.2.1, hx.2.2.2.2.2.1, hx.2.2.2.2.2.2.1, hx.2.2.2.2.2.2.2⟩
theorem fm_R {g r n : Nat} {L c1 c2 : Int32} {tp : Nat → Nat → Nat} {h : mH} {f G : Nat → Int32} (hn : n ≤ 61) (hv : vTs n tp) (hgr : r + 2 ≤ g ∨ g + 8 ≤ r) (H : h g = some (rO g c1 c2)) (R : isTR h r n tp) (A : isA h (g + 1) 61 f) (B : isA h (g + 7) 4 G) :
    ∃ h', s_X0_findMates h g r L = some h' ∧ (∃ f', isA h' (g + 1) 61 f' ∧ isMM (pq n L tp) n f') ∧ (∃ G', isA h' (g + 7) 4 G') ∧ f2 h h' (g + 1) (g + 7) := by
  obtain ⟨h1, e1, e2, e3⟩ := fill_A A (by decide) (-1)
  have H1 := e3.O H (by omega)
  obtain ⟨h2, g1, g2, g3⟩ := fill_A (B.fr e3 (by omega)) (by decide) (-1)
  have E : f2 h h2 (g + 1) (g + 7) := e3.l.tr g3.r
  obtain ⟨h3, q1, q2, q3, q4⟩ := fm_L (L := L) hn hv hgr n 0 m_F h2 _ _ (E.O H (by omega) (by omega)) (E.R R (by omega) (by omega) (by omega) (by omega)) (e2.fr g3 (by omega)) g2 (isMM.none (fun x y z => absurd z.2 (Nat.not_lt_zero _)) (fun _ _ => rfl)) (fun w _ => Or.inl ⟨rfl, fun p hp => absurd hp (Nat.not_lt_zero _)⟩) (by omega) (by unfold m_F; omega)
  refine ⟨h3, ?_, q2, q3, E.tr q4⟩
  rw [s_X0_findMates, gr_O H (k := 0) rfl, bS, e1, bS, gr_O H1 (k := 6) rfl, bS, g1, bS]
  exact q1
end PF
