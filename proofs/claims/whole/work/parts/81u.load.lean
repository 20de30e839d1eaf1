/-! PURE: the class loads -/
section PLd
def kld (k : mK) (tp : Nat → Nat → Nat) : Nat → mK
  | 0 => k
  | m + 1 => kins (kld k tp m) (tp m)
theorem kld_n (k : mK) (tp : Nat → Nat → Nat) : ∀ m, kn (kld k tp m) = kn k + m
  | 0 => rfl
  | m + 1 => by
    show kn (kld k tp m) + 1 = _
    rw [kld_n k tp m]; rfl
theorem kld_v {k : mK} {tp : Nat → Nat → Nat} (hv : vTs (kn k) (ktp k)) : ∀ m, (∀ j, j < m → vT (tp j)) → vTs (kn (kld k tp m)) (ktp (kld k tp m))
  | 0, _ => hv
  | m + 1, ht => kins_v (kld_v hv m (fun j hj => ht j (by omega))) (ht m (by omega))
variable {h : mH} {X sz bl : Nat} {k : mK} {sv : Nat → mK} {bf : Nat → Int32} {bc : Nat → Nat}
theorem isU.fr {h' : mH} {lo hi : Nat} (A : isU h X k sz sv bl bf) (F : fr h h' lo hi) (hq : X + 87 ≤ lo ∨ hi ≤ X) : isU h' X k sz sv bl bf := by
  obtain ⟨a0, a1, a2, a3, ⟨n, tp, a4⟩, a5, a6, a7⟩ := A
  exact ⟨F.O a0 (by omega), a1.fr F (by omega), a2.fr F (by omega), a3.fr F (by omega), ⟨n, tp, a4.fr F (by omega)⟩, a5.fr F (by omega), a6.fr F (by omega), a7.fr F (by omega)⟩
theorem load_109 (A : isU h X k sz sv bl bf) (hn : kn k ≤ 61) (hv : vTs (kn k) (ktp k)) {v : Int32} : ∃ h', s_X7_load_b109 h X v = some (Sum.inr v, h') ∧ isW h' X k sz sv 0 bf ∧ fr h h' X (X + 87) := by
  obtain ⟨h1, e1, e2, e3⟩ := readRides_W A hn hv
  obtain ⟨a0, a1, a2, a3, ⟨n, tp, a4⟩, a5, a6, a7⟩ := e2
  have w : m_put h1 5 X 6 (.int 0) = some (m_up h1 X (xO X 0)) := put_O a0 (k := 6) (show 6 < 8 by decide)
  have E : fr h1 (m_up h1 X (xO X 0)) X (X + 1) := fr.up
  refine ⟨m_up h1 X (xO X 0), ?_, ⟨m_up_same _ _ _, a1.fr E (by omega), a2.fr E (by omega), a3.fr E (by omega), ⟨n, tp, a4.fr E (by omega)⟩, a5.fr E (by omega), a6.fr E (by omega), a7.fr E (by omega)⟩, e3.tr (E.wd (by omega) (by omega))⟩
  rw [s_X7_load_b109, is_O A.1, bS, e1, bS, w]; rfl
theorem load_L {st nm wl dy mn i0 tc m : Nat} {tp : Nat → Nat → Nat} (hv : vTs (kn k) (ktp k)) (hn : kn k ≤ 60) (htc : tc ≤ 10) (ht : ∀ j, j < tc → vT (tp j)) (hm : m = min tc (60 - kn k)) : ∀ (d i F : Nat) (h : mH), isU h X (kld k tp i) sz sv bl bf → isRD h (X + 85) st nm wl dy mn i0 tc tp → i + d = m → d < F →
    ∃ h', s_X7_load_L55 F h X (nI i) = some (Sum.inr (nI m), h') ∧ isW h' X (kld k tp m) sz sv 0 bf ∧ fr h h' X (X + 87) := by
  intro d
  induction d with
  | zero =>
    intro i F h U D hi hF
    obtain ⟨F, rfl⟩ : ∃ F', F = F' + 1 := ⟨F - 1, by omega⟩
    obtain rfl : i = m := by omega
    obtain ⟨⟨a, b, c, d, e, H, -⟩, f, G, hf⟩ := D
    have kN : kn (kld k tp i) = kn k + i := kld_n k tp i
    obtain ⟨h', e1, e2, e3⟩ := load_109 (v := nI i) U (by omega) (kld_v hv i (fun j hj => ht j (by omega)))
    refine ⟨h', ?_, e2, e3⟩
    rw [s_X7_load_L55, gr_O U.1 (k := 7) rfl, bS, gi_O H (k := 1) rfl, bS]
    by_cases q : tc ≤ i
    · rw [if_pos (nI_le q (by omega)), e1]
    · have q60 : kn k + i = 60 := by omega
      rw [if_neg (nI_ge (by omega) (by omega)), gr_O U.1 (k := 0) rfl, bS, gr_O U.2.1.1 (k := 0) rfl, bS, size_R U.2.1.2.1, bS, kN, q60, if_pos (show (60 : Int32) ≤ nI 60 by decide), e1]
  | succ d ih =>
    intro i F h U D hi hF
    obtain ⟨F, rfl⟩ : ∃ F', F = F' + 1 := ⟨F - 1, by omega⟩
    obtain ⟨⟨a, b, c, d', e, H, r⟩, f, G, hf⟩ := id D
    have kN : kn (kld k tp i) = kn k + i := kld_n k tp i
    obtain ⟨h1, e1, e2, e3⟩ := insC (t := tp i) U.2.1 (by omega) (kld_v hv i (fun j hj => ht j (by omega))) (ht i (by omega))
    have U1 : isU h1 X (kld k tp (i + 1)) sz sv bl bf := coreU U (e3.wd (by omega) (by omega)) e2
    have D1 : isRD h1 (X + 85) st nm wl dy mn i0 tc tp := ⟨⟨a, b, c, d', e, e3.O H (by omega), r⟩, f, G.fr e3 (by omega), hf⟩
    obtain ⟨h2, f1, f2, f3⟩ := ih (i + 1) F h1 U1 D1 (by omega) (by omega)
    refine ⟨h2, ?_, f2, (e3.wd (by omega) (by omega)).tr f3⟩
    rw [s_X7_load_L55, gr_O U.1 (k := 7) rfl, bS, gi_O H (k := 1) rfl, bS, if_neg (nI_ge (by omega) (by omega)), gr_O U.1 (k := 0) rfl, bS, gr_O U.2.1.1 (k := 0) rfl, bS, size_R U.2.1.2.1, bS, kN, if_neg (show ¬ (60 : Int32) ≤ nI (kn k + i) from nI_ge (b := 60) (by omega) (by decide)), bS, gr_O U.2.1.1 (k := 0) rfl, bS, bS, gr_O H (k := 0) rfl, bS, at_A G (show i < 10 by omega) (by decide), bS, is_O U.2.1.2.1.1, bS, hf i (by omega)]
    show ((s_X5_insert h (X + 1 + 1) (pk (tp i))).bind fun (x99, h99) => _) = _
    rw [e1, bS, nI_1]
    exact f1
theorem load_no (A : isW h X k sz sv bl bf) (hB : isB bl bf bc) (hq : ¬ ∃ s, (drun bc bl 0 s0D).2 = some s ∧ s.1 = 7) : ∃ h', s_X7_load h X = some (Sum.inl "java/lang/IllegalArgumentException", h') ∧ isW h' X k sz sv bl bf ∧ fr h h' X (X + 87) := by
  obtain ⟨a0, a1, a2, a3, ⟨n, tp, a4⟩, a5, a6, a7⟩ := A
  obtain ⟨h', e1, e2, e3⟩ := readUpTo_D hB (by omega) a7 a6
  have b0 := e3.O a0 (show X < X + 85 ∨ _ by omega)
  refine ⟨h', ?_, ⟨b0, a1.fr e3 (by omega), a2.fr e3 (by omega), a3.fr e3 (by omega), ⟨n, tp, a4.fr e3 (by omega)⟩, a5.fr e3 (by omega), a6.fr e3 (by omega), e2.R⟩, e3.wd (by omega) (by omega)⟩
  obtain ⟨⟨a, a', c, d, e, f, i, H⟩, q, G⟩ := a7
  have hb := hB.1
  rw [s_X7_load, gr_O a0 (k := 7) rfl, bS, gr_O a0 (k := 5) rfl, bS, gi_O a0 (k := 6) rfl, bS, is_O H, bS, e1, bS]
  show ((m_gi h' 5 X 6).bind fun x16 => _) = _
  rw [gi_O b0 (k := 6) rfl, bS]
  unfold dres at e2
  rcases hr : (drun bc bl 0 s0D).2 with _ | s
  · rw [hr] at e2
    rw [if_pos (nI_lt e2.2 (by omega))]; rfl
  · rw [hr] at e2
    obtain ⟨⟨⟨x1, x2, x3, x4, x5, H2, -⟩, -⟩, V, ep⟩ := e2
    have hs7 : ¬ s.1 = 7 := fun z => hq ⟨s, hr, z⟩
    have hle := V.1
    rw [ep, if_neg (fun z => absurd ((nI_ltI (by omega) (by omega)).mp z) (by omega)), gr_O b0 (k := 7) rfl, bS, is_O H2, bS, s_X6_isWhole, gi_O H2 (k := 2) rfl, bS, if_neg (show ¬ nI s.1 = 7 from fun z => hs7 ((nI_eq (b := 7) (by omega) (by decide)).mp z))]; rfl
theorem load_W (A : isW h X k sz sv bl bf) (hB : isB bl bf bc) (hn : kn k ≤ 60) (hv : vTs (kn k) (ktp k)) {s : mD} (hr : (drun bc bl 0 s0D).2 = some s) (h7 : s.1 = 7) :
    ∃ h', s_X7_load h X = some (Sum.inr (nI (min s.2.2.2.2.2.2.1 (60 - kn k))), h') ∧ isW h' X (kld k s.2.2.2.2.2.2.2 (min s.2.2.2.2.2.2.1 (60 - kn k))) (min (sz + 1) 6) (kpush sv k) 0 bf ∧ fr h h' X (X + 87) := by
  obtain ⟨a0, a1, a2, a3, ⟨n, tp, a4⟩, a5, a6, a7⟩ := A
  obtain ⟨h1, e1, e2, e3⟩ := readUpTo_D hB (by omega) a7 a6
  have b0 := e3.O a0 (show X < X + 85 ∨ _ by omega)
  have A1 : isW h1 X k sz sv bl bf := ⟨b0, a1.fr e3 (by omega), a2.fr e3 (by omega), a3.fr e3 (by omega), ⟨n, tp, a4.fr e3 (by omega)⟩, a5.fr e3 (by omega), a6.fr e3 (by omega), e2.R⟩
  have hb := hB.1
  unfold dres at e2
  rw [hr] at e2
  obtain ⟨D, V, ep⟩ := e2
  obtain ⟨nx, sr⟩ := sv_ref A1
  obtain ⟨h2, f1, f2, f3⟩ := push_V A1.2.2.2.1 A1.2.1 (by omega)
  have A2 : isW h2 X k (min (sz + 1) 6) (kpush sv k) bl bf := by
    obtain ⟨c0, c1, c2, c3, ⟨n', tp', c4⟩, c5, c6, c7⟩ := A1
    exact ⟨f3.O c0 (by omega), c1.fr f3 (by omega), c2.fr f3 (by omega), f2, ⟨n', tp', c4.fr f3 (by omega)⟩, c5.fr f3 (by omega), c6.fr f3 (by omega), c7.fr f3 (by omega)⟩
  have D2 := D.fr f3 (by omega)
  have V8 := V.2.2.2.2.2.2.2.1 h7
  obtain ⟨h3, g1, g2, g3⟩ := load_L (k := k) hv hn (show s.2.2.2.2.2.2.1 ≤ 10 by omega) V.2.2.2.2.2.2.2.2 rfl (min s.2.2.2.2.2.2.1 (60 - kn k)) 0 m_F h2 A2.U D2 (by omega) (by unfold m_F; omega)
  refine ⟨h3, ?_, g2, ((e3.wd (by omega) (by omega)).tr (f3.wd (by omega) (by omega))).tr g3⟩
  obtain ⟨⟨a, a', c, d, e, f, i, H⟩, q, G⟩ := a7
  obtain ⟨⟨x1, x2, x3, x4, x5, H2, -⟩, -⟩ := id D
  rw [s_X7_load, gr_O a0 (k := 7) rfl, bS, gr_O a0 (k := 5) rfl, bS, gi_O a0 (k := 6) rfl, bS, is_O H, bS, e1, bS]
  show ((m_gi h1 5 X 6).bind fun x16 => _) = _
  rw [gi_O b0 (k := 6) rfl, bS, ep, if_neg (fun z => absurd ((nI_ltI (by omega) (by omega)).mp z) (by omega)), gr_O b0 (k := 7) rfl, bS, is_O H2, bS, s_X6_isWhole, gi_O H2 (k := 2) rfl, bS, h7, if_pos (show nI 7 = 7 from rfl), s_X6_isWhole_b14, z_1, bS, bS, if_neg (show ¬ (1 : Int32) = 0 by decide), gr_O b0 (k := 2) rfl, bS, gr_O b0 (k := 0) rfl, bS, is_O sr, bS, f1, bS]
  exact g1
end PLd
