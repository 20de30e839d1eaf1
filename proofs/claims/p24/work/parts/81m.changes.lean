/-! PURE: the class' changes: taps, settings, undo, buffer -/
section PCh
def oB (v : Int32) (b : Nat) : Prop := v < 0 ∨ nI b ≤ v
theorem walletDay_yes {h : mH} {w d : Nat} (hw : w < 4) (hd : d < 28) : s_X7_isWalletDay h (nI w) (nI d) = some 1 := by
  rw [s_X7_isWalletDay, show (4 : Int32) = nI 4 from rfl, below_yes hw (by decide), bS, if_neg (by decide), show (28 : Int32) = nI 28 from rfl, below_yes hd (by decide), bS, if_neg (by decide)]; rfl
theorem walletDay_no {h : mH} {v1 v2 : Int32} (q : oB v1 4 ∨ oB v2 28) : s_X7_isWalletDay h v1 v2 = some 0 := by
  rw [s_X7_isWalletDay, show (4 : Int32) = nI 4 from rfl, show (28 : Int32) = nI 28 from rfl]
  rcases below_c v1 4 (by decide) with ⟨n, hn, rfl⟩ | q1
  · have q2 : oB v2 28 := q.resolve_left fun z => z.elim (nI_pos (by omega)) (nI_ge hn (by decide))
    rw [below_yes hn (by decide), bS, if_neg (by decide), below_no q2, bS, if_pos rfl]; rfl
  · rw [below_no q1, bS, if_pos rfl]; rfl
theorem minuteStation_yes {h : mH} {w d : Nat} (hw : w < 1440) (hd : d < 10) : s_X7_isMinuteStation h (nI w) (nI d) = some 1 := by
  rw [s_X7_isMinuteStation, show (1440 : Int32) = nI 1440 from rfl, below_yes hw (by decide), bS, if_neg (by decide), show (10 : Int32) = nI 10 from rfl, below_yes hd (by decide), bS, if_neg (by decide)]; rfl
theorem minuteStation_no {h : mH} {v1 v2 : Int32} (q : oB v1 1440 ∨ oB v2 10) : s_X7_isMinuteStation h v1 v2 = some 0 := by
  rw [s_X7_isMinuteStation, show (1440 : Int32) = nI 1440 from rfl, show (10 : Int32) = nI 10 from rfl]
  rcases below_c v1 1440 (by decide) with ⟨n, hn, rfl⟩ | q1
  · have q2 : oB v2 10 := q.resolve_left fun z => z.elim (nI_pos (by omega)) (nI_ge hn (by decide))
    rw [below_yes hn (by decide), bS, if_neg (by decide), below_no q2, bS, if_pos rfl]; rfl
  · rw [below_no q1, bS, if_pos rfl]; rfl
theorem insC {h : mH} {g : Nat} {k : mK} {t : Nat → Nat} (C : isC h g k) (hn : kn k ≤ 60) (hv : vTs (kn k) (ktp k)) (vt : vT t) : ∃ h', s_X5_insert h (g + 1) (pk t) = some (nI (kip k t), h') ∧ isC h' g (kins k t) ∧ fr h h' (g + 1) (g + 3) := by
  obtain ⟨c0, c1, c2, c3, c4, c5, c6, c7⟩ := C
  obtain ⟨h', e1, e2, e3⟩ := insert_R c1 hn hv vt
  exact ⟨h', e1, ⟨e3.O c0 (by omega), e2, c2.fr e3 (by omega), c3.fr e3 (by omega), c4.fr e3 (by omega), c5.fr e3 (by omega), c6.fr e3 (by omega), c7.fr e3 (by omega)⟩, e3⟩
theorem kins_v {k : mK} {t : Nat → Nat} (hv : vTs (kn k) (ktp k)) (vt : vT t) : vTs (kn (kins k t)) (ktp (kins k t)) := hv.tins vt (ip_le _)
/-- the core alone has changed -/
theorem coreU {h h' : mH} {X sz bl : Nat} {k k' : mK} {sv : Nat → mK} {bf : Nat → Int32} (A : isU h X k sz sv bl bf) (F : fr h h' (X + 1) (X + 10)) (C : isC h' (X + 1) k') : isU h' X k' sz sv bl bf := by
  obtain ⟨a0, a1, a2, a3, ⟨n, tp, a4⟩, a5, a6, a7⟩ := A
  exact ⟨F.O a0 (by omega), C, a2.fr F (by omega), a3.fr F (by omega), ⟨n, tp, a4.fr F (by omega)⟩, a5.fr F (by omega), a6.fr F (by omega), a7.fr F (by omega)⟩
variable {h : mH} {X sz bl : Nat} {k : mK} {sv : Nat → mK} {bf : Nat → Int32}
theorem tap_no {v1 v2 v3 v4 v5 : Int32} (q : (oB v1 4 ∨ oB v2 28) ∨ oB v3 1440 ∨ oB v4 10) : s_X7_tap h X v1 v2 v3 v4 v5 = some (Sum.inl "java/lang/IllegalArgumentException", h) := by
  rw [s_X7_tap]
  by_cases q1 : oB v1 4 ∨ oB v2 28
  · rw [walletDay_no q1, bS, if_pos rfl]; rfl
  · have q2 := q.resolve_left q1
    have e : ∀ b : Int32, b = 0 ∨ b = 1 → (if b = 0 then s_X7_tap_b17 h else ((s_X7_isMinuteStation h v3 v4).bind fun x11 => if x11 = 0 then (s_X7_tap_b17 h) else ((m_gr h 5 X 0).bind fun x28 => (m_gr h 2 x28 0).bind fun x31 => (m_gi h 3 x31 1).bind fun x34 => if x34 < 60 then ((m_gr h 5 X 2).bind fun x53 => (m_gr h 5 X 0).bind fun x57 => (m_is h 1 x53).bind fun _ => (s_X2_push h x53 x57).bind fun h60 => (m_gr h60 5 X 0).bind fun x64 => (m_gr h60 2 x64 0).bind fun x67 => (s_X4_make h60 v1 v2 v3 v4 v5).bind fun x77 => (m_is h60 3 x67).bind fun _ => (s_X5_insert h60 x67 x77).bind fun (x80, h80) => (m_is h80 5 X).bind fun _ => (s_X7_readRides h80 X).bind fun h86 => some (Sum.inr x80, h86)) else (some (Sum.inl "java/lang/IllegalStateException", h))))) = s_X7_tap_b17 h := by
      intro b hb
      rcases hb with rfl | rfl
      · rw [if_pos rfl]
      · rw [if_neg (by decide), minuteStation_no q2, bS, if_pos rfl]
    have w : ∃ b : Int32, (b = 0 ∨ b = 1) ∧ s_X7_isWalletDay h v1 v2 = some b := by
      rcases below_c v1 4 (by decide) with ⟨n, hn, rfl⟩ | q3
      · rcases below_c v2 28 (by decide) with ⟨m, hm, rfl⟩ | q4
        · exact ⟨1, Or.inr rfl, walletDay_yes hn hm⟩
        · exact absurd (Or.inr q4) q1
      · exact absurd (Or.inl q3) q1
    obtain ⟨b, hb, hw⟩ := w
    rw [hw, bS]
    exact e b hb
theorem tap_full (A : isW h X k sz sv bl bf) {w d m s : Nat} {v5 : Int32} (hw : w < 4) (hd : d < 28) (hm : m < 1440) (hs : s < 10) (hn : kn k = 60) : s_X7_tap h X (nI w) (nI d) (nI m) (nI s) v5 = some (Sum.inl "java/lang/IllegalStateException", h) := by
  obtain ⟨a0, a1, -⟩ := A
  obtain ⟨c0, c1, -⟩ := a1
  rw [s_X7_tap, walletDay_yes hw hd, bS, if_neg (by decide), minuteStation_yes hm hs, bS, if_neg (by decide), gr_O a0 (k := 0) rfl, bS, gr_O c0 (k := 0) rfl, bS, size_R c1, bS, hn, if_neg (show ¬ nI 60 < 60 by decide)]
theorem tap_W (A : isW h X k sz sv bl bf) (hv : vTs (kn k) (ktp k)) {w d m s i : Nat} (hw : w < 4) (hd : d < 28) (hm : m < 1440) (hs : s < 10) (hi : i < 2) (hn : kn k < 60) :
    ∃ h', s_X7_tap h X (nI w) (nI d) (nI m) (nI s) (nI i) = some (Sum.inr (nI (kip k (mkT w d m s i 0))), h') ∧ isW h' X (kins k (mkT w d m s i 0)) (min (sz + 1) 6) (kpush sv k) bl bf ∧ fr h h' X (X + 87) := by
  have vt : vT (mkT w d m s i 0) := ⟨hw, hd, hm, hs, hi, show 0 < 2 by decide⟩
  obtain ⟨h1, e1, e2, e3⟩ := push_W A
  obtain ⟨h2, f1, f2, f3⟩ := insC e2.2.1 (by omega) hv vt
  obtain ⟨h3, g1, g2, g3⟩ := readRides_W (coreU e2.U (f3.wd (by omega) (by omega)) f2) (show kn k + 1 ≤ 61 by omega) (kins_v hv vt)
  refine ⟨h3, ?_, g2, (e3.tr (f3.wd (by omega) (by omega))).tr g3⟩
  obtain ⟨nx, sr⟩ := sv_ref A
  have b0 := e2.1
  have b1 := e2.2.1.1
  have b2 := e2.2.1.2.1
  have d0 := f3.O b0 (show X < X + 1 + 1 ∨ _ by omega)
  obtain ⟨a0, a1, -⟩ := A
  obtain ⟨c0, c1, -⟩ := a1
  rw [s_X7_tap, walletDay_yes hw hd, bS, if_neg (by decide), minuteStation_yes hm hs, bS, if_neg (by decide), gr_O a0 (k := 0) rfl, bS, gr_O c0 (k := 0) rfl, bS, size_R c1, bS, if_pos (show nI (kn k) < 60 from nI_lt hn (by decide)), gr_O a0 (k := 2) rfl, bS, bS, is_O sr, bS, e1, bS, gr_O b0 (k := 0) rfl, bS, gr_O b1 (k := 0) rfl, bS, make_pk vt, bS, is_O b2.1, bS, f1, bS]
  show ((m_is h2 5 X).bind fun _ => _) = _
  rw [is_O d0, bS, g1]
  rfl
def kdel (k : mK) (p : Nat) : mK := (kn k - 1, tdel (ktp k) p, k.2.2)
theorem place_yes (A : isW h X k sz sv bl bf) (hn : kn k ≤ 60) {p : Nat} (hp : p < kn k) : s_X7_isPlace h X (nI p) = some 1 := by
  obtain ⟨a0, a1, -⟩ := A
  obtain ⟨c0, c1, -⟩ := a1
  rw [s_X7_isPlace, gr_O a0 (k := 0) rfl, bS, gr_O c0 (k := 0) rfl, bS, size_R c1, bS, below_yes hp (by omega)]; rfl
theorem place_no (A : isW h X k sz sv bl bf) {v : Int32} (hp : oB v (kn k)) : s_X7_isPlace h X v = some 0 := by
  obtain ⟨a0, a1, -⟩ := A
  obtain ⟨c0, c1, -⟩ := a1
  rw [s_X7_isPlace, gr_O a0 (k := 0) rfl, bS, gr_O c0 (k := 0) rfl, bS, size_R c1, bS, below_no hp]; rfl
theorem remove_no (A : isW h X k sz sv bl bf) {v : Int32} (hp : oB v (kn k)) : s_X7_remove h X v = some (Sum.inl "java/lang/IndexOutOfBoundsException", h) := by
  rw [s_X7_remove, is_O A.1, bS, place_no A hp, bS, if_pos rfl]
theorem remove_W (A : isW h X k sz sv bl bf) (hn : kn k ≤ 60) (hv : vTs (kn k) (ktp k)) {p : Nat} (hp : p < kn k) : ∃ h', s_X7_remove h X (nI p) = some (Sum.inr (nI (kn k - 1)), h') ∧ isW h' X (kdel k p) (min (sz + 1) 6) (kpush sv k) bl bf ∧ fr h h' X (X + 87) := by
  obtain ⟨h1, e1, e2, e3⟩ := push_W A
  obtain ⟨c0, c1, c2, c3, c4, c5, c6, c7⟩ := id e2.2.1
  obtain ⟨h2, f1, f2, f3⟩ := take_R c1 hn hp
  have C2 : isC h2 (X + 1) (kdel k p) := ⟨f3.O c0 (by omega), f2, c2.fr f3 (by omega), c3.fr f3 (by omega), c4.fr f3 (by omega), c5.fr f3 (by omega), c6.fr f3 (by omega), c7.fr f3 (by omega)⟩
  have v2 : vTs (kn (kdel k p)) (ktp (kdel k p)) := vTs.tdel (n := kn k - 1) (by rw [show kn k - 1 + 1 = kn k by omega]; exact hv) (by omega)
  obtain ⟨h3, g1, g2, g3⟩ := readRides_W (coreU e2.U (f3.wd (by omega) (by omega)) C2) (show kn k - 1 ≤ 61 by omega) v2
  refine ⟨h3, ?_, g2, (e3.tr (f3.wd (by omega) (by omega))).tr g3⟩
  obtain ⟨nx, sr⟩ := sv_ref A
  have b0 := e2.1
  have d0 := f3.O b0 (show X < X + 1 + 1 ∨ _ by omega)
  rw [s_X7_remove, is_O A.1, bS, place_yes A hn hp, bS, if_neg (by decide), gr_O A.1 (k := 2) rfl, bS, gr_O A.1 (k := 0) rfl, bS, is_O sr, bS, e1, bS, gr_O b0 (k := 0) rfl, bS, gr_O c0 (k := 0) rfl, bS, is_O c1.1, bS, f1, bS, is_O d0, bS, g1, bS, gr_O g2.1 (k := 0) rfl, bS, gr_O g2.2.1.1 (k := 0) rfl, bS, size_R g2.2.1.2.1]
  rfl
theorem undo_no (A : isW h X k 0 sv bl bf) : s_X7_undo h X = some (Sum.inl "java/lang/IllegalStateException", h) := by
  obtain ⟨nx, sr⟩ := sv_ref A
  rw [s_X7_undo, gr_O A.1 (k := 2) rfl, bS, gi_O sr (k := 2) rfl, bS, if_neg (show ¬ 0 < nI 0 by decide)]
theorem undo_W (A : isW h X k (sz + 1) sv bl bf) (hz : sz < 6) (hn : kn (sv 0) ≤ 60) (hv : vTs (kn (sv 0)) (ktp (sv 0))) : ∃ h', s_X7_undo h X = some (Sum.inr (nI sz), h') ∧ isW h' X (sv 0) sz (fun j => sv (j + 1)) bl bf ∧ fr h h' X (X + 87) := by
  obtain ⟨nx, sr⟩ := sv_ref A
  obtain ⟨a0, a1, a2, a3, ⟨n, tp, a4⟩, a5, a6, a7⟩ := A
  obtain ⟨h1, h2, e1, e2, e3, e4, e5⟩ := pop_V a3 a1 (by omega)
  have E : ∀ q, q < X + 1 ∨ (X + 10 ≤ q ∧ q < X + 18) ∨ X + 19 ≤ q → h2 q = h q := by
    intro q hq
    rw [e5 q (by omega), e4 q (by omega)]
  have U : isU h2 X (sv 0) sz (fun j => sv (j + 1)) bl bf := by
    have F0 : fr h h1 (X + 18) (X + 19) := e4
    have F1 : fr h1 h2 (X + 1) (X + 10) := e5
    exact ⟨F1.O (F0.O a0 (by omega)) (by omega), e3, (a2.G.fr F0 (by omega)).fr F1 (by omega), e2, ⟨n, tp, (a4.fr F0 (by omega)).fr F1 (by omega)⟩, (a5.fr F0 (by omega)).fr F1 (by omega), (a6.fr F0 (by omega)).fr F1 (by omega), (a7.fr F0 (by omega)).fr F1 (by omega)⟩
  obtain ⟨h3, g1, g2, g3⟩ := readRides_W U (by omega) hv
  refine ⟨h3, ?_, g2, ?_⟩
  · obtain ⟨nx', sr'⟩ := sv_ref g2
    rw [s_X7_undo, gr_O a0 (k := 2) rfl, bS, gi_O sr (k := 2) rfl, bS, if_pos (show 0 < nI (sz + 1) from nI_lt (a := 0) (by omega) (by omega)), bS, gr_O a0 (k := 0) rfl, bS, is_O sr, bS, e1, bS, is_O U.1, bS, g1, bS, gr_O g2.1 (k := 2) rfl, bS, gi_O sr' (k := 2) rfl]
    rfl
  · intro q hq
    rw [g3 q hq, E q (by omega)]
end PCh
