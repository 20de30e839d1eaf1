/-! PURE: the reference reads a text -/
section RU
def dJ (w : Int32) (bl p : Nat) (R : Nat × Option mD) (F : Prop) : Prop := (w = 1 ∧ p ≤ bl ∧ F) ∨ (w = 0 ∧ noR bl R p)
variable {bl p : Nat} {bc : Nat → Nat} {R : Nat × Option mD} {h : mH} {M rm : Nat} {sm w : Int32} {hs : Int64} {b r : Nat → Int32}
theorem dJ.le {F : Prop} (D : dJ w bl p R F) : p ≤ bl := by
  rcases D with ⟨-, h, -⟩ | ⟨-, h⟩
  · exact h
  · exact h.1
theorem isJ.rd (A : isJ h M sm bl p w rm hs b r) {i : Nat} (hi : i < 64) (x : Int32) : ∃ h', m_iast h (M + 6) (nI i) x = some h' ∧ isJ h' M sm bl p w rm hs b (upd r i x) ∧ fr h h' (M + 6) (M + 7) := by
  obtain ⟨h', e1, e2, e3⟩ := iast_A A.2.2 hi (by decide) x
  exact ⟨h', e1, ⟨e3.O A.1 (by omega), A.2.1.fr e3 (by omega), e2⟩, e3⟩
def fJ (h h' : mH) (M : Nat) : Prop := ∀ q, q ≠ M → q ≠ M + 6 → h' q = h q
theorem fJ.rf : fJ h h M := fun _ _ _ => rfl
theorem fJ.o {h1 h2 : mH} (a : fJ h h1 M) (c : fr h1 h2 M (M + 1)) : fJ h h2 M := fun q q1 q2 => by rw [c q (by omega), a q q1 q2]
theorem fJ.ro {h1 h2 : mH} (a : fJ h h1 M) (c : fr h1 h2 (M + 6) (M + 7)) : fJ h h2 M := fun q q1 q2 => by rw [c q (by omega), a q q1 q2]
theorem num_D {F : Prop} {G : Nat → Int32 → Prop} {B : Nat} (hB : isB bl b bc) (hB2 : B < 10000) (A : isJ h M sm bl p w rm hs b r) (D : dJ w bl p R F) (st : F → ∃ (s : mD) (S : Nat → Nat × Nat → mD), (okR bl bc R p s ∧ s.1 ≠ 7) ∧ (∀ v j x, ext B v x → ∃ j', dstep (S v j) x = some (S (v * 10 + (x - 48)) j')) ∧ (∀ x, dg1 B x → ∃ j, dstep s x = some (S (x - 48) j)) ∧ (∀ x, ¬ dg1 B x → dstep s x = none) ∧ ∀ v p' j, v ≤ B → p + 1 ≤ p' → okR bl bc R p' (S v j) → ¬ ext B v (sg bl bc p') → G p' (nI v)) :
    ∃ x p' w' h', s_X8_number h M (nI B) = some (x, h') ∧ isJ h' M sm bl p' w' rm hs b r ∧ dJ w' bl p' R (G p' x) ∧ p ≤ p' ∧ fr h h' M (M + 1) := by
  rcases D with ⟨rfl, hp, f⟩ | ⟨rfl, hn⟩
  · obtain ⟨s, S, ⟨K, h7⟩, hS, hy, hn, hg⟩ := st f
    rcases num_J hB hB2 hS A K h7 hy hn with ⟨v, p', j, h', e1, e2, e3, e4, e5, e6, e7⟩ | ⟨n1, x, h', e1, e2, e3⟩
    · exact ⟨nI v, p', 1, h', e1, e2, Or.inl ⟨rfl, e5.1, hg v p' j e4 e3 e5 e6⟩, by omega, e7⟩
    · exact ⟨x, p, 0, h', e1, e2, Or.inr ⟨rfl, n1⟩, Nat.le_refl _, e3⟩
  · obtain ⟨x, h', e1, e2, e3⟩ := num_w0 (B := nI B) A hB hn.1
    exact ⟨x, p, 0, h', e1, e2, Or.inr ⟨rfl, hn⟩, Nat.le_refl _, e3⟩
theorem wants_D {F : Prop} {G : Nat → Prop} {v : Nat} (hB : isB bl b bc) (hv : v < 127) (A : isJ h M sm bl p w rm hs b r) (D : dJ w bl p R F) (st : F → (sg bl bc p = v → p + 1 ≤ bl ∧ G (p + 1)) ∧ (sg bl bc p ≠ v → noR bl R p)) :
    ∃ p' w' h', s_X8_wants h M (nI v) = some h' ∧ isJ h' M sm bl p' w' rm hs b r ∧ dJ w' bl p' R (G p') ∧ p ≤ p' ∧ fr h h' M (M + 1) := by
  rcases D with ⟨rfl, hp, f⟩ | ⟨rfl, hn⟩
  · by_cases q : sg bl bc p = v
    · obtain ⟨h', e1, e2, e3⟩ := wants_yes A hB hp q
      exact ⟨p + 1, 1, h', e1, e2, Or.inl ⟨rfl, ((st f).1 q).1, ((st f).1 q).2⟩, by omega, e3⟩
    · obtain ⟨h', e1, e2, e3⟩ := wants_no A hB hp hv q
      exact ⟨p, 0, h', e1, e2, Or.inr ⟨rfl, (st f).2 q⟩, Nat.le_refl _, e3⟩
  · obtain ⟨h', e1, e2, e3⟩ := wants_w0 (v := nI v) A
    exact ⟨p, 0, h', e1, e2, Or.inr ⟨rfl, hn⟩, Nat.le_refl _, e3⟩
def rdOK (r : Nat → Int32) (tc : Nat) (tp : Nat → Nat → Nat) : Prop := ∀ j, j < tc → (vT (tp j) ∧ tp j 5 = 0) ∧ ∀ q, q < 5 → r (5 * j + q) = nI (tp j q)
/-- the sign of in or out -/
theorem side_D {F : Prop} {G : Nat → Int32 → Prop} (hB : isB bl b bc) (A : isJ h M sm bl p w rm hs b r) (D : dJ w bl p R F) (hrm : rm ≤ 7) (st : F → (sg bl bc p = 43 → p + 1 ≤ bl ∧ G (p + 1) 1) ∧ (sg bl bc p = 45 → p + 1 ≤ bl ∧ G (p + 1) 0) ∧ (sg bl bc p ≠ 43 → sg bl bc p ≠ 45 → noR bl R p)) :
    ∃ x p' w' h', isJ h' M sm bl p' w' rm hs b (upd r (5 * rm + 4) x) ∧ dJ w' bl p' R (G p' x) ∧ p ≤ p' ∧ fJ h h' M ∧
      ((s_X8_sign h M).bind fun x60 => (m_gi h 6 M 9).bind fun x66 => if x66 = 0 then (s_X8_readsTap_b88 h M (nI (5 * rm)) x60 M) else (if x60 = 43 then (s_X8_readsTap_b84 h M (nI (5 * rm)) x60 M) else (if x60 = 45 then (s_X8_readsTap_b84 h M (nI (5 * rm)) x60 M) else (s_X8_readsTap_b88 h M (nI (5 * rm)) x60 M)))) =
      ((m_gr h' 6 M 10).bind fun x133 => (m_is h' 6 M).bind fun _ => (s_X8_number h' M 9).bind fun (x142, h142) => (m_iast h142 x133 (nI (5 * rm) + 3) x142).bind fun h145 => (m_gi h145 6 M 11).bind fun x148 => (m_gi h145 6 M 9).bind fun x152 => if x152 = 0 then (s_X8_readsTap_b163 h145 M x148 0) else (s_X8_readsTap_b163 h145 M x148 1)) := by
  have h127 := sg_127 hB p
  have hp := D.le
  -- fails
  have no : ∀ v : Int32, ∃ x h', isJ h' M sm bl p 0 rm hs b (upd r (5 * rm + 4) x) ∧ fJ h h' M ∧ s_X8_readsTap_b88 h M (nI (5 * rm)) v M = ((m_gr h' 6 M 10).bind fun x133 => (m_is h' 6 M).bind fun _ => (s_X8_number h' M 9).bind fun (x142, h142) => (m_iast h142 x133 (nI (5 * rm) + 3) x142).bind fun h145 => (m_gi h145 6 M 11).bind fun x148 => (m_gi h145 6 M 9).bind fun x152 => if x152 = 0 then (s_X8_readsTap_b163 h145 M x148 0) else (s_X8_readsTap_b163 h145 M x148 1)) := by
    intro v
    obtain ⟨h1, a1, a2, a3⟩ := A.p9 0
    obtain ⟨h2, b1, b2, b3⟩ := a2.p8 p
    obtain ⟨h3, c1, c2, c3⟩ := b2.rd (i := 5 * rm + 4) (by omega) (if v = 43 then 1 else 0)
    refine ⟨_, h3, c2, ((fJ.rf.o a3).o b3).ro c3, ?_⟩
    rw [s_X8_readsTap_b88, s_X8_readsTap_b89, z_0, bS, a1, bS, gi_O a2.1 (k := 8) rfl, bS, gi_O a2.1 (k := 9) rfl, bS, if_pos rfl, s_X8_readsTap_b109, Int32.add_zero, b1, bS, gr_O b2.1 (k := 10) rfl, bS, show nI (5 * rm) + 4 = nI (5 * rm + 4) from nI_add _ 4]
    by_cases q : v = 43
    · rw [if_pos q] at c1 ⊢
      rw [s_X8_readsTap_b131, c1, bS]
    · rw [if_neg q] at c1 ⊢
      rw [s_X8_readsTap_b131, c1, bS]
  -- holds
  have yes : ∀ v y : Int32, (v = 43 → y = 1) → (v ≠ 43 → y = 0) → ∃ h', isJ h' M sm bl (p + 1) 1 rm hs b (upd r (5 * rm + 4) y) ∧ fJ h h' M ∧ s_X8_readsTap_b84 h M (nI (5 * rm)) v M = ((m_gr h' 6 M 10).bind fun x133 => (m_is h' 6 M).bind fun _ => (s_X8_number h' M 9).bind fun (x142, h142) => (m_iast h142 x133 (nI (5 * rm) + 3) x142).bind fun h145 => (m_gi h145 6 M 11).bind fun x148 => (m_gi h145 6 M 9).bind fun x152 => if x152 = 0 then (s_X8_readsTap_b163 h145 M x148 0) else (s_X8_readsTap_b163 h145 M x148 1)) := by
    intro v y y1 y0
    obtain ⟨h1, a1, a2, a3⟩ := A.p9 1
    obtain ⟨h2, b1, b2, b3⟩ := a2.p8 (p + 1)
    obtain ⟨h3, c1, c2, c3⟩ := b2.rd (i := 5 * rm + 4) (by omega) y
    refine ⟨h3, c2, ((fJ.rf.o a3).o b3).ro c3, ?_⟩
    rw [s_X8_readsTap_b84, s_X8_readsTap_b89, z_1, bS, a1, bS, gi_O a2.1 (k := 8) rfl, bS, gi_O a2.1 (k := 9) rfl, bS, if_neg (by decide), s_X8_readsTap_b109, nI_1, b1, bS, gr_O b2.1 (k := 10) rfl, bS, show nI (5 * rm) + 4 = nI (5 * rm + 4) from nI_add _ 4]
    by_cases q : v = 43
    · rw [y1 q] at c1
      rw [if_pos q, s_X8_readsTap_b131, c1, bS]
    · rw [y0 q] at c1
      rw [if_neg q, s_X8_readsTap_b131, c1, bS]
  rw [sign_J A hB hp, bS, gi_O A.1 (k := 9) rfl, bS]
  rcases D with ⟨rfl, -, f⟩ | ⟨rfl, hn⟩
  · rw [if_neg (show ¬ (1 : Int32) = 0 by decide)]
    obtain ⟨s1, s2, s3⟩ := st f
    by_cases q1 : sg bl bc p = 43
    · obtain ⟨h', e1, e2, e3⟩ := yes (nI (sg bl bc p)) 1 (fun _ => rfl) (fun z => absurd (show nI (sg bl bc p) = 43 by rw [q1]; rfl) z)
      refine ⟨1, p + 1, 1, h', e1, Or.inl ⟨rfl, (s1 q1).1, (s1 q1).2⟩, by omega, e2, ?_⟩
      rw [if_pos (show nI (sg bl bc p) = 43 by rw [q1]; rfl), e3]
    · have n43 : ¬ nI (sg bl bc p) = 43 := fun z => q1 ((nI_eq (b := 43) (by omega) (by decide)).mp z)
      rw [if_neg n43]
      by_cases q2 : sg bl bc p = 45
      · obtain ⟨h', e1, e2, e3⟩ := yes (nI (sg bl bc p)) 0 (fun z => absurd z n43) (fun _ => rfl)
        refine ⟨0, p + 1, 1, h', e1, Or.inl ⟨rfl, (s2 q2).1, (s2 q2).2⟩, by omega, e2, ?_⟩
        rw [if_pos (show nI (sg bl bc p) = 45 by rw [q2]; rfl), e3]
      · have n45 : ¬ nI (sg bl bc p) = 45 := fun z => q2 ((nI_eq (b := 45) (by omega) (by decide)).mp z)
        obtain ⟨x, h', e1, e2, e3⟩ := no (nI (sg bl bc p))
        refine ⟨x, p, 0, h', e1, Or.inr ⟨rfl, s3 q1 q2⟩, Nat.le_refl _, e2, ?_⟩
        rw [if_neg n45, e3]
  · obtain ⟨x, h', e1, e2, e3⟩ := no (nI (sg bl bc p))
    refine ⟨x, p, 0, h', e1, Or.inr ⟨rfl, hn⟩, Nat.le_refl _, e2, ?_⟩
    rw [if_pos rfl, e3]
def at7 (bl : Nat) (bc : Nat → Nat) (R : Nat × Option mD) (p rm : Nat) (r : Nat → Int32) : Prop := ∃ nm wl dy mn i tp, okR bl bc R p (mkD 7 nm wl dy mn i rm tp) ∧ rdOK r rm tp ∧ 8 * rm ≤ p + 1
theorem reads_J (hB : isB bl b bc) (A : isJ h M sm bl p 1 rm hs b r) {nm wl dy mn i : Nat} {tp : Nat → Nat → Nat} (K : okR bl bc R p (mkD 0 nm wl dy mn i rm tp)) (hr : rdOK r rm tp) (h8 : 8 * rm ≤ p) :
    ∃ h' r' p' w' rm', s_X8_readsTap h M = some h' ∧ isJ h' M sm bl p' w' rm' hs b r' ∧ dJ w' bl p' R (at7 bl bc R p' rm' r') ∧ p ≤ p' ∧ fJ h h' M := by
  have hb := hB.1
  have hp := K.1
  have hrm : rm ≤ 7 := by omega
  -- wallet
  obtain ⟨x1, p1, w1, h1, a1, a2, a3, a4, a5⟩ := num_D (B := 3) (F := True) (G := fun p' x => ∃ v nm dy mn i, x = nI v ∧ v < 4 ∧ okR bl bc R p' (mkD 1 nm v dy mn i rm tp) ∧ p + 1 ≤ p') hB (by decide) A (Or.inl ⟨rfl, hp, trivial⟩) fun _ => ⟨_, fun v _ => mkD 1 nm v dy mn i rm tp, ⟨K, show (0 : Nat) ≠ 7 by decide⟩, fun v j x e => by unfold ext at e; omega, fun x e => ⟨(0, 0), if_pos (by omega)⟩, fun x e => if_neg (by omega), fun v p' j h1 h2 h3 h4 => ⟨v, nm, dy, mn, i, rfl, by omega, h3, h2⟩⟩
  obtain ⟨h2, b1, b2, b3⟩ := a2.rd (i := 5 * rm) (by omega) x1
  -- d
  obtain ⟨p3, w3, h3, c1, c2, c3, c4, c5⟩ := wants_D (v := 100) (G := fun p' => ∃ v nm dy mn i, x1 = nI v ∧ v < 4 ∧ okR bl bc R p' (mkD 2 nm v dy mn i rm tp) ∧ p + 2 ≤ p') hB (by decide) b2 a3 fun ⟨v, nm, dy, mn, i, e1, e2, e3, e4⟩ => ⟨fun q => by
    have K2 := ok_step (s' := mkD 2 nm v dy mn i rm tp) e3 (by rw [q]; rfl) (by omega)
    exact ⟨K2.1, v, nm, dy, mn, i, e1, e2, K2, by omega⟩, fun q => ok_stop e3 (if_neg q) (show (1 : Nat) ≠ 7 by decide)⟩
  -- day
  obtain ⟨x4, p4, w4, h4, d1, d2, d3, d4, d5⟩ := num_D (B := 27) (G := fun p' x => ∃ v u dy mn i, x1 = nI v ∧ v < 4 ∧ x = nI u ∧ u < 28 ∧ okR bl bc R p' (mkD 3 u v dy mn i rm tp) ∧ ¬ ext 27 u (sg bl bc p') ∧ p + 3 ≤ p') hB (by decide) c2 c3 fun ⟨v, nm, dy, mn, i, e1, e2, e3, e4⟩ => ⟨_, fun u j => mkD 3 u v j.1 mn i rm tp, ⟨e3, show (2 : Nat) ≠ 7 by decide⟩, fun u j x e => ⟨(u, 0), by
      obtain ⟨f1, f2, f3⟩ := e
      show (if x = 58 then _ else if (48 ≤ x ∧ x < 58) ∧ u ≠ 0 ∧ u * 10 + (x - 48) < 28 then some (mkD 3 (u * 10 + (x - 48)) v u mn i rm tp) else none) = _
      rw [if_neg (by omega), if_pos ⟨f1, f2, f3⟩]⟩, fun x e => ⟨(dy, 0), if_pos (by omega)⟩, fun x e => if_neg (by omega), fun u p' j h1 h2 h3 h4 => ⟨v, u, j.1, mn, i, e1, e2, rfl, by omega, h3, h4, by omega⟩⟩
  obtain ⟨h5, j1, j2, j3⟩ := d2.rd (i := 5 * rm + 1) (by omega) x4
  -- colon
  obtain ⟨p6, w6, h6, l1, l2, l3, l4, l5⟩ := wants_D (v := 58) (G := fun p' => ∃ v u mn i, x1 = nI v ∧ v < 4 ∧ x4 = nI u ∧ u < 28 ∧ okR bl bc R p' (mkD 4 u v u mn i rm tp) ∧ p + 4 ≤ p') hB (by decide) j2 d3 fun ⟨v, u, dy, mn, i, e1, e2, e3, e4, e5, e6, e7⟩ => ⟨fun q => by
    have K2 := ok_step (s' := mkD 4 u v u mn i rm tp) e5 (by rw [q]; rfl) (by omega)
    exact ⟨K2.1, v, u, mn, i, e1, e2, e3, e4, K2, by omega⟩, fun q => ok_stop e5 (by
      show (if sg bl bc p4 = 58 then _ else if (48 ≤ sg bl bc p4 ∧ sg bl bc p4 < 58) ∧ u ≠ 0 ∧ u * 10 + (sg bl bc p4 - 48) < 28 then _ else none) = none
      rw [if_neg q]
      exact if_neg e6) (show (3 : Nat) ≠ 7 by decide)⟩
  -- minute
  obtain ⟨x7, p7, w7, h7, m1, m2, m3, m4, m5⟩ := num_D (B := 1439) (G := fun p' x => ∃ v u m mn i, x1 = nI v ∧ v < 4 ∧ x4 = nI u ∧ u < 28 ∧ x = nI m ∧ m < 1440 ∧ okR bl bc R p' (mkD 5 m v u mn i rm tp) ∧ ¬ ext 1439 m (sg bl bc p') ∧ p + 5 ≤ p') hB (by decide) l2 l3 fun ⟨v, u, mn, i, e1, e2, e3, e4, e5, e6⟩ => ⟨_, fun m j => mkD 5 m v u j.1 j.2 rm tp, ⟨e5, show (4 : Nat) ≠ 7 by decide⟩, fun m j x e => ⟨(m, 0), by
      obtain ⟨f1, f2, f3⟩ := e
      show (if x = 43 ∨ x = 45 then _ else if (48 ≤ x ∧ x < 58) ∧ m ≠ 0 ∧ m * 10 + (x - 48) < 1440 then some (mkD 5 (m * 10 + (x - 48)) v u m 0 rm tp) else none) = _
      rw [if_neg (by omega), if_pos ⟨f1, f2, f3⟩]⟩, fun x e => ⟨(mn, i), if_pos (by omega)⟩, fun x e => if_neg (by omega), fun m p' j h1 h2 h3 h4 => ⟨v, u, m, j.1, j.2, e1, e2, e3, e4, rfl, by omega, h3, h4, by omega⟩⟩
  obtain ⟨h8', n1, n2, n3⟩ := m2.rd (i := 5 * rm + 2) (by omega) x7
  -- in or out
  obtain ⟨x9, p9, w9, h9, o1, o2, o3, o4, o5⟩ := side_D (G := fun p' x => ∃ v u m i nm, x1 = nI v ∧ v < 4 ∧ x4 = nI u ∧ u < 28 ∧ x7 = nI m ∧ m < 1440 ∧ x = nI i ∧ i < 2 ∧ okR bl bc R p' (mkD 6 nm v u m i rm tp) ∧ p + 6 ≤ p') hB n2 m3 hrm fun ⟨v, u, m, mn, i, e1, e2, e3, e4, e5, e6, e7, e8, e9⟩ => ⟨fun q => by
      have K2 := ok_step (s' := mkD 6 m v u m 1 rm tp) e7 (by rw [q]; rfl) (by omega)
      exact ⟨K2.1, v, u, m, 1, m, e1, e2, e3, e4, e5, e6, rfl, by decide, K2, by omega⟩, fun q => by
      have K2 := ok_step (s' := mkD 6 m v u m 0 rm tp) e7 (by rw [q]; rfl) (by omega)
      exact ⟨K2.1, v, u, m, 0, m, e1, e2, e3, e4, e5, e6, rfl, by decide, K2, by omega⟩, fun q1 q2 => ok_stop e7 (by
      show (if sg bl bc p7 = 43 ∨ sg bl bc p7 = 45 then _ else if (48 ≤ sg bl bc p7 ∧ sg bl bc p7 < 58) ∧ m ≠ 0 ∧ m * 10 + (sg bl bc p7 - 48) < 1440 then _ else none) = none
      rw [if_neg (by omega)]
      exact if_neg e8) (show (5 : Nat) ≠ 7 by decide)⟩
  -- station
  obtain ⟨x10, p10, w10, h10, y1, y2, y3, y4, y5⟩ := num_D (B := 9) (G := fun p' x => ∃ v u m i s nm, x1 = nI v ∧ v < 4 ∧ x4 = nI u ∧ u < 28 ∧ x7 = nI m ∧ m < 1440 ∧ x9 = nI i ∧ i < 2 ∧ x = nI s ∧ s < 10 ∧ okR bl bc R p' (mkD 7 nm v u m i (rm + 1) (fun j => if j = rm then mkT v u m s i 0 else tp j)) ∧ p + 7 ≤ p') hB (by decide) o1 o2 fun ⟨v, u, m, i, nm, e1, e2, e3, e4, e5, e6, e7, e8, e9, e10⟩ => ⟨_, fun s _ => mkD 7 nm v u m i (rm + 1) (fun j => if j = rm then mkT v u m s i 0 else tp j), ⟨e9, show (6 : Nat) ≠ 7 by decide⟩, fun v j x e => by unfold ext at e; omega, fun x e => ⟨(0, 0), if_pos (by omega)⟩, fun x e => if_neg (by omega), fun s p' j h1 h2 h3 h4 => ⟨v, u, m, i, s, nm, e1, e2, e3, e4, e5, e6, e7, e8, rfl, by omega, h3, by omega⟩⟩
  obtain ⟨h11, z1, z2, z3⟩ := y2.rd (i := 5 * rm + 3) (by omega) x10
  have F11 : fJ h h11 M := by
    have t1 := ((((((fJ.rf.o a5).ro b3).o c5).o d5).ro j3).o l5).o m5
    have t2 : fJ h h8' M := t1.ro n3
    have t3 : fJ h h9 M := fun q q1 q2 => by rw [o4 q q1 q2, t2 q q1 q2]
    exact (t3.o y5).ro z3
  have e55 : (5 : Int32) * nI rm = nI (5 * rm) := by rw [show (5 : Int32) = nI 5 from rfl, nI_mul]
  have run : ∀ (w' : Int32) (rm' : Nat) (h12 : mH), w10 = w' → (w' = 0 ∨ w' = 1) → m_put h11 6 M 11 (.int (nI rm + w')) = some h12 → s_X8_readsTap h M = some h12 := by
    intro w' rm' h12 hw hw2 hp12
    subst hw
    have a1' : s_X8_number h M 3 = some (x1, h1) := a1
    have c1' : s_X8_wants h2 M 100 = some h3 := c1
    have d1' : s_X8_number h3 M 27 = some (x4, h4) := d1
    have l1' : s_X8_wants h5 M 58 = some h6 := l1
    have m1' : s_X8_number h6 M 1439 = some (x7, h7) := m1
    have y1' : s_X8_number h9 M 9 = some (x10, h10) := y1
    rw [s_X8_readsTap, gi_O A.1 (k := 11) rfl, bS, e55, gr_O A.1 (k := 10) rfl, bS, is_O A.1, bS, a1', bS]
    show ((m_iast h1 (M + 6) (nI (5 * rm)) x1).bind fun h17 => _) = _
    rw [b1, bS, is_O b2.1, bS, c1', bS, gr_O c2.1 (k := 10) rfl, bS, is_O c2.1, bS, d1', bS]
    show ((m_iast h4 (M + 6) (nI (5 * rm) + 1) x4).bind fun h37 => _) = _
    rw [nI_1, j1, bS, is_O j2.1, bS, l1', bS, gr_O l2.1 (k := 10) rfl, bS, is_O l2.1, bS, m1', bS]
    show ((m_iast h7 (M + 6) (nI (5 * rm) + 2) x7).bind fun h58 => _) = _
    rw [show nI (5 * rm) + 2 = nI (5 * rm + 2) from nI_add _ 2, n1, bS, is_O n2.1, bS, o5, gr_O o1.1 (k := 10) rfl, bS, is_O o1.1, bS, y1', bS]
    show ((m_iast h10 (M + 6) (nI (5 * rm) + 3) x10).bind fun h145 => _) = _
    rw [show nI (5 * rm) + 3 = nI (5 * rm + 3) from nI_add _ 3, z1, bS, gi_O z2.1 (k := 11) rfl, bS, gi_O z2.1 (k := 9) rfl, bS]
    rcases hw2 with rfl | rfl
    · rw [if_pos rfl, s_X8_readsTap_b163, hp12, bS]
    · rw [if_neg (by decide), s_X8_readsTap_b163, hp12, bS]
  rcases y3 with ⟨rfl, q1, v, u, m, i, s, nm, e1, e2, e3, e4, e5, e6, e7, e8, e9, e10, e11, e12⟩ | ⟨rfl, hn⟩
  · obtain ⟨h12, g1, g2, g3⟩ := z2.p11 (rm + 1)
    refine ⟨h12, _, p10, 1, rm + 1, run 1 (rm + 1) h12 rfl (Or.inr rfl) (by rw [nI_1]; exact g1), g2, Or.inl ⟨rfl, q1, nm, v, u, m, i, _, e11, fun j hj => ?_, by omega⟩, by omega, F11.o g3⟩
    by_cases c : j = rm
    · subst c
      show (vT (if j = j then mkT v u m s i 0 else tp j) ∧ (if j = j then mkT v u m s i 0 else tp j) 5 = 0) ∧ ∀ q, q < 5 → upd _ _ _ (5 * j + q) = nI ((if j = j then mkT v u m s i 0 else tp j) q)
      rw [if_pos rfl]
      refine ⟨⟨⟨e2, e4, e6, e10, e8, show 0 < 2 by decide⟩, rfl⟩, fun q hq => ?_⟩
      match q, hq with
      | 0, _ => rw [pk_un (by omega), pk_un (by omega), pk_un (by omega), pk_un (by omega), Nat.add_zero, pk_us]; exact e1
      | 1, _ => rw [pk_un (by omega), pk_un (by omega), pk_un (by omega), pk_us]; exact e3
      | 2, _ => rw [pk_un (by omega), pk_un (by omega), pk_us]; exact e5
      | 3, _ => rw [pk_us]; exact e9
      | 4, _ => rw [pk_un (by omega), pk_us]; exact e7
    · show (vT (if j = rm then _ else tp j) ∧ (if j = rm then _ else tp j) 5 = 0) ∧ ∀ q, q < 5 → upd _ _ _ (5 * j + q) = nI ((if j = rm then _ else tp j) q)
      rw [if_neg c]
      obtain ⟨k1, k2⟩ := hr j (by omega)
      refine ⟨k1, fun q hq => ?_⟩
      rw [pk_un (by omega), pk_un (by omega), pk_un (by omega), pk_un (by omega), pk_un (by omega), k2 q hq]
  · obtain ⟨h12, g1, g2, g3⟩ := z2.p11 rm
    exact ⟨h12, _, p10, 0, rm, run 0 rm h12 rfl (Or.inl rfl) (by rw [Int32.add_zero]; exact g1), g2, Or.inr ⟨rfl, hn⟩, by omega, F11.o g3⟩
end RU
