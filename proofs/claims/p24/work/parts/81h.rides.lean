/-! PURE: the class reads the rides -/
section PRD
theorem mt_ex (n : Nat) (L : Int32) (tp : Nat → Nat → Nat) : ∃ F : Nat → Int32, isMM (pq n L tp) n F := by
  have h : ∀ p : Nat, ∃ v : Int32, (∀ q, pq n L tp p q → v = nI q) ∧ (∀ q, pq n L tp q p → v = nI q) ∧ ((∀ q, ¬ pq n L tp p q ∧ ¬ pq n L tp q p) → v = -1) := by
    intro p
    by_cases c1 : ∃ q, pq n L tp p q
    · obtain ⟨q, hq⟩ := c1
      exact ⟨nI q, fun q' hq' => by rw [pq_r hq hq'], fun q' hq' => (pq_x hq' hq).elim, fun hn => absurd hq (hn q).1⟩
    · by_cases c2 : ∃ q, pq n L tp q p
      · obtain ⟨q, hq⟩ := c2
        exact ⟨nI q, fun q' hq' => (pq_x hq hq').elim, fun q' hq' => by rw [pq_l hq hq'], fun hn => absurd hq (hn q).2⟩
      · exact ⟨-1, fun q hq => absurd ⟨q, hq⟩ c1, fun q hq => absurd ⟨q, hq⟩ c2, fun _ => rfl⟩
  obtain ⟨F, hF⟩ := Classical.axiomOfChoice h
  exact ⟨F, fun p _ => hF p⟩
/-- the mate of each tap -/
noncomputable def mt (n : Nat) (L : Int32) (tp : Nat → Nat → Nat) : Nat → Int32 := Classical.choose (mt_ex n L tp)
theorem mt_is (n : Nat) (L : Int32) (tp : Nat → Nat → Nat) : isMM (pq n L tp) n (mt n L tp) := Classical.choose_spec (mt_ex n L tp)
def absI (x : Int32) : Int32 := if 0 ≤ x then x else 0 - x
def fareOf (set : Nat → Int32) (tp : Nat → Nat → Nat) (M : Nat → Int32) (p : Nat) : Int32 := if M p = -1 then set 2 else set 0 + set 1 * absI (nI (tp p 3 / 2) - nI (tp (M p).toNatClampNeg 3 / 2))
def cel (tp : Nat → Nat → Nat) (p : Nat) : Nat := tp p 0 * 28 + tp p 1
def gR (tp : Nat → Nat → Nat) (M : Nat → Int32) (c p : Nat) : Int32 := if cel tp p = c ∧ (M p = -1 ∨ ¬ M p ≤ nI p) then 1 else 0
def gA (tp : Nat → Nat → Nat) (M : Nat → Int32) (c p : Nat) : Int32 := if cel tp p = c ∧ M p = -1 then 1 else 0
def gF (tp : Nat → Nat → Nat) (M FA : Nat → Int32) (c p : Nat) : Int32 := if cel tp p = c ∧ (M p = -1 ∨ ¬ M p ≤ nI p) then FA p else 0
def gL (tp : Nat → Nat → Nat) (M : Nat → Int32) (s p : Nat) : Int32 := if M p = -1 ∧ tp p 3 = s then 1 else 0
theorem cel_lt {tp : Nat → Nat → Nat} {p : Nat} (v : vT (tp p)) : cel tp p < 112 := by
  have h1 := v.1
  have h2 := v.2.1
  unfold cel
  omega
theorem ff_b {k : mH → Nat → Nat → Nat → Int32 → Option mH} {h : mH} {g r s i : Nat} {a b x : Int32} {f : Nat → Int32} (H : h g = some (rO g a b)) (A : isA h (g + 2) 61 f) (hi : i < 61) : ∃ h', s_X0_findFares_b72 k h g r s (nI i) x = k h' g r s (nI (i + 1)) ∧ isA h' (g + 2) 61 (upd f i x) ∧ fr h h' (g + 2) (g + 2 + 1) := by
  obtain ⟨h', e1, e2, e3⟩ := put_A A hi (by decide) x
  refine ⟨h', ?_, e2, e3⟩
  rw [s_X0_findFares_b72, gr_O H (k := 1) rfl, bS, e1, bS, nI_1]
theorem ff_L {g r s n : Nat} {L a b : Int32} {tp : Nat → Nat → Nat} {set M : Nat → Int32} (hn : n ≤ 61) (hv : vTs n tp) (hgr : r + 2 ≤ g ∨ g + 8 ≤ r) (hgs : s < g ∨ g + 8 ≤ s) (hM : isMM (pq n L tp) n M) : ∀ (d i F : Nat) (h : mH) (f : Nat → Int32), h g = some (rO g a b) → isTR h r n tp → isA h s 6 set → isA h (g + 1) 61 M → isA h (g + 2) 61 f → (∀ p, p < i → f p = fareOf set tp M p) → i + d = n → d < F →
    ∃ h' f', s_X0_findFares_L2 F h g r s (nI i) = some h' ∧ isA h' (g + 2) 61 f' ∧ (∀ p, p < n → f' p = fareOf set tp M p) ∧ fr h h' (g + 2) (g + 2 + 1) := by
  intro d
  induction d with
  | zero =>
    intro i F h f H R S A B hf hi hF
    obtain ⟨F, rfl⟩ : ∃ F', F = F' + 1 := ⟨F - 1, by omega⟩
    refine ⟨h, f, ?_, B, fun p hp => hf p (by omega), fr.rf⟩
    rw [s_X0_findFares_L2, size_R R, bS, if_pos (nI_le (by omega) (by omega))]
  | succ d ih =>
    intro i F h f H R S A B hf hi hF
    obtain ⟨F, rfl⟩ : ∃ F', F = F' + 1 := ⟨F - 1, by omega⟩
    have vi := hv i (by omega)
    have key : ∃ h1, s_X0_findFares_L2 (F + 1) h g r s (nI i) = s_X0_findFares_L2 F h1 g r s (nI (i + 1)) ∧ isA h1 (g + 2) 61 (upd f i (fareOf set tp M i)) ∧ fr h h1 (g + 2) (g + 2 + 1) := by
      obtain ⟨h1, e1, e2, e3⟩ := ff_b (k := s_X0_findFares_L2 F) (r := r) (s := s) (x := fareOf set tp M i) H B (show i < 61 by omega)
      refine ⟨h1, ?_, e2, e3⟩
      rw [← e1, s_X0_findFares_L2, size_R R, bS, if_neg (nI_ge (by omega) (by omega)), gr_O H (k := 0) rfl, bS, at_A A (show i < 61 by omega) (by decide), bS, show (2 : Int32) = nI 2 from rfl, at_A S (show 2 < 6 by decide) (by decide), bS]
      rcases hM.cases (show i < n by omega) with c | ⟨q, hq, hne, c⟩
      · have e : fareOf set tp M i = set 2 := if_pos c
        rw [if_pos c, e]
      · have c' : ¬ M i = -1 := by rw [c]; intro z; exact nI_pos (n := q) (by omega) (by rw [z]; decide)
        have vq := hv q hq
        have e : fareOf set tp M i = set 0 + set 1 * absI (nI (tp i 3 / 2) - nI (tp q 3 / 2)) := by
          unfold fareOf
          rw [if_neg c', c, nI_cl (show q < 2 ^ 31 by omega)]
        rw [if_neg c', e, is_O R.1, bS, tapAt_R R (by omega) hn, bS, zoneOf_pk vi, bS, bS, c, tapAt_R R hq hn, bS, zoneOf_pk vq, bS, show (0 : Int32) = nI 0 from rfl, at_A S (show 0 < 6 by decide) (by decide), bS, show (1 : Int32) = nI 1 from rfl, at_A S (show 1 < 6 by decide) (by decide), bS]
        rfl
    obtain ⟨h1, e1, e2, e3⟩ := key
    obtain ⟨h2, f', q1, q2, q3, q4⟩ := ih (i + 1) F h1 _ (e3.O H (by omega)) (R.fr e3 (by omega)) (S.fr e3 (by omega)) (A.fr e3 (by omega)) e2 (fun p hp => by
      by_cases q : p = i
      · subst q; rw [pk_us]
      · rw [pk_un q, hf p (by omega)]) (by omega) (by omega)
    exact ⟨h2, f', e1.trans q1, q2, q3, e3.tr q4⟩
theorem au_110 {k : mH → Nat → Nat → Int32 → Option mH} {h : mH} {g r i c : Nat} {a b x : Int32} {t : Nat → Nat} {DA LK : Nat → Int32} (H : h g = some (rO g a b)) (v : vT t) (A : isA h (g + 4) 112 DA) (B : isA h (g + 6) 10 LK) (hc : c < 112) :
    ∃ h', s_X0_addUp_b110 k h g r (nI i) (pk t) x (nI c) = k h' g r (nI (i + 1)) ∧ isA h' (g + 4) 112 (if x = -1 then upd DA c (DA c + 1) else DA) ∧ isA h' (g + 6) 10 (if x = -1 then upd LK (t 3) (LK (t 3) + 1) else LK) ∧ f2 h h' (g + 4) (g + 6) := by
  by_cases hx : x = -1
  · obtain ⟨h1, e1, e2, e3⟩ := raise_A A hc (by decide) 1
    have H1 := e3.O H (by omega)
    obtain ⟨h2, g1, g2, g3⟩ := raise_A (B.fr e3 (by omega)) v.2.2.2.1 (by decide) 1
    refine ⟨h2, ?_, by rw [if_pos hx]; exact e2.fr g3 (by omega), by rw [if_pos hx]; exact g2, e3.l.tr g3.r⟩
    rw [s_X0_addUp_b110, if_pos hx, gr_O H (k := 3) rfl, bS, e1, bS, gr_O H1 (k := 5) rfl, bS, stationOf_pk v, bS, g1, bS, s_X0_addUp_b138, nI_1]
  · refine ⟨h, ?_, by rw [if_neg hx]; exact A, by rw [if_neg hx]; exact B, f2.rf⟩
    rw [s_X0_addUp_b110, if_neg hx, s_X0_addUp_b138, nI_1]
theorem au_83 {k : mH → Nat → Nat → Int32 → Option mH} {h : mH} {g r i c : Nat} {a b x y : Int32} {DR DF FA : Nat → Int32} (H : h g = some (rO g a b)) (A : isA h (g + 3) 112 DR) (B : isA h (g + 5) 112 DF) (C : isA h (g + 2) 61 FA) (hi : i < 61) (hc : c < 112) :
    ∃ h', s_X0_addUp_b83 k h g r (nI i) y x (nI c) = s_X0_addUp_b110 k h' g r (nI i) y x (nI c) ∧ isA h' (g + 3) 112 (upd DR c (DR c + 1)) ∧ isA h' (g + 5) 112 (upd DF c (DF c + FA i)) ∧ f2 h h' (g + 3) (g + 5) := by
  obtain ⟨h1, e1, e2, e3⟩ := raise_A A hc (by decide) 1
  have H1 := e3.O H (by omega)
  obtain ⟨h2, g1, g2, g3⟩ := raise_A (B.fr e3 (by omega)) hc (by decide) (FA i)
  refine ⟨h2, ?_, e2.fr g3 (by omega), g2, e3.l.tr g3.r⟩
  rw [s_X0_addUp_b83, gr_O H (k := 2) rfl, bS, e1, bS, gr_O H1 (k := 4) rfl, bS, gr_O H1 (k := 1) rfl, bS, at_A (C.fr e3 (by omega)) hi (by decide), bS, g1, bS]
theorem upd_sum {f : Nat → Nat → Int32} {c i : Nat} {v : Int32} (hc : f c i = v) (ho : ∀ j, j ≠ c → f j i = 0) : ∀ j, upd (fun c => sumF (f c) i) c (sumF (f c) i + v) j = sumF (f j) (i + 1) := by
  intro j
  show _ = sumF (f j) i + f j i
  by_cases q : j = c
  · subst q; rw [pk_us, hc]
  · rw [pk_un q, ho j q, Int32.add_zero]
theorem same_sum {f : Nat → Nat → Int32} {i : Nat} (ho : ∀ j, f j i = 0) : ∀ j, sumF (f j) i = sumF (f j) (i + 1) := by
  intro j
  show _ = sumF (f j) i + f j i
  rw [ho j, Int32.add_zero]
theorem au_L {g r n : Nat} {L a b : Int32} {tp : Nat → Nat → Nat} {M FA : Nat → Int32} (hn : n ≤ 61) (hv : vTs n tp) (hgr : r + 2 ≤ g ∨ g + 8 ≤ r) : ∀ (d i F : Nat) (h : mH), h g = some (rO g a b) → isTR h r n tp → isA h (g + 1) 61 M → isA h (g + 2) 61 FA → isA h (g + 3) 112 (fun c => sumF (gR tp M c) i) → isA h (g + 4) 112 (fun c => sumF (gA tp M c) i) → isA h (g + 5) 112 (fun c => sumF (gF tp M FA c) i) → isA h (g + 6) 10 (fun c => sumF (gL tp M c) i) → i + d = n → d < F →
    ∃ h', s_X0_addUp_L34 F h g r (nI i) = some h' ∧ isA h' (g + 3) 112 (fun c => sumF (gR tp M c) n) ∧ isA h' (g + 4) 112 (fun c => sumF (gA tp M c) n) ∧ isA h' (g + 5) 112 (fun c => sumF (gF tp M FA c) n) ∧ isA h' (g + 6) 10 (fun c => sumF (gL tp M c) n) ∧ fr h h' (g + 3) (g + 7) := by
  intro d
  induction d with
  | zero =>
    intro i F h H R A B X1 X2 X3 X4 hi hF
    obtain ⟨F, rfl⟩ : ∃ F', F = F' + 1 := ⟨F - 1, by omega⟩
    obtain rfl : i = n := by omega
    refine ⟨h, ?_, X1, X2, X3, X4, fr.rf⟩
    rw [s_X0_addUp_L34, size_R R, bS, if_pos (nI_le (Nat.le_refl _) (by omega))]
  | succ d ih =>
    intro i F h H R A B X1 X2 X3 X4 hi hF
    obtain ⟨F, rfl⟩ : ∃ F', F = F' + 1 := ⟨F - 1, by omega⟩
    have vi := hv i (by omega)
    have hc := cel_lt vi
    have ecel : nI (tp i 0) * 28 + nI (tp i 1) = nI (cel tp i) := by rw [show (28 : Int32) = nI 28 from rfl, nI_mul, nI_add]; rfl
    have key : ∃ h1, s_X0_addUp_L34 (F + 1) h g r (nI i) = s_X0_addUp_L34 F h1 g r (nI (i + 1)) ∧ isA h1 (g + 3) 112 (fun c => sumF (gR tp M c) (i + 1)) ∧ isA h1 (g + 4) 112 (fun c => sumF (gA tp M c) (i + 1)) ∧ isA h1 (g + 5) 112 (fun c => sumF (gF tp M FA c) (i + 1)) ∧ isA h1 (g + 6) 10 (fun c => sumF (gL tp M c) (i + 1)) ∧ fr h h1 (g + 3) (g + 7) := by
      have start : s_X0_addUp_L34 (F + 1) h g r (nI i) = if M i = -1 then s_X0_addUp_b83 (s_X0_addUp_L34 F) h g r (nI i) (pk (tp i)) (M i) (nI (cel tp i)) else if M i ≤ nI i then s_X0_addUp_b110 (s_X0_addUp_L34 F) h g r (nI i) (pk (tp i)) (M i) (nI (cel tp i)) else s_X0_addUp_b83 (s_X0_addUp_L34 F) h g r (nI i) (pk (tp i)) (M i) (nI (cel tp i)) := by
        rw [s_X0_addUp_L34, size_R R, bS, if_neg (nI_ge (by omega) (by omega)), is_O R.1, bS, tapAt_R R (by omega) hn, bS, gr_O H (k := 0) rfl, bS, at_A A (show i < 61 by omega) (by decide), bS, walletOf_pk vi, bS, dayOf_pk vi, bS, s_X7_dayCell, bS, ecel]
      rw [start]
      have two : (M i = -1 ∨ ¬ M i ≤ nI i) → ∃ h1, s_X0_addUp_b83 (s_X0_addUp_L34 F) h g r (nI i) (pk (tp i)) (M i) (nI (cel tp i)) = s_X0_addUp_L34 F h1 g r (nI (i + 1)) ∧ isA h1 (g + 3) 112 (fun c => sumF (gR tp M c) (i + 1)) ∧ isA h1 (g + 4) 112 (fun c => sumF (gA tp M c) (i + 1)) ∧ isA h1 (g + 5) 112 (fun c => sumF (gF tp M FA c) (i + 1)) ∧ isA h1 (g + 6) 10 (fun c => sumF (gL tp M c) (i + 1)) ∧ fr h h1 (g + 3) (g + 7) := by
        intro hb
        obtain ⟨h1, e1, e2, e3, e4⟩ := au_83 (k := s_X0_addUp_L34 F) (r := r) (x := M i) (y := pk (tp i)) H X1 X3 B (show i < 61 by omega) hc
        obtain ⟨h2, g1, g2, g3, g4⟩ := au_110 (k := s_X0_addUp_L34 F) (r := r) (i := i) (x := M i) (e4.O H (by omega) (by omega)) vi (e4.A X2 (by omega) (by omega)) (e4.A X4 (by omega) (by omega)) hc
        refine ⟨h2, e1.trans g1, (g4.A e2 (by omega) (by omega)).ext fun j _ => ?_, g2.ext fun j _ => ?_, (g4.A e3 (by omega) (by omega)).ext fun j _ => ?_, g3.ext fun j _ => ?_, (e4.fr (by omega) (by omega) (by omega) (by omega)).tr (g4.fr (by omega) (by omega) (by omega) (by omega))⟩
        · exact upd_sum (f := gR tp M) (v := 1) (if_pos ⟨rfl, hb⟩) (fun j hj => if_neg fun z => hj z.1.symm) j
        · by_cases hx : M i = -1
          · rw [if_pos hx]
            exact upd_sum (f := gA tp M) (v := 1) (if_pos ⟨rfl, hx⟩) (fun j hj => if_neg fun z => hj z.1.symm) j
          · rw [if_neg hx]
            exact same_sum (f := gA tp M) (fun j => if_neg fun z => hx z.2) j
        · exact upd_sum (f := gF tp M FA) (v := FA i) (if_pos ⟨rfl, hb⟩) (fun j hj => if_neg fun z => hj z.1.symm) j
        · by_cases hx : M i = -1
          · rw [if_pos hx]
            exact upd_sum (f := gL tp M) (v := 1) (if_pos ⟨hx, rfl⟩) (fun j hj => if_neg fun z => hj z.2.symm) j
          · rw [if_neg hx]
            exact same_sum (f := gL tp M) (fun j => if_neg fun z => hx z.1) j
      by_cases hx : M i = -1
      · rw [if_pos hx]
        exact two (Or.inl hx)
      · rw [if_neg hx]
        by_cases hy : M i ≤ nI i
        · rw [if_pos hy]
          obtain ⟨h2, g1, g2, g3, g4⟩ := au_110 (k := s_X0_addUp_L34 F) (r := r) (i := i) (x := M i) H vi X2 X4 hc
          have hno : ¬ (M i = -1 ∨ ¬ M i ≤ nI i) := fun z => z.elim hx (fun w => w hy)
          rw [if_neg hx] at g2 g3
          exact ⟨h2, g1, (g4.A X1 (by omega) (by omega)).ext fun j _ => same_sum (f := gR tp M) (fun j => if_neg fun z => hno z.2) j, g2.ext fun j _ => same_sum (f := gA tp M) (fun j => if_neg fun z => hx z.2) j, (g4.A X3 (by omega) (by omega)).ext fun j _ => same_sum (f := gF tp M FA) (fun j => if_neg fun z => hno z.2) j, g3.ext fun j _ => same_sum (f := gL tp M) (fun j => if_neg fun z => hx z.1) j, g4.fr (by omega) (by omega) (by omega) (by omega)⟩
        · rw [if_neg hy]
          exact two (Or.inr hy)
    obtain ⟨h1, e1, y1, y2, y3, y4, e2⟩ := key
    obtain ⟨h2, q1, z1, z2, z3, z4, q2⟩ := ih (i + 1) F h1 (e2.O H (by omega)) (R.fr e2 (by omega)) (A.fr e2 (by omega)) (B.fr e2 (by omega)) y1 y2 y3 y4 (by omega) (by omega)
    exact ⟨h2, e1.trans q1, z1, z2, z3, z4, e2.tr q2⟩
end PRD
