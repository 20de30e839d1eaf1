/-! PURE: the row of taps -/
section PR
theorem fr.O {h h' : mH} {a lo hi : Nat} {e : mE} (F : fr h h' lo hi) (H : h a = some e) (hq : a < lo ∨ hi ≤ a) : h' a = some e := (F a hq).trans H
/-- the minute of a tap among all days -/
def tm (t : Nat → Nat) : Nat := 1440 * t 1 + t 2
theorem tm_le {t u : Nat → Nat} (vt : vT t) (vu : vT u) : (t 1 * 2 ^ 11 + t 2 ≤ u 1 * 2 ^ 11 + u 2) ↔ tm t ≤ tm u := by
  obtain ⟨-, h1, h2, -⟩ := vt
  obtain ⟨-, g1, g2, -⟩ := vu
  unfold tm
  omega
theorem tm_lt {t : Nat → Nat} (v : vT t) : t 1 * 2 ^ 11 + t 2 < 2 ^ 31 := by
  have h1 := v.2.1
  have h2 := v.2.2.1
  omega
/-- where a tap comes: behind all that are not later -/
def ip (tp : Nat → Nat → Nat) (t : Nat → Nat) : Nat → Nat
  | 0 => 0
  | p + 1 => if tm t < tm (tp p) then ip tp t p else p + 1
theorem ip_le {tp : Nat → Nat → Nat} {t : Nat → Nat} : ∀ p, ip tp t p ≤ p
  | 0 => Nat.le_refl _
  | p + 1 => by
    unfold ip
    split
    · exact Nat.le_succ_of_le (ip_le p)
    · exact Nat.le_refl _
def tins (tp : Nat → Nat → Nat) (p : Nat) (t : Nat → Nat) : Nat → Nat → Nat := fun i => if i < p then tp i else if i = p then t else tp (i - 1)
def tdel (tp : Nat → Nat → Nat) (p : Nat) : Nat → Nat → Nat := fun i => if i < p then tp i else tp (i + 1)
def vTs (n : Nat) (tp : Nat → Nat → Nat) : Prop := ∀ i, i < n → vT (tp i)
theorem vTs.tins {n p : Nat} {tp : Nat → Nat → Nat} {t : Nat → Nat} (v : vTs n tp) (vt : vT t) (hp : p ≤ n) : vTs (n + 1) (tins tp p t) := by
  intro i hi
  show vT (if i < p then tp i else if i = p then t else tp (i - 1))
  split
  · exact v i (by omega)
  · split
    · exact vt
    · exact v (i - 1) (by omega)
theorem vTs.tdel {n p : Nat} {tp : Nat → Nat → Nat} (v : vTs (n + 1) tp) (hp : p < n + 1) : vTs n (tdel tp p) := by
  intro i hi
  show vT (if i < p then tp i else tp (i + 1))
  split
  · exact v i (by omega)
  · exact v (i + 1) (by omega)
/-- a row of n taps -/
def isTR (h : mH) (g n : Nat) (tp : Nat → Nat → Nat) : Prop := h g = some (mO 3 [.ref (g + 1), .int (nI n)]) ∧ ∃ f, isA h (g + 1) 61 f ∧ ∀ i, i < n → f i = pk (tp i)
theorem isTR.fr {h h' : mH} {g n lo hi : Nat} {tp : Nat → Nat → Nat} (A : isTR h g n tp) (F : fr h h' lo hi) (hq : g + 2 ≤ lo ∨ hi ≤ g) : isTR h' g n tp := by
  obtain ⟨h1, f, h2, h3⟩ := A
  exact ⟨F.O h1 (by omega), f, h2.fr F (by omega), h3⟩
theorem isTR.ext {h : mH} {g n : Nat} {tp tp' : Nat → Nat → Nat} (A : isTR h g n tp) (he : ∀ i, i < n → tp i = tp' i) : isTR h g n tp' := by
  obtain ⟨h1, f, h2, h3⟩ := A
  exact ⟨h1, f, h2, fun i hi => by rw [h3 i hi, he i hi]⟩
theorem tapAt_A {h : mH} {g : Nat} {v : Value} {f : Nat → Int32} (H : h g = some (mO 3 [.ref (g + 1), v])) (A : isA h (g + 1) 61 f) {k : Nat} (hk : k < 61) : s_X5_tapAt h g (nI k) = some (f k) := by
  simp only [s_X5_tapAt, gr_O H (k := 0) rfl, bS, at_A A hk (by decide)]
theorem tapAt_R {h : mH} {g n : Nat} {tp : Nat → Nat → Nat} (A : isTR h g n tp) {k : Nat} (hk : k < n) (hn : n ≤ 61) : s_X5_tapAt h g (nI k) = some (pk (tp k)) := by
  obtain ⟨h1, f, h2, h3⟩ := A
  rw [tapAt_A h1 h2 (by omega), h3 k hk]
theorem size_R {h : mH} {g n : Nat} {tp : Nat → Nat → Nat} (A : isTR h g n tp) : m_gi h 3 g 1 = some (nI n) := gi_O A.1 rfl
theorem insert_b {h : mH} {g n p : Nat} {f : Nat → Int32} {tp : Nat → Nat → Nat} {t : Nat → Nat} (H : h g = some (mO 3 [.ref (g + 1), .int (nI n)])) (A : isA h (g + 1) 61 f) (h1 : ∀ i, i < p → f i = pk (tp i)) (h2 : ∀ i, p < i → i ≤ n → f i = pk (tp (i - 1))) (hp : p ≤ n) (hn : n ≤ 60) :
    ∃ h', s_X5_insert_b61 h g (pk t) (nI p) = some (nI p, h') ∧ isTR h' g (n + 1) (tins tp p t) ∧ fr h h' g (g + 2) := by
  obtain ⟨ha, e1, e2, e3⟩ := put_A A (k := p) (by omega) (by decide) (pk t)
  have H1 := e3.O H (by omega)
  refine ⟨m_up ha g (mO 3 [.ref (g + 1), .int (nI (n + 1))]), ?_, ⟨m_up_same _ _ _, upd f p (pk t), e2.fr fr.up (by omega), fun i hi => ?_⟩, (e3.wd (by omega) (by omega)).tr (fr.up.wd (by omega) (by omega))⟩
  · simp only [s_X5_insert_b61, gr_O H (k := 0) rfl, bS, e1, gi_O H1 (k := 1) rfl, put_O H1 (k := 1) (show 1 < 2 by decide), nI_1]
    rfl
  · show _ = pk (if i < p then tp i else if i = p then t else tp (i - 1))
    by_cases q : i = p
    · subst q
      rw [pk_us, if_neg (Nat.lt_irrefl _), if_pos rfl]
    · rw [pk_un q]
      by_cases q2 : i < p
      · rw [if_pos q2, h1 i q2]
      · rw [if_neg q2, if_neg q, h2 i (by omega) (by omega)]
theorem insert_L {g n : Nat} {tp : Nat → Nat → Nat} {t : Nat → Nat} (hn : n ≤ 60) (v : vTs n tp) (vt : vT t) : ∀ (p F : Nat) (h : mH) (f : Nat → Int32), h g = some (mO 3 [.ref (g + 1), .int (nI n)]) → isA h (g + 1) 61 f → (∀ i, i < p → f i = pk (tp i)) → (∀ i, p < i → i ≤ n → f i = pk (tp (i - 1))) → p ≤ n → p < F →
    ∃ h', s_X5_insert_L19 F h g (pk t) (nI p) = some (nI (ip tp t p), h') ∧ isTR h' g (n + 1) (tins tp (ip tp t p) t) ∧ fr h h' g (g + 2) := by
  intro p
  induction p with
  | zero =>
    intro F h f H A h1 h2 hp hF
    obtain ⟨F, rfl⟩ : ∃ F', F = F' + 1 := ⟨F - 1, by omega⟩
    obtain ⟨h', e1, e2, e3⟩ := insert_b (t := t) H A h1 h2 hp hn
    refine ⟨h', ?_, e2, e3⟩
    have h3 : nI 0 ≤ 0 := by decide
    simp only [s_X5_insert_L19, h3, if_true, e1, ip]
  | succ p ih =>
    intro F h f H A h1 h2 hp hF
    obtain ⟨F, rfl⟩ : ∃ F', F = F' + 1 := ⟨F - 1, by omega⟩
    have h3 : ¬ (nI (p + 1) ≤ 0) := nI_nle (by omega) (by omega)
    have vp := v p (by omega)
    have hfp : f p = pk (tp p) := h1 p (by omega)
    have e4 : nI (p + 1) - 1 = nI p := nI_pred p
    have e5 : nI (p + 1) + (-1) = nI p := (Int32.sub_eq_add_neg _ _).symm.trans e4
    have hb1 : tp p 1 * 2 ^ 11 + tp p 2 < 2 ^ 31 := tm_lt vp
    have hb2 : t 1 * 2 ^ 11 + t 2 < 2 ^ 31 := tm_lt vt
    have hc : (nI (tp p 1 * 2 ^ 11 + tp p 2) ≤ nI (t 1 * 2 ^ 11 + t 2)) ↔ tm (tp p) ≤ tm t := (nI_leI hb1 hb2).trans (tm_le vp vt)
    have hstart : s_X5_insert_L19 (F + 1) h g (pk t) (nI (p + 1)) = if nI (tp p 1 * 2 ^ 11 + tp p 2) ≤ nI (t 1 * 2 ^ 11 + t 2) then s_X5_insert_b61 h g (pk t) (nI (p + 1)) else (s_X1_put h (g + 1) (nI (p + 1)) (pk (tp p))).bind fun h52 => s_X5_insert_L19 F h52 g (pk t) (nI p) := by
      rw [s_X5_insert_L19, if_neg h3, is_O H, bS, e4, tapAt_A H A (show p < 61 by omega), hfp, bS, timeOf_pk vp, bS, timeOf_pk vt, bS, gr_O H (k := 0) rfl, bS, bS, bS, e5]
    rw [hstart]
    by_cases hq : tm (tp p) ≤ tm t
    · obtain ⟨h', e1, e2, e3⟩ := insert_b (t := t) H A h1 h2 hp hn
      have hi : ip tp t (p + 1) = p + 1 := by unfold ip; rw [if_neg (by omega)]
      rw [if_pos (hc.mpr hq), hi]
      exact ⟨h', e1, e2, e3⟩
    · have hi : ip tp t (p + 1) = ip tp t p := by rw [ip, if_pos (by omega)]
      rw [if_neg (fun q => hq (hc.mp q)), hi]
      obtain ⟨ha, e1, e2, e3⟩ := put_A A (k := p + 1) (by omega) (by decide) (pk (tp p))
      obtain ⟨hb, f1, f2, f3⟩ := ih F ha _ (e3.O H (by omega)) e2 (fun i hi => by rw [pk_un (by omega), h1 i (by omega)]) (fun i hi1 hi2 => by
        by_cases q : i = p + 1
        · subst q; rw [pk_us, Nat.add_sub_cancel]
        · rw [pk_un q, h2 i (by omega) hi2]) (by omega) (by omega)
      refine ⟨hb, ?_, f2, (e3.wd (by omega) (by omega)).tr f3⟩
      simp only [e1, bS, f1]
theorem insert_R {h : mH} {g n : Nat} {tp : Nat → Nat → Nat} {t : Nat → Nat} (A : isTR h g n tp) (hn : n ≤ 60) (v : vTs n tp) (vt : vT t) :
    ∃ h', s_X5_insert h g (pk t) = some (nI (ip tp t n), h') ∧ isTR h' g (n + 1) (tins tp (ip tp t n) t) ∧ fr h h' g (g + 2) := by
  obtain ⟨h1, f, h2, h3⟩ := A
  obtain ⟨h', e1, e2, e3⟩ := insert_L hn v vt n m_F h f h1 h2 h3 (fun i hi1 hi2 => absurd hi1 (by omega)) (Nat.le_refl _) (by unfold m_F; omega)
  refine ⟨h', ?_, e2, e3⟩
  have h4 : nI n < nI 61 := nI_lt (by omega) (by omega)
  simp only [s_X5_insert, gi_O h1 (k := 1) rfl, gr_O h1 (k := 0) rfl, ilen_A h2, bS, h4, if_true, e1]
theorem take_L {g n P : Nat} {tp : Nat → Nat → Nat} (hn : n ≤ 60) (hP : P < n) : ∀ (d i F : Nat) (h : mH) (f : Nat → Int32), h g = some (mO 3 [.ref (g + 1), .int (nI n)]) → isA h (g + 1) 61 f → (∀ j, j < i → f j = pk (tdel tp P j)) → (∀ j, i ≤ j → j < n → f j = pk (tp j)) → P ≤ i → i + 1 + d = n → d < F →
    ∃ h', s_X5_takeAway_L2 F h g (nI i) = some h' ∧ isTR h' g (n - 1) (tdel tp P) ∧ fr h h' g (g + 2) := by
  intro d
  induction d with
  | zero =>
    intro i F h f H A h1 h2 hPi hi hF
    obtain ⟨F, rfl⟩ : ∃ F', F = F' + 1 := ⟨F - 1, by omega⟩
    have h3 : nI n ≤ nI (i + 1) := nI_le (by omega) (by omega)
    refine ⟨m_up h g (mO 3 [.ref (g + 1), .int (nI (n - 1))]), ?_, ⟨m_up_same _ _ _, f, A.fr fr.up (by omega), fun j hj => h1 j (by omega)⟩, fr.up.wd (by omega) (by omega)⟩
    have e : nI n - 1 = nI (n - 1) := by rw [show (1 : Int32) = nI 1 from rfl, nI_sub (by omega)]
    simp only [s_X5_takeAway_L2, gi_O H (k := 1) rfl, bS, nI_1, h3, if_true, put_O H (k := 1) (show 1 < 2 by decide), e]
    rfl
  | succ d ih =>
    intro i F h f H A h1 h2 hPi hi hF
    obtain ⟨F, rfl⟩ : ∃ F', F = F' + 1 := ⟨F - 1, by omega⟩
    have h3 : ¬ (nI n ≤ nI (i + 1)) := nI_ge (by omega) (by omega)
    obtain ⟨ha, e1, e2, e3⟩ := put_A A (k := i) (by omega) (by decide) (f (i + 1))
    obtain ⟨hb, f1, f2, f3⟩ := ih (i + 1) F ha _ (e3.O H (by omega)) e2 (fun j hj => by
      by_cases q : j = i
      · subst q
        rw [pk_us, h2 (j + 1) (by omega) (by omega)]
        show _ = pk (if j < P then tp j else tp (j + 1))
        rw [if_neg (by omega)]
      · rw [pk_un q, h1 j (by omega)]) (fun j hj1 hj2 => by rw [pk_un (by omega), h2 j (by omega) hj2]) (by omega) (by omega) (by omega)
    refine ⟨hb, ?_, f2, (e3.wd (by omega) (by omega)).tr f3⟩
    simp only [s_X5_takeAway_L2, gi_O H (k := 1) rfl, gr_O H (k := 0) rfl, is_O H, bS, nI_1, h3, if_false, tapAt_A H A (show i + 1 < 61 by omega), e1, f1]
theorem take_R {h : mH} {g n P : Nat} {tp : Nat → Nat → Nat} (A : isTR h g n tp) (hn : n ≤ 60) (hP : P < n) : ∃ h', s_X5_takeAway h g (nI P) = some h' ∧ isTR h' g (n - 1) (tdel tp P) ∧ fr h h' g (g + 2) := by
  obtain ⟨h1, f, h2, h3⟩ := A
  obtain ⟨h', e1, e2, e3⟩ := take_L (tp := tp) hn hP (n - 1 - P) P m_F h f h1 h2 (fun j hj => by
    rw [h3 j (by omega)]
    show _ = pk (if j < P then tp j else tp (j + 1))
    rw [if_pos hj]) (fun j _ hj => h3 j hj) (Nat.le_refl _) (by omega) (by unfold m_F; omega)
  exact ⟨h', e1, e2, e3⟩
theorem copyRow {h : mH} {g c n n' : Nat} {tp tp' : Nat → Nat → Nat} (A : isTR h g n tp) (C : isTR h c n' tp') (hgc : g + 2 ≤ c ∨ c + 2 ≤ g) : ∃ h', s_X5_copyFrom h c g = some h' ∧ isTR h' c n tp ∧ fr h h' c (c + 2) := by
  obtain ⟨h1, f, h2, h3⟩ := A
  obtain ⟨g1, f', g2, g3⟩ := C
  obtain ⟨ha, e1, e2, e3⟩ := copy_A h2 g2 (by omega) (by decide)
  have H1 := e3.O g1 (by omega)
  have H2 := e3.O h1 (by omega)
  refine ⟨m_up ha c (mO 3 [.ref (c + 1), .int (nI n)]), ?_, ⟨m_up_same _ _ _, f, e2.fr fr.up (by omega), h3⟩, (e3.wd (by omega) (by omega)).tr (fr.up.wd (by omega) (by omega))⟩
  simp only [s_X5_copyFrom, gr_O h1 (k := 0) rfl, gr_O g1 (k := 0) rfl, bS, e1, gi_O H2 (k := 1) rfl, put_O H1 (k := 1) (show 1 < 2 by decide)]
  rfl
end PR
