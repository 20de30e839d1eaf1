/-! PURE: the reference's digest -/
section RS2
theorem foldG_ext {α : Type} {s s' : α → Nat → α} : ∀ {n : Nat} {a : α}, (∀ a j, j < n → s a j = s' a j) → foldG s n a = foldG s' n a
  | 0, _, _ => rfl
  | n + 1, a, h => by
    show s (foldG s n a) n = s' (foldG s' n a) n
    rw [foldG_ext (fun a j hj => h a j (by omega)), h _ n (by omega)]
theorem foldG_add {α : Type} (s : α → Nat → α) (n : Nat) (a : α) : ∀ m, foldG s (n + m) a = foldG (fun a p => s a (n + p)) m (foldG s n a)
  | 0 => rfl
  | m + 1 => by
    show s (foldG s (n + m) a) (n + m) = s (foldG (fun a p => s a (n + p)) m (foldG s n a)) (n + m)
    rw [foldG_add s n a m]
theorem fold_flat {α : Type} (g : α → Nat → Nat → α) {m : Nat} (hm : 0 < m) (a : α) : ∀ n, foldG (fun a v => g a (v / m) (v % m)) (n * m) a = foldG (fun a j => foldG (fun a p => g a j p) m a) n a
  | 0 => by rw [Nat.zero_mul]; rfl
  | n + 1 => by
    rw [Nat.succ_mul, foldG_add, fold_flat g hm a n]
    show foldG (fun a p => g a ((n * m + p) / m) ((n * m + p) % m)) m (foldG (fun a j => foldG (fun a p => g a j p) m a) n a) = foldG (fun a p => g a n p) m (foldG (fun a j => foldG (fun a p => g a j p) m a) n a)
    refine foldG_ext fun b j hj => ?_
    have d1 : (n * m + j) / m = n := by rw [Nat.mul_comm, Nat.mul_add_div hm, Nat.div_eq_of_lt hj, Nat.add_zero]
    have d2 : (n * m + j) % m = j := by rw [Nat.mul_comm, Nat.mul_add_mod, Nat.mod_eq_of_lt hj]
    rw [d1, d2]
theorem loopH {β : Type} {L : Nat → mH → Int32 → Option β} {P : mH → Int64 → Prop} {Q : Option β → Prop} {step : Int64 → Nat → Int64} {n : Nat} {a : Int64} (hn : n < 4000) (hs : ∀ F h a i, i < n → P h a → ∃ h', P h' (step a i) ∧ L (F + 1) h (nI i) = L F h' (nI (i + 1))) (ho : ∀ F h, P h (foldG step n a) → Q (L (F + 1) h (nI n))) : ∀ h, P h a → Q (L m_F h (nI 0)) := by
  have r : ∀ (d i F : Nat) (h : mH), i + d = n → d < F → P h (foldG step i a) → Q (L F h (nI i)) := by
    intro d
    induction d with
    | zero =>
      intro i F h hi hF hP
      obtain ⟨F, rfl⟩ : ∃ F', F = F' + 1 := ⟨F - 1, by omega⟩
      obtain rfl : i = n := by omega
      exact ho F h hP
    | succ d ih =>
      intro i F h hi hF hP
      obtain ⟨F, rfl⟩ : ∃ F', F = F' + 1 := ⟨F - 1, by omega⟩
      obtain ⟨h', h1, h2⟩ := hs F h _ i (by omega) hP
      rw [h2]
      exact ih (i + 1) F h' (by omega) (by omega) h1
  intro h hP
  exact r n 0 m_F h (by omega) (by unfold m_F; omega) hP
/-- the reference with its hash -/
def isRH (h0 h : mH) (M : Nat) (sm ln : Int32) (f V b : Nat → Int32) (a : Int64) : Prop := (∃ p wl rm, h M = some (mOb M 0 sm ln p wl rm a)) ∧ (∃ g, isR h M 0 sm ln f g V b) ∧ fr h0 h M (M + 7)
variable {h0 h : mH} {M sz bl : Nat} {sm ln : Int32} {f V b : Nat → Int32} {k : mK} {a : Int64}
theorem isRH.is (A : isRH h0 h M sm ln f V b a) : m_is h 6 M = some () := by
  obtain ⟨⟨p, wl, rm, a0⟩, -⟩ := A
  exact is_O a0
theorem isRH.hash (A : isRH h0 h M sm ln f V b a) (x : Int64) : ∃ h', s_X8_hashes h M x = some h' ∧ isRH h0 h' M sm ln f V b (mx a x) ∧ fr h h' M (M + 1) := by
  obtain ⟨⟨p, wl, rm, a0⟩, ⟨g, R⟩, F⟩ := A
  have w : m_put h 6 M 12 (.long (mx a x)) = some (m_up h M (mOb M 0 sm ln p wl rm (mx a x))) := put_O a0 (k := 12) (show 12 < 13 by decide)
  have E : fr h (m_up h M (mOb M 0 sm ln p wl rm (mx a x))) M (M + 1) := fr.up
  refine ⟨_, ?_, ⟨⟨p, wl, rm, m_up_same _ _ _⟩, ⟨g, R.m0⟩, F.tr (E.wd (by omega) (by omega))⟩, E⟩
  rw [s_X8_hashes, gl_O a0 (k := 12) rfl, bS]
  show ((m_put h 6 M 12 (.long (mx a x))).bind _) = _
  rw [w, bS]
theorem isRH.Q (A : isRH h0 h M sm ln f V b a) : ∃ p wl rm, isQ h M (mOb M 0 sm ln p wl rm a) f := by
  obtain ⟨⟨p, wl, rm, a0⟩, ⟨g, -, a1, -, -, -, a5, -⟩, F⟩ := A
  exact ⟨p, wl, rm, a0, a1, a5⟩
theorem isRH.q5 {h' : mH} {o : mE} (A : isRH h0 h M sm ln f V b a) (F : fr h h' (M + 5) (M + 6)) (Q : isQ h' M o f) : isRH h0 h' M sm ln f V b a := by
  obtain ⟨⟨p, wl, rm, a0⟩, ⟨g, R⟩, E⟩ := A
  exact ⟨⟨p, wl, rm, F.O a0 (by omega)⟩, ⟨g, R.q5 F Q⟩, E.tr (F.wd (by omega) (by omega))⟩
theorem hd_H (S : isS f k) (hk : kok k) {w d : Nat} (hw : w < 4) (hd : d < 28) (A : isRH h0 h M sm ln f V b a) : ∃ h', s_X8_hashesDay h M (nI w) (nI d) = some h' ∧ isRH h0 h' M sm ln f V b (foldG (fun a p => mx a (aDay k w d p).toInt64) 4 a) := by
  have hn := hk.1
  refine loopH (L := fun F h i => s_X8_hashesDay_L2 F h M (nI w) (nI d) i) (P := fun h a => isRH h0 h M sm ln f V b a) (Q := fun o => ∃ h', o = some h' ∧ isRH h0 h' M sm ln f V b (foldG (fun a p => mx a (aDay k w d p).toInt64) 4 a)) (step := fun a p => mx a (aDay k w d p).toInt64) (n := 4) (a := a) (by decide) ?_ ?_ h A
  · intro F h a i hi A
    obtain ⟨p, wl, rm, Q⟩ := A.Q
    obtain ⟨h1, e1, e2, e3⟩ := ofDay_Q Q S (by omega) hk.2.1 hw hd hi
    have A1 := A.q5 e3 e2
    obtain ⟨h2, g1, g2, g3⟩ := A1.hash (aDay k w d i).toInt64
    refine ⟨h2, g2, ?_⟩
    show s_X8_hashesDay_L2 (F + 1) h M (nI w) (nI d) (nI i) = _
    rw [s_X8_hashesDay_L2, if_neg (show ¬ (4 : Int32) ≤ nI i from nI_ge (b := 4) hi (by decide)), A.is, bS, e1, bS]
    show ((m_is h1 6 M).bind fun _ => _) = _
    rw [A1.is, bS, g1, bS, nI_1]
  · intro F h A
    refine ⟨h, ?_, A⟩
    show s_X8_hashesDay_L2 (F + 1) h M (nI w) (nI d) (nI 4) = _
    rw [s_X8_hashesDay_L2, if_pos (show (4 : Int32) ≤ nI 4 by decide)]
theorem hw_61 (S : isS f k) (hk : kok k) {w : Nat} (hw : w < 4) (A : isRH h0 h M sm ln f V b a) : ∃ h', s_X8_hashesWallet_L61 m_F h M (nI w) (nI 0) = some h' ∧ isRH h0 h' M sm ln f V b (hLed k w a) := by
  have hn := hk.1
  have ee : hLed k w a = foldG (fun a v => mx a (aLedger k w (v / 2) (v % 2)).toInt64) 16 a := (fold_flat (fun a i p => mx a (aLedger k w i p).toInt64) (m := 2) (by decide) a 8).symm
  rw [ee]
  refine loopH (L := fun F h i => s_X8_hashesWallet_L61 F h M (nI w) i) (P := fun h a => isRH h0 h M sm ln f V b a) (Q := fun o => ∃ h', o = some h' ∧ isRH h0 h' M sm ln f V b (foldG (fun a v => mx a (aLedger k w (v / 2) (v % 2)).toInt64) 16 a)) (step := fun a v => mx a (aLedger k w (v / 2) (v % 2)).toInt64) (n := 16) (a := a) (by decide) ?_ ?_ h A
  · intro F h a i hi A
    obtain ⟨p, wl, rm, Q⟩ := A.Q
    obtain ⟨h2, g1, g2, g3⟩ := A.hash (aLedger k w (i / 2) (i % 2)).toInt64
    refine ⟨h2, g2, ?_⟩
    show s_X8_hashesWallet_L61 (F + 1) h M (nI w) (nI i) = _
    rw [s_X8_hashesWallet_L61, if_neg (show ¬ (16 : Int32) ≤ nI i from nI_ge (b := 16) hi (by decide)), show (2 : Int32) = nI 2 from rfl, m_div_nI (by omega) (by decide) (by decide), bS, m_rem_nI (by omega) (by decide) (by decide), bS, A.is, bS, entry_M Q S hk.2.2.1 hw (show i / 2 < 8 by omega) (show i % 2 < 2 by omega), bS, bS, g1, bS, nI_1]
  · intro F h A
    refine ⟨h, ?_, A⟩
    show s_X8_hashesWallet_L61 (F + 1) h M (nI w) (nI 16) = _
    rw [s_X8_hashesWallet_L61, if_pos (show (16 : Int32) ≤ nI 16 by decide)]
theorem hw_29 (S : isS f k) (hk : kok k) {w : Nat} (hw : w < 4) (A : isRH h0 h M sm ln f V b a) : ∃ h', s_X8_hashesWallet_L29 m_F h M (nI w) (nI 0) = some h' ∧ isRH h0 h' M sm ln f V b (hLed k w (hWk k w a)) := by
  have hn := hk.1
  have ee : hWk k w a = foldG (fun a v => mx a (aWeek k w (v / 7) (v % 7)).toInt64) 28 a := (fold_flat (fun a i p => mx a (aWeek k w i p).toInt64) (m := 7) (by decide) a 4).symm
  rw [ee]
  refine loopH (L := fun F h i => s_X8_hashesWallet_L29 F h M (nI w) i) (P := fun h a => isRH h0 h M sm ln f V b a) (Q := fun o => ∃ h', o = some h' ∧ isRH h0 h' M sm ln f V b (hLed k w (foldG (fun a v => mx a (aWeek k w (v / 7) (v % 7)).toInt64) 28 a))) (step := fun a v => mx a (aWeek k w (v / 7) (v % 7)).toInt64) (n := 28) (a := a) (by decide) ?_ ?_ h A
  · intro F h a i hi A
    obtain ⟨p, wl, rm, Q⟩ := A.Q
    obtain ⟨h1, e1, e2, e3⟩ := tellsWeek_M Q S (by omega) hk.2.1 hw (show i / 7 < 4 by omega) (show i % 7 < 7 by omega)
    have A1 := A.q5 e3 e2
    obtain ⟨h2, g1, g2, g3⟩ := A1.hash (aWeek k w (i / 7) (i % 7)).toInt64
    refine ⟨h2, g2, ?_⟩
    show s_X8_hashesWallet_L29 (F + 1) h M (nI w) (nI i) = _
    rw [s_X8_hashesWallet_L29, if_neg (show ¬ (28 : Int32) ≤ nI i from nI_ge (b := 28) hi (by decide)), show (7 : Int32) = nI 7 from rfl, m_div_nI (by omega) (by decide) (by decide), bS, m_rem_nI (by omega) (by decide) (by decide), bS, A.is, bS, e1, bS]
    show ((m_is h1 6 M).bind fun _ => _) = _
    rw [A1.is, bS, g1, bS, nI_1]
  · intro F h A
    show ∃ h', s_X8_hashesWallet_L29 (F + 1) h M (nI w) (nI 28) = some h' ∧ _
    rw [s_X8_hashesWallet_L29, if_pos (show (28 : Int32) ≤ nI 28 by decide)]
    exact hw_61 S hk hw A
theorem hashesWallet_H (S : isS f k) (hk : kok k) {hd : Nat → Nat} (d0 : hd 0 = 0) (d1 : hd 1 = 6) (d2 : hd 2 = 7) (d3 : hd 3 = 27) {w : Nat} (hw : w < 4) (A : isRH h0 h M sm ln f V b a) : ∃ h', s_X8_hashesWallet h M (nI w) = some h' ∧ isRH h0 h' M sm ln f V b (hLed k w (hWk k w (hDy k hd w a))) := by
  obtain ⟨h1, a1, a2⟩ := hd_H S hk hw (show 0 < 28 by decide) A
  obtain ⟨h2, b1, b2⟩ := hd_H S hk hw (show 6 < 28 by decide) a2
  obtain ⟨h3, c1, c2⟩ := hd_H S hk hw (show 7 < 28 by decide) b2
  obtain ⟨h4, e1, e2⟩ := hd_H S hk hw (show 27 < 28 by decide) c2
  have ee : foldG (fun a p => mx a (aDay k w 27 p).toInt64) 4 (foldG (fun a p => mx a (aDay k w 7 p).toInt64) 4 (foldG (fun a p => mx a (aDay k w 6 p).toInt64) 4 (foldG (fun a p => mx a (aDay k w 0 p).toInt64) 4 a))) = hDy k hd w a := by
    show _ = foldG (fun a p => mx a (aDay k w (hd 3) p).toInt64) 4 (foldG (fun a p => mx a (aDay k w (hd 2) p).toInt64) 4 (foldG (fun a p => mx a (aDay k w (hd 1) p).toInt64) 4 (foldG (fun a p => mx a (aDay k w (hd 0) p).toInt64) 4 a)))
    rw [d0, d1, d2, d3]
  rw [ee] at e2
  obtain ⟨h5, j1, j2⟩ := hw_29 S hk hw e2
  refine ⟨h5, ?_, j2⟩
  have a1' : s_X8_hashesDay h M (nI w) 0 = some h1 := a1
  have b1' : s_X8_hashesDay h1 M (nI w) 6 = some h2 := b1
  have c1' : s_X8_hashesDay h2 M (nI w) 7 = some h3 := c1
  have e1' : s_X8_hashesDay h3 M (nI w) 27 = some h4 := e1
  rw [s_X8_hashesWallet, A.is, bS, a1', bS, a2.is, bS, b1', bS, b2.is, bS, c1', bS, c2.is, bS, e1', bS]
  exact j1
theorem share_Q {o : mE} {x : UInt64} (Q : ∃ p wl rm hs, o = mOb M 0 sm ln p wl rm hs ∧ isQ h M o f) (S : isS f k) (hk : kok k) (hx : (if aFares k = 0 then some FP.dconst1 else m_d (FP.ddiv (FP.i2d (sumF (kwj k) 16)) (FP.i2d (aFares k)))) = some x) : ∃ h', s_X8_share h M = some (x, h') ∧ isQ h' M o f ∧ fr h h' (M + 5) (M + 6) := by
  have hn := hk.1
  obtain ⟨p, wl, rm, hs, rfl, Q⟩ := Q
  obtain ⟨h1, e1, e2, e3⟩ := overWeeks_M Q S (by omega) hk.2.1 (show 1 < 7 by decide)
  have e1' : s_X8_overWeeks h M 1 = some (aFares k, h1) := e1.trans (by rw [show sumF (fun i => aWeek k (i / 4) (i % 4) 1) 16 = aFares k from sumF_weeks _])
  by_cases q : aFares k = 0
  · rw [if_pos q] at hx
    refine ⟨h1, ?_, e2, e3⟩
    rw [s_X8_share, is_O Q.1, bS, e1', bS]
    show (if aFares k = 0 then _ else _) = _
    rw [if_pos q, s_X8_share_b23]
    cases hx; rfl
  · rw [if_neg q] at hx
    obtain ⟨h2, g1, g2, g3⟩ := overWeeks_M e2 S (by omega) hk.2.1 (show 3 < 7 by decide)
    have g1' : s_X8_overWeeks h1 M 3 = some (sumF (kwj k) 16, h2) := g1
    refine ⟨h2, ?_, g2, e3.tr g3⟩
    rw [s_X8_share, is_O Q.1, bS, e1', bS]
    show (if aFares k = 0 then _ else _) = _
    rw [if_neg q]
    show ((m_is h1 6 M).bind fun _ => _) = _
    rw [is_O e2.1, bS, g1', bS]
    show ((m_d (FP.ddiv (FP.i2d (sumF (kwj k) 16)) (FP.i2d (aFares k)))).bind fun x22 => _) = _
    rw [hx, bS]; rfl
theorem dg_192 (A : isRH h0 h M sm (nI bl) f V b a) (hb : bl ≤ 60) : ∃ h', s_X8_digest_L192 m_F h M (nI 0) = some (foldG (fun a j => mx a (b j).toInt64) bl a, h') ∧ isRH h0 h' M sm (nI bl) f V b (foldG (fun a j => mx a (b j).toInt64) bl a) := by
  refine loopH (L := fun F h i => s_X8_digest_L192 F h M i) (P := fun h a => isRH h0 h M sm (nI bl) f V b a) (Q := fun o => ∃ h', o = some (foldG (fun a j => mx a (b j).toInt64) bl a, h') ∧ isRH h0 h' M sm (nI bl) f V b (foldG (fun a j => mx a (b j).toInt64) bl a)) (step := fun a j => mx a (b j).toInt64) (n := bl) (a := a) (by omega) ?_ ?_ h A
  · intro F h a i hi A
    obtain ⟨⟨p, wl, rm, a0⟩, ⟨g, R⟩, -⟩ := id A
    obtain ⟨h2, g1, g2, g3⟩ := A.hash (b i).toInt64
    refine ⟨h2, g2, ?_⟩
    show s_X8_digest_L192 (F + 1) h M (nI i) = _
    rw [s_X8_digest_L192, gi_O a0 (k := 6) rfl, bS, if_neg (nI_ge hi (by omega)), gr_O a0 (k := 5) rfl, bS, iald_A R.2.2.2.2.1 (show i < 60 by omega) (by decide), bS, A.is, bS, g1, bS, nI_1]
  · intro F h A
    refine ⟨h, ?_, A⟩
    obtain ⟨⟨p, wl, rm, a0⟩, -⟩ := id A
    show s_X8_digest_L192 (F + 1) h M (nI bl) = _
    rw [s_X8_digest_L192, gi_O a0 (k := 6) rfl, bS, if_pos (nI_le (Nat.le_refl _) (by omega)), gl_O a0 (k := 12) rfl, bS]
theorem dg_124 (S : isS f k) (hk : kok k) (hb : bl ≤ 60) {x : UInt64} {y : Int64} (hx : (if aFares k = 0 then some FP.dconst1 else m_d (FP.ddiv (FP.i2d (sumF (kwj k) 16)) (FP.i2d (aFares k)))) = some x) (hy : ∀ h, s_Jxe99ae_doubleToLongBits_ccdee h x = some y) {hd : Nat → Nat} (A : isRH h0 h M sm (nI bl) f V b (hD4 k sz hd)) : ∃ h', s_X8_digest_L124 m_F h M (nI 0) = some (aDig k sz bl b hd y, h') ∧ ∃ a', isRH h0 h' M sm (nI bl) f V b a' := by
  have hn := hk.1
  refine loopH (L := fun F h i => s_X8_digest_L124 F h M i) (P := fun h a => isRH h0 h M sm (nI bl) f V b a) (Q := fun o => ∃ h', o = some (aDig k sz bl b hd y, h') ∧ ∃ a', isRH h0 h' M sm (nI bl) f V b a') (step := fun a w => mx a (aRaised k (mkT w 6 500 4 1 0)).toInt64) (n := 4) (a := hD4 k sz hd) (by decide) ?_ ?_ h A
  · intro F h a i hi A
    have vt : vT (mkT i 6 500 4 1 0) := ⟨hi, show 6 < 28 by decide, show 500 < 1440 by decide, show 4 < 10 by decide, show 1 < 2 by decide, show 0 < 2 by decide⟩
    obtain ⟨⟨p, wl, rm, a0⟩, ⟨g, R⟩, E⟩ := id A
    obtain ⟨h1, e1, e2, e3⟩ := would_R R S hk vt rfl
    have e1' : s_X8_would h M (nI i) 6 500 4 1 = some (aRaised k (mkT i 6 500 4 1 0), h1) := e1
    have A1 : isRH h0 h1 M sm (nI bl) f V b a := ⟨⟨p, wl, rm, e3.O a0 (by omega)⟩, ⟨f, e2⟩, E.tr (e3.wd (by omega) (by omega))⟩
    obtain ⟨h2, g1, g2, g3⟩ := A1.hash (aRaised k (mkT i 6 500 4 1 0)).toInt64
    refine ⟨h2, g2, ?_⟩
    show s_X8_digest_L124 (F + 1) h M (nI i) = _
    rw [s_X8_digest_L124, if_neg (show ¬ (4 : Int32) ≤ nI i from nI_ge (b := 4) hi (by decide)), A.is, bS, e1', bS]
    show ((m_is h1 6 M).bind fun _ => _) = _
    rw [A1.is, bS, g1, bS, nI_1]
  · intro F h A
    obtain ⟨p, wl, rm, Q⟩ := A.Q
    obtain ⟨h1, a1, a2, a3⟩ := leaky_M Q S (by omega) hk.2.1
    have A1 := A.q5 a3 a2
    obtain ⟨h2, b1, b2, b3⟩ := A1.hash (aLeak k 10).2.toInt64
    obtain ⟨p2, wl2, rm2, Q2⟩ := b2.Q
    obtain ⟨h3, c1, c2, c3⟩ := least_M Q2 S (by omega) hk.2.1
    have A3 := b2.q5 c3 c2
    obtain ⟨h4, d1, d2, d3⟩ := A3.hash (kleast k).toInt64
    obtain ⟨p4, wl4, rm4, Q4⟩ := d2.Q
    obtain ⟨h5', e1, e2, e3⟩ := share_Q (sm := sm) (ln := nI bl) ⟨p4, wl4, rm4, _, rfl, Q4⟩ S hk hx
    have A5 := d2.q5 e3 e2
    obtain ⟨h6, j1, j2, j3⟩ := A5.hash y
    obtain ⟨⟨p6, wl6, rm6, z6⟩, -⟩ := id j2
    obtain ⟨h7, l1, l2, l3⟩ := j2.hash (nI bl).toInt64
    obtain ⟨h8, m1, m2⟩ := dg_192 l2 hb
    refine ⟨h8, ?_, _, m2⟩
    show s_X8_digest_L124 (F + 1) h M (nI 4) = _
    rw [s_X8_digest_L124, if_pos (show (4 : Int32) ≤ nI 4 by decide), A.is, bS, a1, bS]
    show ((m_is h1 6 M).bind fun _ => _) = _
    rw [A1.is, bS, b1, bS, b2.is, bS, c1, bS]
    show ((m_is h3 6 M).bind fun _ => _) = _
    rw [A3.is, bS, d1, bS, d2.is, bS, e1, bS]
    show ((s_Jxe99ae_doubleToLongBits_ccdee h5' x).bind fun x175 => _) = _
    rw [hy, bS]
    show ((m_is h5' 6 M).bind fun _ => _) = _
    rw [A5.is, bS, j1, bS, gi_O z6 (k := 6) rfl, bS, j2.is, bS, l1, bS]
    exact m1
theorem digest_M {t : Int32} {sv : Nat → mK} (A : isM h M t k sz sv bl b) (hk : kok k) (hb : bl ≤ 60) {hd : Nat → Nat} (d0 : hd 0 = 0) (d1 : hd 1 = 6) (d2 : hd 2 = 7) (d3 : hd 3 = 27) {x : UInt64} {y : Int64} (hx : (if aFares k = 0 then some FP.dconst1 else m_d (FP.ddiv (FP.i2d (sumF (kwj k) 16)) (FP.i2d (aFares k)))) = some x) (hy : ∀ h, s_Jxe99ae_doubleToLongBits_ccdee h x = some y) :
    ∃ h', s_X8_digest h M = some (aDig k sz bl b hd y, h') ∧ isM h' M 0 k sz sv bl b ∧ fr h h' M (M + 7) := by
  have hn := hk.1
  obtain ⟨f, g, V, R, S, W⟩ := A
  obtain ⟨h1, e1, e2, e3⟩ := R.th 0
  obtain ⟨p, wl, rm, hs, a0⟩ := e2.1
  have w : m_put h1 6 M 12 (.long 3023) = some (m_up h1 M (mOb M 0 (nI sz) (nI bl) p wl rm 3023)) := put_O a0 (k := 12) (show 12 < 13 by decide)
  have E : fr h1 (m_up h1 M (mOb M 0 (nI sz) (nI bl) p wl rm 3023)) M (M + 1) := fr.up
  have A2 : isRH h (m_up h1 M (mOb M 0 (nI sz) (nI bl) p wl rm 3023)) M (nI sz) (nI bl) f V b 3023 := ⟨⟨p, wl, rm, m_up_same _ _ _⟩, ⟨g, e2.m0⟩, (e3.wd (by omega) (by omega)).tr (E.wd (by omega) (by omega))⟩
  have fin : ∀ o : Option (Int64 × mH), (∃ h', o = some (aDig k sz bl b hd y, h') ∧ ∃ a', isRH h h' M (nI sz) (nI bl) f V b a') → ∃ h', o = some (aDig k sz bl b hd y, h') ∧ isM h' M 0 k sz sv bl b ∧ fr h h' M (M + 7) := by
    intro o z
    obtain ⟨h', g1, a', -, ⟨g, g2⟩, g3⟩ := z
    exact ⟨h', g1, ⟨f, g, V, g2, S, W⟩, g3⟩
  apply fin
  rw [s_X8_digest, e1, bS, w, bS]
  generalize m_up h1 M (mOb M 0 (nI sz) (nI bl) p wl rm 3023) = h2 at A2
  refine loopH (L := fun F h i => s_X8_digest_L14 F h M i) (P := fun h' a => isRH h h' M (nI sz) (nI bl) f V b a) (Q := fun o => ∃ h', o = some (aDig k sz bl b hd y, h') ∧ ∃ a', isRH h h' M (nI sz) (nI bl) f V b a') (step := fun a p => mx a (aCount k sz p).toInt64) (n := 10) (a := 3023) (by decide) ?_ ?_ h2 A2
  · intro F h' a i hi A
    obtain ⟨p, wl, rm, Q⟩ := A.Q
    obtain ⟨h1, e1, e2, e3⟩ := counts_M Q S (by omega) hk.2.1 hi
    have A1 := A.q5 e3 e2
    obtain ⟨h2, g1, g2, g3⟩ := A1.hash (aCount k sz i).toInt64
    refine ⟨h2, g2, ?_⟩
    show s_X8_digest_L14 (F + 1) h' M (nI i) = _
    rw [s_X8_digest_L14, if_neg (show ¬ (10 : Int32) ≤ nI i from nI_ge (b := 10) hi (by decide)), A.is, bS, e1, bS]
    show ((m_is h1 6 M).bind fun _ => _) = _
    rw [A1.is, bS, g1, bS, nI_1]
  · intro F h' A
    show ∃ h'', s_X8_digest_L14 (F + 1) h' M (nI 10) = some (aDig k sz bl b hd y, h'') ∧ _
    rw [s_X8_digest_L14, if_pos (show (10 : Int32) ≤ nI 10 by decide)]
    refine loopH (L := fun F h i => s_X8_digest_L38 F h M i) (P := fun h' a => isRH h h' M (nI sz) (nI bl) f V b a) (Q := fun o => ∃ h', o = some (aDig k sz bl b hd y, h') ∧ ∃ a', isRH h h' M (nI sz) (nI bl) f V b a') (step := fun a j => mx a (kset k j).toInt64) (n := 6) (a := hD1 k sz) (by decide) ?_ ?_ h' A
    · intro F h' a i hi A
      obtain ⟨p, wl, rm, Q⟩ := A.Q
      obtain ⟨h2, g1, g2, g3⟩ := A.hash (kset k i).toInt64
      refine ⟨h2, g2, ?_⟩
      show s_X8_digest_L38 (F + 1) h' M (nI i) = _
      rw [s_X8_digest_L38, if_neg (show ¬ (6 : Int32) ≤ nI i from nI_ge (b := 6) hi (by decide)), st_M Q.1 Q.2.1 (show i < 492 by omega), S.1 i hi, A.is, bS, g1, bS, nI_1]
    · intro F h' A
      show ∃ h'', s_X8_digest_L38 (F + 1) h' M (nI 6) = some (aDig k sz bl b hd y, h'') ∧ _
      obtain ⟨⟨p, wl, rm, z0⟩, ⟨g, R⟩, E⟩ := id A
      obtain ⟨h3, m, c1, c2, c3, c4, c5⟩ := lays_R R S (by omega) hk.2.1
      have A3 : isRH h h3 M (nI sz) (nI bl) f V b (hD2 k sz) := ⟨⟨p, wl, rm, c5.O z0 (by omega)⟩, ⟨g, c2⟩, E.tr (c5.wd (by omega) (by omega))⟩
      rw [s_X8_digest_L38, if_pos (show (6 : Int32) ≤ nI 6 by decide), A.is, bS, c1, bS]
      have ee : hD3 k sz = foldG (fun a v => mx a (aTap k (v / 8) (v % 8)).toInt64) (kn k * 8) (hD2 k sz) := (fold_flat (fun a i p => mx a (aTap k i p).toInt64) (m := 8) (by decide) (hD2 k sz) (kn k)).symm
      refine loopH (L := fun F h i => s_X8_digest_L67 F h M i) (P := fun h' a => isRH h h' M (nI sz) (nI bl) f V b a ∧ isA h' (M + 5) 61 m) (Q := fun o => ∃ h', o = some (aDig k sz bl b hd y, h') ∧ ∃ a', isRH h h' M (nI sz) (nI bl) f V b a') (step := fun a v => mx a (aTap k (v / 8) (v % 8)).toInt64) (n := kn k * 8) (a := hD2 k sz) (by omega) ?_ ?_ h3 ⟨A3, c3⟩
      · intro F h' a i hi ⟨A, B⟩
        obtain ⟨p, wl, rm, Q⟩ := A.Q
        obtain ⟨h2, g1, g2, g3⟩ := A.hash (aTap k (i / 8) (i % 8)).toInt64
        refine ⟨h2, ⟨g2, B.fr g3 (by omega)⟩, ?_⟩
        show s_X8_digest_L67 (F + 1) h' M (nI i) = _
        rw [s_X8_digest_L67, num_M Q.1 Q.2.1 S.2.2.2.2.1, show (8 : Int32) = nI 8 from rfl, nI_mul, if_neg (nI_ge (by omega) (by omega)), m_div_nI (by omega) (by decide) (by decide), bS, m_rem_nI (by omega) (by decide) (by decide), bS, A.is, bS, tellsTap_M Q.1 Q.2.1 S (by omega) hk.2.1 B c4 (show i / 8 < kn k by omega) (show i % 8 < 8 by omega), bS, bS, g1, bS, nI_1]
      · intro F h' ⟨A, B⟩
        rw [← ee] at A
        obtain ⟨p, wl, rm, Q⟩ := A.Q
        show ∃ h'', s_X8_digest_L67 (F + 1) h' M (nI (kn k * 8)) = some (aDig k sz bl b hd y, h'') ∧ _
        rw [s_X8_digest_L67, num_M Q.1 Q.2.1 S.2.2.2.2.1, show (8 : Int32) = nI 8 from rfl, nI_mul, if_pos (nI_le (by omega) (by omega))]
        refine loopH (L := fun F h i => s_X8_digest_L106 F h M i) (P := fun h' a => isRH h h' M (nI sz) (nI bl) f V b a) (Q := fun o => ∃ h', o = some (aDig k sz bl b hd y, h') ∧ ∃ a', isRH h h' M (nI sz) (nI bl) f V b a') (step := fun a w => hLed k w (hWk k w (hDy k hd w a))) (n := 4) (a := hD3 k sz) (by decide) ?_ ?_ h' A
        · intro F h' a i hi A
          obtain ⟨h2, g1, g2⟩ := hashesWallet_H S hk d0 d1 d2 d3 hi A
          refine ⟨h2, g2, ?_⟩
          show s_X8_digest_L106 (F + 1) h' M (nI i) = _
          rw [s_X8_digest_L106, if_neg (show ¬ (4 : Int32) ≤ nI i from nI_ge (b := 4) hi (by decide)), A.is, bS, g1, bS, nI_1]
        · intro F h' A
          show ∃ h'', s_X8_digest_L106 (F + 1) h' M (nI 4) = some (aDig k sz bl b hd y, h'') ∧ _
          rw [s_X8_digest_L106, if_pos (show (4 : Int32) ≤ nI 4 by decide)]
          exact dg_124 S hk hb hx hy A
theorem capShare_M {t : Int32} {sv : Nat → mK} (A : isM h M t k sz sv bl b) (hk : kok k) {x : UInt64} (hx : (if aFares k = 0 then some FP.dconst1 else m_d (FP.ddiv (FP.i2d (sumF (kwj k) 16)) (FP.i2d (aFares k)))) = some x) : ∃ h', s_X8_capShare h M = some (x, h') ∧ isM h' M 0 k sz sv bl b ∧ fr h h' M (M + 7) := by
  obtain ⟨f, g, V, R, S, W⟩ := A
  obtain ⟨h1, e1, e2, e3⟩ := R.th 0
  obtain ⟨pp, wl, rm, hs', Q⟩ := e2.Q
  obtain ⟨h2, a1, a2, a3⟩ := share_Q (sm := nI sz) (ln := nI bl) ⟨pp, wl, rm, hs', rfl, Q⟩ S hk hx
  refine ⟨h2, ?_, ⟨f, g, V, e2.q5 a3 a2, S, W⟩, (e3.wd (by omega) (by omega)).tr (a3.wd (by omega) (by omega))⟩
  rw [s_X8_capShare, e1, bS, e2.is, bS, a1, bS]
end RS2
