/-! PURE: the class' digest -/
section PDg
def foldG {α : Type} (step : α → Nat → α) : Nat → α → α
  | 0, a => a
  | n + 1, a => step (foldG step n a) n
theorem foldG_0 {α : Type} (step : α → Nat → α) (a : α) : foldG step 0 a = a := rfl
theorem loopG {α β : Type} {L : Nat → α → Int32 → Option β} {step : α → Nat → α} {out : α → Option β} {n : Nat} (hs : ∀ F a i, i < n → L (F + 1) a (nI i) = L F (step a i) (nI (i + 1))) (ho : ∀ F a, L (F + 1) a (nI n) = out a) (a : α) : ∀ (d i F : Nat), i + d = n → d < F → L F (foldG step i a) (nI i) = out (foldG step n a) := by
  intro d
  induction d with
  | zero =>
    intro i F hi hF
    obtain ⟨F, rfl⟩ : ∃ F', F = F' + 1 := ⟨F - 1, by omega⟩
    obtain rfl : i = n := by omega
    exact ho F _
  | succ d ih =>
    intro i F hi hF
    obtain ⟨F, rfl⟩ : ∃ F', F = F' + 1 := ⟨F - 1, by omega⟩
    rw [hs F _ i (by omega)]
    exact ih (i + 1) F (by omega) (by omega)
theorem loopF {α β : Type} {L : Nat → α → Int32 → Option β} {step : α → Nat → α} {out : α → Option β} {n : Nat} (hn : n < 4000) (hs : ∀ F a i, i < n → L (F + 1) a (nI i) = L F (step a i) (nI (i + 1))) (ho : ∀ F a, L (F + 1) a (nI n) = out a) (a : α) : L m_F a (nI 0) = out (foldG step n a) :=
  loopG hs ho a n 0 m_F (by omega) (by unfold m_F; omega)
def mx (a x : Int64) : Int64 := 31 * a + x
theorem mixed_mx {h : mH} {a x : Int64} : s_X7_mixed h a x = some (mx a x) := rfl
def isTh (h : mH) (a : Nat) (hd : Nat → Nat) : Prop := (∃ f, isT h a 4 f ∧ ∀ j, j < 4 → f j = nI (hd j)) ∧ ∀ j, j < 4 → hd j < 28
variable {h : mH} {X sz bl : Nat} {k : mK} {sv : Nat → mK} {bf : Nat → Int32} {st : m_T} {hd : Nat → Nat}
theorem mixedAll_A {a n m : Nat} {f : Nat → Int32} (A : isA h a n f) (hm : m ≤ n) (hn : n < 4000) (x : Int64) : s_X1_mixedAll h x a (nI m) = some (foldG (fun a j => mx a (f j).toInt64) m x) := by
  refine loopF (L := fun F x i => s_X1_mixedAll_L6 h F a (nI m) x i) (by omega) ?_ ?_ x
  · intro F b i hi
    show s_X1_mixedAll_L6 h (F + 1) a (nI m) b (nI i) = _
    rw [s_X1_mixedAll_L6, if_neg (nI_ge hi (by omega)), ilen_A A, bS, if_neg (nI_ge (by omega) (by omega)), iald_A A (show i < n by omega) (by omega), bS, mixed_mx, bS, nI_1]
  · intro F b
    show s_X1_mixedAll_L6 h (F + 1) a (nI m) b (nI m) = _
    rw [s_X1_mixedAll_L6, if_pos (nI_le (Nat.le_refl _) (by omega))]; rfl
noncomputable def hLed (k : mK) (w : Nat) (a : Int64) : Int64 := foldG (fun a b => foldG (fun a p => mx a (aLedger k w b p).toInt64) 2 a) 8 a
noncomputable def hWk (k : mK) (w : Nat) (a : Int64) : Int64 := foldG (fun a j => foldG (fun a p => mx a (aWeek k w j p).toInt64) 7 a) 4 a
noncomputable def hDy (k : mK) (hd : Nat → Nat) (w : Nat) (a : Int64) : Int64 := foldG (fun a i => foldG (fun a p => mx a (aDay k w (hd i) p).toInt64) 4 a) 4 a
theorem mw119 (A : isW h X k sz sv bl bf) {w : Nat} (hw : w < 4) (a : Int64) : s_X7_mixedWallet_L119 st h m_F X (nI w) a (nI 0) = some (hLed k w a) := by
  refine loopF (L := fun F a i => s_X7_mixedWallet_L119 st h F X (nI w) a i) (by decide) ?_ ?_ a
  · intro F b i hi
    show s_X7_mixedWallet_L119 st h (F + 1) X (nI w) b (nI i) = _
    rw [s_X7_mixedWallet_L119, if_neg (show ¬ (8 : Int32) ≤ nI i from nI_ge (b := 8) hi (by decide))]
    refine loopF (L := fun G a p => s_X7_mixedWallet_L129 st (s_X7_mixedWallet_L119 st h F) h G X (nI w) a (nI i) p) (n := 2) (step := fun a p => mx a (aLedger k w i p).toInt64) (out := fun a => s_X7_mixedWallet_L119 st h F X (nI w) a (nI (i + 1))) (by decide) ?_ ?_ b
    · intro G c p hp
      show s_X7_mixedWallet_L129 st (s_X7_mixedWallet_L119 st h F) h (G + 1) X (nI w) c (nI i) (nI p) = _
      rw [s_X7_mixedWallet_L129, if_neg (show ¬ (2 : Int32) ≤ nI p from nI_ge (b := 2) hp (by decide)), gr_O A.1 (k := 0) rfl, bS, is_O A.2.1.1, bS, ledgerNumber_W A.2.1 hw hi hp, bS, mixed_mx, bS, nI_1]
    · intro G c
      show s_X7_mixedWallet_L129 st (s_X7_mixedWallet_L119 st h F) h (G + 1) X (nI w) c (nI i) (nI 2) = _
      rw [s_X7_mixedWallet_L129, if_pos (show (2 : Int32) ≤ nI 2 by decide), nI_1]
  · intro F b
    show s_X7_mixedWallet_L119 st h (F + 1) X (nI w) b (nI 8) = _
    rw [s_X7_mixedWallet_L119, if_pos (show (8 : Int32) ≤ nI 8 by decide)]
theorem mw71 (A : isW h X k sz sv bl bf) {w : Nat} (hw : w < 4) (a : Int64) : s_X7_mixedWallet_L71 st h m_F X (nI w) a (nI 0) = some (hLed k w (hWk k w a)) := by
  refine loopF (L := fun F a i => s_X7_mixedWallet_L71 st h F X (nI w) a i) (out := fun a => some (hLed k w a)) (step := fun a j => foldG (fun a p => mx a (aWeek k w j p).toInt64) 7 a) (n := 4) (by decide) ?_ ?_ a
  · intro F b i hi
    show s_X7_mixedWallet_L71 st h (F + 1) X (nI w) b (nI i) = _
    rw [s_X7_mixedWallet_L71, if_neg (show ¬ (4 : Int32) ≤ nI i from nI_ge (b := 4) hi (by decide))]
    refine loopF (L := fun G a p => s_X7_mixedWallet_L80 st (s_X7_mixedWallet_L71 st h F) h G X (nI w) a (nI i) p) (n := 7) (step := fun a p => mx a (aWeek k w i p).toInt64) (out := fun a => s_X7_mixedWallet_L71 st h F X (nI w) a (nI (i + 1))) (by decide) ?_ ?_ b
    · intro G c p hp
      show s_X7_mixedWallet_L80 st (s_X7_mixedWallet_L71 st h F) h (G + 1) X (nI w) c (nI i) (nI p) = _
      rw [s_X7_mixedWallet_L80, if_neg (show ¬ (7 : Int32) ≤ nI p from nI_ge (b := 7) hp (by decide)), is_O A.1, bS, weekNumber_W A hw hi hp, bS, mixed_mx, bS, nI_1]
    · intro G c
      show s_X7_mixedWallet_L80 st (s_X7_mixedWallet_L71 st h F) h (G + 1) X (nI w) c (nI i) (nI 7) = _
      rw [s_X7_mixedWallet_L80, if_pos (show (7 : Int32) ≤ nI 7 by decide), nI_1]
  · intro F b
    show s_X7_mixedWallet_L71 st h (F + 1) X (nI w) b (nI 4) = _
    rw [s_X7_mixedWallet_L71, if_pos (show (4 : Int32) ≤ nI 4 by decide)]
    exact mw119 A hw b
theorem mixedWallet_W (A : isW h X k sz sv bl bf) (T : isTh h (st.2 3) hd) {w : Nat} (hw : w < 4) (a : Int64) : s_X7_mixedWallet st h X a (nI w) = some (hLed k w (hWk k w (hDy k hd w a))) := by
  obtain ⟨⟨f, T1, T2⟩, T3⟩ := T
  rw [s_X7_mixedWallet, ilen_T T1, bS]
  refine loopF (L := fun F a i => s_X7_mixedWallet_L16 st h F X (nI w) a (st.2 3) (nI 4) i) (out := fun a => some (hLed k w (hWk k w a))) (step := fun a i => foldG (fun a p => mx a (aDay k w (hd i) p).toInt64) 4 a) (n := 4) (by decide) ?_ ?_ a
  · intro F b i hi
    show s_X7_mixedWallet_L16 st h (F + 1) X (nI w) b (st.2 3) (nI 4) (nI i) = _
    rw [s_X7_mixedWallet_L16, if_neg (show ¬ nI 4 ≤ nI i from nI_ge hi (by decide)), iald_T T1 hi (by decide), bS, T2 i hi]
    refine loopF (L := fun G a p => s_X7_mixedWallet_L33 st (s_X7_mixedWallet_L16 st h F) h G X (nI w) a (st.2 3) (nI 4) (nI i) (nI (hd i)) p) (n := 4) (step := fun a p => mx a (aDay k w (hd i) p).toInt64) (out := fun a => s_X7_mixedWallet_L16 st h F X (nI w) a (st.2 3) (nI 4) (nI (i + 1))) (by decide) ?_ ?_ b
    · intro G c p hp
      show s_X7_mixedWallet_L33 st (s_X7_mixedWallet_L16 st h F) h (G + 1) X (nI w) c (st.2 3) (nI 4) (nI i) (nI (hd i)) (nI p) = _
      rw [s_X7_mixedWallet_L33, if_neg (show ¬ (4 : Int32) ≤ nI p from nI_ge (b := 4) hp (by decide)), is_O A.1, bS, dayNumber_W A hw (T3 i hi) hp, bS, mixed_mx, bS, nI_1]
    · intro G c
      show s_X7_mixedWallet_L33 st (s_X7_mixedWallet_L16 st h F) h (G + 1) X (nI w) c (st.2 3) (nI 4) (nI i) (nI (hd i)) (nI 4) = _
      rw [s_X7_mixedWallet_L33, if_pos (show (4 : Int32) ≤ nI 4 by decide), nI_1]
  · intro F b
    show s_X7_mixedWallet_L16 st h (F + 1) X (nI w) b (st.2 3) (nI 4) (nI 4) = _
    rw [s_X7_mixedWallet_L16, if_pos (show nI 4 ≤ nI 4 by decide)]
    exact mw71 A hw b
noncomputable def hD1 (k : mK) (sz : Nat) : Int64 := foldG (fun a p => mx a (aCount k sz p).toInt64) 10 3023
noncomputable def hD2 (k : mK) (sz : Nat) : Int64 := foldG (fun a j => mx a (kset k j).toInt64) 6 (hD1 k sz)
noncomputable def hD3 (k : mK) (sz : Nat) : Int64 := foldG (fun a i => foldG (fun a p => mx a (aTap k i p).toInt64) 8 a) (kn k) (hD2 k sz)
noncomputable def hD4 (k : mK) (sz : Nat) (hd : Nat → Nat) : Int64 := foldG (fun a w => hLed k w (hWk k w (hDy k hd w a))) 4 (hD3 k sz)
noncomputable def aDig5 (k : mK) (sz : Nat) (hd : Nat → Nat) : Int64 := foldG (fun a w => mx a (aRaised k (mkT w 6 500 4 1 0)).toInt64) 4 (hD4 k sz hd)
noncomputable def aDig (k : mK) (sz bl : Nat) (bf : Nat → Int32) (hd : Nat → Nat) (y : Int64) : Int64 :=
  foldG (fun a j => mx a (bf j).toInt64) bl (mx (mx (mx (mx (aDig5 k sz hd) (aLeak k 10).2.toInt64) (kleast k).toInt64) y) (nI bl).toInt64)
theorem dg116 (hn : kn k ≤ 60) (hv : vTs (kn k) (ktp k)) (hb : bl ≤ 60) {x : UInt64} {y : Int64} (hs : (if aFares k ≤ 0 then some FP.dconst1 else m_d (FP.ddiv (FP.i2d (sumF (kwj k) 16)) (FP.i2d (aFares k)))) = some x) (hy : ∀ h, s_X7_bitsOfShare h x = some y) (a : Int64) : ∀ (d i F : Nat) (h : mH), isW h X k sz sv bl bf → i + d = 4 → d < F →
    ∃ h', s_X7_digest_L116 st F h X (foldG (fun a w => mx a (aRaised k (mkT w 6 500 4 1 0)).toInt64) i a) (nI i) = some (foldG (fun a j => mx a (bf j).toInt64) bl (mx (mx (mx (mx (foldG (fun a w => mx a (aRaised k (mkT w 6 500 4 1 0)).toInt64) 4 a) (aLeak k 10).2.toInt64) (kleast k).toInt64) y) (nI bl).toInt64), h') ∧ isW h' X k sz sv bl bf ∧ fr h h' X (X + 87) := by
  intro d
  induction d with
  | zero =>
    intro i F h A hi hF
    obtain ⟨F, rfl⟩ : ∃ F', F = F' + 1 := ⟨F - 1, by omega⟩
    obtain rfl : i = 4 := by omega
    refine ⟨h, ?_, A, fr.rf⟩
    have cs := (capShare_W A).trans hs
    rw [s_X7_digest_L116, if_pos (show (4 : Int32) ≤ nI 4 by decide), is_O A.1, bS, leaky_W A, bS, mixed_mx, bS, bS, leastCap_W A, bS, mixed_mx, bS, bS, cs, bS, hy, bS, mixed_mx, bS, gi_O A.1 (k := 6) rfl, bS, mixed_mx, bS, gr_O A.1 (k := 5) rfl, bS, bS, mixedAll_A A.2.2.2.2.2.2.1 hb (by decide), bS]
  | succ d ih =>
    intro i F h A hi hF
    obtain ⟨F, rfl⟩ : ∃ F', F = F' + 1 := ⟨F - 1, by omega⟩
    have vt : vT (mkT i 6 500 4 1 0) := ⟨show i < 4 by omega, show 6 < 28 by decide, show 500 < 1440 by decide, show 4 < 10 by decide, show 1 < 2 by decide, show 0 < 2 by decide⟩
    obtain ⟨h1, e1, e2, e3⟩ := raised_W A hn hv vt
    obtain ⟨h2, f1, f2, f3⟩ := ih (i + 1) F h1 e2 (by omega) (by omega)
    refine ⟨h2, ?_, f2, (e3.wd (by omega) (by omega)).tr f3⟩
    rw [s_X7_digest_L116, if_neg (show ¬ (4 : Int32) ≤ nI i from nI_ge (b := 4) (by omega) (by decide)), show s_X4_make h (nI i) 6 500 4 1 = some (pk (mkT i 6 500 4 1 0)) from make_pk vt, bS, is_O A.1, bS, e1, bS]
    show ((s_X7_mixed h1 _ _).bind fun x138 => _) = _
    rw [mixed_mx, bS, nI_1]
    exact f1
theorem digest_W (A : isW h X k sz sv bl bf) (T : isTh h (st.2 3) hd) (hn : kn k ≤ 60) (hv : vTs (kn k) (ktp k)) (hb : bl ≤ 60) {x : UInt64} {y : Int64} (hs : (if aFares k ≤ 0 then some FP.dconst1 else m_d (FP.ddiv (FP.i2d (sumF (kwj k) 16)) (FP.i2d (aFares k)))) = some x) (hy : ∀ h, s_X7_bitsOfShare h x = some y) :
    ∃ h', s_X7_digest st h X = some (aDig k sz bl bf hd y, h') ∧ isW h' X k sz sv bl bf ∧ fr h h' X (X + 87) := by
  obtain ⟨c0, c1, c2, -⟩ := id A.2.1
  obtain ⟨h', e1, e2, e3⟩ := dg116 (st := st) (X := X) (sv := sv) hn hv hb hs hy (hD4 k sz hd) 4 0 m_F h A (by decide) (by unfold m_F; decide)
  refine ⟨h', ?_, e2, e3⟩
  have l116 : s_X7_digest_L116 st m_F h X (hD4 k sz hd) (nI 0) = some (aDig k sz bl bf hd y, h') := by
    rw [foldG_0] at e1
    rw [aDig, aDig5]
    exact e1
  have l96 : s_X7_digest_L96 st m_F h X (hD3 k sz) (nI 0) = some (aDig k sz bl bf hd y, h') := by
    refine (loopF (L := fun F a i => s_X7_digest_L96 st F h X a i) (n := 4) (step := fun a w => hLed k w (hWk k w (hDy k hd w a))) (out := fun a => s_X7_digest_L116 st m_F h X a (nI 0)) (by decide) ?_ ?_ (hD3 k sz)).trans l116
    · intro F b i hi
      show s_X7_digest_L96 st (F + 1) h X b (nI i) = _
      rw [s_X7_digest_L96, if_neg (show ¬ (4 : Int32) ≤ nI i from nI_ge (b := 4) hi (by decide)), is_O A.1, bS, mixedWallet_W A T hi, bS, nI_1]
    · intro F b
      show s_X7_digest_L96 st (F + 1) h X b (nI 4) = _
      rw [s_X7_digest_L96, if_pos (show (4 : Int32) ≤ nI 4 by decide)]
      rfl
  have l45 : s_X7_digest_L45 st m_F h X (hD2 k sz) (nI 0) = some (aDig k sz bl bf hd y, h') := by
    refine (loopF (L := fun F a i => s_X7_digest_L45 st F h X a i) (n := kn k) (step := fun a i => foldG (fun a p => mx a (aTap k i p).toInt64) 8 a) (out := fun a => s_X7_digest_L96 st m_F h X a (nI 0)) (by omega) ?_ ?_ (hD2 k sz)).trans l96
    · intro F b i hi
      show s_X7_digest_L45 st (F + 1) h X b (nI i) = _
      rw [s_X7_digest_L45, gr_O A.1 (k := 0) rfl, bS, gr_O c0 (k := 0) rfl, bS, size_R c1, bS, if_neg (nI_ge hi (by omega))]
      refine loopF (L := fun G a p => s_X7_digest_L62 st (s_X7_digest_L45 st F) G h X a (nI i) p) (n := 8) (step := fun a p => mx a (aTap k i p).toInt64) (out := fun a => s_X7_digest_L45 st F h X a (nI (i + 1))) (by decide) ?_ ?_ b
      · intro G c p hp
        show s_X7_digest_L62 st (s_X7_digest_L45 st F) (G + 1) h X c (nI i) (nI p) = _
        rw [s_X7_digest_L62, if_neg (show ¬ (8 : Int32) ≤ nI p from nI_ge (b := 8) hp (by decide)), is_O A.1, bS, tapProperty_W A hn hv hi hp, bS, mixed_mx, bS, nI_1]
      · intro G c
        show s_X7_digest_L62 st (s_X7_digest_L45 st F) (G + 1) h X c (nI i) (nI 8) = _
        rw [s_X7_digest_L62, if_pos (show (8 : Int32) ≤ nI 8 by decide), nI_1]
    · intro F b
      show s_X7_digest_L45 st (F + 1) h X b (nI (kn k)) = _
      rw [s_X7_digest_L45, gr_O A.1 (k := 0) rfl, bS, gr_O c0 (k := 0) rfl, bS, size_R c1, bS, if_pos (nI_le (Nat.le_refl _) (by omega))]
      rfl
  refine (loopF (L := fun F a i => s_X7_digest_L6 st F h X a i) (n := 10) (step := fun a p => mx a (aCount k sz p).toInt64) (out := fun a => s_X7_digest_L45 st m_F h X (foldG (fun a j => mx a (kset k j).toInt64) 6 a) (nI 0)) (by decide) ?_ ?_ 3023).trans l45
  · intro F b i hi
    show s_X7_digest_L6 st (F + 1) h X b (nI i) = _
    rw [s_X7_digest_L6, if_neg (show ¬ (10 : Int32) ≤ nI i from nI_ge (b := 10) hi (by decide)), is_O A.1, bS, countNumber_W A hi, bS, mixed_mx, bS, nI_1]
  · intro F b
    show s_X7_digest_L6 st (F + 1) h X b (nI 10) = _
    rw [s_X7_digest_L6, if_pos (show (10 : Int32) ≤ nI 10 by decide), gr_O A.1 (k := 0) rfl, bS, gr_O c0 (k := 1) rfl, bS, show (6 : Int32) = nI 6 from rfl, mixedAll_A c2 (Nat.le_refl 6) (by decide), bS]
    rfl
end PDg
