/-! PURE: numbers of the rides -/
section PL
def foldI (f : Int32 → Nat → Int32) : Nat → Int32 → Int32
  | 0, a => a
  | n + 1, a => f (foldI f n a) n
theorem foldI_sum (g : Nat → Int32) : ∀ n, foldI (fun a j => a + g j) n 0 = sumF g n
  | 0 => rfl
  | n + 1 => by
    show foldI _ n 0 + g n = sumF g n + g n
    rw [foldI_sum g n]
theorem foldI_ext {f f' : Int32 → Nat → Int32} : ∀ {n : Nat} {a : Int32}, (∀ a j, j < n → f a j = f' a j) → foldI f n a = foldI f' n a
  | 0, _, _ => rfl
  | n + 1, a, h => by
    show f (foldI f n a) n = f' (foldI f' n a) n
    rw [foldI_ext (fun a j hj => h a j (by omega)), h _ n (by omega)]
theorem mF5 : ∃ F, m_F = F + 5 := ⟨3995, rfl⟩
/-- four times four turns -/
theorem nest44 {α : Type} (X : Nat) (I : (Nat → Int32 → Int32 → Option α) → Nat → Nat → Int32 → Int32 → Int32 → Option α) (O : Nat → Nat → Int32 → Int32 → Option α) (step : Int32 → Nat → Int32) (out : Int32 → Option α)
    (hI : ∀ k F a w j, w < 4 → j < 4 → I k (F + 1) X a (nI w) (nI j) = I k F X (step a (4 * w + j)) (nI w) (nI (j + 1))) (hI4 : ∀ k F a w, w < 4 → I k (F + 1) X a (nI w) (nI 4) = k X a (nI (w + 1)))
    (hO : ∀ F a w, w < 4 → O (F + 1) X a (nI w) = I (O F) m_F X a (nI w) (nI 0)) (hO4 : ∀ F a, O (F + 1) X a (nI 4) = out a) (a : Int32) : O m_F X a (nI 0) = out (foldI step 16 a) := by
  have inner : ∀ (k : Nat → Int32 → Int32 → Option α) (a : Int32) (w : Nat), w < 4 → I k m_F X a (nI w) (nI 0) = k X (step (step (step (step a (4 * w)) (4 * w + 1)) (4 * w + 2)) (4 * w + 3)) (nI (w + 1)) := by
    intro k a w hw
    obtain ⟨F, hF⟩ := mF5
    rw [hF, hI k _ a w 0 hw (by decide), hI k _ _ w 1 hw (by decide), hI k _ _ w 2 hw (by decide), hI k _ _ w 3 hw (by decide), hI4 k _ _ w hw]
    rfl
  obtain ⟨F, hF⟩ := mF5
  have g : ∀ x, O (F + 5) X x (nI 0) = out (foldI step 16 x) := by
    intro x
    rw [hO _ x 0 (by decide), inner _ _ 0 (by decide), hO _ _ 1 (by decide), inner _ _ 1 (by decide), hO _ _ 2 (by decide), inner _ _ 2 (by decide), hO _ _ 3 (by decide), inner _ _ 3 (by decide), hO4]
    rfl
  rw [hF]
  exact g a
noncomputable def dcost (n : Nat) (set : Nat → Int32) (tp : Nat → Nat → Nat) (w d : Nat) : Int32 := if set 4 < dF n set tp (w * 28 + d) then set 4 else dF n set tp (w * 28 + d)
noncomputable def wdays (n : Nat) (set : Nat → Int32) (tp : Nat → Nat → Nat) (w k : Nat) : Int32 := sumF (fun i => dcost n set tp w (k * 7 + i)) 7
noncomputable def wcost (n : Nat) (set : Nat → Int32) (tp : Nat → Nat → Nat) (w k : Nat) : Int32 := if set 5 < wdays n set tp w k then set 5 else wdays n set tp w k
def wsum (f : Nat → Int32) (w k : Nat) : Int32 := sumF (fun i => f (w * 28 + (k * 7 + i))) 7
theorem cel_nI (w d : Nat) : nI w * 28 + nI d = nI (w * 28 + d) := by rw [show (28 : Int32) = nI 28 from rfl, nI_mul, nI_add]
theorem dayCell_nI {h : mH} (w d : Nat) : s_X7_dayCell h (nI w) (nI d) = some (nI (w * 28 + d)) := by rw [s_X7_dayCell, cel_nI]
theorem weekCell_nI {h : mH} (w d : Nat) : s_X7_weekCell h (nI w) (nI d) = some (nI (w * 4 + d)) := by rw [s_X7_weekCell, show (4 : Int32) = nI 4 from rfl, nI_mul, nI_add]
theorem dayCost_R {h : mH} {g n w d : Nat} {set : Nat → Int32} {tp : Nat → Nat → Nat} (A : isRd h g n set tp) (hw : w < 4) (hd : d < 28) : s_X0_dayCost h g (nI w) (nI d) = some (dcost n set tp w d) := by
  obtain ⟨a0, -, -, -, -, a5, -⟩ := A
  rw [s_X0_dayCost, gr_O a0 (k := 4) rfl, bS, dayCell_nI, bS, at_A a5 (show w * 28 + d < 112 by omega) (by decide), bS, gi_O a0 (k := 7) rfl, bS]
  rfl
theorem weekDays_L {h : mH} {g n w k : Nat} {set : Nat → Int32} {tp : Nat → Nat → Nat} (A : isRd h g n set tp) (hw : w < 4) (hk : k < 4) : ∀ (d i F : Nat), i + d = 7 → d < F → s_X0_weekDaysCost_L5 h F g (nI w) (nI k) (sumF (fun i => dcost n set tp w (k * 7 + i)) i) (nI i) = some (wdays n set tp w k) := by
  intro d
  induction d with
  | zero =>
    intro i F hi hF
    obtain ⟨F, rfl⟩ : ∃ F', F = F' + 1 := ⟨F - 1, by omega⟩
    obtain rfl : i = 7 := by omega
    rw [s_X0_weekDaysCost_L5, if_pos (show (7 : Int32) ≤ nI 7 by decide)]
    rfl
  | succ d ih =>
    intro i F hi hF
    obtain ⟨F, rfl⟩ : ∃ F', F = F' + 1 := ⟨F - 1, by omega⟩
    have c7 : ¬ (7 : Int32) ≤ nI i := nI_ge (b := 7) (by omega) (by decide)
    rw [s_X0_weekDaysCost_L5, if_neg c7, is_O A.1, bS, show nI k * 7 + nI i = nI (k * 7 + i) by rw [show (7 : Int32) = nI 7 from rfl, nI_mul, nI_add], dayCost_R A hw (by omega), bS, nI_1]
    exact ih (i + 1) F (by omega) (by omega)
theorem weekDays_R {h : mH} {g n w k : Nat} {set : Nat → Int32} {tp : Nat → Nat → Nat} (A : isRd h g n set tp) (hw : w < 4) (hk : k < 4) : s_X0_weekDaysCost h g (nI w) (nI k) = some (wdays n set tp w k) := weekDays_L A hw hk 7 0 m_F (by decide) (by unfold m_F; decide)
theorem weekCost_R {h : mH} {g n w k : Nat} {set : Nat → Int32} {tp : Nat → Nat → Nat} (A : isRd h g n set tp) (hw : w < 4) (hk : k < 4) : s_X0_weekCost h g (nI w) (nI k) = some (wcost n set tp w k) := by
  rw [s_X0_weekCost, is_O A.1, bS, weekDays_R A hw hk, bS, gi_O A.1 (k := 8) rfl, bS]
  rfl
theorem weekSum_L {h : mH} {a w k : Nat} {f : Nat → Int32} (A : isA h a 112 f) (hw : w < 4) (hk : k < 4) : ∀ (d i F : Nat), i + d = 7 → d < F → s_X0_weekSum_L5 h F a (nI w) (nI k) (sumF (fun i => f (w * 28 + (k * 7 + i))) i) (nI i) = some (wsum f w k) := by
  intro d
  induction d with
  | zero =>
    intro i F hi hF
    obtain ⟨F, rfl⟩ : ∃ F', F = F' + 1 := ⟨F - 1, by omega⟩
    obtain rfl : i = 7 := by omega
    rw [s_X0_weekSum_L5, if_pos (show (7 : Int32) ≤ nI 7 by decide)]
    rfl
  | succ d ih =>
    intro i F hi hF
    obtain ⟨F, rfl⟩ : ∃ F', F = F' + 1 := ⟨F - 1, by omega⟩
    have c7 : ¬ (7 : Int32) ≤ nI i := nI_ge (b := 7) (by omega) (by decide)
    rw [s_X0_weekSum_L5, if_neg c7, show nI k * 7 + nI i = nI (k * 7 + i) by rw [show (7 : Int32) = nI 7 from rfl, nI_mul, nI_add], dayCell_nI, bS, at_A A (show w * 28 + (k * 7 + i) < 112 by omega) (by decide), bS, nI_1]
    exact ih (i + 1) F (by omega) (by omega)
theorem weekSum_R {h : mH} {a w k : Nat} {f : Nat → Int32} (A : isA h a 112 f) (hw : w < 4) (hk : k < 4) : s_X0_weekSum h a (nI w) (nI k) = some (wsum f w k) := weekSum_L A hw hk 7 0 m_F (by decide) (by unfold m_F; decide)
/-! the whole object -/
def xO (X bl : Nat) : mE := mO 5 [.ref (X + 1), .ref (X + 10), .ref (X + 18), .ref (X + 74), .ref (X + 76), .ref (X + 84), .int (nI bl), .ref (X + 85)]
def isRR (h : mH) (g : Nat) : Prop := (∃ a b c d e f i : Int32, h g = some (mO 4 [.ref (g + 1), .int a, .int b, .int c, .int d, .int e, .int f, .int i])) ∧ ∃ f, isA h (g + 1) 10 f
def isW (h : mH) (X : Nat) (k : mK) (sz : Nat) (sv : Nat → mK) (bl : Nat) (bf : Nat → Int32) : Prop := h X = some (xO X bl) ∧ isC h (X + 1) k ∧ isRd h (X + 10) (kn k) (kset k) (ktp k) ∧ isV h (X + 18) sz sv ∧ (∃ n tp, isTR h (X + 74) n tp) ∧ isRG h (X + 76) ∧ isA h (X + 84) 60 bf ∧ isRR h (X + 85)
noncomputable def kw (k : mK) (w j : Nat) : Int32 := wcost (kn k) (kset k) (ktp k) w j
noncomputable def kwj (k : mK) (j : Nat) : Int32 := kw k (j / 4) (j % 4)
theorem costOfAll_W {h : mH} {X sz bl : Nat} {k : mK} {sv : Nat → mK} {bf : Nat → Int32} (A : isW h X k sz sv bl bf) : s_X7_costOfAll h X = some (sumF (kwj k) 16) := by
  obtain ⟨a0, a1, a2, -⟩ := A
  rw [← foldI_sum]
  refine nest44 X (fun k F => s_X7_costOfAll_L11 k h F) (s_X7_costOfAll_L4 h) _ some ?_ ?_ ?_ ?_ 0
  · intro c F a w j hw hj
    have c4 : ¬ (4 : Int32) ≤ nI j := nI_ge (b := 4) hj (by decide)
    show s_X7_costOfAll_L11 _ h (F + 1) X a (nI w) (nI j) = s_X7_costOfAll_L11 _ h F X (a + kw k ((4 * w + j) / 4) ((4 * w + j) % 4)) _ _
    rw [s_X7_costOfAll_L11, if_neg c4, gr_O a0 (k := 1) rfl, bS, is_O a2.1, bS, weekCost_R a2 hw hj, bS, nI_1, show (4 * w + j) / 4 = w by omega, show (4 * w + j) % 4 = j by omega]
    rfl
  · intro c F a w hw
    show s_X7_costOfAll_L11 _ h (F + 1) X a (nI w) (nI 4) = _
    rw [s_X7_costOfAll_L11, if_pos (show (4 : Int32) ≤ nI 4 by decide), nI_1]
  · intro F a w hw
    have c4 : ¬ (4 : Int32) ≤ nI w := nI_ge (b := 4) hw (by decide)
    rw [s_X7_costOfAll_L4, if_neg c4]
    rfl
  · intro F a
    rw [s_X7_costOfAll_L4, if_pos (show (4 : Int32) ≤ nI 4 by decide)]
noncomputable def kuns (k : mK) (j : Nat) : Int32 := if ¬ kstl k j ≤ 0 ∧ ¬ kchg k j = kwj k j then 1 else 0
theorem unsettled_W {h : mH} {X sz bl : Nat} {k : mK} {sv : Nat → mK} {bf : Nat → Int32} (A : isW h X k sz sv bl bf) : s_X7_weeksToSettleAnew h X = some (sumF (kuns k) 16) := by
  obtain ⟨a0, a1, a2, -⟩ := A
  obtain ⟨c0, -, -, c3, -, c5, -⟩ := a1
  rw [← foldI_sum]
  refine nest44 X (fun k F => s_X7_weeksToSettleAnew_L11 k h F) (s_X7_weeksToSettleAnew_L4 h) _ some ?_ ?_ ?_ ?_ 0
  · intro c F a w j hw hj
    have c4 : ¬ (4 : Int32) ≤ nI j := nI_ge (b := 4) hj (by decide)
    have ej : kwj k (w * 4 + j) = kw k w j := by
      show kw k ((w * 4 + j) / 4) ((w * 4 + j) % 4) = _
      rw [show (w * 4 + j) / 4 = w by omega, show (w * 4 + j) % 4 = j by omega]
    show s_X7_weeksToSettleAnew_L11 _ h (F + 1) X a (nI w) (nI j) = s_X7_weeksToSettleAnew_L11 _ h F X (a + kuns k (4 * w + j)) _ _
    rw [show 4 * w + j = w * 4 + j by omega, s_X7_weeksToSettleAnew_L11, if_neg c4, weekCell_nI, bS, gr_O a0 (k := 0) rfl, bS, gr_O c0 (k := 4) rfl, bS, at_A c5 (show w * 4 + j < 16 by omega) (by decide), bS]
    by_cases x1 : kstl k (w * 4 + j) ≤ 0
    · have : kuns k (w * 4 + j) = 0 := if_neg fun z => z.1 x1
      rw [if_pos x1, this, Int32.add_zero, s_X7_weeksToSettleAnew_b43, if_pos rfl, s_X7_weeksToSettleAnew_b77, nI_1]
    · rw [if_neg x1, s_X7_weeksToSettleAnew_b43, if_neg (show ¬ (1 : Int32) = 0 by decide), gr_O a0 (k := 0) rfl, bS, gr_O c0 (k := 2) rfl, bS, at_A c3 (show w * 4 + j < 16 by omega) (by decide), bS, gr_O a0 (k := 1) rfl, bS, is_O a2.1, bS, weekCost_R a2 hw hj, bS]
      by_cases x2 : kchg k (w * 4 + j) = kwj k (w * 4 + j)
      · have : kuns k (w * 4 + j) = 0 := if_neg fun z => z.2 x2
        rw [ej, kw] at x2
        rw [if_pos x2, this, Int32.add_zero, s_X7_weeksToSettleAnew_b77, nI_1]
      · have : kuns k (w * 4 + j) = 1 := if_pos ⟨x1, x2⟩
        rw [ej, kw] at x2
        rw [if_neg x2, this, s_X7_weeksToSettleAnew_b77, nI_1]
  · intro c F a w hw
    show s_X7_weeksToSettleAnew_L11 _ h (F + 1) X a (nI w) (nI 4) = _
    rw [s_X7_weeksToSettleAnew_L11, if_pos (show (4 : Int32) ≤ nI 4 by decide), nI_1]
  · intro F a w hw
    have c4 : ¬ (4 : Int32) ≤ nI w := nI_ge (b := 4) hw (by decide)
    rw [s_X7_weeksToSettleAnew_L4, if_neg c4]
    rfl
  · intro F a
    rw [s_X7_weeksToSettleAnew_L4, if_pos (show (4 : Int32) ≤ nI 4 by decide)]
noncomputable def kleast (k : mK) : Int32 := foldI (fun a j => if a < kwj k j then kwj k j else a) 16 0
end PL
