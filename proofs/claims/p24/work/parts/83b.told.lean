/-! PURE: what the law tells of an object -/
section TB
theorem okS {α : Type} {v : α} {h : mH} : m_ok (some (Sum.inr v, h)) = some (v, h) := rfl
def fL (g : Nat → Int32) : Nat → Int64 → Int64
  | 0, a => a
  | n + 1, a => 31 * fL g n a + (g n).toInt64
theorem fL_0 {g : Nat → Int32} {a : Int64} : fL g 0 a = a := rfl
noncomputable def toldA (k : mK) : Int64 := fL (aCount k 0) 9 3
noncomputable def toldB (k : mK) : Nat → Int64
  | 0 => toldA k
  | i + 1 => fL (aTap k i) 8 (toldB k i)
noncomputable def toldC (k : mK) : Nat → Int64
  | 0 => toldB k (kn k)
  | j + 1 => 31 * fL (fun p => aWeek k (j / 4) (j % 4) (3 + p)) 4 (toldC k j) + (aLedger k (j / 4) (j % 4) 1).toInt64
noncomputable def toldK (k : mK) : Int64 := toldC k 16
variable {h : mH} {X sz bl : Nat} {k : mK} {sv : Nat → mK} {bf : Nat → Int32}
theorem okCount (A : isW h X k sz sv bl bf) {p : Nat} (hp : p < 10) : m_ok (s_X7_count h X (nI p)) = some (aCount k sz p, h) := by rw [count_W A hp, okS]
theorem okTap (A : isW h X k sz sv bl bf) (hn : kn k ≤ 60) (hv : vTs (kn k) (ktp k)) {i p : Nat} (hi : i < kn k) (hp : p < 8) : m_ok (s_X7_tapOf h X (nI i) (nI p)) = some (aTap k i p, h) := by rw [tapOf_W A hn hv hi hp, okS]
theorem okWeek (A : isW h X k sz sv bl bf) {w d p : Nat} (hw : w < 4) (hd : d < 4) (hp : p < 7) : m_ok (s_X7_week h X (nI w) (nI d) (nI p)) = some (aWeek k w d p, h) := by rw [week_W A hw hd hp, okS]
theorem okDay (A : isW h X k sz sv bl bf) {w d p : Nat} (hw : w < 4) (hd : d < 28) (hp : p < 4) : m_ok (s_X7_day h X (nI w) (nI d) (nI p)) = some (aDay k w d p, h) := by rw [day_W A hw hd hp, okS]
theorem okLedger (A : isW h X k sz sv bl bf) {w d p : Nat} (hw : w < 4) (hd : d < 8) (hp : p < 2) : m_ok (s_X7_ledger h X (nI w) (nI d) (nI p)) = some (aLedger k w d p, h) := by rw [ledger_W A hw hd hp, okS]
theorem count_sz {p : Nat} (hp : p < 9) : aCount k sz p = aCount k 0 p := by
  match p, hp with
  | 0, _ => rfl
  | 1, _ => rfl
  | 2, _ => rfl
  | 3, _ => rfl
  | 4, _ => rfl
  | 5, _ => rfl
  | 6, _ => rfl
  | 7, _ => rfl
  | 8, _ => rfl
theorem told_90 (A : isW h X k sz sv bl bf) {K : mH → Nat → Int64 → Int32 → Option (Int64 × mH)} {a : Int64} {j : Nat} (hj : j < 16) : ∀ (d p F : Nat), p + d = 4 → d < F → s_L_told_L90 K F h X (fL (fun p => aWeek k (j / 4) (j % 4) (3 + p)) p a) (nI j) (nI (3 + p)) = K h X (31 * fL (fun p => aWeek k (j / 4) (j % 4) (3 + p)) 4 a + (aLedger k (j / 4) (j % 4) 1).toInt64) (nI (j + 1)) := by
  intro d
  induction d with
  | zero =>
    intro p F hp hF
    obtain ⟨F, rfl⟩ : ∃ F', F = F' + 1 := ⟨F - 1, by omega⟩
    obtain rfl : p = 4 := by omega
    rw [s_L_told_L90, if_pos (show (7 : Int32) ≤ nI (3 + 4) by decide), show (4 : Int32) = nI 4 from rfl, m_div_nI (by omega) (by decide) (by decide), bS, m_rem_nI (by omega) (by decide) (by decide), bS, is_O A.1, bS, show (1 : Int32) = nI 1 from rfl, okLedger A (show j / 4 < 4 by omega) (show j % 4 < 8 by omega) (show 1 < 2 by decide), bS]
    show K h X _ (nI j + nI 1) = _
    rw [nI_add]
  | succ d ih =>
    intro p F hp hF
    obtain ⟨F, rfl⟩ : ∃ F', F = F' + 1 := ⟨F - 1, by omega⟩
    have c7 : ¬ (7 : Int32) ≤ nI (3 + p) := nI_ge (b := 7) (by omega) (by decide)
    have nx := ih (p + 1) F (by omega) (by omega)
    rw [s_L_told_L90, if_neg c7, show (4 : Int32) = nI 4 from rfl, m_div_nI (by omega) (by decide) (by decide), bS, m_rem_nI (by omega) (by decide) (by decide), bS, is_O A.1, bS, okWeek A (show j / 4 < 4 by omega) (show j % 4 < 4 by omega) (show 3 + p < 7 by omega), bS]
    show s_L_told_L90 K F h X _ (nI j) (nI (3 + p) + 1) = _
    rw [show nI (3 + p) + 1 = nI (3 + (p + 1)) from nI_1 _]
    exact nx
theorem told_81 (A : isW h X k sz sv bl bf) : ∀ (d j F : Nat), j + d = 16 → d < F → s_L_told_L81 F h X (toldC k j) (nI j) = some (toldC k 16, h) := by
  intro d
  induction d with
  | zero =>
    intro j F hj hF
    obtain ⟨F, rfl⟩ : ∃ F', F = F' + 1 := ⟨F - 1, by omega⟩
    obtain rfl : j = 16 := by omega
    rw [s_L_told_L81, if_pos (show (16 : Int32) ≤ nI 16 by decide)]
  | succ d ih =>
    intro j F hj hF
    obtain ⟨F, rfl⟩ : ∃ F', F = F' + 1 := ⟨F - 1, by omega⟩
    have c : ¬ (16 : Int32) ≤ nI j := nI_ge (b := 16) (by omega) (by decide)
    rw [s_L_told_L81, if_neg c]
    have r := told_90 A (K := s_L_told_L81 F) (a := toldC k j) (show j < 16 by omega) 4 0 m_F (by decide) (by unfold m_F; decide)
    rw [fL_0] at r
    exact r.trans (ih (j + 1) F (by omega) (by omega))
theorem told_45 (A : isW h X k sz sv bl bf) (hn : kn k ≤ 60) (hv : vTs (kn k) (ktp k)) {K : mH → Nat → Int64 → Int32 → Option (Int64 × mH)} {a : Int64} {i : Nat} (hi : i < kn k) : ∀ (d p F : Nat), p + d = 8 → d < F → s_L_told_L45 K F h X (fL (aTap k i) p a) (nI i) (nI p) = K h X (fL (aTap k i) 8 a) (nI (i + 1)) := by
  intro d
  induction d with
  | zero =>
    intro p F hp hF
    obtain ⟨F, rfl⟩ : ∃ F', F = F' + 1 := ⟨F - 1, by omega⟩
    obtain rfl : p = 8 := by omega
    rw [s_L_told_L45, if_pos (show (8 : Int32) ≤ nI 8 by decide), nI_1]
  | succ d ih =>
    intro p F hp hF
    obtain ⟨F, rfl⟩ : ∃ F', F = F' + 1 := ⟨F - 1, by omega⟩
    have c : ¬ (8 : Int32) ≤ nI p := nI_ge (b := 8) (by omega) (by decide)
    have nx := ih (p + 1) F (by omega) (by omega)
    rw [s_L_told_L45, if_neg c, is_O A.1, bS, okTap A hn hv hi (show p < 8 by omega), bS]
    show s_L_told_L45 K F h X _ (nI i) (nI p + 1) = _
    rw [nI_1]
    exact nx
theorem told_33 (A : isW h X k sz sv bl bf) (hn : kn k ≤ 60) (hv : vTs (kn k) (ktp k)) : ∀ (d i F : Nat), i + d = kn k → d < F → s_L_told_L33 F h X (toldB k i) (nI i) = some (toldK k, h) := by
  intro d
  induction d with
  | zero =>
    intro i F hi hF
    obtain ⟨F, rfl⟩ : ∃ F', F = F' + 1 := ⟨F - 1, by omega⟩
    obtain rfl : i = kn k := by omega
    rw [s_L_told_L33, is_O A.1, bS, show (0 : Int32) = nI 0 from rfl, okCount A (show 0 < 10 by decide), bS]
    show (if nI (kn k) ≤ nI (kn k) then s_L_told_L81 m_F h X (toldB k (kn k)) (nI 0) else _) = _
    rw [if_pos (Int32.le_refl _)]
    exact told_81 A 16 0 m_F (by decide) (by unfold m_F; decide)
  | succ d ih =>
    intro i F hi hF
    obtain ⟨F, rfl⟩ : ∃ F', F = F' + 1 := ⟨F - 1, by omega⟩
    rw [s_L_told_L33, is_O A.1, bS, show (0 : Int32) = nI 0 from rfl, okCount A (show 0 < 10 by decide), bS]
    show (if nI (kn k) ≤ nI i then _ else s_L_told_L45 (s_L_told_L33 F) m_F h X (toldB k i) (nI i) (nI 0)) = _
    rw [if_neg (nI_ge (show i < kn k by omega) (by omega))]
    have r := told_45 A hn hv (K := s_L_told_L33 F) (a := toldB k i) (show i < kn k by omega) 8 0 m_F (by decide) (by unfold m_F; decide)
    rw [fL_0] at r
    exact r.trans (ih (i + 1) F (by omega) (by omega))
theorem told_6 (A : isW h X k sz sv bl bf) (hn : kn k ≤ 60) (hv : vTs (kn k) (ktp k)) : ∀ (d p F : Nat), p + d = 9 → d < F → s_L_told_L6 F h X (fL (aCount k 0) p 3) (nI p) = some (toldK k, h) := by
  intro d
  induction d with
  | zero =>
    intro p F hp hF
    obtain ⟨F, rfl⟩ : ∃ F', F = F' + 1 := ⟨F - 1, by omega⟩
    obtain rfl : p = 9 := by omega
    rw [s_L_told_L6, if_pos (show (9 : Int32) ≤ nI 9 by decide)]
    exact told_33 A hn hv (kn k) 0 m_F (by omega) (by unfold m_F; omega)
  | succ d ih =>
    intro p F hp hF
    obtain ⟨F, rfl⟩ : ∃ F', F = F' + 1 := ⟨F - 1, by omega⟩
    have c : ¬ (9 : Int32) ≤ nI p := nI_ge (b := 9) (by omega) (by decide)
    have nx := ih (p + 1) F (by omega) (by omega)
    rw [s_L_told_L6, if_neg c, is_O A.1, bS, okCount A (show p < 10 by omega), bS]
    show s_L_told_L6 F h X (31 * fL (aCount k 0) p 3 + (aCount k sz p).toInt64) (nI p + 1) = _
    rw [nI_1, count_sz (show p < 9 by omega)]
    exact nx
theorem told_W (A : isW h X k sz sv bl bf) (hn : kn k ≤ 60) (hv : vTs (kn k) (ktp k)) : s_L_told h X = some (toldK k, h) := by
  have r := told_6 A hn hv 9 0 m_F (by decide) (by unfold m_F; decide)
  rw [fL_0] at r
  exact r
end TB
