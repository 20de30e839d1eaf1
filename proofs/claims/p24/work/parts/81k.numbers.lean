/-! PURE: the numbers that the class tells -/
section PN
theorem nIof {v : Int32} {b : Nat} (hb : b < 2 ^ 31) (h0 : ¬ v < 0) (h1 : ¬ nI b ≤ v) : ∃ n, n < b ∧ v = nI n := by
  have e0 : 0 ≤ v.toInt := by
    have : ¬ v.toInt < (0 : Int32).toInt := fun q => h0 ((Int32.lt_iff_toInt_lt (x := v) (y := 0)).mpr q)
    have z : (0 : Int32).toInt = 0 := rfl
    omega
  have e1 : v.toInt < b := by
    have : ¬ (nI b).toInt ≤ v.toInt := fun q => h1 ((Int32.le_iff_toInt_le (x := nI b) (y := v)).mpr q)
    rw [nI_toInt hb] at this
    omega
  refine ⟨v.toInt.toNat, by omega, ?_⟩
  apply Int32.toInt_inj.mp
  rw [nI_toInt (by omega)]
  omega
theorem below_no {h : mH} {v : Int32} {b : Nat} (hv : v < 0 ∨ nI b ≤ v) : s_X7_isBelow h v (nI b) = some 0 := by
  by_cases c0 : v < 0
  · rw [s_X7_isBelow, if_pos c0]; rfl
  · rw [s_X7_isBelow, if_neg c0, if_pos (hv.resolve_left c0)]; rfl
theorem below_yes {h : mH} {n b : Nat} (hn : n < b) (hb : b < 2 ^ 31) : s_X7_isBelow h (nI n) (nI b) = some 1 := by
  rw [s_X7_isBelow, if_neg (nI_pos (by omega)), if_neg (nI_ge hn hb)]; rfl
theorem below_c (v : Int32) (b : Nat) (hb : b < 2 ^ 31) : (∃ n, n < b ∧ v = nI n) ∨ (v < 0 ∨ nI b ≤ v) := by
  by_cases c0 : v < 0
  · exact Or.inr (Or.inl c0)
  · by_cases c1 : nI b ≤ v
    · exact Or.inr (Or.inr c1)
    · exact Or.inl (nIof hb c0 c1)
noncomputable def aDay (k : mK) (w d : Nat) : Nat → Int32
  | 0 => dR (kn k) (kset k) (ktp k) (w * 28 + d)
  | 1 => dA (kn k) (kset k) (ktp k) (w * 28 + d)
  | 2 => dF (kn k) (kset k) (ktp k) (w * 28 + d)
  | _ => dcost (kn k) (kset k) (ktp k) w d
noncomputable def aWeek (k : mK) (w j : Nat) : Nat → Int32
  | 0 => wsum (dR (kn k) (kset k) (ktp k)) w j
  | 1 => wsum (dF (kn k) (kset k) (ktp k)) w j
  | 2 => wdays (kn k) (kset k) (ktp k) w j
  | 3 => wcost (kn k) (kset k) (ktp k) w j
  | 4 => kchg k (w * 4 + j)
  | 5 => kclm k (w * 4 + j)
  | _ => kstl k (w * 4 + j)
noncomputable def aCount (k : mK) (sz : Nat) : Nat → Int32
  | 0 => nI (kn k)
  | 1 => sumF (dR (kn k) (kset k) (ktp k)) 112
  | 2 => sumF (dA (kn k) (kset k) (ktp k)) 112
  | 3 => sumF (kwj k) 16
  | 4 => sumF (kchg k) 16
  | 5 => krf k
  | 6 => krd k
  | 7 => krr k
  | 8 => sumF (kuns k) 16
  | _ => nI sz
def aLedger (k : mK) (w b : Nat) : Nat → Int32
  | 0 => cLW k (w * 8 + b)
  | _ => cLS k (w * 8 + b)
noncomputable def aTap (k : mK) (i : Nat) : Nat → Int32
  | 0 => nI (ktp k i 0)
  | 1 => nI (ktp k i 1)
  | 2 => nI (ktp k i 2)
  | 3 => nI (ktp k i 3)
  | 4 => nI (ktp k i 4)
  | 5 => mt (kn k) (kset k 3) (ktp k) i
  | 6 => fareOf (kset k) (ktp k) (mt (kn k) (kset k 3) (ktp k)) i
  | _ => nI (ktp k i 5)
theorem isW.fr {h h' : mH} {X sz bl lo hi : Nat} {k : mK} {sv : Nat → mK} {bf : Nat → Int32} (A : isW h X k sz sv bl bf) (F : fr h h' lo hi) (hq : X + 87 ≤ lo ∨ hi ≤ X) : isW h' X k sz sv bl bf := by
  obtain ⟨a0, a1, a2, a3, ⟨n, tp, a4⟩, a5, a6, ⟨a, b, c, d, e, f, i, a7⟩, g, a8⟩ := A
  exact ⟨F.O a0 (by omega), a1.fr F (by omega), a2.fr F (by omega), a3.fr F (by omega), ⟨n, tp, a4.fr F (by omega)⟩, a5.fr F (by omega), a6.fr F (by omega), ⟨a, b, c, d, e, f, i, F.O a7 (by omega)⟩, g, a8.fr F (by omega)⟩
variable {h : mH} {X sz bl : Nat} {k : mK} {sv : Nat → mK} {bf : Nat → Int32}
theorem dayNumber_W (A : isW h X k sz sv bl bf) {w d p : Nat} (hw : w < 4) (hd : d < 28) (hp : p < 4) : s_X7_dayNumber h X (nI w) (nI d) (nI p) = some (aDay k w d p) := by
  obtain ⟨a0, a1, a2, -⟩ := A
  obtain ⟨r0, -, -, r3, r4, r5, -⟩ := id a2
  have hc : w * 28 + d < 112 := by omega
  match p, hp with
  | 0, _ =>
    rw [s_X7_dayNumber, if_pos (show nI 0 = 0 from rfl), gr_O a0 (k := 1) rfl, bS, gr_O r0 (k := 2) rfl, bS, dayCell_nI, bS, at_A r3 hc (by decide)]; rfl
  | 1, _ =>
    rw [s_X7_dayNumber, if_neg (show ¬ nI 1 = 0 by decide), if_pos (show nI 1 = 1 from rfl), gr_O a0 (k := 1) rfl, bS, gr_O r0 (k := 3) rfl, bS, dayCell_nI, bS, at_A r4 hc (by decide)]; rfl
  | 2, _ =>
    rw [s_X7_dayNumber, if_neg (show ¬ nI 2 = 0 by decide), if_neg (show ¬ nI 2 = 1 by decide), if_pos (show nI 2 = 2 from rfl), gr_O a0 (k := 1) rfl, bS, gr_O r0 (k := 4) rfl, bS, dayCell_nI, bS, at_A r5 hc (by decide)]; rfl
  | 3, _ =>
    rw [s_X7_dayNumber, if_neg (show ¬ nI 3 = 0 by decide), if_neg (show ¬ nI 3 = 1 by decide), if_neg (show ¬ nI 3 = 2 by decide), gr_O a0 (k := 1) rfl, bS, is_O r0, bS, dayCost_R a2 hw hd]; rfl
theorem weekNumber_W (A : isW h X k sz sv bl bf) {w d p : Nat} (hw : w < 4) (hd : d < 4) (hp : p < 7) : s_X7_weekNumber h X (nI w) (nI d) (nI p) = some (aWeek k w d p) := by
  obtain ⟨a0, a1, a2, -⟩ := A
  obtain ⟨r0, -, -, r3, r4, r5, -⟩ := id a2
  obtain ⟨c0, -, -, c3, c4, c5, -⟩ := a1
  have hc : w * 4 + d < 16 := by omega
  match p, hp with
  | 0, _ =>
    rw [s_X7_weekNumber, if_pos (show nI 0 = 0 from rfl), gr_O a0 (k := 1) rfl, bS, gr_O r0 (k := 2) rfl, bS, weekSum_R r3 hw hd]; rfl
  | 1, _ =>
    rw [s_X7_weekNumber, if_neg (show ¬ nI 1 = 0 by decide), if_pos (show nI 1 = 1 from rfl), gr_O a0 (k := 1) rfl, bS, gr_O r0 (k := 4) rfl, bS, weekSum_R r5 hw hd]; rfl
  | 2, _ =>
    rw [s_X7_weekNumber, if_neg (show ¬ nI 2 = 0 by decide), if_neg (show ¬ nI 2 = 1 by decide), if_pos (show nI 2 = 2 from rfl), gr_O a0 (k := 1) rfl, bS, is_O r0, bS, weekDays_R a2 hw hd]; rfl
  | 3, _ =>
    rw [s_X7_weekNumber, if_neg (show ¬ nI 3 = 0 by decide), if_neg (show ¬ nI 3 = 1 by decide), if_neg (show ¬ nI 3 = 2 by decide), if_pos (show nI 3 = 3 from rfl), gr_O a0 (k := 1) rfl, bS, is_O r0, bS, weekCost_R a2 hw hd]; rfl
  | 4, _ =>
    rw [s_X7_weekNumber, if_neg (show ¬ nI 4 = 0 by decide), if_neg (show ¬ nI 4 = 1 by decide), if_neg (show ¬ nI 4 = 2 by decide), if_neg (show ¬ nI 4 = 3 by decide), if_pos (show nI 4 = 4 from rfl), gr_O a0 (k := 0) rfl, bS, gr_O c0 (k := 2) rfl, bS, weekCell_nI, bS, at_A c3 hc (by decide)]; rfl
  | 5, _ =>
    rw [s_X7_weekNumber, if_neg (show ¬ nI 5 = 0 by decide), if_neg (show ¬ nI 5 = 1 by decide), if_neg (show ¬ nI 5 = 2 by decide), if_neg (show ¬ nI 5 = 3 by decide), if_neg (show ¬ nI 5 = 4 by decide), if_pos (show nI 5 = 5 from rfl), gr_O a0 (k := 0) rfl, bS, gr_O c0 (k := 3) rfl, bS, weekCell_nI, bS, at_A c4 hc (by decide)]; rfl
  | 6, _ =>
    rw [s_X7_weekNumber, if_neg (show ¬ nI 6 = 0 by decide), if_neg (show ¬ nI 6 = 1 by decide), if_neg (show ¬ nI 6 = 2 by decide), if_neg (show ¬ nI 6 = 3 by decide), if_neg (show ¬ nI 6 = 4 by decide), if_neg (show ¬ nI 6 = 5 by decide), gr_O a0 (k := 0) rfl, bS, gr_O c0 (k := 4) rfl, bS, weekCell_nI, bS, at_A c5 hc (by decide)]; rfl
theorem countNumber_W (A : isW h X k sz sv bl bf) {p : Nat} (hp : p < 10) : s_X7_countNumber h X (nI p) = some (aCount k sz p) := by
  obtain ⟨a0, a1, a2, a3, -⟩ := id A
  obtain ⟨r0, -, -, r3, r4, r5, -⟩ := id a2
  obtain ⟨c0, c1, -, c3, c4, c5, -⟩ := a1
  obtain ⟨nx, rk, rf, v0, -⟩ := a3
  match p, hp with
  | 0, _ =>
    rw [s_X7_countNumber, if_pos (show nI 0 = 0 from rfl), gr_O a0 (k := 0) rfl, bS, gr_O c0 (k := 0) rfl, bS, size_R c1]; rfl
  | 1, _ =>
    rw [s_X7_countNumber, if_neg (show ¬ nI 1 = 0 by decide), if_pos (show nI 1 = 1 from rfl), gr_O a0 (k := 1) rfl, bS, gr_O r0 (k := 2) rfl, bS, sum_A r3 (by decide)]; rfl
  | 2, _ =>
    rw [s_X7_countNumber, if_neg (show ¬ nI 2 = 0 by decide), if_neg (show ¬ nI 2 = 1 by decide), if_pos (show nI 2 = 2 from rfl), gr_O a0 (k := 1) rfl, bS, gr_O r0 (k := 3) rfl, bS, sum_A r4 (by decide)]; rfl
  | 3, _ =>
    rw [s_X7_countNumber, if_neg (show ¬ nI 3 = 0 by decide), if_neg (show ¬ nI 3 = 1 by decide), if_neg (show ¬ nI 3 = 2 by decide), if_pos (show nI 3 = 3 from rfl), is_O a0, bS, costOfAll_W A]; rfl
  | 4, _ =>
    rw [s_X7_countNumber, if_neg (show ¬ nI 4 = 0 by decide), if_neg (show ¬ nI 4 = 1 by decide), if_neg (show ¬ nI 4 = 2 by decide), if_neg (show ¬ nI 4 = 3 by decide), if_pos (show nI 4 = 4 from rfl), gr_O a0 (k := 0) rfl, bS, gr_O c0 (k := 2) rfl, bS, sum_A c3 (by decide)]; rfl
  | 5, _ =>
    rw [s_X7_countNumber, if_neg (show ¬ nI 5 = 0 by decide), if_neg (show ¬ nI 5 = 1 by decide), if_neg (show ¬ nI 5 = 2 by decide), if_neg (show ¬ nI 5 = 3 by decide), if_neg (show ¬ nI 5 = 4 by decide), if_pos (show nI 5 = 5 from rfl), gr_O a0 (k := 0) rfl, bS, gi_O c0 (k := 7) rfl]; rfl
  | 6, _ =>
    rw [s_X7_countNumber, if_neg (show ¬ nI 6 = 0 by decide), if_neg (show ¬ nI 6 = 1 by decide), if_neg (show ¬ nI 6 = 2 by decide), if_neg (show ¬ nI 6 = 3 by decide), if_neg (show ¬ nI 6 = 4 by decide), if_neg (show ¬ nI 6 = 5 by decide), if_pos (show nI 6 = 6 from rfl), gr_O a0 (k := 0) rfl, bS, gi_O c0 (k := 8) rfl]; rfl
  | 7, _ =>
    rw [s_X7_countNumber, if_neg (show ¬ nI 7 = 0 by decide), if_neg (show ¬ nI 7 = 1 by decide), if_neg (show ¬ nI 7 = 2 by decide), if_neg (show ¬ nI 7 = 3 by decide), if_neg (show ¬ nI 7 = 4 by decide), if_neg (show ¬ nI 7 = 5 by decide), if_neg (show ¬ nI 7 = 6 by decide), if_pos (show nI 7 = 7 from rfl), gr_O a0 (k := 0) rfl, bS, gi_O c0 (k := 9) rfl]; rfl
  | 8, _ =>
    rw [s_X7_countNumber, if_neg (show ¬ nI 8 = 0 by decide), if_neg (show ¬ nI 8 = 1 by decide), if_neg (show ¬ nI 8 = 2 by decide), if_neg (show ¬ nI 8 = 3 by decide), if_neg (show ¬ nI 8 = 4 by decide), if_neg (show ¬ nI 8 = 5 by decide), if_neg (show ¬ nI 8 = 6 by decide), if_neg (show ¬ nI 8 = 7 by decide), if_pos (show nI 8 = 8 from rfl), is_O a0, bS, unsettled_W A]; rfl
  | 9, _ =>
    rw [s_X7_countNumber, if_neg (show ¬ nI 9 = 0 by decide), if_neg (show ¬ nI 9 = 1 by decide), if_neg (show ¬ nI 9 = 2 by decide), if_neg (show ¬ nI 9 = 3 by decide), if_neg (show ¬ nI 9 = 4 by decide), if_neg (show ¬ nI 9 = 5 by decide), if_neg (show ¬ nI 9 = 6 by decide), if_neg (show ¬ nI 9 = 7 by decide), if_neg (show ¬ nI 9 = 8 by decide), gr_O a0 (k := 2) rfl, bS, gi_O v0 (k := 2) rfl]; rfl
theorem ledgerNumber_W (A : isC h X k) {w b p : Nat} (hw : w < 4) (hb : b < 8) (hp : p < 2) : s_X3_ledgerNumber h X (nI w) (nI b) (nI p) = some (aLedger k w b p) := by
  obtain ⟨c0, -, -, -, -, -, c6, c7⟩ := A
  have e : nI w * 8 + nI b = nI (w * 8 + b) := by rw [show (8 : Int32) = nI 8 from rfl, nI_mul, nI_add]
  match p, hp with
  | 0, _ =>
    rw [s_X3_ledgerNumber, if_pos (show nI 0 = 0 from rfl), gr_O c0 (k := 5) rfl, bS, s_X3_ledgerNumber_b15, e, at_A c6 (show w * 8 + b < 32 by omega) (by decide)]; rfl
  | 1, _ =>
    rw [s_X3_ledgerNumber, if_neg (show ¬ nI 1 = 0 by decide), gr_O c0 (k := 6) rfl, bS, s_X3_ledgerNumber_b15, e, at_A c7 (show w * 8 + b < 32 by omega) (by decide)]; rfl
theorem flag_nI {b : Nat} (hb : b < 2) : nI b = 0 ∨ nI b = 1 := by
  match b, hb with
  | 0, _ => exact Or.inl rfl
  | 1, _ => exact Or.inr rfl
theorem tapProperty_W (A : isW h X k sz sv bl bf) (hn : kn k ≤ 60) (hv : vTs (kn k) (ktp k)) {i p : Nat} (hi : i < kn k) (hp : p < 8) : s_X7_tapProperty h X (nI i) (nI p) = some (aTap k i p) := by
  obtain ⟨a0, a1, a2, a3, -⟩ := id A
  obtain ⟨r0, ⟨M, r1, m1⟩, ⟨Fa, r2, m2⟩, -⟩ := id a2
  obtain ⟨c0, c1, -⟩ := a1
  have v := hv i hi
  have st : ∀ (f : Int32 → Option Int32), ((m_gr h 5 X 0).bind fun x1 => (m_gr h 2 x1 0).bind fun x4 => (m_is h 3 x4).bind fun _ => (s_X5_tapAt h x4 (nI i)).bind f) = f (pk (ktp k i)) := by
    intro f
    rw [gr_O a0 (k := 0) rfl, bS, gr_O c0 (k := 0) rfl, bS, is_O c1.1, bS, tapAt_R c1 hi (by omega), bS]
  match p, hp with
  | 0, _ =>
    rw [s_X7_tapProperty, st, if_pos (show nI 0 = 0 from rfl), walletOf_pk v]; rfl
  | 1, _ =>
    rw [s_X7_tapProperty, st, if_neg (show ¬ nI 1 = 0 by decide), if_pos (show nI 1 = 1 from rfl), dayOf_pk v]; rfl
  | 2, _ =>
    rw [s_X7_tapProperty, st, if_neg (show ¬ nI 2 = 0 by decide), if_neg (show ¬ nI 2 = 1 by decide), if_pos (show nI 2 = 2 from rfl), minuteOf_pk v]; rfl
  | 3, _ =>
    rw [s_X7_tapProperty, st, if_neg (show ¬ nI 3 = 0 by decide), if_neg (show ¬ nI 3 = 1 by decide), if_neg (show ¬ nI 3 = 2 by decide), if_pos (show nI 3 = 3 from rfl), stationOf_pk v]; rfl
  | 4, _ =>
    rw [s_X7_tapProperty, st, if_neg (show ¬ nI 4 = 0 by decide), if_neg (show ¬ nI 4 = 1 by decide), if_neg (show ¬ nI 4 = 2 by decide), if_neg (show ¬ nI 4 = 3 by decide), if_pos (show nI 4 = 4 from rfl), isIn_pk v, bS]
    show _ = some (nI (ktp k i 4))
    rcases flag_nI v.2.2.2.2.1 with e | e
    · rw [e, if_pos rfl]; rfl
    · rw [e, if_neg (by decide)]; rfl
  | 5, _ =>
    rw [s_X7_tapProperty, st, if_neg (show ¬ nI 5 = 0 by decide), if_neg (show ¬ nI 5 = 1 by decide), if_neg (show ¬ nI 5 = 2 by decide), if_neg (show ¬ nI 5 = 3 by decide), if_neg (show ¬ nI 5 = 4 by decide), if_pos (show nI 5 = 5 from rfl), gr_O a0 (k := 1) rfl, bS, gr_O r0 (k := 0) rfl, bS, at_A r1 (show i < 61 by omega) (by decide), m1 i hi]; rfl
  | 6, _ =>
    rw [s_X7_tapProperty, st, if_neg (show ¬ nI 6 = 0 by decide), if_neg (show ¬ nI 6 = 1 by decide), if_neg (show ¬ nI 6 = 2 by decide), if_neg (show ¬ nI 6 = 3 by decide), if_neg (show ¬ nI 6 = 4 by decide), if_neg (show ¬ nI 6 = 5 by decide), if_pos (show nI 6 = 6 from rfl), gr_O a0 (k := 1) rfl, bS, gr_O r0 (k := 1) rfl, bS, at_A r2 (show i < 61 by omega) (by decide), m2 i hi]; rfl
  | 7, _ =>
    rw [s_X7_tapProperty, st, if_neg (show ¬ nI 7 = 0 by decide), if_neg (show ¬ nI 7 = 1 by decide), if_neg (show ¬ nI 7 = 2 by decide), if_neg (show ¬ nI 7 = 3 by decide), if_neg (show ¬ nI 7 = 4 by decide), if_neg (show ¬ nI 7 = 5 by decide), if_neg (show ¬ nI 7 = 6 by decide), isClaimed_pk v, bS]
    show _ = some (nI (ktp k i 5))
    rcases flag_nI v.2.2.2.2.2 with e | e
    · rw [e, if_pos rfl]; rfl
    · rw [e, if_neg (by decide)]; rfl
end PN
