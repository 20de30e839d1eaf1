/-! PURE: what the class tells, with what it throws -/
section PTe
noncomputable def aLeak (k : mK) : Nat → Int32 × Int32
  | 0 => (0, -1)
  | n + 1 => if lk (kn k) (kset k) (ktp k) n ≤ (aLeak k n).1 then aLeak k n else (lk (kn k) (kset k) (ktp k) n, nI n)
variable {h : mH} {X sz bl : Nat} {k : mK} {sv : Nat → mK} {bf : Nat → Int32}
theorem leaky_L (A : isW h X k sz sv bl bf) : ∀ (d n F : Nat), n + d = 10 → d < F → s_X7_leaky_L6 h F X (aLeak k n).1 (aLeak k n).2 (nI n) = some (aLeak k 10).2 := by
  obtain ⟨r0, -, -, -, -, -, r6, -⟩ := id A.2.2.1
  intro d
  induction d with
  | zero =>
    intro n F hi hF
    obtain ⟨F, rfl⟩ : ∃ F', F = F' + 1 := ⟨F - 1, by omega⟩
    obtain rfl : n = 10 := by omega
    rw [s_X7_leaky_L6, if_pos (show (10 : Int32) ≤ nI 10 by decide)]
  | succ d ih =>
    intro n F hi hF
    obtain ⟨F, rfl⟩ : ∃ F', F = F' + 1 := ⟨F - 1, by omega⟩
    have c : ¬ (10 : Int32) ≤ nI n := nI_ge (b := 10) (by omega) (by decide)
    have nx := ih (n + 1) F (by omega) (by omega)
    rw [s_X7_leaky_L6, if_neg c, gr_O A.1 (k := 1) rfl, bS, gr_O r0 (k := 5) rfl, bS, at_A r6 (show n < 10 by omega) (by decide), bS]
    by_cases q : lk (kn k) (kset k) (ktp k) n ≤ (aLeak k n).1
    · have e : aLeak k (n + 1) = aLeak k n := if_pos q
      rw [e] at nx
      rw [if_pos q, s_X7_leaky_b36, nI_1]
      exact nx
    · have e : aLeak k (n + 1) = (lk (kn k) (kset k) (ktp k) n, nI n) := if_neg q
      rw [e] at nx
      rw [if_neg q, s_X7_leaky_b36, nI_1]
      exact nx
theorem leaky_W (A : isW h X k sz sv bl bf) : s_X7_leaky h X = some (aLeak k 10).2 := leaky_L A 10 0 m_F (by decide) (by unfold m_F; decide)
noncomputable def aFares (k : mK) : Int32 := sumF (dF (kn k) (kset k) (ktp k)) 112
theorem capShare_W (A : isW h X k sz sv bl bf) : s_X7_capShare h X = if aFares k ≤ 0 then some FP.dconst1 else m_d (FP.ddiv (FP.i2d (sumF (kwj k) 16)) (FP.i2d (aFares k))) := by
  obtain ⟨r0, -, -, -, -, r5, -⟩ := id A.2.2.1
  rw [s_X7_capShare, gr_O A.1 (k := 1) rfl, bS, gr_O r0 (k := 4) rfl, bS, sum_A r5 (by decide), bS]
  show (if aFares k ≤ 0 then _ else _) = _
  by_cases q : aFares k ≤ 0
  · rw [if_pos q, if_pos q]; rfl
  · rw [if_neg q, if_neg q, is_O A.1, bS, costOfAll_W A, bS]
    show (m_d (FP.ddiv (FP.i2d (sumF (kwj k) 16)) (FP.i2d (aFares k)))).bind _ = _
    rcases m_d (FP.ddiv (FP.i2d (sumF (kwj k) 16)) (FP.i2d (aFares k))) with _ | x
    · rfl
    · rfl
theorem wd_c (v1 v2 : Int32) : (∃ w d, w < 4 ∧ d < 28 ∧ v1 = nI w ∧ v2 = nI d) ∨ oB v1 4 ∨ oB v2 28 := by
  rcases below_c v1 4 (by decide) with ⟨n, hn, rfl⟩ | q3
  · rcases below_c v2 28 (by decide) with ⟨m, hm, rfl⟩ | q4
    · exact Or.inl ⟨n, m, hn, hm, rfl, rfl⟩
    · exact Or.inr (Or.inr q4)
  · exact Or.inr (Or.inl q3)
theorem ms_c (v1 v2 : Int32) : (∃ w d, w < 1440 ∧ d < 10 ∧ v1 = nI w ∧ v2 = nI d) ∨ oB v1 1440 ∨ oB v2 10 := by
  rcases below_c v1 1440 (by decide) with ⟨n, hn, rfl⟩ | q3
  · rcases below_c v2 10 (by decide) with ⟨m, hm, rfl⟩ | q4
    · exact Or.inl ⟨n, m, hn, hm, rfl, rfl⟩
    · exact Or.inr (Or.inr q4)
  · exact Or.inr (Or.inl q3)
theorem oB_no {n b : Nat} (hn : n < b) (hb : b < 2 ^ 31) : ¬ oB (nI n) b := fun q => q.elim (nI_pos (by omega)) (nI_ge hn hb)
theorem day_no {v1 v2 v3 : Int32} (q : (oB v1 4 ∨ oB v2 28) ∨ oB v3 4) : s_X7_day h X v1 v2 v3 = some (Sum.inl "java/lang/IllegalArgumentException", h) := by
  rw [s_X7_day]
  rcases wd_c v1 v2 with ⟨w, d, hw, hd, rfl, rfl⟩ | q1
  · have q2 : oB v3 4 := q.resolve_left fun z => z.elim (oB_no hw (by decide)) (oB_no hd (by decide))
    rw [walletDay_yes hw hd, bS, if_neg (by decide), show (4 : Int32) = nI 4 from rfl, below_no q2, bS, if_pos rfl]; rfl
  · rw [walletDay_no q1, bS, if_pos rfl]; rfl
theorem day_W (A : isW h X k sz sv bl bf) {w d p : Nat} (hw : w < 4) (hd : d < 28) (hp : p < 4) : s_X7_day h X (nI w) (nI d) (nI p) = some (Sum.inr (aDay k w d p), h) := by
  rw [s_X7_day, walletDay_yes hw hd, bS, if_neg (by decide), show (4 : Int32) = nI 4 from rfl, below_yes hp (by decide), bS, if_neg (by decide), is_O A.1, bS, dayNumber_W A hw hd hp]; rfl
theorem week_no {v1 v2 v3 : Int32} (q : oB v1 4 ∨ oB v2 4 ∨ oB v3 7) : s_X7_week h X v1 v2 v3 = some (Sum.inl "java/lang/IllegalArgumentException", h) := by
  rw [s_X7_week, show (4 : Int32) = nI 4 from rfl, show (7 : Int32) = nI 7 from rfl]
  rcases below_c v1 4 (by decide) with ⟨w, hw, rfl⟩ | q1
  · rw [below_yes hw (by decide), bS, if_neg (by decide)]
    rcases below_c v2 4 (by decide) with ⟨d, hd, rfl⟩ | q2
    · have q3 : oB v3 7 := (q.resolve_left (oB_no hw (by decide))).resolve_left (oB_no hd (by decide))
      rw [below_yes hd (by decide), bS, if_neg (by decide), below_no q3, bS, if_pos rfl]; rfl
    · rw [below_no q2, bS, if_pos rfl]; rfl
  · rw [below_no q1, bS, if_pos rfl]; rfl
theorem week_W (A : isW h X k sz sv bl bf) {w d p : Nat} (hw : w < 4) (hd : d < 4) (hp : p < 7) : s_X7_week h X (nI w) (nI d) (nI p) = some (Sum.inr (aWeek k w d p), h) := by
  rw [s_X7_week, show (4 : Int32) = nI 4 from rfl, show (7 : Int32) = nI 7 from rfl, below_yes hw (by decide), bS, if_neg (by decide), below_yes hd (by decide), bS, if_neg (by decide), below_yes hp (by decide), bS, if_neg (by decide), is_O A.1, bS, weekNumber_W A hw hd hp]; rfl
theorem ledger_no {v1 v2 v3 : Int32} (q : oB v1 4 ∨ oB v2 8 ∨ oB v3 2) : s_X7_ledger h X v1 v2 v3 = some (Sum.inl "java/lang/IllegalArgumentException", h) := by
  rw [s_X7_ledger, show (4 : Int32) = nI 4 from rfl, show (8 : Int32) = nI 8 from rfl, show (2 : Int32) = nI 2 from rfl]
  rcases below_c v1 4 (by decide) with ⟨w, hw, rfl⟩ | q1
  · rw [below_yes hw (by decide), bS, if_neg (by decide)]
    rcases below_c v2 8 (by decide) with ⟨d, hd, rfl⟩ | q2
    · have q3 : oB v3 2 := (q.resolve_left (oB_no hw (by decide))).resolve_left (oB_no hd (by decide))
      rw [below_yes hd (by decide), bS, if_neg (by decide), below_no q3, bS, if_pos rfl]; rfl
    · rw [below_no q2, bS, if_pos rfl]; rfl
  · rw [below_no q1, bS, if_pos rfl]; rfl
theorem ledger_W (A : isW h X k sz sv bl bf) {w d p : Nat} (hw : w < 4) (hd : d < 8) (hp : p < 2) : s_X7_ledger h X (nI w) (nI d) (nI p) = some (Sum.inr (aLedger k w d p), h) := by
  rw [s_X7_ledger, show (4 : Int32) = nI 4 from rfl, show (8 : Int32) = nI 8 from rfl, show (2 : Int32) = nI 2 from rfl, below_yes hw (by decide), bS, if_neg (by decide), below_yes hd (by decide), bS, if_neg (by decide), below_yes hp (by decide), bS, if_neg (by decide), gr_O A.1 (k := 0) rfl, bS, is_O A.2.1.1, bS, ledgerNumber_W A.2.1 hw hd hp]; rfl
theorem count_no {v1 : Int32} (q : oB v1 10) : s_X7_count h X v1 = some (Sum.inl "java/lang/IllegalArgumentException", h) := by
  rw [s_X7_count, show (10 : Int32) = nI 10 from rfl, below_no q, bS, if_pos rfl]
theorem count_W (A : isW h X k sz sv bl bf) {p : Nat} (hp : p < 10) : s_X7_count h X (nI p) = some (Sum.inr (aCount k sz p), h) := by
  rw [s_X7_count, show (10 : Int32) = nI 10 from rfl, below_yes hp (by decide), bS, if_neg (by decide), is_O A.1, bS, countNumber_W A hp]; rfl
theorem tapOf_no1 (A : isW h X k sz sv bl bf) {v1 v2 : Int32} (q : oB v1 (kn k)) : s_X7_tapOf h X v1 v2 = some (Sum.inl "java/lang/IndexOutOfBoundsException", h) := by
  rw [s_X7_tapOf, is_O A.1, bS, place_no A q, bS, if_pos rfl]
theorem tapOf_no2 (A : isW h X k sz sv bl bf) (hn : kn k ≤ 60) {i : Nat} {v2 : Int32} (hi : i < kn k) (q : oB v2 8) : s_X7_tapOf h X (nI i) v2 = some (Sum.inl "java/lang/IllegalArgumentException", h) := by
  rw [s_X7_tapOf, is_O A.1, bS, place_yes A hn hi, bS, if_neg (by decide), show (8 : Int32) = nI 8 from rfl, below_no q, bS, if_pos rfl]
theorem tapOf_W (A : isW h X k sz sv bl bf) (hn : kn k ≤ 60) (hv : vTs (kn k) (ktp k)) {i p : Nat} (hi : i < kn k) (hp : p < 8) : s_X7_tapOf h X (nI i) (nI p) = some (Sum.inr (aTap k i p), h) := by
  rw [s_X7_tapOf, is_O A.1, bS, place_yes A hn hi, bS, if_neg (by decide), show (8 : Int32) = nI 8 from rfl, below_yes hp (by decide), bS, if_neg (by decide), bS, tapProperty_W A hn hv hi hp]; rfl
end PTe
