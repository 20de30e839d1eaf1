/-! PURE: what stands of every state: the taps in their order, claims, charges -/
section OA
def ord (n : Nat) (tp : Nat → Nat → Nat) : Prop := ∀ i j, i ≤ j → j < n → tm (tp i) ≤ tm (tp j)
theorem ip_hi {tp : Nat → Nat → Nat} {t : Nat → Nat} : ∀ (p i : Nat), ip tp t p ≤ i → i < p → tm t < tm (tp i) := by
  intro p
  induction p with
  | zero => intro i _ h; omega
  | succ p ih =>
    intro i h1 h2
    rw [ip] at h1
    by_cases c : tm t < tm (tp p)
    · rw [if_pos c] at h1
      by_cases q : i = p
      · subst q; exact c
      · exact ih i h1 (by omega)
    · rw [if_neg c] at h1
      omega
theorem ip_lo {tp : Nat → Nat → Nat} {t : Nat → Nat} : ∀ (p : Nat), 0 < ip tp t p → tm (tp (ip tp t p - 1)) ≤ tm t := by
  intro p
  induction p with
  | zero => intro h; exact absurd h (Nat.lt_irrefl _)
  | succ p ih =>
    intro h
    rw [ip] at h ⊢
    by_cases c : tm t < tm (tp p)
    · rw [if_pos c] at h ⊢
      exact ih h
    · rw [if_neg c]
      exact Nat.not_lt.mp c
theorem ord_ins {n : Nat} {tp : Nat → Nat → Nat} {t : Nat → Nat} (o : ord n tp) : ord (n + 1) (tins tp (ip tp t n) t) := by
  have hi := ip_hi (tp := tp) (t := t) n
  have lo := ip_lo (tp := tp) (t := t) n
  have hp : ip tp t n ≤ n := ip_le n
  generalize ip tp t n = P at hi lo hp ⊢
  intro i j hij hj
  show tm (if i < P then tp i else if i = P then t else tp (i - 1)) ≤ tm (if j < P then tp j else if j = P then t else tp (j - 1))
  rcases Nat.lt_trichotomy j P with q | q | q
  · rw [if_pos q, if_pos (show i < P by omega)]
    exact o i j hij (by omega)
  · rw [if_neg (show ¬ j < P by omega), if_pos q]
    by_cases r : i = P
    · rw [if_neg (show ¬ i < P by omega), if_pos r]
      exact Nat.le_refl _
    · rw [if_pos (show i < P by omega)]
      exact Nat.le_trans (o i (P - 1) (by omega) (by omega)) (lo (by omega))
  · rw [if_neg (show ¬ j < P by omega), if_neg (show ¬ j = P by omega)]
    rcases Nat.lt_trichotomy i P with r | r | r
    · rw [if_pos r]
      exact o i (j - 1) (by omega) (by omega)
    · rw [if_neg (show ¬ i < P by omega), if_pos r]
      exact Nat.le_of_lt (hi (j - 1) (by omega) (by omega))
    · rw [if_neg (show ¬ i < P by omega), if_neg (show ¬ i = P by omega)]
      exact o (i - 1) (j - 1) (by omega) (by omega)
theorem ord_del {n P : Nat} {tp : Nat → Nat → Nat} (o : ord n tp) (hP : P < n) : ord (n - 1) (tdel tp P) := by
  intro i j hij hj
  show tm (if i < P then tp i else tp (i + 1)) ≤ tm (if j < P then tp j else tp (j + 1))
  by_cases q : j < P
  · rw [if_pos q, if_pos (show i < P by omega)]
    exact o i j hij (by omega)
  · rw [if_neg q]
    by_cases r : i < P
    · rw [if_pos r]
      exact o i (j + 1) (by omega) (by omega)
    · rw [if_neg r]
      exact o (i + 1) (j + 1) (by omega) (by omega)
/-- a state that may stand behind T changes -/
def kgo (T : Nat) (k : mK) : Prop := kok k ∧ kn k ≤ T ∧ ord (kn k) (ktp k) ∧ (∀ c, c < 16 → ∃ n, n ≤ 2 ∧ kclm k c = nI n) ∧ ∀ c, c < 16 → ∃ n, n ≤ 9999 ∧ kchg k c = nI n
variable {T : Nat} {k : mK}
theorem kgo.wd {T' : Nat} (g : kgo T k) (h : T ≤ T') : kgo T' k := ⟨g.1, Nat.le_trans g.2.1 h, g.2.2⟩
theorem kgo_set (g : kgo T k) {i : Nat} {v : Int32} (hi : i < 6) (q1 : ¬ v < loS i) (q2 : ¬ hiS i < v) : kgo T (kset' k i v) := ⟨kok_set g.1 hi q1 q2, g.2⟩
theorem kgo_del (g : kgo T k) {i : Nat} (hi : i < kn k) : kgo T (kdel k i) := ⟨kok_del g.1 hi, (by have := g.2.1; show kn k - 1 ≤ T; omega), ord_del g.2.2.1 hi, g.2.2.2⟩
theorem kgo_ins (g : kgo T k) {u : Nat → Nat} (hn : kn k < 60) (vu : vT u) : kgo (T + 1) (kins k u) := ⟨kok_ins g.1 hn vu, (by have := g.2.1; show kn k + 1 ≤ T + 1; omega), ord_ins g.2.2.1, g.2.2.2⟩
theorem kgo_ref (g : kgo T k) : kgo T (krefuse k) := ⟨g.1, g.2⟩
theorem aRef_2 {i m s : Nat} (q : aRef k i m s = 0) : kclm k (ktp k i 0 * 4 + ktp k i 1 / 7) < 2 := by
  apply Classical.byContradiction
  intro z
  unfold aRef at q
  revert q
  repeat' split
  all_goals first
    | (intro q; exact absurd q (by decide))
    | (intro q; contradiction)
theorem kgo_claim (g : kgo T k) {i m s : Nat} (hi : i < kn k) (hm : m < 1440) (hs : s < 10) : kgo (T + 1) (if aRef k i m s = 0 then kclaim k i m s else krefuse k) := by
  by_cases q : aRef k i m s = 0
  · have hk := kok_claim g.1 hi hm hs
    have h2 := aRef_2 q
    have v := g.1.2.1 i hi
    have w0 := v.1
    have w1 := v.2.1
    rw [if_pos q] at hk ⊢
    refine ⟨hk, (by have := g.2.1; show kn k + 1 ≤ T + 1; omega), ord_ins g.2.2.1, fun c hc => ?_, g.2.2.2.2⟩
    show ∃ n, n ≤ 2 ∧ upd (kclm k) (ktp k i 0 * 4 + ktp k i 1 / 7) (kclm k (ktp k i 0 * 4 + ktp k i 1 / 7) + 1) c = nI n
    by_cases z : c = ktp k i 0 * 4 + ktp k i 1 / 7
    · subst z
      obtain ⟨n, hn, e⟩ := g.2.2.2.1 _ hc
      rw [e] at h2
      have h3 : n < 2 := (nI_ltI (b := 2) (by omega) (by decide)).mp h2
      exact ⟨n + 1, by omega, by rw [pk_us, e, nI_1]⟩
    · rw [pk_un z]
      exact g.2.2.2.1 c hc
  · rw [if_neg q]
    exact (kgo_ref g).wd (Nat.le_succ _)
theorem min_nI2 {s a : Nat} (hs : s < 2 ^ 31) (ha : a < 2 ^ 31) : ∃ m, (if nI s < nI a then nI s else nI a) = nI m ∧ m ≤ s := by
  by_cases q : s < a
  · exact ⟨s, by rw [if_pos (nI_lt q ha)], Nat.le_refl _⟩
  · exact ⟨a, by rw [if_neg (nI_nlt (by omega) hs)], by omega⟩
theorem kw_le (hk : kok k) (w j : Nat) : ∃ n, n ≤ 9999 ∧ kw k w j = nI n := by
  obtain ⟨a, b, e1, e2, e3, e4⟩ := sum_nI (n := 7) (fun i _ => dcost_nI hk w (j * 7 + i))
  obtain ⟨s5, b5, e5⟩ := hk.2.2.2.2.2 5 (by decide) (by decide)
  obtain ⟨m, g1, g2⟩ := min_nI2 (s := s5) (a := a) (by omega) (by omega)
  refine ⟨m, by omega, ?_⟩
  show (if kset k 5 < wdays (kn k) (kset k) (ktp k) w j then kset k 5 else wdays (kn k) (kset k) (ktp k) w j) = _
  rw [show wdays (kn k) (kset k) (ktp k) w j = nI a from e1, e5]
  exact g1
theorem kgo_st (g : kgo T k) {j : Nat} : ∀ n, kgo T (kst k j n)
  | 0 => g
  | n + 1 => by
    have g' := kgo_st g (j := j) n
    refine ⟨kok_charge g'.1, g'.2.1, g'.2.2.1, g'.2.2.2.1, fun c hc => ?_⟩
    show ∃ m, m ≤ 9999 ∧ upd (kchg (kst k j n)) (n * 4 + j) (kw k n j) c = nI m
    by_cases z : c = n * 4 + j
    · subst z
      rw [pk_us]
      exact kw_le g.1 n j
    · rw [pk_un z]
      exact g'.2.2.2.2 c hc
theorem sumF_upd {f : Nat → Int32} {c n : Nat} {v : Int32} (hc : c < n) : sumF (upd f c v) n = sumF f n + (v - f c) := by
  have e : sumF (upd f c v) n = sumF (fun i => f i + (if c = i then v - f c else 0)) n := sumF_ext fun i _ => by
    by_cases q : i = c
    · subst q
      rw [pk_us, if_pos rfl, Int32.add_comm, Int32.sub_add_cancel]
    · rw [pk_un q, if_neg (fun z => q z.symm), Int32.add_zero]
  rw [e, sumF_add, sumF_one, if_pos hc]
theorem kst_sum {j : Nat} (hj : j < 4) : ∀ n, n ≤ 4 → sumF (kchg (kst k j n)) 16 = sumF (kchg k) 16 + aSet k j n
  | 0, _ => by
    show sumF (kchg k) 16 = sumF (kchg k) 16 + 0
    rw [Int32.add_zero]
  | n + 1, h => by
    show sumF (upd (kchg (kst k j n)) (n * 4 + j) (kw k n j)) 16 = sumF (kchg k) 16 + (aSet k j n + (kw k n j - kchg (kst k j n) (n * 4 + j)))
    rw [sumF_upd (by omega), kst_sum hj n (by omega), Int32.add_assoc]
theorem i4 (p q r s : Int32) : (p + q) + (r + s) = (p + r) + (q + s) := by
  rw [Int32.add_assoc, Int32.add_assoc, ← Int32.add_assoc q r s, Int32.add_comm q r, Int32.add_assoc r q s]
theorem aSet_L (g : kgo T k) {j : Nat} (hj : j < 4) : ∀ n, n ≤ 4 → ∃ A B, A ≤ 9999 * n ∧ B ≤ 9999 * n ∧ aSet k j n + nI B = nI A
  | 0, _ => ⟨0, 0, Nat.zero_le _, Nat.zero_le _, rfl⟩
  | n + 1, h => by
    obtain ⟨A, B, hA, hB, e⟩ := aSet_L g hj n (by omega)
    obtain ⟨a, ha, ea⟩ := kw_le g.1 n j
    obtain ⟨b, hb, eb⟩ := (kgo_st g (j := j) n).2.2.2.2 (n * 4 + j) (by omega)
    refine ⟨A + a, B + b, by omega, by omega, ?_⟩
    show (aSet k j n + (kw k n j - kchg (kst k j n) (n * 4 + j))) + nI (B + b) = nI (A + a)
    rw [← nI_add, ← nI_add, i4, e, ea, eb, Int32.sub_add_cancel]
theorem aSet_nI (g : kgo T k) {j : Nat} (hj : j < 4) : ∃ N, N < 2 ^ 31 ∧ aSet k j 4 + 100000 = nI N := by
  obtain ⟨A, B, hA, hB, e⟩ := aSet_L g hj 4 (by decide)
  refine ⟨A + 100000 - B, by omega, ?_⟩
  have h : (aSet k j 4 + nI 100000) + nI B = nI (A + 100000) := by
    rw [Int32.add_assoc, Int32.add_comm (nI 100000) (nI B), ← Int32.add_assoc, e, nI_add]
  have h2 := Int32.add_sub_cancel (aSet k j 4 + nI 100000) (nI B)
  rw [h, nI_sub (by omega)] at h2
  exact h2.symm
end OA
