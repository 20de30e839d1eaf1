/-! PURE: what the law does in a turn -/
section AC
theorem nI_self (v : Int32) : v = nI v.toBitVec.toNat := by
  apply Int32.toBitVec_inj.mp
  rw [nI_bv]
  exact (BitVec.eq_of_toNat_eq (by rw [BitVec.toNat_ofNat, Nat.mod_eq_of_lt v.toBitVec.isLt])).symm
theorem and_lt (v : Int32) (n : Nat) : ∃ p, p ≤ n ∧ v &&& nI n = nI p := by
  refine ⟨v.toBitVec.toNat &&& n, Nat.and_le_right, ?_⟩
  rw [← nI_and, ← nI_self]
theorem low_ok (v : Int32) {b : Nat} (h0 : 0 < b) (hb : b < 2 ^ 31) : ∃ r, r < b ∧ ∀ h : mH, s_L_low h v (nI b) = some (nI r) := by
  obtain ⟨a, ha, e⟩ := and_lt v 2147483647
  refine ⟨a % b, Nat.mod_lt _ h0, fun h => ?_⟩
  rw [s_L_low, show (2147483647 : Int32) = nI 2147483647 from rfl, e, m_rem_nI (by omega) hb (by omega), bS]
variable {T : Nat} {k : mK}
/-- a change of the law: its answer, the state behind it -/
def chg (st : m_T) (k k' : mK) (r : Int32) (f : mH → Nat → Option (Int32 × mH)) : Prop := ∀ (h : mH) (X sz bl : Nat) (sv : Nat → mK) (bf : Nat → Int32), isW h X k sz sv bl bf → isT h (st.2 1) 6 (m_tab 1) → isT h (st.2 2) 6 (m_tab 2) → ∃ h', f h X = some (r, h') ∧ isW h' X k' (min (sz + 1) 6) (kpush sv k) bl bf ∧ fr h h' X (X + 87)
theorem set_112 (st : m_T) (g : kgo T k) {i n : Nat} (hi : i < 6) (q1 : ¬ nI n < loS i) (q2 : ¬ hiS i < nI n) : chg st k (kset' k i (nI n)) (kset k i) (fun h X => s_L_act_b112 st h X (nI i) (nI n)) := by
  intro h X sz bl sv bf A T1 T2
  obtain ⟨h', e1, e2, e3⟩ := set_W T1 T2 A g.1.1 g.1.2.1 hi (v := nI n) (by rw [lo_tab i hi]; exact q1) (by rw [hi_tab i hi]; exact Int32.not_lt.mp q2)
  refine ⟨h', ?_, e2, e3⟩
  show s_L_act_b112 st h X (nI i) (nI n) = _
  rw [s_L_act_b112, is_O A.1, bS, e1, okS]
  rfl
theorem set_nn (g : kgo T k) {i : Nat} (hi : i < 6) : ∃ n, n < 2 ^ 31 ∧ kset k i = nI n := by
  by_cases c : i < 3
  · obtain ⟨n, h1, h2⟩ := g.1.2.2.2.1 i c
    exact ⟨n, by omega, h2⟩
  · by_cases c3 : i = 3
    · subst c3
      obtain ⟨n, h0, h1, h2⟩ := g.1.2.2.2.2.1
      exact ⟨n, by omega, h2⟩
    · obtain ⟨n, h1, h2⟩ := g.1.2.2.2.2.2 i (by omega) hi
      exact ⟨n, by omega, h2⟩
theorem lo_ok {i n : Nat} (h : i = 3 → 1 ≤ n) (hn : n < 2 ^ 31) : ¬ nI n < loS i := by
  unfold loS
  by_cases c : i = 3
  · rw [if_pos c]
    exact nI_nlt (b := 1) (h c) hn
  · rw [if_neg c]
    exact nI_pos hn
theorem hi_ok {i n : Nat} (hi : i < 6) (h : n ≤ 400 ∨ (i < 3 ∧ n < 700) ∨ (3 < i ∧ n < 3000)) : ¬ hiS i < nI n := by
  unfold hiS
  by_cases c : i < 3
  · rw [if_pos c]
    exact nI_nlt (a := 999) (by omega) (by decide)
  · rw [if_neg c]
    by_cases c3 : i = 3
    · rw [if_pos c3]
      exact nI_nlt (a := 1439) (by omega) (by decide)
    · rw [if_neg c3]
      exact nI_nlt (a := 9999) (by omega) (by decide)
theorem set_60 (st : m_T) (g : kgo T k) (w : Int32) : ∃ r k', (∃ n, n < 2 ^ 31 ∧ r = nI n) ∧ kgo (T + 1) k' ∧ chg st k k' r (fun h X => s_L_act_b60 st h X w) := by
  obtain ⟨i, hi, ei⟩ := low_ok w (b := 6) (by decide) (by decide)
  have fin : ∀ n, n < 2 ^ 31 → (i = 3 → 1 ≤ n) → (n ≤ 400 ∨ (i < 3 ∧ n < 700) ∨ (3 < i ∧ n < 3000)) → (∀ h X, s_L_act_b60 st h X w = s_L_act_b112 st h X (nI i) (nI n)) → ∃ r k', (∃ n, n < 2 ^ 31 ∧ r = nI n) ∧ kgo (T + 1) k' ∧ chg st k k' r (fun h X => s_L_act_b60 st h X w) := by
    intro n hn h1 h2 e
    have q1 := lo_ok h1 hn
    have q2 := hi_ok hi h2
    refine ⟨kset k i, kset' k i (nI n), set_nn g hi, (kgo_set g hi q1 q2).wd (Nat.le_succ _), ?_⟩
    have c := set_112 st g hi q1 q2
    intro h X sz bl sv bf A T1 T2
    show ∃ h', s_L_act_b60 st h X w = _ ∧ _
    rw [e]
    exact c h X sz bl sv bf A T1 T2
  by_cases c3 : i = 3
  · obtain ⟨n, hn, en⟩ := low_ok (w >>> ((3 : Int32) &&& 31)) (b := 400) (by decide) (by decide)
    refine fin (n + 1) (by omega) (fun _ => by omega) (Or.inl (by omega)) (fun h X => ?_)
    rw [s_L_act_b60, show (6 : Int32) = nI 6 from rfl, ei, bS, if_pos (show nI i = 3 by rw [c3]; rfl), show (400 : Int32) = nI 400 from rfl, en, bS]
    congr 1
    exact (Int32.add_comm _ _).trans (nI_1 n)
  · have d3 : ¬ nI i = 3 := fun z => c3 ((nI_eq (b := 3) (by omega) (by decide)).mp z)
    by_cases c : i < 3
    · obtain ⟨n, hn, en⟩ := low_ok (w >>> ((3 : Int32) &&& 31)) (b := 700) (by decide) (by decide)
      refine fin n (by omega) (fun z => absurd z c3) (Or.inr (Or.inl ⟨c, hn⟩)) (fun h X => ?_)
      rw [s_L_act_b60, show (6 : Int32) = nI 6 from rfl, ei, bS, if_neg d3, if_pos (show nI i ≤ 3 from nI_le (b := 3) (by omega) (by decide)), s_L_act_b109, show (700 : Int32) = nI 700 from rfl, en, bS]
    · obtain ⟨n, hn, en⟩ := low_ok (w >>> ((3 : Int32) &&& 31)) (b := 3000) (by decide) (by decide)
      refine fin n (by omega) (fun z => absurd z c3) (Or.inr (Or.inr ⟨by omega, hn⟩)) (fun h X => ?_)
      rw [s_L_act_b60, show (6 : Int32) = nI 6 from rfl, ei, bS, if_neg d3, if_neg (show ¬ nI i ≤ 3 from nI_ge (a := 3) (by omega) (by omega)), s_L_act_b109, show (3000 : Int32) = nI 3000 from rfl, en, bS]
theorem settle_135 (st : m_T) (g : kgo T k) (w : Int32) : ∃ r k', (∃ n, n < 2 ^ 31 ∧ r = nI n) ∧ kgo (T + 1) k' ∧ sumF (kchg k') 16 = (sumF (kchg k) 16 + r) - 100000 ∧ chg st k k' r (fun h X => s_L_act_b135 st h X w) := by
  obtain ⟨j, hj, ej⟩ := and_lt w 3
  have hj4 : j < 4 := by omega
  refine ⟨aSet k j 4 + 100000, kst k j 4, aSet_nI g hj4, (kgo_st g 4).wd (Nat.le_succ _), ?_, ?_⟩
  · rw [kst_sum hj4 4 (by decide), ← Int32.add_assoc, Int32.add_sub_cancel]
  · intro h X sz bl sv bf A T1 T2
    obtain ⟨h', e1, e2, e3⟩ := settle_W A hj4
    refine ⟨h', ?_, e2, e3⟩
    show s_L_act_b135 st h X w = _
    rw [s_L_act_b135, is_O A.1, bS, show (3 : Int32) = nI 3 from rfl, ej, e1, okS]
    rfl
theorem claim_172 (st : m_T) (g : kgo T k) (w : Int32) {i b : Nat} (hi : i ≤ kn k) (b0 : 0 < b) (hb : b ≤ 1440) : ∃ r k', (∃ n, n < 2 ^ 31 ∧ r = nI n) ∧ kgo (T + 1) k' ∧ chg st k k' r (fun h X => s_L_act_b172 st h w X (nI i) w (nI b)) := by
  obtain ⟨m, hm, em⟩ := low_ok w (b := b) b0 (by omega)
  obtain ⟨s, hs, es⟩ := low_ok (w >>> ((11 : Int32) &&& 31)) (b := 10) (by decide) (by decide)
  have hn := g.1.1
  have hm4 : m < 1440 := by omega
  by_cases c : i < kn k
  · refine ⟨nI (aRef k i m s), _, ⟨_, by have := aRef_lt k i m s; omega, rfl⟩, kgo_claim g c hm4 hs, ?_⟩
    intro h X sz bl sv bf A T1 T2
    obtain ⟨h', e1, e2, e3⟩ := claim_W A hn g.1.2.1 c hm4 hs
    refine ⟨h', ?_, e2, e3⟩
    show s_L_act_b172 st h w X (nI i) w (nI b) = _
    rw [s_L_act_b172, em, bS, show (10 : Int32) = nI 10 from rfl, es, bS, is_O A.1, bS, e1, okS]
    rfl
  · refine ⟨1, krefuse k, ⟨1, by decide, rfl⟩, (kgo_ref g).wd (Nat.le_succ _), ?_⟩
    intro h X sz bl sv bf A T1 T2
    have q : oB (nI i) (kn k) := Or.inr (nI_le (by omega) (by omega))
    obtain ⟨h', e1, e2, e3⟩ := claim_refused A hm4 hs (refusal_no A q) A fr.rf (by decide)
    refine ⟨h', ?_, e2, e3⟩
    show s_L_act_b172 st h w X (nI i) w (nI b) = _
    rw [s_L_act_b172, em, bS, show (10 : Int32) = nI 10 from rfl, es, bS, is_O A.1, bS, e1, okS]
    rfl
theorem claim_143 (st : m_T) (g : kgo T k) (v w : Int32) : ∃ r k', (∃ n, n < 2 ^ 31 ∧ r = nI n) ∧ kgo (T + 1) k' ∧ chg st k k' r (fun h X => s_L_act_b143 st h X v w (nI (kn k))) := by
  have hn := g.1.1
  obtain ⟨i, hi, ei⟩ := low_ok (v >>> ((4 : Int32) &&& 31)) (b := kn k + 1) (by omega) (by omega)
  have st0 : ∀ b : Nat, 0 < b → b ≤ 1440 → (∀ h X, s_L_act_b143 st h X v w (nI (kn k)) = s_L_act_b172 st h w X (nI i) w (nI b)) → ∃ r k', (∃ n, n < 2 ^ 31 ∧ r = nI n) ∧ kgo (T + 1) k' ∧ chg st k k' r (fun h X => s_L_act_b143 st h X v w (nI (kn k))) := by
    intro b b0 b1 e
    obtain ⟨r, k', h1, h2, h3⟩ := claim_172 st g w (i := i) (by omega) b0 b1
    refine ⟨r, k', h1, h2, ?_⟩
    intro h X sz bl sv bf A T1 T2
    show ∃ h', s_L_act_b143 st h X v w (nI (kn k)) = _ ∧ _
    rw [e]
    exact h3 h X sz bl sv bf A T1 T2
  by_cases c : ((w >>> ((20 : Int32) &&& 31)) &&& 1) = 0
  · exact st0 200 (by decide) (by decide) fun h X => by rw [s_L_act_b143, nI_1, ei, bS, if_pos c]; rfl
  · exact st0 1440 (by decide) (by decide) fun h X => by rw [s_L_act_b143, nI_1, ei, bS, if_neg c]; rfl
theorem tap_248 (st : m_T) (g : kgo T k) (w : Int32) (hT : kn k < 60) {a d b : Nat} (ha : a < 4) (hd : d < 28) (b0 : 0 < b) (hb : b ≤ 1440) : ∃ r k', (∃ n, n < 2 ^ 31 ∧ r = nI n) ∧ kgo (T + 1) k' ∧ chg st k k' r (fun h X => s_L_act_b248 st h w X (nI a) (nI d) w (nI b)) := by
  obtain ⟨m, hm, em⟩ := low_ok w (b := b) b0 (by omega)
  obtain ⟨s, hs, es⟩ := low_ok (w >>> ((11 : Int32) &&& 31)) (b := 10) (by decide) (by decide)
  have hm4 : m < 1440 := by omega
  have fin : ∀ i : Nat, i < 2 → (∀ h X, s_L_act_b248 st h w X (nI a) (nI d) w (nI b) = s_L_act_b274 st h X (nI a) (nI d) (nI m) (nI s) (nI i)) → ∃ r k', (∃ n, n < 2 ^ 31 ∧ r = nI n) ∧ kgo (T + 1) k' ∧ chg st k k' r (fun h X => s_L_act_b248 st h w X (nI a) (nI d) w (nI b)) := by
    intro i hi e
    have vt : vT (mkT a d m s i 0) := ⟨ha, hd, hm4, hs, hi, show 0 < 2 by decide⟩
    refine ⟨nI (kip k (mkT a d m s i 0)), kins k (mkT a d m s i 0), ⟨_, by have : kip k (mkT a d m s i 0) ≤ kn k := ip_le _; omega, rfl⟩, kgo_ins g hT vt, ?_⟩
    intro h X sz bl sv bf A T1 T2
    obtain ⟨h', e1, e2, e3⟩ := tap_W A g.1.2.1 ha hd hm4 hs hi hT
    refine ⟨h', ?_, e2, e3⟩
    show s_L_act_b248 st h w X (nI a) (nI d) w (nI b) = _
    rw [e, s_L_act_b274, is_O A.1, bS, e1, okS]
    rfl
  by_cases c : ((w >>> ((15 : Int32) &&& 31)) &&& 1) = 0
  · exact fin 1 (by decide) fun h X => by rw [s_L_act_b248, em, bS, show (10 : Int32) = nI 10 from rfl, es, bS, if_pos c]; rfl
  · exact fin 0 (by decide) fun h X => by rw [s_L_act_b248, em, bS, show (10 : Int32) = nI 10 from rfl, es, bS, if_neg c]; rfl
theorem tap_226 (st : m_T) (g : kgo T k) (v w : Int32) (hT : kn k < 60) {a b : Nat} (ha : a < 4) (b0 : 0 < b) (hb : b ≤ 28) : ∃ r k', (∃ n, n < 2 ^ 31 ∧ r = nI n) ∧ kgo (T + 1) k' ∧ chg st k k' r (fun h X => s_L_act_b226 st h w X (nI a) v (nI b)) := by
  obtain ⟨d, hd, ed⟩ := low_ok v (b := b) b0 (by omega)
  have fin : ∀ c : Nat, 0 < c → c ≤ 1440 → (∀ h X, s_L_act_b226 st h w X (nI a) v (nI b) = s_L_act_b248 st h w X (nI a) (nI d) w (nI c)) → ∃ r k', (∃ n, n < 2 ^ 31 ∧ r = nI n) ∧ kgo (T + 1) k' ∧ chg st k k' r (fun h X => s_L_act_b226 st h w X (nI a) v (nI b)) := by
    intro c c0 c1 e
    obtain ⟨r, k', h1, h2, h3⟩ := tap_248 st g w hT ha (show d < 28 by omega) c0 c1
    refine ⟨r, k', h1, h2, ?_⟩
    intro h X sz bl sv bf A T1 T2
    show ∃ h', s_L_act_b226 st h w X (nI a) v (nI b) = _ ∧ _
    rw [e]
    exact h3 h X sz bl sv bf A T1 T2
  by_cases c : ((w >>> ((20 : Int32) &&& 31)) &&& 1) = 0
  · exact fin 200 (by decide) (by decide) fun h X => by rw [s_L_act_b226, ed, bS, if_pos c]; rfl
  · exact fin 1440 (by decide) (by decide) fun h X => by rw [s_L_act_b226, ed, bS, if_neg c]; rfl
/-- a turn's change: none, or one that is told by the state alone -/
theorem act_ok (st : m_T) (g : kgo T k) (hT : T ≤ 23) (v w : Int32) :
    (((v &&& 15) ≤ 2 ∨ 6 ≤ (v &&& 15)) ∧ ∀ (h : mH) (X sz bl : Nat) (sv : Nat → mK) (bf : Nat → Int32), isW h X k sz sv bl bf → s_L_act st h X v w = some (-9, h)) ∨
    ∃ r k', (∃ n, n < 2 ^ 31 ∧ r = nI n) ∧ kgo (T + 1) k' ∧ ((v &&& 15) ≤ 2 ∨ 6 ≤ (v &&& 15) ∨ sumF (kchg k') 16 = (sumF (kchg k) 16 + r) - 100000) ∧ chg st k k' r (fun h X => s_L_act st h X v w) := by
  have hn := g.2.1
  have s0 : ∀ {h : mH} {X sz bl : Nat} {sv : Nat → mK} {bf : Nat → Int32}, isW h X k sz sv bl bf → ∀ f : Int32 × mH → Option (Int32 × mH), ((m_is h 5 X).bind fun _ => (m_ok (s_X7_count h X 0)).bind f) = f (nI (kn k), h) := by
    intro h X sz bl sv bf A f
    rw [is_O A.1, bS, show (0 : Int32) = nI 0 from rfl, okCount A (show 0 < 10 by decide), bS]
    rfl
  have go : ∀ {F : mH → Nat → Option (Int32 × mH)} {P : Int32 → mK → Prop}, (∃ r k', (∃ n, n < 2 ^ 31 ∧ r = nI n) ∧ kgo (T + 1) k' ∧ P r k' ∧ chg st k k' r F) → (∀ r k', P r k' → (v &&& 15) ≤ 2 ∨ 6 ≤ (v &&& 15) ∨ sumF (kchg k') 16 = (sumF (kchg k) 16 + r) - 100000) → (∀ {h : mH} {X sz bl : Nat} {sv : Nat → mK} {bf : Nat → Int32}, isW h X k sz sv bl bf → s_L_act st h X v w = F h X) → ∃ r k', (∃ n, n < 2 ^ 31 ∧ r = nI n) ∧ kgo (T + 1) k' ∧ ((v &&& 15) ≤ 2 ∨ 6 ≤ (v &&& 15) ∨ sumF (kchg k') 16 = (sumF (kchg k) 16 + r) - 100000) ∧ chg st k k' r (fun h X => s_L_act st h X v w) := by
    intro F P hx hp e
    obtain ⟨r, k', h1, h2, h3, h4⟩ := hx
    refine ⟨r, k', h1, h2, hp r k' h3, ?_⟩
    intro h X sz bl sv bf A T1 T2
    show ∃ h', s_L_act st h X v w = _ ∧ _
    rw [e A]
    exact h4 h X sz bl sv bf A T1 T2
  obtain ⟨p, hp, ep⟩ := and_lt v 15
  have e15 : v &&& 15 = nI p := ep
  have ne : ∀ q : Nat, q < 2 ^ 31 → p ≠ q → ¬ (v &&& 15) = nI q := fun q hq z y => z ((nI_eq (by omega) hq).mp (e15.symm.trans y))
  have lo : p ≤ 2 → (v &&& 15) ≤ 2 := fun z => by rw [e15]; exact nI_le (b := 2) z (by decide)
  have hi : 6 ≤ p → 6 ≤ (v &&& 15) := fun z => by rw [e15]; exact nI_le (a := 6) z (by omega)
  by_cases c0 : p ≤ 1
  · refine Or.inr (go (F := fun h X => s_L_act_b60 st h X w) (P := fun _ _ => True) ?_ (fun _ _ _ => Or.inl (lo (by omega))) ?_)
    · obtain ⟨r, k', h1, h2, h3⟩ := set_60 st g w
      exact ⟨r, k', h1, h2, trivial, h3⟩
    · intro h X sz bl sv bf A
      rw [s_L_act, s0 A]
      rcases (show p = 0 ∨ p = 1 by omega) with z | z
      · exact if_pos (by rw [e15, z]; rfl)
      · exact (if_neg (ne 0 (by decide) (by omega))).trans (if_pos (by rw [e15, z]; rfl))
  by_cases c2 : p = 2
  · have e2 : v &&& 15 = 2 := by rw [e15, c2]; rfl
    have st2 : ∀ {h : mH} {X sz bl : Nat} {sv : Nat → mK} {bf : Nat → Int32}, isW h X k sz sv bl bf → s_L_act st h X v w = if nI (kn k) = 0 then (s_L_act_b134 st h (-9)) else ((s_L_low h w (nI (kn k))).bind fun x128 => (m_is h 5 X).bind fun _ => (m_ok (s_X7_remove h X x128)).bind fun (x131, h131) => s_L_act_b134 st h131 x131) := by
      intro h X sz bl sv bf A
      rw [s_L_act, s0 A]
      exact (if_neg (ne 0 (by decide) (by omega))).trans ((if_neg (ne 1 (by decide) (by omega))).trans (if_pos e2))
    by_cases z : kn k = 0
    · refine Or.inl ⟨Or.inl (lo (by omega)), ?_⟩
      intro h X sz bl sv bf A
      rw [st2 A, if_pos (by rw [z]; rfl)]
      rfl
    · obtain ⟨i, hi', ei⟩ := low_ok w (b := kn k) (by omega) (by omega)
      refine Or.inr ⟨nI (kn k - 1), kdel k i, ⟨_, by omega, rfl⟩, (kgo_del g hi').wd (Nat.le_succ _), Or.inl (lo (by omega)), ?_⟩
      intro h X sz bl sv bf A T1 T2
      obtain ⟨h', e1, e2, e3⟩ := remove_W A g.1.1 g.1.2.1 hi'
      refine ⟨h', ?_, e2, e3⟩
      show s_L_act st h X v w = _
      rw [st2 A, if_neg (nI_ne0 (by omega) (by omega)), ei, bS, is_O A.1, bS, e1, okS]
      rfl
  by_cases c5 : p ≤ 5
  · refine Or.inr (go (F := fun h X => s_L_act_b135 st h X w) (P := fun r k' => sumF (kchg k') 16 = (sumF (kchg k) 16 + r) - 100000) ?_ (fun _ _ z => Or.inr (Or.inr z)) ?_)
    · obtain ⟨r, k', h1, h2, h3, h4⟩ := settle_135 st g w
      exact ⟨r, k', h1, h2, h3, h4⟩
    · intro h X sz bl sv bf A
      rw [s_L_act, s0 A]
      refine (if_neg (ne 0 (by decide) (by omega))).trans ((if_neg (ne 1 (by decide) (by omega))).trans ((if_neg (ne 2 (by decide) (by omega))).trans ?_))
      rcases (show p = 3 ∨ p = 4 ∨ p = 5 by omega) with z | z | z
      · exact if_pos (by rw [e15, z]; rfl)
      · exact (if_neg (ne 3 (by decide) (by omega))).trans (if_pos (by rw [e15, z]; rfl))
      · exact (if_neg (ne 3 (by decide) (by omega))).trans ((if_neg (ne 4 (by decide) (by omega))).trans (if_pos (by rw [e15, z]; rfl)))
  by_cases c8 : p ≤ 8
  · refine Or.inr (go (F := fun h X => s_L_act_b143 st h X v w (nI (kn k))) (P := fun _ _ => True) ?_ (fun _ _ _ => Or.inr (Or.inl (hi (by omega)))) ?_)
    · obtain ⟨r, k', h1, h2, h3⟩ := claim_143 st g v w
      exact ⟨r, k', h1, h2, trivial, h3⟩
    · intro h X sz bl sv bf A
      rw [s_L_act, s0 A]
      refine (if_neg (ne 0 (by decide) (by omega))).trans ((if_neg (ne 1 (by decide) (by omega))).trans ((if_neg (ne 2 (by decide) (by omega))).trans ((if_neg (ne 3 (by decide) (by omega))).trans ((if_neg (ne 4 (by decide) (by omega))).trans ((if_neg (ne 5 (by decide) (by omega))).trans ?_)))))
      rcases (show p = 6 ∨ p = 7 ∨ p = 8 by omega) with z | z | z
      · exact if_pos (by rw [e15, z]; rfl)
      · exact (if_neg (ne 6 (by decide) (by omega))).trans (if_pos (by rw [e15, z]; rfl))
      · exact (if_neg (ne 6 (by decide) (by omega))).trans ((if_neg (ne 7 (by decide) (by omega))).trans (if_pos (by rw [e15, z]; rfl)))
  · obtain ⟨a, ha, ea⟩ := low_ok (v >>> ((4 : Int32) &&& 31)) (b := 4) (by decide) (by decide)
    have st9 : ∀ {h : mH} {X sz bl : Nat} {sv : Nat → mK} {bf : Nat → Int32}, isW h X k sz sv bl bf → s_L_act st h X v w = if ((v >>> ((20 : Int32) &&& 31)) &&& 1) = 0 then (s_L_act_b226 st h w X (nI a) (v >>> ((6 : Int32) &&& 31)) 2) else (s_L_act_b226 st h w X (nI a) (v >>> ((6 : Int32) &&& 31)) 28) := by
      intro h X sz bl sv bf A
      rw [s_L_act, s0 A]
      refine (if_neg (ne 0 (by decide) (by omega))).trans ((if_neg (ne 1 (by decide) (by omega))).trans ((if_neg (ne 2 (by decide) (by omega))).trans ((if_neg (ne 3 (by decide) (by omega))).trans ((if_neg (ne 4 (by decide) (by omega))).trans ((if_neg (ne 5 (by decide) (by omega))).trans ((if_neg (ne 6 (by decide) (by omega))).trans ((if_neg (ne 7 (by decide) (by omega))).trans ((if_neg (ne 8 (by decide) (by omega))).trans ((if_neg (show ¬ nI (kn k) = 24 from fun z => absurd ((nI_eq (b := 24) (by omega) (by decide)).mp z) (by omega))).trans ?_)))))))))
      show ((s_L_low h (v >>> ((4 : Int32) &&& 31)) 4).bind fun x204 => _) = _
      rw [show (4 : Int32) = nI 4 from rfl] at ea ⊢
      rw [ea, bS]
    have fin : ∀ b : Nat, 0 < b → b ≤ 28 → (∀ {h : mH} {X sz bl : Nat} {sv : Nat → mK} {bf : Nat → Int32}, isW h X k sz sv bl bf → s_L_act st h X v w = s_L_act_b226 st h w X (nI a) (v >>> ((6 : Int32) &&& 31)) (nI b)) → ∃ r k', (∃ n, n < 2 ^ 31 ∧ r = nI n) ∧ kgo (T + 1) k' ∧ ((v &&& 15) ≤ 2 ∨ 6 ≤ (v &&& 15) ∨ sumF (kchg k') 16 = (sumF (kchg k) 16 + r) - 100000) ∧ chg st k k' r (fun h X => s_L_act st h X v w) := by
      intro b b0 b1 e
      refine go (F := fun h X => s_L_act_b226 st h w X (nI a) (v >>> ((6 : Int32) &&& 31)) (nI b)) (P := fun _ _ => True) ?_ (fun _ _ _ => Or.inr (Or.inl (hi (by omega)))) e
      obtain ⟨r, k', h1, h2, h3⟩ := tap_226 st g (v >>> ((6 : Int32) &&& 31)) w (show kn k < 60 by omega) ha b0 b1
      exact ⟨r, k', h1, h2, trivial, h3⟩
    by_cases c : ((v >>> ((20 : Int32) &&& 31)) &&& 1) = 0
    · exact Or.inr (fin 2 (by decide) (by decide) fun A => (st9 A).trans (if_pos c))
    · exact Or.inr (fin 28 (by decide) (by decide) fun A => (st9 A).trans (if_neg c))
end AC
