/-! PURE: the law's property holds of every state that may stand -/
section HO
variable {T : Nat} {k : mK} {st : m_T} {h : mH} {X sz bl : Nat} {sv : Nat → mK} {bf : Nat → Int32}
theorem now_W (A : isW h X k sz sv bl bf) (g : kgo T k) (hsz : sz ≤ 6) (T1 : isT h (st.2 1) 6 (m_tab 1)) (T2 : isT h (st.2 2) 6 (m_tab 2)) {i : Nat} (hi : i < 6) (h3 : i ≠ 3) : ∃ h', s_L_now st h X (nI i) = some (kset k i, h') ∧ isW h' X k (min sz 5) sv bl bf ∧ fr h h' X (X + 87) := by
  obtain ⟨h1, e1, e2, e3⟩ := set_W T1 T2 A g.1.1 g.1.2.1 hi (v := nI 1) (by rw [lo_tab i hi]; exact lo_ok (fun z => absurd z h3) (by decide)) (by rw [hi_tab i hi]; exact Int32.not_lt.mp (hi_ok hi (Or.inl (by decide))))
  have e2' : isW h1 X (kset' k i (nI 1)) (min sz 5 + 1) (kpush sv k) bl bf := by
    rw [show min sz 5 + 1 = min (sz + 1) 6 by omega]
    exact e2
  obtain ⟨h2, f1, f2, f3⟩ := undo_W e2' (by omega) (show kn k ≤ 60 from g.1.1) (show vTs (kn k) (ktp k) from g.1.2.1)
  refine ⟨h2, ?_, f2, e3.tr f3⟩
  have e1' : s_X7_set st h X (nI i) 1 = some (Sum.inr (kset k i), h1) := e1
  rw [s_L_now, is_O A.1, bS, e1', okS, bS]
  show ((m_is h1 5 X).bind fun _ => _) = _
  rw [is_O e2.1, bS, f1, okS]
  rfl
theorem tapS (A : isW h X k sz sv bl bf) (hk : kok k) {i p : Nat} (hi : i < kn k) (hp : p < 8) {β : Type} (f : Int32 × mH → Option β) : ((m_is h 5 X).bind fun _ => (m_ok (s_X7_tapOf h X (nI i) (nI p))).bind f) = f (aTap k i p, h) := by
  rw [is_O A.1, bS, okTap A hk.1 hk.2.1 hi hp, bS]
theorem cntS (A : isW h X k sz sv bl bf) {p : Nat} (hp : p < 10) {β : Type} (f : Int32 × mH → Option β) : ((m_is h 5 X).bind fun _ => (m_ok (s_X7_count h X (nI p))).bind f) = f (aCount k sz p, h) := by
  rw [is_O A.1, bS, okCount A hp, bS]
theorem weekS (A : isW h X k sz sv bl bf) {w d p : Nat} (hw : w < 4) (hd : d < 4) (hp : p < 7) {β : Type} (f : Int32 × mH → Option β) : ((m_is h 5 X).bind fun _ => (m_ok (s_X7_week h X (nI w) (nI d) (nI p))).bind f) = f (aWeek k w d p, h) := by
  rw [is_O A.1, bS, okWeek A hw hd hp, bS]
theorem dayS (A : isW h X k sz sv bl bf) {w d p : Nat} (hw : w < 4) (hd : d < 28) (hp : p < 4) {β : Type} (f : Int32 × mH → Option β) : ((m_is h 5 X).bind fun _ => (m_ok (s_X7_day h X (nI w) (nI d) (nI p))).bind f) = f (aDay k w d p, h) := by
  rw [is_O A.1, bS, okDay A hw hd hp, bS]
/-- the checks of a tap with its mate -/
theorem mate_132 (A : isW h X k sz sv bl bf) (hk : kok k) {K : mH → Nat → Int32 → Int32 → Int32 → Int32 → Int32 → Int32 → Int32 → Int32 → Option (Int32 × mH)} {v1 v2 v3 v4 v6 v7 v9 : Int32} {i q : Nat} (hi : i < kn k) (hq : q < kn k) (e1 : mtk k i = nI q) (e2 : mtk k q = nI i) (w0 : ktp k q 0 = ktp k i 0) (w1 : ktp k q 1 = ktp k i 1) (w4 : ktp k q 4 ≠ ktp k i 4) : s_L_holds_b132 st K h X v1 v2 v3 v4 v6 v7 (nI i) v9 (nI q) = K h X v1 v2 v3 v4 v9 v6 v7 (nI (i + 1)) := by
  have hn := hk.1
  have vi := hk.2.1 i hi
  have vq := hk.2.1 q hq
  have tq : ∀ {p : Nat}, p < 8 → ∀ {β : Type} (f : Int32 × mH → Option β), ((m_is h 5 X).bind fun _ => (m_ok (s_X7_tapOf h X (nI q) (nI p))).bind f) = f (aTap k q p, h) := fun hp _ f => tapS A hk hq hp f
  have ti : ∀ {p : Nat}, p < 8 → ∀ {β : Type} (f : Int32 × mH → Option β), ((m_is h 5 X).bind fun _ => (m_ok (s_X7_tapOf h X (nI i) (nI p))).bind f) = f (aTap k i p, h) := fun hp _ f => tapS A hk hi hp f
  rw [s_L_holds_b132, if_neg (nI_pos (show q < 2 ^ 31 by omega))]
  refine (tq (p := 5) (by decide) _).trans ?_
  refine (if_pos (show mtk k q = nI i from e2)).trans ?_
  refine (tq (p := 0) (by decide) _).trans ?_
  refine (ti (p := 0) (by decide) _).trans ?_
  refine (if_pos (show nI (ktp k q 0) = nI (ktp k i 0) by rw [w0])).trans ?_
  refine (tq (p := 1) (by decide) _).trans ?_
  refine (ti (p := 1) (by decide) _).trans ?_
  refine (if_pos (show nI (ktp k q 1) = nI (ktp k i 1) by rw [w1])).trans ?_
  refine (tq (p := 4) (by decide) _).trans ?_
  refine (ti (p := 4) (by decide) _).trans ?_
  refine (if_neg (show ¬ nI (ktp k q 4) = nI (ktp k i 4) from fun z => w4 ((nI_eq (by have := vq.2.2.2.2.1; omega) (by have := vi.2.2.2.2.1; omega)).mp z))).trans ?_
  refine (tq (p := 6) (by decide) _).trans ?_
  refine (ti (p := 6) (by decide) _).trans ?_
  refine (if_pos (show fareOf (kset k) (ktp k) (mt (kn k) (kset k 3) (ktp k)) q = fareOf (kset k) (ktp k) (mt (kn k) (kset k 3) (ktp k)) i from fare_sym hk hi hq e1 e2)).trans ?_
  rw [s_L_holds_b221, nI_1]
theorem step_86 (A : isW h X k sz sv bl bf) (hk : kok k) {K : mH → Nat → Int32 → Int32 → Int32 → Int32 → Int32 → Int32 → Int32 → Int32 → Option (Int32 × mH)} {v2 v3 v4 : Int32} {i b : Nat} (hi : i < kn k) (hb : b ≤ tm (ktp k i)) :
    (if 0 ≤ mtk k i then s_L_holds_b86 st K h X (kset k 2) v2 v3 v4 (nI b) (sumF (pr k) i) (nI i) (nI (tm (ktp k i))) (mtk k i) (sumF (al k) i) 0 else s_L_holds_b86 st K h X (kset k 2) v2 v3 v4 (nI b) (sumF (pr k) i) (nI i) (nI (tm (ktp k i))) (mtk k i) (sumF (al k) i) 1) = K h X (kset k 2) v2 v3 v4 (nI (tm (ktp k i))) (sumF (al k) (i + 1)) (sumF (pr k) (i + 1)) (nI (i + 1)) := by
  have hn := hk.1
  have vi := hk.2.1 i hi
  have tl : tm (ktp k i) < 2 ^ 31 := by
    have h1 := vi.2.1
    have h2 := vi.2.2.1
    unfold tm
    omega
  have sa : ∀ x, al k i = x → sumF (al k) (i + 1) = sumF (al k) i + x := fun x e => by rw [← e]; rfl
  have sp : ∀ x, pr k i = x → sumF (pr k) (i + 1) = sumF (pr k) i + x := fun x e => by rw [← e]; rfl
  rcases mate_c hi with c | ⟨q, hq, e1, e2, w0, w1, w4⟩
  · have p0 : pr k i = 0 := if_pos (by rw [c]; exact m1_le (by omega))
    have a1 : al k i = 1 := if_pos c
    rw [sa 1 a1, sp 0 p0, c, if_neg (show ¬ (0 : Int32) ≤ -1 by decide), s_L_holds_b86, if_pos (show (-1 : Int32) ≤ nI i from m1_le (by omega)), s_L_holds_b103, if_neg (nI_nlt hb tl), if_neg (show ¬ (0 : Int32) ≤ -1 by decide)]
    refine (tapS A hk hi (p := 6) (by decide) _).trans ?_
    refine (if_pos (show fareOf (kset k) (ktp k) (mt (kn k) (kset k 3) (ktp k)) i = kset k 2 from if_pos c)).trans ?_
    rw [s_L_holds_b132, if_pos (show (-1 : Int32) < 0 by decide), s_L_holds_b221, nI_1]
  · have a0 : al k i = 0 := if_neg (by rw [e1]; exact neg1 (by omega))
    rw [sa 0 a0, e1, if_pos (nI_pos' (show q < 2 ^ 31 by omega)), s_L_holds_b86]
    by_cases c : q ≤ i
    · have p0 : pr k i = 0 := if_pos (by rw [e1]; exact nI_le c (by omega))
      rw [sp 0 p0, if_pos (nI_le c (by omega)), s_L_holds_b103, if_neg (nI_nlt hb tl), if_pos (nI_pos' (show q < 2 ^ 31 by omega))]
      exact mate_132 A hk hi hq e1 e2 w0 w1 w4
    · have p1 : pr k i = 1 := if_neg (by rw [e1]; exact nI_ge (by omega) (by omega))
      rw [sp 1 p1, if_neg (nI_ge (show i < q by omega) (by omega)), s_L_holds_b103, if_neg (nI_nlt hb tl), if_pos (nI_pos' (show q < 2 ^ 31 by omega))]
      exact mate_132 A hk hi hq e1 e2 w0 w1 w4
theorem hold_37 (A : isW h X k sz sv bl bf) (g : kgo T k) {v2 v3 : Int32} : ∀ (d i F b : Nat), i + d = kn k → d < F → (∀ j, i ≤ j → j < kn k → b ≤ tm (ktp k j)) → s_L_holds_L37 st F h X (kset k 2) v2 v3 (nI (kn k)) (nI b) (sumF (al k) i) (sumF (pr k) i) (nI i) = s_L_holds_L243 st m_F h X v2 v3 (sumF (al k) (kn k)) (sumF (pr k) (kn k)) 0 0 0 0 := by
  have hk := g.1
  have hn := hk.1
  intro d
  induction d with
  | zero =>
    intro i F b hi hF hb
    obtain ⟨F, rfl⟩ : ∃ F', F = F' + 1 := ⟨F - 1, by omega⟩
    obtain rfl : i = kn k := by omega
    rw [s_L_holds_L37, if_pos (Int32.le_refl _)]
  | succ d ih =>
    intro i F b hi hF hb
    obtain ⟨F, rfl⟩ : ∃ F', F = F' + 1 := ⟨F - 1, by omega⟩
    have hin : i < kn k := by omega
    have nx := ih (i + 1) F (tm (ktp k i)) (by omega) (by omega) (fun j h1 h2 => g.2.2.1 i j (by omega) h2)
    rw [s_L_holds_L37, if_neg (nI_ge hin (by omega))]
    refine (tapS A hk hin (p := 1) (by decide) _).trans ?_
    refine (tapS A hk hin (p := 2) (by decide) _).trans ?_
    refine (tapS A hk hin (p := 5) (by decide) _).trans ?_
    have et : (1440 * nI (ktp k i 1)) + nI (ktp k i 2) = nI (tm (ktp k i)) := by
      rw [show (1440 : Int32) = nI 1440 from rfl, nI_mul, nI_add]
      rfl
    show (if 0 ≤ mtk k i then s_L_holds_b86 st (s_L_holds_L37 st F) h X (kset k 2) v2 v3 (nI (kn k)) (nI b) (sumF (pr k) i) (nI i) ((1440 * nI (ktp k i 1)) + nI (ktp k i 2)) (mtk k i) (sumF (al k) i) 0 else s_L_holds_b86 st (s_L_holds_L37 st F) h X (kset k 2) v2 v3 (nI (kn k)) (nI b) (sumF (pr k) i) (nI i) ((1440 * nI (ktp k i 1)) + nI (ktp k i 2)) (mtk k i) (sumF (al k) i) 1) = _
    rw [et]
    exact (step_86 A hk hin (hb i (Nat.le_refl _) hin)).trans nx
theorem minI (s x : Int32) : ¬ s < (if s < x then s else x) ∧ (if s < x then s else x) ≤ x ∧ (¬ x ≤ (if s < x then s else x) → (if s < x then s else x) = s) := by
  by_cases c : s < x
  · rw [if_pos c]
    exact ⟨Int32.lt_irrefl, Int32.le_of_lt c, fun _ => rfl⟩
  · rw [if_neg c]
    exact ⟨c, Int32.le_refl _, fun z => absurd (Int32.le_refl _) z⟩
theorem hold_272 (A : isW h X k sz sv bl bf) (g : kgo T k) {K : mH → Nat → Int32 → Int32 → Int32 → Int32 → Int32 → Int32 → Int32 → Int32 → Option (Int32 × mH)} {v6 v7 v8 v9 v10 v11 : Int32} {w q : Nat} (hw : w < 4) (hq : q < 4) : ∀ (d t F : Nat), t + d = 7 → d < F → s_L_holds_L272 st K F h X (kset k 4) (kset k 5) v6 v7 v8 v9 v10 v11 (nI w) (nI q) (sumF (fun i => dcost (kn k) (kset k) (ktp k) w (q * 7 + i)) t) (nI (q * 7 + t)) = K h X (kset k 4) (kset k 5) v6 v7 (v8 + kw k w q) (v9 + kchg k (w * 4 + q)) (v10 + wsum (dF (kn k) (kset k) (ktp k)) w q) (v11 + 1) := by
  have hk := g.1
  intro d
  induction d with
  | zero =>
    intro t F ht hF
    obtain ⟨F, rfl⟩ : ∃ F', F = F' + 1 := ⟨F - 1, by omega⟩
    obtain rfl : t = 7 := by omega
    have c7 : (7 * nI q) + 7 ≤ nI (q * 7 + 7) := by
      rw [show (7 : Int32) = nI 7 from rfl, nI_mul, nI_add]
      exact nI_le (by omega) (by omega)
    obtain ⟨m1, m2, m3⟩ := minI (kset k 5) (wdays (kn k) (kset k) (ktp k) w q)
    obtain ⟨a, b, e1, e2, e3, e4⟩ := sum_nI (n := 7) (fun i _ => dcost_nI hk w (q * 7 + i))
    have dl : ¬ wsum (dF (kn k) (kset k) (ktp k)) w q < wdays (kn k) (kset k) (ktp k) w q := by
      rw [show wsum (dF (kn k) (kset k) (ktp k)) w q = nI b from e2, show wdays (kn k) (kset k) (ktp k) w q = nI a from e1]
      exact nI_nlt e3 (by omega)
    obtain ⟨cl, hcl, ecl⟩ := g.2.2.2.1 (w * 4 + q) (by omega)
    have fin : s_L_holds_b431 st K h X (kset k 4) (kset k 5) v6 v7 (v8 + kw k w q) (v9 + kchg k (w * 4 + q)) (v10 + wsum (dF (kn k) (kset k) (ktp k)) w q) v11 (nI w) (nI q) = K h X (kset k 4) (kset k 5) v6 v7 (v8 + kw k w q) (v9 + kchg k (w * 4 + q)) (v10 + wsum (dF (kn k) (kset k) (ktp k)) w q) (v11 + 1) := by
      rw [s_L_holds_b431]
      refine (weekS A hw hq (p := 5) (by decide) _).trans ?_
      exact if_pos (show kclm k (w * 4 + q) ≤ 2 by rw [ecl]; exact nI_le (b := 2) hcl (by decide))
    rw [s_L_holds_L272, if_pos c7]
    refine (weekS A hw hq (p := 3) (by decide) _).trans ?_
    refine (weekS A hw hq (p := 4) (by decide) _).trans ?_
    refine (weekS A hw hq (p := 1) (by decide) _).trans ?_
    refine (if_neg (show ¬ kset k 5 < wcost (kn k) (kset k) (ktp k) w q from m1)).trans ?_
    refine (if_neg (show ¬ wdays (kn k) (kset k) (ktp k) w q < wcost (kn k) (kset k) (ktp k) w q from Int32.not_lt.mpr m2)).trans ?_
    refine (weekS A hw hq (p := 2) (by decide) _).trans ?_
    refine (if_pos (show wdays (kn k) (kset k) (ktp k) w q = wdays (kn k) (kset k) (ktp k) w q from rfl)).trans ?_
    refine (weekS A hw hq (p := 1) (by decide) _).trans ?_
    refine (if_neg dl).trans ?_
    by_cases z : wdays (kn k) (kset k) (ktp k) w q ≤ wcost (kn k) (kset k) (ktp k) w q
    · exact (if_pos z).trans fin
    · exact (if_neg z).trans ((if_pos (show wcost (kn k) (kset k) (ktp k) w q = kset k 5 from m3 z)).trans fin)
  | succ d ih =>
    intro t F ht hF
    obtain ⟨F, rfl⟩ : ∃ F', F = F' + 1 := ⟨F - 1, by omega⟩
    have c7 : ¬ (7 * nI q) + 7 ≤ nI (q * 7 + t) := by
      rw [show (7 : Int32) = nI 7 from rfl, nI_mul, nI_add]
      exact nI_ge (by omega) (by omega)
    obtain ⟨m1, m2, -⟩ := minI (kset k 4) (dF (kn k) (kset k) (ktp k) (w * 28 + (q * 7 + t)))
    have nx := ih (t + 1) F (by omega) (by omega)
    rw [s_L_holds_L272, if_neg c7]
    refine (dayS A hw (show q * 7 + t < 28 by omega) (p := 3) (by decide) _).trans ?_
    refine (if_neg (show ¬ kset k 4 < dcost (kn k) (kset k) (ktp k) w (q * 7 + t) from m1)).trans ?_
    refine (dayS A hw (show q * 7 + t < 28 by omega) (p := 2) (by decide) _).trans ?_
    refine (if_pos (show dcost (kn k) (kset k) (ktp k) w (q * 7 + t) ≤ dF (kn k) (kset k) (ktp k) (w * 28 + (q * 7 + t)) from m2)).trans ?_
    show s_L_holds_L272 st K F h X (kset k 4) (kset k 5) v6 v7 v8 v9 v10 v11 (nI w) (nI q) (sumF (fun i => dcost (kn k) (kset k) (ktp k) w (q * 7 + i)) t + dcost (kn k) (kset k) (ktp k) w (q * 7 + t)) (nI (q * 7 + t) + 1) = _
    rw [nI_1]
    exact nx
theorem hold_510 (A : isW h X k sz sv bl bf) (hk : kok k) : s_L_holds_b510 st h X (sumF (al k) (kn k)) (sumF (pr k) (kn k)) (sumF (kwj k) 16) (sumF (kchg k) 16) 1 = some (1, h) := by
  rw [s_L_holds_b510, if_neg (show ¬ (1 : Int32) = 0 by decide)]
  refine (cntS A (p := 2) (by decide) _).trans ?_
  refine (if_pos (show sumF (al k) (kn k) = sumF (dA (kn k) (kset k) (ktp k)) 112 from (alone_al hk).symm)).trans ?_
  refine (cntS A (p := 1) (by decide) _).trans ?_
  refine (if_pos (show sumF (al k) (kn k) + sumF (pr k) (kn k) = sumF (dR (kn k) (kset k) (ktp k)) 112 from (ride_sum hk).symm)).trans ?_
  refine (cntS A (p := 3) (by decide) _).trans ?_
  refine (if_pos (show sumF (kwj k) 16 = sumF (kwj k) 16 from rfl)).trans ?_
  refine (cntS A (p := 4) (by decide) _).trans ?_
  refine (if_pos (show sumF (kchg k) 16 = sumF (kchg k) 16 from rfl)).trans ?_
  show ((m_is h 5 X).bind fun _ => (s_X7_leaky h X).bind fun x561 => if 0 ≤ x561 then (s_L_holds_b572 st h (sumF (al k) (kn k)) 0) else (s_L_holds_b572 st h (sumF (al k) (kn k)) 1)) = _
  rw [is_O A.1, bS, leaky_W A, bS]
  rcases leak_c hk with ⟨c1, c2⟩ | ⟨c1, c2⟩
  · rw [c2, if_neg (show ¬ (0 : Int32) ≤ -1 by decide), s_L_holds_b572, if_pos c1, s_L_holds_b582, if_pos rfl]
    rfl
  · rw [if_pos c2, s_L_holds_b572, if_neg c1, s_L_holds_b582, if_pos rfl]
    rfl
theorem hold_end (A : isW h X k sz sv bl bf) (hk : kok k) {F : Nat} {v2 v3 : Int32} : s_L_holds_L243 st (F + 1) h X v2 v3 (sumF (al k) (kn k)) (sumF (pr k) (kn k)) (sumF (kwj k) 16) (sumF (kchg k) 16) (aFares k) (nI 16) = some (1, h) := by
  have fin := hold_510 (st := st) A hk
  obtain ⟨a, b, e1, e2, e3, e4⟩ := tot_nI hk
  have cs := capShare_W A
  rw [s_L_holds_L243, if_pos (show (16 : Int32) ≤ nI 16 by decide), is_O A.1, bS, cs]
  rcases Nat.eq_zero_or_pos b with z | z
  · have f0 : aFares k = 0 := by rw [e2, z]; rfl
    rw [if_pos (show aFares k ≤ 0 by rw [f0]; decide), bS, if_pos f0, if_pos shP_1.2.1]
    exact fin
  · have f0 : ¬ aFares k ≤ 0 := by rw [e2]; exact nI_nle z (by omega)
    have f1 : ¬ aFares k = 0 := by rw [e2]; exact nI_ne0 z (by omega)
    have sd := shP_div e3 z (by omega)
    rw [← e1, ← e2] at sd
    obtain ⟨s1, s2, s3, s4⟩ := sd
    rw [if_neg f0, s1, bS, if_neg f1, bS, if_pos s2, if_neg s3, if_neg s4]
    exact fin
theorem hold_243 (A : isW h X k sz sv bl bf) (g : kgo T k) : ∀ (d j F : Nat), j + d = 16 → d < F → s_L_holds_L243 st F h X (kset k 4) (kset k 5) (sumF (al k) (kn k)) (sumF (pr k) (kn k)) (sumF (kwj k) j) (sumF (kchg k) j) (sumF (fun c => wsum (dF (kn k) (kset k) (ktp k)) (c / 4) (c % 4)) j) (nI j) = some (1, h) := by
  intro d
  induction d with
  | zero =>
    intro j F hj hF
    obtain ⟨F, rfl⟩ : ∃ F', F = F' + 1 := ⟨F - 1, by omega⟩
    obtain rfl : j = 16 := by omega
    rw [sumF_weeks]
    exact hold_end A g.1
  | succ d ih =>
    intro j F hj hF
    obtain ⟨F, rfl⟩ : ∃ F', F = F' + 1 := ⟨F - 1, by omega⟩
    have nx := ih (j + 1) F (by omega) (by omega)
    have c : ¬ (16 : Int32) ≤ nI j := nI_ge (b := 16) (by omega) (by decide)
    have r := hold_272 (st := st) A g (K := s_L_holds_L243 st F) (v6 := sumF (al k) (kn k)) (v7 := sumF (pr k) (kn k)) (v8 := sumF (kwj k) j) (v9 := sumF (kchg k) j) (v10 := sumF (fun c => wsum (dF (kn k) (kset k) (ktp k)) (c / 4) (c % 4)) j) (v11 := nI j) (w := j / 4) (q := j % 4) (by omega) (by omega) 7 0 m_F (by decide) (by unfold m_F; decide)
    rw [show j / 4 * 4 + j % 4 = j by omega, nI_1] at r
    have e7 : (7 : Int32) * nI (j % 4) = nI (j % 4 * 7 + 0) := by
      rw [show (7 : Int32) = nI 7 from rfl, nI_mul]
      congr 1
      omega
    have m4 : m_div (nI j) 4 = some (nI (j / 4)) := m_div_nI (b := 4) (by omega) (by decide) (by decide)
    have r4 : m_rem (nI j) 4 = some (nI (j % 4)) := m_rem_nI (b := 4) (by omega) (by decide) (by decide)
    rw [s_L_holds_L243, if_neg c, m4, bS, r4, bS, e7]
    exact r.trans nx
theorem holds_W (A : isW h X k sz sv bl bf) (g : kgo T k) (hsz : sz ≤ 6) (T1 : isT h (st.2 1) 6 (m_tab 1)) (T2 : isT h (st.2 2) 6 (m_tab 2)) (l1 : st.2 1 < X) (l2 : st.2 2 < X) : ∃ h', s_L_holds st h X = some (1, h') ∧ isW h' X k (min sz 5) sv bl bf ∧ fr h h' X (X + 87) := by
  have hm : min (min sz 5) 5 = min sz 5 := by omega
  obtain ⟨h1, e1, A1, F1⟩ := now_W A g hsz T1 T2 (show 2 < 6 by decide) (by decide)
  obtain ⟨h2, e2, A2, F2⟩ := now_W A1 g (by omega) (T1.fr F1 (Or.inl l1)) (T2.fr F1 (Or.inl l2)) (show 4 < 6 by decide) (by decide)
  rw [hm] at A2
  have F12 := F1.tr F2
  obtain ⟨h3, e3, A3, F3⟩ := now_W A2 g (by omega) (T1.fr F12 (Or.inl l1)) (T2.fr F12 (Or.inl l2)) (show 5 < 6 by decide) (by decide)
  rw [hm] at A3
  refine ⟨h3, ?_, A3, F12.tr F3⟩
  have d2 : s_L_now st h X 2 = some (kset k 2, h1) := e1
  have d4 : s_L_now st h1 X 4 = some (kset k 4, h2) := e2
  have d5 : s_L_now st h2 X 5 = some (kset k 5, h3) := e3
  rw [s_L_holds, d2, bS]
  show ((s_L_now st h1 X 4).bind fun x => _) = _
  rw [d4, bS]
  show ((s_L_now st h2 X 5).bind fun x => _) = _
  rw [d5, bS]
  refine (cntS A3 (p := 0) (by decide) _).trans ?_
  refine (hold_37 A3 g (kn k) 0 m_F 0 (by omega) (by have := g.1.1; unfold m_F; omega) (fun j _ _ => Nat.zero_le _)).trans ?_
  exact hold_243 A3 g 16 0 m_F (by decide) (by unfold m_F; decide)
end HO
