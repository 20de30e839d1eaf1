/-! PURE: what the law counts, and what the class counts -/
section HS
variable {T : Nat} {k : mK}
theorem neg1 {q : Nat} (hq : q < 2 ^ 31) : ¬ nI q = -1 := fun z => nI_pos hq (by rw [z]; decide)
theorem m1_le {n : Nat} (h : n < 2 ^ 31) : (-1 : Int32) ≤ nI n := by
  have e : (-1 : Int32).toInt = -1 := by decide
  rw [Int32.le_iff_toInt_le, nI_toInt h, e]
  omega
/-- the mate of each tap -/
noncomputable def mtk (k : mK) (i : Nat) : Int32 := mt (kn k) (kset k 3) (ktp k) i
theorem mate_c {i : Nat} (hi : i < kn k) : mtk k i = -1 ∨ ∃ q, q < kn k ∧ mtk k i = nI q ∧ mtk k q = nI i ∧ ktp k q 0 = ktp k i 0 ∧ ktp k q 1 = ktp k i 1 ∧ ktp k q 4 ≠ ktp k i 4 := by
  have hM := mt_is (kn k) (kset k 3) (ktp k)
  by_cases c1 : ∃ q, pq (kn k) (kset k 3) (ktp k) i q
  · obtain ⟨q, hq⟩ := c1
    obtain ⟨p1, p2, p3, p4, p5, p6, p7, p8⟩ := id hq
    exact Or.inr ⟨q, p2, (hM i hi).1 q hq, (hM q p2).2.1 i hq, p3.symm, p7.symm, by omega⟩
  · by_cases c2 : ∃ q, pq (kn k) (kset k 3) (ktp k) q i
    · obtain ⟨q, hq⟩ := c2
      obtain ⟨p1, p2, p3, p4, p5, p6, p7, p8⟩ := id hq
      exact Or.inr ⟨q, by omega, (hM i hi).2.1 q hq, (hM q (by omega)).1 i hq, p3, p7, by omega⟩
    · exact Or.inl ((hM i hi).2.2 fun q => ⟨fun z => c1 ⟨q, z⟩, fun z => c2 ⟨q, z⟩⟩)
theorem abs_sym : ∀ a, a < 5 → ∀ b, b < 5 → absI (nI a - nI b) = absI (nI b - nI a) := by decide
theorem fare_sym (hk : kok k) {i q : Nat} (hi : i < kn k) (hq : q < kn k) (e1 : mtk k i = nI q) (e2 : mtk k q = nI i) : fareOf (kset k) (ktp k) (mt (kn k) (kset k 3) (ktp k)) q = fareOf (kset k) (ktp k) (mt (kn k) (kset k 3) (ktp k)) i := by
  have hn := hk.1
  have f1 : mt (kn k) (kset k 3) (ktp k) i = nI q := e1
  have f2 : mt (kn k) (kset k 3) (ktp k) q = nI i := e2
  have v3 := (hk.2.1 i hi).2.2.2.1
  have w3 := (hk.2.1 q hq).2.2.2.1
  unfold fareOf
  rw [f1, f2, if_neg (neg1 (by omega)), if_neg (neg1 (by omega)), nI_cl (show i < 2 ^ 31 by omega), nI_cl (show q < 2 ^ 31 by omega), abs_sym _ (by omega) _ (by omega)]
/-- a tap alone; a first tap of two -/
noncomputable def al (k : mK) (i : Nat) : Int32 := if mtk k i = -1 then 1 else 0
noncomputable def pr (k : mK) (i : Nat) : Int32 := if mtk k i ≤ nI i then 0 else 1
theorem alone_al (hk : kok k) : sumF (dA (kn k) (kset k) (ktp k)) 112 = sumF (al k) (kn k) := alone_sum hk.2.1
theorem ride_sum (hk : kok k) : sumF (dR (kn k) (kset k) (ktp k)) 112 = sumF (al k) (kn k) + sumF (pr k) (kn k) := by
  show sumF (fun c => sumF (gR (ktp k) (mt (kn k) (kset k 3) (ktp k)) c) (kn k)) 112 = _
  rw [sumF_swap, ← sumF_add]
  refine sumF_ext fun i hi => ?_
  have hn := hk.1
  have hc := cel_lt (hk.2.1 i hi)
  have one : (al k i + pr k i) = if mtk k i = -1 ∨ ¬ mtk k i ≤ nI i then 1 else 0 := by
    unfold al pr
    by_cases q : mtk k i = -1
    · rw [if_pos q, if_pos (Or.inl q), if_pos (by rw [q]; exact m1_le (by omega))]
      rfl
    · rw [if_neg q]
      by_cases z : mtk k i ≤ nI i
      · rw [if_pos z, if_neg (fun y => y.elim q fun x => x z)]
        rfl
      · rw [if_neg z, if_pos (Or.inr z)]
        rfl
  rw [one]
  have s1 := sumF_one (x := (if mtk k i = -1 ∨ ¬ mtk k i ≤ nI i then 1 else 0)) (c0 := cel (ktp k) i) 112
  rw [if_pos hc] at s1
  rw [← s1]
  refine sumF_ext fun c _ => ?_
  show (if cel (ktp k) i = c ∧ (mtk k i = -1 ∨ ¬ mtk k i ≤ nI i) then (1 : Int32) else 0) = _
  by_cases z : cel (ktp k) i = c
  · rw [if_pos z]
    by_cases y : mtk k i = -1 ∨ ¬ mtk k i ≤ nI i
    · rw [if_pos ⟨z, y⟩, if_pos y]
    · rw [if_neg (fun x => y x.2), if_neg y]
  · rw [if_neg (fun x => z x.1), if_neg z]
theorem cnt01 {g : Nat → Int32} : ∀ {n : Nat}, (∀ i, i < n → g i = 0 ∨ g i = 1) → ∃ a, a ≤ n ∧ sumF g n = nI a ∧ (a = 0 ↔ ∀ i, i < n → g i = 0)
  | 0, _ => ⟨0, Nat.le_refl _, rfl, fun _ i hi => absurd hi (Nat.not_lt_zero _), fun _ => rfl⟩
  | n + 1, h => by
    obtain ⟨a, h1, h2, h3⟩ := cnt01 (n := n) (fun i hi => h i (by omega))
    rcases h n (by omega) with c | c
    · refine ⟨a, by omega, ?_, fun z i hi => ?_, fun z => h3.mpr fun i hi => z i (by omega)⟩
      · show sumF g n + g n = _
        rw [h2, c, Int32.add_zero]
      · by_cases q : i = n
        · rw [q]; exact c
        · exact h3.mp z i (by omega)
    · refine ⟨a + 1, by omega, ?_, fun z => absurd z (by omega), fun z => ?_⟩
      · show sumF g n + g n = _
        rw [h2, c, nI_1]
      · have := z n (by omega)
        rw [c] at this
        exact absurd this (by decide)
theorem lk_nI (hk : kok k) (s : Nat) : ∃ c, c ≤ 60 ∧ lk (kn k) (kset k) (ktp k) s = nI c ∧ (c = 0 ↔ ∀ i, i < kn k → ¬ (mtk k i = -1 ∧ ktp k i 3 = s)) := by
  have hn := hk.1
  obtain ⟨c, h1, h2, h3⟩ := cnt01 (g := gL (ktp k) (mt (kn k) (kset k 3) (ktp k)) s) (n := kn k) (fun i _ => by
    unfold gL
    split
    · exact Or.inr rfl
    · exact Or.inl rfl)
  have e : ∀ i, gL (ktp k) (mt (kn k) (kset k 3) (ktp k)) s i = 0 ↔ ¬ (mtk k i = -1 ∧ ktp k i 3 = s) := by
    intro i
    show (if mtk k i = -1 ∧ ktp k i 3 = s then (1 : Int32) else 0) = 0 ↔ _
    by_cases q : mtk k i = -1 ∧ ktp k i 3 = s
    · rw [if_pos q]
      exact ⟨fun z => absurd z (by decide), fun z => absurd q z⟩
    · rw [if_neg q]
      exact ⟨fun _ => q, fun _ => rfl⟩
  exact ⟨c, by omega, h2, fun z i hi => (e i).mp (h3.mp z i hi), fun z => h3.mpr fun i hi => (e i).mpr (z i hi)⟩
theorem leak_L (hk : kok k) : ∀ m, m ≤ 10 → (aLeak k m = (0, -1) ∧ ∀ s, s < m → lk (kn k) (kset k) (ktp k) s = nI 0) ∨ ∃ s c, s < m ∧ 0 < c ∧ c ≤ 60 ∧ lk (kn k) (kset k) (ktp k) s = nI c ∧ aLeak k m = (nI c, nI s)
  | 0, _ => Or.inl ⟨rfl, fun s hs => absurd hs (Nat.not_lt_zero _)⟩
  | m + 1, hm => by
    obtain ⟨c, c1, c2, -⟩ := lk_nI hk m
    have e : aLeak k (m + 1) = if lk (kn k) (kset k) (ktp k) m ≤ (aLeak k m).1 then aLeak k m else (lk (kn k) (kset k) (ktp k) m, nI m) := rfl
    rcases leak_L hk m (by omega) with ⟨a1, a2⟩ | ⟨s, c', s1, s2, s3, s4, s5⟩
    · by_cases z : c = 0
      · subst z
        refine Or.inl ⟨?_, fun s hs => ?_⟩
        · rw [e, a1, c2, if_pos (show nI 0 ≤ (0, (-1 : Int32)).1 by decide)]
        · by_cases q : s = m
          · rw [q]; exact c2
          · exact a2 s (by omega)
      · refine Or.inr ⟨m, c, by omega, by omega, c1, c2, ?_⟩
        rw [e, a1, c2, if_neg (show ¬ nI c ≤ (0, (-1 : Int32)).1 from nI_nle (by omega) (by omega))]
    · by_cases z : lk (kn k) (kset k) (ktp k) m ≤ (aLeak k m).1
      · exact Or.inr ⟨s, c', by omega, s2, s3, s4, by rw [e, if_pos z]; exact s5⟩
      · refine Or.inr ⟨m, c, by omega, ?_, c1, c2, by rw [e, if_neg z, c2]⟩
        apply Classical.byContradiction
        intro y
        apply z
        rw [c2, s5]
        exact nI_le (b := c') (by omega) (by omega)
theorem leak_c (hk : kok k) : (sumF (al k) (kn k) = 0 ∧ (aLeak k 10).2 = -1) ∨ (¬ sumF (al k) (kn k) = 0 ∧ 0 ≤ (aLeak k 10).2) := by
  have hn := hk.1
  obtain ⟨a, a1, a2, a3⟩ := cnt01 (g := al k) (n := kn k) (fun i _ => by
    unfold al
    split
    · exact Or.inr rfl
    · exact Or.inl rfl)
  have ea : ∀ i, al k i = 0 ↔ ¬ mtk k i = -1 := by
    intro i
    unfold al
    by_cases q : mtk k i = -1
    · rw [if_pos q]
      exact ⟨fun z => absurd z (by decide), fun z => absurd q z⟩
    · rw [if_neg q]
      exact ⟨fun _ => q, fun _ => rfl⟩
  rcases leak_L hk 10 (Nat.le_refl _) with ⟨l1, l2⟩ | ⟨s, c, s1, s2, s3, s4, s5⟩
  · refine Or.inl ⟨?_, by rw [l1]⟩
    have z : a = 0 := a3.mpr fun i hi => (ea i).mpr fun q => by
      obtain ⟨c, c1, c2, c3⟩ := lk_nI hk (ktp k i 3)
      have c0 : c = 0 := (nI_eq (by omega) (by decide)).mp (c2.symm.trans (l2 _ (hk.2.1 i hi).2.2.2.1))
      exact c3.mp c0 i hi ⟨q, rfl⟩
    rw [a2, z]
    rfl
  · refine Or.inr ⟨?_, by rw [s5]; exact nI_pos' (by omega)⟩
    rw [a2]
    refine nI_ne0 (Nat.pos_of_ne_zero fun z => ?_) (by omega)
    obtain ⟨c', c1, c2, c3⟩ := lk_nI hk s
    have e : c = c' := (nI_eq (by omega) (by omega)).mp (s4.symm.trans c2)
    have : c' = 0 := c3.mpr fun i hi q => (ea i).mp (a3.mp z i hi) q.1
    omega
end HS
