/-! PURE: states that may stand -/
section RK
/-- a state that may stand -/
def kok (k : mK) : Prop := kn k ≤ 60 ∧ vTs (kn k) (ktp k) ∧ (∀ w, w < 4 → kln k w ≤ 8) ∧ (∀ i, i < 3 → ∃ n, n ≤ 999 ∧ kset k i = nI n) ∧ (∃ n, 1 ≤ n ∧ n ≤ 1439 ∧ kset k 3 = nI n) ∧ ∀ i, 4 ≤ i → i < 6 → ∃ n, n ≤ 9999 ∧ kset k i = nI n
theorem kpush_ok {sz : Nat} {k : mK} {sv : Nat → mK} (hk : kok k) (hsv : ∀ j, j < sz → kok (sv j)) : ∀ j, j < min (sz + 1) 6 → kok (kpush sv k j) := by
  intro j hj
  match j with
  | 0 => exact hk
  | j + 1 => exact hsv j (by omega)
variable {k : mK}
theorem kok_charge {w j : Nat} {c : Int32} (hk : kok k) : kok (kcharge k w j c) := by
  refine ⟨hk.1, hk.2.1, fun w' hw' => ?_, hk.2.2.2⟩
  show (if w' = w then min (kln k w + 1) 8 else kln k w') ≤ 8
  have := hk.2.2.1 w' hw'
  split <;> omega
theorem kok_st {j : Nat} (hk : kok k) : ∀ n, kok (kst k j n)
  | 0 => hk
  | n + 1 => kok_charge (kok_st hk n)
theorem kw_st {j : Nat} (n w i : Nat) : kw (kst k j n) w i = kw k w i := by
  obtain ⟨e1, e2, e3⟩ := kst_n k j n
  unfold kw
  rw [e1, e2, e3]
theorem kok_ins {u : Nat → Nat} (hk : kok k) (hn : kn k < 60) (vu : vT u) : kok (kins k u) := ⟨show kn k + 1 ≤ 60 by omega, kins_v hk.2.1 vu, hk.2.2⟩
def loS (i : Nat) : Int32 := if i = 3 then 1 else 0
def hiS (i : Nat) : Int32 := if i < 3 then 999 else if i = 3 then 1439 else 9999
theorem kok_del (hk : kok k) {i : Nat} (hi : i < kn k) : kok (kdel k i) := ⟨by have := hk.1; show kn k - 1 ≤ 60; omega, vTs.tdel (n := kn k - 1) (by rw [show kn k - 1 + 1 = kn k by omega]; exact hk.2.1) (by omega), hk.2.2⟩
theorem kok_claim (hk : kok k) {i m s : Nat} (hi : i < kn k) (hm : m < 1440) (hs : s < 10) : kok (if aRef k i m s = 0 then kclaim k i m s else krefuse k) := by
  by_cases q : aRef k i m s = 0
  · have hn' : kn k < 60 := by
      apply Classical.byContradiction
      intro z
      unfold aRef at q
      revert q
      repeat' split
      all_goals first
        | (intro q; exact absurd q (by decide))
        | (intro q; omega)
    have vm : vT (mis k i m s) := mis_v (hk.2.1 i hi) hm hs
    rw [if_pos q]
    exact ⟨show kn k + 1 ≤ 60 by omega, hk.2.1.tins vm (ip_le _), hk.2.2⟩
  · rw [if_neg q]
    exact hk
theorem lo_tab : ∀ i, i < 6 → m_tab 1 i = loS i := by decide
theorem hi_tab : ∀ i, i < 6 → m_tab 2 i = hiS i := by decide
theorem hi_nn : ∀ i, i < 6 → ∃ n, n < 10000 ∧ hiS i = nI n ∧ ((i < 3 → n ≤ 999) ∧ (i = 3 → n ≤ 1439)) := fun i hi => by
  match i, hi with
  | 0, _ => exact ⟨999, by decide, rfl, by decide, by decide⟩
  | 1, _ => exact ⟨999, by decide, rfl, by decide, by decide⟩
  | 2, _ => exact ⟨999, by decide, rfl, by decide, by decide⟩
  | 3, _ => exact ⟨1439, by decide, rfl, by decide, by decide⟩
  | 4, _ => exact ⟨9999, by decide, rfl, by decide, by decide⟩
  | 5, _ => exact ⟨9999, by decide, rfl, by decide, by decide⟩
theorem kok_set (hk : kok k) {i : Nat} {v : Int32} (hi : i < 6) (q1 : ¬ v < loS i) (q2 : ¬ hiS i < v) : kok (kset' k i v) := by
  obtain ⟨n, hn, en, n3, n4⟩ := hi_nn i hi
  have v0 : ¬ v < 0 := by
    intro z
    apply q1
    unfold loS
    by_cases c : i = 3
    · rw [if_pos c]; exact Int32.lt_of_lt_of_le z (by decide)
    · rw [if_neg c]; exact z
  obtain ⟨m, hm, rfl⟩ := nIof (v := v) (b := n + 1) (by omega) v0 (fun z => q2 (by rw [en]; exact Int32.lt_of_lt_of_le (nI_lt (by omega) (by omega)) z))
  obtain ⟨h1, h2, h3, h4, ⟨s3, b3, c3, e3⟩, h6⟩ := hk
  refine ⟨h1, h2, h3, fun j hj => ?_, ?_, fun j j1 j2 => ?_⟩
  · show ∃ n, n ≤ 999 ∧ upd (kset k) i (nI m) j = nI n
    by_cases c : j = i
    · subst c; exact ⟨m, by have := n3 hj; omega, pk_us⟩
    · rw [pk_un c]; exact h4 j hj
  · show ∃ n, 1 ≤ n ∧ n ≤ 1439 ∧ upd (kset k) i (nI m) 3 = nI n
    by_cases c : 3 = i
    · subst c
      refine ⟨m, ?_, by have := n4 rfl; omega, pk_us⟩
      apply Classical.byContradiction
      intro z
      obtain rfl : m = 0 := by omega
      exact q1 (by decide)
    · rw [pk_un c]; exact ⟨s3, b3, c3, e3⟩
  · show ∃ n, n ≤ 9999 ∧ upd (kset k) i (nI m) j = nI n
    by_cases c : j = i
    · subst c; exact ⟨m, by omega, pk_us⟩
    · rw [pk_un c]; exact h6 j j1 j2
end RK
