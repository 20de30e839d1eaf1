/-! PURE: the tables, which nothing writes -/
section PTb
def isT (h : mH) (a n : Nat) (f : Nat → Int32) : Prop := ∃ g : Nat → Int32, h a = some (mC n g) ∧ ∀ j, j < n → g j = f j
theorem isT.fr {h h' : mH} {a n lo hi : Nat} {f : Nat → Int32} (A : isT h a n f) (F : fr h h' lo hi) (hq : a < lo ∨ hi ≤ a) : isT h' a n f := by
  obtain ⟨g, h1, h2⟩ := A
  exact ⟨g, (F a hq).trans h1, h2⟩
theorem iald_T {h : mH} {a n : Nat} {f : Nat → Int32} (A : isT h a n f) {k : Nat} (hk : k < n) (hn : n < 2 ^ 31) : m_iald h a (nI k) = some (f k) := by
  obtain ⟨g, h1, h2⟩ := A
  have hk2 : k < 2 ^ 31 := by omega
  simp only [m_iald, h1, nI_cl hk2, nI_nn hk2, hk, not_false_eq_true, and_self, if_true, h2 k hk]
theorem ilen_T {h : mH} {a n : Nat} {f : Nat → Int32} (A : isT h a n f) : m_ilen h a = some (nI n) := by
  obtain ⟨g, h1, h2⟩ := A
  simp only [m_ilen, h1]
  rfl
theorem at_T {h : mH} {a n : Nat} {f : Nat → Int32} (A : isT h a n f) {k : Nat} (hk : k < n) (hn : n < 2 ^ 31) : s_X1_at h a (nI k) = some (f k) := by
  have hk2 : k < 2 ^ 31 := by omega
  have h3 : ¬ (nI n ≤ nI k) := nI_ge hk hn
  simp only [s_X1_at, ilen_T A, iald_T A hk hn, bS, nI_nn hk2, h3, if_false, s_X1_at_b17]
theorem copy_T {h : mH} {a c n : Nat} {f g : Nat → Int32} (A : isT h a n f) (C : isA h c n g) (hac : a ≠ c) (hn : n < 4000) : ∃ h', s_X1_copy h a c = some h' ∧ isA h' c n f ∧ fr h h' c (c + 1) := by
  obtain ⟨h', e1, e2, e3⟩ := copy_L (by omega) hac n m_F 0 h g (fun k hk => iald_T A hk (by omega)) (ilen_T A) C (by omega) (by unfold m_F; omega)
  exact ⟨h', e1, e2.ext (fun j hj => by rw [if_pos (Nat.zero_le _)]), e3⟩
end PTb
