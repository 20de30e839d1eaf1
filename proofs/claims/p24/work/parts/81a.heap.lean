/-! PURE: numbers, the small heap's cells, and the class' row helpers -/
section PA
theorem nI_lit_le {a b : Nat} (ha : a < 2 ^ 31) (hb : b < 2 ^ 31) : (nI a ≤ nI b) = (a ≤ b) := propext (nI_leI ha hb)
theorem nI_inj {a b : Nat} (ha : a < 2 ^ 31) (hb : b < 2 ^ 31) : (nI a = nI b) = (a = b) := propext (nI_eq ha hb)
theorem nI_sub {a b : Nat} (h : b ≤ a) : nI a - nI b = nI (a - b) := by
  have e : nI a = nI (a - b) + nI b := by rw [nI_add]; congr 1; omega
  rw [e]
  exact Int32.add_sub_cancel _ _
theorem nI_mul (a b : Nat) : nI a * nI b = nI (a * b) := (Int32.ofNat_mul a b).symm
theorem nI_cl {n : Nat} (h : n < 2 ^ 31) : Int32.toNatClampNeg (nI n) = n := nI_clamp h
theorem nI_nn {n : Nat} (h : n < 2 ^ 31) : (nI n < 0) = False := eq_false (nI_pos h)
/-- an int row of n places that holds f below n -/
def isA (h : mH) (a n : Nat) (f : Nat → Int32) : Prop := ∃ g : Nat → Int32, h a = some (mI n g) ∧ ∀ j, j < n → g j = f j
/-- nothing outside lo ..< hi has changed -/
def fr (h h' : mH) (lo hi : Nat) : Prop := ∀ q, (q < lo ∨ hi ≤ q) → h' q = h q
theorem fr.rf {h : mH} {lo hi : Nat} : fr h h lo hi := fun _ _ => rfl
theorem fr.tr {h h1 h2 : mH} {lo hi : Nat} (a : fr h h1 lo hi) (b : fr h1 h2 lo hi) : fr h h2 lo hi := fun q hq => (b q hq).trans (a q hq)
theorem fr.wd {h h' : mH} {lo hi lo' hi' : Nat} (a : fr h h' lo hi) (h1 : lo' ≤ lo) (h2 : hi ≤ hi') : fr h h' lo' hi' := fun q hq => a q (by omega)
theorem fr.up {h : mH} {a : Nat} {e : mE} : fr h (m_up h a e) a (a + 1) := fun q hq => m_up_ne (by omega)
theorem isA.fr {h h' : mH} {a n lo hi : Nat} {f : Nat → Int32} (A : isA h a n f) (F : fr h h' lo hi) (hq : a < lo ∨ hi ≤ a) : isA h' a n f := by
  obtain ⟨g, h1, h2⟩ := A
  exact ⟨g, (F a hq).trans h1, h2⟩
theorem isA.ext {h : mH} {a n : Nat} {f f' : Nat → Int32} (A : isA h a n f) (he : ∀ j, j < n → f j = f' j) : isA h a n f' := by
  obtain ⟨g, h1, h2⟩ := A
  exact ⟨g, h1, fun j hj => (h2 j hj).trans (he j hj)⟩
theorem isA.up {h : mH} {a n : Nat} {f g : Nat → Int32} (hg : ∀ j, j < n → g j = f j) : isA (m_up h a (mI n g)) a n f := ⟨g, m_up_same _ _ _, hg⟩
theorem iald_A {h : mH} {a n : Nat} {f : Nat → Int32} (A : isA h a n f) {k : Nat} (hk : k < n) (hn : n < 2 ^ 31) : m_iald h a (nI k) = some (f k) := by
  obtain ⟨g, h1, h2⟩ := A
  have hk2 : k < 2 ^ 31 := by omega
  simp only [m_iald, h1, nI_cl hk2, nI_nn hk2, hk, not_false_eq_true, and_self, if_true, h2 k hk]
theorem ilen_A {h : mH} {a n : Nat} {f : Nat → Int32} (A : isA h a n f) : m_ilen h a = some (nI n) := by
  obtain ⟨g, h1, h2⟩ := A
  simp only [m_ilen, h1]
  rfl
theorem iast_A {h : mH} {a n : Nat} {f : Nat → Int32} (A : isA h a n f) {k : Nat} (hk : k < n) (hn : n < 2 ^ 31) (v : Int32) : ∃ h', m_iast h a (nI k) v = some h' ∧ isA h' a n (upd f k v) ∧ fr h h' a (a + 1) := by
  obtain ⟨g, h1, h2⟩ := A
  have hk2 : k < 2 ^ 31 := by omega
  refine ⟨m_up h a (mI n (upd g k v)), ?_, isA.up (fun j hj => ?_), fr.up⟩
  · simp only [m_iast, h1, nI_cl hk2, nI_nn hk2, hk, not_false_eq_true, and_self, if_true]
  · by_cases hjk : j = k
    · subst hjk; rw [pk_us, pk_us]
    · rw [pk_un hjk, pk_un hjk, h2 j hj]
theorem gr_O {h : mH} {ci a k v : Nat} {fs : List Value} (H : h a = some (mO ci fs)) (hk : fs[k]? = some (.ref v)) : m_gr h ci a k = some v := by
  simp only [m_gr, m_get, H, if_true, hk]
theorem gi_O {h : mH} {ci a k : Nat} {v : Int32} {fs : List Value} (H : h a = some (mO ci fs)) (hk : fs[k]? = some (.int v)) : m_gi h ci a k = some v := by
  simp only [m_gi, m_get, H, if_true, hk]
theorem gl_O {h : mH} {ci a k : Nat} {v : Int64} {fs : List Value} (H : h a = some (mO ci fs)) (hk : fs[k]? = some (.long v)) : m_gl h ci a k = some v := by
  simp only [m_gl, m_get, H, if_true, hk]
theorem is_O {h : mH} {ci a : Nat} {fs : List Value} (H : h a = some (mO ci fs)) : m_is h ci a = some () := by
  simp only [m_is, H, if_true]
theorem put_O {h : mH} {ci a k : Nat} {v : Value} {fs : List Value} (H : h a = some (mO ci fs)) (hk : k < fs.length) : m_put h ci a k v = some (m_up h a (mO ci (fs.set k v))) := by
  simp only [m_put, H, hk, and_self, if_true]
theorem z_0 : m_z 0 = some 0 := rfl
theorem z_1 : m_z 1 = some 1 := rfl
theorem bS {α β : Type} {a : α} {f : α → Option β} : (some a).bind f = f a := rfl
/-! Rows -/
theorem at_A {h : mH} {a n : Nat} {f : Nat → Int32} (A : isA h a n f) {k : Nat} (hk : k < n) (hn : n < 2 ^ 31) : s_X1_at h a (nI k) = some (f k) := by
  have hk2 : k < 2 ^ 31 := by omega
  have h3 : ¬ (nI n ≤ nI k) := nI_ge hk hn
  simp only [s_X1_at, ilen_A A, iald_A A hk hn, bS, nI_nn hk2, h3, if_false, s_X1_at_b17]
theorem put_A {h : mH} {a n : Nat} {f : Nat → Int32} (A : isA h a n f) {k : Nat} (hk : k < n) (hn : n < 2 ^ 31) (v : Int32) : ∃ h', s_X1_put h a (nI k) v = some h' ∧ isA h' a n (upd f k v) ∧ fr h h' a (a + 1) := by
  have hk2 : k < 2 ^ 31 := by omega
  have h3 : ¬ (nI n ≤ nI k) := nI_ge hk hn
  obtain ⟨h', e1, e2, e3⟩ := iast_A A hk hn v
  refine ⟨h', ?_, e2, e3⟩
  simp only [s_X1_put, ilen_A A, e1, bS, nI_nn hk2, h3, if_false, s_X1_put_b14]
theorem raise_A {h : mH} {a n : Nat} {f : Nat → Int32} (A : isA h a n f) {k : Nat} (hk : k < n) (hn : n < 2 ^ 31) (v : Int32) : ∃ h', s_X1_raise h a (nI k) v = some h' ∧ isA h' a n (upd f k (f k + v)) ∧ fr h h' a (a + 1) := by
  obtain ⟨h', e1, e2, e3⟩ := put_A A hk hn (f k + v)
  refine ⟨h', ?_, e2, e3⟩
  simp only [s_X1_raise, at_A A hk hn, e1, bS]
theorem fill_L {a n : Nat} {v : Int32} (hn : n < 2 ^ 31) : ∀ (d F i : Nat) (h : mH) (f : Nat → Int32), isA h a n f → i + d = n → d < F → ∃ h', s_X1_fill_L2 F h a v (nI i) = some h' ∧ isA h' a n (fun j => if i ≤ j then v else f j) ∧ fr h h' a (a + 1) := by
  intro d
  induction d with
  | zero =>
    intro F i h f A hi hF
    obtain ⟨F, rfl⟩ : ∃ F', F = F' + 1 := ⟨F - 1, by omega⟩
    refine ⟨h, ?_, A.ext (fun j hj => by rw [if_neg (by omega)]), fr.rf⟩
    have h3 : nI n ≤ nI i := nI_le (by omega) (by omega)
    simp only [s_X1_fill_L2, ilen_A A, bS, h3, if_true]
  | succ d ih =>
    intro F i h f A hi hF
    obtain ⟨F, rfl⟩ : ∃ F', F = F' + 1 := ⟨F - 1, by omega⟩
    have h3 : ¬ (nI n ≤ nI i) := nI_ge (by omega) hn
    obtain ⟨h1, e1, e2, e3⟩ := iast_A A (k := i) (by omega) hn v
    obtain ⟨h2, f1, f2, f3⟩ := ih F (i + 1) h1 _ e2 (by omega) (by omega)
    refine ⟨h2, ?_, f2.ext (fun j hj => ?_), e3.tr f3⟩
    · simp only [s_X1_fill_L2, ilen_A A, bS, h3, if_false, e1, nI_1, f1]
    · by_cases hj1 : i + 1 ≤ j
      · rw [if_pos hj1, if_pos (by omega)]
      · rw [if_neg hj1]
        by_cases hj2 : j = i
        · subst hj2; rw [pk_us, if_pos (Nat.le_refl _)]
        · rw [pk_un hj2, if_neg (by omega)]
theorem fill_A {h : mH} {a n : Nat} {f : Nat → Int32} (A : isA h a n f) (hn : n < 4000) (v : Int32) : ∃ h', s_X1_fill h a v = some h' ∧ isA h' a n (fun _ => v) ∧ fr h h' a (a + 1) := by
  obtain ⟨h', e1, e2, e3⟩ := fill_L (v := v) (by omega) n m_F 0 h f A (by omega) (by unfold m_F; omega)
  exact ⟨h', e1, e2.ext (fun j hj => by rw [if_pos (Nat.zero_le _)]), e3⟩
theorem copy_L {a c n : Nat} {f : Nat → Int32} (hn : n < 2 ^ 31) (hac : a ≠ c) : ∀ (d F i : Nat) (h : mH) (g : Nat → Int32), (∀ k, k < n → m_iald h a (nI k) = some (f k)) → m_ilen h a = some (nI n) → isA h c n g → i + d = n → d < F → ∃ h', s_X1_copy_L2 F h a c (nI i) = some h' ∧ isA h' c n (fun j => if i ≤ j then f j else g j) ∧ fr h h' c (c + 1) := by
  intro d
  induction d with
  | zero =>
    intro F i h g A1 A2 C hi hF
    obtain ⟨F, rfl⟩ : ∃ F', F = F' + 1 := ⟨F - 1, by omega⟩
    refine ⟨h, ?_, C.ext (fun j hj => by rw [if_neg (by omega)]), fr.rf⟩
    have h3 : nI n ≤ nI i := nI_le (by omega) (by omega)
    simp only [s_X1_copy_L2, A2, bS, h3, if_true, s_X1_copy_b26]
  | succ d ih =>
    intro F i h g A1 A2 C hi hF
    obtain ⟨F, rfl⟩ : ∃ F', F = F' + 1 := ⟨F - 1, by omega⟩
    have h3 : ¬ (nI n ≤ nI i) := nI_ge (by omega) hn
    obtain ⟨h1, e1, e2, e3⟩ := iast_A C (k := i) (by omega) hn (f i)
    have hsame : h1 a = h a := e3 a (by omega)
    obtain ⟨h2, f1, f2, f3⟩ := ih F (i + 1) h1 _ (fun k hk => by rw [← A1 k hk]; simp only [m_iald, hsame]) (by rw [← A2]; simp only [m_ilen, hsame]) e2 (by omega) (by omega)
    refine ⟨h2, ?_, f2.ext (fun j hj => ?_), e3.tr f3⟩
    · simp only [s_X1_copy_L2, A2, ilen_A C, bS, h3, if_false, A1 i (by omega), e1, nI_1, f1]
    · by_cases hj1 : i + 1 ≤ j
      · rw [if_pos hj1, if_pos (by omega)]
      · rw [if_neg hj1]
        by_cases hj2 : j = i
        · subst hj2; rw [pk_us, if_pos (Nat.le_refl _)]
        · rw [pk_un hj2, if_neg (by omega)]
theorem copy_A {h : mH} {a c n : Nat} {f g : Nat → Int32} (A : isA h a n f) (C : isA h c n g) (hac : a ≠ c) (hn : n < 4000) : ∃ h', s_X1_copy h a c = some h' ∧ isA h' c n f ∧ fr h h' c (c + 1) := by
  obtain ⟨h', e1, e2, e3⟩ := copy_L (by omega) hac n m_F 0 h g (fun k hk => iald_A A hk (by omega)) (ilen_A A) C (by omega) (by unfold m_F; omega)
  exact ⟨h', e1, e2.ext (fun j hj => by rw [if_pos (Nat.zero_le _)]), e3⟩
/-- sums -/
def sumF (g : Nat → Int32) : Nat → Int32
  | 0 => 0
  | n + 1 => sumF g n + g n
theorem sumF_ext {g g' : Nat → Int32} : ∀ {n : Nat}, (∀ j, j < n → g j = g' j) → sumF g n = sumF g' n
  | 0, _ => rfl
  | n + 1, h => by
    show sumF g n + g n = sumF g' n + g' n
    rw [sumF_ext (fun j hj => h j (by omega)), h n (by omega)]
theorem sum_L {h : mH} {a n : Nat} {f : Nat → Int32} (A : isA h a n f) (hn : n < 2 ^ 31) : ∀ (d F i : Nat), i + d = n → d < F → s_X1_sum_L10 h F (sumF f i) a (nI n) (nI i) = some (sumF f n) := by
  intro d
  induction d with
  | zero =>
    intro F i hi hF
    obtain ⟨F, rfl⟩ : ∃ F', F = F' + 1 := ⟨F - 1, by omega⟩
    have h3 : nI n ≤ nI i := nI_le (by omega) (by omega)
    obtain rfl : i = n := by omega
    simp only [s_X1_sum_L10, h3, if_true]
  | succ d ih =>
    intro F i hi hF
    obtain ⟨F, rfl⟩ : ∃ F', F = F' + 1 := ⟨F - 1, by omega⟩
    have h3 : ¬ (nI n ≤ nI i) := nI_ge (by omega) hn
    have := ih F (i + 1) (by omega) (by omega)
    simp only [s_X1_sum_L10, h3, if_false, iald_A A (k := i) (by omega) hn, bS, nI_1]
    exact this
theorem sum_A {h : mH} {a n : Nat} {f : Nat → Int32} (A : isA h a n f) (hn : n < 4000) : s_X1_sum h a = some (sumF f n) := by
  have := sum_L A (by omega) n m_F 0 (by omega) (by unfold m_F; omega)
  simp only [s_X1_sum, ilen_A A, bS]
  exact this
end PA
