/-! OUR OWN: what the small heap says of the machine's -/
section RL
abbrev m_I3 : Type := ClassId × (ClassId × ClassId)
def m_tys (ids : m_I3) : List (ClassId × FieldType) := [(ids.1, .int), (ids.1, .int), (ids.2.2, .object RX3)]
def m_cst (U : State) (a n : Nat) (f : Nat → Int32) (H : Heap) : Prop := ∃ cell : Cell, H[a]? = some cell ∧ U.isArrayOf cell .int ∧ cell.vm ≠ .unknown ∧ n ≤ cell.slots.size ∧ cell.slots.size.toInt32 = Int32.ofNat n ∧ ∀ j : Nat, j < n → cell.slots[j]? = some (.int (f j))
def m_at (D : va_G) (ids : m_I3) (U : State) (H : Heap) (a : Nat) (e : mE) : Prop := match e with
  | .inl (true, n, f) => va_at D vwCl (a, .inl (ids.1, n, .inl f)) H
  | .inl (false, n, f) => m_cst U a n f H
  | .inr (.inl (n, f)) => va_at D vwCl (a, .inl (ids.2.1, n, .inr (.inl f))) H
  | .inr (.inr (.inl (n, f))) => va_at D vwCl (a, .inl (ids.2.2, n, .inr (.inr (.inr (.inr f))))) H
  | .inr (.inr (.inr (c, fs))) => va_at D vwCl (a, .inr (c, fs)) H
theorem m_at.kept {D : va_G} {ids : m_I3} {U : State} {H H1 : Heap} {a : Nat} {e : mE} (h : m_at D ids U H a e) (hq : H1[a]? = H[a]?) : m_at D ids U H1 a e := by
  match e, h with
  | .inl (true, n, f), h => exact va_at.kept (D := D) (cl := vwCl) (q := (a, .inl (ids.1, n, .inl f))) h hq
  | .inl (false, n, f), ⟨ce9, h1, h2⟩ => exact ⟨ce9, by rw [hq]; exact h1, h2⟩
  | .inr (.inl (n, f)), h => exact va_at.kept (D := D) (cl := vwCl) (q := (a, .inl (ids.2.1, n, .inr (.inl f)))) h hq
  | .inr (.inr (.inl (n, f))), h => exact va_at.kept (D := D) (cl := vwCl) (q := (a, .inl (ids.2.2, n, .inr (.inr (.inr (.inr f)))))) h hq
  | .inr (.inr (.inr (c, fs))), h => exact va_at.kept (D := D) (cl := vwCl) (q := (a, .inr (c, fs))) h hq
theorem m_at.lt {D : va_G} {ids : m_I3} {U : State} {H : Heap} {a : Nat} {e : mE} (h : m_at D ids U H a e) : a < H.size := by
  match e, h with
  | .inl (true, n, f), h => exact va_at.lt (D := D) (cl := vwCl) (q := (a, .inl (ids.1, n, .inl f))) h
  | .inl (false, n, f), ⟨ce9, h1, h2⟩ => exact (Array.getElem?_eq_some_iff.mp h1).1
  | .inr (.inl (n, f)), h => exact va_at.lt (D := D) (cl := vwCl) (q := (a, .inl (ids.2.1, n, .inr (.inl f)))) h
  | .inr (.inr (.inl (n, f))), h => exact va_at.lt (D := D) (cl := vwCl) (q := (a, .inl (ids.2.2, n, .inr (.inr (.inr (.inr f)))))) h
  | .inr (.inr (.inr (c, fs))), h => exact va_at.lt (D := D) (cl := vwCl) (q := (a, .inr (c, fs))) h
theorem m_at.moved {D : va_G} {ids : m_I3} {u U : State} {H : Heap} {a : Nat} {e : mE} (hvm : u.vm.Alike U.vm) (h : m_at D ids u H a e) : m_at D ids U H a e := by
  match e, h with
  | .inl (true, n, f), h => exact h
  | .inl (false, n, f), ⟨ce9, h1, h2, h3⟩ => exact ⟨ce9, h1, State.isArrayOf_alike hvm h2, h3⟩
  | .inr (.inl (n, f)), h => exact h
  | .inr (.inr (.inl (n, f))), h => exact h
  | .inr (.inr (.inr (c, fs))), h => exact h
/-- the whole: the tables, the entries, which may be written -/
def Rl (D : va_G) (ids : m_I3) (A : Nat → Prop) (h : mH) (U : State) (H : Heap) : Prop :=
  va_K D vwCl (m_tys ids) U ∧ (∀ (a : Nat) (e : mE), h a = some e → m_at D ids U H a e) ∧ ∀ a : Nat, m_wr h a → A a
theorem Rl.K {D : va_G} {ids : m_I3} {A : Nat → Prop} {h : mH} {U : State} {H : Heap} (r : Rl D ids A h U H) : va_K D vwCl (m_tys ids) U := r.1
theorem Rl.moved {D : va_G} {ids : m_I3} {A : Nat → Prop} {h : mH} {u U : State} {H : Heap} (hvm : u.vm.Alike U.vm) (r : Rl D ids A h u H) : Rl D ids A h U H :=
  ⟨va_K.moved hvm r.1, fun a e q => (r.2.1 a e q).moved hvm, r.2.2⟩
theorem Rl.lt {D : va_G} {ids : m_I3} {A : Nat → Prop} {h : mH} {U : State} {H : Heap} (r : Rl D ids A h U H) {a : Nat} {e : mE} (q : h a = some e) : a < H.size := (r.2.1 a e q).lt
theorem Rl.narrow {D : va_G} {ids : m_I3} {A B : Nat → Prop} {h : mH} {U : State} {H : Heap} (r : Rl D ids A h U H) (hB : ∀ a, m_wr h a → B a) : Rl D ids B h U H := ⟨r.1, r.2.1, hB⟩
theorem Rl.kept {D : va_G} {ids : m_I3} {A : Nat → Prop} {h : mH} {U : State} {H H1 : Heap} (r : Rl D ids A h U H) (hq : ∀ a : Nat, a < H.size → H1[a]? = H[a]?) : Rl D ids A h U H1 :=
  ⟨r.1, fun a e q => (r.2.1 a e q).kept (hq a (r.lt q)), r.2.2⟩
theorem m_wr_up {h : mH} {a : Nat} {e : mE} (ha : m_wr h a) {q : Nat} (hq : m_wr (m_up h a e) q) : m_wr h q := by
  by_cases hqa : q = a
  · subst hqa; exact ha
  · unfold m_wr at hq ⊢
    rw [m_up_ne hqa] at hq
    exact hq
theorem Rl.up {D : va_G} {ids : m_I3} {A : Nat → Prop} {h : mH} {U : State} {H H1 : Heap} (r : Rl D ids A h U H) {a : Nat} {e : mE} (ha : m_wr h a) (h1 : m_at D ids U H1 a e) (hq : ∀ q : Nat, q ≠ a → H1[q]? = H[q]?) : Rl D ids A (m_up h a e) U H1 := by
  refine ⟨r.1, fun b e1 hb => ?_, fun b hb => r.2.2 b (m_wr_up ha hb)⟩
  by_cases hba : b = a
  · subst hba
    rw [m_up_same] at hb
    cases hb
    exact h1
  · rw [m_up_ne hba] at hb
    exact (r.2.1 b e1 hb).kept (hq b hba)
/-- a new cell, behind all that are there -/
theorem Rl.push {D : va_G} {ids : m_I3} {A : Nat → Prop} {h : mH} {U : State} {H H1 : Heap} (r : Rl D ids A h U H) {z : Nat} (hz : H.size = z) {e : mE} (hA : A z) (h1 : m_at D ids U H1 z e) (hq : ∀ q : Nat, q < z → H1[q]? = H[q]?) : Rl D ids A (m_up h z e) U H1 := by
  refine ⟨r.1, fun b e1 hb => ?_, fun b hb => ?_⟩
  · by_cases hba : b = z
    · subst hba
      rw [m_up_same] at hb
      cases hb
      exact h1
    · rw [m_up_ne hba] at hb
      exact (r.2.1 b e1 hb).kept (hq b (by rw [← hz]; exact r.lt hb))
  · by_cases hba : b = z
    · subst hba; exact hA
    · refine r.2.2 b ?_
      unfold m_wr at hb ⊢
      rw [m_up_ne hba] at hb
      exact hb
theorem m_lt_A {D : va_G} {ids : m_I3} {A : Nat → Prop} {h : mH} {U : State} {H : Heap} {z : Nat} (r : Rl D ids A h U H) (hz : ∀ q, z ≤ q → A q) : ∀ q, m_A h z q → A q := fun q hq => hq.elim (r.2.2 q) (hz q)
end RL
