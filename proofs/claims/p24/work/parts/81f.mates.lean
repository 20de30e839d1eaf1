/-! PURE: which taps make a ride together -/
section PM
/-- the taps at p and q make a ride, p first -/
def pq (n : Nat) (L : Int32) (tp : Nat → Nat → Nat) (p q : Nat) : Prop := p < q ∧ q < n ∧ tp p 0 = tp q 0 ∧ (∀ r, p < r → r < q → tp r 0 ≠ tp p 0) ∧ tp p 4 = 1 ∧ tp q 4 = 0 ∧ tp p 1 = tp q 1 ∧ nI (tp q 2) - nI (tp p 2) ≤ L
theorem pq_r {n : Nat} {L : Int32} {tp : Nat → Nat → Nat} {p q q' : Nat} (a : pq n L tp p q) (b : pq n L tp p q') : q = q' := by
  obtain ⟨a1, a2, a3, a4, -⟩ := a
  obtain ⟨b1, b2, b3, b4, -⟩ := b
  rcases Nat.lt_trichotomy q q' with h | h | h
  · exact absurd a3.symm (b4 q a1 h)
  · exact h
  · exact absurd b3.symm (a4 q' b1 h)
theorem pq_l {n : Nat} {L : Int32} {tp : Nat → Nat → Nat} {p p' q : Nat} (a : pq n L tp p q) (b : pq n L tp p' q) : p = p' := by
  obtain ⟨a1, a2, a3, a4, -⟩ := a
  obtain ⟨b1, b2, b3, b4, -⟩ := b
  rcases Nat.lt_trichotomy p p' with h | h | h
  · exact absurd (b3.trans a3.symm) (a4 p' h b1)
  · exact h
  · exact absurd (a3.trans b3.symm) (b4 p h a1)
theorem pq_x {n : Nat} {L : Int32} {tp : Nat → Nat → Nat} {p q r : Nat} (a : pq n L tp p q) (b : pq n L tp q r) : False := by
  have h1 := a.2.2.2.2.2.1
  have h2 := b.2.2.2.2.1
  omega
/-- F tells the mates of a relation -/
def isMM (P : Nat → Nat → Prop) (n : Nat) (F : Nat → Int32) : Prop := ∀ p, p < n → (∀ q, P p q → F p = nI q) ∧ (∀ q, P q p → F p = nI q) ∧ ((∀ q, ¬ P p q ∧ ¬ P q p) → F p = -1)
theorem isMM.same {P P' : Nat → Nat → Prop} {n : Nat} {F : Nat → Int32} (h : isMM P n F) (e : ∀ x y, P x y ↔ P' x y) : isMM P' n F := fun p hp => ⟨fun q hq => (h p hp).1 q ((e p q).mpr hq), fun q hq => (h p hp).2.1 q ((e q p).mpr hq), fun hn => (h p hp).2.2 fun q => ⟨fun z => (hn q).1 ((e p q).mp z), fun z => (hn q).2 ((e q p).mp z)⟩⟩
theorem isMM.add {P P' : Nat → Nat → Prop} {n a b : Nat} {F : Nat → Int32} (h : isMM P n F) (e : ∀ x y, P' x y ↔ P x y ∨ (x = a ∧ y = b)) (hab : a ≠ b) (ha : ∀ q, ¬ P a q ∧ ¬ P q a) (hb : ∀ q, ¬ P b q ∧ ¬ P q b) : isMM P' n (upd (upd F a (nI b)) b (nI a)) := by
  intro p hp
  obtain ⟨h1, h2, h3⟩ := h p hp
  by_cases pa : p = a
  · subst pa
    rw [pk_un hab, pk_us]
    refine ⟨fun q hq => ?_, fun q hq => ?_, fun hn => ?_⟩
    · rcases (e p q).mp hq with z | z
      · exact absurd z (ha q).1
      · rw [z.2]
    · rcases (e q p).mp hq with z | z
      · exact absurd z (ha q).2
      · exact absurd z.2 hab
    · exact absurd ((e p b).mpr (Or.inr ⟨rfl, rfl⟩)) (hn b).1
  · by_cases pb : p = b
    · subst pb
      rw [pk_us]
      refine ⟨fun q hq => ?_, fun q hq => ?_, fun hn => ?_⟩
      · rcases (e p q).mp hq with z | z
        · exact absurd z (hb q).1
        · exact absurd z.1 pa
      · rcases (e q p).mp hq with z | z
        · exact absurd z (hb q).2
        · rw [z.1]
      · exact absurd ((e a p).mpr (Or.inr ⟨rfl, rfl⟩)) (hn a).2
    · rw [pk_un pb, pk_un pa]
      refine ⟨fun q hq => ?_, fun q hq => ?_, fun hn => ?_⟩
      · rcases (e p q).mp hq with z | z
        · exact h1 q z
        · exact absurd z.1 pa
      · rcases (e q p).mp hq with z | z
        · exact h2 q z
        · exact absurd z.2 pb
      · exact h3 fun q => ⟨fun z => (hn q).1 ((e p q).mpr (Or.inl z)), fun z => (hn q).2 ((e q p).mpr (Or.inl z))⟩
theorem isMM.uniq {n : Nat} {P : Nat → Nat → Prop} {F F' : Nat → Int32} (h : isMM P n F) (h' : isMM P n F') : ∀ p, p < n → F p = F' p := by
  intro p hp
  obtain ⟨h1, h2, h3⟩ := h p hp
  obtain ⟨g1, g2, g3⟩ := h' p hp
  by_cases c1 : ∃ q, P p q
  · obtain ⟨q, hq⟩ := c1
    rw [h1 q hq, g1 q hq]
  · by_cases c2 : ∃ q, P q p
    · obtain ⟨q, hq⟩ := c2
      rw [h2 q hq, g2 q hq]
    · have hn : ∀ q, ¬ P p q ∧ ¬ P q p := fun q => ⟨fun z => c1 ⟨q, z⟩, fun z => c2 ⟨q, z⟩⟩
      rw [h3 hn, g3 hn]
theorem isMM.cases {n : Nat} {L : Int32} {tp : Nat → Nat → Nat} {F : Nat → Int32} (h : isMM (pq n L tp) n F) {p : Nat} (hp : p < n) : F p = -1 ∨ ∃ q, q < n ∧ q ≠ p ∧ F p = nI q := by
  obtain ⟨h1, h2, h3⟩ := h p hp
  by_cases c1 : ∃ q, pq n L tp p q
  · obtain ⟨q, hq⟩ := c1
    exact Or.inr ⟨q, hq.2.1, by have := hq.1; omega, h1 q hq⟩
  · by_cases c2 : ∃ q, pq n L tp q p
    · obtain ⟨q, hq⟩ := c2
      exact Or.inr ⟨q, by have := hq.1; omega, by have := hq.1; omega, h2 q hq⟩
    · exact Or.inl (h3 fun q => ⟨fun z => c1 ⟨q, z⟩, fun z => c2 ⟨q, z⟩⟩)
theorem isMM.none {n : Nat} {P : Nat → Nat → Prop} (h : ∀ x y, ¬ P x y) {F : Nat → Int32} (hF : ∀ p, p < n → F p = -1) : isMM P n F := fun p hp => ⟨fun q hq => absurd hq (h p q), fun q hq => absurd hq (h q p), fun _ => hF p hp⟩
/-- the last place below i of a wallet -/
def lst (tp : Nat → Nat → Nat) (w i : Nat) (G : Int32) : Prop := (G = -1 ∧ ∀ p, p < i → tp p 0 ≠ w) ∨ ∃ p, p < i ∧ G = nI p ∧ tp p 0 = w ∧ ∀ r, p < r → r < i → tp r 0 ≠ w
theorem lst.step {tp : Nat → Nat → Nat} {w i : Nat} {G : Int32} (h : lst tp w i G) : lst tp w (i + 1) (if tp i 0 = w then nI i else G) := by
  by_cases c : tp i 0 = w
  · rw [if_pos c]
    exact Or.inr ⟨i, by omega, rfl, c, fun r h1 h2 => absurd h1 (by omega)⟩
  · rw [if_neg c]
    rcases h with ⟨h1, h2⟩ | ⟨p, h1, h2, h3, h4⟩
    · exact Or.inl ⟨h1, fun p hp => by
        by_cases q : p = i
        · rw [q]; exact c
        · exact h2 p (by omega)⟩
    · exact Or.inr ⟨p, by omega, h2, h3, fun r g1 g2 => by
        by_cases q : r = i
        · rw [q]; exact c
        · exact h4 r g1 (by omega)⟩
theorem isRide_pk {h : mH} {t u : Nat → Nat} {L : Int32} (v : vT t) (w : vT u) : s_X0_isRide h (pk t) (pk u) L = some (if t 4 = 1 ∧ u 4 = 0 ∧ t 1 = u 1 ∧ nI (u 2) - nI (t 2) ≤ L then 1 else 0) := by
  have h4 : t 4 = 0 ∨ t 4 = 1 := by have := v.2.2.2.2.1; omega
  have g4 : u 4 = 0 ∨ u 4 = 1 := by have := w.2.2.2.2.1; omega
  have h1 := v.2.1
  have g1 := w.2.1
  rw [s_X0_isRide, isIn_pk v, bS]
  rcases h4 with h4 | h4
  · rw [h4, if_pos (show nI 0 = 0 from rfl), if_neg (by omega)]
    rfl
  · rw [h4, if_neg (show ¬ nI 1 = 0 by decide), isIn_pk w, bS]
    rcases g4 with g4 | g4
    · rw [g4, if_pos (show nI 0 = 0 from rfl), dayOf_pk v, bS, dayOf_pk w, bS]
      by_cases hd : t 1 = u 1
      · rw [if_pos (congrArg nI hd), minuteOf_pk w, bS, minuteOf_pk v, bS]
        by_cases hm : nI (u 2) - nI (t 2) ≤ L
        · rw [if_neg (Int32.not_lt.mpr hm), if_pos ⟨rfl, rfl, hd, hm⟩]
          rfl
        · rw [if_pos (Int32.not_le.mp hm), if_neg (fun z => hm z.2.2.2)]
          rfl
      · rw [if_neg (fun z => hd ((nI_eq (by omega) (by omega)).mp z)), if_neg (fun z => hd z.2.2.1)]
        rfl
    · rw [g4, if_neg (show ¬ nI 1 = 0 by decide), if_neg (by omega)]
      rfl
end PM
