/-! PURE: the class settles weeks -/
section PSe
def ent (f : Nat → Int32) (w : Nat) (v : Int32) : Nat → Int32 := fun j => if j / 8 = w then (if j % 8 = 0 then v else f (j - 1)) else f j
theorem enter_L {a w : Nat} {v : Int32} {f0 : Nat → Int32} (hw : w < 4) : ∀ (d F : Nat) (h : mH) (f : Nat → Int32), isA h a 32 f → (∀ j, j / 8 = w → d < j % 8 → f j = f0 (j - 1)) → (∀ j, ¬ (j / 8 = w ∧ d < j % 8) → f j = f0 j) → d < 8 → d < F → ∃ h', s_X3_enter_L9 F h a v (nI (w * 8)) (nI d) = some h' ∧ isA h' a 32 (ent f0 w v) ∧ fr h h' a (a + 1) := by
  intro d
  induction d with
  | zero =>
    intro F h f A h1 h2 hd hF
    obtain ⟨F, rfl⟩ : ∃ F', F = F' + 1 := ⟨F - 1, by omega⟩
    obtain ⟨h', e1, e2, e3⟩ := put_A A (k := w * 8) (by omega) (by decide) v
    refine ⟨h', ?_, e2.ext (fun j hj => ?_), e3⟩
    · rw [s_X3_enter_L9, if_pos (show nI 0 ≤ 0 by decide), e1]; rfl
    · unfold ent
      by_cases q : j = w * 8
      · subst q
        rw [pk_us, if_pos (by omega), if_pos (by omega)]
      · rw [pk_un q]
        by_cases q1 : j / 8 = w
        · rw [if_pos q1, if_neg (by omega), h1 j q1 (by omega)]
        · rw [if_neg q1, h2 j (by omega)]
  | succ d ih =>
    intro F h f A h1 h2 hd hF
    obtain ⟨F, rfl⟩ : ∃ F', F = F' + 1 := ⟨F - 1, by omega⟩
    have n1 : ¬ nI (d + 1) ≤ 0 := nI_nle (by omega) (by omega)
    have e5 : nI (d + 1) + (-1) = nI d := (Int32.sub_eq_add_neg _ _).symm.trans (nI_pred d)
    have e6 : nI (w * 8) + nI (d + 1) - 1 = nI (w * 8 + d) := by
      rw [nI_add, ← Nat.add_assoc]
      exact nI_pred (w * 8 + d)
    obtain ⟨ha, e1, e2, e3⟩ := put_A A (k := w * 8 + (d + 1)) (by omega) (by decide) (f (w * 8 + d))
    obtain ⟨hb, g1, g2, g3⟩ := ih F ha _ e2 (fun j q1 q2 => by
      by_cases q : j = w * 8 + (d + 1)
      · subst q
        rw [pk_us, h2 _ (by omega)]
        congr 1
      · rw [pk_un q, h1 j q1 (by omega)]) (fun j q1 => by
      rw [pk_un (by omega), h2 j (by omega)]) (by omega) (by omega)
    refine ⟨hb, ?_, g2, e3.tr g3⟩
    rw [s_X3_enter_L9, if_neg n1, e6, at_A A (show w * 8 + d < 32 by omega) (by decide), bS, nI_add, e1, bS, e5, g1]
theorem enter_A {h : mH} {a w : Nat} {v : Int32} {f : Nat → Int32} (A : isA h a 32 f) (hw : w < 4) : ∃ h', s_X3_enter h a (nI w) v = some h' ∧ isA h' a 32 (ent f w v) ∧ fr h h' a (a + 1) := by
  obtain ⟨h', e1, e2, e3⟩ := enter_L (v := v) (f0 := f) hw 7 m_F h f A (fun j _ q => absurd q (by omega)) (fun j _ => rfl) (by decide) (by unfold m_F; decide)
  refine ⟨h', ?_, e2, e3⟩
  rw [s_X3_enter, show (8 : Int32) = nI 8 from rfl, nI_mul]
  exact e1
def lcons {α : Type} (w : Nat) (x : α) (f : Nat → Nat → α) : Nat → Nat → α := fun w' b => if w' = w then (match b with
  | 0 => x
  | b + 1 => f w b) else f w' b
def kcharge (k : mK) (w j : Nat) (c : Int32) : mK :=
  (kn k, ktp k, kset k, upd (kchg k) (w * 4 + j) c, kclm k, upd (kstl k) (w * 4 + j) (kstl k (w * 4 + j) + 1), (fun w' => if w' = w then min (kln k w + 1) 8 else kln k w'), lcons w (nI j) (klw k), lcons w (c - kchg k (w * 4 + j)) (kls k), (if 0 ≤ c - kchg k (w * 4 + j) then krf k else krf k + 1), (if 0 ≤ c - kchg k (w * 4 + j) then krd k else krd k - (c - kchg k (w * 4 + j))), krr k)
theorem ent_led {lnn : Nat → Nat} {f : Nat → Nat → Int32} {w : Nat} {x : Int32} (g : Int32 → Int32) (j : Nat) : ent (fun j => if j % 8 < lnn (j / 8) then g (f (j / 8) (j % 8)) else -1) w (g x) j = (if j % 8 < (if j / 8 = w then min (lnn w + 1) 8 else lnn (j / 8)) then g (lcons w x f (j / 8) (j % 8)) else -1) := by
  unfold ent
  by_cases q : j / 8 = w
  · rw [if_pos q, if_pos q]
    by_cases q0 : j % 8 = 0
    · rw [if_pos q0, if_pos (by omega), q0, q]
      show g x = g (if w = w then x else f w 0)
      rw [if_pos rfl]
    · obtain ⟨b, hb⟩ : ∃ b, j % 8 = b + 1 := ⟨j % 8 - 1, by omega⟩
      rw [if_neg q0]
      show (if (j - 1) % 8 < lnn ((j - 1) / 8) then g (f ((j - 1) / 8) ((j - 1) % 8)) else -1) = _
      rw [show (j - 1) / 8 = w by omega, show (j - 1) % 8 = b by omega, hb, q]
      show _ = (if _ then g (if w = w then f w b else f w (b + 1)) else -1)
      rw [if_pos (show w = w from rfl)]
      by_cases q1 : b < lnn w
      · rw [if_pos q1, if_pos (by omega)]
      · rw [if_neg q1, if_neg (by omega)]
  · rw [if_neg q, if_neg q]
    show (if j % 8 < lnn (j / 8) then g (f (j / 8) (j % 8)) else -1) = (if j % 8 < lnn (j / 8) then g (if j / 8 = w then _ else f (j / 8) (j % 8)) else -1)
    rw [if_neg q]
theorem charge_b {h : mH} {g w j : Nat} {k : mK} {k' : mK} {v c : Int32} (hw : w < 4) (C : isC h g k) (hc : k' = (kn k, ktp k, kset k, kchg k, kclm k, kstl k, (fun w' => if w' = w then min (kln k w + 1) 8 else kln k w'), lcons w (nI j) (klw k), lcons w v (kls k), krf k, krd k, krr k)) : ∃ h', s_X3_charge_b66 h g (nI w) (nI j) v = some (v, h') ∧ isC h' g k' ∧ fr h h' (g + 7) (g + 9) := by
  subst hc
  obtain ⟨c0, c1, c2, c3, c4, c5, c6, c7⟩ := C
  obtain ⟨h1, e1, e2, e3⟩ := enter_A (v := nI j) c6 hw
  obtain ⟨h2, f1, f2, f3⟩ := enter_A (v := v + 100000) (c7.fr e3 (by omega)) hw
  have F : fr h h2 (g + 7) (g + 9) := (e3.wd (by omega) (by omega)).tr (f3.wd (by omega) (by omega))
  refine ⟨h2, ?_, ⟨F.O c0 (by omega), c1.fr F (by omega), c2.fr F (by omega), c3.fr F (by omega), c4.fr F (by omega), c5.fr F (by omega), (e2.fr f3 (by omega)).ext (fun q _ => ent_led (fun x => x) q), f2.ext (fun q _ => ent_led (fun x => x + 100000) q)⟩, F⟩
  rw [s_X3_charge_b66, gr_O c0 (k := 5) rfl, bS, e1, bS, gr_O (e3.O c0 (by omega)) (k := 6) rfl, bS, f1]
  rfl
theorem charge_C {h : mH} {g w j : Nat} {k : mK} {c : Int32} (hw : w < 4) (hj : j < 4) (C : isC h g k) : ∃ h', s_X3_charge h g (nI w) (nI j) c = some (c - kchg k (w * 4 + j), h') ∧ isC h' g (kcharge k w j c) ∧ fr h h' g (g + 9) := by
  obtain ⟨c0, c1, c2, c3, c4, c5, c6, c7⟩ := C
  have hc : w * 4 + j < 16 := by omega
  obtain ⟨h1, e1, e2, e3⟩ := put_A c3 hc (by decide) c
  obtain ⟨h2, f1, f2, f3⟩ := raise_A (c5.fr e3 (by omega)) hc (by decide) 1
  have F : fr h h2 (g + 4) (g + 7) := (e3.wd (by omega) (by omega)).tr (f3.wd (by omega) (by omega))
  have b0 := e3.O c0 (by omega)
  have d0 := F.O c0 (by omega)
  have C2 : isC h2 g (kn k, ktp k, kset k, upd (kchg k) (w * 4 + j) c, kclm k, upd (kstl k) (w * 4 + j) (kstl k (w * 4 + j) + 1), kln k, klw k, kls k, krf k, krd k, krr k) := ⟨d0, c1.fr F (by omega), c2.fr F (by omega), e2.fr f3 (by omega), (c4.fr e3 (by omega)).fr f3 (by omega), f2, c6.fr F (by omega), c7.fr F (by omega)⟩
  have st : s_X3_charge h g (nI w) (nI j) c = if 0 ≤ c - kchg k (w * 4 + j) then (s_X3_charge_b66 h2 g (nI w) (nI j) (c - kchg k (w * 4 + j))) else ((m_gi h2 2 g 7).bind fun x47 => (m_put h2 2 g 7 (.int (x47 + 1))).bind fun h52 => (m_gi h52 2 g 8).bind fun x57 => (m_put h52 2 g 8 (.int (x57 - (c - kchg k (w * 4 + j))))).bind fun h63 => s_X3_charge_b66 h63 g (nI w) (nI j) (c - kchg k (w * 4 + j))) := by
    rw [s_X3_charge, weekCell_nI, bS, gr_O c0 (k := 2) rfl, bS, at_A c3 hc (by decide), bS, bS, e1, bS, gr_O b0 (k := 4) rfl, bS, f1, bS]
  rw [st]
  by_cases q : 0 ≤ c - kchg k (w * 4 + j)
  · obtain ⟨h3, g1, g2, g3⟩ := charge_b (v := c - kchg k (w * 4 + j)) (c := c) (j := j) hw C2 rfl
    rw [if_pos q]
    refine ⟨h3, g1, ?_, (F.wd (by omega) (by omega)).tr (g3.wd (by omega) (by omega))⟩
    unfold kcharge
    rw [if_pos q, if_pos q]
    exact g2
  · let s := c - kchg k (w * 4 + j)
    let h3 := m_up h2 g (cO g (krf k + 1) (krd k) (krr k))
    let h4 := m_up h3 g (cO g (krf k + 1) (krd k - s) (krr k))
    have o3 : h3 g = some (cO g (krf k + 1) (krd k) (krr k)) := m_up_same _ _ _
    have w1 : m_put h2 2 g 7 (.int (krf k + 1)) = some h3 := put_O d0 (k := 7) (show 7 < 10 by decide)
    have w2 : m_put h3 2 g 8 (.int (krd k - s)) = some h4 := put_O o3 (k := 8) (show 8 < 10 by decide)
    have E : fr h2 h4 g (g + 1) := fr.tr fr.up fr.up
    obtain ⟨-, k1, k2, k3, k4, k5, k6, k7⟩ := C2
    have C4 : isC h4 g (kn k, ktp k, kset k, upd (kchg k) (w * 4 + j) c, kclm k, upd (kstl k) (w * 4 + j) (kstl k (w * 4 + j) + 1), kln k, klw k, kls k, krf k + 1, krd k - s, krr k) := ⟨m_up_same _ _ _, k1.fr E (by omega), k2.fr E (by omega), k3.fr E (by omega), k4.fr E (by omega), k5.fr E (by omega), k6.fr E (by omega), k7.fr E (by omega)⟩
    obtain ⟨h5, g1, g2, g3⟩ := charge_b (v := s) (c := c) (j := j) hw C4 rfl
    rw [if_neg q, gi_O d0 (k := 7) rfl, bS, w1, bS, gi_O o3 (k := 8) rfl, bS, w2, bS]
    refine ⟨h5, g1, ?_, (F.wd (by omega) (by omega)).tr ((E.wd (by omega) (by omega)).tr (g3.wd (by omega) (by omega)))⟩
    unfold kcharge
    rw [if_neg q, if_neg q]
    exact g2
noncomputable def kst (k : mK) (j : Nat) : Nat → mK
  | 0 => k
  | n + 1 => kcharge (kst k j n) n j (kw k n j)
noncomputable def aSet (k : mK) (j : Nat) : Nat → Int32
  | 0 => 0
  | n + 1 => aSet k j n + (kw k n j - kchg (kst k j n) (n * 4 + j))
theorem kst_n (k : mK) (j : Nat) : ∀ n, kn (kst k j n) = kn k ∧ kset (kst k j n) = kset k ∧ ktp (kst k j n) = ktp k
  | 0 => ⟨rfl, rfl, rfl⟩
  | n + 1 => kst_n k j n
variable {h : mH} {X sz bl : Nat} {k : mK} {sv : Nat → mK} {bf : Nat → Int32}
theorem settle_no {v : Int32} (q : oB v 4) : s_X7_settle h X v = some (Sum.inl "java/lang/IllegalArgumentException", h) := by
  rw [s_X7_settle, show (4 : Int32) = nI 4 from rfl, below_no q, bS, if_pos rfl]
theorem settle_L {j : Nat} (hj : j < 4) : ∀ (d n F : Nat) (h : mH), isW h X (kst k j n) sz sv bl bf → n + d = 4 → d < F → ∃ h', s_X7_settle_L33 F h X (nI j) (aSet k j n) (nI n) = some (Sum.inr (aSet k j 4 + 100000), h') ∧ isW h' X (kst k j 4) sz sv bl bf ∧ fr h h' X (X + 87) := by
  intro d
  induction d with
  | zero =>
    intro n F h A hi hF
    obtain ⟨F, rfl⟩ : ∃ F', F = F' + 1 := ⟨F - 1, by omega⟩
    obtain rfl : n = 4 := by omega
    exact ⟨h, by rw [s_X7_settle_L33, if_pos (show (4 : Int32) ≤ nI 4 by decide)], A, fr.rf⟩
  | succ d ih =>
    intro n F h A hi hF
    obtain ⟨F, rfl⟩ : ∃ F', F = F' + 1 := ⟨F - 1, by omega⟩
    have hn : n < 4 := by omega
    obtain ⟨a0, a1, a2, a3, ⟨m, tp, a4⟩, a5, a6, a7⟩ := A
    obtain ⟨k1, k2, k3⟩ := kst_n k j n
    obtain ⟨h1, e1, e2, e3⟩ := charge_C (c := kw k n j) hn hj a1
    have A1 : isW h1 X (kst k j (n + 1)) sz sv bl bf := ⟨e3.O a0 (by omega), e2, a2.fr e3 (by omega), a3.fr e3 (by omega), ⟨m, tp, a4.fr e3 (by omega)⟩, a5.fr e3 (by omega), a6.fr e3 (by omega), a7.fr e3 (by omega)⟩
    obtain ⟨h2, f1, f2, f3⟩ := ih (n + 1) F h1 A1 (by omega) (by omega)
    refine ⟨h2, ?_, f2, (e3.wd (by omega) (by omega)).tr f3⟩
    have c4 : ¬ (4 : Int32) ≤ nI n := nI_ge (b := 4) hn (by decide)
    have wc := weekCost_R a2 hn hj
    rw [k1, k2, k3] at wc
    rw [s_X7_settle_L33, if_neg c4, gr_O a0 (k := 0) rfl, bS, gr_O a0 (k := 1) rfl, bS, is_O a2.1, bS, wc, bS, is_O a1.1, bS]
    show ((s_X3_charge h (X + 1) (nI n) (nI j) (kw k n j)).bind fun (x54, h54) => _) = _
    rw [e1, bS, nI_1]
    exact f1
theorem settle_W (A : isW h X k sz sv bl bf) {j : Nat} (hj : j < 4) : ∃ h', s_X7_settle h X (nI j) = some (Sum.inr (aSet k j 4 + 100000), h') ∧ isW h' X (kst k j 4) (min (sz + 1) 6) (kpush sv k) bl bf ∧ fr h h' X (X + 87) := by
  obtain ⟨nx, sr⟩ := sv_ref A
  obtain ⟨h1, e1, e2, e3⟩ := push_W A
  obtain ⟨h2, f1, f2, f3⟩ := settle_L (k := k) hj 4 0 m_F h1 e2 (by decide) (by unfold m_F; decide)
  refine ⟨h2, ?_, f2, e3.tr f3⟩
  rw [s_X7_settle, show (4 : Int32) = nI 4 from rfl, below_yes hj (by decide), bS, if_neg (by decide), gr_O A.1 (k := 2) rfl, bS, gr_O A.1 (k := 0) rfl, bS, is_O sr, bS, e1, bS]
  exact f1
end PSe
