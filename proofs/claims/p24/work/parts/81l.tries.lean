/-! PURE: what is saved, read anew and tried -/
section PTr
/-- the object while its rides are not read anew -/
def isU (h : mH) (X : Nat) (k : mK) (sz : Nat) (sv : Nat → mK) (bl : Nat) (bf : Nat → Int32) : Prop := h X = some (xO X bl) ∧ isC h (X + 1) k ∧ isRG h (X + 10) ∧ isV h (X + 18) sz sv ∧ (∃ n tp, isTR h (X + 74) n tp) ∧ isRG h (X + 76) ∧ isA h (X + 84) 60 bf ∧ isRR h (X + 85)
theorem isRR.fr {h h' : mH} {g lo hi : Nat} (A : isRR h g) (F : fr h h' lo hi) (hq : g + 2 ≤ lo ∨ hi ≤ g) : isRR h' g := by
  obtain ⟨⟨a, b, c, d, e, f, i, a7⟩, q, a8⟩ := A
  exact ⟨⟨a, b, c, d, e, f, i, F.O a7 (by omega)⟩, q, a8.fr F (by omega)⟩
variable {h : mH} {X sz bl : Nat} {k : mK} {sv : Nat → mK} {bf : Nat → Int32}
theorem isW.U (A : isW h X k sz sv bl bf) : isU h X k sz sv bl bf := by
  obtain ⟨a0, a1, a2, a3, a4, a5, a6, a7⟩ := A
  exact ⟨a0, a1, a2.G, a3, a4, a5, a6, a7⟩
theorem readRides_W (A : isU h X k sz sv bl bf) (hn : kn k ≤ 61) (hv : vTs (kn k) (ktp k)) : ∃ h', s_X7_readRides h X = some h' ∧ isW h' X k sz sv bl bf ∧ fr h h' X (X + 87) := by
  obtain ⟨a0, a1, a2, a3, ⟨n, tp, a4⟩, a5, a6, a7⟩ := A
  obtain ⟨c0, c1, c2, -⟩ := id a1
  obtain ⟨h', e1, e2, e3⟩ := readFrom_R hn hv (by omega) (by omega) a2 c1 c2
  refine ⟨h', ?_, ⟨e3.O a0 (by omega), a1.fr e3 (by omega), e2, a3.fr e3 (by omega), ⟨n, tp, a4.fr e3 (by omega)⟩, a5.fr e3 (by omega), a6.fr e3 (by omega), a7.fr e3 (by omega)⟩, e3.wd (by omega) (by omega)⟩
  rw [s_X7_readRides, gr_O a0 (k := 1) rfl, bS, gr_O a0 (k := 0) rfl, bS, gr_O c0 (k := 0) rfl, bS, bS, gr_O c0 (k := 1) rfl, bS, is_O a2.1.choose_spec.choose_spec, bS, e1]
  rfl
theorem push_W (A : isW h X k sz sv bl bf) : ∃ h', s_X2_push h (X + 18) (X + 1) = some h' ∧ isW h' X k (min (sz + 1) 6) (kpush sv k) bl bf ∧ fr h h' X (X + 87) := by
  obtain ⟨a0, a1, a2, a3, ⟨n, tp, a4⟩, a5, a6, a7⟩ := A
  obtain ⟨h', e1, e2, e3⟩ := push_V a3 a1 (by omega)
  exact ⟨h', e1, ⟨e3.O a0 (by omega), a1.fr e3 (by omega), a2.fr e3 (by omega), e2, ⟨n, tp, a4.fr e3 (by omega)⟩, a5.fr e3 (by omega), a6.fr e3 (by omega), a7.fr e3 (by omega)⟩, e3.wd (by omega) (by omega)⟩
theorem sv_ref (A : isW h X k sz sv bl bf) : ∃ nx, h (X + 18) = some (mO 1 [.ref (X + 18 + 1), .int (nI nx), .int (nI sz)]) := by
  obtain ⟨-, -, -, ⟨nx, -, -, a3, -⟩, -⟩ := A
  exact ⟨nx, a3⟩
def kip (k : mK) (t : Nat → Nat) : Nat := ip (ktp k) t (kn k)
def kins (k : mK) (t : Nat → Nat) : mK := (kn k + 1, tins (ktp k) (kip k t) t, k.2.2)
theorem tryTap_W (A : isW h X k sz sv bl bf) (hn : kn k ≤ 60) (hv : vTs (kn k) (ktp k)) {t : Nat → Nat} (vt : vT t) : ∃ h', s_X7_tryTap h X (pk t) = some (nI (kip k t), h') ∧ isW h' X k sz sv bl bf ∧ isRd h' (X + 76) (kn k + 1) (kset k) (ktp (kins k t)) ∧ fr h h' (X + 74) (X + 84) := by
  obtain ⟨a0, a1, a2, a3, ⟨n, tp, a4⟩, a5, a6, a7⟩ := A
  obtain ⟨c0, c1, c2, -⟩ := id a1
  obtain ⟨h1, e1, e2, e3⟩ := copyRow c1 a4 (by omega)
  obtain ⟨h2, f1, f2, f3⟩ := insert_R e2 hn hv vt
  have E : fr h h2 (X + 74) (X + 76) := e3.tr f3
  have hk : kip k t ≤ kn k := ip_le _
  obtain ⟨h3, g1, g2, g3⟩ := readFrom_R (show kn k + 1 ≤ 61 by omega) (hv.tins vt hk) (by omega) (show X + 3 + 1 < X + 76 ∨ _ by omega) (a5.fr E (by omega)) f2 (c2.fr E (by omega))
  have E3 : fr h h3 (X + 74) (X + 84) := (E.wd (by omega) (by omega)).tr (g3.wd (by omega) (by omega))
  refine ⟨h3, ?_, ⟨E3.O a0 (by omega), a1.fr E3 (by omega), a2.fr E3 (by omega), a3.fr E3 (by omega), ⟨_, _, f2.fr g3 (by omega)⟩, g2.G, a6.fr E3 (by omega), a7.fr E3 (by omega)⟩, g2, E3⟩
  have b0 := e3.O a0 (show X < X + 74 ∨ _ by omega)
  have d0 := E.O a0 (show X < X + 74 ∨ _ by omega)
  have d1 := E.O c0 (show X + 1 < X + 74 ∨ _ by omega)
  rw [s_X7_tryTap, gr_O a0 (k := 3) rfl, bS, gr_O a0 (k := 0) rfl, bS, gr_O c0 (k := 0) rfl, bS, is_O a4.1, bS, e1, bS, gr_O b0 (k := 3) rfl, bS, is_O e2.1, bS, f1, bS]
  show ((m_gr h2 5 X 4).bind fun x24 => _) = _
  rw [gr_O d0 (k := 4) rfl, bS, gr_O d0 (k := 3) rfl, bS, gr_O d0 (k := 0) rfl, bS, gr_O d1 (k := 1) rfl, bS, is_O (a5.fr E (by omega)).1.choose_spec.choose_spec, bS, g1]
  rfl
noncomputable def aRaised (k : mK) (t : Nat → Nat) : Int32 := (wcost (kn k + 1) (kset k) (ktp (kins k t)) (t 0) (t 1 / 7) - wcost (kn k) (kset k) (ktp k) (t 0) (t 1 / 7)) + 100000
/-- what a claim adds -/
def mis (k : mK) (i m s : Nat) : Nat → Nat := mkT (ktp k i 0) (ktp k i 1) m s (1 - ktp k i 4) 1
theorem mis_v {t : Nat → Nat} {m s : Nat} (v : vT t) (hm : m < 1440) (hs : s < 10) : vT (mkT (t 0) (t 1) m s (1 - t 4) 1) := by
  obtain ⟨h0, h1, -⟩ := v
  exact ⟨h0, h1, hm, hs, show 1 - t 4 < 2 by omega, show 1 < 2 by decide⟩
noncomputable def kmt (k : mK) (i : Nat) : Int32 := mt (kn k) (kset k 3) (ktp k) i
noncomputable def aWould (k : mK) (i : Nat) (t : Nat → Nat) : Bool := decide (mt (kn k + 1) (kset k 3) (ktp (kins k t)) (kip k t) = nI (if i < kip k t then i else i + 1))
theorem would_W (A : isW h X k sz sv bl bf) (hn : kn k ≤ 60) (hv : vTs (kn k) (ktp k)) {t : Nat → Nat} (vt : vT t) {i : Nat} (hi : i < kn k) : ∃ h', s_X7_wouldRideWith h X (nI i) (pk t) = some (if aWould k i t then 1 else 0, h') ∧ isW h' X k sz sv bl bf ∧ fr h h' (X + 74) (X + 84) := by
  obtain ⟨h', e1, e2, e3, e4⟩ := tryTap_W A hn hv vt
  refine ⟨h', ?_, e2, e4⟩
  have hk : kip k t ≤ kn k := ip_le _
  obtain ⟨r0, ⟨M, r1, r2⟩, -⟩ := e3
  have key : ∀ x : Int32, s_X7_wouldRideWith_b18 h' X (nI (kip k t)) x = some (if mt (kn k + 1) (kset k 3) (ktp (kins k t)) (kip k t) = x then 1 else 0, h') := by
    intro x
    rw [s_X7_wouldRideWith_b18, gr_O e2.1 (k := 4) rfl, bS, gr_O r0 (k := 0) rfl, bS, at_A r1 (show kip k t < 61 by omega) (by decide), bS, r2 _ (by omega)]
    by_cases q : mt (kn k + 1) (kset k 3) (ktp (kins k t)) (kip k t) = x
    · rw [if_pos q, if_pos q]; rfl
    · rw [if_neg q, if_neg q]; rfl
  rw [s_X7_wouldRideWith, is_O A.1, bS, e1, bS]
  show (if nI i < nI (kip k t) then _ else _) = _
  by_cases q : i < kip k t
  · rw [if_pos (nI_lt q (by omega)), key, aWould, if_pos q]
    by_cases z : mt (kn k + 1) (kset k 3) (ktp (kins k t)) (kip k t) = nI i
    · rw [if_pos z, if_pos (decide_eq_true z)]
    · rw [if_neg z, if_neg (by rw [decide_eq_true_iff]; exact z)]
  · rw [if_neg (fun z => q ((nI_ltI (by omega) (by omega)).mp z)), show nI i + 1 = nI (i + 1) from nI_1 i, key, aWould, if_neg q]
    by_cases z : mt (kn k + 1) (kset k 3) (ktp (kins k t)) (kip k t) = nI (i + 1)
    · rw [if_pos z, if_pos (decide_eq_true z)]
    · rw [if_neg z, if_neg (by rw [decide_eq_true_iff]; exact z)]
end PTr
