/-! PURE: the class' changes: settings, buffer, claims -/
section PMo
def kset' (k : mK) (i : Nat) (v : Int32) : mK := (kn k, ktp k, upd (kset k) i v, k.2.2.2)
variable {h : mH} {X sz bl : Nat} {k : mK} {sv : Nat → mK} {bf : Nat → Int32}
theorem set_no1 {st : m_T} {v1 v2 : Int32} (q : oB v1 6) : s_X7_set st h X v1 v2 = some (Sum.inl "java/lang/IndexOutOfBoundsException", h) := by
  rw [s_X7_set, show (6 : Int32) = nI 6 from rfl, below_no q, bS, if_pos rfl]
theorem set_no2 {st : m_T} {f1 f2 : Nat → Int32} (T1 : isT h (st.2 1) 6 f1) (T2 : isT h (st.2 2) 6 f2) {i : Nat} {v : Int32} (hi : i < 6) (q : v < f1 i ∨ ¬ v ≤ f2 i) : s_X7_set st h X (nI i) v = some (Sum.inl "java/lang/IllegalArgumentException", h) := by
  rw [s_X7_set, show (6 : Int32) = nI 6 from rfl, below_yes hi (by decide), bS, if_neg (by decide), at_T T1 hi (by decide), bS]
  by_cases c : v < f1 i
  · rw [if_pos c]; rfl
  · rw [if_neg c, at_T T2 hi (by decide), bS, if_neg (q.resolve_left c)]; rfl
theorem set_W {st : m_T} {f1 f2 : Nat → Int32} (T1 : isT h (st.2 1) 6 f1) (T2 : isT h (st.2 2) 6 f2) (A : isW h X k sz sv bl bf) (hn : kn k ≤ 60) (hv : vTs (kn k) (ktp k)) {i : Nat} {v : Int32} (hi : i < 6) (q1 : ¬ v < f1 i) (q2 : v ≤ f2 i) :
    ∃ h', s_X7_set st h X (nI i) v = some (Sum.inr (kset k i), h') ∧ isW h' X (kset' k i v) (min (sz + 1) 6) (kpush sv k) bl bf ∧ fr h h' X (X + 87) := by
  obtain ⟨h1, e1, e2, e3⟩ := push_W A
  obtain ⟨c0, c1, c2, c3, c4, c5, c6, c7⟩ := id e2.2.1
  obtain ⟨h2, f1', f2', f3⟩ := put_A c2 hi (by decide) v
  have C2 : isC h2 (X + 1) (kset' k i v) := ⟨f3.O c0 (by omega), c1.fr f3 (by omega), f2', c3.fr f3 (by omega), c4.fr f3 (by omega), c5.fr f3 (by omega), c6.fr f3 (by omega), c7.fr f3 (by omega)⟩
  obtain ⟨h3, g1, g2, g3⟩ := readRides_W (coreU e2.U (f3.wd (by omega) (by omega)) C2) (show kn k ≤ 61 by omega) hv
  refine ⟨h3, ?_, g2, (e3.tr (f3.wd (by omega) (by omega))).tr g3⟩
  obtain ⟨nx, sr⟩ := sv_ref A
  have b0 := e2.1
  have d0 := f3.O b0 (show X < X + 1 + 3 ∨ _ by omega)
  rw [s_X7_set, show (6 : Int32) = nI 6 from rfl, below_yes hi (by decide), bS, if_neg (by decide), at_T T1 hi (by decide), bS, if_neg q1, at_T T2 hi (by decide), bS, if_pos q2, gr_O A.1 (k := 2) rfl, bS, gr_O A.1 (k := 0) rfl, bS, is_O sr, bS, e1, bS, gr_O b0 (k := 0) rfl, bS, gr_O c0 (k := 1) rfl, bS, at_A c2 hi (by decide), bS, bS, gr_O c0 (k := 1) rfl, bS, f1', bS, is_O d0, bS, g1, bS]
/-! claims -/
def kclaim (k : mK) (i m s : Nat) : mK := kins (kn k, ktp k, kset k, kchg k, upd (kclm k) (ktp k i 0 * 4 + ktp k i 1 / 7) (kclm k (ktp k i 0 * 4 + ktp k i 1 / 7) + 1), k.2.2.2.2.2) (mis k i m s)
def krefuse (k : mK) : mK := (kn k, ktp k, kset k, kchg k, kclm k, kstl k, kln k, klw k, kls k, krf k, krd k, krr k + 1)
theorem fillIn_W (A : isW h X k sz sv bl bf) (hn : kn k < 60) (hv : vTs (kn k) (ktp k)) {i m s : Nat} (hi : i < kn k) (hm : m < 1440) (hs : s < 10) : ∃ h', s_X7_fillIn h X (nI i) (nI m) (nI s) = some h' ∧ isW h' X (kclaim k i m s) sz sv bl bf ∧ fr h h' X (X + 87) := by
  have v := hv i hi
  have vm : vT (mis k i m s) := mis_v v hm hs
  have w0 := v.1
  have w1 := v.2.1
  obtain ⟨c0, c1, c2, c3, c4, c5, c6, c7⟩ := id A.2.1
  obtain ⟨h1, e1, e2, e3⟩ := raise_A c4 (k := ktp k i 0 * 4 + ktp k i 1 / 7) (by omega) (by decide) 1
  have C1 : isC h1 (X + 1) (kn k, ktp k, kset k, kchg k, upd (kclm k) (ktp k i 0 * 4 + ktp k i 1 / 7) (kclm k (ktp k i 0 * 4 + ktp k i 1 / 7) + 1), k.2.2.2.2.2) := ⟨e3.O c0 (by omega), c1.fr e3 (by omega), c2.fr e3 (by omega), c3.fr e3 (by omega), e2, c5.fr e3 (by omega), c6.fr e3 (by omega), c7.fr e3 (by omega)⟩
  obtain ⟨h2, f1, f2, f3⟩ := insC (t := mis k i m s) C1 (show kn k ≤ 60 by omega) hv vm
  have F : fr h h2 (X + 1) (X + 10) := (e3.wd (by omega) (by omega)).tr (f3.wd (by omega) (by omega))
  obtain ⟨h3, g1, g2, g3⟩ := readRides_W (coreU A.U F f2) (show kn k + 1 ≤ 61 by omega) (hv.tins vm (ip_le _))
  refine ⟨h3, ?_, g2, (F.wd (by omega) (by omega)).tr g3⟩
  have b0 := e3.O A.1 (show X < X + 1 + 5 ∨ _ by omega)
  have b1 := C1.1
  have d0 := F.O A.1 (show X < X + 1 ∨ _ by omega)
  rw [s_X7_fillIn, gr_O A.1 (k := 0) rfl, bS, gr_O c0 (k := 0) rfl, bS, is_O c1.1, bS, tapAt_R c1 hi (by omega), bS, bS, gr_O c0 (k := 3) rfl, bS, walletOf_pk v, bS, weekOf_pk v, bS, weekCell_nI, bS, e1, bS, gr_O b0 (k := 0) rfl, bS, gr_O b1 (k := 0) rfl, bS, missingOf_pk v hm hs, bS, is_O C1.2.1.1, bS]
  show ((s_X5_insert h1 (X + 1 + 1) (pk (mis k i m s))).bind fun (x51, h51) => _) = _
  rw [f1, bS]
  show ((m_is h2 5 X).bind fun _ => _) = _
  rw [is_O d0, bS, g1]
  rfl
theorem refuse_W (A : isW h X k sz sv bl bf) : ∃ h', ((m_gr h 5 X 0).bind fun x54 => (m_gi h 2 x54 9).bind fun x58 => (m_put h 2 x54 9 (.int (x58 + 1)))) = some h' ∧ isW h' X (krefuse k) sz sv bl bf ∧ fr h h' X (X + 87) := by
  obtain ⟨a0, a1, a2, a3, ⟨n, tp, a4⟩, a5, a6, a7⟩ := A
  obtain ⟨c0, c1, c2, c3, c4, c5, c6, c7⟩ := a1
  have E : fr h (m_up h (X + 1) (cO (X + 1) (krf k) (krd k) (krr k + 1))) (X + 1) (X + 2) := fr.up
  have w : m_put h 2 (X + 1) 9 (.int (krr k + 1)) = some (m_up h (X + 1) (cO (X + 1) (krf k) (krd k) (krr k + 1))) := put_O c0 (k := 9) (show 9 < 10 by decide)
  refine ⟨_, ?_, ⟨E.O a0 (by omega), ⟨m_up_same _ _ _, c1.fr E (by omega), c2.fr E (by omega), c3.fr E (by omega), c4.fr E (by omega), c5.fr E (by omega), c6.fr E (by omega), c7.fr E (by omega)⟩, a2.fr E (by omega), a3.fr E (by omega), ⟨n, tp, a4.fr E (by omega)⟩, a5.fr E (by omega), a6.fr E (by omega), a7.fr E (by omega)⟩, E.wd (by omega) (by omega)⟩
  rw [gr_O a0 (k := 0) rfl, bS, gi_O c0 (k := 9) rfl, bS, w]
end PMo
