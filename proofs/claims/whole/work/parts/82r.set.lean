/-! PURE: the reference sets a setting, and keeps signs -/
section RR2
variable {h : mH} {M sz bl : Nat} {t sm ln : Int32} {f g V b : Nat → Int32} {k : mK} {sv : Nat → mK}
def loS (i : Nat) : Int32 := if i = 3 then 1 else 0
def hiS (i : Nat) : Int32 := if i < 3 then 999 else if i = 3 then 1439 else 9999
theorem isSetting_M {i : Nat} {v : Int32} (hi : i < 6) : s_X8_isSetting h (nI i) v = s_X8_in h v (loS i) (hiS i) := by
  have z : ∀ {o : Option Int32}, (∃ x, o = some x ∧ (x = 0 ∨ x = 1)) → (o.bind fun x => (m_z x).bind fun y => some y) = o := by
    intro o ⟨x, e, hx⟩
    rcases hx with rfl | rfl
    · rw [e]; rfl
    · rw [e]; rfl
  have w : ∀ a b : Int32, ∃ x, s_X8_in h v a b = some x ∧ (x = 0 ∨ x = 1) := by
    intro a b
    by_cases c : v < a ∨ b < v
    · exact ⟨0, in_no c, Or.inl rfl⟩
    · exact ⟨1, in_yes (fun q => c (Or.inl q)) (fun q => c (Or.inr q)), Or.inr rfl⟩
  match i, hi with
  | 0, _ => rw [s_X8_isSetting, if_pos (show nI 0 = 0 from rfl)]; exact z (w 0 999)
  | 1, _ => rw [s_X8_isSetting, if_neg (show ¬ nI 1 = 0 by decide), if_pos (show nI 1 = 1 from rfl)]; exact z (w 0 999)
  | 2, _ => rw [s_X8_isSetting, if_neg (show ¬ nI 2 = 0 by decide), if_neg (show ¬ nI 2 = 1 by decide), if_pos (show nI 2 = 2 from rfl)]; exact z (w 0 999)
  | 3, _ => rw [s_X8_isSetting, if_neg (show ¬ nI 3 = 0 by decide), if_neg (show ¬ nI 3 = 1 by decide), if_neg (show ¬ nI 3 = 2 by decide), if_pos (show nI 3 = 3 from rfl)]; exact z (w 1 1439)
  | 4, _ => rw [s_X8_isSetting, if_neg (show ¬ nI 4 = 0 by decide), if_neg (show ¬ nI 4 = 1 by decide), if_neg (show ¬ nI 4 = 2 by decide), if_neg (show ¬ nI 4 = 3 by decide)]; exact z (w 0 9999)
  | 5, _ => rw [s_X8_isSetting, if_neg (show ¬ nI 5 = 0 by decide), if_neg (show ¬ nI 5 = 1 by decide), if_neg (show ¬ nI 5 = 2 by decide), if_neg (show ¬ nI 5 = 3 by decide)]; exact z (w 0 9999)
theorem set_Mno1 (A : isM h M t k sz sv bl b) {v1 v2 : Int32} (q : oB v1 6) : ∃ h', s_X8_set h M v1 v2 = some (0, h') ∧ isM h' M 1 k sz sv bl b ∧ fr h h' M (M + 7) := by
  obtain ⟨h1, h2, e1, e2, e3, e4, e5, e6⟩ := no_M A 1
  refine ⟨h2, ?_, e4, e6⟩
  rw [s_X8_set, e1, bS, show s_X8_in h1 v1 0 5 = some 0 from in0_no (b := 5) q (by decide), bS, if_pos rfl, e5, bS, e3, bS]
theorem set_Mno2 (A : isM h M t k sz sv bl b) {i : Nat} {v : Int32} (hi : i < 6) (q : v < loS i ∨ hiS i < v) : ∃ h', s_X8_set h M (nI i) v = some (0, h') ∧ isM h' M 2 k sz sv bl b ∧ fr h h' M (M + 7) := by
  obtain ⟨h1, h2, e1, e2, e3, e4, e5, e6⟩ := no_M A 2
  refine ⟨h2, ?_, e4, e6⟩
  rw [s_X8_set, e1, bS, show s_X8_in h1 (nI i) 0 5 = some 1 from in0_yes (b := 5) hi (by decide), bS, if_neg (by decide), isSetting_M hi, in_no q, bS, if_pos rfl, e5, bS, e3, bS]
theorem set_M (A : isM h M t k sz sv bl b) (hk : kok k) (hsv : ∀ j, j < sz → kok (sv j)) (hz : sz ≤ 6) {i : Nat} {v : Int32} (hi : i < 6) (q1 : ¬ v < loS i) (q2 : ¬ hiS i < v) : ∃ h', s_X8_set h M (nI i) v = some (kset k i, h') ∧ isM h' M 0 (kset' k i v) (min (sz + 1) 6) (kpush sv k) bl b ∧ fr h h' M (M + 7) := by
  have hn := hk.1
  obtain ⟨f, g, V, R, S, W⟩ := A
  obtain ⟨h1, e1, e2, e3⟩ := R.th 0
  obtain ⟨h2, V', g1, g2, g3, g4⟩ := saves_M e2 S hk W hsv hz
  obtain ⟨p, wl, rm, hs, z0⟩ := g2.1
  obtain ⟨h3, j1, j2, j3⟩ := iast_A g2.2.1 (k := i) (by omega) (by decide) v
  obtain ⟨s1, s2, s3, s4, ⟨t1, t2, t3⟩, s6, s7, s8, s9, s10⟩ := S
  refine ⟨h3, ?_, ⟨upd f i v, g, V', g2.m1 j3 j2, ⟨fun c hc => ?_, ?_, ?_, ?_, ⟨?_, ?_, fun c hc j hj => ?_⟩, fun c hc => ?_, fun c hc => ?_, fun c hc => ?_, fun w hw => ?_, fun w hw c hc => ?_⟩, g3⟩, ((e3.wd (by omega) (by omega)).tr (g4.wd (by omega) (by omega))).tr (j3.wd (by omega) (by omega))⟩
  · rw [s_X8_set, e1, bS, show s_X8_in h1 (nI i) 0 5 = some 1 from in0_yes (b := 5) hi (by decide), bS, if_neg (by decide), isSetting_M hi, in_yes q1 q2, bS, if_neg (by decide), e2.is, bS, g1, bS, gr_O z0 (k := 1) rfl, bS, iald_A g2.2.1 (show i < 492 by omega) (by decide), bS, bS, j1, bS, s1 i hi]
  · show upd f i v c = upd (kset k) i v c
    by_cases z : c = i
    · subst z; rw [pk_us, pk_us]
    · rw [pk_un z, pk_un z]; exact s1 c hc
  · rw [pk_un (by omega)]; exact s2
  · rw [pk_un (by omega)]; exact s3
  · rw [pk_un (by omega)]; exact s4
  · rw [pk_un (by omega)]; exact t1
  · show upd f i v 3 = upd (kset k) i v 3
    by_cases z : 3 = i
    · subst z; rw [pk_us, pk_us]
    · rw [pk_un z, pk_un z]; exact t2
  · have hc' : c < kn k := hc
    rw [pk_un (by omega)]; exact t3 c hc' j hj
  · rw [pk_un (by omega)]; exact s6 c hc
  · rw [pk_un (by omega)]; exact s7 c hc
  · rw [pk_un (by omega)]; exact s8 c hc
  · rw [pk_un (by omega)]; exact s9 w hw
  · rw [pk_un (by omega), pk_un (by omega)]; exact s10 w hw c hc
theorem append_Mno1 (A : isM h M t k sz sv bl b) {v : Int32} (q : v < 33 ∨ 126 < v) : ∃ h', s_X8_append h M v = some (0, h') ∧ isM h' M 1 k sz sv bl b ∧ fr h h' M (M + 7) := by
  obtain ⟨h1, h2, e1, e2, e3, e4, e5, e6⟩ := no_M A 1
  refine ⟨h2, ?_, e4, e6⟩
  rw [s_X8_append, e1, bS, in_no q, bS, if_pos rfl, e5, bS, e3, bS]
theorem append_Mno2 (A : isM h M t k sz sv 60 b) {v : Int32} (q1 : ¬ v < 33) (q2 : ¬ 126 < v) : ∃ h', s_X8_append h M v = some (0, h') ∧ isM h' M 2 k sz sv 60 b ∧ fr h h' M (M + 7) := by
  obtain ⟨h1, h2, e1, ⟨f, g, V, R, S, W⟩, e3, e4, e5, e6⟩ := no_M A 2
  refine ⟨h2, ?_, e4, e6⟩
  obtain ⟨p, wl, rm, hs, a0⟩ := R.1
  rw [s_X8_append, e1, bS, in_yes q1 q2, bS, if_neg (by decide), gi_O a0 (k := 6) rfl, bS, if_pos (show nI 60 = 60 from rfl), e5, bS, e3, bS]
theorem append_M (A : isM h M t k sz sv bl b) {v : Int32} (q1 : ¬ v < 33) (q2 : ¬ 126 < v) (hb : bl < 60) : ∃ h', s_X8_append h M v = some (nI (bl + 1), h') ∧ isM h' M 0 k sz sv (bl + 1) (upd b bl v) ∧ fr h h' M (M + 7) := by
  obtain ⟨f, g, V, R, S, W⟩ := A
  obtain ⟨h1, e1, e2, e3⟩ := R.th 0
  obtain ⟨p, wl, rm, hs, a0⟩ := e2.1
  obtain ⟨h2, j1, j2, j3⟩ := iast_A e2.2.2.2.2.1 hb (by decide) v
  have R2 := e2.m4 j3 j2
  have b0 := j3.O a0 (by omega)
  have w : m_put h2 6 M 6 (.int (nI (bl + 1))) = some (m_up h2 M (mOb M 0 (nI sz) (nI (bl + 1)) p wl rm hs)) := put_O b0 (k := 6) (show 6 < 13 by decide)
  have u : (m_up h2 M (mOb M 0 (nI sz) (nI (bl + 1)) p wl rm hs)) M = some (mOb M 0 (nI sz) (nI (bl + 1)) p wl rm hs) := m_up_same _ _ _
  have E : fr h2 (m_up h2 M (mOb M 0 (nI sz) (nI (bl + 1)) p wl rm hs)) M (M + 1) := fr.up
  refine ⟨_, ?_, ⟨f, g, V, R2.m0 (p' := p) (wl' := wl) (rm' := rm) (hs' := hs), S, W⟩, ((e3.wd (by omega) (by omega)).tr (j3.wd (by omega) (by omega))).tr (E.wd (by omega) (by omega))⟩
  have q60 : ¬ nI bl = 60 := fun z => by have := (nI_eq (b := 60) (by omega) (by decide)).mp z; omega
  rw [s_X8_append, e1, bS, in_yes q1 q2, bS, if_neg (by decide), gi_O a0 (k := 6) rfl, bS, if_neg q60, gr_O a0 (k := 5) rfl, bS, bS, j1, bS, gi_O b0 (k := 6) rfl, bS, nI_1, w, bS, gi_O u (k := 6) rfl, bS]
theorem clear_M (A : isM h M t k sz sv bl b) : ∃ h', s_X8_clearBuffer h M = some (nI bl, h') ∧ isM h' M 0 k sz sv 0 b ∧ fr h h' M (M + 7) := by
  obtain ⟨f, g, V, R, S, W⟩ := A
  obtain ⟨h1, e1, e2, e3⟩ := R.th 0
  obtain ⟨p, wl, rm, hs, a0⟩ := e2.1
  have w : m_put h1 6 M 6 (.int 0) = some (m_up h1 M (mOb M 0 (nI sz) (nI 0) p wl rm hs)) := put_O a0 (k := 6) (show 6 < 13 by decide)
  have E : fr h1 (m_up h1 M (mOb M 0 (nI sz) (nI 0) p wl rm hs)) M (M + 1) := fr.up
  refine ⟨_, ?_, ⟨f, g, V, e2.m0 (p' := p) (wl' := wl) (rm' := rm) (hs' := hs), S, W⟩, (e3.wd (by omega) (by omega)).tr (E.wd (by omega) (by omega))⟩
  rw [s_X8_clearBuffer, e1, bS, gi_O a0 (k := 6) rfl, bS, w, bS]
theorem thrown_M (A : isM h M t k sz sv bl b) : s_X8_thrown h M = some t := by
  obtain ⟨f, g, V, R, S, W⟩ := A
  obtain ⟨p, wl, rm, hs, a0⟩ := R.1
  rw [s_X8_thrown, gi_O a0 (k := 0) rfl, bS]
end RR2
