/-! PURE: what the reference tells of taps, ledgers, stations, caps -/
section RT
variable {h : mH} {M sz : Nat} {t sm ln p wl rm : Int32} {hs : Int64} {f m : Nat → Int32} {k : mK}
theorem least_L (S : isS f k) (hn : kn k ≤ 61) (hv : vTs (kn k) (ktp k)) : ∀ (e i F : Nat) (h : mH), isQ h M (mOb M t sm ln p wl rm hs) f → i + e = 16 → e < F →
    ∃ h', s_X8_least_L4 F h M (foldI (fun a j => if a < kwj k j then kwj k j else a) i 0) (nI i) = some (kleast k, h') ∧ isQ h' M (mOb M t sm ln p wl rm hs) f ∧ fr h h' (M + 5) (M + 6) := by
  intro e
  induction e with
  | zero =>
    intro i F h A hi hF
    obtain ⟨F, rfl⟩ : ∃ F', F = F' + 1 := ⟨F - 1, by omega⟩
    obtain rfl : i = 16 := by omega
    exact ⟨h, by rw [s_X8_least_L4, if_pos (show (16 : Int32) ≤ nI 16 by decide)]; rfl, A, fr.rf⟩
  | succ e ih =>
    intro i F h A hi hF
    obtain ⟨F, rfl⟩ : ∃ F', F = F' + 1 := ⟨F - 1, by omega⟩
    obtain ⟨h1, e1, e2, e3⟩ := costs_M A S hn hv (show i / 4 < 4 by omega) (show i % 4 < 4 by omega)
    obtain ⟨h2, g1, g2, g3⟩ := ih (i + 1) F h1 e2 (by omega) (by omega)
    refine ⟨h2, ?_, g2, e3.tr g3⟩
    rw [s_X8_least_L4, if_neg (show ¬ (16 : Int32) ≤ nI i from nI_ge (b := 16) (by omega) (by decide)), show (4 : Int32) = nI 4 from rfl, m_div_nI (by omega) (by decide) (by decide), bS, m_rem_nI (by omega) (by decide) (by decide), bS, is_O A.1, bS, e1, bS]
    show (if kwj k i ≤ foldI (fun a j => if a < kwj k j then kwj k j else a) i 0 then _ else _) = _
    have sx : ∀ x, (if foldI (fun a j => if a < kwj k j then kwj k j else a) i 0 < kwj k i then kwj k i else foldI (fun a j => if a < kwj k j then kwj k j else a) i 0) = x → foldI (fun a j => if a < kwj k j then kwj k j else a) (i + 1) 0 = x := fun x hx => hx
    by_cases c : kwj k i ≤ foldI (fun a j => if a < kwj k j then kwj k j else a) i 0
    · rw [sx _ (if_neg (Int32.not_lt.mpr c))] at g1
      rw [if_pos c, s_X8_least_b31, nI_1]
      exact g1
    · rw [sx _ (if_pos (Int32.not_le.mp c))] at g1
      rw [if_neg c, s_X8_least_b31, nI_1]
      exact g1
theorem least_M (A : isQ h M (mOb M t sm ln p wl rm hs) f) (S : isS f k) (hn : kn k ≤ 61) (hv : vTs (kn k) (ktp k)) : ∃ h', s_X8_least h M = some (kleast k, h') ∧ isQ h' M (mOb M t sm ln p wl rm hs) f ∧ fr h h' (M + 5) (M + 6) :=
  least_L S hn hv 16 0 m_F h A (by decide) (by unfold m_F; decide)
theorem entry_M (A : isQ h M (mOb M t sm ln p wl rm hs) f) (S : isS f k) (hl : ∀ w, w < 4 → kln k w ≤ 8) {w b q : Nat} (hw : w < 4) (hb : b < 8) (hq : q < 2) : s_X8_entry h M (nI w) (nI b) (nI q) = some (aLedger k w b q) := by
  have e1 : (428 : Int32) + 16 * nI w + 2 * nI b + nI q = nI (428 + 16 * w + 2 * b + q) := by
    rw [show (428 : Int32) = nI 428 from rfl, show (16 : Int32) = nI 16 from rfl, show (2 : Int32) = nI 2 from rfl, nI_mul, nI_mul, nI_add, nI_add, nI_add]
  have hlw := hl w hw
  obtain ⟨-, -, -, -, -, -, -, -, s9, s10⟩ := S
  rw [s_X8_entry, e1, st_M A.1 A.2.1 (by omega), show (424 : Int32) = nI 424 from rfl, nI_add, st_M A.1 A.2.1 (by omega), s9 w hw]
  have d1 : (w * 8 + b) / 8 = w := by omega
  have d2 : (w * 8 + b) % 8 = b := by omega
  by_cases c : b < kln k w
  · obtain ⟨s11, s12⟩ := s10 w hw b c
    rw [if_pos (nI_lt c (by omega))]
    match q, hq with
    | 0, _ =>
      rw [if_pos (show nI 0 = 0 from rfl), Nat.add_zero, s11]
      show some (klw k w b) = some (if (w * 8 + b) % 8 < kln k ((w * 8 + b) / 8) then klw k ((w * 8 + b) / 8) ((w * 8 + b) % 8) else -1)
      rw [d1, d2, if_pos c]
    | 1, _ =>
      rw [if_neg (show ¬ nI 1 = 0 by decide), s12]
      show some (kls k w b + 100000) = some (if (w * 8 + b) % 8 < kln k ((w * 8 + b) / 8) then kls k ((w * 8 + b) / 8) ((w * 8 + b) % 8) + 100000 else -1)
      rw [d1, d2, if_pos c]
  · rw [if_neg (fun z => c ((nI_ltI (by omega) (by omega)).mp z))]
    match q, hq with
    | 0, _ =>
      show some (-1) = some (if (w * 8 + b) % 8 < kln k ((w * 8 + b) / 8) then klw k ((w * 8 + b) / 8) ((w * 8 + b) % 8) else -1)
      rw [d1, d2, if_neg c]
    | 1, _ =>
      show some (-1) = some (if (w * 8 + b) % 8 < kln k ((w * 8 + b) / 8) then kls k ((w * 8 + b) / 8) ((w * 8 + b) % 8) + 100000 else -1)
      rw [d1, d2, if_neg c]
theorem tellsTap_M (H : h M = some (mOb M t sm ln p wl rm hs)) (A : isA h (M + 1) 492 f) (S : isS f k) (hn : kn k ≤ 61) (hv : vTs (kn k) (ktp k)) (B : isA h (M + 5) 61 m) (hm : ∀ i, i < kn k → m i = mt (kn k) (kset k 3) (ktp k) i) {i q : Nat} (hi : i < kn k) (hq : q < 8) : s_X8_tellsTap h M (nI i) (nI q) = some (aTap k i q) := by
  have T := S.2.2.2.2.1
  match q, hq with
  | 0, _ => rw [s_X8_tellsTap, if_neg (show ¬ nI 0 = 5 by decide), if_neg (show ¬ nI 0 = 6 by decide), if_neg (show ¬ nI 0 = 7 by decide), is_O H, bS, of_T H A T hn hi (by decide)]; rfl
  | 1, _ => rw [s_X8_tellsTap, if_neg (show ¬ nI 1 = 5 by decide), if_neg (show ¬ nI 1 = 6 by decide), if_neg (show ¬ nI 1 = 7 by decide), is_O H, bS, of_T H A T hn hi (by decide)]; rfl
  | 2, _ => rw [s_X8_tellsTap, if_neg (show ¬ nI 2 = 5 by decide), if_neg (show ¬ nI 2 = 6 by decide), if_neg (show ¬ nI 2 = 7 by decide), is_O H, bS, of_T H A T hn hi (by decide)]; rfl
  | 3, _ => rw [s_X8_tellsTap, if_neg (show ¬ nI 3 = 5 by decide), if_neg (show ¬ nI 3 = 6 by decide), if_neg (show ¬ nI 3 = 7 by decide), is_O H, bS, of_T H A T hn hi (by decide)]; rfl
  | 4, _ => rw [s_X8_tellsTap, if_neg (show ¬ nI 4 = 5 by decide), if_neg (show ¬ nI 4 = 6 by decide), if_neg (show ¬ nI 4 = 7 by decide), is_O H, bS, of_T H A T hn hi (by decide)]; rfl
  | 5, _ => rw [s_X8_tellsTap, if_pos (show nI 5 = 5 from rfl), gr_O H (k := 7) rfl, bS, iald_A B (show i < 61 by omega) (by decide), bS, hm i hi]; rfl
  | 6, _ => rw [s_X8_tellsTap, if_neg (show ¬ nI 6 = 5 by decide), if_pos (show nI 6 = 6 from rfl), is_O H, bS, fare_M H A S hn hv B hm hi]; rfl
  | 7, _ => rw [s_X8_tellsTap, if_neg (show ¬ nI 7 = 5 by decide), if_neg (show ¬ nI 7 = 6 by decide), if_pos (show nI 7 = 7 from rfl), is_O H, bS, show (5 : Int32) = nI 5 from rfl, of_T H A T hn hi (by decide)]; rfl
end RT
