/-! PURE: the branches of the law's loop -/
section LB
variable {st : m_T} {h : mH} {X b L : Nat} {xs : Nat → Int32} {k : mK} {sz : Nat} {sv : Nat → mK} {bl : Nat} {bf : Nat → Int32}
theorem rdX (H : h b = some (mC L xs)) {i j : Nat} (hj : i + j < L) (hL : L < 2 ^ 31) : m_iald h b (nI i + nI j) = some (xs (i + j)) := by
  rw [nI_add]
  exact iald_T (n := L) (f := xs) ⟨xs, H, fun _ _ => rfl⟩ hj hL
theorem rd1 (H : h b = some (mC L xs)) {i : Nat} (hi : i + 6 ≤ L) (hL : L < 2 ^ 31) : m_iald h b (nI i + 1) = some (xs (i + 1)) := rdX (j := 1) H (by omega) hL
theorem rd2 (H : h b = some (mC L xs)) {i : Nat} (hi : i + 6 ≤ L) (hL : L < 2 ^ 31) : m_iald h b (nI i + 2) = some (xs (i + 2)) := rdX (j := 2) H (by omega) hL
theorem rd3 (H : h b = some (mC L xs)) {i : Nat} (hi : i + 6 ≤ L) (hL : L < 2 ^ 31) : m_iald h b (nI i + 3) = some (xs (i + 3)) := rdX (j := 3) H (by omega) hL
theorem rd4 (H : h b = some (mC L xs)) {i : Nat} (hi : i + 6 ≤ L) (hL : L < 2 ^ 31) : m_iald h b (nI i + 4) = some (xs (i + 4)) := rdX (j := 4) H (by omega) hL
theorem rd5 (H : h b = some (mC L xs)) {i : Nat} (hi : i + 6 ≤ L) (hL : L < 2 ^ 31) : m_iald h b (nI i + 5) = some (xs (i + 5)) := rdX (j := 5) H (by omega) hL
theorem two {α : Type} {k' : mK} {sz' : Nat} {sv' : Nat → mK} {bl' : Nat} {bf' : Nat → Int32} (I : iI st h X b L xs k sz sv bl bf) {h1 : mH} {v : α} {o2 : mH → Option (α × mH)} (F1 : fr h h1 X (X + 87)) (W : isW h1 X k' sz' sv' bl' bf') (hM : ∀ (h2 : mH) (t : Int32), isM h2 (X + 87) t k sz sv bl bf → ∃ h3, o2 h2 = some (v, h3) ∧ isM h3 (X + 87) 0 k' sz' sv' bl' bf' ∧ fr h2 h3 (X + 87) (X + 87 + 7)) (V : vK k' sz' sv' bl' bf') : ∃ h3, m_is h1 6 (X + 87) = some () ∧ o2 h1 = some (v, h3) ∧ iE st h3 X b L xs := by
  obtain ⟨-, ⟨t, A⟩, i3, -, ⟨g, G⟩, -, -, -, -, i10, -⟩ := id I
  have A2 := A.ff F1 (by omega)
  obtain ⟨h3, m1, m2, m3⟩ := hM h1 t A2
  exact ⟨h3, A2.it, m1, I.go F1 W fr.rf ⟨g, (F1 _ (by omega)).trans G⟩ m3 m2 V⟩
theorem br_0 {K : mH → Nat → Nat → Nat → Nat → Int32 → Option Int32} {i : Nat} (I : iI st h X b L xs k sz sv bl bf) (hi : i + 6 ≤ L) (hL : L < 2 ^ 31) : ∃ h', iE st h' X b L xs ∧ ((m_iald h b ((nI i) + 1)).bind fun x146 => (m_iald h b ((nI i) + 2)).bind fun x152 => (m_iald h b ((nI i) + 3)).bind fun x158 => (m_iald h b ((nI i) + 4)).bind fun x164 => (m_iald h b ((nI i) + 5)).bind fun x170 => if x170 = 0 then (s_L_law_b179 st K h b X (X + 87) (X + 94) (nI i) X x146 x152 x158 x164 0) else (s_L_law_b179 st K h b X (X + 87) (X + 94) (nI i) X x146 x152 x158 x164 1)) = K h' b X (X + 87) (X + 94) (nI i + 6) := by
  by_cases c5 : xs (i + 5) = 0
  · obtain ⟨x, h1, y, h2, e1, eb, em, e2, em2, e3, e4, ie⟩ := agr_tap I (xs (i + 1)) (xs (i + 2)) (xs (i + 3)) (xs (i + 4)) (i := 0) (by decide)
    have e1' : s_L_tap h X (xs (i + 1)) (xs (i + 2)) (xs (i + 3)) (xs (i + 4)) 0 (X + 94) = some (x, h1) := e1
    have e2' : s_X8_tap h1 (X + 87) (xs (i + 1)) (xs (i + 2)) (xs (i + 3)) (xs (i + 4)) 0 = some (y, h2) := e2
    refine ⟨h2, ie, ?_⟩
    rw [rd1 I.2.2.1 hi hL, bS, rd2 I.2.2.1 hi hL, bS, rd3 I.2.2.1 hi hL, bS, rd4 I.2.2.1 hi hL, bS, rd5 I.2.2.1 hi hL, bS, if_pos c5, s_L_law_b179, e1', bS]
    show ((m_iald h1 b (nI i + 1)).bind fun _ => _) = _
    rw [rd1 eb hi hL, bS, rd2 eb hi hL, bS, rd3 eb hi hL, bS, rd4 eb hi hL, bS, rd5 eb hi hL, bS, if_pos c5, s_L_law_b224, em, bS, e2', bS]
    show ((m_is h2 6 (X + 87)).bind fun _ => _) = _
    rw [em2, bS, e3, bS, if_pos rfl]
    by_cases c : x = 0
    · rw [if_pos c, e4 c, bS, if_pos ((lg_cmp_eq _ _).mpr rfl)]; rfl
    · rw [if_neg c]; rfl
  · obtain ⟨x, h1, y, h2, e1, eb, em, e2, em2, e3, e4, ie⟩ := agr_tap I (xs (i + 1)) (xs (i + 2)) (xs (i + 3)) (xs (i + 4)) (i := 1) (by decide)
    have e1' : s_L_tap h X (xs (i + 1)) (xs (i + 2)) (xs (i + 3)) (xs (i + 4)) 1 (X + 94) = some (x, h1) := e1
    have e2' : s_X8_tap h1 (X + 87) (xs (i + 1)) (xs (i + 2)) (xs (i + 3)) (xs (i + 4)) 1 = some (y, h2) := e2
    refine ⟨h2, ie, ?_⟩
    rw [rd1 I.2.2.1 hi hL, bS, rd2 I.2.2.1 hi hL, bS, rd3 I.2.2.1 hi hL, bS, rd4 I.2.2.1 hi hL, bS, rd5 I.2.2.1 hi hL, bS, if_neg c5, s_L_law_b179, e1', bS]
    show ((m_iald h1 b (nI i + 1)).bind fun _ => _) = _
    rw [rd1 eb hi hL, bS, rd2 eb hi hL, bS, rd3 eb hi hL, bS, rd4 eb hi hL, bS, rd5 eb hi hL, bS, if_neg c5, s_L_law_b224, em, bS, e2', bS]
    show ((m_is h2 6 (X + 87)).bind fun _ => _) = _
    rw [em2, bS, e3, bS, if_pos rfl]
    by_cases c : x = 0
    · rw [if_pos c, e4 c, bS, if_pos ((lg_cmp_eq _ _).mpr rfl)]; rfl
    · rw [if_neg c]; rfl
theorem br_1 {K : mH → Nat → Nat → Nat → Nat → Int32 → Option Int32} {i : Nat} (I : iI st h X b L xs k sz sv bl bf) (hi : i + 6 ≤ L) (hL : L < 2 ^ 31) : ∃ h', iE st h' X b L xs ∧ ((m_iald h b ((nI i) + 1)).bind fun x266 => (s_L_remove h X x266 (X + 94)).bind fun (x268, h268) => (m_iald h268 b ((nI i) + 1)).bind fun x279 => (m_is h268 6 (X + 87)).bind fun _ => (s_X8_remove h268 (X + 87) x279).bind fun (x280, h280) => (m_is h280 6 (X + 87)).bind fun _ => (s_X8_thrown h280 (X + 87)).bind fun x286 => if x286 = x268 then (if x268 = 0 then ((m_lald h280 (X + 94) 0).bind fun x303 => if (lg_cmp x303 x280.toInt64) = 0 then (s_L_law_b313 st K h280 b X (X + 87) (X + 94) (nI i)) else (some 0)) else (s_L_law_b313 st K h280 b X (X + 87) (X + 94) (nI i))) else (some 0)) = K h' b X (X + 87) (X + 94) (nI i + 6) := by
  obtain ⟨x, h1, y, h2, e1, eb, em, e2, em2, e3, e4, ie⟩ := agr_remove I (xs (i + 1))
  have e2' : s_X8_remove h1 (X + 87) (xs (i + 1)) = some (y, h2) := e2
  refine ⟨h2, ie, ?_⟩
  rw [rd1 I.2.2.1 hi hL, bS, e1, bS]
  show ((m_iald h1 b (nI i + 1)).bind fun _ => _) = _
  rw [rd1 eb hi hL, bS, em, bS, e2', bS]
  show ((m_is h2 6 (X + 87)).bind fun _ => _) = _
  rw [em2, bS, e3, bS, if_pos rfl]
  by_cases c : x = 0
  · rw [if_pos c, e4 c, bS, if_pos ((lg_cmp_eq _ _).mpr rfl)]; rfl
  · rw [if_neg c]; rfl
theorem br_2 {K : mH → Nat → Nat → Nat → Nat → Int32 → Option Int32} {i : Nat} (I : iI st h X b L xs k sz sv bl bf) (hi : i + 6 ≤ L) (hL : L < 2 ^ 31) : ∃ h', iE st h' X b L xs ∧ ((m_iald h b ((nI i) + 1)).bind fun x322 => (m_iald h b ((nI i) + 2)).bind fun x328 => (m_iald h b ((nI i) + 3)).bind fun x334 => (s_L_claim h X x322 x328 x334 (X + 94)).bind fun (x336, h336) => (m_iald h336 b ((nI i) + 1)).bind fun x347 => (m_iald h336 b ((nI i) + 2)).bind fun x353 => (m_iald h336 b ((nI i) + 3)).bind fun x359 => (m_is h336 6 (X + 87)).bind fun _ => (s_X8_claim h336 (X + 87) x347 x353 x359).bind fun (x360, h360) => (m_is h360 6 (X + 87)).bind fun _ => (s_X8_thrown h360 (X + 87)).bind fun x366 => if x366 = x336 then (if x336 = 0 then ((m_lald h360 (X + 94) 0).bind fun x383 => if (lg_cmp x383 x360.toInt64) = 0 then (s_L_law_b393 st K h360 b X (X + 87) (X + 94) (nI i)) else (some 0)) else (s_L_law_b393 st K h360 b X (X + 87) (X + 94) (nI i))) else (some 0)) = K h' b X (X + 87) (X + 94) (nI i + 6) := by
  obtain ⟨x, h1, y, h2, e1, eb, em, e2, em2, e3, e4, ie⟩ := agr_claim I (xs (i + 1)) (xs (i + 2)) (xs (i + 3))
  have e2' : s_X8_claim h1 (X + 87) (xs (i + 1)) (xs (i + 2)) (xs (i + 3)) = some (y, h2) := e2
  refine ⟨h2, ie, ?_⟩
  rw [rd1 I.2.2.1 hi hL, bS, rd2 I.2.2.1 hi hL, bS, rd3 I.2.2.1 hi hL, bS, e1, bS]
  show ((m_iald h1 b (nI i + 1)).bind fun _ => _) = _
  rw [rd1 eb hi hL, bS, rd2 eb hi hL, bS, rd3 eb hi hL, bS, em, bS, e2', bS]
  show ((m_is h2 6 (X + 87)).bind fun _ => _) = _
  rw [em2, bS, e3, bS, if_pos rfl]
  by_cases c : x = 0
  · rw [if_pos c, e4 c, bS, if_pos ((lg_cmp_eq _ _).mpr rfl)]; rfl
  · rw [if_neg c]; rfl
theorem br_3 {K : mH → Nat → Nat → Nat → Nat → Int32 → Option Int32} {i : Nat} (I : iI st h X b L xs k sz sv bl bf) (hi : i + 6 ≤ L) (hL : L < 2 ^ 31) : ∃ h', iE st h' X b L xs ∧ ((m_iald h b ((nI i) + 1)).bind fun x402 => (s_L_settle h X x402 (X + 94)).bind fun (x404, h404) => (m_iald h404 b ((nI i) + 1)).bind fun x415 => (m_is h404 6 (X + 87)).bind fun _ => (s_X8_settle h404 (X + 87) x415).bind fun (x416, h416) => (m_is h416 6 (X + 87)).bind fun _ => (s_X8_thrown h416 (X + 87)).bind fun x422 => if x422 = x404 then (if x404 = 0 then ((m_lald h416 (X + 94) 0).bind fun x439 => if (lg_cmp x439 x416.toInt64) = 0 then (s_L_law_b449 st K h416 b X (X + 87) (X + 94) (nI i)) else (some 0)) else (s_L_law_b449 st K h416 b X (X + 87) (X + 94) (nI i))) else (some 0)) = K h' b X (X + 87) (X + 94) (nI i + 6) := by
  obtain ⟨x, h1, y, h2, e1, eb, em, e2, em2, e3, e4, ie⟩ := agr_settle I (xs (i + 1))
  have e2' : s_X8_settle h1 (X + 87) (xs (i + 1)) = some (y, h2) := e2
  refine ⟨h2, ie, ?_⟩
  rw [rd1 I.2.2.1 hi hL, bS, e1, bS]
  show ((m_iald h1 b (nI i + 1)).bind fun _ => _) = _
  rw [rd1 eb hi hL, bS, em, bS, e2', bS]
  show ((m_is h2 6 (X + 87)).bind fun _ => _) = _
  rw [em2, bS, e3, bS, if_pos rfl]
  by_cases c : x = 0
  · rw [if_pos c, e4 c, bS, if_pos ((lg_cmp_eq _ _).mpr rfl)]; rfl
  · rw [if_neg c]; rfl
theorem br_4 {K : mH → Nat → Nat → Nat → Nat → Int32 → Option Int32} {i : Nat} (I : iI st h X b L xs k sz sv bl bf) (hi : i + 6 ≤ L) (hL : L < 2 ^ 31) : ∃ h', iE st h' X b L xs ∧ ((m_iald h b ((nI i) + 1)).bind fun x458 => (m_iald h b ((nI i) + 2)).bind fun x464 => (s_L_set st h X x458 x464 (X + 94)).bind fun (x466, h466) => (m_iald h466 b ((nI i) + 1)).bind fun x477 => (m_iald h466 b ((nI i) + 2)).bind fun x483 => (m_is h466 6 (X + 87)).bind fun _ => (s_X8_set h466 (X + 87) x477 x483).bind fun (x484, h484) => (m_is h484 6 (X + 87)).bind fun _ => (s_X8_thrown h484 (X + 87)).bind fun x490 => if x490 = x466 then (if x466 = 0 then ((m_lald h484 (X + 94) 0).bind fun x507 => if (lg_cmp x507 x484.toInt64) = 0 then (s_L_law_b517 st K h484 b X (X + 87) (X + 94) (nI i)) else (some 0)) else (s_L_law_b517 st K h484 b X (X + 87) (X + 94) (nI i))) else (some 0)) = K h' b X (X + 87) (X + 94) (nI i + 6) := by
  obtain ⟨x, h1, y, h2, e1, eb, em, e2, em2, e3, e4, ie⟩ := agr_set I (xs (i + 1)) (xs (i + 2))
  have e2' : s_X8_set h1 (X + 87) (xs (i + 1)) (xs (i + 2)) = some (y, h2) := e2
  refine ⟨h2, ie, ?_⟩
  rw [rd1 I.2.2.1 hi hL, bS, rd2 I.2.2.1 hi hL, bS, e1, bS]
  show ((m_iald h1 b (nI i + 1)).bind fun _ => _) = _
  rw [rd1 eb hi hL, bS, rd2 eb hi hL, bS, em, bS, e2', bS]
  show ((m_is h2 6 (X + 87)).bind fun _ => _) = _
  rw [em2, bS, e3, bS, if_pos rfl]
  by_cases c : x = 0
  · rw [if_pos c, e4 c, bS, if_pos ((lg_cmp_eq _ _).mpr rfl)]; rfl
  · rw [if_neg c]; rfl
theorem br_5 {K : mH → Nat → Nat → Nat → Nat → Int32 → Option Int32} {i : Nat} (I : iI st h X b L xs k sz sv bl bf) (hi : i + 6 ≤ L) (hL : L < 2 ^ 31) : ∃ h', iE st h' X b L xs ∧ ((m_iald h b ((nI i) + 1)).bind fun x526 => (s_L_append h X x526 (X + 94)).bind fun (x528, h528) => (m_iald h528 b ((nI i) + 1)).bind fun x539 => (m_is h528 6 (X + 87)).bind fun _ => (s_X8_append h528 (X + 87) x539).bind fun (x540, h540) => (m_is h540 6 (X + 87)).bind fun _ => (s_X8_thrown h540 (X + 87)).bind fun x546 => if x546 = x528 then (if x528 = 0 then ((m_lald h540 (X + 94) 0).bind fun x563 => if (lg_cmp x563 x540.toInt64) = 0 then (s_L_law_b573 st K h540 b X (X + 87) (X + 94) (nI i)) else (some 0)) else (s_L_law_b573 st K h540 b X (X + 87) (X + 94) (nI i))) else (some 0)) = K h' b X (X + 87) (X + 94) (nI i + 6) := by
  obtain ⟨x, h1, y, h2, e1, eb, em, e2, em2, e3, e4, ie⟩ := agr_append I (xs (i + 1))
  have e2' : s_X8_append h1 (X + 87) (xs (i + 1)) = some (y, h2) := e2
  refine ⟨h2, ie, ?_⟩
  rw [rd1 I.2.2.1 hi hL, bS, e1, bS]
  show ((m_iald h1 b (nI i + 1)).bind fun _ => _) = _
  rw [rd1 eb hi hL, bS, em, bS, e2', bS]
  show ((m_is h2 6 (X + 87)).bind fun _ => _) = _
  rw [em2, bS, e3, bS, if_pos rfl]
  by_cases c : x = 0
  · rw [if_pos c, e4 c, bS, if_pos ((lg_cmp_eq _ _).mpr rfl)]; rfl
  · rw [if_neg c]; rfl
theorem br_6 {K : mH → Nat → Nat → Nat → Nat → Int32 → Option Int32} {i : Nat} (I : iI st h X b L xs k sz sv bl bf) (hi : i + 6 ≤ L) (hL : L < 2 ^ 31) : ∃ h', iE st h' X b L xs ∧ ((m_is h 5 X).bind fun _ => (s_X7_clearBuffer h X).bind fun (x577, h577) => (m_is h577 6 (X + 87)).bind fun _ => (s_X8_clearBuffer h577 (X + 87)).bind fun (x581, h581) => if x577 = x581 then (s_L_law_b1335 st K h581 b X (X + 87) (X + 94) (nI i)) else (some 0)) = K h' b X (X + 87) (X + 94) (nI i + 6) := by
  obtain ⟨W, -, -, -, -, hk, hsv, hz, ⟨bc, hB⟩, -, -⟩ := id I
  obtain ⟨h1, e1, e2, e3⟩ := clear_W W
  obtain ⟨h3, em, m1, ie⟩ := two I e3 e2 (fun h2 t A => clear_M A) ⟨hk, hsv, hz, bc, Nat.zero_le _, fun j hj => absurd hj (Nat.not_lt_zero _)⟩
  refine ⟨h3, ie, ?_⟩
  rw [is_O W.1, bS, e1, bS]
  show ((m_is h1 6 (X + 87)).bind fun _ => _) = _
  rw [em, bS, m1, bS]
  exact if_pos rfl
theorem br_7 {K : mH → Nat → Nat → Nat → Nat → Int32 → Option Int32} {i : Nat} (I : iI st h X b L xs k sz sv bl bf) (hi : i + 6 ≤ L) (hL : L < 2 ^ 31) : ∃ h', iE st h' X b L xs ∧ ((m_is h 5 X).bind fun _ => (s_X7_firstError h X).bind fun (x590, h590) => (m_is h590 6 (X + 87)).bind fun _ => (s_X8_firstError h590 (X + 87)).bind fun (x594, h594) => if x590 = x594 then (s_L_law_b1335 st K h594 b X (X + 87) (X + 94) (nI i)) else (some 0)) = K h' b X (X + 87) (X + 94) (nI i + 6) := by
  obtain ⟨W, -, -, -, -, hk, hsv, hz, ⟨bc, hB⟩, -, -⟩ := id I
  obtain ⟨h1, e1, e2, e3⟩ := firstError_W W hB
  obtain ⟨h3, em, m1, ie⟩ := two I e3 e2 (fun h2 t A => firstError_M A hB) (same_v I)
  refine ⟨h3, ie, ?_⟩
  rw [is_O W.1, bS, e1, bS]
  show ((m_is h1 6 (X + 87)).bind fun _ => _) = _
  rw [em, bS, m1, bS]
  exact if_pos rfl
theorem br_8 {K : mH → Nat → Nat → Nat → Nat → Int32 → Option Int32} {i : Nat} (I : iI st h X b L xs k sz sv bl bf) (hi : i + 6 ≤ L) (hL : L < 2 ^ 31) : ∃ h', iE st h' X b L xs ∧ ((s_L_load h X (X + 94)).bind fun (x604, h604) => (m_is h604 6 (X + 87)).bind fun _ => (s_X8_load h604 (X + 87)).bind fun (x610, h610) => (m_is h610 6 (X + 87)).bind fun _ => (s_X8_thrown h610 (X + 87)).bind fun x616 => if x616 = x604 then (if x604 = 0 then ((m_lald h610 (X + 94) 0).bind fun x633 => if (lg_cmp x633 x610.toInt64) = 0 then (s_L_law_b643 st K h610 b X (X + 87) (X + 94) (nI i)) else (some 0)) else (s_L_law_b643 st K h610 b X (X + 87) (X + 94) (nI i))) else (some 0)) = K h' b X (X + 87) (X + 94) (nI i + 6) := by
  obtain ⟨x, h1, y, h2, e1, eb, em, e2, em2, e3, e4, ie⟩ := agr_load I
  have e2' : s_X8_load h1 (X + 87) = some (y, h2) := e2
  refine ⟨h2, ie, ?_⟩
  rw [e1, bS]
  show ((m_is h1 6 (X + 87)).bind fun _ => _) = _
  rw [em, bS, e2', bS]
  show ((m_is h2 6 (X + 87)).bind fun _ => _) = _
  rw [em2, bS, e3, bS, if_pos rfl]
  by_cases c : x = 0
  · rw [if_pos c, e4 c, bS, if_pos ((lg_cmp_eq _ _).mpr rfl)]; rfl
  · rw [if_neg c]; rfl
theorem br_9 {K : mH → Nat → Nat → Nat → Nat → Int32 → Option Int32} {i : Nat} (I : iI st h X b L xs k sz sv bl bf) (hi : i + 6 ≤ L) (hL : L < 2 ^ 31) : ∃ h', iE st h' X b L xs ∧ ((s_L_undo h X (X + 94)).bind fun (x648, h648) => (m_is h648 6 (X + 87)).bind fun _ => (s_X8_undo h648 (X + 87)).bind fun (x654, h654) => (m_is h654 6 (X + 87)).bind fun _ => (s_X8_thrown h654 (X + 87)).bind fun x660 => if x660 = x648 then (if x648 = 0 then ((m_lald h654 (X + 94) 0).bind fun x677 => if (lg_cmp x677 x654.toInt64) = 0 then (s_L_law_b687 st K h654 b X (X + 87) (X + 94) (nI i)) else (some 0)) else (s_L_law_b687 st K h654 b X (X + 87) (X + 94) (nI i))) else (some 0)) = K h' b X (X + 87) (X + 94) (nI i + 6) := by
  obtain ⟨x, h1, y, h2, e1, eb, em, e2, em2, e3, e4, ie⟩ := agr_undo I
  have e2' : s_X8_undo h1 (X + 87) = some (y, h2) := e2
  refine ⟨h2, ie, ?_⟩
  rw [e1, bS]
  show ((m_is h1 6 (X + 87)).bind fun _ => _) = _
  rw [em, bS, e2', bS]
  show ((m_is h2 6 (X + 87)).bind fun _ => _) = _
  rw [em2, bS, e3, bS, if_pos rfl]
  by_cases c : x = 0
  · rw [if_pos c, e4 c, bS, if_pos ((lg_cmp_eq _ _).mpr rfl)]; rfl
  · rw [if_neg c]; rfl
theorem br_10 {K : mH → Nat → Nat → Nat → Nat → Int32 → Option Int32} {i : Nat} (I : iI st h X b L xs k sz sv bl bf) (hi : i + 6 ≤ L) (hL : L < 2 ^ 31) : ∃ h', iE st h' X b L xs ∧ ((m_iald h b ((nI i) + 1)).bind fun x696 => (m_iald h b ((nI i) + 2)).bind fun x702 => (s_L_tapOf h X x696 x702 (X + 94)).bind fun (x704, h704) => (m_iald h704 b ((nI i) + 1)).bind fun x715 => (m_iald h704 b ((nI i) + 2)).bind fun x721 => (m_is h704 6 (X + 87)).bind fun _ => (s_X8_tapOf h704 (X + 87) x715 x721).bind fun (x722, h722) => (m_is h722 6 (X + 87)).bind fun _ => (s_X8_thrown h722 (X + 87)).bind fun x728 => if x728 = x704 then (if x704 = 0 then ((m_lald h722 (X + 94) 0).bind fun x745 => if (lg_cmp x745 x722.toInt64) = 0 then (s_L_law_b755 st K h722 b X (X + 87) (X + 94) (nI i)) else (some 0)) else (s_L_law_b755 st K h722 b X (X + 87) (X + 94) (nI i))) else (some 0)) = K h' b X (X + 87) (X + 94) (nI i + 6) := by
  obtain ⟨x, h1, y, h2, e1, eb, em, e2, em2, e3, e4, ie⟩ := agr_tapOf I (xs (i + 1)) (xs (i + 2))
  have e2' : s_X8_tapOf h1 (X + 87) (xs (i + 1)) (xs (i + 2)) = some (y, h2) := e2
  refine ⟨h2, ie, ?_⟩
  rw [rd1 I.2.2.1 hi hL, bS, rd2 I.2.2.1 hi hL, bS, e1, bS]
  show ((m_iald h1 b (nI i + 1)).bind fun _ => _) = _
  rw [rd1 eb hi hL, bS, rd2 eb hi hL, bS, em, bS, e2', bS]
  show ((m_is h2 6 (X + 87)).bind fun _ => _) = _
  rw [em2, bS, e3, bS, if_pos rfl]
  by_cases c : x = 0
  · rw [if_pos c, e4 c, bS, if_pos ((lg_cmp_eq _ _).mpr rfl)]; rfl
  · rw [if_neg c]; rfl
theorem br_11 {K : mH → Nat → Nat → Nat → Nat → Int32 → Option Int32} {i : Nat} (I : iI st h X b L xs k sz sv bl bf) (hi : i + 6 ≤ L) (hL : L < 2 ^ 31) : ∃ h', iE st h' X b L xs ∧ ((m_iald h b ((nI i) + 1)).bind fun x764 => (m_iald h b ((nI i) + 2)).bind fun x770 => (m_iald h b ((nI i) + 3)).bind fun x776 => (s_L_day h X x764 x770 x776 (X + 94)).bind fun (x778, h778) => (m_iald h778 b ((nI i) + 1)).bind fun x789 => (m_iald h778 b ((nI i) + 2)).bind fun x795 => (m_iald h778 b ((nI i) + 3)).bind fun x801 => (m_is h778 6 (X + 87)).bind fun _ => (s_X8_day h778 (X + 87) x789 x795 x801).bind fun (x802, h802) => (m_is h802 6 (X + 87)).bind fun _ => (s_X8_thrown h802 (X + 87)).bind fun x808 => if x808 = x778 then (if x778 = 0 then ((m_lald h802 (X + 94) 0).bind fun x825 => if (lg_cmp x825 x802.toInt64) = 0 then (s_L_law_b835 st K h802 b X (X + 87) (X + 94) (nI i)) else (some 0)) else (s_L_law_b835 st K h802 b X (X + 87) (X + 94) (nI i))) else (some 0)) = K h' b X (X + 87) (X + 94) (nI i + 6) := by
  obtain ⟨x, h1, y, h2, e1, eb, em, e2, em2, e3, e4, ie⟩ := agr_day I (xs (i + 1)) (xs (i + 2)) (xs (i + 3))
  have e2' : s_X8_day h1 (X + 87) (xs (i + 1)) (xs (i + 2)) (xs (i + 3)) = some (y, h2) := e2
  refine ⟨h2, ie, ?_⟩
  rw [rd1 I.2.2.1 hi hL, bS, rd2 I.2.2.1 hi hL, bS, rd3 I.2.2.1 hi hL, bS, e1, bS]
  show ((m_iald h1 b (nI i + 1)).bind fun _ => _) = _
  rw [rd1 eb hi hL, bS, rd2 eb hi hL, bS, rd3 eb hi hL, bS, em, bS, e2', bS]
  show ((m_is h2 6 (X + 87)).bind fun _ => _) = _
  rw [em2, bS, e3, bS, if_pos rfl]
  by_cases c : x = 0
  · rw [if_pos c, e4 c, bS, if_pos ((lg_cmp_eq _ _).mpr rfl)]; rfl
  · rw [if_neg c]; rfl
theorem br_12 {K : mH → Nat → Nat → Nat → Nat → Int32 → Option Int32} {i : Nat} (I : iI st h X b L xs k sz sv bl bf) (hi : i + 6 ≤ L) (hL : L < 2 ^ 31) : ∃ h', iE st h' X b L xs ∧ ((m_iald h b ((nI i) + 1)).bind fun x844 => (m_iald h b ((nI i) + 2)).bind fun x850 => (m_iald h b ((nI i) + 3)).bind fun x856 => (s_L_week h X x844 x850 x856 (X + 94)).bind fun (x858, h858) => (m_iald h858 b ((nI i) + 1)).bind fun x869 => (m_iald h858 b ((nI i) + 2)).bind fun x875 => (m_iald h858 b ((nI i) + 3)).bind fun x881 => (m_is h858 6 (X + 87)).bind fun _ => (s_X8_week h858 (X + 87) x869 x875 x881).bind fun (x882, h882) => (m_is h882 6 (X + 87)).bind fun _ => (s_X8_thrown h882 (X + 87)).bind fun x888 => if x888 = x858 then (if x858 = 0 then ((m_lald h882 (X + 94) 0).bind fun x905 => if (lg_cmp x905 x882.toInt64) = 0 then (s_L_law_b915 st K h882 b X (X + 87) (X + 94) (nI i)) else (some 0)) else (s_L_law_b915 st K h882 b X (X + 87) (X + 94) (nI i))) else (some 0)) = K h' b X (X + 87) (X + 94) (nI i + 6) := by
  obtain ⟨x, h1, y, h2, e1, eb, em, e2, em2, e3, e4, ie⟩ := agr_week I (xs (i + 1)) (xs (i + 2)) (xs (i + 3))
  have e2' : s_X8_week h1 (X + 87) (xs (i + 1)) (xs (i + 2)) (xs (i + 3)) = some (y, h2) := e2
  refine ⟨h2, ie, ?_⟩
  rw [rd1 I.2.2.1 hi hL, bS, rd2 I.2.2.1 hi hL, bS, rd3 I.2.2.1 hi hL, bS, e1, bS]
  show ((m_iald h1 b (nI i + 1)).bind fun _ => _) = _
  rw [rd1 eb hi hL, bS, rd2 eb hi hL, bS, rd3 eb hi hL, bS, em, bS, e2', bS]
  show ((m_is h2 6 (X + 87)).bind fun _ => _) = _
  rw [em2, bS, e3, bS, if_pos rfl]
  by_cases c : x = 0
  · rw [if_pos c, e4 c, bS, if_pos ((lg_cmp_eq _ _).mpr rfl)]; rfl
  · rw [if_neg c]; rfl
theorem br_13 {K : mH → Nat → Nat → Nat → Nat → Int32 → Option Int32} {i : Nat} (I : iI st h X b L xs k sz sv bl bf) (hi : i + 6 ≤ L) (hL : L < 2 ^ 31) : ∃ h', iE st h' X b L xs ∧ ((m_iald h b ((nI i) + 1)).bind fun x924 => (s_L_count h X x924 (X + 94)).bind fun (x926, h926) => (m_iald h926 b ((nI i) + 1)).bind fun x937 => (m_is h926 6 (X + 87)).bind fun _ => (s_X8_count h926 (X + 87) x937).bind fun (x938, h938) => (m_is h938 6 (X + 87)).bind fun _ => (s_X8_thrown h938 (X + 87)).bind fun x944 => if x944 = x926 then (if x926 = 0 then ((m_lald h938 (X + 94) 0).bind fun x961 => if (lg_cmp x961 x938.toInt64) = 0 then (s_L_law_b971 st K h938 b X (X + 87) (X + 94) (nI i)) else (some 0)) else (s_L_law_b971 st K h938 b X (X + 87) (X + 94) (nI i))) else (some 0)) = K h' b X (X + 87) (X + 94) (nI i + 6) := by
  obtain ⟨x, h1, y, h2, e1, eb, em, e2, em2, e3, e4, ie⟩ := agr_count I (xs (i + 1))
  have e2' : s_X8_count h1 (X + 87) (xs (i + 1)) = some (y, h2) := e2
  refine ⟨h2, ie, ?_⟩
  rw [rd1 I.2.2.1 hi hL, bS, e1, bS]
  show ((m_iald h1 b (nI i + 1)).bind fun _ => _) = _
  rw [rd1 eb hi hL, bS, em, bS, e2', bS]
  show ((m_is h2 6 (X + 87)).bind fun _ => _) = _
  rw [em2, bS, e3, bS, if_pos rfl]
  by_cases c : x = 0
  · rw [if_pos c, e4 c, bS, if_pos ((lg_cmp_eq _ _).mpr rfl)]; rfl
  · rw [if_neg c]; rfl
theorem br_14 {K : mH → Nat → Nat → Nat → Nat → Int32 → Option Int32} {i : Nat} (I : iI st h X b L xs k sz sv bl bf) (hi : i + 6 ≤ L) (hL : L < 2 ^ 31) : ∃ h', iE st h' X b L xs ∧ ((m_iald h b ((nI i) + 1)).bind fun x980 => (m_iald h b ((nI i) + 2)).bind fun x986 => (m_iald h b ((nI i) + 3)).bind fun x992 => (s_L_ledger h X x980 x986 x992 (X + 94)).bind fun (x994, h994) => (m_iald h994 b ((nI i) + 1)).bind fun x1005 => (m_iald h994 b ((nI i) + 2)).bind fun x1011 => (m_iald h994 b ((nI i) + 3)).bind fun x1017 => (m_is h994 6 (X + 87)).bind fun _ => (s_X8_ledger h994 (X + 87) x1005 x1011 x1017).bind fun (x1018, h1018) => (m_is h1018 6 (X + 87)).bind fun _ => (s_X8_thrown h1018 (X + 87)).bind fun x1024 => if x1024 = x994 then (if x994 = 0 then ((m_lald h1018 (X + 94) 0).bind fun x1041 => if (lg_cmp x1041 x1018.toInt64) = 0 then (s_L_law_b1051 st K h1018 b X (X + 87) (X + 94) (nI i)) else (some 0)) else (s_L_law_b1051 st K h1018 b X (X + 87) (X + 94) (nI i))) else (some 0)) = K h' b X (X + 87) (X + 94) (nI i + 6) := by
  obtain ⟨x, h1, y, h2, e1, eb, em, e2, em2, e3, e4, ie⟩ := agr_ledger I (xs (i + 1)) (xs (i + 2)) (xs (i + 3))
  have e2' : s_X8_ledger h1 (X + 87) (xs (i + 1)) (xs (i + 2)) (xs (i + 3)) = some (y, h2) := e2
  refine ⟨h2, ie, ?_⟩
  rw [rd1 I.2.2.1 hi hL, bS, rd2 I.2.2.1 hi hL, bS, rd3 I.2.2.1 hi hL, bS, e1, bS]
  show ((m_iald h1 b (nI i + 1)).bind fun _ => _) = _
  rw [rd1 eb hi hL, bS, rd2 eb hi hL, bS, rd3 eb hi hL, bS, em, bS, e2', bS]
  show ((m_is h2 6 (X + 87)).bind fun _ => _) = _
  rw [em2, bS, e3, bS, if_pos rfl]
  by_cases c : x = 0
  · rw [if_pos c, e4 c, bS, if_pos ((lg_cmp_eq _ _).mpr rfl)]; rfl
  · rw [if_neg c]; rfl
theorem br_15 {K : mH → Nat → Nat → Nat → Nat → Int32 → Option Int32} {i : Nat} (I : iI st h X b L xs k sz sv bl bf) (hi : i + 6 ≤ L) (hL : L < 2 ^ 31) : ∃ h', iE st h' X b L xs ∧ ((m_iald h b ((nI i) + 1)).bind fun x1060 => (m_iald h b ((nI i) + 2)).bind fun x1066 => (m_iald h b ((nI i) + 3)).bind fun x1072 => (m_iald h b ((nI i) + 4)).bind fun x1078 => (m_iald h b ((nI i) + 5)).bind fun x1084 => if x1084 = 0 then (s_L_law_b1093 st K h b X (X + 87) (X + 94) (nI i) X x1060 x1066 x1072 x1078 0) else (s_L_law_b1093 st K h b X (X + 87) (X + 94) (nI i) X x1060 x1066 x1072 x1078 1)) = K h' b X (X + 87) (X + 94) (nI i + 6) := by
  by_cases c5 : xs (i + 5) = 0
  · obtain ⟨x, h1, y, h2, e1, eb, em, e2, em2, e3, e4, ie⟩ := agr_ifTapped I (xs (i + 1)) (xs (i + 2)) (xs (i + 3)) (xs (i + 4)) (i := 0) (by decide)
    have e1' : s_L_ifTapped h X (xs (i + 1)) (xs (i + 2)) (xs (i + 3)) (xs (i + 4)) 0 (X + 94) = some (x, h1) := e1
    have e2' : s_X8_ifTapped h1 (X + 87) (xs (i + 1)) (xs (i + 2)) (xs (i + 3)) (xs (i + 4)) 0 = some (y, h2) := e2
    refine ⟨h2, ie, ?_⟩
    rw [rd1 I.2.2.1 hi hL, bS, rd2 I.2.2.1 hi hL, bS, rd3 I.2.2.1 hi hL, bS, rd4 I.2.2.1 hi hL, bS, rd5 I.2.2.1 hi hL, bS, if_pos c5, s_L_law_b1093, e1', bS]
    show ((m_iald h1 b (nI i + 1)).bind fun _ => _) = _
    rw [rd1 eb hi hL, bS, rd2 eb hi hL, bS, rd3 eb hi hL, bS, rd4 eb hi hL, bS, rd5 eb hi hL, bS, if_pos c5, s_L_law_b1138, em, bS, e2', bS]
    show ((m_is h2 6 (X + 87)).bind fun _ => _) = _
    rw [em2, bS, e3, bS, if_pos rfl]
    by_cases c : x = 0
    · rw [if_pos c, e4 c, bS, if_pos ((lg_cmp_eq _ _).mpr rfl)]; rfl
    · rw [if_neg c]; rfl
  · obtain ⟨x, h1, y, h2, e1, eb, em, e2, em2, e3, e4, ie⟩ := agr_ifTapped I (xs (i + 1)) (xs (i + 2)) (xs (i + 3)) (xs (i + 4)) (i := 1) (by decide)
    have e1' : s_L_ifTapped h X (xs (i + 1)) (xs (i + 2)) (xs (i + 3)) (xs (i + 4)) 1 (X + 94) = some (x, h1) := e1
    have e2' : s_X8_ifTapped h1 (X + 87) (xs (i + 1)) (xs (i + 2)) (xs (i + 3)) (xs (i + 4)) 1 = some (y, h2) := e2
    refine ⟨h2, ie, ?_⟩
    rw [rd1 I.2.2.1 hi hL, bS, rd2 I.2.2.1 hi hL, bS, rd3 I.2.2.1 hi hL, bS, rd4 I.2.2.1 hi hL, bS, rd5 I.2.2.1 hi hL, bS, if_neg c5, s_L_law_b1093, e1', bS]
    show ((m_iald h1 b (nI i + 1)).bind fun _ => _) = _
    rw [rd1 eb hi hL, bS, rd2 eb hi hL, bS, rd3 eb hi hL, bS, rd4 eb hi hL, bS, rd5 eb hi hL, bS, if_neg c5, s_L_law_b1138, em, bS, e2', bS]
    show ((m_is h2 6 (X + 87)).bind fun _ => _) = _
    rw [em2, bS, e3, bS, if_pos rfl]
    by_cases c : x = 0
    · rw [if_pos c, e4 c, bS, if_pos ((lg_cmp_eq _ _).mpr rfl)]; rfl
    · rw [if_neg c]; rfl
theorem br_16 {K : mH → Nat → Nat → Nat → Nat → Int32 → Option Int32} {i : Nat} (I : iI st h X b L xs k sz sv bl bf) (hi : i + 6 ≤ L) (hL : L < 2 ^ 31) : ∃ h', iE st h' X b L xs ∧ ((m_iald h b ((nI i) + 1)).bind fun x1180 => (m_iald h b ((nI i) + 2)).bind fun x1186 => (m_iald h b ((nI i) + 3)).bind fun x1192 => (s_L_whyNot h X x1180 x1186 x1192 (X + 94)).bind fun (x1194, h1194) => (m_iald h1194 b ((nI i) + 1)).bind fun x1205 => (m_iald h1194 b ((nI i) + 2)).bind fun x1211 => (m_iald h1194 b ((nI i) + 3)).bind fun x1217 => (m_is h1194 6 (X + 87)).bind fun _ => (s_X8_whyNot h1194 (X + 87) x1205 x1211 x1217).bind fun (x1218, h1218) => (m_is h1218 6 (X + 87)).bind fun _ => (s_X8_thrown h1218 (X + 87)).bind fun x1224 => if x1224 = x1194 then (if x1194 = 0 then ((m_lald h1218 (X + 94) 0).bind fun x1241 => if (lg_cmp x1241 x1218.toInt64) = 0 then (s_L_law_b1251 st K h1218 b X (X + 87) (X + 94) (nI i)) else (some 0)) else (s_L_law_b1251 st K h1218 b X (X + 87) (X + 94) (nI i))) else (some 0)) = K h' b X (X + 87) (X + 94) (nI i + 6) := by
  obtain ⟨x, h1, y, h2, e1, eb, em, e2, em2, e3, e4, ie⟩ := agr_whyNot I (xs (i + 1)) (xs (i + 2)) (xs (i + 3))
  have e2' : s_X8_whyNot h1 (X + 87) (xs (i + 1)) (xs (i + 2)) (xs (i + 3)) = some (y, h2) := e2
  refine ⟨h2, ie, ?_⟩
  rw [rd1 I.2.2.1 hi hL, bS, rd2 I.2.2.1 hi hL, bS, rd3 I.2.2.1 hi hL, bS, e1, bS]
  show ((m_iald h1 b (nI i + 1)).bind fun _ => _) = _
  rw [rd1 eb hi hL, bS, rd2 eb hi hL, bS, rd3 eb hi hL, bS, em, bS, e2', bS]
  show ((m_is h2 6 (X + 87)).bind fun _ => _) = _
  rw [em2, bS, e3, bS, if_pos rfl]
  by_cases c : x = 0
  · rw [if_pos c, e4 c, bS, if_pos ((lg_cmp_eq _ _).mpr rfl)]; rfl
  · rw [if_neg c]; rfl
theorem br_17 {K : mH → Nat → Nat → Nat → Nat → Int32 → Option Int32} {i : Nat} (I : iI st h X b L xs k sz sv bl bf) (hi : i + 6 ≤ L) (hL : L < 2 ^ 31) : ∃ h', iE st h' X b L xs ∧ ((m_is h 5 X).bind fun _ => (s_X7_leaky h X).bind fun x1255 => (m_is h 6 (X + 87)).bind fun _ => (s_X8_leaky h (X + 87)).bind fun (x1259, h1259) => if x1255 = x1259 then (s_L_law_b1335 st K h1259 b X (X + 87) (X + 94) (nI i)) else (some 0)) = K h' b X (X + 87) (X + 94) (nI i + 6) := by
  obtain ⟨W, -, -, -, -, hk, hsv, hz, ⟨bc, hB⟩, -, -⟩ := id I
  obtain ⟨h3, em, m1, ie⟩ := two I fr.rf W (fun h2 t A => leaky_Mp A hk) (same_v I)
  refine ⟨h3, ie, ?_⟩
  rw [is_O W.1, bS, leaky_W W, bS, em, bS, m1, bS]
  exact if_pos rfl
theorem br_18 {K : mH → Nat → Nat → Nat → Nat → Int32 → Option Int32} {i : Nat} (I : iI st h X b L xs k sz sv bl bf) (hi : i + 6 ≤ L) (hL : L < 2 ^ 31) : ∃ h', iE st h' X b L xs ∧ ((m_is h 5 X).bind fun _ => (s_X7_leastCap h X).bind fun x1268 => (m_is h 6 (X + 87)).bind fun _ => (s_X8_leastCap h (X + 87)).bind fun (x1272, h1272) => if x1268 = x1272 then (s_L_law_b1335 st K h1272 b X (X + 87) (X + 94) (nI i)) else (some 0)) = K h' b X (X + 87) (X + 94) (nI i + 6) := by
  obtain ⟨W, -, -, -, -, hk, hsv, hz, ⟨bc, hB⟩, -, -⟩ := id I
  obtain ⟨h3, em, m1, ie⟩ := two I fr.rf W (fun h2 t A => leastCap_M A hk) (same_v I)
  refine ⟨h3, ie, ?_⟩
  rw [is_O W.1, bS, leastCap_W W, bS, em, bS, m1, bS]
  exact if_pos rfl
theorem br_19 {K : mH → Nat → Nat → Nat → Nat → Int32 → Option Int32} {i : Nat} (I : iI st h X b L xs k sz sv bl bf) (hi : i + 6 ≤ L) (hL : L < 2 ^ 31) : ∃ h', iE st h' X b L xs ∧ ((m_is h 5 X).bind fun _ => (s_X7_capShare h X).bind fun x1281 => (m_is h 6 (X + 87)).bind fun _ => (s_X8_capShare h (X + 87)).bind fun (x1287, h1287) => if (Op.cmpValue (FP.dcmp x1281 x1287) .l) = 0 then (s_L_law_b1318 st K h1287 b X (X + 87) (X + 94) (nI i)) else (if (Op.cmpValue (FP.dcmp x1281 x1281) .l) = 0 then (s_L_law_b1316 st K h1287) else (if (Op.cmpValue (FP.dcmp x1287 x1287) .l) = 0 then (s_L_law_b1316 st K h1287) else (s_L_law_b1318 st K h1287 b X (X + 87) (X + 94) (nI i))))) = K h' b X (X + 87) (X + 94) (nI i + 6) := by
  obtain ⟨W, -, -, -, -, hk, hsv, hz, ⟨bc, hB⟩, -, -⟩ := id I
  obtain ⟨x, sh, x1, x2⟩ := share_ok hk
  obtain ⟨h3, em, m1, ie⟩ := two I fr.rf W (fun h2 t A => capShare_M A hk x2) (same_v I)
  refine ⟨h3, ie, ?_⟩
  rw [is_O W.1, bS, (capShare_W W).trans x1, bS, em, bS, m1, bS]
  exact if_pos sh.2.2.2
def hdT (j : Nat) : Nat := if j = 0 then 0 else if j = 1 then 6 else if j = 2 then 7 else 27
theorem hd_tab : ∀ j, j < 4 → m_tab 3 j = nI (hdT j) := by decide
theorem hd_lt : ∀ j, j < 4 → hdT j < 28 := by decide
theorem br_20 {K : mH → Nat → Nat → Nat → Nat → Int32 → Option Int32} {i : Nat} (I : iI st h X b L xs k sz sv bl bf) (hi : i + 6 ≤ L) (hL : L < 2 ^ 31) : ∃ h', iE st h' X b L xs ∧ ((m_is h 5 X).bind fun _ => (s_X7_digest st h X).bind fun (x1322, h1322) => (m_is h1322 6 (X + 87)).bind fun _ => (s_X8_digest h1322 (X + 87)).bind fun (x1326, h1326) => if (lg_cmp x1322 x1326) = 0 then (s_L_law_b1335 st K h1326 b X (X + 87) (X + 94) (nI i)) else (some 0)) = K h' b X (X + 87) (X + 94) (nI i + 6) := by
  obtain ⟨W, -, -, T, -, hk, hsv, hz, ⟨bc, hB⟩, -, -⟩ := id I
  have T3 : isTh h (st.2 3) hdT := ⟨⟨m_tab 3, T 3 (by decide), hd_tab⟩, hd_lt⟩
  obtain ⟨x, sh, x1, x2⟩ := share_ok hk
  obtain ⟨h1, e1, e2, e3⟩ := digest_W W T3 hk.1 hk.2.1 hB.1 x1 sh.2.1
  obtain ⟨h3, em, m1, ie⟩ := two I e3 e2 (fun h2 t A => digest_M A hk hB.1 (hd := hdT) rfl rfl rfl rfl x2 sh.2.2.1) (same_v I)
  refine ⟨h3, ie, ?_⟩
  rw [is_O W.1, bS, e1, bS]
  show ((m_is h1 6 (X + 87)).bind fun _ => _) = _
  rw [em, bS, m1, bS]
  exact if_pos ((lg_cmp_eq _ _).mpr rfl)
end LB
