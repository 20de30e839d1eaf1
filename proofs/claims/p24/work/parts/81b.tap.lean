/-! PURE: a tap as one number -/
section PT
theorem nI_bv (n : Nat) : (nI n).toBitVec = BitVec.ofNat 32 n := rfl
theorem nI_or (a b : Nat) : nI a ||| nI b = nI (a ||| b) := by
  apply Int32.toBitVec_inj.mp
  rw [Int32.toBitVec_or, nI_bv, nI_bv, nI_bv]
  exact BitVec.ofNat_or.symm
theorem nI_and (a b : Nat) : nI a &&& nI b = nI (a &&& b) := by
  apply Int32.toBitVec_inj.mp
  rw [Int32.toBitVec_and, nI_bv, nI_bv, nI_bv]
  exact BitVec.ofNat_and.symm
theorem nI_orT {a b k : Nat} (h : b < 2 ^ k) : nI (a * 2 ^ k) ||| nI b = nI (a * 2 ^ k + b) := by
  rw [nI_or, Nat.mul_comm, Nat.two_pow_add_eq_or_of_lt h]
theorem nI_mask {a k : Nat} : nI a &&& nI (2 ^ k - 1) = nI (a % 2 ^ k) := by
  rw [nI_and, Nat.and_two_pow_sub_one_eq_mod]
theorem nI_shl {a : Nat} {y : Int32} {k : Nat} (hy : (y.toBitVec.smod 32).toNat = k) : nI a <<< y = nI (a * 2 ^ k) := by
  apply Int32.toBitVec_inj.mp
  show (BitVec.ofNat 32 a) <<< (y.toBitVec.smod 32) = BitVec.ofNat 32 (a * 2 ^ k)
  rw [BitVec.shiftLeft_eq', hy]
  apply BitVec.eq_of_toNat_eq
  simp [BitVec.toNat_shiftLeft, Nat.shiftLeft_eq, Nat.mod_mul_mod]
theorem nI_shr {a : Nat} (ha : a < 2 ^ 31) {y : Int32} {k : Nat} (hy : (y.toBitVec.smod 32).toNat = k) : nI a >>> y = nI (a / 2 ^ k) := by
  apply Int32.toBitVec_inj.mp
  show (BitVec.ofNat 32 a).sshiftRight' (y.toBitVec.smod 32) = BitVec.ofNat 32 (a / 2 ^ k)
  rw [BitVec.sshiftRight_eq', hy]
  have hm : (BitVec.ofNat 32 a).msb = false := by
    rw [BitVec.msb_eq_false_iff_two_mul_lt, BitVec.toNat_ofNat, Nat.mod_eq_of_lt (by omega)]
    omega
  rw [BitVec.sshiftRight_eq_of_msb_false hm]
  apply BitVec.eq_of_toNat_eq
  have h1 : a / 2 ^ k ≤ a := Nat.div_le_self _ _
  rw [BitVec.toNat_ushiftRight, BitVec.toNat_ofNat, BitVec.toNat_ofNat, Nat.shiftRight_eq_div_pow, Nat.mod_eq_of_lt (by omega), Nat.mod_eq_of_lt (by omega)]
/-- a tap: wallet, day, minute, station, in, claimed -/
def vT (t : Nat → Nat) : Prop := t 0 < 4 ∧ t 1 < 28 ∧ t 2 < 1440 ∧ t 3 < 10 ∧ t 4 < 2 ∧ t 5 < 2
def mkT (w d m s i c : Nat) : Nat → Nat := fun k => match k with
  | 0 => w
  | 1 => d
  | 2 => m
  | 3 => s
  | 4 => i
  | _ => c
def pN (t : Nat → Nat) : Nat := ((((t 1 * 2 ^ 11 + t 2) * 2 ^ 2 + t 0) * 2 ^ 4 + t 3) * 2 + t 4) * 2 + t 5
def pk (t : Nat → Nat) : Int32 := nI (pN t)
theorem pN_mk (w d m s i c : Nat) : pN (mkT w d m s i c) = ((((d * 2 ^ 11 + m) * 2 ^ 2 + w) * 2 ^ 4 + s) * 2 + i) * 2 + c := rfl
theorem pN_lt {t : Nat → Nat} (h : vT t) : pN t < 2 ^ 24 := by
  obtain ⟨h0, h1, h2, h3, h4, h5⟩ := h
  unfold pN
  omega
theorem timeOf_pk {h : mH} {t : Nat → Nat} (v : vT t) : s_X4_timeOf h (pk t) = some (nI (t 1 * 2 ^ 11 + t 2)) := by
  have hp := pN_lt v
  obtain ⟨h0, h1, h2, h3, h4, h5⟩ := v
  unfold s_X4_timeOf pk
  rw [nI_shr (k := 8) (by omega) (by decide)]
  congr 2
  unfold pN
  omega
theorem dayOf_pk {h : mH} {t : Nat → Nat} (v : vT t) : s_X4_dayOf h (pk t) = some (nI (t 1)) := by
  have hp := pN_lt v
  obtain ⟨h0, h1, h2, h3, h4, h5⟩ := v
  unfold s_X4_dayOf pk
  rw [nI_shr (k := 19) (by omega) (by decide), show (31 : Int32) = nI (2 ^ 5 - 1) from rfl, nI_mask]
  congr 2
  unfold pN
  omega
theorem minuteOf_pk {h : mH} {t : Nat → Nat} (v : vT t) : s_X4_minuteOf h (pk t) = some (nI (t 2)) := by
  have hp := pN_lt v
  obtain ⟨h0, h1, h2, h3, h4, h5⟩ := v
  unfold s_X4_minuteOf pk
  rw [nI_shr (k := 8) (by omega) (by decide), show (2047 : Int32) = nI (2 ^ 11 - 1) from rfl, nI_mask]
  congr 2
  unfold pN
  omega
theorem walletOf_pk {h : mH} {t : Nat → Nat} (v : vT t) : s_X4_walletOf h (pk t) = some (nI (t 0)) := by
  have hp := pN_lt v
  obtain ⟨h0, h1, h2, h3, h4, h5⟩ := v
  unfold s_X4_walletOf pk
  rw [nI_shr (k := 6) (by omega) (by decide), show (3 : Int32) = nI (2 ^ 2 - 1) from rfl, nI_mask]
  congr 2
  unfold pN
  omega
theorem stationOf_pk {h : mH} {t : Nat → Nat} (v : vT t) : s_X4_stationOf h (pk t) = some (nI (t 3)) := by
  have hp := pN_lt v
  obtain ⟨h0, h1, h2, h3, h4, h5⟩ := v
  unfold s_X4_stationOf pk
  rw [nI_shr (k := 2) (by omega) (by decide), show (15 : Int32) = nI (2 ^ 4 - 1) from rfl, nI_mask]
  congr 2
  unfold pN
  omega
theorem nI_and2 (a : Nat) : nI a &&& 2 = nI (2 * (a / 2 % 2)) := by
  have e : a &&& 2 = 2 * (a / 2 % 2) := by
    apply Nat.eq_of_testBit_eq
    intro i
    rw [Nat.testBit_and]
    match i with
    | 0 => simp
    | 1 =>
      have : Nat.testBit (2 * (a / 2 % 2)) 1 = Nat.testBit (a / 2 % 2) 0 := by rw [show 1 = 0 + 1 from rfl, Nat.testBit_succ]; congr 1; omega
      rw [this]
      simp [Nat.testBit_succ, Nat.testBit_zero]
    | i + 2 =>
      have h1 : Nat.testBit 2 (i + 2) = false := by rw [show i + 2 = (i + 1) + 1 from rfl, Nat.testBit_succ, Nat.testBit_succ]; simp
      have h2 : Nat.testBit (2 * (a / 2 % 2)) (i + 2) = false := by
        rw [show i + 2 = (i + 1) + 1 from rfl, Nat.testBit_succ, Nat.testBit_succ, show 2 * (a / 2 % 2) / 2 / 2 = 0 by omega]
        simp
      rw [h1, h2]
      simp
  rw [show (2 : Int32) = nI 2 from rfl, nI_and, e]
theorem isIn_pk {h : mH} {t : Nat → Nat} (v : vT t) : s_X4_isIn h (pk t) = some (nI (t 4)) := by
  have hp := pN_lt v
  obtain ⟨h0, h1, h2, h3, h4, h5⟩ := v
  unfold s_X4_isIn pk
  have e : pN t / 2 % 2 = t 4 := by unfold pN; omega
  rw [nI_and2, e]
  rcases (show t 4 = 0 ∨ t 4 = 1 by omega) with q | q <;> rw [q] <;> rfl
theorem isClaimed_pk {h : mH} {t : Nat → Nat} (v : vT t) : s_X4_isClaimed h (pk t) = some (nI (t 5)) := by
  have hp := pN_lt v
  obtain ⟨h0, h1, h2, h3, h4, h5⟩ := v
  unfold s_X4_isClaimed pk
  have e : pN t % 2 ^ 1 = t 5 := by unfold pN; omega
  rw [show (1 : Int32) = nI (2 ^ 1 - 1) from rfl, nI_mask, e]
  rcases (show t 5 = 0 ∨ t 5 = 1 by omega) with q | q <;> rw [q] <;> rfl
theorem div_nI {a b : Nat} (ha : a < 2 ^ 31) (hb : b < 2 ^ 31) (h0 : b ≠ 0) : nI a / nI b = nI (a / b) := by
  apply Int32.toInt_inj.mp
  have hd : a / b ≤ a := Nat.div_le_self _ _
  rw [Int32.toInt_div, nI_toInt ha, nI_toInt hb, nI_toInt (by omega)]
  have hq : ((a : Int).tdiv (b : Int)) = ((a / b : Nat) : Int) := (Int.ofNat_tdiv a b).symm
  rw [hq]
  generalize a / b = q at hd ⊢
  refine Int.bmod_eq_of_le ?_ ?_ <;> omega
theorem m_div_nI {a b : Nat} (ha : a < 2 ^ 31) (hb : b < 2 ^ 31) (h0 : b ≠ 0) : m_div (nI a) (nI b) = some (nI (a / b)) := by
  have : ¬ (nI b = 0) := nI_ne0 (by omega) hb
  simp only [m_div, this, if_false, div_nI ha hb h0]
theorem weekOf_pk {h : mH} {t : Nat → Nat} (v : vT t) : s_X4_weekOf h (pk t) = some (nI (t 1 / 7)) := by
  have h1 := v.2.1
  simp only [s_X4_weekOf, dayOf_pk v, bS, m_div_nI (b := 7) (a := t 1) (by omega) (by omega) (by omega), show (7 : Int32) = nI 7 from rfl]
theorem zoneOf_pk {h : mH} {t : Nat → Nat} (v : vT t) : s_X4_zoneOf h (pk t) = some (nI (t 3 / 2)) := by
  have h1 := v.2.2.2.1
  simp only [s_X4_zoneOf, stationOf_pk v, bS, m_div_nI (b := 2) (a := t 3) (by omega) (by omega) (by omega), show (2 : Int32) = nI 2 from rfl]
theorem make_pk {h : mH} {w d m s i : Nat} (v : vT (mkT w d m s i 0)) : s_X4_make h (nI w) (nI d) (nI m) (nI s) (nI i) = some (pk (mkT w d m s i 0)) := by
  obtain ⟨h0, h1, h2, h3, h4, h5⟩ := v
  simp only [mkT] at h0 h1 h2 h3 h4 h5
  have e : (((nI d <<< ((19 : Int32) &&& 31)) ||| (nI m <<< ((8 : Int32) &&& 31))) ||| (nI w <<< ((6 : Int32) &&& 31))) ||| (nI s <<< ((2 : Int32) &&& 31)) = nI ((((d * 2 ^ 11 + m) * 2 ^ 2 + w) * 2 ^ 4 + s) * 2 ^ 2) := by
    rw [nI_shl (k := 19) (by decide), nI_shl (k := 8) (by decide), nI_shl (k := 6) (by decide), nI_shl (k := 2) (by decide)]
    rw [nI_orT (by omega), show d * 2 ^ 19 + m * 2 ^ 8 = (d * 2 ^ 11 + m) * 2 ^ 8 by omega, nI_orT (by omega), show (d * 2 ^ 11 + m) * 2 ^ 8 + w * 2 ^ 6 = ((d * 2 ^ 11 + m) * 2 ^ 2 + w) * 2 ^ 6 by omega, nI_orT (by omega)]
    congr 1
    omega
  unfold s_X4_make
  rw [e]
  rcases (show i = 0 ∨ i = 1 by omega) with q | q
  · subst q
    rw [if_pos (show nI 0 = 0 from rfl)]
    unfold s_X4_make_b28
    rw [show (0 : Int32) = nI 0 from rfl, nI_orT (by omega)]
    unfold pk
    rw [pN_mk]
    congr 2
    omega
  · subst q
    rw [if_neg (show ¬ nI 1 = 0 by decide)]
    unfold s_X4_make_b28
    rw [show (2 : Int32) = nI 2 from rfl, nI_orT (by omega)]
    unfold pk
    rw [pN_mk]
    congr 2
    omega
theorem missingOf_pk {h : mH} {t : Nat → Nat} {m s : Nat} (v : vT t) (hm : m < 1440) (hs : s < 10) : s_X4_missingOf h (pk t) (nI m) (nI s) = some (pk (mkT (t 0) (t 1) m s (1 - t 4) 1)) := by
  have v' := v
  obtain ⟨h0, h1, h2, h3, h4, h5⟩ := v
  have v2 : vT (mkT (t 0) (t 1) m s (1 - t 4) 0) := ⟨h0, h1, hm, hs, by show 1 - t 4 < 2; omega, by show 0 < 2; omega⟩
  have key : (s_X4_make h (nI (t 0)) (nI (t 1)) (nI m) (nI s) (nI (1 - t 4))).bind (fun x => some (x ||| 1)) = some (pk (mkT (t 0) (t 1) m s (1 - t 4) 1)) := by
    rw [make_pk v2]
    show some (pk _ ||| 1) = _
    unfold pk
    have e : pN (mkT (t 0) (t 1) m s (1 - t 4) 0) = (((((t 1 * 2 ^ 11 + m) * 2 ^ 2 + t 0) * 2 ^ 4 + s) * 2 + (1 - t 4))) * 2 ^ 1 := by
      rw [pN_mk]; omega
    rw [e, show (1 : Int32) = nI 1 from rfl, nI_orT (by omega), pN_mk]
  unfold s_X4_missingOf
  simp only [walletOf_pk v', dayOf_pk v', isIn_pk v', bS]
  rcases (show t 4 = 0 ∨ t 4 = 1 by omega) with q | q
  · rw [q] at key ⊢
    rw [if_pos (show nI 0 = 0 from rfl)]
    exact key
  · rw [q] at key ⊢
    rw [if_neg (show ¬ nI 1 = 0 by decide)]
    exact key
end PT
