/-! PURE: doubles between 2^-63 and 2 -/
section FPs
theorem fp_val {x : UInt64} {E T : Nat} (hx : x.toNat = E * 2 ^ 52 + T) (hT : T < 2 ^ 52) (h1 : 1 ≤ E) (h2 : E < 2047) : FP.Core.val64 x = .fin false (2 ^ 52 + T) ((E : Int) - 1075) := by
  have e : FP.Core.decode FP.Core.b64 (FP.Core.assemble FP.Core.b64 false E T) = _ := FP.Core.decode_assemble FP.Core.b64 false E T (show E < 2048 by omega) hT
  have a : FP.Core.assemble FP.Core.b64 false E T = x.toNat := by
    rw [hx]
    show (0 * 2048 + E) * 2 ^ 52 + T = _
    omega
  rw [a] at e
  have n1 : ¬ E = FP.Core.b64.exps - 1 := by show ¬ E = 2048 - 1; omega
  have n2 : ¬ E = 0 := by omega
  rw [if_neg n1, if_neg n2] at e
  refine e.trans ?_
  show FP.Core.Datum.fin false (2 ^ 52 + T) (FP.Core.b64.qmin + ((E : Int) - 1)) = _
  rw [FP.Core.qmin_b64]
  congr 1
  omega
theorem fp_nat {T : Nat} {q : Int} (hT : T < 2 ^ 52) (h1 : -1074 ≤ q) (h2 : q < 972) : (FP.Core.of64 (.fin false (2 ^ 52 + T) q)).toNat = (q + 1075).toNat * 2 ^ 52 + T := by
  have hf : FP.Core.fits FP.Core.b64 (.fin false (2 ^ 52 + T) q) := ⟨show 2 ^ 52 + T < 2 ^ 53 by omega, by rw [FP.Core.qmin_b64]; exact h1, by show q ≤ FP.Core.b64.qmax; rw [show FP.Core.b64.qmax = 971 by decide]; omega, Or.inr (show 2 ^ 52 ≤ 2 ^ 52 + T by omega)⟩
  rw [FP.Core.toNat_of64 hf]
  have hn : ¬ 2 ^ 52 + T < FP.Core.b64.tails := by show ¬ 2 ^ 52 + T < 2 ^ 52; omega
  show (if 2 ^ 52 + T < FP.Core.b64.tails then _ else FP.Core.assemble FP.Core.b64 false ((q - FP.Core.b64.qmin).toNat + 1) (2 ^ 52 + T - 2 ^ 52)) = _
  rw [if_neg hn, FP.Core.qmin_b64]
  show (0 * 2048 + ((q - -1074).toNat + 1)) * 2 ^ 52 + (2 ^ 52 + T - 2 ^ 52) = _
  omega
theorem fp_d {x : UInt64} (h : FP.Core.val64 x ≠ .nan) : m_d x = some x := by
  have h1 := (FP.Core.ne_nan x).mp h
  have e : (x &&& 0x7fffffffffffffff).toNat = x.toNat % 2 ^ 63 := by
    rw [UInt64.toNat_and]
    exact Nat.and_two_pow_sub_one_eq_mod x.toNat 63
  unfold m_d
  rw [if_pos]
  rw [UInt64.le_iff_toNat_le, e]
  exact h1
theorem fp_two : FP.Core.val64 4611686018427387904 = .fin false (2 ^ 52) (-51) := by decide +kernel
theorem fp_52 : FP.Core.val64 4841369599423283200 = .fin false (2 ^ 52) 0 := by decide +kernel
theorem fp_dbl {x : UInt64} {E T : Nat} (hx : x.toNat = E * 2 ^ 52 + T) (hT : T < 2 ^ 52) (h1 : 1 ≤ E) (h2 : E < 2000) : (FP.dmul x 4611686018427387904).toNat = (E + 1) * 2 ^ 52 + T := by
  have v := fp_val hx hT h1 (by omega)
  have w := FP.Core.val64_dmul x 4611686018427387904
  have ft : FP.Core.fits FP.Core.b64 (.fin false (2 ^ 52 + T) ((E : Int) + 1 - 1075)) := ⟨show 2 ^ 52 + T < 2 ^ 53 by omega, by rw [FP.Core.qmin_b64]; omega, by rw [show FP.Core.b64.qmax = 971 by decide]; omega, Or.inr (show 2 ^ 52 ≤ 2 ^ 52 + T by omega)⟩
  have r : FP.Core.round FP.Core.b64 (FP.Core.exactProduct (.fin false (2 ^ 52 + T) ((E : Int) - 1075)) (.fin false (2 ^ 52) (-51))) = .fin false (2 ^ 52 + T) ((E : Int) + 1 - 1075) := by
    refine FP.Core.roundRatio_exact FP.Core.good_b64 (by decide) ft ?_
    rw [show ((E : Int) - 1075 + -51 - ((E : Int) + 1 - 1075)).toNat = 0 by omega, show ((E : Int) + 1 - 1075 - ((E : Int) - 1075 + -51)).toNat = 52 by omega]
    omega
  rw [v, fp_two, r] at w
  have o : FP.dmul x 4611686018427387904 = FP.Core.of64 (.fin false (2 ^ 52 + T) ((E : Int) + 1 - 1075)) := by
    rw [← w]
    exact (FP.Core.of64_val64 (by rw [w]; intro z; cases z)).symm
  rw [o, fp_nat hT (by omega) (by omega)]
  omega
theorem fp_key {x : UInt64} (h : x.toNat < 2 ^ 63) : FP.Core.dkey x = (x.toNat : Int) := by
  unfold FP.Core.dkey
  rw [if_neg (by omega)]
theorem fp_key1 {c P a b n m K T : Nat} (h1 : a * b = m * n) (h2 : c * m = T * K) (h3 : K * P = b) : c * P * a * b = T * n * b := by
  calc c * P * a * b = c * P * (a * b) := by ac_rfl
    _ = (c * m) * P * n := by rw [h1]; ac_rfl
    _ = T * (K * P) * n := by rw [h2]; ac_rfl
    _ = T * n * b := by rw [h3]; ac_rfl
theorem fp_key2 {c d A B qp qm rp rm x y k : Nat} (h1 : c * qp = A * qm) (h2 : d * rp = B * rm) (h3 : qp * rm = x * k) (h4 : qm * rp = y * k) (hk : 0 < k) : c * B * x = A * d * y := by
  refine Nat.eq_of_mul_eq_mul_right hk ?_
  calc c * B * x * k = c * B * (x * k) := by ac_rfl
    _ = (c * qp) * (B * rm) := by rw [← h3]; ac_rfl
    _ = (A * qm) * (d * rp) := by rw [h1, h2]
    _ = A * d * (qm * rp) := by ac_rfl
    _ = A * d * y * k := by rw [h4]; ac_rfl
theorem fp_frac {x : UInt64} {T : Nat} (hx : x.toNat = 1023 * 2 ^ 52 + T) (hT : T < 2 ^ 52) : m_d (FP.dsub x FP.dconst1) = some (FP.dsub x FP.dconst1) ∧ m_d (FP.dmul (FP.dsub x FP.dconst1) 4841369599423283200) = some (FP.dmul (FP.dsub x FP.dconst1) 4841369599423283200) ∧ FP.d2l (FP.dmul (FP.dsub x FP.dconst1) 4841369599423283200) = Int64.ofNat T := by
  have v := fp_val hx hT (by decide) (by decide)
  have w := FP.Core.val64_dsub x FP.Core.dconst1
  rw [v, FP.Core.val64_dconst1] at w
  have s : FP.Core.exactSum (.fin false (2 ^ 52 + T) (((1023 : Nat) : Int) - 1075)) (FP.Core.negate (.fin false (2 ^ 52) (-52))) = .fin false T (-52) := by
    have u : FP.Core.sumUnits false (2 ^ 52 + T) (((1023 : Nat) : Int) - 1075) true (2 ^ 52) (-52) (min (((1023 : Nat) : Int) - 1075) (-52)) = (T : Int) := by
      show FP.Core.signed false ((2 ^ 52 + T) * 2 ^ 0) + FP.Core.signed true (2 ^ 52 * 2 ^ 0) = (T : Int)
      show (((2 ^ 52 + T) * 2 ^ 0 : Nat) : Int) + -((2 ^ 52 * 2 ^ 0 : Nat) : Int) = (T : Int)
      omega
    show FP.Core.Datum.fin (FP.Core.sumSign false true (FP.Core.sumUnits false (2 ^ 52 + T) (((1023 : Nat) : Int) - 1075) true (2 ^ 52) (-52) (min (((1023 : Nat) : Int) - 1075) (-52)))) (FP.Core.sumUnits false (2 ^ 52 + T) (((1023 : Nat) : Int) - 1075) true (2 ^ 52) (-52) (min (((1023 : Nat) : Int) - 1075) (-52))).natAbs (min (((1023 : Nat) : Int) - 1075) (-52)) = _
    rw [u]
    have g : FP.Core.sumSign false true (T : Int) = false := by
      unfold FP.Core.sumSign
      split
      · rfl
      · exact decide_eq_false (by omega)
    rw [g, Int.natAbs_natCast]
    rfl
  rw [s] at w
  obtain ⟨c, q, r1, r2⟩ := FP.Core.round_exact FP.Core.good_b64 false (c := T) (q := -52) (show T < 2 ^ 53 by omega) (by rw [FP.Core.qmin_b64]; decide) (by decide)
  rw [r1] at w
  have r2' : c * 2 ^ (q - FP.Core.b64.qmin).toNat = T * 2 ^ (-52 - FP.Core.b64.qmin).toNat := r2
  rw [FP.Core.qmin_b64, show ((-52 : Int) - -1074).toNat = 1022 by decide] at r2'
  have w' : FP.Core.val64 (FP.dsub x FP.dconst1) = .fin false c q := w
  have fit : FP.Core.fits FP.Core.b64 (.fin false c q) := by rw [← w']; exact FP.Core.val64_fits _
  have q1 : -1074 ≤ q := by have := fit.2.1; rw [FP.Core.qmin_b64] at this; exact this
  have z := FP.Core.val64_dmul (FP.dsub x FP.dconst1) 4841369599423283200
  rw [w', fp_52] at z
  have W : FP.Core.Whole (T : Int) (FP.Core.exactProduct (.fin false c q) (.fin false (2 ^ 52) 0)) := by
    show FP.Core.signed false (c * 2 ^ 52 * 2 ^ (q + 0).toNat) = (T : Int) * ((2 ^ (-(q + 0)).toNat : Nat) : Int)
    show ((c * 2 ^ 52 * 2 ^ (q + 0).toNat : Nat) : Int) = _
    rw [← Int.natCast_mul]
    congr 1
    rw [Int.add_zero]
    refine Nat.eq_of_mul_eq_mul_right (Nat.two_pow_pos 1074) ?_
    refine fp_key1 (m := 2 ^ (q - -1074).toNat) (K := 2 ^ 1022) ?_ r2' (Nat.pow_add 2 1022 52).symm
    rw [← Nat.pow_add, ← Nat.pow_add]
    congr 1
    omega
  have W2 : FP.Core.Whole (T : Int) (FP.Core.val64 (FP.dmul (FP.dsub x FP.dconst1) 4841369599423283200)) := by
    have := FP.Core.whole_round FP.Core.good_b64 FP.Core.wide_b64 (i := (T : Int)) (show (T : Int).natAbs ≤ 2 ^ 53 by omega) W
    rw [← z] at this
    exact this
  refine ⟨fp_d (by rw [w']; intro z; cases z), fp_d (fun y => by rw [y] at W2; exact W2), ?_⟩
  refine FP.Core.d2l_int (a := Int64.ofNat T) ?_
  have tI : (Int64.ofNat T).toInt = (T : Int) := Int64.toInt_ofNat_of_lt (by omega)
  show FP.Core.Whole _ _
  rw [tI]
  exact W2
theorem fp_div {A B : Nat} (hA : 0 < A) (hAB : A ≤ B) (hB : B < 2 ^ 31) : ∃ E T, (FP.ddiv (FP.i2d (nI A)) (FP.i2d (nI B))).toNat = E * 2 ^ 52 + T ∧ T < 2 ^ 52 ∧ 960 ≤ E ∧ E ≤ 1023 := by
  have a1 : FP.Core.DInt (nI A).toInt (FP.i2d (nI A)) := FP.Core.i2d_int _
  have b1 : FP.Core.DInt (nI B).toInt (FP.i2d (nI B)) := FP.Core.i2d_int _
  rw [nI_toInt (by omega)] at a1 b1
  have w : FP.Core.val64 (FP.ddiv (FP.i2d (nI A)) (FP.i2d (nI B))) = FP.Core.quotient FP.Core.b64 (FP.Core.val64 (FP.i2d (nI A))) (FP.Core.val64 (FP.i2d (nI B))) := FP.Core.val64_ddiv _ _
  generalize FP.ddiv (FP.i2d (nI A)) (FP.i2d (nI B)) = x at w ⊢
  unfold FP.Core.DInt at a1 b1
  rcases ha : FP.Core.val64 (FP.i2d (nI A)) with _ | sa | ⟨sa, c, q⟩
  · rw [ha] at a1; exact a1.elim
  · rw [ha] at a1; exact a1.elim
  rcases hb : FP.Core.val64 (FP.i2d (nI B)) with _ | sb | ⟨sb, d, r⟩
  · rw [hb] at b1; exact b1.elim
  · rw [hb] at b1; exact b1.elim
  rw [ha] at a1
  rw [hb] at b1
  rw [ha, hb] at w
  have sa0 := FP.Core.whole_sign a1 (by omega)
  have sb0 := FP.Core.whole_sign b1 (by omega)
  have ea := FP.Core.whole_natAbs a1
  have eb := FP.Core.whole_natAbs b1
  have d0 : d ≠ 0 := fun z => by have := (FP.Core.whole_zero b1).mp z; omega
  rw [Int.natAbs_natCast] at ea eb
  have qu : FP.Core.val64 x = FP.Core.roundRatio FP.Core.b64 false A B 0 := by
    have e1 : FP.Core.quotient FP.Core.b64 (.fin sa c q) (.fin sb d r) = FP.Core.roundRatio FP.Core.b64 (sa != sb) c d (q - r) := if_neg d0
    rw [w, e1, sa0, sb0, decide_eq_false (show ¬ (A : Int) < 0 by omega), decide_eq_false (show ¬ (B : Int) < 0 by omega)]
    refine FP.Core.roundRatio_congr (by omega) (by omega) ?_
    refine fp_key2 (k := 2 ^ (q.toNat + (-r).toNat - (q - r - 0).toNat)) ea eb ?_ ?_ (Nat.two_pow_pos _)
    · rw [← Nat.pow_add, ← Nat.pow_add]; congr 1; omega
    · rw [← Nat.pow_add, ← Nat.pow_add]; congr 1; omega
  have nn : FP.Core.val64 x ≠ .nan := by rw [qu]; exact FP.Core.roundRatio_ne_nan _ _ _ _ _
  have sg : ¬ 2 ^ 63 ≤ x.toNat := by
    have h1 := FP.Core.sgn_bits nn
    rw [qu, FP.Core.sgn_roundRatio] at h1
    exact of_decide_eq_false h1.symm
  have iu : FP.Core.inUnits A 0 (-1074) = A * 2 ^ 1074 := by
    unfold FP.Core.inUnits
    rw [show ((0 : Int) - -1074).toNat = 1074 by decide]
  have le : FP.Core.mag FP.Core.b64 x.toNat ≤ 1023 * FP.Core.b64.tails := by
    refine FP.Core.mag_le FP.Core.good_b64 (e := 0) (e0 := FP.Core.b64.qmin) qu (by omega) (Int.le_refl _) (by rw [FP.Core.qmin_b64]; decide) ?_
    rw [FP.Core.unitsOf_start (by decide), Int.sub_self, FP.Core.qmin_b64, iu, FP.Core.tails_b64, Int.toNat_zero, Nat.pow_zero, Nat.mul_one, ← Nat.pow_add, Nat.mul_comm]
    exact Nat.mul_le_mul_left _ hAB
  have ge : 960 * FP.Core.b64.tails ≤ FP.Core.mag FP.Core.b64 x.toNat := by
    refine FP.Core.mag_ge FP.Core.good_b64 (e := 0) (e0 := FP.Core.b64.qmin) qu (by omega) (Int.le_refl _) (by rw [FP.Core.qmin_b64]; decide) (by decide) ?_
    rw [FP.Core.unitsOf_start (by decide), Int.sub_self, FP.Core.qmin_b64, iu, FP.Core.tails_b64, Int.toNat_zero, Nat.pow_zero, Nat.mul_one, ← Nat.pow_add]
    have b31 : B ≤ 2 ^ 63 := by omega
    calc 2 ^ (52 + (960 - 1)) * B ≤ 2 ^ (52 + (960 - 1)) * 2 ^ 63 := Nat.mul_le_mul_left _ b31
      _ = 1 * 2 ^ 1074 := by rw [← Nat.pow_add, Nat.one_mul]
      _ ≤ A * 2 ^ 1074 := Nat.mul_le_mul_right _ hA
  rw [FP.Core.mag_toNat64, FP.Core.tails_b64, Nat.mod_eq_of_lt (by omega)] at le ge
  exact ⟨x.toNat / 2 ^ 52, x.toNat % 2 ^ 52, by omega, by omega, by omega, by omega⟩
end FPs
/-! PURE: the share's bits -/
section FPb
def isSh (x : UInt64) : Prop := ∃ E T, x.toNat = E * 2 ^ 52 + T ∧ T < 2 ^ 52 ∧ 960 ≤ E ∧ E ≤ 1023
theorem fp_nn {x : UInt64} (h : isSh x) : FP.Core.val64 x ≠ .nan := by
  obtain ⟨E, T, h1, h2, h3, h4⟩ := h
  rw [fp_val h1 h2 (by omega) (by omega)]
  intro z
  exact FP.Core.Datum.noConfusion z
theorem fp_one : isSh FP.dconst1 := ⟨1023, 0, rfl, by decide, by decide, by decide⟩
theorem fp_1n : FP.Core.val64 FP.dconst1 ≠ .nan := fp_nn fp_one
theorem fp_c1 : FP.dconst1.toNat = 1023 * 2 ^ 52 := by decide
theorem fp_c0 : FP.dconst0.toNat = 0 := by decide
theorem fp_0n : FP.Core.val64 FP.dconst0 ≠ .nan := by
  rw [show FP.Core.val64 FP.dconst0 = _ from FP.Core.val64_dconst0]
  intro z; cases z
theorem fp_lt1 {x : UInt64} {E T : Nat} (h1 : x.toNat = E * 2 ^ 52 + T) (h2 : T < 2 ^ 52) (h3 : 960 ≤ E) (h4 : E < 1023) : ¬ 0 ≤ Op.cmpValue (FP.dcmp x FP.dconst1) .g := by
  have e : FP.dcmp x FP.dconst1 = some .lt := (FP.Core.dcmp_lt_key (fp_nn ⟨E, T, h1, h2, h3, by omega⟩) fp_1n).mpr (by
    rw [fp_key (show x.toNat < 2 ^ 63 by omega), fp_key (by decide), fp_c1]
    omega)
  rw [e]
  decide
theorem fp_ge1 {x : UInt64} {T : Nat} (h1 : x.toNat = 1023 * 2 ^ 52 + T) (h2 : T < 2 ^ 52) : 0 ≤ Op.cmpValue (FP.dcmp x FP.dconst1) .g := by
  have nn := fp_nn ⟨1023, T, h1, h2, by decide, by decide⟩
  rcases Nat.eq_zero_or_pos T with z | z
  · have e : FP.dcmp x FP.dconst1 = some .eq := (FP.Core.dcmp_eq_key nn fp_1n).mpr (by
      rw [fp_key (show x.toNat < 2 ^ 63 by omega), fp_key (by decide), fp_c1]
      omega)
    rw [e]; decide
  · have e : FP.dcmp x FP.dconst1 = some .gt := (FP.Core.dcmp_gt_key nn fp_1n).mpr (by
      rw [fp_key (show x.toNat < 2 ^ 63 by omega), fp_key (by decide), fp_c1]
      omega)
    rw [e]; decide
theorem fp_gt0 {x : UInt64} (h : isSh x) : 0 < Op.cmpValue (FP.dcmp x FP.dconst0) .l := by
  have nn := fp_nn h
  obtain ⟨E, T, h1, h2, h3, h4⟩ := h
  have e : FP.dcmp x FP.dconst0 = some .gt := (FP.Core.dcmp_gt_key nn fp_0n).mpr (by
    rw [fp_key (show x.toNat < 2 ^ 63 by omega), fp_key (by decide), fp_c0]
    omega)
  rw [e]; decide
theorem fp_bits {n : Nat} {x : UInt64} (h : x.toNat = n) : x.toInt64 = Int64.ofNat n := by
  subst h
  apply Int64.toBitVec_inj.mp
  show x.toBitVec = BitVec.ofNat 64 x.toBitVec.toNat
  exact BitVec.eq_of_toNat_eq (by rw [BitVec.toNat_ofNat, Nat.mod_eq_of_lt x.toBitVec.isLt])
theorem fp_shl (a : Nat) : Int64.ofNat a <<< ((52 : Int32).toInt64 &&& 63) = Int64.ofNat (a * 2 ^ 52) := by
  have hy : (((52 : Int32).toInt64 &&& 63).toBitVec.smod 64).toNat = 52 := by decide
  apply Int64.toBitVec_inj.mp
  show (BitVec.ofNat 64 a) <<< (((52 : Int32).toInt64 &&& 63).toBitVec.smod 64) = BitVec.ofNat 64 (a * 2 ^ 52)
  rw [BitVec.shiftLeft_eq', hy]
  apply BitVec.eq_of_toNat_eq
  simp [BitVec.toNat_shiftLeft, Nat.shiftLeft_eq, Nat.mod_mul_mod]
theorem fp_pred (n : Nat) : Int64.ofNat (n + 1) - 1 = Int64.ofNat n := by
  rw [Int64.ofNat_add]
  exact Int64.add_sub_cancel _ _
theorem bits_L {h : mH} {T E0 : Nat} (hT : T < 2 ^ 52) : ∀ (d v F : Nat) (x : UInt64) (E : Nat), x.toNat = E * 2 ^ 52 + T → E + d = 1023 → 960 ≤ E → v + d < 64 → d < F → s_X7_bitsOfShare_L18 h F x (Int64.ofNat (E0 + d)) (nI v) = some (Int64.ofNat (E0 * 2 ^ 52 + T)) := by
  intro d
  induction d with
  | zero =>
    intro v F x E hx hE h9 hv hF
    obtain ⟨F, rfl⟩ : ∃ F', F = F' + 1 := ⟨F - 1, by omega⟩
    obtain rfl : E = 1023 := by omega
    obtain ⟨f1, f2, f3⟩ := fp_frac hx hT
    rw [s_X7_bitsOfShare_L18, if_neg (show ¬ (64 : Int32) ≤ nI v from nI_ge (b := 64) (by omega) (by decide)), if_pos (fp_ge1 hx hT), s_X7_bitsOfShare_b49, f1, bS, f2, bS, f3, fp_shl, ← Int64.ofNat_add]
    rfl
  | succ d ih =>
    intro v F x E hx hE h9 hv hF
    obtain ⟨F, rfl⟩ : ∃ F', F = F' + 1 := ⟨F - 1, by omega⟩
    have g := fp_dbl hx hT (by omega) (by omega)
    have gm : m_d (FP.dmul x 4611686018427387904) = some (FP.dmul x 4611686018427387904) := fp_d (fp_nn ⟨E + 1, T, g, hT, by omega, by omega⟩)
    have r := ih (v + 1) F (FP.dmul x 4611686018427387904) (E + 1) g (by omega) (by omega) (by omega) (by omega)
    rw [s_X7_bitsOfShare_L18, if_neg (show ¬ (64 : Int32) ≤ nI v from nI_ge (b := 64) (by omega) (by decide)), if_neg (fp_lt1 hx hT h9 (by omega)), gm, bS, nI_1, ← Nat.add_assoc, fp_pred]
    exact r
theorem bitsOf_S {h : mH} {x : UInt64} (hx : isSh x) : s_X7_bitsOfShare h x = some x.toInt64 := by
  have p := fp_gt0 hx
  obtain ⟨E, T, h1, h2, h3, h4⟩ := hx
  have r := bits_L (h := h) (E0 := E) h2 (1023 - E) 0 m_F x E h1 (by omega) h3 (by omega) (by unfold m_F; omega)
  rw [show E + (1023 - E) = 1023 by omega] at r
  rw [s_X7_bitsOfShare, if_pos p, fp_bits h1]
  exact r
theorem bitsOf_0 {h : mH} : s_X7_bitsOfShare h 0 = some (0 : UInt64).toInt64 := by
  have e : FP.dcmp 0 FP.dconst0 = some .eq := by decide +kernel
  rw [s_X7_bitsOfShare, e, if_neg (by decide)]
  rfl
theorem long_S {h : mH} {x : UInt64} (hx : FP.Core.val64 x ≠ .nan) : s_Jxe99ae_doubleToLongBits_ccdee h x = some x.toInt64 := by
  have e : FP.dcmp x x = some .eq := (FP.Core.dcmp_eq_key hx hx).mpr rfl
  rw [s_Jxe99ae_doubleToLongBits_ccdee, s_Jxe99ae_isNaN_b9ae7, e, if_pos (by decide)]
  show (some (0 : Int32)).bind _ = _
  rw [bS, if_pos rfl]
/-- what a share is, and its bits -/
def shOK (x : UInt64) : Prop := m_d x = some x ∧ (∀ h : mH, s_X7_bitsOfShare h x = some x.toInt64) ∧ (∀ h : mH, s_Jxe99ae_doubleToLongBits_ccdee h x = some x.toInt64) ∧ Op.cmpValue (FP.dcmp x x) .l = 0
theorem sh_S {x : UInt64} (hx : isSh x) : shOK x := by
  have nn := fp_nn hx
  have e : FP.dcmp x x = some .eq := (FP.Core.dcmp_eq_key nn nn).mpr rfl
  exact ⟨fp_d nn, fun h => bitsOf_S hx, fun h => long_S nn, by rw [e]; decide⟩
theorem sh_0 : shOK 0 := by
  have nn : FP.Core.val64 0 ≠ .nan := fp_0n
  have e : FP.dcmp 0 0 = some .eq := (FP.Core.dcmp_eq_key nn nn).mpr rfl
  exact ⟨fp_d nn, fun h => bitsOf_0, fun h => long_S nn, by rw [e]; decide⟩
theorem fp_div0 {B : Nat} (hB : 0 < B) (hB2 : B < 2 ^ 31) : FP.ddiv (FP.i2d (nI 0)) (FP.i2d (nI B)) = 0 := by
  have b1 : FP.Core.DInt (nI B).toInt (FP.i2d (nI B)) := FP.Core.i2d_int _
  rw [nI_toInt (by omega)] at b1
  have w : FP.Core.val64 (FP.ddiv (FP.i2d (nI 0)) (FP.i2d (nI B))) = FP.Core.quotient FP.Core.b64 (FP.Core.val64 (FP.i2d (nI 0))) (FP.Core.val64 (FP.i2d (nI B))) := FP.Core.val64_ddiv _ _
  have z0 : FP.Core.val64 (FP.i2d (nI 0)) = .fin false 0 FP.Core.b64.qmin := by decide +kernel
  unfold FP.Core.DInt at b1
  rcases hb : FP.Core.val64 (FP.i2d (nI B)) with _ | sb | ⟨sb, d, r⟩
  · rw [hb] at b1; exact b1.elim
  · rw [hb] at b1; exact b1.elim
  rw [hb] at b1
  have sb0 := FP.Core.whole_sign b1 (by omega)
  have d0 : d ≠ 0 := fun z => by have := (FP.Core.whole_zero b1).mp z; omega
  have q1 : FP.Core.quotient FP.Core.b64 (.fin false 0 FP.Core.b64.qmin) (.fin sb d r) = .fin false 0 FP.Core.b64.qmin := by
    rw [sb0, decide_eq_false (show ¬ (B : Int) < 0 by omega)]
    show (if d = 0 then _ else FP.Core.roundRatio FP.Core.b64 (false != false) 0 d (FP.Core.b64.qmin - r)) = _
    rw [if_neg d0]
    rfl
  rw [z0, hb, q1] at w
  have e := FP.Core.of64_val64 (a := FP.ddiv (FP.i2d (nI 0)) (FP.i2d (nI B))) (by rw [w]; intro z; cases z)
  rw [w] at e
  rw [← e]
  decide +kernel
/-- the share of A in B -/
theorem sh_div {A B : Nat} (hAB : A ≤ B) (hB : 0 < B) (hB2 : B < 2 ^ 31) : shOK (FP.ddiv (FP.i2d (nI A)) (FP.i2d (nI B))) := by
  rcases Nat.eq_zero_or_pos A with z | z
  · subst z
    rw [fp_div0 hB hB2]
    exact sh_0
  · exact sh_S (fp_div z hAB hB2)
end FPb
