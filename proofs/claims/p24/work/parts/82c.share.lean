/-! PURE: a share of two sums lies between 0 and 1 -/
section FPs
theorem fp_d {x : UInt64} (h : FP.Core.val64 x ≠ .nan) : m_d x = some x := by
  have h1 := (FP.Core.ne_nan x).mp h
  have e : (x &&& 0x7fffffffffffffff).toNat = x.toNat % 2 ^ 63 := by
    rw [UInt64.toNat_and]
    exact Nat.and_two_pow_sub_one_eq_mod x.toNat 63
  unfold m_d
  rw [if_pos]
  rw [UInt64.le_iff_toNat_le, e]
  exact h1
theorem fp_key {x : UInt64} (h : x.toNat < 2 ^ 63) : FP.Core.dkey x = (x.toNat : Int) := by
  unfold FP.Core.dkey
  rw [if_neg (by omega)]
theorem fp_key2 {c d A B qp qm rp rm x y k : Nat} (h1 : c * qp = A * qm) (h2 : d * rp = B * rm) (h3 : qp * rm = x * k) (h4 : qm * rp = y * k) (hk : 0 < k) : c * B * x = A * d * y := by
  refine Nat.eq_of_mul_eq_mul_right hk ?_
  calc c * B * x * k = c * B * (x * k) := by ac_rfl
    _ = (c * qp) * (B * rm) := by rw [← h3]; ac_rfl
    _ = (A * qm) * (d * rp) := by rw [h1, h2]
    _ = A * d * (qm * rp) := by ac_rfl
    _ = A * d * y * k := by rw [h4]; ac_rfl
theorem fp_div2 {A B : Nat} (hA : 0 < A) (hAB : A ≤ B) (hB : B < 2 ^ 31) : FP.Core.val64 (FP.ddiv (FP.i2d (nI A)) (FP.i2d (nI B))) ≠ .nan ∧ (FP.ddiv (FP.i2d (nI A)) (FP.i2d (nI B))).toNat ≤ 1023 * 2 ^ 52 := by
  have a1 : FP.Core.DInt (nI A).toInt (FP.i2d (nI A)) := FP.Core.i2d_int _
  have b1 : FP.Core.DInt (nI B).toInt (FP.i2d (nI B)) := FP.Core.i2d_int _
  rw [nI_toInt (by omega)] at a1 b1
  have w : FP.Core.val64 (FP.ddiv (FP.i2d (nI A)) (FP.i2d (nI B))) = FP.Core.quotient FP.Core.b64 (FP.Core.val64 (FP.i2d (nI A))) (FP.Core.val64 (FP.i2d (nI B))) := FP.Core.val64_ddiv _ _
  generalize FP.ddiv (FP.i2d (nI A)) (FP.i2d (nI B)) = x at w ⊢
  unfold FP.Core.DInt at a1 b1
  rcases ha : FP.Core.val64 (FP.i2d (nI A)) with _ | sa | ⟨sa, c, q⟩
  · rw [ha] at a1; exact a1.elim
  · rw [ha] at a1; exact a1.elim
  rcases hb : FP.Core.val64 (FP.i2d (nI B)) with _ | sb | ⟨sb, d, r⟩
  · rw [hb] at b1; exact b1.elim
  · rw [hb] at b1; exact b1.elim
  rw [ha] at a1
  rw [hb] at b1
  rw [ha, hb] at w
  have sa0 := FP.Core.whole_sign a1 (by omega)
  have sb0 := FP.Core.whole_sign b1 (by omega)
  have ea := FP.Core.whole_natAbs a1
  have eb := FP.Core.whole_natAbs b1
  have d0 : d ≠ 0 := fun z => by have := (FP.Core.whole_zero b1).mp z; omega
  rw [Int.natAbs_natCast] at ea eb
  have qu : FP.Core.val64 x = FP.Core.roundRatio FP.Core.b64 false A B 0 := by
    have e1 : FP.Core.quotient FP.Core.b64 (.fin sa c q) (.fin sb d r) = FP.Core.roundRatio FP.Core.b64 (sa != sb) c d (q - r) := if_neg d0
    rw [w, e1, sa0, sb0, decide_eq_false (show ¬ (A : Int) < 0 by omega), decide_eq_false (show ¬ (B : Int) < 0 by omega)]
    refine FP.Core.roundRatio_congr (by omega) (by omega) ?_
    refine fp_key2 (k := 2 ^ (q.toNat + (-r).toNat - (q - r - 0).toNat)) ea eb ?_ ?_ (Nat.two_pow_pos _)
    · rw [← Nat.pow_add, ← Nat.pow_add]; congr 1; omega
    · rw [← Nat.pow_add, ← Nat.pow_add]; congr 1; omega
  have nn : FP.Core.val64 x ≠ .nan := by rw [qu]; exact FP.Core.roundRatio_ne_nan _ _ _ _ _
  have sg : ¬ 2 ^ 63 ≤ x.toNat := by
    have h1 := FP.Core.sgn_bits nn
    rw [qu, FP.Core.sgn_roundRatio] at h1
    exact of_decide_eq_false h1.symm
  have iu : FP.Core.inUnits A 0 (-1074) = A * 2 ^ 1074 := by
    unfold FP.Core.inUnits
    rw [show ((0 : Int) - -1074).toNat = 1074 by decide]
  have le : FP.Core.mag FP.Core.b64 x.toNat ≤ 1023 * FP.Core.b64.tails := by
    refine FP.Core.mag_le FP.Core.good_b64 (e := 0) (e0 := FP.Core.b64.qmin) qu (by omega) (Int.le_refl _) (by rw [FP.Core.qmin_b64]; decide) ?_
    rw [FP.Core.unitsOf_start (by decide), Int.sub_self, FP.Core.qmin_b64, iu, FP.Core.tails_b64, Int.toNat_zero, Nat.pow_zero, Nat.mul_one, ← Nat.pow_add, Nat.mul_comm]
    exact Nat.mul_le_mul_left _ hAB
  rw [FP.Core.mag_toNat64, FP.Core.tails_b64, Nat.mod_eq_of_lt (by omega)] at le
  exact ⟨nn, le⟩
theorem fp_c1 : FP.dconst1.toNat = 1023 * 2 ^ 52 := by decide
theorem fp_c0 : FP.dconst0.toNat = 0 := by decide
theorem fp_0n : FP.Core.val64 FP.dconst0 ≠ .nan := by
  rw [show FP.Core.val64 FP.dconst0 = _ from FP.Core.val64_dconst0]
  intro z; cases z
theorem fp_div0 {B : Nat} (hB : 0 < B) (hB2 : B < 2 ^ 31) : FP.ddiv (FP.i2d (nI 0)) (FP.i2d (nI B)) = 0 := by
  have b1 : FP.Core.DInt (nI B).toInt (FP.i2d (nI B)) := FP.Core.i2d_int _
  rw [nI_toInt (by omega)] at b1
  have w : FP.Core.val64 (FP.ddiv (FP.i2d (nI 0)) (FP.i2d (nI B))) = FP.Core.quotient FP.Core.b64 (FP.Core.val64 (FP.i2d (nI 0))) (FP.Core.val64 (FP.i2d (nI B))) := FP.Core.val64_ddiv _ _
  have z0 : FP.Core.val64 (FP.i2d (nI 0)) = .fin false 0 FP.Core.b64.qmin := by decide +kernel
  unfold FP.Core.DInt at b1
  rcases hb : FP.Core.val64 (FP.i2d (nI B)) with _ | sb | ⟨sb, d, r⟩
  · rw [hb] at b1; exact b1.elim
  · rw [hb] at b1; exact b1.elim
  rw [hb] at b1
  have sb0 := FP.Core.whole_sign b1 (by omega)
  have d0 : d ≠ 0 := fun z => by have := (FP.Core.whole_zero b1).mp z; omega
  have q1 : FP.Core.quotient FP.Core.b64 (.fin false 0 FP.Core.b64.qmin) (.fin sb d r) = .fin false 0 FP.Core.b64.qmin := by
    rw [sb0, decide_eq_false (show ¬ (B : Int) < 0 by omega)]
    show (if d = 0 then _ else FP.Core.roundRatio FP.Core.b64 (false != false) 0 d (FP.Core.b64.qmin - r)) = _
    rw [if_neg d0]
    rfl
  rw [z0, hb, q1] at w
  have e := FP.Core.of64_val64 (a := FP.ddiv (FP.i2d (nI 0)) (FP.i2d (nI B))) (by rw [w]; intro z; cases z)
  rw [w] at e
  rw [← e]
  decide +kernel
theorem fp_1n : FP.Core.val64 FP.dconst1 ≠ .nan := by
  rw [show FP.Core.val64 FP.dconst1 = _ from FP.Core.val64_dconst1]
  intro z; cases z
/-- what is asked of a share -/
def shP (x : UInt64) : Prop := m_d x = some x ∧ Op.cmpValue (FP.dcmp x x) .l = 0 ∧ ¬ Op.cmpValue (FP.dcmp x FP.dconst0) .l < 0 ∧ ¬ 0 < Op.cmpValue (FP.dcmp x FP.dconst1) .g
theorem shP_of {x : UInt64} (nn : FP.Core.val64 x ≠ .nan) (h : x.toNat ≤ 1023 * 2 ^ 52) : shP x := by
  have k : FP.Core.dkey x = (x.toNat : Int) := fp_key (by omega)
  have k0 : FP.Core.dkey FP.dconst0 = ((0 : Nat) : Int) := by rw [fp_key (by decide), fp_c0]
  have k1 : FP.Core.dkey FP.dconst1 = ((1023 * 2 ^ 52 : Nat) : Int) := by rw [fp_key (by decide), fp_c1]
  refine ⟨fp_d nn, ?_, ?_, ?_⟩
  · have e : FP.dcmp x x = some .eq := (FP.Core.dcmp_eq_key nn nn).mpr rfl
    rw [e]; decide
  · rcases Nat.eq_zero_or_pos x.toNat with z | z
    · have e : FP.dcmp x FP.dconst0 = some .eq := (FP.Core.dcmp_eq_key nn fp_0n).mpr (by rw [k, k0]; omega)
      rw [e]; decide
    · have e : FP.dcmp x FP.dconst0 = some .gt := (FP.Core.dcmp_gt_key nn fp_0n).mpr (by rw [k, k0]; omega)
      rw [e]; decide
  · rcases Nat.lt_or_ge x.toNat (1023 * 2 ^ 52) with z | z
    · have e : FP.dcmp x FP.dconst1 = some .lt := (FP.Core.dcmp_lt_key nn fp_1n).mpr (by rw [k, k1]; omega)
      rw [e]; decide
    · have e : FP.dcmp x FP.dconst1 = some .eq := (FP.Core.dcmp_eq_key nn fp_1n).mpr (by rw [k, k1]; omega)
      rw [e]; decide
theorem shP_div {A B : Nat} (hAB : A ≤ B) (hB : 0 < B) (hB2 : B < 2 ^ 31) : shP (FP.ddiv (FP.i2d (nI A)) (FP.i2d (nI B))) := by
  rcases Nat.eq_zero_or_pos A with z | z
  · subst z
    rw [fp_div0 hB hB2]
    exact shP_of fp_0n (by decide)
  · obtain ⟨h1, h2⟩ := fp_div2 z hAB hB2
    exact shP_of h1 h2
theorem shP_1 : shP FP.dconst1 := shP_of fp_1n (by rw [fp_c1]; exact Nat.le_refl _)
end FPs
