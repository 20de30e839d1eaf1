/-! PURE: sums over days and weeks -/
section RD
theorem m_rem_nI {a b : Nat} (ha : a < 2 ^ 31) (hb : b < 2 ^ 31) (h0 : b ≠ 0) : m_rem (nI a) (nI b) = some (nI (a % b)) := by
  have h1 : a / b * b ≤ a := Nat.div_mul_le_self a b
  have h2 : a - a / b * b = a % b := by
    have := Nat.div_add_mod a b
    rw [Nat.mul_comm] at this
    omega
  rw [m_rem, if_neg (nI_ne0 (by omega) hb), div_nI ha hb h0, nI_mul, nI_sub h1, h2]
theorem sumF_7 (g : Nat → Int32) : ∀ n, sumF g (7 * n) = sumF (fun c => sumF (fun i => g (7 * c + i)) 7) n
  | 0 => rfl
  | n + 1 => by
    show sumF g (7 * n + 7) = sumF (fun c => sumF (fun i => g (7 * c + i)) 7) n + sumF (fun i => g (7 * n + i)) 7
    rw [← sumF_7 g n]
    show sumF g (7 * n) + g (7 * n) + g (7 * n + 1) + g (7 * n + 2) + g (7 * n + 3) + g (7 * n + 4) + g (7 * n + 5) + g (7 * n + 6) = sumF g (7 * n) + (0 + g (7 * n + 0) + g (7 * n + 1) + g (7 * n + 2) + g (7 * n + 3) + g (7 * n + 4) + g (7 * n + 5) + g (7 * n + 6))
    simp only [Int32.add_assoc, Int32.zero_add, Nat.add_zero]
theorem sumF_weeks (g : Nat → Int32) : sumF (fun c => wsum g (c / 4) (c % 4)) 16 = sumF g 112 := by
  rw [show (112 : Nat) = 7 * 16 from rfl, sumF_7]
  refine sumF_ext fun c hc => sumF_ext fun i hi => ?_
  congr 1
  omega
theorem sumF_add (g g' : Nat → Int32) : ∀ n, sumF (fun i => g i + g' i) n = sumF g n + sumF g' n
  | 0 => rfl
  | n + 1 => by
    show sumF (fun i => g i + g' i) n + (g n + g' n) = sumF g n + g n + (sumF g' n + g' n)
    rw [sumF_add g g' n, Int32.add_assoc, Int32.add_assoc, ← Int32.add_assoc (sumF g' n), Int32.add_comm (sumF g' n) (g n), Int32.add_assoc]
theorem sumF_z : ∀ n, sumF (fun _ => 0) n = 0
  | 0 => rfl
  | n + 1 => by
    show sumF (fun _ => 0) n + 0 = 0
    rw [sumF_z n]; rfl
theorem sumF_swap (G : Nat → Nat → Int32) (N : Nat) : ∀ n, sumF (fun c => sumF (fun i => G c i) n) N = sumF (fun i => sumF (fun c => G c i) N) n
  | 0 => sumF_z N
  | n + 1 => by
    show sumF (fun c => sumF (fun i => G c i) n + G c n) N = sumF (fun i => sumF (fun c => G c i) N) n + sumF (fun c => G c n) N
    rw [sumF_add, sumF_swap G N n]
theorem sumF_one {x : Int32} {c0 : Nat} : ∀ N, sumF (fun c => if c0 = c then x else 0) N = if c0 < N then x else 0
  | 0 => by rw [if_neg (Nat.not_lt_zero _)]; rfl
  | N + 1 => by
    show sumF (fun c => if c0 = c then x else 0) N + (if c0 = N then x else 0) = _
    rw [sumF_one N]
    by_cases q : c0 = N
    · rw [if_neg (by omega), if_pos q, if_pos (by omega), Int32.zero_add]
    · by_cases r : c0 < N
      · rw [if_pos r, if_neg q, if_pos (by omega), Int32.add_zero]
      · rw [if_neg r, if_neg q, if_neg (by omega)]; rfl
/-- the taps that ride alone, however they are counted -/
theorem alone_sum {n : Nat} {set : Nat → Int32} {tp : Nat → Nat → Nat} (hv : vTs n tp) : sumF (dA n set tp) 112 = sumF (fun i => if mt n (set 3) tp i = -1 then 1 else 0) n := by
  show sumF (fun c => sumF (gA tp (mt n (set 3) tp) c) n) 112 = _
  rw [sumF_swap]
  refine sumF_ext fun i hi => ?_
  have hc := cel_lt (hv i hi)
  by_cases q : mt n (set 3) tp i = -1
  · rw [if_pos q]
    have := sumF_one (x := 1) (c0 := cel tp i) 112
    rw [if_pos hc] at this
    rw [← this]
    refine sumF_ext fun c _ => ?_
    unfold gA
    by_cases z : cel tp i = c
    · rw [if_pos ⟨z, q⟩, if_pos z]
    · rw [if_neg (fun y => z y.1), if_neg z]
  · rw [if_neg q, ← sumF_z 112]
    refine sumF_ext fun c _ => ?_
    unfold gA
    rw [if_neg (fun y => q y.2)]
end RD
