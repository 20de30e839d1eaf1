theorem sb_l {a b : Cond} {args : Array Value} {s : State} (h : (Cond.and a b).before args s = true) : a.before args s = true := by rw [Cond.before_and, Bool.and_eq_true] at h; exact h.1
theorem sb_r {a b : Cond} {args : Array Value} {s : State} (h : (Cond.and a b).before args s = true) : b.before args s = true := by rw [Cond.before_and, Bool.and_eq_true] at h; exact h.2
def m_len (_ : Nat) : Nat := 6
def m_tab (k : Nat) : Nat → Int32 := fun j => match k with
  | 0 => ([180, 60, 420, 120, 700, 2800] : List Int32).getD j 0
  | 1 => ([0, 0, 0, 1, 0, 0] : List Int32).getD j 0
  | _ => ([999, 999, 999, 1439, 9999, 9999] : List Int32).getD j 0
section
variable {args : Array Value} {s : State}
set_option maxRecDepth 100000 in
theorem st_0 (hN : narrow_1.before args s = true) : ∃ t : Nat, (Term.static "CapWallets" "FIRST_VALUES" "[I").eval args s none [] s = some (.ref t) ∧ va_T .int t 6 (fun j => .int (m_tab 0 j)) (fun q : Nat => s.heap.size ≤ q) s s.heap := by
  refine va_Tof (by decide) (sb_l (sb_r (sb_r (sb_l (sb_l (sb_l (sb_l (sb_l (sb_l hN))))))))) (va_eqt (sb_r (sb_r (sb_r (sb_l (sb_l (sb_l (sb_l (sb_l (sb_l hN)))))))))) (fun j hj => ?_) (fun a ha => Nat.not_le.mpr ha)
  · match j, hj with
    | 0, _ => exact va_eqt (sb_l (sb_l (sb_r (sb_l (sb_l (sb_l (sb_l (sb_l hN))))))))
    | 1, _ => exact va_eqt (sb_r (sb_l (sb_r (sb_l (sb_l (sb_l (sb_l (sb_l hN))))))))
    | 2, _ => exact va_eqt (sb_l (sb_r (sb_r (sb_l (sb_l (sb_l (sb_l (sb_l hN))))))))
    | 3, _ => exact va_eqt (sb_l (sb_r (sb_r (sb_r (sb_l (sb_l (sb_l (sb_l (sb_l hN)))))))))
    | 4, _ => exact va_eqt (sb_r (sb_r (sb_r (sb_r (sb_l (sb_l (sb_l (sb_l (sb_l hN)))))))))
    | 5, _ => exact va_eqt (sb_l (sb_l (sb_l (sb_r (sb_l (sb_l (sb_l (sb_l hN))))))))
    | j + 6, h9 => exact absurd h9 (by omega)
set_option maxRecDepth 100000 in
theorem st_1 (hN : narrow_1.before args s = true) : ∃ t : Nat, (Term.static "CapWallets" "LEAST_VALUES" "[I").eval args s none [] s = some (.ref t) ∧ va_T .int t 6 (fun j => .int (m_tab 1 j)) (fun q : Nat => s.heap.size ≤ q) s s.heap := by
  refine va_Tof (by decide) (sb_r (sb_r (sb_r (sb_l (sb_r (sb_l (sb_l (sb_l (sb_l hN))))))))) (va_eqt (sb_l (sb_l (sb_r (sb_r (sb_l (sb_l (sb_l (sb_l hN))))))))) (fun j hj => ?_) (fun a ha => Nat.not_le.mpr ha)
  · match j, hj with
    | 0, _ => exact va_eqt (sb_l (sb_r (sb_l (sb_r (sb_r (sb_l (sb_l (sb_l (sb_l hN)))))))))
    | 1, _ => exact va_eqt (sb_r (sb_r (sb_l (sb_r (sb_r (sb_l (sb_l (sb_l (sb_l hN)))))))))
    | 2, _ => exact va_eqt (sb_l (sb_r (sb_r (sb_r (sb_l (sb_l (sb_l (sb_l hN))))))))
    | 3, _ => exact va_eqt (sb_l (sb_r (sb_r (sb_r (sb_r (sb_l (sb_l (sb_l (sb_l hN)))))))))
    | 4, _ => exact va_eqt (sb_r (sb_r (sb_r (sb_r (sb_r (sb_l (sb_l (sb_l (sb_l hN)))))))))
    | 5, _ => exact va_eqt (sb_l (sb_l (sb_l (sb_l (sb_r (sb_l (sb_l (sb_l hN))))))))
    | j + 6, h9 => exact absurd h9 (by omega)
set_option maxRecDepth 100000 in
theorem st_2 (hN : narrow_1.before args s = true) : ∃ t : Nat, (Term.static "CapWallets" "MOST_VALUES" "[I").eval args s none [] s = some (.ref t) ∧ va_T .int t 6 (fun j => .int (m_tab 2 j)) (fun q : Nat => s.heap.size ≤ q) s s.heap := by
  refine va_Tof (by decide) (sb_l (sb_r (sb_l (sb_l (sb_r (sb_l (sb_l (sb_l hN)))))))) (va_eqt (sb_l (sb_r (sb_r (sb_l (sb_l (sb_r (sb_l (sb_l (sb_l hN)))))))))) (fun j hj => ?_) (fun a ha => Nat.not_le.mpr ha)
  · match j, hj with
    | 0, _ => exact va_eqt (sb_r (sb_r (sb_r (sb_l (sb_l (sb_r (sb_l (sb_l (sb_l hN)))))))))
    | 1, _ => exact va_eqt (sb_l (sb_l (sb_r (sb_l (sb_r (sb_l (sb_l (sb_l hN))))))))
    | 2, _ => exact va_eqt (sb_r (sb_l (sb_r (sb_l (sb_r (sb_l (sb_l (sb_l hN))))))))
    | 3, _ => exact va_eqt (sb_l (sb_r (sb_r (sb_l (sb_r (sb_l (sb_l (sb_l hN))))))))
    | 4, _ => exact va_eqt (sb_l (sb_r (sb_r (sb_r (sb_l (sb_r (sb_l (sb_l (sb_l hN)))))))))
    | 5, _ => exact va_eqt (sb_r (sb_r (sb_r (sb_r (sb_l (sb_r (sb_l (sb_l (sb_l hN)))))))))
    | j + 6, h9 => exact absurd h9 (by omega)
theorem sn_f (hts : ∀ w ∈ lw_tbl, w.before args s = true) : ∀ q ∈ m_nf, va_Nw (.fieldLinkNest q.1 q.2.1 q.2.2.1 q.2.2.2.1 q.2.2.2.2.1 q.2.2.2.2.2) s := (List.forall_mem_cons.mpr ⟨va_Nw.of rfl (hts _ (List.mem_append_right _ (List.mem_append_left _ (List.mem_of_getElem? (i := 38) rfl)))), (List.forall_mem_cons.mpr ⟨va_Nw.of rfl (hts _ (List.mem_append_right _ (List.mem_append_left _ (List.mem_of_getElem? (i := 39) rfl)))), (List.forall_mem_cons.mpr ⟨va_Nw.of rfl (hts _ (List.mem_append_right _ (List.mem_append_left _ (List.mem_of_getElem? (i := 46) rfl)))), (List.forall_mem_cons.mpr ⟨va_Nw.of rfl (hts _ (List.mem_append_right _ (List.mem_append_left _ (List.mem_of_getElem? (i := 55) rfl)))), (List.forall_mem_cons.mpr ⟨va_Nw.of rfl (hts _ (List.mem_append_right _ (List.mem_append_left _ (List.mem_of_getElem? (i := 57) rfl)))), (List.forall_mem_cons.mpr ⟨va_Nw.of rfl (hts _ (List.mem_append_right _ (List.mem_append_left _ (List.mem_of_getElem? (i := 59) rfl)))), (List.forall_mem_cons.mpr ⟨va_Nw.of rfl (hts _ (List.mem_append_right _ (List.mem_append_left _ (List.mem_of_getElem? (i := 61) rfl)))), (List.forall_mem_cons.mpr ⟨va_Nw.of rfl (hts _ (List.mem_append_right _ (List.mem_append_left _ (List.mem_of_getElem? (i := 63) rfl)))), (List.forall_mem_cons.mpr ⟨va_Nw.of rfl (hts _ (List.mem_append_right _ (List.mem_append_left _ (List.mem_of_getElem? (i := 67) rfl)))), (List.forall_mem_cons.mpr ⟨va_Nw.of rfl (hts _ (List.mem_append_right _ (List.mem_append_left _ (List.mem_of_getElem? (i := 69) rfl)))), (List.forall_mem_cons.mpr ⟨va_Nw.of rfl (hts _ (List.mem_append_right _ (List.mem_append_left _ (List.mem_of_getElem? (i := 71) rfl)))), (List.forall_mem_cons.mpr ⟨va_Nw.of rfl (hts _ (List.mem_append_right _ (List.mem_append_left _ (List.mem_of_getElem? (i := 100) rfl)))), (List.forall_mem_cons.mpr ⟨va_Nw.of rfl (hts _ (List.mem_append_right _ (List.mem_append_left _ (List.mem_of_getElem? (i := 102) rfl)))), (List.forall_mem_cons.mpr ⟨va_Nw.of rfl (hts _ (List.mem_append_right _ (List.mem_append_left _ (List.mem_of_getElem? (i := 104) rfl)))), (List.forall_mem_cons.mpr ⟨va_Nw.of rfl (hts _ (List.mem_append_right _ (List.mem_append_left _ (List.mem_of_getElem? (i := 106) rfl)))), (List.forall_mem_cons.mpr ⟨va_Nw.of rfl (hts _ (List.mem_append_right _ (List.mem_append_left _ (List.mem_of_getElem? (i := 108) rfl)))), (List.forall_mem_cons.mpr ⟨va_Nw.of rfl (hts _ (List.mem_append_right _ (List.mem_append_left _ (List.mem_of_getElem? (i := 110) rfl)))), (List.forall_mem_cons.mpr ⟨va_Nw.of rfl (hts _ (List.mem_append_right _ (List.mem_append_left _ (List.mem_of_getElem? (i := 145) rfl)))), (fun _ h => absurd h List.not_mem_nil)⟩)⟩)⟩)⟩)⟩)⟩)⟩)⟩)⟩)⟩)⟩)⟩)⟩)⟩)⟩)⟩)⟩)⟩)
theorem sn_m (hts : ∀ w ∈ lw_tbl, w.before args s = true) : ∀ q ∈ m_nm, va_Nw (.methodLinkNest q.1 q.2.1 q.2.2.1 q.2.2.2) s := (List.forall_mem_cons.mpr ⟨va_Nw.of rfl (hts _ (List.mem_append_right _ (List.mem_append_left _ (List.mem_of_getElem? (i := 238) rfl)))), (List.forall_mem_cons.mpr ⟨va_Nw.of rfl (hts _ (List.mem_append_right _ (List.mem_append_right _ (List.mem_append_right _ (List.mem_of_getElem? (i := 52) rfl))))), (fun _ h => absurd h List.not_mem_nil)⟩)⟩)
set_option maxRecDepth 100000 in
/-- all that the entry gives: the addresses, and the facts -/
theorem st_all (hts : ∀ w ∈ lw_tbl, w.before args s = true) (hN : narrow_1.before args s = true) : ∃ st : m_T, m_EV st (fun q : Nat => s.heap.size ≤ q) s s.heap ∧ ∀ k, k < 3 → m_cst s (st.2 k) (m_len k) (m_tab k) s.heap := by
  obtain ⟨t0, e0, h0⟩ := st_0 hN
  obtain ⟨t1, e1, h1⟩ := st_1 hN
  obtain ⟨t2, e2, h2⟩ := st_2 hN
  have hA : ∀ a : Nat, a < s.heap.size → ¬ (fun q : Nat => s.heap.size ≤ q) a := fun a ha => Nat.not_le.mpr ha
  refine ⟨((fun _ => 0), fun k => if k = 0 then t0 else if k = 1 then t1 else t2), ⟨sn_f hts, sn_m hts, ?_, ?_⟩, ?_⟩
  · exact (List.forall_mem_cons.mpr ⟨va_Zof (hts _ (List.mem_append_right _ (List.mem_append_left _ (List.mem_of_getElem? (i := 47) rfl)))) (hts _ (List.mem_append_right _ (List.mem_append_left _ (List.mem_of_getElem? (i := 1) rfl)))) e0 hA, (List.forall_mem_cons.mpr ⟨va_Zof (hts _ (List.mem_append_right _ (List.mem_append_right _ (List.mem_append_right _ (List.mem_of_getElem? (i := 23) rfl))))) (hts _ (List.mem_append_right _ (List.mem_append_left _ (List.mem_of_getElem? (i := 1) rfl)))) e1 hA, (List.forall_mem_cons.mpr ⟨va_Zof (hts _ (List.mem_append_right _ (List.mem_append_right _ (List.mem_append_right _ (List.mem_of_getElem? (i := 25) rfl))))) (hts _ (List.mem_append_right _ (List.mem_append_left _ (List.mem_of_getElem? (i := 1) rfl)))) e2 hA, (fun _ h => absurd h List.not_mem_nil)⟩)⟩)⟩)
  · exact va_AO.of (hts _ (List.mem_append_right _ (List.mem_append_left _ (List.mem_of_getElem? (i := 140) rfl))))
  · intro k hk
    match k, hk with
    | 0, _ => obtain ⟨c, k1, k2, k3, k4, k5, k6, _⟩ := h0; exact ⟨c, k1, k2, k3, k4, k5, k6⟩
    | 1, _ => obtain ⟨c, k1, k2, k3, k4, k5, k6, _⟩ := h1; exact ⟨c, k1, k2, k3, k4, k5, k6⟩
    | 2, _ => obtain ⟨c, k1, k2, k3, k4, k5, k6, _⟩ := h2; exact ⟨c, k1, k2, k3, k4, k5, k6⟩
    | k + 3, h9 => exact absurd h9 (by omega)
end
