theorem sb_l {a b : Cond} {args : Array Value} {s : State} (h : (Cond.and a b).before args s = true) : a.before args s = true := by rw [Cond.before_and, Bool.and_eq_true] at h; exact h.1
theorem sb_r {a b : Cond} {args : Array Value} {s : State} (h : (Cond.and a b).before args s = true) : b.before args s = true := by rw [Cond.before_and, Bool.and_eq_true] at h; exact h.2
def m_len (k : Nat) : Nat := if k = 3 then 4 else 6
def m_tab (k : Nat) : Nat → Int32 := fun j => match k with
  | 0 => ([180, 60, 420, 120, 700, 2800] : List Int32).getD j 0
  | 1 => ([0, 0, 0, 1, 0, 0] : List Int32).getD j 0
  | 2 => ([999, 999, 999, 1439, 9999, 9999] : List Int32).getD j 0
  | _ => ([0, 6, 7, 27] : List Int32).getD j 0
section
variable {args : Array Value} {s : State}
set_option maxRecDepth 100000 in
theorem st_0 (hN : narrow_1.before args s = true) : ∃ t : Nat, (Term.static "CapWallets" "FIRST_VALUES" "[I").eval args s none [] s = some (.ref t) ∧ va_T .int t 6 (fun j => .int (m_tab 0 j)) (fun q : Nat => s.heap.size ≤ q) s s.heap := by
  refine va_Tof (by decide) (sb_l (sb_l (sb_r (sb_l (sb_l (sb_l (sb_l (sb_l (sb_l hN))))))))) (va_eqt (sb_r (sb_l (sb_r (sb_l (sb_l (sb_l (sb_l (sb_l (sb_l hN)))))))))) (fun j hj => ?_) (fun a ha => Nat.not_le.mpr ha)
  · match j, hj with
    | 0, _ => exact va_eqt (sb_l (sb_r (sb_r (sb_l (sb_l (sb_l (sb_l (sb_l (sb_l hN)))))))))
    | 1, _ => exact va_eqt (sb_r (sb_r (sb_r (sb_l (sb_l (sb_l (sb_l (sb_l (sb_l hN)))))))))
    | 2, _ => exact va_eqt (sb_l (sb_l (sb_l (sb_r (sb_l (sb_l (sb_l (sb_l (sb_l hN)))))))))
    | 3, _ => exact va_eqt (sb_r (sb_l (sb_l (sb_r (sb_l (sb_l (sb_l (sb_l (sb_l hN)))))))))
    | 4, _ => exact va_eqt (sb_l (sb_r (sb_l (sb_r (sb_l (sb_l (sb_l (sb_l (sb_l hN)))))))))
    | 5, _ => exact va_eqt (sb_r (sb_r (sb_l (sb_r (sb_l (sb_l (sb_l (sb_l (sb_l hN)))))))))
    | j + 6, h9 => exact absurd h9 (by omega)
set_option maxRecDepth 100000 in
theorem st_1 (hN : narrow_1.before args s = true) : ∃ t : Nat, (Term.static "CapWallets" "LEAST_VALUES" "[I").eval args s none [] s = some (.ref t) ∧ va_T .int t 6 (fun j => .int (m_tab 1 j)) (fun q : Nat => s.heap.size ≤ q) s s.heap := by
  refine va_Tof (by decide) (sb_l (sb_r (sb_r (sb_l (sb_r (sb_l (sb_l (sb_l (sb_l hN))))))))) (va_eqt (sb_r (sb_r (sb_r (sb_l (sb_r (sb_l (sb_l (sb_l (sb_l hN)))))))))) (fun j hj => ?_) (fun a ha => Nat.not_le.mpr ha)
  · match j, hj with
    | 0, _ => exact va_eqt (sb_l (sb_l (sb_l (sb_r (sb_r (sb_l (sb_l (sb_l (sb_l hN)))))))))
    | 1, _ => exact va_eqt (sb_r (sb_l (sb_l (sb_r (sb_r (sb_l (sb_l (sb_l (sb_l hN)))))))))
    | 2, _ => exact va_eqt (sb_l (sb_r (sb_l (sb_r (sb_r (sb_l (sb_l (sb_l (sb_l hN)))))))))
    | 3, _ => exact va_eqt (sb_r (sb_r (sb_l (sb_r (sb_r (sb_l (sb_l (sb_l (sb_l hN)))))))))
    | 4, _ => exact va_eqt (sb_l (sb_l (sb_r (sb_r (sb_r (sb_l (sb_l (sb_l (sb_l hN)))))))))
    | 5, _ => exact va_eqt (sb_r (sb_l (sb_r (sb_r (sb_r (sb_l (sb_l (sb_l (sb_l hN)))))))))
    | j + 6, h9 => exact absurd h9 (by omega)
set_option maxRecDepth 100000 in
theorem st_2 (hN : narrow_1.before args s = true) : ∃ t : Nat, (Term.static "CapWallets" "MOST_VALUES" "[I").eval args s none [] s = some (.ref t) ∧ va_T .int t 6 (fun j => .int (m_tab 2 j)) (fun q : Nat => s.heap.size ≤ q) s s.heap := by
  refine va_Tof (by decide) (sb_r (sb_r (sb_r (sb_r (sb_r (sb_l (sb_l (sb_l (sb_l hN))))))))) (va_eqt (sb_l (sb_l (sb_l (sb_l (sb_l (sb_r (sb_l (sb_l (sb_l hN)))))))))) (fun j hj => ?_) (fun a ha => Nat.not_le.mpr ha)
  · match j, hj with
    | 0, _ => exact va_eqt (sb_r (sb_l (sb_l (sb_l (sb_l (sb_r (sb_l (sb_l (sb_l hN)))))))))
    | 1, _ => exact va_eqt (sb_l (sb_r (sb_l (sb_l (sb_l (sb_r (sb_l (sb_l (sb_l hN)))))))))
    | 2, _ => exact va_eqt (sb_r (sb_r (sb_l (sb_l (sb_l (sb_r (sb_l (sb_l (sb_l hN)))))))))
    | 3, _ => exact va_eqt (sb_l (sb_l (sb_r (sb_l (sb_l (sb_r (sb_l (sb_l (sb_l hN)))))))))
    | 4, _ => exact va_eqt (sb_r (sb_l (sb_r (sb_l (sb_l (sb_r (sb_l (sb_l (sb_l hN)))))))))
    | 5, _ => exact va_eqt (sb_l (sb_r (sb_r (sb_l (sb_l (sb_r (sb_l (sb_l (sb_l hN)))))))))
    | j + 6, h9 => exact absurd h9 (by omega)
set_option maxRecDepth 100000 in
theorem st_3 (hN : narrow_1.before args s = true) : ∃ t : Nat, (Term.static "CapWallets" "HASHED_DAYS" "[I").eval args s none [] s = some (.ref t) ∧ va_T .int t 4 (fun j => .int (m_tab 3 j)) (fun q : Nat => s.heap.size ≤ q) s s.heap := by
  refine va_Tof (by decide) (sb_r (sb_l (sb_r (sb_r (sb_l (sb_l (sb_l (sb_l (sb_l hN))))))))) (va_eqt (sb_l (sb_r (sb_r (sb_r (sb_l (sb_l (sb_l (sb_l (sb_l hN)))))))))) (fun j hj => ?_) (fun a ha => Nat.not_le.mpr ha)
  · match j, hj with
    | 0, _ => exact va_eqt (sb_r (sb_r (sb_r (sb_r (sb_l (sb_l (sb_l (sb_l (sb_l hN)))))))))
    | 1, _ => exact va_eqt (sb_l (sb_l (sb_l (sb_l (sb_r (sb_l (sb_l (sb_l (sb_l hN)))))))))
    | 2, _ => exact va_eqt (sb_r (sb_l (sb_l (sb_l (sb_r (sb_l (sb_l (sb_l (sb_l hN)))))))))
    | 3, _ => exact va_eqt (sb_l (sb_r (sb_l (sb_l (sb_r (sb_l (sb_l (sb_l (sb_l hN)))))))))
    | j + 4, h9 => exact absurd h9 (by omega)
set_option maxRecDepth 100000 in
theorem sx_74 (hN : narrow_1.before args s = true) : ∃ a : Nat, (Term.string "CapWallets" 74).eval args s none [] s = some (.ref a) := by
  obtain ⟨a, _, _, _, q1, _⟩ := Cond.exactly_spec (args := args) (first := s) (o := none) (s := s) (idx := []) (t := Term.string "CapWallets" 74) (cls := "java/lang/String") (sb_l (sb_r (sb_l (sb_l (sb_l (sb_l (sb_r (sb_l (sb_l hN)))))))))
  exact ⟨a, q1⟩
set_option maxRecDepth 100000 in
theorem sx_84 (hN : narrow_1.before args s = true) : ∃ a : Nat, (Term.string "CapWallets" 84).eval args s none [] s = some (.ref a) := by
  obtain ⟨a, _, _, _, q1, _⟩ := Cond.exactly_spec (args := args) (first := s) (o := none) (s := s) (idx := []) (t := Term.string "CapWallets" 84) (cls := "java/lang/String") (sb_r (sb_l (sb_l (sb_l (sb_l (sb_r (sb_r (sb_l (sb_l hN)))))))))
  exact ⟨a, q1⟩
set_option maxRecDepth 100000 in
theorem sx_110 (hN : narrow_1.before args s = true) : ∃ a : Nat, (Term.string "CapWallets" 110).eval args s none [] s = some (.ref a) := by
  obtain ⟨a, _, _, _, q1, _⟩ := Cond.exactly_spec (args := args) (first := s) (o := none) (s := s) (idx := []) (t := Term.string "CapWallets" 110) (cls := "java/lang/String") (sb_r (sb_r (sb_r (sb_l (sb_r (sb_r (sb_r (sb_l (sb_l hN)))))))))
  exact ⟨a, q1⟩
set_option maxRecDepth 100000 in
theorem sx_117 (hN : narrow_1.before args s = true) : ∃ a : Nat, (Term.string "CapWallets" 117).eval args s none [] s = some (.ref a) := by
  obtain ⟨a, _, _, _, q1, _⟩ := Cond.exactly_spec (args := args) (first := s) (o := none) (s := s) (idx := []) (t := Term.string "CapWallets" 117) (cls := "java/lang/String") (sb_l (sb_r (sb_l (sb_l (sb_r (sb_l (sb_l (sb_r (sb_l hN)))))))))
  exact ⟨a, q1⟩
set_option maxRecDepth 100000 in
theorem sx_133 (hN : narrow_1.before args s = true) : ∃ a : Nat, (Term.string "CapWallets" 133).eval args s none [] s = some (.ref a) := by
  obtain ⟨a, _, _, _, q1, _⟩ := Cond.exactly_spec (args := args) (first := s) (o := none) (s := s) (idx := []) (t := Term.string "CapWallets" 133) (cls := "java/lang/String") (sb_l (sb_r (sb_l (sb_r (sb_r (sb_r (sb_l (sb_r (sb_l hN)))))))))
  exact ⟨a, q1⟩
set_option maxRecDepth 100000 in
theorem sx_143 (hN : narrow_1.before args s = true) : ∃ a : Nat, (Term.string "CapWallets" 143).eval args s none [] s = some (.ref a) := by
  obtain ⟨a, _, _, _, q1, _⟩ := Cond.exactly_spec (args := args) (first := s) (o := none) (s := s) (idx := []) (t := Term.string "CapWallets" 143) (cls := "java/lang/String") (sb_l (sb_r (sb_r (sb_l (sb_r (sb_l (sb_r (sb_r (sb_l hN)))))))))
  exact ⟨a, q1⟩
set_option maxRecDepth 100000 in
theorem sx_157 (hN : narrow_1.before args s = true) : ∃ a : Nat, (Term.string "CapWallets" 157).eval args s none [] s = some (.ref a) := by
  obtain ⟨a, _, _, _, q1, _⟩ := Cond.exactly_spec (args := args) (first := s) (o := none) (s := s) (idx := []) (t := Term.string "CapWallets" 157) (cls := "java/lang/String") (sb_r (sb_r (sb_r (sb_l (sb_r (sb_r (sb_r (sb_r (sb_l hN)))))))))
  exact ⟨a, q1⟩
set_option maxRecDepth 100000 in
theorem sx_163 (hN : narrow_1.before args s = true) : ∃ a : Nat, (Term.string "CapWallets" 163).eval args s none [] s = some (.ref a) := by
  obtain ⟨a, _, _, _, q1, _⟩ := Cond.exactly_spec (args := args) (first := s) (o := none) (s := s) (idx := []) (t := Term.string "CapWallets" 163) (cls := "java/lang/String") (sb_r (sb_r (sb_r (sb_l (sb_r (sb_l (sb_l (sb_l (sb_r hN)))))))))
  exact ⟨a, q1⟩
set_option maxRecDepth 100000 in
theorem sx_165 (hN : narrow_1.before args s = true) : ∃ a : Nat, (Term.string "CapWallets" 165).eval args s none [] s = some (.ref a) := by
  obtain ⟨a, _, _, _, q1, _⟩ := Cond.exactly_spec (args := args) (first := s) (o := none) (s := s) (idx := []) (t := Term.string "CapWallets" 165) (cls := "java/lang/String") (sb_r (sb_r (sb_r (sb_l (sb_r (sb_r (sb_l (sb_l (sb_r hN)))))))))
  exact ⟨a, q1⟩
set_option maxRecDepth 100000 in
theorem sx_174 (hN : narrow_1.before args s = true) : ∃ a : Nat, (Term.string "CapWallets" 174).eval args s none [] s = some (.ref a) := by
  obtain ⟨a, _, _, _, q1, _⟩ := Cond.exactly_spec (args := args) (first := s) (o := none) (s := s) (idx := []) (t := Term.string "CapWallets" 174) (cls := "java/lang/String") (sb_r (sb_r (sb_r (sb_r (sb_r (sb_l (sb_r (sb_l (sb_r hN)))))))))
  exact ⟨a, q1⟩
set_option maxRecDepth 100000 in
theorem sx_182 (hN : narrow_1.before args s = true) : ∃ a : Nat, (Term.string "CapWallets" 182).eval args s none [] s = some (.ref a) := by
  obtain ⟨a, _, _, _, q1, _⟩ := Cond.exactly_spec (args := args) (first := s) (o := none) (s := s) (idx := []) (t := Term.string "CapWallets" 182) (cls := "java/lang/String") (sb_l (sb_l (sb_r (sb_l (sb_r (sb_l (sb_l (sb_r (sb_r hN)))))))))
  exact ⟨a, q1⟩
set_option maxRecDepth 100000 in
theorem sx_187 (hN : narrow_1.before args s = true) : ∃ a : Nat, (Term.string "CapWallets" 187).eval args s none [] s = some (.ref a) := by
  obtain ⟨a, _, _, _, q1, _⟩ := Cond.exactly_spec (args := args) (first := s) (o := none) (s := s) (idx := []) (t := Term.string "CapWallets" 187) (cls := "java/lang/String") (sb_r (sb_l (sb_l (sb_r (sb_r (sb_r (sb_l (sb_r (sb_r hN)))))))))
  exact ⟨a, q1⟩
set_option maxRecDepth 100000 in
theorem sx_198 (hN : narrow_1.before args s = true) : ∃ a : Nat, (Term.string "CapWallets" 198).eval args s none [] s = some (.ref a) := by
  obtain ⟨a, _, _, _, q1, _⟩ := Cond.exactly_spec (args := args) (first := s) (o := none) (s := s) (idx := []) (t := Term.string "CapWallets" 198) (cls := "java/lang/String") (sb_l (sb_r (sb_l (sb_r (sb_r (sb_l (sb_r (sb_r (sb_r hN)))))))))
  exact ⟨a, q1⟩
theorem sn_f (hts : ∀ w ∈ lw_tbl, w.before args s = true) : ∀ q ∈ m_nf, va_Nw (.fieldLinkNest q.1 q.2.1 q.2.2.1 q.2.2.2.1 q.2.2.2.2.1 q.2.2.2.2.2) s := (List.forall_mem_cons.mpr ⟨va_Nw.of rfl (hts _ (List.mem_append_right _ (List.mem_append_left _ (List.mem_of_getElem? (i := 40) rfl)))), (List.forall_mem_cons.mpr ⟨va_Nw.of rfl (hts _ (List.mem_append_right _ (List.mem_append_left _ (List.mem_of_getElem? (i := 41) rfl)))), (List.forall_mem_cons.mpr ⟨va_Nw.of rfl (hts _ (List.mem_append_right _ (List.mem_append_left _ (List.mem_of_getElem? (i := 48) rfl)))), (List.forall_mem_cons.mpr ⟨va_Nw.of rfl (hts _ (List.mem_append_right _ (List.mem_append_left _ (List.mem_of_getElem? (i := 57) rfl)))), (List.forall_mem_cons.mpr ⟨va_Nw.of rfl (hts _ (List.mem_append_right _ (List.mem_append_left _ (List.mem_of_getElem? (i := 59) rfl)))), (List.forall_mem_cons.mpr ⟨va_Nw.of rfl (hts _ (List.mem_append_right _ (List.mem_append_left _ (List.mem_of_getElem? (i := 61) rfl)))), (List.forall_mem_cons.mpr ⟨va_Nw.of rfl (hts _ (List.mem_append_right _ (List.mem_append_left _ (List.mem_of_getElem? (i := 63) rfl)))), (List.forall_mem_cons.mpr ⟨va_Nw.of rfl (hts _ (List.mem_append_right _ (List.mem_append_left _ (List.mem_of_getElem? (i := 65) rfl)))), (List.forall_mem_cons.mpr ⟨va_Nw.of rfl (hts _ (List.mem_append_right _ (List.mem_append_left _ (List.mem_of_getElem? (i := 69) rfl)))), (List.forall_mem_cons.mpr ⟨va_Nw.of rfl (hts _ (List.mem_append_right _ (List.mem_append_left _ (List.mem_of_getElem? (i := 71) rfl)))), (List.forall_mem_cons.mpr ⟨va_Nw.of rfl (hts _ (List.mem_append_right _ (List.mem_append_left _ (List.mem_of_getElem? (i := 73) rfl)))), (List.forall_mem_cons.mpr ⟨va_Nw.of rfl (hts _ (List.mem_append_right _ (List.mem_append_left _ (List.mem_of_getElem? (i := 102) rfl)))), (List.forall_mem_cons.mpr ⟨va_Nw.of rfl (hts _ (List.mem_append_right _ (List.mem_append_left _ (List.mem_of_getElem? (i := 104) rfl)))), (List.forall_mem_cons.mpr ⟨va_Nw.of rfl (hts _ (List.mem_append_right _ (List.mem_append_left _ (List.mem_of_getElem? (i := 106) rfl)))), (List.forall_mem_cons.mpr ⟨va_Nw.of rfl (hts _ (List.mem_append_right _ (List.mem_append_left _ (List.mem_of_getElem? (i := 108) rfl)))), (List.forall_mem_cons.mpr ⟨va_Nw.of rfl (hts _ (List.mem_append_right _ (List.mem_append_left _ (List.mem_of_getElem? (i := 110) rfl)))), (List.forall_mem_cons.mpr ⟨va_Nw.of rfl (hts _ (List.mem_append_right _ (List.mem_append_left _ (List.mem_of_getElem? (i := 112) rfl)))), (List.forall_mem_cons.mpr ⟨va_Nw.of rfl (hts _ (List.mem_append_right _ (List.mem_append_left _ (List.mem_of_getElem? (i := 147) rfl)))), (List.forall_mem_cons.mpr ⟨va_Nw.of rfl (hts _ (List.mem_append_right _ (List.mem_append_left _ (List.mem_of_getElem? (i := 164) rfl)))), (List.forall_mem_cons.mpr ⟨va_Nw.of rfl (hts _ (List.mem_append_right _ (List.mem_append_left _ (List.mem_of_getElem? (i := 166) rfl)))), (fun _ h => absurd h List.not_mem_nil)⟩)⟩)⟩)⟩)⟩)⟩)⟩)⟩)⟩)⟩)⟩)⟩)⟩)⟩)⟩)⟩)⟩)⟩)⟩)⟩)
theorem sn_m (hts : ∀ w ∈ lw_tbl, w.before args s = true) : ∀ q ∈ m_nm, va_Nw (.methodLinkNest q.1 q.2.1 q.2.2.1 q.2.2.2) s := (List.forall_mem_cons.mpr ⟨va_Nw.of rfl (hts _ (List.mem_append_right _ (List.mem_append_right _ (List.mem_append_left _ (List.mem_of_getElem? (i := 2) rfl))))), (List.forall_mem_cons.mpr ⟨va_Nw.of rfl (hts _ (List.mem_append_right _ (List.mem_append_right _ (List.mem_append_left _ (List.mem_of_getElem? (i := 53) rfl))))), (List.forall_mem_cons.mpr ⟨va_Nw.of rfl (hts _ (List.mem_append_right _ (List.mem_append_right _ (List.mem_append_left _ (List.mem_of_getElem? (i := 137) rfl))))), (List.forall_mem_cons.mpr ⟨va_Nw.of rfl (hts _ (List.mem_append_right _ (List.mem_append_right _ (List.mem_append_right _ (List.mem_append_left _ (List.mem_of_getElem? (i := 162) rfl)))))), (fun _ h => absurd h List.not_mem_nil)⟩)⟩)⟩)⟩)
set_option maxRecDepth 100000 in
theorem sn_x (hts : ∀ w ∈ lw_tbl, w.before args s = true) (hN : narrow_1.before args s = true) : m_EX s :=
  ⟨(List.forall_mem_cons.mpr ⟨va_Nw.of rfl (hts _ (List.mem_append_right _ (List.mem_append_right _ (List.mem_append_left _ (List.mem_of_getElem? (i := 231) rfl))))), (List.forall_mem_cons.mpr ⟨va_Nw.of rfl (hts _ (List.mem_append_right _ (List.mem_append_right _ (List.mem_append_right _ (List.mem_append_left _ (List.mem_of_getElem? (i := 59) rfl)))))), (List.forall_mem_cons.mpr ⟨va_Nw.of rfl (hts _ (List.mem_append_right _ (List.mem_append_right _ (List.mem_append_right _ (List.mem_append_left _ (List.mem_of_getElem? (i := 105) rfl)))))), (fun _ h => absurd h List.not_mem_nil)⟩)⟩)⟩),
   (List.forall_mem_cons.mpr ⟨va_Nw.of rfl (hts _ (List.mem_append_right _ (List.mem_append_right _ (List.mem_append_left _ (List.mem_of_getElem? (i := 233) rfl))))), (List.forall_mem_cons.mpr ⟨va_Nw.of rfl (hts _ (List.mem_append_right _ (List.mem_append_right _ (List.mem_append_left _ (List.mem_of_getElem? (i := 235) rfl))))), (List.forall_mem_cons.mpr ⟨va_Nw.of rfl (hts _ (List.mem_append_right _ (List.mem_append_right _ (List.mem_append_left _ (List.mem_of_getElem? (i := 237) rfl))))), (fun _ h => absurd h List.not_mem_nil)⟩)⟩)⟩),
   (List.forall_mem_cons.mpr ⟨va_Nc.of (sb_l (sb_r (sb_r (sb_r (sb_l (sb_r (sb_l (sb_l (sb_l hN))))))))), (List.forall_mem_cons.mpr ⟨va_Nc.of (sb_l (sb_l (sb_l (sb_l (sb_l (sb_l (sb_r (sb_l (sb_l hN))))))))), (fun _ h => absurd h List.not_mem_nil)⟩)⟩)⟩
set_option maxRecDepth 100000 in
theorem sn_s (hts : ∀ w ∈ lw_tbl, w.before args s = true) (hN : narrow_1.before args s = true) : ∃ f : Nat → Nat, ∀ q ∈ m_sl, vk_R "CapWallets" q.1 q.2 (f q.1) s := by
  obtain ⟨a74, e74⟩ := sx_74 hN
  obtain ⟨a84, e84⟩ := sx_84 hN
  obtain ⟨a110, e110⟩ := sx_110 hN
  obtain ⟨a117, e117⟩ := sx_117 hN
  obtain ⟨a133, e133⟩ := sx_133 hN
  obtain ⟨a143, e143⟩ := sx_143 hN
  obtain ⟨a157, e157⟩ := sx_157 hN
  obtain ⟨a163, e163⟩ := sx_163 hN
  obtain ⟨a165, e165⟩ := sx_165 hN
  obtain ⟨a174, e174⟩ := sx_174 hN
  obtain ⟨a182, e182⟩ := sx_182 hN
  obtain ⟨a187, e187⟩ := sx_187 hN
  obtain ⟨a198, e198⟩ := sx_198 hN
  refine ⟨fun k => if k = 74 then a74 else if k = 84 then a84 else if k = 110 then a110 else if k = 117 then a117 else if k = 133 then a133 else if k = 143 then a143 else if k = 157 then a157 else if k = 163 then a163 else if k = 165 then a165 else if k = 174 then a174 else if k = 182 then a182 else if k = 187 then a187 else if k = 198 then a198 else 0, ?_⟩
  exact (List.forall_mem_cons.mpr ⟨vk_R.of (A := args) (hts _ (List.mem_append_right _ (List.mem_append_right _ (List.mem_append_right _ (List.mem_append_left _ (List.mem_of_getElem? (i := 30) rfl)))))) e74, (List.forall_mem_cons.mpr ⟨vk_R.of (A := args) (hts _ (List.mem_append_right _ (List.mem_append_right _ (List.mem_append_right _ (List.mem_append_left _ (List.mem_of_getElem? (i := 66) rfl)))))) e84, (List.forall_mem_cons.mpr ⟨vk_R.of (A := args) (hts _ (List.mem_append_right _ (List.mem_append_right _ (List.mem_append_right _ (List.mem_append_left _ (List.mem_of_getElem? (i := 112) rfl)))))) e110, (List.forall_mem_cons.mpr ⟨vk_R.of (A := args) (hts _ (List.mem_append_right _ (List.mem_append_right _ (List.mem_append_right _ (List.mem_append_left _ (List.mem_of_getElem? (i := 130) rfl)))))) e117, (List.forall_mem_cons.mpr ⟨vk_R.of (A := args) (hts _ (List.mem_append_right _ (List.mem_append_right _ (List.mem_append_right _ (List.mem_append_left _ (List.mem_of_getElem? (i := 157) rfl)))))) e133, (List.forall_mem_cons.mpr ⟨vk_R.of (A := args) (hts _ (List.mem_append_right _ (List.mem_append_right _ (List.mem_append_right _ (List.mem_append_left _ (List.mem_of_getElem? (i := 176) rfl)))))) e143, (List.forall_mem_cons.mpr ⟨vk_R.of (A := args) (hts _ (List.mem_append_right _ (List.mem_append_right _ (List.mem_append_right _ (List.mem_append_left _ (List.mem_of_getElem? (i := 181) rfl)))))) e157, (List.forall_mem_cons.mpr ⟨vk_R.of (A := args) (hts _ (List.mem_append_right _ (List.mem_append_right _ (List.mem_append_right _ (List.mem_append_left _ (List.mem_of_getElem? (i := 190) rfl)))))) e163, (List.forall_mem_cons.mpr ⟨vk_R.of (A := args) (hts _ (List.mem_append_right _ (List.mem_append_right _ (List.mem_append_right _ (List.mem_append_left _ (List.mem_of_getElem? (i := 191) rfl)))))) e165, (List.forall_mem_cons.mpr ⟨vk_R.of (A := args) (hts _ (List.mem_append_right _ (List.mem_append_right _ (List.mem_append_right _ (List.mem_append_left _ (List.mem_of_getElem? (i := 203) rfl)))))) e174, (List.forall_mem_cons.mpr ⟨vk_R.of (A := args) (hts _ (List.mem_append_right _ (List.mem_append_right _ (List.mem_append_right _ (List.mem_append_left _ (List.mem_of_getElem? (i := 211) rfl)))))) e182, (List.forall_mem_cons.mpr ⟨vk_R.of (A := args) (hts _ (List.mem_append_right _ (List.mem_append_right _ (List.mem_append_right _ (List.mem_append_left _ (List.mem_of_getElem? (i := 223) rfl)))))) e187, (List.forall_mem_cons.mpr ⟨vk_R.of (A := args) (hts _ (List.mem_append_right _ (List.mem_append_right _ (List.mem_append_right _ (List.mem_append_right _ (List.mem_append_left _ (List.mem_of_getElem? (i := 5) rfl))))))) e198, (fun _ h => absurd h List.not_mem_nil)⟩)⟩)⟩)⟩)⟩)⟩)⟩)⟩)⟩)⟩)⟩)⟩)⟩)
set_option maxRecDepth 100000 in
/-- all that the entry gives: the addresses, and the facts -/
theorem st_all (hts : ∀ w ∈ lw_tbl, w.before args s = true) (hN : narrow_1.before args s = true) : ∃ st : m_T, m_EV st (fun q : Nat => s.heap.size ≤ q) s s.heap ∧ ∀ k, k < 4 → m_cst s (st.2 k) (m_len k) (m_tab k) s.heap := by
  obtain ⟨f, hf⟩ := sn_s hts hN
  obtain ⟨t0, e0, h0⟩ := st_0 hN
  obtain ⟨t1, e1, h1⟩ := st_1 hN
  obtain ⟨t2, e2, h2⟩ := st_2 hN
  obtain ⟨t3, e3, h3⟩ := st_3 hN
  have hA : ∀ a : Nat, a < s.heap.size → ¬ (fun q : Nat => s.heap.size ≤ q) a := fun a ha => Nat.not_le.mpr ha
  refine ⟨(f, fun k => if k = 0 then t0 else if k = 1 then t1 else if k = 2 then t2 else t3), ⟨sn_f hts, sn_m hts, hf, ?_, ?_, ?_, ?_, sn_x hts hN⟩, ?_⟩
  · exact (List.forall_mem_cons.mpr ⟨va_Zof (hts _ (List.mem_append_right _ (List.mem_append_left _ (List.mem_of_getElem? (i := 49) rfl)))) (hts _ (List.mem_append_right _ (List.mem_append_left _ (List.mem_of_getElem? (i := 1) rfl)))) e0 hA, (List.forall_mem_cons.mpr ⟨va_Zof (hts _ (List.mem_append_right _ (List.mem_append_right _ (List.mem_append_right _ (List.mem_append_left _ (List.mem_of_getElem? (i := 178) rfl)))))) (hts _ (List.mem_append_right _ (List.mem_append_left _ (List.mem_of_getElem? (i := 1) rfl)))) e1 hA, (List.forall_mem_cons.mpr ⟨va_Zof (hts _ (List.mem_append_right _ (List.mem_append_right _ (List.mem_append_right _ (List.mem_append_left _ (List.mem_of_getElem? (i := 180) rfl)))))) (hts _ (List.mem_append_right _ (List.mem_append_left _ (List.mem_of_getElem? (i := 1) rfl)))) e2 hA, (List.forall_mem_cons.mpr ⟨va_Zof (hts _ (List.mem_append_right _ (List.mem_append_right _ (List.mem_append_left _ (List.mem_of_getElem? (i := 156) rfl))))) (hts _ (List.mem_append_right _ (List.mem_append_left _ (List.mem_of_getElem? (i := 1) rfl)))) e3 hA, (fun _ h => absurd h List.not_mem_nil)⟩)⟩)⟩)⟩)
  · exact vx_Zqof (hts _ (List.mem_append_right _ (List.mem_append_right _ (List.mem_append_right _ (List.mem_append_left _ (List.mem_of_getElem? (i := 16) rfl)))))) (hts _ (List.mem_append_right _ (List.mem_append_left _ (List.mem_of_getElem? (i := 11) rfl)))) (sb_r (sb_r (sb_l (sb_l (sb_r (sb_l (sb_l (sb_l (sb_l hN))))))))) hA
  · exact vx_Zqof (hts _ (List.mem_append_right _ (List.mem_append_right _ (List.mem_append_right _ (List.mem_append_left _ (List.mem_of_getElem? (i := 18) rfl)))))) (hts _ (List.mem_append_right _ (List.mem_append_left _ (List.mem_of_getElem? (i := 11) rfl)))) (sb_l (sb_l (sb_r (sb_l (sb_r (sb_l (sb_l (sb_l (sb_l hN))))))))) hA
  · exact va_AO.of (hts _ (List.mem_append_right _ (List.mem_append_left _ (List.mem_of_getElem? (i := 142) rfl))))
  · intro k hk
    match k, hk with
    | 0, _ => obtain ⟨c, k1, k2, k3, k4, k5, k6, _⟩ := h0; exact ⟨c, k1, k2, k3, k4, k5, k6⟩
    | 1, _ => obtain ⟨c, k1, k2, k3, k4, k5, k6, _⟩ := h1; exact ⟨c, k1, k2, k3, k4, k5, k6⟩
    | 2, _ => obtain ⟨c, k1, k2, k3, k4, k5, k6, _⟩ := h2; exact ⟨c, k1, k2, k3, k4, k5, k6⟩
    | 3, _ => obtain ⟨c, k1, k2, k3, k4, k5, k6, _⟩ := h3; exact ⟨c, k1, k2, k3, k4, k5, k6⟩
    | k + 4, h9 => exact absurd h9 (by omega)
end
