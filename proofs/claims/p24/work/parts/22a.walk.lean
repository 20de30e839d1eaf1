/-! the machine does it: laid by program -/
/-! L_cell -/
abbrev rm_L_cell : Room := { frames := 0, cells := 0, slots := 0, locals := 0 }
theorem yk_L_cell : m_K yL_cell cL_cell 2 (some .int) 2 := ⟨wm_1_184, wm_0_0, by decide +kernel⟩
theorem ys_L_cell : Cond.static yL_cell ∈ wT := wm_1_183
set_option maxRecDepth 100000 in
set_option maxHeartbeats 4000000 in
theorem k_L_cell_b24 {p : Program} {l : Launch} {e : Env} {s : State} {m : MethodId} {args : Array Value} {below : List Frame} {meth : Method} {c : Code} {D : va_G} {ids : m_I3} {st : m_T} {A : Nat → Prop} {z : Nat} {r : Int32} (hx : p.tables.exec = Jvm.exec) (hb : c.code = cL_cell) (hr : meth.sig.returnType = some .int) (hml : c.maxLocals = 2) (hown : s.vm.findClass RL = some m.cls) (hts : ∀ w ∈ (m_ws yL_cell cL_cell 2 (some .int)), w.before args s = true) (hlocks : meth.locks = false) (hin : meth.name = yL_cell.name) (hE : m_EV st A s s.heap) (hA : ∀ q, s.heap.size ≤ q → A q) {h : mH} (t0 : Int32) (H : Heap) (locs : List Loc) (ls : Array Slot) (hrun : s_L_cell_b24 h t0 = some r) (hR : Rl D ids A h s H) (hz : H.size = z) (hS : va_S A s.heap H locs) (hl : lv_has ls 2 []) : W p l e rm_L_cell s m args below meth c H locs 0 0 (MQ below (mQi D ids A r h z) args s 0 0 A) (F0 m 24 ls [.int t0]) := by
  unfold s_L_cell_b24 at hrun
  obtain rfl := Option.some.inj hrun
  exact mr_iret hx hb hr hlocks hR hz hS dL_cell_24
set_option maxRecDepth 100000 in
set_option maxHeartbeats 4000000 in
theorem c_L_cell (l : Launch) (D : va_G) (ids : m_I3) (st : m_T) (z : Nat) {h : mH} {v0 : Nat} {v1 : Int32} {r : Int32} (hrun : s_L_cell h v0 v1 = some r) : Met l yL_cell (m_ws yL_cell cL_cell 2 (some .int)) rm_L_cell (mPc D ids st [.ref v0, .int v1] h z) (mQi D ids (m_A h z) r h z) rm_L_cell.cells rm_L_cell.slots (m_A h z) := by
  refine mr_of (cc := cL_cell) (maxL := 2) (ret := some .int) (by decide) rfl (Nat.le_of_ble_eq_true rfl) ?_
  intro p e s m below meth c ls hx hb hr hml hown hts hlocks hin hR hE hz hl
  have hA : ∀ q, s.heap.size ≤ q → m_A h z q := fun q hq => Or.inr (by rw [← hz]; exact hq)
  have hS : va_S (m_A h z) s.heap s.heap [] := va_S.rf
  have hl : lv_has ls 2 [(0, .ref v0), (1, .int v1)] := hl
  unfold s_L_cell at hrun
  refine lv_iload_n hx hb dL_cell_0 rfl (lv_at hl 1 rfl) ?_
  refine lv_aload_n hx hb dL_cell_1 rfl (lv_at hl 0 rfl) ?_
  obtain ⟨x2, hc9, hrun⟩ := m_bind hrun
  refine mr_ilen hx hb hR hc9 dL_cell_2 ?_
  refine lv_icmp_ge (tgt := 12) hx hb dL_cell_3 (by decide) (fun hc => ?_) (fun hc => ?_)
  · have hrun := mt_t hrun hc
    refine lv_sipush (v := 7919) hx hb dL_cell_12 (by decide) ?_
    refine lv_iload_n hx hb dL_cell_15 rfl (lv_at hl 1 rfl) ?_
    refine lv_iconst (v := 3) hx hb dL_cell_16 (by decide) ?_
    refine lv_iadd hx hb dL_cell_17 ?_
    refine lv_imul hx hb dL_cell_18 ?_
    refine lv_iload_n hx hb dL_cell_19 rfl (lv_at hl 1 rfl) ?_
    refine lv_bipush (v := 11) hx hb dL_cell_20 (by decide) ?_
    refine lv_iadd hx hb dL_cell_22 ?_
    refine lv_imul hx hb dL_cell_23 ?_
    exact k_L_cell_b24 hx hb hr hml hown hts hlocks hin hE hA _ _ _ _ hrun hR hz hS (lv_sub hl [] rfl)
  · have hrun := mt_f hrun hc
    refine lv_aload_n hx hb dL_cell_6 rfl (lv_at hl 0 rfl) ?_
    refine lv_iload_n hx hb dL_cell_7 rfl (lv_at hl 1 rfl) ?_
    obtain ⟨x8, hc9, hrun⟩ := m_bind hrun
    refine mr_iald hx hb hR hc9 dL_cell_8 ?_
    refine lv_goto (tgt := 24) hx hb dL_cell_9 (by decide) ?_
    exact k_L_cell_b24 hx hb hr hml hown hts hlocks hin hE hA _ _ _ _ hrun hR hz hS (lv_sub hl [] rfl)
/-! L_low -/
abbrev rm_L_low : Room := { frames := 0, cells := 0, slots := 0, locals := 0 }
theorem yk_L_low : m_K yL_low cL_low 2 (some .int) 2 := ⟨wm_2_15, wm_0_0, by decide +kernel⟩
theorem ys_L_low : Cond.static yL_low ∈ wT := wm_2_14
set_option maxRecDepth 100000 in
set_option maxHeartbeats 4000000 in
theorem c_L_low (l : Launch) (D : va_G) (ids : m_I3) (st : m_T) (z : Nat) {h : mH} {v0 : Int32} {v1 : Int32} {r : Int32} (hrun : s_L_low h v0 v1 = some r) : Met l yL_low (m_ws yL_low cL_low 2 (some .int)) rm_L_low (mPc D ids st [.int v0, .int v1] h z) (mQi D ids (m_A h z) r h z) rm_L_low.cells rm_L_low.slots (m_A h z) := by
  refine mr_of (cc := cL_low) (maxL := 2) (ret := some .int) (by decide) rfl (Nat.le_of_ble_eq_true rfl) ?_
  intro p e s m below meth c ls hx hb hr hml hown hts hlocks hin hR hE hz hl
  have hA : ∀ q, s.heap.size ≤ q → m_A h z q := fun q hq => Or.inr (by rw [← hz]; exact hq)
  have hS : va_S (m_A h z) s.heap s.heap [] := va_S.rf
  have hl : lv_has ls 2 [(0, .int v0), (1, .int v1)] := hl
  unfold s_L_low at hrun
  refine lv_iload_n hx hb dL_low_0 rfl (lv_at hl 0 rfl) ?_
  refine lv_ldc (v := 2147483647) hx hb hown (hts _ (m_ws_in wm_2_16)) dL_low_1 ?_
  refine lv_iand hx hb dL_low_3 ?_
  refine lv_iload_n hx hb dL_low_4 rfl (lv_at hl 1 rfl) ?_
  obtain ⟨x5, hc9, hrun⟩ := m_bind hrun
  obtain ⟨hn9, rfl⟩ := m_rem_spec hc9
  refine lv_irem hx hb dL_low_5 hn9 ?_
  refine lv_topi (fun x5 ex5 => ?_)
  try rw [← ex5] at hrun
  obtain rfl := Option.some.inj hrun
  exact mr_iret hx hb hr hlocks hR hz hS dL_low_6
/-! X7_isBelow -/
abbrev rm_X7_isBelow : Room := { frames := 0, cells := 0, slots := 0, locals := 0 }
theorem yk_X7_isBelow : m_K yX7_isBelow cX7_isBelow 2 (some .boolean) 2 := ⟨wm_1_131, wm_0_1, by decide +kernel⟩
theorem ys_X7_isBelow : Cond.static yX7_isBelow ∈ wT := wm_1_130
set_option maxRecDepth 100000 in
set_option maxHeartbeats 4000000 in
theorem k_X7_isBelow_b14 {p : Program} {l : Launch} {e : Env} {s : State} {m : MethodId} {args : Array Value} {below : List Frame} {meth : Method} {c : Code} {D : va_G} {ids : m_I3} {st : m_T} {A : Nat → Prop} {z : Nat} {r : Int32} (hx : p.tables.exec = Jvm.exec) (hb : c.code = cX7_isBelow) (hr : meth.sig.returnType = some .boolean) (hml : c.maxLocals = 2) (hown : s.vm.findClass RX7 = some m.cls) (hts : ∀ w ∈ (m_ws yX7_isBelow cX7_isBelow 2 (some .boolean)), w.before args s = true) (hlocks : meth.locks = false) (hin : meth.name = yX7_isBelow.name) (hE : m_EV st A s s.heap) (hA : ∀ q, s.heap.size ≤ q → A q) {h : mH} (t0 : Int32) (H : Heap) (locs : List Loc) (ls : Array Slot) (hrun : s_X7_isBelow_b14 h t0 = some r) (hR : Rl D ids A h s H) (hz : H.size = z) (hS : va_S A s.heap H locs) (hl : lv_has ls 2 []) : W p l e rm_X7_isBelow s m args below meth c H locs 0 0 (MQ below (mQi D ids A r h z) args s 0 0 A) (F0 m 14 ls [.int t0]) := by
  unfold s_X7_isBelow_b14 at hrun
  obtain ⟨w9, hzr, hrun⟩ := m_bind hrun
  obtain rfl := Option.some.inj hrun
  exact mr_zret hzr hx hb hr hlocks hR hz hS dX7_isBelow_14
set_option maxRecDepth 100000 in
set_option maxHeartbeats 4000000 in
theorem k_X7_isBelow_b13 {p : Program} {l : Launch} {e : Env} {s : State} {m : MethodId} {args : Array Value} {below : List Frame} {meth : Method} {c : Code} {D : va_G} {ids : m_I3} {st : m_T} {A : Nat → Prop} {z : Nat} {r : Int32} (hx : p.tables.exec = Jvm.exec) (hb : c.code = cX7_isBelow) (hr : meth.sig.returnType = some .boolean) (hml : c.maxLocals = 2) (hown : s.vm.findClass RX7 = some m.cls) (hts : ∀ w ∈ (m_ws yX7_isBelow cX7_isBelow 2 (some .boolean)), w.before args s = true) (hlocks : meth.locks = false) (hin : meth.name = yX7_isBelow.name) (hE : m_EV st A s s.heap) (hA : ∀ q, s.heap.size ≤ q → A q) {h : mH} (H : Heap) (locs : List Loc) (ls : Array Slot) (hrun : s_X7_isBelow_b13 h  = some r) (hR : Rl D ids A h s H) (hz : H.size = z) (hS : va_S A s.heap H locs) (hl : lv_has ls 2 []) : W p l e rm_X7_isBelow s m args below meth c H locs 0 0 (MQ below (mQi D ids A r h z) args s 0 0 A) (F0 m 13 ls []) := by
  unfold s_X7_isBelow_b13 at hrun
  refine lv_iconst (v := 0) hx hb dX7_isBelow_13 (by decide) ?_
  exact k_X7_isBelow_b14 hx hb hr hml hown hts hlocks hin hE hA _ _ _ _ hrun hR hz hS (lv_sub hl [] rfl)
set_option maxRecDepth 100000 in
set_option maxHeartbeats 4000000 in
theorem c_X7_isBelow (l : Launch) (D : va_G) (ids : m_I3) (st : m_T) (z : Nat) {h : mH} {v0 : Int32} {v1 : Int32} {r : Int32} (hrun : s_X7_isBelow h v0 v1 = some r) : Met l yX7_isBelow (m_ws yX7_isBelow cX7_isBelow 2 (some .boolean)) rm_X7_isBelow (mPc D ids st [.int v0, .int v1] h z) (mQi D ids (m_A h z) r h z) rm_X7_isBelow.cells rm_X7_isBelow.slots (m_A h z) := by
  refine mr_of (cc := cX7_isBelow) (maxL := 2) (ret := some .boolean) (by decide) rfl (Nat.le_of_ble_eq_true rfl) ?_
  intro p e s m below meth c ls hx hb hr hml hown hts hlocks hin hR hE hz hl
  have hA : ∀ q, s.heap.size ≤ q → m_A h z q := fun q hq => Or.inr (by rw [← hz]; exact hq)
  have hS : va_S (m_A h z) s.heap s.heap [] := va_S.rf
  have hl : lv_has ls 2 [(0, .int v0), (1, .int v1)] := hl
  unfold s_X7_isBelow at hrun
  refine lv_iload_n hx hb dX7_isBelow_0 rfl (lv_at hl 0 rfl) ?_
  refine lv_if_lt (tgt := 13) hx hb dX7_isBelow_1 (by decide) (fun hc => ?_) (fun hc => ?_)
  · have hrun := mt_t hrun hc
    exact k_X7_isBelow_b13 hx hb hr hml hown hts hlocks hin hE hA _ _ _ hrun hR hz hS (lv_sub hl [] rfl)
  · have hrun := mt_f hrun hc
    refine lv_iload_n hx hb dX7_isBelow_4 rfl (lv_at hl 0 rfl) ?_
    refine lv_iload_n hx hb dX7_isBelow_5 rfl (lv_at hl 1 rfl) ?_
    refine lv_icmp_ge (tgt := 13) hx hb dX7_isBelow_6 (by decide) (fun hc => ?_) (fun hc => ?_)
    · have hrun := mt_t hrun hc
      exact k_X7_isBelow_b13 hx hb hr hml hown hts hlocks hin hE hA _ _ _ hrun hR hz hS (lv_sub hl [] rfl)
    · have hrun := mt_f hrun hc
      refine lv_iconst (v := 1) hx hb dX7_isBelow_9 (by decide) ?_
      refine lv_goto (tgt := 14) hx hb dX7_isBelow_10 (by decide) ?_
      exact k_X7_isBelow_b14 hx hb hr hml hown hts hlocks hin hE hA _ _ _ _ hrun hR hz hS (lv_sub hl [] rfl)
/-! X1_sum -/
abbrev rm_X1_sum : Room := { frames := 0, cells := 0, slots := 0, locals := 0 }
theorem yk_X1_sum : m_K yX1_sum cX1_sum 6 (some .int) 1 := ⟨wm_1_154, wm_0_4, by decide +kernel⟩
theorem ys_X1_sum : Cond.static yX1_sum ∈ wT := wm_1_153
set_option maxRecDepth 100000 in
set_option maxHeartbeats 4000000 in
theorem k_X1_sum_L10 {p : Program} {l : Launch} {e : Env} {s : State} {m : MethodId} {args : Array Value} {below : List Frame} {meth : Method} {c : Code} {D : va_G} {ids : m_I3} {st : m_T} {A : Nat → Prop} {z : Nat} {r : Int32} (hx : p.tables.exec = Jvm.exec) (hb : c.code = cX1_sum) (hr : meth.sig.returnType = some .int) (hml : c.maxLocals = 6) (hown : s.vm.findClass RX1 = some m.cls) (hts : ∀ w ∈ (m_ws yX1_sum cX1_sum 6 (some .int)), w.before args s = true) (hlocks : meth.locks = false) (hin : meth.name = yX1_sum.name) (hE : m_EV st A s s.heap) (hA : ∀ q, s.heap.size ≤ q → A q) {h : mH} : ∀ (n : Nat) (v1 : Int32) (v2 : Nat) (v3 : Int32) (v4 : Int32) (H : Heap) (locs : List Loc) (ls : Array Slot), s_X1_sum_L10 h n v1 v2 v3 v4 = some r → Rl D ids A h s H → H.size = z → va_S A s.heap H locs → lv_has ls 6 [(1, .int v1), (2, .ref v2), (3, .int v3), (4, .int v4)] → W p l e rm_X1_sum s m args below meth c H locs 0 0 (MQ below (mQi D ids A r h z) args s 0 0 A) (F0 m 10 ls []) := by
  intro n
  induction n with
  | zero => intro v1 v2 v3 v4 H locs ls hrun; exact absurd hrun (by intro h9; cases h9)
  | succ n ih =>
    intro v1 v2 v3 v4 H locs ls hrun hR hz hS hl
    rw [s_X1_sum_L10] at hrun
    refine lv_iload hx hb dX1_sum_10 (lv_at hl 3 rfl) ?_
    refine lv_iload_n hx hb dX1_sum_12 rfl (lv_at hl 2 rfl) ?_
    refine lv_icmp_ge (tgt := 33) hx hb dX1_sum_13 (by decide) (fun hc => ?_) (fun hc => ?_)
    · have hrun := mt_t hrun hc
      refine lv_iload_n hx hb dX1_sum_33 rfl (lv_at hl 0 rfl) ?_
      obtain rfl := Option.some.inj hrun
      exact mr_iret hx hb hr hlocks hR hz hS dX1_sum_34
    · have hrun := mt_f hrun hc
      refine lv_aload_n hx hb dX1_sum_16 rfl (lv_at hl 1 rfl) ?_
      refine lv_iload hx hb dX1_sum_17 (lv_at hl 3 rfl) ?_
      obtain ⟨x19, hc9, hrun⟩ := m_bind hrun
      refine mr_iald hx hb hR hc9 dX1_sum_19 ?_
      refine lv_istore (lv' := [(5, .int x19), (1, .int v1), (2, .ref v2), (3, .int v3), (4, .int v4)]) hx hb dX1_sum_20 hl (by decide) rfl (fun ls hl => ?_)
      refine lv_iload_n hx hb dX1_sum_22 rfl (lv_at hl 1 rfl) ?_
      refine lv_iload hx hb dX1_sum_23 (lv_at hl 0 rfl) ?_
      refine lv_iadd hx hb dX1_sum_25 ?_
      refine lv_istore_n (lv' := [(1, .int (v1 + x19)), (5, .int x19), (2, .ref v2), (3, .int v3), (4, .int v4)]) hx hb dX1_sum_26 rfl hl (by decide) rfl (fun ls hl => ?_)
      refine lv_iinc (v := v4 + 1) (lv' := [(4, .int (v4 + 1)), (1, .int (v1 + x19)), (5, .int x19), (2, .ref v2), (3, .int v3)]) hx hb dX1_sum_27 hl (k := 4) rfl rfl (by decide) rfl (fun ls hl => ?_)
      refine lv_goto (tgt := 10) hx hb dX1_sum_30 (by decide) ?_
      exact ih _ _ _ _ _ _ _ hrun hR hz hS (lv_sub hl [1, 3, 4, 0] rfl)
set_option maxRecDepth 100000 in
set_option maxHeartbeats 4000000 in
theorem c_X1_sum (l : Launch) (D : va_G) (ids : m_I3) (st : m_T) (z : Nat) {h : mH} {v0 : Nat} {r : Int32} (hrun : s_X1_sum h v0 = some r) : Met l yX1_sum (m_ws yX1_sum cX1_sum 6 (some .int)) rm_X1_sum (mPc D ids st [.ref v0] h z) (mQi D ids (m_A h z) r h z) rm_X1_sum.cells rm_X1_sum.slots (m_A h z) := by
  refine mr_of (cc := cX1_sum) (maxL := 6) (ret := some .int) (by decide) rfl (Nat.le_of_ble_eq_true rfl) ?_
  intro p e s m below meth c ls hx hb hr hml hown hts hlocks hin hR hE hz hl
  have hA : ∀ q, s.heap.size ≤ q → m_A h z q := fun q hq => Or.inr (by rw [← hz]; exact hq)
  have hS : va_S (m_A h z) s.heap s.heap [] := va_S.rf
  have hl : lv_has ls 6 [(0, .ref v0)] := hl
  unfold s_X1_sum at hrun
  refine lv_iconst (v := 0) hx hb dX1_sum_0 (by decide) ?_
  refine lv_istore_n (lv' := [(1, .int 0), (0, .ref v0)]) hx hb dX1_sum_1 rfl hl (by decide) rfl (fun ls hl => ?_)
  refine lv_aload_n hx hb dX1_sum_2 rfl (lv_at hl 1 rfl) ?_
  refine lv_astore_n (lv' := [(2, .ref v0), (1, .int 0), (0, .ref v0)]) hx hb dX1_sum_3 rfl hl (by decide) rfl (fun ls hl => ?_)
  refine lv_aload_n hx hb dX1_sum_4 rfl (lv_at hl 0 rfl) ?_
  obtain ⟨x5, hc9, hrun⟩ := m_bind hrun
  refine mr_ilen hx hb hR hc9 dX1_sum_5 ?_
  refine lv_istore_n (lv' := [(3, .int x5), (2, .ref v0), (1, .int 0), (0, .ref v0)]) hx hb dX1_sum_6 rfl hl (by decide) rfl (fun ls hl => ?_)
  refine lv_iconst (v := 0) hx hb dX1_sum_7 (by decide) ?_
  refine lv_istore (lv' := [(4, .int 0), (3, .int x5), (2, .ref v0), (1, .int 0), (0, .ref v0)]) hx hb dX1_sum_8 hl (by decide) rfl (fun ls hl => ?_)
  exact k_X1_sum_L10 hx hb hr hml hown hts hlocks hin hE hA _ _ _ _ _ _ _ _ hrun hR hz hS (lv_sub hl [3, 2, 1, 0] rfl)
/-! X7_dayCell -/
abbrev rm_X7_dayCell : Room := { frames := 0, cells := 0, slots := 0, locals := 0 }
theorem yk_X7_dayCell : m_K yX7_dayCell cX7_dayCell 2 (some .int) 2 := ⟨wm_1_0, wm_0_1, by decide +kernel⟩
theorem ys_X7_dayCell : Cond.static yX7_dayCell ∈ wT := wm_0_239
set_option maxRecDepth 100000 in
set_option maxHeartbeats 4000000 in
theorem c_X7_dayCell (l : Launch) (D : va_G) (ids : m_I3) (st : m_T) (z : Nat) {h : mH} {v0 : Int32} {v1 : Int32} {r : Int32} (hrun : s_X7_dayCell h v0 v1 = some r) : Met l yX7_dayCell (m_ws yX7_dayCell cX7_dayCell 2 (some .int)) rm_X7_dayCell (mPc D ids st [.int v0, .int v1] h z) (mQi D ids (m_A h z) r h z) rm_X7_dayCell.cells rm_X7_dayCell.slots (m_A h z) := by
  refine mr_of (cc := cX7_dayCell) (maxL := 2) (ret := some .int) (by decide) rfl (Nat.le_of_ble_eq_true rfl) ?_
  intro p e s m below meth c ls hx hb hr hml hown hts hlocks hin hR hE hz hl
  have hA : ∀ q, s.heap.size ≤ q → m_A h z q := fun q hq => Or.inr (by rw [← hz]; exact hq)
  have hS : va_S (m_A h z) s.heap s.heap [] := va_S.rf
  have hl : lv_has ls 2 [(0, .int v0), (1, .int v1)] := hl
  unfold s_X7_dayCell at hrun
  refine lv_iload_n hx hb dX7_dayCell_0 rfl (lv_at hl 0 rfl) ?_
  refine lv_bipush (v := 28) hx hb dX7_dayCell_1 (by decide) ?_
  refine lv_imul hx hb dX7_dayCell_3 ?_
  refine lv_iload_n hx hb dX7_dayCell_4 rfl (lv_at hl 1 rfl) ?_
  refine lv_iadd hx hb dX7_dayCell_5 ?_
  obtain rfl := Option.some.inj hrun
  exact mr_iret hx hb hr hlocks hR hz hS dX7_dayCell_6
/-! X1_at -/
abbrev rm_X1_at : Room := { frames := 0, cells := 0, slots := 0, locals := 0 }
theorem yk_X1_at : m_K yX1_at cX1_at 2 (some .int) 2 := ⟨wm_0_192, wm_0_4, by decide +kernel⟩
theorem ys_X1_at : Cond.static yX1_at ∈ wT := wm_0_191
set_option maxRecDepth 100000 in
set_option maxHeartbeats 4000000 in
theorem k_X1_at_b17 {p : Program} {l : Launch} {e : Env} {s : State} {m : MethodId} {args : Array Value} {below : List Frame} {meth : Method} {c : Code} {D : va_G} {ids : m_I3} {st : m_T} {A : Nat → Prop} {z : Nat} {r : Int32} (hx : p.tables.exec = Jvm.exec) (hb : c.code = cX1_at) (hr : meth.sig.returnType = some .int) (hml : c.maxLocals = 2) (hown : s.vm.findClass RX1 = some m.cls) (hts : ∀ w ∈ (m_ws yX1_at cX1_at 2 (some .int)), w.before args s = true) (hlocks : meth.locks = false) (hin : meth.name = yX1_at.name) (hE : m_EV st A s s.heap) (hA : ∀ q, s.heap.size ≤ q → A q) {h : mH} (t0 : Int32) (H : Heap) (locs : List Loc) (ls : Array Slot) (hrun : s_X1_at_b17 h t0 = some r) (hR : Rl D ids A h s H) (hz : H.size = z) (hS : va_S A s.heap H locs) (hl : lv_has ls 2 []) : W p l e rm_X1_at s m args below meth c H locs 0 0 (MQ below (mQi D ids A r h z) args s 0 0 A) (F0 m 17 ls [.int t0]) := by
  unfold s_X1_at_b17 at hrun
  obtain rfl := Option.some.inj hrun
  exact mr_iret hx hb hr hlocks hR hz hS dX1_at_17
set_option maxRecDepth 100000 in
set_option maxHeartbeats 4000000 in
theorem k_X1_at_b16 {p : Program} {l : Launch} {e : Env} {s : State} {m : MethodId} {args : Array Value} {below : List Frame} {meth : Method} {c : Code} {D : va_G} {ids : m_I3} {st : m_T} {A : Nat → Prop} {z : Nat} {r : Int32} (hx : p.tables.exec = Jvm.exec) (hb : c.code = cX1_at) (hr : meth.sig.returnType = some .int) (hml : c.maxLocals = 2) (hown : s.vm.findClass RX1 = some m.cls) (hts : ∀ w ∈ (m_ws yX1_at cX1_at 2 (some .int)), w.before args s = true) (hlocks : meth.locks = false) (hin : meth.name = yX1_at.name) (hE : m_EV st A s s.heap) (hA : ∀ q, s.heap.size ≤ q → A q) {h : mH} (H : Heap) (locs : List Loc) (ls : Array Slot) (hrun : s_X1_at_b16 h  = some r) (hR : Rl D ids A h s H) (hz : H.size = z) (hS : va_S A s.heap H locs) (hl : lv_has ls 2 []) : W p l e rm_X1_at s m args below meth c H locs 0 0 (MQ below (mQi D ids A r h z) args s 0 0 A) (F0 m 16 ls []) := by
  unfold s_X1_at_b16 at hrun
  refine lv_iconst (v := 0) hx hb dX1_at_16 (by decide) ?_
  exact k_X1_at_b17 hx hb hr hml hown hts hlocks hin hE hA _ _ _ _ hrun hR hz hS (lv_sub hl [] rfl)
set_option maxRecDepth 100000 in
set_option maxHeartbeats 4000000 in
theorem c_X1_at (l : Launch) (D : va_G) (ids : m_I3) (st : m_T) (z : Nat) {h : mH} {v0 : Nat} {v1 : Int32} {r : Int32} (hrun : s_X1_at h v0 v1 = some r) : Met l yX1_at (m_ws yX1_at cX1_at 2 (some .int)) rm_X1_at (mPc D ids st [.ref v0, .int v1] h z) (mQi D ids (m_A h z) r h z) rm_X1_at.cells rm_X1_at.slots (m_A h z) := by
  refine mr_of (cc := cX1_at) (maxL := 2) (ret := some .int) (by decide) rfl (Nat.le_of_ble_eq_true rfl) ?_
  intro p e s m below meth c ls hx hb hr hml hown hts hlocks hin hR hE hz hl
  have hA : ∀ q, s.heap.size ≤ q → m_A h z q := fun q hq => Or.inr (by rw [← hz]; exact hq)
  have hS : va_S (m_A h z) s.heap s.heap [] := va_S.rf
  have hl : lv_has ls 2 [(0, .ref v0), (1, .int v1)] := hl
  unfold s_X1_at at hrun
  refine lv_iload_n hx hb dX1_at_0 rfl (lv_at hl 1 rfl) ?_
  refine lv_if_lt (tgt := 16) hx hb dX1_at_1 (by decide) (fun hc => ?_) (fun hc => ?_)
  · have hrun := mt_t hrun hc
    exact k_X1_at_b16 hx hb hr hml hown hts hlocks hin hE hA _ _ _ hrun hR hz hS (lv_sub hl [] rfl)
  · have hrun := mt_f hrun hc
    refine lv_iload_n hx hb dX1_at_4 rfl (lv_at hl 1 rfl) ?_
    refine lv_aload_n hx hb dX1_at_5 rfl (lv_at hl 0 rfl) ?_
    obtain ⟨x6, hc9, hrun⟩ := m_bind hrun
    refine mr_ilen hx hb hR hc9 dX1_at_6 ?_
    refine lv_icmp_ge (tgt := 16) hx hb dX1_at_7 (by decide) (fun hc => ?_) (fun hc => ?_)
    · have hrun := mt_t hrun hc
      exact k_X1_at_b16 hx hb hr hml hown hts hlocks hin hE hA _ _ _ hrun hR hz hS (lv_sub hl [] rfl)
    · have hrun := mt_f hrun hc
      refine lv_aload_n hx hb dX1_at_10 rfl (lv_at hl 0 rfl) ?_
      refine lv_iload_n hx hb dX1_at_11 rfl (lv_at hl 1 rfl) ?_
      obtain ⟨x12, hc9, hrun⟩ := m_bind hrun
      refine mr_iald hx hb hR hc9 dX1_at_12 ?_
      refine lv_goto (tgt := 17) hx hb dX1_at_13 (by decide) ?_
      exact k_X1_at_b17 hx hb hr hml hown hts hlocks hin hE hA _ _ _ _ hrun hR hz hS (lv_sub hl [] rfl)
/-! X0_dayCost -/
abbrev rm_X0_dayCost : Room := { frames := 1, cells := 0, slots := 0, locals := 21 }
theorem yk_X0_dayCost : m_K yX0_dayCost cX0_dayCost 3 (some .int) 2 := ⟨wm_1_170, wm_0_5, by decide +kernel⟩
theorem ys_X0_dayCost : Cond.instanceMethod yX0_dayCost ∈ wT ∧ Cond.selects RX0 yX0_dayCost yX0_dayCost ∈ wT := ⟨wm_1_168, wm_1_169⟩
set_option maxRecDepth 100000 in
set_option maxHeartbeats 4000000 in
theorem c_X0_dayCost (l : Launch) (D : va_G) (ids : m_I3) (st : m_T) (z : Nat) {h : mH} {v0 : Nat} {v1 : Int32} {v2 : Int32} {r : Int32} (hrun : s_X0_dayCost h v0 v1 v2 = some r) : Met l yX0_dayCost (m_ws yX0_dayCost cX0_dayCost 3 (some .int)) rm_X0_dayCost (mPc D ids st [.ref v0, .int v1, .int v2] h z) (mQi D ids (m_A h z) r h z) rm_X0_dayCost.cells rm_X0_dayCost.slots (m_A h z) := by
  refine mr_of (cc := cX0_dayCost) (maxL := 3) (ret := some .int) (by decide) rfl (Nat.le_of_ble_eq_true rfl) ?_
  intro p e s m below meth c ls hx hb hr hml hown hts hlocks hin hR hE hz hl
  have hA : ∀ q, s.heap.size ≤ q → m_A h z q := fun q hq => Or.inr (by rw [← hz]; exact hq)
  have hS : va_S (m_A h z) s.heap s.heap [] := va_S.rf
  have hl : lv_has ls 3 [(0, .ref v0), (1, .int v1), (2, .int v2)] := hl
  unfold s_X0_dayCost at hrun
  refine lv_aload_n hx hb dX0_dayCost_0 rfl (lv_at hl 0 rfl) ?_
  obtain ⟨x1, hc9, hrun⟩ := m_bind hrun
  refine mr_get (C := RX0) (T := TX0) (N := 9) (ci := 0) hx hb hts (fun w q => m_ws_in (wi_X0 w q)) hown hR rfl 4 (by decide) (hts _ (m_ws_in wm_0_107)) (fun _ h9 => h9) (m_gr_spec hc9) dX0_dayCost_1 ?_
  refine lv_iload_n hx hb dX0_dayCost_4 rfl (lv_at hl 1 rfl) ?_
  refine lv_iload_n hx hb dX0_dayCost_5 rfl (lv_at hl 2 rfl) ?_
  obtain ⟨x6, hc9, hrun⟩ := m_bind hrun
  refine mr_calli (mr_runSN (As := [.int v1, .int v2]) (rest := [.ref x1]) hx hb hml hown hts (c_X7_dayCell l D ids st z hc9) yk_X7_dayCell ys_X7_dayCell (hE.nm (i := 0) rfl) ⟨(Nat.le_of_ble_eq_true rfl), (Nat.le_of_ble_eq_true rfl)⟩ (mr_recvS hR hE hz hS hA) hl.1 rfl (Nat.le_of_ble_eq_true rfl) dX0_dayCost_6 ⟨(Nat.le_of_ble_eq_true rfl), (Nat.le_of_ble_eq_true rfl)⟩) hR hz hS hA (fun H locs hR hz hS => ?_)
  obtain ⟨x9, hc9, hrun⟩ := m_bind hrun
  refine mr_calli (mr_runS (As := [.ref x1, .int x6]) (rest := []) hx hb hml hown hts (c_X1_at l D ids st z hc9) yk_X1_at ys_X1_at wm_0_190 ⟨(Nat.le_of_ble_eq_true rfl), (Nat.le_of_ble_eq_true rfl)⟩ (mr_recvS hR hE hz hS hA) hl.1 rfl (Nat.le_of_ble_eq_true rfl) dX0_dayCost_9 ⟨(Nat.le_of_ble_eq_true rfl), (Nat.le_of_ble_eq_true rfl)⟩) hR hz hS hA (fun H locs hR hz hS => ?_)
  refine lv_aload_n hx hb dX0_dayCost_12 rfl (lv_at hl 0 rfl) ?_
  obtain ⟨x13, hc9, hrun⟩ := m_bind hrun
  refine mr_get (C := RX0) (T := TX0) (N := 9) (ci := 0) hx hb hts (fun w q => m_ws_in (wi_X0 w q)) hown hR rfl 7 (by decide) (hts _ (m_ws_in wm_0_112)) (fun _ h9 => h9) (m_gi_spec hc9) dX0_dayCost_13 ?_
  refine va_mmin hx hb (hml.trans hl.1.symm) hown (hts _ (m_ws_in wm_1_171)) (hts _ (m_ws_in wm_1_172)) (hts _ (m_ws_in wm_0_9)) (hts _ (m_ws_in wm_1_173)) (Nat.le_of_ble_eq_true rfl) (Nat.le_of_ble_eq_true rfl) (Nat.le_of_ble_eq_true rfl) (Nat.le_of_ble_eq_true rfl) dX0_dayCost_16 ?_
  obtain rfl := Option.some.inj hrun
  exact mr_iret hx hb hr hlocks hR hz hS dX0_dayCost_19
/-! X0_weekDaysCost -/
abbrev rm_X0_weekDaysCost : Room := { frames := 2, cells := 0, slots := 0, locals := 43 }
theorem yk_X0_weekDaysCost : m_K yX0_weekDaysCost cX0_weekDaysCost 5 (some .int) 2 := ⟨wm_1_166, wm_0_5, by decide +kernel⟩
theorem ys_X0_weekDaysCost : Cond.instanceMethod yX0_weekDaysCost ∈ wT ∧ Cond.selects RX0 yX0_weekDaysCost yX0_weekDaysCost ∈ wT := ⟨wm_1_164, wm_1_165⟩
set_option maxRecDepth 100000 in
set_option maxHeartbeats 4000000 in
theorem k_X0_weekDaysCost_L5 {p : Program} {l : Launch} {e : Env} {s : State} {m : MethodId} {args : Array Value} {below : List Frame} {meth : Method} {c : Code} {D : va_G} {ids : m_I3} {st : m_T} {A : Nat → Prop} {z : Nat} {r : Int32} (hx : p.tables.exec = Jvm.exec) (hb : c.code = cX0_weekDaysCost) (hr : meth.sig.returnType = some .int) (hml : c.maxLocals = 5) (hown : s.vm.findClass RX0 = some m.cls) (hts : ∀ w ∈ (m_ws yX0_weekDaysCost cX0_weekDaysCost 5 (some .int)), w.before args s = true) (hlocks : meth.locks = false) (hin : meth.name = yX0_weekDaysCost.name) (hE : m_EV st A s s.heap) (hA : ∀ q, s.heap.size ≤ q → A q) {h : mH} : ∀ (n : Nat) (v0 : Nat) (v1 : Int32) (v2 : Int32) (v3 : Int32) (v4 : Int32) (H : Heap) (locs : List Loc) (ls : Array Slot), s_X0_weekDaysCost_L5 h n v0 v1 v2 v3 v4 = some r → Rl D ids A h s H → H.size = z → va_S A s.heap H locs → lv_has ls 5 [(0, .ref v0), (1, .int v1), (2, .int v2), (3, .int v3), (4, .int v4)] → W p l e rm_X0_weekDaysCost s m args below meth c H locs 0 0 (MQ below (mQi D ids A r h z) args s 0 0 A) (F0 m 5 ls []) := by
  intro n
  induction n with
  | zero => intro v0 v1 v2 v3 v4 H locs ls hrun; exact absurd hrun (by intro h9; cases h9)
  | succ n ih =>
    intro v0 v1 v2 v3 v4 H locs ls hrun hR hz hS hl
    rw [s_X0_weekDaysCost_L5] at hrun
    refine lv_iload hx hb dX0_weekDaysCost_5 (lv_at hl 4 rfl) ?_
    refine lv_bipush (v := 7) hx hb dX0_weekDaysCost_7 (by decide) ?_
    refine lv_icmp_ge (tgt := 33) hx hb dX0_weekDaysCost_9 (by decide) (fun hc => ?_) (fun hc => ?_)
    · have hrun := mt_t hrun hc
      refine lv_iload_n hx hb dX0_weekDaysCost_33 rfl (lv_at hl 3 rfl) ?_
      obtain rfl := Option.some.inj hrun
      exact mr_iret hx hb hr hlocks hR hz hS dX0_weekDaysCost_34
    · have hrun := mt_f hrun hc
      refine lv_iload_n hx hb dX0_weekDaysCost_12 rfl (lv_at hl 3 rfl) ?_
      refine lv_aload_n hx hb dX0_weekDaysCost_13 rfl (lv_at hl 0 rfl) ?_
      refine lv_iload_n hx hb dX0_weekDaysCost_14 rfl (lv_at hl 1 rfl) ?_
      refine lv_iload_n hx hb dX0_weekDaysCost_15 rfl (lv_at hl 2 rfl) ?_
      refine lv_bipush (v := 7) hx hb dX0_weekDaysCost_16 (by decide) ?_
      refine lv_imul hx hb dX0_weekDaysCost_18 ?_
      refine lv_iload hx hb dX0_weekDaysCost_19 (lv_at hl 4 rfl) ?_
      refine lv_iadd hx hb dX0_weekDaysCost_21 ?_
      obtain ⟨_, ho9, hrun⟩ := m_bind hrun
      obtain ⟨fs9, ho9⟩ := m_is_spec ho9
      obtain ⟨x22, hc9, hrun⟩ := m_bind hrun
      refine mr_calli (mr_runV (As := [.int v1, .int ((v2 * 7) + v4)]) (rest := [.int v3]) hx hb hml hown hts (c_X0_dayCost l D ids st z hc9) yk_X0_dayCost ys_X0_dayCost wm_1_167 ⟨(Nat.le_of_ble_eq_true rfl), (Nat.le_of_ble_eq_true rfl)⟩ (mr_recv (ci := 0) hR hE hz hS hA rfl ho9) hl.1 rfl (Nat.le_of_ble_eq_true rfl) dX0_weekDaysCost_22 ⟨(Nat.le_of_ble_eq_true rfl), (Nat.le_of_ble_eq_true rfl)⟩) hR hz hS hA (fun H locs hR hz hS => ?_)
      refine lv_iadd hx hb dX0_weekDaysCost_25 ?_
      refine lv_istore_n (lv' := [(3, .int (v3 + x22)), (0, .ref v0), (1, .int v1), (2, .int v2), (4, .int v4)]) hx hb dX0_weekDaysCost_26 rfl hl (by decide) rfl (fun ls hl => ?_)
      refine lv_iinc (v := v4 + 1) (lv' := [(4, .int (v4 + 1)), (3, .int (v3 + x22)), (0, .ref v0), (1, .int v1), (2, .int v2)]) hx hb dX0_weekDaysCost_27 hl (k := 4) rfl rfl (by decide) rfl (fun ls hl => ?_)
      refine lv_goto (tgt := 5) hx hb dX0_weekDaysCost_30 (by decide) ?_
      exact ih _ _ _ _ _ _ _ _ hrun hR hz hS (lv_sub hl [2, 3, 4, 1, 0] rfl)
set_option maxRecDepth 100000 in
set_option maxHeartbeats 4000000 in
theorem c_X0_weekDaysCost (l : Launch) (D : va_G) (ids : m_I3) (st : m_T) (z : Nat) {h : mH} {v0 : Nat} {v1 : Int32} {v2 : Int32} {r : Int32} (hrun : s_X0_weekDaysCost h v0 v1 v2 = some r) : Met l yX0_weekDaysCost (m_ws yX0_weekDaysCost cX0_weekDaysCost 5 (some .int)) rm_X0_weekDaysCost (mPc D ids st [.ref v0, .int v1, .int v2] h z) (mQi D ids (m_A h z) r h z) rm_X0_weekDaysCost.cells rm_X0_weekDaysCost.slots (m_A h z) := by
  refine mr_of (cc := cX0_weekDaysCost) (maxL := 5) (ret := some .int) (by decide) rfl (Nat.le_of_ble_eq_true rfl) ?_
  intro p e s m below meth c ls hx hb hr hml hown hts hlocks hin hR hE hz hl
  have hA : ∀ q, s.heap.size ≤ q → m_A h z q := fun q hq => Or.inr (by rw [← hz]; exact hq)
  have hS : va_S (m_A h z) s.heap s.heap [] := va_S.rf
  have hl : lv_has ls 5 [(0, .ref v0), (1, .int v1), (2, .int v2)] := hl
  unfold s_X0_weekDaysCost at hrun
  refine lv_iconst (v := 0) hx hb dX0_weekDaysCost_0 (by decide) ?_
  refine lv_istore_n (lv' := [(3, .int 0), (0, .ref v0), (1, .int v1), (2, .int v2)]) hx hb dX0_weekDaysCost_1 rfl hl (by decide) rfl (fun ls hl => ?_)
  refine lv_iconst (v := 0) hx hb dX0_weekDaysCost_2 (by decide) ?_
  refine lv_istore (lv' := [(4, .int 0), (3, .int 0), (0, .ref v0), (1, .int v1), (2, .int v2)]) hx hb dX0_weekDaysCost_3 hl (by decide) rfl (fun ls hl => ?_)
  exact k_X0_weekDaysCost_L5 hx hb hr hml hown hts hlocks hin hE hA _ _ _ _ _ _ _ _ _ hrun hR hz hS (lv_sub hl [2, 3, 4, 1, 0] rfl)
/-! X0_weekCost -/
abbrev rm_X0_weekCost : Room := { frames := 3, cells := 0, slots := 0, locals := 67 }
theorem yk_X0_weekCost : m_K yX0_weekCost cX0_weekCost 3 (some .int) 2 := ⟨wm_1_162, wm_0_5, by decide +kernel⟩
theorem ys_X0_weekCost : Cond.instanceMethod yX0_weekCost ∈ wT ∧ Cond.selects RX0 yX0_weekCost yX0_weekCost ∈ wT := ⟨wm_1_160, wm_1_161⟩
set_option maxRecDepth 100000 in
set_option maxHeartbeats 4000000 in
theorem c_X0_weekCost (l : Launch) (D : va_G) (ids : m_I3) (st : m_T) (z : Nat) {h : mH} {v0 : Nat} {v1 : Int32} {v2 : Int32} {r : Int32} (hrun : s_X0_weekCost h v0 v1 v2 = some r) : Met l yX0_weekCost (m_ws yX0_weekCost cX0_weekCost 3 (some .int)) rm_X0_weekCost (mPc D ids st [.ref v0, .int v1, .int v2] h z) (mQi D ids (m_A h z) r h z) rm_X0_weekCost.cells rm_X0_weekCost.slots (m_A h z) := by
  refine mr_of (cc := cX0_weekCost) (maxL := 3) (ret := some .int) (by decide) rfl (Nat.le_of_ble_eq_true rfl) ?_
  intro p e s m below meth c ls hx hb hr hml hown hts hlocks hin hR hE hz hl
  have hA : ∀ q, s.heap.size ≤ q → m_A h z q := fun q hq => Or.inr (by rw [← hz]; exact hq)
  have hS : va_S (m_A h z) s.heap s.heap [] := va_S.rf
  have hl : lv_has ls 3 [(0, .ref v0), (1, .int v1), (2, .int v2)] := hl
  unfold s_X0_weekCost at hrun
  refine lv_aload_n hx hb dX0_weekCost_0 rfl (lv_at hl 0 rfl) ?_
  refine lv_iload_n hx hb dX0_weekCost_1 rfl (lv_at hl 1 rfl) ?_
  refine lv_iload_n hx hb dX0_weekCost_2 rfl (lv_at hl 2 rfl) ?_
  obtain ⟨_, ho9, hrun⟩ := m_bind hrun
  obtain ⟨fs9, ho9⟩ := m_is_spec ho9
  obtain ⟨x3, hc9, hrun⟩ := m_bind hrun
  refine mr_calli (mr_runV (As := [.int v1, .int v2]) (rest := []) hx hb hml hown hts (c_X0_weekDaysCost l D ids st z hc9) yk_X0_weekDaysCost ys_X0_weekDaysCost wm_1_163 ⟨(Nat.le_of_ble_eq_true rfl), (Nat.le_of_ble_eq_true rfl)⟩ (mr_recv (ci := 0) hR hE hz hS hA rfl ho9) hl.1 rfl (Nat.le_of_ble_eq_true rfl) dX0_weekCost_3 ⟨(Nat.le_of_ble_eq_true rfl), (Nat.le_of_ble_eq_true rfl)⟩) hR hz hS hA (fun H locs hR hz hS => ?_)
  refine lv_aload_n hx hb dX0_weekCost_6 rfl (lv_at hl 0 rfl) ?_
  obtain ⟨x7, hc9, hrun⟩ := m_bind hrun
  refine mr_get (C := RX0) (T := TX0) (N := 9) (ci := 0) hx hb hts (fun w q => m_ws_in (wi_X0 w q)) hown hR rfl 8 (by decide) (hts _ (m_ws_in wm_0_113)) (fun _ h9 => h9) (m_gi_spec hc9) dX0_weekCost_7 ?_
  refine va_mmin hx hb (hml.trans hl.1.symm) hown (hts _ (m_ws_in wm_1_171)) (hts _ (m_ws_in wm_1_172)) (hts _ (m_ws_in wm_0_9)) (hts _ (m_ws_in wm_1_173)) (Nat.le_of_ble_eq_true rfl) (Nat.le_of_ble_eq_true rfl) (Nat.le_of_ble_eq_true rfl) (Nat.le_of_ble_eq_true rfl) dX0_weekCost_10 ?_
  obtain rfl := Option.some.inj hrun
  exact mr_iret hx hb hr hlocks hR hz hS dX0_weekCost_13
/-! X7_costOfAll -/
abbrev rm_X7_costOfAll : Room := { frames := 4, cells := 0, slots := 0, locals := 89 }
theorem yk_X7_costOfAll : m_K yX7_costOfAll cX7_costOfAll 4 (some .int) 0 := ⟨wm_1_158, wm_0_1, by decide +kernel⟩
theorem ys_X7_costOfAll : Cond.instanceMethod yX7_costOfAll ∈ wT ∧ Cond.selects RX7 yX7_costOfAll yX7_costOfAll ∈ wT := ⟨wm_1_157, wp_0_7⟩
set_option maxRecDepth 100000 in
set_option maxHeartbeats 4000000 in
theorem k_X7_costOfAll_L11 {p : Program} {l : Launch} {e : Env} {s : State} {m : MethodId} {args : Array Value} {below : List Frame} {meth : Method} {c : Code} {D : va_G} {ids : m_I3} {st : m_T} {A : Nat → Prop} {z : Nat} {r : Int32} (hx : p.tables.exec = Jvm.exec) (hb : c.code = cX7_costOfAll) (hr : meth.sig.returnType = some .int) (hml : c.maxLocals = 4) (hown : s.vm.findClass RX7 = some m.cls) (hts : ∀ w ∈ (m_ws yX7_costOfAll cX7_costOfAll 4 (some .int)), w.before args s = true) (hlocks : meth.locks = false) (hin : meth.name = yX7_costOfAll.name) (hE : m_EV st A s s.heap) (hA : ∀ q, s.heap.size ≤ q → A q) {h : mH} {k4 : Nat → Int32 → Int32 → Option (Int32)} (hk4 : ∀ (v0 : Nat) (v1 : Int32) (v2 : Int32) (H : Heap) (locs : List Loc) (ls : Array Slot), k4 v0 v1 v2 = some r → Rl D ids A h s H → H.size = z → va_S A s.heap H locs → lv_has ls 4 [(0, .ref v0), (1, .int v1), (2, .int v2)] → W p l e rm_X7_costOfAll s m args below meth c H locs 0 0 (MQ below (mQi D ids A r h z) args s 0 0 A) (F0 m 4 ls [])) : ∀ (n : Nat) (v0 : Nat) (v1 : Int32) (v2 : Int32) (v3 : Int32) (H : Heap) (locs : List Loc) (ls : Array Slot), s_X7_costOfAll_L11 k4 h n v0 v1 v2 v3 = some r → Rl D ids A h s H → H.size = z → va_S A s.heap H locs → lv_has ls 4 [(0, .ref v0), (1, .int v1), (2, .int v2), (3, .int v3)] → W p l e rm_X7_costOfAll s m args below meth c H locs 0 0 (MQ below (mQi D ids A r h z) args s 0 0 A) (F0 m 11 ls []) := by
  intro n
  induction n with
  | zero => intro v0 v1 v2 v3 H locs ls hrun; exact absurd hrun (by intro h9; cases h9)
  | succ n ih =>
    intro v0 v1 v2 v3 H locs ls hrun hR hz hS hl
    rw [s_X7_costOfAll_L11] at hrun
    refine lv_iload_n hx hb dX7_costOfAll_11 rfl (lv_at hl 3 rfl) ?_
    refine lv_iconst (v := 4) hx hb dX7_costOfAll_12 (by decide) ?_
    refine lv_icmp_ge (tgt := 34) hx hb dX7_costOfAll_13 (by decide) (fun hc => ?_) (fun hc => ?_)
    · have hrun := mt_t hrun hc
      refine lv_iinc (v := v2 + 1) (lv' := [(2, .int (v2 + 1)), (0, .ref v0), (1, .int v1), (3, .int v3)]) hx hb dX7_costOfAll_34 hl (k := 2) rfl rfl (by decide) rfl (fun ls hl => ?_)
      refine lv_goto (tgt := 4) hx hb dX7_costOfAll_37 (by decide) ?_
      exact hk4 _ _ _ _ _ _ hrun hR hz hS (lv_sub hl [1, 2, 0] rfl)
    · have hrun := mt_f hrun hc
      refine lv_iload_n hx hb dX7_costOfAll_16 rfl (lv_at hl 1 rfl) ?_
      refine lv_aload_n hx hb dX7_costOfAll_17 rfl (lv_at hl 0 rfl) ?_
      obtain ⟨x18, hc9, hrun⟩ := m_bind hrun
      refine mr_get (C := RX7) (T := TX7) (N := 8) (ci := 5) hx hb hts (fun w q => m_ws_in (wi_X7 w q)) hown hR rfl 1 (by decide) (hts _ (m_ws_in wm_1_8)) (fun _ h9 => h9) (m_gr_spec hc9) dX7_costOfAll_18 ?_
      refine lv_iload_n hx hb dX7_costOfAll_21 rfl (lv_at hl 2 rfl) ?_
      refine lv_iload_n hx hb dX7_costOfAll_22 rfl (lv_at hl 3 rfl) ?_
      obtain ⟨_, ho9, hrun⟩ := m_bind hrun
      obtain ⟨fs9, ho9⟩ := m_is_spec ho9
      obtain ⟨x23, hc9, hrun⟩ := m_bind hrun
      refine mr_calli (mr_runV (As := [.int v2, .int v3]) (rest := [.int v1]) hx hb hml hown hts (c_X0_weekCost l D ids st z hc9) yk_X0_weekCost ys_X0_weekCost wm_1_159 ⟨(Nat.le_of_ble_eq_true rfl), (Nat.le_of_ble_eq_true rfl)⟩ (mr_recv (ci := 0) hR hE hz hS hA rfl ho9) hl.1 rfl (Nat.le_of_ble_eq_true rfl) dX7_costOfAll_23 ⟨(Nat.le_of_ble_eq_true rfl), (Nat.le_of_ble_eq_true rfl)⟩) hR hz hS hA (fun H locs hR hz hS => ?_)
      refine lv_iadd hx hb dX7_costOfAll_26 ?_
      refine lv_istore_n (lv' := [(1, .int (v1 + x23)), (0, .ref v0), (2, .int v2), (3, .int v3)]) hx hb dX7_costOfAll_27 rfl hl (by decide) rfl (fun ls hl => ?_)
      refine lv_iinc (v := v3 + 1) (lv' := [(3, .int (v3 + 1)), (1, .int (v1 + x23)), (0, .ref v0), (2, .int v2)]) hx hb dX7_costOfAll_28 hl (k := 3) rfl rfl (by decide) rfl (fun ls hl => ?_)
      refine lv_goto (tgt := 11) hx hb dX7_costOfAll_31 (by decide) ?_
      exact ih _ _ _ _ _ _ _ hrun hR hz hS (lv_sub hl [2, 1, 3, 0] rfl)
set_option maxRecDepth 100000 in
set_option maxHeartbeats 4000000 in
theorem k_X7_costOfAll_L4 {p : Program} {l : Launch} {e : Env} {s : State} {m : MethodId} {args : Array Value} {below : List Frame} {meth : Method} {c : Code} {D : va_G} {ids : m_I3} {st : m_T} {A : Nat → Prop} {z : Nat} {r : Int32} (hx : p.tables.exec = Jvm.exec) (hb : c.code = cX7_costOfAll) (hr : meth.sig.returnType = some .int) (hml : c.maxLocals = 4) (hown : s.vm.findClass RX7 = some m.cls) (hts : ∀ w ∈ (m_ws yX7_costOfAll cX7_costOfAll 4 (some .int)), w.before args s = true) (hlocks : meth.locks = false) (hin : meth.name = yX7_costOfAll.name) (hE : m_EV st A s s.heap) (hA : ∀ q, s.heap.size ≤ q → A q) {h : mH} : ∀ (n : Nat) (v0 : Nat) (v1 : Int32) (v2 : Int32) (H : Heap) (locs : List Loc) (ls : Array Slot), s_X7_costOfAll_L4 h n v0 v1 v2 = some r → Rl D ids A h s H → H.size = z → va_S A s.heap H locs → lv_has ls 4 [(0, .ref v0), (1, .int v1), (2, .int v2)] → W p l e rm_X7_costOfAll s m args below meth c H locs 0 0 (MQ below (mQi D ids A r h z) args s 0 0 A) (F0 m 4 ls []) := by
  intro n
  induction n with
  | zero => intro v0 v1 v2 H locs ls hrun; exact absurd hrun (by intro h9; cases h9)
  | succ n ih =>
    intro v0 v1 v2 H locs ls hrun hR hz hS hl
    rw [s_X7_costOfAll_L4] at hrun
    refine lv_iload_n hx hb dX7_costOfAll_4 rfl (lv_at hl 2 rfl) ?_
    refine lv_iconst (v := 4) hx hb dX7_costOfAll_5 (by decide) ?_
    refine lv_icmp_ge (tgt := 40) hx hb dX7_costOfAll_6 (by decide) (fun hc => ?_) (fun hc => ?_)
    · have hrun := mt_t hrun hc
      refine lv_iload_n hx hb dX7_costOfAll_40 rfl (lv_at hl 1 rfl) ?_
      obtain rfl := Option.some.inj hrun
      exact mr_iret hx hb hr hlocks hR hz hS dX7_costOfAll_41
    · have hrun := mt_f hrun hc
      refine lv_iconst (v := 0) hx hb dX7_costOfAll_9 (by decide) ?_
      refine lv_istore_n (lv' := [(3, .int 0), (0, .ref v0), (1, .int v1), (2, .int v2)]) hx hb dX7_costOfAll_10 rfl hl (by decide) rfl (fun ls hl => ?_)
      exact k_X7_costOfAll_L11 hx hb hr hml hown hts hlocks hin hE hA ih _ _ _ _ _ _ _ _ hrun hR hz hS (lv_sub hl [1, 2, 3, 0] rfl)
set_option maxRecDepth 100000 in
set_option maxHeartbeats 4000000 in
theorem c_X7_costOfAll (l : Launch) (D : va_G) (ids : m_I3) (st : m_T) (z : Nat) {h : mH} {v0 : Nat} {r : Int32} (hrun : s_X7_costOfAll h v0 = some r) : Met l yX7_costOfAll (m_ws yX7_costOfAll cX7_costOfAll 4 (some .int)) rm_X7_costOfAll (mPc D ids st [.ref v0] h z) (mQi D ids (m_A h z) r h z) rm_X7_costOfAll.cells rm_X7_costOfAll.slots (m_A h z) := by
  refine mr_of (cc := cX7_costOfAll) (maxL := 4) (ret := some .int) (by decide) rfl (Nat.le_of_ble_eq_true rfl) ?_
  intro p e s m below meth c ls hx hb hr hml hown hts hlocks hin hR hE hz hl
  have hA : ∀ q, s.heap.size ≤ q → m_A h z q := fun q hq => Or.inr (by rw [← hz]; exact hq)
  have hS : va_S (m_A h z) s.heap s.heap [] := va_S.rf
  have hl : lv_has ls 4 [(0, .ref v0)] := hl
  unfold s_X7_costOfAll at hrun
  refine lv_iconst (v := 0) hx hb dX7_costOfAll_0 (by decide) ?_
  refine lv_istore_n (lv' := [(1, .int 0), (0, .ref v0)]) hx hb dX7_costOfAll_1 rfl hl (by decide) rfl (fun ls hl => ?_)
  refine lv_iconst (v := 0) hx hb dX7_costOfAll_2 (by decide) ?_
  refine lv_istore_n (lv' := [(2, .int 0), (1, .int 0), (0, .ref v0)]) hx hb dX7_costOfAll_3 rfl hl (by decide) rfl (fun ls hl => ?_)
  exact k_X7_costOfAll_L4 hx hb hr hml hown hts hlocks hin hE hA _ _ _ _ _ _ _ hrun hR hz hS (lv_sub hl [2, 1, 0] rfl)
/-! X7_weekCell -/
abbrev rm_X7_weekCell : Room := { frames := 0, cells := 0, slots := 0, locals := 0 }
theorem yk_X7_weekCell : m_K yX7_weekCell cX7_weekCell 2 (some .int) 2 := ⟨wm_1_180, wm_0_1, by decide +kernel⟩
theorem ys_X7_weekCell : Cond.static yX7_weekCell ∈ wT := wm_1_179
set_option maxRecDepth 100000 in
set_option maxHeartbeats 4000000 in
theorem c_X7_weekCell (l : Launch) (D : va_G) (ids : m_I3) (st : m_T) (z : Nat) {h : mH} {v0 : Int32} {v1 : Int32} {r : Int32} (hrun : s_X7_weekCell h v0 v1 = some r) : Met l yX7_weekCell (m_ws yX7_weekCell cX7_weekCell 2 (some .int)) rm_X7_weekCell (mPc D ids st [.int v0, .int v1] h z) (mQi D ids (m_A h z) r h z) rm_X7_weekCell.cells rm_X7_weekCell.slots (m_A h z) := by
  refine mr_of (cc := cX7_weekCell) (maxL := 2) (ret := some .int) (by decide) rfl (Nat.le_of_ble_eq_true rfl) ?_
  intro p e s m below meth c ls hx hb hr hml hown hts hlocks hin hR hE hz hl
  have hA : ∀ q, s.heap.size ≤ q → m_A h z q := fun q hq => Or.inr (by rw [← hz]; exact hq)
  have hS : va_S (m_A h z) s.heap s.heap [] := va_S.rf
  have hl : lv_has ls 2 [(0, .int v0), (1, .int v1)] := hl
  unfold s_X7_weekCell at hrun
  refine lv_iload_n hx hb dX7_weekCell_0 rfl (lv_at hl 0 rfl) ?_
  refine lv_iconst (v := 4) hx hb dX7_weekCell_1 (by decide) ?_
  refine lv_imul hx hb dX7_weekCell_2 ?_
  refine lv_iload_n hx hb dX7_weekCell_3 rfl (lv_at hl 1 rfl) ?_
  refine lv_iadd hx hb dX7_weekCell_4 ?_
  obtain rfl := Option.some.inj hrun
  exact mr_iret hx hb hr hlocks hR hz hS dX7_weekCell_5
/-! X7_weeksToSettleAnew -/
abbrev rm_X7_weeksToSettleAnew : Room := { frames := 4, cells := 0, slots := 0, locals := 89 }
theorem yk_X7_weeksToSettleAnew : m_K yX7_weeksToSettleAnew cX7_weeksToSettleAnew 6 (some .int) 0 := ⟨wm_1_177, wm_0_1, by decide +kernel⟩
theorem ys_X7_weeksToSettleAnew : Cond.instanceMethod yX7_weeksToSettleAnew ∈ wT ∧ Cond.selects RX7 yX7_weeksToSettleAnew yX7_weeksToSettleAnew ∈ wT := ⟨wm_1_176, wp_0_8⟩
set_option maxRecDepth 100000 in
set_option maxHeartbeats 4000000 in
theorem k_X7_weeksToSettleAnew_b77 {p : Program} {l : Launch} {e : Env} {s : State} {m : MethodId} {args : Array Value} {below : List Frame} {meth : Method} {c : Code} {D : va_G} {ids : m_I3} {st : m_T} {A : Nat → Prop} {z : Nat} {r : Int32} (hx : p.tables.exec = Jvm.exec) (hb : c.code = cX7_weeksToSettleAnew) (hr : meth.sig.returnType = some .int) (hml : c.maxLocals = 6) (hown : s.vm.findClass RX7 = some m.cls) (hts : ∀ w ∈ (m_ws yX7_weeksToSettleAnew cX7_weeksToSettleAnew 6 (some .int)), w.before args s = true) (hlocks : meth.locks = false) (hin : meth.name = yX7_weeksToSettleAnew.name) (hE : m_EV st A s s.heap) (hA : ∀ q, s.heap.size ≤ q → A q) {h : mH} {k4 : Nat → Int32 → Int32 → Option (Int32)} {k11 : Nat → Int32 → Int32 → Int32 → Option (Int32)} (hk4 : ∀ (v0 : Nat) (v1 : Int32) (v2 : Int32) (H : Heap) (locs : List Loc) (ls : Array Slot), k4 v0 v1 v2 = some r → Rl D ids A h s H → H.size = z → va_S A s.heap H locs → lv_has ls 6 [(0, .ref v0), (1, .int v1), (2, .int v2)] → W p l e rm_X7_weeksToSettleAnew s m args below meth c H locs 0 0 (MQ below (mQi D ids A r h z) args s 0 0 A) (F0 m 4 ls [])) (hk11 : ∀ (v0 : Nat) (v1 : Int32) (v2 : Int32) (v3 : Int32) (H : Heap) (locs : List Loc) (ls : Array Slot), k11 v0 v1 v2 v3 = some r → Rl D ids A h s H → H.size = z → va_S A s.heap H locs → lv_has ls 6 [(0, .ref v0), (1, .int v1), (2, .int v2), (3, .int v3)] → W p l e rm_X7_weeksToSettleAnew s m args below meth c H locs 0 0 (MQ below (mQi D ids A r h z) args s 0 0 A) (F0 m 11 ls [])) (v0 : Nat) (v1 : Int32) (v2 : Int32) (v3 : Int32) (H : Heap) (locs : List Loc) (ls : Array Slot) (hrun : s_X7_weeksToSettleAnew_b77 k4 k11 h v0 v1 v2 v3 = some r) (hR : Rl D ids A h s H) (hz : H.size = z) (hS : va_S A s.heap H locs) (hl : lv_has ls 6 [(0, .ref v0), (1, .int v1), (2, .int v2), (3, .int v3)]) : W p l e rm_X7_weeksToSettleAnew s m args below meth c H locs 0 0 (MQ below (mQi D ids A r h z) args s 0 0 A) (F0 m 77 ls []) := by
  unfold s_X7_weeksToSettleAnew_b77 at hrun
  refine lv_iinc (v := v3 + 1) (lv' := [(3, .int (v3 + 1)), (0, .ref v0), (1, .int v1), (2, .int v2)]) hx hb dX7_weeksToSettleAnew_77 hl (k := 3) rfl rfl (by decide) rfl (fun ls hl => ?_)
  refine lv_goto (tgt := 11) hx hb dX7_weeksToSettleAnew_80 (by decide) ?_
  exact hk11 _ _ _ _ _ _ _ hrun hR hz hS (lv_sub hl [1, 2, 3, 0] rfl)
set_option maxRecDepth 100000 in
set_option maxHeartbeats 4000000 in
theorem k_X7_weeksToSettleAnew_b43 {p : Program} {l : Launch} {e : Env} {s : State} {m : MethodId} {args : Array Value} {below : List Frame} {meth : Method} {c : Code} {D : va_G} {ids : m_I3} {st : m_T} {A : Nat → Prop} {z : Nat} {r : Int32} (hx : p.tables.exec = Jvm.exec) (hb : c.code = cX7_weeksToSettleAnew) (hr : meth.sig.returnType = some .int) (hml : c.maxLocals = 6) (hown : s.vm.findClass RX7 = some m.cls) (hts : ∀ w ∈ (m_ws yX7_weeksToSettleAnew cX7_weeksToSettleAnew 6 (some .int)), w.before args s = true) (hlocks : meth.locks = false) (hin : meth.name = yX7_weeksToSettleAnew.name) (hE : m_EV st A s s.heap) (hA : ∀ q, s.heap.size ≤ q → A q) {h : mH} {k4 : Nat → Int32 → Int32 → Option (Int32)} {k11 : Nat → Int32 → Int32 → Int32 → Option (Int32)} (hk4 : ∀ (v0 : Nat) (v1 : Int32) (v2 : Int32) (H : Heap) (locs : List Loc) (ls : Array Slot), k4 v0 v1 v2 = some r → Rl D ids A h s H → H.size = z → va_S A s.heap H locs → lv_has ls 6 [(0, .ref v0), (1, .int v1), (2, .int v2)] → W p l e rm_X7_weeksToSettleAnew s m args below meth c H locs 0 0 (MQ below (mQi D ids A r h z) args s 0 0 A) (F0 m 4 ls [])) (hk11 : ∀ (v0 : Nat) (v1 : Int32) (v2 : Int32) (v3 : Int32) (H : Heap) (locs : List Loc) (ls : Array Slot), k11 v0 v1 v2 v3 = some r → Rl D ids A h s H → H.size = z → va_S A s.heap H locs → lv_has ls 6 [(0, .ref v0), (1, .int v1), (2, .int v2), (3, .int v3)] → W p l e rm_X7_weeksToSettleAnew s m args below meth c H locs 0 0 (MQ below (mQi D ids A r h z) args s 0 0 A) (F0 m 11 ls [])) (v0 : Nat) (v1 : Int32) (v2 : Int32) (v3 : Int32) (v4 : Int32) (t0 : Int32) (H : Heap) (locs : List Loc) (ls : Array Slot) (hrun : s_X7_weeksToSettleAnew_b43 k4 k11 h v0 v1 v2 v3 v4 t0 = some r) (hR : Rl D ids A h s H) (hz : H.size = z) (hS : va_S A s.heap H locs) (hl : lv_has ls 6 [(0, .ref v0), (1, .int v1), (2, .int v2), (3, .int v3), (4, .int v4)]) : W p l e rm_X7_weeksToSettleAnew s m args below meth c H locs 0 0 (MQ below (mQi D ids A r h z) args s 0 0 A) (F0 m 43 ls [.int t0]) := by
  unfold s_X7_weeksToSettleAnew_b43 at hrun
  refine lv_istore (lv' := [(5, .int t0), (0, .ref v0), (1, .int v1), (2, .int v2), (3, .int v3), (4, .int v4)]) hx hb dX7_weeksToSettleAnew_43 hl (by decide) rfl (fun ls hl => ?_)
  refine lv_iload hx hb dX7_weeksToSettleAnew_45 (lv_at hl 0 rfl) ?_
  refine lv_if_eq (tgt := 77) hx hb dX7_weeksToSettleAnew_47 (by decide) (fun hc => ?_) (fun hc => ?_)
  · have hrun := mt_t hrun hc
    exact k_X7_weeksToSettleAnew_b77 hx hb hr hml hown hts hlocks hin hE hA hk4 hk11 _ _ _ _ _ _ _ hrun hR hz hS (lv_sub hl [1, 2, 3, 4] rfl)
  · have hrun := mt_f hrun hc
    refine lv_aload_n hx hb dX7_weeksToSettleAnew_50 rfl (lv_at hl 1 rfl) ?_
    obtain ⟨x51, hc9, hrun⟩ := m_bind hrun
    refine mr_get (C := RX7) (T := TX7) (N := 8) (ci := 5) hx hb hts (fun w q => m_ws_in (wi_X7 w q)) hown hR rfl 0 (by decide) (hts _ (m_ws_in wm_1_7)) (fun _ h9 => h9) (m_gr_spec hc9) dX7_weeksToSettleAnew_51 ?_
    obtain ⟨x54, hc9, hrun⟩ := m_bind hrun
    refine mr_getN (C := RX3) (T := TX3) (N := 10) (ci := 2) hx hb hts (fun w q => m_ws_in (wi_X3 w q)) hown hR rfl 2 (by decide) (hE.nf (i := 5) rfl) (fun _ h9 => h9) (m_gr_spec hc9) dX7_weeksToSettleAnew_54 ?_
    refine lv_iload hx hb dX7_weeksToSettleAnew_57 (lv_at hl 5 rfl) ?_
    obtain ⟨x59, hc9, hrun⟩ := m_bind hrun
    refine mr_calli (mr_runS (As := [.ref x54, .int v4]) (rest := []) hx hb hml hown hts (c_X1_at l D ids st z hc9) yk_X1_at ys_X1_at wm_1_181 ⟨(Nat.le_of_ble_eq_true rfl), (Nat.le_of_ble_eq_true rfl)⟩ (mr_recvS hR hE hz hS hA) hl.1 rfl (Nat.le_of_ble_eq_true rfl) dX7_weeksToSettleAnew_59 ⟨(Nat.le_of_ble_eq_true rfl), (Nat.le_of_ble_eq_true rfl)⟩) hR hz hS hA (fun H locs hR hz hS => ?_)
    refine lv_aload_n hx hb dX7_weeksToSettleAnew_62 rfl (lv_at hl 1 rfl) ?_
    obtain ⟨x63, hc9, hrun⟩ := m_bind hrun
    refine mr_get (C := RX7) (T := TX7) (N := 8) (ci := 5) hx hb hts (fun w q => m_ws_in (wi_X7 w q)) hown hR rfl 1 (by decide) (hts _ (m_ws_in wm_1_8)) (fun _ h9 => h9) (m_gr_spec hc9) dX7_weeksToSettleAnew_63 ?_
    refine lv_iload_n hx hb dX7_weeksToSettleAnew_66 rfl (lv_at hl 3 rfl) ?_
    refine lv_iload_n hx hb dX7_weeksToSettleAnew_67 rfl (lv_at hl 4 rfl) ?_
    obtain ⟨_, ho9, hrun⟩ := m_bind hrun
    obtain ⟨fs9, ho9⟩ := m_is_spec ho9
    obtain ⟨x68, hc9, hrun⟩ := m_bind hrun
    refine mr_calli (mr_runV (As := [.int v2, .int v3]) (rest := [.int x59]) hx hb hml hown hts (c_X0_weekCost l D ids st z hc9) yk_X0_weekCost ys_X0_weekCost wm_1_159 ⟨(Nat.le_of_ble_eq_true rfl), (Nat.le_of_ble_eq_true rfl)⟩ (mr_recv (ci := 0) hR hE hz hS hA rfl ho9) hl.1 rfl (Nat.le_of_ble_eq_true rfl) dX7_weeksToSettleAnew_68 ⟨(Nat.le_of_ble_eq_true rfl), (Nat.le_of_ble_eq_true rfl)⟩) hR hz hS hA (fun H locs hR hz hS => ?_)
    refine lv_icmp_eq (tgt := 77) hx hb dX7_weeksToSettleAnew_71 (by decide) (fun hc => ?_) (fun hc => ?_)
    · have hrun := mt_t hrun hc
      exact k_X7_weeksToSettleAnew_b77 hx hb hr hml hown hts hlocks hin hE hA hk4 hk11 _ _ _ _ _ _ _ hrun hR hz hS (lv_sub hl [1, 2, 3, 4] rfl)
    · have hrun := mt_f hrun hc
      refine lv_iinc (v := v1 + 1) (lv' := [(1, .int (v1 + 1)), (5, .int t0), (0, .ref v0), (2, .int v2), (3, .int v3), (4, .int v4)]) hx hb dX7_weeksToSettleAnew_74 hl (k := 2) rfl rfl (by decide) rfl (fun ls hl => ?_)
      exact k_X7_weeksToSettleAnew_b77 hx hb hr hml hown hts hlocks hin hE hA hk4 hk11 _ _ _ _ _ _ _ hrun hR hz hS (lv_sub hl [2, 0, 3, 4] rfl)
set_option maxRecDepth 100000 in
set_option maxHeartbeats 4000000 in
theorem k_X7_weeksToSettleAnew_L11 {p : Program} {l : Launch} {e : Env} {s : State} {m : MethodId} {args : Array Value} {below : List Frame} {meth : Method} {c : Code} {D : va_G} {ids : m_I3} {st : m_T} {A : Nat → Prop} {z : Nat} {r : Int32} (hx : p.tables.exec = Jvm.exec) (hb : c.code = cX7_weeksToSettleAnew) (hr : meth.sig.returnType = some .int) (hml : c.maxLocals = 6) (hown : s.vm.findClass RX7 = some m.cls) (hts : ∀ w ∈ (m_ws yX7_weeksToSettleAnew cX7_weeksToSettleAnew 6 (some .int)), w.before args s = true) (hlocks : meth.locks = false) (hin : meth.name = yX7_weeksToSettleAnew.name) (hE : m_EV st A s s.heap) (hA : ∀ q, s.heap.size ≤ q → A q) {h : mH} {k4 : Nat → Int32 → Int32 → Option (Int32)} (hk4 : ∀ (v0 : Nat) (v1 : Int32) (v2 : Int32) (H : Heap) (locs : List Loc) (ls : Array Slot), k4 v0 v1 v2 = some r → Rl D ids A h s H → H.size = z → va_S A s.heap H locs → lv_has ls 6 [(0, .ref v0), (1, .int v1), (2, .int v2)] → W p l e rm_X7_weeksToSettleAnew s m args below meth c H locs 0 0 (MQ below (mQi D ids A r h z) args s 0 0 A) (F0 m 4 ls [])) : ∀ (n : Nat) (v0 : Nat) (v1 : Int32) (v2 : Int32) (v3 : Int32) (H : Heap) (locs : List Loc) (ls : Array Slot), s_X7_weeksToSettleAnew_L11 k4 h n v0 v1 v2 v3 = some r → Rl D ids A h s H → H.size = z → va_S A s.heap H locs → lv_has ls 6 [(0, .ref v0), (1, .int v1), (2, .int v2), (3, .int v3)] → W p l e rm_X7_weeksToSettleAnew s m args below meth c H locs 0 0 (MQ below (mQi D ids A r h z) args s 0 0 A) (F0 m 11 ls []) := by
  intro n
  induction n with
  | zero => intro v0 v1 v2 v3 H locs ls hrun; exact absurd hrun (by intro h9; cases h9)
  | succ n ih =>
    intro v0 v1 v2 v3 H locs ls hrun hR hz hS hl
    rw [s_X7_weeksToSettleAnew_L11] at hrun
    refine lv_iload_n hx hb dX7_weeksToSettleAnew_11 rfl (lv_at hl 3 rfl) ?_
    refine lv_iconst (v := 4) hx hb dX7_weeksToSettleAnew_12 (by decide) ?_
    refine lv_icmp_ge (tgt := 83) hx hb dX7_weeksToSettleAnew_13 (by decide) (fun hc => ?_) (fun hc => ?_)
    · have hrun := mt_t hrun hc
      refine lv_iinc (v := v2 + 1) (lv' := [(2, .int (v2 + 1)), (0, .ref v0), (1, .int v1), (3, .int v3)]) hx hb dX7_weeksToSettleAnew_83 hl (k := 2) rfl rfl (by decide) rfl (fun ls hl => ?_)
      refine lv_goto (tgt := 4) hx hb dX7_weeksToSettleAnew_86 (by decide) ?_
      exact hk4 _ _ _ _ _ _ hrun hR hz hS (lv_sub hl [1, 2, 0] rfl)
    · have hrun := mt_f hrun hc
      refine lv_iload_n hx hb dX7_weeksToSettleAnew_16 rfl (lv_at hl 2 rfl) ?_
      refine lv_iload_n hx hb dX7_weeksToSettleAnew_17 rfl (lv_at hl 3 rfl) ?_
      obtain ⟨x18, hc9, hrun⟩ := m_bind hrun
      refine mr_calli (mr_runS (As := [.int v2, .int v3]) (rest := []) hx hb hml hown hts (c_X7_weekCell l D ids st z hc9) yk_X7_weekCell ys_X7_weekCell wm_1_178 ⟨(Nat.le_of_ble_eq_true rfl), (Nat.le_of_ble_eq_true rfl)⟩ (mr_recvS hR hE hz hS hA) hl.1 rfl (Nat.le_of_ble_eq_true rfl) dX7_weeksToSettleAnew_18 ⟨(Nat.le_of_ble_eq_true rfl), (Nat.le_of_ble_eq_true rfl)⟩) hR hz hS hA (fun H locs hR hz hS => ?_)
      refine lv_istore (lv' := [(4, .int x18), (0, .ref v0), (1, .int v1), (2, .int v2), (3, .int v3)]) hx hb dX7_weeksToSettleAnew_21 hl (by decide) rfl (fun ls hl => ?_)
      refine lv_aload_n hx hb dX7_weeksToSettleAnew_23 rfl (lv_at hl 1 rfl) ?_
      obtain ⟨x24, hc9, hrun⟩ := m_bind hrun
      refine mr_get (C := RX7) (T := TX7) (N := 8) (ci := 5) hx hb hts (fun w q => m_ws_in (wi_X7 w q)) hown hR rfl 0 (by decide) (hts _ (m_ws_in wm_1_7)) (fun _ h9 => h9) (m_gr_spec hc9) dX7_weeksToSettleAnew_24 ?_
      obtain ⟨x27, hc9, hrun⟩ := m_bind hrun
      refine mr_getN (C := RX3) (T := TX3) (N := 10) (ci := 2) hx hb hts (fun w q => m_ws_in (wi_X3 w q)) hown hR rfl 4 (by decide) (hE.nf (i := 7) rfl) (fun _ h9 => h9) (m_gr_spec hc9) dX7_weeksToSettleAnew_27 ?_
      refine lv_iload hx hb dX7_weeksToSettleAnew_30 (lv_at hl 0 rfl) ?_
      obtain ⟨x32, hc9, hrun⟩ := m_bind hrun
      refine mr_calli (mr_runS (As := [.ref x27, .int x18]) (rest := []) hx hb hml hown hts (c_X1_at l D ids st z hc9) yk_X1_at ys_X1_at wm_1_181 ⟨(Nat.le_of_ble_eq_true rfl), (Nat.le_of_ble_eq_true rfl)⟩ (mr_recvS hR hE hz hS hA) hl.1 rfl (Nat.le_of_ble_eq_true rfl) dX7_weeksToSettleAnew_32 ⟨(Nat.le_of_ble_eq_true rfl), (Nat.le_of_ble_eq_true rfl)⟩) hR hz hS hA (fun H locs hR hz hS => ?_)
      refine lv_if_le (tgt := 42) hx hb dX7_weeksToSettleAnew_35 (by decide) (fun hc => ?_) (fun hc => ?_)
      · have hrun := mt_t hrun hc
        refine lv_iconst (v := 0) hx hb dX7_weeksToSettleAnew_42 (by decide) ?_
        exact k_X7_weeksToSettleAnew_b43 hx hb hr hml hown hts hlocks hin hE hA hk4 ih _ _ _ _ _ _ _ _ _ hrun hR hz hS (lv_sub hl [1, 2, 3, 4, 0] rfl)
      · have hrun := mt_f hrun hc
        refine lv_iconst (v := 1) hx hb dX7_weeksToSettleAnew_38 (by decide) ?_
        refine lv_goto (tgt := 43) hx hb dX7_weeksToSettleAnew_39 (by decide) ?_
        exact k_X7_weeksToSettleAnew_b43 hx hb hr hml hown hts hlocks hin hE hA hk4 ih _ _ _ _ _ _ _ _ _ hrun hR hz hS (lv_sub hl [1, 2, 3, 4, 0] rfl)
set_option maxRecDepth 100000 in
set_option maxHeartbeats 4000000 in
theorem k_X7_weeksToSettleAnew_L4 {p : Program} {l : Launch} {e : Env} {s : State} {m : MethodId} {args : Array Value} {below : List Frame} {meth : Method} {c : Code} {D : va_G} {ids : m_I3} {st : m_T} {A : Nat → Prop} {z : Nat} {r : Int32} (hx : p.tables.exec = Jvm.exec) (hb : c.code = cX7_weeksToSettleAnew) (hr : meth.sig.returnType = some .int) (hml : c.maxLocals = 6) (hown : s.vm.findClass RX7 = some m.cls) (hts : ∀ w ∈ (m_ws yX7_weeksToSettleAnew cX7_weeksToSettleAnew 6 (some .int)), w.before args s = true) (hlocks : meth.locks = false) (hin : meth.name = yX7_weeksToSettleAnew.name) (hE : m_EV st A s s.heap) (hA : ∀ q, s.heap.size ≤ q → A q) {h : mH} : ∀ (n : Nat) (v0 : Nat) (v1 : Int32) (v2 : Int32) (H : Heap) (locs : List Loc) (ls : Array Slot), s_X7_weeksToSettleAnew_L4 h n v0 v1 v2 = some r → Rl D ids A h s H → H.size = z → va_S A s.heap H locs → lv_has ls 6 [(0, .ref v0), (1, .int v1), (2, .int v2)] → W p l e rm_X7_weeksToSettleAnew s m args below meth c H locs 0 0 (MQ below (mQi D ids A r h z) args s 0 0 A) (F0 m 4 ls []) := by
  intro n
  induction n with
  | zero => intro v0 v1 v2 H locs ls hrun; exact absurd hrun (by intro h9; cases h9)
  | succ n ih =>
    intro v0 v1 v2 H locs ls hrun hR hz hS hl
    rw [s_X7_weeksToSettleAnew_L4] at hrun
    refine lv_iload_n hx hb dX7_weeksToSettleAnew_4 rfl (lv_at hl 2 rfl) ?_
    refine lv_iconst (v := 4) hx hb dX7_weeksToSettleAnew_5 (by decide) ?_
    refine lv_icmp_ge (tgt := 89) hx hb dX7_weeksToSettleAnew_6 (by decide) (fun hc => ?_) (fun hc => ?_)
    · have hrun := mt_t hrun hc
      refine lv_iload_n hx hb dX7_weeksToSettleAnew_89 rfl (lv_at hl 1 rfl) ?_
      obtain rfl := Option.some.inj hrun
      exact mr_iret hx hb hr hlocks hR hz hS dX7_weeksToSettleAnew_90
    · have hrun := mt_f hrun hc
      refine lv_iconst (v := 0) hx hb dX7_weeksToSettleAnew_9 (by decide) ?_
      refine lv_istore_n (lv' := [(3, .int 0), (0, .ref v0), (1, .int v1), (2, .int v2)]) hx hb dX7_weeksToSettleAnew_10 rfl hl (by decide) rfl (fun ls hl => ?_)
      exact k_X7_weeksToSettleAnew_L11 hx hb hr hml hown hts hlocks hin hE hA ih _ _ _ _ _ _ _ _ hrun hR hz hS (lv_sub hl [1, 2, 3, 0] rfl)
set_option maxRecDepth 100000 in
set_option maxHeartbeats 4000000 in
theorem c_X7_weeksToSettleAnew (l : Launch) (D : va_G) (ids : m_I3) (st : m_T) (z : Nat) {h : mH} {v0 : Nat} {r : Int32} (hrun : s_X7_weeksToSettleAnew h v0 = some r) : Met l yX7_weeksToSettleAnew (m_ws yX7_weeksToSettleAnew cX7_weeksToSettleAnew 6 (some .int)) rm_X7_weeksToSettleAnew (mPc D ids st [.ref v0] h z) (mQi D ids (m_A h z) r h z) rm_X7_weeksToSettleAnew.cells rm_X7_weeksToSettleAnew.slots (m_A h z) := by
  refine mr_of (cc := cX7_weeksToSettleAnew) (maxL := 6) (ret := some .int) (by decide) rfl (Nat.le_of_ble_eq_true rfl) ?_
  intro p e s m below meth c ls hx hb hr hml hown hts hlocks hin hR hE hz hl
  have hA : ∀ q, s.heap.size ≤ q → m_A h z q := fun q hq => Or.inr (by rw [← hz]; exact hq)
  have hS : va_S (m_A h z) s.heap s.heap [] := va_S.rf
  have hl : lv_has ls 6 [(0, .ref v0)] := hl
  unfold s_X7_weeksToSettleAnew at hrun
  refine lv_iconst (v := 0) hx hb dX7_weeksToSettleAnew_0 (by decide) ?_
  refine lv_istore_n (lv' := [(1, .int 0), (0, .ref v0)]) hx hb dX7_weeksToSettleAnew_1 rfl hl (by decide) rfl (fun ls hl => ?_)
  refine lv_iconst (v := 0) hx hb dX7_weeksToSettleAnew_2 (by decide) ?_
  refine lv_istore_n (lv' := [(2, .int 0), (1, .int 0), (0, .ref v0)]) hx hb dX7_weeksToSettleAnew_3 rfl hl (by decide) rfl (fun ls hl => ?_)
  exact k_X7_weeksToSettleAnew_L4 hx hb hr hml hown hts hlocks hin hE hA _ _ _ _ _ _ _ hrun hR hz hS (lv_sub hl [2, 1, 0] rfl)
/-! X7_countNumber -/
abbrev rm_X7_countNumber : Room := { frames := 5, cells := 0, slots := 0, locals := 114 }
theorem yk_X7_countNumber : m_K yX7_countNumber cX7_countNumber 2 (some .int) 1 := ⟨wm_1_151, wm_0_1, by decide +kernel⟩
theorem ys_X7_countNumber : Cond.instanceMethod yX7_countNumber ∈ wT ∧ Cond.selects RX7 yX7_countNumber yX7_countNumber ∈ wT := ⟨wm_1_150, wp_0_6⟩
set_option maxRecDepth 100000 in
set_option maxHeartbeats 4000000 in
theorem c_X7_countNumber (l : Launch) (D : va_G) (ids : m_I3) (st : m_T) (z : Nat) {h : mH} {v0 : Nat} {v1 : Int32} {r : Int32} (hrun : s_X7_countNumber h v0 v1 = some r) : Met l yX7_countNumber (m_ws yX7_countNumber cX7_countNumber 2 (some .int)) rm_X7_countNumber (mPc D ids st [.ref v0, .int v1] h z) (mQi D ids (m_A h z) r h z) rm_X7_countNumber.cells rm_X7_countNumber.slots (m_A h z) := by
  refine mr_of (cc := cX7_countNumber) (maxL := 2) (ret := some .int) (by decide) rfl (Nat.le_of_ble_eq_true rfl) ?_
  intro p e s m below meth c ls hx hb hr hml hown hts hlocks hin hR hE hz hl
  have hA : ∀ q, s.heap.size ≤ q → m_A h z q := fun q hq => Or.inr (by rw [← hz]; exact hq)
  have hS : va_S (m_A h z) s.heap s.heap [] := va_S.rf
  have hl : lv_has ls 2 [(0, .ref v0), (1, .int v1)] := hl
  unfold s_X7_countNumber at hrun
  refine lv_iload_n hx hb dX7_countNumber_0 rfl (lv_at hl 1 rfl) ?_
  by_cases hc0 : v1 = 0
  · have hrun := mt_t hrun hc0
    refine lv_tableIn (tgt := 52) (off := 51) hx hb dX7_countNumber_1 (by rw [hc0]; decide) (by rw [hc0]; decide) (by rw [hc0]; rfl) (by decide) ?_
    refine lv_aload_n hx hb dX7_countNumber_52 rfl (lv_at hl 0 rfl) ?_
    obtain ⟨x53, hc9, hrun⟩ := m_bind hrun
    refine mr_get (C := RX7) (T := TX7) (N := 8) (ci := 5) hx hb hts (fun w q => m_ws_in (wi_X7 w q)) hown hR rfl 0 (by decide) (hts _ (m_ws_in wm_1_7)) (fun _ h9 => h9) (m_gr_spec hc9) dX7_countNumber_53 ?_
    obtain ⟨x56, hc9, hrun⟩ := m_bind hrun
    refine mr_getN (C := RX3) (T := TX3) (N := 10) (ci := 2) hx hb hts (fun w q => m_ws_in (wi_X3 w q)) hown hR rfl 0 (by decide) (hE.nf (i := 3) rfl) (fun _ h9 => h9) (m_gr_spec hc9) dX7_countNumber_56 ?_
    obtain ⟨x59, hc9, hrun⟩ := m_bind hrun
    refine mr_getN (C := RX5) (T := TX5) (N := 2) (ci := 3) hx hb hts (fun w q => m_ws_in (wi_X5 w q)) hown hR rfl 1 (by decide) (hE.nf (i := 0) rfl) (fun _ h9 => h9) (m_gi_spec hc9) dX7_countNumber_59 ?_
    obtain rfl := Option.some.inj hrun
    exact mr_iret hx hb hr hlocks hR hz hS dX7_countNumber_62
  have hrun := mt_f hrun hc0
  have hn0 : ¬ (v1).toInt = 0 := lv_neT hc0 rfl
  by_cases hc1 : v1 = 1
  · have hrun := mt_t hrun hc1
    refine lv_tableIn (tgt := 63) (off := 62) hx hb dX7_countNumber_1 (by rw [hc1]; decide) (by rw [hc1]; decide) (by rw [hc1]; rfl) (by decide) ?_
    refine lv_aload_n hx hb dX7_countNumber_63 rfl (lv_at hl 0 rfl) ?_
    obtain ⟨x64, hc9, hrun⟩ := m_bind hrun
    refine mr_get (C := RX7) (T := TX7) (N := 8) (ci := 5) hx hb hts (fun w q => m_ws_in (wi_X7 w q)) hown hR rfl 1 (by decide) (hts _ (m_ws_in wm_1_8)) (fun _ h9 => h9) (m_gr_spec hc9) dX7_countNumber_64 ?_
    obtain ⟨x67, hc9, hrun⟩ := m_bind hrun
    refine mr_getN (C := RX0) (T := TX0) (N := 9) (ci := 0) hx hb hts (fun w q => m_ws_in (wi_X0 w q)) hown hR rfl 2 (by decide) (hE.nf (i := 13) rfl) (fun _ h9 => h9) (m_gr_spec hc9) dX7_countNumber_67 ?_
    obtain ⟨x70, hc9, hrun⟩ := m_bind hrun
    refine mr_calli (mr_runS (As := [.ref x67]) (rest := []) hx hb hml hown hts (c_X1_sum l D ids st z hc9) yk_X1_sum ys_X1_sum wm_1_152 ⟨(Nat.le_of_ble_eq_true rfl), (Nat.le_of_ble_eq_true rfl)⟩ (mr_recvS hR hE hz hS hA) hl.1 rfl (Nat.le_of_ble_eq_true rfl) dX7_countNumber_70 ⟨(Nat.le_of_ble_eq_true rfl), (Nat.le_of_ble_eq_true rfl)⟩) hR hz hS hA (fun H locs hR hz hS => ?_)
    obtain rfl := Option.some.inj hrun
    exact mr_iret hx hb hr hlocks hR hz hS dX7_countNumber_73
  have hrun := mt_f hrun hc1
  have hn1 : ¬ (v1).toInt = 1 := lv_neT hc1 rfl
  by_cases hc2 : v1 = 2
  · have hrun := mt_t hrun hc2
    refine lv_tableIn (tgt := 74) (off := 73) hx hb dX7_countNumber_1 (by rw [hc2]; decide) (by rw [hc2]; decide) (by rw [hc2]; rfl) (by decide) ?_
    refine lv_aload_n hx hb dX7_countNumber_74 rfl (lv_at hl 0 rfl) ?_
    obtain ⟨x75, hc9, hrun⟩ := m_bind hrun
    refine mr_get (C := RX7) (T := TX7) (N := 8) (ci := 5) hx hb hts (fun w q => m_ws_in (wi_X7 w q)) hown hR rfl 1 (by decide) (hts _ (m_ws_in wm_1_8)) (fun _ h9 => h9) (m_gr_spec hc9) dX7_countNumber_75 ?_
    obtain ⟨x78, hc9, hrun⟩ := m_bind hrun
    refine mr_getN (C := RX0) (T := TX0) (N := 9) (ci := 0) hx hb hts (fun w q => m_ws_in (wi_X0 w q)) hown hR rfl 3 (by decide) (hE.nf (i := 14) rfl) (fun _ h9 => h9) (m_gr_spec hc9) dX7_countNumber_78 ?_
    obtain ⟨x81, hc9, hrun⟩ := m_bind hrun
    refine mr_calli (mr_runS (As := [.ref x78]) (rest := []) hx hb hml hown hts (c_X1_sum l D ids st z hc9) yk_X1_sum ys_X1_sum wm_1_152 ⟨(Nat.le_of_ble_eq_true rfl), (Nat.le_of_ble_eq_true rfl)⟩ (mr_recvS hR hE hz hS hA) hl.1 rfl (Nat.le_of_ble_eq_true rfl) dX7_countNumber_81 ⟨(Nat.le_of_ble_eq_true rfl), (Nat.le_of_ble_eq_true rfl)⟩) hR hz hS hA (fun H locs hR hz hS => ?_)
    obtain rfl := Option.some.inj hrun
    exact mr_iret hx hb hr hlocks hR hz hS dX7_countNumber_84
  have hrun := mt_f hrun hc2
  have hn2 : ¬ (v1).toInt = 2 := lv_neT hc2 rfl
  by_cases hc3 : v1 = 3
  · have hrun := mt_t hrun hc3
    refine lv_tableIn (tgt := 85) (off := 84) hx hb dX7_countNumber_1 (by rw [hc3]; decide) (by rw [hc3]; decide) (by rw [hc3]; rfl) (by decide) ?_
    refine lv_aload_n hx hb dX7_countNumber_85 rfl (lv_at hl 0 rfl) ?_
    obtain ⟨_, ho9, hrun⟩ := m_bind hrun
    obtain ⟨fs9, ho9⟩ := m_is_spec ho9
    obtain ⟨x86, hc9, hrun⟩ := m_bind hrun
    refine mr_calli (mr_runV (As := []) (rest := []) hx hb hml hown hts (c_X7_costOfAll l D ids st z hc9) yk_X7_costOfAll ys_X7_costOfAll wm_1_155 ⟨(Nat.le_of_ble_eq_true rfl), (Nat.le_of_ble_eq_true rfl)⟩ (mr_recv (ci := 5) hR hE hz hS hA rfl ho9) hl.1 rfl (Nat.le_of_ble_eq_true rfl) dX7_countNumber_86 ⟨(Nat.le_of_ble_eq_true rfl), (Nat.le_of_ble_eq_true rfl)⟩) hR hz hS hA (fun H locs hR hz hS => ?_)
    obtain rfl := Option.some.inj hrun
    exact mr_iret hx hb hr hlocks hR hz hS dX7_countNumber_89
  have hrun := mt_f hrun hc3
  have hn3 : ¬ (v1).toInt = 3 := lv_neT hc3 rfl
  by_cases hc4 : v1 = 4
  · have hrun := mt_t hrun hc4
    refine lv_tableIn (tgt := 90) (off := 89) hx hb dX7_countNumber_1 (by rw [hc4]; decide) (by rw [hc4]; decide) (by rw [hc4]; rfl) (by decide) ?_
    refine lv_aload_n hx hb dX7_countNumber_90 rfl (lv_at hl 0 rfl) ?_
    obtain ⟨x91, hc9, hrun⟩ := m_bind hrun
    refine mr_get (C := RX7) (T := TX7) (N := 8) (ci := 5) hx hb hts (fun w q => m_ws_in (wi_X7 w q)) hown hR rfl 0 (by decide) (hts _ (m_ws_in wm_1_7)) (fun _ h9 => h9) (m_gr_spec hc9) dX7_countNumber_91 ?_
    obtain ⟨x94, hc9, hrun⟩ := m_bind hrun
    refine mr_getN (C := RX3) (T := TX3) (N := 10) (ci := 2) hx hb hts (fun w q => m_ws_in (wi_X3 w q)) hown hR rfl 2 (by decide) (hE.nf (i := 5) rfl) (fun _ h9 => h9) (m_gr_spec hc9) dX7_countNumber_94 ?_
    obtain ⟨x97, hc9, hrun⟩ := m_bind hrun
    refine mr_calli (mr_runS (As := [.ref x94]) (rest := []) hx hb hml hown hts (c_X1_sum l D ids st z hc9) yk_X1_sum ys_X1_sum wm_1_152 ⟨(Nat.le_of_ble_eq_true rfl), (Nat.le_of_ble_eq_true rfl)⟩ (mr_recvS hR hE hz hS hA) hl.1 rfl (Nat.le_of_ble_eq_true rfl) dX7_countNumber_97 ⟨(Nat.le_of_ble_eq_true rfl), (Nat.le_of_ble_eq_true rfl)⟩) hR hz hS hA (fun H locs hR hz hS => ?_)
    obtain rfl := Option.some.inj hrun
    exact mr_iret hx hb hr hlocks hR hz hS dX7_countNumber_100
  have hrun := mt_f hrun hc4
  have hn4 : ¬ (v1).toInt = 4 := lv_neT hc4 rfl
  by_cases hc5 : v1 = 5
  · have hrun := mt_t hrun hc5
    refine lv_tableIn (tgt := 101) (off := 100) hx hb dX7_countNumber_1 (by rw [hc5]; decide) (by rw [hc5]; decide) (by rw [hc5]; rfl) (by decide) ?_
    refine lv_aload_n hx hb dX7_countNumber_101 rfl (lv_at hl 0 rfl) ?_
    obtain ⟨x102, hc9, hrun⟩ := m_bind hrun
    refine mr_get (C := RX7) (T := TX7) (N := 8) (ci := 5) hx hb hts (fun w q => m_ws_in (wi_X7 w q)) hown hR rfl 0 (by decide) (hts _ (m_ws_in wm_1_7)) (fun _ h9 => h9) (m_gr_spec hc9) dX7_countNumber_102 ?_
    obtain ⟨x105, hc9, hrun⟩ := m_bind hrun
    refine mr_getN (C := RX3) (T := TX3) (N := 10) (ci := 2) hx hb hts (fun w q => m_ws_in (wi_X3 w q)) hown hR rfl 7 (by decide) (hE.nf (i := 8) rfl) (fun _ h9 => h9) (m_gi_spec hc9) dX7_countNumber_105 ?_
    obtain rfl := Option.some.inj hrun
    exact mr_iret hx hb hr hlocks hR hz hS dX7_countNumber_108
  have hrun := mt_f hrun hc5
  have hn5 : ¬ (v1).toInt = 5 := lv_neT hc5 rfl
  by_cases hc6 : v1 = 6
  · have hrun := mt_t hrun hc6
    refine lv_tableIn (tgt := 109) (off := 108) hx hb dX7_countNumber_1 (by rw [hc6]; decide) (by rw [hc6]; decide) (by rw [hc6]; rfl) (by decide) ?_
    refine lv_aload_n hx hb dX7_countNumber_109 rfl (lv_at hl 0 rfl) ?_
    obtain ⟨x110, hc9, hrun⟩ := m_bind hrun
    refine mr_get (C := RX7) (T := TX7) (N := 8) (ci := 5) hx hb hts (fun w q => m_ws_in (wi_X7 w q)) hown hR rfl 0 (by decide) (hts _ (m_ws_in wm_1_7)) (fun _ h9 => h9) (m_gr_spec hc9) dX7_countNumber_110 ?_
    obtain ⟨x113, hc9, hrun⟩ := m_bind hrun
    refine mr_getN (C := RX3) (T := TX3) (N := 10) (ci := 2) hx hb hts (fun w q => m_ws_in (wi_X3 w q)) hown hR rfl 8 (by decide) (hE.nf (i := 9) rfl) (fun _ h9 => h9) (m_gi_spec hc9) dX7_countNumber_113 ?_
    obtain rfl := Option.some.inj hrun
    exact mr_iret hx hb hr hlocks hR hz hS dX7_countNumber_116
  have hrun := mt_f hrun hc6
  have hn6 : ¬ (v1).toInt = 6 := lv_neT hc6 rfl
  by_cases hc7 : v1 = 7
  · have hrun := mt_t hrun hc7
    refine lv_tableIn (tgt := 117) (off := 116) hx hb dX7_countNumber_1 (by rw [hc7]; decide) (by rw [hc7]; decide) (by rw [hc7]; rfl) (by decide) ?_
    refine lv_aload_n hx hb dX7_countNumber_117 rfl (lv_at hl 0 rfl) ?_
    obtain ⟨x118, hc9, hrun⟩ := m_bind hrun
    refine mr_get (C := RX7) (T := TX7) (N := 8) (ci := 5) hx hb hts (fun w q => m_ws_in (wi_X7 w q)) hown hR rfl 0 (by decide) (hts _ (m_ws_in wm_1_7)) (fun _ h9 => h9) (m_gr_spec hc9) dX7_countNumber_118 ?_
    obtain ⟨x121, hc9, hrun⟩ := m_bind hrun
    refine mr_getN (C := RX3) (T := TX3) (N := 10) (ci := 2) hx hb hts (fun w q => m_ws_in (wi_X3 w q)) hown hR rfl 9 (by decide) (hE.nf (i := 10) rfl) (fun _ h9 => h9) (m_gi_spec hc9) dX7_countNumber_121 ?_
    obtain rfl := Option.some.inj hrun
    exact mr_iret hx hb hr hlocks hR hz hS dX7_countNumber_124
  have hrun := mt_f hrun hc7
  have hn7 : ¬ (v1).toInt = 7 := lv_neT hc7 rfl
  by_cases hc8 : v1 = 8
  · have hrun := mt_t hrun hc8
    refine lv_tableIn (tgt := 125) (off := 124) hx hb dX7_countNumber_1 (by rw [hc8]; decide) (by rw [hc8]; decide) (by rw [hc8]; rfl) (by decide) ?_
    refine lv_aload_n hx hb dX7_countNumber_125 rfl (lv_at hl 0 rfl) ?_
    obtain ⟨_, ho9, hrun⟩ := m_bind hrun
    obtain ⟨fs9, ho9⟩ := m_is_spec ho9
    obtain ⟨x126, hc9, hrun⟩ := m_bind hrun
    refine mr_calli (mr_runV (As := []) (rest := []) hx hb hml hown hts (c_X7_weeksToSettleAnew l D ids st z hc9) yk_X7_weeksToSettleAnew ys_X7_weeksToSettleAnew wm_1_174 ⟨(Nat.le_of_ble_eq_true rfl), (Nat.le_of_ble_eq_true rfl)⟩ (mr_recv (ci := 5) hR hE hz hS hA rfl ho9) hl.1 rfl (Nat.le_of_ble_eq_true rfl) dX7_countNumber_126 ⟨(Nat.le_of_ble_eq_true rfl), (Nat.le_of_ble_eq_true rfl)⟩) hR hz hS hA (fun H locs hR hz hS => ?_)
    obtain rfl := Option.some.inj hrun
    exact mr_iret hx hb hr hlocks hR hz hS dX7_countNumber_129
  have hrun := mt_f hrun hc8
  have hn8 : ¬ (v1).toInt = 8 := lv_neT hc8 rfl
  refine lv_tableOut (tgt := 130) hx hb dX7_countNumber_1 (by omega) (by decide) ?_
  refine lv_aload_n hx hb dX7_countNumber_130 rfl (lv_at hl 0 rfl) ?_
  obtain ⟨x131, hc9, hrun⟩ := m_bind hrun
  refine mr_get (C := RX7) (T := TX7) (N := 8) (ci := 5) hx hb hts (fun w q => m_ws_in (wi_X7 w q)) hown hR rfl 2 (by decide) (hts _ (m_ws_in wm_1_9)) (fun _ h9 => h9) (m_gr_spec hc9) dX7_countNumber_131 ?_
  obtain ⟨x134, hc9, hrun⟩ := m_bind hrun
  refine mr_getN (C := RX2) (T := TX2) (N := 3) (ci := 1) hx hb hts (fun w q => m_ws_in (wi_X2 w q)) hown hR rfl 2 (by decide) (hE.nf (i := 17) rfl) (fun _ h9 => h9) (m_gi_spec hc9) dX7_countNumber_134 ?_
  obtain rfl := Option.some.inj hrun
  exact mr_iret hx hb hr hlocks hR hz hS dX7_countNumber_137
/-! X7_count -/
abbrev rm_X7_count : Room := { frames := 6, cells := 0, slots := 0, locals := 135 }
theorem yk_X7_count : m_K yX7_count cX7_count 2 (some .int) 1 := ⟨wm_1_128, wm_0_1, by decide +kernel⟩
theorem ys_X7_count : Cond.instanceMethod yX7_count ∈ wT ∧ Cond.selects RX7 yX7_count yX7_count ∈ wT := ⟨wm_1_126, wm_1_127⟩
set_option maxRecDepth 100000 in
set_option maxHeartbeats 4000000 in
theorem c_X7_count (l : Launch) (D : va_G) (ids : m_I3) (st : m_T) (z : Nat) {h : mH} {v0 : Nat} {v1 : Int32} {r : Int32} {hF : mH} (hrun : s_X7_count h v0 v1 = some (Sum.inr r, hF)) : Met l yX7_count (m_ws yX7_count cX7_count 2 (some .int)) rm_X7_count (mPc D ids st [.ref v0, .int v1] h z) (mQi D ids (m_A h z) r hF z) rm_X7_count.cells rm_X7_count.slots (m_A h z) := by
  refine mr_of (cc := cX7_count) (maxL := 2) (ret := some .int) (by decide) rfl (Nat.le_of_ble_eq_true rfl) ?_
  intro p e s m below meth c ls hx hb hr hml hown hts hlocks hin hR hE hz hl
  have hA : ∀ q, s.heap.size ≤ q → m_A h z q := fun q hq => Or.inr (by rw [← hz]; exact hq)
  have hS : va_S (m_A h z) s.heap s.heap [] := va_S.rf
  have hl : lv_has ls 2 [(0, .ref v0), (1, .int v1)] := hl
  unfold s_X7_count at hrun
  refine lv_iload_n hx hb dX7_count_0 rfl (lv_at hl 1 rfl) ?_
  refine lv_bipush (v := 10) hx hb dX7_count_1 (by decide) ?_
  obtain ⟨x3, hc9, hrun⟩ := m_bind hrun
  refine mr_calli (mr_runS (As := [.int v1, .int 10]) (rest := []) hx hb hml hown hts (c_X7_isBelow l D ids st z hc9) yk_X7_isBelow ys_X7_isBelow wm_1_129 ⟨(Nat.le_of_ble_eq_true rfl), (Nat.le_of_ble_eq_true rfl)⟩ (mr_recvS hR hE hz hS hA) hl.1 rfl (Nat.le_of_ble_eq_true rfl) dX7_count_3 ⟨(Nat.le_of_ble_eq_true rfl), (Nat.le_of_ble_eq_true rfl)⟩) hR hz hS hA (fun H locs hR hz hS => ?_)
  refine lv_if_ne (tgt := 19) hx hb dX7_count_6 (by decide) (fun hc => ?_) (fun hc => ?_)
  · have hrun := mt_f hrun hc
    refine lv_aload_n hx hb dX7_count_19 rfl (lv_at hl 0 rfl) ?_
    refine lv_iload_n hx hb dX7_count_20 rfl (lv_at hl 1 rfl) ?_
    obtain ⟨_, ho9, hrun⟩ := m_bind hrun
    obtain ⟨fs9, ho9⟩ := m_is_spec ho9
    obtain ⟨x21, hc9, hrun⟩ := m_bind hrun
    refine mr_calli (mr_runV (As := [.int v1]) (rest := []) hx hb hml hown hts (c_X7_countNumber l D ids st z hc9) yk_X7_countNumber ys_X7_countNumber wm_1_148 ⟨(Nat.le_of_ble_eq_true rfl), (Nat.le_of_ble_eq_true rfl)⟩ (mr_recv (ci := 5) hR hE hz hS hA rfl ho9) hl.1 rfl (Nat.le_of_ble_eq_true rfl) dX7_count_21 ⟨(Nat.le_of_ble_eq_true rfl), (Nat.le_of_ble_eq_true rfl)⟩) hR hz hS hA (fun H locs hR hz hS => ?_)
    obtain ⟨hv9, rfl⟩ := Prod.mk.inj (Option.some.inj hrun); obtain rfl := Sum.inr.inj hv9
    exact mr_iret hx hb hr hlocks hR hz hS dX7_count_24
  · have hrun := mt_t hrun hc
    exact absurd (Prod.mk.inj (Option.some.inj hrun)).1 (fun h9 => nomatch h9)
/-! X7_isPlace -/
abbrev rm_X7_isPlace : Room := { frames := 1, cells := 0, slots := 0, locals := 21 }
theorem yk_X7_isPlace : m_K yX7_isPlace cX7_isPlace 2 (some .boolean) 1 := ⟨wm_1_197, wm_0_1, by decide +kernel⟩
theorem ys_X7_isPlace : Cond.instanceMethod yX7_isPlace ∈ wT ∧ Cond.selects RX7 yX7_isPlace yX7_isPlace ∈ wT := ⟨wm_1_196, wp_0_9⟩
set_option maxRecDepth 100000 in
set_option maxHeartbeats 4000000 in
theorem c_X7_isPlace (l : Launch) (D : va_G) (ids : m_I3) (st : m_T) (z : Nat) {h : mH} {v0 : Nat} {v1 : Int32} {r : Int32} (hrun : s_X7_isPlace h v0 v1 = some r) : Met l yX7_isPlace (m_ws yX7_isPlace cX7_isPlace 2 (some .boolean)) rm_X7_isPlace (mPc D ids st [.ref v0, .int v1] h z) (mQi D ids (m_A h z) r h z) rm_X7_isPlace.cells rm_X7_isPlace.slots (m_A h z) := by
  refine mr_of (cc := cX7_isPlace) (maxL := 2) (ret := some .boolean) (by decide) rfl (Nat.le_of_ble_eq_true rfl) ?_
  intro p e s m below meth c ls hx hb hr hml hown hts hlocks hin hR hE hz hl
  have hA : ∀ q, s.heap.size ≤ q → m_A h z q := fun q hq => Or.inr (by rw [← hz]; exact hq)
  have hS : va_S (m_A h z) s.heap s.heap [] := va_S.rf
  have hl : lv_has ls 2 [(0, .ref v0), (1, .int v1)] := hl
  unfold s_X7_isPlace at hrun
  refine lv_iload_n hx hb dX7_isPlace_0 rfl (lv_at hl 1 rfl) ?_
  refine lv_aload_n hx hb dX7_isPlace_1 rfl (lv_at hl 0 rfl) ?_
  obtain ⟨x2, hc9, hrun⟩ := m_bind hrun
  refine mr_get (C := RX7) (T := TX7) (N := 8) (ci := 5) hx hb hts (fun w q => m_ws_in (wi_X7 w q)) hown hR rfl 0 (by decide) (hts _ (m_ws_in wm_1_7)) (fun _ h9 => h9) (m_gr_spec hc9) dX7_isPlace_2 ?_
  obtain ⟨x5, hc9, hrun⟩ := m_bind hrun
  refine mr_getN (C := RX3) (T := TX3) (N := 10) (ci := 2) hx hb hts (fun w q => m_ws_in (wi_X3 w q)) hown hR rfl 0 (by decide) (hE.nf (i := 3) rfl) (fun _ h9 => h9) (m_gr_spec hc9) dX7_isPlace_5 ?_
  obtain ⟨x8, hc9, hrun⟩ := m_bind hrun
  refine mr_getN (C := RX5) (T := TX5) (N := 2) (ci := 3) hx hb hts (fun w q => m_ws_in (wi_X5 w q)) hown hR rfl 1 (by decide) (hE.nf (i := 0) rfl) (fun _ h9 => h9) (m_gi_spec hc9) dX7_isPlace_8 ?_
  obtain ⟨x11, hc9, hrun⟩ := m_bind hrun
  refine mr_calli (mr_runS (As := [.int v1, .int x8]) (rest := []) hx hb hml hown hts (c_X7_isBelow l D ids st z hc9) yk_X7_isBelow ys_X7_isBelow wm_1_129 ⟨(Nat.le_of_ble_eq_true rfl), (Nat.le_of_ble_eq_true rfl)⟩ (mr_recvS hR hE hz hS hA) hl.1 rfl (Nat.le_of_ble_eq_true rfl) dX7_isPlace_11 ⟨(Nat.le_of_ble_eq_true rfl), (Nat.le_of_ble_eq_true rfl)⟩) hR hz hS hA (fun H locs hR hz hS => ?_)
  obtain ⟨w9, hzr, hrun⟩ := m_bind hrun
  obtain rfl := Option.some.inj hrun
  exact mr_zret hzr hx hb hr hlocks hR hz hS dX7_isPlace_14
/-! X5_tapAt -/
abbrev rm_X5_tapAt : Room := { frames := 1, cells := 0, slots := 0, locals := 21 }
theorem yk_X5_tapAt : m_K yX5_tapAt cX5_tapAt 2 (some .int) 1 := ⟨wm_0_201, wm_0_3, by decide +kernel⟩
theorem ys_X5_tapAt : Cond.instanceMethod yX5_tapAt ∈ wT ∧ Cond.selects RX5 yX5_tapAt yX5_tapAt ∈ wT := ⟨wm_0_199, wm_0_200⟩
set_option maxRecDepth 100000 in
set_option maxHeartbeats 4000000 in
theorem c_X5_tapAt (l : Launch) (D : va_G) (ids : m_I3) (st : m_T) (z : Nat) {h : mH} {v0 : Nat} {v1 : Int32} {r : Int32} (hrun : s_X5_tapAt h v0 v1 = some r) : Met l yX5_tapAt (m_ws yX5_tapAt cX5_tapAt 2 (some .int)) rm_X5_tapAt (mPc D ids st [.ref v0, .int v1] h z) (mQi D ids (m_A h z) r h z) rm_X5_tapAt.cells rm_X5_tapAt.slots (m_A h z) := by
  refine mr_of (cc := cX5_tapAt) (maxL := 2) (ret := some .int) (by decide) rfl (Nat.le_of_ble_eq_true rfl) ?_
  intro p e s m below meth c ls hx hb hr hml hown hts hlocks hin hR hE hz hl
  have hA : ∀ q, s.heap.size ≤ q → m_A h z q := fun q hq => Or.inr (by rw [← hz]; exact hq)
  have hS : va_S (m_A h z) s.heap s.heap [] := va_S.rf
  have hl : lv_has ls 2 [(0, .ref v0), (1, .int v1)] := hl
  unfold s_X5_tapAt at hrun
  refine lv_aload_n hx hb dX5_tapAt_0 rfl (lv_at hl 0 rfl) ?_
  obtain ⟨x1, hc9, hrun⟩ := m_bind hrun
  refine mr_get (C := RX5) (T := TX5) (N := 2) (ci := 3) hx hb hts (fun w q => m_ws_in (wi_X5 w q)) hown hR rfl 0 (by decide) (hts _ (m_ws_in wm_0_36)) (fun _ h9 => h9) (m_gr_spec hc9) dX5_tapAt_1 ?_
  refine lv_iload_n hx hb dX5_tapAt_4 rfl (lv_at hl 1 rfl) ?_
  obtain ⟨x5, hc9, hrun⟩ := m_bind hrun
  refine mr_calli (mr_runS (As := [.ref x1, .int v1]) (rest := []) hx hb hml hown hts (c_X1_at l D ids st z hc9) yk_X1_at ys_X1_at wm_0_202 ⟨(Nat.le_of_ble_eq_true rfl), (Nat.le_of_ble_eq_true rfl)⟩ (mr_recvS hR hE hz hS hA) hl.1 rfl (Nat.le_of_ble_eq_true rfl) dX5_tapAt_5 ⟨(Nat.le_of_ble_eq_true rfl), (Nat.le_of_ble_eq_true rfl)⟩) hR hz hS hA (fun H locs hR hz hS => ?_)
  obtain rfl := Option.some.inj hrun
  exact mr_iret hx hb hr hlocks hR hz hS dX5_tapAt_8
/-! X4_walletOf -/
abbrev rm_X4_walletOf : Room := { frames := 0, cells := 0, slots := 0, locals := 0 }
theorem yk_X4_walletOf : m_K yX4_walletOf cX4_walletOf 1 (some .int) 1 := ⟨wm_0_205, wm_0_8, by decide +kernel⟩
theorem ys_X4_walletOf : Cond.static yX4_walletOf ∈ wT := wm_0_204
set_option maxRecDepth 100000 in
set_option maxHeartbeats 4000000 in
theorem c_X4_walletOf (l : Launch) (D : va_G) (ids : m_I3) (st : m_T) (z : Nat) {h : mH} {v0 : Int32} {r : Int32} (hrun : s_X4_walletOf h v0 = some r) : Met l yX4_walletOf (m_ws yX4_walletOf cX4_walletOf 1 (some .int)) rm_X4_walletOf (mPc D ids st [.int v0] h z) (mQi D ids (m_A h z) r h z) rm_X4_walletOf.cells rm_X4_walletOf.slots (m_A h z) := by
  refine mr_of (cc := cX4_walletOf) (maxL := 1) (ret := some .int) (by decide) rfl (Nat.le_of_ble_eq_true rfl) ?_
  intro p e s m below meth c ls hx hb hr hml hown hts hlocks hin hR hE hz hl
  have hA : ∀ q, s.heap.size ≤ q → m_A h z q := fun q hq => Or.inr (by rw [← hz]; exact hq)
  have hS : va_S (m_A h z) s.heap s.heap [] := va_S.rf
  have hl : lv_has ls 1 [(0, .int v0)] := hl
  unfold s_X4_walletOf at hrun
  refine lv_iload_n hx hb dX4_walletOf_0 rfl (lv_at hl 0 rfl) ?_
  refine lv_bipush (v := 6) hx hb dX4_walletOf_1 (by decide) ?_
  refine lv_ishr hx hb dX4_walletOf_3 ?_
  refine lv_iconst (v := 3) hx hb dX4_walletOf_4 (by decide) ?_
  refine lv_iand hx hb dX4_walletOf_5 ?_
  obtain rfl := Option.some.inj hrun
  exact mr_iret hx hb hr hlocks hR hz hS dX4_walletOf_6
/-! X4_dayOf -/
abbrev rm_X4_dayOf : Room := { frames := 0, cells := 0, slots := 0, locals := 0 }
theorem yk_X4_dayOf : m_K yX4_dayOf cX4_dayOf 1 (some .int) 1 := ⟨wm_0_214, wm_0_8, by decide +kernel⟩
theorem ys_X4_dayOf : Cond.static yX4_dayOf ∈ wT := wm_0_213
set_option maxRecDepth 100000 in
set_option maxHeartbeats 4000000 in
theorem c_X4_dayOf (l : Launch) (D : va_G) (ids : m_I3) (st : m_T) (z : Nat) {h : mH} {v0 : Int32} {r : Int32} (hrun : s_X4_dayOf h v0 = some r) : Met l yX4_dayOf (m_ws yX4_dayOf cX4_dayOf 1 (some .int)) rm_X4_dayOf (mPc D ids st [.int v0] h z) (mQi D ids (m_A h z) r h z) rm_X4_dayOf.cells rm_X4_dayOf.slots (m_A h z) := by
  refine mr_of (cc := cX4_dayOf) (maxL := 1) (ret := some .int) (by decide) rfl (Nat.le_of_ble_eq_true rfl) ?_
  intro p e s m below meth c ls hx hb hr hml hown hts hlocks hin hR hE hz hl
  have hA : ∀ q, s.heap.size ≤ q → m_A h z q := fun q hq => Or.inr (by rw [← hz]; exact hq)
  have hS : va_S (m_A h z) s.heap s.heap [] := va_S.rf
  have hl : lv_has ls 1 [(0, .int v0)] := hl
  unfold s_X4_dayOf at hrun
  refine lv_iload_n hx hb dX4_dayOf_0 rfl (lv_at hl 0 rfl) ?_
  refine lv_bipush (v := 19) hx hb dX4_dayOf_1 (by decide) ?_
  refine lv_ishr hx hb dX4_dayOf_3 ?_
  refine lv_bipush (v := 31) hx hb dX4_dayOf_4 (by decide) ?_
  refine lv_iand hx hb dX4_dayOf_6 ?_
  obtain rfl := Option.some.inj hrun
  exact mr_iret hx hb hr hlocks hR hz hS dX4_dayOf_7
/-! X4_minuteOf -/
abbrev rm_X4_minuteOf : Room := { frames := 0, cells := 0, slots := 0, locals := 0 }
theorem yk_X4_minuteOf : m_K yX4_minuteOf cX4_minuteOf 1 (some .int) 1 := ⟨wm_0_217, wm_0_8, by decide +kernel⟩
theorem ys_X4_minuteOf : Cond.static yX4_minuteOf ∈ wT := wm_0_216
set_option maxRecDepth 100000 in
set_option maxHeartbeats 4000000 in
theorem c_X4_minuteOf (l : Launch) (D : va_G) (ids : m_I3) (st : m_T) (z : Nat) {h : mH} {v0 : Int32} {r : Int32} (hrun : s_X4_minuteOf h v0 = some r) : Met l yX4_minuteOf (m_ws yX4_minuteOf cX4_minuteOf 1 (some .int)) rm_X4_minuteOf (mPc D ids st [.int v0] h z) (mQi D ids (m_A h z) r h z) rm_X4_minuteOf.cells rm_X4_minuteOf.slots (m_A h z) := by
  refine mr_of (cc := cX4_minuteOf) (maxL := 1) (ret := some .int) (by decide) rfl (Nat.le_of_ble_eq_true rfl) ?_
  intro p e s m below meth c ls hx hb hr hml hown hts hlocks hin hR hE hz hl
  have hA : ∀ q, s.heap.size ≤ q → m_A h z q := fun q hq => Or.inr (by rw [← hz]; exact hq)
  have hS : va_S (m_A h z) s.heap s.heap [] := va_S.rf
  have hl : lv_has ls 1 [(0, .int v0)] := hl
  unfold s_X4_minuteOf at hrun
  refine lv_iload_n hx hb dX4_minuteOf_0 rfl (lv_at hl 0 rfl) ?_
  refine lv_bipush (v := 8) hx hb dX4_minuteOf_1 (by decide) ?_
  refine lv_ishr hx hb dX4_minuteOf_3 ?_
  refine lv_sipush (v := 2047) hx hb dX4_minuteOf_4 (by decide) ?_
  refine lv_iand hx hb dX4_minuteOf_7 ?_
  obtain rfl := Option.some.inj hrun
  exact mr_iret hx hb hr hlocks hR hz hS dX4_minuteOf_8
/-! X4_stationOf -/
abbrev rm_X4_stationOf : Room := { frames := 0, cells := 0, slots := 0, locals := 0 }
theorem yk_X4_stationOf : m_K yX4_stationOf cX4_stationOf 1 (some .int) 1 := ⟨wm_0_230, wm_0_8, by decide +kernel⟩
theorem ys_X4_stationOf : Cond.static yX4_stationOf ∈ wT := wm_0_229
set_option maxRecDepth 100000 in
set_option maxHeartbeats 4000000 in
theorem c_X4_stationOf (l : Launch) (D : va_G) (ids : m_I3) (st : m_T) (z : Nat) {h : mH} {v0 : Int32} {r : Int32} (hrun : s_X4_stationOf h v0 = some r) : Met l yX4_stationOf (m_ws yX4_stationOf cX4_stationOf 1 (some .int)) rm_X4_stationOf (mPc D ids st [.int v0] h z) (mQi D ids (m_A h z) r h z) rm_X4_stationOf.cells rm_X4_stationOf.slots (m_A h z) := by
  refine mr_of (cc := cX4_stationOf) (maxL := 1) (ret := some .int) (by decide) rfl (Nat.le_of_ble_eq_true rfl) ?_
  intro p e s m below meth c ls hx hb hr hml hown hts hlocks hin hR hE hz hl
  have hA : ∀ q, s.heap.size ≤ q → m_A h z q := fun q hq => Or.inr (by rw [← hz]; exact hq)
  have hS : va_S (m_A h z) s.heap s.heap [] := va_S.rf
  have hl : lv_has ls 1 [(0, .int v0)] := hl
  unfold s_X4_stationOf at hrun
  refine lv_iload_n hx hb dX4_stationOf_0 rfl (lv_at hl 0 rfl) ?_
  refine lv_iconst (v := 2) hx hb dX4_stationOf_1 (by decide) ?_
  refine lv_ishr hx hb dX4_stationOf_2 ?_
  refine lv_bipush (v := 15) hx hb dX4_stationOf_3 (by decide) ?_
  refine lv_iand hx hb dX4_stationOf_5 ?_
  obtain rfl := Option.some.inj hrun
  exact mr_iret hx hb hr hlocks hR hz hS dX4_stationOf_6
/-! X4_isIn -/
abbrev rm_X4_isIn : Room := { frames := 0, cells := 0, slots := 0, locals := 0 }
theorem yk_X4_isIn : m_K yX4_isIn cX4_isIn 1 (some .boolean) 1 := ⟨wm_0_211, wm_0_8, by decide +kernel⟩
theorem ys_X4_isIn : Cond.static yX4_isIn ∈ wT := wm_0_210
set_option maxRecDepth 100000 in
set_option maxHeartbeats 4000000 in
theorem k_X4_isIn_b11 {p : Program} {l : Launch} {e : Env} {s : State} {m : MethodId} {args : Array Value} {below : List Frame} {meth : Method} {c : Code} {D : va_G} {ids : m_I3} {st : m_T} {A : Nat → Prop} {z : Nat} {r : Int32} (hx : p.tables.exec = Jvm.exec) (hb : c.code = cX4_isIn) (hr : meth.sig.returnType = some .boolean) (hml : c.maxLocals = 1) (hown : s.vm.findClass RX4 = some m.cls) (hts : ∀ w ∈ (m_ws yX4_isIn cX4_isIn 1 (some .boolean)), w.before args s = true) (hlocks : meth.locks = false) (hin : meth.name = yX4_isIn.name) (hE : m_EV st A s s.heap) (hA : ∀ q, s.heap.size ≤ q → A q) {h : mH} (t0 : Int32) (H : Heap) (locs : List Loc) (ls : Array Slot) (hrun : s_X4_isIn_b11 h t0 = some r) (hR : Rl D ids A h s H) (hz : H.size = z) (hS : va_S A s.heap H locs) (hl : lv_has ls 1 []) : W p l e rm_X4_isIn s m args below meth c H locs 0 0 (MQ below (mQi D ids A r h z) args s 0 0 A) (F0 m 11 ls [.int t0]) := by
  unfold s_X4_isIn_b11 at hrun
  obtain ⟨w9, hzr, hrun⟩ := m_bind hrun
  obtain rfl := Option.some.inj hrun
  exact mr_zret hzr hx hb hr hlocks hR hz hS dX4_isIn_11
set_option maxRecDepth 100000 in
set_option maxHeartbeats 4000000 in
theorem c_X4_isIn (l : Launch) (D : va_G) (ids : m_I3) (st : m_T) (z : Nat) {h : mH} {v0 : Int32} {r : Int32} (hrun : s_X4_isIn h v0 = some r) : Met l yX4_isIn (m_ws yX4_isIn cX4_isIn 1 (some .boolean)) rm_X4_isIn (mPc D ids st [.int v0] h z) (mQi D ids (m_A h z) r h z) rm_X4_isIn.cells rm_X4_isIn.slots (m_A h z) := by
  refine mr_of (cc := cX4_isIn) (maxL := 1) (ret := some .boolean) (by decide) rfl (Nat.le_of_ble_eq_true rfl) ?_
  intro p e s m below meth c ls hx hb hr hml hown hts hlocks hin hR hE hz hl
  have hA : ∀ q, s.heap.size ≤ q → m_A h z q := fun q hq => Or.inr (by rw [← hz]; exact hq)
  have hS : va_S (m_A h z) s.heap s.heap [] := va_S.rf
  have hl : lv_has ls 1 [(0, .int v0)] := hl
  unfold s_X4_isIn at hrun
  refine lv_iload_n hx hb dX4_isIn_0 rfl (lv_at hl 0 rfl) ?_
  refine lv_iconst (v := 2) hx hb dX4_isIn_1 (by decide) ?_
  refine lv_iand hx hb dX4_isIn_2 ?_
  refine lv_if_eq (tgt := 10) hx hb dX4_isIn_3 (by decide) (fun hc => ?_) (fun hc => ?_)
  · have hrun := mt_t hrun hc
    refine lv_iconst (v := 0) hx hb dX4_isIn_10 (by decide) ?_
    exact k_X4_isIn_b11 hx hb hr hml hown hts hlocks hin hE hA _ _ _ _ hrun hR hz hS (lv_sub hl [] rfl)
  · have hrun := mt_f hrun hc
    refine lv_iconst (v := 1) hx hb dX4_isIn_6 (by decide) ?_
    refine lv_goto (tgt := 11) hx hb dX4_isIn_7 (by decide) ?_
    exact k_X4_isIn_b11 hx hb hr hml hown hts hlocks hin hE hA _ _ _ _ hrun hR hz hS (lv_sub hl [] rfl)
/-! X4_isClaimed -/
abbrev rm_X4_isClaimed : Room := { frames := 0, cells := 0, slots := 0, locals := 0 }
theorem yk_X4_isClaimed : m_K yX4_isClaimed cX4_isClaimed 1 (some .boolean) 1 := ⟨wm_1_227, wm_0_8, by decide +kernel⟩
theorem ys_X4_isClaimed : Cond.static yX4_isClaimed ∈ wT := wm_1_226
set_option maxRecDepth 100000 in
set_option maxHeartbeats 4000000 in
theorem k_X4_isClaimed_b11 {p : Program} {l : Launch} {e : Env} {s : State} {m : MethodId} {args : Array Value} {below : List Frame} {meth : Method} {c : Code} {D : va_G} {ids : m_I3} {st : m_T} {A : Nat → Prop} {z : Nat} {r : Int32} (hx : p.tables.exec = Jvm.exec) (hb : c.code = cX4_isClaimed) (hr : meth.sig.returnType = some .boolean) (hml : c.maxLocals = 1) (hown : s.vm.findClass RX4 = some m.cls) (hts : ∀ w ∈ (m_ws yX4_isClaimed cX4_isClaimed 1 (some .boolean)), w.before args s = true) (hlocks : meth.locks = false) (hin : meth.name = yX4_isClaimed.name) (hE : m_EV st A s s.heap) (hA : ∀ q, s.heap.size ≤ q → A q) {h : mH} (t0 : Int32) (H : Heap) (locs : List Loc) (ls : Array Slot) (hrun : s_X4_isClaimed_b11 h t0 = some r) (hR : Rl D ids A h s H) (hz : H.size = z) (hS : va_S A s.heap H locs) (hl : lv_has ls 1 []) : W p l e rm_X4_isClaimed s m args below meth c H locs 0 0 (MQ below (mQi D ids A r h z) args s 0 0 A) (F0 m 11 ls [.int t0]) := by
  unfold s_X4_isClaimed_b11 at hrun
  obtain ⟨w9, hzr, hrun⟩ := m_bind hrun
  obtain rfl := Option.some.inj hrun
  exact mr_zret hzr hx hb hr hlocks hR hz hS dX4_isClaimed_11
set_option maxRecDepth 100000 in
set_option maxHeartbeats 4000000 in
theorem c_X4_isClaimed (l : Launch) (D : va_G) (ids : m_I3) (st : m_T) (z : Nat) {h : mH} {v0 : Int32} {r : Int32} (hrun : s_X4_isClaimed h v0 = some r) : Met l yX4_isClaimed (m_ws yX4_isClaimed cX4_isClaimed 1 (some .boolean)) rm_X4_isClaimed (mPc D ids st [.int v0] h z) (mQi D ids (m_A h z) r h z) rm_X4_isClaimed.cells rm_X4_isClaimed.slots (m_A h z) := by
  refine mr_of (cc := cX4_isClaimed) (maxL := 1) (ret := some .boolean) (by decide) rfl (Nat.le_of_ble_eq_true rfl) ?_
  intro p e s m below meth c ls hx hb hr hml hown hts hlocks hin hR hE hz hl
  have hA : ∀ q, s.heap.size ≤ q → m_A h z q := fun q hq => Or.inr (by rw [← hz]; exact hq)
  have hS : va_S (m_A h z) s.heap s.heap [] := va_S.rf
  have hl : lv_has ls 1 [(0, .int v0)] := hl
  unfold s_X4_isClaimed at hrun
  refine lv_iload_n hx hb dX4_isClaimed_0 rfl (lv_at hl 0 rfl) ?_
  refine lv_iconst (v := 1) hx hb dX4_isClaimed_1 (by decide) ?_
  refine lv_iand hx hb dX4_isClaimed_2 ?_
  refine lv_if_eq (tgt := 10) hx hb dX4_isClaimed_3 (by decide) (fun hc => ?_) (fun hc => ?_)
  · have hrun := mt_t hrun hc
    refine lv_iconst (v := 0) hx hb dX4_isClaimed_10 (by decide) ?_
    exact k_X4_isClaimed_b11 hx hb hr hml hown hts hlocks hin hE hA _ _ _ _ hrun hR hz hS (lv_sub hl [] rfl)
  · have hrun := mt_f hrun hc
    refine lv_iconst (v := 1) hx hb dX4_isClaimed_6 (by decide) ?_
    refine lv_goto (tgt := 11) hx hb dX4_isClaimed_7 (by decide) ?_
    exact k_X4_isClaimed_b11 hx hb hr hml hown hts hlocks hin hE hA _ _ _ _ hrun hR hz hS (lv_sub hl [] rfl)
/-! X7_tapProperty -/
abbrev rm_X7_tapProperty : Room := { frames := 2, cells := 0, slots := 0, locals := 42 }
theorem yk_X7_tapProperty : m_K yX7_tapProperty cX7_tapProperty 4 (some .int) 2 := ⟨wm_1_218, wm_0_1, by decide +kernel⟩
theorem ys_X7_tapProperty : Cond.instanceMethod yX7_tapProperty ∈ wT ∧ Cond.selects RX7 yX7_tapProperty yX7_tapProperty ∈ wT := ⟨wm_1_217, wp_0_10⟩
set_option maxRecDepth 100000 in
set_option maxHeartbeats 4000000 in
theorem k_X7_tapProperty_b125 {p : Program} {l : Launch} {e : Env} {s : State} {m : MethodId} {args : Array Value} {below : List Frame} {meth : Method} {c : Code} {D : va_G} {ids : m_I3} {st : m_T} {A : Nat → Prop} {z : Nat} {r : Int32} (hx : p.tables.exec = Jvm.exec) (hb : c.code = cX7_tapProperty) (hr : meth.sig.returnType = some .int) (hml : c.maxLocals = 4) (hown : s.vm.findClass RX7 = some m.cls) (hts : ∀ w ∈ (m_ws yX7_tapProperty cX7_tapProperty 4 (some .int)), w.before args s = true) (hlocks : meth.locks = false) (hin : meth.name = yX7_tapProperty.name) (hE : m_EV st A s s.heap) (hA : ∀ q, s.heap.size ≤ q → A q) {h : mH} (t0 : Int32) (H : Heap) (locs : List Loc) (ls : Array Slot) (hrun : s_X7_tapProperty_b125 h t0 = some r) (hR : Rl D ids A h s H) (hz : H.size = z) (hS : va_S A s.heap H locs) (hl : lv_has ls 4 []) : W p l e rm_X7_tapProperty s m args below meth c H locs 0 0 (MQ below (mQi D ids A r h z) args s 0 0 A) (F0 m 125 ls [.int t0]) := by
  unfold s_X7_tapProperty_b125 at hrun
  obtain rfl := Option.some.inj hrun
  exact mr_iret hx hb hr hlocks hR hz hS dX7_tapProperty_125
set_option maxRecDepth 100000 in
set_option maxHeartbeats 4000000 in
theorem k_X7_tapProperty_b88 {p : Program} {l : Launch} {e : Env} {s : State} {m : MethodId} {args : Array Value} {below : List Frame} {meth : Method} {c : Code} {D : va_G} {ids : m_I3} {st : m_T} {A : Nat → Prop} {z : Nat} {r : Int32} (hx : p.tables.exec = Jvm.exec) (hb : c.code = cX7_tapProperty) (hr : meth.sig.returnType = some .int) (hml : c.maxLocals = 4) (hown : s.vm.findClass RX7 = some m.cls) (hts : ∀ w ∈ (m_ws yX7_tapProperty cX7_tapProperty 4 (some .int)), w.before args s = true) (hlocks : meth.locks = false) (hin : meth.name = yX7_tapProperty.name) (hE : m_EV st A s s.heap) (hA : ∀ q, s.heap.size ≤ q → A q) {h : mH} (t0 : Int32) (H : Heap) (locs : List Loc) (ls : Array Slot) (hrun : s_X7_tapProperty_b88 h t0 = some r) (hR : Rl D ids A h s H) (hz : H.size = z) (hS : va_S A s.heap H locs) (hl : lv_has ls 4 []) : W p l e rm_X7_tapProperty s m args below meth c H locs 0 0 (MQ below (mQi D ids A r h z) args s 0 0 A) (F0 m 88 ls [.int t0]) := by
  unfold s_X7_tapProperty_b88 at hrun
  obtain rfl := Option.some.inj hrun
  exact mr_iret hx hb hr hlocks hR hz hS dX7_tapProperty_88
set_option maxRecDepth 100000 in
set_option maxHeartbeats 4000000 in
theorem c_X7_tapProperty (l : Launch) (D : va_G) (ids : m_I3) (st : m_T) (z : Nat) {h : mH} {v0 : Nat} {v1 : Int32} {v2 : Int32} {r : Int32} (hrun : s_X7_tapProperty h v0 v1 v2 = some r) : Met l yX7_tapProperty (m_ws yX7_tapProperty cX7_tapProperty 4 (some .int)) rm_X7_tapProperty (mPc D ids st [.ref v0, .int v1, .int v2] h z) (mQi D ids (m_A h z) r h z) rm_X7_tapProperty.cells rm_X7_tapProperty.slots (m_A h z) := by
  refine mr_of (cc := cX7_tapProperty) (maxL := 4) (ret := some .int) (by decide) rfl (Nat.le_of_ble_eq_true rfl) ?_
  intro p e s m below meth c ls hx hb hr hml hown hts hlocks hin hR hE hz hl
  have hA : ∀ q, s.heap.size ≤ q → m_A h z q := fun q hq => Or.inr (by rw [← hz]; exact hq)
  have hS : va_S (m_A h z) s.heap s.heap [] := va_S.rf
  have hl : lv_has ls 4 [(0, .ref v0), (1, .int v1), (2, .int v2)] := hl
  unfold s_X7_tapProperty at hrun
  refine lv_aload_n hx hb dX7_tapProperty_0 rfl (lv_at hl 0 rfl) ?_
  obtain ⟨x1, hc9, hrun⟩ := m_bind hrun
  refine mr_get (C := RX7) (T := TX7) (N := 8) (ci := 5) hx hb hts (fun w q => m_ws_in (wi_X7 w q)) hown hR rfl 0 (by decide) (hts _ (m_ws_in wm_1_7)) (fun _ h9 => h9) (m_gr_spec hc9) dX7_tapProperty_1 ?_
  obtain ⟨x4, hc9, hrun⟩ := m_bind hrun
  refine mr_getN (C := RX3) (T := TX3) (N := 10) (ci := 2) hx hb hts (fun w q => m_ws_in (wi_X3 w q)) hown hR rfl 0 (by decide) (hE.nf (i := 3) rfl) (fun _ h9 => h9) (m_gr_spec hc9) dX7_tapProperty_4 ?_
  refine lv_iload_n hx hb dX7_tapProperty_7 rfl (lv_at hl 1 rfl) ?_
  obtain ⟨_, ho9, hrun⟩ := m_bind hrun
  obtain ⟨fs9, ho9⟩ := m_is_spec ho9
  obtain ⟨x8, hc9, hrun⟩ := m_bind hrun
  refine mr_calli (mr_runV (As := [.int v1]) (rest := []) hx hb hml hown hts (c_X5_tapAt l D ids st z hc9) yk_X5_tapAt ys_X5_tapAt wm_1_219 ⟨(Nat.le_of_ble_eq_true rfl), (Nat.le_of_ble_eq_true rfl)⟩ (mr_recv (ci := 3) hR hE hz hS hA rfl ho9) hl.1 rfl (Nat.le_of_ble_eq_true rfl) dX7_tapProperty_8 ⟨(Nat.le_of_ble_eq_true rfl), (Nat.le_of_ble_eq_true rfl)⟩) hR hz hS hA (fun H locs hR hz hS => ?_)
  refine lv_istore_n (lv' := [(3, .int x8), (0, .ref v0), (1, .int v1), (2, .int v2)]) hx hb dX7_tapProperty_11 rfl hl (by decide) rfl (fun ls hl => ?_)
  refine lv_iload_n hx hb dX7_tapProperty_12 rfl (lv_at hl 3 rfl) ?_
  by_cases hc0 : v2 = 0
  · have hrun := mt_t hrun hc0
    refine lv_tableIn (tgt := 56) (off := 43) hx hb dX7_tapProperty_13 (by rw [hc0]; decide) (by rw [hc0]; decide) (by rw [hc0]; rfl) (by decide) ?_
    refine lv_iload_n hx hb dX7_tapProperty_56 rfl (lv_at hl 0 rfl) ?_
    obtain ⟨x57, hc9, hrun⟩ := m_bind hrun
    refine mr_calli (mr_runS (As := [.int x8]) (rest := []) hx hb hml hown hts (c_X4_walletOf l D ids st z hc9) yk_X4_walletOf ys_X4_walletOf wm_1_220 ⟨(Nat.le_of_ble_eq_true rfl), (Nat.le_of_ble_eq_true rfl)⟩ (mr_recvS hR hE hz hS hA) hl.1 rfl (Nat.le_of_ble_eq_true rfl) dX7_tapProperty_57 ⟨(Nat.le_of_ble_eq_true rfl), (Nat.le_of_ble_eq_true rfl)⟩) hR hz hS hA (fun H locs hR hz hS => ?_)
    obtain rfl := Option.some.inj hrun
    exact mr_iret hx hb hr hlocks hR hz hS dX7_tapProperty_60
  have hrun := mt_f hrun hc0
  have hn0 : ¬ (v2).toInt = 0 := lv_neT hc0 rfl
  by_cases hc1 : v2 = 1
  · have hrun := mt_t hrun hc1
    refine lv_tableIn (tgt := 61) (off := 48) hx hb dX7_tapProperty_13 (by rw [hc1]; decide) (by rw [hc1]; decide) (by rw [hc1]; rfl) (by decide) ?_
    refine lv_iload_n hx hb dX7_tapProperty_61 rfl (lv_at hl 0 rfl) ?_
    obtain ⟨x62, hc9, hrun⟩ := m_bind hrun
    refine mr_calli (mr_runS (As := [.int x8]) (rest := []) hx hb hml hown hts (c_X4_dayOf l D ids st z hc9) yk_X4_dayOf ys_X4_dayOf wm_1_221 ⟨(Nat.le_of_ble_eq_true rfl), (Nat.le_of_ble_eq_true rfl)⟩ (mr_recvS hR hE hz hS hA) hl.1 rfl (Nat.le_of_ble_eq_true rfl) dX7_tapProperty_62 ⟨(Nat.le_of_ble_eq_true rfl), (Nat.le_of_ble_eq_true rfl)⟩) hR hz hS hA (fun H locs hR hz hS => ?_)
    obtain rfl := Option.some.inj hrun
    exact mr_iret hx hb hr hlocks hR hz hS dX7_tapProperty_65
  have hrun := mt_f hrun hc1
  have hn1 : ¬ (v2).toInt = 1 := lv_neT hc1 rfl
  by_cases hc2 : v2 = 2
  · have hrun := mt_t hrun hc2
    refine lv_tableIn (tgt := 66) (off := 53) hx hb dX7_tapProperty_13 (by rw [hc2]; decide) (by rw [hc2]; decide) (by rw [hc2]; rfl) (by decide) ?_
    refine lv_iload_n hx hb dX7_tapProperty_66 rfl (lv_at hl 0 rfl) ?_
    obtain ⟨x67, hc9, hrun⟩ := m_bind hrun
    refine mr_calli (mr_runS (As := [.int x8]) (rest := []) hx hb hml hown hts (c_X4_minuteOf l D ids st z hc9) yk_X4_minuteOf ys_X4_minuteOf wm_1_222 ⟨(Nat.le_of_ble_eq_true rfl), (Nat.le_of_ble_eq_true rfl)⟩ (mr_recvS hR hE hz hS hA) hl.1 rfl (Nat.le_of_ble_eq_true rfl) dX7_tapProperty_67 ⟨(Nat.le_of_ble_eq_true rfl), (Nat.le_of_ble_eq_true rfl)⟩) hR hz hS hA (fun H locs hR hz hS => ?_)
    obtain rfl := Option.some.inj hrun
    exact mr_iret hx hb hr hlocks hR hz hS dX7_tapProperty_70
  have hrun := mt_f hrun hc2
  have hn2 : ¬ (v2).toInt = 2 := lv_neT hc2 rfl
  by_cases hc3 : v2 = 3
  · have hrun := mt_t hrun hc3
    refine lv_tableIn (tgt := 71) (off := 58) hx hb dX7_tapProperty_13 (by rw [hc3]; decide) (by rw [hc3]; decide) (by rw [hc3]; rfl) (by decide) ?_
    refine lv_iload_n hx hb dX7_tapProperty_71 rfl (lv_at hl 0 rfl) ?_
    obtain ⟨x72, hc9, hrun⟩ := m_bind hrun
    refine mr_calli (mr_runS (As := [.int x8]) (rest := []) hx hb hml hown hts (c_X4_stationOf l D ids st z hc9) yk_X4_stationOf ys_X4_stationOf wm_1_223 ⟨(Nat.le_of_ble_eq_true rfl), (Nat.le_of_ble_eq_true rfl)⟩ (mr_recvS hR hE hz hS hA) hl.1 rfl (Nat.le_of_ble_eq_true rfl) dX7_tapProperty_72 ⟨(Nat.le_of_ble_eq_true rfl), (Nat.le_of_ble_eq_true rfl)⟩) hR hz hS hA (fun H locs hR hz hS => ?_)
    obtain rfl := Option.some.inj hrun
    exact mr_iret hx hb hr hlocks hR hz hS dX7_tapProperty_75
  have hrun := mt_f hrun hc3
  have hn3 : ¬ (v2).toInt = 3 := lv_neT hc3 rfl
  by_cases hc4 : v2 = 4
  · have hrun := mt_t hrun hc4
    refine lv_tableIn (tgt := 76) (off := 63) hx hb dX7_tapProperty_13 (by rw [hc4]; decide) (by rw [hc4]; decide) (by rw [hc4]; rfl) (by decide) ?_
    refine lv_iload_n hx hb dX7_tapProperty_76 rfl (lv_at hl 0 rfl) ?_
    obtain ⟨x77, hc9, hrun⟩ := m_bind hrun
    refine mr_calli (mr_runS (As := [.int x8]) (rest := []) hx hb hml hown hts (c_X4_isIn l D ids st z hc9) yk_X4_isIn ys_X4_isIn wm_1_224 ⟨(Nat.le_of_ble_eq_true rfl), (Nat.le_of_ble_eq_true rfl)⟩ (mr_recvS hR hE hz hS hA) hl.1 rfl (Nat.le_of_ble_eq_true rfl) dX7_tapProperty_77 ⟨(Nat.le_of_ble_eq_true rfl), (Nat.le_of_ble_eq_true rfl)⟩) hR hz hS hA (fun H locs hR hz hS => ?_)
    refine lv_if_eq (tgt := 87) hx hb dX7_tapProperty_80 (by decide) (fun hc => ?_) (fun hc => ?_)
    · have hrun := mt_t hrun hc
      refine lv_iconst (v := 0) hx hb dX7_tapProperty_87 (by decide) ?_
      exact k_X7_tapProperty_b88 hx hb hr hml hown hts hlocks hin hE hA _ _ _ _ hrun hR hz hS (lv_sub hl [] rfl)
    · have hrun := mt_f hrun hc
      refine lv_iconst (v := 1) hx hb dX7_tapProperty_83 (by decide) ?_
      refine lv_goto (tgt := 88) hx hb dX7_tapProperty_84 (by decide) ?_
      exact k_X7_tapProperty_b88 hx hb hr hml hown hts hlocks hin hE hA _ _ _ _ hrun hR hz hS (lv_sub hl [] rfl)
  have hrun := mt_f hrun hc4
  have hn4 : ¬ (v2).toInt = 4 := lv_neT hc4 rfl
  by_cases hc5 : v2 = 5
  · have hrun := mt_t hrun hc5
    refine lv_tableIn (tgt := 89) (off := 76) hx hb dX7_tapProperty_13 (by rw [hc5]; decide) (by rw [hc5]; decide) (by rw [hc5]; rfl) (by decide) ?_
    refine lv_aload_n hx hb dX7_tapProperty_89 rfl (lv_at hl 1 rfl) ?_
    obtain ⟨x90, hc9, hrun⟩ := m_bind hrun
    refine mr_get (C := RX7) (T := TX7) (N := 8) (ci := 5) hx hb hts (fun w q => m_ws_in (wi_X7 w q)) hown hR rfl 1 (by decide) (hts _ (m_ws_in wm_1_8)) (fun _ h9 => h9) (m_gr_spec hc9) dX7_tapProperty_90 ?_
    obtain ⟨x93, hc9, hrun⟩ := m_bind hrun
    refine mr_getN (C := RX0) (T := TX0) (N := 9) (ci := 0) hx hb hts (fun w q => m_ws_in (wi_X0 w q)) hown hR rfl 0 (by decide) (hE.nf (i := 11) rfl) (fun _ h9 => h9) (m_gr_spec hc9) dX7_tapProperty_93 ?_
    refine lv_iload_n hx hb dX7_tapProperty_96 rfl (lv_at hl 2 rfl) ?_
    obtain ⟨x97, hc9, hrun⟩ := m_bind hrun
    refine mr_calli (mr_runS (As := [.ref x93, .int v1]) (rest := []) hx hb hml hown hts (c_X1_at l D ids st z hc9) yk_X1_at ys_X1_at wm_1_181 ⟨(Nat.le_of_ble_eq_true rfl), (Nat.le_of_ble_eq_true rfl)⟩ (mr_recvS hR hE hz hS hA) hl.1 rfl (Nat.le_of_ble_eq_true rfl) dX7_tapProperty_97 ⟨(Nat.le_of_ble_eq_true rfl), (Nat.le_of_ble_eq_true rfl)⟩) hR hz hS hA (fun H locs hR hz hS => ?_)
    obtain rfl := Option.some.inj hrun
    exact mr_iret hx hb hr hlocks hR hz hS dX7_tapProperty_100
  have hrun := mt_f hrun hc5
  have hn5 : ¬ (v2).toInt = 5 := lv_neT hc5 rfl
  by_cases hc6 : v2 = 6
  · have hrun := mt_t hrun hc6
    refine lv_tableIn (tgt := 101) (off := 88) hx hb dX7_tapProperty_13 (by rw [hc6]; decide) (by rw [hc6]; decide) (by rw [hc6]; rfl) (by decide) ?_
    refine lv_aload_n hx hb dX7_tapProperty_101 rfl (lv_at hl 1 rfl) ?_
    obtain ⟨x102, hc9, hrun⟩ := m_bind hrun
    refine mr_get (C := RX7) (T := TX7) (N := 8) (ci := 5) hx hb hts (fun w q => m_ws_in (wi_X7 w q)) hown hR rfl 1 (by decide) (hts _ (m_ws_in wm_1_8)) (fun _ h9 => h9) (m_gr_spec hc9) dX7_tapProperty_102 ?_
    obtain ⟨x105, hc9, hrun⟩ := m_bind hrun
    refine mr_getN (C := RX0) (T := TX0) (N := 9) (ci := 0) hx hb hts (fun w q => m_ws_in (wi_X0 w q)) hown hR rfl 1 (by decide) (hE.nf (i := 12) rfl) (fun _ h9 => h9) (m_gr_spec hc9) dX7_tapProperty_105 ?_
    refine lv_iload_n hx hb dX7_tapProperty_108 rfl (lv_at hl 2 rfl) ?_
    obtain ⟨x109, hc9, hrun⟩ := m_bind hrun
    refine mr_calli (mr_runS (As := [.ref x105, .int v1]) (rest := []) hx hb hml hown hts (c_X1_at l D ids st z hc9) yk_X1_at ys_X1_at wm_1_181 ⟨(Nat.le_of_ble_eq_true rfl), (Nat.le_of_ble_eq_true rfl)⟩ (mr_recvS hR hE hz hS hA) hl.1 rfl (Nat.le_of_ble_eq_true rfl) dX7_tapProperty_109 ⟨(Nat.le_of_ble_eq_true rfl), (Nat.le_of_ble_eq_true rfl)⟩) hR hz hS hA (fun H locs hR hz hS => ?_)
    obtain rfl := Option.some.inj hrun
    exact mr_iret hx hb hr hlocks hR hz hS dX7_tapProperty_112
  have hrun := mt_f hrun hc6
  have hn6 : ¬ (v2).toInt = 6 := lv_neT hc6 rfl
  refine lv_tableOut (tgt := 113) hx hb dX7_tapProperty_13 (by omega) (by decide) ?_
  refine lv_iload_n hx hb dX7_tapProperty_113 rfl (lv_at hl 0 rfl) ?_
  obtain ⟨x114, hc9, hrun⟩ := m_bind hrun
  refine mr_calli (mr_runS (As := [.int x8]) (rest := []) hx hb hml hown hts (c_X4_isClaimed l D ids st z hc9) yk_X4_isClaimed ys_X4_isClaimed wm_1_225 ⟨(Nat.le_of_ble_eq_true rfl), (Nat.le_of_ble_eq_true rfl)⟩ (mr_recvS hR hE hz hS hA) hl.1 rfl (Nat.le_of_ble_eq_true rfl) dX7_tapProperty_114 ⟨(Nat.le_of_ble_eq_true rfl), (Nat.le_of_ble_eq_true rfl)⟩) hR hz hS hA (fun H locs hR hz hS => ?_)
  refine lv_if_eq (tgt := 124) hx hb dX7_tapProperty_117 (by decide) (fun hc => ?_) (fun hc => ?_)
  · have hrun := mt_t hrun hc
    refine lv_iconst (v := 0) hx hb dX7_tapProperty_124 (by decide) ?_
    exact k_X7_tapProperty_b125 hx hb hr hml hown hts hlocks hin hE hA _ _ _ _ hrun hR hz hS (lv_sub hl [] rfl)
  · have hrun := mt_f hrun hc
    refine lv_iconst (v := 1) hx hb dX7_tapProperty_120 (by decide) ?_
    refine lv_goto (tgt := 125) hx hb dX7_tapProperty_121 (by decide) ?_
    exact k_X7_tapProperty_b125 hx hb hr hml hown hts hlocks hin hE hA _ _ _ _ hrun hR hz hS (lv_sub hl [] rfl)
/-! X7_tapOf -/
abbrev rm_X7_tapOf : Room := { frames := 3, cells := 0, slots := 0, locals := 65 }
theorem yk_X7_tapOf : m_K yX7_tapOf cX7_tapOf 3 (some .int) 2 := ⟨wm_1_193, wm_0_1, by decide +kernel⟩
theorem ys_X7_tapOf : Cond.instanceMethod yX7_tapOf ∈ wT ∧ Cond.selects RX7 yX7_tapOf yX7_tapOf ∈ wT := ⟨wm_1_191, wm_1_192⟩
set_option maxRecDepth 100000 in
set_option maxHeartbeats 4000000 in
theorem c_X7_tapOf (l : Launch) (D : va_G) (ids : m_I3) (st : m_T) (z : Nat) {h : mH} {v0 : Nat} {v1 : Int32} {v2 : Int32} {r : Int32} {hF : mH} (hrun : s_X7_tapOf h v0 v1 v2 = some (Sum.inr r, hF)) : Met l yX7_tapOf (m_ws yX7_tapOf cX7_tapOf 3 (some .int)) rm_X7_tapOf (mPc D ids st [.ref v0, .int v1, .int v2] h z) (mQi D ids (m_A h z) r hF z) rm_X7_tapOf.cells rm_X7_tapOf.slots (m_A h z) := by
  refine mr_of (cc := cX7_tapOf) (maxL := 3) (ret := some .int) (by decide) rfl (Nat.le_of_ble_eq_true rfl) ?_
  intro p e s m below meth c ls hx hb hr hml hown hts hlocks hin hR hE hz hl
  have hA : ∀ q, s.heap.size ≤ q → m_A h z q := fun q hq => Or.inr (by rw [← hz]; exact hq)
  have hS : va_S (m_A h z) s.heap s.heap [] := va_S.rf
  have hl : lv_has ls 3 [(0, .ref v0), (1, .int v1), (2, .int v2)] := hl
  unfold s_X7_tapOf at hrun
  refine lv_aload_n hx hb dX7_tapOf_0 rfl (lv_at hl 0 rfl) ?_
  refine lv_iload_n hx hb dX7_tapOf_1 rfl (lv_at hl 1 rfl) ?_
  obtain ⟨_, ho9, hrun⟩ := m_bind hrun
  obtain ⟨fs9, ho9⟩ := m_is_spec ho9
  obtain ⟨x2, hc9, hrun⟩ := m_bind hrun
  refine mr_calli (mr_runV (As := [.int v1]) (rest := []) hx hb hml hown hts (c_X7_isPlace l D ids st z hc9) yk_X7_isPlace ys_X7_isPlace wm_1_194 ⟨(Nat.le_of_ble_eq_true rfl), (Nat.le_of_ble_eq_true rfl)⟩ (mr_recv (ci := 5) hR hE hz hS hA rfl ho9) hl.1 rfl (Nat.le_of_ble_eq_true rfl) dX7_tapOf_2 ⟨(Nat.le_of_ble_eq_true rfl), (Nat.le_of_ble_eq_true rfl)⟩) hR hz hS hA (fun H locs hR hz hS => ?_)
  refine lv_if_ne (tgt := 18) hx hb dX7_tapOf_5 (by decide) (fun hc => ?_) (fun hc => ?_)
  · have hrun := mt_f hrun hc
    refine lv_iload_n hx hb dX7_tapOf_18 rfl (lv_at hl 2 rfl) ?_
    refine lv_bipush (v := 8) hx hb dX7_tapOf_19 (by decide) ?_
    obtain ⟨x21, hc9, hrun⟩ := m_bind hrun
    refine mr_calli (mr_runS (As := [.int v2, .int 8]) (rest := []) hx hb hml hown hts (c_X7_isBelow l D ids st z hc9) yk_X7_isBelow ys_X7_isBelow wm_1_129 ⟨(Nat.le_of_ble_eq_true rfl), (Nat.le_of_ble_eq_true rfl)⟩ (mr_recvS hR hE hz hS hA) hl.1 rfl (Nat.le_of_ble_eq_true rfl) dX7_tapOf_21 ⟨(Nat.le_of_ble_eq_true rfl), (Nat.le_of_ble_eq_true rfl)⟩) hR hz hS hA (fun H locs hR hz hS => ?_)
    refine lv_if_ne (tgt := 37) hx hb dX7_tapOf_24 (by decide) (fun hc => ?_) (fun hc => ?_)
    · have hrun := mt_f hrun hc
      refine lv_aload_n hx hb dX7_tapOf_37 rfl (lv_at hl 0 rfl) ?_
      refine lv_iload_n hx hb dX7_tapOf_38 rfl (lv_at hl 1 rfl) ?_
      refine lv_iload_n hx hb dX7_tapOf_39 rfl (lv_at hl 2 rfl) ?_
      obtain ⟨_, ho9, hrun⟩ := m_bind hrun
      obtain ⟨fs9, ho9⟩ := m_is_spec ho9
      obtain ⟨x40, hc9, hrun⟩ := m_bind hrun
      refine mr_calli (mr_runV (As := [.int v1, .int v2]) (rest := []) hx hb hml hown hts (c_X7_tapProperty l D ids st z hc9) yk_X7_tapProperty ys_X7_tapProperty wm_1_215 ⟨(Nat.le_of_ble_eq_true rfl), (Nat.le_of_ble_eq_true rfl)⟩ (mr_recv (ci := 5) hR hE hz hS hA rfl ho9) hl.1 rfl (Nat.le_of_ble_eq_true rfl) dX7_tapOf_40 ⟨(Nat.le_of_ble_eq_true rfl), (Nat.le_of_ble_eq_true rfl)⟩) hR hz hS hA (fun H locs hR hz hS => ?_)
      obtain ⟨hv9, rfl⟩ := Prod.mk.inj (Option.some.inj hrun); obtain rfl := Sum.inr.inj hv9
      exact mr_iret hx hb hr hlocks hR hz hS dX7_tapOf_43
    · have hrun := mt_t hrun hc
      exact absurd (Prod.mk.inj (Option.some.inj hrun)).1 (fun h9 => nomatch h9)
  · have hrun := mt_t hrun hc
    exact absurd (Prod.mk.inj (Option.some.inj hrun)).1 (fun h9 => nomatch h9)
/-! X0_weekSum -/
abbrev rm_X0_weekSum : Room := { frames := 1, cells := 0, slots := 0, locals := 21 }
theorem yk_X0_weekSum : m_K yX0_weekSum cX0_weekSum 5 (some .int) 3 := ⟨wm_1_239, wm_0_5, by decide +kernel⟩
theorem ys_X0_weekSum : Cond.static yX0_weekSum ∈ wT := wm_1_238
set_option maxRecDepth 100000 in
set_option maxHeartbeats 4000000 in
theorem k_X0_weekSum_L5 {p : Program} {l : Launch} {e : Env} {s : State} {m : MethodId} {args : Array Value} {below : List Frame} {meth : Method} {c : Code} {D : va_G} {ids : m_I3} {st : m_T} {A : Nat → Prop} {z : Nat} {r : Int32} (hx : p.tables.exec = Jvm.exec) (hb : c.code = cX0_weekSum) (hr : meth.sig.returnType = some .int) (hml : c.maxLocals = 5) (hown : s.vm.findClass RX0 = some m.cls) (hts : ∀ w ∈ (m_ws yX0_weekSum cX0_weekSum 5 (some .int)), w.before args s = true) (hlocks : meth.locks = false) (hin : meth.name = yX0_weekSum.name) (hE : m_EV st A s s.heap) (hA : ∀ q, s.heap.size ≤ q → A q) {h : mH} : ∀ (n : Nat) (v0 : Nat) (v1 : Int32) (v2 : Int32) (v3 : Int32) (v4 : Int32) (H : Heap) (locs : List Loc) (ls : Array Slot), s_X0_weekSum_L5 h n v0 v1 v2 v3 v4 = some r → Rl D ids A h s H → H.size = z → va_S A s.heap H locs → lv_has ls 5 [(0, .ref v0), (1, .int v1), (2, .int v2), (3, .int v3), (4, .int v4)] → W p l e rm_X0_weekSum s m args below meth c H locs 0 0 (MQ below (mQi D ids A r h z) args s 0 0 A) (F0 m 5 ls []) := by
  intro n
  induction n with
  | zero => intro v0 v1 v2 v3 v4 H locs ls hrun; exact absurd hrun (by intro h9; cases h9)
  | succ n ih =>
    intro v0 v1 v2 v3 v4 H locs ls hrun hR hz hS hl
    rw [s_X0_weekSum_L5] at hrun
    refine lv_iload hx hb dX0_weekSum_5 (lv_at hl 4 rfl) ?_
    refine lv_bipush (v := 7) hx hb dX0_weekSum_7 (by decide) ?_
    refine lv_icmp_ge (tgt := 36) hx hb dX0_weekSum_9 (by decide) (fun hc => ?_) (fun hc => ?_)
    · have hrun := mt_t hrun hc
      refine lv_iload_n hx hb dX0_weekSum_36 rfl (lv_at hl 3 rfl) ?_
      obtain rfl := Option.some.inj hrun
      exact mr_iret hx hb hr hlocks hR hz hS dX0_weekSum_37
    · have hrun := mt_f hrun hc
      refine lv_iload_n hx hb dX0_weekSum_12 rfl (lv_at hl 3 rfl) ?_
      refine lv_aload_n hx hb dX0_weekSum_13 rfl (lv_at hl 0 rfl) ?_
      refine lv_iload_n hx hb dX0_weekSum_14 rfl (lv_at hl 1 rfl) ?_
      refine lv_iload_n hx hb dX0_weekSum_15 rfl (lv_at hl 2 rfl) ?_
      refine lv_bipush (v := 7) hx hb dX0_weekSum_16 (by decide) ?_
      refine lv_imul hx hb dX0_weekSum_18 ?_
      refine lv_iload hx hb dX0_weekSum_19 (lv_at hl 4 rfl) ?_
      refine lv_iadd hx hb dX0_weekSum_21 ?_
      obtain ⟨x22, hc9, hrun⟩ := m_bind hrun
      refine mr_calli (mr_runSN (As := [.int v1, .int ((v2 * 7) + v4)]) (rest := [.ref v0, .int v3]) hx hb hml hown hts (c_X7_dayCell l D ids st z hc9) yk_X7_dayCell ys_X7_dayCell (hE.nm (i := 0) rfl) ⟨(Nat.le_of_ble_eq_true rfl), (Nat.le_of_ble_eq_true rfl)⟩ (mr_recvS hR hE hz hS hA) hl.1 rfl (Nat.le_of_ble_eq_true rfl) dX0_weekSum_22 ⟨(Nat.le_of_ble_eq_true rfl), (Nat.le_of_ble_eq_true rfl)⟩) hR hz hS hA (fun H locs hR hz hS => ?_)
      obtain ⟨x25, hc9, hrun⟩ := m_bind hrun
      refine mr_calli (mr_runS (As := [.ref v0, .int x22]) (rest := [.int v3]) hx hb hml hown hts (c_X1_at l D ids st z hc9) yk_X1_at ys_X1_at wm_0_190 ⟨(Nat.le_of_ble_eq_true rfl), (Nat.le_of_ble_eq_true rfl)⟩ (mr_recvS hR hE hz hS hA) hl.1 rfl (Nat.le_of_ble_eq_true rfl) dX0_weekSum_25 ⟨(Nat.le_of_ble_eq_true rfl), (Nat.le_of_ble_eq_true rfl)⟩) hR hz hS hA (fun H locs hR hz hS => ?_)
      refine lv_iadd hx hb dX0_weekSum_28 ?_
      refine lv_istore_n (lv' := [(3, .int (v3 + x25)), (0, .ref v0), (1, .int v1), (2, .int v2), (4, .int v4)]) hx hb dX0_weekSum_29 rfl hl (by decide) rfl (fun ls hl => ?_)
      refine lv_iinc (v := v4 + 1) (lv' := [(4, .int (v4 + 1)), (3, .int (v3 + x25)), (0, .ref v0), (1, .int v1), (2, .int v2)]) hx hb dX0_weekSum_30 hl (k := 4) rfl rfl (by decide) rfl (fun ls hl => ?_)
      refine lv_goto (tgt := 5) hx hb dX0_weekSum_33 (by decide) ?_
      exact ih _ _ _ _ _ _ _ _ hrun hR hz hS (lv_sub hl [2, 3, 4, 1, 0] rfl)
set_option maxRecDepth 100000 in
set_option maxHeartbeats 4000000 in
theorem c_X0_weekSum (l : Launch) (D : va_G) (ids : m_I3) (st : m_T) (z : Nat) {h : mH} {v0 : Nat} {v1 : Int32} {v2 : Int32} {r : Int32} (hrun : s_X0_weekSum h v0 v1 v2 = some r) : Met l yX0_weekSum (m_ws yX0_weekSum cX0_weekSum 5 (some .int)) rm_X0_weekSum (mPc D ids st [.ref v0, .int v1, .int v2] h z) (mQi D ids (m_A h z) r h z) rm_X0_weekSum.cells rm_X0_weekSum.slots (m_A h z) := by
  refine mr_of (cc := cX0_weekSum) (maxL := 5) (ret := some .int) (by decide) rfl (Nat.le_of_ble_eq_true rfl) ?_
  intro p e s m below meth c ls hx hb hr hml hown hts hlocks hin hR hE hz hl
  have hA : ∀ q, s.heap.size ≤ q → m_A h z q := fun q hq => Or.inr (by rw [← hz]; exact hq)
  have hS : va_S (m_A h z) s.heap s.heap [] := va_S.rf
  have hl : lv_has ls 5 [(0, .ref v0), (1, .int v1), (2, .int v2)] := hl
  unfold s_X0_weekSum at hrun
  refine lv_iconst (v := 0) hx hb dX0_weekSum_0 (by decide) ?_
  refine lv_istore_n (lv' := [(3, .int 0), (0, .ref v0), (1, .int v1), (2, .int v2)]) hx hb dX0_weekSum_1 rfl hl (by decide) rfl (fun ls hl => ?_)
  refine lv_iconst (v := 0) hx hb dX0_weekSum_2 (by decide) ?_
  refine lv_istore (lv' := [(4, .int 0), (3, .int 0), (0, .ref v0), (1, .int v1), (2, .int v2)]) hx hb dX0_weekSum_3 hl (by decide) rfl (fun ls hl => ?_)
  exact k_X0_weekSum_L5 hx hb hr hml hown hts hlocks hin hE hA _ _ _ _ _ _ _ _ _ hrun hR hz hS (lv_sub hl [2, 3, 4, 1, 0] rfl)
/-! X7_weekNumber -/
abbrev rm_X7_weekNumber : Room := { frames := 4, cells := 0, slots := 0, locals := 89 }
theorem yk_X7_weekNumber : m_K yX7_weekNumber cX7_weekNumber 4 (some .int) 3 := ⟨wm_1_236, wm_0_1, by decide +kernel⟩
theorem ys_X7_weekNumber : Cond.instanceMethod yX7_weekNumber ∈ wT ∧ Cond.selects RX7 yX7_weekNumber yX7_weekNumber ∈ wT := ⟨wm_1_235, wp_0_11⟩
set_option maxRecDepth 100000 in
set_option maxHeartbeats 4000000 in
theorem c_X7_weekNumber (l : Launch) (D : va_G) (ids : m_I3) (st : m_T) (z : Nat) {h : mH} {v0 : Nat} {v1 : Int32} {v2 : Int32} {v3 : Int32} {r : Int32} (hrun : s_X7_weekNumber h v0 v1 v2 v3 = some r) : Met l yX7_weekNumber (m_ws yX7_weekNumber cX7_weekNumber 4 (some .int)) rm_X7_weekNumber (mPc D ids st [.ref v0, .int v1, .int v2, .int v3] h z) (mQi D ids (m_A h z) r h z) rm_X7_weekNumber.cells rm_X7_weekNumber.slots (m_A h z) := by
  refine mr_of (cc := cX7_weekNumber) (maxL := 4) (ret := some .int) (by decide) rfl (Nat.le_of_ble_eq_true rfl) ?_
  intro p e s m below meth c ls hx hb hr hml hown hts hlocks hin hR hE hz hl
  have hA : ∀ q, s.heap.size ≤ q → m_A h z q := fun q hq => Or.inr (by rw [← hz]; exact hq)
  have hS : va_S (m_A h z) s.heap s.heap [] := va_S.rf
  have hl : lv_has ls 4 [(0, .ref v0), (1, .int v1), (2, .int v2), (3, .int v3)] := hl
  unfold s_X7_weekNumber at hrun
  refine lv_iload_n hx hb dX7_weekNumber_0 rfl (lv_at hl 3 rfl) ?_
  by_cases hc0 : v3 = 0
  · have hrun := mt_t hrun hc0
    refine lv_tableIn (tgt := 40) (off := 39) hx hb dX7_weekNumber_1 (by rw [hc0]; decide) (by rw [hc0]; decide) (by rw [hc0]; rfl) (by decide) ?_
    refine lv_aload_n hx hb dX7_weekNumber_40 rfl (lv_at hl 0 rfl) ?_
    obtain ⟨x41, hc9, hrun⟩ := m_bind hrun
    refine mr_get (C := RX7) (T := TX7) (N := 8) (ci := 5) hx hb hts (fun w q => m_ws_in (wi_X7 w q)) hown hR rfl 1 (by decide) (hts _ (m_ws_in wm_1_8)) (fun _ h9 => h9) (m_gr_spec hc9) dX7_weekNumber_41 ?_
    obtain ⟨x44, hc9, hrun⟩ := m_bind hrun
    refine mr_getN (C := RX0) (T := TX0) (N := 9) (ci := 0) hx hb hts (fun w q => m_ws_in (wi_X0 w q)) hown hR rfl 2 (by decide) (hE.nf (i := 13) rfl) (fun _ h9 => h9) (m_gr_spec hc9) dX7_weekNumber_44 ?_
    refine lv_iload_n hx hb dX7_weekNumber_47 rfl (lv_at hl 1 rfl) ?_
    refine lv_iload_n hx hb dX7_weekNumber_48 rfl (lv_at hl 2 rfl) ?_
    obtain ⟨x49, hc9, hrun⟩ := m_bind hrun
    refine mr_calli (mr_runS (As := [.ref x44, .int v1, .int v2]) (rest := []) hx hb hml hown hts (c_X0_weekSum l D ids st z hc9) yk_X0_weekSum ys_X0_weekSum wm_1_237 ⟨(Nat.le_of_ble_eq_true rfl), (Nat.le_of_ble_eq_true rfl)⟩ (mr_recvS hR hE hz hS hA) hl.1 rfl (Nat.le_of_ble_eq_true rfl) dX7_weekNumber_49 ⟨(Nat.le_of_ble_eq_true rfl), (Nat.le_of_ble_eq_true rfl)⟩) hR hz hS hA (fun H locs hR hz hS => ?_)
    obtain rfl := Option.some.inj hrun
    exact mr_iret hx hb hr hlocks hR hz hS dX7_weekNumber_52
  have hrun := mt_f hrun hc0
  have hn0 : ¬ (v3).toInt = 0 := lv_neT hc0 rfl
  by_cases hc1 : v3 = 1
  · have hrun := mt_t hrun hc1
    refine lv_tableIn (tgt := 53) (off := 52) hx hb dX7_weekNumber_1 (by rw [hc1]; decide) (by rw [hc1]; decide) (by rw [hc1]; rfl) (by decide) ?_
    refine lv_aload_n hx hb dX7_weekNumber_53 rfl (lv_at hl 0 rfl) ?_
    obtain ⟨x54, hc9, hrun⟩ := m_bind hrun
    refine mr_get (C := RX7) (T := TX7) (N := 8) (ci := 5) hx hb hts (fun w q => m_ws_in (wi_X7 w q)) hown hR rfl 1 (by decide) (hts _ (m_ws_in wm_1_8)) (fun _ h9 => h9) (m_gr_spec hc9) dX7_weekNumber_54 ?_
    obtain ⟨x57, hc9, hrun⟩ := m_bind hrun
    refine mr_getN (C := RX0) (T := TX0) (N := 9) (ci := 0) hx hb hts (fun w q => m_ws_in (wi_X0 w q)) hown hR rfl 4 (by decide) (hE.nf (i := 15) rfl) (fun _ h9 => h9) (m_gr_spec hc9) dX7_weekNumber_57 ?_
    refine lv_iload_n hx hb dX7_weekNumber_60 rfl (lv_at hl 1 rfl) ?_
    refine lv_iload_n hx hb dX7_weekNumber_61 rfl (lv_at hl 2 rfl) ?_
    obtain ⟨x62, hc9, hrun⟩ := m_bind hrun
    refine mr_calli (mr_runS (As := [.ref x57, .int v1, .int v2]) (rest := []) hx hb hml hown hts (c_X0_weekSum l D ids st z hc9) yk_X0_weekSum ys_X0_weekSum wm_1_237 ⟨(Nat.le_of_ble_eq_true rfl), (Nat.le_of_ble_eq_true rfl)⟩ (mr_recvS hR hE hz hS hA) hl.1 rfl (Nat.le_of_ble_eq_true rfl) dX7_weekNumber_62 ⟨(Nat.le_of_ble_eq_true rfl), (Nat.le_of_ble_eq_true rfl)⟩) hR hz hS hA (fun H locs hR hz hS => ?_)
    obtain rfl := Option.some.inj hrun
    exact mr_iret hx hb hr hlocks hR hz hS dX7_weekNumber_65
  have hrun := mt_f hrun hc1
  have hn1 : ¬ (v3).toInt = 1 := lv_neT hc1 rfl
  by_cases hc2 : v3 = 2
  · have hrun := mt_t hrun hc2
    refine lv_tableIn (tgt := 66) (off := 65) hx hb dX7_weekNumber_1 (by rw [hc2]; decide) (by rw [hc2]; decide) (by rw [hc2]; rfl) (by decide) ?_
    refine lv_aload_n hx hb dX7_weekNumber_66 rfl (lv_at hl 0 rfl) ?_
    obtain ⟨x67, hc9, hrun⟩ := m_bind hrun
    refine mr_get (C := RX7) (T := TX7) (N := 8) (ci := 5) hx hb hts (fun w q => m_ws_in (wi_X7 w q)) hown hR rfl 1 (by decide) (hts _ (m_ws_in wm_1_8)) (fun _ h9 => h9) (m_gr_spec hc9) dX7_weekNumber_67 ?_
    refine lv_iload_n hx hb dX7_weekNumber_70 rfl (lv_at hl 1 rfl) ?_
    refine lv_iload_n hx hb dX7_weekNumber_71 rfl (lv_at hl 2 rfl) ?_
    obtain ⟨_, ho9, hrun⟩ := m_bind hrun
    obtain ⟨fs9, ho9⟩ := m_is_spec ho9
    obtain ⟨x72, hc9, hrun⟩ := m_bind hrun
    refine mr_calli (mr_runV (As := [.int v1, .int v2]) (rest := []) hx hb hml hown hts (c_X0_weekDaysCost l D ids st z hc9) yk_X0_weekDaysCost ys_X0_weekDaysCost wm_2_0 ⟨(Nat.le_of_ble_eq_true rfl), (Nat.le_of_ble_eq_true rfl)⟩ (mr_recv (ci := 0) hR hE hz hS hA rfl ho9) hl.1 rfl (Nat.le_of_ble_eq_true rfl) dX7_weekNumber_72 ⟨(Nat.le_of_ble_eq_true rfl), (Nat.le_of_ble_eq_true rfl)⟩) hR hz hS hA (fun H locs hR hz hS => ?_)
    obtain rfl := Option.some.inj hrun
    exact mr_iret hx hb hr hlocks hR hz hS dX7_weekNumber_75
  have hrun := mt_f hrun hc2
  have hn2 : ¬ (v3).toInt = 2 := lv_neT hc2 rfl
  by_cases hc3 : v3 = 3
  · have hrun := mt_t hrun hc3
    refine lv_tableIn (tgt := 76) (off := 75) hx hb dX7_weekNumber_1 (by rw [hc3]; decide) (by rw [hc3]; decide) (by rw [hc3]; rfl) (by decide) ?_
    refine lv_aload_n hx hb dX7_weekNumber_76 rfl (lv_at hl 0 rfl) ?_
    obtain ⟨x77, hc9, hrun⟩ := m_bind hrun
    refine mr_get (C := RX7) (T := TX7) (N := 8) (ci := 5) hx hb hts (fun w q => m_ws_in (wi_X7 w q)) hown hR rfl 1 (by decide) (hts _ (m_ws_in wm_1_8)) (fun _ h9 => h9) (m_gr_spec hc9) dX7_weekNumber_77 ?_
    refine lv_iload_n hx hb dX7_weekNumber_80 rfl (lv_at hl 1 rfl) ?_
    refine lv_iload_n hx hb dX7_weekNumber_81 rfl (lv_at hl 2 rfl) ?_
    obtain ⟨_, ho9, hrun⟩ := m_bind hrun
    obtain ⟨fs9, ho9⟩ := m_is_spec ho9
    obtain ⟨x82, hc9, hrun⟩ := m_bind hrun
    refine mr_calli (mr_runV (As := [.int v1, .int v2]) (rest := []) hx hb hml hown hts (c_X0_weekCost l D ids st z hc9) yk_X0_weekCost ys_X0_weekCost wm_1_159 ⟨(Nat.le_of_ble_eq_true rfl), (Nat.le_of_ble_eq_true rfl)⟩ (mr_recv (ci := 0) hR hE hz hS hA rfl ho9) hl.1 rfl (Nat.le_of_ble_eq_true rfl) dX7_weekNumber_82 ⟨(Nat.le_of_ble_eq_true rfl), (Nat.le_of_ble_eq_true rfl)⟩) hR hz hS hA (fun H locs hR hz hS => ?_)
    obtain rfl := Option.some.inj hrun
    exact mr_iret hx hb hr hlocks hR hz hS dX7_weekNumber_85
  have hrun := mt_f hrun hc3
  have hn3 : ¬ (v3).toInt = 3 := lv_neT hc3 rfl
  by_cases hc4 : v3 = 4
  · have hrun := mt_t hrun hc4
    refine lv_tableIn (tgt := 86) (off := 85) hx hb dX7_weekNumber_1 (by rw [hc4]; decide) (by rw [hc4]; decide) (by rw [hc4]; rfl) (by decide) ?_
    refine lv_aload_n hx hb dX7_weekNumber_86 rfl (lv_at hl 0 rfl) ?_
    obtain ⟨x87, hc9, hrun⟩ := m_bind hrun
    refine mr_get (C := RX7) (T := TX7) (N := 8) (ci := 5) hx hb hts (fun w q => m_ws_in (wi_X7 w q)) hown hR rfl 0 (by decide) (hts _ (m_ws_in wm_1_7)) (fun _ h9 => h9) (m_gr_spec hc9) dX7_weekNumber_87 ?_
    obtain ⟨x90, hc9, hrun⟩ := m_bind hrun
    refine mr_getN (C := RX3) (T := TX3) (N := 10) (ci := 2) hx hb hts (fun w q => m_ws_in (wi_X3 w q)) hown hR rfl 2 (by decide) (hE.nf (i := 5) rfl) (fun _ h9 => h9) (m_gr_spec hc9) dX7_weekNumber_90 ?_
    refine lv_iload_n hx hb dX7_weekNumber_93 rfl (lv_at hl 1 rfl) ?_
    refine lv_iload_n hx hb dX7_weekNumber_94 rfl (lv_at hl 2 rfl) ?_
    obtain ⟨x95, hc9, hrun⟩ := m_bind hrun
    refine mr_calli (mr_runS (As := [.int v1, .int v2]) (rest := [.ref x90]) hx hb hml hown hts (c_X7_weekCell l D ids st z hc9) yk_X7_weekCell ys_X7_weekCell wm_1_178 ⟨(Nat.le_of_ble_eq_true rfl), (Nat.le_of_ble_eq_true rfl)⟩ (mr_recvS hR hE hz hS hA) hl.1 rfl (Nat.le_of_ble_eq_true rfl) dX7_weekNumber_95 ⟨(Nat.le_of_ble_eq_true rfl), (Nat.le_of_ble_eq_true rfl)⟩) hR hz hS hA (fun H locs hR hz hS => ?_)
    obtain ⟨x98, hc9, hrun⟩ := m_bind hrun
    refine mr_calli (mr_runS (As := [.ref x90, .int x95]) (rest := []) hx hb hml hown hts (c_X1_at l D ids st z hc9) yk_X1_at ys_X1_at wm_1_181 ⟨(Nat.le_of_ble_eq_true rfl), (Nat.le_of_ble_eq_true rfl)⟩ (mr_recvS hR hE hz hS hA) hl.1 rfl (Nat.le_of_ble_eq_true rfl) dX7_weekNumber_98 ⟨(Nat.le_of_ble_eq_true rfl), (Nat.le_of_ble_eq_true rfl)⟩) hR hz hS hA (fun H locs hR hz hS => ?_)
    obtain rfl := Option.some.inj hrun
    exact mr_iret hx hb hr hlocks hR hz hS dX7_weekNumber_101
  have hrun := mt_f hrun hc4
  have hn4 : ¬ (v3).toInt = 4 := lv_neT hc4 rfl
  by_cases hc5 : v3 = 5
  · have hrun := mt_t hrun hc5
    refine lv_tableIn (tgt := 102) (off := 101) hx hb dX7_weekNumber_1 (by rw [hc5]; decide) (by rw [hc5]; decide) (by rw [hc5]; rfl) (by decide) ?_
    refine lv_aload_n hx hb dX7_weekNumber_102 rfl (lv_at hl 0 rfl) ?_
    obtain ⟨x103, hc9, hrun⟩ := m_bind hrun
    refine mr_get (C := RX7) (T := TX7) (N := 8) (ci := 5) hx hb hts (fun w q => m_ws_in (wi_X7 w q)) hown hR rfl 0 (by decide) (hts _ (m_ws_in wm_1_7)) (fun _ h9 => h9) (m_gr_spec hc9) dX7_weekNumber_103 ?_
    obtain ⟨x106, hc9, hrun⟩ := m_bind hrun
    refine mr_getN (C := RX3) (T := TX3) (N := 10) (ci := 2) hx hb hts (fun w q => m_ws_in (wi_X3 w q)) hown hR rfl 3 (by decide) (hE.nf (i := 6) rfl) (fun _ h9 => h9) (m_gr_spec hc9) dX7_weekNumber_106 ?_
    refine lv_iload_n hx hb dX7_weekNumber_109 rfl (lv_at hl 1 rfl) ?_
    refine lv_iload_n hx hb dX7_weekNumber_110 rfl (lv_at hl 2 rfl) ?_
    obtain ⟨x111, hc9, hrun⟩ := m_bind hrun
    refine mr_calli (mr_runS (As := [.int v1, .int v2]) (rest := [.ref x106]) hx hb hml hown hts (c_X7_weekCell l D ids st z hc9) yk_X7_weekCell ys_X7_weekCell wm_1_178 ⟨(Nat.le_of_ble_eq_true rfl), (Nat.le_of_ble_eq_true rfl)⟩ (mr_recvS hR hE hz hS hA) hl.1 rfl (Nat.le_of_ble_eq_true rfl) dX7_weekNumber_111 ⟨(Nat.le_of_ble_eq_true rfl), (Nat.le_of_ble_eq_true rfl)⟩) hR hz hS hA (fun H locs hR hz hS => ?_)
    obtain ⟨x114, hc9, hrun⟩ := m_bind hrun
    refine mr_calli (mr_runS (As := [.ref x106, .int x111]) (rest := []) hx hb hml hown hts (c_X1_at l D ids st z hc9) yk_X1_at ys_X1_at wm_1_181 ⟨(Nat.le_of_ble_eq_true rfl), (Nat.le_of_ble_eq_true rfl)⟩ (mr_recvS hR hE hz hS hA) hl.1 rfl (Nat.le_of_ble_eq_true rfl) dX7_weekNumber_114 ⟨(Nat.le_of_ble_eq_true rfl), (Nat.le_of_ble_eq_true rfl)⟩) hR hz hS hA (fun H locs hR hz hS => ?_)
    obtain rfl := Option.some.inj hrun
    exact mr_iret hx hb hr hlocks hR hz hS dX7_weekNumber_117
  have hrun := mt_f hrun hc5
  have hn5 : ¬ (v3).toInt = 5 := lv_neT hc5 rfl
  refine lv_tableOut (tgt := 118) hx hb dX7_weekNumber_1 (by omega) (by decide) ?_
  refine lv_aload_n hx hb dX7_weekNumber_118 rfl (lv_at hl 0 rfl) ?_
  obtain ⟨x119, hc9, hrun⟩ := m_bind hrun
  refine mr_get (C := RX7) (T := TX7) (N := 8) (ci := 5) hx hb hts (fun w q => m_ws_in (wi_X7 w q)) hown hR rfl 0 (by decide) (hts _ (m_ws_in wm_1_7)) (fun _ h9 => h9) (m_gr_spec hc9) dX7_weekNumber_119 ?_
  obtain ⟨x122, hc9, hrun⟩ := m_bind hrun
  refine mr_getN (C := RX3) (T := TX3) (N := 10) (ci := 2) hx hb hts (fun w q => m_ws_in (wi_X3 w q)) hown hR rfl 4 (by decide) (hE.nf (i := 7) rfl) (fun _ h9 => h9) (m_gr_spec hc9) dX7_weekNumber_122 ?_
  refine lv_iload_n hx hb dX7_weekNumber_125 rfl (lv_at hl 1 rfl) ?_
  refine lv_iload_n hx hb dX7_weekNumber_126 rfl (lv_at hl 2 rfl) ?_
  obtain ⟨x127, hc9, hrun⟩ := m_bind hrun
  refine mr_calli (mr_runS (As := [.int v1, .int v2]) (rest := [.ref x122]) hx hb hml hown hts (c_X7_weekCell l D ids st z hc9) yk_X7_weekCell ys_X7_weekCell wm_1_178 ⟨(Nat.le_of_ble_eq_true rfl), (Nat.le_of_ble_eq_true rfl)⟩ (mr_recvS hR hE hz hS hA) hl.1 rfl (Nat.le_of_ble_eq_true rfl) dX7_weekNumber_127 ⟨(Nat.le_of_ble_eq_true rfl), (Nat.le_of_ble_eq_true rfl)⟩) hR hz hS hA (fun H locs hR hz hS => ?_)
  obtain ⟨x130, hc9, hrun⟩ := m_bind hrun
  refine mr_calli (mr_runS (As := [.ref x122, .int x127]) (rest := []) hx hb hml hown hts (c_X1_at l D ids st z hc9) yk_X1_at ys_X1_at wm_1_181 ⟨(Nat.le_of_ble_eq_true rfl), (Nat.le_of_ble_eq_true rfl)⟩ (mr_recvS hR hE hz hS hA) hl.1 rfl (Nat.le_of_ble_eq_true rfl) dX7_weekNumber_130 ⟨(Nat.le_of_ble_eq_true rfl), (Nat.le_of_ble_eq_true rfl)⟩) hR hz hS hA (fun H locs hR hz hS => ?_)
  obtain rfl := Option.some.inj hrun
  exact mr_iret hx hb hr hlocks hR hz hS dX7_weekNumber_133
/-! X7_week -/
abbrev rm_X7_week : Room := { frames := 5, cells := 0, slots := 0, locals := 112 }
theorem yk_X7_week : m_K yX7_week cX7_week 4 (some .int) 3 := ⟨wm_1_231, wm_0_1, by decide +kernel⟩
theorem ys_X7_week : Cond.instanceMethod yX7_week ∈ wT ∧ Cond.selects RX7 yX7_week yX7_week ∈ wT := ⟨wm_1_229, wm_1_230⟩
set_option maxRecDepth 100000 in
set_option maxHeartbeats 4000000 in
theorem k_X7_week_b25 {p : Program} {l : Launch} {e : Env} {s : State} {m : MethodId} {args : Array Value} {below : List Frame} {meth : Method} {c : Code} {D : va_G} {ids : m_I3} {st : m_T} {A : Nat → Prop} {z : Nat} {r : Int32} {hF : mH} (hx : p.tables.exec = Jvm.exec) (hb : c.code = cX7_week) (hr : meth.sig.returnType = some .int) (hml : c.maxLocals = 4) (hown : s.vm.findClass RX7 = some m.cls) (hts : ∀ w ∈ (m_ws yX7_week cX7_week 4 (some .int)), w.before args s = true) (hlocks : meth.locks = false) (hin : meth.name = yX7_week.name) (hE : m_EV st A s s.heap) (hA : ∀ q, s.heap.size ≤ q → A q) (h : mH) (H : Heap) (locs : List Loc) (ls : Array Slot) (hrun : s_X7_week_b25 h = some (Sum.inr r, hF)) (hR : Rl D ids A h s H) (hz : H.size = z) (hS : va_S A s.heap H locs) (hl : lv_has ls 4 []) : W p l e rm_X7_week s m args below meth c H locs 0 0 (MQ below (mQi D ids A r hF z) args s 0 0 A) (F0 m 25 ls []) := by
  unfold s_X7_week_b25 at hrun
  exact absurd (Prod.mk.inj (Option.some.inj hrun)).1 (fun h9 => nomatch h9)
set_option maxRecDepth 100000 in
set_option maxHeartbeats 4000000 in
theorem c_X7_week (l : Launch) (D : va_G) (ids : m_I3) (st : m_T) (z : Nat) {h : mH} {v0 : Nat} {v1 : Int32} {v2 : Int32} {v3 : Int32} {r : Int32} {hF : mH} (hrun : s_X7_week h v0 v1 v2 v3 = some (Sum.inr r, hF)) : Met l yX7_week (m_ws yX7_week cX7_week 4 (some .int)) rm_X7_week (mPc D ids st [.ref v0, .int v1, .int v2, .int v3] h z) (mQi D ids (m_A h z) r hF z) rm_X7_week.cells rm_X7_week.slots (m_A h z) := by
  refine mr_of (cc := cX7_week) (maxL := 4) (ret := some .int) (by decide) rfl (Nat.le_of_ble_eq_true rfl) ?_
  intro p e s m below meth c ls hx hb hr hml hown hts hlocks hin hR hE hz hl
  have hA : ∀ q, s.heap.size ≤ q → m_A h z q := fun q hq => Or.inr (by rw [← hz]; exact hq)
  have hS : va_S (m_A h z) s.heap s.heap [] := va_S.rf
  have hl : lv_has ls 4 [(0, .ref v0), (1, .int v1), (2, .int v2), (3, .int v3)] := hl
  unfold s_X7_week at hrun
  refine lv_iload_n hx hb dX7_week_0 rfl (lv_at hl 1 rfl) ?_
  refine lv_iconst (v := 4) hx hb dX7_week_1 (by decide) ?_
  obtain ⟨x2, hc9, hrun⟩ := m_bind hrun
  refine mr_calli (mr_runS (As := [.int v1, .int 4]) (rest := []) hx hb hml hown hts (c_X7_isBelow l D ids st z hc9) yk_X7_isBelow ys_X7_isBelow wm_1_129 ⟨(Nat.le_of_ble_eq_true rfl), (Nat.le_of_ble_eq_true rfl)⟩ (mr_recvS hR hE hz hS hA) hl.1 rfl (Nat.le_of_ble_eq_true rfl) dX7_week_2 ⟨(Nat.le_of_ble_eq_true rfl), (Nat.le_of_ble_eq_true rfl)⟩) hR hz hS hA (fun H locs hR hz hS => ?_)
  refine lv_if_eq (tgt := 25) hx hb dX7_week_5 (by decide) (fun hc => ?_) (fun hc => ?_)
  · have hrun := mt_t hrun hc
    exact k_X7_week_b25 hx hb hr hml hown hts hlocks hin hE hA _ _ _ _ hrun hR hz hS (lv_sub hl [] rfl)
  · have hrun := mt_f hrun hc
    refine lv_iload_n hx hb dX7_week_8 rfl (lv_at hl 2 rfl) ?_
    refine lv_iconst (v := 4) hx hb dX7_week_9 (by decide) ?_
    obtain ⟨x10, hc9, hrun⟩ := m_bind hrun
    refine mr_calli (mr_runS (As := [.int v2, .int 4]) (rest := []) hx hb hml hown hts (c_X7_isBelow l D ids st z hc9) yk_X7_isBelow ys_X7_isBelow wm_1_129 ⟨(Nat.le_of_ble_eq_true rfl), (Nat.le_of_ble_eq_true rfl)⟩ (mr_recvS hR hE hz hS hA) hl.1 rfl (Nat.le_of_ble_eq_true rfl) dX7_week_10 ⟨(Nat.le_of_ble_eq_true rfl), (Nat.le_of_ble_eq_true rfl)⟩) hR hz hS hA (fun H locs hR hz hS => ?_)
    refine lv_if_eq (tgt := 25) hx hb dX7_week_13 (by decide) (fun hc => ?_) (fun hc => ?_)
    · have hrun := mt_t hrun hc
      exact k_X7_week_b25 hx hb hr hml hown hts hlocks hin hE hA _ _ _ _ hrun hR hz hS (lv_sub hl [] rfl)
    · have hrun := mt_f hrun hc
      refine lv_iload_n hx hb dX7_week_16 rfl (lv_at hl 3 rfl) ?_
      refine lv_bipush (v := 7) hx hb dX7_week_17 (by decide) ?_
      obtain ⟨x19, hc9, hrun⟩ := m_bind hrun
      refine mr_calli (mr_runS (As := [.int v3, .int 7]) (rest := []) hx hb hml hown hts (c_X7_isBelow l D ids st z hc9) yk_X7_isBelow ys_X7_isBelow wm_1_129 ⟨(Nat.le_of_ble_eq_true rfl), (Nat.le_of_ble_eq_true rfl)⟩ (mr_recvS hR hE hz hS hA) hl.1 rfl (Nat.le_of_ble_eq_true rfl) dX7_week_19 ⟨(Nat.le_of_ble_eq_true rfl), (Nat.le_of_ble_eq_true rfl)⟩) hR hz hS hA (fun H locs hR hz hS => ?_)
      refine lv_if_ne (tgt := 35) hx hb dX7_week_22 (by decide) (fun hc => ?_) (fun hc => ?_)
      · have hrun := mt_f hrun hc
        refine lv_aload_n hx hb dX7_week_35 rfl (lv_at hl 0 rfl) ?_
        refine lv_iload_n hx hb dX7_week_36 rfl (lv_at hl 1 rfl) ?_
        refine lv_iload_n hx hb dX7_week_37 rfl (lv_at hl 2 rfl) ?_
        refine lv_iload_n hx hb dX7_week_38 rfl (lv_at hl 3 rfl) ?_
        obtain ⟨_, ho9, hrun⟩ := m_bind hrun
        obtain ⟨fs9, ho9⟩ := m_is_spec ho9
        obtain ⟨x39, hc9, hrun⟩ := m_bind hrun
        refine mr_calli (mr_runV (As := [.int v1, .int v2, .int v3]) (rest := []) hx hb hml hown hts (c_X7_weekNumber l D ids st z hc9) yk_X7_weekNumber ys_X7_weekNumber wm_1_233 ⟨(Nat.le_of_ble_eq_true rfl), (Nat.le_of_ble_eq_true rfl)⟩ (mr_recv (ci := 5) hR hE hz hS hA rfl ho9) hl.1 rfl (Nat.le_of_ble_eq_true rfl) dX7_week_39 ⟨(Nat.le_of_ble_eq_true rfl), (Nat.le_of_ble_eq_true rfl)⟩) hR hz hS hA (fun H locs hR hz hS => ?_)
        obtain ⟨hv9, rfl⟩ := Prod.mk.inj (Option.some.inj hrun); obtain rfl := Sum.inr.inj hv9
        exact mr_iret hx hb hr hlocks hR hz hS dX7_week_42
      · have hrun := mt_t hrun hc
        exact k_X7_week_b25 hx hb hr hml hown hts hlocks hin hE hA _ _ _ _ hrun hR hz hS (lv_sub hl [] rfl)
/-! X3_ledgerNumber -/
abbrev rm_X3_ledgerNumber : Room := { frames := 1, cells := 0, slots := 0, locals := 21 }
theorem yk_X3_ledgerNumber : m_K yX3_ledgerNumber cX3_ledgerNumber 4 (some .int) 3 := ⟨wm_2_8, wm_0_2, by decide +kernel⟩
theorem ys_X3_ledgerNumber : Cond.instanceMethod yX3_ledgerNumber ∈ wT ∧ Cond.selects RX3 yX3_ledgerNumber yX3_ledgerNumber ∈ wT := ⟨wm_2_6, wm_2_7⟩
set_option maxRecDepth 100000 in
set_option maxHeartbeats 4000000 in
theorem k_X3_ledgerNumber_b15 {p : Program} {l : Launch} {e : Env} {s : State} {m : MethodId} {args : Array Value} {below : List Frame} {meth : Method} {c : Code} {D : va_G} {ids : m_I3} {st : m_T} {A : Nat → Prop} {z : Nat} {r : Int32} (hx : p.tables.exec = Jvm.exec) (hb : c.code = cX3_ledgerNumber) (hr : meth.sig.returnType = some .int) (hml : c.maxLocals = 4) (hown : s.vm.findClass RX3 = some m.cls) (hts : ∀ w ∈ (m_ws yX3_ledgerNumber cX3_ledgerNumber 4 (some .int)), w.before args s = true) (hlocks : meth.locks = false) (hin : meth.name = yX3_ledgerNumber.name) (hE : m_EV st A s s.heap) (hA : ∀ q, s.heap.size ≤ q → A q) {h : mH} (v1 : Int32) (v2 : Int32) (t0 : Nat) (H : Heap) (locs : List Loc) (ls : Array Slot) (hrun : s_X3_ledgerNumber_b15 h v1 v2 t0 = some r) (hR : Rl D ids A h s H) (hz : H.size = z) (hS : va_S A s.heap H locs) (hl : lv_has ls 4 [(1, .int v1), (2, .int v2)]) : W p l e rm_X3_ledgerNumber s m args below meth c H locs 0 0 (MQ below (mQi D ids A r h z) args s 0 0 A) (F0 m 15 ls [.ref t0]) := by
  unfold s_X3_ledgerNumber_b15 at hrun
  refine lv_iload_n hx hb dX3_ledgerNumber_15 rfl (lv_at hl 0 rfl) ?_
  refine lv_bipush (v := 8) hx hb dX3_ledgerNumber_16 (by decide) ?_
  refine lv_imul hx hb dX3_ledgerNumber_18 ?_
  refine lv_iload_n hx hb dX3_ledgerNumber_19 rfl (lv_at hl 1 rfl) ?_
  refine lv_iadd hx hb dX3_ledgerNumber_20 ?_
  obtain ⟨x21, hc9, hrun⟩ := m_bind hrun
  refine mr_calli (mr_runS (As := [.ref t0, .int ((v1 * 8) + v2)]) (rest := []) hx hb hml hown hts (c_X1_at l D ids st z hc9) yk_X1_at ys_X1_at wm_2_9 ⟨(Nat.le_of_ble_eq_true rfl), (Nat.le_of_ble_eq_true rfl)⟩ (mr_recvS hR hE hz hS hA) hl.1 rfl (Nat.le_of_ble_eq_true rfl) dX3_ledgerNumber_21 ⟨(Nat.le_of_ble_eq_true rfl), (Nat.le_of_ble_eq_true rfl)⟩) hR hz hS hA (fun H locs hR hz hS => ?_)
  obtain rfl := Option.some.inj hrun
  exact mr_iret hx hb hr hlocks hR hz hS dX3_ledgerNumber_24
set_option maxRecDepth 100000 in
set_option maxHeartbeats 4000000 in
theorem c_X3_ledgerNumber (l : Launch) (D : va_G) (ids : m_I3) (st : m_T) (z : Nat) {h : mH} {v0 : Nat} {v1 : Int32} {v2 : Int32} {v3 : Int32} {r : Int32} (hrun : s_X3_ledgerNumber h v0 v1 v2 v3 = some r) : Met l yX3_ledgerNumber (m_ws yX3_ledgerNumber cX3_ledgerNumber 4 (some .int)) rm_X3_ledgerNumber (mPc D ids st [.ref v0, .int v1, .int v2, .int v3] h z) (mQi D ids (m_A h z) r h z) rm_X3_ledgerNumber.cells rm_X3_ledgerNumber.slots (m_A h z) := by
  refine mr_of (cc := cX3_ledgerNumber) (maxL := 4) (ret := some .int) (by decide) rfl (Nat.le_of_ble_eq_true rfl) ?_
  intro p e s m below meth c ls hx hb hr hml hown hts hlocks hin hR hE hz hl
  have hA : ∀ q, s.heap.size ≤ q → m_A h z q := fun q hq => Or.inr (by rw [← hz]; exact hq)
  have hS : va_S (m_A h z) s.heap s.heap [] := va_S.rf
  have hl : lv_has ls 4 [(0, .ref v0), (1, .int v1), (2, .int v2), (3, .int v3)] := hl
  unfold s_X3_ledgerNumber at hrun
  refine lv_iload_n hx hb dX3_ledgerNumber_0 rfl (lv_at hl 3 rfl) ?_
  refine lv_if_ne (tgt := 11) hx hb dX3_ledgerNumber_1 (by decide) (fun hc => ?_) (fun hc => ?_)
  · have hrun := mt_f hrun hc
    refine lv_aload_n hx hb dX3_ledgerNumber_11 rfl (lv_at hl 0 rfl) ?_
    obtain ⟨x12, hc9, hrun⟩ := m_bind hrun
    refine mr_get (C := RX3) (T := TX3) (N := 10) (ci := 2) hx hb hts (fun w q => m_ws_in (wi_X3 w q)) hown hR rfl 6 (by decide) (hts _ (m_ws_in wm_0_65)) (fun _ h9 => h9) (m_gr_spec hc9) dX3_ledgerNumber_12 ?_
    exact k_X3_ledgerNumber_b15 hx hb hr hml hown hts hlocks hin hE hA _ _ _ _ _ _ hrun hR hz hS (lv_sub hl [1, 2] rfl)
  · have hrun := mt_t hrun hc
    refine lv_aload_n hx hb dX3_ledgerNumber_4 rfl (lv_at hl 0 rfl) ?_
    obtain ⟨x5, hc9, hrun⟩ := m_bind hrun
    refine mr_get (C := RX3) (T := TX3) (N := 10) (ci := 2) hx hb hts (fun w q => m_ws_in (wi_X3 w q)) hown hR rfl 5 (by decide) (hts _ (m_ws_in wm_0_64)) (fun _ h9 => h9) (m_gr_spec hc9) dX3_ledgerNumber_5 ?_
    refine lv_goto (tgt := 15) hx hb dX3_ledgerNumber_8 (by decide) ?_
    exact k_X3_ledgerNumber_b15 hx hb hr hml hown hts hlocks hin hE hA _ _ _ _ _ _ hrun hR hz hS (lv_sub hl [1, 2] rfl)
/-! X7_ledger -/
abbrev rm_X7_ledger : Room := { frames := 2, cells := 0, slots := 0, locals := 44 }
theorem yk_X7_ledger : m_K yX7_ledger cX7_ledger 4 (some .int) 3 := ⟨wm_2_4, wm_0_1, by decide +kernel⟩
theorem ys_X7_ledger : Cond.instanceMethod yX7_ledger ∈ wT ∧ Cond.selects RX7 yX7_ledger yX7_ledger ∈ wT := ⟨wm_2_2, wm_2_3⟩
set_option maxRecDepth 100000 in
set_option maxHeartbeats 4000000 in
theorem k_X7_ledger_b25 {p : Program} {l : Launch} {e : Env} {s : State} {m : MethodId} {args : Array Value} {below : List Frame} {meth : Method} {c : Code} {D : va_G} {ids : m_I3} {st : m_T} {A : Nat → Prop} {z : Nat} {r : Int32} {hF : mH} (hx : p.tables.exec = Jvm.exec) (hb : c.code = cX7_ledger) (hr : meth.sig.returnType = some .int) (hml : c.maxLocals = 4) (hown : s.vm.findClass RX7 = some m.cls) (hts : ∀ w ∈ (m_ws yX7_ledger cX7_ledger 4 (some .int)), w.before args s = true) (hlocks : meth.locks = false) (hin : meth.name = yX7_ledger.name) (hE : m_EV st A s s.heap) (hA : ∀ q, s.heap.size ≤ q → A q) (h : mH) (H : Heap) (locs : List Loc) (ls : Array Slot) (hrun : s_X7_ledger_b25 h = some (Sum.inr r, hF)) (hR : Rl D ids A h s H) (hz : H.size = z) (hS : va_S A s.heap H locs) (hl : lv_has ls 4 []) : W p l e rm_X7_ledger s m args below meth c H locs 0 0 (MQ below (mQi D ids A r hF z) args s 0 0 A) (F0 m 25 ls []) := by
  unfold s_X7_ledger_b25 at hrun
  exact absurd (Prod.mk.inj (Option.some.inj hrun)).1 (fun h9 => nomatch h9)
set_option maxRecDepth 100000 in
set_option maxHeartbeats 4000000 in
theorem c_X7_ledger (l : Launch) (D : va_G) (ids : m_I3) (st : m_T) (z : Nat) {h : mH} {v0 : Nat} {v1 : Int32} {v2 : Int32} {v3 : Int32} {r : Int32} {hF : mH} (hrun : s_X7_ledger h v0 v1 v2 v3 = some (Sum.inr r, hF)) : Met l yX7_ledger (m_ws yX7_ledger cX7_ledger 4 (some .int)) rm_X7_ledger (mPc D ids st [.ref v0, .int v1, .int v2, .int v3] h z) (mQi D ids (m_A h z) r hF z) rm_X7_ledger.cells rm_X7_ledger.slots (m_A h z) := by
  refine mr_of (cc := cX7_ledger) (maxL := 4) (ret := some .int) (by decide) rfl (Nat.le_of_ble_eq_true rfl) ?_
  intro p e s m below meth c ls hx hb hr hml hown hts hlocks hin hR hE hz hl
  have hA : ∀ q, s.heap.size ≤ q → m_A h z q := fun q hq => Or.inr (by rw [← hz]; exact hq)
  have hS : va_S (m_A h z) s.heap s.heap [] := va_S.rf
  have hl : lv_has ls 4 [(0, .ref v0), (1, .int v1), (2, .int v2), (3, .int v3)] := hl
  unfold s_X7_ledger at hrun
  refine lv_iload_n hx hb dX7_ledger_0 rfl (lv_at hl 1 rfl) ?_
  refine lv_iconst (v := 4) hx hb dX7_ledger_1 (by decide) ?_
  obtain ⟨x2, hc9, hrun⟩ := m_bind hrun
  refine mr_calli (mr_runS (As := [.int v1, .int 4]) (rest := []) hx hb hml hown hts (c_X7_isBelow l D ids st z hc9) yk_X7_isBelow ys_X7_isBelow wm_1_129 ⟨(Nat.le_of_ble_eq_true rfl), (Nat.le_of_ble_eq_true rfl)⟩ (mr_recvS hR hE hz hS hA) hl.1 rfl (Nat.le_of_ble_eq_true rfl) dX7_ledger_2 ⟨(Nat.le_of_ble_eq_true rfl), (Nat.le_of_ble_eq_true rfl)⟩) hR hz hS hA (fun H locs hR hz hS => ?_)
  refine lv_if_eq (tgt := 25) hx hb dX7_ledger_5 (by decide) (fun hc => ?_) (fun hc => ?_)
  · have hrun := mt_t hrun hc
    exact k_X7_ledger_b25 hx hb hr hml hown hts hlocks hin hE hA _ _ _ _ hrun hR hz hS (lv_sub hl [] rfl)
  · have hrun := mt_f hrun hc
    refine lv_iload_n hx hb dX7_ledger_8 rfl (lv_at hl 2 rfl) ?_
    refine lv_bipush (v := 8) hx hb dX7_ledger_9 (by decide) ?_
    obtain ⟨x11, hc9, hrun⟩ := m_bind hrun
    refine mr_calli (mr_runS (As := [.int v2, .int 8]) (rest := []) hx hb hml hown hts (c_X7_isBelow l D ids st z hc9) yk_X7_isBelow ys_X7_isBelow wm_1_129 ⟨(Nat.le_of_ble_eq_true rfl), (Nat.le_of_ble_eq_true rfl)⟩ (mr_recvS hR hE hz hS hA) hl.1 rfl (Nat.le_of_ble_eq_true rfl) dX7_ledger_11 ⟨(Nat.le_of_ble_eq_true rfl), (Nat.le_of_ble_eq_true rfl)⟩) hR hz hS hA (fun H locs hR hz hS => ?_)
    refine lv_if_eq (tgt := 25) hx hb dX7_ledger_14 (by decide) (fun hc => ?_) (fun hc => ?_)
    · have hrun := mt_t hrun hc
      exact k_X7_ledger_b25 hx hb hr hml hown hts hlocks hin hE hA _ _ _ _ hrun hR hz hS (lv_sub hl [] rfl)
    · have hrun := mt_f hrun hc
      refine lv_iload_n hx hb dX7_ledger_17 rfl (lv_at hl 3 rfl) ?_
      refine lv_iconst (v := 2) hx hb dX7_ledger_18 (by decide) ?_
      obtain ⟨x19, hc9, hrun⟩ := m_bind hrun
      refine mr_calli (mr_runS (As := [.int v3, .int 2]) (rest := []) hx hb hml hown hts (c_X7_isBelow l D ids st z hc9) yk_X7_isBelow ys_X7_isBelow wm_1_129 ⟨(Nat.le_of_ble_eq_true rfl), (Nat.le_of_ble_eq_true rfl)⟩ (mr_recvS hR hE hz hS hA) hl.1 rfl (Nat.le_of_ble_eq_true rfl) dX7_ledger_19 ⟨(Nat.le_of_ble_eq_true rfl), (Nat.le_of_ble_eq_true rfl)⟩) hR hz hS hA (fun H locs hR hz hS => ?_)
      refine lv_if_ne (tgt := 35) hx hb dX7_ledger_22 (by decide) (fun hc => ?_) (fun hc => ?_)
      · have hrun := mt_f hrun hc
        refine lv_aload_n hx hb dX7_ledger_35 rfl (lv_at hl 0 rfl) ?_
        obtain ⟨x36, hc9, hrun⟩ := m_bind hrun
        refine mr_get (C := RX7) (T := TX7) (N := 8) (ci := 5) hx hb hts (fun w q => m_ws_in (wi_X7 w q)) hown hR rfl 0 (by decide) (hts _ (m_ws_in wm_1_7)) (fun _ h9 => h9) (m_gr_spec hc9) dX7_ledger_36 ?_
        refine lv_iload_n hx hb dX7_ledger_39 rfl (lv_at hl 1 rfl) ?_
        refine lv_iload_n hx hb dX7_ledger_40 rfl (lv_at hl 2 rfl) ?_
        refine lv_iload_n hx hb dX7_ledger_41 rfl (lv_at hl 3 rfl) ?_
        obtain ⟨_, ho9, hrun⟩ := m_bind hrun
        obtain ⟨fs9, ho9⟩ := m_is_spec ho9
        obtain ⟨x42, hc9, hrun⟩ := m_bind hrun
        refine mr_calli (mr_runV (As := [.int v1, .int v2, .int v3]) (rest := []) hx hb hml hown hts (c_X3_ledgerNumber l D ids st z hc9) yk_X3_ledgerNumber ys_X3_ledgerNumber wm_2_5 ⟨(Nat.le_of_ble_eq_true rfl), (Nat.le_of_ble_eq_true rfl)⟩ (mr_recv (ci := 2) hR hE hz hS hA rfl ho9) hl.1 rfl (Nat.le_of_ble_eq_true rfl) dX7_ledger_42 ⟨(Nat.le_of_ble_eq_true rfl), (Nat.le_of_ble_eq_true rfl)⟩) hR hz hS hA (fun H locs hR hz hS => ?_)
        obtain ⟨hv9, rfl⟩ := Prod.mk.inj (Option.some.inj hrun); obtain rfl := Sum.inr.inj hv9
        exact mr_iret hx hb hr hlocks hR hz hS dX7_ledger_45
      · have hrun := mt_t hrun hc
        exact k_X7_ledger_b25 hx hb hr hml hown hts hlocks hin hE hA _ _ _ _ hrun hR hz hS (lv_sub hl [] rfl)
/-! L_told -/
abbrev rm_L_told : Room := { frames := 7, cells := 0, slots := 0, locals := 156 }
theorem yk_L_told : m_K yL_told cL_told 5 (some .long) 1 := ⟨wm_1_187, wm_0_0, by decide +kernel⟩
theorem ys_L_told : Cond.static yL_told ∈ wT := wm_1_186
set_option maxRecDepth 100000 in
set_option maxHeartbeats 4000000 in
theorem k_L_told_L90 {p : Program} {l : Launch} {e : Env} {s : State} {m : MethodId} {args : Array Value} {below : List Frame} {meth : Method} {c : Code} {D : va_G} {ids : m_I3} {st : m_T} {A : Nat → Prop} {z : Nat} {r : Int64} {hF : mH} (hx : p.tables.exec = Jvm.exec) (hb : c.code = cL_told) (hr : meth.sig.returnType = some .long) (hml : c.maxLocals = 5) (hown : s.vm.findClass RL = some m.cls) (hts : ∀ w ∈ (m_ws yL_told cL_told 5 (some .long)), w.before args s = true) (hlocks : meth.locks = false) (hin : meth.name = yL_told.name) (hE : m_EV st A s s.heap) (hA : ∀ q, s.heap.size ≤ q → A q) {k81 : mH → Nat → Int64 → Int32 → Option (Int64 × mH)} (hk81 : ∀ (h : mH) (v0 : Nat) (v1 : Int64) (v3 : Int32) (H : Heap) (locs : List Loc) (ls : Array Slot), k81 h v0 v1 v3 = some (r, hF) → Rl D ids A h s H → H.size = z → va_S A s.heap H locs → lv_has ls 5 [(0, .ref v0), (1, .long v1), (3, .int v3)] → W p l e rm_L_told s m args below meth c H locs 0 0 (MQ below (mQl D ids A r hF z) args s 0 0 A) (F0 m 81 ls [])) : ∀ (n : Nat) (h : mH) (v0 : Nat) (v1 : Int64) (v3 : Int32) (v4 : Int32) (H : Heap) (locs : List Loc) (ls : Array Slot), s_L_told_L90 k81 n h v0 v1 v3 v4 = some (r, hF) → Rl D ids A h s H → H.size = z → va_S A s.heap H locs → lv_has ls 5 [(0, .ref v0), (1, .long v1), (3, .int v3), (4, .int v4)] → W p l e rm_L_told s m args below meth c H locs 0 0 (MQ below (mQl D ids A r hF z) args s 0 0 A) (F0 m 90 ls []) := by
  intro n
  induction n with
  | zero => intro h v0 v1 v3 v4 H locs ls hrun; exact absurd hrun (by intro h9; cases h9)
  | succ n ih =>
    intro h v0 v1 v3 v4 H locs ls hrun hR hz hS hl
    rw [s_L_told_L90] at hrun
    refine lv_iload hx hb dL_told_90 (lv_at hl 3 rfl) ?_
    refine lv_bipush (v := 7) hx hb dL_told_92 (by decide) ?_
    refine lv_icmp_ge (tgt := 123) hx hb dL_told_94 (by decide) (fun hc => ?_) (fun hc => ?_)
    · have hrun := mt_t hrun hc
      refine lv_ldc2 (v := 31) hx hb hown (hts _ (m_ws_in wm_1_189)) dL_told_123 ?_
      refine lv_lload_n hx hb dL_told_126 rfl (lv_at hl 1 rfl) ?_
      refine lv_lmul hx hb dL_told_127 ?_
      refine lv_aload_n hx hb dL_told_128 rfl (lv_at hl 0 rfl) ?_
      refine lv_iload_n hx hb dL_told_129 rfl (lv_at hl 2 rfl) ?_
      refine lv_iconst (v := 4) hx hb dL_told_130 (by decide) ?_
      obtain ⟨x131, hc9, hrun⟩ := m_bind hrun
      obtain ⟨hn9, rfl⟩ := m_div_spec hc9
      refine lv_idiv hx hb dL_told_131 hn9 ?_
      refine lv_topi (fun x131 ex131 => ?_)
      try rw [← ex131] at hrun
      refine lv_iload_n hx hb dL_told_132 rfl (lv_at hl 2 rfl) ?_
      refine lv_iconst (v := 4) hx hb dL_told_133 (by decide) ?_
      obtain ⟨x134, hc9, hrun⟩ := m_bind hrun
      obtain ⟨hn9, rfl⟩ := m_rem_spec hc9
      refine lv_irem hx hb dL_told_134 hn9 ?_
      refine lv_topi (fun x134 ex134 => ?_)
      try rw [← ex134] at hrun
      refine lv_iconst (v := 1) hx hb dL_told_135 (by decide) ?_
      obtain ⟨_, ho9, hrun⟩ := m_bind hrun
      obtain ⟨fs9, ho9⟩ := m_is_spec ho9
      obtain ⟨⟨x136, h136⟩, hc9, hrun⟩ := m_bind hrun
      refine mr_calli (mr_runV (As := [.int x131, .int x134, .int 1]) (rest := [.long (31 * v1)]) hx hb hml hown hts (c_X7_ledger l D ids st z (m_ok_spec hc9)) yk_X7_ledger ys_X7_ledger wm_2_1 ⟨(Nat.le_of_ble_eq_true rfl), (Nat.le_of_ble_eq_true rfl)⟩ (mr_recv (ci := 5) hR hE hz hS hA rfl ho9) hl.1 rfl (Nat.le_of_ble_eq_true rfl) dL_told_136 ⟨(Nat.le_of_ble_eq_true rfl), (Nat.le_of_ble_eq_true rfl)⟩) hR hz hS hA (fun H locs hR hz hS => ?_)
      refine lv_i2l (v := x136.toInt64) hx hb dL_told_139 rfl ?_
      refine lv_ladd hx hb dL_told_140 ?_
      refine lv_lstore_n (lv' := [(1, .long ((31 * v1) + x136.toInt64)), (0, .ref v0), (3, .int v3), (4, .int v4)]) hx hb dL_told_141 rfl hl (by decide) rfl (fun ls hl => ?_)
      refine lv_iinc (v := v3 + 1) (lv' := [(3, .int (v3 + 1)), (1, .long ((31 * v1) + x136.toInt64)), (0, .ref v0), (4, .int v4)]) hx hb dL_told_142 hl (k := 2) rfl rfl (by decide) rfl (fun ls hl => ?_)
      refine lv_goto (tgt := 81) hx hb dL_told_145 (by decide) ?_
      exact hk81 _ _ _ _ _ _ _ hrun hR hz hS (lv_sub hl [2, 1, 0] rfl)
    · have hrun := mt_f hrun hc
      refine lv_ldc2 (v := 31) hx hb hown (hts _ (m_ws_in wm_1_189)) dL_told_97 ?_
      refine lv_lload_n hx hb dL_told_100 rfl (lv_at hl 1 rfl) ?_
      refine lv_lmul hx hb dL_told_101 ?_
      refine lv_aload_n hx hb dL_told_102 rfl (lv_at hl 0 rfl) ?_
      refine lv_iload_n hx hb dL_told_103 rfl (lv_at hl 2 rfl) ?_
      refine lv_iconst (v := 4) hx hb dL_told_104 (by decide) ?_
      obtain ⟨x105, hc9, hrun⟩ := m_bind hrun
      obtain ⟨hn9, rfl⟩ := m_div_spec hc9
      refine lv_idiv hx hb dL_told_105 hn9 ?_
      refine lv_topi (fun x105 ex105 => ?_)
      try rw [← ex105] at hrun
      refine lv_iload_n hx hb dL_told_106 rfl (lv_at hl 2 rfl) ?_
      refine lv_iconst (v := 4) hx hb dL_told_107 (by decide) ?_
      obtain ⟨x108, hc9, hrun⟩ := m_bind hrun
      obtain ⟨hn9, rfl⟩ := m_rem_spec hc9
      refine lv_irem hx hb dL_told_108 hn9 ?_
      refine lv_topi (fun x108 ex108 => ?_)
      try rw [← ex108] at hrun
      refine lv_iload hx hb dL_told_109 (lv_at hl 3 rfl) ?_
      obtain ⟨_, ho9, hrun⟩ := m_bind hrun
      obtain ⟨fs9, ho9⟩ := m_is_spec ho9
      obtain ⟨⟨x111, h111⟩, hc9, hrun⟩ := m_bind hrun
      refine mr_calli (mr_runV (As := [.int x105, .int x108, .int v4]) (rest := [.long (31 * v1)]) hx hb hml hown hts (c_X7_week l D ids st z (m_ok_spec hc9)) yk_X7_week ys_X7_week wm_1_228 ⟨(Nat.le_of_ble_eq_true rfl), (Nat.le_of_ble_eq_true rfl)⟩ (mr_recv (ci := 5) hR hE hz hS hA rfl ho9) hl.1 rfl (Nat.le_of_ble_eq_true rfl) dL_told_111 ⟨(Nat.le_of_ble_eq_true rfl), (Nat.le_of_ble_eq_true rfl)⟩) hR hz hS hA (fun H locs hR hz hS => ?_)
      refine lv_i2l (v := x111.toInt64) hx hb dL_told_114 rfl ?_
      refine lv_ladd hx hb dL_told_115 ?_
      refine lv_lstore_n (lv' := [(1, .long ((31 * v1) + x111.toInt64)), (0, .ref v0), (3, .int v3), (4, .int v4)]) hx hb dL_told_116 rfl hl (by decide) rfl (fun ls hl => ?_)
      refine lv_iinc (v := v4 + 1) (lv' := [(4, .int (v4 + 1)), (1, .long ((31 * v1) + x111.toInt64)), (0, .ref v0), (3, .int v3)]) hx hb dL_told_117 hl (k := 3) rfl rfl (by decide) rfl (fun ls hl => ?_)
      refine lv_goto (tgt := 90) hx hb dL_told_120 (by decide) ?_
      exact ih _ _ _ _ _ _ _ _ hrun hR hz hS (lv_sub hl [2, 1, 3, 0] rfl)
set_option maxRecDepth 100000 in
set_option maxHeartbeats 4000000 in
theorem k_L_told_L81 {p : Program} {l : Launch} {e : Env} {s : State} {m : MethodId} {args : Array Value} {below : List Frame} {meth : Method} {c : Code} {D : va_G} {ids : m_I3} {st : m_T} {A : Nat → Prop} {z : Nat} {r : Int64} {hF : mH} (hx : p.tables.exec = Jvm.exec) (hb : c.code = cL_told) (hr : meth.sig.returnType = some .long) (hml : c.maxLocals = 5) (hown : s.vm.findClass RL = some m.cls) (hts : ∀ w ∈ (m_ws yL_told cL_told 5 (some .long)), w.before args s = true) (hlocks : meth.locks = false) (hin : meth.name = yL_told.name) (hE : m_EV st A s s.heap) (hA : ∀ q, s.heap.size ≤ q → A q) : ∀ (n : Nat) (h : mH) (v0 : Nat) (v1 : Int64) (v3 : Int32) (H : Heap) (locs : List Loc) (ls : Array Slot), s_L_told_L81 n h v0 v1 v3 = some (r, hF) → Rl D ids A h s H → H.size = z → va_S A s.heap H locs → lv_has ls 5 [(0, .ref v0), (1, .long v1), (3, .int v3)] → W p l e rm_L_told s m args below meth c H locs 0 0 (MQ below (mQl D ids A r hF z) args s 0 0 A) (F0 m 81 ls []) := by
  intro n
  induction n with
  | zero => intro h v0 v1 v3 H locs ls hrun; exact absurd hrun (by intro h9; cases h9)
  | succ n ih =>
    intro h v0 v1 v3 H locs ls hrun hR hz hS hl
    rw [s_L_told_L81] at hrun
    refine lv_iload_n hx hb dL_told_81 rfl (lv_at hl 2 rfl) ?_
    refine lv_bipush (v := 16) hx hb dL_told_82 (by decide) ?_
    refine lv_icmp_ge (tgt := 148) hx hb dL_told_84 (by decide) (fun hc => ?_) (fun hc => ?_)
    · have hrun := mt_t hrun hc
      refine lv_lload_n hx hb dL_told_148 rfl (lv_at hl 1 rfl) ?_
      obtain ⟨rfl, rfl⟩ := Prod.mk.inj (Option.some.inj hrun)
      exact mr_lret hx hb hr hlocks hR hz hS dL_told_149
    · have hrun := mt_f hrun hc
      refine lv_iconst (v := 3) hx hb dL_told_87 (by decide) ?_
      refine lv_istore (lv' := [(4, .int 3), (0, .ref v0), (1, .long v1), (3, .int v3)]) hx hb dL_told_88 hl (by decide) rfl (fun ls hl => ?_)
      exact k_L_told_L90 hx hb hr hml hown hts hlocks hin hE hA ih _ _ _ _ _ _ _ _ _ hrun hR hz hS (lv_sub hl [1, 2, 3, 0] rfl)
set_option maxRecDepth 100000 in
set_option maxHeartbeats 4000000 in
theorem k_L_told_L45 {p : Program} {l : Launch} {e : Env} {s : State} {m : MethodId} {args : Array Value} {below : List Frame} {meth : Method} {c : Code} {D : va_G} {ids : m_I3} {st : m_T} {A : Nat → Prop} {z : Nat} {r : Int64} {hF : mH} (hx : p.tables.exec = Jvm.exec) (hb : c.code = cL_told) (hr : meth.sig.returnType = some .long) (hml : c.maxLocals = 5) (hown : s.vm.findClass RL = some m.cls) (hts : ∀ w ∈ (m_ws yL_told cL_told 5 (some .long)), w.before args s = true) (hlocks : meth.locks = false) (hin : meth.name = yL_told.name) (hE : m_EV st A s s.heap) (hA : ∀ q, s.heap.size ≤ q → A q) {k33 : mH → Nat → Int64 → Int32 → Option (Int64 × mH)} (hk33 : ∀ (h : mH) (v0 : Nat) (v1 : Int64) (v3 : Int32) (H : Heap) (locs : List Loc) (ls : Array Slot), k33 h v0 v1 v3 = some (r, hF) → Rl D ids A h s H → H.size = z → va_S A s.heap H locs → lv_has ls 5 [(0, .ref v0), (1, .long v1), (3, .int v3)] → W p l e rm_L_told s m args below meth c H locs 0 0 (MQ below (mQl D ids A r hF z) args s 0 0 A) (F0 m 33 ls [])) : ∀ (n : Nat) (h : mH) (v0 : Nat) (v1 : Int64) (v3 : Int32) (v4 : Int32) (H : Heap) (locs : List Loc) (ls : Array Slot), s_L_told_L45 k33 n h v0 v1 v3 v4 = some (r, hF) → Rl D ids A h s H → H.size = z → va_S A s.heap H locs → lv_has ls 5 [(0, .ref v0), (1, .long v1), (3, .int v3), (4, .int v4)] → W p l e rm_L_told s m args below meth c H locs 0 0 (MQ below (mQl D ids A r hF z) args s 0 0 A) (F0 m 45 ls []) := by
  intro n
  induction n with
  | zero => intro h v0 v1 v3 v4 H locs ls hrun; exact absurd hrun (by intro h9; cases h9)
  | succ n ih =>
    intro h v0 v1 v3 v4 H locs ls hrun hR hz hS hl
    rw [s_L_told_L45] at hrun
    refine lv_iload hx hb dL_told_45 (lv_at hl 3 rfl) ?_
    refine lv_bipush (v := 8) hx hb dL_told_47 (by decide) ?_
    refine lv_icmp_ge (tgt := 73) hx hb dL_told_49 (by decide) (fun hc => ?_) (fun hc => ?_)
    · have hrun := mt_t hrun hc
      refine lv_iinc (v := v3 + 1) (lv' := [(3, .int (v3 + 1)), (0, .ref v0), (1, .long v1), (4, .int v4)]) hx hb dL_told_73 hl (k := 2) rfl rfl (by decide) rfl (fun ls hl => ?_)
      refine lv_goto (tgt := 33) hx hb dL_told_76 (by decide) ?_
      exact hk33 _ _ _ _ _ _ _ hrun hR hz hS (lv_sub hl [1, 2, 0] rfl)
    · have hrun := mt_f hrun hc
      refine lv_ldc2 (v := 31) hx hb hown (hts _ (m_ws_in wm_1_189)) dL_told_52 ?_
      refine lv_lload_n hx hb dL_told_55 rfl (lv_at hl 1 rfl) ?_
      refine lv_lmul hx hb dL_told_56 ?_
      refine lv_aload_n hx hb dL_told_57 rfl (lv_at hl 0 rfl) ?_
      refine lv_iload_n hx hb dL_told_58 rfl (lv_at hl 2 rfl) ?_
      refine lv_iload hx hb dL_told_59 (lv_at hl 3 rfl) ?_
      obtain ⟨_, ho9, hrun⟩ := m_bind hrun
      obtain ⟨fs9, ho9⟩ := m_is_spec ho9
      obtain ⟨⟨x61, h61⟩, hc9, hrun⟩ := m_bind hrun
      refine mr_calli (mr_runV (As := [.int v3, .int v4]) (rest := [.long (31 * v1)]) hx hb hml hown hts (c_X7_tapOf l D ids st z (m_ok_spec hc9)) yk_X7_tapOf ys_X7_tapOf wm_1_190 ⟨(Nat.le_of_ble_eq_true rfl), (Nat.le_of_ble_eq_true rfl)⟩ (mr_recv (ci := 5) hR hE hz hS hA rfl ho9) hl.1 rfl (Nat.le_of_ble_eq_true rfl) dL_told_61 ⟨(Nat.le_of_ble_eq_true rfl), (Nat.le_of_ble_eq_true rfl)⟩) hR hz hS hA (fun H locs hR hz hS => ?_)
      refine lv_i2l (v := x61.toInt64) hx hb dL_told_64 rfl ?_
      refine lv_ladd hx hb dL_told_65 ?_
      refine lv_lstore_n (lv' := [(1, .long ((31 * v1) + x61.toInt64)), (0, .ref v0), (3, .int v3), (4, .int v4)]) hx hb dL_told_66 rfl hl (by decide) rfl (fun ls hl => ?_)
      refine lv_iinc (v := v4 + 1) (lv' := [(4, .int (v4 + 1)), (1, .long ((31 * v1) + x61.toInt64)), (0, .ref v0), (3, .int v3)]) hx hb dL_told_67 hl (k := 3) rfl rfl (by decide) rfl (fun ls hl => ?_)
      refine lv_goto (tgt := 45) hx hb dL_told_70 (by decide) ?_
      exact ih _ _ _ _ _ _ _ _ hrun hR hz hS (lv_sub hl [2, 1, 3, 0] rfl)
set_option maxRecDepth 100000 in
set_option maxHeartbeats 4000000 in
theorem k_L_told_L33 {p : Program} {l : Launch} {e : Env} {s : State} {m : MethodId} {args : Array Value} {below : List Frame} {meth : Method} {c : Code} {D : va_G} {ids : m_I3} {st : m_T} {A : Nat → Prop} {z : Nat} {r : Int64} {hF : mH} (hx : p.tables.exec = Jvm.exec) (hb : c.code = cL_told) (hr : meth.sig.returnType = some .long) (hml : c.maxLocals = 5) (hown : s.vm.findClass RL = some m.cls) (hts : ∀ w ∈ (m_ws yL_told cL_told 5 (some .long)), w.before args s = true) (hlocks : meth.locks = false) (hin : meth.name = yL_told.name) (hE : m_EV st A s s.heap) (hA : ∀ q, s.heap.size ≤ q → A q) : ∀ (n : Nat) (h : mH) (v0 : Nat) (v1 : Int64) (v3 : Int32) (H : Heap) (locs : List Loc) (ls : Array Slot), s_L_told_L33 n h v0 v1 v3 = some (r, hF) → Rl D ids A h s H → H.size = z → va_S A s.heap H locs → lv_has ls 5 [(0, .ref v0), (1, .long v1), (3, .int v3)] → W p l e rm_L_told s m args below meth c H locs 0 0 (MQ below (mQl D ids A r hF z) args s 0 0 A) (F0 m 33 ls []) := by
  intro n
  induction n with
  | zero => intro h v0 v1 v3 H locs ls hrun; exact absurd hrun (by intro h9; cases h9)
  | succ n ih =>
    intro h v0 v1 v3 H locs ls hrun hR hz hS hl
    rw [s_L_told_L33] at hrun
    refine lv_iload_n hx hb dL_told_33 rfl (lv_at hl 2 rfl) ?_
    refine lv_aload_n hx hb dL_told_34 rfl (lv_at hl 0 rfl) ?_
    refine lv_iconst (v := 0) hx hb dL_told_35 (by decide) ?_
    obtain ⟨_, ho9, hrun⟩ := m_bind hrun
    obtain ⟨fs9, ho9⟩ := m_is_spec ho9
    obtain ⟨⟨x36, h36⟩, hc9, hrun⟩ := m_bind hrun
    refine mr_calli (mr_runV (As := [.int 0]) (rest := [.int v3]) hx hb hml hown hts (c_X7_count l D ids st z (m_ok_spec hc9)) yk_X7_count ys_X7_count wm_1_125 ⟨(Nat.le_of_ble_eq_true rfl), (Nat.le_of_ble_eq_true rfl)⟩ (mr_recv (ci := 5) hR hE hz hS hA rfl ho9) hl.1 rfl (Nat.le_of_ble_eq_true rfl) dL_told_36 ⟨(Nat.le_of_ble_eq_true rfl), (Nat.le_of_ble_eq_true rfl)⟩) hR hz hS hA (fun H locs hR hz hS => ?_)
    refine lv_icmp_ge (tgt := 79) hx hb dL_told_39 (by decide) (fun hc => ?_) (fun hc => ?_)
    · have hrun := mt_t hrun hc
      refine lv_iconst (v := 0) hx hb dL_told_79 (by decide) ?_
      refine lv_istore_n (lv' := [(3, .int 0), (0, .ref v0), (1, .long v1)]) hx hb dL_told_80 rfl hl (by decide) rfl (fun ls hl => ?_)
      exact k_L_told_L81 hx hb hr hml hown hts hlocks hin hE hA _ _ _ _ _ _ _ _ hrun hR hz hS (lv_sub hl [1, 2, 0] rfl)
    · have hrun := mt_f hrun hc
      refine lv_iconst (v := 0) hx hb dL_told_42 (by decide) ?_
      refine lv_istore (lv' := [(4, .int 0), (0, .ref v0), (1, .long v1), (3, .int v3)]) hx hb dL_told_43 hl (by decide) rfl (fun ls hl => ?_)
      exact k_L_told_L45 hx hb hr hml hown hts hlocks hin hE hA ih _ _ _ _ _ _ _ _ _ hrun hR hz hS (lv_sub hl [1, 2, 3, 0] rfl)
set_option maxRecDepth 100000 in
set_option maxHeartbeats 4000000 in
theorem k_L_told_L6 {p : Program} {l : Launch} {e : Env} {s : State} {m : MethodId} {args : Array Value} {below : List Frame} {meth : Method} {c : Code} {D : va_G} {ids : m_I3} {st : m_T} {A : Nat → Prop} {z : Nat} {r : Int64} {hF : mH} (hx : p.tables.exec = Jvm.exec) (hb : c.code = cL_told) (hr : meth.sig.returnType = some .long) (hml : c.maxLocals = 5) (hown : s.vm.findClass RL = some m.cls) (hts : ∀ w ∈ (m_ws yL_told cL_told 5 (some .long)), w.before args s = true) (hlocks : meth.locks = false) (hin : meth.name = yL_told.name) (hE : m_EV st A s s.heap) (hA : ∀ q, s.heap.size ≤ q → A q) : ∀ (n : Nat) (h : mH) (v0 : Nat) (v1 : Int64) (v3 : Int32) (H : Heap) (locs : List Loc) (ls : Array Slot), s_L_told_L6 n h v0 v1 v3 = some (r, hF) → Rl D ids A h s H → H.size = z → va_S A s.heap H locs → lv_has ls 5 [(0, .ref v0), (1, .long v1), (3, .int v3)] → W p l e rm_L_told s m args below meth c H locs 0 0 (MQ below (mQl D ids A r hF z) args s 0 0 A) (F0 m 6 ls []) := by
  intro n
  induction n with
  | zero => intro h v0 v1 v3 H locs ls hrun; exact absurd hrun (by intro h9; cases h9)
  | succ n ih =>
    intro h v0 v1 v3 H locs ls hrun hR hz hS hl
    rw [s_L_told_L6] at hrun
    refine lv_iload_n hx hb dL_told_6 rfl (lv_at hl 2 rfl) ?_
    refine lv_bipush (v := 9) hx hb dL_told_7 (by decide) ?_
    refine lv_icmp_ge (tgt := 31) hx hb dL_told_9 (by decide) (fun hc => ?_) (fun hc => ?_)
    · have hrun := mt_t hrun hc
      refine lv_iconst (v := 0) hx hb dL_told_31 (by decide) ?_
      refine lv_istore_n (lv' := [(3, .int 0), (0, .ref v0), (1, .long v1)]) hx hb dL_told_32 rfl hl (by decide) rfl (fun ls hl => ?_)
      exact k_L_told_L33 hx hb hr hml hown hts hlocks hin hE hA _ _ _ _ _ _ _ _ hrun hR hz hS (lv_sub hl [1, 2, 0] rfl)
    · have hrun := mt_f hrun hc
      refine lv_ldc2 (v := 31) hx hb hown (hts _ (m_ws_in wm_1_189)) dL_told_12 ?_
      refine lv_lload_n hx hb dL_told_15 rfl (lv_at hl 1 rfl) ?_
      refine lv_lmul hx hb dL_told_16 ?_
      refine lv_aload_n hx hb dL_told_17 rfl (lv_at hl 0 rfl) ?_
      refine lv_iload_n hx hb dL_told_18 rfl (lv_at hl 2 rfl) ?_
      obtain ⟨_, ho9, hrun⟩ := m_bind hrun
      obtain ⟨fs9, ho9⟩ := m_is_spec ho9
      obtain ⟨⟨x19, h19⟩, hc9, hrun⟩ := m_bind hrun
      refine mr_calli (mr_runV (As := [.int v3]) (rest := [.long (31 * v1)]) hx hb hml hown hts (c_X7_count l D ids st z (m_ok_spec hc9)) yk_X7_count ys_X7_count wm_1_125 ⟨(Nat.le_of_ble_eq_true rfl), (Nat.le_of_ble_eq_true rfl)⟩ (mr_recv (ci := 5) hR hE hz hS hA rfl ho9) hl.1 rfl (Nat.le_of_ble_eq_true rfl) dL_told_19 ⟨(Nat.le_of_ble_eq_true rfl), (Nat.le_of_ble_eq_true rfl)⟩) hR hz hS hA (fun H locs hR hz hS => ?_)
      refine lv_i2l (v := x19.toInt64) hx hb dL_told_22 rfl ?_
      refine lv_ladd hx hb dL_told_23 ?_
      refine lv_lstore_n (lv' := [(1, .long ((31 * v1) + x19.toInt64)), (0, .ref v0), (3, .int v3)]) hx hb dL_told_24 rfl hl (by decide) rfl (fun ls hl => ?_)
      refine lv_iinc (v := v3 + 1) (lv' := [(3, .int (v3 + 1)), (1, .long ((31 * v1) + x19.toInt64)), (0, .ref v0)]) hx hb dL_told_25 hl (k := 2) rfl rfl (by decide) rfl (fun ls hl => ?_)
      refine lv_goto (tgt := 6) hx hb dL_told_28 (by decide) ?_
      exact ih _ _ _ _ _ _ _ hrun hR hz hS (lv_sub hl [2, 1, 0] rfl)
set_option maxRecDepth 100000 in
set_option maxHeartbeats 4000000 in
theorem c_L_told (l : Launch) (D : va_G) (ids : m_I3) (st : m_T) (z : Nat) {h : mH} {v0 : Nat} {r : Int64} {hF : mH} (hrun : s_L_told h v0 = some (r, hF)) : Met l yL_told (m_ws yL_told cL_told 5 (some .long)) rm_L_told (mPc D ids st [.ref v0] h z) (mQl D ids (m_A h z) r hF z) rm_L_told.cells rm_L_told.slots (m_A h z) := by
  refine mr_of (cc := cL_told) (maxL := 5) (ret := some .long) (by decide) rfl (Nat.le_of_ble_eq_true rfl) ?_
  intro p e s m below meth c ls hx hb hr hml hown hts hlocks hin hR hE hz hl
  have hA : ∀ q, s.heap.size ≤ q → m_A h z q := fun q hq => Or.inr (by rw [← hz]; exact hq)
  have hS : va_S (m_A h z) s.heap s.heap [] := va_S.rf
  have hl : lv_has ls 5 [(0, .ref v0)] := hl
  unfold s_L_told at hrun
  refine lv_ldc2 (v := 3) hx hb hown (hts _ (m_ws_in wm_1_188)) dL_told_0 ?_
  refine lv_lstore_n (lv' := [(1, .long 3), (0, .ref v0)]) hx hb dL_told_3 rfl hl (by decide) rfl (fun ls hl => ?_)
  refine lv_iconst (v := 0) hx hb dL_told_4 (by decide) ?_
  refine lv_istore_n (lv' := [(3, .int 0), (1, .long 3), (0, .ref v0)]) hx hb dL_told_5 rfl hl (by decide) rfl (fun ls hl => ?_)
  exact k_L_told_L6 hx hb hr hml hown hts hlocks hin hE hA _ _ _ _ _ _ _ _ hrun hR hz hS (lv_sub hl [2, 1, 0] rfl)
/-! X2_slot -/
abbrev rm_X2_slot : Room := { frames := 0, cells := 0, slots := 0, locals := 0 }
theorem yk_X2_slot : m_K yX2_slot cX2_slot 2 (some (.object "CapWallets$State")) 1 := ⟨wm_1_111, wm_0_6, by decide +kernel⟩
theorem ys_X2_slot : Cond.instanceMethod yX2_slot ∈ wT ∧ Cond.selects RX2 yX2_slot yX2_slot ∈ wT := ⟨wm_1_110, wp_0_4⟩
set_option maxRecDepth 100000 in
set_option maxHeartbeats 4000000 in
theorem k_X2_slot_b23 {p : Program} {l : Launch} {e : Env} {s : State} {m : MethodId} {args : Array Value} {below : List Frame} {meth : Method} {c : Code} {D : va_G} {ids : m_I3} {st : m_T} {A : Nat → Prop} {z : Nat} {r : Option Nat} (hx : p.tables.exec = Jvm.exec) (hb : c.code = cX2_slot) (hr : meth.sig.returnType = some (.object "CapWallets$State")) (hml : c.maxLocals = 2) (hown : s.vm.findClass RX2 = some m.cls) (hts : ∀ w ∈ (m_ws yX2_slot cX2_slot 2 (some (.object "CapWallets$State"))), w.before args s = true) (hlocks : meth.locks = false) (hin : meth.name = yX2_slot.name) (hE : m_EV st A s s.heap) (hA : ∀ q, s.heap.size ≤ q → A q) {h : mH} (t0 : Option Nat) (H : Heap) (locs : List Loc) (ls : Array Slot) (hrun : s_X2_slot_b23 h t0 = some r) (hR : Rl D ids A h s H) (hz : H.size = z) (hS : va_S A s.heap H locs) (hl : lv_has ls 2 []) : W p l e rm_X2_slot s m args below meth c H locs 0 0 (MQ below (mQq D ids A r h z) args s 0 0 A) (F0 m 23 ls [va_rf t0]) := by
  unfold s_X2_slot_b23 at hrun
  obtain rfl := Option.some.inj hrun
  exact mr_qret hx hb hr hlocks hR hz hS dX2_slot_23
set_option maxRecDepth 100000 in
set_option maxHeartbeats 4000000 in
theorem k_X2_slot_b22 {p : Program} {l : Launch} {e : Env} {s : State} {m : MethodId} {args : Array Value} {below : List Frame} {meth : Method} {c : Code} {D : va_G} {ids : m_I3} {st : m_T} {A : Nat → Prop} {z : Nat} {r : Option Nat} (hx : p.tables.exec = Jvm.exec) (hb : c.code = cX2_slot) (hr : meth.sig.returnType = some (.object "CapWallets$State")) (hml : c.maxLocals = 2) (hown : s.vm.findClass RX2 = some m.cls) (hts : ∀ w ∈ (m_ws yX2_slot cX2_slot 2 (some (.object "CapWallets$State"))), w.before args s = true) (hlocks : meth.locks = false) (hin : meth.name = yX2_slot.name) (hE : m_EV st A s s.heap) (hA : ∀ q, s.heap.size ≤ q → A q) {h : mH} (H : Heap) (locs : List Loc) (ls : Array Slot) (hrun : s_X2_slot_b22 h  = some r) (hR : Rl D ids A h s H) (hz : H.size = z) (hS : va_S A s.heap H locs) (hl : lv_has ls 2 []) : W p l e rm_X2_slot s m args below meth c H locs 0 0 (MQ below (mQq D ids A r h z) args s 0 0 A) (F0 m 22 ls []) := by
  unfold s_X2_slot_b22 at hrun
  refine lv_null hx hb dX2_slot_22 ?_
  exact k_X2_slot_b23 hx hb hr hml hown hts hlocks hin hE hA _ _ _ _ hrun hR hz hS (lv_sub hl [] rfl)
set_option maxRecDepth 100000 in
set_option maxHeartbeats 4000000 in
theorem c_X2_slot (l : Launch) (D : va_G) (ids : m_I3) (st : m_T) (z : Nat) {h : mH} {v0 : Nat} {v1 : Int32} {r : Option Nat} (hrun : s_X2_slot h v0 v1 = some r) : Met l yX2_slot (m_ws yX2_slot cX2_slot 2 (some (.object "CapWallets$State"))) rm_X2_slot (mPc D ids st [.ref v0, .int v1] h z) (mQq D ids (m_A h z) r h z) rm_X2_slot.cells rm_X2_slot.slots (m_A h z) := by
  refine mr_of (cc := cX2_slot) (maxL := 2) (ret := some (.object "CapWallets$State")) (by decide) rfl (Nat.le_of_ble_eq_true rfl) ?_
  intro p e s m below meth c ls hx hb hr hml hown hts hlocks hin hR hE hz hl
  have hA : ∀ q, s.heap.size ≤ q → m_A h z q := fun q hq => Or.inr (by rw [← hz]; exact hq)
  have hS : va_S (m_A h z) s.heap s.heap [] := va_S.rf
  have hl : lv_has ls 2 [(0, .ref v0), (1, .int v1)] := hl
  unfold s_X2_slot at hrun
  refine lv_iload_n hx hb dX2_slot_0 rfl (lv_at hl 1 rfl) ?_
  refine lv_if_lt (tgt := 22) hx hb dX2_slot_1 (by decide) (fun hc => ?_) (fun hc => ?_)
  · have hrun := mt_t hrun hc
    exact k_X2_slot_b22 hx hb hr hml hown hts hlocks hin hE hA _ _ _ hrun hR hz hS (lv_sub hl [] rfl)
  · have hrun := mt_f hrun hc
    refine lv_iload_n hx hb dX2_slot_4 rfl (lv_at hl 1 rfl) ?_
    refine lv_aload_n hx hb dX2_slot_5 rfl (lv_at hl 0 rfl) ?_
    obtain ⟨x6, hc9, hrun⟩ := m_bind hrun
    refine mr_get (C := RX2) (T := TX2) (N := 3) (ci := 1) hx hb hts (fun w q => m_ws_in (wi_X2 w q)) hown hR rfl 0 (by decide) (hts _ (m_ws_in wm_0_142)) (fun _ h9 => h9) (m_gr_spec hc9) dX2_slot_6 ?_
    obtain ⟨x9, hc9, hrun⟩ := m_bind hrun
    refine mr_alen hx hb hR hc9 dX2_slot_9 ?_
    refine lv_icmp_ge (tgt := 22) hx hb dX2_slot_10 (by decide) (fun hc => ?_) (fun hc => ?_)
    · have hrun := mt_t hrun hc
      exact k_X2_slot_b22 hx hb hr hml hown hts hlocks hin hE hA _ _ _ hrun hR hz hS (lv_sub hl [] rfl)
    · have hrun := mt_f hrun hc
      refine lv_aload_n hx hb dX2_slot_13 rfl (lv_at hl 0 rfl) ?_
      obtain ⟨x14, hc9, hrun⟩ := m_bind hrun
      refine mr_get (C := RX2) (T := TX2) (N := 3) (ci := 1) hx hb hts (fun w q => m_ws_in (wi_X2 w q)) hown hR rfl 0 (by decide) (hts _ (m_ws_in wm_0_142)) (fun _ h9 => h9) (m_gr_spec hc9) dX2_slot_14 ?_
      refine lv_iload_n hx hb dX2_slot_17 rfl (lv_at hl 1 rfl) ?_
      obtain ⟨x18, hc9, hrun⟩ := m_bind hrun
      refine mr_aald hx hb hR hc9 dX2_slot_18 ?_
      refine lv_goto (tgt := 23) hx hb dX2_slot_19 (by decide) ?_
      exact k_X2_slot_b23 hx hb hr hml hown hts hlocks hin hE hA _ _ _ _ hrun hR hz hS (lv_sub hl [] rfl)
/-! X1_copy -/
abbrev rm_X1_copy : Room := { frames := 0, cells := 0, slots := 0, locals := 0 }
theorem yk_X1_copy : m_K yX1_copy cX1_copy 3 (none) 2 := ⟨wm_0_50, wm_0_4, by decide +kernel⟩
theorem ys_X1_copy : Cond.static yX1_copy ∈ wT := wm_0_49
set_option maxRecDepth 100000 in
set_option maxHeartbeats 4000000 in
theorem k_X1_copy_b26 {p : Program} {l : Launch} {e : Env} {s : State} {m : MethodId} {args : Array Value} {below : List Frame} {meth : Method} {c : Code} {D : va_G} {ids : m_I3} {st : m_T} {A : Nat → Prop} {z : Nat} {hF : mH} (hx : p.tables.exec = Jvm.exec) (hb : c.code = cX1_copy) (hr : meth.sig.returnType = none) (hml : c.maxLocals = 3) (hown : s.vm.findClass RX1 = some m.cls) (hts : ∀ w ∈ (m_ws yX1_copy cX1_copy 3 (none)), w.before args s = true) (hlocks : meth.locks = false) (hin : meth.name = yX1_copy.name) (hE : m_EV st A s s.heap) (hA : ∀ q, s.heap.size ≤ q → A q) (h : mH) (H : Heap) (locs : List Loc) (ls : Array Slot) (hrun : s_X1_copy_b26 h = some hF) (hR : Rl D ids A h s H) (hz : H.size = z) (hS : va_S A s.heap H locs) (hl : lv_has ls 3 []) : W p l e rm_X1_copy s m args below meth c H locs 0 0 (MQ below (mQv D ids A hF z) args s 0 0 A) (F0 m 26 ls []) := by
  unfold s_X1_copy_b26 at hrun
  obtain rfl := Option.some.inj hrun
  exact mr_vret hx hb hr hlocks hR hz hS dX1_copy_26
set_option maxRecDepth 100000 in
set_option maxHeartbeats 4000000 in
theorem k_X1_copy_L2 {p : Program} {l : Launch} {e : Env} {s : State} {m : MethodId} {args : Array Value} {below : List Frame} {meth : Method} {c : Code} {D : va_G} {ids : m_I3} {st : m_T} {A : Nat → Prop} {z : Nat} {hF : mH} (hx : p.tables.exec = Jvm.exec) (hb : c.code = cX1_copy) (hr : meth.sig.returnType = none) (hml : c.maxLocals = 3) (hown : s.vm.findClass RX1 = some m.cls) (hts : ∀ w ∈ (m_ws yX1_copy cX1_copy 3 (none)), w.before args s = true) (hlocks : meth.locks = false) (hin : meth.name = yX1_copy.name) (hE : m_EV st A s s.heap) (hA : ∀ q, s.heap.size ≤ q → A q) : ∀ (n : Nat) (h : mH) (v0 : Nat) (v1 : Nat) (v2 : Int32) (H : Heap) (locs : List Loc) (ls : Array Slot), s_X1_copy_L2 n h v0 v1 v2 = some hF → Rl D ids A h s H → H.size = z → va_S A s.heap H locs → lv_has ls 3 [(0, .ref v0), (1, .ref v1), (2, .int v2)] → W p l e rm_X1_copy s m args below meth c H locs 0 0 (MQ below (mQv D ids A hF z) args s 0 0 A) (F0 m 2 ls []) := by
  intro n
  induction n with
  | zero => intro h v0 v1 v2 H locs ls hrun; exact absurd hrun (by intro h9; cases h9)
  | succ n ih =>
    intro h v0 v1 v2 H locs ls hrun hR hz hS hl
    rw [s_X1_copy_L2] at hrun
    refine lv_iload_n hx hb dX1_copy_2 rfl (lv_at hl 2 rfl) ?_
    refine lv_aload_n hx hb dX1_copy_3 rfl (lv_at hl 0 rfl) ?_
    obtain ⟨x4, hc9, hrun⟩ := m_bind hrun
    refine mr_ilen hx hb hR hc9 dX1_copy_4 ?_
    refine lv_icmp_ge (tgt := 26) hx hb dX1_copy_5 (by decide) (fun hc => ?_) (fun hc => ?_)
    · have hrun := mt_t hrun hc
      exact k_X1_copy_b26 hx hb hr hml hown hts hlocks hin hE hA _ _ _ _ hrun hR hz hS (lv_sub hl [] rfl)
    · have hrun := mt_f hrun hc
      refine lv_iload_n hx hb dX1_copy_8 rfl (lv_at hl 2 rfl) ?_
      refine lv_aload_n hx hb dX1_copy_9 rfl (lv_at hl 1 rfl) ?_
      obtain ⟨x10, hc9, hrun⟩ := m_bind hrun
      refine mr_ilen hx hb hR hc9 dX1_copy_10 ?_
      refine lv_icmp_ge (tgt := 26) hx hb dX1_copy_11 (by decide) (fun hc => ?_) (fun hc => ?_)
      · have hrun := mt_t hrun hc
        exact k_X1_copy_b26 hx hb hr hml hown hts hlocks hin hE hA _ _ _ _ hrun hR hz hS (lv_sub hl [] rfl)
      · have hrun := mt_f hrun hc
        refine lv_aload_n hx hb dX1_copy_14 rfl (lv_at hl 1 rfl) ?_
        refine lv_iload_n hx hb dX1_copy_15 rfl (lv_at hl 2 rfl) ?_
        refine lv_aload_n hx hb dX1_copy_16 rfl (lv_at hl 0 rfl) ?_
        refine lv_iload_n hx hb dX1_copy_17 rfl (lv_at hl 2 rfl) ?_
        obtain ⟨x18, hc9, hrun⟩ := m_bind hrun
        refine mr_iald hx hb hR hc9 dX1_copy_18 ?_
        obtain ⟨h19, hc9, hrun⟩ := m_bind hrun
        refine mr_iast hx hb hR hz hS hc9 dX1_copy_19 (fun H locs hR hz hS => ?_)
        refine lv_iinc (v := v2 + 1) (lv' := [(2, .int (v2 + 1)), (0, .ref v0), (1, .ref v1)]) hx hb dX1_copy_20 hl (k := 2) rfl rfl (by decide) rfl (fun ls hl => ?_)
        refine lv_goto (tgt := 2) hx hb dX1_copy_23 (by decide) ?_
        exact ih _ _ _ _ _ _ _ hrun hR hz hS (lv_sub hl [1, 2, 0] rfl)
set_option maxRecDepth 100000 in
set_option maxHeartbeats 4000000 in
theorem c_X1_copy (l : Launch) (D : va_G) (ids : m_I3) (st : m_T) (z : Nat) {h : mH} {v0 : Nat} {v1 : Nat} {hF : mH} (hrun : s_X1_copy h v0 v1 = some hF) : Met l yX1_copy (m_ws yX1_copy cX1_copy 3 (none)) rm_X1_copy (mPc D ids st [.ref v0, .ref v1] h z) (mQv D ids (m_A h z) hF z) rm_X1_copy.cells rm_X1_copy.slots (m_A h z) := by
  refine mr_of (cc := cX1_copy) (maxL := 3) (ret := none) (by decide) rfl (Nat.le_of_ble_eq_true rfl) ?_
  intro p e s m below meth c ls hx hb hr hml hown hts hlocks hin hR hE hz hl
  have hA : ∀ q, s.heap.size ≤ q → m_A h z q := fun q hq => Or.inr (by rw [← hz]; exact hq)
  have hS : va_S (m_A h z) s.heap s.heap [] := va_S.rf
  have hl : lv_has ls 3 [(0, .ref v0), (1, .ref v1)] := hl
  unfold s_X1_copy at hrun
  refine lv_iconst (v := 0) hx hb dX1_copy_0 (by decide) ?_
  refine lv_istore_n (lv' := [(2, .int 0), (0, .ref v0), (1, .ref v1)]) hx hb dX1_copy_1 rfl hl (by decide) rfl (fun ls hl => ?_)
  exact k_X1_copy_L2 hx hb hr hml hown hts hlocks hin hE hA _ _ _ _ _ _ _ _ hrun hR hz hS (lv_sub hl [1, 2, 0] rfl)
/-! X5_copyFrom -/
abbrev rm_X5_copyFrom : Room := { frames := 1, cells := 0, slots := 0, locals := 22 }
theorem yk_X5_copyFrom : m_K yX5_copyFrom cX5_copyFrom 2 (none) 1 := ⟨wm_1_119, wm_0_3, by decide +kernel⟩
theorem ys_X5_copyFrom : Cond.instanceMethod yX5_copyFrom ∈ wT ∧ Cond.selects RX5 yX5_copyFrom yX5_copyFrom ∈ wT := ⟨wm_1_117, wm_1_118⟩
set_option maxRecDepth 100000 in
set_option maxHeartbeats 4000000 in
theorem c_X5_copyFrom (l : Launch) (D : va_G) (ids : m_I3) (st : m_T) (z : Nat) {h : mH} {v0 : Nat} {v1 : Nat} {hF : mH} (hrun : s_X5_copyFrom h v0 v1 = some hF) : Met l yX5_copyFrom (m_ws yX5_copyFrom cX5_copyFrom 2 (none)) rm_X5_copyFrom (mPc D ids st [.ref v0, .ref v1] h z) (mQv D ids (m_A h z) hF z) rm_X5_copyFrom.cells rm_X5_copyFrom.slots (m_A h z) := by
  refine mr_of (cc := cX5_copyFrom) (maxL := 2) (ret := none) (by decide) rfl (Nat.le_of_ble_eq_true rfl) ?_
  intro p e s m below meth c ls hx hb hr hml hown hts hlocks hin hR hE hz hl
  have hA : ∀ q, s.heap.size ≤ q → m_A h z q := fun q hq => Or.inr (by rw [← hz]; exact hq)
  have hS : va_S (m_A h z) s.heap s.heap [] := va_S.rf
  have hl : lv_has ls 2 [(0, .ref v0), (1, .ref v1)] := hl
  unfold s_X5_copyFrom at hrun
  refine lv_aload_n hx hb dX5_copyFrom_0 rfl (lv_at hl 1 rfl) ?_
  obtain ⟨x1, hc9, hrun⟩ := m_bind hrun
  refine mr_get (C := RX5) (T := TX5) (N := 2) (ci := 3) hx hb hts (fun w q => m_ws_in (wi_X5 w q)) hown hR rfl 0 (by decide) (hts _ (m_ws_in wm_0_36)) (fun _ h9 => h9) (m_gr_spec hc9) dX5_copyFrom_1 ?_
  refine lv_aload_n hx hb dX5_copyFrom_4 rfl (lv_at hl 0 rfl) ?_
  obtain ⟨x5, hc9, hrun⟩ := m_bind hrun
  refine mr_get (C := RX5) (T := TX5) (N := 2) (ci := 3) hx hb hts (fun w q => m_ws_in (wi_X5 w q)) hown hR rfl 0 (by decide) (hts _ (m_ws_in wm_0_36)) (fun _ h9 => h9) (m_gr_spec hc9) dX5_copyFrom_5 ?_
  obtain ⟨h8, hc9, hrun⟩ := m_bind hrun
  refine mr_callv (mr_runS (As := [.ref x1, .ref x5]) (rest := []) hx hb hml hown hts (c_X1_copy l D ids st z hc9) yk_X1_copy ys_X1_copy wm_1_120 ⟨(Nat.le_of_ble_eq_true rfl), (Nat.le_of_ble_eq_true rfl)⟩ (mr_recvS hR hE hz hS hA) hl.1 rfl (Nat.le_of_ble_eq_true rfl) dX5_copyFrom_8 ⟨(Nat.le_of_ble_eq_true rfl), (Nat.le_of_ble_eq_true rfl)⟩) hR hz hS hA (fun H locs hR hz hS => ?_)
  refine lv_aload_n hx hb dX5_copyFrom_11 rfl (lv_at hl 0 rfl) ?_
  refine lv_aload_n hx hb dX5_copyFrom_12 rfl (lv_at hl 1 rfl) ?_
  obtain ⟨x13, hc9, hrun⟩ := m_bind hrun
  refine mr_get (C := RX5) (T := TX5) (N := 2) (ci := 3) hx hb hts (fun w q => m_ws_in (wi_X5 w q)) hown hR rfl 1 (by decide) (hts _ (m_ws_in wm_0_37)) (fun _ h9 => h9) (m_gi_spec hc9) dX5_copyFrom_13 ?_
  obtain ⟨h16, hc9, hrun⟩ := m_bind hrun
  refine mr_put (C := RX5) (T := TX5) (N := 2) (ci := 3) hx hb hts (fun w q => m_ws_in (wi_X5 w q)) tyX5 tyX5_ok nmX5 hown hR hz hS rfl 1 (by decide) (hts _ (m_ws_in wm_0_37)) (fun _ h9 => h9) rfl (tyX5_ok 1 (by decide)) rfl rfl hc9 dX5_copyFrom_16 (fun H locs hR hz hS => ?_)
  obtain rfl := Option.some.inj hrun
  exact mr_vret hx hb hr hlocks hR hz hS dX5_copyFrom_19
