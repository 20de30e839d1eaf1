abbrev rm_X1_at : Room := { frames := 0, cells := 0, slots := 0, locals := 0 }
theorem yk_X1_at : m_K yX1_at cX1_at 2 (some .int) 2 := ⟨wm_0_196, wm_0_4, by decide +kernel⟩
theorem ys_X1_at : Cond.static yX1_at ∈ wT := wm_0_195
set_option maxRecDepth 100000 in
set_option maxHeartbeats 4000000 in
theorem k_X1_at_b17 {p : Program} {l : Launch} {e : Env} {s : State} {m : MethodId} {args : Array Value} {below : List Frame} {meth : Method} {c : Code} {D : va_G} {ids : m_I3} {st : m_T} {A : Nat → Prop} {z : Nat} {r : Int32} (hx : p.tables.exec = Jvm.exec) (hb : c.code = cX1_at) (hr : meth.sig.returnType = some .int) (hml : c.maxLocals = 2) (hown : s.vm.findClass RX1 = some m.cls) (hts : ∀ w ∈ (m_ws yX1_at cX1_at 2 (some .int)), w.before args s = true) (hlocks : meth.locks = false) (hin : meth.name = yX1_at.name) (hE : m_EV st A s s.heap) (hA : ∀ q, s.heap.size ≤ q → A q) {h : mH} (t0 : Int32) (H : Heap) (locs : List Loc) (ls : Array Slot) (hrun : s_X1_at_b17 h t0 = some r) (hR : Rl D ids A h s H) (hz : H.size = z) (hS : va_S A s.heap H locs) (hl : lv_has ls 2 []) : W p l e rm_X1_at s m args below meth c H locs 0 0 (MQ below (mQi D ids A r h z) args s 0 0 A) (F0 m 17 ls [.int t0]) := by
  unfold s_X1_at_b17 at hrun
  cases hrun
  exact mr_iret hx hb hr hlocks hR hz hS dX1_at_17
set_option maxRecDepth 100000 in
set_option maxHeartbeats 4000000 in
theorem k_X1_at_b16 {p : Program} {l : Launch} {e : Env} {s : State} {m : MethodId} {args : Array Value} {below : List Frame} {meth : Method} {c : Code} {D : va_G} {ids : m_I3} {st : m_T} {A : Nat → Prop} {z : Nat} {r : Int32} (hx : p.tables.exec = Jvm.exec) (hb : c.code = cX1_at) (hr : meth.sig.returnType = some .int) (hml : c.maxLocals = 2) (hown : s.vm.findClass RX1 = some m.cls) (hts : ∀ w ∈ (m_ws yX1_at cX1_at 2 (some .int)), w.before args s = true) (hlocks : meth.locks = false) (hin : meth.name = yX1_at.name) (hE : m_EV st A s s.heap) (hA : ∀ q, s.heap.size ≤ q → A q) {h : mH} (H : Heap) (locs : List Loc) (ls : Array Slot) (hrun : s_X1_at_b16 h  = some r) (hR : Rl D ids A h s H) (hz : H.size = z) (hS : va_S A s.heap H locs) (hl : lv_has ls 2 []) : W p l e rm_X1_at s m args below meth c H locs 0 0 (MQ below (mQi D ids A r h z) args s 0 0 A) (F0 m 16 ls []) := by
  unfold s_X1_at_b16 at hrun
  refine lv_iconst (v := 0) hx hb dX1_at_16 (by decide) ?_
  exact k_X1_at_b17 hx hb hr hml hown hts hlocks hin hE hA _ _ _ _ hrun hR hz hS (lv_sub hl [] rfl)
set_option maxRecDepth 100000 in
set_option maxHeartbeats 4000000 in
theorem c_X1_at (l : Launch) (D : va_G) (ids : m_I3) (st : m_T) (z : Nat) {h : mH} {v0 : Nat} {v1 : Int32} {r : Int32} (hrun : s_X1_at h v0 v1 = some r) : Met l yX1_at (m_ws yX1_at cX1_at 2 (some .int)) rm_X1_at (mPc D ids st [.ref v0, .int v1] h z) (mQi D ids (m_A h z) r h z) rm_X1_at.cells rm_X1_at.slots (m_A h z) := by
  refine mr_of (cc := cX1_at) (maxL := 2) (ret := some .int) (by decide) rfl (Nat.le_of_ble_eq_true rfl) ?_
  intro p e s m below meth c ls hx hb hr hml hown hts hlocks hin hR hE hz hl
  have hA : ∀ q, s.heap.size ≤ q → m_A h z q := fun q hq => Or.inr (by rw [← hz]; exact hq)
  have hS : va_S (m_A h z) s.heap s.heap [] := va_S.rf
  have hl : lv_has ls 2 [(0, .ref v0), (1, .int v1)] := hl
  unfold s_X1_at at hrun
  refine lv_iload_n hx hb dX1_at_0 rfl (lv_at hl 1 rfl) ?_
  refine lv_if_lt (tgt := 16) hx hb dX1_at_1 (by decide) (fun hc => ?_) (fun hc => ?_)
  · have hrun := mt_t hrun hc
    exact k_X1_at_b16 hx hb hr hml hown hts hlocks hin hE hA _ _ _ hrun hR hz hS (lv_sub hl [] rfl)
  · have hrun := mt_f hrun hc
    refine lv_iload_n hx hb dX1_at_4 rfl (lv_at hl 1 rfl) ?_
    refine lv_aload_n hx hb dX1_at_5 rfl (lv_at hl 0 rfl) ?_
    obtain ⟨x6, hc9, hrun⟩ := m_bind hrun
    refine mr_ilen hx hb hR hc9 dX1_at_6 ?_
    refine lv_icmp_ge (tgt := 16) hx hb dX1_at_7 (by decide) (fun hc => ?_) (fun hc => ?_)
    · have hrun := mt_t hrun hc
      exact k_X1_at_b16 hx hb hr hml hown hts hlocks hin hE hA _ _ _ hrun hR hz hS (lv_sub hl [] rfl)
    · have hrun := mt_f hrun hc
      refine lv_aload_n hx hb dX1_at_10 rfl (lv_at hl 0 rfl) ?_
      refine lv_iload_n hx hb dX1_at_11 rfl (lv_at hl 1 rfl) ?_
      obtain ⟨x12, hc9, hrun⟩ := m_bind hrun
      refine mr_iald hx hb hR hc9 dX1_at_12 ?_
      refine lv_goto (tgt := 17) hx hb dX1_at_13 (by decide) ?_
      exact k_X1_at_b17 hx hb hr hml hown hts hlocks hin hE hA _ _ _ _ hrun hR hz hS (lv_sub hl [] rfl)
abbrev rm_X1_fill : Room := { frames := 0, cells := 0, slots := 0, locals := 0 }
theorem yk_X1_fill : m_K yX1_fill cX1_fill 3 (none) 2 := ⟨wm_0_55, wm_0_4, by decide +kernel⟩
theorem ys_X1_fill : Cond.static yX1_fill ∈ wT := wm_0_54
set_option maxRecDepth 100000 in
set_option maxHeartbeats 4000000 in
theorem k_X1_fill_L2 {p : Program} {l : Launch} {e : Env} {s : State} {m : MethodId} {args : Array Value} {below : List Frame} {meth : Method} {c : Code} {D : va_G} {ids : m_I3} {st : m_T} {A : Nat → Prop} {z : Nat} {hF : mH} (hx : p.tables.exec = Jvm.exec) (hb : c.code = cX1_fill) (hr : meth.sig.returnType = none) (hml : c.maxLocals = 3) (hown : s.vm.findClass RX1 = some m.cls) (hts : ∀ w ∈ (m_ws yX1_fill cX1_fill 3 (none)), w.before args s = true) (hlocks : meth.locks = false) (hin : meth.name = yX1_fill.name) (hE : m_EV st A s s.heap) (hA : ∀ q, s.heap.size ≤ q → A q) : ∀ (n : Nat) (h : mH) (v0 : Nat) (v1 : Int32) (v2 : Int32) (H : Heap) (locs : List Loc) (ls : Array Slot), s_X1_fill_L2 n h v0 v1 v2 = some hF → Rl D ids A h s H → H.size = z → va_S A s.heap H locs → lv_has ls 3 [(0, .ref v0), (1, .int v1), (2, .int v2)] → W p l e rm_X1_fill s m args below meth c H locs 0 0 (MQ below (mQv D ids A hF z) args s 0 0 A) (F0 m 2 ls []) := by
  intro n
  induction n with
  | zero => intro h v0 v1 v2 H locs ls hrun; exact absurd hrun (by intro h9; cases h9)
  | succ n ih =>
    intro h v0 v1 v2 H locs ls hrun hR hz hS hl
    rw [s_X1_fill_L2] at hrun
    refine lv_iload_n hx hb dX1_fill_2 rfl (lv_at hl 2 rfl) ?_
    refine lv_aload_n hx hb dX1_fill_3 rfl (lv_at hl 0 rfl) ?_
    obtain ⟨x4, hc9, hrun⟩ := m_bind hrun
    refine mr_ilen hx hb hR hc9 dX1_fill_4 ?_
    refine lv_icmp_ge (tgt := 18) hx hb dX1_fill_5 (by decide) (fun hc => ?_) (fun hc => ?_)
    · have hrun := mt_t hrun hc
      cases hrun
      exact mr_vret hx hb hr hlocks hR hz hS dX1_fill_18
    · have hrun := mt_f hrun hc
      refine lv_aload_n hx hb dX1_fill_8 rfl (lv_at hl 0 rfl) ?_
      refine lv_iload_n hx hb dX1_fill_9 rfl (lv_at hl 2 rfl) ?_
      refine lv_iload_n hx hb dX1_fill_10 rfl (lv_at hl 1 rfl) ?_
      obtain ⟨h11, hc9, hrun⟩ := m_bind hrun
      refine mr_iast hx hb hR hz hS hc9 dX1_fill_11 (fun H locs hR hz hS => ?_)
      refine lv_iinc (v := v2 + 1) (lv' := [(2, .int (v2 + 1)), (0, .ref v0), (1, .int v1)]) hx hb dX1_fill_12 hl (k := 2) rfl rfl (by decide) rfl (fun ls hl => ?_)
      refine lv_goto (tgt := 2) hx hb dX1_fill_15 (by decide) ?_
      exact ih _ _ _ _ _ _ _ hrun hR hz hS (lv_sub hl [1, 2, 0] rfl)
set_option maxRecDepth 100000 in
set_option maxHeartbeats 4000000 in
theorem c_X1_fill (l : Launch) (D : va_G) (ids : m_I3) (st : m_T) (z : Nat) {h : mH} {v0 : Nat} {v1 : Int32} {hF : mH} (hrun : s_X1_fill h v0 v1 = some hF) : Met l yX1_fill (m_ws yX1_fill cX1_fill 3 (none)) rm_X1_fill (mPc D ids st [.ref v0, .int v1] h z) (mQv D ids (m_A h z) hF z) rm_X1_fill.cells rm_X1_fill.slots (m_A h z) := by
  refine mr_of (cc := cX1_fill) (maxL := 3) (ret := none) (by decide) rfl (Nat.le_of_ble_eq_true rfl) ?_
  intro p e s m below meth c ls hx hb hr hml hown hts hlocks hin hR hE hz hl
  have hA : ∀ q, s.heap.size ≤ q → m_A h z q := fun q hq => Or.inr (by rw [← hz]; exact hq)
  have hS : va_S (m_A h z) s.heap s.heap [] := va_S.rf
  have hl : lv_has ls 3 [(0, .ref v0), (1, .int v1)] := hl
  unfold s_X1_fill at hrun
  refine lv_iconst (v := 0) hx hb dX1_fill_0 (by decide) ?_
  refine lv_istore_n (lv' := [(2, .int 0), (0, .ref v0), (1, .int v1)]) hx hb dX1_fill_1 rfl hl (by decide) rfl (fun ls hl => ?_)
  exact k_X1_fill_L2 hx hb hr hml hown hts hlocks hin hE hA _ _ _ _ _ _ _ _ hrun hR hz hS (lv_sub hl [1, 2, 0] rfl)
abbrev rm_X5_tapAt : Room := { frames := 1, cells := 0, slots := 0, locals := 21 }
theorem yk_X5_tapAt : m_K yX5_tapAt cX5_tapAt 2 (some .int) 1 := ⟨wm_0_205, wm_0_3, by decide +kernel⟩
theorem ys_X5_tapAt : Cond.instanceMethod yX5_tapAt ∈ wT ∧ Cond.selects RX5 yX5_tapAt yX5_tapAt ∈ wT := ⟨wm_0_203, wm_0_204⟩
set_option maxRecDepth 100000 in
set_option maxHeartbeats 4000000 in
theorem c_X5_tapAt (l : Launch) (D : va_G) (ids : m_I3) (st : m_T) (z : Nat) {h : mH} {v0 : Nat} {v1 : Int32} {r : Int32} (hrun : s_X5_tapAt h v0 v1 = some r) : Met l yX5_tapAt (m_ws yX5_tapAt cX5_tapAt 2 (some .int)) rm_X5_tapAt (mPc D ids st [.ref v0, .int v1] h z) (mQi D ids (m_A h z) r h z) rm_X5_tapAt.cells rm_X5_tapAt.slots (m_A h z) := by
  refine mr_of (cc := cX5_tapAt) (maxL := 2) (ret := some .int) (by decide) rfl (Nat.le_of_ble_eq_true rfl) ?_
  intro p e s m below meth c ls hx hb hr hml hown hts hlocks hin hR hE hz hl
  have hA : ∀ q, s.heap.size ≤ q → m_A h z q := fun q hq => Or.inr (by rw [← hz]; exact hq)
  have hS : va_S (m_A h z) s.heap s.heap [] := va_S.rf
  have hl : lv_has ls 2 [(0, .ref v0), (1, .int v1)] := hl
  unfold s_X5_tapAt at hrun
  refine lv_aload_n hx hb dX5_tapAt_0 rfl (lv_at hl 0 rfl) ?_
  obtain ⟨x1, hc9, hrun⟩ := m_bind hrun
  refine mr_get (C := RX5) (T := TX5) (N := 2) (ci := 3) hx hb hts (fun w q => m_ws_in (wi_X5 w q)) hown hR rfl 0 (by decide) (hts _ (m_ws_in wm_0_38)) (fun _ h9 => h9) (m_gr_spec hc9) dX5_tapAt_1 ?_
  refine lv_iload_n hx hb dX5_tapAt_4 rfl (lv_at hl 1 rfl) ?_
  obtain ⟨x5, hc9, hrun⟩ := m_bind hrun
  refine mr_calli (mr_runS (As := [.ref x1, .int v1]) (rest := []) hx hb hml hown hts (c_X1_at l D ids st z hc9) yk_X1_at ys_X1_at wm_0_206 ⟨(Nat.le_of_ble_eq_true rfl), (Nat.le_of_ble_eq_true rfl)⟩ (mr_recvS hR hE hz hS hA) hl.1 rfl (Nat.le_of_ble_eq_true rfl) dX5_tapAt_5 ⟨(Nat.le_of_ble_eq_true rfl), (Nat.le_of_ble_eq_true rfl)⟩) hR hz hS hA (fun H locs hR hz hS => ?_)
  cases hrun
  exact mr_iret hx hb hr hlocks hR hz hS dX5_tapAt_8
abbrev rm_X4_isIn : Room := { frames := 0, cells := 0, slots := 0, locals := 0 }
theorem yk_X4_isIn : m_K yX4_isIn cX4_isIn 1 (some .boolean) 1 := ⟨wm_0_215, wm_0_8, by decide +kernel⟩
theorem ys_X4_isIn : Cond.static yX4_isIn ∈ wT := wm_0_214
set_option maxRecDepth 100000 in
set_option maxHeartbeats 4000000 in
theorem k_X4_isIn_b11 {p : Program} {l : Launch} {e : Env} {s : State} {m : MethodId} {args : Array Value} {below : List Frame} {meth : Method} {c : Code} {D : va_G} {ids : m_I3} {st : m_T} {A : Nat → Prop} {z : Nat} {r : Int32} (hx : p.tables.exec = Jvm.exec) (hb : c.code = cX4_isIn) (hr : meth.sig.returnType = some .boolean) (hml : c.maxLocals = 1) (hown : s.vm.findClass RX4 = some m.cls) (hts : ∀ w ∈ (m_ws yX4_isIn cX4_isIn 1 (some .boolean)), w.before args s = true) (hlocks : meth.locks = false) (hin : meth.name = yX4_isIn.name) (hE : m_EV st A s s.heap) (hA : ∀ q, s.heap.size ≤ q → A q) {h : mH} (t0 : Int32) (H : Heap) (locs : List Loc) (ls : Array Slot) (hrun : s_X4_isIn_b11 h t0 = some r) (hR : Rl D ids A h s H) (hz : H.size = z) (hS : va_S A s.heap H locs) (hl : lv_has ls 1 []) : W p l e rm_X4_isIn s m args below meth c H locs 0 0 (MQ below (mQi D ids A r h z) args s 0 0 A) (F0 m 11 ls [.int t0]) := by
  unfold s_X4_isIn_b11 at hrun
  obtain ⟨w9, hc9, hrun⟩ := m_bind hrun
  cases hrun
  exact mr_zret hc9 hx hb hr hlocks hR hz hS dX4_isIn_11
set_option maxRecDepth 100000 in
set_option maxHeartbeats 4000000 in
theorem c_X4_isIn (l : Launch) (D : va_G) (ids : m_I3) (st : m_T) (z : Nat) {h : mH} {v0 : Int32} {r : Int32} (hrun : s_X4_isIn h v0 = some r) : Met l yX4_isIn (m_ws yX4_isIn cX4_isIn 1 (some .boolean)) rm_X4_isIn (mPc D ids st [.int v0] h z) (mQi D ids (m_A h z) r h z) rm_X4_isIn.cells rm_X4_isIn.slots (m_A h z) := by
  refine mr_of (cc := cX4_isIn) (maxL := 1) (ret := some .boolean) (by decide) rfl (Nat.le_of_ble_eq_true rfl) ?_
  intro p e s m below meth c ls hx hb hr hml hown hts hlocks hin hR hE hz hl
  have hA : ∀ q, s.heap.size ≤ q → m_A h z q := fun q hq => Or.inr (by rw [← hz]; exact hq)
  have hS : va_S (m_A h z) s.heap s.heap [] := va_S.rf
  have hl : lv_has ls 1 [(0, .int v0)] := hl
  unfold s_X4_isIn at hrun
  refine lv_iload_n hx hb dX4_isIn_0 rfl (lv_at hl 0 rfl) ?_
  refine lv_iconst (v := 2) hx hb dX4_isIn_1 (by decide) ?_
  refine lv_iand hx hb dX4_isIn_2 ?_
  refine lv_if_eq (tgt := 10) hx hb dX4_isIn_3 (by decide) (fun hc => ?_) (fun hc => ?_)
  · have hrun := mt_t hrun hc
    refine lv_iconst (v := 0) hx hb dX4_isIn_10 (by decide) ?_
    exact k_X4_isIn_b11 hx hb hr hml hown hts hlocks hin hE hA _ _ _ _ hrun hR hz hS (lv_sub hl [] rfl)
  · have hrun := mt_f hrun hc
    refine lv_iconst (v := 1) hx hb dX4_isIn_6 (by decide) ?_
    refine lv_goto (tgt := 11) hx hb dX4_isIn_7 (by decide) ?_
    exact k_X4_isIn_b11 hx hb hr hml hown hts hlocks hin hE hA _ _ _ _ hrun hR hz hS (lv_sub hl [] rfl)
abbrev rm_X4_dayOf : Room := { frames := 0, cells := 0, slots := 0, locals := 0 }
theorem yk_X4_dayOf : m_K yX4_dayOf cX4_dayOf 1 (some .int) 1 := ⟨wm_0_218, wm_0_8, by decide +kernel⟩
theorem ys_X4_dayOf : Cond.static yX4_dayOf ∈ wT := wm_0_217
set_option maxRecDepth 100000 in
set_option maxHeartbeats 4000000 in
theorem c_X4_dayOf (l : Launch) (D : va_G) (ids : m_I3) (st : m_T) (z : Nat) {h : mH} {v0 : Int32} {r : Int32} (hrun : s_X4_dayOf h v0 = some r) : Met l yX4_dayOf (m_ws yX4_dayOf cX4_dayOf 1 (some .int)) rm_X4_dayOf (mPc D ids st [.int v0] h z) (mQi D ids (m_A h z) r h z) rm_X4_dayOf.cells rm_X4_dayOf.slots (m_A h z) := by
  refine mr_of (cc := cX4_dayOf) (maxL := 1) (ret := some .int) (by decide) rfl (Nat.le_of_ble_eq_true rfl) ?_
  intro p e s m below meth c ls hx hb hr hml hown hts hlocks hin hR hE hz hl
  have hA : ∀ q, s.heap.size ≤ q → m_A h z q := fun q hq => Or.inr (by rw [← hz]; exact hq)
  have hS : va_S (m_A h z) s.heap s.heap [] := va_S.rf
  have hl : lv_has ls 1 [(0, .int v0)] := hl
  unfold s_X4_dayOf at hrun
  refine lv_iload_n hx hb dX4_dayOf_0 rfl (lv_at hl 0 rfl) ?_
  refine lv_bipush (v := 19) hx hb dX4_dayOf_1 (by decide) ?_
  refine lv_ishr hx hb dX4_dayOf_3 ?_
  refine lv_bipush (v := 31) hx hb dX4_dayOf_4 (by decide) ?_
  refine lv_iand hx hb dX4_dayOf_6 ?_
  cases hrun
  exact mr_iret hx hb hr hlocks hR hz hS dX4_dayOf_7
abbrev rm_X4_minuteOf : Room := { frames := 0, cells := 0, slots := 0, locals := 0 }
theorem yk_X4_minuteOf : m_K yX4_minuteOf cX4_minuteOf 1 (some .int) 1 := ⟨wm_0_221, wm_0_8, by decide +kernel⟩
theorem ys_X4_minuteOf : Cond.static yX4_minuteOf ∈ wT := wm_0_220
set_option maxRecDepth 100000 in
set_option maxHeartbeats 4000000 in
theorem c_X4_minuteOf (l : Launch) (D : va_G) (ids : m_I3) (st : m_T) (z : Nat) {h : mH} {v0 : Int32} {r : Int32} (hrun : s_X4_minuteOf h v0 = some r) : Met l yX4_minuteOf (m_ws yX4_minuteOf cX4_minuteOf 1 (some .int)) rm_X4_minuteOf (mPc D ids st [.int v0] h z) (mQi D ids (m_A h z) r h z) rm_X4_minuteOf.cells rm_X4_minuteOf.slots (m_A h z) := by
  refine mr_of (cc := cX4_minuteOf) (maxL := 1) (ret := some .int) (by decide) rfl (Nat.le_of_ble_eq_true rfl) ?_
  intro p e s m below meth c ls hx hb hr hml hown hts hlocks hin hR hE hz hl
  have hA : ∀ q, s.heap.size ≤ q → m_A h z q := fun q hq => Or.inr (by rw [← hz]; exact hq)
  have hS : va_S (m_A h z) s.heap s.heap [] := va_S.rf
  have hl : lv_has ls 1 [(0, .int v0)] := hl
  unfold s_X4_minuteOf at hrun
  refine lv_iload_n hx hb dX4_minuteOf_0 rfl (lv_at hl 0 rfl) ?_
  refine lv_bipush (v := 8) hx hb dX4_minuteOf_1 (by decide) ?_
  refine lv_ishr hx hb dX4_minuteOf_3 ?_
  refine lv_sipush (v := 2047) hx hb dX4_minuteOf_4 (by decide) ?_
  refine lv_iand hx hb dX4_minuteOf_7 ?_
  cases hrun
  exact mr_iret hx hb hr hlocks hR hz hS dX4_minuteOf_8
abbrev rm_X0_isRide : Room := { frames := 1, cells := 0, slots := 0, locals := 20 }
theorem yk_X0_isRide : m_K yX0_isRide cX0_isRide 3 (some .boolean) 3 := ⟨wm_0_212, wm_0_5, by decide +kernel⟩
theorem ys_X0_isRide : Cond.static yX0_isRide ∈ wT := wm_0_211
set_option maxRecDepth 100000 in
set_option maxHeartbeats 4000000 in
theorem k_X0_isRide_b43 {p : Program} {l : Launch} {e : Env} {s : State} {m : MethodId} {args : Array Value} {below : List Frame} {meth : Method} {c : Code} {D : va_G} {ids : m_I3} {st : m_T} {A : Nat → Prop} {z : Nat} {r : Int32} (hx : p.tables.exec = Jvm.exec) (hb : c.code = cX0_isRide) (hr : meth.sig.returnType = some .boolean) (hml : c.maxLocals = 3) (hown : s.vm.findClass RX0 = some m.cls) (hts : ∀ w ∈ (m_ws yX0_isRide cX0_isRide 3 (some .boolean)), w.before args s = true) (hlocks : meth.locks = false) (hin : meth.name = yX0_isRide.name) (hE : m_EV st A s s.heap) (hA : ∀ q, s.heap.size ≤ q → A q) {h : mH} (t0 : Int32) (H : Heap) (locs : List Loc) (ls : Array Slot) (hrun : s_X0_isRide_b43 h t0 = some r) (hR : Rl D ids A h s H) (hz : H.size = z) (hS : va_S A s.heap H locs) (hl : lv_has ls 3 []) : W p l e rm_X0_isRide s m args below meth c H locs 0 0 (MQ below (mQi D ids A r h z) args s 0 0 A) (F0 m 43 ls [.int t0]) := by
  unfold s_X0_isRide_b43 at hrun
  obtain ⟨w9, hc9, hrun⟩ := m_bind hrun
  cases hrun
  exact mr_zret hc9 hx hb hr hlocks hR hz hS dX0_isRide_43
set_option maxRecDepth 100000 in
set_option maxHeartbeats 4000000 in
theorem k_X0_isRide_b42 {p : Program} {l : Launch} {e : Env} {s : State} {m : MethodId} {args : Array Value} {below : List Frame} {meth : Method} {c : Code} {D : va_G} {ids : m_I3} {st : m_T} {A : Nat → Prop} {z : Nat} {r : Int32} (hx : p.tables.exec = Jvm.exec) (hb : c.code = cX0_isRide) (hr : meth.sig.returnType = some .boolean) (hml : c.maxLocals = 3) (hown : s.vm.findClass RX0 = some m.cls) (hts : ∀ w ∈ (m_ws yX0_isRide cX0_isRide 3 (some .boolean)), w.before args s = true) (hlocks : meth.locks = false) (hin : meth.name = yX0_isRide.name) (hE : m_EV st A s s.heap) (hA : ∀ q, s.heap.size ≤ q → A q) {h : mH} (H : Heap) (locs : List Loc) (ls : Array Slot) (hrun : s_X0_isRide_b42 h  = some r) (hR : Rl D ids A h s H) (hz : H.size = z) (hS : va_S A s.heap H locs) (hl : lv_has ls 3 []) : W p l e rm_X0_isRide s m args below meth c H locs 0 0 (MQ below (mQi D ids A r h z) args s 0 0 A) (F0 m 42 ls []) := by
  unfold s_X0_isRide_b42 at hrun
  refine lv_iconst (v := 0) hx hb dX0_isRide_42 (by decide) ?_
  exact k_X0_isRide_b43 hx hb hr hml hown hts hlocks hin hE hA _ _ _ _ hrun hR hz hS (lv_sub hl [] rfl)
set_option maxRecDepth 100000 in
set_option maxHeartbeats 4000000 in
theorem c_X0_isRide (l : Launch) (D : va_G) (ids : m_I3) (st : m_T) (z : Nat) {h : mH} {v0 : Int32} {v1 : Int32} {v2 : Int32} {r : Int32} (hrun : s_X0_isRide h v0 v1 v2 = some r) : Met l yX0_isRide (m_ws yX0_isRide cX0_isRide 3 (some .boolean)) rm_X0_isRide (mPc D ids st [.int v0, .int v1, .int v2] h z) (mQi D ids (m_A h z) r h z) rm_X0_isRide.cells rm_X0_isRide.slots (m_A h z) := by
  refine mr_of (cc := cX0_isRide) (maxL := 3) (ret := some .boolean) (by decide) rfl (Nat.le_of_ble_eq_true rfl) ?_
  intro p e s m below meth c ls hx hb hr hml hown hts hlocks hin hR hE hz hl
  have hA : ∀ q, s.heap.size ≤ q → m_A h z q := fun q hq => Or.inr (by rw [← hz]; exact hq)
  have hS : va_S (m_A h z) s.heap s.heap [] := va_S.rf
  have hl : lv_has ls 3 [(0, .int v0), (1, .int v1), (2, .int v2)] := hl
  unfold s_X0_isRide at hrun
  refine lv_iload_n hx hb dX0_isRide_0 rfl (lv_at hl 0 rfl) ?_
  obtain ⟨x1, hc9, hrun⟩ := m_bind hrun
  refine mr_calli (mr_runS (As := [.int v0]) (rest := []) hx hb hml hown hts (c_X4_isIn l D ids st z hc9) yk_X4_isIn ys_X4_isIn wm_0_213 ⟨(Nat.le_of_ble_eq_true rfl), (Nat.le_of_ble_eq_true rfl)⟩ (mr_recvS hR hE hz hS hA) hl.1 rfl (Nat.le_of_ble_eq_true rfl) dX0_isRide_1 ⟨(Nat.le_of_ble_eq_true rfl), (Nat.le_of_ble_eq_true rfl)⟩) hR hz hS hA (fun H locs hR hz hS => ?_)
  refine lv_if_eq (tgt := 42) hx hb dX0_isRide_4 (by decide) (fun hc => ?_) (fun hc => ?_)
  · have hrun := mt_t hrun hc
    exact k_X0_isRide_b42 hx hb hr hml hown hts hlocks hin hE hA _ _ _ hrun hR hz hS (lv_sub hl [] rfl)
  · have hrun := mt_f hrun hc
    refine lv_iload_n hx hb dX0_isRide_7 rfl (lv_at hl 1 rfl) ?_
    obtain ⟨x8, hc9, hrun⟩ := m_bind hrun
    refine mr_calli (mr_runS (As := [.int v1]) (rest := []) hx hb hml hown hts (c_X4_isIn l D ids st z hc9) yk_X4_isIn ys_X4_isIn wm_0_213 ⟨(Nat.le_of_ble_eq_true rfl), (Nat.le_of_ble_eq_true rfl)⟩ (mr_recvS hR hE hz hS hA) hl.1 rfl (Nat.le_of_ble_eq_true rfl) dX0_isRide_8 ⟨(Nat.le_of_ble_eq_true rfl), (Nat.le_of_ble_eq_true rfl)⟩) hR hz hS hA (fun H locs hR hz hS => ?_)
    refine lv_if_ne (tgt := 42) hx hb dX0_isRide_11 (by decide) (fun hc => ?_) (fun hc => ?_)
    · have hrun := mt_f hrun hc
      exact k_X0_isRide_b42 hx hb hr hml hown hts hlocks hin hE hA _ _ _ hrun hR hz hS (lv_sub hl [] rfl)
    · have hrun := mt_t hrun hc
      refine lv_iload_n hx hb dX0_isRide_14 rfl (lv_at hl 0 rfl) ?_
      obtain ⟨x15, hc9, hrun⟩ := m_bind hrun
      refine mr_calli (mr_runS (As := [.int v0]) (rest := []) hx hb hml hown hts (c_X4_dayOf l D ids st z hc9) yk_X4_dayOf ys_X4_dayOf wm_0_216 ⟨(Nat.le_of_ble_eq_true rfl), (Nat.le_of_ble_eq_true rfl)⟩ (mr_recvS hR hE hz hS hA) hl.1 rfl (Nat.le_of_ble_eq_true rfl) dX0_isRide_15 ⟨(Nat.le_of_ble_eq_true rfl), (Nat.le_of_ble_eq_true rfl)⟩) hR hz hS hA (fun H locs hR hz hS => ?_)
      refine lv_iload_n hx hb dX0_isRide_18 rfl (lv_at hl 1 rfl) ?_
      obtain ⟨x19, hc9, hrun⟩ := m_bind hrun
      refine mr_calli (mr_runS (As := [.int v1]) (rest := [.int x15]) hx hb hml hown hts (c_X4_dayOf l D ids st z hc9) yk_X4_dayOf ys_X4_dayOf wm_0_216 ⟨(Nat.le_of_ble_eq_true rfl), (Nat.le_of_ble_eq_true rfl)⟩ (mr_recvS hR hE hz hS hA) hl.1 rfl (Nat.le_of_ble_eq_true rfl) dX0_isRide_19 ⟨(Nat.le_of_ble_eq_true rfl), (Nat.le_of_ble_eq_true rfl)⟩) hR hz hS hA (fun H locs hR hz hS => ?_)
      refine lv_icmp_ne (tgt := 42) hx hb dX0_isRide_22 (by decide) (fun hc => ?_) (fun hc => ?_)
      · have hrun := mt_f hrun hc
        exact k_X0_isRide_b42 hx hb hr hml hown hts hlocks hin hE hA _ _ _ hrun hR hz hS (lv_sub hl [] rfl)
      · have hrun := mt_t hrun hc
        refine lv_iload_n hx hb dX0_isRide_25 rfl (lv_at hl 1 rfl) ?_
        obtain ⟨x26, hc9, hrun⟩ := m_bind hrun
        refine mr_calli (mr_runS (As := [.int v1]) (rest := []) hx hb hml hown hts (c_X4_minuteOf l D ids st z hc9) yk_X4_minuteOf ys_X4_minuteOf wm_0_219 ⟨(Nat.le_of_ble_eq_true rfl), (Nat.le_of_ble_eq_true rfl)⟩ (mr_recvS hR hE hz hS hA) hl.1 rfl (Nat.le_of_ble_eq_true rfl) dX0_isRide_26 ⟨(Nat.le_of_ble_eq_true rfl), (Nat.le_of_ble_eq_true rfl)⟩) hR hz hS hA (fun H locs hR hz hS => ?_)
        refine lv_iload_n hx hb dX0_isRide_29 rfl (lv_at hl 0 rfl) ?_
        obtain ⟨x30, hc9, hrun⟩ := m_bind hrun
        refine mr_calli (mr_runS (As := [.int v0]) (rest := [.int x26]) hx hb hml hown hts (c_X4_minuteOf l D ids st z hc9) yk_X4_minuteOf ys_X4_minuteOf wm_0_219 ⟨(Nat.le_of_ble_eq_true rfl), (Nat.le_of_ble_eq_true rfl)⟩ (mr_recvS hR hE hz hS hA) hl.1 rfl (Nat.le_of_ble_eq_true rfl) dX0_isRide_30 ⟨(Nat.le_of_ble_eq_true rfl), (Nat.le_of_ble_eq_true rfl)⟩) hR hz hS hA (fun H locs hR hz hS => ?_)
        refine lv_isub hx hb dX0_isRide_33 ?_
        refine lv_iload_n hx hb dX0_isRide_34 rfl (lv_at hl 2 rfl) ?_
        refine lv_icmp_gt (tgt := 42) hx hb dX0_isRide_35 (by decide) (fun hc => ?_) (fun hc => ?_)
        · have hrun := mt_t hrun hc
          exact k_X0_isRide_b42 hx hb hr hml hown hts hlocks hin hE hA _ _ _ hrun hR hz hS (lv_sub hl [] rfl)
        · have hrun := mt_f hrun hc
          refine lv_iconst (v := 1) hx hb dX0_isRide_38 (by decide) ?_
          refine lv_goto (tgt := 43) hx hb dX0_isRide_39 (by decide) ?_
          exact k_X0_isRide_b43 hx hb hr hml hown hts hlocks hin hE hA _ _ _ _ hrun hR hz hS (lv_sub hl [] rfl)
abbrev rm_X1_put : Room := { frames := 0, cells := 0, slots := 0, locals := 0 }
theorem yk_X1_put : m_K yX1_put cX1_put 3 (none) 3 := ⟨wm_0_224, wm_0_4, by decide +kernel⟩
theorem ys_X1_put : Cond.static yX1_put ∈ wT := wm_0_223
set_option maxRecDepth 100000 in
set_option maxHeartbeats 4000000 in
theorem k_X1_put_b14 {p : Program} {l : Launch} {e : Env} {s : State} {m : MethodId} {args : Array Value} {below : List Frame} {meth : Method} {c : Code} {D : va_G} {ids : m_I3} {st : m_T} {A : Nat → Prop} {z : Nat} {hF : mH} (hx : p.tables.exec = Jvm.exec) (hb : c.code = cX1_put) (hr : meth.sig.returnType = none) (hml : c.maxLocals = 3) (hown : s.vm.findClass RX1 = some m.cls) (hts : ∀ w ∈ (m_ws yX1_put cX1_put 3 (none)), w.before args s = true) (hlocks : meth.locks = false) (hin : meth.name = yX1_put.name) (hE : m_EV st A s s.heap) (hA : ∀ q, s.heap.size ≤ q → A q) (h : mH) (H : Heap) (locs : List Loc) (ls : Array Slot) (hrun : s_X1_put_b14 h = some hF) (hR : Rl D ids A h s H) (hz : H.size = z) (hS : va_S A s.heap H locs) (hl : lv_has ls 3 []) : W p l e rm_X1_put s m args below meth c H locs 0 0 (MQ below (mQv D ids A hF z) args s 0 0 A) (F0 m 14 ls []) := by
  unfold s_X1_put_b14 at hrun
  cases hrun
  exact mr_vret hx hb hr hlocks hR hz hS dX1_put_14
set_option maxRecDepth 100000 in
set_option maxHeartbeats 4000000 in
theorem c_X1_put (l : Launch) (D : va_G) (ids : m_I3) (st : m_T) (z : Nat) {h : mH} {v0 : Nat} {v1 : Int32} {v2 : Int32} {hF : mH} (hrun : s_X1_put h v0 v1 v2 = some hF) : Met l yX1_put (m_ws yX1_put cX1_put 3 (none)) rm_X1_put (mPc D ids st [.ref v0, .int v1, .int v2] h z) (mQv D ids (m_A h z) hF z) rm_X1_put.cells rm_X1_put.slots (m_A h z) := by
  refine mr_of (cc := cX1_put) (maxL := 3) (ret := none) (by decide) rfl (Nat.le_of_ble_eq_true rfl) ?_
  intro p e s m below meth c ls hx hb hr hml hown hts hlocks hin hR hE hz hl
  have hA : ∀ q, s.heap.size ≤ q → m_A h z q := fun q hq => Or.inr (by rw [← hz]; exact hq)
  have hS : va_S (m_A h z) s.heap s.heap [] := va_S.rf
  have hl : lv_has ls 3 [(0, .ref v0), (1, .int v1), (2, .int v2)] := hl
  unfold s_X1_put at hrun
  refine lv_iload_n hx hb dX1_put_0 rfl (lv_at hl 1 rfl) ?_
  refine lv_if_lt (tgt := 14) hx hb dX1_put_1 (by decide) (fun hc => ?_) (fun hc => ?_)
  · have hrun := mt_t hrun hc
    exact k_X1_put_b14 hx hb hr hml hown hts hlocks hin hE hA _ _ _ _ hrun hR hz hS (lv_sub hl [] rfl)
  · have hrun := mt_f hrun hc
    refine lv_iload_n hx hb dX1_put_4 rfl (lv_at hl 1 rfl) ?_
    refine lv_aload_n hx hb dX1_put_5 rfl (lv_at hl 0 rfl) ?_
    obtain ⟨x6, hc9, hrun⟩ := m_bind hrun
    refine mr_ilen hx hb hR hc9 dX1_put_6 ?_
    refine lv_icmp_ge (tgt := 14) hx hb dX1_put_7 (by decide) (fun hc => ?_) (fun hc => ?_)
    · have hrun := mt_t hrun hc
      exact k_X1_put_b14 hx hb hr hml hown hts hlocks hin hE hA _ _ _ _ hrun hR hz hS (lv_sub hl [] rfl)
    · have hrun := mt_f hrun hc
      refine lv_aload_n hx hb dX1_put_10 rfl (lv_at hl 0 rfl) ?_
      refine lv_iload_n hx hb dX1_put_11 rfl (lv_at hl 1 rfl) ?_
      refine lv_iload_n hx hb dX1_put_12 rfl (lv_at hl 2 rfl) ?_
      obtain ⟨h13, hc9, hrun⟩ := m_bind hrun
      refine mr_iast hx hb hR hz hS hc9 dX1_put_13 (fun H locs hR hz hS => ?_)
      exact k_X1_put_b14 hx hb hr hml hown hts hlocks hin hE hA _ _ _ _ hrun hR hz hS (lv_sub hl [] rfl)
abbrev rm_X1_raise : Room := { frames := 1, cells := 0, slots := 0, locals := 22 }
theorem yk_X1_raise : m_K yX1_raise cX1_raise 3 (none) 3 := ⟨wm_1_7, wm_0_4, by decide +kernel⟩
theorem ys_X1_raise : Cond.static yX1_raise ∈ wT := wm_1_6
set_option maxRecDepth 100000 in
set_option maxHeartbeats 4000000 in
theorem c_X1_raise (l : Launch) (D : va_G) (ids : m_I3) (st : m_T) (z : Nat) {h : mH} {v0 : Nat} {v1 : Int32} {v2 : Int32} {hF : mH} (hrun : s_X1_raise h v0 v1 v2 = some hF) : Met l yX1_raise (m_ws yX1_raise cX1_raise 3 (none)) rm_X1_raise (mPc D ids st [.ref v0, .int v1, .int v2] h z) (mQv D ids (m_A h z) hF z) rm_X1_raise.cells rm_X1_raise.slots (m_A h z) := by
  refine mr_of (cc := cX1_raise) (maxL := 3) (ret := none) (by decide) rfl (Nat.le_of_ble_eq_true rfl) ?_
  intro p e s m below meth c ls hx hb hr hml hown hts hlocks hin hR hE hz hl
  have hA : ∀ q, s.heap.size ≤ q → m_A h z q := fun q hq => Or.inr (by rw [← hz]; exact hq)
  have hS : va_S (m_A h z) s.heap s.heap [] := va_S.rf
  have hl : lv_has ls 3 [(0, .ref v0), (1, .int v1), (2, .int v2)] := hl
  unfold s_X1_raise at hrun
  refine lv_aload_n hx hb dX1_raise_0 rfl (lv_at hl 0 rfl) ?_
  refine lv_iload_n hx hb dX1_raise_1 rfl (lv_at hl 1 rfl) ?_
  refine lv_aload_n hx hb dX1_raise_2 rfl (lv_at hl 0 rfl) ?_
  refine lv_iload_n hx hb dX1_raise_3 rfl (lv_at hl 1 rfl) ?_
  obtain ⟨x4, hc9, hrun⟩ := m_bind hrun
  refine mr_calli (mr_runS (As := [.ref v0, .int v1]) (rest := [.int v1, .ref v0]) hx hb hml hown hts (c_X1_at l D ids st z hc9) yk_X1_at ys_X1_at wm_1_8 ⟨(Nat.le_of_ble_eq_true rfl), (Nat.le_of_ble_eq_true rfl)⟩ (mr_recvS hR hE hz hS hA) hl.1 rfl (Nat.le_of_ble_eq_true rfl) dX1_raise_4 ⟨(Nat.le_of_ble_eq_true rfl), (Nat.le_of_ble_eq_true rfl)⟩) hR hz hS hA (fun H locs hR hz hS => ?_)
  refine lv_iload_n hx hb dX1_raise_7 rfl (lv_at hl 2 rfl) ?_
  refine lv_iadd hx hb dX1_raise_8 ?_
  obtain ⟨h9, hc9, hrun⟩ := m_bind hrun
  refine mr_callv (mr_runS (As := [.ref v0, .int v1, .int (x4 + v2)]) (rest := []) hx hb hml hown hts (c_X1_put l D ids st z hc9) yk_X1_put ys_X1_put wm_1_9 ⟨(Nat.le_of_ble_eq_true rfl), (Nat.le_of_ble_eq_true rfl)⟩ (mr_recvS hR hE hz hS hA) hl.1 rfl (Nat.le_of_ble_eq_true rfl) dX1_raise_9 ⟨(Nat.le_of_ble_eq_true rfl), (Nat.le_of_ble_eq_true rfl)⟩) hR hz hS hA (fun H locs hR hz hS => ?_)
  cases hrun
  exact mr_vret hx hb hr hlocks hR hz hS dX1_raise_12
abbrev rm_X1_copy : Room := { frames := 0, cells := 0, slots := 0, locals := 0 }
theorem yk_X1_copy : m_K yX1_copy cX1_copy 3 (none) 2 := ⟨wm_0_52, wm_0_4, by decide +kernel⟩
theorem ys_X1_copy : Cond.static yX1_copy ∈ wT := wm_0_51
set_option maxRecDepth 100000 in
set_option maxHeartbeats 4000000 in
theorem k_X1_copy_b26 {p : Program} {l : Launch} {e : Env} {s : State} {m : MethodId} {args : Array Value} {below : List Frame} {meth : Method} {c : Code} {D : va_G} {ids : m_I3} {st : m_T} {A : Nat → Prop} {z : Nat} {hF : mH} (hx : p.tables.exec = Jvm.exec) (hb : c.code = cX1_copy) (hr : meth.sig.returnType = none) (hml : c.maxLocals = 3) (hown : s.vm.findClass RX1 = some m.cls) (hts : ∀ w ∈ (m_ws yX1_copy cX1_copy 3 (none)), w.before args s = true) (hlocks : meth.locks = false) (hin : meth.name = yX1_copy.name) (hE : m_EV st A s s.heap) (hA : ∀ q, s.heap.size ≤ q → A q) (h : mH) (H : Heap) (locs : List Loc) (ls : Array Slot) (hrun : s_X1_copy_b26 h = some hF) (hR : Rl D ids A h s H) (hz : H.size = z) (hS : va_S A s.heap H locs) (hl : lv_has ls 3 []) : W p l e rm_X1_copy s m args below meth c H locs 0 0 (MQ below (mQv D ids A hF z) args s 0 0 A) (F0 m 26 ls []) := by
  unfold s_X1_copy_b26 at hrun
  cases hrun
  exact mr_vret hx hb hr hlocks hR hz hS dX1_copy_26
set_option maxRecDepth 100000 in
set_option maxHeartbeats 4000000 in
theorem k_X1_copy_L2 {p : Program} {l : Launch} {e : Env} {s : State} {m : MethodId} {args : Array Value} {below : List Frame} {meth : Method} {c : Code} {D : va_G} {ids : m_I3} {st : m_T} {A : Nat → Prop} {z : Nat} {hF : mH} (hx : p.tables.exec = Jvm.exec) (hb : c.code = cX1_copy) (hr : meth.sig.returnType = none) (hml : c.maxLocals = 3) (hown : s.vm.findClass RX1 = some m.cls) (hts : ∀ w ∈ (m_ws yX1_copy cX1_copy 3 (none)), w.before args s = true) (hlocks : meth.locks = false) (hin : meth.name = yX1_copy.name) (hE : m_EV st A s s.heap) (hA : ∀ q, s.heap.size ≤ q → A q) : ∀ (n : Nat) (h : mH) (v0 : Nat) (v1 : Nat) (v2 : Int32) (H : Heap) (locs : List Loc) (ls : Array Slot), s_X1_copy_L2 n h v0 v1 v2 = some hF → Rl D ids A h s H → H.size = z → va_S A s.heap H locs → lv_has ls 3 [(0, .ref v0), (1, .ref v1), (2, .int v2)] → W p l e rm_X1_copy s m args below meth c H locs 0 0 (MQ below (mQv D ids A hF z) args s 0 0 A) (F0 m 2 ls []) := by
  intro n
  induction n with
  | zero => intro h v0 v1 v2 H locs ls hrun; exact absurd hrun (by intro h9; cases h9)
  | succ n ih =>
    intro h v0 v1 v2 H locs ls hrun hR hz hS hl
    rw [s_X1_copy_L2] at hrun
    refine lv_iload_n hx hb dX1_copy_2 rfl (lv_at hl 2 rfl) ?_
    refine lv_aload_n hx hb dX1_copy_3 rfl (lv_at hl 0 rfl) ?_
    obtain ⟨x4, hc9, hrun⟩ := m_bind hrun
    refine mr_ilen hx hb hR hc9 dX1_copy_4 ?_
    refine lv_icmp_ge (tgt := 26) hx hb dX1_copy_5 (by decide) (fun hc => ?_) (fun hc => ?_)
    · have hrun := mt_t hrun hc
      exact k_X1_copy_b26 hx hb hr hml hown hts hlocks hin hE hA _ _ _ _ hrun hR hz hS (lv_sub hl [] rfl)
    · have hrun := mt_f hrun hc
      refine lv_iload_n hx hb dX1_copy_8 rfl (lv_at hl 2 rfl) ?_
      refine lv_aload_n hx hb dX1_copy_9 rfl (lv_at hl 1 rfl) ?_
      obtain ⟨x10, hc9, hrun⟩ := m_bind hrun
      refine mr_ilen hx hb hR hc9 dX1_copy_10 ?_
      refine lv_icmp_ge (tgt := 26) hx hb dX1_copy_11 (by decide) (fun hc => ?_) (fun hc => ?_)
      · have hrun := mt_t hrun hc
        exact k_X1_copy_b26 hx hb hr hml hown hts hlocks hin hE hA _ _ _ _ hrun hR hz hS (lv_sub hl [] rfl)
      · have hrun := mt_f hrun hc
        refine lv_aload_n hx hb dX1_copy_14 rfl (lv_at hl 1 rfl) ?_
        refine lv_iload_n hx hb dX1_copy_15 rfl (lv_at hl 2 rfl) ?_
        refine lv_aload_n hx hb dX1_copy_16 rfl (lv_at hl 0 rfl) ?_
        refine lv_iload_n hx hb dX1_copy_17 rfl (lv_at hl 2 rfl) ?_
        obtain ⟨x18, hc9, hrun⟩ := m_bind hrun
        refine mr_iald hx hb hR hc9 dX1_copy_18 ?_
        obtain ⟨h19, hc9, hrun⟩ := m_bind hrun
        refine mr_iast hx hb hR hz hS hc9 dX1_copy_19 (fun H locs hR hz hS => ?_)
        refine lv_iinc (v := v2 + 1) (lv' := [(2, .int (v2 + 1)), (0, .ref v0), (1, .ref v1)]) hx hb dX1_copy_20 hl (k := 2) rfl rfl (by decide) rfl (fun ls hl => ?_)
        refine lv_goto (tgt := 2) hx hb dX1_copy_23 (by decide) ?_
        exact ih _ _ _ _ _ _ _ hrun hR hz hS (lv_sub hl [1, 2, 0] rfl)
set_option maxRecDepth 100000 in
set_option maxHeartbeats 4000000 in
theorem c_X1_copy (l : Launch) (D : va_G) (ids : m_I3) (st : m_T) (z : Nat) {h : mH} {v0 : Nat} {v1 : Nat} {hF : mH} (hrun : s_X1_copy h v0 v1 = some hF) : Met l yX1_copy (m_ws yX1_copy cX1_copy 3 (none)) rm_X1_copy (mPc D ids st [.ref v0, .ref v1] h z) (mQv D ids (m_A h z) hF z) rm_X1_copy.cells rm_X1_copy.slots (m_A h z) := by
  refine mr_of (cc := cX1_copy) (maxL := 3) (ret := none) (by decide) rfl (Nat.le_of_ble_eq_true rfl) ?_
  intro p e s m below meth c ls hx hb hr hml hown hts hlocks hin hR hE hz hl
  have hA : ∀ q, s.heap.size ≤ q → m_A h z q := fun q hq => Or.inr (by rw [← hz]; exact hq)
  have hS : va_S (m_A h z) s.heap s.heap [] := va_S.rf
  have hl : lv_has ls 3 [(0, .ref v0), (1, .ref v1)] := hl
  unfold s_X1_copy at hrun
  refine lv_iconst (v := 0) hx hb dX1_copy_0 (by decide) ?_
  refine lv_istore_n (lv' := [(2, .int 0), (0, .ref v0), (1, .ref v1)]) hx hb dX1_copy_1 rfl hl (by decide) rfl (fun ls hl => ?_)
  exact k_X1_copy_L2 hx hb hr hml hown hts hlocks hin hE hA _ _ _ _ _ _ _ _ hrun hR hz hS (lv_sub hl [1, 2, 0] rfl)
abbrev rm_X1_sum : Room := { frames := 0, cells := 0, slots := 0, locals := 0 }
theorem yk_X1_sum : m_K yX1_sum cX1_sum 6 (some .int) 1 := ⟨wm_1_109, wm_0_4, by decide +kernel⟩
theorem ys_X1_sum : Cond.static yX1_sum ∈ wT := wm_1_108
set_option maxRecDepth 100000 in
set_option maxHeartbeats 4000000 in
theorem k_X1_sum_L10 {p : Program} {l : Launch} {e : Env} {s : State} {m : MethodId} {args : Array Value} {below : List Frame} {meth : Method} {c : Code} {D : va_G} {ids : m_I3} {st : m_T} {A : Nat → Prop} {z : Nat} {r : Int32} (hx : p.tables.exec = Jvm.exec) (hb : c.code = cX1_sum) (hr : meth.sig.returnType = some .int) (hml : c.maxLocals = 6) (hown : s.vm.findClass RX1 = some m.cls) (hts : ∀ w ∈ (m_ws yX1_sum cX1_sum 6 (some .int)), w.before args s = true) (hlocks : meth.locks = false) (hin : meth.name = yX1_sum.name) (hE : m_EV st A s s.heap) (hA : ∀ q, s.heap.size ≤ q → A q) {h : mH} : ∀ (n : Nat) (v1 : Int32) (v2 : Nat) (v3 : Int32) (v4 : Int32) (H : Heap) (locs : List Loc) (ls : Array Slot), s_X1_sum_L10 h n v1 v2 v3 v4 = some r → Rl D ids A h s H → H.size = z → va_S A s.heap H locs → lv_has ls 6 [(1, .int v1), (2, .ref v2), (3, .int v3), (4, .int v4)] → W p l e rm_X1_sum s m args below meth c H locs 0 0 (MQ below (mQi D ids A r h z) args s 0 0 A) (F0 m 10 ls []) := by
  intro n
  induction n with
  | zero => intro v1 v2 v3 v4 H locs ls hrun; exact absurd hrun (by intro h9; cases h9)
  | succ n ih =>
    intro v1 v2 v3 v4 H locs ls hrun hR hz hS hl
    rw [s_X1_sum_L10] at hrun
    refine lv_iload hx hb dX1_sum_10 (lv_at hl 3 rfl) ?_
    refine lv_iload_n hx hb dX1_sum_12 rfl (lv_at hl 2 rfl) ?_
    refine lv_icmp_ge (tgt := 33) hx hb dX1_sum_13 (by decide) (fun hc => ?_) (fun hc => ?_)
    · have hrun := mt_t hrun hc
      refine lv_iload_n hx hb dX1_sum_33 rfl (lv_at hl 0 rfl) ?_
      cases hrun
      exact mr_iret hx hb hr hlocks hR hz hS dX1_sum_34
    · have hrun := mt_f hrun hc
      refine lv_aload_n hx hb dX1_sum_16 rfl (lv_at hl 1 rfl) ?_
      refine lv_iload hx hb dX1_sum_17 (lv_at hl 3 rfl) ?_
      obtain ⟨x19, hc9, hrun⟩ := m_bind hrun
      refine mr_iald hx hb hR hc9 dX1_sum_19 ?_
      refine lv_istore (lv' := [(5, .int x19), (1, .int v1), (2, .ref v2), (3, .int v3), (4, .int v4)]) hx hb dX1_sum_20 hl (by decide) rfl (fun ls hl => ?_)
      refine lv_iload_n hx hb dX1_sum_22 rfl (lv_at hl 1 rfl) ?_
      refine lv_iload hx hb dX1_sum_23 (lv_at hl 0 rfl) ?_
      refine lv_iadd hx hb dX1_sum_25 ?_
      refine lv_istore_n (lv' := [(1, .int (v1 + x19)), (5, .int x19), (2, .ref v2), (3, .int v3), (4, .int v4)]) hx hb dX1_sum_26 rfl hl (by decide) rfl (fun ls hl => ?_)
      refine lv_iinc (v := v4 + 1) (lv' := [(4, .int (v4 + 1)), (1, .int (v1 + x19)), (5, .int x19), (2, .ref v2), (3, .int v3)]) hx hb dX1_sum_27 hl (k := 4) rfl rfl (by decide) rfl (fun ls hl => ?_)
      refine lv_goto (tgt := 10) hx hb dX1_sum_30 (by decide) ?_
      exact ih _ _ _ _ _ _ _ hrun hR hz hS (lv_sub hl [1, 3, 4, 0] rfl)
set_option maxRecDepth 100000 in
set_option maxHeartbeats 4000000 in
theorem c_X1_sum (l : Launch) (D : va_G) (ids : m_I3) (st : m_T) (z : Nat) {h : mH} {v0 : Nat} {r : Int32} (hrun : s_X1_sum h v0 = some r) : Met l yX1_sum (m_ws yX1_sum cX1_sum 6 (some .int)) rm_X1_sum (mPc D ids st [.ref v0] h z) (mQi D ids (m_A h z) r h z) rm_X1_sum.cells rm_X1_sum.slots (m_A h z) := by
  refine mr_of (cc := cX1_sum) (maxL := 6) (ret := some .int) (by decide) rfl (Nat.le_of_ble_eq_true rfl) ?_
  intro p e s m below meth c ls hx hb hr hml hown hts hlocks hin hR hE hz hl
  have hA : ∀ q, s.heap.size ≤ q → m_A h z q := fun q hq => Or.inr (by rw [← hz]; exact hq)
  have hS : va_S (m_A h z) s.heap s.heap [] := va_S.rf
  have hl : lv_has ls 6 [(0, .ref v0)] := hl
  unfold s_X1_sum at hrun
  refine lv_iconst (v := 0) hx hb dX1_sum_0 (by decide) ?_
  refine lv_istore_n (lv' := [(1, .int 0), (0, .ref v0)]) hx hb dX1_sum_1 rfl hl (by decide) rfl (fun ls hl => ?_)
  refine lv_aload_n hx hb dX1_sum_2 rfl (lv_at hl 1 rfl) ?_
  refine lv_astore_n (lv' := [(2, .ref v0), (1, .int 0), (0, .ref v0)]) hx hb dX1_sum_3 rfl hl (by decide) rfl (fun ls hl => ?_)
  refine lv_aload_n hx hb dX1_sum_4 rfl (lv_at hl 0 rfl) ?_
  obtain ⟨x5, hc9, hrun⟩ := m_bind hrun
  refine mr_ilen hx hb hR hc9 dX1_sum_5 ?_
  refine lv_istore_n (lv' := [(3, .int x5), (2, .ref v0), (1, .int 0), (0, .ref v0)]) hx hb dX1_sum_6 rfl hl (by decide) rfl (fun ls hl => ?_)
  refine lv_iconst (v := 0) hx hb dX1_sum_7 (by decide) ?_
  refine lv_istore (lv' := [(4, .int 0), (3, .int x5), (2, .ref v0), (1, .int 0), (0, .ref v0)]) hx hb dX1_sum_8 hl (by decide) rfl (fun ls hl => ?_)
  exact k_X1_sum_L10 hx hb hr hml hown hts hlocks hin hE hA _ _ _ _ _ _ _ _ hrun hR hz hS (lv_sub hl [3, 2, 1, 0] rfl)
abbrev rm_X4_make : Room := { frames := 0, cells := 0, slots := 0, locals := 0 }
theorem yk_X4_make : m_K yX4_make cX4_make 5 (some .int) 5 := ⟨wm_1_74, wm_0_8, by decide +kernel⟩
theorem ys_X4_make : Cond.static yX4_make ∈ wT := wm_1_73
set_option maxRecDepth 100000 in
set_option maxHeartbeats 4000000 in
theorem k_X4_make_b28 {p : Program} {l : Launch} {e : Env} {s : State} {m : MethodId} {args : Array Value} {below : List Frame} {meth : Method} {c : Code} {D : va_G} {ids : m_I3} {st : m_T} {A : Nat → Prop} {z : Nat} {r : Int32} (hx : p.tables.exec = Jvm.exec) (hb : c.code = cX4_make) (hr : meth.sig.returnType = some .int) (hml : c.maxLocals = 5) (hown : s.vm.findClass RX4 = some m.cls) (hts : ∀ w ∈ (m_ws yX4_make cX4_make 5 (some .int)), w.before args s = true) (hlocks : meth.locks = false) (hin : meth.name = yX4_make.name) (hE : m_EV st A s s.heap) (hA : ∀ q, s.heap.size ≤ q → A q) {h : mH} (t0 : Int32) (t1 : Int32) (H : Heap) (locs : List Loc) (ls : Array Slot) (hrun : s_X4_make_b28 h t0 t1 = some r) (hR : Rl D ids A h s H) (hz : H.size = z) (hS : va_S A s.heap H locs) (hl : lv_has ls 5 []) : W p l e rm_X4_make s m args below meth c H locs 0 0 (MQ below (mQi D ids A r h z) args s 0 0 A) (F0 m 28 ls [.int t1, .int t0]) := by
  unfold s_X4_make_b28 at hrun
  refine lv_ior hx hb dX4_make_28 ?_
  cases hrun
  exact mr_iret hx hb hr hlocks hR hz hS dX4_make_29
set_option maxRecDepth 100000 in
set_option maxHeartbeats 4000000 in
theorem c_X4_make (l : Launch) (D : va_G) (ids : m_I3) (st : m_T) (z : Nat) {h : mH} {v0 : Int32} {v1 : Int32} {v2 : Int32} {v3 : Int32} {v4 : Int32} {r : Int32} (hrun : s_X4_make h v0 v1 v2 v3 v4 = some r) : Met l yX4_make (m_ws yX4_make cX4_make 5 (some .int)) rm_X4_make (mPc D ids st [.int v0, .int v1, .int v2, .int v3, .int v4] h z) (mQi D ids (m_A h z) r h z) rm_X4_make.cells rm_X4_make.slots (m_A h z) := by
  refine mr_of (cc := cX4_make) (maxL := 5) (ret := some .int) (by decide) rfl (Nat.le_of_ble_eq_true rfl) ?_
  intro p e s m below meth c ls hx hb hr hml hown hts hlocks hin hR hE hz hl
  have hA : ∀ q, s.heap.size ≤ q → m_A h z q := fun q hq => Or.inr (by rw [← hz]; exact hq)
  have hS : va_S (m_A h z) s.heap s.heap [] := va_S.rf
  have hl : lv_has ls 5 [(0, .int v0), (1, .int v1), (2, .int v2), (3, .int v3), (4, .int v4)] := hl
  unfold s_X4_make at hrun
  refine lv_iload_n hx hb dX4_make_0 rfl (lv_at hl 1 rfl) ?_
  refine lv_bipush (v := 19) hx hb dX4_make_1 (by decide) ?_
  refine lv_ishl hx hb dX4_make_3 ?_
  refine lv_iload_n hx hb dX4_make_4 rfl (lv_at hl 2 rfl) ?_
  refine lv_bipush (v := 8) hx hb dX4_make_5 (by decide) ?_
  refine lv_ishl hx hb dX4_make_7 ?_
  refine lv_ior hx hb dX4_make_8 ?_
  refine lv_iload_n hx hb dX4_make_9 rfl (lv_at hl 0 rfl) ?_
  refine lv_bipush (v := 6) hx hb dX4_make_10 (by decide) ?_
  refine lv_ishl hx hb dX4_make_12 ?_
  refine lv_ior hx hb dX4_make_13 ?_
  refine lv_iload_n hx hb dX4_make_14 rfl (lv_at hl 3 rfl) ?_
  refine lv_iconst (v := 2) hx hb dX4_make_15 (by decide) ?_
  refine lv_ishl hx hb dX4_make_16 ?_
  refine lv_ior hx hb dX4_make_17 ?_
  refine lv_iload hx hb dX4_make_18 (lv_at hl 4 rfl) ?_
  refine lv_if_eq (tgt := 27) hx hb dX4_make_20 (by decide) (fun hc => ?_) (fun hc => ?_)
  · have hrun := mt_t hrun hc
    refine lv_iconst (v := 0) hx hb dX4_make_27 (by decide) ?_
    exact k_X4_make_b28 hx hb hr hml hown hts hlocks hin hE hA _ _ _ _ _ hrun hR hz hS (lv_sub hl [] rfl)
  · have hrun := mt_f hrun hc
    refine lv_iconst (v := 2) hx hb dX4_make_23 (by decide) ?_
    refine lv_goto (tgt := 28) hx hb dX4_make_24 (by decide) ?_
    exact k_X4_make_b28 hx hb hr hml hown hts hlocks hin hE hA _ _ _ _ _ hrun hR hz hS (lv_sub hl [] rfl)
abbrev rm_X4_timeOf : Room := { frames := 0, cells := 0, slots := 0, locals := 0 }
theorem yk_X4_timeOf : m_K yX4_timeOf cX4_timeOf 1 (some .int) 1 := ⟨wm_1_197, wm_0_8, by decide +kernel⟩
theorem ys_X4_timeOf : Cond.static yX4_timeOf ∈ wT := wm_1_196
set_option maxRecDepth 100000 in
set_option maxHeartbeats 4000000 in
theorem c_X4_timeOf (l : Launch) (D : va_G) (ids : m_I3) (st : m_T) (z : Nat) {h : mH} {v0 : Int32} {r : Int32} (hrun : s_X4_timeOf h v0 = some r) : Met l yX4_timeOf (m_ws yX4_timeOf cX4_timeOf 1 (some .int)) rm_X4_timeOf (mPc D ids st [.int v0] h z) (mQi D ids (m_A h z) r h z) rm_X4_timeOf.cells rm_X4_timeOf.slots (m_A h z) := by
  refine mr_of (cc := cX4_timeOf) (maxL := 1) (ret := some .int) (by decide) rfl (Nat.le_of_ble_eq_true rfl) ?_
  intro p e s m below meth c ls hx hb hr hml hown hts hlocks hin hR hE hz hl
  have hA : ∀ q, s.heap.size ≤ q → m_A h z q := fun q hq => Or.inr (by rw [← hz]; exact hq)
  have hS : va_S (m_A h z) s.heap s.heap [] := va_S.rf
  have hl : lv_has ls 1 [(0, .int v0)] := hl
  unfold s_X4_timeOf at hrun
  refine lv_iload_n hx hb dX4_timeOf_0 rfl (lv_at hl 0 rfl) ?_
  refine lv_bipush (v := 8) hx hb dX4_timeOf_1 (by decide) ?_
  refine lv_ishr hx hb dX4_timeOf_3 ?_
  cases hrun
  exact mr_iret hx hb hr hlocks hR hz hS dX4_timeOf_4
abbrev rm_X4_weekOf : Room := { frames := 1, cells := 0, slots := 0, locals := 20 }
theorem yk_X4_weekOf : m_K yX4_weekOf cX4_weekOf 1 (some .int) 1 := ⟨wm_1_201, wm_0_8, by decide +kernel⟩
theorem ys_X4_weekOf : Cond.static yX4_weekOf ∈ wT := wm_1_200
set_option maxRecDepth 100000 in
set_option maxHeartbeats 4000000 in
theorem c_X4_weekOf (l : Launch) (D : va_G) (ids : m_I3) (st : m_T) (z : Nat) {h : mH} {v0 : Int32} {r : Int32} (hrun : s_X4_weekOf h v0 = some r) : Met l yX4_weekOf (m_ws yX4_weekOf cX4_weekOf 1 (some .int)) rm_X4_weekOf (mPc D ids st [.int v0] h z) (mQi D ids (m_A h z) r h z) rm_X4_weekOf.cells rm_X4_weekOf.slots (m_A h z) := by
  refine mr_of (cc := cX4_weekOf) (maxL := 1) (ret := some .int) (by decide) rfl (Nat.le_of_ble_eq_true rfl) ?_
  intro p e s m below meth c ls hx hb hr hml hown hts hlocks hin hR hE hz hl
  have hA : ∀ q, s.heap.size ≤ q → m_A h z q := fun q hq => Or.inr (by rw [← hz]; exact hq)
  have hS : va_S (m_A h z) s.heap s.heap [] := va_S.rf
  have hl : lv_has ls 1 [(0, .int v0)] := hl
  unfold s_X4_weekOf at hrun
  refine lv_iload_n hx hb dX4_weekOf_0 rfl (lv_at hl 0 rfl) ?_
  obtain ⟨x1, hc9, hrun⟩ := m_bind hrun
  refine mr_calli (mr_runS (As := [.int v0]) (rest := []) hx hb hml hown hts (c_X4_dayOf l D ids st z hc9) yk_X4_dayOf ys_X4_dayOf wm_1_202 ⟨(Nat.le_of_ble_eq_true rfl), (Nat.le_of_ble_eq_true rfl)⟩ (mr_recvS hR hE hz hS hA) hl.1 rfl (Nat.le_of_ble_eq_true rfl) dX4_weekOf_1 ⟨(Nat.le_of_ble_eq_true rfl), (Nat.le_of_ble_eq_true rfl)⟩) hR hz hS hA (fun H locs hR hz hS => ?_)
  refine lv_bipush (v := 7) hx hb dX4_weekOf_4 (by decide) ?_
  obtain ⟨x6, hc9, hrun⟩ := m_bind hrun
  obtain ⟨hn9, rfl⟩ := m_div_spec hc9
  refine lv_idiv hx hb dX4_weekOf_6 hn9 ?_
  refine lv_topi (fun x6 ex6 => ?_)
  try rw [← ex6] at hrun
  cases hrun
  exact mr_iret hx hb hr hlocks hR hz hS dX4_weekOf_7
abbrev rm_X5_insert : Room := { frames := 2, cells := 0, slots := 0, locals := 42 }
theorem yk_X5_insert : m_K yX5_insert cX5_insert 3 (some .int) 1 := ⟨wm_1_193, wm_0_3, by decide +kernel⟩
theorem ys_X5_insert : Cond.instanceMethod yX5_insert ∈ wT ∧ Cond.selects RX5 yX5_insert yX5_insert ∈ wT := ⟨wm_1_191, wm_1_192⟩
set_option maxRecDepth 100000 in
set_option maxHeartbeats 4000000 in
theorem k_X5_insert_b61 {p : Program} {l : Launch} {e : Env} {s : State} {m : MethodId} {args : Array Value} {below : List Frame} {meth : Method} {c : Code} {D : va_G} {ids : m_I3} {st : m_T} {A : Nat → Prop} {z : Nat} {r : Int32} {hF : mH} (hx : p.tables.exec = Jvm.exec) (hb : c.code = cX5_insert) (hr : meth.sig.returnType = some .int) (hml : c.maxLocals = 3) (hown : s.vm.findClass RX5 = some m.cls) (hts : ∀ w ∈ (m_ws yX5_insert cX5_insert 3 (some .int)), w.before args s = true) (hlocks : meth.locks = false) (hin : meth.name = yX5_insert.name) (hE : m_EV st A s s.heap) (hA : ∀ q, s.heap.size ≤ q → A q) (h : mH) (v0 : Nat) (v1 : Int32) (v2 : Int32) (H : Heap) (locs : List Loc) (ls : Array Slot) (hrun : s_X5_insert_b61 h v0 v1 v2 = some (r, hF)) (hR : Rl D ids A h s H) (hz : H.size = z) (hS : va_S A s.heap H locs) (hl : lv_has ls 3 [(0, .ref v0), (1, .int v1), (2, .int v2)]) : W p l e rm_X5_insert s m args below meth c H locs 0 0 (MQ below (mQi D ids A r hF z) args s 0 0 A) (F0 m 61 ls []) := by
  unfold s_X5_insert_b61 at hrun
  refine lv_aload_n hx hb dX5_insert_61 rfl (lv_at hl 0 rfl) ?_
  obtain ⟨x62, hc9, hrun⟩ := m_bind hrun
  refine mr_get (C := RX5) (T := TX5) (N := 2) (ci := 3) hx hb hts (fun w q => m_ws_in (wi_X5 w q)) hown hR rfl 0 (by decide) (hts _ (m_ws_in wm_0_38)) (fun _ h9 => h9) (m_gr_spec hc9) dX5_insert_62 ?_
  refine lv_iload_n hx hb dX5_insert_65 rfl (lv_at hl 2 rfl) ?_
  refine lv_iload_n hx hb dX5_insert_66 rfl (lv_at hl 1 rfl) ?_
  obtain ⟨h67, hc9, hrun⟩ := m_bind hrun
  refine mr_callv (mr_runS (As := [.ref x62, .int v2, .int v1]) (rest := []) hx hb hml hown hts (c_X1_put l D ids st z hc9) yk_X1_put ys_X1_put wm_1_198 ⟨(Nat.le_of_ble_eq_true rfl), (Nat.le_of_ble_eq_true rfl)⟩ (mr_recvS hR hE hz hS hA) hl.1 rfl (Nat.le_of_ble_eq_true rfl) dX5_insert_67 ⟨(Nat.le_of_ble_eq_true rfl), (Nat.le_of_ble_eq_true rfl)⟩) hR hz hS hA (fun H locs hR hz hS => ?_)
  refine lv_aload_n hx hb dX5_insert_70 rfl (lv_at hl 0 rfl) ?_
  refine lv_dup hx hb dX5_insert_71 rfl ?_
  obtain ⟨x72, hc9, hrun⟩ := m_bind hrun
  refine mr_get (C := RX5) (T := TX5) (N := 2) (ci := 3) hx hb hts (fun w q => m_ws_in (wi_X5 w q)) hown hR rfl 1 (by decide) (hts _ (m_ws_in wm_0_39)) (fun _ h9 => h9) (m_gi_spec hc9) dX5_insert_72 ?_
  refine lv_iconst (v := 1) hx hb dX5_insert_75 (by decide) ?_
  refine lv_iadd hx hb dX5_insert_76 ?_
  obtain ⟨h77, hc9, hrun⟩ := m_bind hrun
  refine mr_put (C := RX5) (T := TX5) (N := 2) (ci := 3) hx hb hts (fun w q => m_ws_in (wi_X5 w q)) tyX5 tyX5_ok nmX5 hown hR hz hS rfl 1 (by decide) (hts _ (m_ws_in wm_0_39)) (fun _ h9 => h9) rfl (tyX5_ok 1 (by decide)) rfl rfl hc9 dX5_insert_77 (fun H locs hR hz hS => ?_)
  refine lv_iload_n hx hb dX5_insert_80 rfl (lv_at hl 2 rfl) ?_
  cases hrun
  exact mr_iret hx hb hr hlocks hR hz hS dX5_insert_81
set_option maxRecDepth 100000 in
set_option maxHeartbeats 4000000 in
theorem k_X5_insert_L19 {p : Program} {l : Launch} {e : Env} {s : State} {m : MethodId} {args : Array Value} {below : List Frame} {meth : Method} {c : Code} {D : va_G} {ids : m_I3} {st : m_T} {A : Nat → Prop} {z : Nat} {r : Int32} {hF : mH} (hx : p.tables.exec = Jvm.exec) (hb : c.code = cX5_insert) (hr : meth.sig.returnType = some .int) (hml : c.maxLocals = 3) (hown : s.vm.findClass RX5 = some m.cls) (hts : ∀ w ∈ (m_ws yX5_insert cX5_insert 3 (some .int)), w.before args s = true) (hlocks : meth.locks = false) (hin : meth.name = yX5_insert.name) (hE : m_EV st A s s.heap) (hA : ∀ q, s.heap.size ≤ q → A q) : ∀ (n : Nat) (h : mH) (v0 : Nat) (v1 : Int32) (v2 : Int32) (H : Heap) (locs : List Loc) (ls : Array Slot), s_X5_insert_L19 n h v0 v1 v2 = some (r, hF) → Rl D ids A h s H → H.size = z → va_S A s.heap H locs → lv_has ls 3 [(0, .ref v0), (1, .int v1), (2, .int v2)] → W p l e rm_X5_insert s m args below meth c H locs 0 0 (MQ below (mQi D ids A r hF z) args s 0 0 A) (F0 m 19 ls []) := by
  intro n
  induction n with
  | zero => intro h v0 v1 v2 H locs ls hrun; exact absurd hrun (by intro h9; cases h9)
  | succ n ih =>
    intro h v0 v1 v2 H locs ls hrun hR hz hS hl
    rw [s_X5_insert_L19] at hrun
    refine lv_iload_n hx hb dX5_insert_19 rfl (lv_at hl 2 rfl) ?_
    refine lv_if_le (tgt := 61) hx hb dX5_insert_20 (by decide) (fun hc => ?_) (fun hc => ?_)
    · have hrun := mt_t hrun hc
      exact k_X5_insert_b61 hx hb hr hml hown hts hlocks hin hE hA _ _ _ _ _ _ _ hrun hR hz hS (lv_sub hl [0, 1, 2] rfl)
    · have hrun := mt_f hrun hc
      refine lv_aload_n hx hb dX5_insert_23 rfl (lv_at hl 0 rfl) ?_
      refine lv_iload_n hx hb dX5_insert_24 rfl (lv_at hl 2 rfl) ?_
      refine lv_iconst (v := 1) hx hb dX5_insert_25 (by decide) ?_
      refine lv_isub hx hb dX5_insert_26 ?_
      obtain ⟨_, ho9, hrun⟩ := m_bind hrun
      obtain ⟨fs9, ho9⟩ := m_is_spec ho9
      obtain ⟨x27, hc9, hrun⟩ := m_bind hrun
      refine mr_calli (mr_runV (As := [.int (v2 - 1)]) (rest := []) hx hb hml hown hts (c_X5_tapAt l D ids st z hc9) yk_X5_tapAt ys_X5_tapAt wm_1_194 ⟨(Nat.le_of_ble_eq_true rfl), (Nat.le_of_ble_eq_true rfl)⟩ (mr_recv (ci := 3) hR hE hz hS hA rfl ho9) hl.1 rfl (Nat.le_of_ble_eq_true rfl) dX5_insert_27 ⟨(Nat.le_of_ble_eq_true rfl), (Nat.le_of_ble_eq_true rfl)⟩) hR hz hS hA (fun H locs hR hz hS => ?_)
      obtain ⟨x30, hc9, hrun⟩ := m_bind hrun
      refine mr_calli (mr_runS (As := [.int x27]) (rest := []) hx hb hml hown hts (c_X4_timeOf l D ids st z hc9) yk_X4_timeOf ys_X4_timeOf wm_1_195 ⟨(Nat.le_of_ble_eq_true rfl), (Nat.le_of_ble_eq_true rfl)⟩ (mr_recvS hR hE hz hS hA) hl.1 rfl (Nat.le_of_ble_eq_true rfl) dX5_insert_30 ⟨(Nat.le_of_ble_eq_true rfl), (Nat.le_of_ble_eq_true rfl)⟩) hR hz hS hA (fun H locs hR hz hS => ?_)
      refine lv_iload_n hx hb dX5_insert_33 rfl (lv_at hl 1 rfl) ?_
      obtain ⟨x34, hc9, hrun⟩ := m_bind hrun
      refine mr_calli (mr_runS (As := [.int v1]) (rest := [.int x30]) hx hb hml hown hts (c_X4_timeOf l D ids st z hc9) yk_X4_timeOf ys_X4_timeOf wm_1_195 ⟨(Nat.le_of_ble_eq_true rfl), (Nat.le_of_ble_eq_true rfl)⟩ (mr_recvS hR hE hz hS hA) hl.1 rfl (Nat.le_of_ble_eq_true rfl) dX5_insert_34 ⟨(Nat.le_of_ble_eq_true rfl), (Nat.le_of_ble_eq_true rfl)⟩) hR hz hS hA (fun H locs hR hz hS => ?_)
      refine lv_icmp_le (tgt := 61) hx hb dX5_insert_37 (by decide) (fun hc => ?_) (fun hc => ?_)
      · have hrun := mt_t hrun hc
        exact k_X5_insert_b61 hx hb hr hml hown hts hlocks hin hE hA _ _ _ _ _ _ _ hrun hR hz hS (lv_sub hl [0, 1, 2] rfl)
      · have hrun := mt_f hrun hc
        refine lv_aload_n hx hb dX5_insert_40 rfl (lv_at hl 0 rfl) ?_
        obtain ⟨x41, hc9, hrun⟩ := m_bind hrun
        refine mr_get (C := RX5) (T := TX5) (N := 2) (ci := 3) hx hb hts (fun w q => m_ws_in (wi_X5 w q)) hown hR rfl 0 (by decide) (hts _ (m_ws_in wm_0_38)) (fun _ h9 => h9) (m_gr_spec hc9) dX5_insert_41 ?_
        refine lv_iload_n hx hb dX5_insert_44 rfl (lv_at hl 2 rfl) ?_
        refine lv_aload_n hx hb dX5_insert_45 rfl (lv_at hl 0 rfl) ?_
        refine lv_iload_n hx hb dX5_insert_46 rfl (lv_at hl 2 rfl) ?_
        refine lv_iconst (v := 1) hx hb dX5_insert_47 (by decide) ?_
        refine lv_isub hx hb dX5_insert_48 ?_
        obtain ⟨_, ho9, hrun⟩ := m_bind hrun
        obtain ⟨fs9, ho9⟩ := m_is_spec ho9
        obtain ⟨x49, hc9, hrun⟩ := m_bind hrun
        refine mr_calli (mr_runV (As := [.int (v2 - 1)]) (rest := [.int v2, .ref x41]) hx hb hml hown hts (c_X5_tapAt l D ids st z hc9) yk_X5_tapAt ys_X5_tapAt wm_1_194 ⟨(Nat.le_of_ble_eq_true rfl), (Nat.le_of_ble_eq_true rfl)⟩ (mr_recv (ci := 3) hR hE hz hS hA rfl ho9) hl.1 rfl (Nat.le_of_ble_eq_true rfl) dX5_insert_49 ⟨(Nat.le_of_ble_eq_true rfl), (Nat.le_of_ble_eq_true rfl)⟩) hR hz hS hA (fun H locs hR hz hS => ?_)
        obtain ⟨h52, hc9, hrun⟩ := m_bind hrun
        refine mr_callv (mr_runS (As := [.ref x41, .int v2, .int x49]) (rest := []) hx hb hml hown hts (c_X1_put l D ids st z hc9) yk_X1_put ys_X1_put wm_1_198 ⟨(Nat.le_of_ble_eq_true rfl), (Nat.le_of_ble_eq_true rfl)⟩ (mr_recvS hR hE hz hS hA) hl.1 rfl (Nat.le_of_ble_eq_true rfl) dX5_insert_52 ⟨(Nat.le_of_ble_eq_true rfl), (Nat.le_of_ble_eq_true rfl)⟩) hR hz hS hA (fun H locs hR hz hS => ?_)
        refine lv_iinc (v := v2 + (-1)) (lv' := [(2, .int (v2 + (-1))), (0, .ref v0), (1, .int v1)]) hx hb dX5_insert_55 hl (k := 2) rfl rfl (by decide) rfl (fun ls hl => ?_)
        refine lv_goto (tgt := 19) hx hb dX5_insert_58 (by decide) ?_
        exact ih _ _ _ _ _ _ _ hrun hR hz hS (lv_sub hl [1, 2, 0] rfl)
set_option maxRecDepth 100000 in
set_option maxHeartbeats 4000000 in
theorem c_X5_insert (l : Launch) (D : va_G) (ids : m_I3) (st : m_T) (z : Nat) {h : mH} {v0 : Nat} {v1 : Int32} {r : Int32} {hF : mH} (hrun : s_X5_insert h v0 v1 = some (r, hF)) : Met l yX5_insert (m_ws yX5_insert cX5_insert 3 (some .int)) rm_X5_insert (mPc D ids st [.ref v0, .int v1] h z) (mQi D ids (m_A h z) r hF z) rm_X5_insert.cells rm_X5_insert.slots (m_A h z) := by
  refine mr_of (cc := cX5_insert) (maxL := 3) (ret := some .int) (by decide) rfl (Nat.le_of_ble_eq_true rfl) ?_
  intro p e s m below meth c ls hx hb hr hml hown hts hlocks hin hR hE hz hl
  have hA : ∀ q, s.heap.size ≤ q → m_A h z q := fun q hq => Or.inr (by rw [← hz]; exact hq)
  have hS : va_S (m_A h z) s.heap s.heap [] := va_S.rf
  have hl : lv_has ls 3 [(0, .ref v0), (1, .int v1)] := hl
  unfold s_X5_insert at hrun
  refine lv_aload_n hx hb dX5_insert_0 rfl (lv_at hl 0 rfl) ?_
  obtain ⟨x1, hc9, hrun⟩ := m_bind hrun
  refine mr_get (C := RX5) (T := TX5) (N := 2) (ci := 3) hx hb hts (fun w q => m_ws_in (wi_X5 w q)) hown hR rfl 1 (by decide) (hts _ (m_ws_in wm_0_39)) (fun _ h9 => h9) (m_gi_spec hc9) dX5_insert_1 ?_
  refine lv_aload_n hx hb dX5_insert_4 rfl (lv_at hl 0 rfl) ?_
  obtain ⟨x5, hc9, hrun⟩ := m_bind hrun
  refine mr_get (C := RX5) (T := TX5) (N := 2) (ci := 3) hx hb hts (fun w q => m_ws_in (wi_X5 w q)) hown hR rfl 0 (by decide) (hts _ (m_ws_in wm_0_38)) (fun _ h9 => h9) (m_gr_spec hc9) dX5_insert_5 ?_
  obtain ⟨x8, hc9, hrun⟩ := m_bind hrun
  refine mr_ilen hx hb hR hc9 dX5_insert_8 ?_
  refine lv_icmp_lt (tgt := 14) hx hb dX5_insert_9 (by decide) (fun hc => ?_) (fun hc => ?_)
  · have hrun := mt_t hrun hc
    refine lv_aload_n hx hb dX5_insert_14 rfl (lv_at hl 0 rfl) ?_
    obtain ⟨x15, hc9, hrun⟩ := m_bind hrun
    refine mr_get (C := RX5) (T := TX5) (N := 2) (ci := 3) hx hb hts (fun w q => m_ws_in (wi_X5 w q)) hown hR rfl 1 (by decide) (hts _ (m_ws_in wm_0_39)) (fun _ h9 => h9) (m_gi_spec hc9) dX5_insert_15 ?_
    refine lv_istore_n (lv' := [(2, .int x15), (0, .ref v0), (1, .int v1)]) hx hb dX5_insert_18 rfl hl (by decide) rfl (fun ls hl => ?_)
    exact k_X5_insert_L19 hx hb hr hml hown hts hlocks hin hE hA _ _ _ _ _ _ _ _ hrun hR hz hS (lv_sub hl [1, 2, 0] rfl)
  · have hrun := mt_f hrun hc
    refine lv_iconst (v := (-1)) hx hb dX5_insert_12 (by decide) ?_
    cases hrun
    exact mr_iret hx hb hr hlocks hR hz hS dX5_insert_13
